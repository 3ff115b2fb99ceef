/-! ===== the reference: what each call makes of what is seen ===== -/
noncomputable def nm (F d : Nat → sy_d) : Nat → sy_d := fun j => if j < 69 then F j else d (j - 69)
theorem nm_lt {F d : Nat → sy_d} : ∀ j, j < 69 → nm F d j = F j := fun j h => by
  unfold nm
  rw [if_pos h]
theorem nm_T {Ls : Nat} {xs : Nat → Int32} {d : Nat} {M : jm_M} {Q : Option Value → jm_h → Prop} (F dd : Nat → sy_d) (X1 X2 : List jm_c) {A : List sy_v} {vs : List Value} (hok : jm_ok jm_YN M) (hl : (sy_e1 A).length ≤ jm_mx M) (hA : A.map (sy_dv (nm F dd)) = vs)
    (h : hd_W Ls xs d M Q (0, sy_dL (nm F dd) (sy_ent (jm_mx M) A), [], sy_dh (nm F dd) X1 X2 (iv_H 4), 0, 0)) : jm_T Ls xs d M vs (sy_dh F X1 X2 (iv_H 4)) 0 0 Q := by
  rw [nz_eH X1 X2 (nm_lt (F := F) (d := dd)), ← hA]
  exact hd_T hok hl h
theorem om_mk {F : Nat → sy_d} {a c d : Int} {b e : Nat → Int} (h1 : (sy_i F 1).toInt = a) (h2 : ub (sy_ai F 23) a.toNat = b) (h3 : (sy_i F 10).toInt = c) (h4 : (sy_i F 21).toInt = d) (h5 : hl3 (sy_ai F 67) = e) : om F = (a, b, c, d, e) := by
  subst h1; subst h2; subst h3; subst h4; subst h5
  rfl
section OM
variable {Ls : Nat} {xs : Nat → Int32}
/-- five ints fed -/
noncomputable def fR (F0 F : Nat → sy_d) (t : Nat) (b : Nat → Int) : Prop := iv_in F iv_B4 ∧ (∀ j, j < 69 → j ∉ ([1, 23] : List Nat) → F j = F0 j) ∧ (sy_i F 1).toInt = t ∧ ub (sy_ai F 23) t = b
theorem fR_eq {F0 F F1 : Nat → sy_d} {t : Nat} {b : Nat → Int} (h : fR F0 F t b) (g : ∀ j, j < 69 → F1 j = F j) : fR F0 F1 t b := ⟨hd_iveq h.1 g, fun j hj hn => (g j hj).trans (h.2.1 j hj hn), (nz_fi (g 1 (by decide))).trans h.2.2.1, by rw [nz_fa (g 23 (by decide))]; exact h.2.2.2⟩
theorem rap_T (X1 X2 : List jm_c) (F0 F : Nat → sy_d) {t : Nat} {b : Nat → Int} (h : fR F0 F t b) (ht : t ≤ 1996) (a : Int32) : jm_T Ls xs 1 jm_M134 [.ref 1000, .int a] (sy_dh F X1 X2 (iv_H 4)) 0 0 (fun v G => ∃ F' : Nat → sy_d, v = none ∧ G = sy_dh F' X1 X2 (iv_H 4) ∧ fR F0 F' (t + 4) (apB b t a)) := by
  refine nz_T1 jm_ok134 (by decide) (fun F2 k0 i69 => ?_)
  have h2 := fR_eq h k0
  obtain ⟨c1, c2, c3, c4⟩ := h2
  subst i69
  refine rap_0 (by decide) F2 X1 X2 c1 ?_ ?_ ?_ ?_ ?_ ?_
  iterate 5 omega
  intro F1 hb g e1 a23
  refine ⟨F1, rfl, rfl, hb, fun j hj hn => (g j hj hn).trans (c2 j hj hn), by omega, ?_⟩
  rw [a23, ← c4]
  exact ap_ub (by omega) (by omega) (by omega) (by omega) rfl ((b8 _).trans (sr24 _)) ((b8 _).trans (sr16 _)) ((b8 _).trans (sr8 _)) ((b8 _).trans (sr0 _))
end OM
