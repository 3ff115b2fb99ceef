/-! ===== the class: what each call makes of what is seen (shape 0) ===== -/
section OX0
variable {Ls : Nat} {xs : Nat → Int32} (X1 X2 : List jm_c)
noncomputable def oQ0 (X1 X2 : List jm_c) (V : Int32 → Prop) (x : sg) (v : Option Value) (G : jm_h) : Prop := ∃ (r : Int32) (t : Nat) (F' : Nat → sy_d), v = some (.int r) ∧ V r ∧ t < 4 ∧ G = sy_dh F' X1 X2 (iv_H t) ∧ iv_in F' iv_B0 ∧ jx_ok F' ∧ sy_al F' 42 = wls ∧ ox F' = x
theorem ox0_mk {F : Nat → sy_d} {a c d : Int} {b e : Nat → Int} (h1 : (sy_i F 0).toInt = a) (h2 : ub (sy_ai F 2) a.toNat = b) (h3 : (sy_i F 1).toInt = c) (h4 : (sy_i F 79).toInt = d) (h5 : hl3 (sy_ai F 78) = e) : ox F = (a, b, c, d, e) := by
  subst h1; subst h2; subst h3; subst h4; subst h5
  rfl
noncomputable def fC0 (F0 F : Nat → sy_d) (t : Nat) (b : Nat → Int) : Prop := iv_in F iv_B0 ∧ (∀ j, j < 82 → j ∉ ([0, 2] : List Nat) → F j = F0 j) ∧ (sy_i F 0).toInt = t ∧ ub (sy_ai F 2) t = b
theorem fC0_eq {F0 F F1 : Nat → sy_d} {t : Nat} {b : Nat → Int} (h : fC0 F0 F t b) (g : ∀ j, j < 82 → F1 j = F j) : fC0 F0 F1 t b := ⟨hd_iveq0 h.1 g, fun j hj hn => (g j hj).trans (h.2.1 j hj hn), (nz_fi (g 0 (by decide))).trans h.2.2.1, by rw [nz_fa (g 2 (by decide))]; exact h.2.2.2⟩
theorem k0oap_T (F0 F : Nat → sy_d) {t : Nat} {b : Nat → Int} (h : fC0 F0 F t b) (ht : t ≤ 1996) (a : Int32) : jm_T Ls xs 1 jm_M116 [.ref 8, .int a] (sy_dh F X1 X2 (iv_H 0)) 0 0 (fun v G => ∃ F' : Nat → sy_d, v = none ∧ G = sy_dh F' X1 X2 (iv_H 0) ∧ fC0 F0 F' (t + 4) (apB b t a)) := by
  refine nyy_T (by decide) F (fun _ => .inl (.int a)) X1 X2 (A := [.inl (.ref 8), .inr (.inl 82)]) jm_ok116 (by decide) rfl ?_
  obtain ⟨F2, hF2⟩ : ∃ F2, F2 = ny F (fun _ => .inl (.int a)) := ⟨_, rfl⟩
  have i82 : sy_i F2 82 = a := by rw [hF2]; rfl
  have h2 : fC0 F0 F2 t b := fC0_eq h (fun j hj => by rw [hF2]; exact ny_lt j hj)
  rw [← hF2]
  obtain ⟨c1, c2, c3, c4⟩ := h2
  subst i82
  refine k0oap_0 (by decide) F2 X1 X2 c1 ?_ ?_ ?_ ?_ ?_
  iterate 4 (intros; omega)
  intro q1 q2 q3 q4 F1 hb g e0 a2
  refine ⟨F1, rfl, rfl, hb, fun j hj hn => (g j hj hn).trans (c2 j hj hn), by omega, ?_⟩
  rw [a2, ← c4]
  exact ap_ub (by omega) (by omega) (by omega) (by omega) rfl ((b8 _).trans (us24 _)) ((b8 _).trans (us16 _)) ((b8 _).trans (us8 _)) ((b8 _).trans (us0 _))
end OX0
