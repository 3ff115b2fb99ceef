/-! ===== fruit, buyers, settings: what they tell ===== -/
noncomputable def jE (P : Nat → Int) (L : Nat) (w : sE) (nm : List Int64) (t : Nat) (F : Nat → sy_d) : Prop := tn F = t ∧ t ≤ L ∧ wr P w F ∧ nmr nm F
noncomputable def eR (tok : Nat) (F F' : Nat → sy_d) : Prop := gr W2 F F' ∧ nop F F' ∧ ((sy_i F' 6).toInt = 0 → (sy_i F' 13).toInt = (sy_i F 13).toInt + 1 ∧ (sy_i F 4).toInt + 1 ≤ (sy_i F' 4).toInt) ∧ ∀ (L : Nat) (w : sE) (nm : List Int64), pm (pf F) (kf F) L → tn F ≤ L → wr (pf F) w F → nmr nm F → an (pf F) (sM (kf F) 4 (tn F)) (jE (pf F) L w (nm ++ [nf F tok])) F F'
theorem jE_dst {P : Nat → Int} {L : Nat} {w : sE} {nm : List Int64} {t : Nat} {F F2 : Nat → sy_d} (h : jE P L w nm t F) (e : ∀ q, q < 69 → F2 q = F q) : jE P L w nm t F2 := by
  have i4 := nz_fi (e 4 (by decide))
  have e4 := tn_eq i4
  exact ⟨by rw [e4]; exact h.1, h.2.1, wr_eq h.2.2.1 (by rw [e4]; exact Nat.le_refl _) (nz_fi (e 8 (by decide))) (nz_fi (e 9 (by decide))), nmr_eq h.2.2.2 (e 30 (by decide)) (nz_fi (e 13 (by decide)))⟩
theorem eR_dst {tok : Nat} {F F' F2 : Nat → sy_d} (h : eR tok F F') (e : ∀ q, q < 69 → F2 q = F' q) : eR tok F F2 := by
  obtain ⟨h1, h2, h4, h3⟩ := h
  have i4 := nz_fi (e 4 (by decide))
  have i6 := nz_fi (e 6 (by decide))
  have i7 := nz_fi (e 7 (by decide))
  exact ⟨h1.dst e, nop_trans h2 (nop_same i6 i7), by rw [i6, i4, nz_fi (e 13 (by decide))]; exact h4, fun L w nm a b c d => an_mono (h3 L w nm a b c d) i6 i7 (fun q j => jE_dst j e)⟩
theorem eR_src {tok : Nat} {F F0 F' : Nat → sy_d} (h : eR tok F0 F') (e : ∀ q, q < 69 → F0 q = F q) : eR tok F F' := by
  obtain ⟨h1, h2, h4, h3⟩ := h
  have i4 := nz_fi (e 4 (by decide))
  have i6 := nz_fi (e 6 (by decide))
  rw [kf_eq (e 25 (by decide)), pf_eq (e 26 (by decide)), nf_eq (e 28 (by decide)), tn_eq i4] at h3
  rw [nz_fi (e 13 (by decide)), i4] at h4
  exact ⟨h1.src e, nop_src h2 i6 (nz_fi (e 7 (by decide))), h4, fun L w nm a b c d => an_src (h3 L w nm a b (wr_eq c (by rw [tn_eq i4]; exact Nat.le_refl _) (nz_fi (e 8 (by decide))) (nz_fi (e 9 (by decide)))) (nmr_eq d (e 30 (by decide)) (nz_fi (e 13 (by decide))))) i6⟩
section SE
variable {Ls : Nat} {xs : Nat → Int32} (F : Nat → sy_d) (X1 X2 : List jm_c)
theorem ed_0 (F0 : Nat → sy_d) (hB : iv_in F0 iv_B4) (h69 : 0 ≤ (sy_i F0 69).toInt ∧ (sy_i F0 69).toInt ≤ 400) (hn : (sy_i F0 13).toInt ≤ 10) : hd_W Ls xs 4 jm_M156 (fun v G => ∃ F' : Nat → sy_d, v = none ∧ G = sy_dh F' X1 X2 (iv_H 4) ∧ eR (sy_i F0 69).toInt.toNat F0 F') (0, sy_dL F0 (sy_ent (jm_mx jm_M156) [.inl (.ref 1000), .inr (.inl 69)]), [], sy_dh F0 X1 X2 (iv_H 4), 0, 0) := by
  have c4 := nz_bx hB (k := 4) (lo := 0) (hi := 400) rfl
  have c13 := nz_bx hB (k := 13) (lo := 0) (hi := 11) rfl
  have eK : kf F0 (tn F0) = ((sy_ai F0 25).getD (sy_i F0 4).toInt.toNat 0).toInt := rfl
  have eP : pf F0 (tn F0) = ((sy_ai F0 26).getD (sy_i F0 4).toInt.toNat 0).toInt := rfl
  have et : (tn F0 : Int) = (sy_i F0 4).toInt := by unfold tn; omega
  refine eny_0 (by decide) F0 X1 X2 hB h69 (by omega) (by omega) ?_ ?_ ?_ ?_
  all_goals
    intros
    rename_i F1 hb g e4 e6 e7 e8 e9 e13 a25 a26 a27 l30
    refine ⟨F1, rfl, rfl, gr_mk (W := W2) hb g (by decide) (by omega) (by omega), ?_, by omega, fun L w nm hm hL hw hd => ?_⟩
  all_goals first
    | exact nop_same e6 e7
    | exact fun z => absurd z (by omega)
    | exact an_no (by omega)
    | exact an_er (k := 1) (tok := tn F0) (sM_no (by omega)) e6 (by decide) (e7.trans eP.symm)
    | exact an_er (k := 2) (tok := tn F0) (sM_4 (by omega) (by omega)) e6 (by decide) (e7.trans eP.symm)
    | (have ts : tn F1 = tn F0 + 1 := tn_s c4.1 e4
       refine an_ok (a := tn F0 + 1) (sM_ok (by omega) (by omega)) (by omega) ⟨ts, pm_nx hm hL (by omega) (by omega), wr_eq hw (by omega) e8 e9, ?_⟩
       have hd : nm = ml F0 (sy_i F0 13).toInt.toNat := hd
       show _ = ml F1 (sy_i F1 13).toInt.toNat
       rw [hd, show (sy_i F1 13).toInt.toNat = (sy_i F0 13).toInt.toNat + 1 by omega]
       unfold ml
       rw [List.range_succ, List.map_append, l30]
       congr 1
       · refine List.map_congr_left (fun i hi => ?_)
         have := List.mem_range.mp hi
         rw [jm_updL_at, if_neg (by omega)]
       · dsimp only [List.map]
         rw [jm_updL_at, if_pos rfl]
         rfl)
theorem ed_T (hB : iv_in F iv_B4) (a : Int32) (h1 : 0 ≤ a.toInt) (h2 : a.toInt ≤ 400) (hn : (sy_i F 13).toInt ≤ 10) : jm_T Ls xs 4 jm_M156 [.ref 1000, .int a] (sy_dh F X1 X2 (iv_H 4)) 0 0 (fun v G => ∃ F' : Nat → sy_d, v = none ∧ G = sy_dh F' X1 X2 (iv_H 4) ∧ eR a.toInt.toNat F F') := by
  refine nz_T1 jm_ok156 (by decide) (fun F0 k0 h69 => hd_W_mono (ed_0 X1 X2 F0 (hd_iveq hB k0) (by rw [h69]; exact ⟨h1, h2⟩) (by rw [nz_fi (k0 13 (by decide))]; exact hn)) ?_)
  rintro v G ⟨F', rfl, rfl, hR⟩
  rw [h69] at hR
  exact ⟨F', rfl, rfl, eR_src hR k0⟩
end SE
/-- a run so far: what r tells -/
noncomputable def rn (W : List Nat) (F Fk : Nat → sy_d) (r : sE → List Int64 → sE ⊕ (Nat × sE)) : Prop := gr W F Fk ∧ nop F Fk ∧ ∀ (L : Nat) (w : sE) (nm : List Int64), pm (pf F) (kf F) L → tn F ≤ L → wr (pf F) w F → nmr nm F → an (pf F) (r w nm) (jq (pf F) L) F Fk
theorem rn_same {W C : List Nat} {F Fk F1 : Nat → sy_d} {r : sE → List Int64 → sE ⊕ (Nat × sE)} (h : rn W F Fk r) (hb : iv_in F1 iv_B4) (g : ∀ j, j < 69 → j ∉ C → F1 j = Fk j) (hC : ∀ x ∈ C, x ∈ W) (hn : ∀ q ∈ ([4, 6, 7, 8, 9] : List Nat), q ∉ C) : rn W F F1 r := by
  obtain ⟨h1, h2, h3⟩ := h
  have i4 := nz_fi (g 4 (by decide) (hn 4 (by decide)))
  have i6 := nz_fi (g 6 (by decide) (hn 6 (by decide)))
  have i7 := nz_fi (g 7 (by decide) (hn 7 (by decide)))
  exact ⟨h1.trans (gr_mk (W := W) hb g hC (by omega) (by omega)) (fun _ q => q), nop_trans h2 (nop_same i6 i7), fun L w nm a b c d => an_mono (h3 L w nm a b c d) i6 i7 (fun q j => jq_dst j i4 (nz_fi (g 8 (by decide) (hn 8 (by decide)))) (nz_fi (g 9 (by decide) (hn 9 (by decide)))))⟩
theorem rn_num {W : List Nat} {F Fk F1 : Nat → sy_d} {r : sE → List Int64 → sE ⊕ (Nat × sE)} {lo hi : Int} (h : rn W F Fk r) (hW : ∀ x ∈ W1, x ∈ W) (hk : ∀ q ∈ ([25, 26, 27] : List Nat), q ∉ W) (hb : bR lo hi Fk F1) : rn W F F1 (fun w nm => sB (r w nm) (sN (kf F) (vf F) lo hi)) := by
  obtain ⟨h1, h2, h3⟩ := h
  obtain ⟨b1, b2, b3⟩ := hb
  rw [kf_eq (h1.f 25 (by decide) (hk 25 (by decide))), pf_eq (h1.f 26 (by decide) (hk 26 (by decide))), vf_eq (h1.f 27 (by decide) (hk 27 (by decide)))] at b3
  exact ⟨h1.trans b1 hW, nop_trans h2 b2, fun L w nm a b c d => an_bind (h3 L w nm a b c d) b2 (fun _ q hq => by
    obtain ⟨q1, q2⟩ := q
    obtain ⟨e, l, hw⟩ := hq
    have e : tn Fk = q1 := e
    subst e
    exact b3 L q2 a l hw)⟩
noncomputable def tfy_R (F F' : Nat → sy_d) : Prop := gr tf_W F F' ∧ nop F F' ∧ ((sy_i F' 6).toInt = 0 → (sy_i F' 13).toInt = (sy_i F 13).toInt + 1 ∧ ((sy_ai F' 31).getD (sy_i F 12).toInt.toNat 0).toInt = ((sy_ai F 31).getD (sy_i F 12).toInt.toNat 0).toInt + 1) ∧ ∀ (L : Nat) (w : sE) (nm : List Int64), pm (pf F) (kf F) L → tn F ≤ L → wr (pf F) w F → nmr nm F → an (pf F) (sTell (kf F) (vf F) (nf F) (0, 9) (1, 9) (0, 99) (tn F, nm, w)) (fun q F' => jq (pf F) L q F' ∧ nmr (nm ++ [nf F (tn F)]) F') F F'
noncomputable def tfy_Q (F : Nat → sy_d) (X1 X2 : List jm_c) (v : Option Value) (G : jm_h) : Prop := ∃ F' : Nat → sy_d, v = none ∧ G = sy_dh F' X1 X2 (iv_H 4) ∧ tfy_R F F'
section tfY
variable {Ls : Nat} {xs : Nat → Int32} (F : Nat → sy_d) (X1 X2 : List jm_c)
end tfY
noncomputable def tby_R (F F' : Nat → sy_d) : Prop := gr tb_W F F' ∧ nop F F' ∧ ((sy_i F' 6).toInt = 0 → (sy_i F' 13).toInt = (sy_i F 13).toInt + 1 ∧ ((sy_ai F' 35).getD (sy_i F 12).toInt.toNat 0).toInt = ((sy_ai F 35).getD (sy_i F 12).toInt.toNat 0).toInt + 1) ∧ ∀ (L : Nat) (w : sE) (nm : List Int64), pm (pf F) (kf F) L → tn F ≤ L → wr (pf F) w F → nmr nm F → an (pf F) (sTell (kf F) (vf F) (nf F) (0, 9) (0, 3) (0, 999) (tn F, nm, w)) (fun q F' => jq (pf F) L q F' ∧ nmr (nm ++ [nf F (tn F)]) F') F F'
noncomputable def tby_Q (F : Nat → sy_d) (X1 X2 : List jm_c) (v : Option Value) (G : jm_h) : Prop := ∃ F' : Nat → sy_d, v = none ∧ G = sy_dh F' X1 X2 (iv_H 4) ∧ tby_R F F'
section tbY
variable {Ls : Nat} {xs : Nat → Int32} (F : Nat → sy_d) (X1 X2 : List jm_c)
end tbY
