/-! ===== fruit, buyers, settings: what they tell ===== -/
noncomputable def jE (P : Nat → Int) (L : Nat) (w : sE) (nm : List Int64) (t : Nat) (F : Nat → sy_d) : Prop := tn F = t ∧ t ≤ L ∧ wr P w F ∧ nmr nm F
noncomputable def eR (tok : Nat) (F F' : Nat → sy_d) : Prop := gr W2 F F' ∧ nop F F' ∧ ((sy_i F' 6).toInt = 0 → (sy_i F' 13).toInt = (sy_i F 13).toInt + 1 ∧ (sy_i F 4).toInt + 1 ≤ (sy_i F' 4).toInt) ∧ ∀ (L : Nat) (w : sE) (nm : List Int64), pm (pf F) (kf F) L → tn F ≤ L → wr (pf F) w F → nmr nm F → an (pf F) (sM (kf F) 4 (tn F)) (jE (pf F) L w (nm ++ [nf F tok])) F F'
theorem jE_dst {P : Nat → Int} {L : Nat} {w : sE} {nm : List Int64} {t : Nat} {F F2 : Nat → sy_d} (h : jE P L w nm t F) (e : ∀ q, q < 69 → F2 q = F q) : jE P L w nm t F2 := by
  have i4 := nz_fi (e 4 (by decide))
  have e4 := tn_eq i4
  exact ⟨by rw [e4]; exact h.1, h.2.1, wr_eq h.2.2.1 (by rw [e4]; exact Nat.le_refl _) (nz_fi (e 8 (by decide))) (nz_fi (e 9 (by decide))), nmr_eq h.2.2.2 (e 30 (by decide)) (nz_fi (e 13 (by decide)))⟩
theorem eR_dst {tok : Nat} {F F' F2 : Nat → sy_d} (h : eR tok F F') (e : ∀ q, q < 69 → F2 q = F' q) : eR tok F F2 := by
  obtain ⟨h1, h2, h4, h3⟩ := h
  have i4 := nz_fi (e 4 (by decide))
  have i6 := nz_fi (e 6 (by decide))
  have i7 := nz_fi (e 7 (by decide))
  exact ⟨h1.dst e, nop_trans h2 (nop_same i6 i7), by rw [i6, i4, nz_fi (e 13 (by decide))]; exact h4, fun L w nm a b c d => an_mono (h3 L w nm a b c d) i6 i7 (fun q j => jE_dst j e)⟩
theorem eR_src {tok : Nat} {F F0 F' : Nat → sy_d} (h : eR tok F0 F') (e : ∀ q, q < 69 → F0 q = F q) : eR tok F F' := by
  obtain ⟨h1, h2, h4, h3⟩ := h
  have i4 := nz_fi (e 4 (by decide))
  have i6 := nz_fi (e 6 (by decide))
  rw [kf_eq (e 25 (by decide)), pf_eq (e 26 (by decide)), nf_eq (e 28 (by decide)), tn_eq i4] at h3
  rw [nz_fi (e 13 (by decide)), i4] at h4
  exact ⟨h1.src e, nop_src h2 i6 (nz_fi (e 7 (by decide))), h4, fun L w nm a b c d => an_src (h3 L w nm a b (wr_eq c (by rw [tn_eq i4]; exact Nat.le_refl _) (nz_fi (e 8 (by decide))) (nz_fi (e 9 (by decide)))) (nmr_eq d (e 30 (by decide)) (nz_fi (e 13 (by decide))))) i6⟩
section SE
variable {Ls : Nat} {xs : Nat → Int32} (F : Nat → sy_d) (X1 X2 : List jm_c)
theorem ed_0 (F0 : Nat → sy_d) (hB : iv_in F0 iv_B4) (h69 : 0 ≤ (sy_i F0 69).toInt ∧ (sy_i F0 69).toInt ≤ 400) (hn : (sy_i F0 13).toInt ≤ 10) : hd_W Ls xs 4 jm_M156 (fun v G => ∃ F' : Nat → sy_d, v = none ∧ G = sy_dh F' X1 X2 (iv_H 4) ∧ eR (sy_i F0 69).toInt.toNat F0 F') (0, sy_dL F0 (sy_ent (jm_mx jm_M156) [.inl (.ref 1000), .inr (.inl 69)]), [], sy_dh F0 X1 X2 (iv_H 4), 0, 0) := by
  have c4 := nz_bx hB (k := 4) (lo := 0) (hi := 400) rfl
  have c13 := nz_bx hB (k := 13) (lo := 0) (hi := 11) rfl
  have eK : kf F0 (tn F0) = ((sy_ai F0 25).getD (sy_i F0 4).toInt.toNat 0).toInt := rfl
  have eP : pf F0 (tn F0) = ((sy_ai F0 26).getD (sy_i F0 4).toInt.toNat 0).toInt := rfl
  have et : (tn F0 : Int) = (sy_i F0 4).toInt := by unfold tn; omega
  refine eny_0 (by decide) F0 X1 X2 hB h69 (by omega) (by omega) ?_ ?_ ?_ ?_
  all_goals
    intros
    rename_i F1 hb g e4 e6 e7 e8 e9 e13 a25 a26 a27 l30
    refine ⟨F1, rfl, rfl, gr_mk (W := W2) hb g (by decide) (by omega) (by omega), ?_, by omega, fun L w nm hm hL hw hd => ?_⟩
  all_goals first
    | exact nop_same e6 e7
    | exact fun z => absurd z (by omega)
    | exact an_no (by omega)
    | exact an_er (k := 1) (tok := tn F0) (sM_no (by omega)) e6 (by decide) (e7.trans eP.symm)
    | exact an_er (k := 2) (tok := tn F0) (sM_4 (by omega) (by omega)) e6 (by decide) (e7.trans eP.symm)
    | (have ts : tn F1 = tn F0 + 1 := tn_s c4.1 e4
       refine an_ok (a := tn F0 + 1) (sM_ok (by omega) (by omega)) (by omega) ⟨ts, pm_nx hm hL (by omega) (by omega), wr_eq hw (by omega) e8 e9, ?_⟩
       have hd : nm = ml F0 (sy_i F0 13).toInt.toNat := hd
       show _ = ml F1 (sy_i F1 13).toInt.toNat
       rw [hd, show (sy_i F1 13).toInt.toNat = (sy_i F0 13).toInt.toNat + 1 by omega]
       unfold ml
       rw [List.range_succ, List.map_append, l30]
       congr 1
       · refine List.map_congr_left (fun i hi => ?_)
         have := List.mem_range.mp hi
         rw [jm_updL_at, if_neg (by omega)]
       · dsimp only [List.map]
         rw [jm_updL_at, if_pos rfl]
         rfl)
theorem ed_T (hB : iv_in F iv_B4) (a : Int32) (h1 : 0 ≤ a.toInt) (h2 : a.toInt ≤ 400) (hn : (sy_i F 13).toInt ≤ 10) : jm_T Ls xs 4 jm_M156 [.ref 1000, .int a] (sy_dh F X1 X2 (iv_H 4)) 0 0 (fun v G => ∃ F' : Nat → sy_d, v = none ∧ G = sy_dh F' X1 X2 (iv_H 4) ∧ eR a.toInt.toNat F F') := by
  refine nz_T1 jm_ok156 (by decide) (fun F0 k0 h69 => hd_W_mono (ed_0 X1 X2 F0 (hd_iveq hB k0) (by rw [h69]; exact ⟨h1, h2⟩) (by rw [nz_fi (k0 13 (by decide))]; exact hn)) ?_)
  rintro v G ⟨F', rfl, rfl, hR⟩
  rw [h69] at hR
  exact ⟨F', rfl, rfl, eR_src hR k0⟩
end SE
/-- a run so far: what r tells -/
noncomputable def rn (W : List Nat) (F Fk : Nat → sy_d) (r : sE → List Int64 → sE ⊕ (Nat × sE)) : Prop := gr W F Fk ∧ nop F Fk ∧ ∀ (L : Nat) (w : sE) (nm : List Int64), pm (pf F) (kf F) L → tn F ≤ L → wr (pf F) w F → nmr nm F → an (pf F) (r w nm) (jq (pf F) L) F Fk
theorem rn_same {W C : List Nat} {F Fk F1 : Nat → sy_d} {r : sE → List Int64 → sE ⊕ (Nat × sE)} (h : rn W F Fk r) (hb : iv_in F1 iv_B4) (g : ∀ j, j < 69 → j ∉ C → F1 j = Fk j) (hC : ∀ x ∈ C, x ∈ W) (hn : ∀ q ∈ ([4, 6, 7, 8, 9] : List Nat), q ∉ C) : rn W F F1 r := by
  obtain ⟨h1, h2, h3⟩ := h
  have i4 := nz_fi (g 4 (by decide) (hn 4 (by decide)))
  have i6 := nz_fi (g 6 (by decide) (hn 6 (by decide)))
  have i7 := nz_fi (g 7 (by decide) (hn 7 (by decide)))
  exact ⟨h1.trans (gr_mk (W := W) hb g hC (by omega) (by omega)) (fun _ q => q), nop_trans h2 (nop_same i6 i7), fun L w nm a b c d => an_mono (h3 L w nm a b c d) i6 i7 (fun q j => jq_dst j i4 (nz_fi (g 8 (by decide) (hn 8 (by decide)))) (nz_fi (g 9 (by decide) (hn 9 (by decide)))))⟩
theorem rn_num {W : List Nat} {F Fk F1 : Nat → sy_d} {r : sE → List Int64 → sE ⊕ (Nat × sE)} {lo hi : Int} (h : rn W F Fk r) (hW : ∀ x ∈ W1, x ∈ W) (hk : ∀ q ∈ ([25, 26, 27] : List Nat), q ∉ W) (hb : bR lo hi Fk F1) : rn W F F1 (fun w nm => sB (r w nm) (sN (kf F) (vf F) lo hi)) := by
  obtain ⟨h1, h2, h3⟩ := h
  obtain ⟨b1, b2, b3⟩ := hb
  rw [kf_eq (h1.f 25 (by decide) (hk 25 (by decide))), pf_eq (h1.f 26 (by decide) (hk 26 (by decide))), vf_eq (h1.f 27 (by decide) (hk 27 (by decide)))] at b3
  exact ⟨h1.trans b1 hW, nop_trans h2 b2, fun L w nm a b c d => an_bind (h3 L w nm a b c d) b2 (fun _ q hq => by
    obtain ⟨q1, q2⟩ := q
    obtain ⟨e, l, hw⟩ := hq
    have e : tn Fk = q1 := e
    subst e
    exact b3 L q2 a l hw)⟩
noncomputable def tfy_R (F F' : Nat → sy_d) : Prop := gr tf_W F F' ∧ nop F F' ∧ ((sy_i F' 6).toInt = 0 → (sy_i F' 13).toInt = (sy_i F 13).toInt + 1 ∧ ((sy_ai F' 31).getD (sy_i F 12).toInt.toNat 0).toInt = ((sy_ai F 31).getD (sy_i F 12).toInt.toNat 0).toInt + 1) ∧ ∀ (L : Nat) (w : sE) (nm : List Int64), pm (pf F) (kf F) L → tn F ≤ L → wr (pf F) w F → nmr nm F → an (pf F) (sTell (kf F) (vf F) (nf F) (0, 9) (1, 9) (0, 99) (tn F, nm, w)) (fun q F' => jq (pf F) L q F' ∧ nmr (nm ++ [nf F (tn F)]) F') F F'
noncomputable def tfy_Q (F : Nat → sy_d) (X1 X2 : List jm_c) (v : Option Value) (G : jm_h) : Prop := ∃ F' : Nat → sy_d, v = none ∧ G = sy_dh F' X1 X2 (iv_H 4) ∧ tfy_R F F'
section tfY
variable {Ls : Nat} {xs : Nat → Int32} (F : Nat → sy_d) (X1 X2 : List jm_c)
theorem tfy_e (hB : iv_in F iv_B4) (hf : ((sy_ai F 31).getD (sy_i F 12).toInt.toNat 0).toInt ≤ 6) (hn : (sy_i F 13).toInt ≤ 10) (F1 : Nat → sy_d) (hG : rn tf_I F F1 (fun w nm => sB ((fun w nm => sB ((fun w nm => sB ((fun w nm => sNm (kf F) (nf F) (tn F, nm, w)) w nm) (sN (kf F) (vf F) 0 9)) w nm) (sN (kf F) (vf F) 1 9)) w nm) (sN (kf F) (vf F) 0 99))) (h69 : (sy_i F1 69).toInt = (sy_i F 4).toInt) :
    hd_W Ls xs 5 jm_M158 (tfy_Q F X1 X2) (64, sy_dL F1 [some (.inl (.ref 1000)), none, none], sy_dS F1 [.inr (.inl 69), .inl (.ref 1000)], sy_dh F1 X1 X2 (iv_H 4), 0, 0) := by
  obtain ⟨g1, g2, g3⟩ := hG
  have c4 := nz_bx hB (k := 4) (lo := 0) (hi := 400) rfl
  have i12 := g1.i (k := 12) (by decide) (by decide)
  have i13 := g1.i (k := 13) (by decide) (by decide)
  have a31 := g1.a (k := 31) (by decide) (by decide)
  refine hd_calV (R := eR (sy_i F1 69).toInt.toNat F1) (nh := 69) (nv := 70) (s := 4) (s1 := 4) (d1 := 4) (M1 := jm_M156) (As := [.inl (.ref 1000), .inr (.inl 69)]) (rest := []) jm_ok158 rfl rfl (by decide) (by decide +kernel) (ed_T F1 X1 X2 g1.b _ (by omega) (by omega) (by omega)) (fun F3 F' hR p1 _ => ?_)
  have hR3 := eR_dst hR p1
  obtain ⟨h3, r2, x, r4⟩ := id hR3
  rw [kf_eq (g1.f 25 (by decide) (by decide)), pf_eq (g1.f 26 (by decide) (by decide)), nf_eq (g1.f 28 (by decide) (by decide)), show (sy_i F1 69).toInt.toNat = tn F by unfold tn; rw [h69]] at r4
  have k12 := h3.i (k := 12) (by decide) (by decide)
  have k31 := h3.a (k := 31) (by decide) (by decide)
  have b31 := nz_ba h3.b (k := 31) (lo := 0) (hi := 7) rfl (sy_i F3 12).toInt.toNat
  have h4 : gr tf_W F F3 := (g1.mono (by decide)).trans h3 (by decide)
  have e31 : ((sy_ai F3 31).getD (sy_i F3 12).toInt.toNat 0).toInt = ((sy_ai F 31).getD (sy_i F 12).toInt.toNat 0).toInt := by rw [k31, a31, k12, i12]
  have fin : ∀ F4 : Nat → sy_d, (∀ q, q < 69 → q ≠ 31 → F4 q = F3 q) → nop F F4 ∧ ∀ (L : Nat) (w : sE) (nm : List Int64), pm (pf F) (kf F) L → tn F ≤ L → wr (pf F) w F → nmr nm F → an (pf F) (sTell (kf F) (vf F) (nf F) (0, 9) (1, 9) (0, 99) (tn F, nm, w)) (fun q F' => jq (pf F) L q F' ∧ nmr (nm ++ [nf F (tn F)]) F') F F4 := by
    intro F4 e
    have i4 := nz_fi (e 4 (by decide) (by decide))
    have i6 := nz_fi (e 6 (by decide) (by decide))
    have i7 := nz_fi (e 7 (by decide) (by decide))
    refine ⟨nop_trans (nop_trans g2 r2) (nop_same i6 i7), fun L w nm a b c d => ?_⟩
    have eT : sTell (kf F) (vf F) (nf F) (0, 9) (1, 9) (0, 99) (tn F, nm, w) = sB ((fun w nm => sB ((fun w nm => sB ((fun w nm => sB ((fun w nm => sNm (kf F) (nf F) (tn F, nm, w)) w nm) (sN (kf F) (vf F) 0 9)) w nm) (sN (kf F) (vf F) 1 9)) w nm) (sN (kf F) (vf F) 0 99)) w nm) (fun q => sB (sM (kf F) 4 q.1) fun t => .inr (t, q.2)) := by
      show _ = sB (sB (sB (sB _ _) _) _) _
      rw [sB_a, sB_a, sB_a]
      rfl
    rw [eT]
    refine an_bind (g3 L w nm a b c d) (nop_trans r2 (nop_same i6 i7)) (fun _ q hq => ?_)
    obtain ⟨q1, q2⟩ := q
    obtain ⟨e1, l, hw⟩ := hq
    have e1 : tn F1 = q1 := e1
    subst e1
    have hd : nmr nm F1 := nmr_eq d (g1.f 30 (by decide) (by decide)) i13
    refine an_bind (an_mono (r4 L q2 nm a l hw hd) i6 i7 (J' := jE (pf F) L q2 (nm ++ [nf F (tn F)])) (fun t j => ?_)) (nop_same rfl rfl) (fun h6 t j => ?_)
    · obtain ⟨j1, j2, j3, j4⟩ := j
      exact ⟨by rw [tn_eq i4]; exact j1, j2, wr_eq j3 (by rw [tn_eq i4]; exact Nat.le_refl _) (nz_fi (e 8 (by decide) (by decide))) (nz_fi (e 9 (by decide) (by decide))), nmr_eq j4 (e 30 (by decide) (by decide)) (nz_fi (e 13 (by decide) (by decide)))⟩
    · exact an_ok rfl h6 ⟨⟨j.1, j.2.1, j.2.2.1⟩, j.2.2.2⟩
  refine tfy_67 (by decide) F3 X1 X2 h3.b (by omega) ?_ ?_
  · intro q F4 hb g e4 e6 e7 e8 e9 e12 e13 a25 a26 e31'
    obtain ⟨f1, f2⟩ := fin F4 (fun q hq _ => g q hq (by simp))
    exact ⟨F4, rfl, rfl, h4.trans (gr_mk (W := tf_W) hb g (by decide) (by omega) (by omega)) (by decide), f1, fun z => absurd z (by omega), f2⟩
  · intro q F4 hb g e4 e6 e7 e8 e9 e12 e13 a25 a26 e31'
    obtain ⟨f1, f2⟩ := fin F4 (fun q hq hne => g q hq (by simp only [List.mem_cons, List.not_mem_nil, or_false]; exact hne))
    refine ⟨F4, rfl, rfl, h4.trans (gr_mk (W := tf_W) hb g (by decide) (by omega) (by omega)) (by decide), f1, fun z => ⟨by have := x q; omega, ?_⟩, f2⟩
    have k12' : (sy_i F3 12).toInt = (sy_i F 12).toInt := k12.trans i12
    rw [e31', jm_upd_at, if_pos (by rw [k12']), nz_add (rfl : ((sy_ai F3 31).getD (sy_i F3 12).toInt.toNat 0).toInt = _) (by decide : ((1 : Int32)).toInt = 1) (by omega) (by omega), e31]
theorem tfy_b2 (hB : iv_in F iv_B4) (hf : ((sy_ai F 31).getD (sy_i F 12).toInt.toNat 0).toInt ≤ 6) (hn : (sy_i F 13).toInt ≤ 10) (F1 : Nat → sy_d) (hG : rn tf_I F F1 (fun w nm => sB ((fun w nm => sB ((fun w nm => sNm (kf F) (nf F) (tn F, nm, w)) w nm) (sN (kf F) (vf F) 0 9)) w nm) (sN (kf F) (vf F) 1 9))) (ha : 0 ≤ (sy_i F1 69).toInt ∧ (sy_i F1 69).toInt ≤ 13) (h70 : (sy_i F1 70).toInt = (sy_i F 4).toInt) :
    hd_W Ls xs 5 jm_M158 (tfy_Q F X1 X2) (58, sy_dL F1 [some (.inl (.ref 1000)), some (.inr (.inl 69)), some (.inr (.inl 70))], sy_dS F1 [.inl (.int 99), .inl (.int 0), .inl (.ref 1000), .inr (.inl 69), .inl (.ref 1012)], sy_dh F1 X1 X2 (iv_H 4), 0, 0) := by
  refine hd_calI (R := fun _ F' => bR ((0 : Int32)).toInt ((99 : Int32)).toInt F1 F') (nh := 69) (nv := 71) (s := 4) (s1 := 4) (d1 := 3) (M1 := jm_M157) (As := [.inl (.ref 1000), .inl (.int 0), .inl (.int 99)]) (rest := [.inr (.inl 69), .inl (.ref 1012)]) jm_ok158 rfl rfl (by decide) (by decide +kernel) (by_T F1 X1 X2 hG.1.b _ _) (fun F3 F' x hR p1 p2 _ => ?_)
  have hR : bR 0 99 F1 F' := hR
  have h3 := rn_num hG (by decide) (by decide) (bR_dst hR p1)
  have j69 := nz_fi (p2 69 (by decide) (by decide))
  have j70 := nz_fi (p2 70 (by decide) (by decide))
  refine tfy_61 (by decide) F3 X1 X2 h3.1.b (by omega) ?_
  intro F4 hb g e4 e6 e7 e8 e9 e12 e13 a25 a26 e31 e69
  exact tfy_e F X1 X2 hB hf hn F4 (rn_same h3 hb g (by decide) (by decide)) (by omega)
theorem tfy_b1 (hB : iv_in F iv_B4) (hf : ((sy_ai F 31).getD (sy_i F 12).toInt.toNat 0).toInt ≤ 6) (hn : (sy_i F 13).toInt ≤ 10) (F1 : Nat → sy_d) (hG : rn tf_I F F1 (fun w nm => sB ((fun w nm => sNm (kf F) (nf F) (tn F, nm, w)) w nm) (sN (kf F) (vf F) 0 9))) (ha : 0 ≤ (sy_i F1 69).toInt ∧ (sy_i F1 69).toInt ≤ 13) (h70 : (sy_i F1 70).toInt = (sy_i F 4).toInt) :
    hd_W Ls xs 5 jm_M158 (tfy_Q F X1 X2) (45, sy_dL F1 [some (.inl (.ref 1000)), some (.inr (.inl 69)), some (.inr (.inl 70))], sy_dS F1 [.inl (.int 9), .inl (.int 1), .inl (.ref 1000), .inr (.inl 69), .inl (.ref 1011)], sy_dh F1 X1 X2 (iv_H 4), 0, 0) := by
  refine hd_calI (R := fun _ F' => bR ((1 : Int32)).toInt ((9 : Int32)).toInt F1 F') (nh := 69) (nv := 71) (s := 4) (s1 := 4) (d1 := 3) (M1 := jm_M157) (As := [.inl (.ref 1000), .inl (.int 1), .inl (.int 9)]) (rest := [.inr (.inl 69), .inl (.ref 1011)]) jm_ok158 rfl rfl (by decide) (by decide +kernel) (by_T F1 X1 X2 hG.1.b _ _) (fun F3 F' x hR p1 p2 _ => ?_)
  have hR : bR 1 9 F1 F' := hR
  have h3 := rn_num hG (by decide) (by decide) (bR_dst hR p1)
  have j69 := nz_fi (p2 69 (by decide) (by decide))
  have j70 := nz_fi (p2 70 (by decide) (by decide))
  refine tfy_48 (by decide) F3 X1 X2 h3.1.b (by omega) ?_
  intro F4 hb g e4 e6 e7 e8 e9 e12 e13 a25 a26 e31 e69 e70
  exact tfy_b2 F X1 X2 hB hf hn F4 (rn_same h3 hb g (by decide) (by decide)) (by omega) (by omega)
theorem tfy_b0 (hB : iv_in F iv_B4) (hf : ((sy_ai F 31).getD (sy_i F 12).toInt.toNat 0).toInt ≤ 6) (hn : (sy_i F 13).toInt ≤ 10) (F1 : Nat → sy_d) (hG : rn tf_I F F1 (fun w nm => sNm (kf F) (nf F) (tn F, nm, w))) (ha : 0 ≤ (sy_i F1 69).toInt ∧ (sy_i F1 69).toInt ≤ 13) (h70 : (sy_i F1 70).toInt = (sy_i F 4).toInt) :
    hd_W Ls xs 5 jm_M158 (tfy_Q F X1 X2) (32, sy_dL F1 [some (.inl (.ref 1000)), some (.inr (.inl 69)), some (.inr (.inl 70))], sy_dS F1 [.inl (.int 9), .inl (.int 0), .inl (.ref 1000), .inr (.inl 69), .inl (.ref 1010)], sy_dh F1 X1 X2 (iv_H 4), 0, 0) := by
  refine hd_calI (R := fun _ F' => bR ((0 : Int32)).toInt ((9 : Int32)).toInt F1 F') (nh := 69) (nv := 71) (s := 4) (s1 := 4) (d1 := 3) (M1 := jm_M157) (As := [.inl (.ref 1000), .inl (.int 0), .inl (.int 9)]) (rest := [.inr (.inl 69), .inl (.ref 1010)]) jm_ok158 rfl rfl (by decide) (by decide +kernel) (by_T F1 X1 X2 hG.1.b _ _) (fun F3 F' x hR p1 p2 _ => ?_)
  have hR : bR 0 9 F1 F' := hR
  have h3 := rn_num hG (by decide) (by decide) (bR_dst hR p1)
  have j69 := nz_fi (p2 69 (by decide) (by decide))
  have j70 := nz_fi (p2 70 (by decide) (by decide))
  refine tfy_35 (by decide) F3 X1 X2 h3.1.b (by omega) ?_
  intro F4 hb g e4 e6 e7 e8 e9 e12 e13 a25 a26 e31 e69 e70
  exact tfy_b1 F X1 X2 hB hf hn F4 (rn_same h3 hb g (by decide) (by decide)) (by omega) (by omega)
theorem tfy_T (hB : iv_in F iv_B4) (hf : ((sy_ai F 31).getD (sy_i F 12).toInt.toNat 0).toInt ≤ 6) (hn : (sy_i F 13).toInt ≤ 10) : jm_T Ls xs 5 jm_M158 [.ref 1000] (sy_dh F X1 X2 (iv_H 4)) 0 0 (tfy_Q F X1 X2) := by
  have c4 := nz_bx hB (k := 4) (lo := 0) (hi := 400) rfl
  have c12 := nz_bx hB (k := 12) (lo := 0) (hi := 1) rfl
  have b31 := nz_ba hB (k := 31) (lo := 0) (hi := 7) rfl (sy_i F 12).toInt.toNat
  refine nz_T0 jm_ok158 (by decide) (tfy_0 (by decide) F X1 X2 hB ?_)
  intro F1 hb g e4 e6 e7 e8 e9 e12 e13 a25 a26 e31 e69
  have g0 : ∀ q, q < 69 → F1 q = F q := fun q hq => g q hq (by simp)
  refine hd_calI (R := fun (x : Int32) F' => nR x F1 F') (nh := 69) (nv := 70) (s := 4) (s1 := 4) (d1 := 4) (M1 := jm_M155) (As := [.inl (.ref 1000)]) (rest := []) jm_ok158 rfl rfl (by decide) (by decide +kernel) (ny_T F1 X1 X2 hb) (fun F3 F' x hR p1 p2 p3 => ?_)
  obtain ⟨r1, r2, r4, r3⟩ := nR_dst hR p1
  rw [kf_eq (g0 25 (by decide)), pf_eq (g0 26 (by decide)), nf_eq (g0 28 (by decide)), tn_eq e4] at r3
  have h3 : rn tf_I F F3 (fun w nm => sNm (kf F) (nf F) (tn F, nm, w)) := ⟨(r1.mono (by decide)).src g0, nop_src r2 e6 e7, fun L w nm a b c d => an_src (r3 L w nm a b (wr_eq c (by rw [tn_eq e4]; exact Nat.le_refl _) e8 e9) (nmr_eq d (g0 30 (by decide)) e13)) e6⟩
  have j69 := nz_fi (p2 69 (by decide) (by decide))
  have j70 := zz_i p3
  rw [← j70] at r4
  refine tfy_22 (by decide) F3 X1 X2 h3.1.b ?_
  intro F4 hb4 g4 e4' e6' e7' e8' e9' e12' e13' a25' a26' e31' e69' e70'
  exact tfy_b0 F X1 X2 hB hf hn F4 (rn_same h3 hb4 g4 (by decide) (by decide)) (by omega) (by omega)
end tfY
noncomputable def tby_R (F F' : Nat → sy_d) : Prop := gr tb_W F F' ∧ nop F F' ∧ ((sy_i F' 6).toInt = 0 → (sy_i F' 13).toInt = (sy_i F 13).toInt + 1 ∧ ((sy_ai F' 35).getD (sy_i F 12).toInt.toNat 0).toInt = ((sy_ai F 35).getD (sy_i F 12).toInt.toNat 0).toInt + 1) ∧ ∀ (L : Nat) (w : sE) (nm : List Int64), pm (pf F) (kf F) L → tn F ≤ L → wr (pf F) w F → nmr nm F → an (pf F) (sTell (kf F) (vf F) (nf F) (0, 9) (0, 3) (0, 999) (tn F, nm, w)) (fun q F' => jq (pf F) L q F' ∧ nmr (nm ++ [nf F (tn F)]) F') F F'
noncomputable def tby_Q (F : Nat → sy_d) (X1 X2 : List jm_c) (v : Option Value) (G : jm_h) : Prop := ∃ F' : Nat → sy_d, v = none ∧ G = sy_dh F' X1 X2 (iv_H 4) ∧ tby_R F F'
section tbY
variable {Ls : Nat} {xs : Nat → Int32} (F : Nat → sy_d) (X1 X2 : List jm_c)
theorem tby_e (hB : iv_in F iv_B4) (hf : ((sy_ai F 35).getD (sy_i F 12).toInt.toNat 0).toInt ≤ 3) (hn : (sy_i F 13).toInt ≤ 10) (F1 : Nat → sy_d) (hG : rn tb_I F F1 (fun w nm => sB ((fun w nm => sB ((fun w nm => sB ((fun w nm => sNm (kf F) (nf F) (tn F, nm, w)) w nm) (sN (kf F) (vf F) 0 9)) w nm) (sN (kf F) (vf F) 0 3)) w nm) (sN (kf F) (vf F) 0 999))) (h69 : (sy_i F1 69).toInt = (sy_i F 4).toInt) :
    hd_W Ls xs 5 jm_M159 (tby_Q F X1 X2) (63, sy_dL F1 [some (.inl (.ref 1000)), none, none], sy_dS F1 [.inr (.inl 69), .inl (.ref 1000)], sy_dh F1 X1 X2 (iv_H 4), 0, 0) := by
  obtain ⟨g1, g2, g3⟩ := hG
  have c4 := nz_bx hB (k := 4) (lo := 0) (hi := 400) rfl
  have i12 := g1.i (k := 12) (by decide) (by decide)
  have i13 := g1.i (k := 13) (by decide) (by decide)
  have a31 := g1.a (k := 35) (by decide) (by decide)
  refine hd_calV (R := eR (sy_i F1 69).toInt.toNat F1) (nh := 69) (nv := 70) (s := 4) (s1 := 4) (d1 := 4) (M1 := jm_M156) (As := [.inl (.ref 1000), .inr (.inl 69)]) (rest := []) jm_ok159 rfl rfl (by decide) (by decide +kernel) (ed_T F1 X1 X2 g1.b _ (by omega) (by omega) (by omega)) (fun F3 F' hR p1 _ => ?_)
  have hR3 := eR_dst hR p1
  obtain ⟨h3, r2, x, r4⟩ := id hR3
  rw [kf_eq (g1.f 25 (by decide) (by decide)), pf_eq (g1.f 26 (by decide) (by decide)), nf_eq (g1.f 28 (by decide) (by decide)), show (sy_i F1 69).toInt.toNat = tn F by unfold tn; rw [h69]] at r4
  have k12 := h3.i (k := 12) (by decide) (by decide)
  have k31 := h3.a (k := 35) (by decide) (by decide)
  have b31 := nz_ba h3.b (k := 35) (lo := 0) (hi := 4) rfl (sy_i F3 12).toInt.toNat
  have h4 : gr tb_W F F3 := (g1.mono (by decide)).trans h3 (by decide)
  have e31 : ((sy_ai F3 35).getD (sy_i F3 12).toInt.toNat 0).toInt = ((sy_ai F 35).getD (sy_i F 12).toInt.toNat 0).toInt := by rw [k31, a31, k12, i12]
  have fin : ∀ F4 : Nat → sy_d, (∀ q, q < 69 → q ≠ 35 → F4 q = F3 q) → nop F F4 ∧ ∀ (L : Nat) (w : sE) (nm : List Int64), pm (pf F) (kf F) L → tn F ≤ L → wr (pf F) w F → nmr nm F → an (pf F) (sTell (kf F) (vf F) (nf F) (0, 9) (0, 3) (0, 999) (tn F, nm, w)) (fun q F' => jq (pf F) L q F' ∧ nmr (nm ++ [nf F (tn F)]) F') F F4 := by
    intro F4 e
    have i4 := nz_fi (e 4 (by decide) (by decide))
    have i6 := nz_fi (e 6 (by decide) (by decide))
    have i7 := nz_fi (e 7 (by decide) (by decide))
    refine ⟨nop_trans (nop_trans g2 r2) (nop_same i6 i7), fun L w nm a b c d => ?_⟩
    have eT : sTell (kf F) (vf F) (nf F) (0, 9) (0, 3) (0, 999) (tn F, nm, w) = sB ((fun w nm => sB ((fun w nm => sB ((fun w nm => sB ((fun w nm => sNm (kf F) (nf F) (tn F, nm, w)) w nm) (sN (kf F) (vf F) 0 9)) w nm) (sN (kf F) (vf F) 0 3)) w nm) (sN (kf F) (vf F) 0 999)) w nm) (fun q => sB (sM (kf F) 4 q.1) fun t => .inr (t, q.2)) := by
      show _ = sB (sB (sB (sB _ _) _) _) _
      rw [sB_a, sB_a, sB_a]
      rfl
    rw [eT]
    refine an_bind (g3 L w nm a b c d) (nop_trans r2 (nop_same i6 i7)) (fun _ q hq => ?_)
    obtain ⟨q1, q2⟩ := q
    obtain ⟨e1, l, hw⟩ := hq
    have e1 : tn F1 = q1 := e1
    subst e1
    have hd : nmr nm F1 := nmr_eq d (g1.f 30 (by decide) (by decide)) i13
    refine an_bind (an_mono (r4 L q2 nm a l hw hd) i6 i7 (J' := jE (pf F) L q2 (nm ++ [nf F (tn F)])) (fun t j => ?_)) (nop_same rfl rfl) (fun h6 t j => ?_)
    · obtain ⟨j1, j2, j3, j4⟩ := j
      exact ⟨by rw [tn_eq i4]; exact j1, j2, wr_eq j3 (by rw [tn_eq i4]; exact Nat.le_refl _) (nz_fi (e 8 (by decide) (by decide))) (nz_fi (e 9 (by decide) (by decide))), nmr_eq j4 (e 30 (by decide) (by decide)) (nz_fi (e 13 (by decide) (by decide)))⟩
    · exact an_ok rfl h6 ⟨⟨j.1, j.2.1, j.2.2.1⟩, j.2.2.2⟩
  refine tby_66 (by decide) F3 X1 X2 h3.b (by omega) ?_ ?_
  · intro q F4 hb g e4 e6 e7 e8 e9 e12 e13 a25 a26 e31'
    obtain ⟨f1, f2⟩ := fin F4 (fun q hq _ => g q hq (by simp))
    exact ⟨F4, rfl, rfl, h4.trans (gr_mk (W := tb_W) hb g (by decide) (by omega) (by omega)) (by decide), f1, fun z => absurd z (by omega), f2⟩
  · intro q F4 hb g e4 e6 e7 e8 e9 e12 e13 a25 a26 e31'
    obtain ⟨f1, f2⟩ := fin F4 (fun q hq hne => g q hq (by simp only [List.mem_cons, List.not_mem_nil, or_false]; exact hne))
    refine ⟨F4, rfl, rfl, h4.trans (gr_mk (W := tb_W) hb g (by decide) (by omega) (by omega)) (by decide), f1, fun z => ⟨by have := x q; omega, ?_⟩, f2⟩
    have k12' : (sy_i F3 12).toInt = (sy_i F 12).toInt := k12.trans i12
    rw [e31', jm_upd_at, if_pos (by rw [k12']), nz_add (rfl : ((sy_ai F3 35).getD (sy_i F3 12).toInt.toNat 0).toInt = _) (by decide : ((1 : Int32)).toInt = 1) (by omega) (by omega), e31]
theorem tby_b2 (hB : iv_in F iv_B4) (hf : ((sy_ai F 35).getD (sy_i F 12).toInt.toNat 0).toInt ≤ 3) (hn : (sy_i F 13).toInt ≤ 10) (F1 : Nat → sy_d) (hG : rn tb_I F F1 (fun w nm => sB ((fun w nm => sB ((fun w nm => sNm (kf F) (nf F) (tn F, nm, w)) w nm) (sN (kf F) (vf F) 0 9)) w nm) (sN (kf F) (vf F) 0 3))) (ha : 0 ≤ (sy_i F1 69).toInt ∧ (sy_i F1 69).toInt ≤ 7) (h70 : (sy_i F1 70).toInt = (sy_i F 4).toInt) :
    hd_W Ls xs 5 jm_M159 (tby_Q F X1 X2) (57, sy_dL F1 [some (.inl (.ref 1000)), some (.inr (.inl 69)), some (.inr (.inl 70))], sy_dS F1 [.inl (.int 999), .inl (.int 0), .inl (.ref 1000), .inr (.inl 69), .inl (.ref 1016)], sy_dh F1 X1 X2 (iv_H 4), 0, 0) := by
  refine hd_calI (R := fun _ F' => bR ((0 : Int32)).toInt ((999 : Int32)).toInt F1 F') (nh := 69) (nv := 71) (s := 4) (s1 := 4) (d1 := 3) (M1 := jm_M157) (As := [.inl (.ref 1000), .inl (.int 0), .inl (.int 999)]) (rest := [.inr (.inl 69), .inl (.ref 1016)]) jm_ok159 rfl rfl (by decide) (by decide +kernel) (by_T F1 X1 X2 hG.1.b _ _) (fun F3 F' x hR p1 p2 _ => ?_)
  have hR : bR 0 999 F1 F' := hR
  have h3 := rn_num hG (by decide) (by decide) (bR_dst hR p1)
  have j69 := nz_fi (p2 69 (by decide) (by decide))
  have j70 := nz_fi (p2 70 (by decide) (by decide))
  refine tby_60 (by decide) F3 X1 X2 h3.1.b (by omega) ?_
  intro F4 hb g e4 e6 e7 e8 e9 e12 e13 a25 a26 e31 e69
  exact tby_e F X1 X2 hB hf hn F4 (rn_same h3 hb g (by decide) (by decide)) (by omega)
theorem tby_b1 (hB : iv_in F iv_B4) (hf : ((sy_ai F 35).getD (sy_i F 12).toInt.toNat 0).toInt ≤ 3) (hn : (sy_i F 13).toInt ≤ 10) (F1 : Nat → sy_d) (hG : rn tb_I F F1 (fun w nm => sB ((fun w nm => sNm (kf F) (nf F) (tn F, nm, w)) w nm) (sN (kf F) (vf F) 0 9))) (ha : 0 ≤ (sy_i F1 69).toInt ∧ (sy_i F1 69).toInt ≤ 7) (h70 : (sy_i F1 70).toInt = (sy_i F 4).toInt) :
    hd_W Ls xs 5 jm_M159 (tby_Q F X1 X2) (43, sy_dL F1 [some (.inl (.ref 1000)), some (.inr (.inl 69)), some (.inr (.inl 70))], sy_dS F1 [.inl (.int 3), .inl (.int 0), .inl (.ref 1000), .inr (.inl 69), .inl (.ref 1015)], sy_dh F1 X1 X2 (iv_H 4), 0, 0) := by
  refine hd_calI (R := fun _ F' => bR ((0 : Int32)).toInt ((3 : Int32)).toInt F1 F') (nh := 69) (nv := 71) (s := 4) (s1 := 4) (d1 := 3) (M1 := jm_M157) (As := [.inl (.ref 1000), .inl (.int 0), .inl (.int 3)]) (rest := [.inr (.inl 69), .inl (.ref 1015)]) jm_ok159 rfl rfl (by decide) (by decide +kernel) (by_T F1 X1 X2 hG.1.b _ _) (fun F3 F' x hR p1 p2 _ => ?_)
  have hR : bR 0 3 F1 F' := hR
  have h3 := rn_num hG (by decide) (by decide) (bR_dst hR p1)
  have j69 := nz_fi (p2 69 (by decide) (by decide))
  have j70 := nz_fi (p2 70 (by decide) (by decide))
  refine tby_46 (by decide) F3 X1 X2 h3.1.b (by omega) ?_
  intro F4 hb g e4 e6 e7 e8 e9 e12 e13 a25 a26 e31 e69 e70
  exact tby_b2 F X1 X2 hB hf hn F4 (rn_same h3 hb g (by decide) (by decide)) (by omega) (by omega)
theorem tby_b0 (hB : iv_in F iv_B4) (hf : ((sy_ai F 35).getD (sy_i F 12).toInt.toNat 0).toInt ≤ 3) (hn : (sy_i F 13).toInt ≤ 10) (F1 : Nat → sy_d) (hG : rn tb_I F F1 (fun w nm => sNm (kf F) (nf F) (tn F, nm, w))) (ha : 0 ≤ (sy_i F1 69).toInt ∧ (sy_i F1 69).toInt ≤ 7) (h70 : (sy_i F1 70).toInt = (sy_i F 4).toInt) :
    hd_W Ls xs 5 jm_M159 (tby_Q F X1 X2) (31, sy_dL F1 [some (.inl (.ref 1000)), some (.inr (.inl 69)), some (.inr (.inl 70))], sy_dS F1 [.inl (.int 9), .inl (.int 0), .inl (.ref 1000), .inr (.inl 69), .inl (.ref 1014)], sy_dh F1 X1 X2 (iv_H 4), 0, 0) := by
  refine hd_calI (R := fun _ F' => bR ((0 : Int32)).toInt ((9 : Int32)).toInt F1 F') (nh := 69) (nv := 71) (s := 4) (s1 := 4) (d1 := 3) (M1 := jm_M157) (As := [.inl (.ref 1000), .inl (.int 0), .inl (.int 9)]) (rest := [.inr (.inl 69), .inl (.ref 1014)]) jm_ok159 rfl rfl (by decide) (by decide +kernel) (by_T F1 X1 X2 hG.1.b _ _) (fun F3 F' x hR p1 p2 _ => ?_)
  have hR : bR 0 9 F1 F' := hR
  have h3 := rn_num hG (by decide) (by decide) (bR_dst hR p1)
  have j69 := nz_fi (p2 69 (by decide) (by decide))
  have j70 := nz_fi (p2 70 (by decide) (by decide))
  refine tby_34 (by decide) F3 X1 X2 h3.1.b (by omega) ?_
  intro F4 hb g e4 e6 e7 e8 e9 e12 e13 a25 a26 e31 e69 e70
  exact tby_b1 F X1 X2 hB hf hn F4 (rn_same h3 hb g (by decide) (by decide)) (by omega) (by omega)
theorem tby_T (hB : iv_in F iv_B4) (hf : ((sy_ai F 35).getD (sy_i F 12).toInt.toNat 0).toInt ≤ 3) (hn : (sy_i F 13).toInt ≤ 10) : jm_T Ls xs 5 jm_M159 [.ref 1000] (sy_dh F X1 X2 (iv_H 4)) 0 0 (tby_Q F X1 X2) := by
  have c4 := nz_bx hB (k := 4) (lo := 0) (hi := 400) rfl
  have c12 := nz_bx hB (k := 12) (lo := 0) (hi := 1) rfl
  have b31 := nz_ba hB (k := 35) (lo := 0) (hi := 4) rfl (sy_i F 12).toInt.toNat
  refine nz_T0 jm_ok159 (by decide) (tby_0 (by decide) F X1 X2 hB ?_)
  intro F1 hb g e4 e6 e7 e8 e9 e12 e13 a25 a26 e31 e69
  have g0 : ∀ q, q < 69 → F1 q = F q := fun q hq => g q hq (by simp)
  refine hd_calI (R := fun (x : Int32) F' => nR x F1 F') (nh := 69) (nv := 70) (s := 4) (s1 := 4) (d1 := 4) (M1 := jm_M155) (As := [.inl (.ref 1000)]) (rest := []) jm_ok159 rfl rfl (by decide) (by decide +kernel) (ny_T F1 X1 X2 hb) (fun F3 F' x hR p1 p2 p3 => ?_)
  obtain ⟨r1, r2, r4, r3⟩ := nR_dst hR p1
  rw [kf_eq (g0 25 (by decide)), pf_eq (g0 26 (by decide)), nf_eq (g0 28 (by decide)), tn_eq e4] at r3
  have h3 : rn tb_I F F3 (fun w nm => sNm (kf F) (nf F) (tn F, nm, w)) := ⟨(r1.mono (by decide)).src g0, nop_src r2 e6 e7, fun L w nm a b c d => an_src (r3 L w nm a b (wr_eq c (by rw [tn_eq e4]; exact Nat.le_refl _) e8 e9) (nmr_eq d (g0 30 (by decide)) e13)) e6⟩
  have j69 := nz_fi (p2 69 (by decide) (by decide))
  have j70 := zz_i p3
  rw [← j70] at r4
  refine tby_21 (by decide) F3 X1 X2 h3.1.b ?_
  intro F4 hb4 g4 e4' e6' e7' e8' e9' e12' e13' a25' a26' e31' e69' e70'
  exact tby_b0 F X1 X2 hB hf hn F4 (rn_same h3 hb4 g4 (by decide) (by decide)) (by omega) (by omega)
end tbY
