/-! ===== what each call leaves, on the class's side ===== -/
section KX
variable {s : Nat} {R : tX × gS × List gS × (Nat → gS) × (Nat → Int32 × Int32)} {F F' : Nat → sy_d} {x : Int32}
theorem xZ_g {σ : fG} {W : List Nat} (h : xZ s σ F) (q : qC W F F') (hW : ∀ a ∈ W, 43 ≤ a ∧ a < 77) {g' : gS} {U' : List gS} (hg : gC 50 (nfS σ.2.1) (nbS σ.2.1) F' g') (hu : trC (nfS σ.2.1) (nbS σ.2.1) F' U') : xZ s (σ.1, σ.2.1, g', U', σ.2.2.2.2) F' := by
  have e : ∀ j, j < 82 → j < 43 ∨ 77 ≤ j → F' j = F j := fun j h1 h2 => q.2 j h1 (fun z => by have := hW j z; omega)
  refine xZ_of h q (fun a ha => Or.inr (hW a ha).1) rfl ?_ hg hu (hlC_eq h.2.2.2.2.1 (e 77 (by decide) (by omega)) (e 78 (by decide) (by omega))) ?_
  · rw [ox_eq (e 0 (by decide) (by omega)) (e 1 (by decide) (by omega)) (e 2 (by decide) (by omega)) (e 78 (by decide) (by omega)) (e 79 (by decide) (by omega))]
    exact h.1.2.2
  · rw [nz_fa (e 80 (by decide) (by omega)), nz_fa (e 81 (by decide) (by omega))]
    exact h.2.2.2.2.2.1
theorem xZ_0 {σ : fG} (h : xZ s σ F) (q : qC [] F F') : xZ s σ F' := xZ_q h q (fun a ha => absurd ha List.not_mem_nil)
/-- only what is seen of the tape, the told, the held changes -/
theorem xZ_s {σ : fG} {W : List Nat} (h : xZ s σ F) (q : qC W F F') (hW : ∀ a ∈ W, a < 3 ∨ 77 ≤ a) {x' : sg} {H' : Nat → gS} {W' : Nat → Int32 × Int32} (ho : ox F' = x') (hh : hlC (nfS σ.2.1) (nbS σ.2.1) F' H') (ht : tdC x'.2.2.2.1 W' (sy_ai F' 80) (sy_ai F' 81)) : xZ s (x', σ.2.1, σ.2.2.1, σ.2.2.2.1, H', W') F' := by
  have e : ∀ j, 3 ≤ j → j < 77 → F' j = F j := fun j h1 h2 => q.2 j (by omega) (fun z => by have := hW j z; omega)
  exact xZ_of h q (fun a ha => by have := hW a ha; omega) rfl ho (gC_eq h.2.2.1 (fun j h1 h2 => e j (by omega) (by omega))) (trC_eq h.2.2.2.1 (e 74 (by decide) (by decide)) (e 75 (by decide) (by decide)) (e 76 (by decide) (by decide))) hh ht
theorem kx_place (h : xZ s (ox F, R) F) (hP : x = sy_i F 1 ∧ qC [] F F') : x.toInt = (ox F).2.2.1 ∧ xZ s (ox F, R) F' := ⟨by rw [hP.1]; rfl, xZ_0 h hP.2⟩
theorem kx_feed (h : xZ s (ox F, R) F) {a b c d e : Int32} (hP : (2000 < (sy_i F 0).toInt + 20 → x = -1 ∧ qC [] F F') ∧ (¬ 2000 < (sy_i F 0).toInt + 20 → x.toInt = (sy_i F 0).toInt + 20 ∧ qC [0, 2] F F' ∧ (sy_i F' 0).toInt = (sy_i F 0).toInt + 20 ∧ ub (sy_ai F' 2) ((sy_i F 0).toInt + 20).toNat = apB (apB (apB (apB (apB (ub (sy_ai F 2) (sy_i F 0).toInt.toNat) (sy_i F 0).toInt.toNat a) ((sy_i F 0).toInt.toNat + 4) b) ((sy_i F 0).toInt.toNat + 8) c) ((sy_i F 0).toInt.toNat + 12) d) ((sy_i F 0).toInt.toNat + 16) e)) : x.toInt = a_feed (ox F) ∧ xZ s (t_feed a b c d e (ox F, R)) F' := by
  by_cases q : 2000 < (sy_i F 0).toInt + 20
  · obtain ⟨e1, q1⟩ := hP.1 q
    have q' : 2000 < (ox F).1 + 20 := q
    refine ⟨?_, ?_⟩
    · unfold a_feed
      rw [if_pos q', e1]
      decide
    · have e2 : t_feed a b c d e (ox F, R) = (ox F, R) := by
        unfold t_feed
        show (s_feed a b c d e (ox F), R) = _
        unfold s_feed
        rw [if_pos q']
      rw [e2]
      exact xZ_0 h q1
  · obtain ⟨e1, q1, e3, e4⟩ := hP.2 q
    have q' : ¬ 2000 < (ox F).1 + 20 := q
    refine ⟨?_, xZ_s h q1 (by decide) ?_ (hlC_eq h.2.2.2.2.1 (q1.2 77 (by decide) (by decide)) (q1.2 78 (by decide) (by decide))) ?_⟩
    · unfold a_feed
      rw [if_neg q']
      exact e1
    · show ox F' = s_feed a b c d e (ox F)
      unfold s_feed
      rw [if_neg q']
      exact ox0_mk e3 e4 (nz_fi (q1.2 1 (by decide) (by decide))) (nz_fi (q1.2 79 (by decide) (by decide))) (by rw [qq_a q1 (by decide) (by decide)])
    · show tdC (s_feed a b c d e (ox F)).2.2.2.1 _ _ _
      unfold s_feed
      rw [if_neg q', qq_a q1 (by decide) (by decide), qq_a q1 (by decide) (by decide)]
      exact h.2.2.2.2.2.1
theorem kx_back (h : xZ s (ox F, R) F) {v : Int32} (hP : (v.toInt < 0 ∨ (sy_i F 0).toInt < v.toInt → x = -1 ∧ qC [] F F') ∧ (¬ (v.toInt < 0 ∨ (sy_i F 0).toInt < v.toInt) → x.toInt = (sy_i F 0).toInt - v.toInt ∧ qC [0] F F' ∧ (sy_i F' 0).toInt = (sy_i F 0).toInt - v.toInt)) : x.toInt = a_back v (ox F) ∧ xZ s (t_back v (ox F, R)) F' := by
  by_cases q : v.toInt < 0 ∨ (sy_i F 0).toInt < v.toInt
  · obtain ⟨e1, q1⟩ := hP.1 q
    have q' : v.toInt < 0 ∨ (ox F).1 < v.toInt := q
    refine ⟨?_, ?_⟩
    · unfold a_back
      rw [if_pos q', e1]
      decide
    · have e2 : t_back v (ox F, R) = (ox F, R) := by
        unfold t_back
        show (s_back v (ox F), R) = _
        unfold s_back
        rw [if_pos q']
      rw [e2]
      exact xZ_0 h q1
  · obtain ⟨e1, q1, e3⟩ := hP.2 q
    have q' : ¬ (v.toInt < 0 ∨ (ox F).1 < v.toInt) := q
    refine ⟨?_, xZ_s h q1 (by decide) ?_ (hlC_eq h.2.2.2.2.1 (q1.2 77 (by decide) (by decide)) (q1.2 78 (by decide) (by decide))) ?_⟩
    · unfold a_back
      rw [if_neg q']
      exact e1
    · show ox F' = s_back v (ox F)
      unfold s_back
      rw [if_neg q']
      refine ox0_mk e3 ?_ (nz_fi (q1.2 1 (by decide) (by decide))) (nz_fi (q1.2 79 (by decide) (by decide))) (by rw [qq_a q1 (by decide) (by decide)])
      rw [qq_a q1 (by decide) (by decide), ub_cut (n := (sy_i F 0).toInt.toNat) (show ((ox F).1 - v.toInt).toNat ≤ _ from (show ((sy_i F 0).toInt - v.toInt).toNat ≤ (sy_i F 0).toInt.toNat by omega))]
      rfl
    · show tdC (s_back v (ox F)).2.2.2.1 _ _ _
      unfold s_back
      rw [if_neg q', qq_a q1 (by decide) (by decide), qq_a q1 (by decide) (by decide)]
      exact h.2.2.2.2.2.1
theorem kx_forget (h : xZ s (ox F, R) F) (hP : x = sy_i F 79 ∧ qC [79] F F' ∧ (sy_i F' 79).toInt = 0) : x.toInt = (ox F).2.2.2.1 ∧ xZ s (t_forget (ox F, R)) F' := by
  obtain ⟨e1, q1, e3⟩ := hP
  refine ⟨by rw [e1]; rfl, xZ_s h q1 (by decide) ?_ (hlC_eq h.2.2.2.2.1 (q1.2 77 (by decide) (by decide)) (q1.2 78 (by decide) (by decide))) ?_⟩
  · exact ox0_mk (nz_fi (q1.2 0 (by decide) (by decide))) (by rw [qq_a q1 (by decide) (by decide)]; rfl) (nz_fi (q1.2 1 (by decide) (by decide))) e3 (by rw [qq_a q1 (by decide) (by decide)]; rfl)
  · intro i hi
    have hi : (i : Int) < 0 := hi
    exact absurd hi (by omega)
theorem kx_tell (h : xZ s (ox F, R) F) {a b : Int32} (hP : (¬ ((1 ≤ a.toInt ∧ a.toInt ≤ 9) ∧ (0 ≤ b.toInt ∧ b.toInt ≤ 9) ∧ (sy_i F 79).toInt < 7) → x = -1 ∧ qC [] F F') ∧ ((1 ≤ a.toInt ∧ a.toInt ≤ 9) ∧ (0 ≤ b.toInt ∧ b.toInt ≤ 9) ∧ (sy_i F 79).toInt < 7 → x.toInt = (sy_i F 79).toInt ∧ qC [79, 80, 81] F F' ∧ (sy_i F' 79).toInt = (sy_i F 79).toInt + 1 ∧ sy_ai F' 80 = jm_upd (sy_ai F 80) (sy_i F 79).toInt.toNat a ∧ sy_ai F' 81 = jm_upd (sy_ai F 81) (sy_i F 79).toInt.toNat b)) : x.toInt = a_tell a b (ox F) ∧ xZ s (t_tell a b (ox F, R)) F' := by
  have c0 := nz_bx h.2.1.1 (k := 79) (lo := 0) (hi := 7) rfl
  by_cases q : (1 ≤ a.toInt ∧ a.toInt ≤ 9) ∧ (0 ≤ b.toInt ∧ b.toInt ≤ 9) ∧ (sy_i F 79).toInt < 7
  · obtain ⟨e1, q1, e3, e4, e5⟩ := hP.2 q
    have q' : (1 ≤ a.toInt ∧ a.toInt ≤ 9) ∧ (0 ≤ b.toInt ∧ b.toInt ≤ 9) ∧ (ox F).2.2.2.1 < 7 := q
    have qc : c_tell a b (ox F, R) := q
    refine ⟨?_, xZ_s h q1 (by decide) ?_ (hlC_eq h.2.2.2.2.1 (q1.2 77 (by decide) (by decide)) (q1.2 78 (by decide) (by decide))) ?_⟩
    · unfold a_tell
      rw [if_pos q']
      exact e1
    · show ox F' = s_tell a b (ox F)
      unfold s_tell
      rw [if_pos q']
      exact ox0_mk (nz_fi (q1.2 0 (by decide) (by decide))) (by rw [qq_a q1 (by decide) (by decide)]; rfl) (nz_fi (q1.2 1 (by decide) (by decide))) e3 (by rw [qq_a q1 (by decide) (by decide)]; rfl)
    · rw [ifP_y qc]
      intro i hi
      have hi : (i : Int) < (s_tell a b (ox F)).2.2.2.1 := hi
      unfold s_tell at hi
      rw [if_pos q'] at hi
      have hi : (i : Int) < (sy_i F 79).toInt + 1 := hi
      rw [e4, e5, jm_upd_at, jm_upd_at]
      show _ = (if i = (sy_i F 79).toInt.toNat then (a, b) else R.2.2.2.2 i).1 ∧ _ = (if i = (sy_i F 79).toInt.toNat then (a, b) else R.2.2.2.2 i).2
      by_cases z : i = (sy_i F 79).toInt.toNat
      · rw [if_pos z, if_pos z, if_pos z]
        exact ⟨rfl, rfl⟩
      · rw [if_neg z, if_neg z, if_neg z]
        exact h.2.2.2.2.2.1 i (show (i : Int) < (sy_i F 79).toInt by omega)
  · obtain ⟨e1, q1⟩ := hP.1 q
    have q' : ¬ ((1 ≤ a.toInt ∧ a.toInt ≤ 9) ∧ (0 ≤ b.toInt ∧ b.toInt ≤ 9) ∧ (ox F).2.2.2.1 < 7) := q
    have qc : ¬ c_tell a b (ox F, R) := q
    refine ⟨?_, ?_⟩
    · unfold a_tell
      rw [if_neg q', e1]
      decide
    · have e2 : t_tell a b (ox F, R) = (ox F, R) := by
        unfold t_tell
        rw [ifP_n qc]
        show (s_tell a b (ox F), R) = _
        unfold s_tell
        rw [if_neg q']
      rw [e2]
      exact xZ_0 h q1
theorem kx_hold (h : xZ s (ox F, R) F) {v : Int32} (hP : (¬ (0 ≤ v.toInt ∧ v.toInt ≤ 2) → x = 0 ∧ qC [] F F') ∧ (0 ≤ v.toInt ∧ v.toInt ≤ 2 → x = 1 ∧ qC [77, 78] F F' ∧ hlC (nfS R.1) (nbS R.1) F' (fun j => if j = v.toInt.toNat then R.2.1 else R.2.2.2.1 j) ∧ sy_ai F' 78 = jm_upd (sy_ai F 78) v.toInt.toNat 1)) : x.toInt = a_hold v (ox F) ∧ xZ s (t_hold v (ox F, R)) F' := by
  by_cases q : 0 ≤ v.toInt ∧ v.toInt ≤ 2
  · obtain ⟨e1, q1, e3, e4⟩ := hP.2 q
    refine ⟨?_, xZ_s h q1 (by decide) ?_ ?_ ?_⟩
    · unfold a_hold
      rw [if_pos q, e1]
      decide
    · show ox F' = s_hold v (ox F)
      unfold s_hold
      rw [if_pos q]
      refine ox0_mk (nz_fi (q1.2 0 (by decide) (by decide))) (by rw [qq_a q1 (by decide) (by decide)]; rfl) (nz_fi (q1.2 1 (by decide) (by decide))) (nz_fi (q1.2 79 (by decide) (by decide))) ?_
      rw [e4, hl_u (by omega)]
      rfl
    · rw [ifP_y q]
      exact e3
    · show tdC (s_hold v (ox F)).2.2.2.1 _ _ _
      unfold s_hold
      rw [if_pos q, qq_a q1 (by decide) (by decide), qq_a q1 (by decide) (by decide)]
      exact h.2.2.2.2.2.1
  · obtain ⟨e1, q1⟩ := hP.1 q
    refine ⟨?_, ?_⟩
    · unfold a_hold
      rw [if_neg q, e1]
      decide
    · have e2 : t_hold v (ox F, R) = (ox F, R) := by
        unfold t_hold
        rw [ifP_n q]
        show (s_hold v (ox F), R) = _
        unfold s_hold
        rw [if_neg q]
      rw [e2]
      exact xZ_0 h q1
theorem kx_rest (h : xZ s (ox F, R) F) {v : Int32} (hP : (¬ (0 ≤ v.toInt ∧ v.toInt ≤ 2 ∧ ((sy_ai F 78).getD v.toInt.toNat 0).toInt ≠ 0) → x = 0 ∧ qC [] F F') ∧ (0 ≤ v.toInt ∧ v.toInt ≤ 2 ∧ ((sy_ai F 78).getD v.toInt.toNat 0).toInt ≠ 0 → x = 1 ∧ qC (74 :: 75 :: [50, 51, 52, 53, 54, 55, 56, 57, 58, 59, 60, 61]) F F' ∧ gC 50 (nfS R.1) (nbS R.1) F' (R.2.2.2.1 v.toInt.toNat) ∧ trC (nfS R.1) (nbS R.1) F' [])) : x.toInt = a_rest v (ox F) ∧ xZ s (t_rest v (ox F, R)) F' := by
  have hc : c_rest v (ox F, R) ↔ (0 ≤ v.toInt ∧ v.toInt ≤ 2 ∧ ((sy_ai F 78).getD v.toInt.toNat 0).toInt ≠ 0) := by
    refine ⟨fun z => ⟨z.1.1, z.1.2, fun y => z.2 ?_⟩, fun z => ⟨⟨z.1, z.2.1⟩, fun y => z.2.2 ?_⟩⟩
    · show hl3 (sy_ai F 78) v.toInt.toNat = 0
      unfold hl3
      rw [if_pos (by have := z.1; omega)]
      exact y
    · have y : hl3 (sy_ai F 78) v.toInt.toNat = 0 := y
      unfold hl3 at y
      rw [if_pos (by omega)] at y
      exact y
  by_cases q : c_rest v (ox F, R)
  · obtain ⟨e1, q1, e3, e4⟩ := hP.2 (hc.mp q)
    refine ⟨?_, ?_⟩
    · unfold a_rest
      rw [if_pos (show (0 ≤ v.toInt ∧ v.toInt ≤ 2) ∧ (ox F).2.2.2.2 v.toInt.toNat ≠ 0 from q), e1]
      decide
    · unfold t_rest
      rw [ifP_y q]
      exact xZ_g h q1 (by decide) e3 e4
  · obtain ⟨e1, q1⟩ := hP.1 (fun z => q (hc.mpr z))
    refine ⟨?_, ?_⟩
    · unfold a_rest
      rw [if_neg (show ¬ ((0 ≤ v.toInt ∧ v.toInt ≤ 2) ∧ (ox F).2.2.2.2 v.toInt.toNat ≠ 0) from q), e1]
      decide
    · unfold t_rest
      rw [ifP_n q]
      exact xZ_0 h q1
theorem kx_go (h : xZ s (ox F, R) F) {b v : Int32} (hP : (¬ c_go b v (ox F, R) → x = 0 ∧ qC [] F F') ∧ (c_go b v (ox F, R) → x = 1 ∧ qC [60, 74, 75, 76] F F' ∧ gC 50 (nfS R.1) (nbS R.1) F' (upS R.2.1 7 b.toInt.toNat v) ∧ trC (nfS R.1) (nbS R.1) F' (rmS R.2.1 R.2.2.1))) : x = a_go b v (ox F, R) ∧ xZ s (t_go b v (ox F, R)) F' := by
  unfold a_go t_go
  by_cases q : c_go b v (ox F, R)
  · obtain ⟨e1, q1, e3, e4⟩ := hP.2 q
    rw [ifP_y q, ifP_y q]
    exact ⟨e1, xZ_g h q1 (by decide) e3 e4⟩
  · obtain ⟨e1, q1⟩ := hP.1 q
    rw [ifP_n q, ifP_n q]
    exact ⟨e1, xZ_0 h q1⟩
theorem kx_prop (h : xZ s (ox F, R) F) {b v : Int32} (hP : (¬ c_prop b v (ox F, R) → x = 0 ∧ qC [] F F') ∧ (c_prop b v (ox F, R) → x = 1 ∧ qC [57, 74, 75, 76] F F' ∧ gC 50 (nfS R.1) (nbS R.1) F' (upS R.2.1 5 b.toInt.toNat v) ∧ trC (nfS R.1) (nbS R.1) F' (rmS R.2.1 R.2.2.1))) : x = a_prop b v (ox F, R) ∧ xZ s (t_prop b v (ox F, R)) F' := by
  unfold a_prop t_prop
  by_cases q : c_prop b v (ox F, R)
  · obtain ⟨e1, q1, e3, e4⟩ := hP.2 q
    rw [ifP_y q, ifP_y q]
    exact ⟨e1, xZ_g h q1 (by decide) e3 e4⟩
  · obtain ⟨e1, q1⟩ := hP.1 q
    rw [ifP_n q, ifP_n q]
    exact ⟨e1, xZ_0 h q1⟩
theorem kx_shake (h : xZ s (ox F, R) F) {f : Int32} (hP : (¬ c_fr f (ox F, R) → x = -1 ∧ qC [] F F') ∧ (c_fr f (ox F, R) → ¬ c_hang f (ox F, R) → x = -2 ∧ qC [] F F') ∧ (c_fr f (ox F, R) → c_hang f (ox F, R) → qC [45, 46, 51, 52, 58, 74, 75, 76] F F' ∧ trC (nfS R.1) (nbS R.1) F' (rmS R.2.1 R.2.2.1) ∧ (fdS R.1 R.2.1 → x = 1 ∧ gC 50 (nfS R.1) (nbS R.1) F' (fndS R.1 R.2.1 f.toInt.toNat)) ∧ (¬ fdS R.1 R.2.1 → x = 0 ∧ gC 50 (nfS R.1) (nbS R.1) F' (shkS R.2.1 f.toInt.toNat)))) : x = a_shake f (ox F, R) ∧ xZ s (t_shake f (ox F, R)) F' := by
  obtain ⟨p1, p2, p3⟩ := hP
  unfold a_shake t_shake
  by_cases q : c_fr f (ox F, R)
  · rw [ifP_y q]
    by_cases z : c_hang f (ox F, R)
    · rw [ifP_y z, ifP_y (show _ ∧ _ from ⟨q, z⟩)]
      obtain ⟨q1, e2, e3, e4⟩ := p3 q z
      by_cases y : fdS R.1 R.2.1
      · rw [ifP_y y, ifP_y y]
        obtain ⟨e5, e6⟩ := e3 y
        exact ⟨e5, xZ_g h q1 (by decide) e6 e2⟩
      · rw [ifP_n y, ifP_n y]
        obtain ⟨e5, e6⟩ := e4 y
        exact ⟨e5, xZ_g h q1 (by decide) e6 e2⟩
    · rw [ifP_n z, ifP_n (show ¬ (_ ∧ _) from fun w => z w.2)]
      obtain ⟨e1, q1⟩ := p2 q z
      exact ⟨e1, xZ_0 h q1⟩
  · rw [ifP_n q, ifP_n (show ¬ (_ ∧ _) from fun w => q w.1)]
    obtain ⟨e1, q1⟩ := p1 q
    exact ⟨e1, xZ_0 h q1⟩
theorem kx_hours (h : xZ s (ox F, R) F) {n : Int32} (hP : (¬ (0 ≤ n.toInt ∧ n.toInt ≤ 48) → x = -1 ∧ qC [] F F') ∧ (n.toInt = 0 → x = R.2.1 9 0 ∧ qC [] F F') ∧ (1 ≤ n.toInt ∧ n.toInt ≤ 48 → x = hrsS R.1 (Int32.ofInt R.1.2.2.2.2.1) R.2.1 n.toInt.toNat 9 0 ∧ qC [45, 46, 50, 51, 52, 53, 54, 55, 56, 57, 58, 59, 60, 61, 74, 75, 76] F F' ∧ gC 50 (nfS R.1) (nbS R.1) F' (hrsS R.1 (Int32.ofInt R.1.2.2.2.2.1) R.2.1 n.toInt.toNat) ∧ trC (nfS R.1) (nbS R.1) F' (rmS R.2.1 R.2.2.1))) : x = a_hours n (ox F, R) ∧ xZ s (t_hours n (ox F, R)) F' := by
  obtain ⟨p1, p2, p3⟩ := hP
  unfold a_hours t_hours
  by_cases q : 1 ≤ n.toInt ∧ n.toInt ≤ 48
  · rw [ifP_y q, ifP_y (show _ ∧ _ from ⟨by omega, q.2⟩)]
    obtain ⟨e1, q1, e3, e4⟩ := p3 q
    exact ⟨e1, xZ_g h q1 (by decide) e3 e4⟩
  · rw [ifP_n q]
    by_cases z : n.toInt = 0
    · rw [ifP_y (show _ ∧ _ from ⟨by omega, by omega⟩)]
      obtain ⟨e1, q1⟩ := p2 z
      refine ⟨?_, xZ_0 h q1⟩
      rw [e1, z]
      rfl
    · rw [ifP_n (show ¬ (_ ∧ _) from fun w => by omega)]
      obtain ⟨e1, q1⟩ := p1 (fun w => by omega)
      exact ⟨e1, xZ_0 h q1⟩
theorem kx_undo0 {T : tX} {g : gS} {HW : (Nat → gS) × (Nat → Int32 × Int32)} (h : xZ s (ox F, T, g, [], HW) F) (hP : x = 0 ∧ qC [] F F') : x = a_undo (ox F, T, g, [], HW) ∧ xZ s (t_undo (ox F, T, g, [], HW)) F' := ⟨hP.1, xZ_0 h hP.2⟩
theorem kx_undo1 {T : tX} {g u : gS} {U : List gS} {HW : (Nat → gS) × (Nat → Int32 × Int32)} (h : xZ s (ox F, T, g, u :: U, HW) F) (hP : x = 1 ∧ qC (75 :: [50, 51, 52, 53, 54, 55, 56, 57, 58, 59, 60, 61]) F F' ∧ trC (nfS T) (nbS T) F' U ∧ gC 50 (nfS T) (nbS T) F' u) : x = a_undo (ox F, T, g, u :: U, HW) ∧ xZ s (t_undo (ox F, T, g, u :: U, HW)) F' := ⟨hP.1, xZ_g h hP.2.1 (by decide) hP.2.2.2 hP.2.2.1⟩
end KX
/-! ===== and on the reference's ===== -/
section KMM
variable {R : tX × gS × List gS × (Nat → gS) × (Nat → Int32 × Int32)} {F F' : Nat → sy_d} {x : Int32}
theorem mZ_g {σ : fG} {W : List Nat} (h : mZ σ F) (q : qR W F F') (hW : ∀ a ∈ W, a ∈ ([17, 18, 19, 20, 52, 53, 54, 55, 56, 57, 58, 59, 60] : List Nat)) {g' : gS} {U' : List gS} (hg : gNw σ.2.1 F' g') (hu : hiR (nfS σ.2.1) (nbS σ.2.1) F' U') : mZ (σ.1, σ.2.1, g', U', σ.2.2.2.2) F' := by
  have n : ∀ j, j ∈ ([1, 10, 21, 23, 63, 64, 67, 68] : List Nat) → F' j = F j := fun j hj => q.2 j ((by decide : ∀ j ∈ ([1, 10, 21, 23, 63, 64, 67, 68] : List Nat), j < 69) j hj) (fun z => (by decide : ∀ j ∈ ([1, 10, 21, 23, 63, 64, 67, 68] : List Nat), j ∉ ([17, 18, 19, 20, 52, 53, 54, 55, 56, 57, 58, 59, 60] : List Nat)) j hj (hW j z))
  refine mZ_of h q (fun a ha => (by decide : ∀ a ∈ ([17, 18, 19, 20, 52, 53, 54, 55, 56, 57, 58, 59, 60] : List Nat), (a < 31 ∨ 50 < a) ∧ a ≠ 11 ∧ a ≠ 29) a (hW a ha)) rfl ?_ hg hu (hrR_e F h.2.2.2.2.1 (n 67 (by decide)) (n 68 (by decide))) ?_
  · rw [om_eq (n 1 (by decide)) (n 10 (by decide)) (n 23 (by decide)) (n 67 (by decide)) (n 21 (by decide))]
    exact h.1.2.2
  · rw [nz_fa (n 63 (by decide)), nz_fa (n 64 (by decide))]
    exact h.2.2.2.2.2
theorem mZ_0 {σ : fG} (h : mZ σ F) (q : qR [] F F') : mZ σ F' := mZ_q h q (fun a ha => absurd ha List.not_mem_nil)
theorem mZ_s {σ : fG} {W : List Nat} (h : mZ σ F) (q : qR W F F') (hW : ∀ a ∈ W, a ∈ ([1, 10, 21, 23, 63, 64, 67, 68] : List Nat)) {x' : sg} {H' : Nat → gS} {W' : Nat → Int32 × Int32} (ho : om F' = x') (hh : hrR (nfS σ.2.1) (nbS σ.2.1) F' H') (ht : tdC x'.2.2.2.1 W' (sy_ai F' 63) (sy_ai F' 64)) : mZ (x', σ.2.1, σ.2.2.1, σ.2.2.2.1, H', W') F' := by
  have n : ∀ j, j ∈ ([20, 54, 60] : List Nat) → F' j = F j := fun j hj => q.2 j ((by decide : ∀ j ∈ ([20, 54, 60] : List Nat), j < 69) j hj) (fun z => (by decide : ∀ j ∈ ([20, 54, 60] : List Nat), j ∉ ([1, 10, 21, 23, 63, 64, 67, 68] : List Nat)) j hj (hW j z))
  exact mZ_of h q (fun a ha => (by decide : ∀ a ∈ ([1, 10, 21, 23, 63, 64, 67, 68] : List Nat), (a < 31 ∨ 50 < a) ∧ a ≠ 11 ∧ a ≠ 29) a (hW a ha)) rfl ho (gNw_e F h.2.2.1 (nz_fa (n 54 (by decide)))) (hiR_e h.2.2.2.1 (n 20 (by decide)) (n 60 (by decide))) hh ht
theorem km_place (h : mZ (om F, R) F) (hP : x = sy_i F 10 ∧ qR [] F F') : x.toInt = (om F).2.2.1 ∧ mZ (om F, R) F' := ⟨by rw [hP.1]; rfl, mZ_0 h hP.2⟩
theorem km_feed (h : mZ (om F, R) F) {a b c d e : Int32} (hP : (2000 < (sy_i F 1).toInt + 20 → x = -1 ∧ qR [] F F') ∧ (¬ 2000 < (sy_i F 1).toInt + 20 → x.toInt = (sy_i F 1).toInt + 20 ∧ qR [1, 23] F F' ∧ (sy_i F' 1).toInt = (sy_i F 1).toInt + 20 ∧ ub (sy_ai F' 23) ((sy_i F 1).toInt + 20).toNat = apB (apB (apB (apB (apB (ub (sy_ai F 23) (sy_i F 1).toInt.toNat) (sy_i F 1).toInt.toNat a) ((sy_i F 1).toInt.toNat + 4) b) ((sy_i F 1).toInt.toNat + 8) c) ((sy_i F 1).toInt.toNat + 12) d) ((sy_i F 1).toInt.toNat + 16) e)) : x.toInt = a_feed (om F) ∧ mZ (t_feed a b c d e (om F, R)) F' := by
  by_cases q : 2000 < (sy_i F 1).toInt + 20
  · obtain ⟨e1, q1⟩ := hP.1 q
    have q' : 2000 < (om F).1 + 20 := q
    refine ⟨?_, ?_⟩
    · unfold a_feed
      rw [if_pos q', e1]
      decide
    · have e2 : t_feed a b c d e (om F, R) = (om F, R) := by
        unfold t_feed
        show (s_feed a b c d e (om F), R) = _
        unfold s_feed
        rw [if_pos q']
      rw [e2]
      exact mZ_0 h q1
  · obtain ⟨e1, q1, e3, e4⟩ := hP.2 q
    have q' : ¬ 2000 < (om F).1 + 20 := q
    refine ⟨?_, mZ_s h q1 (by decide) ?_ (hrR_e F h.2.2.2.2.1 (q1.2 67 (by decide) (by decide)) (q1.2 68 (by decide) (by decide))) ?_⟩
    · unfold a_feed
      rw [if_neg q']
      exact e1
    · show om F' = s_feed a b c d e (om F)
      unfold s_feed
      rw [if_neg q']
      exact om_mk e3 e4 (nz_fi (q1.2 10 (by decide) (by decide))) (nz_fi (q1.2 21 (by decide) (by decide))) (by rw [qq_a q1 (by decide) (by decide)])
    · show tdC (s_feed a b c d e (om F)).2.2.2.1 _ _ _
      unfold s_feed
      rw [if_neg q', qq_a q1 (by decide) (by decide), qq_a q1 (by decide) (by decide)]
      exact h.2.2.2.2.2
theorem km_back (h : mZ (om F, R) F) {v : Int32} (hP : (v.toInt < 0 ∨ (sy_i F 1).toInt < v.toInt → x = -1 ∧ qR [] F F') ∧ (¬ (v.toInt < 0 ∨ (sy_i F 1).toInt < v.toInt) → x.toInt = (sy_i F 1).toInt - v.toInt ∧ qR [1] F F' ∧ (sy_i F' 1).toInt = (sy_i F 1).toInt - v.toInt)) : x.toInt = a_back v (om F) ∧ mZ (t_back v (om F, R)) F' := by
  by_cases q : v.toInt < 0 ∨ (sy_i F 1).toInt < v.toInt
  · obtain ⟨e1, q1⟩ := hP.1 q
    have q' : v.toInt < 0 ∨ (om F).1 < v.toInt := q
    refine ⟨?_, ?_⟩
    · unfold a_back
      rw [if_pos q', e1]
      decide
    · have e2 : t_back v (om F, R) = (om F, R) := by
        unfold t_back
        show (s_back v (om F), R) = _
        unfold s_back
        rw [if_pos q']
      rw [e2]
      exact mZ_0 h q1
  · obtain ⟨e1, q1, e3⟩ := hP.2 q
    have q' : ¬ (v.toInt < 0 ∨ (om F).1 < v.toInt) := q
    refine ⟨?_, mZ_s h q1 (by decide) ?_ (hrR_e F h.2.2.2.2.1 (q1.2 67 (by decide) (by decide)) (q1.2 68 (by decide) (by decide))) ?_⟩
    · unfold a_back
      rw [if_neg q']
      exact e1
    · show om F' = s_back v (om F)
      unfold s_back
      rw [if_neg q']
      refine om_mk e3 ?_ (nz_fi (q1.2 10 (by decide) (by decide))) (nz_fi (q1.2 21 (by decide) (by decide))) (by rw [qq_a q1 (by decide) (by decide)])
      rw [qq_a q1 (by decide) (by decide), ub_cut (n := (sy_i F 1).toInt.toNat) (show ((om F).1 - v.toInt).toNat ≤ _ from (show ((sy_i F 1).toInt - v.toInt).toNat ≤ (sy_i F 1).toInt.toNat by omega))]
      rfl
    · show tdC (s_back v (om F)).2.2.2.1 _ _ _
      unfold s_back
      rw [if_neg q', qq_a q1 (by decide) (by decide), qq_a q1 (by decide) (by decide)]
      exact h.2.2.2.2.2
theorem km_forget (h : mZ (om F, R) F) (hP : x = sy_i F 21 ∧ qR [21] F F' ∧ (sy_i F' 21).toInt = 0) : x.toInt = (om F).2.2.2.1 ∧ mZ (t_forget (om F, R)) F' := by
  obtain ⟨e1, q1, e3⟩ := hP
  refine ⟨by rw [e1]; rfl, mZ_s h q1 (by decide) ?_ (hrR_e F h.2.2.2.2.1 (q1.2 67 (by decide) (by decide)) (q1.2 68 (by decide) (by decide))) ?_⟩
  · exact om_mk (nz_fi (q1.2 1 (by decide) (by decide))) (by rw [qq_a q1 (by decide) (by decide)]; rfl) (nz_fi (q1.2 10 (by decide) (by decide))) e3 (by rw [qq_a q1 (by decide) (by decide)]; rfl)
  · intro i hi
    have hi : (i : Int) < 0 := hi
    exact absurd hi (by omega)
theorem km_tell (h : mZ (om F, R) F) {a b : Int32} (hP : (¬ ((1 ≤ a.toInt ∧ a.toInt ≤ 9) ∧ (0 ≤ b.toInt ∧ b.toInt ≤ 9) ∧ (sy_i F 21).toInt < 7) → x = -1 ∧ qR [] F F') ∧ ((1 ≤ a.toInt ∧ a.toInt ≤ 9) ∧ (0 ≤ b.toInt ∧ b.toInt ≤ 9) ∧ (sy_i F 21).toInt < 7 → x.toInt = (sy_i F 21).toInt ∧ qR [21, 63, 64] F F' ∧ (sy_i F' 21).toInt = (sy_i F 21).toInt + 1 ∧ sy_ai F' 63 = jm_upd (sy_ai F 63) (sy_i F 21).toInt.toNat a ∧ sy_ai F' 64 = jm_upd (sy_ai F 64) (sy_i F 21).toInt.toNat b)) : x.toInt = a_tell a b (om F) ∧ mZ (t_tell a b (om F, R)) F' := by
  have c0 := nz_bx h.2.1.1 (k := 21) (lo := 0) (hi := 7) rfl
  by_cases q : (1 ≤ a.toInt ∧ a.toInt ≤ 9) ∧ (0 ≤ b.toInt ∧ b.toInt ≤ 9) ∧ (sy_i F 21).toInt < 7
  · obtain ⟨e1, q1, e3, e4, e5⟩ := hP.2 q
    have q' : (1 ≤ a.toInt ∧ a.toInt ≤ 9) ∧ (0 ≤ b.toInt ∧ b.toInt ≤ 9) ∧ (om F).2.2.2.1 < 7 := q
    have qc : c_tell a b (om F, R) := q
    refine ⟨?_, mZ_s h q1 (by decide) ?_ (hrR_e F h.2.2.2.2.1 (q1.2 67 (by decide) (by decide)) (q1.2 68 (by decide) (by decide))) ?_⟩
    · unfold a_tell
      rw [if_pos q']
      exact e1
    · show om F' = s_tell a b (om F)
      unfold s_tell
      rw [if_pos q']
      exact om_mk (nz_fi (q1.2 1 (by decide) (by decide))) (by rw [qq_a q1 (by decide) (by decide)]; rfl) (nz_fi (q1.2 10 (by decide) (by decide))) e3 (by rw [qq_a q1 (by decide) (by decide)]; rfl)
    · rw [ifP_y qc]
      intro i hi
      have hi : (i : Int) < (s_tell a b (om F)).2.2.2.1 := hi
      unfold s_tell at hi
      rw [if_pos q'] at hi
      have hi : (i : Int) < (sy_i F 21).toInt + 1 := hi
      rw [e4, e5, jm_upd_at, jm_upd_at]
      show _ = (if i = (sy_i F 21).toInt.toNat then (a, b) else R.2.2.2.2 i).1 ∧ _ = (if i = (sy_i F 21).toInt.toNat then (a, b) else R.2.2.2.2 i).2
      by_cases z : i = (sy_i F 21).toInt.toNat
      · rw [if_pos z, if_pos z, if_pos z]
        exact ⟨rfl, rfl⟩
      · rw [if_neg z, if_neg z, if_neg z]
        exact h.2.2.2.2.2 i (show (i : Int) < (sy_i F 21).toInt by omega)
  · obtain ⟨e1, q1⟩ := hP.1 q
    have q' : ¬ ((1 ≤ a.toInt ∧ a.toInt ≤ 9) ∧ (0 ≤ b.toInt ∧ b.toInt ≤ 9) ∧ (om F).2.2.2.1 < 7) := q
    have qc : ¬ c_tell a b (om F, R) := q
    refine ⟨?_, ?_⟩
    · unfold a_tell
      rw [if_neg q', e1]
      decide
    · have e2 : t_tell a b (om F, R) = (om F, R) := by
        unfold t_tell
        rw [ifP_n qc]
        show (s_tell a b (om F), R) = _
        unfold s_tell
        rw [if_neg q']
      rw [e2]
      exact mZ_0 h q1
theorem km_hold (h : mZ (om F, R) F) {v : Int32} (hP : (¬ (0 ≤ v.toInt ∧ v.toInt ≤ 2) → x = 0 ∧ qR [] F F') ∧ (0 ≤ v.toInt ∧ v.toInt ≤ 2 → x = 1 ∧ qR [67, 68] F F' ∧ hrR (nfS R.1) (nbS R.1) F' (fun j => if j = v.toInt.toNat then R.2.1 else R.2.2.2.1 j) ∧ sy_ai F' 67 = jm_upd (sy_ai F 67) v.toInt.toNat 1)) : x.toInt = a_hold v (om F) ∧ mZ (t_hold v (om F, R)) F' := by
  by_cases q : 0 ≤ v.toInt ∧ v.toInt ≤ 2
  · obtain ⟨e1, q1, e3, e4⟩ := hP.2 q
    refine ⟨?_, mZ_s h q1 (by decide) ?_ ?_ ?_⟩
    · unfold a_hold
      rw [if_pos q, e1]
      decide
    · show om F' = s_hold v (om F)
      unfold s_hold
      rw [if_pos q]
      refine om_mk (nz_fi (q1.2 1 (by decide) (by decide))) (by rw [qq_a q1 (by decide) (by decide)]; rfl) (nz_fi (q1.2 10 (by decide) (by decide))) (nz_fi (q1.2 21 (by decide) (by decide))) ?_
      rw [e4, hl_u (by omega)]
      rfl
    · rw [ifP_y q]
      exact e3
    · show tdC (s_hold v (om F)).2.2.2.1 _ _ _
      unfold s_hold
      rw [if_pos q, qq_a q1 (by decide) (by decide), qq_a q1 (by decide) (by decide)]
      exact h.2.2.2.2.2
  · obtain ⟨e1, q1⟩ := hP.1 q
    refine ⟨?_, ?_⟩
    · unfold a_hold
      rw [if_neg q, e1]
      decide
    · have e2 : t_hold v (om F, R) = (om F, R) := by
        unfold t_hold
        rw [ifP_n q]
        show (s_hold v (om F), R) = _
        unfold s_hold
        rw [if_neg q]
      rw [e2]
      exact mZ_0 h q1
theorem km_rest (h : mZ (om F, R) F) {v : Int32} (hP : (¬ (0 ≤ v.toInt ∧ v.toInt ≤ 2 ∧ ((sy_ai F 67).getD v.toInt.toNat 0).toInt ≠ 0) → x = 0 ∧ qR [] F F') ∧ (0 ≤ v.toInt ∧ v.toInt ≤ 2 ∧ ((sy_ai F 67).getD v.toInt.toNat 0).toInt ≠ 0 → x = 1 ∧ qR [20, 54] F F' ∧ gNw R.1 F' (R.2.2.2.1 v.toInt.toNat) ∧ hiR (nfS R.1) (nbS R.1) F' [])) : x.toInt = a_rest v (om F) ∧ mZ (t_rest v (om F, R)) F' := by
  have hc : c_rest v (om F, R) ↔ (0 ≤ v.toInt ∧ v.toInt ≤ 2 ∧ ((sy_ai F 67).getD v.toInt.toNat 0).toInt ≠ 0) := by
    refine ⟨fun z => ⟨z.1.1, z.1.2, fun y => z.2 ?_⟩, fun z => ⟨⟨z.1, z.2.1⟩, fun y => z.2.2 ?_⟩⟩
    · show hl3 (sy_ai F 67) v.toInt.toNat = 0
      unfold hl3
      rw [if_pos (by have := z.1; omega)]
      exact y
    · have y : hl3 (sy_ai F 67) v.toInt.toNat = 0 := y
      unfold hl3 at y
      rw [if_pos (by omega)] at y
      exact y
  by_cases q : c_rest v (om F, R)
  · obtain ⟨e1, q1, e3, e4⟩ := hP.2 (hc.mp q)
    refine ⟨?_, ?_⟩
    · unfold a_rest
      rw [if_pos (show (0 ≤ v.toInt ∧ v.toInt ≤ 2) ∧ (om F).2.2.2.2 v.toInt.toNat ≠ 0 from q), e1]
      decide
    · unfold t_rest
      rw [ifP_y q]
      exact mZ_g h q1 (by decide) e3 e4
  · obtain ⟨e1, q1⟩ := hP.1 (fun z => q (hc.mpr z))
    refine ⟨?_, ?_⟩
    · unfold a_rest
      rw [if_neg (show ¬ ((0 ≤ v.toInt ∧ v.toInt ≤ 2) ∧ (om F).2.2.2.2 v.toInt.toNat ≠ 0) from q), e1]
      decide
    · unfold t_rest
      rw [ifP_n q]
      exact mZ_0 h q1
theorem km_go (h : mZ (om F, R) F) {b v : Int32} (hP : (¬ c_go b v (om F, R) → x = 0 ∧ qR [] F F') ∧ (c_go b v (om F, R) → x = 1 ∧ qR [18, 20, 54, 55, 60] F F' ∧ gNw R.1 F' (upS R.2.1 7 b.toInt.toNat v) ∧ hiR (nfS R.1) (nbS R.1) F' (rmS R.2.1 R.2.2.1))) : x = a_go b v (om F, R) ∧ mZ (t_go b v (om F, R)) F' := by
  unfold a_go t_go
  by_cases q : c_go b v (om F, R)
  · obtain ⟨e1, q1, e3, e4⟩ := hP.2 q
    rw [ifP_y q, ifP_y q]
    exact ⟨e1, mZ_g h q1 (by decide) e3 e4⟩
  · obtain ⟨e1, q1⟩ := hP.1 q
    rw [ifP_n q, ifP_n q]
    exact ⟨e1, mZ_0 h q1⟩
theorem km_prop (h : mZ (om F, R) F) {b v : Int32} (hP : (¬ c_prop b v (om F, R) → x = 0 ∧ qR [] F F') ∧ (c_prop b v (om F, R) → x = 1 ∧ qR [18, 20, 54, 55, 60] F F' ∧ gNw R.1 F' (upS R.2.1 5 b.toInt.toNat v) ∧ hiR (nfS R.1) (nbS R.1) F' (rmS R.2.1 R.2.2.1))) : x = a_prop b v (om F, R) ∧ mZ (t_prop b v (om F, R)) F' := by
  unfold a_prop t_prop
  by_cases q : c_prop b v (om F, R)
  · obtain ⟨e1, q1, e3, e4⟩ := hP.2 q
    rw [ifP_y q, ifP_y q]
    exact ⟨e1, mZ_g h q1 (by decide) e3 e4⟩
  · obtain ⟨e1, q1⟩ := hP.1 q
    rw [ifP_n q, ifP_n q]
    exact ⟨e1, mZ_0 h q1⟩
theorem km_shake (h : mZ (om F, R) F) {f : Int32} (hP : (¬ c_fr f (om F, R) → x = -1 ∧ qR [] F F') ∧ (c_fr f (om F, R) → ¬ c_hang f (om F, R) → x = -2 ∧ qR [] F F') ∧ (c_fr f (om F, R) → c_hang f (om F, R) → rskP R.1 R.2.1 R.2.2.1 f.toInt.toNat F x F')) : x = a_shake f (om F, R) ∧ mZ (t_shake f (om F, R)) F' := by
  obtain ⟨p1, p2, p3⟩ := hP
  unfold a_shake t_shake
  by_cases q : c_fr f (om F, R)
  · rw [ifP_y q]
    by_cases z : c_hang f (om F, R)
    · rw [ifP_y z, ifP_y (show _ ∧ _ from ⟨q, z⟩)]
      obtain ⟨q1, e2, e3, e4⟩ := p3 q z
      by_cases y : fdS R.1 R.2.1
      · rw [ifP_y y, ifP_y y]
        obtain ⟨e5, e6⟩ := e3 y
        exact ⟨e5, mZ_g h q1 (by decide) e6 e2⟩
      · rw [ifP_n y, ifP_n y]
        obtain ⟨e5, e6⟩ := e4 y
        exact ⟨e5, mZ_g h q1 (by decide) e6 e2⟩
    · rw [ifP_n z, ifP_n (show ¬ (_ ∧ _) from fun w => z w.2)]
      obtain ⟨e1, q1⟩ := p2 q z
      exact ⟨e1, mZ_0 h q1⟩
  · rw [ifP_n q, ifP_n (show ¬ (_ ∧ _) from fun w => q w.1)]
    obtain ⟨e1, q1⟩ := p1 q
    exact ⟨e1, mZ_0 h q1⟩
theorem km_hours (h : mZ (om F, R) F) {n : Int32} (hP : (¬ (0 ≤ n.toInt ∧ n.toInt ≤ 48) → x = -1 ∧ qR [] F F') ∧ (n.toInt = 0 → x = R.2.1 9 0 ∧ qR [] F F') ∧ (1 ≤ n.toInt ∧ n.toInt ≤ 48 → x = hrsS R.1 (Int32.ofInt R.1.2.2.2.2.1) R.2.1 n.toInt.toNat 9 0 ∧ qR [17, 18, 19, 20, 52, 53, 54, 55, 56, 57, 58, 59, 60] F F' ∧ gNw R.1 F' (hrsS R.1 (Int32.ofInt R.1.2.2.2.2.1) R.2.1 n.toInt.toNat) ∧ hiR (nfS R.1) (nbS R.1) F' (rmS R.2.1 R.2.2.1))) : x = a_hours n (om F, R) ∧ mZ (t_hours n (om F, R)) F' := by
  obtain ⟨p1, p2, p3⟩ := hP
  unfold a_hours t_hours
  by_cases q : 1 ≤ n.toInt ∧ n.toInt ≤ 48
  · rw [ifP_y q, ifP_y (show _ ∧ _ from ⟨by omega, q.2⟩)]
    obtain ⟨e1, q1, e3, e4⟩ := p3 q
    exact ⟨e1, mZ_g h q1 (by decide) e3 e4⟩
  · rw [ifP_n q]
    by_cases z : n.toInt = 0
    · rw [ifP_y (show _ ∧ _ from ⟨by omega, by omega⟩)]
      obtain ⟨e1, q1⟩ := p2 z
      refine ⟨?_, mZ_0 h q1⟩
      rw [e1, z]
      rfl
    · rw [ifP_n (show ¬ (_ ∧ _) from fun w => by omega)]
      obtain ⟨e1, q1⟩ := p1 (fun w => by omega)
      exact ⟨e1, mZ_0 h q1⟩
theorem km_undo0 {T : tX} {g : gS} {HW : (Nat → gS) × (Nat → Int32 × Int32)} (h : mZ (om F, T, g, [], HW) F) (hP : x = 0 ∧ qR [] F F') : x = a_undo (om F, T, g, [], HW) ∧ mZ (t_undo (om F, T, g, [], HW)) F' := ⟨hP.1, mZ_0 h hP.2⟩
theorem km_undo1 {T : tX} {g u : gS} {U : List gS} {HW : (Nat → gS) × (Nat → Int32 × Int32)} (h : mZ (om F, T, g, u :: U, HW) F) (hP : x = 1 ∧ qR [20, 54] F F' ∧ gNw T F' u ∧ hiR (nfS T) (nbS T) F' U) : x = a_undo (om F, T, g, u :: U, HW) ∧ mZ (t_undo (om F, T, g, u :: U, HW)) F' := ⟨hP.1, mZ_g h hP.2.1 (by decide) hP.2.2.1 hP.2.2.2⟩
end KMM
