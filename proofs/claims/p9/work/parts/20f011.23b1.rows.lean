/-! ===== the reference: rows, what hangs, who catches ===== -/
section KR
variable {Ls : Nat} {xs : Nat → Int32} (F : Nat → sy_d) (X1 X2 : List jm_c)
theorem kr_L : ∀ (m : Nat) (F1 : Nat → sy_d), qR [54] F F1 → 0 ≤ (sy_i F1 69).toInt → (sy_i F1 69).toInt + m = 61 → (∀ j : Nat, (j : Int) < (sy_i F1 69).toInt → (sy_ai F1 54).getD j 0 = (sy_ai F 55).getD j 0) →
    hd_W Ls xs 1 jm_M172 (pV 4 X1 X2 (fun F' => qR [54] F F' ∧ ∀ j, j < 61 → (sy_ai F' 54).getD j 0 = (sy_ai F 55).getD j 0)) (2, sy_dL F1 [some (.inl (.ref 1000)), some (.inr (.inl 69))], sy_dS F1 [], sy_dh F1 X1 X2 (iv_H 4), 0, 0) := by
  intro m
  induction m with
  | zero =>
    intro F1 hq h0 hm hj
    refine ykr_2 (by decide) F1 X1 X2 hq.1 (by omega) ?_ ?_
    · intro c0 F2 hb g
      refine ⟨F2, rfl, rfl, qq_on hq hb g (by decide), fun j h => ?_⟩
      rw [nz_fa (g 54 (by decide) (by decide))]
      exact hj j (by omega)
    · intros
      omega
  | succ m ih =>
    intro F1 hq h0 hm hj
    refine ykr_2 (by decide) F1 X1 X2 hq.1 (by omega) ?_ ?_
    · intros
      omega
    · intro c0 F2 hb g a54 e69 i69
      refine ih F2 (qq_on hq hb g (by decide)) (by omega) (by omega) (fun j h => ?_)
      rw [a54, jm_upd_at, qq_a hq (j := 55) (by decide) (by decide)]
      by_cases q : j = (sy_i F1 69).toInt.toNat
      · rw [if_pos q, q]
      · rw [if_neg q]
        exact hj j (by omega)
theorem kr_V (hB : iv_in F iv_B4) : jm_T Ls xs 1 jm_M172 [.ref 1000] (sy_dh F X1 X2 (iv_H 4)) 0 0 (pV 4 X1 X2 (fun F' => qR [54] F F' ∧ ∀ j, j < 61 → (sy_ai F' 54).getD j 0 = (sy_ai F 55).getD j 0)) := by
  refine R_T [] [.inl (.ref 1000)] jm_ok172 (by decide) rfl (fun F0 k0 ki => ?_)
  refine ykr_0 (by decide) F0 X1 X2 (hd_iveq hB k0) ?_
  intro F1 hb g e69 i69
  exact kr_L F X1 X2 61 F1 (qq_src (qq_mk hb g (by decide)) k0) (by omega) (by omega) (fun j h => by omega)
theorem cp_L (hX : 0 ≤ (sy_i F 11).toInt ∧ (sy_i F 11).toInt ≤ 1) : ∀ (m : Nat) (F1 : Nat → sy_d), qR [55] F F1 → 0 ≤ (sy_i F1 69).toInt → (sy_i F1 69).toInt + m = 61 → (∀ j : Nat, (j : Int) < (sy_i F1 69).toInt → (sy_ai F1 55).getD j 0 = (sy_ai F 54).getD j 0) →
    hd_W Ls xs 1 jm_M173 (pV 4 X1 X2 (fun F' => qR [18, 55] F F' ∧ (∀ j, j < 61 → (sy_ai F' 55).getD j 0 = (sy_ai F 54).getD j 0) ∧ sy_i F' 18 = (sy_ai F 41).getD (sy_i F 11).toInt.toNat 0)) (2, sy_dL F1 [some (.inl (.ref 1000)), some (.inr (.inl 69))], sy_dS F1 [], sy_dh F1 X1 X2 (iv_H 4), 0, 0) := by
  intro m
  induction m with
  | zero =>
    intro F1 hq h0 hm hj
    refine ycp_2 (by decide) F1 X1 X2 hq.1 (by omega) ?_ ?_
    · intro c0 F2 hb g e18 i18
      refine ⟨F2, rfl, rfl, qq_on (qq_up hq (by decide)) hb g (by decide), fun j h => ?_, ?_⟩
      · rw [nz_fa (g 55 (by decide) (by decide))]
        exact hj j (by omega)
      · rw [i18, qq_a hq (j := 41) (by decide) (by decide), qq_i hq (j := 11) (by decide) (by decide)]
    · intros
      omega
  | succ m ih =>
    intro F1 hq h0 hm hj
    refine ycp_2 (by decide) F1 X1 X2 hq.1 (by omega) ?_ ?_
    · intros
      omega
    · intro c0 F2 hb g a55 e69 i69
      refine ih F2 (qq_on hq hb g (by decide)) (by omega) (by omega) (fun j h => ?_)
      rw [a55, jm_upd_at, qq_a hq (j := 54) (by decide) (by decide)]
      by_cases q : j = (sy_i F1 69).toInt.toNat
      · rw [if_pos q, q]
      · rw [if_neg q]
        exact hj j (by omega)
theorem cp_V {T : tX} (hC : cR T F) : jm_T Ls xs 1 jm_M173 [.ref 1000] (sy_dh F X1 X2 (iv_H 4)) 0 0 (pV 4 X1 X2 (fun F' => qR [18, 55] F F' ∧ (∀ j, j < 61 → (sy_ai F' 55).getD j 0 = (sy_ai F 54).getD j 0) ∧ sy_i F' 18 = Int32.ofInt T.2.2.2.2.1)) := by
  refine R_T [] [.inl (.ref 1000)] jm_ok173 (by decide) rfl (fun F0 k0 ki => ?_)
  refine ycp_0 (by decide) F0 X1 X2 (hd_iveq hC.1 k0) ?_
  intro F1 hb g e69 i69
  have hs : (sy_ai F 41).getD (sy_i F 11).toInt.toNat 0 = Int32.ofInt T.2.2.2.2.1 := (ofi (rX_n hC.2.1).2.2.2.2).symm
  rw [← hs]
  exact cp_L F X1 X2 (nz_bx hC.1 (k := 11) (lo := 0) (hi := 1) rfl) 61 F1 (qq_src (qq_mk hb g (by decide)) k0) (by omega) (by omega) (fun j h => by omega)
/-- the row holds g -/
def gRow (T : tX) (F : Nat → sy_d) (g : gS) : Prop := gL (nfS T) (nbS T) (sy_ai F 55) g
theorem gRow_e {T : tX} {F F1 : Nat → sy_d} {g : gS} (h : gRow T F g) (e : sy_ai F1 55 = sy_ai F 55) : gRow T F1 g := by
  unfold gRow
  rw [e]
  exact h
theorem bi_L {T : tX} {g : gS} (hC : cR T F) (hG : gRow T F g) (w : Int32) : ∀ (m : Nat) (F1 : Nat → sy_d) (n : Nat), n + m = nfS T → qR [] F F1 → sy_i F1 69 = w → (sy_i F1 71).toInt = n → sy_i F1 70 = mkS g w.toInt n →
    hd_W Ls xs 1 jm_M176 (pI 4 X1 X2 (fun x F' => qR [] F F' ∧ x = mkS g w.toInt (nfS T))) (4, sy_dL F1 [some (.inl (.ref 1000)), some (.inr (.inl 69)), some (.inr (.inl 70)), some (.inr (.inl 71))], sy_dS F1 [], sy_dh F1 X1 X2 (iv_H 4), 0, 0) := by
  have l7 : nfS T ≤ 7 := hC.2.2.1.1
  have en : ((sy_ai F 31).getD (sy_i F 11).toInt.toNat 0).toInt = (nfS T : Int) := (rX_n hC.2.1).1
  intro m
  induction m with
  | zero =>
    intro F1 n hm hq i69 e71 i70
    have e31 : ((sy_ai F1 31).getD (sy_i F1 11).toInt.toNat 0).toInt = (nfS T : Int) := by rw [qq_a hq (by decide) (by decide), qq_i hq (j := 11) (by decide) (by decide)]; exact en
    refine ybi_4 (by decide) F1 X1 X2 hq.1 (by omega) ?_ ?_ ?_
    · intro c0 F2 hb g
      refine ⟨_, F2, rfl, rfl, qq_on hq hb g (by decide), ?_⟩
      rw [i70, show n = nfS T by omega]
    · intros
      omega
    · intros
      omega
  | succ m ih =>
    intro F1 n hm hq i69 e71 i70
    have e31 : ((sy_ai F1 31).getD (sy_i F1 11).toInt.toNat 0).toInt = (nfS T : Int) := by rw [qq_a hq (by decide) (by decide), qq_i hq (j := 11) (by decide) (by decide)]; exact en
    have eh : (sy_ai F1 55).getD (14 + (sy_i F1 71).toInt).toNat 0 = g 2 n := by
      rw [qq_a hq (by decide) (by decide), show (14 + (sy_i F1 71).toInt).toNat = ra 2 + n by show _ = 14 + n; omega]
      exact hG 2 n (vF (by decide) (by omega))
    refine ybi_4 (by decide) F1 X1 X2 hq.1 (by omega) ?_ ?_ ?_
    · intros
      omega
    · intro c0 c1 F2 hb gg e69' i69' e70' i70' e71' i71'
      rw [eh, i69] at c1
      refine ih F2 (n + 1) (by omega) (qq_on hq hb gg (by decide)) (i69'.trans i69) (by omega) ?_
      rw [i70', i70]
      exact (if_neg c1).symm
    · intro c0 c1 F2 hb gg e69' i69' e70' i70' e71' i71'
      rw [eh, i69] at c1
      refine ih F2 (n + 1) (by omega) (qq_on hq hb gg (by decide)) (i69'.trans i69) (by omega) ?_
      rw [i70', i70, ← ofi e71]
      exact (if_pos c1).symm
theorem bi_V {T : tX} {g : gS} (hC : cR T F) (hG : gRow T F g) (w : Int32) : jm_T Ls xs 1 jm_M176 [.ref 1000, .int w] (sy_dh F X1 X2 (iv_H 4)) 0 0 (pI 4 X1 X2 (fun x F' => qR [] F F' ∧ x = mkS g w.toInt (nfS T))) := by
  refine R_T [w] [.inl (.ref 1000), .inr (.inl 69)] jm_ok176 (by decide) rfl (fun F0 k0 ki => ?_)
  have i69 : sy_i F0 69 = w := ki 0
  refine ybi_0 (by decide) F0 X1 X2 (hd_iveq hC.1 k0) ?_
  intro F1 hb g e69 j69 e70 j70 e71 j71
  exact bi_L F X1 X2 hC hG w (nfS T) F1 0 (by omega) (qq_src (qq_mk hb g (by decide)) k0) (j69.trans i69) e71 j70
theorem ln_V {T : tX} {g : gS} (hC : cR T F) (hG : gRow T F g) : jm_T Ls xs 2 jm_M196 [.ref 1000] (sy_dh F X1 X2 (iv_H 4)) 0 0 (pI 4 X1 X2 (fun x F' => qR [] F F' ∧ x = lfS T g)) := by
  refine R_T [] [.inl (.ref 1000)] jm_ok196 (by decide) rfl (fun F0 k0 ki => ?_)
  refine yln_0 (by decide) F0 X1 X2 (hd_iveq hC.1 k0) ?_
  intro F1 hb g
  have q1 : qR [] F F1 := qq_src (qq_mk hb g (by decide)) k0
  refine hd_calI (R := fun x F' => qR [] F1 F' ∧ x = mkS _ (0 : Int32).toInt (nfS T)) (nh := 69) (nv := 69) (s := 4) (s1 := 4) (d1 := 1) (M1 := jm_M176) (As := [.inl (.ref 1000), .inl (.int 0)]) (rest := []) jm_ok196 rfl rfl (by decide) (by decide +kernel) (bi_V F1 X1 X2 (cR_q hC q1 (by decide)) (gRow_e hG (qq_a q1 (by decide) (by decide))) 0) (fun F3 F' x hR p1 p2 p3 => ?_)
  obtain ⟨r1, r2⟩ := hR
  have q3 := qq_trans q1 (qR_dst r1 p1)
  refine yln_5 (by decide) F3 X1 X2 q3.1 ?_
  intro F4 hb4 g4
  refine ⟨_, F4, rfl, rfl, qq_on q3 hb4 g4 (by decide), ?_⟩
  have i69 : sy_i F3 69 = x := zz_i p3
  rw [i69, r2]
  rfl
theorem bn_V {T : tX} {g : gS} (hC : cR T F) (hG : gRow T F g) : jm_T Ls xs 6 jm_M198 [.ref 1000] (sy_dh F X1 X2 (iv_H 4)) 0 0 (pI 4 X1 X2 (fun x F' => qR [17, 52, 53] F F' ∧ x.toInt = wiS T g)) := by
  refine R_T [] [.inl (.ref 1000)] jm_ok198 (by decide) rfl (fun F0 k0 ki => ?_)
  refine ybn_0 (by decide) F0 X1 X2 (hd_iveq hC.1 k0) ?_
  intro F1 hb gg e69 i69
  have q1 : qR [] F F1 := qq_src (qq_mk hb gg (by decide)) k0
  have c1 := cR_q hC q1 (by decide)
  have g1 := gRow_e hG (qq_a q1 (by decide) (by decide))
  have h69 : sy_i F1 69 = g 9 0 := by
    rw [i69, nz_fa (k0 55 (by decide))]
    exact hG 9 0 (vH (by decide))
  refine hd_calI (R := fun x F' => qR [] F1 F' ∧ x = lfS T g) (nh := 69) (nv := 70) (s := 4) (s1 := 4) (d1 := 2) (M1 := jm_M196) (As := [.inl (.ref 1000)]) (rest := [.inr (.inl 69), .inl (.ref 1000)]) jm_ok198 rfl rfl (by decide) (by decide +kernel) (ln_V F1 X1 X2 c1 g1) (fun F3 F' x hR p1 p2 p3 => ?_)
  obtain ⟨r1, r2⟩ := hR
  have q3 := qq_trans q1 (qR_dst r1 p1)
  have j69 : sy_i F3 69 = g 9 0 := (eI (p2 69 (by decide) (by decide))).trans h69
  have j70 : sy_i F3 70 = lfS T g := (zz_i p3).trans r2
  refine hd_calI (R := fun x F' => qR [17, 52, 53] F3 F' ∧ x.toInt = windT T (sy_i F3 69) (sy_i F3 70)) (nh := 69) (nv := 69) (s := 4) (s1 := 4) (d1 := 5) (M1 := jm_M181) (As := [.inl (.ref 1000), .inr (.inl 69), .inr (.inl 70)]) (rest := []) jm_ok198 rfl rfl (by decide) (by decide +kernel) (wb_V F3 X1 X2 (cR_q hC q3 (by decide)) _ _) (fun F5 F6 y hR2 p1' p2' p3' => ?_)
  obtain ⟨s1, s2⟩ := hR2
  have q5 : qR [17, 52, 53] F F5 := qq_trans (qq_up q3 (by decide)) (qR_dst s1 p1')
  refine ybn_15 (by decide) F5 X1 X2 q5.1 ?_
  intro F7 hb7 g7
  refine ⟨_, F7, rfl, rfl, qq_on q5 hb7 g7 (by decide), ?_⟩
  have i69 : sy_i F5 69 = y := zz_i p3'
  rw [i69, s2, j69, j70]
  rfl
/-! who catches -/
theorem ca_L {T : tX} {g : gS} (hC : cR T F) (hG : gRow T F g) (hO : okS T g) {x c : Int} (hx : 0 ≤ x ∧ x ≤ 9) : ∀ (m : Nat) (F1 : Nat → sy_d) (n : Nat), n + m = nbS T → qR [] F F1 → (sy_i F1 69).toInt = c → (sy_i F1 70).toInt = x → (sy_i F1 72).toInt = n → (sy_i F1 71).toInt = (nrS T g x c n).1 →
    hd_W Ls xs 2 jm_M187 (pI 4 X1 X2 (fun y F' => qR [] F F' ∧ y.toInt = (nrS T g x c (nbS T)).1)) (22, sy_dL F1 [some (.inl (.ref 1000)), none, some (.inr (.inl 69)), some (.inr (.inl 70)), some (.inr (.inl 71)), some (.inr (.inl 72)), none], sy_dS F1 [], sy_dh F1 X1 X2 (iv_H 4), 0, 0) := by
  have l4 : nbS T ≤ 4 := hC.2.2.1.2.1
  have en : ((sy_ai F 35).getD (sy_i F 11).toInt.toNat 0).toInt = (nbS T : Int) := (rX_n hC.2.1).2.1
  have c11 := nz_bx hC.1 (k := 11) (lo := 0) (hi := 1) rfl
  intro m
  induction m with
  | zero =>
    intro F1 n hm hq e69 e70 e72 e71
    have e35 : ((sy_ai F1 35).getD (sy_i F1 11).toInt.toNat 0).toInt = (nbS T : Int) := by rw [qq_a hq (by decide) (by decide), qq_i hq (j := 11) (by decide) (by decide)]; exact en
    have hnr := nr_in T g x c n
    have hn1 : (nrS T g x c n).1 = -2 ∨ (0 ≤ (nrS T g x c n).1 ∧ (nrS T g x c n).1 < n) := by
      rcases hnr with h | h
      · left
        rw [h]
      · exact Or.inr ⟨h.1, h.2.1⟩
    refine yca_22 (by decide) F1 X1 X2 hq.1 (by omega) (by omega) ?_ ?_ ?_ ?_ ?_ ?_ ?_ ?_ ?_ ?_ ?_ ?_ ?_ ?_ ?_
    · intro c0 F2 hb gg
      refine ⟨_, F2, rfl, rfl, qq_on hq hb gg (by decide), ?_⟩
      rw [e71, show n = nbS T by omega]
    iterate 14
      intros
      omega
  | succ m ih =>
    intro F1 n hm hq e69 e70 e72 e71
    have e11 : (sy_i F1 11).toInt = (sy_i F 11).toInt := congrArg Int32.toInt (qq_i hq (by decide) (by decide))
    have e35 : ((sy_ai F1 35).getD (sy_i F1 11).toInt.toNat 0).toInt = (nbS T : Int) := by rw [qq_a hq (by decide) (by decide), e11]; exact en
    have row : ∀ a i : Nat, vlS (nfS T) (nbS T) a i → (sy_ai F1 55).getD (ra a + i) 0 = g a i := fun a i h => by
      rw [qq_a hq (by decide) (by decide)]
      exact hG a i h
    have r49 : (sy_ai F1 55).getD (49 + (sy_i F1 72).toInt).toNat 0 = g 7 n := by
      rw [show (49 + (sy_i F1 72).toInt).toNat = ra 7 + n by show _ = 49 + n; omega]
      exact row 7 n (vB (Or.inl rfl) (by omega))
    have r53 : (sy_ai F1 55).getD (53 + (sy_i F1 72).toInt).toNat 0 = g 8 n := by
      rw [show (53 + (sy_i F1 72).toInt).toNat = ra 8 + n by show _ = 53 + n; omega]
      exact row 8 n (vB (Or.inr rfl) (by omega))
    have rea : ((sy_ai F1 37).getD (4 * (sy_i F1 11).toInt + (sy_i F1 72).toInt).toNat 0).toInt = (tB T n).2.1 := by
      rw [qq_a hq (by decide) (by decide), e11, show (4 * (sy_i F 11).toInt + (sy_i F1 72).toInt).toNat = 4 * (sy_i F 11).toInt.toNat + n by omega]
      exact (rX_b hC.2.1 (show n < T.2.1.length by show n < nbS T; omega)).2.1
    have hbd := hC.2.2.2.2.1 (tB T n) (by unfold tB; rw [List.getD_eq_getElem?_getD, List.getElem?_eq_getElem (show n < T.2.1.length by show n < nbS T; omega)]; exact List.getElem_mem _)
    have hst := hO.1 n (by omega)
    have hnr := nr_in T g x c n
    have hn1 : (nrS T g x c n).1 = -2 ∧ (nrS T g x c n).2 = 4 ∨ (0 ≤ (nrS T g x c n).1 ∧ (nrS T g x c n).1 < n ∧ (nrS T g x c n).2 = (((g 7 (nrS T g x c n).1.toNat).toInt - x).natAbs : Int) ∧ 0 ≤ (g 7 (nrS T g x c n).1.toNat).toInt ∧ (g 7 (nrS T g x c n).1.toNat).toInt ≤ 9 ∧ (sy_ai F1 55).getD (49 + (sy_i F1 71).toInt).toNat 0 = g 7 (nrS T g x c n).1.toNat) := by
      rcases hnr with h | h
      · left
        rw [h]
        exact ⟨rfl, rfl⟩
      · right
        have hs2 := hO.1 (nrS T g x c n).1.toNat (by omega)
        refine ⟨h.1, h.2.1, h.2.2, hs2.1, hs2.2, ?_⟩
        rw [show (49 + (sy_i F1 71).toInt).toNat = ra 7 + (nrS T g x c n).1.toNat by show _ = 49 + _; omega]
        exact row 7 _ (vB (Or.inl rfl) (by omega))
    have d1 : (g 7 n - sy_i F1 70).toInt = (g 7 n).toInt - x := by rw [nz_sub rfl e70 (by omega) (by omega)]
    have d2 : (sy_i F1 70 - g 7 n).toInt = x - (g 7 n).toInt := by rw [nz_sub e70 rfl (by omega) (by omega)]
    have hstep : (nrS T g x c (n + 1)) = if (((g 7 n).toInt - x).natAbs : Int) ≤ (tB T n).2.1 ∧ (((g 7 n).toInt - x).natAbs : Int) < (nrS T g x c n).2 ∧ c ≤ (g 8 n).toInt then ((n : Int), (((g 7 n).toInt - x).natAbs : Int)) else nrS T g x c n := rfl
    have yes : ∀ F2 : Nat → sy_d, iv_in F2 iv_B4 → (∀ j, j < 69 → j ∉ ([] : List Nat) → F2 j = F1 j) → (sy_i F2 69).toInt = (sy_i F1 69).toInt → (sy_i F2 70).toInt = (sy_i F1 70).toInt → (sy_i F2 71).toInt = (sy_i F1 72).toInt → (sy_i F2 72).toInt = (sy_i F1 72).toInt + 1 → ((((g 7 n).toInt - x).natAbs : Int) ≤ (tB T n).2.1 ∧ (((g 7 n).toInt - x).natAbs : Int) < (nrS T g x c n).2 ∧ c ≤ (g 8 n).toInt) → hd_W Ls xs 2 jm_M187 (pI 4 X1 X2 (fun y F' => qR [] F F' ∧ y.toInt = (nrS T g x c (nbS T)).1)) (22, sy_dL F2 [some (.inl (.ref 1000)), none, some (.inr (.inl 69)), some (.inr (.inl 70)), some (.inr (.inl 71)), some (.inr (.inl 72)), none], sy_dS F2 [], sy_dh F2 X1 X2 (iv_H 4), 0, 0) := fun F2 hb gg f69 f70 f71 f72 h => ih F2 (n + 1) (by omega) (qq_on hq hb gg (by decide)) (by omega) (by omega) (by omega) (by rw [hstep, if_pos h]; show _ = (n : Int); omega)
    have no : ∀ F2 : Nat → sy_d, iv_in F2 iv_B4 → (∀ j, j < 69 → j ∉ ([] : List Nat) → F2 j = F1 j) → (sy_i F2 69).toInt = (sy_i F1 69).toInt → (sy_i F2 70).toInt = (sy_i F1 70).toInt → (sy_i F2 71).toInt = (sy_i F1 71).toInt → (sy_i F2 72).toInt = (sy_i F1 72).toInt + 1 → ¬ ((((g 7 n).toInt - x).natAbs : Int) ≤ (tB T n).2.1 ∧ (((g 7 n).toInt - x).natAbs : Int) < (nrS T g x c n).2 ∧ c ≤ (g 8 n).toInt) → hd_W Ls xs 2 jm_M187 (pI 4 X1 X2 (fun y F' => qR [] F F' ∧ y.toInt = (nrS T g x c (nbS T)).1)) (22, sy_dL F2 [some (.inl (.ref 1000)), none, some (.inr (.inl 69)), some (.inr (.inl 70)), some (.inr (.inl 71)), some (.inr (.inl 72)), none], sy_dS F2 [], sy_dh F2 X1 X2 (iv_H 4), 0, 0) := fun F2 hb gg f69 f70 f71 f72 h => ih F2 (n + 1) (by omega) (qq_on hq hb gg (by decide)) (by omega) (by omega) (by omega) (by rw [hstep, if_neg h]; omega)
    have bst : 0 ≤ (sy_i F1 71).toInt → ∃ z : Int, (sy_ai F1 55).getD (49 + (sy_i F1 71).toInt).toNat 0 = g 7 (nrS T g x c n).1.toNat ∧ (g 7 (nrS T g x c n).1.toNat).toInt = z ∧ (0 ≤ z ∧ z ≤ 9) ∧ (nrS T g x c n).2 = ((z - x).natAbs : Int) ∧ (g 7 (nrS T g x c n).1.toNat - sy_i F1 70).toInt = z - x ∧ (sy_i F1 70 - g 7 (nrS T g x c n).1.toNat).toInt = x - z := fun q => by
      rcases hn1 with h | ⟨h1, h2, h3, h4, h5, h6⟩
      · omega
      · exact ⟨_, h6, rfl, ⟨h4, h5⟩, h3, by rw [nz_sub rfl e70 (by omega) (by omega)], by rw [nz_sub e70 rfl (by omega) (by omega)]⟩
    have neg4 : (sy_i F1 71).toInt < 0 → (nrS T g x c n).2 = 4 := fun q => by
      rcases hn1 with h | h
      · exact h.2
      · omega
    have hr3 : (tB T n).2.1 ≤ 3 := hbd.2.1.2
    have b72 : 0 ≤ (sy_i F1 72).toInt ∧ (sy_i F1 72).toInt ≤ 4 := by
      clear hnr hn1 bst neg4 hstep yes no
      omega
    have b71 : -2 ≤ (sy_i F1 71).toInt ∧ (sy_i F1 71).toInt ≤ 3 := by
      rw [e71]
      rcases hnr with h | ⟨h1, h2, -⟩
      · rw [h]
        exact ⟨(by decide : (-2 : Int) ≤ -2), (by decide : (-2 : Int) ≤ 3)⟩
      · clear hn1 bst neg4 hstep yes no
        omega
    refine yca_22 (by decide) F1 X1 X2 hq.1 b71 b72 ?_ ?_ ?_ ?_ ?_ ?_ ?_ ?_ ?_ ?_ ?_ ?_ ?_ ?_ ?_
    · intros
      omega
    · intro c0 c1 c2 F2 hb gg f69 i69 f70 i70 f71 i71 f72 i72
      rw [r49] at c1
      rw [rea, r49, d1] at c2
      exact no F2 hb gg f69 f70 f71 f72 (by omega)
    · intro c0 c1 c2 c3 c4 F2 hb gg f69 i69 f70 i70 f71 i71 f72 i72
      rw [r49] at c1
      rw [rea, r49, d1] at c2
      rw [r53, e69] at c3
      have n4 := neg4 c4
      exact yes F2 hb gg f69 f70 f71 f72 (by omega)
    · intro c0 c1 c2 c3 c4 c5 c6 F2 hb gg f69 i69 f70 i70 f71 i71 f72 i72
      rw [r49] at c1
      rw [rea, r49, d1] at c2
      rw [r53, e69] at c3
      obtain ⟨z, z1, z2, z3, z4, z5, z6⟩ := bst c4
      rw [z1] at c5 c6
      rw [r49, d1, z5] at c6
      exact no F2 hb gg f69 f70 f71 f72 (by omega)
    · intro c0 c1 c2 c3 c4 c5 c6 F2 hb gg f69 i69 f70 i70 f71 i71 f72 i72
      rw [r49] at c1
      rw [rea, r49, d1] at c2
      rw [r53, e69] at c3
      obtain ⟨z, z1, z2, z3, z4, z5, z6⟩ := bst c4
      rw [z1] at c5 c6
      rw [r49, d1, z5] at c6
      exact yes F2 hb gg f69 f70 f71 f72 (by omega)
    · intro c0 c1 c2 c3 c4 c5 c6 F2 hb gg f69 i69 f70 i70 f71 i71 f72 i72
      rw [r49] at c1
      rw [rea, r49, d1] at c2
      rw [r53, e69] at c3
      obtain ⟨z, z1, z2, z3, z4, z5, z6⟩ := bst c4
      rw [z1] at c5 c6
      rw [r49, d1, z6] at c6
      exact no F2 hb gg f69 f70 f71 f72 (by omega)
    · intro c0 c1 c2 c3 c4 c5 c6 F2 hb gg f69 i69 f70 i70 f71 i71 f72 i72
      rw [r49] at c1
      rw [rea, r49, d1] at c2
      rw [r53, e69] at c3
      obtain ⟨z, z1, z2, z3, z4, z5, z6⟩ := bst c4
      rw [z1] at c5 c6
      rw [r49, d1, z6] at c6
      exact yes F2 hb gg f69 f70 f71 f72 (by omega)
    · intro c0 c1 c2 c3 F2 hb gg f69 i69 f70 i70 f71 i71 f72 i72
      rw [r49] at c1
      rw [rea, r49, d1] at c2
      rw [r53, e69] at c3
      exact no F2 hb gg f69 f70 f71 f72 (by omega)
    · intro c0 c1 c2 F2 hb gg f69 i69 f70 i70 f71 i71 f72 i72
      rw [r49] at c1
      rw [rea, r49, d2] at c2
      exact no F2 hb gg f69 f70 f71 f72 (by omega)
    · intro c0 c1 c2 c3 c4 F2 hb gg f69 i69 f70 i70 f71 i71 f72 i72
      rw [r49] at c1
      rw [rea, r49, d2] at c2
      rw [r53, e69] at c3
      have n4 := neg4 c4
      exact yes F2 hb gg f69 f70 f71 f72 (by omega)
    · intro c0 c1 c2 c3 c4 c5 c6 F2 hb gg f69 i69 f70 i70 f71 i71 f72 i72
      rw [r49] at c1
      rw [rea, r49, d2] at c2
      rw [r53, e69] at c3
      obtain ⟨z, z1, z2, z3, z4, z5, z6⟩ := bst c4
      rw [z1] at c5 c6
      rw [r49, d2, z5] at c6
      exact no F2 hb gg f69 f70 f71 f72 (by omega)
    · intro c0 c1 c2 c3 c4 c5 c6 F2 hb gg f69 i69 f70 i70 f71 i71 f72 i72
      rw [r49] at c1
      rw [rea, r49, d2] at c2
      rw [r53, e69] at c3
      obtain ⟨z, z1, z2, z3, z4, z5, z6⟩ := bst c4
      rw [z1] at c5 c6
      rw [r49, d2, z5] at c6
      exact yes F2 hb gg f69 f70 f71 f72 (by omega)
    · intro c0 c1 c2 c3 c4 c5 c6 F2 hb gg f69 i69 f70 i70 f71 i71 f72 i72
      rw [r49] at c1
      rw [rea, r49, d2] at c2
      rw [r53, e69] at c3
      obtain ⟨z, z1, z2, z3, z4, z5, z6⟩ := bst c4
      rw [z1] at c5 c6
      rw [r49, d2, z6] at c6
      exact no F2 hb gg f69 f70 f71 f72 (by omega)
    · intro c0 c1 c2 c3 c4 c5 c6 F2 hb gg f69 i69 f70 i70 f71 i71 f72 i72
      rw [r49] at c1
      rw [rea, r49, d2] at c2
      rw [r53, e69] at c3
      obtain ⟨z, z1, z2, z3, z4, z5, z6⟩ := bst c4
      rw [z1] at c5 c6
      rw [r49, d2, z6] at c6
      exact yes F2 hb gg f69 f70 f71 f72 (by omega)
    · intro c0 c1 c2 c3 F2 hb gg f69 i69 f70 i70 f71 i71 f72 i72
      rw [r49] at c1
      rw [rea, r49, d2] at c2
      rw [r53, e69] at c3
      exact no F2 hb gg f69 f70 f71 f72 (by omega)
end KR
