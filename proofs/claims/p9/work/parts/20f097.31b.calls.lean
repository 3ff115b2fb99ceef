/-! ===== the reference: rows kept ===== -/
/-- from p on the list holds g -/
def gLo (nf nb : Nat) (l : List Int32) (p : Nat) (g : gS) : Prop := ∀ a i, vlS nf nb a i → l.getD (p + (ra a + i)) 0 = g a i
theorem gLo_0 {nf nb : Nat} {l : List Int32} {g : gS} (h : gL nf nb l g) {l' : List Int32} {p : Nat} (hf : nf ≤ 7) (hb : nb ≤ 4) (e : ∀ j, j < 61 → l'.getD (p + j) 0 = l.getD j 0) : gLo nf nb l' p g := fun a i hv => (e _ (vl_61 hf hb hv)).trans (h a i hv)
theorem gLo_L {nf nb : Nat} {l : List Int32} {g : gS} {p : Nat} (h : gLo nf nb l p g) {l' : List Int32} (hf : nf ≤ 7) (hb : nb ≤ 4) (e : ∀ j, j < 61 → l'.getD j 0 = l.getD (p + j) 0) : gL nf nb l' g := fun a i hv => (e _ (vl_61 hf hb hv)).trans (h a i hv)
theorem gLo_e {nf nb : Nat} {l l' : List Int32} {g : gS} {p p' : Nat} (h : gLo nf nb l p g) (hf : nf ≤ 7) (hb : nb ≤ 4) (e : ∀ j, j < 61 → l'.getD (p' + j) 0 = l.getD (p + j) 0) : gLo nf nb l' p' g := fun a i hv => (e _ (vl_61 hf hb hv)).trans (h a i hv)
/-- the grounds before, the newest first -/
def hiK (nf nb : Nat) (l : List Int32) : List gS → Prop
  | [] => True
  | g :: U => gLo nf nb l (61 * U.length) g ∧ hiK nf nb l U
def hiR (nf nb : Nat) (F : Nat → sy_d) (U : List gS) : Prop := (sy_i F 20).toInt = U.length ∧ U.length ≤ 40 ∧ hiK nf nb (sy_ai F 60) U
theorem hiK_eq {nf nb : Nat} {l l' : List Int32} (hf : nf ≤ 7) (hb : nb ≤ 4) : ∀ U : List gS, (∀ j, j < 61 * U.length → l'.getD j 0 = l.getD j 0) → hiK nf nb l U → hiK nf nb l' U
  | [], _, _ => trivial
  | g :: U, e, h => ⟨gLo_e h.1 hf hb (fun j hj => e _ (by simp only [List.length_cons]; omega)), hiK_eq hf hb U (fun j hj => e j (by simp only [List.length_cons]; omega)) h.2⟩
theorem hiK_dr {nf nb : Nat} {l l' : List Int32} (hf : nf ≤ 7) (hb : nb ≤ 4) : ∀ U : List gS, (∀ j, j + 61 < 61 * U.length → l'.getD j 0 = l.getD (j + 61) 0) → hiK nf nb l U → hiK nf nb l' U.dropLast
  | [], _, _ => trivial
  | [g], _, _ => trivial
  | g :: g' :: U, e, h => by
    refine ⟨?_, hiK_dr hf hb (g' :: U) (fun j hj => e j (by simp only [List.length_cons] at hj ⊢; omega)) h.2⟩
    show gLo nf nb l' (61 * (g' :: U).dropLast.length) g
    have e2 : (g' :: U).dropLast.length = U.length := by
      rw [List.length_dropLast]
      rfl
    rw [e2]
    refine gLo_e h.1 hf hb (fun j hj => ?_)
    rw [e _ (by simp only [List.length_cons]; omega)]
    rw [show 61 * U.length + j + 61 = 61 * (g' :: U).length + j by simp only [List.length_cons]; omega]
theorem hiR_e {nf nb : Nat} {F F1 : Nat → sy_d} {U : List gS} (h : hiR nf nb F U) (e2 : F1 20 = F 20) (e6 : F1 60 = F 60) : hiR nf nb F1 U := by
  unfold hiR
  rw [nz_fi e2, nz_fa e6]
  exact h
section RC
variable {Ls : Nat} {xs : Nat → Int32} {T : tX} {g : gS} (F : Nat → sy_d) (X1 X2 : List jm_c)
noncomputable def rcP (u : Nat) (l : List Int32) (F F' : Nat → sy_d) : Prop := qR [20, 54, 60] F F' ∧ (sy_i F' 20).toInt = (u + 1 : Nat) ∧ (∀ j, j < 61 * u → (sy_ai F' 60).getD j 0 = l.getD j 0) ∧ (∀ j, j < 61 → (sy_ai F' 60).getD (61 * u + j) 0 = (sy_ai F 54).getD j 0) ∧ ∀ j, j < 61 → (sy_ai F' 54).getD j 0 = (sy_ai F 55).getD j 0
theorem rc_51 {u : Nat} (hu : u ≤ 39) {l : List Int32} : ∀ (m : Nat) (F1 : Nat → sy_d) (n : Nat), n + m = 61 → qR [20, 60] F F1 → (sy_i F1 20).toInt = u → (sy_i F1 69).toInt = n → (∀ j, j < 61 * u → (sy_ai F1 60).getD j 0 = l.getD j 0) → (∀ j, j < n → (sy_ai F1 60).getD (61 * u + j) 0 = (sy_ai F 54).getD j 0) →
    hd_W Ls xs 2 jm_M200 (pV 4 X1 X2 (rcP u l F)) (51, sy_dL F1 [some (.inl (.ref 1000)), some (.inr (.inl 69))], sy_dS F1 [], sy_dh F1 X1 X2 (iv_H 4), 0, 0) := by
  intro m
  induction m with
  | zero =>
    intro F1 n hm hq e20 e69 hl hn
    refine zrc_51 (by decide) F1 X1 X2 hq.1 (by omega) (by omega) (by omega) ?_ ?_
    · intro c0 F2 hb gg f20 i20
      have q2 : qR [20, 60] F F2 := qq_on hq hb gg (by decide)
      refine hd_calV (R := fun F' => qR [54] F2 F' ∧ ∀ j, j < 61 → (sy_ai F' 54).getD j 0 = (sy_ai F2 55).getD j 0) (nh := 69) (nv := 69) (s := 4) (s1 := 4) (d1 := 1) (M1 := jm_M172) (As := [.inl (.ref 1000)]) (rest := []) jm_ok200 rfl rfl (by decide) (by decide +kernel) (kr_V F2 X1 X2 hb) (fun F3 F' hR p1 p2 => ?_)
      obtain ⟨r1, r2⟩ := hR
      have r1' : qR [54] F2 F3 := qR_dst r1 p1
      refine zrc_97 (by decide) F3 X1 X2 r1'.1 ?_
      intro F4 hb4 g4
      have q4 : qR [54] F2 F4 := qq_on r1' hb4 g4 (by decide)
      refine ⟨F4, rfl, rfl, qq_trans (qq_up q2 (by decide)) (qq_up q4 (by decide)), ?_, fun j hj => ?_, fun j hj => ?_, fun j hj => ?_⟩
      · rw [qq_i q4 (by decide) (by decide)]
        omega
      · rw [qq_a q4 (by decide) (by decide), nz_fa (gg 60 (by decide) (by decide))]
        exact hl j hj
      · rw [qq_a q4 (by decide) (by decide), nz_fa (gg 60 (by decide) (by decide))]
        exact hn j (by omega)
      · rw [nz_fa (g4 54 (by decide) (by decide)), nz_fa (p1 54 (by decide)), r2 j hj, qq_a q2 (by decide) (by decide)]
    · intros
      omega
  | succ m ih =>
    intro F1 n hm hq e20 e69 hl hn
    refine zrc_51 (by decide) F1 X1 X2 hq.1 (by omega) (by omega) (by omega) ?_ ?_
    · intros
      omega
    · intro c0 F2 hb gg a60 f69 i69
      have en : (sy_i F1 69).toInt.toNat = n := by omega
      have ei : (61 * (sy_i F1 20).toInt + (sy_i F1 69).toInt).toNat = 61 * u + n := by omega
      rw [en, ei, qq_a hq (j := 54) (by decide) (by decide)] at a60
      refine ih F2 (n + 1) (by omega) (qq_on hq hb gg (by decide)) (by rw [nz_fi (gg 20 (by decide) (by decide))]; exact e20) (by omega) (fun j hj => ?_) (fun j hj => ?_)
      · rw [a60, jm_upd_at, if_neg (by omega)]
        exact hl j hj
      · rw [a60, jm_upd_at]
        by_cases q : j = n
        · rw [if_pos (by omega), q]
        · rw [if_neg (by omega)]
          exact hn j (by omega)
theorem rc_11 (h20 : (sy_i F 20).toInt = 40) : ∀ (m : Nat) (F1 : Nat → sy_d) (n : Nat), n + m = 2379 → qR [60] F F1 → (sy_i F1 69).toInt = n → (∀ j, j < n → (sy_ai F1 60).getD j 0 = (sy_ai F 60).getD (j + 61) 0) → (∀ j, n ≤ j → (sy_ai F1 60).getD j 0 = (sy_ai F 60).getD j 0) →
    hd_W Ls xs 2 jm_M200 (pV 4 X1 X2 (fun F' => ∃ l : List Int32, (∀ j, j < 2379 → l.getD j 0 = (sy_ai F 60).getD (j + 61) 0) ∧ rcP 39 l F F')) (11, sy_dL F1 [some (.inl (.ref 1000)), some (.inr (.inl 69))], sy_dS F1 [], sy_dh F1 X1 X2 (iv_H 4), 0, 0) := by
  intro m
  induction m with
  | zero =>
    intro F1 n hm hq e69 h1 h2
    have e20 : (sy_i F1 20).toInt = 40 := by rw [qq_i hq (by decide) (by decide)]; exact h20
    refine zrc_11 (by decide) F1 X1 X2 hq.1 (by omega) (by omega) ?_ ?_
    · intro c0 F2 hb gg f20 i20 f69 i69
      have a60 := nz_fa (gg 60 (by decide) (by decide))
      refine hd_mono (rc_51 F X1 X2 (u := 39) (by decide) (l := sy_ai F2 60) 61 F2 0 (by omega) (qq_on (qq_up hq (by decide)) hb gg (by decide)) (by omega) f69 (fun j _ => rfl) (fun j hj => absurd hj (by omega))) ?_
      rintro v G ⟨F', e1, e2, e3⟩
      refine ⟨F', e1, e2, _, fun j hj => ?_, e3⟩
      rw [a60]
      exact h1 j (by omega)
    · intros
      omega
  | succ m ih =>
    intro F1 n hm hq e69 h1 h2
    have e20 : (sy_i F1 20).toInt = 40 := by rw [qq_i hq (by decide) (by decide)]; exact h20
    refine zrc_11 (by decide) F1 X1 X2 hq.1 (by omega) (by omega) ?_ ?_
    · intros
      omega
    · intro c0 F2 hb gg a60 f69 i69
      have en : (sy_i F1 69).toInt.toNat = n := by omega
      have ei : ((sy_i F1 69).toInt + 61).toNat = n + 61 := by omega
      rw [en, ei] at a60
      refine ih F2 (n + 1) (by omega) (qq_on hq hb gg (by decide)) (by omega) (fun j hj => ?_) (fun j hj => ?_)
      · rw [a60, jm_upd_at]
        by_cases q : j = n
        · rw [if_pos q, q]
          exact h2 _ (by omega)
        · rw [if_neg q]
          exact h1 j (by omega)
      · rw [a60, jm_upd_at, if_neg (by omega)]
        exact h2 j (by omega)
/-- what is done is recorded -/
theorem rc_V {nf nb : Nat} {g' : gS} (hf : nf ≤ 7) (hb : nb ≤ 4) (hB : iv_in F iv_B4) (hN : gL nf nb (sy_ai F 54) g) (hR : gL nf nb (sy_ai F 55) g') {U : List gS} (hU : hiR nf nb F U) : jm_T Ls xs 2 jm_M200 [.ref 1000] (sy_dh F X1 X2 (iv_H 4)) 0 0 (pV 4 X1 X2 (fun F' => qR [20, 54, 60] F F' ∧ gL nf nb (sy_ai F' 54) g' ∧ hiR nf nb F' (rmS g U))) := by
  obtain ⟨u1, u2, u3⟩ := hU
  refine hd_T (As := [.inl (.ref 1000)]) jm_ok200 (by decide) (zrc_0 (by decide) F X1 X2 hB ?_ ?_)
  · intro c0 F1 hb1 gg e69 i69
    have hn : U.length ≠ 40 := by omega
    have f1 : ∀ j, j < 69 → F1 j = F j := fun j hj => gg j hj (by simp)
    refine hd_mono (rc_51 F X1 X2 (u := U.length) (by omega) (l := sy_ai F 60) 61 F1 0 (by omega) (qq_mk hb1 gg (by decide)) (by rw [nz_fi (f1 20 (by decide))]; exact u1) e69 (fun j _ => by rw [nz_fa (f1 60 (by decide))]) (fun j hj => absurd hj (by omega))) ?_
    rintro v G ⟨F', e1, e2, r1, r2, r3, r4, r5⟩
    refine ⟨F', e1, e2, r1, gL_eq hf hb hR r5, ?_⟩
    unfold rmS
    rw [if_neg hn]
    exact ⟨r2, by simp only [List.length_cons]; omega, gLo_0 hN hf hb r4, hiK_eq hf hb U r3 u3⟩
  · intro c0 F1 hb1 gg e69 i69
    have hn : U.length = 40 := by omega
    have f1 : ∀ j, j < 69 → F1 j = F j := fun j hj => gg j hj (by simp)
    refine hd_mono (rc_11 F X1 X2 c0 2379 F1 0 (by omega) (qq_mk hb1 gg (by decide)) e69 (fun j hj => absurd hj (by omega)) (fun j _ => by rw [nz_fa (f1 60 (by decide))])) ?_
    rintro v G ⟨F', e1, e2, l, hl, r1, r2, r3, r4, r5⟩
    have hd : U.dropLast.length = 39 := by rw [List.length_dropLast, hn]
    refine ⟨F', e1, e2, r1, gL_eq hf hb hR r5, ?_⟩
    unfold rmS
    rw [if_pos hn]
    refine ⟨by rw [r2]; simp only [List.length_cons, hd], by simp only [List.length_cons, hd]; omega, ?_, ?_⟩
    · show gLo nf nb _ (61 * U.dropLast.length) g
      rw [hd]
      exact gLo_0 hN hf hb r4
    · refine hiK_dr hf hb U (fun j hj => ?_) u3
      rw [hn] at hj
      rw [r3 j (by omega)]
      exact hl j (by omega)
/-- the row that stands now -/
def gNw (T : tX) (F : Nat → sy_d) (g : gS) : Prop := gL (nfS T) (nbS T) (sy_ai F 54) g
theorem gNw_e {F1 : Nat → sy_d} (h : gNw T F g) (e : sy_ai F1 54 = sy_ai F 54) : gNw T F1 g := by
  unfold gNw
  rw [e]
  exact h
theorem gRow_c (hC : cR T F) (hN : gNw T F g) {F1 : Nat → sy_d} (e : ∀ j, j < 61 → (sy_ai F1 55).getD j 0 = (sy_ai F 54).getD j 0) : gRow T F1 g := gL_eq hC.2.2.1.1 hC.2.2.1.2.1 hN e
end RC
section RG
variable {Ls : Nat} {xs : Nat → Int32} {T : tX} {g : gS} (F : Nat → sy_d) (X1 X2 : List jm_c)
theorem rgo_V (hC : cR T F) (hN : gNw T F g) {U : List gS} (hU : hiR (nfS T) (nbS T) F U) (b v : Int32) : jm_T Ls xs 3 jm_M201 [.ref 1000, .int b, .int v] (sy_dh F X1 X2 (iv_H 4)) 0 0 (pI 4 X1 X2 (fun x F' => (¬ (0 ≤ b.toInt ∧ b.toInt < nbS T ∧ 0 ≤ v.toInt ∧ v.toInt ≤ 9 ∧ g 7 b.toInt.toNat ≠ v) → x = 0 ∧ qR [] F F') ∧ (0 ≤ b.toInt ∧ b.toInt < nbS T ∧ 0 ≤ v.toInt ∧ v.toInt ≤ 9 ∧ g 7 b.toInt.toNat ≠ v → x = 1 ∧ qR [18, 20, 54, 55, 60] F F' ∧ gNw T F' (upS g 7 b.toInt.toNat v) ∧ hiR (nfS T) (nbS T) F' (rmS g U)))) := by
  have l7 : nfS T ≤ 7 := hC.2.2.1.1
  have l4 : nbS T ≤ 4 := hC.2.2.1.2.1
  refine R_T [b, v] [.inl (.ref 1000), .inr (.inl 69), .inr (.inl 70)] jm_ok201 (by decide) rfl (fun F0 k0 ki => ?_)
  have i69 : sy_i F0 69 = b := ki 0
  have i70 : sy_i F0 70 = v := ki 1
  have z69 : (sy_i F0 69).toInt = b.toInt := congrArg Int32.toInt i69
  have z70 : (sy_i F0 70).toInt = v.toInt := congrArg Int32.toInt i70
  have en : ((sy_ai F0 35).getD (sy_i F0 11).toInt.toNat 0).toInt = (nbS T : Int) := by rw [nz_fa (k0 35 (by decide)), nz_fi (k0 11 (by decide))]; exact (rX_n hC.2.1).2.1
  have rd : 0 ≤ b.toInt → b.toInt < nbS T → (sy_ai F0 54).getD (49 + (sy_i F0 69).toInt).toNat 0 = g 7 b.toInt.toNat := fun h1 h2 => by
    rw [nz_fa (k0 54 (by decide)), show (49 + (sy_i F0 69).toInt).toNat = ra 7 + b.toInt.toNat by show _ = 49 + _; omega]
    exact hN 7 _ (vB (Or.inl rfl) (by omega))
  have no : ∀ F1 : Nat → sy_d, iv_in F1 iv_B4 → (∀ j, j < 69 → j ∉ ([] : List Nat) → F1 j = F0 j) → ¬ (0 ≤ b.toInt ∧ b.toInt < nbS T ∧ 0 ≤ v.toInt ∧ v.toInt ≤ 9 ∧ g 7 b.toInt.toNat ≠ v) → pI 4 X1 X2 (fun x F' => (¬ (0 ≤ b.toInt ∧ b.toInt < nbS T ∧ 0 ≤ v.toInt ∧ v.toInt ≤ 9 ∧ g 7 b.toInt.toNat ≠ v) → x = 0 ∧ qR [] F F') ∧ (0 ≤ b.toInt ∧ b.toInt < nbS T ∧ 0 ≤ v.toInt ∧ v.toInt ≤ 9 ∧ g 7 b.toInt.toNat ≠ v → x = 1 ∧ qR [18, 20, 54, 55, 60] F F' ∧ gNw T F' (upS g 7 b.toInt.toNat v) ∧ hiR (nfS T) (nbS T) F' (rmS g U))) (some (.int (0 : Int32))) (sy_dh F1 X1 X2 (iv_H 4)) := fun F1 hb1 gg h => ⟨_, F1, rfl, rfl, fun _ => ⟨rfl, qq_src (qq_mk hb1 gg (by decide)) k0⟩, fun z => absurd z h⟩
  refine zgo_0 (by decide) F0 X1 X2 (hd_iveq hC.1 k0) ?_ ?_ ?_ ?_ ?_ ?_
  · intro c0 F1 hb1 gg
    exact no F1 hb1 gg (fun h => absurd h.1 (by omega))
  · intro c0 c1 F1 hb1 gg
    exact no F1 hb1 gg (fun h => absurd h.2.1 (by omega))
  · intro c0 c1 c2 F1 hb1 gg
    exact no F1 hb1 gg (fun h => absurd h.2.2.1 (by omega))
  · intro c0 c1 c2 c3 F1 hb1 gg
    exact no F1 hb1 gg (fun h => absurd h.2.2.2.1 (by omega))
  · intro c0 c1 c2 c3 c4 F1 hb1 gg e69 j69 e70 j70
    rw [rd (by omega) (by omega)] at c4
    have hne : g 7 b.toInt.toNat ≠ v := fun z => c4 (by rw [z]; omega)
    have q1 : qR [] F F1 := qq_src (qq_mk hb1 gg (by decide)) k0
    have c1' := cR_q hC q1 (by decide)
    refine hd_calV (R := fun F' => qR [18, 55] F1 F' ∧ (∀ j, j < 61 → (sy_ai F' 55).getD j 0 = (sy_ai F1 54).getD j 0) ∧ sy_i F' 18 = Int32.ofInt T.2.2.2.2.1) (nh := 69) (nv := 71) (s := 4) (s1 := 4) (d1 := 1) (M1 := jm_M173) (As := [.inl (.ref 1000)]) (rest := []) jm_ok201 rfl rfl (by decide) (by decide +kernel) (cp_V F1 X1 X2 c1') (fun F3 F' hR p1 p2 => ?_)
    obtain ⟨r1, r2, r3⟩ := hR
    have r1' : qR [18, 55] F1 F3 := qR_dst r1 p1
    have k69 : sy_i F3 69 = b := (eI (p2 69 (by decide) (by decide))).trans (j69.trans i69)
    have k70 : sy_i F3 70 = v := (eI (p2 70 (by decide) (by decide))).trans (j70.trans i70)
    have q3 : qR [18, 55] F F3 := qq_trans (qq_up q1 (by decide)) r1'
    have w3 : gRow T F3 g := gRow_c F hC hN (fun j hj => by rw [nz_fa (p1 55 (by decide)), r2 j hj, qq_a q1 (by decide) (by decide)])
    refine zgo_37 (by decide) F3 X1 X2 q3.1 (by rw [k69]; omega) (by rw [k70]; omega) ?_
    intro F4 hb4 g4 a55 f69 l69 f70 l70
    rw [k69, k70] at a55
    have q4 : qR [18, 55] F F4 := qq_on q3 hb4 g4 (by decide)
    have w4 : gL (nfS T) (nbS T) (sy_ai F4 55) (upS g 7 b.toInt.toNat v) := by
      rw [a55]
      exact gL_up l7 l4 w3 (vB (Or.inl rfl) (by omega)) (show (49 + b.toInt).toNat = 49 + b.toInt.toNat by omega)
    refine hd_calV (R := fun F' => qR [20, 54, 60] F4 F' ∧ gL (nfS T) (nbS T) (sy_ai F' 54) (upS g 7 b.toInt.toNat v) ∧ hiR (nfS T) (nbS T) F' (rmS g U)) (nh := 69) (nv := 71) (s := 4) (s1 := 4) (d1 := 2) (M1 := jm_M200) (As := [.inl (.ref 1000)]) (rest := []) jm_ok201 rfl rfl (by decide) (by decide +kernel) (rc_V F4 X1 X2 l7 l4 hb4 (gNw_e F hN (qq_a q4 (by decide) (by decide))) w4 (hiR_e hU (q4.2 20 (by decide) (by decide)) (q4.2 60 (by decide) (by decide)))) (fun F5 F6 hR5 s1 s2 => ?_)
    obtain ⟨u1, u2, u3⟩ := hR5
    have q5 : qR [18, 20, 54, 55, 60] F F5 := qq_trans (qq_up q4 (by decide)) (qq_up (qR_dst u1 s1) (by decide))
    refine zgo_51 (by decide) F5 X1 X2 q5.1 ?_
    intro F7 hb7 g7
    have f7 : ∀ j, j < 69 → F7 j = F6 j := fun j hj => (g7 j hj (by simp)).trans (s1 j hj)
    exact ⟨_, F7, rfl, rfl, fun h => absurd ⟨by omega, by omega, by omega, by omega, hne⟩ h, fun _ => ⟨rfl, qq_on q5 hb7 g7 (by decide), gNw_e F6 u2 (nz_fa (f7 54 (by decide))), hiR_e u3 (f7 20 (by decide)) (f7 60 (by decide))⟩⟩
  · intro c0 c1 c2 c3 c4 F1 hb1 gg
    rw [rd (by omega) (by omega)] at c4
    have heq : g 7 b.toInt.toNat = v := Int32.toInt_inj.mp (by omega)
    exact no F1 hb1 gg (fun h => h.2.2.2.2 heq)
theorem rpr_V (hC : cR T F) (hN : gNw T F g) (h5 : ∀ f, f < nfS T → g 5 f = 0 ∨ g 5 f = 1) {U : List gS} (hU : hiR (nfS T) (nbS T) F U) (f v : Int32) (hv : 0 ≤ v.toInt ∧ v.toInt ≤ 1) : jm_T Ls xs 3 jm_M202 [.ref 1000, .int f, .int v] (sy_dh F X1 X2 (iv_H 4)) 0 0 (pI 4 X1 X2 (fun x F' => (¬ (0 ≤ f.toInt ∧ f.toInt < nfS T ∧ (g 2 f.toInt.toNat).toInt = 0 ∧ g 5 f.toInt.toNat ≠ v) → x = 0 ∧ qR [] F F') ∧ (0 ≤ f.toInt ∧ f.toInt < nfS T ∧ (g 2 f.toInt.toNat).toInt = 0 ∧ g 5 f.toInt.toNat ≠ v → x = 1 ∧ qR [18, 20, 54, 55, 60] F F' ∧ gNw T F' (upS g 5 f.toInt.toNat v) ∧ hiR (nfS T) (nbS T) F' (rmS g U)))) := by
  have l7 : nfS T ≤ 7 := hC.2.2.1.1
  have l4 : nbS T ≤ 4 := hC.2.2.1.2.1
  refine R_T [f, v] [.inl (.ref 1000), .inr (.inl 69), .inr (.inl 70)] jm_ok202 (by decide) rfl (fun F0 k0 ki => ?_)
  have i69 : sy_i F0 69 = f := ki 0
  have i70 : sy_i F0 70 = v := ki 1
  have z69 : (sy_i F0 69).toInt = f.toInt := congrArg Int32.toInt i69
  have z70 : (sy_i F0 70).toInt = v.toInt := congrArg Int32.toInt i70
  have o0 : (0 : Int32).toInt = 0 := by decide
  have o1 : (1 : Int32).toInt = 1 := by decide
  have en : ((sy_ai F0 31).getD (sy_i F0 11).toInt.toNat 0).toInt = (nfS T : Int) := by rw [nz_fa (k0 31 (by decide)), nz_fi (k0 11 (by decide))]; exact (rX_n hC.2.1).1
  have rd : 0 ≤ f.toInt → f.toInt < nfS T → (sy_ai F0 54).getD (14 + (sy_i F0 69).toInt).toNat 0 = g 2 f.toInt.toNat := fun h1 h2 => by
    rw [nz_fa (k0 54 (by decide)), show (14 + (sy_i F0 69).toInt).toNat = ra 2 + f.toInt.toNat by show _ = 14 + _; omega]
    exact hN 2 _ (vF (by decide) (by omega))
  have rp : 0 ≤ f.toInt → f.toInt < nfS T → (sy_ai F0 54).getD (35 + (sy_i F0 69).toInt).toNat 0 = g 5 f.toInt.toNat := fun h1 h2 => by
    rw [nz_fa (k0 54 (by decide)), show (35 + (sy_i F0 69).toInt).toNat = ra 5 + f.toInt.toNat by show _ = 35 + _; omega]
    exact hN 5 _ (vF (by decide) (by omega))
  have no : ∀ F1 : Nat → sy_d, iv_in F1 iv_B4 → (∀ j, j < 69 → j ∉ ([] : List Nat) → F1 j = F0 j) → ¬ (0 ≤ f.toInt ∧ f.toInt < nfS T ∧ (g 2 f.toInt.toNat).toInt = 0 ∧ g 5 f.toInt.toNat ≠ v) → pI 4 X1 X2 (fun x F' => (¬ (0 ≤ f.toInt ∧ f.toInt < nfS T ∧ (g 2 f.toInt.toNat).toInt = 0 ∧ g 5 f.toInt.toNat ≠ v) → x = 0 ∧ qR [] F F') ∧ (0 ≤ f.toInt ∧ f.toInt < nfS T ∧ (g 2 f.toInt.toNat).toInt = 0 ∧ g 5 f.toInt.toNat ≠ v → x = 1 ∧ qR [18, 20, 54, 55, 60] F F' ∧ gNw T F' (upS g 5 f.toInt.toNat v) ∧ hiR (nfS T) (nbS T) F' (rmS g U))) (some (.int (0 : Int32))) (sy_dh F1 X1 X2 (iv_H 4)) := fun F1 hb1 gg h => ⟨_, F1, rfl, rfl, fun _ => ⟨rfl, qq_src (qq_mk hb1 gg (by decide)) k0⟩, fun z => absurd z h⟩
  have yes : ∀ F1 : Nat → sy_d, iv_in F1 iv_B4 → (∀ j, j < 69 → j ∉ ([] : List Nat) → F1 j = F0 j) → sy_i F1 69 = sy_i F0 69 → sy_i F1 70 = sy_i F0 70 → (0 ≤ f.toInt ∧ f.toInt < nfS T ∧ (g 2 f.toInt.toNat).toInt = 0 ∧ g 5 f.toInt.toNat ≠ v) → hd_W Ls xs 3 jm_M202 (pI 4 X1 X2 (fun x F' => (¬ (0 ≤ f.toInt ∧ f.toInt < nfS T ∧ (g 2 f.toInt.toNat).toInt = 0 ∧ g 5 f.toInt.toNat ≠ v) → x = 0 ∧ qR [] F F') ∧ (0 ≤ f.toInt ∧ f.toInt < nfS T ∧ (g 2 f.toInt.toNat).toInt = 0 ∧ g 5 f.toInt.toNat ≠ v → x = 1 ∧ qR [18, 20, 54, 55, 60] F F' ∧ gNw T F' (upS g 5 f.toInt.toNat v) ∧ hiR (nfS T) (nbS T) F' (rmS g U)))) (45, sy_dL F1 [some (.inl (.ref 1000)), some (.inr (.inl 69)), some (.inr (.inl 70))], sy_dS F1 [.inl (.ref 1000)], sy_dh F1 X1 X2 (iv_H 4), 0, 0) := fun F1 hb1 gg j69 j70 hk => by
    have q1 : qR [] F F1 := qq_src (qq_mk hb1 gg (by decide)) k0
    have c1' := cR_q hC q1 (by decide)
    refine hd_calV (R := fun F' => qR [18, 55] F1 F' ∧ (∀ j, j < 61 → (sy_ai F' 55).getD j 0 = (sy_ai F1 54).getD j 0) ∧ sy_i F' 18 = Int32.ofInt T.2.2.2.2.1) (nh := 69) (nv := 71) (s := 4) (s1 := 4) (d1 := 1) (M1 := jm_M173) (As := [.inl (.ref 1000)]) (rest := []) jm_ok202 rfl rfl (by decide) (by decide +kernel) (cp_V F1 X1 X2 c1') (fun F3 F' hR p1 p2 => ?_)
    obtain ⟨r1, r2, r3⟩ := hR
    have r1' : qR [18, 55] F1 F3 := qR_dst r1 p1
    have k69 : sy_i F3 69 = f := (eI (p2 69 (by decide) (by decide))).trans (j69.trans i69)
    have k70 : sy_i F3 70 = v := (eI (p2 70 (by decide) (by decide))).trans (j70.trans i70)
    have q3 : qR [18, 55] F F3 := qq_trans (qq_up q1 (by decide)) r1'
    have w3 : gRow T F3 g := gRow_c F hC hN (fun j hj => by rw [nz_fa (p1 55 (by decide)), r2 j hj, qq_a q1 (by decide) (by decide)])
    have fin : ∀ (F4 : Nat → sy_d) (w : Int32), w = v → iv_in F4 iv_B4 → (∀ j, j < 69 → j ∉ ([55] : List Nat) → F4 j = F3 j) → sy_ai F4 55 = jm_upd (sy_ai F3 55) ((35 + (sy_i F3 69).toInt)).toNat w → hd_W Ls xs 3 jm_M202 (pI 4 X1 X2 (fun x F' => (¬ (0 ≤ f.toInt ∧ f.toInt < nfS T ∧ (g 2 f.toInt.toNat).toInt = 0 ∧ g 5 f.toInt.toNat ≠ v) → x = 0 ∧ qR [] F F') ∧ (0 ≤ f.toInt ∧ f.toInt < nfS T ∧ (g 2 f.toInt.toNat).toInt = 0 ∧ g 5 f.toInt.toNat ≠ v → x = 1 ∧ qR [18, 20, 54, 55, 60] F F' ∧ gNw T F' (upS g 5 f.toInt.toNat v) ∧ hiR (nfS T) (nbS T) F' (rmS g U)))) (67, sy_dL F4 [some (.inl (.ref 1000)), some (.inr (.inl 69)), some (.inr (.inl 70))], sy_dS F4 [.inl (.ref 1000)], sy_dh F4 X1 X2 (iv_H 4), 0, 0) := fun F4 w ew hb4 g4 a55 => by
      subst ew
      rw [k69] at a55
      have q4 : qR [18, 55] F F4 := qq_on q3 hb4 g4 (by decide)
      have w4 : gL (nfS T) (nbS T) (sy_ai F4 55) (upS g 5 f.toInt.toNat w) := by
        rw [a55]
        exact gL_up l7 l4 w3 (vF (by decide) (by omega)) (show (35 + f.toInt).toNat = 35 + f.toInt.toNat by omega)
      refine hd_calV (R := fun F' => qR [20, 54, 60] F4 F' ∧ gL (nfS T) (nbS T) (sy_ai F' 54) (upS g 5 f.toInt.toNat w) ∧ hiR (nfS T) (nbS T) F' (rmS g U)) (nh := 69) (nv := 71) (s := 4) (s1 := 4) (d1 := 2) (M1 := jm_M200) (As := [.inl (.ref 1000)]) (rest := []) jm_ok202 rfl rfl (by decide) (by decide +kernel) (rc_V F4 X1 X2 l7 l4 hb4 (gNw_e F hN (qq_a q4 (by decide) (by decide))) w4 (hiR_e hU (q4.2 20 (by decide) (by decide)) (q4.2 60 (by decide) (by decide)))) (fun F5 F6 hR5 s1 s2 => ?_)
      obtain ⟨u1, u2, u3⟩ := hR5
      have q5 : qR [18, 20, 54, 55, 60] F F5 := qq_trans (qq_up q4 (by decide)) (qq_up (qR_dst u1 s1) (by decide))
      refine zpr_70 (by decide) F5 X1 X2 q5.1 ?_
      intro F7 hb7 g7
      have f7 : ∀ j, j < 69 → F7 j = F6 j := fun j hj => (g7 j hj (by simp)).trans (s1 j hj)
      exact ⟨_, F7, rfl, rfl, fun h => absurd hk h, fun _ => ⟨rfl, qq_on q5 hb7 g7 (by decide), gNw_e F6 u2 (nz_fa (f7 54 (by decide))), hiR_e u3 (f7 20 (by decide)) (f7 60 (by decide))⟩⟩
    refine zpr_48 (by decide) F3 X1 X2 q3.1 (by rw [k69]; omega) (by rw [k70]; omega) ?_ ?_
    · intro d0 F4 hb4 g4 a55 f69 l69 f70 l70
      rw [k70] at d0
      exact fin F4 0 (Int32.toInt_inj.mp (by omega)) hb4 g4 a55
    · intro d0 F4 hb4 g4 a55 f69 l69 f70 l70
      rw [k70] at d0
      exact fin F4 1 (Int32.toInt_inj.mp (by omega)) hb4 g4 a55
  refine zpr_0 (by decide) F0 X1 X2 (hd_iveq hC.1 k0) (by omega) ?_ ?_ ?_ ?_ ?_ ?_ ?_
  · intro c0 F1 hb1 gg
    exact no F1 hb1 gg (fun h => absurd h.1 (by omega))
  · intro c0 c1 F1 hb1 gg
    exact no F1 hb1 gg (fun h => absurd h.2.1 (by omega))
  · intro c0 c1 c2 F1 hb1 gg
    rw [rd (by omega) (by omega)] at c2
    exact no F1 hb1 gg (fun h => c2 h.2.2.1)
  · intro c0 c1 c2 c3 c4 F1 hb1 gg e69 j69 e70 j70
    rw [rd (by omega) (by omega)] at c2
    rw [rp (by omega) (by omega)] at c3
    have h6 := h5 f.toInt.toNat (by omega)
    have ev : v = 1 := Int32.toInt_inj.mp (by omega)
    exact yes F1 hb1 gg j69 j70 ⟨by omega, by omega, c2, fun z => c3 (by rw [z, ev]; exact o1)⟩
  · intro c0 c1 c2 c3 c4 F1 hb1 gg
    rw [rp (by omega) (by omega)] at c3
    have h6 := h5 f.toInt.toNat (by omega)
    have ev : v = 0 := Int32.toInt_inj.mp (by omega)
    refine no F1 hb1 gg (fun h => h.2.2.2 ?_)
    rcases h6 with h6 | h6
    · rw [h6, ev]
    · exact absurd (by rw [h6]; exact o1) c3
  · intro c0 c1 c2 c3 c4 F1 hb1 gg e69 j69 e70 j70
    rw [rd (by omega) (by omega)] at c2
    rw [rp (by omega) (by omega)] at c3
    have ev : v = 0 := Int32.toInt_inj.mp (by omega)
    exact yes F1 hb1 gg j69 j70 ⟨by omega, by omega, c2, fun z => by rw [z, ev] at c3; exact absurd c3 (by decide)⟩
  · intro c0 c1 c2 c3 c4 F1 hb1 gg
    rw [rp (by omega) (by omega)] at c3
    have ev : v = 1 := Int32.toInt_inj.mp (by omega)
    exact no F1 hb1 gg (fun h => h.2.2.2 (Int32.toInt_inj.mp (by rw [ev]; omega)))
end RG
