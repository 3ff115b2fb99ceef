/-! ===== the reference: what lies, what falls ===== -/
section RH
variable {Ls : Nat} {xs : Nat → Int32} {T : tX} {g : gS} (F : Nat → sy_d) (X1 X2 : List jm_c)
theorem li_L (hC : cR T F) (hG : gRow T F g) {f : Nat} (hf : f < nfS T) {c : Int32} (hc : (sy_ai F 58).getD f 0 = c) : ∀ (m : Nat) (F1 : Nat → sy_d) (n : Nat), n + m = nbS T → qR [] F F1 → (sy_i F1 69).toInt = f → (sy_i F1 70).toInt = n → fsS g (g 0 f) c.toInt n = -2 →
    hd_W Ls xs 2 jm_M190 (pV 4 X1 X2 (fun F' => qR [19, 55] F F' ∧ gRow T F' (lieS T g f c) ∧ (0 ≤ fsS g (g 0 f) c.toInt (nbS T) → (sy_i F' 19).toInt = 1) ∧ (fsS g (g 0 f) c.toInt (nbS T) < 0 → F' 19 = F 19))) (2, sy_dL F1 [some (.inl (.ref 1000)), some (.inr (.inl 69)), some (.inr (.inl 70))], sy_dS F1 [], sy_dh F1 X1 X2 (iv_H 4), 0, 0) := by
  have l4 : nbS T ≤ 4 := hC.2.2.1.2.1
  have l7 : nfS T ≤ 7 := hC.2.2.1.1
  have en : ((sy_ai F 35).getD (sy_i F 11).toInt.toNat 0).toInt = (nbS T : Int) := (rX_n hC.2.1).2.1
  have ek : ((sy_ai F 40).getD (sy_i F 11).toInt.toNat 0).toInt = T.2.2.2.1 := (rX_n hC.2.1).2.2.2.1
  intro m
  induction m with
  | zero =>
    intro F1 n hm hq e69 e70 hfs
    have e11 := qq_i hq (j := 11) (by decide) (by decide)
    have e35 : ((sy_ai F1 35).getD (sy_i F1 11).toInt.toNat 0).toInt = (nbS T : Int) := by rw [qq_a hq (by decide) (by decide), e11]; exact en
    have e40 : ((sy_ai F1 40).getD (sy_i F1 11).toInt.toNat 0).toInt = T.2.2.2.1 := by rw [qq_a hq (by decide) (by decide), e11]; exact ek
    have n28 : (28 + (sy_i F1 69).toInt).toNat = ra 4 + f := by show _ = 28 + f; omega
    have n14 : (14 + (sy_i F1 69).toInt).toNat = ra 2 + f := by show _ = 14 + f; omega
    have r28 : (sy_ai F1 55).getD (ra 4 + f) 0 = g 4 f := by
      rw [qq_a hq (by decide) (by decide)]
      exact hG 4 f (vF (by decide) hf)
    have g1 : gRow T F1 g := gRow_e hG (qq_a hq (by decide) (by decide))
    have hnb : n = nbS T := by omega
    rw [hnb] at hfs
    have hl : lieS T g f c = if T.2.2.2.1 < (g 4 f + 1).toInt then upS (upS g 4 f (g 4 f + 1)) 2 f 3 else upS g 4 f (g 4 f + 1) := by
      unfold lieS
      rw [if_neg (by omega)]
    refine yli_2 (by decide) F1 X1 X2 hq.1 (by omega) (by omega) ?_ ?_ ?_ ?_ ?_
    · intro c0 c1 F2 hb gg a55
      rw [n28, jm_upd_at, if_pos rfl, r28, e40] at c1
      rw [n28, r28] at a55
      refine ⟨F2, rfl, rfl, qq_on (qq_up hq (by decide)) hb gg (by decide), ?_, fun z => (by omega), fun _ => (gg 19 (by decide) (by decide)).trans (hq.2 19 (by decide) (by decide))⟩
      rw [hl, if_neg (by omega)]
      unfold gRow
      rw [a55]
      exact gL_up l7 l4 g1 (vF (by decide) hf) rfl
    · intro c0 c1 F2 hb gg a55
      rw [n28, jm_upd_at, if_pos rfl, r28, e40] at c1
      rw [n28, n14, r28] at a55
      refine ⟨F2, rfl, rfl, qq_on (qq_up hq (by decide)) hb gg (by decide), ?_, fun z => (by omega), fun _ => (gg 19 (by decide) (by decide)).trans (hq.2 19 (by decide) (by decide))⟩
      rw [hl, if_pos (by omega)]
      unfold gRow
      rw [a55]
      exact gL_up l7 l4 (gL_up l7 l4 g1 (vF (by decide) hf) rfl) (vF (by decide) hf) rfl
    iterate 3
      intros
      omega
  | succ m ih =>
    intro F1 n hm hq e69 e70 hfs
    have e11 := qq_i hq (j := 11) (by decide) (by decide)
    have e35 : ((sy_ai F1 35).getD (sy_i F1 11).toInt.toNat 0).toInt = (nbS T : Int) := by rw [qq_a hq (by decide) (by decide), e11]; exact en
    have row : ∀ a i : Nat, vlS (nfS T) (nbS T) a i → (sy_ai F1 55).getD (ra a + i) 0 = g a i := fun a i h => by
      rw [qq_a hq (by decide) (by decide)]
      exact hG a i h
    have r49 : (sy_ai F1 55).getD (49 + (sy_i F1 70).toInt).toNat 0 = g 7 n := by
      rw [show (49 + (sy_i F1 70).toInt).toNat = ra 7 + n by show _ = 49 + n; omega]
      exact row 7 n (vB (Or.inl rfl) (by omega))
    have n53 : (53 + (sy_i F1 70).toInt).toNat = ra 8 + n := by show _ = 53 + n; omega
    have r53 : (sy_ai F1 55).getD (ra 8 + n) 0 = g 8 n := row 8 n (vB (Or.inr rfl) (by omega))
    have r0 : (sy_ai F1 55).getD (sy_i F1 69).toInt.toNat 0 = g 0 f := by
      rw [show (sy_i F1 69).toInt.toNat = ra 0 + f by show _ = 0 + f; omega]
      exact row 0 f (vF (by decide) hf)
    have r58 : (sy_ai F1 58).getD (sy_i F1 69).toInt.toNat 0 = c := by
      rw [qq_a hq (by decide) (by decide), show (sy_i F1 69).toInt.toNat = f by omega]
      exact hc
    have g1 : gRow T F1 g := gRow_e hG (qq_a hq (by decide) (by decide))
    have n14 : (14 + (sy_i F1 69).toInt).toNat = ra 2 + f := by show _ = 14 + f; omega
    have n21 : (21 + (sy_i F1 69).toInt).toNat = ra 3 + f := by show _ = 21 + f; omega
    have hst : fsS g (g 0 f) c.toInt (n + 1) = if (g 7 n) = g 0 f ∧ c.toInt ≤ (g 8 n).toInt then (n : Int) else -2 := by
      show (if 0 ≤ fsS g (g 0 f) c.toInt n then _ else _) = _
      rw [if_neg (by omega)]
    refine yli_2 (by decide) F1 X1 X2 hq.1 (by omega) (by omega) ?_ ?_ ?_ ?_ ?_
    · intros
      omega
    · intros
      omega
    · intro c0 c1 F2 hb gg f69 i69 f70 i70
      rw [r49, r0] at c1
      refine ih F2 (n + 1) (by omega) (qq_on hq hb gg (by decide)) (by omega) (by omega) ?_
      rw [hst, if_neg (fun z => c1 (congrArg Int32.toInt z.1))]
    · intro c0 c1 c2 F2 hb gg e19 i19 a55
      rw [r49, r0] at c1
      rw [r58, n53, r53] at c2
      have hs1 : fsS g (g 0 f) c.toInt (n + 1) = n := by rw [hst, if_pos ⟨Int32.toInt_inj.mp c1, c2⟩]
      have hsn : fsS g (g 0 f) c.toInt (nbS T) = n := by
        have := fs_st (g := g) (x := g 0 f) (c := c.toInt) (n := n + 1) (by omega) m
        rw [show n + 1 + m = nbS T by omega] at this
        omega
      refine ⟨F2, rfl, rfl, qq_on (qq_up hq (by decide)) hb gg (by decide), ?_, fun _ => e19, fun z => (by omega)⟩
      unfold lieS
      rw [hsn, if_pos (by omega)]
      unfold sellS gRow
      rw [n14, n21, n53, jm_upd_at, if_neg (by show ¬ 53 + n = 21 + f; omega), jm_upd_at, if_neg (by show ¬ 53 + n = 14 + f; omega), r53, r58, ← ofi e70] at a55
      rw [a55, Int.toNat_natCast]
      exact gL_up l7 l4 (gL_up l7 l4 (gL_up l7 l4 g1 (vF (by decide) hf) rfl) (vF (by decide) hf) rfl) (vB (Or.inr rfl) (by omega)) rfl
    · intro c0 c1 c2 F2 hb gg f69 i69 f70 i70
      rw [r58, n53, r53] at c2
      refine ih F2 (n + 1) (by omega) (qq_on hq hb gg (by decide)) (by omega) (by omega) ?_
      rw [hst, if_neg (fun z => by omega)]
theorem li_V (hC : cR T F) (hG : gRow T F g) {f : Int32} (hf : 0 ≤ f.toInt ∧ f.toInt < nfS T) {c : Int32} (hc : (sy_ai F 58).getD f.toInt.toNat 0 = c) : jm_T Ls xs 2 jm_M190 [.ref 1000, .int f] (sy_dh F X1 X2 (iv_H 4)) 0 0 (pV 4 X1 X2 (fun F' => qR [19, 55] F F' ∧ gRow T F' (lieS T g f.toInt.toNat c) ∧ (0 ≤ fsS g (g 0 f.toInt.toNat) c.toInt (nbS T) → (sy_i F' 19).toInt = 1) ∧ (fsS g (g 0 f.toInt.toNat) c.toInt (nbS T) < 0 → F' 19 = F 19))) := by
  have l7 : nfS T ≤ 7 := hC.2.2.1.1
  refine R_T [f] [.inl (.ref 1000), .inr (.inl 69)] jm_ok190 (by decide) rfl (fun F0 k0 ki => ?_)
  have i69 : sy_i F0 69 = f := ki 0
  refine yli_0 (by decide) F0 X1 X2 (hd_iveq hC.1 k0) ?_
  intro F1 hb gg e69 j69 e70 j70
  rw [i69] at e69
  exact li_L F X1 X2 hC hG (by omega) hc (nbS T) F1 0 (by omega) (qq_src (qq_mk hb gg (by decide)) k0) (by omega) e70 rfl
theorem ca_V (hC : cR T F) (hG : gRow T F g) (hO : okS T g) {f c : Int32} (hf : 0 ≤ f.toInt ∧ f.toInt < nfS T) : jm_T Ls xs 2 jm_M187 [.ref 1000, .int f, .int c] (sy_dh F X1 X2 (iv_H 4)) 0 0 (pI 4 X1 X2 (fun y F' => qR [] F F' ∧ y.toInt = (nrS T g (tF T f.toInt.toNat).1 c.toInt (nbS T)).1)) := by
  have l7 : nfS T ≤ 7 := hC.2.2.1.1
  have hn : f.toInt.toNat < T.1.length := by show _ < nfS T; omega
  have c11 := nz_bx hC.1 (k := 11) (lo := 0) (hi := 1) rfl
  refine R_T [f, c] [.inl (.ref 1000), .inr (.inl 69), .inr (.inl 70)] jm_ok187 (by decide) rfl (fun F0 k0 ki => ?_)
  have i69 : sy_i F0 69 = f := ki 0
  have i70 : sy_i F0 70 = c := ki 1
  refine yca_0 (by decide) F0 X1 X2 (hd_iveq hC.1 k0) (by rw [i69]; omega) ?_
  intro F1 hb gg e69 j69 e70 j70 e71 j71 e72 j72
  have hx := hC.2.2.2.1 (tF T f.toInt.toNat) (by unfold tF; rw [List.getD_eq_getElem?_getD, List.getElem?_eq_getElem hn]; exact List.getElem_mem _)
  have e70 : (sy_i F1 70).toInt = (tF T f.toInt.toNat).1 := by
    rw [e70, i69, nz_fi (k0 11 (by decide)), nz_fa (k0 32 (by decide)), show (7 * (sy_i F 11).toInt + f.toInt).toNat = 7 * (sy_i F 11).toInt.toNat + f.toInt.toNat by omega]
    exact (rX_f hC.2.1 hn).1
  exact ca_L F X1 X2 hC hG hO hx.1 (nbS T) F1 0 (by omega) (qq_src (qq_mk hb gg (by decide)) k0) (by rw [e69, i70]) e70 e72 e71
theorem fa_V (hC : cR T F) (hG : gRow T F g) (hO : okS T g) {f : Int32} (hf : 0 ≤ f.toInt ∧ f.toInt < nfS T) (hx : g 0 f.toInt.toNat = Int32.ofInt (tF T f.toInt.toNat).1) {c bn : Int32} (hc : (sy_ai F 58).getD f.toInt.toNat 0 = c) (hbn : (sy_ai F 59).getD f.toInt.toNat 0 = bn) : jm_T Ls xs 3 jm_M191 [.ref 1000, .int f] (sy_dh F X1 X2 (iv_H 4)) 0 0 (pV 4 X1 X2 (fun F' => qR [19, 55] F F' ∧ gRow T F' (fallS T g f.toInt.toNat c bn.toInt) ∧ (0 ≤ (nrS T g (tF T f.toInt.toNat).1 c.toInt (nbS T)).1 → (sy_i F' 19).toInt = 1) ∧ ((nrS T g (tF T f.toInt.toNat).1 c.toInt (nbS T)).1 < 0 → F' 19 = F 19))) := by
  have l4 : nbS T ≤ 4 := hC.2.2.1.2.1
  have l7 : nfS T ≤ 7 := hC.2.2.1.1
  refine R_T [f] [.inl (.ref 1000), .inr (.inl 69)] jm_ok191 (by decide) rfl (fun F0 k0 ki => ?_)
  have i69 : sy_i F0 69 = f := ki 0
  refine yfa_0 (by decide) F0 X1 X2 (hd_iveq hC.1 k0) (by rw [i69]; omega) ?_
  intro F1 hb gg e69 j69 e70 j70
  have q1 : qR [] F F1 := qq_src (qq_mk hb gg (by decide)) k0
  have j70 : sy_i F1 70 = c := by rw [j70, i69, nz_fa (k0 58 (by decide))]; exact hc
  rw [i69] at j69
  refine hd_calI (R := fun y F' => qR [] F1 F' ∧ y.toInt = (nrS T g (tF T (sy_i F1 69).toInt.toNat).1 (sy_i F1 70).toInt (nbS T)).1) (nh := 69) (nv := 70) (s := 4) (s1 := 4) (d1 := 2) (M1 := jm_M187) (As := [.inl (.ref 1000), .inr (.inl 69), .inr (.inl 70)]) (rest := []) jm_ok191 rfl rfl (by decide) (by decide +kernel) (ca_V F1 X1 X2 (cR_q hC q1 (by decide)) (gRow_e hG (qq_a q1 (by decide) (by decide))) hO (by rw [j69]; exact hf)) (fun F3 F' y hR p1 p2 p3 => ?_)
  obtain ⟨r1, r2⟩ := hR
  rw [j69, j70] at r2
  have q3 : qR [] F F3 := qq_trans q1 (qR_dst r1 p1)
  have k69 : sy_i F3 69 = f := (eI (p2 69 (by decide) (by decide))).trans j69
  have k70 : (sy_i F3 70).toInt = (nrS T g (tF T f.toInt.toNat).1 c.toInt (nbS T)).1 := by rw [zz_i p3]; exact r2
  have hnr := nr_in T g (tF T f.toInt.toNat).1 c.toInt (nbS T)
  have hn1 : (nrS T g (tF T f.toInt.toNat).1 c.toInt (nbS T)).1 = -2 ∨ (0 ≤ (nrS T g (tF T f.toInt.toNat).1 c.toInt (nbS T)).1 ∧ (nrS T g (tF T f.toInt.toNat).1 c.toInt (nbS T)).1 < nbS T) := by
    rcases hnr with h | h
    · left
      rw [h]
    · exact Or.inr ⟨h.1, h.2.1⟩
  have f69 : (sy_i F3 69).toInt = f.toInt := congrArg Int32.toInt k69
  have n14 : (14 + (sy_i F3 69).toInt).toNat = ra 2 + f.toInt.toNat := by show _ = 14 + f.toInt.toNat; omega
  have n21 : (21 + (sy_i F3 69).toInt).toNat = ra 3 + f.toInt.toNat := by show _ = 21 + f.toInt.toNat; omega
  have n0 : (sy_i F3 69).toInt.toNat = ra 0 + f.toInt.toNat := by show _ = 0 + f.toInt.toNat; omega
  have g3 : gRow T F3 g := gRow_e hG (qq_a q3 (by decide) (by decide))
  have hf' : f.toInt.toNat < nfS T := by omega
  have r58 : (sy_ai F3 58).getD (sy_i F3 69).toInt.toNat 0 = c := by rw [qq_a q3 (by decide) (by decide), f69]; exact hc
  have r59 : (sy_ai F3 59).getD (sy_i F3 69).toInt.toNat 0 = bn := by rw [qq_a q3 (by decide) (by decide), f69]; exact hbn
  have r0 : (jm_upd (sy_ai F3 55) (14 + (sy_i F3 69).toInt).toNat 1).getD (sy_i F3 69).toInt.toNat 0 = Int32.ofInt (tF T f.toInt.toNat).1 := by
    rw [jm_upd_at, if_neg (by omega), n0]
    exact (g3 0 _ (vF (by decide) hf')).trans hx
  have low : (nrS T g (tF T f.toInt.toNat).1 c.toInt (nbS T)).1 < 0 → fallS T g f.toInt.toNat c bn.toInt = upS (upS g 2 f.toInt.toNat 1) 0 f.toInt.toNat (Int32.ofInt (hdz 0 9 (Int32.ofInt (tF T f.toInt.toNat).1 + bn).toInt)) := fun z => by
    unfold fallS
    rw [if_neg (by omega), Int32.ofInt_toInt]
  refine yfa_11 (by decide) F3 X1 X2 q3.1 (by omega) (by omega) ?_ ?_ ?_ ?_
  · intro c0 c1 c2 F4 hb4 g4 a55
    rw [r0, r59] at c1 c2 a55
    refine ⟨F4, rfl, rfl, qq_on (qq_up q3 (by decide)) hb4 g4 (by decide), ?_, fun z => (by omega), fun _ => (g4 19 (by decide) (by decide)).trans (q3.2 19 (by decide) (by decide))⟩
    rw [low (by omega)]
    have hz : hdz 0 9 (Int32.ofInt (tF T f.toInt.toNat).1 + bn).toInt = (Int32.ofInt (tF T f.toInt.toNat).1 + bn).toInt := by
      unfold hdz
      rw [if_neg (by omega), if_neg (by omega)]
    rw [hz, Int32.ofInt_toInt]
    unfold gRow
    rw [a55, n14, n0]
    exact gL_up l7 l4 (gL_up l7 l4 g3 (vF (by decide) hf') rfl) (vF (by decide) hf') rfl
  · intro c0 c1 c2 F4 hb4 g4 a55
    rw [r0, r59] at c1 c2
    refine ⟨F4, rfl, rfl, qq_on (qq_up q3 (by decide)) hb4 g4 (by decide), ?_, fun z => (by omega), fun _ => (g4 19 (by decide) (by decide)).trans (q3.2 19 (by decide) (by decide))⟩
    rw [low (by omega)]
    have hz : hdz 0 9 (Int32.ofInt (tF T f.toInt.toNat).1 + bn).toInt = 9 := by
      unfold hdz
      rw [if_neg (by omega), if_pos (by omega)]
    rw [hz]
    unfold gRow
    rw [a55, n14, n0]
    exact gL_up l7 l4 (gL_up l7 l4 g3 (vF (by decide) hf') rfl) (vF (by decide) hf') rfl
  · intro c0 c1 F4 hb4 g4 a55
    rw [r0, r59] at c1
    refine ⟨F4, rfl, rfl, qq_on (qq_up q3 (by decide)) hb4 g4 (by decide), ?_, fun z => (by omega), fun _ => (g4 19 (by decide) (by decide)).trans (q3.2 19 (by decide) (by decide))⟩
    rw [low (by omega)]
    have hz : hdz 0 9 (Int32.ofInt (tF T f.toInt.toNat).1 + bn).toInt = 0 := by
      unfold hdz
      rw [if_pos (by omega)]
    rw [hz]
    unfold gRow
    rw [a55, n14, n0]
    exact gL_up l7 l4 (gL_up l7 l4 g3 (vF (by decide) hf') rfl) (vF (by decide) hf') rfl
  · intro c0 F4 hb4 g4 e19 i19 a55
    refine ⟨F4, rfl, rfl, qq_on (qq_up q3 (by decide)) hb4 g4 (by decide), ?_, fun _ => e19, fun z => (by omega)⟩
    obtain ⟨b, hb'⟩ : ∃ b : Nat, (nrS T g (tF T f.toInt.toNat).1 c.toInt (nbS T)).1 = b := ⟨(nrS T g (tF T f.toInt.toNat).1 c.toInt (nbS T)).1.toNat, by omega⟩
    have n53 : (53 + (sy_i F3 70).toInt).toNat = ra 8 + b := by show _ = 53 + b; omega
    have r53 : (sy_ai F3 55).getD (ra 8 + b) 0 = g 8 b := g3 8 b (vB (Or.inr rfl) (by omega))
    unfold fallS
    rw [hb', if_pos (by omega)]
    unfold sellS gRow
    rw [n14, n21, n53, jm_upd_at, if_neg (by show ¬ 53 + b = 21 + f.toInt.toNat; omega), jm_upd_at, if_neg (by show ¬ 53 + b = 14 + f.toInt.toNat; omega), r53, r58, ← ofi (k70.trans hb')] at a55
    rw [a55, Int.toNat_natCast]
    exact gL_up l7 l4 (gL_up l7 l4 (gL_up l7 l4 g3 (vF (by decide) hf') rfl) (vF (by decide) hf') rfl) (vB (Or.inr rfl) (by omega)) rfl
end RH
