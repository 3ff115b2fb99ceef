/-! ===== the reference: shake, hours, undo, hold, restore ===== -/
theorem shk_row {nf nb : Nat} {l : List Int32} {g : gS} (hf : nf ≤ 7) (hb : nb ≤ 4) (h : gL nf nb l g) {f n : Nat} (hl : f < nf) (hn : n = 42 + f) : gL nf nb (jm_upd (jm_upd l n (l.getD n 0 + 1)) (58 : Int).toNat ((jm_upd l n (l.getD n 0 + 1)).getD (58 : Int).toNat 0 + 1)) (shkS g f) := by
  have e6 : l.getD n 0 = g 6 f := by
    rw [hn]
    exact h 6 f (vF (by decide) hl)
  have w1 := gL_up (v := g 6 f + 1) hf hb h (vF (by decide) hl) (show n = ra 6 + f from hn)
  rw [e6]
  have e9 : (jm_upd l n (g 6 f + 1)).getD (58 : Int).toNat 0 = g 9 1 := (w1 9 1 (vH (by decide))).trans (upS_o (Or.inl (by decide)))
  rw [e9]
  exact gL_up hf hb w1 (vH (by decide)) rfl
theorem fnd_row {nf nb : Nat} {l : List Int32} {T : tX} {g : gS} (hf : nf ≤ 7) (hb : nb ≤ 4) {f : Nat} (h : gL nf nb l (shkS g f)) : gL nf nb (jm_upd (jm_upd l (59 : Int).toNat (l.getD (59 : Int).toNat 0 + 1)) (60 : Int).toNat ((jm_upd l (59 : Int).toNat (l.getD (59 : Int).toNat 0 + 1)).getD (60 : Int).toNat 0 + Int32.ofInt T.2.2.1)) (fndS T g f) := by
  have e9 : l.getD (59 : Int).toNat 0 = g 9 2 := (h 9 2 (vH (by decide))).trans (shkS_9 g f).2.2.1
  have w1 : gL nf nb (jm_upd l (59 : Int).toNat (g 9 2 + 1)) (upS (shkS g f) 9 2 (g 9 2 + 1)) := gL_up hf hb h (vH (by decide)) rfl
  rw [e9]
  have e10 : (jm_upd l (59 : Int).toNat (g 9 2 + 1)).getD (60 : Int).toNat 0 = g 9 3 := (w1 9 3 (vH (by decide))).trans ((upS_o (Or.inr (by decide))).trans (shkS_9 g f).2.2.2)
  rw [e10]
  exact gL_up hf hb w1 (vH (by decide)) rfl
section RS
variable {Ls : Nat} {xs : Nat → Int32} {T : tX} {g : gS} (F : Nat → sy_d) (X1 X2 : List jm_c)
noncomputable def rskP (T : tX) (g : gS) (U : List gS) (f : Nat) (F : Nat → sy_d) (x : Int32) (F' : Nat → sy_d) : Prop := qR [17, 18, 20, 52, 53, 54, 55, 60] F F' ∧ hiR (nfS T) (nbS T) F' (rmS g U) ∧ (fdS T g → x = 1 ∧ gNw T F' (fndS T g f)) ∧ (¬ fdS T g → x = 0 ∧ gNw T F' (shkS g f))
theorem rsk_165 (hC : cR T F) (hN : gNw T F g) {U : List gS} (hU : hiR (nfS T) (nbS T) F U) {F1 : Nat → sy_d} (q1 : qR [17, 18, 52, 53, 55] F F1) {g' : gS} (hR : gRow T F1 g') {x : Int32} (hx : x = 0 ∨ x = 1) (i69 : sy_i F1 69 = x) {P : Int32 → (Nat → sy_d) → Prop} (K : ∀ F', qR [17, 18, 20, 52, 53, 54, 55, 60] F F' → hiR (nfS T) (nbS T) F' (rmS g U) → gNw T F' g' → P x F') :
    hd_W Ls xs 7 jm_M203 (pI 4 X1 X2 P) (165, sy_dL F1 [some (.inl (.ref 1000)), none, none, some (.inr (.inl 69)), none], sy_dS F1 [.inl (.ref 1000)], sy_dh F1 X1 X2 (iv_H 4), 0, 0) := by
  have l7 : nfS T ≤ 7 := hC.2.2.1.1
  have l4 : nbS T ≤ 4 := hC.2.2.1.2.1
  refine hd_calV (R := fun F' => qR [20, 54, 60] F1 F' ∧ gL (nfS T) (nbS T) (sy_ai F' 54) g' ∧ hiR (nfS T) (nbS T) F' (rmS g U)) (nh := 69) (nv := 70) (s := 4) (s1 := 4) (d1 := 2) (M1 := jm_M200) (As := [.inl (.ref 1000)]) (rest := []) jm_ok203 rfl rfl (by decide) (by decide +kernel) (rc_V F1 X1 X2 l7 l4 q1.1 (gNw_e F hN (qq_a q1 (by decide) (by decide))) hR (hiR_e hU (q1.2 20 (by decide) (by decide)) (q1.2 60 (by decide) (by decide)))) (fun F5 F6 hR5 s1 s2 => ?_)
  obtain ⟨u1, u2, u3⟩ := hR5
  have q5 : qR [17, 18, 20, 52, 53, 54, 55, 60] F F5 := qq_trans (qq_up q1 (by decide)) (qq_up (qR_dst u1 s1) (by decide))
  have k69 : sy_i F5 69 = x := (eI (s2 69 (by decide) (by decide))).trans i69
  refine zsh_168 (by decide) F5 X1 X2 q5.1 ?_ ?_
  · intro c0 F7 hb7 g7
    rw [k69] at c0
    have f7 : ∀ j, j < 69 → F7 j = F6 j := fun j hj => (g7 j hj (by simp)).trans (s1 j hj)
    have ex : x = 0 := Int32.toInt_inj.mp (by rw [c0]; decide)
    refine ⟨_, F7, rfl, rfl, ?_⟩
    rw [← ex]
    exact K F7 (qq_on q5 hb7 g7 (by decide)) (hiR_e u3 (f7 20 (by decide)) (f7 60 (by decide))) (gNw_e F6 u2 (nz_fa (f7 54 (by decide))))
  · intro c0 F7 hb7 g7
    rw [k69] at c0
    have f7 : ∀ j, j < 69 → F7 j = F6 j := fun j hj => (g7 j hj (by simp)).trans (s1 j hj)
    have ex : x = 1 := by
      rcases hx with h | h
      · rw [h] at c0
        exact absurd (by decide) c0
      · exact h
    refine ⟨_, F7, rfl, rfl, ?_⟩
    rw [← ex]
    exact K F7 (qq_on q5 hb7 g7 (by decide)) (hiR_e u3 (f7 20 (by decide)) (f7 60 (by decide))) (gNw_e F6 u2 (nz_fa (f7 54 (by decide))))
theorem rsk_V (hC : cR T F) (hN : gNw T F g) {U : List gS} (hU : hiR (nfS T) (nbS T) F U) (f : Int32) : jm_T Ls xs 7 jm_M203 [.ref 1000, .int f] (sy_dh F X1 X2 (iv_H 4)) 0 0 (pI 4 X1 X2 (fun x F' => (¬ (0 ≤ f.toInt ∧ f.toInt < nfS T) → x = -1 ∧ qR [] F F') ∧ (0 ≤ f.toInt ∧ f.toInt < nfS T → (g 2 f.toInt.toNat).toInt ≠ 0 → x = -2 ∧ qR [] F F') ∧ (0 ≤ f.toInt ∧ f.toInt < nfS T → (g 2 f.toInt.toNat).toInt = 0 → rskP T g U f.toInt.toNat F x F'))) := by
  have l7 : nfS T ≤ 7 := hC.2.2.1.1
  have l4 : nbS T ≤ 4 := hC.2.2.1.2.1
  refine R_T [f] [.inl (.ref 1000), .inr (.inl 69)] jm_ok203 (by decide) rfl (fun F0 k0 ki => ?_)
  have i69 : sy_i F0 69 = f := ki 0
  have z69 : (sy_i F0 69).toInt = f.toInt := congrArg Int32.toInt i69
  have en : ((sy_ai F0 31).getD (sy_i F0 11).toInt.toNat 0).toInt = (nfS T : Int) := by rw [nz_fa (k0 31 (by decide)), nz_fi (k0 11 (by decide))]; exact (rX_n hC.2.1).1
  have rd : 0 ≤ f.toInt → f.toInt < nfS T → (sy_ai F0 54).getD (14 + (sy_i F0 69).toInt).toNat 0 = g 2 f.toInt.toNat := fun h1 h2 => by
    rw [nz_fa (k0 54 (by decide)), show (14 + (sy_i F0 69).toInt).toNat = ra 2 + f.toInt.toNat by show _ = 14 + _; omega]
    exact hN 2 _ (vF (by decide) (by omega))
  refine zsh_0 (by decide) F0 X1 X2 (hd_iveq hC.1 k0) ?_ ?_ ?_ ?_
  · intro c0 F1 hb1 gg
    exact ⟨_, F1, rfl, rfl, fun _ => ⟨rfl, qq_src (qq_mk hb1 gg (by decide)) k0⟩, fun h => absurd h.1 (by omega), fun h => absurd h.1 (by omega)⟩
  · intro c0 c1 F1 hb1 gg
    exact ⟨_, F1, rfl, rfl, fun _ => ⟨rfl, qq_src (qq_mk hb1 gg (by decide)) k0⟩, fun h => absurd h.2 (by omega), fun h => absurd h.2 (by omega)⟩
  · intro c0 c1 c2 F1 hb1 gg e69 j69
    rw [rd (by omega) (by omega)] at c2
    have hlt : f.toInt.toNat < nfS T := by omega
    have hyes : 0 ≤ f.toInt ∧ f.toInt < nfS T := ⟨by omega, by omega⟩
    have q1 : qR [] F F1 := qq_src (qq_mk hb1 gg (by decide)) k0
    have c1' := cR_q hC q1 (by decide)
    refine hd_calV (R := fun F' => qR [18, 55] F1 F' ∧ (∀ j, j < 61 → (sy_ai F' 55).getD j 0 = (sy_ai F1 54).getD j 0) ∧ sy_i F' 18 = Int32.ofInt T.2.2.2.2.1) (nh := 69) (nv := 70) (s := 4) (s1 := 4) (d1 := 1) (M1 := jm_M173) (As := [.inl (.ref 1000)]) (rest := []) jm_ok203 rfl rfl (by decide) (by decide +kernel) (cp_V F1 X1 X2 c1') (fun F3 F' hR p1 p2 => ?_)
    obtain ⟨r1, r2, r3⟩ := hR
    have r1' : qR [18, 55] F1 F3 := qR_dst r1 p1
    have k69 : sy_i F3 69 = f := (eI (p2 69 (by decide) (by decide))).trans (j69.trans i69)
    have q3 : qR [18, 55] F F3 := qq_trans (qq_up q1 (by decide)) r1'
    have w3 : gRow T F3 g := gRow_c F hC hN (fun j hj => by rw [nz_fa (p1 55 (by decide)), r2 j hj, qq_a q1 (by decide) (by decide)])
    have s3 : sy_i F3 18 = Int32.ofInt T.2.2.2.2.1 := (eI (p1 18 (by decide))).trans r3
    refine zsh_29 (by decide) F3 X1 X2 q3.1 ?_
    intro F4 hb4 g4 f69 l69
    have q34 : qR [] F3 F4 := qq_mk hb4 g4 (by decide)
    have q4 : qR [18, 55] F F4 := qq_trans q3 (qq_up q34 (by decide))
    have w4 : gRow T F4 g := gRow_e w3 (qq_a q34 (by decide) (by decide))
    refine hd_calI (R := fun x F' => qR [17, 52, 53] F4 F' ∧ x.toInt = wiS T g) (nh := 69) (nv := 70) (s := 4) (s1 := 4) (d1 := 6) (M1 := jm_M198) (As := [.inl (.ref 1000)]) (rest := []) jm_ok203 rfl rfl (by decide) (by decide +kernel) (bn_V F4 X1 X2 (cR_q hC q4 (by decide)) w4) (fun F5 F6 x hR5 s1 s2 s3' => ?_)
    obtain ⟨u1, u2⟩ := hR5
    have u1' : qR [17, 52, 53] F4 F5 := qR_dst u1 s1
    have q5 : qR [17, 18, 52, 53, 55] F F5 := qq_trans (qq_up q4 (by decide)) (qq_up u1' (by decide))
    have w5 : gRow T F5 g := gRow_e w4 (qq_a u1' (by decide) (by decide))
    have s5 : sy_i F5 18 = Int32.ofInt T.2.2.2.2.1 := (qq_i u1' (by decide) (by decide)).trans ((qq_i q34 (by decide) (by decide)).trans s3)
    have m69 : sy_i F5 69 = f := (eI (s2 69 (by decide) (by decide))).trans (l69.trans k69)
    have m70 : sy_i F5 70 = Int32.ofInt (wiS T g) := by rw [zz_i s3']; exact (ofi u2).symm
    refine zsh_33 (by decide) F5 X1 X2 q5.1 ?_
    intro F7 hb7 g7 n69 o69 n70 o70 n71 o71 n72 o72
    have q57 : qR [] F5 F7 := qq_mk hb7 g7 (by decide)
    have q7 : qR [17, 18, 52, 53, 55] F F7 := qq_trans q5 (qq_up q57 (by decide))
    have w7 : gRow T F7 g := gRow_e w5 (qq_a q57 (by decide) (by decide))
    have o72 : sy_i F7 72 = g 9 0 := o72.trans (w5 9 0 (vH (by decide)))
    refine hd_calI (R := fun x F' => qR [] F7 F' ∧ x = lfS T g) (nh := 69) (nv := 73) (s := 4) (s1 := 4) (d1 := 2) (M1 := jm_M196) (As := [.inl (.ref 1000)]) (rest := [.inr (.inl 72), .inl (.ref 1000)]) jm_ok203 rfl rfl (by decide) (by decide +kernel) (ln_V F7 X1 X2 (cR_q hC q7 (by decide)) w7) (fun F8 F9 y hR8 t1 t2 t3 => ?_)
    obtain ⟨v1, v2⟩ := hR8
    have v1' : qR [] F7 F8 := qR_dst v1 t1
    have q8 : qR [17, 18, 52, 53, 55] F F8 := qq_trans q7 (qq_up v1' (by decide))
    have w8 : gRow T F8 g := gRow_e w7 (qq_a v1' (by decide) (by decide))
    have a69 : sy_i F8 69 = f := (eI (t2 69 (by decide) (by decide))).trans (o69.trans m69)
    have a70 : sy_i F8 70 = Int32.ofInt (wiS T g) := (eI (t2 70 (by decide) (by decide))).trans (o70.trans m70)
    have a71 : sy_i F8 71 = 0 := (eI (t2 71 (by decide) (by decide))).trans o71
    have a72 : sy_i F8 72 = g 9 0 := (eI (t2 72 (by decide) (by decide))).trans o72
    have a73 : sy_i F8 73 = lfS T g := (zz_i t3).trans v2
    have e58 : (sy_ai F8 55).getD (58 : Int).toNat 0 = g 9 1 := w8 9 1 (vH (by decide))
    refine zsh_48 (by decide) F8 X1 X2 q8.1 ?_
    intro FA hbA gA a52 b69 c69 b70 c70
    rw [a72, a73, a70, e58] at a52
    have a52 : sy_ai FA 52 = jm_upd (jm_upd (jm_upd (jm_upd (z9 (sy_ai F8 52)) (2 : Int).toNat (g 9 0)) (8 : Int).toNat (lfS T g)) (3 : Int).toNat (Int32.ofInt (wiS T g))) (5 : Int).toNat (g 9 1 + 1) := a52
    have kz : ∀ j : Nat, j ≤ 8 → v52 FA j = if j = (5 : Int).toNat then g 9 1 + 1 else if j = (3 : Int).toNat then Int32.ofInt (wiS T g) else if j = (8 : Int).toNat then lfS T g else if j = (2 : Int).toNat then g 9 0 else 0 := fun j hj => by
      show (sy_ai FA 52).getD j 0 = _
      rw [a52, jm_upd_at, jm_upd_at, jm_upd_at, jm_upd_at, z9_at j hj]
    have hv : ∀ j : Nat, j ≤ 8 → v52 FA j = mkv 5 (vrs 0 0 (g 9 0) (Int32.ofInt (wiS T g)) 0 (g 9 1 + 1) 0 0 (lfS T g)) j := nine9 (by rw [kz _ (by decide), mkv_f (by decide)]; rfl) (by rw [kz _ (by decide), mkv_f (by decide)]; rfl) (by rw [kz _ (by decide), mkv_t (by decide)]; rfl) (by rw [kz _ (by decide), mkv_t (by decide)]; rfl) (by rw [kz _ (by decide), mkv_f (by decide)]; rfl) (by rw [kz _ (by decide), mkv_t (by decide)]; rfl) (by rw [kz _ (by decide), mkv_f (by decide)]; rfl) (by rw [kz _ (by decide), mkv_f (by decide)]; rfl) (by rw [kz _ (by decide), mkv_t (by decide)]; rfl)
    have q8A : qR [52] F8 FA := qq_mk hbA gA (by decide)
    have qA : qR [17, 18, 52, 53, 55] F FA := qq_trans q8 (qq_up q8A (by decide))
    have cA := cR_q hC qA (by decide)
    refine hd_calI (R := fun x F' => qR [17, 53] FA F' ∧ x.toInt = lwT T 5 (vrs 0 0 (g 9 0) (Int32.ofInt (wiS T g)) 0 (g 9 1 + 1) 0 0 (lfS T g))) (nh := 69) (nv := 71) (s := 4) (s1 := 4) (d1 := 4) (M1 := jm_M179) (As := [.inl (.ref 1000), .inl (.int 5), .inl (.int 0), .inl (.int 0), .inl (.int 100)]) (rest := []) jm_ok203 rfl rfl (by decide) (by decide +kernel) (ak_V FA X1 X2 hbA cA.2.1 cA.2.2 (by decide) (by decide) hv (by decide) (by decide) (fun _ => by rw [pb_V]; rfl)) (fun FB FC z hRB y1 y2 y3 => ?_)
    obtain ⟨z1, z2⟩ := hRB
    have z1' : qR [17, 53] FA FB := qR_dst z1 y1
    have qB : qR [17, 18, 52, 53, 55] F FB := qq_trans qA (qq_up z1' (by decide))
    have a55B : sy_ai FB 55 = sy_ai F8 55 := (qq_a z1' (by decide) (by decide)).trans (qq_a q8A (by decide) (by decide))
    have wB : gRow T FB g := gRow_e w8 a55B
    have sB : sy_i FB 18 = Int32.ofInt T.2.2.2.2.1 := (qq_i z1' (by decide) (by decide)).trans ((qq_i q8A (by decide) (by decide)).trans ((qq_i v1' (by decide) (by decide)).trans ((qq_i q57 (by decide) (by decide)).trans s5)))
    have b69' : sy_i FB 69 = f := (eI (y2 69 (by decide) (by decide))).trans (c69.trans a69)
    have b70' : sy_i FB 70 = 0 := (eI (y2 70 (by decide) (by decide))).trans (c70.trans a71)
    have b71' : (sy_i FB 71).toInt = foundT T (g 9 1 + 1) (Int32.ofInt (wiS T g)) (g 9 0) (lfS T g) := by rw [zz_i y3, z2]; rfl
    have e58B : (sy_ai FB 55).getD (58 : Int).toNat 0 = g 9 1 := wB 9 1 (vH (by decide))
    have x11 := nz_bx qB.1 (k := 11) (lo := 0) (hi := 1) rfl
    have e39 : (sy_ai FB 39).getD (sy_i FB 11).toInt.toNat 0 = Int32.ofInt T.2.2.1 := (ofi (rX_n (cR_q hC qB (by decide)).2.1).2.2.1).symm
    have e42 : (42 + f.toInt).toNat = 42 + f.toInt.toNat := by omega
    refine zsh_82 (by decide) FB X1 X2 qB.1 (by rw [b69']; omega) (by rw [b70']; decide) ?_ ?_
    · intro d0 d1 FD hbD gD a55 h69 i69'
      rw [sB, e58B, b71'] at d0
      have d0 : foundT T (g 9 1 + 1) (Int32.ofInt (wiS T g)) (g 9 0) (lfS T g) ≤ (lotS (Int32.ofInt T.2.2.2.2.1) ((1000000 : Int32) + g 9 1)).toInt := d0
      have hn : ¬ fdS T g := fun h => Int.not_lt.mpr d0 h
      rw [b69'] at a55
      refine rsk_165 F X1 X2 hC hN hU (qq_on qB hbD gD (by decide)) (g' := shkS g f.toInt.toNat) ?_ (x := 0) (Or.inl rfl) (i69'.trans b70') (fun F' y1 y2 y3 => ⟨fun h => absurd hyes h, fun _ h => absurd c2 h, fun _ _ => ⟨y1, y2, fun h => absurd h hn, fun _ => ⟨rfl, y3⟩⟩⟩)
      unfold gRow
      rw [a55]
      exact shk_row l7 l4 wB hlt e42
    · intro d0 FD hbD gD a55 h69 i69'
      rw [sB, e58B, b71'] at d0
      have hy : fdS T g := d0
      rw [b69', e39] at a55
      refine rsk_165 F X1 X2 hC hN hU (qq_on qB hbD gD (by decide)) (g' := fndS T g f.toInt.toNat) ?_ (x := 1) (Or.inr rfl) i69' (fun F' y1 y2 y3 => ⟨fun h => absurd hyes h, fun _ h => absurd c2 h, fun _ _ => ⟨y1, y2, fun _ => ⟨rfl, y3⟩, fun h => absurd hy h⟩⟩)
      unfold gRow
      rw [a55]
      exact fnd_row l7 l4 (shk_row l7 l4 wB hlt e42)
  · intro c0 c1 c2 F1 hb1 gg
    rw [rd (by omega) (by omega)] at c2
    exact ⟨_, F1, rfl, rfl, fun h => absurd ⟨by omega, by omega⟩ h, fun _ _ => ⟨rfl, qq_src (qq_mk hb1 gg (by decide)) k0⟩, fun _ z => absurd z c2⟩
theorem rhr_V (hC : cR T F) (hN : gNw T F g) (hO : okS T g) {U : List gS} (hU : hiR (nfS T) (nbS T) F U) (n : Int32) : jm_T Ls xs 9 jm_M204 [.ref 1000, .int n] (sy_dh F X1 X2 (iv_H 4)) 0 0 (pI 4 X1 X2 (fun x F' => (¬ (0 ≤ n.toInt ∧ n.toInt ≤ 48) → x = -1 ∧ qR [] F F') ∧ (n.toInt = 0 → x = g 9 0 ∧ qR [] F F') ∧ (1 ≤ n.toInt ∧ n.toInt ≤ 48 → x = hrsS T (Int32.ofInt T.2.2.2.2.1) g n.toInt.toNat 9 0 ∧ qR [17, 18, 19, 20, 52, 53, 54, 55, 56, 57, 58, 59, 60] F F' ∧ gNw T F' (hrsS T (Int32.ofInt T.2.2.2.2.1) g n.toInt.toNat) ∧ hiR (nfS T) (nbS T) F' (rmS g U)))) := by
  have l7 : nfS T ≤ 7 := hC.2.2.1.1
  have l4 : nbS T ≤ 4 := hC.2.2.1.2.1
  refine R_T [n] [.inl (.ref 1000), .inr (.inl 69)] jm_ok204 (by decide) rfl (fun F0 k0 ki => ?_)
  have i69 : sy_i F0 69 = n := ki 0
  have z69 : (sy_i F0 69).toInt = n.toInt := congrArg Int32.toInt i69
  refine zho_0 (by decide) F0 X1 X2 (hd_iveq hC.1 k0) ?_ ?_ ?_ ?_
  · intro c0 F1 hb1 gg
    exact ⟨_, F1, rfl, rfl, fun _ => ⟨rfl, qq_src (qq_mk hb1 gg (by decide)) k0⟩, fun h => absurd h (by omega), fun h => absurd h.1 (by omega)⟩
  · intro c0 c1 F1 hb1 gg
    exact ⟨_, F1, rfl, rfl, fun _ => ⟨rfl, qq_src (qq_mk hb1 gg (by decide)) k0⟩, fun h => absurd h (by omega), fun h => absurd h.2 (by omega)⟩
  · intro c0 c1 c2 F1 hb1 gg e69 j69
    have q1 : qR [] F F1 := qq_src (qq_mk hb1 gg (by decide)) k0
    refine hd_calV (R := fun F' => qR [18, 55] F1 F' ∧ (∀ j, j < 61 → (sy_ai F' 55).getD j 0 = (sy_ai F1 54).getD j 0) ∧ sy_i F' 18 = Int32.ofInt T.2.2.2.2.1) (nh := 69) (nv := 70) (s := 4) (s1 := 4) (d1 := 1) (M1 := jm_M173) (As := [.inl (.ref 1000)]) (rest := []) jm_ok204 rfl rfl (by decide) (by decide +kernel) (cp_V F1 X1 X2 (cR_q hC q1 (by decide))) (fun F3 F' hR p1 p2 => ?_)
    obtain ⟨r1, r2, r3⟩ := hR
    have r1' : qR [18, 55] F1 F3 := qR_dst r1 p1
    have k69 : sy_i F3 69 = n := (eI (p2 69 (by decide) (by decide))).trans (j69.trans i69)
    have q3 : qR [18, 55] F F3 := qq_trans (qq_up q1 (by decide)) r1'
    have w3 : gRow T F3 g := gRow_c F hC hN (fun j hj => by rw [nz_fa (p1 55 (by decide)), r2 j hj, qq_a q1 (by decide) (by decide)])
    have s3 : sy_i F3 18 = Int32.ofInt T.2.2.2.2.1 := (eI (p1 18 (by decide))).trans r3
    refine zho_28 (by decide) F3 X1 X2 q3.1 ?_
    intro F4 hb4 g4 f69 l69
    have q34 : qR [] F3 F4 := qq_mk hb4 g4 (by decide)
    have q4 : qR [18, 55] F F4 := qq_trans q3 (qq_up q34 (by decide))
    have k69' : sy_i F4 69 = n := l69.trans k69
    refine hd_calV (R := fun F' => qR W9 F4 F' ∧ gRow T F' (hrsS T (Int32.ofInt T.2.2.2.2.1) g (sy_i F4 69).toInt.toNat)) (nh := 69) (nv := 70) (s := 4) (s1 := 4) (d1 := 8) (M1 := jm_M193) (As := [.inl (.ref 1000), .inr (.inl 69)]) (rest := []) jm_ok204 rfl rfl (by decide) (by decide +kernel) (go_V F4 X1 X2 (cR_q hC q4 (by decide)) (gRow_e w3 (qq_a q34 (by decide) (by decide))) hO ((qq_i q34 (by decide) (by decide)).trans s3) (by rw [k69']; omega)) (fun F5 F6 hR5 s1 s2 => ?_)
    obtain ⟨u1, u2⟩ := hR5
    rw [k69'] at u2
    have u1' : qR W9 F4 F5 := qR_dst u1 s1
    have q5 : qR [17, 18, 19, 52, 53, 55, 56, 57, 58, 59] F F5 := qq_trans (qq_up q4 (by decide)) (qq_up u1' (by decide))
    have w5 : gRow T F5 (hrsS T (Int32.ofInt T.2.2.2.2.1) g n.toInt.toNat) := gRow_e u2 (nz_fa (s1 55 (by decide)))
    refine zho_33 (by decide) F5 X1 X2 q5.1 ?_
    intro F7 hb7 g7 n69 o69
    have q57 : qR [] F5 F7 := qq_mk hb7 g7 (by decide)
    have q7 : qR [17, 18, 19, 52, 53, 55, 56, 57, 58, 59] F F7 := qq_trans q5 (qq_up q57 (by decide))
    refine hd_calV (R := fun F' => qR [20, 54, 60] F7 F' ∧ gL (nfS T) (nbS T) (sy_ai F' 54) (hrsS T (Int32.ofInt T.2.2.2.2.1) g n.toInt.toNat) ∧ hiR (nfS T) (nbS T) F' (rmS g U)) (nh := 69) (nv := 70) (s := 4) (s1 := 4) (d1 := 2) (M1 := jm_M200) (As := [.inl (.ref 1000)]) (rest := []) jm_ok204 rfl rfl (by decide) (by decide +kernel) (rc_V F7 X1 X2 l7 l4 hb7 (gNw_e F hN (qq_a q7 (by decide) (by decide))) (gRow_e w5 (qq_a q57 (by decide) (by decide))) (hiR_e hU (q7.2 20 (by decide) (by decide)) (q7.2 60 (by decide) (by decide)))) (fun F8 F9 hR8 t1 t2 => ?_)
    obtain ⟨v1, v2, v3⟩ := hR8
    have q8 : qR [17, 18, 19, 20, 52, 53, 54, 55, 56, 57, 58, 59, 60] F F8 := qq_trans (qq_up q7 (by decide)) (qq_up (qR_dst v1 t1) (by decide))
    refine zho_37 (by decide) F8 X1 X2 q8.1 ?_
    intro FA hbA gA
    have fA : ∀ j, j < 69 → FA j = F9 j := fun j hj => (gA j hj (by simp)).trans (t1 j hj)
    refine ⟨_, FA, rfl, rfl, fun h => absurd ⟨by omega, by omega⟩ h, fun h => absurd h (by omega), fun _ => ⟨?_, qq_on q8 hbA gA (by decide), gNw_e F9 v2 (nz_fa (fA 54 (by decide))), hiR_e v3 (fA 20 (by decide)) (fA 60 (by decide))⟩⟩
    rw [nz_fa (t1 54 (by decide))]
    exact v2 9 0 (vH (by decide))
  · intro c0 c1 c2 F1 hb1 gg
    refine ⟨_, F1, rfl, rfl, fun h => absurd ⟨by omega, by omega⟩ h, fun _ => ⟨?_, qq_src (qq_mk hb1 gg (by decide)) k0⟩, fun h => absurd h.1 (by omega)⟩
    rw [nz_fa (k0 54 (by decide))]
    exact hN 9 0 (vH (by decide))
theorem run_V0 (hB : iv_in F iv_B4) {nf nb : Nat} (hU : hiR nf nb F []) : jm_T Ls xs 1 jm_M205 [.ref 1000] (sy_dh F X1 X2 (iv_H 4)) 0 0 (pI 4 X1 X2 (fun x F' => x = 0 ∧ qR [] F F')) := by
  have h0 : (sy_i F 20).toInt = 0 := hU.1
  refine hd_T (As := [.inl (.ref 1000)]) jm_ok205 (by decide) (zun_0 (by decide) F X1 X2 hB ?_ ?_)
  · intros
    omega
  · intro c0 F1 hb1 gg
    exact ⟨_, F1, rfl, rfl, rfl, qq_mk hb1 gg (by decide)⟩
theorem run_L {u : Nat} (hu : u ≤ 39) : ∀ (m : Nat) (F1 : Nat → sy_d) (n : Nat), n + m = 61 → qR [20, 54] F F1 → (sy_i F1 20).toInt = u → (sy_i F1 69).toInt = n → (∀ j, j < n → (sy_ai F1 54).getD j 0 = (sy_ai F 60).getD (61 * u + j) 0) →
    hd_W Ls xs 1 jm_M205 (pI 4 X1 X2 (fun x F' => x = 1 ∧ qR [20, 54] F F' ∧ (sy_i F' 20).toInt = u ∧ ∀ j, j < 61 → (sy_ai F' 54).getD j 0 = (sy_ai F 60).getD (61 * u + j) 0)) (21, sy_dL F1 [some (.inl (.ref 1000)), some (.inr (.inl 69))], sy_dS F1 [], sy_dh F1 X1 X2 (iv_H 4), 0, 0) := by
  intro m
  induction m with
  | zero =>
    intro F1 n hm hq e20 e69 hn
    refine zun_21 (by decide) F1 X1 X2 hq.1 (by omega) (by omega) ?_ ?_
    · intro c0 F2 hb gg
      refine ⟨_, F2, rfl, rfl, rfl, qq_on hq hb gg (by decide), by rw [nz_fi (gg 20 (by decide) (by decide))]; exact e20, fun j hj => ?_⟩
      rw [nz_fa (gg 54 (by decide) (by decide))]
      exact hn j (by omega)
    · intros
      omega
  | succ m ih =>
    intro F1 n hm hq e20 e69 hn
    refine zun_21 (by decide) F1 X1 X2 hq.1 (by omega) (by omega) ?_ ?_
    · intros
      omega
    · intro c0 F2 hb gg a54 f69 i69
      have en : (sy_i F1 69).toInt.toNat = n := by omega
      have ei : (61 * (sy_i F1 20).toInt + (sy_i F1 69).toInt).toNat = 61 * u + n := by omega
      rw [en, ei, qq_a hq (j := 60) (by decide) (by decide)] at a54
      refine ih F2 (n + 1) (by omega) (qq_on hq hb gg (by decide)) (by rw [nz_fi (gg 20 (by decide) (by decide))]; exact e20) (by omega) (fun j hj => ?_)
      rw [a54, jm_upd_at]
      by_cases q : j = n
      · rw [if_pos q, q]
      · rw [if_neg q]
        exact hn j (by omega)
theorem run_V1 (hC : cR T F) {U : List gS} (hU : hiR (nfS T) (nbS T) F (g :: U)) : jm_T Ls xs 1 jm_M205 [.ref 1000] (sy_dh F X1 X2 (iv_H 4)) 0 0 (pI 4 X1 X2 (fun x F' => x = 1 ∧ qR [20, 54] F F' ∧ gNw T F' g ∧ hiR (nfS T) (nbS T) F' U)) := by
  have l7 : nfS T ≤ 7 := hC.2.2.1.1
  have l4 : nbS T ≤ 4 := hC.2.2.1.2.1
  obtain ⟨u1, u2, u3⟩ := hU
  have hl : (g :: U).length = U.length + 1 := rfl
  rw [hl] at u1 u2
  refine hd_T (As := [.inl (.ref 1000)]) jm_ok205 (by decide) (zun_0 (by decide) F X1 X2 hC.1 ?_ ?_)
  · intro c0 F1 hb1 gg e20 i20 e69 i69
    refine hd_mono (run_L F X1 X2 (u := U.length) (by omega) 61 F1 0 (by omega) (qq_mk hb1 gg (by decide)) (by omega) e69 (fun j hj => absurd hj (by omega))) ?_
    rintro v G ⟨x, F', e1, e2, r1, r2, r3, r4⟩
    refine ⟨x, F', e1, e2, r1, r2, gLo_L u3.1 l7 l4 r4, r3, by omega, ?_⟩
    rw [qq_a r2 (by decide) (by decide)]
    exact u3.2
  · intros
    omega
def hrR (nf nb : Nat) (F : Nat → sy_d) (H : Nat → gS) : Prop := ∀ k, k < 3 → ((sy_ai F 67).getD k 0).toInt ≠ 0 → gLo nf nb (sy_ai F 68) (61 * k) (H k)
theorem hrR_e {nf nb : Nat} {F1 : Nat → sy_d} {H : Nat → gS} (h : hrR nf nb F H) (e7 : F1 67 = F 67) (e8 : F1 68 = F 68) : hrR nf nb F1 H := by
  intro k hk
  rw [nz_fa e7, nz_fa e8]
  exact h k hk
theorem rhd_L {v : Nat} (hv : v ≤ 2) : ∀ (m : Nat) (F1 : Nat → sy_d) (n : Nat), n + m = 61 → qR [67, 68] F F1 → sy_ai F1 67 = jm_upd (sy_ai F 67) v 1 → (sy_i F1 69).toInt = v → (sy_i F1 70).toInt = n → (∀ j, j < n → (sy_ai F1 68).getD (61 * v + j) 0 = (sy_ai F 54).getD j 0) → (∀ j, j < 61 * v ∨ 61 * v + 61 ≤ j → (sy_ai F1 68).getD j 0 = (sy_ai F 68).getD j 0) →
    hd_W Ls xs 2 jm_M236 (pI 4 X1 X2 (fun x F' => x = 1 ∧ qR [67, 68] F F' ∧ sy_ai F' 67 = jm_upd (sy_ai F 67) v 1 ∧ (∀ j, j < 61 → (sy_ai F' 68).getD (61 * v + j) 0 = (sy_ai F 54).getD j 0) ∧ ∀ j, j < 61 * v ∨ 61 * v + 61 ≤ j → (sy_ai F' 68).getD j 0 = (sy_ai F 68).getD j 0)) (20, sy_dL F1 [some (.inl (.ref 1000)), some (.inr (.inl 69)), some (.inr (.inl 70))], sy_dS F1 [], sy_dh F1 X1 X2 (iv_H 4), 0, 0) := by
  intro m
  induction m with
  | zero =>
    intro F1 n hm hq h67 e69 e70 hn ho
    refine zhd_20 (by decide) F1 X1 X2 hq.1 (by omega) (by omega) ?_ ?_
    · intro c0 F2 hb gg
      refine ⟨_, F2, rfl, rfl, rfl, qq_on hq hb gg (by decide), by rw [nz_fa (gg 67 (by decide) (by decide))]; exact h67, fun j hj => ?_, fun j hj => ?_⟩
      · rw [nz_fa (gg 68 (by decide) (by decide))]
        exact hn j (by omega)
      · rw [nz_fa (gg 68 (by decide) (by decide))]
        exact ho j hj
    · intros
      omega
  | succ m ih =>
    intro F1 n hm hq h67 e69 e70 hn ho
    refine zhd_20 (by decide) F1 X1 X2 hq.1 (by omega) (by omega) ?_ ?_
    · intros
      omega
    · intro c0 F2 hb gg a68 f69 i69 f70 i70
      have en : (sy_i F1 70).toInt.toNat = n := by omega
      have ei : (61 * (sy_i F1 69).toInt + (sy_i F1 70).toInt).toNat = 61 * v + n := by omega
      rw [en, ei, qq_a hq (j := 54) (by decide) (by decide)] at a68
      refine ih F2 (n + 1) (by omega) (qq_on hq hb gg (by decide)) (by rw [nz_fa (gg 67 (by decide) (by decide))]; exact h67) (by omega) (by omega) (fun j hj => ?_) (fun j hj => ?_)
      · rw [a68, jm_upd_at]
        by_cases q : j = n
        · rw [if_pos (by omega), q]
        · rw [if_neg (by omega)]
          exact hn j (by omega)
      · rw [a68, jm_upd_at, if_neg (by omega)]
        exact ho j hj
theorem rhd_V (hC : cR T F) (hN : gNw T F g) {H : Nat → gS} (hH : hrR (nfS T) (nbS T) F H) (v : Int32) : jm_T Ls xs 2 jm_M236 [.ref 1000, .int v] (sy_dh F X1 X2 (iv_H 4)) 0 0 (pI 4 X1 X2 (fun x F' => (¬ (0 ≤ v.toInt ∧ v.toInt ≤ 2) → x = 0 ∧ qR [] F F') ∧ (0 ≤ v.toInt ∧ v.toInt ≤ 2 → x = 1 ∧ qR [67, 68] F F' ∧ hrR (nfS T) (nbS T) F' (fun j => if j = v.toInt.toNat then g else H j) ∧ sy_ai F' 67 = jm_upd (sy_ai F 67) v.toInt.toNat 1))) := by
  have l7 : nfS T ≤ 7 := hC.2.2.1.1
  have l4 : nbS T ≤ 4 := hC.2.2.1.2.1
  refine R_T [v] [.inl (.ref 1000), .inr (.inl 69)] jm_ok236 (by decide) rfl (fun F0 k0 ki => ?_)
  have i69 : sy_i F0 69 = v := ki 0
  have z69 : (sy_i F0 69).toInt = v.toInt := congrArg Int32.toInt i69
  refine zhd_0 (by decide) F0 X1 X2 (hd_iveq hC.1 k0) ?_ ?_ ?_
  · intro c0 F1 hb1 gg
    exact ⟨_, F1, rfl, rfl, fun _ => ⟨rfl, qq_src (qq_mk hb1 gg (by decide)) k0⟩, fun h => absurd h.1 (by omega)⟩
  · intro c0 c1 F1 hb1 gg
    exact ⟨_, F1, rfl, rfl, fun _ => ⟨rfl, qq_src (qq_mk hb1 gg (by decide)) k0⟩, fun h => absurd h.2 (by omega)⟩
  · intro c0 c1 F1 hb1 gg a67 e69 j69 e70 j70
    rw [z69, nz_fa (k0 67 (by decide))] at a67
    have q1 : qR [67, 68] F F1 := qq_src (qq_mk hb1 gg (by decide)) k0
    have a68 : sy_ai F1 68 = sy_ai F 68 := (nz_fa (gg 68 (by decide) (by decide))).trans (nz_fa (k0 68 (by decide)))
    refine hd_mono (rhd_L F X1 X2 (v := v.toInt.toNat) (by omega) 61 F1 0 (by omega) q1 a67 (by omega) e70 (fun j hj => absurd hj (by omega)) (fun j _ => by rw [a68])) ?_
    rintro w G ⟨x, F', e1, e2, r1, r2, r3, r4, r5⟩
    refine ⟨x, F', e1, e2, fun h => absurd ⟨by omega, by omega⟩ h, fun _ => ⟨r1, r2, fun k hk hz => ?_, r3⟩⟩
    show gLo _ _ _ _ (if k = v.toInt.toNat then g else H k)
    by_cases z : k = v.toInt.toNat
    · rw [if_pos z, z]
      exact gLo_0 hN l7 l4 r4
    · rw [if_neg z]
      rw [r3, jm_upd_at, if_neg z] at hz
      exact gLo_e (hH k hk hz) l7 l4 (fun j hj => r5 _ (by omega))
theorem rrs_L {v : Nat} (hv : v ≤ 2) : ∀ (m : Nat) (F1 : Nat → sy_d) (n : Nat), n + m = 61 → qR [20, 54] F F1 → (sy_i F1 69).toInt = v → (sy_i F1 70).toInt = n → (∀ j, j < n → (sy_ai F1 54).getD j 0 = (sy_ai F 68).getD (61 * v + j) 0) →
    hd_W Ls xs 2 jm_M237 (pI 4 X1 X2 (fun x F' => x = 1 ∧ qR [20, 54] F F' ∧ (sy_i F' 20).toInt = 0 ∧ ∀ j, j < 61 → (sy_ai F' 54).getD j 0 = (sy_ai F 68).getD (61 * v + j) 0)) (22, sy_dL F1 [some (.inl (.ref 1000)), some (.inr (.inl 69)), some (.inr (.inl 70))], sy_dS F1 [], sy_dh F1 X1 X2 (iv_H 4), 0, 0) := by
  intro m
  induction m with
  | zero =>
    intro F1 n hm hq e69 e70 hn
    refine zrs_22 (by decide) F1 X1 X2 hq.1 (by omega) (by omega) ?_ ?_
    · intro c0 F2 hb gg e20 i20
      refine ⟨_, F2, rfl, rfl, rfl, qq_on hq hb gg (by decide), e20, fun j hj => ?_⟩
      rw [nz_fa (gg 54 (by decide) (by decide))]
      exact hn j (by omega)
    · intros
      omega
  | succ m ih =>
    intro F1 n hm hq e69 e70 hn
    refine zrs_22 (by decide) F1 X1 X2 hq.1 (by omega) (by omega) ?_ ?_
    · intros
      omega
    · intro c0 F2 hb gg a54 f69 i69 f70 i70
      have en : (sy_i F1 70).toInt.toNat = n := by omega
      have ei : (61 * (sy_i F1 69).toInt + (sy_i F1 70).toInt).toNat = 61 * v + n := by omega
      rw [en, ei, qq_a hq (j := 68) (by decide) (by decide)] at a54
      refine ih F2 (n + 1) (by omega) (qq_on hq hb gg (by decide)) (by omega) (by omega) (fun j hj => ?_)
      rw [a54, jm_upd_at]
      by_cases q : j = n
      · rw [if_pos q, q]
      · rw [if_neg q]
        exact hn j (by omega)
theorem rrs_V (hC : cR T F) {H : Nat → gS} (hH : hrR (nfS T) (nbS T) F H) (v : Int32) : jm_T Ls xs 2 jm_M237 [.ref 1000, .int v] (sy_dh F X1 X2 (iv_H 4)) 0 0 (pI 4 X1 X2 (fun x F' => (¬ (0 ≤ v.toInt ∧ v.toInt ≤ 2 ∧ ((sy_ai F 67).getD v.toInt.toNat 0).toInt ≠ 0) → x = 0 ∧ qR [] F F') ∧ (0 ≤ v.toInt ∧ v.toInt ≤ 2 ∧ ((sy_ai F 67).getD v.toInt.toNat 0).toInt ≠ 0 → x = 1 ∧ qR [20, 54] F F' ∧ gNw T F' (H v.toInt.toNat) ∧ hiR (nfS T) (nbS T) F' []))) := by
  have l7 : nfS T ≤ 7 := hC.2.2.1.1
  have l4 : nbS T ≤ 4 := hC.2.2.1.2.1
  refine R_T [v] [.inl (.ref 1000), .inr (.inl 69)] jm_ok237 (by decide) rfl (fun F0 k0 ki => ?_)
  have i69 : sy_i F0 69 = v := ki 0
  have z69 : (sy_i F0 69).toInt = v.toInt := congrArg Int32.toInt i69
  refine zrs_0 (by decide) F0 X1 X2 (hd_iveq hC.1 k0) ?_ ?_ ?_ ?_
  · intro c0 F1 hb1 gg
    exact ⟨_, F1, rfl, rfl, fun _ => ⟨rfl, qq_src (qq_mk hb1 gg (by decide)) k0⟩, fun h => absurd h.1 (by omega)⟩
  · intro c0 c1 F1 hb1 gg
    exact ⟨_, F1, rfl, rfl, fun _ => ⟨rfl, qq_src (qq_mk hb1 gg (by decide)) k0⟩, fun h => absurd h.2.1 (by omega)⟩
  · intro c0 c1 c2 F1 hb1 gg e69 j69 e70 j70
    rw [z69, nz_fa (k0 67 (by decide))] at c2
    refine hd_mono (rrs_L F X1 X2 (v := v.toInt.toNat) (by omega) 61 F1 0 (by omega) (qq_src (qq_mk hb1 gg (by decide)) k0) (by omega) e70 (fun j hj => absurd hj (by omega))) ?_
    rintro w G ⟨x, F', e1, e2, r1, r2, r3, r4⟩
    exact ⟨x, F', e1, e2, fun h => absurd ⟨by omega, by omega, c2⟩ h, fun _ => ⟨r1, r2, gLo_L (hH _ (by omega) c2) l7 l4 r4, r3, by decide, trivial⟩⟩
  · intro c0 c1 c2 F1 hb1 gg
    rw [z69, nz_fa (k0 67 (by decide))] at c2
    exact ⟨_, F1, rfl, rfl, fun _ => ⟨rfl, qq_src (qq_mk hb1 gg (by decide)) k0⟩, fun h => absurd c2 h.2.2⟩
end RS
