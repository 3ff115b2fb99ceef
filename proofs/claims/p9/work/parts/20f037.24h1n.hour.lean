/-! ===== the class: an hour, whole (shape 1, n) ===== -/
section P1n
variable {Ls : Nat} {xs : Nat → Int32} {T : tX} {g : gS} {sd : Int32} (F : Nat → sy_d) (X1 X2 : List jm_c)
theorem j1nph_61h (hC : xC 3 T F) (hO : okS T g) : ∀ (m : Nat) (F1 : Nat → sy_d) (n : Nat), n + m = nfS T → qC W1n F F1 → sy_i F1 82 = sd → (sy_i F1 83).toInt = n → gC 50 (nfS T) (nbS T) F1 (p2S T sd g n) → hV T g F1 →
    hd_W Ls xs 7 jm_M3 (pV 1 X1 X2 (fun F' => qC W1n F F' ∧ gC 50 (nfS T) (nbS T) F' (hourS T sd g))) (61, sy_dL F1 [some (.inl (.ref 41)), some (.inl (.ref 10)), some (.inl (.ref 46)), some (.inr (.inl 82)), some (.inr (.inl 83))], sy_dS F1 [], sy_dh F1 X1 X2 (iv_H 1), 0, 0) := by
  have l7 : nfS T ≤ 7 := hC.2.2.1.1.1
  have enf : (sy_i F 3).toInt = (nfS T : Int) := hC.2.1.1.1
  intro m
  induction m with
  | zero =>
    intro F1 n hm hq i82 e83 hG hH
    have en : n = nfS T := by omega
    subst en
    have en1 : (sy_i F1 3).toInt = (nfS T : Int) := by rw [qq_i hq (by decide) (by decide)]; exact enf
    refine j1nph_61 (by decide) F1 X1 X2 hq.1 (by omega) ?_ ?_ ?_
    · intro c0 F2 hb gg e50 i50 a58
      refine ⟨F2, rfl, rfl, qq_on hq hb gg (by decide), ?_⟩
      have h9 : sy_i F1 50 = g 9 0 := (hG.2 0 (by decide)).trans (p2_k _ _ _ (by omega))
      refine ⟨fun a i ha hv => ?_, fun i hi => ?_⟩
      · unfold hourS
        rw [upS_o (Or.inl (by omega))]
        unfold zsS
        by_cases q : a = 6
        · subst q
          rw [if_pos rfl]
          have hi : i < 7 := by
            rcases hv with h | h | h <;> omega
          show (sy_ai F2 58).getD i 0 = 0
          rw [a58, jm_upd_at, jm_upd_at, jm_upd_at, jm_upd_at, jm_upd_at, jm_upd_at, jm_upd_at]
          match i, hi with
          | 0, _ => rfl
          | 1, _ => rfl
          | 2, _ => rfl
          | 3, _ => rfl
          | 4, _ => rfl
          | 5, _ => rfl
          | 6, _ => rfl
        · have hc := ca_in a
          have hne : 50 + ca a ≠ 58 := fun z => q (ca_inj a ha 6 (by decide) (show ca a = 8 by omega))
          rw [if_neg q, nz_fa (gg (50 + ca a) (by omega) (by intro z; simp at z; omega))]
          exact hG.1 a i ha hv
      · unfold hourS
        by_cases q : i = 0
        · subst q
          rw [upS_s]
          show sy_i F2 50 = _
          rw [i50, h9]
        · rw [upS_o (Or.inr q)]
          unfold zsS
          rw [if_neg (by decide), eI (gg (50 + i) (by omega) (by intro z; simp at z; omega))]
          exact hG.2 i hi
    · intros
      omega
    · intros
      omega
  | succ m ih =>
    intro F1 n hm hq i82 e83 hG hH
    have hn : n < nfS T := by omega
    have enn : (sy_i F1 83).toInt.toNat = n := by omega
    have en1 : (sy_i F1 3).toInt = (nfS T : Int) := by rw [qq_i hq (by decide) (by decide)]; exact enf
    have r2 : (sy_ai F1 54).getD (sy_i F1 83).toInt.toNat 0 = p2S T sd g n 2 n := by
      rw [enn]
      exact hG.1 2 n (by decide) (vF (by decide) hn)
    have hp2 : p2S T sd g (n + 1) = stS T sd g (p2S T sd g n) n := rfl
    have hs : ∀ a, a < 7 → p2S T sd g n a n = p1S T g (nfS T) a n := fun a ha => p2_s n a n (Nat.le_refl _) ha
    have h1 := p1_h (T := T) (g := g) (nfS T) n
    have how : (p2S T sd g n 2 n).toInt = 0 ↔ (g 2 n).toInt = 0 := by
      rw [hs 2 (by decide)]
      exact h1.1
    refine j1nph_61 (by decide) F1 X1 X2 hq.1 (by omega) ?_ ?_ ?_
    · intros
      omega
    · intro c0 c1 F2 hb gg e82 j82 e83' j83
      rw [r2] at c1
      have e : p2S T sd g (n + 1) = p2S T sd g n := by
        rw [hp2]
        unfold stS
        rw [if_neg (fun z => c1 (how.mpr z))]
      refine ih F2 (n + 1) (by omega) (qq_on hq hb gg (by decide)) (j82.trans i82) (by omega) ?_ (hV_e hH (nz_fa (gg 45 (by decide) (by decide))))
      rw [e]
      exact gC_eq hG (fun j h1 h2 => gg j (by omega) (by simp))
    · intro c0 c1 F2 hb gg a45 e82 j82 e83' j83 e84 j84
      rw [r2] at c1
      have h0 := how.mp c1
      have q2 : qC W1n F F2 := qq_on hq hb gg (by decide)
      rw [enn] at a45
      have hx := xX_f (xC_q (by decide) hC hq (by decide)) hn
      obtain ⟨fv, hvf⟩ := fV_set (T := T) (g := p2S T sd g n) (f := n) a45 (hG.1 1 n (by decide) (vF (by decide) hn)) hx.2.1 hx.1 (hG.1 6 n (by decide) (vF (by decide) hn)) (hG.1 5 n (by decide) (vF (by decide) hn)) (hG.1 4 n (by decide) (vF (by decide) hn))
      have hv2 := hvf hH
      have g2 : gC 50 (nfS T) (nbS T) F2 (p2S T sd g n) := gC_eq hG (fun j h1 h2 => gg j (by omega) (by intro z; simp at z; omega))
      have c2 := xC_q (by decide) hC q2 (by decide)
      have f1 : p2S T sd g n 1 n = g 1 n := (hs 1 (by decide)).trans (p1_k _ _ _ (by omega))
      have f5 : p2S T sd g n 5 n = g 5 n := p2_k _ _ _ (by omega)
      have f6 : p2S T sd g n 6 n = g 6 n := p2_k _ _ _ (by omega)
      have f4 : p2S T sd g n 4 n = g 4 n := (hs 4 (by decide)).trans (h1.2.1 h0).2
      have hfl : lwT T 2 (v45 F2) = flS T g n := by
        rw [fl_of c2.2.2.1 hv2 fv, f1, f6, f5]
        rfl
      have h9 : sy_i F1 50 = g 9 0 := (hG.2 0 (by decide)).trans (p2_k _ _ _ (by omega))
      have i84 : sy_i F2 84 = lotS sd ((16 : Int32) * g 9 0 + Int32.ofInt n) := by
        rw [j84, i82, h9, ← ofi e83]
        rfl
      refine hd_calI (R := fun x F' => qC [46] F2 F' ∧ x.toInt = lwT T 2 (v45 F2)) (nh := 82) (nv := 85) (s := 1) (s1 := 1) (d1 := 4) (M1 := jm_M21) (As := [.inl (.ref 38), .inl (.ref 10), .inl (.int 2)]) (rest := [.inr (.inl 84)]) jm_ok3 rfl rfl (by decide) (by decide +kernel) (j1tl_V F2 X1 X2 c2 (by decide) (by decide)) (fun F3 F' x hR p1 p2 p3 => ?_)
      obtain ⟨r1, rx⟩ := hR
      rw [hfl] at rx
      have r1' : qC [46] F2 F3 := qC_dst r1 p1
      have q3 : qC W1n F F3 := qq_trans q2 (qq_up r1' (by decide))
      have g3 : gC 50 (nfS T) (nbS T) F3 (p2S T sd g n) := j1ngq g2 r1' (by decide)
      have a45e : sy_ai F3 45 = sy_ai F2 45 := qq_a r1' (by decide) (by decide)
      have hv3 := hV_e hv2 a45e
      have fv3 := fV_e fv a45e
      have c3 := xC_q (by decide) hC q3 (by decide)
      have k82 : sy_i F3 82 = sd := (eI (p2 82 (by decide) (by decide))).trans (j82.trans i82)
      have k83 : (sy_i F3 83).toInt = n := by rw [nz_fi (p2 83 (by decide) (by decide)), e83']; exact e83
      have k84 : sy_i F3 84 = lotS sd ((16 : Int32) * g 9 0 + Int32.ofInt n) := (eI (p2 84 (by decide) (by decide))).trans i84
      have k85 : (sy_i F3 85).toInt = flS T g n := by rw [zz_i p3]; exact rx
      refine j1nph_114 (by decide) F3 X1 X2 q3.1 (by omega) ?_ ?_
      · intro d0 F4 hb4 g4 e82a j82a e83a j83a e84a j84a
        rw [k84, k85] at d0
        have q34 : qC [] F3 F4 := qq_mk hb4 g4 (by decide)
        have q4' : qC W1n F F4 := qq_on q3 hb4 g4 (by decide)
        have g4' : gC 50 (nfS T) (nbS T) F4 (p2S T sd g n) := j1ngq g3 q34 (by decide)
        have a45f : sy_ai F4 45 = sy_ai F3 45 := qq_a q34 (by decide) (by decide)
        have hv4 := hV_e hv3 a45f
        have fv4 := fV_e fv3 a45f
        have c4 := xC_q (by decide) hC q4' (by decide)
        have l84 : sy_i F4 84 = g 1 n := by
          rw [j84a, show (sy_i F3 83).toInt.toNat = n by omega]
          exact (g3.1 1 n (by decide) (vF (by decide) hn)).trans f1
        have hrp : lwT T 1 (v45 F4) = rpS T g n := by
          rw [rp_of c4.2.2.1 hv4 fv4, f1, f6, f5]
          rfl
        have e : p2S T sd g (n + 1) = upS (p2S T sd g n) 1 n (Int32.ofInt (hdz 0 99 (g 1 n + Int32.ofInt (rpS T g n)).toInt)) := by
          rw [hp2]
          unfold stS
          rw [if_pos h0, if_neg (Int.not_lt.mpr d0)]
        refine hd_calI (R := fun x F' => qC [46] F4 F' ∧ x.toInt = lwT T 1 (v45 F4)) (nh := 82) (nv := 85) (s := 1) (s1 := 1) (d1 := 4) (M1 := jm_M21) (As := [.inl (.ref 38), .inl (.ref 10), .inl (.int 1)]) (rest := [.inr (.inl 84), .inr (.inl 83), .inl (.ref 47)]) jm_ok3 rfl rfl (by decide) (by decide +kernel) (j1tl_V F4 X1 X2 c4 (by decide) (by decide)) (fun F5 F6 y hR2 u1 u2 u3 => ?_)
        obtain ⟨s1, s2⟩ := hR2
        rw [hrp] at s2
        have s1' : qC [46] F4 F5 := qC_dst s1 u1
        have q5 : qC W1n F F5 := qq_trans q4' (qq_up s1' (by decide))
        have g5 : gC 50 (nfS T) (nbS T) F5 (p2S T sd g n) := j1ngq g4' s1' (by decide)
        have hv5 := hV_e hv4 (qq_a s1' (by decide) (by decide))
        have m82 : sy_i F5 82 = sd := (eI (u2 82 (by decide) (by decide))).trans (j82a.trans k82)
        have m83 : (sy_i F5 83).toInt = n := by rw [nz_fi (u2 83 (by decide) (by decide)), e83a]; exact k83
        have m83n : (sy_i F5 83).toInt.toNat = n := by omega
        have m84 : sy_i F5 84 = g 1 n := (eI (u2 84 (by decide) (by decide))).trans l84
        have m85 : sy_i F5 85 = Int32.ofInt (rpS T g n) := by rw [zz_i u3]; exact (ofi s2).symm
        have fin : ∀ (v : Int32) (F7 : Nat → sy_d), iv_in F7 iv_B0 → (∀ j, j < 82 → j ∉ ([53] : List Nat) → F7 j = F5 j) → sy_ai F7 53 = jm_upd (sy_ai F5 53) (sy_i F5 83).toInt.toNat v → sy_i F7 82 = sy_i F5 82 → (sy_i F7 83).toInt = (sy_i F5 83).toInt + 1 → v = Int32.ofInt (hdz 0 99 (g 1 n + Int32.ofInt (rpS T g n)).toInt) → hd_W Ls xs 7 jm_M3 (pV 1 X1 X2 (fun F' => qC W1n F F' ∧ gC 50 (nfS T) (nbS T) F' (hourS T sd g))) (61, sy_dL F7 [some (.inl (.ref 41)), some (.inl (.ref 10)), some (.inl (.ref 46)), some (.inr (.inl 82)), some (.inr (.inl 83))], sy_dS F7 [], sy_dh F7 X1 X2 (iv_H 1), 0, 0) := fun v F7 hb7 g7 a53 x82 x83 hv => by
          refine ih F7 (n + 1) (by omega) (qq_on q5 hb7 g7 (by decide)) (x82.trans m82) (by omega) ?_ (hV_e hv5 (nz_fa (g7 45 (by decide) (by decide))))
          rw [e, ← hv]
          exact gC_up g5 (by decide) m83n a53 (fun j h1 h2 h3 => g7 j (by omega) (by intro z; simp at z; exact h3 z))
        refine j1nph_150 (by decide) F5 X1 X2 q5.1 (by omega) ?_ ?_ ?_
        · intro y0 y1 F7 hb7 g7 a53 e82b j82b e83b j83b
          rw [m84, m85] at y0 y1 a53
          refine fin _ F7 hb7 g7 a53 j82b e83b ?_
          have hz : hdz 0 99 (g 1 n + Int32.ofInt (rpS T g n)).toInt = (g 1 n + Int32.ofInt (rpS T g n)).toInt := by
            unfold hdz
            rw [if_neg (by omega), if_neg (by omega)]
          rw [hz, Int32.ofInt_toInt]
        · intro y0 y1 F7 hb7 g7 a53 e82b j82b e83b j83b
          rw [m84, m85] at y0 y1
          refine fin _ F7 hb7 g7 a53 j82b e83b ?_
          have hz : hdz 0 99 (g 1 n + Int32.ofInt (rpS T g n)).toInt = 0 := by
            unfold hdz
            split
            · rfl
            · rw [if_neg (by omega)]
              omega
          rw [hz]
          rfl
        · intro y0 F7 hb7 g7 a53 e82b j82b e83b j83b
          rw [m84, m85] at y0
          refine fin _ F7 hb7 g7 a53 j82b e83b ?_
          have hz : hdz 0 99 (g 1 n + Int32.ofInt (rpS T g n)).toInt = 99 := by
            unfold hdz
            rw [if_neg (by omega)]
            split
            · rfl
            · omega
          rw [hz]
          rfl
      · intro d0 F4 hb4 g4 e82a j82a e83a j83a
        rw [k84, k85] at d0
        have q34 : qC [] F3 F4 := qq_mk hb4 g4 (by decide)
        have q4' : qC W1n F F4 := qq_on q3 hb4 g4 (by decide)
        have g4' : gC 50 (nfS T) (nbS T) F4 (p2S T sd g n) := j1ngq g3 q34 (by decide)
        have a45f : sy_ai F4 45 = sy_ai F3 45 := qq_a q34 (by decide) (by decide)
        have hv4 := hV_e hv3 a45f
        have fv4 := fV_e fv3 a45f
        have c4 := xC_q (by decide) hC q4' (by decide)
        have l83 : (sy_i F4 83).toInt = n := by omega
        have l83n : (sy_i F4 83).toInt.toNat = n := by omega
        have e : p2S T sd g (n + 1) = fallS T (p2S T sd g n) n (Int32.ofInt (woS T g n)) (bnS T g n) := by
          rw [hp2]
          unfold stS
          rw [if_pos h0, if_pos d0]
        refine hd_calV (R := fun F' => qC W1n F4 F' ∧ gC 50 (nfS T) (nbS T) F' (fallS T (p2S T sd g n) (sy_i F4 83).toInt.toNat (Int32.ofInt (worthT T (sy_i F4 83).toInt.toNat (p2S T sd g n 1 (sy_i F4 83).toInt.toNat) (p2S T sd g n 4 (sy_i F4 83).toInt.toNat) (g 9 0) (lfS T g))) (bncT T (sy_i F4 83).toInt.toNat (p2S T sd g n 1 (sy_i F4 83).toInt.toNat) (g 9 0) (lfS T g))) ∧ hV T g F') (nh := 82) (nv := 84) (s := 1) (s1 := 1) (d1 := 6) (M1 := jm_M5) (As := [.inl (.ref 41), .inl (.ref 10), .inl (.ref 46), .inr (.inl 83)]) (rest := []) jm_ok3 rfl rfl (by decide) (by decide +kernel) (j1nlf_V F4 X1 X2 c4 g4' (okS_p2 hO n) hv4 (by omega) (by rw [l83n]; exact fv4)) (fun F5 F6 hR2 u1 u2 => ?_)
        obtain ⟨s1, s2, s3⟩ := hR2
        rw [l83n, f1, f4] at s2
        have s1' : qC W1n F4 F5 := qC_dst s1 u1
        have q5 : qC W1n F F5 := qq_trans q4' s1'
        refine j1nph_125 (by decide) F5 X1 X2 q5.1 (by rw [nz_fi (u2 83 (by decide) (by decide))]; omega) ?_
        intro F7 hb7 g7 e82b j82b e83b j83b
        refine ih F7 (n + 1) (by omega) (qq_on q5 hb7 g7 (by decide)) (j82b.trans ((eI (u2 82 (by decide) (by decide))).trans (j82a.trans k82))) (by rw [e83b, nz_fi (u2 83 (by decide) (by decide))]; omega) ?_ (hV_e s3 ((nz_fa (g7 45 (by decide) (by decide))).trans (nz_fa (u1 45 (by decide)))))
        rw [e]
        exact gC_eq s2 (fun j h1 h2 => (g7 j (by omega) (by simp)).trans (u1 j (by omega)))
theorem j1nph_24h (hC : xC 3 T F) (hO : okS T g) : ∀ (m : Nat) (F1 : Nat → sy_d) (n : Nat), n + m = nfS T → qC W1n F F1 → sy_i F1 82 = sd → (sy_i F1 83).toInt = n → gC 50 (nfS T) (nbS T) F1 (p1S T g n) → hV T g F1 →
    hd_W Ls xs 7 jm_M3 (pV 1 X1 X2 (fun F' => qC W1n F F' ∧ gC 50 (nfS T) (nbS T) F' (hourS T sd g))) (24, sy_dL F1 [some (.inl (.ref 41)), some (.inl (.ref 10)), some (.inl (.ref 46)), some (.inr (.inl 82)), some (.inr (.inl 83))], sy_dS F1 [], sy_dh F1 X1 X2 (iv_H 1), 0, 0) := by
  have l7 : nfS T ≤ 7 := hC.2.2.1.1.1
  have enf : (sy_i F 3).toInt = (nfS T : Int) := hC.2.1.1.1
  intro m
  induction m with
  | zero =>
    intro F1 n hm hq i82 e83 hG hH
    have en : n = nfS T := by omega
    subst en
    have en1 : (sy_i F1 3).toInt = (nfS T : Int) := by rw [qq_i hq (by decide) (by decide)]; exact enf
    refine j1nph_24 (by decide) F1 X1 X2 hq.1 (by omega) ?_ ?_ ?_
    · intro c0 F2 hb gg e82 j82 e83' j83
      exact j1nph_61h F X1 X2 hC hO (nfS T) F2 0 (by omega) (qq_on hq hb gg (by decide)) (j82.trans i82) e83' (gC_eq hG (fun j h1 h2 => gg j (by omega) (by simp))) (hV_e hH (nz_fa (gg 45 (by decide) (by decide))))
    · intros
      omega
    · intros
      omega
  | succ m ih =>
    intro F1 n hm hq i82 e83 hG hH
    have hn : n < nfS T := by omega
    have enn : (sy_i F1 83).toInt.toNat = n := by omega
    have en1 : (sy_i F1 3).toInt = (nfS T : Int) := by rw [qq_i hq (by decide) (by decide)]; exact enf
    have r2 : (sy_ai F1 54).getD (sy_i F1 83).toInt.toNat 0 = p1S T g n 2 n := by
      rw [enn]
      exact hG.1 2 n (by decide) (vF (by decide) hn)
    refine j1nph_24 (by decide) F1 X1 X2 hq.1 (by omega) ?_ ?_ ?_
    · intros
      omega
    · intro c0 c1 F2 hb gg e82 j82 e83' j83
      rw [r2] at c1
      have hp : p1S T g (n + 1) = p1S T g n := by
        show (if _ then _ else _) = _
        rw [if_neg c1]
      refine ih F2 (n + 1) (by omega) (qq_on hq hb gg (by decide)) (j82.trans i82) (by omega) ?_ (hV_e hH (nz_fa (gg 45 (by decide) (by decide))))
      rw [hp]
      exact gC_eq hG (fun j h1 h2 => gg j (by omega) (by simp))
    · intro c0 c1 F2 hb gg e82 j82 e83' j83
      rw [r2] at c1
      have hp : p1S T g (n + 1) = lieS T (p1S T g n) n (Int32.ofInt (woS T g n)) := by
        show (if _ then _ else _) = _
        rw [if_pos c1]
      have q12 : qC [] F1 F2 := qq_mk hb gg (by decide)
      have q2 : qC W1n F F2 := qq_on hq hb gg (by decide)
      have c2 := xC_q (by decide) hC q2 (by decide)
      have g2 : gC 50 (nfS T) (nbS T) F2 (p1S T g n) := j1ngq hG q12 (by decide)
      have hv2 := hV_e hH (qq_a q12 (by decide) (by decide))
      have l83n : (sy_i F2 83).toInt.toNat = n := by omega
      have f1 : p1S T g n 1 n = g 1 n := p1_s n 1 n (Nat.le_refl _) (by decide)
      have f4 : p1S T g n 4 n = g 4 n := p1_s n 4 n (Nat.le_refl _) (by decide)
      refine hd_calV (R := fun F' => qC W1n F2 F' ∧ gC 50 (nfS T) (nbS T) F' (lieS T (p1S T g n) (sy_i F2 83).toInt.toNat (Int32.ofInt (worthT T (sy_i F2 83).toInt.toNat (p1S T g n 1 (sy_i F2 83).toInt.toNat) (p1S T g n 4 (sy_i F2 83).toInt.toNat) (g 9 0) (lfS T g)))) ∧ hV T g F') (nh := 82) (nv := 84) (s := 1) (s1 := 1) (d1 := 5) (M1 := jm_M4) (As := [.inl (.ref 41), .inl (.ref 10), .inl (.ref 46), .inr (.inl 83)]) (rest := []) jm_ok3 rfl rfl (by decide) (by decide +kernel) (j1nsk_V F2 X1 X2 c2 g2 hv2 (by omega)) (fun F3 F' hR p1 p2 => ?_)
      obtain ⟨s1, s2, s3⟩ := hR
      rw [l83n, f1, f4] at s2
      have q3 : qC W1n F F3 := qq_trans q2 (qC_dst s1 p1)
      refine j1nph_52 (by decide) F3 X1 X2 q3.1 (by rw [nz_fi (p2 83 (by decide) (by decide))]; omega) ?_
      intro F4 hb4 g4 e82a j82a e83a j83a
      refine ih F4 (n + 1) (by omega) (qq_on q3 hb4 g4 (by decide)) (j82a.trans ((eI (p2 82 (by decide) (by decide))).trans (j82.trans i82))) (by rw [e83a, nz_fi (p2 83 (by decide) (by decide))]; omega) ?_ (hV_e s3 ((nz_fa (g4 45 (by decide) (by decide))).trans (nz_fa (p1 45 (by decide)))))
      rw [hp]
      exact gC_eq s2 (fun j h1 h2 => (g4 j (by omega) (by simp)).trans (p1 j (by omega)))
/-- an hour goes by -/
theorem j1nph_V (hC : xC 3 T F) (hG : gC 50 (nfS T) (nbS T) F g) (hO : okS T g) (sd : Int32) : jm_T Ls xs 7 jm_M3 [.ref 41, .ref 10, .ref 46, .int sd] (sy_dh F X1 X2 (iv_H 1)) 0 0 (pV 1 X1 X2 (fun F' => qC W1n F F' ∧ gC 50 (nfS T) (nbS T) F' (hourS T sd g))) := by
  have enf : (sy_i F 3).toInt = (nfS T : Int) := hC.2.1.1.1
  refine C_T (by decide) [sd] [.inl (.ref 41), .inl (.ref 10), .inl (.ref 46), .inr (.inl 82)] jm_ok3 (by decide) rfl (fun F0 k0 ki => ?_)
  have i82 : sy_i F0 82 = sd := ki 0
  refine j1nph_0 (by decide) F0 X1 X2 (hd_iveq0 hC.1 k0) ?_
  intro F1 hb gg e82 j82 e83 j83 e84 j84
  have q1 : qC [] F F1 := qq_src (qq_mk hb gg (by decide)) k0
  have c1 := xC_q (by decide) hC q1 (by decide)
  have g1 : gC 50 (nfS T) (nbS T) F1 g := j1ngq hG q1 (by decide)
  have i83 : sy_i F1 83 = g 9 0 := by rw [j83, eI (k0 50 (by decide))]; exact hG.2 0 (by decide)
  refine hd_calI (R := fun x F' => qC [] F1 F' ∧ x = ppS (mkS g (0 : Int32).toInt (nfS T))) (nh := 82) (nv := 84) (s := 1) (s1 := 1) (d1 := 2) (M1 := jm_M12) (As := [.inl (.ref 46), .inl (.int 0), .inr (.inl 84)]) (rest := [.inr (.inl 83), .inl (.ref 10), .inl (.ref 38)]) jm_ok3 rfl rfl (by decide) (by decide +kernel) (j1nhm_V F1 X1 X2 c1 g1 0 _ (by rw [e84, nz_fi (k0 3 (by decide))]; exact enf)) (fun F3 F' x hR p1 p2 p3 => ?_)
  obtain ⟨r1, r2⟩ := hR
  have r1' : qC [] F1 F3 := qC_dst r1 p1
  have q3 : qC [] F F3 := qq_trans q1 r1'
  have c3 := xC_q (by decide) hC q3 (by decide)
  have g3 : gC 50 (nfS T) (nbS T) F3 g := j1ngq g1 r1' (by decide)
  have k83 : sy_i F3 83 = g 9 0 := (eI (p2 83 (by decide) (by decide))).trans i83
  have k84 : sy_i F3 84 = lfS T g := (zz_i p3).trans r2
  refine hd_calV (R := fun F' => qC [45, 46] F3 F' ∧ v45 F' 2 = sy_i F3 83 ∧ v45 F' 8 = sy_i F3 84 ∧ v45 F' 3 = Int32.ofInt (windT T (sy_i F3 83) (sy_i F3 84))) (nh := 82) (nv := 83) (s := 1) (s1 := 1) (d1 := 5) (M1 := jm_M17) (As := [.inl (.ref 38), .inl (.ref 10), .inr (.inl 83), .inr (.inl 84)]) (rest := []) jm_ok3 rfl rfl (by decide) (by decide +kernel) (j1sh_V F3 X1 X2 c3 _ _) (fun F5 F6 hR2 u1 u2 => ?_)
  obtain ⟨s1, s2, s3, s4⟩ := hR2
  rw [k83] at s2 s4
  rw [k84] at s3 s4
  have s1' : qC [45, 46] F3 F5 := qC_dst s1 u1
  have q5 : qC W1n F F5 := qq_trans (qq_up q3 (by decide)) (qq_up s1' (by decide))
  have hv5 : hV T g F5 := hV_e ⟨s2, s3, s4⟩ (nz_fa (u1 45 (by decide)))
  have g5 : gC 50 (nfS T) (nbS T) F5 g := j1ngq g3 s1' (by decide)
  refine j1nph_21 (by decide) F5 X1 X2 q5.1 ?_
  intro F7 hb7 g7 e82a j82a e83a j83a
  exact j1nph_24h F X1 X2 hC hO (nfS T) F7 0 (by omega) (qq_on q5 hb7 g7 (by decide)) (j82a.trans ((eI (u2 82 (by decide) (by decide))).trans ((eI (p2 82 (by decide) (by decide))).trans (j82.trans i82)))) e83a (gC_eq g5 (fun j h1 h2 => g7 j (by omega) (by simp))) (hV_e hv5 (nz_fa (g7 45 (by decide) (by decide))))
end P1n
