section
/-! ===== the class: a law worked out, and told (shape 3) ===== -/
section W3
variable {Ls : Nat} {xs : Nat → Int32} (F : Nat → sy_d) (X1 X2 : List jm_c)
theorem j3wo_E {Q : Option Value → jm_h → Prop} (k : Nat) {s : Int} (hs : 0 ≤ s) : ∀ (r : List rO) (d e : Nat) (S : List Int32) (c : Int) (F1 : Nat → sy_d), woI F s c S F1 → s ≤ c → c + r.length < 512 → clc (sy_ai F 32) c.toNat r.length = r.map (cell k) → wfR r d e → d ≤ S.length → S.length ≤ d + 1 → d ≤ 15 →
    (evR (mkv k (v45 F)) r S = none → ∀ F2 : Nat → sy_d, qC [46] F F2 → Q (some (.int 0)) (sy_dh F2 X1 X2 (iv_H 3))) →
    (∀ (S' : List Int32) (F2 : Nat → sy_d), evR (mkv k (v45 F)) r S = some S' → woI F s (c + r.length) S' F2 → hd_W Ls xs 2 jm_M22 Q (8, sy_dL F2 [some (.inl (.ref 38)), some (.inl (.ref 20)), none, some (.inr (.inl 82)), some (.inr (.inl 83)), some (.inr (.inl 84)), none], sy_dS F2 [], sy_dh F2 X1 X2 (iv_H 3), 0, 0)) →
    hd_W Ls xs 2 jm_M22 Q (8, sy_dL F1 [some (.inl (.ref 38)), some (.inl (.ref 20)), none, some (.inr (.inl 82)), some (.inr (.inl 83)), some (.inr (.inl 84)), none], sy_dS F1 [], sy_dh F1 X1 X2 (iv_H 3), 0, 0)
  | [], d, e, S, c, F1, hI, _, _, _, _, _, _, _, _, hk => hk S F1 rfl (by rw [show c + ((([] : List rO).length : Nat) : Int) = c by simp]; exact hI)
  | o :: r, d, e, S, c, F1, hI, hsc, hc, hcl, hw, hd1, hd2, hd3, hn, hk => by
    obtain ⟨hq, e82, e83, e84, hst⟩ := hI
    have hl : (o :: r).length = r.length + 1 := rfl
    rw [hl] at hc hcl hk
    rw [clc_cons] at hcl
    have hx : ((sy_ai F1 32).getD (sy_i F1 82).toInt.toNat 0).toInt = cell k o := by
      rw [qq_a hq (by decide) (by decide), e82]
      exact (List.cons.inj hcl).1
    have hr : clc (sy_ai F 32) (c + 1).toNat r.length = r.map (cell k) := by
      rw [show (c + 1).toNat = c.toNat + 1 by omega]
      exact (List.cons.inj hcl).2
    have hk' : ∀ (S' : List Int32) (F2 : Nat → sy_d), evR (mkv k (v45 F)) (o :: r) S = some S' → woI F s (c + 1 + r.length) S' F2 → hd_W Ls xs 2 jm_M22 Q (8, sy_dL F2 [some (.inl (.ref 38)), some (.inl (.ref 20)), none, some (.inr (.inl 82)), some (.inr (.inl 83)), some (.inr (.inl 84)), none], sy_dS F2 [], sy_dh F2 X1 X2 (iv_H 3), 0, 0) := fun S' F2 h1 h2 => hk S' F2 h1 (by rw [show c + ((r.length + 1 : Nat) : Int) = c + 1 + r.length by omega]; exact h2)
    obtain ⟨⟨w0, w1, w2⟩, w3, w4⟩ := hw
    by_cases z0 : o.1 < 2
    · obtain ⟨w5, w6⟩ := w3 z0
      -- a number, a var
      have hcell : -9 ≤ cell k o := by
        unfold cell
        by_cases q0 : o.1 = 0
        · rw [if_pos q0]
          have := w1 q0
          omega
        · rw [if_neg q0, if_pos (by omega)]
          have := w2 (by omega)
          split <;> omega
      have push : ∀ (x : Int32) (F2 : Nat → sy_d), iv_in F2 iv_B0 → (∀ j, j < 82 → j ∉ ([46] : List Nat) → F2 j = F1 j) → sy_ai F2 46 = jm_upd (sy_ai F1 46) (sy_i F1 83).toInt.toNat x → (sy_i F2 82).toInt = (sy_i F1 82).toInt + 1 → (sy_i F2 83).toInt = (sy_i F1 83).toInt + 1 → (sy_i F2 84).toInt = (sy_i F1 84).toInt + 1 → evR (mkv k (v45 F)) (o :: r) S = evR (mkv k (v45 F)) r (x :: S) → hd_W Ls xs 2 jm_M22 Q (8, sy_dL F2 [some (.inl (.ref 38)), some (.inl (.ref 20)), none, some (.inr (.inl 82)), some (.inr (.inl 83)), some (.inr (.inl 84)), none], sy_dS F2 [], sy_dh F2 X1 X2 (iv_H 3), 0, 0) := fun x F2 hb g a46 f82 f83 f84 hev => by
        refine j3wo_E k hs r (d + 1) e (x :: S) (c + 1) F2 ⟨qq_on hq hb g (by decide), by omega, by simp only [List.length_cons]; omega, by omega, by rw [a46]; exact stq_put (by omega) hst⟩ (by omega) (by omega) hr w6 (by simp only [List.length_cons]; omega) (by simp only [List.length_cons]; omega) (by omega) ?_ ?_
        · rw [← hev]
          exact hn
        · rw [← hev]
          exact hk'
      refine j3wo_8 (by decide) F1 X1 X2 hq.1 (by omega) (by omega) (by omega) ?_ ?_ ?_ ?_ ?_ ?_ ?_ ?_ ?_ ?_ ?_ ?_ ?_ ?_ ?_ ?_ ?_ ?_
      · intros; omega
      iterate 13
        intros
        exfalso
        omega
      · intro c0 c1 c2 c3 c4 c5 F2 hb g a46 f82 i82 f83 i83 f84 i84
        -- a var that is told
        have k1 : o.1 = 1 := by
          by_cases q0 : o.1 = 0
          · have := w1 q0
            have : cell k o = o.2 := by unfold cell; rw [if_pos q0]
            omega
          · omega
        have h2 := w2 k1
        have hc2 : cell k o = if tvs k o.2 = true then -1 - o.2 else 0 := by
          unfold cell
          rw [if_neg (by omega), if_pos k1]
        have ht : tvs k o.2 = true := by
          by_cases q : tvs k o.2 = true
          · exact q
          · rw [if_neg q] at hc2
            omega
        rw [if_pos ht] at hc2
        refine push _ F2 hb g a46 f82 f83 f84 ?_
        rw [evR_1 k1]
        congr 2
        have eo : ((o.2.toNat : Nat) : Int) = o.2 := by omega
        have en : ((-1 : Int) - ((sy_ai F1 32).getD (sy_i F1 82).toInt.toNat 0).toInt).toNat = o.2.toNat := by omega
        rw [en, mkv_t (by rw [eo]; exact ht), qq_a hq (by decide) (by decide)]
        rfl
      · intro c0 c1 c2 c3 c4 c5 F2 hb g a46 f82 i82 f83 i83 f84 i84
        refine push _ F2 hb g a46 f82 f83 f84 ?_
        by_cases q0 : o.1 = 0
        · rw [evR_0 q0]
          congr 2
          have : cell k o = o.2 := by unfold cell; rw [if_pos q0]
          exact ofi (by omega)
        · have k1 : o.1 = 1 := by omega
          have h2 := w2 k1
          have hc2 : cell k o = if tvs k o.2 = true then -1 - o.2 else 0 := by
            unfold cell
            rw [if_neg (by omega), if_pos k1]
          have ht : ¬ tvs k o.2 = true := fun q => by
            rw [if_pos q] at hc2
            omega
          rw [if_neg ht] at hc2
          rw [evR_1 k1]
          congr 2
          have eo : ((o.2.toNat : Nat) : Int) = o.2 := by omega
          rw [mkv_f (by rw [eo]; cases hh : tvs k o.2 with | true => exact absurd hh ht | false => rfl)]
          exact (i0z.mpr (by omega)).symm
      · intros
        exfalso
        omega
      · intros
        exfalso
        omega
    · obtain ⟨w5, w6⟩ := w4 (by omega)
      have hcell : cell k o = -8 - o.1 := by
        unfold cell
        rw [if_neg (by omega), if_neg (by omega)]
      obtain ⟨y, x, S, rfl⟩ := two2 (show 2 ≤ S.length by omega)
      simp only [List.length_cons] at e83 hd1 hd2
      have n1 : ((sy_i F1 83).toInt + (-1 : Int) - 1).toNat = S.length := by omega
      have n2 : ((sy_i F1 83).toInt + (-1 : Int)).toNat = S.length + 1 := by omega
      have n3 : ((sy_i F1 83).toInt - 1).toNat = S.length + 1 := by omega
      have hy : (sy_ai F1 46).getD (S.length + 1) 0 = y := hst.1
      have hxx : (sy_ai F1 46).getD S.length 0 = x := hst.2.1
      have ev := evR_2 (v := mkv k (v45 F)) (r := r) (a := x) (b := y) (S := S) (o := o) (by omega)
      have step : ∀ (z : Int32) (F2 : Nat → sy_d), iv_in F2 iv_B0 → (∀ j, j < 82 → j ∉ ([46] : List Nat) → F2 j = F1 j) → sy_ai F2 46 = jm_upd (sy_ai F1 46) S.length z → (sy_i F2 82).toInt = (sy_i F1 82).toInt + 1 → (sy_i F2 83).toInt = (sy_i F1 83).toInt + -1 → (sy_i F2 84).toInt = (sy_i F1 84).toInt + 1 → evR (mkv k (v45 F)) (o :: r) (y :: x :: S) = evR (mkv k (v45 F)) r (z :: S) → hd_W Ls xs 2 jm_M22 Q (8, sy_dL F2 [some (.inl (.ref 38)), some (.inl (.ref 20)), none, some (.inr (.inl 82)), some (.inr (.inl 83)), some (.inr (.inl 84)), none], sy_dS F2 [], sy_dh F2 X1 X2 (iv_H 3), 0, 0) := fun z F2 hb g a46 f82 f83 f84 hev => by
        refine j3wo_E k hs r (d - 1) e (z :: S) (c + 1) F2 ⟨qq_on hq hb g (by decide), by omega, by simp only [List.length_cons]; omega, by omega, by rw [a46]; exact stq_put rfl hst.2.2⟩ (by omega) (by omega) hr w6 (by simp only [List.length_cons]; omega) (by simp only [List.length_cons]; omega) (by omega) ?_ ?_
        · rw [← hev]
          exact hn
        · rw [← hev]
          exact hk'
      refine j3wo_8 (by decide) F1 X1 X2 hq.1 (by omega) (by omega) (by omega) ?_ ?_ ?_ ?_ ?_ ?_ ?_ ?_ ?_ ?_ ?_ ?_ ?_ ?_ ?_ ?_ ?_ ?_
      · intros; omega
      · intros
        exfalso
        omega
      · intros
        exfalso
        omega
      · intro c0 c1 c2 c3 c4 c5 c6 c7 c8 F2 hb g a46 f82 i82 f83 i83 f84 i84
        rw [n1, n2, hy, hxx] at a46
        rw [if_neg (by omega)] at ev
        have eo : opv o.1 x y = x * y := by
          unfold opv
          rw [if_neg (by omega), if_neg (by omega), if_pos (by omega)]
        rw [eo] at ev
        exact step _ F2 hb g a46 f82 f83 f84 ev
      · intro c0 c1 c2 c3 c4 c5 c6 c7 c8 F2 hb g a46 f82 i82 f83 i83 f84 i84
        rw [n1, n2, hy, hxx] at a46
        rw [if_neg (by omega)] at ev
        have eo : opv o.1 x y = x - y := by
          unfold opv
          rw [if_neg (by omega), if_pos (by omega)]
        rw [eo] at ev
        exact step _ F2 hb g a46 f82 f83 f84 ev
      · intro c0 c1 c2 c3 c4 c5 c6 c7 c8 F2 hb g a46 f82 i82 f83 i83 f84 i84
        rw [n1, n2, hy, hxx] at a46
        rw [if_neg (by omega)] at ev
        have eo : opv o.1 x y = x + y := by
          unfold opv
          rw [if_pos (by omega)]
        rw [eo] at ev
        exact step _ F2 hb g a46 f82 f83 f84 ev
      · intro c0 c1 c2 c3 c4 c5 c6 c7 c8 c9 c10 F2 hb g a46 f82 i82 f83 i83 f84 i84
        rw [n3, hy] at c8
        rw [n1, n2, hy, hxx] at a46
        rw [if_neg (fun z => c8 (i0z.mp z.2))] at ev
        have eo : opv o.1 x y = x / y := by
          unfold opv
          rw [if_neg (by omega), if_neg (by omega), if_neg (by omega)]
        rw [eo] at ev
        exact step _ F2 hb g a46 f82 f83 f84 ev
      · intro c0 c1 c2 c3 c4 c5 c6 c7 c8 c9 c10
        rw [n3, hy] at c8
        rw [n2, hy] at c10
        exact absurd c10 c8
      · intro c0 c1 c2 c3 c4 c5 c6 c7 c8 F2 hb g
        rw [n3, hy] at c8
        rw [if_pos ⟨by omega, i0z.mpr c8⟩] at ev
        exact hn ev F2 (qq_on hq hb g (by decide))
      iterate 9
        intros
        exfalso
        omega
theorem j3wo_L (k : Nat) {s : Int} (hs : 0 ≤ s) : ∀ (l : List bRT) (c : Nat) (F1 : Nat → sy_d), woI F s c [] F1 → s ≤ c → c + (lcs k c l).length < 512 → clc (sy_ai F 32) c (lcs k c l).length = lcs k c l → hasN l → (∀ b ∈ l, wfB b) →
    hd_W Ls xs 2 jm_M22 (pI 3 X1 X2 (fun x F' => qC [46] F F' ∧ x = lwV (mkv k (v45 F)) l)) (8, sy_dL F1 [some (.inl (.ref 38)), some (.inl (.ref 20)), none, some (.inr (.inl 82)), some (.inr (.inl 83)), some (.inr (.inl 84)), none], sy_dS F1 [], sy_dh F1 X1 X2 (iv_H 3), 0, 0)
  | [], c, F1, _, _, _, _, hN, _ => absurd hN (by intro z; exact z)
  | (none, w) :: r, c, F1, hI, hsc, h5, hcl, _, hw => by
    have w1 := (hw _ List.mem_cons_self).1
    rw [lcs_n] at h5 hcl
    simp only [List.length_append, List.length_map, List.length_cons, List.length_nil] at h5
    obtain ⟨g1, g2⟩ := clc_split hcl
    obtain ⟨g3, -⟩ := clc_split g2
    rw [List.length_map] at g1 g3
    have hx : ((sy_ai F 32).getD (c + w.length) 0).toInt = -14 := by
      have g3 : [((sy_ai F 32).getD (c + w.length + 0) 0).toInt] = [-14] := g3
      exact (List.cons.inj g3).1
    rcases exV_b (v := mkv k (v45 F)) w1 [] with ⟨v1, v2⟩ | ⟨x, v1, v2⟩
    · refine j3wo_E F X1 X2 k hs w 0 1 [] c F1 hI hsc (by omega) (by rw [show ((c : Int)).toNat = c by omega]; exact g1) w1 (by decide) (by decide) (by decide) (fun _ F2 hq => ⟨_, F2, rfl, rfl, hq, by rw [lwV_n, v2]; rfl⟩) (fun S' F2 h _ => (by rw [v1] at h; cases h))
    · refine j3wo_E F X1 X2 k hs w 0 1 [] c F1 hI hsc (by omega) (by rw [show ((c : Int)).toNat = c by omega]; exact g1) w1 (by decide) (by decide) (by decide) (fun h => (by rw [v1] at h; cases h)) (fun S' F2 h hI2 => ?_)
      have h := (Option.some.inj (v1.symm.trans h)).symm
      subst h
      obtain ⟨hq, e82, e83, e84, hst⟩ := hI2
      have e83 : (sy_i F2 83).toInt = 1 := e83
      have hc' : ((sy_ai F2 32).getD (sy_i F2 82).toInt.toNat 0).toInt = -14 := by
        rw [qq_a hq (by decide) (by decide), e82, show ((c : Int) + (w.length : Int)).toNat = c + w.length by omega]
        exact hx
      refine j3wo_8 (by decide) F2 X1 X2 hq.1 (by omega) (by omega) (by omega) ?_ ?_ ?_ ?_ ?_ ?_ ?_ ?_ ?_ ?_ ?_ ?_ ?_ ?_ ?_ ?_ ?_ ?_
      · intros; omega
      iterate 12
        intros
        exfalso
        omega
      · intro c0 c1 c2 c3 c4 c5 F3 hb g
        refine ⟨_, F3, rfl, rfl, qq_on hq hb g (by decide), ?_⟩
        rw [lwV_n, v2, show ((sy_i F2 83).toInt - 1).toNat = 0 by omega]
        exact hst.1
      iterate 4
        intros
        exfalso
        omega
  | (some (u, q), w) :: r, c, F1, hI, hsc, h5, hcl, hN, hw => by
    obtain ⟨w1, wt⟩ := hw _ List.mem_cons_self
    obtain ⟨wu, wq⟩ := wt u q rfl
    have hwr : ∀ b ∈ r, wfB b := fun b hb => hw b (List.mem_cons_of_mem _ hb)
    have hN : hasN r := hN
    rw [lcs_s] at h5 hcl
    simp only [List.length_append, List.length_map, List.length_cons, List.length_nil] at h5
    obtain ⟨g1, g2⟩ := clc_split hcl
    obtain ⟨g3, g4⟩ := clc_split g2
    obtain ⟨g5, g6⟩ := clc_split g4
    obtain ⟨g7, g8⟩ := clc_split g6
    obtain ⟨g9, g10⟩ := clc_split g8
    simp only [List.length_map, List.length_cons, List.length_nil] at g1 g3 g5 g7 g9 g10
    have hx : ((sy_ai F 32).getD (c + u.length + q.length) 0).toInt = -15 ∧ ((sy_ai F 32).getD (c + u.length + q.length + 1) 0).toInt = ((c + u.length + q.length + w.length + 3 : Nat) : Int) := by
      have g5 : [((sy_ai F 32).getD (c + u.length + q.length + 0) 0).toInt] ++ [((sy_ai F 32).getD (c + u.length + q.length + 1) 0).toInt] = [-15, ((c + u.length + q.length + w.length + 3 : Nat) : Int)] := g5
      exact ⟨(List.cons.inj g5).1, (List.cons.inj (List.cons.inj g5).2).1⟩
    have hx4 : ((sy_ai F 32).getD (c + u.length + q.length + 2 + w.length) 0).toInt = -14 := by
      have g9 : [((sy_ai F 32).getD (c + u.length + q.length + 2 + w.length + 0) 0).toInt] = [-14] := g9
      exact (List.cons.inj g9).1
    rcases exV_b (v := mkv k (v45 F)) wu [] with ⟨v1, v2⟩ | ⟨x, v1, v2⟩
    · exact j3wo_E F X1 X2 k hs u 0 1 [] c F1 hI hsc (by omega) (by rw [show ((c : Int)).toNat = c by omega]; exact g1) wu (by decide) (by decide) (by decide) (fun _ F2 hq => ⟨_, F2, rfl, rfl, hq, (lwV_0 (Or.inl v2)).symm⟩) (fun S' F2 h _ => (by rw [v1] at h; cases h))
    · refine j3wo_E F X1 X2 k hs u 0 1 [] c F1 hI hsc (by omega) (by rw [show ((c : Int)).toNat = c by omega]; exact g1) wu (by decide) (by decide) (by decide) (fun h => (by rw [v1] at h; cases h)) (fun S' F2 h hI2 => ?_)
      have h := (Option.some.inj (v1.symm.trans h)).symm
      subst h
      rcases exV_b (v := mkv k (v45 F)) wq [x] with ⟨y1, y2⟩ | ⟨y, y1, y2⟩
      · exact j3wo_E F X1 X2 k hs q 0 1 [x] (c + u.length) F2 hI2 (by omega) (by omega) (by rw [show ((c : Int) + (u.length : Int)).toNat = c + u.length by omega]; exact g3) wq (Nat.zero_le _) (Nat.le_refl _) (by decide) (fun _ F3 hq => ⟨_, F3, rfl, rfl, hq, (lwV_0 (Or.inr y2)).symm⟩) (fun S' F3 h _ => (by rw [y1] at h; cases h))
      · refine j3wo_E F X1 X2 k hs q 0 1 [x] (c + u.length) F2 hI2 (by omega) (by omega) (by rw [show ((c : Int) + (u.length : Int)).toNat = c + u.length by omega]; exact g3) wq (Nat.zero_le _) (Nat.le_refl _) (by decide) (fun h => (by rw [y1] at h; cases h)) (fun S' F3 h hI3 => ?_)
        have h := (Option.some.inj (y1.symm.trans h)).symm
        subst h
        obtain ⟨hq, e82, e83, e84, hst⟩ := hI3
        have e83 : (sy_i F3 83).toInt = 2 := e83
        have hy : (sy_ai F3 46).getD 1 0 = y := hst.1
        have hxx : (sy_ai F3 46).getD 0 0 = x := hst.2.1
        have hc' : ((sy_ai F3 32).getD (sy_i F3 82).toInt.toNat 0).toInt = -15 := by
          rw [qq_a hq (by decide) (by decide), e82, show ((c : Int) + (u.length : Int) + (q.length : Int)).toNat = c + u.length + q.length by omega]
          exact hx.1
        have hc2 : ((sy_ai F3 32).getD ((sy_i F3 82).toInt + 1).toNat 0).toInt = ((c + u.length + q.length + w.length + 3 : Nat) : Int) := by
          rw [qq_a hq (by decide) (by decide), e82, show ((c : Int) + (u.length : Int) + (q.length : Int) + 1).toNat = c + u.length + q.length + 1 by omega]
          exact hx.2
        have m1 : ((sy_i F3 83).toInt + (-2 : Int)).toNat = 0 := by omega
        have m2 : ((sy_i F3 83).toInt + (-2 : Int) + 1).toNat = 1 := by omega
        refine j3wo_8 (by decide) F3 X1 X2 hq.1 (by omega) (by omega) (by omega) ?_ ?_ ?_ ?_ ?_ ?_ ?_ ?_ ?_ ?_ ?_ ?_ ?_ ?_ ?_ ?_ ?_ ?_
        · intros; omega
        iterate 8
          intros
          exfalso
          omega
        · intro c0 c1 c2 c3 c4 c5 c6 c7 F4 hb g f82 i82 f83 i83 f84 i84
          rw [m1, m2, hy, hxx] at c7
          rw [hc2] at f82
          refine hd_W_mono (j3wo_L k hs r (c + u.length + q.length + w.length + 3) F4 ⟨qq_on hq hb g (by decide), f82, by show _ = ((0 : Nat) : Int); omega, by omega, trivial⟩ (by omega) (by omega) ?_ hN hwr) ?_
          · rw [show c + u.length + q.length + w.length + 3 = c + u.length + q.length + 2 + w.length + 1 by omega] at g10 ⊢
            exact g10
          · rintro v G ⟨z, F', rfl, rfl, h1, h2⟩
            refine ⟨z, F', rfl, rfl, h1, ?_⟩
            rw [h2, lwV_s v2 y2, if_neg (by omega)]
        · intro c0 c1 c2 c3 c4 c5 c6 c7 F4 hb g f82 i82 f83 i83 f84 i84
          rw [m1, m2, hy, hxx] at c7
          have hI4 : woI F s (c + u.length + q.length + 2 : Nat) [] F4 := ⟨qq_on hq hb g (by decide), by omega, by show _ = ((0 : Nat) : Int); omega, by omega, trivial⟩
          have gw : clc (sy_ai F 32) (((c + u.length + q.length + 2 : Nat) : Int)).toNat w.length = w.map (cell k) := by rw [Int.toNat_natCast]; exact g7
          rcases exV_b (v := mkv k (v45 F)) w1 [] with ⟨x1, x2⟩ | ⟨z, x1, x2⟩
          · exact j3wo_E F X1 X2 k hs w 0 1 [] _ F4 hI4 (by omega) (by omega) gw w1 (by decide) (by decide) (by decide) (fun _ F5 hq => ⟨_, F5, rfl, rfl, hq, by rw [lwV_s v2 y2, if_pos c7, x2]; rfl⟩) (fun S' F5 h _ => (by rw [x1] at h; cases h))
          · refine j3wo_E F X1 X2 k hs w 0 1 [] _ F4 hI4 (by omega) (by omega) gw w1 (by decide) (by decide) (by decide) (fun h => (by rw [x1] at h; cases h)) (fun S' F5 h hI5 => ?_)
            have h := (Option.some.inj (x1.symm.trans h)).symm
            subst h
            obtain ⟨hq5, e82', e83', e84', hst'⟩ := hI5
            have e83' : (sy_i F5 83).toInt = 1 := e83'
            have hc5 : ((sy_ai F5 32).getD (sy_i F5 82).toInt.toNat 0).toInt = -14 := by
              rw [qq_a hq5 (by decide) (by decide), e82', show (((c + u.length + q.length + 2 : Nat) : Int) + (w.length : Int)).toNat = c + u.length + q.length + 2 + w.length by omega]
              exact hx4
            refine j3wo_8 (by decide) F5 X1 X2 hq5.1 (by omega) (by omega) (by omega) ?_ ?_ ?_ ?_ ?_ ?_ ?_ ?_ ?_ ?_ ?_ ?_ ?_ ?_ ?_ ?_ ?_ ?_
            · intros; omega
            iterate 12
              intros
              exfalso
              omega
            · intro d0 d1 d2 d3 d4 d5 F6 hb6 g6
              refine ⟨_, F6, rfl, rfl, qq_on hq5 hb6 g6 (by decide), ?_⟩
              rw [lwV_s v2 y2, if_pos c7, x2, show ((sy_i F5 83).toInt - 1).toNat = 0 by omega]
              exact hst'.1
            iterate 4
              intros
              exfalso
              omega
        iterate 7
          intros
          exfalso
          omega
theorem j3wo_V (k : Nat) {a : Int32} {l : List bRT} (hB : iv_in F iv_B0) (h0 : 0 ≤ a.toInt) (h5 : a.toInt + (lcs k a.toInt.toNat l).length < 512) (hcl : clc (sy_ai F 32) a.toInt.toNat (lcs k a.toInt.toNat l).length = lcs k a.toInt.toNat l) (hl : wfL l) : jm_T Ls xs 2 jm_M22 [.ref 38, .ref 20, .int a] (sy_dh F X1 X2 (iv_H 3)) 0 0 (pI 3 X1 X2 (fun x F' => qC [46] F F' ∧ x = lwV (mkv k (v45 F)) l)) := by
  refine C_T (by decide) [a] [.inl (.ref 38), .inl (.ref 20), .inr (.inl 82)] jm_ok22 (by decide) rfl (fun F0 k0 ki => ?_)
  have i82 : sy_i F0 82 = a := ki 0
  refine j3wo_0 (by decide) F0 X1 X2 (hd_iveq0 hB k0) ?_
  intro F1 hb g e82 j82 e83 j83 e84 j84
  rw [i82] at e82
  refine j3wo_L F X1 X2 k h0 l a.toInt.toNat F1 ⟨qq_src (qq_mk hb g (by decide)) k0, by omega, e83, by omega, trivial⟩ (by omega) (by omega) hcl hl.1 hl.2
/-- a law is told -/
theorem j3to_V {T : tX} (hB : iv_in F iv_B0) (hX : rXc 18 T F) (hT : wT T) (hcs : (sy_i F 23).toInt ≤ 412) {a : Int32} {k : Nat} (hk : k < 6) (ha : a.toInt = k) : jm_T Ls xs 4 jm_M21 [.ref 38, .ref 20, .int a] (sy_dh F X1 X2 (iv_H 3)) 0 0 (pI 3 X1 X2 (fun x F' => qC [46] F F' ∧ x.toInt = lwT T k (v45 F))) := by
  refine C_T (by decide) [a] [.inl (.ref 38), .inl (.ref 20), .inr (.inl 82)] jm_ok21 (by decide) rfl (fun F0 k0 ki => ?_)
  have i82 : sy_i F0 82 = a := ki 0
  refine j3to_0 (by decide) F0 X1 X2 (hd_iveq0 hB k0) (by rw [i82]; omega) ?_
  intro F1 hb g e82 j82 e83 j83
  rw [i82] at e82 j82
  have q1 : qC [] F F1 := qq_src (qq_mk hb g (by decide)) k0
  obtain ⟨h1, h2, h3⟩ := hX.2.2.2.2.2 k hk
  have h1 : 0 ≤ ix F 31 k := h1
  have h2 : ix F 31 k + (lcs k (ix F 31 k).toNat ((T.2.2.2.2.2 k).getD (pb k))).length ≤ (sy_i F 23).toInt := h2
  have h3 : clc (sy_ai F 32) (ix F 31 k).toNat (lcs k (ix F 31 k).toNat ((T.2.2.2.2.2 k).getD (pb k))).length = lcs k (ix F 31 k).toNat ((T.2.2.2.2.2 k).getD (pb k)) := h3
  have e83 : (sy_i F1 83).toInt = ix F 31 k := by rw [e83, i82, ha, Int.toNat_natCast, nz_fa (k0 31 (by decide))]; rfl
  refine hd_calI (R := fun x F' => qC [46] F1 F' ∧ x = lwV (mkv k (v45 F1)) ((T.2.2.2.2.2 k).getD (pb k))) (nh := 82) (nv := 83) (s := 3) (s1 := 3) (d1 := 2) (M1 := jm_M22) (As := [.inl (.ref 38), .inl (.ref 20), .inr (.inl 83)]) (rest := []) jm_ok21 rfl rfl (by decide) (by decide +kernel) (j3wo_V F1 X1 X2 k hb (by omega) (by rw [e83]; omega) (by rw [e83, qq_a q1 (by decide) (by decide)]; exact h3) (wfL_T hT k)) (fun F3 F' x hR p1 p2 p3 => ?_)
  have ev : v45 F1 = v45 F := by unfold v45; rw [qq_a q1 (by decide) (by decide)]
  obtain ⟨r1, r2⟩ := hR
  have q3 : qC [46] F F3 := qq_trans (qq_up q1 (by decide)) (qC_dst r1 p1)
  have m82 : (sy_i F3 82).toInt = k := by rw [nz_fi (p2 82 (by decide) (by decide)), e82]; exact ha
  have m83 : sy_i F3 83 = x := zz_i p3
  have hx : lwT T k (v45 F) = hdz (lLo k) (lHi k) x.toInt := by
    unfold lwT lwR
    rw [r2, ev]
  have hi : (([9, 9, 100, 99, 9, 100] : List Int32).getD (sy_i F3 82).toInt.toNat 0).toInt = lHi k := by
    rw [m82, Int.toNat_natCast]
    exact lHi_t k hk
  have lo : (([0, (-9), 0, 0, (-9), 0] : List Int32).getD (sy_i F3 82).toInt.toNat 0).toInt = lLo k := by
    rw [m82, Int.toNat_natCast]
    exact lLo_t k hk
  have hlh := lLH k
  refine j3to_11 (by decide) F3 X1 X2 q3.1 (by omega) ?_ ?_ ?_ ?_
  · intro c0 c1 F4 hb4 g4
    refine ⟨_, F4, rfl, rfl, qq_on q3 hb4 g4 (by decide), ?_⟩
    rw [hi, m83] at c0
    rw [lo, m83] at c1
    rw [hx, m83]
    unfold hdz
    rw [if_neg (by omega), if_neg (by omega)]
  · intro c0 c1 F4 hb4 g4
    refine ⟨_, F4, rfl, rfl, qq_on q3 hb4 g4 (by decide), ?_⟩
    rw [hi, m83] at c0
    rw [lo, m83] at c1
    rw [hx, lo]
    unfold hdz
    by_cases z : x.toInt < lLo k
    · rw [if_pos z]
    · rw [if_neg z, if_neg (by omega)]
      omega
  · intro c0 c1 F4 hb4 g4
    refine ⟨_, F4, rfl, rfl, qq_on q3 hb4 g4 (by decide), ?_⟩
    rw [hi, m83] at c0
    rw [lo, hi] at c1
    rw [hx, hi]
    unfold hdz
    rw [if_neg (by omega)]
    by_cases z : lHi k < x.toInt
    · rw [if_pos z]
    · rw [if_neg z]
      omega
  · intro c0 c1
    rw [hi, lo] at c1
    exfalso
    omega
end W3
end
section
/-! ===== the class: what is so on a ground, who catches, who buys, way by way (shape 3, n) ===== -/
theorem j3nbi_0_p0 {Ls : Nat} {xs : Nat → Int32} {d : Nat} {Q : Option Value → jm_h → Prop} (hd : 1 ≤ d) (F : Nat → sy_d) (X1 X2 : List jm_c) (hB : iv_in F iv_B0)
    (k : ∀ F1 : Nat → sy_d, (∀ j, j < 82 → True → F1 j = F j) → F1 82 = .inl (.int (sy_i F 82)) → F1 83 = .inl (.int (sy_i F 83)) → F1 84 = .inl (.int ((0 : Int32))) → F1 85 = .inl (.int ((0 : Int32))) → hd_W Ls xs d jm_M11 Q (5, sy_dL F1 [some (.inl (.ref 46)), some (.inr (.inl 82)), some (.inr (.inl 83)), some (.inr (.inl 84)), some (.inr (.inl 85))], sy_dS F1 [], sy_dh F1 X1 X2 (iv_H 3), 0, 0)) :
    hd_W Ls xs d jm_M11 Q (0, sy_dL F [some (.inl (.ref 46)), some (.inr (.inl 82)), some (.inr (.inl 83)), none, none], sy_dS F [], sy_dh F X1 X2 (iv_H 3), 0, 0) := by
  refine hd_run (s := 3) (nv := 84) (pc := 5) (L := [some (.inl (.ref 46)), some (.inr (.inl 82)), some (.inr (.inl 83)), some (.inr (.inl 84)), some (.inr (.inl 85))]) (S := []) (uh := hd_ov (iv_id 0 iv_B0) []) (ul := [.inl (.inr (.inl 82)), .inl (.inr (.inl 83)), .inl (.inl (.int 0)), .inl (.inl (.int 0))]) (f := true) (sp := [5]) (d0 := 0) (O := []) (T := []) (P := []) jm_ok11 (by decide +kernel) (by decide +kernel) hd F X1 X2 (fun F' hF hs => ?_)
  have b82 := hd_b (F := F) (F' := F') (k := 82) (hF 82 (by decide))
  have b83 := hd_b (F := F) (F' := F') (k := 83) (hF 83 (by decide))
  have hB' : iv_in F' iv_B0 := iv_in_eq hB (fun j hj => hF j (Nat.lt_of_lt_of_le hj (by decide +kernel)))
  refine ⟨fun _ h => absurd h List.not_mem_nil, ?_⟩
  refine k _ ?_ ?_ ?_ ?_ ?_
  · exact fun j hj _ => (hd_keep hB' (Nat.lt_of_lt_of_le hj (by decide +kernel)) (by simp)).trans (hF j (Nat.lt_of_lt_of_le hj (by decide)))
  · exact hd_gi (x := .inr (.inl 82)) (by decide +kernel) b82
  · exact hd_gi (x := .inr (.inl 83)) (by decide +kernel) b83
  · exact hd_gi (x := .inl (.int 0)) (by decide +kernel) rfl
  · exact hd_gi (x := .inl (.int 0)) (by decide +kernel) rfl
theorem j3nbi_0 {Ls : Nat} {xs : Nat → Int32} {d : Nat} {Q : Option Value → jm_h → Prop} (hd : 1 ≤ d) (F : Nat → sy_d) (X1 X2 : List jm_c) (hB : iv_in F iv_B0)
    (k0 : ∀ F1 : Nat → sy_d, iv_in F1 iv_B0 → (∀ j, j < 82 → j ∉ ([] : List Nat) → F1 j = F j) → (sy_i F1 82).toInt = (sy_i F 82).toInt → sy_i F1 82 = sy_i F 82 → (sy_i F1 83).toInt = (sy_i F 83).toInt → sy_i F1 83 = sy_i F 83 → (sy_i F1 84).toInt = 0 → sy_i F1 84 = (0 : Int32) → (sy_i F1 85).toInt = 0 → sy_i F1 85 = (0 : Int32) → hd_W Ls xs d jm_M11 Q (5, sy_dL F1 [some (.inl (.ref 46)), some (.inr (.inl 82)), some (.inr (.inl 83)), some (.inr (.inl 84)), some (.inr (.inl 85))], sy_dS F1 [], sy_dh F1 X1 X2 (iv_H 3), 0, 0)) :
    hd_W Ls xs d jm_M11 Q (0, sy_dL F [some (.inl (.ref 46)), some (.inr (.inl 82)), some (.inr (.inl 83)), none, none], sy_dS F [], sy_dh F X1 X2 (iv_H 3), 0, 0) := by
  exact j3nbi_0_p0 hd F X1 X2 hB  (fun F1 g e82 e83 e84 e85 => k0 F1 (nz_in0 hB [] (fun j hj hn => g j hj (by simp only [List.mem_cons, List.not_mem_nil, or_false, not_or] at hn; exact trivial)) (List.forall_mem_nil _)) (fun j hj hn => g j hj (by simp only [List.mem_cons, List.not_mem_nil, or_false, not_or] at hn; exact trivial)) ((congrArg Int32.toInt (zz_i e82)).trans (rfl : (sy_i F 82).toInt = (sy_i F 82).toInt)) ((zz_i e82).trans (rfl : sy_i F 82 = sy_i F 82)) ((congrArg Int32.toInt (zz_i e83)).trans (rfl : (sy_i F 83).toInt = (sy_i F 83).toInt)) ((zz_i e83).trans (rfl : sy_i F 83 = sy_i F 83)) ((congrArg Int32.toInt (zz_i e84)).trans (by decide : ((0 : Int32)).toInt = 0)) ((zz_i e84).trans (rfl : (0 : Int32) = (0 : Int32))) ((congrArg Int32.toInt (zz_i e85)).trans (by decide : ((0 : Int32)).toInt = 0)) ((zz_i e85).trans (rfl : (0 : Int32) = (0 : Int32))))
theorem j3nbi_5_p0 {Ls : Nat} {xs : Nat → Int32} {d : Nat} {Q : Option Value → jm_h → Prop} (hd : 1 ≤ d) (F : Nat → sy_d) (X1 X2 : List jm_c) (hB : iv_in F iv_B0)
    (h0 : (sy_i F 83).toInt ≤ (sy_i F 85).toInt)
    (k : ∀ F1 : Nat → sy_d, (∀ j, j < 82 → True → F1 j = F j) → Q (some (.int (sy_i F 84))) (sy_dh F1 X1 X2 (iv_H 3))) :
    hd_W Ls xs d jm_M11 Q (5, sy_dL F [some (.inl (.ref 46)), some (.inr (.inl 82)), some (.inr (.inl 83)), some (.inr (.inl 84)), some (.inr (.inl 85))], sy_dS F [], sy_dh F X1 X2 (iv_H 3), 0, 0) := by
  refine hd_ret (s := 3) (nv := 86) (v := some (.inr (.inl 84))) (uh := hd_ov (iv_id 0 iv_B0) []) (f := true) (sp := [5]) (d0 := 0) (O := [true]) (T := []) (P := [(4, .inr (.inl 83), .inr (.inl 85))]) jm_ok11 (by decide +kernel) (by decide +kernel) hd F X1 X2 (fun F' hF hs => ?_)
  have b83 := hd_b (F := F) (F' := F') (k := 83) (hF 83 (by decide))
  have b85 := hd_b (F := F) (F' := F') (k := 85) (hF 85 (by decide))
  have b84 := hd_b (F := F) (F' := F') (k := 84) (hF 84 (by decide))
  have hB' : iv_in F' iv_B0 := iv_in_eq hB (fun j hj => hF j (Nat.lt_of_lt_of_le hj (by decide +kernel)))
  have hk := k (sy_cm F' (hd_ov (iv_id 0 iv_B0) [] ++ [])) (fun j hj _ => (hd_keep hB' (Nat.lt_of_lt_of_le hj (by decide +kernel)) (by simp)).trans (hF j (Nat.lt_of_lt_of_le hj (by decide))))
  refine ⟨List.forall_mem_cons.mpr ⟨hd_p4 b83 b85 h0, fun _ h => absurd h List.not_mem_nil⟩, ?_⟩
  show Q (some (sy_dv F' (.inr (.inl 84)))) _
  rw [b84]
  exact hk
theorem j3nbi_5_p1 {Ls : Nat} {xs : Nat → Int32} {d : Nat} {Q : Option Value → jm_h → Prop} (hd : 1 ≤ d) (F : Nat → sy_d) (X1 X2 : List jm_c) (hB : iv_in F iv_B0)
    (h0 : (sy_i F 85).toInt < (sy_i F 83).toInt)
    (h1 : (sy_i F 85).toInt < 7)
    (h2 : 0 ≤ (sy_i F 85).toInt ∧ (sy_i F 85).toInt < 7)
    (h3 : ((sy_ai F 54).getD (sy_i F 85).toNatClampNeg 0).toInt ≠ (sy_i F 82).toInt)
    (k : ∀ F1 : Nat → sy_d, (∀ j, j < 82 → True → F1 j = F j) → F1 82 = .inl (.int (sy_i F 82)) → F1 83 = .inl (.int (sy_i F 83)) → F1 84 = .inl (.int (sy_i F 84)) → F1 85 = .inl (.int ((sy_i F 85) + ((1 : Int32)))) → hd_W Ls xs d jm_M11 Q (5, sy_dL F1 [some (.inl (.ref 46)), some (.inr (.inl 82)), some (.inr (.inl 83)), some (.inr (.inl 84)), some (.inr (.inl 85))], sy_dS F1 [], sy_dh F1 X1 X2 (iv_H 3), 0, 0)) :
    hd_W Ls xs d jm_M11 Q (5, sy_dL F [some (.inl (.ref 46)), some (.inr (.inl 82)), some (.inr (.inl 83)), some (.inr (.inl 84)), some (.inr (.inl 85))], sy_dS F [], sy_dh F X1 X2 (iv_H 3), 0, 0) := by
  refine hd_run (s := 3) (nv := 86) (pc := 5) (L := [some (.inl (.ref 46)), some (.inr (.inl 82)), some (.inr (.inl 83)), some (.inr (.inl 84)), some (.inr (.inl 85))]) (S := []) (uh := hd_ov (iv_id 0 iv_B0) []) (ul := [.inl (.inr (.inl 82)), .inl (.inr (.inl 83)), .inl (.inr (.inl 84)), .inl (.inr (.inl 87))]) (f := true) (sp := [5]) (d0 := 0) (O := [false, false, true]) (T := [(30, [.inr (.inl 85)], [.inr (.inl 54)]), (0, [.inr (.inl 85), .inl (.int 1)], [])]) (P := [(5, .inr (.inl 83), .inr (.inl 85)), (5, .inl (.int 7), .inr (.inl 85)), (6, .inr (.inl 85), .inl (.ref 7)), (1, .inr (.inl 86), .inr (.inl 82))]) jm_ok11 (by decide +kernel) (by decide +kernel) hd F X1 X2 (fun F' hF hs => ?_)
  have b83 := hd_b (F := F) (F' := F') (k := 83) (hF 83 (by decide))
  have b85 := hd_b (F := F) (F' := F') (k := 85) (hF 85 (by decide))
  have a54 := hd_ba (F := F) (F' := F') (k := 54) (hF 54 (by decide))
  have t86 : sy_dv F' (.inr (.inl 86)) = .int ((sy_ai F 54).getD (sy_i F 85).toNatClampNeg 0) := hd_rd (hs 0 _ rfl) b85 a54
  have b82 := hd_b (F := F) (F' := F') (k := 82) (hF 82 (by decide))
  have b84 := hd_b (F := F) (F' := F') (k := 84) (hF 84 (by decide))
  have t87 : sy_dv F' (.inr (.inl 87)) = .int ((sy_i F 85) + ((1 : Int32))) := hd_o (hs 1 _ rfl) b85 rfl rfl
  have hB' : iv_in F' iv_B0 := iv_in_eq hB (fun j hj => hF j (Nat.lt_of_lt_of_le hj (by decide +kernel)))
  refine ⟨List.forall_mem_cons.mpr ⟨hd_p5 b83 b85 h0, List.forall_mem_cons.mpr ⟨hd_p5 rfl b85 (by have hc : ((7) : Int32).toInt = 7 := (by decide); omega), List.forall_mem_cons.mpr ⟨hd_pb b85 (by first | exact h2 | exact h2), List.forall_mem_cons.mpr ⟨hd_p1 t86 b82 h3, fun _ h => absurd h List.not_mem_nil⟩⟩⟩⟩, ?_⟩
  refine k _ ?_ ?_ ?_ ?_ ?_
  · exact fun j hj _ => (hd_keep hB' (Nat.lt_of_lt_of_le hj (by decide +kernel)) (by simp)).trans (hF j (Nat.lt_of_lt_of_le hj (by decide)))
  · exact hd_gi (x := .inr (.inl 82)) (by decide +kernel) b82
  · exact hd_gi (x := .inr (.inl 83)) (by decide +kernel) b83
  · exact hd_gi (x := .inr (.inl 84)) (by decide +kernel) b84
  · exact hd_gi (x := .inr (.inl 87)) (by decide +kernel) t87
theorem j3nbi_5_p2 {Ls : Nat} {xs : Nat → Int32} {d : Nat} {Q : Option Value → jm_h → Prop} (hd : 1 ≤ d) (F : Nat → sy_d) (X1 X2 : List jm_c) (hB : iv_in F iv_B0)
    (h0 : (sy_i F 85).toInt < (sy_i F 83).toInt)
    (h1 : (sy_i F 85).toInt < 7)
    (h2 : 0 ≤ (sy_i F 85).toInt ∧ (sy_i F 85).toInt < 7)
    (h3 : ((sy_ai F 54).getD (sy_i F 85).toNatClampNeg 0).toInt = (sy_i F 82).toInt)
    (k : ∀ F1 : Nat → sy_d, (∀ j, j < 82 → True → F1 j = F j) → F1 82 = .inl (.int (sy_i F 82)) → F1 83 = .inl (.int (sy_i F 83)) → F1 84 = .inl (.int ((sy_i F 84) ||| (((1 : Int32)) <<< ((sy_i F 85) &&& 31)))) → F1 85 = .inl (.int ((sy_i F 85) + ((1 : Int32)))) → hd_W Ls xs d jm_M11 Q (5, sy_dL F1 [some (.inl (.ref 46)), some (.inr (.inl 82)), some (.inr (.inl 83)), some (.inr (.inl 84)), some (.inr (.inl 85))], sy_dS F1 [], sy_dh F1 X1 X2 (iv_H 3), 0, 0)) :
    hd_W Ls xs d jm_M11 Q (5, sy_dL F [some (.inl (.ref 46)), some (.inr (.inl 82)), some (.inr (.inl 83)), some (.inr (.inl 84)), some (.inr (.inl 85))], sy_dS F [], sy_dh F X1 X2 (iv_H 3), 0, 0) := by
  refine hd_run (s := 3) (nv := 86) (pc := 5) (L := [some (.inl (.ref 46)), some (.inr (.inl 82)), some (.inr (.inl 83)), some (.inr (.inl 84)), some (.inr (.inl 85))]) (S := []) (uh := hd_ov (iv_id 0 iv_B0) []) (ul := [.inl (.inr (.inl 82)), .inl (.inr (.inl 83)), .inl (.inr (.inl 88)), .inl (.inr (.inl 89))]) (f := true) (sp := [5]) (d0 := 0) (O := [false, false, false]) (T := [(30, [.inr (.inl 85)], [.inr (.inl 54)]), (6, [.inl (.int 1), .inr (.inl 85)], []), (4, [.inr (.inl 84), .inr (.inl 87)], []), (0, [.inr (.inl 85), .inl (.int 1)], [])]) (P := [(5, .inr (.inl 83), .inr (.inl 85)), (5, .inl (.int 7), .inr (.inl 85)), (6, .inr (.inl 85), .inl (.ref 7)), (0, .inr (.inl 86), .inr (.inl 82))]) jm_ok11 (by decide +kernel) (by decide +kernel) hd F X1 X2 (fun F' hF hs => ?_)
  have b83 := hd_b (F := F) (F' := F') (k := 83) (hF 83 (by decide))
  have b85 := hd_b (F := F) (F' := F') (k := 85) (hF 85 (by decide))
  have a54 := hd_ba (F := F) (F' := F') (k := 54) (hF 54 (by decide))
  have t86 : sy_dv F' (.inr (.inl 86)) = .int ((sy_ai F 54).getD (sy_i F 85).toNatClampNeg 0) := hd_rd (hs 0 _ rfl) b85 a54
  have b82 := hd_b (F := F) (F' := F') (k := 82) (hF 82 (by decide))
  have b84 := hd_b (F := F) (F' := F') (k := 84) (hF 84 (by decide))
  have t87 : sy_dv F' (.inr (.inl 87)) = .int (((1 : Int32)) <<< ((sy_i F 85) &&& 31)) := hd_o (hs 1 _ rfl) rfl b85 rfl
  have t88 : sy_dv F' (.inr (.inl 88)) = .int ((sy_i F 84) ||| (((1 : Int32)) <<< ((sy_i F 85) &&& 31))) := hd_o (hs 2 _ rfl) b84 t87 rfl
  have t89 : sy_dv F' (.inr (.inl 89)) = .int ((sy_i F 85) + ((1 : Int32))) := hd_o (hs 3 _ rfl) b85 rfl rfl
  have hB' : iv_in F' iv_B0 := iv_in_eq hB (fun j hj => hF j (Nat.lt_of_lt_of_le hj (by decide +kernel)))
  refine ⟨List.forall_mem_cons.mpr ⟨hd_p5 b83 b85 h0, List.forall_mem_cons.mpr ⟨hd_p5 rfl b85 (by have hc : ((7) : Int32).toInt = 7 := (by decide); omega), List.forall_mem_cons.mpr ⟨hd_pb b85 (by first | exact h2 | exact h2), List.forall_mem_cons.mpr ⟨hd_p0 t86 b82 h3, fun _ h => absurd h List.not_mem_nil⟩⟩⟩⟩, ?_⟩
  refine k _ ?_ ?_ ?_ ?_ ?_
  · exact fun j hj _ => (hd_keep hB' (Nat.lt_of_lt_of_le hj (by decide +kernel)) (by simp)).trans (hF j (Nat.lt_of_lt_of_le hj (by decide)))
  · exact hd_gi (x := .inr (.inl 82)) (by decide +kernel) b82
  · exact hd_gi (x := .inr (.inl 83)) (by decide +kernel) b83
  · exact hd_gi (x := .inr (.inl 88)) (by decide +kernel) t88
  · exact hd_gi (x := .inr (.inl 89)) (by decide +kernel) t89
theorem j3nbi_5 {Ls : Nat} {xs : Nat → Int32} {d : Nat} {Q : Option Value → jm_h → Prop} (hd : 1 ≤ d) (F : Nat → sy_d) (X1 X2 : List jm_c) (hB : iv_in F iv_B0)
    (a83 : 0 ≤ (sy_i F 83).toInt ∧ (sy_i F 83).toInt ≤ 7)
    (a85 : 0 ≤ (sy_i F 85).toInt ∧ (sy_i F 85).toInt ≤ 7)
    (k0 : (sy_i F 83).toInt ≤ (sy_i F 85).toInt → ∀ F1 : Nat → sy_d, iv_in F1 iv_B0 → (∀ j, j < 82 → j ∉ ([] : List Nat) → F1 j = F j) → Q (some (.int (sy_i F 84))) (sy_dh F1 X1 X2 (iv_H 3)))
    (k1 : (sy_i F 85).toInt < (sy_i F 83).toInt → (sy_i F 85).toInt < 7 → ((sy_ai F 54).getD ((sy_i F 85).toInt).toNat 0).toInt ≠ (sy_i F 82).toInt → ∀ F1 : Nat → sy_d, iv_in F1 iv_B0 → (∀ j, j < 82 → j ∉ ([] : List Nat) → F1 j = F j) → (sy_i F1 82).toInt = (sy_i F 82).toInt → sy_i F1 82 = sy_i F 82 → (sy_i F1 83).toInt = (sy_i F 83).toInt → sy_i F1 83 = sy_i F 83 → (sy_i F1 84).toInt = (sy_i F 84).toInt → sy_i F1 84 = sy_i F 84 → (sy_i F1 85).toInt = ((sy_i F 85).toInt + 1) → sy_i F1 85 = (sy_i F 85) + ((1 : Int32)) → hd_W Ls xs d jm_M11 Q (5, sy_dL F1 [some (.inl (.ref 46)), some (.inr (.inl 82)), some (.inr (.inl 83)), some (.inr (.inl 84)), some (.inr (.inl 85))], sy_dS F1 [], sy_dh F1 X1 X2 (iv_H 3), 0, 0))
    (k2 : (sy_i F 85).toInt < (sy_i F 83).toInt → (sy_i F 85).toInt < 7 → ((sy_ai F 54).getD ((sy_i F 85).toInt).toNat 0).toInt = (sy_i F 82).toInt → ∀ F1 : Nat → sy_d, iv_in F1 iv_B0 → (∀ j, j < 82 → j ∉ ([] : List Nat) → F1 j = F j) → (sy_i F1 82).toInt = (sy_i F 82).toInt → sy_i F1 82 = sy_i F 82 → (sy_i F1 83).toInt = (sy_i F 83).toInt → sy_i F1 83 = sy_i F 83 → (sy_i F1 84).toInt = ((sy_i F 84) ||| (((1 : Int32)) <<< ((sy_i F 85) &&& 31))).toInt → sy_i F1 84 = (sy_i F 84) ||| (((1 : Int32)) <<< ((sy_i F 85) &&& 31)) → (sy_i F1 85).toInt = ((sy_i F 85).toInt + 1) → sy_i F1 85 = (sy_i F 85) + ((1 : Int32)) → hd_W Ls xs d jm_M11 Q (5, sy_dL F1 [some (.inl (.ref 46)), some (.inr (.inl 82)), some (.inr (.inl 83)), some (.inr (.inl 84)), some (.inr (.inl 85))], sy_dS F1 [], sy_dh F1 X1 X2 (iv_H 3), 0, 0)) :
    hd_W Ls xs d jm_M11 Q (5, sy_dL F [some (.inl (.ref 46)), some (.inr (.inl 82)), some (.inr (.inl 83)), some (.inr (.inl 84)), some (.inr (.inl 85))], sy_dS F [], sy_dh F X1 X2 (iv_H 3), 0, 0) := by
  by_cases g0 : (sy_i F 83).toInt ≤ (sy_i F 85).toInt
  · exact j3nbi_5_p0 hd F X1 X2 hB (by first | exact g0 | (simp only [nz_c]; exact g0)) (fun F1 g  => by rw [(rfl : sy_i F 84 = sy_i F 84)]; exact k0 g0 F1 (nz_in0 hB [] (fun j hj hn => g j hj (by simp only [List.mem_cons, List.not_mem_nil, or_false, not_or] at hn; exact trivial)) (List.forall_mem_nil _)) (fun j hj hn => g j hj (by simp only [List.mem_cons, List.not_mem_nil, or_false, not_or] at hn; exact trivial)) )
  replace g0 : (sy_i F 85).toInt < (sy_i F 83).toInt := by omega
  by_cases g1 : 7 ≤ (sy_i F 85).toInt
  · exfalso
    omega
  replace g1 : (sy_i F 85).toInt < 7 := by omega
  by_cases g2 : ((sy_ai F 54).getD ((sy_i F 85).toInt).toNat 0).toInt ≠ (sy_i F 82).toInt
  · have q86 : (sy_ai F 54).getD (sy_i F 85).toNatClampNeg 0 = (sy_ai F 54).getD ((sy_i F 85).toInt).toNat 0 := by simp only [nz_c]
    have n86 : nzI ((sy_ai F 54).getD (sy_i F 85).toNatClampNeg 0) (((sy_ai F 54).getD ((sy_i F 85).toInt).toNat 0).toInt) := congrArg Int32.toInt q86
    have n87 : nzI ((sy_i F 85) + ((1 : Int32))) (((sy_i F 85).toInt + 1)) := nz_add (rfl : (sy_i F 85).toInt = (sy_i F 85).toInt) (by decide : ((1 : Int32)).toInt = 1) (by omega) (by omega)
    exact j3nbi_5_p1 hd F X1 X2 hB (by first | exact g0 | (simp only [nz_c]; exact g0)) (by first | exact g1 | (simp only [nz_c]; exact g1)) (by first | exact ⟨by omega, by omega⟩ | (simp only [nz_c]; exact ⟨by omega, by omega⟩)) (by first | exact g2 | (simp only [nz_c]; exact g2) | (rw [(nzE n86)]; exact g2)) (fun F1 g e82 e83 e84 e85 => k1 g0 g1 g2 F1 (nz_in0 hB [] (fun j hj hn => g j hj (by simp only [List.mem_cons, List.not_mem_nil, or_false, not_or] at hn; exact trivial)) (List.forall_mem_nil _)) (fun j hj hn => g j hj (by simp only [List.mem_cons, List.not_mem_nil, or_false, not_or] at hn; exact trivial)) ((congrArg Int32.toInt (zz_i e82)).trans (rfl : (sy_i F 82).toInt = (sy_i F 82).toInt)) ((zz_i e82).trans (rfl : sy_i F 82 = sy_i F 82)) ((congrArg Int32.toInt (zz_i e83)).trans (rfl : (sy_i F 83).toInt = (sy_i F 83).toInt)) ((zz_i e83).trans (rfl : sy_i F 83 = sy_i F 83)) ((congrArg Int32.toInt (zz_i e84)).trans (rfl : (sy_i F 84).toInt = (sy_i F 84).toInt)) ((zz_i e84).trans (rfl : sy_i F 84 = sy_i F 84)) ((congrArg Int32.toInt (zz_i e85)).trans (nzE n87)) ((zz_i e85).trans (rfl : (sy_i F 85) + ((1 : Int32)) = (sy_i F 85) + ((1 : Int32)))))
  replace g2 : ((sy_ai F 54).getD ((sy_i F 85).toInt).toNat 0).toInt = (sy_i F 82).toInt := by omega
  have q86 : (sy_ai F 54).getD (sy_i F 85).toNatClampNeg 0 = (sy_ai F 54).getD ((sy_i F 85).toInt).toNat 0 := by simp only [nz_c]
  have n86 : nzI ((sy_ai F 54).getD (sy_i F 85).toNatClampNeg 0) (((sy_ai F 54).getD ((sy_i F 85).toInt).toNat 0).toInt) := congrArg Int32.toInt q86
  have n88 : nzI ((sy_i F 84) ||| (((1 : Int32)) <<< ((sy_i F 85) &&& 31))) (((sy_i F 84) ||| (((1 : Int32)) <<< ((sy_i F 85) &&& 31))).toInt) := congrArg Int32.toInt (rfl : (sy_i F 84) ||| (((1 : Int32)) <<< ((sy_i F 85) &&& 31)) = (sy_i F 84) ||| (((1 : Int32)) <<< ((sy_i F 85) &&& 31)))
  have n89 : nzI ((sy_i F 85) + ((1 : Int32))) (((sy_i F 85).toInt + 1)) := nz_add (rfl : (sy_i F 85).toInt = (sy_i F 85).toInt) (by decide : ((1 : Int32)).toInt = 1) (by omega) (by omega)
  exact j3nbi_5_p2 hd F X1 X2 hB (by first | exact g0 | (simp only [nz_c]; exact g0)) (by first | exact g1 | (simp only [nz_c]; exact g1)) (by first | exact ⟨by omega, by omega⟩ | (simp only [nz_c]; exact ⟨by omega, by omega⟩)) (by first | exact g2 | (simp only [nz_c]; exact g2) | (rw [(nzE n86)]; exact g2)) (fun F1 g e82 e83 e84 e85 => k2 g0 g1 g2 F1 (nz_in0 hB [] (fun j hj hn => g j hj (by simp only [List.mem_cons, List.not_mem_nil, or_false, not_or] at hn; exact trivial)) (List.forall_mem_nil _)) (fun j hj hn => g j hj (by simp only [List.mem_cons, List.not_mem_nil, or_false, not_or] at hn; exact trivial)) ((congrArg Int32.toInt (zz_i e82)).trans (rfl : (sy_i F 82).toInt = (sy_i F 82).toInt)) ((zz_i e82).trans (rfl : sy_i F 82 = sy_i F 82)) ((congrArg Int32.toInt (zz_i e83)).trans (rfl : (sy_i F 83).toInt = (sy_i F 83).toInt)) ((zz_i e83).trans (rfl : sy_i F 83 = sy_i F 83)) ((congrArg Int32.toInt (zz_i e84)).trans (nzE n88)) ((zz_i e84).trans (rfl : (sy_i F 84) ||| (((1 : Int32)) <<< ((sy_i F 85) &&& 31)) = (sy_i F 84) ||| (((1 : Int32)) <<< ((sy_i F 85) &&& 31)))) ((congrArg Int32.toInt (zz_i e85)).trans (nzE n89)) ((zz_i e85).trans (rfl : (sy_i F 85) + ((1 : Int32)) = (sy_i F 85) + ((1 : Int32)))))
theorem j3nhm_0_p0 {Ls : Nat} {xs : Nat → Int32} {d : Nat} {Q : Option Value → jm_h → Prop} (hd : 1 ≤ d) (F : Nat → sy_d) (X1 X2 : List jm_c) (hB : iv_in F iv_B0)
    (k : ∀ F1 : Nat → sy_d, (∀ j, j < 82 → True → F1 j = F j) → F1 82 = .inl (.int (sy_i F 82)) → F1 83 = .inl (.int (sy_i F 83)) → hd_W Ls xs d jm_M12 Q (3, sy_dL F1 [none, none, none], sy_dS F1 [.inr (.inl 83), .inr (.inl 82), .inl (.ref 46)], sy_dh F1 X1 X2 (iv_H 3), 0, 0)) :
    hd_W Ls xs d jm_M12 Q (0, sy_dL F [some (.inl (.ref 46)), some (.inr (.inl 82)), some (.inr (.inl 83))], sy_dS F [], sy_dh F X1 X2 (iv_H 3), 0, 0) := by
  refine hd_run (s := 3) (nv := 84) (pc := 3) (L := [none, none, none]) (S := [.inr (.inl 83), .inr (.inl 82), .inl (.ref 46)]) (uh := hd_ov (iv_id 0 iv_B0) []) (ul := [.inl (.inr (.inl 82)), .inl (.inr (.inl 83))]) (f := true) (sp := [3]) (d0 := 0) (O := []) (T := []) (P := []) jm_ok12 (by decide +kernel) (by decide +kernel) hd F X1 X2 (fun F' hF hs => ?_)
  have b82 := hd_b (F := F) (F' := F') (k := 82) (hF 82 (by decide))
  have b83 := hd_b (F := F) (F' := F') (k := 83) (hF 83 (by decide))
  have hB' : iv_in F' iv_B0 := iv_in_eq hB (fun j hj => hF j (Nat.lt_of_lt_of_le hj (by decide +kernel)))
  refine ⟨fun _ h => absurd h List.not_mem_nil, ?_⟩
  refine k _ ?_ ?_ ?_
  · exact fun j hj _ => (hd_keep hB' (Nat.lt_of_lt_of_le hj (by decide +kernel)) (by simp)).trans (hF j (Nat.lt_of_lt_of_le hj (by decide)))
  · exact hd_gi (x := .inr (.inl 82)) (by decide +kernel) b82
  · exact hd_gi (x := .inr (.inl 83)) (by decide +kernel) b83
theorem j3nhm_0 {Ls : Nat} {xs : Nat → Int32} {d : Nat} {Q : Option Value → jm_h → Prop} (hd : 1 ≤ d) (F : Nat → sy_d) (X1 X2 : List jm_c) (hB : iv_in F iv_B0)
    (k0 : ∀ F1 : Nat → sy_d, iv_in F1 iv_B0 → (∀ j, j < 82 → j ∉ ([] : List Nat) → F1 j = F j) → (sy_i F1 82).toInt = (sy_i F 82).toInt → sy_i F1 82 = sy_i F 82 → (sy_i F1 83).toInt = (sy_i F 83).toInt → sy_i F1 83 = sy_i F 83 → hd_W Ls xs d jm_M12 Q (3, sy_dL F1 [none, none, none], sy_dS F1 [.inr (.inl 83), .inr (.inl 82), .inl (.ref 46)], sy_dh F1 X1 X2 (iv_H 3), 0, 0)) :
    hd_W Ls xs d jm_M12 Q (0, sy_dL F [some (.inl (.ref 46)), some (.inr (.inl 82)), some (.inr (.inl 83))], sy_dS F [], sy_dh F X1 X2 (iv_H 3), 0, 0) := by
  exact j3nhm_0_p0 hd F X1 X2 hB  (fun F1 g e82 e83 => k0 F1 (nz_in0 hB [] (fun j hj hn => g j hj (by simp only [List.mem_cons, List.not_mem_nil, or_false, not_or] at hn; exact trivial)) (List.forall_mem_nil _)) (fun j hj hn => g j hj (by simp only [List.mem_cons, List.not_mem_nil, or_false, not_or] at hn; exact trivial)) ((congrArg Int32.toInt (zz_i e82)).trans (rfl : (sy_i F 82).toInt = (sy_i F 82).toInt)) ((zz_i e82).trans (rfl : sy_i F 82 = sy_i F 82)) ((congrArg Int32.toInt (zz_i e83)).trans (rfl : (sy_i F 83).toInt = (sy_i F 83).toInt)) ((zz_i e83).trans (rfl : sy_i F 83 = sy_i F 83)))
theorem j3nhm_6_p0 {Ls : Nat} {xs : Nat → Int32} {d : Nat} {Q : Option Value → jm_h → Prop} (hd : 2 ≤ d) (F : Nat → sy_d) (X1 X2 : List jm_c) (hB : iv_in F iv_B0)
    (k : ∀ F1 : Nat → sy_d, (∀ j, j < 82 → True → F1 j = F j) → Q (some (.int (((((((((sy_i F 82) - (((((sy_i F 82)).toUInt32 >>> ((((1 : Int32))).toUInt32 &&& Int32.toUInt32 31)).toInt32) &&& ((1431655765 : Int32)))) &&& ((858993459 : Int32))) + ((((((sy_i F 82) - (((((sy_i F 82)).toUInt32 >>> ((((1 : Int32))).toUInt32 &&& Int32.toUInt32 31)).toInt32) &&& ((1431655765 : Int32))))).toUInt32 >>> ((((2 : Int32))).toUInt32 &&& Int32.toUInt32 31)).toInt32) &&& ((858993459 : Int32)))) + (((((((sy_i F 82) - (((((sy_i F 82)).toUInt32 >>> ((((1 : Int32))).toUInt32 &&& Int32.toUInt32 31)).toInt32) &&& ((1431655765 : Int32)))) &&& ((858993459 : Int32))) + ((((((sy_i F 82) - (((((sy_i F 82)).toUInt32 >>> ((((1 : Int32))).toUInt32 &&& Int32.toUInt32 31)).toInt32) &&& ((1431655765 : Int32))))).toUInt32 >>> ((((2 : Int32))).toUInt32 &&& Int32.toUInt32 31)).toInt32) &&& ((858993459 : Int32))))).toUInt32 >>> ((((4 : Int32))).toUInt32 &&& Int32.toUInt32 31)).toInt32)) &&& ((252645135 : Int32))) + (((((((((sy_i F 82) - (((((sy_i F 82)).toUInt32 >>> ((((1 : Int32))).toUInt32 &&& Int32.toUInt32 31)).toInt32) &&& ((1431655765 : Int32)))) &&& ((858993459 : Int32))) + ((((((sy_i F 82) - (((((sy_i F 82)).toUInt32 >>> ((((1 : Int32))).toUInt32 &&& Int32.toUInt32 31)).toInt32) &&& ((1431655765 : Int32))))).toUInt32 >>> ((((2 : Int32))).toUInt32 &&& Int32.toUInt32 31)).toInt32) &&& ((858993459 : Int32)))) + (((((((sy_i F 82) - (((((sy_i F 82)).toUInt32 >>> ((((1 : Int32))).toUInt32 &&& Int32.toUInt32 31)).toInt32) &&& ((1431655765 : Int32)))) &&& ((858993459 : Int32))) + ((((((sy_i F 82) - (((((sy_i F 82)).toUInt32 >>> ((((1 : Int32))).toUInt32 &&& Int32.toUInt32 31)).toInt32) &&& ((1431655765 : Int32))))).toUInt32 >>> ((((2 : Int32))).toUInt32 &&& Int32.toUInt32 31)).toInt32) &&& ((858993459 : Int32))))).toUInt32 >>> ((((4 : Int32))).toUInt32 &&& Int32.toUInt32 31)).toInt32)) &&& ((252645135 : Int32)))).toUInt32 >>> ((((8 : Int32))).toUInt32 &&& Int32.toUInt32 31)).toInt32)) + ((((((((((sy_i F 82) - (((((sy_i F 82)).toUInt32 >>> ((((1 : Int32))).toUInt32 &&& Int32.toUInt32 31)).toInt32) &&& ((1431655765 : Int32)))) &&& ((858993459 : Int32))) + ((((((sy_i F 82) - (((((sy_i F 82)).toUInt32 >>> ((((1 : Int32))).toUInt32 &&& Int32.toUInt32 31)).toInt32) &&& ((1431655765 : Int32))))).toUInt32 >>> ((((2 : Int32))).toUInt32 &&& Int32.toUInt32 31)).toInt32) &&& ((858993459 : Int32)))) + (((((((sy_i F 82) - (((((sy_i F 82)).toUInt32 >>> ((((1 : Int32))).toUInt32 &&& Int32.toUInt32 31)).toInt32) &&& ((1431655765 : Int32)))) &&& ((858993459 : Int32))) + ((((((sy_i F 82) - (((((sy_i F 82)).toUInt32 >>> ((((1 : Int32))).toUInt32 &&& Int32.toUInt32 31)).toInt32) &&& ((1431655765 : Int32))))).toUInt32 >>> ((((2 : Int32))).toUInt32 &&& Int32.toUInt32 31)).toInt32) &&& ((858993459 : Int32))))).toUInt32 >>> ((((4 : Int32))).toUInt32 &&& Int32.toUInt32 31)).toInt32)) &&& ((252645135 : Int32))) + (((((((((sy_i F 82) - (((((sy_i F 82)).toUInt32 >>> ((((1 : Int32))).toUInt32 &&& Int32.toUInt32 31)).toInt32) &&& ((1431655765 : Int32)))) &&& ((858993459 : Int32))) + ((((((sy_i F 82) - (((((sy_i F 82)).toUInt32 >>> ((((1 : Int32))).toUInt32 &&& Int32.toUInt32 31)).toInt32) &&& ((1431655765 : Int32))))).toUInt32 >>> ((((2 : Int32))).toUInt32 &&& Int32.toUInt32 31)).toInt32) &&& ((858993459 : Int32)))) + (((((((sy_i F 82) - (((((sy_i F 82)).toUInt32 >>> ((((1 : Int32))).toUInt32 &&& Int32.toUInt32 31)).toInt32) &&& ((1431655765 : Int32)))) &&& ((858993459 : Int32))) + ((((((sy_i F 82) - (((((sy_i F 82)).toUInt32 >>> ((((1 : Int32))).toUInt32 &&& Int32.toUInt32 31)).toInt32) &&& ((1431655765 : Int32))))).toUInt32 >>> ((((2 : Int32))).toUInt32 &&& Int32.toUInt32 31)).toInt32) &&& ((858993459 : Int32))))).toUInt32 >>> ((((4 : Int32))).toUInt32 &&& Int32.toUInt32 31)).toInt32)) &&& ((252645135 : Int32)))).toUInt32 >>> ((((8 : Int32))).toUInt32 &&& Int32.toUInt32 31)).toInt32))).toUInt32 >>> ((((16 : Int32))).toUInt32 &&& Int32.toUInt32 31)).toInt32)) &&& ((63 : Int32))))) (sy_dh F1 X1 X2 (iv_H 3))) :
    hd_W Ls xs d jm_M12 Q (6, sy_dL F [none, none, none], sy_dS F [.inr (.inl 82)], sy_dh F X1 X2 (iv_H 3), 0, 0) := by
  refine hd_ret (s := 3) (nv := 83) (v := some (.inr (.inl 97))) (uh := hd_ov (iv_id 0 iv_B0) []) (f := false) (sp := []) (d0 := 1) (O := []) (T := [(8, [.inr (.inl 82), .inl (.int 1)], []), (3, [.inr (.inl 83), .inl (.int 1431655765)], []), (1, [.inr (.inl 82), .inr (.inl 84)], []), (3, [.inr (.inl 85), .inl (.int 858993459)], []), (8, [.inr (.inl 85), .inl (.int 2)], []), (3, [.inr (.inl 87), .inl (.int 858993459)], []), (0, [.inr (.inl 86), .inr (.inl 88)], []), (8, [.inr (.inl 89), .inl (.int 4)], []), (0, [.inr (.inl 89), .inr (.inl 90)], []), (3, [.inr (.inl 91), .inl (.int 252645135)], []), (8, [.inr (.inl 92), .inl (.int 8)], []), (0, [.inr (.inl 92), .inr (.inl 93)], []), (8, [.inr (.inl 94), .inl (.int 16)], []), (0, [.inr (.inl 94), .inr (.inl 95)], []), (3, [.inr (.inl 96), .inl (.int 63)], [])]) (P := []) jm_ok12 (by decide +kernel) (by decide +kernel) hd F X1 X2 (fun F' hF hs => ?_)
  have b82 := hd_b (F := F) (F' := F') (k := 82) (hF 82 (by decide))
  have t83 : sy_dv F' (.inr (.inl 83)) = .int ((((sy_i F 82)).toUInt32 >>> ((((1 : Int32))).toUInt32 &&& Int32.toUInt32 31)).toInt32) := hd_o (hs 0 _ rfl) b82 rfl rfl
  have t84 : sy_dv F' (.inr (.inl 84)) = .int (((((sy_i F 82)).toUInt32 >>> ((((1 : Int32))).toUInt32 &&& Int32.toUInt32 31)).toInt32) &&& ((1431655765 : Int32))) := hd_o (hs 1 _ rfl) t83 rfl rfl
  have t85 : sy_dv F' (.inr (.inl 85)) = .int ((sy_i F 82) - (((((sy_i F 82)).toUInt32 >>> ((((1 : Int32))).toUInt32 &&& Int32.toUInt32 31)).toInt32) &&& ((1431655765 : Int32)))) := hd_o (hs 2 _ rfl) b82 t84 rfl
  have t86 : sy_dv F' (.inr (.inl 86)) = .int (((sy_i F 82) - (((((sy_i F 82)).toUInt32 >>> ((((1 : Int32))).toUInt32 &&& Int32.toUInt32 31)).toInt32) &&& ((1431655765 : Int32)))) &&& ((858993459 : Int32))) := hd_o (hs 3 _ rfl) t85 rfl rfl
  have t87 : sy_dv F' (.inr (.inl 87)) = .int (((((sy_i F 82) - (((((sy_i F 82)).toUInt32 >>> ((((1 : Int32))).toUInt32 &&& Int32.toUInt32 31)).toInt32) &&& ((1431655765 : Int32))))).toUInt32 >>> ((((2 : Int32))).toUInt32 &&& Int32.toUInt32 31)).toInt32) := hd_o (hs 4 _ rfl) t85 rfl rfl
  have t88 : sy_dv F' (.inr (.inl 88)) = .int ((((((sy_i F 82) - (((((sy_i F 82)).toUInt32 >>> ((((1 : Int32))).toUInt32 &&& Int32.toUInt32 31)).toInt32) &&& ((1431655765 : Int32))))).toUInt32 >>> ((((2 : Int32))).toUInt32 &&& Int32.toUInt32 31)).toInt32) &&& ((858993459 : Int32))) := hd_o (hs 5 _ rfl) t87 rfl rfl
  have t89 : sy_dv F' (.inr (.inl 89)) = .int ((((sy_i F 82) - (((((sy_i F 82)).toUInt32 >>> ((((1 : Int32))).toUInt32 &&& Int32.toUInt32 31)).toInt32) &&& ((1431655765 : Int32)))) &&& ((858993459 : Int32))) + ((((((sy_i F 82) - (((((sy_i F 82)).toUInt32 >>> ((((1 : Int32))).toUInt32 &&& Int32.toUInt32 31)).toInt32) &&& ((1431655765 : Int32))))).toUInt32 >>> ((((2 : Int32))).toUInt32 &&& Int32.toUInt32 31)).toInt32) &&& ((858993459 : Int32)))) := hd_o (hs 6 _ rfl) t86 t88 rfl
  have t90 : sy_dv F' (.inr (.inl 90)) = .int (((((((sy_i F 82) - (((((sy_i F 82)).toUInt32 >>> ((((1 : Int32))).toUInt32 &&& Int32.toUInt32 31)).toInt32) &&& ((1431655765 : Int32)))) &&& ((858993459 : Int32))) + ((((((sy_i F 82) - (((((sy_i F 82)).toUInt32 >>> ((((1 : Int32))).toUInt32 &&& Int32.toUInt32 31)).toInt32) &&& ((1431655765 : Int32))))).toUInt32 >>> ((((2 : Int32))).toUInt32 &&& Int32.toUInt32 31)).toInt32) &&& ((858993459 : Int32))))).toUInt32 >>> ((((4 : Int32))).toUInt32 &&& Int32.toUInt32 31)).toInt32) := hd_o (hs 7 _ rfl) t89 rfl rfl
  have t91 : sy_dv F' (.inr (.inl 91)) = .int (((((sy_i F 82) - (((((sy_i F 82)).toUInt32 >>> ((((1 : Int32))).toUInt32 &&& Int32.toUInt32 31)).toInt32) &&& ((1431655765 : Int32)))) &&& ((858993459 : Int32))) + ((((((sy_i F 82) - (((((sy_i F 82)).toUInt32 >>> ((((1 : Int32))).toUInt32 &&& Int32.toUInt32 31)).toInt32) &&& ((1431655765 : Int32))))).toUInt32 >>> ((((2 : Int32))).toUInt32 &&& Int32.toUInt32 31)).toInt32) &&& ((858993459 : Int32)))) + (((((((sy_i F 82) - (((((sy_i F 82)).toUInt32 >>> ((((1 : Int32))).toUInt32 &&& Int32.toUInt32 31)).toInt32) &&& ((1431655765 : Int32)))) &&& ((858993459 : Int32))) + ((((((sy_i F 82) - (((((sy_i F 82)).toUInt32 >>> ((((1 : Int32))).toUInt32 &&& Int32.toUInt32 31)).toInt32) &&& ((1431655765 : Int32))))).toUInt32 >>> ((((2 : Int32))).toUInt32 &&& Int32.toUInt32 31)).toInt32) &&& ((858993459 : Int32))))).toUInt32 >>> ((((4 : Int32))).toUInt32 &&& Int32.toUInt32 31)).toInt32)) := hd_o (hs 8 _ rfl) t89 t90 rfl
  have t92 : sy_dv F' (.inr (.inl 92)) = .int ((((((sy_i F 82) - (((((sy_i F 82)).toUInt32 >>> ((((1 : Int32))).toUInt32 &&& Int32.toUInt32 31)).toInt32) &&& ((1431655765 : Int32)))) &&& ((858993459 : Int32))) + ((((((sy_i F 82) - (((((sy_i F 82)).toUInt32 >>> ((((1 : Int32))).toUInt32 &&& Int32.toUInt32 31)).toInt32) &&& ((1431655765 : Int32))))).toUInt32 >>> ((((2 : Int32))).toUInt32 &&& Int32.toUInt32 31)).toInt32) &&& ((858993459 : Int32)))) + (((((((sy_i F 82) - (((((sy_i F 82)).toUInt32 >>> ((((1 : Int32))).toUInt32 &&& Int32.toUInt32 31)).toInt32) &&& ((1431655765 : Int32)))) &&& ((858993459 : Int32))) + ((((((sy_i F 82) - (((((sy_i F 82)).toUInt32 >>> ((((1 : Int32))).toUInt32 &&& Int32.toUInt32 31)).toInt32) &&& ((1431655765 : Int32))))).toUInt32 >>> ((((2 : Int32))).toUInt32 &&& Int32.toUInt32 31)).toInt32) &&& ((858993459 : Int32))))).toUInt32 >>> ((((4 : Int32))).toUInt32 &&& Int32.toUInt32 31)).toInt32)) &&& ((252645135 : Int32))) := hd_o (hs 9 _ rfl) t91 rfl rfl
  have t93 : sy_dv F' (.inr (.inl 93)) = .int (((((((((sy_i F 82) - (((((sy_i F 82)).toUInt32 >>> ((((1 : Int32))).toUInt32 &&& Int32.toUInt32 31)).toInt32) &&& ((1431655765 : Int32)))) &&& ((858993459 : Int32))) + ((((((sy_i F 82) - (((((sy_i F 82)).toUInt32 >>> ((((1 : Int32))).toUInt32 &&& Int32.toUInt32 31)).toInt32) &&& ((1431655765 : Int32))))).toUInt32 >>> ((((2 : Int32))).toUInt32 &&& Int32.toUInt32 31)).toInt32) &&& ((858993459 : Int32)))) + (((((((sy_i F 82) - (((((sy_i F 82)).toUInt32 >>> ((((1 : Int32))).toUInt32 &&& Int32.toUInt32 31)).toInt32) &&& ((1431655765 : Int32)))) &&& ((858993459 : Int32))) + ((((((sy_i F 82) - (((((sy_i F 82)).toUInt32 >>> ((((1 : Int32))).toUInt32 &&& Int32.toUInt32 31)).toInt32) &&& ((1431655765 : Int32))))).toUInt32 >>> ((((2 : Int32))).toUInt32 &&& Int32.toUInt32 31)).toInt32) &&& ((858993459 : Int32))))).toUInt32 >>> ((((4 : Int32))).toUInt32 &&& Int32.toUInt32 31)).toInt32)) &&& ((252645135 : Int32)))).toUInt32 >>> ((((8 : Int32))).toUInt32 &&& Int32.toUInt32 31)).toInt32) := hd_o (hs 10 _ rfl) t92 rfl rfl
  have t94 : sy_dv F' (.inr (.inl 94)) = .int (((((((sy_i F 82) - (((((sy_i F 82)).toUInt32 >>> ((((1 : Int32))).toUInt32 &&& Int32.toUInt32 31)).toInt32) &&& ((1431655765 : Int32)))) &&& ((858993459 : Int32))) + ((((((sy_i F 82) - (((((sy_i F 82)).toUInt32 >>> ((((1 : Int32))).toUInt32 &&& Int32.toUInt32 31)).toInt32) &&& ((1431655765 : Int32))))).toUInt32 >>> ((((2 : Int32))).toUInt32 &&& Int32.toUInt32 31)).toInt32) &&& ((858993459 : Int32)))) + (((((((sy_i F 82) - (((((sy_i F 82)).toUInt32 >>> ((((1 : Int32))).toUInt32 &&& Int32.toUInt32 31)).toInt32) &&& ((1431655765 : Int32)))) &&& ((858993459 : Int32))) + ((((((sy_i F 82) - (((((sy_i F 82)).toUInt32 >>> ((((1 : Int32))).toUInt32 &&& Int32.toUInt32 31)).toInt32) &&& ((1431655765 : Int32))))).toUInt32 >>> ((((2 : Int32))).toUInt32 &&& Int32.toUInt32 31)).toInt32) &&& ((858993459 : Int32))))).toUInt32 >>> ((((4 : Int32))).toUInt32 &&& Int32.toUInt32 31)).toInt32)) &&& ((252645135 : Int32))) + (((((((((sy_i F 82) - (((((sy_i F 82)).toUInt32 >>> ((((1 : Int32))).toUInt32 &&& Int32.toUInt32 31)).toInt32) &&& ((1431655765 : Int32)))) &&& ((858993459 : Int32))) + ((((((sy_i F 82) - (((((sy_i F 82)).toUInt32 >>> ((((1 : Int32))).toUInt32 &&& Int32.toUInt32 31)).toInt32) &&& ((1431655765 : Int32))))).toUInt32 >>> ((((2 : Int32))).toUInt32 &&& Int32.toUInt32 31)).toInt32) &&& ((858993459 : Int32)))) + (((((((sy_i F 82) - (((((sy_i F 82)).toUInt32 >>> ((((1 : Int32))).toUInt32 &&& Int32.toUInt32 31)).toInt32) &&& ((1431655765 : Int32)))) &&& ((858993459 : Int32))) + ((((((sy_i F 82) - (((((sy_i F 82)).toUInt32 >>> ((((1 : Int32))).toUInt32 &&& Int32.toUInt32 31)).toInt32) &&& ((1431655765 : Int32))))).toUInt32 >>> ((((2 : Int32))).toUInt32 &&& Int32.toUInt32 31)).toInt32) &&& ((858993459 : Int32))))).toUInt32 >>> ((((4 : Int32))).toUInt32 &&& Int32.toUInt32 31)).toInt32)) &&& ((252645135 : Int32)))).toUInt32 >>> ((((8 : Int32))).toUInt32 &&& Int32.toUInt32 31)).toInt32)) := hd_o (hs 11 _ rfl) t92 t93 rfl
  have t95 : sy_dv F' (.inr (.inl 95)) = .int ((((((((((sy_i F 82) - (((((sy_i F 82)).toUInt32 >>> ((((1 : Int32))).toUInt32 &&& Int32.toUInt32 31)).toInt32) &&& ((1431655765 : Int32)))) &&& ((858993459 : Int32))) + ((((((sy_i F 82) - (((((sy_i F 82)).toUInt32 >>> ((((1 : Int32))).toUInt32 &&& Int32.toUInt32 31)).toInt32) &&& ((1431655765 : Int32))))).toUInt32 >>> ((((2 : Int32))).toUInt32 &&& Int32.toUInt32 31)).toInt32) &&& ((858993459 : Int32)))) + (((((((sy_i F 82) - (((((sy_i F 82)).toUInt32 >>> ((((1 : Int32))).toUInt32 &&& Int32.toUInt32 31)).toInt32) &&& ((1431655765 : Int32)))) &&& ((858993459 : Int32))) + ((((((sy_i F 82) - (((((sy_i F 82)).toUInt32 >>> ((((1 : Int32))).toUInt32 &&& Int32.toUInt32 31)).toInt32) &&& ((1431655765 : Int32))))).toUInt32 >>> ((((2 : Int32))).toUInt32 &&& Int32.toUInt32 31)).toInt32) &&& ((858993459 : Int32))))).toUInt32 >>> ((((4 : Int32))).toUInt32 &&& Int32.toUInt32 31)).toInt32)) &&& ((252645135 : Int32))) + (((((((((sy_i F 82) - (((((sy_i F 82)).toUInt32 >>> ((((1 : Int32))).toUInt32 &&& Int32.toUInt32 31)).toInt32) &&& ((1431655765 : Int32)))) &&& ((858993459 : Int32))) + ((((((sy_i F 82) - (((((sy_i F 82)).toUInt32 >>> ((((1 : Int32))).toUInt32 &&& Int32.toUInt32 31)).toInt32) &&& ((1431655765 : Int32))))).toUInt32 >>> ((((2 : Int32))).toUInt32 &&& Int32.toUInt32 31)).toInt32) &&& ((858993459 : Int32)))) + (((((((sy_i F 82) - (((((sy_i F 82)).toUInt32 >>> ((((1 : Int32))).toUInt32 &&& Int32.toUInt32 31)).toInt32) &&& ((1431655765 : Int32)))) &&& ((858993459 : Int32))) + ((((((sy_i F 82) - (((((sy_i F 82)).toUInt32 >>> ((((1 : Int32))).toUInt32 &&& Int32.toUInt32 31)).toInt32) &&& ((1431655765 : Int32))))).toUInt32 >>> ((((2 : Int32))).toUInt32 &&& Int32.toUInt32 31)).toInt32) &&& ((858993459 : Int32))))).toUInt32 >>> ((((4 : Int32))).toUInt32 &&& Int32.toUInt32 31)).toInt32)) &&& ((252645135 : Int32)))).toUInt32 >>> ((((8 : Int32))).toUInt32 &&& Int32.toUInt32 31)).toInt32))).toUInt32 >>> ((((16 : Int32))).toUInt32 &&& Int32.toUInt32 31)).toInt32) := hd_o (hs 12 _ rfl) t94 rfl rfl
  have t96 : sy_dv F' (.inr (.inl 96)) = .int ((((((((sy_i F 82) - (((((sy_i F 82)).toUInt32 >>> ((((1 : Int32))).toUInt32 &&& Int32.toUInt32 31)).toInt32) &&& ((1431655765 : Int32)))) &&& ((858993459 : Int32))) + ((((((sy_i F 82) - (((((sy_i F 82)).toUInt32 >>> ((((1 : Int32))).toUInt32 &&& Int32.toUInt32 31)).toInt32) &&& ((1431655765 : Int32))))).toUInt32 >>> ((((2 : Int32))).toUInt32 &&& Int32.toUInt32 31)).toInt32) &&& ((858993459 : Int32)))) + (((((((sy_i F 82) - (((((sy_i F 82)).toUInt32 >>> ((((1 : Int32))).toUInt32 &&& Int32.toUInt32 31)).toInt32) &&& ((1431655765 : Int32)))) &&& ((858993459 : Int32))) + ((((((sy_i F 82) - (((((sy_i F 82)).toUInt32 >>> ((((1 : Int32))).toUInt32 &&& Int32.toUInt32 31)).toInt32) &&& ((1431655765 : Int32))))).toUInt32 >>> ((((2 : Int32))).toUInt32 &&& Int32.toUInt32 31)).toInt32) &&& ((858993459 : Int32))))).toUInt32 >>> ((((4 : Int32))).toUInt32 &&& Int32.toUInt32 31)).toInt32)) &&& ((252645135 : Int32))) + (((((((((sy_i F 82) - (((((sy_i F 82)).toUInt32 >>> ((((1 : Int32))).toUInt32 &&& Int32.toUInt32 31)).toInt32) &&& ((1431655765 : Int32)))) &&& ((858993459 : Int32))) + ((((((sy_i F 82) - (((((sy_i F 82)).toUInt32 >>> ((((1 : Int32))).toUInt32 &&& Int32.toUInt32 31)).toInt32) &&& ((1431655765 : Int32))))).toUInt32 >>> ((((2 : Int32))).toUInt32 &&& Int32.toUInt32 31)).toInt32) &&& ((858993459 : Int32)))) + (((((((sy_i F 82) - (((((sy_i F 82)).toUInt32 >>> ((((1 : Int32))).toUInt32 &&& Int32.toUInt32 31)).toInt32) &&& ((1431655765 : Int32)))) &&& ((858993459 : Int32))) + ((((((sy_i F 82) - (((((sy_i F 82)).toUInt32 >>> ((((1 : Int32))).toUInt32 &&& Int32.toUInt32 31)).toInt32) &&& ((1431655765 : Int32))))).toUInt32 >>> ((((2 : Int32))).toUInt32 &&& Int32.toUInt32 31)).toInt32) &&& ((858993459 : Int32))))).toUInt32 >>> ((((4 : Int32))).toUInt32 &&& Int32.toUInt32 31)).toInt32)) &&& ((252645135 : Int32)))).toUInt32 >>> ((((8 : Int32))).toUInt32 &&& Int32.toUInt32 31)).toInt32)) + ((((((((((sy_i F 82) - (((((sy_i F 82)).toUInt32 >>> ((((1 : Int32))).toUInt32 &&& Int32.toUInt32 31)).toInt32) &&& ((1431655765 : Int32)))) &&& ((858993459 : Int32))) + ((((((sy_i F 82) - (((((sy_i F 82)).toUInt32 >>> ((((1 : Int32))).toUInt32 &&& Int32.toUInt32 31)).toInt32) &&& ((1431655765 : Int32))))).toUInt32 >>> ((((2 : Int32))).toUInt32 &&& Int32.toUInt32 31)).toInt32) &&& ((858993459 : Int32)))) + (((((((sy_i F 82) - (((((sy_i F 82)).toUInt32 >>> ((((1 : Int32))).toUInt32 &&& Int32.toUInt32 31)).toInt32) &&& ((1431655765 : Int32)))) &&& ((858993459 : Int32))) + ((((((sy_i F 82) - (((((sy_i F 82)).toUInt32 >>> ((((1 : Int32))).toUInt32 &&& Int32.toUInt32 31)).toInt32) &&& ((1431655765 : Int32))))).toUInt32 >>> ((((2 : Int32))).toUInt32 &&& Int32.toUInt32 31)).toInt32) &&& ((858993459 : Int32))))).toUInt32 >>> ((((4 : Int32))).toUInt32 &&& Int32.toUInt32 31)).toInt32)) &&& ((252645135 : Int32))) + (((((((((sy_i F 82) - (((((sy_i F 82)).toUInt32 >>> ((((1 : Int32))).toUInt32 &&& Int32.toUInt32 31)).toInt32) &&& ((1431655765 : Int32)))) &&& ((858993459 : Int32))) + ((((((sy_i F 82) - (((((sy_i F 82)).toUInt32 >>> ((((1 : Int32))).toUInt32 &&& Int32.toUInt32 31)).toInt32) &&& ((1431655765 : Int32))))).toUInt32 >>> ((((2 : Int32))).toUInt32 &&& Int32.toUInt32 31)).toInt32) &&& ((858993459 : Int32)))) + (((((((sy_i F 82) - (((((sy_i F 82)).toUInt32 >>> ((((1 : Int32))).toUInt32 &&& Int32.toUInt32 31)).toInt32) &&& ((1431655765 : Int32)))) &&& ((858993459 : Int32))) + ((((((sy_i F 82) - (((((sy_i F 82)).toUInt32 >>> ((((1 : Int32))).toUInt32 &&& Int32.toUInt32 31)).toInt32) &&& ((1431655765 : Int32))))).toUInt32 >>> ((((2 : Int32))).toUInt32 &&& Int32.toUInt32 31)).toInt32) &&& ((858993459 : Int32))))).toUInt32 >>> ((((4 : Int32))).toUInt32 &&& Int32.toUInt32 31)).toInt32)) &&& ((252645135 : Int32)))).toUInt32 >>> ((((8 : Int32))).toUInt32 &&& Int32.toUInt32 31)).toInt32))).toUInt32 >>> ((((16 : Int32))).toUInt32 &&& Int32.toUInt32 31)).toInt32)) := hd_o (hs 13 _ rfl) t94 t95 rfl
  have t97 : sy_dv F' (.inr (.inl 97)) = .int (((((((((sy_i F 82) - (((((sy_i F 82)).toUInt32 >>> ((((1 : Int32))).toUInt32 &&& Int32.toUInt32 31)).toInt32) &&& ((1431655765 : Int32)))) &&& ((858993459 : Int32))) + ((((((sy_i F 82) - (((((sy_i F 82)).toUInt32 >>> ((((1 : Int32))).toUInt32 &&& Int32.toUInt32 31)).toInt32) &&& ((1431655765 : Int32))))).toUInt32 >>> ((((2 : Int32))).toUInt32 &&& Int32.toUInt32 31)).toInt32) &&& ((858993459 : Int32)))) + (((((((sy_i F 82) - (((((sy_i F 82)).toUInt32 >>> ((((1 : Int32))).toUInt32 &&& Int32.toUInt32 31)).toInt32) &&& ((1431655765 : Int32)))) &&& ((858993459 : Int32))) + ((((((sy_i F 82) - (((((sy_i F 82)).toUInt32 >>> ((((1 : Int32))).toUInt32 &&& Int32.toUInt32 31)).toInt32) &&& ((1431655765 : Int32))))).toUInt32 >>> ((((2 : Int32))).toUInt32 &&& Int32.toUInt32 31)).toInt32) &&& ((858993459 : Int32))))).toUInt32 >>> ((((4 : Int32))).toUInt32 &&& Int32.toUInt32 31)).toInt32)) &&& ((252645135 : Int32))) + (((((((((sy_i F 82) - (((((sy_i F 82)).toUInt32 >>> ((((1 : Int32))).toUInt32 &&& Int32.toUInt32 31)).toInt32) &&& ((1431655765 : Int32)))) &&& ((858993459 : Int32))) + ((((((sy_i F 82) - (((((sy_i F 82)).toUInt32 >>> ((((1 : Int32))).toUInt32 &&& Int32.toUInt32 31)).toInt32) &&& ((1431655765 : Int32))))).toUInt32 >>> ((((2 : Int32))).toUInt32 &&& Int32.toUInt32 31)).toInt32) &&& ((858993459 : Int32)))) + (((((((sy_i F 82) - (((((sy_i F 82)).toUInt32 >>> ((((1 : Int32))).toUInt32 &&& Int32.toUInt32 31)).toInt32) &&& ((1431655765 : Int32)))) &&& ((858993459 : Int32))) + ((((((sy_i F 82) - (((((sy_i F 82)).toUInt32 >>> ((((1 : Int32))).toUInt32 &&& Int32.toUInt32 31)).toInt32) &&& ((1431655765 : Int32))))).toUInt32 >>> ((((2 : Int32))).toUInt32 &&& Int32.toUInt32 31)).toInt32) &&& ((858993459 : Int32))))).toUInt32 >>> ((((4 : Int32))).toUInt32 &&& Int32.toUInt32 31)).toInt32)) &&& ((252645135 : Int32)))).toUInt32 >>> ((((8 : Int32))).toUInt32 &&& Int32.toUInt32 31)).toInt32)) + ((((((((((sy_i F 82) - (((((sy_i F 82)).toUInt32 >>> ((((1 : Int32))).toUInt32 &&& Int32.toUInt32 31)).toInt32) &&& ((1431655765 : Int32)))) &&& ((858993459 : Int32))) + ((((((sy_i F 82) - (((((sy_i F 82)).toUInt32 >>> ((((1 : Int32))).toUInt32 &&& Int32.toUInt32 31)).toInt32) &&& ((1431655765 : Int32))))).toUInt32 >>> ((((2 : Int32))).toUInt32 &&& Int32.toUInt32 31)).toInt32) &&& ((858993459 : Int32)))) + (((((((sy_i F 82) - (((((sy_i F 82)).toUInt32 >>> ((((1 : Int32))).toUInt32 &&& Int32.toUInt32 31)).toInt32) &&& ((1431655765 : Int32)))) &&& ((858993459 : Int32))) + ((((((sy_i F 82) - (((((sy_i F 82)).toUInt32 >>> ((((1 : Int32))).toUInt32 &&& Int32.toUInt32 31)).toInt32) &&& ((1431655765 : Int32))))).toUInt32 >>> ((((2 : Int32))).toUInt32 &&& Int32.toUInt32 31)).toInt32) &&& ((858993459 : Int32))))).toUInt32 >>> ((((4 : Int32))).toUInt32 &&& Int32.toUInt32 31)).toInt32)) &&& ((252645135 : Int32))) + (((((((((sy_i F 82) - (((((sy_i F 82)).toUInt32 >>> ((((1 : Int32))).toUInt32 &&& Int32.toUInt32 31)).toInt32) &&& ((1431655765 : Int32)))) &&& ((858993459 : Int32))) + ((((((sy_i F 82) - (((((sy_i F 82)).toUInt32 >>> ((((1 : Int32))).toUInt32 &&& Int32.toUInt32 31)).toInt32) &&& ((1431655765 : Int32))))).toUInt32 >>> ((((2 : Int32))).toUInt32 &&& Int32.toUInt32 31)).toInt32) &&& ((858993459 : Int32)))) + (((((((sy_i F 82) - (((((sy_i F 82)).toUInt32 >>> ((((1 : Int32))).toUInt32 &&& Int32.toUInt32 31)).toInt32) &&& ((1431655765 : Int32)))) &&& ((858993459 : Int32))) + ((((((sy_i F 82) - (((((sy_i F 82)).toUInt32 >>> ((((1 : Int32))).toUInt32 &&& Int32.toUInt32 31)).toInt32) &&& ((1431655765 : Int32))))).toUInt32 >>> ((((2 : Int32))).toUInt32 &&& Int32.toUInt32 31)).toInt32) &&& ((858993459 : Int32))))).toUInt32 >>> ((((4 : Int32))).toUInt32 &&& Int32.toUInt32 31)).toInt32)) &&& ((252645135 : Int32)))).toUInt32 >>> ((((8 : Int32))).toUInt32 &&& Int32.toUInt32 31)).toInt32))).toUInt32 >>> ((((16 : Int32))).toUInt32 &&& Int32.toUInt32 31)).toInt32)) &&& ((63 : Int32))) := hd_o (hs 14 _ rfl) t96 rfl rfl
  have hB' : iv_in F' iv_B0 := iv_in_eq hB (fun j hj => hF j (Nat.lt_of_lt_of_le hj (by decide +kernel)))
  have hk := k (sy_cm F' (hd_ov (iv_id 0 iv_B0) [] ++ [])) (fun j hj _ => (hd_keep hB' (Nat.lt_of_lt_of_le hj (by decide +kernel)) (by simp)).trans (hF j (Nat.lt_of_lt_of_le hj (by decide))))
  refine ⟨fun _ h => absurd h List.not_mem_nil, ?_⟩
  show Q (some (sy_dv F' (.inr (.inl 97)))) _
  rw [t97]
  exact hk
theorem j3nhm_6 {Ls : Nat} {xs : Nat → Int32} {d : Nat} {Q : Option Value → jm_h → Prop} (hd : 2 ≤ d) (F : Nat → sy_d) (X1 X2 : List jm_c) (hB : iv_in F iv_B0)
    (k0 : ∀ F1 : Nat → sy_d, iv_in F1 iv_B0 → (∀ j, j < 82 → j ∉ ([] : List Nat) → F1 j = F j) → Q (some (.int (((((((((sy_i F 82) - (((((sy_i F 82)).toUInt32 >>> ((((1 : Int32))).toUInt32 &&& Int32.toUInt32 31)).toInt32) &&& ((1431655765 : Int32)))) &&& ((858993459 : Int32))) + ((((((sy_i F 82) - (((((sy_i F 82)).toUInt32 >>> ((((1 : Int32))).toUInt32 &&& Int32.toUInt32 31)).toInt32) &&& ((1431655765 : Int32))))).toUInt32 >>> ((((2 : Int32))).toUInt32 &&& Int32.toUInt32 31)).toInt32) &&& ((858993459 : Int32)))) + (((((((sy_i F 82) - (((((sy_i F 82)).toUInt32 >>> ((((1 : Int32))).toUInt32 &&& Int32.toUInt32 31)).toInt32) &&& ((1431655765 : Int32)))) &&& ((858993459 : Int32))) + ((((((sy_i F 82) - (((((sy_i F 82)).toUInt32 >>> ((((1 : Int32))).toUInt32 &&& Int32.toUInt32 31)).toInt32) &&& ((1431655765 : Int32))))).toUInt32 >>> ((((2 : Int32))).toUInt32 &&& Int32.toUInt32 31)).toInt32) &&& ((858993459 : Int32))))).toUInt32 >>> ((((4 : Int32))).toUInt32 &&& Int32.toUInt32 31)).toInt32)) &&& ((252645135 : Int32))) + (((((((((sy_i F 82) - (((((sy_i F 82)).toUInt32 >>> ((((1 : Int32))).toUInt32 &&& Int32.toUInt32 31)).toInt32) &&& ((1431655765 : Int32)))) &&& ((858993459 : Int32))) + ((((((sy_i F 82) - (((((sy_i F 82)).toUInt32 >>> ((((1 : Int32))).toUInt32 &&& Int32.toUInt32 31)).toInt32) &&& ((1431655765 : Int32))))).toUInt32 >>> ((((2 : Int32))).toUInt32 &&& Int32.toUInt32 31)).toInt32) &&& ((858993459 : Int32)))) + (((((((sy_i F 82) - (((((sy_i F 82)).toUInt32 >>> ((((1 : Int32))).toUInt32 &&& Int32.toUInt32 31)).toInt32) &&& ((1431655765 : Int32)))) &&& ((858993459 : Int32))) + ((((((sy_i F 82) - (((((sy_i F 82)).toUInt32 >>> ((((1 : Int32))).toUInt32 &&& Int32.toUInt32 31)).toInt32) &&& ((1431655765 : Int32))))).toUInt32 >>> ((((2 : Int32))).toUInt32 &&& Int32.toUInt32 31)).toInt32) &&& ((858993459 : Int32))))).toUInt32 >>> ((((4 : Int32))).toUInt32 &&& Int32.toUInt32 31)).toInt32)) &&& ((252645135 : Int32)))).toUInt32 >>> ((((8 : Int32))).toUInt32 &&& Int32.toUInt32 31)).toInt32)) + ((((((((((sy_i F 82) - (((((sy_i F 82)).toUInt32 >>> ((((1 : Int32))).toUInt32 &&& Int32.toUInt32 31)).toInt32) &&& ((1431655765 : Int32)))) &&& ((858993459 : Int32))) + ((((((sy_i F 82) - (((((sy_i F 82)).toUInt32 >>> ((((1 : Int32))).toUInt32 &&& Int32.toUInt32 31)).toInt32) &&& ((1431655765 : Int32))))).toUInt32 >>> ((((2 : Int32))).toUInt32 &&& Int32.toUInt32 31)).toInt32) &&& ((858993459 : Int32)))) + (((((((sy_i F 82) - (((((sy_i F 82)).toUInt32 >>> ((((1 : Int32))).toUInt32 &&& Int32.toUInt32 31)).toInt32) &&& ((1431655765 : Int32)))) &&& ((858993459 : Int32))) + ((((((sy_i F 82) - (((((sy_i F 82)).toUInt32 >>> ((((1 : Int32))).toUInt32 &&& Int32.toUInt32 31)).toInt32) &&& ((1431655765 : Int32))))).toUInt32 >>> ((((2 : Int32))).toUInt32 &&& Int32.toUInt32 31)).toInt32) &&& ((858993459 : Int32))))).toUInt32 >>> ((((4 : Int32))).toUInt32 &&& Int32.toUInt32 31)).toInt32)) &&& ((252645135 : Int32))) + (((((((((sy_i F 82) - (((((sy_i F 82)).toUInt32 >>> ((((1 : Int32))).toUInt32 &&& Int32.toUInt32 31)).toInt32) &&& ((1431655765 : Int32)))) &&& ((858993459 : Int32))) + ((((((sy_i F 82) - (((((sy_i F 82)).toUInt32 >>> ((((1 : Int32))).toUInt32 &&& Int32.toUInt32 31)).toInt32) &&& ((1431655765 : Int32))))).toUInt32 >>> ((((2 : Int32))).toUInt32 &&& Int32.toUInt32 31)).toInt32) &&& ((858993459 : Int32)))) + (((((((sy_i F 82) - (((((sy_i F 82)).toUInt32 >>> ((((1 : Int32))).toUInt32 &&& Int32.toUInt32 31)).toInt32) &&& ((1431655765 : Int32)))) &&& ((858993459 : Int32))) + ((((((sy_i F 82) - (((((sy_i F 82)).toUInt32 >>> ((((1 : Int32))).toUInt32 &&& Int32.toUInt32 31)).toInt32) &&& ((1431655765 : Int32))))).toUInt32 >>> ((((2 : Int32))).toUInt32 &&& Int32.toUInt32 31)).toInt32) &&& ((858993459 : Int32))))).toUInt32 >>> ((((4 : Int32))).toUInt32 &&& Int32.toUInt32 31)).toInt32)) &&& ((252645135 : Int32)))).toUInt32 >>> ((((8 : Int32))).toUInt32 &&& Int32.toUInt32 31)).toInt32))).toUInt32 >>> ((((16 : Int32))).toUInt32 &&& Int32.toUInt32 31)).toInt32)) &&& ((63 : Int32))))) (sy_dh F1 X1 X2 (iv_H 3))) :
    hd_W Ls xs d jm_M12 Q (6, sy_dL F [none, none, none], sy_dS F [.inr (.inl 82)], sy_dh F X1 X2 (iv_H 3), 0, 0) := by
  exact j3nhm_6_p0 hd F X1 X2 hB  (fun F1 g  => by rw [(rfl : ((((((((sy_i F 82) - (((((sy_i F 82)).toUInt32 >>> ((((1 : Int32))).toUInt32 &&& Int32.toUInt32 31)).toInt32) &&& ((1431655765 : Int32)))) &&& ((858993459 : Int32))) + ((((((sy_i F 82) - (((((sy_i F 82)).toUInt32 >>> ((((1 : Int32))).toUInt32 &&& Int32.toUInt32 31)).toInt32) &&& ((1431655765 : Int32))))).toUInt32 >>> ((((2 : Int32))).toUInt32 &&& Int32.toUInt32 31)).toInt32) &&& ((858993459 : Int32)))) + (((((((sy_i F 82) - (((((sy_i F 82)).toUInt32 >>> ((((1 : Int32))).toUInt32 &&& Int32.toUInt32 31)).toInt32) &&& ((1431655765 : Int32)))) &&& ((858993459 : Int32))) + ((((((sy_i F 82) - (((((sy_i F 82)).toUInt32 >>> ((((1 : Int32))).toUInt32 &&& Int32.toUInt32 31)).toInt32) &&& ((1431655765 : Int32))))).toUInt32 >>> ((((2 : Int32))).toUInt32 &&& Int32.toUInt32 31)).toInt32) &&& ((858993459 : Int32))))).toUInt32 >>> ((((4 : Int32))).toUInt32 &&& Int32.toUInt32 31)).toInt32)) &&& ((252645135 : Int32))) + (((((((((sy_i F 82) - (((((sy_i F 82)).toUInt32 >>> ((((1 : Int32))).toUInt32 &&& Int32.toUInt32 31)).toInt32) &&& ((1431655765 : Int32)))) &&& ((858993459 : Int32))) + ((((((sy_i F 82) - (((((sy_i F 82)).toUInt32 >>> ((((1 : Int32))).toUInt32 &&& Int32.toUInt32 31)).toInt32) &&& ((1431655765 : Int32))))).toUInt32 >>> ((((2 : Int32))).toUInt32 &&& Int32.toUInt32 31)).toInt32) &&& ((858993459 : Int32)))) + (((((((sy_i F 82) - (((((sy_i F 82)).toUInt32 >>> ((((1 : Int32))).toUInt32 &&& Int32.toUInt32 31)).toInt32) &&& ((1431655765 : Int32)))) &&& ((858993459 : Int32))) + ((((((sy_i F 82) - (((((sy_i F 82)).toUInt32 >>> ((((1 : Int32))).toUInt32 &&& Int32.toUInt32 31)).toInt32) &&& ((1431655765 : Int32))))).toUInt32 >>> ((((2 : Int32))).toUInt32 &&& Int32.toUInt32 31)).toInt32) &&& ((858993459 : Int32))))).toUInt32 >>> ((((4 : Int32))).toUInt32 &&& Int32.toUInt32 31)).toInt32)) &&& ((252645135 : Int32)))).toUInt32 >>> ((((8 : Int32))).toUInt32 &&& Int32.toUInt32 31)).toInt32)) + ((((((((((sy_i F 82) - (((((sy_i F 82)).toUInt32 >>> ((((1 : Int32))).toUInt32 &&& Int32.toUInt32 31)).toInt32) &&& ((1431655765 : Int32)))) &&& ((858993459 : Int32))) + ((((((sy_i F 82) - (((((sy_i F 82)).toUInt32 >>> ((((1 : Int32))).toUInt32 &&& Int32.toUInt32 31)).toInt32) &&& ((1431655765 : Int32))))).toUInt32 >>> ((((2 : Int32))).toUInt32 &&& Int32.toUInt32 31)).toInt32) &&& ((858993459 : Int32)))) + (((((((sy_i F 82) - (((((sy_i F 82)).toUInt32 >>> ((((1 : Int32))).toUInt32 &&& Int32.toUInt32 31)).toInt32) &&& ((1431655765 : Int32)))) &&& ((858993459 : Int32))) + ((((((sy_i F 82) - (((((sy_i F 82)).toUInt32 >>> ((((1 : Int32))).toUInt32 &&& Int32.toUInt32 31)).toInt32) &&& ((1431655765 : Int32))))).toUInt32 >>> ((((2 : Int32))).toUInt32 &&& Int32.toUInt32 31)).toInt32) &&& ((858993459 : Int32))))).toUInt32 >>> ((((4 : Int32))).toUInt32 &&& Int32.toUInt32 31)).toInt32)) &&& ((252645135 : Int32))) + (((((((((sy_i F 82) - (((((sy_i F 82)).toUInt32 >>> ((((1 : Int32))).toUInt32 &&& Int32.toUInt32 31)).toInt32) &&& ((1431655765 : Int32)))) &&& ((858993459 : Int32))) + ((((((sy_i F 82) - (((((sy_i F 82)).toUInt32 >>> ((((1 : Int32))).toUInt32 &&& Int32.toUInt32 31)).toInt32) &&& ((1431655765 : Int32))))).toUInt32 >>> ((((2 : Int32))).toUInt32 &&& Int32.toUInt32 31)).toInt32) &&& ((858993459 : Int32)))) + (((((((sy_i F 82) - (((((sy_i F 82)).toUInt32 >>> ((((1 : Int32))).toUInt32 &&& Int32.toUInt32 31)).toInt32) &&& ((1431655765 : Int32)))) &&& ((858993459 : Int32))) + ((((((sy_i F 82) - (((((sy_i F 82)).toUInt32 >>> ((((1 : Int32))).toUInt32 &&& Int32.toUInt32 31)).toInt32) &&& ((1431655765 : Int32))))).toUInt32 >>> ((((2 : Int32))).toUInt32 &&& Int32.toUInt32 31)).toInt32) &&& ((858993459 : Int32))))).toUInt32 >>> ((((4 : Int32))).toUInt32 &&& Int32.toUInt32 31)).toInt32)) &&& ((252645135 : Int32)))).toUInt32 >>> ((((8 : Int32))).toUInt32 &&& Int32.toUInt32 31)).toInt32))).toUInt32 >>> ((((16 : Int32))).toUInt32 &&& Int32.toUInt32 31)).toInt32)) &&& ((63 : Int32)) = ((((((((sy_i F 82) - (((((sy_i F 82)).toUInt32 >>> ((((1 : Int32))).toUInt32 &&& Int32.toUInt32 31)).toInt32) &&& ((1431655765 : Int32)))) &&& ((858993459 : Int32))) + ((((((sy_i F 82) - (((((sy_i F 82)).toUInt32 >>> ((((1 : Int32))).toUInt32 &&& Int32.toUInt32 31)).toInt32) &&& ((1431655765 : Int32))))).toUInt32 >>> ((((2 : Int32))).toUInt32 &&& Int32.toUInt32 31)).toInt32) &&& ((858993459 : Int32)))) + (((((((sy_i F 82) - (((((sy_i F 82)).toUInt32 >>> ((((1 : Int32))).toUInt32 &&& Int32.toUInt32 31)).toInt32) &&& ((1431655765 : Int32)))) &&& ((858993459 : Int32))) + ((((((sy_i F 82) - (((((sy_i F 82)).toUInt32 >>> ((((1 : Int32))).toUInt32 &&& Int32.toUInt32 31)).toInt32) &&& ((1431655765 : Int32))))).toUInt32 >>> ((((2 : Int32))).toUInt32 &&& Int32.toUInt32 31)).toInt32) &&& ((858993459 : Int32))))).toUInt32 >>> ((((4 : Int32))).toUInt32 &&& Int32.toUInt32 31)).toInt32)) &&& ((252645135 : Int32))) + (((((((((sy_i F 82) - (((((sy_i F 82)).toUInt32 >>> ((((1 : Int32))).toUInt32 &&& Int32.toUInt32 31)).toInt32) &&& ((1431655765 : Int32)))) &&& ((858993459 : Int32))) + ((((((sy_i F 82) - (((((sy_i F 82)).toUInt32 >>> ((((1 : Int32))).toUInt32 &&& Int32.toUInt32 31)).toInt32) &&& ((1431655765 : Int32))))).toUInt32 >>> ((((2 : Int32))).toUInt32 &&& Int32.toUInt32 31)).toInt32) &&& ((858993459 : Int32)))) + (((((((sy_i F 82) - (((((sy_i F 82)).toUInt32 >>> ((((1 : Int32))).toUInt32 &&& Int32.toUInt32 31)).toInt32) &&& ((1431655765 : Int32)))) &&& ((858993459 : Int32))) + ((((((sy_i F 82) - (((((sy_i F 82)).toUInt32 >>> ((((1 : Int32))).toUInt32 &&& Int32.toUInt32 31)).toInt32) &&& ((1431655765 : Int32))))).toUInt32 >>> ((((2 : Int32))).toUInt32 &&& Int32.toUInt32 31)).toInt32) &&& ((858993459 : Int32))))).toUInt32 >>> ((((4 : Int32))).toUInt32 &&& Int32.toUInt32 31)).toInt32)) &&& ((252645135 : Int32)))).toUInt32 >>> ((((8 : Int32))).toUInt32 &&& Int32.toUInt32 31)).toInt32)) + ((((((((((sy_i F 82) - (((((sy_i F 82)).toUInt32 >>> ((((1 : Int32))).toUInt32 &&& Int32.toUInt32 31)).toInt32) &&& ((1431655765 : Int32)))) &&& ((858993459 : Int32))) + ((((((sy_i F 82) - (((((sy_i F 82)).toUInt32 >>> ((((1 : Int32))).toUInt32 &&& Int32.toUInt32 31)).toInt32) &&& ((1431655765 : Int32))))).toUInt32 >>> ((((2 : Int32))).toUInt32 &&& Int32.toUInt32 31)).toInt32) &&& ((858993459 : Int32)))) + (((((((sy_i F 82) - (((((sy_i F 82)).toUInt32 >>> ((((1 : Int32))).toUInt32 &&& Int32.toUInt32 31)).toInt32) &&& ((1431655765 : Int32)))) &&& ((858993459 : Int32))) + ((((((sy_i F 82) - (((((sy_i F 82)).toUInt32 >>> ((((1 : Int32))).toUInt32 &&& Int32.toUInt32 31)).toInt32) &&& ((1431655765 : Int32))))).toUInt32 >>> ((((2 : Int32))).toUInt32 &&& Int32.toUInt32 31)).toInt32) &&& ((858993459 : Int32))))).toUInt32 >>> ((((4 : Int32))).toUInt32 &&& Int32.toUInt32 31)).toInt32)) &&& ((252645135 : Int32))) + (((((((((sy_i F 82) - (((((sy_i F 82)).toUInt32 >>> ((((1 : Int32))).toUInt32 &&& Int32.toUInt32 31)).toInt32) &&& ((1431655765 : Int32)))) &&& ((858993459 : Int32))) + ((((((sy_i F 82) - (((((sy_i F 82)).toUInt32 >>> ((((1 : Int32))).toUInt32 &&& Int32.toUInt32 31)).toInt32) &&& ((1431655765 : Int32))))).toUInt32 >>> ((((2 : Int32))).toUInt32 &&& Int32.toUInt32 31)).toInt32) &&& ((858993459 : Int32)))) + (((((((sy_i F 82) - (((((sy_i F 82)).toUInt32 >>> ((((1 : Int32))).toUInt32 &&& Int32.toUInt32 31)).toInt32) &&& ((1431655765 : Int32)))) &&& ((858993459 : Int32))) + ((((((sy_i F 82) - (((((sy_i F 82)).toUInt32 >>> ((((1 : Int32))).toUInt32 &&& Int32.toUInt32 31)).toInt32) &&& ((1431655765 : Int32))))).toUInt32 >>> ((((2 : Int32))).toUInt32 &&& Int32.toUInt32 31)).toInt32) &&& ((858993459 : Int32))))).toUInt32 >>> ((((4 : Int32))).toUInt32 &&& Int32.toUInt32 31)).toInt32)) &&& ((252645135 : Int32)))).toUInt32 >>> ((((8 : Int32))).toUInt32 &&& Int32.toUInt32 31)).toInt32))).toUInt32 >>> ((((16 : Int32))).toUInt32 &&& Int32.toUInt32 31)).toInt32)) &&& ((63 : Int32)))]; exact k0 F1 (nz_in0 hB [] (fun j hj hn => g j hj (by simp only [List.mem_cons, List.not_mem_nil, or_false, not_or] at hn; exact trivial)) (List.forall_mem_nil _)) (fun j hj hn => g j hj (by simp only [List.mem_cons, List.not_mem_nil, or_false, not_or] at hn; exact trivial)) )
theorem j3nnr_0_p0 {Ls : Nat} {xs : Nat → Int32} {d : Nat} {Q : Option Value → jm_h → Prop} (hd : 1 ≤ d) (F : Nat → sy_d) (X1 X2 : List jm_c) (hB : iv_in F iv_B0)
    (k : ∀ F1 : Nat → sy_d, (∀ j, j < 82 → True → F1 j = F j) → F1 82 = .inl (.int (sy_i F 82)) → F1 83 = .inl (.int (sy_i F 83)) → F1 84 = .inl (.int (((-2) : Int32))) → F1 85 = .inl (.int ((4 : Int32))) → F1 86 = .inl (.int ((0 : Int32))) → hd_W Ls xs d jm_M13 Q (10, sy_dL F1 [some (.inl (.ref 46)), some (.inl (.ref 20)), some (.inr (.inl 82)), some (.inr (.inl 83)), some (.inr (.inl 84)), some (.inr (.inl 85)), some (.inr (.inl 86)), none], sy_dS F1 [], sy_dh F1 X1 X2 (iv_H 3), 0, 0)) :
    hd_W Ls xs d jm_M13 Q (0, sy_dL F [some (.inl (.ref 46)), some (.inl (.ref 20)), some (.inr (.inl 82)), some (.inr (.inl 83)), none, none, none, none], sy_dS F [], sy_dh F X1 X2 (iv_H 3), 0, 0) := by
  refine hd_run (s := 3) (nv := 84) (pc := 10) (L := [some (.inl (.ref 46)), some (.inl (.ref 20)), some (.inr (.inl 82)), some (.inr (.inl 83)), some (.inr (.inl 84)), some (.inr (.inl 85)), some (.inr (.inl 86)), none]) (S := []) (uh := hd_ov (iv_id 0 iv_B0) []) (ul := [.inl (.inr (.inl 82)), .inl (.inr (.inl 83)), .inl (.inl (.int (-2))), .inl (.inl (.int 4)), .inl (.inl (.int 0))]) (f := true) (sp := [10]) (d0 := 0) (O := []) (T := []) (P := []) jm_ok13 (by decide +kernel) (by decide +kernel) hd F X1 X2 (fun F' hF hs => ?_)
  have b82 := hd_b (F := F) (F' := F') (k := 82) (hF 82 (by decide))
  have b83 := hd_b (F := F) (F' := F') (k := 83) (hF 83 (by decide))
  have hB' : iv_in F' iv_B0 := iv_in_eq hB (fun j hj => hF j (Nat.lt_of_lt_of_le hj (by decide +kernel)))
  refine ⟨fun _ h => absurd h List.not_mem_nil, ?_⟩
  refine k _ ?_ ?_ ?_ ?_ ?_ ?_
  · exact fun j hj _ => (hd_keep hB' (Nat.lt_of_lt_of_le hj (by decide +kernel)) (by simp)).trans (hF j (Nat.lt_of_lt_of_le hj (by decide)))
  · exact hd_gi (x := .inr (.inl 82)) (by decide +kernel) b82
  · exact hd_gi (x := .inr (.inl 83)) (by decide +kernel) b83
  · exact hd_gi (x := .inl (.int (-2))) (by decide +kernel) rfl
  · exact hd_gi (x := .inl (.int 4)) (by decide +kernel) rfl
  · exact hd_gi (x := .inl (.int 0)) (by decide +kernel) rfl
theorem j3nnr_0 {Ls : Nat} {xs : Nat → Int32} {d : Nat} {Q : Option Value → jm_h → Prop} (hd : 1 ≤ d) (F : Nat → sy_d) (X1 X2 : List jm_c) (hB : iv_in F iv_B0)
    (k0 : ∀ F1 : Nat → sy_d, iv_in F1 iv_B0 → (∀ j, j < 82 → j ∉ ([] : List Nat) → F1 j = F j) → (sy_i F1 82).toInt = (sy_i F 82).toInt → sy_i F1 82 = sy_i F 82 → (sy_i F1 83).toInt = (sy_i F 83).toInt → sy_i F1 83 = sy_i F 83 → (sy_i F1 84).toInt = (-2 : Int) → sy_i F1 84 = ((-2) : Int32) → (sy_i F1 85).toInt = 4 → sy_i F1 85 = (4 : Int32) → (sy_i F1 86).toInt = 0 → sy_i F1 86 = (0 : Int32) → hd_W Ls xs d jm_M13 Q (10, sy_dL F1 [some (.inl (.ref 46)), some (.inl (.ref 20)), some (.inr (.inl 82)), some (.inr (.inl 83)), some (.inr (.inl 84)), some (.inr (.inl 85)), some (.inr (.inl 86)), none], sy_dS F1 [], sy_dh F1 X1 X2 (iv_H 3), 0, 0)) :
    hd_W Ls xs d jm_M13 Q (0, sy_dL F [some (.inl (.ref 46)), some (.inl (.ref 20)), some (.inr (.inl 82)), some (.inr (.inl 83)), none, none, none, none], sy_dS F [], sy_dh F X1 X2 (iv_H 3), 0, 0) := by
  exact j3nnr_0_p0 hd F X1 X2 hB  (fun F1 g e82 e83 e84 e85 e86 => k0 F1 (nz_in0 hB [] (fun j hj hn => g j hj (by simp only [List.mem_cons, List.not_mem_nil, or_false, not_or] at hn; exact trivial)) (List.forall_mem_nil _)) (fun j hj hn => g j hj (by simp only [List.mem_cons, List.not_mem_nil, or_false, not_or] at hn; exact trivial)) ((congrArg Int32.toInt (zz_i e82)).trans (rfl : (sy_i F 82).toInt = (sy_i F 82).toInt)) ((zz_i e82).trans (rfl : sy_i F 82 = sy_i F 82)) ((congrArg Int32.toInt (zz_i e83)).trans (rfl : (sy_i F 83).toInt = (sy_i F 83).toInt)) ((zz_i e83).trans (rfl : sy_i F 83 = sy_i F 83)) ((congrArg Int32.toInt (zz_i e84)).trans (by decide : (((-2) : Int32)).toInt = (-2 : Int))) ((zz_i e84).trans (rfl : ((-2) : Int32) = ((-2) : Int32))) ((congrArg Int32.toInt (zz_i e85)).trans (by decide : ((4 : Int32)).toInt = 4)) ((zz_i e85).trans (rfl : (4 : Int32) = (4 : Int32))) ((congrArg Int32.toInt (zz_i e86)).trans (by decide : ((0 : Int32)).toInt = 0)) ((zz_i e86).trans (rfl : (0 : Int32) = (0 : Int32))))
theorem j3nnr_10_p0 {Ls : Nat} {xs : Nat → Int32} {d : Nat} {Q : Option Value → jm_h → Prop} (hd : 2 ≤ d) (F : Nat → sy_d) (X1 X2 : List jm_c) (hB : iv_in F iv_B0)
    (h0 : (sy_i F 19).toInt ≤ (sy_i F 86).toInt)
    (k : ∀ F1 : Nat → sy_d, (∀ j, j < 82 → True → F1 j = F j) → Q (some (.int (sy_i F 84))) (sy_dh F1 X1 X2 (iv_H 3))) :
    hd_W Ls xs d jm_M13 Q (10, sy_dL F [some (.inl (.ref 46)), some (.inl (.ref 20)), some (.inr (.inl 82)), some (.inr (.inl 83)), some (.inr (.inl 84)), some (.inr (.inl 85)), some (.inr (.inl 86)), none], sy_dS F [], sy_dh F X1 X2 (iv_H 3), 0, 0) := by
  refine hd_ret (s := 3) (nv := 87) (v := some (.inr (.inl 84))) (uh := hd_ov (iv_id 0 iv_B0) []) (f := true) (sp := [10]) (d0 := 1) (O := [true]) (T := []) (P := [(4, .inr (.inl 19), .inr (.inl 86))]) jm_ok13 (by decide +kernel) (by decide +kernel) hd F X1 X2 (fun F' hF hs => ?_)
  have b19 := hd_b (F := F) (F' := F') (k := 19) (hF 19 (by decide))
  have b86 := hd_b (F := F) (F' := F') (k := 86) (hF 86 (by decide))
  have b84 := hd_b (F := F) (F' := F') (k := 84) (hF 84 (by decide))
  have hB' : iv_in F' iv_B0 := iv_in_eq hB (fun j hj => hF j (Nat.lt_of_lt_of_le hj (by decide +kernel)))
  have hk := k (sy_cm F' (hd_ov (iv_id 0 iv_B0) [] ++ [])) (fun j hj _ => (hd_keep hB' (Nat.lt_of_lt_of_le hj (by decide +kernel)) (by simp)).trans (hF j (Nat.lt_of_lt_of_le hj (by decide))))
  refine ⟨List.forall_mem_cons.mpr ⟨hd_p4 b19 b86 h0, fun _ h => absurd h List.not_mem_nil⟩, ?_⟩
  show Q (some (sy_dv F' (.inr (.inl 84)))) _
  rw [b84]
  exact hk
theorem j3nnr_10_p1 {Ls : Nat} {xs : Nat → Int32} {d : Nat} {Q : Option Value → jm_h → Prop} (hd : 2 ≤ d) (F : Nat → sy_d) (X1 X2 : List jm_c) (hB : iv_in F iv_B0)
    (h0 : (sy_i F 86).toInt < (sy_i F 19).toInt)
    (h1 : 0 ≤ (sy_i F 86).toInt ∧ (sy_i F 86).toInt < 4)
    (h2 : 0 ≤ (((sy_ai F 60).getD (sy_i F 86).toNatClampNeg 0) - (sy_i F 82)).toInt)
    (h3 : 0 ≤ (sy_i F 86).toInt ∧ (sy_i F 86).toInt < 4)
    (h4 : ((sy_ai F 29).getD (sy_i F 86).toNatClampNeg 0).toInt < (((sy_ai F 60).getD (sy_i F 86).toNatClampNeg 0) - (sy_i F 82)).toInt)
    (k : ∀ F1 : Nat → sy_d, (∀ j, j < 82 → True → F1 j = F j) → F1 82 = .inl (.int (sy_i F 82)) → F1 83 = .inl (.int (sy_i F 83)) → F1 84 = .inl (.int (sy_i F 84)) → F1 85 = .inl (.int (sy_i F 85)) → F1 86 = .inl (.int ((sy_i F 86) + ((1 : Int32)))) → hd_W Ls xs d jm_M13 Q (10, sy_dL F1 [some (.inl (.ref 46)), some (.inl (.ref 20)), some (.inr (.inl 82)), some (.inr (.inl 83)), some (.inr (.inl 84)), some (.inr (.inl 85)), some (.inr (.inl 86)), none], sy_dS F1 [], sy_dh F1 X1 X2 (iv_H 3), 0, 0)) :
    hd_W Ls xs d jm_M13 Q (10, sy_dL F [some (.inl (.ref 46)), some (.inl (.ref 20)), some (.inr (.inl 82)), some (.inr (.inl 83)), some (.inr (.inl 84)), some (.inr (.inl 85)), some (.inr (.inl 86)), none], sy_dS F [], sy_dh F X1 X2 (iv_H 3), 0, 0) := by
  refine hd_run (s := 3) (nv := 87) (pc := 10) (L := [some (.inl (.ref 46)), some (.inl (.ref 20)), some (.inr (.inl 82)), some (.inr (.inl 83)), some (.inr (.inl 84)), some (.inr (.inl 85)), some (.inr (.inl 86)), none]) (S := []) (uh := hd_ov (iv_id 0 iv_B0) []) (ul := [.inl (.inr (.inl 82)), .inl (.inr (.inl 83)), .inl (.inr (.inl 84)), .inl (.inr (.inl 85)), .inl (.inr (.inl 90))]) (f := true) (sp := [10]) (d0 := 1) (O := [false, true, true]) (T := [(30, [.inr (.inl 86)], [.inr (.inl 60)]), (1, [.inr (.inl 87), .inr (.inl 82)], []), (30, [.inr (.inl 86)], [.inr (.inl 29)]), (0, [.inr (.inl 86), .inl (.int 1)], [])]) (P := [(5, .inr (.inl 19), .inr (.inl 86)), (6, .inr (.inl 86), .inl (.ref 4)), (4, .inl (.int 0), .inr (.inl 88)), (6, .inr (.inl 86), .inl (.ref 4)), (2, .inr (.inl 89), .inr (.inl 88))]) jm_ok13 (by decide +kernel) (by decide +kernel) hd F X1 X2 (fun F' hF hs => ?_)
  have b19 := hd_b (F := F) (F' := F') (k := 19) (hF 19 (by decide))
  have b86 := hd_b (F := F) (F' := F') (k := 86) (hF 86 (by decide))
  have a60 := hd_ba (F := F) (F' := F') (k := 60) (hF 60 (by decide))
  have t87 : sy_dv F' (.inr (.inl 87)) = .int ((sy_ai F 60).getD (sy_i F 86).toNatClampNeg 0) := hd_rd (hs 0 _ rfl) b86 a60
  have b82 := hd_b (F := F) (F' := F') (k := 82) (hF 82 (by decide))
  have t88 : sy_dv F' (.inr (.inl 88)) = .int (((sy_ai F 60).getD (sy_i F 86).toNatClampNeg 0) - (sy_i F 82)) := hd_o (hs 1 _ rfl) t87 b82 rfl
  have a29 := hd_ba (F := F) (F' := F') (k := 29) (hF 29 (by decide))
  have t89 : sy_dv F' (.inr (.inl 89)) = .int ((sy_ai F 29).getD (sy_i F 86).toNatClampNeg 0) := hd_rd (hs 2 _ rfl) b86 a29
  have b83 := hd_b (F := F) (F' := F') (k := 83) (hF 83 (by decide))
  have b84 := hd_b (F := F) (F' := F') (k := 84) (hF 84 (by decide))
  have b85 := hd_b (F := F) (F' := F') (k := 85) (hF 85 (by decide))
  have t90 : sy_dv F' (.inr (.inl 90)) = .int ((sy_i F 86) + ((1 : Int32))) := hd_o (hs 3 _ rfl) b86 rfl rfl
  have hB' : iv_in F' iv_B0 := iv_in_eq hB (fun j hj => hF j (Nat.lt_of_lt_of_le hj (by decide +kernel)))
  refine ⟨List.forall_mem_cons.mpr ⟨hd_p5 b19 b86 h0, List.forall_mem_cons.mpr ⟨hd_pb b86 (by first | exact h1 | exact h1), List.forall_mem_cons.mpr ⟨hd_p4 rfl t88 (by have hc : ((0) : Int32).toInt = 0 := (by decide); omega), List.forall_mem_cons.mpr ⟨hd_pb b86 (by first | exact h3 | exact h3), List.forall_mem_cons.mpr ⟨hd_p2 t89 t88 h4, fun _ h => absurd h List.not_mem_nil⟩⟩⟩⟩⟩, ?_⟩
  refine k _ ?_ ?_ ?_ ?_ ?_ ?_
  · exact fun j hj _ => (hd_keep hB' (Nat.lt_of_lt_of_le hj (by decide +kernel)) (by simp)).trans (hF j (Nat.lt_of_lt_of_le hj (by decide)))
  · exact hd_gi (x := .inr (.inl 82)) (by decide +kernel) b82
  · exact hd_gi (x := .inr (.inl 83)) (by decide +kernel) b83
  · exact hd_gi (x := .inr (.inl 84)) (by decide +kernel) b84
  · exact hd_gi (x := .inr (.inl 85)) (by decide +kernel) b85
  · exact hd_gi (x := .inr (.inl 90)) (by decide +kernel) t90
theorem j3nnr_10_p2 {Ls : Nat} {xs : Nat → Int32} {d : Nat} {Q : Option Value → jm_h → Prop} (hd : 2 ≤ d) (F : Nat → sy_d) (X1 X2 : List jm_c) (hB : iv_in F iv_B0)
    (h0 : (sy_i F 86).toInt < (sy_i F 19).toInt)
    (h1 : 0 ≤ (sy_i F 86).toInt ∧ (sy_i F 86).toInt < 4)
    (h2 : 0 ≤ (((sy_ai F 60).getD (sy_i F 86).toNatClampNeg 0) - (sy_i F 82)).toInt)
    (h3 : 0 ≤ (sy_i F 86).toInt ∧ (sy_i F 86).toInt < 4)
    (h4 : (((sy_ai F 60).getD (sy_i F 86).toNatClampNeg 0) - (sy_i F 82)).toInt ≤ ((sy_ai F 29).getD (sy_i F 86).toNatClampNeg 0).toInt)
    (h5 : (sy_i F 85).toInt ≤ (((sy_ai F 60).getD (sy_i F 86).toNatClampNeg 0) - (sy_i F 82)).toInt)
    (k : ∀ F1 : Nat → sy_d, (∀ j, j < 82 → True → F1 j = F j) → F1 82 = .inl (.int (sy_i F 82)) → F1 83 = .inl (.int (sy_i F 83)) → F1 84 = .inl (.int (sy_i F 84)) → F1 85 = .inl (.int (sy_i F 85)) → F1 86 = .inl (.int ((sy_i F 86) + ((1 : Int32)))) → hd_W Ls xs d jm_M13 Q (10, sy_dL F1 [some (.inl (.ref 46)), some (.inl (.ref 20)), some (.inr (.inl 82)), some (.inr (.inl 83)), some (.inr (.inl 84)), some (.inr (.inl 85)), some (.inr (.inl 86)), none], sy_dS F1 [], sy_dh F1 X1 X2 (iv_H 3), 0, 0)) :
    hd_W Ls xs d jm_M13 Q (10, sy_dL F [some (.inl (.ref 46)), some (.inl (.ref 20)), some (.inr (.inl 82)), some (.inr (.inl 83)), some (.inr (.inl 84)), some (.inr (.inl 85)), some (.inr (.inl 86)), none], sy_dS F [], sy_dh F X1 X2 (iv_H 3), 0, 0) := by
  refine hd_run (s := 3) (nv := 87) (pc := 10) (L := [some (.inl (.ref 46)), some (.inl (.ref 20)), some (.inr (.inl 82)), some (.inr (.inl 83)), some (.inr (.inl 84)), some (.inr (.inl 85)), some (.inr (.inl 86)), none]) (S := []) (uh := hd_ov (iv_id 0 iv_B0) []) (ul := [.inl (.inr (.inl 82)), .inl (.inr (.inl 83)), .inl (.inr (.inl 84)), .inl (.inr (.inl 85)), .inl (.inr (.inl 90))]) (f := true) (sp := [10]) (d0 := 1) (O := [false, true, false, true]) (T := [(30, [.inr (.inl 86)], [.inr (.inl 60)]), (1, [.inr (.inl 87), .inr (.inl 82)], []), (30, [.inr (.inl 86)], [.inr (.inl 29)]), (0, [.inr (.inl 86), .inl (.int 1)], [])]) (P := [(5, .inr (.inl 19), .inr (.inl 86)), (6, .inr (.inl 86), .inl (.ref 4)), (4, .inl (.int 0), .inr (.inl 88)), (6, .inr (.inl 86), .inl (.ref 4)), (3, .inr (.inl 89), .inr (.inl 88)), (4, .inr (.inl 85), .inr (.inl 88))]) jm_ok13 (by decide +kernel) (by decide +kernel) hd F X1 X2 (fun F' hF hs => ?_)
  have b19 := hd_b (F := F) (F' := F') (k := 19) (hF 19 (by decide))
  have b86 := hd_b (F := F) (F' := F') (k := 86) (hF 86 (by decide))
  have a60 := hd_ba (F := F) (F' := F') (k := 60) (hF 60 (by decide))
  have t87 : sy_dv F' (.inr (.inl 87)) = .int ((sy_ai F 60).getD (sy_i F 86).toNatClampNeg 0) := hd_rd (hs 0 _ rfl) b86 a60
  have b82 := hd_b (F := F) (F' := F') (k := 82) (hF 82 (by decide))
  have t88 : sy_dv F' (.inr (.inl 88)) = .int (((sy_ai F 60).getD (sy_i F 86).toNatClampNeg 0) - (sy_i F 82)) := hd_o (hs 1 _ rfl) t87 b82 rfl
  have a29 := hd_ba (F := F) (F' := F') (k := 29) (hF 29 (by decide))
  have t89 : sy_dv F' (.inr (.inl 89)) = .int ((sy_ai F 29).getD (sy_i F 86).toNatClampNeg 0) := hd_rd (hs 2 _ rfl) b86 a29
  have b85 := hd_b (F := F) (F' := F') (k := 85) (hF 85 (by decide))
  have b83 := hd_b (F := F) (F' := F') (k := 83) (hF 83 (by decide))
  have b84 := hd_b (F := F) (F' := F') (k := 84) (hF 84 (by decide))
  have t90 : sy_dv F' (.inr (.inl 90)) = .int ((sy_i F 86) + ((1 : Int32))) := hd_o (hs 3 _ rfl) b86 rfl rfl
  have hB' : iv_in F' iv_B0 := iv_in_eq hB (fun j hj => hF j (Nat.lt_of_lt_of_le hj (by decide +kernel)))
  refine ⟨List.forall_mem_cons.mpr ⟨hd_p5 b19 b86 h0, List.forall_mem_cons.mpr ⟨hd_pb b86 (by first | exact h1 | exact h1), List.forall_mem_cons.mpr ⟨hd_p4 rfl t88 (by have hc : ((0) : Int32).toInt = 0 := (by decide); omega), List.forall_mem_cons.mpr ⟨hd_pb b86 (by first | exact h3 | exact h3), List.forall_mem_cons.mpr ⟨hd_p3 t89 t88 h4, List.forall_mem_cons.mpr ⟨hd_p4 b85 t88 h5, fun _ h => absurd h List.not_mem_nil⟩⟩⟩⟩⟩⟩, ?_⟩
  refine k _ ?_ ?_ ?_ ?_ ?_ ?_
  · exact fun j hj _ => (hd_keep hB' (Nat.lt_of_lt_of_le hj (by decide +kernel)) (by simp)).trans (hF j (Nat.lt_of_lt_of_le hj (by decide)))
  · exact hd_gi (x := .inr (.inl 82)) (by decide +kernel) b82
  · exact hd_gi (x := .inr (.inl 83)) (by decide +kernel) b83
  · exact hd_gi (x := .inr (.inl 84)) (by decide +kernel) b84
  · exact hd_gi (x := .inr (.inl 85)) (by decide +kernel) b85
  · exact hd_gi (x := .inr (.inl 90)) (by decide +kernel) t90
theorem j3nnr_10_p3 {Ls : Nat} {xs : Nat → Int32} {d : Nat} {Q : Option Value → jm_h → Prop} (hd : 2 ≤ d) (F : Nat → sy_d) (X1 X2 : List jm_c) (hB : iv_in F iv_B0)
    (h0 : (sy_i F 86).toInt < (sy_i F 19).toInt)
    (h1 : 0 ≤ (sy_i F 86).toInt ∧ (sy_i F 86).toInt < 4)
    (h2 : 0 ≤ (((sy_ai F 60).getD (sy_i F 86).toNatClampNeg 0) - (sy_i F 82)).toInt)
    (h3 : 0 ≤ (sy_i F 86).toInt ∧ (sy_i F 86).toInt < 4)
    (h4 : (((sy_ai F 60).getD (sy_i F 86).toNatClampNeg 0) - (sy_i F 82)).toInt ≤ ((sy_ai F 29).getD (sy_i F 86).toNatClampNeg 0).toInt)
    (h5 : (((sy_ai F 60).getD (sy_i F 86).toNatClampNeg 0) - (sy_i F 82)).toInt < (sy_i F 85).toInt)
    (h6 : 0 ≤ (sy_i F 86).toInt ∧ (sy_i F 86).toInt < 4)
    (h7 : ((sy_ai F 61).getD (sy_i F 86).toNatClampNeg 0).toInt < (sy_i F 83).toInt)
    (k : ∀ F1 : Nat → sy_d, (∀ j, j < 82 → True → F1 j = F j) → F1 82 = .inl (.int (sy_i F 82)) → F1 83 = .inl (.int (sy_i F 83)) → F1 84 = .inl (.int (sy_i F 84)) → F1 85 = .inl (.int (sy_i F 85)) → F1 86 = .inl (.int ((sy_i F 86) + ((1 : Int32)))) → hd_W Ls xs d jm_M13 Q (10, sy_dL F1 [some (.inl (.ref 46)), some (.inl (.ref 20)), some (.inr (.inl 82)), some (.inr (.inl 83)), some (.inr (.inl 84)), some (.inr (.inl 85)), some (.inr (.inl 86)), none], sy_dS F1 [], sy_dh F1 X1 X2 (iv_H 3), 0, 0)) :
    hd_W Ls xs d jm_M13 Q (10, sy_dL F [some (.inl (.ref 46)), some (.inl (.ref 20)), some (.inr (.inl 82)), some (.inr (.inl 83)), some (.inr (.inl 84)), some (.inr (.inl 85)), some (.inr (.inl 86)), none], sy_dS F [], sy_dh F X1 X2 (iv_H 3), 0, 0) := by
  refine hd_run (s := 3) (nv := 87) (pc := 10) (L := [some (.inl (.ref 46)), some (.inl (.ref 20)), some (.inr (.inl 82)), some (.inr (.inl 83)), some (.inr (.inl 84)), some (.inr (.inl 85)), some (.inr (.inl 86)), none]) (S := []) (uh := hd_ov (iv_id 0 iv_B0) []) (ul := [.inl (.inr (.inl 82)), .inl (.inr (.inl 83)), .inl (.inr (.inl 84)), .inl (.inr (.inl 85)), .inl (.inr (.inl 91))]) (f := true) (sp := [10]) (d0 := 1) (O := [false, true, false, false, true]) (T := [(30, [.inr (.inl 86)], [.inr (.inl 60)]), (1, [.inr (.inl 87), .inr (.inl 82)], []), (30, [.inr (.inl 86)], [.inr (.inl 29)]), (30, [.inr (.inl 86)], [.inr (.inl 61)]), (0, [.inr (.inl 86), .inl (.int 1)], [])]) (P := [(5, .inr (.inl 19), .inr (.inl 86)), (6, .inr (.inl 86), .inl (.ref 4)), (4, .inl (.int 0), .inr (.inl 88)), (6, .inr (.inl 86), .inl (.ref 4)), (3, .inr (.inl 89), .inr (.inl 88)), (5, .inr (.inl 85), .inr (.inl 88)), (6, .inr (.inl 86), .inl (.ref 4)), (2, .inr (.inl 90), .inr (.inl 83))]) jm_ok13 (by decide +kernel) (by decide +kernel) hd F X1 X2 (fun F' hF hs => ?_)
  have b19 := hd_b (F := F) (F' := F') (k := 19) (hF 19 (by decide))
  have b86 := hd_b (F := F) (F' := F') (k := 86) (hF 86 (by decide))
  have a60 := hd_ba (F := F) (F' := F') (k := 60) (hF 60 (by decide))
  have t87 : sy_dv F' (.inr (.inl 87)) = .int ((sy_ai F 60).getD (sy_i F 86).toNatClampNeg 0) := hd_rd (hs 0 _ rfl) b86 a60
  have b82 := hd_b (F := F) (F' := F') (k := 82) (hF 82 (by decide))
  have t88 : sy_dv F' (.inr (.inl 88)) = .int (((sy_ai F 60).getD (sy_i F 86).toNatClampNeg 0) - (sy_i F 82)) := hd_o (hs 1 _ rfl) t87 b82 rfl
  have a29 := hd_ba (F := F) (F' := F') (k := 29) (hF 29 (by decide))
  have t89 : sy_dv F' (.inr (.inl 89)) = .int ((sy_ai F 29).getD (sy_i F 86).toNatClampNeg 0) := hd_rd (hs 2 _ rfl) b86 a29
  have b85 := hd_b (F := F) (F' := F') (k := 85) (hF 85 (by decide))
  have a61 := hd_ba (F := F) (F' := F') (k := 61) (hF 61 (by decide))
  have t90 : sy_dv F' (.inr (.inl 90)) = .int ((sy_ai F 61).getD (sy_i F 86).toNatClampNeg 0) := hd_rd (hs 3 _ rfl) b86 a61
  have b83 := hd_b (F := F) (F' := F') (k := 83) (hF 83 (by decide))
  have b84 := hd_b (F := F) (F' := F') (k := 84) (hF 84 (by decide))
  have t91 : sy_dv F' (.inr (.inl 91)) = .int ((sy_i F 86) + ((1 : Int32))) := hd_o (hs 4 _ rfl) b86 rfl rfl
  have hB' : iv_in F' iv_B0 := iv_in_eq hB (fun j hj => hF j (Nat.lt_of_lt_of_le hj (by decide +kernel)))
  refine ⟨List.forall_mem_cons.mpr ⟨hd_p5 b19 b86 h0, List.forall_mem_cons.mpr ⟨hd_pb b86 (by first | exact h1 | exact h1), List.forall_mem_cons.mpr ⟨hd_p4 rfl t88 (by have hc : ((0) : Int32).toInt = 0 := (by decide); omega), List.forall_mem_cons.mpr ⟨hd_pb b86 (by first | exact h3 | exact h3), List.forall_mem_cons.mpr ⟨hd_p3 t89 t88 h4, List.forall_mem_cons.mpr ⟨hd_p5 b85 t88 h5, List.forall_mem_cons.mpr ⟨hd_pb b86 (by first | exact h6 | exact h6), List.forall_mem_cons.mpr ⟨hd_p2 t90 b83 h7, fun _ h => absurd h List.not_mem_nil⟩⟩⟩⟩⟩⟩⟩⟩, ?_⟩
  refine k _ ?_ ?_ ?_ ?_ ?_ ?_
  · exact fun j hj _ => (hd_keep hB' (Nat.lt_of_lt_of_le hj (by decide +kernel)) (by simp)).trans (hF j (Nat.lt_of_lt_of_le hj (by decide)))
  · exact hd_gi (x := .inr (.inl 82)) (by decide +kernel) b82
  · exact hd_gi (x := .inr (.inl 83)) (by decide +kernel) b83
  · exact hd_gi (x := .inr (.inl 84)) (by decide +kernel) b84
  · exact hd_gi (x := .inr (.inl 85)) (by decide +kernel) b85
  · exact hd_gi (x := .inr (.inl 91)) (by decide +kernel) t91
theorem j3nnr_10_p4 {Ls : Nat} {xs : Nat → Int32} {d : Nat} {Q : Option Value → jm_h → Prop} (hd : 2 ≤ d) (F : Nat → sy_d) (X1 X2 : List jm_c) (hB : iv_in F iv_B0)
    (h0 : (sy_i F 86).toInt < (sy_i F 19).toInt)
    (h1 : 0 ≤ (sy_i F 86).toInt ∧ (sy_i F 86).toInt < 4)
    (h2 : 0 ≤ (((sy_ai F 60).getD (sy_i F 86).toNatClampNeg 0) - (sy_i F 82)).toInt)
    (h3 : 0 ≤ (sy_i F 86).toInt ∧ (sy_i F 86).toInt < 4)
    (h4 : (((sy_ai F 60).getD (sy_i F 86).toNatClampNeg 0) - (sy_i F 82)).toInt ≤ ((sy_ai F 29).getD (sy_i F 86).toNatClampNeg 0).toInt)
    (h5 : (((sy_ai F 60).getD (sy_i F 86).toNatClampNeg 0) - (sy_i F 82)).toInt < (sy_i F 85).toInt)
    (h6 : 0 ≤ (sy_i F 86).toInt ∧ (sy_i F 86).toInt < 4)
    (h7 : (sy_i F 83).toInt ≤ ((sy_ai F 61).getD (sy_i F 86).toNatClampNeg 0).toInt)
    (k : ∀ F1 : Nat → sy_d, (∀ j, j < 82 → True → F1 j = F j) → F1 82 = .inl (.int (sy_i F 82)) → F1 83 = .inl (.int (sy_i F 83)) → F1 84 = .inl (.int (sy_i F 86)) → F1 85 = .inl (.int (((sy_ai F 60).getD (sy_i F 86).toNatClampNeg 0) - (sy_i F 82))) → F1 86 = .inl (.int ((sy_i F 86) + ((1 : Int32)))) → hd_W Ls xs d jm_M13 Q (10, sy_dL F1 [some (.inl (.ref 46)), some (.inl (.ref 20)), some (.inr (.inl 82)), some (.inr (.inl 83)), some (.inr (.inl 84)), some (.inr (.inl 85)), some (.inr (.inl 86)), none], sy_dS F1 [], sy_dh F1 X1 X2 (iv_H 3), 0, 0)) :
    hd_W Ls xs d jm_M13 Q (10, sy_dL F [some (.inl (.ref 46)), some (.inl (.ref 20)), some (.inr (.inl 82)), some (.inr (.inl 83)), some (.inr (.inl 84)), some (.inr (.inl 85)), some (.inr (.inl 86)), none], sy_dS F [], sy_dh F X1 X2 (iv_H 3), 0, 0) := by
  refine hd_run (s := 3) (nv := 87) (pc := 10) (L := [some (.inl (.ref 46)), some (.inl (.ref 20)), some (.inr (.inl 82)), some (.inr (.inl 83)), some (.inr (.inl 84)), some (.inr (.inl 85)), some (.inr (.inl 86)), none]) (S := []) (uh := hd_ov (iv_id 0 iv_B0) []) (ul := [.inl (.inr (.inl 82)), .inl (.inr (.inl 83)), .inl (.inr (.inl 86)), .inl (.inr (.inl 88)), .inl (.inr (.inl 91))]) (f := true) (sp := [10]) (d0 := 1) (O := [false, true, false, false, false]) (T := [(30, [.inr (.inl 86)], [.inr (.inl 60)]), (1, [.inr (.inl 87), .inr (.inl 82)], []), (30, [.inr (.inl 86)], [.inr (.inl 29)]), (30, [.inr (.inl 86)], [.inr (.inl 61)]), (0, [.inr (.inl 86), .inl (.int 1)], [])]) (P := [(5, .inr (.inl 19), .inr (.inl 86)), (6, .inr (.inl 86), .inl (.ref 4)), (4, .inl (.int 0), .inr (.inl 88)), (6, .inr (.inl 86), .inl (.ref 4)), (3, .inr (.inl 89), .inr (.inl 88)), (5, .inr (.inl 85), .inr (.inl 88)), (6, .inr (.inl 86), .inl (.ref 4)), (3, .inr (.inl 90), .inr (.inl 83))]) jm_ok13 (by decide +kernel) (by decide +kernel) hd F X1 X2 (fun F' hF hs => ?_)
  have b19 := hd_b (F := F) (F' := F') (k := 19) (hF 19 (by decide))
  have b86 := hd_b (F := F) (F' := F') (k := 86) (hF 86 (by decide))
  have a60 := hd_ba (F := F) (F' := F') (k := 60) (hF 60 (by decide))
  have t87 : sy_dv F' (.inr (.inl 87)) = .int ((sy_ai F 60).getD (sy_i F 86).toNatClampNeg 0) := hd_rd (hs 0 _ rfl) b86 a60
  have b82 := hd_b (F := F) (F' := F') (k := 82) (hF 82 (by decide))
  have t88 : sy_dv F' (.inr (.inl 88)) = .int (((sy_ai F 60).getD (sy_i F 86).toNatClampNeg 0) - (sy_i F 82)) := hd_o (hs 1 _ rfl) t87 b82 rfl
  have a29 := hd_ba (F := F) (F' := F') (k := 29) (hF 29 (by decide))
  have t89 : sy_dv F' (.inr (.inl 89)) = .int ((sy_ai F 29).getD (sy_i F 86).toNatClampNeg 0) := hd_rd (hs 2 _ rfl) b86 a29
  have b85 := hd_b (F := F) (F' := F') (k := 85) (hF 85 (by decide))
  have a61 := hd_ba (F := F) (F' := F') (k := 61) (hF 61 (by decide))
  have t90 : sy_dv F' (.inr (.inl 90)) = .int ((sy_ai F 61).getD (sy_i F 86).toNatClampNeg 0) := hd_rd (hs 3 _ rfl) b86 a61
  have b83 := hd_b (F := F) (F' := F') (k := 83) (hF 83 (by decide))
  have t91 : sy_dv F' (.inr (.inl 91)) = .int ((sy_i F 86) + ((1 : Int32))) := hd_o (hs 4 _ rfl) b86 rfl rfl
  have hB' : iv_in F' iv_B0 := iv_in_eq hB (fun j hj => hF j (Nat.lt_of_lt_of_le hj (by decide +kernel)))
  refine ⟨List.forall_mem_cons.mpr ⟨hd_p5 b19 b86 h0, List.forall_mem_cons.mpr ⟨hd_pb b86 (by first | exact h1 | exact h1), List.forall_mem_cons.mpr ⟨hd_p4 rfl t88 (by have hc : ((0) : Int32).toInt = 0 := (by decide); omega), List.forall_mem_cons.mpr ⟨hd_pb b86 (by first | exact h3 | exact h3), List.forall_mem_cons.mpr ⟨hd_p3 t89 t88 h4, List.forall_mem_cons.mpr ⟨hd_p5 b85 t88 h5, List.forall_mem_cons.mpr ⟨hd_pb b86 (by first | exact h6 | exact h6), List.forall_mem_cons.mpr ⟨hd_p3 t90 b83 h7, fun _ h => absurd h List.not_mem_nil⟩⟩⟩⟩⟩⟩⟩⟩, ?_⟩
  refine k _ ?_ ?_ ?_ ?_ ?_ ?_
  · exact fun j hj _ => (hd_keep hB' (Nat.lt_of_lt_of_le hj (by decide +kernel)) (by simp)).trans (hF j (Nat.lt_of_lt_of_le hj (by decide)))
  · exact hd_gi (x := .inr (.inl 82)) (by decide +kernel) b82
  · exact hd_gi (x := .inr (.inl 83)) (by decide +kernel) b83
  · exact hd_gi (x := .inr (.inl 86)) (by decide +kernel) b86
  · exact hd_gi (x := .inr (.inl 88)) (by decide +kernel) t88
  · exact hd_gi (x := .inr (.inl 91)) (by decide +kernel) t91
theorem j3nnr_10_p5 {Ls : Nat} {xs : Nat → Int32} {d : Nat} {Q : Option Value → jm_h → Prop} (hd : 2 ≤ d) (F : Nat → sy_d) (X1 X2 : List jm_c) (hB : iv_in F iv_B0)
    (h0 : (sy_i F 86).toInt < (sy_i F 19).toInt)
    (h1 : 0 ≤ (sy_i F 86).toInt ∧ (sy_i F 86).toInt < 4)
    (h2 : (((sy_ai F 60).getD (sy_i F 86).toNatClampNeg 0) - (sy_i F 82)).toInt < 0)
    (h3 : 0 ≤ (sy_i F 86).toInt ∧ (sy_i F 86).toInt < 4)
    (h4 : ((sy_ai F 29).getD (sy_i F 86).toNatClampNeg 0).toInt < (0 - (((sy_ai F 60).getD (sy_i F 86).toNatClampNeg 0) - (sy_i F 82))).toInt)
    (k : ∀ F1 : Nat → sy_d, (∀ j, j < 82 → True → F1 j = F j) → F1 82 = .inl (.int (sy_i F 82)) → F1 83 = .inl (.int (sy_i F 83)) → F1 84 = .inl (.int (sy_i F 84)) → F1 85 = .inl (.int (sy_i F 85)) → F1 86 = .inl (.int ((sy_i F 86) + ((1 : Int32)))) → hd_W Ls xs d jm_M13 Q (10, sy_dL F1 [some (.inl (.ref 46)), some (.inl (.ref 20)), some (.inr (.inl 82)), some (.inr (.inl 83)), some (.inr (.inl 84)), some (.inr (.inl 85)), some (.inr (.inl 86)), none], sy_dS F1 [], sy_dh F1 X1 X2 (iv_H 3), 0, 0)) :
    hd_W Ls xs d jm_M13 Q (10, sy_dL F [some (.inl (.ref 46)), some (.inl (.ref 20)), some (.inr (.inl 82)), some (.inr (.inl 83)), some (.inr (.inl 84)), some (.inr (.inl 85)), some (.inr (.inl 86)), none], sy_dS F [], sy_dh F X1 X2 (iv_H 3), 0, 0) := by
  refine hd_run (s := 3) (nv := 87) (pc := 10) (L := [some (.inl (.ref 46)), some (.inl (.ref 20)), some (.inr (.inl 82)), some (.inr (.inl 83)), some (.inr (.inl 84)), some (.inr (.inl 85)), some (.inr (.inl 86)), none]) (S := []) (uh := hd_ov (iv_id 0 iv_B0) []) (ul := [.inl (.inr (.inl 82)), .inl (.inr (.inl 83)), .inl (.inr (.inl 84)), .inl (.inr (.inl 85)), .inl (.inr (.inl 91))]) (f := true) (sp := [10]) (d0 := 1) (O := [false, false, true]) (T := [(30, [.inr (.inl 86)], [.inr (.inl 60)]), (1, [.inr (.inl 87), .inr (.inl 82)], []), (20, [.inr (.inl 88)], []), (30, [.inr (.inl 86)], [.inr (.inl 29)]), (0, [.inr (.inl 86), .inl (.int 1)], [])]) (P := [(5, .inr (.inl 19), .inr (.inl 86)), (6, .inr (.inl 86), .inl (.ref 4)), (5, .inl (.int 0), .inr (.inl 88)), (6, .inr (.inl 86), .inl (.ref 4)), (2, .inr (.inl 90), .inr (.inl 89))]) jm_ok13 (by decide +kernel) (by decide +kernel) hd F X1 X2 (fun F' hF hs => ?_)
  have b19 := hd_b (F := F) (F' := F') (k := 19) (hF 19 (by decide))
  have b86 := hd_b (F := F) (F' := F') (k := 86) (hF 86 (by decide))
  have a60 := hd_ba (F := F) (F' := F') (k := 60) (hF 60 (by decide))
  have t87 : sy_dv F' (.inr (.inl 87)) = .int ((sy_ai F 60).getD (sy_i F 86).toNatClampNeg 0) := hd_rd (hs 0 _ rfl) b86 a60
  have b82 := hd_b (F := F) (F' := F') (k := 82) (hF 82 (by decide))
  have t88 : sy_dv F' (.inr (.inl 88)) = .int (((sy_ai F 60).getD (sy_i F 86).toNatClampNeg 0) - (sy_i F 82)) := hd_o (hs 1 _ rfl) t87 b82 rfl
  have a29 := hd_ba (F := F) (F' := F') (k := 29) (hF 29 (by decide))
  have t90 : sy_dv F' (.inr (.inl 90)) = .int ((sy_ai F 29).getD (sy_i F 86).toNatClampNeg 0) := hd_rd (hs 3 _ rfl) b86 a29
  have t89 : sy_dv F' (.inr (.inl 89)) = .int (0 - (((sy_ai F 60).getD (sy_i F 86).toNatClampNeg 0) - (sy_i F 82))) := hd_u (hs 2 _ rfl) t88 rfl
  have b83 := hd_b (F := F) (F' := F') (k := 83) (hF 83 (by decide))
  have b84 := hd_b (F := F) (F' := F') (k := 84) (hF 84 (by decide))
  have b85 := hd_b (F := F) (F' := F') (k := 85) (hF 85 (by decide))
  have t91 : sy_dv F' (.inr (.inl 91)) = .int ((sy_i F 86) + ((1 : Int32))) := hd_o (hs 4 _ rfl) b86 rfl rfl
  have hB' : iv_in F' iv_B0 := iv_in_eq hB (fun j hj => hF j (Nat.lt_of_lt_of_le hj (by decide +kernel)))
  refine ⟨List.forall_mem_cons.mpr ⟨hd_p5 b19 b86 h0, List.forall_mem_cons.mpr ⟨hd_pb b86 (by first | exact h1 | exact h1), List.forall_mem_cons.mpr ⟨hd_p5 rfl t88 (by have hc : ((0) : Int32).toInt = 0 := (by decide); omega), List.forall_mem_cons.mpr ⟨hd_pb b86 (by first | exact h3 | exact h3), List.forall_mem_cons.mpr ⟨hd_p2 t90 t89 h4, fun _ h => absurd h List.not_mem_nil⟩⟩⟩⟩⟩, ?_⟩
  refine k _ ?_ ?_ ?_ ?_ ?_ ?_
  · exact fun j hj _ => (hd_keep hB' (Nat.lt_of_lt_of_le hj (by decide +kernel)) (by simp)).trans (hF j (Nat.lt_of_lt_of_le hj (by decide)))
  · exact hd_gi (x := .inr (.inl 82)) (by decide +kernel) b82
  · exact hd_gi (x := .inr (.inl 83)) (by decide +kernel) b83
  · exact hd_gi (x := .inr (.inl 84)) (by decide +kernel) b84
  · exact hd_gi (x := .inr (.inl 85)) (by decide +kernel) b85
  · exact hd_gi (x := .inr (.inl 91)) (by decide +kernel) t91
theorem j3nnr_10_p6 {Ls : Nat} {xs : Nat → Int32} {d : Nat} {Q : Option Value → jm_h → Prop} (hd : 2 ≤ d) (F : Nat → sy_d) (X1 X2 : List jm_c) (hB : iv_in F iv_B0)
    (h0 : (sy_i F 86).toInt < (sy_i F 19).toInt)
    (h1 : 0 ≤ (sy_i F 86).toInt ∧ (sy_i F 86).toInt < 4)
    (h2 : (((sy_ai F 60).getD (sy_i F 86).toNatClampNeg 0) - (sy_i F 82)).toInt < 0)
    (h3 : 0 ≤ (sy_i F 86).toInt ∧ (sy_i F 86).toInt < 4)
    (h4 : (0 - (((sy_ai F 60).getD (sy_i F 86).toNatClampNeg 0) - (sy_i F 82))).toInt ≤ ((sy_ai F 29).getD (sy_i F 86).toNatClampNeg 0).toInt)
    (h5 : (sy_i F 85).toInt ≤ (0 - (((sy_ai F 60).getD (sy_i F 86).toNatClampNeg 0) - (sy_i F 82))).toInt)
    (k : ∀ F1 : Nat → sy_d, (∀ j, j < 82 → True → F1 j = F j) → F1 82 = .inl (.int (sy_i F 82)) → F1 83 = .inl (.int (sy_i F 83)) → F1 84 = .inl (.int (sy_i F 84)) → F1 85 = .inl (.int (sy_i F 85)) → F1 86 = .inl (.int ((sy_i F 86) + ((1 : Int32)))) → hd_W Ls xs d jm_M13 Q (10, sy_dL F1 [some (.inl (.ref 46)), some (.inl (.ref 20)), some (.inr (.inl 82)), some (.inr (.inl 83)), some (.inr (.inl 84)), some (.inr (.inl 85)), some (.inr (.inl 86)), none], sy_dS F1 [], sy_dh F1 X1 X2 (iv_H 3), 0, 0)) :
    hd_W Ls xs d jm_M13 Q (10, sy_dL F [some (.inl (.ref 46)), some (.inl (.ref 20)), some (.inr (.inl 82)), some (.inr (.inl 83)), some (.inr (.inl 84)), some (.inr (.inl 85)), some (.inr (.inl 86)), none], sy_dS F [], sy_dh F X1 X2 (iv_H 3), 0, 0) := by
  refine hd_run (s := 3) (nv := 87) (pc := 10) (L := [some (.inl (.ref 46)), some (.inl (.ref 20)), some (.inr (.inl 82)), some (.inr (.inl 83)), some (.inr (.inl 84)), some (.inr (.inl 85)), some (.inr (.inl 86)), none]) (S := []) (uh := hd_ov (iv_id 0 iv_B0) []) (ul := [.inl (.inr (.inl 82)), .inl (.inr (.inl 83)), .inl (.inr (.inl 84)), .inl (.inr (.inl 85)), .inl (.inr (.inl 91))]) (f := true) (sp := [10]) (d0 := 1) (O := [false, false, false, true]) (T := [(30, [.inr (.inl 86)], [.inr (.inl 60)]), (1, [.inr (.inl 87), .inr (.inl 82)], []), (20, [.inr (.inl 88)], []), (30, [.inr (.inl 86)], [.inr (.inl 29)]), (0, [.inr (.inl 86), .inl (.int 1)], [])]) (P := [(5, .inr (.inl 19), .inr (.inl 86)), (6, .inr (.inl 86), .inl (.ref 4)), (5, .inl (.int 0), .inr (.inl 88)), (6, .inr (.inl 86), .inl (.ref 4)), (3, .inr (.inl 90), .inr (.inl 89)), (4, .inr (.inl 85), .inr (.inl 89))]) jm_ok13 (by decide +kernel) (by decide +kernel) hd F X1 X2 (fun F' hF hs => ?_)
  have b19 := hd_b (F := F) (F' := F') (k := 19) (hF 19 (by decide))
  have b86 := hd_b (F := F) (F' := F') (k := 86) (hF 86 (by decide))
  have a60 := hd_ba (F := F) (F' := F') (k := 60) (hF 60 (by decide))
  have t87 : sy_dv F' (.inr (.inl 87)) = .int ((sy_ai F 60).getD (sy_i F 86).toNatClampNeg 0) := hd_rd (hs 0 _ rfl) b86 a60
  have b82 := hd_b (F := F) (F' := F') (k := 82) (hF 82 (by decide))
  have t88 : sy_dv F' (.inr (.inl 88)) = .int (((sy_ai F 60).getD (sy_i F 86).toNatClampNeg 0) - (sy_i F 82)) := hd_o (hs 1 _ rfl) t87 b82 rfl
  have a29 := hd_ba (F := F) (F' := F') (k := 29) (hF 29 (by decide))
  have t90 : sy_dv F' (.inr (.inl 90)) = .int ((sy_ai F 29).getD (sy_i F 86).toNatClampNeg 0) := hd_rd (hs 3 _ rfl) b86 a29
  have t89 : sy_dv F' (.inr (.inl 89)) = .int (0 - (((sy_ai F 60).getD (sy_i F 86).toNatClampNeg 0) - (sy_i F 82))) := hd_u (hs 2 _ rfl) t88 rfl
  have b85 := hd_b (F := F) (F' := F') (k := 85) (hF 85 (by decide))
  have b83 := hd_b (F := F) (F' := F') (k := 83) (hF 83 (by decide))
  have b84 := hd_b (F := F) (F' := F') (k := 84) (hF 84 (by decide))
  have t91 : sy_dv F' (.inr (.inl 91)) = .int ((sy_i F 86) + ((1 : Int32))) := hd_o (hs 4 _ rfl) b86 rfl rfl
  have hB' : iv_in F' iv_B0 := iv_in_eq hB (fun j hj => hF j (Nat.lt_of_lt_of_le hj (by decide +kernel)))
  refine ⟨List.forall_mem_cons.mpr ⟨hd_p5 b19 b86 h0, List.forall_mem_cons.mpr ⟨hd_pb b86 (by first | exact h1 | exact h1), List.forall_mem_cons.mpr ⟨hd_p5 rfl t88 (by have hc : ((0) : Int32).toInt = 0 := (by decide); omega), List.forall_mem_cons.mpr ⟨hd_pb b86 (by first | exact h3 | exact h3), List.forall_mem_cons.mpr ⟨hd_p3 t90 t89 h4, List.forall_mem_cons.mpr ⟨hd_p4 b85 t89 h5, fun _ h => absurd h List.not_mem_nil⟩⟩⟩⟩⟩⟩, ?_⟩
  refine k _ ?_ ?_ ?_ ?_ ?_ ?_
  · exact fun j hj _ => (hd_keep hB' (Nat.lt_of_lt_of_le hj (by decide +kernel)) (by simp)).trans (hF j (Nat.lt_of_lt_of_le hj (by decide)))
  · exact hd_gi (x := .inr (.inl 82)) (by decide +kernel) b82
  · exact hd_gi (x := .inr (.inl 83)) (by decide +kernel) b83
  · exact hd_gi (x := .inr (.inl 84)) (by decide +kernel) b84
  · exact hd_gi (x := .inr (.inl 85)) (by decide +kernel) b85
  · exact hd_gi (x := .inr (.inl 91)) (by decide +kernel) t91
theorem j3nnr_10_p7 {Ls : Nat} {xs : Nat → Int32} {d : Nat} {Q : Option Value → jm_h → Prop} (hd : 2 ≤ d) (F : Nat → sy_d) (X1 X2 : List jm_c) (hB : iv_in F iv_B0)
    (h0 : (sy_i F 86).toInt < (sy_i F 19).toInt)
    (h1 : 0 ≤ (sy_i F 86).toInt ∧ (sy_i F 86).toInt < 4)
    (h2 : (((sy_ai F 60).getD (sy_i F 86).toNatClampNeg 0) - (sy_i F 82)).toInt < 0)
    (h3 : 0 ≤ (sy_i F 86).toInt ∧ (sy_i F 86).toInt < 4)
    (h4 : (0 - (((sy_ai F 60).getD (sy_i F 86).toNatClampNeg 0) - (sy_i F 82))).toInt ≤ ((sy_ai F 29).getD (sy_i F 86).toNatClampNeg 0).toInt)
    (h5 : (0 - (((sy_ai F 60).getD (sy_i F 86).toNatClampNeg 0) - (sy_i F 82))).toInt < (sy_i F 85).toInt)
    (h6 : 0 ≤ (sy_i F 86).toInt ∧ (sy_i F 86).toInt < 4)
    (h7 : ((sy_ai F 61).getD (sy_i F 86).toNatClampNeg 0).toInt < (sy_i F 83).toInt)
    (k : ∀ F1 : Nat → sy_d, (∀ j, j < 82 → True → F1 j = F j) → F1 82 = .inl (.int (sy_i F 82)) → F1 83 = .inl (.int (sy_i F 83)) → F1 84 = .inl (.int (sy_i F 84)) → F1 85 = .inl (.int (sy_i F 85)) → F1 86 = .inl (.int ((sy_i F 86) + ((1 : Int32)))) → hd_W Ls xs d jm_M13 Q (10, sy_dL F1 [some (.inl (.ref 46)), some (.inl (.ref 20)), some (.inr (.inl 82)), some (.inr (.inl 83)), some (.inr (.inl 84)), some (.inr (.inl 85)), some (.inr (.inl 86)), none], sy_dS F1 [], sy_dh F1 X1 X2 (iv_H 3), 0, 0)) :
    hd_W Ls xs d jm_M13 Q (10, sy_dL F [some (.inl (.ref 46)), some (.inl (.ref 20)), some (.inr (.inl 82)), some (.inr (.inl 83)), some (.inr (.inl 84)), some (.inr (.inl 85)), some (.inr (.inl 86)), none], sy_dS F [], sy_dh F X1 X2 (iv_H 3), 0, 0) := by
  refine hd_run (s := 3) (nv := 87) (pc := 10) (L := [some (.inl (.ref 46)), some (.inl (.ref 20)), some (.inr (.inl 82)), some (.inr (.inl 83)), some (.inr (.inl 84)), some (.inr (.inl 85)), some (.inr (.inl 86)), none]) (S := []) (uh := hd_ov (iv_id 0 iv_B0) []) (ul := [.inl (.inr (.inl 82)), .inl (.inr (.inl 83)), .inl (.inr (.inl 84)), .inl (.inr (.inl 85)), .inl (.inr (.inl 92))]) (f := true) (sp := [10]) (d0 := 1) (O := [false, false, false, false, true]) (T := [(30, [.inr (.inl 86)], [.inr (.inl 60)]), (1, [.inr (.inl 87), .inr (.inl 82)], []), (20, [.inr (.inl 88)], []), (30, [.inr (.inl 86)], [.inr (.inl 29)]), (30, [.inr (.inl 86)], [.inr (.inl 61)]), (0, [.inr (.inl 86), .inl (.int 1)], [])]) (P := [(5, .inr (.inl 19), .inr (.inl 86)), (6, .inr (.inl 86), .inl (.ref 4)), (5, .inl (.int 0), .inr (.inl 88)), (6, .inr (.inl 86), .inl (.ref 4)), (3, .inr (.inl 90), .inr (.inl 89)), (5, .inr (.inl 85), .inr (.inl 89)), (6, .inr (.inl 86), .inl (.ref 4)), (2, .inr (.inl 91), .inr (.inl 83))]) jm_ok13 (by decide +kernel) (by decide +kernel) hd F X1 X2 (fun F' hF hs => ?_)
  have b19 := hd_b (F := F) (F' := F') (k := 19) (hF 19 (by decide))
  have b86 := hd_b (F := F) (F' := F') (k := 86) (hF 86 (by decide))
  have a60 := hd_ba (F := F) (F' := F') (k := 60) (hF 60 (by decide))
  have t87 : sy_dv F' (.inr (.inl 87)) = .int ((sy_ai F 60).getD (sy_i F 86).toNatClampNeg 0) := hd_rd (hs 0 _ rfl) b86 a60
  have b82 := hd_b (F := F) (F' := F') (k := 82) (hF 82 (by decide))
  have t88 : sy_dv F' (.inr (.inl 88)) = .int (((sy_ai F 60).getD (sy_i F 86).toNatClampNeg 0) - (sy_i F 82)) := hd_o (hs 1 _ rfl) t87 b82 rfl
  have a29 := hd_ba (F := F) (F' := F') (k := 29) (hF 29 (by decide))
  have t90 : sy_dv F' (.inr (.inl 90)) = .int ((sy_ai F 29).getD (sy_i F 86).toNatClampNeg 0) := hd_rd (hs 3 _ rfl) b86 a29
  have t89 : sy_dv F' (.inr (.inl 89)) = .int (0 - (((sy_ai F 60).getD (sy_i F 86).toNatClampNeg 0) - (sy_i F 82))) := hd_u (hs 2 _ rfl) t88 rfl
  have b85 := hd_b (F := F) (F' := F') (k := 85) (hF 85 (by decide))
  have a61 := hd_ba (F := F) (F' := F') (k := 61) (hF 61 (by decide))
  have t91 : sy_dv F' (.inr (.inl 91)) = .int ((sy_ai F 61).getD (sy_i F 86).toNatClampNeg 0) := hd_rd (hs 4 _ rfl) b86 a61
  have b83 := hd_b (F := F) (F' := F') (k := 83) (hF 83 (by decide))
  have b84 := hd_b (F := F) (F' := F') (k := 84) (hF 84 (by decide))
  have t92 : sy_dv F' (.inr (.inl 92)) = .int ((sy_i F 86) + ((1 : Int32))) := hd_o (hs 5 _ rfl) b86 rfl rfl
  have hB' : iv_in F' iv_B0 := iv_in_eq hB (fun j hj => hF j (Nat.lt_of_lt_of_le hj (by decide +kernel)))
  refine ⟨List.forall_mem_cons.mpr ⟨hd_p5 b19 b86 h0, List.forall_mem_cons.mpr ⟨hd_pb b86 (by first | exact h1 | exact h1), List.forall_mem_cons.mpr ⟨hd_p5 rfl t88 (by have hc : ((0) : Int32).toInt = 0 := (by decide); omega), List.forall_mem_cons.mpr ⟨hd_pb b86 (by first | exact h3 | exact h3), List.forall_mem_cons.mpr ⟨hd_p3 t90 t89 h4, List.forall_mem_cons.mpr ⟨hd_p5 b85 t89 h5, List.forall_mem_cons.mpr ⟨hd_pb b86 (by first | exact h6 | exact h6), List.forall_mem_cons.mpr ⟨hd_p2 t91 b83 h7, fun _ h => absurd h List.not_mem_nil⟩⟩⟩⟩⟩⟩⟩⟩, ?_⟩
  refine k _ ?_ ?_ ?_ ?_ ?_ ?_
  · exact fun j hj _ => (hd_keep hB' (Nat.lt_of_lt_of_le hj (by decide +kernel)) (by simp)).trans (hF j (Nat.lt_of_lt_of_le hj (by decide)))
  · exact hd_gi (x := .inr (.inl 82)) (by decide +kernel) b82
  · exact hd_gi (x := .inr (.inl 83)) (by decide +kernel) b83
  · exact hd_gi (x := .inr (.inl 84)) (by decide +kernel) b84
  · exact hd_gi (x := .inr (.inl 85)) (by decide +kernel) b85
  · exact hd_gi (x := .inr (.inl 92)) (by decide +kernel) t92
theorem j3nnr_10_p8 {Ls : Nat} {xs : Nat → Int32} {d : Nat} {Q : Option Value → jm_h → Prop} (hd : 2 ≤ d) (F : Nat → sy_d) (X1 X2 : List jm_c) (hB : iv_in F iv_B0)
    (h0 : (sy_i F 86).toInt < (sy_i F 19).toInt)
    (h1 : 0 ≤ (sy_i F 86).toInt ∧ (sy_i F 86).toInt < 4)
    (h2 : (((sy_ai F 60).getD (sy_i F 86).toNatClampNeg 0) - (sy_i F 82)).toInt < 0)
    (h3 : 0 ≤ (sy_i F 86).toInt ∧ (sy_i F 86).toInt < 4)
    (h4 : (0 - (((sy_ai F 60).getD (sy_i F 86).toNatClampNeg 0) - (sy_i F 82))).toInt ≤ ((sy_ai F 29).getD (sy_i F 86).toNatClampNeg 0).toInt)
    (h5 : (0 - (((sy_ai F 60).getD (sy_i F 86).toNatClampNeg 0) - (sy_i F 82))).toInt < (sy_i F 85).toInt)
    (h6 : 0 ≤ (sy_i F 86).toInt ∧ (sy_i F 86).toInt < 4)
    (h7 : (sy_i F 83).toInt ≤ ((sy_ai F 61).getD (sy_i F 86).toNatClampNeg 0).toInt)
    (k : ∀ F1 : Nat → sy_d, (∀ j, j < 82 → True → F1 j = F j) → F1 82 = .inl (.int (sy_i F 82)) → F1 83 = .inl (.int (sy_i F 83)) → F1 84 = .inl (.int (sy_i F 86)) → F1 85 = .inl (.int (0 - (((sy_ai F 60).getD (sy_i F 86).toNatClampNeg 0) - (sy_i F 82)))) → F1 86 = .inl (.int ((sy_i F 86) + ((1 : Int32)))) → hd_W Ls xs d jm_M13 Q (10, sy_dL F1 [some (.inl (.ref 46)), some (.inl (.ref 20)), some (.inr (.inl 82)), some (.inr (.inl 83)), some (.inr (.inl 84)), some (.inr (.inl 85)), some (.inr (.inl 86)), none], sy_dS F1 [], sy_dh F1 X1 X2 (iv_H 3), 0, 0)) :
    hd_W Ls xs d jm_M13 Q (10, sy_dL F [some (.inl (.ref 46)), some (.inl (.ref 20)), some (.inr (.inl 82)), some (.inr (.inl 83)), some (.inr (.inl 84)), some (.inr (.inl 85)), some (.inr (.inl 86)), none], sy_dS F [], sy_dh F X1 X2 (iv_H 3), 0, 0) := by
  refine hd_run (s := 3) (nv := 87) (pc := 10) (L := [some (.inl (.ref 46)), some (.inl (.ref 20)), some (.inr (.inl 82)), some (.inr (.inl 83)), some (.inr (.inl 84)), some (.inr (.inl 85)), some (.inr (.inl 86)), none]) (S := []) (uh := hd_ov (iv_id 0 iv_B0) []) (ul := [.inl (.inr (.inl 82)), .inl (.inr (.inl 83)), .inl (.inr (.inl 86)), .inl (.inr (.inl 89)), .inl (.inr (.inl 92))]) (f := true) (sp := [10]) (d0 := 1) (O := [false, false, false, false, false]) (T := [(30, [.inr (.inl 86)], [.inr (.inl 60)]), (1, [.inr (.inl 87), .inr (.inl 82)], []), (20, [.inr (.inl 88)], []), (30, [.inr (.inl 86)], [.inr (.inl 29)]), (30, [.inr (.inl 86)], [.inr (.inl 61)]), (0, [.inr (.inl 86), .inl (.int 1)], [])]) (P := [(5, .inr (.inl 19), .inr (.inl 86)), (6, .inr (.inl 86), .inl (.ref 4)), (5, .inl (.int 0), .inr (.inl 88)), (6, .inr (.inl 86), .inl (.ref 4)), (3, .inr (.inl 90), .inr (.inl 89)), (5, .inr (.inl 85), .inr (.inl 89)), (6, .inr (.inl 86), .inl (.ref 4)), (3, .inr (.inl 91), .inr (.inl 83))]) jm_ok13 (by decide +kernel) (by decide +kernel) hd F X1 X2 (fun F' hF hs => ?_)
  have b19 := hd_b (F := F) (F' := F') (k := 19) (hF 19 (by decide))
  have b86 := hd_b (F := F) (F' := F') (k := 86) (hF 86 (by decide))
  have a60 := hd_ba (F := F) (F' := F') (k := 60) (hF 60 (by decide))
  have t87 : sy_dv F' (.inr (.inl 87)) = .int ((sy_ai F 60).getD (sy_i F 86).toNatClampNeg 0) := hd_rd (hs 0 _ rfl) b86 a60
  have b82 := hd_b (F := F) (F' := F') (k := 82) (hF 82 (by decide))
  have t88 : sy_dv F' (.inr (.inl 88)) = .int (((sy_ai F 60).getD (sy_i F 86).toNatClampNeg 0) - (sy_i F 82)) := hd_o (hs 1 _ rfl) t87 b82 rfl
  have a29 := hd_ba (F := F) (F' := F') (k := 29) (hF 29 (by decide))
  have t90 : sy_dv F' (.inr (.inl 90)) = .int ((sy_ai F 29).getD (sy_i F 86).toNatClampNeg 0) := hd_rd (hs 3 _ rfl) b86 a29
  have t89 : sy_dv F' (.inr (.inl 89)) = .int (0 - (((sy_ai F 60).getD (sy_i F 86).toNatClampNeg 0) - (sy_i F 82))) := hd_u (hs 2 _ rfl) t88 rfl
  have b85 := hd_b (F := F) (F' := F') (k := 85) (hF 85 (by decide))
  have a61 := hd_ba (F := F) (F' := F') (k := 61) (hF 61 (by decide))
  have t91 : sy_dv F' (.inr (.inl 91)) = .int ((sy_ai F 61).getD (sy_i F 86).toNatClampNeg 0) := hd_rd (hs 4 _ rfl) b86 a61
  have b83 := hd_b (F := F) (F' := F') (k := 83) (hF 83 (by decide))
  have t92 : sy_dv F' (.inr (.inl 92)) = .int ((sy_i F 86) + ((1 : Int32))) := hd_o (hs 5 _ rfl) b86 rfl rfl
  have hB' : iv_in F' iv_B0 := iv_in_eq hB (fun j hj => hF j (Nat.lt_of_lt_of_le hj (by decide +kernel)))
  refine ⟨List.forall_mem_cons.mpr ⟨hd_p5 b19 b86 h0, List.forall_mem_cons.mpr ⟨hd_pb b86 (by first | exact h1 | exact h1), List.forall_mem_cons.mpr ⟨hd_p5 rfl t88 (by have hc : ((0) : Int32).toInt = 0 := (by decide); omega), List.forall_mem_cons.mpr ⟨hd_pb b86 (by first | exact h3 | exact h3), List.forall_mem_cons.mpr ⟨hd_p3 t90 t89 h4, List.forall_mem_cons.mpr ⟨hd_p5 b85 t89 h5, List.forall_mem_cons.mpr ⟨hd_pb b86 (by first | exact h6 | exact h6), List.forall_mem_cons.mpr ⟨hd_p3 t91 b83 h7, fun _ h => absurd h List.not_mem_nil⟩⟩⟩⟩⟩⟩⟩⟩, ?_⟩
  refine k _ ?_ ?_ ?_ ?_ ?_ ?_
  · exact fun j hj _ => (hd_keep hB' (Nat.lt_of_lt_of_le hj (by decide +kernel)) (by simp)).trans (hF j (Nat.lt_of_lt_of_le hj (by decide)))
  · exact hd_gi (x := .inr (.inl 82)) (by decide +kernel) b82
  · exact hd_gi (x := .inr (.inl 83)) (by decide +kernel) b83
  · exact hd_gi (x := .inr (.inl 86)) (by decide +kernel) b86
  · exact hd_gi (x := .inr (.inl 89)) (by decide +kernel) t89
  · exact hd_gi (x := .inr (.inl 92)) (by decide +kernel) t92
theorem j3nnr_10 {Ls : Nat} {xs : Nat → Int32} {d : Nat} {Q : Option Value → jm_h → Prop} (hd : 2 ≤ d) (F : Nat → sy_d) (X1 X2 : List jm_c) (hB : iv_in F iv_B0)
    (a86 : 0 ≤ (sy_i F 86).toInt ∧ (sy_i F 86).toInt ≤ 4)
    (k0 : (sy_i F 19).toInt ≤ (sy_i F 86).toInt → ∀ F1 : Nat → sy_d, iv_in F1 iv_B0 → (∀ j, j < 82 → j ∉ ([] : List Nat) → F1 j = F j) → Q (some (.int (sy_i F 84))) (sy_dh F1 X1 X2 (iv_H 3)))
    (k1 : (sy_i F 86).toInt < (sy_i F 19).toInt → 0 ≤ (((sy_ai F 60).getD ((sy_i F 86).toInt).toNat 0) - (sy_i F 82)).toInt → ((sy_ai F 29).getD ((sy_i F 86).toInt).toNat 0).toInt < (((sy_ai F 60).getD ((sy_i F 86).toInt).toNat 0) - (sy_i F 82)).toInt → ∀ F1 : Nat → sy_d, iv_in F1 iv_B0 → (∀ j, j < 82 → j ∉ ([] : List Nat) → F1 j = F j) → (sy_i F1 82).toInt = (sy_i F 82).toInt → sy_i F1 82 = sy_i F 82 → (sy_i F1 83).toInt = (sy_i F 83).toInt → sy_i F1 83 = sy_i F 83 → (sy_i F1 84).toInt = (sy_i F 84).toInt → sy_i F1 84 = sy_i F 84 → (sy_i F1 85).toInt = (sy_i F 85).toInt → sy_i F1 85 = sy_i F 85 → (sy_i F1 86).toInt = ((sy_i F 86).toInt + 1) → sy_i F1 86 = (sy_i F 86) + ((1 : Int32)) → hd_W Ls xs d jm_M13 Q (10, sy_dL F1 [some (.inl (.ref 46)), some (.inl (.ref 20)), some (.inr (.inl 82)), some (.inr (.inl 83)), some (.inr (.inl 84)), some (.inr (.inl 85)), some (.inr (.inl 86)), none], sy_dS F1 [], sy_dh F1 X1 X2 (iv_H 3), 0, 0))
    (k2 : (sy_i F 86).toInt < (sy_i F 19).toInt → 0 ≤ (((sy_ai F 60).getD ((sy_i F 86).toInt).toNat 0) - (sy_i F 82)).toInt → (((sy_ai F 60).getD ((sy_i F 86).toInt).toNat 0) - (sy_i F 82)).toInt ≤ ((sy_ai F 29).getD ((sy_i F 86).toInt).toNat 0).toInt → (sy_i F 85).toInt ≤ (((sy_ai F 60).getD ((sy_i F 86).toInt).toNat 0) - (sy_i F 82)).toInt → ∀ F1 : Nat → sy_d, iv_in F1 iv_B0 → (∀ j, j < 82 → j ∉ ([] : List Nat) → F1 j = F j) → (sy_i F1 82).toInt = (sy_i F 82).toInt → sy_i F1 82 = sy_i F 82 → (sy_i F1 83).toInt = (sy_i F 83).toInt → sy_i F1 83 = sy_i F 83 → (sy_i F1 84).toInt = (sy_i F 84).toInt → sy_i F1 84 = sy_i F 84 → (sy_i F1 85).toInt = (sy_i F 85).toInt → sy_i F1 85 = sy_i F 85 → (sy_i F1 86).toInt = ((sy_i F 86).toInt + 1) → sy_i F1 86 = (sy_i F 86) + ((1 : Int32)) → hd_W Ls xs d jm_M13 Q (10, sy_dL F1 [some (.inl (.ref 46)), some (.inl (.ref 20)), some (.inr (.inl 82)), some (.inr (.inl 83)), some (.inr (.inl 84)), some (.inr (.inl 85)), some (.inr (.inl 86)), none], sy_dS F1 [], sy_dh F1 X1 X2 (iv_H 3), 0, 0))
    (k3 : (sy_i F 86).toInt < (sy_i F 19).toInt → 0 ≤ (((sy_ai F 60).getD ((sy_i F 86).toInt).toNat 0) - (sy_i F 82)).toInt → (((sy_ai F 60).getD ((sy_i F 86).toInt).toNat 0) - (sy_i F 82)).toInt ≤ ((sy_ai F 29).getD ((sy_i F 86).toInt).toNat 0).toInt → (((sy_ai F 60).getD ((sy_i F 86).toInt).toNat 0) - (sy_i F 82)).toInt < (sy_i F 85).toInt → ((sy_ai F 61).getD ((sy_i F 86).toInt).toNat 0).toInt < (sy_i F 83).toInt → ∀ F1 : Nat → sy_d, iv_in F1 iv_B0 → (∀ j, j < 82 → j ∉ ([] : List Nat) → F1 j = F j) → (sy_i F1 82).toInt = (sy_i F 82).toInt → sy_i F1 82 = sy_i F 82 → (sy_i F1 83).toInt = (sy_i F 83).toInt → sy_i F1 83 = sy_i F 83 → (sy_i F1 84).toInt = (sy_i F 84).toInt → sy_i F1 84 = sy_i F 84 → (sy_i F1 85).toInt = (sy_i F 85).toInt → sy_i F1 85 = sy_i F 85 → (sy_i F1 86).toInt = ((sy_i F 86).toInt + 1) → sy_i F1 86 = (sy_i F 86) + ((1 : Int32)) → hd_W Ls xs d jm_M13 Q (10, sy_dL F1 [some (.inl (.ref 46)), some (.inl (.ref 20)), some (.inr (.inl 82)), some (.inr (.inl 83)), some (.inr (.inl 84)), some (.inr (.inl 85)), some (.inr (.inl 86)), none], sy_dS F1 [], sy_dh F1 X1 X2 (iv_H 3), 0, 0))
    (k4 : (sy_i F 86).toInt < (sy_i F 19).toInt → 0 ≤ (((sy_ai F 60).getD ((sy_i F 86).toInt).toNat 0) - (sy_i F 82)).toInt → (((sy_ai F 60).getD ((sy_i F 86).toInt).toNat 0) - (sy_i F 82)).toInt ≤ ((sy_ai F 29).getD ((sy_i F 86).toInt).toNat 0).toInt → (((sy_ai F 60).getD ((sy_i F 86).toInt).toNat 0) - (sy_i F 82)).toInt < (sy_i F 85).toInt → (sy_i F 83).toInt ≤ ((sy_ai F 61).getD ((sy_i F 86).toInt).toNat 0).toInt → ∀ F1 : Nat → sy_d, iv_in F1 iv_B0 → (∀ j, j < 82 → j ∉ ([] : List Nat) → F1 j = F j) → (sy_i F1 82).toInt = (sy_i F 82).toInt → sy_i F1 82 = sy_i F 82 → (sy_i F1 83).toInt = (sy_i F 83).toInt → sy_i F1 83 = sy_i F 83 → (sy_i F1 84).toInt = (sy_i F 86).toInt → sy_i F1 84 = sy_i F 86 → (sy_i F1 85).toInt = (((sy_ai F 60).getD ((sy_i F 86).toInt).toNat 0) - (sy_i F 82)).toInt → sy_i F1 85 = ((sy_ai F 60).getD ((sy_i F 86).toInt).toNat 0) - (sy_i F 82) → (sy_i F1 86).toInt = ((sy_i F 86).toInt + 1) → sy_i F1 86 = (sy_i F 86) + ((1 : Int32)) → hd_W Ls xs d jm_M13 Q (10, sy_dL F1 [some (.inl (.ref 46)), some (.inl (.ref 20)), some (.inr (.inl 82)), some (.inr (.inl 83)), some (.inr (.inl 84)), some (.inr (.inl 85)), some (.inr (.inl 86)), none], sy_dS F1 [], sy_dh F1 X1 X2 (iv_H 3), 0, 0))
    (k5 : (sy_i F 86).toInt < (sy_i F 19).toInt → (((sy_ai F 60).getD ((sy_i F 86).toInt).toNat 0) - (sy_i F 82)).toInt < 0 → ((sy_ai F 29).getD ((sy_i F 86).toInt).toNat 0).toInt < (0 - (((sy_ai F 60).getD ((sy_i F 86).toInt).toNat 0) - (sy_i F 82))).toInt → ∀ F1 : Nat → sy_d, iv_in F1 iv_B0 → (∀ j, j < 82 → j ∉ ([] : List Nat) → F1 j = F j) → (sy_i F1 82).toInt = (sy_i F 82).toInt → sy_i F1 82 = sy_i F 82 → (sy_i F1 83).toInt = (sy_i F 83).toInt → sy_i F1 83 = sy_i F 83 → (sy_i F1 84).toInt = (sy_i F 84).toInt → sy_i F1 84 = sy_i F 84 → (sy_i F1 85).toInt = (sy_i F 85).toInt → sy_i F1 85 = sy_i F 85 → (sy_i F1 86).toInt = ((sy_i F 86).toInt + 1) → sy_i F1 86 = (sy_i F 86) + ((1 : Int32)) → hd_W Ls xs d jm_M13 Q (10, sy_dL F1 [some (.inl (.ref 46)), some (.inl (.ref 20)), some (.inr (.inl 82)), some (.inr (.inl 83)), some (.inr (.inl 84)), some (.inr (.inl 85)), some (.inr (.inl 86)), none], sy_dS F1 [], sy_dh F1 X1 X2 (iv_H 3), 0, 0))
    (k6 : (sy_i F 86).toInt < (sy_i F 19).toInt → (((sy_ai F 60).getD ((sy_i F 86).toInt).toNat 0) - (sy_i F 82)).toInt < 0 → (0 - (((sy_ai F 60).getD ((sy_i F 86).toInt).toNat 0) - (sy_i F 82))).toInt ≤ ((sy_ai F 29).getD ((sy_i F 86).toInt).toNat 0).toInt → (sy_i F 85).toInt ≤ (0 - (((sy_ai F 60).getD ((sy_i F 86).toInt).toNat 0) - (sy_i F 82))).toInt → ∀ F1 : Nat → sy_d, iv_in F1 iv_B0 → (∀ j, j < 82 → j ∉ ([] : List Nat) → F1 j = F j) → (sy_i F1 82).toInt = (sy_i F 82).toInt → sy_i F1 82 = sy_i F 82 → (sy_i F1 83).toInt = (sy_i F 83).toInt → sy_i F1 83 = sy_i F 83 → (sy_i F1 84).toInt = (sy_i F 84).toInt → sy_i F1 84 = sy_i F 84 → (sy_i F1 85).toInt = (sy_i F 85).toInt → sy_i F1 85 = sy_i F 85 → (sy_i F1 86).toInt = ((sy_i F 86).toInt + 1) → sy_i F1 86 = (sy_i F 86) + ((1 : Int32)) → hd_W Ls xs d jm_M13 Q (10, sy_dL F1 [some (.inl (.ref 46)), some (.inl (.ref 20)), some (.inr (.inl 82)), some (.inr (.inl 83)), some (.inr (.inl 84)), some (.inr (.inl 85)), some (.inr (.inl 86)), none], sy_dS F1 [], sy_dh F1 X1 X2 (iv_H 3), 0, 0))
    (k7 : (sy_i F 86).toInt < (sy_i F 19).toInt → (((sy_ai F 60).getD ((sy_i F 86).toInt).toNat 0) - (sy_i F 82)).toInt < 0 → (0 - (((sy_ai F 60).getD ((sy_i F 86).toInt).toNat 0) - (sy_i F 82))).toInt ≤ ((sy_ai F 29).getD ((sy_i F 86).toInt).toNat 0).toInt → (0 - (((sy_ai F 60).getD ((sy_i F 86).toInt).toNat 0) - (sy_i F 82))).toInt < (sy_i F 85).toInt → ((sy_ai F 61).getD ((sy_i F 86).toInt).toNat 0).toInt < (sy_i F 83).toInt → ∀ F1 : Nat → sy_d, iv_in F1 iv_B0 → (∀ j, j < 82 → j ∉ ([] : List Nat) → F1 j = F j) → (sy_i F1 82).toInt = (sy_i F 82).toInt → sy_i F1 82 = sy_i F 82 → (sy_i F1 83).toInt = (sy_i F 83).toInt → sy_i F1 83 = sy_i F 83 → (sy_i F1 84).toInt = (sy_i F 84).toInt → sy_i F1 84 = sy_i F 84 → (sy_i F1 85).toInt = (sy_i F 85).toInt → sy_i F1 85 = sy_i F 85 → (sy_i F1 86).toInt = ((sy_i F 86).toInt + 1) → sy_i F1 86 = (sy_i F 86) + ((1 : Int32)) → hd_W Ls xs d jm_M13 Q (10, sy_dL F1 [some (.inl (.ref 46)), some (.inl (.ref 20)), some (.inr (.inl 82)), some (.inr (.inl 83)), some (.inr (.inl 84)), some (.inr (.inl 85)), some (.inr (.inl 86)), none], sy_dS F1 [], sy_dh F1 X1 X2 (iv_H 3), 0, 0))
    (k8 : (sy_i F 86).toInt < (sy_i F 19).toInt → (((sy_ai F 60).getD ((sy_i F 86).toInt).toNat 0) - (sy_i F 82)).toInt < 0 → (0 - (((sy_ai F 60).getD ((sy_i F 86).toInt).toNat 0) - (sy_i F 82))).toInt ≤ ((sy_ai F 29).getD ((sy_i F 86).toInt).toNat 0).toInt → (0 - (((sy_ai F 60).getD ((sy_i F 86).toInt).toNat 0) - (sy_i F 82))).toInt < (sy_i F 85).toInt → (sy_i F 83).toInt ≤ ((sy_ai F 61).getD ((sy_i F 86).toInt).toNat 0).toInt → ∀ F1 : Nat → sy_d, iv_in F1 iv_B0 → (∀ j, j < 82 → j ∉ ([] : List Nat) → F1 j = F j) → (sy_i F1 82).toInt = (sy_i F 82).toInt → sy_i F1 82 = sy_i F 82 → (sy_i F1 83).toInt = (sy_i F 83).toInt → sy_i F1 83 = sy_i F 83 → (sy_i F1 84).toInt = (sy_i F 86).toInt → sy_i F1 84 = sy_i F 86 → (sy_i F1 85).toInt = (0 - (((sy_ai F 60).getD ((sy_i F 86).toInt).toNat 0) - (sy_i F 82))).toInt → sy_i F1 85 = 0 - (((sy_ai F 60).getD ((sy_i F 86).toInt).toNat 0) - (sy_i F 82)) → (sy_i F1 86).toInt = ((sy_i F 86).toInt + 1) → sy_i F1 86 = (sy_i F 86) + ((1 : Int32)) → hd_W Ls xs d jm_M13 Q (10, sy_dL F1 [some (.inl (.ref 46)), some (.inl (.ref 20)), some (.inr (.inl 82)), some (.inr (.inl 83)), some (.inr (.inl 84)), some (.inr (.inl 85)), some (.inr (.inl 86)), none], sy_dS F1 [], sy_dh F1 X1 X2 (iv_H 3), 0, 0)) :
    hd_W Ls xs d jm_M13 Q (10, sy_dL F [some (.inl (.ref 46)), some (.inl (.ref 20)), some (.inr (.inl 82)), some (.inr (.inl 83)), some (.inr (.inl 84)), some (.inr (.inl 85)), some (.inr (.inl 86)), none], sy_dS F [], sy_dh F X1 X2 (iv_H 3), 0, 0) := by
  by_cases g0 : (sy_i F 19).toInt ≤ (sy_i F 86).toInt
  · have c19 := nz_bx hB (k := 19) (lo := 0) (hi := 4) rfl
    exact j3nnr_10_p0 hd F X1 X2 hB (by first | exact g0 | (simp only [nz_c]; exact g0)) (fun F1 g  => by rw [(rfl : sy_i F 84 = sy_i F 84)]; exact k0 g0 F1 (nz_in0 hB [] (fun j hj hn => g j hj (by simp only [List.mem_cons, List.not_mem_nil, or_false, not_or] at hn; exact trivial)) (List.forall_mem_nil _)) (fun j hj hn => g j hj (by simp only [List.mem_cons, List.not_mem_nil, or_false, not_or] at hn; exact trivial)) )
  replace g0 : (sy_i F 86).toInt < (sy_i F 19).toInt := by omega
  by_cases g1 : 0 ≤ (((sy_ai F 60).getD ((sy_i F 86).toInt).toNat 0) - (sy_i F 82)).toInt
  · by_cases g2 : ((sy_ai F 29).getD ((sy_i F 86).toInt).toNat 0).toInt < (((sy_ai F 60).getD ((sy_i F 86).toInt).toNat 0) - (sy_i F 82)).toInt
    · have c19 := nz_bx hB (k := 19) (lo := 0) (hi := 4) rfl
      have q88 : ((sy_ai F 60).getD (sy_i F 86).toNatClampNeg 0) - (sy_i F 82) = ((sy_ai F 60).getD ((sy_i F 86).toInt).toNat 0) - (sy_i F 82) := by simp only [nz_c]
      have n88 : nzI (((sy_ai F 60).getD (sy_i F 86).toNatClampNeg 0) - (sy_i F 82)) ((((sy_ai F 60).getD ((sy_i F 86).toInt).toNat 0) - (sy_i F 82)).toInt) := congrArg Int32.toInt q88
      have q89 : (sy_ai F 29).getD (sy_i F 86).toNatClampNeg 0 = (sy_ai F 29).getD ((sy_i F 86).toInt).toNat 0 := by simp only [nz_c]
      have n89 : nzI ((sy_ai F 29).getD (sy_i F 86).toNatClampNeg 0) (((sy_ai F 29).getD ((sy_i F 86).toInt).toNat 0).toInt) := congrArg Int32.toInt q89
      have n90 : nzI ((sy_i F 86) + ((1 : Int32))) (((sy_i F 86).toInt + 1)) := nz_add (rfl : (sy_i F 86).toInt = (sy_i F 86).toInt) (by decide : ((1 : Int32)).toInt = 1) (by omega) (by omega)
      exact j3nnr_10_p1 hd F X1 X2 hB (by first | exact g0 | (simp only [nz_c]; exact g0)) (by first | exact ⟨by omega, by omega⟩ | (simp only [nz_c]; exact ⟨by omega, by omega⟩)) (by first | exact g1 | (simp only [nz_c]; exact g1) | (rw [(nzE n88)]; exact g1)) (by first | exact ⟨by omega, by omega⟩ | (simp only [nz_c]; exact ⟨by omega, by omega⟩)) (by first | exact g2 | (simp only [nz_c]; exact g2) | (rw [(nzE n89)]; exact g2) | (rw [(nzE n88)]; exact g2) | (rw [(nzE n89), (nzE n88)]; exact g2)) (fun F1 g e82 e83 e84 e85 e86 => k1 g0 g1 g2 F1 (nz_in0 hB [] (fun j hj hn => g j hj (by simp only [List.mem_cons, List.not_mem_nil, or_false, not_or] at hn; exact trivial)) (List.forall_mem_nil _)) (fun j hj hn => g j hj (by simp only [List.mem_cons, List.not_mem_nil, or_false, not_or] at hn; exact trivial)) ((congrArg Int32.toInt (zz_i e82)).trans (rfl : (sy_i F 82).toInt = (sy_i F 82).toInt)) ((zz_i e82).trans (rfl : sy_i F 82 = sy_i F 82)) ((congrArg Int32.toInt (zz_i e83)).trans (rfl : (sy_i F 83).toInt = (sy_i F 83).toInt)) ((zz_i e83).trans (rfl : sy_i F 83 = sy_i F 83)) ((congrArg Int32.toInt (zz_i e84)).trans (rfl : (sy_i F 84).toInt = (sy_i F 84).toInt)) ((zz_i e84).trans (rfl : sy_i F 84 = sy_i F 84)) ((congrArg Int32.toInt (zz_i e85)).trans (rfl : (sy_i F 85).toInt = (sy_i F 85).toInt)) ((zz_i e85).trans (rfl : sy_i F 85 = sy_i F 85)) ((congrArg Int32.toInt (zz_i e86)).trans (nzE n90)) ((zz_i e86).trans (rfl : (sy_i F 86) + ((1 : Int32)) = (sy_i F 86) + ((1 : Int32)))))
    replace g2 : (((sy_ai F 60).getD ((sy_i F 86).toInt).toNat 0) - (sy_i F 82)).toInt ≤ ((sy_ai F 29).getD ((sy_i F 86).toInt).toNat 0).toInt := by omega
    by_cases g3 : (sy_i F 85).toInt ≤ (((sy_ai F 60).getD ((sy_i F 86).toInt).toNat 0) - (sy_i F 82)).toInt
    · have c19 := nz_bx hB (k := 19) (lo := 0) (hi := 4) rfl
      have q88 : ((sy_ai F 60).getD (sy_i F 86).toNatClampNeg 0) - (sy_i F 82) = ((sy_ai F 60).getD ((sy_i F 86).toInt).toNat 0) - (sy_i F 82) := by simp only [nz_c]
      have n88 : nzI (((sy_ai F 60).getD (sy_i F 86).toNatClampNeg 0) - (sy_i F 82)) ((((sy_ai F 60).getD ((sy_i F 86).toInt).toNat 0) - (sy_i F 82)).toInt) := congrArg Int32.toInt q88
      have q89 : (sy_ai F 29).getD (sy_i F 86).toNatClampNeg 0 = (sy_ai F 29).getD ((sy_i F 86).toInt).toNat 0 := by simp only [nz_c]
      have n89 : nzI ((sy_ai F 29).getD (sy_i F 86).toNatClampNeg 0) (((sy_ai F 29).getD ((sy_i F 86).toInt).toNat 0).toInt) := congrArg Int32.toInt q89
      have n90 : nzI ((sy_i F 86) + ((1 : Int32))) (((sy_i F 86).toInt + 1)) := nz_add (rfl : (sy_i F 86).toInt = (sy_i F 86).toInt) (by decide : ((1 : Int32)).toInt = 1) (by omega) (by omega)
      exact j3nnr_10_p2 hd F X1 X2 hB (by first | exact g0 | (simp only [nz_c]; exact g0)) (by first | exact ⟨by omega, by omega⟩ | (simp only [nz_c]; exact ⟨by omega, by omega⟩)) (by first | exact g1 | (simp only [nz_c]; exact g1) | (rw [(nzE n88)]; exact g1)) (by first | exact ⟨by omega, by omega⟩ | (simp only [nz_c]; exact ⟨by omega, by omega⟩)) (by first | exact g2 | (simp only [nz_c]; exact g2) | (rw [(nzE n89)]; exact g2) | (rw [(nzE n88)]; exact g2) | (rw [(nzE n89), (nzE n88)]; exact g2)) (by first | exact g3 | (simp only [nz_c]; exact g3) | (rw [(nzE n88)]; exact g3)) (fun F1 g e82 e83 e84 e85 e86 => k2 g0 g1 g2 g3 F1 (nz_in0 hB [] (fun j hj hn => g j hj (by simp only [List.mem_cons, List.not_mem_nil, or_false, not_or] at hn; exact trivial)) (List.forall_mem_nil _)) (fun j hj hn => g j hj (by simp only [List.mem_cons, List.not_mem_nil, or_false, not_or] at hn; exact trivial)) ((congrArg Int32.toInt (zz_i e82)).trans (rfl : (sy_i F 82).toInt = (sy_i F 82).toInt)) ((zz_i e82).trans (rfl : sy_i F 82 = sy_i F 82)) ((congrArg Int32.toInt (zz_i e83)).trans (rfl : (sy_i F 83).toInt = (sy_i F 83).toInt)) ((zz_i e83).trans (rfl : sy_i F 83 = sy_i F 83)) ((congrArg Int32.toInt (zz_i e84)).trans (rfl : (sy_i F 84).toInt = (sy_i F 84).toInt)) ((zz_i e84).trans (rfl : sy_i F 84 = sy_i F 84)) ((congrArg Int32.toInt (zz_i e85)).trans (rfl : (sy_i F 85).toInt = (sy_i F 85).toInt)) ((zz_i e85).trans (rfl : sy_i F 85 = sy_i F 85)) ((congrArg Int32.toInt (zz_i e86)).trans (nzE n90)) ((zz_i e86).trans (rfl : (sy_i F 86) + ((1 : Int32)) = (sy_i F 86) + ((1 : Int32)))))
    replace g3 : (((sy_ai F 60).getD ((sy_i F 86).toInt).toNat 0) - (sy_i F 82)).toInt < (sy_i F 85).toInt := by omega
    by_cases g4 : ((sy_ai F 61).getD ((sy_i F 86).toInt).toNat 0).toInt < (sy_i F 83).toInt
    · have c19 := nz_bx hB (k := 19) (lo := 0) (hi := 4) rfl
      have q88 : ((sy_ai F 60).getD (sy_i F 86).toNatClampNeg 0) - (sy_i F 82) = ((sy_ai F 60).getD ((sy_i F 86).toInt).toNat 0) - (sy_i F 82) := by simp only [nz_c]
      have n88 : nzI (((sy_ai F 60).getD (sy_i F 86).toNatClampNeg 0) - (sy_i F 82)) ((((sy_ai F 60).getD ((sy_i F 86).toInt).toNat 0) - (sy_i F 82)).toInt) := congrArg Int32.toInt q88
      have q89 : (sy_ai F 29).getD (sy_i F 86).toNatClampNeg 0 = (sy_ai F 29).getD ((sy_i F 86).toInt).toNat 0 := by simp only [nz_c]
      have n89 : nzI ((sy_ai F 29).getD (sy_i F 86).toNatClampNeg 0) (((sy_ai F 29).getD ((sy_i F 86).toInt).toNat 0).toInt) := congrArg Int32.toInt q89
      have q90 : (sy_ai F 61).getD (sy_i F 86).toNatClampNeg 0 = (sy_ai F 61).getD ((sy_i F 86).toInt).toNat 0 := by simp only [nz_c]
      have n90 : nzI ((sy_ai F 61).getD (sy_i F 86).toNatClampNeg 0) (((sy_ai F 61).getD ((sy_i F 86).toInt).toNat 0).toInt) := congrArg Int32.toInt q90
      have n91 : nzI ((sy_i F 86) + ((1 : Int32))) (((sy_i F 86).toInt + 1)) := nz_add (rfl : (sy_i F 86).toInt = (sy_i F 86).toInt) (by decide : ((1 : Int32)).toInt = 1) (by omega) (by omega)
      exact j3nnr_10_p3 hd F X1 X2 hB (by first | exact g0 | (simp only [nz_c]; exact g0)) (by first | exact ⟨by omega, by omega⟩ | (simp only [nz_c]; exact ⟨by omega, by omega⟩)) (by first | exact g1 | (simp only [nz_c]; exact g1) | (rw [(nzE n88)]; exact g1)) (by first | exact ⟨by omega, by omega⟩ | (simp only [nz_c]; exact ⟨by omega, by omega⟩)) (by first | exact g2 | (simp only [nz_c]; exact g2) | (rw [(nzE n89)]; exact g2) | (rw [(nzE n88)]; exact g2) | (rw [(nzE n89), (nzE n88)]; exact g2)) (by first | exact g3 | (simp only [nz_c]; exact g3) | (rw [(nzE n88)]; exact g3)) (by first | exact ⟨by omega, by omega⟩ | (simp only [nz_c]; exact ⟨by omega, by omega⟩)) (by first | exact g4 | (simp only [nz_c]; exact g4) | (rw [(nzE n90)]; exact g4)) (fun F1 g e82 e83 e84 e85 e86 => k3 g0 g1 g2 g3 g4 F1 (nz_in0 hB [] (fun j hj hn => g j hj (by simp only [List.mem_cons, List.not_mem_nil, or_false, not_or] at hn; exact trivial)) (List.forall_mem_nil _)) (fun j hj hn => g j hj (by simp only [List.mem_cons, List.not_mem_nil, or_false, not_or] at hn; exact trivial)) ((congrArg Int32.toInt (zz_i e82)).trans (rfl : (sy_i F 82).toInt = (sy_i F 82).toInt)) ((zz_i e82).trans (rfl : sy_i F 82 = sy_i F 82)) ((congrArg Int32.toInt (zz_i e83)).trans (rfl : (sy_i F 83).toInt = (sy_i F 83).toInt)) ((zz_i e83).trans (rfl : sy_i F 83 = sy_i F 83)) ((congrArg Int32.toInt (zz_i e84)).trans (rfl : (sy_i F 84).toInt = (sy_i F 84).toInt)) ((zz_i e84).trans (rfl : sy_i F 84 = sy_i F 84)) ((congrArg Int32.toInt (zz_i e85)).trans (rfl : (sy_i F 85).toInt = (sy_i F 85).toInt)) ((zz_i e85).trans (rfl : sy_i F 85 = sy_i F 85)) ((congrArg Int32.toInt (zz_i e86)).trans (nzE n91)) ((zz_i e86).trans (rfl : (sy_i F 86) + ((1 : Int32)) = (sy_i F 86) + ((1 : Int32)))))
    replace g4 : (sy_i F 83).toInt ≤ ((sy_ai F 61).getD ((sy_i F 86).toInt).toNat 0).toInt := by omega
    have c19 := nz_bx hB (k := 19) (lo := 0) (hi := 4) rfl
    have q88 : ((sy_ai F 60).getD (sy_i F 86).toNatClampNeg 0) - (sy_i F 82) = ((sy_ai F 60).getD ((sy_i F 86).toInt).toNat 0) - (sy_i F 82) := by simp only [nz_c]
    have n88 : nzI (((sy_ai F 60).getD (sy_i F 86).toNatClampNeg 0) - (sy_i F 82)) ((((sy_ai F 60).getD ((sy_i F 86).toInt).toNat 0) - (sy_i F 82)).toInt) := congrArg Int32.toInt q88
    have q89 : (sy_ai F 29).getD (sy_i F 86).toNatClampNeg 0 = (sy_ai F 29).getD ((sy_i F 86).toInt).toNat 0 := by simp only [nz_c]
    have n89 : nzI ((sy_ai F 29).getD (sy_i F 86).toNatClampNeg 0) (((sy_ai F 29).getD ((sy_i F 86).toInt).toNat 0).toInt) := congrArg Int32.toInt q89
    have q90 : (sy_ai F 61).getD (sy_i F 86).toNatClampNeg 0 = (sy_ai F 61).getD ((sy_i F 86).toInt).toNat 0 := by simp only [nz_c]
    have n90 : nzI ((sy_ai F 61).getD (sy_i F 86).toNatClampNeg 0) (((sy_ai F 61).getD ((sy_i F 86).toInt).toNat 0).toInt) := congrArg Int32.toInt q90
    have n91 : nzI ((sy_i F 86) + ((1 : Int32))) (((sy_i F 86).toInt + 1)) := nz_add (rfl : (sy_i F 86).toInt = (sy_i F 86).toInt) (by decide : ((1 : Int32)).toInt = 1) (by omega) (by omega)
    exact j3nnr_10_p4 hd F X1 X2 hB (by first | exact g0 | (simp only [nz_c]; exact g0)) (by first | exact ⟨by omega, by omega⟩ | (simp only [nz_c]; exact ⟨by omega, by omega⟩)) (by first | exact g1 | (simp only [nz_c]; exact g1) | (rw [(nzE n88)]; exact g1)) (by first | exact ⟨by omega, by omega⟩ | (simp only [nz_c]; exact ⟨by omega, by omega⟩)) (by first | exact g2 | (simp only [nz_c]; exact g2) | (rw [(nzE n89)]; exact g2) | (rw [(nzE n88)]; exact g2) | (rw [(nzE n89), (nzE n88)]; exact g2)) (by first | exact g3 | (simp only [nz_c]; exact g3) | (rw [(nzE n88)]; exact g3)) (by first | exact ⟨by omega, by omega⟩ | (simp only [nz_c]; exact ⟨by omega, by omega⟩)) (by first | exact g4 | (simp only [nz_c]; exact g4) | (rw [(nzE n90)]; exact g4)) (fun F1 g e82 e83 e84 e85 e86 => k4 g0 g1 g2 g3 g4 F1 (nz_in0 hB [] (fun j hj hn => g j hj (by simp only [List.mem_cons, List.not_mem_nil, or_false, not_or] at hn; exact trivial)) (List.forall_mem_nil _)) (fun j hj hn => g j hj (by simp only [List.mem_cons, List.not_mem_nil, or_false, not_or] at hn; exact trivial)) ((congrArg Int32.toInt (zz_i e82)).trans (rfl : (sy_i F 82).toInt = (sy_i F 82).toInt)) ((zz_i e82).trans (rfl : sy_i F 82 = sy_i F 82)) ((congrArg Int32.toInt (zz_i e83)).trans (rfl : (sy_i F 83).toInt = (sy_i F 83).toInt)) ((zz_i e83).trans (rfl : sy_i F 83 = sy_i F 83)) ((congrArg Int32.toInt (zz_i e84)).trans (rfl : (sy_i F 86).toInt = (sy_i F 86).toInt)) ((zz_i e84).trans (rfl : sy_i F 86 = sy_i F 86)) ((congrArg Int32.toInt (zz_i e85)).trans (nzE n88)) ((zz_i e85).trans q88) ((congrArg Int32.toInt (zz_i e86)).trans (nzE n91)) ((zz_i e86).trans (rfl : (sy_i F 86) + ((1 : Int32)) = (sy_i F 86) + ((1 : Int32)))))
  replace g1 : (((sy_ai F 60).getD ((sy_i F 86).toInt).toNat 0) - (sy_i F 82)).toInt < 0 := by omega
  by_cases g2 : ((sy_ai F 29).getD ((sy_i F 86).toInt).toNat 0).toInt < (0 - (((sy_ai F 60).getD ((sy_i F 86).toInt).toNat 0) - (sy_i F 82))).toInt
  · have c19 := nz_bx hB (k := 19) (lo := 0) (hi := 4) rfl
    have q88 : ((sy_ai F 60).getD (sy_i F 86).toNatClampNeg 0) - (sy_i F 82) = ((sy_ai F 60).getD ((sy_i F 86).toInt).toNat 0) - (sy_i F 82) := by simp only [nz_c]
    have n88 : nzI (((sy_ai F 60).getD (sy_i F 86).toNatClampNeg 0) - (sy_i F 82)) ((((sy_ai F 60).getD ((sy_i F 86).toInt).toNat 0) - (sy_i F 82)).toInt) := congrArg Int32.toInt q88
    have q90 : (sy_ai F 29).getD (sy_i F 86).toNatClampNeg 0 = (sy_ai F 29).getD ((sy_i F 86).toInt).toNat 0 := by simp only [nz_c]
    have n90 : nzI ((sy_ai F 29).getD (sy_i F 86).toNatClampNeg 0) (((sy_ai F 29).getD ((sy_i F 86).toInt).toNat 0).toInt) := congrArg Int32.toInt q90
    have q89 : 0 - (((sy_ai F 60).getD (sy_i F 86).toNatClampNeg 0) - (sy_i F 82)) = 0 - (((sy_ai F 60).getD ((sy_i F 86).toInt).toNat 0) - (sy_i F 82)) := by simp only [nz_c]
    have n89 : nzI (0 - (((sy_ai F 60).getD (sy_i F 86).toNatClampNeg 0) - (sy_i F 82))) ((0 - (((sy_ai F 60).getD ((sy_i F 86).toInt).toNat 0) - (sy_i F 82))).toInt) := congrArg Int32.toInt q89
    have n91 : nzI ((sy_i F 86) + ((1 : Int32))) (((sy_i F 86).toInt + 1)) := nz_add (rfl : (sy_i F 86).toInt = (sy_i F 86).toInt) (by decide : ((1 : Int32)).toInt = 1) (by omega) (by omega)
    exact j3nnr_10_p5 hd F X1 X2 hB (by first | exact g0 | (simp only [nz_c]; exact g0)) (by first | exact ⟨by omega, by omega⟩ | (simp only [nz_c]; exact ⟨by omega, by omega⟩)) (by first | exact g1 | (simp only [nz_c]; exact g1) | (rw [(nzE n88)]; exact g1)) (by first | exact ⟨by omega, by omega⟩ | (simp only [nz_c]; exact ⟨by omega, by omega⟩)) (by first | exact g2 | (simp only [nz_c]; exact g2) | (rw [(nzE n90)]; exact g2) | (rw [(nzE n89)]; exact g2) | (rw [(nzE n90), (nzE n89)]; exact g2)) (fun F1 g e82 e83 e84 e85 e86 => k5 g0 g1 g2 F1 (nz_in0 hB [] (fun j hj hn => g j hj (by simp only [List.mem_cons, List.not_mem_nil, or_false, not_or] at hn; exact trivial)) (List.forall_mem_nil _)) (fun j hj hn => g j hj (by simp only [List.mem_cons, List.not_mem_nil, or_false, not_or] at hn; exact trivial)) ((congrArg Int32.toInt (zz_i e82)).trans (rfl : (sy_i F 82).toInt = (sy_i F 82).toInt)) ((zz_i e82).trans (rfl : sy_i F 82 = sy_i F 82)) ((congrArg Int32.toInt (zz_i e83)).trans (rfl : (sy_i F 83).toInt = (sy_i F 83).toInt)) ((zz_i e83).trans (rfl : sy_i F 83 = sy_i F 83)) ((congrArg Int32.toInt (zz_i e84)).trans (rfl : (sy_i F 84).toInt = (sy_i F 84).toInt)) ((zz_i e84).trans (rfl : sy_i F 84 = sy_i F 84)) ((congrArg Int32.toInt (zz_i e85)).trans (rfl : (sy_i F 85).toInt = (sy_i F 85).toInt)) ((zz_i e85).trans (rfl : sy_i F 85 = sy_i F 85)) ((congrArg Int32.toInt (zz_i e86)).trans (nzE n91)) ((zz_i e86).trans (rfl : (sy_i F 86) + ((1 : Int32)) = (sy_i F 86) + ((1 : Int32)))))
  replace g2 : (0 - (((sy_ai F 60).getD ((sy_i F 86).toInt).toNat 0) - (sy_i F 82))).toInt ≤ ((sy_ai F 29).getD ((sy_i F 86).toInt).toNat 0).toInt := by omega
  by_cases g3 : (sy_i F 85).toInt ≤ (0 - (((sy_ai F 60).getD ((sy_i F 86).toInt).toNat 0) - (sy_i F 82))).toInt
  · have c19 := nz_bx hB (k := 19) (lo := 0) (hi := 4) rfl
    have q88 : ((sy_ai F 60).getD (sy_i F 86).toNatClampNeg 0) - (sy_i F 82) = ((sy_ai F 60).getD ((sy_i F 86).toInt).toNat 0) - (sy_i F 82) := by simp only [nz_c]
    have n88 : nzI (((sy_ai F 60).getD (sy_i F 86).toNatClampNeg 0) - (sy_i F 82)) ((((sy_ai F 60).getD ((sy_i F 86).toInt).toNat 0) - (sy_i F 82)).toInt) := congrArg Int32.toInt q88
    have q90 : (sy_ai F 29).getD (sy_i F 86).toNatClampNeg 0 = (sy_ai F 29).getD ((sy_i F 86).toInt).toNat 0 := by simp only [nz_c]
    have n90 : nzI ((sy_ai F 29).getD (sy_i F 86).toNatClampNeg 0) (((sy_ai F 29).getD ((sy_i F 86).toInt).toNat 0).toInt) := congrArg Int32.toInt q90
    have q89 : 0 - (((sy_ai F 60).getD (sy_i F 86).toNatClampNeg 0) - (sy_i F 82)) = 0 - (((sy_ai F 60).getD ((sy_i F 86).toInt).toNat 0) - (sy_i F 82)) := by simp only [nz_c]
    have n89 : nzI (0 - (((sy_ai F 60).getD (sy_i F 86).toNatClampNeg 0) - (sy_i F 82))) ((0 - (((sy_ai F 60).getD ((sy_i F 86).toInt).toNat 0) - (sy_i F 82))).toInt) := congrArg Int32.toInt q89
    have n91 : nzI ((sy_i F 86) + ((1 : Int32))) (((sy_i F 86).toInt + 1)) := nz_add (rfl : (sy_i F 86).toInt = (sy_i F 86).toInt) (by decide : ((1 : Int32)).toInt = 1) (by omega) (by omega)
    exact j3nnr_10_p6 hd F X1 X2 hB (by first | exact g0 | (simp only [nz_c]; exact g0)) (by first | exact ⟨by omega, by omega⟩ | (simp only [nz_c]; exact ⟨by omega, by omega⟩)) (by first | exact g1 | (simp only [nz_c]; exact g1) | (rw [(nzE n88)]; exact g1)) (by first | exact ⟨by omega, by omega⟩ | (simp only [nz_c]; exact ⟨by omega, by omega⟩)) (by first | exact g2 | (simp only [nz_c]; exact g2) | (rw [(nzE n90)]; exact g2) | (rw [(nzE n89)]; exact g2) | (rw [(nzE n90), (nzE n89)]; exact g2)) (by first | exact g3 | (simp only [nz_c]; exact g3) | (rw [(nzE n89)]; exact g3)) (fun F1 g e82 e83 e84 e85 e86 => k6 g0 g1 g2 g3 F1 (nz_in0 hB [] (fun j hj hn => g j hj (by simp only [List.mem_cons, List.not_mem_nil, or_false, not_or] at hn; exact trivial)) (List.forall_mem_nil _)) (fun j hj hn => g j hj (by simp only [List.mem_cons, List.not_mem_nil, or_false, not_or] at hn; exact trivial)) ((congrArg Int32.toInt (zz_i e82)).trans (rfl : (sy_i F 82).toInt = (sy_i F 82).toInt)) ((zz_i e82).trans (rfl : sy_i F 82 = sy_i F 82)) ((congrArg Int32.toInt (zz_i e83)).trans (rfl : (sy_i F 83).toInt = (sy_i F 83).toInt)) ((zz_i e83).trans (rfl : sy_i F 83 = sy_i F 83)) ((congrArg Int32.toInt (zz_i e84)).trans (rfl : (sy_i F 84).toInt = (sy_i F 84).toInt)) ((zz_i e84).trans (rfl : sy_i F 84 = sy_i F 84)) ((congrArg Int32.toInt (zz_i e85)).trans (rfl : (sy_i F 85).toInt = (sy_i F 85).toInt)) ((zz_i e85).trans (rfl : sy_i F 85 = sy_i F 85)) ((congrArg Int32.toInt (zz_i e86)).trans (nzE n91)) ((zz_i e86).trans (rfl : (sy_i F 86) + ((1 : Int32)) = (sy_i F 86) + ((1 : Int32)))))
  replace g3 : (0 - (((sy_ai F 60).getD ((sy_i F 86).toInt).toNat 0) - (sy_i F 82))).toInt < (sy_i F 85).toInt := by omega
  by_cases g4 : ((sy_ai F 61).getD ((sy_i F 86).toInt).toNat 0).toInt < (sy_i F 83).toInt
  · have c19 := nz_bx hB (k := 19) (lo := 0) (hi := 4) rfl
    have q88 : ((sy_ai F 60).getD (sy_i F 86).toNatClampNeg 0) - (sy_i F 82) = ((sy_ai F 60).getD ((sy_i F 86).toInt).toNat 0) - (sy_i F 82) := by simp only [nz_c]
    have n88 : nzI (((sy_ai F 60).getD (sy_i F 86).toNatClampNeg 0) - (sy_i F 82)) ((((sy_ai F 60).getD ((sy_i F 86).toInt).toNat 0) - (sy_i F 82)).toInt) := congrArg Int32.toInt q88
    have q90 : (sy_ai F 29).getD (sy_i F 86).toNatClampNeg 0 = (sy_ai F 29).getD ((sy_i F 86).toInt).toNat 0 := by simp only [nz_c]
    have n90 : nzI ((sy_ai F 29).getD (sy_i F 86).toNatClampNeg 0) (((sy_ai F 29).getD ((sy_i F 86).toInt).toNat 0).toInt) := congrArg Int32.toInt q90
    have q89 : 0 - (((sy_ai F 60).getD (sy_i F 86).toNatClampNeg 0) - (sy_i F 82)) = 0 - (((sy_ai F 60).getD ((sy_i F 86).toInt).toNat 0) - (sy_i F 82)) := by simp only [nz_c]
    have n89 : nzI (0 - (((sy_ai F 60).getD (sy_i F 86).toNatClampNeg 0) - (sy_i F 82))) ((0 - (((sy_ai F 60).getD ((sy_i F 86).toInt).toNat 0) - (sy_i F 82))).toInt) := congrArg Int32.toInt q89
    have q91 : (sy_ai F 61).getD (sy_i F 86).toNatClampNeg 0 = (sy_ai F 61).getD ((sy_i F 86).toInt).toNat 0 := by simp only [nz_c]
    have n91 : nzI ((sy_ai F 61).getD (sy_i F 86).toNatClampNeg 0) (((sy_ai F 61).getD ((sy_i F 86).toInt).toNat 0).toInt) := congrArg Int32.toInt q91
    have n92 : nzI ((sy_i F 86) + ((1 : Int32))) (((sy_i F 86).toInt + 1)) := nz_add (rfl : (sy_i F 86).toInt = (sy_i F 86).toInt) (by decide : ((1 : Int32)).toInt = 1) (by omega) (by omega)
    exact j3nnr_10_p7 hd F X1 X2 hB (by first | exact g0 | (simp only [nz_c]; exact g0)) (by first | exact ⟨by omega, by omega⟩ | (simp only [nz_c]; exact ⟨by omega, by omega⟩)) (by first | exact g1 | (simp only [nz_c]; exact g1) | (rw [(nzE n88)]; exact g1)) (by first | exact ⟨by omega, by omega⟩ | (simp only [nz_c]; exact ⟨by omega, by omega⟩)) (by first | exact g2 | (simp only [nz_c]; exact g2) | (rw [(nzE n90)]; exact g2) | (rw [(nzE n89)]; exact g2) | (rw [(nzE n90), (nzE n89)]; exact g2)) (by first | exact g3 | (simp only [nz_c]; exact g3) | (rw [(nzE n89)]; exact g3)) (by first | exact ⟨by omega, by omega⟩ | (simp only [nz_c]; exact ⟨by omega, by omega⟩)) (by first | exact g4 | (simp only [nz_c]; exact g4) | (rw [(nzE n91)]; exact g4)) (fun F1 g e82 e83 e84 e85 e86 => k7 g0 g1 g2 g3 g4 F1 (nz_in0 hB [] (fun j hj hn => g j hj (by simp only [List.mem_cons, List.not_mem_nil, or_false, not_or] at hn; exact trivial)) (List.forall_mem_nil _)) (fun j hj hn => g j hj (by simp only [List.mem_cons, List.not_mem_nil, or_false, not_or] at hn; exact trivial)) ((congrArg Int32.toInt (zz_i e82)).trans (rfl : (sy_i F 82).toInt = (sy_i F 82).toInt)) ((zz_i e82).trans (rfl : sy_i F 82 = sy_i F 82)) ((congrArg Int32.toInt (zz_i e83)).trans (rfl : (sy_i F 83).toInt = (sy_i F 83).toInt)) ((zz_i e83).trans (rfl : sy_i F 83 = sy_i F 83)) ((congrArg Int32.toInt (zz_i e84)).trans (rfl : (sy_i F 84).toInt = (sy_i F 84).toInt)) ((zz_i e84).trans (rfl : sy_i F 84 = sy_i F 84)) ((congrArg Int32.toInt (zz_i e85)).trans (rfl : (sy_i F 85).toInt = (sy_i F 85).toInt)) ((zz_i e85).trans (rfl : sy_i F 85 = sy_i F 85)) ((congrArg Int32.toInt (zz_i e86)).trans (nzE n92)) ((zz_i e86).trans (rfl : (sy_i F 86) + ((1 : Int32)) = (sy_i F 86) + ((1 : Int32)))))
  replace g4 : (sy_i F 83).toInt ≤ ((sy_ai F 61).getD ((sy_i F 86).toInt).toNat 0).toInt := by omega
  have c19 := nz_bx hB (k := 19) (lo := 0) (hi := 4) rfl
  have q88 : ((sy_ai F 60).getD (sy_i F 86).toNatClampNeg 0) - (sy_i F 82) = ((sy_ai F 60).getD ((sy_i F 86).toInt).toNat 0) - (sy_i F 82) := by simp only [nz_c]
  have n88 : nzI (((sy_ai F 60).getD (sy_i F 86).toNatClampNeg 0) - (sy_i F 82)) ((((sy_ai F 60).getD ((sy_i F 86).toInt).toNat 0) - (sy_i F 82)).toInt) := congrArg Int32.toInt q88
  have q90 : (sy_ai F 29).getD (sy_i F 86).toNatClampNeg 0 = (sy_ai F 29).getD ((sy_i F 86).toInt).toNat 0 := by simp only [nz_c]
  have n90 : nzI ((sy_ai F 29).getD (sy_i F 86).toNatClampNeg 0) (((sy_ai F 29).getD ((sy_i F 86).toInt).toNat 0).toInt) := congrArg Int32.toInt q90
  have q89 : 0 - (((sy_ai F 60).getD (sy_i F 86).toNatClampNeg 0) - (sy_i F 82)) = 0 - (((sy_ai F 60).getD ((sy_i F 86).toInt).toNat 0) - (sy_i F 82)) := by simp only [nz_c]
  have n89 : nzI (0 - (((sy_ai F 60).getD (sy_i F 86).toNatClampNeg 0) - (sy_i F 82))) ((0 - (((sy_ai F 60).getD ((sy_i F 86).toInt).toNat 0) - (sy_i F 82))).toInt) := congrArg Int32.toInt q89
  have q91 : (sy_ai F 61).getD (sy_i F 86).toNatClampNeg 0 = (sy_ai F 61).getD ((sy_i F 86).toInt).toNat 0 := by simp only [nz_c]
  have n91 : nzI ((sy_ai F 61).getD (sy_i F 86).toNatClampNeg 0) (((sy_ai F 61).getD ((sy_i F 86).toInt).toNat 0).toInt) := congrArg Int32.toInt q91
  have n92 : nzI ((sy_i F 86) + ((1 : Int32))) (((sy_i F 86).toInt + 1)) := nz_add (rfl : (sy_i F 86).toInt = (sy_i F 86).toInt) (by decide : ((1 : Int32)).toInt = 1) (by omega) (by omega)
  exact j3nnr_10_p8 hd F X1 X2 hB (by first | exact g0 | (simp only [nz_c]; exact g0)) (by first | exact ⟨by omega, by omega⟩ | (simp only [nz_c]; exact ⟨by omega, by omega⟩)) (by first | exact g1 | (simp only [nz_c]; exact g1) | (rw [(nzE n88)]; exact g1)) (by first | exact ⟨by omega, by omega⟩ | (simp only [nz_c]; exact ⟨by omega, by omega⟩)) (by first | exact g2 | (simp only [nz_c]; exact g2) | (rw [(nzE n90)]; exact g2) | (rw [(nzE n89)]; exact g2) | (rw [(nzE n90), (nzE n89)]; exact g2)) (by first | exact g3 | (simp only [nz_c]; exact g3) | (rw [(nzE n89)]; exact g3)) (by first | exact ⟨by omega, by omega⟩ | (simp only [nz_c]; exact ⟨by omega, by omega⟩)) (by first | exact g4 | (simp only [nz_c]; exact g4) | (rw [(nzE n91)]; exact g4)) (fun F1 g e82 e83 e84 e85 e86 => k8 g0 g1 g2 g3 g4 F1 (nz_in0 hB [] (fun j hj hn => g j hj (by simp only [List.mem_cons, List.not_mem_nil, or_false, not_or] at hn; exact trivial)) (List.forall_mem_nil _)) (fun j hj hn => g j hj (by simp only [List.mem_cons, List.not_mem_nil, or_false, not_or] at hn; exact trivial)) ((congrArg Int32.toInt (zz_i e82)).trans (rfl : (sy_i F 82).toInt = (sy_i F 82).toInt)) ((zz_i e82).trans (rfl : sy_i F 82 = sy_i F 82)) ((congrArg Int32.toInt (zz_i e83)).trans (rfl : (sy_i F 83).toInt = (sy_i F 83).toInt)) ((zz_i e83).trans (rfl : sy_i F 83 = sy_i F 83)) ((congrArg Int32.toInt (zz_i e84)).trans (rfl : (sy_i F 86).toInt = (sy_i F 86).toInt)) ((zz_i e84).trans (rfl : sy_i F 86 = sy_i F 86)) ((congrArg Int32.toInt (zz_i e85)).trans (nzE n89)) ((zz_i e85).trans q89) ((congrArg Int32.toInt (zz_i e86)).trans (nzE n92)) ((zz_i e86).trans (rfl : (sy_i F 86) + ((1 : Int32)) = (sy_i F 86) + ((1 : Int32)))))
theorem j3nfa_0_p0 {Ls : Nat} {xs : Nat → Int32} {d : Nat} {Q : Option Value → jm_h → Prop} (hd : 1 ≤ d) (F : Nat → sy_d) (X1 X2 : List jm_c) (hB : iv_in F iv_B0)
    (k : ∀ F1 : Nat → sy_d, (∀ j, j < 82 → True → F1 j = F j) → F1 82 = .inl (.int (sy_i F 82)) → F1 83 = .inl (.int (sy_i F 83)) → F1 84 = .inl (.int ((0 : Int32))) → hd_W Ls xs d jm_M14 Q (3, sy_dL F1 [some (.inl (.ref 46)), some (.inl (.ref 20)), some (.inr (.inl 82)), some (.inr (.inl 83)), some (.inr (.inl 84))], sy_dS F1 [], sy_dh F1 X1 X2 (iv_H 3), 0, 0)) :
    hd_W Ls xs d jm_M14 Q (0, sy_dL F [some (.inl (.ref 46)), some (.inl (.ref 20)), some (.inr (.inl 82)), some (.inr (.inl 83)), none], sy_dS F [], sy_dh F X1 X2 (iv_H 3), 0, 0) := by
  refine hd_run (s := 3) (nv := 84) (pc := 3) (L := [some (.inl (.ref 46)), some (.inl (.ref 20)), some (.inr (.inl 82)), some (.inr (.inl 83)), some (.inr (.inl 84))]) (S := []) (uh := hd_ov (iv_id 0 iv_B0) []) (ul := [.inl (.inr (.inl 82)), .inl (.inr (.inl 83)), .inl (.inl (.int 0))]) (f := true) (sp := [3]) (d0 := 0) (O := []) (T := []) (P := []) jm_ok14 (by decide +kernel) (by decide +kernel) hd F X1 X2 (fun F' hF hs => ?_)
  have b82 := hd_b (F := F) (F' := F') (k := 82) (hF 82 (by decide))
  have b83 := hd_b (F := F) (F' := F') (k := 83) (hF 83 (by decide))
  have hB' : iv_in F' iv_B0 := iv_in_eq hB (fun j hj => hF j (Nat.lt_of_lt_of_le hj (by decide +kernel)))
  refine ⟨fun _ h => absurd h List.not_mem_nil, ?_⟩
  refine k _ ?_ ?_ ?_ ?_
  · exact fun j hj _ => (hd_keep hB' (Nat.lt_of_lt_of_le hj (by decide +kernel)) (by simp)).trans (hF j (Nat.lt_of_lt_of_le hj (by decide)))
  · exact hd_gi (x := .inr (.inl 82)) (by decide +kernel) b82
  · exact hd_gi (x := .inr (.inl 83)) (by decide +kernel) b83
  · exact hd_gi (x := .inl (.int 0)) (by decide +kernel) rfl
theorem j3nfa_0 {Ls : Nat} {xs : Nat → Int32} {d : Nat} {Q : Option Value → jm_h → Prop} (hd : 1 ≤ d) (F : Nat → sy_d) (X1 X2 : List jm_c) (hB : iv_in F iv_B0)
    (k0 : ∀ F1 : Nat → sy_d, iv_in F1 iv_B0 → (∀ j, j < 82 → j ∉ ([] : List Nat) → F1 j = F j) → (sy_i F1 82).toInt = (sy_i F 82).toInt → sy_i F1 82 = sy_i F 82 → (sy_i F1 83).toInt = (sy_i F 83).toInt → sy_i F1 83 = sy_i F 83 → (sy_i F1 84).toInt = 0 → sy_i F1 84 = (0 : Int32) → hd_W Ls xs d jm_M14 Q (3, sy_dL F1 [some (.inl (.ref 46)), some (.inl (.ref 20)), some (.inr (.inl 82)), some (.inr (.inl 83)), some (.inr (.inl 84))], sy_dS F1 [], sy_dh F1 X1 X2 (iv_H 3), 0, 0)) :
    hd_W Ls xs d jm_M14 Q (0, sy_dL F [some (.inl (.ref 46)), some (.inl (.ref 20)), some (.inr (.inl 82)), some (.inr (.inl 83)), none], sy_dS F [], sy_dh F X1 X2 (iv_H 3), 0, 0) := by
  exact j3nfa_0_p0 hd F X1 X2 hB  (fun F1 g e82 e83 e84 => k0 F1 (nz_in0 hB [] (fun j hj hn => g j hj (by simp only [List.mem_cons, List.not_mem_nil, or_false, not_or] at hn; exact trivial)) (List.forall_mem_nil _)) (fun j hj hn => g j hj (by simp only [List.mem_cons, List.not_mem_nil, or_false, not_or] at hn; exact trivial)) ((congrArg Int32.toInt (zz_i e82)).trans (rfl : (sy_i F 82).toInt = (sy_i F 82).toInt)) ((zz_i e82).trans (rfl : sy_i F 82 = sy_i F 82)) ((congrArg Int32.toInt (zz_i e83)).trans (rfl : (sy_i F 83).toInt = (sy_i F 83).toInt)) ((zz_i e83).trans (rfl : sy_i F 83 = sy_i F 83)) ((congrArg Int32.toInt (zz_i e84)).trans (by decide : ((0 : Int32)).toInt = 0)) ((zz_i e84).trans (rfl : (0 : Int32) = (0 : Int32))))
theorem j3nfa_3_p0 {Ls : Nat} {xs : Nat → Int32} {d : Nat} {Q : Option Value → jm_h → Prop} (hd : 1 ≤ d) (F : Nat → sy_d) (X1 X2 : List jm_c) (hB : iv_in F iv_B0)
    (h0 : (sy_i F 19).toInt ≤ (sy_i F 84).toInt)
    (k : ∀ F1 : Nat → sy_d, (∀ j, j < 82 → True → F1 j = F j) → Q (some (.int (((-2) : Int32)))) (sy_dh F1 X1 X2 (iv_H 3))) :
    hd_W Ls xs d jm_M14 Q (3, sy_dL F [some (.inl (.ref 46)), some (.inl (.ref 20)), some (.inr (.inl 82)), some (.inr (.inl 83)), some (.inr (.inl 84))], sy_dS F [], sy_dh F X1 X2 (iv_H 3), 0, 0) := by
  refine hd_ret (s := 3) (nv := 85) (v := some (.inl (.int (-2)))) (uh := hd_ov (iv_id 0 iv_B0) []) (f := true) (sp := [3]) (d0 := 0) (O := [true]) (T := []) (P := [(4, .inr (.inl 19), .inr (.inl 84))]) jm_ok14 (by decide +kernel) (by decide +kernel) hd F X1 X2 (fun F' hF hs => ?_)
  have b19 := hd_b (F := F) (F' := F') (k := 19) (hF 19 (by decide))
  have b84 := hd_b (F := F) (F' := F') (k := 84) (hF 84 (by decide))
  have hB' : iv_in F' iv_B0 := iv_in_eq hB (fun j hj => hF j (Nat.lt_of_lt_of_le hj (by decide +kernel)))
  refine ⟨List.forall_mem_cons.mpr ⟨hd_p4 b19 b84 h0, fun _ h => absurd h List.not_mem_nil⟩, ?_⟩
  refine k _ ?_
  · exact fun j hj _ => (hd_keep hB' (Nat.lt_of_lt_of_le hj (by decide +kernel)) (by simp)).trans (hF j (Nat.lt_of_lt_of_le hj (by decide)))
theorem j3nfa_3_p1 {Ls : Nat} {xs : Nat → Int32} {d : Nat} {Q : Option Value → jm_h → Prop} (hd : 1 ≤ d) (F : Nat → sy_d) (X1 X2 : List jm_c) (hB : iv_in F iv_B0)
    (h0 : (sy_i F 84).toInt < (sy_i F 19).toInt)
    (h1 : 0 ≤ (sy_i F 84).toInt ∧ (sy_i F 84).toInt < 4)
    (h2 : ((sy_ai F 60).getD (sy_i F 84).toNatClampNeg 0).toInt ≠ (sy_i F 82).toInt)
    (k : ∀ F1 : Nat → sy_d, (∀ j, j < 82 → True → F1 j = F j) → F1 82 = .inl (.int (sy_i F 82)) → F1 83 = .inl (.int (sy_i F 83)) → F1 84 = .inl (.int ((sy_i F 84) + ((1 : Int32)))) → hd_W Ls xs d jm_M14 Q (3, sy_dL F1 [some (.inl (.ref 46)), some (.inl (.ref 20)), some (.inr (.inl 82)), some (.inr (.inl 83)), some (.inr (.inl 84))], sy_dS F1 [], sy_dh F1 X1 X2 (iv_H 3), 0, 0)) :
    hd_W Ls xs d jm_M14 Q (3, sy_dL F [some (.inl (.ref 46)), some (.inl (.ref 20)), some (.inr (.inl 82)), some (.inr (.inl 83)), some (.inr (.inl 84))], sy_dS F [], sy_dh F X1 X2 (iv_H 3), 0, 0) := by
  refine hd_run (s := 3) (nv := 85) (pc := 3) (L := [some (.inl (.ref 46)), some (.inl (.ref 20)), some (.inr (.inl 82)), some (.inr (.inl 83)), some (.inr (.inl 84))]) (S := []) (uh := hd_ov (iv_id 0 iv_B0) []) (ul := [.inl (.inr (.inl 82)), .inl (.inr (.inl 83)), .inl (.inr (.inl 86))]) (f := true) (sp := [3]) (d0 := 0) (O := [false, true]) (T := [(30, [.inr (.inl 84)], [.inr (.inl 60)]), (0, [.inr (.inl 84), .inl (.int 1)], [])]) (P := [(5, .inr (.inl 19), .inr (.inl 84)), (6, .inr (.inl 84), .inl (.ref 4)), (1, .inr (.inl 85), .inr (.inl 82))]) jm_ok14 (by decide +kernel) (by decide +kernel) hd F X1 X2 (fun F' hF hs => ?_)
  have b19 := hd_b (F := F) (F' := F') (k := 19) (hF 19 (by decide))
  have b84 := hd_b (F := F) (F' := F') (k := 84) (hF 84 (by decide))
  have a60 := hd_ba (F := F) (F' := F') (k := 60) (hF 60 (by decide))
  have t85 : sy_dv F' (.inr (.inl 85)) = .int ((sy_ai F 60).getD (sy_i F 84).toNatClampNeg 0) := hd_rd (hs 0 _ rfl) b84 a60
  have b82 := hd_b (F := F) (F' := F') (k := 82) (hF 82 (by decide))
  have b83 := hd_b (F := F) (F' := F') (k := 83) (hF 83 (by decide))
  have t86 : sy_dv F' (.inr (.inl 86)) = .int ((sy_i F 84) + ((1 : Int32))) := hd_o (hs 1 _ rfl) b84 rfl rfl
  have hB' : iv_in F' iv_B0 := iv_in_eq hB (fun j hj => hF j (Nat.lt_of_lt_of_le hj (by decide +kernel)))
  refine ⟨List.forall_mem_cons.mpr ⟨hd_p5 b19 b84 h0, List.forall_mem_cons.mpr ⟨hd_pb b84 (by first | exact h1 | exact h1), List.forall_mem_cons.mpr ⟨hd_p1 t85 b82 h2, fun _ h => absurd h List.not_mem_nil⟩⟩⟩, ?_⟩
  refine k _ ?_ ?_ ?_ ?_
  · exact fun j hj _ => (hd_keep hB' (Nat.lt_of_lt_of_le hj (by decide +kernel)) (by simp)).trans (hF j (Nat.lt_of_lt_of_le hj (by decide)))
  · exact hd_gi (x := .inr (.inl 82)) (by decide +kernel) b82
  · exact hd_gi (x := .inr (.inl 83)) (by decide +kernel) b83
  · exact hd_gi (x := .inr (.inl 86)) (by decide +kernel) t86
theorem j3nfa_3_p2 {Ls : Nat} {xs : Nat → Int32} {d : Nat} {Q : Option Value → jm_h → Prop} (hd : 1 ≤ d) (F : Nat → sy_d) (X1 X2 : List jm_c) (hB : iv_in F iv_B0)
    (h0 : (sy_i F 84).toInt < (sy_i F 19).toInt)
    (h1 : 0 ≤ (sy_i F 84).toInt ∧ (sy_i F 84).toInt < 4)
    (h2 : ((sy_ai F 60).getD (sy_i F 84).toNatClampNeg 0).toInt = (sy_i F 82).toInt)
    (h3 : 0 ≤ (sy_i F 84).toInt ∧ (sy_i F 84).toInt < 4)
    (h4 : ((sy_ai F 61).getD (sy_i F 84).toNatClampNeg 0).toInt < (sy_i F 83).toInt)
    (k : ∀ F1 : Nat → sy_d, (∀ j, j < 82 → True → F1 j = F j) → F1 82 = .inl (.int (sy_i F 82)) → F1 83 = .inl (.int (sy_i F 83)) → F1 84 = .inl (.int ((sy_i F 84) + ((1 : Int32)))) → hd_W Ls xs d jm_M14 Q (3, sy_dL F1 [some (.inl (.ref 46)), some (.inl (.ref 20)), some (.inr (.inl 82)), some (.inr (.inl 83)), some (.inr (.inl 84))], sy_dS F1 [], sy_dh F1 X1 X2 (iv_H 3), 0, 0)) :
    hd_W Ls xs d jm_M14 Q (3, sy_dL F [some (.inl (.ref 46)), some (.inl (.ref 20)), some (.inr (.inl 82)), some (.inr (.inl 83)), some (.inr (.inl 84))], sy_dS F [], sy_dh F X1 X2 (iv_H 3), 0, 0) := by
  refine hd_run (s := 3) (nv := 85) (pc := 3) (L := [some (.inl (.ref 46)), some (.inl (.ref 20)), some (.inr (.inl 82)), some (.inr (.inl 83)), some (.inr (.inl 84))]) (S := []) (uh := hd_ov (iv_id 0 iv_B0) []) (ul := [.inl (.inr (.inl 82)), .inl (.inr (.inl 83)), .inl (.inr (.inl 87))]) (f := true) (sp := [3]) (d0 := 0) (O := [false, false, true]) (T := [(30, [.inr (.inl 84)], [.inr (.inl 60)]), (30, [.inr (.inl 84)], [.inr (.inl 61)]), (0, [.inr (.inl 84), .inl (.int 1)], [])]) (P := [(5, .inr (.inl 19), .inr (.inl 84)), (6, .inr (.inl 84), .inl (.ref 4)), (0, .inr (.inl 85), .inr (.inl 82)), (6, .inr (.inl 84), .inl (.ref 4)), (2, .inr (.inl 86), .inr (.inl 83))]) jm_ok14 (by decide +kernel) (by decide +kernel) hd F X1 X2 (fun F' hF hs => ?_)
  have b19 := hd_b (F := F) (F' := F') (k := 19) (hF 19 (by decide))
  have b84 := hd_b (F := F) (F' := F') (k := 84) (hF 84 (by decide))
  have a60 := hd_ba (F := F) (F' := F') (k := 60) (hF 60 (by decide))
  have t85 : sy_dv F' (.inr (.inl 85)) = .int ((sy_ai F 60).getD (sy_i F 84).toNatClampNeg 0) := hd_rd (hs 0 _ rfl) b84 a60
  have b82 := hd_b (F := F) (F' := F') (k := 82) (hF 82 (by decide))
  have a61 := hd_ba (F := F) (F' := F') (k := 61) (hF 61 (by decide))
  have t86 : sy_dv F' (.inr (.inl 86)) = .int ((sy_ai F 61).getD (sy_i F 84).toNatClampNeg 0) := hd_rd (hs 1 _ rfl) b84 a61
  have b83 := hd_b (F := F) (F' := F') (k := 83) (hF 83 (by decide))
  have t87 : sy_dv F' (.inr (.inl 87)) = .int ((sy_i F 84) + ((1 : Int32))) := hd_o (hs 2 _ rfl) b84 rfl rfl
  have hB' : iv_in F' iv_B0 := iv_in_eq hB (fun j hj => hF j (Nat.lt_of_lt_of_le hj (by decide +kernel)))
  refine ⟨List.forall_mem_cons.mpr ⟨hd_p5 b19 b84 h0, List.forall_mem_cons.mpr ⟨hd_pb b84 (by first | exact h1 | exact h1), List.forall_mem_cons.mpr ⟨hd_p0 t85 b82 h2, List.forall_mem_cons.mpr ⟨hd_pb b84 (by first | exact h3 | exact h3), List.forall_mem_cons.mpr ⟨hd_p2 t86 b83 h4, fun _ h => absurd h List.not_mem_nil⟩⟩⟩⟩⟩, ?_⟩
  refine k _ ?_ ?_ ?_ ?_
  · exact fun j hj _ => (hd_keep hB' (Nat.lt_of_lt_of_le hj (by decide +kernel)) (by simp)).trans (hF j (Nat.lt_of_lt_of_le hj (by decide)))
  · exact hd_gi (x := .inr (.inl 82)) (by decide +kernel) b82
  · exact hd_gi (x := .inr (.inl 83)) (by decide +kernel) b83
  · exact hd_gi (x := .inr (.inl 87)) (by decide +kernel) t87
theorem j3nfa_3_p3 {Ls : Nat} {xs : Nat → Int32} {d : Nat} {Q : Option Value → jm_h → Prop} (hd : 1 ≤ d) (F : Nat → sy_d) (X1 X2 : List jm_c) (hB : iv_in F iv_B0)
    (h0 : (sy_i F 84).toInt < (sy_i F 19).toInt)
    (h1 : 0 ≤ (sy_i F 84).toInt ∧ (sy_i F 84).toInt < 4)
    (h2 : ((sy_ai F 60).getD (sy_i F 84).toNatClampNeg 0).toInt = (sy_i F 82).toInt)
    (h3 : 0 ≤ (sy_i F 84).toInt ∧ (sy_i F 84).toInt < 4)
    (h4 : (sy_i F 83).toInt ≤ ((sy_ai F 61).getD (sy_i F 84).toNatClampNeg 0).toInt)
    (k : ∀ F1 : Nat → sy_d, (∀ j, j < 82 → True → F1 j = F j) → Q (some (.int (sy_i F 84))) (sy_dh F1 X1 X2 (iv_H 3))) :
    hd_W Ls xs d jm_M14 Q (3, sy_dL F [some (.inl (.ref 46)), some (.inl (.ref 20)), some (.inr (.inl 82)), some (.inr (.inl 83)), some (.inr (.inl 84))], sy_dS F [], sy_dh F X1 X2 (iv_H 3), 0, 0) := by
  refine hd_ret (s := 3) (nv := 85) (v := some (.inr (.inl 84))) (uh := hd_ov (iv_id 0 iv_B0) []) (f := true) (sp := [3]) (d0 := 0) (O := [false, false, false]) (T := [(30, [.inr (.inl 84)], [.inr (.inl 60)]), (30, [.inr (.inl 84)], [.inr (.inl 61)])]) (P := [(5, .inr (.inl 19), .inr (.inl 84)), (6, .inr (.inl 84), .inl (.ref 4)), (0, .inr (.inl 85), .inr (.inl 82)), (6, .inr (.inl 84), .inl (.ref 4)), (3, .inr (.inl 86), .inr (.inl 83))]) jm_ok14 (by decide +kernel) (by decide +kernel) hd F X1 X2 (fun F' hF hs => ?_)
  have b19 := hd_b (F := F) (F' := F') (k := 19) (hF 19 (by decide))
  have b84 := hd_b (F := F) (F' := F') (k := 84) (hF 84 (by decide))
  have a60 := hd_ba (F := F) (F' := F') (k := 60) (hF 60 (by decide))
  have t85 : sy_dv F' (.inr (.inl 85)) = .int ((sy_ai F 60).getD (sy_i F 84).toNatClampNeg 0) := hd_rd (hs 0 _ rfl) b84 a60
  have b82 := hd_b (F := F) (F' := F') (k := 82) (hF 82 (by decide))
  have a61 := hd_ba (F := F) (F' := F') (k := 61) (hF 61 (by decide))
  have t86 : sy_dv F' (.inr (.inl 86)) = .int ((sy_ai F 61).getD (sy_i F 84).toNatClampNeg 0) := hd_rd (hs 1 _ rfl) b84 a61
  have b83 := hd_b (F := F) (F' := F') (k := 83) (hF 83 (by decide))
  have hB' : iv_in F' iv_B0 := iv_in_eq hB (fun j hj => hF j (Nat.lt_of_lt_of_le hj (by decide +kernel)))
  have hk := k (sy_cm F' (hd_ov (iv_id 0 iv_B0) [] ++ [])) (fun j hj _ => (hd_keep hB' (Nat.lt_of_lt_of_le hj (by decide +kernel)) (by simp)).trans (hF j (Nat.lt_of_lt_of_le hj (by decide))))
  refine ⟨List.forall_mem_cons.mpr ⟨hd_p5 b19 b84 h0, List.forall_mem_cons.mpr ⟨hd_pb b84 (by first | exact h1 | exact h1), List.forall_mem_cons.mpr ⟨hd_p0 t85 b82 h2, List.forall_mem_cons.mpr ⟨hd_pb b84 (by first | exact h3 | exact h3), List.forall_mem_cons.mpr ⟨hd_p3 t86 b83 h4, fun _ h => absurd h List.not_mem_nil⟩⟩⟩⟩⟩, ?_⟩
  show Q (some (sy_dv F' (.inr (.inl 84)))) _
  rw [b84]
  exact hk
theorem j3nfa_3 {Ls : Nat} {xs : Nat → Int32} {d : Nat} {Q : Option Value → jm_h → Prop} (hd : 1 ≤ d) (F : Nat → sy_d) (X1 X2 : List jm_c) (hB : iv_in F iv_B0)
    (a84 : 0 ≤ (sy_i F 84).toInt ∧ (sy_i F 84).toInt ≤ 4)
    (k0 : (sy_i F 19).toInt ≤ (sy_i F 84).toInt → ∀ F1 : Nat → sy_d, iv_in F1 iv_B0 → (∀ j, j < 82 → j ∉ ([] : List Nat) → F1 j = F j) → Q (some (.int (((-2) : Int32)))) (sy_dh F1 X1 X2 (iv_H 3)))
    (k1 : (sy_i F 84).toInt < (sy_i F 19).toInt → ((sy_ai F 60).getD ((sy_i F 84).toInt).toNat 0).toInt ≠ (sy_i F 82).toInt → ∀ F1 : Nat → sy_d, iv_in F1 iv_B0 → (∀ j, j < 82 → j ∉ ([] : List Nat) → F1 j = F j) → (sy_i F1 82).toInt = (sy_i F 82).toInt → sy_i F1 82 = sy_i F 82 → (sy_i F1 83).toInt = (sy_i F 83).toInt → sy_i F1 83 = sy_i F 83 → (sy_i F1 84).toInt = ((sy_i F 84).toInt + 1) → sy_i F1 84 = (sy_i F 84) + ((1 : Int32)) → hd_W Ls xs d jm_M14 Q (3, sy_dL F1 [some (.inl (.ref 46)), some (.inl (.ref 20)), some (.inr (.inl 82)), some (.inr (.inl 83)), some (.inr (.inl 84))], sy_dS F1 [], sy_dh F1 X1 X2 (iv_H 3), 0, 0))
    (k2 : (sy_i F 84).toInt < (sy_i F 19).toInt → ((sy_ai F 60).getD ((sy_i F 84).toInt).toNat 0).toInt = (sy_i F 82).toInt → ((sy_ai F 61).getD ((sy_i F 84).toInt).toNat 0).toInt < (sy_i F 83).toInt → ∀ F1 : Nat → sy_d, iv_in F1 iv_B0 → (∀ j, j < 82 → j ∉ ([] : List Nat) → F1 j = F j) → (sy_i F1 82).toInt = (sy_i F 82).toInt → sy_i F1 82 = sy_i F 82 → (sy_i F1 83).toInt = (sy_i F 83).toInt → sy_i F1 83 = sy_i F 83 → (sy_i F1 84).toInt = ((sy_i F 84).toInt + 1) → sy_i F1 84 = (sy_i F 84) + ((1 : Int32)) → hd_W Ls xs d jm_M14 Q (3, sy_dL F1 [some (.inl (.ref 46)), some (.inl (.ref 20)), some (.inr (.inl 82)), some (.inr (.inl 83)), some (.inr (.inl 84))], sy_dS F1 [], sy_dh F1 X1 X2 (iv_H 3), 0, 0))
    (k3 : (sy_i F 84).toInt < (sy_i F 19).toInt → ((sy_ai F 60).getD ((sy_i F 84).toInt).toNat 0).toInt = (sy_i F 82).toInt → (sy_i F 83).toInt ≤ ((sy_ai F 61).getD ((sy_i F 84).toInt).toNat 0).toInt → ∀ F1 : Nat → sy_d, iv_in F1 iv_B0 → (∀ j, j < 82 → j ∉ ([] : List Nat) → F1 j = F j) → Q (some (.int (sy_i F 84))) (sy_dh F1 X1 X2 (iv_H 3))) :
    hd_W Ls xs d jm_M14 Q (3, sy_dL F [some (.inl (.ref 46)), some (.inl (.ref 20)), some (.inr (.inl 82)), some (.inr (.inl 83)), some (.inr (.inl 84))], sy_dS F [], sy_dh F X1 X2 (iv_H 3), 0, 0) := by
  by_cases g0 : (sy_i F 19).toInt ≤ (sy_i F 84).toInt
  · have c19 := nz_bx hB (k := 19) (lo := 0) (hi := 4) rfl
    exact j3nfa_3_p0 hd F X1 X2 hB (by first | exact g0 | (simp only [nz_c]; exact g0)) (fun F1 g  => k0 g0 F1 (nz_in0 hB [] (fun j hj hn => g j hj (by simp only [List.mem_cons, List.not_mem_nil, or_false, not_or] at hn; exact trivial)) (List.forall_mem_nil _)) (fun j hj hn => g j hj (by simp only [List.mem_cons, List.not_mem_nil, or_false, not_or] at hn; exact trivial)) )
  replace g0 : (sy_i F 84).toInt < (sy_i F 19).toInt := by omega
  by_cases g1 : ((sy_ai F 60).getD ((sy_i F 84).toInt).toNat 0).toInt ≠ (sy_i F 82).toInt
  · have c19 := nz_bx hB (k := 19) (lo := 0) (hi := 4) rfl
    have q85 : (sy_ai F 60).getD (sy_i F 84).toNatClampNeg 0 = (sy_ai F 60).getD ((sy_i F 84).toInt).toNat 0 := by simp only [nz_c]
    have n85 : nzI ((sy_ai F 60).getD (sy_i F 84).toNatClampNeg 0) (((sy_ai F 60).getD ((sy_i F 84).toInt).toNat 0).toInt) := congrArg Int32.toInt q85
    have n86 : nzI ((sy_i F 84) + ((1 : Int32))) (((sy_i F 84).toInt + 1)) := nz_add (rfl : (sy_i F 84).toInt = (sy_i F 84).toInt) (by decide : ((1 : Int32)).toInt = 1) (by omega) (by omega)
    exact j3nfa_3_p1 hd F X1 X2 hB (by first | exact g0 | (simp only [nz_c]; exact g0)) (by first | exact ⟨by omega, by omega⟩ | (simp only [nz_c]; exact ⟨by omega, by omega⟩)) (by first | exact g1 | (simp only [nz_c]; exact g1) | (rw [(nzE n85)]; exact g1)) (fun F1 g e82 e83 e84 => k1 g0 g1 F1 (nz_in0 hB [] (fun j hj hn => g j hj (by simp only [List.mem_cons, List.not_mem_nil, or_false, not_or] at hn; exact trivial)) (List.forall_mem_nil _)) (fun j hj hn => g j hj (by simp only [List.mem_cons, List.not_mem_nil, or_false, not_or] at hn; exact trivial)) ((congrArg Int32.toInt (zz_i e82)).trans (rfl : (sy_i F 82).toInt = (sy_i F 82).toInt)) ((zz_i e82).trans (rfl : sy_i F 82 = sy_i F 82)) ((congrArg Int32.toInt (zz_i e83)).trans (rfl : (sy_i F 83).toInt = (sy_i F 83).toInt)) ((zz_i e83).trans (rfl : sy_i F 83 = sy_i F 83)) ((congrArg Int32.toInt (zz_i e84)).trans (nzE n86)) ((zz_i e84).trans (rfl : (sy_i F 84) + ((1 : Int32)) = (sy_i F 84) + ((1 : Int32)))))
  replace g1 : ((sy_ai F 60).getD ((sy_i F 84).toInt).toNat 0).toInt = (sy_i F 82).toInt := by omega
  by_cases g2 : ((sy_ai F 61).getD ((sy_i F 84).toInt).toNat 0).toInt < (sy_i F 83).toInt
  · have c19 := nz_bx hB (k := 19) (lo := 0) (hi := 4) rfl
    have q85 : (sy_ai F 60).getD (sy_i F 84).toNatClampNeg 0 = (sy_ai F 60).getD ((sy_i F 84).toInt).toNat 0 := by simp only [nz_c]
    have n85 : nzI ((sy_ai F 60).getD (sy_i F 84).toNatClampNeg 0) (((sy_ai F 60).getD ((sy_i F 84).toInt).toNat 0).toInt) := congrArg Int32.toInt q85
    have q86 : (sy_ai F 61).getD (sy_i F 84).toNatClampNeg 0 = (sy_ai F 61).getD ((sy_i F 84).toInt).toNat 0 := by simp only [nz_c]
    have n86 : nzI ((sy_ai F 61).getD (sy_i F 84).toNatClampNeg 0) (((sy_ai F 61).getD ((sy_i F 84).toInt).toNat 0).toInt) := congrArg Int32.toInt q86
    have n87 : nzI ((sy_i F 84) + ((1 : Int32))) (((sy_i F 84).toInt + 1)) := nz_add (rfl : (sy_i F 84).toInt = (sy_i F 84).toInt) (by decide : ((1 : Int32)).toInt = 1) (by omega) (by omega)
    exact j3nfa_3_p2 hd F X1 X2 hB (by first | exact g0 | (simp only [nz_c]; exact g0)) (by first | exact ⟨by omega, by omega⟩ | (simp only [nz_c]; exact ⟨by omega, by omega⟩)) (by first | exact g1 | (simp only [nz_c]; exact g1) | (rw [(nzE n85)]; exact g1)) (by first | exact ⟨by omega, by omega⟩ | (simp only [nz_c]; exact ⟨by omega, by omega⟩)) (by first | exact g2 | (simp only [nz_c]; exact g2) | (rw [(nzE n86)]; exact g2)) (fun F1 g e82 e83 e84 => k2 g0 g1 g2 F1 (nz_in0 hB [] (fun j hj hn => g j hj (by simp only [List.mem_cons, List.not_mem_nil, or_false, not_or] at hn; exact trivial)) (List.forall_mem_nil _)) (fun j hj hn => g j hj (by simp only [List.mem_cons, List.not_mem_nil, or_false, not_or] at hn; exact trivial)) ((congrArg Int32.toInt (zz_i e82)).trans (rfl : (sy_i F 82).toInt = (sy_i F 82).toInt)) ((zz_i e82).trans (rfl : sy_i F 82 = sy_i F 82)) ((congrArg Int32.toInt (zz_i e83)).trans (rfl : (sy_i F 83).toInt = (sy_i F 83).toInt)) ((zz_i e83).trans (rfl : sy_i F 83 = sy_i F 83)) ((congrArg Int32.toInt (zz_i e84)).trans (nzE n87)) ((zz_i e84).trans (rfl : (sy_i F 84) + ((1 : Int32)) = (sy_i F 84) + ((1 : Int32)))))
  replace g2 : (sy_i F 83).toInt ≤ ((sy_ai F 61).getD ((sy_i F 84).toInt).toNat 0).toInt := by omega
  have c19 := nz_bx hB (k := 19) (lo := 0) (hi := 4) rfl
  have q85 : (sy_ai F 60).getD (sy_i F 84).toNatClampNeg 0 = (sy_ai F 60).getD ((sy_i F 84).toInt).toNat 0 := by simp only [nz_c]
  have n85 : nzI ((sy_ai F 60).getD (sy_i F 84).toNatClampNeg 0) (((sy_ai F 60).getD ((sy_i F 84).toInt).toNat 0).toInt) := congrArg Int32.toInt q85
  have q86 : (sy_ai F 61).getD (sy_i F 84).toNatClampNeg 0 = (sy_ai F 61).getD ((sy_i F 84).toInt).toNat 0 := by simp only [nz_c]
  have n86 : nzI ((sy_ai F 61).getD (sy_i F 84).toNatClampNeg 0) (((sy_ai F 61).getD ((sy_i F 84).toInt).toNat 0).toInt) := congrArg Int32.toInt q86
  exact j3nfa_3_p3 hd F X1 X2 hB (by first | exact g0 | (simp only [nz_c]; exact g0)) (by first | exact ⟨by omega, by omega⟩ | (simp only [nz_c]; exact ⟨by omega, by omega⟩)) (by first | exact g1 | (simp only [nz_c]; exact g1) | (rw [(nzE n85)]; exact g1)) (by first | exact ⟨by omega, by omega⟩ | (simp only [nz_c]; exact ⟨by omega, by omega⟩)) (by first | exact g2 | (simp only [nz_c]; exact g2) | (rw [(nzE n86)]; exact g2)) (fun F1 g  => by rw [(rfl : sy_i F 84 = sy_i F 84)]; exact k3 g0 g1 g2 F1 (nz_in0 hB [] (fun j hj hn => g j hj (by simp only [List.mem_cons, List.not_mem_nil, or_false, not_or] at hn; exact trivial)) (List.forall_mem_nil _)) (fun j hj hn => g j hj (by simp only [List.mem_cons, List.not_mem_nil, or_false, not_or] at hn; exact trivial)) )
end
section
/-! ===== the class: wind, bounces, way by way (shape 3) ===== -/
theorem j3sh_0_p0 {Ls : Nat} {xs : Nat → Int32} {d : Nat} {Q : Option Value → jm_h → Prop} (hd : 1 ≤ d) (F : Nat → sy_d) (X1 X2 : List jm_c) (hB : iv_in F iv_B0)
    (k : ∀ F1 : Nat → sy_d, (∀ j, j < 82 → j ≠ 45 → F1 j = F j) → F1 45 = .inr (.inl (jm_upd (jm_upd (sy_ai F 45) ((2 : Int32)).toNatClampNeg (sy_i F 82)) ((8 : Int32)).toNatClampNeg (sy_i F 83))) → hd_W Ls xs d jm_M17 Q (23, sy_dL F1 [none, none, none, none], sy_dS F1 [.inl (.int 0), .inl (.ref 20), .inl (.ref 38), .inl (.int 3), .inl (.ref 39)], sy_dh F1 X1 X2 (iv_H 3), 0, 0)) :
    hd_W Ls xs d jm_M17 Q (0, sy_dL F [some (.inl (.ref 38)), some (.inl (.ref 20)), some (.inr (.inl 82)), some (.inr (.inl 83))], sy_dS F [], sy_dh F X1 X2 (iv_H 3), 0, 0) := by
  refine hd_run (s := 3) (nv := 84) (pc := 23) (L := [none, none, none, none]) (S := [.inl (.int 0), .inl (.ref 20), .inl (.ref 38), .inl (.int 3), .inl (.ref 39)]) (uh := hd_ov (iv_id 0 iv_B0) [(45, .inr (.inr (.inl 85)))]) (ul := []) (f := true) (sp := [23]) (d0 := 0) (O := []) (T := [(40, [.inl (.int 2), .inr (.inl 82)], [.inr (.inl 45)]), (40, [.inl (.int 8), .inr (.inl 83)], [.inr (.inl 84)])]) (P := []) jm_ok17 (by decide +kernel) (by decide +kernel) hd F X1 X2 (fun F' hF hs => ?_)
  have b83 := hd_b (F := F) (F' := F') (k := 83) (hF 83 (by decide))
  have b82 := hd_b (F := F) (F' := F') (k := 82) (hF 82 (by decide))
  have a45 := hd_ba (F := F) (F' := F') (k := 45) (hF 45 (by decide))
  have t84 : sy_da F' (.inr (.inl 84)) = .inl (jm_upd (sy_ai F 45) ((2 : Int32)).toNatClampNeg (sy_i F 82)) := hd_up (hs 0 _ rfl) rfl b82 a45
  have t85 : sy_da F' (.inr (.inl 85)) = .inl (jm_upd (jm_upd (sy_ai F 45) ((2 : Int32)).toNatClampNeg (sy_i F 82)) ((8 : Int32)).toNatClampNeg (sy_i F 83)) := hd_up (hs 1 _ rfl) rfl b83 t84
  have hB' : iv_in F' iv_B0 := iv_in_eq hB (fun j hj => hF j (Nat.lt_of_lt_of_le hj (by decide +kernel)))
  refine ⟨fun _ h => absurd h List.not_mem_nil, ?_⟩
  refine k _ ?_ ?_
  · exact fun j hj hn => (hd_keep hB' (Nat.lt_of_lt_of_le hj (by decide +kernel)) (by simp; omega)).trans (hF j (Nat.lt_of_lt_of_le hj (by decide)))
  · exact hd_ga (a := .inr (.inl 85)) (by decide +kernel) t85
theorem j3sh_0 {Ls : Nat} {xs : Nat → Int32} {d : Nat} {Q : Option Value → jm_h → Prop} (hd : 1 ≤ d) (F : Nat → sy_d) (X1 X2 : List jm_c) (hB : iv_in F iv_B0)
    (k0 : ∀ F1 : Nat → sy_d, iv_in F1 iv_B0 → (∀ j, j < 82 → j ∉ ([45] : List Nat) → F1 j = F j) → sy_ai F1 45 = jm_upd (jm_upd (sy_ai F 45) (2 : Int).toNat (sy_i F 82)) (8 : Int).toNat (sy_i F 83) → hd_W Ls xs d jm_M17 Q (23, sy_dL F1 [none, none, none, none], sy_dS F1 [.inl (.int 0), .inl (.ref 20), .inl (.ref 38), .inl (.int 3), .inl (.ref 39)], sy_dh F1 X1 X2 (iv_H 3), 0, 0)) :
    hd_W Ls xs d jm_M17 Q (0, sy_dL F [some (.inl (.ref 38)), some (.inl (.ref 20)), some (.inr (.inl 82)), some (.inr (.inl 83))], sy_dS F [], sy_dh F X1 X2 (iv_H 3), 0, 0) := by
  have w85 : jm_upd (jm_upd (sy_ai F 45) ((2 : Int32)).toNatClampNeg (sy_i F 82)) ((8 : Int32)).toNatClampNeg (sy_i F 83) = jm_upd (jm_upd (sy_ai F 45) (2 : Int).toNat (sy_i F 82)) (8 : Int).toNat (sy_i F 83) := by simp only [nz_c, (by decide : ((2 : Int32)).toInt = 2), (by decide : ((8 : Int32)).toInt = 8)]
  exact j3sh_0_p0 hd F X1 X2 hB  (fun F1 g e45 => k0 F1 (nz_in0 hB [45] (fun j hj hn => g j hj (by simp only [List.mem_cons, List.not_mem_nil, or_false, not_or] at hn; omega)) (List.forall_mem_cons.mpr ⟨fun t ht => (Option.some.inj ht) ▸ (nz_hz2 e45), List.forall_mem_nil _⟩)) (fun j hj hn => g j hj (by simp only [List.mem_cons, List.not_mem_nil, or_false, not_or] at hn; omega)) ((zz_ai e45).trans w85))
theorem j3sh_26_p0 {Ls : Nat} {xs : Nat → Int32} {d : Nat} {Q : Option Value → jm_h → Prop} (hd : 1 ≤ d) (F : Nat → sy_d) (X1 X2 : List jm_c) (hB : iv_in F iv_B0)
    (k : ∀ F1 : Nat → sy_d, (∀ j, j < 82 → j ≠ 45 → F1 j = F j) → F1 45 = .inr (.inl (jm_upd (sy_ai F 45) ((3 : Int32)).toNatClampNeg (sy_i F 82))) → Q (none) (sy_dh F1 X1 X2 (iv_H 3))) :
    hd_W Ls xs d jm_M17 Q (26, sy_dL F [none, none, none, none], sy_dS F [.inr (.inl 82), .inl (.int 3), .inl (.ref 39)], sy_dh F X1 X2 (iv_H 3), 0, 0) := by
  refine hd_ret (s := 3) (nv := 83) (v := none) (uh := hd_ov (iv_id 0 iv_B0) [(45, .inr (.inr (.inl 83)))]) (f := false) (sp := []) (d0 := 0) (O := []) (T := [(40, [.inl (.int 3), .inr (.inl 82)], [.inr (.inl 45)])]) (P := []) jm_ok17 (by decide +kernel) (by decide +kernel) hd F X1 X2 (fun F' hF hs => ?_)
  have b82 := hd_b (F := F) (F' := F') (k := 82) (hF 82 (by decide))
  have a45 := hd_ba (F := F) (F' := F') (k := 45) (hF 45 (by decide))
  have t83 : sy_da F' (.inr (.inl 83)) = .inl (jm_upd (sy_ai F 45) ((3 : Int32)).toNatClampNeg (sy_i F 82)) := hd_up (hs 0 _ rfl) rfl b82 a45
  have hB' : iv_in F' iv_B0 := iv_in_eq hB (fun j hj => hF j (Nat.lt_of_lt_of_le hj (by decide +kernel)))
  refine ⟨fun _ h => absurd h List.not_mem_nil, ?_⟩
  refine k _ ?_ ?_
  · exact fun j hj hn => (hd_keep hB' (Nat.lt_of_lt_of_le hj (by decide +kernel)) (by simp; omega)).trans (hF j (Nat.lt_of_lt_of_le hj (by decide)))
  · exact hd_ga (a := .inr (.inl 83)) (by decide +kernel) t83
theorem j3sh_26 {Ls : Nat} {xs : Nat → Int32} {d : Nat} {Q : Option Value → jm_h → Prop} (hd : 1 ≤ d) (F : Nat → sy_d) (X1 X2 : List jm_c) (hB : iv_in F iv_B0)
    (k0 : ∀ F1 : Nat → sy_d, iv_in F1 iv_B0 → (∀ j, j < 82 → j ∉ ([45] : List Nat) → F1 j = F j) → sy_ai F1 45 = jm_upd (sy_ai F 45) (3 : Int).toNat (sy_i F 82) → Q (none) (sy_dh F1 X1 X2 (iv_H 3))) :
    hd_W Ls xs d jm_M17 Q (26, sy_dL F [none, none, none, none], sy_dS F [.inr (.inl 82), .inl (.int 3), .inl (.ref 39)], sy_dh F X1 X2 (iv_H 3), 0, 0) := by
  have w83 : jm_upd (sy_ai F 45) ((3 : Int32)).toNatClampNeg (sy_i F 82) = jm_upd (sy_ai F 45) (3 : Int).toNat (sy_i F 82) := by simp only [nz_c, (by decide : ((3 : Int32)).toInt = 3)]
  exact j3sh_26_p0 hd F X1 X2 hB  (fun F1 g e45 => k0 F1 (nz_in0 hB [45] (fun j hj hn => g j hj (by simp only [List.mem_cons, List.not_mem_nil, or_false, not_or] at hn; omega)) (List.forall_mem_cons.mpr ⟨fun t ht => (Option.some.inj ht) ▸ (nz_hz2 e45), List.forall_mem_nil _⟩)) (fun j hj hn => g j hj (by simp only [List.mem_cons, List.not_mem_nil, or_false, not_or] at hn; omega)) ((zz_ai e45).trans w83))
theorem j3bo_0_p0 {Ls : Nat} {xs : Nat → Int32} {d : Nat} {Q : Option Value → jm_h → Prop} (hd : 1 ≤ d) (F : Nat → sy_d) (X1 X2 : List jm_c) (hB : iv_in F iv_B0)
    (h0 : 0 ≤ (sy_i F 82).toInt ∧ (sy_i F 82).toInt < 7)
    (k : ∀ F1 : Nat → sy_d, (∀ j, j < 82 → True → F1 j = F j) → F1 82 = .inl (.int ((sy_ai F 24).getD (sy_i F 82).toNatClampNeg 0)) → hd_W Ls xs d jm_M20 Q (9, sy_dL F1 [none, none, none], sy_dS F1 [.inl (.int 4), .inl (.ref 20), .inl (.ref 38), .inr (.inl 82)], sy_dh F1 X1 X2 (iv_H 3), 0, 0)) :
    hd_W Ls xs d jm_M20 Q (0, sy_dL F [some (.inl (.ref 38)), some (.inl (.ref 20)), some (.inr (.inl 82))], sy_dS F [], sy_dh F X1 X2 (iv_H 3), 0, 0) := by
  refine hd_run (s := 3) (nv := 83) (pc := 9) (L := [none, none, none]) (S := [.inl (.int 4), .inl (.ref 20), .inl (.ref 38), .inr (.inl 82)]) (uh := hd_ov (iv_id 0 iv_B0) []) (ul := [.inl (.inr (.inl 83))]) (f := true) (sp := [9]) (d0 := 0) (O := []) (T := [(30, [.inr (.inl 82)], [.inr (.inl 24)])]) (P := [(6, .inr (.inl 82), .inl (.ref 7))]) jm_ok20 (by decide +kernel) (by decide +kernel) hd F X1 X2 (fun F' hF hs => ?_)
  have b82 := hd_b (F := F) (F' := F') (k := 82) (hF 82 (by decide))
  have a24 := hd_ba (F := F) (F' := F') (k := 24) (hF 24 (by decide))
  have t83 : sy_dv F' (.inr (.inl 83)) = .int ((sy_ai F 24).getD (sy_i F 82).toNatClampNeg 0) := hd_rd (hs 0 _ rfl) b82 a24
  have hB' : iv_in F' iv_B0 := iv_in_eq hB (fun j hj => hF j (Nat.lt_of_lt_of_le hj (by decide +kernel)))
  refine ⟨List.forall_mem_cons.mpr ⟨hd_pb b82 (by first | exact h0 | exact h0), fun _ h => absurd h List.not_mem_nil⟩, ?_⟩
  refine k _ ?_ ?_
  · exact fun j hj _ => (hd_keep hB' (Nat.lt_of_lt_of_le hj (by decide +kernel)) (by simp)).trans (hF j (Nat.lt_of_lt_of_le hj (by decide)))
  · exact hd_gi (x := .inr (.inl 83)) (by decide +kernel) t83
theorem j3bo_0 {Ls : Nat} {xs : Nat → Int32} {d : Nat} {Q : Option Value → jm_h → Prop} (hd : 1 ≤ d) (F : Nat → sy_d) (X1 X2 : List jm_c) (hB : iv_in F iv_B0)
    (a82 : 0 ≤ (sy_i F 82).toInt ∧ (sy_i F 82).toInt ≤ 6)
    (k0 : ∀ F1 : Nat → sy_d, iv_in F1 iv_B0 → (∀ j, j < 82 → j ∉ ([] : List Nat) → F1 j = F j) → (sy_i F1 82).toInt = ((sy_ai F 24).getD ((sy_i F 82).toInt).toNat 0).toInt → sy_i F1 82 = (sy_ai F 24).getD ((sy_i F 82).toInt).toNat 0 → hd_W Ls xs d jm_M20 Q (9, sy_dL F1 [none, none, none], sy_dS F1 [.inl (.int 4), .inl (.ref 20), .inl (.ref 38), .inr (.inl 82)], sy_dh F1 X1 X2 (iv_H 3), 0, 0)) :
    hd_W Ls xs d jm_M20 Q (0, sy_dL F [some (.inl (.ref 38)), some (.inl (.ref 20)), some (.inr (.inl 82))], sy_dS F [], sy_dh F X1 X2 (iv_H 3), 0, 0) := by
  have q83 : (sy_ai F 24).getD (sy_i F 82).toNatClampNeg 0 = (sy_ai F 24).getD ((sy_i F 82).toInt).toNat 0 := by simp only [nz_c]
  have n83 : nzI ((sy_ai F 24).getD (sy_i F 82).toNatClampNeg 0) (((sy_ai F 24).getD ((sy_i F 82).toInt).toNat 0).toInt) := congrArg Int32.toInt q83
  exact j3bo_0_p0 hd F X1 X2 hB (by first | exact ⟨by omega, by omega⟩ | (simp only [nz_c]; exact ⟨by omega, by omega⟩)) (fun F1 g e82 => k0 F1 (nz_in0 hB [] (fun j hj hn => g j hj (by simp only [List.mem_cons, List.not_mem_nil, or_false, not_or] at hn; exact trivial)) (List.forall_mem_nil _)) (fun j hj hn => g j hj (by simp only [List.mem_cons, List.not_mem_nil, or_false, not_or] at hn; exact trivial)) ((congrArg Int32.toInt (zz_i e82)).trans (nzE n83)) ((zz_i e82).trans q83))
theorem j3bo_12_p0 {Ls : Nat} {xs : Nat → Int32} {d : Nat} {Q : Option Value → jm_h → Prop} (hd : 3 ≤ d) (F : Nat → sy_d) (X1 X2 : List jm_c) (hB : iv_in F iv_B0)
    (h0 : ((sy_i F 82) + (sy_i F 83)).toInt < 9)
    (h1 : 0 < ((sy_i F 82) + (sy_i F 83)).toInt)
    (k : ∀ F1 : Nat → sy_d, (∀ j, j < 82 → True → F1 j = F j) → Q (some (.int ((sy_i F 82) + (sy_i F 83)))) (sy_dh F1 X1 X2 (iv_H 3))) :
    hd_W Ls xs d jm_M20 Q (12, sy_dL F [none, none, none], sy_dS F [.inr (.inl 83), .inr (.inl 82)], sy_dh F X1 X2 (iv_H 3), 0, 0) := by
  refine hd_ret (s := 3) (nv := 84) (v := some (.inr (.inl 84))) (uh := hd_ov (iv_id 0 iv_B0) []) (f := false) (sp := []) (d0 := 2) (O := [true, true]) (T := [(0, [.inr (.inl 82), .inr (.inl 83)], [])]) (P := [(2, .inr (.inl 84), .inl (.int 9)), (2, .inl (.int 0), .inr (.inl 84))]) jm_ok20 (by decide +kernel) (by decide +kernel) hd F X1 X2 (fun F' hF hs => ?_)
  have b82 := hd_b (F := F) (F' := F') (k := 82) (hF 82 (by decide))
  have b83 := hd_b (F := F) (F' := F') (k := 83) (hF 83 (by decide))
  have t84 : sy_dv F' (.inr (.inl 84)) = .int ((sy_i F 82) + (sy_i F 83)) := hd_o (hs 0 _ rfl) b82 b83 rfl
  have hB' : iv_in F' iv_B0 := iv_in_eq hB (fun j hj => hF j (Nat.lt_of_lt_of_le hj (by decide +kernel)))
  have hk := k (sy_cm F' (hd_ov (iv_id 0 iv_B0) [] ++ [])) (fun j hj _ => (hd_keep hB' (Nat.lt_of_lt_of_le hj (by decide +kernel)) (by simp)).trans (hF j (Nat.lt_of_lt_of_le hj (by decide))))
  refine ⟨List.forall_mem_cons.mpr ⟨hd_p2 t84 rfl (by have hc : ((9) : Int32).toInt = 9 := (by decide); omega), List.forall_mem_cons.mpr ⟨hd_p2 rfl t84 (by have hc : ((0) : Int32).toInt = 0 := (by decide); omega), fun _ h => absurd h List.not_mem_nil⟩⟩, ?_⟩
  show Q (some (sy_dv F' (.inr (.inl 84)))) _
  rw [t84]
  exact hk
theorem j3bo_12_p1 {Ls : Nat} {xs : Nat → Int32} {d : Nat} {Q : Option Value → jm_h → Prop} (hd : 3 ≤ d) (F : Nat → sy_d) (X1 X2 : List jm_c) (hB : iv_in F iv_B0)
    (h0 : ((sy_i F 82) + (sy_i F 83)).toInt < 9)
    (h1 : ((sy_i F 82) + (sy_i F 83)).toInt ≤ 0)
    (k : ∀ F1 : Nat → sy_d, (∀ j, j < 82 → True → F1 j = F j) → Q (some (.int ((0 : Int32)))) (sy_dh F1 X1 X2 (iv_H 3))) :
    hd_W Ls xs d jm_M20 Q (12, sy_dL F [none, none, none], sy_dS F [.inr (.inl 83), .inr (.inl 82)], sy_dh F X1 X2 (iv_H 3), 0, 0) := by
  refine hd_ret (s := 3) (nv := 84) (v := some (.inl (.int 0))) (uh := hd_ov (iv_id 0 iv_B0) []) (f := false) (sp := []) (d0 := 2) (O := [true, false]) (T := [(0, [.inr (.inl 82), .inr (.inl 83)], [])]) (P := [(2, .inr (.inl 84), .inl (.int 9)), (3, .inl (.int 0), .inr (.inl 84))]) jm_ok20 (by decide +kernel) (by decide +kernel) hd F X1 X2 (fun F' hF hs => ?_)
  have b82 := hd_b (F := F) (F' := F') (k := 82) (hF 82 (by decide))
  have b83 := hd_b (F := F) (F' := F') (k := 83) (hF 83 (by decide))
  have t84 : sy_dv F' (.inr (.inl 84)) = .int ((sy_i F 82) + (sy_i F 83)) := hd_o (hs 0 _ rfl) b82 b83 rfl
  have hB' : iv_in F' iv_B0 := iv_in_eq hB (fun j hj => hF j (Nat.lt_of_lt_of_le hj (by decide +kernel)))
  refine ⟨List.forall_mem_cons.mpr ⟨hd_p2 t84 rfl (by have hc : ((9) : Int32).toInt = 9 := (by decide); omega), List.forall_mem_cons.mpr ⟨hd_p3 rfl t84 (by have hc : ((0) : Int32).toInt = 0 := (by decide); omega), fun _ h => absurd h List.not_mem_nil⟩⟩, ?_⟩
  refine k _ ?_
  · exact fun j hj _ => (hd_keep hB' (Nat.lt_of_lt_of_le hj (by decide +kernel)) (by simp)).trans (hF j (Nat.lt_of_lt_of_le hj (by decide)))
theorem j3bo_12_p2 {Ls : Nat} {xs : Nat → Int32} {d : Nat} {Q : Option Value → jm_h → Prop} (hd : 3 ≤ d) (F : Nat → sy_d) (X1 X2 : List jm_c) (hB : iv_in F iv_B0)
    (h0 : 9 ≤ ((sy_i F 82) + (sy_i F 83)).toInt)
    (k : ∀ F1 : Nat → sy_d, (∀ j, j < 82 → True → F1 j = F j) → Q (some (.int ((9 : Int32)))) (sy_dh F1 X1 X2 (iv_H 3))) :
    hd_W Ls xs d jm_M20 Q (12, sy_dL F [none, none, none], sy_dS F [.inr (.inl 83), .inr (.inl 82)], sy_dh F X1 X2 (iv_H 3), 0, 0) := by
  refine hd_ret (s := 3) (nv := 84) (v := some (.inl (.int 9))) (uh := hd_ov (iv_id 0 iv_B0) []) (f := false) (sp := []) (d0 := 2) (O := [false]) (T := [(0, [.inr (.inl 82), .inr (.inl 83)], [])]) (P := [(3, .inr (.inl 84), .inl (.int 9))]) jm_ok20 (by decide +kernel) (by decide +kernel) hd F X1 X2 (fun F' hF hs => ?_)
  have b82 := hd_b (F := F) (F' := F') (k := 82) (hF 82 (by decide))
  have b83 := hd_b (F := F) (F' := F') (k := 83) (hF 83 (by decide))
  have t84 : sy_dv F' (.inr (.inl 84)) = .int ((sy_i F 82) + (sy_i F 83)) := hd_o (hs 0 _ rfl) b82 b83 rfl
  have hB' : iv_in F' iv_B0 := iv_in_eq hB (fun j hj => hF j (Nat.lt_of_lt_of_le hj (by decide +kernel)))
  refine ⟨List.forall_mem_cons.mpr ⟨hd_p3 t84 rfl (by have hc : ((9) : Int32).toInt = 9 := (by decide); omega), fun _ h => absurd h List.not_mem_nil⟩, ?_⟩
  refine k _ ?_
  · exact fun j hj _ => (hd_keep hB' (Nat.lt_of_lt_of_le hj (by decide +kernel)) (by simp)).trans (hF j (Nat.lt_of_lt_of_le hj (by decide)))
theorem j3bo_12 {Ls : Nat} {xs : Nat → Int32} {d : Nat} {Q : Option Value → jm_h → Prop} (hd : 3 ≤ d) (F : Nat → sy_d) (X1 X2 : List jm_c) (hB : iv_in F iv_B0)
    (k0 : ((sy_i F 82) + (sy_i F 83)).toInt < 9 → 0 < ((sy_i F 82) + (sy_i F 83)).toInt → ∀ F1 : Nat → sy_d, iv_in F1 iv_B0 → (∀ j, j < 82 → j ∉ ([] : List Nat) → F1 j = F j) → Q (some (.int ((sy_i F 82) + (sy_i F 83)))) (sy_dh F1 X1 X2 (iv_H 3)))
    (k1 : ((sy_i F 82) + (sy_i F 83)).toInt < 9 → ((sy_i F 82) + (sy_i F 83)).toInt ≤ 0 → ∀ F1 : Nat → sy_d, iv_in F1 iv_B0 → (∀ j, j < 82 → j ∉ ([] : List Nat) → F1 j = F j) → Q (some (.int ((0 : Int32)))) (sy_dh F1 X1 X2 (iv_H 3)))
    (k2 : 9 ≤ ((sy_i F 82) + (sy_i F 83)).toInt → ∀ F1 : Nat → sy_d, iv_in F1 iv_B0 → (∀ j, j < 82 → j ∉ ([] : List Nat) → F1 j = F j) → Q (some (.int ((9 : Int32)))) (sy_dh F1 X1 X2 (iv_H 3))) :
    hd_W Ls xs d jm_M20 Q (12, sy_dL F [none, none, none], sy_dS F [.inr (.inl 83), .inr (.inl 82)], sy_dh F X1 X2 (iv_H 3), 0, 0) := by
  by_cases g0 : ((sy_i F 82) + (sy_i F 83)).toInt < 9
  · by_cases g1 : 0 < ((sy_i F 82) + (sy_i F 83)).toInt
    · have n84 : nzI ((sy_i F 82) + (sy_i F 83)) (((sy_i F 82) + (sy_i F 83)).toInt) := congrArg Int32.toInt (rfl : (sy_i F 82) + (sy_i F 83) = (sy_i F 82) + (sy_i F 83))
      exact j3bo_12_p0 hd F X1 X2 hB (by first | exact g0 | (simp only [nz_c]; exact g0) | (rw [(nzE n84)]; exact g0)) (by first | exact g1 | (simp only [nz_c]; exact g1) | (rw [(nzE n84)]; exact g1)) (fun F1 g  => by rw [(rfl : (sy_i F 82) + (sy_i F 83) = (sy_i F 82) + (sy_i F 83))]; exact k0 g0 g1 F1 (nz_in0 hB [] (fun j hj hn => g j hj (by simp only [List.mem_cons, List.not_mem_nil, or_false, not_or] at hn; exact trivial)) (List.forall_mem_nil _)) (fun j hj hn => g j hj (by simp only [List.mem_cons, List.not_mem_nil, or_false, not_or] at hn; exact trivial)) )
    replace g1 : ((sy_i F 82) + (sy_i F 83)).toInt ≤ 0 := by omega
    have n84 : nzI ((sy_i F 82) + (sy_i F 83)) (((sy_i F 82) + (sy_i F 83)).toInt) := congrArg Int32.toInt (rfl : (sy_i F 82) + (sy_i F 83) = (sy_i F 82) + (sy_i F 83))
    exact j3bo_12_p1 hd F X1 X2 hB (by first | exact g0 | (simp only [nz_c]; exact g0) | (rw [(nzE n84)]; exact g0)) (by first | exact g1 | (simp only [nz_c]; exact g1) | (rw [(nzE n84)]; exact g1)) (fun F1 g  => k1 g0 g1 F1 (nz_in0 hB [] (fun j hj hn => g j hj (by simp only [List.mem_cons, List.not_mem_nil, or_false, not_or] at hn; exact trivial)) (List.forall_mem_nil _)) (fun j hj hn => g j hj (by simp only [List.mem_cons, List.not_mem_nil, or_false, not_or] at hn; exact trivial)) )
  replace g0 : 9 ≤ ((sy_i F 82) + (sy_i F 83)).toInt := by omega
  have n84 : nzI ((sy_i F 82) + (sy_i F 83)) (((sy_i F 82) + (sy_i F 83)).toInt) := congrArg Int32.toInt (rfl : (sy_i F 82) + (sy_i F 83) = (sy_i F 82) + (sy_i F 83))
  exact j3bo_12_p2 hd F X1 X2 hB (by first | exact g0 | (simp only [nz_c]; exact g0) | (rw [(nzE n84)]; exact g0)) (fun F1 g  => k2 g0 F1 (nz_in0 hB [] (fun j hj hn => g j hj (by simp only [List.mem_cons, List.not_mem_nil, or_false, not_or] at hn; exact trivial)) (List.forall_mem_nil _)) (fun j hj hn => g j hj (by simp only [List.mem_cons, List.not_mem_nil, or_false, not_or] at hn; exact trivial)) )
end
section
/-! ===== the class: what is so, who catches, who buys (shape 3, n) ===== -/
section G3n
variable {Ls : Nat} {xs : Nat → Int32} {T : tX} {g : gS} (F : Nat → sy_d) (X1 X2 : List jm_c)
theorem j3nbi_L (hC : xC 18 T F) (hG : gC 50 (nfS T) (nbS T) F g) (w : Int32) : ∀ (m : Nat) (F1 : Nat → sy_d) (n : Nat), n + m = nfS T → qC [] F F1 → sy_i F1 82 = w → (sy_i F1 83).toInt = nfS T → (sy_i F1 85).toInt = n → sy_i F1 84 = mkS g w.toInt n →
    hd_W Ls xs 1 jm_M11 (pI 3 X1 X2 (fun x F' => qC [] F F' ∧ x = mkS g w.toInt (nfS T))) (5, sy_dL F1 [some (.inl (.ref 46)), some (.inr (.inl 82)), some (.inr (.inl 83)), some (.inr (.inl 84)), some (.inr (.inl 85))], sy_dS F1 [], sy_dh F1 X1 X2 (iv_H 3), 0, 0) := by
  have l7 : nfS T ≤ 7 := hC.2.2.1.1.1
  intro m
  induction m with
  | zero =>
    intro F1 n hm hq i82 e83 e85 i84
    refine j3nbi_5 (by decide) F1 X1 X2 hq.1 (by omega) (by omega) ?_ ?_ ?_
    · intro c0 F2 hb gg
      refine ⟨_, F2, rfl, rfl, qq_on hq hb gg (by decide), ?_⟩
      rw [i84, show n = nfS T by omega]
    · intros
      omega
    · intros
      omega
  | succ m ih =>
    intro F1 n hm hq i82 e83 e85 i84
    have eh : (sy_ai F1 54).getD (sy_i F1 85).toInt.toNat 0 = g 2 n := by
      rw [qq_a hq (by decide) (by decide), show (sy_i F1 85).toInt.toNat = n by omega]
      exact hG.1 2 n (by decide) (vF (by decide) (by omega))
    refine j3nbi_5 (by decide) F1 X1 X2 hq.1 (by omega) (by omega) ?_ ?_ ?_
    · intros
      omega
    · intro c0 c1 c2 F2 hb gg e82' i82' e83' i83' e84' i84' e85' i85'
      rw [eh, i82] at c2
      refine ih F2 (n + 1) (by omega) (qq_on hq hb gg (by decide)) (i82'.trans i82) (by omega) (by omega) ?_
      rw [i84', i84]
      exact (if_neg c2).symm
    · intro c0 c1 c2 F2 hb gg e82' i82' e83' i83' e84' i84' e85' i85'
      rw [eh, i82] at c2
      refine ih F2 (n + 1) (by omega) (qq_on hq hb gg (by decide)) (i82'.trans i82) (by omega) (by omega) ?_
      rw [i84', i84, ← ofi e85]
      exact (if_pos c2).symm
theorem j3nbi_V (hC : xC 18 T F) (hG : gC 50 (nfS T) (nbS T) F g) (w n : Int32) (hn : n.toInt = nfS T) : jm_T Ls xs 1 jm_M11 [.ref 46, .int w, .int n] (sy_dh F X1 X2 (iv_H 3)) 0 0 (pI 3 X1 X2 (fun x F' => qC [] F F' ∧ x = mkS g w.toInt (nfS T))) := by
  refine C_T (by decide) [w, n] [.inl (.ref 46), .inr (.inl 82), .inr (.inl 83)] jm_ok11 (by decide) rfl (fun F0 k0 ki => ?_)
  have i82 : sy_i F0 82 = w := ki 0
  have i83 : sy_i F0 83 = n := ki 1
  refine j3nbi_0 (by decide) F0 X1 X2 (hd_iveq0 hC.1 k0) ?_
  intro F1 hb gg e82 j82 e83 j83 e84 j84 e85 j85
  exact j3nbi_L F X1 X2 hC hG w (nfS T) F1 0 (by omega) (qq_src (qq_mk hb gg (by decide)) k0) (j82.trans i82) (by rw [e83, i83]; exact hn) e85 j84
theorem j3nhm_V (hC : xC 18 T F) (hG : gC 50 (nfS T) (nbS T) F g) (w n : Int32) (hn : n.toInt = nfS T) : jm_T Ls xs 2 jm_M12 [.ref 46, .int w, .int n] (sy_dh F X1 X2 (iv_H 3)) 0 0 (pI 3 X1 X2 (fun x F' => qC [] F F' ∧ x = ppS (mkS g w.toInt (nfS T)))) := by
  refine C_T (by decide) [w, n] [.inl (.ref 46), .inr (.inl 82), .inr (.inl 83)] jm_ok12 (by decide) rfl (fun F0 k0 ki => ?_)
  have i82 : sy_i F0 82 = w := ki 0
  have i83 : sy_i F0 83 = n := ki 1
  refine j3nhm_0 (by decide) F0 X1 X2 (hd_iveq0 hC.1 k0) ?_
  intro F1 hb gg e82 j82 e83 j83
  have q1 : qC [] F F1 := qq_src (qq_mk hb gg (by decide)) k0
  refine hd_calI (R := fun x F' => qC [] F1 F' ∧ x = mkS g (sy_i F1 82).toInt (nfS T)) (nh := 82) (nv := 82) (s := 3) (s1 := 3) (d1 := 1) (M1 := jm_M11) (As := [.inl (.ref 46), .inr (.inl 82), .inr (.inl 83)]) (rest := []) jm_ok12 rfl rfl (by decide) (by decide +kernel) (j3nbi_V F1 X1 X2 (xC_q (by decide) hC q1 (by decide)) (gC_eq hG (fun j h1 h2 => q1.2 j (by omega) (by simp))) _ _ (by rw [j83, i83]; exact hn)) (fun F3 F' x hR p1 p2 p3 => ?_)
  obtain ⟨r1, r2⟩ := hR
  rw [j82, i82] at r2
  have q3 : qC [] F F3 := qq_trans q1 (qC_dst r1 p1)
  refine j3nhm_6 (by decide) F3 X1 X2 q3.1 ?_
  intro F4 hb4 g4
  refine ⟨_, F4, rfl, rfl, qq_on q3 hb4 g4 (by decide), ?_⟩
  have i82' : sy_i F3 82 = x := zz_i p3
  rw [i82', r2]
  exact bc_mk hC.2.2.1 g w.toInt
theorem j3nnr_L (hC : xC 18 T F) (hG : gC 50 (nfS T) (nbS T) F g) (hO : okS T g) {x c : Int} (hx : 0 ≤ x ∧ x ≤ 9) : ∀ (m : Nat) (F1 : Nat → sy_d) (n : Nat), n + m = nbS T → qC [] F F1 → (sy_i F1 82).toInt = x → (sy_i F1 83).toInt = c → (sy_i F1 86).toInt = n → (sy_i F1 84).toInt = (nrS T g x c n).1 → (sy_i F1 85).toInt = (nrS T g x c n).2 →
    hd_W Ls xs 2 jm_M13 (pI 3 X1 X2 (fun y F' => qC [] F F' ∧ y.toInt = (nrS T g x c (nbS T)).1)) (10, sy_dL F1 [some (.inl (.ref 46)), some (.inl (.ref 20)), some (.inr (.inl 82)), some (.inr (.inl 83)), some (.inr (.inl 84)), some (.inr (.inl 85)), some (.inr (.inl 86)), none], sy_dS F1 [], sy_dh F1 X1 X2 (iv_H 3), 0, 0) := by
  have l4 : nbS T ≤ 4 := hC.2.2.1.1.2.1
  have en : (sy_i F 19).toInt = (nbS T : Int) := hC.2.1.2.1.1
  intro m
  induction m with
  | zero =>
    intro F1 n hm hq e82 e83 e86 e84 e85
    have en1 : (sy_i F1 19).toInt = (nbS T : Int) := by rw [qq_i hq (by decide) (by decide)]; exact en
    refine j3nnr_10 (by decide) F1 X1 X2 hq.1 (by omega) ?_ ?_ ?_ ?_ ?_ ?_ ?_ ?_ ?_
    · intro c0 F2 hb gg
      refine ⟨_, F2, rfl, rfl, qq_on hq hb gg (by decide), ?_⟩
      rw [e84, show n = nbS T by omega]
    iterate 8
      intros
      omega
  | succ m ih =>
    intro F1 n hm hq e82 e83 e86 e84 e85
    have en1 : (sy_i F1 19).toInt = (nbS T : Int) := by rw [qq_i hq (by decide) (by decide)]; exact en
    have enn : (sy_i F1 86).toInt.toNat = n := by omega
    have r60 : (sy_ai F1 60).getD (sy_i F1 86).toInt.toNat 0 = g 7 n := by
      rw [qq_a hq (by decide) (by decide), enn]
      exact hG.1 7 n (by decide) (vB (Or.inl rfl) (by omega))
    have r61 : (sy_ai F1 61).getD (sy_i F1 86).toInt.toNat 0 = g 8 n := by
      rw [qq_a hq (by decide) (by decide), enn]
      exact hG.1 8 n (by decide) (vB (Or.inr rfl) (by omega))
    have rea : ((sy_ai F1 29).getD (sy_i F1 86).toInt.toNat 0).toInt = (tB T n).2.1 := by
      rw [qq_a hq (by decide) (by decide), enn]
      exact (xX_b hC (show n < nbS T by omega)).2.1
    have hst := hO.1 n (by omega)
    have d1 : (g 7 n - sy_i F1 82).toInt = (g 7 n).toInt - x := by rw [nz_sub rfl e82 (by omega) (by omega)]
    have d2 : (0 - (g 7 n - sy_i F1 82)).toInt = x - (g 7 n).toInt := by
      rw [nz_sub (by decide : (0 : Int32).toInt = 0) d1 (by omega) (by omega)]
      omega
    have hstep : (nrS T g x c (n + 1)) = if (((g 7 n).toInt - x).natAbs : Int) ≤ (tB T n).2.1 ∧ (((g 7 n).toInt - x).natAbs : Int) < (nrS T g x c n).2 ∧ c ≤ (g 8 n).toInt then ((n : Int), (((g 7 n).toInt - x).natAbs : Int)) else nrS T g x c n := rfl
    have b86 : 0 ≤ (sy_i F1 86).toInt ∧ (sy_i F1 86).toInt ≤ 4 := by omega
    have yes : ∀ F2 : Nat → sy_d, iv_in F2 iv_B0 → (∀ j, j < 82 → j ∉ ([] : List Nat) → F2 j = F1 j) → (sy_i F2 82).toInt = (sy_i F1 82).toInt → (sy_i F2 83).toInt = (sy_i F1 83).toInt → (sy_i F2 84).toInt = (sy_i F1 86).toInt → (sy_i F2 85).toInt = (((g 7 n).toInt - x).natAbs : Int) → (sy_i F2 86).toInt = (sy_i F1 86).toInt + 1 → ((((g 7 n).toInt - x).natAbs : Int) ≤ (tB T n).2.1 ∧ (((g 7 n).toInt - x).natAbs : Int) < (nrS T g x c n).2 ∧ c ≤ (g 8 n).toInt) → hd_W Ls xs 2 jm_M13 (pI 3 X1 X2 (fun y F' => qC [] F F' ∧ y.toInt = (nrS T g x c (nbS T)).1)) (10, sy_dL F2 [some (.inl (.ref 46)), some (.inl (.ref 20)), some (.inr (.inl 82)), some (.inr (.inl 83)), some (.inr (.inl 84)), some (.inr (.inl 85)), some (.inr (.inl 86)), none], sy_dS F2 [], sy_dh F2 X1 X2 (iv_H 3), 0, 0) := fun F2 hb gg f82 f83 f84 f85 f86 h => ih F2 (n + 1) (by omega) (qq_on hq hb gg (by decide)) (by omega) (by omega) (by omega) (by rw [hstep, if_pos h]; show _ = (n : Int); omega) (by rw [hstep, if_pos h]; exact f85)
    have no : ∀ F2 : Nat → sy_d, iv_in F2 iv_B0 → (∀ j, j < 82 → j ∉ ([] : List Nat) → F2 j = F1 j) → (sy_i F2 82).toInt = (sy_i F1 82).toInt → (sy_i F2 83).toInt = (sy_i F1 83).toInt → (sy_i F2 84).toInt = (sy_i F1 84).toInt → (sy_i F2 85).toInt = (sy_i F1 85).toInt → (sy_i F2 86).toInt = (sy_i F1 86).toInt + 1 → ¬ ((((g 7 n).toInt - x).natAbs : Int) ≤ (tB T n).2.1 ∧ (((g 7 n).toInt - x).natAbs : Int) < (nrS T g x c n).2 ∧ c ≤ (g 8 n).toInt) → hd_W Ls xs 2 jm_M13 (pI 3 X1 X2 (fun y F' => qC [] F F' ∧ y.toInt = (nrS T g x c (nbS T)).1)) (10, sy_dL F2 [some (.inl (.ref 46)), some (.inl (.ref 20)), some (.inr (.inl 82)), some (.inr (.inl 83)), some (.inr (.inl 84)), some (.inr (.inl 85)), some (.inr (.inl 86)), none], sy_dS F2 [], sy_dh F2 X1 X2 (iv_H 3), 0, 0) := fun F2 hb gg f82 f83 f84 f85 f86 h => ih F2 (n + 1) (by omega) (qq_on hq hb gg (by decide)) (by omega) (by omega) (by omega) (by rw [hstep, if_neg h]; omega) (by rw [hstep, if_neg h]; omega)
    refine j3nnr_10 (by decide) F1 X1 X2 hq.1 b86 ?_ ?_ ?_ ?_ ?_ ?_ ?_ ?_ ?_
    · intros
      omega
    · intro c0 c1 c2 F2 hb gg f82 k82 f83 k83 f84 k84 f85 k85 f86 k86
      rw [r60, d1] at c1
      rw [rea, r60, d1] at c2
      exact no F2 hb gg f82 f83 f84 f85 f86 (by omega)
    · intro c0 c1 c2 c3 F2 hb gg f82 k82 f83 k83 f84 k84 f85 k85 f86 k86
      rw [r60, d1] at c1
      rw [rea, r60, d1] at c2
      rw [r60, d1] at c3
      exact no F2 hb gg f82 f83 f84 f85 f86 (by omega)
    · intro c0 c1 c2 c3 c4 F2 hb gg f82 k82 f83 k83 f84 k84 f85 k85 f86 k86
      rw [r60, d1] at c1
      rw [rea, r60, d1] at c2
      rw [r60, d1] at c3
      rw [r61] at c4
      exact no F2 hb gg f82 f83 f84 f85 f86 (by omega)
    · intro c0 c1 c2 c3 c4 F2 hb gg f82 k82 f83 k83 f84 k84 f85 k85 f86 k86
      rw [r60, d1] at c1
      rw [rea, r60, d1] at c2
      rw [r60, d1] at c3
      rw [r61] at c4
      rw [r60, d1] at f85
      exact yes F2 hb gg f82 f83 f84 (by omega) f86 (by omega)
    · intro c0 c1 c2 F2 hb gg f82 k82 f83 k83 f84 k84 f85 k85 f86 k86
      rw [r60, d1] at c1
      rw [rea, r60, d2] at c2
      exact no F2 hb gg f82 f83 f84 f85 f86 (by omega)
    · intro c0 c1 c2 c3 F2 hb gg f82 k82 f83 k83 f84 k84 f85 k85 f86 k86
      rw [r60, d1] at c1
      rw [rea, r60, d2] at c2
      rw [r60, d2] at c3
      exact no F2 hb gg f82 f83 f84 f85 f86 (by omega)
    · intro c0 c1 c2 c3 c4 F2 hb gg f82 k82 f83 k83 f84 k84 f85 k85 f86 k86
      rw [r60, d1] at c1
      rw [rea, r60, d2] at c2
      rw [r60, d2] at c3
      rw [r61] at c4
      exact no F2 hb gg f82 f83 f84 f85 f86 (by omega)
    · intro c0 c1 c2 c3 c4 F2 hb gg f82 k82 f83 k83 f84 k84 f85 k85 f86 k86
      rw [r60, d1] at c1
      rw [rea, r60, d2] at c2
      rw [r60, d2] at c3
      rw [r61] at c4
      rw [r60, d2] at f85
      exact yes F2 hb gg f82 f83 f84 (by omega) f86 (by omega)
theorem j3nnr_V (hC : xC 18 T F) (hG : gC 50 (nfS T) (nbS T) F g) (hO : okS T g) {x c : Int32} (hx : 0 ≤ x.toInt ∧ x.toInt ≤ 9) : jm_T Ls xs 2 jm_M13 [.ref 46, .ref 20, .int x, .int c] (sy_dh F X1 X2 (iv_H 3)) 0 0 (pI 3 X1 X2 (fun y F' => qC [] F F' ∧ y.toInt = (nrS T g x.toInt c.toInt (nbS T)).1)) := by
  refine C_T (by decide) [x, c] [.inl (.ref 46), .inl (.ref 20), .inr (.inl 82), .inr (.inl 83)] jm_ok13 (by decide) rfl (fun F0 k0 ki => ?_)
  have i82 : sy_i F0 82 = x := ki 0
  have i83 : sy_i F0 83 = c := ki 1
  refine j3nnr_0 (by decide) F0 X1 X2 (hd_iveq0 hC.1 k0) ?_
  intro F1 hb gg e82 j82 e83 j83 e84 j84 e85 j85 e86 j86
  exact j3nnr_L F X1 X2 hC hG hO hx (nbS T) F1 0 (by omega) (qq_src (qq_mk hb gg (by decide)) k0) (by rw [e82, i82]) (by rw [e83, i83]) e86 e84 e85
theorem j3nfa_L (hC : xC 18 T F) (hG : gC 50 (nfS T) (nbS T) F g) {x : Int32} {c : Int} : ∀ (m : Nat) (F1 : Nat → sy_d) (n : Nat), n + m = nbS T → qC [] F F1 → sy_i F1 82 = x → (sy_i F1 83).toInt = c → (sy_i F1 84).toInt = n → fsS g x c n = -2 →
    hd_W Ls xs 1 jm_M14 (pI 3 X1 X2 (fun y F' => qC [] F F' ∧ y.toInt = fsS g x c (nbS T))) (3, sy_dL F1 [some (.inl (.ref 46)), some (.inl (.ref 20)), some (.inr (.inl 82)), some (.inr (.inl 83)), some (.inr (.inl 84))], sy_dS F1 [], sy_dh F1 X1 X2 (iv_H 3), 0, 0) := by
  have l4 : nbS T ≤ 4 := hC.2.2.1.1.2.1
  have en : (sy_i F 19).toInt = (nbS T : Int) := hC.2.1.2.1.1
  intro m
  induction m with
  | zero =>
    intro F1 n hm hq i82 e83 e84 hfs
    have en1 : (sy_i F1 19).toInt = (nbS T : Int) := by rw [qq_i hq (by decide) (by decide)]; exact en
    refine j3nfa_3 (by decide) F1 X1 X2 hq.1 (by omega) ?_ ?_ ?_ ?_
    · intro c0 F2 hb gg
      refine ⟨_, F2, rfl, rfl, qq_on hq hb gg (by decide), ?_⟩
      rw [show nbS T = n by omega, hfs]
      decide
    iterate 3
      intros
      omega
  | succ m ih =>
    intro F1 n hm hq i82 e83 e84 hfs
    have en1 : (sy_i F1 19).toInt = (nbS T : Int) := by rw [qq_i hq (by decide) (by decide)]; exact en
    have enn : (sy_i F1 84).toInt.toNat = n := by omega
    have r60 : (sy_ai F1 60).getD (sy_i F1 84).toInt.toNat 0 = g 7 n := by
      rw [qq_a hq (by decide) (by decide), enn]
      exact hG.1 7 n (by decide) (vB (Or.inl rfl) (by omega))
    have r61 : (sy_ai F1 61).getD (sy_i F1 84).toInt.toNat 0 = g 8 n := by
      rw [qq_a hq (by decide) (by decide), enn]
      exact hG.1 8 n (by decide) (vB (Or.inr rfl) (by omega))
    have hst : fsS g x c (n + 1) = if (g 7 n) = x ∧ c ≤ (g 8 n).toInt then (n : Int) else -2 := by
      show (if 0 ≤ fsS g x c n then _ else _) = _
      rw [if_neg (by omega)]
    refine j3nfa_3 (by decide) F1 X1 X2 hq.1 (by omega) ?_ ?_ ?_ ?_
    · intros
      omega
    · intro c0 c1 F2 hb gg f82 k82 f83 k83 f84 k84
      rw [r60, i82] at c1
      refine ih F2 (n + 1) (by omega) (qq_on hq hb gg (by decide)) (k82.trans i82) (by omega) (by omega) ?_
      rw [hst, if_neg (fun z => c1 (congrArg Int32.toInt z.1))]
    · intro c0 c1 c2 F2 hb gg f82 k82 f83 k83 f84 k84
      rw [r61] at c2
      refine ih F2 (n + 1) (by omega) (qq_on hq hb gg (by decide)) (k82.trans i82) (by omega) (by omega) ?_
      rw [hst, if_neg (fun z => by omega)]
    · intro c0 c1 c2 F2 hb gg
      rw [r60, i82] at c1
      rw [r61] at c2
      refine ⟨_, F2, rfl, rfl, qq_on hq hb gg (by decide), ?_⟩
      have hs1 : fsS g x c (n + 1) = n := by rw [hst, if_pos ⟨Int32.toInt_inj.mp c1, by omega⟩]
      have := fs_st (g := g) (x := x) (c := c) (n := n + 1) (by omega) m
      rw [show n + 1 + m = nbS T by omega] at this
      omega
theorem j3nfa_V (hC : xC 18 T F) (hG : gC 50 (nfS T) (nbS T) F g) (x c : Int32) : jm_T Ls xs 1 jm_M14 [.ref 46, .ref 20, .int x, .int c] (sy_dh F X1 X2 (iv_H 3)) 0 0 (pI 3 X1 X2 (fun y F' => qC [] F F' ∧ y.toInt = fsS g x c.toInt (nbS T))) := by
  refine C_T (by decide) [x, c] [.inl (.ref 46), .inl (.ref 20), .inr (.inl 82), .inr (.inl 83)] jm_ok14 (by decide) rfl (fun F0 k0 ki => ?_)
  have i82 : sy_i F0 82 = x := ki 0
  have i83 : sy_i F0 83 = c := ki 1
  refine j3nfa_0 (by decide) F0 X1 X2 (hd_iveq0 hC.1 k0) ?_
  intro F1 hb gg e82 j82 e83 j83 e84 j84
  exact j3nfa_L F X1 X2 hC hG (nbS T) F1 0 (by omega) (qq_src (qq_mk hb gg (by decide)) k0) (j82.trans i82) (by rw [e83, i83]) e84 rfl
end G3n
end
section
/-! ===== the class: wind, and where it bounces to (shape 3) ===== -/
section WB3
variable {Ls : Nat} {xs : Nat → Int32} {T : tX} (F : Nat → sy_d) (X1 X2 : List jm_c)
theorem j3tl_V (hC : xC 18 T F) {a : Int32} {k : Nat} (hk : k < 6) (ha : a.toInt = k) : jm_T Ls xs 4 jm_M21 [.ref 38, .ref 20, .int a] (sy_dh F X1 X2 (iv_H 3)) 0 0 (pI 3 X1 X2 (fun x F' => qC [46] F F' ∧ x.toInt = lwT T k (v45 F))) := j3to_V F X1 X2 hC.1 hC.2.1 hC.2.2.1 hC.2.2.2 hk ha
theorem j3sh_V (hC : xC 18 T F) (h l : Int32) : jm_T Ls xs 5 jm_M17 [.ref 38, .ref 20, .int h, .int l] (sy_dh F X1 X2 (iv_H 3)) 0 0 (pV 3 X1 X2 (fun F' => qC [45, 46] F F' ∧ v45 F' 2 = h ∧ v45 F' 8 = l ∧ v45 F' 3 = Int32.ofInt (windT T h l))) := by
  refine C_T (by decide) [h, l] [.inl (.ref 38), .inl (.ref 20), .inr (.inl 82), .inr (.inl 83)] jm_ok17 (by decide) rfl (fun F0 k0 ki => ?_)
  have i82 : sy_i F0 82 = h := ki 0
  have i83 : sy_i F0 83 = l := ki 1
  refine j3sh_0 (by decide) F0 X1 X2 (hd_iveq0 hC.1 k0) ?_
  intro F1 hb gg a45
  have q1 : qC [45, 46] F F1 := qq_src (qq_mk hb gg (by decide)) k0
  rw [i82, i83] at a45
  have c1 := xC_q (by decide) hC q1 (by decide)
  have k2 : v45 F1 2 = h := by
    show (sy_ai F1 45).getD 2 0 = h
    rw [a45, jm_upd_at, jm_upd_at]
    rfl
  have k8 : v45 F1 8 = l := by
    show (sy_ai F1 45).getD 8 0 = l
    rw [a45, jm_upd_at]
    rfl
  refine hd_calI (R := fun x F' => qC [46] F1 F' ∧ x.toInt = lwT T 0 (v45 F1)) (nh := 82) (nv := 82) (s := 3) (s1 := 3) (d1 := 4) (M1 := jm_M21) (As := [.inl (.ref 38), .inl (.ref 20), .inl (.int 0)]) (rest := [.inl (.int 3), .inl (.ref 39)]) jm_ok17 rfl rfl (by decide) (by decide +kernel) (j3tl_V F1 X1 X2 c1 (by decide) (by decide)) (fun F3 F' x hR p1 p2 p3 => ?_)
  obtain ⟨r1, r2⟩ := hR
  have q3 : qC [45, 46] F F3 := qq_trans q1 (qq_up (qC_dst r1 p1) (by decide))
  have e45 : sy_ai F3 45 = sy_ai F1 45 := (nz_fa (p1 45 (by decide))).trans (qq_a r1 (by decide) (by decide))
  refine j3sh_26 (by decide) F3 X1 X2 q3.1 ?_
  intro F4 hb4 g4 a45'
  have key : ∀ j : Nat, v45 F4 j = if j = (3 : Int).toNat then x else v45 F1 j := fun j => by
    show (sy_ai F4 45).getD j 0 = _
    rw [a45', jm_upd_at, e45, zz_i p3]
    rfl
  refine ⟨F4, rfl, rfl, qq_on q3 hb4 g4 (by decide), by rw [key]; exact k2, by rw [key]; exact k8, ?_⟩
  have e : lwT T 0 (v45 F1) = windT T h l := lwT_cg hC.2.2.1 (nine9 (fun t => absurd t (by decide)) (fun t => absurd t (by decide)) (fun _ => k2) (fun t => absurd t (by decide)) (fun t => absurd t (by decide)) (fun t => absurd t (by decide)) (fun t => absurd t (by decide)) (fun t => absurd t (by decide)) (fun _ => k8))
  rw [key, ← e]
  exact (ofi r2).symm
theorem j3bo_V (hC : xC 18 T F) {f : Int32} (hf : 0 ≤ f.toInt ∧ f.toInt < nfS T) : jm_T Ls xs 5 jm_M20 [.ref 38, .ref 20, .int f] (sy_dh F X1 X2 (iv_H 3)) 0 0 (pI 3 X1 X2 (fun x F' => qC [46] F F' ∧ x = Int32.ofInt (hdz 0 9 (Int32.ofInt (tF T f.toInt.toNat).1 + Int32.ofInt (lwT T 4 (v45 F))).toInt))) := by
  have l7 : nfS T ≤ 7 := hC.2.2.1.1.1
  refine C_T (by decide) [f] [.inl (.ref 38), .inl (.ref 20), .inr (.inl 82)] jm_ok20 (by decide) rfl (fun F0 k0 ki => ?_)
  have i82 : sy_i F0 82 = f := ki 0
  refine j3bo_0 (by decide) F0 X1 X2 (hd_iveq0 hC.1 k0) (by rw [i82]; omega) ?_
  intro F1 hb gg e82 j82
  have q1 : qC [] F F1 := qq_src (qq_mk hb gg (by decide)) k0
  have j82 : sy_i F1 82 = Int32.ofInt (tF T f.toInt.toNat).1 := by
    rw [j82, i82, nz_fa (k0 24 (by decide))]
    exact (xX_f hC (show f.toInt.toNat < nfS T by omega)).1
  refine hd_calI (R := fun x F' => qC [46] F1 F' ∧ x.toInt = lwT T 4 (v45 F1)) (nh := 82) (nv := 83) (s := 3) (s1 := 3) (d1 := 4) (M1 := jm_M21) (As := [.inl (.ref 38), .inl (.ref 20), .inl (.int 4)]) (rest := [.inr (.inl 82)]) jm_ok20 rfl rfl (by decide) (by decide +kernel) (j3tl_V F1 X1 X2 (xC_q (by decide) hC q1 (by decide)) (by decide) (by decide)) (fun F3 F' x hR p1 p2 p3 => ?_)
  obtain ⟨r1, r2⟩ := hR
  have ev : v45 F1 = v45 F := by unfold v45; rw [qq_a q1 (by decide) (by decide)]
  rw [ev] at r2
  have q3 : qC [46] F F3 := qq_trans (qq_up q1 (by decide)) (qC_dst r1 p1)
  have k82 : sy_i F3 82 = Int32.ofInt (tF T f.toInt.toNat).1 := (eI (p2 82 (by decide) (by decide))).trans j82
  have k83 : sy_i F3 83 = Int32.ofInt (lwT T 4 (v45 F)) := by rw [zz_i p3]; exact (ofi r2).symm
  refine j3bo_12 (by decide) F3 X1 X2 q3.1 ?_ ?_ ?_
  · intro c0 c1 F4 hb4 g4
    refine ⟨_, F4, rfl, rfl, qq_on q3 hb4 g4 (by decide), ?_⟩
    rw [k82, k83] at c0 c1 ⊢
    have hz : hdz 0 9 (Int32.ofInt (tF T f.toInt.toNat).1 + Int32.ofInt (lwT T 4 (v45 F))).toInt = (Int32.ofInt (tF T f.toInt.toNat).1 + Int32.ofInt (lwT T 4 (v45 F))).toInt := by
      unfold hdz
      rw [if_neg (by omega), if_neg (by omega)]
    rw [hz, Int32.ofInt_toInt]
  · intro c0 c1 F4 hb4 g4
    refine ⟨_, F4, rfl, rfl, qq_on q3 hb4 g4 (by decide), ?_⟩
    rw [k82, k83] at c0 c1
    have hz : hdz 0 9 (Int32.ofInt (tF T f.toInt.toNat).1 + Int32.ofInt (lwT T 4 (v45 F))).toInt = 0 := by
      unfold hdz
      split
      · rfl
      · rw [if_neg (by omega)]
        omega
    rw [hz]
    rfl
  · intro c0 F4 hb4 g4
    refine ⟨_, F4, rfl, rfl, qq_on q3 hb4 g4 (by decide), ?_⟩
    rw [k82, k83] at c0
    have hz : hdz 0 9 (Int32.ofInt (tF T f.toInt.toNat).1 + Int32.ofInt (lwT T 4 (v45 F))).toInt = 9 := by
      unfold hdz
      rw [if_neg (by omega)]
      split
      · rfl
      · omega
    rw [hz]
    rfl
end WB3
end
section
/-! ===== the class: an hour, way by way (shape 3, n) ===== -/
theorem j3nsk_0_p0 {Ls : Nat} {xs : Nat → Int32} {d : Nat} {Q : Option Value → jm_h → Prop} (hd : 2 ≤ d) (F : Nat → sy_d) (X1 X2 : List jm_c) (hB : iv_in F iv_B0)
    (h0 : 0 ≤ (sy_i F 82).toInt ∧ (sy_i F 82).toInt < 7)
    (h1 : 0 ≤ (sy_i F 82).toInt ∧ (sy_i F 82).toInt < 7)
    (h2 : 0 ≤ (sy_i F 82).toInt ∧ (sy_i F 82).toInt < 7)
    (h3 : 0 ≤ (sy_i F 82).toInt ∧ (sy_i F 82).toInt < 7)
    (h4 : 0 ≤ (sy_i F 82).toInt ∧ (sy_i F 82).toInt < 7)
    (h5 : 0 ≤ (sy_i F 82).toInt ∧ (sy_i F 82).toInt < 7)
    (k : ∀ F1 : Nat → sy_d, (∀ j, j < 82 → j ≠ 45 → F1 j = F j) → F1 45 = .inr (.inl (jm_upd (jm_upd (jm_upd (jm_upd (jm_upd (jm_upd (sy_ai F 45) ((0 : Int32)).toNatClampNeg ((sy_ai F 53).getD (sy_i F 82).toNatClampNeg 0)) ((1 : Int32)).toNatClampNeg ((sy_ai F 25).getD (sy_i F 82).toNatClampNeg 0)) ((4 : Int32)).toNatClampNeg ((sy_ai F 24).getD (sy_i F 82).toNatClampNeg 0)) ((5 : Int32)).toNatClampNeg ((sy_ai F 58).getD (sy_i F 82).toNatClampNeg 0)) ((6 : Int32)).toNatClampNeg ((sy_ai F 57).getD (sy_i F 82).toNatClampNeg 0)) ((7 : Int32)).toNatClampNeg ((sy_ai F 56).getD (sy_i F 82).toNatClampNeg 0))) → F1 82 = .inl (.int (sy_i F 82)) → hd_W Ls xs d jm_M4 Q (16, sy_dL F1 [none, some (.inl (.ref 20)), some (.inl (.ref 46)), some (.inr (.inl 82)), none, none], sy_dS F1 [.inl (.int 3), .inl (.ref 20), .inl (.ref 38)], sy_dh F1 X1 X2 (iv_H 3), 0, 0)) :
    hd_W Ls xs d jm_M4 Q (0, sy_dL F [some (.inl (.ref 41)), some (.inl (.ref 20)), some (.inl (.ref 46)), some (.inr (.inl 82)), none, none], sy_dS F [], sy_dh F X1 X2 (iv_H 3), 0, 0) := by
  refine hd_run (s := 3) (nv := 83) (pc := 16) (L := [none, some (.inl (.ref 20)), some (.inl (.ref 46)), some (.inr (.inl 82)), none, none]) (S := [.inl (.int 3), .inl (.ref 20), .inl (.ref 38)]) (uh := hd_ov (iv_id 0 iv_B0) [(45, .inr (.inr (.inl 94)))]) (ul := [.inl (.inr (.inl 82))]) (f := true) (sp := [16]) (d0 := 1) (O := []) (T := [(30, [.inr (.inl 82)], [.inr (.inl 53)]), (40, [.inl (.int 0), .inr (.inl 83)], [.inr (.inl 45)]), (30, [.inr (.inl 82)], [.inr (.inl 25)]), (40, [.inl (.int 1), .inr (.inl 85)], [.inr (.inl 84)]), (30, [.inr (.inl 82)], [.inr (.inl 24)]), (40, [.inl (.int 4), .inr (.inl 87)], [.inr (.inl 86)]), (30, [.inr (.inl 82)], [.inr (.inl 58)]), (40, [.inl (.int 5), .inr (.inl 89)], [.inr (.inl 88)]), (30, [.inr (.inl 82)], [.inr (.inl 57)]), (40, [.inl (.int 6), .inr (.inl 91)], [.inr (.inl 90)]), (30, [.inr (.inl 82)], [.inr (.inl 56)]), (40, [.inl (.int 7), .inr (.inl 93)], [.inr (.inl 92)])]) (P := [(6, .inr (.inl 82), .inl (.ref 7)), (6, .inr (.inl 82), .inl (.ref 7)), (6, .inr (.inl 82), .inl (.ref 7)), (6, .inr (.inl 82), .inl (.ref 7)), (6, .inr (.inl 82), .inl (.ref 7)), (6, .inr (.inl 82), .inl (.ref 7))]) jm_ok4 (by decide +kernel) (by decide +kernel) hd F X1 X2 (fun F' hF hs => ?_)
  have b82 := hd_b (F := F) (F' := F') (k := 82) (hF 82 (by decide))
  have a56 := hd_ba (F := F) (F' := F') (k := 56) (hF 56 (by decide))
  have t93 : sy_dv F' (.inr (.inl 93)) = .int ((sy_ai F 56).getD (sy_i F 82).toNatClampNeg 0) := hd_rd (hs 10 _ rfl) b82 a56
  have a57 := hd_ba (F := F) (F' := F') (k := 57) (hF 57 (by decide))
  have t91 : sy_dv F' (.inr (.inl 91)) = .int ((sy_ai F 57).getD (sy_i F 82).toNatClampNeg 0) := hd_rd (hs 8 _ rfl) b82 a57
  have a58 := hd_ba (F := F) (F' := F') (k := 58) (hF 58 (by decide))
  have t89 : sy_dv F' (.inr (.inl 89)) = .int ((sy_ai F 58).getD (sy_i F 82).toNatClampNeg 0) := hd_rd (hs 6 _ rfl) b82 a58
  have a24 := hd_ba (F := F) (F' := F') (k := 24) (hF 24 (by decide))
  have t87 : sy_dv F' (.inr (.inl 87)) = .int ((sy_ai F 24).getD (sy_i F 82).toNatClampNeg 0) := hd_rd (hs 4 _ rfl) b82 a24
  have a25 := hd_ba (F := F) (F' := F') (k := 25) (hF 25 (by decide))
  have t85 : sy_dv F' (.inr (.inl 85)) = .int ((sy_ai F 25).getD (sy_i F 82).toNatClampNeg 0) := hd_rd (hs 2 _ rfl) b82 a25
  have a53 := hd_ba (F := F) (F' := F') (k := 53) (hF 53 (by decide))
  have t83 : sy_dv F' (.inr (.inl 83)) = .int ((sy_ai F 53).getD (sy_i F 82).toNatClampNeg 0) := hd_rd (hs 0 _ rfl) b82 a53
  have a45 := hd_ba (F := F) (F' := F') (k := 45) (hF 45 (by decide))
  have t84 : sy_da F' (.inr (.inl 84)) = .inl (jm_upd (sy_ai F 45) ((0 : Int32)).toNatClampNeg ((sy_ai F 53).getD (sy_i F 82).toNatClampNeg 0)) := hd_up (hs 1 _ rfl) rfl t83 a45
  have t86 : sy_da F' (.inr (.inl 86)) = .inl (jm_upd (jm_upd (sy_ai F 45) ((0 : Int32)).toNatClampNeg ((sy_ai F 53).getD (sy_i F 82).toNatClampNeg 0)) ((1 : Int32)).toNatClampNeg ((sy_ai F 25).getD (sy_i F 82).toNatClampNeg 0)) := hd_up (hs 3 _ rfl) rfl t85 t84
  have t88 : sy_da F' (.inr (.inl 88)) = .inl (jm_upd (jm_upd (jm_upd (sy_ai F 45) ((0 : Int32)).toNatClampNeg ((sy_ai F 53).getD (sy_i F 82).toNatClampNeg 0)) ((1 : Int32)).toNatClampNeg ((sy_ai F 25).getD (sy_i F 82).toNatClampNeg 0)) ((4 : Int32)).toNatClampNeg ((sy_ai F 24).getD (sy_i F 82).toNatClampNeg 0)) := hd_up (hs 5 _ rfl) rfl t87 t86
  have t90 : sy_da F' (.inr (.inl 90)) = .inl (jm_upd (jm_upd (jm_upd (jm_upd (sy_ai F 45) ((0 : Int32)).toNatClampNeg ((sy_ai F 53).getD (sy_i F 82).toNatClampNeg 0)) ((1 : Int32)).toNatClampNeg ((sy_ai F 25).getD (sy_i F 82).toNatClampNeg 0)) ((4 : Int32)).toNatClampNeg ((sy_ai F 24).getD (sy_i F 82).toNatClampNeg 0)) ((5 : Int32)).toNatClampNeg ((sy_ai F 58).getD (sy_i F 82).toNatClampNeg 0)) := hd_up (hs 7 _ rfl) rfl t89 t88
  have t92 : sy_da F' (.inr (.inl 92)) = .inl (jm_upd (jm_upd (jm_upd (jm_upd (jm_upd (sy_ai F 45) ((0 : Int32)).toNatClampNeg ((sy_ai F 53).getD (sy_i F 82).toNatClampNeg 0)) ((1 : Int32)).toNatClampNeg ((sy_ai F 25).getD (sy_i F 82).toNatClampNeg 0)) ((4 : Int32)).toNatClampNeg ((sy_ai F 24).getD (sy_i F 82).toNatClampNeg 0)) ((5 : Int32)).toNatClampNeg ((sy_ai F 58).getD (sy_i F 82).toNatClampNeg 0)) ((6 : Int32)).toNatClampNeg ((sy_ai F 57).getD (sy_i F 82).toNatClampNeg 0)) := hd_up (hs 9 _ rfl) rfl t91 t90
  have t94 : sy_da F' (.inr (.inl 94)) = .inl (jm_upd (jm_upd (jm_upd (jm_upd (jm_upd (jm_upd (sy_ai F 45) ((0 : Int32)).toNatClampNeg ((sy_ai F 53).getD (sy_i F 82).toNatClampNeg 0)) ((1 : Int32)).toNatClampNeg ((sy_ai F 25).getD (sy_i F 82).toNatClampNeg 0)) ((4 : Int32)).toNatClampNeg ((sy_ai F 24).getD (sy_i F 82).toNatClampNeg 0)) ((5 : Int32)).toNatClampNeg ((sy_ai F 58).getD (sy_i F 82).toNatClampNeg 0)) ((6 : Int32)).toNatClampNeg ((sy_ai F 57).getD (sy_i F 82).toNatClampNeg 0)) ((7 : Int32)).toNatClampNeg ((sy_ai F 56).getD (sy_i F 82).toNatClampNeg 0)) := hd_up (hs 11 _ rfl) rfl t93 t92
  have hB' : iv_in F' iv_B0 := iv_in_eq hB (fun j hj => hF j (Nat.lt_of_lt_of_le hj (by decide +kernel)))
  refine ⟨List.forall_mem_cons.mpr ⟨hd_pb b82 (by first | exact h0 | exact h0), List.forall_mem_cons.mpr ⟨hd_pb b82 (by first | exact h1 | exact h1), List.forall_mem_cons.mpr ⟨hd_pb b82 (by first | exact h2 | exact h2), List.forall_mem_cons.mpr ⟨hd_pb b82 (by first | exact h3 | exact h3), List.forall_mem_cons.mpr ⟨hd_pb b82 (by first | exact h4 | exact h4), List.forall_mem_cons.mpr ⟨hd_pb b82 (by first | exact h5 | exact h5), fun _ h => absurd h List.not_mem_nil⟩⟩⟩⟩⟩⟩, ?_⟩
  refine k _ ?_ ?_ ?_
  · exact fun j hj hn => (hd_keep hB' (Nat.lt_of_lt_of_le hj (by decide +kernel)) (by simp; omega)).trans (hF j (Nat.lt_of_lt_of_le hj (by decide)))
  · exact hd_ga (a := .inr (.inl 94)) (by decide +kernel) t94
  · exact hd_gi (x := .inr (.inl 82)) (by decide +kernel) b82
theorem j3nsk_0 {Ls : Nat} {xs : Nat → Int32} {d : Nat} {Q : Option Value → jm_h → Prop} (hd : 2 ≤ d) (F : Nat → sy_d) (X1 X2 : List jm_c) (hB : iv_in F iv_B0)
    (a82 : 0 ≤ (sy_i F 82).toInt ∧ (sy_i F 82).toInt ≤ 6)
    (k0 : ∀ F1 : Nat → sy_d, iv_in F1 iv_B0 → (∀ j, j < 82 → j ∉ ([45] : List Nat) → F1 j = F j) → sy_ai F1 45 = jm_upd (jm_upd (jm_upd (jm_upd (jm_upd (jm_upd (sy_ai F 45) (0 : Int).toNat ((sy_ai F 53).getD ((sy_i F 82).toInt).toNat 0)) (1 : Int).toNat ((sy_ai F 25).getD ((sy_i F 82).toInt).toNat 0)) (4 : Int).toNat ((sy_ai F 24).getD ((sy_i F 82).toInt).toNat 0)) (5 : Int).toNat ((sy_ai F 58).getD ((sy_i F 82).toInt).toNat 0)) (6 : Int).toNat ((sy_ai F 57).getD ((sy_i F 82).toInt).toNat 0)) (7 : Int).toNat ((sy_ai F 56).getD ((sy_i F 82).toInt).toNat 0) → (sy_i F1 82).toInt = (sy_i F 82).toInt → sy_i F1 82 = sy_i F 82 → hd_W Ls xs d jm_M4 Q (16, sy_dL F1 [none, some (.inl (.ref 20)), some (.inl (.ref 46)), some (.inr (.inl 82)), none, none], sy_dS F1 [.inl (.int 3), .inl (.ref 20), .inl (.ref 38)], sy_dh F1 X1 X2 (iv_H 3), 0, 0)) :
    hd_W Ls xs d jm_M4 Q (0, sy_dL F [some (.inl (.ref 41)), some (.inl (.ref 20)), some (.inl (.ref 46)), some (.inr (.inl 82)), none, none], sy_dS F [], sy_dh F X1 X2 (iv_H 3), 0, 0) := by
  have w94 : jm_upd (jm_upd (jm_upd (jm_upd (jm_upd (jm_upd (sy_ai F 45) ((0 : Int32)).toNatClampNeg ((sy_ai F 53).getD (sy_i F 82).toNatClampNeg 0)) ((1 : Int32)).toNatClampNeg ((sy_ai F 25).getD (sy_i F 82).toNatClampNeg 0)) ((4 : Int32)).toNatClampNeg ((sy_ai F 24).getD (sy_i F 82).toNatClampNeg 0)) ((5 : Int32)).toNatClampNeg ((sy_ai F 58).getD (sy_i F 82).toNatClampNeg 0)) ((6 : Int32)).toNatClampNeg ((sy_ai F 57).getD (sy_i F 82).toNatClampNeg 0)) ((7 : Int32)).toNatClampNeg ((sy_ai F 56).getD (sy_i F 82).toNatClampNeg 0) = jm_upd (jm_upd (jm_upd (jm_upd (jm_upd (jm_upd (sy_ai F 45) (0 : Int).toNat ((sy_ai F 53).getD ((sy_i F 82).toInt).toNat 0)) (1 : Int).toNat ((sy_ai F 25).getD ((sy_i F 82).toInt).toNat 0)) (4 : Int).toNat ((sy_ai F 24).getD ((sy_i F 82).toInt).toNat 0)) (5 : Int).toNat ((sy_ai F 58).getD ((sy_i F 82).toInt).toNat 0)) (6 : Int).toNat ((sy_ai F 57).getD ((sy_i F 82).toInt).toNat 0)) (7 : Int).toNat ((sy_ai F 56).getD ((sy_i F 82).toInt).toNat 0) := by simp only [nz_c, (by decide : ((0 : Int32)).toInt = 0), (by decide : ((1 : Int32)).toInt = 1), (by decide : ((4 : Int32)).toInt = 4), (by decide : ((5 : Int32)).toInt = 5), (by decide : ((6 : Int32)).toInt = 6), (by decide : ((7 : Int32)).toInt = 7)]
  exact j3nsk_0_p0 hd F X1 X2 hB (by first | exact ⟨by omega, by omega⟩ | (simp only [nz_c]; exact ⟨by omega, by omega⟩)) (by first | exact ⟨by omega, by omega⟩ | (simp only [nz_c]; exact ⟨by omega, by omega⟩)) (by first | exact ⟨by omega, by omega⟩ | (simp only [nz_c]; exact ⟨by omega, by omega⟩)) (by first | exact ⟨by omega, by omega⟩ | (simp only [nz_c]; exact ⟨by omega, by omega⟩)) (by first | exact ⟨by omega, by omega⟩ | (simp only [nz_c]; exact ⟨by omega, by omega⟩)) (by first | exact ⟨by omega, by omega⟩ | (simp only [nz_c]; exact ⟨by omega, by omega⟩)) (fun F1 g e45 e82 => k0 F1 (nz_in0 hB [45] (fun j hj hn => g j hj (by simp only [List.mem_cons, List.not_mem_nil, or_false, not_or] at hn; omega)) (List.forall_mem_cons.mpr ⟨fun t ht => (Option.some.inj ht) ▸ (nz_hz2 e45), List.forall_mem_nil _⟩)) (fun j hj hn => g j hj (by simp only [List.mem_cons, List.not_mem_nil, or_false, not_or] at hn; omega)) ((zz_ai e45).trans w94) ((congrArg Int32.toInt (zz_i e82)).trans (rfl : (sy_i F 82).toInt = (sy_i F 82).toInt)) ((zz_i e82).trans (rfl : sy_i F 82 = sy_i F 82)))
theorem j3nsk_19_p0 {Ls : Nat} {xs : Nat → Int32} {d : Nat} {Q : Option Value → jm_h → Prop} (hd : 1 ≤ d) (F : Nat → sy_d) (X1 X2 : List jm_c) (hB : iv_in F iv_B0)
    (h0 : 0 ≤ (sy_i F 82).toInt ∧ (sy_i F 82).toInt < 7)
    (k : ∀ F1 : Nat → sy_d, (∀ j, j < 82 → True → F1 j = F j) → F1 82 = .inl (.int (sy_i F 82)) → F1 83 = .inl (.int (sy_i F 83)) → F1 84 = .inl (.int ((sy_ai F 59).getD (sy_i F 82).toNatClampNeg 0)) → hd_W Ls xs d jm_M4 Q (31, sy_dL F1 [none, some (.inl (.ref 20)), some (.inl (.ref 46)), some (.inr (.inl 82)), some (.inr (.inl 83)), none], sy_dS F1 [.inr (.inl 83), .inr (.inl 84), .inl (.ref 20), .inl (.ref 46)], sy_dh F1 X1 X2 (iv_H 3), 0, 0)) :
    hd_W Ls xs d jm_M4 Q (19, sy_dL F [none, some (.inl (.ref 20)), some (.inl (.ref 46)), some (.inr (.inl 82)), none, none], sy_dS F [.inr (.inl 83)], sy_dh F X1 X2 (iv_H 3), 0, 0) := by
  refine hd_run (s := 3) (nv := 84) (pc := 31) (L := [none, some (.inl (.ref 20)), some (.inl (.ref 46)), some (.inr (.inl 82)), some (.inr (.inl 83)), none]) (S := [.inr (.inl 83), .inr (.inl 84), .inl (.ref 20), .inl (.ref 46)]) (uh := hd_ov (iv_id 0 iv_B0) []) (ul := [.inl (.inr (.inl 82)), .inl (.inr (.inl 83)), .inl (.inr (.inl 84))]) (f := false) (sp := [31]) (d0 := 0) (O := []) (T := [(30, [.inr (.inl 82)], [.inr (.inl 59)])]) (P := [(6, .inr (.inl 82), .inl (.ref 7))]) jm_ok4 (by decide +kernel) (by decide +kernel) hd F X1 X2 (fun F' hF hs => ?_)
  have b82 := hd_b (F := F) (F' := F') (k := 82) (hF 82 (by decide))
  have b83 := hd_b (F := F) (F' := F') (k := 83) (hF 83 (by decide))
  have a59 := hd_ba (F := F) (F' := F') (k := 59) (hF 59 (by decide))
  have t84 : sy_dv F' (.inr (.inl 84)) = .int ((sy_ai F 59).getD (sy_i F 82).toNatClampNeg 0) := hd_rd (hs 0 _ rfl) b82 a59
  have hB' : iv_in F' iv_B0 := iv_in_eq hB (fun j hj => hF j (Nat.lt_of_lt_of_le hj (by decide +kernel)))
  refine ⟨List.forall_mem_cons.mpr ⟨hd_pb b82 (by first | exact h0 | exact h0), fun _ h => absurd h List.not_mem_nil⟩, ?_⟩
  refine k _ ?_ ?_ ?_ ?_
  · exact fun j hj _ => (hd_keep hB' (Nat.lt_of_lt_of_le hj (by decide +kernel)) (by simp)).trans (hF j (Nat.lt_of_lt_of_le hj (by decide)))
  · exact hd_gi (x := .inr (.inl 82)) (by decide +kernel) b82
  · exact hd_gi (x := .inr (.inl 83)) (by decide +kernel) b83
  · exact hd_gi (x := .inr (.inl 84)) (by decide +kernel) t84
theorem j3nsk_19 {Ls : Nat} {xs : Nat → Int32} {d : Nat} {Q : Option Value → jm_h → Prop} (hd : 1 ≤ d) (F : Nat → sy_d) (X1 X2 : List jm_c) (hB : iv_in F iv_B0)
    (a82 : 0 ≤ (sy_i F 82).toInt ∧ (sy_i F 82).toInt ≤ 6)
    (k0 : ∀ F1 : Nat → sy_d, iv_in F1 iv_B0 → (∀ j, j < 82 → j ∉ ([] : List Nat) → F1 j = F j) → (sy_i F1 82).toInt = (sy_i F 82).toInt → sy_i F1 82 = sy_i F 82 → (sy_i F1 83).toInt = (sy_i F 83).toInt → sy_i F1 83 = sy_i F 83 → (sy_i F1 84).toInt = ((sy_ai F 59).getD ((sy_i F 82).toInt).toNat 0).toInt → sy_i F1 84 = (sy_ai F 59).getD ((sy_i F 82).toInt).toNat 0 → hd_W Ls xs d jm_M4 Q (31, sy_dL F1 [none, some (.inl (.ref 20)), some (.inl (.ref 46)), some (.inr (.inl 82)), some (.inr (.inl 83)), none], sy_dS F1 [.inr (.inl 83), .inr (.inl 84), .inl (.ref 20), .inl (.ref 46)], sy_dh F1 X1 X2 (iv_H 3), 0, 0)) :
    hd_W Ls xs d jm_M4 Q (19, sy_dL F [none, some (.inl (.ref 20)), some (.inl (.ref 46)), some (.inr (.inl 82)), none, none], sy_dS F [.inr (.inl 83)], sy_dh F X1 X2 (iv_H 3), 0, 0) := by
  have q84 : (sy_ai F 59).getD (sy_i F 82).toNatClampNeg 0 = (sy_ai F 59).getD ((sy_i F 82).toInt).toNat 0 := by simp only [nz_c]
  have n84 : nzI ((sy_ai F 59).getD (sy_i F 82).toNatClampNeg 0) (((sy_ai F 59).getD ((sy_i F 82).toInt).toNat 0).toInt) := congrArg Int32.toInt q84
  exact j3nsk_19_p0 hd F X1 X2 hB (by first | exact ⟨by omega, by omega⟩ | (simp only [nz_c]; exact ⟨by omega, by omega⟩)) (fun F1 g e82 e83 e84 => k0 F1 (nz_in0 hB [] (fun j hj hn => g j hj (by simp only [List.mem_cons, List.not_mem_nil, or_false, not_or] at hn; exact trivial)) (List.forall_mem_nil _)) (fun j hj hn => g j hj (by simp only [List.mem_cons, List.not_mem_nil, or_false, not_or] at hn; exact trivial)) ((congrArg Int32.toInt (zz_i e82)).trans (rfl : (sy_i F 82).toInt = (sy_i F 82).toInt)) ((zz_i e82).trans (rfl : sy_i F 82 = sy_i F 82)) ((congrArg Int32.toInt (zz_i e83)).trans (rfl : (sy_i F 83).toInt = (sy_i F 83).toInt)) ((zz_i e83).trans (rfl : sy_i F 83 = sy_i F 83)) ((congrArg Int32.toInt (zz_i e84)).trans (nzE n84)) ((zz_i e84).trans q84))
theorem j3nsk_34_p0 {Ls : Nat} {xs : Nat → Int32} {d : Nat} {Q : Option Value → jm_h → Prop} (hd : 2 ≤ d) (F : Nat → sy_d) (X1 X2 : List jm_c) (hB : iv_in F iv_B0)
    (h0 : (sy_i F 84).toInt < 0)
    (h1 : 0 ≤ (sy_i F 82).toInt ∧ (sy_i F 82).toInt < 7)
    (h2 : 0 ≤ (sy_i F 82).toInt ∧ (sy_i F 82).toInt < 7)
    (h3 : 0 ≤ (sy_i F 82).toInt ∧ (sy_i F 82).toInt < 7)
    (h4 : ((jm_upd (sy_ai F 56) (sy_i F 82).toNatClampNeg (((sy_ai F 56).getD (sy_i F 82).toNatClampNeg 0) + ((1 : Int32)))).getD (sy_i F 82).toNatClampNeg 0).toInt ≤ (sy_i F 21).toInt)
    (k : ∀ F1 : Nat → sy_d, (∀ j, j < 82 → j ≠ 56 → F1 j = F j) → F1 56 = .inr (.inl (jm_upd (sy_ai F 56) (sy_i F 82).toNatClampNeg (((sy_ai F 56).getD (sy_i F 82).toNatClampNeg 0) + ((1 : Int32))))) → Q (none) (sy_dh F1 X1 X2 (iv_H 3))) :
    hd_W Ls xs d jm_M4 Q (34, sy_dL F [none, some (.inl (.ref 20)), some (.inl (.ref 46)), some (.inr (.inl 82)), some (.inr (.inl 83)), none], sy_dS F [.inr (.inl 84)], sy_dh F X1 X2 (iv_H 3), 0, 0) := by
  refine hd_ret (s := 3) (nv := 85) (v := none) (uh := hd_ov (iv_id 0 iv_B0) [(56, .inr (.inr (.inl 87)))]) (f := false) (sp := []) (d0 := 1) (O := [true, true]) (T := [(30, [.inr (.inl 82)], [.inr (.inl 56)]), (0, [.inr (.inl 85), .inl (.int 1)], []), (40, [.inr (.inl 82), .inr (.inl 86)], [.inr (.inl 56)]), (30, [.inr (.inl 82)], [.inr (.inl 87)])]) (P := [(2, .inr (.inl 84), .inl (.int 0)), (6, .inr (.inl 82), .inl (.ref 7)), (6, .inr (.inl 82), .inl (.ref 7)), (6, .inr (.inl 82), .inl (.ref 7)), (4, .inr (.inl 88), .inr (.inl 21))]) jm_ok4 (by decide +kernel) (by decide +kernel) hd F X1 X2 (fun F' hF hs => ?_)
  have b84 := hd_b (F := F) (F' := F') (k := 84) (hF 84 (by decide))
  have b82 := hd_b (F := F) (F' := F') (k := 82) (hF 82 (by decide))
  have a56 := hd_ba (F := F) (F' := F') (k := 56) (hF 56 (by decide))
  have t85 : sy_dv F' (.inr (.inl 85)) = .int ((sy_ai F 56).getD (sy_i F 82).toNatClampNeg 0) := hd_rd (hs 0 _ rfl) b82 a56
  have t86 : sy_dv F' (.inr (.inl 86)) = .int (((sy_ai F 56).getD (sy_i F 82).toNatClampNeg 0) + ((1 : Int32))) := hd_o (hs 1 _ rfl) t85 rfl rfl
  have t87 : sy_da F' (.inr (.inl 87)) = .inl (jm_upd (sy_ai F 56) (sy_i F 82).toNatClampNeg (((sy_ai F 56).getD (sy_i F 82).toNatClampNeg 0) + ((1 : Int32)))) := hd_up (hs 2 _ rfl) b82 t86 a56
  have t88 : sy_dv F' (.inr (.inl 88)) = .int ((jm_upd (sy_ai F 56) (sy_i F 82).toNatClampNeg (((sy_ai F 56).getD (sy_i F 82).toNatClampNeg 0) + ((1 : Int32)))).getD (sy_i F 82).toNatClampNeg 0) := hd_rd (hs 3 _ rfl) b82 t87
  have b21 := hd_b (F := F) (F' := F') (k := 21) (hF 21 (by decide))
  have hB' : iv_in F' iv_B0 := iv_in_eq hB (fun j hj => hF j (Nat.lt_of_lt_of_le hj (by decide +kernel)))
  refine ⟨List.forall_mem_cons.mpr ⟨hd_p2 b84 rfl (by have hc : ((0) : Int32).toInt = 0 := (by decide); omega), List.forall_mem_cons.mpr ⟨hd_pb b82 (by first | exact h1 | exact h1), List.forall_mem_cons.mpr ⟨hd_pb b82 (by first | exact h2 | exact h2), List.forall_mem_cons.mpr ⟨hd_pb b82 (by first | exact h3 | exact h3), List.forall_mem_cons.mpr ⟨hd_p4 t88 b21 h4, fun _ h => absurd h List.not_mem_nil⟩⟩⟩⟩⟩, ?_⟩
  refine k _ ?_ ?_
  · exact fun j hj hn => (hd_keep hB' (Nat.lt_of_lt_of_le hj (by decide +kernel)) (by simp; omega)).trans (hF j (Nat.lt_of_lt_of_le hj (by decide)))
  · exact hd_ga (a := .inr (.inl 87)) (by decide +kernel) t87
theorem j3nsk_34_p1 {Ls : Nat} {xs : Nat → Int32} {d : Nat} {Q : Option Value → jm_h → Prop} (hd : 2 ≤ d) (F : Nat → sy_d) (X1 X2 : List jm_c) (hB : iv_in F iv_B0)
    (h0 : (sy_i F 84).toInt < 0)
    (h1 : 0 ≤ (sy_i F 82).toInt ∧ (sy_i F 82).toInt < 7)
    (h2 : 0 ≤ (sy_i F 82).toInt ∧ (sy_i F 82).toInt < 7)
    (h3 : 0 ≤ (sy_i F 82).toInt ∧ (sy_i F 82).toInt < 7)
    (h4 : (sy_i F 21).toInt < ((jm_upd (sy_ai F 56) (sy_i F 82).toNatClampNeg (((sy_ai F 56).getD (sy_i F 82).toNatClampNeg 0) + ((1 : Int32)))).getD (sy_i F 82).toNatClampNeg 0).toInt)
    (h5 : 0 ≤ (sy_i F 82).toInt ∧ (sy_i F 82).toInt < 7)
    (k : ∀ F1 : Nat → sy_d, (∀ j, j < 82 → j ≠ 54 ∧ j ≠ 56 → F1 j = F j) → F1 54 = .inr (.inl (jm_upd (sy_ai F 54) (sy_i F 82).toNatClampNeg ((3 : Int32)))) → F1 56 = .inr (.inl (jm_upd (sy_ai F 56) (sy_i F 82).toNatClampNeg (((sy_ai F 56).getD (sy_i F 82).toNatClampNeg 0) + ((1 : Int32))))) → Q (none) (sy_dh F1 X1 X2 (iv_H 3))) :
    hd_W Ls xs d jm_M4 Q (34, sy_dL F [none, some (.inl (.ref 20)), some (.inl (.ref 46)), some (.inr (.inl 82)), some (.inr (.inl 83)), none], sy_dS F [.inr (.inl 84)], sy_dh F X1 X2 (iv_H 3), 0, 0) := by
  refine hd_ret (s := 3) (nv := 85) (v := none) (uh := hd_ov (iv_id 0 iv_B0) [(54, .inr (.inr (.inl 89))), (56, .inr (.inr (.inl 87)))]) (f := false) (sp := []) (d0 := 1) (O := [true, false]) (T := [(30, [.inr (.inl 82)], [.inr (.inl 56)]), (0, [.inr (.inl 85), .inl (.int 1)], []), (40, [.inr (.inl 82), .inr (.inl 86)], [.inr (.inl 56)]), (30, [.inr (.inl 82)], [.inr (.inl 87)]), (40, [.inr (.inl 82), .inl (.int 3)], [.inr (.inl 54)])]) (P := [(2, .inr (.inl 84), .inl (.int 0)), (6, .inr (.inl 82), .inl (.ref 7)), (6, .inr (.inl 82), .inl (.ref 7)), (6, .inr (.inl 82), .inl (.ref 7)), (5, .inr (.inl 88), .inr (.inl 21)), (6, .inr (.inl 82), .inl (.ref 7))]) jm_ok4 (by decide +kernel) (by decide +kernel) hd F X1 X2 (fun F' hF hs => ?_)
  have b84 := hd_b (F := F) (F' := F') (k := 84) (hF 84 (by decide))
  have b82 := hd_b (F := F) (F' := F') (k := 82) (hF 82 (by decide))
  have a56 := hd_ba (F := F) (F' := F') (k := 56) (hF 56 (by decide))
  have t85 : sy_dv F' (.inr (.inl 85)) = .int ((sy_ai F 56).getD (sy_i F 82).toNatClampNeg 0) := hd_rd (hs 0 _ rfl) b82 a56
  have t86 : sy_dv F' (.inr (.inl 86)) = .int (((sy_ai F 56).getD (sy_i F 82).toNatClampNeg 0) + ((1 : Int32))) := hd_o (hs 1 _ rfl) t85 rfl rfl
  have t87 : sy_da F' (.inr (.inl 87)) = .inl (jm_upd (sy_ai F 56) (sy_i F 82).toNatClampNeg (((sy_ai F 56).getD (sy_i F 82).toNatClampNeg 0) + ((1 : Int32)))) := hd_up (hs 2 _ rfl) b82 t86 a56
  have t88 : sy_dv F' (.inr (.inl 88)) = .int ((jm_upd (sy_ai F 56) (sy_i F 82).toNatClampNeg (((sy_ai F 56).getD (sy_i F 82).toNatClampNeg 0) + ((1 : Int32)))).getD (sy_i F 82).toNatClampNeg 0) := hd_rd (hs 3 _ rfl) b82 t87
  have b21 := hd_b (F := F) (F' := F') (k := 21) (hF 21 (by decide))
  have a54 := hd_ba (F := F) (F' := F') (k := 54) (hF 54 (by decide))
  have t89 : sy_da F' (.inr (.inl 89)) = .inl (jm_upd (sy_ai F 54) (sy_i F 82).toNatClampNeg ((3 : Int32))) := hd_up (hs 4 _ rfl) b82 rfl a54
  have hB' : iv_in F' iv_B0 := iv_in_eq hB (fun j hj => hF j (Nat.lt_of_lt_of_le hj (by decide +kernel)))
  refine ⟨List.forall_mem_cons.mpr ⟨hd_p2 b84 rfl (by have hc : ((0) : Int32).toInt = 0 := (by decide); omega), List.forall_mem_cons.mpr ⟨hd_pb b82 (by first | exact h1 | exact h1), List.forall_mem_cons.mpr ⟨hd_pb b82 (by first | exact h2 | exact h2), List.forall_mem_cons.mpr ⟨hd_pb b82 (by first | exact h3 | exact h3), List.forall_mem_cons.mpr ⟨hd_p5 t88 b21 h4, List.forall_mem_cons.mpr ⟨hd_pb b82 (by first | exact h5 | exact h5), fun _ h => absurd h List.not_mem_nil⟩⟩⟩⟩⟩⟩, ?_⟩
  refine k _ ?_ ?_ ?_
  · exact fun j hj hn => (hd_keep hB' (Nat.lt_of_lt_of_le hj (by decide +kernel)) (by simp; omega)).trans (hF j (Nat.lt_of_lt_of_le hj (by decide)))
  · exact hd_ga (a := .inr (.inl 89)) (by decide +kernel) t89
  · exact hd_ga (a := .inr (.inl 87)) (by decide +kernel) t87
theorem j3nsk_34_p2 {Ls : Nat} {xs : Nat → Int32} {d : Nat} {Q : Option Value → jm_h → Prop} (hd : 2 ≤ d) (F : Nat → sy_d) (X1 X2 : List jm_c) (hB : iv_in F iv_B0)
    (h0 : 0 ≤ (sy_i F 84).toInt)
    (h1 : 0 ≤ (sy_i F 82).toInt ∧ (sy_i F 82).toInt < 7)
    (h2 : 0 ≤ (sy_i F 82).toInt ∧ (sy_i F 82).toInt < 7)
    (h3 : 0 ≤ (sy_i F 84).toInt ∧ (sy_i F 84).toInt < 4)
    (h4 : 0 ≤ (sy_i F 84).toInt ∧ (sy_i F 84).toInt < 4)
    (k : ∀ F1 : Nat → sy_d, (∀ j, j < 82 → j ≠ 54 ∧ j ≠ 55 ∧ j ≠ 61 → F1 j = F j) → F1 54 = .inr (.inl (jm_upd (sy_ai F 54) (sy_i F 82).toNatClampNeg ((2 : Int32)))) → F1 55 = .inr (.inl (jm_upd (sy_ai F 55) (sy_i F 82).toNatClampNeg (sy_i F 84))) → F1 61 = .inr (.inl (jm_upd (sy_ai F 61) (sy_i F 84).toNatClampNeg (((sy_ai F 61).getD (sy_i F 84).toNatClampNeg 0) - (sy_i F 83)))) → Q (none) (sy_dh F1 X1 X2 (iv_H 3))) :
    hd_W Ls xs d jm_M4 Q (34, sy_dL F [none, some (.inl (.ref 20)), some (.inl (.ref 46)), some (.inr (.inl 82)), some (.inr (.inl 83)), none], sy_dS F [.inr (.inl 84)], sy_dh F X1 X2 (iv_H 3), 0, 0) := by
  refine hd_ret (s := 3) (nv := 85) (v := none) (uh := hd_ov (iv_id 0 iv_B0) [(54, .inr (.inr (.inl 85))), (55, .inr (.inr (.inl 86))), (61, .inr (.inr (.inl 89)))]) (f := false) (sp := []) (d0 := 1) (O := [false]) (T := [(40, [.inr (.inl 82), .inl (.int 2)], [.inr (.inl 54)]), (40, [.inr (.inl 82), .inr (.inl 84)], [.inr (.inl 55)]), (30, [.inr (.inl 84)], [.inr (.inl 61)]), (1, [.inr (.inl 87), .inr (.inl 83)], []), (40, [.inr (.inl 84), .inr (.inl 88)], [.inr (.inl 61)])]) (P := [(3, .inr (.inl 84), .inl (.int 0)), (6, .inr (.inl 82), .inl (.ref 7)), (6, .inr (.inl 82), .inl (.ref 7)), (6, .inr (.inl 84), .inl (.ref 4)), (6, .inr (.inl 84), .inl (.ref 4))]) jm_ok4 (by decide +kernel) (by decide +kernel) hd F X1 X2 (fun F' hF hs => ?_)
  have b84 := hd_b (F := F) (F' := F') (k := 84) (hF 84 (by decide))
  have b82 := hd_b (F := F) (F' := F') (k := 82) (hF 82 (by decide))
  have a54 := hd_ba (F := F) (F' := F') (k := 54) (hF 54 (by decide))
  have t85 : sy_da F' (.inr (.inl 85)) = .inl (jm_upd (sy_ai F 54) (sy_i F 82).toNatClampNeg ((2 : Int32))) := hd_up (hs 0 _ rfl) b82 rfl a54
  have a55 := hd_ba (F := F) (F' := F') (k := 55) (hF 55 (by decide))
  have t86 : sy_da F' (.inr (.inl 86)) = .inl (jm_upd (sy_ai F 55) (sy_i F 82).toNatClampNeg (sy_i F 84)) := hd_up (hs 1 _ rfl) b82 b84 a55
  have a61 := hd_ba (F := F) (F' := F') (k := 61) (hF 61 (by decide))
  have t87 : sy_dv F' (.inr (.inl 87)) = .int ((sy_ai F 61).getD (sy_i F 84).toNatClampNeg 0) := hd_rd (hs 2 _ rfl) b84 a61
  have b83 := hd_b (F := F) (F' := F') (k := 83) (hF 83 (by decide))
  have t88 : sy_dv F' (.inr (.inl 88)) = .int (((sy_ai F 61).getD (sy_i F 84).toNatClampNeg 0) - (sy_i F 83)) := hd_o (hs 3 _ rfl) t87 b83 rfl
  have t89 : sy_da F' (.inr (.inl 89)) = .inl (jm_upd (sy_ai F 61) (sy_i F 84).toNatClampNeg (((sy_ai F 61).getD (sy_i F 84).toNatClampNeg 0) - (sy_i F 83))) := hd_up (hs 4 _ rfl) b84 t88 a61
  have hB' : iv_in F' iv_B0 := iv_in_eq hB (fun j hj => hF j (Nat.lt_of_lt_of_le hj (by decide +kernel)))
  refine ⟨List.forall_mem_cons.mpr ⟨hd_p3 b84 rfl (by have hc : ((0) : Int32).toInt = 0 := (by decide); omega), List.forall_mem_cons.mpr ⟨hd_pb b82 (by first | exact h1 | exact h1), List.forall_mem_cons.mpr ⟨hd_pb b82 (by first | exact h2 | exact h2), List.forall_mem_cons.mpr ⟨hd_pb b84 (by first | exact h3 | exact h3), List.forall_mem_cons.mpr ⟨hd_pb b84 (by first | exact h4 | exact h4), fun _ h => absurd h List.not_mem_nil⟩⟩⟩⟩⟩, ?_⟩
  refine k _ ?_ ?_ ?_ ?_
  · exact fun j hj hn => (hd_keep hB' (Nat.lt_of_lt_of_le hj (by decide +kernel)) (by simp; omega)).trans (hF j (Nat.lt_of_lt_of_le hj (by decide)))
  · exact hd_ga (a := .inr (.inl 85)) (by decide +kernel) t85
  · exact hd_ga (a := .inr (.inl 86)) (by decide +kernel) t86
  · exact hd_ga (a := .inr (.inl 89)) (by decide +kernel) t89
theorem j3nsk_34 {Ls : Nat} {xs : Nat → Int32} {d : Nat} {Q : Option Value → jm_h → Prop} (hd : 2 ≤ d) (F : Nat → sy_d) (X1 X2 : List jm_c) (hB : iv_in F iv_B0)
    (a82 : 0 ≤ (sy_i F 82).toInt ∧ (sy_i F 82).toInt ≤ 6)
    (a84 : (-2) ≤ (sy_i F 84).toInt ∧ (sy_i F 84).toInt ≤ 3)
    (k0 : (sy_i F 84).toInt < 0 → ((jm_upd (sy_ai F 56) ((sy_i F 82).toInt).toNat (((sy_ai F 56).getD ((sy_i F 82).toInt).toNat 0) + ((1 : Int32)))).getD ((sy_i F 82).toInt).toNat 0).toInt ≤ (sy_i F 21).toInt → ∀ F1 : Nat → sy_d, iv_in F1 iv_B0 → (∀ j, j < 82 → j ∉ ([56] : List Nat) → F1 j = F j) → sy_ai F1 56 = jm_upd (sy_ai F 56) ((sy_i F 82).toInt).toNat (((sy_ai F 56).getD ((sy_i F 82).toInt).toNat 0) + ((1 : Int32))) → Q (none) (sy_dh F1 X1 X2 (iv_H 3)))
    (k1 : (sy_i F 84).toInt < 0 → (sy_i F 21).toInt < ((jm_upd (sy_ai F 56) ((sy_i F 82).toInt).toNat (((sy_ai F 56).getD ((sy_i F 82).toInt).toNat 0) + ((1 : Int32)))).getD ((sy_i F 82).toInt).toNat 0).toInt → ∀ F1 : Nat → sy_d, iv_in F1 iv_B0 → (∀ j, j < 82 → j ∉ ([54, 56] : List Nat) → F1 j = F j) → sy_ai F1 54 = jm_upd (sy_ai F 54) ((sy_i F 82).toInt).toNat ((3 : Int32)) → sy_ai F1 56 = jm_upd (sy_ai F 56) ((sy_i F 82).toInt).toNat (((sy_ai F 56).getD ((sy_i F 82).toInt).toNat 0) + ((1 : Int32))) → Q (none) (sy_dh F1 X1 X2 (iv_H 3)))
    (k2 : 0 ≤ (sy_i F 84).toInt → ∀ F1 : Nat → sy_d, iv_in F1 iv_B0 → (∀ j, j < 82 → j ∉ ([54, 55, 61] : List Nat) → F1 j = F j) → sy_ai F1 54 = jm_upd (sy_ai F 54) ((sy_i F 82).toInt).toNat ((2 : Int32)) → sy_ai F1 55 = jm_upd (sy_ai F 55) ((sy_i F 82).toInt).toNat (sy_i F 84) → sy_ai F1 61 = jm_upd (sy_ai F 61) ((sy_i F 84).toInt).toNat (((sy_ai F 61).getD ((sy_i F 84).toInt).toNat 0) - (sy_i F 83)) → Q (none) (sy_dh F1 X1 X2 (iv_H 3))) :
    hd_W Ls xs d jm_M4 Q (34, sy_dL F [none, some (.inl (.ref 20)), some (.inl (.ref 46)), some (.inr (.inl 82)), some (.inr (.inl 83)), none], sy_dS F [.inr (.inl 84)], sy_dh F X1 X2 (iv_H 3), 0, 0) := by
  by_cases g0 : (sy_i F 84).toInt < 0
  · by_cases g1 : ((jm_upd (sy_ai F 56) ((sy_i F 82).toInt).toNat (((sy_ai F 56).getD ((sy_i F 82).toInt).toNat 0) + ((1 : Int32)))).getD ((sy_i F 82).toInt).toNat 0).toInt ≤ (sy_i F 21).toInt
    · have q88 : (jm_upd (sy_ai F 56) (sy_i F 82).toNatClampNeg (((sy_ai F 56).getD (sy_i F 82).toNatClampNeg 0) + ((1 : Int32)))).getD (sy_i F 82).toNatClampNeg 0 = (jm_upd (sy_ai F 56) ((sy_i F 82).toInt).toNat (((sy_ai F 56).getD ((sy_i F 82).toInt).toNat 0) + ((1 : Int32)))).getD ((sy_i F 82).toInt).toNat 0 := by simp only [nz_c, (by decide : ((1 : Int32)).toInt = 1)]
      have n88 : nzI ((jm_upd (sy_ai F 56) (sy_i F 82).toNatClampNeg (((sy_ai F 56).getD (sy_i F 82).toNatClampNeg 0) + ((1 : Int32)))).getD (sy_i F 82).toNatClampNeg 0) (((jm_upd (sy_ai F 56) ((sy_i F 82).toInt).toNat (((sy_ai F 56).getD ((sy_i F 82).toInt).toNat 0) + ((1 : Int32)))).getD ((sy_i F 82).toInt).toNat 0).toInt) := congrArg Int32.toInt q88
      have w87 : jm_upd (sy_ai F 56) (sy_i F 82).toNatClampNeg (((sy_ai F 56).getD (sy_i F 82).toNatClampNeg 0) + ((1 : Int32))) = jm_upd (sy_ai F 56) ((sy_i F 82).toInt).toNat (((sy_ai F 56).getD ((sy_i F 82).toInt).toNat 0) + ((1 : Int32))) := by simp only [nz_c, (by decide : ((1 : Int32)).toInt = 1)]
      exact j3nsk_34_p0 hd F X1 X2 hB (by first | exact g0 | (simp only [nz_c]; exact g0)) (by first | exact ⟨by omega, by omega⟩ | (simp only [nz_c]; exact ⟨by omega, by omega⟩)) (by first | exact ⟨by omega, by omega⟩ | (simp only [nz_c]; exact ⟨by omega, by omega⟩)) (by first | exact ⟨by omega, by omega⟩ | (simp only [nz_c]; exact ⟨by omega, by omega⟩)) (by first | exact g1 | (simp only [nz_c]; exact g1) | (rw [(nzE n88)]; exact g1)) (fun F1 g e56 => k0 g0 g1 F1 (nz_in0 hB [56] (fun j hj hn => g j hj (by simp only [List.mem_cons, List.not_mem_nil, or_false, not_or] at hn; omega)) (List.forall_mem_cons.mpr ⟨fun t ht => (Option.some.inj ht) ▸ (nz_hz2 e56), List.forall_mem_nil _⟩)) (fun j hj hn => g j hj (by simp only [List.mem_cons, List.not_mem_nil, or_false, not_or] at hn; omega)) ((zz_ai e56).trans w87))
    replace g1 : (sy_i F 21).toInt < ((jm_upd (sy_ai F 56) ((sy_i F 82).toInt).toNat (((sy_ai F 56).getD ((sy_i F 82).toInt).toNat 0) + ((1 : Int32)))).getD ((sy_i F 82).toInt).toNat 0).toInt := by omega
    have q88 : (jm_upd (sy_ai F 56) (sy_i F 82).toNatClampNeg (((sy_ai F 56).getD (sy_i F 82).toNatClampNeg 0) + ((1 : Int32)))).getD (sy_i F 82).toNatClampNeg 0 = (jm_upd (sy_ai F 56) ((sy_i F 82).toInt).toNat (((sy_ai F 56).getD ((sy_i F 82).toInt).toNat 0) + ((1 : Int32)))).getD ((sy_i F 82).toInt).toNat 0 := by simp only [nz_c, (by decide : ((1 : Int32)).toInt = 1)]
    have n88 : nzI ((jm_upd (sy_ai F 56) (sy_i F 82).toNatClampNeg (((sy_ai F 56).getD (sy_i F 82).toNatClampNeg 0) + ((1 : Int32)))).getD (sy_i F 82).toNatClampNeg 0) (((jm_upd (sy_ai F 56) ((sy_i F 82).toInt).toNat (((sy_ai F 56).getD ((sy_i F 82).toInt).toNat 0) + ((1 : Int32)))).getD ((sy_i F 82).toInt).toNat 0).toInt) := congrArg Int32.toInt q88
    have w89 : jm_upd (sy_ai F 54) (sy_i F 82).toNatClampNeg ((3 : Int32)) = jm_upd (sy_ai F 54) ((sy_i F 82).toInt).toNat ((3 : Int32)) := by simp only [nz_c, (by decide : ((3 : Int32)).toInt = 3)]
    have w87 : jm_upd (sy_ai F 56) (sy_i F 82).toNatClampNeg (((sy_ai F 56).getD (sy_i F 82).toNatClampNeg 0) + ((1 : Int32))) = jm_upd (sy_ai F 56) ((sy_i F 82).toInt).toNat (((sy_ai F 56).getD ((sy_i F 82).toInt).toNat 0) + ((1 : Int32))) := by simp only [nz_c, (by decide : ((1 : Int32)).toInt = 1)]
    exact j3nsk_34_p1 hd F X1 X2 hB (by first | exact g0 | (simp only [nz_c]; exact g0)) (by first | exact ⟨by omega, by omega⟩ | (simp only [nz_c]; exact ⟨by omega, by omega⟩)) (by first | exact ⟨by omega, by omega⟩ | (simp only [nz_c]; exact ⟨by omega, by omega⟩)) (by first | exact ⟨by omega, by omega⟩ | (simp only [nz_c]; exact ⟨by omega, by omega⟩)) (by first | exact g1 | (simp only [nz_c]; exact g1) | (rw [(nzE n88)]; exact g1)) (by first | exact ⟨by omega, by omega⟩ | (simp only [nz_c]; exact ⟨by omega, by omega⟩)) (fun F1 g e54 e56 => k1 g0 g1 F1 (nz_in0 hB [54, 56] (fun j hj hn => g j hj (by simp only [List.mem_cons, List.not_mem_nil, or_false, not_or] at hn; omega)) (List.forall_mem_cons.mpr ⟨fun t ht => (Option.some.inj ht) ▸ (nz_hz2 e54), List.forall_mem_cons.mpr ⟨fun t ht => (Option.some.inj ht) ▸ (nz_hz2 e56), List.forall_mem_nil _⟩⟩)) (fun j hj hn => g j hj (by simp only [List.mem_cons, List.not_mem_nil, or_false, not_or] at hn; omega)) ((zz_ai e54).trans w89) ((zz_ai e56).trans w87))
  replace g0 : 0 ≤ (sy_i F 84).toInt := by omega
  have w85 : jm_upd (sy_ai F 54) (sy_i F 82).toNatClampNeg ((2 : Int32)) = jm_upd (sy_ai F 54) ((sy_i F 82).toInt).toNat ((2 : Int32)) := by simp only [nz_c, (by decide : ((2 : Int32)).toInt = 2)]
  have w86 : jm_upd (sy_ai F 55) (sy_i F 82).toNatClampNeg (sy_i F 84) = jm_upd (sy_ai F 55) ((sy_i F 82).toInt).toNat (sy_i F 84) := by simp only [nz_c]
  have w89 : jm_upd (sy_ai F 61) (sy_i F 84).toNatClampNeg (((sy_ai F 61).getD (sy_i F 84).toNatClampNeg 0) - (sy_i F 83)) = jm_upd (sy_ai F 61) ((sy_i F 84).toInt).toNat (((sy_ai F 61).getD ((sy_i F 84).toInt).toNat 0) - (sy_i F 83)) := by simp only [nz_c]
  exact j3nsk_34_p2 hd F X1 X2 hB (by first | exact g0 | (simp only [nz_c]; exact g0)) (by first | exact ⟨by omega, by omega⟩ | (simp only [nz_c]; exact ⟨by omega, by omega⟩)) (by first | exact ⟨by omega, by omega⟩ | (simp only [nz_c]; exact ⟨by omega, by omega⟩)) (by first | exact ⟨by omega, by omega⟩ | (simp only [nz_c]; exact ⟨by omega, by omega⟩)) (by first | exact ⟨by omega, by omega⟩ | (simp only [nz_c]; exact ⟨by omega, by omega⟩)) (fun F1 g e54 e55 e61 => k2 g0 F1 (nz_in0 hB [54, 55, 61] (fun j hj hn => g j hj (by simp only [List.mem_cons, List.not_mem_nil, or_false, not_or] at hn; omega)) (List.forall_mem_cons.mpr ⟨fun t ht => (Option.some.inj ht) ▸ (nz_hz2 e54), List.forall_mem_cons.mpr ⟨fun t ht => (Option.some.inj ht) ▸ (nz_hz2 e55), List.forall_mem_cons.mpr ⟨fun t ht => (Option.some.inj ht) ▸ (nz_hz2 e61), List.forall_mem_nil _⟩⟩⟩)) (fun j hj hn => g j hj (by simp only [List.mem_cons, List.not_mem_nil, or_false, not_or] at hn; omega)) ((zz_ai e54).trans w85) ((zz_ai e55).trans w86) ((zz_ai e61).trans w89))
theorem j3nlf_0_p0 {Ls : Nat} {xs : Nat → Int32} {d : Nat} {Q : Option Value → jm_h → Prop} (hd : 1 ≤ d) (F : Nat → sy_d) (X1 X2 : List jm_c) (hB : iv_in F iv_B0)
    (k : ∀ F1 : Nat → sy_d, (∀ j, j < 82 → True → F1 j = F j) → F1 82 = .inl (.int (sy_i F 82)) → hd_W Ls xs d jm_M5 Q (6, sy_dL F1 [some (.inl (.ref 41)), some (.inl (.ref 20)), some (.inl (.ref 46)), some (.inr (.inl 82)), none, none], sy_dS F1 [.inl (.int 3), .inl (.ref 20), .inl (.ref 38)], sy_dh F1 X1 X2 (iv_H 3), 0, 0)) :
    hd_W Ls xs d jm_M5 Q (0, sy_dL F [some (.inl (.ref 41)), some (.inl (.ref 20)), some (.inl (.ref 46)), some (.inr (.inl 82)), none, none], sy_dS F [], sy_dh F X1 X2 (iv_H 3), 0, 0) := by
  refine hd_run (s := 3) (nv := 83) (pc := 6) (L := [some (.inl (.ref 41)), some (.inl (.ref 20)), some (.inl (.ref 46)), some (.inr (.inl 82)), none, none]) (S := [.inl (.int 3), .inl (.ref 20), .inl (.ref 38)]) (uh := hd_ov (iv_id 0 iv_B0) []) (ul := [.inl (.inr (.inl 82))]) (f := true) (sp := [6]) (d0 := 0) (O := []) (T := []) (P := []) jm_ok5 (by decide +kernel) (by decide +kernel) hd F X1 X2 (fun F' hF hs => ?_)
  have b82 := hd_b (F := F) (F' := F') (k := 82) (hF 82 (by decide))
  have hB' : iv_in F' iv_B0 := iv_in_eq hB (fun j hj => hF j (Nat.lt_of_lt_of_le hj (by decide +kernel)))
  refine ⟨fun _ h => absurd h List.not_mem_nil, ?_⟩
  refine k _ ?_ ?_
  · exact fun j hj _ => (hd_keep hB' (Nat.lt_of_lt_of_le hj (by decide +kernel)) (by simp)).trans (hF j (Nat.lt_of_lt_of_le hj (by decide)))
  · exact hd_gi (x := .inr (.inl 82)) (by decide +kernel) b82
theorem j3nlf_0 {Ls : Nat} {xs : Nat → Int32} {d : Nat} {Q : Option Value → jm_h → Prop} (hd : 1 ≤ d) (F : Nat → sy_d) (X1 X2 : List jm_c) (hB : iv_in F iv_B0)
    (k0 : ∀ F1 : Nat → sy_d, iv_in F1 iv_B0 → (∀ j, j < 82 → j ∉ ([] : List Nat) → F1 j = F j) → (sy_i F1 82).toInt = (sy_i F 82).toInt → sy_i F1 82 = sy_i F 82 → hd_W Ls xs d jm_M5 Q (6, sy_dL F1 [some (.inl (.ref 41)), some (.inl (.ref 20)), some (.inl (.ref 46)), some (.inr (.inl 82)), none, none], sy_dS F1 [.inl (.int 3), .inl (.ref 20), .inl (.ref 38)], sy_dh F1 X1 X2 (iv_H 3), 0, 0)) :
    hd_W Ls xs d jm_M5 Q (0, sy_dL F [some (.inl (.ref 41)), some (.inl (.ref 20)), some (.inl (.ref 46)), some (.inr (.inl 82)), none, none], sy_dS F [], sy_dh F X1 X2 (iv_H 3), 0, 0) := by
  exact j3nlf_0_p0 hd F X1 X2 hB  (fun F1 g e82 => k0 F1 (nz_in0 hB [] (fun j hj hn => g j hj (by simp only [List.mem_cons, List.not_mem_nil, or_false, not_or] at hn; exact trivial)) (List.forall_mem_nil _)) (fun j hj hn => g j hj (by simp only [List.mem_cons, List.not_mem_nil, or_false, not_or] at hn; exact trivial)) ((congrArg Int32.toInt (zz_i e82)).trans (rfl : (sy_i F 82).toInt = (sy_i F 82).toInt)) ((zz_i e82).trans (rfl : sy_i F 82 = sy_i F 82)))
theorem j3nlf_9_p0 {Ls : Nat} {xs : Nat → Int32} {d : Nat} {Q : Option Value → jm_h → Prop} (hd : 1 ≤ d) (F : Nat → sy_d) (X1 X2 : List jm_c) (hB : iv_in F iv_B0)
    (h0 : 0 ≤ (sy_i F 82).toInt ∧ (sy_i F 82).toInt < 7)
    (k : ∀ F1 : Nat → sy_d, (∀ j, j < 82 → True → F1 j = F j) → F1 82 = .inl (.int (sy_i F 82)) → F1 83 = .inl (.int (sy_i F 83)) → F1 84 = .inl (.int ((sy_ai F 24).getD (sy_i F 82).toNatClampNeg 0)) → hd_W Ls xs d jm_M5 Q (21, sy_dL F1 [some (.inl (.ref 41)), some (.inl (.ref 20)), some (.inl (.ref 46)), some (.inr (.inl 82)), some (.inr (.inl 83)), none], sy_dS F1 [.inr (.inl 83), .inr (.inl 84), .inl (.ref 20), .inl (.ref 46)], sy_dh F1 X1 X2 (iv_H 3), 0, 0)) :
    hd_W Ls xs d jm_M5 Q (9, sy_dL F [some (.inl (.ref 41)), some (.inl (.ref 20)), some (.inl (.ref 46)), some (.inr (.inl 82)), none, none], sy_dS F [.inr (.inl 83)], sy_dh F X1 X2 (iv_H 3), 0, 0) := by
  refine hd_run (s := 3) (nv := 84) (pc := 21) (L := [some (.inl (.ref 41)), some (.inl (.ref 20)), some (.inl (.ref 46)), some (.inr (.inl 82)), some (.inr (.inl 83)), none]) (S := [.inr (.inl 83), .inr (.inl 84), .inl (.ref 20), .inl (.ref 46)]) (uh := hd_ov (iv_id 0 iv_B0) []) (ul := [.inl (.inr (.inl 82)), .inl (.inr (.inl 83)), .inl (.inr (.inl 84))]) (f := false) (sp := [21]) (d0 := 0) (O := []) (T := [(30, [.inr (.inl 82)], [.inr (.inl 24)])]) (P := [(6, .inr (.inl 82), .inl (.ref 7))]) jm_ok5 (by decide +kernel) (by decide +kernel) hd F X1 X2 (fun F' hF hs => ?_)
  have b82 := hd_b (F := F) (F' := F') (k := 82) (hF 82 (by decide))
  have b83 := hd_b (F := F) (F' := F') (k := 83) (hF 83 (by decide))
  have a24 := hd_ba (F := F) (F' := F') (k := 24) (hF 24 (by decide))
  have t84 : sy_dv F' (.inr (.inl 84)) = .int ((sy_ai F 24).getD (sy_i F 82).toNatClampNeg 0) := hd_rd (hs 0 _ rfl) b82 a24
  have hB' : iv_in F' iv_B0 := iv_in_eq hB (fun j hj => hF j (Nat.lt_of_lt_of_le hj (by decide +kernel)))
  refine ⟨List.forall_mem_cons.mpr ⟨hd_pb b82 (by first | exact h0 | exact h0), fun _ h => absurd h List.not_mem_nil⟩, ?_⟩
  refine k _ ?_ ?_ ?_ ?_
  · exact fun j hj _ => (hd_keep hB' (Nat.lt_of_lt_of_le hj (by decide +kernel)) (by simp)).trans (hF j (Nat.lt_of_lt_of_le hj (by decide)))
  · exact hd_gi (x := .inr (.inl 82)) (by decide +kernel) b82
  · exact hd_gi (x := .inr (.inl 83)) (by decide +kernel) b83
  · exact hd_gi (x := .inr (.inl 84)) (by decide +kernel) t84
theorem j3nlf_9 {Ls : Nat} {xs : Nat → Int32} {d : Nat} {Q : Option Value → jm_h → Prop} (hd : 1 ≤ d) (F : Nat → sy_d) (X1 X2 : List jm_c) (hB : iv_in F iv_B0)
    (a82 : 0 ≤ (sy_i F 82).toInt ∧ (sy_i F 82).toInt ≤ 6)
    (k0 : ∀ F1 : Nat → sy_d, iv_in F1 iv_B0 → (∀ j, j < 82 → j ∉ ([] : List Nat) → F1 j = F j) → (sy_i F1 82).toInt = (sy_i F 82).toInt → sy_i F1 82 = sy_i F 82 → (sy_i F1 83).toInt = (sy_i F 83).toInt → sy_i F1 83 = sy_i F 83 → (sy_i F1 84).toInt = ((sy_ai F 24).getD ((sy_i F 82).toInt).toNat 0).toInt → sy_i F1 84 = (sy_ai F 24).getD ((sy_i F 82).toInt).toNat 0 → hd_W Ls xs d jm_M5 Q (21, sy_dL F1 [some (.inl (.ref 41)), some (.inl (.ref 20)), some (.inl (.ref 46)), some (.inr (.inl 82)), some (.inr (.inl 83)), none], sy_dS F1 [.inr (.inl 83), .inr (.inl 84), .inl (.ref 20), .inl (.ref 46)], sy_dh F1 X1 X2 (iv_H 3), 0, 0)) :
    hd_W Ls xs d jm_M5 Q (9, sy_dL F [some (.inl (.ref 41)), some (.inl (.ref 20)), some (.inl (.ref 46)), some (.inr (.inl 82)), none, none], sy_dS F [.inr (.inl 83)], sy_dh F X1 X2 (iv_H 3), 0, 0) := by
  have q84 : (sy_ai F 24).getD (sy_i F 82).toNatClampNeg 0 = (sy_ai F 24).getD ((sy_i F 82).toInt).toNat 0 := by simp only [nz_c]
  have n84 : nzI ((sy_ai F 24).getD (sy_i F 82).toNatClampNeg 0) (((sy_ai F 24).getD ((sy_i F 82).toInt).toNat 0).toInt) := congrArg Int32.toInt q84
  exact j3nlf_9_p0 hd F X1 X2 hB (by first | exact ⟨by omega, by omega⟩ | (simp only [nz_c]; exact ⟨by omega, by omega⟩)) (fun F1 g e82 e83 e84 => k0 F1 (nz_in0 hB [] (fun j hj hn => g j hj (by simp only [List.mem_cons, List.not_mem_nil, or_false, not_or] at hn; exact trivial)) (List.forall_mem_nil _)) (fun j hj hn => g j hj (by simp only [List.mem_cons, List.not_mem_nil, or_false, not_or] at hn; exact trivial)) ((congrArg Int32.toInt (zz_i e82)).trans (rfl : (sy_i F 82).toInt = (sy_i F 82).toInt)) ((zz_i e82).trans (rfl : sy_i F 82 = sy_i F 82)) ((congrArg Int32.toInt (zz_i e83)).trans (rfl : (sy_i F 83).toInt = (sy_i F 83).toInt)) ((zz_i e83).trans (rfl : sy_i F 83 = sy_i F 83)) ((congrArg Int32.toInt (zz_i e84)).trans (nzE n84)) ((zz_i e84).trans q84))
theorem j3nlf_24_p0 {Ls : Nat} {xs : Nat → Int32} {d : Nat} {Q : Option Value → jm_h → Prop} (hd : 2 ≤ d) (F : Nat → sy_d) (X1 X2 : List jm_c) (hB : iv_in F iv_B0)
    (h0 : (sy_i F 84).toInt < 0)
    (h1 : 0 ≤ (sy_i F 82).toInt ∧ (sy_i F 82).toInt < 7)
    (k : ∀ F1 : Nat → sy_d, (∀ j, j < 82 → j ≠ 54 → F1 j = F j) → F1 54 = .inr (.inl (jm_upd (sy_ai F 54) (sy_i F 82).toNatClampNeg ((1 : Int32)))) → F1 82 = .inl (.int (sy_i F 82)) → hd_W Ls xs d jm_M5 Q (61, sy_dL F1 [none, none, none, none, none, none], sy_dS F1 [.inr (.inl 82), .inl (.ref 20), .inl (.ref 38), .inr (.inl 82), .inl (.ref 53)], sy_dh F1 X1 X2 (iv_H 3), 0, 0)) :
    hd_W Ls xs d jm_M5 Q (24, sy_dL F [some (.inl (.ref 41)), some (.inl (.ref 20)), some (.inl (.ref 46)), some (.inr (.inl 82)), some (.inr (.inl 83)), none], sy_dS F [.inr (.inl 84)], sy_dh F X1 X2 (iv_H 3), 0, 0) := by
  refine hd_run (s := 3) (nv := 85) (pc := 61) (L := [none, none, none, none, none, none]) (S := [.inr (.inl 82), .inl (.ref 20), .inl (.ref 38), .inr (.inl 82), .inl (.ref 53)]) (uh := hd_ov (iv_id 0 iv_B0) [(54, .inr (.inr (.inl 85)))]) (ul := [.inl (.inr (.inl 82))]) (f := false) (sp := [61]) (d0 := 1) (O := [true]) (T := [(40, [.inr (.inl 82), .inl (.int 1)], [.inr (.inl 54)])]) (P := [(2, .inr (.inl 84), .inl (.int 0)), (6, .inr (.inl 82), .inl (.ref 7))]) jm_ok5 (by decide +kernel) (by decide +kernel) hd F X1 X2 (fun F' hF hs => ?_)
  have b84 := hd_b (F := F) (F' := F') (k := 84) (hF 84 (by decide))
  have b82 := hd_b (F := F) (F' := F') (k := 82) (hF 82 (by decide))
  have a54 := hd_ba (F := F) (F' := F') (k := 54) (hF 54 (by decide))
  have t85 : sy_da F' (.inr (.inl 85)) = .inl (jm_upd (sy_ai F 54) (sy_i F 82).toNatClampNeg ((1 : Int32))) := hd_up (hs 0 _ rfl) b82 rfl a54
  have hB' : iv_in F' iv_B0 := iv_in_eq hB (fun j hj => hF j (Nat.lt_of_lt_of_le hj (by decide +kernel)))
  refine ⟨List.forall_mem_cons.mpr ⟨hd_p2 b84 rfl (by have hc : ((0) : Int32).toInt = 0 := (by decide); omega), List.forall_mem_cons.mpr ⟨hd_pb b82 (by first | exact h1 | exact h1), fun _ h => absurd h List.not_mem_nil⟩⟩, ?_⟩
  refine k _ ?_ ?_ ?_
  · exact fun j hj hn => (hd_keep hB' (Nat.lt_of_lt_of_le hj (by decide +kernel)) (by simp; omega)).trans (hF j (Nat.lt_of_lt_of_le hj (by decide)))
  · exact hd_ga (a := .inr (.inl 85)) (by decide +kernel) t85
  · exact hd_gi (x := .inr (.inl 82)) (by decide +kernel) b82
theorem j3nlf_24_p1 {Ls : Nat} {xs : Nat → Int32} {d : Nat} {Q : Option Value → jm_h → Prop} (hd : 2 ≤ d) (F : Nat → sy_d) (X1 X2 : List jm_c) (hB : iv_in F iv_B0)
    (h0 : 0 ≤ (sy_i F 84).toInt)
    (h1 : 0 ≤ (sy_i F 82).toInt ∧ (sy_i F 82).toInt < 7)
    (h2 : 0 ≤ (sy_i F 82).toInt ∧ (sy_i F 82).toInt < 7)
    (h3 : 0 ≤ (sy_i F 84).toInt ∧ (sy_i F 84).toInt < 4)
    (h4 : 0 ≤ (sy_i F 84).toInt ∧ (sy_i F 84).toInt < 4)
    (k : ∀ F1 : Nat → sy_d, (∀ j, j < 82 → j ≠ 54 ∧ j ≠ 55 ∧ j ≠ 61 → F1 j = F j) → F1 54 = .inr (.inl (jm_upd (sy_ai F 54) (sy_i F 82).toNatClampNeg ((2 : Int32)))) → F1 55 = .inr (.inl (jm_upd (sy_ai F 55) (sy_i F 82).toNatClampNeg (sy_i F 84))) → F1 61 = .inr (.inl (jm_upd (sy_ai F 61) (sy_i F 84).toNatClampNeg (((sy_ai F 61).getD (sy_i F 84).toNatClampNeg 0) - (sy_i F 83)))) → Q (none) (sy_dh F1 X1 X2 (iv_H 3))) :
    hd_W Ls xs d jm_M5 Q (24, sy_dL F [some (.inl (.ref 41)), some (.inl (.ref 20)), some (.inl (.ref 46)), some (.inr (.inl 82)), some (.inr (.inl 83)), none], sy_dS F [.inr (.inl 84)], sy_dh F X1 X2 (iv_H 3), 0, 0) := by
  refine hd_ret (s := 3) (nv := 85) (v := none) (uh := hd_ov (iv_id 0 iv_B0) [(54, .inr (.inr (.inl 85))), (55, .inr (.inr (.inl 86))), (61, .inr (.inr (.inl 89)))]) (f := false) (sp := [61]) (d0 := 1) (O := [false]) (T := [(40, [.inr (.inl 82), .inl (.int 2)], [.inr (.inl 54)]), (40, [.inr (.inl 82), .inr (.inl 84)], [.inr (.inl 55)]), (30, [.inr (.inl 84)], [.inr (.inl 61)]), (1, [.inr (.inl 87), .inr (.inl 83)], []), (40, [.inr (.inl 84), .inr (.inl 88)], [.inr (.inl 61)])]) (P := [(3, .inr (.inl 84), .inl (.int 0)), (6, .inr (.inl 82), .inl (.ref 7)), (6, .inr (.inl 82), .inl (.ref 7)), (6, .inr (.inl 84), .inl (.ref 4)), (6, .inr (.inl 84), .inl (.ref 4))]) jm_ok5 (by decide +kernel) (by decide +kernel) hd F X1 X2 (fun F' hF hs => ?_)
  have b84 := hd_b (F := F) (F' := F') (k := 84) (hF 84 (by decide))
  have b82 := hd_b (F := F) (F' := F') (k := 82) (hF 82 (by decide))
  have a54 := hd_ba (F := F) (F' := F') (k := 54) (hF 54 (by decide))
  have t85 : sy_da F' (.inr (.inl 85)) = .inl (jm_upd (sy_ai F 54) (sy_i F 82).toNatClampNeg ((2 : Int32))) := hd_up (hs 0 _ rfl) b82 rfl a54
  have a55 := hd_ba (F := F) (F' := F') (k := 55) (hF 55 (by decide))
  have t86 : sy_da F' (.inr (.inl 86)) = .inl (jm_upd (sy_ai F 55) (sy_i F 82).toNatClampNeg (sy_i F 84)) := hd_up (hs 1 _ rfl) b82 b84 a55
  have a61 := hd_ba (F := F) (F' := F') (k := 61) (hF 61 (by decide))
  have t87 : sy_dv F' (.inr (.inl 87)) = .int ((sy_ai F 61).getD (sy_i F 84).toNatClampNeg 0) := hd_rd (hs 2 _ rfl) b84 a61
  have b83 := hd_b (F := F) (F' := F') (k := 83) (hF 83 (by decide))
  have t88 : sy_dv F' (.inr (.inl 88)) = .int (((sy_ai F 61).getD (sy_i F 84).toNatClampNeg 0) - (sy_i F 83)) := hd_o (hs 3 _ rfl) t87 b83 rfl
  have t89 : sy_da F' (.inr (.inl 89)) = .inl (jm_upd (sy_ai F 61) (sy_i F 84).toNatClampNeg (((sy_ai F 61).getD (sy_i F 84).toNatClampNeg 0) - (sy_i F 83))) := hd_up (hs 4 _ rfl) b84 t88 a61
  have hB' : iv_in F' iv_B0 := iv_in_eq hB (fun j hj => hF j (Nat.lt_of_lt_of_le hj (by decide +kernel)))
  refine ⟨List.forall_mem_cons.mpr ⟨hd_p3 b84 rfl (by have hc : ((0) : Int32).toInt = 0 := (by decide); omega), List.forall_mem_cons.mpr ⟨hd_pb b82 (by first | exact h1 | exact h1), List.forall_mem_cons.mpr ⟨hd_pb b82 (by first | exact h2 | exact h2), List.forall_mem_cons.mpr ⟨hd_pb b84 (by first | exact h3 | exact h3), List.forall_mem_cons.mpr ⟨hd_pb b84 (by first | exact h4 | exact h4), fun _ h => absurd h List.not_mem_nil⟩⟩⟩⟩⟩, ?_⟩
  refine k _ ?_ ?_ ?_ ?_
  · exact fun j hj hn => (hd_keep hB' (Nat.lt_of_lt_of_le hj (by decide +kernel)) (by simp; omega)).trans (hF j (Nat.lt_of_lt_of_le hj (by decide)))
  · exact hd_ga (a := .inr (.inl 85)) (by decide +kernel) t85
  · exact hd_ga (a := .inr (.inl 86)) (by decide +kernel) t86
  · exact hd_ga (a := .inr (.inl 89)) (by decide +kernel) t89
theorem j3nlf_24 {Ls : Nat} {xs : Nat → Int32} {d : Nat} {Q : Option Value → jm_h → Prop} (hd : 2 ≤ d) (F : Nat → sy_d) (X1 X2 : List jm_c) (hB : iv_in F iv_B0)
    (a82 : 0 ≤ (sy_i F 82).toInt ∧ (sy_i F 82).toInt ≤ 6)
    (a84 : (-2) ≤ (sy_i F 84).toInt ∧ (sy_i F 84).toInt ≤ 3)
    (k0 : (sy_i F 84).toInt < 0 → ∀ F1 : Nat → sy_d, iv_in F1 iv_B0 → (∀ j, j < 82 → j ∉ ([54] : List Nat) → F1 j = F j) → sy_ai F1 54 = jm_upd (sy_ai F 54) ((sy_i F 82).toInt).toNat ((1 : Int32)) → (sy_i F1 82).toInt = (sy_i F 82).toInt → sy_i F1 82 = sy_i F 82 → hd_W Ls xs d jm_M5 Q (61, sy_dL F1 [none, none, none, none, none, none], sy_dS F1 [.inr (.inl 82), .inl (.ref 20), .inl (.ref 38), .inr (.inl 82), .inl (.ref 53)], sy_dh F1 X1 X2 (iv_H 3), 0, 0))
    (k1 : 0 ≤ (sy_i F 84).toInt → ∀ F1 : Nat → sy_d, iv_in F1 iv_B0 → (∀ j, j < 82 → j ∉ ([54, 55, 61] : List Nat) → F1 j = F j) → sy_ai F1 54 = jm_upd (sy_ai F 54) ((sy_i F 82).toInt).toNat ((2 : Int32)) → sy_ai F1 55 = jm_upd (sy_ai F 55) ((sy_i F 82).toInt).toNat (sy_i F 84) → sy_ai F1 61 = jm_upd (sy_ai F 61) ((sy_i F 84).toInt).toNat (((sy_ai F 61).getD ((sy_i F 84).toInt).toNat 0) - (sy_i F 83)) → Q (none) (sy_dh F1 X1 X2 (iv_H 3))) :
    hd_W Ls xs d jm_M5 Q (24, sy_dL F [some (.inl (.ref 41)), some (.inl (.ref 20)), some (.inl (.ref 46)), some (.inr (.inl 82)), some (.inr (.inl 83)), none], sy_dS F [.inr (.inl 84)], sy_dh F X1 X2 (iv_H 3), 0, 0) := by
  by_cases g0 : (sy_i F 84).toInt < 0
  · have w85 : jm_upd (sy_ai F 54) (sy_i F 82).toNatClampNeg ((1 : Int32)) = jm_upd (sy_ai F 54) ((sy_i F 82).toInt).toNat ((1 : Int32)) := by simp only [nz_c, (by decide : ((1 : Int32)).toInt = 1)]
    exact j3nlf_24_p0 hd F X1 X2 hB (by first | exact g0 | (simp only [nz_c]; exact g0)) (by first | exact ⟨by omega, by omega⟩ | (simp only [nz_c]; exact ⟨by omega, by omega⟩)) (fun F1 g e54 e82 => k0 g0 F1 (nz_in0 hB [54] (fun j hj hn => g j hj (by simp only [List.mem_cons, List.not_mem_nil, or_false, not_or] at hn; omega)) (List.forall_mem_cons.mpr ⟨fun t ht => (Option.some.inj ht) ▸ (nz_hz2 e54), List.forall_mem_nil _⟩)) (fun j hj hn => g j hj (by simp only [List.mem_cons, List.not_mem_nil, or_false, not_or] at hn; omega)) ((zz_ai e54).trans w85) ((congrArg Int32.toInt (zz_i e82)).trans (rfl : (sy_i F 82).toInt = (sy_i F 82).toInt)) ((zz_i e82).trans (rfl : sy_i F 82 = sy_i F 82)))
  replace g0 : 0 ≤ (sy_i F 84).toInt := by omega
  have w85 : jm_upd (sy_ai F 54) (sy_i F 82).toNatClampNeg ((2 : Int32)) = jm_upd (sy_ai F 54) ((sy_i F 82).toInt).toNat ((2 : Int32)) := by simp only [nz_c, (by decide : ((2 : Int32)).toInt = 2)]
  have w86 : jm_upd (sy_ai F 55) (sy_i F 82).toNatClampNeg (sy_i F 84) = jm_upd (sy_ai F 55) ((sy_i F 82).toInt).toNat (sy_i F 84) := by simp only [nz_c]
  have w89 : jm_upd (sy_ai F 61) (sy_i F 84).toNatClampNeg (((sy_ai F 61).getD (sy_i F 84).toNatClampNeg 0) - (sy_i F 83)) = jm_upd (sy_ai F 61) ((sy_i F 84).toInt).toNat (((sy_ai F 61).getD ((sy_i F 84).toInt).toNat 0) - (sy_i F 83)) := by simp only [nz_c]
  exact j3nlf_24_p1 hd F X1 X2 hB (by first | exact g0 | (simp only [nz_c]; exact g0)) (by first | exact ⟨by omega, by omega⟩ | (simp only [nz_c]; exact ⟨by omega, by omega⟩)) (by first | exact ⟨by omega, by omega⟩ | (simp only [nz_c]; exact ⟨by omega, by omega⟩)) (by first | exact ⟨by omega, by omega⟩ | (simp only [nz_c]; exact ⟨by omega, by omega⟩)) (by first | exact ⟨by omega, by omega⟩ | (simp only [nz_c]; exact ⟨by omega, by omega⟩)) (fun F1 g e54 e55 e61 => k1 g0 F1 (nz_in0 hB [54, 55, 61] (fun j hj hn => g j hj (by simp only [List.mem_cons, List.not_mem_nil, or_false, not_or] at hn; omega)) (List.forall_mem_cons.mpr ⟨fun t ht => (Option.some.inj ht) ▸ (nz_hz2 e54), List.forall_mem_cons.mpr ⟨fun t ht => (Option.some.inj ht) ▸ (nz_hz2 e55), List.forall_mem_cons.mpr ⟨fun t ht => (Option.some.inj ht) ▸ (nz_hz2 e61), List.forall_mem_nil _⟩⟩⟩)) (fun j hj hn => g j hj (by simp only [List.mem_cons, List.not_mem_nil, or_false, not_or] at hn; omega)) ((zz_ai e54).trans w85) ((zz_ai e55).trans w86) ((zz_ai e61).trans w89))
theorem j3nlf_64_p0 {Ls : Nat} {xs : Nat → Int32} {d : Nat} {Q : Option Value → jm_h → Prop} (hd : 1 ≤ d) (F : Nat → sy_d) (X1 X2 : List jm_c) (hB : iv_in F iv_B0)
    (h0 : 0 ≤ (sy_i F 82).toInt ∧ (sy_i F 82).toInt < 7)
    (k : ∀ F1 : Nat → sy_d, (∀ j, j < 82 → j ≠ 59 → F1 j = F j) → F1 59 = .inr (.inl (jm_upd (sy_ai F 59) (sy_i F 82).toNatClampNeg (sy_i F 83))) → Q (none) (sy_dh F1 X1 X2 (iv_H 3))) :
    hd_W Ls xs d jm_M5 Q (64, sy_dL F [none, none, none, none, none, none], sy_dS F [.inr (.inl 83), .inr (.inl 82), .inl (.ref 53)], sy_dh F X1 X2 (iv_H 3), 0, 0) := by
  refine hd_ret (s := 3) (nv := 84) (v := none) (uh := hd_ov (iv_id 0 iv_B0) [(59, .inr (.inr (.inl 84)))]) (f := false) (sp := []) (d0 := 0) (O := []) (T := [(40, [.inr (.inl 82), .inr (.inl 83)], [.inr (.inl 59)])]) (P := [(6, .inr (.inl 82), .inl (.ref 7))]) jm_ok5 (by decide +kernel) (by decide +kernel) hd F X1 X2 (fun F' hF hs => ?_)
  have b82 := hd_b (F := F) (F' := F') (k := 82) (hF 82 (by decide))
  have b83 := hd_b (F := F) (F' := F') (k := 83) (hF 83 (by decide))
  have a59 := hd_ba (F := F) (F' := F') (k := 59) (hF 59 (by decide))
  have t84 : sy_da F' (.inr (.inl 84)) = .inl (jm_upd (sy_ai F 59) (sy_i F 82).toNatClampNeg (sy_i F 83)) := hd_up (hs 0 _ rfl) b82 b83 a59
  have hB' : iv_in F' iv_B0 := iv_in_eq hB (fun j hj => hF j (Nat.lt_of_lt_of_le hj (by decide +kernel)))
  refine ⟨List.forall_mem_cons.mpr ⟨hd_pb b82 (by first | exact h0 | exact h0), fun _ h => absurd h List.not_mem_nil⟩, ?_⟩
  refine k _ ?_ ?_
  · exact fun j hj hn => (hd_keep hB' (Nat.lt_of_lt_of_le hj (by decide +kernel)) (by simp; omega)).trans (hF j (Nat.lt_of_lt_of_le hj (by decide)))
  · exact hd_ga (a := .inr (.inl 84)) (by decide +kernel) t84
theorem j3nlf_64 {Ls : Nat} {xs : Nat → Int32} {d : Nat} {Q : Option Value → jm_h → Prop} (hd : 1 ≤ d) (F : Nat → sy_d) (X1 X2 : List jm_c) (hB : iv_in F iv_B0)
    (a82 : 0 ≤ (sy_i F 82).toInt ∧ (sy_i F 82).toInt ≤ 6)
    (k0 : ∀ F1 : Nat → sy_d, iv_in F1 iv_B0 → (∀ j, j < 82 → j ∉ ([59] : List Nat) → F1 j = F j) → sy_ai F1 59 = jm_upd (sy_ai F 59) ((sy_i F 82).toInt).toNat (sy_i F 83) → Q (none) (sy_dh F1 X1 X2 (iv_H 3))) :
    hd_W Ls xs d jm_M5 Q (64, sy_dL F [none, none, none, none, none, none], sy_dS F [.inr (.inl 83), .inr (.inl 82), .inl (.ref 53)], sy_dh F X1 X2 (iv_H 3), 0, 0) := by
  have w84 : jm_upd (sy_ai F 59) (sy_i F 82).toNatClampNeg (sy_i F 83) = jm_upd (sy_ai F 59) ((sy_i F 82).toInt).toNat (sy_i F 83) := by simp only [nz_c]
  exact j3nlf_64_p0 hd F X1 X2 hB (by first | exact ⟨by omega, by omega⟩ | (simp only [nz_c]; exact ⟨by omega, by omega⟩)) (fun F1 g e59 => k0 F1 (nz_in0 hB [59] (fun j hj hn => g j hj (by simp only [List.mem_cons, List.not_mem_nil, or_false, not_or] at hn; omega)) (List.forall_mem_cons.mpr ⟨fun t ht => (Option.some.inj ht) ▸ (nz_hz2 e59), List.forall_mem_nil _⟩)) (fun j hj hn => g j hj (by simp only [List.mem_cons, List.not_mem_nil, or_false, not_or] at hn; omega)) ((zz_ai e59).trans w84))
theorem j3nph_0_p0 {Ls : Nat} {xs : Nat → Int32} {d : Nat} {Q : Option Value → jm_h → Prop} (hd : 1 ≤ d) (F : Nat → sy_d) (X1 X2 : List jm_c) (hB : iv_in F iv_B0)
    (k : ∀ F1 : Nat → sy_d, (∀ j, j < 82 → True → F1 j = F j) → F1 82 = .inl (.int (sy_i F 82)) → F1 83 = .inl (.int (sy_i F 50)) → F1 84 = .inl (.int (sy_i F 18)) → hd_W Ls xs d jm_M3 Q (15, sy_dL F1 [some (.inl (.ref 41)), some (.inl (.ref 20)), some (.inl (.ref 46)), some (.inr (.inl 82)), none], sy_dS F1 [.inr (.inl 84), .inl (.int 0), .inl (.ref 46), .inr (.inl 83), .inl (.ref 20), .inl (.ref 38)], sy_dh F1 X1 X2 (iv_H 3), 0, 0)) :
    hd_W Ls xs d jm_M3 Q (0, sy_dL F [some (.inl (.ref 41)), some (.inl (.ref 20)), some (.inl (.ref 46)), some (.inr (.inl 82)), none], sy_dS F [], sy_dh F X1 X2 (iv_H 3), 0, 0) := by
  refine hd_run (s := 3) (nv := 83) (pc := 15) (L := [some (.inl (.ref 41)), some (.inl (.ref 20)), some (.inl (.ref 46)), some (.inr (.inl 82)), none]) (S := [.inr (.inl 84), .inl (.int 0), .inl (.ref 46), .inr (.inl 83), .inl (.ref 20), .inl (.ref 38)]) (uh := hd_ov (iv_id 0 iv_B0) []) (ul := [.inl (.inr (.inl 82)), .inl (.inr (.inl 50)), .inl (.inr (.inl 18))]) (f := true) (sp := [15]) (d0 := 0) (O := []) (T := []) (P := []) jm_ok3 (by decide +kernel) (by decide +kernel) hd F X1 X2 (fun F' hF hs => ?_)
  have b82 := hd_b (F := F) (F' := F') (k := 82) (hF 82 (by decide))
  have b50 := hd_b (F := F) (F' := F') (k := 50) (hF 50 (by decide))
  have b18 := hd_b (F := F) (F' := F') (k := 18) (hF 18 (by decide))
  have hB' : iv_in F' iv_B0 := iv_in_eq hB (fun j hj => hF j (Nat.lt_of_lt_of_le hj (by decide +kernel)))
  refine ⟨fun _ h => absurd h List.not_mem_nil, ?_⟩
  refine k _ ?_ ?_ ?_ ?_
  · exact fun j hj _ => (hd_keep hB' (Nat.lt_of_lt_of_le hj (by decide +kernel)) (by simp)).trans (hF j (Nat.lt_of_lt_of_le hj (by decide)))
  · exact hd_gi (x := .inr (.inl 82)) (by decide +kernel) b82
  · exact hd_gi (x := .inr (.inl 50)) (by decide +kernel) b50
  · exact hd_gi (x := .inr (.inl 18)) (by decide +kernel) b18
theorem j3nph_0 {Ls : Nat} {xs : Nat → Int32} {d : Nat} {Q : Option Value → jm_h → Prop} (hd : 1 ≤ d) (F : Nat → sy_d) (X1 X2 : List jm_c) (hB : iv_in F iv_B0)
    (k0 : ∀ F1 : Nat → sy_d, iv_in F1 iv_B0 → (∀ j, j < 82 → j ∉ ([] : List Nat) → F1 j = F j) → (sy_i F1 82).toInt = (sy_i F 82).toInt → sy_i F1 82 = sy_i F 82 → (sy_i F1 83).toInt = (sy_i F 50).toInt → sy_i F1 83 = sy_i F 50 → (sy_i F1 84).toInt = (sy_i F 18).toInt → sy_i F1 84 = sy_i F 18 → hd_W Ls xs d jm_M3 Q (15, sy_dL F1 [some (.inl (.ref 41)), some (.inl (.ref 20)), some (.inl (.ref 46)), some (.inr (.inl 82)), none], sy_dS F1 [.inr (.inl 84), .inl (.int 0), .inl (.ref 46), .inr (.inl 83), .inl (.ref 20), .inl (.ref 38)], sy_dh F1 X1 X2 (iv_H 3), 0, 0)) :
    hd_W Ls xs d jm_M3 Q (0, sy_dL F [some (.inl (.ref 41)), some (.inl (.ref 20)), some (.inl (.ref 46)), some (.inr (.inl 82)), none], sy_dS F [], sy_dh F X1 X2 (iv_H 3), 0, 0) := by
  have c18 := nz_bx hB (k := 18) (lo := 0) (hi := 7) rfl
  exact j3nph_0_p0 hd F X1 X2 hB  (fun F1 g e82 e83 e84 => k0 F1 (nz_in0 hB [] (fun j hj hn => g j hj (by simp only [List.mem_cons, List.not_mem_nil, or_false, not_or] at hn; exact trivial)) (List.forall_mem_nil _)) (fun j hj hn => g j hj (by simp only [List.mem_cons, List.not_mem_nil, or_false, not_or] at hn; exact trivial)) ((congrArg Int32.toInt (zz_i e82)).trans (rfl : (sy_i F 82).toInt = (sy_i F 82).toInt)) ((zz_i e82).trans (rfl : sy_i F 82 = sy_i F 82)) ((congrArg Int32.toInt (zz_i e83)).trans (rfl : (sy_i F 50).toInt = (sy_i F 50).toInt)) ((zz_i e83).trans (rfl : sy_i F 50 = sy_i F 50)) ((congrArg Int32.toInt (zz_i e84)).trans (rfl : (sy_i F 18).toInt = (sy_i F 18).toInt)) ((zz_i e84).trans (rfl : sy_i F 18 = sy_i F 18)))
theorem j3nph_21_p0 {Ls : Nat} {xs : Nat → Int32} {d : Nat} {Q : Option Value → jm_h → Prop} (hd : 1 ≤ d) (F : Nat → sy_d) (X1 X2 : List jm_c) (hB : iv_in F iv_B0)
    (k : ∀ F1 : Nat → sy_d, (∀ j, j < 82 → True → F1 j = F j) → F1 82 = .inl (.int (sy_i F 82)) → F1 83 = .inl (.int ((0 : Int32))) → hd_W Ls xs d jm_M3 Q (24, sy_dL F1 [some (.inl (.ref 41)), some (.inl (.ref 20)), some (.inl (.ref 46)), some (.inr (.inl 82)), some (.inr (.inl 83))], sy_dS F1 [], sy_dh F1 X1 X2 (iv_H 3), 0, 0)) :
    hd_W Ls xs d jm_M3 Q (21, sy_dL F [some (.inl (.ref 41)), some (.inl (.ref 20)), some (.inl (.ref 46)), some (.inr (.inl 82)), none], sy_dS F [], sy_dh F X1 X2 (iv_H 3), 0, 0) := by
  refine hd_run (s := 3) (nv := 83) (pc := 24) (L := [some (.inl (.ref 41)), some (.inl (.ref 20)), some (.inl (.ref 46)), some (.inr (.inl 82)), some (.inr (.inl 83))]) (S := []) (uh := hd_ov (iv_id 0 iv_B0) []) (ul := [.inl (.inr (.inl 82)), .inl (.inl (.int 0))]) (f := false) (sp := [24]) (d0 := 0) (O := []) (T := []) (P := []) jm_ok3 (by decide +kernel) (by decide +kernel) hd F X1 X2 (fun F' hF hs => ?_)
  have b82 := hd_b (F := F) (F' := F') (k := 82) (hF 82 (by decide))
  have hB' : iv_in F' iv_B0 := iv_in_eq hB (fun j hj => hF j (Nat.lt_of_lt_of_le hj (by decide +kernel)))
  refine ⟨fun _ h => absurd h List.not_mem_nil, ?_⟩
  refine k _ ?_ ?_ ?_
  · exact fun j hj _ => (hd_keep hB' (Nat.lt_of_lt_of_le hj (by decide +kernel)) (by simp)).trans (hF j (Nat.lt_of_lt_of_le hj (by decide)))
  · exact hd_gi (x := .inr (.inl 82)) (by decide +kernel) b82
  · exact hd_gi (x := .inl (.int 0)) (by decide +kernel) rfl
theorem j3nph_21 {Ls : Nat} {xs : Nat → Int32} {d : Nat} {Q : Option Value → jm_h → Prop} (hd : 1 ≤ d) (F : Nat → sy_d) (X1 X2 : List jm_c) (hB : iv_in F iv_B0)
    (k0 : ∀ F1 : Nat → sy_d, iv_in F1 iv_B0 → (∀ j, j < 82 → j ∉ ([] : List Nat) → F1 j = F j) → (sy_i F1 82).toInt = (sy_i F 82).toInt → sy_i F1 82 = sy_i F 82 → (sy_i F1 83).toInt = 0 → sy_i F1 83 = (0 : Int32) → hd_W Ls xs d jm_M3 Q (24, sy_dL F1 [some (.inl (.ref 41)), some (.inl (.ref 20)), some (.inl (.ref 46)), some (.inr (.inl 82)), some (.inr (.inl 83))], sy_dS F1 [], sy_dh F1 X1 X2 (iv_H 3), 0, 0)) :
    hd_W Ls xs d jm_M3 Q (21, sy_dL F [some (.inl (.ref 41)), some (.inl (.ref 20)), some (.inl (.ref 46)), some (.inr (.inl 82)), none], sy_dS F [], sy_dh F X1 X2 (iv_H 3), 0, 0) := by
  exact j3nph_21_p0 hd F X1 X2 hB  (fun F1 g e82 e83 => k0 F1 (nz_in0 hB [] (fun j hj hn => g j hj (by simp only [List.mem_cons, List.not_mem_nil, or_false, not_or] at hn; exact trivial)) (List.forall_mem_nil _)) (fun j hj hn => g j hj (by simp only [List.mem_cons, List.not_mem_nil, or_false, not_or] at hn; exact trivial)) ((congrArg Int32.toInt (zz_i e82)).trans (rfl : (sy_i F 82).toInt = (sy_i F 82).toInt)) ((zz_i e82).trans (rfl : sy_i F 82 = sy_i F 82)) ((congrArg Int32.toInt (zz_i e83)).trans (by decide : ((0 : Int32)).toInt = 0)) ((zz_i e83).trans (rfl : (0 : Int32) = (0 : Int32))))
theorem j3nph_24_p0 {Ls : Nat} {xs : Nat → Int32} {d : Nat} {Q : Option Value → jm_h → Prop} (hd : 1 ≤ d) (F : Nat → sy_d) (X1 X2 : List jm_c) (hB : iv_in F iv_B0)
    (h0 : (sy_i F 18).toInt ≤ (sy_i F 83).toInt)
    (k : ∀ F1 : Nat → sy_d, (∀ j, j < 82 → True → F1 j = F j) → F1 82 = .inl (.int (sy_i F 82)) → F1 83 = .inl (.int ((0 : Int32))) → hd_W Ls xs d jm_M3 Q (61, sy_dL F1 [some (.inl (.ref 41)), some (.inl (.ref 20)), some (.inl (.ref 46)), some (.inr (.inl 82)), some (.inr (.inl 83))], sy_dS F1 [], sy_dh F1 X1 X2 (iv_H 3), 0, 0)) :
    hd_W Ls xs d jm_M3 Q (24, sy_dL F [some (.inl (.ref 41)), some (.inl (.ref 20)), some (.inl (.ref 46)), some (.inr (.inl 82)), some (.inr (.inl 83))], sy_dS F [], sy_dh F X1 X2 (iv_H 3), 0, 0) := by
  refine hd_run (s := 3) (nv := 84) (pc := 61) (L := [some (.inl (.ref 41)), some (.inl (.ref 20)), some (.inl (.ref 46)), some (.inr (.inl 82)), some (.inr (.inl 83))]) (S := []) (uh := hd_ov (iv_id 0 iv_B0) []) (ul := [.inl (.inr (.inl 82)), .inl (.inl (.int 0))]) (f := true) (sp := [24, 49, 61]) (d0 := 0) (O := [true]) (T := []) (P := [(4, .inr (.inl 18), .inr (.inl 83))]) jm_ok3 (by decide +kernel) (by decide +kernel) hd F X1 X2 (fun F' hF hs => ?_)
  have b18 := hd_b (F := F) (F' := F') (k := 18) (hF 18 (by decide))
  have b83 := hd_b (F := F) (F' := F') (k := 83) (hF 83 (by decide))
  have b82 := hd_b (F := F) (F' := F') (k := 82) (hF 82 (by decide))
  have hB' : iv_in F' iv_B0 := iv_in_eq hB (fun j hj => hF j (Nat.lt_of_lt_of_le hj (by decide +kernel)))
  refine ⟨List.forall_mem_cons.mpr ⟨hd_p4 b18 b83 h0, fun _ h => absurd h List.not_mem_nil⟩, ?_⟩
  refine k _ ?_ ?_ ?_
  · exact fun j hj _ => (hd_keep hB' (Nat.lt_of_lt_of_le hj (by decide +kernel)) (by simp)).trans (hF j (Nat.lt_of_lt_of_le hj (by decide)))
  · exact hd_gi (x := .inr (.inl 82)) (by decide +kernel) b82
  · exact hd_gi (x := .inl (.int 0)) (by decide +kernel) rfl
theorem j3nph_24_p1 {Ls : Nat} {xs : Nat → Int32} {d : Nat} {Q : Option Value → jm_h → Prop} (hd : 1 ≤ d) (F : Nat → sy_d) (X1 X2 : List jm_c) (hB : iv_in F iv_B0)
    (h0 : (sy_i F 83).toInt < (sy_i F 18).toInt)
    (h1 : 0 ≤ (sy_i F 83).toInt ∧ (sy_i F 83).toInt < 7)
    (h2 : ((sy_ai F 54).getD (sy_i F 83).toNatClampNeg 0).toInt ≠ 1)
    (k : ∀ F1 : Nat → sy_d, (∀ j, j < 82 → True → F1 j = F j) → F1 82 = .inl (.int (sy_i F 82)) → F1 83 = .inl (.int ((sy_i F 83) + ((1 : Int32)))) → hd_W Ls xs d jm_M3 Q (24, sy_dL F1 [some (.inl (.ref 41)), some (.inl (.ref 20)), some (.inl (.ref 46)), some (.inr (.inl 82)), some (.inr (.inl 83))], sy_dS F1 [], sy_dh F1 X1 X2 (iv_H 3), 0, 0)) :
    hd_W Ls xs d jm_M3 Q (24, sy_dL F [some (.inl (.ref 41)), some (.inl (.ref 20)), some (.inl (.ref 46)), some (.inr (.inl 82)), some (.inr (.inl 83))], sy_dS F [], sy_dh F X1 X2 (iv_H 3), 0, 0) := by
  refine hd_run (s := 3) (nv := 84) (pc := 24) (L := [some (.inl (.ref 41)), some (.inl (.ref 20)), some (.inl (.ref 46)), some (.inr (.inl 82)), some (.inr (.inl 83))]) (S := []) (uh := hd_ov (iv_id 0 iv_B0) []) (ul := [.inl (.inr (.inl 82)), .inl (.inr (.inl 85))]) (f := true) (sp := [24, 49, 61]) (d0 := 0) (O := [false, true]) (T := [(30, [.inr (.inl 83)], [.inr (.inl 54)]), (0, [.inr (.inl 83), .inl (.int 1)], [])]) (P := [(5, .inr (.inl 18), .inr (.inl 83)), (6, .inr (.inl 83), .inl (.ref 7)), (1, .inr (.inl 84), .inl (.int 1))]) jm_ok3 (by decide +kernel) (by decide +kernel) hd F X1 X2 (fun F' hF hs => ?_)
  have b18 := hd_b (F := F) (F' := F') (k := 18) (hF 18 (by decide))
  have b83 := hd_b (F := F) (F' := F') (k := 83) (hF 83 (by decide))
  have a54 := hd_ba (F := F) (F' := F') (k := 54) (hF 54 (by decide))
  have t84 : sy_dv F' (.inr (.inl 84)) = .int ((sy_ai F 54).getD (sy_i F 83).toNatClampNeg 0) := hd_rd (hs 0 _ rfl) b83 a54
  have b82 := hd_b (F := F) (F' := F') (k := 82) (hF 82 (by decide))
  have t85 : sy_dv F' (.inr (.inl 85)) = .int ((sy_i F 83) + ((1 : Int32))) := hd_o (hs 1 _ rfl) b83 rfl rfl
  have hB' : iv_in F' iv_B0 := iv_in_eq hB (fun j hj => hF j (Nat.lt_of_lt_of_le hj (by decide +kernel)))
  refine ⟨List.forall_mem_cons.mpr ⟨hd_p5 b18 b83 h0, List.forall_mem_cons.mpr ⟨hd_pb b83 (by first | exact h1 | exact h1), List.forall_mem_cons.mpr ⟨hd_p1 t84 rfl (by have hc : ((1) : Int32).toInt = 1 := (by decide); omega), fun _ h => absurd h List.not_mem_nil⟩⟩⟩, ?_⟩
  refine k _ ?_ ?_ ?_
  · exact fun j hj _ => (hd_keep hB' (Nat.lt_of_lt_of_le hj (by decide +kernel)) (by simp)).trans (hF j (Nat.lt_of_lt_of_le hj (by decide)))
  · exact hd_gi (x := .inr (.inl 82)) (by decide +kernel) b82
  · exact hd_gi (x := .inr (.inl 85)) (by decide +kernel) t85
theorem j3nph_24_p2 {Ls : Nat} {xs : Nat → Int32} {d : Nat} {Q : Option Value → jm_h → Prop} (hd : 1 ≤ d) (F : Nat → sy_d) (X1 X2 : List jm_c) (hB : iv_in F iv_B0)
    (h0 : (sy_i F 83).toInt < (sy_i F 18).toInt)
    (h1 : 0 ≤ (sy_i F 83).toInt ∧ (sy_i F 83).toInt < 7)
    (h2 : ((sy_ai F 54).getD (sy_i F 83).toNatClampNeg 0).toInt = 1)
    (k : ∀ F1 : Nat → sy_d, (∀ j, j < 82 → True → F1 j = F j) → F1 82 = .inl (.int (sy_i F 82)) → F1 83 = .inl (.int (sy_i F 83)) → hd_W Ls xs d jm_M3 Q (49, sy_dL F1 [some (.inl (.ref 41)), some (.inl (.ref 20)), some (.inl (.ref 46)), some (.inr (.inl 82)), some (.inr (.inl 83))], sy_dS F1 [.inr (.inl 83), .inl (.ref 46), .inl (.ref 20), .inl (.ref 41)], sy_dh F1 X1 X2 (iv_H 3), 0, 0)) :
    hd_W Ls xs d jm_M3 Q (24, sy_dL F [some (.inl (.ref 41)), some (.inl (.ref 20)), some (.inl (.ref 46)), some (.inr (.inl 82)), some (.inr (.inl 83))], sy_dS F [], sy_dh F X1 X2 (iv_H 3), 0, 0) := by
  refine hd_run (s := 3) (nv := 84) (pc := 49) (L := [some (.inl (.ref 41)), some (.inl (.ref 20)), some (.inl (.ref 46)), some (.inr (.inl 82)), some (.inr (.inl 83))]) (S := [.inr (.inl 83), .inl (.ref 46), .inl (.ref 20), .inl (.ref 41)]) (uh := hd_ov (iv_id 0 iv_B0) []) (ul := [.inl (.inr (.inl 82)), .inl (.inr (.inl 83))]) (f := true) (sp := [24, 49, 61]) (d0 := 0) (O := [false, false]) (T := [(30, [.inr (.inl 83)], [.inr (.inl 54)])]) (P := [(5, .inr (.inl 18), .inr (.inl 83)), (6, .inr (.inl 83), .inl (.ref 7)), (0, .inr (.inl 84), .inl (.int 1))]) jm_ok3 (by decide +kernel) (by decide +kernel) hd F X1 X2 (fun F' hF hs => ?_)
  have b18 := hd_b (F := F) (F' := F') (k := 18) (hF 18 (by decide))
  have b83 := hd_b (F := F) (F' := F') (k := 83) (hF 83 (by decide))
  have a54 := hd_ba (F := F) (F' := F') (k := 54) (hF 54 (by decide))
  have t84 : sy_dv F' (.inr (.inl 84)) = .int ((sy_ai F 54).getD (sy_i F 83).toNatClampNeg 0) := hd_rd (hs 0 _ rfl) b83 a54
  have b82 := hd_b (F := F) (F' := F') (k := 82) (hF 82 (by decide))
  have hB' : iv_in F' iv_B0 := iv_in_eq hB (fun j hj => hF j (Nat.lt_of_lt_of_le hj (by decide +kernel)))
  refine ⟨List.forall_mem_cons.mpr ⟨hd_p5 b18 b83 h0, List.forall_mem_cons.mpr ⟨hd_pb b83 (by first | exact h1 | exact h1), List.forall_mem_cons.mpr ⟨hd_p0 t84 rfl (by have hc : ((1) : Int32).toInt = 1 := (by decide); omega), fun _ h => absurd h List.not_mem_nil⟩⟩⟩, ?_⟩
  refine k _ ?_ ?_ ?_
  · exact fun j hj _ => (hd_keep hB' (Nat.lt_of_lt_of_le hj (by decide +kernel)) (by simp)).trans (hF j (Nat.lt_of_lt_of_le hj (by decide)))
  · exact hd_gi (x := .inr (.inl 82)) (by decide +kernel) b82
  · exact hd_gi (x := .inr (.inl 83)) (by decide +kernel) b83
theorem j3nph_24 {Ls : Nat} {xs : Nat → Int32} {d : Nat} {Q : Option Value → jm_h → Prop} (hd : 1 ≤ d) (F : Nat → sy_d) (X1 X2 : List jm_c) (hB : iv_in F iv_B0)
    (a83 : 0 ≤ (sy_i F 83).toInt ∧ (sy_i F 83).toInt ≤ 7)
    (k0 : (sy_i F 18).toInt ≤ (sy_i F 83).toInt → ∀ F1 : Nat → sy_d, iv_in F1 iv_B0 → (∀ j, j < 82 → j ∉ ([] : List Nat) → F1 j = F j) → (sy_i F1 82).toInt = (sy_i F 82).toInt → sy_i F1 82 = sy_i F 82 → (sy_i F1 83).toInt = 0 → sy_i F1 83 = (0 : Int32) → hd_W Ls xs d jm_M3 Q (61, sy_dL F1 [some (.inl (.ref 41)), some (.inl (.ref 20)), some (.inl (.ref 46)), some (.inr (.inl 82)), some (.inr (.inl 83))], sy_dS F1 [], sy_dh F1 X1 X2 (iv_H 3), 0, 0))
    (k1 : (sy_i F 83).toInt < (sy_i F 18).toInt → ((sy_ai F 54).getD ((sy_i F 83).toInt).toNat 0).toInt ≠ 1 → ∀ F1 : Nat → sy_d, iv_in F1 iv_B0 → (∀ j, j < 82 → j ∉ ([] : List Nat) → F1 j = F j) → (sy_i F1 82).toInt = (sy_i F 82).toInt → sy_i F1 82 = sy_i F 82 → (sy_i F1 83).toInt = ((sy_i F 83).toInt + 1) → sy_i F1 83 = (sy_i F 83) + ((1 : Int32)) → hd_W Ls xs d jm_M3 Q (24, sy_dL F1 [some (.inl (.ref 41)), some (.inl (.ref 20)), some (.inl (.ref 46)), some (.inr (.inl 82)), some (.inr (.inl 83))], sy_dS F1 [], sy_dh F1 X1 X2 (iv_H 3), 0, 0))
    (k2 : (sy_i F 83).toInt < (sy_i F 18).toInt → ((sy_ai F 54).getD ((sy_i F 83).toInt).toNat 0).toInt = 1 → ∀ F1 : Nat → sy_d, iv_in F1 iv_B0 → (∀ j, j < 82 → j ∉ ([] : List Nat) → F1 j = F j) → (sy_i F1 82).toInt = (sy_i F 82).toInt → sy_i F1 82 = sy_i F 82 → (sy_i F1 83).toInt = (sy_i F 83).toInt → sy_i F1 83 = sy_i F 83 → hd_W Ls xs d jm_M3 Q (49, sy_dL F1 [some (.inl (.ref 41)), some (.inl (.ref 20)), some (.inl (.ref 46)), some (.inr (.inl 82)), some (.inr (.inl 83))], sy_dS F1 [.inr (.inl 83), .inl (.ref 46), .inl (.ref 20), .inl (.ref 41)], sy_dh F1 X1 X2 (iv_H 3), 0, 0)) :
    hd_W Ls xs d jm_M3 Q (24, sy_dL F [some (.inl (.ref 41)), some (.inl (.ref 20)), some (.inl (.ref 46)), some (.inr (.inl 82)), some (.inr (.inl 83))], sy_dS F [], sy_dh F X1 X2 (iv_H 3), 0, 0) := by
  by_cases g0 : (sy_i F 18).toInt ≤ (sy_i F 83).toInt
  · have c18 := nz_bx hB (k := 18) (lo := 0) (hi := 7) rfl
    exact j3nph_24_p0 hd F X1 X2 hB (by first | exact g0 | (simp only [nz_c]; exact g0)) (fun F1 g e82 e83 => k0 g0 F1 (nz_in0 hB [] (fun j hj hn => g j hj (by simp only [List.mem_cons, List.not_mem_nil, or_false, not_or] at hn; exact trivial)) (List.forall_mem_nil _)) (fun j hj hn => g j hj (by simp only [List.mem_cons, List.not_mem_nil, or_false, not_or] at hn; exact trivial)) ((congrArg Int32.toInt (zz_i e82)).trans (rfl : (sy_i F 82).toInt = (sy_i F 82).toInt)) ((zz_i e82).trans (rfl : sy_i F 82 = sy_i F 82)) ((congrArg Int32.toInt (zz_i e83)).trans (by decide : ((0 : Int32)).toInt = 0)) ((zz_i e83).trans (rfl : (0 : Int32) = (0 : Int32))))
  replace g0 : (sy_i F 83).toInt < (sy_i F 18).toInt := by omega
  by_cases g1 : ((sy_ai F 54).getD ((sy_i F 83).toInt).toNat 0).toInt ≠ 1
  · have c18 := nz_bx hB (k := 18) (lo := 0) (hi := 7) rfl
    have q84 : (sy_ai F 54).getD (sy_i F 83).toNatClampNeg 0 = (sy_ai F 54).getD ((sy_i F 83).toInt).toNat 0 := by simp only [nz_c]
    have n84 : nzI ((sy_ai F 54).getD (sy_i F 83).toNatClampNeg 0) (((sy_ai F 54).getD ((sy_i F 83).toInt).toNat 0).toInt) := congrArg Int32.toInt q84
    have n85 : nzI ((sy_i F 83) + ((1 : Int32))) (((sy_i F 83).toInt + 1)) := nz_add (rfl : (sy_i F 83).toInt = (sy_i F 83).toInt) (by decide : ((1 : Int32)).toInt = 1) (by omega) (by omega)
    exact j3nph_24_p1 hd F X1 X2 hB (by first | exact g0 | (simp only [nz_c]; exact g0)) (by first | exact ⟨by omega, by omega⟩ | (simp only [nz_c]; exact ⟨by omega, by omega⟩)) (by first | exact g1 | (simp only [nz_c]; exact g1) | (rw [(nzE n84)]; exact g1)) (fun F1 g e82 e83 => k1 g0 g1 F1 (nz_in0 hB [] (fun j hj hn => g j hj (by simp only [List.mem_cons, List.not_mem_nil, or_false, not_or] at hn; exact trivial)) (List.forall_mem_nil _)) (fun j hj hn => g j hj (by simp only [List.mem_cons, List.not_mem_nil, or_false, not_or] at hn; exact trivial)) ((congrArg Int32.toInt (zz_i e82)).trans (rfl : (sy_i F 82).toInt = (sy_i F 82).toInt)) ((zz_i e82).trans (rfl : sy_i F 82 = sy_i F 82)) ((congrArg Int32.toInt (zz_i e83)).trans (nzE n85)) ((zz_i e83).trans (rfl : (sy_i F 83) + ((1 : Int32)) = (sy_i F 83) + ((1 : Int32)))))
  replace g1 : ((sy_ai F 54).getD ((sy_i F 83).toInt).toNat 0).toInt = 1 := by omega
  have c18 := nz_bx hB (k := 18) (lo := 0) (hi := 7) rfl
  have q84 : (sy_ai F 54).getD (sy_i F 83).toNatClampNeg 0 = (sy_ai F 54).getD ((sy_i F 83).toInt).toNat 0 := by simp only [nz_c]
  have n84 : nzI ((sy_ai F 54).getD (sy_i F 83).toNatClampNeg 0) (((sy_ai F 54).getD ((sy_i F 83).toInt).toNat 0).toInt) := congrArg Int32.toInt q84
  exact j3nph_24_p2 hd F X1 X2 hB (by first | exact g0 | (simp only [nz_c]; exact g0)) (by first | exact ⟨by omega, by omega⟩ | (simp only [nz_c]; exact ⟨by omega, by omega⟩)) (by first | exact g1 | (simp only [nz_c]; exact g1) | (rw [(nzE n84)]; exact g1)) (fun F1 g e82 e83 => k2 g0 g1 F1 (nz_in0 hB [] (fun j hj hn => g j hj (by simp only [List.mem_cons, List.not_mem_nil, or_false, not_or] at hn; exact trivial)) (List.forall_mem_nil _)) (fun j hj hn => g j hj (by simp only [List.mem_cons, List.not_mem_nil, or_false, not_or] at hn; exact trivial)) ((congrArg Int32.toInt (zz_i e82)).trans (rfl : (sy_i F 82).toInt = (sy_i F 82).toInt)) ((zz_i e82).trans (rfl : sy_i F 82 = sy_i F 82)) ((congrArg Int32.toInt (zz_i e83)).trans (rfl : (sy_i F 83).toInt = (sy_i F 83).toInt)) ((zz_i e83).trans (rfl : sy_i F 83 = sy_i F 83)))
theorem j3nph_52_p0 {Ls : Nat} {xs : Nat → Int32} {d : Nat} {Q : Option Value → jm_h → Prop} (hd : 1 ≤ d) (F : Nat → sy_d) (X1 X2 : List jm_c) (hB : iv_in F iv_B0)
    (k : ∀ F1 : Nat → sy_d, (∀ j, j < 82 → True → F1 j = F j) → F1 82 = .inl (.int (sy_i F 82)) → F1 83 = .inl (.int ((sy_i F 83) + ((1 : Int32)))) → hd_W Ls xs d jm_M3 Q (24, sy_dL F1 [some (.inl (.ref 41)), some (.inl (.ref 20)), some (.inl (.ref 46)), some (.inr (.inl 82)), some (.inr (.inl 83))], sy_dS F1 [], sy_dh F1 X1 X2 (iv_H 3), 0, 0)) :
    hd_W Ls xs d jm_M3 Q (52, sy_dL F [some (.inl (.ref 41)), some (.inl (.ref 20)), some (.inl (.ref 46)), some (.inr (.inl 82)), some (.inr (.inl 83))], sy_dS F [], sy_dh F X1 X2 (iv_H 3), 0, 0) := by
  refine hd_run (s := 3) (nv := 84) (pc := 24) (L := [some (.inl (.ref 41)), some (.inl (.ref 20)), some (.inl (.ref 46)), some (.inr (.inl 82)), some (.inr (.inl 83))]) (S := []) (uh := hd_ov (iv_id 0 iv_B0) []) (ul := [.inl (.inr (.inl 82)), .inl (.inr (.inl 84))]) (f := false) (sp := [24]) (d0 := 0) (O := []) (T := [(0, [.inr (.inl 83), .inl (.int 1)], [])]) (P := []) jm_ok3 (by decide +kernel) (by decide +kernel) hd F X1 X2 (fun F' hF hs => ?_)
  have b82 := hd_b (F := F) (F' := F') (k := 82) (hF 82 (by decide))
  have b83 := hd_b (F := F) (F' := F') (k := 83) (hF 83 (by decide))
  have t84 : sy_dv F' (.inr (.inl 84)) = .int ((sy_i F 83) + ((1 : Int32))) := hd_o (hs 0 _ rfl) b83 rfl rfl
  have hB' : iv_in F' iv_B0 := iv_in_eq hB (fun j hj => hF j (Nat.lt_of_lt_of_le hj (by decide +kernel)))
  refine ⟨fun _ h => absurd h List.not_mem_nil, ?_⟩
  refine k _ ?_ ?_ ?_
  · exact fun j hj _ => (hd_keep hB' (Nat.lt_of_lt_of_le hj (by decide +kernel)) (by simp)).trans (hF j (Nat.lt_of_lt_of_le hj (by decide)))
  · exact hd_gi (x := .inr (.inl 82)) (by decide +kernel) b82
  · exact hd_gi (x := .inr (.inl 84)) (by decide +kernel) t84
theorem j3nph_52 {Ls : Nat} {xs : Nat → Int32} {d : Nat} {Q : Option Value → jm_h → Prop} (hd : 1 ≤ d) (F : Nat → sy_d) (X1 X2 : List jm_c) (hB : iv_in F iv_B0)
    (a83 : 0 ≤ (sy_i F 83).toInt ∧ (sy_i F 83).toInt ≤ 6)
    (k0 : ∀ F1 : Nat → sy_d, iv_in F1 iv_B0 → (∀ j, j < 82 → j ∉ ([] : List Nat) → F1 j = F j) → (sy_i F1 82).toInt = (sy_i F 82).toInt → sy_i F1 82 = sy_i F 82 → (sy_i F1 83).toInt = ((sy_i F 83).toInt + 1) → sy_i F1 83 = (sy_i F 83) + ((1 : Int32)) → hd_W Ls xs d jm_M3 Q (24, sy_dL F1 [some (.inl (.ref 41)), some (.inl (.ref 20)), some (.inl (.ref 46)), some (.inr (.inl 82)), some (.inr (.inl 83))], sy_dS F1 [], sy_dh F1 X1 X2 (iv_H 3), 0, 0)) :
    hd_W Ls xs d jm_M3 Q (52, sy_dL F [some (.inl (.ref 41)), some (.inl (.ref 20)), some (.inl (.ref 46)), some (.inr (.inl 82)), some (.inr (.inl 83))], sy_dS F [], sy_dh F X1 X2 (iv_H 3), 0, 0) := by
  have n84 : nzI ((sy_i F 83) + ((1 : Int32))) (((sy_i F 83).toInt + 1)) := nz_add (rfl : (sy_i F 83).toInt = (sy_i F 83).toInt) (by decide : ((1 : Int32)).toInt = 1) (by omega) (by omega)
  exact j3nph_52_p0 hd F X1 X2 hB  (fun F1 g e82 e83 => k0 F1 (nz_in0 hB [] (fun j hj hn => g j hj (by simp only [List.mem_cons, List.not_mem_nil, or_false, not_or] at hn; exact trivial)) (List.forall_mem_nil _)) (fun j hj hn => g j hj (by simp only [List.mem_cons, List.not_mem_nil, or_false, not_or] at hn; exact trivial)) ((congrArg Int32.toInt (zz_i e82)).trans (rfl : (sy_i F 82).toInt = (sy_i F 82).toInt)) ((zz_i e82).trans (rfl : sy_i F 82 = sy_i F 82)) ((congrArg Int32.toInt (zz_i e83)).trans (nzE n84)) ((zz_i e83).trans (rfl : (sy_i F 83) + ((1 : Int32)) = (sy_i F 83) + ((1 : Int32)))))
theorem j3nph_61_p0 {Ls : Nat} {xs : Nat → Int32} {d : Nat} {Q : Option Value → jm_h → Prop} (hd : 3 ≤ d) (F : Nat → sy_d) (X1 X2 : List jm_c) (hB : iv_in F iv_B0)
    (h0 : (sy_i F 18).toInt ≤ (sy_i F 83).toInt)
    (k : ∀ F1 : Nat → sy_d, (∀ j, j < 82 → j ≠ 50 ∧ j ≠ 58 → F1 j = F j) → F1 50 = .inl (.int ((sy_i F 50) + ((1 : Int32)))) → F1 58 = .inr (.inl (jm_upd (jm_upd (jm_upd (jm_upd (jm_upd (jm_upd (jm_upd (sy_ai F 58) ((0 : Int32)).toNatClampNeg ((0 : Int32))) ((1 : Int32)).toNatClampNeg ((0 : Int32))) ((2 : Int32)).toNatClampNeg ((0 : Int32))) ((3 : Int32)).toNatClampNeg ((0 : Int32))) ((4 : Int32)).toNatClampNeg ((0 : Int32))) ((5 : Int32)).toNatClampNeg ((0 : Int32))) ((6 : Int32)).toNatClampNeg ((0 : Int32)))) → Q (none) (sy_dh F1 X1 X2 (iv_H 3))) :
    hd_W Ls xs d jm_M3 Q (61, sy_dL F [some (.inl (.ref 41)), some (.inl (.ref 20)), some (.inl (.ref 46)), some (.inr (.inl 82)), some (.inr (.inl 83))], sy_dS F [], sy_dh F X1 X2 (iv_H 3), 0, 0) := by
  refine hd_ret (s := 3) (nv := 84) (v := none) (uh := hd_ov (iv_id 0 iv_B0) [(50, .inl (.inr (.inl 84))), (58, .inr (.inr (.inl 91)))]) (f := true) (sp := [61, 111]) (d0 := 2) (O := [true]) (T := [(0, [.inr (.inl 50), .inl (.int 1)], []), (40, [.inl (.int 0), .inl (.int 0)], [.inr (.inl 58)]), (40, [.inl (.int 1), .inl (.int 0)], [.inr (.inl 85)]), (40, [.inl (.int 2), .inl (.int 0)], [.inr (.inl 86)]), (40, [.inl (.int 3), .inl (.int 0)], [.inr (.inl 87)]), (40, [.inl (.int 4), .inl (.int 0)], [.inr (.inl 88)]), (40, [.inl (.int 5), .inl (.int 0)], [.inr (.inl 89)]), (40, [.inl (.int 6), .inl (.int 0)], [.inr (.inl 90)])]) (P := [(4, .inr (.inl 18), .inr (.inl 83))]) jm_ok3 (by decide +kernel) (by decide +kernel) hd F X1 X2 (fun F' hF hs => ?_)
  have b18 := hd_b (F := F) (F' := F') (k := 18) (hF 18 (by decide))
  have b83 := hd_b (F := F) (F' := F') (k := 83) (hF 83 (by decide))
  have b50 := hd_b (F := F) (F' := F') (k := 50) (hF 50 (by decide))
  have t84 : sy_dv F' (.inr (.inl 84)) = .int ((sy_i F 50) + ((1 : Int32))) := hd_o (hs 0 _ rfl) b50 rfl rfl
  have a58 := hd_ba (F := F) (F' := F') (k := 58) (hF 58 (by decide))
  have t85 : sy_da F' (.inr (.inl 85)) = .inl (jm_upd (sy_ai F 58) ((0 : Int32)).toNatClampNeg ((0 : Int32))) := hd_up (hs 1 _ rfl) rfl rfl a58
  have t86 : sy_da F' (.inr (.inl 86)) = .inl (jm_upd (jm_upd (sy_ai F 58) ((0 : Int32)).toNatClampNeg ((0 : Int32))) ((1 : Int32)).toNatClampNeg ((0 : Int32))) := hd_up (hs 2 _ rfl) rfl rfl t85
  have t87 : sy_da F' (.inr (.inl 87)) = .inl (jm_upd (jm_upd (jm_upd (sy_ai F 58) ((0 : Int32)).toNatClampNeg ((0 : Int32))) ((1 : Int32)).toNatClampNeg ((0 : Int32))) ((2 : Int32)).toNatClampNeg ((0 : Int32))) := hd_up (hs 3 _ rfl) rfl rfl t86
  have t88 : sy_da F' (.inr (.inl 88)) = .inl (jm_upd (jm_upd (jm_upd (jm_upd (sy_ai F 58) ((0 : Int32)).toNatClampNeg ((0 : Int32))) ((1 : Int32)).toNatClampNeg ((0 : Int32))) ((2 : Int32)).toNatClampNeg ((0 : Int32))) ((3 : Int32)).toNatClampNeg ((0 : Int32))) := hd_up (hs 4 _ rfl) rfl rfl t87
  have t89 : sy_da F' (.inr (.inl 89)) = .inl (jm_upd (jm_upd (jm_upd (jm_upd (jm_upd (sy_ai F 58) ((0 : Int32)).toNatClampNeg ((0 : Int32))) ((1 : Int32)).toNatClampNeg ((0 : Int32))) ((2 : Int32)).toNatClampNeg ((0 : Int32))) ((3 : Int32)).toNatClampNeg ((0 : Int32))) ((4 : Int32)).toNatClampNeg ((0 : Int32))) := hd_up (hs 5 _ rfl) rfl rfl t88
  have t90 : sy_da F' (.inr (.inl 90)) = .inl (jm_upd (jm_upd (jm_upd (jm_upd (jm_upd (jm_upd (sy_ai F 58) ((0 : Int32)).toNatClampNeg ((0 : Int32))) ((1 : Int32)).toNatClampNeg ((0 : Int32))) ((2 : Int32)).toNatClampNeg ((0 : Int32))) ((3 : Int32)).toNatClampNeg ((0 : Int32))) ((4 : Int32)).toNatClampNeg ((0 : Int32))) ((5 : Int32)).toNatClampNeg ((0 : Int32))) := hd_up (hs 6 _ rfl) rfl rfl t89
  have t91 : sy_da F' (.inr (.inl 91)) = .inl (jm_upd (jm_upd (jm_upd (jm_upd (jm_upd (jm_upd (jm_upd (sy_ai F 58) ((0 : Int32)).toNatClampNeg ((0 : Int32))) ((1 : Int32)).toNatClampNeg ((0 : Int32))) ((2 : Int32)).toNatClampNeg ((0 : Int32))) ((3 : Int32)).toNatClampNeg ((0 : Int32))) ((4 : Int32)).toNatClampNeg ((0 : Int32))) ((5 : Int32)).toNatClampNeg ((0 : Int32))) ((6 : Int32)).toNatClampNeg ((0 : Int32))) := hd_up (hs 7 _ rfl) rfl rfl t90
  have hB' : iv_in F' iv_B0 := iv_in_eq hB (fun j hj => hF j (Nat.lt_of_lt_of_le hj (by decide +kernel)))
  refine ⟨List.forall_mem_cons.mpr ⟨hd_p4 b18 b83 h0, fun _ h => absurd h List.not_mem_nil⟩, ?_⟩
  refine k _ ?_ ?_ ?_
  · exact fun j hj hn => (hd_keep hB' (Nat.lt_of_lt_of_le hj (by decide +kernel)) (by simp; omega)).trans (hF j (Nat.lt_of_lt_of_le hj (by decide)))
  · exact hd_gi (x := .inr (.inl 84)) (by decide +kernel) t84
  · exact hd_ga (a := .inr (.inl 91)) (by decide +kernel) t91
theorem j3nph_61_p1 {Ls : Nat} {xs : Nat → Int32} {d : Nat} {Q : Option Value → jm_h → Prop} (hd : 3 ≤ d) (F : Nat → sy_d) (X1 X2 : List jm_c) (hB : iv_in F iv_B0)
    (h0 : (sy_i F 83).toInt < (sy_i F 18).toInt)
    (h1 : 0 ≤ (sy_i F 83).toInt ∧ (sy_i F 83).toInt < 7)
    (h2 : ((sy_ai F 54).getD (sy_i F 83).toNatClampNeg 0).toInt ≠ 0)
    (k : ∀ F1 : Nat → sy_d, (∀ j, j < 82 → True → F1 j = F j) → F1 82 = .inl (.int (sy_i F 82)) → F1 83 = .inl (.int ((sy_i F 83) + ((1 : Int32)))) → hd_W Ls xs d jm_M3 Q (61, sy_dL F1 [some (.inl (.ref 41)), some (.inl (.ref 20)), some (.inl (.ref 46)), some (.inr (.inl 82)), some (.inr (.inl 83))], sy_dS F1 [], sy_dh F1 X1 X2 (iv_H 3), 0, 0)) :
    hd_W Ls xs d jm_M3 Q (61, sy_dL F [some (.inl (.ref 41)), some (.inl (.ref 20)), some (.inl (.ref 46)), some (.inr (.inl 82)), some (.inr (.inl 83))], sy_dS F [], sy_dh F X1 X2 (iv_H 3), 0, 0) := by
  refine hd_run (s := 3) (nv := 84) (pc := 61) (L := [some (.inl (.ref 41)), some (.inl (.ref 20)), some (.inl (.ref 46)), some (.inr (.inl 82)), some (.inr (.inl 83))]) (S := []) (uh := hd_ov (iv_id 0 iv_B0) []) (ul := [.inl (.inr (.inl 82)), .inl (.inr (.inl 85))]) (f := true) (sp := [61, 111]) (d0 := 2) (O := [false, true]) (T := [(30, [.inr (.inl 83)], [.inr (.inl 54)]), (0, [.inr (.inl 83), .inl (.int 1)], [])]) (P := [(5, .inr (.inl 18), .inr (.inl 83)), (6, .inr (.inl 83), .inl (.ref 7)), (1, .inr (.inl 84), .inl (.int 0))]) jm_ok3 (by decide +kernel) (by decide +kernel) hd F X1 X2 (fun F' hF hs => ?_)
  have b18 := hd_b (F := F) (F' := F') (k := 18) (hF 18 (by decide))
  have b83 := hd_b (F := F) (F' := F') (k := 83) (hF 83 (by decide))
  have a54 := hd_ba (F := F) (F' := F') (k := 54) (hF 54 (by decide))
  have t84 : sy_dv F' (.inr (.inl 84)) = .int ((sy_ai F 54).getD (sy_i F 83).toNatClampNeg 0) := hd_rd (hs 0 _ rfl) b83 a54
  have b82 := hd_b (F := F) (F' := F') (k := 82) (hF 82 (by decide))
  have t85 : sy_dv F' (.inr (.inl 85)) = .int ((sy_i F 83) + ((1 : Int32))) := hd_o (hs 1 _ rfl) b83 rfl rfl
  have hB' : iv_in F' iv_B0 := iv_in_eq hB (fun j hj => hF j (Nat.lt_of_lt_of_le hj (by decide +kernel)))
  refine ⟨List.forall_mem_cons.mpr ⟨hd_p5 b18 b83 h0, List.forall_mem_cons.mpr ⟨hd_pb b83 (by first | exact h1 | exact h1), List.forall_mem_cons.mpr ⟨hd_p1 t84 rfl (by have hc : ((0) : Int32).toInt = 0 := (by decide); omega), fun _ h => absurd h List.not_mem_nil⟩⟩⟩, ?_⟩
  refine k _ ?_ ?_ ?_
  · exact fun j hj _ => (hd_keep hB' (Nat.lt_of_lt_of_le hj (by decide +kernel)) (by simp)).trans (hF j (Nat.lt_of_lt_of_le hj (by decide)))
  · exact hd_gi (x := .inr (.inl 82)) (by decide +kernel) b82
  · exact hd_gi (x := .inr (.inl 85)) (by decide +kernel) t85
theorem j3nph_61_p2 {Ls : Nat} {xs : Nat → Int32} {d : Nat} {Q : Option Value → jm_h → Prop} (hd : 3 ≤ d) (F : Nat → sy_d) (X1 X2 : List jm_c) (hB : iv_in F iv_B0)
    (h0 : (sy_i F 83).toInt < (sy_i F 18).toInt)
    (h1 : 0 ≤ (sy_i F 83).toInt ∧ (sy_i F 83).toInt < 7)
    (h2 : ((sy_ai F 54).getD (sy_i F 83).toNatClampNeg 0).toInt = 0)
    (h3 : 0 ≤ (sy_i F 83).toInt ∧ (sy_i F 83).toInt < 7)
    (h4 : 0 ≤ (sy_i F 83).toInt ∧ (sy_i F 83).toInt < 7)
    (h5 : 0 ≤ (sy_i F 83).toInt ∧ (sy_i F 83).toInt < 7)
    (h6 : 0 ≤ (sy_i F 83).toInt ∧ (sy_i F 83).toInt < 7)
    (h7 : 0 ≤ (sy_i F 83).toInt ∧ (sy_i F 83).toInt < 7)
    (h8 : 0 ≤ (sy_i F 83).toInt ∧ (sy_i F 83).toInt < 7)
    (k : ∀ F1 : Nat → sy_d, (∀ j, j < 82 → j ≠ 45 → F1 j = F j) → F1 45 = .inr (.inl (jm_upd (jm_upd (jm_upd (jm_upd (jm_upd (jm_upd (sy_ai F 45) ((0 : Int32)).toNatClampNeg ((sy_ai F 53).getD (sy_i F 83).toNatClampNeg 0)) ((1 : Int32)).toNatClampNeg ((sy_ai F 25).getD (sy_i F 83).toNatClampNeg 0)) ((4 : Int32)).toNatClampNeg ((sy_ai F 24).getD (sy_i F 83).toNatClampNeg 0)) ((5 : Int32)).toNatClampNeg ((sy_ai F 58).getD (sy_i F 83).toNatClampNeg 0)) ((6 : Int32)).toNatClampNeg ((sy_ai F 57).getD (sy_i F 83).toNatClampNeg 0)) ((7 : Int32)).toNatClampNeg ((sy_ai F 56).getD (sy_i F 83).toNatClampNeg 0))) → F1 82 = .inl (.int (sy_i F 82)) → F1 83 = .inl (.int (sy_i F 83)) → F1 84 = .inl (.int (((((((((((((sy_i F 82) ^^^ ((101 : Int32))) * ((1103515245 : Int32))) + ((12345 : Int32))) ^^^ (((((((sy_i F 82) ^^^ ((101 : Int32))) * ((1103515245 : Int32))) + ((12345 : Int32)))).toUInt32 >>> ((((15 : Int32))).toUInt32 &&& Int32.toUInt32 31)).toInt32)) ^^^ ((((16 : Int32)) * (sy_i F 50)) + (sy_i F 83))) * ((1103515245 : Int32))) + ((12345 : Int32))) ^^^ (((((((((((sy_i F 82) ^^^ ((101 : Int32))) * ((1103515245 : Int32))) + ((12345 : Int32))) ^^^ (((((((sy_i F 82) ^^^ ((101 : Int32))) * ((1103515245 : Int32))) + ((12345 : Int32)))).toUInt32 >>> ((((15 : Int32))).toUInt32 &&& Int32.toUInt32 31)).toInt32)) ^^^ ((((16 : Int32)) * (sy_i F 50)) + (sy_i F 83))) * ((1103515245 : Int32))) + ((12345 : Int32)))).toUInt32 >>> ((((15 : Int32))).toUInt32 &&& Int32.toUInt32 31)).toInt32))).toUInt32 >>> ((((1 : Int32))).toUInt32 &&& Int32.toUInt32 31)).toInt32) - ((((((((((((sy_i F 82) ^^^ ((101 : Int32))) * ((1103515245 : Int32))) + ((12345 : Int32))) ^^^ (((((((sy_i F 82) ^^^ ((101 : Int32))) * ((1103515245 : Int32))) + ((12345 : Int32)))).toUInt32 >>> ((((15 : Int32))).toUInt32 &&& Int32.toUInt32 31)).toInt32)) ^^^ ((((16 : Int32)) * (sy_i F 50)) + (sy_i F 83))) * ((1103515245 : Int32))) + ((12345 : Int32))) ^^^ (((((((((((sy_i F 82) ^^^ ((101 : Int32))) * ((1103515245 : Int32))) + ((12345 : Int32))) ^^^ (((((((sy_i F 82) ^^^ ((101 : Int32))) * ((1103515245 : Int32))) + ((12345 : Int32)))).toUInt32 >>> ((((15 : Int32))).toUInt32 &&& Int32.toUInt32 31)).toInt32)) ^^^ ((((16 : Int32)) * (sy_i F 50)) + (sy_i F 83))) * ((1103515245 : Int32))) + ((12345 : Int32)))).toUInt32 >>> ((((15 : Int32))).toUInt32 &&& Int32.toUInt32 31)).toInt32))).toUInt32 >>> ((((1 : Int32))).toUInt32 &&& Int32.toUInt32 31)).toInt32) / ((100 : Int32)) * ((100 : Int32)))) → hd_W Ls xs d jm_M3 Q (111, sy_dL F1 [some (.inl (.ref 41)), some (.inl (.ref 20)), some (.inl (.ref 46)), some (.inr (.inl 82)), some (.inr (.inl 83))], sy_dS F1 [.inl (.int 2), .inl (.ref 20), .inl (.ref 38), .inr (.inl 84)], sy_dh F1 X1 X2 (iv_H 3), 0, 0)) :
    hd_W Ls xs d jm_M3 Q (61, sy_dL F [some (.inl (.ref 41)), some (.inl (.ref 20)), some (.inl (.ref 46)), some (.inr (.inl 82)), some (.inr (.inl 83))], sy_dS F [], sy_dh F X1 X2 (iv_H 3), 0, 0) := by
  refine hd_run (s := 3) (nv := 84) (pc := 111) (L := [some (.inl (.ref 41)), some (.inl (.ref 20)), some (.inl (.ref 46)), some (.inr (.inl 82)), some (.inr (.inl 83))]) (S := [.inl (.int 2), .inl (.ref 20), .inl (.ref 38), .inr (.inl 84)]) (uh := hd_ov (iv_id 0 iv_B0) [(45, .inr (.inr (.inl 96)))]) (ul := [.inl (.inr (.inl 82)), .inl (.inr (.inl 83)), .inl (.inr (.inl 110))]) (f := true) (sp := [61, 111]) (d0 := 2) (O := [false, false]) (T := [(30, [.inr (.inl 83)], [.inr (.inl 54)]), (30, [.inr (.inl 83)], [.inr (.inl 53)]), (40, [.inl (.int 0), .inr (.inl 85)], [.inr (.inl 45)]), (30, [.inr (.inl 83)], [.inr (.inl 25)]), (40, [.inl (.int 1), .inr (.inl 87)], [.inr (.inl 86)]), (30, [.inr (.inl 83)], [.inr (.inl 24)]), (40, [.inl (.int 4), .inr (.inl 89)], [.inr (.inl 88)]), (30, [.inr (.inl 83)], [.inr (.inl 58)]), (40, [.inl (.int 5), .inr (.inl 91)], [.inr (.inl 90)]), (30, [.inr (.inl 83)], [.inr (.inl 57)]), (40, [.inl (.int 6), .inr (.inl 93)], [.inr (.inl 92)]), (30, [.inr (.inl 83)], [.inr (.inl 56)]), (40, [.inl (.int 7), .inr (.inl 95)], [.inr (.inl 94)]), (2, [.inl (.int 16), .inr (.inl 50)], []), (0, [.inr (.inl 97), .inr (.inl 83)], []), (5, [.inr (.inl 82), .inl (.int 101)], []), (2, [.inr (.inl 99), .inl (.int 1103515245)], []), (0, [.inr (.inl 100), .inl (.int 12345)], []), (8, [.inr (.inl 101), .inl (.int 15)], []), (5, [.inr (.inl 101), .inr (.inl 102)], []), (5, [.inr (.inl 103), .inr (.inl 98)], []), (2, [.inr (.inl 104), .inl (.int 1103515245)], []), (0, [.inr (.inl 105), .inl (.int 12345)], []), (8, [.inr (.inl 106), .inl (.int 15)], []), (5, [.inr (.inl 106), .inr (.inl 107)], []), (8, [.inr (.inl 108), .inl (.int 1)], []), (10, [.inr (.inl 109), .inl (.int 100)], [])]) (P := [(5, .inr (.inl 18), .inr (.inl 83)), (6, .inr (.inl 83), .inl (.ref 7)), (0, .inr (.inl 84), .inl (.int 0)), (6, .inr (.inl 83), .inl (.ref 7)), (6, .inr (.inl 83), .inl (.ref 7)), (6, .inr (.inl 83), .inl (.ref 7)), (6, .inr (.inl 83), .inl (.ref 7)), (6, .inr (.inl 83), .inl (.ref 7)), (6, .inr (.inl 83), .inl (.ref 7)), (1, .inl (.int 100), .inl (.int 0))]) jm_ok3 (by decide +kernel) (by decide +kernel) hd F X1 X2 (fun F' hF hs => ?_)
  have b18 := hd_b (F := F) (F' := F') (k := 18) (hF 18 (by decide))
  have b83 := hd_b (F := F) (F' := F') (k := 83) (hF 83 (by decide))
  have a54 := hd_ba (F := F) (F' := F') (k := 54) (hF 54 (by decide))
  have t84 : sy_dv F' (.inr (.inl 84)) = .int ((sy_ai F 54).getD (sy_i F 83).toNatClampNeg 0) := hd_rd (hs 0 _ rfl) b83 a54
  have a56 := hd_ba (F := F) (F' := F') (k := 56) (hF 56 (by decide))
  have t95 : sy_dv F' (.inr (.inl 95)) = .int ((sy_ai F 56).getD (sy_i F 83).toNatClampNeg 0) := hd_rd (hs 11 _ rfl) b83 a56
  have a57 := hd_ba (F := F) (F' := F') (k := 57) (hF 57 (by decide))
  have t93 : sy_dv F' (.inr (.inl 93)) = .int ((sy_ai F 57).getD (sy_i F 83).toNatClampNeg 0) := hd_rd (hs 9 _ rfl) b83 a57
  have a58 := hd_ba (F := F) (F' := F') (k := 58) (hF 58 (by decide))
  have t91 : sy_dv F' (.inr (.inl 91)) = .int ((sy_ai F 58).getD (sy_i F 83).toNatClampNeg 0) := hd_rd (hs 7 _ rfl) b83 a58
  have a24 := hd_ba (F := F) (F' := F') (k := 24) (hF 24 (by decide))
  have t89 : sy_dv F' (.inr (.inl 89)) = .int ((sy_ai F 24).getD (sy_i F 83).toNatClampNeg 0) := hd_rd (hs 5 _ rfl) b83 a24
  have a25 := hd_ba (F := F) (F' := F') (k := 25) (hF 25 (by decide))
  have t87 : sy_dv F' (.inr (.inl 87)) = .int ((sy_ai F 25).getD (sy_i F 83).toNatClampNeg 0) := hd_rd (hs 3 _ rfl) b83 a25
  have a53 := hd_ba (F := F) (F' := F') (k := 53) (hF 53 (by decide))
  have t85 : sy_dv F' (.inr (.inl 85)) = .int ((sy_ai F 53).getD (sy_i F 83).toNatClampNeg 0) := hd_rd (hs 1 _ rfl) b83 a53
  have a45 := hd_ba (F := F) (F' := F') (k := 45) (hF 45 (by decide))
  have t86 : sy_da F' (.inr (.inl 86)) = .inl (jm_upd (sy_ai F 45) ((0 : Int32)).toNatClampNeg ((sy_ai F 53).getD (sy_i F 83).toNatClampNeg 0)) := hd_up (hs 2 _ rfl) rfl t85 a45
  have t88 : sy_da F' (.inr (.inl 88)) = .inl (jm_upd (jm_upd (sy_ai F 45) ((0 : Int32)).toNatClampNeg ((sy_ai F 53).getD (sy_i F 83).toNatClampNeg 0)) ((1 : Int32)).toNatClampNeg ((sy_ai F 25).getD (sy_i F 83).toNatClampNeg 0)) := hd_up (hs 4 _ rfl) rfl t87 t86
  have t90 : sy_da F' (.inr (.inl 90)) = .inl (jm_upd (jm_upd (jm_upd (sy_ai F 45) ((0 : Int32)).toNatClampNeg ((sy_ai F 53).getD (sy_i F 83).toNatClampNeg 0)) ((1 : Int32)).toNatClampNeg ((sy_ai F 25).getD (sy_i F 83).toNatClampNeg 0)) ((4 : Int32)).toNatClampNeg ((sy_ai F 24).getD (sy_i F 83).toNatClampNeg 0)) := hd_up (hs 6 _ rfl) rfl t89 t88
  have t92 : sy_da F' (.inr (.inl 92)) = .inl (jm_upd (jm_upd (jm_upd (jm_upd (sy_ai F 45) ((0 : Int32)).toNatClampNeg ((sy_ai F 53).getD (sy_i F 83).toNatClampNeg 0)) ((1 : Int32)).toNatClampNeg ((sy_ai F 25).getD (sy_i F 83).toNatClampNeg 0)) ((4 : Int32)).toNatClampNeg ((sy_ai F 24).getD (sy_i F 83).toNatClampNeg 0)) ((5 : Int32)).toNatClampNeg ((sy_ai F 58).getD (sy_i F 83).toNatClampNeg 0)) := hd_up (hs 8 _ rfl) rfl t91 t90
  have t94 : sy_da F' (.inr (.inl 94)) = .inl (jm_upd (jm_upd (jm_upd (jm_upd (jm_upd (sy_ai F 45) ((0 : Int32)).toNatClampNeg ((sy_ai F 53).getD (sy_i F 83).toNatClampNeg 0)) ((1 : Int32)).toNatClampNeg ((sy_ai F 25).getD (sy_i F 83).toNatClampNeg 0)) ((4 : Int32)).toNatClampNeg ((sy_ai F 24).getD (sy_i F 83).toNatClampNeg 0)) ((5 : Int32)).toNatClampNeg ((sy_ai F 58).getD (sy_i F 83).toNatClampNeg 0)) ((6 : Int32)).toNatClampNeg ((sy_ai F 57).getD (sy_i F 83).toNatClampNeg 0)) := hd_up (hs 10 _ rfl) rfl t93 t92
  have t96 : sy_da F' (.inr (.inl 96)) = .inl (jm_upd (jm_upd (jm_upd (jm_upd (jm_upd (jm_upd (sy_ai F 45) ((0 : Int32)).toNatClampNeg ((sy_ai F 53).getD (sy_i F 83).toNatClampNeg 0)) ((1 : Int32)).toNatClampNeg ((sy_ai F 25).getD (sy_i F 83).toNatClampNeg 0)) ((4 : Int32)).toNatClampNeg ((sy_ai F 24).getD (sy_i F 83).toNatClampNeg 0)) ((5 : Int32)).toNatClampNeg ((sy_ai F 58).getD (sy_i F 83).toNatClampNeg 0)) ((6 : Int32)).toNatClampNeg ((sy_ai F 57).getD (sy_i F 83).toNatClampNeg 0)) ((7 : Int32)).toNatClampNeg ((sy_ai F 56).getD (sy_i F 83).toNatClampNeg 0)) := hd_up (hs 12 _ rfl) rfl t95 t94
  have b82 := hd_b (F := F) (F' := F') (k := 82) (hF 82 (by decide))
  have t99 : sy_dv F' (.inr (.inl 99)) = .int ((sy_i F 82) ^^^ ((101 : Int32))) := hd_o (hs 15 _ rfl) b82 rfl rfl
  have t100 : sy_dv F' (.inr (.inl 100)) = .int (((sy_i F 82) ^^^ ((101 : Int32))) * ((1103515245 : Int32))) := hd_o (hs 16 _ rfl) t99 rfl rfl
  have t101 : sy_dv F' (.inr (.inl 101)) = .int ((((sy_i F 82) ^^^ ((101 : Int32))) * ((1103515245 : Int32))) + ((12345 : Int32))) := hd_o (hs 17 _ rfl) t100 rfl rfl
  have t102 : sy_dv F' (.inr (.inl 102)) = .int (((((((sy_i F 82) ^^^ ((101 : Int32))) * ((1103515245 : Int32))) + ((12345 : Int32)))).toUInt32 >>> ((((15 : Int32))).toUInt32 &&& Int32.toUInt32 31)).toInt32) := hd_o (hs 18 _ rfl) t101 rfl rfl
  have t103 : sy_dv F' (.inr (.inl 103)) = .int (((((sy_i F 82) ^^^ ((101 : Int32))) * ((1103515245 : Int32))) + ((12345 : Int32))) ^^^ (((((((sy_i F 82) ^^^ ((101 : Int32))) * ((1103515245 : Int32))) + ((12345 : Int32)))).toUInt32 >>> ((((15 : Int32))).toUInt32 &&& Int32.toUInt32 31)).toInt32)) := hd_o (hs 19 _ rfl) t101 t102 rfl
  have b50 := hd_b (F := F) (F' := F') (k := 50) (hF 50 (by decide))
  have t97 : sy_dv F' (.inr (.inl 97)) = .int (((16 : Int32)) * (sy_i F 50)) := hd_o (hs 13 _ rfl) rfl b50 rfl
  have t98 : sy_dv F' (.inr (.inl 98)) = .int ((((16 : Int32)) * (sy_i F 50)) + (sy_i F 83)) := hd_o (hs 14 _ rfl) t97 b83 rfl
  have t104 : sy_dv F' (.inr (.inl 104)) = .int ((((((sy_i F 82) ^^^ ((101 : Int32))) * ((1103515245 : Int32))) + ((12345 : Int32))) ^^^ (((((((sy_i F 82) ^^^ ((101 : Int32))) * ((1103515245 : Int32))) + ((12345 : Int32)))).toUInt32 >>> ((((15 : Int32))).toUInt32 &&& Int32.toUInt32 31)).toInt32)) ^^^ ((((16 : Int32)) * (sy_i F 50)) + (sy_i F 83))) := hd_o (hs 20 _ rfl) t103 t98 rfl
  have t105 : sy_dv F' (.inr (.inl 105)) = .int (((((((sy_i F 82) ^^^ ((101 : Int32))) * ((1103515245 : Int32))) + ((12345 : Int32))) ^^^ (((((((sy_i F 82) ^^^ ((101 : Int32))) * ((1103515245 : Int32))) + ((12345 : Int32)))).toUInt32 >>> ((((15 : Int32))).toUInt32 &&& Int32.toUInt32 31)).toInt32)) ^^^ ((((16 : Int32)) * (sy_i F 50)) + (sy_i F 83))) * ((1103515245 : Int32))) := hd_o (hs 21 _ rfl) t104 rfl rfl
  have t106 : sy_dv F' (.inr (.inl 106)) = .int ((((((((sy_i F 82) ^^^ ((101 : Int32))) * ((1103515245 : Int32))) + ((12345 : Int32))) ^^^ (((((((sy_i F 82) ^^^ ((101 : Int32))) * ((1103515245 : Int32))) + ((12345 : Int32)))).toUInt32 >>> ((((15 : Int32))).toUInt32 &&& Int32.toUInt32 31)).toInt32)) ^^^ ((((16 : Int32)) * (sy_i F 50)) + (sy_i F 83))) * ((1103515245 : Int32))) + ((12345 : Int32))) := hd_o (hs 22 _ rfl) t105 rfl rfl
  have t107 : sy_dv F' (.inr (.inl 107)) = .int (((((((((((sy_i F 82) ^^^ ((101 : Int32))) * ((1103515245 : Int32))) + ((12345 : Int32))) ^^^ (((((((sy_i F 82) ^^^ ((101 : Int32))) * ((1103515245 : Int32))) + ((12345 : Int32)))).toUInt32 >>> ((((15 : Int32))).toUInt32 &&& Int32.toUInt32 31)).toInt32)) ^^^ ((((16 : Int32)) * (sy_i F 50)) + (sy_i F 83))) * ((1103515245 : Int32))) + ((12345 : Int32)))).toUInt32 >>> ((((15 : Int32))).toUInt32 &&& Int32.toUInt32 31)).toInt32) := hd_o (hs 23 _ rfl) t106 rfl rfl
  have t108 : sy_dv F' (.inr (.inl 108)) = .int (((((((((sy_i F 82) ^^^ ((101 : Int32))) * ((1103515245 : Int32))) + ((12345 : Int32))) ^^^ (((((((sy_i F 82) ^^^ ((101 : Int32))) * ((1103515245 : Int32))) + ((12345 : Int32)))).toUInt32 >>> ((((15 : Int32))).toUInt32 &&& Int32.toUInt32 31)).toInt32)) ^^^ ((((16 : Int32)) * (sy_i F 50)) + (sy_i F 83))) * ((1103515245 : Int32))) + ((12345 : Int32))) ^^^ (((((((((((sy_i F 82) ^^^ ((101 : Int32))) * ((1103515245 : Int32))) + ((12345 : Int32))) ^^^ (((((((sy_i F 82) ^^^ ((101 : Int32))) * ((1103515245 : Int32))) + ((12345 : Int32)))).toUInt32 >>> ((((15 : Int32))).toUInt32 &&& Int32.toUInt32 31)).toInt32)) ^^^ ((((16 : Int32)) * (sy_i F 50)) + (sy_i F 83))) * ((1103515245 : Int32))) + ((12345 : Int32)))).toUInt32 >>> ((((15 : Int32))).toUInt32 &&& Int32.toUInt32 31)).toInt32)) := hd_o (hs 24 _ rfl) t106 t107 rfl
  have t109 : sy_dv F' (.inr (.inl 109)) = .int ((((((((((((sy_i F 82) ^^^ ((101 : Int32))) * ((1103515245 : Int32))) + ((12345 : Int32))) ^^^ (((((((sy_i F 82) ^^^ ((101 : Int32))) * ((1103515245 : Int32))) + ((12345 : Int32)))).toUInt32 >>> ((((15 : Int32))).toUInt32 &&& Int32.toUInt32 31)).toInt32)) ^^^ ((((16 : Int32)) * (sy_i F 50)) + (sy_i F 83))) * ((1103515245 : Int32))) + ((12345 : Int32))) ^^^ (((((((((((sy_i F 82) ^^^ ((101 : Int32))) * ((1103515245 : Int32))) + ((12345 : Int32))) ^^^ (((((((sy_i F 82) ^^^ ((101 : Int32))) * ((1103515245 : Int32))) + ((12345 : Int32)))).toUInt32 >>> ((((15 : Int32))).toUInt32 &&& Int32.toUInt32 31)).toInt32)) ^^^ ((((16 : Int32)) * (sy_i F 50)) + (sy_i F 83))) * ((1103515245 : Int32))) + ((12345 : Int32)))).toUInt32 >>> ((((15 : Int32))).toUInt32 &&& Int32.toUInt32 31)).toInt32))).toUInt32 >>> ((((1 : Int32))).toUInt32 &&& Int32.toUInt32 31)).toInt32) := hd_o (hs 25 _ rfl) t108 rfl rfl
  have t110 : sy_dv F' (.inr (.inl 110)) = .int (((((((((((((sy_i F 82) ^^^ ((101 : Int32))) * ((1103515245 : Int32))) + ((12345 : Int32))) ^^^ (((((((sy_i F 82) ^^^ ((101 : Int32))) * ((1103515245 : Int32))) + ((12345 : Int32)))).toUInt32 >>> ((((15 : Int32))).toUInt32 &&& Int32.toUInt32 31)).toInt32)) ^^^ ((((16 : Int32)) * (sy_i F 50)) + (sy_i F 83))) * ((1103515245 : Int32))) + ((12345 : Int32))) ^^^ (((((((((((sy_i F 82) ^^^ ((101 : Int32))) * ((1103515245 : Int32))) + ((12345 : Int32))) ^^^ (((((((sy_i F 82) ^^^ ((101 : Int32))) * ((1103515245 : Int32))) + ((12345 : Int32)))).toUInt32 >>> ((((15 : Int32))).toUInt32 &&& Int32.toUInt32 31)).toInt32)) ^^^ ((((16 : Int32)) * (sy_i F 50)) + (sy_i F 83))) * ((1103515245 : Int32))) + ((12345 : Int32)))).toUInt32 >>> ((((15 : Int32))).toUInt32 &&& Int32.toUInt32 31)).toInt32))).toUInt32 >>> ((((1 : Int32))).toUInt32 &&& Int32.toUInt32 31)).toInt32) - ((((((((((((sy_i F 82) ^^^ ((101 : Int32))) * ((1103515245 : Int32))) + ((12345 : Int32))) ^^^ (((((((sy_i F 82) ^^^ ((101 : Int32))) * ((1103515245 : Int32))) + ((12345 : Int32)))).toUInt32 >>> ((((15 : Int32))).toUInt32 &&& Int32.toUInt32 31)).toInt32)) ^^^ ((((16 : Int32)) * (sy_i F 50)) + (sy_i F 83))) * ((1103515245 : Int32))) + ((12345 : Int32))) ^^^ (((((((((((sy_i F 82) ^^^ ((101 : Int32))) * ((1103515245 : Int32))) + ((12345 : Int32))) ^^^ (((((((sy_i F 82) ^^^ ((101 : Int32))) * ((1103515245 : Int32))) + ((12345 : Int32)))).toUInt32 >>> ((((15 : Int32))).toUInt32 &&& Int32.toUInt32 31)).toInt32)) ^^^ ((((16 : Int32)) * (sy_i F 50)) + (sy_i F 83))) * ((1103515245 : Int32))) + ((12345 : Int32)))).toUInt32 >>> ((((15 : Int32))).toUInt32 &&& Int32.toUInt32 31)).toInt32))).toUInt32 >>> ((((1 : Int32))).toUInt32 &&& Int32.toUInt32 31)).toInt32) / ((100 : Int32)) * ((100 : Int32))) := hd_o (hs 26 _ rfl) t109 rfl rfl
  have hB' : iv_in F' iv_B0 := iv_in_eq hB (fun j hj => hF j (Nat.lt_of_lt_of_le hj (by decide +kernel)))
  refine ⟨List.forall_mem_cons.mpr ⟨hd_p5 b18 b83 h0, List.forall_mem_cons.mpr ⟨hd_pb b83 (by first | exact h1 | exact h1), List.forall_mem_cons.mpr ⟨hd_p0 t84 rfl (by have hc : ((0) : Int32).toInt = 0 := (by decide); omega), List.forall_mem_cons.mpr ⟨hd_pb b83 (by first | exact h3 | exact h3), List.forall_mem_cons.mpr ⟨hd_pb b83 (by first | exact h4 | exact h4), List.forall_mem_cons.mpr ⟨hd_pb b83 (by first | exact h5 | exact h5), List.forall_mem_cons.mpr ⟨hd_pb b83 (by first | exact h6 | exact h6), List.forall_mem_cons.mpr ⟨hd_pb b83 (by first | exact h7 | exact h7), List.forall_mem_cons.mpr ⟨hd_pb b83 (by first | exact h8 | exact h8), List.forall_mem_cons.mpr ⟨(hd_p1 (X := 100) (Y := 0) rfl rfl (by decide)), fun _ h => absurd h List.not_mem_nil⟩⟩⟩⟩⟩⟩⟩⟩⟩⟩, ?_⟩
  refine k _ ?_ ?_ ?_ ?_ ?_
  · exact fun j hj hn => (hd_keep hB' (Nat.lt_of_lt_of_le hj (by decide +kernel)) (by simp; omega)).trans (hF j (Nat.lt_of_lt_of_le hj (by decide)))
  · exact hd_ga (a := .inr (.inl 96)) (by decide +kernel) t96
  · exact hd_gi (x := .inr (.inl 82)) (by decide +kernel) b82
  · exact hd_gi (x := .inr (.inl 83)) (by decide +kernel) b83
  · exact hd_gi (x := .inr (.inl 110)) (by decide +kernel) t110
theorem j3nph_61 {Ls : Nat} {xs : Nat → Int32} {d : Nat} {Q : Option Value → jm_h → Prop} (hd : 3 ≤ d) (F : Nat → sy_d) (X1 X2 : List jm_c) (hB : iv_in F iv_B0)
    (a83 : 0 ≤ (sy_i F 83).toInt ∧ (sy_i F 83).toInt ≤ 7)
    (k0 : (sy_i F 18).toInt ≤ (sy_i F 83).toInt → ∀ F1 : Nat → sy_d, iv_in F1 iv_B0 → (∀ j, j < 82 → j ∉ ([50, 58] : List Nat) → F1 j = F j) → (sy_i F1 50).toInt = ((sy_i F 50) + ((1 : Int32))).toInt → sy_i F1 50 = (sy_i F 50) + ((1 : Int32)) → sy_ai F1 58 = jm_upd (jm_upd (jm_upd (jm_upd (jm_upd (jm_upd (jm_upd (sy_ai F 58) (0 : Int).toNat ((0 : Int32))) (1 : Int).toNat ((0 : Int32))) (2 : Int).toNat ((0 : Int32))) (3 : Int).toNat ((0 : Int32))) (4 : Int).toNat ((0 : Int32))) (5 : Int).toNat ((0 : Int32))) (6 : Int).toNat ((0 : Int32)) → Q (none) (sy_dh F1 X1 X2 (iv_H 3)))
    (k1 : (sy_i F 83).toInt < (sy_i F 18).toInt → ((sy_ai F 54).getD ((sy_i F 83).toInt).toNat 0).toInt ≠ 0 → ∀ F1 : Nat → sy_d, iv_in F1 iv_B0 → (∀ j, j < 82 → j ∉ ([] : List Nat) → F1 j = F j) → (sy_i F1 82).toInt = (sy_i F 82).toInt → sy_i F1 82 = sy_i F 82 → (sy_i F1 83).toInt = ((sy_i F 83).toInt + 1) → sy_i F1 83 = (sy_i F 83) + ((1 : Int32)) → hd_W Ls xs d jm_M3 Q (61, sy_dL F1 [some (.inl (.ref 41)), some (.inl (.ref 20)), some (.inl (.ref 46)), some (.inr (.inl 82)), some (.inr (.inl 83))], sy_dS F1 [], sy_dh F1 X1 X2 (iv_H 3), 0, 0))
    (k2 : (sy_i F 83).toInt < (sy_i F 18).toInt → ((sy_ai F 54).getD ((sy_i F 83).toInt).toNat 0).toInt = 0 → ∀ F1 : Nat → sy_d, iv_in F1 iv_B0 → (∀ j, j < 82 → j ∉ ([45] : List Nat) → F1 j = F j) → sy_ai F1 45 = jm_upd (jm_upd (jm_upd (jm_upd (jm_upd (jm_upd (sy_ai F 45) (0 : Int).toNat ((sy_ai F 53).getD ((sy_i F 83).toInt).toNat 0)) (1 : Int).toNat ((sy_ai F 25).getD ((sy_i F 83).toInt).toNat 0)) (4 : Int).toNat ((sy_ai F 24).getD ((sy_i F 83).toInt).toNat 0)) (5 : Int).toNat ((sy_ai F 58).getD ((sy_i F 83).toInt).toNat 0)) (6 : Int).toNat ((sy_ai F 57).getD ((sy_i F 83).toInt).toNat 0)) (7 : Int).toNat ((sy_ai F 56).getD ((sy_i F 83).toInt).toNat 0) → (sy_i F1 82).toInt = (sy_i F 82).toInt → sy_i F1 82 = sy_i F 82 → (sy_i F1 83).toInt = (sy_i F 83).toInt → sy_i F1 83 = sy_i F 83 → (sy_i F1 84).toInt = (((((((((((((sy_i F 82) ^^^ ((101 : Int32))) * ((1103515245 : Int32))) + ((12345 : Int32))) ^^^ (((((((sy_i F 82) ^^^ ((101 : Int32))) * ((1103515245 : Int32))) + ((12345 : Int32)))).toUInt32 >>> ((((15 : Int32))).toUInt32 &&& Int32.toUInt32 31)).toInt32)) ^^^ ((((16 : Int32)) * (sy_i F 50)) + (sy_i F 83))) * ((1103515245 : Int32))) + ((12345 : Int32))) ^^^ (((((((((((sy_i F 82) ^^^ ((101 : Int32))) * ((1103515245 : Int32))) + ((12345 : Int32))) ^^^ (((((((sy_i F 82) ^^^ ((101 : Int32))) * ((1103515245 : Int32))) + ((12345 : Int32)))).toUInt32 >>> ((((15 : Int32))).toUInt32 &&& Int32.toUInt32 31)).toInt32)) ^^^ ((((16 : Int32)) * (sy_i F 50)) + (sy_i F 83))) * ((1103515245 : Int32))) + ((12345 : Int32)))).toUInt32 >>> ((((15 : Int32))).toUInt32 &&& Int32.toUInt32 31)).toInt32))).toUInt32 >>> ((((1 : Int32))).toUInt32 &&& Int32.toUInt32 31)).toInt32) - ((((((((((((sy_i F 82) ^^^ ((101 : Int32))) * ((1103515245 : Int32))) + ((12345 : Int32))) ^^^ (((((((sy_i F 82) ^^^ ((101 : Int32))) * ((1103515245 : Int32))) + ((12345 : Int32)))).toUInt32 >>> ((((15 : Int32))).toUInt32 &&& Int32.toUInt32 31)).toInt32)) ^^^ ((((16 : Int32)) * (sy_i F 50)) + (sy_i F 83))) * ((1103515245 : Int32))) + ((12345 : Int32))) ^^^ (((((((((((sy_i F 82) ^^^ ((101 : Int32))) * ((1103515245 : Int32))) + ((12345 : Int32))) ^^^ (((((((sy_i F 82) ^^^ ((101 : Int32))) * ((1103515245 : Int32))) + ((12345 : Int32)))).toUInt32 >>> ((((15 : Int32))).toUInt32 &&& Int32.toUInt32 31)).toInt32)) ^^^ ((((16 : Int32)) * (sy_i F 50)) + (sy_i F 83))) * ((1103515245 : Int32))) + ((12345 : Int32)))).toUInt32 >>> ((((15 : Int32))).toUInt32 &&& Int32.toUInt32 31)).toInt32))).toUInt32 >>> ((((1 : Int32))).toUInt32 &&& Int32.toUInt32 31)).toInt32) / ((100 : Int32)) * ((100 : Int32))).toInt → sy_i F1 84 = ((((((((((((sy_i F 82) ^^^ ((101 : Int32))) * ((1103515245 : Int32))) + ((12345 : Int32))) ^^^ (((((((sy_i F 82) ^^^ ((101 : Int32))) * ((1103515245 : Int32))) + ((12345 : Int32)))).toUInt32 >>> ((((15 : Int32))).toUInt32 &&& Int32.toUInt32 31)).toInt32)) ^^^ ((((16 : Int32)) * (sy_i F 50)) + (sy_i F 83))) * ((1103515245 : Int32))) + ((12345 : Int32))) ^^^ (((((((((((sy_i F 82) ^^^ ((101 : Int32))) * ((1103515245 : Int32))) + ((12345 : Int32))) ^^^ (((((((sy_i F 82) ^^^ ((101 : Int32))) * ((1103515245 : Int32))) + ((12345 : Int32)))).toUInt32 >>> ((((15 : Int32))).toUInt32 &&& Int32.toUInt32 31)).toInt32)) ^^^ ((((16 : Int32)) * (sy_i F 50)) + (sy_i F 83))) * ((1103515245 : Int32))) + ((12345 : Int32)))).toUInt32 >>> ((((15 : Int32))).toUInt32 &&& Int32.toUInt32 31)).toInt32))).toUInt32 >>> ((((1 : Int32))).toUInt32 &&& Int32.toUInt32 31)).toInt32) - ((((((((((((sy_i F 82) ^^^ ((101 : Int32))) * ((1103515245 : Int32))) + ((12345 : Int32))) ^^^ (((((((sy_i F 82) ^^^ ((101 : Int32))) * ((1103515245 : Int32))) + ((12345 : Int32)))).toUInt32 >>> ((((15 : Int32))).toUInt32 &&& Int32.toUInt32 31)).toInt32)) ^^^ ((((16 : Int32)) * (sy_i F 50)) + (sy_i F 83))) * ((1103515245 : Int32))) + ((12345 : Int32))) ^^^ (((((((((((sy_i F 82) ^^^ ((101 : Int32))) * ((1103515245 : Int32))) + ((12345 : Int32))) ^^^ (((((((sy_i F 82) ^^^ ((101 : Int32))) * ((1103515245 : Int32))) + ((12345 : Int32)))).toUInt32 >>> ((((15 : Int32))).toUInt32 &&& Int32.toUInt32 31)).toInt32)) ^^^ ((((16 : Int32)) * (sy_i F 50)) + (sy_i F 83))) * ((1103515245 : Int32))) + ((12345 : Int32)))).toUInt32 >>> ((((15 : Int32))).toUInt32 &&& Int32.toUInt32 31)).toInt32))).toUInt32 >>> ((((1 : Int32))).toUInt32 &&& Int32.toUInt32 31)).toInt32) / ((100 : Int32)) * ((100 : Int32)) → hd_W Ls xs d jm_M3 Q (111, sy_dL F1 [some (.inl (.ref 41)), some (.inl (.ref 20)), some (.inl (.ref 46)), some (.inr (.inl 82)), some (.inr (.inl 83))], sy_dS F1 [.inl (.int 2), .inl (.ref 20), .inl (.ref 38), .inr (.inl 84)], sy_dh F1 X1 X2 (iv_H 3), 0, 0)) :
    hd_W Ls xs d jm_M3 Q (61, sy_dL F [some (.inl (.ref 41)), some (.inl (.ref 20)), some (.inl (.ref 46)), some (.inr (.inl 82)), some (.inr (.inl 83))], sy_dS F [], sy_dh F X1 X2 (iv_H 3), 0, 0) := by
  by_cases g0 : (sy_i F 18).toInt ≤ (sy_i F 83).toInt
  · have c18 := nz_bx hB (k := 18) (lo := 0) (hi := 7) rfl
    have n84 : nzI ((sy_i F 50) + ((1 : Int32))) (((sy_i F 50) + ((1 : Int32))).toInt) := congrArg Int32.toInt (rfl : (sy_i F 50) + ((1 : Int32)) = (sy_i F 50) + ((1 : Int32)))
    have w91 : jm_upd (jm_upd (jm_upd (jm_upd (jm_upd (jm_upd (jm_upd (sy_ai F 58) ((0 : Int32)).toNatClampNeg ((0 : Int32))) ((1 : Int32)).toNatClampNeg ((0 : Int32))) ((2 : Int32)).toNatClampNeg ((0 : Int32))) ((3 : Int32)).toNatClampNeg ((0 : Int32))) ((4 : Int32)).toNatClampNeg ((0 : Int32))) ((5 : Int32)).toNatClampNeg ((0 : Int32))) ((6 : Int32)).toNatClampNeg ((0 : Int32)) = jm_upd (jm_upd (jm_upd (jm_upd (jm_upd (jm_upd (jm_upd (sy_ai F 58) (0 : Int).toNat ((0 : Int32))) (1 : Int).toNat ((0 : Int32))) (2 : Int).toNat ((0 : Int32))) (3 : Int).toNat ((0 : Int32))) (4 : Int).toNat ((0 : Int32))) (5 : Int).toNat ((0 : Int32))) (6 : Int).toNat ((0 : Int32)) := by simp only [nz_c, (by decide : ((0 : Int32)).toInt = 0), (by decide : ((1 : Int32)).toInt = 1), (by decide : ((2 : Int32)).toInt = 2), (by decide : ((3 : Int32)).toInt = 3), (by decide : ((4 : Int32)).toInt = 4), (by decide : ((5 : Int32)).toInt = 5), (by decide : ((6 : Int32)).toInt = 6)]
    exact j3nph_61_p0 hd F X1 X2 hB (by first | exact g0 | (simp only [nz_c]; exact g0)) (fun F1 g e50 e58 => k0 g0 F1 (nz_in0 hB [50, 58] (fun j hj hn => g j hj (by simp only [List.mem_cons, List.not_mem_nil, or_false, not_or] at hn; omega)) (List.forall_mem_cons.mpr ⟨fun t ht => (Option.some.inj ht) ▸ (nz_hz e50), List.forall_mem_cons.mpr ⟨fun t ht => (Option.some.inj ht) ▸ (nz_hz2 e58), List.forall_mem_nil _⟩⟩)) (fun j hj hn => g j hj (by simp only [List.mem_cons, List.not_mem_nil, or_false, not_or] at hn; omega)) ((congrArg Int32.toInt (zz_i e50)).trans (nzE n84)) ((zz_i e50).trans (rfl : (sy_i F 50) + ((1 : Int32)) = (sy_i F 50) + ((1 : Int32)))) ((zz_ai e58).trans w91))
  replace g0 : (sy_i F 83).toInt < (sy_i F 18).toInt := by omega
  by_cases g1 : ((sy_ai F 54).getD ((sy_i F 83).toInt).toNat 0).toInt ≠ 0
  · have c18 := nz_bx hB (k := 18) (lo := 0) (hi := 7) rfl
    have q84 : (sy_ai F 54).getD (sy_i F 83).toNatClampNeg 0 = (sy_ai F 54).getD ((sy_i F 83).toInt).toNat 0 := by simp only [nz_c]
    have n84 : nzI ((sy_ai F 54).getD (sy_i F 83).toNatClampNeg 0) (((sy_ai F 54).getD ((sy_i F 83).toInt).toNat 0).toInt) := congrArg Int32.toInt q84
    have n85 : nzI ((sy_i F 83) + ((1 : Int32))) (((sy_i F 83).toInt + 1)) := nz_add (rfl : (sy_i F 83).toInt = (sy_i F 83).toInt) (by decide : ((1 : Int32)).toInt = 1) (by omega) (by omega)
    exact j3nph_61_p1 hd F X1 X2 hB (by first | exact g0 | (simp only [nz_c]; exact g0)) (by first | exact ⟨by omega, by omega⟩ | (simp only [nz_c]; exact ⟨by omega, by omega⟩)) (by first | exact g1 | (simp only [nz_c]; exact g1) | (rw [(nzE n84)]; exact g1)) (fun F1 g e82 e83 => k1 g0 g1 F1 (nz_in0 hB [] (fun j hj hn => g j hj (by simp only [List.mem_cons, List.not_mem_nil, or_false, not_or] at hn; exact trivial)) (List.forall_mem_nil _)) (fun j hj hn => g j hj (by simp only [List.mem_cons, List.not_mem_nil, or_false, not_or] at hn; exact trivial)) ((congrArg Int32.toInt (zz_i e82)).trans (rfl : (sy_i F 82).toInt = (sy_i F 82).toInt)) ((zz_i e82).trans (rfl : sy_i F 82 = sy_i F 82)) ((congrArg Int32.toInt (zz_i e83)).trans (nzE n85)) ((zz_i e83).trans (rfl : (sy_i F 83) + ((1 : Int32)) = (sy_i F 83) + ((1 : Int32)))))
  replace g1 : ((sy_ai F 54).getD ((sy_i F 83).toInt).toNat 0).toInt = 0 := by omega
  have c18 := nz_bx hB (k := 18) (lo := 0) (hi := 7) rfl
  have q84 : (sy_ai F 54).getD (sy_i F 83).toNatClampNeg 0 = (sy_ai F 54).getD ((sy_i F 83).toInt).toNat 0 := by simp only [nz_c]
  have n84 : nzI ((sy_ai F 54).getD (sy_i F 83).toNatClampNeg 0) (((sy_ai F 54).getD ((sy_i F 83).toInt).toNat 0).toInt) := congrArg Int32.toInt q84
  have w96 : jm_upd (jm_upd (jm_upd (jm_upd (jm_upd (jm_upd (sy_ai F 45) ((0 : Int32)).toNatClampNeg ((sy_ai F 53).getD (sy_i F 83).toNatClampNeg 0)) ((1 : Int32)).toNatClampNeg ((sy_ai F 25).getD (sy_i F 83).toNatClampNeg 0)) ((4 : Int32)).toNatClampNeg ((sy_ai F 24).getD (sy_i F 83).toNatClampNeg 0)) ((5 : Int32)).toNatClampNeg ((sy_ai F 58).getD (sy_i F 83).toNatClampNeg 0)) ((6 : Int32)).toNatClampNeg ((sy_ai F 57).getD (sy_i F 83).toNatClampNeg 0)) ((7 : Int32)).toNatClampNeg ((sy_ai F 56).getD (sy_i F 83).toNatClampNeg 0) = jm_upd (jm_upd (jm_upd (jm_upd (jm_upd (jm_upd (sy_ai F 45) (0 : Int).toNat ((sy_ai F 53).getD ((sy_i F 83).toInt).toNat 0)) (1 : Int).toNat ((sy_ai F 25).getD ((sy_i F 83).toInt).toNat 0)) (4 : Int).toNat ((sy_ai F 24).getD ((sy_i F 83).toInt).toNat 0)) (5 : Int).toNat ((sy_ai F 58).getD ((sy_i F 83).toInt).toNat 0)) (6 : Int).toNat ((sy_ai F 57).getD ((sy_i F 83).toInt).toNat 0)) (7 : Int).toNat ((sy_ai F 56).getD ((sy_i F 83).toInt).toNat 0) := by simp only [nz_c, (by decide : ((0 : Int32)).toInt = 0), (by decide : ((1 : Int32)).toInt = 1), (by decide : ((4 : Int32)).toInt = 4), (by decide : ((5 : Int32)).toInt = 5), (by decide : ((6 : Int32)).toInt = 6), (by decide : ((7 : Int32)).toInt = 7)]
  have n110 : nzI (((((((((((((sy_i F 82) ^^^ ((101 : Int32))) * ((1103515245 : Int32))) + ((12345 : Int32))) ^^^ (((((((sy_i F 82) ^^^ ((101 : Int32))) * ((1103515245 : Int32))) + ((12345 : Int32)))).toUInt32 >>> ((((15 : Int32))).toUInt32 &&& Int32.toUInt32 31)).toInt32)) ^^^ ((((16 : Int32)) * (sy_i F 50)) + (sy_i F 83))) * ((1103515245 : Int32))) + ((12345 : Int32))) ^^^ (((((((((((sy_i F 82) ^^^ ((101 : Int32))) * ((1103515245 : Int32))) + ((12345 : Int32))) ^^^ (((((((sy_i F 82) ^^^ ((101 : Int32))) * ((1103515245 : Int32))) + ((12345 : Int32)))).toUInt32 >>> ((((15 : Int32))).toUInt32 &&& Int32.toUInt32 31)).toInt32)) ^^^ ((((16 : Int32)) * (sy_i F 50)) + (sy_i F 83))) * ((1103515245 : Int32))) + ((12345 : Int32)))).toUInt32 >>> ((((15 : Int32))).toUInt32 &&& Int32.toUInt32 31)).toInt32))).toUInt32 >>> ((((1 : Int32))).toUInt32 &&& Int32.toUInt32 31)).toInt32) - ((((((((((((sy_i F 82) ^^^ ((101 : Int32))) * ((1103515245 : Int32))) + ((12345 : Int32))) ^^^ (((((((sy_i F 82) ^^^ ((101 : Int32))) * ((1103515245 : Int32))) + ((12345 : Int32)))).toUInt32 >>> ((((15 : Int32))).toUInt32 &&& Int32.toUInt32 31)).toInt32)) ^^^ ((((16 : Int32)) * (sy_i F 50)) + (sy_i F 83))) * ((1103515245 : Int32))) + ((12345 : Int32))) ^^^ (((((((((((sy_i F 82) ^^^ ((101 : Int32))) * ((1103515245 : Int32))) + ((12345 : Int32))) ^^^ (((((((sy_i F 82) ^^^ ((101 : Int32))) * ((1103515245 : Int32))) + ((12345 : Int32)))).toUInt32 >>> ((((15 : Int32))).toUInt32 &&& Int32.toUInt32 31)).toInt32)) ^^^ ((((16 : Int32)) * (sy_i F 50)) + (sy_i F 83))) * ((1103515245 : Int32))) + ((12345 : Int32)))).toUInt32 >>> ((((15 : Int32))).toUInt32 &&& Int32.toUInt32 31)).toInt32))).toUInt32 >>> ((((1 : Int32))).toUInt32 &&& Int32.toUInt32 31)).toInt32) / ((100 : Int32)) * ((100 : Int32))) ((((((((((((((sy_i F 82) ^^^ ((101 : Int32))) * ((1103515245 : Int32))) + ((12345 : Int32))) ^^^ (((((((sy_i F 82) ^^^ ((101 : Int32))) * ((1103515245 : Int32))) + ((12345 : Int32)))).toUInt32 >>> ((((15 : Int32))).toUInt32 &&& Int32.toUInt32 31)).toInt32)) ^^^ ((((16 : Int32)) * (sy_i F 50)) + (sy_i F 83))) * ((1103515245 : Int32))) + ((12345 : Int32))) ^^^ (((((((((((sy_i F 82) ^^^ ((101 : Int32))) * ((1103515245 : Int32))) + ((12345 : Int32))) ^^^ (((((((sy_i F 82) ^^^ ((101 : Int32))) * ((1103515245 : Int32))) + ((12345 : Int32)))).toUInt32 >>> ((((15 : Int32))).toUInt32 &&& Int32.toUInt32 31)).toInt32)) ^^^ ((((16 : Int32)) * (sy_i F 50)) + (sy_i F 83))) * ((1103515245 : Int32))) + ((12345 : Int32)))).toUInt32 >>> ((((15 : Int32))).toUInt32 &&& Int32.toUInt32 31)).toInt32))).toUInt32 >>> ((((1 : Int32))).toUInt32 &&& Int32.toUInt32 31)).toInt32) - ((((((((((((sy_i F 82) ^^^ ((101 : Int32))) * ((1103515245 : Int32))) + ((12345 : Int32))) ^^^ (((((((sy_i F 82) ^^^ ((101 : Int32))) * ((1103515245 : Int32))) + ((12345 : Int32)))).toUInt32 >>> ((((15 : Int32))).toUInt32 &&& Int32.toUInt32 31)).toInt32)) ^^^ ((((16 : Int32)) * (sy_i F 50)) + (sy_i F 83))) * ((1103515245 : Int32))) + ((12345 : Int32))) ^^^ (((((((((((sy_i F 82) ^^^ ((101 : Int32))) * ((1103515245 : Int32))) + ((12345 : Int32))) ^^^ (((((((sy_i F 82) ^^^ ((101 : Int32))) * ((1103515245 : Int32))) + ((12345 : Int32)))).toUInt32 >>> ((((15 : Int32))).toUInt32 &&& Int32.toUInt32 31)).toInt32)) ^^^ ((((16 : Int32)) * (sy_i F 50)) + (sy_i F 83))) * ((1103515245 : Int32))) + ((12345 : Int32)))).toUInt32 >>> ((((15 : Int32))).toUInt32 &&& Int32.toUInt32 31)).toInt32))).toUInt32 >>> ((((1 : Int32))).toUInt32 &&& Int32.toUInt32 31)).toInt32) / ((100 : Int32)) * ((100 : Int32))).toInt) := congrArg Int32.toInt (rfl : ((((((((((((sy_i F 82) ^^^ ((101 : Int32))) * ((1103515245 : Int32))) + ((12345 : Int32))) ^^^ (((((((sy_i F 82) ^^^ ((101 : Int32))) * ((1103515245 : Int32))) + ((12345 : Int32)))).toUInt32 >>> ((((15 : Int32))).toUInt32 &&& Int32.toUInt32 31)).toInt32)) ^^^ ((((16 : Int32)) * (sy_i F 50)) + (sy_i F 83))) * ((1103515245 : Int32))) + ((12345 : Int32))) ^^^ (((((((((((sy_i F 82) ^^^ ((101 : Int32))) * ((1103515245 : Int32))) + ((12345 : Int32))) ^^^ (((((((sy_i F 82) ^^^ ((101 : Int32))) * ((1103515245 : Int32))) + ((12345 : Int32)))).toUInt32 >>> ((((15 : Int32))).toUInt32 &&& Int32.toUInt32 31)).toInt32)) ^^^ ((((16 : Int32)) * (sy_i F 50)) + (sy_i F 83))) * ((1103515245 : Int32))) + ((12345 : Int32)))).toUInt32 >>> ((((15 : Int32))).toUInt32 &&& Int32.toUInt32 31)).toInt32))).toUInt32 >>> ((((1 : Int32))).toUInt32 &&& Int32.toUInt32 31)).toInt32) - ((((((((((((sy_i F 82) ^^^ ((101 : Int32))) * ((1103515245 : Int32))) + ((12345 : Int32))) ^^^ (((((((sy_i F 82) ^^^ ((101 : Int32))) * ((1103515245 : Int32))) + ((12345 : Int32)))).toUInt32 >>> ((((15 : Int32))).toUInt32 &&& Int32.toUInt32 31)).toInt32)) ^^^ ((((16 : Int32)) * (sy_i F 50)) + (sy_i F 83))) * ((1103515245 : Int32))) + ((12345 : Int32))) ^^^ (((((((((((sy_i F 82) ^^^ ((101 : Int32))) * ((1103515245 : Int32))) + ((12345 : Int32))) ^^^ (((((((sy_i F 82) ^^^ ((101 : Int32))) * ((1103515245 : Int32))) + ((12345 : Int32)))).toUInt32 >>> ((((15 : Int32))).toUInt32 &&& Int32.toUInt32 31)).toInt32)) ^^^ ((((16 : Int32)) * (sy_i F 50)) + (sy_i F 83))) * ((1103515245 : Int32))) + ((12345 : Int32)))).toUInt32 >>> ((((15 : Int32))).toUInt32 &&& Int32.toUInt32 31)).toInt32))).toUInt32 >>> ((((1 : Int32))).toUInt32 &&& Int32.toUInt32 31)).toInt32) / ((100 : Int32)) * ((100 : Int32)) = ((((((((((((sy_i F 82) ^^^ ((101 : Int32))) * ((1103515245 : Int32))) + ((12345 : Int32))) ^^^ (((((((sy_i F 82) ^^^ ((101 : Int32))) * ((1103515245 : Int32))) + ((12345 : Int32)))).toUInt32 >>> ((((15 : Int32))).toUInt32 &&& Int32.toUInt32 31)).toInt32)) ^^^ ((((16 : Int32)) * (sy_i F 50)) + (sy_i F 83))) * ((1103515245 : Int32))) + ((12345 : Int32))) ^^^ (((((((((((sy_i F 82) ^^^ ((101 : Int32))) * ((1103515245 : Int32))) + ((12345 : Int32))) ^^^ (((((((sy_i F 82) ^^^ ((101 : Int32))) * ((1103515245 : Int32))) + ((12345 : Int32)))).toUInt32 >>> ((((15 : Int32))).toUInt32 &&& Int32.toUInt32 31)).toInt32)) ^^^ ((((16 : Int32)) * (sy_i F 50)) + (sy_i F 83))) * ((1103515245 : Int32))) + ((12345 : Int32)))).toUInt32 >>> ((((15 : Int32))).toUInt32 &&& Int32.toUInt32 31)).toInt32))).toUInt32 >>> ((((1 : Int32))).toUInt32 &&& Int32.toUInt32 31)).toInt32) - ((((((((((((sy_i F 82) ^^^ ((101 : Int32))) * ((1103515245 : Int32))) + ((12345 : Int32))) ^^^ (((((((sy_i F 82) ^^^ ((101 : Int32))) * ((1103515245 : Int32))) + ((12345 : Int32)))).toUInt32 >>> ((((15 : Int32))).toUInt32 &&& Int32.toUInt32 31)).toInt32)) ^^^ ((((16 : Int32)) * (sy_i F 50)) + (sy_i F 83))) * ((1103515245 : Int32))) + ((12345 : Int32))) ^^^ (((((((((((sy_i F 82) ^^^ ((101 : Int32))) * ((1103515245 : Int32))) + ((12345 : Int32))) ^^^ (((((((sy_i F 82) ^^^ ((101 : Int32))) * ((1103515245 : Int32))) + ((12345 : Int32)))).toUInt32 >>> ((((15 : Int32))).toUInt32 &&& Int32.toUInt32 31)).toInt32)) ^^^ ((((16 : Int32)) * (sy_i F 50)) + (sy_i F 83))) * ((1103515245 : Int32))) + ((12345 : Int32)))).toUInt32 >>> ((((15 : Int32))).toUInt32 &&& Int32.toUInt32 31)).toInt32))).toUInt32 >>> ((((1 : Int32))).toUInt32 &&& Int32.toUInt32 31)).toInt32) / ((100 : Int32)) * ((100 : Int32)))
  exact j3nph_61_p2 hd F X1 X2 hB (by first | exact g0 | (simp only [nz_c]; exact g0)) (by first | exact ⟨by omega, by omega⟩ | (simp only [nz_c]; exact ⟨by omega, by omega⟩)) (by first | exact g1 | (simp only [nz_c]; exact g1) | (rw [(nzE n84)]; exact g1)) (by first | exact ⟨by omega, by omega⟩ | (simp only [nz_c]; exact ⟨by omega, by omega⟩)) (by first | exact ⟨by omega, by omega⟩ | (simp only [nz_c]; exact ⟨by omega, by omega⟩)) (by first | exact ⟨by omega, by omega⟩ | (simp only [nz_c]; exact ⟨by omega, by omega⟩)) (by first | exact ⟨by omega, by omega⟩ | (simp only [nz_c]; exact ⟨by omega, by omega⟩)) (by first | exact ⟨by omega, by omega⟩ | (simp only [nz_c]; exact ⟨by omega, by omega⟩)) (by first | exact ⟨by omega, by omega⟩ | (simp only [nz_c]; exact ⟨by omega, by omega⟩)) (fun F1 g e45 e82 e83 e84 => k2 g0 g1 F1 (nz_in0 hB [45] (fun j hj hn => g j hj (by simp only [List.mem_cons, List.not_mem_nil, or_false, not_or] at hn; omega)) (List.forall_mem_cons.mpr ⟨fun t ht => (Option.some.inj ht) ▸ (nz_hz2 e45), List.forall_mem_nil _⟩)) (fun j hj hn => g j hj (by simp only [List.mem_cons, List.not_mem_nil, or_false, not_or] at hn; omega)) ((zz_ai e45).trans w96) ((congrArg Int32.toInt (zz_i e82)).trans (rfl : (sy_i F 82).toInt = (sy_i F 82).toInt)) ((zz_i e82).trans (rfl : sy_i F 82 = sy_i F 82)) ((congrArg Int32.toInt (zz_i e83)).trans (rfl : (sy_i F 83).toInt = (sy_i F 83).toInt)) ((zz_i e83).trans (rfl : sy_i F 83 = sy_i F 83)) ((congrArg Int32.toInt (zz_i e84)).trans (nzE n110)) ((zz_i e84).trans (rfl : ((((((((((((sy_i F 82) ^^^ ((101 : Int32))) * ((1103515245 : Int32))) + ((12345 : Int32))) ^^^ (((((((sy_i F 82) ^^^ ((101 : Int32))) * ((1103515245 : Int32))) + ((12345 : Int32)))).toUInt32 >>> ((((15 : Int32))).toUInt32 &&& Int32.toUInt32 31)).toInt32)) ^^^ ((((16 : Int32)) * (sy_i F 50)) + (sy_i F 83))) * ((1103515245 : Int32))) + ((12345 : Int32))) ^^^ (((((((((((sy_i F 82) ^^^ ((101 : Int32))) * ((1103515245 : Int32))) + ((12345 : Int32))) ^^^ (((((((sy_i F 82) ^^^ ((101 : Int32))) * ((1103515245 : Int32))) + ((12345 : Int32)))).toUInt32 >>> ((((15 : Int32))).toUInt32 &&& Int32.toUInt32 31)).toInt32)) ^^^ ((((16 : Int32)) * (sy_i F 50)) + (sy_i F 83))) * ((1103515245 : Int32))) + ((12345 : Int32)))).toUInt32 >>> ((((15 : Int32))).toUInt32 &&& Int32.toUInt32 31)).toInt32))).toUInt32 >>> ((((1 : Int32))).toUInt32 &&& Int32.toUInt32 31)).toInt32) - ((((((((((((sy_i F 82) ^^^ ((101 : Int32))) * ((1103515245 : Int32))) + ((12345 : Int32))) ^^^ (((((((sy_i F 82) ^^^ ((101 : Int32))) * ((1103515245 : Int32))) + ((12345 : Int32)))).toUInt32 >>> ((((15 : Int32))).toUInt32 &&& Int32.toUInt32 31)).toInt32)) ^^^ ((((16 : Int32)) * (sy_i F 50)) + (sy_i F 83))) * ((1103515245 : Int32))) + ((12345 : Int32))) ^^^ (((((((((((sy_i F 82) ^^^ ((101 : Int32))) * ((1103515245 : Int32))) + ((12345 : Int32))) ^^^ (((((((sy_i F 82) ^^^ ((101 : Int32))) * ((1103515245 : Int32))) + ((12345 : Int32)))).toUInt32 >>> ((((15 : Int32))).toUInt32 &&& Int32.toUInt32 31)).toInt32)) ^^^ ((((16 : Int32)) * (sy_i F 50)) + (sy_i F 83))) * ((1103515245 : Int32))) + ((12345 : Int32)))).toUInt32 >>> ((((15 : Int32))).toUInt32 &&& Int32.toUInt32 31)).toInt32))).toUInt32 >>> ((((1 : Int32))).toUInt32 &&& Int32.toUInt32 31)).toInt32) / ((100 : Int32)) * ((100 : Int32)) = ((((((((((((sy_i F 82) ^^^ ((101 : Int32))) * ((1103515245 : Int32))) + ((12345 : Int32))) ^^^ (((((((sy_i F 82) ^^^ ((101 : Int32))) * ((1103515245 : Int32))) + ((12345 : Int32)))).toUInt32 >>> ((((15 : Int32))).toUInt32 &&& Int32.toUInt32 31)).toInt32)) ^^^ ((((16 : Int32)) * (sy_i F 50)) + (sy_i F 83))) * ((1103515245 : Int32))) + ((12345 : Int32))) ^^^ (((((((((((sy_i F 82) ^^^ ((101 : Int32))) * ((1103515245 : Int32))) + ((12345 : Int32))) ^^^ (((((((sy_i F 82) ^^^ ((101 : Int32))) * ((1103515245 : Int32))) + ((12345 : Int32)))).toUInt32 >>> ((((15 : Int32))).toUInt32 &&& Int32.toUInt32 31)).toInt32)) ^^^ ((((16 : Int32)) * (sy_i F 50)) + (sy_i F 83))) * ((1103515245 : Int32))) + ((12345 : Int32)))).toUInt32 >>> ((((15 : Int32))).toUInt32 &&& Int32.toUInt32 31)).toInt32))).toUInt32 >>> ((((1 : Int32))).toUInt32 &&& Int32.toUInt32 31)).toInt32) - ((((((((((((sy_i F 82) ^^^ ((101 : Int32))) * ((1103515245 : Int32))) + ((12345 : Int32))) ^^^ (((((((sy_i F 82) ^^^ ((101 : Int32))) * ((1103515245 : Int32))) + ((12345 : Int32)))).toUInt32 >>> ((((15 : Int32))).toUInt32 &&& Int32.toUInt32 31)).toInt32)) ^^^ ((((16 : Int32)) * (sy_i F 50)) + (sy_i F 83))) * ((1103515245 : Int32))) + ((12345 : Int32))) ^^^ (((((((((((sy_i F 82) ^^^ ((101 : Int32))) * ((1103515245 : Int32))) + ((12345 : Int32))) ^^^ (((((((sy_i F 82) ^^^ ((101 : Int32))) * ((1103515245 : Int32))) + ((12345 : Int32)))).toUInt32 >>> ((((15 : Int32))).toUInt32 &&& Int32.toUInt32 31)).toInt32)) ^^^ ((((16 : Int32)) * (sy_i F 50)) + (sy_i F 83))) * ((1103515245 : Int32))) + ((12345 : Int32)))).toUInt32 >>> ((((15 : Int32))).toUInt32 &&& Int32.toUInt32 31)).toInt32))).toUInt32 >>> ((((1 : Int32))).toUInt32 &&& Int32.toUInt32 31)).toInt32) / ((100 : Int32)) * ((100 : Int32)))))
theorem j3nph_114_p0 {Ls : Nat} {xs : Nat → Int32} {d : Nat} {Q : Option Value → jm_h → Prop} (hd : 1 ≤ d) (F : Nat → sy_d) (X1 X2 : List jm_c) (hB : iv_in F iv_B0)
    (h0 : (sy_i F 85).toInt ≤ (sy_i F 84).toInt)
    (h1 : 0 ≤ (sy_i F 83).toInt ∧ (sy_i F 83).toInt < 7)
    (k : ∀ F1 : Nat → sy_d, (∀ j, j < 82 → True → F1 j = F j) → F1 82 = .inl (.int (sy_i F 82)) → F1 83 = .inl (.int (sy_i F 83)) → F1 84 = .inl (.int ((sy_ai F 53).getD (sy_i F 83).toNatClampNeg 0)) → hd_W Ls xs d jm_M3 Q (147, sy_dL F1 [some (.inl (.ref 41)), some (.inl (.ref 20)), some (.inl (.ref 46)), some (.inr (.inl 82)), some (.inr (.inl 83))], sy_dS F1 [.inl (.int 1), .inl (.ref 20), .inl (.ref 38), .inr (.inl 84), .inr (.inl 83), .inl (.ref 47)], sy_dh F1 X1 X2 (iv_H 3), 0, 0)) :
    hd_W Ls xs d jm_M3 Q (114, sy_dL F [some (.inl (.ref 41)), some (.inl (.ref 20)), some (.inl (.ref 46)), some (.inr (.inl 82)), some (.inr (.inl 83))], sy_dS F [.inr (.inl 85), .inr (.inl 84)], sy_dh F X1 X2 (iv_H 3), 0, 0) := by
  refine hd_run (s := 3) (nv := 86) (pc := 147) (L := [some (.inl (.ref 41)), some (.inl (.ref 20)), some (.inl (.ref 46)), some (.inr (.inl 82)), some (.inr (.inl 83))]) (S := [.inl (.int 1), .inl (.ref 20), .inl (.ref 38), .inr (.inl 84), .inr (.inl 83), .inl (.ref 47)]) (uh := hd_ov (iv_id 0 iv_B0) []) (ul := [.inl (.inr (.inl 82)), .inl (.inr (.inl 83)), .inl (.inr (.inl 86))]) (f := false) (sp := [122, 147]) (d0 := 0) (O := [true]) (T := [(30, [.inr (.inl 83)], [.inr (.inl 53)])]) (P := [(4, .inr (.inl 85), .inr (.inl 84)), (6, .inr (.inl 83), .inl (.ref 7))]) jm_ok3 (by decide +kernel) (by decide +kernel) hd F X1 X2 (fun F' hF hs => ?_)
  have b85 := hd_b (F := F) (F' := F') (k := 85) (hF 85 (by decide))
  have b84 := hd_b (F := F) (F' := F') (k := 84) (hF 84 (by decide))
  have b83 := hd_b (F := F) (F' := F') (k := 83) (hF 83 (by decide))
  have b82 := hd_b (F := F) (F' := F') (k := 82) (hF 82 (by decide))
  have a53 := hd_ba (F := F) (F' := F') (k := 53) (hF 53 (by decide))
  have t86 : sy_dv F' (.inr (.inl 86)) = .int ((sy_ai F 53).getD (sy_i F 83).toNatClampNeg 0) := hd_rd (hs 0 _ rfl) b83 a53
  have hB' : iv_in F' iv_B0 := iv_in_eq hB (fun j hj => hF j (Nat.lt_of_lt_of_le hj (by decide +kernel)))
  refine ⟨List.forall_mem_cons.mpr ⟨hd_p4 b85 b84 h0, List.forall_mem_cons.mpr ⟨hd_pb b83 (by first | exact h1 | exact h1), fun _ h => absurd h List.not_mem_nil⟩⟩, ?_⟩
  refine k _ ?_ ?_ ?_ ?_
  · exact fun j hj _ => (hd_keep hB' (Nat.lt_of_lt_of_le hj (by decide +kernel)) (by simp)).trans (hF j (Nat.lt_of_lt_of_le hj (by decide)))
  · exact hd_gi (x := .inr (.inl 82)) (by decide +kernel) b82
  · exact hd_gi (x := .inr (.inl 83)) (by decide +kernel) b83
  · exact hd_gi (x := .inr (.inl 86)) (by decide +kernel) t86
theorem j3nph_114_p1 {Ls : Nat} {xs : Nat → Int32} {d : Nat} {Q : Option Value → jm_h → Prop} (hd : 1 ≤ d) (F : Nat → sy_d) (X1 X2 : List jm_c) (hB : iv_in F iv_B0)
    (h0 : (sy_i F 84).toInt < (sy_i F 85).toInt)
    (k : ∀ F1 : Nat → sy_d, (∀ j, j < 82 → True → F1 j = F j) → F1 82 = .inl (.int (sy_i F 82)) → F1 83 = .inl (.int (sy_i F 83)) → hd_W Ls xs d jm_M3 Q (122, sy_dL F1 [some (.inl (.ref 41)), some (.inl (.ref 20)), some (.inl (.ref 46)), some (.inr (.inl 82)), some (.inr (.inl 83))], sy_dS F1 [.inr (.inl 83), .inl (.ref 46), .inl (.ref 20), .inl (.ref 41)], sy_dh F1 X1 X2 (iv_H 3), 0, 0)) :
    hd_W Ls xs d jm_M3 Q (114, sy_dL F [some (.inl (.ref 41)), some (.inl (.ref 20)), some (.inl (.ref 46)), some (.inr (.inl 82)), some (.inr (.inl 83))], sy_dS F [.inr (.inl 85), .inr (.inl 84)], sy_dh F X1 X2 (iv_H 3), 0, 0) := by
  refine hd_run (s := 3) (nv := 86) (pc := 122) (L := [some (.inl (.ref 41)), some (.inl (.ref 20)), some (.inl (.ref 46)), some (.inr (.inl 82)), some (.inr (.inl 83))]) (S := [.inr (.inl 83), .inl (.ref 46), .inl (.ref 20), .inl (.ref 41)]) (uh := hd_ov (iv_id 0 iv_B0) []) (ul := [.inl (.inr (.inl 82)), .inl (.inr (.inl 83))]) (f := false) (sp := [122, 147]) (d0 := 0) (O := [false]) (T := []) (P := [(5, .inr (.inl 85), .inr (.inl 84))]) jm_ok3 (by decide +kernel) (by decide +kernel) hd F X1 X2 (fun F' hF hs => ?_)
  have b85 := hd_b (F := F) (F' := F') (k := 85) (hF 85 (by decide))
  have b84 := hd_b (F := F) (F' := F') (k := 84) (hF 84 (by decide))
  have b82 := hd_b (F := F) (F' := F') (k := 82) (hF 82 (by decide))
  have b83 := hd_b (F := F) (F' := F') (k := 83) (hF 83 (by decide))
  have hB' : iv_in F' iv_B0 := iv_in_eq hB (fun j hj => hF j (Nat.lt_of_lt_of_le hj (by decide +kernel)))
  refine ⟨List.forall_mem_cons.mpr ⟨hd_p5 b85 b84 h0, fun _ h => absurd h List.not_mem_nil⟩, ?_⟩
  refine k _ ?_ ?_ ?_
  · exact fun j hj _ => (hd_keep hB' (Nat.lt_of_lt_of_le hj (by decide +kernel)) (by simp)).trans (hF j (Nat.lt_of_lt_of_le hj (by decide)))
  · exact hd_gi (x := .inr (.inl 82)) (by decide +kernel) b82
  · exact hd_gi (x := .inr (.inl 83)) (by decide +kernel) b83
theorem j3nph_114 {Ls : Nat} {xs : Nat → Int32} {d : Nat} {Q : Option Value → jm_h → Prop} (hd : 1 ≤ d) (F : Nat → sy_d) (X1 X2 : List jm_c) (hB : iv_in F iv_B0)
    (a83 : 0 ≤ (sy_i F 83).toInt ∧ (sy_i F 83).toInt ≤ 6)
    (k0 : (sy_i F 85).toInt ≤ (sy_i F 84).toInt → ∀ F1 : Nat → sy_d, iv_in F1 iv_B0 → (∀ j, j < 82 → j ∉ ([] : List Nat) → F1 j = F j) → (sy_i F1 82).toInt = (sy_i F 82).toInt → sy_i F1 82 = sy_i F 82 → (sy_i F1 83).toInt = (sy_i F 83).toInt → sy_i F1 83 = sy_i F 83 → (sy_i F1 84).toInt = ((sy_ai F 53).getD ((sy_i F 83).toInt).toNat 0).toInt → sy_i F1 84 = (sy_ai F 53).getD ((sy_i F 83).toInt).toNat 0 → hd_W Ls xs d jm_M3 Q (147, sy_dL F1 [some (.inl (.ref 41)), some (.inl (.ref 20)), some (.inl (.ref 46)), some (.inr (.inl 82)), some (.inr (.inl 83))], sy_dS F1 [.inl (.int 1), .inl (.ref 20), .inl (.ref 38), .inr (.inl 84), .inr (.inl 83), .inl (.ref 47)], sy_dh F1 X1 X2 (iv_H 3), 0, 0))
    (k1 : (sy_i F 84).toInt < (sy_i F 85).toInt → ∀ F1 : Nat → sy_d, iv_in F1 iv_B0 → (∀ j, j < 82 → j ∉ ([] : List Nat) → F1 j = F j) → (sy_i F1 82).toInt = (sy_i F 82).toInt → sy_i F1 82 = sy_i F 82 → (sy_i F1 83).toInt = (sy_i F 83).toInt → sy_i F1 83 = sy_i F 83 → hd_W Ls xs d jm_M3 Q (122, sy_dL F1 [some (.inl (.ref 41)), some (.inl (.ref 20)), some (.inl (.ref 46)), some (.inr (.inl 82)), some (.inr (.inl 83))], sy_dS F1 [.inr (.inl 83), .inl (.ref 46), .inl (.ref 20), .inl (.ref 41)], sy_dh F1 X1 X2 (iv_H 3), 0, 0)) :
    hd_W Ls xs d jm_M3 Q (114, sy_dL F [some (.inl (.ref 41)), some (.inl (.ref 20)), some (.inl (.ref 46)), some (.inr (.inl 82)), some (.inr (.inl 83))], sy_dS F [.inr (.inl 85), .inr (.inl 84)], sy_dh F X1 X2 (iv_H 3), 0, 0) := by
  by_cases g0 : (sy_i F 85).toInt ≤ (sy_i F 84).toInt
  · have q86 : (sy_ai F 53).getD (sy_i F 83).toNatClampNeg 0 = (sy_ai F 53).getD ((sy_i F 83).toInt).toNat 0 := by simp only [nz_c]
    have n86 : nzI ((sy_ai F 53).getD (sy_i F 83).toNatClampNeg 0) (((sy_ai F 53).getD ((sy_i F 83).toInt).toNat 0).toInt) := congrArg Int32.toInt q86
    exact j3nph_114_p0 hd F X1 X2 hB (by first | exact g0 | (simp only [nz_c]; exact g0)) (by first | exact ⟨by omega, by omega⟩ | (simp only [nz_c]; exact ⟨by omega, by omega⟩)) (fun F1 g e82 e83 e84 => k0 g0 F1 (nz_in0 hB [] (fun j hj hn => g j hj (by simp only [List.mem_cons, List.not_mem_nil, or_false, not_or] at hn; exact trivial)) (List.forall_mem_nil _)) (fun j hj hn => g j hj (by simp only [List.mem_cons, List.not_mem_nil, or_false, not_or] at hn; exact trivial)) ((congrArg Int32.toInt (zz_i e82)).trans (rfl : (sy_i F 82).toInt = (sy_i F 82).toInt)) ((zz_i e82).trans (rfl : sy_i F 82 = sy_i F 82)) ((congrArg Int32.toInt (zz_i e83)).trans (rfl : (sy_i F 83).toInt = (sy_i F 83).toInt)) ((zz_i e83).trans (rfl : sy_i F 83 = sy_i F 83)) ((congrArg Int32.toInt (zz_i e84)).trans (nzE n86)) ((zz_i e84).trans q86))
  replace g0 : (sy_i F 84).toInt < (sy_i F 85).toInt := by omega
  exact j3nph_114_p1 hd F X1 X2 hB (by first | exact g0 | (simp only [nz_c]; exact g0)) (fun F1 g e82 e83 => k1 g0 F1 (nz_in0 hB [] (fun j hj hn => g j hj (by simp only [List.mem_cons, List.not_mem_nil, or_false, not_or] at hn; exact trivial)) (List.forall_mem_nil _)) (fun j hj hn => g j hj (by simp only [List.mem_cons, List.not_mem_nil, or_false, not_or] at hn; exact trivial)) ((congrArg Int32.toInt (zz_i e82)).trans (rfl : (sy_i F 82).toInt = (sy_i F 82).toInt)) ((zz_i e82).trans (rfl : sy_i F 82 = sy_i F 82)) ((congrArg Int32.toInt (zz_i e83)).trans (rfl : (sy_i F 83).toInt = (sy_i F 83).toInt)) ((zz_i e83).trans (rfl : sy_i F 83 = sy_i F 83)))
theorem j3nph_125_p0 {Ls : Nat} {xs : Nat → Int32} {d : Nat} {Q : Option Value → jm_h → Prop} (hd : 1 ≤ d) (F : Nat → sy_d) (X1 X2 : List jm_c) (hB : iv_in F iv_B0)
    (k : ∀ F1 : Nat → sy_d, (∀ j, j < 82 → True → F1 j = F j) → F1 82 = .inl (.int (sy_i F 82)) → F1 83 = .inl (.int ((sy_i F 83) + ((1 : Int32)))) → hd_W Ls xs d jm_M3 Q (61, sy_dL F1 [some (.inl (.ref 41)), some (.inl (.ref 20)), some (.inl (.ref 46)), some (.inr (.inl 82)), some (.inr (.inl 83))], sy_dS F1 [], sy_dh F1 X1 X2 (iv_H 3), 0, 0)) :
    hd_W Ls xs d jm_M3 Q (125, sy_dL F [some (.inl (.ref 41)), some (.inl (.ref 20)), some (.inl (.ref 46)), some (.inr (.inl 82)), some (.inr (.inl 83))], sy_dS F [], sy_dh F X1 X2 (iv_H 3), 0, 0) := by
  refine hd_run (s := 3) (nv := 84) (pc := 61) (L := [some (.inl (.ref 41)), some (.inl (.ref 20)), some (.inl (.ref 46)), some (.inr (.inl 82)), some (.inr (.inl 83))]) (S := []) (uh := hd_ov (iv_id 0 iv_B0) []) (ul := [.inl (.inr (.inl 82)), .inl (.inr (.inl 84))]) (f := false) (sp := [61]) (d0 := 0) (O := []) (T := [(0, [.inr (.inl 83), .inl (.int 1)], [])]) (P := []) jm_ok3 (by decide +kernel) (by decide +kernel) hd F X1 X2 (fun F' hF hs => ?_)
  have b82 := hd_b (F := F) (F' := F') (k := 82) (hF 82 (by decide))
  have b83 := hd_b (F := F) (F' := F') (k := 83) (hF 83 (by decide))
  have t84 : sy_dv F' (.inr (.inl 84)) = .int ((sy_i F 83) + ((1 : Int32))) := hd_o (hs 0 _ rfl) b83 rfl rfl
  have hB' : iv_in F' iv_B0 := iv_in_eq hB (fun j hj => hF j (Nat.lt_of_lt_of_le hj (by decide +kernel)))
  refine ⟨fun _ h => absurd h List.not_mem_nil, ?_⟩
  refine k _ ?_ ?_ ?_
  · exact fun j hj _ => (hd_keep hB' (Nat.lt_of_lt_of_le hj (by decide +kernel)) (by simp)).trans (hF j (Nat.lt_of_lt_of_le hj (by decide)))
  · exact hd_gi (x := .inr (.inl 82)) (by decide +kernel) b82
  · exact hd_gi (x := .inr (.inl 84)) (by decide +kernel) t84
theorem j3nph_125 {Ls : Nat} {xs : Nat → Int32} {d : Nat} {Q : Option Value → jm_h → Prop} (hd : 1 ≤ d) (F : Nat → sy_d) (X1 X2 : List jm_c) (hB : iv_in F iv_B0)
    (a83 : 0 ≤ (sy_i F 83).toInt ∧ (sy_i F 83).toInt ≤ 6)
    (k0 : ∀ F1 : Nat → sy_d, iv_in F1 iv_B0 → (∀ j, j < 82 → j ∉ ([] : List Nat) → F1 j = F j) → (sy_i F1 82).toInt = (sy_i F 82).toInt → sy_i F1 82 = sy_i F 82 → (sy_i F1 83).toInt = ((sy_i F 83).toInt + 1) → sy_i F1 83 = (sy_i F 83) + ((1 : Int32)) → hd_W Ls xs d jm_M3 Q (61, sy_dL F1 [some (.inl (.ref 41)), some (.inl (.ref 20)), some (.inl (.ref 46)), some (.inr (.inl 82)), some (.inr (.inl 83))], sy_dS F1 [], sy_dh F1 X1 X2 (iv_H 3), 0, 0)) :
    hd_W Ls xs d jm_M3 Q (125, sy_dL F [some (.inl (.ref 41)), some (.inl (.ref 20)), some (.inl (.ref 46)), some (.inr (.inl 82)), some (.inr (.inl 83))], sy_dS F [], sy_dh F X1 X2 (iv_H 3), 0, 0) := by
  have n84 : nzI ((sy_i F 83) + ((1 : Int32))) (((sy_i F 83).toInt + 1)) := nz_add (rfl : (sy_i F 83).toInt = (sy_i F 83).toInt) (by decide : ((1 : Int32)).toInt = 1) (by omega) (by omega)
  exact j3nph_125_p0 hd F X1 X2 hB  (fun F1 g e82 e83 => k0 F1 (nz_in0 hB [] (fun j hj hn => g j hj (by simp only [List.mem_cons, List.not_mem_nil, or_false, not_or] at hn; exact trivial)) (List.forall_mem_nil _)) (fun j hj hn => g j hj (by simp only [List.mem_cons, List.not_mem_nil, or_false, not_or] at hn; exact trivial)) ((congrArg Int32.toInt (zz_i e82)).trans (rfl : (sy_i F 82).toInt = (sy_i F 82).toInt)) ((zz_i e82).trans (rfl : sy_i F 82 = sy_i F 82)) ((congrArg Int32.toInt (zz_i e83)).trans (nzE n84)) ((zz_i e83).trans (rfl : (sy_i F 83) + ((1 : Int32)) = (sy_i F 83) + ((1 : Int32)))))
theorem j3nph_150_p0 {Ls : Nat} {xs : Nat → Int32} {d : Nat} {Q : Option Value → jm_h → Prop} (hd : 3 ≤ d) (F : Nat → sy_d) (X1 X2 : List jm_c) (hB : iv_in F iv_B0)
    (h0 : ((sy_i F 84) + (sy_i F 85)).toInt < 99)
    (h1 : 0 < ((sy_i F 84) + (sy_i F 85)).toInt)
    (h2 : 0 ≤ (sy_i F 83).toInt ∧ (sy_i F 83).toInt < 7)
    (k : ∀ F1 : Nat → sy_d, (∀ j, j < 82 → j ≠ 53 → F1 j = F j) → F1 53 = .inr (.inl (jm_upd (sy_ai F 53) (sy_i F 83).toNatClampNeg ((sy_i F 84) + (sy_i F 85)))) → F1 82 = .inl (.int (sy_i F 82)) → F1 83 = .inl (.int ((sy_i F 83) + ((1 : Int32)))) → hd_W Ls xs d jm_M3 Q (61, sy_dL F1 [some (.inl (.ref 41)), some (.inl (.ref 20)), some (.inl (.ref 46)), some (.inr (.inl 82)), some (.inr (.inl 83))], sy_dS F1 [], sy_dh F1 X1 X2 (iv_H 3), 0, 0)) :
    hd_W Ls xs d jm_M3 Q (150, sy_dL F [some (.inl (.ref 41)), some (.inl (.ref 20)), some (.inl (.ref 46)), some (.inr (.inl 82)), some (.inr (.inl 83))], sy_dS F [.inr (.inl 85), .inr (.inl 84), .inr (.inl 83), .inl (.ref 47)], sy_dh F X1 X2 (iv_H 3), 0, 0) := by
  refine hd_run (s := 3) (nv := 86) (pc := 61) (L := [some (.inl (.ref 41)), some (.inl (.ref 20)), some (.inl (.ref 46)), some (.inr (.inl 82)), some (.inr (.inl 83))]) (S := []) (uh := hd_ov (iv_id 0 iv_B0) [(53, .inr (.inr (.inl 87)))]) (ul := [.inl (.inr (.inl 82)), .inl (.inr (.inl 88))]) (f := false) (sp := [61]) (d0 := 2) (O := [true, true]) (T := [(0, [.inr (.inl 84), .inr (.inl 85)], []), (40, [.inr (.inl 83), .inr (.inl 86)], [.inr (.inl 53)]), (0, [.inr (.inl 83), .inl (.int 1)], [])]) (P := [(2, .inr (.inl 86), .inl (.int 99)), (2, .inl (.int 0), .inr (.inl 86)), (6, .inr (.inl 83), .inl (.ref 7))]) jm_ok3 (by decide +kernel) (by decide +kernel) hd F X1 X2 (fun F' hF hs => ?_)
  have b84 := hd_b (F := F) (F' := F') (k := 84) (hF 84 (by decide))
  have b85 := hd_b (F := F) (F' := F') (k := 85) (hF 85 (by decide))
  have t86 : sy_dv F' (.inr (.inl 86)) = .int ((sy_i F 84) + (sy_i F 85)) := hd_o (hs 0 _ rfl) b84 b85 rfl
  have b83 := hd_b (F := F) (F' := F') (k := 83) (hF 83 (by decide))
  have a53 := hd_ba (F := F) (F' := F') (k := 53) (hF 53 (by decide))
  have t87 : sy_da F' (.inr (.inl 87)) = .inl (jm_upd (sy_ai F 53) (sy_i F 83).toNatClampNeg ((sy_i F 84) + (sy_i F 85))) := hd_up (hs 1 _ rfl) b83 t86 a53
  have b82 := hd_b (F := F) (F' := F') (k := 82) (hF 82 (by decide))
  have t88 : sy_dv F' (.inr (.inl 88)) = .int ((sy_i F 83) + ((1 : Int32))) := hd_o (hs 2 _ rfl) b83 rfl rfl
  have hB' : iv_in F' iv_B0 := iv_in_eq hB (fun j hj => hF j (Nat.lt_of_lt_of_le hj (by decide +kernel)))
  refine ⟨List.forall_mem_cons.mpr ⟨hd_p2 t86 rfl (by have hc : ((99) : Int32).toInt = 99 := (by decide); omega), List.forall_mem_cons.mpr ⟨hd_p2 rfl t86 (by have hc : ((0) : Int32).toInt = 0 := (by decide); omega), List.forall_mem_cons.mpr ⟨hd_pb b83 (by first | exact h2 | exact h2), fun _ h => absurd h List.not_mem_nil⟩⟩⟩, ?_⟩
  refine k _ ?_ ?_ ?_ ?_
  · exact fun j hj hn => (hd_keep hB' (Nat.lt_of_lt_of_le hj (by decide +kernel)) (by simp; omega)).trans (hF j (Nat.lt_of_lt_of_le hj (by decide)))
  · exact hd_ga (a := .inr (.inl 87)) (by decide +kernel) t87
  · exact hd_gi (x := .inr (.inl 82)) (by decide +kernel) b82
  · exact hd_gi (x := .inr (.inl 88)) (by decide +kernel) t88
theorem j3nph_150_p1 {Ls : Nat} {xs : Nat → Int32} {d : Nat} {Q : Option Value → jm_h → Prop} (hd : 3 ≤ d) (F : Nat → sy_d) (X1 X2 : List jm_c) (hB : iv_in F iv_B0)
    (h0 : ((sy_i F 84) + (sy_i F 85)).toInt < 99)
    (h1 : ((sy_i F 84) + (sy_i F 85)).toInt ≤ 0)
    (h2 : 0 ≤ (sy_i F 83).toInt ∧ (sy_i F 83).toInt < 7)
    (k : ∀ F1 : Nat → sy_d, (∀ j, j < 82 → j ≠ 53 → F1 j = F j) → F1 53 = .inr (.inl (jm_upd (sy_ai F 53) (sy_i F 83).toNatClampNeg ((0 : Int32)))) → F1 82 = .inl (.int (sy_i F 82)) → F1 83 = .inl (.int ((sy_i F 83) + ((1 : Int32)))) → hd_W Ls xs d jm_M3 Q (61, sy_dL F1 [some (.inl (.ref 41)), some (.inl (.ref 20)), some (.inl (.ref 46)), some (.inr (.inl 82)), some (.inr (.inl 83))], sy_dS F1 [], sy_dh F1 X1 X2 (iv_H 3), 0, 0)) :
    hd_W Ls xs d jm_M3 Q (150, sy_dL F [some (.inl (.ref 41)), some (.inl (.ref 20)), some (.inl (.ref 46)), some (.inr (.inl 82)), some (.inr (.inl 83))], sy_dS F [.inr (.inl 85), .inr (.inl 84), .inr (.inl 83), .inl (.ref 47)], sy_dh F X1 X2 (iv_H 3), 0, 0) := by
  refine hd_run (s := 3) (nv := 86) (pc := 61) (L := [some (.inl (.ref 41)), some (.inl (.ref 20)), some (.inl (.ref 46)), some (.inr (.inl 82)), some (.inr (.inl 83))]) (S := []) (uh := hd_ov (iv_id 0 iv_B0) [(53, .inr (.inr (.inl 87)))]) (ul := [.inl (.inr (.inl 82)), .inl (.inr (.inl 88))]) (f := false) (sp := [61]) (d0 := 2) (O := [true, false]) (T := [(0, [.inr (.inl 84), .inr (.inl 85)], []), (40, [.inr (.inl 83), .inl (.int 0)], [.inr (.inl 53)]), (0, [.inr (.inl 83), .inl (.int 1)], [])]) (P := [(2, .inr (.inl 86), .inl (.int 99)), (3, .inl (.int 0), .inr (.inl 86)), (6, .inr (.inl 83), .inl (.ref 7))]) jm_ok3 (by decide +kernel) (by decide +kernel) hd F X1 X2 (fun F' hF hs => ?_)
  have b84 := hd_b (F := F) (F' := F') (k := 84) (hF 84 (by decide))
  have b85 := hd_b (F := F) (F' := F') (k := 85) (hF 85 (by decide))
  have t86 : sy_dv F' (.inr (.inl 86)) = .int ((sy_i F 84) + (sy_i F 85)) := hd_o (hs 0 _ rfl) b84 b85 rfl
  have b83 := hd_b (F := F) (F' := F') (k := 83) (hF 83 (by decide))
  have a53 := hd_ba (F := F) (F' := F') (k := 53) (hF 53 (by decide))
  have t87 : sy_da F' (.inr (.inl 87)) = .inl (jm_upd (sy_ai F 53) (sy_i F 83).toNatClampNeg ((0 : Int32))) := hd_up (hs 1 _ rfl) b83 rfl a53
  have b82 := hd_b (F := F) (F' := F') (k := 82) (hF 82 (by decide))
  have t88 : sy_dv F' (.inr (.inl 88)) = .int ((sy_i F 83) + ((1 : Int32))) := hd_o (hs 2 _ rfl) b83 rfl rfl
  have hB' : iv_in F' iv_B0 := iv_in_eq hB (fun j hj => hF j (Nat.lt_of_lt_of_le hj (by decide +kernel)))
  refine ⟨List.forall_mem_cons.mpr ⟨hd_p2 t86 rfl (by have hc : ((99) : Int32).toInt = 99 := (by decide); omega), List.forall_mem_cons.mpr ⟨hd_p3 rfl t86 (by have hc : ((0) : Int32).toInt = 0 := (by decide); omega), List.forall_mem_cons.mpr ⟨hd_pb b83 (by first | exact h2 | exact h2), fun _ h => absurd h List.not_mem_nil⟩⟩⟩, ?_⟩
  refine k _ ?_ ?_ ?_ ?_
  · exact fun j hj hn => (hd_keep hB' (Nat.lt_of_lt_of_le hj (by decide +kernel)) (by simp; omega)).trans (hF j (Nat.lt_of_lt_of_le hj (by decide)))
  · exact hd_ga (a := .inr (.inl 87)) (by decide +kernel) t87
  · exact hd_gi (x := .inr (.inl 82)) (by decide +kernel) b82
  · exact hd_gi (x := .inr (.inl 88)) (by decide +kernel) t88
theorem j3nph_150_p2 {Ls : Nat} {xs : Nat → Int32} {d : Nat} {Q : Option Value → jm_h → Prop} (hd : 3 ≤ d) (F : Nat → sy_d) (X1 X2 : List jm_c) (hB : iv_in F iv_B0)
    (h0 : 99 ≤ ((sy_i F 84) + (sy_i F 85)).toInt)
    (h1 : 0 ≤ (sy_i F 83).toInt ∧ (sy_i F 83).toInt < 7)
    (k : ∀ F1 : Nat → sy_d, (∀ j, j < 82 → j ≠ 53 → F1 j = F j) → F1 53 = .inr (.inl (jm_upd (sy_ai F 53) (sy_i F 83).toNatClampNeg ((99 : Int32)))) → F1 82 = .inl (.int (sy_i F 82)) → F1 83 = .inl (.int ((sy_i F 83) + ((1 : Int32)))) → hd_W Ls xs d jm_M3 Q (61, sy_dL F1 [some (.inl (.ref 41)), some (.inl (.ref 20)), some (.inl (.ref 46)), some (.inr (.inl 82)), some (.inr (.inl 83))], sy_dS F1 [], sy_dh F1 X1 X2 (iv_H 3), 0, 0)) :
    hd_W Ls xs d jm_M3 Q (150, sy_dL F [some (.inl (.ref 41)), some (.inl (.ref 20)), some (.inl (.ref 46)), some (.inr (.inl 82)), some (.inr (.inl 83))], sy_dS F [.inr (.inl 85), .inr (.inl 84), .inr (.inl 83), .inl (.ref 47)], sy_dh F X1 X2 (iv_H 3), 0, 0) := by
  refine hd_run (s := 3) (nv := 86) (pc := 61) (L := [some (.inl (.ref 41)), some (.inl (.ref 20)), some (.inl (.ref 46)), some (.inr (.inl 82)), some (.inr (.inl 83))]) (S := []) (uh := hd_ov (iv_id 0 iv_B0) [(53, .inr (.inr (.inl 87)))]) (ul := [.inl (.inr (.inl 82)), .inl (.inr (.inl 88))]) (f := false) (sp := [61]) (d0 := 2) (O := [false]) (T := [(0, [.inr (.inl 84), .inr (.inl 85)], []), (40, [.inr (.inl 83), .inl (.int 99)], [.inr (.inl 53)]), (0, [.inr (.inl 83), .inl (.int 1)], [])]) (P := [(3, .inr (.inl 86), .inl (.int 99)), (6, .inr (.inl 83), .inl (.ref 7))]) jm_ok3 (by decide +kernel) (by decide +kernel) hd F X1 X2 (fun F' hF hs => ?_)
  have b84 := hd_b (F := F) (F' := F') (k := 84) (hF 84 (by decide))
  have b85 := hd_b (F := F) (F' := F') (k := 85) (hF 85 (by decide))
  have t86 : sy_dv F' (.inr (.inl 86)) = .int ((sy_i F 84) + (sy_i F 85)) := hd_o (hs 0 _ rfl) b84 b85 rfl
  have b83 := hd_b (F := F) (F' := F') (k := 83) (hF 83 (by decide))
  have a53 := hd_ba (F := F) (F' := F') (k := 53) (hF 53 (by decide))
  have t87 : sy_da F' (.inr (.inl 87)) = .inl (jm_upd (sy_ai F 53) (sy_i F 83).toNatClampNeg ((99 : Int32))) := hd_up (hs 1 _ rfl) b83 rfl a53
  have b82 := hd_b (F := F) (F' := F') (k := 82) (hF 82 (by decide))
  have t88 : sy_dv F' (.inr (.inl 88)) = .int ((sy_i F 83) + ((1 : Int32))) := hd_o (hs 2 _ rfl) b83 rfl rfl
  have hB' : iv_in F' iv_B0 := iv_in_eq hB (fun j hj => hF j (Nat.lt_of_lt_of_le hj (by decide +kernel)))
  refine ⟨List.forall_mem_cons.mpr ⟨hd_p3 t86 rfl (by have hc : ((99) : Int32).toInt = 99 := (by decide); omega), List.forall_mem_cons.mpr ⟨hd_pb b83 (by first | exact h1 | exact h1), fun _ h => absurd h List.not_mem_nil⟩⟩, ?_⟩
  refine k _ ?_ ?_ ?_ ?_
  · exact fun j hj hn => (hd_keep hB' (Nat.lt_of_lt_of_le hj (by decide +kernel)) (by simp; omega)).trans (hF j (Nat.lt_of_lt_of_le hj (by decide)))
  · exact hd_ga (a := .inr (.inl 87)) (by decide +kernel) t87
  · exact hd_gi (x := .inr (.inl 82)) (by decide +kernel) b82
  · exact hd_gi (x := .inr (.inl 88)) (by decide +kernel) t88
theorem j3nph_150 {Ls : Nat} {xs : Nat → Int32} {d : Nat} {Q : Option Value → jm_h → Prop} (hd : 3 ≤ d) (F : Nat → sy_d) (X1 X2 : List jm_c) (hB : iv_in F iv_B0)
    (a83 : 0 ≤ (sy_i F 83).toInt ∧ (sy_i F 83).toInt ≤ 6)
    (k0 : ((sy_i F 84) + (sy_i F 85)).toInt < 99 → 0 < ((sy_i F 84) + (sy_i F 85)).toInt → ∀ F1 : Nat → sy_d, iv_in F1 iv_B0 → (∀ j, j < 82 → j ∉ ([53] : List Nat) → F1 j = F j) → sy_ai F1 53 = jm_upd (sy_ai F 53) ((sy_i F 83).toInt).toNat ((sy_i F 84) + (sy_i F 85)) → (sy_i F1 82).toInt = (sy_i F 82).toInt → sy_i F1 82 = sy_i F 82 → (sy_i F1 83).toInt = ((sy_i F 83).toInt + 1) → sy_i F1 83 = (sy_i F 83) + ((1 : Int32)) → hd_W Ls xs d jm_M3 Q (61, sy_dL F1 [some (.inl (.ref 41)), some (.inl (.ref 20)), some (.inl (.ref 46)), some (.inr (.inl 82)), some (.inr (.inl 83))], sy_dS F1 [], sy_dh F1 X1 X2 (iv_H 3), 0, 0))
    (k1 : ((sy_i F 84) + (sy_i F 85)).toInt < 99 → ((sy_i F 84) + (sy_i F 85)).toInt ≤ 0 → ∀ F1 : Nat → sy_d, iv_in F1 iv_B0 → (∀ j, j < 82 → j ∉ ([53] : List Nat) → F1 j = F j) → sy_ai F1 53 = jm_upd (sy_ai F 53) ((sy_i F 83).toInt).toNat ((0 : Int32)) → (sy_i F1 82).toInt = (sy_i F 82).toInt → sy_i F1 82 = sy_i F 82 → (sy_i F1 83).toInt = ((sy_i F 83).toInt + 1) → sy_i F1 83 = (sy_i F 83) + ((1 : Int32)) → hd_W Ls xs d jm_M3 Q (61, sy_dL F1 [some (.inl (.ref 41)), some (.inl (.ref 20)), some (.inl (.ref 46)), some (.inr (.inl 82)), some (.inr (.inl 83))], sy_dS F1 [], sy_dh F1 X1 X2 (iv_H 3), 0, 0))
    (k2 : 99 ≤ ((sy_i F 84) + (sy_i F 85)).toInt → ∀ F1 : Nat → sy_d, iv_in F1 iv_B0 → (∀ j, j < 82 → j ∉ ([53] : List Nat) → F1 j = F j) → sy_ai F1 53 = jm_upd (sy_ai F 53) ((sy_i F 83).toInt).toNat ((99 : Int32)) → (sy_i F1 82).toInt = (sy_i F 82).toInt → sy_i F1 82 = sy_i F 82 → (sy_i F1 83).toInt = ((sy_i F 83).toInt + 1) → sy_i F1 83 = (sy_i F 83) + ((1 : Int32)) → hd_W Ls xs d jm_M3 Q (61, sy_dL F1 [some (.inl (.ref 41)), some (.inl (.ref 20)), some (.inl (.ref 46)), some (.inr (.inl 82)), some (.inr (.inl 83))], sy_dS F1 [], sy_dh F1 X1 X2 (iv_H 3), 0, 0)) :
    hd_W Ls xs d jm_M3 Q (150, sy_dL F [some (.inl (.ref 41)), some (.inl (.ref 20)), some (.inl (.ref 46)), some (.inr (.inl 82)), some (.inr (.inl 83))], sy_dS F [.inr (.inl 85), .inr (.inl 84), .inr (.inl 83), .inl (.ref 47)], sy_dh F X1 X2 (iv_H 3), 0, 0) := by
  by_cases g0 : ((sy_i F 84) + (sy_i F 85)).toInt < 99
  · by_cases g1 : 0 < ((sy_i F 84) + (sy_i F 85)).toInt
    · have n86 : nzI ((sy_i F 84) + (sy_i F 85)) (((sy_i F 84) + (sy_i F 85)).toInt) := congrArg Int32.toInt (rfl : (sy_i F 84) + (sy_i F 85) = (sy_i F 84) + (sy_i F 85))
      have w87 : jm_upd (sy_ai F 53) (sy_i F 83).toNatClampNeg ((sy_i F 84) + (sy_i F 85)) = jm_upd (sy_ai F 53) ((sy_i F 83).toInt).toNat ((sy_i F 84) + (sy_i F 85)) := by simp only [nz_c]
      have n88 : nzI ((sy_i F 83) + ((1 : Int32))) (((sy_i F 83).toInt + 1)) := nz_add (rfl : (sy_i F 83).toInt = (sy_i F 83).toInt) (by decide : ((1 : Int32)).toInt = 1) (by omega) (by omega)
      exact j3nph_150_p0 hd F X1 X2 hB (by first | exact g0 | (simp only [nz_c]; exact g0) | (rw [(nzE n86)]; exact g0)) (by first | exact g1 | (simp only [nz_c]; exact g1) | (rw [(nzE n86)]; exact g1)) (by first | exact ⟨by omega, by omega⟩ | (simp only [nz_c]; exact ⟨by omega, by omega⟩)) (fun F1 g e53 e82 e83 => k0 g0 g1 F1 (nz_in0 hB [53] (fun j hj hn => g j hj (by simp only [List.mem_cons, List.not_mem_nil, or_false, not_or] at hn; omega)) (List.forall_mem_cons.mpr ⟨fun t ht => (Option.some.inj ht) ▸ (nz_hz2 e53), List.forall_mem_nil _⟩)) (fun j hj hn => g j hj (by simp only [List.mem_cons, List.not_mem_nil, or_false, not_or] at hn; omega)) ((zz_ai e53).trans w87) ((congrArg Int32.toInt (zz_i e82)).trans (rfl : (sy_i F 82).toInt = (sy_i F 82).toInt)) ((zz_i e82).trans (rfl : sy_i F 82 = sy_i F 82)) ((congrArg Int32.toInt (zz_i e83)).trans (nzE n88)) ((zz_i e83).trans (rfl : (sy_i F 83) + ((1 : Int32)) = (sy_i F 83) + ((1 : Int32)))))
    replace g1 : ((sy_i F 84) + (sy_i F 85)).toInt ≤ 0 := by omega
    have n86 : nzI ((sy_i F 84) + (sy_i F 85)) (((sy_i F 84) + (sy_i F 85)).toInt) := congrArg Int32.toInt (rfl : (sy_i F 84) + (sy_i F 85) = (sy_i F 84) + (sy_i F 85))
    have w87 : jm_upd (sy_ai F 53) (sy_i F 83).toNatClampNeg ((0 : Int32)) = jm_upd (sy_ai F 53) ((sy_i F 83).toInt).toNat ((0 : Int32)) := by simp only [nz_c, (by decide : ((0 : Int32)).toInt = 0)]
    have n88 : nzI ((sy_i F 83) + ((1 : Int32))) (((sy_i F 83).toInt + 1)) := nz_add (rfl : (sy_i F 83).toInt = (sy_i F 83).toInt) (by decide : ((1 : Int32)).toInt = 1) (by omega) (by omega)
    exact j3nph_150_p1 hd F X1 X2 hB (by first | exact g0 | (simp only [nz_c]; exact g0) | (rw [(nzE n86)]; exact g0)) (by first | exact g1 | (simp only [nz_c]; exact g1) | (rw [(nzE n86)]; exact g1)) (by first | exact ⟨by omega, by omega⟩ | (simp only [nz_c]; exact ⟨by omega, by omega⟩)) (fun F1 g e53 e82 e83 => k1 g0 g1 F1 (nz_in0 hB [53] (fun j hj hn => g j hj (by simp only [List.mem_cons, List.not_mem_nil, or_false, not_or] at hn; omega)) (List.forall_mem_cons.mpr ⟨fun t ht => (Option.some.inj ht) ▸ (nz_hz2 e53), List.forall_mem_nil _⟩)) (fun j hj hn => g j hj (by simp only [List.mem_cons, List.not_mem_nil, or_false, not_or] at hn; omega)) ((zz_ai e53).trans w87) ((congrArg Int32.toInt (zz_i e82)).trans (rfl : (sy_i F 82).toInt = (sy_i F 82).toInt)) ((zz_i e82).trans (rfl : sy_i F 82 = sy_i F 82)) ((congrArg Int32.toInt (zz_i e83)).trans (nzE n88)) ((zz_i e83).trans (rfl : (sy_i F 83) + ((1 : Int32)) = (sy_i F 83) + ((1 : Int32)))))
  replace g0 : 99 ≤ ((sy_i F 84) + (sy_i F 85)).toInt := by omega
  have n86 : nzI ((sy_i F 84) + (sy_i F 85)) (((sy_i F 84) + (sy_i F 85)).toInt) := congrArg Int32.toInt (rfl : (sy_i F 84) + (sy_i F 85) = (sy_i F 84) + (sy_i F 85))
  have w87 : jm_upd (sy_ai F 53) (sy_i F 83).toNatClampNeg ((99 : Int32)) = jm_upd (sy_ai F 53) ((sy_i F 83).toInt).toNat ((99 : Int32)) := by simp only [nz_c, (by decide : ((99 : Int32)).toInt = 99)]
  have n88 : nzI ((sy_i F 83) + ((1 : Int32))) (((sy_i F 83).toInt + 1)) := nz_add (rfl : (sy_i F 83).toInt = (sy_i F 83).toInt) (by decide : ((1 : Int32)).toInt = 1) (by omega) (by omega)
  exact j3nph_150_p2 hd F X1 X2 hB (by first | exact g0 | (simp only [nz_c]; exact g0) | (rw [(nzE n86)]; exact g0)) (by first | exact ⟨by omega, by omega⟩ | (simp only [nz_c]; exact ⟨by omega, by omega⟩)) (fun F1 g e53 e82 e83 => k2 g0 F1 (nz_in0 hB [53] (fun j hj hn => g j hj (by simp only [List.mem_cons, List.not_mem_nil, or_false, not_or] at hn; omega)) (List.forall_mem_cons.mpr ⟨fun t ht => (Option.some.inj ht) ▸ (nz_hz2 e53), List.forall_mem_nil _⟩)) (fun j hj hn => g j hj (by simp only [List.mem_cons, List.not_mem_nil, or_false, not_or] at hn; omega)) ((zz_ai e53).trans w87) ((congrArg Int32.toInt (zz_i e82)).trans (rfl : (sy_i F 82).toInt = (sy_i F 82).toInt)) ((zz_i e82).trans (rfl : sy_i F 82 = sy_i F 82)) ((congrArg Int32.toInt (zz_i e83)).trans (nzE n88)) ((zz_i e83).trans (rfl : (sy_i F 83) + ((1 : Int32)) = (sy_i F 83) + ((1 : Int32)))))
end
section
/-! ===== the class: an hour (shape 3, n) ===== -/
abbrev W3n : List Nat := [45, 46, 50, 53, 54, 55, 56, 58, 59, 61]
section H3n
variable {Ls : Nat} {xs : Nat → Int32} {T : tX} {g : gS} (F : Nat → sy_d) (X1 X2 : List jm_c)
theorem j3ngq {F F1 : Nat → sy_d} {W : List Nat} (hG : gC 50 (nfS T) (nbS T) F g) (q : qC W F F1) (h : ∀ a ∈ W, a < 50 ∨ 62 ≤ a) : gC 50 (nfS T) (nbS T) F1 g := gC_eq hG (fun j h1 h2 => q.2 j (by omega) (fun z => by have := h j z; omega))
/-- what lies there is sold, or kept -/
theorem j3nsk_V {cur : gS} (hC : xC 18 T F) (hG : gC 50 (nfS T) (nbS T) F cur) (hH : hV T g F) {f : Int32} (hf : 0 ≤ f.toInt ∧ f.toInt < nfS T) : jm_T Ls xs 5 jm_M4 [.ref 41, .ref 20, .ref 46, .int f] (sy_dh F X1 X2 (iv_H 3)) 0 0 (pV 3 X1 X2 (fun F' => qC W3n F F' ∧ gC 50 (nfS T) (nbS T) F' (lieS T cur f.toInt.toNat (Int32.ofInt (worthT T f.toInt.toNat (cur 1 f.toInt.toNat) (cur 4 f.toInt.toNat) (g 9 0) (lfS T g)))) ∧ hV T g F')) := by
  have l7 : nfS T ≤ 7 := hC.2.2.1.1.1
  have l4 : nbS T ≤ 4 := hC.2.2.1.1.2.1
  have ek : (sy_i F 21).toInt = T.2.2.2.1 := hC.2.1.2.2.2.1
  refine C_T (by decide) [f] [.inl (.ref 41), .inl (.ref 20), .inl (.ref 46), .inr (.inl 82)] jm_ok4 (by decide) rfl (fun F0 k0 ki => ?_)
  have i82 : sy_i F0 82 = f := ki 0
  obtain ⟨n, hn⟩ : ∃ n : Nat, n = f.toInt.toNat := ⟨_, rfl⟩
  have hnf : n < nfS T := by omega
  rw [← hn]
  refine j3nsk_0 (by decide) F0 X1 X2 (hd_iveq0 hC.1 k0) (by rw [i82]; omega) ?_
  intro F1 hb gg a45 e82 j82
  have q1 : qC W3n F F1 := qq_src (qq_mk hb gg (by decide)) k0
  rw [i82, ← hn] at a45
  rw [i82] at j82 e82
  have hx := xX_f hC hnf
  obtain ⟨fv, hvf⟩ := fV_set (T := T) (g := cur) (f := n) a45 (by rw [nz_fa (k0 53 (by decide))]; exact hG.1 1 n (by decide) (vF (by decide) hnf)) (by rw [nz_fa (k0 25 (by decide))]; exact hx.2.1) (by rw [nz_fa (k0 24 (by decide))]; exact hx.1) (by rw [nz_fa (k0 58 (by decide))]; exact hG.1 6 n (by decide) (vF (by decide) hnf)) (by rw [nz_fa (k0 57 (by decide))]; exact hG.1 5 n (by decide) (vF (by decide) hnf)) (by rw [nz_fa (k0 56 (by decide))]; exact hG.1 4 n (by decide) (vF (by decide) hnf))
  have hv1 := hvf (hV_e hH (nz_fa (k0 45 (by decide))))
  have c1 := xC_q (by decide) hC q1 (by decide)
  have g1 : gC 50 (nfS T) (nbS T) F1 cur := gC_eq hG (fun j h1 h2 => (gg j (by omega) (by intro z; simp at z <;> omega)).trans (k0 j (by omega)))
  have hw := wo_of c1.2.2.1 hv1 fv
  refine hd_calI (R := fun x F' => qC [46] F1 F' ∧ x.toInt = lwT T 3 (v45 F1)) (nh := 82) (nv := 83) (s := 3) (s1 := 3) (d1 := 4) (M1 := jm_M21) (As := [.inl (.ref 38), .inl (.ref 20), .inl (.int 3)]) (rest := []) jm_ok4 rfl rfl (by decide) (by decide +kernel) (j3tl_V F1 X1 X2 c1 (by decide) (by decide)) (fun F3 F' x hR p1 p2 p3 => ?_)
  obtain ⟨r1, r2⟩ := hR
  rw [hw] at r2
  obtain ⟨c, hc⟩ : ∃ c : Int32, c = Int32.ofInt (worthT T n (cur 1 n) (cur 4 n) (g 9 0) (lfS T g)) := ⟨_, rfl⟩
  rw [← hc]
  have r1' : qC [46] F1 F3 := qC_dst r1 p1
  have q3 : qC W3n F F3 := qq_trans q1 (qq_up r1' (by decide))
  have i83 : sy_i F3 83 = c := by rw [zz_i p3, hc]; exact (ofi r2).symm
  have k82 : sy_i F3 82 = f := (eI (p2 82 (by decide) (by decide))).trans j82
  have g3 : gC 50 (nfS T) (nbS T) F3 cur := j3ngq g1 r1' (by decide)
  have hv3 := hV_e hv1 (qq_a r1' (by decide) (by decide))
  refine j3nsk_19 (by decide) F3 X1 X2 q3.1 (by rw [k82]; omega) ?_
  intro F4 hb4 g4 e82' j82' e83' j83' e84' j84'
  have q4' : qC W3n F F4 := qq_on q3 hb4 g4 (by decide)
  have j84 : sy_i F4 84 = cur 0 n := by
    rw [j84', k82, ← hn]
    exact g3.1 0 n (by decide) (vF (by decide) hnf)
  have j83 : sy_i F4 83 = c := j83'.trans i83
  have g4' : gC 50 (nfS T) (nbS T) F4 cur := gC_eq g3 (fun j h1 h2 => g4 j (by omega) (by simp))
  refine hd_calI (R := fun x F' => qC [] F4 F' ∧ x.toInt = fsS cur (sy_i F4 84) (sy_i F4 83).toInt (nbS T)) (nh := 82) (nv := 84) (s := 3) (s1 := 3) (d1 := 1) (M1 := jm_M14) (As := [.inl (.ref 46), .inl (.ref 20), .inr (.inl 84), .inr (.inl 83)]) (rest := []) jm_ok4 rfl rfl (by decide) (by decide +kernel) (j3nfa_V F4 X1 X2 (xC_q (by decide) hC q4' (by decide)) g4' _ _) (fun F5 F6 y hR2 p1' p2' p3' => ?_)
  obtain ⟨s1, s2⟩ := hR2
  rw [j84, j83] at s2
  have s1' : qC [] F4 F5 := qC_dst s1 p1'
  have q5 : qC W3n F F5 := qq_trans q4' (qq_up s1' (by decide))
  have g5 : gC 50 (nfS T) (nbS T) F5 cur := j3ngq g4' s1' (by decide)
  have hv5 := hV_e (hV_e hv3 (nz_fa (g4 45 (by decide) (by decide)))) (qq_a s1' (by decide) (by decide))
  have m82 : (sy_i F5 82).toInt.toNat = n := by rw [nz_fi (p2' 82 (by decide) (by decide)), e82', k82]; exact hn.symm
  have m82b : 0 ≤ (sy_i F5 82).toInt ∧ (sy_i F5 82).toInt ≤ 6 := by rw [nz_fi (p2' 82 (by decide) (by decide)), e82', k82]; omega
  have m83 : sy_i F5 83 = c := (eI (p2' 83 (by decide) (by decide))).trans j83
  have m84 : (sy_i F5 84).toInt = fsS cur (cur 0 n) c.toInt (nbS T) := by rw [zz_i p3']; exact s2
  have hfs := fs_in cur (cur 0 n) c.toInt (nbS T)
  have r4 : (sy_ai F5 56).getD n 0 = cur 4 n := g5.1 4 n (by decide) (vF (by decide) hnf)
  have ek5 : (sy_i F5 21).toInt = T.2.2.2.1 := by rw [qq_i q5 (by decide) (by decide)]; exact ek
  refine j3nsk_34 (by decide) F5 X1 X2 q5.1 m82b (by omega) ?_ ?_ ?_
  · intro c0 c1 F7 hb7 g7 a56
    rw [m82, jm_upd_at, if_pos rfl, r4, ek5] at c1
    rw [m82, r4] at a56
    refine ⟨F7, rfl, rfl, qq_on q5 hb7 g7 (by decide), ?_, hV_e hv5 (nz_fa (g7 45 (by decide) (by decide)))⟩
    unfold lieS
    rw [if_neg (by omega), if_neg (by omega)]
    exact gC_up g5 (by decide) rfl a56 (fun j h1 h2 h3 => g7 j (by omega) (by intro z; simp at z; exact h3 z))
  · intro c0 c1 F7 hb7 g7 a54 a56
    rw [m82, jm_upd_at, if_pos rfl, r4, ek5] at c1
    rw [m82] at a54
    rw [m82, r4] at a56
    refine ⟨F7, rfl, rfl, qq_on q5 hb7 g7 (by decide), ?_, hV_e hv5 (nz_fa (g7 45 (by decide) (by decide)))⟩
    unfold lieS
    rw [if_neg (by omega), if_pos (by omega)]
    exact gC_up2 g5 (by decide) (by decide) (by decide) rfl rfl a56 a54 (fun j h1 h2 h3 h4 => g7 j (by omega) (by intro z; simp at z; rcases z with z | z; exact h4 z; exact h3 z))
  · intro c0 F7 hb7 g7 a54 a55 a61
    refine ⟨F7, rfl, rfl, qq_on q5 hb7 g7 (by decide), ?_, hV_e hv5 (nz_fa (g7 45 (by decide) (by decide)))⟩
    obtain ⟨b, hb'⟩ : ∃ b : Nat, fsS cur (cur 0 n) c.toInt (nbS T) = b := ⟨(fsS cur (cur 0 n) c.toInt (nbS T)).toNat, by omega⟩
    have m84n : (sy_i F5 84).toInt.toNat = b := by omega
    have r8 : (sy_ai F5 61).getD b 0 = cur 8 b := g5.1 8 b (by decide) (vB (Or.inr rfl) (by omega))
    have e84 : sy_i F5 84 = Int32.ofInt (b : Int) := (ofi (m84.trans hb')).symm
    rw [m82] at a54 a55
    rw [m84n, r8, m83] at a61
    rw [e84] at a55
    unfold lieS
    rw [hb', if_pos (by omega)]
    unfold sellS
    rw [Int.toNat_natCast]
    exact gC_up3 g5 (by decide) (by decide) (by decide) (by decide) (by decide) (by decide) rfl rfl rfl a54 a55 a61 (fun j h1 h2 h3 h4 h5 => g7 j (by omega) (by intro z; simp at z; rcases z with z | z | z; exact h3 z; exact h4 z; exact h5 z))
/-- what falls is caught, or lies -/
theorem j3nlf_V {cur : gS} (hC : xC 18 T F) (hG : gC 50 (nfS T) (nbS T) F cur) (hO : okS T cur) (hH : hV T g F) {f : Int32} (hf : 0 ≤ f.toInt ∧ f.toInt < nfS T) (hF : fV T cur f.toInt.toNat F) : jm_T Ls xs 6 jm_M5 [.ref 41, .ref 20, .ref 46, .int f] (sy_dh F X1 X2 (iv_H 3)) 0 0 (pV 3 X1 X2 (fun F' => qC W3n F F' ∧ gC 50 (nfS T) (nbS T) F' (fallS T cur f.toInt.toNat (Int32.ofInt (worthT T f.toInt.toNat (cur 1 f.toInt.toNat) (cur 4 f.toInt.toNat) (g 9 0) (lfS T g))) (bncT T f.toInt.toNat (cur 1 f.toInt.toNat) (g 9 0) (lfS T g))) ∧ hV T g F')) := by
  have l7 : nfS T ≤ 7 := hC.2.2.1.1.1
  have l4 : nbS T ≤ 4 := hC.2.2.1.1.2.1
  refine C_T (by decide) [f] [.inl (.ref 41), .inl (.ref 20), .inl (.ref 46), .inr (.inl 82)] jm_ok5 (by decide) rfl (fun F0 k0 ki => ?_)
  have i82 : sy_i F0 82 = f := ki 0
  obtain ⟨n, hn⟩ : ∃ n : Nat, n = f.toInt.toNat := ⟨_, rfl⟩
  have hnf : n < nfS T := by omega
  rw [← hn] at hF ⊢
  refine j3nlf_0 (by decide) F0 X1 X2 (hd_iveq0 hC.1 k0) ?_
  intro F1 hb gg e82 j82
  have q1 : qC [] F F1 := qq_src (qq_mk hb gg (by decide)) k0
  rw [i82] at j82 e82
  have hv1 := hV_e hH (qq_a q1 (by decide) (by decide))
  have fv := fV_e hF (qq_a q1 (by decide) (by decide))
  have c1 := xC_q (by decide) hC q1 (by decide)
  have g1 : gC 50 (nfS T) (nbS T) F1 cur := j3ngq hG q1 (by decide)
  have hw := wo_of c1.2.2.1 hv1 fv
  refine hd_calI (R := fun x F' => qC [46] F1 F' ∧ x.toInt = lwT T 3 (v45 F1)) (nh := 82) (nv := 83) (s := 3) (s1 := 3) (d1 := 4) (M1 := jm_M21) (As := [.inl (.ref 38), .inl (.ref 20), .inl (.int 3)]) (rest := []) jm_ok5 rfl rfl (by decide) (by decide +kernel) (j3tl_V F1 X1 X2 c1 (by decide) (by decide)) (fun F3 F' x hR p1 p2 p3 => ?_)
  obtain ⟨r1, r2⟩ := hR
  rw [hw] at r2
  obtain ⟨c, hc⟩ : ∃ c : Int32, c = Int32.ofInt (worthT T n (cur 1 n) (cur 4 n) (g 9 0) (lfS T g)) := ⟨_, rfl⟩
  rw [← hc]
  have r1' : qC [46] F1 F3 := qC_dst r1 p1
  have q3 : qC W3n F F3 := qq_trans (qq_up q1 (by decide)) (qq_up r1' (by decide))
  have i83 : sy_i F3 83 = c := by rw [zz_i p3, hc]; exact (ofi r2).symm
  have k82 : sy_i F3 82 = f := (eI (p2 82 (by decide) (by decide))).trans j82
  have g3 : gC 50 (nfS T) (nbS T) F3 cur := j3ngq g1 r1' (by decide)
  have hv3 := hV_e hv1 (qq_a r1' (by decide) (by decide))
  have fv3 := fV_e fv (qq_a r1' (by decide) (by decide))
  have c3 := xC_q (by decide) hC q3 (by decide)
  refine j3nlf_9 (by decide) F3 X1 X2 q3.1 (by rw [k82]; omega) ?_
  intro F4 hb4 g4 e82' j82' e83' j83' e84' j84'
  have q34 : qC [] F3 F4 := qq_mk hb4 g4 (by decide)
  have q4' : qC W3n F F4 := qq_on q3 hb4 g4 (by decide)
  have hxf := bF_of hC.2.2.1 hnf
  have e84 : (sy_i F4 84).toInt = (tF T n).1 := by
    rw [e84', k82, ← hn]
    exact (c3.2.1.1.2 n (tF T n) (gD hnf)).1
  have j83 : sy_i F4 83 = c := j83'.trans i83
  have g4' : gC 50 (nfS T) (nbS T) F4 cur := j3ngq g3 q34 (by decide)
  refine hd_calI (R := fun x F' => qC [] F4 F' ∧ x.toInt = (nrS T cur (sy_i F4 84).toInt (sy_i F4 83).toInt (nbS T)).1) (nh := 82) (nv := 84) (s := 3) (s1 := 3) (d1 := 2) (M1 := jm_M13) (As := [.inl (.ref 46), .inl (.ref 20), .inr (.inl 84), .inr (.inl 83)]) (rest := []) jm_ok5 rfl rfl (by decide) (by decide +kernel) (j3nnr_V F4 X1 X2 (xC_q (by decide) hC q4' (by decide)) g4' hO (by rw [e84]; exact hxf.1)) (fun F5 F6 y hR2 p1' p2' p3' => ?_)
  obtain ⟨s1, s2⟩ := hR2
  rw [e84, j83] at s2
  have s1' : qC [] F4 F5 := qC_dst s1 p1'
  have q5 : qC W3n F F5 := qq_trans q4' (qq_up s1' (by decide))
  have g5 : gC 50 (nfS T) (nbS T) F5 cur := j3ngq g4' s1' (by decide)
  have a45e : sy_ai F5 45 = sy_ai F3 45 := (qq_a s1' (by decide) (by decide)).trans (qq_a q34 (by decide) (by decide))
  have hv5 := hV_e hv3 a45e
  have fv5 := fV_e fv3 a45e
  have n82 : sy_i F5 82 = f := (eI (p2' 82 (by decide) (by decide))).trans (j82'.trans k82)
  have m82 : (sy_i F5 82).toInt.toNat = n := by rw [n82]; exact hn.symm
  have m82b : 0 ≤ (sy_i F5 82).toInt ∧ (sy_i F5 82).toInt ≤ 6 := by rw [n82]; omega
  have m83 : sy_i F5 83 = c := (eI (p2' 83 (by decide) (by decide))).trans j83
  have m84 : (sy_i F5 84).toInt = (nrS T cur (tF T n).1 c.toInt (nbS T)).1 := by rw [zz_i p3']; exact s2
  have hnr := nr_in T cur (tF T n).1 c.toInt (nbS T)
  have hn1 : (nrS T cur (tF T n).1 c.toInt (nbS T)).1 = -2 ∨ (0 ≤ (nrS T cur (tF T n).1 c.toInt (nbS T)).1 ∧ (nrS T cur (tF T n).1 c.toInt (nbS T)).1 < nbS T) := by
    rcases hnr with h | h
    · left
      rw [h]
    · exact Or.inr ⟨h.1, h.2.1⟩
  have b84 : -2 ≤ (sy_i F5 84).toInt ∧ (sy_i F5 84).toInt ≤ 3 := by
    clear hnr
    omega
  refine j3nlf_24 (by decide) F5 X1 X2 q5.1 m82b b84 ?_ ?_
  · intro c0 F7 hb7 g7 a54 e82a j82a
    rw [m82] at a54
    have q7 : qC W3n F F7 := qq_on q5 hb7 g7 (by decide)
    have c7 := xC_q (by decide) hC q7 (by decide)
    have g7' : gC 50 (nfS T) (nbS T) F7 (upS cur 2 n 1) := gC_up g5 (by decide) rfl a54 (fun j h1 h2 h3 => g7 j (by omega) (by intro z; simp at z; exact h3 z))
    have a45f : sy_ai F7 45 = sy_ai F5 45 := nz_fa (g7 45 (by decide) (by decide))
    have hv7 := hV_e hv5 a45f
    have fv7 := fV_e fv5 a45f
    have l82 : sy_i F7 82 = f := j82a.trans n82
    have hbn := bn_of c7.2.2.1 hv7 fv7
    refine hd_calI (R := fun x F' => qC [46] F7 F' ∧ x = Int32.ofInt (hdz 0 9 (Int32.ofInt (tF T (sy_i F7 82).toInt.toNat).1 + Int32.ofInt (lwT T 4 (v45 F7))).toInt)) (nh := 82) (nv := 83) (s := 3) (s1 := 3) (d1 := 5) (M1 := jm_M20) (As := [.inl (.ref 38), .inl (.ref 20), .inr (.inl 82)]) (rest := [.inr (.inl 82), .inl (.ref 53)]) jm_ok5 rfl rfl (by decide) (by decide +kernel) (j3bo_V F7 X1 X2 c7 (by rw [l82]; exact hf)) (fun F8 F9 z hR3 u1 u2 u3 => ?_)
    obtain ⟨v1, v2⟩ := hR3
    rw [l82, ← hn, hbn] at v2
    have v1' : qC [46] F7 F8 := qC_dst v1 u1
    have q8 : qC W3n F F8 := qq_trans q7 (qq_up v1' (by decide))
    have l82b : (sy_i F8 82).toInt.toNat = n := by rw [nz_fi (u2 82 (by decide) (by decide)), l82]; exact hn.symm
    have l83 : sy_i F8 83 = z := zz_i u3
    refine j3nlf_64 (by decide) F8 X1 X2 q8.1 (by rw [nz_fi (u2 82 (by decide) (by decide)), l82]; omega) ?_
    intro F10 hb10 g10 a59
    rw [l82b, l83, v2] at a59
    refine ⟨F10, rfl, rfl, qq_on q8 hb10 g10 (by decide), ?_, hV_e (hV_e hv7 (qq_a v1' (by decide) (by decide))) (nz_fa (g10 45 (by decide) (by decide)))⟩
    unfold fallS
    rw [if_neg (by omega)]
    exact gC_up (j3ngq g7' v1' (by decide)) (by decide) rfl a59 (fun j h1 h2 h3 => g10 j (by omega) (by intro z; simp at z; exact h3 z))
  · intro c0 F7 hb7 g7 a54 a55 a61
    refine ⟨F7, rfl, rfl, qq_on q5 hb7 g7 (by decide), ?_, hV_e hv5 (nz_fa (g7 45 (by decide) (by decide)))⟩
    obtain ⟨b, hb'⟩ : ∃ b : Nat, (nrS T cur (tF T n).1 c.toInt (nbS T)).1 = b := ⟨(nrS T cur (tF T n).1 c.toInt (nbS T)).1.toNat, by omega⟩
    have m84n : (sy_i F5 84).toInt.toNat = b := by omega
    have r8 : (sy_ai F5 61).getD b 0 = cur 8 b := g5.1 8 b (by decide) (vB (Or.inr rfl) (by omega))
    have e84x : sy_i F5 84 = Int32.ofInt (b : Int) := (ofi (m84.trans hb')).symm
    rw [m82] at a54 a55
    rw [m84n, r8, m83] at a61
    rw [e84x] at a55
    unfold fallS
    rw [hb', if_pos (by omega)]
    unfold sellS
    rw [Int.toNat_natCast]
    exact gC_up3 g5 (by decide) (by decide) (by decide) (by decide) (by decide) (by decide) rfl rfl rfl a54 a55 a61 (fun j h1 h2 h3 h4 h5 => g7 j (by omega) (by intro z; simp at z; rcases z with z | z | z; exact h3 z; exact h4 z; exact h5 z))
end H3n
end
section
/-! ===== the class: an hour, whole (shape 3, n) ===== -/
section P3n
variable {Ls : Nat} {xs : Nat → Int32} {T : tX} {g : gS} {sd : Int32} (F : Nat → sy_d) (X1 X2 : List jm_c)
theorem j3nph_61h (hC : xC 18 T F) (hO : okS T g) : ∀ (m : Nat) (F1 : Nat → sy_d) (n : Nat), n + m = nfS T → qC W3n F F1 → sy_i F1 82 = sd → (sy_i F1 83).toInt = n → gC 50 (nfS T) (nbS T) F1 (p2S T sd g n) → hV T g F1 →
    hd_W Ls xs 7 jm_M3 (pV 3 X1 X2 (fun F' => qC W3n F F' ∧ gC 50 (nfS T) (nbS T) F' (hourS T sd g))) (61, sy_dL F1 [some (.inl (.ref 41)), some (.inl (.ref 20)), some (.inl (.ref 46)), some (.inr (.inl 82)), some (.inr (.inl 83))], sy_dS F1 [], sy_dh F1 X1 X2 (iv_H 3), 0, 0) := by
  have l7 : nfS T ≤ 7 := hC.2.2.1.1.1
  have enf : (sy_i F 18).toInt = (nfS T : Int) := hC.2.1.1.1
  intro m
  induction m with
  | zero =>
    intro F1 n hm hq i82 e83 hG hH
    have en : n = nfS T := by omega
    subst en
    have en1 : (sy_i F1 18).toInt = (nfS T : Int) := by rw [qq_i hq (by decide) (by decide)]; exact enf
    refine j3nph_61 (by decide) F1 X1 X2 hq.1 (by omega) ?_ ?_ ?_
    · intro c0 F2 hb gg e50 i50 a58
      refine ⟨F2, rfl, rfl, qq_on hq hb gg (by decide), ?_⟩
      have h9 : sy_i F1 50 = g 9 0 := (hG.2 0 (by decide)).trans (p2_k _ _ _ (by omega))
      refine ⟨fun a i ha hv => ?_, fun i hi => ?_⟩
      · unfold hourS
        rw [upS_o (Or.inl (by omega))]
        unfold zsS
        by_cases q : a = 6
        · subst q
          rw [if_pos rfl]
          have hi : i < 7 := by
            rcases hv with h | h | h <;> omega
          show (sy_ai F2 58).getD i 0 = 0
          rw [a58, jm_upd_at, jm_upd_at, jm_upd_at, jm_upd_at, jm_upd_at, jm_upd_at, jm_upd_at]
          match i, hi with
          | 0, _ => rfl
          | 1, _ => rfl
          | 2, _ => rfl
          | 3, _ => rfl
          | 4, _ => rfl
          | 5, _ => rfl
          | 6, _ => rfl
        · have hc := ca_in a
          have hne : 50 + ca a ≠ 58 := fun z => q (ca_inj a ha 6 (by decide) (show ca a = 8 by omega))
          rw [if_neg q, nz_fa (gg (50 + ca a) (by omega) (by intro z; simp at z; omega))]
          exact hG.1 a i ha hv
      · unfold hourS
        by_cases q : i = 0
        · subst q
          rw [upS_s]
          show sy_i F2 50 = _
          rw [i50, h9]
        · rw [upS_o (Or.inr q)]
          unfold zsS
          rw [if_neg (by decide), eI (gg (50 + i) (by omega) (by intro z; simp at z; omega))]
          exact hG.2 i hi
    · intros
      omega
    · intros
      omega
  | succ m ih =>
    intro F1 n hm hq i82 e83 hG hH
    have hn : n < nfS T := by omega
    have enn : (sy_i F1 83).toInt.toNat = n := by omega
    have en1 : (sy_i F1 18).toInt = (nfS T : Int) := by rw [qq_i hq (by decide) (by decide)]; exact enf
    have r2 : (sy_ai F1 54).getD (sy_i F1 83).toInt.toNat 0 = p2S T sd g n 2 n := by
      rw [enn]
      exact hG.1 2 n (by decide) (vF (by decide) hn)
    have hp2 : p2S T sd g (n + 1) = stS T sd g (p2S T sd g n) n := rfl
    have hs : ∀ a, a < 7 → p2S T sd g n a n = p1S T g (nfS T) a n := fun a ha => p2_s n a n (Nat.le_refl _) ha
    have h1 := p1_h (T := T) (g := g) (nfS T) n
    have how : (p2S T sd g n 2 n).toInt = 0 ↔ (g 2 n).toInt = 0 := by
      rw [hs 2 (by decide)]
      exact h1.1
    refine j3nph_61 (by decide) F1 X1 X2 hq.1 (by omega) ?_ ?_ ?_
    · intros
      omega
    · intro c0 c1 F2 hb gg e82 j82 e83' j83
      rw [r2] at c1
      have e : p2S T sd g (n + 1) = p2S T sd g n := by
        rw [hp2]
        unfold stS
        rw [if_neg (fun z => c1 (how.mpr z))]
      refine ih F2 (n + 1) (by omega) (qq_on hq hb gg (by decide)) (j82.trans i82) (by omega) ?_ (hV_e hH (nz_fa (gg 45 (by decide) (by decide))))
      rw [e]
      exact gC_eq hG (fun j h1 h2 => gg j (by omega) (by simp))
    · intro c0 c1 F2 hb gg a45 e82 j82 e83' j83 e84 j84
      rw [r2] at c1
      have h0 := how.mp c1
      have q2 : qC W3n F F2 := qq_on hq hb gg (by decide)
      rw [enn] at a45
      have hx := xX_f (xC_q (by decide) hC hq (by decide)) hn
      obtain ⟨fv, hvf⟩ := fV_set (T := T) (g := p2S T sd g n) (f := n) a45 (hG.1 1 n (by decide) (vF (by decide) hn)) hx.2.1 hx.1 (hG.1 6 n (by decide) (vF (by decide) hn)) (hG.1 5 n (by decide) (vF (by decide) hn)) (hG.1 4 n (by decide) (vF (by decide) hn))
      have hv2 := hvf hH
      have g2 : gC 50 (nfS T) (nbS T) F2 (p2S T sd g n) := gC_eq hG (fun j h1 h2 => gg j (by omega) (by intro z; simp at z; omega))
      have c2 := xC_q (by decide) hC q2 (by decide)
      have f1 : p2S T sd g n 1 n = g 1 n := (hs 1 (by decide)).trans (p1_k _ _ _ (by omega))
      have f5 : p2S T sd g n 5 n = g 5 n := p2_k _ _ _ (by omega)
      have f6 : p2S T sd g n 6 n = g 6 n := p2_k _ _ _ (by omega)
      have f4 : p2S T sd g n 4 n = g 4 n := (hs 4 (by decide)).trans (h1.2.1 h0).2
      have hfl : lwT T 2 (v45 F2) = flS T g n := by
        rw [fl_of c2.2.2.1 hv2 fv, f1, f6, f5]
        rfl
      have h9 : sy_i F1 50 = g 9 0 := (hG.2 0 (by decide)).trans (p2_k _ _ _ (by omega))
      have i84 : sy_i F2 84 = lotS sd ((16 : Int32) * g 9 0 + Int32.ofInt n) := by
        rw [j84, i82, h9, ← ofi e83]
        rfl
      refine hd_calI (R := fun x F' => qC [46] F2 F' ∧ x.toInt = lwT T 2 (v45 F2)) (nh := 82) (nv := 85) (s := 3) (s1 := 3) (d1 := 4) (M1 := jm_M21) (As := [.inl (.ref 38), .inl (.ref 20), .inl (.int 2)]) (rest := [.inr (.inl 84)]) jm_ok3 rfl rfl (by decide) (by decide +kernel) (j3tl_V F2 X1 X2 c2 (by decide) (by decide)) (fun F3 F' x hR p1 p2 p3 => ?_)
      obtain ⟨r1, rx⟩ := hR
      rw [hfl] at rx
      have r1' : qC [46] F2 F3 := qC_dst r1 p1
      have q3 : qC W3n F F3 := qq_trans q2 (qq_up r1' (by decide))
      have g3 : gC 50 (nfS T) (nbS T) F3 (p2S T sd g n) := j3ngq g2 r1' (by decide)
      have a45e : sy_ai F3 45 = sy_ai F2 45 := qq_a r1' (by decide) (by decide)
      have hv3 := hV_e hv2 a45e
      have fv3 := fV_e fv a45e
      have c3 := xC_q (by decide) hC q3 (by decide)
      have k82 : sy_i F3 82 = sd := (eI (p2 82 (by decide) (by decide))).trans (j82.trans i82)
      have k83 : (sy_i F3 83).toInt = n := by rw [nz_fi (p2 83 (by decide) (by decide)), e83']; exact e83
      have k84 : sy_i F3 84 = lotS sd ((16 : Int32) * g 9 0 + Int32.ofInt n) := (eI (p2 84 (by decide) (by decide))).trans i84
      have k85 : (sy_i F3 85).toInt = flS T g n := by rw [zz_i p3]; exact rx
      refine j3nph_114 (by decide) F3 X1 X2 q3.1 (by omega) ?_ ?_
      · intro d0 F4 hb4 g4 e82a j82a e83a j83a e84a j84a
        rw [k84, k85] at d0
        have q34 : qC [] F3 F4 := qq_mk hb4 g4 (by decide)
        have q4' : qC W3n F F4 := qq_on q3 hb4 g4 (by decide)
        have g4' : gC 50 (nfS T) (nbS T) F4 (p2S T sd g n) := j3ngq g3 q34 (by decide)
        have a45f : sy_ai F4 45 = sy_ai F3 45 := qq_a q34 (by decide) (by decide)
        have hv4 := hV_e hv3 a45f
        have fv4 := fV_e fv3 a45f
        have c4 := xC_q (by decide) hC q4' (by decide)
        have l84 : sy_i F4 84 = g 1 n := by
          rw [j84a, show (sy_i F3 83).toInt.toNat = n by omega]
          exact (g3.1 1 n (by decide) (vF (by decide) hn)).trans f1
        have hrp : lwT T 1 (v45 F4) = rpS T g n := by
          rw [rp_of c4.2.2.1 hv4 fv4, f1, f6, f5]
          rfl
        have e : p2S T sd g (n + 1) = upS (p2S T sd g n) 1 n (Int32.ofInt (hdz 0 99 (g 1 n + Int32.ofInt (rpS T g n)).toInt)) := by
          rw [hp2]
          unfold stS
          rw [if_pos h0, if_neg (Int.not_lt.mpr d0)]
        refine hd_calI (R := fun x F' => qC [46] F4 F' ∧ x.toInt = lwT T 1 (v45 F4)) (nh := 82) (nv := 85) (s := 3) (s1 := 3) (d1 := 4) (M1 := jm_M21) (As := [.inl (.ref 38), .inl (.ref 20), .inl (.int 1)]) (rest := [.inr (.inl 84), .inr (.inl 83), .inl (.ref 47)]) jm_ok3 rfl rfl (by decide) (by decide +kernel) (j3tl_V F4 X1 X2 c4 (by decide) (by decide)) (fun F5 F6 y hR2 u1 u2 u3 => ?_)
        obtain ⟨s1, s2⟩ := hR2
        rw [hrp] at s2
        have s1' : qC [46] F4 F5 := qC_dst s1 u1
        have q5 : qC W3n F F5 := qq_trans q4' (qq_up s1' (by decide))
        have g5 : gC 50 (nfS T) (nbS T) F5 (p2S T sd g n) := j3ngq g4' s1' (by decide)
        have hv5 := hV_e hv4 (qq_a s1' (by decide) (by decide))
        have m82 : sy_i F5 82 = sd := (eI (u2 82 (by decide) (by decide))).trans (j82a.trans k82)
        have m83 : (sy_i F5 83).toInt = n := by rw [nz_fi (u2 83 (by decide) (by decide)), e83a]; exact k83
        have m83n : (sy_i F5 83).toInt.toNat = n := by omega
        have m84 : sy_i F5 84 = g 1 n := (eI (u2 84 (by decide) (by decide))).trans l84
        have m85 : sy_i F5 85 = Int32.ofInt (rpS T g n) := by rw [zz_i u3]; exact (ofi s2).symm
        have fin : ∀ (v : Int32) (F7 : Nat → sy_d), iv_in F7 iv_B0 → (∀ j, j < 82 → j ∉ ([53] : List Nat) → F7 j = F5 j) → sy_ai F7 53 = jm_upd (sy_ai F5 53) (sy_i F5 83).toInt.toNat v → sy_i F7 82 = sy_i F5 82 → (sy_i F7 83).toInt = (sy_i F5 83).toInt + 1 → v = Int32.ofInt (hdz 0 99 (g 1 n + Int32.ofInt (rpS T g n)).toInt) → hd_W Ls xs 7 jm_M3 (pV 3 X1 X2 (fun F' => qC W3n F F' ∧ gC 50 (nfS T) (nbS T) F' (hourS T sd g))) (61, sy_dL F7 [some (.inl (.ref 41)), some (.inl (.ref 20)), some (.inl (.ref 46)), some (.inr (.inl 82)), some (.inr (.inl 83))], sy_dS F7 [], sy_dh F7 X1 X2 (iv_H 3), 0, 0) := fun v F7 hb7 g7 a53 x82 x83 hv => by
          refine ih F7 (n + 1) (by omega) (qq_on q5 hb7 g7 (by decide)) (x82.trans m82) (by omega) ?_ (hV_e hv5 (nz_fa (g7 45 (by decide) (by decide))))
          rw [e, ← hv]
          exact gC_up g5 (by decide) m83n a53 (fun j h1 h2 h3 => g7 j (by omega) (by intro z; simp at z; exact h3 z))
        refine j3nph_150 (by decide) F5 X1 X2 q5.1 (by omega) ?_ ?_ ?_
        · intro y0 y1 F7 hb7 g7 a53 e82b j82b e83b j83b
          rw [m84, m85] at y0 y1 a53
          refine fin _ F7 hb7 g7 a53 j82b e83b ?_
          have hz : hdz 0 99 (g 1 n + Int32.ofInt (rpS T g n)).toInt = (g 1 n + Int32.ofInt (rpS T g n)).toInt := by
            unfold hdz
            rw [if_neg (by omega), if_neg (by omega)]
          rw [hz, Int32.ofInt_toInt]
        · intro y0 y1 F7 hb7 g7 a53 e82b j82b e83b j83b
          rw [m84, m85] at y0 y1
          refine fin _ F7 hb7 g7 a53 j82b e83b ?_
          have hz : hdz 0 99 (g 1 n + Int32.ofInt (rpS T g n)).toInt = 0 := by
            unfold hdz
            split
            · rfl
            · rw [if_neg (by omega)]
              omega
          rw [hz]
          rfl
        · intro y0 F7 hb7 g7 a53 e82b j82b e83b j83b
          rw [m84, m85] at y0
          refine fin _ F7 hb7 g7 a53 j82b e83b ?_
          have hz : hdz 0 99 (g 1 n + Int32.ofInt (rpS T g n)).toInt = 99 := by
            unfold hdz
            rw [if_neg (by omega)]
            split
            · rfl
            · omega
          rw [hz]
          rfl
      · intro d0 F4 hb4 g4 e82a j82a e83a j83a
        rw [k84, k85] at d0
        have q34 : qC [] F3 F4 := qq_mk hb4 g4 (by decide)
        have q4' : qC W3n F F4 := qq_on q3 hb4 g4 (by decide)
        have g4' : gC 50 (nfS T) (nbS T) F4 (p2S T sd g n) := j3ngq g3 q34 (by decide)
        have a45f : sy_ai F4 45 = sy_ai F3 45 := qq_a q34 (by decide) (by decide)
        have hv4 := hV_e hv3 a45f
        have fv4 := fV_e fv3 a45f
        have c4 := xC_q (by decide) hC q4' (by decide)
        have l83 : (sy_i F4 83).toInt = n := by omega
        have l83n : (sy_i F4 83).toInt.toNat = n := by omega
        have e : p2S T sd g (n + 1) = fallS T (p2S T sd g n) n (Int32.ofInt (woS T g n)) (bnS T g n) := by
          rw [hp2]
          unfold stS
          rw [if_pos h0, if_pos d0]
        refine hd_calV (R := fun F' => qC W3n F4 F' ∧ gC 50 (nfS T) (nbS T) F' (fallS T (p2S T sd g n) (sy_i F4 83).toInt.toNat (Int32.ofInt (worthT T (sy_i F4 83).toInt.toNat (p2S T sd g n 1 (sy_i F4 83).toInt.toNat) (p2S T sd g n 4 (sy_i F4 83).toInt.toNat) (g 9 0) (lfS T g))) (bncT T (sy_i F4 83).toInt.toNat (p2S T sd g n 1 (sy_i F4 83).toInt.toNat) (g 9 0) (lfS T g))) ∧ hV T g F') (nh := 82) (nv := 84) (s := 3) (s1 := 3) (d1 := 6) (M1 := jm_M5) (As := [.inl (.ref 41), .inl (.ref 20), .inl (.ref 46), .inr (.inl 83)]) (rest := []) jm_ok3 rfl rfl (by decide) (by decide +kernel) (j3nlf_V F4 X1 X2 c4 g4' (okS_p2 hO n) hv4 (by omega) (by rw [l83n]; exact fv4)) (fun F5 F6 hR2 u1 u2 => ?_)
        obtain ⟨s1, s2, s3⟩ := hR2
        rw [l83n, f1, f4] at s2
        have s1' : qC W3n F4 F5 := qC_dst s1 u1
        have q5 : qC W3n F F5 := qq_trans q4' s1'
        refine j3nph_125 (by decide) F5 X1 X2 q5.1 (by rw [nz_fi (u2 83 (by decide) (by decide))]; omega) ?_
        intro F7 hb7 g7 e82b j82b e83b j83b
        refine ih F7 (n + 1) (by omega) (qq_on q5 hb7 g7 (by decide)) (j82b.trans ((eI (u2 82 (by decide) (by decide))).trans (j82a.trans k82))) (by rw [e83b, nz_fi (u2 83 (by decide) (by decide))]; omega) ?_ (hV_e s3 ((nz_fa (g7 45 (by decide) (by decide))).trans (nz_fa (u1 45 (by decide)))))
        rw [e]
        exact gC_eq s2 (fun j h1 h2 => (g7 j (by omega) (by simp)).trans (u1 j (by omega)))
theorem j3nph_24h (hC : xC 18 T F) (hO : okS T g) : ∀ (m : Nat) (F1 : Nat → sy_d) (n : Nat), n + m = nfS T → qC W3n F F1 → sy_i F1 82 = sd → (sy_i F1 83).toInt = n → gC 50 (nfS T) (nbS T) F1 (p1S T g n) → hV T g F1 →
    hd_W Ls xs 7 jm_M3 (pV 3 X1 X2 (fun F' => qC W3n F F' ∧ gC 50 (nfS T) (nbS T) F' (hourS T sd g))) (24, sy_dL F1 [some (.inl (.ref 41)), some (.inl (.ref 20)), some (.inl (.ref 46)), some (.inr (.inl 82)), some (.inr (.inl 83))], sy_dS F1 [], sy_dh F1 X1 X2 (iv_H 3), 0, 0) := by
  have l7 : nfS T ≤ 7 := hC.2.2.1.1.1
  have enf : (sy_i F 18).toInt = (nfS T : Int) := hC.2.1.1.1
  intro m
  induction m with
  | zero =>
    intro F1 n hm hq i82 e83 hG hH
    have en : n = nfS T := by omega
    subst en
    have en1 : (sy_i F1 18).toInt = (nfS T : Int) := by rw [qq_i hq (by decide) (by decide)]; exact enf
    refine j3nph_24 (by decide) F1 X1 X2 hq.1 (by omega) ?_ ?_ ?_
    · intro c0 F2 hb gg e82 j82 e83' j83
      exact j3nph_61h F X1 X2 hC hO (nfS T) F2 0 (by omega) (qq_on hq hb gg (by decide)) (j82.trans i82) e83' (gC_eq hG (fun j h1 h2 => gg j (by omega) (by simp))) (hV_e hH (nz_fa (gg 45 (by decide) (by decide))))
    · intros
      omega
    · intros
      omega
  | succ m ih =>
    intro F1 n hm hq i82 e83 hG hH
    have hn : n < nfS T := by omega
    have enn : (sy_i F1 83).toInt.toNat = n := by omega
    have en1 : (sy_i F1 18).toInt = (nfS T : Int) := by rw [qq_i hq (by decide) (by decide)]; exact enf
    have r2 : (sy_ai F1 54).getD (sy_i F1 83).toInt.toNat 0 = p1S T g n 2 n := by
      rw [enn]
      exact hG.1 2 n (by decide) (vF (by decide) hn)
    refine j3nph_24 (by decide) F1 X1 X2 hq.1 (by omega) ?_ ?_ ?_
    · intros
      omega
    · intro c0 c1 F2 hb gg e82 j82 e83' j83
      rw [r2] at c1
      have hp : p1S T g (n + 1) = p1S T g n := by
        show (if _ then _ else _) = _
        rw [if_neg c1]
      refine ih F2 (n + 1) (by omega) (qq_on hq hb gg (by decide)) (j82.trans i82) (by omega) ?_ (hV_e hH (nz_fa (gg 45 (by decide) (by decide))))
      rw [hp]
      exact gC_eq hG (fun j h1 h2 => gg j (by omega) (by simp))
    · intro c0 c1 F2 hb gg e82 j82 e83' j83
      rw [r2] at c1
      have hp : p1S T g (n + 1) = lieS T (p1S T g n) n (Int32.ofInt (woS T g n)) := by
        show (if _ then _ else _) = _
        rw [if_pos c1]
      have q12 : qC [] F1 F2 := qq_mk hb gg (by decide)
      have q2 : qC W3n F F2 := qq_on hq hb gg (by decide)
      have c2 := xC_q (by decide) hC q2 (by decide)
      have g2 : gC 50 (nfS T) (nbS T) F2 (p1S T g n) := j3ngq hG q12 (by decide)
      have hv2 := hV_e hH (qq_a q12 (by decide) (by decide))
      have l83n : (sy_i F2 83).toInt.toNat = n := by omega
      have f1 : p1S T g n 1 n = g 1 n := p1_s n 1 n (Nat.le_refl _) (by decide)
      have f4 : p1S T g n 4 n = g 4 n := p1_s n 4 n (Nat.le_refl _) (by decide)
      refine hd_calV (R := fun F' => qC W3n F2 F' ∧ gC 50 (nfS T) (nbS T) F' (lieS T (p1S T g n) (sy_i F2 83).toInt.toNat (Int32.ofInt (worthT T (sy_i F2 83).toInt.toNat (p1S T g n 1 (sy_i F2 83).toInt.toNat) (p1S T g n 4 (sy_i F2 83).toInt.toNat) (g 9 0) (lfS T g)))) ∧ hV T g F') (nh := 82) (nv := 84) (s := 3) (s1 := 3) (d1 := 5) (M1 := jm_M4) (As := [.inl (.ref 41), .inl (.ref 20), .inl (.ref 46), .inr (.inl 83)]) (rest := []) jm_ok3 rfl rfl (by decide) (by decide +kernel) (j3nsk_V F2 X1 X2 c2 g2 hv2 (by omega)) (fun F3 F' hR p1 p2 => ?_)
      obtain ⟨s1, s2, s3⟩ := hR
      rw [l83n, f1, f4] at s2
      have q3 : qC W3n F F3 := qq_trans q2 (qC_dst s1 p1)
      refine j3nph_52 (by decide) F3 X1 X2 q3.1 (by rw [nz_fi (p2 83 (by decide) (by decide))]; omega) ?_
      intro F4 hb4 g4 e82a j82a e83a j83a
      refine ih F4 (n + 1) (by omega) (qq_on q3 hb4 g4 (by decide)) (j82a.trans ((eI (p2 82 (by decide) (by decide))).trans (j82.trans i82))) (by rw [e83a, nz_fi (p2 83 (by decide) (by decide))]; omega) ?_ (hV_e s3 ((nz_fa (g4 45 (by decide) (by decide))).trans (nz_fa (p1 45 (by decide)))))
      rw [hp]
      exact gC_eq s2 (fun j h1 h2 => (g4 j (by omega) (by simp)).trans (p1 j (by omega)))
/-- an hour goes by -/
theorem j3nph_V (hC : xC 18 T F) (hG : gC 50 (nfS T) (nbS T) F g) (hO : okS T g) (sd : Int32) : jm_T Ls xs 7 jm_M3 [.ref 41, .ref 20, .ref 46, .int sd] (sy_dh F X1 X2 (iv_H 3)) 0 0 (pV 3 X1 X2 (fun F' => qC W3n F F' ∧ gC 50 (nfS T) (nbS T) F' (hourS T sd g))) := by
  have enf : (sy_i F 18).toInt = (nfS T : Int) := hC.2.1.1.1
  refine C_T (by decide) [sd] [.inl (.ref 41), .inl (.ref 20), .inl (.ref 46), .inr (.inl 82)] jm_ok3 (by decide) rfl (fun F0 k0 ki => ?_)
  have i82 : sy_i F0 82 = sd := ki 0
  refine j3nph_0 (by decide) F0 X1 X2 (hd_iveq0 hC.1 k0) ?_
  intro F1 hb gg e82 j82 e83 j83 e84 j84
  have q1 : qC [] F F1 := qq_src (qq_mk hb gg (by decide)) k0
  have c1 := xC_q (by decide) hC q1 (by decide)
  have g1 : gC 50 (nfS T) (nbS T) F1 g := j3ngq hG q1 (by decide)
  have i83 : sy_i F1 83 = g 9 0 := by rw [j83, eI (k0 50 (by decide))]; exact hG.2 0 (by decide)
  refine hd_calI (R := fun x F' => qC [] F1 F' ∧ x = ppS (mkS g (0 : Int32).toInt (nfS T))) (nh := 82) (nv := 84) (s := 3) (s1 := 3) (d1 := 2) (M1 := jm_M12) (As := [.inl (.ref 46), .inl (.int 0), .inr (.inl 84)]) (rest := [.inr (.inl 83), .inl (.ref 20), .inl (.ref 38)]) jm_ok3 rfl rfl (by decide) (by decide +kernel) (j3nhm_V F1 X1 X2 c1 g1 0 _ (by rw [e84, nz_fi (k0 18 (by decide))]; exact enf)) (fun F3 F' x hR p1 p2 p3 => ?_)
  obtain ⟨r1, r2⟩ := hR
  have r1' : qC [] F1 F3 := qC_dst r1 p1
  have q3 : qC [] F F3 := qq_trans q1 r1'
  have c3 := xC_q (by decide) hC q3 (by decide)
  have g3 : gC 50 (nfS T) (nbS T) F3 g := j3ngq g1 r1' (by decide)
  have k83 : sy_i F3 83 = g 9 0 := (eI (p2 83 (by decide) (by decide))).trans i83
  have k84 : sy_i F3 84 = lfS T g := (zz_i p3).trans r2
  refine hd_calV (R := fun F' => qC [45, 46] F3 F' ∧ v45 F' 2 = sy_i F3 83 ∧ v45 F' 8 = sy_i F3 84 ∧ v45 F' 3 = Int32.ofInt (windT T (sy_i F3 83) (sy_i F3 84))) (nh := 82) (nv := 83) (s := 3) (s1 := 3) (d1 := 5) (M1 := jm_M17) (As := [.inl (.ref 38), .inl (.ref 20), .inr (.inl 83), .inr (.inl 84)]) (rest := []) jm_ok3 rfl rfl (by decide) (by decide +kernel) (j3sh_V F3 X1 X2 c3 _ _) (fun F5 F6 hR2 u1 u2 => ?_)
  obtain ⟨s1, s2, s3, s4⟩ := hR2
  rw [k83] at s2 s4
  rw [k84] at s3 s4
  have s1' : qC [45, 46] F3 F5 := qC_dst s1 u1
  have q5 : qC W3n F F5 := qq_trans (qq_up q3 (by decide)) (qq_up s1' (by decide))
  have hv5 : hV T g F5 := hV_e ⟨s2, s3, s4⟩ (nz_fa (u1 45 (by decide)))
  have g5 : gC 50 (nfS T) (nbS T) F5 g := j3ngq g3 s1' (by decide)
  refine j3nph_21 (by decide) F5 X1 X2 q5.1 ?_
  intro F7 hb7 g7 e82a j82a e83a j83a
  exact j3nph_24h F X1 X2 hC hO (nfS T) F7 0 (by omega) (qq_on q5 hb7 g7 (by decide)) (j82a.trans ((eI (u2 82 (by decide) (by decide))).trans ((eI (p2 82 (by decide) (by decide))).trans (j82.trans i82)))) e83a (gC_eq g5 (fun j h1 h2 => g7 j (by omega) (by simp))) (hV_e hv5 (nz_fa (g7 45 (by decide) (by decide))))
end P3n
end
section
/-! ===== the class reads a text, with what it stores (shape 0) ===== -/
section RD0
variable {Ls : Nat} {xs : Nat → Int32} (X1 X2 : List jm_c)
theorem k0py_C (F : Nat → sy_d) (hB : iv_in F iv_B0) (hJ : jx_ok F) (hw : sy_al F 42 = wls) (n : Int32) {e : Nat} (en : n.toInt = e) (he : e ≤ 2000) : jm_T Ls xs 28 jm_M31 [.ref 30, .ref 9, .int n, .ref 20] (sy_dh F X1 X2 (iv_H 0)) 0 0 (fun v G => ∃ (x : Int32) (F' : Nat → sy_d), v = some (.int x) ∧ G = sy_dh F' X1 X2 (iv_H 0) ∧ gc (39 :: 40 :: 41 :: 35 :: k0_WP) F F' ∧ jx_ok F' ∧ x.toInt = (rdA (ub (sy_ai F 2) e) e).1 ∧ (sy_i F' 35).toInt = (rdA (ub (sy_ai F 2) e) e).2 ∧ (x.toInt = 0 → rXc 18 (rdT (ub (sy_ai F 2) e) e) F' ∧ (sy_i F' 23).toInt ≤ 412)) := by
  refine nyy_T (by decide) F (fun _ => .inl (.int n)) X1 X2 (A := [.inl (.ref 30), .inl (.ref 9), .inr (.inl 82), .inl (.ref 20)]) jm_ok31 (by decide) rfl ?_
  obtain ⟨F0, hF0⟩ : ∃ F0, F0 = ny F (fun _ => .inl (.int n)) := ⟨_, rfl⟩
  have k0 : ∀ j, j < 82 → F0 j = F j := fun j hj => by rw [hF0]; exact ny_lt j hj
  have e82 : (sy_i F0 82).toInt = e := by rw [hF0]; exact en
  rw [← hF0]
  refine k0py_0 (by decide) F0 X1 X2 (hd_iveq0 hB k0) ?_
  intro F1 hb g e33 e34 e36 e37 e38 eFR eBU f82
  have g1 : ∀ j, j < 82 → F1 j = F j := fun j hj => (g j hj (by simp)).trans (k0 j hj)
  have hw1 : sy_al F1 42 = wls := (nz_fl (g1 42 (by decide))).trans hw
  refine hd_calV (R := fun F' => gc [39, 40, 41] F1 F' ∧ jx_ok F' ∧ ∃ L : Nat, L ≤ 400 ∧ (∀ j, j ≤ L → tg_ F1 F' e j) ∧ (∀ j, j < L → kg F' j ≠ 0 ∧ kg F' j ≠ 3) ∧ (kg F' L = 0 ∨ kg F' L = 3 ∨ L = 400)) (nh := 82) (nv := 83) (s := 0) (s1 := 0) (d1 := 6) (M1 := jm_M58) (As := [.inl (.ref 31), .inl (.ref 9), .inr (.inl 82)]) (rest := []) jm_ok31 rfl rfl (by decide) (by decide +kernel) (k0cu_T X1 X2 F1 hb (jx_ok_eq (g1 39 (by decide)) (g1 41 (by decide)) hJ) (wd_wls hw1) _ (f82.trans e82) he) (fun F3 F' hR p1 _ => ?_)
  obtain ⟨r1, r2, L, r3, r4, r5, r6⟩ := hR
  have eb : bg F1 e = ub (sy_ai F 2) e := by unfold bg; rw [nz_fa (g1 2 (by decide))]
  have hwg : wg F1 = fun k => wls.getD k 0 := by
    funext k
    unfold wg
    rw [hw1]
  have e1 := kg_eq (p1 39 (by decide))
  have e2 := pg_eq (p1 40 (by decide))
  have e3 := vg_eq (p1 41 (by decide))
  have e4 := ng_eq (p1 41 (by decide))
  have tt : ∀ j, j ≤ L → tk (ub (sy_ai F 2) e) e (wg F1) (kg F3) (pg F3) (vg F3) (ng F3) j := fun j hj => by
    have := r4 j hj
    unfold tg_ at this
    rw [e1, e2, e3, e4, ← eb]
    exact this
  rw [← e1] at r6
  have hA := rd_same hwg tt r6
  have hT := rd_sameT hwg tt r6
  have j3 : jx_ok F3 := jx_ok_eq (p1 39 (by decide)) (p1 41 (by decide)) r2
  refine hd_mono (k0zpy_9T X1 X2 F3 (hd_iveq0 r1.1 p1) j3) ?_
  rintro v G ⟨x, F', rfl, rfl, h1, h2, h3, h4⟩
  rw [hA] at h2 h3
  rw [hT] at h4
  exact ⟨x, F', rfl, rfl, ⟨h1.1, fun j hj hn => (h1.2 j hj (fun q => hn (List.mem_cons_of_mem _ (List.mem_cons_of_mem _ (List.mem_cons_of_mem _ q))))).trans ((p1 j hj).trans ((r1.2 j hj (fun q => hn (by revert q; simp; omega))).trans (g1 j hj)))⟩, jx_ok_eq (h1.2 39 (by decide) (by decide)) (h1.2 41 (by decide) (by decide)) j3, h2, h3, h4⟩
end RD0
end
section
/-! ===== the class reads a text, with what it stores (shape 1) ===== -/
section RD1
variable {Ls : Nat} {xs : Nat → Int32} (X1 X2 : List jm_c)
theorem k1py_C (F : Nat → sy_d) (hB : iv_in F iv_B0) (hJ : jx_ok F) (hw : sy_al F 42 = wls) (n : Int32) {e : Nat} (en : n.toInt = e) (he : e ≤ 2000) : jm_T Ls xs 28 jm_M31 [.ref 30, .ref 9, .int n, .ref 20] (sy_dh F X1 X2 (iv_H 1)) 0 0 (fun v G => ∃ (x : Int32) (F' : Nat → sy_d), v = some (.int x) ∧ G = sy_dh F' X1 X2 (iv_H 0) ∧ gc (39 :: 40 :: 41 :: 35 :: k0_WP) F F' ∧ jx_ok F' ∧ x.toInt = (rdA (ub (sy_ai F 2) e) e).1 ∧ (sy_i F' 35).toInt = (rdA (ub (sy_ai F 2) e) e).2 ∧ (x.toInt = 0 → rXc 18 (rdT (ub (sy_ai F 2) e) e) F' ∧ (sy_i F' 23).toInt ≤ 412)) := by
  refine nyy_T (by decide) F (fun _ => .inl (.int n)) X1 X2 (A := [.inl (.ref 30), .inl (.ref 9), .inr (.inl 82), .inl (.ref 20)]) jm_ok31 (by decide) rfl ?_
  obtain ⟨F0, hF0⟩ : ∃ F0, F0 = ny F (fun _ => .inl (.int n)) := ⟨_, rfl⟩
  have k0 : ∀ j, j < 82 → F0 j = F j := fun j hj => by rw [hF0]; exact ny_lt j hj
  have e82 : (sy_i F0 82).toInt = e := by rw [hF0]; exact en
  rw [← hF0]
  refine k1py_0 (by decide) F0 X1 X2 (hd_iveq0 hB k0) ?_
  intro F1 hb g e33 e34 e36 e37 e38 eFR eBU f82
  have g1 : ∀ j, j < 82 → F1 j = F j := fun j hj => (g j hj (by simp)).trans (k0 j hj)
  have hw1 : sy_al F1 42 = wls := (nz_fl (g1 42 (by decide))).trans hw
  refine hd_calV (R := fun F' => gc [39, 40, 41] F1 F' ∧ jx_ok F' ∧ ∃ L : Nat, L ≤ 400 ∧ (∀ j, j ≤ L → tg_ F1 F' e j) ∧ (∀ j, j < L → kg F' j ≠ 0 ∧ kg F' j ≠ 3) ∧ (kg F' L = 0 ∨ kg F' L = 3 ∨ L = 400)) (nh := 82) (nv := 83) (s := 1) (s1 := 1) (d1 := 6) (M1 := jm_M58) (As := [.inl (.ref 31), .inl (.ref 9), .inr (.inl 82)]) (rest := []) jm_ok31 rfl rfl (by decide) (by decide +kernel) (k1cu_T X1 X2 F1 hb (jx_ok_eq (g1 39 (by decide)) (g1 41 (by decide)) hJ) (wd_wls hw1) _ (f82.trans e82) he) (fun F3 F' hR p1 _ => ?_)
  obtain ⟨r1, r2, L, r3, r4, r5, r6⟩ := hR
  have eb : bg F1 e = ub (sy_ai F 2) e := by unfold bg; rw [nz_fa (g1 2 (by decide))]
  have hwg : wg F1 = fun k => wls.getD k 0 := by
    funext k
    unfold wg
    rw [hw1]
  have e1 := kg_eq (p1 39 (by decide))
  have e2 := pg_eq (p1 40 (by decide))
  have e3 := vg_eq (p1 41 (by decide))
  have e4 := ng_eq (p1 41 (by decide))
  have tt : ∀ j, j ≤ L → tk (ub (sy_ai F 2) e) e (wg F1) (kg F3) (pg F3) (vg F3) (ng F3) j := fun j hj => by
    have := r4 j hj
    unfold tg_ at this
    rw [e1, e2, e3, e4, ← eb]
    exact this
  rw [← e1] at r6
  have hA := rd_same hwg tt r6
  have hT := rd_sameT hwg tt r6
  have j3 : jx_ok F3 := jx_ok_eq (p1 39 (by decide)) (p1 41 (by decide)) r2
  refine hd_mono (k1zpy_9T X1 X2 F3 (hd_iveq0 r1.1 p1) j3) ?_
  rintro v G ⟨x, F', rfl, rfl, h1, h2, h3, h4⟩
  rw [hA] at h2 h3
  rw [hT] at h4
  exact ⟨x, F', rfl, rfl, ⟨h1.1, fun j hj hn => (h1.2 j hj (fun q => hn (List.mem_cons_of_mem _ (List.mem_cons_of_mem _ (List.mem_cons_of_mem _ q))))).trans ((p1 j hj).trans ((r1.2 j hj (fun q => hn (by revert q; simp; omega))).trans (g1 j hj)))⟩, jx_ok_eq (h1.2 39 (by decide) (by decide)) (h1.2 41 (by decide) (by decide)) j3, h2, h3, h4⟩
end RD1
end
section
/-! ===== the class reads a text, with what it stores (shape 2) ===== -/
section RD2
variable {Ls : Nat} {xs : Nat → Int32} (X1 X2 : List jm_c)
theorem k2py_C (F : Nat → sy_d) (hB : iv_in F iv_B0) (hJ : jx_ok F) (hw : sy_al F 42 = wls) (n : Int32) {e : Nat} (en : n.toInt = e) (he : e ≤ 2000) : jm_T Ls xs 28 jm_M31 [.ref 30, .ref 9, .int n, .ref 10] (sy_dh F X1 X2 (iv_H 2)) 0 0 (fun v G => ∃ (x : Int32) (F' : Nat → sy_d), v = some (.int x) ∧ G = sy_dh F' X1 X2 (iv_H 3) ∧ gc (39 :: 40 :: 41 :: 35 :: k3_WP) F F' ∧ jx_ok F' ∧ x.toInt = (rdA (ub (sy_ai F 2) e) e).1 ∧ (sy_i F' 35).toInt = (rdA (ub (sy_ai F 2) e) e).2 ∧ (x.toInt = 0 → rXc 3 (rdT (ub (sy_ai F 2) e) e) F' ∧ (sy_i F' 8).toInt ≤ 412)) := by
  refine nyy_T (by decide) F (fun _ => .inl (.int n)) X1 X2 (A := [.inl (.ref 30), .inl (.ref 9), .inr (.inl 82), .inl (.ref 10)]) jm_ok31 (by decide) rfl ?_
  obtain ⟨F0, hF0⟩ : ∃ F0, F0 = ny F (fun _ => .inl (.int n)) := ⟨_, rfl⟩
  have k0 : ∀ j, j < 82 → F0 j = F j := fun j hj => by rw [hF0]; exact ny_lt j hj
  have e82 : (sy_i F0 82).toInt = e := by rw [hF0]; exact en
  rw [← hF0]
  refine k2py_0 (by decide) F0 X1 X2 (hd_iveq0 hB k0) ?_
  intro F1 hb g e33 e34 e36 e37 e38 eFR eBU f82
  have g1 : ∀ j, j < 82 → F1 j = F j := fun j hj => (g j hj (by simp)).trans (k0 j hj)
  have hw1 : sy_al F1 42 = wls := (nz_fl (g1 42 (by decide))).trans hw
  refine hd_calV (R := fun F' => gc [39, 40, 41] F1 F' ∧ jx_ok F' ∧ ∃ L : Nat, L ≤ 400 ∧ (∀ j, j ≤ L → tg_ F1 F' e j) ∧ (∀ j, j < L → kg F' j ≠ 0 ∧ kg F' j ≠ 3) ∧ (kg F' L = 0 ∨ kg F' L = 3 ∨ L = 400)) (nh := 82) (nv := 83) (s := 2) (s1 := 2) (d1 := 6) (M1 := jm_M58) (As := [.inl (.ref 31), .inl (.ref 9), .inr (.inl 82)]) (rest := []) jm_ok31 rfl rfl (by decide) (by decide +kernel) (k2cu_T X1 X2 F1 hb (jx_ok_eq (g1 39 (by decide)) (g1 41 (by decide)) hJ) (wd_wls hw1) _ (f82.trans e82) he) (fun F3 F' hR p1 _ => ?_)
  obtain ⟨r1, r2, L, r3, r4, r5, r6⟩ := hR
  have eb : bg F1 e = ub (sy_ai F 2) e := by unfold bg; rw [nz_fa (g1 2 (by decide))]
  have hwg : wg F1 = fun k => wls.getD k 0 := by
    funext k
    unfold wg
    rw [hw1]
  have e1 := kg_eq (p1 39 (by decide))
  have e2 := pg_eq (p1 40 (by decide))
  have e3 := vg_eq (p1 41 (by decide))
  have e4 := ng_eq (p1 41 (by decide))
  have tt : ∀ j, j ≤ L → tk (ub (sy_ai F 2) e) e (wg F1) (kg F3) (pg F3) (vg F3) (ng F3) j := fun j hj => by
    have := r4 j hj
    unfold tg_ at this
    rw [e1, e2, e3, e4, ← eb]
    exact this
  rw [← e1] at r6
  have hA := rd_same hwg tt r6
  have hT := rd_sameT hwg tt r6
  have j3 : jx_ok F3 := jx_ok_eq (p1 39 (by decide)) (p1 41 (by decide)) r2
  refine hd_mono (k2zpy_9T X1 X2 F3 (hd_iveq0 r1.1 p1) j3) ?_
  rintro v G ⟨x, F', rfl, rfl, h1, h2, h3, h4⟩
  rw [hA] at h2 h3
  rw [hT] at h4
  exact ⟨x, F', rfl, rfl, ⟨h1.1, fun j hj hn => (h1.2 j hj (fun q => hn (List.mem_cons_of_mem _ (List.mem_cons_of_mem _ (List.mem_cons_of_mem _ q))))).trans ((p1 j hj).trans ((r1.2 j hj (fun q => hn (by revert q; simp; omega))).trans (g1 j hj)))⟩, jx_ok_eq (h1.2 39 (by decide) (by decide)) (h1.2 41 (by decide) (by decide)) j3, h2, h3, h4⟩
end RD2
end
section
/-! ===== the class reads a text, with what it stores (shape 3) ===== -/
section RD3
variable {Ls : Nat} {xs : Nat → Int32} (X1 X2 : List jm_c)
theorem k3py_C (F : Nat → sy_d) (hB : iv_in F iv_B0) (hJ : jx_ok F) (hw : sy_al F 42 = wls) (n : Int32) {e : Nat} (en : n.toInt = e) (he : e ≤ 2000) : jm_T Ls xs 28 jm_M31 [.ref 30, .ref 9, .int n, .ref 10] (sy_dh F X1 X2 (iv_H 3)) 0 0 (fun v G => ∃ (x : Int32) (F' : Nat → sy_d), v = some (.int x) ∧ G = sy_dh F' X1 X2 (iv_H 3) ∧ gc (39 :: 40 :: 41 :: 35 :: k3_WP) F F' ∧ jx_ok F' ∧ x.toInt = (rdA (ub (sy_ai F 2) e) e).1 ∧ (sy_i F' 35).toInt = (rdA (ub (sy_ai F 2) e) e).2 ∧ (x.toInt = 0 → rXc 3 (rdT (ub (sy_ai F 2) e) e) F' ∧ (sy_i F' 8).toInt ≤ 412)) := by
  refine nyy_T (by decide) F (fun _ => .inl (.int n)) X1 X2 (A := [.inl (.ref 30), .inl (.ref 9), .inr (.inl 82), .inl (.ref 10)]) jm_ok31 (by decide) rfl ?_
  obtain ⟨F0, hF0⟩ : ∃ F0, F0 = ny F (fun _ => .inl (.int n)) := ⟨_, rfl⟩
  have k0 : ∀ j, j < 82 → F0 j = F j := fun j hj => by rw [hF0]; exact ny_lt j hj
  have e82 : (sy_i F0 82).toInt = e := by rw [hF0]; exact en
  rw [← hF0]
  refine k3py_0 (by decide) F0 X1 X2 (hd_iveq0 hB k0) ?_
  intro F1 hb g e33 e34 e36 e37 e38 eFR eBU f82
  have g1 : ∀ j, j < 82 → F1 j = F j := fun j hj => (g j hj (by simp)).trans (k0 j hj)
  have hw1 : sy_al F1 42 = wls := (nz_fl (g1 42 (by decide))).trans hw
  refine hd_calV (R := fun F' => gc [39, 40, 41] F1 F' ∧ jx_ok F' ∧ ∃ L : Nat, L ≤ 400 ∧ (∀ j, j ≤ L → tg_ F1 F' e j) ∧ (∀ j, j < L → kg F' j ≠ 0 ∧ kg F' j ≠ 3) ∧ (kg F' L = 0 ∨ kg F' L = 3 ∨ L = 400)) (nh := 82) (nv := 83) (s := 3) (s1 := 3) (d1 := 6) (M1 := jm_M58) (As := [.inl (.ref 31), .inl (.ref 9), .inr (.inl 82)]) (rest := []) jm_ok31 rfl rfl (by decide) (by decide +kernel) (k3cu_T X1 X2 F1 hb (jx_ok_eq (g1 39 (by decide)) (g1 41 (by decide)) hJ) (wd_wls hw1) _ (f82.trans e82) he) (fun F3 F' hR p1 _ => ?_)
  obtain ⟨r1, r2, L, r3, r4, r5, r6⟩ := hR
  have eb : bg F1 e = ub (sy_ai F 2) e := by unfold bg; rw [nz_fa (g1 2 (by decide))]
  have hwg : wg F1 = fun k => wls.getD k 0 := by
    funext k
    unfold wg
    rw [hw1]
  have e1 := kg_eq (p1 39 (by decide))
  have e2 := pg_eq (p1 40 (by decide))
  have e3 := vg_eq (p1 41 (by decide))
  have e4 := ng_eq (p1 41 (by decide))
  have tt : ∀ j, j ≤ L → tk (ub (sy_ai F 2) e) e (wg F1) (kg F3) (pg F3) (vg F3) (ng F3) j := fun j hj => by
    have := r4 j hj
    unfold tg_ at this
    rw [e1, e2, e3, e4, ← eb]
    exact this
  rw [← e1] at r6
  have hA := rd_same hwg tt r6
  have hT := rd_sameT hwg tt r6
  have j3 : jx_ok F3 := jx_ok_eq (p1 39 (by decide)) (p1 41 (by decide)) r2
  refine hd_mono (k3zpy_9T X1 X2 F3 (hd_iveq0 r1.1 p1) j3) ?_
  rintro v G ⟨x, F', rfl, rfl, h1, h2, h3, h4⟩
  rw [hA] at h2 h3
  rw [hT] at h4
  exact ⟨x, F', rfl, rfl, ⟨h1.1, fun j hj hn => (h1.2 j hj (fun q => hn (List.mem_cons_of_mem _ (List.mem_cons_of_mem _ (List.mem_cons_of_mem _ q))))).trans ((p1 j hj).trans ((r1.2 j hj (fun q => hn (by revert q; simp; omega))).trans (g1 j hj)))⟩, jx_ok_eq (h1.2 39 (by decide) (by decide)) (h1.2 41 (by decide) (by decide)) j3, h2, h3, h4⟩
end RD3
end
