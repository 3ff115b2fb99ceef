/-! ===== the class: a law worked out, and told (shape 2) ===== -/
section W2
variable {Ls : Nat} {xs : Nat → Int32} (F : Nat → sy_d) (X1 X2 : List jm_c)
theorem j2wo_E {Q : Option Value → jm_h → Prop} (k : Nat) {s : Int} (hs : 0 ≤ s) : ∀ (r : List rO) (d e : Nat) (S : List Int32) (c : Int) (F1 : Nat → sy_d), woI F s c S F1 → s ≤ c → c + r.length < 512 → clc (sy_ai F 32) c.toNat r.length = r.map (cell k) → wfR r d e → d ≤ S.length → S.length ≤ d + 1 → d ≤ 15 →
    (evR (mkv k (v45 F)) r S = none → ∀ F2 : Nat → sy_d, qC [46] F F2 → Q (some (.int 0)) (sy_dh F2 X1 X2 (iv_H 2))) →
    (∀ (S' : List Int32) (F2 : Nat → sy_d), evR (mkv k (v45 F)) r S = some S' → woI F s (c + r.length) S' F2 → hd_W Ls xs 2 jm_M22 Q (8, sy_dL F2 [some (.inl (.ref 38)), some (.inl (.ref 20)), none, some (.inr (.inl 82)), some (.inr (.inl 83)), some (.inr (.inl 84)), none], sy_dS F2 [], sy_dh F2 X1 X2 (iv_H 2), 0, 0)) →
    hd_W Ls xs 2 jm_M22 Q (8, sy_dL F1 [some (.inl (.ref 38)), some (.inl (.ref 20)), none, some (.inr (.inl 82)), some (.inr (.inl 83)), some (.inr (.inl 84)), none], sy_dS F1 [], sy_dh F1 X1 X2 (iv_H 2), 0, 0)
  | [], d, e, S, c, F1, hI, _, _, _, _, _, _, _, _, hk => hk S F1 rfl (by rw [show c + ((([] : List rO).length : Nat) : Int) = c by simp]; exact hI)
  | o :: r, d, e, S, c, F1, hI, hsc, hc, hcl, hw, hd1, hd2, hd3, hn, hk => by
    obtain ⟨hq, e82, e83, e84, hst⟩ := hI
    have hl : (o :: r).length = r.length + 1 := rfl
    rw [hl] at hc hcl hk
    rw [clc_cons] at hcl
    have hx : ((sy_ai F1 32).getD (sy_i F1 82).toInt.toNat 0).toInt = cell k o := by
      rw [qq_a hq (by decide) (by decide), e82]
      exact (List.cons.inj hcl).1
    have hr : clc (sy_ai F 32) (c + 1).toNat r.length = r.map (cell k) := by
      rw [show (c + 1).toNat = c.toNat + 1 by omega]
      exact (List.cons.inj hcl).2
    have hk' : ∀ (S' : List Int32) (F2 : Nat → sy_d), evR (mkv k (v45 F)) (o :: r) S = some S' → woI F s (c + 1 + r.length) S' F2 → hd_W Ls xs 2 jm_M22 Q (8, sy_dL F2 [some (.inl (.ref 38)), some (.inl (.ref 20)), none, some (.inr (.inl 82)), some (.inr (.inl 83)), some (.inr (.inl 84)), none], sy_dS F2 [], sy_dh F2 X1 X2 (iv_H 2), 0, 0) := fun S' F2 h1 h2 => hk S' F2 h1 (by rw [show c + ((r.length + 1 : Nat) : Int) = c + 1 + r.length by omega]; exact h2)
    obtain ⟨⟨w0, w1, w2⟩, w3, w4⟩ := hw
    by_cases z0 : o.1 < 2
    · obtain ⟨w5, w6⟩ := w3 z0
      -- a number, a var
      have hcell : -9 ≤ cell k o := by
        unfold cell
        by_cases q0 : o.1 = 0
        · rw [if_pos q0]
          have := w1 q0
          omega
        · rw [if_neg q0, if_pos (by omega)]
          have := w2 (by omega)
          split <;> omega
      have push : ∀ (x : Int32) (F2 : Nat → sy_d), iv_in F2 iv_B0 → (∀ j, j < 82 → j ∉ ([46] : List Nat) → F2 j = F1 j) → sy_ai F2 46 = jm_upd (sy_ai F1 46) (sy_i F1 83).toInt.toNat x → (sy_i F2 82).toInt = (sy_i F1 82).toInt + 1 → (sy_i F2 83).toInt = (sy_i F1 83).toInt + 1 → (sy_i F2 84).toInt = (sy_i F1 84).toInt + 1 → evR (mkv k (v45 F)) (o :: r) S = evR (mkv k (v45 F)) r (x :: S) → hd_W Ls xs 2 jm_M22 Q (8, sy_dL F2 [some (.inl (.ref 38)), some (.inl (.ref 20)), none, some (.inr (.inl 82)), some (.inr (.inl 83)), some (.inr (.inl 84)), none], sy_dS F2 [], sy_dh F2 X1 X2 (iv_H 2), 0, 0) := fun x F2 hb g a46 f82 f83 f84 hev => by
        refine j2wo_E k hs r (d + 1) e (x :: S) (c + 1) F2 ⟨qq_on hq hb g (by decide), by omega, by simp only [List.length_cons]; omega, by omega, by rw [a46]; exact stq_put (by omega) hst⟩ (by omega) (by omega) hr w6 (by simp only [List.length_cons]; omega) (by simp only [List.length_cons]; omega) (by omega) ?_ ?_
        · rw [← hev]
          exact hn
        · rw [← hev]
          exact hk'
      refine j2wo_8 (by decide) F1 X1 X2 hq.1 (by omega) (by omega) (by omega) ?_ ?_ ?_ ?_ ?_ ?_ ?_ ?_ ?_ ?_ ?_ ?_ ?_ ?_ ?_ ?_ ?_ ?_
      · intros; omega
      iterate 13
        intros
        exfalso
        omega
      · intro c0 c1 c2 c3 c4 c5 F2 hb g a46 f82 i82 f83 i83 f84 i84
        -- a var that is told
        have k1 : o.1 = 1 := by
          by_cases q0 : o.1 = 0
          · have := w1 q0
            have : cell k o = o.2 := by unfold cell; rw [if_pos q0]
            omega
          · omega
        have h2 := w2 k1
        have hc2 : cell k o = if tvs k o.2 = true then -1 - o.2 else 0 := by
          unfold cell
          rw [if_neg (by omega), if_pos k1]
        have ht : tvs k o.2 = true := by
          by_cases q : tvs k o.2 = true
          · exact q
          · rw [if_neg q] at hc2
            omega
        rw [if_pos ht] at hc2
        refine push _ F2 hb g a46 f82 f83 f84 ?_
        rw [evR_1 k1]
        congr 2
        have eo : ((o.2.toNat : Nat) : Int) = o.2 := by omega
        have en : ((-1 : Int) - ((sy_ai F1 32).getD (sy_i F1 82).toInt.toNat 0).toInt).toNat = o.2.toNat := by omega
        rw [en, mkv_t (by rw [eo]; exact ht), qq_a hq (by decide) (by decide)]
        rfl
      · intro c0 c1 c2 c3 c4 c5 F2 hb g a46 f82 i82 f83 i83 f84 i84
        refine push _ F2 hb g a46 f82 f83 f84 ?_
        by_cases q0 : o.1 = 0
        · rw [evR_0 q0]
          congr 2
          have : cell k o = o.2 := by unfold cell; rw [if_pos q0]
          exact ofi (by omega)
        · have k1 : o.1 = 1 := by omega
          have h2 := w2 k1
          have hc2 : cell k o = if tvs k o.2 = true then -1 - o.2 else 0 := by
            unfold cell
            rw [if_neg (by omega), if_pos k1]
          have ht : ¬ tvs k o.2 = true := fun q => by
            rw [if_pos q] at hc2
            omega
          rw [if_neg ht] at hc2
          rw [evR_1 k1]
          congr 2
          have eo : ((o.2.toNat : Nat) : Int) = o.2 := by omega
          rw [mkv_f (by rw [eo]; cases hh : tvs k o.2 with | true => exact absurd hh ht | false => rfl)]
          exact (i0z.mpr (by omega)).symm
      · intros
        exfalso
        omega
      · intros
        exfalso
        omega
    · obtain ⟨w5, w6⟩ := w4 (by omega)
      have hcell : cell k o = -8 - o.1 := by
        unfold cell
        rw [if_neg (by omega), if_neg (by omega)]
      obtain ⟨y, x, S, rfl⟩ := two2 (show 2 ≤ S.length by omega)
      simp only [List.length_cons] at e83 hd1 hd2
      have n1 : ((sy_i F1 83).toInt + (-1 : Int) - 1).toNat = S.length := by omega
      have n2 : ((sy_i F1 83).toInt + (-1 : Int)).toNat = S.length + 1 := by omega
      have n3 : ((sy_i F1 83).toInt - 1).toNat = S.length + 1 := by omega
      have hy : (sy_ai F1 46).getD (S.length + 1) 0 = y := hst.1
      have hxx : (sy_ai F1 46).getD S.length 0 = x := hst.2.1
      have ev := evR_2 (v := mkv k (v45 F)) (r := r) (a := x) (b := y) (S := S) (o := o) (by omega)
      have step : ∀ (z : Int32) (F2 : Nat → sy_d), iv_in F2 iv_B0 → (∀ j, j < 82 → j ∉ ([46] : List Nat) → F2 j = F1 j) → sy_ai F2 46 = jm_upd (sy_ai F1 46) S.length z → (sy_i F2 82).toInt = (sy_i F1 82).toInt + 1 → (sy_i F2 83).toInt = (sy_i F1 83).toInt + -1 → (sy_i F2 84).toInt = (sy_i F1 84).toInt + 1 → evR (mkv k (v45 F)) (o :: r) (y :: x :: S) = evR (mkv k (v45 F)) r (z :: S) → hd_W Ls xs 2 jm_M22 Q (8, sy_dL F2 [some (.inl (.ref 38)), some (.inl (.ref 20)), none, some (.inr (.inl 82)), some (.inr (.inl 83)), some (.inr (.inl 84)), none], sy_dS F2 [], sy_dh F2 X1 X2 (iv_H 2), 0, 0) := fun z F2 hb g a46 f82 f83 f84 hev => by
        refine j2wo_E k hs r (d - 1) e (z :: S) (c + 1) F2 ⟨qq_on hq hb g (by decide), by omega, by simp only [List.length_cons]; omega, by omega, by rw [a46]; exact stq_put rfl hst.2.2⟩ (by omega) (by omega) hr w6 (by simp only [List.length_cons]; omega) (by simp only [List.length_cons]; omega) (by omega) ?_ ?_
        · rw [← hev]
          exact hn
        · rw [← hev]
          exact hk'
      refine j2wo_8 (by decide) F1 X1 X2 hq.1 (by omega) (by omega) (by omega) ?_ ?_ ?_ ?_ ?_ ?_ ?_ ?_ ?_ ?_ ?_ ?_ ?_ ?_ ?_ ?_ ?_ ?_
      · intros; omega
      · intros
        exfalso
        omega
      · intros
        exfalso
        omega
      · intro c0 c1 c2 c3 c4 c5 c6 c7 c8 F2 hb g a46 f82 i82 f83 i83 f84 i84
        rw [n1, n2, hy, hxx] at a46
        rw [if_neg (by omega)] at ev
        have eo : opv o.1 x y = x * y := by
          unfold opv
          rw [if_neg (by omega), if_neg (by omega), if_pos (by omega)]
        rw [eo] at ev
        exact step _ F2 hb g a46 f82 f83 f84 ev
      · intro c0 c1 c2 c3 c4 c5 c6 c7 c8 F2 hb g a46 f82 i82 f83 i83 f84 i84
        rw [n1, n2, hy, hxx] at a46
        rw [if_neg (by omega)] at ev
        have eo : opv o.1 x y = x - y := by
          unfold opv
          rw [if_neg (by omega), if_pos (by omega)]
        rw [eo] at ev
        exact step _ F2 hb g a46 f82 f83 f84 ev
      · intro c0 c1 c2 c3 c4 c5 c6 c7 c8 F2 hb g a46 f82 i82 f83 i83 f84 i84
        rw [n1, n2, hy, hxx] at a46
        rw [if_neg (by omega)] at ev
        have eo : opv o.1 x y = x + y := by
          unfold opv
          rw [if_pos (by omega)]
        rw [eo] at ev
        exact step _ F2 hb g a46 f82 f83 f84 ev
      · intro c0 c1 c2 c3 c4 c5 c6 c7 c8 c9 c10 F2 hb g a46 f82 i82 f83 i83 f84 i84
        rw [n3, hy] at c8
        rw [n1, n2, hy, hxx] at a46
        rw [if_neg (fun z => c8 (i0z.mp z.2))] at ev
        have eo : opv o.1 x y = x / y := by
          unfold opv
          rw [if_neg (by omega), if_neg (by omega), if_neg (by omega)]
        rw [eo] at ev
        exact step _ F2 hb g a46 f82 f83 f84 ev
      · intro c0 c1 c2 c3 c4 c5 c6 c7 c8 c9 c10
        rw [n3, hy] at c8
        rw [n2, hy] at c10
        exact absurd c10 c8
      · intro c0 c1 c2 c3 c4 c5 c6 c7 c8 F2 hb g
        rw [n3, hy] at c8
        rw [if_pos ⟨by omega, i0z.mpr c8⟩] at ev
        exact hn ev F2 (qq_on hq hb g (by decide))
      iterate 9
        intros
        exfalso
        omega
theorem j2wo_L (k : Nat) {s : Int} (hs : 0 ≤ s) : ∀ (l : List bRT) (c : Nat) (F1 : Nat → sy_d), woI F s c [] F1 → s ≤ c → c + (lcs k c l).length < 512 → clc (sy_ai F 32) c (lcs k c l).length = lcs k c l → hasN l → (∀ b ∈ l, wfB b) →
    hd_W Ls xs 2 jm_M22 (pI 2 X1 X2 (fun x F' => qC [46] F F' ∧ x = lwV (mkv k (v45 F)) l)) (8, sy_dL F1 [some (.inl (.ref 38)), some (.inl (.ref 20)), none, some (.inr (.inl 82)), some (.inr (.inl 83)), some (.inr (.inl 84)), none], sy_dS F1 [], sy_dh F1 X1 X2 (iv_H 2), 0, 0)
  | [], c, F1, _, _, _, _, hN, _ => absurd hN (by intro z; exact z)
  | (none, w) :: r, c, F1, hI, hsc, h5, hcl, _, hw => by
    have w1 := (hw _ List.mem_cons_self).1
    rw [lcs_n] at h5 hcl
    simp only [List.length_append, List.length_map, List.length_cons, List.length_nil] at h5
    obtain ⟨g1, g2⟩ := clc_split hcl
    obtain ⟨g3, -⟩ := clc_split g2
    rw [List.length_map] at g1 g3
    have hx : ((sy_ai F 32).getD (c + w.length) 0).toInt = -14 := by
      have g3 : [((sy_ai F 32).getD (c + w.length + 0) 0).toInt] = [-14] := g3
      exact (List.cons.inj g3).1
    rcases exV_b (v := mkv k (v45 F)) w1 [] with ⟨v1, v2⟩ | ⟨x, v1, v2⟩
    · refine j2wo_E F X1 X2 k hs w 0 1 [] c F1 hI hsc (by omega) (by rw [show ((c : Int)).toNat = c by omega]; exact g1) w1 (by decide) (by decide) (by decide) (fun _ F2 hq => ⟨_, F2, rfl, rfl, hq, by rw [lwV_n, v2]; rfl⟩) (fun S' F2 h _ => (by rw [v1] at h; cases h))
    · refine j2wo_E F X1 X2 k hs w 0 1 [] c F1 hI hsc (by omega) (by rw [show ((c : Int)).toNat = c by omega]; exact g1) w1 (by decide) (by decide) (by decide) (fun h => (by rw [v1] at h; cases h)) (fun S' F2 h hI2 => ?_)
      have h := (Option.some.inj (v1.symm.trans h)).symm
      subst h
      obtain ⟨hq, e82, e83, e84, hst⟩ := hI2
      have e83 : (sy_i F2 83).toInt = 1 := e83
      have hc' : ((sy_ai F2 32).getD (sy_i F2 82).toInt.toNat 0).toInt = -14 := by
        rw [qq_a hq (by decide) (by decide), e82, show ((c : Int) + (w.length : Int)).toNat = c + w.length by omega]
        exact hx
      refine j2wo_8 (by decide) F2 X1 X2 hq.1 (by omega) (by omega) (by omega) ?_ ?_ ?_ ?_ ?_ ?_ ?_ ?_ ?_ ?_ ?_ ?_ ?_ ?_ ?_ ?_ ?_ ?_
      · intros; omega
      iterate 12
        intros
        exfalso
        omega
      · intro c0 c1 c2 c3 c4 c5 F3 hb g
        refine ⟨_, F3, rfl, rfl, qq_on hq hb g (by decide), ?_⟩
        rw [lwV_n, v2, show ((sy_i F2 83).toInt - 1).toNat = 0 by omega]
        exact hst.1
      iterate 4
        intros
        exfalso
        omega
  | (some (u, q), w) :: r, c, F1, hI, hsc, h5, hcl, hN, hw => by
    obtain ⟨w1, wt⟩ := hw _ List.mem_cons_self
    obtain ⟨wu, wq⟩ := wt u q rfl
    have hwr : ∀ b ∈ r, wfB b := fun b hb => hw b (List.mem_cons_of_mem _ hb)
    have hN : hasN r := hN
    rw [lcs_s] at h5 hcl
    simp only [List.length_append, List.length_map, List.length_cons, List.length_nil] at h5
    obtain ⟨g1, g2⟩ := clc_split hcl
    obtain ⟨g3, g4⟩ := clc_split g2
    obtain ⟨g5, g6⟩ := clc_split g4
    obtain ⟨g7, g8⟩ := clc_split g6
    obtain ⟨g9, g10⟩ := clc_split g8
    simp only [List.length_map, List.length_cons, List.length_nil] at g1 g3 g5 g7 g9 g10
    have hx : ((sy_ai F 32).getD (c + u.length + q.length) 0).toInt = -15 ∧ ((sy_ai F 32).getD (c + u.length + q.length + 1) 0).toInt = ((c + u.length + q.length + w.length + 3 : Nat) : Int) := by
      have g5 : [((sy_ai F 32).getD (c + u.length + q.length + 0) 0).toInt] ++ [((sy_ai F 32).getD (c + u.length + q.length + 1) 0).toInt] = [-15, ((c + u.length + q.length + w.length + 3 : Nat) : Int)] := g5
      exact ⟨(List.cons.inj g5).1, (List.cons.inj (List.cons.inj g5).2).1⟩
    have hx4 : ((sy_ai F 32).getD (c + u.length + q.length + 2 + w.length) 0).toInt = -14 := by
      have g9 : [((sy_ai F 32).getD (c + u.length + q.length + 2 + w.length + 0) 0).toInt] = [-14] := g9
      exact (List.cons.inj g9).1
    rcases exV_b (v := mkv k (v45 F)) wu [] with ⟨v1, v2⟩ | ⟨x, v1, v2⟩
    · exact j2wo_E F X1 X2 k hs u 0 1 [] c F1 hI hsc (by omega) (by rw [show ((c : Int)).toNat = c by omega]; exact g1) wu (by decide) (by decide) (by decide) (fun _ F2 hq => ⟨_, F2, rfl, rfl, hq, (lwV_0 (Or.inl v2)).symm⟩) (fun S' F2 h _ => (by rw [v1] at h; cases h))
    · refine j2wo_E F X1 X2 k hs u 0 1 [] c F1 hI hsc (by omega) (by rw [show ((c : Int)).toNat = c by omega]; exact g1) wu (by decide) (by decide) (by decide) (fun h => (by rw [v1] at h; cases h)) (fun S' F2 h hI2 => ?_)
      have h := (Option.some.inj (v1.symm.trans h)).symm
      subst h
      rcases exV_b (v := mkv k (v45 F)) wq [x] with ⟨y1, y2⟩ | ⟨y, y1, y2⟩
      · exact j2wo_E F X1 X2 k hs q 0 1 [x] (c + u.length) F2 hI2 (by omega) (by omega) (by rw [show ((c : Int) + (u.length : Int)).toNat = c + u.length by omega]; exact g3) wq (Nat.zero_le _) (Nat.le_refl _) (by decide) (fun _ F3 hq => ⟨_, F3, rfl, rfl, hq, (lwV_0 (Or.inr y2)).symm⟩) (fun S' F3 h _ => (by rw [y1] at h; cases h))
      · refine j2wo_E F X1 X2 k hs q 0 1 [x] (c + u.length) F2 hI2 (by omega) (by omega) (by rw [show ((c : Int) + (u.length : Int)).toNat = c + u.length by omega]; exact g3) wq (Nat.zero_le _) (Nat.le_refl _) (by decide) (fun h => (by rw [y1] at h; cases h)) (fun S' F3 h hI3 => ?_)
        have h := (Option.some.inj (y1.symm.trans h)).symm
        subst h
        obtain ⟨hq, e82, e83, e84, hst⟩ := hI3
        have e83 : (sy_i F3 83).toInt = 2 := e83
        have hy : (sy_ai F3 46).getD 1 0 = y := hst.1
        have hxx : (sy_ai F3 46).getD 0 0 = x := hst.2.1
        have hc' : ((sy_ai F3 32).getD (sy_i F3 82).toInt.toNat 0).toInt = -15 := by
          rw [qq_a hq (by decide) (by decide), e82, show ((c : Int) + (u.length : Int) + (q.length : Int)).toNat = c + u.length + q.length by omega]
          exact hx.1
        have hc2 : ((sy_ai F3 32).getD ((sy_i F3 82).toInt + 1).toNat 0).toInt = ((c + u.length + q.length + w.length + 3 : Nat) : Int) := by
          rw [qq_a hq (by decide) (by decide), e82, show ((c : Int) + (u.length : Int) + (q.length : Int) + 1).toNat = c + u.length + q.length + 1 by omega]
          exact hx.2
        have m1 : ((sy_i F3 83).toInt + (-2 : Int)).toNat = 0 := by omega
        have m2 : ((sy_i F3 83).toInt + (-2 : Int) + 1).toNat = 1 := by omega
        refine j2wo_8 (by decide) F3 X1 X2 hq.1 (by omega) (by omega) (by omega) ?_ ?_ ?_ ?_ ?_ ?_ ?_ ?_ ?_ ?_ ?_ ?_ ?_ ?_ ?_ ?_ ?_ ?_
        · intros; omega
        iterate 8
          intros
          exfalso
          omega
        · intro c0 c1 c2 c3 c4 c5 c6 c7 F4 hb g f82 i82 f83 i83 f84 i84
          rw [m1, m2, hy, hxx] at c7
          rw [hc2] at f82
          refine hd_W_mono (j2wo_L k hs r (c + u.length + q.length + w.length + 3) F4 ⟨qq_on hq hb g (by decide), f82, by show _ = ((0 : Nat) : Int); omega, by omega, trivial⟩ (by omega) (by omega) ?_ hN hwr) ?_
          · rw [show c + u.length + q.length + w.length + 3 = c + u.length + q.length + 2 + w.length + 1 by omega] at g10 ⊢
            exact g10
          · rintro v G ⟨z, F', rfl, rfl, h1, h2⟩
            refine ⟨z, F', rfl, rfl, h1, ?_⟩
            rw [h2, lwV_s v2 y2, if_neg (by omega)]
        · intro c0 c1 c2 c3 c4 c5 c6 c7 F4 hb g f82 i82 f83 i83 f84 i84
          rw [m1, m2, hy, hxx] at c7
          have hI4 : woI F s (c + u.length + q.length + 2 : Nat) [] F4 := ⟨qq_on hq hb g (by decide), by omega, by show _ = ((0 : Nat) : Int); omega, by omega, trivial⟩
          have gw : clc (sy_ai F 32) (((c + u.length + q.length + 2 : Nat) : Int)).toNat w.length = w.map (cell k) := by rw [Int.toNat_natCast]; exact g7
          rcases exV_b (v := mkv k (v45 F)) w1 [] with ⟨x1, x2⟩ | ⟨z, x1, x2⟩
          · exact j2wo_E F X1 X2 k hs w 0 1 [] _ F4 hI4 (by omega) (by omega) gw w1 (by decide) (by decide) (by decide) (fun _ F5 hq => ⟨_, F5, rfl, rfl, hq, by rw [lwV_s v2 y2, if_pos c7, x2]; rfl⟩) (fun S' F5 h _ => (by rw [x1] at h; cases h))
          · refine j2wo_E F X1 X2 k hs w 0 1 [] _ F4 hI4 (by omega) (by omega) gw w1 (by decide) (by decide) (by decide) (fun h => (by rw [x1] at h; cases h)) (fun S' F5 h hI5 => ?_)
            have h := (Option.some.inj (x1.symm.trans h)).symm
            subst h
            obtain ⟨hq5, e82', e83', e84', hst'⟩ := hI5
            have e83' : (sy_i F5 83).toInt = 1 := e83'
            have hc5 : ((sy_ai F5 32).getD (sy_i F5 82).toInt.toNat 0).toInt = -14 := by
              rw [qq_a hq5 (by decide) (by decide), e82', show (((c + u.length + q.length + 2 : Nat) : Int) + (w.length : Int)).toNat = c + u.length + q.length + 2 + w.length by omega]
              exact hx4
            refine j2wo_8 (by decide) F5 X1 X2 hq5.1 (by omega) (by omega) (by omega) ?_ ?_ ?_ ?_ ?_ ?_ ?_ ?_ ?_ ?_ ?_ ?_ ?_ ?_ ?_ ?_ ?_ ?_
            · intros; omega
            iterate 12
              intros
              exfalso
              omega
            · intro d0 d1 d2 d3 d4 d5 F6 hb6 g6
              refine ⟨_, F6, rfl, rfl, qq_on hq5 hb6 g6 (by decide), ?_⟩
              rw [lwV_s v2 y2, if_pos c7, x2, show ((sy_i F5 83).toInt - 1).toNat = 0 by omega]
              exact hst'.1
            iterate 4
              intros
              exfalso
              omega
        iterate 7
          intros
          exfalso
          omega
theorem j2wo_V (k : Nat) {a : Int32} {l : List bRT} (hB : iv_in F iv_B0) (h0 : 0 ≤ a.toInt) (h5 : a.toInt + (lcs k a.toInt.toNat l).length < 512) (hcl : clc (sy_ai F 32) a.toInt.toNat (lcs k a.toInt.toNat l).length = lcs k a.toInt.toNat l) (hl : wfL l) : jm_T Ls xs 2 jm_M22 [.ref 38, .ref 20, .int a] (sy_dh F X1 X2 (iv_H 2)) 0 0 (pI 2 X1 X2 (fun x F' => qC [46] F F' ∧ x = lwV (mkv k (v45 F)) l)) := by
  refine C_T (by decide) [a] [.inl (.ref 38), .inl (.ref 20), .inr (.inl 82)] jm_ok22 (by decide) rfl (fun F0 k0 ki => ?_)
  have i82 : sy_i F0 82 = a := ki 0
  refine j2wo_0 (by decide) F0 X1 X2 (hd_iveq0 hB k0) ?_
  intro F1 hb g e82 j82 e83 j83 e84 j84
  rw [i82] at e82
  refine j2wo_L F X1 X2 k h0 l a.toInt.toNat F1 ⟨qq_src (qq_mk hb g (by decide)) k0, by omega, e83, by omega, trivial⟩ (by omega) (by omega) hcl hl.1 hl.2
/-- a law is told -/
theorem j2to_V {T : tX} (hB : iv_in F iv_B0) (hX : rXc 18 T F) (hT : wT T) (hcs : (sy_i F 23).toInt ≤ 412) {a : Int32} {k : Nat} (hk : k < 6) (ha : a.toInt = k) : jm_T Ls xs 4 jm_M21 [.ref 38, .ref 20, .int a] (sy_dh F X1 X2 (iv_H 2)) 0 0 (pI 2 X1 X2 (fun x F' => qC [46] F F' ∧ x.toInt = lwT T k (v45 F))) := by
  refine C_T (by decide) [a] [.inl (.ref 38), .inl (.ref 20), .inr (.inl 82)] jm_ok21 (by decide) rfl (fun F0 k0 ki => ?_)
  have i82 : sy_i F0 82 = a := ki 0
  refine j2to_0 (by decide) F0 X1 X2 (hd_iveq0 hB k0) (by rw [i82]; omega) ?_
  intro F1 hb g e82 j82 e83 j83
  rw [i82] at e82 j82
  have q1 : qC [] F F1 := qq_src (qq_mk hb g (by decide)) k0
  obtain ⟨h1, h2, h3⟩ := hX.2.2.2.2.2 k hk
  have h1 : 0 ≤ ix F 31 k := h1
  have h2 : ix F 31 k + (lcs k (ix F 31 k).toNat ((T.2.2.2.2.2 k).getD (pb k))).length ≤ (sy_i F 23).toInt := h2
  have h3 : clc (sy_ai F 32) (ix F 31 k).toNat (lcs k (ix F 31 k).toNat ((T.2.2.2.2.2 k).getD (pb k))).length = lcs k (ix F 31 k).toNat ((T.2.2.2.2.2 k).getD (pb k)) := h3
  have e83 : (sy_i F1 83).toInt = ix F 31 k := by rw [e83, i82, ha, Int.toNat_natCast, nz_fa (k0 31 (by decide))]; rfl
  refine hd_calI (R := fun x F' => qC [46] F1 F' ∧ x = lwV (mkv k (v45 F1)) ((T.2.2.2.2.2 k).getD (pb k))) (nh := 82) (nv := 83) (s := 2) (s1 := 2) (d1 := 2) (M1 := jm_M22) (As := [.inl (.ref 38), .inl (.ref 20), .inr (.inl 83)]) (rest := []) jm_ok21 rfl rfl (by decide) (by decide +kernel) (j2wo_V F1 X1 X2 k hb (by omega) (by rw [e83]; omega) (by rw [e83, qq_a q1 (by decide) (by decide)]; exact h3) (wfL_T hT k)) (fun F3 F' x hR p1 p2 p3 => ?_)
  have ev : v45 F1 = v45 F := by unfold v45; rw [qq_a q1 (by decide) (by decide)]
  obtain ⟨r1, r2⟩ := hR
  have q3 : qC [46] F F3 := qq_trans (qq_up q1 (by decide)) (qC_dst r1 p1)
  have m82 : (sy_i F3 82).toInt = k := by rw [nz_fi (p2 82 (by decide) (by decide)), e82]; exact ha
  have m83 : sy_i F3 83 = x := zz_i p3
  have hx : lwT T k (v45 F) = hdz (lLo k) (lHi k) x.toInt := by
    unfold lwT lwR
    rw [r2, ev]
  have hi : (([9, 9, 100, 99, 9, 100] : List Int32).getD (sy_i F3 82).toInt.toNat 0).toInt = lHi k := by
    rw [m82, Int.toNat_natCast]
    exact lHi_t k hk
  have lo : (([0, (-9), 0, 0, (-9), 0] : List Int32).getD (sy_i F3 82).toInt.toNat 0).toInt = lLo k := by
    rw [m82, Int.toNat_natCast]
    exact lLo_t k hk
  have hlh := lLH k
  refine j2to_11 (by decide) F3 X1 X2 q3.1 (by omega) ?_ ?_ ?_ ?_
  · intro c0 c1 F4 hb4 g4
    refine ⟨_, F4, rfl, rfl, qq_on q3 hb4 g4 (by decide), ?_⟩
    rw [hi, m83] at c0
    rw [lo, m83] at c1
    rw [hx, m83]
    unfold hdz
    rw [if_neg (by omega), if_neg (by omega)]
  · intro c0 c1 F4 hb4 g4
    refine ⟨_, F4, rfl, rfl, qq_on q3 hb4 g4 (by decide), ?_⟩
    rw [hi, m83] at c0
    rw [lo, m83] at c1
    rw [hx, lo]
    unfold hdz
    by_cases z : x.toInt < lLo k
    · rw [if_pos z]
    · rw [if_neg z, if_neg (by omega)]
      omega
  · intro c0 c1 F4 hb4 g4
    refine ⟨_, F4, rfl, rfl, qq_on q3 hb4 g4 (by decide), ?_⟩
    rw [hi, m83] at c0
    rw [lo, hi] at c1
    rw [hx, hi]
    unfold hdz
    rw [if_neg (by omega)]
    by_cases z : lHi k < x.toInt
    · rw [if_pos z]
    · rw [if_neg z]
      omega
  · intro c0 c1
    rw [hi, lo] at c1
    exfalso
    omega
end W2
