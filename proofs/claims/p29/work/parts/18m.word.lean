/-! ===== the class: a word is cut out ===== -/
theorem cw_end {s : Nat} {F F1 F2 : Nat → sy_d} {X1 X2 : List jm_c} {n : Nat} {v A : Int32} {w : Int64} (hB : iv_in F1 iv_B0) (hf : ∀ j, j < 82 → F1 j = F j) (hj : jx_ok F1) (g : ∀ j, j < 82 → j ≠ 39 ∧ j ≠ 41 → F2 j = F1 j) (g1 : F2 39 = .inr (.inl (jm_upd (sy_ai F1 39) n v))) (g2 : F2 41 = .inr (.inr (jm_updL (sy_al F1 41) n w))) (h : ¬ v = 24) (ha : 0 ≤ A.toInt ∧ A.toInt ≤ 2000) : cn_Q s F X1 X2 (some (.int A)) (sy_dh F2 X1 X2 (iv_H s)) :=
  ⟨A, F2, rfl, rfl, ⟨cn_B hB g g1 g2, fun j hj h => by rw [g j hj h, hf j hj], jx_upd hj g1 g2 (fun h24 => absurd h24 h)⟩, ha.1, ha.2⟩
theorem cw_B {F F1 : Nat → sy_d} {m : List Int64} (hB : iv_in F iv_B0) (g : ∀ j, j < 82 → j ≠ 41 → F1 j = F j) (g2 : F1 41 = .inr (.inr m)) : iv_in F1 iv_B0 := hd_in1 hB (fun j t hj => by
  by_cases h' : j = 41
  · subst h'
    right
    have ht : t = iz3 := (Option.some.inj hj).symm
    rw [g2, ht]
    exact ⟨rfl, fun j => iv_fullL _⟩
  · exact Or.inl (g j (List.getElem?_eq_some_iff.mp hj).1 h'))
theorem cw0_70 {Ls : Nat} {xs : Nat → Int32} (F : Nat → sy_d) (X1 X2 : List jm_c) (F1 F2 : Nat → sy_d) (hB : iv_in F1 iv_B0) (hf : ∀ j, j < 82 → F1 j = F j) (hj : jx_ok F1) {nn A : Int32} {N : Int64} (hn : 0 ≤ nn.toInt ∧ nn.toInt < 401) (ha : 0 ≤ A.toInt ∧ A.toInt ≤ 2000) (g : ∀ j, j < 82 → j ≠ 41 → F2 j = F1 j) (g1 : F2 41 = .inr (.inr (jm_updL (sy_al F1 41) nn.toNatClampNeg N))) (g2 : F2 82 = .inl (.int A)) (g3 : F2 83 = .inl (.long N)) (g4 : F2 84 = .inl (.int nn)) :
    hd_W Ls xs 3 jm_M60 (cn_Q 0 F X1 X2) (70, sy_dL F2 [none, none, none, none, none, some (.inr (.inl 82)), none, none], sy_dS F2 [.inr (.inr 83), .inl (.ref 31), .inr (.inl 84), .inl (.ref 32)], sy_dh F2 X1 X2 (iv_H 0), 0, 0) := by
  have hB2 : iv_in F2 iv_B0 := cw_B hB g g1
  have hx : sy_dv F2 (.inr (.inr 83)) = .long N := by
    show Value.long (sy_l F2 83) = _
    rw [zz_l g3]
  refine hd_calI (R := fun y F' => (∀ j, j < 82 → F' j = F2 j) ∧ 0 ≤ y.toInt ∧ y.toInt ≤ 23) (nh := 82) (nv := 85) (s := 0) (s1 := 0) (d1 := 1) (M1 := jm_M62) (As := [.inl (.ref 31), .inr (.inr 83)]) (rest := [.inr (.inl 84), .inl (.ref 32)]) jm_ok60 rfl rfl (by decide) (by decide +kernel) (wk_T0 F2 X1 X2 hB2 hx) (fun F3 F' y hR p1 p2 p3 => ?_)
  obtain ⟨hf', y1, y2⟩ := hR
  have q : ∀ j, j < 82 → F3 j = F2 j := fun j hj => by rw [p1 j hj, hf' j hj]
  have hB3 : iv_in F3 iv_B0 := hd_in1 hB2 (fun j t hj => Or.inl (q j (List.getElem?_eq_some_iff.mp hj).1))
  have i84 : sy_i F3 84 = nn := zz_i ((p2 84 (by decide) (by decide)).trans g4)
  have i82 : sy_i F3 82 = A := zz_i ((p2 82 (by decide) (by decide)).trans g2)
  have i85 : sy_i F3 85 = y := zz_i p3
  refine cw0_73_0 (by decide) F3 X1 X2 hB3 (by rw [i84]; exact hn) (fun F4 w w1 => ?_)
  rw [i82]
  have e39 : sy_ai F3 39 = sy_ai F1 39 := by unfold sy_ai; rw [q 39 (by decide), g 39 (by decide) (by decide)]
  rw [e39, i84, i85] at w1
  have w2 : F4 41 = .inr (.inr (jm_updL (sy_al F1 41) nn.toNatClampNeg N)) := by rw [w 41 (by decide) (by decide), q 41 (by decide), g1]
  refine cw_end hB hf hj (fun j hj h => by rw [w j hj h.1, q j hj, g j hj h.2]) w1 w2 (fun e => ?_) ha
  have h24 : (24 : Int32).toInt = 24 := by decide
  rw [e, h24] at y2
  omega
theorem cw0_loop {Ls : Nat} {xs : Nat → Int32} (F : Nat → sy_d) (X1 X2 : List jm_c) : ∀ (n : Nat) (F1 : Nat → sy_d), iv_in F1 iv_B0 → (∀ j, j < 82 → F1 j = F j) → jx_ok F1 → (0 ≤ (sy_i F1 82).toInt ∧ (sy_i F1 82).toInt < 401) → (sy_i F1 84).toInt ≤ 2000 → (0 ≤ (sy_i F1 85).toInt ∧ (sy_i F1 85).toInt ≤ 2000) → (2000 - (sy_i F1 85).toInt).toNat = n →
    hd_W Ls xs 3 jm_M60 (cn_Q 0 F X1 X2) (6, sy_dL F1 [some (.inl (.ref 31)), some (.inr (.inl 82)), some (.inl (.ref 9)), some (.inr (.inl 83)), some (.inr (.inl 84)), some (.inr (.inl 85)), some (.inr (.inr 86)), none], sy_dS F1 [], sy_dh F1 X1 X2 (iv_H 0), 0, 0) := by
  intro n
  induction n with
  | zero =>
    intro F1 hB hf hj hn he ha hm
    by_cases h4 : ((sy_i F1 85) - (sy_i F1 83)).toInt ≤ 8
    · exact cw0_6_0 (by decide) F1 X1 X2 hB (by omega) hn h4 (fun F2 g g1 g2 g3 g4 => cw0_70 F X1 X2 F1 F2 hB hf hj hn ha g g1 g2 g3 g4)
    · exact cw0_6_1 (by decide) F1 X1 X2 hB (by omega) hn (Int.not_le.mp h4) hn (fun F2 g g1 g2 => cw_end hB hf hj g g1 g2 (by decide) ha)
  | succ n ih =>
    intro F1 hB hf hj hn he ha hm
    by_cases hlt : (sy_i F1 85).toInt < (sy_i F1 84).toInt
    · have h2000 : 0 ≤ (sy_i F1 85).toInt ∧ (sy_i F1 85).toInt < 2000 := ⟨ha.1, by omega⟩
      by_cases h48 : ((sy_ai F1 2).getD (sy_i F1 85).toNatClampNeg 0).toInt < 97
      · by_cases h4 : ((sy_i F1 85) - (sy_i F1 83)).toInt ≤ 8
        · exact cw0_6_2 (by decide) F1 X1 X2 hB hlt h2000 h48 hn h4 (fun F2 g g1 g2 g3 g4 => cw0_70 F X1 X2 F1 F2 hB hf hj hn ha g g1 g2 g3 g4)
        · exact cw0_6_3 (by decide) F1 X1 X2 hB hlt h2000 h48 hn (Int.not_le.mp h4) hn (fun F2 g g1 g2 => cw_end hB hf hj g g1 g2 (by decide) ha)
      · by_cases h57 : 122 < ((sy_ai F1 2).getD (sy_i F1 85).toNatClampNeg 0).toInt
        · by_cases h4 : ((sy_i F1 85) - (sy_i F1 83)).toInt ≤ 8
          · exact cw0_6_4 (by decide) F1 X1 X2 hB hlt h2000 (Int.not_lt.mp h48) h57 hn h4 (fun F2 g g1 g2 g3 g4 => cw0_70 F X1 X2 F1 F2 hB hf hj hn ha g g1 g2 g3 g4)
          · exact cw0_6_5 (by decide) F1 X1 X2 hB hlt h2000 (Int.not_lt.mp h48) h57 hn (Int.not_le.mp h4) hn (fun F2 g g1 g2 => cw_end hB hf hj g g1 g2 (by decide) ha)
        · have hinc := hd_inc1 ha.1 (by omega)
          refine cw0_6_6 (by decide) F1 X1 X2 hB hlt h2000 (Int.not_lt.mp h48) (Int.not_lt.mp h57) h2000 (fun F2 g g2 g3 g4 g5 g6 => ?_)
          have e2 := zz_i g2
          have e4 := zz_i g4
          have e5 := zz_i g5
          refine ih F2 (hd_in1 hB (fun j t hj => Or.inl (g j (List.getElem?_eq_some_iff.mp hj).1 trivial))) (fun j hj => by rw [g j hj trivial, hf j hj]) (jx_ok_eq (g 39 (by decide) trivial) (g 41 (by decide) trivial) hj) (by rw [e2]; exact hn) (by rw [e4]; exact he) ?_ ?_
          · rw [e5, hinc]; omega
          · rw [e5, hinc]; omega
    · by_cases h4 : ((sy_i F1 85) - (sy_i F1 83)).toInt ≤ 8
      · exact cw0_6_0 (by decide) F1 X1 X2 hB (Int.not_lt.mp hlt) hn h4 (fun F2 g g1 g2 g3 g4 => cw0_70 F X1 X2 F1 F2 hB hf hj hn ha g g1 g2 g3 g4)
      · exact cw0_6_1 (by decide) F1 X1 X2 hB (Int.not_lt.mp hlt) hn (Int.not_le.mp h4) hn (fun F2 g g1 g2 => cw_end hB hf hj g g1 g2 (by decide) ha)
theorem ok_0_60_31_9 : ct_ok jj k_0_60_31_9 := by
  intro M hM Ls xs F X1 X2 hE hJ
  have hM : jm_TB[60]? = some M := hM
  have e : jm_TB[60]? = some jm_M60 := rfl
  rw [e] at hM
  cases hM
  have hE : iv_in F (iv_B0 ++ [(0, 0, 400), (0, 0, 1999), (0, 1, 2000)]) := hE
  have hB : iv_in F iv_B0 := fun k t hk => hE k t (by rw [List.getElem?_append_left (List.getElem?_eq_some_iff.mp hk).1]; exact hk)
  have hJ : jx_ok F := hJ
  obtain ⟨x, hx, x1, x2⟩ := iv_h0 (hE 82 (0, 0, 400) rfl)
  obtain ⟨y, hy, y1, y2⟩ := iv_h0 (hE 83 (0, 0, 1999) rfl)
  obtain ⟨z, hz, z1, z2⟩ := iv_h0 (hE 84 (0, 1, 2000) rfl)
  have ex := zz_i hx
  have ey := zz_i hy
  have ez := zz_i hz
  refine jm_T_mono (P1 := cn_Q 0 F X1 X2) (hd_T (As := [.inl (.ref 31), .inr (.inl 82), .inl (.ref 9), .inr (.inl 83), .inr (.inl 84)]) jm_ok60 (by decide) (cw0_0_0 (by decide) F X1 X2 hB (fun F1 g g2 g3 g4 g5 g6 => ?_))) ?_
  · have e2 := zz_i g2
    have e4 := zz_i g4
    have e5 := zz_i g5
    rw [ex] at e2
    rw [ey] at e5
    rw [ez] at e4
    exact cw0_loop F X1 X2 _ F1 (hd_in1 hB (fun j t hj => Or.inl (g j (List.getElem?_eq_some_iff.mp hj).1 trivial))) (fun j hj => g j hj trivial) (jx_ok_eq (g 39 (by decide) trivial) (g 41 (by decide) trivial) hJ) (by rw [e2]; omega) (by rw [e4]; omega) (by rw [e5]; omega) rfl
  · rintro v G ⟨w, F', rfl, rfl, ⟨hB', hf, hj⟩, w1, w2⟩
    refine ⟨0, F', List.mem_cons_self, rfl, fun j hj hw => ?_, hB', ⟨rfl, w1, w2⟩, hj⟩
    have hw : ([39, 41] : List Nat).contains j = false := hw
    refine hf j hj ⟨?_, ?_⟩
    · intro q; subst q; exact absurd hw (by decide)
    · intro q; subst q; exact absurd hw (by decide)
theorem cw1_70 {Ls : Nat} {xs : Nat → Int32} (F : Nat → sy_d) (X1 X2 : List jm_c) (F1 F2 : Nat → sy_d) (hB : iv_in F1 iv_B0) (hf : ∀ j, j < 82 → F1 j = F j) (hj : jx_ok F1) {nn A : Int32} {N : Int64} (hn : 0 ≤ nn.toInt ∧ nn.toInt < 401) (ha : 0 ≤ A.toInt ∧ A.toInt ≤ 2000) (g : ∀ j, j < 82 → j ≠ 41 → F2 j = F1 j) (g1 : F2 41 = .inr (.inr (jm_updL (sy_al F1 41) nn.toNatClampNeg N))) (g2 : F2 82 = .inl (.int A)) (g3 : F2 83 = .inl (.long N)) (g4 : F2 84 = .inl (.int nn)) :
    hd_W Ls xs 3 jm_M60 (cn_Q 1 F X1 X2) (70, sy_dL F2 [none, none, none, none, none, some (.inr (.inl 82)), none, none], sy_dS F2 [.inr (.inr 83), .inl (.ref 31), .inr (.inl 84), .inl (.ref 32)], sy_dh F2 X1 X2 (iv_H 1), 0, 0) := by
  have hB2 : iv_in F2 iv_B0 := cw_B hB g g1
  have hx : sy_dv F2 (.inr (.inr 83)) = .long N := by
    show Value.long (sy_l F2 83) = _
    rw [zz_l g3]
  refine hd_calI (R := fun y F' => (∀ j, j < 82 → F' j = F2 j) ∧ 0 ≤ y.toInt ∧ y.toInt ≤ 23) (nh := 82) (nv := 85) (s := 1) (s1 := 1) (d1 := 1) (M1 := jm_M62) (As := [.inl (.ref 31), .inr (.inr 83)]) (rest := [.inr (.inl 84), .inl (.ref 32)]) jm_ok60 rfl rfl (by decide) (by decide +kernel) (wk_T1 F2 X1 X2 hB2 hx) (fun F3 F' y hR p1 p2 p3 => ?_)
  obtain ⟨hf', y1, y2⟩ := hR
  have q : ∀ j, j < 82 → F3 j = F2 j := fun j hj => by rw [p1 j hj, hf' j hj]
  have hB3 : iv_in F3 iv_B0 := hd_in1 hB2 (fun j t hj => Or.inl (q j (List.getElem?_eq_some_iff.mp hj).1))
  have i84 : sy_i F3 84 = nn := zz_i ((p2 84 (by decide) (by decide)).trans g4)
  have i82 : sy_i F3 82 = A := zz_i ((p2 82 (by decide) (by decide)).trans g2)
  have i85 : sy_i F3 85 = y := zz_i p3
  refine cw1_73_0 (by decide) F3 X1 X2 hB3 (by rw [i84]; exact hn) (fun F4 w w1 => ?_)
  rw [i82]
  have e39 : sy_ai F3 39 = sy_ai F1 39 := by unfold sy_ai; rw [q 39 (by decide), g 39 (by decide) (by decide)]
  rw [e39, i84, i85] at w1
  have w2 : F4 41 = .inr (.inr (jm_updL (sy_al F1 41) nn.toNatClampNeg N)) := by rw [w 41 (by decide) (by decide), q 41 (by decide), g1]
  refine cw_end hB hf hj (fun j hj h => by rw [w j hj h.1, q j hj, g j hj h.2]) w1 w2 (fun e => ?_) ha
  have h24 : (24 : Int32).toInt = 24 := by decide
  rw [e, h24] at y2
  omega
theorem cw1_loop {Ls : Nat} {xs : Nat → Int32} (F : Nat → sy_d) (X1 X2 : List jm_c) : ∀ (n : Nat) (F1 : Nat → sy_d), iv_in F1 iv_B0 → (∀ j, j < 82 → F1 j = F j) → jx_ok F1 → (0 ≤ (sy_i F1 82).toInt ∧ (sy_i F1 82).toInt < 401) → (sy_i F1 84).toInt ≤ 2000 → (0 ≤ (sy_i F1 85).toInt ∧ (sy_i F1 85).toInt ≤ 2000) → (2000 - (sy_i F1 85).toInt).toNat = n →
    hd_W Ls xs 3 jm_M60 (cn_Q 1 F X1 X2) (6, sy_dL F1 [some (.inl (.ref 31)), some (.inr (.inl 82)), some (.inl (.ref 9)), some (.inr (.inl 83)), some (.inr (.inl 84)), some (.inr (.inl 85)), some (.inr (.inr 86)), none], sy_dS F1 [], sy_dh F1 X1 X2 (iv_H 1), 0, 0) := by
  intro n
  induction n with
  | zero =>
    intro F1 hB hf hj hn he ha hm
    by_cases h4 : ((sy_i F1 85) - (sy_i F1 83)).toInt ≤ 8
    · exact cw1_6_0 (by decide) F1 X1 X2 hB (by omega) hn h4 (fun F2 g g1 g2 g3 g4 => cw1_70 F X1 X2 F1 F2 hB hf hj hn ha g g1 g2 g3 g4)
    · exact cw1_6_1 (by decide) F1 X1 X2 hB (by omega) hn (Int.not_le.mp h4) hn (fun F2 g g1 g2 => cw_end hB hf hj g g1 g2 (by decide) ha)
  | succ n ih =>
    intro F1 hB hf hj hn he ha hm
    by_cases hlt : (sy_i F1 85).toInt < (sy_i F1 84).toInt
    · have h2000 : 0 ≤ (sy_i F1 85).toInt ∧ (sy_i F1 85).toInt < 2000 := ⟨ha.1, by omega⟩
      by_cases h48 : ((sy_ai F1 2).getD (sy_i F1 85).toNatClampNeg 0).toInt < 97
      · by_cases h4 : ((sy_i F1 85) - (sy_i F1 83)).toInt ≤ 8
        · exact cw1_6_2 (by decide) F1 X1 X2 hB hlt h2000 h48 hn h4 (fun F2 g g1 g2 g3 g4 => cw1_70 F X1 X2 F1 F2 hB hf hj hn ha g g1 g2 g3 g4)
        · exact cw1_6_3 (by decide) F1 X1 X2 hB hlt h2000 h48 hn (Int.not_le.mp h4) hn (fun F2 g g1 g2 => cw_end hB hf hj g g1 g2 (by decide) ha)
      · by_cases h57 : 122 < ((sy_ai F1 2).getD (sy_i F1 85).toNatClampNeg 0).toInt
        · by_cases h4 : ((sy_i F1 85) - (sy_i F1 83)).toInt ≤ 8
          · exact cw1_6_4 (by decide) F1 X1 X2 hB hlt h2000 (Int.not_lt.mp h48) h57 hn h4 (fun F2 g g1 g2 g3 g4 => cw1_70 F X1 X2 F1 F2 hB hf hj hn ha g g1 g2 g3 g4)
          · exact cw1_6_5 (by decide) F1 X1 X2 hB hlt h2000 (Int.not_lt.mp h48) h57 hn (Int.not_le.mp h4) hn (fun F2 g g1 g2 => cw_end hB hf hj g g1 g2 (by decide) ha)
        · have hinc := hd_inc1 ha.1 (by omega)
          refine cw1_6_6 (by decide) F1 X1 X2 hB hlt h2000 (Int.not_lt.mp h48) (Int.not_lt.mp h57) h2000 (fun F2 g g2 g3 g4 g5 g6 => ?_)
          have e2 := zz_i g2
          have e4 := zz_i g4
          have e5 := zz_i g5
          refine ih F2 (hd_in1 hB (fun j t hj => Or.inl (g j (List.getElem?_eq_some_iff.mp hj).1 trivial))) (fun j hj => by rw [g j hj trivial, hf j hj]) (jx_ok_eq (g 39 (by decide) trivial) (g 41 (by decide) trivial) hj) (by rw [e2]; exact hn) (by rw [e4]; exact he) ?_ ?_
          · rw [e5, hinc]; omega
          · rw [e5, hinc]; omega
    · by_cases h4 : ((sy_i F1 85) - (sy_i F1 83)).toInt ≤ 8
      · exact cw1_6_0 (by decide) F1 X1 X2 hB (Int.not_lt.mp hlt) hn h4 (fun F2 g g1 g2 g3 g4 => cw1_70 F X1 X2 F1 F2 hB hf hj hn ha g g1 g2 g3 g4)
      · exact cw1_6_1 (by decide) F1 X1 X2 hB (Int.not_lt.mp hlt) hn (Int.not_le.mp h4) hn (fun F2 g g1 g2 => cw_end hB hf hj g g1 g2 (by decide) ha)
theorem ok_1_60_31_9 : ct_ok jj k_1_60_31_9 := by
  intro M hM Ls xs F X1 X2 hE hJ
  have hM : jm_TB[60]? = some M := hM
  have e : jm_TB[60]? = some jm_M60 := rfl
  rw [e] at hM
  cases hM
  have hE : iv_in F (iv_B0 ++ [(0, 0, 400), (0, 0, 1999), (0, 1, 2000)]) := hE
  have hB : iv_in F iv_B0 := fun k t hk => hE k t (by rw [List.getElem?_append_left (List.getElem?_eq_some_iff.mp hk).1]; exact hk)
  have hJ : jx_ok F := hJ
  obtain ⟨x, hx, x1, x2⟩ := iv_h0 (hE 82 (0, 0, 400) rfl)
  obtain ⟨y, hy, y1, y2⟩ := iv_h0 (hE 83 (0, 0, 1999) rfl)
  obtain ⟨z, hz, z1, z2⟩ := iv_h0 (hE 84 (0, 1, 2000) rfl)
  have ex := zz_i hx
  have ey := zz_i hy
  have ez := zz_i hz
  refine jm_T_mono (P1 := cn_Q 1 F X1 X2) (hd_T (As := [.inl (.ref 31), .inr (.inl 82), .inl (.ref 9), .inr (.inl 83), .inr (.inl 84)]) jm_ok60 (by decide) (cw1_0_0 (by decide) F X1 X2 hB (fun F1 g g2 g3 g4 g5 g6 => ?_))) ?_
  · have e2 := zz_i g2
    have e4 := zz_i g4
    have e5 := zz_i g5
    rw [ex] at e2
    rw [ey] at e5
    rw [ez] at e4
    exact cw1_loop F X1 X2 _ F1 (hd_in1 hB (fun j t hj => Or.inl (g j (List.getElem?_eq_some_iff.mp hj).1 trivial))) (fun j hj => g j hj trivial) (jx_ok_eq (g 39 (by decide) trivial) (g 41 (by decide) trivial) hJ) (by rw [e2]; omega) (by rw [e4]; omega) (by rw [e5]; omega) rfl
  · rintro v G ⟨w, F', rfl, rfl, ⟨hB', hf, hj⟩, w1, w2⟩
    refine ⟨1, F', List.mem_cons_self, rfl, fun j hj hw => ?_, hB', ⟨rfl, w1, w2⟩, hj⟩
    have hw : ([39, 41] : List Nat).contains j = false := hw
    refine hf j hj ⟨?_, ?_⟩
    · intro q; subst q; exact absurd hw (by decide)
    · intro q; subst q; exact absurd hw (by decide)
theorem cw2_70 {Ls : Nat} {xs : Nat → Int32} (F : Nat → sy_d) (X1 X2 : List jm_c) (F1 F2 : Nat → sy_d) (hB : iv_in F1 iv_B0) (hf : ∀ j, j < 82 → F1 j = F j) (hj : jx_ok F1) {nn A : Int32} {N : Int64} (hn : 0 ≤ nn.toInt ∧ nn.toInt < 401) (ha : 0 ≤ A.toInt ∧ A.toInt ≤ 2000) (g : ∀ j, j < 82 → j ≠ 41 → F2 j = F1 j) (g1 : F2 41 = .inr (.inr (jm_updL (sy_al F1 41) nn.toNatClampNeg N))) (g2 : F2 82 = .inl (.int A)) (g3 : F2 83 = .inl (.long N)) (g4 : F2 84 = .inl (.int nn)) :
    hd_W Ls xs 3 jm_M60 (cn_Q 2 F X1 X2) (70, sy_dL F2 [none, none, none, none, none, some (.inr (.inl 82)), none, none], sy_dS F2 [.inr (.inr 83), .inl (.ref 31), .inr (.inl 84), .inl (.ref 32)], sy_dh F2 X1 X2 (iv_H 2), 0, 0) := by
  have hB2 : iv_in F2 iv_B0 := cw_B hB g g1
  have hx : sy_dv F2 (.inr (.inr 83)) = .long N := by
    show Value.long (sy_l F2 83) = _
    rw [zz_l g3]
  refine hd_calI (R := fun y F' => (∀ j, j < 82 → F' j = F2 j) ∧ 0 ≤ y.toInt ∧ y.toInt ≤ 23) (nh := 82) (nv := 85) (s := 2) (s1 := 2) (d1 := 1) (M1 := jm_M62) (As := [.inl (.ref 31), .inr (.inr 83)]) (rest := [.inr (.inl 84), .inl (.ref 32)]) jm_ok60 rfl rfl (by decide) (by decide +kernel) (wk_T2 F2 X1 X2 hB2 hx) (fun F3 F' y hR p1 p2 p3 => ?_)
  obtain ⟨hf', y1, y2⟩ := hR
  have q : ∀ j, j < 82 → F3 j = F2 j := fun j hj => by rw [p1 j hj, hf' j hj]
  have hB3 : iv_in F3 iv_B0 := hd_in1 hB2 (fun j t hj => Or.inl (q j (List.getElem?_eq_some_iff.mp hj).1))
  have i84 : sy_i F3 84 = nn := zz_i ((p2 84 (by decide) (by decide)).trans g4)
  have i82 : sy_i F3 82 = A := zz_i ((p2 82 (by decide) (by decide)).trans g2)
  have i85 : sy_i F3 85 = y := zz_i p3
  refine cw2_73_0 (by decide) F3 X1 X2 hB3 (by rw [i84]; exact hn) (fun F4 w w1 => ?_)
  rw [i82]
  have e39 : sy_ai F3 39 = sy_ai F1 39 := by unfold sy_ai; rw [q 39 (by decide), g 39 (by decide) (by decide)]
  rw [e39, i84, i85] at w1
  have w2 : F4 41 = .inr (.inr (jm_updL (sy_al F1 41) nn.toNatClampNeg N)) := by rw [w 41 (by decide) (by decide), q 41 (by decide), g1]
  refine cw_end hB hf hj (fun j hj h => by rw [w j hj h.1, q j hj, g j hj h.2]) w1 w2 (fun e => ?_) ha
  have h24 : (24 : Int32).toInt = 24 := by decide
  rw [e, h24] at y2
  omega
theorem cw2_loop {Ls : Nat} {xs : Nat → Int32} (F : Nat → sy_d) (X1 X2 : List jm_c) : ∀ (n : Nat) (F1 : Nat → sy_d), iv_in F1 iv_B0 → (∀ j, j < 82 → F1 j = F j) → jx_ok F1 → (0 ≤ (sy_i F1 82).toInt ∧ (sy_i F1 82).toInt < 401) → (sy_i F1 84).toInt ≤ 2000 → (0 ≤ (sy_i F1 85).toInt ∧ (sy_i F1 85).toInt ≤ 2000) → (2000 - (sy_i F1 85).toInt).toNat = n →
    hd_W Ls xs 3 jm_M60 (cn_Q 2 F X1 X2) (6, sy_dL F1 [some (.inl (.ref 31)), some (.inr (.inl 82)), some (.inl (.ref 9)), some (.inr (.inl 83)), some (.inr (.inl 84)), some (.inr (.inl 85)), some (.inr (.inr 86)), none], sy_dS F1 [], sy_dh F1 X1 X2 (iv_H 2), 0, 0) := by
  intro n
  induction n with
  | zero =>
    intro F1 hB hf hj hn he ha hm
    by_cases h4 : ((sy_i F1 85) - (sy_i F1 83)).toInt ≤ 8
    · exact cw2_6_0 (by decide) F1 X1 X2 hB (by omega) hn h4 (fun F2 g g1 g2 g3 g4 => cw2_70 F X1 X2 F1 F2 hB hf hj hn ha g g1 g2 g3 g4)
    · exact cw2_6_1 (by decide) F1 X1 X2 hB (by omega) hn (Int.not_le.mp h4) hn (fun F2 g g1 g2 => cw_end hB hf hj g g1 g2 (by decide) ha)
  | succ n ih =>
    intro F1 hB hf hj hn he ha hm
    by_cases hlt : (sy_i F1 85).toInt < (sy_i F1 84).toInt
    · have h2000 : 0 ≤ (sy_i F1 85).toInt ∧ (sy_i F1 85).toInt < 2000 := ⟨ha.1, by omega⟩
      by_cases h48 : ((sy_ai F1 2).getD (sy_i F1 85).toNatClampNeg 0).toInt < 97
      · by_cases h4 : ((sy_i F1 85) - (sy_i F1 83)).toInt ≤ 8
        · exact cw2_6_2 (by decide) F1 X1 X2 hB hlt h2000 h48 hn h4 (fun F2 g g1 g2 g3 g4 => cw2_70 F X1 X2 F1 F2 hB hf hj hn ha g g1 g2 g3 g4)
        · exact cw2_6_3 (by decide) F1 X1 X2 hB hlt h2000 h48 hn (Int.not_le.mp h4) hn (fun F2 g g1 g2 => cw_end hB hf hj g g1 g2 (by decide) ha)
      · by_cases h57 : 122 < ((sy_ai F1 2).getD (sy_i F1 85).toNatClampNeg 0).toInt
        · by_cases h4 : ((sy_i F1 85) - (sy_i F1 83)).toInt ≤ 8
          · exact cw2_6_4 (by decide) F1 X1 X2 hB hlt h2000 (Int.not_lt.mp h48) h57 hn h4 (fun F2 g g1 g2 g3 g4 => cw2_70 F X1 X2 F1 F2 hB hf hj hn ha g g1 g2 g3 g4)
          · exact cw2_6_5 (by decide) F1 X1 X2 hB hlt h2000 (Int.not_lt.mp h48) h57 hn (Int.not_le.mp h4) hn (fun F2 g g1 g2 => cw_end hB hf hj g g1 g2 (by decide) ha)
        · have hinc := hd_inc1 ha.1 (by omega)
          refine cw2_6_6 (by decide) F1 X1 X2 hB hlt h2000 (Int.not_lt.mp h48) (Int.not_lt.mp h57) h2000 (fun F2 g g2 g3 g4 g5 g6 => ?_)
          have e2 := zz_i g2
          have e4 := zz_i g4
          have e5 := zz_i g5
          refine ih F2 (hd_in1 hB (fun j t hj => Or.inl (g j (List.getElem?_eq_some_iff.mp hj).1 trivial))) (fun j hj => by rw [g j hj trivial, hf j hj]) (jx_ok_eq (g 39 (by decide) trivial) (g 41 (by decide) trivial) hj) (by rw [e2]; exact hn) (by rw [e4]; exact he) ?_ ?_
          · rw [e5, hinc]; omega
          · rw [e5, hinc]; omega
    · by_cases h4 : ((sy_i F1 85) - (sy_i F1 83)).toInt ≤ 8
      · exact cw2_6_0 (by decide) F1 X1 X2 hB (Int.not_lt.mp hlt) hn h4 (fun F2 g g1 g2 g3 g4 => cw2_70 F X1 X2 F1 F2 hB hf hj hn ha g g1 g2 g3 g4)
      · exact cw2_6_1 (by decide) F1 X1 X2 hB (Int.not_lt.mp hlt) hn (Int.not_le.mp h4) hn (fun F2 g g1 g2 => cw_end hB hf hj g g1 g2 (by decide) ha)
theorem ok_2_60_31_9 : ct_ok jj k_2_60_31_9 := by
  intro M hM Ls xs F X1 X2 hE hJ
  have hM : jm_TB[60]? = some M := hM
  have e : jm_TB[60]? = some jm_M60 := rfl
  rw [e] at hM
  cases hM
  have hE : iv_in F (iv_B0 ++ [(0, 0, 400), (0, 0, 1999), (0, 1, 2000)]) := hE
  have hB : iv_in F iv_B0 := fun k t hk => hE k t (by rw [List.getElem?_append_left (List.getElem?_eq_some_iff.mp hk).1]; exact hk)
  have hJ : jx_ok F := hJ
  obtain ⟨x, hx, x1, x2⟩ := iv_h0 (hE 82 (0, 0, 400) rfl)
  obtain ⟨y, hy, y1, y2⟩ := iv_h0 (hE 83 (0, 0, 1999) rfl)
  obtain ⟨z, hz, z1, z2⟩ := iv_h0 (hE 84 (0, 1, 2000) rfl)
  have ex := zz_i hx
  have ey := zz_i hy
  have ez := zz_i hz
  refine jm_T_mono (P1 := cn_Q 2 F X1 X2) (hd_T (As := [.inl (.ref 31), .inr (.inl 82), .inl (.ref 9), .inr (.inl 83), .inr (.inl 84)]) jm_ok60 (by decide) (cw2_0_0 (by decide) F X1 X2 hB (fun F1 g g2 g3 g4 g5 g6 => ?_))) ?_
  · have e2 := zz_i g2
    have e4 := zz_i g4
    have e5 := zz_i g5
    rw [ex] at e2
    rw [ey] at e5
    rw [ez] at e4
    exact cw2_loop F X1 X2 _ F1 (hd_in1 hB (fun j t hj => Or.inl (g j (List.getElem?_eq_some_iff.mp hj).1 trivial))) (fun j hj => g j hj trivial) (jx_ok_eq (g 39 (by decide) trivial) (g 41 (by decide) trivial) hJ) (by rw [e2]; omega) (by rw [e4]; omega) (by rw [e5]; omega) rfl
  · rintro v G ⟨w, F', rfl, rfl, ⟨hB', hf, hj⟩, w1, w2⟩
    refine ⟨2, F', List.mem_cons_self, rfl, fun j hj hw => ?_, hB', ⟨rfl, w1, w2⟩, hj⟩
    have hw : ([39, 41] : List Nat).contains j = false := hw
    refine hf j hj ⟨?_, ?_⟩
    · intro q; subst q; exact absurd hw (by decide)
    · intro q; subst q; exact absurd hw (by decide)
theorem cw3_70 {Ls : Nat} {xs : Nat → Int32} (F : Nat → sy_d) (X1 X2 : List jm_c) (F1 F2 : Nat → sy_d) (hB : iv_in F1 iv_B0) (hf : ∀ j, j < 82 → F1 j = F j) (hj : jx_ok F1) {nn A : Int32} {N : Int64} (hn : 0 ≤ nn.toInt ∧ nn.toInt < 401) (ha : 0 ≤ A.toInt ∧ A.toInt ≤ 2000) (g : ∀ j, j < 82 → j ≠ 41 → F2 j = F1 j) (g1 : F2 41 = .inr (.inr (jm_updL (sy_al F1 41) nn.toNatClampNeg N))) (g2 : F2 82 = .inl (.int A)) (g3 : F2 83 = .inl (.long N)) (g4 : F2 84 = .inl (.int nn)) :
    hd_W Ls xs 3 jm_M60 (cn_Q 3 F X1 X2) (70, sy_dL F2 [none, none, none, none, none, some (.inr (.inl 82)), none, none], sy_dS F2 [.inr (.inr 83), .inl (.ref 31), .inr (.inl 84), .inl (.ref 32)], sy_dh F2 X1 X2 (iv_H 3), 0, 0) := by
  have hB2 : iv_in F2 iv_B0 := cw_B hB g g1
  have hx : sy_dv F2 (.inr (.inr 83)) = .long N := by
    show Value.long (sy_l F2 83) = _
    rw [zz_l g3]
  refine hd_calI (R := fun y F' => (∀ j, j < 82 → F' j = F2 j) ∧ 0 ≤ y.toInt ∧ y.toInt ≤ 23) (nh := 82) (nv := 85) (s := 3) (s1 := 3) (d1 := 1) (M1 := jm_M62) (As := [.inl (.ref 31), .inr (.inr 83)]) (rest := [.inr (.inl 84), .inl (.ref 32)]) jm_ok60 rfl rfl (by decide) (by decide +kernel) (wk_T3 F2 X1 X2 hB2 hx) (fun F3 F' y hR p1 p2 p3 => ?_)
  obtain ⟨hf', y1, y2⟩ := hR
  have q : ∀ j, j < 82 → F3 j = F2 j := fun j hj => by rw [p1 j hj, hf' j hj]
  have hB3 : iv_in F3 iv_B0 := hd_in1 hB2 (fun j t hj => Or.inl (q j (List.getElem?_eq_some_iff.mp hj).1))
  have i84 : sy_i F3 84 = nn := zz_i ((p2 84 (by decide) (by decide)).trans g4)
  have i82 : sy_i F3 82 = A := zz_i ((p2 82 (by decide) (by decide)).trans g2)
  have i85 : sy_i F3 85 = y := zz_i p3
  refine cw3_73_0 (by decide) F3 X1 X2 hB3 (by rw [i84]; exact hn) (fun F4 w w1 => ?_)
  rw [i82]
  have e39 : sy_ai F3 39 = sy_ai F1 39 := by unfold sy_ai; rw [q 39 (by decide), g 39 (by decide) (by decide)]
  rw [e39, i84, i85] at w1
  have w2 : F4 41 = .inr (.inr (jm_updL (sy_al F1 41) nn.toNatClampNeg N)) := by rw [w 41 (by decide) (by decide), q 41 (by decide), g1]
  refine cw_end hB hf hj (fun j hj h => by rw [w j hj h.1, q j hj, g j hj h.2]) w1 w2 (fun e => ?_) ha
  have h24 : (24 : Int32).toInt = 24 := by decide
  rw [e, h24] at y2
  omega
theorem cw3_loop {Ls : Nat} {xs : Nat → Int32} (F : Nat → sy_d) (X1 X2 : List jm_c) : ∀ (n : Nat) (F1 : Nat → sy_d), iv_in F1 iv_B0 → (∀ j, j < 82 → F1 j = F j) → jx_ok F1 → (0 ≤ (sy_i F1 82).toInt ∧ (sy_i F1 82).toInt < 401) → (sy_i F1 84).toInt ≤ 2000 → (0 ≤ (sy_i F1 85).toInt ∧ (sy_i F1 85).toInt ≤ 2000) → (2000 - (sy_i F1 85).toInt).toNat = n →
    hd_W Ls xs 3 jm_M60 (cn_Q 3 F X1 X2) (6, sy_dL F1 [some (.inl (.ref 31)), some (.inr (.inl 82)), some (.inl (.ref 9)), some (.inr (.inl 83)), some (.inr (.inl 84)), some (.inr (.inl 85)), some (.inr (.inr 86)), none], sy_dS F1 [], sy_dh F1 X1 X2 (iv_H 3), 0, 0) := by
  intro n
  induction n with
  | zero =>
    intro F1 hB hf hj hn he ha hm
    by_cases h4 : ((sy_i F1 85) - (sy_i F1 83)).toInt ≤ 8
    · exact cw3_6_0 (by decide) F1 X1 X2 hB (by omega) hn h4 (fun F2 g g1 g2 g3 g4 => cw3_70 F X1 X2 F1 F2 hB hf hj hn ha g g1 g2 g3 g4)
    · exact cw3_6_1 (by decide) F1 X1 X2 hB (by omega) hn (Int.not_le.mp h4) hn (fun F2 g g1 g2 => cw_end hB hf hj g g1 g2 (by decide) ha)
  | succ n ih =>
    intro F1 hB hf hj hn he ha hm
    by_cases hlt : (sy_i F1 85).toInt < (sy_i F1 84).toInt
    · have h2000 : 0 ≤ (sy_i F1 85).toInt ∧ (sy_i F1 85).toInt < 2000 := ⟨ha.1, by omega⟩
      by_cases h48 : ((sy_ai F1 2).getD (sy_i F1 85).toNatClampNeg 0).toInt < 97
      · by_cases h4 : ((sy_i F1 85) - (sy_i F1 83)).toInt ≤ 8
        · exact cw3_6_2 (by decide) F1 X1 X2 hB hlt h2000 h48 hn h4 (fun F2 g g1 g2 g3 g4 => cw3_70 F X1 X2 F1 F2 hB hf hj hn ha g g1 g2 g3 g4)
        · exact cw3_6_3 (by decide) F1 X1 X2 hB hlt h2000 h48 hn (Int.not_le.mp h4) hn (fun F2 g g1 g2 => cw_end hB hf hj g g1 g2 (by decide) ha)
      · by_cases h57 : 122 < ((sy_ai F1 2).getD (sy_i F1 85).toNatClampNeg 0).toInt
        · by_cases h4 : ((sy_i F1 85) - (sy_i F1 83)).toInt ≤ 8
          · exact cw3_6_4 (by decide) F1 X1 X2 hB hlt h2000 (Int.not_lt.mp h48) h57 hn h4 (fun F2 g g1 g2 g3 g4 => cw3_70 F X1 X2 F1 F2 hB hf hj hn ha g g1 g2 g3 g4)
          · exact cw3_6_5 (by decide) F1 X1 X2 hB hlt h2000 (Int.not_lt.mp h48) h57 hn (Int.not_le.mp h4) hn (fun F2 g g1 g2 => cw_end hB hf hj g g1 g2 (by decide) ha)
        · have hinc := hd_inc1 ha.1 (by omega)
          refine cw3_6_6 (by decide) F1 X1 X2 hB hlt h2000 (Int.not_lt.mp h48) (Int.not_lt.mp h57) h2000 (fun F2 g g2 g3 g4 g5 g6 => ?_)
          have e2 := zz_i g2
          have e4 := zz_i g4
          have e5 := zz_i g5
          refine ih F2 (hd_in1 hB (fun j t hj => Or.inl (g j (List.getElem?_eq_some_iff.mp hj).1 trivial))) (fun j hj => by rw [g j hj trivial, hf j hj]) (jx_ok_eq (g 39 (by decide) trivial) (g 41 (by decide) trivial) hj) (by rw [e2]; exact hn) (by rw [e4]; exact he) ?_ ?_
          · rw [e5, hinc]; omega
          · rw [e5, hinc]; omega
    · by_cases h4 : ((sy_i F1 85) - (sy_i F1 83)).toInt ≤ 8
      · exact cw3_6_0 (by decide) F1 X1 X2 hB (Int.not_lt.mp hlt) hn h4 (fun F2 g g1 g2 g3 g4 => cw3_70 F X1 X2 F1 F2 hB hf hj hn ha g g1 g2 g3 g4)
      · exact cw3_6_1 (by decide) F1 X1 X2 hB (Int.not_lt.mp hlt) hn (Int.not_le.mp h4) hn (fun F2 g g1 g2 => cw_end hB hf hj g g1 g2 (by decide) ha)
theorem ok_3_60_31_9 : ct_ok jj k_3_60_31_9 := by
  intro M hM Ls xs F X1 X2 hE hJ
  have hM : jm_TB[60]? = some M := hM
  have e : jm_TB[60]? = some jm_M60 := rfl
  rw [e] at hM
  cases hM
  have hE : iv_in F (iv_B0 ++ [(0, 0, 400), (0, 0, 1999), (0, 1, 2000)]) := hE
  have hB : iv_in F iv_B0 := fun k t hk => hE k t (by rw [List.getElem?_append_left (List.getElem?_eq_some_iff.mp hk).1]; exact hk)
  have hJ : jx_ok F := hJ
  obtain ⟨x, hx, x1, x2⟩ := iv_h0 (hE 82 (0, 0, 400) rfl)
  obtain ⟨y, hy, y1, y2⟩ := iv_h0 (hE 83 (0, 0, 1999) rfl)
  obtain ⟨z, hz, z1, z2⟩ := iv_h0 (hE 84 (0, 1, 2000) rfl)
  have ex := zz_i hx
  have ey := zz_i hy
  have ez := zz_i hz
  refine jm_T_mono (P1 := cn_Q 3 F X1 X2) (hd_T (As := [.inl (.ref 31), .inr (.inl 82), .inl (.ref 9), .inr (.inl 83), .inr (.inl 84)]) jm_ok60 (by decide) (cw3_0_0 (by decide) F X1 X2 hB (fun F1 g g2 g3 g4 g5 g6 => ?_))) ?_
  · have e2 := zz_i g2
    have e4 := zz_i g4
    have e5 := zz_i g5
    rw [ex] at e2
    rw [ey] at e5
    rw [ez] at e4
    exact cw3_loop F X1 X2 _ F1 (hd_in1 hB (fun j t hj => Or.inl (g j (List.getElem?_eq_some_iff.mp hj).1 trivial))) (fun j hj => g j hj trivial) (jx_ok_eq (g 39 (by decide) trivial) (g 41 (by decide) trivial) hJ) (by rw [e2]; omega) (by rw [e4]; omega) (by rw [e5]; omega) rfl
  · rintro v G ⟨w, F', rfl, rfl, ⟨hB', hf, hj⟩, w1, w2⟩
    refine ⟨3, F', List.mem_cons_self, rfl, fun j hj hw => ?_, hB', ⟨rfl, w1, w2⟩, hj⟩
    have hw : ([39, 41] : List Nat).contains j = false := hw
    refine hf j hj ⟨?_, ?_⟩
    · intro q; subst q; exact absurd hw (by decide)
    · intro q; subst q; exact absurd hw (by decide)
