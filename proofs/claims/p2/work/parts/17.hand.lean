/-! ===== contracts that are shown by hand ===== -/
noncomputable def iv_ov (B : List iv_t) : List (Nat × iv_t) → List iv_t
  | [] => B
  | q :: r => (iv_ov B r).set q.1 q.2
noncomputable def k_0_61_31_9 : iv_ct := (61, [.inl (.ref 31), .inr (.inl 82), .inl (.ref 9), .inr (.inl 83), .inr (.inl 84)], 0, [0], iv_B0 ++ [(0, 0, 400), (0, 0, 1999), (0, 1, 2000)], [39, 41], iv_B0, some (0, 0, 2000), 2)
theorem ok_0_61_31_9 : ct_ok jj k_0_61_31_9 := sorry
noncomputable def k_0_60_31_9 : iv_ct := (60, [.inl (.ref 31), .inr (.inl 82), .inl (.ref 9), .inr (.inl 83), .inr (.inl 84)], 0, [0], iv_B0 ++ [(0, 0, 400), (0, 0, 1999), (0, 1, 2000)], [39, 41], iv_B0, some (0, 0, 2000), 3)
theorem ok_0_60_31_9 : ct_ok jj k_0_60_31_9 := sorry
noncomputable def k_1_61_31_9 : iv_ct := (61, [.inl (.ref 31), .inr (.inl 82), .inl (.ref 9), .inr (.inl 83), .inr (.inl 84)], 1, [1], iv_B0 ++ [(0, 0, 400), (0, 0, 1999), (0, 1, 2000)], [39, 41], iv_B0, some (0, 0, 2000), 2)
theorem ok_1_61_31_9 : ct_ok jj k_1_61_31_9 := sorry
noncomputable def k_1_60_31_9 : iv_ct := (60, [.inl (.ref 31), .inr (.inl 82), .inl (.ref 9), .inr (.inl 83), .inr (.inl 84)], 1, [1], iv_B0 ++ [(0, 0, 400), (0, 0, 1999), (0, 1, 2000)], [39, 41], iv_B0, some (0, 0, 2000), 3)
theorem ok_1_60_31_9 : ct_ok jj k_1_60_31_9 := sorry
noncomputable def k_2_61_31_9 : iv_ct := (61, [.inl (.ref 31), .inr (.inl 82), .inl (.ref 9), .inr (.inl 83), .inr (.inl 84)], 2, [2], iv_B0 ++ [(0, 0, 400), (0, 0, 1999), (0, 1, 2000)], [39, 41], iv_B0, some (0, 0, 2000), 2)
theorem ok_2_61_31_9 : ct_ok jj k_2_61_31_9 := sorry
noncomputable def k_2_60_31_9 : iv_ct := (60, [.inl (.ref 31), .inr (.inl 82), .inl (.ref 9), .inr (.inl 83), .inr (.inl 84)], 2, [2], iv_B0 ++ [(0, 0, 400), (0, 0, 1999), (0, 1, 2000)], [39, 41], iv_B0, some (0, 0, 2000), 3)
theorem ok_2_60_31_9 : ct_ok jj k_2_60_31_9 := sorry
noncomputable def k_3_61_31_9 : iv_ct := (61, [.inl (.ref 31), .inr (.inl 82), .inl (.ref 9), .inr (.inl 83), .inr (.inl 84)], 3, [3], iv_B0 ++ [(0, 0, 400), (0, 0, 1999), (0, 1, 2000)], [39, 41], iv_B0, some (0, 0, 2000), 2)
theorem ok_3_61_31_9 : ct_ok jj k_3_61_31_9 := sorry
noncomputable def k_3_60_31_9 : iv_ct := (60, [.inl (.ref 31), .inr (.inl 82), .inl (.ref 9), .inr (.inl 83), .inr (.inl 84)], 3, [3], iv_B0 ++ [(0, 0, 400), (0, 0, 1999), (0, 1, 2000)], [39, 41], iv_B0, some (0, 0, 2000), 3)
theorem ok_3_60_31_9 : ct_ok jj k_3_60_31_9 := sorry
noncomputable def k_4_179 : iv_ct := (179, [.inl (.ref 1000), .inr (.inl 69), .inr (.inl 70), .inr (.inl 71), .inr (.inl 72)], 4, [4], iv_B4 ++ [(0, 0, 5), iz0, (0, (-9), 0), (0, 9, 100)], [17, 53], iv_B4, some iz0, 4)
theorem ok_4_179 : ct_ok jj k_4_179 := sorry
noncomputable def k_4_210 : iv_ct := (210, [.inr (.inr 69), .inr (.inr 70)], 4, [4], iv_B4 ++ [iz1, (1, 1, 100000000)], [], iv_B4, some (1, 1, 9223372036854775807), 1)
theorem ok_4_210 : ct_ok jj k_4_210 := sorry
