/-! ===== contracts that are shown by hand ===== -/
noncomputable def iv_ov (B : List iv_t) : List (Nat × iv_t) → List iv_t
  | [] => B
  | q :: r => (iv_ov B r).set q.1 q.2
noncomputable def k_0_61_31_9 : iv_ct := (61, [.inl (.ref 31), .inr (.inl 82), .inl (.ref 9), .inr (.inl 83), .inr (.inl 84)], 0, [0], iv_B0 ++ [(0, 0, 400), (0, 0, 1999), (0, 1, 2000)], [39, 41], iv_B0, some (0, 0, 2000), 2)
noncomputable def k_0_60_31_9 : iv_ct := (60, [.inl (.ref 31), .inr (.inl 82), .inl (.ref 9), .inr (.inl 83), .inr (.inl 84)], 0, [0], iv_B0 ++ [(0, 0, 400), (0, 0, 1999), (0, 1, 2000)], [39, 41], iv_B0, some (0, 0, 2000), 3)
noncomputable def k_1_61_31_9 : iv_ct := (61, [.inl (.ref 31), .inr (.inl 82), .inl (.ref 9), .inr (.inl 83), .inr (.inl 84)], 1, [1], iv_B0 ++ [(0, 0, 400), (0, 0, 1999), (0, 1, 2000)], [39, 41], iv_B0, some (0, 0, 2000), 2)
noncomputable def k_1_60_31_9 : iv_ct := (60, [.inl (.ref 31), .inr (.inl 82), .inl (.ref 9), .inr (.inl 83), .inr (.inl 84)], 1, [1], iv_B0 ++ [(0, 0, 400), (0, 0, 1999), (0, 1, 2000)], [39, 41], iv_B0, some (0, 0, 2000), 3)
noncomputable def k_2_61_31_9 : iv_ct := (61, [.inl (.ref 31), .inr (.inl 82), .inl (.ref 9), .inr (.inl 83), .inr (.inl 84)], 2, [2], iv_B0 ++ [(0, 0, 400), (0, 0, 1999), (0, 1, 2000)], [39, 41], iv_B0, some (0, 0, 2000), 2)
noncomputable def k_2_60_31_9 : iv_ct := (60, [.inl (.ref 31), .inr (.inl 82), .inl (.ref 9), .inr (.inl 83), .inr (.inl 84)], 2, [2], iv_B0 ++ [(0, 0, 400), (0, 0, 1999), (0, 1, 2000)], [39, 41], iv_B0, some (0, 0, 2000), 3)
noncomputable def k_3_61_31_9 : iv_ct := (61, [.inl (.ref 31), .inr (.inl 82), .inl (.ref 9), .inr (.inl 83), .inr (.inl 84)], 3, [3], iv_B0 ++ [(0, 0, 400), (0, 0, 1999), (0, 1, 2000)], [39, 41], iv_B0, some (0, 0, 2000), 2)
noncomputable def k_3_60_31_9 : iv_ct := (60, [.inl (.ref 31), .inr (.inl 82), .inl (.ref 9), .inr (.inl 83), .inr (.inl 84)], 3, [3], iv_B0 ++ [(0, 0, 400), (0, 0, 1999), (0, 1, 2000)], [39, 41], iv_B0, some (0, 0, 2000), 3)
noncomputable def k_4_179_v0_9 : iv_ct := (179, [.inl (.ref 1000), .inr (.inl 69), .inr (.inl 70), .inr (.inl 71), .inr (.inl 72)], 4, [4], iv_B4 ++ [(0, 0, 0), (0, 0, 0), (0, 0, 0), (0, 9, 9)], [17, 53], iv_B4, some (0, 0, 9), 4)
noncomputable def k_4_179_v0_100 : iv_ct := (179, [.inl (.ref 1000), .inr (.inl 69), .inr (.inl 70), .inr (.inl 71), .inr (.inl 72)], 4, [4], iv_B4 ++ [(0, 2, 5), iz0, (0, 0, 0), (0, 100, 100)], [17, 53], iv_B4, some (0, 0, 100), 4)
noncomputable def k_4_179_vm9_9 : iv_ct := (179, [.inl (.ref 1000), .inr (.inl 69), .inr (.inl 70), .inr (.inl 71), .inr (.inl 72)], 4, [4], iv_B4 ++ [(0, 1, 4), (0, 0, 1), (0, (-9), (-9)), (0, 9, 9)], [17, 53], iv_B4, some (0, (-9), 9), 4)
noncomputable def k_4_179_v0_99 : iv_ct := (179, [.inl (.ref 1000), .inr (.inl 69), .inr (.inl 70), .inr (.inl 71), .inr (.inl 72)], 4, [4], iv_B4 ++ [(0, 3, 3), iz0, (0, 0, 0), (0, 99, 99)], [17, 53], iv_B4, some (0, 0, 99), 4)
noncomputable def k_4_210 : iv_ct := (210, [.inr (.inr 69), .inr (.inr 70)], 4, [4], iv_B4 ++ [(1, 0, 100000000), (1, 1, 100000000)], [], iv_B4, some (1, 1, 9223372036854775807), 1)
