/-! ===== the class: the kind of a word ===== -/
def jt (_ : Nat) (_ : Nat → sy_d) : Prop := True
noncomputable def jt_pl : iv_pl := (fun _ _ _ _ _ => none, fun _ _ _ _ _ _ => true)
noncomputable def kt_0_62_31 : iv_ct := (62, [.inl (.ref 31), .inr (.inr 82)], 0, [0], iv_B0 ++ [iz1], [], iv_B0, some (0, 0, 23), 1)
noncomputable def kt_1_62_31 : iv_ct := (62, [.inl (.ref 31), .inr (.inr 82)], 1, [1], iv_B0 ++ [iz1], [], iv_B0, some (0, 0, 23), 1)
noncomputable def kt_2_62_31 : iv_ct := (62, [.inl (.ref 31), .inr (.inr 82)], 2, [2], iv_B0 ++ [iz1], [], iv_B0, some (0, 0, 23), 1)
noncomputable def kt_3_62_31 : iv_ct := (62, [.inl (.ref 31), .inr (.inr 82)], 3, [3], iv_B0 ++ [iz1], [], iv_B0, some (0, 0, 23), 1)
