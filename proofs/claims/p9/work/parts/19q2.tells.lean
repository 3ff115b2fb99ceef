/-! ===== fruit and buyers are told ===== -/
section TF
variable {Ls : Nat} {xs : Nat → Int32} (F : Nat → sy_d) (X1 X2 : List jm_c)
noncomputable def tf_I : List Nat := [4, 6, 7, 8, 9, 32, 33, 34]
noncomputable def tf_W : List Nat := [4, 6, 7, 8, 9, 13, 30, 31, 32, 33, 34]
noncomputable def tf_Q (F : Nat → sy_d) (X1 X2 : List jm_c) (v : Option Value) (G : jm_h) : Prop := ∃ F' : Nat → sy_d, v = none ∧ G = sy_dh F' X1 X2 (iv_H 4) ∧ gr tf_W F F' ∧ ((sy_i F' 6).toInt = 0 → (sy_i F' 13).toInt = (sy_i F 13).toInt + 1 ∧ ((sy_ai F' 31).getD (sy_i F 12).toInt.toNat 0).toInt = ((sy_ai F 31).getD (sy_i F 12).toInt.toNat 0).toInt + 1)
noncomputable def tb_I : List Nat := [4, 6, 7, 8, 9, 36, 37, 38]
noncomputable def tb_W : List Nat := [4, 6, 7, 8, 9, 13, 30, 35, 36, 37, 38]
noncomputable def tb_Q (F : Nat → sy_d) (X1 X2 : List jm_c) (v : Option Value) (G : jm_h) : Prop := ∃ F' : Nat → sy_d, v = none ∧ G = sy_dh F' X1 X2 (iv_H 4) ∧ gr tb_W F F' ∧ ((sy_i F' 6).toInt = 0 → (sy_i F' 13).toInt = (sy_i F 13).toInt + 1 ∧ ((sy_ai F' 35).getD (sy_i F 12).toInt.toNat 0).toInt = ((sy_ai F 35).getD (sy_i F 12).toInt.toNat 0).toInt + 1)
end TF
