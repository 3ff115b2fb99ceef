/-! ===== the class: a number is cut out ===== -/
theorem cn_num {N : Int64} {T : Int32} (h0 : 0 ≤ N.toInt) (h1 : N.toInt ≤ 100000) (h2 : 48 ≤ T.toInt) (h3 : T.toInt ≤ 57) : (N * (10 : Int64) + (T - (48 : Int32)).toInt64).toInt = N.toInt * 10 + (T.toInt - 48) := by
  have e10 : (10 : Int64).toInt = 10 := by decide
  have e48 : (48 : Int32).toInt = 48 := by decide
  have m : (N * (10 : Int64)).toInt = N.toInt * 10 := by rw [Jvm.Kit.i64_mul (by rw [e10]; omega) (by rw [e10]; omega), e10]
  have d : (T - (48 : Int32)).toInt = T.toInt - 48 := by rw [Jvm.Kit.i32_sub (by rw [e48]; omega) (by rw [e48]; omega), e48]
  have d2 : (T - (48 : Int32)).toInt64.toInt = T.toInt - 48 := by rw [Jvm.Kit.i64_of_i32, d]
  rw [Jvm.Kit.i64_add (by rw [m, d2]; omega) (by rw [m, d2]; omega), m, d2]
def cn_C (q : Int) (N : Int64) : Prop := ∀ m : Nat, q = m → m ≤ 4 → 0 ≤ N.toInt ∧ N.toInt + 1 ≤ 10 ^ m
def cn_Q (s : Nat) (F : Nat → sy_d) (X1 X2 : List jm_c) : Option Value → jm_h → Prop := fun v G => ∃ (x : Int32) (F' : Nat → sy_d), v = some (.int x) ∧ G = sy_dh F' X1 X2 (iv_H s) ∧ (iv_in F' iv_B0 ∧ (∀ j, j < 82 → j ≠ 39 ∧ j ≠ 41 → F' j = F j) ∧ jx_ok F') ∧ 0 ≤ x.toInt ∧ x.toInt ≤ 2000
