/-! ===== the class: a law's cells worked out (all shapes) ===== -/
theorem clc_cons {code : List Int32} : ∀ (n c : Nat), clc code c (n + 1) = (code.getD c 0).toInt :: clc code (c + 1) n
  | 0, c => rfl
  | n + 1, c => by
    show clc code c (n + 1) ++ [_] = _ :: (clc code (c + 1) n ++ [_])
    rw [clc_cons n c, show c + 1 + n = c + (n + 1) by omega]
    rfl
theorem clc_split {code : List Int32} {p q : List Int} {c : Nat} (h : clc code c (p ++ q).length = p ++ q) : clc code c p.length = p ∧ clc code (c + p.length) q.length = q := by
  rw [List.length_append, clc_add] at h
  exact List.append_inj h (by rw [clc_len])
noncomputable def v45 (F : Nat → sy_d) : Nat → Int32 := fun j => (sy_ai F 45).getD j 0
noncomputable def woI (F : Nat → sy_d) (s c : Int) (S : List Int32) (F1 : Nat → sy_d) : Prop := qC [46] F F1 ∧ (sy_i F1 82).toInt = c ∧ (sy_i F1 83).toInt = S.length ∧ (0 ≤ (sy_i F1 84).toInt ∧ (sy_i F1 84).toInt ≤ c - s) ∧ stq (sy_ai F1 46) S
theorem lHi_t : ∀ k : Nat, k < 6 → (([9, 9, 100, 99, 9, 100] : List Int32).getD k 0).toInt = lHi k := by decide +kernel
theorem lLo_t : ∀ k : Nat, k < 6 → (([0, (-9), 0, 0, (-9), 0] : List Int32).getD k 0).toInt = lLo k := by decide +kernel
theorem lLH (k : Nat) : lLo k < lHi k := by unfold lLo lHi; (repeat' split) <;> omega
theorem lcs_s (k : Int) (c : Nat) (u q w : List rO) (r : List bRT) : lcs k c ((some (u, q), w) :: r) = u.map (cell k) ++ (q.map (cell k) ++ ([-15, ((c + u.length + q.length + w.length + 3 : Nat) : Int)] ++ (w.map (cell k) ++ ([-14] ++ lcs k (c + u.length + q.length + w.length + 3) r)))) := by
  show (u.map (cell k) ++ q.map (cell k) ++ [-15, _] ++ w.map (cell k) ++ [-14]) ++ lcs k _ r = _
  simp only [List.append_assoc]
theorem lcs_n (k : Int) (c : Nat) (w : List rO) (r : List bRT) : lcs k c ((none, w) :: r) = w.map (cell k) ++ ([-14] ++ lcs k (c + w.length + 1) r) := by
  show (w.map (cell k) ++ [-14]) ++ lcs k _ r = _
  simp only [List.append_assoc]
