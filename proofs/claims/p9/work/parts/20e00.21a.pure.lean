/-! ===== what an expression is put as: K the kinds, V the numbers; W what waits (the last first), O what came out ===== -/
abbrev rO : Type := Int × Int
def opc (w : Int) : Int := if w = 8 then 2 else if w = 9 then 3 else if w = 10 then 4 else 5
/-- what waits comes out, up to a bracket; strong: up to + or - too -/
def coS (b : Bool) : List Int → List Int × List rO
  | [] => ([], [])
  | w :: W => if w = 6 ∨ (b = true ∧ (w = 8 ∨ w = 9)) then (w :: W, []) else ((coS b W).1, (opc w, 0) :: (coS b W).2)
def opn : List Int → Nat
  | [] => 0
  | w :: W => if w = 6 then opn W + 1 else opn W
def isOp (k : Int) : Prop := k = 8 ∨ k = 9 ∨ k = 10 ∨ k = 15
noncomputable def cM (K V : Nat → Int) : Nat → Nat → List Int → Nat → List rO → sE ⊕ (Nat × List rO)
  | 0, t, _, _, O => .inr (t, O)
  | n + 1, t, W, m, O => if m = 0 then
      (if K t = 6 then (if opn W = 6 then .inl (2, t) else if t = 400 then .inl (2, t) else cM K V n (t + 1) (6 :: W) 0 O)
      else if K t = 2 then (if t = 400 then .inl (2, t) else cM K V n (t + 1) W 1 (O ++ [(0, V t)]))
      else if 34 ≤ K t ∧ K t ≤ 42 then (if t = 400 then .inl (2, t) else cM K V n (t + 1) W 1 (O ++ [(1, K t - 34)])) else .inl (1, t))
    else
      (if K t = 7 ∧ 0 < opn W then (if t = 400 then .inl (2, t) else cM K V n (t + 1) (coS false W).1.tail 1 (O ++ (coS false W).2))
      else if K t = 8 ∨ K t = 9 ∨ K t = 10 ∨ K t = 15 then (if t = 400 then .inl (2, t) else cM K V n (t + 1) (K t :: (coS (decide (K t = 10 ∨ K t = 15)) W).1) 0 (O ++ (coS (decide (K t = 10 ∨ K t = 15)) W).2))
      else if 0 < opn W then .inl (1, t) else .inr (t, O ++ (coS false W).2))
noncomputable def cX (K V : Nat → Int) (t : Nat) (W : List Int) (m : Nat) (O : List rO) : sE ⊕ (Nat × List rO) := cM K V (401 - t) t W m O
section CQ
variable {K V : Nat → Int} {t : Nat} {W : List Int} {O : List rO}
theorem cX_eq (ht : t ≤ 400) (m : Nat) : cX K V t W m O = if m = 0 then
      (if K t = 6 then (if opn W = 6 then .inl (2, t) else if t = 400 then .inl (2, t) else cX K V (t + 1) (6 :: W) 0 O)
      else if K t = 2 then (if t = 400 then .inl (2, t) else cX K V (t + 1) W 1 (O ++ [(0, V t)]))
      else if 34 ≤ K t ∧ K t ≤ 42 then (if t = 400 then .inl (2, t) else cX K V (t + 1) W 1 (O ++ [(1, K t - 34)])) else .inl (1, t))
    else
      (if K t = 7 ∧ 0 < opn W then (if t = 400 then .inl (2, t) else cX K V (t + 1) (coS false W).1.tail 1 (O ++ (coS false W).2))
      else if K t = 8 ∨ K t = 9 ∨ K t = 10 ∨ K t = 15 then (if t = 400 then .inl (2, t) else cX K V (t + 1) (K t :: (coS (decide (K t = 10 ∨ K t = 15)) W).1) 0 (O ++ (coS (decide (K t = 10 ∨ K t = 15)) W).2))
      else if 0 < opn W then .inl (1, t) else .inr (t, O ++ (coS false W).2)) := by
  unfold cX
  rw [show 401 - t = (401 - (t + 1)) + 1 by omega]
  rfl
theorem cX_o6 (ht : t ≤ 400) (h : K t = 6) (h2 : opn W = 6 ∨ t = 400) : cX K V t W 0 O = .inl (2, t) := by
  rw [cX_eq ht, if_pos rfl, if_pos h]
  by_cases q : opn W = 6
  · rw [if_pos q]
  · rw [if_neg q, if_pos (by omega)]
theorem cX_o (ht : t < 400) (h : K t = 6) (h2 : opn W ≠ 6) : cX K V t W 0 O = cX K V (t + 1) (6 :: W) 0 O := by
  rw [cX_eq (by omega), if_pos rfl, if_pos h, if_neg h2, if_neg (by omega)]
theorem cX_i (ht : t < 400) (h : K t = 2) : cX K V t W 0 O = cX K V (t + 1) W 1 (O ++ [(0, V t)]) := by
  rw [cX_eq (by omega), if_pos rfl, if_neg (by omega), if_pos h, if_neg (by omega)]
theorem cX_v (ht : t < 400) (h : 34 ≤ K t ∧ K t ≤ 42) : cX K V t W 0 O = cX K V (t + 1) W 1 (O ++ [(1, K t - 34)]) := by
  rw [cX_eq (by omega), if_pos rfl, if_neg (by omega), if_neg (by omega), if_pos h, if_neg (by omega)]
theorem cX_u4 (ht : t = 400) (h : K t = 2 ∨ (34 ≤ K t ∧ K t ≤ 42)) : cX K V t W 0 O = .inl (2, t) := by
  rw [cX_eq (by omega), if_pos rfl, if_neg (by omega)]
  by_cases q : K t = 2
  · rw [if_pos q, if_pos ht]
  · rw [if_neg q, if_pos (by omega), if_pos ht]
theorem cX_u1 (ht : t ≤ 400) (h : K t ≠ 6) (h1 : K t ≠ 2) (h2 : K t < 34 ∨ 42 < K t) : cX K V t W 0 O = .inl (1, t) := by
  rw [cX_eq ht, if_pos rfl, if_neg h, if_neg h1, if_neg (by omega)]
theorem cX_c (ht : t < 400) (h : K t = 7) (h2 : 0 < opn W) : cX K V t W 1 O = cX K V (t + 1) (coS false W).1.tail 1 (O ++ (coS false W).2) := by
  rw [cX_eq (by omega), if_neg (by decide), if_pos ⟨h, h2⟩, if_neg (by omega)]
theorem cX_c4 (ht : t = 400) (h : K t = 7) (h2 : 0 < opn W) : cX K V t W 1 O = .inl (2, t) := by
  rw [cX_eq (by omega), if_neg (by decide), if_pos ⟨h, h2⟩, if_pos ht]
theorem cX_b (ht : t < 400) (h : K t = 8 ∨ K t = 9 ∨ K t = 10 ∨ K t = 15) : cX K V t W 1 O = cX K V (t + 1) (K t :: (coS (decide (K t = 10 ∨ K t = 15)) W).1) 0 (O ++ (coS (decide (K t = 10 ∨ K t = 15)) W).2) := by
  rw [cX_eq (by omega), if_neg (by decide), if_neg (by omega), if_pos h, if_neg (by omega)]
theorem cX_b4 (ht : t = 400) (h : K t = 8 ∨ K t = 9 ∨ K t = 10 ∨ K t = 15) : cX K V t W 1 O = .inl (2, t) := by
  rw [cX_eq (by omega), if_neg (by decide), if_neg (by omega), if_pos h, if_pos ht]
theorem cX_e1 (ht : t ≤ 400) (h7 : K t ≠ 7) (h : ¬ (K t = 8 ∨ K t = 9 ∨ K t = 10 ∨ K t = 15)) (h2 : 0 < opn W) : cX K V t W 1 O = .inl (1, t) := by
  rw [cX_eq ht, if_neg (by decide), if_neg (by omega), if_neg h, if_pos h2]
theorem cX_e0 (ht : t ≤ 400) (h : ¬ (K t = 8 ∨ K t = 9 ∨ K t = 10 ∨ K t = 15)) (h2 : opn W = 0) : cX K V t W 1 O = .inr (t, O ++ (coS false W).2) := by
  rw [cX_eq ht, if_neg (by decide), if_neg (by omega), if_neg h, if_neg (by omega)]
end CQ
/-! ===== the strong first, then the rest: as one after the other ===== -/
theorem coS_opn (b : Bool) : ∀ W : List Int, opn (coS b W).1 = opn W
  | [] => rfl
  | w :: W => by
    unfold coS
    by_cases q : w = 6 ∨ (b = true ∧ (w = 8 ∨ w = 9))
    · rw [if_pos q]
    · rw [if_neg q]
      show opn (coS b W).1 = opn (w :: W)
      rw [coS_opn b W]
      show opn W = if w = 6 then opn W + 1 else opn W
      rw [if_neg (by omega)]
theorem cX_m1 {K V : Nat → Int} {t : Nat} {W : List Int} {O : List rO} (ht : t ≤ 400) : cX K V t W 1 O = (if K t = 7 ∧ 0 < opn W then (if t = 400 then .inl (2, t) else cX K V (t + 1) (coS false W).1.tail 1 (O ++ (coS false W).2))
      else if K t = 8 ∨ K t = 9 ∨ K t = 10 ∨ K t = 15 then (if t = 400 then .inl (2, t) else cX K V (t + 1) (K t :: (coS (decide (K t = 10 ∨ K t = 15)) W).1) 0 (O ++ (coS (decide (K t = 10 ∨ K t = 15)) W).2))
      else if 0 < opn W then .inl (1, t) else .inr (t, O ++ (coS false W).2)) := (cX_eq ht 1).trans (if_neg (by decide))
