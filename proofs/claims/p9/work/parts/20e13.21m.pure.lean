/-! ===== what the class puts, cell by cell ===== -/
section CP
variable {K V : Nat → Int} {t : Nat} {W : List Int} {O : List rO}
/-- a strong sign waits above W: it may come out at once -/
theorem cX_p {w : Int} (ht : t ≤ 400) (hw : w = 10 ∨ w = 15) (hW : coS true W = (W, [])) : cX K V t (w :: W) 1 O = cX K V t W 1 (O ++ [(opc w, 0)]) := by
  have e : ∀ b, coS b (w :: W) = ((coS b W).1, (opc w, 0) :: (coS b W).2) := fun b => by
    show (if _ then _ else _) = _
    rw [if_neg (by intro z; rcases z with z | z; omega; omega)]
  have eo : opn (w :: W) = opn W := by
    show (if w = 6 then _ else _) = _
    rw [if_neg (by omega)]
  rw [cX_m1 ht, cX_m1 ht, e, e, eo, List.append_assoc, List.append_assoc]
  rfl
/-- a weak sign waits above W, and no strong one comes: it may come out at once -/
theorem cX_s {w : Int} (ht : t ≤ 400) (hw : w = 8 ∨ w = 9) (h1 : K t ≠ 10) (h2 : K t ≠ 15) : cX K V t (w :: W) 1 O = cX K V t W 1 (O ++ [(opc w, 0)]) := by
  have e : coS false (w :: W) = ((coS false W).1, (opc w, 0) :: (coS false W).2) := by
    show (if _ then _ else _) = _
    rw [if_neg (by intro z; rcases z with z | z; omega; exact absurd z.1 (by decide))]
  have eo : opn (w :: W) = opn W := by
    show (if w = 6 then _ else _) = _
    rw [if_neg (by omega)]
  have ed : decide (K t = 10 ∨ K t = 15) = false := decide_eq_false (by omega)
  rw [cX_m1 ht, cX_m1 ht, ed, e, eo, List.append_assoc]
  rfl
/-- a bracket closes above W -/
theorem cX_cl (ht : t < 400) (h : K t = 7) : cX K V t (6 :: W) 1 O = cX K V (t + 1) W 1 O := by
  have e : coS false (6 :: W) = (6 :: W, []) := by
    show (if _ then _ else _) = _
    rw [if_pos (Or.inl rfl)]
  have eo : 0 < opn (6 :: W) := by
    show 0 < (if (6 : Int) = 6 then opn W + 1 else opn W)
    rw [if_pos rfl]
    omega
  rw [cX_c ht h eo, e, List.append_nil]
  rfl
/-- a sign above W where nothing strong waits -/
theorem cX_bp (ht : t < 400) (h : K t = 10 ∨ K t = 15) (hW : coS true W = (W, [])) : cX K V t W 1 O = cX K V (t + 1) (K t :: W) 0 O := by
  rw [cX_b ht (by omega), decide_eq_true h, hW, List.append_nil]
theorem cX_bs (ht : t < 400) (h : K t = 8 ∨ K t = 9) (hW : coS false W = (W, [])) : cX K V t W 1 O = cX K V (t + 1) (K t :: W) 0 O := by
  rw [cX_b ht (by omega), decide_eq_false (by omega), hW, List.append_nil]
end CP
theorem ok_w (b : Bool) {w : Int} {W : List Int} (h : w = 6 ∨ (b = true ∧ (w = 8 ∨ w = 9))) : coS b (w :: W) = (w :: W, []) := by
  show (if _ then _ else _) = _
  rw [if_pos h]
/-- a cell of the class, for the law a -/
def tvs (a v : Int) : Bool := ((([260, 383, 383, 407, 279, 300] : List Int).getD a.toNat 0) / 2 ^ v.toNat) % 2 = 1
def cell (a : Int) (o : rO) : Int := if o.1 = 0 then o.2 else if o.1 = 1 then (if tvs a o.2 = true then -1 - o.2 else 0) else -8 - o.1
noncomputable def clc (code : List Int32) (c : Nat) : Nat → List Int
  | 0 => []
  | n + 1 => clc code c n ++ [(code.getD (c + n) 0).toInt]
theorem clc_eq {a a' : List Int32} {c : Nat} : ∀ n : Nat, (∀ i, c ≤ i → i < c + n → a'.getD i 0 = a.getD i 0) → clc a' c n = clc a c n
  | 0, _ => rfl
  | n + 1, h => by
    unfold clc
    rw [h (c + n) (by omega) (by omega), clc_eq n (fun i h1 h2 => h i h1 (by omega))]
theorem clc_add {a : List Int32} {c : Nat} (n : Nat) : ∀ m : Nat, clc a c (n + m) = clc a c n ++ clc a (c + n) m
  | 0 => by
    show clc a c n = clc a c n ++ []
    rw [List.append_nil]
  | m + 1 => by
    show clc a c (n + m) ++ [_] = _ ++ (clc a (c + n) m ++ [_])
    rw [clc_add n m, List.append_assoc, Nat.add_assoc]
    rfl
