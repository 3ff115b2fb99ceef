/-! ===== a text's bytes cut into tokens ===== -/
def oq (a b : Int) : Prop := a = b
def uL (c : Int) : Bool := decide (97 ≤ c ∧ c ≤ 122)
def uD (c : Int) : Bool := decide (48 ≤ c ∧ c ≤ 57)
def uB (c : Int) : Bool := decide (c = 9 ∨ c = 10 ∨ c = 13 ∨ c = 32)
def uS (c : Int) : Int := if c = 59 then 4 else if c = 61 then 5 else if c = 40 then 6 else if c = 41 then 7 else if c = 43 then 8 else if c = 45 then 9 else if c = 42 then 10 else if c = 47 then 15 else if c = 60 then 13 else 3
theorem uL_i {c : Int} : uL c = true ↔ 97 ≤ c ∧ c ≤ 122 := by unfold uL; exact decide_eq_true_iff
theorem uD_i {c : Int} : uD c = true ↔ 48 ≤ c ∧ c ≤ 57 := by unfold uD; exact decide_eq_true_iff
theorem uB_i {c : Int} : uB c = true ↔ (c = 9 ∨ c = 10 ∨ c = 13 ∨ c = 32) := by unfold uB; exact decide_eq_true_iff
theorem uL_n {c : Int} : uL c = false ↔ (c < 97 ∨ 122 < c) := by unfold uL; rw [decide_eq_false_iff_not]; omega
theorem uD_n {c : Int} : uD c = false ↔ (c < 48 ∨ 57 < c) := by unfold uD; rw [decide_eq_false_iff_not]; omega
theorem uB_n {c : Int} : uB c = false ↔ (c ≠ 9 ∧ c ≠ 10 ∧ c ≠ 13 ∧ c ≠ 32) := by unfold uB; rw [decide_eq_false_iff_not]; omega
/-- a run of bytes of one kind from i: where it ends -/
def uRf (p : Int → Bool) (b : Nat → Int) : Nat → Nat → Nat
  | 0, i => i
  | k + 1, i => if p (b i) = true then uRf p b k (i + 1) else i
def uR (p : Int → Bool) (b : Nat → Int) (n i : Nat) : Nat := uRf p b (n - i) i
section UR
variable {p : Int → Bool} {b : Nat → Int} {n i : Nat}
theorem uR_s (h : i < n) (h2 : p (b i) = true) : uR p b n i = uR p b n (i + 1) := by
  unfold uR
  rw [show n - i = (n - (i + 1)) + 1 by omega]
  show (if p (b i) = true then _ else _) = _
  rw [if_pos h2]
theorem uR_e (h : n ≤ i ∨ p (b i) = false) : uR p b n i = i := by
  unfold uR
  match hk : n - i with
  | 0 => rfl
  | k + 1 =>
    have h2 : ¬ (p (b i) = true) := by
      rcases h with q | q
      · omega
      · rw [q]; decide
    show (if p (b i) = true then _ else _) = _
    rw [if_neg h2]
end UR
theorem uRf_ge (p : Int → Bool) (b : Nat → Int) : ∀ (k i : Nat), i ≤ uRf p b k i ∧ uRf p b k i ≤ i + k
  | 0, i => ⟨Nat.le_refl _, Nat.le_refl _⟩
  | k + 1, i => by
    have h := uRf_ge p b k (i + 1)
    unfold uRf
    split <;> omega
theorem uR_ge (p : Int → Bool) (b : Nat → Int) (n i : Nat) : i ≤ uR p b n i := (uRf_ge p b (n - i) i).1
theorem uR_le (p : Int → Bool) (b : Nat → Int) {n i : Nat} (h : i ≤ n) : uR p b n i ≤ n := by
  have := (uRf_ge p b (n - i) i).2
  unfold uR
  omega
theorem uR_gt {p : Int → Bool} {b : Nat → Int} {n i : Nat} (h : i < n) (h2 : p (b i) = true) : i < uR p b n i := by
  have := uR_ge p b n (i + 1)
  rw [uR_s h h2]
  omega
/-- k bytes from i, taken in one by one -/
def uF {A : Type} (f : A → Int → A) (b : Nat → Int) (i : Nat) : Nat → A → A
  | 0, a => a
  | k + 1, a => f (uF f b i k a) (b (i + k))
theorem uF_0 {A : Type} {f : A → Int → A} {b : Nat → Int} {i : Nat} {a : A} : uF f b i 0 a = a := rfl
theorem uF_s {A : Type} {f : A → Int → A} {b : Nat → Int} {i k : Nat} {a : A} : uF f b i (k + 1) a = f (uF f b i k a) (b (i + k)) := rfl
noncomputable def gl (a : Int64) (c : Int) : Int64 := a * 27 + Int64.ofInt (c - 96)
def gd (a c : Int) : Int := 10 * a + (c - 48)
theorem dG {b : Nat → Int} {i : Nat} : ∀ k : Nat, (∀ j, j < k → uD (b (i + j)) = true) → 0 ≤ uF gd b i k 0 ∧ uF gd b i k 0 + 1 ≤ (10 : Int) ^ k
  | 0, _ => by
    show (0 : Int) ≤ 0 ∧ (0 : Int) + 1 ≤ 10 ^ 0
    decide
  | k + 1, h => by
    have h1 := dG k (fun j hj => h j (by omega))
    have h2 := uD_i.mp (h k (by omega))
    rw [uF_s, Int.pow_succ]
    show 0 ≤ 10 * _ + (b (i + k) - 48) ∧ 10 * _ + (b (i + k) - 48) + 1 ≤ _
    omega
/-- the kind of a word: 20 and on for the words w, else a name -/
noncomputable def uW (w : Nat → Int64) (x : Int64) : Nat → Int
  | 0 => 1
  | k + 1 => if w k = x then 20 + (k : Int) else uW w x k
theorem uW_y {w : Nat → Int64} {x : Int64} {k : Nat} (h : w k = x) : uW w x (k + 1) = 20 + (k : Int) := by
  show (if w k = x then _ else _) = _
  rw [if_pos h]
theorem uW_n {w : Nat → Int64} {x : Int64} {k : Nat} (h : w k ≠ x) : uW w x (k + 1) = uW w x k := by
  show (if w k = x then _ else _) = _
  rw [if_neg h]
theorem uW_no {w : Nat → Int64} {x : Int64} : ∀ k : Nat, (∀ j, j < k → w j ≠ x) → uW w x k = 1
  | 0, _ => rfl
  | k + 1, h => by
    rw [uW_n (h k (by omega))]
    exact uW_no k (fun j hj => h j (by omega))
theorem uW_at {w : Nat → Int64} {x : Int64} {m : Nat} (hd : ∀ i j, i < m → j < m → w i = w j → i = j) {j : Nat} (hw : w j = x) : ∀ k : Nat, j < k → k ≤ m → uW w x k = 20 + (j : Int)
  | 0, h, _ => by omega
  | k + 1, h, h2 => by
    by_cases q : j = k
    · rw [q] at hw ⊢
      exact uW_y hw
    · rw [uW_n (fun e => q (hd j k (by omega) (by omega) (hw.trans e.symm)))]
      exact uW_at hd hw k (by omega) (by omega)
theorem uW_b {w : Nat → Int64} {x : Int64} : ∀ k : Nat, 1 ≤ uW w x k ∧ uW w x k ≤ 20 + (k : Int) ∧ uW w x k ≠ 3 ∧ uW w x k ≠ 2
  | 0 => by
    show (1 : Int) ≤ 1 ∧ (1 : Int) ≤ 20 + ((0 : Nat) : Int) ∧ (1 : Int) ≠ 3 ∧ (1 : Int) ≠ 2
    decide
  | k + 1 => by
    have h := uW_b (w := w) (x := x) k
    unfold uW
    split <;> omega
/-- the kind of what starts at p; what is behind it; where the j-th token starts -/
noncomputable def uK (b : Nat → Int) (n : Nat) (w : Nat → Int64) (p : Nat) : Int := if n ≤ p then 0 else if uL (b p) = true then (if 8 < uR uL b n p - p then 3 else uW w (uF gl b p (uR uL b n p - p) 0) 23) else if uD (b p) = true then (if 4 < uR uD b n p - p then 3 else 2) else uS (b p)
def uN (b : Nat → Int) (n p : Nat) : Nat := if n ≤ p then p else if uL (b p) = true then uR uL b n p else if uD (b p) = true then uR uD b n p else p + 1
def uP (b : Nat → Int) (n : Nat) : Nat → Nat
  | 0 => uR uB b n 0
  | j + 1 => uR uB b n (uN b n (uP b n j))
theorem uN_le {b : Nat → Int} {n p : Nat} (h : p ≤ n) : uN b n p ≤ n := by
  unfold uN
  have h1 := uR_le uL b h
  have h2 := uR_le uD b h
  repeat' split
  all_goals omega
theorem uN_gt {b : Nat → Int} {n p : Nat} (h : p < n) : p < uN b n p := by
  unfold uN
  rw [if_neg (by omega)]
  split
  · rename_i q; exact uR_gt h q
  · split
    · rename_i q; exact uR_gt h q
    · omega
theorem uS_b (c : Int) : uS c ≠ 0 ∧ uS c ≠ 1 ∧ uS c ≠ 2 := by
  unfold uS
  repeat' split
  all_goals decide
theorem uK_0 {b : Nat → Int} {n : Nat} {w : Nat → Int64} {p : Nat} (h : uK b n w p ≠ 0) : p < n := by
  by_cases q : n ≤ p
  · exfalso; apply h; unfold uK; rw [if_pos q]
  · omega
/-- the token j as it should be -/
noncomputable def tk (b : Nat → Int) (n : Nat) (w : Nat → Int64) (K P V : Nat → Int) (N : Nat → Int64) (j : Nat) : Prop := P j = (uP b n j : Int) ∧ K j = uK b n w (uP b n j) ∧ (K j = 2 → V j = uF gd b (uP b n j) (uR uD b n (uP b n j) - uP b n j) 0) ∧ (K j = 1 → N j = uF gl b (uP b n j) (uR uL b n (uP b n j) - uP b n j) 0)
theorem tk_up {b : Nat → Int} {n : Nat} {w : Nat → Int64} {K P V : Nat → Int} {N : Nat → Int64} {L : Nat} (h : ∀ j, j ≤ L → tk b n w K P V N j) (hz : ∀ j, j < L → K j ≠ 0) : ∀ d i : Nat, i + d + 1 ≤ L → uP b n i < uP b n (i + d + 1)
  | 0, i, q => by
    have h1 : uP b n i < n := uK_0 (by rw [← (h i (by omega)).2.1]; exact hz i (by omega))
    have h2 := uN_gt (b := b) h1
    have h3 := uR_ge uB b n (uN b n (uP b n i))
    show uP b n i < uR uB b n (uN b n (uP b n i))
    omega
  | d + 1, i, q => by
    have h0 := tk_up h hz d i (by omega)
    have h1 : uP b n (i + d + 1) < n := uK_0 (by rw [← (h (i + d + 1) (by omega)).2.1]; exact hz _ (by omega))
    have h2 := uN_gt (b := b) h1
    have h3 := uR_ge uB b n (uN b n (uP b n (i + d + 1)))
    have h4 : uP b n (i + (d + 1) + 1) = uR uB b n (uN b n (uP b n (i + d + 1))) := rfl
    omega
theorem tk_pm {b : Nat → Int} {n : Nat} {w : Nat → Int64} {K P V : Nat → Int} {N : Nat → Int64} {L : Nat} (h : ∀ j, j ≤ L → tk b n w K P V N j) (hz : ∀ j, j < L → K j ≠ 0) : ∀ i j, i < j → j ≤ L → P i < P j := by
  intro i j hi hj
  have q := tk_up h hz (j - i - 1) i (by omega)
  rw [show i + (j - i - 1) + 1 = j by omega] at q
  rw [(h i (by omega)).1, (h j hj).1]
  omega
/-- a byte, without its sign -/
def ub (l : List Int32) (n i : Nat) : Int := if i < n then (l.getD i 0).toInt % 256 else 0
theorem ub_i {l : List Int32} {n i : Nat} (h : i < n) : ub l n i = (l.getD i 0).toInt % 256 := by unfold ub; rw [if_pos h]
theorem ub_0 {l : List Int32} {n i : Nat} (h : n ≤ i) : ub l n i = 0 := by unfold ub; rw [if_neg (by omega)]
theorem and255 (x : Int32) : (x &&& 255).toInt = x.toInt % 256 := by
  have h1 : (x &&& 255).toInt = ((x.toBitVec &&& 255#32).toInt) := rfl
  have h2 : (x.toBitVec &&& 255#32).toNat = x.toBitVec.toNat % 256 := by
    rw [BitVec.toNat_and]
    exact Nat.and_two_pow_sub_one_eq_mod x.toBitVec.toNat 8
  have h3 : x.toInt = x.toBitVec.toInt := rfl
  rw [h1, h3, BitVec.toInt_eq_toNat_cond, BitVec.toInt_eq_toNat_cond, h2]
  have := x.toBitVec.isLt
  split <;> split <;> omega
theorem ub_and {l : List Int32} {n i : Nat} (h : i < n) : (l.getD i 0 &&& 255).toInt = ub l n i := by rw [ub_i h]; exact and255 _
theorem gl_i (c : Int32) (h1 : 97 ≤ c.toInt) (h2 : c.toInt ≤ 122) : Int64.ofInt (c.toInt - 96) = (c - 97 + 1).toInt64 := by
  have e : (c - 97 + 1).toInt = c.toInt - 96 := by
    rw [Int32.toInt_add, Int32.toInt_sub]
    have : (97 : Int32).toInt = 97 := by decide
    have : (1 : Int32).toInt = 1 := by decide
    simp only [Int.bmod_def, *]
    omega
  rw [← e]
  apply Int64.toInt_inj.mp
  rw [Int32.toInt_toInt64, Int64.toInt_ofInt]
  have h3 : (Int64.size : Int) = 18446744073709551616 := by decide
  simp only [Int.bmod_def, h3]
  omega
