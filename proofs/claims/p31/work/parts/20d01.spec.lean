section
/-! ===== how a text is read, token by token: K the kinds, V the numbers, N the names ===== -/
abbrev sE : Type := Int × Nat
/-- an expression, from the token t, d brackets begun; m = 0: a number or a var comes, 1: behind one -/
noncomputable def eM (K : Nat → Int) : Nat → Nat → Nat → Nat → sE ⊕ Nat
  | 0, t, _, _ => .inr t
  | n + 1, t, d, m => if m = 0 then
      (if K t = 6 then (if d = 6 then .inl (2, t) else if t = 400 then .inl (2, t) else eM K n (t + 1) (d + 1) 0)
      else if K t = 2 ∨ (34 ≤ K t ∧ K t ≤ 42) then (if t = 400 then .inl (2, t) else eM K n (t + 1) d 1) else .inl (1, t))
    else
      (if K t = 7 ∧ 0 < d then (if t = 400 then .inl (2, t) else eM K n (t + 1) (d - 1) 1)
      else if K t = 8 ∨ K t = 9 ∨ K t = 10 ∨ K t = 15 then (if t = 400 then .inl (2, t) else eM K n (t + 1) d 0)
      else if 0 < d then .inl (1, t) else .inr t)
noncomputable def eX (K : Nat → Int) (t d m : Nat) : sE ⊕ Nat := eM K (401 - t) t d m
section EQ
variable {K : Nat → Int} {t d : Nat}
theorem eX_eq (ht : t ≤ 400) (m : Nat) : eX K t d m = if m = 0 then
      (if K t = 6 then (if d = 6 then .inl (2, t) else if t = 400 then .inl (2, t) else eX K (t + 1) (d + 1) 0)
      else if K t = 2 ∨ (34 ≤ K t ∧ K t ≤ 42) then (if t = 400 then .inl (2, t) else eX K (t + 1) d 1) else .inl (1, t))
    else
      (if K t = 7 ∧ 0 < d then (if t = 400 then .inl (2, t) else eX K (t + 1) (d - 1) 1)
      else if K t = 8 ∨ K t = 9 ∨ K t = 10 ∨ K t = 15 then (if t = 400 then .inl (2, t) else eX K (t + 1) d 0)
      else if 0 < d then .inl (1, t) else .inr t) := by
  unfold eX
  rw [show 401 - t = (401 - (t + 1)) + 1 by omega]
  rfl
theorem eX_o6 (ht : t ≤ 400) (h : K t = 6) (h2 : d = 6 ∨ t = 400) : eX K t d 0 = .inl (2, t) := by
  rw [eX_eq ht, if_pos rfl, if_pos h]
  by_cases q : d = 6
  · rw [if_pos q]
  · rw [if_neg q, if_pos (by omega)]
theorem eX_o (ht : t < 400) (h : K t = 6) (h2 : d ≠ 6) : eX K t d 0 = eX K (t + 1) (d + 1) 0 := by
  rw [eX_eq (by omega), if_pos rfl, if_pos h, if_neg h2, if_neg (by omega)]
theorem eX_u (ht : t < 400) (h : K t = 2 ∨ (34 ≤ K t ∧ K t ≤ 42)) : eX K t d 0 = eX K (t + 1) d 1 := by
  rw [eX_eq (by omega), if_pos rfl, if_neg (by omega), if_pos h, if_neg (by omega)]
theorem eX_u4 (ht : t = 400) (h : K t = 2 ∨ (34 ≤ K t ∧ K t ≤ 42)) : eX K t d 0 = .inl (2, t) := by
  rw [eX_eq (by omega), if_pos rfl, if_neg (by omega), if_pos h, if_pos ht]
theorem eX_u1 (ht : t ≤ 400) (h : K t ≠ 6) (h1 : K t ≠ 2) (h2 : K t < 34 ∨ 42 < K t) : eX K t d 0 = .inl (1, t) := by
  rw [eX_eq ht, if_pos rfl, if_neg h, if_neg (by omega)]
theorem eX_c (ht : t < 400) (h : K t = 7) (h2 : 0 < d) : eX K t d 1 = eX K (t + 1) (d - 1) 1 := by
  rw [eX_eq (by omega), if_neg (by decide), if_pos ⟨h, h2⟩, if_neg (by omega)]
theorem eX_c4 (ht : t = 400) (h : K t = 7) (h2 : 0 < d) : eX K t d 1 = .inl (2, t) := by
  rw [eX_eq (by omega), if_neg (by decide), if_pos ⟨h, h2⟩, if_pos ht]
theorem eX_b (ht : t < 400) (h : K t = 8 ∨ K t = 9 ∨ K t = 10 ∨ K t = 15) : eX K t d 1 = eX K (t + 1) d 0 := by
  rw [eX_eq (by omega), if_neg (by decide), if_neg (by omega), if_pos h, if_neg (by omega)]
theorem eX_b4 (ht : t = 400) (h : K t = 8 ∨ K t = 9 ∨ K t = 10 ∨ K t = 15) : eX K t d 1 = .inl (2, t) := by
  rw [eX_eq (by omega), if_neg (by decide), if_neg (by omega), if_pos h, if_pos ht]
theorem eX_e1 (ht : t ≤ 400) (h7 : K t ≠ 7) (h : ¬ (K t = 8 ∨ K t = 9 ∨ K t = 10 ∨ K t = 15)) (h2 : 0 < d) : eX K t d 1 = .inl (1, t) := by
  rw [eX_eq ht, if_neg (by decide), if_neg (by omega), if_neg h, if_pos h2]
theorem eX_e0 (ht : t ≤ 400) (h : ¬ (K t = 8 ∨ K t = 9 ∨ K t = 10 ∨ K t = 15)) : eX K t 0 1 = .inr t := by
  rw [eX_eq ht, if_neg (by decide), if_neg (by omega), if_neg h, if_neg (by omega)]
end EQ
/-- one after the other -/
noncomputable def sB {A B : Type} (r : sE ⊕ A) (f : A → sE ⊕ B) : sE ⊕ B := match r with
  | .inl e => .inl e
  | .inr a => f a
noncomputable def sG (t : Nat) : sE ⊕ Nat := if t = 400 then .inl (2, t) else .inr (t + 1)
noncomputable def sM (K : Nat → Int) (k : Int) (t : Nat) : sE ⊕ Nat := if K t = k then sG t else .inl (1, t)
/-- the first fault of a name or number so far: its number (0: none), its token -/
noncomputable def sW (w : sE) (b : Prop) [Decidable b] (k : Int) (t : Nat) : sE := if b ∧ w.1 = 0 then (k, t) else w
noncomputable def sN (K V : Nat → Int) (lo hi : Int) (q : Nat × sE) : sE ⊕ (Nat × sE) := sB (sM K 2 q.1) fun t => .inr (t, sW q.2 (V q.1 < lo ∨ hi < V q.1) 5 q.1)
/-- a text so far: the token, fruits, buyers, names, the fault of a name or number -/
abbrev sT : Type := Nat × Nat × Nat × List Int64 × sE
noncomputable def sNm (K : Nat → Int) (N : Nat → Int64) (q : Nat × List Int64 × sE) : sE ⊕ (Nat × sE) := sB (sM K 1 q.1) fun t => .inr (t, sW q.2.2 (N q.1 ∈ q.2.1) 3 q.1)
noncomputable def sTell (K V : Nat → Int) (N : Nat → Int64) (a b c : Int × Int) (q : Nat × List Int64 × sE) : sE ⊕ (Nat × sE) := sB (sNm K N q) fun q => sB (sN K V a.1 a.2 q) fun q => sB (sN K V b.1 b.2 q) fun q => sB (sN K V c.1 c.2 q) fun q => sB (sM K 4 q.1) fun t => .inr (t, q.2)
noncomputable def sFruit (K V : Nat → Int) (N : Nat → Int64) (x : sT) : sE ⊕ sT := if x.2.1 = 7 then .inl (2, x.1) else sB (sG x.1) fun t => sB (sTell K V N (0, 9) (1, 9) (0, 99) (t, x.2.2.2.1, x.2.2.2.2)) fun q => .inr (q.1, x.2.1 + 1, x.2.2.1, x.2.2.2.1 ++ [N t], q.2)
noncomputable def sBuyer (K V : Nat → Int) (N : Nat → Int64) (x : sT) : sE ⊕ sT := if x.2.2.1 = 4 then .inl (2, x.1) else sB (sG x.1) fun t => sB (sTell K V N (0, 9) (0, 3) (0, 999) (t, x.2.2.2.1, x.2.2.2.2)) fun q => .inr (q.1, x.2.1, x.2.2.1 + 1, x.2.2.2.1 ++ [N t], q.2)
noncomputable def sSt (K V : Nat → Int) (hi : Int) (t : Nat) (w : sE) : sE ⊕ (Nat × sE) := sB (sG t) fun t => sB (sN K V 0 hi (t, w)) fun q => sB (sM K 4 q.1) fun t => .inr (t, q.2)
noncomputable def sSet (K V : Nat → Int) (hi : Int) (x : sT) : sE ⊕ sT := sB (sSt K V hi x.1 x.2.2.2.2) fun q => .inr (q.1, x.2.1, x.2.2.1, x.2.2.2.1, q.2)
theorem sB_a {A B C : Type} (r : sE ⊕ A) (f : A → sE ⊕ B) (g : B → sE ⊕ C) : sB (sB r f) g = sB r (fun a => sB (f a) g) := by
  cases r <;> rfl
noncomputable def sIf (K : Nat → Int) (t : Nat) : sE ⊕ Nat := sB (sG t) fun t => sB (eX K t 0 0) fun t => sB (sM K 13 t) fun t => sB (eX K t 0 0) fun t => sB (sM K 32 t) fun t => sB (eX K t 0 0) fun t => sM K 33 t
noncomputable def sIfs (K : Nat → Int) : Nat → Nat → sE ⊕ Nat
  | 0, t => if K t = 31 then .inl (2, t) else .inr t
  | n + 1, t => if K t = 31 then sB (sIf K t) (sIfs K n) else .inr t
noncomputable def sLast (K : Nat → Int) (t : Nat) : sE ⊕ Nat := sB (eX K t 0 0) (sM K 4)
noncomputable def sLw (K : Nat → Int) (t : Nat) : sE ⊕ Nat := sB (sM K 5 t) fun t => sB (sIfs K 4 t) (sLast K)
noncomputable def sLaw (K : Nat → Int) (x : sT) : sE ⊕ sT := sB (sG x.1) fun t => sB (sLw K t) fun t => .inr (t, x.2)
noncomputable def sOne (K V : Nat → Int) (N : Nat → Int64) (x : sT) : sE ⊕ sT :=
  if K x.1 = 20 then sFruit K V N x else if K x.1 = 21 then sBuyer K V N x else if K x.1 = 28 ∨ K x.1 = 29 then sSet K V 99 x else if K x.1 = 30 then sSet K V 9999 x
  else if 22 ≤ K x.1 ∧ K x.1 ≤ 27 then sLaw K x else .inl (1, x.1)
noncomputable def sRun (K V : Nat → Int) (N : Nat → Int64) : Nat → sT → sE ⊕ sT
  | 0, x => .inr x
  | n + 1, x => if K x.1 = 0 then .inr x else sB (sOne K V N x) (sRun K V N n)
theorem eM_le {K : Nat → Int} {L : Nat} (hL : K L = 0 ∨ L = 400) (hL4 : L ≤ 400) : ∀ (n t d m t' : Nat), t ≤ L → eM K n t d m = .inr t' → t' ≤ L
  | 0, t, d, m, t', h, e => by
    have e : (.inr t : sE ⊕ Nat) = .inr t' := e
    cases e
    exact h
  | n + 1, t, d, m, t', h, e => by
    have nx : K t ≠ 0 → ¬ t = 400 → t + 1 ≤ L := fun a b => by
      by_cases q : t = L
      · rcases hL with z | z
        · rw [q] at a; exact absurd z a
        · omega
      · omega
    unfold eM at e
    split at e
    · split at e
      · rename_i hk
        split at e
        · cases e
        · split at e
          · cases e
          · rename_i z; exact eM_le hL hL4 n _ _ _ _ (nx (by rw [hk]; decide) z) e
      · split at e
        · rename_i hk
          split at e
          · cases e
          · rename_i z; exact eM_le hL hL4 n _ _ _ _ (nx (by omega) z) e
        · cases e
    · split at e
      · rename_i hk
        split at e
        · cases e
        · rename_i z; exact eM_le hL hL4 n _ _ _ _ (nx (by rw [hk.1]; decide) z) e
      · split at e
        · rename_i hk
          split at e
          · cases e
          · rename_i z; exact eM_le hL hL4 n _ _ _ _ (nx (by omega) z) e
        · split at e
          · cases e
          · cases e
            exact h
theorem eX_le {K : Nat → Int} {L t d m t' : Nat} (hL : K L = 0 ∨ L = 400) (hL4 : L ≤ 400) (h : t ≤ L) (e : eX K t d m = .inr t') : t' ≤ L := eM_le hL hL4 _ _ _ _ _ h e
end
section
/-! ===== a text's bytes cut into tokens ===== -/
def oq (a b : Int) : Prop := a = b
def uL (c : Int) : Bool := decide (97 ≤ c ∧ c ≤ 122)
def uD (c : Int) : Bool := decide (48 ≤ c ∧ c ≤ 57)
def uB (c : Int) : Bool := decide (c = 9 ∨ c = 10 ∨ c = 13 ∨ c = 32)
def uS (c : Int) : Int := if c = 59 then 4 else if c = 61 then 5 else if c = 40 then 6 else if c = 41 then 7 else if c = 43 then 8 else if c = 45 then 9 else if c = 42 then 10 else if c = 47 then 15 else if c = 60 then 13 else 3
theorem uL_i {c : Int} : uL c = true ↔ 97 ≤ c ∧ c ≤ 122 := by unfold uL; exact decide_eq_true_iff
theorem uD_i {c : Int} : uD c = true ↔ 48 ≤ c ∧ c ≤ 57 := by unfold uD; exact decide_eq_true_iff
theorem uB_i {c : Int} : uB c = true ↔ (c = 9 ∨ c = 10 ∨ c = 13 ∨ c = 32) := by unfold uB; exact decide_eq_true_iff
theorem uL_n {c : Int} : uL c = false ↔ (c < 97 ∨ 122 < c) := by unfold uL; rw [decide_eq_false_iff_not]; omega
theorem uD_n {c : Int} : uD c = false ↔ (c < 48 ∨ 57 < c) := by unfold uD; rw [decide_eq_false_iff_not]; omega
theorem uB_n {c : Int} : uB c = false ↔ (c ≠ 9 ∧ c ≠ 10 ∧ c ≠ 13 ∧ c ≠ 32) := by unfold uB; rw [decide_eq_false_iff_not]; omega
/-- a run of bytes of one kind from i: where it ends -/
def uRf (p : Int → Bool) (b : Nat → Int) : Nat → Nat → Nat
  | 0, i => i
  | k + 1, i => if p (b i) = true then uRf p b k (i + 1) else i
def uR (p : Int → Bool) (b : Nat → Int) (n i : Nat) : Nat := uRf p b (n - i) i
section UR
variable {p : Int → Bool} {b : Nat → Int} {n i : Nat}
theorem uR_s (h : i < n) (h2 : p (b i) = true) : uR p b n i = uR p b n (i + 1) := by
  unfold uR
  rw [show n - i = (n - (i + 1)) + 1 by omega]
  show (if p (b i) = true then _ else _) = _
  rw [if_pos h2]
theorem uR_e (h : n ≤ i ∨ p (b i) = false) : uR p b n i = i := by
  unfold uR
  match hk : n - i with
  | 0 => rfl
  | k + 1 =>
    have h2 : ¬ (p (b i) = true) := by
      rcases h with q | q
      · omega
      · rw [q]; decide
    show (if p (b i) = true then _ else _) = _
    rw [if_neg h2]
end UR
theorem uRf_ge (p : Int → Bool) (b : Nat → Int) : ∀ (k i : Nat), i ≤ uRf p b k i ∧ uRf p b k i ≤ i + k
  | 0, i => ⟨Nat.le_refl _, Nat.le_refl _⟩
  | k + 1, i => by
    have h := uRf_ge p b k (i + 1)
    unfold uRf
    split <;> omega
theorem uR_ge (p : Int → Bool) (b : Nat → Int) (n i : Nat) : i ≤ uR p b n i := (uRf_ge p b (n - i) i).1
theorem uR_le (p : Int → Bool) (b : Nat → Int) {n i : Nat} (h : i ≤ n) : uR p b n i ≤ n := by
  have := (uRf_ge p b (n - i) i).2
  unfold uR
  omega
theorem uR_gt {p : Int → Bool} {b : Nat → Int} {n i : Nat} (h : i < n) (h2 : p (b i) = true) : i < uR p b n i := by
  have := uR_ge p b n (i + 1)
  rw [uR_s h h2]
  omega
/-- k bytes from i, taken in one by one -/
def uF {A : Type} (f : A → Int → A) (b : Nat → Int) (i : Nat) : Nat → A → A
  | 0, a => a
  | k + 1, a => f (uF f b i k a) (b (i + k))
theorem uF_0 {A : Type} {f : A → Int → A} {b : Nat → Int} {i : Nat} {a : A} : uF f b i 0 a = a := rfl
theorem uF_s {A : Type} {f : A → Int → A} {b : Nat → Int} {i k : Nat} {a : A} : uF f b i (k + 1) a = f (uF f b i k a) (b (i + k)) := rfl
noncomputable def gl (a : Int64) (c : Int) : Int64 := a * 27 + Int64.ofInt (c - 96)
def gd (a c : Int) : Int := 10 * a + (c - 48)
theorem dG {b : Nat → Int} {i : Nat} : ∀ k : Nat, (∀ j, j < k → uD (b (i + j)) = true) → 0 ≤ uF gd b i k 0 ∧ uF gd b i k 0 + 1 ≤ (10 : Int) ^ k
  | 0, _ => by
    show (0 : Int) ≤ 0 ∧ (0 : Int) + 1 ≤ 10 ^ 0
    decide
  | k + 1, h => by
    have h1 := dG k (fun j hj => h j (by omega))
    have h2 := uD_i.mp (h k (by omega))
    rw [uF_s, Int.pow_succ]
    show 0 ≤ 10 * _ + (b (i + k) - 48) ∧ 10 * _ + (b (i + k) - 48) + 1 ≤ _
    omega
/-- the kind of a word: 20 and on for the words w, else a name -/
noncomputable def uW (w : Nat → Int64) (x : Int64) : Nat → Int
  | 0 => 1
  | k + 1 => if w k = x then 20 + (k : Int) else uW w x k
theorem uW_y {w : Nat → Int64} {x : Int64} {k : Nat} (h : w k = x) : uW w x (k + 1) = 20 + (k : Int) := by
  show (if w k = x then _ else _) = _
  rw [if_pos h]
theorem uW_n {w : Nat → Int64} {x : Int64} {k : Nat} (h : w k ≠ x) : uW w x (k + 1) = uW w x k := by
  show (if w k = x then _ else _) = _
  rw [if_neg h]
theorem uW_no {w : Nat → Int64} {x : Int64} : ∀ k : Nat, (∀ j, j < k → w j ≠ x) → uW w x k = 1
  | 0, _ => rfl
  | k + 1, h => by
    rw [uW_n (h k (by omega))]
    exact uW_no k (fun j hj => h j (by omega))
theorem uW_at {w : Nat → Int64} {x : Int64} {m : Nat} (hd : ∀ i j, i < m → j < m → w i = w j → i = j) {j : Nat} (hw : w j = x) : ∀ k : Nat, j < k → k ≤ m → uW w x k = 20 + (j : Int)
  | 0, h, _ => by omega
  | k + 1, h, h2 => by
    by_cases q : j = k
    · rw [q] at hw ⊢
      exact uW_y hw
    · rw [uW_n (fun e => q (hd j k (by omega) (by omega) (hw.trans e.symm)))]
      exact uW_at hd hw k (by omega) (by omega)
theorem uW_b {w : Nat → Int64} {x : Int64} : ∀ k : Nat, 1 ≤ uW w x k ∧ uW w x k ≤ 20 + (k : Int) ∧ uW w x k ≠ 3 ∧ uW w x k ≠ 2
  | 0 => by
    show (1 : Int) ≤ 1 ∧ (1 : Int) ≤ 20 + ((0 : Nat) : Int) ∧ (1 : Int) ≠ 3 ∧ (1 : Int) ≠ 2
    decide
  | k + 1 => by
    have h := uW_b (w := w) (x := x) k
    unfold uW
    split <;> omega
/-- the kind of what starts at p; what is behind it; where the j-th token starts -/
noncomputable def uK (b : Nat → Int) (n : Nat) (w : Nat → Int64) (p : Nat) : Int := if n ≤ p then 0 else if uL (b p) = true then (if 8 < uR uL b n p - p then 3 else uW w (uF gl b p (uR uL b n p - p) 0) 23) else if uD (b p) = true then (if 4 < uR uD b n p - p then 3 else 2) else uS (b p)
def uN (b : Nat → Int) (n p : Nat) : Nat := if n ≤ p then p else if uL (b p) = true then uR uL b n p else if uD (b p) = true then uR uD b n p else p + 1
def uP (b : Nat → Int) (n : Nat) : Nat → Nat
  | 0 => uR uB b n 0
  | j + 1 => uR uB b n (uN b n (uP b n j))
theorem uN_le {b : Nat → Int} {n p : Nat} (h : p ≤ n) : uN b n p ≤ n := by
  unfold uN
  have h1 := uR_le uL b h
  have h2 := uR_le uD b h
  repeat' split
  all_goals omega
theorem uN_gt {b : Nat → Int} {n p : Nat} (h : p < n) : p < uN b n p := by
  unfold uN
  rw [if_neg (by omega)]
  split
  · rename_i q; exact uR_gt h q
  · split
    · rename_i q; exact uR_gt h q
    · omega
theorem uS_b (c : Int) : uS c ≠ 0 ∧ uS c ≠ 1 ∧ uS c ≠ 2 := by
  unfold uS
  repeat' split
  all_goals decide
theorem uK_0 {b : Nat → Int} {n : Nat} {w : Nat → Int64} {p : Nat} (h : uK b n w p ≠ 0) : p < n := by
  by_cases q : n ≤ p
  · exfalso; apply h; unfold uK; rw [if_pos q]
  · omega
/-- the token j as it should be -/
noncomputable def tk (b : Nat → Int) (n : Nat) (w : Nat → Int64) (K P V : Nat → Int) (N : Nat → Int64) (j : Nat) : Prop := P j = (uP b n j : Int) ∧ K j = uK b n w (uP b n j) ∧ (K j = 2 → V j = uF gd b (uP b n j) (uR uD b n (uP b n j) - uP b n j) 0) ∧ (K j = 1 → N j = uF gl b (uP b n j) (uR uL b n (uP b n j) - uP b n j) 0)
theorem tk_up {b : Nat → Int} {n : Nat} {w : Nat → Int64} {K P V : Nat → Int} {N : Nat → Int64} {L : Nat} (h : ∀ j, j ≤ L → tk b n w K P V N j) (hz : ∀ j, j < L → K j ≠ 0) : ∀ d i : Nat, i + d + 1 ≤ L → uP b n i < uP b n (i + d + 1)
  | 0, i, q => by
    have h1 : uP b n i < n := uK_0 (by rw [← (h i (by omega)).2.1]; exact hz i (by omega))
    have h2 := uN_gt (b := b) h1
    have h3 := uR_ge uB b n (uN b n (uP b n i))
    show uP b n i < uR uB b n (uN b n (uP b n i))
    omega
  | d + 1, i, q => by
    have h0 := tk_up h hz d i (by omega)
    have h1 : uP b n (i + d + 1) < n := uK_0 (by rw [← (h (i + d + 1) (by omega)).2.1]; exact hz _ (by omega))
    have h2 := uN_gt (b := b) h1
    have h3 := uR_ge uB b n (uN b n (uP b n (i + d + 1)))
    have h4 : uP b n (i + (d + 1) + 1) = uR uB b n (uN b n (uP b n (i + d + 1))) := rfl
    omega
theorem tk_pm {b : Nat → Int} {n : Nat} {w : Nat → Int64} {K P V : Nat → Int} {N : Nat → Int64} {L : Nat} (h : ∀ j, j ≤ L → tk b n w K P V N j) (hz : ∀ j, j < L → K j ≠ 0) : ∀ i j, i < j → j ≤ L → P i < P j := by
  intro i j hi hj
  have q := tk_up h hz (j - i - 1) i (by omega)
  rw [show i + (j - i - 1) + 1 = j by omega] at q
  rw [(h i (by omega)).1, (h j hj).1]
  omega
/-- a byte, without its sign -/
def ub (l : List Int32) (n i : Nat) : Int := if i < n then (l.getD i 0).toInt % 256 else 0
theorem ub_b {l : List Int32} {n i : Nat} : 0 ≤ ub l n i ∧ ub l n i ≤ 255 := by unfold ub; split <;> omega
theorem ub_i {l : List Int32} {n i : Nat} (h : i < n) : ub l n i = (l.getD i 0).toInt % 256 := by unfold ub; rw [if_pos h]
theorem ub_0 {l : List Int32} {n i : Nat} (h : n ≤ i) : ub l n i = 0 := by unfold ub; rw [if_neg (by omega)]
theorem and255 (x : Int32) : (x &&& 255).toInt = x.toInt % 256 := by
  have h1 : (x &&& 255).toInt = ((x.toBitVec &&& 255#32).toInt) := rfl
  have h2 : (x.toBitVec &&& 255#32).toNat = x.toBitVec.toNat % 256 := by
    rw [BitVec.toNat_and]
    exact Nat.and_two_pow_sub_one_eq_mod x.toBitVec.toNat 8
  have h3 : x.toInt = x.toBitVec.toInt := rfl
  rw [h1, h3, BitVec.toInt_eq_toNat_cond, BitVec.toInt_eq_toNat_cond, h2]
  have := x.toBitVec.isLt
  split <;> split <;> omega
theorem ub_and {l : List Int32} {n i : Nat} (h : i < n) : (l.getD i 0 &&& 255).toInt = ub l n i := by rw [ub_i h]; exact and255 _
theorem gl_i (c : Int32) (h1 : 97 ≤ c.toInt) (h2 : c.toInt ≤ 122) : Int64.ofInt (c.toInt - 96) = (c - 97 + 1).toInt64 := by
  have e : (c - 97 + 1).toInt = c.toInt - 96 := by
    rw [Int32.toInt_add, Int32.toInt_sub]
    have : (97 : Int32).toInt = 97 := by decide
    have : (1 : Int32).toInt = 1 := by decide
    simp only [Int.bmod_def, *]
    omega
  rw [← e]
  apply Int64.toInt_inj.mp
  rw [Int32.toInt_toInt64, Int64.toInt_ofInt]
  have h3 : (Int64.size : Int) = 18446744073709551616 := by decide
  simp only [Int.bmod_def, h3]
  omega
end
section
/-! ===== expressions once more, way by way, with the fault's place ===== -/
theorem exy_0 {Ls : Nat} {xs : Nat → Int32} {d : Nat} {Q : Option Value → jm_h → Prop} (hd : 4 ≤ d) (F : Nat → sy_d) (X1 X2 : List jm_c) (hB : iv_in F iv_B4)
    (k0 : ∀ F1 : Nat → sy_d, iv_in F1 iv_B4 → (∀ j, j < 69 → j ∉ ([16] : List Nat) → F1 j = F j) → (sy_i F1 4).toInt = (sy_i F 4).toInt → (sy_i F1 5).toInt = (sy_i F 5).toInt → (sy_i F1 6).toInt = (sy_i F 6).toInt → (sy_i F1 7).toInt = (sy_i F 7).toInt → (sy_i F1 11).toInt = (sy_i F 11).toInt → (sy_i F1 12).toInt = (sy_i F 12).toInt → (sy_i F1 14).toInt = (sy_i F 14).toInt → (sy_i F1 15).toInt = (sy_i F 15).toInt → (sy_i F1 16).toInt = 0 → sy_ai F1 25 = sy_ai F 25 → sy_ai F1 26 = sy_ai F 26 → sy_ai F1 49 = sy_ai F 49 → sy_ai F1 50 = sy_ai F 50 → sy_ai F1 51 = sy_ai F 51 → (sy_i F1 69).toInt = (sy_i F 5).toInt → hd_W Ls xs d jm_M164 Q (12, sy_dL F1 [some (.inl (.ref 1000)), some (.inr (.inl 69)), some (.inl (.int 1))], sy_dS F1 [], sy_dh F1 X1 X2 (iv_H 4), 0, 0)) :
    hd_W Ls xs d jm_M164 Q (0, sy_dL F [some (.inl (.ref 1000)), none, none], sy_dS F [], sy_dh F X1 X2 (iv_H 4), 0, 0) := by
  have c5 := nz_bx hB (k := 5) (lo := 0) (hi := 7) rfl
  exact ex_0_p0 hd F X1 X2 hB  (fun F1 g e16 e69 => k0 F1 (nz_in hB [16] (fun j hj hn => g j hj (by simp only [List.mem_cons, List.not_mem_nil, or_false, not_or] at hn; omega)) (List.forall_mem_cons.mpr ⟨fun t ht => (Option.some.inj ht) ▸ (nz_hi e16 (by decide : ((0 : Int32)).toInt = 0) (by omega) (by omega)), List.forall_mem_nil _⟩)) (fun j hj hn => g j hj (by simp only [List.mem_cons, List.not_mem_nil, or_false, not_or] at hn; omega)) (nz_fi (g 4 (by decide) (by decide))) (nz_fi (g 5 (by decide) (by decide))) (nz_fi (g 6 (by decide) (by decide))) (nz_fi (g 7 (by decide) (by decide))) (nz_fi (g 11 (by decide) (by decide))) (nz_fi (g 12 (by decide) (by decide))) (nz_fi (g 14 (by decide) (by decide))) (nz_fi (g 15 (by decide) (by decide))) ((congrArg Int32.toInt (zz_i e16)).trans (by decide : ((0 : Int32)).toInt = 0)) (nz_fa (g 25 (by decide) (by decide))) (nz_fa (g 26 (by decide) (by decide))) (nz_fa (g 49 (by decide) (by decide))) (nz_fa (g 50 (by decide) (by decide))) (nz_fa (g 51 (by decide) (by decide))) ((congrArg Int32.toInt (zz_i e69)).trans (rfl : (sy_i F 5).toInt = (sy_i F 5).toInt)))
theorem exy_12 {Ls : Nat} {xs : Nat → Int32} {d : Nat} {Q : Option Value → jm_h → Prop} (hd : 4 ≤ d) (F : Nat → sy_d) (X1 X2 : List jm_c) (hB : iv_in F iv_B4)
    (k0 : (sy_i F 6).toInt ≠ 0 → ∀ F1 : Nat → sy_d, iv_in F1 iv_B4 → (∀ j, j < 69 → j ∉ ([] : List Nat) → F1 j = F j) → (sy_i F1 4).toInt = (sy_i F 4).toInt → (sy_i F1 5).toInt = (sy_i F 5).toInt → (sy_i F1 6).toInt = (sy_i F 6).toInt → (sy_i F1 7).toInt = (sy_i F 7).toInt → (sy_i F1 11).toInt = (sy_i F 11).toInt → (sy_i F1 12).toInt = (sy_i F 12).toInt → (sy_i F1 14).toInt = (sy_i F 14).toInt → (sy_i F1 15).toInt = (sy_i F 15).toInt → (sy_i F1 16).toInt = (sy_i F 16).toInt → sy_ai F1 25 = sy_ai F 25 → sy_ai F1 26 = sy_ai F 26 → sy_ai F1 49 = sy_ai F 49 → sy_ai F1 50 = sy_ai F 50 → sy_ai F1 51 = sy_ai F 51 → Q (none) (sy_dh F1 X1 X2 (iv_H 4)))
    (k1 : (sy_i F 6).toInt = 0 → ∀ F1 : Nat → sy_d, iv_in F1 iv_B4 → (∀ j, j < 69 → j ∉ ([] : List Nat) → F1 j = F j) → (sy_i F1 4).toInt = (sy_i F 4).toInt → (sy_i F1 5).toInt = (sy_i F 5).toInt → (sy_i F1 6).toInt = (sy_i F 6).toInt → (sy_i F1 7).toInt = (sy_i F 7).toInt → (sy_i F1 11).toInt = (sy_i F 11).toInt → (sy_i F1 12).toInt = (sy_i F 12).toInt → (sy_i F1 14).toInt = (sy_i F 14).toInt → (sy_i F1 15).toInt = (sy_i F 15).toInt → (sy_i F1 16).toInt = (sy_i F 16).toInt → sy_ai F1 25 = sy_ai F 25 → sy_ai F1 26 = sy_ai F 26 → sy_ai F1 49 = sy_ai F 49 → sy_ai F1 50 = sy_ai F 50 → sy_ai F1 51 = sy_ai F 51 → (sy_i F1 69).toInt = (sy_i F 69).toInt → hd_W Ls xs d jm_M164 Q (23, sy_dL F1 [some (.inl (.ref 1000)), some (.inr (.inl 69)), some (.inl (.int 1))], sy_dS F1 [], sy_dh F1 X1 X2 (iv_H 4), 0, 0)) :
    hd_W Ls xs d jm_M164 Q (12, sy_dL F [some (.inl (.ref 1000)), some (.inr (.inl 69)), some (.inl (.int 1))], sy_dS F [], sy_dh F X1 X2 (iv_H 4), 0, 0) := by
  by_cases g0 : (sy_i F 6).toInt ≠ 0
  · have c6 := nz_bx hB (k := 6) (lo := 0) (hi := 2) rfl
    exact ex_12_p0 hd F X1 X2 hB (by first | exact g0 | (simp only [nz_c]; exact g0)) (fun F1 g  => k0 g0 F1 (nz_in hB [] (fun j hj hn => g j hj (by simp only [List.mem_cons, List.not_mem_nil, or_false, not_or] at hn; exact trivial)) (List.forall_mem_nil _)) (fun j hj hn => g j hj (by simp only [List.mem_cons, List.not_mem_nil, or_false, not_or] at hn; exact trivial)) (nz_fi (g 4 (by decide) (by decide))) (nz_fi (g 5 (by decide) (by decide))) (nz_fi (g 6 (by decide) (by decide))) (nz_fi (g 7 (by decide) (by decide))) (nz_fi (g 11 (by decide) (by decide))) (nz_fi (g 12 (by decide) (by decide))) (nz_fi (g 14 (by decide) (by decide))) (nz_fi (g 15 (by decide) (by decide))) (nz_fi (g 16 (by decide) (by decide))) (nz_fa (g 25 (by decide) (by decide))) (nz_fa (g 26 (by decide) (by decide))) (nz_fa (g 49 (by decide) (by decide))) (nz_fa (g 50 (by decide) (by decide))) (nz_fa (g 51 (by decide) (by decide))))
  replace g0 : (sy_i F 6).toInt = 0 := by omega
  have c6 := nz_bx hB (k := 6) (lo := 0) (hi := 2) rfl
  exact ex_12_p1 hd F X1 X2 hB (by first | exact g0 | (simp only [nz_c]; exact g0)) (fun F1 g e69 => k1 g0 F1 (nz_in hB [] (fun j hj hn => g j hj (by simp only [List.mem_cons, List.not_mem_nil, or_false, not_or] at hn; exact trivial)) (List.forall_mem_nil _)) (fun j hj hn => g j hj (by simp only [List.mem_cons, List.not_mem_nil, or_false, not_or] at hn; exact trivial)) (nz_fi (g 4 (by decide) (by decide))) (nz_fi (g 5 (by decide) (by decide))) (nz_fi (g 6 (by decide) (by decide))) (nz_fi (g 7 (by decide) (by decide))) (nz_fi (g 11 (by decide) (by decide))) (nz_fi (g 12 (by decide) (by decide))) (nz_fi (g 14 (by decide) (by decide))) (nz_fi (g 15 (by decide) (by decide))) (nz_fi (g 16 (by decide) (by decide))) (nz_fa (g 25 (by decide) (by decide))) (nz_fa (g 26 (by decide) (by decide))) (nz_fa (g 49 (by decide) (by decide))) (nz_fa (g 50 (by decide) (by decide))) (nz_fa (g 51 (by decide) (by decide))) ((congrArg Int32.toInt (zz_i e69)).trans (rfl : (sy_i F 69).toInt = (sy_i F 69).toInt)))
theorem exy_23 {Ls : Nat} {xs : Nat → Int32} {d : Nat} {Q : Option Value → jm_h → Prop} (hd : 4 ≤ d) (F : Nat → sy_d) (X1 X2 : List jm_c) (hB : iv_in F iv_B4)
    (o0 : (sy_i F 6).toInt = 0 → ((sy_ai F 25).getD ((sy_i F 4).toInt).toNat 0).toInt ≠ 6 → (sy_i F 6).toInt = 0 → ((sy_ai F 25).getD ((sy_i F 4).toInt).toNat 0).toInt ≠ 2 → (sy_i F 6).toInt = 0 → 34 ≤ ((sy_ai F 25).getD ((sy_i F 4).toInt).toNat 0).toInt → ((sy_ai F 25).getD ((sy_i F 4).toInt).toNat 0).toInt ≤ 42 → (0 ≤ (sy_i F 15).toInt ∧ (sy_i F 15).toInt < 840))
    (o1 : (sy_i F 6).toInt = 0 → ((sy_ai F 25).getD ((sy_i F 4).toInt).toNat 0).toInt ≠ 6 → (sy_i F 6).toInt = 0 → ((sy_ai F 25).getD ((sy_i F 4).toInt).toNat 0).toInt = 2 → (0 ≤ (sy_i F 15).toInt ∧ (sy_i F 15).toInt < 840))
    (o2 : (sy_i F 6).toInt = 0 → ((sy_ai F 25).getD ((sy_i F 4).toInt).toNat 0).toInt = 6 → (sy_i F 5).toInt ≠ 6 → (sy_i F 4).toInt ≠ 400 → (0 ≤ (sy_i F 16).toInt ∧ (sy_i F 16).toInt < 64))
    (o3 : (sy_i F 6).toInt = 0 → ((sy_ai F 25).getD ((sy_i F 4).toInt).toNat 0).toInt = 6 → (sy_i F 5).toInt ≠ 6 → (sy_i F 4).toInt = 400 → (sy_i F 6).toInt ≤ 0 → (0 ≤ (sy_i F 16).toInt ∧ (sy_i F 16).toInt < 64))
    (o4 : (sy_i F 6).toInt = 0 → ((sy_ai F 25).getD ((sy_i F 4).toInt).toNat 0).toInt = 6 → (sy_i F 5).toInt = 6 → (sy_i F 6).toInt ≤ 0 → (sy_i F 4).toInt ≠ 400 → (0 ≤ (sy_i F 16).toInt ∧ (sy_i F 16).toInt < 64))
    (o5 : (sy_i F 6).toInt = 0 → ((sy_ai F 25).getD ((sy_i F 4).toInt).toNat 0).toInt = 6 → (sy_i F 5).toInt = 6 → (sy_i F 6).toInt ≤ 0 → (sy_i F 4).toInt = 400 → (0 ≤ (sy_i F 16).toInt ∧ (sy_i F 16).toInt < 64))
    (o6 : (sy_i F 6).toInt = 0 → ((sy_ai F 25).getD ((sy_i F 4).toInt).toNat 0).toInt ≠ 6 → (sy_i F 6).toInt = 0 → ((sy_ai F 25).getD ((sy_i F 4).toInt).toNat 0).toInt ≠ 2 → (sy_i F 6).toInt = 0 → 34 ≤ ((sy_ai F 25).getD ((sy_i F 4).toInt).toNat 0).toInt → ((sy_ai F 25).getD ((sy_i F 4).toInt).toNat 0).toInt ≤ 42 → (sy_i F 4).toInt ≠ 400 → (sy_i F 6).toInt ≤ 0 → (0 ≤ ((sy_i F 15).toInt + 1) ∧ ((sy_i F 15).toInt + 1) ≤ 840))
    (o7 : (sy_i F 6).toInt = 0 → ((sy_ai F 25).getD ((sy_i F 4).toInt).toNat 0).toInt ≠ 6 → (sy_i F 6).toInt = 0 → ((sy_ai F 25).getD ((sy_i F 4).toInt).toNat 0).toInt ≠ 2 → (sy_i F 6).toInt = 0 → 34 ≤ ((sy_ai F 25).getD ((sy_i F 4).toInt).toNat 0).toInt → ((sy_ai F 25).getD ((sy_i F 4).toInt).toNat 0).toInt ≤ 42 → (sy_i F 4).toInt = 400 → (sy_i F 6).toInt ≤ 0 → (0 ≤ ((sy_i F 15).toInt + 1) ∧ ((sy_i F 15).toInt + 1) ≤ 840))
    (o8 : (sy_i F 6).toInt = 0 → ((sy_ai F 25).getD ((sy_i F 4).toInt).toNat 0).toInt ≠ 6 → (sy_i F 6).toInt = 0 → ((sy_ai F 25).getD ((sy_i F 4).toInt).toNat 0).toInt = 2 → (sy_i F 4).toInt ≠ 400 → (sy_i F 6).toInt ≤ 0 → (0 ≤ ((sy_i F 15).toInt + 1) ∧ ((sy_i F 15).toInt + 1) ≤ 840))
    (o9 : (sy_i F 6).toInt = 0 → ((sy_ai F 25).getD ((sy_i F 4).toInt).toNat 0).toInt ≠ 6 → (sy_i F 6).toInt = 0 → ((sy_ai F 25).getD ((sy_i F 4).toInt).toNat 0).toInt = 2 → (sy_i F 4).toInt = 400 → (sy_i F 6).toInt ≤ 0 → (0 ≤ ((sy_i F 15).toInt + 1) ∧ ((sy_i F 15).toInt + 1) ≤ 840))
    (o10 : (sy_i F 6).toInt = 0 → ((sy_ai F 25).getD ((sy_i F 4).toInt).toNat 0).toInt = 6 → (sy_i F 5).toInt ≠ 6 → (sy_i F 4).toInt ≠ 400 → (0 ≤ ((sy_i F 5).toInt + 1) ∧ ((sy_i F 5).toInt + 1) ≤ 7))
    (o11 : (sy_i F 6).toInt = 0 → ((sy_ai F 25).getD ((sy_i F 4).toInt).toNat 0).toInt = 6 → (sy_i F 5).toInt ≠ 6 → (sy_i F 4).toInt ≠ 400 → (0 ≤ ((sy_i F 16).toInt + 1) ∧ ((sy_i F 16).toInt + 1) ≤ 64))
    (o12 : (sy_i F 6).toInt = 0 → ((sy_ai F 25).getD ((sy_i F 4).toInt).toNat 0).toInt = 6 → (sy_i F 5).toInt ≠ 6 → (sy_i F 4).toInt = 400 → (sy_i F 6).toInt ≤ 0 → (0 ≤ ((sy_i F 5).toInt + 1) ∧ ((sy_i F 5).toInt + 1) ≤ 7))
    (o13 : (sy_i F 6).toInt = 0 → ((sy_ai F 25).getD ((sy_i F 4).toInt).toNat 0).toInt = 6 → (sy_i F 5).toInt ≠ 6 → (sy_i F 4).toInt = 400 → (sy_i F 6).toInt ≤ 0 → (0 ≤ ((sy_i F 16).toInt + 1) ∧ ((sy_i F 16).toInt + 1) ≤ 64))
    (o14 : (sy_i F 6).toInt = 0 → ((sy_ai F 25).getD ((sy_i F 4).toInt).toNat 0).toInt = 6 → (sy_i F 5).toInt = 6 → (sy_i F 6).toInt ≤ 0 → (sy_i F 4).toInt ≠ 400 → (0 ≤ ((sy_i F 16).toInt + 1) ∧ ((sy_i F 16).toInt + 1) ≤ 64))
    (o15 : (sy_i F 6).toInt = 0 → ((sy_ai F 25).getD ((sy_i F 4).toInt).toNat 0).toInt = 6 → (sy_i F 5).toInt = 6 → (sy_i F 6).toInt ≤ 0 → (sy_i F 4).toInt = 400 → (0 ≤ ((sy_i F 16).toInt + 1) ∧ ((sy_i F 16).toInt + 1) ≤ 64))
    (k0 : (sy_i F 6).toInt ≠ 0 → (sy_i F 6).toInt ≠ 0 → (sy_i F 6).toInt ≠ 0 → 0 < (sy_i F 6).toInt → 0 < (sy_i F 6).toInt → ∀ F1 : Nat → sy_d, iv_in F1 iv_B4 → (∀ j, j < 69 → j ∉ ([] : List Nat) → F1 j = F j) → (sy_i F1 4).toInt = (sy_i F 4).toInt → (sy_i F1 5).toInt = (sy_i F 5).toInt → (sy_i F1 6).toInt = (sy_i F 6).toInt → (sy_i F1 7).toInt = (sy_i F 7).toInt → (sy_i F1 11).toInt = (sy_i F 11).toInt → (sy_i F1 12).toInt = (sy_i F 12).toInt → (sy_i F1 14).toInt = (sy_i F 14).toInt → (sy_i F1 15).toInt = (sy_i F 15).toInt → (sy_i F1 16).toInt = (sy_i F 16).toInt → sy_ai F1 25 = sy_ai F 25 → sy_ai F1 26 = sy_ai F 26 → sy_ai F1 49 = sy_ai F 49 → sy_ai F1 50 = sy_ai F 50 → sy_ai F1 51 = sy_ai F 51 → Q (none) (sy_dh F1 X1 X2 (iv_H 4)))
    (k1 : (sy_i F 6).toInt = 0 → ((sy_ai F 25).getD ((sy_i F 4).toInt).toNat 0).toInt ≠ 6 → (sy_i F 6).toInt = 0 → ((sy_ai F 25).getD ((sy_i F 4).toInt).toNat 0).toInt ≠ 2 → (sy_i F 6).toInt = 0 → ((sy_ai F 25).getD ((sy_i F 4).toInt).toNat 0).toInt < 34 → (sy_i F 6).toInt ≤ 0 → ∀ F1 : Nat → sy_d, iv_in F1 iv_B4 → (∀ j, j < 69 → j ∉ ([6, 7] : List Nat) → F1 j = F j) → (sy_i F1 4).toInt = (sy_i F 4).toInt → (sy_i F1 5).toInt = (sy_i F 5).toInt → (sy_i F1 6).toInt = 1 → (sy_i F1 7).toInt = ((sy_ai F 26).getD ((sy_i F 4).toInt).toNat 0).toInt → (sy_i F1 11).toInt = (sy_i F 11).toInt → (sy_i F1 12).toInt = (sy_i F 12).toInt → (sy_i F1 14).toInt = (sy_i F 14).toInt → (sy_i F1 15).toInt = (sy_i F 15).toInt → (sy_i F1 16).toInt = (sy_i F 16).toInt → sy_ai F1 25 = sy_ai F 25 → sy_ai F1 26 = sy_ai F 26 → sy_ai F1 49 = sy_ai F 49 → sy_ai F1 50 = sy_ai F 50 → sy_ai F1 51 = sy_ai F 51 → Q (none) (sy_dh F1 X1 X2 (iv_H 4)))
    (k2 : (sy_i F 6).toInt = 0 → ((sy_ai F 25).getD ((sy_i F 4).toInt).toNat 0).toInt ≠ 6 → (sy_i F 6).toInt = 0 → ((sy_ai F 25).getD ((sy_i F 4).toInt).toNat 0).toInt ≠ 2 → (sy_i F 6).toInt = 0 → 34 ≤ ((sy_ai F 25).getD ((sy_i F 4).toInt).toNat 0).toInt → ((sy_ai F 25).getD ((sy_i F 4).toInt).toNat 0).toInt ≤ 42 → (sy_i F 4).toInt ≠ 400 → (sy_i F 6).toInt ≤ 0 → ∀ F1 : Nat → sy_d, iv_in F1 iv_B4 → (∀ j, j < 69 → j ∉ ([4, 15, 49, 50] : List Nat) → F1 j = F j) → (sy_i F1 4).toInt = ((sy_i F 4).toInt + 1) → (sy_i F1 5).toInt = (sy_i F 5).toInt → (sy_i F1 6).toInt = (sy_i F 6).toInt → (sy_i F1 7).toInt = (sy_i F 7).toInt → (sy_i F1 11).toInt = (sy_i F 11).toInt → (sy_i F1 12).toInt = (sy_i F 12).toInt → (sy_i F1 14).toInt = (sy_i F 14).toInt → (sy_i F1 15).toInt = ((sy_i F 15).toInt + 1) → (sy_i F1 16).toInt = (sy_i F 16).toInt → sy_ai F1 25 = sy_ai F 25 → sy_ai F1 26 = sy_ai F 26 → sy_ai F1 49 = jm_upd (sy_ai F 49) ((sy_i F 15).toInt).toNat ((1 : Int32)) → sy_ai F1 50 = jm_upd (sy_ai F 50) ((sy_i F 15).toInt).toNat (((sy_ai F 25).getD ((sy_i F 4).toInt).toNat 0) - ((34 : Int32))) → sy_ai F1 51 = sy_ai F 51 → (sy_i F1 69).toInt = (sy_i F 69).toInt → hd_W Ls xs d jm_M164 Q (96, sy_dL F1 [some (.inl (.ref 1000)), some (.inr (.inl 69)), some (.inl (.int 1))], sy_dS F1 [], sy_dh F1 X1 X2 (iv_H 4), 0, 0))
    (k3 : (sy_i F 6).toInt = 0 → ((sy_ai F 25).getD ((sy_i F 4).toInt).toNat 0).toInt ≠ 6 → (sy_i F 6).toInt = 0 → ((sy_ai F 25).getD ((sy_i F 4).toInt).toNat 0).toInt ≠ 2 → (sy_i F 6).toInt = 0 → 34 ≤ ((sy_ai F 25).getD ((sy_i F 4).toInt).toNat 0).toInt → ((sy_ai F 25).getD ((sy_i F 4).toInt).toNat 0).toInt ≤ 42 → (sy_i F 4).toInt = 400 → (sy_i F 6).toInt ≤ 0 → ∀ F1 : Nat → sy_d, iv_in F1 iv_B4 → (∀ j, j < 69 → j ∉ ([6, 7, 15, 49, 50] : List Nat) → F1 j = F j) → (sy_i F1 4).toInt = (sy_i F 4).toInt → (sy_i F1 5).toInt = (sy_i F 5).toInt → (sy_i F1 6).toInt = 2 → (sy_i F1 7).toInt = ((sy_ai F 26).getD ((sy_i F 4).toInt).toNat 0).toInt → (sy_i F1 11).toInt = (sy_i F 11).toInt → (sy_i F1 12).toInt = (sy_i F 12).toInt → (sy_i F1 14).toInt = (sy_i F 14).toInt → (sy_i F1 15).toInt = ((sy_i F 15).toInt + 1) → (sy_i F1 16).toInt = (sy_i F 16).toInt → sy_ai F1 25 = sy_ai F 25 → sy_ai F1 26 = sy_ai F 26 → sy_ai F1 49 = jm_upd (sy_ai F 49) ((sy_i F 15).toInt).toNat ((1 : Int32)) → sy_ai F1 50 = jm_upd (sy_ai F 50) ((sy_i F 15).toInt).toNat (((sy_ai F 25).getD ((sy_i F 4).toInt).toNat 0) - ((34 : Int32))) → sy_ai F1 51 = sy_ai F 51 → Q (none) (sy_dh F1 X1 X2 (iv_H 4)))
    (k4 : (sy_i F 6).toInt = 0 → ((sy_ai F 25).getD ((sy_i F 4).toInt).toNat 0).toInt ≠ 6 → (sy_i F 6).toInt = 0 → ((sy_ai F 25).getD ((sy_i F 4).toInt).toNat 0).toInt = 2 → (sy_i F 4).toInt ≠ 400 → (sy_i F 6).toInt ≤ 0 → ∀ F1 : Nat → sy_d, iv_in F1 iv_B4 → (∀ j, j < 69 → j ∉ ([4, 15, 49, 50] : List Nat) → F1 j = F j) → (sy_i F1 4).toInt = ((sy_i F 4).toInt + 1) → (sy_i F1 5).toInt = (sy_i F 5).toInt → (sy_i F1 6).toInt = (sy_i F 6).toInt → (sy_i F1 7).toInt = (sy_i F 7).toInt → (sy_i F1 11).toInt = (sy_i F 11).toInt → (sy_i F1 12).toInt = (sy_i F 12).toInt → (sy_i F1 14).toInt = (sy_i F 14).toInt → (sy_i F1 15).toInt = ((sy_i F 15).toInt + 1) → (sy_i F1 16).toInt = (sy_i F 16).toInt → sy_ai F1 25 = sy_ai F 25 → sy_ai F1 26 = sy_ai F 26 → sy_ai F1 49 = jm_upd (sy_ai F 49) ((sy_i F 15).toInt).toNat ((0 : Int32)) → sy_ai F1 50 = jm_upd (sy_ai F 50) ((sy_i F 15).toInt).toNat ((sy_ai F 27).getD ((sy_i F 4).toInt).toNat 0) → sy_ai F1 51 = sy_ai F 51 → (sy_i F1 69).toInt = (sy_i F 69).toInt → hd_W Ls xs d jm_M164 Q (96, sy_dL F1 [some (.inl (.ref 1000)), some (.inr (.inl 69)), some (.inl (.int 1))], sy_dS F1 [], sy_dh F1 X1 X2 (iv_H 4), 0, 0))
    (k5 : (sy_i F 6).toInt = 0 → ((sy_ai F 25).getD ((sy_i F 4).toInt).toNat 0).toInt ≠ 6 → (sy_i F 6).toInt = 0 → ((sy_ai F 25).getD ((sy_i F 4).toInt).toNat 0).toInt = 2 → (sy_i F 4).toInt = 400 → (sy_i F 6).toInt ≤ 0 → ∀ F1 : Nat → sy_d, iv_in F1 iv_B4 → (∀ j, j < 69 → j ∉ ([6, 7, 15, 49, 50] : List Nat) → F1 j = F j) → (sy_i F1 4).toInt = (sy_i F 4).toInt → (sy_i F1 5).toInt = (sy_i F 5).toInt → (sy_i F1 6).toInt = 2 → (sy_i F1 7).toInt = ((sy_ai F 26).getD ((sy_i F 4).toInt).toNat 0).toInt → (sy_i F1 11).toInt = (sy_i F 11).toInt → (sy_i F1 12).toInt = (sy_i F 12).toInt → (sy_i F1 14).toInt = (sy_i F 14).toInt → (sy_i F1 15).toInt = ((sy_i F 15).toInt + 1) → (sy_i F1 16).toInt = (sy_i F 16).toInt → sy_ai F1 25 = sy_ai F 25 → sy_ai F1 26 = sy_ai F 26 → sy_ai F1 49 = jm_upd (sy_ai F 49) ((sy_i F 15).toInt).toNat ((0 : Int32)) → sy_ai F1 50 = jm_upd (sy_ai F 50) ((sy_i F 15).toInt).toNat ((sy_ai F 27).getD ((sy_i F 4).toInt).toNat 0) → sy_ai F1 51 = sy_ai F 51 → Q (none) (sy_dh F1 X1 X2 (iv_H 4)))
    (k6 : (sy_i F 6).toInt = 0 → ((sy_ai F 25).getD ((sy_i F 4).toInt).toNat 0).toInt = 6 → (sy_i F 5).toInt ≠ 6 → (sy_i F 4).toInt ≠ 400 → ∀ F1 : Nat → sy_d, iv_in F1 iv_B4 → (∀ j, j < 69 → j ∉ ([4, 5, 16, 51] : List Nat) → F1 j = F j) → (sy_i F1 4).toInt = ((sy_i F 4).toInt + 1) → (sy_i F1 5).toInt = ((sy_i F 5).toInt + 1) → (sy_i F1 6).toInt = (sy_i F 6).toInt → (sy_i F1 7).toInt = (sy_i F 7).toInt → (sy_i F1 11).toInt = (sy_i F 11).toInt → (sy_i F1 12).toInt = (sy_i F 12).toInt → (sy_i F1 14).toInt = (sy_i F 14).toInt → (sy_i F1 15).toInt = (sy_i F 15).toInt → (sy_i F1 16).toInt = ((sy_i F 16).toInt + 1) → sy_ai F1 25 = sy_ai F 25 → sy_ai F1 26 = sy_ai F 26 → sy_ai F1 49 = sy_ai F 49 → sy_ai F1 50 = sy_ai F 50 → sy_ai F1 51 = jm_upd (sy_ai F 51) ((sy_i F 16).toInt).toNat ((6 : Int32)) → (sy_i F1 69).toInt = (sy_i F 69).toInt → hd_W Ls xs d jm_M164 Q (23, sy_dL F1 [some (.inl (.ref 1000)), some (.inr (.inl 69)), some (.inl (.int 1))], sy_dS F1 [], sy_dh F1 X1 X2 (iv_H 4), 0, 0))
    (k7 : (sy_i F 6).toInt = 0 → ((sy_ai F 25).getD ((sy_i F 4).toInt).toNat 0).toInt = 6 → (sy_i F 5).toInt ≠ 6 → (sy_i F 4).toInt = 400 → (sy_i F 6).toInt ≤ 0 → ∀ F1 : Nat → sy_d, iv_in F1 iv_B4 → (∀ j, j < 69 → j ∉ ([5, 6, 7, 16, 51] : List Nat) → F1 j = F j) → (sy_i F1 4).toInt = (sy_i F 4).toInt → (sy_i F1 5).toInt = ((sy_i F 5).toInt + 1) → (sy_i F1 6).toInt = 2 → (sy_i F1 7).toInt = ((sy_ai F 26).getD ((sy_i F 4).toInt).toNat 0).toInt → (sy_i F1 11).toInt = (sy_i F 11).toInt → (sy_i F1 12).toInt = (sy_i F 12).toInt → (sy_i F1 14).toInt = (sy_i F 14).toInt → (sy_i F1 15).toInt = (sy_i F 15).toInt → (sy_i F1 16).toInt = ((sy_i F 16).toInt + 1) → sy_ai F1 25 = sy_ai F 25 → sy_ai F1 26 = sy_ai F 26 → sy_ai F1 49 = sy_ai F 49 → sy_ai F1 50 = sy_ai F 50 → sy_ai F1 51 = jm_upd (sy_ai F 51) ((sy_i F 16).toInt).toNat ((6 : Int32)) → (sy_i F1 69).toInt = (sy_i F 69).toInt → hd_W Ls xs d jm_M164 Q (23, sy_dL F1 [some (.inl (.ref 1000)), some (.inr (.inl 69)), some (.inl (.int 1))], sy_dS F1 [], sy_dh F1 X1 X2 (iv_H 4), 0, 0))
    (k8 : (sy_i F 6).toInt = 0 → ((sy_ai F 25).getD ((sy_i F 4).toInt).toNat 0).toInt = 6 → (sy_i F 5).toInt = 6 → (sy_i F 6).toInt ≤ 0 → (sy_i F 4).toInt ≠ 400 → ∀ F1 : Nat → sy_d, iv_in F1 iv_B4 → (∀ j, j < 69 → j ∉ ([4, 5, 6, 7, 16, 51] : List Nat) → F1 j = F j) → (sy_i F1 4).toInt = ((sy_i F 4).toInt + 1) → (sy_i F1 5).toInt = ((sy_i F 5).toInt + 1) → (sy_i F1 6).toInt = 2 → (sy_i F1 7).toInt = ((sy_ai F 26).getD ((sy_i F 4).toInt).toNat 0).toInt → (sy_i F1 11).toInt = (sy_i F 11).toInt → (sy_i F1 12).toInt = (sy_i F 12).toInt → (sy_i F1 14).toInt = (sy_i F 14).toInt → (sy_i F1 15).toInt = (sy_i F 15).toInt → (sy_i F1 16).toInt = ((sy_i F 16).toInt + 1) → sy_ai F1 25 = sy_ai F 25 → sy_ai F1 26 = sy_ai F 26 → sy_ai F1 49 = sy_ai F 49 → sy_ai F1 50 = sy_ai F 50 → sy_ai F1 51 = jm_upd (sy_ai F 51) ((sy_i F 16).toInt).toNat ((6 : Int32)) → (sy_i F1 69).toInt = (sy_i F 69).toInt → hd_W Ls xs d jm_M164 Q (23, sy_dL F1 [some (.inl (.ref 1000)), some (.inr (.inl 69)), some (.inl (.int 1))], sy_dS F1 [], sy_dh F1 X1 X2 (iv_H 4), 0, 0))
    (k9 : (sy_i F 6).toInt = 0 → ((sy_ai F 25).getD ((sy_i F 4).toInt).toNat 0).toInt = 6 → (sy_i F 5).toInt = 6 → (sy_i F 6).toInt ≤ 0 → (sy_i F 4).toInt = 400 → ∀ F1 : Nat → sy_d, iv_in F1 iv_B4 → (∀ j, j < 69 → j ∉ ([5, 6, 7, 16, 51] : List Nat) → F1 j = F j) → (sy_i F1 4).toInt = (sy_i F 4).toInt → (sy_i F1 5).toInt = ((sy_i F 5).toInt + 1) → (sy_i F1 6).toInt = 2 → (sy_i F1 7).toInt = ((sy_ai F 26).getD ((sy_i F 4).toInt).toNat 0).toInt → (sy_i F1 11).toInt = (sy_i F 11).toInt → (sy_i F1 12).toInt = (sy_i F 12).toInt → (sy_i F1 14).toInt = (sy_i F 14).toInt → (sy_i F1 15).toInt = (sy_i F 15).toInt → (sy_i F1 16).toInt = ((sy_i F 16).toInt + 1) → sy_ai F1 25 = sy_ai F 25 → sy_ai F1 26 = sy_ai F 26 → sy_ai F1 49 = sy_ai F 49 → sy_ai F1 50 = sy_ai F 50 → sy_ai F1 51 = jm_upd (sy_ai F 51) ((sy_i F 16).toInt).toNat ((6 : Int32)) → (sy_i F1 69).toInt = (sy_i F 69).toInt → hd_W Ls xs d jm_M164 Q (23, sy_dL F1 [some (.inl (.ref 1000)), some (.inr (.inl 69)), some (.inl (.int 1))], sy_dS F1 [], sy_dh F1 X1 X2 (iv_H 4), 0, 0)) :
    hd_W Ls xs d jm_M164 Q (23, sy_dL F [some (.inl (.ref 1000)), some (.inr (.inl 69)), some (.inl (.int 1))], sy_dS F [], sy_dh F X1 X2 (iv_H 4), 0, 0) := by
  by_cases g0 : (sy_i F 6).toInt ≠ 0
  · by_cases g1 : (sy_i F 6).toInt ≠ 0
    · by_cases g2 : (sy_i F 6).toInt ≠ 0
      · by_cases g3 : (sy_i F 6).toInt ≤ 0
        · have c6 := nz_bx hB (k := 6) (lo := 0) (hi := 2) rfl
          exfalso
          omega
        replace g3 : 0 < (sy_i F 6).toInt := by omega
        by_cases g4 : (sy_i F 6).toInt ≤ 0
        · have c6 := nz_bx hB (k := 6) (lo := 0) (hi := 2) rfl
          exfalso
          omega
        replace g4 : 0 < (sy_i F 6).toInt := by omega
        have c6 := nz_bx hB (k := 6) (lo := 0) (hi := 2) rfl
        exact ex_23_p0 hd F X1 X2 hB (by first | exact g0 | (simp only [nz_c]; exact g0)) (by first | exact g1 | (simp only [nz_c]; exact g1)) (by first | exact g2 | (simp only [nz_c]; exact g2)) (by first | exact g3 | (simp only [nz_c]; exact g3)) (by first | exact g4 | (simp only [nz_c]; exact g4)) (fun F1 g  => k0 g0 g1 g2 g3 g4 F1 (nz_in hB [] (fun j hj hn => g j hj (by simp only [List.mem_cons, List.not_mem_nil, or_false, not_or] at hn; exact trivial)) (List.forall_mem_nil _)) (fun j hj hn => g j hj (by simp only [List.mem_cons, List.not_mem_nil, or_false, not_or] at hn; exact trivial)) (nz_fi (g 4 (by decide) (by decide))) (nz_fi (g 5 (by decide) (by decide))) (nz_fi (g 6 (by decide) (by decide))) (nz_fi (g 7 (by decide) (by decide))) (nz_fi (g 11 (by decide) (by decide))) (nz_fi (g 12 (by decide) (by decide))) (nz_fi (g 14 (by decide) (by decide))) (nz_fi (g 15 (by decide) (by decide))) (nz_fi (g 16 (by decide) (by decide))) (nz_fa (g 25 (by decide) (by decide))) (nz_fa (g 26 (by decide) (by decide))) (nz_fa (g 49 (by decide) (by decide))) (nz_fa (g 50 (by decide) (by decide))) (nz_fa (g 51 (by decide) (by decide))))
      replace g2 : (sy_i F 6).toInt = 0 := by omega
      have c6 := nz_bx hB (k := 6) (lo := 0) (hi := 2) rfl
      exfalso
      omega
    replace g1 : (sy_i F 6).toInt = 0 := by omega
    have c6 := nz_bx hB (k := 6) (lo := 0) (hi := 2) rfl
    exfalso
    omega
  replace g0 : (sy_i F 6).toInt = 0 := by omega
  by_cases g1 : ((sy_ai F 25).getD ((sy_i F 4).toInt).toNat 0).toInt ≠ 6
  · by_cases g2 : (sy_i F 6).toInt ≠ 0
    · have c6 := nz_bx hB (k := 6) (lo := 0) (hi := 2) rfl
      have c4 := nz_bx hB (k := 4) (lo := 0) (hi := 400) rfl
      have q70 : (sy_ai F 25).getD (sy_i F 4).toNatClampNeg 0 = (sy_ai F 25).getD ((sy_i F 4).toInt).toNat 0 := by simp only [nz_c]
      have n70 : ((sy_ai F 25).getD (sy_i F 4).toNatClampNeg 0).toInt = ((sy_ai F 25).getD ((sy_i F 4).toInt).toNat 0).toInt := congrArg Int32.toInt q70
      have r70 := nz_ba hB (k := 25) (lo := 0) (hi := 42) rfl ((sy_i F 4).toInt).toNat
      exfalso
      omega
    replace g2 : (sy_i F 6).toInt = 0 := by omega
    by_cases g3 : ((sy_ai F 25).getD ((sy_i F 4).toInt).toNat 0).toInt ≠ 2
    · by_cases g4 : (sy_i F 6).toInt ≠ 0
      · have c6 := nz_bx hB (k := 6) (lo := 0) (hi := 2) rfl
        have c4 := nz_bx hB (k := 4) (lo := 0) (hi := 400) rfl
        have q70 : (sy_ai F 25).getD (sy_i F 4).toNatClampNeg 0 = (sy_ai F 25).getD ((sy_i F 4).toInt).toNat 0 := by simp only [nz_c]
        have n70 : ((sy_ai F 25).getD (sy_i F 4).toNatClampNeg 0).toInt = ((sy_ai F 25).getD ((sy_i F 4).toInt).toNat 0).toInt := congrArg Int32.toInt q70
        have r70 := nz_ba hB (k := 25) (lo := 0) (hi := 42) rfl ((sy_i F 4).toInt).toNat
        have q71 : (sy_ai F 25).getD (sy_i F 4).toNatClampNeg 0 = (sy_ai F 25).getD ((sy_i F 4).toInt).toNat 0 := by simp only [nz_c]
        have n71 : ((sy_ai F 25).getD (sy_i F 4).toNatClampNeg 0).toInt = ((sy_ai F 25).getD ((sy_i F 4).toInt).toNat 0).toInt := congrArg Int32.toInt q71
        have r71 := nz_ba hB (k := 25) (lo := 0) (hi := 42) rfl ((sy_i F 4).toInt).toNat
        exfalso
        omega
      replace g4 : (sy_i F 6).toInt = 0 := by omega
      by_cases g5 : ((sy_ai F 25).getD ((sy_i F 4).toInt).toNat 0).toInt < 34
      · by_cases g6 : (sy_i F 6).toInt ≤ 0
        · have c6 := nz_bx hB (k := 6) (lo := 0) (hi := 2) rfl
          have c4 := nz_bx hB (k := 4) (lo := 0) (hi := 400) rfl
          have q70 : (sy_ai F 25).getD (sy_i F 4).toNatClampNeg 0 = (sy_ai F 25).getD ((sy_i F 4).toInt).toNat 0 := by simp only [nz_c]
          have n70 : ((sy_ai F 25).getD (sy_i F 4).toNatClampNeg 0).toInt = ((sy_ai F 25).getD ((sy_i F 4).toInt).toNat 0).toInt := congrArg Int32.toInt q70
          have r70 := nz_ba hB (k := 25) (lo := 0) (hi := 42) rfl ((sy_i F 4).toInt).toNat
          have q71 : (sy_ai F 25).getD (sy_i F 4).toNatClampNeg 0 = (sy_ai F 25).getD ((sy_i F 4).toInt).toNat 0 := by simp only [nz_c]
          have n71 : ((sy_ai F 25).getD (sy_i F 4).toNatClampNeg 0).toInt = ((sy_ai F 25).getD ((sy_i F 4).toInt).toNat 0).toInt := congrArg Int32.toInt q71
          have r71 := nz_ba hB (k := 25) (lo := 0) (hi := 42) rfl ((sy_i F 4).toInt).toNat
          have q72 : (sy_ai F 25).getD (sy_i F 4).toNatClampNeg 0 = (sy_ai F 25).getD ((sy_i F 4).toInt).toNat 0 := by simp only [nz_c]
          have n72 : ((sy_ai F 25).getD (sy_i F 4).toNatClampNeg 0).toInt = ((sy_ai F 25).getD ((sy_i F 4).toInt).toNat 0).toInt := congrArg Int32.toInt q72
          have r72 := nz_ba hB (k := 25) (lo := 0) (hi := 42) rfl ((sy_i F 4).toInt).toNat
          have q73 : (sy_ai F 26).getD (sy_i F 4).toNatClampNeg 0 = (sy_ai F 26).getD ((sy_i F 4).toInt).toNat 0 := by simp only [nz_c]
          have n73 : ((sy_ai F 26).getD (sy_i F 4).toNatClampNeg 0).toInt = ((sy_ai F 26).getD ((sy_i F 4).toInt).toNat 0).toInt := congrArg Int32.toInt q73
          exact ex_23_p1 hd F X1 X2 hB (by first | exact g0 | (simp only [nz_c]; exact g0)) (by first | exact ⟨by omega, by omega⟩ | (simp only [nz_c]; exact ⟨by omega, by omega⟩)) (by first | exact g1 | (simp only [nz_c]; exact g1) | (rw [n70]; exact g1)) (by first | exact g2 | (simp only [nz_c]; exact g2)) (by first | exact ⟨by omega, by omega⟩ | (simp only [nz_c]; exact ⟨by omega, by omega⟩)) (by first | exact g3 | (simp only [nz_c]; exact g3) | (rw [n71]; exact g3)) (by first | exact g4 | (simp only [nz_c]; exact g4)) (by first | exact ⟨by omega, by omega⟩ | (simp only [nz_c]; exact ⟨by omega, by omega⟩)) (by first | exact g5 | (simp only [nz_c]; exact g5) | (rw [n72]; exact g5)) (by first | exact g6 | (simp only [nz_c]; exact g6)) (by first | exact ⟨by omega, by omega⟩ | (simp only [nz_c]; exact ⟨by omega, by omega⟩)) (fun F1 g e6 e7 => k1 g0 g1 g2 g3 g4 g5 g6 F1 (nz_in hB [6, 7] (fun j hj hn => g j hj (by simp only [List.mem_cons, List.not_mem_nil, or_false, not_or] at hn; omega)) (List.forall_mem_cons.mpr ⟨fun t ht => (Option.some.inj ht) ▸ (nz_hi e6 (by decide : ((1 : Int32)).toInt = 1) (by omega) (by omega)), List.forall_mem_cons.mpr ⟨fun t ht => (Option.some.inj ht) ▸ (nz_hz e7), List.forall_mem_nil _⟩⟩)) (fun j hj hn => g j hj (by simp only [List.mem_cons, List.not_mem_nil, or_false, not_or] at hn; omega)) (nz_fi (g 4 (by decide) (by decide))) (nz_fi (g 5 (by decide) (by decide))) ((congrArg Int32.toInt (zz_i e6)).trans (by decide : ((1 : Int32)).toInt = 1)) ((congrArg Int32.toInt (zz_i e7)).trans n73) (nz_fi (g 11 (by decide) (by decide))) (nz_fi (g 12 (by decide) (by decide))) (nz_fi (g 14 (by decide) (by decide))) (nz_fi (g 15 (by decide) (by decide))) (nz_fi (g 16 (by decide) (by decide))) (nz_fa (g 25 (by decide) (by decide))) (nz_fa (g 26 (by decide) (by decide))) (nz_fa (g 49 (by decide) (by decide))) (nz_fa (g 50 (by decide) (by decide))) (nz_fa (g 51 (by decide) (by decide))))
        replace g6 : 0 < (sy_i F 6).toInt := by omega
        have c6 := nz_bx hB (k := 6) (lo := 0) (hi := 2) rfl
        have c4 := nz_bx hB (k := 4) (lo := 0) (hi := 400) rfl
        have q70 : (sy_ai F 25).getD (sy_i F 4).toNatClampNeg 0 = (sy_ai F 25).getD ((sy_i F 4).toInt).toNat 0 := by simp only [nz_c]
        have n70 : ((sy_ai F 25).getD (sy_i F 4).toNatClampNeg 0).toInt = ((sy_ai F 25).getD ((sy_i F 4).toInt).toNat 0).toInt := congrArg Int32.toInt q70
        have r70 := nz_ba hB (k := 25) (lo := 0) (hi := 42) rfl ((sy_i F 4).toInt).toNat
        have q71 : (sy_ai F 25).getD (sy_i F 4).toNatClampNeg 0 = (sy_ai F 25).getD ((sy_i F 4).toInt).toNat 0 := by simp only [nz_c]
        have n71 : ((sy_ai F 25).getD (sy_i F 4).toNatClampNeg 0).toInt = ((sy_ai F 25).getD ((sy_i F 4).toInt).toNat 0).toInt := congrArg Int32.toInt q71
        have r71 := nz_ba hB (k := 25) (lo := 0) (hi := 42) rfl ((sy_i F 4).toInt).toNat
        have q72 : (sy_ai F 25).getD (sy_i F 4).toNatClampNeg 0 = (sy_ai F 25).getD ((sy_i F 4).toInt).toNat 0 := by simp only [nz_c]
        have n72 : ((sy_ai F 25).getD (sy_i F 4).toNatClampNeg 0).toInt = ((sy_ai F 25).getD ((sy_i F 4).toInt).toNat 0).toInt := congrArg Int32.toInt q72
        have r72 := nz_ba hB (k := 25) (lo := 0) (hi := 42) rfl ((sy_i F 4).toInt).toNat
        exfalso
        omega
      replace g5 : 34 ≤ ((sy_ai F 25).getD ((sy_i F 4).toInt).toNat 0).toInt := by omega
      by_cases g6 : 42 < ((sy_ai F 25).getD ((sy_i F 4).toInt).toNat 0).toInt
      · have c6 := nz_bx hB (k := 6) (lo := 0) (hi := 2) rfl
        have c4 := nz_bx hB (k := 4) (lo := 0) (hi := 400) rfl
        have q70 : (sy_ai F 25).getD (sy_i F 4).toNatClampNeg 0 = (sy_ai F 25).getD ((sy_i F 4).toInt).toNat 0 := by simp only [nz_c]
        have n70 : ((sy_ai F 25).getD (sy_i F 4).toNatClampNeg 0).toInt = ((sy_ai F 25).getD ((sy_i F 4).toInt).toNat 0).toInt := congrArg Int32.toInt q70
        have r70 := nz_ba hB (k := 25) (lo := 0) (hi := 42) rfl ((sy_i F 4).toInt).toNat
        have q71 : (sy_ai F 25).getD (sy_i F 4).toNatClampNeg 0 = (sy_ai F 25).getD ((sy_i F 4).toInt).toNat 0 := by simp only [nz_c]
        have n71 : ((sy_ai F 25).getD (sy_i F 4).toNatClampNeg 0).toInt = ((sy_ai F 25).getD ((sy_i F 4).toInt).toNat 0).toInt := congrArg Int32.toInt q71
        have r71 := nz_ba hB (k := 25) (lo := 0) (hi := 42) rfl ((sy_i F 4).toInt).toNat
        have q72 : (sy_ai F 25).getD (sy_i F 4).toNatClampNeg 0 = (sy_ai F 25).getD ((sy_i F 4).toInt).toNat 0 := by simp only [nz_c]
        have n72 : ((sy_ai F 25).getD (sy_i F 4).toNatClampNeg 0).toInt = ((sy_ai F 25).getD ((sy_i F 4).toInt).toNat 0).toInt := congrArg Int32.toInt q72
        have r72 := nz_ba hB (k := 25) (lo := 0) (hi := 42) rfl ((sy_i F 4).toInt).toNat
        have q73 : (sy_ai F 25).getD (sy_i F 4).toNatClampNeg 0 = (sy_ai F 25).getD ((sy_i F 4).toInt).toNat 0 := by simp only [nz_c]
        have n73 : ((sy_ai F 25).getD (sy_i F 4).toNatClampNeg 0).toInt = ((sy_ai F 25).getD ((sy_i F 4).toInt).toNat 0).toInt := congrArg Int32.toInt q73
        have r73 := nz_ba hB (k := 25) (lo := 0) (hi := 42) rfl ((sy_i F 4).toInt).toNat
        exfalso
        omega
      replace g6 : ((sy_ai F 25).getD ((sy_i F 4).toInt).toNat 0).toInt ≤ 42 := by omega
      by_cases g7 : (sy_i F 4).toInt ≠ 400
      · by_cases g8 : (sy_i F 6).toInt ≤ 0
        · have c6 := nz_bx hB (k := 6) (lo := 0) (hi := 2) rfl
          have c4 := nz_bx hB (k := 4) (lo := 0) (hi := 400) rfl
          have q70 : (sy_ai F 25).getD (sy_i F 4).toNatClampNeg 0 = (sy_ai F 25).getD ((sy_i F 4).toInt).toNat 0 := by simp only [nz_c]
          have n70 : ((sy_ai F 25).getD (sy_i F 4).toNatClampNeg 0).toInt = ((sy_ai F 25).getD ((sy_i F 4).toInt).toNat 0).toInt := congrArg Int32.toInt q70
          have r70 := nz_ba hB (k := 25) (lo := 0) (hi := 42) rfl ((sy_i F 4).toInt).toNat
          have q71 : (sy_ai F 25).getD (sy_i F 4).toNatClampNeg 0 = (sy_ai F 25).getD ((sy_i F 4).toInt).toNat 0 := by simp only [nz_c]
          have n71 : ((sy_ai F 25).getD (sy_i F 4).toNatClampNeg 0).toInt = ((sy_ai F 25).getD ((sy_i F 4).toInt).toNat 0).toInt := congrArg Int32.toInt q71
          have r71 := nz_ba hB (k := 25) (lo := 0) (hi := 42) rfl ((sy_i F 4).toInt).toNat
          have q72 : (sy_ai F 25).getD (sy_i F 4).toNatClampNeg 0 = (sy_ai F 25).getD ((sy_i F 4).toInt).toNat 0 := by simp only [nz_c]
          have n72 : ((sy_ai F 25).getD (sy_i F 4).toNatClampNeg 0).toInt = ((sy_ai F 25).getD ((sy_i F 4).toInt).toNat 0).toInt := congrArg Int32.toInt q72
          have r72 := nz_ba hB (k := 25) (lo := 0) (hi := 42) rfl ((sy_i F 4).toInt).toNat
          have q73 : (sy_ai F 25).getD (sy_i F 4).toNatClampNeg 0 = (sy_ai F 25).getD ((sy_i F 4).toInt).toNat 0 := by simp only [nz_c]
          have n73 : ((sy_ai F 25).getD (sy_i F 4).toNatClampNeg 0).toInt = ((sy_ai F 25).getD ((sy_i F 4).toInt).toNat 0).toInt := congrArg Int32.toInt q73
          have r73 := nz_ba hB (k := 25) (lo := 0) (hi := 42) rfl ((sy_i F 4).toInt).toNat
          have c15 := nz_bx hB (k := 15) (lo := 0) (hi := 840) rfl
          have n79 : ((sy_i F 4) + ((1 : Int32))).toInt = ((sy_i F 4).toInt + 1) := nz_add (rfl : (sy_i F 4).toInt = (sy_i F 4).toInt) (by decide : ((1 : Int32)).toInt = 1) (by omega) (by omega)
          have n78 : ((sy_i F 15) + ((1 : Int32))).toInt = ((sy_i F 15).toInt + 1) := nz_add (rfl : (sy_i F 15).toInt = (sy_i F 15).toInt) (by decide : ((1 : Int32)).toInt = 1) (by omega) (by omega)
          have w76 : jm_upd (sy_ai F 49) (sy_i F 15).toNatClampNeg ((1 : Int32)) = jm_upd (sy_ai F 49) ((sy_i F 15).toInt).toNat ((1 : Int32)) := by simp only [nz_c, (by decide : ((1 : Int32)).toInt = 1)]
          have q74 : (sy_ai F 25).getD (sy_i F 4).toNatClampNeg 0 = (sy_ai F 25).getD ((sy_i F 4).toInt).toNat 0 := by simp only [nz_c]
          have n74 : ((sy_ai F 25).getD (sy_i F 4).toNatClampNeg 0).toInt = ((sy_ai F 25).getD ((sy_i F 4).toInt).toNat 0).toInt := congrArg Int32.toInt q74
          have r74 := nz_ba hB (k := 25) (lo := 0) (hi := 42) rfl ((sy_i F 4).toInt).toNat
          have n75 : (((sy_ai F 25).getD (sy_i F 4).toNatClampNeg 0) - ((34 : Int32))).toInt = (((sy_ai F 25).getD ((sy_i F 4).toInt).toNat 0).toInt - 34) := nz_sub n74 (by decide : ((34 : Int32)).toInt = 34) (by omega) (by omega)
          have w77 : jm_upd (sy_ai F 50) (sy_i F 15).toNatClampNeg (((sy_ai F 25).getD (sy_i F 4).toNatClampNeg 0) - ((34 : Int32))) = jm_upd (sy_ai F 50) ((sy_i F 15).toInt).toNat (((sy_ai F 25).getD ((sy_i F 4).toInt).toNat 0) - ((34 : Int32))) := by simp only [nz_c, n75, (by decide : ((34 : Int32)).toInt = 34)]
          exact ex_23_p2 hd F X1 X2 hB (by first | exact g0 | (simp only [nz_c]; exact g0)) (by first | exact ⟨by omega, by omega⟩ | (simp only [nz_c]; exact ⟨by omega, by omega⟩)) (by first | exact g1 | (simp only [nz_c]; exact g1) | (rw [n70]; exact g1)) (by first | exact g2 | (simp only [nz_c]; exact g2)) (by first | exact ⟨by omega, by omega⟩ | (simp only [nz_c]; exact ⟨by omega, by omega⟩)) (by first | exact g3 | (simp only [nz_c]; exact g3) | (rw [n71]; exact g3)) (by first | exact g4 | (simp only [nz_c]; exact g4)) (by first | exact ⟨by omega, by omega⟩ | (simp only [nz_c]; exact ⟨by omega, by omega⟩)) (by first | exact g5 | (simp only [nz_c]; exact g5) | (rw [n72]; exact g5)) (by first | exact ⟨by omega, by omega⟩ | (simp only [nz_c]; exact ⟨by omega, by omega⟩)) (by first | exact g6 | (simp only [nz_c]; exact g6) | (rw [n73]; exact g6)) (by first | exact ⟨by omega, by omega⟩ | (simp only [nz_c]; exact ⟨by omega, by omega⟩)) (by first | exact (o0 g0 g1 g2 g3 g4 g5 g6) | (simp only [nz_c]; exact (o0 g0 g1 g2 g3 g4 g5 g6))) (by first | exact (o0 g0 g1 g2 g3 g4 g5 g6) | (simp only [nz_c]; exact (o0 g0 g1 g2 g3 g4 g5 g6))) (by first | exact g7 | (simp only [nz_c]; exact g7)) (by first | exact g8 | (simp only [nz_c]; exact g8)) (fun F1 g e4 e15 e49 e50 e69 => k2 g0 g1 g2 g3 g4 g5 g6 g7 g8 F1 (nz_in hB [4, 15, 49, 50] (fun j hj hn => g j hj (by simp only [List.mem_cons, List.not_mem_nil, or_false, not_or] at hn; omega)) (List.forall_mem_cons.mpr ⟨fun t ht => (Option.some.inj ht) ▸ (nz_hi e4 n79 (by omega) (by omega)), List.forall_mem_cons.mpr ⟨fun t ht => (Option.some.inj ht) ▸ (nz_hi e15 n78 (o6 g0 g1 g2 g3 g4 g5 g6 g7 g8).1 (o6 g0 g1 g2 g3 g4 g5 g6 g7 g8).2), List.forall_mem_cons.mpr ⟨fun t ht => (Option.some.inj ht) ▸ (nz_hA e49 (nz_up (nz_ba hB (k := 49) (lo := 0) (hi := 5) rfl) (by decide : ((1 : Int32)).toInt = 1) (by omega) (by omega))), List.forall_mem_cons.mpr ⟨fun t ht => (Option.some.inj ht) ▸ (nz_hz2 e50), List.forall_mem_nil _⟩⟩⟩⟩)) (fun j hj hn => g j hj (by simp only [List.mem_cons, List.not_mem_nil, or_false, not_or] at hn; omega)) ((congrArg Int32.toInt (zz_i e4)).trans n79) (nz_fi (g 5 (by decide) (by decide))) (nz_fi (g 6 (by decide) (by decide))) (nz_fi (g 7 (by decide) (by decide))) (nz_fi (g 11 (by decide) (by decide))) (nz_fi (g 12 (by decide) (by decide))) (nz_fi (g 14 (by decide) (by decide))) ((congrArg Int32.toInt (zz_i e15)).trans n78) (nz_fi (g 16 (by decide) (by decide))) (nz_fa (g 25 (by decide) (by decide))) (nz_fa (g 26 (by decide) (by decide))) ((zz_ai e49).trans w76) ((zz_ai e50).trans w77) (nz_fa (g 51 (by decide) (by decide))) ((congrArg Int32.toInt (zz_i e69)).trans (rfl : (sy_i F 69).toInt = (sy_i F 69).toInt)))
        replace g8 : 0 < (sy_i F 6).toInt := by omega
        have c6 := nz_bx hB (k := 6) (lo := 0) (hi := 2) rfl
        have c4 := nz_bx hB (k := 4) (lo := 0) (hi := 400) rfl
        have q70 : (sy_ai F 25).getD (sy_i F 4).toNatClampNeg 0 = (sy_ai F 25).getD ((sy_i F 4).toInt).toNat 0 := by simp only [nz_c]
        have n70 : ((sy_ai F 25).getD (sy_i F 4).toNatClampNeg 0).toInt = ((sy_ai F 25).getD ((sy_i F 4).toInt).toNat 0).toInt := congrArg Int32.toInt q70
        have r70 := nz_ba hB (k := 25) (lo := 0) (hi := 42) rfl ((sy_i F 4).toInt).toNat
        have q71 : (sy_ai F 25).getD (sy_i F 4).toNatClampNeg 0 = (sy_ai F 25).getD ((sy_i F 4).toInt).toNat 0 := by simp only [nz_c]
        have n71 : ((sy_ai F 25).getD (sy_i F 4).toNatClampNeg 0).toInt = ((sy_ai F 25).getD ((sy_i F 4).toInt).toNat 0).toInt := congrArg Int32.toInt q71
        have r71 := nz_ba hB (k := 25) (lo := 0) (hi := 42) rfl ((sy_i F 4).toInt).toNat
        have q72 : (sy_ai F 25).getD (sy_i F 4).toNatClampNeg 0 = (sy_ai F 25).getD ((sy_i F 4).toInt).toNat 0 := by simp only [nz_c]
        have n72 : ((sy_ai F 25).getD (sy_i F 4).toNatClampNeg 0).toInt = ((sy_ai F 25).getD ((sy_i F 4).toInt).toNat 0).toInt := congrArg Int32.toInt q72
        have r72 := nz_ba hB (k := 25) (lo := 0) (hi := 42) rfl ((sy_i F 4).toInt).toNat
        have q73 : (sy_ai F 25).getD (sy_i F 4).toNatClampNeg 0 = (sy_ai F 25).getD ((sy_i F 4).toInt).toNat 0 := by simp only [nz_c]
        have n73 : ((sy_ai F 25).getD (sy_i F 4).toNatClampNeg 0).toInt = ((sy_ai F 25).getD ((sy_i F 4).toInt).toNat 0).toInt := congrArg Int32.toInt q73
        have r73 := nz_ba hB (k := 25) (lo := 0) (hi := 42) rfl ((sy_i F 4).toInt).toNat
        have c15 := nz_bx hB (k := 15) (lo := 0) (hi := 840) rfl
        exfalso
        omega
      replace g7 : (sy_i F 4).toInt = 400 := by omega
      by_cases g8 : (sy_i F 6).toInt ≤ 0
      · have c6 := nz_bx hB (k := 6) (lo := 0) (hi := 2) rfl
        have c4 := nz_bx hB (k := 4) (lo := 0) (hi := 400) rfl
        have q70 : (sy_ai F 25).getD (sy_i F 4).toNatClampNeg 0 = (sy_ai F 25).getD ((sy_i F 4).toInt).toNat 0 := by simp only [nz_c]
        have n70 : ((sy_ai F 25).getD (sy_i F 4).toNatClampNeg 0).toInt = ((sy_ai F 25).getD ((sy_i F 4).toInt).toNat 0).toInt := congrArg Int32.toInt q70
        have r70 := nz_ba hB (k := 25) (lo := 0) (hi := 42) rfl ((sy_i F 4).toInt).toNat
        have q71 : (sy_ai F 25).getD (sy_i F 4).toNatClampNeg 0 = (sy_ai F 25).getD ((sy_i F 4).toInt).toNat 0 := by simp only [nz_c]
        have n71 : ((sy_ai F 25).getD (sy_i F 4).toNatClampNeg 0).toInt = ((sy_ai F 25).getD ((sy_i F 4).toInt).toNat 0).toInt := congrArg Int32.toInt q71
        have r71 := nz_ba hB (k := 25) (lo := 0) (hi := 42) rfl ((sy_i F 4).toInt).toNat
        have q72 : (sy_ai F 25).getD (sy_i F 4).toNatClampNeg 0 = (sy_ai F 25).getD ((sy_i F 4).toInt).toNat 0 := by simp only [nz_c]
        have n72 : ((sy_ai F 25).getD (sy_i F 4).toNatClampNeg 0).toInt = ((sy_ai F 25).getD ((sy_i F 4).toInt).toNat 0).toInt := congrArg Int32.toInt q72
        have r72 := nz_ba hB (k := 25) (lo := 0) (hi := 42) rfl ((sy_i F 4).toInt).toNat
        have q73 : (sy_ai F 25).getD (sy_i F 4).toNatClampNeg 0 = (sy_ai F 25).getD ((sy_i F 4).toInt).toNat 0 := by simp only [nz_c]
        have n73 : ((sy_ai F 25).getD (sy_i F 4).toNatClampNeg 0).toInt = ((sy_ai F 25).getD ((sy_i F 4).toInt).toNat 0).toInt := congrArg Int32.toInt q73
        have r73 := nz_ba hB (k := 25) (lo := 0) (hi := 42) rfl ((sy_i F 4).toInt).toNat
        have c15 := nz_bx hB (k := 15) (lo := 0) (hi := 840) rfl
        have q79 : (sy_ai F 26).getD (sy_i F 4).toNatClampNeg 0 = (sy_ai F 26).getD ((sy_i F 4).toInt).toNat 0 := by simp only [nz_c]
        have n79 : ((sy_ai F 26).getD (sy_i F 4).toNatClampNeg 0).toInt = ((sy_ai F 26).getD ((sy_i F 4).toInt).toNat 0).toInt := congrArg Int32.toInt q79
        have n78 : ((sy_i F 15) + ((1 : Int32))).toInt = ((sy_i F 15).toInt + 1) := nz_add (rfl : (sy_i F 15).toInt = (sy_i F 15).toInt) (by decide : ((1 : Int32)).toInt = 1) (by omega) (by omega)
        have w76 : jm_upd (sy_ai F 49) (sy_i F 15).toNatClampNeg ((1 : Int32)) = jm_upd (sy_ai F 49) ((sy_i F 15).toInt).toNat ((1 : Int32)) := by simp only [nz_c, (by decide : ((1 : Int32)).toInt = 1)]
        have q74 : (sy_ai F 25).getD (sy_i F 4).toNatClampNeg 0 = (sy_ai F 25).getD ((sy_i F 4).toInt).toNat 0 := by simp only [nz_c]
        have n74 : ((sy_ai F 25).getD (sy_i F 4).toNatClampNeg 0).toInt = ((sy_ai F 25).getD ((sy_i F 4).toInt).toNat 0).toInt := congrArg Int32.toInt q74
        have r74 := nz_ba hB (k := 25) (lo := 0) (hi := 42) rfl ((sy_i F 4).toInt).toNat
        have n75 : (((sy_ai F 25).getD (sy_i F 4).toNatClampNeg 0) - ((34 : Int32))).toInt = (((sy_ai F 25).getD ((sy_i F 4).toInt).toNat 0).toInt - 34) := nz_sub n74 (by decide : ((34 : Int32)).toInt = 34) (by omega) (by omega)
        have w77 : jm_upd (sy_ai F 50) (sy_i F 15).toNatClampNeg (((sy_ai F 25).getD (sy_i F 4).toNatClampNeg 0) - ((34 : Int32))) = jm_upd (sy_ai F 50) ((sy_i F 15).toInt).toNat (((sy_ai F 25).getD ((sy_i F 4).toInt).toNat 0) - ((34 : Int32))) := by simp only [nz_c, n75, (by decide : ((34 : Int32)).toInt = 34)]
        exact ex_23_p3 hd F X1 X2 hB (by first | exact g0 | (simp only [nz_c]; exact g0)) (by first | exact ⟨by omega, by omega⟩ | (simp only [nz_c]; exact ⟨by omega, by omega⟩)) (by first | exact g1 | (simp only [nz_c]; exact g1) | (rw [n70]; exact g1)) (by first | exact g2 | (simp only [nz_c]; exact g2)) (by first | exact ⟨by omega, by omega⟩ | (simp only [nz_c]; exact ⟨by omega, by omega⟩)) (by first | exact g3 | (simp only [nz_c]; exact g3) | (rw [n71]; exact g3)) (by first | exact g4 | (simp only [nz_c]; exact g4)) (by first | exact ⟨by omega, by omega⟩ | (simp only [nz_c]; exact ⟨by omega, by omega⟩)) (by first | exact g5 | (simp only [nz_c]; exact g5) | (rw [n72]; exact g5)) (by first | exact ⟨by omega, by omega⟩ | (simp only [nz_c]; exact ⟨by omega, by omega⟩)) (by first | exact g6 | (simp only [nz_c]; exact g6) | (rw [n73]; exact g6)) (by first | exact ⟨by omega, by omega⟩ | (simp only [nz_c]; exact ⟨by omega, by omega⟩)) (by first | exact (o0 g0 g1 g2 g3 g4 g5 g6) | (simp only [nz_c]; exact (o0 g0 g1 g2 g3 g4 g5 g6))) (by first | exact (o0 g0 g1 g2 g3 g4 g5 g6) | (simp only [nz_c]; exact (o0 g0 g1 g2 g3 g4 g5 g6))) (by first | exact g7 | (simp only [nz_c]; exact g7)) (by first | exact g8 | (simp only [nz_c]; exact g8)) (by first | exact ⟨by omega, by omega⟩ | (simp only [nz_c]; exact ⟨by omega, by omega⟩)) (fun F1 g e6 e7 e15 e49 e50 => k3 g0 g1 g2 g3 g4 g5 g6 g7 g8 F1 (nz_in hB [6, 7, 15, 49, 50] (fun j hj hn => g j hj (by simp only [List.mem_cons, List.not_mem_nil, or_false, not_or] at hn; omega)) (List.forall_mem_cons.mpr ⟨fun t ht => (Option.some.inj ht) ▸ (nz_hi e6 (by decide : ((2 : Int32)).toInt = 2) (by omega) (by omega)), List.forall_mem_cons.mpr ⟨fun t ht => (Option.some.inj ht) ▸ (nz_hz e7), List.forall_mem_cons.mpr ⟨fun t ht => (Option.some.inj ht) ▸ (nz_hi e15 n78 (o7 g0 g1 g2 g3 g4 g5 g6 g7 g8).1 (o7 g0 g1 g2 g3 g4 g5 g6 g7 g8).2), List.forall_mem_cons.mpr ⟨fun t ht => (Option.some.inj ht) ▸ (nz_hA e49 (nz_up (nz_ba hB (k := 49) (lo := 0) (hi := 5) rfl) (by decide : ((1 : Int32)).toInt = 1) (by omega) (by omega))), List.forall_mem_cons.mpr ⟨fun t ht => (Option.some.inj ht) ▸ (nz_hz2 e50), List.forall_mem_nil _⟩⟩⟩⟩⟩)) (fun j hj hn => g j hj (by simp only [List.mem_cons, List.not_mem_nil, or_false, not_or] at hn; omega)) (nz_fi (g 4 (by decide) (by decide))) (nz_fi (g 5 (by decide) (by decide))) ((congrArg Int32.toInt (zz_i e6)).trans (by decide : ((2 : Int32)).toInt = 2)) ((congrArg Int32.toInt (zz_i e7)).trans n79) (nz_fi (g 11 (by decide) (by decide))) (nz_fi (g 12 (by decide) (by decide))) (nz_fi (g 14 (by decide) (by decide))) ((congrArg Int32.toInt (zz_i e15)).trans n78) (nz_fi (g 16 (by decide) (by decide))) (nz_fa (g 25 (by decide) (by decide))) (nz_fa (g 26 (by decide) (by decide))) ((zz_ai e49).trans w76) ((zz_ai e50).trans w77) (nz_fa (g 51 (by decide) (by decide))))
      replace g8 : 0 < (sy_i F 6).toInt := by omega
      have c6 := nz_bx hB (k := 6) (lo := 0) (hi := 2) rfl
      have c4 := nz_bx hB (k := 4) (lo := 0) (hi := 400) rfl
      have q70 : (sy_ai F 25).getD (sy_i F 4).toNatClampNeg 0 = (sy_ai F 25).getD ((sy_i F 4).toInt).toNat 0 := by simp only [nz_c]
      have n70 : ((sy_ai F 25).getD (sy_i F 4).toNatClampNeg 0).toInt = ((sy_ai F 25).getD ((sy_i F 4).toInt).toNat 0).toInt := congrArg Int32.toInt q70
      have r70 := nz_ba hB (k := 25) (lo := 0) (hi := 42) rfl ((sy_i F 4).toInt).toNat
      have q71 : (sy_ai F 25).getD (sy_i F 4).toNatClampNeg 0 = (sy_ai F 25).getD ((sy_i F 4).toInt).toNat 0 := by simp only [nz_c]
      have n71 : ((sy_ai F 25).getD (sy_i F 4).toNatClampNeg 0).toInt = ((sy_ai F 25).getD ((sy_i F 4).toInt).toNat 0).toInt := congrArg Int32.toInt q71
      have r71 := nz_ba hB (k := 25) (lo := 0) (hi := 42) rfl ((sy_i F 4).toInt).toNat
      have q72 : (sy_ai F 25).getD (sy_i F 4).toNatClampNeg 0 = (sy_ai F 25).getD ((sy_i F 4).toInt).toNat 0 := by simp only [nz_c]
      have n72 : ((sy_ai F 25).getD (sy_i F 4).toNatClampNeg 0).toInt = ((sy_ai F 25).getD ((sy_i F 4).toInt).toNat 0).toInt := congrArg Int32.toInt q72
      have r72 := nz_ba hB (k := 25) (lo := 0) (hi := 42) rfl ((sy_i F 4).toInt).toNat
      have q73 : (sy_ai F 25).getD (sy_i F 4).toNatClampNeg 0 = (sy_ai F 25).getD ((sy_i F 4).toInt).toNat 0 := by simp only [nz_c]
      have n73 : ((sy_ai F 25).getD (sy_i F 4).toNatClampNeg 0).toInt = ((sy_ai F 25).getD ((sy_i F 4).toInt).toNat 0).toInt := congrArg Int32.toInt q73
      have r73 := nz_ba hB (k := 25) (lo := 0) (hi := 42) rfl ((sy_i F 4).toInt).toNat
      have c15 := nz_bx hB (k := 15) (lo := 0) (hi := 840) rfl
      exfalso
      omega
    replace g3 : ((sy_ai F 25).getD ((sy_i F 4).toInt).toNat 0).toInt = 2 := by omega
    by_cases g4 : (sy_i F 4).toInt ≠ 400
    · by_cases g5 : (sy_i F 6).toInt ≤ 0
      · have c6 := nz_bx hB (k := 6) (lo := 0) (hi := 2) rfl
        have c4 := nz_bx hB (k := 4) (lo := 0) (hi := 400) rfl
        have q70 : (sy_ai F 25).getD (sy_i F 4).toNatClampNeg 0 = (sy_ai F 25).getD ((sy_i F 4).toInt).toNat 0 := by simp only [nz_c]
        have n70 : ((sy_ai F 25).getD (sy_i F 4).toNatClampNeg 0).toInt = ((sy_ai F 25).getD ((sy_i F 4).toInt).toNat 0).toInt := congrArg Int32.toInt q70
        have r70 := nz_ba hB (k := 25) (lo := 0) (hi := 42) rfl ((sy_i F 4).toInt).toNat
        have q71 : (sy_ai F 25).getD (sy_i F 4).toNatClampNeg 0 = (sy_ai F 25).getD ((sy_i F 4).toInt).toNat 0 := by simp only [nz_c]
        have n71 : ((sy_ai F 25).getD (sy_i F 4).toNatClampNeg 0).toInt = ((sy_ai F 25).getD ((sy_i F 4).toInt).toNat 0).toInt := congrArg Int32.toInt q71
        have r71 := nz_ba hB (k := 25) (lo := 0) (hi := 42) rfl ((sy_i F 4).toInt).toNat
        have c15 := nz_bx hB (k := 15) (lo := 0) (hi := 840) rfl
        have n76 : ((sy_i F 4) + ((1 : Int32))).toInt = ((sy_i F 4).toInt + 1) := nz_add (rfl : (sy_i F 4).toInt = (sy_i F 4).toInt) (by decide : ((1 : Int32)).toInt = 1) (by omega) (by omega)
        have n75 : ((sy_i F 15) + ((1 : Int32))).toInt = ((sy_i F 15).toInt + 1) := nz_add (rfl : (sy_i F 15).toInt = (sy_i F 15).toInt) (by decide : ((1 : Int32)).toInt = 1) (by omega) (by omega)
        have w73 : jm_upd (sy_ai F 49) (sy_i F 15).toNatClampNeg ((0 : Int32)) = jm_upd (sy_ai F 49) ((sy_i F 15).toInt).toNat ((0 : Int32)) := by simp only [nz_c, (by decide : ((0 : Int32)).toInt = 0)]
        have w74 : jm_upd (sy_ai F 50) (sy_i F 15).toNatClampNeg ((sy_ai F 27).getD (sy_i F 4).toNatClampNeg 0) = jm_upd (sy_ai F 50) ((sy_i F 15).toInt).toNat ((sy_ai F 27).getD ((sy_i F 4).toInt).toNat 0) := by simp only [nz_c]
        exact ex_23_p4 hd F X1 X2 hB (by first | exact g0 | (simp only [nz_c]; exact g0)) (by first | exact ⟨by omega, by omega⟩ | (simp only [nz_c]; exact ⟨by omega, by omega⟩)) (by first | exact g1 | (simp only [nz_c]; exact g1) | (rw [n70]; exact g1)) (by first | exact g2 | (simp only [nz_c]; exact g2)) (by first | exact ⟨by omega, by omega⟩ | (simp only [nz_c]; exact ⟨by omega, by omega⟩)) (by first | exact g3 | (simp only [nz_c]; exact g3) | (rw [n71]; exact g3)) (by first | exact ⟨by omega, by omega⟩ | (simp only [nz_c]; exact ⟨by omega, by omega⟩)) (by first | exact (o1 g0 g1 g2 g3) | (simp only [nz_c]; exact (o1 g0 g1 g2 g3))) (by first | exact (o1 g0 g1 g2 g3) | (simp only [nz_c]; exact (o1 g0 g1 g2 g3))) (by first | exact g4 | (simp only [nz_c]; exact g4)) (by first | exact g5 | (simp only [nz_c]; exact g5)) (fun F1 g e4 e15 e49 e50 e69 => k4 g0 g1 g2 g3 g4 g5 F1 (nz_in hB [4, 15, 49, 50] (fun j hj hn => g j hj (by simp only [List.mem_cons, List.not_mem_nil, or_false, not_or] at hn; omega)) (List.forall_mem_cons.mpr ⟨fun t ht => (Option.some.inj ht) ▸ (nz_hi e4 n76 (by omega) (by omega)), List.forall_mem_cons.mpr ⟨fun t ht => (Option.some.inj ht) ▸ (nz_hi e15 n75 (o8 g0 g1 g2 g3 g4 g5).1 (o8 g0 g1 g2 g3 g4 g5).2), List.forall_mem_cons.mpr ⟨fun t ht => (Option.some.inj ht) ▸ (nz_hA e49 (nz_up (nz_ba hB (k := 49) (lo := 0) (hi := 5) rfl) (by decide : ((0 : Int32)).toInt = 0) (by omega) (by omega))), List.forall_mem_cons.mpr ⟨fun t ht => (Option.some.inj ht) ▸ (nz_hz2 e50), List.forall_mem_nil _⟩⟩⟩⟩)) (fun j hj hn => g j hj (by simp only [List.mem_cons, List.not_mem_nil, or_false, not_or] at hn; omega)) ((congrArg Int32.toInt (zz_i e4)).trans n76) (nz_fi (g 5 (by decide) (by decide))) (nz_fi (g 6 (by decide) (by decide))) (nz_fi (g 7 (by decide) (by decide))) (nz_fi (g 11 (by decide) (by decide))) (nz_fi (g 12 (by decide) (by decide))) (nz_fi (g 14 (by decide) (by decide))) ((congrArg Int32.toInt (zz_i e15)).trans n75) (nz_fi (g 16 (by decide) (by decide))) (nz_fa (g 25 (by decide) (by decide))) (nz_fa (g 26 (by decide) (by decide))) ((zz_ai e49).trans w73) ((zz_ai e50).trans w74) (nz_fa (g 51 (by decide) (by decide))) ((congrArg Int32.toInt (zz_i e69)).trans (rfl : (sy_i F 69).toInt = (sy_i F 69).toInt)))
      replace g5 : 0 < (sy_i F 6).toInt := by omega
      have c6 := nz_bx hB (k := 6) (lo := 0) (hi := 2) rfl
      have c4 := nz_bx hB (k := 4) (lo := 0) (hi := 400) rfl
      have q70 : (sy_ai F 25).getD (sy_i F 4).toNatClampNeg 0 = (sy_ai F 25).getD ((sy_i F 4).toInt).toNat 0 := by simp only [nz_c]
      have n70 : ((sy_ai F 25).getD (sy_i F 4).toNatClampNeg 0).toInt = ((sy_ai F 25).getD ((sy_i F 4).toInt).toNat 0).toInt := congrArg Int32.toInt q70
      have r70 := nz_ba hB (k := 25) (lo := 0) (hi := 42) rfl ((sy_i F 4).toInt).toNat
      have q71 : (sy_ai F 25).getD (sy_i F 4).toNatClampNeg 0 = (sy_ai F 25).getD ((sy_i F 4).toInt).toNat 0 := by simp only [nz_c]
      have n71 : ((sy_ai F 25).getD (sy_i F 4).toNatClampNeg 0).toInt = ((sy_ai F 25).getD ((sy_i F 4).toInt).toNat 0).toInt := congrArg Int32.toInt q71
      have r71 := nz_ba hB (k := 25) (lo := 0) (hi := 42) rfl ((sy_i F 4).toInt).toNat
      have c15 := nz_bx hB (k := 15) (lo := 0) (hi := 840) rfl
      exfalso
      omega
    replace g4 : (sy_i F 4).toInt = 400 := by omega
    by_cases g5 : (sy_i F 6).toInt ≤ 0
    · have c6 := nz_bx hB (k := 6) (lo := 0) (hi := 2) rfl
      have c4 := nz_bx hB (k := 4) (lo := 0) (hi := 400) rfl
      have q70 : (sy_ai F 25).getD (sy_i F 4).toNatClampNeg 0 = (sy_ai F 25).getD ((sy_i F 4).toInt).toNat 0 := by simp only [nz_c]
      have n70 : ((sy_ai F 25).getD (sy_i F 4).toNatClampNeg 0).toInt = ((sy_ai F 25).getD ((sy_i F 4).toInt).toNat 0).toInt := congrArg Int32.toInt q70
      have r70 := nz_ba hB (k := 25) (lo := 0) (hi := 42) rfl ((sy_i F 4).toInt).toNat
      have q71 : (sy_ai F 25).getD (sy_i F 4).toNatClampNeg 0 = (sy_ai F 25).getD ((sy_i F 4).toInt).toNat 0 := by simp only [nz_c]
      have n71 : ((sy_ai F 25).getD (sy_i F 4).toNatClampNeg 0).toInt = ((sy_ai F 25).getD ((sy_i F 4).toInt).toNat 0).toInt := congrArg Int32.toInt q71
      have r71 := nz_ba hB (k := 25) (lo := 0) (hi := 42) rfl ((sy_i F 4).toInt).toNat
      have c15 := nz_bx hB (k := 15) (lo := 0) (hi := 840) rfl
      have q76 : (sy_ai F 26).getD (sy_i F 4).toNatClampNeg 0 = (sy_ai F 26).getD ((sy_i F 4).toInt).toNat 0 := by simp only [nz_c]
      have n76 : ((sy_ai F 26).getD (sy_i F 4).toNatClampNeg 0).toInt = ((sy_ai F 26).getD ((sy_i F 4).toInt).toNat 0).toInt := congrArg Int32.toInt q76
      have n75 : ((sy_i F 15) + ((1 : Int32))).toInt = ((sy_i F 15).toInt + 1) := nz_add (rfl : (sy_i F 15).toInt = (sy_i F 15).toInt) (by decide : ((1 : Int32)).toInt = 1) (by omega) (by omega)
      have w73 : jm_upd (sy_ai F 49) (sy_i F 15).toNatClampNeg ((0 : Int32)) = jm_upd (sy_ai F 49) ((sy_i F 15).toInt).toNat ((0 : Int32)) := by simp only [nz_c, (by decide : ((0 : Int32)).toInt = 0)]
      have w74 : jm_upd (sy_ai F 50) (sy_i F 15).toNatClampNeg ((sy_ai F 27).getD (sy_i F 4).toNatClampNeg 0) = jm_upd (sy_ai F 50) ((sy_i F 15).toInt).toNat ((sy_ai F 27).getD ((sy_i F 4).toInt).toNat 0) := by simp only [nz_c]
      exact ex_23_p5 hd F X1 X2 hB (by first | exact g0 | (simp only [nz_c]; exact g0)) (by first | exact ⟨by omega, by omega⟩ | (simp only [nz_c]; exact ⟨by omega, by omega⟩)) (by first | exact g1 | (simp only [nz_c]; exact g1) | (rw [n70]; exact g1)) (by first | exact g2 | (simp only [nz_c]; exact g2)) (by first | exact ⟨by omega, by omega⟩ | (simp only [nz_c]; exact ⟨by omega, by omega⟩)) (by first | exact g3 | (simp only [nz_c]; exact g3) | (rw [n71]; exact g3)) (by first | exact ⟨by omega, by omega⟩ | (simp only [nz_c]; exact ⟨by omega, by omega⟩)) (by first | exact (o1 g0 g1 g2 g3) | (simp only [nz_c]; exact (o1 g0 g1 g2 g3))) (by first | exact (o1 g0 g1 g2 g3) | (simp only [nz_c]; exact (o1 g0 g1 g2 g3))) (by first | exact g4 | (simp only [nz_c]; exact g4)) (by first | exact g5 | (simp only [nz_c]; exact g5)) (by first | exact ⟨by omega, by omega⟩ | (simp only [nz_c]; exact ⟨by omega, by omega⟩)) (fun F1 g e6 e7 e15 e49 e50 => k5 g0 g1 g2 g3 g4 g5 F1 (nz_in hB [6, 7, 15, 49, 50] (fun j hj hn => g j hj (by simp only [List.mem_cons, List.not_mem_nil, or_false, not_or] at hn; omega)) (List.forall_mem_cons.mpr ⟨fun t ht => (Option.some.inj ht) ▸ (nz_hi e6 (by decide : ((2 : Int32)).toInt = 2) (by omega) (by omega)), List.forall_mem_cons.mpr ⟨fun t ht => (Option.some.inj ht) ▸ (nz_hz e7), List.forall_mem_cons.mpr ⟨fun t ht => (Option.some.inj ht) ▸ (nz_hi e15 n75 (o9 g0 g1 g2 g3 g4 g5).1 (o9 g0 g1 g2 g3 g4 g5).2), List.forall_mem_cons.mpr ⟨fun t ht => (Option.some.inj ht) ▸ (nz_hA e49 (nz_up (nz_ba hB (k := 49) (lo := 0) (hi := 5) rfl) (by decide : ((0 : Int32)).toInt = 0) (by omega) (by omega))), List.forall_mem_cons.mpr ⟨fun t ht => (Option.some.inj ht) ▸ (nz_hz2 e50), List.forall_mem_nil _⟩⟩⟩⟩⟩)) (fun j hj hn => g j hj (by simp only [List.mem_cons, List.not_mem_nil, or_false, not_or] at hn; omega)) (nz_fi (g 4 (by decide) (by decide))) (nz_fi (g 5 (by decide) (by decide))) ((congrArg Int32.toInt (zz_i e6)).trans (by decide : ((2 : Int32)).toInt = 2)) ((congrArg Int32.toInt (zz_i e7)).trans n76) (nz_fi (g 11 (by decide) (by decide))) (nz_fi (g 12 (by decide) (by decide))) (nz_fi (g 14 (by decide) (by decide))) ((congrArg Int32.toInt (zz_i e15)).trans n75) (nz_fi (g 16 (by decide) (by decide))) (nz_fa (g 25 (by decide) (by decide))) (nz_fa (g 26 (by decide) (by decide))) ((zz_ai e49).trans w73) ((zz_ai e50).trans w74) (nz_fa (g 51 (by decide) (by decide))))
    replace g5 : 0 < (sy_i F 6).toInt := by omega
    have c6 := nz_bx hB (k := 6) (lo := 0) (hi := 2) rfl
    have c4 := nz_bx hB (k := 4) (lo := 0) (hi := 400) rfl
    have q70 : (sy_ai F 25).getD (sy_i F 4).toNatClampNeg 0 = (sy_ai F 25).getD ((sy_i F 4).toInt).toNat 0 := by simp only [nz_c]
    have n70 : ((sy_ai F 25).getD (sy_i F 4).toNatClampNeg 0).toInt = ((sy_ai F 25).getD ((sy_i F 4).toInt).toNat 0).toInt := congrArg Int32.toInt q70
    have r70 := nz_ba hB (k := 25) (lo := 0) (hi := 42) rfl ((sy_i F 4).toInt).toNat
    have q71 : (sy_ai F 25).getD (sy_i F 4).toNatClampNeg 0 = (sy_ai F 25).getD ((sy_i F 4).toInt).toNat 0 := by simp only [nz_c]
    have n71 : ((sy_ai F 25).getD (sy_i F 4).toNatClampNeg 0).toInt = ((sy_ai F 25).getD ((sy_i F 4).toInt).toNat 0).toInt := congrArg Int32.toInt q71
    have r71 := nz_ba hB (k := 25) (lo := 0) (hi := 42) rfl ((sy_i F 4).toInt).toNat
    have c15 := nz_bx hB (k := 15) (lo := 0) (hi := 840) rfl
    exfalso
    omega
  replace g1 : ((sy_ai F 25).getD ((sy_i F 4).toInt).toNat 0).toInt = 6 := by omega
  by_cases g2 : (sy_i F 5).toInt ≠ 6
  · by_cases g3 : (sy_i F 4).toInt ≠ 400
    · have c6 := nz_bx hB (k := 6) (lo := 0) (hi := 2) rfl
      have c4 := nz_bx hB (k := 4) (lo := 0) (hi := 400) rfl
      have q70 : (sy_ai F 25).getD (sy_i F 4).toNatClampNeg 0 = (sy_ai F 25).getD ((sy_i F 4).toInt).toNat 0 := by simp only [nz_c]
      have n70 : ((sy_ai F 25).getD (sy_i F 4).toNatClampNeg 0).toInt = ((sy_ai F 25).getD ((sy_i F 4).toInt).toNat 0).toInt := congrArg Int32.toInt q70
      have r70 := nz_ba hB (k := 25) (lo := 0) (hi := 42) rfl ((sy_i F 4).toInt).toNat
      have c5 := nz_bx hB (k := 5) (lo := 0) (hi := 7) rfl
      have c16 := nz_bx hB (k := 16) (lo := 0) (hi := 64) rfl
      have n72 : ((sy_i F 4) + ((1 : Int32))).toInt = ((sy_i F 4).toInt + 1) := nz_add (rfl : (sy_i F 4).toInt = (sy_i F 4).toInt) (by decide : ((1 : Int32)).toInt = 1) (by omega) (by omega)
      have n71 : ((sy_i F 5) + ((1 : Int32))).toInt = ((sy_i F 5).toInt + 1) := nz_add (rfl : (sy_i F 5).toInt = (sy_i F 5).toInt) (by decide : ((1 : Int32)).toInt = 1) (by omega) (by omega)
      have n74 : ((sy_i F 16) + ((1 : Int32))).toInt = ((sy_i F 16).toInt + 1) := nz_add (rfl : (sy_i F 16).toInt = (sy_i F 16).toInt) (by decide : ((1 : Int32)).toInt = 1) (by omega) (by omega)
      have w73 : jm_upd (sy_ai F 51) (sy_i F 16).toNatClampNeg ((6 : Int32)) = jm_upd (sy_ai F 51) ((sy_i F 16).toInt).toNat ((6 : Int32)) := by simp only [nz_c, (by decide : ((6 : Int32)).toInt = 6)]
      exact ex_23_p6 hd F X1 X2 hB (by first | exact g0 | (simp only [nz_c]; exact g0)) (by first | exact ⟨by omega, by omega⟩ | (simp only [nz_c]; exact ⟨by omega, by omega⟩)) (by first | exact g1 | (simp only [nz_c]; exact g1) | (rw [n70]; exact g1)) (by first | exact g2 | (simp only [nz_c]; exact g2)) (by first | exact g3 | (simp only [nz_c]; exact g3)) (by first | exact (o2 g0 g1 g2 g3) | (simp only [nz_c]; exact (o2 g0 g1 g2 g3))) (fun F1 g e4 e5 e16 e51 e69 => k6 g0 g1 g2 g3 F1 (nz_in hB [4, 5, 16, 51] (fun j hj hn => g j hj (by simp only [List.mem_cons, List.not_mem_nil, or_false, not_or] at hn; omega)) (List.forall_mem_cons.mpr ⟨fun t ht => (Option.some.inj ht) ▸ (nz_hi e4 n72 (by omega) (by omega)), List.forall_mem_cons.mpr ⟨fun t ht => (Option.some.inj ht) ▸ (nz_hi e5 n71 (o10 g0 g1 g2 g3).1 (o10 g0 g1 g2 g3).2), List.forall_mem_cons.mpr ⟨fun t ht => (Option.some.inj ht) ▸ (nz_hi e16 n74 (o11 g0 g1 g2 g3).1 (o11 g0 g1 g2 g3).2), List.forall_mem_cons.mpr ⟨fun t ht => (Option.some.inj ht) ▸ (nz_hz2 e51), List.forall_mem_nil _⟩⟩⟩⟩)) (fun j hj hn => g j hj (by simp only [List.mem_cons, List.not_mem_nil, or_false, not_or] at hn; omega)) ((congrArg Int32.toInt (zz_i e4)).trans n72) ((congrArg Int32.toInt (zz_i e5)).trans n71) (nz_fi (g 6 (by decide) (by decide))) (nz_fi (g 7 (by decide) (by decide))) (nz_fi (g 11 (by decide) (by decide))) (nz_fi (g 12 (by decide) (by decide))) (nz_fi (g 14 (by decide) (by decide))) (nz_fi (g 15 (by decide) (by decide))) ((congrArg Int32.toInt (zz_i e16)).trans n74) (nz_fa (g 25 (by decide) (by decide))) (nz_fa (g 26 (by decide) (by decide))) (nz_fa (g 49 (by decide) (by decide))) (nz_fa (g 50 (by decide) (by decide))) ((zz_ai e51).trans w73) ((congrArg Int32.toInt (zz_i e69)).trans (rfl : (sy_i F 69).toInt = (sy_i F 69).toInt)))
    replace g3 : (sy_i F 4).toInt = 400 := by omega
    by_cases g4 : (sy_i F 6).toInt ≤ 0
    · have c6 := nz_bx hB (k := 6) (lo := 0) (hi := 2) rfl
      have c4 := nz_bx hB (k := 4) (lo := 0) (hi := 400) rfl
      have q70 : (sy_ai F 25).getD (sy_i F 4).toNatClampNeg 0 = (sy_ai F 25).getD ((sy_i F 4).toInt).toNat 0 := by simp only [nz_c]
      have n70 : ((sy_ai F 25).getD (sy_i F 4).toNatClampNeg 0).toInt = ((sy_ai F 25).getD ((sy_i F 4).toInt).toNat 0).toInt := congrArg Int32.toInt q70
      have r70 := nz_ba hB (k := 25) (lo := 0) (hi := 42) rfl ((sy_i F 4).toInt).toNat
      have c5 := nz_bx hB (k := 5) (lo := 0) (hi := 7) rfl
      have c16 := nz_bx hB (k := 16) (lo := 0) (hi := 64) rfl
      have n71 : ((sy_i F 5) + ((1 : Int32))).toInt = ((sy_i F 5).toInt + 1) := nz_add (rfl : (sy_i F 5).toInt = (sy_i F 5).toInt) (by decide : ((1 : Int32)).toInt = 1) (by omega) (by omega)
      have q72 : (sy_ai F 26).getD (sy_i F 4).toNatClampNeg 0 = (sy_ai F 26).getD ((sy_i F 4).toInt).toNat 0 := by simp only [nz_c]
      have n72 : ((sy_ai F 26).getD (sy_i F 4).toNatClampNeg 0).toInt = ((sy_ai F 26).getD ((sy_i F 4).toInt).toNat 0).toInt := congrArg Int32.toInt q72
      have n74 : ((sy_i F 16) + ((1 : Int32))).toInt = ((sy_i F 16).toInt + 1) := nz_add (rfl : (sy_i F 16).toInt = (sy_i F 16).toInt) (by decide : ((1 : Int32)).toInt = 1) (by omega) (by omega)
      have w73 : jm_upd (sy_ai F 51) (sy_i F 16).toNatClampNeg ((6 : Int32)) = jm_upd (sy_ai F 51) ((sy_i F 16).toInt).toNat ((6 : Int32)) := by simp only [nz_c, (by decide : ((6 : Int32)).toInt = 6)]
      exact ex_23_p7 hd F X1 X2 hB (by first | exact g0 | (simp only [nz_c]; exact g0)) (by first | exact ⟨by omega, by omega⟩ | (simp only [nz_c]; exact ⟨by omega, by omega⟩)) (by first | exact g1 | (simp only [nz_c]; exact g1) | (rw [n70]; exact g1)) (by first | exact g2 | (simp only [nz_c]; exact g2)) (by first | exact g3 | (simp only [nz_c]; exact g3)) (by first | exact g4 | (simp only [nz_c]; exact g4)) (by first | exact ⟨by omega, by omega⟩ | (simp only [nz_c]; exact ⟨by omega, by omega⟩)) (by first | exact (o3 g0 g1 g2 g3 g4) | (simp only [nz_c]; exact (o3 g0 g1 g2 g3 g4))) (fun F1 g e5 e6 e7 e16 e51 e69 => k7 g0 g1 g2 g3 g4 F1 (nz_in hB [5, 6, 7, 16, 51] (fun j hj hn => g j hj (by simp only [List.mem_cons, List.not_mem_nil, or_false, not_or] at hn; omega)) (List.forall_mem_cons.mpr ⟨fun t ht => (Option.some.inj ht) ▸ (nz_hi e5 n71 (o12 g0 g1 g2 g3 g4).1 (o12 g0 g1 g2 g3 g4).2), List.forall_mem_cons.mpr ⟨fun t ht => (Option.some.inj ht) ▸ (nz_hi e6 (by decide : ((2 : Int32)).toInt = 2) (by omega) (by omega)), List.forall_mem_cons.mpr ⟨fun t ht => (Option.some.inj ht) ▸ (nz_hz e7), List.forall_mem_cons.mpr ⟨fun t ht => (Option.some.inj ht) ▸ (nz_hi e16 n74 (o13 g0 g1 g2 g3 g4).1 (o13 g0 g1 g2 g3 g4).2), List.forall_mem_cons.mpr ⟨fun t ht => (Option.some.inj ht) ▸ (nz_hz2 e51), List.forall_mem_nil _⟩⟩⟩⟩⟩)) (fun j hj hn => g j hj (by simp only [List.mem_cons, List.not_mem_nil, or_false, not_or] at hn; omega)) (nz_fi (g 4 (by decide) (by decide))) ((congrArg Int32.toInt (zz_i e5)).trans n71) ((congrArg Int32.toInt (zz_i e6)).trans (by decide : ((2 : Int32)).toInt = 2)) ((congrArg Int32.toInt (zz_i e7)).trans n72) (nz_fi (g 11 (by decide) (by decide))) (nz_fi (g 12 (by decide) (by decide))) (nz_fi (g 14 (by decide) (by decide))) (nz_fi (g 15 (by decide) (by decide))) ((congrArg Int32.toInt (zz_i e16)).trans n74) (nz_fa (g 25 (by decide) (by decide))) (nz_fa (g 26 (by decide) (by decide))) (nz_fa (g 49 (by decide) (by decide))) (nz_fa (g 50 (by decide) (by decide))) ((zz_ai e51).trans w73) ((congrArg Int32.toInt (zz_i e69)).trans (rfl : (sy_i F 69).toInt = (sy_i F 69).toInt)))
    replace g4 : 0 < (sy_i F 6).toInt := by omega
    have c6 := nz_bx hB (k := 6) (lo := 0) (hi := 2) rfl
    have c4 := nz_bx hB (k := 4) (lo := 0) (hi := 400) rfl
    have q70 : (sy_ai F 25).getD (sy_i F 4).toNatClampNeg 0 = (sy_ai F 25).getD ((sy_i F 4).toInt).toNat 0 := by simp only [nz_c]
    have n70 : ((sy_ai F 25).getD (sy_i F 4).toNatClampNeg 0).toInt = ((sy_ai F 25).getD ((sy_i F 4).toInt).toNat 0).toInt := congrArg Int32.toInt q70
    have r70 := nz_ba hB (k := 25) (lo := 0) (hi := 42) rfl ((sy_i F 4).toInt).toNat
    have c5 := nz_bx hB (k := 5) (lo := 0) (hi := 7) rfl
    exfalso
    omega
  replace g2 : (sy_i F 5).toInt = 6 := by omega
  by_cases g3 : (sy_i F 6).toInt ≤ 0
  · by_cases g4 : (sy_i F 4).toInt ≠ 400
    · have c6 := nz_bx hB (k := 6) (lo := 0) (hi := 2) rfl
      have c4 := nz_bx hB (k := 4) (lo := 0) (hi := 400) rfl
      have q70 : (sy_ai F 25).getD (sy_i F 4).toNatClampNeg 0 = (sy_ai F 25).getD ((sy_i F 4).toInt).toNat 0 := by simp only [nz_c]
      have n70 : ((sy_ai F 25).getD (sy_i F 4).toNatClampNeg 0).toInt = ((sy_ai F 25).getD ((sy_i F 4).toInt).toNat 0).toInt := congrArg Int32.toInt q70
      have r70 := nz_ba hB (k := 25) (lo := 0) (hi := 42) rfl ((sy_i F 4).toInt).toNat
      have c5 := nz_bx hB (k := 5) (lo := 0) (hi := 7) rfl
      have c16 := nz_bx hB (k := 16) (lo := 0) (hi := 64) rfl
      have n73 : ((sy_i F 4) + ((1 : Int32))).toInt = ((sy_i F 4).toInt + 1) := nz_add (rfl : (sy_i F 4).toInt = (sy_i F 4).toInt) (by decide : ((1 : Int32)).toInt = 1) (by omega) (by omega)
      have n72 : ((sy_i F 5) + ((1 : Int32))).toInt = ((sy_i F 5).toInt + 1) := nz_add (rfl : (sy_i F 5).toInt = (sy_i F 5).toInt) (by decide : ((1 : Int32)).toInt = 1) (by omega) (by omega)
      have q71 : (sy_ai F 26).getD (sy_i F 4).toNatClampNeg 0 = (sy_ai F 26).getD ((sy_i F 4).toInt).toNat 0 := by simp only [nz_c]
      have n71 : ((sy_ai F 26).getD (sy_i F 4).toNatClampNeg 0).toInt = ((sy_ai F 26).getD ((sy_i F 4).toInt).toNat 0).toInt := congrArg Int32.toInt q71
      have n75 : ((sy_i F 16) + ((1 : Int32))).toInt = ((sy_i F 16).toInt + 1) := nz_add (rfl : (sy_i F 16).toInt = (sy_i F 16).toInt) (by decide : ((1 : Int32)).toInt = 1) (by omega) (by omega)
      have w74 : jm_upd (sy_ai F 51) (sy_i F 16).toNatClampNeg ((6 : Int32)) = jm_upd (sy_ai F 51) ((sy_i F 16).toInt).toNat ((6 : Int32)) := by simp only [nz_c, (by decide : ((6 : Int32)).toInt = 6)]
      exact ex_23_p8 hd F X1 X2 hB (by first | exact g0 | (simp only [nz_c]; exact g0)) (by first | exact ⟨by omega, by omega⟩ | (simp only [nz_c]; exact ⟨by omega, by omega⟩)) (by first | exact g1 | (simp only [nz_c]; exact g1) | (rw [n70]; exact g1)) (by first | exact g2 | (simp only [nz_c]; exact g2)) (by first | exact g3 | (simp only [nz_c]; exact g3)) (by first | exact ⟨by omega, by omega⟩ | (simp only [nz_c]; exact ⟨by omega, by omega⟩)) (by first | exact g4 | (simp only [nz_c]; exact g4)) (by first | exact (o4 g0 g1 g2 g3 g4) | (simp only [nz_c]; exact (o4 g0 g1 g2 g3 g4))) (fun F1 g e4 e5 e6 e7 e16 e51 e69 => k8 g0 g1 g2 g3 g4 F1 (nz_in hB [4, 5, 6, 7, 16, 51] (fun j hj hn => g j hj (by simp only [List.mem_cons, List.not_mem_nil, or_false, not_or] at hn; omega)) (List.forall_mem_cons.mpr ⟨fun t ht => (Option.some.inj ht) ▸ (nz_hi e4 n73 (by omega) (by omega)), List.forall_mem_cons.mpr ⟨fun t ht => (Option.some.inj ht) ▸ (nz_hi e5 n72 (by omega) (by omega)), List.forall_mem_cons.mpr ⟨fun t ht => (Option.some.inj ht) ▸ (nz_hi e6 (by decide : ((2 : Int32)).toInt = 2) (by omega) (by omega)), List.forall_mem_cons.mpr ⟨fun t ht => (Option.some.inj ht) ▸ (nz_hz e7), List.forall_mem_cons.mpr ⟨fun t ht => (Option.some.inj ht) ▸ (nz_hi e16 n75 (o14 g0 g1 g2 g3 g4).1 (o14 g0 g1 g2 g3 g4).2), List.forall_mem_cons.mpr ⟨fun t ht => (Option.some.inj ht) ▸ (nz_hz2 e51), List.forall_mem_nil _⟩⟩⟩⟩⟩⟩)) (fun j hj hn => g j hj (by simp only [List.mem_cons, List.not_mem_nil, or_false, not_or] at hn; omega)) ((congrArg Int32.toInt (zz_i e4)).trans n73) ((congrArg Int32.toInt (zz_i e5)).trans n72) ((congrArg Int32.toInt (zz_i e6)).trans (by decide : ((2 : Int32)).toInt = 2)) ((congrArg Int32.toInt (zz_i e7)).trans n71) (nz_fi (g 11 (by decide) (by decide))) (nz_fi (g 12 (by decide) (by decide))) (nz_fi (g 14 (by decide) (by decide))) (nz_fi (g 15 (by decide) (by decide))) ((congrArg Int32.toInt (zz_i e16)).trans n75) (nz_fa (g 25 (by decide) (by decide))) (nz_fa (g 26 (by decide) (by decide))) (nz_fa (g 49 (by decide) (by decide))) (nz_fa (g 50 (by decide) (by decide))) ((zz_ai e51).trans w74) ((congrArg Int32.toInt (zz_i e69)).trans (rfl : (sy_i F 69).toInt = (sy_i F 69).toInt)))
    replace g4 : (sy_i F 4).toInt = 400 := by omega
    have c6 := nz_bx hB (k := 6) (lo := 0) (hi := 2) rfl
    have c4 := nz_bx hB (k := 4) (lo := 0) (hi := 400) rfl
    have q70 : (sy_ai F 25).getD (sy_i F 4).toNatClampNeg 0 = (sy_ai F 25).getD ((sy_i F 4).toInt).toNat 0 := by simp only [nz_c]
    have n70 : ((sy_ai F 25).getD (sy_i F 4).toNatClampNeg 0).toInt = ((sy_ai F 25).getD ((sy_i F 4).toInt).toNat 0).toInt := congrArg Int32.toInt q70
    have r70 := nz_ba hB (k := 25) (lo := 0) (hi := 42) rfl ((sy_i F 4).toInt).toNat
    have c5 := nz_bx hB (k := 5) (lo := 0) (hi := 7) rfl
    have c16 := nz_bx hB (k := 16) (lo := 0) (hi := 64) rfl
    have n72 : ((sy_i F 5) + ((1 : Int32))).toInt = ((sy_i F 5).toInt + 1) := nz_add (rfl : (sy_i F 5).toInt = (sy_i F 5).toInt) (by decide : ((1 : Int32)).toInt = 1) (by omega) (by omega)
    have q71 : (sy_ai F 26).getD (sy_i F 4).toNatClampNeg 0 = (sy_ai F 26).getD ((sy_i F 4).toInt).toNat 0 := by simp only [nz_c]
    have n71 : ((sy_ai F 26).getD (sy_i F 4).toNatClampNeg 0).toInt = ((sy_ai F 26).getD ((sy_i F 4).toInt).toNat 0).toInt := congrArg Int32.toInt q71
    have n74 : ((sy_i F 16) + ((1 : Int32))).toInt = ((sy_i F 16).toInt + 1) := nz_add (rfl : (sy_i F 16).toInt = (sy_i F 16).toInt) (by decide : ((1 : Int32)).toInt = 1) (by omega) (by omega)
    have w73 : jm_upd (sy_ai F 51) (sy_i F 16).toNatClampNeg ((6 : Int32)) = jm_upd (sy_ai F 51) ((sy_i F 16).toInt).toNat ((6 : Int32)) := by simp only [nz_c, (by decide : ((6 : Int32)).toInt = 6)]
    exact ex_23_p9 hd F X1 X2 hB (by first | exact g0 | (simp only [nz_c]; exact g0)) (by first | exact ⟨by omega, by omega⟩ | (simp only [nz_c]; exact ⟨by omega, by omega⟩)) (by first | exact g1 | (simp only [nz_c]; exact g1) | (rw [n70]; exact g1)) (by first | exact g2 | (simp only [nz_c]; exact g2)) (by first | exact g3 | (simp only [nz_c]; exact g3)) (by first | exact ⟨by omega, by omega⟩ | (simp only [nz_c]; exact ⟨by omega, by omega⟩)) (by first | exact g4 | (simp only [nz_c]; exact g4)) (by first | exact (o5 g0 g1 g2 g3 g4) | (simp only [nz_c]; exact (o5 g0 g1 g2 g3 g4))) (fun F1 g e5 e6 e7 e16 e51 e69 => k9 g0 g1 g2 g3 g4 F1 (nz_in hB [5, 6, 7, 16, 51] (fun j hj hn => g j hj (by simp only [List.mem_cons, List.not_mem_nil, or_false, not_or] at hn; omega)) (List.forall_mem_cons.mpr ⟨fun t ht => (Option.some.inj ht) ▸ (nz_hi e5 n72 (by omega) (by omega)), List.forall_mem_cons.mpr ⟨fun t ht => (Option.some.inj ht) ▸ (nz_hi e6 (by decide : ((2 : Int32)).toInt = 2) (by omega) (by omega)), List.forall_mem_cons.mpr ⟨fun t ht => (Option.some.inj ht) ▸ (nz_hz e7), List.forall_mem_cons.mpr ⟨fun t ht => (Option.some.inj ht) ▸ (nz_hi e16 n74 (o15 g0 g1 g2 g3 g4).1 (o15 g0 g1 g2 g3 g4).2), List.forall_mem_cons.mpr ⟨fun t ht => (Option.some.inj ht) ▸ (nz_hz2 e51), List.forall_mem_nil _⟩⟩⟩⟩⟩)) (fun j hj hn => g j hj (by simp only [List.mem_cons, List.not_mem_nil, or_false, not_or] at hn; omega)) (nz_fi (g 4 (by decide) (by decide))) ((congrArg Int32.toInt (zz_i e5)).trans n72) ((congrArg Int32.toInt (zz_i e6)).trans (by decide : ((2 : Int32)).toInt = 2)) ((congrArg Int32.toInt (zz_i e7)).trans n71) (nz_fi (g 11 (by decide) (by decide))) (nz_fi (g 12 (by decide) (by decide))) (nz_fi (g 14 (by decide) (by decide))) (nz_fi (g 15 (by decide) (by decide))) ((congrArg Int32.toInt (zz_i e16)).trans n74) (nz_fa (g 25 (by decide) (by decide))) (nz_fa (g 26 (by decide) (by decide))) (nz_fa (g 49 (by decide) (by decide))) (nz_fa (g 50 (by decide) (by decide))) ((zz_ai e51).trans w73) ((congrArg Int32.toInt (zz_i e69)).trans (rfl : (sy_i F 69).toInt = (sy_i F 69).toInt)))
  replace g3 : 0 < (sy_i F 6).toInt := by omega
  have c6 := nz_bx hB (k := 6) (lo := 0) (hi := 2) rfl
  have c4 := nz_bx hB (k := 4) (lo := 0) (hi := 400) rfl
  have q70 : (sy_ai F 25).getD (sy_i F 4).toNatClampNeg 0 = (sy_ai F 25).getD ((sy_i F 4).toInt).toNat 0 := by simp only [nz_c]
  have n70 : ((sy_ai F 25).getD (sy_i F 4).toNatClampNeg 0).toInt = ((sy_ai F 25).getD ((sy_i F 4).toInt).toNat 0).toInt := congrArg Int32.toInt q70
  have r70 := nz_ba hB (k := 25) (lo := 0) (hi := 42) rfl ((sy_i F 4).toInt).toNat
  have c5 := nz_bx hB (k := 5) (lo := 0) (hi := 7) rfl
  exfalso
  omega
theorem exy_96 {Ls : Nat} {xs : Nat → Int32} {d : Nat} {Q : Option Value → jm_h → Prop} (hd : 4 ≤ d) (F : Nat → sy_d) (X1 X2 : List jm_c) (hB : iv_in F iv_B4)
    (k0 : (sy_i F 6).toInt ≠ 0 → (sy_i F 6).toInt ≠ 0 → (sy_i F 6).toInt ≠ 0 → (sy_i F 6).toInt ≠ 0 → (sy_i F 6).toInt ≠ 0 → (sy_i F 5).toInt ≤ (sy_i F 69).toInt → ∀ F1 : Nat → sy_d, iv_in F1 iv_B4 → (∀ j, j < 69 → j ∉ ([] : List Nat) → F1 j = F j) → (sy_i F1 4).toInt = (sy_i F 4).toInt → (sy_i F1 5).toInt = (sy_i F 5).toInt → (sy_i F1 6).toInt = (sy_i F 6).toInt → (sy_i F1 7).toInt = (sy_i F 7).toInt → (sy_i F1 11).toInt = (sy_i F 11).toInt → (sy_i F1 12).toInt = (sy_i F 12).toInt → (sy_i F1 14).toInt = (sy_i F 14).toInt → (sy_i F1 15).toInt = (sy_i F 15).toInt → (sy_i F1 16).toInt = (sy_i F 16).toInt → sy_ai F1 25 = sy_ai F 25 → sy_ai F1 26 = sy_ai F 26 → sy_ai F1 49 = sy_ai F 49 → sy_ai F1 50 = sy_ai F 50 → sy_ai F1 51 = sy_ai F 51 → hd_W Ls xs d jm_M164 Q (206, sy_dL F1 [some (.inl (.ref 1000)), none, none], sy_dS F1 [.inl (.int 0), .inl (.ref 1000)], sy_dh F1 X1 X2 (iv_H 4), 0, 0))
    (k1 : (sy_i F 6).toInt ≠ 0 → (sy_i F 6).toInt ≠ 0 → (sy_i F 6).toInt ≠ 0 → (sy_i F 6).toInt ≠ 0 → (sy_i F 6).toInt ≠ 0 → (sy_i F 69).toInt < (sy_i F 5).toInt → 0 < (sy_i F 6).toInt → ∀ F1 : Nat → sy_d, iv_in F1 iv_B4 → (∀ j, j < 69 → j ∉ ([] : List Nat) → F1 j = F j) → (sy_i F1 4).toInt = (sy_i F 4).toInt → (sy_i F1 5).toInt = (sy_i F 5).toInt → (sy_i F1 6).toInt = (sy_i F 6).toInt → (sy_i F1 7).toInt = (sy_i F 7).toInt → (sy_i F1 11).toInt = (sy_i F 11).toInt → (sy_i F1 12).toInt = (sy_i F 12).toInt → (sy_i F1 14).toInt = (sy_i F 14).toInt → (sy_i F1 15).toInt = (sy_i F 15).toInt → (sy_i F1 16).toInt = (sy_i F 16).toInt → sy_ai F1 25 = sy_ai F 25 → sy_ai F1 26 = sy_ai F 26 → sy_ai F1 49 = sy_ai F 49 → sy_ai F1 50 = sy_ai F 50 → sy_ai F1 51 = sy_ai F 51 → hd_W Ls xs d jm_M164 Q (206, sy_dL F1 [some (.inl (.ref 1000)), none, none], sy_dS F1 [.inl (.int 0), .inl (.ref 1000)], sy_dh F1 X1 X2 (iv_H 4), 0, 0))
    (k2 : (sy_i F 6).toInt = 0 → ((sy_ai F 25).getD ((sy_i F 4).toInt).toNat 0).toInt ≠ 7 → (sy_i F 6).toInt = 0 → ((sy_ai F 25).getD ((sy_i F 4).toInt).toNat 0).toInt ≠ 8 → (sy_i F 6).toInt = 0 → ((sy_ai F 25).getD ((sy_i F 4).toInt).toNat 0).toInt ≠ 9 → (sy_i F 6).toInt = 0 → ((sy_ai F 25).getD ((sy_i F 4).toInt).toNat 0).toInt ≠ 10 → (sy_i F 6).toInt = 0 → ((sy_ai F 25).getD ((sy_i F 4).toInt).toNat 0).toInt ≠ 15 → (sy_i F 5).toInt ≤ (sy_i F 69).toInt → ∀ F1 : Nat → sy_d, iv_in F1 iv_B4 → (∀ j, j < 69 → j ∉ ([] : List Nat) → F1 j = F j) → (sy_i F1 4).toInt = (sy_i F 4).toInt → (sy_i F1 5).toInt = (sy_i F 5).toInt → (sy_i F1 6).toInt = (sy_i F 6).toInt → (sy_i F1 7).toInt = (sy_i F 7).toInt → (sy_i F1 11).toInt = (sy_i F 11).toInt → (sy_i F1 12).toInt = (sy_i F 12).toInt → (sy_i F1 14).toInt = (sy_i F 14).toInt → (sy_i F1 15).toInt = (sy_i F 15).toInt → (sy_i F1 16).toInt = (sy_i F 16).toInt → sy_ai F1 25 = sy_ai F 25 → sy_ai F1 26 = sy_ai F 26 → sy_ai F1 49 = sy_ai F 49 → sy_ai F1 50 = sy_ai F 50 → sy_ai F1 51 = sy_ai F 51 → hd_W Ls xs d jm_M164 Q (206, sy_dL F1 [some (.inl (.ref 1000)), none, none], sy_dS F1 [.inl (.int 0), .inl (.ref 1000)], sy_dh F1 X1 X2 (iv_H 4), 0, 0))
    (k3 : (sy_i F 6).toInt = 0 → ((sy_ai F 25).getD ((sy_i F 4).toInt).toNat 0).toInt ≠ 7 → (sy_i F 6).toInt = 0 → ((sy_ai F 25).getD ((sy_i F 4).toInt).toNat 0).toInt ≠ 8 → (sy_i F 6).toInt = 0 → ((sy_ai F 25).getD ((sy_i F 4).toInt).toNat 0).toInt ≠ 9 → (sy_i F 6).toInt = 0 → ((sy_ai F 25).getD ((sy_i F 4).toInt).toNat 0).toInt ≠ 10 → (sy_i F 6).toInt = 0 → ((sy_ai F 25).getD ((sy_i F 4).toInt).toNat 0).toInt ≠ 15 → (sy_i F 69).toInt < (sy_i F 5).toInt → (sy_i F 6).toInt ≤ 0 → ∀ F1 : Nat → sy_d, iv_in F1 iv_B4 → (∀ j, j < 69 → j ∉ ([6, 7] : List Nat) → F1 j = F j) → (sy_i F1 4).toInt = (sy_i F 4).toInt → (sy_i F1 5).toInt = (sy_i F 5).toInt → (sy_i F1 6).toInt = 1 → (sy_i F1 7).toInt = ((sy_ai F 26).getD ((sy_i F 4).toInt).toNat 0).toInt → (sy_i F1 11).toInt = (sy_i F 11).toInt → (sy_i F1 12).toInt = (sy_i F 12).toInt → (sy_i F1 14).toInt = (sy_i F 14).toInt → (sy_i F1 15).toInt = (sy_i F 15).toInt → (sy_i F1 16).toInt = (sy_i F 16).toInt → sy_ai F1 25 = sy_ai F 25 → sy_ai F1 26 = sy_ai F 26 → sy_ai F1 49 = sy_ai F 49 → sy_ai F1 50 = sy_ai F 50 → sy_ai F1 51 = sy_ai F 51 → hd_W Ls xs d jm_M164 Q (206, sy_dL F1 [some (.inl (.ref 1000)), none, none], sy_dS F1 [.inl (.int 0), .inl (.ref 1000)], sy_dh F1 X1 X2 (iv_H 4), 0, 0))
    (k4 : (sy_i F 6).toInt = 0 → ((sy_ai F 25).getD ((sy_i F 4).toInt).toNat 0).toInt ≠ 7 → (sy_i F 6).toInt = 0 → ((sy_ai F 25).getD ((sy_i F 4).toInt).toNat 0).toInt ≠ 8 → (sy_i F 6).toInt = 0 → ((sy_ai F 25).getD ((sy_i F 4).toInt).toNat 0).toInt ≠ 9 → (sy_i F 6).toInt = 0 → ((sy_ai F 25).getD ((sy_i F 4).toInt).toNat 0).toInt ≠ 10 → (sy_i F 6).toInt = 0 → ((sy_ai F 25).getD ((sy_i F 4).toInt).toNat 0).toInt = 15 → (sy_i F 6).toInt = 0 → ((sy_ai F 25).getD ((sy_i F 4).toInt).toNat 0).toInt ≠ 10 → (sy_i F 6).toInt = 0 → ((sy_ai F 25).getD ((sy_i F 4).toInt).toNat 0).toInt = 15 → ∀ F1 : Nat → sy_d, iv_in F1 iv_B4 → (∀ j, j < 69 → j ∉ ([] : List Nat) → F1 j = F j) → (sy_i F1 4).toInt = (sy_i F 4).toInt → (sy_i F1 5).toInt = (sy_i F 5).toInt → (sy_i F1 6).toInt = (sy_i F 6).toInt → (sy_i F1 7).toInt = (sy_i F 7).toInt → (sy_i F1 11).toInt = (sy_i F 11).toInt → (sy_i F1 12).toInt = (sy_i F 12).toInt → (sy_i F1 14).toInt = (sy_i F 14).toInt → (sy_i F1 15).toInt = (sy_i F 15).toInt → (sy_i F1 16).toInt = (sy_i F 16).toInt → sy_ai F1 25 = sy_ai F 25 → sy_ai F1 26 = sy_ai F 26 → sy_ai F1 49 = sy_ai F 49 → sy_ai F1 50 = sy_ai F 50 → sy_ai F1 51 = sy_ai F 51 → (sy_i F1 69).toInt = (sy_i F 69).toInt → (sy_i F1 70).toInt = 1 → hd_W Ls xs d jm_M164 Q (234, sy_dL F1 [some (.inl (.ref 1000)), some (.inr (.inl 69)), some (.inl (.int 1))], sy_dS F1 [.inr (.inl 70), .inl (.ref 1000)], sy_dh F1 X1 X2 (iv_H 4), 0, 0))
    (k5 : (sy_i F 6).toInt = 0 → ((sy_ai F 25).getD ((sy_i F 4).toInt).toNat 0).toInt ≠ 7 → (sy_i F 6).toInt = 0 → ((sy_ai F 25).getD ((sy_i F 4).toInt).toNat 0).toInt ≠ 8 → (sy_i F 6).toInt = 0 → ((sy_ai F 25).getD ((sy_i F 4).toInt).toNat 0).toInt ≠ 9 → (sy_i F 6).toInt = 0 → ((sy_ai F 25).getD ((sy_i F 4).toInt).toNat 0).toInt = 10 → (sy_i F 6).toInt = 0 → ((sy_ai F 25).getD ((sy_i F 4).toInt).toNat 0).toInt = 10 → ∀ F1 : Nat → sy_d, iv_in F1 iv_B4 → (∀ j, j < 69 → j ∉ ([] : List Nat) → F1 j = F j) → (sy_i F1 4).toInt = (sy_i F 4).toInt → (sy_i F1 5).toInt = (sy_i F 5).toInt → (sy_i F1 6).toInt = (sy_i F 6).toInt → (sy_i F1 7).toInt = (sy_i F 7).toInt → (sy_i F1 11).toInt = (sy_i F 11).toInt → (sy_i F1 12).toInt = (sy_i F 12).toInt → (sy_i F1 14).toInt = (sy_i F 14).toInt → (sy_i F1 15).toInt = (sy_i F 15).toInt → (sy_i F1 16).toInt = (sy_i F 16).toInt → sy_ai F1 25 = sy_ai F 25 → sy_ai F1 26 = sy_ai F 26 → sy_ai F1 49 = sy_ai F 49 → sy_ai F1 50 = sy_ai F 50 → sy_ai F1 51 = sy_ai F 51 → (sy_i F1 69).toInt = (sy_i F 69).toInt → (sy_i F1 70).toInt = 1 → hd_W Ls xs d jm_M164 Q (234, sy_dL F1 [some (.inl (.ref 1000)), some (.inr (.inl 69)), some (.inl (.int 1))], sy_dS F1 [.inr (.inl 70), .inl (.ref 1000)], sy_dh F1 X1 X2 (iv_H 4), 0, 0))
    (k6 : (sy_i F 6).toInt = 0 → ((sy_ai F 25).getD ((sy_i F 4).toInt).toNat 0).toInt ≠ 7 → (sy_i F 6).toInt = 0 → ((sy_ai F 25).getD ((sy_i F 4).toInt).toNat 0).toInt ≠ 8 → (sy_i F 6).toInt = 0 → ((sy_ai F 25).getD ((sy_i F 4).toInt).toNat 0).toInt = 9 → (sy_i F 6).toInt = 0 → ((sy_ai F 25).getD ((sy_i F 4).toInt).toNat 0).toInt ≠ 10 → (sy_i F 6).toInt = 0 → ((sy_ai F 25).getD ((sy_i F 4).toInt).toNat 0).toInt ≠ 15 → ∀ F1 : Nat → sy_d, iv_in F1 iv_B4 → (∀ j, j < 69 → j ∉ ([] : List Nat) → F1 j = F j) → (sy_i F1 4).toInt = (sy_i F 4).toInt → (sy_i F1 5).toInt = (sy_i F 5).toInt → (sy_i F1 6).toInt = (sy_i F 6).toInt → (sy_i F1 7).toInt = (sy_i F 7).toInt → (sy_i F1 11).toInt = (sy_i F 11).toInt → (sy_i F1 12).toInt = (sy_i F 12).toInt → (sy_i F1 14).toInt = (sy_i F 14).toInt → (sy_i F1 15).toInt = (sy_i F 15).toInt → (sy_i F1 16).toInt = (sy_i F 16).toInt → sy_ai F1 25 = sy_ai F 25 → sy_ai F1 26 = sy_ai F 26 → sy_ai F1 49 = sy_ai F 49 → sy_ai F1 50 = sy_ai F 50 → sy_ai F1 51 = sy_ai F 51 → (sy_i F1 69).toInt = (sy_i F 69).toInt → (sy_i F1 70).toInt = 0 → hd_W Ls xs d jm_M164 Q (234, sy_dL F1 [some (.inl (.ref 1000)), some (.inr (.inl 69)), some (.inl (.int 1))], sy_dS F1 [.inr (.inl 70), .inl (.ref 1000)], sy_dh F1 X1 X2 (iv_H 4), 0, 0))
    (k7 : (sy_i F 6).toInt = 0 → ((sy_ai F 25).getD ((sy_i F 4).toInt).toNat 0).toInt ≠ 7 → (sy_i F 6).toInt = 0 → ((sy_ai F 25).getD ((sy_i F 4).toInt).toNat 0).toInt = 8 → (sy_i F 6).toInt = 0 → ((sy_ai F 25).getD ((sy_i F 4).toInt).toNat 0).toInt ≠ 10 → (sy_i F 6).toInt = 0 → ((sy_ai F 25).getD ((sy_i F 4).toInt).toNat 0).toInt ≠ 15 → ∀ F1 : Nat → sy_d, iv_in F1 iv_B4 → (∀ j, j < 69 → j ∉ ([] : List Nat) → F1 j = F j) → (sy_i F1 4).toInt = (sy_i F 4).toInt → (sy_i F1 5).toInt = (sy_i F 5).toInt → (sy_i F1 6).toInt = (sy_i F 6).toInt → (sy_i F1 7).toInt = (sy_i F 7).toInt → (sy_i F1 11).toInt = (sy_i F 11).toInt → (sy_i F1 12).toInt = (sy_i F 12).toInt → (sy_i F1 14).toInt = (sy_i F 14).toInt → (sy_i F1 15).toInt = (sy_i F 15).toInt → (sy_i F1 16).toInt = (sy_i F 16).toInt → sy_ai F1 25 = sy_ai F 25 → sy_ai F1 26 = sy_ai F 26 → sy_ai F1 49 = sy_ai F 49 → sy_ai F1 50 = sy_ai F 50 → sy_ai F1 51 = sy_ai F 51 → (sy_i F1 69).toInt = (sy_i F 69).toInt → (sy_i F1 70).toInt = 0 → hd_W Ls xs d jm_M164 Q (234, sy_dL F1 [some (.inl (.ref 1000)), some (.inr (.inl 69)), some (.inl (.int 1))], sy_dS F1 [.inr (.inl 70), .inl (.ref 1000)], sy_dh F1 X1 X2 (iv_H 4), 0, 0))
    (k8 : (sy_i F 6).toInt = 0 → ((sy_ai F 25).getD ((sy_i F 4).toInt).toNat 0).toInt = 7 → (sy_i F 5).toInt ≤ (sy_i F 69).toInt → (sy_i F 6).toInt = 0 → ((sy_ai F 25).getD ((sy_i F 4).toInt).toNat 0).toInt ≠ 8 → (sy_i F 6).toInt = 0 → ((sy_ai F 25).getD ((sy_i F 4).toInt).toNat 0).toInt ≠ 9 → (sy_i F 6).toInt = 0 → ((sy_ai F 25).getD ((sy_i F 4).toInt).toNat 0).toInt ≠ 10 → (sy_i F 6).toInt = 0 → ((sy_ai F 25).getD ((sy_i F 4).toInt).toNat 0).toInt ≠ 15 → (sy_i F 5).toInt ≤ (sy_i F 69).toInt → ∀ F1 : Nat → sy_d, iv_in F1 iv_B4 → (∀ j, j < 69 → j ∉ ([] : List Nat) → F1 j = F j) → (sy_i F1 4).toInt = (sy_i F 4).toInt → (sy_i F1 5).toInt = (sy_i F 5).toInt → (sy_i F1 6).toInt = (sy_i F 6).toInt → (sy_i F1 7).toInt = (sy_i F 7).toInt → (sy_i F1 11).toInt = (sy_i F 11).toInt → (sy_i F1 12).toInt = (sy_i F 12).toInt → (sy_i F1 14).toInt = (sy_i F 14).toInt → (sy_i F1 15).toInt = (sy_i F 15).toInt → (sy_i F1 16).toInt = (sy_i F 16).toInt → sy_ai F1 25 = sy_ai F 25 → sy_ai F1 26 = sy_ai F 26 → sy_ai F1 49 = sy_ai F 49 → sy_ai F1 50 = sy_ai F 50 → sy_ai F1 51 = sy_ai F 51 → hd_W Ls xs d jm_M164 Q (206, sy_dL F1 [some (.inl (.ref 1000)), none, none], sy_dS F1 [.inl (.int 0), .inl (.ref 1000)], sy_dh F1 X1 X2 (iv_H 4), 0, 0))
    (k9 : (sy_i F 6).toInt = 0 → ((sy_ai F 25).getD ((sy_i F 4).toInt).toNat 0).toInt = 7 → (sy_i F 5).toInt ≤ (sy_i F 69).toInt → (sy_i F 6).toInt = 0 → ((sy_ai F 25).getD ((sy_i F 4).toInt).toNat 0).toInt ≠ 8 → (sy_i F 6).toInt = 0 → ((sy_ai F 25).getD ((sy_i F 4).toInt).toNat 0).toInt ≠ 9 → (sy_i F 6).toInt = 0 → ((sy_ai F 25).getD ((sy_i F 4).toInt).toNat 0).toInt ≠ 10 → (sy_i F 6).toInt = 0 → ((sy_ai F 25).getD ((sy_i F 4).toInt).toNat 0).toInt ≠ 15 → (sy_i F 69).toInt < (sy_i F 5).toInt → (sy_i F 6).toInt ≤ 0 → ∀ F1 : Nat → sy_d, iv_in F1 iv_B4 → (∀ j, j < 69 → j ∉ ([6, 7] : List Nat) → F1 j = F j) → (sy_i F1 4).toInt = (sy_i F 4).toInt → (sy_i F1 5).toInt = (sy_i F 5).toInt → (sy_i F1 6).toInt = 1 → (sy_i F1 7).toInt = ((sy_ai F 26).getD ((sy_i F 4).toInt).toNat 0).toInt → (sy_i F1 11).toInt = (sy_i F 11).toInt → (sy_i F1 12).toInt = (sy_i F 12).toInt → (sy_i F1 14).toInt = (sy_i F 14).toInt → (sy_i F1 15).toInt = (sy_i F 15).toInt → (sy_i F1 16).toInt = (sy_i F 16).toInt → sy_ai F1 25 = sy_ai F 25 → sy_ai F1 26 = sy_ai F 26 → sy_ai F1 49 = sy_ai F 49 → sy_ai F1 50 = sy_ai F 50 → sy_ai F1 51 = sy_ai F 51 → hd_W Ls xs d jm_M164 Q (206, sy_dL F1 [some (.inl (.ref 1000)), none, none], sy_dS F1 [.inl (.int 0), .inl (.ref 1000)], sy_dh F1 X1 X2 (iv_H 4), 0, 0))
    (k10 : (sy_i F 6).toInt = 0 → ((sy_ai F 25).getD ((sy_i F 4).toInt).toNat 0).toInt = 7 → (sy_i F 69).toInt < (sy_i F 5).toInt → ∀ F1 : Nat → sy_d, iv_in F1 iv_B4 → (∀ j, j < 69 → j ∉ ([] : List Nat) → F1 j = F j) → (sy_i F1 4).toInt = (sy_i F 4).toInt → (sy_i F1 5).toInt = (sy_i F 5).toInt → (sy_i F1 6).toInt = (sy_i F 6).toInt → (sy_i F1 7).toInt = (sy_i F 7).toInt → (sy_i F1 11).toInt = (sy_i F 11).toInt → (sy_i F1 12).toInt = (sy_i F 12).toInt → (sy_i F1 14).toInt = (sy_i F 14).toInt → (sy_i F1 15).toInt = (sy_i F 15).toInt → (sy_i F1 16).toInt = (sy_i F 16).toInt → sy_ai F1 25 = sy_ai F 25 → sy_ai F1 26 = sy_ai F 26 → sy_ai F1 49 = sy_ai F 49 → sy_ai F1 50 = sy_ai F 50 → sy_ai F1 51 = sy_ai F 51 → (sy_i F1 69).toInt = (sy_i F 69).toInt → hd_W Ls xs d jm_M164 Q (115, sy_dL F1 [some (.inl (.ref 1000)), some (.inr (.inl 69)), some (.inl (.int 1))], sy_dS F1 [.inl (.int 0), .inl (.ref 1000)], sy_dh F1 X1 X2 (iv_H 4), 0, 0)) :
    hd_W Ls xs d jm_M164 Q (96, sy_dL F [some (.inl (.ref 1000)), some (.inr (.inl 69)), some (.inl (.int 1))], sy_dS F [], sy_dh F X1 X2 (iv_H 4), 0, 0) := by
  by_cases g0 : (sy_i F 6).toInt ≠ 0
  · by_cases g1 : (sy_i F 6).toInt ≠ 0
    · by_cases g2 : (sy_i F 6).toInt ≠ 0
      · by_cases g3 : (sy_i F 6).toInt ≠ 0
        · by_cases g4 : (sy_i F 6).toInt ≠ 0
          · by_cases g5 : (sy_i F 5).toInt ≤ (sy_i F 69).toInt
            · have c6 := nz_bx hB (k := 6) (lo := 0) (hi := 2) rfl
              have c5 := nz_bx hB (k := 5) (lo := 0) (hi := 7) rfl
              exact ex_96_p0 hd F X1 X2 hB (by first | exact g0 | (simp only [nz_c]; exact g0)) (by first | exact g1 | (simp only [nz_c]; exact g1)) (by first | exact g2 | (simp only [nz_c]; exact g2)) (by first | exact g3 | (simp only [nz_c]; exact g3)) (by first | exact g4 | (simp only [nz_c]; exact g4)) (by first | exact g5 | (simp only [nz_c]; exact g5)) (fun F1 g  => k0 g0 g1 g2 g3 g4 g5 F1 (nz_in hB [] (fun j hj hn => g j hj (by simp only [List.mem_cons, List.not_mem_nil, or_false, not_or] at hn; exact trivial)) (List.forall_mem_nil _)) (fun j hj hn => g j hj (by simp only [List.mem_cons, List.not_mem_nil, or_false, not_or] at hn; exact trivial)) (nz_fi (g 4 (by decide) (by decide))) (nz_fi (g 5 (by decide) (by decide))) (nz_fi (g 6 (by decide) (by decide))) (nz_fi (g 7 (by decide) (by decide))) (nz_fi (g 11 (by decide) (by decide))) (nz_fi (g 12 (by decide) (by decide))) (nz_fi (g 14 (by decide) (by decide))) (nz_fi (g 15 (by decide) (by decide))) (nz_fi (g 16 (by decide) (by decide))) (nz_fa (g 25 (by decide) (by decide))) (nz_fa (g 26 (by decide) (by decide))) (nz_fa (g 49 (by decide) (by decide))) (nz_fa (g 50 (by decide) (by decide))) (nz_fa (g 51 (by decide) (by decide))))
            replace g5 : (sy_i F 69).toInt < (sy_i F 5).toInt := by omega
            by_cases g6 : (sy_i F 6).toInt ≤ 0
            · have c6 := nz_bx hB (k := 6) (lo := 0) (hi := 2) rfl
              have c5 := nz_bx hB (k := 5) (lo := 0) (hi := 7) rfl
              exfalso
              omega
            replace g6 : 0 < (sy_i F 6).toInt := by omega
            have c6 := nz_bx hB (k := 6) (lo := 0) (hi := 2) rfl
            have c5 := nz_bx hB (k := 5) (lo := 0) (hi := 7) rfl
            exact ex_96_p1 hd F X1 X2 hB (by first | exact g0 | (simp only [nz_c]; exact g0)) (by first | exact g1 | (simp only [nz_c]; exact g1)) (by first | exact g2 | (simp only [nz_c]; exact g2)) (by first | exact g3 | (simp only [nz_c]; exact g3)) (by first | exact g4 | (simp only [nz_c]; exact g4)) (by first | exact g5 | (simp only [nz_c]; exact g5)) (by first | exact g6 | (simp only [nz_c]; exact g6)) (fun F1 g  => k1 g0 g1 g2 g3 g4 g5 g6 F1 (nz_in hB [] (fun j hj hn => g j hj (by simp only [List.mem_cons, List.not_mem_nil, or_false, not_or] at hn; exact trivial)) (List.forall_mem_nil _)) (fun j hj hn => g j hj (by simp only [List.mem_cons, List.not_mem_nil, or_false, not_or] at hn; exact trivial)) (nz_fi (g 4 (by decide) (by decide))) (nz_fi (g 5 (by decide) (by decide))) (nz_fi (g 6 (by decide) (by decide))) (nz_fi (g 7 (by decide) (by decide))) (nz_fi (g 11 (by decide) (by decide))) (nz_fi (g 12 (by decide) (by decide))) (nz_fi (g 14 (by decide) (by decide))) (nz_fi (g 15 (by decide) (by decide))) (nz_fi (g 16 (by decide) (by decide))) (nz_fa (g 25 (by decide) (by decide))) (nz_fa (g 26 (by decide) (by decide))) (nz_fa (g 49 (by decide) (by decide))) (nz_fa (g 50 (by decide) (by decide))) (nz_fa (g 51 (by decide) (by decide))))
          replace g4 : (sy_i F 6).toInt = 0 := by omega
          have c6 := nz_bx hB (k := 6) (lo := 0) (hi := 2) rfl
          exfalso
          omega
        replace g3 : (sy_i F 6).toInt = 0 := by omega
        have c6 := nz_bx hB (k := 6) (lo := 0) (hi := 2) rfl
        exfalso
        omega
      replace g2 : (sy_i F 6).toInt = 0 := by omega
      have c6 := nz_bx hB (k := 6) (lo := 0) (hi := 2) rfl
      exfalso
      omega
    replace g1 : (sy_i F 6).toInt = 0 := by omega
    have c6 := nz_bx hB (k := 6) (lo := 0) (hi := 2) rfl
    exfalso
    omega
  replace g0 : (sy_i F 6).toInt = 0 := by omega
  by_cases g1 : ((sy_ai F 25).getD ((sy_i F 4).toInt).toNat 0).toInt ≠ 7
  · by_cases g2 : (sy_i F 6).toInt ≠ 0
    · have c6 := nz_bx hB (k := 6) (lo := 0) (hi := 2) rfl
      have c4 := nz_bx hB (k := 4) (lo := 0) (hi := 400) rfl
      have q70 : (sy_ai F 25).getD (sy_i F 4).toNatClampNeg 0 = (sy_ai F 25).getD ((sy_i F 4).toInt).toNat 0 := by simp only [nz_c]
      have n70 : ((sy_ai F 25).getD (sy_i F 4).toNatClampNeg 0).toInt = ((sy_ai F 25).getD ((sy_i F 4).toInt).toNat 0).toInt := congrArg Int32.toInt q70
      have r70 := nz_ba hB (k := 25) (lo := 0) (hi := 42) rfl ((sy_i F 4).toInt).toNat
      exfalso
      omega
    replace g2 : (sy_i F 6).toInt = 0 := by omega
    by_cases g3 : ((sy_ai F 25).getD ((sy_i F 4).toInt).toNat 0).toInt ≠ 8
    · by_cases g4 : (sy_i F 6).toInt ≠ 0
      · have c6 := nz_bx hB (k := 6) (lo := 0) (hi := 2) rfl
        have c4 := nz_bx hB (k := 4) (lo := 0) (hi := 400) rfl
        have q70 : (sy_ai F 25).getD (sy_i F 4).toNatClampNeg 0 = (sy_ai F 25).getD ((sy_i F 4).toInt).toNat 0 := by simp only [nz_c]
        have n70 : ((sy_ai F 25).getD (sy_i F 4).toNatClampNeg 0).toInt = ((sy_ai F 25).getD ((sy_i F 4).toInt).toNat 0).toInt := congrArg Int32.toInt q70
        have r70 := nz_ba hB (k := 25) (lo := 0) (hi := 42) rfl ((sy_i F 4).toInt).toNat
        have q71 : (sy_ai F 25).getD (sy_i F 4).toNatClampNeg 0 = (sy_ai F 25).getD ((sy_i F 4).toInt).toNat 0 := by simp only [nz_c]
        have n71 : ((sy_ai F 25).getD (sy_i F 4).toNatClampNeg 0).toInt = ((sy_ai F 25).getD ((sy_i F 4).toInt).toNat 0).toInt := congrArg Int32.toInt q71
        have r71 := nz_ba hB (k := 25) (lo := 0) (hi := 42) rfl ((sy_i F 4).toInt).toNat
        exfalso
        omega
      replace g4 : (sy_i F 6).toInt = 0 := by omega
      by_cases g5 : ((sy_ai F 25).getD ((sy_i F 4).toInt).toNat 0).toInt ≠ 9
      · by_cases g6 : (sy_i F 6).toInt ≠ 0
        · have c6 := nz_bx hB (k := 6) (lo := 0) (hi := 2) rfl
          have c4 := nz_bx hB (k := 4) (lo := 0) (hi := 400) rfl
          have q70 : (sy_ai F 25).getD (sy_i F 4).toNatClampNeg 0 = (sy_ai F 25).getD ((sy_i F 4).toInt).toNat 0 := by simp only [nz_c]
          have n70 : ((sy_ai F 25).getD (sy_i F 4).toNatClampNeg 0).toInt = ((sy_ai F 25).getD ((sy_i F 4).toInt).toNat 0).toInt := congrArg Int32.toInt q70
          have r70 := nz_ba hB (k := 25) (lo := 0) (hi := 42) rfl ((sy_i F 4).toInt).toNat
          have q71 : (sy_ai F 25).getD (sy_i F 4).toNatClampNeg 0 = (sy_ai F 25).getD ((sy_i F 4).toInt).toNat 0 := by simp only [nz_c]
          have n71 : ((sy_ai F 25).getD (sy_i F 4).toNatClampNeg 0).toInt = ((sy_ai F 25).getD ((sy_i F 4).toInt).toNat 0).toInt := congrArg Int32.toInt q71
          have r71 := nz_ba hB (k := 25) (lo := 0) (hi := 42) rfl ((sy_i F 4).toInt).toNat
          have q72 : (sy_ai F 25).getD (sy_i F 4).toNatClampNeg 0 = (sy_ai F 25).getD ((sy_i F 4).toInt).toNat 0 := by simp only [nz_c]
          have n72 : ((sy_ai F 25).getD (sy_i F 4).toNatClampNeg 0).toInt = ((sy_ai F 25).getD ((sy_i F 4).toInt).toNat 0).toInt := congrArg Int32.toInt q72
          have r72 := nz_ba hB (k := 25) (lo := 0) (hi := 42) rfl ((sy_i F 4).toInt).toNat
          exfalso
          omega
        replace g6 : (sy_i F 6).toInt = 0 := by omega
        by_cases g7 : ((sy_ai F 25).getD ((sy_i F 4).toInt).toNat 0).toInt ≠ 10
        · by_cases g8 : (sy_i F 6).toInt ≠ 0
          · have c6 := nz_bx hB (k := 6) (lo := 0) (hi := 2) rfl
            have c4 := nz_bx hB (k := 4) (lo := 0) (hi := 400) rfl
            have q70 : (sy_ai F 25).getD (sy_i F 4).toNatClampNeg 0 = (sy_ai F 25).getD ((sy_i F 4).toInt).toNat 0 := by simp only [nz_c]
            have n70 : ((sy_ai F 25).getD (sy_i F 4).toNatClampNeg 0).toInt = ((sy_ai F 25).getD ((sy_i F 4).toInt).toNat 0).toInt := congrArg Int32.toInt q70
            have r70 := nz_ba hB (k := 25) (lo := 0) (hi := 42) rfl ((sy_i F 4).toInt).toNat
            have q71 : (sy_ai F 25).getD (sy_i F 4).toNatClampNeg 0 = (sy_ai F 25).getD ((sy_i F 4).toInt).toNat 0 := by simp only [nz_c]
            have n71 : ((sy_ai F 25).getD (sy_i F 4).toNatClampNeg 0).toInt = ((sy_ai F 25).getD ((sy_i F 4).toInt).toNat 0).toInt := congrArg Int32.toInt q71
            have r71 := nz_ba hB (k := 25) (lo := 0) (hi := 42) rfl ((sy_i F 4).toInt).toNat
            have q72 : (sy_ai F 25).getD (sy_i F 4).toNatClampNeg 0 = (sy_ai F 25).getD ((sy_i F 4).toInt).toNat 0 := by simp only [nz_c]
            have n72 : ((sy_ai F 25).getD (sy_i F 4).toNatClampNeg 0).toInt = ((sy_ai F 25).getD ((sy_i F 4).toInt).toNat 0).toInt := congrArg Int32.toInt q72
            have r72 := nz_ba hB (k := 25) (lo := 0) (hi := 42) rfl ((sy_i F 4).toInt).toNat
            have q73 : (sy_ai F 25).getD (sy_i F 4).toNatClampNeg 0 = (sy_ai F 25).getD ((sy_i F 4).toInt).toNat 0 := by simp only [nz_c]
            have n73 : ((sy_ai F 25).getD (sy_i F 4).toNatClampNeg 0).toInt = ((sy_ai F 25).getD ((sy_i F 4).toInt).toNat 0).toInt := congrArg Int32.toInt q73
            have r73 := nz_ba hB (k := 25) (lo := 0) (hi := 42) rfl ((sy_i F 4).toInt).toNat
            exfalso
            omega
          replace g8 : (sy_i F 6).toInt = 0 := by omega
          by_cases g9 : ((sy_ai F 25).getD ((sy_i F 4).toInt).toNat 0).toInt ≠ 15
          · by_cases g10 : (sy_i F 5).toInt ≤ (sy_i F 69).toInt
            · have c6 := nz_bx hB (k := 6) (lo := 0) (hi := 2) rfl
              have c4 := nz_bx hB (k := 4) (lo := 0) (hi := 400) rfl
              have q70 : (sy_ai F 25).getD (sy_i F 4).toNatClampNeg 0 = (sy_ai F 25).getD ((sy_i F 4).toInt).toNat 0 := by simp only [nz_c]
              have n70 : ((sy_ai F 25).getD (sy_i F 4).toNatClampNeg 0).toInt = ((sy_ai F 25).getD ((sy_i F 4).toInt).toNat 0).toInt := congrArg Int32.toInt q70
              have r70 := nz_ba hB (k := 25) (lo := 0) (hi := 42) rfl ((sy_i F 4).toInt).toNat
              have q71 : (sy_ai F 25).getD (sy_i F 4).toNatClampNeg 0 = (sy_ai F 25).getD ((sy_i F 4).toInt).toNat 0 := by simp only [nz_c]
              have n71 : ((sy_ai F 25).getD (sy_i F 4).toNatClampNeg 0).toInt = ((sy_ai F 25).getD ((sy_i F 4).toInt).toNat 0).toInt := congrArg Int32.toInt q71
              have r71 := nz_ba hB (k := 25) (lo := 0) (hi := 42) rfl ((sy_i F 4).toInt).toNat
              have q72 : (sy_ai F 25).getD (sy_i F 4).toNatClampNeg 0 = (sy_ai F 25).getD ((sy_i F 4).toInt).toNat 0 := by simp only [nz_c]
              have n72 : ((sy_ai F 25).getD (sy_i F 4).toNatClampNeg 0).toInt = ((sy_ai F 25).getD ((sy_i F 4).toInt).toNat 0).toInt := congrArg Int32.toInt q72
              have r72 := nz_ba hB (k := 25) (lo := 0) (hi := 42) rfl ((sy_i F 4).toInt).toNat
              have q73 : (sy_ai F 25).getD (sy_i F 4).toNatClampNeg 0 = (sy_ai F 25).getD ((sy_i F 4).toInt).toNat 0 := by simp only [nz_c]
              have n73 : ((sy_ai F 25).getD (sy_i F 4).toNatClampNeg 0).toInt = ((sy_ai F 25).getD ((sy_i F 4).toInt).toNat 0).toInt := congrArg Int32.toInt q73
              have r73 := nz_ba hB (k := 25) (lo := 0) (hi := 42) rfl ((sy_i F 4).toInt).toNat
              have q74 : (sy_ai F 25).getD (sy_i F 4).toNatClampNeg 0 = (sy_ai F 25).getD ((sy_i F 4).toInt).toNat 0 := by simp only [nz_c]
              have n74 : ((sy_ai F 25).getD (sy_i F 4).toNatClampNeg 0).toInt = ((sy_ai F 25).getD ((sy_i F 4).toInt).toNat 0).toInt := congrArg Int32.toInt q74
              have r74 := nz_ba hB (k := 25) (lo := 0) (hi := 42) rfl ((sy_i F 4).toInt).toNat
              have c5 := nz_bx hB (k := 5) (lo := 0) (hi := 7) rfl
              exact ex_96_p2 hd F X1 X2 hB (by first | exact g0 | (simp only [nz_c]; exact g0)) (by first | exact ⟨by omega, by omega⟩ | (simp only [nz_c]; exact ⟨by omega, by omega⟩)) (by first | exact g1 | (simp only [nz_c]; exact g1) | (rw [n70]; exact g1)) (by first | exact g2 | (simp only [nz_c]; exact g2)) (by first | exact ⟨by omega, by omega⟩ | (simp only [nz_c]; exact ⟨by omega, by omega⟩)) (by first | exact g3 | (simp only [nz_c]; exact g3) | (rw [n71]; exact g3)) (by first | exact g4 | (simp only [nz_c]; exact g4)) (by first | exact ⟨by omega, by omega⟩ | (simp only [nz_c]; exact ⟨by omega, by omega⟩)) (by first | exact g5 | (simp only [nz_c]; exact g5) | (rw [n72]; exact g5)) (by first | exact g6 | (simp only [nz_c]; exact g6)) (by first | exact ⟨by omega, by omega⟩ | (simp only [nz_c]; exact ⟨by omega, by omega⟩)) (by first | exact g7 | (simp only [nz_c]; exact g7) | (rw [n73]; exact g7)) (by first | exact g8 | (simp only [nz_c]; exact g8)) (by first | exact ⟨by omega, by omega⟩ | (simp only [nz_c]; exact ⟨by omega, by omega⟩)) (by first | exact g9 | (simp only [nz_c]; exact g9) | (rw [n74]; exact g9)) (by first | exact g10 | (simp only [nz_c]; exact g10)) (fun F1 g  => k2 g0 g1 g2 g3 g4 g5 g6 g7 g8 g9 g10 F1 (nz_in hB [] (fun j hj hn => g j hj (by simp only [List.mem_cons, List.not_mem_nil, or_false, not_or] at hn; exact trivial)) (List.forall_mem_nil _)) (fun j hj hn => g j hj (by simp only [List.mem_cons, List.not_mem_nil, or_false, not_or] at hn; exact trivial)) (nz_fi (g 4 (by decide) (by decide))) (nz_fi (g 5 (by decide) (by decide))) (nz_fi (g 6 (by decide) (by decide))) (nz_fi (g 7 (by decide) (by decide))) (nz_fi (g 11 (by decide) (by decide))) (nz_fi (g 12 (by decide) (by decide))) (nz_fi (g 14 (by decide) (by decide))) (nz_fi (g 15 (by decide) (by decide))) (nz_fi (g 16 (by decide) (by decide))) (nz_fa (g 25 (by decide) (by decide))) (nz_fa (g 26 (by decide) (by decide))) (nz_fa (g 49 (by decide) (by decide))) (nz_fa (g 50 (by decide) (by decide))) (nz_fa (g 51 (by decide) (by decide))))
            replace g10 : (sy_i F 69).toInt < (sy_i F 5).toInt := by omega
            by_cases g11 : (sy_i F 6).toInt ≤ 0
            · have c6 := nz_bx hB (k := 6) (lo := 0) (hi := 2) rfl
              have c4 := nz_bx hB (k := 4) (lo := 0) (hi := 400) rfl
              have q70 : (sy_ai F 25).getD (sy_i F 4).toNatClampNeg 0 = (sy_ai F 25).getD ((sy_i F 4).toInt).toNat 0 := by simp only [nz_c]
              have n70 : ((sy_ai F 25).getD (sy_i F 4).toNatClampNeg 0).toInt = ((sy_ai F 25).getD ((sy_i F 4).toInt).toNat 0).toInt := congrArg Int32.toInt q70
              have r70 := nz_ba hB (k := 25) (lo := 0) (hi := 42) rfl ((sy_i F 4).toInt).toNat
              have q71 : (sy_ai F 25).getD (sy_i F 4).toNatClampNeg 0 = (sy_ai F 25).getD ((sy_i F 4).toInt).toNat 0 := by simp only [nz_c]
              have n71 : ((sy_ai F 25).getD (sy_i F 4).toNatClampNeg 0).toInt = ((sy_ai F 25).getD ((sy_i F 4).toInt).toNat 0).toInt := congrArg Int32.toInt q71
              have r71 := nz_ba hB (k := 25) (lo := 0) (hi := 42) rfl ((sy_i F 4).toInt).toNat
              have q72 : (sy_ai F 25).getD (sy_i F 4).toNatClampNeg 0 = (sy_ai F 25).getD ((sy_i F 4).toInt).toNat 0 := by simp only [nz_c]
              have n72 : ((sy_ai F 25).getD (sy_i F 4).toNatClampNeg 0).toInt = ((sy_ai F 25).getD ((sy_i F 4).toInt).toNat 0).toInt := congrArg Int32.toInt q72
              have r72 := nz_ba hB (k := 25) (lo := 0) (hi := 42) rfl ((sy_i F 4).toInt).toNat
              have q73 : (sy_ai F 25).getD (sy_i F 4).toNatClampNeg 0 = (sy_ai F 25).getD ((sy_i F 4).toInt).toNat 0 := by simp only [nz_c]
              have n73 : ((sy_ai F 25).getD (sy_i F 4).toNatClampNeg 0).toInt = ((sy_ai F 25).getD ((sy_i F 4).toInt).toNat 0).toInt := congrArg Int32.toInt q73
              have r73 := nz_ba hB (k := 25) (lo := 0) (hi := 42) rfl ((sy_i F 4).toInt).toNat
              have q74 : (sy_ai F 25).getD (sy_i F 4).toNatClampNeg 0 = (sy_ai F 25).getD ((sy_i F 4).toInt).toNat 0 := by simp only [nz_c]
              have n74 : ((sy_ai F 25).getD (sy_i F 4).toNatClampNeg 0).toInt = ((sy_ai F 25).getD ((sy_i F 4).toInt).toNat 0).toInt := congrArg Int32.toInt q74
              have r74 := nz_ba hB (k := 25) (lo := 0) (hi := 42) rfl ((sy_i F 4).toInt).toNat
              have c5 := nz_bx hB (k := 5) (lo := 0) (hi := 7) rfl
              have q75 : (sy_ai F 26).getD (sy_i F 4).toNatClampNeg 0 = (sy_ai F 26).getD ((sy_i F 4).toInt).toNat 0 := by simp only [nz_c]
              have n75 : ((sy_ai F 26).getD (sy_i F 4).toNatClampNeg 0).toInt = ((sy_ai F 26).getD ((sy_i F 4).toInt).toNat 0).toInt := congrArg Int32.toInt q75
              exact ex_96_p3 hd F X1 X2 hB (by first | exact g0 | (simp only [nz_c]; exact g0)) (by first | exact ⟨by omega, by omega⟩ | (simp only [nz_c]; exact ⟨by omega, by omega⟩)) (by first | exact g1 | (simp only [nz_c]; exact g1) | (rw [n70]; exact g1)) (by first | exact g2 | (simp only [nz_c]; exact g2)) (by first | exact ⟨by omega, by omega⟩ | (simp only [nz_c]; exact ⟨by omega, by omega⟩)) (by first | exact g3 | (simp only [nz_c]; exact g3) | (rw [n71]; exact g3)) (by first | exact g4 | (simp only [nz_c]; exact g4)) (by first | exact ⟨by omega, by omega⟩ | (simp only [nz_c]; exact ⟨by omega, by omega⟩)) (by first | exact g5 | (simp only [nz_c]; exact g5) | (rw [n72]; exact g5)) (by first | exact g6 | (simp only [nz_c]; exact g6)) (by first | exact ⟨by omega, by omega⟩ | (simp only [nz_c]; exact ⟨by omega, by omega⟩)) (by first | exact g7 | (simp only [nz_c]; exact g7) | (rw [n73]; exact g7)) (by first | exact g8 | (simp only [nz_c]; exact g8)) (by first | exact ⟨by omega, by omega⟩ | (simp only [nz_c]; exact ⟨by omega, by omega⟩)) (by first | exact g9 | (simp only [nz_c]; exact g9) | (rw [n74]; exact g9)) (by first | exact g10 | (simp only [nz_c]; exact g10)) (by first | exact g11 | (simp only [nz_c]; exact g11)) (by first | exact ⟨by omega, by omega⟩ | (simp only [nz_c]; exact ⟨by omega, by omega⟩)) (fun F1 g e6 e7 => k3 g0 g1 g2 g3 g4 g5 g6 g7 g8 g9 g10 g11 F1 (nz_in hB [6, 7] (fun j hj hn => g j hj (by simp only [List.mem_cons, List.not_mem_nil, or_false, not_or] at hn; omega)) (List.forall_mem_cons.mpr ⟨fun t ht => (Option.some.inj ht) ▸ (nz_hi e6 (by decide : ((1 : Int32)).toInt = 1) (by omega) (by omega)), List.forall_mem_cons.mpr ⟨fun t ht => (Option.some.inj ht) ▸ (nz_hz e7), List.forall_mem_nil _⟩⟩)) (fun j hj hn => g j hj (by simp only [List.mem_cons, List.not_mem_nil, or_false, not_or] at hn; omega)) (nz_fi (g 4 (by decide) (by decide))) (nz_fi (g 5 (by decide) (by decide))) ((congrArg Int32.toInt (zz_i e6)).trans (by decide : ((1 : Int32)).toInt = 1)) ((congrArg Int32.toInt (zz_i e7)).trans n75) (nz_fi (g 11 (by decide) (by decide))) (nz_fi (g 12 (by decide) (by decide))) (nz_fi (g 14 (by decide) (by decide))) (nz_fi (g 15 (by decide) (by decide))) (nz_fi (g 16 (by decide) (by decide))) (nz_fa (g 25 (by decide) (by decide))) (nz_fa (g 26 (by decide) (by decide))) (nz_fa (g 49 (by decide) (by decide))) (nz_fa (g 50 (by decide) (by decide))) (nz_fa (g 51 (by decide) (by decide))))
            replace g11 : 0 < (sy_i F 6).toInt := by omega
            have c6 := nz_bx hB (k := 6) (lo := 0) (hi := 2) rfl
            have c4 := nz_bx hB (k := 4) (lo := 0) (hi := 400) rfl
            have q70 : (sy_ai F 25).getD (sy_i F 4).toNatClampNeg 0 = (sy_ai F 25).getD ((sy_i F 4).toInt).toNat 0 := by simp only [nz_c]
            have n70 : ((sy_ai F 25).getD (sy_i F 4).toNatClampNeg 0).toInt = ((sy_ai F 25).getD ((sy_i F 4).toInt).toNat 0).toInt := congrArg Int32.toInt q70
            have r70 := nz_ba hB (k := 25) (lo := 0) (hi := 42) rfl ((sy_i F 4).toInt).toNat
            have q71 : (sy_ai F 25).getD (sy_i F 4).toNatClampNeg 0 = (sy_ai F 25).getD ((sy_i F 4).toInt).toNat 0 := by simp only [nz_c]
            have n71 : ((sy_ai F 25).getD (sy_i F 4).toNatClampNeg 0).toInt = ((sy_ai F 25).getD ((sy_i F 4).toInt).toNat 0).toInt := congrArg Int32.toInt q71
            have r71 := nz_ba hB (k := 25) (lo := 0) (hi := 42) rfl ((sy_i F 4).toInt).toNat
            have q72 : (sy_ai F 25).getD (sy_i F 4).toNatClampNeg 0 = (sy_ai F 25).getD ((sy_i F 4).toInt).toNat 0 := by simp only [nz_c]
            have n72 : ((sy_ai F 25).getD (sy_i F 4).toNatClampNeg 0).toInt = ((sy_ai F 25).getD ((sy_i F 4).toInt).toNat 0).toInt := congrArg Int32.toInt q72
            have r72 := nz_ba hB (k := 25) (lo := 0) (hi := 42) rfl ((sy_i F 4).toInt).toNat
            have q73 : (sy_ai F 25).getD (sy_i F 4).toNatClampNeg 0 = (sy_ai F 25).getD ((sy_i F 4).toInt).toNat 0 := by simp only [nz_c]
            have n73 : ((sy_ai F 25).getD (sy_i F 4).toNatClampNeg 0).toInt = ((sy_ai F 25).getD ((sy_i F 4).toInt).toNat 0).toInt := congrArg Int32.toInt q73
            have r73 := nz_ba hB (k := 25) (lo := 0) (hi := 42) rfl ((sy_i F 4).toInt).toNat
            have q74 : (sy_ai F 25).getD (sy_i F 4).toNatClampNeg 0 = (sy_ai F 25).getD ((sy_i F 4).toInt).toNat 0 := by simp only [nz_c]
            have n74 : ((sy_ai F 25).getD (sy_i F 4).toNatClampNeg 0).toInt = ((sy_ai F 25).getD ((sy_i F 4).toInt).toNat 0).toInt := congrArg Int32.toInt q74
            have r74 := nz_ba hB (k := 25) (lo := 0) (hi := 42) rfl ((sy_i F 4).toInt).toNat
            have c5 := nz_bx hB (k := 5) (lo := 0) (hi := 7) rfl
            exfalso
            omega
          replace g9 : ((sy_ai F 25).getD ((sy_i F 4).toInt).toNat 0).toInt = 15 := by omega
          by_cases g10 : (sy_i F 6).toInt ≠ 0
          · have c6 := nz_bx hB (k := 6) (lo := 0) (hi := 2) rfl
            have c4 := nz_bx hB (k := 4) (lo := 0) (hi := 400) rfl
            have q70 : (sy_ai F 25).getD (sy_i F 4).toNatClampNeg 0 = (sy_ai F 25).getD ((sy_i F 4).toInt).toNat 0 := by simp only [nz_c]
            have n70 : ((sy_ai F 25).getD (sy_i F 4).toNatClampNeg 0).toInt = ((sy_ai F 25).getD ((sy_i F 4).toInt).toNat 0).toInt := congrArg Int32.toInt q70
            have r70 := nz_ba hB (k := 25) (lo := 0) (hi := 42) rfl ((sy_i F 4).toInt).toNat
            have q71 : (sy_ai F 25).getD (sy_i F 4).toNatClampNeg 0 = (sy_ai F 25).getD ((sy_i F 4).toInt).toNat 0 := by simp only [nz_c]
            have n71 : ((sy_ai F 25).getD (sy_i F 4).toNatClampNeg 0).toInt = ((sy_ai F 25).getD ((sy_i F 4).toInt).toNat 0).toInt := congrArg Int32.toInt q71
            have r71 := nz_ba hB (k := 25) (lo := 0) (hi := 42) rfl ((sy_i F 4).toInt).toNat
            have q72 : (sy_ai F 25).getD (sy_i F 4).toNatClampNeg 0 = (sy_ai F 25).getD ((sy_i F 4).toInt).toNat 0 := by simp only [nz_c]
            have n72 : ((sy_ai F 25).getD (sy_i F 4).toNatClampNeg 0).toInt = ((sy_ai F 25).getD ((sy_i F 4).toInt).toNat 0).toInt := congrArg Int32.toInt q72
            have r72 := nz_ba hB (k := 25) (lo := 0) (hi := 42) rfl ((sy_i F 4).toInt).toNat
            have q73 : (sy_ai F 25).getD (sy_i F 4).toNatClampNeg 0 = (sy_ai F 25).getD ((sy_i F 4).toInt).toNat 0 := by simp only [nz_c]
            have n73 : ((sy_ai F 25).getD (sy_i F 4).toNatClampNeg 0).toInt = ((sy_ai F 25).getD ((sy_i F 4).toInt).toNat 0).toInt := congrArg Int32.toInt q73
            have r73 := nz_ba hB (k := 25) (lo := 0) (hi := 42) rfl ((sy_i F 4).toInt).toNat
            have q74 : (sy_ai F 25).getD (sy_i F 4).toNatClampNeg 0 = (sy_ai F 25).getD ((sy_i F 4).toInt).toNat 0 := by simp only [nz_c]
            have n74 : ((sy_ai F 25).getD (sy_i F 4).toNatClampNeg 0).toInt = ((sy_ai F 25).getD ((sy_i F 4).toInt).toNat 0).toInt := congrArg Int32.toInt q74
            have r74 := nz_ba hB (k := 25) (lo := 0) (hi := 42) rfl ((sy_i F 4).toInt).toNat
            exfalso
            omega
          replace g10 : (sy_i F 6).toInt = 0 := by omega
          by_cases g11 : ((sy_ai F 25).getD ((sy_i F 4).toInt).toNat 0).toInt ≠ 10
          · by_cases g12 : (sy_i F 6).toInt ≠ 0
            · have c6 := nz_bx hB (k := 6) (lo := 0) (hi := 2) rfl
              have c4 := nz_bx hB (k := 4) (lo := 0) (hi := 400) rfl
              have q70 : (sy_ai F 25).getD (sy_i F 4).toNatClampNeg 0 = (sy_ai F 25).getD ((sy_i F 4).toInt).toNat 0 := by simp only [nz_c]
              have n70 : ((sy_ai F 25).getD (sy_i F 4).toNatClampNeg 0).toInt = ((sy_ai F 25).getD ((sy_i F 4).toInt).toNat 0).toInt := congrArg Int32.toInt q70
              have r70 := nz_ba hB (k := 25) (lo := 0) (hi := 42) rfl ((sy_i F 4).toInt).toNat
              have q71 : (sy_ai F 25).getD (sy_i F 4).toNatClampNeg 0 = (sy_ai F 25).getD ((sy_i F 4).toInt).toNat 0 := by simp only [nz_c]
              have n71 : ((sy_ai F 25).getD (sy_i F 4).toNatClampNeg 0).toInt = ((sy_ai F 25).getD ((sy_i F 4).toInt).toNat 0).toInt := congrArg Int32.toInt q71
              have r71 := nz_ba hB (k := 25) (lo := 0) (hi := 42) rfl ((sy_i F 4).toInt).toNat
              have q72 : (sy_ai F 25).getD (sy_i F 4).toNatClampNeg 0 = (sy_ai F 25).getD ((sy_i F 4).toInt).toNat 0 := by simp only [nz_c]
              have n72 : ((sy_ai F 25).getD (sy_i F 4).toNatClampNeg 0).toInt = ((sy_ai F 25).getD ((sy_i F 4).toInt).toNat 0).toInt := congrArg Int32.toInt q72
              have r72 := nz_ba hB (k := 25) (lo := 0) (hi := 42) rfl ((sy_i F 4).toInt).toNat
              have q73 : (sy_ai F 25).getD (sy_i F 4).toNatClampNeg 0 = (sy_ai F 25).getD ((sy_i F 4).toInt).toNat 0 := by simp only [nz_c]
              have n73 : ((sy_ai F 25).getD (sy_i F 4).toNatClampNeg 0).toInt = ((sy_ai F 25).getD ((sy_i F 4).toInt).toNat 0).toInt := congrArg Int32.toInt q73
              have r73 := nz_ba hB (k := 25) (lo := 0) (hi := 42) rfl ((sy_i F 4).toInt).toNat
              have q74 : (sy_ai F 25).getD (sy_i F 4).toNatClampNeg 0 = (sy_ai F 25).getD ((sy_i F 4).toInt).toNat 0 := by simp only [nz_c]
              have n74 : ((sy_ai F 25).getD (sy_i F 4).toNatClampNeg 0).toInt = ((sy_ai F 25).getD ((sy_i F 4).toInt).toNat 0).toInt := congrArg Int32.toInt q74
              have r74 := nz_ba hB (k := 25) (lo := 0) (hi := 42) rfl ((sy_i F 4).toInt).toNat
              have q75 : (sy_ai F 25).getD (sy_i F 4).toNatClampNeg 0 = (sy_ai F 25).getD ((sy_i F 4).toInt).toNat 0 := by simp only [nz_c]
              have n75 : ((sy_ai F 25).getD (sy_i F 4).toNatClampNeg 0).toInt = ((sy_ai F 25).getD ((sy_i F 4).toInt).toNat 0).toInt := congrArg Int32.toInt q75
              have r75 := nz_ba hB (k := 25) (lo := 0) (hi := 42) rfl ((sy_i F 4).toInt).toNat
              exfalso
              omega
            replace g12 : (sy_i F 6).toInt = 0 := by omega
            by_cases g13 : ((sy_ai F 25).getD ((sy_i F 4).toInt).toNat 0).toInt ≠ 15
            · have c6 := nz_bx hB (k := 6) (lo := 0) (hi := 2) rfl
              have c4 := nz_bx hB (k := 4) (lo := 0) (hi := 400) rfl
              have q70 : (sy_ai F 25).getD (sy_i F 4).toNatClampNeg 0 = (sy_ai F 25).getD ((sy_i F 4).toInt).toNat 0 := by simp only [nz_c]
              have n70 : ((sy_ai F 25).getD (sy_i F 4).toNatClampNeg 0).toInt = ((sy_ai F 25).getD ((sy_i F 4).toInt).toNat 0).toInt := congrArg Int32.toInt q70
              have r70 := nz_ba hB (k := 25) (lo := 0) (hi := 42) rfl ((sy_i F 4).toInt).toNat
              have q71 : (sy_ai F 25).getD (sy_i F 4).toNatClampNeg 0 = (sy_ai F 25).getD ((sy_i F 4).toInt).toNat 0 := by simp only [nz_c]
              have n71 : ((sy_ai F 25).getD (sy_i F 4).toNatClampNeg 0).toInt = ((sy_ai F 25).getD ((sy_i F 4).toInt).toNat 0).toInt := congrArg Int32.toInt q71
              have r71 := nz_ba hB (k := 25) (lo := 0) (hi := 42) rfl ((sy_i F 4).toInt).toNat
              have q72 : (sy_ai F 25).getD (sy_i F 4).toNatClampNeg 0 = (sy_ai F 25).getD ((sy_i F 4).toInt).toNat 0 := by simp only [nz_c]
              have n72 : ((sy_ai F 25).getD (sy_i F 4).toNatClampNeg 0).toInt = ((sy_ai F 25).getD ((sy_i F 4).toInt).toNat 0).toInt := congrArg Int32.toInt q72
              have r72 := nz_ba hB (k := 25) (lo := 0) (hi := 42) rfl ((sy_i F 4).toInt).toNat
              have q73 : (sy_ai F 25).getD (sy_i F 4).toNatClampNeg 0 = (sy_ai F 25).getD ((sy_i F 4).toInt).toNat 0 := by simp only [nz_c]
              have n73 : ((sy_ai F 25).getD (sy_i F 4).toNatClampNeg 0).toInt = ((sy_ai F 25).getD ((sy_i F 4).toInt).toNat 0).toInt := congrArg Int32.toInt q73
              have r73 := nz_ba hB (k := 25) (lo := 0) (hi := 42) rfl ((sy_i F 4).toInt).toNat
              have q74 : (sy_ai F 25).getD (sy_i F 4).toNatClampNeg 0 = (sy_ai F 25).getD ((sy_i F 4).toInt).toNat 0 := by simp only [nz_c]
              have n74 : ((sy_ai F 25).getD (sy_i F 4).toNatClampNeg 0).toInt = ((sy_ai F 25).getD ((sy_i F 4).toInt).toNat 0).toInt := congrArg Int32.toInt q74
              have r74 := nz_ba hB (k := 25) (lo := 0) (hi := 42) rfl ((sy_i F 4).toInt).toNat
              have q75 : (sy_ai F 25).getD (sy_i F 4).toNatClampNeg 0 = (sy_ai F 25).getD ((sy_i F 4).toInt).toNat 0 := by simp only [nz_c]
              have n75 : ((sy_ai F 25).getD (sy_i F 4).toNatClampNeg 0).toInt = ((sy_ai F 25).getD ((sy_i F 4).toInt).toNat 0).toInt := congrArg Int32.toInt q75
              have r75 := nz_ba hB (k := 25) (lo := 0) (hi := 42) rfl ((sy_i F 4).toInt).toNat
              have q76 : (sy_ai F 25).getD (sy_i F 4).toNatClampNeg 0 = (sy_ai F 25).getD ((sy_i F 4).toInt).toNat 0 := by simp only [nz_c]
              have n76 : ((sy_ai F 25).getD (sy_i F 4).toNatClampNeg 0).toInt = ((sy_ai F 25).getD ((sy_i F 4).toInt).toNat 0).toInt := congrArg Int32.toInt q76
              have r76 := nz_ba hB (k := 25) (lo := 0) (hi := 42) rfl ((sy_i F 4).toInt).toNat
              exfalso
              omega
            replace g13 : ((sy_ai F 25).getD ((sy_i F 4).toInt).toNat 0).toInt = 15 := by omega
            have c6 := nz_bx hB (k := 6) (lo := 0) (hi := 2) rfl
            have c4 := nz_bx hB (k := 4) (lo := 0) (hi := 400) rfl
            have q70 : (sy_ai F 25).getD (sy_i F 4).toNatClampNeg 0 = (sy_ai F 25).getD ((sy_i F 4).toInt).toNat 0 := by simp only [nz_c]
            have n70 : ((sy_ai F 25).getD (sy_i F 4).toNatClampNeg 0).toInt = ((sy_ai F 25).getD ((sy_i F 4).toInt).toNat 0).toInt := congrArg Int32.toInt q70
            have r70 := nz_ba hB (k := 25) (lo := 0) (hi := 42) rfl ((sy_i F 4).toInt).toNat
            have q71 : (sy_ai F 25).getD (sy_i F 4).toNatClampNeg 0 = (sy_ai F 25).getD ((sy_i F 4).toInt).toNat 0 := by simp only [nz_c]
            have n71 : ((sy_ai F 25).getD (sy_i F 4).toNatClampNeg 0).toInt = ((sy_ai F 25).getD ((sy_i F 4).toInt).toNat 0).toInt := congrArg Int32.toInt q71
            have r71 := nz_ba hB (k := 25) (lo := 0) (hi := 42) rfl ((sy_i F 4).toInt).toNat
            have q72 : (sy_ai F 25).getD (sy_i F 4).toNatClampNeg 0 = (sy_ai F 25).getD ((sy_i F 4).toInt).toNat 0 := by simp only [nz_c]
            have n72 : ((sy_ai F 25).getD (sy_i F 4).toNatClampNeg 0).toInt = ((sy_ai F 25).getD ((sy_i F 4).toInt).toNat 0).toInt := congrArg Int32.toInt q72
            have r72 := nz_ba hB (k := 25) (lo := 0) (hi := 42) rfl ((sy_i F 4).toInt).toNat
            have q73 : (sy_ai F 25).getD (sy_i F 4).toNatClampNeg 0 = (sy_ai F 25).getD ((sy_i F 4).toInt).toNat 0 := by simp only [nz_c]
            have n73 : ((sy_ai F 25).getD (sy_i F 4).toNatClampNeg 0).toInt = ((sy_ai F 25).getD ((sy_i F 4).toInt).toNat 0).toInt := congrArg Int32.toInt q73
            have r73 := nz_ba hB (k := 25) (lo := 0) (hi := 42) rfl ((sy_i F 4).toInt).toNat
            have q74 : (sy_ai F 25).getD (sy_i F 4).toNatClampNeg 0 = (sy_ai F 25).getD ((sy_i F 4).toInt).toNat 0 := by simp only [nz_c]
            have n74 : ((sy_ai F 25).getD (sy_i F 4).toNatClampNeg 0).toInt = ((sy_ai F 25).getD ((sy_i F 4).toInt).toNat 0).toInt := congrArg Int32.toInt q74
            have r74 := nz_ba hB (k := 25) (lo := 0) (hi := 42) rfl ((sy_i F 4).toInt).toNat
            have q75 : (sy_ai F 25).getD (sy_i F 4).toNatClampNeg 0 = (sy_ai F 25).getD ((sy_i F 4).toInt).toNat 0 := by simp only [nz_c]
            have n75 : ((sy_ai F 25).getD (sy_i F 4).toNatClampNeg 0).toInt = ((sy_ai F 25).getD ((sy_i F 4).toInt).toNat 0).toInt := congrArg Int32.toInt q75
            have r75 := nz_ba hB (k := 25) (lo := 0) (hi := 42) rfl ((sy_i F 4).toInt).toNat
            have q76 : (sy_ai F 25).getD (sy_i F 4).toNatClampNeg 0 = (sy_ai F 25).getD ((sy_i F 4).toInt).toNat 0 := by simp only [nz_c]
            have n76 : ((sy_ai F 25).getD (sy_i F 4).toNatClampNeg 0).toInt = ((sy_ai F 25).getD ((sy_i F 4).toInt).toNat 0).toInt := congrArg Int32.toInt q76
            have r76 := nz_ba hB (k := 25) (lo := 0) (hi := 42) rfl ((sy_i F 4).toInt).toNat
            exact ex_96_p4 hd F X1 X2 hB (by first | exact g0 | (simp only [nz_c]; exact g0)) (by first | exact ⟨by omega, by omega⟩ | (simp only [nz_c]; exact ⟨by omega, by omega⟩)) (by first | exact g1 | (simp only [nz_c]; exact g1) | (rw [n70]; exact g1)) (by first | exact g2 | (simp only [nz_c]; exact g2)) (by first | exact ⟨by omega, by omega⟩ | (simp only [nz_c]; exact ⟨by omega, by omega⟩)) (by first | exact g3 | (simp only [nz_c]; exact g3) | (rw [n71]; exact g3)) (by first | exact g4 | (simp only [nz_c]; exact g4)) (by first | exact ⟨by omega, by omega⟩ | (simp only [nz_c]; exact ⟨by omega, by omega⟩)) (by first | exact g5 | (simp only [nz_c]; exact g5) | (rw [n72]; exact g5)) (by first | exact g6 | (simp only [nz_c]; exact g6)) (by first | exact ⟨by omega, by omega⟩ | (simp only [nz_c]; exact ⟨by omega, by omega⟩)) (by first | exact g7 | (simp only [nz_c]; exact g7) | (rw [n73]; exact g7)) (by first | exact g8 | (simp only [nz_c]; exact g8)) (by first | exact ⟨by omega, by omega⟩ | (simp only [nz_c]; exact ⟨by omega, by omega⟩)) (by first | exact g9 | (simp only [nz_c]; exact g9) | (rw [n74]; exact g9)) (by first | exact g10 | (simp only [nz_c]; exact g10)) (by first | exact ⟨by omega, by omega⟩ | (simp only [nz_c]; exact ⟨by omega, by omega⟩)) (by first | exact g11 | (simp only [nz_c]; exact g11) | (rw [n75]; exact g11)) (by first | exact g12 | (simp only [nz_c]; exact g12)) (by first | exact ⟨by omega, by omega⟩ | (simp only [nz_c]; exact ⟨by omega, by omega⟩)) (by first | exact g13 | (simp only [nz_c]; exact g13) | (rw [n76]; exact g13)) (fun F1 g e69 e70 => k4 g0 g1 g2 g3 g4 g5 g6 g7 g8 g9 g10 g11 g12 g13 F1 (nz_in hB [] (fun j hj hn => g j hj (by simp only [List.mem_cons, List.not_mem_nil, or_false, not_or] at hn; exact trivial)) (List.forall_mem_nil _)) (fun j hj hn => g j hj (by simp only [List.mem_cons, List.not_mem_nil, or_false, not_or] at hn; exact trivial)) (nz_fi (g 4 (by decide) (by decide))) (nz_fi (g 5 (by decide) (by decide))) (nz_fi (g 6 (by decide) (by decide))) (nz_fi (g 7 (by decide) (by decide))) (nz_fi (g 11 (by decide) (by decide))) (nz_fi (g 12 (by decide) (by decide))) (nz_fi (g 14 (by decide) (by decide))) (nz_fi (g 15 (by decide) (by decide))) (nz_fi (g 16 (by decide) (by decide))) (nz_fa (g 25 (by decide) (by decide))) (nz_fa (g 26 (by decide) (by decide))) (nz_fa (g 49 (by decide) (by decide))) (nz_fa (g 50 (by decide) (by decide))) (nz_fa (g 51 (by decide) (by decide))) ((congrArg Int32.toInt (zz_i e69)).trans (rfl : (sy_i F 69).toInt = (sy_i F 69).toInt)) ((congrArg Int32.toInt (zz_i e70)).trans (by decide : ((1 : Int32)).toInt = 1)))
          replace g11 : ((sy_ai F 25).getD ((sy_i F 4).toInt).toNat 0).toInt = 10 := by omega
          have c6 := nz_bx hB (k := 6) (lo := 0) (hi := 2) rfl
          have c4 := nz_bx hB (k := 4) (lo := 0) (hi := 400) rfl
          have q70 : (sy_ai F 25).getD (sy_i F 4).toNatClampNeg 0 = (sy_ai F 25).getD ((sy_i F 4).toInt).toNat 0 := by simp only [nz_c]
          have n70 : ((sy_ai F 25).getD (sy_i F 4).toNatClampNeg 0).toInt = ((sy_ai F 25).getD ((sy_i F 4).toInt).toNat 0).toInt := congrArg Int32.toInt q70
          have r70 := nz_ba hB (k := 25) (lo := 0) (hi := 42) rfl ((sy_i F 4).toInt).toNat
          have q71 : (sy_ai F 25).getD (sy_i F 4).toNatClampNeg 0 = (sy_ai F 25).getD ((sy_i F 4).toInt).toNat 0 := by simp only [nz_c]
          have n71 : ((sy_ai F 25).getD (sy_i F 4).toNatClampNeg 0).toInt = ((sy_ai F 25).getD ((sy_i F 4).toInt).toNat 0).toInt := congrArg Int32.toInt q71
          have r71 := nz_ba hB (k := 25) (lo := 0) (hi := 42) rfl ((sy_i F 4).toInt).toNat
          have q72 : (sy_ai F 25).getD (sy_i F 4).toNatClampNeg 0 = (sy_ai F 25).getD ((sy_i F 4).toInt).toNat 0 := by simp only [nz_c]
          have n72 : ((sy_ai F 25).getD (sy_i F 4).toNatClampNeg 0).toInt = ((sy_ai F 25).getD ((sy_i F 4).toInt).toNat 0).toInt := congrArg Int32.toInt q72
          have r72 := nz_ba hB (k := 25) (lo := 0) (hi := 42) rfl ((sy_i F 4).toInt).toNat
          have q73 : (sy_ai F 25).getD (sy_i F 4).toNatClampNeg 0 = (sy_ai F 25).getD ((sy_i F 4).toInt).toNat 0 := by simp only [nz_c]
          have n73 : ((sy_ai F 25).getD (sy_i F 4).toNatClampNeg 0).toInt = ((sy_ai F 25).getD ((sy_i F 4).toInt).toNat 0).toInt := congrArg Int32.toInt q73
          have r73 := nz_ba hB (k := 25) (lo := 0) (hi := 42) rfl ((sy_i F 4).toInt).toNat
          have q74 : (sy_ai F 25).getD (sy_i F 4).toNatClampNeg 0 = (sy_ai F 25).getD ((sy_i F 4).toInt).toNat 0 := by simp only [nz_c]
          have n74 : ((sy_ai F 25).getD (sy_i F 4).toNatClampNeg 0).toInt = ((sy_ai F 25).getD ((sy_i F 4).toInt).toNat 0).toInt := congrArg Int32.toInt q74
          have r74 := nz_ba hB (k := 25) (lo := 0) (hi := 42) rfl ((sy_i F 4).toInt).toNat
          have q75 : (sy_ai F 25).getD (sy_i F 4).toNatClampNeg 0 = (sy_ai F 25).getD ((sy_i F 4).toInt).toNat 0 := by simp only [nz_c]
          have n75 : ((sy_ai F 25).getD (sy_i F 4).toNatClampNeg 0).toInt = ((sy_ai F 25).getD ((sy_i F 4).toInt).toNat 0).toInt := congrArg Int32.toInt q75
          have r75 := nz_ba hB (k := 25) (lo := 0) (hi := 42) rfl ((sy_i F 4).toInt).toNat
          exfalso
          omega
        replace g7 : ((sy_ai F 25).getD ((sy_i F 4).toInt).toNat 0).toInt = 10 := by omega
        by_cases g8 : (sy_i F 6).toInt ≠ 0
        · have c6 := nz_bx hB (k := 6) (lo := 0) (hi := 2) rfl
          have c4 := nz_bx hB (k := 4) (lo := 0) (hi := 400) rfl
          have q70 : (sy_ai F 25).getD (sy_i F 4).toNatClampNeg 0 = (sy_ai F 25).getD ((sy_i F 4).toInt).toNat 0 := by simp only [nz_c]
          have n70 : ((sy_ai F 25).getD (sy_i F 4).toNatClampNeg 0).toInt = ((sy_ai F 25).getD ((sy_i F 4).toInt).toNat 0).toInt := congrArg Int32.toInt q70
          have r70 := nz_ba hB (k := 25) (lo := 0) (hi := 42) rfl ((sy_i F 4).toInt).toNat
          have q71 : (sy_ai F 25).getD (sy_i F 4).toNatClampNeg 0 = (sy_ai F 25).getD ((sy_i F 4).toInt).toNat 0 := by simp only [nz_c]
          have n71 : ((sy_ai F 25).getD (sy_i F 4).toNatClampNeg 0).toInt = ((sy_ai F 25).getD ((sy_i F 4).toInt).toNat 0).toInt := congrArg Int32.toInt q71
          have r71 := nz_ba hB (k := 25) (lo := 0) (hi := 42) rfl ((sy_i F 4).toInt).toNat
          have q72 : (sy_ai F 25).getD (sy_i F 4).toNatClampNeg 0 = (sy_ai F 25).getD ((sy_i F 4).toInt).toNat 0 := by simp only [nz_c]
          have n72 : ((sy_ai F 25).getD (sy_i F 4).toNatClampNeg 0).toInt = ((sy_ai F 25).getD ((sy_i F 4).toInt).toNat 0).toInt := congrArg Int32.toInt q72
          have r72 := nz_ba hB (k := 25) (lo := 0) (hi := 42) rfl ((sy_i F 4).toInt).toNat
          have q73 : (sy_ai F 25).getD (sy_i F 4).toNatClampNeg 0 = (sy_ai F 25).getD ((sy_i F 4).toInt).toNat 0 := by simp only [nz_c]
          have n73 : ((sy_ai F 25).getD (sy_i F 4).toNatClampNeg 0).toInt = ((sy_ai F 25).getD ((sy_i F 4).toInt).toNat 0).toInt := congrArg Int32.toInt q73
          have r73 := nz_ba hB (k := 25) (lo := 0) (hi := 42) rfl ((sy_i F 4).toInt).toNat
          exfalso
          omega
        replace g8 : (sy_i F 6).toInt = 0 := by omega
        by_cases g9 : ((sy_ai F 25).getD ((sy_i F 4).toInt).toNat 0).toInt ≠ 10
        · have c6 := nz_bx hB (k := 6) (lo := 0) (hi := 2) rfl
          have c4 := nz_bx hB (k := 4) (lo := 0) (hi := 400) rfl
          have q70 : (sy_ai F 25).getD (sy_i F 4).toNatClampNeg 0 = (sy_ai F 25).getD ((sy_i F 4).toInt).toNat 0 := by simp only [nz_c]
          have n70 : ((sy_ai F 25).getD (sy_i F 4).toNatClampNeg 0).toInt = ((sy_ai F 25).getD ((sy_i F 4).toInt).toNat 0).toInt := congrArg Int32.toInt q70
          have r70 := nz_ba hB (k := 25) (lo := 0) (hi := 42) rfl ((sy_i F 4).toInt).toNat
          have q71 : (sy_ai F 25).getD (sy_i F 4).toNatClampNeg 0 = (sy_ai F 25).getD ((sy_i F 4).toInt).toNat 0 := by simp only [nz_c]
          have n71 : ((sy_ai F 25).getD (sy_i F 4).toNatClampNeg 0).toInt = ((sy_ai F 25).getD ((sy_i F 4).toInt).toNat 0).toInt := congrArg Int32.toInt q71
          have r71 := nz_ba hB (k := 25) (lo := 0) (hi := 42) rfl ((sy_i F 4).toInt).toNat
          have q72 : (sy_ai F 25).getD (sy_i F 4).toNatClampNeg 0 = (sy_ai F 25).getD ((sy_i F 4).toInt).toNat 0 := by simp only [nz_c]
          have n72 : ((sy_ai F 25).getD (sy_i F 4).toNatClampNeg 0).toInt = ((sy_ai F 25).getD ((sy_i F 4).toInt).toNat 0).toInt := congrArg Int32.toInt q72
          have r72 := nz_ba hB (k := 25) (lo := 0) (hi := 42) rfl ((sy_i F 4).toInt).toNat
          have q73 : (sy_ai F 25).getD (sy_i F 4).toNatClampNeg 0 = (sy_ai F 25).getD ((sy_i F 4).toInt).toNat 0 := by simp only [nz_c]
          have n73 : ((sy_ai F 25).getD (sy_i F 4).toNatClampNeg 0).toInt = ((sy_ai F 25).getD ((sy_i F 4).toInt).toNat 0).toInt := congrArg Int32.toInt q73
          have r73 := nz_ba hB (k := 25) (lo := 0) (hi := 42) rfl ((sy_i F 4).toInt).toNat
          have q74 : (sy_ai F 25).getD (sy_i F 4).toNatClampNeg 0 = (sy_ai F 25).getD ((sy_i F 4).toInt).toNat 0 := by simp only [nz_c]
          have n74 : ((sy_ai F 25).getD (sy_i F 4).toNatClampNeg 0).toInt = ((sy_ai F 25).getD ((sy_i F 4).toInt).toNat 0).toInt := congrArg Int32.toInt q74
          have r74 := nz_ba hB (k := 25) (lo := 0) (hi := 42) rfl ((sy_i F 4).toInt).toNat
          exfalso
          omega
        replace g9 : ((sy_ai F 25).getD ((sy_i F 4).toInt).toNat 0).toInt = 10 := by omega
        have c6 := nz_bx hB (k := 6) (lo := 0) (hi := 2) rfl
        have c4 := nz_bx hB (k := 4) (lo := 0) (hi := 400) rfl
        have q70 : (sy_ai F 25).getD (sy_i F 4).toNatClampNeg 0 = (sy_ai F 25).getD ((sy_i F 4).toInt).toNat 0 := by simp only [nz_c]
        have n70 : ((sy_ai F 25).getD (sy_i F 4).toNatClampNeg 0).toInt = ((sy_ai F 25).getD ((sy_i F 4).toInt).toNat 0).toInt := congrArg Int32.toInt q70
        have r70 := nz_ba hB (k := 25) (lo := 0) (hi := 42) rfl ((sy_i F 4).toInt).toNat
        have q71 : (sy_ai F 25).getD (sy_i F 4).toNatClampNeg 0 = (sy_ai F 25).getD ((sy_i F 4).toInt).toNat 0 := by simp only [nz_c]
        have n71 : ((sy_ai F 25).getD (sy_i F 4).toNatClampNeg 0).toInt = ((sy_ai F 25).getD ((sy_i F 4).toInt).toNat 0).toInt := congrArg Int32.toInt q71
        have r71 := nz_ba hB (k := 25) (lo := 0) (hi := 42) rfl ((sy_i F 4).toInt).toNat
        have q72 : (sy_ai F 25).getD (sy_i F 4).toNatClampNeg 0 = (sy_ai F 25).getD ((sy_i F 4).toInt).toNat 0 := by simp only [nz_c]
        have n72 : ((sy_ai F 25).getD (sy_i F 4).toNatClampNeg 0).toInt = ((sy_ai F 25).getD ((sy_i F 4).toInt).toNat 0).toInt := congrArg Int32.toInt q72
        have r72 := nz_ba hB (k := 25) (lo := 0) (hi := 42) rfl ((sy_i F 4).toInt).toNat
        have q73 : (sy_ai F 25).getD (sy_i F 4).toNatClampNeg 0 = (sy_ai F 25).getD ((sy_i F 4).toInt).toNat 0 := by simp only [nz_c]
        have n73 : ((sy_ai F 25).getD (sy_i F 4).toNatClampNeg 0).toInt = ((sy_ai F 25).getD ((sy_i F 4).toInt).toNat 0).toInt := congrArg Int32.toInt q73
        have r73 := nz_ba hB (k := 25) (lo := 0) (hi := 42) rfl ((sy_i F 4).toInt).toNat
        have q74 : (sy_ai F 25).getD (sy_i F 4).toNatClampNeg 0 = (sy_ai F 25).getD ((sy_i F 4).toInt).toNat 0 := by simp only [nz_c]
        have n74 : ((sy_ai F 25).getD (sy_i F 4).toNatClampNeg 0).toInt = ((sy_ai F 25).getD ((sy_i F 4).toInt).toNat 0).toInt := congrArg Int32.toInt q74
        have r74 := nz_ba hB (k := 25) (lo := 0) (hi := 42) rfl ((sy_i F 4).toInt).toNat
        exact ex_96_p5 hd F X1 X2 hB (by first | exact g0 | (simp only [nz_c]; exact g0)) (by first | exact ⟨by omega, by omega⟩ | (simp only [nz_c]; exact ⟨by omega, by omega⟩)) (by first | exact g1 | (simp only [nz_c]; exact g1) | (rw [n70]; exact g1)) (by first | exact g2 | (simp only [nz_c]; exact g2)) (by first | exact ⟨by omega, by omega⟩ | (simp only [nz_c]; exact ⟨by omega, by omega⟩)) (by first | exact g3 | (simp only [nz_c]; exact g3) | (rw [n71]; exact g3)) (by first | exact g4 | (simp only [nz_c]; exact g4)) (by first | exact ⟨by omega, by omega⟩ | (simp only [nz_c]; exact ⟨by omega, by omega⟩)) (by first | exact g5 | (simp only [nz_c]; exact g5) | (rw [n72]; exact g5)) (by first | exact g6 | (simp only [nz_c]; exact g6)) (by first | exact ⟨by omega, by omega⟩ | (simp only [nz_c]; exact ⟨by omega, by omega⟩)) (by first | exact g7 | (simp only [nz_c]; exact g7) | (rw [n73]; exact g7)) (by first | exact g8 | (simp only [nz_c]; exact g8)) (by first | exact ⟨by omega, by omega⟩ | (simp only [nz_c]; exact ⟨by omega, by omega⟩)) (by first | exact g9 | (simp only [nz_c]; exact g9) | (rw [n74]; exact g9)) (fun F1 g e69 e70 => k5 g0 g1 g2 g3 g4 g5 g6 g7 g8 g9 F1 (nz_in hB [] (fun j hj hn => g j hj (by simp only [List.mem_cons, List.not_mem_nil, or_false, not_or] at hn; exact trivial)) (List.forall_mem_nil _)) (fun j hj hn => g j hj (by simp only [List.mem_cons, List.not_mem_nil, or_false, not_or] at hn; exact trivial)) (nz_fi (g 4 (by decide) (by decide))) (nz_fi (g 5 (by decide) (by decide))) (nz_fi (g 6 (by decide) (by decide))) (nz_fi (g 7 (by decide) (by decide))) (nz_fi (g 11 (by decide) (by decide))) (nz_fi (g 12 (by decide) (by decide))) (nz_fi (g 14 (by decide) (by decide))) (nz_fi (g 15 (by decide) (by decide))) (nz_fi (g 16 (by decide) (by decide))) (nz_fa (g 25 (by decide) (by decide))) (nz_fa (g 26 (by decide) (by decide))) (nz_fa (g 49 (by decide) (by decide))) (nz_fa (g 50 (by decide) (by decide))) (nz_fa (g 51 (by decide) (by decide))) ((congrArg Int32.toInt (zz_i e69)).trans (rfl : (sy_i F 69).toInt = (sy_i F 69).toInt)) ((congrArg Int32.toInt (zz_i e70)).trans (by decide : ((1 : Int32)).toInt = 1)))
      replace g5 : ((sy_ai F 25).getD ((sy_i F 4).toInt).toNat 0).toInt = 9 := by omega
      by_cases g6 : (sy_i F 6).toInt ≠ 0
      · have c6 := nz_bx hB (k := 6) (lo := 0) (hi := 2) rfl
        have c4 := nz_bx hB (k := 4) (lo := 0) (hi := 400) rfl
        have q70 : (sy_ai F 25).getD (sy_i F 4).toNatClampNeg 0 = (sy_ai F 25).getD ((sy_i F 4).toInt).toNat 0 := by simp only [nz_c]
        have n70 : ((sy_ai F 25).getD (sy_i F 4).toNatClampNeg 0).toInt = ((sy_ai F 25).getD ((sy_i F 4).toInt).toNat 0).toInt := congrArg Int32.toInt q70
        have r70 := nz_ba hB (k := 25) (lo := 0) (hi := 42) rfl ((sy_i F 4).toInt).toNat
        have q71 : (sy_ai F 25).getD (sy_i F 4).toNatClampNeg 0 = (sy_ai F 25).getD ((sy_i F 4).toInt).toNat 0 := by simp only [nz_c]
        have n71 : ((sy_ai F 25).getD (sy_i F 4).toNatClampNeg 0).toInt = ((sy_ai F 25).getD ((sy_i F 4).toInt).toNat 0).toInt := congrArg Int32.toInt q71
        have r71 := nz_ba hB (k := 25) (lo := 0) (hi := 42) rfl ((sy_i F 4).toInt).toNat
        have q72 : (sy_ai F 25).getD (sy_i F 4).toNatClampNeg 0 = (sy_ai F 25).getD ((sy_i F 4).toInt).toNat 0 := by simp only [nz_c]
        have n72 : ((sy_ai F 25).getD (sy_i F 4).toNatClampNeg 0).toInt = ((sy_ai F 25).getD ((sy_i F 4).toInt).toNat 0).toInt := congrArg Int32.toInt q72
        have r72 := nz_ba hB (k := 25) (lo := 0) (hi := 42) rfl ((sy_i F 4).toInt).toNat
        exfalso
        omega
      replace g6 : (sy_i F 6).toInt = 0 := by omega
      by_cases g7 : ((sy_ai F 25).getD ((sy_i F 4).toInt).toNat 0).toInt ≠ 10
      · by_cases g8 : (sy_i F 6).toInt ≠ 0
        · have c6 := nz_bx hB (k := 6) (lo := 0) (hi := 2) rfl
          have c4 := nz_bx hB (k := 4) (lo := 0) (hi := 400) rfl
          have q70 : (sy_ai F 25).getD (sy_i F 4).toNatClampNeg 0 = (sy_ai F 25).getD ((sy_i F 4).toInt).toNat 0 := by simp only [nz_c]
          have n70 : ((sy_ai F 25).getD (sy_i F 4).toNatClampNeg 0).toInt = ((sy_ai F 25).getD ((sy_i F 4).toInt).toNat 0).toInt := congrArg Int32.toInt q70
          have r70 := nz_ba hB (k := 25) (lo := 0) (hi := 42) rfl ((sy_i F 4).toInt).toNat
          have q71 : (sy_ai F 25).getD (sy_i F 4).toNatClampNeg 0 = (sy_ai F 25).getD ((sy_i F 4).toInt).toNat 0 := by simp only [nz_c]
          have n71 : ((sy_ai F 25).getD (sy_i F 4).toNatClampNeg 0).toInt = ((sy_ai F 25).getD ((sy_i F 4).toInt).toNat 0).toInt := congrArg Int32.toInt q71
          have r71 := nz_ba hB (k := 25) (lo := 0) (hi := 42) rfl ((sy_i F 4).toInt).toNat
          have q72 : (sy_ai F 25).getD (sy_i F 4).toNatClampNeg 0 = (sy_ai F 25).getD ((sy_i F 4).toInt).toNat 0 := by simp only [nz_c]
          have n72 : ((sy_ai F 25).getD (sy_i F 4).toNatClampNeg 0).toInt = ((sy_ai F 25).getD ((sy_i F 4).toInt).toNat 0).toInt := congrArg Int32.toInt q72
          have r72 := nz_ba hB (k := 25) (lo := 0) (hi := 42) rfl ((sy_i F 4).toInt).toNat
          have q73 : (sy_ai F 25).getD (sy_i F 4).toNatClampNeg 0 = (sy_ai F 25).getD ((sy_i F 4).toInt).toNat 0 := by simp only [nz_c]
          have n73 : ((sy_ai F 25).getD (sy_i F 4).toNatClampNeg 0).toInt = ((sy_ai F 25).getD ((sy_i F 4).toInt).toNat 0).toInt := congrArg Int32.toInt q73
          have r73 := nz_ba hB (k := 25) (lo := 0) (hi := 42) rfl ((sy_i F 4).toInt).toNat
          exfalso
          omega
        replace g8 : (sy_i F 6).toInt = 0 := by omega
        by_cases g9 : ((sy_ai F 25).getD ((sy_i F 4).toInt).toNat 0).toInt ≠ 15
        · have c6 := nz_bx hB (k := 6) (lo := 0) (hi := 2) rfl
          have c4 := nz_bx hB (k := 4) (lo := 0) (hi := 400) rfl
          have q70 : (sy_ai F 25).getD (sy_i F 4).toNatClampNeg 0 = (sy_ai F 25).getD ((sy_i F 4).toInt).toNat 0 := by simp only [nz_c]
          have n70 : ((sy_ai F 25).getD (sy_i F 4).toNatClampNeg 0).toInt = ((sy_ai F 25).getD ((sy_i F 4).toInt).toNat 0).toInt := congrArg Int32.toInt q70
          have r70 := nz_ba hB (k := 25) (lo := 0) (hi := 42) rfl ((sy_i F 4).toInt).toNat
          have q71 : (sy_ai F 25).getD (sy_i F 4).toNatClampNeg 0 = (sy_ai F 25).getD ((sy_i F 4).toInt).toNat 0 := by simp only [nz_c]
          have n71 : ((sy_ai F 25).getD (sy_i F 4).toNatClampNeg 0).toInt = ((sy_ai F 25).getD ((sy_i F 4).toInt).toNat 0).toInt := congrArg Int32.toInt q71
          have r71 := nz_ba hB (k := 25) (lo := 0) (hi := 42) rfl ((sy_i F 4).toInt).toNat
          have q72 : (sy_ai F 25).getD (sy_i F 4).toNatClampNeg 0 = (sy_ai F 25).getD ((sy_i F 4).toInt).toNat 0 := by simp only [nz_c]
          have n72 : ((sy_ai F 25).getD (sy_i F 4).toNatClampNeg 0).toInt = ((sy_ai F 25).getD ((sy_i F 4).toInt).toNat 0).toInt := congrArg Int32.toInt q72
          have r72 := nz_ba hB (k := 25) (lo := 0) (hi := 42) rfl ((sy_i F 4).toInt).toNat
          have q73 : (sy_ai F 25).getD (sy_i F 4).toNatClampNeg 0 = (sy_ai F 25).getD ((sy_i F 4).toInt).toNat 0 := by simp only [nz_c]
          have n73 : ((sy_ai F 25).getD (sy_i F 4).toNatClampNeg 0).toInt = ((sy_ai F 25).getD ((sy_i F 4).toInt).toNat 0).toInt := congrArg Int32.toInt q73
          have r73 := nz_ba hB (k := 25) (lo := 0) (hi := 42) rfl ((sy_i F 4).toInt).toNat
          have q74 : (sy_ai F 25).getD (sy_i F 4).toNatClampNeg 0 = (sy_ai F 25).getD ((sy_i F 4).toInt).toNat 0 := by simp only [nz_c]
          have n74 : ((sy_ai F 25).getD (sy_i F 4).toNatClampNeg 0).toInt = ((sy_ai F 25).getD ((sy_i F 4).toInt).toNat 0).toInt := congrArg Int32.toInt q74
          have r74 := nz_ba hB (k := 25) (lo := 0) (hi := 42) rfl ((sy_i F 4).toInt).toNat
          exact ex_96_p6 hd F X1 X2 hB (by first | exact g0 | (simp only [nz_c]; exact g0)) (by first | exact ⟨by omega, by omega⟩ | (simp only [nz_c]; exact ⟨by omega, by omega⟩)) (by first | exact g1 | (simp only [nz_c]; exact g1) | (rw [n70]; exact g1)) (by first | exact g2 | (simp only [nz_c]; exact g2)) (by first | exact ⟨by omega, by omega⟩ | (simp only [nz_c]; exact ⟨by omega, by omega⟩)) (by first | exact g3 | (simp only [nz_c]; exact g3) | (rw [n71]; exact g3)) (by first | exact g4 | (simp only [nz_c]; exact g4)) (by first | exact ⟨by omega, by omega⟩ | (simp only [nz_c]; exact ⟨by omega, by omega⟩)) (by first | exact g5 | (simp only [nz_c]; exact g5) | (rw [n72]; exact g5)) (by first | exact g6 | (simp only [nz_c]; exact g6)) (by first | exact ⟨by omega, by omega⟩ | (simp only [nz_c]; exact ⟨by omega, by omega⟩)) (by first | exact g7 | (simp only [nz_c]; exact g7) | (rw [n73]; exact g7)) (by first | exact g8 | (simp only [nz_c]; exact g8)) (by first | exact ⟨by omega, by omega⟩ | (simp only [nz_c]; exact ⟨by omega, by omega⟩)) (by first | exact g9 | (simp only [nz_c]; exact g9) | (rw [n74]; exact g9)) (fun F1 g e69 e70 => k6 g0 g1 g2 g3 g4 g5 g6 g7 g8 g9 F1 (nz_in hB [] (fun j hj hn => g j hj (by simp only [List.mem_cons, List.not_mem_nil, or_false, not_or] at hn; exact trivial)) (List.forall_mem_nil _)) (fun j hj hn => g j hj (by simp only [List.mem_cons, List.not_mem_nil, or_false, not_or] at hn; exact trivial)) (nz_fi (g 4 (by decide) (by decide))) (nz_fi (g 5 (by decide) (by decide))) (nz_fi (g 6 (by decide) (by decide))) (nz_fi (g 7 (by decide) (by decide))) (nz_fi (g 11 (by decide) (by decide))) (nz_fi (g 12 (by decide) (by decide))) (nz_fi (g 14 (by decide) (by decide))) (nz_fi (g 15 (by decide) (by decide))) (nz_fi (g 16 (by decide) (by decide))) (nz_fa (g 25 (by decide) (by decide))) (nz_fa (g 26 (by decide) (by decide))) (nz_fa (g 49 (by decide) (by decide))) (nz_fa (g 50 (by decide) (by decide))) (nz_fa (g 51 (by decide) (by decide))) ((congrArg Int32.toInt (zz_i e69)).trans (rfl : (sy_i F 69).toInt = (sy_i F 69).toInt)) ((congrArg Int32.toInt (zz_i e70)).trans (by decide : ((0 : Int32)).toInt = 0)))
        replace g9 : ((sy_ai F 25).getD ((sy_i F 4).toInt).toNat 0).toInt = 15 := by omega
        have c6 := nz_bx hB (k := 6) (lo := 0) (hi := 2) rfl
        have c4 := nz_bx hB (k := 4) (lo := 0) (hi := 400) rfl
        have q70 : (sy_ai F 25).getD (sy_i F 4).toNatClampNeg 0 = (sy_ai F 25).getD ((sy_i F 4).toInt).toNat 0 := by simp only [nz_c]
        have n70 : ((sy_ai F 25).getD (sy_i F 4).toNatClampNeg 0).toInt = ((sy_ai F 25).getD ((sy_i F 4).toInt).toNat 0).toInt := congrArg Int32.toInt q70
        have r70 := nz_ba hB (k := 25) (lo := 0) (hi := 42) rfl ((sy_i F 4).toInt).toNat
        have q71 : (sy_ai F 25).getD (sy_i F 4).toNatClampNeg 0 = (sy_ai F 25).getD ((sy_i F 4).toInt).toNat 0 := by simp only [nz_c]
        have n71 : ((sy_ai F 25).getD (sy_i F 4).toNatClampNeg 0).toInt = ((sy_ai F 25).getD ((sy_i F 4).toInt).toNat 0).toInt := congrArg Int32.toInt q71
        have r71 := nz_ba hB (k := 25) (lo := 0) (hi := 42) rfl ((sy_i F 4).toInt).toNat
        have q72 : (sy_ai F 25).getD (sy_i F 4).toNatClampNeg 0 = (sy_ai F 25).getD ((sy_i F 4).toInt).toNat 0 := by simp only [nz_c]
        have n72 : ((sy_ai F 25).getD (sy_i F 4).toNatClampNeg 0).toInt = ((sy_ai F 25).getD ((sy_i F 4).toInt).toNat 0).toInt := congrArg Int32.toInt q72
        have r72 := nz_ba hB (k := 25) (lo := 0) (hi := 42) rfl ((sy_i F 4).toInt).toNat
        have q73 : (sy_ai F 25).getD (sy_i F 4).toNatClampNeg 0 = (sy_ai F 25).getD ((sy_i F 4).toInt).toNat 0 := by simp only [nz_c]
        have n73 : ((sy_ai F 25).getD (sy_i F 4).toNatClampNeg 0).toInt = ((sy_ai F 25).getD ((sy_i F 4).toInt).toNat 0).toInt := congrArg Int32.toInt q73
        have r73 := nz_ba hB (k := 25) (lo := 0) (hi := 42) rfl ((sy_i F 4).toInt).toNat
        have q74 : (sy_ai F 25).getD (sy_i F 4).toNatClampNeg 0 = (sy_ai F 25).getD ((sy_i F 4).toInt).toNat 0 := by simp only [nz_c]
        have n74 : ((sy_ai F 25).getD (sy_i F 4).toNatClampNeg 0).toInt = ((sy_ai F 25).getD ((sy_i F 4).toInt).toNat 0).toInt := congrArg Int32.toInt q74
        have r74 := nz_ba hB (k := 25) (lo := 0) (hi := 42) rfl ((sy_i F 4).toInt).toNat
        exfalso
        omega
      replace g7 : ((sy_ai F 25).getD ((sy_i F 4).toInt).toNat 0).toInt = 10 := by omega
      have c6 := nz_bx hB (k := 6) (lo := 0) (hi := 2) rfl
      have c4 := nz_bx hB (k := 4) (lo := 0) (hi := 400) rfl
      have q70 : (sy_ai F 25).getD (sy_i F 4).toNatClampNeg 0 = (sy_ai F 25).getD ((sy_i F 4).toInt).toNat 0 := by simp only [nz_c]
      have n70 : ((sy_ai F 25).getD (sy_i F 4).toNatClampNeg 0).toInt = ((sy_ai F 25).getD ((sy_i F 4).toInt).toNat 0).toInt := congrArg Int32.toInt q70
      have r70 := nz_ba hB (k := 25) (lo := 0) (hi := 42) rfl ((sy_i F 4).toInt).toNat
      have q71 : (sy_ai F 25).getD (sy_i F 4).toNatClampNeg 0 = (sy_ai F 25).getD ((sy_i F 4).toInt).toNat 0 := by simp only [nz_c]
      have n71 : ((sy_ai F 25).getD (sy_i F 4).toNatClampNeg 0).toInt = ((sy_ai F 25).getD ((sy_i F 4).toInt).toNat 0).toInt := congrArg Int32.toInt q71
      have r71 := nz_ba hB (k := 25) (lo := 0) (hi := 42) rfl ((sy_i F 4).toInt).toNat
      have q72 : (sy_ai F 25).getD (sy_i F 4).toNatClampNeg 0 = (sy_ai F 25).getD ((sy_i F 4).toInt).toNat 0 := by simp only [nz_c]
      have n72 : ((sy_ai F 25).getD (sy_i F 4).toNatClampNeg 0).toInt = ((sy_ai F 25).getD ((sy_i F 4).toInt).toNat 0).toInt := congrArg Int32.toInt q72
      have r72 := nz_ba hB (k := 25) (lo := 0) (hi := 42) rfl ((sy_i F 4).toInt).toNat
      have q73 : (sy_ai F 25).getD (sy_i F 4).toNatClampNeg 0 = (sy_ai F 25).getD ((sy_i F 4).toInt).toNat 0 := by simp only [nz_c]
      have n73 : ((sy_ai F 25).getD (sy_i F 4).toNatClampNeg 0).toInt = ((sy_ai F 25).getD ((sy_i F 4).toInt).toNat 0).toInt := congrArg Int32.toInt q73
      have r73 := nz_ba hB (k := 25) (lo := 0) (hi := 42) rfl ((sy_i F 4).toInt).toNat
      exfalso
      omega
    replace g3 : ((sy_ai F 25).getD ((sy_i F 4).toInt).toNat 0).toInt = 8 := by omega
    by_cases g4 : (sy_i F 6).toInt ≠ 0
    · have c6 := nz_bx hB (k := 6) (lo := 0) (hi := 2) rfl
      have c4 := nz_bx hB (k := 4) (lo := 0) (hi := 400) rfl
      have q70 : (sy_ai F 25).getD (sy_i F 4).toNatClampNeg 0 = (sy_ai F 25).getD ((sy_i F 4).toInt).toNat 0 := by simp only [nz_c]
      have n70 : ((sy_ai F 25).getD (sy_i F 4).toNatClampNeg 0).toInt = ((sy_ai F 25).getD ((sy_i F 4).toInt).toNat 0).toInt := congrArg Int32.toInt q70
      have r70 := nz_ba hB (k := 25) (lo := 0) (hi := 42) rfl ((sy_i F 4).toInt).toNat
      have q71 : (sy_ai F 25).getD (sy_i F 4).toNatClampNeg 0 = (sy_ai F 25).getD ((sy_i F 4).toInt).toNat 0 := by simp only [nz_c]
      have n71 : ((sy_ai F 25).getD (sy_i F 4).toNatClampNeg 0).toInt = ((sy_ai F 25).getD ((sy_i F 4).toInt).toNat 0).toInt := congrArg Int32.toInt q71
      have r71 := nz_ba hB (k := 25) (lo := 0) (hi := 42) rfl ((sy_i F 4).toInt).toNat
      exfalso
      omega
    replace g4 : (sy_i F 6).toInt = 0 := by omega
    by_cases g5 : ((sy_ai F 25).getD ((sy_i F 4).toInt).toNat 0).toInt ≠ 10
    · by_cases g6 : (sy_i F 6).toInt ≠ 0
      · have c6 := nz_bx hB (k := 6) (lo := 0) (hi := 2) rfl
        have c4 := nz_bx hB (k := 4) (lo := 0) (hi := 400) rfl
        have q70 : (sy_ai F 25).getD (sy_i F 4).toNatClampNeg 0 = (sy_ai F 25).getD ((sy_i F 4).toInt).toNat 0 := by simp only [nz_c]
        have n70 : ((sy_ai F 25).getD (sy_i F 4).toNatClampNeg 0).toInt = ((sy_ai F 25).getD ((sy_i F 4).toInt).toNat 0).toInt := congrArg Int32.toInt q70
        have r70 := nz_ba hB (k := 25) (lo := 0) (hi := 42) rfl ((sy_i F 4).toInt).toNat
        have q71 : (sy_ai F 25).getD (sy_i F 4).toNatClampNeg 0 = (sy_ai F 25).getD ((sy_i F 4).toInt).toNat 0 := by simp only [nz_c]
        have n71 : ((sy_ai F 25).getD (sy_i F 4).toNatClampNeg 0).toInt = ((sy_ai F 25).getD ((sy_i F 4).toInt).toNat 0).toInt := congrArg Int32.toInt q71
        have r71 := nz_ba hB (k := 25) (lo := 0) (hi := 42) rfl ((sy_i F 4).toInt).toNat
        have q72 : (sy_ai F 25).getD (sy_i F 4).toNatClampNeg 0 = (sy_ai F 25).getD ((sy_i F 4).toInt).toNat 0 := by simp only [nz_c]
        have n72 : ((sy_ai F 25).getD (sy_i F 4).toNatClampNeg 0).toInt = ((sy_ai F 25).getD ((sy_i F 4).toInt).toNat 0).toInt := congrArg Int32.toInt q72
        have r72 := nz_ba hB (k := 25) (lo := 0) (hi := 42) rfl ((sy_i F 4).toInt).toNat
        exfalso
        omega
      replace g6 : (sy_i F 6).toInt = 0 := by omega
      by_cases g7 : ((sy_ai F 25).getD ((sy_i F 4).toInt).toNat 0).toInt ≠ 15
      · have c6 := nz_bx hB (k := 6) (lo := 0) (hi := 2) rfl
        have c4 := nz_bx hB (k := 4) (lo := 0) (hi := 400) rfl
        have q70 : (sy_ai F 25).getD (sy_i F 4).toNatClampNeg 0 = (sy_ai F 25).getD ((sy_i F 4).toInt).toNat 0 := by simp only [nz_c]
        have n70 : ((sy_ai F 25).getD (sy_i F 4).toNatClampNeg 0).toInt = ((sy_ai F 25).getD ((sy_i F 4).toInt).toNat 0).toInt := congrArg Int32.toInt q70
        have r70 := nz_ba hB (k := 25) (lo := 0) (hi := 42) rfl ((sy_i F 4).toInt).toNat
        have q71 : (sy_ai F 25).getD (sy_i F 4).toNatClampNeg 0 = (sy_ai F 25).getD ((sy_i F 4).toInt).toNat 0 := by simp only [nz_c]
        have n71 : ((sy_ai F 25).getD (sy_i F 4).toNatClampNeg 0).toInt = ((sy_ai F 25).getD ((sy_i F 4).toInt).toNat 0).toInt := congrArg Int32.toInt q71
        have r71 := nz_ba hB (k := 25) (lo := 0) (hi := 42) rfl ((sy_i F 4).toInt).toNat
        have q72 : (sy_ai F 25).getD (sy_i F 4).toNatClampNeg 0 = (sy_ai F 25).getD ((sy_i F 4).toInt).toNat 0 := by simp only [nz_c]
        have n72 : ((sy_ai F 25).getD (sy_i F 4).toNatClampNeg 0).toInt = ((sy_ai F 25).getD ((sy_i F 4).toInt).toNat 0).toInt := congrArg Int32.toInt q72
        have r72 := nz_ba hB (k := 25) (lo := 0) (hi := 42) rfl ((sy_i F 4).toInt).toNat
        have q73 : (sy_ai F 25).getD (sy_i F 4).toNatClampNeg 0 = (sy_ai F 25).getD ((sy_i F 4).toInt).toNat 0 := by simp only [nz_c]
        have n73 : ((sy_ai F 25).getD (sy_i F 4).toNatClampNeg 0).toInt = ((sy_ai F 25).getD ((sy_i F 4).toInt).toNat 0).toInt := congrArg Int32.toInt q73
        have r73 := nz_ba hB (k := 25) (lo := 0) (hi := 42) rfl ((sy_i F 4).toInt).toNat
        exact ex_96_p7 hd F X1 X2 hB (by first | exact g0 | (simp only [nz_c]; exact g0)) (by first | exact ⟨by omega, by omega⟩ | (simp only [nz_c]; exact ⟨by omega, by omega⟩)) (by first | exact g1 | (simp only [nz_c]; exact g1) | (rw [n70]; exact g1)) (by first | exact g2 | (simp only [nz_c]; exact g2)) (by first | exact ⟨by omega, by omega⟩ | (simp only [nz_c]; exact ⟨by omega, by omega⟩)) (by first | exact g3 | (simp only [nz_c]; exact g3) | (rw [n71]; exact g3)) (by first | exact g4 | (simp only [nz_c]; exact g4)) (by first | exact ⟨by omega, by omega⟩ | (simp only [nz_c]; exact ⟨by omega, by omega⟩)) (by first | exact g5 | (simp only [nz_c]; exact g5) | (rw [n72]; exact g5)) (by first | exact g6 | (simp only [nz_c]; exact g6)) (by first | exact ⟨by omega, by omega⟩ | (simp only [nz_c]; exact ⟨by omega, by omega⟩)) (by first | exact g7 | (simp only [nz_c]; exact g7) | (rw [n73]; exact g7)) (fun F1 g e69 e70 => k7 g0 g1 g2 g3 g4 g5 g6 g7 F1 (nz_in hB [] (fun j hj hn => g j hj (by simp only [List.mem_cons, List.not_mem_nil, or_false, not_or] at hn; exact trivial)) (List.forall_mem_nil _)) (fun j hj hn => g j hj (by simp only [List.mem_cons, List.not_mem_nil, or_false, not_or] at hn; exact trivial)) (nz_fi (g 4 (by decide) (by decide))) (nz_fi (g 5 (by decide) (by decide))) (nz_fi (g 6 (by decide) (by decide))) (nz_fi (g 7 (by decide) (by decide))) (nz_fi (g 11 (by decide) (by decide))) (nz_fi (g 12 (by decide) (by decide))) (nz_fi (g 14 (by decide) (by decide))) (nz_fi (g 15 (by decide) (by decide))) (nz_fi (g 16 (by decide) (by decide))) (nz_fa (g 25 (by decide) (by decide))) (nz_fa (g 26 (by decide) (by decide))) (nz_fa (g 49 (by decide) (by decide))) (nz_fa (g 50 (by decide) (by decide))) (nz_fa (g 51 (by decide) (by decide))) ((congrArg Int32.toInt (zz_i e69)).trans (rfl : (sy_i F 69).toInt = (sy_i F 69).toInt)) ((congrArg Int32.toInt (zz_i e70)).trans (by decide : ((0 : Int32)).toInt = 0)))
      replace g7 : ((sy_ai F 25).getD ((sy_i F 4).toInt).toNat 0).toInt = 15 := by omega
      have c6 := nz_bx hB (k := 6) (lo := 0) (hi := 2) rfl
      have c4 := nz_bx hB (k := 4) (lo := 0) (hi := 400) rfl
      have q70 : (sy_ai F 25).getD (sy_i F 4).toNatClampNeg 0 = (sy_ai F 25).getD ((sy_i F 4).toInt).toNat 0 := by simp only [nz_c]
      have n70 : ((sy_ai F 25).getD (sy_i F 4).toNatClampNeg 0).toInt = ((sy_ai F 25).getD ((sy_i F 4).toInt).toNat 0).toInt := congrArg Int32.toInt q70
      have r70 := nz_ba hB (k := 25) (lo := 0) (hi := 42) rfl ((sy_i F 4).toInt).toNat
      have q71 : (sy_ai F 25).getD (sy_i F 4).toNatClampNeg 0 = (sy_ai F 25).getD ((sy_i F 4).toInt).toNat 0 := by simp only [nz_c]
      have n71 : ((sy_ai F 25).getD (sy_i F 4).toNatClampNeg 0).toInt = ((sy_ai F 25).getD ((sy_i F 4).toInt).toNat 0).toInt := congrArg Int32.toInt q71
      have r71 := nz_ba hB (k := 25) (lo := 0) (hi := 42) rfl ((sy_i F 4).toInt).toNat
      have q72 : (sy_ai F 25).getD (sy_i F 4).toNatClampNeg 0 = (sy_ai F 25).getD ((sy_i F 4).toInt).toNat 0 := by simp only [nz_c]
      have n72 : ((sy_ai F 25).getD (sy_i F 4).toNatClampNeg 0).toInt = ((sy_ai F 25).getD ((sy_i F 4).toInt).toNat 0).toInt := congrArg Int32.toInt q72
      have r72 := nz_ba hB (k := 25) (lo := 0) (hi := 42) rfl ((sy_i F 4).toInt).toNat
      have q73 : (sy_ai F 25).getD (sy_i F 4).toNatClampNeg 0 = (sy_ai F 25).getD ((sy_i F 4).toInt).toNat 0 := by simp only [nz_c]
      have n73 : ((sy_ai F 25).getD (sy_i F 4).toNatClampNeg 0).toInt = ((sy_ai F 25).getD ((sy_i F 4).toInt).toNat 0).toInt := congrArg Int32.toInt q73
      have r73 := nz_ba hB (k := 25) (lo := 0) (hi := 42) rfl ((sy_i F 4).toInt).toNat
      exfalso
      omega
    replace g5 : ((sy_ai F 25).getD ((sy_i F 4).toInt).toNat 0).toInt = 10 := by omega
    have c6 := nz_bx hB (k := 6) (lo := 0) (hi := 2) rfl
    have c4 := nz_bx hB (k := 4) (lo := 0) (hi := 400) rfl
    have q70 : (sy_ai F 25).getD (sy_i F 4).toNatClampNeg 0 = (sy_ai F 25).getD ((sy_i F 4).toInt).toNat 0 := by simp only [nz_c]
    have n70 : ((sy_ai F 25).getD (sy_i F 4).toNatClampNeg 0).toInt = ((sy_ai F 25).getD ((sy_i F 4).toInt).toNat 0).toInt := congrArg Int32.toInt q70
    have r70 := nz_ba hB (k := 25) (lo := 0) (hi := 42) rfl ((sy_i F 4).toInt).toNat
    have q71 : (sy_ai F 25).getD (sy_i F 4).toNatClampNeg 0 = (sy_ai F 25).getD ((sy_i F 4).toInt).toNat 0 := by simp only [nz_c]
    have n71 : ((sy_ai F 25).getD (sy_i F 4).toNatClampNeg 0).toInt = ((sy_ai F 25).getD ((sy_i F 4).toInt).toNat 0).toInt := congrArg Int32.toInt q71
    have r71 := nz_ba hB (k := 25) (lo := 0) (hi := 42) rfl ((sy_i F 4).toInt).toNat
    have q72 : (sy_ai F 25).getD (sy_i F 4).toNatClampNeg 0 = (sy_ai F 25).getD ((sy_i F 4).toInt).toNat 0 := by simp only [nz_c]
    have n72 : ((sy_ai F 25).getD (sy_i F 4).toNatClampNeg 0).toInt = ((sy_ai F 25).getD ((sy_i F 4).toInt).toNat 0).toInt := congrArg Int32.toInt q72
    have r72 := nz_ba hB (k := 25) (lo := 0) (hi := 42) rfl ((sy_i F 4).toInt).toNat
    exfalso
    omega
  replace g1 : ((sy_ai F 25).getD ((sy_i F 4).toInt).toNat 0).toInt = 7 := by omega
  by_cases g2 : (sy_i F 5).toInt ≤ (sy_i F 69).toInt
  · by_cases g3 : (sy_i F 6).toInt ≠ 0
    · have c6 := nz_bx hB (k := 6) (lo := 0) (hi := 2) rfl
      have c4 := nz_bx hB (k := 4) (lo := 0) (hi := 400) rfl
      have q70 : (sy_ai F 25).getD (sy_i F 4).toNatClampNeg 0 = (sy_ai F 25).getD ((sy_i F 4).toInt).toNat 0 := by simp only [nz_c]
      have n70 : ((sy_ai F 25).getD (sy_i F 4).toNatClampNeg 0).toInt = ((sy_ai F 25).getD ((sy_i F 4).toInt).toNat 0).toInt := congrArg Int32.toInt q70
      have r70 := nz_ba hB (k := 25) (lo := 0) (hi := 42) rfl ((sy_i F 4).toInt).toNat
      have c5 := nz_bx hB (k := 5) (lo := 0) (hi := 7) rfl
      exfalso
      omega
    replace g3 : (sy_i F 6).toInt = 0 := by omega
    by_cases g4 : ((sy_ai F 25).getD ((sy_i F 4).toInt).toNat 0).toInt ≠ 8
    · by_cases g5 : (sy_i F 6).toInt ≠ 0
      · have c6 := nz_bx hB (k := 6) (lo := 0) (hi := 2) rfl
        have c4 := nz_bx hB (k := 4) (lo := 0) (hi := 400) rfl
        have q70 : (sy_ai F 25).getD (sy_i F 4).toNatClampNeg 0 = (sy_ai F 25).getD ((sy_i F 4).toInt).toNat 0 := by simp only [nz_c]
        have n70 : ((sy_ai F 25).getD (sy_i F 4).toNatClampNeg 0).toInt = ((sy_ai F 25).getD ((sy_i F 4).toInt).toNat 0).toInt := congrArg Int32.toInt q70
        have r70 := nz_ba hB (k := 25) (lo := 0) (hi := 42) rfl ((sy_i F 4).toInt).toNat
        have c5 := nz_bx hB (k := 5) (lo := 0) (hi := 7) rfl
        have q71 : (sy_ai F 25).getD (sy_i F 4).toNatClampNeg 0 = (sy_ai F 25).getD ((sy_i F 4).toInt).toNat 0 := by simp only [nz_c]
        have n71 : ((sy_ai F 25).getD (sy_i F 4).toNatClampNeg 0).toInt = ((sy_ai F 25).getD ((sy_i F 4).toInt).toNat 0).toInt := congrArg Int32.toInt q71
        have r71 := nz_ba hB (k := 25) (lo := 0) (hi := 42) rfl ((sy_i F 4).toInt).toNat
        exfalso
        omega
      replace g5 : (sy_i F 6).toInt = 0 := by omega
      by_cases g6 : ((sy_ai F 25).getD ((sy_i F 4).toInt).toNat 0).toInt ≠ 9
      · by_cases g7 : (sy_i F 6).toInt ≠ 0
        · have c6 := nz_bx hB (k := 6) (lo := 0) (hi := 2) rfl
          have c4 := nz_bx hB (k := 4) (lo := 0) (hi := 400) rfl
          have q70 : (sy_ai F 25).getD (sy_i F 4).toNatClampNeg 0 = (sy_ai F 25).getD ((sy_i F 4).toInt).toNat 0 := by simp only [nz_c]
          have n70 : ((sy_ai F 25).getD (sy_i F 4).toNatClampNeg 0).toInt = ((sy_ai F 25).getD ((sy_i F 4).toInt).toNat 0).toInt := congrArg Int32.toInt q70
          have r70 := nz_ba hB (k := 25) (lo := 0) (hi := 42) rfl ((sy_i F 4).toInt).toNat
          have c5 := nz_bx hB (k := 5) (lo := 0) (hi := 7) rfl
          have q71 : (sy_ai F 25).getD (sy_i F 4).toNatClampNeg 0 = (sy_ai F 25).getD ((sy_i F 4).toInt).toNat 0 := by simp only [nz_c]
          have n71 : ((sy_ai F 25).getD (sy_i F 4).toNatClampNeg 0).toInt = ((sy_ai F 25).getD ((sy_i F 4).toInt).toNat 0).toInt := congrArg Int32.toInt q71
          have r71 := nz_ba hB (k := 25) (lo := 0) (hi := 42) rfl ((sy_i F 4).toInt).toNat
          have q72 : (sy_ai F 25).getD (sy_i F 4).toNatClampNeg 0 = (sy_ai F 25).getD ((sy_i F 4).toInt).toNat 0 := by simp only [nz_c]
          have n72 : ((sy_ai F 25).getD (sy_i F 4).toNatClampNeg 0).toInt = ((sy_ai F 25).getD ((sy_i F 4).toInt).toNat 0).toInt := congrArg Int32.toInt q72
          have r72 := nz_ba hB (k := 25) (lo := 0) (hi := 42) rfl ((sy_i F 4).toInt).toNat
          exfalso
          omega
        replace g7 : (sy_i F 6).toInt = 0 := by omega
        by_cases g8 : ((sy_ai F 25).getD ((sy_i F 4).toInt).toNat 0).toInt ≠ 10
        · by_cases g9 : (sy_i F 6).toInt ≠ 0
          · have c6 := nz_bx hB (k := 6) (lo := 0) (hi := 2) rfl
            have c4 := nz_bx hB (k := 4) (lo := 0) (hi := 400) rfl
            have q70 : (sy_ai F 25).getD (sy_i F 4).toNatClampNeg 0 = (sy_ai F 25).getD ((sy_i F 4).toInt).toNat 0 := by simp only [nz_c]
            have n70 : ((sy_ai F 25).getD (sy_i F 4).toNatClampNeg 0).toInt = ((sy_ai F 25).getD ((sy_i F 4).toInt).toNat 0).toInt := congrArg Int32.toInt q70
            have r70 := nz_ba hB (k := 25) (lo := 0) (hi := 42) rfl ((sy_i F 4).toInt).toNat
            have c5 := nz_bx hB (k := 5) (lo := 0) (hi := 7) rfl
            have q71 : (sy_ai F 25).getD (sy_i F 4).toNatClampNeg 0 = (sy_ai F 25).getD ((sy_i F 4).toInt).toNat 0 := by simp only [nz_c]
            have n71 : ((sy_ai F 25).getD (sy_i F 4).toNatClampNeg 0).toInt = ((sy_ai F 25).getD ((sy_i F 4).toInt).toNat 0).toInt := congrArg Int32.toInt q71
            have r71 := nz_ba hB (k := 25) (lo := 0) (hi := 42) rfl ((sy_i F 4).toInt).toNat
            have q72 : (sy_ai F 25).getD (sy_i F 4).toNatClampNeg 0 = (sy_ai F 25).getD ((sy_i F 4).toInt).toNat 0 := by simp only [nz_c]
            have n72 : ((sy_ai F 25).getD (sy_i F 4).toNatClampNeg 0).toInt = ((sy_ai F 25).getD ((sy_i F 4).toInt).toNat 0).toInt := congrArg Int32.toInt q72
            have r72 := nz_ba hB (k := 25) (lo := 0) (hi := 42) rfl ((sy_i F 4).toInt).toNat
            have q73 : (sy_ai F 25).getD (sy_i F 4).toNatClampNeg 0 = (sy_ai F 25).getD ((sy_i F 4).toInt).toNat 0 := by simp only [nz_c]
            have n73 : ((sy_ai F 25).getD (sy_i F 4).toNatClampNeg 0).toInt = ((sy_ai F 25).getD ((sy_i F 4).toInt).toNat 0).toInt := congrArg Int32.toInt q73
            have r73 := nz_ba hB (k := 25) (lo := 0) (hi := 42) rfl ((sy_i F 4).toInt).toNat
            exfalso
            omega
          replace g9 : (sy_i F 6).toInt = 0 := by omega
          by_cases g10 : ((sy_ai F 25).getD ((sy_i F 4).toInt).toNat 0).toInt ≠ 15
          · by_cases g11 : (sy_i F 5).toInt ≤ (sy_i F 69).toInt
            · have c6 := nz_bx hB (k := 6) (lo := 0) (hi := 2) rfl
              have c4 := nz_bx hB (k := 4) (lo := 0) (hi := 400) rfl
              have q70 : (sy_ai F 25).getD (sy_i F 4).toNatClampNeg 0 = (sy_ai F 25).getD ((sy_i F 4).toInt).toNat 0 := by simp only [nz_c]
              have n70 : ((sy_ai F 25).getD (sy_i F 4).toNatClampNeg 0).toInt = ((sy_ai F 25).getD ((sy_i F 4).toInt).toNat 0).toInt := congrArg Int32.toInt q70
              have r70 := nz_ba hB (k := 25) (lo := 0) (hi := 42) rfl ((sy_i F 4).toInt).toNat
              have c5 := nz_bx hB (k := 5) (lo := 0) (hi := 7) rfl
              have q71 : (sy_ai F 25).getD (sy_i F 4).toNatClampNeg 0 = (sy_ai F 25).getD ((sy_i F 4).toInt).toNat 0 := by simp only [nz_c]
              have n71 : ((sy_ai F 25).getD (sy_i F 4).toNatClampNeg 0).toInt = ((sy_ai F 25).getD ((sy_i F 4).toInt).toNat 0).toInt := congrArg Int32.toInt q71
              have r71 := nz_ba hB (k := 25) (lo := 0) (hi := 42) rfl ((sy_i F 4).toInt).toNat
              have q72 : (sy_ai F 25).getD (sy_i F 4).toNatClampNeg 0 = (sy_ai F 25).getD ((sy_i F 4).toInt).toNat 0 := by simp only [nz_c]
              have n72 : ((sy_ai F 25).getD (sy_i F 4).toNatClampNeg 0).toInt = ((sy_ai F 25).getD ((sy_i F 4).toInt).toNat 0).toInt := congrArg Int32.toInt q72
              have r72 := nz_ba hB (k := 25) (lo := 0) (hi := 42) rfl ((sy_i F 4).toInt).toNat
              have q73 : (sy_ai F 25).getD (sy_i F 4).toNatClampNeg 0 = (sy_ai F 25).getD ((sy_i F 4).toInt).toNat 0 := by simp only [nz_c]
              have n73 : ((sy_ai F 25).getD (sy_i F 4).toNatClampNeg 0).toInt = ((sy_ai F 25).getD ((sy_i F 4).toInt).toNat 0).toInt := congrArg Int32.toInt q73
              have r73 := nz_ba hB (k := 25) (lo := 0) (hi := 42) rfl ((sy_i F 4).toInt).toNat
              have q74 : (sy_ai F 25).getD (sy_i F 4).toNatClampNeg 0 = (sy_ai F 25).getD ((sy_i F 4).toInt).toNat 0 := by simp only [nz_c]
              have n74 : ((sy_ai F 25).getD (sy_i F 4).toNatClampNeg 0).toInt = ((sy_ai F 25).getD ((sy_i F 4).toInt).toNat 0).toInt := congrArg Int32.toInt q74
              have r74 := nz_ba hB (k := 25) (lo := 0) (hi := 42) rfl ((sy_i F 4).toInt).toNat
              exact ex_96_p8 hd F X1 X2 hB (by first | exact g0 | (simp only [nz_c]; exact g0)) (by first | exact ⟨by omega, by omega⟩ | (simp only [nz_c]; exact ⟨by omega, by omega⟩)) (by first | exact g1 | (simp only [nz_c]; exact g1) | (rw [n70]; exact g1)) (by first | exact g2 | (simp only [nz_c]; exact g2)) (by first | exact g3 | (simp only [nz_c]; exact g3)) (by first | exact ⟨by omega, by omega⟩ | (simp only [nz_c]; exact ⟨by omega, by omega⟩)) (by first | exact g4 | (simp only [nz_c]; exact g4) | (rw [n71]; exact g4)) (by first | exact g5 | (simp only [nz_c]; exact g5)) (by first | exact ⟨by omega, by omega⟩ | (simp only [nz_c]; exact ⟨by omega, by omega⟩)) (by first | exact g6 | (simp only [nz_c]; exact g6) | (rw [n72]; exact g6)) (by first | exact g7 | (simp only [nz_c]; exact g7)) (by first | exact ⟨by omega, by omega⟩ | (simp only [nz_c]; exact ⟨by omega, by omega⟩)) (by first | exact g8 | (simp only [nz_c]; exact g8) | (rw [n73]; exact g8)) (by first | exact g9 | (simp only [nz_c]; exact g9)) (by first | exact ⟨by omega, by omega⟩ | (simp only [nz_c]; exact ⟨by omega, by omega⟩)) (by first | exact g10 | (simp only [nz_c]; exact g10) | (rw [n74]; exact g10)) (by first | exact g11 | (simp only [nz_c]; exact g11)) (fun F1 g  => k8 g0 g1 g2 g3 g4 g5 g6 g7 g8 g9 g10 g11 F1 (nz_in hB [] (fun j hj hn => g j hj (by simp only [List.mem_cons, List.not_mem_nil, or_false, not_or] at hn; exact trivial)) (List.forall_mem_nil _)) (fun j hj hn => g j hj (by simp only [List.mem_cons, List.not_mem_nil, or_false, not_or] at hn; exact trivial)) (nz_fi (g 4 (by decide) (by decide))) (nz_fi (g 5 (by decide) (by decide))) (nz_fi (g 6 (by decide) (by decide))) (nz_fi (g 7 (by decide) (by decide))) (nz_fi (g 11 (by decide) (by decide))) (nz_fi (g 12 (by decide) (by decide))) (nz_fi (g 14 (by decide) (by decide))) (nz_fi (g 15 (by decide) (by decide))) (nz_fi (g 16 (by decide) (by decide))) (nz_fa (g 25 (by decide) (by decide))) (nz_fa (g 26 (by decide) (by decide))) (nz_fa (g 49 (by decide) (by decide))) (nz_fa (g 50 (by decide) (by decide))) (nz_fa (g 51 (by decide) (by decide))))
            replace g11 : (sy_i F 69).toInt < (sy_i F 5).toInt := by omega
            by_cases g12 : (sy_i F 6).toInt ≤ 0
            · have c6 := nz_bx hB (k := 6) (lo := 0) (hi := 2) rfl
              have c4 := nz_bx hB (k := 4) (lo := 0) (hi := 400) rfl
              have q70 : (sy_ai F 25).getD (sy_i F 4).toNatClampNeg 0 = (sy_ai F 25).getD ((sy_i F 4).toInt).toNat 0 := by simp only [nz_c]
              have n70 : ((sy_ai F 25).getD (sy_i F 4).toNatClampNeg 0).toInt = ((sy_ai F 25).getD ((sy_i F 4).toInt).toNat 0).toInt := congrArg Int32.toInt q70
              have r70 := nz_ba hB (k := 25) (lo := 0) (hi := 42) rfl ((sy_i F 4).toInt).toNat
              have c5 := nz_bx hB (k := 5) (lo := 0) (hi := 7) rfl
              have q71 : (sy_ai F 25).getD (sy_i F 4).toNatClampNeg 0 = (sy_ai F 25).getD ((sy_i F 4).toInt).toNat 0 := by simp only [nz_c]
              have n71 : ((sy_ai F 25).getD (sy_i F 4).toNatClampNeg 0).toInt = ((sy_ai F 25).getD ((sy_i F 4).toInt).toNat 0).toInt := congrArg Int32.toInt q71
              have r71 := nz_ba hB (k := 25) (lo := 0) (hi := 42) rfl ((sy_i F 4).toInt).toNat
              have q72 : (sy_ai F 25).getD (sy_i F 4).toNatClampNeg 0 = (sy_ai F 25).getD ((sy_i F 4).toInt).toNat 0 := by simp only [nz_c]
              have n72 : ((sy_ai F 25).getD (sy_i F 4).toNatClampNeg 0).toInt = ((sy_ai F 25).getD ((sy_i F 4).toInt).toNat 0).toInt := congrArg Int32.toInt q72
              have r72 := nz_ba hB (k := 25) (lo := 0) (hi := 42) rfl ((sy_i F 4).toInt).toNat
              have q73 : (sy_ai F 25).getD (sy_i F 4).toNatClampNeg 0 = (sy_ai F 25).getD ((sy_i F 4).toInt).toNat 0 := by simp only [nz_c]
              have n73 : ((sy_ai F 25).getD (sy_i F 4).toNatClampNeg 0).toInt = ((sy_ai F 25).getD ((sy_i F 4).toInt).toNat 0).toInt := congrArg Int32.toInt q73
              have r73 := nz_ba hB (k := 25) (lo := 0) (hi := 42) rfl ((sy_i F 4).toInt).toNat
              have q74 : (sy_ai F 25).getD (sy_i F 4).toNatClampNeg 0 = (sy_ai F 25).getD ((sy_i F 4).toInt).toNat 0 := by simp only [nz_c]
              have n74 : ((sy_ai F 25).getD (sy_i F 4).toNatClampNeg 0).toInt = ((sy_ai F 25).getD ((sy_i F 4).toInt).toNat 0).toInt := congrArg Int32.toInt q74
              have r74 := nz_ba hB (k := 25) (lo := 0) (hi := 42) rfl ((sy_i F 4).toInt).toNat
              have q75 : (sy_ai F 26).getD (sy_i F 4).toNatClampNeg 0 = (sy_ai F 26).getD ((sy_i F 4).toInt).toNat 0 := by simp only [nz_c]
              have n75 : ((sy_ai F 26).getD (sy_i F 4).toNatClampNeg 0).toInt = ((sy_ai F 26).getD ((sy_i F 4).toInt).toNat 0).toInt := congrArg Int32.toInt q75
              exact ex_96_p9 hd F X1 X2 hB (by first | exact g0 | (simp only [nz_c]; exact g0)) (by first | exact ⟨by omega, by omega⟩ | (simp only [nz_c]; exact ⟨by omega, by omega⟩)) (by first | exact g1 | (simp only [nz_c]; exact g1) | (rw [n70]; exact g1)) (by first | exact g2 | (simp only [nz_c]; exact g2)) (by first | exact g3 | (simp only [nz_c]; exact g3)) (by first | exact ⟨by omega, by omega⟩ | (simp only [nz_c]; exact ⟨by omega, by omega⟩)) (by first | exact g4 | (simp only [nz_c]; exact g4) | (rw [n71]; exact g4)) (by first | exact g5 | (simp only [nz_c]; exact g5)) (by first | exact ⟨by omega, by omega⟩ | (simp only [nz_c]; exact ⟨by omega, by omega⟩)) (by first | exact g6 | (simp only [nz_c]; exact g6) | (rw [n72]; exact g6)) (by first | exact g7 | (simp only [nz_c]; exact g7)) (by first | exact ⟨by omega, by omega⟩ | (simp only [nz_c]; exact ⟨by omega, by omega⟩)) (by first | exact g8 | (simp only [nz_c]; exact g8) | (rw [n73]; exact g8)) (by first | exact g9 | (simp only [nz_c]; exact g9)) (by first | exact ⟨by omega, by omega⟩ | (simp only [nz_c]; exact ⟨by omega, by omega⟩)) (by first | exact g10 | (simp only [nz_c]; exact g10) | (rw [n74]; exact g10)) (by first | exact g11 | (simp only [nz_c]; exact g11)) (by first | exact g12 | (simp only [nz_c]; exact g12)) (by first | exact ⟨by omega, by omega⟩ | (simp only [nz_c]; exact ⟨by omega, by omega⟩)) (fun F1 g e6 e7 => k9 g0 g1 g2 g3 g4 g5 g6 g7 g8 g9 g10 g11 g12 F1 (nz_in hB [6, 7] (fun j hj hn => g j hj (by simp only [List.mem_cons, List.not_mem_nil, or_false, not_or] at hn; omega)) (List.forall_mem_cons.mpr ⟨fun t ht => (Option.some.inj ht) ▸ (nz_hi e6 (by decide : ((1 : Int32)).toInt = 1) (by omega) (by omega)), List.forall_mem_cons.mpr ⟨fun t ht => (Option.some.inj ht) ▸ (nz_hz e7), List.forall_mem_nil _⟩⟩)) (fun j hj hn => g j hj (by simp only [List.mem_cons, List.not_mem_nil, or_false, not_or] at hn; omega)) (nz_fi (g 4 (by decide) (by decide))) (nz_fi (g 5 (by decide) (by decide))) ((congrArg Int32.toInt (zz_i e6)).trans (by decide : ((1 : Int32)).toInt = 1)) ((congrArg Int32.toInt (zz_i e7)).trans n75) (nz_fi (g 11 (by decide) (by decide))) (nz_fi (g 12 (by decide) (by decide))) (nz_fi (g 14 (by decide) (by decide))) (nz_fi (g 15 (by decide) (by decide))) (nz_fi (g 16 (by decide) (by decide))) (nz_fa (g 25 (by decide) (by decide))) (nz_fa (g 26 (by decide) (by decide))) (nz_fa (g 49 (by decide) (by decide))) (nz_fa (g 50 (by decide) (by decide))) (nz_fa (g 51 (by decide) (by decide))))
            replace g12 : 0 < (sy_i F 6).toInt := by omega
            have c6 := nz_bx hB (k := 6) (lo := 0) (hi := 2) rfl
            have c4 := nz_bx hB (k := 4) (lo := 0) (hi := 400) rfl
            have q70 : (sy_ai F 25).getD (sy_i F 4).toNatClampNeg 0 = (sy_ai F 25).getD ((sy_i F 4).toInt).toNat 0 := by simp only [nz_c]
            have n70 : ((sy_ai F 25).getD (sy_i F 4).toNatClampNeg 0).toInt = ((sy_ai F 25).getD ((sy_i F 4).toInt).toNat 0).toInt := congrArg Int32.toInt q70
            have r70 := nz_ba hB (k := 25) (lo := 0) (hi := 42) rfl ((sy_i F 4).toInt).toNat
            have c5 := nz_bx hB (k := 5) (lo := 0) (hi := 7) rfl
            have q71 : (sy_ai F 25).getD (sy_i F 4).toNatClampNeg 0 = (sy_ai F 25).getD ((sy_i F 4).toInt).toNat 0 := by simp only [nz_c]
            have n71 : ((sy_ai F 25).getD (sy_i F 4).toNatClampNeg 0).toInt = ((sy_ai F 25).getD ((sy_i F 4).toInt).toNat 0).toInt := congrArg Int32.toInt q71
            have r71 := nz_ba hB (k := 25) (lo := 0) (hi := 42) rfl ((sy_i F 4).toInt).toNat
            have q72 : (sy_ai F 25).getD (sy_i F 4).toNatClampNeg 0 = (sy_ai F 25).getD ((sy_i F 4).toInt).toNat 0 := by simp only [nz_c]
            have n72 : ((sy_ai F 25).getD (sy_i F 4).toNatClampNeg 0).toInt = ((sy_ai F 25).getD ((sy_i F 4).toInt).toNat 0).toInt := congrArg Int32.toInt q72
            have r72 := nz_ba hB (k := 25) (lo := 0) (hi := 42) rfl ((sy_i F 4).toInt).toNat
            have q73 : (sy_ai F 25).getD (sy_i F 4).toNatClampNeg 0 = (sy_ai F 25).getD ((sy_i F 4).toInt).toNat 0 := by simp only [nz_c]
            have n73 : ((sy_ai F 25).getD (sy_i F 4).toNatClampNeg 0).toInt = ((sy_ai F 25).getD ((sy_i F 4).toInt).toNat 0).toInt := congrArg Int32.toInt q73
            have r73 := nz_ba hB (k := 25) (lo := 0) (hi := 42) rfl ((sy_i F 4).toInt).toNat
            have q74 : (sy_ai F 25).getD (sy_i F 4).toNatClampNeg 0 = (sy_ai F 25).getD ((sy_i F 4).toInt).toNat 0 := by simp only [nz_c]
            have n74 : ((sy_ai F 25).getD (sy_i F 4).toNatClampNeg 0).toInt = ((sy_ai F 25).getD ((sy_i F 4).toInt).toNat 0).toInt := congrArg Int32.toInt q74
            have r74 := nz_ba hB (k := 25) (lo := 0) (hi := 42) rfl ((sy_i F 4).toInt).toNat
            exfalso
            omega
          replace g10 : ((sy_ai F 25).getD ((sy_i F 4).toInt).toNat 0).toInt = 15 := by omega
          have c6 := nz_bx hB (k := 6) (lo := 0) (hi := 2) rfl
          have c4 := nz_bx hB (k := 4) (lo := 0) (hi := 400) rfl
          have q70 : (sy_ai F 25).getD (sy_i F 4).toNatClampNeg 0 = (sy_ai F 25).getD ((sy_i F 4).toInt).toNat 0 := by simp only [nz_c]
          have n70 : ((sy_ai F 25).getD (sy_i F 4).toNatClampNeg 0).toInt = ((sy_ai F 25).getD ((sy_i F 4).toInt).toNat 0).toInt := congrArg Int32.toInt q70
          have r70 := nz_ba hB (k := 25) (lo := 0) (hi := 42) rfl ((sy_i F 4).toInt).toNat
          have c5 := nz_bx hB (k := 5) (lo := 0) (hi := 7) rfl
          have q71 : (sy_ai F 25).getD (sy_i F 4).toNatClampNeg 0 = (sy_ai F 25).getD ((sy_i F 4).toInt).toNat 0 := by simp only [nz_c]
          have n71 : ((sy_ai F 25).getD (sy_i F 4).toNatClampNeg 0).toInt = ((sy_ai F 25).getD ((sy_i F 4).toInt).toNat 0).toInt := congrArg Int32.toInt q71
          have r71 := nz_ba hB (k := 25) (lo := 0) (hi := 42) rfl ((sy_i F 4).toInt).toNat
          have q72 : (sy_ai F 25).getD (sy_i F 4).toNatClampNeg 0 = (sy_ai F 25).getD ((sy_i F 4).toInt).toNat 0 := by simp only [nz_c]
          have n72 : ((sy_ai F 25).getD (sy_i F 4).toNatClampNeg 0).toInt = ((sy_ai F 25).getD ((sy_i F 4).toInt).toNat 0).toInt := congrArg Int32.toInt q72
          have r72 := nz_ba hB (k := 25) (lo := 0) (hi := 42) rfl ((sy_i F 4).toInt).toNat
          have q73 : (sy_ai F 25).getD (sy_i F 4).toNatClampNeg 0 = (sy_ai F 25).getD ((sy_i F 4).toInt).toNat 0 := by simp only [nz_c]
          have n73 : ((sy_ai F 25).getD (sy_i F 4).toNatClampNeg 0).toInt = ((sy_ai F 25).getD ((sy_i F 4).toInt).toNat 0).toInt := congrArg Int32.toInt q73
          have r73 := nz_ba hB (k := 25) (lo := 0) (hi := 42) rfl ((sy_i F 4).toInt).toNat
          have q74 : (sy_ai F 25).getD (sy_i F 4).toNatClampNeg 0 = (sy_ai F 25).getD ((sy_i F 4).toInt).toNat 0 := by simp only [nz_c]
          have n74 : ((sy_ai F 25).getD (sy_i F 4).toNatClampNeg 0).toInt = ((sy_ai F 25).getD ((sy_i F 4).toInt).toNat 0).toInt := congrArg Int32.toInt q74
          have r74 := nz_ba hB (k := 25) (lo := 0) (hi := 42) rfl ((sy_i F 4).toInt).toNat
          exfalso
          omega
        replace g8 : ((sy_ai F 25).getD ((sy_i F 4).toInt).toNat 0).toInt = 10 := by omega
        have c6 := nz_bx hB (k := 6) (lo := 0) (hi := 2) rfl
        have c4 := nz_bx hB (k := 4) (lo := 0) (hi := 400) rfl
        have q70 : (sy_ai F 25).getD (sy_i F 4).toNatClampNeg 0 = (sy_ai F 25).getD ((sy_i F 4).toInt).toNat 0 := by simp only [nz_c]
        have n70 : ((sy_ai F 25).getD (sy_i F 4).toNatClampNeg 0).toInt = ((sy_ai F 25).getD ((sy_i F 4).toInt).toNat 0).toInt := congrArg Int32.toInt q70
        have r70 := nz_ba hB (k := 25) (lo := 0) (hi := 42) rfl ((sy_i F 4).toInt).toNat
        have c5 := nz_bx hB (k := 5) (lo := 0) (hi := 7) rfl
        have q71 : (sy_ai F 25).getD (sy_i F 4).toNatClampNeg 0 = (sy_ai F 25).getD ((sy_i F 4).toInt).toNat 0 := by simp only [nz_c]
        have n71 : ((sy_ai F 25).getD (sy_i F 4).toNatClampNeg 0).toInt = ((sy_ai F 25).getD ((sy_i F 4).toInt).toNat 0).toInt := congrArg Int32.toInt q71
        have r71 := nz_ba hB (k := 25) (lo := 0) (hi := 42) rfl ((sy_i F 4).toInt).toNat
        have q72 : (sy_ai F 25).getD (sy_i F 4).toNatClampNeg 0 = (sy_ai F 25).getD ((sy_i F 4).toInt).toNat 0 := by simp only [nz_c]
        have n72 : ((sy_ai F 25).getD (sy_i F 4).toNatClampNeg 0).toInt = ((sy_ai F 25).getD ((sy_i F 4).toInt).toNat 0).toInt := congrArg Int32.toInt q72
        have r72 := nz_ba hB (k := 25) (lo := 0) (hi := 42) rfl ((sy_i F 4).toInt).toNat
        have q73 : (sy_ai F 25).getD (sy_i F 4).toNatClampNeg 0 = (sy_ai F 25).getD ((sy_i F 4).toInt).toNat 0 := by simp only [nz_c]
        have n73 : ((sy_ai F 25).getD (sy_i F 4).toNatClampNeg 0).toInt = ((sy_ai F 25).getD ((sy_i F 4).toInt).toNat 0).toInt := congrArg Int32.toInt q73
        have r73 := nz_ba hB (k := 25) (lo := 0) (hi := 42) rfl ((sy_i F 4).toInt).toNat
        exfalso
        omega
      replace g6 : ((sy_ai F 25).getD ((sy_i F 4).toInt).toNat 0).toInt = 9 := by omega
      have c6 := nz_bx hB (k := 6) (lo := 0) (hi := 2) rfl
      have c4 := nz_bx hB (k := 4) (lo := 0) (hi := 400) rfl
      have q70 : (sy_ai F 25).getD (sy_i F 4).toNatClampNeg 0 = (sy_ai F 25).getD ((sy_i F 4).toInt).toNat 0 := by simp only [nz_c]
      have n70 : ((sy_ai F 25).getD (sy_i F 4).toNatClampNeg 0).toInt = ((sy_ai F 25).getD ((sy_i F 4).toInt).toNat 0).toInt := congrArg Int32.toInt q70
      have r70 := nz_ba hB (k := 25) (lo := 0) (hi := 42) rfl ((sy_i F 4).toInt).toNat
      have c5 := nz_bx hB (k := 5) (lo := 0) (hi := 7) rfl
      have q71 : (sy_ai F 25).getD (sy_i F 4).toNatClampNeg 0 = (sy_ai F 25).getD ((sy_i F 4).toInt).toNat 0 := by simp only [nz_c]
      have n71 : ((sy_ai F 25).getD (sy_i F 4).toNatClampNeg 0).toInt = ((sy_ai F 25).getD ((sy_i F 4).toInt).toNat 0).toInt := congrArg Int32.toInt q71
      have r71 := nz_ba hB (k := 25) (lo := 0) (hi := 42) rfl ((sy_i F 4).toInt).toNat
      have q72 : (sy_ai F 25).getD (sy_i F 4).toNatClampNeg 0 = (sy_ai F 25).getD ((sy_i F 4).toInt).toNat 0 := by simp only [nz_c]
      have n72 : ((sy_ai F 25).getD (sy_i F 4).toNatClampNeg 0).toInt = ((sy_ai F 25).getD ((sy_i F 4).toInt).toNat 0).toInt := congrArg Int32.toInt q72
      have r72 := nz_ba hB (k := 25) (lo := 0) (hi := 42) rfl ((sy_i F 4).toInt).toNat
      exfalso
      omega
    replace g4 : ((sy_ai F 25).getD ((sy_i F 4).toInt).toNat 0).toInt = 8 := by omega
    have c6 := nz_bx hB (k := 6) (lo := 0) (hi := 2) rfl
    have c4 := nz_bx hB (k := 4) (lo := 0) (hi := 400) rfl
    have q70 : (sy_ai F 25).getD (sy_i F 4).toNatClampNeg 0 = (sy_ai F 25).getD ((sy_i F 4).toInt).toNat 0 := by simp only [nz_c]
    have n70 : ((sy_ai F 25).getD (sy_i F 4).toNatClampNeg 0).toInt = ((sy_ai F 25).getD ((sy_i F 4).toInt).toNat 0).toInt := congrArg Int32.toInt q70
    have r70 := nz_ba hB (k := 25) (lo := 0) (hi := 42) rfl ((sy_i F 4).toInt).toNat
    have c5 := nz_bx hB (k := 5) (lo := 0) (hi := 7) rfl
    have q71 : (sy_ai F 25).getD (sy_i F 4).toNatClampNeg 0 = (sy_ai F 25).getD ((sy_i F 4).toInt).toNat 0 := by simp only [nz_c]
    have n71 : ((sy_ai F 25).getD (sy_i F 4).toNatClampNeg 0).toInt = ((sy_ai F 25).getD ((sy_i F 4).toInt).toNat 0).toInt := congrArg Int32.toInt q71
    have r71 := nz_ba hB (k := 25) (lo := 0) (hi := 42) rfl ((sy_i F 4).toInt).toNat
    exfalso
    omega
  replace g2 : (sy_i F 69).toInt < (sy_i F 5).toInt := by omega
  have c6 := nz_bx hB (k := 6) (lo := 0) (hi := 2) rfl
  have c4 := nz_bx hB (k := 4) (lo := 0) (hi := 400) rfl
  have q70 : (sy_ai F 25).getD (sy_i F 4).toNatClampNeg 0 = (sy_ai F 25).getD ((sy_i F 4).toInt).toNat 0 := by simp only [nz_c]
  have n70 : ((sy_ai F 25).getD (sy_i F 4).toNatClampNeg 0).toInt = ((sy_ai F 25).getD ((sy_i F 4).toInt).toNat 0).toInt := congrArg Int32.toInt q70
  have r70 := nz_ba hB (k := 25) (lo := 0) (hi := 42) rfl ((sy_i F 4).toInt).toNat
  have c5 := nz_bx hB (k := 5) (lo := 0) (hi := 7) rfl
  exact ex_96_p10 hd F X1 X2 hB (by first | exact g0 | (simp only [nz_c]; exact g0)) (by first | exact ⟨by omega, by omega⟩ | (simp only [nz_c]; exact ⟨by omega, by omega⟩)) (by first | exact g1 | (simp only [nz_c]; exact g1) | (rw [n70]; exact g1)) (by first | exact g2 | (simp only [nz_c]; exact g2)) (fun F1 g e69 => k10 g0 g1 g2 F1 (nz_in hB [] (fun j hj hn => g j hj (by simp only [List.mem_cons, List.not_mem_nil, or_false, not_or] at hn; exact trivial)) (List.forall_mem_nil _)) (fun j hj hn => g j hj (by simp only [List.mem_cons, List.not_mem_nil, or_false, not_or] at hn; exact trivial)) (nz_fi (g 4 (by decide) (by decide))) (nz_fi (g 5 (by decide) (by decide))) (nz_fi (g 6 (by decide) (by decide))) (nz_fi (g 7 (by decide) (by decide))) (nz_fi (g 11 (by decide) (by decide))) (nz_fi (g 12 (by decide) (by decide))) (nz_fi (g 14 (by decide) (by decide))) (nz_fi (g 15 (by decide) (by decide))) (nz_fi (g 16 (by decide) (by decide))) (nz_fa (g 25 (by decide) (by decide))) (nz_fa (g 26 (by decide) (by decide))) (nz_fa (g 49 (by decide) (by decide))) (nz_fa (g 50 (by decide) (by decide))) (nz_fa (g 51 (by decide) (by decide))) ((congrArg Int32.toInt (zz_i e69)).trans (rfl : (sy_i F 69).toInt = (sy_i F 69).toInt)))
theorem exy_118 {Ls : Nat} {xs : Nat → Int32} {d : Nat} {Q : Option Value → jm_h → Prop} (hd : 4 ≤ d) (F : Nat → sy_d) (X1 X2 : List jm_c) (hB : iv_in F iv_B4)
    (o0 : (sy_i F 4).toInt ≠ 400 → (0 ≤ ((sy_i F 5).toInt - 1) ∧ ((sy_i F 5).toInt - 1) ≤ 7))
    (o1 : (sy_i F 4).toInt ≠ 400 → (0 ≤ ((sy_i F 16).toInt - 1) ∧ ((sy_i F 16).toInt - 1) ≤ 64))
    (o2 : (sy_i F 4).toInt = 400 → (sy_i F 6).toInt ≤ 0 → (0 ≤ ((sy_i F 5).toInt - 1) ∧ ((sy_i F 5).toInt - 1) ≤ 7))
    (o3 : (sy_i F 4).toInt = 400 → (sy_i F 6).toInt ≤ 0 → (0 ≤ ((sy_i F 16).toInt - 1) ∧ ((sy_i F 16).toInt - 1) ≤ 64))
    (o4 : (sy_i F 4).toInt = 400 → 0 < (sy_i F 6).toInt → (0 ≤ ((sy_i F 5).toInt - 1) ∧ ((sy_i F 5).toInt - 1) ≤ 7))
    (o5 : (sy_i F 4).toInt = 400 → 0 < (sy_i F 6).toInt → (0 ≤ ((sy_i F 16).toInt - 1) ∧ ((sy_i F 16).toInt - 1) ≤ 64))
    (k0 : (sy_i F 4).toInt ≠ 400 → ∀ F1 : Nat → sy_d, iv_in F1 iv_B4 → (∀ j, j < 69 → j ∉ ([4, 5, 16] : List Nat) → F1 j = F j) → (sy_i F1 4).toInt = ((sy_i F 4).toInt + 1) → (sy_i F1 5).toInt = ((sy_i F 5).toInt - 1) → (sy_i F1 6).toInt = (sy_i F 6).toInt → (sy_i F1 7).toInt = (sy_i F 7).toInt → (sy_i F1 11).toInt = (sy_i F 11).toInt → (sy_i F1 12).toInt = (sy_i F 12).toInt → (sy_i F1 14).toInt = (sy_i F 14).toInt → (sy_i F1 15).toInt = (sy_i F 15).toInt → (sy_i F1 16).toInt = ((sy_i F 16).toInt - 1) → sy_ai F1 25 = sy_ai F 25 → sy_ai F1 26 = sy_ai F 26 → sy_ai F1 49 = sy_ai F 49 → sy_ai F1 50 = sy_ai F 50 → sy_ai F1 51 = sy_ai F 51 → (sy_i F1 69).toInt = (sy_i F 69).toInt → hd_W Ls xs d jm_M164 Q (96, sy_dL F1 [some (.inl (.ref 1000)), some (.inr (.inl 69)), some (.inl (.int 1))], sy_dS F1 [], sy_dh F1 X1 X2 (iv_H 4), 0, 0))
    (k1 : (sy_i F 4).toInt = 400 → (sy_i F 6).toInt ≤ 0 → ∀ F1 : Nat → sy_d, iv_in F1 iv_B4 → (∀ j, j < 69 → j ∉ ([5, 6, 7, 16] : List Nat) → F1 j = F j) → (sy_i F1 4).toInt = (sy_i F 4).toInt → (sy_i F1 5).toInt = ((sy_i F 5).toInt - 1) → (sy_i F1 6).toInt = 2 → (sy_i F1 7).toInt = ((sy_ai F 26).getD ((sy_i F 4).toInt).toNat 0).toInt → (sy_i F1 11).toInt = (sy_i F 11).toInt → (sy_i F1 12).toInt = (sy_i F 12).toInt → (sy_i F1 14).toInt = (sy_i F 14).toInt → (sy_i F1 15).toInt = (sy_i F 15).toInt → (sy_i F1 16).toInt = ((sy_i F 16).toInt - 1) → sy_ai F1 25 = sy_ai F 25 → sy_ai F1 26 = sy_ai F 26 → sy_ai F1 49 = sy_ai F 49 → sy_ai F1 50 = sy_ai F 50 → sy_ai F1 51 = sy_ai F 51 → (sy_i F1 69).toInt = (sy_i F 69).toInt → hd_W Ls xs d jm_M164 Q (96, sy_dL F1 [some (.inl (.ref 1000)), some (.inr (.inl 69)), some (.inl (.int 1))], sy_dS F1 [], sy_dh F1 X1 X2 (iv_H 4), 0, 0))
    (k2 : (sy_i F 4).toInt = 400 → 0 < (sy_i F 6).toInt → ∀ F1 : Nat → sy_d, iv_in F1 iv_B4 → (∀ j, j < 69 → j ∉ ([5, 16] : List Nat) → F1 j = F j) → (sy_i F1 4).toInt = (sy_i F 4).toInt → (sy_i F1 5).toInt = ((sy_i F 5).toInt - 1) → (sy_i F1 6).toInt = (sy_i F 6).toInt → (sy_i F1 7).toInt = (sy_i F 7).toInt → (sy_i F1 11).toInt = (sy_i F 11).toInt → (sy_i F1 12).toInt = (sy_i F 12).toInt → (sy_i F1 14).toInt = (sy_i F 14).toInt → (sy_i F1 15).toInt = (sy_i F 15).toInt → (sy_i F1 16).toInt = ((sy_i F 16).toInt - 1) → sy_ai F1 25 = sy_ai F 25 → sy_ai F1 26 = sy_ai F 26 → sy_ai F1 49 = sy_ai F 49 → sy_ai F1 50 = sy_ai F 50 → sy_ai F1 51 = sy_ai F 51 → (sy_i F1 69).toInt = (sy_i F 69).toInt → hd_W Ls xs d jm_M164 Q (96, sy_dL F1 [some (.inl (.ref 1000)), some (.inr (.inl 69)), some (.inl (.int 1))], sy_dS F1 [], sy_dh F1 X1 X2 (iv_H 4), 0, 0)) :
    hd_W Ls xs d jm_M164 Q (118, sy_dL F [some (.inl (.ref 1000)), some (.inr (.inl 69)), some (.inl (.int 1))], sy_dS F [], sy_dh F X1 X2 (iv_H 4), 0, 0) := by
  by_cases g0 : (sy_i F 4).toInt ≠ 400
  · have c4 := nz_bx hB (k := 4) (lo := 0) (hi := 400) rfl
    have n72 : ((sy_i F 4) + ((1 : Int32))).toInt = ((sy_i F 4).toInt + 1) := nz_add (rfl : (sy_i F 4).toInt = (sy_i F 4).toInt) (by decide : ((1 : Int32)).toInt = 1) (by omega) (by omega)
    have c5 := nz_bx hB (k := 5) (lo := 0) (hi := 7) rfl
    have n71 : ((sy_i F 5) - ((1 : Int32))).toInt = ((sy_i F 5).toInt - 1) := nz_sub (rfl : (sy_i F 5).toInt = (sy_i F 5).toInt) (by decide : ((1 : Int32)).toInt = 1) (by omega) (by omega)
    have c16 := nz_bx hB (k := 16) (lo := 0) (hi := 64) rfl
    have n70 : ((sy_i F 16) - ((1 : Int32))).toInt = ((sy_i F 16).toInt - 1) := nz_sub (rfl : (sy_i F 16).toInt = (sy_i F 16).toInt) (by decide : ((1 : Int32)).toInt = 1) (by omega) (by omega)
    exact ex_118_p0 hd F X1 X2 hB (by first | exact g0 | (simp only [nz_c]; exact g0)) (fun F1 g e4 e5 e16 e69 => k0 g0 F1 (nz_in hB [4, 5, 16] (fun j hj hn => g j hj (by simp only [List.mem_cons, List.not_mem_nil, or_false, not_or] at hn; omega)) (List.forall_mem_cons.mpr ⟨fun t ht => (Option.some.inj ht) ▸ (nz_hi e4 n72 (by omega) (by omega)), List.forall_mem_cons.mpr ⟨fun t ht => (Option.some.inj ht) ▸ (nz_hi e5 n71 (o0 g0).1 (o0 g0).2), List.forall_mem_cons.mpr ⟨fun t ht => (Option.some.inj ht) ▸ (nz_hi e16 n70 (o1 g0).1 (o1 g0).2), List.forall_mem_nil _⟩⟩⟩)) (fun j hj hn => g j hj (by simp only [List.mem_cons, List.not_mem_nil, or_false, not_or] at hn; omega)) ((congrArg Int32.toInt (zz_i e4)).trans n72) ((congrArg Int32.toInt (zz_i e5)).trans n71) (nz_fi (g 6 (by decide) (by decide))) (nz_fi (g 7 (by decide) (by decide))) (nz_fi (g 11 (by decide) (by decide))) (nz_fi (g 12 (by decide) (by decide))) (nz_fi (g 14 (by decide) (by decide))) (nz_fi (g 15 (by decide) (by decide))) ((congrArg Int32.toInt (zz_i e16)).trans n70) (nz_fa (g 25 (by decide) (by decide))) (nz_fa (g 26 (by decide) (by decide))) (nz_fa (g 49 (by decide) (by decide))) (nz_fa (g 50 (by decide) (by decide))) (nz_fa (g 51 (by decide) (by decide))) ((congrArg Int32.toInt (zz_i e69)).trans (rfl : (sy_i F 69).toInt = (sy_i F 69).toInt)))
  replace g0 : (sy_i F 4).toInt = 400 := by omega
  by_cases g1 : (sy_i F 6).toInt ≤ 0
  · have c4 := nz_bx hB (k := 4) (lo := 0) (hi := 400) rfl
    have c6 := nz_bx hB (k := 6) (lo := 0) (hi := 2) rfl
    have c5 := nz_bx hB (k := 5) (lo := 0) (hi := 7) rfl
    have n71 : ((sy_i F 5) - ((1 : Int32))).toInt = ((sy_i F 5).toInt - 1) := nz_sub (rfl : (sy_i F 5).toInt = (sy_i F 5).toInt) (by decide : ((1 : Int32)).toInt = 1) (by omega) (by omega)
    have q72 : (sy_ai F 26).getD (sy_i F 4).toNatClampNeg 0 = (sy_ai F 26).getD ((sy_i F 4).toInt).toNat 0 := by simp only [nz_c]
    have n72 : ((sy_ai F 26).getD (sy_i F 4).toNatClampNeg 0).toInt = ((sy_ai F 26).getD ((sy_i F 4).toInt).toNat 0).toInt := congrArg Int32.toInt q72
    have c16 := nz_bx hB (k := 16) (lo := 0) (hi := 64) rfl
    have n70 : ((sy_i F 16) - ((1 : Int32))).toInt = ((sy_i F 16).toInt - 1) := nz_sub (rfl : (sy_i F 16).toInt = (sy_i F 16).toInt) (by decide : ((1 : Int32)).toInt = 1) (by omega) (by omega)
    exact ex_118_p1 hd F X1 X2 hB (by first | exact g0 | (simp only [nz_c]; exact g0)) (by first | exact g1 | (simp only [nz_c]; exact g1)) (by first | exact ⟨by omega, by omega⟩ | (simp only [nz_c]; exact ⟨by omega, by omega⟩)) (fun F1 g e5 e6 e7 e16 e69 => k1 g0 g1 F1 (nz_in hB [5, 6, 7, 16] (fun j hj hn => g j hj (by simp only [List.mem_cons, List.not_mem_nil, or_false, not_or] at hn; omega)) (List.forall_mem_cons.mpr ⟨fun t ht => (Option.some.inj ht) ▸ (nz_hi e5 n71 (o2 g0 g1).1 (o2 g0 g1).2), List.forall_mem_cons.mpr ⟨fun t ht => (Option.some.inj ht) ▸ (nz_hi e6 (by decide : ((2 : Int32)).toInt = 2) (by omega) (by omega)), List.forall_mem_cons.mpr ⟨fun t ht => (Option.some.inj ht) ▸ (nz_hz e7), List.forall_mem_cons.mpr ⟨fun t ht => (Option.some.inj ht) ▸ (nz_hi e16 n70 (o3 g0 g1).1 (o3 g0 g1).2), List.forall_mem_nil _⟩⟩⟩⟩)) (fun j hj hn => g j hj (by simp only [List.mem_cons, List.not_mem_nil, or_false, not_or] at hn; omega)) (nz_fi (g 4 (by decide) (by decide))) ((congrArg Int32.toInt (zz_i e5)).trans n71) ((congrArg Int32.toInt (zz_i e6)).trans (by decide : ((2 : Int32)).toInt = 2)) ((congrArg Int32.toInt (zz_i e7)).trans n72) (nz_fi (g 11 (by decide) (by decide))) (nz_fi (g 12 (by decide) (by decide))) (nz_fi (g 14 (by decide) (by decide))) (nz_fi (g 15 (by decide) (by decide))) ((congrArg Int32.toInt (zz_i e16)).trans n70) (nz_fa (g 25 (by decide) (by decide))) (nz_fa (g 26 (by decide) (by decide))) (nz_fa (g 49 (by decide) (by decide))) (nz_fa (g 50 (by decide) (by decide))) (nz_fa (g 51 (by decide) (by decide))) ((congrArg Int32.toInt (zz_i e69)).trans (rfl : (sy_i F 69).toInt = (sy_i F 69).toInt)))
  replace g1 : 0 < (sy_i F 6).toInt := by omega
  have c4 := nz_bx hB (k := 4) (lo := 0) (hi := 400) rfl
  have c6 := nz_bx hB (k := 6) (lo := 0) (hi := 2) rfl
  have c5 := nz_bx hB (k := 5) (lo := 0) (hi := 7) rfl
  have n71 : ((sy_i F 5) - ((1 : Int32))).toInt = ((sy_i F 5).toInt - 1) := nz_sub (rfl : (sy_i F 5).toInt = (sy_i F 5).toInt) (by decide : ((1 : Int32)).toInt = 1) (by omega) (by omega)
  have c16 := nz_bx hB (k := 16) (lo := 0) (hi := 64) rfl
  have n70 : ((sy_i F 16) - ((1 : Int32))).toInt = ((sy_i F 16).toInt - 1) := nz_sub (rfl : (sy_i F 16).toInt = (sy_i F 16).toInt) (by decide : ((1 : Int32)).toInt = 1) (by omega) (by omega)
  exact ex_118_p2 hd F X1 X2 hB (by first | exact g0 | (simp only [nz_c]; exact g0)) (by first | exact g1 | (simp only [nz_c]; exact g1)) (fun F1 g e5 e16 e69 => k2 g0 g1 F1 (nz_in hB [5, 16] (fun j hj hn => g j hj (by simp only [List.mem_cons, List.not_mem_nil, or_false, not_or] at hn; omega)) (List.forall_mem_cons.mpr ⟨fun t ht => (Option.some.inj ht) ▸ (nz_hi e5 n71 (o4 g0 g1).1 (o4 g0 g1).2), List.forall_mem_cons.mpr ⟨fun t ht => (Option.some.inj ht) ▸ (nz_hi e16 n70 (o5 g0 g1).1 (o5 g0 g1).2), List.forall_mem_nil _⟩⟩)) (fun j hj hn => g j hj (by simp only [List.mem_cons, List.not_mem_nil, or_false, not_or] at hn; omega)) (nz_fi (g 4 (by decide) (by decide))) ((congrArg Int32.toInt (zz_i e5)).trans n71) (nz_fi (g 6 (by decide) (by decide))) (nz_fi (g 7 (by decide) (by decide))) (nz_fi (g 11 (by decide) (by decide))) (nz_fi (g 12 (by decide) (by decide))) (nz_fi (g 14 (by decide) (by decide))) (nz_fi (g 15 (by decide) (by decide))) ((congrArg Int32.toInt (zz_i e16)).trans n70) (nz_fa (g 25 (by decide) (by decide))) (nz_fa (g 26 (by decide) (by decide))) (nz_fa (g 49 (by decide) (by decide))) (nz_fa (g 50 (by decide) (by decide))) (nz_fa (g 51 (by decide) (by decide))) ((congrArg Int32.toInt (zz_i e69)).trans (rfl : (sy_i F 69).toInt = (sy_i F 69).toInt)))
theorem exy_209 {Ls : Nat} {xs : Nat → Int32} {d : Nat} {Q : Option Value → jm_h → Prop} (hd : 4 ≤ d) (F : Nat → sy_d) (X1 X2 : List jm_c) (hB : iv_in F iv_B4)
    (k0 : ∀ F1 : Nat → sy_d, iv_in F1 iv_B4 → (∀ j, j < 69 → j ∉ ([] : List Nat) → F1 j = F j) → (sy_i F1 4).toInt = (sy_i F 4).toInt → (sy_i F1 5).toInt = (sy_i F 5).toInt → (sy_i F1 6).toInt = (sy_i F 6).toInt → (sy_i F1 7).toInt = (sy_i F 7).toInt → (sy_i F1 11).toInt = (sy_i F 11).toInt → (sy_i F1 12).toInt = (sy_i F 12).toInt → (sy_i F1 14).toInt = (sy_i F 14).toInt → (sy_i F1 15).toInt = (sy_i F 15).toInt → (sy_i F1 16).toInt = (sy_i F 16).toInt → sy_ai F1 25 = sy_ai F 25 → sy_ai F1 26 = sy_ai F 26 → sy_ai F1 49 = sy_ai F 49 → sy_ai F1 50 = sy_ai F 50 → sy_ai F1 51 = sy_ai F 51 → Q (none) (sy_dh F1 X1 X2 (iv_H 4))) :
    hd_W Ls xs d jm_M164 Q (209, sy_dL F [some (.inl (.ref 1000)), none, none], sy_dS F [], sy_dh F X1 X2 (iv_H 4), 0, 0) := by
  exact ex_209_p0 hd F X1 X2 hB  (fun F1 g  => k0 F1 (nz_in hB [] (fun j hj hn => g j hj (by simp only [List.mem_cons, List.not_mem_nil, or_false, not_or] at hn; exact trivial)) (List.forall_mem_nil _)) (fun j hj hn => g j hj (by simp only [List.mem_cons, List.not_mem_nil, or_false, not_or] at hn; exact trivial)) (nz_fi (g 4 (by decide) (by decide))) (nz_fi (g 5 (by decide) (by decide))) (nz_fi (g 6 (by decide) (by decide))) (nz_fi (g 7 (by decide) (by decide))) (nz_fi (g 11 (by decide) (by decide))) (nz_fi (g 12 (by decide) (by decide))) (nz_fi (g 14 (by decide) (by decide))) (nz_fi (g 15 (by decide) (by decide))) (nz_fi (g 16 (by decide) (by decide))) (nz_fa (g 25 (by decide) (by decide))) (nz_fa (g 26 (by decide) (by decide))) (nz_fa (g 49 (by decide) (by decide))) (nz_fa (g 50 (by decide) (by decide))) (nz_fa (g 51 (by decide) (by decide))))
theorem exy_237 {Ls : Nat} {xs : Nat → Int32} {d : Nat} {Q : Option Value → jm_h → Prop} (hd : 4 ≤ d) (F : Nat → sy_d) (X1 X2 : List jm_c) (hB : iv_in F iv_B4)
    (o0 : (0 ≤ (sy_i F 16).toInt ∧ (sy_i F 16).toInt < 64))
    (o1 : (sy_i F 4).toInt ≠ 400 → (0 ≤ ((sy_i F 16).toInt + 1) ∧ ((sy_i F 16).toInt + 1) ≤ 64))
    (o2 : (sy_i F 4).toInt = 400 → (sy_i F 6).toInt ≤ 0 → (0 ≤ ((sy_i F 16).toInt + 1) ∧ ((sy_i F 16).toInt + 1) ≤ 64))
    (o3 : (sy_i F 4).toInt = 400 → 0 < (sy_i F 6).toInt → (0 ≤ ((sy_i F 16).toInt + 1) ∧ ((sy_i F 16).toInt + 1) ≤ 64))
    (k0 : (sy_i F 4).toInt ≠ 400 → ∀ F1 : Nat → sy_d, iv_in F1 iv_B4 → (∀ j, j < 69 → j ∉ ([4, 16, 51] : List Nat) → F1 j = F j) → (sy_i F1 4).toInt = ((sy_i F 4).toInt + 1) → (sy_i F1 5).toInt = (sy_i F 5).toInt → (sy_i F1 6).toInt = (sy_i F 6).toInt → (sy_i F1 7).toInt = (sy_i F 7).toInt → (sy_i F1 11).toInt = (sy_i F 11).toInt → (sy_i F1 12).toInt = (sy_i F 12).toInt → (sy_i F1 14).toInt = (sy_i F 14).toInt → (sy_i F1 15).toInt = (sy_i F 15).toInt → (sy_i F1 16).toInt = ((sy_i F 16).toInt + 1) → sy_ai F1 25 = sy_ai F 25 → sy_ai F1 26 = sy_ai F 26 → sy_ai F1 49 = sy_ai F 49 → sy_ai F1 50 = sy_ai F 50 → sy_ai F1 51 = jm_upd (sy_ai F 51) ((sy_i F 16).toInt).toNat ((sy_ai F 25).getD ((sy_i F 4).toInt).toNat 0) → (sy_i F1 69).toInt = (sy_i F 69).toInt → hd_W Ls xs d jm_M164 Q (12, sy_dL F1 [some (.inl (.ref 1000)), some (.inr (.inl 69)), some (.inl (.int 1))], sy_dS F1 [], sy_dh F1 X1 X2 (iv_H 4), 0, 0))
    (k1 : (sy_i F 4).toInt = 400 → (sy_i F 6).toInt ≤ 0 → ∀ F1 : Nat → sy_d, iv_in F1 iv_B4 → (∀ j, j < 69 → j ∉ ([6, 7, 16, 51] : List Nat) → F1 j = F j) → (sy_i F1 4).toInt = (sy_i F 4).toInt → (sy_i F1 5).toInt = (sy_i F 5).toInt → (sy_i F1 6).toInt = 2 → (sy_i F1 7).toInt = ((sy_ai F 26).getD ((sy_i F 4).toInt).toNat 0).toInt → (sy_i F1 11).toInt = (sy_i F 11).toInt → (sy_i F1 12).toInt = (sy_i F 12).toInt → (sy_i F1 14).toInt = (sy_i F 14).toInt → (sy_i F1 15).toInt = (sy_i F 15).toInt → (sy_i F1 16).toInt = ((sy_i F 16).toInt + 1) → sy_ai F1 25 = sy_ai F 25 → sy_ai F1 26 = sy_ai F 26 → sy_ai F1 49 = sy_ai F 49 → sy_ai F1 50 = sy_ai F 50 → sy_ai F1 51 = jm_upd (sy_ai F 51) ((sy_i F 16).toInt).toNat ((sy_ai F 25).getD ((sy_i F 4).toInt).toNat 0) → (sy_i F1 69).toInt = (sy_i F 69).toInt → hd_W Ls xs d jm_M164 Q (12, sy_dL F1 [some (.inl (.ref 1000)), some (.inr (.inl 69)), some (.inl (.int 1))], sy_dS F1 [], sy_dh F1 X1 X2 (iv_H 4), 0, 0))
    (k2 : (sy_i F 4).toInt = 400 → 0 < (sy_i F 6).toInt → ∀ F1 : Nat → sy_d, iv_in F1 iv_B4 → (∀ j, j < 69 → j ∉ ([16, 51] : List Nat) → F1 j = F j) → (sy_i F1 4).toInt = (sy_i F 4).toInt → (sy_i F1 5).toInt = (sy_i F 5).toInt → (sy_i F1 6).toInt = (sy_i F 6).toInt → (sy_i F1 7).toInt = (sy_i F 7).toInt → (sy_i F1 11).toInt = (sy_i F 11).toInt → (sy_i F1 12).toInt = (sy_i F 12).toInt → (sy_i F1 14).toInt = (sy_i F 14).toInt → (sy_i F1 15).toInt = (sy_i F 15).toInt → (sy_i F1 16).toInt = ((sy_i F 16).toInt + 1) → sy_ai F1 25 = sy_ai F 25 → sy_ai F1 26 = sy_ai F 26 → sy_ai F1 49 = sy_ai F 49 → sy_ai F1 50 = sy_ai F 50 → sy_ai F1 51 = jm_upd (sy_ai F 51) ((sy_i F 16).toInt).toNat ((sy_ai F 25).getD ((sy_i F 4).toInt).toNat 0) → (sy_i F1 69).toInt = (sy_i F 69).toInt → hd_W Ls xs d jm_M164 Q (12, sy_dL F1 [some (.inl (.ref 1000)), some (.inr (.inl 69)), some (.inl (.int 1))], sy_dS F1 [], sy_dh F1 X1 X2 (iv_H 4), 0, 0)) :
    hd_W Ls xs d jm_M164 Q (237, sy_dL F [some (.inl (.ref 1000)), some (.inr (.inl 69)), some (.inl (.int 1))], sy_dS F [], sy_dh F X1 X2 (iv_H 4), 0, 0) := by
  by_cases g0 : (sy_i F 4).toInt ≠ 400
  · have c4 := nz_bx hB (k := 4) (lo := 0) (hi := 400) rfl
    have c16 := nz_bx hB (k := 16) (lo := 0) (hi := 64) rfl
    have n74 : ((sy_i F 4) + ((1 : Int32))).toInt = ((sy_i F 4).toInt + 1) := nz_add (rfl : (sy_i F 4).toInt = (sy_i F 4).toInt) (by decide : ((1 : Int32)).toInt = 1) (by omega) (by omega)
    have n73 : ((sy_i F 16) + ((1 : Int32))).toInt = ((sy_i F 16).toInt + 1) := nz_add (rfl : (sy_i F 16).toInt = (sy_i F 16).toInt) (by decide : ((1 : Int32)).toInt = 1) (by omega) (by omega)
    have w72 : jm_upd (sy_ai F 51) (sy_i F 16).toNatClampNeg ((sy_ai F 25).getD (sy_i F 4).toNatClampNeg 0) = jm_upd (sy_ai F 51) ((sy_i F 16).toInt).toNat ((sy_ai F 25).getD ((sy_i F 4).toInt).toNat 0) := by simp only [nz_c]
    exact ex_237_p0 hd F X1 X2 hB (by first | exact ⟨by omega, by omega⟩ | (simp only [nz_c]; exact ⟨by omega, by omega⟩)) (by first | exact (o0) | (simp only [nz_c]; exact (o0))) (by first | exact g0 | (simp only [nz_c]; exact g0)) (fun F1 g e4 e16 e51 e69 => k0 g0 F1 (nz_in hB [4, 16, 51] (fun j hj hn => g j hj (by simp only [List.mem_cons, List.not_mem_nil, or_false, not_or] at hn; omega)) (List.forall_mem_cons.mpr ⟨fun t ht => (Option.some.inj ht) ▸ (nz_hi e4 n74 (by omega) (by omega)), List.forall_mem_cons.mpr ⟨fun t ht => (Option.some.inj ht) ▸ (nz_hi e16 n73 (o1 g0).1 (o1 g0).2), List.forall_mem_cons.mpr ⟨fun t ht => (Option.some.inj ht) ▸ (nz_hz2 e51), List.forall_mem_nil _⟩⟩⟩)) (fun j hj hn => g j hj (by simp only [List.mem_cons, List.not_mem_nil, or_false, not_or] at hn; omega)) ((congrArg Int32.toInt (zz_i e4)).trans n74) (nz_fi (g 5 (by decide) (by decide))) (nz_fi (g 6 (by decide) (by decide))) (nz_fi (g 7 (by decide) (by decide))) (nz_fi (g 11 (by decide) (by decide))) (nz_fi (g 12 (by decide) (by decide))) (nz_fi (g 14 (by decide) (by decide))) (nz_fi (g 15 (by decide) (by decide))) ((congrArg Int32.toInt (zz_i e16)).trans n73) (nz_fa (g 25 (by decide) (by decide))) (nz_fa (g 26 (by decide) (by decide))) (nz_fa (g 49 (by decide) (by decide))) (nz_fa (g 50 (by decide) (by decide))) ((zz_ai e51).trans w72) ((congrArg Int32.toInt (zz_i e69)).trans (rfl : (sy_i F 69).toInt = (sy_i F 69).toInt)))
  replace g0 : (sy_i F 4).toInt = 400 := by omega
  by_cases g1 : (sy_i F 6).toInt ≤ 0
  · have c4 := nz_bx hB (k := 4) (lo := 0) (hi := 400) rfl
    have c16 := nz_bx hB (k := 16) (lo := 0) (hi := 64) rfl
    have c6 := nz_bx hB (k := 6) (lo := 0) (hi := 2) rfl
    have q74 : (sy_ai F 26).getD (sy_i F 4).toNatClampNeg 0 = (sy_ai F 26).getD ((sy_i F 4).toInt).toNat 0 := by simp only [nz_c]
    have n74 : ((sy_ai F 26).getD (sy_i F 4).toNatClampNeg 0).toInt = ((sy_ai F 26).getD ((sy_i F 4).toInt).toNat 0).toInt := congrArg Int32.toInt q74
    have n73 : ((sy_i F 16) + ((1 : Int32))).toInt = ((sy_i F 16).toInt + 1) := nz_add (rfl : (sy_i F 16).toInt = (sy_i F 16).toInt) (by decide : ((1 : Int32)).toInt = 1) (by omega) (by omega)
    have w72 : jm_upd (sy_ai F 51) (sy_i F 16).toNatClampNeg ((sy_ai F 25).getD (sy_i F 4).toNatClampNeg 0) = jm_upd (sy_ai F 51) ((sy_i F 16).toInt).toNat ((sy_ai F 25).getD ((sy_i F 4).toInt).toNat 0) := by simp only [nz_c]
    exact ex_237_p1 hd F X1 X2 hB (by first | exact ⟨by omega, by omega⟩ | (simp only [nz_c]; exact ⟨by omega, by omega⟩)) (by first | exact (o0) | (simp only [nz_c]; exact (o0))) (by first | exact g0 | (simp only [nz_c]; exact g0)) (by first | exact g1 | (simp only [nz_c]; exact g1)) (by first | exact ⟨by omega, by omega⟩ | (simp only [nz_c]; exact ⟨by omega, by omega⟩)) (fun F1 g e6 e7 e16 e51 e69 => k1 g0 g1 F1 (nz_in hB [6, 7, 16, 51] (fun j hj hn => g j hj (by simp only [List.mem_cons, List.not_mem_nil, or_false, not_or] at hn; omega)) (List.forall_mem_cons.mpr ⟨fun t ht => (Option.some.inj ht) ▸ (nz_hi e6 (by decide : ((2 : Int32)).toInt = 2) (by omega) (by omega)), List.forall_mem_cons.mpr ⟨fun t ht => (Option.some.inj ht) ▸ (nz_hz e7), List.forall_mem_cons.mpr ⟨fun t ht => (Option.some.inj ht) ▸ (nz_hi e16 n73 (o2 g0 g1).1 (o2 g0 g1).2), List.forall_mem_cons.mpr ⟨fun t ht => (Option.some.inj ht) ▸ (nz_hz2 e51), List.forall_mem_nil _⟩⟩⟩⟩)) (fun j hj hn => g j hj (by simp only [List.mem_cons, List.not_mem_nil, or_false, not_or] at hn; omega)) (nz_fi (g 4 (by decide) (by decide))) (nz_fi (g 5 (by decide) (by decide))) ((congrArg Int32.toInt (zz_i e6)).trans (by decide : ((2 : Int32)).toInt = 2)) ((congrArg Int32.toInt (zz_i e7)).trans n74) (nz_fi (g 11 (by decide) (by decide))) (nz_fi (g 12 (by decide) (by decide))) (nz_fi (g 14 (by decide) (by decide))) (nz_fi (g 15 (by decide) (by decide))) ((congrArg Int32.toInt (zz_i e16)).trans n73) (nz_fa (g 25 (by decide) (by decide))) (nz_fa (g 26 (by decide) (by decide))) (nz_fa (g 49 (by decide) (by decide))) (nz_fa (g 50 (by decide) (by decide))) ((zz_ai e51).trans w72) ((congrArg Int32.toInt (zz_i e69)).trans (rfl : (sy_i F 69).toInt = (sy_i F 69).toInt)))
  replace g1 : 0 < (sy_i F 6).toInt := by omega
  have c4 := nz_bx hB (k := 4) (lo := 0) (hi := 400) rfl
  have c16 := nz_bx hB (k := 16) (lo := 0) (hi := 64) rfl
  have c6 := nz_bx hB (k := 6) (lo := 0) (hi := 2) rfl
  have n73 : ((sy_i F 16) + ((1 : Int32))).toInt = ((sy_i F 16).toInt + 1) := nz_add (rfl : (sy_i F 16).toInt = (sy_i F 16).toInt) (by decide : ((1 : Int32)).toInt = 1) (by omega) (by omega)
  have w72 : jm_upd (sy_ai F 51) (sy_i F 16).toNatClampNeg ((sy_ai F 25).getD (sy_i F 4).toNatClampNeg 0) = jm_upd (sy_ai F 51) ((sy_i F 16).toInt).toNat ((sy_ai F 25).getD ((sy_i F 4).toInt).toNat 0) := by simp only [nz_c]
  exact ex_237_p2 hd F X1 X2 hB (by first | exact ⟨by omega, by omega⟩ | (simp only [nz_c]; exact ⟨by omega, by omega⟩)) (by first | exact (o0) | (simp only [nz_c]; exact (o0))) (by first | exact g0 | (simp only [nz_c]; exact g0)) (by first | exact g1 | (simp only [nz_c]; exact g1)) (fun F1 g e16 e51 e69 => k2 g0 g1 F1 (nz_in hB [16, 51] (fun j hj hn => g j hj (by simp only [List.mem_cons, List.not_mem_nil, or_false, not_or] at hn; omega)) (List.forall_mem_cons.mpr ⟨fun t ht => (Option.some.inj ht) ▸ (nz_hi e16 n73 (o3 g0 g1).1 (o3 g0 g1).2), List.forall_mem_cons.mpr ⟨fun t ht => (Option.some.inj ht) ▸ (nz_hz2 e51), List.forall_mem_nil _⟩⟩)) (fun j hj hn => g j hj (by simp only [List.mem_cons, List.not_mem_nil, or_false, not_or] at hn; omega)) (nz_fi (g 4 (by decide) (by decide))) (nz_fi (g 5 (by decide) (by decide))) (nz_fi (g 6 (by decide) (by decide))) (nz_fi (g 7 (by decide) (by decide))) (nz_fi (g 11 (by decide) (by decide))) (nz_fi (g 12 (by decide) (by decide))) (nz_fi (g 14 (by decide) (by decide))) (nz_fi (g 15 (by decide) (by decide))) ((congrArg Int32.toInt (zz_i e16)).trans n73) (nz_fa (g 25 (by decide) (by decide))) (nz_fa (g 26 (by decide) (by decide))) (nz_fa (g 49 (by decide) (by decide))) (nz_fa (g 50 (by decide) (by decide))) ((zz_ai e51).trans w72) ((congrArg Int32.toInt (zz_i e69)).trans (rfl : (sy_i F 69).toInt = (sy_i F 69).toInt)))
end
section
/-! ===== an expression is read, and where it goes wrong ===== -/
noncomputable def kf (F : Nat → sy_d) (n : Nat) : Int := ((sy_ai F 25).getD n 0).toInt
noncomputable def pf (F : Nat → sy_d) (n : Nat) : Int := ((sy_ai F 26).getD n 0).toInt
noncomputable def tn (F : Nat → sy_d) : Nat := (sy_i F 4).toInt.toNat
/-- a fault is the one that the token's machine r tells; one that was there stays -/
noncomputable def fx {A : Type} (r : sE ⊕ A) (F0 F : Nat → sy_d) : Prop := ((sy_i F0 6).toInt = 0 → (sy_i F 6).toInt ≠ 0 → ∃ tok, r = .inl ((sy_i F 6).toInt, tok) ∧ (sy_i F 7).toInt = pf F0 tok) ∧ ((sy_i F0 6).toInt ≠ 0 → (sy_i F 6).toInt = (sy_i F0 6).toInt ∧ (sy_i F 7).toInt = (sy_i F0 7).toInt)
theorem fx_ok {A : Type} {r : sE ⊕ A} {F0 F : Nat → sy_d} (h0 : (sy_i F0 6).toInt = 0) (h : (sy_i F 6).toInt = 0) : fx r F0 F := ⟨fun _ q => absurd h q, fun q => absurd h0 q⟩
theorem fx_mk {A : Type} {r : sE ⊕ A} {F0 F : Nat → sy_d} {f : Int} {tok : Nat} (h0 : (sy_i F0 6).toInt = 0) (hr : r = .inl (f, tok)) (h6 : (sy_i F 6).toInt = f) (h7 : (sy_i F 7).toInt = pf F0 tok) : fx r F0 F := ⟨fun _ _ => ⟨tok, by rw [h6]; exact hr, h7⟩, fun q => absurd h0 q⟩
theorem fx_same {A : Type} {r : sE ⊕ A} {F0 F F1 : Nat → sy_d} (h : fx r F0 F) (h6 : (sy_i F1 6).toInt = (sy_i F 6).toInt) (h7 : (sy_i F1 7).toInt = (sy_i F 7).toInt) : fx r F0 F1 := ⟨fun a b => by rw [h6, h7]; exact h.1 a (by rw [← h6]; exact b), fun a => by rw [h6, h7]; exact h.2 a⟩
noncomputable def er (F0 : Nat → sy_d) : sE ⊕ Nat := eX (kf F0) (tn F0) 0 0
noncomputable def yc (F0 F : Nat → sy_d) : Prop := xc F0 F ∧ fx (er F0) F0 F
noncomputable def yi (k : Nat) (F0 F : Nat → sy_d) : Prop := xi k F0 F ∧ er F0 = eX (kf F0) (tn F) (sy_i F 5).toInt.toNat k
noncomputable def yr (F0 F' : Nat → sy_d) : Prop := xr F0 F' ∧ fx (er F0) F0 F' ∧ ((sy_i F' 6).toInt = 0 → er F0 = .inr (tn F'))
noncomputable def ey_Q (F0 : Nat → sy_d) (X1 X2 : List jm_c) (v : Option Value) (G : jm_h) : Prop := ∃ F' : Nat → sy_d, v = none ∧ G = sy_dh F' X1 X2 (iv_H 4) ∧ yr F0 F'
theorem tn_eq {F F1 : Nat → sy_d} (h : (sy_i F1 4).toInt = (sy_i F 4).toInt) : tn F1 = tn F := by unfold tn; rw [h]
theorem tn_s {F F1 : Nat → sy_d} (h0 : 0 ≤ (sy_i F 4).toInt) (h : (sy_i F1 4).toInt = (sy_i F 4).toInt + 1) : tn F1 = tn F + 1 := by unfold tn; omega
section EY
variable {Ls : Nat} {xs : Nat → Int32} (X1 X2 : List jm_c) (F0 : Nat → sy_d)
noncomputable def y96 (Ls : Nat) (xs : Nat → Int32) (n : Nat) : Prop := ∀ F : Nat → sy_d, yc F0 F → yi 1 F0 F → (sy_i F 69).toInt = 0 → 400 - (sy_i F 4).toInt < n →
    hd_W Ls xs 4 jm_M164 (ey_Q F0 X1 X2) (96, sy_dL F [some (.inl (.ref 1000)), some (.inr (.inl 69)), some (.inl (.int 1))], sy_dS F [], sy_dh F X1 X2 (iv_H 4), 0, 0)
noncomputable def y23 (Ls : Nat) (xs : Nat → Int32) (n : Nat) : Prop := ∀ F : Nat → sy_d, yc F0 F → yi 0 F0 F → (sy_i F 69).toInt = 0 → 400 - (sy_i F 4).toInt < n →
    hd_W Ls xs 4 jm_M164 (ey_Q F0 X1 X2) (23, sy_dL F [some (.inl (.ref 1000)), some (.inr (.inl 69)), some (.inl (.int 1))], sy_dS F [], sy_dh F X1 X2 (iv_H 4), 0, 0)
noncomputable def y12 (Ls : Nat) (xs : Nat → Int32) (n : Nat) : Prop := ∀ F : Nat → sy_d, yc F0 F → yi 0 F0 F → (sy_i F 69).toInt = 0 → 400 - (sy_i F 4).toInt < n →
    hd_W Ls xs 4 jm_M164 (ey_Q F0 X1 X2) (12, sy_dL F [some (.inl (.ref 1000)), some (.inr (.inl 69)), some (.inl (.int 1))], sy_dS F [], sy_dh F X1 X2 (iv_H 4), 0, 0)
end EY
end
section
/-! ===== small methods once more, with the faults' places ===== -/
theorem nz_fl {F F1 : Nat → sy_d} {k : Nat} (h : F1 k = F k) : sy_al F1 k = sy_al F k := by simp only [sy_al, h]
theorem boy_0 {Ls : Nat} {xs : Nat → Int32} {d : Nat} {Q : Option Value → jm_h → Prop} (hd : 3 ≤ d) (F : Nat → sy_d) (X1 X2 : List jm_c) (hB : iv_in F iv_B4)
    (k0 : 0 < (sy_i F 6).toInt → 0 < (sy_i F 6).toInt → ∀ F1 : Nat → sy_d, iv_in F1 iv_B4 → (∀ j, j < 69 → j ∉ ([] : List Nat) → F1 j = F j) → (sy_i F1 4).toInt = (sy_i F 4).toInt → (sy_i F1 6).toInt = (sy_i F 6).toInt → (sy_i F1 7).toInt = (sy_i F 7).toInt → (sy_i F1 8).toInt = (sy_i F 8).toInt → (sy_i F1 9).toInt = (sy_i F 9).toInt → (sy_i F1 13).toInt = (sy_i F 13).toInt → sy_ai F1 25 = sy_ai F 25 → sy_ai F1 26 = sy_ai F 26 → sy_ai F1 27 = sy_ai F 27 → Q (some (.int (sy_i F 69))) (sy_dh F1 X1 X2 (iv_H 4)))
    (k1 : (sy_i F 6).toInt ≤ 0 → (sy_i F 6).toInt = 0 → ((sy_ai F 25).getD ((sy_i F 4).toInt).toNat 0).toInt ≠ 2 → (sy_i F 6).toInt ≤ 0 → ∀ F1 : Nat → sy_d, iv_in F1 iv_B4 → (∀ j, j < 69 → j ∉ ([6, 7] : List Nat) → F1 j = F j) → (sy_i F1 4).toInt = (sy_i F 4).toInt → (sy_i F1 6).toInt = 1 → (sy_i F1 7).toInt = ((sy_ai F 26).getD ((sy_i F 4).toInt).toNat 0).toInt → (sy_i F1 8).toInt = (sy_i F 8).toInt → (sy_i F1 9).toInt = (sy_i F 9).toInt → (sy_i F1 13).toInt = (sy_i F 13).toInt → sy_ai F1 25 = sy_ai F 25 → sy_ai F1 26 = sy_ai F 26 → sy_ai F1 27 = sy_ai F 27 → Q (some (.int (sy_i F 69))) (sy_dh F1 X1 X2 (iv_H 4)))
    (k2 : (sy_i F 6).toInt ≤ 0 → (sy_i F 6).toInt = 0 → ((sy_ai F 25).getD ((sy_i F 4).toInt).toNat 0).toInt = 2 → ((sy_ai F 27).getD ((sy_i F 4).toInt).toNat 0).toInt < (sy_i F 69).toInt → (sy_i F 6).toInt ≤ 0 → (sy_i F 8).toInt = 0 → (sy_i F 4).toInt ≠ 400 → ∀ F1 : Nat → sy_d, iv_in F1 iv_B4 → (∀ j, j < 69 → j ∉ ([4, 8, 9] : List Nat) → F1 j = F j) → (sy_i F1 4).toInt = ((sy_i F 4).toInt + 1) → (sy_i F1 6).toInt = (sy_i F 6).toInt → (sy_i F1 7).toInt = (sy_i F 7).toInt → (sy_i F1 8).toInt = 5 → (sy_i F1 9).toInt = ((sy_ai F 26).getD ((sy_i F 4).toInt).toNat 0).toInt → (sy_i F1 13).toInt = (sy_i F 13).toInt → sy_ai F1 25 = sy_ai F 25 → sy_ai F1 26 = sy_ai F 26 → sy_ai F1 27 = sy_ai F 27 → Q (some (.int ((sy_ai F 27).getD ((sy_i F 4).toInt).toNat 0))) (sy_dh F1 X1 X2 (iv_H 4)))
    (k3 : (sy_i F 6).toInt ≤ 0 → (sy_i F 6).toInt = 0 → ((sy_ai F 25).getD ((sy_i F 4).toInt).toNat 0).toInt = 2 → ((sy_ai F 27).getD ((sy_i F 4).toInt).toNat 0).toInt < (sy_i F 69).toInt → (sy_i F 6).toInt ≤ 0 → (sy_i F 8).toInt = 0 → (sy_i F 4).toInt = 400 → (sy_i F 6).toInt ≤ 0 → ∀ F1 : Nat → sy_d, iv_in F1 iv_B4 → (∀ j, j < 69 → j ∉ ([6, 7, 8, 9] : List Nat) → F1 j = F j) → (sy_i F1 4).toInt = (sy_i F 4).toInt → (sy_i F1 6).toInt = 2 → (sy_i F1 7).toInt = ((sy_ai F 26).getD ((sy_i F 4).toInt).toNat 0).toInt → (sy_i F1 8).toInt = 5 → (sy_i F1 9).toInt = ((sy_ai F 26).getD ((sy_i F 4).toInt).toNat 0).toInt → (sy_i F1 13).toInt = (sy_i F 13).toInt → sy_ai F1 25 = sy_ai F 25 → sy_ai F1 26 = sy_ai F 26 → sy_ai F1 27 = sy_ai F 27 → Q (some (.int ((sy_ai F 27).getD ((sy_i F 4).toInt).toNat 0))) (sy_dh F1 X1 X2 (iv_H 4)))
    (k4 : (sy_i F 6).toInt ≤ 0 → (sy_i F 6).toInt = 0 → ((sy_ai F 25).getD ((sy_i F 4).toInt).toNat 0).toInt = 2 → ((sy_ai F 27).getD ((sy_i F 4).toInt).toNat 0).toInt < (sy_i F 69).toInt → (sy_i F 6).toInt ≤ 0 → (sy_i F 8).toInt ≠ 0 → (sy_i F 9).toInt < ((sy_ai F 26).getD ((sy_i F 4).toInt).toNat 0).toInt → (sy_i F 4).toInt ≠ 400 → ∀ F1 : Nat → sy_d, iv_in F1 iv_B4 → (∀ j, j < 69 → j ∉ ([4] : List Nat) → F1 j = F j) → (sy_i F1 4).toInt = ((sy_i F 4).toInt + 1) → (sy_i F1 6).toInt = (sy_i F 6).toInt → (sy_i F1 7).toInt = (sy_i F 7).toInt → (sy_i F1 8).toInt = (sy_i F 8).toInt → (sy_i F1 9).toInt = (sy_i F 9).toInt → (sy_i F1 13).toInt = (sy_i F 13).toInt → sy_ai F1 25 = sy_ai F 25 → sy_ai F1 26 = sy_ai F 26 → sy_ai F1 27 = sy_ai F 27 → Q (some (.int ((sy_ai F 27).getD ((sy_i F 4).toInt).toNat 0))) (sy_dh F1 X1 X2 (iv_H 4)))
    (k5 : (sy_i F 6).toInt ≤ 0 → (sy_i F 6).toInt = 0 → ((sy_ai F 25).getD ((sy_i F 4).toInt).toNat 0).toInt = 2 → ((sy_ai F 27).getD ((sy_i F 4).toInt).toNat 0).toInt < (sy_i F 69).toInt → (sy_i F 6).toInt ≤ 0 → (sy_i F 8).toInt ≠ 0 → (sy_i F 9).toInt < ((sy_ai F 26).getD ((sy_i F 4).toInt).toNat 0).toInt → (sy_i F 4).toInt = 400 → (sy_i F 6).toInt ≤ 0 → ∀ F1 : Nat → sy_d, iv_in F1 iv_B4 → (∀ j, j < 69 → j ∉ ([6, 7] : List Nat) → F1 j = F j) → (sy_i F1 4).toInt = (sy_i F 4).toInt → (sy_i F1 6).toInt = 2 → (sy_i F1 7).toInt = ((sy_ai F 26).getD ((sy_i F 4).toInt).toNat 0).toInt → (sy_i F1 8).toInt = (sy_i F 8).toInt → (sy_i F1 9).toInt = (sy_i F 9).toInt → (sy_i F1 13).toInt = (sy_i F 13).toInt → sy_ai F1 25 = sy_ai F 25 → sy_ai F1 26 = sy_ai F 26 → sy_ai F1 27 = sy_ai F 27 → Q (some (.int ((sy_ai F 27).getD ((sy_i F 4).toInt).toNat 0))) (sy_dh F1 X1 X2 (iv_H 4)))
    (k6 : (sy_i F 6).toInt ≤ 0 → (sy_i F 6).toInt = 0 → ((sy_ai F 25).getD ((sy_i F 4).toInt).toNat 0).toInt = 2 → ((sy_ai F 27).getD ((sy_i F 4).toInt).toNat 0).toInt < (sy_i F 69).toInt → (sy_i F 6).toInt ≤ 0 → (sy_i F 8).toInt ≠ 0 → ((sy_ai F 26).getD ((sy_i F 4).toInt).toNat 0).toInt ≤ (sy_i F 9).toInt → ((sy_ai F 26).getD ((sy_i F 4).toInt).toNat 0).toInt ≠ (sy_i F 9).toInt → (sy_i F 4).toInt ≠ 400 → ∀ F1 : Nat → sy_d, iv_in F1 iv_B4 → (∀ j, j < 69 → j ∉ ([4, 8, 9] : List Nat) → F1 j = F j) → (sy_i F1 4).toInt = ((sy_i F 4).toInt + 1) → (sy_i F1 6).toInt = (sy_i F 6).toInt → (sy_i F1 7).toInt = (sy_i F 7).toInt → (sy_i F1 8).toInt = 5 → (sy_i F1 9).toInt = ((sy_ai F 26).getD ((sy_i F 4).toInt).toNat 0).toInt → (sy_i F1 13).toInt = (sy_i F 13).toInt → sy_ai F1 25 = sy_ai F 25 → sy_ai F1 26 = sy_ai F 26 → sy_ai F1 27 = sy_ai F 27 → Q (some (.int ((sy_ai F 27).getD ((sy_i F 4).toInt).toNat 0))) (sy_dh F1 X1 X2 (iv_H 4)))
    (k7 : (sy_i F 6).toInt ≤ 0 → (sy_i F 6).toInt = 0 → ((sy_ai F 25).getD ((sy_i F 4).toInt).toNat 0).toInt = 2 → ((sy_ai F 27).getD ((sy_i F 4).toInt).toNat 0).toInt < (sy_i F 69).toInt → (sy_i F 6).toInt ≤ 0 → (sy_i F 8).toInt ≠ 0 → ((sy_ai F 26).getD ((sy_i F 4).toInt).toNat 0).toInt ≤ (sy_i F 9).toInt → ((sy_ai F 26).getD ((sy_i F 4).toInt).toNat 0).toInt ≠ (sy_i F 9).toInt → (sy_i F 4).toInt = 400 → (sy_i F 6).toInt ≤ 0 → ∀ F1 : Nat → sy_d, iv_in F1 iv_B4 → (∀ j, j < 69 → j ∉ ([6, 7, 8, 9] : List Nat) → F1 j = F j) → (sy_i F1 4).toInt = (sy_i F 4).toInt → (sy_i F1 6).toInt = 2 → (sy_i F1 7).toInt = ((sy_ai F 26).getD ((sy_i F 4).toInt).toNat 0).toInt → (sy_i F1 8).toInt = 5 → (sy_i F1 9).toInt = ((sy_ai F 26).getD ((sy_i F 4).toInt).toNat 0).toInt → (sy_i F1 13).toInt = (sy_i F 13).toInt → sy_ai F1 25 = sy_ai F 25 → sy_ai F1 26 = sy_ai F 26 → sy_ai F1 27 = sy_ai F 27 → Q (some (.int ((sy_ai F 27).getD ((sy_i F 4).toInt).toNat 0))) (sy_dh F1 X1 X2 (iv_H 4)))
    (k8 : (sy_i F 6).toInt ≤ 0 → (sy_i F 6).toInt = 0 → ((sy_ai F 25).getD ((sy_i F 4).toInt).toNat 0).toInt = 2 → ((sy_ai F 27).getD ((sy_i F 4).toInt).toNat 0).toInt < (sy_i F 69).toInt → (sy_i F 6).toInt ≤ 0 → (sy_i F 8).toInt ≠ 0 → ((sy_ai F 26).getD ((sy_i F 4).toInt).toNat 0).toInt ≤ (sy_i F 9).toInt → ((sy_ai F 26).getD ((sy_i F 4).toInt).toNat 0).toInt = (sy_i F 9).toInt → 5 < (sy_i F 8).toInt → (sy_i F 4).toInt ≠ 400 → ∀ F1 : Nat → sy_d, iv_in F1 iv_B4 → (∀ j, j < 69 → j ∉ ([4, 8, 9] : List Nat) → F1 j = F j) → (sy_i F1 4).toInt = ((sy_i F 4).toInt + 1) → (sy_i F1 6).toInt = (sy_i F 6).toInt → (sy_i F1 7).toInt = (sy_i F 7).toInt → (sy_i F1 8).toInt = 5 → (sy_i F1 9).toInt = ((sy_ai F 26).getD ((sy_i F 4).toInt).toNat 0).toInt → (sy_i F1 13).toInt = (sy_i F 13).toInt → sy_ai F1 25 = sy_ai F 25 → sy_ai F1 26 = sy_ai F 26 → sy_ai F1 27 = sy_ai F 27 → Q (some (.int ((sy_ai F 27).getD ((sy_i F 4).toInt).toNat 0))) (sy_dh F1 X1 X2 (iv_H 4)))
    (k9 : (sy_i F 6).toInt ≤ 0 → (sy_i F 6).toInt = 0 → ((sy_ai F 25).getD ((sy_i F 4).toInt).toNat 0).toInt = 2 → ((sy_ai F 27).getD ((sy_i F 4).toInt).toNat 0).toInt < (sy_i F 69).toInt → (sy_i F 6).toInt ≤ 0 → (sy_i F 8).toInt ≠ 0 → ((sy_ai F 26).getD ((sy_i F 4).toInt).toNat 0).toInt ≤ (sy_i F 9).toInt → ((sy_ai F 26).getD ((sy_i F 4).toInt).toNat 0).toInt = (sy_i F 9).toInt → 5 < (sy_i F 8).toInt → (sy_i F 4).toInt = 400 → (sy_i F 6).toInt ≤ 0 → ∀ F1 : Nat → sy_d, iv_in F1 iv_B4 → (∀ j, j < 69 → j ∉ ([6, 7, 8, 9] : List Nat) → F1 j = F j) → (sy_i F1 4).toInt = (sy_i F 4).toInt → (sy_i F1 6).toInt = 2 → (sy_i F1 7).toInt = ((sy_ai F 26).getD ((sy_i F 4).toInt).toNat 0).toInt → (sy_i F1 8).toInt = 5 → (sy_i F1 9).toInt = ((sy_ai F 26).getD ((sy_i F 4).toInt).toNat 0).toInt → (sy_i F1 13).toInt = (sy_i F 13).toInt → sy_ai F1 25 = sy_ai F 25 → sy_ai F1 26 = sy_ai F 26 → sy_ai F1 27 = sy_ai F 27 → Q (some (.int ((sy_ai F 27).getD ((sy_i F 4).toInt).toNat 0))) (sy_dh F1 X1 X2 (iv_H 4)))
    (k10 : (sy_i F 6).toInt ≤ 0 → (sy_i F 6).toInt = 0 → ((sy_ai F 25).getD ((sy_i F 4).toInt).toNat 0).toInt = 2 → ((sy_ai F 27).getD ((sy_i F 4).toInt).toNat 0).toInt < (sy_i F 69).toInt → (sy_i F 6).toInt ≤ 0 → (sy_i F 8).toInt ≠ 0 → ((sy_ai F 26).getD ((sy_i F 4).toInt).toNat 0).toInt ≤ (sy_i F 9).toInt → ((sy_ai F 26).getD ((sy_i F 4).toInt).toNat 0).toInt = (sy_i F 9).toInt → (sy_i F 8).toInt ≤ 5 → (sy_i F 4).toInt ≠ 400 → ∀ F1 : Nat → sy_d, iv_in F1 iv_B4 → (∀ j, j < 69 → j ∉ ([4] : List Nat) → F1 j = F j) → (sy_i F1 4).toInt = ((sy_i F 4).toInt + 1) → (sy_i F1 6).toInt = (sy_i F 6).toInt → (sy_i F1 7).toInt = (sy_i F 7).toInt → (sy_i F1 8).toInt = (sy_i F 8).toInt → (sy_i F1 9).toInt = (sy_i F 9).toInt → (sy_i F1 13).toInt = (sy_i F 13).toInt → sy_ai F1 25 = sy_ai F 25 → sy_ai F1 26 = sy_ai F 26 → sy_ai F1 27 = sy_ai F 27 → Q (some (.int ((sy_ai F 27).getD ((sy_i F 4).toInt).toNat 0))) (sy_dh F1 X1 X2 (iv_H 4)))
    (k11 : (sy_i F 6).toInt ≤ 0 → (sy_i F 6).toInt = 0 → ((sy_ai F 25).getD ((sy_i F 4).toInt).toNat 0).toInt = 2 → ((sy_ai F 27).getD ((sy_i F 4).toInt).toNat 0).toInt < (sy_i F 69).toInt → (sy_i F 6).toInt ≤ 0 → (sy_i F 8).toInt ≠ 0 → ((sy_ai F 26).getD ((sy_i F 4).toInt).toNat 0).toInt ≤ (sy_i F 9).toInt → ((sy_ai F 26).getD ((sy_i F 4).toInt).toNat 0).toInt = (sy_i F 9).toInt → (sy_i F 8).toInt ≤ 5 → (sy_i F 4).toInt = 400 → (sy_i F 6).toInt ≤ 0 → ∀ F1 : Nat → sy_d, iv_in F1 iv_B4 → (∀ j, j < 69 → j ∉ ([6, 7] : List Nat) → F1 j = F j) → (sy_i F1 4).toInt = (sy_i F 4).toInt → (sy_i F1 6).toInt = 2 → (sy_i F1 7).toInt = ((sy_ai F 26).getD ((sy_i F 4).toInt).toNat 0).toInt → (sy_i F1 8).toInt = (sy_i F 8).toInt → (sy_i F1 9).toInt = (sy_i F 9).toInt → (sy_i F1 13).toInt = (sy_i F 13).toInt → sy_ai F1 25 = sy_ai F 25 → sy_ai F1 26 = sy_ai F 26 → sy_ai F1 27 = sy_ai F 27 → Q (some (.int ((sy_ai F 27).getD ((sy_i F 4).toInt).toNat 0))) (sy_dh F1 X1 X2 (iv_H 4)))
    (k12 : (sy_i F 6).toInt ≤ 0 → (sy_i F 6).toInt = 0 → ((sy_ai F 25).getD ((sy_i F 4).toInt).toNat 0).toInt = 2 → (sy_i F 69).toInt ≤ ((sy_ai F 27).getD ((sy_i F 4).toInt).toNat 0).toInt → ((sy_ai F 27).getD ((sy_i F 4).toInt).toNat 0).toInt ≤ (sy_i F 70).toInt → (sy_i F 4).toInt ≠ 400 → ∀ F1 : Nat → sy_d, iv_in F1 iv_B4 → (∀ j, j < 69 → j ∉ ([4] : List Nat) → F1 j = F j) → (sy_i F1 4).toInt = ((sy_i F 4).toInt + 1) → (sy_i F1 6).toInt = (sy_i F 6).toInt → (sy_i F1 7).toInt = (sy_i F 7).toInt → (sy_i F1 8).toInt = (sy_i F 8).toInt → (sy_i F1 9).toInt = (sy_i F 9).toInt → (sy_i F1 13).toInt = (sy_i F 13).toInt → sy_ai F1 25 = sy_ai F 25 → sy_ai F1 26 = sy_ai F 26 → sy_ai F1 27 = sy_ai F 27 → Q (some (.int ((sy_ai F 27).getD ((sy_i F 4).toInt).toNat 0))) (sy_dh F1 X1 X2 (iv_H 4)))
    (k13 : (sy_i F 6).toInt ≤ 0 → (sy_i F 6).toInt = 0 → ((sy_ai F 25).getD ((sy_i F 4).toInt).toNat 0).toInt = 2 → (sy_i F 69).toInt ≤ ((sy_ai F 27).getD ((sy_i F 4).toInt).toNat 0).toInt → ((sy_ai F 27).getD ((sy_i F 4).toInt).toNat 0).toInt ≤ (sy_i F 70).toInt → (sy_i F 4).toInt = 400 → (sy_i F 6).toInt ≤ 0 → ∀ F1 : Nat → sy_d, iv_in F1 iv_B4 → (∀ j, j < 69 → j ∉ ([6, 7] : List Nat) → F1 j = F j) → (sy_i F1 4).toInt = (sy_i F 4).toInt → (sy_i F1 6).toInt = 2 → (sy_i F1 7).toInt = ((sy_ai F 26).getD ((sy_i F 4).toInt).toNat 0).toInt → (sy_i F1 8).toInt = (sy_i F 8).toInt → (sy_i F1 9).toInt = (sy_i F 9).toInt → (sy_i F1 13).toInt = (sy_i F 13).toInt → sy_ai F1 25 = sy_ai F 25 → sy_ai F1 26 = sy_ai F 26 → sy_ai F1 27 = sy_ai F 27 → Q (some (.int ((sy_ai F 27).getD ((sy_i F 4).toInt).toNat 0))) (sy_dh F1 X1 X2 (iv_H 4)))
    (k14 : (sy_i F 6).toInt ≤ 0 → (sy_i F 6).toInt = 0 → ((sy_ai F 25).getD ((sy_i F 4).toInt).toNat 0).toInt = 2 → (sy_i F 69).toInt ≤ ((sy_ai F 27).getD ((sy_i F 4).toInt).toNat 0).toInt → (sy_i F 70).toInt < ((sy_ai F 27).getD ((sy_i F 4).toInt).toNat 0).toInt → (sy_i F 6).toInt ≤ 0 → (sy_i F 8).toInt = 0 → (sy_i F 4).toInt ≠ 400 → ∀ F1 : Nat → sy_d, iv_in F1 iv_B4 → (∀ j, j < 69 → j ∉ ([4, 8, 9] : List Nat) → F1 j = F j) → (sy_i F1 4).toInt = ((sy_i F 4).toInt + 1) → (sy_i F1 6).toInt = (sy_i F 6).toInt → (sy_i F1 7).toInt = (sy_i F 7).toInt → (sy_i F1 8).toInt = 5 → (sy_i F1 9).toInt = ((sy_ai F 26).getD ((sy_i F 4).toInt).toNat 0).toInt → (sy_i F1 13).toInt = (sy_i F 13).toInt → sy_ai F1 25 = sy_ai F 25 → sy_ai F1 26 = sy_ai F 26 → sy_ai F1 27 = sy_ai F 27 → Q (some (.int ((sy_ai F 27).getD ((sy_i F 4).toInt).toNat 0))) (sy_dh F1 X1 X2 (iv_H 4)))
    (k15 : (sy_i F 6).toInt ≤ 0 → (sy_i F 6).toInt = 0 → ((sy_ai F 25).getD ((sy_i F 4).toInt).toNat 0).toInt = 2 → (sy_i F 69).toInt ≤ ((sy_ai F 27).getD ((sy_i F 4).toInt).toNat 0).toInt → (sy_i F 70).toInt < ((sy_ai F 27).getD ((sy_i F 4).toInt).toNat 0).toInt → (sy_i F 6).toInt ≤ 0 → (sy_i F 8).toInt = 0 → (sy_i F 4).toInt = 400 → (sy_i F 6).toInt ≤ 0 → ∀ F1 : Nat → sy_d, iv_in F1 iv_B4 → (∀ j, j < 69 → j ∉ ([6, 7, 8, 9] : List Nat) → F1 j = F j) → (sy_i F1 4).toInt = (sy_i F 4).toInt → (sy_i F1 6).toInt = 2 → (sy_i F1 7).toInt = ((sy_ai F 26).getD ((sy_i F 4).toInt).toNat 0).toInt → (sy_i F1 8).toInt = 5 → (sy_i F1 9).toInt = ((sy_ai F 26).getD ((sy_i F 4).toInt).toNat 0).toInt → (sy_i F1 13).toInt = (sy_i F 13).toInt → sy_ai F1 25 = sy_ai F 25 → sy_ai F1 26 = sy_ai F 26 → sy_ai F1 27 = sy_ai F 27 → Q (some (.int ((sy_ai F 27).getD ((sy_i F 4).toInt).toNat 0))) (sy_dh F1 X1 X2 (iv_H 4)))
    (k16 : (sy_i F 6).toInt ≤ 0 → (sy_i F 6).toInt = 0 → ((sy_ai F 25).getD ((sy_i F 4).toInt).toNat 0).toInt = 2 → (sy_i F 69).toInt ≤ ((sy_ai F 27).getD ((sy_i F 4).toInt).toNat 0).toInt → (sy_i F 70).toInt < ((sy_ai F 27).getD ((sy_i F 4).toInt).toNat 0).toInt → (sy_i F 6).toInt ≤ 0 → (sy_i F 8).toInt ≠ 0 → (sy_i F 9).toInt < ((sy_ai F 26).getD ((sy_i F 4).toInt).toNat 0).toInt → (sy_i F 4).toInt ≠ 400 → ∀ F1 : Nat → sy_d, iv_in F1 iv_B4 → (∀ j, j < 69 → j ∉ ([4] : List Nat) → F1 j = F j) → (sy_i F1 4).toInt = ((sy_i F 4).toInt + 1) → (sy_i F1 6).toInt = (sy_i F 6).toInt → (sy_i F1 7).toInt = (sy_i F 7).toInt → (sy_i F1 8).toInt = (sy_i F 8).toInt → (sy_i F1 9).toInt = (sy_i F 9).toInt → (sy_i F1 13).toInt = (sy_i F 13).toInt → sy_ai F1 25 = sy_ai F 25 → sy_ai F1 26 = sy_ai F 26 → sy_ai F1 27 = sy_ai F 27 → Q (some (.int ((sy_ai F 27).getD ((sy_i F 4).toInt).toNat 0))) (sy_dh F1 X1 X2 (iv_H 4)))
    (k17 : (sy_i F 6).toInt ≤ 0 → (sy_i F 6).toInt = 0 → ((sy_ai F 25).getD ((sy_i F 4).toInt).toNat 0).toInt = 2 → (sy_i F 69).toInt ≤ ((sy_ai F 27).getD ((sy_i F 4).toInt).toNat 0).toInt → (sy_i F 70).toInt < ((sy_ai F 27).getD ((sy_i F 4).toInt).toNat 0).toInt → (sy_i F 6).toInt ≤ 0 → (sy_i F 8).toInt ≠ 0 → (sy_i F 9).toInt < ((sy_ai F 26).getD ((sy_i F 4).toInt).toNat 0).toInt → (sy_i F 4).toInt = 400 → (sy_i F 6).toInt ≤ 0 → ∀ F1 : Nat → sy_d, iv_in F1 iv_B4 → (∀ j, j < 69 → j ∉ ([6, 7] : List Nat) → F1 j = F j) → (sy_i F1 4).toInt = (sy_i F 4).toInt → (sy_i F1 6).toInt = 2 → (sy_i F1 7).toInt = ((sy_ai F 26).getD ((sy_i F 4).toInt).toNat 0).toInt → (sy_i F1 8).toInt = (sy_i F 8).toInt → (sy_i F1 9).toInt = (sy_i F 9).toInt → (sy_i F1 13).toInt = (sy_i F 13).toInt → sy_ai F1 25 = sy_ai F 25 → sy_ai F1 26 = sy_ai F 26 → sy_ai F1 27 = sy_ai F 27 → Q (some (.int ((sy_ai F 27).getD ((sy_i F 4).toInt).toNat 0))) (sy_dh F1 X1 X2 (iv_H 4)))
    (k18 : (sy_i F 6).toInt ≤ 0 → (sy_i F 6).toInt = 0 → ((sy_ai F 25).getD ((sy_i F 4).toInt).toNat 0).toInt = 2 → (sy_i F 69).toInt ≤ ((sy_ai F 27).getD ((sy_i F 4).toInt).toNat 0).toInt → (sy_i F 70).toInt < ((sy_ai F 27).getD ((sy_i F 4).toInt).toNat 0).toInt → (sy_i F 6).toInt ≤ 0 → (sy_i F 8).toInt ≠ 0 → ((sy_ai F 26).getD ((sy_i F 4).toInt).toNat 0).toInt ≤ (sy_i F 9).toInt → ((sy_ai F 26).getD ((sy_i F 4).toInt).toNat 0).toInt ≠ (sy_i F 9).toInt → (sy_i F 4).toInt ≠ 400 → ∀ F1 : Nat → sy_d, iv_in F1 iv_B4 → (∀ j, j < 69 → j ∉ ([4, 8, 9] : List Nat) → F1 j = F j) → (sy_i F1 4).toInt = ((sy_i F 4).toInt + 1) → (sy_i F1 6).toInt = (sy_i F 6).toInt → (sy_i F1 7).toInt = (sy_i F 7).toInt → (sy_i F1 8).toInt = 5 → (sy_i F1 9).toInt = ((sy_ai F 26).getD ((sy_i F 4).toInt).toNat 0).toInt → (sy_i F1 13).toInt = (sy_i F 13).toInt → sy_ai F1 25 = sy_ai F 25 → sy_ai F1 26 = sy_ai F 26 → sy_ai F1 27 = sy_ai F 27 → Q (some (.int ((sy_ai F 27).getD ((sy_i F 4).toInt).toNat 0))) (sy_dh F1 X1 X2 (iv_H 4)))
    (k19 : (sy_i F 6).toInt ≤ 0 → (sy_i F 6).toInt = 0 → ((sy_ai F 25).getD ((sy_i F 4).toInt).toNat 0).toInt = 2 → (sy_i F 69).toInt ≤ ((sy_ai F 27).getD ((sy_i F 4).toInt).toNat 0).toInt → (sy_i F 70).toInt < ((sy_ai F 27).getD ((sy_i F 4).toInt).toNat 0).toInt → (sy_i F 6).toInt ≤ 0 → (sy_i F 8).toInt ≠ 0 → ((sy_ai F 26).getD ((sy_i F 4).toInt).toNat 0).toInt ≤ (sy_i F 9).toInt → ((sy_ai F 26).getD ((sy_i F 4).toInt).toNat 0).toInt ≠ (sy_i F 9).toInt → (sy_i F 4).toInt = 400 → (sy_i F 6).toInt ≤ 0 → ∀ F1 : Nat → sy_d, iv_in F1 iv_B4 → (∀ j, j < 69 → j ∉ ([6, 7, 8, 9] : List Nat) → F1 j = F j) → (sy_i F1 4).toInt = (sy_i F 4).toInt → (sy_i F1 6).toInt = 2 → (sy_i F1 7).toInt = ((sy_ai F 26).getD ((sy_i F 4).toInt).toNat 0).toInt → (sy_i F1 8).toInt = 5 → (sy_i F1 9).toInt = ((sy_ai F 26).getD ((sy_i F 4).toInt).toNat 0).toInt → (sy_i F1 13).toInt = (sy_i F 13).toInt → sy_ai F1 25 = sy_ai F 25 → sy_ai F1 26 = sy_ai F 26 → sy_ai F1 27 = sy_ai F 27 → Q (some (.int ((sy_ai F 27).getD ((sy_i F 4).toInt).toNat 0))) (sy_dh F1 X1 X2 (iv_H 4)))
    (k20 : (sy_i F 6).toInt ≤ 0 → (sy_i F 6).toInt = 0 → ((sy_ai F 25).getD ((sy_i F 4).toInt).toNat 0).toInt = 2 → (sy_i F 69).toInt ≤ ((sy_ai F 27).getD ((sy_i F 4).toInt).toNat 0).toInt → (sy_i F 70).toInt < ((sy_ai F 27).getD ((sy_i F 4).toInt).toNat 0).toInt → (sy_i F 6).toInt ≤ 0 → (sy_i F 8).toInt ≠ 0 → ((sy_ai F 26).getD ((sy_i F 4).toInt).toNat 0).toInt ≤ (sy_i F 9).toInt → ((sy_ai F 26).getD ((sy_i F 4).toInt).toNat 0).toInt = (sy_i F 9).toInt → 5 < (sy_i F 8).toInt → (sy_i F 4).toInt ≠ 400 → ∀ F1 : Nat → sy_d, iv_in F1 iv_B4 → (∀ j, j < 69 → j ∉ ([4, 8, 9] : List Nat) → F1 j = F j) → (sy_i F1 4).toInt = ((sy_i F 4).toInt + 1) → (sy_i F1 6).toInt = (sy_i F 6).toInt → (sy_i F1 7).toInt = (sy_i F 7).toInt → (sy_i F1 8).toInt = 5 → (sy_i F1 9).toInt = ((sy_ai F 26).getD ((sy_i F 4).toInt).toNat 0).toInt → (sy_i F1 13).toInt = (sy_i F 13).toInt → sy_ai F1 25 = sy_ai F 25 → sy_ai F1 26 = sy_ai F 26 → sy_ai F1 27 = sy_ai F 27 → Q (some (.int ((sy_ai F 27).getD ((sy_i F 4).toInt).toNat 0))) (sy_dh F1 X1 X2 (iv_H 4)))
    (k21 : (sy_i F 6).toInt ≤ 0 → (sy_i F 6).toInt = 0 → ((sy_ai F 25).getD ((sy_i F 4).toInt).toNat 0).toInt = 2 → (sy_i F 69).toInt ≤ ((sy_ai F 27).getD ((sy_i F 4).toInt).toNat 0).toInt → (sy_i F 70).toInt < ((sy_ai F 27).getD ((sy_i F 4).toInt).toNat 0).toInt → (sy_i F 6).toInt ≤ 0 → (sy_i F 8).toInt ≠ 0 → ((sy_ai F 26).getD ((sy_i F 4).toInt).toNat 0).toInt ≤ (sy_i F 9).toInt → ((sy_ai F 26).getD ((sy_i F 4).toInt).toNat 0).toInt = (sy_i F 9).toInt → 5 < (sy_i F 8).toInt → (sy_i F 4).toInt = 400 → (sy_i F 6).toInt ≤ 0 → ∀ F1 : Nat → sy_d, iv_in F1 iv_B4 → (∀ j, j < 69 → j ∉ ([6, 7, 8, 9] : List Nat) → F1 j = F j) → (sy_i F1 4).toInt = (sy_i F 4).toInt → (sy_i F1 6).toInt = 2 → (sy_i F1 7).toInt = ((sy_ai F 26).getD ((sy_i F 4).toInt).toNat 0).toInt → (sy_i F1 8).toInt = 5 → (sy_i F1 9).toInt = ((sy_ai F 26).getD ((sy_i F 4).toInt).toNat 0).toInt → (sy_i F1 13).toInt = (sy_i F 13).toInt → sy_ai F1 25 = sy_ai F 25 → sy_ai F1 26 = sy_ai F 26 → sy_ai F1 27 = sy_ai F 27 → Q (some (.int ((sy_ai F 27).getD ((sy_i F 4).toInt).toNat 0))) (sy_dh F1 X1 X2 (iv_H 4)))
    (k22 : (sy_i F 6).toInt ≤ 0 → (sy_i F 6).toInt = 0 → ((sy_ai F 25).getD ((sy_i F 4).toInt).toNat 0).toInt = 2 → (sy_i F 69).toInt ≤ ((sy_ai F 27).getD ((sy_i F 4).toInt).toNat 0).toInt → (sy_i F 70).toInt < ((sy_ai F 27).getD ((sy_i F 4).toInt).toNat 0).toInt → (sy_i F 6).toInt ≤ 0 → (sy_i F 8).toInt ≠ 0 → ((sy_ai F 26).getD ((sy_i F 4).toInt).toNat 0).toInt ≤ (sy_i F 9).toInt → ((sy_ai F 26).getD ((sy_i F 4).toInt).toNat 0).toInt = (sy_i F 9).toInt → (sy_i F 8).toInt ≤ 5 → (sy_i F 4).toInt ≠ 400 → ∀ F1 : Nat → sy_d, iv_in F1 iv_B4 → (∀ j, j < 69 → j ∉ ([4] : List Nat) → F1 j = F j) → (sy_i F1 4).toInt = ((sy_i F 4).toInt + 1) → (sy_i F1 6).toInt = (sy_i F 6).toInt → (sy_i F1 7).toInt = (sy_i F 7).toInt → (sy_i F1 8).toInt = (sy_i F 8).toInt → (sy_i F1 9).toInt = (sy_i F 9).toInt → (sy_i F1 13).toInt = (sy_i F 13).toInt → sy_ai F1 25 = sy_ai F 25 → sy_ai F1 26 = sy_ai F 26 → sy_ai F1 27 = sy_ai F 27 → Q (some (.int ((sy_ai F 27).getD ((sy_i F 4).toInt).toNat 0))) (sy_dh F1 X1 X2 (iv_H 4)))
    (k23 : (sy_i F 6).toInt ≤ 0 → (sy_i F 6).toInt = 0 → ((sy_ai F 25).getD ((sy_i F 4).toInt).toNat 0).toInt = 2 → (sy_i F 69).toInt ≤ ((sy_ai F 27).getD ((sy_i F 4).toInt).toNat 0).toInt → (sy_i F 70).toInt < ((sy_ai F 27).getD ((sy_i F 4).toInt).toNat 0).toInt → (sy_i F 6).toInt ≤ 0 → (sy_i F 8).toInt ≠ 0 → ((sy_ai F 26).getD ((sy_i F 4).toInt).toNat 0).toInt ≤ (sy_i F 9).toInt → ((sy_ai F 26).getD ((sy_i F 4).toInt).toNat 0).toInt = (sy_i F 9).toInt → (sy_i F 8).toInt ≤ 5 → (sy_i F 4).toInt = 400 → (sy_i F 6).toInt ≤ 0 → ∀ F1 : Nat → sy_d, iv_in F1 iv_B4 → (∀ j, j < 69 → j ∉ ([6, 7] : List Nat) → F1 j = F j) → (sy_i F1 4).toInt = (sy_i F 4).toInt → (sy_i F1 6).toInt = 2 → (sy_i F1 7).toInt = ((sy_ai F 26).getD ((sy_i F 4).toInt).toNat 0).toInt → (sy_i F1 8).toInt = (sy_i F 8).toInt → (sy_i F1 9).toInt = (sy_i F 9).toInt → (sy_i F1 13).toInt = (sy_i F 13).toInt → sy_ai F1 25 = sy_ai F 25 → sy_ai F1 26 = sy_ai F 26 → sy_ai F1 27 = sy_ai F 27 → Q (some (.int ((sy_ai F 27).getD ((sy_i F 4).toInt).toNat 0))) (sy_dh F1 X1 X2 (iv_H 4))) :
    hd_W Ls xs d jm_M157 Q (0, sy_dL F [some (.inl (.ref 1000)), some (.inr (.inl 69)), some (.inr (.inl 70)), none], sy_dS F [], sy_dh F X1 X2 (iv_H 4), 0, 0) := by
  by_cases g0 : 0 < (sy_i F 6).toInt
  · by_cases g1 : (sy_i F 6).toInt ≤ 0
    · have c6 := nz_bx hB (k := 6) (lo := 0) (hi := 2) rfl
      exfalso
      omega
    replace g1 : 0 < (sy_i F 6).toInt := by omega
    have c6 := nz_bx hB (k := 6) (lo := 0) (hi := 2) rfl
    exact bo_0_p0 hd F X1 X2 hB (by first | exact g0 | (simp only [nz_c]; exact g0)) (by first | exact g1 | (simp only [nz_c]; exact g1)) (fun F1 g  => by rw [(rfl : sy_i F 69 = sy_i F 69)]; exact k0 g0 g1 F1 (nz_in hB [] (fun j hj hn => g j hj (by simp only [List.mem_cons, List.not_mem_nil, or_false, not_or] at hn; exact trivial)) (List.forall_mem_nil _)) (fun j hj hn => g j hj (by simp only [List.mem_cons, List.not_mem_nil, or_false, not_or] at hn; exact trivial)) (nz_fi (g 4 (by decide) (by decide))) (nz_fi (g 6 (by decide) (by decide))) (nz_fi (g 7 (by decide) (by decide))) (nz_fi (g 8 (by decide) (by decide))) (nz_fi (g 9 (by decide) (by decide))) (nz_fi (g 13 (by decide) (by decide))) (nz_fa (g 25 (by decide) (by decide))) (nz_fa (g 26 (by decide) (by decide))) (nz_fa (g 27 (by decide) (by decide))))
  replace g0 : (sy_i F 6).toInt ≤ 0 := by omega
  by_cases g1 : (sy_i F 6).toInt ≠ 0
  · have c6 := nz_bx hB (k := 6) (lo := 0) (hi := 2) rfl
    exfalso
    omega
  replace g1 : (sy_i F 6).toInt = 0 := by omega
  by_cases g2 : ((sy_ai F 25).getD ((sy_i F 4).toInt).toNat 0).toInt ≠ 2
  · by_cases g3 : (sy_i F 6).toInt ≤ 0
    · have c6 := nz_bx hB (k := 6) (lo := 0) (hi := 2) rfl
      have c4 := nz_bx hB (k := 4) (lo := 0) (hi := 400) rfl
      have q71 : (sy_ai F 25).getD (sy_i F 4).toNatClampNeg 0 = (sy_ai F 25).getD ((sy_i F 4).toInt).toNat 0 := by simp only [nz_c]
      have n71 : ((sy_ai F 25).getD (sy_i F 4).toNatClampNeg 0).toInt = ((sy_ai F 25).getD ((sy_i F 4).toInt).toNat 0).toInt := congrArg Int32.toInt q71
      have r71 := nz_ba hB (k := 25) (lo := 0) (hi := 42) rfl ((sy_i F 4).toInt).toNat
      have q72 : (sy_ai F 26).getD (sy_i F 4).toNatClampNeg 0 = (sy_ai F 26).getD ((sy_i F 4).toInt).toNat 0 := by simp only [nz_c]
      have n72 : ((sy_ai F 26).getD (sy_i F 4).toNatClampNeg 0).toInt = ((sy_ai F 26).getD ((sy_i F 4).toInt).toNat 0).toInt := congrArg Int32.toInt q72
      exact bo_0_p1 hd F X1 X2 hB (by first | exact g0 | (simp only [nz_c]; exact g0)) (by first | exact g1 | (simp only [nz_c]; exact g1)) (by first | exact ⟨by omega, by omega⟩ | (simp only [nz_c]; exact ⟨by omega, by omega⟩)) (by first | exact g2 | (simp only [nz_c]; exact g2) | (rw [n71]; exact g2)) (by first | exact g3 | (simp only [nz_c]; exact g3)) (by first | exact ⟨by omega, by omega⟩ | (simp only [nz_c]; exact ⟨by omega, by omega⟩)) (fun F1 g e6 e7 => by rw [(rfl : sy_i F 69 = sy_i F 69)]; exact k1 g0 g1 g2 g3 F1 (nz_in hB [6, 7] (fun j hj hn => g j hj (by simp only [List.mem_cons, List.not_mem_nil, or_false, not_or] at hn; omega)) (List.forall_mem_cons.mpr ⟨fun t ht => (Option.some.inj ht) ▸ (nz_hi e6 (by decide : ((1 : Int32)).toInt = 1) (by omega) (by omega)), List.forall_mem_cons.mpr ⟨fun t ht => (Option.some.inj ht) ▸ (nz_hz e7), List.forall_mem_nil _⟩⟩)) (fun j hj hn => g j hj (by simp only [List.mem_cons, List.not_mem_nil, or_false, not_or] at hn; omega)) (nz_fi (g 4 (by decide) (by decide))) ((congrArg Int32.toInt (zz_i e6)).trans (by decide : ((1 : Int32)).toInt = 1)) ((congrArg Int32.toInt (zz_i e7)).trans n72) (nz_fi (g 8 (by decide) (by decide))) (nz_fi (g 9 (by decide) (by decide))) (nz_fi (g 13 (by decide) (by decide))) (nz_fa (g 25 (by decide) (by decide))) (nz_fa (g 26 (by decide) (by decide))) (nz_fa (g 27 (by decide) (by decide))))
    replace g3 : 0 < (sy_i F 6).toInt := by omega
    have c6 := nz_bx hB (k := 6) (lo := 0) (hi := 2) rfl
    have c4 := nz_bx hB (k := 4) (lo := 0) (hi := 400) rfl
    have q71 : (sy_ai F 25).getD (sy_i F 4).toNatClampNeg 0 = (sy_ai F 25).getD ((sy_i F 4).toInt).toNat 0 := by simp only [nz_c]
    have n71 : ((sy_ai F 25).getD (sy_i F 4).toNatClampNeg 0).toInt = ((sy_ai F 25).getD ((sy_i F 4).toInt).toNat 0).toInt := congrArg Int32.toInt q71
    have r71 := nz_ba hB (k := 25) (lo := 0) (hi := 42) rfl ((sy_i F 4).toInt).toNat
    exfalso
    omega
  replace g2 : ((sy_ai F 25).getD ((sy_i F 4).toInt).toNat 0).toInt = 2 := by omega
  by_cases g3 : ((sy_ai F 27).getD ((sy_i F 4).toInt).toNat 0).toInt < (sy_i F 69).toInt
  · by_cases g4 : 0 < (sy_i F 6).toInt
    · have c6 := nz_bx hB (k := 6) (lo := 0) (hi := 2) rfl
      have c4 := nz_bx hB (k := 4) (lo := 0) (hi := 400) rfl
      have q71 : (sy_ai F 25).getD (sy_i F 4).toNatClampNeg 0 = (sy_ai F 25).getD ((sy_i F 4).toInt).toNat 0 := by simp only [nz_c]
      have n71 : ((sy_ai F 25).getD (sy_i F 4).toNatClampNeg 0).toInt = ((sy_ai F 25).getD ((sy_i F 4).toInt).toNat 0).toInt := congrArg Int32.toInt q71
      have r71 := nz_ba hB (k := 25) (lo := 0) (hi := 42) rfl ((sy_i F 4).toInt).toNat
      have q72 : (sy_ai F 27).getD (sy_i F 4).toNatClampNeg 0 = (sy_ai F 27).getD ((sy_i F 4).toInt).toNat 0 := by simp only [nz_c]
      have n72 : ((sy_ai F 27).getD (sy_i F 4).toNatClampNeg 0).toInt = ((sy_ai F 27).getD ((sy_i F 4).toInt).toNat 0).toInt := congrArg Int32.toInt q72
      exfalso
      omega
    replace g4 : (sy_i F 6).toInt ≤ 0 := by omega
    by_cases g5 : (sy_i F 8).toInt = 0
    · by_cases g6 : (sy_i F 4).toInt ≠ 400
      · have c6 := nz_bx hB (k := 6) (lo := 0) (hi := 2) rfl
        have c4 := nz_bx hB (k := 4) (lo := 0) (hi := 400) rfl
        have q71 : (sy_ai F 25).getD (sy_i F 4).toNatClampNeg 0 = (sy_ai F 25).getD ((sy_i F 4).toInt).toNat 0 := by simp only [nz_c]
        have n71 : ((sy_ai F 25).getD (sy_i F 4).toNatClampNeg 0).toInt = ((sy_ai F 25).getD ((sy_i F 4).toInt).toNat 0).toInt := congrArg Int32.toInt q71
        have r71 := nz_ba hB (k := 25) (lo := 0) (hi := 42) rfl ((sy_i F 4).toInt).toNat
        have q72 : (sy_ai F 27).getD (sy_i F 4).toNatClampNeg 0 = (sy_ai F 27).getD ((sy_i F 4).toInt).toNat 0 := by simp only [nz_c]
        have n72 : ((sy_ai F 27).getD (sy_i F 4).toNatClampNeg 0).toInt = ((sy_ai F 27).getD ((sy_i F 4).toInt).toNat 0).toInt := congrArg Int32.toInt q72
        have n74 : ((sy_i F 4) + ((1 : Int32))).toInt = ((sy_i F 4).toInt + 1) := nz_add (rfl : (sy_i F 4).toInt = (sy_i F 4).toInt) (by decide : ((1 : Int32)).toInt = 1) (by omega) (by omega)
        have q73 : (sy_ai F 26).getD (sy_i F 4).toNatClampNeg 0 = (sy_ai F 26).getD ((sy_i F 4).toInt).toNat 0 := by simp only [nz_c]
        have n73 : ((sy_ai F 26).getD (sy_i F 4).toNatClampNeg 0).toInt = ((sy_ai F 26).getD ((sy_i F 4).toInt).toNat 0).toInt := congrArg Int32.toInt q73
        exact bo_0_p2 hd F X1 X2 hB (by first | exact g0 | (simp only [nz_c]; exact g0)) (by first | exact g1 | (simp only [nz_c]; exact g1)) (by first | exact ⟨by omega, by omega⟩ | (simp only [nz_c]; exact ⟨by omega, by omega⟩)) (by first | exact g2 | (simp only [nz_c]; exact g2) | (rw [n71]; exact g2)) (by first | exact ⟨by omega, by omega⟩ | (simp only [nz_c]; exact ⟨by omega, by omega⟩)) (by first | exact g3 | (simp only [nz_c]; exact g3) | (rw [n72]; exact g3)) (by first | exact ⟨by omega, by omega⟩ | (simp only [nz_c]; exact ⟨by omega, by omega⟩)) (by first | exact g4 | (simp only [nz_c]; exact g4)) (by first | exact g5 | (simp only [nz_c]; exact g5)) (by first | exact g6 | (simp only [nz_c]; exact g6)) (fun F1 g e4 e8 e9 => by rw [q72]; exact k2 g0 g1 g2 g3 g4 g5 g6 F1 (nz_in hB [4, 8, 9] (fun j hj hn => g j hj (by simp only [List.mem_cons, List.not_mem_nil, or_false, not_or] at hn; omega)) (List.forall_mem_cons.mpr ⟨fun t ht => (Option.some.inj ht) ▸ (nz_hi e4 n74 (by omega) (by omega)), List.forall_mem_cons.mpr ⟨fun t ht => (Option.some.inj ht) ▸ (nz_hz e8), List.forall_mem_cons.mpr ⟨fun t ht => (Option.some.inj ht) ▸ (nz_hz e9), List.forall_mem_nil _⟩⟩⟩)) (fun j hj hn => g j hj (by simp only [List.mem_cons, List.not_mem_nil, or_false, not_or] at hn; omega)) ((congrArg Int32.toInt (zz_i e4)).trans n74) (nz_fi (g 6 (by decide) (by decide))) (nz_fi (g 7 (by decide) (by decide))) ((congrArg Int32.toInt (zz_i e8)).trans (by decide : ((5 : Int32)).toInt = 5)) ((congrArg Int32.toInt (zz_i e9)).trans n73) (nz_fi (g 13 (by decide) (by decide))) (nz_fa (g 25 (by decide) (by decide))) (nz_fa (g 26 (by decide) (by decide))) (nz_fa (g 27 (by decide) (by decide))))
      replace g6 : (sy_i F 4).toInt = 400 := by omega
      by_cases g7 : (sy_i F 6).toInt ≤ 0
      · have c6 := nz_bx hB (k := 6) (lo := 0) (hi := 2) rfl
        have c4 := nz_bx hB (k := 4) (lo := 0) (hi := 400) rfl
        have q71 : (sy_ai F 25).getD (sy_i F 4).toNatClampNeg 0 = (sy_ai F 25).getD ((sy_i F 4).toInt).toNat 0 := by simp only [nz_c]
        have n71 : ((sy_ai F 25).getD (sy_i F 4).toNatClampNeg 0).toInt = ((sy_ai F 25).getD ((sy_i F 4).toInt).toNat 0).toInt := congrArg Int32.toInt q71
        have r71 := nz_ba hB (k := 25) (lo := 0) (hi := 42) rfl ((sy_i F 4).toInt).toNat
        have q72 : (sy_ai F 27).getD (sy_i F 4).toNatClampNeg 0 = (sy_ai F 27).getD ((sy_i F 4).toInt).toNat 0 := by simp only [nz_c]
        have n72 : ((sy_ai F 27).getD (sy_i F 4).toNatClampNeg 0).toInt = ((sy_ai F 27).getD ((sy_i F 4).toInt).toNat 0).toInt := congrArg Int32.toInt q72
        have q74 : (sy_ai F 26).getD (sy_i F 4).toNatClampNeg 0 = (sy_ai F 26).getD ((sy_i F 4).toInt).toNat 0 := by simp only [nz_c]
        have n74 : ((sy_ai F 26).getD (sy_i F 4).toNatClampNeg 0).toInt = ((sy_ai F 26).getD ((sy_i F 4).toInt).toNat 0).toInt := congrArg Int32.toInt q74
        have q73 : (sy_ai F 26).getD (sy_i F 4).toNatClampNeg 0 = (sy_ai F 26).getD ((sy_i F 4).toInt).toNat 0 := by simp only [nz_c]
        have n73 : ((sy_ai F 26).getD (sy_i F 4).toNatClampNeg 0).toInt = ((sy_ai F 26).getD ((sy_i F 4).toInt).toNat 0).toInt := congrArg Int32.toInt q73
        exact bo_0_p3 hd F X1 X2 hB (by first | exact g0 | (simp only [nz_c]; exact g0)) (by first | exact g1 | (simp only [nz_c]; exact g1)) (by first | exact ⟨by omega, by omega⟩ | (simp only [nz_c]; exact ⟨by omega, by omega⟩)) (by first | exact g2 | (simp only [nz_c]; exact g2) | (rw [n71]; exact g2)) (by first | exact ⟨by omega, by omega⟩ | (simp only [nz_c]; exact ⟨by omega, by omega⟩)) (by first | exact g3 | (simp only [nz_c]; exact g3) | (rw [n72]; exact g3)) (by first | exact ⟨by omega, by omega⟩ | (simp only [nz_c]; exact ⟨by omega, by omega⟩)) (by first | exact g4 | (simp only [nz_c]; exact g4)) (by first | exact g5 | (simp only [nz_c]; exact g5)) (by first | exact g6 | (simp only [nz_c]; exact g6)) (by first | exact g7 | (simp only [nz_c]; exact g7)) (by first | exact ⟨by omega, by omega⟩ | (simp only [nz_c]; exact ⟨by omega, by omega⟩)) (fun F1 g e6 e7 e8 e9 => by rw [q72]; exact k3 g0 g1 g2 g3 g4 g5 g6 g7 F1 (nz_in hB [6, 7, 8, 9] (fun j hj hn => g j hj (by simp only [List.mem_cons, List.not_mem_nil, or_false, not_or] at hn; omega)) (List.forall_mem_cons.mpr ⟨fun t ht => (Option.some.inj ht) ▸ (nz_hi e6 (by decide : ((2 : Int32)).toInt = 2) (by omega) (by omega)), List.forall_mem_cons.mpr ⟨fun t ht => (Option.some.inj ht) ▸ (nz_hz e7), List.forall_mem_cons.mpr ⟨fun t ht => (Option.some.inj ht) ▸ (nz_hz e8), List.forall_mem_cons.mpr ⟨fun t ht => (Option.some.inj ht) ▸ (nz_hz e9), List.forall_mem_nil _⟩⟩⟩⟩)) (fun j hj hn => g j hj (by simp only [List.mem_cons, List.not_mem_nil, or_false, not_or] at hn; omega)) (nz_fi (g 4 (by decide) (by decide))) ((congrArg Int32.toInt (zz_i e6)).trans (by decide : ((2 : Int32)).toInt = 2)) ((congrArg Int32.toInt (zz_i e7)).trans n74) ((congrArg Int32.toInt (zz_i e8)).trans (by decide : ((5 : Int32)).toInt = 5)) ((congrArg Int32.toInt (zz_i e9)).trans n73) (nz_fi (g 13 (by decide) (by decide))) (nz_fa (g 25 (by decide) (by decide))) (nz_fa (g 26 (by decide) (by decide))) (nz_fa (g 27 (by decide) (by decide))))
      replace g7 : 0 < (sy_i F 6).toInt := by omega
      have c6 := nz_bx hB (k := 6) (lo := 0) (hi := 2) rfl
      have c4 := nz_bx hB (k := 4) (lo := 0) (hi := 400) rfl
      have q71 : (sy_ai F 25).getD (sy_i F 4).toNatClampNeg 0 = (sy_ai F 25).getD ((sy_i F 4).toInt).toNat 0 := by simp only [nz_c]
      have n71 : ((sy_ai F 25).getD (sy_i F 4).toNatClampNeg 0).toInt = ((sy_ai F 25).getD ((sy_i F 4).toInt).toNat 0).toInt := congrArg Int32.toInt q71
      have r71 := nz_ba hB (k := 25) (lo := 0) (hi := 42) rfl ((sy_i F 4).toInt).toNat
      have q72 : (sy_ai F 27).getD (sy_i F 4).toNatClampNeg 0 = (sy_ai F 27).getD ((sy_i F 4).toInt).toNat 0 := by simp only [nz_c]
      have n72 : ((sy_ai F 27).getD (sy_i F 4).toNatClampNeg 0).toInt = ((sy_ai F 27).getD ((sy_i F 4).toInt).toNat 0).toInt := congrArg Int32.toInt q72
      exfalso
      omega
    replace g5 : (sy_i F 8).toInt ≠ 0 := by omega
    by_cases g6 : (sy_i F 9).toInt < ((sy_ai F 26).getD ((sy_i F 4).toInt).toNat 0).toInt
    · by_cases g7 : (sy_i F 4).toInt ≠ 400
      · have c6 := nz_bx hB (k := 6) (lo := 0) (hi := 2) rfl
        have c4 := nz_bx hB (k := 4) (lo := 0) (hi := 400) rfl
        have q71 : (sy_ai F 25).getD (sy_i F 4).toNatClampNeg 0 = (sy_ai F 25).getD ((sy_i F 4).toInt).toNat 0 := by simp only [nz_c]
        have n71 : ((sy_ai F 25).getD (sy_i F 4).toNatClampNeg 0).toInt = ((sy_ai F 25).getD ((sy_i F 4).toInt).toNat 0).toInt := congrArg Int32.toInt q71
        have r71 := nz_ba hB (k := 25) (lo := 0) (hi := 42) rfl ((sy_i F 4).toInt).toNat
        have q72 : (sy_ai F 27).getD (sy_i F 4).toNatClampNeg 0 = (sy_ai F 27).getD ((sy_i F 4).toInt).toNat 0 := by simp only [nz_c]
        have n72 : ((sy_ai F 27).getD (sy_i F 4).toNatClampNeg 0).toInt = ((sy_ai F 27).getD ((sy_i F 4).toInt).toNat 0).toInt := congrArg Int32.toInt q72
        have q73 : (sy_ai F 26).getD (sy_i F 4).toNatClampNeg 0 = (sy_ai F 26).getD ((sy_i F 4).toInt).toNat 0 := by simp only [nz_c]
        have n73 : ((sy_ai F 26).getD (sy_i F 4).toNatClampNeg 0).toInt = ((sy_ai F 26).getD ((sy_i F 4).toInt).toNat 0).toInt := congrArg Int32.toInt q73
        have n74 : ((sy_i F 4) + ((1 : Int32))).toInt = ((sy_i F 4).toInt + 1) := nz_add (rfl : (sy_i F 4).toInt = (sy_i F 4).toInt) (by decide : ((1 : Int32)).toInt = 1) (by omega) (by omega)
        exact bo_0_p4 hd F X1 X2 hB (by first | exact g0 | (simp only [nz_c]; exact g0)) (by first | exact g1 | (simp only [nz_c]; exact g1)) (by first | exact ⟨by omega, by omega⟩ | (simp only [nz_c]; exact ⟨by omega, by omega⟩)) (by first | exact g2 | (simp only [nz_c]; exact g2) | (rw [n71]; exact g2)) (by first | exact ⟨by omega, by omega⟩ | (simp only [nz_c]; exact ⟨by omega, by omega⟩)) (by first | exact g3 | (simp only [nz_c]; exact g3) | (rw [n72]; exact g3)) (by first | exact ⟨by omega, by omega⟩ | (simp only [nz_c]; exact ⟨by omega, by omega⟩)) (by first | exact g4 | (simp only [nz_c]; exact g4)) (by first | exact g5 | (simp only [nz_c]; exact g5)) (by first | exact g6 | (simp only [nz_c]; exact g6) | (rw [n73]; exact g6)) (by first | exact g7 | (simp only [nz_c]; exact g7)) (fun F1 g e4 => by rw [q72]; exact k4 g0 g1 g2 g3 g4 g5 g6 g7 F1 (nz_in hB [4] (fun j hj hn => g j hj (by simp only [List.mem_cons, List.not_mem_nil, or_false, not_or] at hn; omega)) (List.forall_mem_cons.mpr ⟨fun t ht => (Option.some.inj ht) ▸ (nz_hi e4 n74 (by omega) (by omega)), List.forall_mem_nil _⟩)) (fun j hj hn => g j hj (by simp only [List.mem_cons, List.not_mem_nil, or_false, not_or] at hn; omega)) ((congrArg Int32.toInt (zz_i e4)).trans n74) (nz_fi (g 6 (by decide) (by decide))) (nz_fi (g 7 (by decide) (by decide))) (nz_fi (g 8 (by decide) (by decide))) (nz_fi (g 9 (by decide) (by decide))) (nz_fi (g 13 (by decide) (by decide))) (nz_fa (g 25 (by decide) (by decide))) (nz_fa (g 26 (by decide) (by decide))) (nz_fa (g 27 (by decide) (by decide))))
      replace g7 : (sy_i F 4).toInt = 400 := by omega
      by_cases g8 : (sy_i F 6).toInt ≤ 0
      · have c6 := nz_bx hB (k := 6) (lo := 0) (hi := 2) rfl
        have c4 := nz_bx hB (k := 4) (lo := 0) (hi := 400) rfl
        have q71 : (sy_ai F 25).getD (sy_i F 4).toNatClampNeg 0 = (sy_ai F 25).getD ((sy_i F 4).toInt).toNat 0 := by simp only [nz_c]
        have n71 : ((sy_ai F 25).getD (sy_i F 4).toNatClampNeg 0).toInt = ((sy_ai F 25).getD ((sy_i F 4).toInt).toNat 0).toInt := congrArg Int32.toInt q71
        have r71 := nz_ba hB (k := 25) (lo := 0) (hi := 42) rfl ((sy_i F 4).toInt).toNat
        have q72 : (sy_ai F 27).getD (sy_i F 4).toNatClampNeg 0 = (sy_ai F 27).getD ((sy_i F 4).toInt).toNat 0 := by simp only [nz_c]
        have n72 : ((sy_ai F 27).getD (sy_i F 4).toNatClampNeg 0).toInt = ((sy_ai F 27).getD ((sy_i F 4).toInt).toNat 0).toInt := congrArg Int32.toInt q72
        have q73 : (sy_ai F 26).getD (sy_i F 4).toNatClampNeg 0 = (sy_ai F 26).getD ((sy_i F 4).toInt).toNat 0 := by simp only [nz_c]
        have n73 : ((sy_ai F 26).getD (sy_i F 4).toNatClampNeg 0).toInt = ((sy_ai F 26).getD ((sy_i F 4).toInt).toNat 0).toInt := congrArg Int32.toInt q73
        have q74 : (sy_ai F 26).getD (sy_i F 4).toNatClampNeg 0 = (sy_ai F 26).getD ((sy_i F 4).toInt).toNat 0 := by simp only [nz_c]
        have n74 : ((sy_ai F 26).getD (sy_i F 4).toNatClampNeg 0).toInt = ((sy_ai F 26).getD ((sy_i F 4).toInt).toNat 0).toInt := congrArg Int32.toInt q74
        exact bo_0_p5 hd F X1 X2 hB (by first | exact g0 | (simp only [nz_c]; exact g0)) (by first | exact g1 | (simp only [nz_c]; exact g1)) (by first | exact ⟨by omega, by omega⟩ | (simp only [nz_c]; exact ⟨by omega, by omega⟩)) (by first | exact g2 | (simp only [nz_c]; exact g2) | (rw [n71]; exact g2)) (by first | exact ⟨by omega, by omega⟩ | (simp only [nz_c]; exact ⟨by omega, by omega⟩)) (by first | exact g3 | (simp only [nz_c]; exact g3) | (rw [n72]; exact g3)) (by first | exact ⟨by omega, by omega⟩ | (simp only [nz_c]; exact ⟨by omega, by omega⟩)) (by first | exact g4 | (simp only [nz_c]; exact g4)) (by first | exact g5 | (simp only [nz_c]; exact g5)) (by first | exact g6 | (simp only [nz_c]; exact g6) | (rw [n73]; exact g6)) (by first | exact g7 | (simp only [nz_c]; exact g7)) (by first | exact g8 | (simp only [nz_c]; exact g8)) (by first | exact ⟨by omega, by omega⟩ | (simp only [nz_c]; exact ⟨by omega, by omega⟩)) (fun F1 g e6 e7 => by rw [q72]; exact k5 g0 g1 g2 g3 g4 g5 g6 g7 g8 F1 (nz_in hB [6, 7] (fun j hj hn => g j hj (by simp only [List.mem_cons, List.not_mem_nil, or_false, not_or] at hn; omega)) (List.forall_mem_cons.mpr ⟨fun t ht => (Option.some.inj ht) ▸ (nz_hi e6 (by decide : ((2 : Int32)).toInt = 2) (by omega) (by omega)), List.forall_mem_cons.mpr ⟨fun t ht => (Option.some.inj ht) ▸ (nz_hz e7), List.forall_mem_nil _⟩⟩)) (fun j hj hn => g j hj (by simp only [List.mem_cons, List.not_mem_nil, or_false, not_or] at hn; omega)) (nz_fi (g 4 (by decide) (by decide))) ((congrArg Int32.toInt (zz_i e6)).trans (by decide : ((2 : Int32)).toInt = 2)) ((congrArg Int32.toInt (zz_i e7)).trans n74) (nz_fi (g 8 (by decide) (by decide))) (nz_fi (g 9 (by decide) (by decide))) (nz_fi (g 13 (by decide) (by decide))) (nz_fa (g 25 (by decide) (by decide))) (nz_fa (g 26 (by decide) (by decide))) (nz_fa (g 27 (by decide) (by decide))))
      replace g8 : 0 < (sy_i F 6).toInt := by omega
      have c6 := nz_bx hB (k := 6) (lo := 0) (hi := 2) rfl
      have c4 := nz_bx hB (k := 4) (lo := 0) (hi := 400) rfl
      have q71 : (sy_ai F 25).getD (sy_i F 4).toNatClampNeg 0 = (sy_ai F 25).getD ((sy_i F 4).toInt).toNat 0 := by simp only [nz_c]
      have n71 : ((sy_ai F 25).getD (sy_i F 4).toNatClampNeg 0).toInt = ((sy_ai F 25).getD ((sy_i F 4).toInt).toNat 0).toInt := congrArg Int32.toInt q71
      have r71 := nz_ba hB (k := 25) (lo := 0) (hi := 42) rfl ((sy_i F 4).toInt).toNat
      have q72 : (sy_ai F 27).getD (sy_i F 4).toNatClampNeg 0 = (sy_ai F 27).getD ((sy_i F 4).toInt).toNat 0 := by simp only [nz_c]
      have n72 : ((sy_ai F 27).getD (sy_i F 4).toNatClampNeg 0).toInt = ((sy_ai F 27).getD ((sy_i F 4).toInt).toNat 0).toInt := congrArg Int32.toInt q72
      have q73 : (sy_ai F 26).getD (sy_i F 4).toNatClampNeg 0 = (sy_ai F 26).getD ((sy_i F 4).toInt).toNat 0 := by simp only [nz_c]
      have n73 : ((sy_ai F 26).getD (sy_i F 4).toNatClampNeg 0).toInt = ((sy_ai F 26).getD ((sy_i F 4).toInt).toNat 0).toInt := congrArg Int32.toInt q73
      exfalso
      omega
    replace g6 : ((sy_ai F 26).getD ((sy_i F 4).toInt).toNat 0).toInt ≤ (sy_i F 9).toInt := by omega
    by_cases g7 : ((sy_ai F 26).getD ((sy_i F 4).toInt).toNat 0).toInt ≠ (sy_i F 9).toInt
    · by_cases g8 : (sy_i F 4).toInt ≠ 400
      · have c6 := nz_bx hB (k := 6) (lo := 0) (hi := 2) rfl
        have c4 := nz_bx hB (k := 4) (lo := 0) (hi := 400) rfl
        have q71 : (sy_ai F 25).getD (sy_i F 4).toNatClampNeg 0 = (sy_ai F 25).getD ((sy_i F 4).toInt).toNat 0 := by simp only [nz_c]
        have n71 : ((sy_ai F 25).getD (sy_i F 4).toNatClampNeg 0).toInt = ((sy_ai F 25).getD ((sy_i F 4).toInt).toNat 0).toInt := congrArg Int32.toInt q71
        have r71 := nz_ba hB (k := 25) (lo := 0) (hi := 42) rfl ((sy_i F 4).toInt).toNat
        have q72 : (sy_ai F 27).getD (sy_i F 4).toNatClampNeg 0 = (sy_ai F 27).getD ((sy_i F 4).toInt).toNat 0 := by simp only [nz_c]
        have n72 : ((sy_ai F 27).getD (sy_i F 4).toNatClampNeg 0).toInt = ((sy_ai F 27).getD ((sy_i F 4).toInt).toNat 0).toInt := congrArg Int32.toInt q72
        have q73 : (sy_ai F 26).getD (sy_i F 4).toNatClampNeg 0 = (sy_ai F 26).getD ((sy_i F 4).toInt).toNat 0 := by simp only [nz_c]
        have n73 : ((sy_ai F 26).getD (sy_i F 4).toNatClampNeg 0).toInt = ((sy_ai F 26).getD ((sy_i F 4).toInt).toNat 0).toInt := congrArg Int32.toInt q73
        have n74 : ((sy_i F 4) + ((1 : Int32))).toInt = ((sy_i F 4).toInt + 1) := nz_add (rfl : (sy_i F 4).toInt = (sy_i F 4).toInt) (by decide : ((1 : Int32)).toInt = 1) (by omega) (by omega)
        exact bo_0_p6 hd F X1 X2 hB (by first | exact g0 | (simp only [nz_c]; exact g0)) (by first | exact g1 | (simp only [nz_c]; exact g1)) (by first | exact ⟨by omega, by omega⟩ | (simp only [nz_c]; exact ⟨by omega, by omega⟩)) (by first | exact g2 | (simp only [nz_c]; exact g2) | (rw [n71]; exact g2)) (by first | exact ⟨by omega, by omega⟩ | (simp only [nz_c]; exact ⟨by omega, by omega⟩)) (by first | exact g3 | (simp only [nz_c]; exact g3) | (rw [n72]; exact g3)) (by first | exact ⟨by omega, by omega⟩ | (simp only [nz_c]; exact ⟨by omega, by omega⟩)) (by first | exact g4 | (simp only [nz_c]; exact g4)) (by first | exact g5 | (simp only [nz_c]; exact g5)) (by first | exact g6 | (simp only [nz_c]; exact g6) | (rw [n73]; exact g6)) (by first | exact g7 | (simp only [nz_c]; exact g7) | (rw [n73]; exact g7)) (by first | exact g8 | (simp only [nz_c]; exact g8)) (fun F1 g e4 e8 e9 => by rw [q72]; exact k6 g0 g1 g2 g3 g4 g5 g6 g7 g8 F1 (nz_in hB [4, 8, 9] (fun j hj hn => g j hj (by simp only [List.mem_cons, List.not_mem_nil, or_false, not_or] at hn; omega)) (List.forall_mem_cons.mpr ⟨fun t ht => (Option.some.inj ht) ▸ (nz_hi e4 n74 (by omega) (by omega)), List.forall_mem_cons.mpr ⟨fun t ht => (Option.some.inj ht) ▸ (nz_hz e8), List.forall_mem_cons.mpr ⟨fun t ht => (Option.some.inj ht) ▸ (nz_hz e9), List.forall_mem_nil _⟩⟩⟩)) (fun j hj hn => g j hj (by simp only [List.mem_cons, List.not_mem_nil, or_false, not_or] at hn; omega)) ((congrArg Int32.toInt (zz_i e4)).trans n74) (nz_fi (g 6 (by decide) (by decide))) (nz_fi (g 7 (by decide) (by decide))) ((congrArg Int32.toInt (zz_i e8)).trans (by decide : ((5 : Int32)).toInt = 5)) ((congrArg Int32.toInt (zz_i e9)).trans n73) (nz_fi (g 13 (by decide) (by decide))) (nz_fa (g 25 (by decide) (by decide))) (nz_fa (g 26 (by decide) (by decide))) (nz_fa (g 27 (by decide) (by decide))))
      replace g8 : (sy_i F 4).toInt = 400 := by omega
      by_cases g9 : (sy_i F 6).toInt ≤ 0
      · have c6 := nz_bx hB (k := 6) (lo := 0) (hi := 2) rfl
        have c4 := nz_bx hB (k := 4) (lo := 0) (hi := 400) rfl
        have q71 : (sy_ai F 25).getD (sy_i F 4).toNatClampNeg 0 = (sy_ai F 25).getD ((sy_i F 4).toInt).toNat 0 := by simp only [nz_c]
        have n71 : ((sy_ai F 25).getD (sy_i F 4).toNatClampNeg 0).toInt = ((sy_ai F 25).getD ((sy_i F 4).toInt).toNat 0).toInt := congrArg Int32.toInt q71
        have r71 := nz_ba hB (k := 25) (lo := 0) (hi := 42) rfl ((sy_i F 4).toInt).toNat
        have q72 : (sy_ai F 27).getD (sy_i F 4).toNatClampNeg 0 = (sy_ai F 27).getD ((sy_i F 4).toInt).toNat 0 := by simp only [nz_c]
        have n72 : ((sy_ai F 27).getD (sy_i F 4).toNatClampNeg 0).toInt = ((sy_ai F 27).getD ((sy_i F 4).toInt).toNat 0).toInt := congrArg Int32.toInt q72
        have q73 : (sy_ai F 26).getD (sy_i F 4).toNatClampNeg 0 = (sy_ai F 26).getD ((sy_i F 4).toInt).toNat 0 := by simp only [nz_c]
        have n73 : ((sy_ai F 26).getD (sy_i F 4).toNatClampNeg 0).toInt = ((sy_ai F 26).getD ((sy_i F 4).toInt).toNat 0).toInt := congrArg Int32.toInt q73
        have q74 : (sy_ai F 26).getD (sy_i F 4).toNatClampNeg 0 = (sy_ai F 26).getD ((sy_i F 4).toInt).toNat 0 := by simp only [nz_c]
        have n74 : ((sy_ai F 26).getD (sy_i F 4).toNatClampNeg 0).toInt = ((sy_ai F 26).getD ((sy_i F 4).toInt).toNat 0).toInt := congrArg Int32.toInt q74
        exact bo_0_p7 hd F X1 X2 hB (by first | exact g0 | (simp only [nz_c]; exact g0)) (by first | exact g1 | (simp only [nz_c]; exact g1)) (by first | exact ⟨by omega, by omega⟩ | (simp only [nz_c]; exact ⟨by omega, by omega⟩)) (by first | exact g2 | (simp only [nz_c]; exact g2) | (rw [n71]; exact g2)) (by first | exact ⟨by omega, by omega⟩ | (simp only [nz_c]; exact ⟨by omega, by omega⟩)) (by first | exact g3 | (simp only [nz_c]; exact g3) | (rw [n72]; exact g3)) (by first | exact ⟨by omega, by omega⟩ | (simp only [nz_c]; exact ⟨by omega, by omega⟩)) (by first | exact g4 | (simp only [nz_c]; exact g4)) (by first | exact g5 | (simp only [nz_c]; exact g5)) (by first | exact g6 | (simp only [nz_c]; exact g6) | (rw [n73]; exact g6)) (by first | exact g7 | (simp only [nz_c]; exact g7) | (rw [n73]; exact g7)) (by first | exact g8 | (simp only [nz_c]; exact g8)) (by first | exact g9 | (simp only [nz_c]; exact g9)) (by first | exact ⟨by omega, by omega⟩ | (simp only [nz_c]; exact ⟨by omega, by omega⟩)) (fun F1 g e6 e7 e8 e9 => by rw [q72]; exact k7 g0 g1 g2 g3 g4 g5 g6 g7 g8 g9 F1 (nz_in hB [6, 7, 8, 9] (fun j hj hn => g j hj (by simp only [List.mem_cons, List.not_mem_nil, or_false, not_or] at hn; omega)) (List.forall_mem_cons.mpr ⟨fun t ht => (Option.some.inj ht) ▸ (nz_hi e6 (by decide : ((2 : Int32)).toInt = 2) (by omega) (by omega)), List.forall_mem_cons.mpr ⟨fun t ht => (Option.some.inj ht) ▸ (nz_hz e7), List.forall_mem_cons.mpr ⟨fun t ht => (Option.some.inj ht) ▸ (nz_hz e8), List.forall_mem_cons.mpr ⟨fun t ht => (Option.some.inj ht) ▸ (nz_hz e9), List.forall_mem_nil _⟩⟩⟩⟩)) (fun j hj hn => g j hj (by simp only [List.mem_cons, List.not_mem_nil, or_false, not_or] at hn; omega)) (nz_fi (g 4 (by decide) (by decide))) ((congrArg Int32.toInt (zz_i e6)).trans (by decide : ((2 : Int32)).toInt = 2)) ((congrArg Int32.toInt (zz_i e7)).trans n74) ((congrArg Int32.toInt (zz_i e8)).trans (by decide : ((5 : Int32)).toInt = 5)) ((congrArg Int32.toInt (zz_i e9)).trans n73) (nz_fi (g 13 (by decide) (by decide))) (nz_fa (g 25 (by decide) (by decide))) (nz_fa (g 26 (by decide) (by decide))) (nz_fa (g 27 (by decide) (by decide))))
      replace g9 : 0 < (sy_i F 6).toInt := by omega
      have c6 := nz_bx hB (k := 6) (lo := 0) (hi := 2) rfl
      have c4 := nz_bx hB (k := 4) (lo := 0) (hi := 400) rfl
      have q71 : (sy_ai F 25).getD (sy_i F 4).toNatClampNeg 0 = (sy_ai F 25).getD ((sy_i F 4).toInt).toNat 0 := by simp only [nz_c]
      have n71 : ((sy_ai F 25).getD (sy_i F 4).toNatClampNeg 0).toInt = ((sy_ai F 25).getD ((sy_i F 4).toInt).toNat 0).toInt := congrArg Int32.toInt q71
      have r71 := nz_ba hB (k := 25) (lo := 0) (hi := 42) rfl ((sy_i F 4).toInt).toNat
      have q72 : (sy_ai F 27).getD (sy_i F 4).toNatClampNeg 0 = (sy_ai F 27).getD ((sy_i F 4).toInt).toNat 0 := by simp only [nz_c]
      have n72 : ((sy_ai F 27).getD (sy_i F 4).toNatClampNeg 0).toInt = ((sy_ai F 27).getD ((sy_i F 4).toInt).toNat 0).toInt := congrArg Int32.toInt q72
      have q73 : (sy_ai F 26).getD (sy_i F 4).toNatClampNeg 0 = (sy_ai F 26).getD ((sy_i F 4).toInt).toNat 0 := by simp only [nz_c]
      have n73 : ((sy_ai F 26).getD (sy_i F 4).toNatClampNeg 0).toInt = ((sy_ai F 26).getD ((sy_i F 4).toInt).toNat 0).toInt := congrArg Int32.toInt q73
      exfalso
      omega
    replace g7 : ((sy_ai F 26).getD ((sy_i F 4).toInt).toNat 0).toInt = (sy_i F 9).toInt := by omega
    by_cases g8 : 5 < (sy_i F 8).toInt
    · by_cases g9 : (sy_i F 4).toInt ≠ 400
      · have c6 := nz_bx hB (k := 6) (lo := 0) (hi := 2) rfl
        have c4 := nz_bx hB (k := 4) (lo := 0) (hi := 400) rfl
        have q71 : (sy_ai F 25).getD (sy_i F 4).toNatClampNeg 0 = (sy_ai F 25).getD ((sy_i F 4).toInt).toNat 0 := by simp only [nz_c]
        have n71 : ((sy_ai F 25).getD (sy_i F 4).toNatClampNeg 0).toInt = ((sy_ai F 25).getD ((sy_i F 4).toInt).toNat 0).toInt := congrArg Int32.toInt q71
        have r71 := nz_ba hB (k := 25) (lo := 0) (hi := 42) rfl ((sy_i F 4).toInt).toNat
        have q72 : (sy_ai F 27).getD (sy_i F 4).toNatClampNeg 0 = (sy_ai F 27).getD ((sy_i F 4).toInt).toNat 0 := by simp only [nz_c]
        have n72 : ((sy_ai F 27).getD (sy_i F 4).toNatClampNeg 0).toInt = ((sy_ai F 27).getD ((sy_i F 4).toInt).toNat 0).toInt := congrArg Int32.toInt q72
        have q73 : (sy_ai F 26).getD (sy_i F 4).toNatClampNeg 0 = (sy_ai F 26).getD ((sy_i F 4).toInt).toNat 0 := by simp only [nz_c]
        have n73 : ((sy_ai F 26).getD (sy_i F 4).toNatClampNeg 0).toInt = ((sy_ai F 26).getD ((sy_i F 4).toInt).toNat 0).toInt := congrArg Int32.toInt q73
        have n74 : ((sy_i F 4) + ((1 : Int32))).toInt = ((sy_i F 4).toInt + 1) := nz_add (rfl : (sy_i F 4).toInt = (sy_i F 4).toInt) (by decide : ((1 : Int32)).toInt = 1) (by omega) (by omega)
        exact bo_0_p8 hd F X1 X2 hB (by first | exact g0 | (simp only [nz_c]; exact g0)) (by first | exact g1 | (simp only [nz_c]; exact g1)) (by first | exact ⟨by omega, by omega⟩ | (simp only [nz_c]; exact ⟨by omega, by omega⟩)) (by first | exact g2 | (simp only [nz_c]; exact g2) | (rw [n71]; exact g2)) (by first | exact ⟨by omega, by omega⟩ | (simp only [nz_c]; exact ⟨by omega, by omega⟩)) (by first | exact g3 | (simp only [nz_c]; exact g3) | (rw [n72]; exact g3)) (by first | exact ⟨by omega, by omega⟩ | (simp only [nz_c]; exact ⟨by omega, by omega⟩)) (by first | exact g4 | (simp only [nz_c]; exact g4)) (by first | exact g5 | (simp only [nz_c]; exact g5)) (by first | exact g6 | (simp only [nz_c]; exact g6) | (rw [n73]; exact g6)) (by first | exact g7 | (simp only [nz_c]; exact g7) | (rw [n73]; exact g7)) (by first | exact g8 | (simp only [nz_c]; exact g8)) (by first | exact g9 | (simp only [nz_c]; exact g9)) (fun F1 g e4 e8 e9 => by rw [q72]; exact k8 g0 g1 g2 g3 g4 g5 g6 g7 g8 g9 F1 (nz_in hB [4, 8, 9] (fun j hj hn => g j hj (by simp only [List.mem_cons, List.not_mem_nil, or_false, not_or] at hn; omega)) (List.forall_mem_cons.mpr ⟨fun t ht => (Option.some.inj ht) ▸ (nz_hi e4 n74 (by omega) (by omega)), List.forall_mem_cons.mpr ⟨fun t ht => (Option.some.inj ht) ▸ (nz_hz e8), List.forall_mem_cons.mpr ⟨fun t ht => (Option.some.inj ht) ▸ (nz_hz e9), List.forall_mem_nil _⟩⟩⟩)) (fun j hj hn => g j hj (by simp only [List.mem_cons, List.not_mem_nil, or_false, not_or] at hn; omega)) ((congrArg Int32.toInt (zz_i e4)).trans n74) (nz_fi (g 6 (by decide) (by decide))) (nz_fi (g 7 (by decide) (by decide))) ((congrArg Int32.toInt (zz_i e8)).trans (by decide : ((5 : Int32)).toInt = 5)) ((congrArg Int32.toInt (zz_i e9)).trans n73) (nz_fi (g 13 (by decide) (by decide))) (nz_fa (g 25 (by decide) (by decide))) (nz_fa (g 26 (by decide) (by decide))) (nz_fa (g 27 (by decide) (by decide))))
      replace g9 : (sy_i F 4).toInt = 400 := by omega
      by_cases g10 : (sy_i F 6).toInt ≤ 0
      · have c6 := nz_bx hB (k := 6) (lo := 0) (hi := 2) rfl
        have c4 := nz_bx hB (k := 4) (lo := 0) (hi := 400) rfl
        have q71 : (sy_ai F 25).getD (sy_i F 4).toNatClampNeg 0 = (sy_ai F 25).getD ((sy_i F 4).toInt).toNat 0 := by simp only [nz_c]
        have n71 : ((sy_ai F 25).getD (sy_i F 4).toNatClampNeg 0).toInt = ((sy_ai F 25).getD ((sy_i F 4).toInt).toNat 0).toInt := congrArg Int32.toInt q71
        have r71 := nz_ba hB (k := 25) (lo := 0) (hi := 42) rfl ((sy_i F 4).toInt).toNat
        have q72 : (sy_ai F 27).getD (sy_i F 4).toNatClampNeg 0 = (sy_ai F 27).getD ((sy_i F 4).toInt).toNat 0 := by simp only [nz_c]
        have n72 : ((sy_ai F 27).getD (sy_i F 4).toNatClampNeg 0).toInt = ((sy_ai F 27).getD ((sy_i F 4).toInt).toNat 0).toInt := congrArg Int32.toInt q72
        have q73 : (sy_ai F 26).getD (sy_i F 4).toNatClampNeg 0 = (sy_ai F 26).getD ((sy_i F 4).toInt).toNat 0 := by simp only [nz_c]
        have n73 : ((sy_ai F 26).getD (sy_i F 4).toNatClampNeg 0).toInt = ((sy_ai F 26).getD ((sy_i F 4).toInt).toNat 0).toInt := congrArg Int32.toInt q73
        have q74 : (sy_ai F 26).getD (sy_i F 4).toNatClampNeg 0 = (sy_ai F 26).getD ((sy_i F 4).toInt).toNat 0 := by simp only [nz_c]
        have n74 : ((sy_ai F 26).getD (sy_i F 4).toNatClampNeg 0).toInt = ((sy_ai F 26).getD ((sy_i F 4).toInt).toNat 0).toInt := congrArg Int32.toInt q74
        exact bo_0_p9 hd F X1 X2 hB (by first | exact g0 | (simp only [nz_c]; exact g0)) (by first | exact g1 | (simp only [nz_c]; exact g1)) (by first | exact ⟨by omega, by omega⟩ | (simp only [nz_c]; exact ⟨by omega, by omega⟩)) (by first | exact g2 | (simp only [nz_c]; exact g2) | (rw [n71]; exact g2)) (by first | exact ⟨by omega, by omega⟩ | (simp only [nz_c]; exact ⟨by omega, by omega⟩)) (by first | exact g3 | (simp only [nz_c]; exact g3) | (rw [n72]; exact g3)) (by first | exact ⟨by omega, by omega⟩ | (simp only [nz_c]; exact ⟨by omega, by omega⟩)) (by first | exact g4 | (simp only [nz_c]; exact g4)) (by first | exact g5 | (simp only [nz_c]; exact g5)) (by first | exact g6 | (simp only [nz_c]; exact g6) | (rw [n73]; exact g6)) (by first | exact g7 | (simp only [nz_c]; exact g7) | (rw [n73]; exact g7)) (by first | exact g8 | (simp only [nz_c]; exact g8)) (by first | exact g9 | (simp only [nz_c]; exact g9)) (by first | exact g10 | (simp only [nz_c]; exact g10)) (by first | exact ⟨by omega, by omega⟩ | (simp only [nz_c]; exact ⟨by omega, by omega⟩)) (fun F1 g e6 e7 e8 e9 => by rw [q72]; exact k9 g0 g1 g2 g3 g4 g5 g6 g7 g8 g9 g10 F1 (nz_in hB [6, 7, 8, 9] (fun j hj hn => g j hj (by simp only [List.mem_cons, List.not_mem_nil, or_false, not_or] at hn; omega)) (List.forall_mem_cons.mpr ⟨fun t ht => (Option.some.inj ht) ▸ (nz_hi e6 (by decide : ((2 : Int32)).toInt = 2) (by omega) (by omega)), List.forall_mem_cons.mpr ⟨fun t ht => (Option.some.inj ht) ▸ (nz_hz e7), List.forall_mem_cons.mpr ⟨fun t ht => (Option.some.inj ht) ▸ (nz_hz e8), List.forall_mem_cons.mpr ⟨fun t ht => (Option.some.inj ht) ▸ (nz_hz e9), List.forall_mem_nil _⟩⟩⟩⟩)) (fun j hj hn => g j hj (by simp only [List.mem_cons, List.not_mem_nil, or_false, not_or] at hn; omega)) (nz_fi (g 4 (by decide) (by decide))) ((congrArg Int32.toInt (zz_i e6)).trans (by decide : ((2 : Int32)).toInt = 2)) ((congrArg Int32.toInt (zz_i e7)).trans n74) ((congrArg Int32.toInt (zz_i e8)).trans (by decide : ((5 : Int32)).toInt = 5)) ((congrArg Int32.toInt (zz_i e9)).trans n73) (nz_fi (g 13 (by decide) (by decide))) (nz_fa (g 25 (by decide) (by decide))) (nz_fa (g 26 (by decide) (by decide))) (nz_fa (g 27 (by decide) (by decide))))
      replace g10 : 0 < (sy_i F 6).toInt := by omega
      have c6 := nz_bx hB (k := 6) (lo := 0) (hi := 2) rfl
      have c4 := nz_bx hB (k := 4) (lo := 0) (hi := 400) rfl
      have q71 : (sy_ai F 25).getD (sy_i F 4).toNatClampNeg 0 = (sy_ai F 25).getD ((sy_i F 4).toInt).toNat 0 := by simp only [nz_c]
      have n71 : ((sy_ai F 25).getD (sy_i F 4).toNatClampNeg 0).toInt = ((sy_ai F 25).getD ((sy_i F 4).toInt).toNat 0).toInt := congrArg Int32.toInt q71
      have r71 := nz_ba hB (k := 25) (lo := 0) (hi := 42) rfl ((sy_i F 4).toInt).toNat
      have q72 : (sy_ai F 27).getD (sy_i F 4).toNatClampNeg 0 = (sy_ai F 27).getD ((sy_i F 4).toInt).toNat 0 := by simp only [nz_c]
      have n72 : ((sy_ai F 27).getD (sy_i F 4).toNatClampNeg 0).toInt = ((sy_ai F 27).getD ((sy_i F 4).toInt).toNat 0).toInt := congrArg Int32.toInt q72
      have q73 : (sy_ai F 26).getD (sy_i F 4).toNatClampNeg 0 = (sy_ai F 26).getD ((sy_i F 4).toInt).toNat 0 := by simp only [nz_c]
      have n73 : ((sy_ai F 26).getD (sy_i F 4).toNatClampNeg 0).toInt = ((sy_ai F 26).getD ((sy_i F 4).toInt).toNat 0).toInt := congrArg Int32.toInt q73
      exfalso
      omega
    replace g8 : (sy_i F 8).toInt ≤ 5 := by omega
    by_cases g9 : (sy_i F 4).toInt ≠ 400
    · have c6 := nz_bx hB (k := 6) (lo := 0) (hi := 2) rfl
      have c4 := nz_bx hB (k := 4) (lo := 0) (hi := 400) rfl
      have q71 : (sy_ai F 25).getD (sy_i F 4).toNatClampNeg 0 = (sy_ai F 25).getD ((sy_i F 4).toInt).toNat 0 := by simp only [nz_c]
      have n71 : ((sy_ai F 25).getD (sy_i F 4).toNatClampNeg 0).toInt = ((sy_ai F 25).getD ((sy_i F 4).toInt).toNat 0).toInt := congrArg Int32.toInt q71
      have r71 := nz_ba hB (k := 25) (lo := 0) (hi := 42) rfl ((sy_i F 4).toInt).toNat
      have q72 : (sy_ai F 27).getD (sy_i F 4).toNatClampNeg 0 = (sy_ai F 27).getD ((sy_i F 4).toInt).toNat 0 := by simp only [nz_c]
      have n72 : ((sy_ai F 27).getD (sy_i F 4).toNatClampNeg 0).toInt = ((sy_ai F 27).getD ((sy_i F 4).toInt).toNat 0).toInt := congrArg Int32.toInt q72
      have q73 : (sy_ai F 26).getD (sy_i F 4).toNatClampNeg 0 = (sy_ai F 26).getD ((sy_i F 4).toInt).toNat 0 := by simp only [nz_c]
      have n73 : ((sy_ai F 26).getD (sy_i F 4).toNatClampNeg 0).toInt = ((sy_ai F 26).getD ((sy_i F 4).toInt).toNat 0).toInt := congrArg Int32.toInt q73
      have n74 : ((sy_i F 4) + ((1 : Int32))).toInt = ((sy_i F 4).toInt + 1) := nz_add (rfl : (sy_i F 4).toInt = (sy_i F 4).toInt) (by decide : ((1 : Int32)).toInt = 1) (by omega) (by omega)
      exact bo_0_p10 hd F X1 X2 hB (by first | exact g0 | (simp only [nz_c]; exact g0)) (by first | exact g1 | (simp only [nz_c]; exact g1)) (by first | exact ⟨by omega, by omega⟩ | (simp only [nz_c]; exact ⟨by omega, by omega⟩)) (by first | exact g2 | (simp only [nz_c]; exact g2) | (rw [n71]; exact g2)) (by first | exact ⟨by omega, by omega⟩ | (simp only [nz_c]; exact ⟨by omega, by omega⟩)) (by first | exact g3 | (simp only [nz_c]; exact g3) | (rw [n72]; exact g3)) (by first | exact ⟨by omega, by omega⟩ | (simp only [nz_c]; exact ⟨by omega, by omega⟩)) (by first | exact g4 | (simp only [nz_c]; exact g4)) (by first | exact g5 | (simp only [nz_c]; exact g5)) (by first | exact g6 | (simp only [nz_c]; exact g6) | (rw [n73]; exact g6)) (by first | exact g7 | (simp only [nz_c]; exact g7) | (rw [n73]; exact g7)) (by first | exact g8 | (simp only [nz_c]; exact g8)) (by first | exact g9 | (simp only [nz_c]; exact g9)) (fun F1 g e4 => by rw [q72]; exact k10 g0 g1 g2 g3 g4 g5 g6 g7 g8 g9 F1 (nz_in hB [4] (fun j hj hn => g j hj (by simp only [List.mem_cons, List.not_mem_nil, or_false, not_or] at hn; omega)) (List.forall_mem_cons.mpr ⟨fun t ht => (Option.some.inj ht) ▸ (nz_hi e4 n74 (by omega) (by omega)), List.forall_mem_nil _⟩)) (fun j hj hn => g j hj (by simp only [List.mem_cons, List.not_mem_nil, or_false, not_or] at hn; omega)) ((congrArg Int32.toInt (zz_i e4)).trans n74) (nz_fi (g 6 (by decide) (by decide))) (nz_fi (g 7 (by decide) (by decide))) (nz_fi (g 8 (by decide) (by decide))) (nz_fi (g 9 (by decide) (by decide))) (nz_fi (g 13 (by decide) (by decide))) (nz_fa (g 25 (by decide) (by decide))) (nz_fa (g 26 (by decide) (by decide))) (nz_fa (g 27 (by decide) (by decide))))
    replace g9 : (sy_i F 4).toInt = 400 := by omega
    by_cases g10 : (sy_i F 6).toInt ≤ 0
    · have c6 := nz_bx hB (k := 6) (lo := 0) (hi := 2) rfl
      have c4 := nz_bx hB (k := 4) (lo := 0) (hi := 400) rfl
      have q71 : (sy_ai F 25).getD (sy_i F 4).toNatClampNeg 0 = (sy_ai F 25).getD ((sy_i F 4).toInt).toNat 0 := by simp only [nz_c]
      have n71 : ((sy_ai F 25).getD (sy_i F 4).toNatClampNeg 0).toInt = ((sy_ai F 25).getD ((sy_i F 4).toInt).toNat 0).toInt := congrArg Int32.toInt q71
      have r71 := nz_ba hB (k := 25) (lo := 0) (hi := 42) rfl ((sy_i F 4).toInt).toNat
      have q72 : (sy_ai F 27).getD (sy_i F 4).toNatClampNeg 0 = (sy_ai F 27).getD ((sy_i F 4).toInt).toNat 0 := by simp only [nz_c]
      have n72 : ((sy_ai F 27).getD (sy_i F 4).toNatClampNeg 0).toInt = ((sy_ai F 27).getD ((sy_i F 4).toInt).toNat 0).toInt := congrArg Int32.toInt q72
      have q73 : (sy_ai F 26).getD (sy_i F 4).toNatClampNeg 0 = (sy_ai F 26).getD ((sy_i F 4).toInt).toNat 0 := by simp only [nz_c]
      have n73 : ((sy_ai F 26).getD (sy_i F 4).toNatClampNeg 0).toInt = ((sy_ai F 26).getD ((sy_i F 4).toInt).toNat 0).toInt := congrArg Int32.toInt q73
      have q74 : (sy_ai F 26).getD (sy_i F 4).toNatClampNeg 0 = (sy_ai F 26).getD ((sy_i F 4).toInt).toNat 0 := by simp only [nz_c]
      have n74 : ((sy_ai F 26).getD (sy_i F 4).toNatClampNeg 0).toInt = ((sy_ai F 26).getD ((sy_i F 4).toInt).toNat 0).toInt := congrArg Int32.toInt q74
      exact bo_0_p11 hd F X1 X2 hB (by first | exact g0 | (simp only [nz_c]; exact g0)) (by first | exact g1 | (simp only [nz_c]; exact g1)) (by first | exact ⟨by omega, by omega⟩ | (simp only [nz_c]; exact ⟨by omega, by omega⟩)) (by first | exact g2 | (simp only [nz_c]; exact g2) | (rw [n71]; exact g2)) (by first | exact ⟨by omega, by omega⟩ | (simp only [nz_c]; exact ⟨by omega, by omega⟩)) (by first | exact g3 | (simp only [nz_c]; exact g3) | (rw [n72]; exact g3)) (by first | exact ⟨by omega, by omega⟩ | (simp only [nz_c]; exact ⟨by omega, by omega⟩)) (by first | exact g4 | (simp only [nz_c]; exact g4)) (by first | exact g5 | (simp only [nz_c]; exact g5)) (by first | exact g6 | (simp only [nz_c]; exact g6) | (rw [n73]; exact g6)) (by first | exact g7 | (simp only [nz_c]; exact g7) | (rw [n73]; exact g7)) (by first | exact g8 | (simp only [nz_c]; exact g8)) (by first | exact g9 | (simp only [nz_c]; exact g9)) (by first | exact g10 | (simp only [nz_c]; exact g10)) (by first | exact ⟨by omega, by omega⟩ | (simp only [nz_c]; exact ⟨by omega, by omega⟩)) (fun F1 g e6 e7 => by rw [q72]; exact k11 g0 g1 g2 g3 g4 g5 g6 g7 g8 g9 g10 F1 (nz_in hB [6, 7] (fun j hj hn => g j hj (by simp only [List.mem_cons, List.not_mem_nil, or_false, not_or] at hn; omega)) (List.forall_mem_cons.mpr ⟨fun t ht => (Option.some.inj ht) ▸ (nz_hi e6 (by decide : ((2 : Int32)).toInt = 2) (by omega) (by omega)), List.forall_mem_cons.mpr ⟨fun t ht => (Option.some.inj ht) ▸ (nz_hz e7), List.forall_mem_nil _⟩⟩)) (fun j hj hn => g j hj (by simp only [List.mem_cons, List.not_mem_nil, or_false, not_or] at hn; omega)) (nz_fi (g 4 (by decide) (by decide))) ((congrArg Int32.toInt (zz_i e6)).trans (by decide : ((2 : Int32)).toInt = 2)) ((congrArg Int32.toInt (zz_i e7)).trans n74) (nz_fi (g 8 (by decide) (by decide))) (nz_fi (g 9 (by decide) (by decide))) (nz_fi (g 13 (by decide) (by decide))) (nz_fa (g 25 (by decide) (by decide))) (nz_fa (g 26 (by decide) (by decide))) (nz_fa (g 27 (by decide) (by decide))))
    replace g10 : 0 < (sy_i F 6).toInt := by omega
    have c6 := nz_bx hB (k := 6) (lo := 0) (hi := 2) rfl
    have c4 := nz_bx hB (k := 4) (lo := 0) (hi := 400) rfl
    have q71 : (sy_ai F 25).getD (sy_i F 4).toNatClampNeg 0 = (sy_ai F 25).getD ((sy_i F 4).toInt).toNat 0 := by simp only [nz_c]
    have n71 : ((sy_ai F 25).getD (sy_i F 4).toNatClampNeg 0).toInt = ((sy_ai F 25).getD ((sy_i F 4).toInt).toNat 0).toInt := congrArg Int32.toInt q71
    have r71 := nz_ba hB (k := 25) (lo := 0) (hi := 42) rfl ((sy_i F 4).toInt).toNat
    have q72 : (sy_ai F 27).getD (sy_i F 4).toNatClampNeg 0 = (sy_ai F 27).getD ((sy_i F 4).toInt).toNat 0 := by simp only [nz_c]
    have n72 : ((sy_ai F 27).getD (sy_i F 4).toNatClampNeg 0).toInt = ((sy_ai F 27).getD ((sy_i F 4).toInt).toNat 0).toInt := congrArg Int32.toInt q72
    have q73 : (sy_ai F 26).getD (sy_i F 4).toNatClampNeg 0 = (sy_ai F 26).getD ((sy_i F 4).toInt).toNat 0 := by simp only [nz_c]
    have n73 : ((sy_ai F 26).getD (sy_i F 4).toNatClampNeg 0).toInt = ((sy_ai F 26).getD ((sy_i F 4).toInt).toNat 0).toInt := congrArg Int32.toInt q73
    exfalso
    omega
  replace g3 : (sy_i F 69).toInt ≤ ((sy_ai F 27).getD ((sy_i F 4).toInt).toNat 0).toInt := by omega
  by_cases g4 : ((sy_ai F 27).getD ((sy_i F 4).toInt).toNat 0).toInt ≤ (sy_i F 70).toInt
  · by_cases g5 : (sy_i F 4).toInt ≠ 400
    · have c6 := nz_bx hB (k := 6) (lo := 0) (hi := 2) rfl
      have c4 := nz_bx hB (k := 4) (lo := 0) (hi := 400) rfl
      have q71 : (sy_ai F 25).getD (sy_i F 4).toNatClampNeg 0 = (sy_ai F 25).getD ((sy_i F 4).toInt).toNat 0 := by simp only [nz_c]
      have n71 : ((sy_ai F 25).getD (sy_i F 4).toNatClampNeg 0).toInt = ((sy_ai F 25).getD ((sy_i F 4).toInt).toNat 0).toInt := congrArg Int32.toInt q71
      have r71 := nz_ba hB (k := 25) (lo := 0) (hi := 42) rfl ((sy_i F 4).toInt).toNat
      have q72 : (sy_ai F 27).getD (sy_i F 4).toNatClampNeg 0 = (sy_ai F 27).getD ((sy_i F 4).toInt).toNat 0 := by simp only [nz_c]
      have n72 : ((sy_ai F 27).getD (sy_i F 4).toNatClampNeg 0).toInt = ((sy_ai F 27).getD ((sy_i F 4).toInt).toNat 0).toInt := congrArg Int32.toInt q72
      have n73 : ((sy_i F 4) + ((1 : Int32))).toInt = ((sy_i F 4).toInt + 1) := nz_add (rfl : (sy_i F 4).toInt = (sy_i F 4).toInt) (by decide : ((1 : Int32)).toInt = 1) (by omega) (by omega)
      exact bo_0_p12 hd F X1 X2 hB (by first | exact g0 | (simp only [nz_c]; exact g0)) (by first | exact g1 | (simp only [nz_c]; exact g1)) (by first | exact ⟨by omega, by omega⟩ | (simp only [nz_c]; exact ⟨by omega, by omega⟩)) (by first | exact g2 | (simp only [nz_c]; exact g2) | (rw [n71]; exact g2)) (by first | exact ⟨by omega, by omega⟩ | (simp only [nz_c]; exact ⟨by omega, by omega⟩)) (by first | exact g3 | (simp only [nz_c]; exact g3) | (rw [n72]; exact g3)) (by first | exact g4 | (simp only [nz_c]; exact g4) | (rw [n72]; exact g4)) (by first | exact g5 | (simp only [nz_c]; exact g5)) (fun F1 g e4 => by rw [q72]; exact k12 g0 g1 g2 g3 g4 g5 F1 (nz_in hB [4] (fun j hj hn => g j hj (by simp only [List.mem_cons, List.not_mem_nil, or_false, not_or] at hn; omega)) (List.forall_mem_cons.mpr ⟨fun t ht => (Option.some.inj ht) ▸ (nz_hi e4 n73 (by omega) (by omega)), List.forall_mem_nil _⟩)) (fun j hj hn => g j hj (by simp only [List.mem_cons, List.not_mem_nil, or_false, not_or] at hn; omega)) ((congrArg Int32.toInt (zz_i e4)).trans n73) (nz_fi (g 6 (by decide) (by decide))) (nz_fi (g 7 (by decide) (by decide))) (nz_fi (g 8 (by decide) (by decide))) (nz_fi (g 9 (by decide) (by decide))) (nz_fi (g 13 (by decide) (by decide))) (nz_fa (g 25 (by decide) (by decide))) (nz_fa (g 26 (by decide) (by decide))) (nz_fa (g 27 (by decide) (by decide))))
    replace g5 : (sy_i F 4).toInt = 400 := by omega
    by_cases g6 : (sy_i F 6).toInt ≤ 0
    · have c6 := nz_bx hB (k := 6) (lo := 0) (hi := 2) rfl
      have c4 := nz_bx hB (k := 4) (lo := 0) (hi := 400) rfl
      have q71 : (sy_ai F 25).getD (sy_i F 4).toNatClampNeg 0 = (sy_ai F 25).getD ((sy_i F 4).toInt).toNat 0 := by simp only [nz_c]
      have n71 : ((sy_ai F 25).getD (sy_i F 4).toNatClampNeg 0).toInt = ((sy_ai F 25).getD ((sy_i F 4).toInt).toNat 0).toInt := congrArg Int32.toInt q71
      have r71 := nz_ba hB (k := 25) (lo := 0) (hi := 42) rfl ((sy_i F 4).toInt).toNat
      have q72 : (sy_ai F 27).getD (sy_i F 4).toNatClampNeg 0 = (sy_ai F 27).getD ((sy_i F 4).toInt).toNat 0 := by simp only [nz_c]
      have n72 : ((sy_ai F 27).getD (sy_i F 4).toNatClampNeg 0).toInt = ((sy_ai F 27).getD ((sy_i F 4).toInt).toNat 0).toInt := congrArg Int32.toInt q72
      have q73 : (sy_ai F 26).getD (sy_i F 4).toNatClampNeg 0 = (sy_ai F 26).getD ((sy_i F 4).toInt).toNat 0 := by simp only [nz_c]
      have n73 : ((sy_ai F 26).getD (sy_i F 4).toNatClampNeg 0).toInt = ((sy_ai F 26).getD ((sy_i F 4).toInt).toNat 0).toInt := congrArg Int32.toInt q73
      exact bo_0_p13 hd F X1 X2 hB (by first | exact g0 | (simp only [nz_c]; exact g0)) (by first | exact g1 | (simp only [nz_c]; exact g1)) (by first | exact ⟨by omega, by omega⟩ | (simp only [nz_c]; exact ⟨by omega, by omega⟩)) (by first | exact g2 | (simp only [nz_c]; exact g2) | (rw [n71]; exact g2)) (by first | exact ⟨by omega, by omega⟩ | (simp only [nz_c]; exact ⟨by omega, by omega⟩)) (by first | exact g3 | (simp only [nz_c]; exact g3) | (rw [n72]; exact g3)) (by first | exact g4 | (simp only [nz_c]; exact g4) | (rw [n72]; exact g4)) (by first | exact g5 | (simp only [nz_c]; exact g5)) (by first | exact g6 | (simp only [nz_c]; exact g6)) (by first | exact ⟨by omega, by omega⟩ | (simp only [nz_c]; exact ⟨by omega, by omega⟩)) (fun F1 g e6 e7 => by rw [q72]; exact k13 g0 g1 g2 g3 g4 g5 g6 F1 (nz_in hB [6, 7] (fun j hj hn => g j hj (by simp only [List.mem_cons, List.not_mem_nil, or_false, not_or] at hn; omega)) (List.forall_mem_cons.mpr ⟨fun t ht => (Option.some.inj ht) ▸ (nz_hi e6 (by decide : ((2 : Int32)).toInt = 2) (by omega) (by omega)), List.forall_mem_cons.mpr ⟨fun t ht => (Option.some.inj ht) ▸ (nz_hz e7), List.forall_mem_nil _⟩⟩)) (fun j hj hn => g j hj (by simp only [List.mem_cons, List.not_mem_nil, or_false, not_or] at hn; omega)) (nz_fi (g 4 (by decide) (by decide))) ((congrArg Int32.toInt (zz_i e6)).trans (by decide : ((2 : Int32)).toInt = 2)) ((congrArg Int32.toInt (zz_i e7)).trans n73) (nz_fi (g 8 (by decide) (by decide))) (nz_fi (g 9 (by decide) (by decide))) (nz_fi (g 13 (by decide) (by decide))) (nz_fa (g 25 (by decide) (by decide))) (nz_fa (g 26 (by decide) (by decide))) (nz_fa (g 27 (by decide) (by decide))))
    replace g6 : 0 < (sy_i F 6).toInt := by omega
    have c6 := nz_bx hB (k := 6) (lo := 0) (hi := 2) rfl
    have c4 := nz_bx hB (k := 4) (lo := 0) (hi := 400) rfl
    have q71 : (sy_ai F 25).getD (sy_i F 4).toNatClampNeg 0 = (sy_ai F 25).getD ((sy_i F 4).toInt).toNat 0 := by simp only [nz_c]
    have n71 : ((sy_ai F 25).getD (sy_i F 4).toNatClampNeg 0).toInt = ((sy_ai F 25).getD ((sy_i F 4).toInt).toNat 0).toInt := congrArg Int32.toInt q71
    have r71 := nz_ba hB (k := 25) (lo := 0) (hi := 42) rfl ((sy_i F 4).toInt).toNat
    have q72 : (sy_ai F 27).getD (sy_i F 4).toNatClampNeg 0 = (sy_ai F 27).getD ((sy_i F 4).toInt).toNat 0 := by simp only [nz_c]
    have n72 : ((sy_ai F 27).getD (sy_i F 4).toNatClampNeg 0).toInt = ((sy_ai F 27).getD ((sy_i F 4).toInt).toNat 0).toInt := congrArg Int32.toInt q72
    exfalso
    omega
  replace g4 : (sy_i F 70).toInt < ((sy_ai F 27).getD ((sy_i F 4).toInt).toNat 0).toInt := by omega
  by_cases g5 : 0 < (sy_i F 6).toInt
  · have c6 := nz_bx hB (k := 6) (lo := 0) (hi := 2) rfl
    have c4 := nz_bx hB (k := 4) (lo := 0) (hi := 400) rfl
    have q71 : (sy_ai F 25).getD (sy_i F 4).toNatClampNeg 0 = (sy_ai F 25).getD ((sy_i F 4).toInt).toNat 0 := by simp only [nz_c]
    have n71 : ((sy_ai F 25).getD (sy_i F 4).toNatClampNeg 0).toInt = ((sy_ai F 25).getD ((sy_i F 4).toInt).toNat 0).toInt := congrArg Int32.toInt q71
    have r71 := nz_ba hB (k := 25) (lo := 0) (hi := 42) rfl ((sy_i F 4).toInt).toNat
    have q72 : (sy_ai F 27).getD (sy_i F 4).toNatClampNeg 0 = (sy_ai F 27).getD ((sy_i F 4).toInt).toNat 0 := by simp only [nz_c]
    have n72 : ((sy_ai F 27).getD (sy_i F 4).toNatClampNeg 0).toInt = ((sy_ai F 27).getD ((sy_i F 4).toInt).toNat 0).toInt := congrArg Int32.toInt q72
    exfalso
    omega
  replace g5 : (sy_i F 6).toInt ≤ 0 := by omega
  by_cases g6 : (sy_i F 8).toInt = 0
  · by_cases g7 : (sy_i F 4).toInt ≠ 400
    · have c6 := nz_bx hB (k := 6) (lo := 0) (hi := 2) rfl
      have c4 := nz_bx hB (k := 4) (lo := 0) (hi := 400) rfl
      have q71 : (sy_ai F 25).getD (sy_i F 4).toNatClampNeg 0 = (sy_ai F 25).getD ((sy_i F 4).toInt).toNat 0 := by simp only [nz_c]
      have n71 : ((sy_ai F 25).getD (sy_i F 4).toNatClampNeg 0).toInt = ((sy_ai F 25).getD ((sy_i F 4).toInt).toNat 0).toInt := congrArg Int32.toInt q71
      have r71 := nz_ba hB (k := 25) (lo := 0) (hi := 42) rfl ((sy_i F 4).toInt).toNat
      have q72 : (sy_ai F 27).getD (sy_i F 4).toNatClampNeg 0 = (sy_ai F 27).getD ((sy_i F 4).toInt).toNat 0 := by simp only [nz_c]
      have n72 : ((sy_ai F 27).getD (sy_i F 4).toNatClampNeg 0).toInt = ((sy_ai F 27).getD ((sy_i F 4).toInt).toNat 0).toInt := congrArg Int32.toInt q72
      have n74 : ((sy_i F 4) + ((1 : Int32))).toInt = ((sy_i F 4).toInt + 1) := nz_add (rfl : (sy_i F 4).toInt = (sy_i F 4).toInt) (by decide : ((1 : Int32)).toInt = 1) (by omega) (by omega)
      have q73 : (sy_ai F 26).getD (sy_i F 4).toNatClampNeg 0 = (sy_ai F 26).getD ((sy_i F 4).toInt).toNat 0 := by simp only [nz_c]
      have n73 : ((sy_ai F 26).getD (sy_i F 4).toNatClampNeg 0).toInt = ((sy_ai F 26).getD ((sy_i F 4).toInt).toNat 0).toInt := congrArg Int32.toInt q73
      exact bo_0_p14 hd F X1 X2 hB (by first | exact g0 | (simp only [nz_c]; exact g0)) (by first | exact g1 | (simp only [nz_c]; exact g1)) (by first | exact ⟨by omega, by omega⟩ | (simp only [nz_c]; exact ⟨by omega, by omega⟩)) (by first | exact g2 | (simp only [nz_c]; exact g2) | (rw [n71]; exact g2)) (by first | exact ⟨by omega, by omega⟩ | (simp only [nz_c]; exact ⟨by omega, by omega⟩)) (by first | exact g3 | (simp only [nz_c]; exact g3) | (rw [n72]; exact g3)) (by first | exact g4 | (simp only [nz_c]; exact g4) | (rw [n72]; exact g4)) (by first | exact ⟨by omega, by omega⟩ | (simp only [nz_c]; exact ⟨by omega, by omega⟩)) (by first | exact g5 | (simp only [nz_c]; exact g5)) (by first | exact g6 | (simp only [nz_c]; exact g6)) (by first | exact g7 | (simp only [nz_c]; exact g7)) (fun F1 g e4 e8 e9 => by rw [q72]; exact k14 g0 g1 g2 g3 g4 g5 g6 g7 F1 (nz_in hB [4, 8, 9] (fun j hj hn => g j hj (by simp only [List.mem_cons, List.not_mem_nil, or_false, not_or] at hn; omega)) (List.forall_mem_cons.mpr ⟨fun t ht => (Option.some.inj ht) ▸ (nz_hi e4 n74 (by omega) (by omega)), List.forall_mem_cons.mpr ⟨fun t ht => (Option.some.inj ht) ▸ (nz_hz e8), List.forall_mem_cons.mpr ⟨fun t ht => (Option.some.inj ht) ▸ (nz_hz e9), List.forall_mem_nil _⟩⟩⟩)) (fun j hj hn => g j hj (by simp only [List.mem_cons, List.not_mem_nil, or_false, not_or] at hn; omega)) ((congrArg Int32.toInt (zz_i e4)).trans n74) (nz_fi (g 6 (by decide) (by decide))) (nz_fi (g 7 (by decide) (by decide))) ((congrArg Int32.toInt (zz_i e8)).trans (by decide : ((5 : Int32)).toInt = 5)) ((congrArg Int32.toInt (zz_i e9)).trans n73) (nz_fi (g 13 (by decide) (by decide))) (nz_fa (g 25 (by decide) (by decide))) (nz_fa (g 26 (by decide) (by decide))) (nz_fa (g 27 (by decide) (by decide))))
    replace g7 : (sy_i F 4).toInt = 400 := by omega
    by_cases g8 : (sy_i F 6).toInt ≤ 0
    · have c6 := nz_bx hB (k := 6) (lo := 0) (hi := 2) rfl
      have c4 := nz_bx hB (k := 4) (lo := 0) (hi := 400) rfl
      have q71 : (sy_ai F 25).getD (sy_i F 4).toNatClampNeg 0 = (sy_ai F 25).getD ((sy_i F 4).toInt).toNat 0 := by simp only [nz_c]
      have n71 : ((sy_ai F 25).getD (sy_i F 4).toNatClampNeg 0).toInt = ((sy_ai F 25).getD ((sy_i F 4).toInt).toNat 0).toInt := congrArg Int32.toInt q71
      have r71 := nz_ba hB (k := 25) (lo := 0) (hi := 42) rfl ((sy_i F 4).toInt).toNat
      have q72 : (sy_ai F 27).getD (sy_i F 4).toNatClampNeg 0 = (sy_ai F 27).getD ((sy_i F 4).toInt).toNat 0 := by simp only [nz_c]
      have n72 : ((sy_ai F 27).getD (sy_i F 4).toNatClampNeg 0).toInt = ((sy_ai F 27).getD ((sy_i F 4).toInt).toNat 0).toInt := congrArg Int32.toInt q72
      have q74 : (sy_ai F 26).getD (sy_i F 4).toNatClampNeg 0 = (sy_ai F 26).getD ((sy_i F 4).toInt).toNat 0 := by simp only [nz_c]
      have n74 : ((sy_ai F 26).getD (sy_i F 4).toNatClampNeg 0).toInt = ((sy_ai F 26).getD ((sy_i F 4).toInt).toNat 0).toInt := congrArg Int32.toInt q74
      have q73 : (sy_ai F 26).getD (sy_i F 4).toNatClampNeg 0 = (sy_ai F 26).getD ((sy_i F 4).toInt).toNat 0 := by simp only [nz_c]
      have n73 : ((sy_ai F 26).getD (sy_i F 4).toNatClampNeg 0).toInt = ((sy_ai F 26).getD ((sy_i F 4).toInt).toNat 0).toInt := congrArg Int32.toInt q73
      exact bo_0_p15 hd F X1 X2 hB (by first | exact g0 | (simp only [nz_c]; exact g0)) (by first | exact g1 | (simp only [nz_c]; exact g1)) (by first | exact ⟨by omega, by omega⟩ | (simp only [nz_c]; exact ⟨by omega, by omega⟩)) (by first | exact g2 | (simp only [nz_c]; exact g2) | (rw [n71]; exact g2)) (by first | exact ⟨by omega, by omega⟩ | (simp only [nz_c]; exact ⟨by omega, by omega⟩)) (by first | exact g3 | (simp only [nz_c]; exact g3) | (rw [n72]; exact g3)) (by first | exact g4 | (simp only [nz_c]; exact g4) | (rw [n72]; exact g4)) (by first | exact ⟨by omega, by omega⟩ | (simp only [nz_c]; exact ⟨by omega, by omega⟩)) (by first | exact g5 | (simp only [nz_c]; exact g5)) (by first | exact g6 | (simp only [nz_c]; exact g6)) (by first | exact g7 | (simp only [nz_c]; exact g7)) (by first | exact g8 | (simp only [nz_c]; exact g8)) (by first | exact ⟨by omega, by omega⟩ | (simp only [nz_c]; exact ⟨by omega, by omega⟩)) (fun F1 g e6 e7 e8 e9 => by rw [q72]; exact k15 g0 g1 g2 g3 g4 g5 g6 g7 g8 F1 (nz_in hB [6, 7, 8, 9] (fun j hj hn => g j hj (by simp only [List.mem_cons, List.not_mem_nil, or_false, not_or] at hn; omega)) (List.forall_mem_cons.mpr ⟨fun t ht => (Option.some.inj ht) ▸ (nz_hi e6 (by decide : ((2 : Int32)).toInt = 2) (by omega) (by omega)), List.forall_mem_cons.mpr ⟨fun t ht => (Option.some.inj ht) ▸ (nz_hz e7), List.forall_mem_cons.mpr ⟨fun t ht => (Option.some.inj ht) ▸ (nz_hz e8), List.forall_mem_cons.mpr ⟨fun t ht => (Option.some.inj ht) ▸ (nz_hz e9), List.forall_mem_nil _⟩⟩⟩⟩)) (fun j hj hn => g j hj (by simp only [List.mem_cons, List.not_mem_nil, or_false, not_or] at hn; omega)) (nz_fi (g 4 (by decide) (by decide))) ((congrArg Int32.toInt (zz_i e6)).trans (by decide : ((2 : Int32)).toInt = 2)) ((congrArg Int32.toInt (zz_i e7)).trans n74) ((congrArg Int32.toInt (zz_i e8)).trans (by decide : ((5 : Int32)).toInt = 5)) ((congrArg Int32.toInt (zz_i e9)).trans n73) (nz_fi (g 13 (by decide) (by decide))) (nz_fa (g 25 (by decide) (by decide))) (nz_fa (g 26 (by decide) (by decide))) (nz_fa (g 27 (by decide) (by decide))))
    replace g8 : 0 < (sy_i F 6).toInt := by omega
    have c6 := nz_bx hB (k := 6) (lo := 0) (hi := 2) rfl
    have c4 := nz_bx hB (k := 4) (lo := 0) (hi := 400) rfl
    have q71 : (sy_ai F 25).getD (sy_i F 4).toNatClampNeg 0 = (sy_ai F 25).getD ((sy_i F 4).toInt).toNat 0 := by simp only [nz_c]
    have n71 : ((sy_ai F 25).getD (sy_i F 4).toNatClampNeg 0).toInt = ((sy_ai F 25).getD ((sy_i F 4).toInt).toNat 0).toInt := congrArg Int32.toInt q71
    have r71 := nz_ba hB (k := 25) (lo := 0) (hi := 42) rfl ((sy_i F 4).toInt).toNat
    have q72 : (sy_ai F 27).getD (sy_i F 4).toNatClampNeg 0 = (sy_ai F 27).getD ((sy_i F 4).toInt).toNat 0 := by simp only [nz_c]
    have n72 : ((sy_ai F 27).getD (sy_i F 4).toNatClampNeg 0).toInt = ((sy_ai F 27).getD ((sy_i F 4).toInt).toNat 0).toInt := congrArg Int32.toInt q72
    exfalso
    omega
  replace g6 : (sy_i F 8).toInt ≠ 0 := by omega
  by_cases g7 : (sy_i F 9).toInt < ((sy_ai F 26).getD ((sy_i F 4).toInt).toNat 0).toInt
  · by_cases g8 : (sy_i F 4).toInt ≠ 400
    · have c6 := nz_bx hB (k := 6) (lo := 0) (hi := 2) rfl
      have c4 := nz_bx hB (k := 4) (lo := 0) (hi := 400) rfl
      have q71 : (sy_ai F 25).getD (sy_i F 4).toNatClampNeg 0 = (sy_ai F 25).getD ((sy_i F 4).toInt).toNat 0 := by simp only [nz_c]
      have n71 : ((sy_ai F 25).getD (sy_i F 4).toNatClampNeg 0).toInt = ((sy_ai F 25).getD ((sy_i F 4).toInt).toNat 0).toInt := congrArg Int32.toInt q71
      have r71 := nz_ba hB (k := 25) (lo := 0) (hi := 42) rfl ((sy_i F 4).toInt).toNat
      have q72 : (sy_ai F 27).getD (sy_i F 4).toNatClampNeg 0 = (sy_ai F 27).getD ((sy_i F 4).toInt).toNat 0 := by simp only [nz_c]
      have n72 : ((sy_ai F 27).getD (sy_i F 4).toNatClampNeg 0).toInt = ((sy_ai F 27).getD ((sy_i F 4).toInt).toNat 0).toInt := congrArg Int32.toInt q72
      have q73 : (sy_ai F 26).getD (sy_i F 4).toNatClampNeg 0 = (sy_ai F 26).getD ((sy_i F 4).toInt).toNat 0 := by simp only [nz_c]
      have n73 : ((sy_ai F 26).getD (sy_i F 4).toNatClampNeg 0).toInt = ((sy_ai F 26).getD ((sy_i F 4).toInt).toNat 0).toInt := congrArg Int32.toInt q73
      have n74 : ((sy_i F 4) + ((1 : Int32))).toInt = ((sy_i F 4).toInt + 1) := nz_add (rfl : (sy_i F 4).toInt = (sy_i F 4).toInt) (by decide : ((1 : Int32)).toInt = 1) (by omega) (by omega)
      exact bo_0_p16 hd F X1 X2 hB (by first | exact g0 | (simp only [nz_c]; exact g0)) (by first | exact g1 | (simp only [nz_c]; exact g1)) (by first | exact ⟨by omega, by omega⟩ | (simp only [nz_c]; exact ⟨by omega, by omega⟩)) (by first | exact g2 | (simp only [nz_c]; exact g2) | (rw [n71]; exact g2)) (by first | exact ⟨by omega, by omega⟩ | (simp only [nz_c]; exact ⟨by omega, by omega⟩)) (by first | exact g3 | (simp only [nz_c]; exact g3) | (rw [n72]; exact g3)) (by first | exact g4 | (simp only [nz_c]; exact g4) | (rw [n72]; exact g4)) (by first | exact ⟨by omega, by omega⟩ | (simp only [nz_c]; exact ⟨by omega, by omega⟩)) (by first | exact g5 | (simp only [nz_c]; exact g5)) (by first | exact g6 | (simp only [nz_c]; exact g6)) (by first | exact g7 | (simp only [nz_c]; exact g7) | (rw [n73]; exact g7)) (by first | exact g8 | (simp only [nz_c]; exact g8)) (fun F1 g e4 => by rw [q72]; exact k16 g0 g1 g2 g3 g4 g5 g6 g7 g8 F1 (nz_in hB [4] (fun j hj hn => g j hj (by simp only [List.mem_cons, List.not_mem_nil, or_false, not_or] at hn; omega)) (List.forall_mem_cons.mpr ⟨fun t ht => (Option.some.inj ht) ▸ (nz_hi e4 n74 (by omega) (by omega)), List.forall_mem_nil _⟩)) (fun j hj hn => g j hj (by simp only [List.mem_cons, List.not_mem_nil, or_false, not_or] at hn; omega)) ((congrArg Int32.toInt (zz_i e4)).trans n74) (nz_fi (g 6 (by decide) (by decide))) (nz_fi (g 7 (by decide) (by decide))) (nz_fi (g 8 (by decide) (by decide))) (nz_fi (g 9 (by decide) (by decide))) (nz_fi (g 13 (by decide) (by decide))) (nz_fa (g 25 (by decide) (by decide))) (nz_fa (g 26 (by decide) (by decide))) (nz_fa (g 27 (by decide) (by decide))))
    replace g8 : (sy_i F 4).toInt = 400 := by omega
    by_cases g9 : (sy_i F 6).toInt ≤ 0
    · have c6 := nz_bx hB (k := 6) (lo := 0) (hi := 2) rfl
      have c4 := nz_bx hB (k := 4) (lo := 0) (hi := 400) rfl
      have q71 : (sy_ai F 25).getD (sy_i F 4).toNatClampNeg 0 = (sy_ai F 25).getD ((sy_i F 4).toInt).toNat 0 := by simp only [nz_c]
      have n71 : ((sy_ai F 25).getD (sy_i F 4).toNatClampNeg 0).toInt = ((sy_ai F 25).getD ((sy_i F 4).toInt).toNat 0).toInt := congrArg Int32.toInt q71
      have r71 := nz_ba hB (k := 25) (lo := 0) (hi := 42) rfl ((sy_i F 4).toInt).toNat
      have q72 : (sy_ai F 27).getD (sy_i F 4).toNatClampNeg 0 = (sy_ai F 27).getD ((sy_i F 4).toInt).toNat 0 := by simp only [nz_c]
      have n72 : ((sy_ai F 27).getD (sy_i F 4).toNatClampNeg 0).toInt = ((sy_ai F 27).getD ((sy_i F 4).toInt).toNat 0).toInt := congrArg Int32.toInt q72
      have q73 : (sy_ai F 26).getD (sy_i F 4).toNatClampNeg 0 = (sy_ai F 26).getD ((sy_i F 4).toInt).toNat 0 := by simp only [nz_c]
      have n73 : ((sy_ai F 26).getD (sy_i F 4).toNatClampNeg 0).toInt = ((sy_ai F 26).getD ((sy_i F 4).toInt).toNat 0).toInt := congrArg Int32.toInt q73
      have q74 : (sy_ai F 26).getD (sy_i F 4).toNatClampNeg 0 = (sy_ai F 26).getD ((sy_i F 4).toInt).toNat 0 := by simp only [nz_c]
      have n74 : ((sy_ai F 26).getD (sy_i F 4).toNatClampNeg 0).toInt = ((sy_ai F 26).getD ((sy_i F 4).toInt).toNat 0).toInt := congrArg Int32.toInt q74
      exact bo_0_p17 hd F X1 X2 hB (by first | exact g0 | (simp only [nz_c]; exact g0)) (by first | exact g1 | (simp only [nz_c]; exact g1)) (by first | exact ⟨by omega, by omega⟩ | (simp only [nz_c]; exact ⟨by omega, by omega⟩)) (by first | exact g2 | (simp only [nz_c]; exact g2) | (rw [n71]; exact g2)) (by first | exact ⟨by omega, by omega⟩ | (simp only [nz_c]; exact ⟨by omega, by omega⟩)) (by first | exact g3 | (simp only [nz_c]; exact g3) | (rw [n72]; exact g3)) (by first | exact g4 | (simp only [nz_c]; exact g4) | (rw [n72]; exact g4)) (by first | exact ⟨by omega, by omega⟩ | (simp only [nz_c]; exact ⟨by omega, by omega⟩)) (by first | exact g5 | (simp only [nz_c]; exact g5)) (by first | exact g6 | (simp only [nz_c]; exact g6)) (by first | exact g7 | (simp only [nz_c]; exact g7) | (rw [n73]; exact g7)) (by first | exact g8 | (simp only [nz_c]; exact g8)) (by first | exact g9 | (simp only [nz_c]; exact g9)) (by first | exact ⟨by omega, by omega⟩ | (simp only [nz_c]; exact ⟨by omega, by omega⟩)) (fun F1 g e6 e7 => by rw [q72]; exact k17 g0 g1 g2 g3 g4 g5 g6 g7 g8 g9 F1 (nz_in hB [6, 7] (fun j hj hn => g j hj (by simp only [List.mem_cons, List.not_mem_nil, or_false, not_or] at hn; omega)) (List.forall_mem_cons.mpr ⟨fun t ht => (Option.some.inj ht) ▸ (nz_hi e6 (by decide : ((2 : Int32)).toInt = 2) (by omega) (by omega)), List.forall_mem_cons.mpr ⟨fun t ht => (Option.some.inj ht) ▸ (nz_hz e7), List.forall_mem_nil _⟩⟩)) (fun j hj hn => g j hj (by simp only [List.mem_cons, List.not_mem_nil, or_false, not_or] at hn; omega)) (nz_fi (g 4 (by decide) (by decide))) ((congrArg Int32.toInt (zz_i e6)).trans (by decide : ((2 : Int32)).toInt = 2)) ((congrArg Int32.toInt (zz_i e7)).trans n74) (nz_fi (g 8 (by decide) (by decide))) (nz_fi (g 9 (by decide) (by decide))) (nz_fi (g 13 (by decide) (by decide))) (nz_fa (g 25 (by decide) (by decide))) (nz_fa (g 26 (by decide) (by decide))) (nz_fa (g 27 (by decide) (by decide))))
    replace g9 : 0 < (sy_i F 6).toInt := by omega
    have c6 := nz_bx hB (k := 6) (lo := 0) (hi := 2) rfl
    have c4 := nz_bx hB (k := 4) (lo := 0) (hi := 400) rfl
    have q71 : (sy_ai F 25).getD (sy_i F 4).toNatClampNeg 0 = (sy_ai F 25).getD ((sy_i F 4).toInt).toNat 0 := by simp only [nz_c]
    have n71 : ((sy_ai F 25).getD (sy_i F 4).toNatClampNeg 0).toInt = ((sy_ai F 25).getD ((sy_i F 4).toInt).toNat 0).toInt := congrArg Int32.toInt q71
    have r71 := nz_ba hB (k := 25) (lo := 0) (hi := 42) rfl ((sy_i F 4).toInt).toNat
    have q72 : (sy_ai F 27).getD (sy_i F 4).toNatClampNeg 0 = (sy_ai F 27).getD ((sy_i F 4).toInt).toNat 0 := by simp only [nz_c]
    have n72 : ((sy_ai F 27).getD (sy_i F 4).toNatClampNeg 0).toInt = ((sy_ai F 27).getD ((sy_i F 4).toInt).toNat 0).toInt := congrArg Int32.toInt q72
    have q73 : (sy_ai F 26).getD (sy_i F 4).toNatClampNeg 0 = (sy_ai F 26).getD ((sy_i F 4).toInt).toNat 0 := by simp only [nz_c]
    have n73 : ((sy_ai F 26).getD (sy_i F 4).toNatClampNeg 0).toInt = ((sy_ai F 26).getD ((sy_i F 4).toInt).toNat 0).toInt := congrArg Int32.toInt q73
    exfalso
    omega
  replace g7 : ((sy_ai F 26).getD ((sy_i F 4).toInt).toNat 0).toInt ≤ (sy_i F 9).toInt := by omega
  by_cases g8 : ((sy_ai F 26).getD ((sy_i F 4).toInt).toNat 0).toInt ≠ (sy_i F 9).toInt
  · by_cases g9 : (sy_i F 4).toInt ≠ 400
    · have c6 := nz_bx hB (k := 6) (lo := 0) (hi := 2) rfl
      have c4 := nz_bx hB (k := 4) (lo := 0) (hi := 400) rfl
      have q71 : (sy_ai F 25).getD (sy_i F 4).toNatClampNeg 0 = (sy_ai F 25).getD ((sy_i F 4).toInt).toNat 0 := by simp only [nz_c]
      have n71 : ((sy_ai F 25).getD (sy_i F 4).toNatClampNeg 0).toInt = ((sy_ai F 25).getD ((sy_i F 4).toInt).toNat 0).toInt := congrArg Int32.toInt q71
      have r71 := nz_ba hB (k := 25) (lo := 0) (hi := 42) rfl ((sy_i F 4).toInt).toNat
      have q72 : (sy_ai F 27).getD (sy_i F 4).toNatClampNeg 0 = (sy_ai F 27).getD ((sy_i F 4).toInt).toNat 0 := by simp only [nz_c]
      have n72 : ((sy_ai F 27).getD (sy_i F 4).toNatClampNeg 0).toInt = ((sy_ai F 27).getD ((sy_i F 4).toInt).toNat 0).toInt := congrArg Int32.toInt q72
      have q73 : (sy_ai F 26).getD (sy_i F 4).toNatClampNeg 0 = (sy_ai F 26).getD ((sy_i F 4).toInt).toNat 0 := by simp only [nz_c]
      have n73 : ((sy_ai F 26).getD (sy_i F 4).toNatClampNeg 0).toInt = ((sy_ai F 26).getD ((sy_i F 4).toInt).toNat 0).toInt := congrArg Int32.toInt q73
      have n74 : ((sy_i F 4) + ((1 : Int32))).toInt = ((sy_i F 4).toInt + 1) := nz_add (rfl : (sy_i F 4).toInt = (sy_i F 4).toInt) (by decide : ((1 : Int32)).toInt = 1) (by omega) (by omega)
      exact bo_0_p18 hd F X1 X2 hB (by first | exact g0 | (simp only [nz_c]; exact g0)) (by first | exact g1 | (simp only [nz_c]; exact g1)) (by first | exact ⟨by omega, by omega⟩ | (simp only [nz_c]; exact ⟨by omega, by omega⟩)) (by first | exact g2 | (simp only [nz_c]; exact g2) | (rw [n71]; exact g2)) (by first | exact ⟨by omega, by omega⟩ | (simp only [nz_c]; exact ⟨by omega, by omega⟩)) (by first | exact g3 | (simp only [nz_c]; exact g3) | (rw [n72]; exact g3)) (by first | exact g4 | (simp only [nz_c]; exact g4) | (rw [n72]; exact g4)) (by first | exact ⟨by omega, by omega⟩ | (simp only [nz_c]; exact ⟨by omega, by omega⟩)) (by first | exact g5 | (simp only [nz_c]; exact g5)) (by first | exact g6 | (simp only [nz_c]; exact g6)) (by first | exact g7 | (simp only [nz_c]; exact g7) | (rw [n73]; exact g7)) (by first | exact g8 | (simp only [nz_c]; exact g8) | (rw [n73]; exact g8)) (by first | exact g9 | (simp only [nz_c]; exact g9)) (fun F1 g e4 e8 e9 => by rw [q72]; exact k18 g0 g1 g2 g3 g4 g5 g6 g7 g8 g9 F1 (nz_in hB [4, 8, 9] (fun j hj hn => g j hj (by simp only [List.mem_cons, List.not_mem_nil, or_false, not_or] at hn; omega)) (List.forall_mem_cons.mpr ⟨fun t ht => (Option.some.inj ht) ▸ (nz_hi e4 n74 (by omega) (by omega)), List.forall_mem_cons.mpr ⟨fun t ht => (Option.some.inj ht) ▸ (nz_hz e8), List.forall_mem_cons.mpr ⟨fun t ht => (Option.some.inj ht) ▸ (nz_hz e9), List.forall_mem_nil _⟩⟩⟩)) (fun j hj hn => g j hj (by simp only [List.mem_cons, List.not_mem_nil, or_false, not_or] at hn; omega)) ((congrArg Int32.toInt (zz_i e4)).trans n74) (nz_fi (g 6 (by decide) (by decide))) (nz_fi (g 7 (by decide) (by decide))) ((congrArg Int32.toInt (zz_i e8)).trans (by decide : ((5 : Int32)).toInt = 5)) ((congrArg Int32.toInt (zz_i e9)).trans n73) (nz_fi (g 13 (by decide) (by decide))) (nz_fa (g 25 (by decide) (by decide))) (nz_fa (g 26 (by decide) (by decide))) (nz_fa (g 27 (by decide) (by decide))))
    replace g9 : (sy_i F 4).toInt = 400 := by omega
    by_cases g10 : (sy_i F 6).toInt ≤ 0
    · have c6 := nz_bx hB (k := 6) (lo := 0) (hi := 2) rfl
      have c4 := nz_bx hB (k := 4) (lo := 0) (hi := 400) rfl
      have q71 : (sy_ai F 25).getD (sy_i F 4).toNatClampNeg 0 = (sy_ai F 25).getD ((sy_i F 4).toInt).toNat 0 := by simp only [nz_c]
      have n71 : ((sy_ai F 25).getD (sy_i F 4).toNatClampNeg 0).toInt = ((sy_ai F 25).getD ((sy_i F 4).toInt).toNat 0).toInt := congrArg Int32.toInt q71
      have r71 := nz_ba hB (k := 25) (lo := 0) (hi := 42) rfl ((sy_i F 4).toInt).toNat
      have q72 : (sy_ai F 27).getD (sy_i F 4).toNatClampNeg 0 = (sy_ai F 27).getD ((sy_i F 4).toInt).toNat 0 := by simp only [nz_c]
      have n72 : ((sy_ai F 27).getD (sy_i F 4).toNatClampNeg 0).toInt = ((sy_ai F 27).getD ((sy_i F 4).toInt).toNat 0).toInt := congrArg Int32.toInt q72
      have q73 : (sy_ai F 26).getD (sy_i F 4).toNatClampNeg 0 = (sy_ai F 26).getD ((sy_i F 4).toInt).toNat 0 := by simp only [nz_c]
      have n73 : ((sy_ai F 26).getD (sy_i F 4).toNatClampNeg 0).toInt = ((sy_ai F 26).getD ((sy_i F 4).toInt).toNat 0).toInt := congrArg Int32.toInt q73
      have q74 : (sy_ai F 26).getD (sy_i F 4).toNatClampNeg 0 = (sy_ai F 26).getD ((sy_i F 4).toInt).toNat 0 := by simp only [nz_c]
      have n74 : ((sy_ai F 26).getD (sy_i F 4).toNatClampNeg 0).toInt = ((sy_ai F 26).getD ((sy_i F 4).toInt).toNat 0).toInt := congrArg Int32.toInt q74
      exact bo_0_p19 hd F X1 X2 hB (by first | exact g0 | (simp only [nz_c]; exact g0)) (by first | exact g1 | (simp only [nz_c]; exact g1)) (by first | exact ⟨by omega, by omega⟩ | (simp only [nz_c]; exact ⟨by omega, by omega⟩)) (by first | exact g2 | (simp only [nz_c]; exact g2) | (rw [n71]; exact g2)) (by first | exact ⟨by omega, by omega⟩ | (simp only [nz_c]; exact ⟨by omega, by omega⟩)) (by first | exact g3 | (simp only [nz_c]; exact g3) | (rw [n72]; exact g3)) (by first | exact g4 | (simp only [nz_c]; exact g4) | (rw [n72]; exact g4)) (by first | exact ⟨by omega, by omega⟩ | (simp only [nz_c]; exact ⟨by omega, by omega⟩)) (by first | exact g5 | (simp only [nz_c]; exact g5)) (by first | exact g6 | (simp only [nz_c]; exact g6)) (by first | exact g7 | (simp only [nz_c]; exact g7) | (rw [n73]; exact g7)) (by first | exact g8 | (simp only [nz_c]; exact g8) | (rw [n73]; exact g8)) (by first | exact g9 | (simp only [nz_c]; exact g9)) (by first | exact g10 | (simp only [nz_c]; exact g10)) (by first | exact ⟨by omega, by omega⟩ | (simp only [nz_c]; exact ⟨by omega, by omega⟩)) (fun F1 g e6 e7 e8 e9 => by rw [q72]; exact k19 g0 g1 g2 g3 g4 g5 g6 g7 g8 g9 g10 F1 (nz_in hB [6, 7, 8, 9] (fun j hj hn => g j hj (by simp only [List.mem_cons, List.not_mem_nil, or_false, not_or] at hn; omega)) (List.forall_mem_cons.mpr ⟨fun t ht => (Option.some.inj ht) ▸ (nz_hi e6 (by decide : ((2 : Int32)).toInt = 2) (by omega) (by omega)), List.forall_mem_cons.mpr ⟨fun t ht => (Option.some.inj ht) ▸ (nz_hz e7), List.forall_mem_cons.mpr ⟨fun t ht => (Option.some.inj ht) ▸ (nz_hz e8), List.forall_mem_cons.mpr ⟨fun t ht => (Option.some.inj ht) ▸ (nz_hz e9), List.forall_mem_nil _⟩⟩⟩⟩)) (fun j hj hn => g j hj (by simp only [List.mem_cons, List.not_mem_nil, or_false, not_or] at hn; omega)) (nz_fi (g 4 (by decide) (by decide))) ((congrArg Int32.toInt (zz_i e6)).trans (by decide : ((2 : Int32)).toInt = 2)) ((congrArg Int32.toInt (zz_i e7)).trans n74) ((congrArg Int32.toInt (zz_i e8)).trans (by decide : ((5 : Int32)).toInt = 5)) ((congrArg Int32.toInt (zz_i e9)).trans n73) (nz_fi (g 13 (by decide) (by decide))) (nz_fa (g 25 (by decide) (by decide))) (nz_fa (g 26 (by decide) (by decide))) (nz_fa (g 27 (by decide) (by decide))))
    replace g10 : 0 < (sy_i F 6).toInt := by omega
    have c6 := nz_bx hB (k := 6) (lo := 0) (hi := 2) rfl
    have c4 := nz_bx hB (k := 4) (lo := 0) (hi := 400) rfl
    have q71 : (sy_ai F 25).getD (sy_i F 4).toNatClampNeg 0 = (sy_ai F 25).getD ((sy_i F 4).toInt).toNat 0 := by simp only [nz_c]
    have n71 : ((sy_ai F 25).getD (sy_i F 4).toNatClampNeg 0).toInt = ((sy_ai F 25).getD ((sy_i F 4).toInt).toNat 0).toInt := congrArg Int32.toInt q71
    have r71 := nz_ba hB (k := 25) (lo := 0) (hi := 42) rfl ((sy_i F 4).toInt).toNat
    have q72 : (sy_ai F 27).getD (sy_i F 4).toNatClampNeg 0 = (sy_ai F 27).getD ((sy_i F 4).toInt).toNat 0 := by simp only [nz_c]
    have n72 : ((sy_ai F 27).getD (sy_i F 4).toNatClampNeg 0).toInt = ((sy_ai F 27).getD ((sy_i F 4).toInt).toNat 0).toInt := congrArg Int32.toInt q72
    have q73 : (sy_ai F 26).getD (sy_i F 4).toNatClampNeg 0 = (sy_ai F 26).getD ((sy_i F 4).toInt).toNat 0 := by simp only [nz_c]
    have n73 : ((sy_ai F 26).getD (sy_i F 4).toNatClampNeg 0).toInt = ((sy_ai F 26).getD ((sy_i F 4).toInt).toNat 0).toInt := congrArg Int32.toInt q73
    exfalso
    omega
  replace g8 : ((sy_ai F 26).getD ((sy_i F 4).toInt).toNat 0).toInt = (sy_i F 9).toInt := by omega
  by_cases g9 : 5 < (sy_i F 8).toInt
  · by_cases g10 : (sy_i F 4).toInt ≠ 400
    · have c6 := nz_bx hB (k := 6) (lo := 0) (hi := 2) rfl
      have c4 := nz_bx hB (k := 4) (lo := 0) (hi := 400) rfl
      have q71 : (sy_ai F 25).getD (sy_i F 4).toNatClampNeg 0 = (sy_ai F 25).getD ((sy_i F 4).toInt).toNat 0 := by simp only [nz_c]
      have n71 : ((sy_ai F 25).getD (sy_i F 4).toNatClampNeg 0).toInt = ((sy_ai F 25).getD ((sy_i F 4).toInt).toNat 0).toInt := congrArg Int32.toInt q71
      have r71 := nz_ba hB (k := 25) (lo := 0) (hi := 42) rfl ((sy_i F 4).toInt).toNat
      have q72 : (sy_ai F 27).getD (sy_i F 4).toNatClampNeg 0 = (sy_ai F 27).getD ((sy_i F 4).toInt).toNat 0 := by simp only [nz_c]
      have n72 : ((sy_ai F 27).getD (sy_i F 4).toNatClampNeg 0).toInt = ((sy_ai F 27).getD ((sy_i F 4).toInt).toNat 0).toInt := congrArg Int32.toInt q72
      have q73 : (sy_ai F 26).getD (sy_i F 4).toNatClampNeg 0 = (sy_ai F 26).getD ((sy_i F 4).toInt).toNat 0 := by simp only [nz_c]
      have n73 : ((sy_ai F 26).getD (sy_i F 4).toNatClampNeg 0).toInt = ((sy_ai F 26).getD ((sy_i F 4).toInt).toNat 0).toInt := congrArg Int32.toInt q73
      have n74 : ((sy_i F 4) + ((1 : Int32))).toInt = ((sy_i F 4).toInt + 1) := nz_add (rfl : (sy_i F 4).toInt = (sy_i F 4).toInt) (by decide : ((1 : Int32)).toInt = 1) (by omega) (by omega)
      exact bo_0_p20 hd F X1 X2 hB (by first | exact g0 | (simp only [nz_c]; exact g0)) (by first | exact g1 | (simp only [nz_c]; exact g1)) (by first | exact ⟨by omega, by omega⟩ | (simp only [nz_c]; exact ⟨by omega, by omega⟩)) (by first | exact g2 | (simp only [nz_c]; exact g2) | (rw [n71]; exact g2)) (by first | exact ⟨by omega, by omega⟩ | (simp only [nz_c]; exact ⟨by omega, by omega⟩)) (by first | exact g3 | (simp only [nz_c]; exact g3) | (rw [n72]; exact g3)) (by first | exact g4 | (simp only [nz_c]; exact g4) | (rw [n72]; exact g4)) (by first | exact ⟨by omega, by omega⟩ | (simp only [nz_c]; exact ⟨by omega, by omega⟩)) (by first | exact g5 | (simp only [nz_c]; exact g5)) (by first | exact g6 | (simp only [nz_c]; exact g6)) (by first | exact g7 | (simp only [nz_c]; exact g7) | (rw [n73]; exact g7)) (by first | exact g8 | (simp only [nz_c]; exact g8) | (rw [n73]; exact g8)) (by first | exact g9 | (simp only [nz_c]; exact g9)) (by first | exact g10 | (simp only [nz_c]; exact g10)) (fun F1 g e4 e8 e9 => by rw [q72]; exact k20 g0 g1 g2 g3 g4 g5 g6 g7 g8 g9 g10 F1 (nz_in hB [4, 8, 9] (fun j hj hn => g j hj (by simp only [List.mem_cons, List.not_mem_nil, or_false, not_or] at hn; omega)) (List.forall_mem_cons.mpr ⟨fun t ht => (Option.some.inj ht) ▸ (nz_hi e4 n74 (by omega) (by omega)), List.forall_mem_cons.mpr ⟨fun t ht => (Option.some.inj ht) ▸ (nz_hz e8), List.forall_mem_cons.mpr ⟨fun t ht => (Option.some.inj ht) ▸ (nz_hz e9), List.forall_mem_nil _⟩⟩⟩)) (fun j hj hn => g j hj (by simp only [List.mem_cons, List.not_mem_nil, or_false, not_or] at hn; omega)) ((congrArg Int32.toInt (zz_i e4)).trans n74) (nz_fi (g 6 (by decide) (by decide))) (nz_fi (g 7 (by decide) (by decide))) ((congrArg Int32.toInt (zz_i e8)).trans (by decide : ((5 : Int32)).toInt = 5)) ((congrArg Int32.toInt (zz_i e9)).trans n73) (nz_fi (g 13 (by decide) (by decide))) (nz_fa (g 25 (by decide) (by decide))) (nz_fa (g 26 (by decide) (by decide))) (nz_fa (g 27 (by decide) (by decide))))
    replace g10 : (sy_i F 4).toInt = 400 := by omega
    by_cases g11 : (sy_i F 6).toInt ≤ 0
    · have c6 := nz_bx hB (k := 6) (lo := 0) (hi := 2) rfl
      have c4 := nz_bx hB (k := 4) (lo := 0) (hi := 400) rfl
      have q71 : (sy_ai F 25).getD (sy_i F 4).toNatClampNeg 0 = (sy_ai F 25).getD ((sy_i F 4).toInt).toNat 0 := by simp only [nz_c]
      have n71 : ((sy_ai F 25).getD (sy_i F 4).toNatClampNeg 0).toInt = ((sy_ai F 25).getD ((sy_i F 4).toInt).toNat 0).toInt := congrArg Int32.toInt q71
      have r71 := nz_ba hB (k := 25) (lo := 0) (hi := 42) rfl ((sy_i F 4).toInt).toNat
      have q72 : (sy_ai F 27).getD (sy_i F 4).toNatClampNeg 0 = (sy_ai F 27).getD ((sy_i F 4).toInt).toNat 0 := by simp only [nz_c]
      have n72 : ((sy_ai F 27).getD (sy_i F 4).toNatClampNeg 0).toInt = ((sy_ai F 27).getD ((sy_i F 4).toInt).toNat 0).toInt := congrArg Int32.toInt q72
      have q73 : (sy_ai F 26).getD (sy_i F 4).toNatClampNeg 0 = (sy_ai F 26).getD ((sy_i F 4).toInt).toNat 0 := by simp only [nz_c]
      have n73 : ((sy_ai F 26).getD (sy_i F 4).toNatClampNeg 0).toInt = ((sy_ai F 26).getD ((sy_i F 4).toInt).toNat 0).toInt := congrArg Int32.toInt q73
      have q74 : (sy_ai F 26).getD (sy_i F 4).toNatClampNeg 0 = (sy_ai F 26).getD ((sy_i F 4).toInt).toNat 0 := by simp only [nz_c]
      have n74 : ((sy_ai F 26).getD (sy_i F 4).toNatClampNeg 0).toInt = ((sy_ai F 26).getD ((sy_i F 4).toInt).toNat 0).toInt := congrArg Int32.toInt q74
      exact bo_0_p21 hd F X1 X2 hB (by first | exact g0 | (simp only [nz_c]; exact g0)) (by first | exact g1 | (simp only [nz_c]; exact g1)) (by first | exact ⟨by omega, by omega⟩ | (simp only [nz_c]; exact ⟨by omega, by omega⟩)) (by first | exact g2 | (simp only [nz_c]; exact g2) | (rw [n71]; exact g2)) (by first | exact ⟨by omega, by omega⟩ | (simp only [nz_c]; exact ⟨by omega, by omega⟩)) (by first | exact g3 | (simp only [nz_c]; exact g3) | (rw [n72]; exact g3)) (by first | exact g4 | (simp only [nz_c]; exact g4) | (rw [n72]; exact g4)) (by first | exact ⟨by omega, by omega⟩ | (simp only [nz_c]; exact ⟨by omega, by omega⟩)) (by first | exact g5 | (simp only [nz_c]; exact g5)) (by first | exact g6 | (simp only [nz_c]; exact g6)) (by first | exact g7 | (simp only [nz_c]; exact g7) | (rw [n73]; exact g7)) (by first | exact g8 | (simp only [nz_c]; exact g8) | (rw [n73]; exact g8)) (by first | exact g9 | (simp only [nz_c]; exact g9)) (by first | exact g10 | (simp only [nz_c]; exact g10)) (by first | exact g11 | (simp only [nz_c]; exact g11)) (by first | exact ⟨by omega, by omega⟩ | (simp only [nz_c]; exact ⟨by omega, by omega⟩)) (fun F1 g e6 e7 e8 e9 => by rw [q72]; exact k21 g0 g1 g2 g3 g4 g5 g6 g7 g8 g9 g10 g11 F1 (nz_in hB [6, 7, 8, 9] (fun j hj hn => g j hj (by simp only [List.mem_cons, List.not_mem_nil, or_false, not_or] at hn; omega)) (List.forall_mem_cons.mpr ⟨fun t ht => (Option.some.inj ht) ▸ (nz_hi e6 (by decide : ((2 : Int32)).toInt = 2) (by omega) (by omega)), List.forall_mem_cons.mpr ⟨fun t ht => (Option.some.inj ht) ▸ (nz_hz e7), List.forall_mem_cons.mpr ⟨fun t ht => (Option.some.inj ht) ▸ (nz_hz e8), List.forall_mem_cons.mpr ⟨fun t ht => (Option.some.inj ht) ▸ (nz_hz e9), List.forall_mem_nil _⟩⟩⟩⟩)) (fun j hj hn => g j hj (by simp only [List.mem_cons, List.not_mem_nil, or_false, not_or] at hn; omega)) (nz_fi (g 4 (by decide) (by decide))) ((congrArg Int32.toInt (zz_i e6)).trans (by decide : ((2 : Int32)).toInt = 2)) ((congrArg Int32.toInt (zz_i e7)).trans n74) ((congrArg Int32.toInt (zz_i e8)).trans (by decide : ((5 : Int32)).toInt = 5)) ((congrArg Int32.toInt (zz_i e9)).trans n73) (nz_fi (g 13 (by decide) (by decide))) (nz_fa (g 25 (by decide) (by decide))) (nz_fa (g 26 (by decide) (by decide))) (nz_fa (g 27 (by decide) (by decide))))
    replace g11 : 0 < (sy_i F 6).toInt := by omega
    have c6 := nz_bx hB (k := 6) (lo := 0) (hi := 2) rfl
    have c4 := nz_bx hB (k := 4) (lo := 0) (hi := 400) rfl
    have q71 : (sy_ai F 25).getD (sy_i F 4).toNatClampNeg 0 = (sy_ai F 25).getD ((sy_i F 4).toInt).toNat 0 := by simp only [nz_c]
    have n71 : ((sy_ai F 25).getD (sy_i F 4).toNatClampNeg 0).toInt = ((sy_ai F 25).getD ((sy_i F 4).toInt).toNat 0).toInt := congrArg Int32.toInt q71
    have r71 := nz_ba hB (k := 25) (lo := 0) (hi := 42) rfl ((sy_i F 4).toInt).toNat
    have q72 : (sy_ai F 27).getD (sy_i F 4).toNatClampNeg 0 = (sy_ai F 27).getD ((sy_i F 4).toInt).toNat 0 := by simp only [nz_c]
    have n72 : ((sy_ai F 27).getD (sy_i F 4).toNatClampNeg 0).toInt = ((sy_ai F 27).getD ((sy_i F 4).toInt).toNat 0).toInt := congrArg Int32.toInt q72
    have q73 : (sy_ai F 26).getD (sy_i F 4).toNatClampNeg 0 = (sy_ai F 26).getD ((sy_i F 4).toInt).toNat 0 := by simp only [nz_c]
    have n73 : ((sy_ai F 26).getD (sy_i F 4).toNatClampNeg 0).toInt = ((sy_ai F 26).getD ((sy_i F 4).toInt).toNat 0).toInt := congrArg Int32.toInt q73
    exfalso
    omega
  replace g9 : (sy_i F 8).toInt ≤ 5 := by omega
  by_cases g10 : (sy_i F 4).toInt ≠ 400
  · have c6 := nz_bx hB (k := 6) (lo := 0) (hi := 2) rfl
    have c4 := nz_bx hB (k := 4) (lo := 0) (hi := 400) rfl
    have q71 : (sy_ai F 25).getD (sy_i F 4).toNatClampNeg 0 = (sy_ai F 25).getD ((sy_i F 4).toInt).toNat 0 := by simp only [nz_c]
    have n71 : ((sy_ai F 25).getD (sy_i F 4).toNatClampNeg 0).toInt = ((sy_ai F 25).getD ((sy_i F 4).toInt).toNat 0).toInt := congrArg Int32.toInt q71
    have r71 := nz_ba hB (k := 25) (lo := 0) (hi := 42) rfl ((sy_i F 4).toInt).toNat
    have q72 : (sy_ai F 27).getD (sy_i F 4).toNatClampNeg 0 = (sy_ai F 27).getD ((sy_i F 4).toInt).toNat 0 := by simp only [nz_c]
    have n72 : ((sy_ai F 27).getD (sy_i F 4).toNatClampNeg 0).toInt = ((sy_ai F 27).getD ((sy_i F 4).toInt).toNat 0).toInt := congrArg Int32.toInt q72
    have q73 : (sy_ai F 26).getD (sy_i F 4).toNatClampNeg 0 = (sy_ai F 26).getD ((sy_i F 4).toInt).toNat 0 := by simp only [nz_c]
    have n73 : ((sy_ai F 26).getD (sy_i F 4).toNatClampNeg 0).toInt = ((sy_ai F 26).getD ((sy_i F 4).toInt).toNat 0).toInt := congrArg Int32.toInt q73
    have n74 : ((sy_i F 4) + ((1 : Int32))).toInt = ((sy_i F 4).toInt + 1) := nz_add (rfl : (sy_i F 4).toInt = (sy_i F 4).toInt) (by decide : ((1 : Int32)).toInt = 1) (by omega) (by omega)
    exact bo_0_p22 hd F X1 X2 hB (by first | exact g0 | (simp only [nz_c]; exact g0)) (by first | exact g1 | (simp only [nz_c]; exact g1)) (by first | exact ⟨by omega, by omega⟩ | (simp only [nz_c]; exact ⟨by omega, by omega⟩)) (by first | exact g2 | (simp only [nz_c]; exact g2) | (rw [n71]; exact g2)) (by first | exact ⟨by omega, by omega⟩ | (simp only [nz_c]; exact ⟨by omega, by omega⟩)) (by first | exact g3 | (simp only [nz_c]; exact g3) | (rw [n72]; exact g3)) (by first | exact g4 | (simp only [nz_c]; exact g4) | (rw [n72]; exact g4)) (by first | exact ⟨by omega, by omega⟩ | (simp only [nz_c]; exact ⟨by omega, by omega⟩)) (by first | exact g5 | (simp only [nz_c]; exact g5)) (by first | exact g6 | (simp only [nz_c]; exact g6)) (by first | exact g7 | (simp only [nz_c]; exact g7) | (rw [n73]; exact g7)) (by first | exact g8 | (simp only [nz_c]; exact g8) | (rw [n73]; exact g8)) (by first | exact g9 | (simp only [nz_c]; exact g9)) (by first | exact g10 | (simp only [nz_c]; exact g10)) (fun F1 g e4 => by rw [q72]; exact k22 g0 g1 g2 g3 g4 g5 g6 g7 g8 g9 g10 F1 (nz_in hB [4] (fun j hj hn => g j hj (by simp only [List.mem_cons, List.not_mem_nil, or_false, not_or] at hn; omega)) (List.forall_mem_cons.mpr ⟨fun t ht => (Option.some.inj ht) ▸ (nz_hi e4 n74 (by omega) (by omega)), List.forall_mem_nil _⟩)) (fun j hj hn => g j hj (by simp only [List.mem_cons, List.not_mem_nil, or_false, not_or] at hn; omega)) ((congrArg Int32.toInt (zz_i e4)).trans n74) (nz_fi (g 6 (by decide) (by decide))) (nz_fi (g 7 (by decide) (by decide))) (nz_fi (g 8 (by decide) (by decide))) (nz_fi (g 9 (by decide) (by decide))) (nz_fi (g 13 (by decide) (by decide))) (nz_fa (g 25 (by decide) (by decide))) (nz_fa (g 26 (by decide) (by decide))) (nz_fa (g 27 (by decide) (by decide))))
  replace g10 : (sy_i F 4).toInt = 400 := by omega
  by_cases g11 : (sy_i F 6).toInt ≤ 0
  · have c6 := nz_bx hB (k := 6) (lo := 0) (hi := 2) rfl
    have c4 := nz_bx hB (k := 4) (lo := 0) (hi := 400) rfl
    have q71 : (sy_ai F 25).getD (sy_i F 4).toNatClampNeg 0 = (sy_ai F 25).getD ((sy_i F 4).toInt).toNat 0 := by simp only [nz_c]
    have n71 : ((sy_ai F 25).getD (sy_i F 4).toNatClampNeg 0).toInt = ((sy_ai F 25).getD ((sy_i F 4).toInt).toNat 0).toInt := congrArg Int32.toInt q71
    have r71 := nz_ba hB (k := 25) (lo := 0) (hi := 42) rfl ((sy_i F 4).toInt).toNat
    have q72 : (sy_ai F 27).getD (sy_i F 4).toNatClampNeg 0 = (sy_ai F 27).getD ((sy_i F 4).toInt).toNat 0 := by simp only [nz_c]
    have n72 : ((sy_ai F 27).getD (sy_i F 4).toNatClampNeg 0).toInt = ((sy_ai F 27).getD ((sy_i F 4).toInt).toNat 0).toInt := congrArg Int32.toInt q72
    have q73 : (sy_ai F 26).getD (sy_i F 4).toNatClampNeg 0 = (sy_ai F 26).getD ((sy_i F 4).toInt).toNat 0 := by simp only [nz_c]
    have n73 : ((sy_ai F 26).getD (sy_i F 4).toNatClampNeg 0).toInt = ((sy_ai F 26).getD ((sy_i F 4).toInt).toNat 0).toInt := congrArg Int32.toInt q73
    have q74 : (sy_ai F 26).getD (sy_i F 4).toNatClampNeg 0 = (sy_ai F 26).getD ((sy_i F 4).toInt).toNat 0 := by simp only [nz_c]
    have n74 : ((sy_ai F 26).getD (sy_i F 4).toNatClampNeg 0).toInt = ((sy_ai F 26).getD ((sy_i F 4).toInt).toNat 0).toInt := congrArg Int32.toInt q74
    exact bo_0_p23 hd F X1 X2 hB (by first | exact g0 | (simp only [nz_c]; exact g0)) (by first | exact g1 | (simp only [nz_c]; exact g1)) (by first | exact ⟨by omega, by omega⟩ | (simp only [nz_c]; exact ⟨by omega, by omega⟩)) (by first | exact g2 | (simp only [nz_c]; exact g2) | (rw [n71]; exact g2)) (by first | exact ⟨by omega, by omega⟩ | (simp only [nz_c]; exact ⟨by omega, by omega⟩)) (by first | exact g3 | (simp only [nz_c]; exact g3) | (rw [n72]; exact g3)) (by first | exact g4 | (simp only [nz_c]; exact g4) | (rw [n72]; exact g4)) (by first | exact ⟨by omega, by omega⟩ | (simp only [nz_c]; exact ⟨by omega, by omega⟩)) (by first | exact g5 | (simp only [nz_c]; exact g5)) (by first | exact g6 | (simp only [nz_c]; exact g6)) (by first | exact g7 | (simp only [nz_c]; exact g7) | (rw [n73]; exact g7)) (by first | exact g8 | (simp only [nz_c]; exact g8) | (rw [n73]; exact g8)) (by first | exact g9 | (simp only [nz_c]; exact g9)) (by first | exact g10 | (simp only [nz_c]; exact g10)) (by first | exact g11 | (simp only [nz_c]; exact g11)) (by first | exact ⟨by omega, by omega⟩ | (simp only [nz_c]; exact ⟨by omega, by omega⟩)) (fun F1 g e6 e7 => by rw [q72]; exact k23 g0 g1 g2 g3 g4 g5 g6 g7 g8 g9 g10 g11 F1 (nz_in hB [6, 7] (fun j hj hn => g j hj (by simp only [List.mem_cons, List.not_mem_nil, or_false, not_or] at hn; omega)) (List.forall_mem_cons.mpr ⟨fun t ht => (Option.some.inj ht) ▸ (nz_hi e6 (by decide : ((2 : Int32)).toInt = 2) (by omega) (by omega)), List.forall_mem_cons.mpr ⟨fun t ht => (Option.some.inj ht) ▸ (nz_hz e7), List.forall_mem_nil _⟩⟩)) (fun j hj hn => g j hj (by simp only [List.mem_cons, List.not_mem_nil, or_false, not_or] at hn; omega)) (nz_fi (g 4 (by decide) (by decide))) ((congrArg Int32.toInt (zz_i e6)).trans (by decide : ((2 : Int32)).toInt = 2)) ((congrArg Int32.toInt (zz_i e7)).trans n74) (nz_fi (g 8 (by decide) (by decide))) (nz_fi (g 9 (by decide) (by decide))) (nz_fi (g 13 (by decide) (by decide))) (nz_fa (g 25 (by decide) (by decide))) (nz_fa (g 26 (by decide) (by decide))) (nz_fa (g 27 (by decide) (by decide))))
  replace g11 : 0 < (sy_i F 6).toInt := by omega
  have c6 := nz_bx hB (k := 6) (lo := 0) (hi := 2) rfl
  have c4 := nz_bx hB (k := 4) (lo := 0) (hi := 400) rfl
  have q71 : (sy_ai F 25).getD (sy_i F 4).toNatClampNeg 0 = (sy_ai F 25).getD ((sy_i F 4).toInt).toNat 0 := by simp only [nz_c]
  have n71 : ((sy_ai F 25).getD (sy_i F 4).toNatClampNeg 0).toInt = ((sy_ai F 25).getD ((sy_i F 4).toInt).toNat 0).toInt := congrArg Int32.toInt q71
  have r71 := nz_ba hB (k := 25) (lo := 0) (hi := 42) rfl ((sy_i F 4).toInt).toNat
  have q72 : (sy_ai F 27).getD (sy_i F 4).toNatClampNeg 0 = (sy_ai F 27).getD ((sy_i F 4).toInt).toNat 0 := by simp only [nz_c]
  have n72 : ((sy_ai F 27).getD (sy_i F 4).toNatClampNeg 0).toInt = ((sy_ai F 27).getD ((sy_i F 4).toInt).toNat 0).toInt := congrArg Int32.toInt q72
  have q73 : (sy_ai F 26).getD (sy_i F 4).toNatClampNeg 0 = (sy_ai F 26).getD ((sy_i F 4).toInt).toNat 0 := by simp only [nz_c]
  have n73 : ((sy_ai F 26).getD (sy_i F 4).toNatClampNeg 0).toInt = ((sy_ai F 26).getD ((sy_i F 4).toInt).toNat 0).toInt := congrArg Int32.toInt q73
  exfalso
  omega
theorem nay_0 {Ls : Nat} {xs : Nat → Int32} {d : Nat} {Q : Option Value → jm_h → Prop} (hd : 4 ≤ d) (F : Nat → sy_d) (X1 X2 : List jm_c) (hB : iv_in F iv_B4)
    (k0 : (sy_i F 6).toInt ≠ 0 → 0 < (sy_i F 6).toInt → ∀ F1 : Nat → sy_d, iv_in F1 iv_B4 → (∀ j, j < 69 → j ∉ ([] : List Nat) → F1 j = F j) → (sy_i F1 4).toInt = (sy_i F 4).toInt → (sy_i F1 6).toInt = (sy_i F 6).toInt → (sy_i F1 7).toInt = (sy_i F 7).toInt → (sy_i F1 8).toInt = (sy_i F 8).toInt → (sy_i F1 9).toInt = (sy_i F 9).toInt → (sy_i F1 13).toInt = (sy_i F 13).toInt → sy_ai F1 25 = sy_ai F 25 → sy_ai F1 26 = sy_ai F 26 → sy_ai F1 27 = sy_ai F 27 → (sy_i F1 69).toInt = (sy_i F 4).toInt → (sy_i F1 70).toInt = 0 → hd_W Ls xs d jm_M155 Q (12, sy_dL F1 [some (.inl (.ref 1000)), some (.inr (.inl 69)), some (.inr (.inl 70))], sy_dS F1 [], sy_dh F1 X1 X2 (iv_H 4), 0, 0))
    (k1 : (sy_i F 6).toInt = 0 → ((sy_ai F 25).getD ((sy_i F 4).toInt).toNat 0).toInt ≠ 1 → (sy_i F 6).toInt ≤ 0 → ∀ F1 : Nat → sy_d, iv_in F1 iv_B4 → (∀ j, j < 69 → j ∉ ([6, 7] : List Nat) → F1 j = F j) → (sy_i F1 4).toInt = (sy_i F 4).toInt → (sy_i F1 6).toInt = 1 → (sy_i F1 7).toInt = ((sy_ai F 26).getD ((sy_i F 4).toInt).toNat 0).toInt → (sy_i F1 8).toInt = (sy_i F 8).toInt → (sy_i F1 9).toInt = (sy_i F 9).toInt → (sy_i F1 13).toInt = (sy_i F 13).toInt → sy_ai F1 25 = sy_ai F 25 → sy_ai F1 26 = sy_ai F 26 → sy_ai F1 27 = sy_ai F 27 → (sy_i F1 69).toInt = (sy_i F 4).toInt → (sy_i F1 70).toInt = 0 → hd_W Ls xs d jm_M155 Q (12, sy_dL F1 [some (.inl (.ref 1000)), some (.inr (.inl 69)), some (.inr (.inl 70))], sy_dS F1 [], sy_dh F1 X1 X2 (iv_H 4), 0, 0))
    (k2 : (sy_i F 6).toInt = 0 → ((sy_ai F 25).getD ((sy_i F 4).toInt).toNat 0).toInt = 1 → (sy_i F 4).toInt ≠ 400 → ∀ F1 : Nat → sy_d, iv_in F1 iv_B4 → (∀ j, j < 69 → j ∉ ([4] : List Nat) → F1 j = F j) → (sy_i F1 4).toInt = ((sy_i F 4).toInt + 1) → (sy_i F1 6).toInt = (sy_i F 6).toInt → (sy_i F1 7).toInt = (sy_i F 7).toInt → (sy_i F1 8).toInt = (sy_i F 8).toInt → (sy_i F1 9).toInt = (sy_i F 9).toInt → (sy_i F1 13).toInt = (sy_i F 13).toInt → sy_ai F1 25 = sy_ai F 25 → sy_ai F1 26 = sy_ai F 26 → sy_ai F1 27 = sy_ai F 27 → (sy_i F1 69).toInt = (sy_i F 4).toInt → (sy_i F1 70).toInt = 0 → hd_W Ls xs d jm_M155 Q (12, sy_dL F1 [some (.inl (.ref 1000)), some (.inr (.inl 69)), some (.inr (.inl 70))], sy_dS F1 [], sy_dh F1 X1 X2 (iv_H 4), 0, 0))
    (k3 : (sy_i F 6).toInt = 0 → ((sy_ai F 25).getD ((sy_i F 4).toInt).toNat 0).toInt = 1 → (sy_i F 4).toInt = 400 → (sy_i F 6).toInt ≤ 0 → ∀ F1 : Nat → sy_d, iv_in F1 iv_B4 → (∀ j, j < 69 → j ∉ ([6, 7] : List Nat) → F1 j = F j) → (sy_i F1 4).toInt = (sy_i F 4).toInt → (sy_i F1 6).toInt = 2 → (sy_i F1 7).toInt = ((sy_ai F 26).getD ((sy_i F 4).toInt).toNat 0).toInt → (sy_i F1 8).toInt = (sy_i F 8).toInt → (sy_i F1 9).toInt = (sy_i F 9).toInt → (sy_i F1 13).toInt = (sy_i F 13).toInt → sy_ai F1 25 = sy_ai F 25 → sy_ai F1 26 = sy_ai F 26 → sy_ai F1 27 = sy_ai F 27 → (sy_i F1 69).toInt = (sy_i F 4).toInt → (sy_i F1 70).toInt = 0 → hd_W Ls xs d jm_M155 Q (12, sy_dL F1 [some (.inl (.ref 1000)), some (.inr (.inl 69)), some (.inr (.inl 70))], sy_dS F1 [], sy_dh F1 X1 X2 (iv_H 4), 0, 0)) :
    hd_W Ls xs d jm_M155 Q (0, sy_dL F [some (.inl (.ref 1000)), none, none], sy_dS F [], sy_dh F X1 X2 (iv_H 4), 0, 0) := by
  by_cases g0 : (sy_i F 6).toInt ≠ 0
  · by_cases g1 : (sy_i F 6).toInt ≤ 0
    · have c6 := nz_bx hB (k := 6) (lo := 0) (hi := 2) rfl
      exfalso
      omega
    replace g1 : 0 < (sy_i F 6).toInt := by omega
    have c6 := nz_bx hB (k := 6) (lo := 0) (hi := 2) rfl
    have c4 := nz_bx hB (k := 4) (lo := 0) (hi := 400) rfl
    exact na_0_p0 hd F X1 X2 hB (by first | exact g0 | (simp only [nz_c]; exact g0)) (by first | exact g1 | (simp only [nz_c]; exact g1)) (fun F1 g e69 e70 => k0 g0 g1 F1 (nz_in hB [] (fun j hj hn => g j hj (by simp only [List.mem_cons, List.not_mem_nil, or_false, not_or] at hn; exact trivial)) (List.forall_mem_nil _)) (fun j hj hn => g j hj (by simp only [List.mem_cons, List.not_mem_nil, or_false, not_or] at hn; exact trivial)) (nz_fi (g 4 (by decide) (by decide))) (nz_fi (g 6 (by decide) (by decide))) (nz_fi (g 7 (by decide) (by decide))) (nz_fi (g 8 (by decide) (by decide))) (nz_fi (g 9 (by decide) (by decide))) (nz_fi (g 13 (by decide) (by decide))) (nz_fa (g 25 (by decide) (by decide))) (nz_fa (g 26 (by decide) (by decide))) (nz_fa (g 27 (by decide) (by decide))) ((congrArg Int32.toInt (zz_i e69)).trans (rfl : (sy_i F 4).toInt = (sy_i F 4).toInt)) ((congrArg Int32.toInt (zz_i e70)).trans (by decide : ((0 : Int32)).toInt = 0)))
  replace g0 : (sy_i F 6).toInt = 0 := by omega
  by_cases g1 : ((sy_ai F 25).getD ((sy_i F 4).toInt).toNat 0).toInt ≠ 1
  · by_cases g2 : (sy_i F 6).toInt ≤ 0
    · have c6 := nz_bx hB (k := 6) (lo := 0) (hi := 2) rfl
      have c4 := nz_bx hB (k := 4) (lo := 0) (hi := 400) rfl
      have q69 : (sy_ai F 25).getD (sy_i F 4).toNatClampNeg 0 = (sy_ai F 25).getD ((sy_i F 4).toInt).toNat 0 := by simp only [nz_c]
      have n69 : ((sy_ai F 25).getD (sy_i F 4).toNatClampNeg 0).toInt = ((sy_ai F 25).getD ((sy_i F 4).toInt).toNat 0).toInt := congrArg Int32.toInt q69
      have r69 := nz_ba hB (k := 25) (lo := 0) (hi := 42) rfl ((sy_i F 4).toInt).toNat
      have q70 : (sy_ai F 26).getD (sy_i F 4).toNatClampNeg 0 = (sy_ai F 26).getD ((sy_i F 4).toInt).toNat 0 := by simp only [nz_c]
      have n70 : ((sy_ai F 26).getD (sy_i F 4).toNatClampNeg 0).toInt = ((sy_ai F 26).getD ((sy_i F 4).toInt).toNat 0).toInt := congrArg Int32.toInt q70
      exact na_0_p1 hd F X1 X2 hB (by first | exact g0 | (simp only [nz_c]; exact g0)) (by first | exact ⟨by omega, by omega⟩ | (simp only [nz_c]; exact ⟨by omega, by omega⟩)) (by first | exact g1 | (simp only [nz_c]; exact g1) | (rw [n69]; exact g1)) (by first | exact g2 | (simp only [nz_c]; exact g2)) (by first | exact ⟨by omega, by omega⟩ | (simp only [nz_c]; exact ⟨by omega, by omega⟩)) (fun F1 g e6 e7 e69 e70 => k1 g0 g1 g2 F1 (nz_in hB [6, 7] (fun j hj hn => g j hj (by simp only [List.mem_cons, List.not_mem_nil, or_false, not_or] at hn; omega)) (List.forall_mem_cons.mpr ⟨fun t ht => (Option.some.inj ht) ▸ (nz_hi e6 (by decide : ((1 : Int32)).toInt = 1) (by omega) (by omega)), List.forall_mem_cons.mpr ⟨fun t ht => (Option.some.inj ht) ▸ (nz_hz e7), List.forall_mem_nil _⟩⟩)) (fun j hj hn => g j hj (by simp only [List.mem_cons, List.not_mem_nil, or_false, not_or] at hn; omega)) (nz_fi (g 4 (by decide) (by decide))) ((congrArg Int32.toInt (zz_i e6)).trans (by decide : ((1 : Int32)).toInt = 1)) ((congrArg Int32.toInt (zz_i e7)).trans n70) (nz_fi (g 8 (by decide) (by decide))) (nz_fi (g 9 (by decide) (by decide))) (nz_fi (g 13 (by decide) (by decide))) (nz_fa (g 25 (by decide) (by decide))) (nz_fa (g 26 (by decide) (by decide))) (nz_fa (g 27 (by decide) (by decide))) ((congrArg Int32.toInt (zz_i e69)).trans (rfl : (sy_i F 4).toInt = (sy_i F 4).toInt)) ((congrArg Int32.toInt (zz_i e70)).trans (by decide : ((0 : Int32)).toInt = 0)))
    replace g2 : 0 < (sy_i F 6).toInt := by omega
    have c6 := nz_bx hB (k := 6) (lo := 0) (hi := 2) rfl
    have c4 := nz_bx hB (k := 4) (lo := 0) (hi := 400) rfl
    have q69 : (sy_ai F 25).getD (sy_i F 4).toNatClampNeg 0 = (sy_ai F 25).getD ((sy_i F 4).toInt).toNat 0 := by simp only [nz_c]
    have n69 : ((sy_ai F 25).getD (sy_i F 4).toNatClampNeg 0).toInt = ((sy_ai F 25).getD ((sy_i F 4).toInt).toNat 0).toInt := congrArg Int32.toInt q69
    have r69 := nz_ba hB (k := 25) (lo := 0) (hi := 42) rfl ((sy_i F 4).toInt).toNat
    exfalso
    omega
  replace g1 : ((sy_ai F 25).getD ((sy_i F 4).toInt).toNat 0).toInt = 1 := by omega
  by_cases g2 : (sy_i F 4).toInt ≠ 400
  · have c6 := nz_bx hB (k := 6) (lo := 0) (hi := 2) rfl
    have c4 := nz_bx hB (k := 4) (lo := 0) (hi := 400) rfl
    have q69 : (sy_ai F 25).getD (sy_i F 4).toNatClampNeg 0 = (sy_ai F 25).getD ((sy_i F 4).toInt).toNat 0 := by simp only [nz_c]
    have n69 : ((sy_ai F 25).getD (sy_i F 4).toNatClampNeg 0).toInt = ((sy_ai F 25).getD ((sy_i F 4).toInt).toNat 0).toInt := congrArg Int32.toInt q69
    have r69 := nz_ba hB (k := 25) (lo := 0) (hi := 42) rfl ((sy_i F 4).toInt).toNat
    have n70 : ((sy_i F 4) + ((1 : Int32))).toInt = ((sy_i F 4).toInt + 1) := nz_add (rfl : (sy_i F 4).toInt = (sy_i F 4).toInt) (by decide : ((1 : Int32)).toInt = 1) (by omega) (by omega)
    exact na_0_p2 hd F X1 X2 hB (by first | exact g0 | (simp only [nz_c]; exact g0)) (by first | exact ⟨by omega, by omega⟩ | (simp only [nz_c]; exact ⟨by omega, by omega⟩)) (by first | exact g1 | (simp only [nz_c]; exact g1) | (rw [n69]; exact g1)) (by first | exact g2 | (simp only [nz_c]; exact g2)) (fun F1 g e4 e69 e70 => k2 g0 g1 g2 F1 (nz_in hB [4] (fun j hj hn => g j hj (by simp only [List.mem_cons, List.not_mem_nil, or_false, not_or] at hn; omega)) (List.forall_mem_cons.mpr ⟨fun t ht => (Option.some.inj ht) ▸ (nz_hi e4 n70 (by omega) (by omega)), List.forall_mem_nil _⟩)) (fun j hj hn => g j hj (by simp only [List.mem_cons, List.not_mem_nil, or_false, not_or] at hn; omega)) ((congrArg Int32.toInt (zz_i e4)).trans n70) (nz_fi (g 6 (by decide) (by decide))) (nz_fi (g 7 (by decide) (by decide))) (nz_fi (g 8 (by decide) (by decide))) (nz_fi (g 9 (by decide) (by decide))) (nz_fi (g 13 (by decide) (by decide))) (nz_fa (g 25 (by decide) (by decide))) (nz_fa (g 26 (by decide) (by decide))) (nz_fa (g 27 (by decide) (by decide))) ((congrArg Int32.toInt (zz_i e69)).trans (rfl : (sy_i F 4).toInt = (sy_i F 4).toInt)) ((congrArg Int32.toInt (zz_i e70)).trans (by decide : ((0 : Int32)).toInt = 0)))
  replace g2 : (sy_i F 4).toInt = 400 := by omega
  by_cases g3 : (sy_i F 6).toInt ≤ 0
  · have c6 := nz_bx hB (k := 6) (lo := 0) (hi := 2) rfl
    have c4 := nz_bx hB (k := 4) (lo := 0) (hi := 400) rfl
    have q69 : (sy_ai F 25).getD (sy_i F 4).toNatClampNeg 0 = (sy_ai F 25).getD ((sy_i F 4).toInt).toNat 0 := by simp only [nz_c]
    have n69 : ((sy_ai F 25).getD (sy_i F 4).toNatClampNeg 0).toInt = ((sy_ai F 25).getD ((sy_i F 4).toInt).toNat 0).toInt := congrArg Int32.toInt q69
    have r69 := nz_ba hB (k := 25) (lo := 0) (hi := 42) rfl ((sy_i F 4).toInt).toNat
    have q70 : (sy_ai F 26).getD (sy_i F 4).toNatClampNeg 0 = (sy_ai F 26).getD ((sy_i F 4).toInt).toNat 0 := by simp only [nz_c]
    have n70 : ((sy_ai F 26).getD (sy_i F 4).toNatClampNeg 0).toInt = ((sy_ai F 26).getD ((sy_i F 4).toInt).toNat 0).toInt := congrArg Int32.toInt q70
    exact na_0_p3 hd F X1 X2 hB (by first | exact g0 | (simp only [nz_c]; exact g0)) (by first | exact ⟨by omega, by omega⟩ | (simp only [nz_c]; exact ⟨by omega, by omega⟩)) (by first | exact g1 | (simp only [nz_c]; exact g1) | (rw [n69]; exact g1)) (by first | exact g2 | (simp only [nz_c]; exact g2)) (by first | exact g3 | (simp only [nz_c]; exact g3)) (by first | exact ⟨by omega, by omega⟩ | (simp only [nz_c]; exact ⟨by omega, by omega⟩)) (fun F1 g e6 e7 e69 e70 => k3 g0 g1 g2 g3 F1 (nz_in hB [6, 7] (fun j hj hn => g j hj (by simp only [List.mem_cons, List.not_mem_nil, or_false, not_or] at hn; omega)) (List.forall_mem_cons.mpr ⟨fun t ht => (Option.some.inj ht) ▸ (nz_hi e6 (by decide : ((2 : Int32)).toInt = 2) (by omega) (by omega)), List.forall_mem_cons.mpr ⟨fun t ht => (Option.some.inj ht) ▸ (nz_hz e7), List.forall_mem_nil _⟩⟩)) (fun j hj hn => g j hj (by simp only [List.mem_cons, List.not_mem_nil, or_false, not_or] at hn; omega)) (nz_fi (g 4 (by decide) (by decide))) ((congrArg Int32.toInt (zz_i e6)).trans (by decide : ((2 : Int32)).toInt = 2)) ((congrArg Int32.toInt (zz_i e7)).trans n70) (nz_fi (g 8 (by decide) (by decide))) (nz_fi (g 9 (by decide) (by decide))) (nz_fi (g 13 (by decide) (by decide))) (nz_fa (g 25 (by decide) (by decide))) (nz_fa (g 26 (by decide) (by decide))) (nz_fa (g 27 (by decide) (by decide))) ((congrArg Int32.toInt (zz_i e69)).trans (rfl : (sy_i F 4).toInt = (sy_i F 4).toInt)) ((congrArg Int32.toInt (zz_i e70)).trans (by decide : ((0 : Int32)).toInt = 0)))
  replace g3 : 0 < (sy_i F 6).toInt := by omega
  have c6 := nz_bx hB (k := 6) (lo := 0) (hi := 2) rfl
  have c4 := nz_bx hB (k := 4) (lo := 0) (hi := 400) rfl
  have q69 : (sy_ai F 25).getD (sy_i F 4).toNatClampNeg 0 = (sy_ai F 25).getD ((sy_i F 4).toInt).toNat 0 := by simp only [nz_c]
  have n69 : ((sy_ai F 25).getD (sy_i F 4).toNatClampNeg 0).toInt = ((sy_ai F 25).getD ((sy_i F 4).toInt).toNat 0).toInt := congrArg Int32.toInt q69
  have r69 := nz_ba hB (k := 25) (lo := 0) (hi := 42) rfl ((sy_i F 4).toInt).toNat
  exfalso
  omega
theorem nay_12 {Ls : Nat} {xs : Nat → Int32} {d : Nat} {Q : Option Value → jm_h → Prop} (hd : 4 ≤ d) (F : Nat → sy_d) (X1 X2 : List jm_c) (hB : iv_in F iv_B4)
    (a69 : 0 ≤ (sy_i F 69).toInt ∧ (sy_i F 69).toInt ≤ 400)
    (a70 : 0 ≤ (sy_i F 70).toInt ∧ (sy_i F 70).toInt ≤ 11)
    (k0 : (sy_i F 13).toInt ≤ (sy_i F 70).toInt → ∀ F1 : Nat → sy_d, iv_in F1 iv_B4 → (∀ j, j < 69 → j ∉ ([] : List Nat) → F1 j = F j) → (sy_i F1 4).toInt = (sy_i F 4).toInt → (sy_i F1 6).toInt = (sy_i F 6).toInt → (sy_i F1 7).toInt = (sy_i F 7).toInt → (sy_i F1 8).toInt = (sy_i F 8).toInt → (sy_i F1 9).toInt = (sy_i F 9).toInt → (sy_i F1 13).toInt = (sy_i F 13).toInt → sy_ai F1 25 = sy_ai F 25 → sy_ai F1 26 = sy_ai F 26 → sy_ai F1 27 = sy_ai F 27 → Q (some (.int (sy_i F 69))) (sy_dh F1 X1 X2 (iv_H 4)))
    (k1 : (sy_i F 70).toInt < (sy_i F 13).toInt → (sy_i F 6).toInt ≠ 0 → ∀ F1 : Nat → sy_d, iv_in F1 iv_B4 → (∀ j, j < 69 → j ∉ ([] : List Nat) → F1 j = F j) → (sy_i F1 4).toInt = (sy_i F 4).toInt → (sy_i F1 6).toInt = (sy_i F 6).toInt → (sy_i F1 7).toInt = (sy_i F 7).toInt → (sy_i F1 8).toInt = (sy_i F 8).toInt → (sy_i F1 9).toInt = (sy_i F 9).toInt → (sy_i F1 13).toInt = (sy_i F 13).toInt → sy_ai F1 25 = sy_ai F 25 → sy_ai F1 26 = sy_ai F 26 → sy_ai F1 27 = sy_ai F 27 → Q (some (.int (sy_i F 69))) (sy_dh F1 X1 X2 (iv_H 4)))
    (k2 : (sy_i F 70).toInt < (sy_i F 13).toInt → (sy_i F 6).toInt = 0 → (lg_cmp ((sy_al F 30).getD ((sy_i F 70).toInt).toNat 0) ((sy_al F 28).getD ((sy_i F 69).toInt).toNat 0)).toInt ≠ 0 → ∀ F1 : Nat → sy_d, iv_in F1 iv_B4 → (∀ j, j < 69 → j ∉ ([] : List Nat) → F1 j = F j) → (sy_i F1 4).toInt = (sy_i F 4).toInt → (sy_i F1 6).toInt = (sy_i F 6).toInt → (sy_i F1 7).toInt = (sy_i F 7).toInt → (sy_i F1 8).toInt = (sy_i F 8).toInt → (sy_i F1 9).toInt = (sy_i F 9).toInt → (sy_i F1 13).toInt = (sy_i F 13).toInt → sy_ai F1 25 = sy_ai F 25 → sy_ai F1 26 = sy_ai F 26 → sy_ai F1 27 = sy_ai F 27 → (sy_i F1 69).toInt = (sy_i F 69).toInt → (sy_i F1 70).toInt = ((sy_i F 70).toInt + 1) → hd_W Ls xs d jm_M155 Q (12, sy_dL F1 [some (.inl (.ref 1000)), some (.inr (.inl 69)), some (.inr (.inl 70))], sy_dS F1 [], sy_dh F1 X1 X2 (iv_H 4), 0, 0))
    (k3 : (sy_i F 70).toInt < (sy_i F 13).toInt → (sy_i F 6).toInt = 0 → (lg_cmp ((sy_al F 30).getD ((sy_i F 70).toInt).toNat 0) ((sy_al F 28).getD ((sy_i F 69).toInt).toNat 0)).toInt = 0 → (sy_i F 6).toInt ≤ 0 → (sy_i F 8).toInt = 0 → ∀ F1 : Nat → sy_d, iv_in F1 iv_B4 → (∀ j, j < 69 → j ∉ ([8, 9] : List Nat) → F1 j = F j) → (sy_i F1 4).toInt = (sy_i F 4).toInt → (sy_i F1 6).toInt = (sy_i F 6).toInt → (sy_i F1 7).toInt = (sy_i F 7).toInt → (sy_i F1 8).toInt = 3 → (sy_i F1 9).toInt = ((sy_ai F 26).getD ((sy_i F 69).toInt).toNat 0).toInt → (sy_i F1 13).toInt = (sy_i F 13).toInt → sy_ai F1 25 = sy_ai F 25 → sy_ai F1 26 = sy_ai F 26 → sy_ai F1 27 = sy_ai F 27 → (sy_i F1 69).toInt = (sy_i F 69).toInt → (sy_i F1 70).toInt = ((sy_i F 70).toInt + 1) → hd_W Ls xs d jm_M155 Q (12, sy_dL F1 [some (.inl (.ref 1000)), some (.inr (.inl 69)), some (.inr (.inl 70))], sy_dS F1 [], sy_dh F1 X1 X2 (iv_H 4), 0, 0))
    (k4 : (sy_i F 70).toInt < (sy_i F 13).toInt → (sy_i F 6).toInt = 0 → (lg_cmp ((sy_al F 30).getD ((sy_i F 70).toInt).toNat 0) ((sy_al F 28).getD ((sy_i F 69).toInt).toNat 0)).toInt = 0 → (sy_i F 6).toInt ≤ 0 → (sy_i F 8).toInt ≠ 0 → (sy_i F 9).toInt < ((sy_ai F 26).getD ((sy_i F 69).toInt).toNat 0).toInt → ∀ F1 : Nat → sy_d, iv_in F1 iv_B4 → (∀ j, j < 69 → j ∉ ([] : List Nat) → F1 j = F j) → (sy_i F1 4).toInt = (sy_i F 4).toInt → (sy_i F1 6).toInt = (sy_i F 6).toInt → (sy_i F1 7).toInt = (sy_i F 7).toInt → (sy_i F1 8).toInt = (sy_i F 8).toInt → (sy_i F1 9).toInt = (sy_i F 9).toInt → (sy_i F1 13).toInt = (sy_i F 13).toInt → sy_ai F1 25 = sy_ai F 25 → sy_ai F1 26 = sy_ai F 26 → sy_ai F1 27 = sy_ai F 27 → (sy_i F1 69).toInt = (sy_i F 69).toInt → (sy_i F1 70).toInt = ((sy_i F 70).toInt + 1) → hd_W Ls xs d jm_M155 Q (12, sy_dL F1 [some (.inl (.ref 1000)), some (.inr (.inl 69)), some (.inr (.inl 70))], sy_dS F1 [], sy_dh F1 X1 X2 (iv_H 4), 0, 0))
    (k5 : (sy_i F 70).toInt < (sy_i F 13).toInt → (sy_i F 6).toInt = 0 → (lg_cmp ((sy_al F 30).getD ((sy_i F 70).toInt).toNat 0) ((sy_al F 28).getD ((sy_i F 69).toInt).toNat 0)).toInt = 0 → (sy_i F 6).toInt ≤ 0 → (sy_i F 8).toInt ≠ 0 → ((sy_ai F 26).getD ((sy_i F 69).toInt).toNat 0).toInt ≤ (sy_i F 9).toInt → ((sy_ai F 26).getD ((sy_i F 69).toInt).toNat 0).toInt ≠ (sy_i F 9).toInt → ∀ F1 : Nat → sy_d, iv_in F1 iv_B4 → (∀ j, j < 69 → j ∉ ([8, 9] : List Nat) → F1 j = F j) → (sy_i F1 4).toInt = (sy_i F 4).toInt → (sy_i F1 6).toInt = (sy_i F 6).toInt → (sy_i F1 7).toInt = (sy_i F 7).toInt → (sy_i F1 8).toInt = 3 → (sy_i F1 9).toInt = ((sy_ai F 26).getD ((sy_i F 69).toInt).toNat 0).toInt → (sy_i F1 13).toInt = (sy_i F 13).toInt → sy_ai F1 25 = sy_ai F 25 → sy_ai F1 26 = sy_ai F 26 → sy_ai F1 27 = sy_ai F 27 → (sy_i F1 69).toInt = (sy_i F 69).toInt → (sy_i F1 70).toInt = ((sy_i F 70).toInt + 1) → hd_W Ls xs d jm_M155 Q (12, sy_dL F1 [some (.inl (.ref 1000)), some (.inr (.inl 69)), some (.inr (.inl 70))], sy_dS F1 [], sy_dh F1 X1 X2 (iv_H 4), 0, 0))
    (k6 : (sy_i F 70).toInt < (sy_i F 13).toInt → (sy_i F 6).toInt = 0 → (lg_cmp ((sy_al F 30).getD ((sy_i F 70).toInt).toNat 0) ((sy_al F 28).getD ((sy_i F 69).toInt).toNat 0)).toInt = 0 → (sy_i F 6).toInt ≤ 0 → (sy_i F 8).toInt ≠ 0 → ((sy_ai F 26).getD ((sy_i F 69).toInt).toNat 0).toInt ≤ (sy_i F 9).toInt → ((sy_ai F 26).getD ((sy_i F 69).toInt).toNat 0).toInt = (sy_i F 9).toInt → 3 < (sy_i F 8).toInt → ∀ F1 : Nat → sy_d, iv_in F1 iv_B4 → (∀ j, j < 69 → j ∉ ([8, 9] : List Nat) → F1 j = F j) → (sy_i F1 4).toInt = (sy_i F 4).toInt → (sy_i F1 6).toInt = (sy_i F 6).toInt → (sy_i F1 7).toInt = (sy_i F 7).toInt → (sy_i F1 8).toInt = 3 → (sy_i F1 9).toInt = ((sy_ai F 26).getD ((sy_i F 69).toInt).toNat 0).toInt → (sy_i F1 13).toInt = (sy_i F 13).toInt → sy_ai F1 25 = sy_ai F 25 → sy_ai F1 26 = sy_ai F 26 → sy_ai F1 27 = sy_ai F 27 → (sy_i F1 69).toInt = (sy_i F 69).toInt → (sy_i F1 70).toInt = ((sy_i F 70).toInt + 1) → hd_W Ls xs d jm_M155 Q (12, sy_dL F1 [some (.inl (.ref 1000)), some (.inr (.inl 69)), some (.inr (.inl 70))], sy_dS F1 [], sy_dh F1 X1 X2 (iv_H 4), 0, 0))
    (k7 : (sy_i F 70).toInt < (sy_i F 13).toInt → (sy_i F 6).toInt = 0 → (lg_cmp ((sy_al F 30).getD ((sy_i F 70).toInt).toNat 0) ((sy_al F 28).getD ((sy_i F 69).toInt).toNat 0)).toInt = 0 → (sy_i F 6).toInt ≤ 0 → (sy_i F 8).toInt ≠ 0 → ((sy_ai F 26).getD ((sy_i F 69).toInt).toNat 0).toInt ≤ (sy_i F 9).toInt → ((sy_ai F 26).getD ((sy_i F 69).toInt).toNat 0).toInt = (sy_i F 9).toInt → (sy_i F 8).toInt ≤ 3 → ∀ F1 : Nat → sy_d, iv_in F1 iv_B4 → (∀ j, j < 69 → j ∉ ([] : List Nat) → F1 j = F j) → (sy_i F1 4).toInt = (sy_i F 4).toInt → (sy_i F1 6).toInt = (sy_i F 6).toInt → (sy_i F1 7).toInt = (sy_i F 7).toInt → (sy_i F1 8).toInt = (sy_i F 8).toInt → (sy_i F1 9).toInt = (sy_i F 9).toInt → (sy_i F1 13).toInt = (sy_i F 13).toInt → sy_ai F1 25 = sy_ai F 25 → sy_ai F1 26 = sy_ai F 26 → sy_ai F1 27 = sy_ai F 27 → (sy_i F1 69).toInt = (sy_i F 69).toInt → (sy_i F1 70).toInt = ((sy_i F 70).toInt + 1) → hd_W Ls xs d jm_M155 Q (12, sy_dL F1 [some (.inl (.ref 1000)), some (.inr (.inl 69)), some (.inr (.inl 70))], sy_dS F1 [], sy_dh F1 X1 X2 (iv_H 4), 0, 0)) :
    hd_W Ls xs d jm_M155 Q (12, sy_dL F [some (.inl (.ref 1000)), some (.inr (.inl 69)), some (.inr (.inl 70))], sy_dS F [], sy_dh F X1 X2 (iv_H 4), 0, 0) := by
  by_cases g0 : (sy_i F 13).toInt ≤ (sy_i F 70).toInt
  · have c13 := nz_bx hB (k := 13) (lo := 0) (hi := 11) rfl
    exact na_12_p0 hd F X1 X2 hB (by first | exact g0 | (simp only [nz_c]; exact g0)) (fun F1 g  => by rw [(rfl : sy_i F 69 = sy_i F 69)]; exact k0 g0 F1 (nz_in hB [] (fun j hj hn => g j hj (by simp only [List.mem_cons, List.not_mem_nil, or_false, not_or] at hn; exact trivial)) (List.forall_mem_nil _)) (fun j hj hn => g j hj (by simp only [List.mem_cons, List.not_mem_nil, or_false, not_or] at hn; exact trivial)) (nz_fi (g 4 (by decide) (by decide))) (nz_fi (g 6 (by decide) (by decide))) (nz_fi (g 7 (by decide) (by decide))) (nz_fi (g 8 (by decide) (by decide))) (nz_fi (g 9 (by decide) (by decide))) (nz_fi (g 13 (by decide) (by decide))) (nz_fa (g 25 (by decide) (by decide))) (nz_fa (g 26 (by decide) (by decide))) (nz_fa (g 27 (by decide) (by decide))))
  replace g0 : (sy_i F 70).toInt < (sy_i F 13).toInt := by omega
  by_cases g1 : (sy_i F 6).toInt ≠ 0
  · have c13 := nz_bx hB (k := 13) (lo := 0) (hi := 11) rfl
    have c6 := nz_bx hB (k := 6) (lo := 0) (hi := 2) rfl
    exact na_12_p1 hd F X1 X2 hB (by first | exact g0 | (simp only [nz_c]; exact g0)) (by first | exact g1 | (simp only [nz_c]; exact g1)) (fun F1 g  => by rw [(rfl : sy_i F 69 = sy_i F 69)]; exact k1 g0 g1 F1 (nz_in hB [] (fun j hj hn => g j hj (by simp only [List.mem_cons, List.not_mem_nil, or_false, not_or] at hn; exact trivial)) (List.forall_mem_nil _)) (fun j hj hn => g j hj (by simp only [List.mem_cons, List.not_mem_nil, or_false, not_or] at hn; exact trivial)) (nz_fi (g 4 (by decide) (by decide))) (nz_fi (g 6 (by decide) (by decide))) (nz_fi (g 7 (by decide) (by decide))) (nz_fi (g 8 (by decide) (by decide))) (nz_fi (g 9 (by decide) (by decide))) (nz_fi (g 13 (by decide) (by decide))) (nz_fa (g 25 (by decide) (by decide))) (nz_fa (g 26 (by decide) (by decide))) (nz_fa (g 27 (by decide) (by decide))))
  replace g1 : (sy_i F 6).toInt = 0 := by omega
  by_cases g2 : (lg_cmp ((sy_al F 30).getD ((sy_i F 70).toInt).toNat 0) ((sy_al F 28).getD ((sy_i F 69).toInt).toNat 0)).toInt ≠ 0
  · have c13 := nz_bx hB (k := 13) (lo := 0) (hi := 11) rfl
    have c6 := nz_bx hB (k := 6) (lo := 0) (hi := 2) rfl
    have q73 : lg_cmp ((sy_al F 30).getD (sy_i F 70).toNatClampNeg 0) ((sy_al F 28).getD (sy_i F 69).toNatClampNeg 0) = lg_cmp ((sy_al F 30).getD ((sy_i F 70).toInt).toNat 0) ((sy_al F 28).getD ((sy_i F 69).toInt).toNat 0) := by simp only [nz_c]
    have n73 : (lg_cmp ((sy_al F 30).getD (sy_i F 70).toNatClampNeg 0) ((sy_al F 28).getD (sy_i F 69).toNatClampNeg 0)).toInt = (lg_cmp ((sy_al F 30).getD ((sy_i F 70).toInt).toNat 0) ((sy_al F 28).getD ((sy_i F 69).toInt).toNat 0)).toInt := congrArg Int32.toInt q73
    have n74 : ((sy_i F 70) + ((1 : Int32))).toInt = ((sy_i F 70).toInt + 1) := nz_add (rfl : (sy_i F 70).toInt = (sy_i F 70).toInt) (by decide : ((1 : Int32)).toInt = 1) (by omega) (by omega)
    exact na_12_p2 hd F X1 X2 hB (by first | exact g0 | (simp only [nz_c]; exact g0)) (by first | exact g1 | (simp only [nz_c]; exact g1)) (by first | exact ⟨by omega, by omega⟩ | (simp only [nz_c]; exact ⟨by omega, by omega⟩)) (by first | exact ⟨by omega, by omega⟩ | (simp only [nz_c]; exact ⟨by omega, by omega⟩)) (by first | exact g2 | (simp only [nz_c]; exact g2) | (rw [n73]; exact g2)) (fun F1 g e69 e70 => k2 g0 g1 g2 F1 (nz_in hB [] (fun j hj hn => g j hj (by simp only [List.mem_cons, List.not_mem_nil, or_false, not_or] at hn; exact trivial)) (List.forall_mem_nil _)) (fun j hj hn => g j hj (by simp only [List.mem_cons, List.not_mem_nil, or_false, not_or] at hn; exact trivial)) (nz_fi (g 4 (by decide) (by decide))) (nz_fi (g 6 (by decide) (by decide))) (nz_fi (g 7 (by decide) (by decide))) (nz_fi (g 8 (by decide) (by decide))) (nz_fi (g 9 (by decide) (by decide))) (nz_fi (g 13 (by decide) (by decide))) (nz_fa (g 25 (by decide) (by decide))) (nz_fa (g 26 (by decide) (by decide))) (nz_fa (g 27 (by decide) (by decide))) ((congrArg Int32.toInt (zz_i e69)).trans (rfl : (sy_i F 69).toInt = (sy_i F 69).toInt)) ((congrArg Int32.toInt (zz_i e70)).trans n74))
  replace g2 : (lg_cmp ((sy_al F 30).getD ((sy_i F 70).toInt).toNat 0) ((sy_al F 28).getD ((sy_i F 69).toInt).toNat 0)).toInt = 0 := by omega
  by_cases g3 : 0 < (sy_i F 6).toInt
  · have c13 := nz_bx hB (k := 13) (lo := 0) (hi := 11) rfl
    have c6 := nz_bx hB (k := 6) (lo := 0) (hi := 2) rfl
    have q73 : lg_cmp ((sy_al F 30).getD (sy_i F 70).toNatClampNeg 0) ((sy_al F 28).getD (sy_i F 69).toNatClampNeg 0) = lg_cmp ((sy_al F 30).getD ((sy_i F 70).toInt).toNat 0) ((sy_al F 28).getD ((sy_i F 69).toInt).toNat 0) := by simp only [nz_c]
    have n73 : (lg_cmp ((sy_al F 30).getD (sy_i F 70).toNatClampNeg 0) ((sy_al F 28).getD (sy_i F 69).toNatClampNeg 0)).toInt = (lg_cmp ((sy_al F 30).getD ((sy_i F 70).toInt).toNat 0) ((sy_al F 28).getD ((sy_i F 69).toInt).toNat 0)).toInt := congrArg Int32.toInt q73
    exfalso
    omega
  replace g3 : (sy_i F 6).toInt ≤ 0 := by omega
  by_cases g4 : (sy_i F 8).toInt = 0
  · have c13 := nz_bx hB (k := 13) (lo := 0) (hi := 11) rfl
    have c6 := nz_bx hB (k := 6) (lo := 0) (hi := 2) rfl
    have q73 : lg_cmp ((sy_al F 30).getD (sy_i F 70).toNatClampNeg 0) ((sy_al F 28).getD (sy_i F 69).toNatClampNeg 0) = lg_cmp ((sy_al F 30).getD ((sy_i F 70).toInt).toNat 0) ((sy_al F 28).getD ((sy_i F 69).toInt).toNat 0) := by simp only [nz_c]
    have n73 : (lg_cmp ((sy_al F 30).getD (sy_i F 70).toNatClampNeg 0) ((sy_al F 28).getD (sy_i F 69).toNatClampNeg 0)).toInt = (lg_cmp ((sy_al F 30).getD ((sy_i F 70).toInt).toNat 0) ((sy_al F 28).getD ((sy_i F 69).toInt).toNat 0)).toInt := congrArg Int32.toInt q73
    have q74 : (sy_ai F 26).getD (sy_i F 69).toNatClampNeg 0 = (sy_ai F 26).getD ((sy_i F 69).toInt).toNat 0 := by simp only [nz_c]
    have n74 : ((sy_ai F 26).getD (sy_i F 69).toNatClampNeg 0).toInt = ((sy_ai F 26).getD ((sy_i F 69).toInt).toNat 0).toInt := congrArg Int32.toInt q74
    have n75 : ((sy_i F 70) + ((1 : Int32))).toInt = ((sy_i F 70).toInt + 1) := nz_add (rfl : (sy_i F 70).toInt = (sy_i F 70).toInt) (by decide : ((1 : Int32)).toInt = 1) (by omega) (by omega)
    exact na_12_p3 hd F X1 X2 hB (by first | exact g0 | (simp only [nz_c]; exact g0)) (by first | exact g1 | (simp only [nz_c]; exact g1)) (by first | exact ⟨by omega, by omega⟩ | (simp only [nz_c]; exact ⟨by omega, by omega⟩)) (by first | exact ⟨by omega, by omega⟩ | (simp only [nz_c]; exact ⟨by omega, by omega⟩)) (by first | exact g2 | (simp only [nz_c]; exact g2) | (rw [n73]; exact g2)) (by first | exact ⟨by omega, by omega⟩ | (simp only [nz_c]; exact ⟨by omega, by omega⟩)) (by first | exact g3 | (simp only [nz_c]; exact g3)) (by first | exact g4 | (simp only [nz_c]; exact g4)) (fun F1 g e8 e9 e69 e70 => k3 g0 g1 g2 g3 g4 F1 (nz_in hB [8, 9] (fun j hj hn => g j hj (by simp only [List.mem_cons, List.not_mem_nil, or_false, not_or] at hn; omega)) (List.forall_mem_cons.mpr ⟨fun t ht => (Option.some.inj ht) ▸ (nz_hz e8), List.forall_mem_cons.mpr ⟨fun t ht => (Option.some.inj ht) ▸ (nz_hz e9), List.forall_mem_nil _⟩⟩)) (fun j hj hn => g j hj (by simp only [List.mem_cons, List.not_mem_nil, or_false, not_or] at hn; omega)) (nz_fi (g 4 (by decide) (by decide))) (nz_fi (g 6 (by decide) (by decide))) (nz_fi (g 7 (by decide) (by decide))) ((congrArg Int32.toInt (zz_i e8)).trans (by decide : ((3 : Int32)).toInt = 3)) ((congrArg Int32.toInt (zz_i e9)).trans n74) (nz_fi (g 13 (by decide) (by decide))) (nz_fa (g 25 (by decide) (by decide))) (nz_fa (g 26 (by decide) (by decide))) (nz_fa (g 27 (by decide) (by decide))) ((congrArg Int32.toInt (zz_i e69)).trans (rfl : (sy_i F 69).toInt = (sy_i F 69).toInt)) ((congrArg Int32.toInt (zz_i e70)).trans n75))
  replace g4 : (sy_i F 8).toInt ≠ 0 := by omega
  by_cases g5 : (sy_i F 9).toInt < ((sy_ai F 26).getD ((sy_i F 69).toInt).toNat 0).toInt
  · have c13 := nz_bx hB (k := 13) (lo := 0) (hi := 11) rfl
    have c6 := nz_bx hB (k := 6) (lo := 0) (hi := 2) rfl
    have q73 : lg_cmp ((sy_al F 30).getD (sy_i F 70).toNatClampNeg 0) ((sy_al F 28).getD (sy_i F 69).toNatClampNeg 0) = lg_cmp ((sy_al F 30).getD ((sy_i F 70).toInt).toNat 0) ((sy_al F 28).getD ((sy_i F 69).toInt).toNat 0) := by simp only [nz_c]
    have n73 : (lg_cmp ((sy_al F 30).getD (sy_i F 70).toNatClampNeg 0) ((sy_al F 28).getD (sy_i F 69).toNatClampNeg 0)).toInt = (lg_cmp ((sy_al F 30).getD ((sy_i F 70).toInt).toNat 0) ((sy_al F 28).getD ((sy_i F 69).toInt).toNat 0)).toInt := congrArg Int32.toInt q73
    have q74 : (sy_ai F 26).getD (sy_i F 69).toNatClampNeg 0 = (sy_ai F 26).getD ((sy_i F 69).toInt).toNat 0 := by simp only [nz_c]
    have n74 : ((sy_ai F 26).getD (sy_i F 69).toNatClampNeg 0).toInt = ((sy_ai F 26).getD ((sy_i F 69).toInt).toNat 0).toInt := congrArg Int32.toInt q74
    have n75 : ((sy_i F 70) + ((1 : Int32))).toInt = ((sy_i F 70).toInt + 1) := nz_add (rfl : (sy_i F 70).toInt = (sy_i F 70).toInt) (by decide : ((1 : Int32)).toInt = 1) (by omega) (by omega)
    exact na_12_p4 hd F X1 X2 hB (by first | exact g0 | (simp only [nz_c]; exact g0)) (by first | exact g1 | (simp only [nz_c]; exact g1)) (by first | exact ⟨by omega, by omega⟩ | (simp only [nz_c]; exact ⟨by omega, by omega⟩)) (by first | exact ⟨by omega, by omega⟩ | (simp only [nz_c]; exact ⟨by omega, by omega⟩)) (by first | exact g2 | (simp only [nz_c]; exact g2) | (rw [n73]; exact g2)) (by first | exact ⟨by omega, by omega⟩ | (simp only [nz_c]; exact ⟨by omega, by omega⟩)) (by first | exact g3 | (simp only [nz_c]; exact g3)) (by first | exact g4 | (simp only [nz_c]; exact g4)) (by first | exact g5 | (simp only [nz_c]; exact g5) | (rw [n74]; exact g5)) (fun F1 g e69 e70 => k4 g0 g1 g2 g3 g4 g5 F1 (nz_in hB [] (fun j hj hn => g j hj (by simp only [List.mem_cons, List.not_mem_nil, or_false, not_or] at hn; exact trivial)) (List.forall_mem_nil _)) (fun j hj hn => g j hj (by simp only [List.mem_cons, List.not_mem_nil, or_false, not_or] at hn; exact trivial)) (nz_fi (g 4 (by decide) (by decide))) (nz_fi (g 6 (by decide) (by decide))) (nz_fi (g 7 (by decide) (by decide))) (nz_fi (g 8 (by decide) (by decide))) (nz_fi (g 9 (by decide) (by decide))) (nz_fi (g 13 (by decide) (by decide))) (nz_fa (g 25 (by decide) (by decide))) (nz_fa (g 26 (by decide) (by decide))) (nz_fa (g 27 (by decide) (by decide))) ((congrArg Int32.toInt (zz_i e69)).trans (rfl : (sy_i F 69).toInt = (sy_i F 69).toInt)) ((congrArg Int32.toInt (zz_i e70)).trans n75))
  replace g5 : ((sy_ai F 26).getD ((sy_i F 69).toInt).toNat 0).toInt ≤ (sy_i F 9).toInt := by omega
  by_cases g6 : ((sy_ai F 26).getD ((sy_i F 69).toInt).toNat 0).toInt ≠ (sy_i F 9).toInt
  · have c13 := nz_bx hB (k := 13) (lo := 0) (hi := 11) rfl
    have c6 := nz_bx hB (k := 6) (lo := 0) (hi := 2) rfl
    have q73 : lg_cmp ((sy_al F 30).getD (sy_i F 70).toNatClampNeg 0) ((sy_al F 28).getD (sy_i F 69).toNatClampNeg 0) = lg_cmp ((sy_al F 30).getD ((sy_i F 70).toInt).toNat 0) ((sy_al F 28).getD ((sy_i F 69).toInt).toNat 0) := by simp only [nz_c]
    have n73 : (lg_cmp ((sy_al F 30).getD (sy_i F 70).toNatClampNeg 0) ((sy_al F 28).getD (sy_i F 69).toNatClampNeg 0)).toInt = (lg_cmp ((sy_al F 30).getD ((sy_i F 70).toInt).toNat 0) ((sy_al F 28).getD ((sy_i F 69).toInt).toNat 0)).toInt := congrArg Int32.toInt q73
    have q74 : (sy_ai F 26).getD (sy_i F 69).toNatClampNeg 0 = (sy_ai F 26).getD ((sy_i F 69).toInt).toNat 0 := by simp only [nz_c]
    have n74 : ((sy_ai F 26).getD (sy_i F 69).toNatClampNeg 0).toInt = ((sy_ai F 26).getD ((sy_i F 69).toInt).toNat 0).toInt := congrArg Int32.toInt q74
    have n75 : ((sy_i F 70) + ((1 : Int32))).toInt = ((sy_i F 70).toInt + 1) := nz_add (rfl : (sy_i F 70).toInt = (sy_i F 70).toInt) (by decide : ((1 : Int32)).toInt = 1) (by omega) (by omega)
    exact na_12_p5 hd F X1 X2 hB (by first | exact g0 | (simp only [nz_c]; exact g0)) (by first | exact g1 | (simp only [nz_c]; exact g1)) (by first | exact ⟨by omega, by omega⟩ | (simp only [nz_c]; exact ⟨by omega, by omega⟩)) (by first | exact ⟨by omega, by omega⟩ | (simp only [nz_c]; exact ⟨by omega, by omega⟩)) (by first | exact g2 | (simp only [nz_c]; exact g2) | (rw [n73]; exact g2)) (by first | exact ⟨by omega, by omega⟩ | (simp only [nz_c]; exact ⟨by omega, by omega⟩)) (by first | exact g3 | (simp only [nz_c]; exact g3)) (by first | exact g4 | (simp only [nz_c]; exact g4)) (by first | exact g5 | (simp only [nz_c]; exact g5) | (rw [n74]; exact g5)) (by first | exact g6 | (simp only [nz_c]; exact g6) | (rw [n74]; exact g6)) (fun F1 g e8 e9 e69 e70 => k5 g0 g1 g2 g3 g4 g5 g6 F1 (nz_in hB [8, 9] (fun j hj hn => g j hj (by simp only [List.mem_cons, List.not_mem_nil, or_false, not_or] at hn; omega)) (List.forall_mem_cons.mpr ⟨fun t ht => (Option.some.inj ht) ▸ (nz_hz e8), List.forall_mem_cons.mpr ⟨fun t ht => (Option.some.inj ht) ▸ (nz_hz e9), List.forall_mem_nil _⟩⟩)) (fun j hj hn => g j hj (by simp only [List.mem_cons, List.not_mem_nil, or_false, not_or] at hn; omega)) (nz_fi (g 4 (by decide) (by decide))) (nz_fi (g 6 (by decide) (by decide))) (nz_fi (g 7 (by decide) (by decide))) ((congrArg Int32.toInt (zz_i e8)).trans (by decide : ((3 : Int32)).toInt = 3)) ((congrArg Int32.toInt (zz_i e9)).trans n74) (nz_fi (g 13 (by decide) (by decide))) (nz_fa (g 25 (by decide) (by decide))) (nz_fa (g 26 (by decide) (by decide))) (nz_fa (g 27 (by decide) (by decide))) ((congrArg Int32.toInt (zz_i e69)).trans (rfl : (sy_i F 69).toInt = (sy_i F 69).toInt)) ((congrArg Int32.toInt (zz_i e70)).trans n75))
  replace g6 : ((sy_ai F 26).getD ((sy_i F 69).toInt).toNat 0).toInt = (sy_i F 9).toInt := by omega
  by_cases g7 : 3 < (sy_i F 8).toInt
  · have c13 := nz_bx hB (k := 13) (lo := 0) (hi := 11) rfl
    have c6 := nz_bx hB (k := 6) (lo := 0) (hi := 2) rfl
    have q73 : lg_cmp ((sy_al F 30).getD (sy_i F 70).toNatClampNeg 0) ((sy_al F 28).getD (sy_i F 69).toNatClampNeg 0) = lg_cmp ((sy_al F 30).getD ((sy_i F 70).toInt).toNat 0) ((sy_al F 28).getD ((sy_i F 69).toInt).toNat 0) := by simp only [nz_c]
    have n73 : (lg_cmp ((sy_al F 30).getD (sy_i F 70).toNatClampNeg 0) ((sy_al F 28).getD (sy_i F 69).toNatClampNeg 0)).toInt = (lg_cmp ((sy_al F 30).getD ((sy_i F 70).toInt).toNat 0) ((sy_al F 28).getD ((sy_i F 69).toInt).toNat 0)).toInt := congrArg Int32.toInt q73
    have q74 : (sy_ai F 26).getD (sy_i F 69).toNatClampNeg 0 = (sy_ai F 26).getD ((sy_i F 69).toInt).toNat 0 := by simp only [nz_c]
    have n74 : ((sy_ai F 26).getD (sy_i F 69).toNatClampNeg 0).toInt = ((sy_ai F 26).getD ((sy_i F 69).toInt).toNat 0).toInt := congrArg Int32.toInt q74
    have n75 : ((sy_i F 70) + ((1 : Int32))).toInt = ((sy_i F 70).toInt + 1) := nz_add (rfl : (sy_i F 70).toInt = (sy_i F 70).toInt) (by decide : ((1 : Int32)).toInt = 1) (by omega) (by omega)
    exact na_12_p6 hd F X1 X2 hB (by first | exact g0 | (simp only [nz_c]; exact g0)) (by first | exact g1 | (simp only [nz_c]; exact g1)) (by first | exact ⟨by omega, by omega⟩ | (simp only [nz_c]; exact ⟨by omega, by omega⟩)) (by first | exact ⟨by omega, by omega⟩ | (simp only [nz_c]; exact ⟨by omega, by omega⟩)) (by first | exact g2 | (simp only [nz_c]; exact g2) | (rw [n73]; exact g2)) (by first | exact ⟨by omega, by omega⟩ | (simp only [nz_c]; exact ⟨by omega, by omega⟩)) (by first | exact g3 | (simp only [nz_c]; exact g3)) (by first | exact g4 | (simp only [nz_c]; exact g4)) (by first | exact g5 | (simp only [nz_c]; exact g5) | (rw [n74]; exact g5)) (by first | exact g6 | (simp only [nz_c]; exact g6) | (rw [n74]; exact g6)) (by first | exact g7 | (simp only [nz_c]; exact g7)) (fun F1 g e8 e9 e69 e70 => k6 g0 g1 g2 g3 g4 g5 g6 g7 F1 (nz_in hB [8, 9] (fun j hj hn => g j hj (by simp only [List.mem_cons, List.not_mem_nil, or_false, not_or] at hn; omega)) (List.forall_mem_cons.mpr ⟨fun t ht => (Option.some.inj ht) ▸ (nz_hz e8), List.forall_mem_cons.mpr ⟨fun t ht => (Option.some.inj ht) ▸ (nz_hz e9), List.forall_mem_nil _⟩⟩)) (fun j hj hn => g j hj (by simp only [List.mem_cons, List.not_mem_nil, or_false, not_or] at hn; omega)) (nz_fi (g 4 (by decide) (by decide))) (nz_fi (g 6 (by decide) (by decide))) (nz_fi (g 7 (by decide) (by decide))) ((congrArg Int32.toInt (zz_i e8)).trans (by decide : ((3 : Int32)).toInt = 3)) ((congrArg Int32.toInt (zz_i e9)).trans n74) (nz_fi (g 13 (by decide) (by decide))) (nz_fa (g 25 (by decide) (by decide))) (nz_fa (g 26 (by decide) (by decide))) (nz_fa (g 27 (by decide) (by decide))) ((congrArg Int32.toInt (zz_i e69)).trans (rfl : (sy_i F 69).toInt = (sy_i F 69).toInt)) ((congrArg Int32.toInt (zz_i e70)).trans n75))
  replace g7 : (sy_i F 8).toInt ≤ 3 := by omega
  have c13 := nz_bx hB (k := 13) (lo := 0) (hi := 11) rfl
  have c6 := nz_bx hB (k := 6) (lo := 0) (hi := 2) rfl
  have q73 : lg_cmp ((sy_al F 30).getD (sy_i F 70).toNatClampNeg 0) ((sy_al F 28).getD (sy_i F 69).toNatClampNeg 0) = lg_cmp ((sy_al F 30).getD ((sy_i F 70).toInt).toNat 0) ((sy_al F 28).getD ((sy_i F 69).toInt).toNat 0) := by simp only [nz_c]
  have n73 : (lg_cmp ((sy_al F 30).getD (sy_i F 70).toNatClampNeg 0) ((sy_al F 28).getD (sy_i F 69).toNatClampNeg 0)).toInt = (lg_cmp ((sy_al F 30).getD ((sy_i F 70).toInt).toNat 0) ((sy_al F 28).getD ((sy_i F 69).toInt).toNat 0)).toInt := congrArg Int32.toInt q73
  have q74 : (sy_ai F 26).getD (sy_i F 69).toNatClampNeg 0 = (sy_ai F 26).getD ((sy_i F 69).toInt).toNat 0 := by simp only [nz_c]
  have n74 : ((sy_ai F 26).getD (sy_i F 69).toNatClampNeg 0).toInt = ((sy_ai F 26).getD ((sy_i F 69).toInt).toNat 0).toInt := congrArg Int32.toInt q74
  have n75 : ((sy_i F 70) + ((1 : Int32))).toInt = ((sy_i F 70).toInt + 1) := nz_add (rfl : (sy_i F 70).toInt = (sy_i F 70).toInt) (by decide : ((1 : Int32)).toInt = 1) (by omega) (by omega)
  exact na_12_p7 hd F X1 X2 hB (by first | exact g0 | (simp only [nz_c]; exact g0)) (by first | exact g1 | (simp only [nz_c]; exact g1)) (by first | exact ⟨by omega, by omega⟩ | (simp only [nz_c]; exact ⟨by omega, by omega⟩)) (by first | exact ⟨by omega, by omega⟩ | (simp only [nz_c]; exact ⟨by omega, by omega⟩)) (by first | exact g2 | (simp only [nz_c]; exact g2) | (rw [n73]; exact g2)) (by first | exact ⟨by omega, by omega⟩ | (simp only [nz_c]; exact ⟨by omega, by omega⟩)) (by first | exact g3 | (simp only [nz_c]; exact g3)) (by first | exact g4 | (simp only [nz_c]; exact g4)) (by first | exact g5 | (simp only [nz_c]; exact g5) | (rw [n74]; exact g5)) (by first | exact g6 | (simp only [nz_c]; exact g6) | (rw [n74]; exact g6)) (by first | exact g7 | (simp only [nz_c]; exact g7)) (fun F1 g e69 e70 => k7 g0 g1 g2 g3 g4 g5 g6 g7 F1 (nz_in hB [] (fun j hj hn => g j hj (by simp only [List.mem_cons, List.not_mem_nil, or_false, not_or] at hn; exact trivial)) (List.forall_mem_nil _)) (fun j hj hn => g j hj (by simp only [List.mem_cons, List.not_mem_nil, or_false, not_or] at hn; exact trivial)) (nz_fi (g 4 (by decide) (by decide))) (nz_fi (g 6 (by decide) (by decide))) (nz_fi (g 7 (by decide) (by decide))) (nz_fi (g 8 (by decide) (by decide))) (nz_fi (g 9 (by decide) (by decide))) (nz_fi (g 13 (by decide) (by decide))) (nz_fa (g 25 (by decide) (by decide))) (nz_fa (g 26 (by decide) (by decide))) (nz_fa (g 27 (by decide) (by decide))) ((congrArg Int32.toInt (zz_i e69)).trans (rfl : (sy_i F 69).toInt = (sy_i F 69).toInt)) ((congrArg Int32.toInt (zz_i e70)).trans n75))
theorem eny_0 {Ls : Nat} {xs : Nat → Int32} {d : Nat} {Q : Option Value → jm_h → Prop} (hd : 4 ≤ d) (F : Nat → sy_d) (X1 X2 : List jm_c) (hB : iv_in F iv_B4)
    (a69 : 0 ≤ (sy_i F 69).toInt ∧ (sy_i F 69).toInt ≤ 400)
    (o0 : (sy_i F 6).toInt = 0 → ((sy_ai F 25).getD ((sy_i F 4).toInt).toNat 0).toInt = 4 → (sy_i F 4).toInt ≠ 400 → (sy_i F 6).toInt ≤ 0 → (0 ≤ (sy_i F 13).toInt ∧ (sy_i F 13).toInt < 11))
    (o1 : (sy_i F 6).toInt = 0 → ((sy_ai F 25).getD ((sy_i F 4).toInt).toNat 0).toInt = 4 → (sy_i F 4).toInt ≠ 400 → (sy_i F 6).toInt ≤ 0 → (0 ≤ ((sy_i F 13).toInt + 1) ∧ ((sy_i F 13).toInt + 1) ≤ 11))
    (k0 : (sy_i F 6).toInt ≠ 0 → 0 < (sy_i F 6).toInt → 0 < (sy_i F 6).toInt → ∀ F1 : Nat → sy_d, iv_in F1 iv_B4 → (∀ j, j < 69 → j ∉ ([] : List Nat) → F1 j = F j) → (sy_i F1 4).toInt = (sy_i F 4).toInt → (sy_i F1 6).toInt = (sy_i F 6).toInt → (sy_i F1 7).toInt = (sy_i F 7).toInt → (sy_i F1 8).toInt = (sy_i F 8).toInt → (sy_i F1 9).toInt = (sy_i F 9).toInt → (sy_i F1 13).toInt = (sy_i F 13).toInt → sy_ai F1 25 = sy_ai F 25 → sy_ai F1 26 = sy_ai F 26 → sy_ai F1 27 = sy_ai F 27 → sy_al F1 30 = sy_al F 30 → Q (none) (sy_dh F1 X1 X2 (iv_H 4)))
    (k1 : (sy_i F 6).toInt = 0 → ((sy_ai F 25).getD ((sy_i F 4).toInt).toNat 0).toInt ≠ 4 → (sy_i F 6).toInt ≤ 0 → ∀ F1 : Nat → sy_d, iv_in F1 iv_B4 → (∀ j, j < 69 → j ∉ ([6, 7] : List Nat) → F1 j = F j) → (sy_i F1 4).toInt = (sy_i F 4).toInt → (sy_i F1 6).toInt = 1 → (sy_i F1 7).toInt = ((sy_ai F 26).getD ((sy_i F 4).toInt).toNat 0).toInt → (sy_i F1 8).toInt = (sy_i F 8).toInt → (sy_i F1 9).toInt = (sy_i F 9).toInt → (sy_i F1 13).toInt = (sy_i F 13).toInt → sy_ai F1 25 = sy_ai F 25 → sy_ai F1 26 = sy_ai F 26 → sy_ai F1 27 = sy_ai F 27 → sy_al F1 30 = sy_al F 30 → Q (none) (sy_dh F1 X1 X2 (iv_H 4)))
    (k2 : (sy_i F 6).toInt = 0 → ((sy_ai F 25).getD ((sy_i F 4).toInt).toNat 0).toInt = 4 → (sy_i F 4).toInt ≠ 400 → (sy_i F 6).toInt ≤ 0 → ∀ F1 : Nat → sy_d, iv_in F1 iv_B4 → (∀ j, j < 69 → j ∉ ([4, 13, 30] : List Nat) → F1 j = F j) → (sy_i F1 4).toInt = ((sy_i F 4).toInt + 1) → (sy_i F1 6).toInt = (sy_i F 6).toInt → (sy_i F1 7).toInt = (sy_i F 7).toInt → (sy_i F1 8).toInt = (sy_i F 8).toInt → (sy_i F1 9).toInt = (sy_i F 9).toInt → (sy_i F1 13).toInt = ((sy_i F 13).toInt + 1) → sy_ai F1 25 = sy_ai F 25 → sy_ai F1 26 = sy_ai F 26 → sy_ai F1 27 = sy_ai F 27 → sy_al F1 30 = jm_updL (sy_al F 30) ((sy_i F 13).toInt).toNat ((sy_al F 28).getD ((sy_i F 69).toInt).toNat 0) → Q (none) (sy_dh F1 X1 X2 (iv_H 4)))
    (k3 : (sy_i F 6).toInt = 0 → ((sy_ai F 25).getD ((sy_i F 4).toInt).toNat 0).toInt = 4 → (sy_i F 4).toInt = 400 → (sy_i F 6).toInt ≤ 0 → ∀ F1 : Nat → sy_d, iv_in F1 iv_B4 → (∀ j, j < 69 → j ∉ ([6, 7] : List Nat) → F1 j = F j) → (sy_i F1 4).toInt = (sy_i F 4).toInt → (sy_i F1 6).toInt = 2 → (sy_i F1 7).toInt = ((sy_ai F 26).getD ((sy_i F 4).toInt).toNat 0).toInt → (sy_i F1 8).toInt = (sy_i F 8).toInt → (sy_i F1 9).toInt = (sy_i F 9).toInt → (sy_i F1 13).toInt = (sy_i F 13).toInt → sy_ai F1 25 = sy_ai F 25 → sy_ai F1 26 = sy_ai F 26 → sy_ai F1 27 = sy_ai F 27 → sy_al F1 30 = sy_al F 30 → Q (none) (sy_dh F1 X1 X2 (iv_H 4))) :
    hd_W Ls xs d jm_M156 Q (0, sy_dL F [some (.inl (.ref 1000)), some (.inr (.inl 69))], sy_dS F [], sy_dh F X1 X2 (iv_H 4), 0, 0) := by
  by_cases g0 : (sy_i F 6).toInt ≠ 0
  · by_cases g1 : (sy_i F 6).toInt ≤ 0
    · have c6 := nz_bx hB (k := 6) (lo := 0) (hi := 2) rfl
      exfalso
      omega
    replace g1 : 0 < (sy_i F 6).toInt := by omega
    by_cases g2 : (sy_i F 6).toInt ≤ 0
    · have c6 := nz_bx hB (k := 6) (lo := 0) (hi := 2) rfl
      exfalso
      omega
    replace g2 : 0 < (sy_i F 6).toInt := by omega
    have c6 := nz_bx hB (k := 6) (lo := 0) (hi := 2) rfl
    exact en_0_p0 hd F X1 X2 hB (by first | exact g0 | (simp only [nz_c]; exact g0)) (by first | exact g1 | (simp only [nz_c]; exact g1)) (by first | exact g2 | (simp only [nz_c]; exact g2)) (fun F1 g  => k0 g0 g1 g2 F1 (nz_in hB [] (fun j hj hn => g j hj (by simp only [List.mem_cons, List.not_mem_nil, or_false, not_or] at hn; exact trivial)) (List.forall_mem_nil _)) (fun j hj hn => g j hj (by simp only [List.mem_cons, List.not_mem_nil, or_false, not_or] at hn; exact trivial)) (nz_fi (g 4 (by decide) (by decide))) (nz_fi (g 6 (by decide) (by decide))) (nz_fi (g 7 (by decide) (by decide))) (nz_fi (g 8 (by decide) (by decide))) (nz_fi (g 9 (by decide) (by decide))) (nz_fi (g 13 (by decide) (by decide))) (nz_fa (g 25 (by decide) (by decide))) (nz_fa (g 26 (by decide) (by decide))) (nz_fa (g 27 (by decide) (by decide))) (nz_fl (g 30 (by decide) (by decide))))
  replace g0 : (sy_i F 6).toInt = 0 := by omega
  by_cases g1 : ((sy_ai F 25).getD ((sy_i F 4).toInt).toNat 0).toInt ≠ 4
  · by_cases g2 : (sy_i F 6).toInt ≤ 0
    · have c6 := nz_bx hB (k := 6) (lo := 0) (hi := 2) rfl
      have c4 := nz_bx hB (k := 4) (lo := 0) (hi := 400) rfl
      have q70 : (sy_ai F 25).getD (sy_i F 4).toNatClampNeg 0 = (sy_ai F 25).getD ((sy_i F 4).toInt).toNat 0 := by simp only [nz_c]
      have n70 : ((sy_ai F 25).getD (sy_i F 4).toNatClampNeg 0).toInt = ((sy_ai F 25).getD ((sy_i F 4).toInt).toNat 0).toInt := congrArg Int32.toInt q70
      have r70 := nz_ba hB (k := 25) (lo := 0) (hi := 42) rfl ((sy_i F 4).toInt).toNat
      have q71 : (sy_ai F 26).getD (sy_i F 4).toNatClampNeg 0 = (sy_ai F 26).getD ((sy_i F 4).toInt).toNat 0 := by simp only [nz_c]
      have n71 : ((sy_ai F 26).getD (sy_i F 4).toNatClampNeg 0).toInt = ((sy_ai F 26).getD ((sy_i F 4).toInt).toNat 0).toInt := congrArg Int32.toInt q71
      exact en_0_p1 hd F X1 X2 hB (by first | exact g0 | (simp only [nz_c]; exact g0)) (by first | exact ⟨by omega, by omega⟩ | (simp only [nz_c]; exact ⟨by omega, by omega⟩)) (by first | exact g1 | (simp only [nz_c]; exact g1) | (rw [n70]; exact g1)) (by first | exact g2 | (simp only [nz_c]; exact g2)) (by first | exact ⟨by omega, by omega⟩ | (simp only [nz_c]; exact ⟨by omega, by omega⟩)) (fun F1 g e6 e7 => k1 g0 g1 g2 F1 (nz_in hB [6, 7] (fun j hj hn => g j hj (by simp only [List.mem_cons, List.not_mem_nil, or_false, not_or] at hn; omega)) (List.forall_mem_cons.mpr ⟨fun t ht => (Option.some.inj ht) ▸ (nz_hi e6 (by decide : ((1 : Int32)).toInt = 1) (by omega) (by omega)), List.forall_mem_cons.mpr ⟨fun t ht => (Option.some.inj ht) ▸ (nz_hz e7), List.forall_mem_nil _⟩⟩)) (fun j hj hn => g j hj (by simp only [List.mem_cons, List.not_mem_nil, or_false, not_or] at hn; omega)) (nz_fi (g 4 (by decide) (by decide))) ((congrArg Int32.toInt (zz_i e6)).trans (by decide : ((1 : Int32)).toInt = 1)) ((congrArg Int32.toInt (zz_i e7)).trans n71) (nz_fi (g 8 (by decide) (by decide))) (nz_fi (g 9 (by decide) (by decide))) (nz_fi (g 13 (by decide) (by decide))) (nz_fa (g 25 (by decide) (by decide))) (nz_fa (g 26 (by decide) (by decide))) (nz_fa (g 27 (by decide) (by decide))) (nz_fl (g 30 (by decide) (by decide))))
    replace g2 : 0 < (sy_i F 6).toInt := by omega
    have c6 := nz_bx hB (k := 6) (lo := 0) (hi := 2) rfl
    have c4 := nz_bx hB (k := 4) (lo := 0) (hi := 400) rfl
    have q70 : (sy_ai F 25).getD (sy_i F 4).toNatClampNeg 0 = (sy_ai F 25).getD ((sy_i F 4).toInt).toNat 0 := by simp only [nz_c]
    have n70 : ((sy_ai F 25).getD (sy_i F 4).toNatClampNeg 0).toInt = ((sy_ai F 25).getD ((sy_i F 4).toInt).toNat 0).toInt := congrArg Int32.toInt q70
    have r70 := nz_ba hB (k := 25) (lo := 0) (hi := 42) rfl ((sy_i F 4).toInt).toNat
    exfalso
    omega
  replace g1 : ((sy_ai F 25).getD ((sy_i F 4).toInt).toNat 0).toInt = 4 := by omega
  by_cases g2 : (sy_i F 4).toInt ≠ 400
  · by_cases g3 : (sy_i F 6).toInt ≤ 0
    · have c6 := nz_bx hB (k := 6) (lo := 0) (hi := 2) rfl
      have c4 := nz_bx hB (k := 4) (lo := 0) (hi := 400) rfl
      have q70 : (sy_ai F 25).getD (sy_i F 4).toNatClampNeg 0 = (sy_ai F 25).getD ((sy_i F 4).toInt).toNat 0 := by simp only [nz_c]
      have n70 : ((sy_ai F 25).getD (sy_i F 4).toNatClampNeg 0).toInt = ((sy_ai F 25).getD ((sy_i F 4).toInt).toNat 0).toInt := congrArg Int32.toInt q70
      have r70 := nz_ba hB (k := 25) (lo := 0) (hi := 42) rfl ((sy_i F 4).toInt).toNat
      have c13 := nz_bx hB (k := 13) (lo := 0) (hi := 11) rfl
      have n71 : ((sy_i F 4) + ((1 : Int32))).toInt = ((sy_i F 4).toInt + 1) := nz_add (rfl : (sy_i F 4).toInt = (sy_i F 4).toInt) (by decide : ((1 : Int32)).toInt = 1) (by omega) (by omega)
      have n74 : ((sy_i F 13) + ((1 : Int32))).toInt = ((sy_i F 13).toInt + 1) := nz_add (rfl : (sy_i F 13).toInt = (sy_i F 13).toInt) (by decide : ((1 : Int32)).toInt = 1) (by omega) (by omega)
      have w73 : jm_updL (sy_al F 30) (sy_i F 13).toNatClampNeg ((sy_al F 28).getD (sy_i F 69).toNatClampNeg 0) = jm_updL (sy_al F 30) ((sy_i F 13).toInt).toNat ((sy_al F 28).getD ((sy_i F 69).toInt).toNat 0) := by simp only [nz_c]
      exact en_0_p2 hd F X1 X2 hB (by first | exact g0 | (simp only [nz_c]; exact g0)) (by first | exact ⟨by omega, by omega⟩ | (simp only [nz_c]; exact ⟨by omega, by omega⟩)) (by first | exact g1 | (simp only [nz_c]; exact g1) | (rw [n70]; exact g1)) (by first | exact g2 | (simp only [nz_c]; exact g2)) (by first | exact g3 | (simp only [nz_c]; exact g3)) (by first | exact ⟨by omega, by omega⟩ | (simp only [nz_c]; exact ⟨by omega, by omega⟩)) (by first | exact (o0 g0 g1 g2 g3) | (simp only [nz_c]; exact (o0 g0 g1 g2 g3))) (fun F1 g e4 e13 e30 => k2 g0 g1 g2 g3 F1 (nz_in hB [4, 13, 30] (fun j hj hn => g j hj (by simp only [List.mem_cons, List.not_mem_nil, or_false, not_or] at hn; omega)) (List.forall_mem_cons.mpr ⟨fun t ht => (Option.some.inj ht) ▸ (nz_hi e4 n71 (by omega) (by omega)), List.forall_mem_cons.mpr ⟨fun t ht => (Option.some.inj ht) ▸ (nz_hi e13 n74 (o1 g0 g1 g2 g3).1 (o1 g0 g1 g2 g3).2), List.forall_mem_cons.mpr ⟨fun t ht => (Option.some.inj ht) ▸ (nz_hz3 e30), List.forall_mem_nil _⟩⟩⟩)) (fun j hj hn => g j hj (by simp only [List.mem_cons, List.not_mem_nil, or_false, not_or] at hn; omega)) ((congrArg Int32.toInt (zz_i e4)).trans n71) (nz_fi (g 6 (by decide) (by decide))) (nz_fi (g 7 (by decide) (by decide))) (nz_fi (g 8 (by decide) (by decide))) (nz_fi (g 9 (by decide) (by decide))) ((congrArg Int32.toInt (zz_i e13)).trans n74) (nz_fa (g 25 (by decide) (by decide))) (nz_fa (g 26 (by decide) (by decide))) (nz_fa (g 27 (by decide) (by decide))) ((zz_al e30).trans w73))
    replace g3 : 0 < (sy_i F 6).toInt := by omega
    have c6 := nz_bx hB (k := 6) (lo := 0) (hi := 2) rfl
    have c4 := nz_bx hB (k := 4) (lo := 0) (hi := 400) rfl
    have q70 : (sy_ai F 25).getD (sy_i F 4).toNatClampNeg 0 = (sy_ai F 25).getD ((sy_i F 4).toInt).toNat 0 := by simp only [nz_c]
    have n70 : ((sy_ai F 25).getD (sy_i F 4).toNatClampNeg 0).toInt = ((sy_ai F 25).getD ((sy_i F 4).toInt).toNat 0).toInt := congrArg Int32.toInt q70
    have r70 := nz_ba hB (k := 25) (lo := 0) (hi := 42) rfl ((sy_i F 4).toInt).toNat
    exfalso
    omega
  replace g2 : (sy_i F 4).toInt = 400 := by omega
  by_cases g3 : (sy_i F 6).toInt ≤ 0
  · have c6 := nz_bx hB (k := 6) (lo := 0) (hi := 2) rfl
    have c4 := nz_bx hB (k := 4) (lo := 0) (hi := 400) rfl
    have q70 : (sy_ai F 25).getD (sy_i F 4).toNatClampNeg 0 = (sy_ai F 25).getD ((sy_i F 4).toInt).toNat 0 := by simp only [nz_c]
    have n70 : ((sy_ai F 25).getD (sy_i F 4).toNatClampNeg 0).toInt = ((sy_ai F 25).getD ((sy_i F 4).toInt).toNat 0).toInt := congrArg Int32.toInt q70
    have r70 := nz_ba hB (k := 25) (lo := 0) (hi := 42) rfl ((sy_i F 4).toInt).toNat
    have q71 : (sy_ai F 26).getD (sy_i F 4).toNatClampNeg 0 = (sy_ai F 26).getD ((sy_i F 4).toInt).toNat 0 := by simp only [nz_c]
    have n71 : ((sy_ai F 26).getD (sy_i F 4).toNatClampNeg 0).toInt = ((sy_ai F 26).getD ((sy_i F 4).toInt).toNat 0).toInt := congrArg Int32.toInt q71
    exact en_0_p3 hd F X1 X2 hB (by first | exact g0 | (simp only [nz_c]; exact g0)) (by first | exact ⟨by omega, by omega⟩ | (simp only [nz_c]; exact ⟨by omega, by omega⟩)) (by first | exact g1 | (simp only [nz_c]; exact g1) | (rw [n70]; exact g1)) (by first | exact g2 | (simp only [nz_c]; exact g2)) (by first | exact g3 | (simp only [nz_c]; exact g3)) (by first | exact ⟨by omega, by omega⟩ | (simp only [nz_c]; exact ⟨by omega, by omega⟩)) (fun F1 g e6 e7 => k3 g0 g1 g2 g3 F1 (nz_in hB [6, 7] (fun j hj hn => g j hj (by simp only [List.mem_cons, List.not_mem_nil, or_false, not_or] at hn; omega)) (List.forall_mem_cons.mpr ⟨fun t ht => (Option.some.inj ht) ▸ (nz_hi e6 (by decide : ((2 : Int32)).toInt = 2) (by omega) (by omega)), List.forall_mem_cons.mpr ⟨fun t ht => (Option.some.inj ht) ▸ (nz_hz e7), List.forall_mem_nil _⟩⟩)) (fun j hj hn => g j hj (by simp only [List.mem_cons, List.not_mem_nil, or_false, not_or] at hn; omega)) (nz_fi (g 4 (by decide) (by decide))) ((congrArg Int32.toInt (zz_i e6)).trans (by decide : ((2 : Int32)).toInt = 2)) ((congrArg Int32.toInt (zz_i e7)).trans n71) (nz_fi (g 8 (by decide) (by decide))) (nz_fi (g 9 (by decide) (by decide))) (nz_fi (g 13 (by decide) (by decide))) (nz_fa (g 25 (by decide) (by decide))) (nz_fa (g 26 (by decide) (by decide))) (nz_fa (g 27 (by decide) (by decide))) (nz_fl (g 30 (by decide) (by decide))))
  replace g3 : 0 < (sy_i F 6).toInt := by omega
  have c6 := nz_bx hB (k := 6) (lo := 0) (hi := 2) rfl
  have c4 := nz_bx hB (k := 4) (lo := 0) (hi := 400) rfl
  have q70 : (sy_ai F 25).getD (sy_i F 4).toNatClampNeg 0 = (sy_ai F 25).getD ((sy_i F 4).toInt).toNat 0 := by simp only [nz_c]
  have n70 : ((sy_ai F 25).getD (sy_i F 4).toNatClampNeg 0).toInt = ((sy_ai F 25).getD ((sy_i F 4).toInt).toNat 0).toInt := congrArg Int32.toInt q70
  have r70 := nz_ba hB (k := 25) (lo := 0) (hi := 42) rfl ((sy_i F 4).toInt).toNat
  exfalso
  omega
theorem tiy_0 {Ls : Nat} {xs : Nat → Int32} {d : Nat} {Q : Option Value → jm_h → Prop} (hd : 4 ≤ d) (F : Nat → sy_d) (X1 X2 : List jm_c) (hB : iv_in F iv_B4)
    (k0 : (sy_i F 4).toInt ≠ 400 → ∀ F1 : Nat → sy_d, iv_in F1 iv_B4 → (∀ j, j < 69 → j ∉ ([4] : List Nat) → F1 j = F j) → (sy_i F1 4).toInt = ((sy_i F 4).toInt + 1) → (sy_i F1 6).toInt = (sy_i F 6).toInt → (sy_i F1 7).toInt = (sy_i F 7).toInt → (sy_i F1 8).toInt = (sy_i F 8).toInt → (sy_i F1 9).toInt = (sy_i F 9).toInt → (sy_i F1 13).toInt = (sy_i F 13).toInt → sy_ai F1 25 = sy_ai F 25 → sy_ai F1 26 = sy_ai F 26 → sy_ai F1 27 = sy_ai F 27 → (sy_i F1 69).toInt = (sy_i F 70).toInt → (sy_i F1 70).toInt = (sy_i F 69).toInt → hd_W Ls xs d jm_M153 Q (7, sy_dL F1 [some (.inl (.ref 1000)), none, none, none], sy_dS F1 [.inr (.inl 69), .inr (.inl 70), .inl (.ref 1000)], sy_dh F1 X1 X2 (iv_H 4), 0, 0))
    (k1 : (sy_i F 4).toInt = 400 → (sy_i F 6).toInt ≤ 0 → ∀ F1 : Nat → sy_d, iv_in F1 iv_B4 → (∀ j, j < 69 → j ∉ ([6, 7] : List Nat) → F1 j = F j) → (sy_i F1 4).toInt = (sy_i F 4).toInt → (sy_i F1 6).toInt = 2 → (sy_i F1 7).toInt = ((sy_ai F 26).getD ((sy_i F 4).toInt).toNat 0).toInt → (sy_i F1 8).toInt = (sy_i F 8).toInt → (sy_i F1 9).toInt = (sy_i F 9).toInt → (sy_i F1 13).toInt = (sy_i F 13).toInt → sy_ai F1 25 = sy_ai F 25 → sy_ai F1 26 = sy_ai F 26 → sy_ai F1 27 = sy_ai F 27 → (sy_i F1 69).toInt = (sy_i F 70).toInt → (sy_i F1 70).toInt = (sy_i F 69).toInt → hd_W Ls xs d jm_M153 Q (7, sy_dL F1 [some (.inl (.ref 1000)), none, none, none], sy_dS F1 [.inr (.inl 69), .inr (.inl 70), .inl (.ref 1000)], sy_dh F1 X1 X2 (iv_H 4), 0, 0))
    (k2 : (sy_i F 4).toInt = 400 → 0 < (sy_i F 6).toInt → ∀ F1 : Nat → sy_d, iv_in F1 iv_B4 → (∀ j, j < 69 → j ∉ ([] : List Nat) → F1 j = F j) → (sy_i F1 4).toInt = (sy_i F 4).toInt → (sy_i F1 6).toInt = (sy_i F 6).toInt → (sy_i F1 7).toInt = (sy_i F 7).toInt → (sy_i F1 8).toInt = (sy_i F 8).toInt → (sy_i F1 9).toInt = (sy_i F 9).toInt → (sy_i F1 13).toInt = (sy_i F 13).toInt → sy_ai F1 25 = sy_ai F 25 → sy_ai F1 26 = sy_ai F 26 → sy_ai F1 27 = sy_ai F 27 → (sy_i F1 69).toInt = (sy_i F 70).toInt → (sy_i F1 70).toInt = (sy_i F 69).toInt → hd_W Ls xs d jm_M153 Q (7, sy_dL F1 [some (.inl (.ref 1000)), none, none, none], sy_dS F1 [.inr (.inl 69), .inr (.inl 70), .inl (.ref 1000)], sy_dh F1 X1 X2 (iv_H 4), 0, 0)) :
    hd_W Ls xs d jm_M153 Q (0, sy_dL F [some (.inl (.ref 1000)), some (.inr (.inl 69)), some (.inr (.inl 70)), none], sy_dS F [], sy_dh F X1 X2 (iv_H 4), 0, 0) := by
  by_cases g0 : (sy_i F 4).toInt ≠ 400
  · have c4 := nz_bx hB (k := 4) (lo := 0) (hi := 400) rfl
    have n71 : ((sy_i F 4) + ((1 : Int32))).toInt = ((sy_i F 4).toInt + 1) := nz_add (rfl : (sy_i F 4).toInt = (sy_i F 4).toInt) (by decide : ((1 : Int32)).toInt = 1) (by omega) (by omega)
    exact ti_0_p0 hd F X1 X2 hB (by first | exact g0 | (simp only [nz_c]; exact g0)) (fun F1 g e4 e69 e70 => k0 g0 F1 (nz_in hB [4] (fun j hj hn => g j hj (by simp only [List.mem_cons, List.not_mem_nil, or_false, not_or] at hn; omega)) (List.forall_mem_cons.mpr ⟨fun t ht => (Option.some.inj ht) ▸ (nz_hi e4 n71 (by omega) (by omega)), List.forall_mem_nil _⟩)) (fun j hj hn => g j hj (by simp only [List.mem_cons, List.not_mem_nil, or_false, not_or] at hn; omega)) ((congrArg Int32.toInt (zz_i e4)).trans n71) (nz_fi (g 6 (by decide) (by decide))) (nz_fi (g 7 (by decide) (by decide))) (nz_fi (g 8 (by decide) (by decide))) (nz_fi (g 9 (by decide) (by decide))) (nz_fi (g 13 (by decide) (by decide))) (nz_fa (g 25 (by decide) (by decide))) (nz_fa (g 26 (by decide) (by decide))) (nz_fa (g 27 (by decide) (by decide))) ((congrArg Int32.toInt (zz_i e69)).trans (rfl : (sy_i F 70).toInt = (sy_i F 70).toInt)) ((congrArg Int32.toInt (zz_i e70)).trans (rfl : (sy_i F 69).toInt = (sy_i F 69).toInt)))
  replace g0 : (sy_i F 4).toInt = 400 := by omega
  by_cases g1 : (sy_i F 6).toInt ≤ 0
  · have c4 := nz_bx hB (k := 4) (lo := 0) (hi := 400) rfl
    have c6 := nz_bx hB (k := 6) (lo := 0) (hi := 2) rfl
    have q71 : (sy_ai F 26).getD (sy_i F 4).toNatClampNeg 0 = (sy_ai F 26).getD ((sy_i F 4).toInt).toNat 0 := by simp only [nz_c]
    have n71 : ((sy_ai F 26).getD (sy_i F 4).toNatClampNeg 0).toInt = ((sy_ai F 26).getD ((sy_i F 4).toInt).toNat 0).toInt := congrArg Int32.toInt q71
    exact ti_0_p1 hd F X1 X2 hB (by first | exact g0 | (simp only [nz_c]; exact g0)) (by first | exact g1 | (simp only [nz_c]; exact g1)) (by first | exact ⟨by omega, by omega⟩ | (simp only [nz_c]; exact ⟨by omega, by omega⟩)) (fun F1 g e6 e7 e69 e70 => k1 g0 g1 F1 (nz_in hB [6, 7] (fun j hj hn => g j hj (by simp only [List.mem_cons, List.not_mem_nil, or_false, not_or] at hn; omega)) (List.forall_mem_cons.mpr ⟨fun t ht => (Option.some.inj ht) ▸ (nz_hi e6 (by decide : ((2 : Int32)).toInt = 2) (by omega) (by omega)), List.forall_mem_cons.mpr ⟨fun t ht => (Option.some.inj ht) ▸ (nz_hz e7), List.forall_mem_nil _⟩⟩)) (fun j hj hn => g j hj (by simp only [List.mem_cons, List.not_mem_nil, or_false, not_or] at hn; omega)) (nz_fi (g 4 (by decide) (by decide))) ((congrArg Int32.toInt (zz_i e6)).trans (by decide : ((2 : Int32)).toInt = 2)) ((congrArg Int32.toInt (zz_i e7)).trans n71) (nz_fi (g 8 (by decide) (by decide))) (nz_fi (g 9 (by decide) (by decide))) (nz_fi (g 13 (by decide) (by decide))) (nz_fa (g 25 (by decide) (by decide))) (nz_fa (g 26 (by decide) (by decide))) (nz_fa (g 27 (by decide) (by decide))) ((congrArg Int32.toInt (zz_i e69)).trans (rfl : (sy_i F 70).toInt = (sy_i F 70).toInt)) ((congrArg Int32.toInt (zz_i e70)).trans (rfl : (sy_i F 69).toInt = (sy_i F 69).toInt)))
  replace g1 : 0 < (sy_i F 6).toInt := by omega
  have c4 := nz_bx hB (k := 4) (lo := 0) (hi := 400) rfl
  have c6 := nz_bx hB (k := 6) (lo := 0) (hi := 2) rfl
  exact ti_0_p2 hd F X1 X2 hB (by first | exact g0 | (simp only [nz_c]; exact g0)) (by first | exact g1 | (simp only [nz_c]; exact g1)) (fun F1 g e69 e70 => k2 g0 g1 F1 (nz_in hB [] (fun j hj hn => g j hj (by simp only [List.mem_cons, List.not_mem_nil, or_false, not_or] at hn; exact trivial)) (List.forall_mem_nil _)) (fun j hj hn => g j hj (by simp only [List.mem_cons, List.not_mem_nil, or_false, not_or] at hn; exact trivial)) (nz_fi (g 4 (by decide) (by decide))) (nz_fi (g 6 (by decide) (by decide))) (nz_fi (g 7 (by decide) (by decide))) (nz_fi (g 8 (by decide) (by decide))) (nz_fi (g 9 (by decide) (by decide))) (nz_fi (g 13 (by decide) (by decide))) (nz_fa (g 25 (by decide) (by decide))) (nz_fa (g 26 (by decide) (by decide))) (nz_fa (g 27 (by decide) (by decide))) ((congrArg Int32.toInt (zz_i e69)).trans (rfl : (sy_i F 70).toInt = (sy_i F 70).toInt)) ((congrArg Int32.toInt (zz_i e70)).trans (rfl : (sy_i F 69).toInt = (sy_i F 69).toInt)))
theorem tiy_10 {Ls : Nat} {xs : Nat → Int32} {d : Nat} {Q : Option Value → jm_h → Prop} (hd : 4 ≤ d) (F : Nat → sy_d) (X1 X2 : List jm_c) (hB : iv_in F iv_B4)
    (k0 : (sy_i F 6).toInt ≠ 0 → 0 < (sy_i F 6).toInt → ∀ F1 : Nat → sy_d, iv_in F1 iv_B4 → (∀ j, j < 69 → j ∉ ([] : List Nat) → F1 j = F j) → (sy_i F1 4).toInt = (sy_i F 4).toInt → (sy_i F1 6).toInt = (sy_i F 6).toInt → (sy_i F1 7).toInt = (sy_i F 7).toInt → (sy_i F1 8).toInt = (sy_i F 8).toInt → (sy_i F1 9).toInt = (sy_i F 9).toInt → (sy_i F1 13).toInt = (sy_i F 13).toInt → sy_ai F1 25 = sy_ai F 25 → sy_ai F1 26 = sy_ai F 26 → sy_ai F1 27 = sy_ai F 27 → Q (some (.int (sy_i F 71))) (sy_dh F1 X1 X2 (iv_H 4)))
    (k1 : (sy_i F 6).toInt = 0 → ((sy_ai F 25).getD ((sy_i F 4).toInt).toNat 0).toInt ≠ 4 → (sy_i F 6).toInt ≤ 0 → ∀ F1 : Nat → sy_d, iv_in F1 iv_B4 → (∀ j, j < 69 → j ∉ ([6, 7] : List Nat) → F1 j = F j) → (sy_i F1 4).toInt = (sy_i F 4).toInt → (sy_i F1 6).toInt = 1 → (sy_i F1 7).toInt = ((sy_ai F 26).getD ((sy_i F 4).toInt).toNat 0).toInt → (sy_i F1 8).toInt = (sy_i F 8).toInt → (sy_i F1 9).toInt = (sy_i F 9).toInt → (sy_i F1 13).toInt = (sy_i F 13).toInt → sy_ai F1 25 = sy_ai F 25 → sy_ai F1 26 = sy_ai F 26 → sy_ai F1 27 = sy_ai F 27 → Q (some (.int (sy_i F 71))) (sy_dh F1 X1 X2 (iv_H 4)))
    (k2 : (sy_i F 6).toInt = 0 → ((sy_ai F 25).getD ((sy_i F 4).toInt).toNat 0).toInt = 4 → (sy_i F 4).toInt ≠ 400 → ∀ F1 : Nat → sy_d, iv_in F1 iv_B4 → (∀ j, j < 69 → j ∉ ([4] : List Nat) → F1 j = F j) → (sy_i F1 4).toInt = ((sy_i F 4).toInt + 1) → (sy_i F1 6).toInt = (sy_i F 6).toInt → (sy_i F1 7).toInt = (sy_i F 7).toInt → (sy_i F1 8).toInt = (sy_i F 8).toInt → (sy_i F1 9).toInt = (sy_i F 9).toInt → (sy_i F1 13).toInt = (sy_i F 13).toInt → sy_ai F1 25 = sy_ai F 25 → sy_ai F1 26 = sy_ai F 26 → sy_ai F1 27 = sy_ai F 27 → Q (some (.int (sy_i F 71))) (sy_dh F1 X1 X2 (iv_H 4)))
    (k3 : (sy_i F 6).toInt = 0 → ((sy_ai F 25).getD ((sy_i F 4).toInt).toNat 0).toInt = 4 → (sy_i F 4).toInt = 400 → (sy_i F 6).toInt ≤ 0 → ∀ F1 : Nat → sy_d, iv_in F1 iv_B4 → (∀ j, j < 69 → j ∉ ([6, 7] : List Nat) → F1 j = F j) → (sy_i F1 4).toInt = (sy_i F 4).toInt → (sy_i F1 6).toInt = 2 → (sy_i F1 7).toInt = ((sy_ai F 26).getD ((sy_i F 4).toInt).toNat 0).toInt → (sy_i F1 8).toInt = (sy_i F 8).toInt → (sy_i F1 9).toInt = (sy_i F 9).toInt → (sy_i F1 13).toInt = (sy_i F 13).toInt → sy_ai F1 25 = sy_ai F 25 → sy_ai F1 26 = sy_ai F 26 → sy_ai F1 27 = sy_ai F 27 → Q (some (.int (sy_i F 71))) (sy_dh F1 X1 X2 (iv_H 4))) :
    hd_W Ls xs d jm_M153 Q (10, sy_dL F [some (.inl (.ref 1000)), none, none, none], sy_dS F [.inr (.inl 71)], sy_dh F X1 X2 (iv_H 4), 0, 0) := by
  by_cases g0 : (sy_i F 6).toInt ≠ 0
  · by_cases g1 : (sy_i F 6).toInt ≤ 0
    · have c6 := nz_bx hB (k := 6) (lo := 0) (hi := 2) rfl
      exfalso
      omega
    replace g1 : 0 < (sy_i F 6).toInt := by omega
    have c6 := nz_bx hB (k := 6) (lo := 0) (hi := 2) rfl
    exact ti_10_p0 hd F X1 X2 hB (by first | exact g0 | (simp only [nz_c]; exact g0)) (by first | exact g1 | (simp only [nz_c]; exact g1)) (fun F1 g  => by rw [(rfl : sy_i F 71 = sy_i F 71)]; exact k0 g0 g1 F1 (nz_in hB [] (fun j hj hn => g j hj (by simp only [List.mem_cons, List.not_mem_nil, or_false, not_or] at hn; exact trivial)) (List.forall_mem_nil _)) (fun j hj hn => g j hj (by simp only [List.mem_cons, List.not_mem_nil, or_false, not_or] at hn; exact trivial)) (nz_fi (g 4 (by decide) (by decide))) (nz_fi (g 6 (by decide) (by decide))) (nz_fi (g 7 (by decide) (by decide))) (nz_fi (g 8 (by decide) (by decide))) (nz_fi (g 9 (by decide) (by decide))) (nz_fi (g 13 (by decide) (by decide))) (nz_fa (g 25 (by decide) (by decide))) (nz_fa (g 26 (by decide) (by decide))) (nz_fa (g 27 (by decide) (by decide))))
  replace g0 : (sy_i F 6).toInt = 0 := by omega
  by_cases g1 : ((sy_ai F 25).getD ((sy_i F 4).toInt).toNat 0).toInt ≠ 4
  · by_cases g2 : (sy_i F 6).toInt ≤ 0
    · have c6 := nz_bx hB (k := 6) (lo := 0) (hi := 2) rfl
      have c4 := nz_bx hB (k := 4) (lo := 0) (hi := 400) rfl
      have q72 : (sy_ai F 25).getD (sy_i F 4).toNatClampNeg 0 = (sy_ai F 25).getD ((sy_i F 4).toInt).toNat 0 := by simp only [nz_c]
      have n72 : ((sy_ai F 25).getD (sy_i F 4).toNatClampNeg 0).toInt = ((sy_ai F 25).getD ((sy_i F 4).toInt).toNat 0).toInt := congrArg Int32.toInt q72
      have r72 := nz_ba hB (k := 25) (lo := 0) (hi := 42) rfl ((sy_i F 4).toInt).toNat
      have q73 : (sy_ai F 26).getD (sy_i F 4).toNatClampNeg 0 = (sy_ai F 26).getD ((sy_i F 4).toInt).toNat 0 := by simp only [nz_c]
      have n73 : ((sy_ai F 26).getD (sy_i F 4).toNatClampNeg 0).toInt = ((sy_ai F 26).getD ((sy_i F 4).toInt).toNat 0).toInt := congrArg Int32.toInt q73
      exact ti_10_p1 hd F X1 X2 hB (by first | exact g0 | (simp only [nz_c]; exact g0)) (by first | exact ⟨by omega, by omega⟩ | (simp only [nz_c]; exact ⟨by omega, by omega⟩)) (by first | exact g1 | (simp only [nz_c]; exact g1) | (rw [n72]; exact g1)) (by first | exact g2 | (simp only [nz_c]; exact g2)) (by first | exact ⟨by omega, by omega⟩ | (simp only [nz_c]; exact ⟨by omega, by omega⟩)) (fun F1 g e6 e7 => by rw [(rfl : sy_i F 71 = sy_i F 71)]; exact k1 g0 g1 g2 F1 (nz_in hB [6, 7] (fun j hj hn => g j hj (by simp only [List.mem_cons, List.not_mem_nil, or_false, not_or] at hn; omega)) (List.forall_mem_cons.mpr ⟨fun t ht => (Option.some.inj ht) ▸ (nz_hi e6 (by decide : ((1 : Int32)).toInt = 1) (by omega) (by omega)), List.forall_mem_cons.mpr ⟨fun t ht => (Option.some.inj ht) ▸ (nz_hz e7), List.forall_mem_nil _⟩⟩)) (fun j hj hn => g j hj (by simp only [List.mem_cons, List.not_mem_nil, or_false, not_or] at hn; omega)) (nz_fi (g 4 (by decide) (by decide))) ((congrArg Int32.toInt (zz_i e6)).trans (by decide : ((1 : Int32)).toInt = 1)) ((congrArg Int32.toInt (zz_i e7)).trans n73) (nz_fi (g 8 (by decide) (by decide))) (nz_fi (g 9 (by decide) (by decide))) (nz_fi (g 13 (by decide) (by decide))) (nz_fa (g 25 (by decide) (by decide))) (nz_fa (g 26 (by decide) (by decide))) (nz_fa (g 27 (by decide) (by decide))))
    replace g2 : 0 < (sy_i F 6).toInt := by omega
    have c6 := nz_bx hB (k := 6) (lo := 0) (hi := 2) rfl
    have c4 := nz_bx hB (k := 4) (lo := 0) (hi := 400) rfl
    have q72 : (sy_ai F 25).getD (sy_i F 4).toNatClampNeg 0 = (sy_ai F 25).getD ((sy_i F 4).toInt).toNat 0 := by simp only [nz_c]
    have n72 : ((sy_ai F 25).getD (sy_i F 4).toNatClampNeg 0).toInt = ((sy_ai F 25).getD ((sy_i F 4).toInt).toNat 0).toInt := congrArg Int32.toInt q72
    have r72 := nz_ba hB (k := 25) (lo := 0) (hi := 42) rfl ((sy_i F 4).toInt).toNat
    exfalso
    omega
  replace g1 : ((sy_ai F 25).getD ((sy_i F 4).toInt).toNat 0).toInt = 4 := by omega
  by_cases g2 : (sy_i F 4).toInt ≠ 400
  · have c6 := nz_bx hB (k := 6) (lo := 0) (hi := 2) rfl
    have c4 := nz_bx hB (k := 4) (lo := 0) (hi := 400) rfl
    have q72 : (sy_ai F 25).getD (sy_i F 4).toNatClampNeg 0 = (sy_ai F 25).getD ((sy_i F 4).toInt).toNat 0 := by simp only [nz_c]
    have n72 : ((sy_ai F 25).getD (sy_i F 4).toNatClampNeg 0).toInt = ((sy_ai F 25).getD ((sy_i F 4).toInt).toNat 0).toInt := congrArg Int32.toInt q72
    have r72 := nz_ba hB (k := 25) (lo := 0) (hi := 42) rfl ((sy_i F 4).toInt).toNat
    have n73 : ((sy_i F 4) + ((1 : Int32))).toInt = ((sy_i F 4).toInt + 1) := nz_add (rfl : (sy_i F 4).toInt = (sy_i F 4).toInt) (by decide : ((1 : Int32)).toInt = 1) (by omega) (by omega)
    exact ti_10_p2 hd F X1 X2 hB (by first | exact g0 | (simp only [nz_c]; exact g0)) (by first | exact ⟨by omega, by omega⟩ | (simp only [nz_c]; exact ⟨by omega, by omega⟩)) (by first | exact g1 | (simp only [nz_c]; exact g1) | (rw [n72]; exact g1)) (by first | exact g2 | (simp only [nz_c]; exact g2)) (fun F1 g e4 => by rw [(rfl : sy_i F 71 = sy_i F 71)]; exact k2 g0 g1 g2 F1 (nz_in hB [4] (fun j hj hn => g j hj (by simp only [List.mem_cons, List.not_mem_nil, or_false, not_or] at hn; omega)) (List.forall_mem_cons.mpr ⟨fun t ht => (Option.some.inj ht) ▸ (nz_hi e4 n73 (by omega) (by omega)), List.forall_mem_nil _⟩)) (fun j hj hn => g j hj (by simp only [List.mem_cons, List.not_mem_nil, or_false, not_or] at hn; omega)) ((congrArg Int32.toInt (zz_i e4)).trans n73) (nz_fi (g 6 (by decide) (by decide))) (nz_fi (g 7 (by decide) (by decide))) (nz_fi (g 8 (by decide) (by decide))) (nz_fi (g 9 (by decide) (by decide))) (nz_fi (g 13 (by decide) (by decide))) (nz_fa (g 25 (by decide) (by decide))) (nz_fa (g 26 (by decide) (by decide))) (nz_fa (g 27 (by decide) (by decide))))
  replace g2 : (sy_i F 4).toInt = 400 := by omega
  by_cases g3 : (sy_i F 6).toInt ≤ 0
  · have c6 := nz_bx hB (k := 6) (lo := 0) (hi := 2) rfl
    have c4 := nz_bx hB (k := 4) (lo := 0) (hi := 400) rfl
    have q72 : (sy_ai F 25).getD (sy_i F 4).toNatClampNeg 0 = (sy_ai F 25).getD ((sy_i F 4).toInt).toNat 0 := by simp only [nz_c]
    have n72 : ((sy_ai F 25).getD (sy_i F 4).toNatClampNeg 0).toInt = ((sy_ai F 25).getD ((sy_i F 4).toInt).toNat 0).toInt := congrArg Int32.toInt q72
    have r72 := nz_ba hB (k := 25) (lo := 0) (hi := 42) rfl ((sy_i F 4).toInt).toNat
    have q73 : (sy_ai F 26).getD (sy_i F 4).toNatClampNeg 0 = (sy_ai F 26).getD ((sy_i F 4).toInt).toNat 0 := by simp only [nz_c]
    have n73 : ((sy_ai F 26).getD (sy_i F 4).toNatClampNeg 0).toInt = ((sy_ai F 26).getD ((sy_i F 4).toInt).toNat 0).toInt := congrArg Int32.toInt q73
    exact ti_10_p3 hd F X1 X2 hB (by first | exact g0 | (simp only [nz_c]; exact g0)) (by first | exact ⟨by omega, by omega⟩ | (simp only [nz_c]; exact ⟨by omega, by omega⟩)) (by first | exact g1 | (simp only [nz_c]; exact g1) | (rw [n72]; exact g1)) (by first | exact g2 | (simp only [nz_c]; exact g2)) (by first | exact g3 | (simp only [nz_c]; exact g3)) (by first | exact ⟨by omega, by omega⟩ | (simp only [nz_c]; exact ⟨by omega, by omega⟩)) (fun F1 g e6 e7 => by rw [(rfl : sy_i F 71 = sy_i F 71)]; exact k3 g0 g1 g2 g3 F1 (nz_in hB [6, 7] (fun j hj hn => g j hj (by simp only [List.mem_cons, List.not_mem_nil, or_false, not_or] at hn; omega)) (List.forall_mem_cons.mpr ⟨fun t ht => (Option.some.inj ht) ▸ (nz_hi e6 (by decide : ((2 : Int32)).toInt = 2) (by omega) (by omega)), List.forall_mem_cons.mpr ⟨fun t ht => (Option.some.inj ht) ▸ (nz_hz e7), List.forall_mem_nil _⟩⟩)) (fun j hj hn => g j hj (by simp only [List.mem_cons, List.not_mem_nil, or_false, not_or] at hn; omega)) (nz_fi (g 4 (by decide) (by decide))) ((congrArg Int32.toInt (zz_i e6)).trans (by decide : ((2 : Int32)).toInt = 2)) ((congrArg Int32.toInt (zz_i e7)).trans n73) (nz_fi (g 8 (by decide) (by decide))) (nz_fi (g 9 (by decide) (by decide))) (nz_fi (g 13 (by decide) (by decide))) (nz_fa (g 25 (by decide) (by decide))) (nz_fa (g 26 (by decide) (by decide))) (nz_fa (g 27 (by decide) (by decide))))
  replace g3 : 0 < (sy_i F 6).toInt := by omega
  have c6 := nz_bx hB (k := 6) (lo := 0) (hi := 2) rfl
  have c4 := nz_bx hB (k := 4) (lo := 0) (hi := 400) rfl
  have q72 : (sy_ai F 25).getD (sy_i F 4).toNatClampNeg 0 = (sy_ai F 25).getD ((sy_i F 4).toInt).toNat 0 := by simp only [nz_c]
  have n72 : ((sy_ai F 25).getD (sy_i F 4).toNatClampNeg 0).toInt = ((sy_ai F 25).getD ((sy_i F 4).toInt).toNat 0).toInt := congrArg Int32.toInt q72
  have r72 := nz_ba hB (k := 25) (lo := 0) (hi := 42) rfl ((sy_i F 4).toInt).toNat
  exfalso
  omega
end
section
/-! ===== small methods: what they tell ===== -/
noncomputable def vf (F : Nat → sy_d) (n : Nat) : Int := ((sy_ai F 27).getD n 0).toInt
noncomputable def nf (F : Nat → sy_d) (n : Nat) : Int64 := (sy_al F 28).getD n 0
theorem kf_eq {F F1 : Nat → sy_d} (h : F1 25 = F 25) : kf F1 = kf F := by funext n; unfold kf; rw [nz_fa h]
theorem pf_eq {F F1 : Nat → sy_d} (h : F1 26 = F 26) : pf F1 = pf F := by funext n; unfold pf; rw [nz_fa h]
theorem vf_eq {F F1 : Nat → sy_d} (h : F1 27 = F 27) : vf F1 = vf F := by funext n; unfold vf; rw [nz_fa h]
theorem nf_eq {F F1 : Nat → sy_d} (h : F1 28 = F 28) : nf F1 = nf F := by funext n; unfold nf sy_al; rw [h]
/-- the places of the tokens go up, as far as the text was cut -/
noncomputable def pm (P K : Nat → Int) (L : Nat) : Prop := (∀ i j, i < j → j ≤ L → P i < P j) ∧ (K L = 0 ∨ L = 400) ∧ L ≤ 400
noncomputable def wr (P : Nat → Int) (w : sE) (F : Nat → sy_d) : Prop := (sy_i F 8).toInt = w.1 ∧ 0 ≤ w.1 ∧ (w.1 ≠ 0 → (sy_i F 9).toInt = P w.2 ∧ w.2 < tn F)
noncomputable def nop (F F' : Nat → sy_d) : Prop := (sy_i F 6).toInt ≠ 0 → (sy_i F' 6).toInt = (sy_i F 6).toInt ∧ (sy_i F' 7).toInt = (sy_i F 7).toInt
/-- from F to F' what r tells was done -/
noncomputable def an {A : Type} (P : Nat → Int) (r : sE ⊕ A) (J : A → (Nat → sy_d) → Prop) (F F' : Nat → sy_d) : Prop := (sy_i F 6).toInt = 0 → ((sy_i F' 6).toInt ≠ 0 → ∃ tok, r = .inl ((sy_i F' 6).toInt, tok) ∧ (sy_i F' 7).toInt = P tok) ∧ ((sy_i F' 6).toInt = 0 → ∃ a, r = .inr a ∧ J a F')
theorem nop_trans {F F1 F2 : Nat → sy_d} (h : nop F F1) (h2 : nop F1 F2) : nop F F2 := fun q => by
  obtain ⟨a, b⟩ := h q
  obtain ⟨c, d⟩ := h2 (by rw [a]; exact q)
  exact ⟨c.trans a, d.trans b⟩
theorem nop_same {F F1 : Nat → sy_d} (h6 : (sy_i F1 6).toInt = (sy_i F 6).toInt) (h7 : (sy_i F1 7).toInt = (sy_i F 7).toInt) : nop F F1 := fun _ => ⟨h6, h7⟩
theorem an_bind {A B : Type} {P : Nat → Int} {r : sE ⊕ A} {f : A → sE ⊕ B} {J : A → (Nat → sy_d) → Prop} {J2 : B → (Nat → sy_d) → Prop} {F F1 F2 : Nat → sy_d} (h1 : an P r J F F1) (hn : nop F1 F2) (h2 : (sy_i F1 6).toInt = 0 → ∀ a, J a F1 → an P (f a) J2 F1 F2) : an P (sB r f) J2 F F2 := by
  intro h0
  obtain ⟨a1, a2⟩ := h1 h0
  by_cases q : (sy_i F1 6).toInt = 0
  · obtain ⟨a, rfl, hJ⟩ := a2 q
    exact h2 q a hJ q
  · obtain ⟨tok, rfl, hp⟩ := a1 q
    obtain ⟨e6, e7⟩ := hn q
    exact ⟨fun _ => ⟨tok, by rw [e6]; rfl, by rw [e7]; exact hp⟩, fun z => absurd z (by rw [e6]; exact q)⟩
theorem an_mono {A : Type} {P : Nat → Int} {r : sE ⊕ A} {J J' : A → (Nat → sy_d) → Prop} {F F1 F2 : Nat → sy_d} (h : an P r J F F1) (h6 : (sy_i F2 6).toInt = (sy_i F1 6).toInt) (h7 : (sy_i F2 7).toInt = (sy_i F1 7).toInt) (hJ : ∀ a, J a F1 → J' a F2) : an P r J' F F2 := by
  intro h0
  obtain ⟨a1, a2⟩ := h h0
  rw [h6, h7]
  exact ⟨a1, fun z => by
    obtain ⟨a, e, j⟩ := a2 z
    exact ⟨a, e, hJ a j⟩⟩
theorem an_src {A : Type} {P : Nat → Int} {r : sE ⊕ A} {J : A → (Nat → sy_d) → Prop} {F F0 F1 : Nat → sy_d} (h : an P r J F0 F1) (h6 : (sy_i F0 6).toInt = (sy_i F 6).toInt) : an P r J F F1 := fun z => h (by rw [h6]; exact z)
theorem nop_src {F F0 F1 : Nat → sy_d} (h : nop F0 F1) (h6 : (sy_i F0 6).toInt = (sy_i F 6).toInt) (h7 : (sy_i F0 7).toInt = (sy_i F 7).toInt) : nop F F1 := fun z => by
  rw [← h6, ← h7]
  exact h (by rw [h6]; exact z)
theorem an_no {A : Type} {P : Nat → Int} {r : sE ⊕ A} {J : A → (Nat → sy_d) → Prop} {F F1 : Nat → sy_d} (h : (sy_i F 6).toInt ≠ 0) : an P r J F F1 := fun z => absurd z h
theorem an_er {A : Type} {P : Nat → Int} {r : sE ⊕ A} {J : A → (Nat → sy_d) → Prop} {F F1 : Nat → sy_d} {k : Int} {tok : Nat} (hr : r = .inl (k, tok)) (h6 : (sy_i F1 6).toInt = k) (hk : k ≠ 0) (h7 : (sy_i F1 7).toInt = P tok) : an P r J F F1 := fun _ => ⟨fun _ => ⟨tok, by rw [h6]; exact hr, h7⟩, fun z => absurd z (by rw [h6]; exact hk)⟩
theorem an_ok {A : Type} {P : Nat → Int} {r : sE ⊕ A} {J : A → (Nat → sy_d) → Prop} {F F1 : Nat → sy_d} {a : A} (hr : r = .inr a) (h6 : (sy_i F1 6).toInt = 0) (hJ : J a F1) : an P r J F F1 := fun _ => ⟨fun z => absurd h6 z, fun _ => ⟨a, hr, hJ⟩⟩
section SQ
variable {K : Nat → Int} {k : Int} {t : Nat}
theorem sG_ok (h : t < 400) : sG t = .inr (t + 1) := by unfold sG; rw [if_neg (by omega)]
theorem sG_4 (h : t = 400) : sG t = .inl (2, t) := by unfold sG; rw [if_pos h]
theorem sM_ok (hk : K t = k) (h : t < 400) : sM K k t = .inr (t + 1) := by unfold sM; rw [if_pos hk, sG_ok h]
theorem sM_4 (hk : K t = k) (h : t = 400) : sM K k t = .inl (2, t) := by unfold sM; rw [if_pos hk, sG_4 h]
theorem sM_no (hk : K t ≠ k) : sM K k t = .inl (1, t) := by unfold sM; rw [if_neg hk]
theorem sN_no {V : Nat → Int} {lo hi : Int} {w : sE} (hk : K t ≠ 2) : sN K V lo hi (t, w) = .inl (1, t) := by
  show sB (sM K 2 t) _ = _
  rw [sM_no hk]
  rfl
theorem sN_4 {V : Nat → Int} {lo hi : Int} {w : sE} (hk : K t = 2) (h : t = 400) : sN K V lo hi (t, w) = .inl (2, t) := by
  show sB (sM K 2 t) _ = _
  rw [sM_4 hk h]
  rfl
theorem sN_ok {V : Nat → Int} {lo hi : Int} {w : sE} (hk : K t = 2) (h : t < 400) : sN K V lo hi (t, w) = .inr (t + 1, sW w (V t < lo ∨ hi < V t) 5 t) := by
  show sB (sM K 2 t) _ = _
  rw [sM_ok hk h]
  rfl
theorem sNm_no {N : Nat → Int64} {nm : List Int64} {w : sE} (hk : K t ≠ 1) : sNm K N (t, nm, w) = .inl (1, t) := by
  show sB (sM K 1 t) _ = _
  rw [sM_no hk]
  rfl
theorem sNm_4 {N : Nat → Int64} {nm : List Int64} {w : sE} (hk : K t = 1) (h : t = 400) : sNm K N (t, nm, w) = .inl (2, t) := by
  show sB (sM K 1 t) _ = _
  rw [sM_4 hk h]
  rfl
theorem sNm_ok {N : Nat → Int64} {nm : List Int64} {w : sE} (hk : K t = 1) (h : t < 400) : sNm K N (t, nm, w) = .inr (t + 1, sW w (N t ∈ nm) 3 t) := by
  show sB (sM K 1 t) _ = _
  rw [sM_ok hk h]
  rfl
end SQ
theorem wr_s {P : Nat → Int} {F F1 : Nat → sy_d} {w : sE} {b : Prop} [Decidable b] {k : Int} {tok : Nat} (hk : 0 < k) (h : wr P w F) (ht : tn F ≤ tn F1) (htok : tok < tn F1) (c : (b ∧ w.1 = 0 ∧ (sy_i F1 8).toInt = k ∧ (sy_i F1 9).toInt = P tok) ∨ ((¬ b ∨ w.1 ≠ 0) ∧ (sy_i F1 8).toInt = (sy_i F 8).toInt ∧ (sy_i F1 9).toInt = (sy_i F 9).toInt)) : wr P (sW w b k tok) F1 := by
  obtain ⟨h1, h2, h3⟩ := h
  unfold sW
  rcases c with ⟨c1, c2, c3, c4⟩ | ⟨c1, c2, c3⟩
  · rw [if_pos ⟨c1, c2⟩]
    exact ⟨c3, by show 0 ≤ k; omega, fun _ => ⟨c4, htok⟩⟩
  · rw [if_neg (fun q => by rcases c1 with c1 | c1; exact c1 q.1; exact c1 q.2)]
    refine ⟨by rw [c2]; exact h1, h2, fun q => ?_⟩
    obtain ⟨x, y⟩ := h3 q
    exact ⟨by rw [c3]; exact x, by omega⟩
theorem wr_eq {P : Nat → Int} {F F1 : Nat → sy_d} {w : sE} (h : wr P w F) (ht : tn F ≤ tn F1) (h8 : (sy_i F1 8).toInt = (sy_i F 8).toInt) (h9 : (sy_i F1 9).toInt = (sy_i F 9).toInt) : wr P w F1 := by
  obtain ⟨h1, h2, h3⟩ := h
  refine ⟨by rw [h8]; exact h1, h2, fun q => ?_⟩
  obtain ⟨x, y⟩ := h3 q
  exact ⟨by rw [h9]; exact x, by omega⟩
noncomputable def jq (P : Nat → Int) (L : Nat) (q : Nat × sE) (F : Nat → sy_d) : Prop := tn F = q.1 ∧ q.1 ≤ L ∧ wr P q.2 F
theorem jq_dst {P : Nat → Int} {L : Nat} {q : Nat × sE} {F F2 : Nat → sy_d} (h : jq P L q F) (h4 : (sy_i F2 4).toInt = (sy_i F 4).toInt) (h8 : (sy_i F2 8).toInt = (sy_i F 8).toInt) (h9 : (sy_i F2 9).toInt = (sy_i F 9).toInt) : jq P L q F2 := by
  have e := tn_eq h4
  exact ⟨by rw [e]; exact h.1, h.2.1, wr_eq h.2.2 (by rw [e]; exact Nat.le_refl _) h8 h9⟩
theorem pm_nx {P K : Nat → Int} {L t : Nat} (h : pm P K L) (ht : t ≤ L) (hk : K t ≠ 0) (h4 : t < 400) : t + 1 ≤ L := by
  rcases h.2.1 with q | q
  · by_cases e : t = L
    · rw [e] at hk
      exact absurd q hk
    · omega
  · omega
noncomputable def bR (lo hi : Int) (F F' : Nat → sy_d) : Prop := gr W1 F F' ∧ nop F F' ∧ ∀ (L : Nat) (w : sE), pm (pf F) (kf F) L → tn F ≤ L → wr (pf F) w F → an (pf F) (sN (kf F) (vf F) lo hi (tn F, w)) (jq (pf F) L) F F'
section SY
variable {Ls : Nat} {xs : Nat → Int32} (F : Nat → sy_d) (X1 X2 : List jm_c)
end SY
theorem bR_src {lo hi : Int} {F F0 F' : Nat → sy_d} (h : bR lo hi F0 F') (e : ∀ q, q < 69 → F0 q = F q) : bR lo hi F F' := by
  obtain ⟨h1, h2, h3⟩ := h
  have i4 := nz_fi (e 4 (by decide))
  have i6 := nz_fi (e 6 (by decide))
  rw [kf_eq (e 25 (by decide)), pf_eq (e 26 (by decide)), vf_eq (e 27 (by decide)), tn_eq i4] at h3
  exact ⟨h1.src e, nop_src h2 i6 (nz_fi (e 7 (by decide))), fun L w a b c => an_src (h3 L w a b (wr_eq c (by rw [tn_eq i4]; exact Nat.le_refl _) (nz_fi (e 8 (by decide))) (nz_fi (e 9 (by decide))))) i6⟩
theorem bR_dst {lo hi : Int} {F F' F2 : Nat → sy_d} (h : bR lo hi F F') (e : ∀ q, q < 69 → F2 q = F' q) : bR lo hi F F2 := by
  obtain ⟨h1, h2, h3⟩ := h
  have i4 := nz_fi (e 4 (by decide))
  have i6 := nz_fi (e 6 (by decide))
  have i7 := nz_fi (e 7 (by decide))
  exact ⟨h1.dst e, nop_trans h2 (nop_same i6 i7), fun L w a b c => an_mono (h3 L w a b c) i6 i7 (fun q j => jq_dst j i4 (nz_fi (e 8 (by decide))) (nz_fi (e 9 (by decide))))⟩
theorem lg_eq (a b : Int64) : (lg_cmp a b).toInt = 0 ↔ a = b := by
  unfold lg_cmp
  split
  · rename_i h
    have := Int64.lt_iff_toInt_lt.mp h
    exact ⟨fun q => absurd q (by decide), fun q => by rw [q] at this; omega⟩
  · split
    · rename_i h
      exact ⟨fun _ => h, fun _ => by decide⟩
    · rename_i h
      exact ⟨fun q => absurd q (by decide), fun q => absurd q h⟩
noncomputable def ml (F : Nat → sy_d) (n : Nat) : List Int64 := (List.range n).map (fun i => (sy_al F 30).getD i 0)
noncomputable def nmr (nm : List Int64) (F : Nat → sy_d) : Prop := nm = ml F (sy_i F 13).toInt.toNat
theorem ml_s {F : Nat → sy_d} {n : Nat} {x : Int64} : x ∈ ml F (n + 1) ↔ x ∈ ml F n ∨ x = (sy_al F 30).getD n 0 := by
  unfold ml
  rw [List.range_succ, List.map_append, List.mem_append]
  simp
theorem ml_eq {F F1 : Nat → sy_d} (h : F1 30 = F 30) (n : Nat) : ml F1 n = ml F n := by
  unfold ml
  rw [nz_fl h]
theorem nmr_eq {nm : List Int64} {F F1 : Nat → sy_d} (h : nmr nm F) (h30 : F1 30 = F 30) (h13 : (sy_i F1 13).toInt = (sy_i F 13).toInt) : nmr nm F1 := by
  unfold nmr
  rw [ml_eq h30, h13]
  exact h
theorem na_w {P : Nat → Int} {w : sE} {b b' : Prop} [Decidable b] [Decidable b'] {tok : Nat} {F F1 : Nat → sy_d} (h : wr P (sW w b 3 tok) F) (hlt : w.1 ≠ 0 → P w.2 < P tok) (ht : tn F1 = tn F) (htok : tok < tn F)
    (c : ((b' ↔ b) ∧ (sy_i F1 8).toInt = (sy_i F 8).toInt ∧ (sy_i F1 9).toInt = (sy_i F 9).toInt) ∨ (b' ∧ (((sy_i F 8).toInt = 0 ∧ (sy_i F1 8).toInt = 3 ∧ (sy_i F1 9).toInt = P tok) ∨ ((sy_i F 8).toInt ≠ 0 ∧ (sy_i F1 8).toInt = (sy_i F 8).toInt ∧ (sy_i F1 9).toInt = (sy_i F 9).toInt) ∨ ((sy_i F 8).toInt ≠ 0 ∧ (P tok < (sy_i F 9).toInt ∨ (P tok = (sy_i F 9).toInt ∧ 3 < (sy_i F 8).toInt)))))) : wr P (sW w b' 3 tok) F1 := by
  have same : ∀ m : sE, wr P m F → (sy_i F1 8).toInt = (sy_i F 8).toInt → (sy_i F1 9).toInt = (sy_i F 9).toInt → wr P m F1 := fun m hm a b => wr_eq hm (by rw [ht]; exact Nat.le_refl _) a b
  rcases c with ⟨c1, c2, c3⟩ | ⟨c1, c⟩
  · have e : sW w b' 3 tok = sW w b 3 tok := by
      unfold sW
      simp only [c1]
    rw [e]
    exact same _ h c2 c3
  · by_cases hw : w.1 = 0
    · have e : sW w b' 3 tok = (3, tok) := by
        unfold sW
        rw [if_pos ⟨c1, hw⟩]
      rw [e]
      by_cases hb : b
      · have e2 : sW w b 3 tok = (3, tok) := by
          unfold sW
          rw [if_pos ⟨hb, hw⟩]
        rw [e2] at h
        obtain ⟨h1, h2, h3⟩ := id h
        have h1 : (sy_i F 8).toInt = 3 := h1
        have h3 : (sy_i F 9).toInt = P tok := (h3 (show (3 : Int) ≠ 0 by decide)).1
        rcases c with c | c | c
        · omega
        · exact same _ h c.2.1 c.2.2
        · omega
      · have e2 : sW w b 3 tok = w := by
          unfold sW
          rw [if_neg (fun q => hb q.1)]
        rw [e2] at h
        obtain ⟨h1, h2, h3⟩ := id h
        rcases c with c | c | c
        · exact ⟨c.2.1, (show (0 : Int) ≤ 3 by decide), fun _ => ⟨c.2.2, by rw [ht]; exact htok⟩⟩
        · omega
        · omega
    · have e : sW w b' 3 tok = w := by
        unfold sW
        rw [if_neg (fun q => hw q.2)]
      have e2 : sW w b 3 tok = w := by
        unfold sW
        rw [if_neg (fun q => hw q.2)]
      rw [e]
      rw [e2] at h
      obtain ⟨h1, h2, h3⟩ := id h
      have h4 := (h3 hw).1
      have h5 := hlt hw
      rcases c with c | c | c
      · omega
      · exact same _ h c.2.1 c.2.2
      · omega
noncomputable def nR (x : Int32) (F F' : Nat → sy_d) : Prop := gr W1 F F' ∧ nop F F' ∧ x.toInt = (sy_i F 4).toInt ∧ ∀ (L : Nat) (w : sE) (nm : List Int64), pm (pf F) (kf F) L → tn F ≤ L → wr (pf F) w F → nmr nm F → an (pf F) (sNm (kf F) (nf F) (tn F, nm, w)) (jq (pf F) L) F F'
theorem nR_dst {x : Int32} {F F' F2 : Nat → sy_d} (h : nR x F F') (e : ∀ q, q < 69 → F2 q = F' q) : nR x F F2 := by
  obtain ⟨h1, h2, h4, h3⟩ := h
  have i4 := nz_fi (e 4 (by decide))
  have i6 := nz_fi (e 6 (by decide))
  have i7 := nz_fi (e 7 (by decide))
  exact ⟨h1.dst e, nop_trans h2 (nop_same i6 i7), h4, fun L w nm a b c d => an_mono (h3 L w nm a b c d) i6 i7 (fun q j => jq_dst j i4 (nz_fi (e 8 (by decide))) (nz_fi (e 9 (by decide))))⟩
/-- within the loop over the names: k of them are looked at -/
noncomputable def nlI (F0 F : Nat → sy_d) : Prop := gr W1 F0 F ∧ nop F0 F ∧ (sy_i F 69).toInt = (sy_i F0 4).toInt ∧ 0 ≤ (sy_i F 70).toInt ∧ (sy_i F 70).toInt ≤ (sy_i F0 13).toInt ∧ ∀ (L : Nat) (w : sE), pm (pf F0) (kf F0) L → tn F0 ≤ L → wr (pf F0) w F0 → (sy_i F0 6).toInt = 0 → ((sy_i F 6).toInt ≠ 0 → ∃ tok, (∀ nm, sNm (kf F0) (nf F0) (tn F0, nm, w) = .inl ((sy_i F 6).toInt, tok)) ∧ (sy_i F 7).toInt = pf F0 tok) ∧ ((sy_i F 6).toInt = 0 → kf F0 (tn F0) = 1 ∧ tn F0 < 400 ∧ tn F = tn F0 + 1 ∧ wr (pf F0) (sW w (nf F0 (tn F0) ∈ ml F0 (sy_i F 70).toInt.toNat) 3 (tn F0)) F)
theorem nlI_end {F0 F F1 : Nat → sy_d} {x : Int32} (h : nlI F0 F) (hx : x.toInt = (sy_i F 69).toInt) (hb : iv_in F1 iv_B4) (g : ∀ j, j < 69 → j ∉ ([] : List Nat) → F1 j = F j) (c : (sy_i F 6).toInt = 0 → (sy_i F0 13).toInt ≤ (sy_i F 70).toInt) : nR x F0 F1 := by
  obtain ⟨h1, h2, h3, h4, h5, h6⟩ := h
  have i4 := nz_fi (g 4 (by decide) (by decide))
  have i6 := nz_fi (g 6 (by decide) (by decide))
  have i7 := nz_fi (g 7 (by decide) (by decide))
  refine ⟨h1.trans (gr_mk (W := W1) hb g (by decide) (by omega) (by omega)) (by decide), nop_trans h2 (nop_same i6 i7), by omega, fun L w nm hm hL hw hn h0 => ?_⟩
  obtain ⟨a, b⟩ := h6 L w hm hL hw h0
  rw [i6, i7]
  refine ⟨fun q => ?_, fun q => ?_⟩
  · obtain ⟨tok, t1, t2⟩ := a q
    exact ⟨tok, t1 nm, t2⟩
  · obtain ⟨b1, b2, b3, b4⟩ := b q
    have e : (sy_i F 70).toInt.toNat = (sy_i F0 13).toInt.toNat := by
      have := c q
      omega
    have hn : nm = ml F0 (sy_i F0 13).toInt.toNat := hn
    rw [e, ← hn] at b4
    exact ⟨_, sNm_ok b1 b2, by rw [tn_eq i4]; exact b3, pm_nx hm hL (by rw [b1]; decide) b2, wr_eq b4 (by rw [tn_eq i4]; exact Nat.le_refl _) (nz_fi (g 8 (by decide) (by decide))) (nz_fi (g 9 (by decide) (by decide)))⟩
section SZ
variable {Ls : Nat} {xs : Nat → Int32} (F : Nat → sy_d) (X1 X2 : List jm_c)
theorem ny_loop (F0 : Nat → sy_d) (hB0 : iv_in F0 iv_B4) : ∀ (n : Nat) (F : Nat → sy_d), nlI F0 F → 11 - (sy_i F 70).toInt < n →
    hd_W Ls xs 4 jm_M155 (fun v G => ∃ (x : Int32) (F' : Nat → sy_d), v = some (.int x) ∧ G = sy_dh F' X1 X2 (iv_H 4) ∧ nR x F0 F') (12, sy_dL F [some (.inl (.ref 1000)), some (.inr (.inl 69)), some (.inr (.inl 70))], sy_dS F [], sy_dh F X1 X2 (iv_H 4), 0, 0)
  | 0, F, h, h3 => by
    have c13 := nz_bx hB0 (k := 13) (lo := 0) (hi := 11) rfl
    have h5 := h.2.2.2.2.1
    omega
  | n + 1, F, h, h3 => by
    obtain ⟨g1, g2, g3, g4, g5, g6⟩ := id h
    have c4 := nz_bx hB0 (k := 4) (lo := 0) (hi := 400) rfl
    have c13 := nz_bx hB0 (k := 13) (lo := 0) (hi := 11) rfl
    have i13 := g1.i (k := 13) (by decide) (by decide)
    have x26 := g1.a (k := 26) (by decide) (by decide)
    have x28 : sy_al F 28 = sy_al F0 28 := nz_fl (g1.f 28 (by decide) (by decide))
    have x30 : sy_al F 30 = sy_al F0 30 := nz_fl (g1.f 30 (by decide) (by decide))
    have eT : (sy_i F 69).toInt.toNat = tn F0 := by unfold tn; omega
    have eP : pf F0 (tn F0) = ((sy_ai F 26).getD (sy_i F 69).toInt.toNat 0).toInt := by rw [x26, eT]; rfl
    have eN : nf F0 (tn F0) = (sy_al F 28).getD (sy_i F 69).toInt.toNat 0 := by rw [x28, eT]; rfl
    have eO : (sy_al F0 30).getD (sy_i F 70).toInt.toNat 0 = (sy_al F 30).getD (sy_i F 70).toInt.toNat 0 := by rw [x30]
    have ek : ((sy_i F 70).toInt + 1).toNat = (sy_i F 70).toInt.toNat + 1 := by omega
    refine nay_12 (by decide) F X1 X2 g1.b (by omega) (by omega) ?_ ?_ ?_ ?_ ?_ ?_ ?_ ?_
    iterate 2
      intros
      rename_i F1 hb g e4 e6 e7 e8 e9 e13 a25 a26 a27
      exact ⟨_, F1, rfl, rfl, nlI_end h rfl hb g (by omega)⟩
    all_goals
      intros
      rename_i F1 hb g e4 e6 e7 e8 e9 e13 a25 a26 a27 e69 e70
      refine ny_loop F0 hB0 n F1 ⟨g1.trans (gr_mk (W := W1) hb g (by decide) (by omega) (by omega)) (by decide), nop_trans g2 (nop_same e6 e7), by omega, by omega, by omega, fun L w hm hL hw h0 => ?_⟩ (by omega)
      obtain ⟨-, z2⟩ := g6 L w hm hL hw h0
      refine ⟨fun q => absurd q (by omega), fun q => ?_⟩
      obtain ⟨b1, b2, b3, b4⟩ := z2 (by omega)
      refine ⟨b1, b2, by rw [tn_eq e4]; exact b3, ?_⟩
      rw [e70, ek]
      refine na_w b4 (fun q => hm.1 _ _ (hw.2.2 q).2 hL) (tn_eq e4) (by omega) ?_
      first
        | exact Or.inl ⟨by rw [ml_s, eO, eN]; exact ⟨fun t => t.resolve_right (fun t2 => (by assumption : ¬ (lg_cmp _ _).toInt = 0) ((lg_eq _ _).mpr t2.symm)), Or.inl⟩, e8, e9⟩
        | exact Or.inr ⟨by rw [ml_s, eO, eN]; exact Or.inr ((lg_eq _ _).mp (by assumption)).symm, by omega⟩
theorem ny_T (hB : iv_in F iv_B4) : jm_T Ls xs 4 jm_M155 [.ref 1000] (sy_dh F X1 X2 (iv_H 4)) 0 0 (fun v G => ∃ (x : Int32) (F' : Nat → sy_d), v = some (.int x) ∧ G = sy_dh F' X1 X2 (iv_H 4) ∧ nR x F F') := by
  have c4 := nz_bx hB (k := 4) (lo := 0) (hi := 400) rfl
  have c13 := nz_bx hB (k := 13) (lo := 0) (hi := 11) rfl
  have eK : kf F (tn F) = ((sy_ai F 25).getD (sy_i F 4).toInt.toNat 0).toInt := rfl
  have eP : pf F (tn F) = ((sy_ai F 26).getD (sy_i F 4).toInt.toNat 0).toInt := rfl
  have et : (tn F : Int) = (sy_i F 4).toInt := by unfold tn; omega
  refine nz_T0 jm_ok155 (by decide) (nay_0 (by decide) F X1 X2 hB ?_ ?_ ?_ ?_)
  all_goals
    intros
    rename_i F1 hb g e4 e6 e7 e8 e9 e13 a25 a26 a27 e69 e70
    refine ny_loop X1 X2 F hB 12 F1 ⟨gr_mk (W := W1) hb g (by decide) (by omega) (by omega), ?_, e69, by omega, by omega, fun L w hm hL hw h0 => ⟨fun q => ?_, fun q => ?_⟩⟩ (by omega)
  all_goals first
    | exact nop_same e6 e7
    | exact fun z => absurd z (by omega)
    | exact absurd q (by omega)
    | exact absurd h0 (by omega)
    | exact ⟨tn F, fun nm => by rw [e6]; exact sNm_no (by omega), e7.trans eP.symm⟩
    | exact ⟨tn F, fun nm => by rw [e6]; exact sNm_4 (by omega) (by omega), e7.trans eP.symm⟩
    | exact ⟨by omega, by omega, tn_s c4.1 e4, by
        have e : sW w (nf F (tn F) ∈ ml F (sy_i F1 70).toInt.toNat) 3 (tn F) = w := by
          unfold sW
          rw [if_neg (fun z => by
            have z := z.1
            rw [show (sy_i F1 70).toInt.toNat = 0 by omega] at z
            simp [ml] at z)]
        rw [e]
        exact wr_eq hw (by rw [tn_s c4.1 e4]; omega) e8 e9⟩
end SZ
end
section
/-! ===== fruit, buyers, settings: what they tell ===== -/
noncomputable def jE (P : Nat → Int) (L : Nat) (w : sE) (nm : List Int64) (t : Nat) (F : Nat → sy_d) : Prop := tn F = t ∧ t ≤ L ∧ wr P w F ∧ nmr nm F
noncomputable def eR (tok : Nat) (F F' : Nat → sy_d) : Prop := gr W2 F F' ∧ nop F F' ∧ ((sy_i F' 6).toInt = 0 → (sy_i F' 13).toInt = (sy_i F 13).toInt + 1 ∧ (sy_i F 4).toInt + 1 ≤ (sy_i F' 4).toInt) ∧ ∀ (L : Nat) (w : sE) (nm : List Int64), pm (pf F) (kf F) L → tn F ≤ L → wr (pf F) w F → nmr nm F → an (pf F) (sM (kf F) 4 (tn F)) (jE (pf F) L w (nm ++ [nf F tok])) F F'
theorem jE_dst {P : Nat → Int} {L : Nat} {w : sE} {nm : List Int64} {t : Nat} {F F2 : Nat → sy_d} (h : jE P L w nm t F) (e : ∀ q, q < 69 → F2 q = F q) : jE P L w nm t F2 := by
  have i4 := nz_fi (e 4 (by decide))
  have e4 := tn_eq i4
  exact ⟨by rw [e4]; exact h.1, h.2.1, wr_eq h.2.2.1 (by rw [e4]; exact Nat.le_refl _) (nz_fi (e 8 (by decide))) (nz_fi (e 9 (by decide))), nmr_eq h.2.2.2 (e 30 (by decide)) (nz_fi (e 13 (by decide)))⟩
theorem eR_dst {tok : Nat} {F F' F2 : Nat → sy_d} (h : eR tok F F') (e : ∀ q, q < 69 → F2 q = F' q) : eR tok F F2 := by
  obtain ⟨h1, h2, h4, h3⟩ := h
  have i4 := nz_fi (e 4 (by decide))
  have i6 := nz_fi (e 6 (by decide))
  have i7 := nz_fi (e 7 (by decide))
  exact ⟨h1.dst e, nop_trans h2 (nop_same i6 i7), by rw [i6, i4, nz_fi (e 13 (by decide))]; exact h4, fun L w nm a b c d => an_mono (h3 L w nm a b c d) i6 i7 (fun q j => jE_dst j e)⟩
theorem eR_src {tok : Nat} {F F0 F' : Nat → sy_d} (h : eR tok F0 F') (e : ∀ q, q < 69 → F0 q = F q) : eR tok F F' := by
  obtain ⟨h1, h2, h4, h3⟩ := h
  have i4 := nz_fi (e 4 (by decide))
  have i6 := nz_fi (e 6 (by decide))
  rw [kf_eq (e 25 (by decide)), pf_eq (e 26 (by decide)), nf_eq (e 28 (by decide)), tn_eq i4] at h3
  rw [nz_fi (e 13 (by decide)), i4] at h4
  exact ⟨h1.src e, nop_src h2 i6 (nz_fi (e 7 (by decide))), h4, fun L w nm a b c d => an_src (h3 L w nm a b (wr_eq c (by rw [tn_eq i4]; exact Nat.le_refl _) (nz_fi (e 8 (by decide))) (nz_fi (e 9 (by decide)))) (nmr_eq d (e 30 (by decide)) (nz_fi (e 13 (by decide))))) i6⟩
section SE
variable {Ls : Nat} {xs : Nat → Int32} (F : Nat → sy_d) (X1 X2 : List jm_c)
theorem ed_0 (F0 : Nat → sy_d) (hB : iv_in F0 iv_B4) (h69 : 0 ≤ (sy_i F0 69).toInt ∧ (sy_i F0 69).toInt ≤ 400) (hn : (sy_i F0 13).toInt ≤ 10) : hd_W Ls xs 4 jm_M156 (fun v G => ∃ F' : Nat → sy_d, v = none ∧ G = sy_dh F' X1 X2 (iv_H 4) ∧ eR (sy_i F0 69).toInt.toNat F0 F') (0, sy_dL F0 (sy_ent (jm_mx jm_M156) [.inl (.ref 1000), .inr (.inl 69)]), [], sy_dh F0 X1 X2 (iv_H 4), 0, 0) := by
  have c4 := nz_bx hB (k := 4) (lo := 0) (hi := 400) rfl
  have c13 := nz_bx hB (k := 13) (lo := 0) (hi := 11) rfl
  have eK : kf F0 (tn F0) = ((sy_ai F0 25).getD (sy_i F0 4).toInt.toNat 0).toInt := rfl
  have eP : pf F0 (tn F0) = ((sy_ai F0 26).getD (sy_i F0 4).toInt.toNat 0).toInt := rfl
  have et : (tn F0 : Int) = (sy_i F0 4).toInt := by unfold tn; omega
  refine eny_0 (by decide) F0 X1 X2 hB h69 (by omega) (by omega) ?_ ?_ ?_ ?_
  all_goals
    intros
    rename_i F1 hb g e4 e6 e7 e8 e9 e13 a25 a26 a27 l30
    refine ⟨F1, rfl, rfl, gr_mk (W := W2) hb g (by decide) (by omega) (by omega), ?_, by omega, fun L w nm hm hL hw hd => ?_⟩
  all_goals first
    | exact nop_same e6 e7
    | exact fun z => absurd z (by omega)
    | exact an_no (by omega)
    | exact an_er (k := 1) (tok := tn F0) (sM_no (by omega)) e6 (by decide) (e7.trans eP.symm)
    | exact an_er (k := 2) (tok := tn F0) (sM_4 (by omega) (by omega)) e6 (by decide) (e7.trans eP.symm)
    | (have ts : tn F1 = tn F0 + 1 := tn_s c4.1 e4
       refine an_ok (a := tn F0 + 1) (sM_ok (by omega) (by omega)) (by omega) ⟨ts, pm_nx hm hL (by omega) (by omega), wr_eq hw (by omega) e8 e9, ?_⟩
       have hd : nm = ml F0 (sy_i F0 13).toInt.toNat := hd
       show _ = ml F1 (sy_i F1 13).toInt.toNat
       rw [hd, show (sy_i F1 13).toInt.toNat = (sy_i F0 13).toInt.toNat + 1 by omega]
       unfold ml
       rw [List.range_succ, List.map_append, l30]
       congr 1
       · refine List.map_congr_left (fun i hi => ?_)
         have := List.mem_range.mp hi
         rw [jm_updL_at, if_neg (by omega)]
       · dsimp only [List.map]
         rw [jm_updL_at, if_pos rfl]
         rfl)
theorem ed_T (hB : iv_in F iv_B4) (a : Int32) (h1 : 0 ≤ a.toInt) (h2 : a.toInt ≤ 400) (hn : (sy_i F 13).toInt ≤ 10) : jm_T Ls xs 4 jm_M156 [.ref 1000, .int a] (sy_dh F X1 X2 (iv_H 4)) 0 0 (fun v G => ∃ F' : Nat → sy_d, v = none ∧ G = sy_dh F' X1 X2 (iv_H 4) ∧ eR a.toInt.toNat F F') := by
  refine nz_T1 jm_ok156 (by decide) (fun F0 k0 h69 => hd_W_mono (ed_0 X1 X2 F0 (hd_iveq hB k0) (by rw [h69]; exact ⟨h1, h2⟩) (by rw [nz_fi (k0 13 (by decide))]; exact hn)) ?_)
  rintro v G ⟨F', rfl, rfl, hR⟩
  rw [h69] at hR
  exact ⟨F', rfl, rfl, eR_src hR k0⟩
end SE
/-- a run so far: what r tells -/
noncomputable def rn (W : List Nat) (F Fk : Nat → sy_d) (r : sE → List Int64 → sE ⊕ (Nat × sE)) : Prop := gr W F Fk ∧ nop F Fk ∧ ∀ (L : Nat) (w : sE) (nm : List Int64), pm (pf F) (kf F) L → tn F ≤ L → wr (pf F) w F → nmr nm F → an (pf F) (r w nm) (jq (pf F) L) F Fk
theorem rn_same {W C : List Nat} {F Fk F1 : Nat → sy_d} {r : sE → List Int64 → sE ⊕ (Nat × sE)} (h : rn W F Fk r) (hb : iv_in F1 iv_B4) (g : ∀ j, j < 69 → j ∉ C → F1 j = Fk j) (hC : ∀ x ∈ C, x ∈ W) (hn : ∀ q ∈ ([4, 6, 7, 8, 9] : List Nat), q ∉ C) : rn W F F1 r := by
  obtain ⟨h1, h2, h3⟩ := h
  have i4 := nz_fi (g 4 (by decide) (hn 4 (by decide)))
  have i6 := nz_fi (g 6 (by decide) (hn 6 (by decide)))
  have i7 := nz_fi (g 7 (by decide) (hn 7 (by decide)))
  exact ⟨h1.trans (gr_mk (W := W) hb g hC (by omega) (by omega)) (fun _ q => q), nop_trans h2 (nop_same i6 i7), fun L w nm a b c d => an_mono (h3 L w nm a b c d) i6 i7 (fun q j => jq_dst j i4 (nz_fi (g 8 (by decide) (hn 8 (by decide)))) (nz_fi (g 9 (by decide) (hn 9 (by decide)))))⟩
theorem rn_num {W : List Nat} {F Fk F1 : Nat → sy_d} {r : sE → List Int64 → sE ⊕ (Nat × sE)} {lo hi : Int} (h : rn W F Fk r) (hW : ∀ x ∈ W1, x ∈ W) (hk : ∀ q ∈ ([25, 26, 27] : List Nat), q ∉ W) (hb : bR lo hi Fk F1) : rn W F F1 (fun w nm => sB (r w nm) (sN (kf F) (vf F) lo hi)) := by
  obtain ⟨h1, h2, h3⟩ := h
  obtain ⟨b1, b2, b3⟩ := hb
  rw [kf_eq (h1.f 25 (by decide) (hk 25 (by decide))), pf_eq (h1.f 26 (by decide) (hk 26 (by decide))), vf_eq (h1.f 27 (by decide) (hk 27 (by decide)))] at b3
  exact ⟨h1.trans b1 hW, nop_trans h2 b2, fun L w nm a b c d => an_bind (h3 L w nm a b c d) b2 (fun _ q hq => by
    obtain ⟨q1, q2⟩ := q
    obtain ⟨e, l, hw⟩ := hq
    have e : tn Fk = q1 := e
    subst e
    exact b3 L q2 a l hw)⟩
noncomputable def tfy_R (F F' : Nat → sy_d) : Prop := gr tf_W F F' ∧ nop F F' ∧ ((sy_i F' 6).toInt = 0 → (sy_i F' 13).toInt = (sy_i F 13).toInt + 1 ∧ ((sy_ai F' 31).getD (sy_i F 12).toInt.toNat 0).toInt = ((sy_ai F 31).getD (sy_i F 12).toInt.toNat 0).toInt + 1) ∧ ∀ (L : Nat) (w : sE) (nm : List Int64), pm (pf F) (kf F) L → tn F ≤ L → wr (pf F) w F → nmr nm F → an (pf F) (sTell (kf F) (vf F) (nf F) (0, 9) (1, 9) (0, 99) (tn F, nm, w)) (fun q F' => jq (pf F) L q F' ∧ nmr (nm ++ [nf F (tn F)]) F') F F'
noncomputable def tfy_Q (F : Nat → sy_d) (X1 X2 : List jm_c) (v : Option Value) (G : jm_h) : Prop := ∃ F' : Nat → sy_d, v = none ∧ G = sy_dh F' X1 X2 (iv_H 4) ∧ tfy_R F F'
section tfY
variable {Ls : Nat} {xs : Nat → Int32} (F : Nat → sy_d) (X1 X2 : List jm_c)
end tfY
noncomputable def tby_R (F F' : Nat → sy_d) : Prop := gr tb_W F F' ∧ nop F F' ∧ ((sy_i F' 6).toInt = 0 → (sy_i F' 13).toInt = (sy_i F 13).toInt + 1 ∧ ((sy_ai F' 35).getD (sy_i F 12).toInt.toNat 0).toInt = ((sy_ai F 35).getD (sy_i F 12).toInt.toNat 0).toInt + 1) ∧ ∀ (L : Nat) (w : sE) (nm : List Int64), pm (pf F) (kf F) L → tn F ≤ L → wr (pf F) w F → nmr nm F → an (pf F) (sTell (kf F) (vf F) (nf F) (0, 9) (0, 3) (0, 999) (tn F, nm, w)) (fun q F' => jq (pf F) L q F' ∧ nmr (nm ++ [nf F (tn F)]) F') F F'
noncomputable def tby_Q (F : Nat → sy_d) (X1 X2 : List jm_c) (v : Option Value) (G : jm_h) : Prop := ∃ F' : Nat → sy_d, v = none ∧ G = sy_dh F' X1 X2 (iv_H 4) ∧ tby_R F F'
section tbY
variable {Ls : Nat} {xs : Nat → Int32} (F : Nat → sy_d) (X1 X2 : List jm_c)
end tbY
end
