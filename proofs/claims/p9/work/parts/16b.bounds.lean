/-! ===== numbers within bounds: kind (0 an int, 1 a long, 2 ints of an array, 3 longs of an array), least, most ===== -/
abbrev iv_t : Type := Nat × Int × Int
noncomputable def iv_has (d : sy_d) (t : iv_t) : Prop := match d with
  | .inl (.int x) => t.1 = 0 ∧ t.2.1 ≤ x.toInt ∧ x.toInt ≤ t.2.2
  | .inl (.long x) => t.1 = 1 ∧ t.2.1 ≤ x.toInt ∧ x.toInt ≤ t.2.2
  | .inr (.inl l) => t.1 = 2 ∧ ∀ j, t.2.1 ≤ (l.getD j 0).toInt ∧ (l.getD j 0).toInt ≤ t.2.2
  | .inr (.inr l) => t.1 = 3 ∧ ∀ j, t.2.1 ≤ (l.getD j 0).toInt ∧ (l.getD j 0).toInt ≤ t.2.2
  | _ => False
noncomputable def iv_in (F : Nat → sy_d) (E : List iv_t) : Prop := ∀ (k : Nat) (t : iv_t), E[k]? = some t → iv_has (F k) t
theorem iv_h0 {d : sy_d} {a b : Int} (h : iv_has d (0, a, b)) : ∃ v, d = .inl (.int v) ∧ a ≤ v.toInt ∧ v.toInt ≤ b := by
  unfold iv_has at h
  split at h
  · exact ⟨_, rfl, h.2⟩
  · exact absurd h.1 (by simp)
  · exact absurd h.1 (by simp)
  · exact absurd h.1 (by simp)
  · exact h.elim
theorem iv_h1 {d : sy_d} {a b : Int} (h : iv_has d (1, a, b)) : ∃ v, d = .inl (.long v) ∧ a ≤ v.toInt ∧ v.toInt ≤ b := by
  unfold iv_has at h
  split at h
  · exact absurd h.1 (by simp)
  · exact ⟨_, rfl, h.2⟩
  · exact absurd h.1 (by simp)
  · exact absurd h.1 (by simp)
  · exact h.elim
theorem iv_h2 {d : sy_d} {a b : Int} (h : iv_has d (2, a, b)) : ∃ l, d = .inr (.inl l) ∧ ∀ j, a ≤ (l.getD j 0).toInt ∧ (l.getD j 0).toInt ≤ b := by
  unfold iv_has at h
  split at h
  · exact absurd h.1 (by simp)
  · exact absurd h.1 (by simp)
  · exact ⟨_, rfl, h.2⟩
  · exact absurd h.1 (by simp)
  · exact h.elim
theorem iv_h3 {d : sy_d} {a b : Int} (h : iv_has d (3, a, b)) : ∃ l, d = .inr (.inr l) ∧ ∀ j, a ≤ (l.getD j 0).toInt ∧ (l.getD j 0).toInt ≤ b := by
  unfold iv_has at h
  split at h
  · exact absurd h.1 (by simp)
  · exact absurd h.1 (by simp)
  · exact absurd h.1 (by simp)
  · exact ⟨_, rfl, h.2⟩
  · exact h.elim
theorem iv_wide {d : sy_d} {c : Nat} {a b a' b' : Int} (h : iv_has d (c, a, b)) (h1 : a' ≤ a) (h2 : b ≤ b') : iv_has d (c, a', b') := by
  unfold iv_has at h
  split at h
  · exact ⟨h.1, Int.le_trans h1 h.2.1, Int.le_trans h.2.2 h2⟩
  · exact ⟨h.1, Int.le_trans h1 h.2.1, Int.le_trans h.2.2 h2⟩
  · exact ⟨h.1, fun j => ⟨Int.le_trans h1 (h.2 j).1, Int.le_trans (h.2 j).2 h2⟩⟩
  · exact ⟨h.1, fun j => ⟨Int.le_trans h1 (h.2 j).1, Int.le_trans (h.2 j).2 h2⟩⟩
  · exact h.elim
noncomputable def iv_k (E : List iv_t) (k c : Nat) : Option (Int × Int) := match fz_at E k with
  | some (c', a, b) => if c' = c then some (a, b) else none
  | none => none
theorem iv_k_ok {F : Nat → sy_d} {E : List iv_t} {k c : Nat} {a b : Int} (hE : iv_in F E) (h : iv_k E k c = some (a, b)) : iv_has (F k) (c, a, b) := by
  unfold iv_k at h
  rw [fz_at_eq] at h
  split at h
  · rename_i c' a' b' hk
    split at h
    · rename_i hc
      cases h
      subst hc
      exact hE k _ hk
    · cases h
  · cases h
noncomputable def iv_i (E : List iv_t) (x : sy_v) : Option (Int × Int) := match x with
  | .inl (.int v) => some (v.toInt, v.toInt)
  | .inr (.inl k) => iv_k E k 0
  | _ => none
noncomputable def iv_l (E : List iv_t) (x : sy_v) : Option (Int × Int) := match x with
  | .inl (.long v) => some (v.toInt, v.toInt)
  | .inr (.inr k) => iv_k E k 1
  | _ => none
theorem iv_i_ok {F : Nat → sy_d} {E : List iv_t} {x : sy_v} {a b : Int} (hE : iv_in F E) (h : iv_i E x = some (a, b)) : ∃ v, sy_dv F x = .int v ∧ a ≤ v.toInt ∧ v.toInt ≤ b := by
  unfold iv_i at h
  split at h
  · cases h
    exact ⟨_, rfl, Int.le_refl _, Int.le_refl _⟩
  · rename_i k
    obtain ⟨v, h1, h2⟩ := iv_h0 (iv_k_ok hE h)
    exact ⟨v, by simp only [sy_dv, sy_i, h1], h2⟩
  · cases h
theorem iv_l_ok {F : Nat → sy_d} {E : List iv_t} {x : sy_v} {a b : Int} (hE : iv_in F E) (h : iv_l E x = some (a, b)) : ∃ v, sy_dv F x = .long v ∧ a ≤ v.toInt ∧ v.toInt ≤ b := by
  unfold iv_l at h
  split at h
  · cases h
    exact ⟨_, rfl, Int.le_refl _, Int.le_refl _⟩
  · rename_i k
    obtain ⟨v, h1, h2⟩ := iv_h1 (iv_k_ok hE h)
    exact ⟨v, by simp only [sy_dv, sy_l, h1], h2⟩
  · cases h
noncomputable def iv_mn (a b : Int) : Int := bif iv_le a b then a else b
noncomputable def iv_mx (a b : Int) : Int := bif iv_le a b then b else a
theorem iv_mn1 (a b : Int) : iv_mn a b ≤ a := by
  unfold iv_mn
  cases h : iv_le a b with
  | true => exact Int.le_refl _
  | false => exact Int.le_of_lt (iv_nle_of h)
theorem iv_mn2 (a b : Int) : iv_mn a b ≤ b := by
  unfold iv_mn
  cases h : iv_le a b with
  | true => exact iv_le_of h
  | false => exact Int.le_refl _
theorem iv_mx1 (a b : Int) : a ≤ iv_mx a b := by
  unfold iv_mx
  cases h : iv_le a b with
  | true => exact iv_le_of h
  | false => exact Int.le_refl _
theorem iv_mx2 (a b : Int) : b ≤ iv_mx a b := by
  unfold iv_mx
  cases h : iv_le a b with
  | true => exact Int.le_refl _
  | false => exact Int.le_of_lt (iv_nle_of h)
theorem iv_mx3 {x a b : Int} (h1 : a ≤ x) (h2 : b ≤ x) : iv_mx a b ≤ x := by
  unfold iv_mx
  cases iv_le a b <;> assumption
theorem iv_mn3 {x a b : Int} (h1 : x ≤ a) (h2 : x ≤ b) : x ≤ iv_mn a b := by
  unfold iv_mn
  cases iv_le a b <;> assumption
noncomputable def iv_hl : List Int32 → Int × Int
  | [] => (0, 0)
  | v :: r => match iv_hl r with
    | (a, b) => (iv_mn v.toInt a, iv_mx v.toInt b)
noncomputable def iv_hL : List Int64 → Int × Int
  | [] => (0, 0)
  | v :: r => match iv_hL r with
    | (a, b) => (iv_mn v.toInt a, iv_mx v.toInt b)
theorem iv_hl_ok : ∀ (l : List Int32) (j : Nat), (iv_hl l).1 ≤ (l.getD j 0).toInt ∧ (l.getD j 0).toInt ≤ (iv_hl l).2
  | [], j => by simp [iv_hl]
  | v :: r, 0 => by
    simp only [iv_hl, List.getD_cons_zero]
    exact ⟨iv_mn1 _ _, iv_mx1 _ _⟩
  | v :: r, j + 1 => by
    have h := iv_hl_ok r j
    simp only [iv_hl, List.getD_cons_succ]
    exact ⟨Int.le_trans (iv_mn2 _ _) h.1, Int.le_trans h.2 (iv_mx2 _ _)⟩
theorem iv_hL_ok : ∀ (l : List Int64) (j : Nat), (iv_hL l).1 ≤ (l.getD j 0).toInt ∧ (l.getD j 0).toInt ≤ (iv_hL l).2
  | [], j => by simp [iv_hL]
  | v :: r, 0 => by
    simp only [iv_hL, List.getD_cons_zero]
    exact ⟨iv_mn1 _ _, iv_mx1 _ _⟩
  | v :: r, j + 1 => by
    have h := iv_hL_ok r j
    simp only [iv_hL, List.getD_cons_succ]
    exact ⟨Int.le_trans (iv_mn2 _ _) h.1, Int.le_trans h.2 (iv_mx2 _ _)⟩
noncomputable def iv_ai (E : List iv_t) (a : sy_a) : Option (Int × Int) := match a with
  | .inl (.inl l) => some (iv_hl l)
  | .inr (.inl k) => iv_k E k 2
  | _ => none
noncomputable def iv_al (E : List iv_t) (a : sy_a) : Option (Int × Int) := match a with
  | .inl (.inr l) => some (iv_hL l)
  | .inr (.inr k) => iv_k E k 3
  | _ => none
theorem iv_ai_ok {F : Nat → sy_d} {E : List iv_t} {x : sy_a} {a b : Int} (hE : iv_in F E) (h : iv_ai E x = some (a, b)) : ∃ l, sy_da F x = .inl l ∧ ∀ j, a ≤ (l.getD j 0).toInt ∧ (l.getD j 0).toInt ≤ b := by
  unfold iv_ai at h
  split at h
  · rename_i l
    refine ⟨l, rfl, fun j => ?_⟩
    have := iv_hl_ok l j
    rw [Option.some.inj h] at this
    exact this
  · rename_i k
    obtain ⟨v, h1, h2⟩ := iv_h2 (iv_k_ok hE h)
    exact ⟨v, by simp only [sy_da, sy_ai, h1], h2⟩
  · cases h
theorem iv_al_ok {F : Nat → sy_d} {E : List iv_t} {x : sy_a} {a b : Int} (hE : iv_in F E) (h : iv_al E x = some (a, b)) : ∃ l, sy_da F x = .inr l ∧ ∀ j, a ≤ (l.getD j 0).toInt ∧ (l.getD j 0).toInt ≤ b := by
  unfold iv_al at h
  split at h
  · rename_i l
    refine ⟨l, rfl, fun j => ?_⟩
    have := iv_hL_ok l j
    rw [Option.some.inj h] at this
    exact this
  · rename_i k
    obtain ⟨v, h1, h2⟩ := iv_h3 (iv_k_ok hE h)
    exact ⟨v, by simp only [sy_da, sy_al, h1], h2⟩
  · cases h
/-- what of two bounds an int holds -/
noncomputable def iv_w (a b : Int) : Int × Int := if -2147483648 ≤ a ∧ b ≤ 2147483647 then (a, b) else (-2147483648, 2147483647)
noncomputable def iv_o (op : Nat) (a b c d : Int) : Int × Int :=
  if op = 0 then iv_w (a + c) (b + d)
  else if op = 1 then iv_w (a - d) (b - c)
  else if op = 2 then (if 0 ≤ a ∧ 0 ≤ c then iv_w (a * c) (b * d) else if c = d ∧ 0 ≤ c then iv_w (a * c) (b * c) else if a = b ∧ 0 ≤ a then iv_w (a * c) (a * d) else (-2147483648, 2147483647))
  else if op = 3 then (if 0 ≤ c then (0, d) else if 0 ≤ a then (0, b) else (-2147483648, 2147483647))
  else if op = 9 then (if 0 ≤ a ∧ 1 ≤ c then (0, b) else (-2147483648, 2147483647))
  else if op = 10 then (if 1 ≤ c then (if 0 ≤ a then (0, d - 1) else (1 - d, d - 1)) else (-2147483648, 2147483647))
  else (-2147483648, 2147483647)
theorem iv_full (x : Int32) : -2147483648 ≤ x.toInt ∧ x.toInt ≤ 2147483647 := by
  have h1 := Int32.le_toInt x
  have h2 := Int32.toInt_lt x
  constructor <;> omega
theorem iv_fullL (x : Int64) : -9223372036854775808 ≤ x.toInt ∧ x.toInt ≤ 9223372036854775807 := by
  have h1 := Int64.le_toInt x
  have h2 := Int64.toInt_lt x
  constructor <;> omega
theorem iv_w_ok {x : Int32} {n a b : Int} (h : -2147483648 ≤ n → n ≤ 2147483647 → x.toInt = n) (h1 : a ≤ n) (h2 : n ≤ b) : (iv_w a b).1 ≤ x.toInt ∧ x.toInt ≤ (iv_w a b).2 := by
  unfold iv_w
  split
  · rename_i hc
    rw [h (by omega) (by omega)]
    exact ⟨h1, h2⟩
  · exact iv_full x
theorem iv_and {x y : Int32} (h : 0 ≤ y.toInt) : 0 ≤ (x &&& y).toInt ∧ (x &&& y).toInt ≤ y.toInt := by
  have e : (x &&& y).toInt = (x.toBitVec &&& y.toBitVec).toInt := rfl
  have hy : y.toInt = y.toBitVec.toInt := rfl
  rw [hy, BitVec.toInt_eq_toNat_cond] at h
  have hlt := y.toBitVec.isLt
  have hy2 : 2 * y.toBitVec.toNat < 2 ^ 32 := by
    split at h
    · assumption
    · omega
  have hle : (x.toBitVec &&& y.toBitVec).toNat ≤ y.toBitVec.toNat := by
    rw [BitVec.toNat_and]
    exact Nat.and_le_right
  rw [e, hy, BitVec.toInt_eq_toNat_cond, BitVec.toInt_eq_toNat_cond, if_pos (by omega), if_pos hy2]
  omega
theorem iv_and' {x y : Int32} (h : 0 ≤ x.toInt) : 0 ≤ (x &&& y).toInt ∧ (x &&& y).toInt ≤ x.toInt := by
  have := iv_and (x := y) (y := x) h
  have e : x &&& y = y &&& x := Int32.and_comm x y
  rw [e]
  exact this
theorem iv_rem (x y : Int32) : (x - (x / y) * y).toInt = x.toInt.tmod y.toInt := by
  have a := (x % y).toInt_lt; have b := (x % y).le_toInt
  rw [Int32.toInt_mod] at a b
  rw [Int32.toInt_sub, Int32.toInt_mul, Int32.toInt_div, Int.bmod_mul_bmod, Int.sub_bmod_bmod, Int.mul_comm, ← Int.tmod_def]
  exact Jvm.Kit.bmod32 b a
theorem iv_o_ok {op : Nat} {a b c d : Int} {x y : Int32} (hx : a ≤ x.toInt ∧ x.toInt ≤ b) (hy : c ≤ y.toInt ∧ y.toInt ≤ d) : ∃ z, sy_o2 op (.int x) (.int y) = .int z ∧ (iv_o op a b c d).1 ≤ z.toInt ∧ z.toInt ≤ (iv_o op a b c d).2 := by
  unfold iv_o
  by_cases h0 : op = 0
  · subst h0
    exact ⟨x + y, rfl, iv_w_ok (fun h1 h2 => Jvm.Kit.i32_add (by omega) (by omega)) (by omega) (by omega)⟩
  rw [if_neg h0]
  by_cases h1 : op = 1
  · subst h1
    exact ⟨x - y, rfl, iv_w_ok (fun h1 h2 => Jvm.Kit.i32_sub (by omega) (by omega)) (by omega) (by omega)⟩
  rw [if_neg h1]
  by_cases h2 : op = 2
  · subst h2
    refine ⟨x * y, rfl, ?_⟩
    rw [if_pos rfl]
    have key : ∀ {p q : Int}, p ≤ x.toInt * y.toInt → x.toInt * y.toInt ≤ q → (iv_w p q).1 ≤ (x * y).toInt ∧ (x * y).toInt ≤ (iv_w p q).2 := fun hp hq => iv_w_ok (fun h1 h2 => Jvm.Kit.i32_mul (by omega) (by omega)) hp hq
    split
    · rename_i hc
      refine key (Int.mul_le_mul hx.1 hy.1 hc.2 (by omega)) (Int.mul_le_mul hx.2 hy.2 (by omega) (by omega))
    · split
      · rename_i hc
        have e : y.toInt = c := by omega
        rw [← e] at hc ⊢
        refine key (Int.mul_le_mul_of_nonneg_right hx.1 hc.2) (Int.mul_le_mul_of_nonneg_right hx.2 hc.2)
      · split
        · rename_i hc
          have e : x.toInt = a := by omega
          rw [← e] at hc ⊢
          refine key (Int.mul_le_mul_of_nonneg_left hy.1 hc.2) (Int.mul_le_mul_of_nonneg_left hy.2 hc.2)
        · exact iv_full _
  rw [if_neg h2]
  by_cases h3 : op = 3
  · subst h3
    refine ⟨x &&& y, rfl, ?_⟩
    rw [if_pos rfl]
    split
    · have := iv_and (x := x) (y := y) (by omega)
      exact ⟨this.1, by dsimp only; omega⟩
    · split
      · have := iv_and' (x := x) (y := y) (by omega)
        exact ⟨this.1, by dsimp only; omega⟩
      · exact iv_full _
  rw [if_neg h3]
  by_cases h9 : op = 9
  · subst h9
    refine ⟨x / y, rfl, ?_⟩
    rw [if_pos rfl]
    split
    · rename_i hc
      rw [Jvm.Kit.i32_div (fun h => by omega)]
      rw [Int.tdiv_eq_ediv_of_nonneg (by omega)]
      have h1 := Int.ediv_nonneg (a := x.toInt) (b := y.toInt) (by omega) (by omega)
      have h2 := Int.ediv_le_self (b := y.toInt) (a := x.toInt) (by omega)
      exact ⟨h1, by dsimp only; omega⟩
    · exact iv_full _
  rw [if_neg h9]
  by_cases h10 : op = 10
  · subst h10
    refine ⟨x - x / y * y, rfl, ?_⟩
    rw [if_pos rfl]
    split
    · rename_i hc
      rw [iv_rem]
      split
      · rw [Int.tmod_eq_emod_of_nonneg (by omega)]
        have h1 := Int.emod_nonneg (x.toInt) (b := y.toInt) (by omega)
        have h2 := Int.emod_lt_of_pos (x.toInt) (b := y.toInt) (by omega)
        exact ⟨h1, by dsimp only; omega⟩
      · have h2 := Int.tmod_lt_of_pos (x.toInt) (b := y.toInt) (by omega)
        have h1 := Int.tmod_lt_of_pos (-x.toInt) (b := y.toInt) (by omega)
        rw [Int.neg_tmod] at h1
        exact ⟨by dsimp only; omega, by dsimp only; omega⟩
    · exact iv_full _
  rw [if_neg h10]
  have hz : ∃ z, sy_o2 op (.int x) (.int y) = .int z := by
    simp only [sy_o2]
    repeat' split
    all_goals exact ⟨_, rfl⟩
  obtain ⟨z, hz⟩ := hz
  exact ⟨z, hz, iv_full z⟩
noncomputable def iv_u (op : Nat) (a b : Int) : iv_t :=
  if op = 20 then (if -2147483647 ≤ a then (0, -b, -a) else (0, -2147483648, 2147483647))
  else if op = 21 then (1, a, b)
  else if op = 22 then (if -128 ≤ a ∧ b ≤ 127 then (0, a, b) else (0, -128, 127))
  else if op = 23 then (0, -2147483648, 2147483647)
  else (0, 0, 1)
theorem iv_bool (x : Int32) : 0 ≤ (vp_nar .boolean x).toInt ∧ (vp_nar .boolean x).toInt ≤ 1 := by
  have h : vp_nar .boolean x = x &&& 1 := rfl
  have h1 : (1 : Int32).toInt = 1 := by decide
  rw [h]
  have := iv_and (x := x) (y := 1) (by rw [h1]; decide)
  rw [h1] at this
  exact this
theorem iv_byte (x : Int32) : -128 ≤ x.toInt8.toInt32.toInt ∧ x.toInt8.toInt32.toInt ≤ 127 := by
  rw [Int8.toInt_toInt32]
  have h1 := Int8.le_toInt x.toInt8
  have h2 := Int8.toInt_lt x.toInt8
  constructor <;> omega
theorem iv_byte' {x : Int32} (h1 : -128 ≤ x.toInt) (h2 : x.toInt ≤ 127) : x.toInt8.toInt32.toInt = x.toInt := by
  rw [Int8.toInt_toInt32, Int32.toInt_toInt8, Int.bmod_def]
  omega
theorem iv_u_ok {op : Nat} {a b : Int} {x : Int32} (hx : a ≤ x.toInt ∧ x.toInt ≤ b) : iv_has (.inl (sy_o1 op (.int x))) (iv_u op a b) := by
  unfold iv_u
  by_cases h0 : op = 20
  · subst h0
    show iv_has (.inl (.int (0 - x))) _
    rw [if_pos rfl]
    split
    · rename_i hc
      have h1 : (0 - x).toInt = - x.toInt := by
        have hz : (0 : Int32).toInt = 0 := by decide
        have h2 := iv_full x
        rw [Jvm.Kit.i32_sub (by rw [hz]; omega) (by rw [hz]; omega), hz]
        omega
      refine ⟨rfl, ?_, ?_⟩
      · show -b ≤ _
        rw [h1]; omega
      · show _ ≤ -a
        rw [h1]; omega
    · exact ⟨rfl, iv_full _⟩
  rw [if_neg h0]
  by_cases h1 : op = 21
  · subst h1
    show iv_has (.inl (.long x.toInt64)) _
    rw [if_pos rfl]
    refine ⟨rfl, ?_, ?_⟩
    · rw [Int32.toInt_toInt64]; exact hx.1
    · rw [Int32.toInt_toInt64]; exact hx.2
  rw [if_neg h1]
  by_cases h2 : op = 22
  · subst h2
    show iv_has (.inl (.int x.toInt8.toInt32)) _
    rw [if_pos rfl]
    split
    · rename_i hc
      have := iv_byte' (x := x) (by omega) (by omega)
      refine ⟨rfl, ?_, ?_⟩
      · rw [this]; exact hx.1
      · rw [this]; exact hx.2
    · exact ⟨rfl, iv_byte x⟩
  rw [if_neg h2]
  by_cases h3 : op = 23
  · subst h3
    show iv_has (.inl (.int _)) _
    rw [if_pos rfl]
    exact ⟨rfl, iv_full _⟩
  rw [if_neg h3]
  have he : sy_o1 op (.int x) = .int (vp_nar .boolean x) := by simp only [sy_o1, if_neg h0, if_neg h1, if_neg h2, if_neg h3]
  rw [he]
  exact ⟨rfl, iv_bool x⟩
/-- what of two bounds a long holds -/
noncomputable def iv_wL (a b : Int) : Int × Int := if -9223372036854775808 ≤ a ∧ b ≤ 9223372036854775807 then (a, b) else (-9223372036854775808, 9223372036854775807)
theorem iv_wL_ok {x : Int64} {n a b : Int} (h : -9223372036854775808 ≤ n → n ≤ 9223372036854775807 → x.toInt = n) (h1 : a ≤ n) (h2 : n ≤ b) : (iv_wL a b).1 ≤ x.toInt ∧ x.toInt ≤ (iv_wL a b).2 := by
  unfold iv_wL
  split
  · rename_i hc
    rw [h (by omega) (by omega)]
    exact ⟨h1, h2⟩
  · exact iv_fullL x
noncomputable def iv_ol (op : Nat) (a b c d : Int) : iv_t :=
  if op = 12 then (1, iv_wL (a + c) (b + d))
  else if op = 13 then (1, iv_wL (a - d) (b - c))
  else if op = 14 then (1, if 0 ≤ a ∧ 0 ≤ c then iv_wL (a * c) (b * d) else (-9223372036854775808, 9223372036854775807))
  else if op = 15 ∨ op = 16 then (1, -9223372036854775808, 9223372036854775807) else (0, -1, 1)
theorem iv_ol_ok (op : Nat) {a b c d : Int} {x y : Int64} (hx : a ≤ x.toInt ∧ x.toInt ≤ b) (hy : c ≤ y.toInt ∧ y.toInt ≤ d) : iv_has (.inl (sy_o2 op (.long x) (.long y))) (iv_ol op a b c d) := by
  unfold iv_ol
  by_cases h0 : op = 12
  · subst h0
    exact ⟨rfl, iv_wL_ok (n := x.toInt + y.toInt) (fun h1 h2 => Jvm.Kit.i64_add (by omega) (by omega)) (by omega) (by omega)⟩
  rw [if_neg h0]
  by_cases h1 : op = 13
  · subst h1
    exact ⟨rfl, iv_wL_ok (n := x.toInt - y.toInt) (fun h1 h2 => Jvm.Kit.i64_sub (by omega) (by omega)) (by omega) (by omega)⟩
  rw [if_neg h1]
  by_cases h2 : op = 14
  · subst h2
    rw [if_pos rfl]
    refine ⟨rfl, ?_⟩
    show (if 0 ≤ a ∧ 0 ≤ c then iv_wL (a * c) (b * d) else (-9223372036854775808, 9223372036854775807)).1 ≤ (x * y).toInt ∧ (x * y).toInt ≤ (if 0 ≤ a ∧ 0 ≤ c then iv_wL (a * c) (b * d) else (-9223372036854775808, 9223372036854775807)).2
    split
    · rename_i hc
      exact iv_wL_ok (n := x.toInt * y.toInt) (fun h1 h2 => Jvm.Kit.i64_mul (by omega) (by omega)) (Int.mul_le_mul hx.1 hy.1 hc.2 (by omega)) (Int.mul_le_mul hx.2 hy.2 (by omega) (by omega))
    · exact iv_fullL _
  rw [if_neg h2]
  split
  · rename_i h
    rcases h with rfl | rfl <;> exact ⟨rfl, iv_fullL _⟩
  · rename_i h
    have he : sy_o2 op (.long x) (.long y) = .int (lg_cmp x y) := by
      simp only [sy_o2]
      rw [if_neg h0, if_neg h1, if_neg h2, if_neg (fun e => h (by omega)), if_neg (fun e => h (by omega))]
    rw [he]
    refine ⟨rfl, ?_⟩
    unfold lg_cmp
    split
    · decide
    · split <;> decide
noncomputable def iv_e (E : List iv_t) (e : sy_e) : Option iv_t := match e.2.1, e.2.2 with
  | [x, y], [] => (match iv_i E x, iv_i E y with
    | some (a, b), some (c, d) => some (0, iv_o e.1 a b c d)
    | _, _ => (match iv_l E x, iv_l E y with
      | some (a, b), some (c, d) => some (iv_ol e.1 a b c d)
      | _, _ => none))
  | [x], [] => (match iv_i E x with
    | some (a, b) => some (iv_u e.1 a b)
    | none => (match iv_l E x with
      | some (a, b) => some (0, iv_w a b)
      | none => none))
  | [i], [a] => (match iv_i E i with
    | some _ => (match iv_ai E a with
      | some (l, h) => some (0, l, h)
      | none => (match iv_al E a with
        | some (l, h) => some (1, l, h)
        | none => none))
    | none => none)
  | [i, x], [a] => (match iv_i E i with
    | some _ => (match iv_ai E a, iv_i E x with
      | some (l, h), some (c, d) => some (2, iv_mn l c, iv_mx h d)
      | _, _ => (match iv_al E a, iv_l E x with
        | some (l, h), some (c, d) => some (3, iv_mn l c, iv_mx h d)
        | _, _ => none))
    | none => none)
  | [sp, dp, n], [f, g] => (match iv_i E sp, iv_i E dp, iv_i E n with
    | some _, some _, some _ => (match iv_ai E f, iv_ai E g with
      | some (l, h), some (c, d) => some (2, iv_mn l c, iv_mx h d)
      | _, _ => none)
    | _, _, _ => none)
  | _, _ => none
theorem iv_upd {l : List Int32} {i : Nat} {x : Int32} {a b c d : Int} (hl : ∀ j, a ≤ (l.getD j 0).toInt ∧ (l.getD j 0).toInt ≤ b) (hx : c ≤ x.toInt ∧ x.toInt ≤ d) (j : Nat) : iv_mn a c ≤ ((jm_upd l i x).getD j 0).toInt ∧ ((jm_upd l i x).getD j 0).toInt ≤ iv_mx b d := by
  have h1 := iv_mn1 a c
  have h2 := iv_mn2 a c
  have h3 := iv_mx1 b d
  have h4 := iv_mx2 b d
  rw [jm_upd_at]
  split
  · omega
  · have := hl j
    omega
theorem iv_updL {l : List Int64} {i : Nat} {x : Int64} {a b c d : Int} (hl : ∀ j, a ≤ (l.getD j 0).toInt ∧ (l.getD j 0).toInt ≤ b) (hx : c ≤ x.toInt ∧ x.toInt ≤ d) (j : Nat) : iv_mn a c ≤ ((jm_updL l i x).getD j 0).toInt ∧ ((jm_updL l i x).getD j 0).toInt ≤ iv_mx b d := by
  have h1 := iv_mn1 a c
  have h2 := iv_mn2 a c
  have h3 := iv_mx1 b d
  have h4 := iv_mx2 b d
  rw [jm_updL_at]
  split
  · omega
  · have := hl j
    omega
theorem iv_cpy {f g : List Int32} {s t n : Nat} {a b c d : Int} (hf : ∀ j, a ≤ (f.getD j 0).toInt ∧ (f.getD j 0).toInt ≤ b) (hg : ∀ j, c ≤ (g.getD j 0).toInt ∧ (g.getD j 0).toInt ≤ d) (j : Nat) : iv_mn a c ≤ ((jm_cpy f g s t n).getD j 0).toInt ∧ ((jm_cpy f g s t n).getD j 0).toInt ≤ iv_mx b d := by
  have h1 := iv_mn1 a c
  have h2 := iv_mn2 a c
  have h3 := iv_mx1 b d
  have h4 := iv_mx2 b d
  have e := congrFun (jm_cpy_eq f g s t n) j
  rw [← e]
  unfold va_cpy
  split
  · have := hf (s + (j - t))
    dsimp only
    omega
  · have := hg j
    dsimp only
    omega
set_option maxHeartbeats 4000000 in
theorem iv_e_ok {F : Nat → sy_d} {E : List iv_t} {e : sy_e} {t : iv_t} (hE : iv_in F E) (h : iv_e E e = some t) : iv_has (sy_sem F e) t := by
  obtain ⟨op, vs, as⟩ := e
  unfold iv_e at h
  dsimp only at h
  split at h
  · rename_i x y
    show iv_has (.inl (sy_o2 op (sy_dv F x) (sy_dv F y))) t
    split at h
    · rename_i a b c d hx hy
      cases h
      obtain ⟨v, e1, v1⟩ := iv_i_ok hE hx
      obtain ⟨w, e2, w1⟩ := iv_i_ok hE hy
      obtain ⟨z, e3, z1⟩ := iv_o_ok (op := op) v1 w1
      rw [e1, e2, e3]
      exact ⟨rfl, z1⟩
    · split at h
      · rename_i a b c d hx hy
        cases h
        obtain ⟨v, e1, v1⟩ := iv_l_ok hE hx
        obtain ⟨w, e2, w1⟩ := iv_l_ok hE hy
        rw [e1, e2]
        exact iv_ol_ok op v1 w1
      · cases h
  · rename_i x
    show iv_has (.inl (sy_o1 op (sy_dv F x))) t
    split at h
    · rename_i a b hx
      cases h
      obtain ⟨v, e1, v1⟩ := iv_i_ok hE hx
      rw [e1]
      exact iv_u_ok v1
    · split at h
      · rename_i a b hx
        cases h
        obtain ⟨v, e1, v1⟩ := iv_l_ok hE hx
        rw [e1]
        exact ⟨rfl, iv_w_ok (fun h1 h2 => Jvm.Kit.i32_of_i64 (by omega) (by omega)) v1.1 v1.2⟩
      · cases h
  · rename_i i a
    show iv_has (.inl (sy_rd (sy_da F a) (sy_dv F i))) t
    split at h
    · rename_i hi
      obtain ⟨v, e1, v1⟩ := iv_i_ok hE hi
      split at h
      · rename_i l hh ha
        cases h
        obtain ⟨w, e2, w1⟩ := iv_ai_ok hE ha
        rw [e1, e2]
        exact ⟨rfl, w1 _⟩
      · split at h
        · rename_i l hh ha
          cases h
          obtain ⟨w, e2, w1⟩ := iv_al_ok hE ha
          rw [e1, e2]
          exact ⟨rfl, w1 _⟩
        · cases h
    · cases h
  · rename_i i x a
    show iv_has (.inr (sy_up (sy_da F a) (sy_dv F i) (sy_dv F x))) t
    split at h
    · rename_i hi
      obtain ⟨v, e1, v1⟩ := iv_i_ok hE hi
      split at h
      · rename_i l hh c d ha hx
        cases h
        obtain ⟨w, e2, w1⟩ := iv_ai_ok hE ha
        obtain ⟨u, e3, u1⟩ := iv_i_ok hE hx
        rw [e1, e2, e3]
        exact ⟨rfl, fun j => iv_upd w1 u1 j⟩
      · split at h
        · rename_i l hh c d ha hx
          cases h
          obtain ⟨w, e2, w1⟩ := iv_al_ok hE ha
          obtain ⟨u, e3, u1⟩ := iv_l_ok hE hx
          rw [e1, e2, e3]
          exact ⟨rfl, fun j => iv_updL w1 u1 j⟩
        · cases h
    · cases h
  · rename_i sp dp n f g
    show iv_has (.inr (sy_cp (sy_da F f) (sy_da F g) (sy_dv F sp) (sy_dv F dp) (sy_dv F n))) t
    split at h
    · rename_i h1 h2 h3
      obtain ⟨v1, e1, -⟩ := iv_i_ok hE h1
      obtain ⟨v2, e2, -⟩ := iv_i_ok hE h2
      obtain ⟨v3, e3, -⟩ := iv_i_ok hE h3
      split at h
      · rename_i l hh c d ha hx
        cases h
        obtain ⟨w, e4, w1⟩ := iv_ai_ok hE ha
        obtain ⟨u, e5, u1⟩ := iv_ai_ok hE hx
        rw [e1, e2, e3, e4, e5]
        exact ⟨rfl, fun j => iv_cpy w1 u1 j⟩
      · cases h
    · cases h
  · cases h
