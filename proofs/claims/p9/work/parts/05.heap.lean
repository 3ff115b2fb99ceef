/-! ===== the heap: fields, arrays, what is made, constants: the step, and that it is followed ===== -/
def jm_tyt : List (Nat → FieldType) := [tyX0, tyX1, tyX2, tyX3, tyX4, tyX5, tyX6, tyX7, tyX8, tyX9, tyX10]
/-- of each class of the world: its words are in the tables, its fields' types, its names are apart -/
theorem jm_cls {ci N : Nat} {C : String} {T : u_T} (h : vwCl[ci]? = some (C, T, N)) : (∀ w ∈ u_ws C T N, w ∈ jm_tbl) ∧ ∃ ty, jm_tyt[ci]? = some ty ∧ (∀ k, k < N → parseFieldDescriptor (T k).2.2.1 = some (ty k)) ∧ ∀ a, a < N → ∀ b, b < N → a ≠ b → (T a).2.1 ≠ (T b).2.1 := by
  match ci, h with
  | 0, h => cases h; exact ⟨wiX0, tyX0, rfl, tyX0_ok, nmX0⟩
  | 1, h => cases h; exact ⟨wiX1, tyX1, rfl, tyX1_ok, nmX1⟩
  | 2, h => cases h; exact ⟨wiX2, tyX2, rfl, tyX2_ok, nmX2⟩
  | 3, h => cases h; exact ⟨wiX3, tyX3, rfl, tyX3_ok, nmX3⟩
  | 4, h => cases h; exact ⟨wiX4, tyX4, rfl, tyX4_ok, nmX4⟩
  | 5, h => cases h; exact ⟨wiX5, tyX5, rfl, tyX5_ok, nmX5⟩
  | 6, h => cases h; exact ⟨wiX6, tyX6, rfl, tyX6_ok, nmX6⟩
  | 7, h => cases h; exact ⟨wiX7, tyX7, rfl, tyX7_ok, nmX7⟩
  | 8, h => cases h; exact ⟨wiX8, tyX8, rfl, tyX8_ok, nmX8⟩
  | 9, h => cases h; exact ⟨wiX9, tyX9, rfl, tyX9_ok, nmX9⟩
  | 10, h => cases h; exact ⟨wiX10, tyX10, rfl, tyX10_ok, nmX10⟩
  | n + 11, h => simp [vwCl] at h
def jm_df (ci : Nat) : List Value := match vwCl[ci]?, jm_tyt[ci]? with
  | some q, some ty => (List.range q.2.2).map fun k => defaultValue (ty k)
  | _, _ => []
/-- a word stands in the tables at a place -/
def jm_at (i : Nat) (w : Cond) : Bool := decide (lw_tbl[i]? = some w) && goodWord w
theorem jm_at_mem {i : Nat} {w : Cond} (h : jm_at i w = true) : w ∈ jm_tbl := by
  unfold jm_at at h
  rw [Bool.and_eq_true] at h
  exact jm_tbl_mem (List.mem_of_getElem? (of_decide_eq_true h.1)) h.2
def jm_atn (i : Nat) (w : Cond) : Bool := decide (lw_tbl[i]? = some w) && jm_isN w
theorem jm_atn_use {i : Nat} {w : Cond} {args : Array Value} {s : State} (h : jm_atn i w = true) (hN : ∀ w ∈ lw_tbl, jm_isN w = true → va_Nw w s) : w.before args s = true := by
  unfold jm_atn at h
  rw [Bool.and_eq_true] at h
  exact va_Nw.use (jm_N_tab h.2) (hN w (List.mem_of_getElem? (of_decide_eq_true h.1)) h.2)
/-- type codes of fields: 0 int, 1 boolean, 2 long, 3 a reference -/
def jm_tc (ty : FieldType) : Nat := match ty with
  | .int => 0
  | .boolean => 1
  | .long => 2
  | .object _ => 3
  | .array _ => 3
  | _ => 9
def jm_sn (a : Nat) : String := if a = 0 then "LEAST" else if a = 1 then "MOST" else "TOLD_VARS"
/-- an instruction's row holds: it is decoded there, and what it links is a word of the tables -/
def jm_ck (YN : List MethodName) (M : jm_M) (pc : Nat) (e : jm_I) : Bool :=
  (match decode (jm_b M) pc with
    | .ok q => decide (q.1 = e.1) && decide (q.2 = e.2.1)
    | .error _ => false) && (match e.1 with
    | .getfield i => if e.2.2.1 = 100 then (if e.2.2.2.1 = 0 then jm_at e.2.2.2.2 (.fieldLink (jm_y M).cls i "java/lang/String" "coder" "B") else jm_at e.2.2.2.2 (.fieldLink (jm_y M).cls i "java/lang/String" "value" "[B"))
      else (match vwCl[e.2.2.1]? with
        | some q => decide (e.2.2.2.1 < q.2.2) && jm_at e.2.2.2.2 (.fieldLink (jm_y M).cls i (q.2.1 e.2.2.2.1).1 (q.2.1 e.2.2.2.1).2.1 (q.2.1 e.2.2.2.1).2.2.1)
        | none => false)
    | .putfield i => (match vwCl[e.2.2.1]?, jm_tyt[e.2.2.1]? with
        | some q, some ty => decide (e.2.2.2.1 % 1000 < q.2.2) && decide (jm_tc (ty (e.2.2.2.1 % 1000)) = e.2.2.2.1 / 1000 % 10) && (if e.2.2.2.1 / 10000 = 0 then !(q.2.1 (e.2.2.2.1 % 1000)).2.2.2 else (q.2.1 (e.2.2.2.1 % 1000)).2.2.2 && decide ((jm_y M).name = "<init>") && decide ((q.2.1 (e.2.2.2.1 % 1000)).1 = (jm_y M).cls))
          && jm_at e.2.2.2.2 (.fieldLink (jm_y M).cls i (q.2.1 (e.2.2.2.1 % 1000)).1 (q.2.1 (e.2.2.2.1 % 1000)).2.1 (q.2.1 (e.2.2.2.1 % 1000)).2.2.1)
        | _, _ => false)
    | .getstatic i => if e.2.2.1 = 3 then jm_at e.2.2.2.2 (.fieldLink (jm_y M).cls i "java/lang/String" "COMPACT_STRINGS" "Z") else (if e.2.2.1 = 4 then jm_at e.2.2.2.2 (.fieldLink (jm_y M).cls i "jdk/internal/util/Preconditions" "SIOOBE_FORMATTER" "Ljava/util/function/BiFunction;") else jm_atn e.2.2.2.2 (.fieldLinkNest (jm_y M).cls i "FallMarket" (jm_sn e.2.2.1) "[I" "FallMarket"))
    | .new i => (match vwCl[e.2.2.1]? with
        | some q => jm_at e.2.2.2.2 (.classLink (jm_y M).cls i q.1)
        | none => false)
    | .ldc i => if e.2.2.2.1 = 0 then jm_at e.2.2.2.2 (.constant (jm_y M).cls i (Int32.ofNat e.2.2.1)) else decide ((jm_y M).cls = "FallMarket$Tokens") && decide (i = 25)
    | .ldc_w i => jm_at e.2.2.2.2 (.constant (jm_y M).cls i (Int32.ofNat e.2.2.1))
    | .ldc2_w i => jm_at e.2.2.2.2 (.constantLong (jm_y M).cls i (Int64.ofNat e.2.2.1))
    | .invokevirtual i => (match YN[e.2.2.1]? with
        | some y => (if e.2.2.2.1 = 1 then jm_atn e.2.2.2.2 (.methodLinkNest (jm_y M).cls i y "FallMarket") else jm_at e.2.2.2.2 (.methodLink (jm_y M).cls i y))
        | none => false)
    | .invokestatic i => if e.2.2.2.1 = 2 then jm_at e.2.2.2.2 (.methodLink (jm_y M).cls i arraycopyName) else (match YN[e.2.2.1]? with
        | some y => (if e.2.2.2.1 = 1 then jm_atn e.2.2.2.2 (.methodLinkNest (jm_y M).cls i y "FallMarket") else jm_at e.2.2.2.2 (.methodLink (jm_y M).cls i y))
        | none => false)
    | .invokespecial i => if e.2.2.2.1 = 2 then jm_at e.2.2.2.2 (.methodLink (jm_y M).cls i objectInit) else (match YN[e.2.2.1]? with
        | some y => (if e.2.2.2.1 = 1 then jm_atn e.2.2.2.2 (.methodLinkNest (jm_y M).cls i y "FallMarket") else jm_at e.2.2.2.2 (.methodLink (jm_y M).cls i y))
        | none => false)
    | _ => true)
theorem jm_ck_dec {YN : List MethodName} {M : jm_M} {pc : Nat} {e : jm_I} (h : jm_ck YN M pc e = true) : decode (jm_b M) pc = .ok (e.1, e.2.1) := by
  unfold jm_ck at h
  rw [Bool.and_eq_true] at h
  obtain ⟨h1, -⟩ := h
  split at h1
  · rename_i q hq
    rw [Bool.and_eq_true] at h1
    rw [hq, ← of_decide_eq_true h1.1, ← of_decide_eq_true h1.2]
  · cases h1
/-- a bound that is not met -/
def jm_out (i : Int32) (n : Nat) : Bool := decide (i < 0) || decide (n ≤ i.toNatClampNeg)
theorem jm_out_in {i : Int32} {n : Nat} (h : jm_out i n = false) : vp_in i n := by
  unfold jm_out at h
  rw [Bool.or_eq_false_iff] at h
  intro q
  rcases q with q | q
  · exact absurd q (of_decide_eq_false h.1)
  · exact absurd q (of_decide_eq_false h.2)
/-- a place of a list, and zeros up to it if it is shorter -/
def jm_upd : List Int32 → Nat → Int32 → List Int32
  | [], 0, x => [x]
  | [], k + 1, x => 0 :: jm_upd [] k x
  | _ :: r, 0, x => x :: r
  | a :: r, k + 1, x => a :: jm_upd r k x
def jm_updL : List Int64 → Nat → Int64 → List Int64
  | [], 0, x => [x]
  | [], k + 1, x => 0 :: jm_updL [] k x
  | _ :: r, 0, x => x :: r
  | a :: r, k + 1, x => a :: jm_updL r k x
theorem jm_upd_at : ∀ (f : List Int32) (k : Nat) (x : Int32) (j : Nat), (jm_upd f k x).getD j 0 = if j = k then x else f.getD j 0
  | [], 0, x, j => by cases j <;> simp [jm_upd]
  | [], k + 1, x, j => by
    cases j with
    | zero => simp [jm_upd]
    | succ j => have := jm_upd_at [] k x j; simp [jm_upd] at this ⊢; exact this
  | a :: r, 0, x, j => by cases j <;> simp [jm_upd]
  | a :: r, k + 1, x, j => by
    cases j with
    | zero => simp [jm_upd]
    | succ j => have := jm_upd_at r k x j; simp [jm_upd] at this ⊢; exact this
theorem jm_updL_at : ∀ (f : List Int64) (k : Nat) (x : Int64) (j : Nat), (jm_updL f k x).getD j 0 = if j = k then x else f.getD j 0
  | [], 0, x, j => by cases j <;> simp [jm_updL]
  | [], k + 1, x, j => by
    cases j with
    | zero => simp [jm_updL]
    | succ j => have := jm_updL_at [] k x j; simp [jm_updL] at this ⊢; exact this
  | a :: r, 0, x, j => by cases j <;> simp [jm_updL]
  | a :: r, k + 1, x, j => by
    cases j with
    | zero => simp [jm_updL]
    | succ j => have := jm_updL_at r k x j; simp [jm_updL] at this ⊢; exact this
theorem jm_upd_eq (f : List Int32) (k : Nat) (x : Int32) : upd (fun j => f.getD j 0) k x = fun j => (jm_upd f k x).getD j 0 := by
  funext j
  rw [jm_upd_at]
  rfl
theorem jm_updL_eq (f : List Int64) (k : Nat) (x : Int64) : vp_updL (fun j => f.getD j 0) k x = fun j => (jm_updL f k x).getD j 0 := by
  funext j
  rw [jm_updL_at]
  rfl
def jm_ak (t : ArrayType) : Nat := match t with
  | .int => 0
  | .byte => 1
  | .boolean => 2
  | .long => 3
  | _ => 9
def jm_a0 (kd n : Nat) : jm_c := .inl (kd, n, if kd = 3 then .inr [] else .inl [])
/-- a value that a field of a type may hold as it is -/
def jm_pv (tc : Nat) (v : Value) : Bool := match v with
  | .int x => decide (tc = 0) || (decide (tc = 1) && (decide (x = 0) || decide (x = 1)))
  | .long _ => decide (tc = 2)
  | .ref _ => decide (tc = 3)
  | _ => false
theorem jm_pv_ok {ty : FieldType} {v : Value} {h0 : Nat} {ex : Nat → Nat} (h : jm_pv (jm_tc ty) v = true) : narrow ty (jm_cv h0 ex v) = jm_cv h0 ex v ∧ fits ty (jm_cv h0 ex v) = true := by
  cases v with
  | int x =>
    simp only [jm_pv, Bool.or_eq_true, Bool.and_eq_true, decide_eq_true_eq] at h
    rcases h with h | ⟨h, rfl | rfl⟩
    · cases ty <;> simp [jm_tc] at h
      exact ⟨rfl, rfl⟩
    · cases ty <;> simp [jm_tc] at h
      exact ⟨rfl, rfl⟩
    · cases ty <;> simp [jm_tc] at h
      exact ⟨rfl, rfl⟩
  | long x =>
    simp only [jm_pv, decide_eq_true_eq] at h
    cases ty <;> simp [jm_tc] at h
    exact ⟨rfl, rfl⟩
  | ref x =>
    simp only [jm_pv, decide_eq_true_eq] at h
    unfold jm_cv
    dsimp only
    cases ty <;> simp [jm_tc] at h <;> split <;> exact ⟨rfl, rfl⟩
  | _ => simp [jm_pv] at h
/-- fields, statics, constants -/
def jm_d1 (e : jm_I) (pc : Nat) (L : List (Option Value)) (S : List Value) (G : jm_h) (q : Nat × Nat) : Option jm_St := match e.1 with
  | .getfield _ => if e.2.1 = 3 then (match S with
    | .ref a :: r => if e.2.2.1 = 100 then (if a = 4 then some (pc + 3, L, (if e.2.2.2.1 = 0 then .int 0 else .ref 5) :: r, G, q) else none) else (match jm_g G a with
      | some (.inr (ci, fs)) => if ci = e.2.2.1 then (match fs[e.2.2.2.1]? with
        | some v => some (pc + 3, L, v :: r, G, q)
        | none => none) else none
      | _ => none)
    | _ => none) else none
  | .putfield _ => if e.2.1 = 3 then (match S with
    | v :: .ref a :: r => (match jm_g G a with
      | some (.inr (ci, fs)) => if ci = e.2.2.1 ∧ e.2.2.2.1 % 1000 < fs.length ∧ jm_pv (e.2.2.2.1 / 1000 % 10) v = true then some (pc + 3, L, r, jm_s G a (.inr (ci, fs.set (e.2.2.2.1 % 1000) v)), q) else none
      | _ => none)
    | _ => none) else none
  | .getstatic _ => if e.2.1 = 3 then (if e.2.2.1 = 3 then some (pc + 3, L, .int 1 :: S, G, q) else if e.2.2.1 = 4 then some (pc + 3, L, .ref 6 :: S, G, q) else if e.2.2.1 < 3 then some (pc + 3, L, .ref (1 + e.2.2.1) :: S, G, q) else none) else none
  | .ldc _ => if e.2.1 = 2 then some (pc + 2, L, (if e.2.2.2.1 = 0 then .int (Int32.ofNat e.2.2.1) else .ref 4) :: S, G, q) else none
  | .ldc_w _ => if e.2.1 = 3 then some (pc + 3, L, .int (Int32.ofNat e.2.2.1) :: S, G, q) else none
  | .ldc2_w _ => if e.2.1 = 3 then some (pc + 3, L, .long (Int64.ofNat e.2.2.1) :: S, G, q) else none
  | _ => none
/-- arrays, and what is made -/
def jm_d2 (M : jm_M) (Ls : Nat) (xs : Nat → Int32) (bc bs : Nat) (e : jm_I) (pc : Nat) (L : List (Option Value)) (S : List Value) (G : jm_h) (q : Nat × Nat) : Option jm_St := match e.1 with
  | .iaload => if e.2.1 = 1 then (match S with
    | .int i :: .ref a :: r => if a < 8 then (match jm_ea Ls xs a with
        | some (kd, N, f) => if kd = 0 then (bif jm_out i N then none else some (pc + 1, L, .int (f i.toNatClampNeg) :: r, G, q)) else none
        | none => none)
      else (match jm_g G a with
        | some (.inl (kd, N, .inl f)) => if kd = 0 then (bif jm_out i N then none else some (pc + 1, L, .int (f.getD i.toNatClampNeg 0) :: r, G, q)) else none
        | _ => none)
    | _ => none) else none
  | .baload => if e.2.1 = 1 then (match S with
    | .int i :: .ref a :: r => if a < 8 then (match jm_ea Ls xs a with
        | some (kd, N, f) => if kd = 1 then (bif jm_out i N then none else some (pc + 1, L, .int (f i.toNatClampNeg) :: r, G, q)) else none
        | none => none)
      else (match jm_g G a with
        | some (.inl (kd, N, .inl f)) => if kd = 1 ∨ kd = 2 then (bif jm_out i N then none else some (pc + 1, L, .int (f.getD i.toNatClampNeg 0) :: r, G, q)) else none
        | _ => none)
    | _ => none) else none
  | .laload => if e.2.1 = 1 then (match S with
    | .int i :: .ref a :: r => (match jm_g G a with
        | some (.inl (kd, N, .inr f)) => if kd = 3 then (bif jm_out i N then none else some (pc + 1, L, .long (f.getD i.toNatClampNeg 0) :: r, G, q)) else none
        | _ => none)
    | _ => none) else none
  | .iastore => if e.2.1 = 1 then (match S with
    | .int x :: .int i :: .ref a :: r => (match jm_g G a with
        | some (.inl (kd, N, .inl f)) => if kd = 0 then (bif jm_out i N then none else some (pc + 1, L, r, jm_s G a (.inl (0, N, .inl (jm_upd f i.toNatClampNeg x))), q)) else none
        | _ => none)
    | _ => none) else none
  | .bastore => if e.2.1 = 1 then (match S with
    | .int x :: .int i :: .ref a :: r => (match jm_g G a with
        | some (.inl (kd, N, .inl f)) => if kd = 1 then (bif jm_out i N then none else some (pc + 1, L, r, jm_s G a (.inl (1, N, .inl (jm_upd f i.toNatClampNeg x.toInt8.toInt32))), q))
          else if kd = 2 then (bif jm_out i N then none else some (pc + 1, L, r, jm_s G a (.inl (2, N, .inl (jm_upd f i.toNatClampNeg (vp_nar .boolean x)))), q)) else none
        | _ => none)
    | _ => none) else none
  | .lastore => if e.2.1 = 1 then (match S with
    | .long x :: .int i :: .ref a :: r => (match jm_g G a with
        | some (.inl (kd, N, .inr f)) => if kd = 3 then (bif jm_out i N then none else some (pc + 1, L, r, jm_s G a (.inl (3, N, .inr (jm_updL f i.toNatClampNeg x))), q)) else none
        | _ => none)
    | _ => none) else none
  | .arraylength => if e.2.1 = 1 then (match S with
    | .ref a :: r => if a < 8 then (match jm_ea Ls xs a with
        | some (_, N, _) => some (pc + 1, L, .int (Int32.ofNat N) :: r, G, q)
        | none => none)
      else (match jm_g G a with
        | some (.inl (kd, N, _)) => if kd < 4 then some (pc + 1, L, .int (Int32.ofNat N) :: r, G, q) else none
        | _ => none)
    | _ => none) else none
  | .new _ => if e.2.1 = 3 then (match vwCl[e.2.2.1]? with
    | some d => if q.1 + 1 ≤ bc ∧ q.2 + d.2.2 ≤ bs then (match jm_new (if e.2.2.1 = 10 then 2 else 1) G (.inr (e.2.2.1, jm_df e.2.2.1)) with
        | some (k, G1) => some (pc + 3, L, .ref k :: S, G1, q.1 + 1, q.2 + d.2.2)
        | none => none) else none
    | none => none) else none
  | .newarray t => if e.2.1 = 2 then (match S with
    | .int n :: r => if jm_ak t < 4 ∧ ¬ n < 0 ∧ n.toNatClampNeg * 8 ≤ 536870912 ∧ q.1 + 1 ≤ bc ∧ q.2 + n.toNatClampNeg ≤ bs then (match jm_new (jm_sg M) G (jm_a0 (jm_ak t) n.toNatClampNeg) with
        | some (k, G1) => some (pc + 2, L, .ref k :: r, G1, q.1 + 1, q.2 + n.toNatClampNeg)
        | none => none) else none
    | _ => none) else none
  | _ => none
