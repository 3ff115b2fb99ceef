/-! ===== a run with symbols: numbers and arrays that are not known, told by a list of equations; branches by a list of bits; what was assumed is gathered ===== -/
abbrev sy_v : Type := Value ⊕ (Nat ⊕ Nat)
abbrev sy_a : Type := (List Int32 ⊕ List Int64) ⊕ (Nat ⊕ Nat)
abbrev sy_c : Type := (Nat × Nat × sy_a) ⊕ (Nat × List sy_v)
abbrev sy_g : Type := List sy_c ⊕ Unit
abbrev sy_h : Type := sy_g × sy_g
abbrev sy_d : Type := Value ⊕ (List Int32 ⊕ List Int64)
abbrev sy_e : Type := Nat × List sy_v × List sy_a
abbrev sy_p : Type := Nat × sy_v × sy_v
def sy_i (F : Nat → sy_d) (k : Nat) : Int32 := match F k with
  | .inl (.int x) => x
  | _ => 0
def sy_l (F : Nat → sy_d) (k : Nat) : Int64 := match F k with
  | .inl (.long x) => x
  | _ => 0
def sy_dv (F : Nat → sy_d) (x : sy_v) : Value := match x with
  | .inl v => v
  | .inr (.inl k) => .int (sy_i F k)
  | .inr (.inr k) => .long (sy_l F k)
def sy_ai (F : Nat → sy_d) (k : Nat) : List Int32 := match F k with
  | .inr (.inl x) => x
  | _ => []
def sy_al (F : Nat → sy_d) (k : Nat) : List Int64 := match F k with
  | .inr (.inr x) => x
  | _ => []
def sy_da (F : Nat → sy_d) (a : sy_a) : List Int32 ⊕ List Int64 := match a with
  | .inl l => l
  | .inr (.inl k) => .inl (sy_ai F k)
  | .inr (.inr k) => .inr (sy_al F k)
def sy_dc (F : Nat → sy_d) (c : sy_c) : jm_c := match c with
  | .inl (k, n, a) => .inl (k, n, sy_da F a)
  | .inr (ci, fs) => .inr (ci, fs.map (sy_dv F))
def sy_dg (F : Nat → sy_d) (X : List jm_c) (g : sy_g) : List jm_c := match g with
  | .inl l => l.map (sy_dc F)
  | .inr _ => X
def sy_dh (F : Nat → sy_d) (X1 X2 : List jm_c) (G : sy_h) : jm_h := (sy_dg F X1 G.1, sy_dg F X2 G.2)
def sy_ty (x : sy_v) : Nat := match x with
  | .inl (.int _) => 0
  | .inl (.long _) => 1
  | .inl (.ref _) => 2
  | .inl _ => 3
  | .inr (.inl _) => 0
  | .inr (.inr _) => 1
theorem sy_ty0 {F : Nat → sy_d} {x : sy_v} (h : sy_ty x = 0) : ∃ a, sy_dv F x = .int a := by
  unfold sy_ty at h
  split at h <;> first | exact ⟨_, rfl⟩ | (exfalso; omega)
theorem sy_ty1 {F : Nat → sy_d} {x : sy_v} (h : sy_ty x = 1) : ∃ a, sy_dv F x = .long a := by
  unfold sy_ty at h
  split at h <;> first | exact ⟨_, rfl⟩ | (exfalso; omega)
/-- numbers out of numbers -/
def sy_o2 (op : Nat) (v w : Value) : Value := match v, w with
  | .int x, .int y => if op = 0 then .int (x + y) else if op = 1 then .int (x - y) else if op = 2 then .int (x * y) else if op = 3 then .int (x &&& y) else if op = 4 then .int (x ||| y) else if op = 5 then .int (x ^^^ y)
    else if op = 6 then .int (x <<< (y &&& 31)) else if op = 7 then .int (x >>> (y &&& 31)) else if op = 8 then .int (x.toUInt32 >>> (y.toUInt32 &&& Int32.toUInt32 31)).toInt32 else if op = 9 then .int (x / y) else .int (x - x / y * y)
  | .long x, .long y => if op = 12 then .long (x + y) else if op = 13 then .long (x - y) else if op = 14 then .long (x * y) else if op = 15 then .long (x / y) else if op = 16 then .long (x - x / y * y) else .int (lg_cmp x y)
  | _, _ => .null
def sy_o1 (op : Nat) (v : Value) : Value := match v with
  | .int x => if op = 20 then .int (0 - x) else if op = 21 then .long x.toInt64 else if op = 22 then .int x.toInt8.toInt32 else if op = 23 then .int (x.toUInt32 % 65536).toInt32 else .int (vp_nar .boolean x)
  | .long x => .int x.toInt32
  | _ => .null
def sy_rd (l : List Int32 ⊕ List Int64) (v : Value) : Value := match l, v with
  | .inl l, .int i => .int (l.getD i.toNatClampNeg 0)
  | .inr l, .int i => .long (l.getD i.toNatClampNeg 0)
  | _, _ => .null
def sy_up (l : List Int32 ⊕ List Int64) (v w : Value) : List Int32 ⊕ List Int64 := match l, v, w with
  | .inl l, .int i, .int x => .inl (jm_upd l i.toNatClampNeg x)
  | .inr l, .int i, .long x => .inr (jm_updL l i.toNatClampNeg x)
  | l, _, _ => l
def sy_cp (f g : List Int32 ⊕ List Int64) (sp dp n : Value) : List Int32 ⊕ List Int64 := match f, g, sp, dp, n with
  | .inl f, .inl g, .int sp, .int dp, .int n => .inl (jm_cpy f g sp.toNatClampNeg dp.toNatClampNeg n.toNatClampNeg)
  | _, g, _, _, _ => g
def sy_sem (F : Nat → sy_d) (e : sy_e) : sy_d := match e.2.1, e.2.2 with
  | [x, y], [] => .inl (sy_o2 e.1 (sy_dv F x) (sy_dv F y))
  | [x], [] => .inl (sy_o1 e.1 (sy_dv F x))
  | [i], [a] => .inl (sy_rd (sy_da F a) (sy_dv F i))
  | [i, x], [a] => .inr (sy_up (sy_da F a) (sy_dv F i) (sy_dv F x))
  | [sp, dp, n], [f, g] => .inr (sy_cp (sy_da F f) (sy_da F g) (sy_dv F sp) (sy_dv F dp) (sy_dv F n))
  | _, _ => .inl .null
def sy_sat (F : Nat → sy_d) (nv : Nat) (T : List sy_e) : Prop := ∀ (k : Nat) (e : sy_e), T[k]? = some e → F (nv + k) = sy_sem F e
/-- what a branch, a bound assumes -/
def sy_ps (F : Nat → sy_d) (p : sy_p) : Prop := match sy_dv F p.2.1, sy_dv F p.2.2 with
  | .int a, .int b => if p.1 = 0 then a = b else if p.1 = 1 then ¬ a = b else if p.1 = 2 then a < b else if p.1 = 3 then ¬ a < b else if p.1 = 4 then a ≤ b else if p.1 = 5 then ¬ a ≤ b else (a = 0 ∨ a = 1)
  | .int a, .ref n => jm_out a n = false
  | .long a, .long b => if p.1 = 1 then ¬ a = b else False
  | _, _ => False
abbrev sy_x : Type := List sy_e × List sy_p × List Bool
theorem sy_sat_pre {F : Nat → sy_d} {nv : Nat} {T r : List sy_e} (h : sy_sat F nv (T ++ r)) : sy_sat F nv T := by
  intro k e hk
  exact h k e (by rw [List.getElem?_append_left (List.getElem?_eq_some_iff.mp hk).1]; exact hk)
theorem sy_sat_last {F : Nat → sy_d} {nv : Nat} {T r : List sy_e} {e : sy_e} (h : sy_sat F nv (T ++ [e] ++ r)) : F (nv + T.length) = sy_sem F e := by
  refine h T.length e ?_
  rw [List.append_assoc, List.getElem?_append_right (Nat.le_refl _)]
  simp
/-- a number out of two: computed, if both are known; else a new equation -/
def sy_a2 (nv op ty : Nat) (x y : sy_v) (T : List sy_e) : sy_v × List sy_e := match x, y with
  | .inl v, .inl w => (.inl (sy_o2 op v w), T)
  | _, _ => (if ty = 0 then .inr (.inl (nv + T.length)) else .inr (.inr (nv + T.length)), T ++ [(op, [x, y], [])])
def sy_a1 (nv op ty : Nat) (x : sy_v) (T : List sy_e) : sy_v × List sy_e := match x with
  | .inl v => (.inl (sy_o1 op v), T)
  | _ => (if ty = 0 then .inr (.inl (nv + T.length)) else .inr (.inr (nv + T.length)), T ++ [(op, [x], [])])
theorem sy_new {F : Nat → sy_d} {nv ty : Nat} {T r : List sy_e} {e : sy_e} {v : Value} (hs : sy_sat F nv (T ++ [e] ++ r)) (he : sy_sem F e = .inl v) (hv : (ty = 0 ∧ ∃ a, v = .int a) ∨ (ty ≠ 0 ∧ ∃ a, v = .long a)) : sy_dv F (if ty = 0 then .inr (.inl (nv + T.length)) else .inr (.inr (nv + T.length))) = v := by
  have h := sy_sat_last hs
  rw [he] at h
  rcases hv with ⟨h0, a, rfl⟩ | ⟨h0, a, rfl⟩
  · rw [if_pos h0]
    simp [sy_dv, sy_i, h]
  · rw [if_neg h0]
    simp [sy_dv, sy_l, h]
theorem sy_a2_ok {F : Nat → sy_d} {nv op ty : Nat} {x y z : sy_v} {T T1 r : List sy_e} (h : sy_a2 nv op ty x y T = (z, T1)) (hs : sy_sat F nv (T1 ++ r)) (hv : (ty = 0 ∧ ∃ a, sy_o2 op (sy_dv F x) (sy_dv F y) = .int a) ∨ (ty ≠ 0 ∧ ∃ a, sy_o2 op (sy_dv F x) (sy_dv F y) = .long a)) : sy_dv F z = sy_o2 op (sy_dv F x) (sy_dv F y) := by
  unfold sy_a2 at h
  split at h
  · cases h; rfl
  · cases h
    exact sy_new hs rfl hv
theorem sy_a1_ok {F : Nat → sy_d} {nv op ty : Nat} {x z : sy_v} {T T1 r : List sy_e} (h : sy_a1 nv op ty x T = (z, T1)) (hs : sy_sat F nv (T1 ++ r)) (hv : (ty = 0 ∧ ∃ a, sy_o1 op (sy_dv F x) = .int a) ∨ (ty ≠ 0 ∧ ∃ a, sy_o1 op (sy_dv F x) = .long a)) : sy_dv F z = sy_o1 op (sy_dv F x) := by
  unfold sy_a1 at h
  split at h
  · cases h; rfl
  · cases h
    exact sy_new hs rfl hv
theorem sy_a2_pre {nv op ty : Nat} {x y z : sy_v} {T T1 : List sy_e} (h : sy_a2 nv op ty x y T = (z, T1)) : ∃ r, T1 = T ++ r := by
  unfold sy_a2 at h
  split at h <;> cases h
  · exact ⟨[], (List.append_nil _).symm⟩
  · exact ⟨_, rfl⟩
theorem sy_a1_pre {nv op ty : Nat} {x z : sy_v} {T T1 : List sy_e} (h : sy_a1 nv op ty x T = (z, T1)) : ∃ r, T1 = T ++ r := by
  unfold sy_a1 at h
  split at h <;> cases h
  · exact ⟨[], (List.append_nil _).symm⟩
  · exact ⟨_, rfl⟩
