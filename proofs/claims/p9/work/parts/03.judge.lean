/-! ===== what stands fixed in a method's body, and the judgement over abstract states ===== -/
abbrev jm_I : Type := Instr × Nat × Nat × Nat × Nat
/-- a method: its name, bytes, locals, return type, its instructions (sixteen places a row), the kind of cells that it makes, how many arguments, its kind (0 static, 1 virtual, 2 <init>), its receiver's class -/
abbrev jm_M : Type := MethodName × ByteArray × Nat × Option FieldType × List (List (Option jm_I)) × Nat × Nat × Nat × Nat
def jm_y (M : jm_M) : MethodName := M.1
def jm_b (M : jm_M) : ByteArray := M.2.1
def jm_mx (M : jm_M) : Nat := M.2.2.1
def jm_rt (M : jm_M) : Option FieldType := M.2.2.2.1
def jm_tb (M : jm_M) : List (List (Option jm_I)) := M.2.2.2.2.1
def jm_sg (M : jm_M) : Nat := M.2.2.2.2.2.1
def jm_na (M : jm_M) : Nat := M.2.2.2.2.2.2.1
def jm_kd (M : jm_M) : Nat := M.2.2.2.2.2.2.2.1
def jm_rc (M : jm_M) : Nat := M.2.2.2.2.2.2.2.2
def jm_in (M : jm_M) (pc : Nat) : Option jm_I := (((jm_tb M)[pc / 16]?).bind fun r => (r[pc % 16]?).join)
abbrev jm_St : Type := Nat × List (Option Value) × List Value × jm_h × Nat × Nat
def jm_tys (ka : Nat → ClassId) : List (ClassId × FieldType) := [(ka 0, .int), (ka 1, .byte), (ka 2, .boolean), (ka 3, .long)]
def jm_x1 : List Int32 := [0, -9, 0, 0, -9, 0]
def jm_x2 : List Int32 := [9, 9, 100, 99, 9, 100]
def jm_x3 : List Int32 := [260, 383, 383, 407, 279, 300]
def jm_tx : String := "fruit buyer wind ripens falls worth bounces found fine keeps seed if then else ripe high hour blows across shaken propped lay left "
def jm_wb : List Int32 := [102, 114, 117, 105, 116, 32, 98, 117, 121, 101, 114, 32, 119, 105, 110, 100, 32, 114, 105, 112, 101, 110, 115, 32, 102, 97, 108, 108, 115, 32, 119, 111, 114, 116, 104, 32, 98, 111, 117, 110, 99, 101, 115, 32, 102, 111, 117, 110, 100, 32, 102, 105, 110, 101, 32, 107, 101, 101, 112, 115, 32, 115, 101, 101, 100, 32, 105, 102, 32, 116, 104, 101, 110, 32, 101, 108, 115, 101, 32, 114, 105, 112, 101, 32, 104, 105, 103, 104, 32, 104, 111, 117, 114, 32, 98, 108, 111, 119, 115, 32, 97, 99, 114, 111, 115, 115, 32, 115, 104, 97, 107, 101, 110, 32, 112, 114, 111, 112, 112, 101, 100, 32, 108, 97, 121, 32, 108, 101, 102, 116, 32]
/-- arrays that lay there before -/
def jm_ea (Ls : Nat) (xs : Nat → Int32) (k : Nat) : Option (Nat × Nat × (Nat → Int32)) :=
  if k = 0 then some (0, Ls, xs) else if k = 1 then some (0, 6, fun j => jm_x1.getD j 0) else if k = 2 then some (0, 6, fun j => jm_x2.getD j 0)
  else if k = 3 then some (0, 6, fun j => jm_x3.getD j 0) else if k = 5 then some (1, 131, fun j => jm_wb.getD j 0) else none
/-- words on private members of a nest mate -/
def jm_isN (w : Cond) : Bool := match w with
  | .methodLinkNest _ _ _ _ => true
  | .fieldLinkNest _ _ _ _ _ _ => true
  | _ => false
/-- what lay there before, of a state: the script, three static arrays, a text; a static that holds a reference or null -/
def jm_X (h0 : Nat) (ex : Nat → Nat) (Ls : Nat) (xs : Nat → Int32) (U : State) : Prop :=
  (va_X (ex 0) Ls xs U U.heap ∧ ex 0 < U.heap.size ∧ ¬ h0 ≤ ex 0) ∧
  (va_Z "FallMarket" "LEAST" "[I" (.ref (ex 1)) (fun q => h0 ≤ q) U U.heap ∧ va_T .int (ex 1) 6 (fun j => .int (jm_x1.getD j 0)) (fun q => h0 ≤ q) U U.heap) ∧
  (va_Z "FallMarket" "MOST" "[I" (.ref (ex 2)) (fun q => h0 ≤ q) U U.heap ∧ va_T .int (ex 2) 6 (fun j => .int (jm_x2.getD j 0)) (fun q => h0 ≤ q) U U.heap) ∧
  (va_Z "FallMarket" "TOLD_VARS" "[I" (.ref (ex 3)) (fun q => h0 ≤ q) U U.heap ∧ va_T .int (ex 3) 6 (fun j => .int (jm_x3.getD j 0)) (fun q => h0 ≤ q) U U.heap) ∧
  (va_Z "java/lang/String" "COMPACT_STRINGS" "Z" (.int 1) (fun q => h0 ≤ q) U U.heap) ∧
  (va_O "java/lang/String" (ex 4) (fun q => h0 ≤ q) U U.heap ∧ va_OF "java/lang/String" "coder" "B" (.int 0) (ex 4) (fun q => h0 ≤ q) U U.heap ∧ va_OF "java/lang/String" "value" "[B" (.ref (ex 5)) (ex 4) (fun q => h0 ≤ q) U U.heap ∧ va_T .byte (ex 5) 131 (fun j => .int (jm_wb.getD j 0)) (fun q => h0 ≤ q) U U.heap) ∧
  vk_R "FallMarket$Tokens" 25 jm_tx (ex 4) U ∧
  va_Z "jdk/internal/util/Preconditions" "SIOOBE_FORMATTER" "Ljava/util/function/BiFunction;" (if ex 7 = 0 then .null else .ref (ex 6)) (fun q => h0 ≤ q) U U.heap ∧
  ∀ w ∈ lw_tbl, jm_isN w = true → va_Nw w U
theorem jm_N_warm {s U : State} (hW : s.WarmedH U.vm) {w : Cond} (hn : jm_isN w = true) (h : va_Nw w s) : va_Nw w U := by
  unfold jm_isN at hn
  split at hn
  · exact va_Nw.warmM hW h
  · exact va_Nw.warmF hW h
  · cases hn
theorem jm_N_tab {w : Cond} (hn : jm_isN w = true) : w.onTables = true := by
  unfold jm_isN at hn
  split at hn
  · rfl
  · rfl
  · cases hn
theorem jm_X_to {h0 : Nat} {ex : Nat → Nat} {Ls : Nat} {xs : Nat → Int32} {s U : State} {H : Heap} {locs : List Loc} (h : jm_X h0 ex Ls xs s) (hS : va_S (fun q => h0 ≤ q) s.heap H locs) (hU : U.heap = H) (hW : s.WarmedH U.vm) : jm_X h0 ex Ls xs U := by
  obtain ⟨⟨a1, a2, a3⟩, ⟨b1, b2⟩, ⟨c1, c2⟩, ⟨d1, d2⟩, e1, ⟨f1, f2, f3, f4⟩, g1, i1, j1⟩ := h
  have hk := hS.2.1
  have hv := hW.alike
  subst hU
  exact ⟨⟨(a1.kept (hk _ a2 a3)).moved hv, Nat.lt_of_lt_of_le a2 hS.1, a3⟩, ⟨(b1.kept hk).moved hv, (b2.kept hk).moved hv⟩, ⟨(c1.kept hk).moved hv, (c2.kept hk).moved hv⟩, ⟨(d1.kept hk).moved hv, (d2.kept hk).moved hv⟩, (e1.kept hk).moved hv, ⟨(f1.kept hk).moved hv, (f2.kept hk).moved hv, (f3.kept hk).moved hv, (f4.kept hk).moved hv⟩, g1.warm hW, (i1.kept hk).moved hv, fun w hw hn => jm_N_warm hW hn (j1 w hw hn)⟩
theorem jm_X_call {h0 : Nat} {ex : Nat → Nat} {Ls : Nat} {xs : Nat → Int32} {U : State} {g : JFrame} {mk : MethodId} {a : Array Value} (h : jm_X h0 ex Ls xs U) : jm_X h0 ex Ls xs (U.calling g mk a) := by
  obtain ⟨⟨a1, a2, a3⟩, ⟨b1, b2⟩, ⟨c1, c2⟩, ⟨d1, d2⟩, e1, ⟨f1, f2, f3, f4⟩, g1, i1, j1⟩ := h
  have hv : U.vm.Alike (U.calling g mk a).vm := Vm.Alike.refl U.vm
  exact ⟨⟨a1.moved hv, a2, a3⟩, ⟨b1.moved hv, b2.moved hv⟩, ⟨c1.moved hv, c2.moved hv⟩, ⟨d1.moved hv, d2.moved hv⟩, e1.moved hv, ⟨f1.moved hv, f2.moved hv, f3.moved hv, f4.moved hv⟩, g1.same rfl, i1.moved hv, fun w hw hn => va_Nw.same (u := U) (jm_N_tab hn) rfl (j1 w hw hn)⟩
/-- the body of a method: what holds at its entry and stays -/
def jm_C (p : Program) (s : State) (m : MethodId) (args : Array Value) (meth : Method) (c : Code) (D : va_G) (h0 : Nat) (ex : Nat → Nat) (ka : Nat → ClassId) (Ls : Nat) (xs : Nat → Int32) (M : jm_M) (n0 : Nat) : Prop :=
  p.tables.exec = Jvm.exec ∧ c.code = jm_b M ∧ c.maxLocals = jm_mx M ∧ s.vm.findClass (jm_y M).cls = some m.cls ∧ (∀ w ∈ jm_tbl, w.before args s = true) ∧ meth.sig.returnType = jm_rt M ∧ meth.locks = false ∧ meth.name = (jm_y M).name ∧ va_K D vwCl (jm_tys ka) s ∧ s.heap.size = h0 + n0 ∧ jm_X h0 ex Ls xs s
def jm_W (p : Program) (l : Launch) (e : Env) (R : Room) (s : State) (m : MethodId) (args : Array Value) (below : List Frame) (meth : Method) (c : Code) (D : va_G) (h0 : Nat) (ex : Nat → Nat) (ka : Nat → ClassId) (M : jm_M) (n0 : Nat) (Q : State → Prop) (st : jm_St) : Prop :=
  jm_len st.2.2.2.1 = n0 + st.2.2.2.2.1 → ∀ (H : Heap) (locs : List Loc) (ls : Array Slot), jm_R D h0 ex ka st.2.2.2.1 H → va_S (fun q => h0 ≤ q) s.heap H locs → jm_L h0 ex ls (jm_mx M) st.2.1 →
    W p l e R s m args below meth c H locs st.2.2.2.2.1 st.2.2.2.2.2 Q (F0 m st.1 ls (st.2.2.1.map (jm_cv h0 ex)))
