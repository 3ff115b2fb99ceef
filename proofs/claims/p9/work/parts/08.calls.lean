/-! ===== methods, their rows checked; contracts; calls and returns ===== -/
def jm_ock (YN : List MethodName) (M : jm_M) (pc : Nat) (o : Option jm_I) : Bool := match o with
  | none => true
  | some e => jm_ck YN M pc e
def jm_rck (YN : List MethodName) (M : jm_M) : Nat → List (Option jm_I) → Bool
  | _, [] => true
  | pc, o :: r => jm_ock YN M pc o && jm_rck YN M (pc + 1) r
def jm_tck (YN : List MethodName) (M : jm_M) : Nat → List (List (Option jm_I)) → Bool
  | _, [] => true
  | b, r :: t => jm_rck YN M b r && jm_tck YN M (b + 16) t
theorem jm_rck_at {YN : List MethodName} {M : jm_M} : ∀ {r : List (Option jm_I)} {b j : Nat} {e : jm_I}, jm_rck YN M b r = true → r[j]? = some (some e) → jm_ck YN M (b + j) e = true
  | [], b, j, e, _, h => by simp at h
  | o :: r, b, j, e, hc, h => by
    rw [jm_rck, Bool.and_eq_true] at hc
    cases j with
    | zero =>
      simp at h
      subst h
      exact hc.1
    | succ j =>
      have := jm_rck_at hc.2 (j := j) (e := e) (by simpa using h)
      rwa [show b + 1 + j = b + (j + 1) by omega] at this
theorem jm_tck_at {YN : List MethodName} {M : jm_M} : ∀ {t : List (List (Option jm_I))} {b i : Nat} {r : List (Option jm_I)}, jm_tck YN M b t = true → t[i]? = some r → jm_rck YN M (b + 16 * i) r = true
  | [], b, i, r, _, h => by simp at h
  | q :: t, b, i, r, hc, h => by
    rw [jm_tck, Bool.and_eq_true] at hc
    cases i with
    | zero =>
      simp at h
      subst h
      exact hc.1
    | succ i =>
      have := jm_tck_at hc.2 (i := i) (r := r) (by simpa using h)
      rwa [show b + 16 + 16 * i = b + 16 * (i + 1) by omega] at this
theorem jm_in_ck {YN : List MethodName} {M : jm_M} {pc : Nat} {e : jm_I} (hc : jm_tck YN M 0 (jm_tb M) = true) (h : jm_in M pc = some e) : jm_ck YN M pc e = true := by
  unfold jm_in at h
  cases hq : (jm_tb M)[pc / 16]? with
  | none => rw [hq] at h; cases h
  | some r =>
    rw [hq] at h
    have h1 : r[pc % 16]? = some (some e) := by
      cases hz : r[pc % 16]? with
      | none => simp [hz] at h
      | some o => simp [hz] at h; rw [h]
    have := jm_rck_at (jm_tck_at hc hq) h1
    rwa [show 0 + 16 * (pc / 16) + pc % 16 = pc by omega] at this
/-- all that is asked of a method's row -/
def jm_ok (YN : List MethodName) (M : jm_M) : Prop :=
  Cond.code (jm_y M) (jm_b M) (jm_mx M) (jm_rt M) ∈ jm_tbl ∧ Cond.initialized (jm_y M).cls ∈ jm_tbl ∧ plainFor (jm_y M) = true ∧
  ((jm_y M).cls ≠ "java/lang/invoke/MethodHandle" ∧ (jm_y M).cls ≠ "java/lang/invoke/VarHandle") ∧ (parseMethodDescriptor (jm_y M).desc).map (fun d => d.parameters.length) = some (jm_na M) ∧ jm_mx M ≤ 45 ∧
  (jm_kd M = 0 → Cond.static (jm_y M) ∈ jm_tbl) ∧
  (jm_kd M = 1 → Cond.instanceMethod (jm_y M) ∈ jm_tbl ∧ Cond.selects (jm_y M).cls (jm_y M) (jm_y M) ∈ jm_tbl ∧ ((jm_rc M = 100 ∧ (jm_y M).cls = "java/lang/String") ∨ (vwCl[jm_rc M]?).map (fun q => q.1) = some (jm_y M).cls)) ∧
  (jm_kd M = 2 → Cond.instanceMethod (jm_y M) ∈ jm_tbl ∧ (jm_y M).name = "<init>" ∧ jm_rt M = none) ∧
  jm_tck YN M 0 (jm_tb M) = true
def jm_room (d mc ms : Nat) : Room := { frames := d, cells := mc, slots := ms, locals := 64 * d }
def jm_Pc (D : va_G) (h0 : Nat) (ex : Nat → Nat) (ka : Nat → ClassId) (Ls : Nat) (xs : Nat → Int32) (As : List Value) (G : jm_h) : Array Value → State → Prop := fun v U =>
  v = (As.map (jm_cv h0 ex)).toArray ∧ U.heap.size = h0 + jm_len G ∧ jm_R D h0 ex ka G U.heap ∧ va_K D vwCl (jm_tys ka) U ∧ jm_X h0 ex Ls xs U
def jm_Qc (D : va_G) (h0 : Nat) (ex : Nat → Nat) (ka : Nat → ClassId) (mc : Nat) (G : jm_h) (Post : Option Value → jm_h → Prop) : Array Value → State → Outcome → State → Prop := fun _ st o t =>
  (∃ (v : Option Value) (G1 : jm_h), Post v G1 ∧ jm_len G1 = jm_len G + mc ∧ o = .returned (v.map (jm_cv h0 ex)) ∧ jm_R D h0 ex ka G1 t.heap) ∧ va_F (fun q => h0 ≤ q) st t
/-- A CONTRACT: from the cells G and the arguments As the method returns, with an answer and cells that Post says; d frames are enough; mc cells of ms slots are made -/
def jm_T (Ls : Nat) (xs : Nat → Int32) (d : Nat) (M : jm_M) (As : List Value) (G : jm_h) (mc ms : Nat) (Post : Option Value → jm_h → Prop) : Prop :=
  ∀ (l : Launch) (D : va_G) (h0 : Nat) (ex : Nat → Nat) (ka : Nat → ClassId), Met l (jm_y M) (Cond.code (jm_y M) (jm_b M) (jm_mx M) (jm_rt M) :: jm_tbl) (jm_room d mc ms) (jm_Pc D h0 ex ka Ls xs As G) (jm_Qc D h0 ex ka mc G Post) mc ms (fun q => h0 ≤ q)
def jm_e1 : List Value → List (Option Value)
  | [] => []
  | v :: r => if v.category = 2 then some v :: none :: jm_e1 r else some v :: jm_e1 r
def jm_ent (mx : Nat) (As : List Value) : List (Option Value) := jm_e1 As ++ List.replicate (mx - (jm_e1 As).length) none
theorem jm_lv_none {h0 : Nat} {ex : Nat → Nat} : ∀ (n i : Nat), jm_lv h0 ex i (List.replicate n none) = []
  | 0, _ => rfl
  | n + 1, i => by rw [List.replicate_succ, jm_lv]; exact jm_lv_none n (i + 1)
theorem jm_e1_lv {h0 : Nat} {ex : Nat → Nat} : ∀ (As : List Value) (n i : Nat), jm_lv h0 ex i (jm_e1 As ++ List.replicate n none) = lv_args i (As.map (jm_cv h0 ex))
  | [], n, i => jm_lv_none n i
  | v :: r, n, i => by
    rw [jm_e1, List.map_cons, lv_args, jm_cv_cat]
    by_cases h : v.category = 2
    · rw [if_pos h, if_pos h]
      show (i, jm_cv h0 ex v) :: jm_lv h0 ex (i + 1 + 1) (jm_e1 r ++ List.replicate n none) = _
      rw [jm_e1_lv r n]
    · rw [if_neg h, if_neg h]
      show (i, jm_cv h0 ex v) :: jm_lv h0 ex (i + 1) (jm_e1 r ++ List.replicate n none) = _
      rw [jm_e1_lv r n]
theorem jm_e1_len {h0 : Nat} {ex : Nat → Nat} : ∀ As : List Value, (lg_sl (As.map (jm_cv h0 ex))).length = (jm_e1 As).length
  | [] => rfl
  | v :: r => by
    have ih := jm_e1_len (h0 := h0) (ex := ex) r
    simp only [lg_sl, List.map_cons, List.flatMap_cons, jm_cv_cat, jm_e1] at ih ⊢
    by_cases h : v.category = 2
    · simp [h] at ih ⊢
      exact ih
    · simp [h] at ih ⊢
      exact ih
theorem jm_entry {m : MethodId} {mx : Nat} {h0 : Nat} {ex : Nat → Nat} (As : List Value) (h : (jm_e1 As).length ≤ mx) : ∃ ls : Array Slot, entryFrame m (As.map (jm_cv h0 ex)).toArray mx = F0 m 0 ls [] ∧ jm_L h0 ex ls mx (jm_ent mx As) := by
  refine ⟨_, lg_entry_eq m (As.map (jm_cv h0 ex)) mx, ?_⟩
  have h1 := lv_entry (As.map (jm_cv h0 ex)) (n := mx) (by rw [jm_e1_len]; exact h)
  unfold jm_L jm_ent
  rw [jm_e1_lv]
  exact h1
theorem jm_ofW {l : Launch} {y : MethodName} {ws ws' : List Cond} {rm : Room} {Pc : Array Value → State → Prop} {Qc : Array Value → State → Outcome → State → Prop} {mc ms : Nat} {free : Addr → Prop} {cc : ByteArray} {maxL : Nat} {ret : Option FieldType}
    (hy : plainFor y = true) (hw : ws = Cond.code y cc maxL ret :: ws')
    (body : ∀ p e s m args below meth c s₁, BodyLoose p l y (headSpec ws rm) cc maxL ret e s m args below meth c s₁ → c.maxLocals = maxL → Pc args s →
      W p l e (headSpec ws rm).room s m args below meth c s.heap [] 0 0 (MQ below Qc args s mc ms free) (entryFrame m args maxL)) : Met l y ws rm Pc Qc mc ms free := by
  refine MetFree.of_bodySF (code := cc) (maxLocals := maxL) (ret := ret) hy ?_ ?_
  · intro args s m h hn
    obtain ⟨meth, c, h1, h2, h3, h4, h5, h6, -, -⟩ := Cond.code_spec hn (atoms_spec (ws := ws) h _ (by rw [hw]; exact List.mem_cons_self))
    exact ⟨meth, c, h1, h2, h3, h4, h5, h6⟩
  · intro p e s m args below meth c s₁ B hml hP _
    obtain ⟨t, st, o, r1, r2, r3⟩ := body p e s m args below meth c s₁ B hml hP s₁ (by rw [B.state]; rfl) (Stand.of_body B)
    exact ⟨t, o, st, r1, r2, r3⟩
section JM8
variable {p : Program} {l : Launch} {e : Env} {R : Room} {s : State} {m : MethodId} {args : Array Value} {below : List Frame} {meth : Method} {c : Code} {D : va_G} {h0 : Nat} {ex : Nat → Nat} {ka : Nat → ClassId} {Ls : Nat} {xs : Nat → Int32} {M : jm_M} {n0 : Nat} {Q : State → Prop} {i : jm_I} {pc : Nat} {L : List (Option Value)} {S : List Value} {G : jm_h} {cn sn : Nat} {st : jm_St} {YN : List MethodName}
set_option maxHeartbeats 4000000 in
theorem jm_T_intro {d mc ms : Nat} {As : List Value} {Post : Option Value → jm_h → Prop} (hok : jm_ok YN M) (hAs : (jm_e1 As).length ≤ jm_mx M)
    (body : ∀ (p : Program) (l : Launch) (e : Env) (s : State) (m : MethodId) (args : Array Value) (below : List Frame) (meth : Method) (c : Code) (D : va_G) (h0 : Nat) (ex : Nat → Nat) (ka : Nat → ClassId), jm_C p s m args meth c D h0 ex ka Ls xs M (jm_len G) →
      jm_W p l e (jm_room d mc ms) s m args below meth c D h0 ex ka M (jm_len G) (MQ below (jm_Qc D h0 ex ka mc G Post) args s mc ms (fun q => h0 ≤ q)) (0, jm_ent (jm_mx M) As, [], G, 0, 0)) : jm_T Ls xs d M As G mc ms Post := by
  intro l D h0 ex ka
  refine jm_ofW (cc := jm_b M) (maxL := jm_mx M) (ret := jm_rt M) hok.2.2.1 rfl ?_
  intro p e s m args below meth c s₁ B hml hv
  obtain ⟨rfl, hsz, hR, hK, hX⟩ := hv
  have hts := atoms_spec (ws := Cond.code (jm_y M) (jm_b M) (jm_mx M) (jm_rt M) :: jm_tbl) B.pre
  obtain ⟨ls, he, hl⟩ := jm_entry (m := m) (h0 := h0) (ex := ex) As hAs
  rw [he]
  exact body p l e s m _ below meth c D h0 ex ka ⟨B.exec, B.bytes, hml, findClass_of_methodNamed B.named, fun w hw => hts w (List.mem_cons_of_mem _ hw), B.returns, B.notSynchronized, (name_of_methodNamed B.named B.method).1, hK, hsz, hX⟩ rfl s.heap [] ls hR va_S.rf hl
/-- what a method answers, if it returns here -/
def jm_rf (M : jm_M) (e : jm_I) (S : List Value) : Option (Option Value) := if e.2.1 = 1 then (match e.1, S with
  | .ireturn, [.int v] => (match jm_rt M with
    | some .int => some (some (.int v))
    | some ty => if narrow ty (.int v) = .int v then some (some (.int v)) else none
    | none => none)
  | .lreturn, [.long v] => (match jm_rt M with
    | some .long => some (some (.long v))
    | _ => none)
  | .return_, [] => (match jm_rt M with
    | none => some none
    | _ => none)
  | _, _ => none) else none
set_option maxHeartbeats 4000000 in
theorem jm_ret_ok {mc ms : Nat} {G0 : jm_h} {Post : Option Value → jm_h → Prop} {v : Option Value} (C0 : jm_C p s m args meth c D h0 ex ka Ls xs M (jm_len G0)) (hc : jm_ck YN M pc i = true) (h : jm_rf M i S = some v) (hcn : cn = mc) (hsn : sn ≤ ms) (hP : Post v G) :
    jm_W p l e R s m args below meth c D h0 ex ka M (jm_len G0) (MQ below (jm_Qc D h0 ex ka mc G0 Post) args s mc ms (fun q => h0 ≤ q)) (pc, L, S, G, cn, sn) := by
  have hd := jm_ck_dec hc
  obtain ⟨hx, hb, hml, hown, hts, hrt, hlk, hnm, hK, hz, hX⟩ := C0
  obtain ⟨ins, n, la, lb, po⟩ := i
  intro hlen H locs ls hR hS hl
  change jm_len G = jm_len G0 + cn at hlen
  change jm_R D h0 ex ka G H at hR
  subst hcn
  refine W.widen (k := cn) (n := ms) (Nat.le_refl _) hsn ?_
  unfold jm_rf at h
  dsimp only at hd h
  split at h
  · rename_i hn
    subst hn
    split at h
    · split at h
      · rename_i hr
        cases h
        exact W.iret hx hb (hrt.trans hr) (fun t ht hW => ⟨⟨_, G, hP, hlen, rfl, by rw [ht]; exact hR⟩, hS.F ht⟩) hS.2.2 hd
      · rename_i ty hr
        split at h
        · rename_i hnar
          cases h
          exact W.zret hx hb (hrt.trans hr) hnar (fun t ht hW => ⟨⟨_, G, hP, hlen, rfl, by rw [ht]; exact hR⟩, hS.F ht⟩) hS.2.2 hd
        · cases h
      · cases h
    · split at h
      · rename_i hr
        cases h
        exact W.lret hx hb (hrt.trans hr) (fun t ht hW => ⟨⟨_, G, hP, hlen, rfl, by rw [ht]; exact hR⟩, hS.F ht⟩) hS.2.2 hd
      · cases h
    · split at h
      · rename_i hr
        cases h
        exact W.vret hx hb (hrt.trans hr) (fun t ht hW => ⟨⟨_, G, hP, hlen, rfl, by rw [ht]; exact hR⟩, hS.F ht⟩) hS.2.2 hd
      · cases h
    · cases h
  · cases h
end JM8
