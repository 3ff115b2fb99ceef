/-! ===== constants, local variables, the stack, arithmetic, branches: the step, and that it is followed ===== -/
def jm_a1 (ins : Instr) (n pc : Nat) (L : List (Option Value)) (S : List Value) (G : jm_h) (q : Nat × Nat) : Option jm_St := match ins with
  | .iconst k => if n = 1 then some (pc + 1, L, .int (Int32.ofInt k) :: S, G, q) else none
  | .bipush k => if n = 2 then some (pc + 2, L, .int (Int8.ofInt k).toInt32 :: S, G, q) else none
  | .sipush k => if n = 3 then some (pc + 3, L, .int (Int16.ofInt k).toInt32 :: S, G, q) else none
  | .lconst k => if n = 1 then some (pc + 1, L, .long (Int64.ofNat (k : Nat)) :: S, G, q) else none
  | .iload_n k => if n = 1 then (match jm_ld L (k : Nat) with
    | some (.int x) => some (pc + 1, L, .int x :: S, G, q)
    | _ => none) else none
  | .iload k => if n = 2 then (match jm_ld L k with
    | some (.int x) => some (pc + 2, L, .int x :: S, G, q)
    | _ => none) else none
  | .lload_n k => if n = 1 then (match jm_ld L (k : Nat) with
    | some (.long x) => some (pc + 1, L, .long x :: S, G, q)
    | _ => none) else none
  | .lload k => if n = 2 then (match jm_ld L k with
    | some (.long x) => some (pc + 2, L, .long x :: S, G, q)
    | _ => none) else none
  | .aload_n k => if n = 1 then (match jm_ld L (k : Nat) with
    | some (.ref x) => if x = 6 then none else some (pc + 1, L, .ref x :: S, G, q)
    | _ => none) else none
  | .aload k => if n = 2 then (match jm_ld L k with
    | some (.ref x) => if x = 6 then none else some (pc + 2, L, .ref x :: S, G, q)
    | _ => none) else none
  | _ => none
def jm_a2 (mx : Nat) (ins : Instr) (n pc : Nat) (L : List (Option Value)) (S : List Value) (G : jm_h) (q : Nat × Nat) : Option jm_St := match ins with
  | .istore_n k => if n = 1 ∧ (k : Nat) < mx then (match S with
    | .int x :: r => some (pc + 1, jm_st1 L (k : Nat) (.int x), r, G, q)
    | _ => none) else none
  | .istore k => if n = 2 ∧ k < mx then (match S with
    | .int x :: r => some (pc + 2, jm_st1 L k (.int x), r, G, q)
    | _ => none) else none
  | .lstore_n k => if n = 1 ∧ (k : Nat) + 1 < mx then (match S with
    | .long x :: r => some (pc + 1, jm_st2 L (k : Nat) (.long x), r, G, q)
    | _ => none) else none
  | .lstore k => if n = 2 ∧ k + 1 < mx then (match S with
    | .long x :: r => some (pc + 2, jm_st2 L k (.long x), r, G, q)
    | _ => none) else none
  | .astore_n k => if n = 1 ∧ (k : Nat) < mx then (match S with
    | .ref x :: r => if x = 6 then none else some (pc + 1, jm_st1 L (k : Nat) (.ref x), r, G, q)
    | _ => none) else none
  | .astore k => if n = 2 ∧ k < mx then (match S with
    | .ref x :: r => if x = 6 then none else some (pc + 2, jm_st1 L k (.ref x), r, G, q)
    | _ => none) else none
  | .iinc k d => if n = 3 ∧ k < mx then (match jm_ld L k with
    | some (.int x) => some (pc + 3, jm_st1 L k (.int (x + Int32.ofInt d)), S, G, q)
    | _ => none) else none
  | .dup => if n = 1 then (match S with
    | .int x :: r => some (pc + 1, L, .int x :: .int x :: r, G, q)
    | .ref x :: r => some (pc + 1, L, .ref x :: .ref x :: r, G, q)
    | _ => none) else none
  | .pop => if n = 1 then (match S with
    | .int x :: r => some (pc + 1, L, r, G, q)
    | .ref x :: r => some (pc + 1, L, r, G, q)
    | _ => none) else none
  | .dup2 => if n = 1 then (match S with
    | .int x :: .ref y :: r => some (pc + 1, L, .int x :: .ref y :: .int x :: .ref y :: r, G, q)
    | _ => none) else none
  | _ => none
def jm_b1 (ins : Instr) (n pc : Nat) (L : List (Option Value)) (S : List Value) (G : jm_h) (q : Nat × Nat) : Option jm_St := if n = 1 then (match ins with
  | .iadd => (match S with
    | .int y :: .int x :: r => some (pc + 1, L, .int (x + y) :: r, G, q)
    | _ => none)
  | .isub => (match S with
    | .int y :: .int x :: r => some (pc + 1, L, .int (x - y) :: r, G, q)
    | _ => none)
  | .imul => (match S with
    | .int y :: .int x :: r => some (pc + 1, L, .int (x * y) :: r, G, q)
    | _ => none)
  | .iand => (match S with
    | .int y :: .int x :: r => some (pc + 1, L, .int (x &&& y) :: r, G, q)
    | _ => none)
  | .ior => (match S with
    | .int y :: .int x :: r => some (pc + 1, L, .int (x ||| y) :: r, G, q)
    | _ => none)
  | .ixor => (match S with
    | .int y :: .int x :: r => some (pc + 1, L, .int (x ^^^ y) :: r, G, q)
    | _ => none)
  | .ishl => (match S with
    | .int y :: .int x :: r => some (pc + 1, L, .int (x <<< (y &&& 31)) :: r, G, q)
    | _ => none)
  | .ishr => (match S with
    | .int y :: .int x :: r => some (pc + 1, L, .int (x >>> (y &&& 31)) :: r, G, q)
    | _ => none)
  | .iushr => (match S with
    | .int y :: .int x :: r => some (pc + 1, L, .int ((x.toUInt32 >>> (y.toUInt32 &&& Int32.toUInt32 31)).toInt32) :: r, G, q)
    | _ => none)
  | .idiv => (match S with
    | .int y :: .int x :: r => if y = 0 then none else some (pc + 1, L, .int (x / y) :: r, G, q)
    | _ => none)
  | .irem => (match S with
    | .int y :: .int x :: r => if y = 0 then none else some (pc + 1, L, .int (x - x / y * y) :: r, G, q)
    | _ => none)
  | .ineg => (match S with
    | .int x :: r => some (pc + 1, L, .int (0 - x) :: r, G, q)
    | _ => none)
  | _ => none) else none
def jm_b2 (ins : Instr) (n pc : Nat) (L : List (Option Value)) (S : List Value) (G : jm_h) (q : Nat × Nat) : Option jm_St := if n = 1 then (match ins with
  | .ladd => (match S with
    | .long y :: .long x :: r => some (pc + 1, L, .long (x + y) :: r, G, q)
    | _ => none)
  | .lsub => (match S with
    | .long y :: .long x :: r => some (pc + 1, L, .long (x - y) :: r, G, q)
    | _ => none)
  | .lmul => (match S with
    | .long y :: .long x :: r => some (pc + 1, L, .long (x * y) :: r, G, q)
    | _ => none)
  | .ldiv => (match S with
    | .long y :: .long x :: r => if y = 0 then none else some (pc + 1, L, .long (x / y) :: r, G, q)
    | _ => none)
  | .lrem => (match S with
    | .long y :: .long x :: r => if y = 0 then none else some (pc + 1, L, .long (x - x / y * y) :: r, G, q)
    | _ => none)
  | .lcmp => (match S with
    | .long y :: .long x :: r => some (pc + 1, L, .int (lg_cmp x y) :: r, G, q)
    | _ => none)
  | .i2l => (match S with
    | .int x :: r => some (pc + 1, L, .long x.toInt64 :: r, G, q)
    | _ => none)
  | .l2i => (match S with
    | .long x :: r => some (pc + 1, L, .int x.toInt32 :: r, G, q)
    | _ => none)
  | .i2b => (match S with
    | .int x :: r => some (pc + 1, L, .int x.toInt8.toInt32 :: r, G, q)
    | _ => none)
  | .i2c => (match S with
    | .int x :: r => some (pc + 1, L, .int (x.toUInt32 % 65536).toInt32 :: r, G, q)
    | _ => none)
  | _ => none) else none
def jm_tg (pc : Nat) (off : Int) : Option Nat := if 0 ≤ (pc : Int) + off then some ((pc : Int) + off).toNat else none
theorem jm_tg_ok {pc t : Nat} {off : Int} (h : jm_tg pc off = some t) : (pc : Int) + off = (t : Int) := by
  unfold jm_tg at h
  split at h
  · cases h; omega
  · cases h
def jm_c1 (ins : Instr) (n pc : Nat) (L : List (Option Value)) (S : List Value) (G : jm_h) (q : Nat × Nat) : Option jm_St := match ins with
  | .ifCond k off => if n = 3 then (match S, jm_tg pc off with
    | .int x :: r, some t => (match k with
      | .eq => some (if x = 0 then t else pc + 3, L, r, G, q)
      | .ne => some (if x = 0 then pc + 3 else t, L, r, G, q)
      | .lt => some (if x < 0 then t else pc + 3, L, r, G, q)
      | .ge => some (if 0 ≤ x then t else pc + 3, L, r, G, q)
      | .gt => some (if 0 < x then t else pc + 3, L, r, G, q)
      | .le => some (if x ≤ 0 then t else pc + 3, L, r, G, q))
    | _, _ => none) else none
  | .if_icmp k off => if n = 3 then (match S, jm_tg pc off with
    | .int y :: .int x :: r, some t => (match k with
      | .eq => some (if x = y then t else pc + 3, L, r, G, q)
      | .ne => some (if x = y then pc + 3 else t, L, r, G, q)
      | .lt => some (if x < y then t else pc + 3, L, r, G, q)
      | .ge => some (if y ≤ x then t else pc + 3, L, r, G, q)
      | .gt => some (if y < x then t else pc + 3, L, r, G, q)
      | .le => some (if x ≤ y then t else pc + 3, L, r, G, q))
    | _, _ => none) else none
  | .goto off => if n = 3 then (match jm_tg pc off with
    | some t => some (t, L, S, G, q)
    | none => none) else none
  | .tableswitch dflt lo hi offs => (match S with
    | .int x :: r => if x.toInt < lo ∨ hi < x.toInt then (match jm_tg pc dflt with
        | some t => some (t, L, r, G, q)
        | none => none)
      else (match offs[(x.toInt - lo).toNat]? with
        | some off => (match jm_tg pc off with
          | some t => some (t, L, r, G, q)
          | none => none)
        | none => none)
    | _ => none)
  | _ => none
theorem jm_ld_at {L : List (Option Value)} {i : Nat} {v : Value} (hi : jm_ld L i = some v) : L[i]? = some (some v) := by
  unfold jm_ld at hi
  cases hq : L[i]? with
  | none => rw [hq] at hi; cases hi
  | some o => rw [hq] at hi; simp at hi; rw [hi]
section JM4
variable {p : Program} {l : Launch} {e : Env} {R : Room} {s : State} {m : MethodId} {args : Array Value} {below : List Frame} {meth : Method} {c : Code} {D : va_G} {h0 : Nat} {ex : Nat → Nat} {ka : Nat → ClassId} {Ls : Nat} {xs : Nat → Int32} {M : jm_M} {n0 : Nat} {Q : State → Prop} {ins : Instr} {n pc : Nat} {L : List (Option Value)} {S : List Value} {G : jm_h} {cn sn : Nat} {st : jm_St}
set_option maxHeartbeats 4000000 in
theorem jm_a1_ok (C0 : jm_C p s m args meth c D h0 ex ka Ls xs M n0) (hd : decode (jm_b M) pc = .ok (ins, n)) (h : jm_a1 ins n pc L S G (cn, sn) = some st) (k : jm_W p l e R s m args below meth c D h0 ex ka M n0 Q st) : jm_W p l e R s m args below meth c D h0 ex ka M n0 Q (pc, L, S, G, cn, sn) := by
  obtain ⟨hx, hb, -⟩ := C0
  intro hlen H locs ls hR hS hl
  unfold jm_a1 at h
  split at h
  · split at h
    · rename_i hn
      subst hn
      cases h
      exact lv_iconst hx hb hd rfl (k hlen H locs ls hR hS hl)
    · cases h
  · split at h
    · rename_i hn
      subst hn
      cases h
      exact lv_bipush hx hb hd rfl (k hlen H locs ls hR hS hl)
    · cases h
  · split at h
    · rename_i hn
      subst hn
      cases h
      exact lv_sipush hx hb hd rfl (k hlen H locs ls hR hS hl)
    · cases h
  · split at h
    · rename_i hn
      subst hn
      cases h
      exact lv_lconst hx hb hd rfl (k hlen H locs ls hR hS hl)
    · cases h
  · split at h
    · rename_i hn
      subst hn
      split at h
      · rename_i x hv
        cases h
        exact lv_iload_n hx hb hd rfl (jm_L_at hl hv) (k hlen H locs ls hR hS hl)
      · cases h
    · cases h
  · split at h
    · rename_i hn
      subst hn
      split at h
      · rename_i x hv
        cases h
        exact lv_iload hx hb hd (jm_L_at hl hv) (k hlen H locs ls hR hS hl)
      · cases h
    · cases h
  · split at h
    · rename_i hn
      subst hn
      split at h
      · rename_i x hv
        cases h
        exact lv_lload_n hx hb hd rfl (jm_L_at hl hv) (k hlen H locs ls hR hS hl)
      · cases h
    · cases h
  · split at h
    · rename_i hn
      subst hn
      split at h
      · rename_i x hv
        cases h
        exact lv_lload hx hb hd (jm_L_at hl hv) (k hlen H locs ls hR hS hl)
      · cases h
    · cases h
  · split at h
    · rename_i hn
      subst hn
      split at h
      · rename_i x hv
        split at h
        · cases h
        · rename_i h6
          cases h
          exact lv_aload_n hx hb hd rfl ((jm_L_at hl hv).trans (by rw [jm_cvr h6])) (W.eq (by simp only [List.map_cons, jm_cvr h6]) (k hlen H locs ls hR hS hl))
      · cases h
    · cases h
  · split at h
    · rename_i hn
      subst hn
      split at h
      · rename_i x hv
        split at h
        · cases h
        · rename_i h6
          cases h
          exact lv_aload hx hb hd ((jm_L_at hl hv).trans (by rw [jm_cvr h6])) (W.eq (by simp only [List.map_cons, jm_cvr h6]) (k hlen H locs ls hR hS hl))
      · cases h
    · cases h
  · cases h
set_option maxHeartbeats 4000000 in
theorem jm_a2_ok (C0 : jm_C p s m args meth c D h0 ex ka Ls xs M n0) (hd : decode (jm_b M) pc = .ok (ins, n)) (h : jm_a2 (jm_mx M) ins n pc L S G (cn, sn) = some st) (k : jm_W p l e R s m args below meth c D h0 ex ka M n0 Q st) : jm_W p l e R s m args below meth c D h0 ex ka M n0 Q (pc, L, S, G, cn, sn) := by
  obtain ⟨hx, hb, -⟩ := C0
  intro hlen H locs ls hR hS hl
  unfold jm_a2 at h
  split at h
  · split at h
    · rename_i hn
      obtain ⟨hn, hm⟩ := hn
      subst hn
      split at h
      · cases h
        exact lv_istore_n hx hb hd rfl hl hm rfl (fun ls' hl' => k hlen H locs ls' hR hS (jm_L_st1 hl'))
      · cases h
    · cases h
  · split at h
    · rename_i hn
      obtain ⟨hn, hm⟩ := hn
      subst hn
      split at h
      · cases h
        exact lv_istore hx hb hd hl hm rfl (fun ls' hl' => k hlen H locs ls' hR hS (jm_L_st1 hl'))
      · cases h
    · cases h
  · split at h
    · rename_i hn
      obtain ⟨hn, hm⟩ := hn
      subst hn
      split at h
      · cases h
        exact lv_lstore_n hx hb hd rfl hl hm rfl (fun ls' hl' => k hlen H locs ls' hR hS (jm_L_st2 hl'))
      · cases h
    · cases h
  · split at h
    · rename_i hn
      obtain ⟨hn, hm⟩ := hn
      subst hn
      split at h
      · cases h
        exact lv_lstore hx hb hd hl hm rfl (fun ls' hl' => k hlen H locs ls' hR hS (jm_L_st2 hl'))
      · cases h
    · cases h
  · split at h
    · rename_i hn
      obtain ⟨hn, hm⟩ := hn
      subst hn
      split at h
      · split at h
        · cases h
        · rename_i h6
          cases h
          simp only [List.map_cons, jm_cvr h6]
          exact lv_astore_n hx hb hd rfl hl hm rfl (fun ls' hl' => k hlen H locs ls' hR hS (jm_L_st1 (by rw [jm_cvr h6]; exact hl')))
      · cases h
    · cases h
  · split at h
    · rename_i hn
      obtain ⟨hn, hm⟩ := hn
      subst hn
      split at h
      · split at h
        · cases h
        · rename_i h6
          cases h
          simp only [List.map_cons, jm_cvr h6]
          exact lv_astore hx hb hd hl hm rfl (fun ls' hl' => k hlen H locs ls' hR hS (jm_L_st1 (by rw [jm_cvr h6]; exact hl')))
      · cases h
    · cases h
  · split at h
    · rename_i hn
      obtain ⟨hn, hm⟩ := hn
      subst hn
      split at h
      · rename_i x hv
        cases h
        have h1 : ∃ j : Nat, (jm_lv h0 ex 0 L)[j]? = some (_, .int x) := List.getElem?_of_mem (jm_lv_mem.mpr ⟨_, .int x, jm_ld_at hv, by rw [Nat.zero_add]; rfl⟩)
        obtain ⟨j, h1⟩ := h1
        exact lv_iinc hx hb hd hl h1 rfl hm rfl (fun ls' hl' => k hlen H locs ls' hR hS (jm_L_st1 hl'))
      · cases h
    · cases h
  · split at h
    · rename_i hn
      subst hn
      split at h
      · cases h
        exact lv_dup hx hb hd (by rw [jm_cv_cat]; rfl) (k hlen H locs ls hR hS hl)
      · cases h
        exact lv_dup hx hb hd (by rw [jm_cv_cat]; rfl) (k hlen H locs ls hR hS hl)
      · cases h
    · cases h
  · split at h
    · rename_i hn
      subst hn
      split at h
      · cases h
        exact lv_pop hx hb hd (by rw [jm_cv_cat]; rfl) (k hlen H locs ls hR hS hl)
      · cases h
        exact lv_pop hx hb hd (by rw [jm_cv_cat]; rfl) (k hlen H locs ls hR hS hl)
      · cases h
    · cases h
  · split at h
    · rename_i hn
      subst hn
      split at h
      · cases h
        exact lv_dup2_11 hx hb hd (by rw [jm_cv_cat]; rfl) (by rw [jm_cv_cat]; rfl) (k hlen H locs ls hR hS hl)
      · cases h
    · cases h
  · cases h
set_option maxHeartbeats 4000000 in
theorem jm_b1_ok (C0 : jm_C p s m args meth c D h0 ex ka Ls xs M n0) (hd : decode (jm_b M) pc = .ok (ins, n)) (h : jm_b1 ins n pc L S G (cn, sn) = some st) (k : jm_W p l e R s m args below meth c D h0 ex ka M n0 Q st) : jm_W p l e R s m args below meth c D h0 ex ka M n0 Q (pc, L, S, G, cn, sn) := by
  obtain ⟨hx, hb, -⟩ := C0
  intro hlen H locs ls hR hS hl
  unfold jm_b1 at h
  split at h
  · rename_i hn
    subst hn
    split at h
    · split at h
      · cases h
        exact lv_iadd hx hb hd (k hlen H locs ls hR hS hl)
      · cases h
    · split at h
      · cases h
        exact lv_isub hx hb hd (k hlen H locs ls hR hS hl)
      · cases h
    · split at h
      · cases h
        exact lv_imul hx hb hd (k hlen H locs ls hR hS hl)
      · cases h
    · split at h
      · cases h
        exact lv_iand hx hb hd (k hlen H locs ls hR hS hl)
      · cases h
    · split at h
      · cases h
        exact lv_ior hx hb hd (k hlen H locs ls hR hS hl)
      · cases h
    · split at h
      · cases h
        exact lv_ixor hx hb hd (k hlen H locs ls hR hS hl)
      · cases h
    · split at h
      · cases h
        exact lv_ishl hx hb hd (k hlen H locs ls hR hS hl)
      · cases h
    · split at h
      · cases h
        exact lv_ishr hx hb hd (k hlen H locs ls hR hS hl)
      · cases h
    · split at h
      · cases h
        exact lv_iushr hx hb hd rfl (k hlen H locs ls hR hS hl)
      · cases h
    · split at h
      · split at h
        · cases h
        · rename_i hne
          cases h
          exact lv_idiv hx hb hd hne (k hlen H locs ls hR hS hl)
      · cases h
    · split at h
      · split at h
        · cases h
        · rename_i hne
          cases h
          exact lv_irem hx hb hd hne (k hlen H locs ls hR hS hl)
      · cases h
    · split at h
      · cases h
        exact lv_ineg hx hb hd (k hlen H locs ls hR hS hl)
      · cases h
    · cases h
  · cases h
set_option maxHeartbeats 4000000 in
theorem jm_b2_ok (C0 : jm_C p s m args meth c D h0 ex ka Ls xs M n0) (hd : decode (jm_b M) pc = .ok (ins, n)) (h : jm_b2 ins n pc L S G (cn, sn) = some st) (k : jm_W p l e R s m args below meth c D h0 ex ka M n0 Q st) : jm_W p l e R s m args below meth c D h0 ex ka M n0 Q (pc, L, S, G, cn, sn) := by
  obtain ⟨hx, hb, -⟩ := C0
  intro hlen H locs ls hR hS hl
  unfold jm_b2 at h
  split at h
  · rename_i hn
    subst hn
    split at h
    · split at h
      · cases h
        exact lv_ladd hx hb hd (k hlen H locs ls hR hS hl)
      · cases h
    · split at h
      · cases h
        exact lv_lsub hx hb hd (k hlen H locs ls hR hS hl)
      · cases h
    · split at h
      · cases h
        exact lv_lmul hx hb hd (k hlen H locs ls hR hS hl)
      · cases h
    · split at h
      · split at h
        · cases h
        · rename_i hne
          cases h
          exact lv_ldiv hx hb hd hne (k hlen H locs ls hR hS hl)
      · cases h
    · split at h
      · split at h
        · cases h
        · rename_i hne
          cases h
          exact lv_lrem hx hb hd hne (k hlen H locs ls hR hS hl)
      · cases h
    · split at h
      · cases h
        exact W.lcmp hx hb hd (k hlen H locs ls hR hS hl)
      · cases h
    · split at h
      · cases h
        exact lv_i2l hx hb hd rfl (k hlen H locs ls hR hS hl)
      · cases h
    · split at h
      · cases h
        exact lv_l2i hx hb hd rfl (k hlen H locs ls hR hS hl)
      · cases h
    · split at h
      · cases h
        exact lv_i2b hx hb hd rfl (k hlen H locs ls hR hS hl)
      · cases h
    · split at h
      · cases h
        exact lv_i2c hx hb hd rfl (k hlen H locs ls hR hS hl)
      · cases h
    · cases h
  · cases h
set_option maxHeartbeats 4000000 in
theorem jm_c1_ok (C0 : jm_C p s m args meth c D h0 ex ka Ls xs M n0) (hd : decode (jm_b M) pc = .ok (ins, n)) (h : jm_c1 ins n pc L S G (cn, sn) = some st) (k : jm_W p l e R s m args below meth c D h0 ex ka M n0 Q st) : jm_W p l e R s m args below meth c D h0 ex ka M n0 Q (pc, L, S, G, cn, sn) := by
  obtain ⟨hx, hb, -⟩ := C0
  intro hlen H locs ls hR hS hl
  unfold jm_c1 at h
  split at h
  · split at h
    · rename_i hn
      subst hn
      split at h
      · rename_i ht
        have ht := jm_tg_ok ht
        split at h
        · cases h
          refine lv_if_eq hx hb hd ht (fun c1 => ?_) (fun c1 => ?_)
          · exact W.eq (by simp only [if_pos c1]) (k hlen H locs ls hR hS hl)
          · exact W.eq (by simp only [if_neg c1]) (k hlen H locs ls hR hS hl)
        · cases h
          refine lv_if_ne hx hb hd ht (fun c1 => ?_) (fun c1 => ?_)
          · exact W.eq (by simp only [if_neg c1]) (k hlen H locs ls hR hS hl)
          · exact W.eq (by simp only [if_pos c1]) (k hlen H locs ls hR hS hl)
        · cases h
          refine lv_if_lt hx hb hd ht (fun c1 => ?_) (fun c1 => ?_)
          · exact W.eq (by simp only [if_pos c1]) (k hlen H locs ls hR hS hl)
          · exact W.eq (by simp only [if_neg c1]) (k hlen H locs ls hR hS hl)
        · cases h
          refine lv_if_ge hx hb hd ht (fun c1 => ?_) (fun c1 => ?_)
          · exact W.eq (by simp only [if_pos c1]) (k hlen H locs ls hR hS hl)
          · exact W.eq (by simp only [if_neg c1]) (k hlen H locs ls hR hS hl)
        · cases h
          refine lv_if_gt hx hb hd ht (fun c1 => ?_) (fun c1 => ?_)
          · exact W.eq (by simp only [if_pos c1]) (k hlen H locs ls hR hS hl)
          · exact W.eq (by simp only [if_neg c1]) (k hlen H locs ls hR hS hl)
        · cases h
          refine lv_if_le hx hb hd ht (fun c1 => ?_) (fun c1 => ?_)
          · exact W.eq (by simp only [if_pos c1]) (k hlen H locs ls hR hS hl)
          · exact W.eq (by simp only [if_neg c1]) (k hlen H locs ls hR hS hl)
      · cases h
    · cases h
  · split at h
    · rename_i hn
      subst hn
      split at h
      · rename_i ht
        have ht := jm_tg_ok ht
        split at h
        · cases h
          refine lv_icmp_eq hx hb hd ht (fun c1 => ?_) (fun c1 => ?_)
          · exact W.eq (by simp only [if_pos c1]) (k hlen H locs ls hR hS hl)
          · exact W.eq (by simp only [if_neg c1]) (k hlen H locs ls hR hS hl)
        · cases h
          refine lv_icmp_ne hx hb hd ht (fun c1 => ?_) (fun c1 => ?_)
          · exact W.eq (by simp only [if_neg c1]) (k hlen H locs ls hR hS hl)
          · exact W.eq (by simp only [if_pos c1]) (k hlen H locs ls hR hS hl)
        · cases h
          refine lv_icmp_lt hx hb hd ht (fun c1 => ?_) (fun c1 => ?_)
          · exact W.eq (by simp only [if_pos c1]) (k hlen H locs ls hR hS hl)
          · exact W.eq (by simp only [if_neg c1]) (k hlen H locs ls hR hS hl)
        · cases h
          refine lv_icmp_ge hx hb hd ht (fun c1 => ?_) (fun c1 => ?_)
          · exact W.eq (by simp only [if_pos c1]) (k hlen H locs ls hR hS hl)
          · exact W.eq (by simp only [if_neg c1]) (k hlen H locs ls hR hS hl)
        · cases h
          refine lv_icmp_gt hx hb hd ht (fun c1 => ?_) (fun c1 => ?_)
          · exact W.eq (by simp only [if_pos c1]) (k hlen H locs ls hR hS hl)
          · exact W.eq (by simp only [if_neg c1]) (k hlen H locs ls hR hS hl)
        · cases h
          refine lv_icmp_le hx hb hd ht (fun c1 => ?_) (fun c1 => ?_)
          · exact W.eq (by simp only [if_pos c1]) (k hlen H locs ls hR hS hl)
          · exact W.eq (by simp only [if_neg c1]) (k hlen H locs ls hR hS hl)
      · cases h
    · cases h
  · split at h
    · rename_i hn
      subst hn
      split at h
      · rename_i ht
        cases h
        exact lv_goto hx hb hd (jm_tg_ok ht) (k hlen H locs ls hR hS hl)
      · cases h
    · cases h
  · split at h
    · split at h
      · rename_i hc
        split at h
        · rename_i ht
          cases h
          exact lv_tableOut hx hb hd hc (jm_tg_ok ht) (k hlen H locs ls hR hS hl)
        · cases h
      · rename_i hc
        split at h
        · rename_i ho
          split at h
          · rename_i ht
            cases h
            exact lv_tableIn hx hb hd (fun q => hc (Or.inl q)) (fun q => hc (Or.inr q)) ho (jm_tg_ok ht) (k hlen H locs ls hR hS hl)
          · cases h
        · cases h
    · cases h
  · cases h
end JM4
