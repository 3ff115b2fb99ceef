/-! ===== numbers and branches, with symbols ===== -/
def sy_op (ins : Instr) : Option (Nat × Nat × Nat) := match ins with
  | .iadd => some (0, 0, 0)
  | .isub => some (1, 0, 0)
  | .imul => some (2, 0, 0)
  | .iand => some (3, 0, 0)
  | .ior => some (4, 0, 0)
  | .ixor => some (5, 0, 0)
  | .ishl => some (6, 0, 0)
  | .ishr => some (7, 0, 0)
  | .iushr => some (8, 0, 0)
  | .ladd => some (12, 1, 1)
  | .lsub => some (13, 1, 1)
  | .lmul => some (14, 1, 1)
  | .lcmp => some (17, 1, 0)
  | _ => none
def sy_op1 (ins : Instr) : Option (Nat × Nat × Nat) := match ins with
  | .ineg => some (20, 0, 0)
  | .i2l => some (21, 0, 1)
  | .i2b => some (22, 0, 0)
  | .i2c => some (23, 0, 0)
  | .l2i => some (25, 1, 0)
  | _ => none
def sy_opd (ins : Instr) : Option (Nat × Nat) := match ins with
  | .idiv => some (9, 0)
  | .irem => some (10, 0)
  | .ldiv => some (15, 1)
  | .lrem => some (16, 1)
  | _ => none
def sy_zero (t : Nat) : sy_v := if t = 0 then .inl (.int 0) else .inl (.long 0)
def sy_2 (nv : Nat) (ins : Instr) (n pc : Nat) (L : List (Option sy_v)) (S : List sy_v) (G : sy_h) (q : Nat × Nat) (x : sy_x) : Option (sy_St × sy_x) :=
  if n = 1 then (match sy_op ins with
  | some o => (match S with
    | b :: a :: r => if sy_ty a = o.2.1 ∧ sy_ty b = o.2.1 then some ((pc + 1, L, (sy_a2 nv o.1 o.2.2 a b x.1).1 :: r, G, q), (sy_a2 nv o.1 o.2.2 a b x.1).2, x.2) else none
    | _ => none)
  | none => (match sy_op1 ins with
    | some o => (match S with
      | a :: r => if sy_ty a = o.2.1 then some ((pc + 1, L, (sy_a1 nv o.1 o.2.2 a x.1).1 :: r, G, q), (sy_a1 nv o.1 o.2.2 a x.1).2, x.2) else none
      | _ => none)
    | none => (match sy_opd ins with
      | some o => (match S with
        | b :: a :: r => if sy_ty a = o.2 ∧ sy_ty b = o.2 then some ((pc + 1, L, (sy_a2 nv o.1 o.2 a b x.1).1 :: r, G, q), (sy_a2 nv o.1 o.2 a b x.1).2, x.2.1 ++ [(1, b, sy_zero o.2)], x.2.2) else none
        | _ => none)
      | none => none)))
  else none
section SY2
variable {M : jm_M} {Ls : Nat} {xs : Nat → Int32} {bc bs : Nat} {ins : Instr} {n la lb po pc : Nat} {q : Nat × Nat} {F : Nat → sy_d} {X1 X2 : List jm_c}
variable {L0 : List (Option Value)} {r0 : List Value} {G0 : jm_h}
theorem sy_op_ok {o : Nat × Nat × Nat} (h : sy_op ins = some o) {v w : Value} (hv : (o.2.1 = 0 ∧ (∃ a, v = .int a) ∧ ∃ b, w = .int b) ∨ (o.2.1 = 1 ∧ (∃ a, v = .long a) ∧ ∃ b, w = .long b)) :
    jm_step M Ls xs bc bs (ins, 1, la, lb, po) pc L0 (w :: v :: r0) G0 q = some (pc + 1, L0, sy_o2 o.1 v w :: r0, G0, q) ∧ ((o.2.2 = 0 ∧ ∃ a, sy_o2 o.1 v w = .int a) ∨ (o.2.2 ≠ 0 ∧ ∃ a, sy_o2 o.1 v w = .long a)) := by
  unfold sy_op at h
  split at h
  · cases h
    rcases hv with ⟨h0, ⟨a, rfl⟩, ⟨b, rfl⟩⟩ | ⟨h0, ⟨a, rfl⟩, ⟨b, rfl⟩⟩
    · exact ⟨jm_step_b1 rfl rfl rfl, Or.inl ⟨rfl, _, rfl⟩⟩
    · exact absurd h0 (by decide)
  · cases h
    rcases hv with ⟨h0, ⟨a, rfl⟩, ⟨b, rfl⟩⟩ | ⟨h0, ⟨a, rfl⟩, ⟨b, rfl⟩⟩
    · exact ⟨jm_step_b1 rfl rfl rfl, Or.inl ⟨rfl, _, rfl⟩⟩
    · exact absurd h0 (by decide)
  · cases h
    rcases hv with ⟨h0, ⟨a, rfl⟩, ⟨b, rfl⟩⟩ | ⟨h0, ⟨a, rfl⟩, ⟨b, rfl⟩⟩
    · exact ⟨jm_step_b1 rfl rfl rfl, Or.inl ⟨rfl, _, rfl⟩⟩
    · exact absurd h0 (by decide)
  · cases h
    rcases hv with ⟨h0, ⟨a, rfl⟩, ⟨b, rfl⟩⟩ | ⟨h0, ⟨a, rfl⟩, ⟨b, rfl⟩⟩
    · exact ⟨jm_step_b1 rfl rfl rfl, Or.inl ⟨rfl, _, rfl⟩⟩
    · exact absurd h0 (by decide)
  · cases h
    rcases hv with ⟨h0, ⟨a, rfl⟩, ⟨b, rfl⟩⟩ | ⟨h0, ⟨a, rfl⟩, ⟨b, rfl⟩⟩
    · exact ⟨jm_step_b1 rfl rfl rfl, Or.inl ⟨rfl, _, rfl⟩⟩
    · exact absurd h0 (by decide)
  · cases h
    rcases hv with ⟨h0, ⟨a, rfl⟩, ⟨b, rfl⟩⟩ | ⟨h0, ⟨a, rfl⟩, ⟨b, rfl⟩⟩
    · exact ⟨jm_step_b1 rfl rfl rfl, Or.inl ⟨rfl, _, rfl⟩⟩
    · exact absurd h0 (by decide)
  · cases h
    rcases hv with ⟨h0, ⟨a, rfl⟩, ⟨b, rfl⟩⟩ | ⟨h0, ⟨a, rfl⟩, ⟨b, rfl⟩⟩
    · exact ⟨jm_step_b1 rfl rfl rfl, Or.inl ⟨rfl, _, rfl⟩⟩
    · exact absurd h0 (by decide)
  · cases h
    rcases hv with ⟨h0, ⟨a, rfl⟩, ⟨b, rfl⟩⟩ | ⟨h0, ⟨a, rfl⟩, ⟨b, rfl⟩⟩
    · exact ⟨jm_step_b1 rfl rfl rfl, Or.inl ⟨rfl, _, rfl⟩⟩
    · exact absurd h0 (by decide)
  · cases h
    rcases hv with ⟨h0, ⟨a, rfl⟩, ⟨b, rfl⟩⟩ | ⟨h0, ⟨a, rfl⟩, ⟨b, rfl⟩⟩
    · exact ⟨jm_step_b1 rfl rfl rfl, Or.inl ⟨rfl, _, rfl⟩⟩
    · exact absurd h0 (by decide)
  · cases h
    rcases hv with ⟨h0, ⟨a, rfl⟩, ⟨b, rfl⟩⟩ | ⟨h0, ⟨a, rfl⟩, ⟨b, rfl⟩⟩
    · exact absurd h0 (by decide)
    · exact ⟨jm_step_b2 rfl rfl rfl rfl rfl rfl rfl, Or.inr ⟨by decide, _, rfl⟩⟩
  · cases h
    rcases hv with ⟨h0, ⟨a, rfl⟩, ⟨b, rfl⟩⟩ | ⟨h0, ⟨a, rfl⟩, ⟨b, rfl⟩⟩
    · exact absurd h0 (by decide)
    · exact ⟨jm_step_b2 rfl rfl rfl rfl rfl rfl rfl, Or.inr ⟨by decide, _, rfl⟩⟩
  · cases h
    rcases hv with ⟨h0, ⟨a, rfl⟩, ⟨b, rfl⟩⟩ | ⟨h0, ⟨a, rfl⟩, ⟨b, rfl⟩⟩
    · exact absurd h0 (by decide)
    · exact ⟨jm_step_b2 rfl rfl rfl rfl rfl rfl rfl, Or.inr ⟨by decide, _, rfl⟩⟩
  · cases h
    rcases hv with ⟨h0, ⟨a, rfl⟩, ⟨b, rfl⟩⟩ | ⟨h0, ⟨a, rfl⟩, ⟨b, rfl⟩⟩
    · exact absurd h0 (by decide)
    · exact ⟨jm_step_b2 rfl rfl rfl rfl rfl rfl rfl, Or.inl ⟨rfl, _, rfl⟩⟩
  · cases h
theorem sy_op1_ok {o : Nat × Nat × Nat} (h : sy_op1 ins = some o) {v : Value} (hv : (o.2.1 = 0 ∧ (∃ a, v = .int a)) ∨ (o.2.1 = 1 ∧ (∃ a, v = .long a))) :
    jm_step M Ls xs bc bs (ins, 1, la, lb, po) pc L0 (v :: r0) G0 q = some (pc + 1, L0, sy_o1 o.1 v :: r0, G0, q) ∧ ((o.2.2 = 0 ∧ ∃ a, sy_o1 o.1 v = .int a) ∨ (o.2.2 ≠ 0 ∧ ∃ a, sy_o1 o.1 v = .long a)) := by
  unfold sy_op1 at h
  split at h
  · cases h
    rcases hv with ⟨h0, ⟨a, rfl⟩⟩ | ⟨h0, ⟨a, rfl⟩⟩
    · exact ⟨jm_step_b1 rfl rfl rfl, Or.inl ⟨rfl, _, rfl⟩⟩
    · exact absurd h0 (by decide)
  · cases h
    rcases hv with ⟨h0, ⟨a, rfl⟩⟩ | ⟨h0, ⟨a, rfl⟩⟩
    · exact ⟨jm_step_b2 rfl rfl rfl rfl rfl rfl rfl, Or.inr ⟨by decide, _, rfl⟩⟩
    · exact absurd h0 (by decide)
  · cases h
    rcases hv with ⟨h0, ⟨a, rfl⟩⟩ | ⟨h0, ⟨a, rfl⟩⟩
    · exact ⟨jm_step_b2 rfl rfl rfl rfl rfl rfl rfl, Or.inl ⟨rfl, _, rfl⟩⟩
    · exact absurd h0 (by decide)
  · cases h
    rcases hv with ⟨h0, ⟨a, rfl⟩⟩ | ⟨h0, ⟨a, rfl⟩⟩
    · exact ⟨jm_step_b2 rfl rfl rfl rfl rfl rfl rfl, Or.inl ⟨rfl, _, rfl⟩⟩
    · exact absurd h0 (by decide)
  · cases h
    rcases hv with ⟨h0, ⟨a, rfl⟩⟩ | ⟨h0, ⟨a, rfl⟩⟩
    · exact absurd h0 (by decide)
    · exact ⟨jm_step_b2 rfl rfl rfl rfl rfl rfl rfl, Or.inl ⟨rfl, _, rfl⟩⟩
  · cases h
theorem sy_opd_ok {o : Nat × Nat} (h : sy_opd ins = some o) {v w : Value} (hv : (o.2 = 0 ∧ (∃ a, v = .int a) ∧ ∃ b, w = .int b ∧ ¬ b = 0) ∨ (o.2 = 1 ∧ (∃ a, v = .long a) ∧ ∃ b, w = .long b ∧ ¬ b = 0)) :
    jm_step M Ls xs bc bs (ins, 1, la, lb, po) pc L0 (w :: v :: r0) G0 q = some (pc + 1, L0, sy_o2 o.1 v w :: r0, G0, q) ∧ ((o.2 = 0 ∧ ∃ a, sy_o2 o.1 v w = .int a) ∨ (o.2 ≠ 0 ∧ ∃ a, sy_o2 o.1 v w = .long a)) := by
  unfold sy_opd at h
  split at h
  · cases h
    rcases hv with ⟨h0, ⟨a, rfl⟩, ⟨b, rfl, hb⟩⟩ | ⟨h0, ⟨a, rfl⟩, ⟨b, rfl, hb⟩⟩
    · exact ⟨jm_step_b1 rfl rfl (if_neg hb), Or.inl ⟨rfl, _, rfl⟩⟩
    · exact absurd h0 (by decide)
  · cases h
    rcases hv with ⟨h0, ⟨a, rfl⟩, ⟨b, rfl, hb⟩⟩ | ⟨h0, ⟨a, rfl⟩, ⟨b, rfl, hb⟩⟩
    · exact ⟨jm_step_b1 rfl rfl (if_neg hb), Or.inl ⟨rfl, _, rfl⟩⟩
    · exact absurd h0 (by decide)
  · cases h
    rcases hv with ⟨h0, ⟨a, rfl⟩, ⟨b, rfl, hb⟩⟩ | ⟨h0, ⟨a, rfl⟩, ⟨b, rfl, hb⟩⟩
    · exact absurd h0 (by decide)
    · exact ⟨jm_step_b2 rfl rfl rfl rfl rfl rfl (if_neg hb), Or.inr ⟨by decide, _, rfl⟩⟩
  · cases h
    rcases hv with ⟨h0, ⟨a, rfl⟩, ⟨b, rfl, hb⟩⟩ | ⟨h0, ⟨a, rfl⟩, ⟨b, rfl, hb⟩⟩
    · exact absurd h0 (by decide)
    · exact ⟨jm_step_b2 rfl rfl rfl rfl rfl rfl (if_neg hb), Or.inr ⟨by decide, _, rfl⟩⟩
  · cases h
end SY2
theorem sy_op_ty {ins : Instr} {o : Nat × Nat × Nat} (h : sy_op ins = some o) : o.2.1 = 0 ∨ o.2.1 = 1 := by
  unfold sy_op at h
  split at h <;> first | (cases h; first | exact Or.inl rfl | exact Or.inr rfl) | cases h
theorem sy_op1_ty {ins : Instr} {o : Nat × Nat × Nat} (h : sy_op1 ins = some o) : o.2.1 = 0 ∨ o.2.1 = 1 := by
  unfold sy_op1 at h
  split at h <;> first | (cases h; first | exact Or.inl rfl | exact Or.inr rfl) | cases h
theorem sy_opd_ty {ins : Instr} {o : Nat × Nat} (h : sy_opd ins = some o) : o.2 = 0 ∨ o.2 = 1 := by
  unfold sy_opd at h
  split at h <;> first | (cases h; first | exact Or.inl rfl | exact Or.inr rfl) | cases h
section SY2b
variable {M : jm_M} {Ls : Nat} {xs : Nat → Int32} {bc bs : Nat} {ins : Instr} {n la lb po pc nv : Nat} {L : List (Option sy_v)} {S : List sy_v} {G : sy_h} {q : Nat × Nat} {st : sy_St} {x y : sy_x} {F : Nat → sy_d} {X1 X2 : List jm_c} {r : List sy_e}
set_option maxHeartbeats 4000000 in
theorem sy_2_ok (h : sy_2 nv ins n pc L S G q x = some (st, y)) : (∃ r, y.1 = x.1 ++ r) ∧ (∃ r, y.2.1 = x.2.1 ++ r) ∧ ∀ (F : Nat → sy_d) (X1 X2 : List jm_c) (r : List sy_e), sy_sat F nv (y.1 ++ r) → (∀ p ∈ y.2.1, sy_ps F p) →
    jm_step M Ls xs bc bs (ins, n, la, lb, po) pc (sy_dL F L) (sy_dS F S) (sy_dh F X1 X2 G) q = some (sy_ds F X1 X2 st) := by
  unfold sy_2 at h
  split at h
  · rename_i hn
    subst hn
    split at h
    · rename_i o ho
      split at h
      · rename_i b a r0
        split at h
        · rename_i hty
          cases h
          obtain ⟨⟨z, T1⟩, hz⟩ : ∃ z, sy_a2 nv o.1 o.2.2 a b x.1 = z := ⟨_, rfl⟩
          rw [hz]
          refine ⟨sy_a2_pre hz, ⟨[], (List.append_nil _).symm⟩, fun F X1 X2 r hs hp => ?_⟩
          have hv : (o.2.1 = 0 ∧ (∃ c, sy_dv F a = .int c) ∧ ∃ c, sy_dv F b = .int c) ∨ (o.2.1 = 1 ∧ (∃ c, sy_dv F a = .long c) ∧ ∃ c, sy_dv F b = .long c) := by
            rcases sy_op_ty ho with e | e
            · exact Or.inl ⟨e, sy_ty0 (hty.1.trans e), sy_ty0 (hty.2.trans e)⟩
            · exact Or.inr ⟨e, sy_ty1 (hty.1.trans e), sy_ty1 (hty.2.trans e)⟩
          obtain ⟨k1, k2⟩ := sy_op_ok (M := M) (Ls := Ls) (xs := xs) (bc := bc) (bs := bs) (la := la) (lb := lb) (po := po) (pc := pc) (q := q) (L0 := sy_dL F L) (r0 := sy_dS F r0) (G0 := sy_dh F X1 X2 G) ho hv
          have hd := sy_a2_ok hz hs k2
          refine k1.trans ?_
          rw [← hd]
          rfl
        · cases h
      · cases h
    · split at h
      · rename_i o ho
        split at h
        · rename_i a r0
          split at h
          · rename_i hty
            cases h
            obtain ⟨⟨z, T1⟩, hz⟩ : ∃ z, sy_a1 nv o.1 o.2.2 a x.1 = z := ⟨_, rfl⟩
            rw [hz]
            refine ⟨sy_a1_pre hz, ⟨[], (List.append_nil _).symm⟩, fun F X1 X2 r hs hp => ?_⟩
            have hv : (o.2.1 = 0 ∧ (∃ c, sy_dv F a = .int c)) ∨ (o.2.1 = 1 ∧ (∃ c, sy_dv F a = .long c)) := by
              rcases sy_op1_ty ho with e | e
              · exact Or.inl ⟨e, sy_ty0 (hty.trans e)⟩
              · exact Or.inr ⟨e, sy_ty1 (hty.trans e)⟩
            obtain ⟨k1, k2⟩ := sy_op1_ok (M := M) (Ls := Ls) (xs := xs) (bc := bc) (bs := bs) (la := la) (lb := lb) (po := po) (pc := pc) (q := q) (L0 := sy_dL F L) (r0 := sy_dS F r0) (G0 := sy_dh F X1 X2 G) ho hv
            have hd := sy_a1_ok hz hs k2
            refine k1.trans ?_
            rw [← hd]
            rfl
          · cases h
        · cases h
      · split at h
        · rename_i o ho
          split at h
          · rename_i b a r0
            split at h
            · rename_i hty
              cases h
              obtain ⟨⟨z, T1⟩, hz⟩ : ∃ z, sy_a2 nv o.1 o.2 a b x.1 = z := ⟨_, rfl⟩
              rw [hz]
              refine ⟨sy_a2_pre hz, ⟨_, rfl⟩, fun F X1 X2 r hs hp => ?_⟩
              have hb := hp (1, b, sy_zero o.2) (List.mem_append_right _ List.mem_cons_self)
              have hv : (o.2 = 0 ∧ (∃ c, sy_dv F a = .int c) ∧ ∃ c, sy_dv F b = .int c ∧ ¬ c = 0) ∨ (o.2 = 1 ∧ (∃ c, sy_dv F a = .long c) ∧ ∃ c, sy_dv F b = .long c ∧ ¬ c = 0) := by
                rcases sy_opd_ty ho with e | e
                · obtain ⟨c, hc⟩ := sy_ty0 (F := F) (hty.2.trans e)
                  refine Or.inl ⟨e, sy_ty0 (hty.1.trans e), c, hc, ?_⟩
                  rw [e] at hb
                  simpa [sy_ps, hc, sy_zero, sy_dvl] using hb
                · obtain ⟨c, hc⟩ := sy_ty1 (F := F) (hty.2.trans e)
                  refine Or.inr ⟨e, sy_ty1 (hty.1.trans e), c, hc, ?_⟩
                  rw [e] at hb
                  simpa [sy_ps, hc, sy_zero, sy_dvl] using hb
              obtain ⟨k1, k2⟩ := sy_opd_ok (M := M) (Ls := Ls) (xs := xs) (bc := bc) (bs := bs) (la := la) (lb := lb) (po := po) (pc := pc) (q := q) (L0 := sy_dL F L) (r0 := sy_dS F r0) (G0 := sy_dh F X1 X2 G) ho hv
              have hd := sy_a2_ok hz hs k2
              refine k1.trans ?_
              rw [← hd]
              rfl
            · cases h
          · cases h
        · cases h
  · cases h
end SY2b
/-- which branch -/
def sy_bt (k : Jvm.ClassFile.Cond) (a b : Int32) : Bool := match k with
  | .eq => decide (a = b)
  | .ne => !decide (a = b)
  | .lt => decide (a < b)
  | .ge => decide (b ≤ a)
  | .gt => decide (b < a)
  | .le => decide (a ≤ b)
def sy_bk (k : Jvm.ClassFile.Cond) (t : Bool) (x y : sy_v) : sy_p := match k with
  | .eq => (bif t then 0 else 1, x, y)
  | .ne => (bif t then 1 else 0, x, y)
  | .lt => (bif t then 2 else 3, x, y)
  | .ge => (bif t then 4 else 5, y, x)
  | .gt => (bif t then 2 else 3, y, x)
  | .le => (bif t then 4 else 5, x, y)
theorem sy_bk_ok {F : Nat → sy_d} {k : Jvm.ClassFile.Cond} {t : Bool} {x y : sy_v} {a b : Int32} (hx : sy_dv F x = .int a) (hy : sy_dv F y = .int b) (h : sy_ps F (sy_bk k t x y)) : sy_bt k a b = t := by
  cases k <;> cases t <;> simp_all [sy_bk, sy_bt, sy_ps]
/-- a branch: both numbers known, or by the next bit -/
def sy_br (k : Jvm.ClassFile.Cond) (x y : sy_v) (P : List sy_p) (O : List Bool) : Option (Bool × List sy_p × List Bool) := match x, y with
  | .inl (.int a), .inl (.int b) => some (sy_bt k a b, P, O)
  | _, _ => (match O with
    | t :: O1 => some (t, P ++ [sy_bk k t x y], O1)
    | [] => none)
def sy_3 (ins : Instr) (n pc : Nat) (L : List (Option sy_v)) (S : List sy_v) (G : sy_h) (q : Nat × Nat) (x : sy_x) : Option (sy_St × sy_x) := match ins with
  | .ifCond k off => if n = 3 then (match S, jm_tg pc off with
    | a :: r, some t => if sy_ty a = 0 then (match sy_br k a (.inl (.int 0)) x.2.1 x.2.2 with
      | some (b, P1, O1) => some ((bif b then t else pc + 3, L, r, G, q), x.1, P1, O1)
      | none => none) else none
    | _, _ => none) else none
  | .if_icmp k off => if n = 3 then (match S, jm_tg pc off with
    | b :: a :: r, some t => if sy_ty a = 0 ∧ sy_ty b = 0 then (match sy_br k a b x.2.1 x.2.2 with
      | some (b, P1, O1) => some ((bif b then t else pc + 3, L, r, G, q), x.1, P1, O1)
      | none => none) else none
    | _, _ => none) else none
  | .tableswitch dflt lo hi offs => (match S with
    | .inl (.int v) :: r => if v.toInt < lo ∨ hi < v.toInt then (match jm_tg pc dflt with
        | some t => some ((t, L, r, G, q), x)
        | none => none)
      else (match offs[(v.toInt - lo).toNat]? with
        | some off => (match jm_tg pc off with
          | some t => some ((t, L, r, G, q), x)
          | none => none)
        | none => none)
    | .inr (.inl a) :: r => if (Int32.ofInt lo).toInt = lo ∧ (Int32.ofInt hi).toInt = hi then (match x.2.2, jm_tg pc dflt with
        | b :: O1, some t => some ((t, L, r, G, q), x.1, x.2.1 ++ [bif b then (2, .inr (.inl a), .inl (.int (Int32.ofInt lo))) else (2, .inl (.int (Int32.ofInt hi)), .inr (.inl a))], O1)
        | _, _ => none) else none
    | _ => none)
  | .iinc k d => none
  | _ => none
theorem sy_br_ok {k : Jvm.ClassFile.Cond} {x y : sy_v} {P P1 : List sy_p} {O O1 : List Bool} {t : Bool} (h : sy_br k x y P O = some (t, P1, O1)) : (∃ r, P1 = P ++ r) ∧ ∀ (F : Nat → sy_d) (a b : Int32), sy_dv F x = .int a → sy_dv F y = .int b → (∀ p ∈ P1, sy_ps F p) → sy_bt k a b = t := by
  unfold sy_br at h
  split at h
  · cases h
    exact ⟨⟨[], (List.append_nil _).symm⟩, fun F a b hx hy _ => by cases hx; cases hy; rfl⟩
  · split at h
    · cases h
      exact ⟨⟨_, rfl⟩, fun F a b hx hy hp => sy_bk_ok hx hy (hp _ (List.mem_append_right _ List.mem_cons_self))⟩
    · cases h
theorem sy_if {c : Prop} (hc : Decidable c) {α : Type} {t : Bool} {a b : α} (h : @decide c hc = t) : (@ite α c hc a b) = (bif t then a else b) := by
  cases t with
  | true => rw [if_pos (of_decide_eq_true h)]; rfl
  | false => rw [if_neg (of_decide_eq_false h)]; rfl
section SY3
variable {M : jm_M} {Ls : Nat} {xs : Nat → Int32} {bc bs : Nat} {ins : Instr} {n la lb po pc nv : Nat} {L : List (Option sy_v)} {S : List sy_v} {G : sy_h} {q : Nat × Nat} {st : sy_St} {x y : sy_x}
theorem sy_c1_if {k : Jvm.ClassFile.Cond} {off : Int} {t : Nat} {b : Bool} {a : Int32} {L0 : List (Option Value)} {r0 : List Value} {G0 : jm_h} (ht : jm_tg pc off = some t) (hb : sy_bt k a 0 = b) : jm_c1 (.ifCond k off) 3 pc L0 (.int a :: r0) G0 q = some (bif b then t else pc + 3, L0, r0, G0, q) := by
  simp only [jm_c1, if_pos, ht]
  cases k <;> simp only [sy_bt] at hb <;> subst hb <;> dsimp only <;> congr 2 <;> first | exact sy_if _ rfl | (rw [Bool.cond_not]; exact sy_if _ rfl)
theorem sy_c1_icmp {k : Jvm.ClassFile.Cond} {off : Int} {t : Nat} {b : Bool} {a c : Int32} {L0 : List (Option Value)} {r0 : List Value} {G0 : jm_h} (ht : jm_tg pc off = some t) (hb : sy_bt k a c = b) : jm_c1 (.if_icmp k off) 3 pc L0 (.int c :: .int a :: r0) G0 q = some (bif b then t else pc + 3, L0, r0, G0, q) := by
  simp only [jm_c1, if_pos, ht]
  cases k <;> simp only [sy_bt] at hb <;> subst hb <;> dsimp only <;> congr 2 <;> first | exact sy_if _ rfl | (rw [Bool.cond_not]; exact sy_if _ rfl)
set_option maxHeartbeats 4000000 in
theorem sy_3_ok (h : sy_3 ins n pc L S G q x = some (st, y)) : (∃ r, y.1 = x.1 ++ r) ∧ (∃ r, y.2.1 = x.2.1 ++ r) ∧ ∀ (F : Nat → sy_d) (X1 X2 : List jm_c), (∀ p ∈ y.2.1, sy_ps F p) →
    jm_step M Ls xs bc bs (ins, n, la, lb, po) pc (sy_dL F L) (sy_dS F S) (sy_dh F X1 X2 G) q = some (sy_ds F X1 X2 st) := by
  unfold sy_3 at h
  split at h
  · split at h
    · rename_i hn
      subst hn
      split at h
      · rename_i a r t ht
        split at h
        · rename_i hty
          split at h
          · rename_i b P1 O1 hbr
            cases h
            obtain ⟨k1, k2⟩ := sy_br_ok hbr
            refine ⟨⟨[], (List.append_nil _).symm⟩, k1, fun F X1 X2 hp => ?_⟩
            obtain ⟨v, hv⟩ := sy_ty0 (F := F) hty
            refine jm_step_c1 rfl rfl rfl ?_
            show jm_c1 _ _ pc (sy_dL F L) (sy_dv F a :: sy_dS F r) _ q = _
            rw [hv]
            exact sy_c1_if ht (k2 F v 0 hv rfl hp)
          · cases h
        · cases h
      · cases h
    · cases h
  · split at h
    · rename_i hn
      subst hn
      split at h
      · rename_i a c r t ht
        split at h
        · rename_i hty
          split at h
          · rename_i b P1 O1 hbr
            cases h
            obtain ⟨k1, k2⟩ := sy_br_ok hbr
            refine ⟨⟨[], (List.append_nil _).symm⟩, k1, fun F X1 X2 hp => ?_⟩
            obtain ⟨v, hv⟩ := sy_ty0 (F := F) hty.1
            obtain ⟨w, hw⟩ := sy_ty0 (F := F) hty.2
            refine jm_step_c1 rfl rfl rfl ?_
            show jm_c1 _ _ pc (sy_dL F L) (sy_dv F a :: sy_dv F c :: sy_dS F r) _ q = _
            rw [hv, hw]
            exact sy_c1_icmp ht (k2 F v w hv hw hp)
          · cases h
        · cases h
      · cases h
    · cases h
  · rename_i dflt lo hi offs
    split at h
    · rename_i v r
      split at h
      · rename_i hc
        split at h
        · rename_i t ht
          cases h
          refine ⟨⟨[], (List.append_nil _).symm⟩, ⟨[], (List.append_nil _).symm⟩, fun F X1 X2 hp => ?_⟩
          refine jm_step_c1 rfl rfl (by unfold jm_b1; split <;> rfl) ?_
          show jm_c1 _ _ pc (sy_dL F L) (.int v :: sy_dS F r) _ q = _
          simp only [jm_c1, if_pos hc, ht]
          rfl
        · cases h
      · rename_i hc
        split at h
        · rename_i off ho
          split at h
          · rename_i t ht
            cases h
            refine ⟨⟨[], (List.append_nil _).symm⟩, ⟨[], (List.append_nil _).symm⟩, fun F X1 X2 hp => ?_⟩
            refine jm_step_c1 rfl rfl (by unfold jm_b1; split <;> rfl) ?_
            show jm_c1 _ _ pc (sy_dL F L) (.int v :: sy_dS F r) _ q = _
            simp only [jm_c1, if_neg hc, ho, ht]
            rfl
          · cases h
        · cases h
    · rename_i a r
      split at h
      · rename_i hfit
        split at h
        · rename_i b O1 t hO ht
          cases h
          refine ⟨⟨[], (List.append_nil _).symm⟩, ⟨_, rfl⟩, fun F X1 X2 hp => ?_⟩
          have h1 := hp _ (List.mem_append_right _ List.mem_cons_self)
          refine jm_step_c1 rfl rfl (by unfold jm_b1; split <;> rfl) ?_
          show jm_c1 _ _ pc (sy_dL F L) (.int (sy_i F a) :: sy_dS F r) _ q = _
          rw [jm_c1]
          rw [if_pos, ht]
          · rfl
          · cases b with
            | true =>
              left
              have h2 : sy_i F a < Int32.ofInt lo := h1
              rw [Int32.lt_iff_toInt_lt, hfit.1] at h2
              exact h2
            | false =>
              right
              have h2 : Int32.ofInt hi < sy_i F a := h1
              rw [Int32.lt_iff_toInt_lt, hfit.2] at h2
              exact h2
        · cases h
      · cases h
    · cases h
  · cases h
  · cases h
end SY3
