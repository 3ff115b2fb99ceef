/-! ===== the step with symbols: local variables, the stack, numbers, branches ===== -/
abbrev sy_St : Type := Nat × List (Option sy_v) × List sy_v × sy_h × Nat × Nat
def sy_dL (F : Nat → sy_d) (L : List (Option sy_v)) : List (Option Value) := L.map (Option.map (sy_dv F))
def sy_dS (F : Nat → sy_d) (S : List sy_v) : List Value := S.map (sy_dv F)
def sy_cat (x : sy_v) : Nat := match x with
  | .inl v => v.category
  | .inr (.inl _) => 1
  | .inr (.inr _) => 2
theorem sy_cat_ok (F : Nat → sy_d) (x : sy_v) : (sy_dv F x).category = sy_cat x := by
  unfold sy_cat
  split <;> rfl
def sy_ld (L : List (Option sy_v)) (i : Nat) : Option sy_v := (L[i]?).join
theorem sy_ld_ok {F : Nat → sy_d} {L : List (Option sy_v)} {i : Nat} : jm_ld (sy_dL F L) i = (sy_ld L i).map (sy_dv F) := by
  unfold jm_ld sy_ld sy_dL
  rw [List.getElem?_map]
  cases L[i]? with
  | none => rfl
  | some o => cases o <;> rfl
def sy_cl (L : List (Option sy_v)) (i : Nat) : List (Option sy_v) := match i with
  | 0 => L
  | j + 1 => match sy_ld L j with
    | some v => if sy_cat v = 2 then L.set j none else L
    | none => L
theorem sy_cl_ok {F : Nat → sy_d} {L : List (Option sy_v)} {i : Nat} : jm_cl (sy_dL F L) i = sy_dL F (sy_cl L i) := by
  unfold jm_cl sy_cl
  cases i with
  | zero => rfl
  | succ j =>
    dsimp only
    rw [sy_ld_ok]
    cases sy_ld L j with
    | none => rfl
    | some v =>
      dsimp only [Option.map]
      rw [sy_cat_ok]
      split
      · unfold sy_dL; rw [List.map_set]; rfl
      · rfl
def sy_st1 (L : List (Option sy_v)) (i : Nat) (v : sy_v) : List (Option sy_v) := (sy_cl L i).set i (some v)
def sy_st2 (L : List (Option sy_v)) (i : Nat) (v : sy_v) : List (Option sy_v) := ((sy_cl L i).set i (some v)).set (i + 1) none
theorem sy_st1_ok {F : Nat → sy_d} {L : List (Option sy_v)} {i : Nat} {v : sy_v} : jm_st1 (sy_dL F L) i (sy_dv F v) = sy_dL F (sy_st1 L i v) := by
  unfold jm_st1 sy_st1
  rw [sy_cl_ok]
  unfold sy_dL
  rw [List.map_set]
  rfl
theorem sy_st2_ok {F : Nat → sy_d} {L : List (Option sy_v)} {i : Nat} {v : sy_v} : jm_st2 (sy_dL F L) i (sy_dv F v) = sy_dL F (sy_st2 L i v) := by
  unfold jm_st2 sy_st2
  rw [sy_cl_ok]
  unfold sy_dL
  rw [List.map_set, List.map_set]
  rfl
section SYS
variable {M : jm_M} {Ls : Nat} {xs : Nat → Int32} {bc bs : Nat} {e : jm_I} {pc : Nat} {L : List (Option Value)} {S : List Value} {G : jm_h} {q : Nat × Nat} {r : jm_St}
theorem jm_step_a1 (h : jm_a1 e.1 e.2.1 pc L S G q = some r) : jm_step M Ls xs bc bs e pc L S G q = some r := by
  unfold jm_step
  rw [h]
theorem jm_step_d1 (h1 : jm_a1 e.1 e.2.1 pc L S G q = none) (h : jm_d1 e pc L S G q = some r) : jm_step M Ls xs bc bs e pc L S G q = some r := by
  unfold jm_step
  rw [h1, h]
theorem jm_step_b1 (h1 : jm_a1 e.1 e.2.1 pc L S G q = none) (h2 : jm_d1 e pc L S G q = none) (h : jm_b1 e.1 e.2.1 pc L S G q = some r) : jm_step M Ls xs bc bs e pc L S G q = some r := by
  unfold jm_step
  rw [h1, h2, h]
theorem jm_step_c1 (h1 : jm_a1 e.1 e.2.1 pc L S G q = none) (h2 : jm_d1 e pc L S G q = none) (h3 : jm_b1 e.1 e.2.1 pc L S G q = none) (h : jm_c1 e.1 e.2.1 pc L S G q = some r) : jm_step M Ls xs bc bs e pc L S G q = some r := by
  unfold jm_step
  rw [h1, h2, h3, h]
theorem jm_step_a2 (h1 : jm_a1 e.1 e.2.1 pc L S G q = none) (h2 : jm_d1 e pc L S G q = none) (h3 : jm_b1 e.1 e.2.1 pc L S G q = none) (h4 : jm_c1 e.1 e.2.1 pc L S G q = none) (h : jm_a2 (jm_mx M) e.1 e.2.1 pc L S G q = some r) : jm_step M Ls xs bc bs e pc L S G q = some r := by
  unfold jm_step
  rw [h1, h2, h3, h4, h]
theorem jm_step_d2 (h1 : jm_a1 e.1 e.2.1 pc L S G q = none) (h2 : jm_d1 e pc L S G q = none) (h3 : jm_b1 e.1 e.2.1 pc L S G q = none) (h4 : jm_c1 e.1 e.2.1 pc L S G q = none) (h5 : jm_a2 (jm_mx M) e.1 e.2.1 pc L S G q = none) (h : jm_d2 M Ls xs bc bs e pc L S G q = some r) : jm_step M Ls xs bc bs e pc L S G q = some r := by
  unfold jm_step
  rw [h1, h2, h3, h4, h5, h]
theorem jm_step_b2 (h1 : jm_a1 e.1 e.2.1 pc L S G q = none) (h2 : jm_d1 e pc L S G q = none) (h3 : jm_b1 e.1 e.2.1 pc L S G q = none) (h4 : jm_c1 e.1 e.2.1 pc L S G q = none) (h5 : jm_a2 (jm_mx M) e.1 e.2.1 pc L S G q = none) (h6 : jm_d2 M Ls xs bc bs e pc L S G q = none) (h : jm_b2 e.1 e.2.1 pc L S G q = some r) : jm_step M Ls xs bc bs e pc L S G q = some r := by
  unfold jm_step
  rw [h1, h2, h3, h4, h5, h6, h]
theorem jm_step_d3 (h1 : jm_a1 e.1 e.2.1 pc L S G q = none) (h2 : jm_d1 e pc L S G q = none) (h3 : jm_b1 e.1 e.2.1 pc L S G q = none) (h4 : jm_c1 e.1 e.2.1 pc L S G q = none) (h5 : jm_a2 (jm_mx M) e.1 e.2.1 pc L S G q = none) (h6 : jm_d2 M Ls xs bc bs e pc L S G q = none) (h7 : jm_b2 e.1 e.2.1 pc L S G q = none) (h : jm_d3 e pc L S G q = some r) : jm_step M Ls xs bc bs e pc L S G q = some r := by
  unfold jm_step
  rw [h1, h2, h3, h4, h5, h6, h7, h]
end SYS
def sy_1 (mx : Nat) (ins : Instr) (n pc : Nat) (L : List (Option sy_v)) (S : List sy_v) (G : sy_h) (q : Nat × Nat) : Option sy_St := match ins with
  | .iconst k => if n = 1 then some (pc + 1, L, .inl (.int (Int32.ofInt k)) :: S, G, q) else none
  | .bipush k => if n = 2 then some (pc + 2, L, .inl (.int (Int8.ofInt k).toInt32) :: S, G, q) else none
  | .sipush k => if n = 3 then some (pc + 3, L, .inl (.int (Int16.ofInt k).toInt32) :: S, G, q) else none
  | .lconst k => if n = 1 then some (pc + 1, L, .inl (.long (Int64.ofNat (k : Nat))) :: S, G, q) else none
  | .iload_n k => if n = 1 then (match sy_ld L (k : Nat) with
    | some x => if sy_ty x = 0 then some (pc + 1, L, x :: S, G, q) else none
    | none => none) else none
  | .iload k => if n = 2 then (match sy_ld L k with
    | some x => if sy_ty x = 0 then some (pc + 2, L, x :: S, G, q) else none
    | none => none) else none
  | .lload_n k => if n = 1 then (match sy_ld L (k : Nat) with
    | some x => if sy_ty x = 1 then some (pc + 1, L, x :: S, G, q) else none
    | none => none) else none
  | .lload k => if n = 2 then (match sy_ld L k with
    | some x => if sy_ty x = 1 then some (pc + 2, L, x :: S, G, q) else none
    | none => none) else none
  | .aload_n k => if n = 1 then (match sy_ld L (k : Nat) with
    | some (.inl (.ref x)) => if x = 6 then none else some (pc + 1, L, .inl (.ref x) :: S, G, q)
    | _ => none) else none
  | .aload k => if n = 2 then (match sy_ld L k with
    | some (.inl (.ref x)) => if x = 6 then none else some (pc + 2, L, .inl (.ref x) :: S, G, q)
    | _ => none) else none
  | .istore_n k => if n = 1 ∧ (k : Nat) < mx then (match S with
    | x :: r => if sy_ty x = 0 then some (pc + 1, sy_st1 L (k : Nat) x, r, G, q) else none
    | [] => none) else none
  | .istore k => if n = 2 ∧ k < mx then (match S with
    | x :: r => if sy_ty x = 0 then some (pc + 2, sy_st1 L k x, r, G, q) else none
    | [] => none) else none
  | .lstore_n k => if n = 1 ∧ (k : Nat) + 1 < mx then (match S with
    | x :: r => if sy_ty x = 1 then some (pc + 1, sy_st2 L (k : Nat) x, r, G, q) else none
    | [] => none) else none
  | .lstore k => if n = 2 ∧ k + 1 < mx then (match S with
    | x :: r => if sy_ty x = 1 then some (pc + 2, sy_st2 L k x, r, G, q) else none
    | [] => none) else none
  | .astore_n k => if n = 1 ∧ (k : Nat) < mx then (match S with
    | .inl (.ref x) :: r => if x = 6 then none else some (pc + 1, sy_st1 L (k : Nat) (.inl (.ref x)), r, G, q)
    | _ => none) else none
  | .astore k => if n = 2 ∧ k < mx then (match S with
    | .inl (.ref x) :: r => if x = 6 then none else some (pc + 2, sy_st1 L k (.inl (.ref x)), r, G, q)
    | _ => none) else none
  | .dup => if n = 1 then (match S with
    | x :: r => if sy_ty x = 0 ∨ sy_ty x = 2 then some (pc + 1, L, x :: x :: r, G, q) else none
    | [] => none) else none
  | .pop => if n = 1 then (match S with
    | x :: r => if sy_ty x = 0 ∨ sy_ty x = 2 then some (pc + 1, L, r, G, q) else none
    | [] => none) else none
  | .dup2 => if n = 1 then (match S with
    | x :: .inl (.ref y) :: r => if sy_ty x = 0 then some (pc + 1, L, x :: .inl (.ref y) :: x :: .inl (.ref y) :: r, G, q) else none
    | _ => none) else none
  | .goto off => if n = 3 then (match jm_tg pc off with
    | some t => some (t, L, S, G, q)
    | none => none) else none
  | _ => none
theorem sy_ty2 {F : Nat → sy_d} {x : sy_v} (h : sy_ty x = 2) : ∃ a, x = .inl (.ref a) := by
  unfold sy_ty at h
  split at h <;> first | exact ⟨_, rfl⟩ | (exfalso; omega)
theorem sy_dvl (F : Nat → sy_d) (v : Value) : sy_dv F (.inl v) = v := rfl
section SY1
variable {M : jm_M} {Ls : Nat} {xs : Nat → Int32} {bc bs : Nat} {ins : Instr} {n la lb po pc : Nat} {L : List (Option sy_v)} {S : List sy_v} {G : sy_h} {q : Nat × Nat} {st : sy_St} {F : Nat → sy_d} {X1 X2 : List jm_c}
def sy_ds (F : Nat → sy_d) (X1 X2 : List jm_c) (st : sy_St) : jm_St := (st.1, sy_dL F st.2.1, sy_dS F st.2.2.1, sy_dh F X1 X2 st.2.2.2.1, st.2.2.2.2)
set_option maxHeartbeats 8000000 in
theorem sy_1_ok (h : sy_1 (jm_mx M) ins n pc L S G q = some st) : jm_step M Ls xs bc bs (ins, n, la, lb, po) pc (sy_dL F L) (sy_dS F S) (sy_dh F X1 X2 G) q = some (sy_ds F X1 X2 st) := by
  unfold sy_1 at h
  split at h
  · split at h
    · rename_i hn
      subst hn
      cases h
      exact jm_step_a1 rfl
    · cases h
  · split at h
    · rename_i hn
      subst hn
      cases h
      exact jm_step_a1 rfl
    · cases h
  · split at h
    · rename_i hn
      subst hn
      cases h
      exact jm_step_a1 rfl
    · cases h
  · split at h
    · rename_i hn
      subst hn
      cases h
      exact jm_step_a1 rfl
    · cases h
  · split at h
    · rename_i hn
      subst hn
      split at h
      · rename_i x hx
        split at h
        · rename_i ht
          cases h
          obtain ⟨a, ha⟩ := sy_ty0 (F := F) ht
          refine jm_step_a1 ?_
          simp only [jm_a1, sy_ld_ok, hx, Option.map_some, ha, if_pos]
          simp only [sy_ds, sy_dS, List.map_cons, ha]
        · cases h
      · cases h
    · cases h
  · split at h
    · rename_i hn
      subst hn
      split at h
      · rename_i x hx
        split at h
        · rename_i ht
          cases h
          obtain ⟨a, ha⟩ := sy_ty0 (F := F) ht
          refine jm_step_a1 ?_
          simp only [jm_a1, sy_ld_ok, hx, Option.map_some, ha, if_pos]
          simp only [sy_ds, sy_dS, List.map_cons, ha]
        · cases h
      · cases h
    · cases h
  · split at h
    · rename_i hn
      subst hn
      split at h
      · rename_i x hx
        split at h
        · rename_i ht
          cases h
          obtain ⟨a, ha⟩ := sy_ty1 (F := F) ht
          refine jm_step_a1 ?_
          simp only [jm_a1, sy_ld_ok, hx, Option.map_some, ha, if_pos]
          simp only [sy_ds, sy_dS, List.map_cons, ha]
        · cases h
      · cases h
    · cases h
  · split at h
    · rename_i hn
      subst hn
      split at h
      · rename_i x hx
        split at h
        · rename_i ht
          cases h
          obtain ⟨a, ha⟩ := sy_ty1 (F := F) ht
          refine jm_step_a1 ?_
          simp only [jm_a1, sy_ld_ok, hx, Option.map_some, ha, if_pos]
          simp only [sy_ds, sy_dS, List.map_cons, ha]
        · cases h
      · cases h
    · cases h
  · split at h
    · rename_i hn
      subst hn
      split at h
      · rename_i x hx
        split at h
        · cases h
        · rename_i h6
          cases h
          refine jm_step_a1 ?_
          simp only [jm_a1, sy_ld_ok, hx, Option.map_some, sy_dvl, if_pos, if_neg h6]
          rfl
      · cases h
    · cases h
  · split at h
    · rename_i hn
      subst hn
      split at h
      · rename_i x hx
        split at h
        · cases h
        · rename_i h6
          cases h
          refine jm_step_a1 ?_
          simp only [jm_a1, sy_ld_ok, hx, Option.map_some, sy_dvl, if_pos, if_neg h6]
          rfl
      · cases h
    · cases h
  · split at h
    · rename_i hn
      split at h
      · rename_i x r
        split at h
        · rename_i ht
          cases h
          obtain ⟨a, ha⟩ := sy_ty0 (F := F) ht
          refine jm_step_a2 rfl rfl (by unfold jm_b1; split <;> rfl) rfl ?_
          simp only [jm_a2, sy_dS, List.map_cons, ha, if_pos hn]
          rw [← ha, sy_st1_ok]
          rfl
        · cases h
      · cases h
    · cases h
  · split at h
    · rename_i hn
      split at h
      · rename_i x r
        split at h
        · rename_i ht
          cases h
          obtain ⟨a, ha⟩ := sy_ty0 (F := F) ht
          refine jm_step_a2 rfl rfl (by unfold jm_b1; split <;> rfl) rfl ?_
          simp only [jm_a2, sy_dS, List.map_cons, ha, if_pos hn]
          rw [← ha, sy_st1_ok]
          rfl
        · cases h
      · cases h
    · cases h
  · split at h
    · rename_i hn
      split at h
      · rename_i x r
        split at h
        · rename_i ht
          cases h
          obtain ⟨a, ha⟩ := sy_ty1 (F := F) ht
          refine jm_step_a2 rfl rfl (by unfold jm_b1; split <;> rfl) rfl ?_
          simp only [jm_a2, sy_dS, List.map_cons, ha, if_pos hn]
          rw [← ha, sy_st2_ok]
          rfl
        · cases h
      · cases h
    · cases h
  · split at h
    · rename_i hn
      split at h
      · rename_i x r
        split at h
        · rename_i ht
          cases h
          obtain ⟨a, ha⟩ := sy_ty1 (F := F) ht
          refine jm_step_a2 rfl rfl (by unfold jm_b1; split <;> rfl) rfl ?_
          simp only [jm_a2, sy_dS, List.map_cons, ha, if_pos hn]
          rw [← ha, sy_st2_ok]
          rfl
        · cases h
      · cases h
    · cases h
  · split at h
    · rename_i hn
      split at h
      · rename_i x r
        split at h
        · cases h
        · rename_i h6
          cases h
          refine jm_step_a2 rfl rfl (by unfold jm_b1; split <;> rfl) rfl ?_
          simp only [jm_a2, sy_dS, List.map_cons, sy_dvl, if_pos hn, if_neg h6]
          rw [show Value.ref x = sy_dv F (.inl (.ref x)) from rfl, sy_st1_ok]
          rfl
      · cases h
    · cases h
  · split at h
    · rename_i hn
      split at h
      · rename_i x r
        split at h
        · cases h
        · rename_i h6
          cases h
          refine jm_step_a2 rfl rfl (by unfold jm_b1; split <;> rfl) rfl ?_
          simp only [jm_a2, sy_dS, List.map_cons, sy_dvl, if_pos hn, if_neg h6]
          rw [show Value.ref x = sy_dv F (.inl (.ref x)) from rfl, sy_st1_ok]
          rfl
      · cases h
    · cases h
  · split at h
    · rename_i hn
      split at h
      · rename_i x r
        split at h
        · rename_i ht
          cases h
          refine jm_step_a2 rfl rfl (by unfold jm_b1; split <;> rfl) rfl ?_
          rcases ht with ht | ht
          · obtain ⟨a, ha⟩ := sy_ty0 (F := F) ht
            simp only [jm_a2, sy_dS, List.map_cons, ha, if_pos hn, sy_ds]
          · obtain ⟨a, ha⟩ := sy_ty2 (F := F) ht
            subst ha
            simp only [jm_a2, sy_dS, List.map_cons, sy_dvl, if_pos hn, sy_ds]
        · cases h
      · cases h
    · cases h
  · split at h
    · rename_i hn
      split at h
      · rename_i x r
        split at h
        · rename_i ht
          cases h
          refine jm_step_a2 rfl rfl (by unfold jm_b1; split <;> rfl) rfl ?_
          rcases ht with ht | ht
          · obtain ⟨a, ha⟩ := sy_ty0 (F := F) ht
            simp only [jm_a2, sy_dS, List.map_cons, ha, if_pos hn, sy_ds]
          · obtain ⟨a, ha⟩ := sy_ty2 (F := F) ht
            subst ha
            simp only [jm_a2, sy_dS, List.map_cons, sy_dvl, if_pos hn, sy_ds]
        · cases h
      · cases h
    · cases h
  · split at h
    · rename_i hn
      split at h
      · rename_i x y r
        split at h
        · rename_i ht
          cases h
          refine jm_step_a2 rfl rfl (by unfold jm_b1; split <;> rfl) rfl ?_
          obtain ⟨a, ha⟩ := sy_ty0 (F := F) ht
          simp only [jm_a2, sy_dS, List.map_cons, ha, sy_dvl, if_pos hn, sy_ds]
        · cases h
      · cases h
    · cases h
  · split at h
    · rename_i hn
      split at h
      · rename_i t ht
        cases h
        refine jm_step_c1 rfl rfl (by unfold jm_b1; split <;> rfl) ?_
        simp only [jm_c1, if_pos hn, ht]
        rfl
      · cases h
    · cases h
  · cases h
end SY1
