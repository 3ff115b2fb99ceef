/-! ===== fields and arrays, with symbols; the whole step ===== -/
def sy_4 (nv : Nat) (e : jm_I) (pc : Nat) (L : List (Option sy_v)) (S : List sy_v) (G : sy_h) (q : Nat × Nat) (x : sy_x) : Option (sy_St × sy_x) := match e.1 with
  | .getfield _ => if e.2.1 = 3 then (match S with
    | .inl (.ref a) :: r => if e.2.2.1 = 100 then (if a = 4 then some ((pc + 3, L, .inl (if e.2.2.2.1 = 0 then .int 0 else .ref 5) :: r, G, q), x) else none) else (match sy_gt G a with
      | some (.inr (ci, fs)) => if ci = e.2.2.1 then (match fs[e.2.2.2.1]? with
        | some v => some ((pc + 3, L, v :: r, G, q), x)
        | none => none) else none
      | _ => none)
    | _ => none) else none
  | .putfield _ => if e.2.1 = 3 then (match S with
    | v :: .inl (.ref a) :: r => (match sy_gt G a with
      | some (.inr (ci, fs)) => if ci = e.2.2.1 ∧ e.2.2.2.1 % 1000 < fs.length then (match sy_pv (e.2.2.2.1 / 1000 % 10) v x.2.1 with
        | some P1 => some ((pc + 3, L, r, sy_st G a (.inr (ci, fs.set (e.2.2.2.1 % 1000) v)), q), x.1, P1, x.2.2)
        | none => none) else none
      | _ => none)
    | _ => none) else none
  | .getstatic _ => if e.2.1 = 3 then (if e.2.2.1 = 3 then some ((pc + 3, L, .inl (.int 1) :: S, G, q), x) else if e.2.2.1 = 4 then some ((pc + 3, L, .inl (.ref 6) :: S, G, q), x) else if e.2.2.1 < 3 then some ((pc + 3, L, .inl (.ref (1 + e.2.2.1)) :: S, G, q), x) else none) else none
  | .ldc _ => if e.2.1 = 2 then some ((pc + 2, L, .inl (if e.2.2.2.1 = 0 then .int (Int32.ofNat e.2.2.1) else .ref 4) :: S, G, q), x) else none
  | .ldc_w _ => if e.2.1 = 3 then some ((pc + 3, L, .inl (.int (Int32.ofNat e.2.2.1)) :: S, G, q), x) else none
  | .ldc2_w _ => if e.2.1 = 3 then some ((pc + 3, L, .inl (.long (Int64.ofNat e.2.2.1)) :: S, G, q), x) else none
  | _ => none
def sy_5 (nv mx : Nat) (e : jm_I) (pc : Nat) (L : List (Option sy_v)) (S : List sy_v) (G : sy_h) (q : Nat × Nat) (x : sy_x) : Option (sy_St × sy_x) := match e.1 with
  | .iaload => if e.2.1 = 1 then (match S with
    | i :: .inl (.ref a) :: r => if a < 8 then (match i, jm_ea 0 (fun _ => 0) a with
        | .inl (.int v), some (kd, N, f) => if kd = 0 ∧ ¬ a = 0 then (bif jm_out v N then none else some ((pc + 1, L, .inl (.int (f v.toNatClampNeg)) :: r, G, q), x)) else none
        | _, _ => none)
      else (match sy_gt G a with
        | some (.inl (kd, N, c)) => if kd = 0 ∧ sy_ak c = 0 then (match sy_bd i N x.2.1 with
          | some P1 => some ((pc + 1, L, (sy_re nv c i x.1).1 :: r, G, q), (sy_re nv c i x.1).2, P1, x.2.2)
          | none => none) else none
        | _ => none)
    | _ => none) else none
  | .baload => if e.2.1 = 1 then (match S with
    | i :: .inl (.ref a) :: r => (match sy_gt G a with
        | some (.inl (kd, N, c)) => if (kd = 1 ∨ kd = 2) ∧ sy_ak c = 0 ∧ ¬ a < 8 then (match sy_bd i N x.2.1 with
          | some P1 => some ((pc + 1, L, (sy_re nv c i x.1).1 :: r, G, q), (sy_re nv c i x.1).2, P1, x.2.2)
          | none => none) else none
        | _ => none)
    | _ => none) else none
  | .laload => if e.2.1 = 1 then (match S with
    | i :: .inl (.ref a) :: r => (match sy_gt G a with
        | some (.inl (kd, N, c)) => if kd = 3 ∧ sy_ak c = 1 then (match sy_bd i N x.2.1 with
          | some P1 => some ((pc + 1, L, (sy_re nv c i x.1).1 :: r, G, q), (sy_re nv c i x.1).2, P1, x.2.2)
          | none => none) else none
        | _ => none)
    | _ => none) else none
  | .iastore => if e.2.1 = 1 then (match S with
    | v :: i :: .inl (.ref a) :: r => (match sy_gt G a with
        | some (.inl (kd, N, c)) => if kd = 0 ∧ sy_ak c = 0 ∧ sy_ty v = 0 then (match sy_bd i N x.2.1 with
          | some P1 => some ((pc + 1, L, r, sy_st G a (.inl (0, N, (sy_wr nv c i v x.1).1)), q), (sy_wr nv c i v x.1).2, P1, x.2.2)
          | none => none) else none
        | _ => none)
    | _ => none) else none
  | .bastore => if e.2.1 = 1 then (match S with
    | v :: i :: .inl (.ref a) :: r => (match sy_gt G a with
        | some (.inl (kd, N, c)) => if (kd = 1 ∨ kd = 2) ∧ sy_ak c = 0 ∧ sy_ty v = 0 then (match sy_bd i N x.2.1, sy_a1 nv (if kd = 1 then 22 else 24) 0 v x.1 with
          | some P1, (w, T1) => some ((pc + 1, L, r, sy_st G a (.inl (kd, N, (sy_wr nv c i w T1).1)), q), (sy_wr nv c i w T1).2, P1, x.2.2)
          | none, _ => none) else none
        | _ => none)
    | _ => none) else none
  | .lastore => if e.2.1 = 1 then (match S with
    | v :: i :: .inl (.ref a) :: r => (match sy_gt G a with
        | some (.inl (kd, N, c)) => if kd = 3 ∧ sy_ak c = 1 ∧ sy_ty v = 1 then (match sy_bd i N x.2.1 with
          | some P1 => some ((pc + 1, L, r, sy_st G a (.inl (3, N, (sy_wr nv c i v x.1).1)), q), (sy_wr nv c i v x.1).2, P1, x.2.2)
          | none => none) else none
        | _ => none)
    | _ => none) else none
  | .arraylength => if e.2.1 = 1 then (match S with
    | .inl (.ref a) :: r => if a < 8 then none else (match sy_gt G a with
        | some (.inl (kd, N, _)) => if kd < 4 then some ((pc + 1, L, .inl (.int (Int32.ofNat N)) :: r, G, q), x) else none
        | _ => none)
    | _ => none) else none
  | .iinc k d => if e.2.1 = 3 ∧ k < mx then (match sy_ld L k with
    | some v => if sy_ty v = 0 then some ((pc + 3, sy_st1 L k (sy_a2 nv 0 0 v (.inl (.int (Int32.ofInt d))) x.1).1, S, G, q), (sy_a2 nv 0 0 v (.inl (.int (Int32.ofInt d))) x.1).2, x.2) else none
    | none => none) else none
  | .invokestatic _ => if e.2.1 = 3 ∧ e.2.2.2.1 = 2 then (match S with
    | .inl (.int n) :: .inl (.int dp) :: .inl (.ref a1) :: .inl (.int sp) :: .inl (.ref a0) :: r => (match sy_gt G a0, sy_gt G a1 with
      | some (.inl (k0, n0, f)), some (.inl (k1, n1, g)) => if (k0 = 0 ∧ k1 = 0 ∧ sy_ak f = 0 ∧ sy_ak g = 0) ∧ (¬ sp < 0 ∧ ¬ dp < 0 ∧ ¬ n < 0) ∧ (sp.toNatClampNeg + n.toNatClampNeg ≤ n0 ∧ dp.toNatClampNeg + n.toNatClampNeg ≤ n1) ∧ (r.map sy_cat).sum ≤ 8 then (match f, g with
          | .inl f0, .inl g0 => some ((pc + 3, L, r, sy_st G a1 (.inl (0, n1, .inl (sy_cp f0 g0 (.int sp) (.int dp) (.int n)))), q), x)
          | _, _ => some ((pc + 3, L, r, sy_st G a1 (.inl (0, n1, .inr (.inl (nv + x.1.length)))), q), x.1 ++ [(42, [.inl (.int sp), .inl (.int dp), .inl (.int n)], [f, g])], x.2)) else none
      | _, _ => none)
    | _ => none) else none
  | _ => none
section SY4
variable {M : jm_M} {Ls : Nat} {xs : Nat → Int32} {bc bs : Nat} {i : jm_I} {pc nv : Nat} {L : List (Option sy_v)} {S : List sy_v} {G : sy_h} {q : Nat × Nat} {st : sy_St} {x y : sy_x}
set_option maxHeartbeats 8000000 in
theorem sy_4_ok (h : sy_4 nv i pc L S G q x = some (st, y)) : (∃ r, y.1 = x.1 ++ r) ∧ (∃ r, y.2.1 = x.2.1 ++ r) ∧ ∀ (F : Nat → sy_d) (X1 X2 : List jm_c), (∀ p ∈ y.2.1, sy_ps F p) →
    jm_step M Ls xs bc bs i pc (sy_dL F L) (sy_dS F S) (sy_dh F X1 X2 G) q = some (sy_ds F X1 X2 st) := by
  obtain ⟨ins, n, la, lb, po⟩ := i
  unfold sy_4 at h
  dsimp only at h
  split at h
  · split at h
    · rename_i hn
      subst hn
      split at h
      · rename_i a r
        split at h
        · rename_i h100
          split at h
          · rename_i ha
            cases h
            refine ⟨⟨[], (List.append_nil _).symm⟩, ⟨[], (List.append_nil _).symm⟩, fun F X1 X2 hp => jm_step_d1 rfl ?_⟩
            show jm_d1 _ pc (sy_dL F L) (.ref a :: sy_dS F r) _ q = _
            simp only [jm_d1, if_pos h100, if_pos ha]
            rfl
          · cases h
        · rename_i h100
          split at h
          · rename_i ci fs hg
            split at h
            · rename_i hci
              split at h
              · rename_i v hv
                cases h
                refine ⟨⟨[], (List.append_nil _).symm⟩, ⟨[], (List.append_nil _).symm⟩, fun F X1 X2 hp => jm_step_d1 rfl ?_⟩
                show jm_d1 _ pc (sy_dL F L) (.ref a :: sy_dS F r) _ q = _
                simp only [jm_d1, if_neg h100, sy_gt_ok hg, sy_dc, if_pos hci, List.getElem?_map, hv, Option.map_some]
                rfl
              · cases h
            · cases h
          · cases h
      · cases h
    · cases h
  · split at h
    · rename_i hn
      subst hn
      split at h
      · rename_i v a r
        split at h
        · rename_i ci fs hg
          split at h
          · rename_i hc
            split at h
            · rename_i P1 hpv
              cases h
              obtain ⟨k1, k2⟩ := sy_pv_ok hpv
              refine ⟨⟨[], (List.append_nil _).symm⟩, k1, fun F X1 X2 hp => jm_step_d1 rfl ?_⟩
              show jm_d1 _ pc (sy_dL F L) (sy_dv F v :: .ref a :: sy_dS F r) _ q = _
              have hcond : ci = la ∧ lb % 1000 < (fs.map (sy_dv F)).length ∧ jm_pv (lb / 1000 % 10) (sy_dv F v) = true := ⟨hc.1, by simpa using hc.2, k2 F hp⟩
              simp only [jm_d1, sy_gt_ok hg, sy_dc, if_pos hcond, if_pos]
              have : (.inr (ci, (fs.map (sy_dv F)).set (lb % 1000) (sy_dv F v)) : jm_c) = sy_dc F (.inr (ci, fs.set (lb % 1000) v)) := by simp only [sy_dc, List.map_set]
              rw [this, sy_st_ok hg]
              rfl
            · cases h
          · cases h
        · cases h
      · cases h
    · cases h
  · split at h
    · rename_i hn
      subst hn
      split at h
      · rename_i h3
        cases h
        refine ⟨⟨[], (List.append_nil _).symm⟩, ⟨[], (List.append_nil _).symm⟩, fun F X1 X2 hp => jm_step_d1 rfl ?_⟩
        simp only [jm_d1, if_pos h3]
        rfl
      · rename_i h3
        split at h
        · rename_i h4
          cases h
          refine ⟨⟨[], (List.append_nil _).symm⟩, ⟨[], (List.append_nil _).symm⟩, fun F X1 X2 hp => jm_step_d1 rfl ?_⟩
          simp only [jm_d1, if_neg h3, if_pos h4]
          rfl
        · rename_i h4
          split at h
          · rename_i h5
            cases h
            refine ⟨⟨[], (List.append_nil _).symm⟩, ⟨[], (List.append_nil _).symm⟩, fun F X1 X2 hp => jm_step_d1 rfl ?_⟩
            simp only [jm_d1, if_neg h3, if_neg h4, if_pos h5]
            rfl
          · cases h
    · cases h
  · split at h
    · rename_i hn
      subst hn
      cases h
      exact ⟨⟨[], (List.append_nil _).symm⟩, ⟨[], (List.append_nil _).symm⟩, fun F X1 X2 hp => jm_step_d1 rfl rfl⟩
    · cases h
  · split at h
    · rename_i hn
      subst hn
      cases h
      exact ⟨⟨[], (List.append_nil _).symm⟩, ⟨[], (List.append_nil _).symm⟩, fun F X1 X2 hp => jm_step_d1 rfl rfl⟩
    · cases h
  · split at h
    · rename_i hn
      subst hn
      cases h
      exact ⟨⟨[], (List.append_nil _).symm⟩, ⟨[], (List.append_nil _).symm⟩, fun F X1 X2 hp => jm_step_d1 rfl rfl⟩
    · cases h
  · cases h
end SY4
