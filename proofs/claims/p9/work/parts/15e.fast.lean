/-! ===== the same steps, cells and rows found faster ===== -/
noncomputable def zz_gt (G : sy_h) (k : Nat) : Option sy_c := bif Nat.blt k 8 then none else bif Nat.blt k 1000 then (match G.1 with
    | .inl l => fz_at l (k - 8)
    | .inr _ => none) else (match G.2 with
    | .inl l => fz_at l (k - 1000)
    | .inr _ => none)
theorem zz_blt (a b : Nat) {α : Type} (x y : α) : (bif Nat.blt a b then x else y) = if a < b then x else y := by
  by_cases h : a < b
  · have : Nat.blt a b = true := Nat.ble_eq_true_of_le h
    rw [this, if_pos h]
    rfl
  · have : Nat.blt a b = false := by
      cases hb : Nat.blt a b with
      | false => rfl
      | true => exact absurd (Nat.le_of_ble_eq_true hb) h
    rw [this, if_neg h]
    rfl
theorem zz_gt_eq (G : sy_h) (k : Nat) : zz_gt G k = sy_gt G k := by
  unfold zz_gt sy_gt
  rw [zz_blt, zz_blt]
  simp only [fz_at_eq]
  rfl
noncomputable def zz_sg (g : sy_g) (i : Nat) (c : sy_c) : sy_g := match g with
  | .inl l => .inl (fz_set l i c)
  | .inr u => .inr u
noncomputable def zz_st (G : sy_h) (k : Nat) (c : sy_c) : sy_h := bif Nat.blt k 1000 then (zz_sg G.1 (k - 8) c, G.2) else (G.1, zz_sg G.2 (k - 1000) c)
theorem zz_sg_eq (g : sy_g) (i : Nat) (c : sy_c) : zz_sg g i c = sy_sg g i c := by
  unfold zz_sg sy_sg
  simp only [fz_set_eq]
  rfl
theorem zz_st_eq (G : sy_h) (k : Nat) (c : sy_c) : zz_st G k c = sy_st G k c := by
  unfold zz_st sy_st
  rw [zz_blt, zz_sg_eq, zz_sg_eq]
noncomputable def zz_4 (nv : Nat) (e : jm_I) (pc : Nat) (L : List (Option sy_v)) (S : List sy_v) (G : sy_h) (q : Nat × Nat) (x : sy_x) : Option (sy_St × sy_x) := match e.1 with
  | .getfield _ => if e.2.1 = 3 then (match S with
    | .inl (.ref a) :: r => if e.2.2.1 = 100 then (if a = 4 then some ((pc + 3, L, .inl (if e.2.2.2.1 = 0 then .int 0 else .ref 5) :: r, G, q), x) else none) else (match zz_gt G a with
      | some (.inr (ci, fs)) => if ci = e.2.2.1 then (match fs[e.2.2.2.1]? with
        | some v => some ((pc + 3, L, v :: r, G, q), x)
        | none => none) else none
      | _ => none)
    | _ => none) else none
  | .putfield _ => if e.2.1 = 3 then (match S with
    | v :: .inl (.ref a) :: r => (match zz_gt G a with
      | some (.inr (ci, fs)) => if ci = e.2.2.1 ∧ e.2.2.2.1 % 1000 < fs.length then (match sy_pv (e.2.2.2.1 / 1000 % 10) v x.2.1 with
        | some P1 => some ((pc + 3, L, r, zz_st G a (.inr (ci, fs.set (e.2.2.2.1 % 1000) v)), q), x.1, P1, x.2.2)
        | none => none) else none
      | _ => none)
    | _ => none) else none
  | .getstatic _ => if e.2.1 = 3 then (if e.2.2.1 = 3 then some ((pc + 3, L, .inl (.int 1) :: S, G, q), x) else if e.2.2.1 = 4 then some ((pc + 3, L, .inl (.ref 6) :: S, G, q), x) else if e.2.2.1 < 3 then some ((pc + 3, L, .inl (.ref (1 + e.2.2.1)) :: S, G, q), x) else none) else none
  | .ldc _ => if e.2.1 = 2 then some ((pc + 2, L, .inl (if e.2.2.2.1 = 0 then .int (Int32.ofNat e.2.2.1) else .ref 4) :: S, G, q), x) else none
  | .ldc_w _ => if e.2.1 = 3 then some ((pc + 3, L, .inl (.int (Int32.ofNat e.2.2.1)) :: S, G, q), x) else none
  | .ldc2_w _ => if e.2.1 = 3 then some ((pc + 3, L, .inl (.long (Int64.ofNat e.2.2.1)) :: S, G, q), x) else none
  | _ => none
theorem zz_4_eq (nv : Nat) (e : jm_I) (pc : Nat) (L : List (Option sy_v)) (S : List sy_v) (G : sy_h) (q : Nat × Nat) (x : sy_x) : zz_4 nv e pc L S G q x = sy_4 nv e pc L S G q x := by
  unfold zz_4 sy_4
  simp only [zz_gt_eq, zz_st_eq]
  rfl
noncomputable def zz_5 (nv mx : Nat) (e : jm_I) (pc : Nat) (L : List (Option sy_v)) (S : List sy_v) (G : sy_h) (q : Nat × Nat) (x : sy_x) : Option (sy_St × sy_x) := match e.1 with
  | .iaload => if e.2.1 = 1 then (match S with
    | i :: .inl (.ref a) :: r => if a < 8 then (match i, jm_ea 0 (fun _ => 0) a with
        | .inl (.int v), some (kd, N, f) => if kd = 0 ∧ ¬ a = 0 then (bif jm_out v N then none else some ((pc + 1, L, .inl (.int (f v.toNatClampNeg)) :: r, G, q), x)) else none
        | _, _ => none)
      else (match zz_gt G a with
        | some (.inl (kd, N, c)) => if kd = 0 ∧ sy_ak c = 0 then (match sy_bd i N x.2.1 with
          | some P1 => some ((pc + 1, L, (sy_re nv c i x.1).1 :: r, G, q), (sy_re nv c i x.1).2, P1, x.2.2)
          | none => none) else none
        | _ => none)
    | _ => none) else none
  | .baload => if e.2.1 = 1 then (match S with
    | i :: .inl (.ref a) :: r => (match zz_gt G a with
        | some (.inl (kd, N, c)) => if (kd = 1 ∨ kd = 2) ∧ sy_ak c = 0 ∧ ¬ a < 8 then (match sy_bd i N x.2.1 with
          | some P1 => some ((pc + 1, L, (sy_re nv c i x.1).1 :: r, G, q), (sy_re nv c i x.1).2, P1, x.2.2)
          | none => none) else none
        | _ => none)
    | _ => none) else none
  | .laload => if e.2.1 = 1 then (match S with
    | i :: .inl (.ref a) :: r => (match zz_gt G a with
        | some (.inl (kd, N, c)) => if kd = 3 ∧ sy_ak c = 1 then (match sy_bd i N x.2.1 with
          | some P1 => some ((pc + 1, L, (sy_re nv c i x.1).1 :: r, G, q), (sy_re nv c i x.1).2, P1, x.2.2)
          | none => none) else none
        | _ => none)
    | _ => none) else none
  | .iastore => if e.2.1 = 1 then (match S with
    | v :: i :: .inl (.ref a) :: r => (match zz_gt G a with
        | some (.inl (kd, N, c)) => if kd = 0 ∧ sy_ak c = 0 ∧ sy_ty v = 0 then (match sy_bd i N x.2.1 with
          | some P1 => some ((pc + 1, L, r, zz_st G a (.inl (0, N, (sy_wr nv c i v x.1).1)), q), (sy_wr nv c i v x.1).2, P1, x.2.2)
          | none => none) else none
        | _ => none)
    | _ => none) else none
  | .bastore => if e.2.1 = 1 then (match S with
    | v :: i :: .inl (.ref a) :: r => (match zz_gt G a with
        | some (.inl (kd, N, c)) => if (kd = 1 ∨ kd = 2) ∧ sy_ak c = 0 ∧ sy_ty v = 0 then (match sy_bd i N x.2.1, sy_a1 nv (if kd = 1 then 22 else 24) 0 v x.1 with
          | some P1, (w, T1) => some ((pc + 1, L, r, zz_st G a (.inl (kd, N, (sy_wr nv c i w T1).1)), q), (sy_wr nv c i w T1).2, P1, x.2.2)
          | none, _ => none) else none
        | _ => none)
    | _ => none) else none
  | .lastore => if e.2.1 = 1 then (match S with
    | v :: i :: .inl (.ref a) :: r => (match zz_gt G a with
        | some (.inl (kd, N, c)) => if kd = 3 ∧ sy_ak c = 1 ∧ sy_ty v = 1 then (match sy_bd i N x.2.1 with
          | some P1 => some ((pc + 1, L, r, zz_st G a (.inl (3, N, (sy_wr nv c i v x.1).1)), q), (sy_wr nv c i v x.1).2, P1, x.2.2)
          | none => none) else none
        | _ => none)
    | _ => none) else none
  | .arraylength => if e.2.1 = 1 then (match S with
    | .inl (.ref a) :: r => if a < 8 then none else (match zz_gt G a with
        | some (.inl (kd, N, _)) => if kd < 4 then some ((pc + 1, L, .inl (.int (Int32.ofNat N)) :: r, G, q), x) else none
        | _ => none)
    | _ => none) else none
  | .iinc k d => if e.2.1 = 3 ∧ k < mx then (match sy_ld L k with
    | some v => if sy_ty v = 0 then some ((pc + 3, sy_st1 L k (sy_a2 nv 0 0 v (.inl (.int (Int32.ofInt d))) x.1).1, S, G, q), (sy_a2 nv 0 0 v (.inl (.int (Int32.ofInt d))) x.1).2, x.2) else none
    | none => none) else none
  | .invokestatic _ => if e.2.1 = 3 ∧ e.2.2.2.1 = 2 then (match S with
    | .inl (.int n) :: .inl (.int dp) :: .inl (.ref a1) :: .inl (.int sp) :: .inl (.ref a0) :: r => (match zz_gt G a0, zz_gt G a1 with
      | some (.inl (k0, n0, f)), some (.inl (k1, n1, g)) => if (k0 = 0 ∧ k1 = 0 ∧ sy_ak f = 0 ∧ sy_ak g = 0) ∧ (¬ sp < 0 ∧ ¬ dp < 0 ∧ ¬ n < 0) ∧ (sp.toNatClampNeg + n.toNatClampNeg ≤ n0 ∧ dp.toNatClampNeg + n.toNatClampNeg ≤ n1) ∧ (r.map sy_cat).sum ≤ 8 then (match f, g with
          | .inl f0, .inl g0 => some ((pc + 3, L, r, zz_st G a1 (.inl (0, n1, .inl (sy_cp f0 g0 (.int sp) (.int dp) (.int n)))), q), x)
          | _, _ => some ((pc + 3, L, r, zz_st G a1 (.inl (0, n1, .inr (.inl (nv + x.1.length)))), q), x.1 ++ [(42, [.inl (.int sp), .inl (.int dp), .inl (.int n)], [f, g])], x.2)) else none
      | _, _ => none)
    | _ => none) else none
  | _ => none
theorem zz_5_eq (nv mx : Nat) (e : jm_I) (pc : Nat) (L : List (Option sy_v)) (S : List sy_v) (G : sy_h) (q : Nat × Nat) (x : sy_x) : zz_5 nv mx e pc L S G q x = sy_5 nv mx e pc L S G q x := by
  unfold zz_5 sy_5
  simp only [zz_gt_eq, zz_st_eq]
  rfl
noncomputable def zz_rok (G : sy_h) (M1 : jm_M) (b : Nat) : Bool := if jm_rc M1 = 100 then decide (b = 4) else (match zz_gt G b with
  | some (.inr (ci, _)) => decide (ci = jm_rc M1)
  | _ => false)
theorem zz_rok_eq (G : sy_h) (M1 : jm_M) (b : Nat) : zz_rok G M1 b = sy_rok G M1 b := by
  unfold zz_rok sy_rok
  simp only [zz_gt_eq]
  rfl
noncomputable def zz_cf (TB : List jm_M) (e : jm_I) (G : sy_h) (S : List sy_v) : Option (jm_M × List sy_v × List sy_v) := match e.1 with
  | .invokestatic _ => if e.2.1 = 3 ∧ e.2.2.2.1 < 2 then (match fz_at TB e.2.2.1 with
    | some M1 => if jm_kd M1 = 0 ∧ jm_na M1 ≤ S.length ∧ ((S.drop (jm_na M1)).map sy_cat).sum ≤ 8 then some (M1, (S.take (jm_na M1)).reverse, S.drop (jm_na M1)) else none
    | none => none) else none
  | .invokevirtual _ => if e.2.1 = 3 ∧ e.2.2.2.1 < 2 then (match fz_at TB e.2.2.1 with
    | some M1 => if jm_kd M1 = 1 ∧ jm_na M1 ≤ S.length then (match S.drop (jm_na M1) with
      | .inl (.ref b) :: r => if (r.map sy_cat).sum ≤ 8 ∧ zz_rok G M1 b = true then some (M1, .inl (.ref b) :: (S.take (jm_na M1)).reverse, r) else none
      | _ => none) else none
    | none => none) else none
  | _ => none
theorem zz_cf_eq (TB : List jm_M) (e : jm_I) (G : sy_h) (S : List sy_v) : zz_cf TB e G S = sy_cf TB e G S := by
  unfold zz_cf sy_cf
  simp only [fz_at_eq, zz_rok_eq]
  rfl
noncomputable def zz_in (M : jm_M) (pc : Nat) : Option jm_I := (match fz_at (jm_tb M) (pc / 16) with
  | some r => (match fz_at r (pc % 16) with
    | some o => o
    | none => none)
  | none => none)
theorem zz_in_eq (M : jm_M) (pc : Nat) : zz_in M pc = jm_in M pc := by
  unfold zz_in jm_in
  rw [fz_at_eq]
  cases (jm_tb M)[pc / 16]? with
  | none => rfl
  | some r =>
    dsimp only
    rw [fz_at_eq]
    show _ = (r[pc % 16]?).join
    cases r[pc % 16]? with
    | none => rfl
    | some o => rfl
