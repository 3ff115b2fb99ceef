/-! ===== runs with symbols, once more: switches by a number that is not known, tables that lay there before, copies to a place that is not known ===== -/
noncomputable def zz_x (a : Nat) : Option (List Int32) := if a = 1 then some jm_x1 else if a = 2 then some jm_x2 else if a = 3 then some jm_x3 else none
noncomputable def zz_sw : List Int → Int → List Bool → Option (Int × Int × List Bool)
  | [], _, _ => none
  | o :: _, v, true :: O => some (v, o, O)
  | _ :: r, v, false :: O => zz_sw r (v + 1) O
  | _ :: _, _, [] => none
theorem zz_sw_ok : ∀ {offs : List Int} {v : Int} {O : List Bool} {w off : Int} {O1 : List Bool}, zz_sw offs v O = some (w, off, O1) → ∃ j : Nat, offs[j]? = some off ∧ w = v + j
  | [], v, O, w, off, O1, h => by simp [zz_sw] at h
  | o :: r, v, [], w, off, O1, h => by simp [zz_sw] at h
  | o :: r, v, true :: O, w, off, O1, h => by
    simp only [zz_sw] at h
    cases h
    exact ⟨0, rfl, by simp⟩
  | o :: r, v, false :: O, w, off, O1, h => by
    simp only [zz_sw] at h
    obtain ⟨j, h1, h2⟩ := zz_sw_ok h
    exact ⟨j + 1, by simpa using h1, by omega⟩
noncomputable def zz_6 (nv : Nat) (e : jm_I) (pc : Nat) (L : List (Option sy_v)) (S : List sy_v) (G : sy_h) (q : Nat × Nat) (x : sy_x) : Option (sy_St × sy_x) := match e.1 with
  | .tableswitch dflt lo hi offs => (match S with
    | .inr (.inl a) :: r => (match x.2.2 with
      | true :: b :: O1 => if (Int32.ofInt lo).toInt = lo ∧ (Int32.ofInt hi).toInt = hi then (match jm_tg pc dflt with
        | some t => some ((t, L, r, G, q), x.1, x.2.1 ++ [bif b then (2, .inr (.inl a), .inl (.int (Int32.ofInt lo))) else (2, .inl (.int (Int32.ofInt hi)), .inr (.inl a))], O1)
        | none => none) else none
      | false :: O1 => (match zz_sw offs.toList lo O1 with
        | some (w, off, O2) => if (Int32.ofInt w).toInt = w ∧ w ≤ hi then (match jm_tg pc off with
          | some t => some ((t, L, r, G, q), x.1, x.2.1 ++ [(0, .inr (.inl a), .inl (.int (Int32.ofInt w)))], O2)
          | none => none) else none
        | none => none)
      | _ => none)
    | _ => none)
  | .iaload => if e.2.1 = 1 then (match S with
    | .inr (.inl k) :: .inl (.ref a) :: r => (match zz_x a with
      | some l => some ((pc + 1, L, .inr (.inl (nv + x.1.length)) :: r, G, q), x.1 ++ [(30, [.inr (.inl k)], [.inl (.inl l)])], x.2.1 ++ [(6, .inr (.inl k), .inl (.ref 6))], x.2.2)
      | none => none)
    | _ => none) else none
  | .invokestatic _ => if e.2.1 = 3 ∧ e.2.2.2.1 = 2 then (match S with
    | .inl (.int n) :: dp :: .inl (.ref a1) :: sp :: .inl (.ref a0) :: r => (match sy_gt G a0, sy_gt G a1 with
      | some (.inl (k0, n0, f)), some (.inl (k1, n1, g)) => if (k0 = 0 ∧ k1 = 0 ∧ sy_ak f = 0 ∧ sy_ak g = 0) ∧ (¬ n < 0 ∧ n.toNatClampNeg ≤ n0 ∧ n.toNatClampNeg ≤ n1) ∧ (r.map sy_cat).sum ≤ 8 then (match sy_bd sp (n0 - n.toNatClampNeg + 1) x.2.1 with
        | some P1 => (match sy_bd dp (n1 - n.toNatClampNeg + 1) P1 with
          | some P2 => some ((pc + 3, L, r, sy_st G a1 (.inl (0, n1, .inr (.inl (nv + x.1.length)))), q), x.1 ++ [(42, [sp, dp, .inl (.int n)], [f, g])], P2, x.2.2)
          | none => none)
        | none => none) else none
      | _, _ => none)
    | _ => none) else none
  | _ => none
theorem zz_x_ok {Ls : Nat} {xs : Nat → Int32} {a : Nat} {l : List Int32} (h : zz_x a = some l) : a < 8 ∧ jm_ea Ls xs a = some (0, 6, fun j => l.getD j 0) := by
  unfold zz_x at h
  split at h
  · rename_i e; subst e; cases h; exact ⟨by decide, rfl⟩
  · split at h
    · rename_i e; subst e; cases h; exact ⟨by decide, rfl⟩
    · split at h
      · rename_i e; subst e; cases h; exact ⟨by decide, rfl⟩
      · cases h
theorem zz_out {v : Int32} {N m : Nat} (h : jm_out v (N - m + 1) = false) (hm : m ≤ N) : ¬ v < 0 ∧ v.toNatClampNeg + m ≤ N := by
  unfold jm_out at h
  rw [Bool.or_eq_false_iff] at h
  have h1 := of_decide_eq_false h.1
  have h2 := of_decide_eq_false h.2
  exact ⟨h1, by omega⟩
set_option maxHeartbeats 8000000 in
theorem zz_6_ok {M : jm_M} {Ls : Nat} {xs : Nat → Int32} {bc bs : Nat} {i : jm_I} {pc nv : Nat} {L : List (Option sy_v)} {S : List sy_v} {G : sy_h} {q : Nat × Nat} {st : sy_St} {x y : sy_x} (h : zz_6 nv i pc L S G q x = some (st, y)) : ((∃ r, y.1 = x.1 ++ r) ∧ (∃ r, y.2.1 = x.2.1 ++ r) ∧ ∀ (F : Nat → sy_d) (X1 X2 : List jm_c) (r : List sy_e), sy_sat F nv (y.1 ++ r) → (∀ p ∈ y.2.1, sy_ps F p) →
    jm_step M Ls xs bc bs i pc (sy_dL F L) (sy_dS F S) (sy_dh F X1 X2 G) q = some (sy_ds F X1 X2 st)) ∧ st.2.2.2.2 = q := by
  obtain ⟨ins, n, la, lb, po⟩ := i
  unfold zz_6 at h
  dsimp only at h
  split at h
  · rename_i dflt lo hi offs
    split at h
    · rename_i a r
      split at h
      · rename_i b O1 hO
        split at h
        · rename_i hlh
          split at h
          · rename_i t ht
            cases h
            refine ⟨⟨⟨[], (List.append_nil _).symm⟩, ⟨_, rfl⟩, fun F X1 X2 r2 hs hp => jm_step_c1 rfl rfl (by unfold jm_b1; split <;> rfl) ?_⟩, rfl⟩
            have h1 := hp _ (List.mem_append_right _ List.mem_cons_self)
            have h2 : (sy_i F a).toInt < lo ∨ hi < (sy_i F a).toInt := by
              cases b with
              | true =>
                have h3 : sy_i F a < Int32.ofInt lo := h1
                left
                have := Int32.lt_iff_toInt_lt.mp h3
                rw [hlh.1] at this
                exact this
              | false =>
                have h3 : Int32.ofInt hi < sy_i F a := h1
                right
                have := Int32.lt_iff_toInt_lt.mp h3
                rw [hlh.2] at this
                exact this
            show jm_c1 (.tableswitch dflt lo hi offs) n pc (sy_dL F L) (.int (sy_i F a) :: sy_dS F r) _ q = _
            simp only [jm_c1, if_pos h2, ht]
            rfl
          · cases h
        · cases h
      · rename_i O1 hO
        split at h
        · rename_i w off O2 hw
          split at h
          · rename_i hlh
            split at h
            · rename_i t ht
              cases h
              refine ⟨⟨⟨[], (List.append_nil _).symm⟩, ⟨_, rfl⟩, fun F X1 X2 r2 hs hp => jm_step_c1 rfl rfl (by unfold jm_b1; split <;> rfl) ?_⟩, rfl⟩
              have h1 : sy_i F a = Int32.ofInt w := hp _ (List.mem_append_right _ List.mem_cons_self)
              obtain ⟨j, hj, hwj⟩ := zz_sw_ok hw
              have h2 : (sy_i F a).toInt = w := by rw [h1, hlh.1]
              have h3 : ¬ ((sy_i F a).toInt < lo ∨ hi < (sy_i F a).toInt) := by omega
              have h4 : ((sy_i F a).toInt - lo).toNat = j := by omega
              have h5 : offs[((sy_i F a).toInt - lo).toNat]? = some off := by
                rw [h4, ← Array.getElem?_toList]
                exact hj
              show jm_c1 (.tableswitch dflt lo hi offs) n pc (sy_dL F L) (.int (sy_i F a) :: sy_dS F r) _ q = _
              simp only [jm_c1, if_neg h3, h5, ht]
              rfl
            · cases h
          · cases h
        · cases h
      · cases h
    · cases h
  · split at h
    · rename_i hn
      split at h
      · rename_i k a r
        split at h
        · rename_i l hl
          cases h
          refine ⟨⟨⟨_, rfl⟩, ⟨_, rfl⟩, fun F X1 X2 r2 hs hp => jm_step_d2 rfl rfl (by unfold jm_b1; split <;> rfl) rfl rfl ?_⟩, rfl⟩
          obtain ⟨ha, hea⟩ := zz_x_ok (Ls := Ls) (xs := xs) hl
          have h1 : jm_out (sy_i F k) 6 = false := hp _ (List.mem_append_right _ List.mem_cons_self)
          have he := sy_sat_last hs
          have hv : sy_i F (nv + x.1.length) = l.getD (sy_i F k).toNatClampNeg 0 := by
            simp only [sy_i, he]
            rfl
          show jm_d2 M Ls xs bc bs _ pc (sy_dL F L) (.int (sy_i F k) :: .ref a :: sy_dS F r) _ q = _
          simp only [jm_d2, if_pos hn, if_pos ha, hea, h1, cond, if_pos]
          rw [← hv]
          rfl
        · cases h
      · cases h
    · cases h
  · rename_i idx
    split at h
    · rename_i hn
      split at h
      · rename_i nn dp a1 sp a0 r
        split at h
        · rename_i k0 n0 f k1 n1 g hg0 hg1
          split at h
          · rename_i hc
            split at h
            · rename_i P1 hb1
              split at h
              · rename_i P2 hb2
                cases h
                obtain ⟨⟨s1, e1⟩, c1⟩ := sy_bd_ok hb1
                obtain ⟨⟨s2, e2⟩, c2⟩ := sy_bd_ok hb2
                refine ⟨⟨⟨_, rfl⟩, ⟨s1 ++ s2, by rw [e2, e1, List.append_assoc]⟩, fun F X1 X2 r2 hs hp => ?_⟩, rfl⟩
                obtain ⟨vd, hd1, hd2⟩ := c2 F hp
                obtain ⟨vs, hs1, hs2⟩ := c1 F (fun z hz => hp z (by rw [e2]; exact List.mem_append_left _ hz))
                obtain ⟨d1, d2⟩ := zz_out hd2 hc.2.1.2.2
                obtain ⟨d3, d4⟩ := zz_out hs2 hc.2.1.2.1
                obtain ⟨lf, hlf⟩ := sy_ak0 (F := F) hc.1.2.2.1
                obtain ⟨lg, hlg⟩ := sy_ak0 (F := F) hc.1.2.2.2
                have he := sy_sat_last hs
                have hsem : sy_sem F (42, [sp, dp, .inl (.int nn)], [f, g]) = .inr (sy_cp (sy_da F f) (sy_da F g) (sy_dv F sp) (sy_dv F dp) (.int nn)) := rfl
                rw [hsem, hlf, hlg, hd1, hs1] at he
                have hzz : sy_da F (.inr (.inl (nv + x.1.length))) = .inl (jm_cpy lf lg vs.toNatClampNeg vd.toNatClampNeg nn.toNatClampNeg) := by
                  simp only [sy_da, sy_ai, he, sy_cp]
                refine jm_step_d3 rfl rfl (by unfold jm_b1; split <;> rfl) rfl rfl rfl (by unfold jm_b2; split <;> rfl) ?_
                show jm_d3 _ pc (sy_dL F L) (.int nn :: sy_dv F dp :: .ref a1 :: sy_dv F sp :: .ref a0 :: sy_dS F r) _ q = _
                rw [hd1, hs1]
                have hcs : jm_cs (sy_dS F r) ≤ 8 := by
                  have : jm_cs (sy_dS F r) = (r.map sy_cat).sum := by
                    unfold jm_cs sy_dS
                    rw [List.map_map]
                    congr 1
                    exact List.map_congr_left (fun w _ => sy_cat_ok F w)
                  rw [this]
                  exact hc.2.2
                have hcond : (k0 = 0 ∧ k1 = 0) ∧ (¬ vs < 0 ∧ ¬ vd < 0 ∧ ¬ nn < 0) ∧ (vs.toNatClampNeg + nn.toNatClampNeg ≤ n0 ∧ vd.toNatClampNeg + nn.toNatClampNeg ≤ n1) ∧ jm_cs (sy_dS F r) ≤ 8 := ⟨⟨hc.1.1, hc.1.2.1⟩, ⟨d3, d1, hc.2.1.1⟩, ⟨d4, d2⟩, hcs⟩
                simp only [jm_d3, if_pos hn, sy_gt_ok hg0, sy_gt_ok hg1, sy_dc, hlf, hlg, if_pos hcond]
                have : (.inl (0, n1, .inl (jm_cpy lf lg vs.toNatClampNeg vd.toNatClampNeg nn.toNatClampNeg)) : jm_c) = sy_dc F (.inl (0, n1, .inr (.inl (nv + x.1.length)))) := by simp only [sy_dc, hzz]
                rw [this, sy_st_ok hg1]
                rfl
              · cases h
            · cases h
          · cases h
        · cases h
      · cases h
    · cases h
  · cases h
/-- which of the steps an instruction takes -/
noncomputable def zz_cls (i : Instr) : Nat := match i with
  | .iconst _ => 1
  | .bipush _ => 1
  | .sipush _ => 1
  | .lconst _ => 1
  | .iload_n _ => 1
  | .iload _ => 1
  | .lload_n _ => 1
  | .lload _ => 1
  | .aload_n _ => 1
  | .aload _ => 1
  | .istore_n _ => 1
  | .istore _ => 1
  | .lstore_n _ => 1
  | .lstore _ => 1
  | .astore_n _ => 1
  | .astore _ => 1
  | .dup => 1
  | .pop => 1
  | .dup2 => 1
  | .goto _ => 1
  | .getfield _ => 4
  | .putfield _ => 14
  | .getstatic _ => 4
  | .ldc _ => 4
  | .ldc_w _ => 4
  | .ldc2_w _ => 4
  | .ifCond _ _ => 3
  | .if_icmp _ _ => 3
  | .tableswitch _ _ _ _ => 6
  | .iaload => 7
  | .baload => 5
  | .laload => 5
  | .iastore => 15
  | .bastore => 15
  | .lastore => 15
  | .arraylength => 5
  | .iinc _ _ => 25
  | .invokestatic _ => 8
  | .invokevirtual _ => 0
  | .ireturn => 0
  | .lreturn => 0
  | .return_ => 0
  | _ => 2
noncomputable def zz_stp (c nv : Nat) (M : jm_M) (e : jm_I) (pc : Nat) (L : List (Option sy_v)) (S : List sy_v) (G : sy_h) (q : Nat × Nat) (x : sy_x) : Option (sy_St × sy_x) :=
  bif Nat.beq c 1 then (match sy_1 (jm_mx M) e.1 e.2.1 pc L S G q with
    | some r => some (r, x)
    | none => none)
  else bif Nat.beq c 4 || Nat.beq c 14 then zz_4 nv e pc L S G q x
  else bif Nat.beq c 3 then sy_3 e.1 e.2.1 pc L S G q x
  else bif Nat.beq c 2 then sy_2 nv e.1 e.2.1 pc L S G q x
  else bif Nat.beq c 5 || Nat.beq c 15 || Nat.beq c 25 then zz_5 nv (jm_mx M) e pc L S G q x
  else bif Nat.beq c 7 then (match zz_5 nv (jm_mx M) e pc L S G q x with
    | some r => some r
    | none => zz_6 nv e pc L S G q x)
  else bif Nat.beq c 6 then (match zz_6 nv e pc L S G q x with
    | some r => some r
    | none => sy_3 e.1 e.2.1 pc L S G q x)
  else bif Nat.beq c 8 then zz_6 nv e pc L S G q x
  else none
theorem zz_stp_ok {c : Nat} {M : jm_M} {Ls : Nat} {xs : Nat → Int32} {bc bs : Nat} {i : jm_I} {pc nv : Nat} {L : List (Option sy_v)} {S : List sy_v} {G : sy_h} {x y : sy_x} {st : sy_St} (h : zz_stp c nv M i pc L S G (0, 0) x = some (st, y)) : ((∃ r, y.1 = x.1 ++ r) ∧ (∃ r, y.2.1 = x.2.1 ++ r) ∧ ∀ (F : Nat → sy_d) (X1 X2 : List jm_c) (r : List sy_e), sy_sat F nv (y.1 ++ r) → (∀ p ∈ y.2.1, sy_ps F p) →
    jm_step M Ls xs bc bs i pc (sy_dL F L) (sy_dS F S) (sy_dh F X1 X2 G) (0, 0) = some (sy_ds F X1 X2 st)) ∧ st.2.2.2.2 = (0, 0) := by
  have t1 : ∀ {r : sy_St}, sy_1 (jm_mx M) i.1 i.2.1 pc L S G (0, 0) = some r → r.2.2.2.2 = (0, 0) := by
    intro r h
    unfold sy_1 at h
    repeat' split at h
    all_goals first | (cases h; rfl) | cases h
  have t4 : ∀ {r : sy_St × sy_x}, sy_4 nv i pc L S G (0, 0) x = some r → r.1.2.2.2.2 = (0, 0) := by
    intro r h
    unfold sy_4 at h
    repeat' split at h
    all_goals first | (cases h; rfl) | cases h
  have t2 : ∀ {r : sy_St × sy_x}, sy_2 nv i.1 i.2.1 pc L S G (0, 0) x = some r → r.1.2.2.2.2 = (0, 0) := by
    intro r h
    unfold sy_2 at h
    repeat' split at h
    all_goals first | (cases h; rfl) | cases h
  have t3 : ∀ {r : sy_St × sy_x}, sy_3 i.1 i.2.1 pc L S G (0, 0) x = some r → r.1.2.2.2.2 = (0, 0) := by
    intro r h
    unfold sy_3 at h
    repeat' split at h
    all_goals first | (cases h; rfl) | cases h
  have t5 : ∀ {r : sy_St × sy_x}, sy_5 nv (jm_mx M) i pc L S G (0, 0) x = some r → r.1.2.2.2.2 = (0, 0) := by
    intro r h
    unfold sy_5 at h
    repeat' split at h
    all_goals first | (cases h; rfl) | cases h | (unfold cond at h; split at h <;> first | (cases h; rfl) | cases h)
  obtain ⟨ins, n, la, lb, po⟩ := i
  have k4 : sy_4 nv (ins, n, la, lb, po) pc L S G (0, 0) x = some (st, y) → ((∃ r, y.1 = x.1 ++ r) ∧ (∃ r, y.2.1 = x.2.1 ++ r) ∧ ∀ (F : Nat → sy_d) (X1 X2 : List jm_c) (r : List sy_e), sy_sat F nv (y.1 ++ r) → (∀ p ∈ y.2.1, sy_ps F p) → jm_step M Ls xs bc bs (ins, n, la, lb, po) pc (sy_dL F L) (sy_dS F S) (sy_dh F X1 X2 G) (0, 0) = some (sy_ds F X1 X2 st)) ∧ st.2.2.2.2 = (0, 0) := fun h1 => by
    obtain ⟨a1, a2, a3⟩ := sy_4_ok (M := M) (Ls := Ls) (xs := xs) (bc := bc) (bs := bs) h1
    exact ⟨⟨a1, a2, fun F X1 X2 r hs hp => a3 F X1 X2 hp⟩, t4 h1⟩
  have k3 : sy_3 ins n pc L S G (0, 0) x = some (st, y) → ((∃ r, y.1 = x.1 ++ r) ∧ (∃ r, y.2.1 = x.2.1 ++ r) ∧ ∀ (F : Nat → sy_d) (X1 X2 : List jm_c) (r : List sy_e), sy_sat F nv (y.1 ++ r) → (∀ p ∈ y.2.1, sy_ps F p) → jm_step M Ls xs bc bs (ins, n, la, lb, po) pc (sy_dL F L) (sy_dS F S) (sy_dh F X1 X2 G) (0, 0) = some (sy_ds F X1 X2 st)) ∧ st.2.2.2.2 = (0, 0) := fun h1 => by
    obtain ⟨a1, a2, a3⟩ := sy_3_ok (M := M) (Ls := Ls) (xs := xs) (bc := bc) (bs := bs) (la := la) (lb := lb) (po := po) h1
    exact ⟨⟨a1, a2, fun F X1 X2 r hs hp => a3 F X1 X2 hp⟩, t3 h1⟩
  unfold zz_stp at h
  simp only [zz_4_eq, zz_5_eq] at h
  cases q1 : Nat.beq c 1 with
  | true =>
    rw [q1, cond_true] at h
    split at h
    · rename_i r h1
      cases h
      exact ⟨⟨⟨[], (List.append_nil _).symm⟩, ⟨[], (List.append_nil _).symm⟩, fun F X1 X2 r hs hp => sy_1_ok h1⟩, t1 h1⟩
    · cases h
  | false =>
    rw [q1, cond_false] at h
    cases q4 : (Nat.beq c 4 || Nat.beq c 14) with
    | true => rw [q4, cond_true] at h; exact k4 h
    | false =>
      rw [q4, cond_false] at h
      cases q3 : Nat.beq c 3 with
      | true => rw [q3, cond_true] at h; exact k3 h
      | false =>
        rw [q3, cond_false] at h
        cases q2 : Nat.beq c 2 with
        | true => rw [q2, cond_true] at h; exact ⟨sy_2_ok h, t2 h⟩
        | false =>
          rw [q2, cond_false] at h
          cases q5 : (Nat.beq c 5 || Nat.beq c 15 || Nat.beq c 25) with
          | true => rw [q5, cond_true] at h; exact ⟨sy_5_ok h, t5 h⟩
          | false =>
            rw [q5, cond_false] at h
            cases q7 : Nat.beq c 7 with
            | true =>
              rw [q7, cond_true] at h
              split at h
              · rename_i r h1
                cases h
                exact ⟨sy_5_ok h1, t5 h1⟩
              · exact zz_6_ok h
            | false =>
              rw [q7, cond_false] at h
              cases q6 : Nat.beq c 6 with
              | true =>
                rw [q6, cond_true] at h
                split at h
                · rename_i r h1
                  cases h
                  exact zz_6_ok h1
                · exact k3 h
              | false =>
                rw [q6, cond_false] at h
                cases q8 : Nat.beq c 8 with
                | true => rw [q8, cond_true] at h; exact zz_6_ok h
                | false => rw [q8, cond_false] at h; cases h
/-- where a run ends: at a place (a stop, or a call that is not gone into), or behind the method -/
abbrev zz_r : Type := (Nat × List (Option sy_v) × List sy_v × sy_h) ⊕ (Option sy_v × sy_h)
noncomputable def zz_go (TB : List jm_M) (nv : Nat) : List Nat → List Nat → Nat → Nat → jm_M → Bool → Nat → List (Option sy_v) → List sy_v → sy_h → sy_x → Option (zz_r × sy_x)
  | _, _, 0, _, _, _, _, _, _, _, _ => none
  | sp, sm, n + 1, d, M, f, pc, L, S, G, x => bif !f && sp.contains pc then some (.inl (pc, L, S, G), x) else match zz_in M pc with
    | none => none
    | some e => fz_n (zz_cls e.1) fun c => match zz_stp c nv M e pc L S G (0, 0) x with
      | some ((pc', L', S', G', _), x') => fz_st c pc' L' S' G' x' fun pc' L' S' G' x' => zz_go TB nv sp sm n d M false pc' L' S' G' x'
      | none => match sy_rf M e S x.2.1 with
        | some (v, P1) => some (.inr (v, G), x.1, P1, x.2.2)
        | none => match d with
          | 0 => none
          | d' + 1 => match zz_c2 TB e G S with
            | some (M1, As, rest) => bif sm.contains e.2.2.1 then some (.inl (pc, L, S, G), x) else if (sy_e1 As).length ≤ jm_mx M1 then (match fz_L (sy_ent (jm_mx M1) As) fun L1 => zz_go TB nv [] [] n d' M1 true 0 L1 [] G x with
              | some (.inr (v, G1), x1) => fz_st 0 (pc + 3) L (v.toList ++ rest) G1 x1 fun pc' L' S' G' x' => zz_go TB nv sp sm n d M false pc' L' S' G' x'
              | _ => none) else none
            | none => none
/-- what a run's end says: from there on, or behind the method -/
noncomputable def zz_K (R : jm_St → Prop) (Post : Option Value → jm_h → Prop) (F : Nat → sy_d) (X1 X2 : List jm_c) (r : zz_r) : Prop := match r with
  | .inl (pc1, L1, S1, G1) => R (pc1, sy_dL F L1, sy_dS F S1, sy_dh F X1 X2 G1, 0, 0)
  | .inr (v, G1) => Post (v.map (sy_dv F)) (sy_dh F X1 X2 G1)
set_option maxHeartbeats 8000000 in
theorem zz_go_ok {TB : List jm_M} {YN : List MethodName} {nv : Nat} {Ls : Nat} {xs : Nat → Int32} (hTB : ∀ (k : Nat) (M' : jm_M), TB[k]? = some M' → jm_ok YN M') (hYN : YN = TB.map jm_y) :
    ∀ (n d : Nat) (sp sm : List Nat) (M : jm_M) (f : Bool) (pc : Nat) (L : List (Option sy_v)) (S : List sy_v) (G : sy_h) (x : sy_x) (w : zz_r) (y : sy_x), jm_tck YN M 0 (jm_tb M) = true → zz_go TB nv sp sm n d M f pc L S G x = some (w, y) →
      (∃ r, y.1 = x.1 ++ r) ∧ (∃ r, y.2.1 = x.2.1 ++ r) ∧ ∀ (F : Nat → sy_d) (X1 X2 : List jm_c) (r : List sy_e), sy_sat F nv (y.1 ++ r) → (∀ p ∈ y.2.1, sy_ps F p) →
      ∀ {p : Program} {l : Launch} {e : Env} {d1 : Nat} {s : State} {m : MethodId} {args : Array Value} {below : List Frame} {meth : Method} {c : Code} {D : va_G} {h0 : Nat} {ex : Nat → Nat} {ka : Nat → ClassId} {G0 : jm_h} {Post : Option Value → jm_h → Prop}, jm_C p s m args meth c D h0 ex ka Ls xs M (jm_len G0) → d + 1 ≤ d1 →
      zz_K (jm_W p l e (jm_room d1 0 0) s m args below meth c D h0 ex ka M (jm_len G0) (MQ below (jm_Qc D h0 ex ka 0 G0 Post) args s 0 0 (fun q => h0 ≤ q))) Post F X1 X2 w →
      jm_W p l e (jm_room d1 0 0) s m args below meth c D h0 ex ka M (jm_len G0) (MQ below (jm_Qc D h0 ex ka 0 G0 Post) args s 0 0 (fun q => h0 ≤ q)) (pc, sy_dL F L, sy_dS F S, sy_dh F X1 X2 G, 0, 0) := by
  intro n
  induction n with
  | zero => intro d sp sm M f pc L S G x w y _ h; cases h
  | succ n ih =>
    intro d sp sm M f pc L S G x w y htc h
    rw [zz_go] at h
    cases hf : (!f && sp.contains pc) with
    | true =>
      rw [hf] at h
      cases h
      exact ⟨⟨[], (List.append_nil _).symm⟩, ⟨[], (List.append_nil _).symm⟩, fun F X1 X2 r hs hp p l e d1 s m args below meth c D h0 ex ka G0 Post C0 hfr k => k⟩
    | false =>
      rw [hf, cond_false, zz_in_eq] at h
      split at h
      · cases h
      · rename_i i hi
        have hc := jm_in_ck htc hi
        rw [fz_n_eq] at h
        split at h
        · rename_i pc' L' S' G' q' x' hst
          obtain ⟨⟨⟨r1, a1⟩, ⟨r2, a2⟩, a3⟩, hq⟩ := zz_stp_ok (M := M) (Ls := Ls) (xs := xs) (bc := 0) (bs := 0) hst
          have hq : q' = (0, 0) := hq
          subst hq
          rw [fz_st_eq] at h
          obtain ⟨⟨r3, b1⟩, ⟨r4, b2⟩, b3⟩ := ih d sp sm M false pc' L' S' G' x' w y htc h
          refine ⟨⟨r1 ++ r3, by rw [b1, a1, List.append_assoc]⟩, ⟨r2 ++ r4, by rw [b2, a2, List.append_assoc]⟩, ?_⟩
          intro F X1 X2 r hs hp p l e d1 s m args below meth c D h0 ex ka G0 Post C0 hfr k
          refine jm_step_ok C0 (Nat.zero_le _) (Nat.zero_le _) (show 1 ≤ d1 by omega) (show 64 ≤ 64 * d1 by omega) hc (a3 F X1 X2 (r3 ++ r) ?_ (fun z hz => hp z (by rw [b2]; exact List.mem_append_left _ hz))) (b3 F X1 X2 r hs hp C0 hfr k)
          rw [← List.append_assoc, ← b1]
          exact hs
        · split at h
          · rename_i v P1 hw
            cases h
            obtain ⟨k1, k2⟩ := sy_rf_ok hw
            refine ⟨⟨[], (List.append_nil _).symm⟩, k1, ?_⟩
            intro F X1 X2 r hs hp p l e d1 s m args below meth c D h0 ex ka G0 Post C0 hfr k
            exact jm_ret_ok C0 hc (k2 F hp) rfl (Nat.le_refl 0) k
          · split at h
            · cases h
            · rename_i d'
              rw [zz_c2_eq] at h
              split at h
              · rename_i M1 As rest hcf
                cases hsm : sm.contains i.2.2.1 with
                | true =>
                  rw [hsm] at h
                  cases h
                  exact ⟨⟨[], (List.append_nil _).symm⟩, ⟨[], (List.append_nil _).symm⟩, fun F X1 X2 r hs hp p l e d1 s m args below meth c D h0 ex ka G0 Post C0 hfr k => k⟩
                | false =>
                  rw [hsm] at h
                  dsimp only [cond] at h
                  split at h
                  · rename_i hA
                    split at h
                    · rename_i v G2 x1 hev
                      rw [fz_L_eq] at hev
                      rw [fz_st_eq] at h
                      have hM1 : jm_ok YN M1 := hTB _ _ (sy_c2_at hcf)
                      obtain ⟨⟨r1, a1⟩, ⟨r2, a2⟩, a3⟩ := ih d' [] [] M1 true 0 _ [] G x _ x1 hM1.2.2.2.2.2.2.2.2.2 hev
                      obtain ⟨⟨r3, b1⟩, ⟨r4, b2⟩, b3⟩ := ih (d' + 1) sp sm M false (pc + 3) L _ G2 x1 w y htc h
                      refine ⟨⟨r1 ++ r3, by rw [b1, a1, List.append_assoc]⟩, ⟨r2 ++ r4, by rw [b2, a2, List.append_assoc]⟩, ?_⟩
                      intro F X1 X2 r hs hp p l e d1 s m args below meth c D h0 ex ka G0 Post C0 hfr k
                      have hs1 : sy_sat F nv (x1.1 ++ (r3 ++ r)) := by
                        rw [← List.append_assoc, ← b1]
                        exact hs
                      have hp1 : ∀ z ∈ x1.2.1, sy_ps F z := fun z hz => hp z (by rw [b2]; exact List.mem_append_left _ hz)
                      have hT : jm_T Ls xs (d' + 1) M1 (As.map (sy_dv F)) (sy_dh F X1 X2 G) 0 0 (fun u G => u = v.map (sy_dv F) ∧ G = sy_dh F X1 X2 G2) := by
                        refine jm_T_intro hM1 (by rw [sy_e1_ok]; simpa [sy_dL] using hA) (fun p l e s m args below meth c D h0 ex ka C1 => ?_)
                        rw [sy_ent_ok]
                        exact a3 F X1 X2 _ hs1 hp1 C1 (Nat.le_refl _) ⟨rfl, rfl⟩
                      refine sy_call_ok hTB hYN C0 hc hcf F X1 X2 hT (show d' + 1 + 1 ≤ d1 by omega) (show 64 * (d' + 1) + 64 ≤ 64 * d1 by omega) (Nat.zero_le _) (Nat.zero_le _) (fun v1 G3 hq hlen3 => ?_)
                      obtain ⟨rfl, rfl⟩ := hq
                      have hb := b3 F X1 X2 r hs hp (l := l) (e := e) (below := below) C0 hfr k
                      have he : sy_dS F (v.toList ++ rest) = (v.map (sy_dv F)).toList ++ rest.map (sy_dv F) := by cases v <;> simp [sy_dS]
                      rw [he] at hb
                      exact hb
                    · cases h
                  · cases h
              · cases h
