/-! ===== the law's steps ===== -/
def lw_L (i : Int32) : List (Option Value) := [some (.ref 0), some (.ref 8), some (.ref 1000), some (.int i)]
section LWS
variable {p : Program} {l : Launch} {e : Env} {s : State} {m : MethodId} {args : Array Value} {below : List Frame} {meth : Method} {c : Code} {D : va_G} {h0 : Nat} {ex : Nat → Nat} {ka : Nat → ClassId} {Ls : Nat} {xs : Nat → Int32} {n0 : Nat} {Q : State → Prop} {i : jm_I} {pc : Nat} {L : List (Option Value)} {S : List Value} {G : jm_h} {cn sn : Nat} {st : jm_St}
theorem lw_st (C0 : jm_C p s m args meth c D h0 ex ka Ls xs jm_ML n0) (hi : jm_in jm_ML pc = some i) (h : jm_step jm_ML Ls xs 0 0 i pc L S G (cn, sn) = some st) (k : jm_W p l e room_1 s m args below meth c D h0 ex ka jm_ML n0 Q st) : jm_W p l e room_1 s m args below meth c D h0 ex ka jm_ML n0 Q (pc, L, S, G, cn, sn) :=
  jm_step_ok C0 (Nat.zero_le _) (Nat.zero_le _) (Nat.le_of_ble_eq_true rfl) (Nat.le_of_ble_eq_true rfl) (jm_in_ck jm_lawck hi) h k
/-- an int of the script -/
theorem lw_arg {v : Int32} {k : Int} (C0 : jm_C p s m args meth c D h0 ex ka Ls xs jm_ML n0) (h1 : jm_in jm_ML pc = some (.aload_n 0, 1, 0, 0, 0)) (h2 : jm_in jm_ML (pc + 1) = some (.iload_n 3, 1, 0, 0, 0)) (h3 : jm_in jm_ML (pc + 2) = some (.iconst k, 1, 0, 0, 0)) (h4 : jm_in jm_ML (pc + 3) = some (.iadd, 1, 0, 0, 0)) (h5 : jm_in jm_ML (pc + 4) = some (.iaload, 1, 0, 0, 0)) (hb : jm_out (v + Int32.ofInt k) Ls = false)
    (kk : jm_W p l e room_1 s m args below meth c D h0 ex ka jm_ML n0 Q (pc + 5, lw_L v, .int (xs (v + Int32.ofInt k).toNatClampNeg) :: S, G, cn, sn)) : jm_W p l e room_1 s m args below meth c D h0 ex ka jm_ML n0 Q (pc, lw_L v, S, G, cn, sn) := by
  refine lw_st C0 h1 (jm_step_a1 rfl) ?_
  refine lw_st C0 h2 (jm_step_a1 rfl) ?_
  refine lw_st C0 h3 (jm_step_a1 rfl) ?_
  refine lw_st C0 h4 (jm_step_b1 rfl rfl rfl) ?_
  refine lw_st C0 h5 (jm_step_d2 rfl rfl rfl rfl rfl ?_) kk
  show (bif jm_out (v + Int32.ofInt k) Ls then none else _) = _
  rw [hb]
  rfl
/-- a truth value of the script -/
theorem lw_argb {v x : Int32} (C0 : jm_C p s m args meth c D h0 ex ka Ls xs jm_ML n0) (h1 : jm_in jm_ML pc = some (.ifCond .eq 7, 3, 0, 0, 0)) (h2 : jm_in jm_ML (pc + 3) = some (.iconst 1, 1, 0, 0, 0)) (h3 : jm_in jm_ML (pc + 4) = some (.goto 4, 3, 0, 0, 0)) (h4 : jm_in jm_ML (pc + 7) = some (.iconst 0, 1, 0, 0, 0))
    (kk : jm_W p l e room_1 s m args below meth c D h0 ex ka jm_ML n0 Q (pc + 8, lw_L v, .int (if x = 0 then 0 else 1) :: S, G, cn, sn)) : jm_W p l e room_1 s m args below meth c D h0 ex ka jm_ML n0 Q (pc, lw_L v, .int x :: S, G, cn, sn) := by
  have ht : jm_tg pc 7 = some (pc + 7) := by
    unfold jm_tg
    rw [if_pos (by omega)]
    congr 1
  have ht2 : jm_tg (pc + 4) 4 = some (pc + 8) := by
    unfold jm_tg
    rw [if_pos (by omega)]
    congr 1
  by_cases hx : x = 0
  · rw [if_pos hx] at kk
    refine lw_st C0 h1 (st := (pc + 7, lw_L v, S, G, cn, sn)) (jm_step_c1 rfl rfl rfl ?_) ?_
    · simp only [jm_c1, ht, if_pos hx, if_pos]
    · exact lw_st C0 h4 (jm_step_a1 rfl) kk
  · rw [if_neg hx] at kk
    refine lw_st C0 h1 (st := (pc + 3, lw_L v, S, G, cn, sn)) (jm_step_c1 rfl rfl rfl ?_) ?_
    · simp only [jm_c1, ht, if_neg hx, if_pos]
    · refine lw_st C0 h2 (jm_step_a1 rfl) ?_
      refine lw_st C0 h3 (st := (pc + 8, lw_L v, .int 1 :: S, G, cn, sn)) (jm_step_c1 rfl rfl rfl ?_) kk
      simp only [jm_c1, ht2, if_pos]
      rfl
theorem lw_cf {a idx po b : Nat} {M1 : jm_M} {As rest : List Value} (hM : jm_TB[a]? = some M1) (hk : jm_kd M1 = 1) (hn : jm_na M1 = As.length) (hr : jm_rok G M1 b = true) (hc : jm_cs rest ≤ 8) : jm_cf jm_TB (.invokevirtual idx, 3, a, 0, po) G (As.reverse ++ .ref b :: rest) = some (M1, .ref b :: As, rest) := by
  have h1 : (As.reverse ++ Value.ref b :: rest).drop (jm_na M1) = .ref b :: rest := by
    rw [hn, show As.length = As.reverse.length by simp, List.drop_left]
  have h2 : (As.reverse ++ Value.ref b :: rest).take (jm_na M1) = As.reverse := by
    rw [hn, show As.length = As.reverse.length by simp, List.take_left]
  have hcond : jm_kd M1 = 1 ∧ jm_na M1 ≤ (As.reverse ++ Value.ref b :: rest).length := ⟨hk, by rw [hn]; simp⟩
  have hcond2 : jm_cs rest ≤ 8 ∧ jm_rok G M1 b = true := ⟨hc, hr⟩
  have hlt : (3 : Nat) = 3 ∧ (0 : Nat) < 2 := ⟨rfl, by decide⟩
  simp only [jm_cf, hM, if_pos hcond, h1, h2, if_pos hcond2, List.reverse_reverse]
  exact if_pos ⟨trivial, by decide⟩
/-- a call -/
theorem lw_call {a idx po b : Nat} {M1 : jm_M} {As rest : List Value} {Post : Option Value → jm_h → Prop} (C0 : jm_C p s m args meth c D h0 ex ka Ls xs jm_ML n0) (hi : jm_in jm_ML pc = some (.invokevirtual idx, 3, a, 0, po)) (hM : jm_TB[a]? = some M1) (hk : jm_kd M1 = 1) (hn : jm_na M1 = As.length) (hr : jm_rok G M1 b = true) (hc : jm_cs rest ≤ 8) (hS : S = As.reverse ++ .ref b :: rest) {d1 : Nat} (hd : d1 ≤ 60) (hT : jm_T Ls xs d1 M1 (.ref b :: As) G 0 0 Post) (hcn : cn ≤ 600000) (hsn : sn ≤ 7302250)
    (kk : ∀ (v : Option Value) (G1 : jm_h), Post v G1 → jm_len G1 = jm_len G → jm_W p l e room_1 s m args below meth c D h0 ex ka jm_ML n0 Q (pc + 3, L, v.toList ++ rest, G1, cn, sn)) : jm_W p l e room_1 s m args below meth c D h0 ex ka jm_ML n0 Q (pc, L, S, G, cn, sn) := by
  subst hS
  exact jm_call_ok jm_TBok jm_hYN C0 (jm_in_ck jm_lawck hi) (lw_cf hM hk hn hr hc) hT (show d1 + 1 ≤ 2048 by omega) (show 64 * d1 + 64 ≤ 84000 by omega) hcn hsn kk
/-- both answers are alike: on to the next turn -/
theorem lw_cmp {v r : Int32} {off : Int} {t : Nat} (C0 : jm_C p s m args meth c D h0 ex ka Ls xs jm_ML n0) (hi : jm_in jm_ML pc = some (.if_icmp .eq off, 3, 0, 0, 0)) (ht : jm_tg pc off = some t)
    (kk : jm_W p l e room_1 s m args below meth c D h0 ex ka jm_ML n0 Q (t, lw_L v, S, G, cn, sn)) : jm_W p l e room_1 s m args below meth c D h0 ex ka jm_ML n0 Q (pc, lw_L v, .int r :: .int r :: S, G, cn, sn) := by
  refine lw_st C0 hi (st := (t, lw_L v, S, G, cn, sn)) (jm_step_c1 rfl rfl rfl ?_) kk
  simp only [jm_c1, ht, if_pos]
/-- an answer that nobody looks at -/
theorem lw_pop {v r : Int32} (C0 : jm_C p s m args meth c D h0 ex ka Ls xs jm_ML n0) (hi : jm_in jm_ML pc = some (.pop, 1, 0, 0, 0)) (kk : jm_W p l e room_1 s m args below meth c D h0 ex ka jm_ML n0 Q (pc + 1, lw_L v, S, G, cn, sn)) : jm_W p l e room_1 s m args below meth c D h0 ex ka jm_ML n0 Q (pc, lw_L v, .int r :: S, G, cn, sn) :=
  lw_st C0 hi (st := (pc + 1, lw_L v, S, G, cn, sn)) (jm_step_a2 rfl rfl rfl rfl rfl) kk
theorem lw_go {v : Int32} {off : Int} {t : Nat} (C0 : jm_C p s m args meth c D h0 ex ka Ls xs jm_ML n0) (hi : jm_in jm_ML pc = some (.goto off, 3, 0, 0, 0)) (ht : jm_tg pc off = some t) (kk : jm_W p l e room_1 s m args below meth c D h0 ex ka jm_ML n0 Q (t, lw_L v, S, G, cn, sn)) : jm_W p l e room_1 s m args below meth c D h0 ex ka jm_ML n0 Q (pc, lw_L v, S, G, cn, sn) := by
  refine lw_st C0 hi (st := (t, lw_L v, S, G, cn, sn)) (jm_step_c1 rfl rfl rfl ?_) kk
  simp only [jm_c1, ht, if_pos]
end LWS
/-- from these cells the class and the reference come to their ends, with answers that VX and VM say -/
def lw_un (Ls : Nat) (xs : Nat → Int32) (kX kM : jm_M) (As : List Value) (G : jm_h) (V : Int32 → Prop) (J1 J2 : jm_h → Prop) : Prop :=
  ∃ d1 d2 : Nat, d1 ≤ 60 ∧ d2 ≤ 60 ∧ jm_T Ls xs d1 kX (.ref 8 :: As) G 0 0 (fun v G1 => (∃ r : Int32, v = some (.int r) ∧ V r) ∧ J1 G1) ∧ ∀ G1, J1 G1 → jm_T Ls xs d2 kM (.ref 1000 :: As) G1 0 0 (fun v G2 => (∃ r : Int32, v = some (.int r) ∧ V r) ∧ J2 G2)
