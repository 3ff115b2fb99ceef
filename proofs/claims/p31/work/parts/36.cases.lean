/-! ===== the cases of the law ===== -/
theorem lw_rok {G : jm_h} {M1 : jm_M} {b ci : Nat} (h : ∃ fs, jm_g G b = some (.inr (ci, fs))) (h1 : jm_rc M1 = ci) (h2 : ¬ ci = 100) : jm_rok G M1 b = true := by
  obtain ⟨fs, h⟩ := h
  unfold jm_rok
  rw [if_neg (by rw [h1]; exact h2), h]
  exact decide_eq_true h1.symm
section LWC
variable {p : Program} {l : Launch} {e : Env} {s : State} {m : MethodId} {args : Array Value} {below : List Frame} {meth : Method} {c : Code} {D : va_G} {h0 : Nat} {ex : Nat → Nat} {ka : Nat → ClassId} {Ls : Nat} {xs : Nat → Int32} {n0 : Nat} {Q : State → Prop} {G : jm_h} {cn sn : Nat} {v : Int32} {V : Int32 → Prop} {J1 J2 : jm_h → Prop}
set_option maxHeartbeats 4000000 in
theorem lw_c0 (C0 : jm_C p s m args meth c D h0 ex ka Ls xs jm_ML n0) (hb : ∀ k : Int, 0 ≤ k → k ≤ 5 → jm_out (v + Int32.ofInt k) Ls = false) (hX : ∃ fs, jm_g G 8 = some (.inr (9, fs))) (hJ : ∀ G, J1 G → ∃ fs, jm_g G 1000 = some (.inr (10, fs))) (hcn : cn ≤ 600000) (hsn : sn ≤ 7302250) (hag : lw_un Ls xs jm_M81 jm_M133 [.int (xs (v + Int32.ofInt 1).toNatClampNeg), .int (xs (v + Int32.ofInt 2).toNatClampNeg), .int (xs (v + Int32.ofInt 3).toNatClampNeg), .int (xs (v + Int32.ofInt 4).toNatClampNeg), .int (xs (v + Int32.ofInt 5).toNatClampNeg)] G V J1 J2)
    (kk : ∀ G2, J2 G2 → jm_W p l e room_1 s m args below meth c D h0 ex ka jm_ML n0 Q (1261, lw_L v, [], G2, cn, sn)) : jm_W p l e room_1 s m args below meth c D h0 ex ka jm_ML n0 Q (188, lw_L v, [], G, cn, sn) := by
  obtain ⟨d1, d2, hd1, hd2, hx, hm⟩ := hag
  refine lw_st C0 (i := (.aload_n 1, 1, 0, 0, 0)) (by decide +kernel) (jm_step_a1 rfl) ?_
  refine lw_arg (k := 1) C0 (by decide +kernel) (by decide +kernel) (by decide +kernel) (by decide +kernel) (by decide +kernel) (hb 1 (by decide) (by decide)) ?_
  refine lw_arg (k := 2) C0 (by decide +kernel) (by decide +kernel) (by decide +kernel) (by decide +kernel) (by decide +kernel) (hb 2 (by decide) (by decide)) ?_
  refine lw_arg (k := 3) C0 (by decide +kernel) (by decide +kernel) (by decide +kernel) (by decide +kernel) (by decide +kernel) (hb 3 (by decide) (by decide)) ?_
  refine lw_arg (k := 4) C0 (by decide +kernel) (by decide +kernel) (by decide +kernel) (by decide +kernel) (by decide +kernel) (hb 4 (by decide) (by decide)) ?_
  refine lw_arg (k := 5) C0 (by decide +kernel) (by decide +kernel) (by decide +kernel) (by decide +kernel) (by decide +kernel) (hb 5 (by decide) (by decide)) ?_
  refine lw_call (As := [.int (xs (v + Int32.ofInt 1).toNatClampNeg), .int (xs (v + Int32.ofInt 2).toNatClampNeg), .int (xs (v + Int32.ofInt 3).toNatClampNeg), .int (xs (v + Int32.ofInt 4).toNatClampNeg), .int (xs (v + Int32.ofInt 5).toNatClampNeg)]) (rest := []) C0 (idx := 13) (a := 81) (po := 586) (by decide +kernel) (M1 := jm_M81) rfl rfl rfl (lw_rok hX rfl (by decide)) (by decide) rfl hd1 hx hcn hsn (fun v1 G1 hP hl1 => ?_)
  obtain ⟨⟨r, rfl, hr⟩, hj⟩ := hP
  refine lw_pop C0 (by decide +kernel) ?_
  refine lw_st C0 (i := (.aload_n 2, 1, 0, 0, 0)) (by decide +kernel) (jm_step_a1 rfl) ?_
  refine lw_arg (k := 1) C0 (by decide +kernel) (by decide +kernel) (by decide +kernel) (by decide +kernel) (by decide +kernel) (hb 1 (by decide) (by decide)) ?_
  refine lw_arg (k := 2) C0 (by decide +kernel) (by decide +kernel) (by decide +kernel) (by decide +kernel) (by decide +kernel) (hb 2 (by decide) (by decide)) ?_
  refine lw_arg (k := 3) C0 (by decide +kernel) (by decide +kernel) (by decide +kernel) (by decide +kernel) (by decide +kernel) (hb 3 (by decide) (by decide)) ?_
  refine lw_arg (k := 4) C0 (by decide +kernel) (by decide +kernel) (by decide +kernel) (by decide +kernel) (by decide +kernel) (hb 4 (by decide) (by decide)) ?_
  refine lw_arg (k := 5) C0 (by decide +kernel) (by decide +kernel) (by decide +kernel) (by decide +kernel) (by decide +kernel) (hb 5 (by decide) (by decide)) ?_
  refine lw_call (As := [.int (xs (v + Int32.ofInt 1).toNatClampNeg), .int (xs (v + Int32.ofInt 2).toNatClampNeg), .int (xs (v + Int32.ofInt 3).toNatClampNeg), .int (xs (v + Int32.ofInt 4).toNatClampNeg), .int (xs (v + Int32.ofInt 5).toNatClampNeg)]) (rest := []) C0 (idx := 17) (a := 133) (po := 1282) (by decide +kernel) (M1 := jm_M133) rfl rfl rfl (lw_rok (hJ G1 hj) rfl (by decide)) (Nat.le_of_ble_eq_true rfl) rfl hd2 (hm G1 hj) hcn hsn (fun v2 G2 hP hl2 => ?_)
  obtain ⟨⟨r2, rfl, hr2⟩, hj2⟩ := hP
  refine lw_pop C0 (by decide +kernel) ?_
  exact lw_go (off := 1013) (t := 1261) C0 (by decide +kernel) (by decide +kernel) (kk G2 hj2)
set_option maxHeartbeats 4000000 in
theorem lw_c1 (C0 : jm_C p s m args meth c D h0 ex ka Ls xs jm_ML n0) (hb : ∀ k : Int, 0 ≤ k → k ≤ 5 → jm_out (v + Int32.ofInt k) Ls = false) (hX : ∃ fs, jm_g G 8 = some (.inr (9, fs))) (hJ : ∀ G, J1 G → ∃ fs, jm_g G 1000 = some (.inr (10, fs))) (hcn : cn ≤ 600000) (hsn : sn ≤ 7302250) (hag : lw_un Ls xs jm_M82 jm_M135 [.int (xs (v + Int32.ofInt 1).toNatClampNeg)] G V J1 J2)
    (kk : ∀ G2, J2 G2 → jm_W p l e room_1 s m args below meth c D h0 ex ka jm_ML n0 Q (1261, lw_L v, [], G2, cn, sn)) : jm_W p l e room_1 s m args below meth c D h0 ex ka jm_ML n0 Q (251, lw_L v, [], G, cn, sn) := by
  obtain ⟨d1, d2, hd1, hd2, hx, hm⟩ := hag
  refine lw_st C0 (i := (.aload_n 1, 1, 0, 0, 0)) (by decide +kernel) (jm_step_a1 rfl) ?_
  refine lw_arg (k := 1) C0 (by decide +kernel) (by decide +kernel) (by decide +kernel) (by decide +kernel) (by decide +kernel) (hb 1 (by decide) (by decide)) ?_
  refine lw_call (As := [.int (xs (v + Int32.ofInt 1).toNatClampNeg)]) (rest := []) C0 (idx := 18) (a := 82) (po := 594) (by decide +kernel) (M1 := jm_M82) rfl rfl rfl (lw_rok hX rfl (by decide)) (by decide) rfl hd1 hx hcn hsn (fun v1 G1 hP hl1 => ?_)
  obtain ⟨⟨r, rfl, hr⟩, hj⟩ := hP
  refine lw_pop C0 (by decide +kernel) ?_
  refine lw_st C0 (i := (.aload_n 2, 1, 0, 0, 0)) (by decide +kernel) (jm_step_a1 rfl) ?_
  refine lw_arg (k := 1) C0 (by decide +kernel) (by decide +kernel) (by decide +kernel) (by decide +kernel) (by decide +kernel) (hb 1 (by decide) (by decide)) ?_
  refine lw_call (As := [.int (xs (v + Int32.ofInt 1).toNatClampNeg)]) (rest := []) C0 (idx := 22) (a := 135) (po := 1290) (by decide +kernel) (M1 := jm_M135) rfl rfl rfl (lw_rok (hJ G1 hj) rfl (by decide)) (Nat.le_of_ble_eq_true rfl) rfl hd2 (hm G1 hj) hcn hsn (fun v2 G2 hP hl2 => ?_)
  obtain ⟨⟨r2, rfl, hr2⟩, hj2⟩ := hP
  refine lw_pop C0 (by decide +kernel) ?_
  exact lw_go (off := 990) (t := 1261) C0 (by decide +kernel) (by decide +kernel) (kk G2 hj2)
set_option maxHeartbeats 4000000 in
theorem lw_c2 (C0 : jm_C p s m args meth c D h0 ex ka Ls xs jm_ML n0) (hb : ∀ k : Int, 0 ≤ k → k ≤ 5 → jm_out (v + Int32.ofInt k) Ls = false) (hX : ∃ fs, jm_g G 8 = some (.inr (9, fs))) (hJ : ∀ G, J1 G → ∃ fs, jm_g G 1000 = some (.inr (10, fs))) (hcn : cn ≤ 600000) (hsn : sn ≤ 7302250) (hag : lw_un Ls xs jm_M83 jm_M150 [] G V J1 J2)
    (kk : ∀ G2, J2 G2 → jm_W p l e room_1 s m args below meth c D h0 ex ka jm_ML n0 Q (1261, lw_L v, [], G2, cn, sn)) : jm_W p l e room_1 s m args below meth c D h0 ex ka jm_ML n0 Q (274, lw_L v, [], G, cn, sn) := by
  obtain ⟨d1, d2, hd1, hd2, hx, hm⟩ := hag
  refine lw_st C0 (i := (.aload_n 1, 1, 0, 0, 0)) (by decide +kernel) (jm_step_a1 rfl) ?_
  refine lw_call (As := []) (rest := []) C0 (idx := 23) (a := 83) (po := 598) (by decide +kernel) (M1 := jm_M83) rfl rfl rfl (lw_rok hX rfl (by decide)) (by decide) rfl hd1 hx hcn hsn (fun v1 G1 hP hl1 => ?_)
  obtain ⟨⟨r, rfl, hr⟩, hj⟩ := hP
  refine lw_pop C0 (by decide +kernel) ?_
  refine lw_st C0 (i := (.aload_n 2, 1, 0, 0, 0)) (by decide +kernel) (jm_step_a1 rfl) ?_
  refine lw_call (As := []) (rest := []) C0 (idx := 27) (a := 150) (po := 1294) (by decide +kernel) (M1 := jm_M150) rfl rfl rfl (lw_rok (hJ G1 hj) rfl (by decide)) (Nat.le_of_ble_eq_true rfl) rfl hd2 (hm G1 hj) hcn hsn (fun v2 G2 hP hl2 => ?_)
  obtain ⟨⟨r2, rfl, hr2⟩, hj2⟩ := hP
  refine lw_pop C0 (by decide +kernel) ?_
  exact lw_go (off := 977) (t := 1261) C0 (by decide +kernel) (by decide +kernel) (kk G2 hj2)
set_option maxHeartbeats 4000000 in
theorem lw_c3 (C0 : jm_C p s m args meth c D h0 ex ka Ls xs jm_ML n0) (hb : ∀ k : Int, 0 ≤ k → k ≤ 5 → jm_out (v + Int32.ofInt k) Ls = false) (hX : ∃ fs, jm_g G 8 = some (.inr (9, fs))) (hJ : ∀ G, J1 G → ∃ fs, jm_g G 1000 = some (.inr (10, fs))) (hcn : cn ≤ 600000) (hsn : sn ≤ 7302250) (hag : lw_un Ls xs jm_M84 jm_M151 [] G V J1 J2)
    (kk : ∀ G2, J2 G2 → jm_W p l e room_1 s m args below meth c D h0 ex ka jm_ML n0 Q (1261, lw_L v, [], G2, cn, sn)) : jm_W p l e room_1 s m args below meth c D h0 ex ka jm_ML n0 Q (287, lw_L v, [], G, cn, sn) := by
  obtain ⟨d1, d2, hd1, hd2, hx, hm⟩ := hag
  refine lw_st C0 (i := (.aload_n 1, 1, 0, 0, 0)) (by decide +kernel) (jm_step_a1 rfl) ?_
  refine lw_call (As := []) (rest := []) C0 (idx := 28) (a := 84) (po := 728) (by decide +kernel) (M1 := jm_M84) rfl rfl rfl (lw_rok hX rfl (by decide)) (by decide) rfl hd1 hx hcn hsn (fun v1 G1 hP hl1 => ?_)
  obtain ⟨⟨r, rfl, hr⟩, hj⟩ := hP
  refine lw_pop C0 (by decide +kernel) ?_
  refine lw_st C0 (i := (.aload_n 2, 1, 0, 0, 0)) (by decide +kernel) (jm_step_a1 rfl) ?_
  refine lw_call (As := []) (rest := []) C0 (idx := 31) (a := 151) (po := 1396) (by decide +kernel) (M1 := jm_M151) rfl rfl rfl (lw_rok (hJ G1 hj) rfl (by decide)) (Nat.le_of_ble_eq_true rfl) rfl hd2 (hm G1 hj) hcn hsn (fun v2 G2 hP hl2 => ?_)
  obtain ⟨⟨r2, rfl, hr2⟩, hj2⟩ := hP
  refine lw_pop C0 (by decide +kernel) ?_
  exact lw_go (off := 964) (t := 1261) C0 (by decide +kernel) (by decide +kernel) (kk G2 hj2)
set_option maxHeartbeats 4000000 in
theorem lw_c4 (C0 : jm_C p s m args meth c D h0 ex ka Ls xs jm_ML n0) (hb : ∀ k : Int, 0 ≤ k → k ≤ 5 → jm_out (v + Int32.ofInt k) Ls = false) (hX : ∃ fs, jm_g G 8 = some (.inr (9, fs))) (hJ : ∀ G, J1 G → ∃ fs, jm_g G 1000 = some (.inr (10, fs))) (hcn : cn ≤ 600000) (hsn : sn ≤ 7302250) (hag : lw_un Ls xs jm_M85 jm_M194 [.int (xs (v + Int32.ofInt 1).toNatClampNeg), .int (xs (v + Int32.ofInt 2).toNatClampNeg)] G V J1 J2)
    (kk : ∀ G2, J2 G2 → jm_W p l e room_1 s m args below meth c D h0 ex ka jm_ML n0 Q (1261, lw_L v, [], G2, cn, sn)) : jm_W p l e room_1 s m args below meth c D h0 ex ka jm_ML n0 Q (300, lw_L v, [], G, cn, sn) := by
  obtain ⟨d1, d2, hd1, hd2, hx, hm⟩ := hag
  refine lw_st C0 (i := (.aload_n 1, 1, 0, 0, 0)) (by decide +kernel) (jm_step_a1 rfl) ?_
  refine lw_arg (k := 1) C0 (by decide +kernel) (by decide +kernel) (by decide +kernel) (by decide +kernel) (by decide +kernel) (hb 1 (by decide) (by decide)) ?_
  refine lw_arg (k := 2) C0 (by decide +kernel) (by decide +kernel) (by decide +kernel) (by decide +kernel) (by decide +kernel) (hb 2 (by decide) (by decide)) ?_
  refine lw_call (As := [.int (xs (v + Int32.ofInt 1).toNatClampNeg), .int (xs (v + Int32.ofInt 2).toNatClampNeg)]) (rest := []) C0 (idx := 32) (a := 85) (po := 732) (by decide +kernel) (M1 := jm_M85) rfl rfl rfl (lw_rok hX rfl (by decide)) (by decide) rfl hd1 hx hcn hsn (fun v1 G1 hP hl1 => ?_)
  obtain ⟨⟨r, rfl, hr⟩, hj⟩ := hP
  refine lw_pop C0 (by decide +kernel) ?_
  refine lw_st C0 (i := (.aload_n 2, 1, 0, 0, 0)) (by decide +kernel) (jm_step_a1 rfl) ?_
  refine lw_arg (k := 1) C0 (by decide +kernel) (by decide +kernel) (by decide +kernel) (by decide +kernel) (by decide +kernel) (hb 1 (by decide) (by decide)) ?_
  refine lw_arg (k := 2) C0 (by decide +kernel) (by decide +kernel) (by decide +kernel) (by decide +kernel) (by decide +kernel) (hb 2 (by decide) (by decide)) ?_
  refine lw_call (As := [.int (xs (v + Int32.ofInt 1).toNatClampNeg), .int (xs (v + Int32.ofInt 2).toNatClampNeg)]) (rest := []) C0 (idx := 36) (a := 194) (po := 1400) (by decide +kernel) (M1 := jm_M194) rfl rfl rfl (lw_rok (hJ G1 hj) rfl (by decide)) (Nat.le_of_ble_eq_true rfl) rfl hd2 (hm G1 hj) hcn hsn (fun v2 G2 hP hl2 => ?_)
  obtain ⟨⟨r2, rfl, hr2⟩, hj2⟩ := hP
  refine lw_pop C0 (by decide +kernel) ?_
  exact lw_go (off := 931) (t := 1261) C0 (by decide +kernel) (by decide +kernel) (kk G2 hj2)
set_option maxHeartbeats 4000000 in
theorem lw_c5 (C0 : jm_C p s m args meth c D h0 ex ka Ls xs jm_ML n0) (hb : ∀ k : Int, 0 ≤ k → k ≤ 5 → jm_out (v + Int32.ofInt k) Ls = false) (hX : ∃ fs, jm_g G 8 = some (.inr (9, fs))) (hJ : ∀ G, J1 G → ∃ fs, jm_g G 1000 = some (.inr (10, fs))) (hcn : cn ≤ 600000) (hsn : sn ≤ 7302250) (hag : lw_un Ls xs jm_M86 jm_M195 [.int (xs (v + Int32.ofInt 1).toNatClampNeg), .int (xs (v + Int32.ofInt 2).toNatClampNeg)] G V J1 J2)
    (kk : ∀ G2, J2 G2 → jm_W p l e room_1 s m args below meth c D h0 ex ka jm_ML n0 Q (1261, lw_L v, [], G2, cn, sn)) : jm_W p l e room_1 s m args below meth c D h0 ex ka jm_ML n0 Q (333, lw_L v, [], G, cn, sn) := by
  obtain ⟨d1, d2, hd1, hd2, hx, hm⟩ := hag
  refine lw_st C0 (i := (.aload_n 1, 1, 0, 0, 0)) (by decide +kernel) (jm_step_a1 rfl) ?_
  refine lw_arg (k := 1) C0 (by decide +kernel) (by decide +kernel) (by decide +kernel) (by decide +kernel) (by decide +kernel) (hb 1 (by decide) (by decide)) ?_
  refine lw_arg (k := 2) C0 (by decide +kernel) (by decide +kernel) (by decide +kernel) (by decide +kernel) (by decide +kernel) (hb 2 (by decide) (by decide)) ?_
  refine lw_call (As := [.int (xs (v + Int32.ofInt 1).toNatClampNeg), .int (xs (v + Int32.ofInt 2).toNatClampNeg)]) (rest := []) C0 (idx := 37) (a := 86) (po := 740) (by decide +kernel) (M1 := jm_M86) rfl rfl rfl (lw_rok hX rfl (by decide)) (by decide) rfl hd1 hx hcn hsn (fun v1 G1 hP hl1 => ?_)
  obtain ⟨⟨r, rfl, hr⟩, hj⟩ := hP
  refine lw_pop C0 (by decide +kernel) ?_
  refine lw_st C0 (i := (.aload_n 2, 1, 0, 0, 0)) (by decide +kernel) (jm_step_a1 rfl) ?_
  refine lw_arg (k := 1) C0 (by decide +kernel) (by decide +kernel) (by decide +kernel) (by decide +kernel) (by decide +kernel) (hb 1 (by decide) (by decide)) ?_
  refine lw_arg (k := 2) C0 (by decide +kernel) (by decide +kernel) (by decide +kernel) (by decide +kernel) (by decide +kernel) (hb 2 (by decide) (by decide)) ?_
  refine lw_call (As := [.int (xs (v + Int32.ofInt 1).toNatClampNeg), .int (xs (v + Int32.ofInt 2).toNatClampNeg)]) (rest := []) C0 (idx := 40) (a := 195) (po := 1411) (by decide +kernel) (M1 := jm_M195) rfl rfl rfl (lw_rok (hJ G1 hj) rfl (by decide)) (Nat.le_of_ble_eq_true rfl) rfl hd2 (hm G1 hj) hcn hsn (fun v2 G2 hP hl2 => ?_)
  obtain ⟨⟨r2, rfl, hr2⟩, hj2⟩ := hP
  refine lw_pop C0 (by decide +kernel) ?_
  exact lw_go (off := 898) (t := 1261) C0 (by decide +kernel) (by decide +kernel) (kk G2 hj2)
set_option maxHeartbeats 4000000 in
theorem lw_c6 (C0 : jm_C p s m args meth c D h0 ex ka Ls xs jm_ML n0) (hb : ∀ k : Int, 0 ≤ k → k ≤ 5 → jm_out (v + Int32.ofInt k) Ls = false) (hX : ∃ fs, jm_g G 8 = some (.inr (9, fs))) (hJ : ∀ G, J1 G → ∃ fs, jm_g G 1000 = some (.inr (10, fs))) (hcn : cn ≤ 600000) (hsn : sn ≤ 7302250) (hag : lw_un Ls xs jm_M87 jm_M199 [.int (xs (v + Int32.ofInt 1).toNatClampNeg), .int (xs (v + Int32.ofInt 2).toNatClampNeg)] G V J1 J2)
    (kk : ∀ G2, J2 G2 → jm_W p l e room_1 s m args below meth c D h0 ex ka jm_ML n0 Q (1261, lw_L v, [], G2, cn, sn)) : jm_W p l e room_1 s m args below meth c D h0 ex ka jm_ML n0 Q (366, lw_L v, [], G, cn, sn) := by
  obtain ⟨d1, d2, hd1, hd2, hx, hm⟩ := hag
  refine lw_st C0 (i := (.aload_n 1, 1, 0, 0, 0)) (by decide +kernel) (jm_step_a1 rfl) ?_
  refine lw_arg (k := 1) C0 (by decide +kernel) (by decide +kernel) (by decide +kernel) (by decide +kernel) (by decide +kernel) (hb 1 (by decide) (by decide)) ?_
  refine lw_arg (k := 2) C0 (by decide +kernel) (by decide +kernel) (by decide +kernel) (by decide +kernel) (by decide +kernel) (hb 2 (by decide) (by decide)) ?_
  refine lw_call (As := [.int (xs (v + Int32.ofInt 1).toNatClampNeg), .int (xs (v + Int32.ofInt 2).toNatClampNeg)]) (rest := []) C0 (idx := 41) (a := 87) (po := 752) (by decide +kernel) (M1 := jm_M87) rfl rfl rfl (lw_rok hX rfl (by decide)) (by decide) rfl hd1 hx hcn hsn (fun v1 G1 hP hl1 => ?_)
  obtain ⟨⟨r, rfl, hr⟩, hj⟩ := hP
  refine lw_pop C0 (by decide +kernel) ?_
  refine lw_st C0 (i := (.aload_n 2, 1, 0, 0, 0)) (by decide +kernel) (jm_step_a1 rfl) ?_
  refine lw_arg (k := 1) C0 (by decide +kernel) (by decide +kernel) (by decide +kernel) (by decide +kernel) (by decide +kernel) (hb 1 (by decide) (by decide)) ?_
  refine lw_arg (k := 2) C0 (by decide +kernel) (by decide +kernel) (by decide +kernel) (by decide +kernel) (by decide +kernel) (hb 2 (by decide) (by decide)) ?_
  refine lw_call (As := [.int (xs (v + Int32.ofInt 1).toNatClampNeg), .int (xs (v + Int32.ofInt 2).toNatClampNeg)]) (rest := []) C0 (idx := 44) (a := 199) (po := 1419) (by decide +kernel) (M1 := jm_M199) rfl rfl rfl (lw_rok (hJ G1 hj) rfl (by decide)) (Nat.le_of_ble_eq_true rfl) rfl hd2 (hm G1 hj) hcn hsn (fun v2 G2 hP hl2 => ?_)
  obtain ⟨⟨r2, rfl, hr2⟩, hj2⟩ := hP
  refine lw_pop C0 (by decide +kernel) ?_
  exact lw_go (off := 865) (t := 1261) C0 (by decide +kernel) (by decide +kernel) (kk G2 hj2)
set_option maxHeartbeats 4000000 in
theorem lw_c7 (C0 : jm_C p s m args meth c D h0 ex ka Ls xs jm_ML n0) (hb : ∀ k : Int, 0 ≤ k → k ≤ 5 → jm_out (v + Int32.ofInt k) Ls = false) (hX : ∃ fs, jm_g G 8 = some (.inr (9, fs))) (hJ : ∀ G, J1 G → ∃ fs, jm_g G 1000 = some (.inr (10, fs))) (hcn : cn ≤ 600000) (hsn : sn ≤ 7302250) (hag : lw_un Ls xs jm_M88 jm_M201 [.int (xs (v + Int32.ofInt 1).toNatClampNeg), .int (xs (v + Int32.ofInt 2).toNatClampNeg)] G V J1 J2)
    (kk : ∀ G2, J2 G2 → jm_W p l e room_1 s m args below meth c D h0 ex ka jm_ML n0 Q (1261, lw_L v, [], G2, cn, sn)) : jm_W p l e room_1 s m args below meth c D h0 ex ka jm_ML n0 Q (399, lw_L v, [], G, cn, sn) := by
  obtain ⟨d1, d2, hd1, hd2, hx, hm⟩ := hag
  refine lw_st C0 (i := (.aload_n 1, 1, 0, 0, 0)) (by decide +kernel) (jm_step_a1 rfl) ?_
  refine lw_arg (k := 1) C0 (by decide +kernel) (by decide +kernel) (by decide +kernel) (by decide +kernel) (by decide +kernel) (hb 1 (by decide) (by decide)) ?_
  refine lw_arg (k := 2) C0 (by decide +kernel) (by decide +kernel) (by decide +kernel) (by decide +kernel) (by decide +kernel) (hb 2 (by decide) (by decide)) ?_
  refine lw_call (As := [.int (xs (v + Int32.ofInt 1).toNatClampNeg), .int (xs (v + Int32.ofInt 2).toNatClampNeg)]) (rest := []) C0 (idx := 45) (a := 88) (po := 780) (by decide +kernel) (M1 := jm_M88) rfl rfl rfl (lw_rok hX rfl (by decide)) (by decide) rfl hd1 hx hcn hsn (fun v1 G1 hP hl1 => ?_)
  obtain ⟨⟨r, rfl, hr⟩, hj⟩ := hP
  refine lw_pop C0 (by decide +kernel) ?_
  refine lw_st C0 (i := (.aload_n 2, 1, 0, 0, 0)) (by decide +kernel) (jm_step_a1 rfl) ?_
  refine lw_arg (k := 1) C0 (by decide +kernel) (by decide +kernel) (by decide +kernel) (by decide +kernel) (by decide +kernel) (hb 1 (by decide) (by decide)) ?_
  refine lw_arg (k := 2) C0 (by decide +kernel) (by decide +kernel) (by decide +kernel) (by decide +kernel) (by decide +kernel) (hb 2 (by decide) (by decide)) ?_
  refine lw_call (As := [.int (xs (v + Int32.ofInt 1).toNatClampNeg), .int (xs (v + Int32.ofInt 2).toNatClampNeg)]) (rest := []) C0 (idx := 49) (a := 201) (po := 1485) (by decide +kernel) (M1 := jm_M201) rfl rfl rfl (lw_rok (hJ G1 hj) rfl (by decide)) (Nat.le_of_ble_eq_true rfl) rfl hd2 (hm G1 hj) hcn hsn (fun v2 G2 hP hl2 => ?_)
  obtain ⟨⟨r2, rfl, hr2⟩, hj2⟩ := hP
  refine lw_pop C0 (by decide +kernel) ?_
  exact lw_go (off := 832) (t := 1261) C0 (by decide +kernel) (by decide +kernel) (kk G2 hj2)
set_option maxHeartbeats 4000000 in
theorem lw_c8 (C0 : jm_C p s m args meth c D h0 ex ka Ls xs jm_ML n0) (hb : ∀ k : Int, 0 ≤ k → k ≤ 5 → jm_out (v + Int32.ofInt k) Ls = false) (hX : ∃ fs, jm_g G 8 = some (.inr (9, fs))) (hJ : ∀ G, J1 G → ∃ fs, jm_g G 1000 = some (.inr (10, fs))) (hcn : cn ≤ 600000) (hsn : sn ≤ 7302250) (hag : lw_un Ls xs jm_M89 jm_M202 [.int (xs (v + Int32.ofInt 1).toNatClampNeg), .int (if xs (v + Int32.ofInt 2).toNatClampNeg = 0 then 0 else 1)] G V J1 J2)
    (kk : ∀ G2, J2 G2 → jm_W p l e room_1 s m args below meth c D h0 ex ka jm_ML n0 Q (1261, lw_L v, [], G2, cn, sn)) : jm_W p l e room_1 s m args below meth c D h0 ex ka jm_ML n0 Q (432, lw_L v, [], G, cn, sn) := by
  obtain ⟨d1, d2, hd1, hd2, hx, hm⟩ := hag
  refine lw_st C0 (i := (.aload_n 1, 1, 0, 0, 0)) (by decide +kernel) (jm_step_a1 rfl) ?_
  refine lw_arg (k := 1) C0 (by decide +kernel) (by decide +kernel) (by decide +kernel) (by decide +kernel) (by decide +kernel) (hb 1 (by decide) (by decide)) ?_
  refine lw_arg (k := 2) C0 (by decide +kernel) (by decide +kernel) (by decide +kernel) (by decide +kernel) (by decide +kernel) (hb 2 (by decide) (by decide)) ?_
  refine lw_argb C0 (by decide +kernel) (by decide +kernel) (by decide +kernel) (by decide +kernel) ?_
  refine lw_call (As := [.int (xs (v + Int32.ofInt 1).toNatClampNeg), .int (if xs (v + Int32.ofInt 2).toNatClampNeg = 0 then 0 else 1)]) (rest := []) C0 (idx := 50) (a := 89) (po := 793) (by decide +kernel) (M1 := jm_M89) rfl rfl rfl (lw_rok hX rfl (by decide)) (by decide) rfl hd1 hx hcn hsn (fun v1 G1 hP hl1 => ?_)
  obtain ⟨⟨r, rfl, hr⟩, hj⟩ := hP
  refine lw_pop C0 (by decide +kernel) ?_
  refine lw_st C0 (i := (.aload_n 2, 1, 0, 0, 0)) (by decide +kernel) (jm_step_a1 rfl) ?_
  refine lw_arg (k := 1) C0 (by decide +kernel) (by decide +kernel) (by decide +kernel) (by decide +kernel) (by decide +kernel) (hb 1 (by decide) (by decide)) ?_
  refine lw_arg (k := 2) C0 (by decide +kernel) (by decide +kernel) (by decide +kernel) (by decide +kernel) (by decide +kernel) (hb 2 (by decide) (by decide)) ?_
  refine lw_argb C0 (by decide +kernel) (by decide +kernel) (by decide +kernel) (by decide +kernel) ?_
  refine lw_call (As := [.int (xs (v + Int32.ofInt 1).toNatClampNeg), .int (if xs (v + Int32.ofInt 2).toNatClampNeg = 0 then 0 else 1)]) (rest := []) C0 (idx := 54) (a := 202) (po := 1493) (by decide +kernel) (M1 := jm_M202) rfl rfl rfl (lw_rok (hJ G1 hj) rfl (by decide)) (Nat.le_of_ble_eq_true rfl) rfl hd2 (hm G1 hj) hcn hsn (fun v2 G2 hP hl2 => ?_)
  obtain ⟨⟨r2, rfl, hr2⟩, hj2⟩ := hP
  refine lw_pop C0 (by decide +kernel) ?_
  exact lw_go (off := 783) (t := 1261) C0 (by decide +kernel) (by decide +kernel) (kk G2 hj2)
set_option maxHeartbeats 4000000 in
theorem lw_c9 (C0 : jm_C p s m args meth c D h0 ex ka Ls xs jm_ML n0) (hb : ∀ k : Int, 0 ≤ k → k ≤ 5 → jm_out (v + Int32.ofInt k) Ls = false) (hX : ∃ fs, jm_g G 8 = some (.inr (9, fs))) (hJ : ∀ G, J1 G → ∃ fs, jm_g G 1000 = some (.inr (10, fs))) (hcn : cn ≤ 600000) (hsn : sn ≤ 7302250) (hag : lw_un Ls xs jm_M90 jm_M203 [.int (xs (v + Int32.ofInt 1).toNatClampNeg)] G V J1 J2)
    (kk : ∀ G2, J2 G2 → jm_W p l e room_1 s m args below meth c D h0 ex ka jm_ML n0 Q (1261, lw_L v, [], G2, cn, sn)) : jm_W p l e room_1 s m args below meth c D h0 ex ka jm_ML n0 Q (481, lw_L v, [], G, cn, sn) := by
  obtain ⟨d1, d2, hd1, hd2, hx, hm⟩ := hag
  refine lw_st C0 (i := (.aload_n 1, 1, 0, 0, 0)) (by decide +kernel) (jm_step_a1 rfl) ?_
  refine lw_arg (k := 1) C0 (by decide +kernel) (by decide +kernel) (by decide +kernel) (by decide +kernel) (by decide +kernel) (hb 1 (by decide) (by decide)) ?_
  refine lw_call (As := [.int (xs (v + Int32.ofInt 1).toNatClampNeg)]) (rest := []) C0 (idx := 55) (a := 90) (po := 797) (by decide +kernel) (M1 := jm_M90) rfl rfl rfl (lw_rok hX rfl (by decide)) (by decide) rfl hd1 hx hcn hsn (fun v1 G1 hP hl1 => ?_)
  obtain ⟨⟨r, rfl, hr⟩, hj⟩ := hP
  refine lw_pop C0 (by decide +kernel) ?_
  refine lw_st C0 (i := (.aload_n 2, 1, 0, 0, 0)) (by decide +kernel) (jm_step_a1 rfl) ?_
  refine lw_arg (k := 1) C0 (by decide +kernel) (by decide +kernel) (by decide +kernel) (by decide +kernel) (by decide +kernel) (hb 1 (by decide) (by decide)) ?_
  refine lw_call (As := [.int (xs (v + Int32.ofInt 1).toNatClampNeg)]) (rest := []) C0 (idx := 58) (a := 203) (po := 1497) (by decide +kernel) (M1 := jm_M203) rfl rfl rfl (lw_rok (hJ G1 hj) rfl (by decide)) (Nat.le_of_ble_eq_true rfl) rfl hd2 (hm G1 hj) hcn hsn (fun v2 G2 hP hl2 => ?_)
  obtain ⟨⟨r2, rfl, hr2⟩, hj2⟩ := hP
  refine lw_pop C0 (by decide +kernel) ?_
  exact lw_go (off := 760) (t := 1261) C0 (by decide +kernel) (by decide +kernel) (kk G2 hj2)
set_option maxHeartbeats 4000000 in
theorem lw_c10 (C0 : jm_C p s m args meth c D h0 ex ka Ls xs jm_ML n0) (hb : ∀ k : Int, 0 ≤ k → k ≤ 5 → jm_out (v + Int32.ofInt k) Ls = false) (hX : ∃ fs, jm_g G 8 = some (.inr (9, fs))) (hJ : ∀ G, J1 G → ∃ fs, jm_g G 1000 = some (.inr (10, fs))) (hcn : cn ≤ 600000) (hsn : sn ≤ 7302250) (hag : lw_un Ls xs jm_M91 jm_M204 [.int (xs (v + Int32.ofInt 1).toNatClampNeg)] G V J1 J2)
    (kk : ∀ G2, J2 G2 → jm_W p l e room_1 s m args below meth c D h0 ex ka jm_ML n0 Q (1261, lw_L v, [], G2, cn, sn)) : jm_W p l e room_1 s m args below meth c D h0 ex ka jm_ML n0 Q (504, lw_L v, [], G, cn, sn) := by
  obtain ⟨d1, d2, hd1, hd2, hx, hm⟩ := hag
  refine lw_st C0 (i := (.aload_n 1, 1, 0, 0, 0)) (by decide +kernel) (jm_step_a1 rfl) ?_
  refine lw_arg (k := 1) C0 (by decide +kernel) (by decide +kernel) (by decide +kernel) (by decide +kernel) (by decide +kernel) (hb 1 (by decide) (by decide)) ?_
  refine lw_call (As := [.int (xs (v + Int32.ofInt 1).toNatClampNeg)]) (rest := []) C0 (idx := 59) (a := 91) (po := 809) (by decide +kernel) (M1 := jm_M91) rfl rfl rfl (lw_rok hX rfl (by decide)) (by decide) rfl hd1 hx hcn hsn (fun v1 G1 hP hl1 => ?_)
  obtain ⟨⟨r, rfl, hr⟩, hj⟩ := hP
  refine lw_pop C0 (by decide +kernel) ?_
  refine lw_st C0 (i := (.aload_n 2, 1, 0, 0, 0)) (by decide +kernel) (jm_step_a1 rfl) ?_
  refine lw_arg (k := 1) C0 (by decide +kernel) (by decide +kernel) (by decide +kernel) (by decide +kernel) (by decide +kernel) (hb 1 (by decide) (by decide)) ?_
  refine lw_call (As := [.int (xs (v + Int32.ofInt 1).toNatClampNeg)]) (rest := []) C0 (idx := 62) (a := 204) (po := 1510) (by decide +kernel) (M1 := jm_M204) rfl rfl rfl (lw_rok (hJ G1 hj) rfl (by decide)) (Nat.le_of_ble_eq_true rfl) rfl hd2 (hm G1 hj) hcn hsn (fun v2 G2 hP hl2 => ?_)
  obtain ⟨⟨r2, rfl, hr2⟩, hj2⟩ := hP
  refine lw_pop C0 (by decide +kernel) ?_
  exact lw_go (off := 737) (t := 1261) C0 (by decide +kernel) (by decide +kernel) (kk G2 hj2)
set_option maxHeartbeats 4000000 in
theorem lw_c11 (C0 : jm_C p s m args meth c D h0 ex ka Ls xs jm_ML n0) (hb : ∀ k : Int, 0 ≤ k → k ≤ 5 → jm_out (v + Int32.ofInt k) Ls = false) (hX : ∃ fs, jm_g G 8 = some (.inr (9, fs))) (hJ : ∀ G, J1 G → ∃ fs, jm_g G 1000 = some (.inr (10, fs))) (hcn : cn ≤ 600000) (hsn : sn ≤ 7302250) (hag : lw_un Ls xs jm_M92 jm_M205 [] G V J1 J2)
    (kk : ∀ G2, J2 G2 → jm_W p l e room_1 s m args below meth c D h0 ex ka jm_ML n0 Q (1261, lw_L v, [], G2, cn, sn)) : jm_W p l e room_1 s m args below meth c D h0 ex ka jm_ML n0 Q (527, lw_L v, [], G, cn, sn) := by
  obtain ⟨d1, d2, hd1, hd2, hx, hm⟩ := hag
  refine lw_st C0 (i := (.aload_n 1, 1, 0, 0, 0)) (by decide +kernel) (jm_step_a1 rfl) ?_
  refine lw_call (As := []) (rest := []) C0 (idx := 63) (a := 92) (po := 848) (by decide +kernel) (M1 := jm_M92) rfl rfl rfl (lw_rok hX rfl (by decide)) (by decide) rfl hd1 hx hcn hsn (fun v1 G1 hP hl1 => ?_)
  obtain ⟨⟨r, rfl, hr⟩, hj⟩ := hP
  refine lw_pop C0 (by decide +kernel) ?_
  refine lw_st C0 (i := (.aload_n 2, 1, 0, 0, 0)) (by decide +kernel) (jm_step_a1 rfl) ?_
  refine lw_call (As := []) (rest := []) C0 (idx := 67) (a := 205) (po := 1545) (by decide +kernel) (M1 := jm_M205) rfl rfl rfl (lw_rok (hJ G1 hj) rfl (by decide)) (Nat.le_of_ble_eq_true rfl) rfl hd2 (hm G1 hj) hcn hsn (fun v2 G2 hP hl2 => ?_)
  obtain ⟨⟨r2, rfl, hr2⟩, hj2⟩ := hP
  refine lw_pop C0 (by decide +kernel) ?_
  exact lw_go (off := 724) (t := 1261) C0 (by decide +kernel) (by decide +kernel) (kk G2 hj2)
set_option maxHeartbeats 4000000 in
theorem lw_c12 (C0 : jm_C p s m args meth c D h0 ex ka Ls xs jm_ML n0) (hb : ∀ k : Int, 0 ≤ k → k ≤ 5 → jm_out (v + Int32.ofInt k) Ls = false) (hX : ∃ fs, jm_g G 8 = some (.inr (9, fs))) (hJ : ∀ G, J1 G → ∃ fs, jm_g G 1000 = some (.inr (10, fs))) (hcn : cn ≤ 600000) (hsn : sn ≤ 7302250) (hag : lw_un Ls xs jm_M93 jm_M211 [.int (xs (v + Int32.ofInt 1).toNatClampNeg), .int (xs (v + Int32.ofInt 2).toNatClampNeg), .int (if xs (v + Int32.ofInt 3).toNatClampNeg = 0 then 0 else 1)] G V J1 J2)
    (kk : ∀ G2, J2 G2 → jm_W p l e room_1 s m args below meth c D h0 ex ka jm_ML n0 Q (1261, lw_L v, [], G2, cn, sn)) : jm_W p l e room_1 s m args below meth c D h0 ex ka jm_ML n0 Q (540, lw_L v, [], G, cn, sn) := by
  obtain ⟨d1, d2, hd1, hd2, hx, hm⟩ := hag
  refine lw_st C0 (i := (.aload_n 1, 1, 0, 0, 0)) (by decide +kernel) (jm_step_a1 rfl) ?_
  refine lw_arg (k := 1) C0 (by decide +kernel) (by decide +kernel) (by decide +kernel) (by decide +kernel) (by decide +kernel) (hb 1 (by decide) (by decide)) ?_
  refine lw_arg (k := 2) C0 (by decide +kernel) (by decide +kernel) (by decide +kernel) (by decide +kernel) (by decide +kernel) (hb 2 (by decide) (by decide)) ?_
  refine lw_arg (k := 3) C0 (by decide +kernel) (by decide +kernel) (by decide +kernel) (by decide +kernel) (by decide +kernel) (hb 3 (by decide) (by decide)) ?_
  refine lw_argb C0 (by decide +kernel) (by decide +kernel) (by decide +kernel) (by decide +kernel) ?_
  refine lw_call (As := [.int (xs (v + Int32.ofInt 1).toNatClampNeg), .int (xs (v + Int32.ofInt 2).toNatClampNeg), .int (if xs (v + Int32.ofInt 3).toNatClampNeg = 0 then 0 else 1)]) (rest := []) C0 (idx := 68) (a := 93) (po := 860) (by decide +kernel) (M1 := jm_M93) rfl rfl rfl (lw_rok hX rfl (by decide)) (by decide) rfl hd1 hx hcn hsn (fun v1 G1 hP hl1 => ?_)
  obtain ⟨⟨r, rfl, hr⟩, hj⟩ := hP
  refine lw_pop C0 (by decide +kernel) ?_
  refine lw_st C0 (i := (.aload_n 2, 1, 0, 0, 0)) (by decide +kernel) (jm_step_a1 rfl) ?_
  refine lw_arg (k := 1) C0 (by decide +kernel) (by decide +kernel) (by decide +kernel) (by decide +kernel) (by decide +kernel) (hb 1 (by decide) (by decide)) ?_
  refine lw_arg (k := 2) C0 (by decide +kernel) (by decide +kernel) (by decide +kernel) (by decide +kernel) (by decide +kernel) (hb 2 (by decide) (by decide)) ?_
  refine lw_arg (k := 3) C0 (by decide +kernel) (by decide +kernel) (by decide +kernel) (by decide +kernel) (by decide +kernel) (hb 3 (by decide) (by decide)) ?_
  refine lw_argb C0 (by decide +kernel) (by decide +kernel) (by decide +kernel) (by decide +kernel) ?_
  refine lw_call (As := [.int (xs (v + Int32.ofInt 1).toNatClampNeg), .int (xs (v + Int32.ofInt 2).toNatClampNeg), .int (if xs (v + Int32.ofInt 3).toNatClampNeg = 0 then 0 else 1)]) (rest := []) C0 (idx := 72) (a := 211) (po := 1549) (by decide +kernel) (M1 := jm_M211) rfl rfl rfl (lw_rok (hJ G1 hj) rfl (by decide)) (Nat.le_of_ble_eq_true rfl) rfl hd2 (hm G1 hj) hcn hsn (fun v2 G2 hP hl2 => ?_)
  obtain ⟨⟨r2, rfl, hr2⟩, hj2⟩ := hP
  refine lw_pop C0 (by decide +kernel) ?_
  exact lw_go (off := 665) (t := 1261) C0 (by decide +kernel) (by decide +kernel) (kk G2 hj2)
set_option maxHeartbeats 4000000 in
theorem lw_c13 (C0 : jm_C p s m args meth c D h0 ex ka Ls xs jm_ML n0) (hb : ∀ k : Int, 0 ≤ k → k ≤ 5 → jm_out (v + Int32.ofInt k) Ls = false) (hX : ∃ fs, jm_g G 8 = some (.inr (9, fs))) (hJ : ∀ G, J1 G → ∃ fs, jm_g G 1000 = some (.inr (10, fs))) (hcn : cn ≤ 600000) (hsn : sn ≤ 7302250) (hag : lw_un Ls xs jm_M94 jm_M213 [.int (xs (v + Int32.ofInt 1).toNatClampNeg), .int (xs (v + Int32.ofInt 2).toNatClampNeg), .int (xs (v + Int32.ofInt 3).toNatClampNeg)] G V J1 J2)
    (kk : ∀ G2, J2 G2 → jm_W p l e room_1 s m args below meth c D h0 ex ka jm_ML n0 Q (1261, lw_L v, [], G2, cn, sn)) : jm_W p l e room_1 s m args below meth c D h0 ex ka jm_ML n0 Q (599, lw_L v, [], G, cn, sn) := by
  obtain ⟨d1, d2, hd1, hd2, hx, hm⟩ := hag
  refine lw_st C0 (i := (.aload_n 1, 1, 0, 0, 0)) (by decide +kernel) (jm_step_a1 rfl) ?_
  refine lw_arg (k := 1) C0 (by decide +kernel) (by decide +kernel) (by decide +kernel) (by decide +kernel) (by decide +kernel) (hb 1 (by decide) (by decide)) ?_
  refine lw_arg (k := 2) C0 (by decide +kernel) (by decide +kernel) (by decide +kernel) (by decide +kernel) (by decide +kernel) (hb 2 (by decide) (by decide)) ?_
  refine lw_arg (k := 3) C0 (by decide +kernel) (by decide +kernel) (by decide +kernel) (by decide +kernel) (by decide +kernel) (hb 3 (by decide) (by decide)) ?_
  refine lw_call (As := [.int (xs (v + Int32.ofInt 1).toNatClampNeg), .int (xs (v + Int32.ofInt 2).toNatClampNeg), .int (xs (v + Int32.ofInt 3).toNatClampNeg)]) (rest := []) C0 (idx := 73) (a := 94) (po := 876) (by decide +kernel) (M1 := jm_M94) rfl rfl rfl (lw_rok hX rfl (by decide)) (by decide) rfl hd1 hx hcn hsn (fun v1 G1 hP hl1 => ?_)
  obtain ⟨⟨r, rfl, hr⟩, hj⟩ := hP
  refine lw_pop C0 (by decide +kernel) ?_
  refine lw_st C0 (i := (.aload_n 2, 1, 0, 0, 0)) (by decide +kernel) (jm_step_a1 rfl) ?_
  refine lw_arg (k := 1) C0 (by decide +kernel) (by decide +kernel) (by decide +kernel) (by decide +kernel) (by decide +kernel) (hb 1 (by decide) (by decide)) ?_
  refine lw_arg (k := 2) C0 (by decide +kernel) (by decide +kernel) (by decide +kernel) (by decide +kernel) (by decide +kernel) (hb 2 (by decide) (by decide)) ?_
  refine lw_arg (k := 3) C0 (by decide +kernel) (by decide +kernel) (by decide +kernel) (by decide +kernel) (by decide +kernel) (hb 3 (by decide) (by decide)) ?_
  refine lw_call (As := [.int (xs (v + Int32.ofInt 1).toNatClampNeg), .int (xs (v + Int32.ofInt 2).toNatClampNeg), .int (xs (v + Int32.ofInt 3).toNatClampNeg)]) (rest := []) C0 (idx := 77) (a := 213) (po := 1567) (by decide +kernel) (M1 := jm_M213) rfl rfl rfl (lw_rok (hJ G1 hj) rfl (by decide)) (Nat.le_of_ble_eq_true rfl) rfl hd2 (hm G1 hj) hcn hsn (fun v2 G2 hP hl2 => ?_)
  obtain ⟨⟨r2, rfl, hr2⟩, hj2⟩ := hP
  refine lw_pop C0 (by decide +kernel) ?_
  exact lw_go (off := 622) (t := 1261) C0 (by decide +kernel) (by decide +kernel) (kk G2 hj2)
set_option maxHeartbeats 4000000 in
theorem lw_c14 (C0 : jm_C p s m args meth c D h0 ex ka Ls xs jm_ML n0) (hb : ∀ k : Int, 0 ≤ k → k ≤ 5 → jm_out (v + Int32.ofInt k) Ls = false) (hX : ∃ fs, jm_g G 8 = some (.inr (9, fs))) (hJ : ∀ G, J1 G → ∃ fs, jm_g G 1000 = some (.inr (10, fs))) (hcn : cn ≤ 600000) (hsn : sn ≤ 7302250) (hag : lw_un Ls xs jm_M95 jm_M214 [.int (xs (v + Int32.ofInt 1).toNatClampNeg), .int (xs (v + Int32.ofInt 2).toNatClampNeg), .int (xs (v + Int32.ofInt 3).toNatClampNeg)] G V J1 J2)
    (kk : ∀ G2, J2 G2 → jm_W p l e room_1 s m args below meth c D h0 ex ka jm_ML n0 Q (1261, lw_L v, [], G2, cn, sn)) : jm_W p l e room_1 s m args below meth c D h0 ex ka jm_ML n0 Q (642, lw_L v, [], G, cn, sn) := by
  obtain ⟨d1, d2, hd1, hd2, hx, hm⟩ := hag
  refine lw_st C0 (i := (.aload_n 1, 1, 0, 0, 0)) (by decide +kernel) (jm_step_a1 rfl) ?_
  refine lw_arg (k := 1) C0 (by decide +kernel) (by decide +kernel) (by decide +kernel) (by decide +kernel) (by decide +kernel) (hb 1 (by decide) (by decide)) ?_
  refine lw_arg (k := 2) C0 (by decide +kernel) (by decide +kernel) (by decide +kernel) (by decide +kernel) (by decide +kernel) (hb 2 (by decide) (by decide)) ?_
  refine lw_arg (k := 3) C0 (by decide +kernel) (by decide +kernel) (by decide +kernel) (by decide +kernel) (by decide +kernel) (hb 3 (by decide) (by decide)) ?_
  refine lw_call (As := [.int (xs (v + Int32.ofInt 1).toNatClampNeg), .int (xs (v + Int32.ofInt 2).toNatClampNeg), .int (xs (v + Int32.ofInt 3).toNatClampNeg)]) (rest := []) C0 (idx := 78) (a := 95) (po := 902) (by decide +kernel) (M1 := jm_M95) rfl rfl rfl (lw_rok hX rfl (by decide)) (by decide) rfl hd1 hx hcn hsn (fun v1 G1 hP hl1 => ?_)
  obtain ⟨⟨r, rfl, hr⟩, hj⟩ := hP
  refine lw_pop C0 (by decide +kernel) ?_
  refine lw_st C0 (i := (.aload_n 2, 1, 0, 0, 0)) (by decide +kernel) (jm_step_a1 rfl) ?_
  refine lw_arg (k := 1) C0 (by decide +kernel) (by decide +kernel) (by decide +kernel) (by decide +kernel) (by decide +kernel) (hb 1 (by decide) (by decide)) ?_
  refine lw_arg (k := 2) C0 (by decide +kernel) (by decide +kernel) (by decide +kernel) (by decide +kernel) (by decide +kernel) (hb 2 (by decide) (by decide)) ?_
  refine lw_arg (k := 3) C0 (by decide +kernel) (by decide +kernel) (by decide +kernel) (by decide +kernel) (by decide +kernel) (hb 3 (by decide) (by decide)) ?_
  refine lw_call (As := [.int (xs (v + Int32.ofInt 1).toNatClampNeg), .int (xs (v + Int32.ofInt 2).toNatClampNeg), .int (xs (v + Int32.ofInt 3).toNatClampNeg)]) (rest := []) C0 (idx := 81) (a := 214) (po := 1579) (by decide +kernel) (M1 := jm_M214) rfl rfl rfl (lw_rok (hJ G1 hj) rfl (by decide)) (Nat.le_of_ble_eq_true rfl) rfl hd2 (hm G1 hj) hcn hsn (fun v2 G2 hP hl2 => ?_)
  obtain ⟨⟨r2, rfl, hr2⟩, hj2⟩ := hP
  refine lw_pop C0 (by decide +kernel) ?_
  exact lw_go (off := 579) (t := 1261) C0 (by decide +kernel) (by decide +kernel) (kk G2 hj2)
set_option maxHeartbeats 4000000 in
theorem lw_c15 (C0 : jm_C p s m args meth c D h0 ex ka Ls xs jm_ML n0) (hb : ∀ k : Int, 0 ≤ k → k ≤ 5 → jm_out (v + Int32.ofInt k) Ls = false) (hX : ∃ fs, jm_g G 8 = some (.inr (9, fs))) (hJ : ∀ G, J1 G → ∃ fs, jm_g G 1000 = some (.inr (10, fs))) (hcn : cn ≤ 600000) (hsn : sn ≤ 7302250) (hag : lw_un Ls xs jm_M96 jm_M215 [.int (xs (v + Int32.ofInt 1).toNatClampNeg), .int (xs (v + Int32.ofInt 2).toNatClampNeg)] G V J1 J2)
    (kk : ∀ G2, J2 G2 → jm_W p l e room_1 s m args below meth c D h0 ex ka jm_ML n0 Q (1261, lw_L v, [], G2, cn, sn)) : jm_W p l e room_1 s m args below meth c D h0 ex ka jm_ML n0 Q (685, lw_L v, [], G, cn, sn) := by
  obtain ⟨d1, d2, hd1, hd2, hx, hm⟩ := hag
  refine lw_st C0 (i := (.aload_n 1, 1, 0, 0, 0)) (by decide +kernel) (jm_step_a1 rfl) ?_
  refine lw_arg (k := 1) C0 (by decide +kernel) (by decide +kernel) (by decide +kernel) (by decide +kernel) (by decide +kernel) (hb 1 (by decide) (by decide)) ?_
  refine lw_arg (k := 2) C0 (by decide +kernel) (by decide +kernel) (by decide +kernel) (by decide +kernel) (by decide +kernel) (hb 2 (by decide) (by decide)) ?_
  refine lw_call (As := [.int (xs (v + Int32.ofInt 1).toNatClampNeg), .int (xs (v + Int32.ofInt 2).toNatClampNeg)]) (rest := []) C0 (idx := 82) (a := 96) (po := 907) (by decide +kernel) (M1 := jm_M96) rfl rfl rfl (lw_rok hX rfl (by decide)) (by decide) rfl hd1 hx hcn hsn (fun v1 G1 hP hl1 => ?_)
  obtain ⟨⟨r, rfl, hr⟩, hj⟩ := hP
  refine lw_pop C0 (by decide +kernel) ?_
  refine lw_st C0 (i := (.aload_n 2, 1, 0, 0, 0)) (by decide +kernel) (jm_step_a1 rfl) ?_
  refine lw_arg (k := 1) C0 (by decide +kernel) (by decide +kernel) (by decide +kernel) (by decide +kernel) (by decide +kernel) (hb 1 (by decide) (by decide)) ?_
  refine lw_arg (k := 2) C0 (by decide +kernel) (by decide +kernel) (by decide +kernel) (by decide +kernel) (by decide +kernel) (hb 2 (by decide) (by decide)) ?_
  refine lw_call (As := [.int (xs (v + Int32.ofInt 1).toNatClampNeg), .int (xs (v + Int32.ofInt 2).toNatClampNeg)]) (rest := []) C0 (idx := 85) (a := 215) (po := 1584) (by decide +kernel) (M1 := jm_M215) rfl rfl rfl (lw_rok (hJ G1 hj) rfl (by decide)) (Nat.le_of_ble_eq_true rfl) rfl hd2 (hm G1 hj) hcn hsn (fun v2 G2 hP hl2 => ?_)
  obtain ⟨⟨r2, rfl, hr2⟩, hj2⟩ := hP
  refine lw_pop C0 (by decide +kernel) ?_
  exact lw_go (off := 546) (t := 1261) C0 (by decide +kernel) (by decide +kernel) (kk G2 hj2)
set_option maxHeartbeats 4000000 in
theorem lw_c16 (C0 : jm_C p s m args meth c D h0 ex ka Ls xs jm_ML n0) (hb : ∀ k : Int, 0 ≤ k → k ≤ 5 → jm_out (v + Int32.ofInt k) Ls = false) (hX : ∃ fs, jm_g G 8 = some (.inr (9, fs))) (hJ : ∀ G, J1 G → ∃ fs, jm_g G 1000 = some (.inr (10, fs))) (hcn : cn ≤ 600000) (hsn : sn ≤ 7302250) (hag : lw_un Ls xs jm_M97 jm_M216 [.int (xs (v + Int32.ofInt 1).toNatClampNeg), .int (xs (v + Int32.ofInt 2).toNatClampNeg)] G V J1 J2)
    (kk : ∀ G2, J2 G2 → jm_W p l e room_1 s m args below meth c D h0 ex ka jm_ML n0 Q (1261, lw_L v, [], G2, cn, sn)) : jm_W p l e room_1 s m args below meth c D h0 ex ka jm_ML n0 Q (718, lw_L v, [], G, cn, sn) := by
  obtain ⟨d1, d2, hd1, hd2, hx, hm⟩ := hag
  refine lw_st C0 (i := (.aload_n 1, 1, 0, 0, 0)) (by decide +kernel) (jm_step_a1 rfl) ?_
  refine lw_arg (k := 1) C0 (by decide +kernel) (by decide +kernel) (by decide +kernel) (by decide +kernel) (by decide +kernel) (hb 1 (by decide) (by decide)) ?_
  refine lw_arg (k := 2) C0 (by decide +kernel) (by decide +kernel) (by decide +kernel) (by decide +kernel) (by decide +kernel) (hb 2 (by decide) (by decide)) ?_
  refine lw_call (As := [.int (xs (v + Int32.ofInt 1).toNatClampNeg), .int (xs (v + Int32.ofInt 2).toNatClampNeg)]) (rest := []) C0 (idx := 86) (a := 97) (po := 918) (by decide +kernel) (M1 := jm_M97) rfl rfl rfl (lw_rok hX rfl (by decide)) (by decide) rfl hd1 hx hcn hsn (fun v1 G1 hP hl1 => ?_)
  obtain ⟨⟨r, rfl, hr⟩, hj⟩ := hP
  refine lw_pop C0 (by decide +kernel) ?_
  refine lw_st C0 (i := (.aload_n 2, 1, 0, 0, 0)) (by decide +kernel) (jm_step_a1 rfl) ?_
  refine lw_arg (k := 1) C0 (by decide +kernel) (by decide +kernel) (by decide +kernel) (by decide +kernel) (by decide +kernel) (hb 1 (by decide) (by decide)) ?_
  refine lw_arg (k := 2) C0 (by decide +kernel) (by decide +kernel) (by decide +kernel) (by decide +kernel) (by decide +kernel) (hb 2 (by decide) (by decide)) ?_
  refine lw_call (As := [.int (xs (v + Int32.ofInt 1).toNatClampNeg), .int (xs (v + Int32.ofInt 2).toNatClampNeg)]) (rest := []) C0 (idx := 89) (a := 216) (po := 1588) (by decide +kernel) (M1 := jm_M216) rfl rfl rfl (lw_rok (hJ G1 hj) rfl (by decide)) (Nat.le_of_ble_eq_true rfl) rfl hd2 (hm G1 hj) hcn hsn (fun v2 G2 hP hl2 => ?_)
  obtain ⟨⟨r2, rfl, hr2⟩, hj2⟩ := hP
  refine lw_pop C0 (by decide +kernel) ?_
  exact lw_go (off := 513) (t := 1261) C0 (by decide +kernel) (by decide +kernel) (kk G2 hj2)
set_option maxHeartbeats 4000000 in
theorem lw_c17 (C0 : jm_C p s m args meth c D h0 ex ka Ls xs jm_ML n0) (hb : ∀ k : Int, 0 ≤ k → k ≤ 5 → jm_out (v + Int32.ofInt k) Ls = false) (hX : ∃ fs, jm_g G 8 = some (.inr (9, fs))) (hJ : ∀ G, J1 G → ∃ fs, jm_g G 1000 = some (.inr (10, fs))) (hcn : cn ≤ 600000) (hsn : sn ≤ 7302250) (hag : lw_un Ls xs jm_M98 jm_M217 [.int (xs (v + Int32.ofInt 1).toNatClampNeg), .int (xs (v + Int32.ofInt 2).toNatClampNeg)] G V J1 J2)
    (kk : ∀ G2, J2 G2 → jm_W p l e room_1 s m args below meth c D h0 ex ka jm_ML n0 Q (1261, lw_L v, [], G2, cn, sn)) : jm_W p l e room_1 s m args below meth c D h0 ex ka jm_ML n0 Q (751, lw_L v, [], G, cn, sn) := by
  obtain ⟨d1, d2, hd1, hd2, hx, hm⟩ := hag
  refine lw_st C0 (i := (.aload_n 1, 1, 0, 0, 0)) (by decide +kernel) (jm_step_a1 rfl) ?_
  refine lw_arg (k := 1) C0 (by decide +kernel) (by decide +kernel) (by decide +kernel) (by decide +kernel) (by decide +kernel) (hb 1 (by decide) (by decide)) ?_
  refine lw_arg (k := 2) C0 (by decide +kernel) (by decide +kernel) (by decide +kernel) (by decide +kernel) (by decide +kernel) (hb 2 (by decide) (by decide)) ?_
  refine lw_call (As := [.int (xs (v + Int32.ofInt 1).toNatClampNeg), .int (xs (v + Int32.ofInt 2).toNatClampNeg)]) (rest := []) C0 (idx := 90) (a := 98) (po := 922) (by decide +kernel) (M1 := jm_M98) rfl rfl rfl (lw_rok hX rfl (by decide)) (by decide) rfl hd1 hx hcn hsn (fun v1 G1 hP hl1 => ?_)
  obtain ⟨⟨r, rfl, hr⟩, hj⟩ := hP
  refine lw_pop C0 (by decide +kernel) ?_
  refine lw_st C0 (i := (.aload_n 2, 1, 0, 0, 0)) (by decide +kernel) (jm_step_a1 rfl) ?_
  refine lw_arg (k := 1) C0 (by decide +kernel) (by decide +kernel) (by decide +kernel) (by decide +kernel) (by decide +kernel) (hb 1 (by decide) (by decide)) ?_
  refine lw_arg (k := 2) C0 (by decide +kernel) (by decide +kernel) (by decide +kernel) (by decide +kernel) (by decide +kernel) (hb 2 (by decide) (by decide)) ?_
  refine lw_call (As := [.int (xs (v + Int32.ofInt 1).toNatClampNeg), .int (xs (v + Int32.ofInt 2).toNatClampNeg)]) (rest := []) C0 (idx := 93) (a := 217) (po := 1592) (by decide +kernel) (M1 := jm_M217) rfl rfl rfl (lw_rok (hJ G1 hj) rfl (by decide)) (Nat.le_of_ble_eq_true rfl) rfl hd2 (hm G1 hj) hcn hsn (fun v2 G2 hP hl2 => ?_)
  obtain ⟨⟨r2, rfl, hr2⟩, hj2⟩ := hP
  refine lw_pop C0 (by decide +kernel) ?_
  exact lw_go (off := 480) (t := 1261) C0 (by decide +kernel) (by decide +kernel) (kk G2 hj2)
set_option maxHeartbeats 4000000 in
theorem lw_c18 (C0 : jm_C p s m args meth c D h0 ex ka Ls xs jm_ML n0) (hb : ∀ k : Int, 0 ≤ k → k ≤ 5 → jm_out (v + Int32.ofInt k) Ls = false) (hX : ∃ fs, jm_g G 8 = some (.inr (9, fs))) (hJ : ∀ G, J1 G → ∃ fs, jm_g G 1000 = some (.inr (10, fs))) (hcn : cn ≤ 600000) (hsn : sn ≤ 7302250) (hag : lw_un Ls xs jm_M99 jm_M219 [.int (xs (v + Int32.ofInt 1).toNatClampNeg)] G V J1 J2)
    (kk : ∀ G2, J2 G2 → jm_W p l e room_1 s m args below meth c D h0 ex ka jm_ML n0 Q (1261, lw_L v, [], G2, cn, sn)) : jm_W p l e room_1 s m args below meth c D h0 ex ka jm_ML n0 Q (784, lw_L v, [], G, cn, sn) := by
  obtain ⟨d1, d2, hd1, hd2, hx, hm⟩ := hag
  refine lw_st C0 (i := (.aload_n 1, 1, 0, 0, 0)) (by decide +kernel) (jm_step_a1 rfl) ?_
  refine lw_arg (k := 1) C0 (by decide +kernel) (by decide +kernel) (by decide +kernel) (by decide +kernel) (by decide +kernel) (hb 1 (by decide) (by decide)) ?_
  refine lw_call (As := [.int (xs (v + Int32.ofInt 1).toNatClampNeg)]) (rest := []) C0 (idx := 94) (a := 99) (po := 926) (by decide +kernel) (M1 := jm_M99) rfl rfl rfl (lw_rok hX rfl (by decide)) (by decide) rfl hd1 hx hcn hsn (fun v1 G1 hP hl1 => ?_)
  obtain ⟨⟨r, rfl, hr⟩, hj⟩ := hP
  refine lw_pop C0 (by decide +kernel) ?_
  refine lw_st C0 (i := (.aload_n 2, 1, 0, 0, 0)) (by decide +kernel) (jm_step_a1 rfl) ?_
  refine lw_arg (k := 1) C0 (by decide +kernel) (by decide +kernel) (by decide +kernel) (by decide +kernel) (by decide +kernel) (hb 1 (by decide) (by decide)) ?_
  refine lw_call (As := [.int (xs (v + Int32.ofInt 1).toNatClampNeg)]) (rest := []) C0 (idx := 97) (a := 219) (po := 1596) (by decide +kernel) (M1 := jm_M219) rfl rfl rfl (lw_rok (hJ G1 hj) rfl (by decide)) (Nat.le_of_ble_eq_true rfl) rfl hd2 (hm G1 hj) hcn hsn (fun v2 G2 hP hl2 => ?_)
  obtain ⟨⟨r2, rfl, hr2⟩, hj2⟩ := hP
  refine lw_pop C0 (by decide +kernel) ?_
  exact lw_go (off := 457) (t := 1261) C0 (by decide +kernel) (by decide +kernel) (kk G2 hj2)
set_option maxHeartbeats 4000000 in
theorem lw_c19 (C0 : jm_C p s m args meth c D h0 ex ka Ls xs jm_ML n0) (hb : ∀ k : Int, 0 ≤ k → k ≤ 5 → jm_out (v + Int32.ofInt k) Ls = false) (hX : ∃ fs, jm_g G 8 = some (.inr (9, fs))) (hJ : ∀ G, J1 G → ∃ fs, jm_g G 1000 = some (.inr (10, fs))) (hcn : cn ≤ 600000) (hsn : sn ≤ 7302250) (hag : lw_un Ls xs jm_M100 jm_M220 [.int (if xs (v + Int32.ofInt 1).toNatClampNeg = 0 then 0 else 1)] G V J1 J2)
    (kk : ∀ G2, J2 G2 → jm_W p l e room_1 s m args below meth c D h0 ex ka jm_ML n0 Q (1261, lw_L v, [], G2, cn, sn)) : jm_W p l e room_1 s m args below meth c D h0 ex ka jm_ML n0 Q (807, lw_L v, [], G, cn, sn) := by
  obtain ⟨d1, d2, hd1, hd2, hx, hm⟩ := hag
  refine lw_st C0 (i := (.aload_n 1, 1, 0, 0, 0)) (by decide +kernel) (jm_step_a1 rfl) ?_
  refine lw_arg (k := 1) C0 (by decide +kernel) (by decide +kernel) (by decide +kernel) (by decide +kernel) (by decide +kernel) (hb 1 (by decide) (by decide)) ?_
  refine lw_argb C0 (by decide +kernel) (by decide +kernel) (by decide +kernel) (by decide +kernel) ?_
  refine lw_call (As := [.int (if xs (v + Int32.ofInt 1).toNatClampNeg = 0 then 0 else 1)]) (rest := []) C0 (idx := 98) (a := 100) (po := 930) (by decide +kernel) (M1 := jm_M100) rfl rfl rfl (lw_rok hX rfl (by decide)) (by decide) rfl hd1 hx hcn hsn (fun v1 G1 hP hl1 => ?_)
  obtain ⟨⟨r, rfl, hr⟩, hj⟩ := hP
  refine lw_pop C0 (by decide +kernel) ?_
  refine lw_st C0 (i := (.aload_n 2, 1, 0, 0, 0)) (by decide +kernel) (jm_step_a1 rfl) ?_
  refine lw_arg (k := 1) C0 (by decide +kernel) (by decide +kernel) (by decide +kernel) (by decide +kernel) (by decide +kernel) (hb 1 (by decide) (by decide)) ?_
  refine lw_argb C0 (by decide +kernel) (by decide +kernel) (by decide +kernel) (by decide +kernel) ?_
  refine lw_call (As := [.int (if xs (v + Int32.ofInt 1).toNatClampNeg = 0 then 0 else 1)]) (rest := []) C0 (idx := 102) (a := 220) (po := 1603) (by decide +kernel) (M1 := jm_M220) rfl rfl rfl (lw_rok (hJ G1 hj) rfl (by decide)) (Nat.le_of_ble_eq_true rfl) rfl hd2 (hm G1 hj) hcn hsn (fun v2 G2 hP hl2 => ?_)
  obtain ⟨⟨r2, rfl, hr2⟩, hj2⟩ := hP
  refine lw_pop C0 (by decide +kernel) ?_
  exact lw_go (off := 418) (t := 1261) C0 (by decide +kernel) (by decide +kernel) (kk G2 hj2)
set_option maxHeartbeats 4000000 in
theorem lw_c20 (C0 : jm_C p s m args meth c D h0 ex ka Ls xs jm_ML n0) (hb : ∀ k : Int, 0 ≤ k → k ≤ 5 → jm_out (v + Int32.ofInt k) Ls = false) (hX : ∃ fs, jm_g G 8 = some (.inr (9, fs))) (hJ : ∀ G, J1 G → ∃ fs, jm_g G 1000 = some (.inr (10, fs))) (hcn : cn ≤ 600000) (hsn : sn ≤ 7302250) (hag : lw_un Ls xs jm_M101 jm_M221 [.int (xs (v + Int32.ofInt 1).toNatClampNeg)] G V J1 J2)
    (kk : ∀ G2, J2 G2 → jm_W p l e room_1 s m args below meth c D h0 ex ka jm_ML n0 Q (1261, lw_L v, [], G2, cn, sn)) : jm_W p l e room_1 s m args below meth c D h0 ex ka jm_ML n0 Q (846, lw_L v, [], G, cn, sn) := by
  obtain ⟨d1, d2, hd1, hd2, hx, hm⟩ := hag
  refine lw_st C0 (i := (.aload_n 1, 1, 0, 0, 0)) (by decide +kernel) (jm_step_a1 rfl) ?_
  refine lw_arg (k := 1) C0 (by decide +kernel) (by decide +kernel) (by decide +kernel) (by decide +kernel) (by decide +kernel) (hb 1 (by decide) (by decide)) ?_
  refine lw_call (As := [.int (xs (v + Int32.ofInt 1).toNatClampNeg)]) (rest := []) C0 (idx := 103) (a := 101) (po := 934) (by decide +kernel) (M1 := jm_M101) rfl rfl rfl (lw_rok hX rfl (by decide)) (by decide) rfl hd1 hx hcn hsn (fun v1 G1 hP hl1 => ?_)
  obtain ⟨⟨r, rfl, hr⟩, hj⟩ := hP
  refine lw_pop C0 (by decide +kernel) ?_
  refine lw_st C0 (i := (.aload_n 2, 1, 0, 0, 0)) (by decide +kernel) (jm_step_a1 rfl) ?_
  refine lw_arg (k := 1) C0 (by decide +kernel) (by decide +kernel) (by decide +kernel) (by decide +kernel) (by decide +kernel) (hb 1 (by decide) (by decide)) ?_
  refine lw_call (As := [.int (xs (v + Int32.ofInt 1).toNatClampNeg)]) (rest := []) C0 (idx := 106) (a := 221) (po := 1607) (by decide +kernel) (M1 := jm_M221) rfl rfl rfl (lw_rok (hJ G1 hj) rfl (by decide)) (Nat.le_of_ble_eq_true rfl) rfl hd2 (hm G1 hj) hcn hsn (fun v2 G2 hP hl2 => ?_)
  obtain ⟨⟨r2, rfl, hr2⟩, hj2⟩ := hP
  refine lw_pop C0 (by decide +kernel) ?_
  exact lw_go (off := 395) (t := 1261) C0 (by decide +kernel) (by decide +kernel) (kk G2 hj2)
set_option maxHeartbeats 4000000 in
theorem lw_c21 (C0 : jm_C p s m args meth c D h0 ex ka Ls xs jm_ML n0) (hb : ∀ k : Int, 0 ≤ k → k ≤ 5 → jm_out (v + Int32.ofInt k) Ls = false) (hX : ∃ fs, jm_g G 8 = some (.inr (9, fs))) (hJ : ∀ G, J1 G → ∃ fs, jm_g G 1000 = some (.inr (10, fs))) (hcn : cn ≤ 600000) (hsn : sn ≤ 7302250) (hag : lw_un Ls xs jm_M102 jm_M222 [.int (xs (v + Int32.ofInt 1).toNatClampNeg), .int (xs (v + Int32.ofInt 2).toNatClampNeg), .int (xs (v + Int32.ofInt 3).toNatClampNeg)] G V J1 J2)
    (kk : ∀ G2, J2 G2 → jm_W p l e room_1 s m args below meth c D h0 ex ka jm_ML n0 Q (1261, lw_L v, [], G2, cn, sn)) : jm_W p l e room_1 s m args below meth c D h0 ex ka jm_ML n0 Q (869, lw_L v, [], G, cn, sn) := by
  obtain ⟨d1, d2, hd1, hd2, hx, hm⟩ := hag
  refine lw_st C0 (i := (.aload_n 1, 1, 0, 0, 0)) (by decide +kernel) (jm_step_a1 rfl) ?_
  refine lw_arg (k := 1) C0 (by decide +kernel) (by decide +kernel) (by decide +kernel) (by decide +kernel) (by decide +kernel) (hb 1 (by decide) (by decide)) ?_
  refine lw_arg (k := 2) C0 (by decide +kernel) (by decide +kernel) (by decide +kernel) (by decide +kernel) (by decide +kernel) (hb 2 (by decide) (by decide)) ?_
  refine lw_arg (k := 3) C0 (by decide +kernel) (by decide +kernel) (by decide +kernel) (by decide +kernel) (by decide +kernel) (hb 3 (by decide) (by decide)) ?_
  refine lw_call (As := [.int (xs (v + Int32.ofInt 1).toNatClampNeg), .int (xs (v + Int32.ofInt 2).toNatClampNeg), .int (xs (v + Int32.ofInt 3).toNatClampNeg)]) (rest := []) C0 (idx := 107) (a := 102) (po := 938) (by decide +kernel) (M1 := jm_M102) rfl rfl rfl (lw_rok hX rfl (by decide)) (by decide) rfl hd1 hx hcn hsn (fun v1 G1 hP hl1 => ?_)
  obtain ⟨⟨r, rfl, hr⟩, hj⟩ := hP
  refine lw_pop C0 (by decide +kernel) ?_
  refine lw_st C0 (i := (.aload_n 2, 1, 0, 0, 0)) (by decide +kernel) (jm_step_a1 rfl) ?_
  refine lw_arg (k := 1) C0 (by decide +kernel) (by decide +kernel) (by decide +kernel) (by decide +kernel) (by decide +kernel) (hb 1 (by decide) (by decide)) ?_
  refine lw_arg (k := 2) C0 (by decide +kernel) (by decide +kernel) (by decide +kernel) (by decide +kernel) (by decide +kernel) (hb 2 (by decide) (by decide)) ?_
  refine lw_arg (k := 3) C0 (by decide +kernel) (by decide +kernel) (by decide +kernel) (by decide +kernel) (by decide +kernel) (hb 3 (by decide) (by decide)) ?_
  refine lw_call (As := [.int (xs (v + Int32.ofInt 1).toNatClampNeg), .int (xs (v + Int32.ofInt 2).toNatClampNeg), .int (xs (v + Int32.ofInt 3).toNatClampNeg)]) (rest := []) C0 (idx := 110) (a := 222) (po := 1611) (by decide +kernel) (M1 := jm_M222) rfl rfl rfl (lw_rok (hJ G1 hj) rfl (by decide)) (Nat.le_of_ble_eq_true rfl) rfl hd2 (hm G1 hj) hcn hsn (fun v2 G2 hP hl2 => ?_)
  obtain ⟨⟨r2, rfl, hr2⟩, hj2⟩ := hP
  refine lw_pop C0 (by decide +kernel) ?_
  exact lw_go (off := 352) (t := 1261) C0 (by decide +kernel) (by decide +kernel) (kk G2 hj2)
set_option maxHeartbeats 4000000 in
theorem lw_c22 (C0 : jm_C p s m args meth c D h0 ex ka Ls xs jm_ML n0) (hb : ∀ k : Int, 0 ≤ k → k ≤ 5 → jm_out (v + Int32.ofInt k) Ls = false) (hX : ∃ fs, jm_g G 8 = some (.inr (9, fs))) (hJ : ∀ G, J1 G → ∃ fs, jm_g G 1000 = some (.inr (10, fs))) (hcn : cn ≤ 600000) (hsn : sn ≤ 7302250) (hag : lw_un Ls xs jm_M103 jm_M223 [.int (xs (v + Int32.ofInt 1).toNatClampNeg), .int (xs (v + Int32.ofInt 2).toNatClampNeg)] G V J1 J2)
    (kk : ∀ G2, J2 G2 → jm_W p l e room_1 s m args below meth c D h0 ex ka jm_ML n0 Q (1261, lw_L v, [], G2, cn, sn)) : jm_W p l e room_1 s m args below meth c D h0 ex ka jm_ML n0 Q (912, lw_L v, [], G, cn, sn) := by
  obtain ⟨d1, d2, hd1, hd2, hx, hm⟩ := hag
  refine lw_st C0 (i := (.aload_n 1, 1, 0, 0, 0)) (by decide +kernel) (jm_step_a1 rfl) ?_
  refine lw_arg (k := 1) C0 (by decide +kernel) (by decide +kernel) (by decide +kernel) (by decide +kernel) (by decide +kernel) (hb 1 (by decide) (by decide)) ?_
  refine lw_arg (k := 2) C0 (by decide +kernel) (by decide +kernel) (by decide +kernel) (by decide +kernel) (by decide +kernel) (hb 2 (by decide) (by decide)) ?_
  refine lw_call (As := [.int (xs (v + Int32.ofInt 1).toNatClampNeg), .int (xs (v + Int32.ofInt 2).toNatClampNeg)]) (rest := []) C0 (idx := 111) (a := 103) (po := 946) (by decide +kernel) (M1 := jm_M103) rfl rfl rfl (lw_rok hX rfl (by decide)) (by decide) rfl hd1 hx hcn hsn (fun v1 G1 hP hl1 => ?_)
  obtain ⟨⟨r, rfl, hr⟩, hj⟩ := hP
  refine lw_pop C0 (by decide +kernel) ?_
  refine lw_st C0 (i := (.aload_n 2, 1, 0, 0, 0)) (by decide +kernel) (jm_step_a1 rfl) ?_
  refine lw_arg (k := 1) C0 (by decide +kernel) (by decide +kernel) (by decide +kernel) (by decide +kernel) (by decide +kernel) (hb 1 (by decide) (by decide)) ?_
  refine lw_arg (k := 2) C0 (by decide +kernel) (by decide +kernel) (by decide +kernel) (by decide +kernel) (by decide +kernel) (hb 2 (by decide) (by decide)) ?_
  refine lw_call (As := [.int (xs (v + Int32.ofInt 1).toNatClampNeg), .int (xs (v + Int32.ofInt 2).toNatClampNeg)]) (rest := []) C0 (idx := 114) (a := 223) (po := 1615) (by decide +kernel) (M1 := jm_M223) rfl rfl rfl (lw_rok (hJ G1 hj) rfl (by decide)) (Nat.le_of_ble_eq_true rfl) rfl hd2 (hm G1 hj) hcn hsn (fun v2 G2 hP hl2 => ?_)
  obtain ⟨⟨r2, rfl, hr2⟩, hj2⟩ := hP
  refine lw_pop C0 (by decide +kernel) ?_
  exact lw_go (off := 319) (t := 1261) C0 (by decide +kernel) (by decide +kernel) (kk G2 hj2)
set_option maxHeartbeats 4000000 in
theorem lw_c23 (C0 : jm_C p s m args meth c D h0 ex ka Ls xs jm_ML n0) (hb : ∀ k : Int, 0 ≤ k → k ≤ 5 → jm_out (v + Int32.ofInt k) Ls = false) (hX : ∃ fs, jm_g G 8 = some (.inr (9, fs))) (hJ : ∀ G, J1 G → ∃ fs, jm_g G 1000 = some (.inr (10, fs))) (hcn : cn ≤ 600000) (hsn : sn ≤ 7302250) (hag : lw_un Ls xs jm_M104 jm_M224 [.int (xs (v + Int32.ofInt 1).toNatClampNeg), .int (xs (v + Int32.ofInt 2).toNatClampNeg)] G V J1 J2)
    (kk : ∀ G2, J2 G2 → jm_W p l e room_1 s m args below meth c D h0 ex ka jm_ML n0 Q (1261, lw_L v, [], G2, cn, sn)) : jm_W p l e room_1 s m args below meth c D h0 ex ka jm_ML n0 Q (945, lw_L v, [], G, cn, sn) := by
  obtain ⟨d1, d2, hd1, hd2, hx, hm⟩ := hag
  refine lw_st C0 (i := (.aload_n 1, 1, 0, 0, 0)) (by decide +kernel) (jm_step_a1 rfl) ?_
  refine lw_arg (k := 1) C0 (by decide +kernel) (by decide +kernel) (by decide +kernel) (by decide +kernel) (by decide +kernel) (hb 1 (by decide) (by decide)) ?_
  refine lw_arg (k := 2) C0 (by decide +kernel) (by decide +kernel) (by decide +kernel) (by decide +kernel) (by decide +kernel) (hb 2 (by decide) (by decide)) ?_
  refine lw_call (As := [.int (xs (v + Int32.ofInt 1).toNatClampNeg), .int (xs (v + Int32.ofInt 2).toNatClampNeg)]) (rest := []) C0 (idx := 115) (a := 104) (po := 950) (by decide +kernel) (M1 := jm_M104) rfl rfl rfl (lw_rok hX rfl (by decide)) (by decide) rfl hd1 hx hcn hsn (fun v1 G1 hP hl1 => ?_)
  obtain ⟨⟨r, rfl, hr⟩, hj⟩ := hP
  refine lw_pop C0 (by decide +kernel) ?_
  refine lw_st C0 (i := (.aload_n 2, 1, 0, 0, 0)) (by decide +kernel) (jm_step_a1 rfl) ?_
  refine lw_arg (k := 1) C0 (by decide +kernel) (by decide +kernel) (by decide +kernel) (by decide +kernel) (by decide +kernel) (hb 1 (by decide) (by decide)) ?_
  refine lw_arg (k := 2) C0 (by decide +kernel) (by decide +kernel) (by decide +kernel) (by decide +kernel) (by decide +kernel) (hb 2 (by decide) (by decide)) ?_
  refine lw_call (As := [.int (xs (v + Int32.ofInt 1).toNatClampNeg), .int (xs (v + Int32.ofInt 2).toNatClampNeg)]) (rest := []) C0 (idx := 118) (a := 224) (po := 1619) (by decide +kernel) (M1 := jm_M224) rfl rfl rfl (lw_rok (hJ G1 hj) rfl (by decide)) (Nat.le_of_ble_eq_true rfl) rfl hd2 (hm G1 hj) hcn hsn (fun v2 G2 hP hl2 => ?_)
  obtain ⟨⟨r2, rfl, hr2⟩, hj2⟩ := hP
  refine lw_pop C0 (by decide +kernel) ?_
  exact lw_go (off := 286) (t := 1261) C0 (by decide +kernel) (by decide +kernel) (kk G2 hj2)
set_option maxHeartbeats 4000000 in
theorem lw_c24 (C0 : jm_C p s m args meth c D h0 ex ka Ls xs jm_ML n0) (hb : ∀ k : Int, 0 ≤ k → k ≤ 5 → jm_out (v + Int32.ofInt k) Ls = false) (hX : ∃ fs, jm_g G 8 = some (.inr (9, fs))) (hJ : ∀ G, J1 G → ∃ fs, jm_g G 1000 = some (.inr (10, fs))) (hcn : cn ≤ 600000) (hsn : sn ≤ 7302250) (hag : lw_un Ls xs jm_M105 jm_M225 [.int (xs (v + Int32.ofInt 1).toNatClampNeg)] G V J1 J2)
    (kk : ∀ G2, J2 G2 → jm_W p l e room_1 s m args below meth c D h0 ex ka jm_ML n0 Q (1261, lw_L v, [], G2, cn, sn)) : jm_W p l e room_1 s m args below meth c D h0 ex ka jm_ML n0 Q (978, lw_L v, [], G, cn, sn) := by
  obtain ⟨d1, d2, hd1, hd2, hx, hm⟩ := hag
  refine lw_st C0 (i := (.aload_n 1, 1, 0, 0, 0)) (by decide +kernel) (jm_step_a1 rfl) ?_
  refine lw_arg (k := 1) C0 (by decide +kernel) (by decide +kernel) (by decide +kernel) (by decide +kernel) (by decide +kernel) (hb 1 (by decide) (by decide)) ?_
  refine lw_call (As := [.int (xs (v + Int32.ofInt 1).toNatClampNeg)]) (rest := []) C0 (idx := 119) (a := 105) (po := 954) (by decide +kernel) (M1 := jm_M105) rfl rfl rfl (lw_rok hX rfl (by decide)) (by decide) rfl hd1 hx hcn hsn (fun v1 G1 hP hl1 => ?_)
  obtain ⟨⟨r, rfl, hr⟩, hj⟩ := hP
  refine lw_pop C0 (by decide +kernel) ?_
  refine lw_st C0 (i := (.aload_n 2, 1, 0, 0, 0)) (by decide +kernel) (jm_step_a1 rfl) ?_
  refine lw_arg (k := 1) C0 (by decide +kernel) (by decide +kernel) (by decide +kernel) (by decide +kernel) (by decide +kernel) (hb 1 (by decide) (by decide)) ?_
  refine lw_call (As := [.int (xs (v + Int32.ofInt 1).toNatClampNeg)]) (rest := []) C0 (idx := 122) (a := 225) (po := 1623) (by decide +kernel) (M1 := jm_M225) rfl rfl rfl (lw_rok (hJ G1 hj) rfl (by decide)) (Nat.le_of_ble_eq_true rfl) rfl hd2 (hm G1 hj) hcn hsn (fun v2 G2 hP hl2 => ?_)
  obtain ⟨⟨r2, rfl, hr2⟩, hj2⟩ := hP
  refine lw_pop C0 (by decide +kernel) ?_
  exact lw_go (off := 263) (t := 1261) C0 (by decide +kernel) (by decide +kernel) (kk G2 hj2)
set_option maxHeartbeats 4000000 in
theorem lw_c25 (C0 : jm_C p s m args meth c D h0 ex ka Ls xs jm_ML n0) (hb : ∀ k : Int, 0 ≤ k → k ≤ 5 → jm_out (v + Int32.ofInt k) Ls = false) (hX : ∃ fs, jm_g G 8 = some (.inr (9, fs))) (hJ : ∀ G, J1 G → ∃ fs, jm_g G 1000 = some (.inr (10, fs))) (hcn : cn ≤ 600000) (hsn : sn ≤ 7302250) (hag : lw_un Ls xs jm_M106 jm_M226 [] G V J1 J2)
    (kk : ∀ G2, J2 G2 → jm_W p l e room_1 s m args below meth c D h0 ex ka jm_ML n0 Q (1261, lw_L v, [], G2, cn, sn)) : jm_W p l e room_1 s m args below meth c D h0 ex ka jm_ML n0 Q (1001, lw_L v, [], G, cn, sn) := by
  obtain ⟨d1, d2, hd1, hd2, hx, hm⟩ := hag
  refine lw_st C0 (i := (.aload_n 1, 1, 0, 0, 0)) (by decide +kernel) (jm_step_a1 rfl) ?_
  refine lw_call (As := []) (rest := []) C0 (idx := 123) (a := 106) (po := 962) (by decide +kernel) (M1 := jm_M106) rfl rfl rfl (lw_rok hX rfl (by decide)) (by decide) rfl hd1 hx hcn hsn (fun v1 G1 hP hl1 => ?_)
  obtain ⟨⟨r, rfl, hr⟩, hj⟩ := hP
  refine lw_pop C0 (by decide +kernel) ?_
  refine lw_st C0 (i := (.aload_n 2, 1, 0, 0, 0)) (by decide +kernel) (jm_step_a1 rfl) ?_
  refine lw_call (As := []) (rest := []) C0 (idx := 126) (a := 226) (po := 1627) (by decide +kernel) (M1 := jm_M226) rfl rfl rfl (lw_rok (hJ G1 hj) rfl (by decide)) (Nat.le_of_ble_eq_true rfl) rfl hd2 (hm G1 hj) hcn hsn (fun v2 G2 hP hl2 => ?_)
  obtain ⟨⟨r2, rfl, hr2⟩, hj2⟩ := hP
  refine lw_pop C0 (by decide +kernel) ?_
  exact lw_go (off := 250) (t := 1261) C0 (by decide +kernel) (by decide +kernel) (kk G2 hj2)
set_option maxHeartbeats 4000000 in
theorem lw_c26 (C0 : jm_C p s m args meth c D h0 ex ka Ls xs jm_ML n0) (hb : ∀ k : Int, 0 ≤ k → k ≤ 5 → jm_out (v + Int32.ofInt k) Ls = false) (hX : ∃ fs, jm_g G 8 = some (.inr (9, fs))) (hJ : ∀ G, J1 G → ∃ fs, jm_g G 1000 = some (.inr (10, fs))) (hcn : cn ≤ 600000) (hsn : sn ≤ 7302250) (hag : lw_un Ls xs jm_M107 jm_M227 [.int (xs (v + Int32.ofInt 1).toNatClampNeg), .int (xs (v + Int32.ofInt 2).toNatClampNeg), .int (xs (v + Int32.ofInt 3).toNatClampNeg), .int (xs (v + Int32.ofInt 4).toNatClampNeg)] G V J1 J2)
    (kk : ∀ G2, J2 G2 → jm_W p l e room_1 s m args below meth c D h0 ex ka jm_ML n0 Q (1261, lw_L v, [], G2, cn, sn)) : jm_W p l e room_1 s m args below meth c D h0 ex ka jm_ML n0 Q (1014, lw_L v, [], G, cn, sn) := by
  obtain ⟨d1, d2, hd1, hd2, hx, hm⟩ := hag
  refine lw_st C0 (i := (.aload_n 1, 1, 0, 0, 0)) (by decide +kernel) (jm_step_a1 rfl) ?_
  refine lw_arg (k := 1) C0 (by decide +kernel) (by decide +kernel) (by decide +kernel) (by decide +kernel) (by decide +kernel) (hb 1 (by decide) (by decide)) ?_
  refine lw_arg (k := 2) C0 (by decide +kernel) (by decide +kernel) (by decide +kernel) (by decide +kernel) (by decide +kernel) (hb 2 (by decide) (by decide)) ?_
  refine lw_arg (k := 3) C0 (by decide +kernel) (by decide +kernel) (by decide +kernel) (by decide +kernel) (by decide +kernel) (hb 3 (by decide) (by decide)) ?_
  refine lw_arg (k := 4) C0 (by decide +kernel) (by decide +kernel) (by decide +kernel) (by decide +kernel) (by decide +kernel) (hb 4 (by decide) (by decide)) ?_
  refine lw_call (As := [.int (xs (v + Int32.ofInt 1).toNatClampNeg), .int (xs (v + Int32.ofInt 2).toNatClampNeg), .int (xs (v + Int32.ofInt 3).toNatClampNeg), .int (xs (v + Int32.ofInt 4).toNatClampNeg)]) (rest := []) C0 (idx := 127) (a := 107) (po := 966) (by decide +kernel) (M1 := jm_M107) rfl rfl rfl (lw_rok hX rfl (by decide)) (by decide) rfl hd1 hx hcn hsn (fun v1 G1 hP hl1 => ?_)
  obtain ⟨⟨r, rfl, hr⟩, hj⟩ := hP
  refine lw_pop C0 (by decide +kernel) ?_
  refine lw_st C0 (i := (.aload_n 2, 1, 0, 0, 0)) (by decide +kernel) (jm_step_a1 rfl) ?_
  refine lw_arg (k := 1) C0 (by decide +kernel) (by decide +kernel) (by decide +kernel) (by decide +kernel) (by decide +kernel) (hb 1 (by decide) (by decide)) ?_
  refine lw_arg (k := 2) C0 (by decide +kernel) (by decide +kernel) (by decide +kernel) (by decide +kernel) (by decide +kernel) (hb 2 (by decide) (by decide)) ?_
  refine lw_arg (k := 3) C0 (by decide +kernel) (by decide +kernel) (by decide +kernel) (by decide +kernel) (by decide +kernel) (hb 3 (by decide) (by decide)) ?_
  refine lw_arg (k := 4) C0 (by decide +kernel) (by decide +kernel) (by decide +kernel) (by decide +kernel) (by decide +kernel) (hb 4 (by decide) (by decide)) ?_
  refine lw_call (As := [.int (xs (v + Int32.ofInt 1).toNatClampNeg), .int (xs (v + Int32.ofInt 2).toNatClampNeg), .int (xs (v + Int32.ofInt 3).toNatClampNeg), .int (xs (v + Int32.ofInt 4).toNatClampNeg)]) (rest := []) C0 (idx := 131) (a := 227) (po := 1631) (by decide +kernel) (M1 := jm_M227) rfl rfl rfl (lw_rok (hJ G1 hj) rfl (by decide)) (Nat.le_of_ble_eq_true rfl) rfl hd2 (hm G1 hj) hcn hsn (fun v2 G2 hP hl2 => ?_)
  obtain ⟨⟨r2, rfl, hr2⟩, hj2⟩ := hP
  refine lw_pop C0 (by decide +kernel) ?_
  exact lw_go (off := 197) (t := 1261) C0 (by decide +kernel) (by decide +kernel) (kk G2 hj2)
set_option maxHeartbeats 4000000 in
theorem lw_c27 (C0 : jm_C p s m args meth c D h0 ex ka Ls xs jm_ML n0) (hb : ∀ k : Int, 0 ≤ k → k ≤ 5 → jm_out (v + Int32.ofInt k) Ls = false) (hX : ∃ fs, jm_g G 8 = some (.inr (9, fs))) (hJ : ∀ G, J1 G → ∃ fs, jm_g G 1000 = some (.inr (10, fs))) (hcn : cn ≤ 600000) (hsn : sn ≤ 7302250) (hag : lw_un Ls xs jm_M108 jm_M228 [.int (xs (v + Int32.ofInt 1).toNatClampNeg), .int (xs (v + Int32.ofInt 2).toNatClampNeg)] G V J1 J2)
    (kk : ∀ G2, J2 G2 → jm_W p l e room_1 s m args below meth c D h0 ex ka jm_ML n0 Q (1261, lw_L v, [], G2, cn, sn)) : jm_W p l e room_1 s m args below meth c D h0 ex ka jm_ML n0 Q (1067, lw_L v, [], G, cn, sn) := by
  obtain ⟨d1, d2, hd1, hd2, hx, hm⟩ := hag
  refine lw_st C0 (i := (.aload_n 1, 1, 0, 0, 0)) (by decide +kernel) (jm_step_a1 rfl) ?_
  refine lw_arg (k := 1) C0 (by decide +kernel) (by decide +kernel) (by decide +kernel) (by decide +kernel) (by decide +kernel) (hb 1 (by decide) (by decide)) ?_
  refine lw_arg (k := 2) C0 (by decide +kernel) (by decide +kernel) (by decide +kernel) (by decide +kernel) (by decide +kernel) (hb 2 (by decide) (by decide)) ?_
  refine lw_call (As := [.int (xs (v + Int32.ofInt 1).toNatClampNeg), .int (xs (v + Int32.ofInt 2).toNatClampNeg)]) (rest := []) C0 (idx := 132) (a := 108) (po := 970) (by decide +kernel) (M1 := jm_M108) rfl rfl rfl (lw_rok hX rfl (by decide)) (by decide) rfl hd1 hx hcn hsn (fun v1 G1 hP hl1 => ?_)
  obtain ⟨⟨r, rfl, hr⟩, hj⟩ := hP
  refine lw_pop C0 (by decide +kernel) ?_
  refine lw_st C0 (i := (.aload_n 2, 1, 0, 0, 0)) (by decide +kernel) (jm_step_a1 rfl) ?_
  refine lw_arg (k := 1) C0 (by decide +kernel) (by decide +kernel) (by decide +kernel) (by decide +kernel) (by decide +kernel) (hb 1 (by decide) (by decide)) ?_
  refine lw_arg (k := 2) C0 (by decide +kernel) (by decide +kernel) (by decide +kernel) (by decide +kernel) (by decide +kernel) (hb 2 (by decide) (by decide)) ?_
  refine lw_call (As := [.int (xs (v + Int32.ofInt 1).toNatClampNeg), .int (xs (v + Int32.ofInt 2).toNatClampNeg)]) (rest := []) C0 (idx := 135) (a := 228) (po := 1635) (by decide +kernel) (M1 := jm_M228) rfl rfl rfl (lw_rok (hJ G1 hj) rfl (by decide)) (Nat.le_of_ble_eq_true rfl) rfl hd2 (hm G1 hj) hcn hsn (fun v2 G2 hP hl2 => ?_)
  obtain ⟨⟨r2, rfl, hr2⟩, hj2⟩ := hP
  refine lw_pop C0 (by decide +kernel) ?_
  exact lw_go (off := 164) (t := 1261) C0 (by decide +kernel) (by decide +kernel) (kk G2 hj2)
set_option maxHeartbeats 4000000 in
theorem lw_c28 (C0 : jm_C p s m args meth c D h0 ex ka Ls xs jm_ML n0) (hb : ∀ k : Int, 0 ≤ k → k ≤ 5 → jm_out (v + Int32.ofInt k) Ls = false) (hX : ∃ fs, jm_g G 8 = some (.inr (9, fs))) (hJ : ∀ G, J1 G → ∃ fs, jm_g G 1000 = some (.inr (10, fs))) (hcn : cn ≤ 600000) (hsn : sn ≤ 7302250) (hag : lw_un Ls xs jm_M109 jm_M229 [] G V J1 J2)
    (kk : ∀ G2, J2 G2 → jm_W p l e room_1 s m args below meth c D h0 ex ka jm_ML n0 Q (1261, lw_L v, [], G2, cn, sn)) : jm_W p l e room_1 s m args below meth c D h0 ex ka jm_ML n0 Q (1100, lw_L v, [], G, cn, sn) := by
  obtain ⟨d1, d2, hd1, hd2, hx, hm⟩ := hag
  refine lw_st C0 (i := (.aload_n 1, 1, 0, 0, 0)) (by decide +kernel) (jm_step_a1 rfl) ?_
  refine lw_call (As := []) (rest := []) C0 (idx := 136) (a := 109) (po := 978) (by decide +kernel) (M1 := jm_M109) rfl rfl rfl (lw_rok hX rfl (by decide)) (by decide) rfl hd1 hx hcn hsn (fun v1 G1 hP hl1 => ?_)
  obtain ⟨⟨r, rfl, hr⟩, hj⟩ := hP
  refine lw_pop C0 (by decide +kernel) ?_
  refine lw_st C0 (i := (.aload_n 2, 1, 0, 0, 0)) (by decide +kernel) (jm_step_a1 rfl) ?_
  refine lw_call (As := []) (rest := []) C0 (idx := 139) (a := 229) (po := 1639) (by decide +kernel) (M1 := jm_M229) rfl rfl rfl (lw_rok (hJ G1 hj) rfl (by decide)) (Nat.le_of_ble_eq_true rfl) rfl hd2 (hm G1 hj) hcn hsn (fun v2 G2 hP hl2 => ?_)
  obtain ⟨⟨r2, rfl, hr2⟩, hj2⟩ := hP
  refine lw_pop C0 (by decide +kernel) ?_
  exact lw_go (off := 151) (t := 1261) C0 (by decide +kernel) (by decide +kernel) (kk G2 hj2)
set_option maxHeartbeats 4000000 in
theorem lw_c29 (C0 : jm_C p s m args meth c D h0 ex ka Ls xs jm_ML n0) (hb : ∀ k : Int, 0 ≤ k → k ≤ 5 → jm_out (v + Int32.ofInt k) Ls = false) (hX : ∃ fs, jm_g G 8 = some (.inr (9, fs))) (hJ : ∀ G, J1 G → ∃ fs, jm_g G 1000 = some (.inr (10, fs))) (hcn : cn ≤ 600000) (hsn : sn ≤ 7302250) (hV : ∀ r r2, V r → V r2 → r = r2) (hag : lw_un Ls xs jm_M110 jm_M233 [.int (xs (v + Int32.ofInt 1).toNatClampNeg)] G V J1 J2)
    (kk : ∀ G2, J2 G2 → jm_W p l e room_1 s m args below meth c D h0 ex ka jm_ML n0 Q (1261, lw_L v, [], G2, cn, sn)) : jm_W p l e room_1 s m args below meth c D h0 ex ka jm_ML n0 Q (1113, lw_L v, [], G, cn, sn) := by
  obtain ⟨d1, d2, hd1, hd2, hx, hm⟩ := hag
  refine lw_st C0 (i := (.aload_n 1, 1, 0, 0, 0)) (by decide +kernel) (jm_step_a1 rfl) ?_
  refine lw_arg (k := 1) C0 (by decide +kernel) (by decide +kernel) (by decide +kernel) (by decide +kernel) (by decide +kernel) (hb 1 (by decide) (by decide)) ?_
  refine lw_call (As := [.int (xs (v + Int32.ofInt 1).toNatClampNeg)]) (rest := []) C0 (idx := 140) (a := 110) (po := 982) (by decide +kernel) (M1 := jm_M110) rfl rfl rfl (lw_rok hX rfl (by decide)) (by decide) rfl hd1 hx hcn hsn (fun v1 G1 hP hl1 => ?_)
  obtain ⟨⟨r, rfl, hr⟩, hj⟩ := hP
  refine lw_st C0 (i := (.aload_n 2, 1, 0, 0, 0)) (by decide +kernel) (jm_step_a1 rfl) ?_
  refine lw_arg (k := 1) C0 (by decide +kernel) (by decide +kernel) (by decide +kernel) (by decide +kernel) (by decide +kernel) (hb 1 (by decide) (by decide)) ?_
  refine lw_call (As := [.int (xs (v + Int32.ofInt 1).toNatClampNeg)]) (rest := [.int r]) C0 (idx := 143) (a := 233) (po := 1643) (by decide +kernel) (M1 := jm_M233) rfl rfl rfl (lw_rok (hJ G1 hj) rfl (by decide)) (Nat.le_of_ble_eq_true rfl) rfl hd2 (hm G1 hj) hcn hsn (fun v2 G2 hP hl2 => ?_)
  obtain ⟨⟨r2, rfl, hr2⟩, hj2⟩ := hP
  obtain rfl := hV r r2 hr hr2
  exact lw_cmp (off := 130) (t := 1261) C0 (by decide +kernel) (by decide +kernel) (kk G2 hj2)
set_option maxHeartbeats 4000000 in
theorem lw_c30 (C0 : jm_C p s m args meth c D h0 ex ka Ls xs jm_ML n0) (hb : ∀ k : Int, 0 ≤ k → k ≤ 5 → jm_out (v + Int32.ofInt k) Ls = false) (hX : ∃ fs, jm_g G 8 = some (.inr (9, fs))) (hJ : ∀ G, J1 G → ∃ fs, jm_g G 1000 = some (.inr (10, fs))) (hcn : cn ≤ 600000) (hsn : sn ≤ 7302250) (hag : lw_un Ls xs jm_M111 jm_M234 [.int (xs (v + Int32.ofInt 1).toNatClampNeg), .int (xs (v + Int32.ofInt 2).toNatClampNeg)] G V J1 J2)
    (kk : ∀ G2, J2 G2 → jm_W p l e room_1 s m args below meth c D h0 ex ka jm_ML n0 Q (1261, lw_L v, [], G2, cn, sn)) : jm_W p l e room_1 s m args below meth c D h0 ex ka jm_ML n0 Q (1136, lw_L v, [], G, cn, sn) := by
  obtain ⟨d1, d2, hd1, hd2, hx, hm⟩ := hag
  refine lw_st C0 (i := (.aload_n 1, 1, 0, 0, 0)) (by decide +kernel) (jm_step_a1 rfl) ?_
  refine lw_arg (k := 1) C0 (by decide +kernel) (by decide +kernel) (by decide +kernel) (by decide +kernel) (by decide +kernel) (hb 1 (by decide) (by decide)) ?_
  refine lw_arg (k := 2) C0 (by decide +kernel) (by decide +kernel) (by decide +kernel) (by decide +kernel) (by decide +kernel) (hb 2 (by decide) (by decide)) ?_
  refine lw_call (As := [.int (xs (v + Int32.ofInt 1).toNatClampNeg), .int (xs (v + Int32.ofInt 2).toNatClampNeg)]) (rest := []) C0 (idx := 144) (a := 111) (po := 1002) (by decide +kernel) (M1 := jm_M111) rfl rfl rfl (lw_rok hX rfl (by decide)) (by decide) rfl hd1 hx hcn hsn (fun v1 G1 hP hl1 => ?_)
  obtain ⟨⟨r, rfl, hr⟩, hj⟩ := hP
  refine lw_pop C0 (by decide +kernel) ?_
  refine lw_st C0 (i := (.aload_n 2, 1, 0, 0, 0)) (by decide +kernel) (jm_step_a1 rfl) ?_
  refine lw_arg (k := 1) C0 (by decide +kernel) (by decide +kernel) (by decide +kernel) (by decide +kernel) (by decide +kernel) (hb 1 (by decide) (by decide)) ?_
  refine lw_arg (k := 2) C0 (by decide +kernel) (by decide +kernel) (by decide +kernel) (by decide +kernel) (by decide +kernel) (hb 2 (by decide) (by decide)) ?_
  refine lw_call (As := [.int (xs (v + Int32.ofInt 1).toNatClampNeg), .int (xs (v + Int32.ofInt 2).toNatClampNeg)]) (rest := []) C0 (idx := 147) (a := 234) (po := 1658) (by decide +kernel) (M1 := jm_M234) rfl rfl rfl (lw_rok (hJ G1 hj) rfl (by decide)) (Nat.le_of_ble_eq_true rfl) rfl hd2 (hm G1 hj) hcn hsn (fun v2 G2 hP hl2 => ?_)
  obtain ⟨⟨r2, rfl, hr2⟩, hj2⟩ := hP
  refine lw_pop C0 (by decide +kernel) ?_
  exact lw_go (off := 95) (t := 1261) C0 (by decide +kernel) (by decide +kernel) (kk G2 hj2)
set_option maxHeartbeats 4000000 in
theorem lw_c31 (C0 : jm_C p s m args meth c D h0 ex ka Ls xs jm_ML n0) (hb : ∀ k : Int, 0 ≤ k → k ≤ 5 → jm_out (v + Int32.ofInt k) Ls = false) (hX : ∃ fs, jm_g G 8 = some (.inr (9, fs))) (hJ : ∀ G, J1 G → ∃ fs, jm_g G 1000 = some (.inr (10, fs))) (hcn : cn ≤ 600000) (hsn : sn ≤ 7302250) (hag : lw_un Ls xs jm_M112 jm_M235 [.int (xs (v + Int32.ofInt 1).toNatClampNeg)] G V J1 J2)
    (kk : ∀ G2, J2 G2 → jm_W p l e room_1 s m args below meth c D h0 ex ka jm_ML n0 Q (1261, lw_L v, [], G2, cn, sn)) : jm_W p l e room_1 s m args below meth c D h0 ex ka jm_ML n0 Q (1169, lw_L v, [], G, cn, sn) := by
  obtain ⟨d1, d2, hd1, hd2, hx, hm⟩ := hag
  refine lw_st C0 (i := (.aload_n 1, 1, 0, 0, 0)) (by decide +kernel) (jm_step_a1 rfl) ?_
  refine lw_arg (k := 1) C0 (by decide +kernel) (by decide +kernel) (by decide +kernel) (by decide +kernel) (by decide +kernel) (hb 1 (by decide) (by decide)) ?_
  refine lw_call (As := [.int (xs (v + Int32.ofInt 1).toNatClampNeg)]) (rest := []) C0 (idx := 148) (a := 112) (po := 1011) (by decide +kernel) (M1 := jm_M112) rfl rfl rfl (lw_rok hX rfl (by decide)) (by decide) rfl hd1 hx hcn hsn (fun v1 G1 hP hl1 => ?_)
  obtain ⟨⟨r, rfl, hr⟩, hj⟩ := hP
  refine lw_pop C0 (by decide +kernel) ?_
  refine lw_st C0 (i := (.aload_n 2, 1, 0, 0, 0)) (by decide +kernel) (jm_step_a1 rfl) ?_
  refine lw_arg (k := 1) C0 (by decide +kernel) (by decide +kernel) (by decide +kernel) (by decide +kernel) (by decide +kernel) (hb 1 (by decide) (by decide)) ?_
  refine lw_call (As := [.int (xs (v + Int32.ofInt 1).toNatClampNeg)]) (rest := []) C0 (idx := 151) (a := 235) (po := 1662) (by decide +kernel) (M1 := jm_M235) rfl rfl rfl (lw_rok (hJ G1 hj) rfl (by decide)) (Nat.le_of_ble_eq_true rfl) rfl hd2 (hm G1 hj) hcn hsn (fun v2 G2 hP hl2 => ?_)
  obtain ⟨⟨r2, rfl, hr2⟩, hj2⟩ := hP
  refine lw_pop C0 (by decide +kernel) ?_
  exact lw_go (off := 72) (t := 1261) C0 (by decide +kernel) (by decide +kernel) (kk G2 hj2)
set_option maxHeartbeats 4000000 in
theorem lw_c32 (C0 : jm_C p s m args meth c D h0 ex ka Ls xs jm_ML n0) (hb : ∀ k : Int, 0 ≤ k → k ≤ 5 → jm_out (v + Int32.ofInt k) Ls = false) (hX : ∃ fs, jm_g G 8 = some (.inr (9, fs))) (hJ : ∀ G, J1 G → ∃ fs, jm_g G 1000 = some (.inr (10, fs))) (hcn : cn ≤ 600000) (hsn : sn ≤ 7302250) (hag : lw_un Ls xs jm_M113 jm_M236 [.int (xs (v + Int32.ofInt 1).toNatClampNeg)] G V J1 J2)
    (kk : ∀ G2, J2 G2 → jm_W p l e room_1 s m args below meth c D h0 ex ka jm_ML n0 Q (1261, lw_L v, [], G2, cn, sn)) : jm_W p l e room_1 s m args below meth c D h0 ex ka jm_ML n0 Q (1192, lw_L v, [], G, cn, sn) := by
  obtain ⟨d1, d2, hd1, hd2, hx, hm⟩ := hag
  refine lw_st C0 (i := (.aload_n 1, 1, 0, 0, 0)) (by decide +kernel) (jm_step_a1 rfl) ?_
  refine lw_arg (k := 1) C0 (by decide +kernel) (by decide +kernel) (by decide +kernel) (by decide +kernel) (by decide +kernel) (hb 1 (by decide) (by decide)) ?_
  refine lw_call (As := [.int (xs (v + Int32.ofInt 1).toNatClampNeg)]) (rest := []) C0 (idx := 152) (a := 113) (po := 1019) (by decide +kernel) (M1 := jm_M113) rfl rfl rfl (lw_rok hX rfl (by decide)) (by decide) rfl hd1 hx hcn hsn (fun v1 G1 hP hl1 => ?_)
  obtain ⟨⟨r, rfl, hr⟩, hj⟩ := hP
  refine lw_pop C0 (by decide +kernel) ?_
  refine lw_st C0 (i := (.aload_n 2, 1, 0, 0, 0)) (by decide +kernel) (jm_step_a1 rfl) ?_
  refine lw_arg (k := 1) C0 (by decide +kernel) (by decide +kernel) (by decide +kernel) (by decide +kernel) (by decide +kernel) (hb 1 (by decide) (by decide)) ?_
  refine lw_call (As := [.int (xs (v + Int32.ofInt 1).toNatClampNeg)]) (rest := []) C0 (idx := 156) (a := 236) (po := 1666) (by decide +kernel) (M1 := jm_M236) rfl rfl rfl (lw_rok (hJ G1 hj) rfl (by decide)) (Nat.le_of_ble_eq_true rfl) rfl hd2 (hm G1 hj) hcn hsn (fun v2 G2 hP hl2 => ?_)
  obtain ⟨⟨r2, rfl, hr2⟩, hj2⟩ := hP
  refine lw_pop C0 (by decide +kernel) ?_
  exact lw_go (off := 49) (t := 1261) C0 (by decide +kernel) (by decide +kernel) (kk G2 hj2)
set_option maxHeartbeats 4000000 in
theorem lw_c33 (C0 : jm_C p s m args meth c D h0 ex ka Ls xs jm_ML n0) (hb : ∀ k : Int, 0 ≤ k → k ≤ 5 → jm_out (v + Int32.ofInt k) Ls = false) (hX : ∃ fs, jm_g G 8 = some (.inr (9, fs))) (hJ : ∀ G, J1 G → ∃ fs, jm_g G 1000 = some (.inr (10, fs))) (hcn : cn ≤ 600000) (hsn : sn ≤ 7302250) (hag : lw_un Ls xs jm_M114 jm_M237 [.int (xs (v + Int32.ofInt 1).toNatClampNeg)] G V J1 J2)
    (kk : ∀ G2, J2 G2 → jm_W p l e room_1 s m args below meth c D h0 ex ka jm_ML n0 Q (1261, lw_L v, [], G2, cn, sn)) : jm_W p l e room_1 s m args below meth c D h0 ex ka jm_ML n0 Q (1215, lw_L v, [], G, cn, sn) := by
  obtain ⟨d1, d2, hd1, hd2, hx, hm⟩ := hag
  refine lw_st C0 (i := (.aload_n 1, 1, 0, 0, 0)) (by decide +kernel) (jm_step_a1 rfl) ?_
  refine lw_arg (k := 1) C0 (by decide +kernel) (by decide +kernel) (by decide +kernel) (by decide +kernel) (by decide +kernel) (hb 1 (by decide) (by decide)) ?_
  refine lw_call (As := [.int (xs (v + Int32.ofInt 1).toNatClampNeg)]) (rest := []) C0 (idx := 157) (a := 114) (po := 1024) (by decide +kernel) (M1 := jm_M114) rfl rfl rfl (lw_rok hX rfl (by decide)) (by decide) rfl hd1 hx hcn hsn (fun v1 G1 hP hl1 => ?_)
  obtain ⟨⟨r, rfl, hr⟩, hj⟩ := hP
  refine lw_pop C0 (by decide +kernel) ?_
  refine lw_st C0 (i := (.aload_n 2, 1, 0, 0, 0)) (by decide +kernel) (jm_step_a1 rfl) ?_
  refine lw_arg (k := 1) C0 (by decide +kernel) (by decide +kernel) (by decide +kernel) (by decide +kernel) (by decide +kernel) (hb 1 (by decide) (by decide)) ?_
  refine lw_call (As := [.int (xs (v + Int32.ofInt 1).toNatClampNeg)]) (rest := []) C0 (idx := 160) (a := 237) (po := 1670) (by decide +kernel) (M1 := jm_M237) rfl rfl rfl (lw_rok (hJ G1 hj) rfl (by decide)) (Nat.le_of_ble_eq_true rfl) rfl hd2 (hm G1 hj) hcn hsn (fun v2 G2 hP hl2 => ?_)
  obtain ⟨⟨r2, rfl, hr2⟩, hj2⟩ := hP
  refine lw_pop C0 (by decide +kernel) ?_
  exact lw_go (off := 26) (t := 1261) C0 (by decide +kernel) (by decide +kernel) (kk G2 hj2)
set_option maxHeartbeats 4000000 in
theorem lw_c34 (C0 : jm_C p s m args meth c D h0 ex ka Ls xs jm_ML n0) (hb : ∀ k : Int, 0 ≤ k → k ≤ 5 → jm_out (v + Int32.ofInt k) Ls = false) (hX : ∃ fs, jm_g G 8 = some (.inr (9, fs))) (hJ : ∀ G, J1 G → ∃ fs, jm_g G 1000 = some (.inr (10, fs))) (hcn : cn ≤ 600000) (hsn : sn ≤ 7302250) (hag : lw_un Ls xs jm_M115 jm_M238 [.int (xs (v + Int32.ofInt 1).toNatClampNeg)] G V J1 J2)
    (kk : ∀ G2, J2 G2 → jm_W p l e room_1 s m args below meth c D h0 ex ka jm_ML n0 Q (1261, lw_L v, [], G2, cn, sn)) : jm_W p l e room_1 s m args below meth c D h0 ex ka jm_ML n0 Q (1238, lw_L v, [], G, cn, sn) := by
  obtain ⟨d1, d2, hd1, hd2, hx, hm⟩ := hag
  refine lw_st C0 (i := (.aload_n 1, 1, 0, 0, 0)) (by decide +kernel) (jm_step_a1 rfl) ?_
  refine lw_arg (k := 1) C0 (by decide +kernel) (by decide +kernel) (by decide +kernel) (by decide +kernel) (by decide +kernel) (hb 1 (by decide) (by decide)) ?_
  refine lw_call (As := [.int (xs (v + Int32.ofInt 1).toNatClampNeg)]) (rest := []) C0 (idx := 161) (a := 115) (po := 1029) (by decide +kernel) (M1 := jm_M115) rfl rfl rfl (lw_rok hX rfl (by decide)) (by decide) rfl hd1 hx hcn hsn (fun v1 G1 hP hl1 => ?_)
  obtain ⟨⟨r, rfl, hr⟩, hj⟩ := hP
  refine lw_pop C0 (by decide +kernel) ?_
  refine lw_st C0 (i := (.aload_n 2, 1, 0, 0, 0)) (by decide +kernel) (jm_step_a1 rfl) ?_
  refine lw_arg (k := 1) C0 (by decide +kernel) (by decide +kernel) (by decide +kernel) (by decide +kernel) (by decide +kernel) (hb 1 (by decide) (by decide)) ?_
  refine lw_call (As := [.int (xs (v + Int32.ofInt 1).toNatClampNeg)]) (rest := []) C0 (idx := 164) (a := 238) (po := 1674) (by decide +kernel) (M1 := jm_M238) rfl rfl rfl (lw_rok (hJ G1 hj) rfl (by decide)) (Nat.le_of_ble_eq_true rfl) rfl hd2 (hm G1 hj) hcn hsn (fun v2 G2 hP hl2 => ?_)
  obtain ⟨⟨r2, rfl, hr2⟩, hj2⟩ := hP
  refine lw_pop C0 (by decide +kernel) ?_
  exact lw_go (off := 3) (t := 1261) C0 (by decide +kernel) (by decide +kernel) (kk G2 hj2)
end LWC
