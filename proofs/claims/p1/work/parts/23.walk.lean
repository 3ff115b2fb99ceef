/-! ===== the law's walk ===== -/
section LWW
variable {p : Program} {l : Launch} {e : Env} {s : State} {m : MethodId} {below : List Frame} {meth : Method} {c : Code} {D : va_G} {ex : Nat → Nat} {ka : Nat → ClassId} {Ls : Nat} {xs : Nat → Int32} {b : Nat}
theorem lw_st2 {args : Array Value} {h0 n0 : Nat} {Q : State → Prop} {i : jm_I} {pc : Nat} {L : List (Option Value)} {S : List Value} {G : jm_h} {cn sn : Nat} {st : jm_St} (C0 : jm_C p s m args meth c D h0 ex ka Ls xs jm_ML n0) (hi : jm_in jm_ML pc = some i) (h : jm_step jm_ML Ls xs 600000 7302250 i pc L S G (cn, sn) = some st) (k : jm_W p l e room_1 s m args below meth c D h0 ex ka jm_ML n0 Q st) : jm_W p l e room_1 s m args below meth c D h0 ex ka jm_ML n0 Q (pc, L, S, G, cn, sn) :=
  jm_step_ok C0 (Nat.le_of_ble_eq_true rfl) (Nat.le_of_ble_eq_true rfl) (Nat.le_of_ble_eq_true rfl) (Nat.le_of_ble_eq_true rfl) (jm_in_ck jm_lawck hi) h k
/-- the law's end -/
theorem lw_out {v : Int32} {G : jm_h} {cn sn : Nat} (C0 : jm_C p s m #[Value.ref b] meth c D s.heap.size ex ka Ls xs jm_ML 0) (hcn : cn ≤ 600000) (hsn : sn ≤ 7302250) : jm_W p l e room_1 s m #[Value.ref b] below meth c D s.heap.size ex ka jm_ML 0 (lw_Z below #[Value.ref b] s) (1267, lw_L v, [], G, cn, sn) := by
  refine lw_st C0 (i := (.iconst 1, 1, 0, 0, 0)) (by decide +kernel) (jm_step_a1 rfl) ?_
  intro hlen H locs ls hR hS hl
  refine W.widen hcn hsn (va_forget (fun q hq => hS.2.2 q hq) ?_)
  exact lw_ret (pc := 1268) C0.1 C0.2.1 C0.2.2.2.2.2.1 C0.2.2.2.2.2.2.1 (by decide +kernel)
/-- the head of the loop: past the last turn -/
theorem lw_head {v : Int32} {G : jm_h} {cn sn : Nat} (C0 : jm_C p s m #[Value.ref b] meth c D s.heap.size ex ka Ls xs jm_ML 0) (hv : Int32.ofNat Ls - 6 < v) (hcn : cn ≤ 600000) (hsn : sn ≤ 7302250) : jm_W p l e room_1 s m #[Value.ref b] below meth c D s.heap.size ex ka jm_ML 0 (lw_Z below #[Value.ref b] s) (18, lw_L v, [], G, cn, sn) := by
  refine lw_st C0 (i := (.iload_n 3, 1, 0, 0, 0)) (by decide +kernel) (jm_step_a1 rfl) ?_
  refine lw_st C0 (i := (.aload_n 0, 1, 0, 0, 0)) (by decide +kernel) (jm_step_a1 rfl) ?_
  refine lw_st C0 (i := (.arraylength, 1, 0, 0, 0)) (by decide +kernel) (jm_step_d2 rfl rfl rfl rfl rfl rfl) ?_
  refine lw_st C0 (i := (.bipush 6, 2, 0, 0, 0)) (by decide +kernel) (jm_step_a1 rfl) ?_
  refine lw_st C0 (i := (.isub, 1, 0, 0, 0)) (by decide +kernel) (jm_step_b1 rfl rfl rfl) ?_
  refine lw_st C0 (i := (.if_icmp .gt 1243, 3, 0, 0, 0)) (st := (1267, lw_L v, [], G, cn, sn)) (by decide +kernel) (jm_step_c1 rfl rfl rfl ?_) (lw_out C0 hcn hsn)
  have ht : jm_tg 24 1243 = some 1267 := by decide
  have hv' : Int32.ofNat Ls - (Int8.ofInt 6).toInt32 < v := hv
  simp only [jm_c1, ht, if_pos, hv']
/-- the head of the loop: a turn -/
theorem lw_in {G : jm_h} {cn sn : Nat} (C0 : jm_C p s m #[Value.ref b] meth c D s.heap.size ex ka 6 xs jm_ML 0) (k : jm_W p l e room_1 s m #[Value.ref b] below meth c D s.heap.size ex ka jm_ML 0 (lw_Z below #[Value.ref b] s) (33, lw_L 0, [.int (xs 0 &&& 63)], G, cn, sn)) : jm_W p l e room_1 s m #[Value.ref b] below meth c D s.heap.size ex ka jm_ML 0 (lw_Z below #[Value.ref b] s) (18, lw_L 0, [], G, cn, sn) := by
  refine lw_st C0 (i := (.iload_n 3, 1, 0, 0, 0)) (by decide +kernel) (jm_step_a1 rfl) ?_
  refine lw_st C0 (i := (.aload_n 0, 1, 0, 0, 0)) (by decide +kernel) (jm_step_a1 rfl) ?_
  refine lw_st C0 (i := (.arraylength, 1, 0, 0, 0)) (by decide +kernel) (jm_step_d2 rfl rfl rfl rfl rfl rfl) ?_
  refine lw_st C0 (i := (.bipush 6, 2, 0, 0, 0)) (by decide +kernel) (jm_step_a1 rfl) ?_
  refine lw_st C0 (i := (.isub, 1, 0, 0, 0)) (by decide +kernel) (jm_step_b1 rfl rfl rfl) ?_
  refine lw_st C0 (i := (.if_icmp .gt 1243, 3, 0, 0, 0)) (st := (27, lw_L 0, [], G, cn, sn)) (by decide +kernel) (jm_step_c1 rfl rfl rfl ?_) ?_
  · have ht : jm_tg 24 1243 = some 1267 := by decide
    have hv' : ¬ Int32.ofNat 6 - (Int8.ofInt 6).toInt32 < 0 := by decide
    simp only [jm_c1, ht, if_neg hv', if_pos]
  · refine lw_st C0 (i := (.aload_n 0, 1, 0, 0, 0)) (by decide +kernel) (jm_step_a1 rfl) ?_
    refine lw_st C0 (i := (.iload_n 3, 1, 0, 0, 0)) (by decide +kernel) (jm_step_a1 rfl) ?_
    refine lw_st C0 (i := (.iaload, 1, 0, 0, 0)) (st := (30, lw_L 0, [.int (xs 0)], G, cn, sn)) (by decide +kernel) (jm_step_d2 rfl rfl rfl rfl rfl rfl) ?_
    refine lw_st C0 (i := (.bipush 63, 2, 0, 0, 0)) (by decide +kernel) (jm_step_a1 rfl) ?_
    exact lw_st C0 (i := (.iand, 1, 0, 0, 0)) (by decide +kernel) (jm_step_b1 rfl rfl rfl) k
/-- behind a turn -/
theorem lw_next {G : jm_h} {cn sn : Nat} (C0 : jm_C p s m #[Value.ref b] meth c D s.heap.size ex ka 6 xs jm_ML 0) (hcn : cn ≤ 600000) (hsn : sn ≤ 7302250) : jm_W p l e room_1 s m #[Value.ref b] below meth c D s.heap.size ex ka jm_ML 0 (lw_Z below #[Value.ref b] s) (1261, lw_L 0, [], G, cn, sn) := by
  refine lw_st C0 (i := (.iinc 3 6, 3, 0, 0, 0)) (st := (1264, lw_L 6, [], G, cn, sn)) (by decide +kernel) (jm_step_a2 rfl rfl rfl rfl rfl) ?_
  refine lw_st C0 (i := (.goto (-1246), 3, 0, 0, 0)) (st := (18, lw_L 6, [], G, cn, sn)) (by decide +kernel) (jm_step_c1 rfl rfl rfl rfl) ?_
  exact lw_head C0 (by decide) hcn hsn
theorem lw_sw {x : Int32} {G : jm_h} {cn sn : Nat} (C0 : jm_C p s m #[Value.ref b] meth c D s.heap.size ex ka 6 xs jm_ML 0) {t : Nat} (h : ∀ q, jm_c1 (.tableswitch 1228 0 34 #[155, 218, 241, 254, 267, 300, 333, 366, 399, 448, 471, 494, 507, 566, 609, 652, 685, 718, 751, 774, 813, 836, 879, 912, 945, 968, 981, 1034, 1067, 1080, 1103, 1136, 1159, 1182, 1205]) 155 33 (lw_L 0) [.int x] G q = some (t, lw_L 0, [], G, q)) (k : jm_W p l e room_1 s m #[Value.ref b] below meth c D s.heap.size ex ka jm_ML 0 (lw_Z below #[Value.ref b] s) (t, lw_L 0, [], G, cn, sn)) : jm_W p l e room_1 s m #[Value.ref b] below meth c D s.heap.size ex ka jm_ML 0 (lw_Z below #[Value.ref b] s) (33, lw_L 0, [.int x], G, cn, sn) :=
  lw_st C0 (i := (.tableswitch 1228 0 34 #[155, 218, 241, 254, 267, 300, 333, 366, 399, 448, 471, 494, 507, 566, 609, 652, 685, 718, 751, 774, 813, 836, 879, 912, 945, 968, 981, 1034, 1067, 1080, 1103, 1136, 1159, 1182, 1205], 155, 0, 0, 0)) (by decide +kernel) (jm_step_c1 rfl rfl rfl (h _)) k
set_option maxHeartbeats 8000000 in
theorem lw_turn {cn sn : Nat} (C0 : jm_C p s m #[Value.ref b] meth c D s.heap.size ex ka 6 xs jm_ML 0) (hcn : cn ≤ 600000) (hsn : sn ≤ 7302250) : jm_W p l e room_1 s m #[Value.ref b] below meth c D s.heap.size ex ka jm_ML 0 (lw_Z below #[Value.ref b] s) (18, lw_L 0, [], (jm_H1, jm_H2), cn, sn) := by
  refine lw_in C0 ?_
  have hb : ∀ k : Int, 0 ≤ k → k ≤ 5 → jm_out ((0 : Int32) + Int32.ofInt k) 6 = false := by
    intro k h0 h5
    have : k = 0 ∨ k = 1 ∨ k = 2 ∨ k = 3 ∨ k = 4 ∨ k = 5 := by omega
    rcases this with rfl | rfl | rfl | rfl | rfl | rfl <;> decide
  have hX : ∃ fs, jm_g (jm_H1, jm_H2) 8 = some (.inr (9, fs)) := ⟨_, rfl⟩
  have hJ : ∀ G : jm_h, G.2 = jm_H2 → ∃ fs, jm_g G 1000 = some (.inr (10, fs)) := by
    rintro ⟨G1, _⟩ rfl
    exact ⟨_, rfl⟩
  by_cases h1 : (xs 0 &&& 63).toInt < 0 ∨ 34 < (xs 0 &&& 63).toInt
  · refine lw_sw C0 (t := 1261) (fun q => ?_) (lw_next C0 hcn hsn)
    have ht : jm_tg 33 1228 = some 1261 := by decide
    simp only [jm_c1, if_pos h1, ht]
  · obtain ⟨j, hj, e⟩ := nI_of2 (x := xs 0 &&& 63) (M := 34) (n := 34) (by decide) (fun q => h1 (Or.inl (by have := Int32.lt_iff_toInt_lt.mp q; rw [zc_0] at this; exact this))) (Int32.le_iff_toInt_le.mpr (by
      have h34 : (34 : Int32).toInt = 34 := by decide
      show (xs 0 &&& 63).toInt ≤ (34 : Int32).toInt
      rw [h34]
      omega))
    rw [e]
    match j, hj with
    | 0, _ => exact lw_sw C0 (t := 188) (fun q => rfl) (lw_c0 (v := 0) (J1 := fun G => G.2 = jm_H2) (J2 := fun _ => True) C0 hb hX hJ hcn hsn (p1_feed _ _ _ _ _) (fun G2 _ _ => lw_next C0 hcn hsn))
    | 1, _ => exact lw_sw C0 (t := 251) (fun q => rfl) (lw_c1 (v := 0) (J1 := fun G => G.2 = jm_H2) (J2 := fun _ => True) C0 hb hX hJ hcn hsn (p1_back _) (fun G2 _ _ => lw_next C0 hcn hsn))
    | 2, _ => exact lw_sw C0 (t := 274) (fun q => rfl) (lw_c2 (v := 0) (J1 := fun G => G.2 = jm_H2) (J2 := fun _ => True) C0 hb hX hJ hcn hsn (p1_read) (fun G2 _ _ => lw_next C0 hcn hsn))
    | 3, _ => exact lw_sw C0 (t := 287) (fun q => rfl) (lw_c3 (v := 0) (J1 := fun G => G.2 = jm_H2) (J2 := fun _ => True) C0 hb hX hJ hcn hsn (p1_place) (fun G2 _ _ => lw_next C0 hcn hsn))
    | 4, _ => exact lw_sw C0 (t := 300) (fun q => rfl) (lw_c4 (v := 0) (J1 := fun G => G.2 = jm_H2) (J2 := fun _ => True) C0 hb hX hJ hcn hsn (p1_fruit _ _) (fun G2 _ _ => lw_next C0 hcn hsn))
    | 5, _ => exact lw_sw C0 (t := 333) (fun q => rfl) (lw_c5 (v := 0) (J1 := fun G => G.2 = jm_H2) (J2 := fun _ => True) C0 hb hX hJ hcn hsn (p1_buyer _ _) (fun G2 _ _ => lw_next C0 hcn hsn))
    | 6, _ => exact lw_sw C0 (t := 366) (fun q => rfl) (lw_c6 (v := 0) (J1 := fun G => G.2 = jm_H2) (J2 := fun _ => True) C0 hb hX hJ hcn hsn (p1_tells _ _) (fun G2 _ _ => lw_next C0 hcn hsn))
    | 7, _ => exact lw_sw C0 (t := 399) (fun q => rfl) (lw_c7 (v := 0) (J1 := fun G => G.2 = jm_H2) (J2 := fun _ => True) C0 hb hX hJ hcn hsn (p1_go _ _) (fun G2 _ _ => lw_next C0 hcn hsn))
    | 8, _ => exact lw_sw C0 (t := 432) (fun q => rfl) (lw_c8 (v := 0) (J1 := fun G => G.2 = jm_H2) (J2 := fun _ => True) C0 hb hX hJ hcn hsn (p1_prop _ _) (fun G2 _ _ => lw_next C0 hcn hsn))
    | 9, _ => exact lw_sw C0 (t := 481) (fun q => rfl) (lw_c9 (v := 0) (J1 := fun G => G.2 = jm_H2) (J2 := fun _ => True) C0 hb hX hJ hcn hsn (p1_shake _) (fun G2 _ _ => lw_next C0 hcn hsn))
    | 10, _ => exact lw_sw C0 (t := 504) (fun q => rfl) (lw_c10 (v := 0) (J1 := fun G => G.2 = jm_H2) (J2 := fun _ => True) C0 hb hX hJ hcn hsn (p1_hours _) (fun G2 _ _ => lw_next C0 hcn hsn))
    | 11, _ => exact lw_sw C0 (t := 527) (fun q => rfl) (lw_c11 (v := 0) (J1 := fun G => G.2 = jm_H2) (J2 := fun _ => True) C0 hb hX hJ hcn hsn (p1_undo) (fun G2 _ _ => lw_next C0 hcn hsn))
    | 12, _ => exact lw_sw C0 (t := 540) (fun q => rfl) (lw_c12 (v := 0) (J1 := fun G => G.2 = jm_H2) (J2 := fun _ => True) C0 hb hX hJ hcn hsn (p1_hangsOn _ _ _) (fun G2 _ _ => lw_next C0 hcn hsn))
    | 13, _ => exact lw_sw C0 (t := 599) (fun q => rfl) (lw_c13 (v := 0) (J1 := fun G => G.2 = jm_H2) (J2 := fun _ => True) C0 hb hX hJ hcn hsn (p1_mean _ _ _) (fun G2 _ _ => lw_next C0 hcn hsn))
    | 14, _ => exact lw_sw C0 (t := 642) (fun q => rfl) (lw_c14 (v := 0) (J1 := fun G => G.2 = jm_H2) (J2 := fun _ => True) C0 hb hX hJ hcn hsn (p1_stand _ _ _) (fun G2 _ _ => lw_next C0 hcn hsn))
    | 15, _ => exact lw_sw C0 (t := 685) (fun q => rfl) (lw_c15 (v := 0) (J1 := fun G => G.2 = jm_H2) (J2 := fun _ => True) C0 hb hX hJ hcn hsn (p1_props _ _) (fun G2 _ _ => lw_next C0 hcn hsn))
    | 16, _ => exact lw_sw C0 (t := 718) (fun q => rfl) (lw_c16 (v := 0) (J1 := fun G => G.2 = jm_H2) (J2 := fun _ => True) C0 hb hX hJ hcn hsn (p1_shakes _ _) (fun G2 _ _ => lw_next C0 hcn hsn))
    | 17, _ => exact lw_sw C0 (t := 751) (fun q => rfl) (lw_c17 (v := 0) (J1 := fun G => G.2 = jm_H2) (J2 := fun _ => True) C0 hb hX hJ hcn hsn (p1_passes _ _) (fun G2 _ _ => lw_next C0 hcn hsn))
    | 18, _ => exact lw_sw C0 (t := 784) (fun q => rfl) (lw_c18 (v := 0) (J1 := fun G => G.2 = jm_H2) (J2 := fun _ => True) C0 hb hX hJ hcn hsn (p1_windIn _) (fun G2 _ _ => lw_next C0 hcn hsn))
    | 19, _ => exact lw_sw C0 (t := 807) (fun q => rfl) (lw_c19 (v := 0) (J1 := fun G => G.2 = jm_H2) (J2 := fun _ => True) C0 hb hX hJ hcn hsn (p1_next _) (fun G2 _ _ => lw_next C0 hcn hsn))
    | 20, _ => exact lw_sw C0 (t := 846) (fun q => rfl) (lw_c20 (v := 0) (J1 := fun G => G.2 = jm_H2) (J2 := fun _ => True) C0 hb hX hJ hcn hsn (p1_catcher _) (fun G2 _ _ => lw_next C0 hcn hsn))
    | 21, _ => exact lw_sw C0 (t := 869) (fun q => rfl) (lw_c21 (v := 0) (J1 := fun G => G.2 = jm_H2) (J2 := fun _ => True) C0 hb hX hJ hcn hsn (p1_then _ _ _) (fun G2 _ _ => lw_next C0 hcn hsn))
    | 22, _ => exact lw_sw C0 (t := 912) (fun q => rfl) (lw_c22 (v := 0) (J1 := fun G => G.2 = jm_H2) (J2 := fun _ => True) C0 hb hX hJ hcn hsn (p1_paid _ _) (fun G2 _ _ => lw_next C0 hcn hsn))
    | 23, _ => exact lw_sw C0 (t := 945) (fun q => rfl) (lw_c23 (v := 0) (J1 := fun G => G.2 = jm_H2) (J2 := fun _ => True) C0 hb hX hJ hcn hsn (p1_much _ _) (fun G2 _ _ => lw_next C0 hcn hsn))
    | 24, _ => exact lw_sw C0 (t := 978) (fun q => rfl) (lw_c24 (v := 0) (J1 := fun G => G.2 = jm_H2) (J2 := fun _ => True) C0 hb hX hJ hcn hsn (p1_last _) (fun G2 _ _ => lw_next C0 hcn hsn))
    | 25, _ => exact lw_sw C0 (t := 1001) (fun q => rfl) (lw_c25 (v := 0) (J1 := fun G => G.2 = jm_H2) (J2 := fun _ => True) C0 hb hX hJ hcn hsn (p1_asleep) (fun G2 _ _ => lw_next C0 hcn hsn))
    | 26, _ => exact lw_sw C0 (t := 1014) (fun q => rfl) (lw_c26 (v := 0) (J1 := fun G => G.2 = jm_H2) (J2 := fun _ => True) C0 hb hX hJ hcn hsn (p1_year _ _ _ _) (fun G2 _ _ => lw_next C0 hcn hsn))
    | 27, _ => exact lw_sw C0 (t := 1067) (fun q => rfl) (lw_c27 (v := 0) (J1 := fun G => G.2 = jm_H2) (J2 := fun _ => True) C0 hb hX hJ hcn hsn (p1_tell _ _) (fun G2 _ _ => lw_next C0 hcn hsn))
    | 28, _ => exact lw_sw C0 (t := 1100) (fun q => rfl) (lw_c28 (v := 0) (J1 := fun G => G.2 = jm_H2) (J2 := fun _ => True) C0 hb hX hJ hcn hsn (p1_forget) (fun G2 _ _ => lw_next C0 hcn hsn))
    | 29, _ => exact lw_sw C0 (t := 1113) (fun q => rfl) (lw_c29 (v := 0) (J1 := fun G => G.2 = jm_H2) (J2 := fun _ => True) C0 hb hX hJ hcn hsn (p1_rows _) (fun G2 _ _ => lw_next C0 hcn hsn))
    | 30, _ => exact lw_sw C0 (t := 1136) (fun q => rfl) (lw_c30 (v := 0) (J1 := fun G => G.2 = jm_H2) (J2 := fun _ => True) C0 hb hX hJ hcn hsn (p1_sure _ _) (fun G2 _ _ => lw_next C0 hcn hsn))
    | 31, _ => exact lw_sw C0 (t := 1169) (fun q => rfl) (lw_c31 (v := 0) (J1 := fun G => G.2 = jm_H2) (J2 := fun _ => True) C0 hb hX hJ hcn hsn (p1_ask _) (fun G2 _ _ => lw_next C0 hcn hsn))
    | 32, _ => exact lw_sw C0 (t := 1192) (fun q => rfl) (lw_c32 (v := 0) (J1 := fun G => G.2 = jm_H2) (J2 := fun _ => True) C0 hb hX hJ hcn hsn (p1_hold _) (fun G2 _ _ => lw_next C0 hcn hsn))
    | 33, _ => exact lw_sw C0 (t := 1215) (fun q => rfl) (lw_c33 (v := 0) (J1 := fun G => G.2 = jm_H2) (J2 := fun _ => True) C0 hb hX hJ hcn hsn (p1_restore _) (fun G2 _ _ => lw_next C0 hcn hsn))
    | 34, _ => exact lw_sw C0 (t := 1238) (fun q => rfl) (lw_c34 (v := 0) (J1 := fun G => G.2 = jm_H2) (J2 := fun _ => True) C0 hb hX hJ hcn hsn (p1_count _) (fun G2 _ _ => lw_next C0 hcn hsn))
    | j + 35, hj => exact absurd hj (by omega)
end LWW
set_option maxHeartbeats 8000000 in
/-- from the entry, for every script of at most 6 ints, the law comes to its end with true -/
theorem whole_start {p : Program} {e : Env} {s : State} {m : MethodId} {below : List Frame} {meth : Method} {c : Code} (l : Launch) {b L : Nat} {xs : Nat → Int32} (hL : L ≤ 6) (C0 : lw_At p s m meth c b L xs) : W p l e room_1 s m #[Value.ref b] below meth c s.heap [] 0 0 (lw_Z below #[Value.ref b] s) (entryFrame m ([Value.ref b] : List Value).toArray 4) := by
  obtain ⟨D, ex, ka, he0, C1⟩ := lw_entry C0
  have key : jm_W p l e room_1 s m #[Value.ref b] below meth c D s.heap.size ex ka jm_ML 0 (lw_Z below #[Value.ref b] s) (0, [some (.ref 0), none, none, none], [], ([], []), 0, 0) := by
    refine lw_st2 C1 (i := (.new 7, 3, 9, 0, 113)) (st := (3, [some (.ref 0), none, none, none], [.ref 8], ([.inr (9, jm_df 9)], []), 1, 15)) (by decide +kernel) (jm_step_d2 rfl rfl rfl rfl rfl rfl) ?_
    refine lw_st2 C1 (i := (.dup, 1, 0, 0, 0)) (st := (4, [some (.ref 0), none, none, none], [.ref 8, .ref 8], ([.inr (9, jm_df 9)], []), 1, 15)) (by decide +kernel) (jm_step_a2 rfl rfl rfl rfl rfl) ?_
    refine jm_call_ok jm_TBok jm_hYN C1 (jm_in_ck (pc := 4) jm_lawck (e := (.invokespecial 9, 3, 80, 0, 115)) (by decide +kernel)) (M1 := jm_M80) (As := [.ref 8]) (rest := [.ref 8]) rfl jm_K1 (Nat.le_of_ble_eq_true rfl) (Nat.le_of_ble_eq_true rfl) (Nat.le_of_ble_eq_true rfl) (Nat.le_of_ble_eq_true rfl) (fun v G hP _ => ?_)
    obtain ⟨rfl, rfl⟩ := hP
    refine lw_st2 C1 (i := (.astore_n 1, 1, 0, 0, 0)) (st := (8, [some (.ref 0), some (.ref 8), none, none], [], (jm_H1, []), 65, 7219)) (by decide +kernel) (jm_step_a2 rfl rfl rfl rfl rfl) ?_
    refine lw_st2 C1 (i := (.new 10, 3, 10, 0, 1050)) (st := (11, [some (.ref 0), some (.ref 8), none, none], [.ref 1000], (jm_H1, [.inr (10, jm_df 10)]), 66, 7288)) (by decide +kernel) (jm_step_d2 rfl rfl rfl rfl rfl rfl) ?_
    refine lw_st2 C1 (i := (.dup, 1, 0, 0, 0)) (st := (12, [some (.ref 0), some (.ref 8), none, none], [.ref 1000, .ref 1000], (jm_H1, [.inr (10, jm_df 10)]), 66, 7288)) (by decide +kernel) (jm_step_a2 rfl rfl rfl rfl rfl) ?_
    refine jm_call_ok jm_TBok jm_hYN C1 (jm_in_ck (pc := 12) jm_lawck (e := (.invokespecial 12, 3, 132, 0, 1052)) (by decide +kernel)) (M1 := jm_M132) (As := [.ref 1000]) (rest := [.ref 1000]) rfl jm_K2 (Nat.le_of_ble_eq_true rfl) (Nat.le_of_ble_eq_true rfl) (Nat.le_of_ble_eq_true rfl) (Nat.le_of_ble_eq_true rfl) (fun v G hP _ => ?_)
    obtain ⟨rfl, rfl⟩ := hP
    refine lw_st2 C1 (i := (.astore_n 2, 1, 0, 0, 0)) (st := (16, [some (.ref 0), some (.ref 8), some (.ref 1000), none], [], (jm_H1, jm_H2), 112, 27288)) (by decide +kernel) (jm_step_a2 rfl rfl rfl rfl rfl) ?_
    refine lw_st2 C1 (i := (.iconst 0, 1, 0, 0, 0)) (st := (17, [some (.ref 0), some (.ref 8), some (.ref 1000), none], [.int 0], (jm_H1, jm_H2), 112, 27288)) (by decide +kernel) (jm_step_a1 rfl) ?_
    refine lw_st2 C1 (i := (.istore_n 3, 1, 0, 0, 0)) (st := (18, lw_L 0, [], (jm_H1, jm_H2), 112, 27288)) (by decide +kernel) (jm_step_a2 rfl rfl rfl rfl rfl) ?_
    by_cases h6 : L = 6
    · subst h6
      exact lw_turn C1 (Nat.le_of_ble_eq_true rfl) (Nat.le_of_ble_eq_true rfl)
    · exact lw_head C1 ((by decide : ∀ L : Nat, L < 6 → Int32.ofNat L - 6 < 0) L (by omega)) (Nat.le_of_ble_eq_true rfl) (Nat.le_of_ble_eq_true rfl)
  obtain ⟨ls, he, hl⟩ := jm_entry (m := m) (mx := 4) (h0 := s.heap.size) (ex := ex) [.ref 0] (by decide)
  have hm : ([.ref 0] : List Value).map (jm_cv s.heap.size ex) = [Value.ref b] := by
    simp [jm_cv, jm_ad, he0]
  rw [hm] at he
  rw [he]
  exact key rfl s.heap [] ls ⟨⟨Or.inl rfl, by decide⟩, fun k q h => by simp [jm_w, jm_al] at h⟩ va_S.rf hl
