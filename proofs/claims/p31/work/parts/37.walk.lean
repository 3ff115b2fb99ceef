/-! ===== the law's walk ===== -/
section LWW
variable {p : Program} {l : Launch} {e : Env} {s : State} {m : MethodId} {below : List Frame} {meth : Method} {c : Code} {D : va_G} {ex : Nat → Nat} {ka : Nat → ClassId} {Ls : Nat} {xs : Nat → Int32} {b : Nat}
theorem lw_st2 {args : Array Value} {h0 n0 : Nat} {Q : State → Prop} {i : jm_I} {pc : Nat} {L : List (Option Value)} {S : List Value} {G : jm_h} {cn sn : Nat} {st : jm_St} (C0 : jm_C p s m args meth c D h0 ex ka Ls xs jm_ML n0) (hi : jm_in jm_ML pc = some i) (h : jm_step jm_ML Ls xs 600000 7302250 i pc L S G (cn, sn) = some st) (k : jm_W p l e room_1 s m args below meth c D h0 ex ka jm_ML n0 Q st) : jm_W p l e room_1 s m args below meth c D h0 ex ka jm_ML n0 Q (pc, L, S, G, cn, sn) :=
  jm_step_ok C0 (Nat.le_of_ble_eq_true rfl) (Nat.le_of_ble_eq_true rfl) (Nat.le_of_ble_eq_true rfl) (Nat.le_of_ble_eq_true rfl) (jm_in_ck jm_lawck hi) h k
/-- the law's end -/
theorem lw_out {v : Int32} {G : jm_h} {cn sn : Nat} (C0 : jm_C p s m #[Value.ref b] meth c D s.heap.size ex ka Ls xs jm_ML 0) (hcn : cn ≤ 600000) (hsn : sn ≤ 7302250) : jm_W p l e room_1 s m #[Value.ref b] below meth c D s.heap.size ex ka jm_ML 0 (lw_Z below #[Value.ref b] s) (1267, lw_L v, [], G, cn, sn) := by
  refine lw_st C0 (i := (.iconst 1, 1, 0, 0, 0)) (by decide +kernel) (jm_step_a1 rfl) ?_
  intro hlen H locs ls hR hS hl
  refine W.widen hcn hsn (va_forget (fun q hq => hS.2.2 q hq) ?_)
  exact lw_ret (pc := 1268) C0.1 C0.2.1 C0.2.2.2.2.2.1 C0.2.2.2.2.2.2.1 (by decide +kernel)
/-- the head of the loop: past the last turn -/
theorem lw_head {v : Int32} {G : jm_h} {cn sn : Nat} (C0 : jm_C p s m #[Value.ref b] meth c D s.heap.size ex ka Ls xs jm_ML 0) (hv : Int32.ofNat Ls - 6 < v) (hcn : cn ≤ 600000) (hsn : sn ≤ 7302250) : jm_W p l e room_1 s m #[Value.ref b] below meth c D s.heap.size ex ka jm_ML 0 (lw_Z below #[Value.ref b] s) (18, lw_L v, [], G, cn, sn) := by
  refine lw_st C0 (i := (.iload_n 3, 1, 0, 0, 0)) (by decide +kernel) (jm_step_a1 rfl) ?_
  refine lw_st C0 (i := (.aload_n 0, 1, 0, 0, 0)) (by decide +kernel) (jm_step_a1 rfl) ?_
  refine lw_st C0 (i := (.arraylength, 1, 0, 0, 0)) (by decide +kernel) (jm_step_d2 rfl rfl rfl rfl rfl rfl) ?_
  refine lw_st C0 (i := (.bipush 6, 2, 0, 0, 0)) (by decide +kernel) (jm_step_a1 rfl) ?_
  refine lw_st C0 (i := (.isub, 1, 0, 0, 0)) (by decide +kernel) (jm_step_b1 rfl rfl rfl) ?_
  refine lw_st C0 (i := (.if_icmp .gt 1243, 3, 0, 0, 0)) (st := (1267, lw_L v, [], G, cn, sn)) (by decide +kernel) (jm_step_c1 rfl rfl rfl ?_) (lw_out C0 hcn hsn)
  have ht : jm_tg 24 1243 = some 1267 := by decide
  have hv' : Int32.ofNat Ls - (Int8.ofInt 6).toInt32 < v := hv
  simp only [jm_c1, ht, if_pos, hv']
/-- the head of the loop: a turn -/
theorem lw_in {v : Int32} {G : jm_h} {cn sn : Nat} (C0 : jm_C p s m #[Value.ref b] meth c D s.heap.size ex ka Ls xs jm_ML 0) (hv : ¬ Int32.ofNat Ls - 6 < v) (hb : jm_out v Ls = false) (k : jm_W p l e room_1 s m #[Value.ref b] below meth c D s.heap.size ex ka jm_ML 0 (lw_Z below #[Value.ref b] s) (33, lw_L v, [.int (xs v.toNatClampNeg &&& 63)], G, cn, sn)) : jm_W p l e room_1 s m #[Value.ref b] below meth c D s.heap.size ex ka jm_ML 0 (lw_Z below #[Value.ref b] s) (18, lw_L v, [], G, cn, sn) := by
  refine lw_st C0 (i := (.iload_n 3, 1, 0, 0, 0)) (by decide +kernel) (jm_step_a1 rfl) ?_
  refine lw_st C0 (i := (.aload_n 0, 1, 0, 0, 0)) (by decide +kernel) (jm_step_a1 rfl) ?_
  refine lw_st C0 (i := (.arraylength, 1, 0, 0, 0)) (by decide +kernel) (jm_step_d2 rfl rfl rfl rfl rfl rfl) ?_
  refine lw_st C0 (i := (.bipush 6, 2, 0, 0, 0)) (by decide +kernel) (jm_step_a1 rfl) ?_
  refine lw_st C0 (i := (.isub, 1, 0, 0, 0)) (by decide +kernel) (jm_step_b1 rfl rfl rfl) ?_
  refine lw_st C0 (i := (.if_icmp .gt 1243, 3, 0, 0, 0)) (st := (27, lw_L v, [], G, cn, sn)) (by decide +kernel) (jm_step_c1 rfl rfl rfl ?_) ?_
  · have ht : jm_tg 24 1243 = some 1267 := by decide
    have hv' : ¬ Int32.ofNat Ls - (Int8.ofInt 6).toInt32 < v := hv
    simp only [jm_c1, ht, if_neg hv', if_pos]
  · refine lw_st C0 (i := (.aload_n 0, 1, 0, 0, 0)) (by decide +kernel) (jm_step_a1 rfl) ?_
    refine lw_st C0 (i := (.iload_n 3, 1, 0, 0, 0)) (by decide +kernel) (jm_step_a1 rfl) ?_
    refine lw_st C0 (i := (.iaload, 1, 0, 0, 0)) (st := (30, lw_L v, [.int (xs v.toNatClampNeg)], G, cn, sn)) (by decide +kernel) (jm_step_d2 rfl rfl rfl rfl rfl ?_) ?_
    · show (bif jm_out v Ls then none else _) = _
      rw [hb]
      rfl
    refine lw_st C0 (i := (.bipush 63, 2, 0, 0, 0)) (by decide +kernel) (jm_step_a1 rfl) ?_
    exact lw_st C0 (i := (.iand, 1, 0, 0, 0)) (by decide +kernel) (jm_step_b1 rfl rfl rfl) k
/-- behind a turn -/
theorem lw_next {v : Int32} {G : jm_h} {cn sn : Nat} (C0 : jm_C p s m #[Value.ref b] meth c D s.heap.size ex ka Ls xs jm_ML 0) (k : jm_W p l e room_1 s m #[Value.ref b] below meth c D s.heap.size ex ka jm_ML 0 (lw_Z below #[Value.ref b] s) (18, lw_L (v + 6), [], G, cn, sn)) : jm_W p l e room_1 s m #[Value.ref b] below meth c D s.heap.size ex ka jm_ML 0 (lw_Z below #[Value.ref b] s) (1261, lw_L v, [], G, cn, sn) := by
  refine lw_st C0 (i := (.iinc 3 6, 3, 0, 0, 0)) (st := (1264, lw_L (v + 6), [], G, cn, sn)) (by decide +kernel) (jm_step_a2 rfl rfl rfl rfl rfl) ?_
  exact lw_st C0 (i := (.goto (-1246), 3, 0, 0, 0)) (st := (18, lw_L (v + 6), [], G, cn, sn)) (by decide +kernel) (jm_step_c1 rfl rfl rfl rfl) k
theorem lw_sw {v x : Int32} {G : jm_h} {cn sn : Nat} (C0 : jm_C p s m #[Value.ref b] meth c D s.heap.size ex ka Ls xs jm_ML 0) {t : Nat} (h : ∀ q, jm_c1 (.tableswitch 1228 0 34 #[155, 218, 241, 254, 267, 300, 333, 366, 399, 448, 471, 494, 507, 566, 609, 652, 685, 718, 751, 774, 813, 836, 879, 912, 945, 968, 981, 1034, 1067, 1080, 1103, 1136, 1159, 1182, 1205]) 155 33 (lw_L v) [.int x] G q = some (t, lw_L v, [], G, q)) (k : jm_W p l e room_1 s m #[Value.ref b] below meth c D s.heap.size ex ka jm_ML 0 (lw_Z below #[Value.ref b] s) (t, lw_L v, [], G, cn, sn)) : jm_W p l e room_1 s m #[Value.ref b] below meth c D s.heap.size ex ka jm_ML 0 (lw_Z below #[Value.ref b] s) (33, lw_L v, [.int x], G, cn, sn) :=
  lw_st C0 (i := (.tableswitch 1228 0 34 #[155, 218, 241, 254, 267, 300, 333, 366, 399, 448, 471, 494, 507, 566, 609, 652, 685, 718, 751, 774, 813, 836, 879, 912, 945, 968, 981, 1034, 1067, 1080, 1103, 1136, 1159, 1182, 1205], 155, 0, 0, 0)) (by decide +kernel) (jm_step_c1 rfl rfl rfl (h _)) k
theorem lw_ob {v : Int32} {L : Nat} (h0 : 0 ≤ v.toInt) (h1 : v.toInt < L) : jm_out v L = false := by
  unfold jm_out
  rw [Bool.or_eq_false_iff]
  constructor
  · exact decide_eq_false (fun q => by
      have := Int32.lt_iff_toInt_lt.mp q
      have hz : (0 : Int32).toInt = 0 := by decide
      omega)
  · refine decide_eq_false (fun q => ?_)
    have : (v.toNatClampNeg : Int) = v.toInt := hd_nat h0
    omega
theorem lw_num {L : Nat} (hL : L ≤ 3072) {v : Int32} (h0 : 0 ≤ v.toInt) (h1 : v.toInt ≤ L) : (Int32.ofNat L - 6 < v ↔ (L : Int) - 6 < v.toInt) ∧ (v.toInt ≤ (L : Int) - 6 → (∀ k : Int, 0 ≤ k → k ≤ 5 → jm_out (v + Int32.ofInt k) L = false) ∧ jm_out v L = false ∧ (v + 6).toInt = v.toInt + 6) := by
  have e6 : (6 : Int32).toInt = 6 := by decide
  have eL : (Int32.ofNat L).toInt = L := Int32.toInt_ofNat_of_lt (by omega)
  have es : (Int32.ofNat L - 6).toInt = (L : Int) - 6 := by rw [Jvm.Kit.i32_sub (by omega) (by omega), eL, e6]
  refine ⟨by rw [Int32.lt_iff_toInt_lt, es], fun h2 => ⟨fun k k0 k5 => ?_, ?_, by rw [Jvm.Kit.i32_add (by omega) (by omega), e6]⟩⟩
  · have ek : (Int32.ofInt k).toInt = k := by
      have : k = 0 ∨ k = 1 ∨ k = 2 ∨ k = 3 ∨ k = 4 ∨ k = 5 := by omega
      rcases this with rfl | rfl | rfl | rfl | rfl | rfl <;> decide
    have ea : (v + Int32.ofInt k).toInt = v.toInt + k := by rw [Jvm.Kit.i32_add (by omega) (by omega), ek]
    exact lw_ob (by omega) (by omega)
  · exact lw_ob h0 (by omega)
set_option maxHeartbeats 8000000 in
theorem lw_turn {v : Int32} {G : jm_h} {cn sn : Nat} (C0 : jm_C p s m #[Value.ref b] meth c D s.heap.size ex ka Ls xs jm_ML 0) (hG : oz G) (hv : ¬ Int32.ofNat Ls - 6 < v) (hb : ∀ k : Int, 0 ≤ k → k ≤ 5 → jm_out (v + Int32.ofInt k) Ls = false) (hb0 : jm_out v Ls = false) (hcn : cn ≤ 600000) (hsn : sn ≤ 7302250) (kk : ∀ G2, oz G2 → jm_W p l e room_1 s m #[Value.ref b] below meth c D s.heap.size ex ka jm_ML 0 (lw_Z below #[Value.ref b] s) (1261, lw_L v, [], G2, cn, sn)) : jm_W p l e room_1 s m #[Value.ref b] below meth c D s.heap.size ex ka jm_ML 0 (lw_Z below #[Value.ref b] s) (18, lw_L v, [], G, cn, sn) := by
  refine lw_in C0 hv hb0 ?_
  have hX := oz_8 hG
  obtain ⟨x, hx⟩ : ∃ x, x = xs v.toNatClampNeg &&& 63 := ⟨_, rfl⟩
  rw [← hx]
  by_cases h1 : x.toInt < 0 ∨ 34 < x.toInt
  · refine lw_sw C0 (t := 1261) (fun q => ?_) (kk G hG)
    have ht : jm_tg 33 1228 = some 1261 := by decide
    simp only [jm_c1, if_pos h1, ht]
  · obtain ⟨j, hj, e⟩ := nI_of2 (x := x) (M := 34) (n := 34) (by decide) (fun q => h1 (Or.inl (by have := Int32.lt_iff_toInt_lt.mp q; rw [show (0 : Int32).toInt = 0 by decide] at this; exact this))) (Int32.le_iff_toInt_le.mpr (by
      have h34 : (34 : Int32).toInt = 34 := by decide
      show x.toInt ≤ (34 : Int32).toInt
      rw [h34]
      omega))
    rw [e]
    match j, hj with
    | 0, _ =>
      obtain ⟨C2, tau, hC2, hu⟩ := ozw_un_of (z_81 _ _ _ _ _) (x_81 _ _ _ _ _) (m_133 _ _ _ _ _) hG
      exact lw_sw C0 (t := 188) (fun q => rfl) (lw_c0 C0 hb hX (oz1_1000 hC2) hcn hsn hu kk)
    | 1, _ =>
      obtain ⟨C2, tau, hC2, hu⟩ := ozw_un_of (z_82 _) (x_82 _) (m_135 _) hG
      exact lw_sw C0 (t := 251) (fun q => rfl) (lw_c1 C0 hb hX (oz1_1000 hC2) hcn hsn hu kk)
    | 2, _ =>
      obtain ⟨C2, tau, hC2, hu⟩ := ozw_un_of (z_83 ) (x_83 ) (m_150 ) hG
      exact lw_sw C0 (t := 274) (fun q => rfl) (lw_c2 C0 hb hX (oz1_1000 hC2) hcn hsn hu kk)
    | 3, _ =>
      obtain ⟨C2, tau, hC2, hu⟩ := ozw_un_of (z_84 ) (x_84 ) (m_151 ) hG
      exact lw_sw C0 (t := 287) (fun q => rfl) (lw_c3 C0 hb hX (oz1_1000 hC2) hcn hsn hu kk)
    | 4, _ =>
      obtain ⟨C2, tau, hC2, hu⟩ := ozw_un_of (fun _ h => h) (x_85 _ _) (m_194 _ _) hG
      exact lw_sw C0 (t := 300) (fun q => rfl) (lw_c4 C0 hb hX (oz1_1000 hC2) hcn hsn hu kk)
    | 5, _ =>
      obtain ⟨C2, tau, hC2, hu⟩ := ozw_un_of (fun _ h => h) (x_86 _ _) (m_195 _ _) hG
      exact lw_sw C0 (t := 333) (fun q => rfl) (lw_c5 C0 hb hX (oz1_1000 hC2) hcn hsn hu kk)
    | 6, _ =>
      obtain ⟨C2, tau, hC2, hu⟩ := ozw_un_of (fun _ h => h) (x_87 _ _) (m_199 _ _) hG
      exact lw_sw C0 (t := 366) (fun q => rfl) (lw_c6 C0 hb hX (oz1_1000 hC2) hcn hsn hu kk)
    | 7, _ =>
      obtain ⟨C2, tau, hC2, hu⟩ := ozw_un_of (z_88 _ _) (x_88 _ _) (m_201 _ _) hG
      exact lw_sw C0 (t := 399) (fun q => rfl) (lw_c7 C0 hb hX (oz1_1000 hC2) hcn hsn hu kk)
    | 8, _ =>
      obtain ⟨C2, tau, hC2, hu⟩ := ozw_un_of (z_89 _ _) (x_89 _ _) (m_202 _ _) hG
      exact lw_sw C0 (t := 432) (fun q => rfl) (lw_c8 C0 hb hX (oz1_1000 hC2) hcn hsn hu kk)
    | 9, _ =>
      obtain ⟨C2, tau, hC2, hu⟩ := ozw_un_of (z_90 _) (x_90 _) (m_203 _) hG
      exact lw_sw C0 (t := 481) (fun q => rfl) (lw_c9 C0 hb hX (oz1_1000 hC2) hcn hsn hu kk)
    | 10, _ =>
      obtain ⟨C2, tau, hC2, hu⟩ := ozw_un_of (z_91 _) (x_91 _) (m_204 _) hG
      exact lw_sw C0 (t := 504) (fun q => rfl) (lw_c10 C0 hb hX (oz1_1000 hC2) hcn hsn hu kk)
    | 11, _ =>
      obtain ⟨C2, tau, hC2, hu⟩ := ozw_un_of (z_92 ) (x_92 ) (m_205 ) hG
      exact lw_sw C0 (t := 527) (fun q => rfl) (lw_c11 C0 hb hX (oz1_1000 hC2) hcn hsn hu kk)
    | 12, _ =>
      obtain ⟨C2, tau, hC2, hu⟩ := ozw_un_of (fun _ h => h) (x_93 _ _ _) (m_211 _ _ _) hG
      exact lw_sw C0 (t := 540) (fun q => rfl) (lw_c12 C0 hb hX (oz1_1000 hC2) hcn hsn hu kk)
    | 13, _ =>
      obtain ⟨C2, tau, hC2, hu⟩ := ozw_un_of (fun _ h => h) (x_94 _ _ _) (m_213 _ _ _) hG
      exact lw_sw C0 (t := 599) (fun q => rfl) (lw_c13 C0 hb hX (oz1_1000 hC2) hcn hsn hu kk)
    | 14, _ =>
      obtain ⟨C2, tau, hC2, hu⟩ := ozw_un_of (fun _ h => h) (x_95 _ _ _) (m_214 _ _ _) hG
      exact lw_sw C0 (t := 642) (fun q => rfl) (lw_c14 C0 hb hX (oz1_1000 hC2) hcn hsn hu kk)
    | 15, _ =>
      obtain ⟨C2, tau, hC2, hu⟩ := ozw_un_of (fun _ h => h) (x_96 _ _) (m_215 _ _) hG
      exact lw_sw C0 (t := 685) (fun q => rfl) (lw_c15 C0 hb hX (oz1_1000 hC2) hcn hsn hu kk)
    | 16, _ =>
      obtain ⟨C2, tau, hC2, hu⟩ := ozw_un_of (fun _ h => h) (x_97 _ _) (m_216 _ _) hG
      exact lw_sw C0 (t := 718) (fun q => rfl) (lw_c16 C0 hb hX (oz1_1000 hC2) hcn hsn hu kk)
    | 17, _ =>
      obtain ⟨C2, tau, hC2, hu⟩ := ozw_un_of (fun _ h => h) (x_98 _ _) (m_217 _ _) hG
      exact lw_sw C0 (t := 751) (fun q => rfl) (lw_c17 C0 hb hX (oz1_1000 hC2) hcn hsn hu kk)
    | 18, _ =>
      obtain ⟨C2, tau, hC2, hu⟩ := ozw_un_of (fun _ h => h) (x_99 _) (m_219 _) hG
      exact lw_sw C0 (t := 784) (fun q => rfl) (lw_c18 C0 hb hX (oz1_1000 hC2) hcn hsn hu kk)
    | 19, _ =>
      obtain ⟨C2, tau, hC2, hu⟩ := ozw_un_of (fun _ h => h) (x_100 _) (m_220 _) hG
      exact lw_sw C0 (t := 807) (fun q => rfl) (lw_c19 C0 hb hX (oz1_1000 hC2) hcn hsn hu kk)
    | 20, _ =>
      obtain ⟨C2, tau, hC2, hu⟩ := ozw_un_of (fun _ h => h) (x_101 _) (m_221 _) hG
      exact lw_sw C0 (t := 846) (fun q => rfl) (lw_c20 C0 hb hX (oz1_1000 hC2) hcn hsn hu kk)
    | 21, _ =>
      obtain ⟨C2, tau, hC2, hu⟩ := ozw_un_of (fun _ h => h) (x_102 _ _ _) (m_222 _ _ _) hG
      exact lw_sw C0 (t := 869) (fun q => rfl) (lw_c21 C0 hb hX (oz1_1000 hC2) hcn hsn hu kk)
    | 22, _ =>
      obtain ⟨C2, tau, hC2, hu⟩ := ozw_un_of (fun _ h => h) (x_103 _ _) (m_223 _ _) hG
      exact lw_sw C0 (t := 912) (fun q => rfl) (lw_c22 C0 hb hX (oz1_1000 hC2) hcn hsn hu kk)
    | 23, _ =>
      obtain ⟨C2, tau, hC2, hu⟩ := ozw_un_of (fun _ h => h) (x_104 _ _) (m_224 _ _) hG
      exact lw_sw C0 (t := 945) (fun q => rfl) (lw_c23 C0 hb hX (oz1_1000 hC2) hcn hsn hu kk)
    | 24, _ =>
      obtain ⟨C2, tau, hC2, hu⟩ := ozw_un_of (fun _ h => h) (x_105 _) (m_225 _) hG
      exact lw_sw C0 (t := 978) (fun q => rfl) (lw_c24 C0 hb hX (oz1_1000 hC2) hcn hsn hu kk)
    | 25, _ =>
      obtain ⟨C2, tau, hC2, hu⟩ := ozw_un_of (fun _ h => h) (x_106 ) (m_226 ) hG
      exact lw_sw C0 (t := 1001) (fun q => rfl) (lw_c25 C0 hb hX (oz1_1000 hC2) hcn hsn hu kk)
    | 26, _ =>
      obtain ⟨C2, tau, hC2, hu⟩ := ozw_un_of (fun _ h => h) (x_107 _ _ _ _) (m_227 _ _ _ _) hG
      exact lw_sw C0 (t := 1014) (fun q => rfl) (lw_c26 C0 hb hX (oz1_1000 hC2) hcn hsn hu kk)
    | 27, _ =>
      obtain ⟨C2, tau, hC2, hu⟩ := ozw_un_of (z_108 _ _) (x_108 _ _) (m_228 _ _) hG
      exact lw_sw C0 (t := 1067) (fun q => rfl) (lw_c27 C0 hb hX (oz1_1000 hC2) hcn hsn hu kk)
    | 28, _ =>
      obtain ⟨C2, tau, hC2, hu⟩ := ozw_un_of (z_109 ) (x_109 ) (m_229 ) hG
      exact lw_sw C0 (t := 1100) (fun q => rfl) (lw_c28 C0 hb hX (oz1_1000 hC2) hcn hsn hu kk)
    | 29, _ =>
      obtain ⟨C2, tau, hC2, hu⟩ := ozw_un_of (fun _ h => h) (x_110 _) (m_233 _) hG
      exact lw_sw C0 (t := 1113) (fun q => rfl) (lw_c29 C0 hb hX (oz1_1000 hC2) hcn hsn (fun r r2 h h2 => h.trans h2.symm) hu kk)
    | 30, _ =>
      obtain ⟨C2, tau, hC2, hu⟩ := ozw_un_of (fun _ h => h) (x_111 _ _) (m_234 _ _) hG
      exact lw_sw C0 (t := 1136) (fun q => rfl) (lw_c30 C0 hb hX (oz1_1000 hC2) hcn hsn hu kk)
    | 31, _ =>
      obtain ⟨C2, tau, hC2, hu⟩ := ozw_un_of (fun _ h => h) (x_112 _) (m_235 _) hG
      exact lw_sw C0 (t := 1169) (fun q => rfl) (lw_c31 C0 hb hX (oz1_1000 hC2) hcn hsn hu kk)
    | 32, _ =>
      obtain ⟨C2, tau, hC2, hu⟩ := ozw_un_of (z_113 _) (x_113 _) (m_236 _) hG
      exact lw_sw C0 (t := 1192) (fun q => rfl) (lw_c32 C0 hb hX (oz1_1000 hC2) hcn hsn hu kk)
    | 33, _ =>
      obtain ⟨C2, tau, hC2, hu⟩ := ozw_un_of (z_114 _) (x_114 _) (m_237 _) hG
      exact lw_sw C0 (t := 1215) (fun q => rfl) (lw_c33 C0 hb hX (oz1_1000 hC2) hcn hsn hu kk)
    | 34, _ =>
      obtain ⟨C2, tau, hC2, hu⟩ := ozw_un_of (fun _ h => h) (x_115 _) (m_238 _) hG
      exact lw_sw C0 (t := 1238) (fun q => rfl) (lw_c34 C0 hb hX (oz1_1000 hC2) hcn hsn hu kk)
    | j + 35, hj => exact absurd hj (by omega)
theorem lw_loop (hL : Ls ≤ 3072) (C0 : jm_C p s m #[Value.ref b] meth c D s.heap.size ex ka Ls xs jm_ML 0) {cn sn : Nat} (hcn : cn ≤ 600000) (hsn : sn ≤ 7302250) : ∀ (n : Nat) (v : Int32) (G : jm_h), oz G → 0 ≤ v.toInt → v.toInt ≤ Ls → (Ls : Int) - v.toInt < n → jm_W p l e room_1 s m #[Value.ref b] below meth c D s.heap.size ex ka jm_ML 0 (lw_Z below #[Value.ref b] s) (18, lw_L v, [], G, cn, sn)
  | 0, v, G, _, _, h1, h2 => absurd h2 (by omega)
  | n + 1, v, G, hG, h0, h1, h2 => by
    obtain ⟨a, q⟩ := lw_num hL h0 h1
    by_cases hv : (Ls : Int) - 6 < v.toInt
    · exact lw_head C0 (a.mpr hv) hcn hsn
    · obtain ⟨q1, q2, q3⟩ := q (by omega)
      exact lw_turn C0 hG (fun z => hv (a.mp z)) q1 q2 hcn hsn (fun G2 hG2 => lw_next C0 (lw_loop hL C0 hcn hsn n (v + 6) G2 hG2 (by omega) (by omega) (by omega)))
end LWW
set_option maxHeartbeats 8000000 in
/-- from the entry, for every script of at most 3072 ints, the law comes to its end with true -/
theorem whole_start {p : Program} {e : Env} {s : State} {m : MethodId} {below : List Frame} {meth : Method} {c : Code} (l : Launch) {b L : Nat} {xs : Nat → Int32} (hL : L ≤ 3072) (C0 : lw_At p s m meth c b L xs) : W p l e room_1 s m #[Value.ref b] below meth c s.heap [] 0 0 (lw_Z below #[Value.ref b] s) (entryFrame m ([Value.ref b] : List Value).toArray 4) := by
  obtain ⟨D, ex, ka, he0, C1⟩ := lw_entry C0
  have key : jm_W p l e room_1 s m #[Value.ref b] below meth c D s.heap.size ex ka jm_ML 0 (lw_Z below #[Value.ref b] s) (0, [some (.ref 0), none, none, none], [], ([], []), 0, 0) := by
    refine lw_st2 C1 (i := (.new 7, 3, 9, 0, 113)) (st := (3, [some (.ref 0), none, none, none], [.ref 8], ([.inr (9, jm_df 9)], []), 1, 15)) (by decide +kernel) (jm_step_d2 rfl rfl rfl rfl rfl rfl) ?_
    refine lw_st2 C1 (i := (.dup, 1, 0, 0, 0)) (st := (4, [some (.ref 0), none, none, none], [.ref 8, .ref 8], ([.inr (9, jm_df 9)], []), 1, 15)) (by decide +kernel) (jm_step_a2 rfl rfl rfl rfl rfl) ?_
    refine jm_call_ok jm_TBok jm_hYN C1 (jm_in_ck (pc := 4) jm_lawck (e := (.invokespecial 9, 3, 80, 0, 115)) (by decide +kernel)) (M1 := jm_M80) (As := [.ref 8]) (rest := [.ref 8]) rfl jm_K1 (Nat.le_of_ble_eq_true rfl) (Nat.le_of_ble_eq_true rfl) (Nat.le_of_ble_eq_true rfl) (Nat.le_of_ble_eq_true rfl) (fun v G hP _ => ?_)
    obtain ⟨rfl, rfl⟩ := hP
    refine lw_st2 C1 (i := (.astore_n 1, 1, 0, 0, 0)) (st := (8, [some (.ref 0), some (.ref 8), none, none], [], (jm_H1, []), 65, 7219)) (by decide +kernel) (jm_step_a2 rfl rfl rfl rfl rfl) ?_
    refine lw_st2 C1 (i := (.new 10, 3, 10, 0, 1050)) (st := (11, [some (.ref 0), some (.ref 8), none, none], [.ref 1000], (jm_H1, [.inr (10, jm_df 10)]), 66, 7288)) (by decide +kernel) (jm_step_d2 rfl rfl rfl rfl rfl rfl) ?_
    refine lw_st2 C1 (i := (.dup, 1, 0, 0, 0)) (st := (12, [some (.ref 0), some (.ref 8), none, none], [.ref 1000, .ref 1000], (jm_H1, [.inr (10, jm_df 10)]), 66, 7288)) (by decide +kernel) (jm_step_a2 rfl rfl rfl rfl rfl) ?_
    refine jm_call_ok jm_TBok jm_hYN C1 (jm_in_ck (pc := 12) jm_lawck (e := (.invokespecial 12, 3, 132, 0, 1052)) (by decide +kernel)) (M1 := jm_M132) (As := [.ref 1000]) (rest := [.ref 1000]) rfl jm_K2 (Nat.le_of_ble_eq_true rfl) (Nat.le_of_ble_eq_true rfl) (Nat.le_of_ble_eq_true rfl) (Nat.le_of_ble_eq_true rfl) (fun v G hP _ => ?_)
    obtain ⟨rfl, rfl⟩ := hP
    refine lw_st2 C1 (i := (.astore_n 2, 1, 0, 0, 0)) (st := (16, [some (.ref 0), some (.ref 8), some (.ref 1000), none], [], (jm_H1, jm_H2), 112, 27288)) (by decide +kernel) (jm_step_a2 rfl rfl rfl rfl rfl) ?_
    refine lw_st2 C1 (i := (.iconst 0, 1, 0, 0, 0)) (st := (17, [some (.ref 0), some (.ref 8), some (.ref 1000), none], [.int 0], (jm_H1, jm_H2), 112, 27288)) (by decide +kernel) (jm_step_a1 rfl) ?_
    refine lw_st2 C1 (i := (.istore_n 3, 1, 0, 0, 0)) (st := (18, lw_L 0, [], (jm_H1, jm_H2), 112, 27288)) (by decide +kernel) (jm_step_a2 rfl rfl rfl rfl rfl) ?_
    exact lw_loop hL C1 (Nat.le_of_ble_eq_true rfl) (Nat.le_of_ble_eq_true rfl) (L + 1) 0 _ oz_0 (by decide) (by rw [show (0 : Int32).toInt = 0 by decide]; omega) (by rw [show (0 : Int32).toInt = 0 by decide]; omega)
  obtain ⟨ls, he, hl⟩ := jm_entry (m := m) (mx := 4) (h0 := s.heap.size) (ex := ex) [.ref 0] (by decide)
  have hm : ([.ref 0] : List Value).map (jm_cv s.heap.size ex) = [Value.ref b] := by
    simp [jm_cv, jm_ad, he0]
  rw [hm] at he
  rw [he]
  exact key rfl s.heap [] ls ⟨⟨Or.inl rfl, by decide⟩, fun k q h => by simp [jm_w, jm_al] at h⟩ va_S.rf hl
