/-! THE CLAIM OUT OF ONE WALK OF THE LAW'S BODY. Your part is whole_start (and what it stands on); all else here is the same for every law, but numbers. -/
def R_law : String := "FallMarketLaw"
def lw_P (b : Addr) (xs : List Int32) (args : Array Value) (s : State) : Prop := args = #[.ref b] ∧ s.IntsAt b xs ∧ xs.length ≤ 3072 ∧ (Jvm.Cond.and given_1 narrow_1).before args s = true
def lw_Q (_ : Array Value) (s : State) (o : Outcome) (t : State) : Prop := o = .returned (some (.int 1)) ∧ Framed s o t [] 600000 7302250
def lw_Z (below : List Frame) (a : Array Value) (s : State) : State → Prop := fun t => ∃ o, t.status = .running ∧ Ended t below o ∧ lw_Q a s o t
/-- the law's own end, with 1 on the stack, nothing written that was there before, its room as the claim has it -/
theorem lw_ret {p : Program} {l : Launch} {e : Env} {s : State} {m : MethodId} {below : List Frame} {meth : Method} {c : Code} {b : Nat} (hx : p.tables.exec = Jvm.exec) (hb : c.code = code) (hr : meth.sig.returnType = ret) (hlocks : meth.locks = false) {pc : Nat} {H : Heap} {ls : Array Slot} (hdg : decode code pc = .ok (.ireturn, 1)) : W p l e room_1 s m #[Value.ref b] below meth c H [] 600000 7302250 (lw_Z below #[Value.ref b] s) (F0 m pc ls [.int 1]) := by
  intro T hT X
  obtain ⟨fs, hret, hrun, hended, hW, hframe⟩ := X.leave (v := some (.int 1)) (hlocks := hlocks) (fun h => by rw [hr] at h; cases h)
  have hmeth' : T.vm.method? m = some meth := X.method'
  refine ⟨T.setFrames fs, ?_, .returned (some (.int 1)), hrun, hended, rfl, ⟨_, rfl⟩, hW, hframe⟩
  jvm_step X.here [X.here.top, hx, hb, hdg, hmeth', hr, ret, narrow_b1]
  (try refine ⟨rfl, ?_⟩); (try refine ⟨rfl, ?_⟩)
  first | (intro acts; rw [hret _ acts rfl rfl rfl]) | rw [hret _ _ rfl rfl rfl]
  exact Steps.refl _
/-- what holds at the law's entry: the machine, the code, the tables' words (any of lw_tbl by 'hts w (by decide +kernel)'), the script of L ints xs at the cell b, what the Statement gives of the start (any of its parts by flat_of_before) -/
def lw_At (p : Program) (s : State) (m : MethodId) (meth : Method) (c : Code) (b L : Nat) (xs : Nat → Int32) : Prop :=
  p.tables.exec = Jvm.exec ∧ c.code = code ∧ meth.sig.returnType = ret ∧ c.maxLocals = 4 ∧ s.vm.findClass R_law = some m.cls ∧ (∀ w ∈ lw_tbl, w.before #[Value.ref b] s = true) ∧ va_X b L xs s s.heap ∧ b < s.heap.size ∧ meth.locks = false ∧ (Jvm.Cond.and given_1 narrow_1).before #[Value.ref b] s = true ∧ meth.name = "law"

/-! ===== at the law's entry ===== -/
theorem jm_arr {ty : FieldType} {args : Array Value} {s : State} (h : (Cond.arrayClass ty).before args s = true) : ∃ cA : ClassId, ArrOfT s cA ty ∧ s.vm.findClass ("[" ++ ty.toString) = some cA := by
  obtain ⟨cA, kA, comp, h1, h2, h3⟩ := Cond.arrayClass_spec h
  exact ⟨cA, fun n z => ⟨fun k h => (by cases h), kA, h2, comp, h3⟩, h1⟩
theorem jm_entK {args : Array Value} {s : State} (hts : ∀ w ∈ lw_tbl, w.before args s = true) : ∃ (D : va_G) (ka : Nat → ClassId), va_K D vwCl (jm_tys ka) s := by
  have ht : ∀ w ∈ jm_tbl, w.before args s = true := fun w hw => hts w (List.mem_filter.mp hw).1
  obtain ⟨c0, i0, k0⟩ := u_known (C := RX0) (T := TX0) (N := 1) (n := 1) ht wiX0 (hts (.instantiable "FallMarket$Clock" 1) (jm_lk_mem (i := 350) (by decide +kernel)))
  obtain ⟨c1, i1, k1⟩ := u_known (C := RX1) (T := TX1) (N := 12) (n := 12) ht wiX1 (hts (.instantiable "FallMarket$Ground" 12) (jm_lk_mem (i := 381) (by decide +kernel)))
  obtain ⟨c2, i2, k2⟩ := u_known (C := RX2) (T := TX2) (N := 2) (n := 2) ht wiX2 (hts (.instantiable "FallMarket$Laws" 2) (jm_lk_mem (i := 335) (by decide +kernel)))
  obtain ⟨c3, i3, k3⟩ := u_known (C := RX3) (T := TX3) (N := 4) (n := 4) ht wiX3 (hts (.instantiable "FallMarket$Outlook" 4) (jm_lk_mem (i := 360) (by decide +kernel)))
  obtain ⟨c4, i4, k4⟩ := u_known (C := RX4) (T := TX4) (N := 10) (n := 10) ht wiX4 (hts (.instantiable "FallMarket$Parser" 10) (jm_lk_mem (i := 225) (by decide +kernel)))
  obtain ⟨c5, i5, k5⟩ := u_known (C := RX5) (T := TX5) (N := 15) (n := 15) ht wiX5 (hts (.instantiable "FallMarket$Text" 15) (jm_lk_mem (i := 122) (by decide +kernel)))
  obtain ⟨c6, i6, k6⟩ := u_known (C := RX6) (T := TX6) (N := 4) (n := 4) ht wiX6 (hts (.instantiable "FallMarket$Tokens" 4) (jm_lk_mem (i := 231) (by decide +kernel)))
  obtain ⟨c7, i7, k7⟩ := u_known (C := RX7) (T := TX7) (N := 3) (n := 3) ht wiX7 (hts (.instantiable "FallMarket$Told" 3) (jm_lk_mem (i := 468) (by decide +kernel)))
  obtain ⟨c8, i8, k8⟩ := u_known (C := RX8) (T := TX8) (N := 3) (n := 3) ht wiX8 (hts (.instantiable "FallMarket$Trail" 3) (jm_lk_mem (i := 451) (by decide +kernel)))
  obtain ⟨c9, i9, k9⟩ := u_known (C := RX9) (T := TX9) (N := 15) (n := 15) ht wiX9 (hts (.instantiable "FallMarket" 15) (jm_lk_mem (i := 114) (by decide +kernel)))
  obtain ⟨c10, i10, k10⟩ := u_known (C := RX10) (T := TX10) (N := 69) (n := 69) ht wiX10 (hts (.instantiable "FallMarketModel" 69) (jm_lk_mem (i := 1051) (by decide +kernel)))
  obtain ⟨a0, p0, q0⟩ := jm_arr (hts (.arrayClass .int) (jm_lk_mem (i := 223) (by decide +kernel)))
  obtain ⟨a1, p1, q1⟩ := jm_arr (hts (.arrayClass .byte) (jm_lk_mem (i := 222) (by decide +kernel)))
  obtain ⟨a2, p2, q2⟩ := jm_arr (hts (.arrayClass .boolean) (jm_lk_mem (i := 484) (by decide +kernel)))
  obtain ⟨a3, p3, q3⟩ := jm_arr (hts (.arrayClass .long) (jm_lk_mem (i := 302) (by decide +kernel)))
  refine ⟨(fun k => match k with | 0 => c0 | 1 => c1 | 2 => c2 | 3 => c3 | 4 => c4 | 5 => c5 | 6 => c6 | 7 => c7 | 8 => c8 | 9 => c9 | _ => c10, fun k => match k with | 0 => i0 | 1 => i1 | 2 => i2 | 3 => i3 | 4 => i4 | 5 => i5 | 6 => i6 | 7 => i7 | 8 => i8 | 9 => i9 | _ => i10), (fun k => match k with | 0 => a0 | 1 => a1 | 2 => a2 | _ => a3), fun c q hq => ?_, fun k q hk => ?_⟩
  · match c, hq with
    | 0, h => cases h; exact k0
    | 1, h => cases h; exact k1
    | 2, h => cases h; exact k2
    | 3, h => cases h; exact k3
    | 4, h => cases h; exact k4
    | 5, h => cases h; exact k5
    | 6, h => cases h; exact k6
    | 7, h => cases h; exact k7
    | 8, h => cases h; exact k8
    | 9, h => cases h; exact k9
    | 10, h => cases h; exact k10
    | n + 11, h => simp [vwCl] at h
  · match k, hk with
    | 0, h => cases h; exact ⟨p0, q0⟩
    | 1, h => cases h; exact ⟨p1, q1⟩
    | 2, h => cases h; exact ⟨p2, q2⟩
    | 3, h => cases h; exact ⟨p3, q3⟩
    | n + 4, h => simp [jm_tys] at h
theorem jm_ew0 : ∀ j : Nat, j < 20 → Cond.eq (.elem (.field (.string "FallMarket$Tokens" 25) "java/lang/String" "value" "[B") (.int (Int32.ofNat (0 + j)))) (.int (jm_wb.getD (0 + j) 0)) ∈ flatC (Jvm.Cond.and given_1 narrow_1) := by decide +kernel
theorem jm_ew1 : ∀ j : Nat, j < 20 → Cond.eq (.elem (.field (.string "FallMarket$Tokens" 25) "java/lang/String" "value" "[B") (.int (Int32.ofNat (20 + j)))) (.int (jm_wb.getD (20 + j) 0)) ∈ flatC (Jvm.Cond.and given_1 narrow_1) := by decide +kernel
theorem jm_ew2 : ∀ j : Nat, j < 20 → Cond.eq (.elem (.field (.string "FallMarket$Tokens" 25) "java/lang/String" "value" "[B") (.int (Int32.ofNat (40 + j)))) (.int (jm_wb.getD (40 + j) 0)) ∈ flatC (Jvm.Cond.and given_1 narrow_1) := by decide +kernel
theorem jm_ew3 : ∀ j : Nat, j < 20 → Cond.eq (.elem (.field (.string "FallMarket$Tokens" 25) "java/lang/String" "value" "[B") (.int (Int32.ofNat (60 + j)))) (.int (jm_wb.getD (60 + j) 0)) ∈ flatC (Jvm.Cond.and given_1 narrow_1) := by decide +kernel
theorem jm_ew4 : ∀ j : Nat, j < 20 → Cond.eq (.elem (.field (.string "FallMarket$Tokens" 25) "java/lang/String" "value" "[B") (.int (Int32.ofNat (80 + j)))) (.int (jm_wb.getD (80 + j) 0)) ∈ flatC (Jvm.Cond.and given_1 narrow_1) := by decide +kernel
theorem jm_ew5 : ∀ j : Nat, j < 20 → Cond.eq (.elem (.field (.string "FallMarket$Tokens" 25) "java/lang/String" "value" "[B") (.int (Int32.ofNat (100 + j)))) (.int (jm_wb.getD (100 + j) 0)) ∈ flatC (Jvm.Cond.and given_1 narrow_1) := by decide +kernel
theorem jm_ew6 : ∀ j : Nat, j < 11 → Cond.eq (.elem (.field (.string "FallMarket$Tokens" 25) "java/lang/String" "value" "[B") (.int (Int32.ofNat (120 + j)))) (.int (jm_wb.getD (120 + j) 0)) ∈ flatC (Jvm.Cond.and given_1 narrow_1) := by decide +kernel
theorem jm_ew (j : Nat) (hj : j < 131) : Cond.eq (.elem (.field (.string "FallMarket$Tokens" 25) "java/lang/String" "value" "[B") (.int (Int32.ofNat j))) (.int (jm_wb.getD j 0)) ∈ flatC (Jvm.Cond.and given_1 narrow_1) := by
  by_cases h0 : j < 20
  · have := jm_ew0 (j - 0) (by omega)
    rwa [show 0 + (j - 0) = j by omega] at this
  by_cases h1 : j < 40
  · have := jm_ew1 (j - 20) (by omega)
    rwa [show 20 + (j - 20) = j by omega] at this
  by_cases h2 : j < 60
  · have := jm_ew2 (j - 40) (by omega)
    rwa [show 40 + (j - 40) = j by omega] at this
  by_cases h3 : j < 80
  · have := jm_ew3 (j - 60) (by omega)
    rwa [show 60 + (j - 60) = j by omega] at this
  by_cases h4 : j < 100
  · have := jm_ew4 (j - 80) (by omega)
    rwa [show 80 + (j - 80) = j by omega] at this
  by_cases h5 : j < 120
  · have := jm_ew5 (j - 100) (by omega)
    rwa [show 100 + (j - 100) = j by omega] at this
  by_cases h6 : j < 131
  · have := jm_ew6 (j - 120) (by omega)
    rwa [show 120 + (j - 120) = j by omega] at this
  exact absurd hj (by omega)
set_option maxHeartbeats 4000000 in
theorem jm_entX {s : State} {b L : Nat} {xs : Nat → Int32} (hts : ∀ w ∈ lw_tbl, w.before #[Value.ref b] s = true) (hX : va_X b L xs s s.heap) (hbl : b < s.heap.size) (hgv : (Jvm.Cond.and given_1 narrow_1).before #[Value.ref b] s = true) : ∃ ex : Nat → Nat, ex 0 = b ∧ jm_X s.heap.size ex L xs s := by
  have hs := flat_of_before _ hgv
  have hA : ∀ a : Nat, a < s.heap.size → ¬ s.heap.size ≤ a := fun a h => by omega
  obtain ⟨t1, ht1, hT1⟩ := va_Tof (args := #[Value.ref b]) (s := s) (tm := .static "FallMarket" "LEAST" "[I") (ty := .int) (N := 6) (f := fun j => .int (jm_x1.getD j 0)) (A := fun q => s.heap.size ≤ q) (by decide) (hs _ (by decide +kernel)) (va_eqt (hs _ (by decide +kernel))) (fun j hj => va_eqt (hs _ ((by decide +kernel : ∀ j : Nat, j < 6 → Cond.eq (.elem (.static "FallMarket" "LEAST" "[I") (.int (Int32.ofNat j))) (.int (jm_x1.getD j 0)) ∈ flatC (Jvm.Cond.and given_1 narrow_1)) j hj))) hA
  have hZ1 := va_Zref (A := fun q => s.heap.size ≤ q) (hts (.laysStatic "FallMarket" "LEAST" "[I") (by decide +kernel)) (hts (.initialized "FallMarket") (by decide +kernel)) ht1 hA
  obtain ⟨t2, ht2, hT2⟩ := va_Tof (args := #[Value.ref b]) (s := s) (tm := .static "FallMarket" "MOST" "[I") (ty := .int) (N := 6) (f := fun j => .int (jm_x2.getD j 0)) (A := fun q => s.heap.size ≤ q) (by decide) (hs _ (by decide +kernel)) (va_eqt (hs _ (by decide +kernel))) (fun j hj => va_eqt (hs _ ((by decide +kernel : ∀ j : Nat, j < 6 → Cond.eq (.elem (.static "FallMarket" "MOST" "[I") (.int (Int32.ofNat j))) (.int (jm_x2.getD j 0)) ∈ flatC (Jvm.Cond.and given_1 narrow_1)) j hj))) hA
  have hZ2 := va_Zref (A := fun q => s.heap.size ≤ q) (hts (.laysStatic "FallMarket" "MOST" "[I") (by decide +kernel)) (hts (.initialized "FallMarket") (by decide +kernel)) ht2 hA
  obtain ⟨t3, ht3, hT3⟩ := va_Tof (args := #[Value.ref b]) (s := s) (tm := .static "FallMarket" "TOLD_VARS" "[I") (ty := .int) (N := 6) (f := fun j => .int (jm_x3.getD j 0)) (A := fun q => s.heap.size ≤ q) (by decide) (hs _ (by decide +kernel)) (va_eqt (hs _ (by decide +kernel))) (fun j hj => va_eqt (hs _ ((by decide +kernel : ∀ j : Nat, j < 6 → Cond.eq (.elem (.static "FallMarket" "TOLD_VARS" "[I") (.int (Int32.ofNat j))) (.int (jm_x3.getD j 0)) ∈ flatC (Jvm.Cond.and given_1 narrow_1)) j hj))) hA
  have hZ3 := va_Zref (A := fun q => s.heap.size ≤ q) (hts (.laysStatic "FallMarket" "TOLD_VARS" "[I") (by decide +kernel)) (hts (.initialized "FallMarket") (by decide +kernel)) ht3 hA
  have hC := va_Zof (A := fun q => s.heap.size ≤ q) (hts (.laysStatic "java/lang/String" "COMPACT_STRINGS" "Z") (by decide +kernel)) (hts (.initialized "java/lang/String") (by decide +kernel)) (va_eqi (z := 1) (hs _ (by decide +kernel))) hA
  obtain ⟨adK, adV, hS, hR⟩ := vk_Sof (args := #[Value.ref b]) (s := s) (N := 1) (tm := fun _ => .string "FallMarket$Tokens" 25) (len := [131]) (byt := [jm_wb]) (A := fun q => s.heap.size ≤ q) (by decide) (fun i hi => hs _ (by decide +kernel)) (fun i hi => hs _ (by decide +kernel)) (fun i hi => hs _ (by decide +kernel)) (fun i hi => by
      obtain rfl : i = 0 := by omega
      exact hs _ (by decide +kernel)) (fun i hi j hj => by
      obtain rfl : i = 0 := by omega
      exact hs _ (jm_ew j hj)) (fun i j hi hj hij => absurd (show i = j by omega) hij) hA
  have hRR := vk_R.of (hts (.stringRef "FallMarket$Tokens" 25 jm_tx) (by decide +kernel)) (hR 0 (by decide))
  obtain ⟨⟨s1, s2, s3, s4⟩, -⟩ : (_ ∧ _ ∧ _ ∧ _) ∧ True := ⟨hS.1 0 (by decide), trivial⟩
  rcases va_Zqof (A := fun q => s.heap.size ≤ q) (hts (.laysStatic "jdk/internal/util/Preconditions" "SIOOBE_FORMATTER" "Ljava/util/function/BiFunction;") (by decide +kernel)) (hts (.initialized "jdk/internal/util/Preconditions") (by decide +kernel)) (hs _ (by decide +kernel)) hA with hn | ⟨t, hn⟩
  · exact ⟨fun k => match k with | 0 => b | 1 => t1 | 2 => t2 | 3 => t3 | 4 => adK 0 | 5 => adV 0 | _ => 0, rfl, ⟨hX, hbl, by show ¬ s.heap.size ≤ b; omega⟩, ⟨hZ1, hT1⟩, ⟨hZ2, hT2⟩, ⟨hZ3, hT3⟩, hC, ⟨s1, s2, s3, s4⟩, hRR, hn, fun w hw hN => va_Nw.of (jm_N_tab hN) (hts w hw)⟩
  · exact ⟨fun k => match k with | 0 => b | 1 => t1 | 2 => t2 | 3 => t3 | 4 => adK 0 | 5 => adV 0 | 6 => t | _ => 1, rfl, ⟨hX, hbl, by show ¬ s.heap.size ≤ b; omega⟩, ⟨hZ1, hT1⟩, ⟨hZ2, hT2⟩, ⟨hZ3, hT3⟩, hC, ⟨s1, s2, s3, s4⟩, hRR, hn, fun w hw hN => va_Nw.of (jm_N_tab hN) (hts w hw)⟩
theorem lw_entry {p : Program} {s : State} {m : MethodId} {meth : Method} {c : Code} {b L : Nat} {xs : Nat → Int32} (C0 : lw_At p s m meth c b L xs) : ∃ (D : va_G) (ex : Nat → Nat) (ka : Nat → ClassId), ex 0 = b ∧ jm_C p s m #[Value.ref b] meth c D s.heap.size ex ka L xs jm_ML 0 := by
  obtain ⟨hx, hb, hr, hml, hown, hts, hX, hbl, hlk, hgv, hnm⟩ := C0
  obtain ⟨D, ka, hK⟩ := jm_entK hts
  obtain ⟨ex, he, hE⟩ := jm_entX hts hX hbl hgv
  exact ⟨D, ex, ka, he, hx, hb, hml, hown, fun w hw => hts w (List.mem_filter.mp hw).1, hr, hlk, hnm, hK, rfl, hE⟩
