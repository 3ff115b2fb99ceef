/-! ===== loops over hours, behind the constructors ===== -/
theorem zc_48 : (48 : Int32).toInt = 48 := by decide
theorem zi_inc {a : Int32} (h0 : 0 ≤ a.toInt) (h : a.toInt ≤ 100000) : (a + 1).toInt = a.toInt + 1 := by
  have e1 : (1 : Int32).toInt = 1 := by decide
  rw [Jvm.Kit.i32_add (by omega) (by omega), e1]
theorem zi_le {a b : Int32} (h : a.toInt ≤ b.toInt) : a ≤ b := Int32.le_iff_toInt_le.mpr h
theorem zi_nle {a b : Int32} (h : b.toInt < a.toInt) : ¬ a ≤ b := fun q => by have := Int32.le_iff_toInt_le.mp q; omega
theorem zi_lt {a b : Int32} (h : a.toInt < b.toInt) : a < b := Int32.lt_iff_toInt_lt.mpr h
theorem zi_nlt {a b : Int32} (h : b.toInt ≤ a.toInt) : ¬ a < b := fun q => by have := Int32.lt_iff_toInt_lt.mp q; omega
theorem sy_i_eq {F F' : Nat → sy_d} {k : Nat} (h : F' k = F k) : sy_i F' k = sy_i F k := by simp only [sy_i, h]
theorem sy_ai_eq {F F' : Nat → sy_d} {k : Nat} (h : F' k = F k) : sy_ai F' k = sy_ai F k := by simp only [sy_ai, h]
theorem sy_i_of {F : Nat → sy_d} {k : Nat} {x : Int32} (h : F k = .inl (.int x)) : sy_i F k = x := by simp only [sy_i, h]
theorem sy_ai_of {F : Nat → sy_d} {k : Nat} {l : List Int32} (h : F k = .inr (.inl l)) : sy_ai F k = l := by simp only [sy_ai, h]
/-- a stronger end serves a weaker one -/
theorem jm_T_mono {Ls : Nat} {xs : Nat → Int32} {d : Nat} {M : jm_M} {As : List Value} {G : jm_h} {mc ms : Nat} {P1 P2 : Option Value → jm_h → Prop} (hT : jm_T Ls xs d M As G mc ms P1) (h : ∀ v G1, P1 v G1 → P2 v G1) : jm_T Ls xs d M As G mc ms P2 := by
  intro l D h0 ex ka
  have h3 := hT l D h0 ex ka
  exact fun p e ha hc hk s m args below hf happ hP hK => by
    obtain ⟨n, o, a1, a2, a3, ⟨⟨w, G2, hp, hl, ho, hR⟩, hfr⟩, a5⟩ := h3 p e ha hc hk s m args below hf happ hP hK
    exact ⟨n, o, a1, a2, a3, ⟨⟨_, _, h _ _ hp, hl, ho, hR⟩, hfr⟩, a5⟩
def jm_H1s : sy_h := (.inl (jm_H1.map sy_lift), .inr ())
def jm_H2s : sy_h := (.inr (), .inl (jm_H2.map sy_lift))
theorem jm_H1s_ok (F : Nat → sy_d) (X2 : List jm_c) : sy_dh F [] X2 jm_H1s = (jm_H1, X2) := by simp only [jm_H1s, sy_dh, sy_dg, sy_lifts]
theorem jm_H2s_ok (F : Nat → sy_d) (X1 : List jm_c) : sy_dh F X1 [] jm_H2s = (X1, jm_H2) := by simp only [jm_H2s, sy_dh, sy_dg, sy_lifts]
def gx_L : List (Option sy_v) := [some (.inl (.ref 8)), some (.inr (.inl 0)), some (.inr (.inl 1))]
def gx_G : sy_h := (.inl [.inr (9, [.inl (.ref 9), .inl (.int 0), .inl (.int (-1)), .inl (.ref 10), .inl (.ref 20), .inl (.ref 30), .inl (.ref 38), .inl (.ref 41), .inl (.ref 42), .inl (.ref 46), .inl (.ref 56), .inl (.ref 66), .inl (.ref 68), .inl (.ref 69), .inl (.ref 70)]),
  .inl (1, 2000, .inl (.inl [])),
  .inr (5, [.inl (.int 0), .inl (.ref 11), .inl (.ref 12), .inl (.ref 13), .inl (.ref 14), .inl (.int 0), .inl (.ref 15), .inl (.ref 16), .inl (.ref 17), .inl (.int 10), .inl (.int 6), .inl (.int 0), .inl (.ref 18), .inl (.ref 19), .inl (.int 12)]),
  .inl (0, 7, .inl (.inl [])),
  .inl (0, 7, .inl (.inl [])),
  .inl (0, 7, .inl (.inl [])),
  .inl (0, 7, .inl (.inl [])),
  .inl (0, 4, .inl (.inl [])),
  .inl (0, 4, .inl (.inl [])),
  .inl (0, 4, .inl (.inl [])),
  .inl (0, 6, .inl (.inl [0, 2, 4, 6, 8, 10])),
  .inl (0, 512, .inl (.inl [0, (-14), 1, (-14), (-1), (-14), (-1), (-14), 0, (-14), 0, (-14)])),
  .inr (5, [.inl (.int 0), .inl (.ref 21), .inl (.ref 22), .inl (.ref 23), .inl (.ref 24), .inl (.int 0), .inl (.ref 25), .inl (.ref 26), .inl (.ref 27), .inl (.int 10), .inl (.int 6), .inl (.int 0), .inl (.ref 28), .inl (.ref 29), .inl (.int 12)]),
  .inl (0, 7, .inl (.inl [])),
  .inl (0, 7, .inl (.inl [])),
  .inl (0, 7, .inl (.inl [])),
  .inl (0, 7, .inl (.inl [])),
  .inl (0, 4, .inl (.inl [])),
  .inl (0, 4, .inl (.inl [])),
  .inl (0, 4, .inl (.inl [])),
  .inl (0, 6, .inl (.inl [0, 2, 4, 6, 8, 10])),
  .inl (0, 512, .inl (.inl [0, (-14), 1, (-14), (-1), (-14), (-1), (-14), 0, (-14), 0, (-14)])),
  .inr (4, [.inl (.ref 31), .inl (.ref 20), .inl (.int 0), .inl (.int 0), .inl (.int (-1)), .inl (.int 0), .inl (.int (-1)), .inl (.ref 36), .inl (.int 0), .inl (.ref 37)]),
  .inr (6, [.inl (.ref 32), .inl (.ref 33), .inl (.ref 34), .inl (.ref 35)]),
  .inl (0, 401, .inl (.inl [])),
  .inl (0, 401, .inl (.inl [])),
  .inl (3, 401, .inl (.inr [])),
  .inl (3, 23, .inl (.inr [3558512, 1494603, 459652, 263382265, 3217420, 12532058, 1001512747, 3499582, 125042, 5948362, 377761, 249, 399641, 107681, 361292, 164222, 168984, 1310653, 16308991, 276908612, 6465306496, 8800, 240023])),
  .inl (3, 11, .inl (.inr [])),
  .inl (0, 3, .inl (.inl [])),
  .inr (2, [.inl (.ref 39), .inl (.ref 40)]),
  .inl (0, 9, .inr (.inl 3)),
  .inl (0, 32, .inl (.inl [0])),
  .inr (0, [.inl (.ref 38)]),
  .inr (3, [.inl (.ref 43), .inl (.ref 44), .inl (.ref 45), .inl (.ref 38)]),
  .inl (0, 4, .inl (.inl [])),
  .inl (0, 4, .inl (.inl [])),
  .inl (3, 7, .inl (.inr [])),
  .inr (1, [.inl (.int 0), .inl (.int 0), .inl (.int 0), .inl (.ref 47), .inl (.ref 48), .inl (.ref 49), .inl (.ref 50), .inl (.ref 51), .inl (.ref 52), .inl (.ref 53), .inl (.ref 54), .inl (.ref 55)]),
  .inl (0, 7, .inl (.inl [0, 0, 0, 0, 0, 0, 0])),
  .inl (0, 7, .inl (.inl [0, 0, 0, 0, 0, 0, 0])),
  .inl (0, 7, .inl (.inl [(-2), (-2), (-2), (-2), (-2), (-2), (-2)])),
  .inl (0, 7, .inl (.inl [0, 0, 0, 0, 0, 0, 0])),
  .inl (0, 7, .inl (.inl [0, 0, 0, 0, 0, 0, 0])),
  .inl (0, 7, .inl (.inl [0, 0, 0, 0, 0, 0, 0])),
  .inl (0, 7, .inl (.inl [0, 0, 0, 0, 0, 0, 0])),
  .inl (0, 4, .inl (.inl [0, 0, 0, 0])),
  .inl (0, 4, .inl (.inl [0, 0, 0, 0])),
  .inr (1, [.inr (.inl 2), .inl (.int 0), .inl (.int 0), .inl (.ref 57), .inl (.ref 58), .inl (.ref 59), .inl (.ref 60), .inl (.ref 61), .inl (.ref 62), .inl (.ref 63), .inl (.ref 64), .inl (.ref 65)]),
  .inl (0, 7, .inl (.inl [0, 0, 0, 0, 0, 0, 0])),
  .inl (0, 7, .inl (.inl [0, 0, 0, 0, 0, 0, 0])),
  .inl (0, 7, .inl (.inl [(-2), (-2), (-2), (-2), (-2), (-2), (-2)])),
  .inl (0, 7, .inl (.inl [0, 0, 0, 0, 0, 0, 0])),
  .inl (0, 7, .inl (.inl [0, 0, 0, 0, 0, 0, 0])),
  .inl (0, 7, .inl (.inl [0, 0, 0, 0, 0, 0, 0])),
  .inl (0, 7, .inl (.inl [0, 0, 0, 0, 0, 0, 0])),
  .inl (0, 4, .inl (.inl [0, 0, 0, 0])),
  .inl (0, 4, .inl (.inl [0, 0, 0, 0])),
  .inr (8, [.inl (.ref 67), .inl (.int 0), .inl (.int 0)]),
  .inl (0, 2400, .inl (.inl [])),
  .inl (0, 180, .inl (.inl [0, 0, 0, 0, 0, 0, 0, 0, 0, 0, 0, 0, 0, 0, 0, 0, 0, 0, 0, 0, 0, 0, 0, 0, 0, 0, 0, 0, 0, 0, 0, 0, 0, 0, 0, 0, 0, 0, 0, 0, 0, 0, 0, 0, 0, 0, 0, 0, 0, 0, 0, 0, 0, 0, 0, 0, 0, 0, 0, 0, 0, 0, 0, 0, 0, 0, 0, 0, 0, 0, 0, 0, 0, 0, 0, 0, 0, 0, 0, 0, 0, 0, 0, 0, 0, 0, 0, 0, 0, 0, 0, 0, 0, 0, 0, 0, 0, 0, 0, 0, 0, 0, 0, 0, 0, 0, 0, 0, 0, 0, 0, 0, 0, 0, 0, 0, 0, 0, 0, 0, 0, 0, 0, 0, 0, 0, 0, 0, 0, 0, 0, 0, 0, 0, 0, 0, 0, 0, 0, 0, 0, 0, 0, 0, 0, 0, 0, 0, 0, 0, 0, 0, 0, 0, 0, 0, 0, 0, 0, 0, 0, 0, 0, 0, 0, 0, 0, 0, 0, 0, 0, 0, 0, 0, 0, 0, 0, 0, 0, 0])),
  .inl (2, 3, .inl (.inl [0, 0, 0])),
  .inr (7, [.inl (.ref 71), .inl (.ref 72), .inl (.int 0)]),
  .inl (0, 7, .inl (.inl [])),
  .inl (0, 7, .inl (.inl []))], .inr ())
theorem gx_loop {Ls : Nat} {xs : Nat → Int32} (X2 : List jm_c) : ∀ (m : Nat) (F : Nat → sy_d), (sy_i F 1).toInt + m = (sy_i F 0).toInt → 0 ≤ (sy_i F 1).toInt → (sy_i F 0).toInt ≤ 60 → ∀ {p : Program} {l : Launch} {e : Env} {s : State} {mm : MethodId} {args : Array Value} {below : List Frame} {meth : Method} {c : Code} {D : va_G} {h0 : Nat} {ex : Nat → Nat} {ka : Nat → ClassId} {H0 : jm_h} {Post : Option Value → jm_h → Prop}, jm_C p s mm args meth c D h0 ex ka Ls xs jm_M121 (jm_len H0) → (∀ F' : Nat → sy_d, Post none (sy_dh F' [] X2 gx_G)) → jm_W p l e (jm_room 11 0 0) s mm args below meth c D h0 ex ka jm_M121 (jm_len H0) (MQ below (jm_Qc D h0 ex ka 0 H0 Post) args s 0 0 (fun q => h0 ≤ q)) (13, sy_dL F gx_L, sy_dS F [], sy_dh F [] X2 gx_G, 0, 0) := by
  intro m
  induction m with
  | zero =>
    intro F h1 h2 h3 p l e s mm args below meth c D h0 ex ka H0 Post C0 hP
    refine sy_fin_ex (nv := 4) (n := 64) (d := 10) (O := [true]) (v := none) (G := gx_G) (u := [.inl (.inr (.inl 0)), .inl (.inr (.inl 1)), .inl (.inr (.inl 2)), .inr (.inr (.inl 3))]) (T := []) (P := [(4, .inr (.inl 0), .inr (.inl 1))]) jm_ok121 (by decide +kernel) (by decide +kernel) F [] X2 (fun F' hF hs => ?_) C0 (fun F' hF hs => hP _)
    refine List.forall_mem_cons.mpr ⟨?_, fun _ h => absurd h List.not_mem_nil⟩
    show sy_i F' 0 ≤ sy_i F' 1
    rw [sy_i_eq (hF 0 (by decide)), sy_i_eq (hF 1 (by decide))]
    exact zi_le (by omega)
  | succ m ih =>
    intro F h1 h2 h3 p l e s mm args below meth c D h0 ex ka H0 Post C0 hP
    refine sy_at_ex (nv := 4) (sp := [13]) (sm := []) (n := 362) (d := 10) (f := true) (O := [false]) (pc := 13) (L := gx_L) (S := []) (G := gx_G) (u := [.inl (.inr (.inl 0)), .inl (.inr (.inl 8)), .inl (.inr (.inl 7)), .inr (.inr (.inl 6))]) (T := [(40, [.inl (.int 2), .inr (.inl 2)], [.inr (.inl 3)]), (40, [.inl (.int 8), .inl (.int 0)], [.inr (.inl 4)]), (40, [.inl (.int 3), .inl (.int 0)], [.inr (.inl 5)]), (0, [.inr (.inl 2), .inl (.int 1)], []), (0, [.inr (.inl 1), .inl (.int 1)], [])]) (P := [(5, .inr (.inl 0), .inr (.inl 1))]) jm_ok121 (by decide +kernel) (by decide +kernel) F [] X2 (fun F' hF hs => ?_) C0 (Nat.le_refl _) (Nat.le_refl _) (fun F' hF hs => ?_)
    · refine List.forall_mem_cons.mpr ⟨?_, fun _ h => absurd h List.not_mem_nil⟩
      show ¬ sy_i F' 0 ≤ sy_i F' 1
      rw [sy_i_eq (hF 0 (by decide)), sy_i_eq (hF 1 (by decide))]
      exact zi_nle (by omega)
    · have e8 : F' 8 = .inl (.int (sy_i F' 1 + 1)) := hs 4 _ rfl
      have k1 : sy_i (sy_cm F' [.inl (.inr (.inl 0)), .inl (.inr (.inl 8)), .inl (.inr (.inl 7)), .inr (.inr (.inl 6))]) 1 = sy_i F 1 + 1 := by
        rw [← sy_i_eq (hF 1 (by decide))]
        show sy_i F' 8 = _
        exact sy_i_of e8
      have k0 : sy_i (sy_cm F' [.inl (.inr (.inl 0)), .inl (.inr (.inl 8)), .inl (.inr (.inl 7)), .inr (.inr (.inl 6))]) 0 = sy_i F 0 := (sy_i_eq (hF 0 (by decide)) : sy_i F' 0 = sy_i F 0)
      refine ih _ ?_ ?_ ?_ C0 hP
      · rw [k1, k0, zi_inc h2 (by omega)]; omega
      · rw [k1, zi_inc h2 (by omega)]; omega
      · rw [k0]; exact h3
theorem gx_T {Ls : Nat} {xs : Nat → Int32} (X2 : List jm_c) (a0 : Int32) (h0 : ¬ a0 < 0) (h1 : ¬ 60 < a0) : jm_T Ls xs 11 jm_M121 [.ref 8, .int a0] (jm_H1, X2) 0 0 (fun v G => v = none ∧ ∃ F' : Nat → sy_d, G = sy_dh F' [] X2 gx_G) := by
  have b0 : 0 ≤ a0.toInt := by
    have := mt Int32.lt_iff_toInt_lt.mpr h0
    rw [zc_0] at this
    omega
  have b1 : a0.toInt ≤ 60 := by
    have := mt Int32.lt_iff_toInt_lt.mpr h1
    rw [zc_60] at this
    omega
  refine jm_T_intro jm_ok121 (Nat.le_of_ble_eq_true rfl) (fun p l e s m args below meth c D h0 ex ka C1 => ?_)
  have key := sy_at_ex (nv := 1) (sp := [13]) (sm := []) (n := 152) (d := 10) (f := true) (pc0 := 0) (L0 := sy_ent 3 [.inl (.ref 8), .inr (.inl 0)]) (S0 := []) (G0 := jm_H1s) (O := []) (pc := 13) (L := gx_L) (S := []) (G := gx_G) (u := [.inl (.inr (.inl 0)), .inl (.inl (.int 0)), .inl (.inl (.int 0)), .inr (.inl (.inl [0, 0, 0, 0, 0, 0, 0, 0, 0]))]) (T := []) (P := []) jm_ok121 (by decide +kernel) (by decide +kernel) (sy_int [a0]) [] X2 (fun F' hF hs => fun _ h => absurd h List.not_mem_nil) (l := l) (e := e) (below := below) (Q := MQ below (jm_Qc D h0 ex ka 0 (jm_H1, X2) (fun v G => v = none ∧ ∃ F' : Nat → sy_d, G = sy_dh F' [] X2 gx_G)) args s 0 0 (fun q => h0 ≤ q)) (R := jm_room 11 0 0) C1 (Nat.le_refl _) (Nat.le_refl _) (fun F' hF hs => ?_)
  · rw [jm_H1s_ok] at key
    exact key
  · have k0 : sy_i (sy_cm F' [.inl (.inr (.inl 0)), .inl (.inl (.int 0)), .inl (.inl (.int 0)), .inr (.inl (.inl [0, 0, 0, 0, 0, 0, 0, 0, 0]))]) 0 = a0 := (sy_i_eq (hF 0 (by decide)) : sy_i F' 0 = _)
    have k1 : sy_i (sy_cm F' [.inl (.inr (.inl 0)), .inl (.inl (.int 0)), .inl (.inl (.int 0)), .inr (.inl (.inl [0, 0, 0, 0, 0, 0, 0, 0, 0]))]) 1 = 0 := rfl
    have e0 : ((a0.toInt.toNat : Nat) : Int) = a0.toInt := Int.toNat_of_nonneg b0
    refine gx_loop X2 a0.toInt.toNat _ ?_ ?_ ?_ C1 (fun F' => ⟨rfl, F', rfl⟩)
    · rw [k0, k1, zc_0, e0]; omega
    · rw [k1, zc_0]; omega
    · rw [k0]; exact b1
theorem mux_T {Ls : Nat} {xs : Nat → Int32} (X2 : List jm_c) (a0 a1 : Int32) (h0 : ¬ a0 < 0) (h1 : ¬ 60 < a0) (h2 : ¬ a1 < 0) (h3 : ¬ 3 < a1) : jm_T Ls xs 20 jm_M104 [.ref 8, .int a0, .int a1] (jm_H1, X2) 0 0 (fun v G => v = some (.int 0) ∧ G.2 = X2) := by
  refine jm_T_intro jm_ok104 (Nat.le_of_ble_eq_true rfl) (fun p l e s m args below meth c D hh ex ka C1 => ?_)
  have key := sy_at_ex (nv := 2) (sp := []) (sm := [121]) (n := 91) (d := 19) (f := true) (pc0 := 0) (L0 := sy_ent 3 [.inl (.ref 8), .inr (.inl 0), .inr (.inl 1)]) (S0 := []) (G0 := jm_H1s) (O := [false, false, false, false]) (pc := 23) (L := [some (.inl (.ref 8)), some (.inr (.inl 0)), some (.inr (.inl 1))]) (S := [.inr (.inl 0), .inl (.ref 8)]) (G := jm_H1s) (u := [.inl (.inr (.inl 0)), .inl (.inr (.inl 1))]) (T := []) (P := [(3, .inr (.inl 0), .inl (.int 0)), (3, .inl (.int 60), .inr (.inl 0)), (3, .inr (.inl 1), .inl (.int 0)), (3, .inl (.int 3), .inr (.inl 1))]) jm_ok104 (by decide +kernel) (by decide +kernel) (sy_int [a0, a1]) [] X2 (fun F' hF hs => ?_) (l := l) (e := e) (below := below) (Q := MQ below (jm_Qc D hh ex ka 0 (jm_H1, X2) (fun v G => v = some (.int 0) ∧ G.2 = X2)) args s 0 0 (fun q => hh ≤ q)) (R := jm_room 20 0 0) C1 (Nat.le_refl _) (Nat.le_refl _) (fun F' hF hs => ?_)
  · rw [jm_H1s_ok] at key
    exact key
  ·
    refine List.forall_mem_cons.mpr ⟨?_, List.forall_mem_cons.mpr ⟨?_, List.forall_mem_cons.mpr ⟨?_, List.forall_mem_cons.mpr ⟨?_, fun _ h => absurd h List.not_mem_nil⟩⟩⟩⟩
    · show ¬ sy_i F' 0 < 0
      rw [sy_i_eq (hF 0 (by decide))]; exact h0
    · show ¬ (60 : Int32) < sy_i F' 0
      rw [sy_i_eq (hF 0 (by decide))]; exact h1
    · show ¬ sy_i F' 1 < 0
      rw [sy_i_eq (hF 1 (by decide))]; exact h2
    · show ¬ (3 : Int32) < sy_i F' 1
      rw [sy_i_eq (hF 1 (by decide))]; exact h3
  · have hF0 : sy_i F' 0 = a0 := sy_i_eq (hF 0 (by decide))
    have hF1 : sy_i F' 1 = a1 := sy_i_eq (hF 1 (by decide))
    have hT : jm_T Ls xs 11 jm_M121 (([.inl (.ref 8), .inr (.inl 0)] : List sy_v).map (sy_dv (sy_cm F' [.inl (.inr (.inl 0)), .inl (.inr (.inl 1))]))) (sy_dh (sy_cm F' [.inl (.inr (.inl 0)), .inl (.inr (.inl 1))]) [] X2 jm_H1s) 0 0 (fun v G => v = none ∧ ∃ F' : Nat → sy_d, G = sy_dh F' [] X2 gx_G) := by
      rw [jm_H1s_ok]
      have := gx_T (Ls := Ls) (xs := xs) X2 a0 h0 h1
      rw [← hF0] at this
      exact this
    refine sy_call (nv := 0) (d := 0) (rest := []) jm_ok104 (i := (.invokevirtual 244, 3, 121, 0, 942)) (by decide +kernel) rfl _ [] X2 C1 hT (Nat.le_of_ble_eq_true rfl) (Nat.le_of_ble_eq_true rfl) (fun v G1 hP hl => ?_)
    obtain ⟨rfl, F2, rfl⟩ := hP
    have fin := sy_fin_ex (nv := 6) (n := 125) (d := 19) (pc0 := 26) (L0 := [some (.inl (.ref 8)), some (.inr (.inl 4)), some (.inr (.inl 5))]) (S0 := []) (G0 := gx_G) (O := []) (v := some (.inl (.int 0))) (G := gx_G) (u := [.inl (.inr (.inl 0)), .inl (.inr (.inl 1)), .inl (.inr (.inl 2)), .inr (.inr (.inl 3)), .inl (.inr (.inl 4)), .inl (.inr (.inl 5))]) (T := []) (P := []) jm_ok104 (by decide +kernel) (by decide +kernel) (fun k => if k < 4 then F2 k else if k = 4 then .inl (.int a0) else .inl (.int a1)) [] X2 (fun F' hF hs => fun _ h => absurd h List.not_mem_nil) (l := l) (e := e) (below := below) (H0 := (jm_H1, X2)) (Post := fun v G => v = some (.int 0) ∧ G.2 = X2) C1 (fun F' hF hs => ⟨rfl, rfl⟩)
    have eG : sy_dh (fun k => if k < 4 then F2 k else if k = 4 then .inl (.int a0) else .inl (.int a1)) [] X2 gx_G = sy_dh F2 [] X2 gx_G := (sy_sw_ok (L := []) (S := []) (b := 4) (by decide +kernel) (fun k hk => if_pos hk)).2.2
    rw [eG] at fin
    have eL : sy_dL (sy_cm F' [.inl (.inr (.inl 0)), .inl (.inr (.inl 1))]) [some (.inl (.ref 8)), some (.inr (.inl 0)), some (.inr (.inl 1))] = sy_dL (fun k => if k < 4 then F2 k else if k = 4 then .inl (.int a0) else .inl (.int a1)) [some (.inl (.ref 8)), some (.inr (.inl 4)), some (.inr (.inl 5))] := by
      show [some (Value.ref 8), some (.int (sy_i F' 0)), some (.int (sy_i F' 1))] = [some (Value.ref 8), some (.int a0), some (.int a1)]
      rw [hF0, hF1]
    show jm_W p l e _ s m args below meth c D hh ex ka jm_M104 _ _ (23 + 3, sy_dL (sy_cm F' [.inl (.inr (.inl 0)), .inl (.inr (.inl 1))]) [some (.inl (.ref 8)), some (.inr (.inl 0)), some (.inr (.inl 1))], [], _, 0, 0)
    rw [eL]
    exact fin
def hx_G : sy_h := (.inl [.inr (9, [.inl (.ref 9), .inl (.int 0), .inl (.int (-1)), .inl (.ref 10), .inl (.ref 20), .inl (.ref 30), .inl (.ref 38), .inl (.ref 41), .inl (.ref 42), .inl (.ref 46), .inl (.ref 56), .inl (.ref 66), .inl (.ref 68), .inl (.ref 69), .inl (.ref 70)]),
  .inl (1, 2000, .inl (.inl [])),
  .inr (5, [.inl (.int 0), .inl (.ref 11), .inl (.ref 12), .inl (.ref 13), .inl (.ref 14), .inl (.int 0), .inl (.ref 15), .inl (.ref 16), .inl (.ref 17), .inl (.int 10), .inl (.int 6), .inl (.int 0), .inl (.ref 18), .inl (.ref 19), .inl (.int 12)]),
  .inl (0, 7, .inl (.inl [])),
  .inl (0, 7, .inl (.inl [])),
  .inl (0, 7, .inl (.inl [])),
  .inl (0, 7, .inl (.inl [])),
  .inl (0, 4, .inl (.inl [])),
  .inl (0, 4, .inl (.inl [])),
  .inl (0, 4, .inl (.inl [])),
  .inl (0, 6, .inl (.inl [0, 2, 4, 6, 8, 10])),
  .inl (0, 512, .inl (.inl [0, (-14), 1, (-14), (-1), (-14), (-1), (-14), 0, (-14), 0, (-14)])),
  .inr (5, [.inl (.int 0), .inl (.ref 21), .inl (.ref 22), .inl (.ref 23), .inl (.ref 24), .inl (.int 0), .inl (.ref 25), .inl (.ref 26), .inl (.ref 27), .inl (.int 10), .inl (.int 6), .inl (.int 0), .inl (.ref 28), .inl (.ref 29), .inl (.int 12)]),
  .inl (0, 7, .inl (.inl [])),
  .inl (0, 7, .inl (.inl [])),
  .inl (0, 7, .inl (.inl [])),
  .inl (0, 7, .inl (.inl [])),
  .inl (0, 4, .inl (.inl [])),
  .inl (0, 4, .inl (.inl [])),
  .inl (0, 4, .inl (.inl [])),
  .inl (0, 6, .inl (.inl [0, 2, 4, 6, 8, 10])),
  .inl (0, 512, .inl (.inl [0, (-14), 1, (-14), (-1), (-14), (-1), (-14), 0, (-14), 0, (-14)])),
  .inr (4, [.inl (.ref 31), .inl (.ref 20), .inl (.int 0), .inl (.int 0), .inl (.int (-1)), .inl (.int 0), .inl (.int (-1)), .inl (.ref 36), .inl (.int 0), .inl (.ref 37)]),
  .inr (6, [.inl (.ref 32), .inl (.ref 33), .inl (.ref 34), .inl (.ref 35)]),
  .inl (0, 401, .inl (.inl [])),
  .inl (0, 401, .inl (.inl [])),
  .inl (3, 401, .inl (.inr [])),
  .inl (3, 23, .inl (.inr [3558512, 1494603, 459652, 263382265, 3217420, 12532058, 1001512747, 3499582, 125042, 5948362, 377761, 249, 399641, 107681, 361292, 164222, 168984, 1310653, 16308991, 276908612, 6465306496, 8800, 240023])),
  .inl (3, 11, .inl (.inr [])),
  .inl (0, 3, .inl (.inl [])),
  .inr (2, [.inl (.ref 39), .inl (.ref 40)]),
  .inl (0, 9, .inr (.inl 3)),
  .inl (0, 32, .inl (.inl [0])),
  .inr (0, [.inl (.ref 38)]),
  .inr (3, [.inl (.ref 43), .inl (.ref 44), .inl (.ref 45), .inl (.ref 38)]),
  .inl (0, 4, .inl (.inl [])),
  .inl (0, 4, .inl (.inl [])),
  .inl (3, 7, .inl (.inr [])),
  .inr (1, [.inr (.inl 2), .inl (.int 0), .inl (.int 0), .inl (.ref 47), .inl (.ref 48), .inl (.ref 49), .inl (.ref 50), .inl (.ref 51), .inl (.ref 52), .inl (.ref 53), .inl (.ref 54), .inl (.ref 55)]),
  .inl (0, 7, .inl (.inl [0, 0, 0, 0, 0, 0, 0])),
  .inl (0, 7, .inl (.inl [0, 0, 0, 0, 0, 0, 0])),
  .inl (0, 7, .inl (.inl [(-2), (-2), (-2), (-2), (-2), (-2), (-2)])),
  .inl (0, 7, .inl (.inl [0, 0, 0, 0, 0, 0, 0])),
  .inl (0, 7, .inl (.inl [0, 0, 0, 0, 0, 0, 0])),
  .inl (0, 7, .inl (.inl [0, 0, 0, 0, 0, 0, 0])),
  .inl (0, 7, .inl (.inl [0, 0, 0, 0, 0, 0, 0])),
  .inl (0, 4, .inl (.inl [0, 0, 0, 0])),
  .inl (0, 4, .inl (.inl [0, 0, 0, 0])),
  .inr (1, [.inl (.int 0), .inl (.int 0), .inl (.int 0), .inl (.ref 57), .inl (.ref 58), .inl (.ref 59), .inl (.ref 60), .inl (.ref 61), .inl (.ref 62), .inl (.ref 63), .inl (.ref 64), .inl (.ref 65)]),
  .inl (0, 7, .inl (.inl [])),
  .inl (0, 7, .inl (.inl [])),
  .inl (0, 7, .inl (.inl [])),
  .inl (0, 7, .inl (.inl [])),
  .inl (0, 7, .inl (.inl [])),
  .inl (0, 7, .inl (.inl [])),
  .inl (0, 7, .inl (.inl [])),
  .inl (0, 4, .inl (.inl [])),
  .inl (0, 4, .inl (.inl [])),
  .inr (8, [.inl (.ref 67), .inl (.int 0), .inl (.int 1)]),
  .inl (0, 2400, .inl (.inl [0, 0, 0, 0, 0, (-2), 0, 0, 0, 0, 0, 0, (-2), 0, 0, 0, 0, 0, 0, (-2), 0, 0, 0, 0, 0, 0, (-2), 0, 0, 0, 0, 0, 0, (-2), 0, 0, 0, 0, 0, 0, (-2), 0, 0, 0, 0, 0, 0, (-2), 0, 0, 0, 0, 0, 0, 0, 0, 0, 0, 0, 0])),
  .inl (0, 180, .inl (.inl [0, 0, 0, 0, 0, 0, 0, 0, 0, 0, 0, 0, 0, 0, 0, 0, 0, 0, 0, 0, 0, 0, 0, 0, 0, 0, 0, 0, 0, 0, 0, 0, 0, 0, 0, 0, 0, 0, 0, 0, 0, 0, 0, 0, 0, 0, 0, 0, 0, 0, 0, 0, 0, 0, 0, 0, 0, 0, 0, 0, 0, 0, 0, 0, 0, 0, 0, 0, 0, 0, 0, 0, 0, 0, 0, 0, 0, 0, 0, 0, 0, 0, 0, 0, 0, 0, 0, 0, 0, 0, 0, 0, 0, 0, 0, 0, 0, 0, 0, 0, 0, 0, 0, 0, 0, 0, 0, 0, 0, 0, 0, 0, 0, 0, 0, 0, 0, 0, 0, 0, 0, 0, 0, 0, 0, 0, 0, 0, 0, 0, 0, 0, 0, 0, 0, 0, 0, 0, 0, 0, 0, 0, 0, 0, 0, 0, 0, 0, 0, 0, 0, 0, 0, 0, 0, 0, 0, 0, 0, 0, 0, 0, 0, 0, 0, 0, 0, 0, 0, 0, 0, 0, 0, 0, 0, 0, 0, 0, 0, 0])),
  .inl (2, 3, .inl (.inl [0, 0, 0])),
  .inr (7, [.inl (.ref 71), .inl (.ref 72), .inl (.int 0)]),
  .inl (0, 7, .inl (.inl [])),
  .inl (0, 7, .inl (.inl []))], .inr ())
theorem hx_loop {Ls : Nat} {xs : Nat → Int32} (X2 : List jm_c) (N : Int32) : ∀ (m : Nat) (F : Nat → sy_d), sy_i F 0 = N → sy_i F 2 = sy_i F 1 → (sy_i F 1).toInt + m = (sy_i F 0).toInt → 0 ≤ (sy_i F 1).toInt → (sy_i F 0).toInt ≤ 60 → ∀ {p : Program} {l : Launch} {e : Env} {s : State} {mm : MethodId} {args : Array Value} {below : List Frame} {meth : Method} {c : Code} {D : va_G} {h0 : Nat} {ex : Nat → Nat} {ka : Nat → ClassId} {H0 : jm_h} {Post : Option Value → jm_h → Prop}, jm_C p s mm args meth c D h0 ex ka Ls xs jm_M91 (jm_len H0) → (∀ G : jm_h, G.2 = X2 → Post (some (.int N)) G) → jm_W p l e (jm_room 20 0 0) s mm args below meth c D h0 ex ka jm_M91 (jm_len H0) (MQ below (jm_Qc D h0 ex ka 0 H0 Post) args s 0 0 (fun q => h0 ≤ q)) (29, sy_dL F gx_L, sy_dS F [], sy_dh F [] X2 hx_G, 0, 0) := by
  intro m
  induction m with
  | zero =>
    intro F hN hh h1 h2 h3 p l e s mm args below meth c D h0 ex ka H0 Post C0 hP
    refine sy_fin_ex (nv := 4) (n := 67) (d := 19) (O := [true]) (v := some (.inr (.inl 2))) (G := hx_G) (u := [.inl (.inr (.inl 0)), .inl (.inr (.inl 1)), .inl (.inr (.inl 2)), .inr (.inr (.inl 3))]) (T := []) (P := [(4, .inr (.inl 0), .inr (.inl 1))]) jm_ok91 (by decide +kernel) (by decide +kernel) F [] X2 (fun F' hF hs => ?_) C0 (fun F' hF hs => ?_)
    · refine List.forall_mem_cons.mpr ⟨?_, fun _ h => absurd h List.not_mem_nil⟩
      show sy_i F' 0 ≤ sy_i F' 1
      rw [sy_i_eq (hF 0 (by decide)), sy_i_eq (hF 1 (by decide))]
      exact zi_le (by omega)
    · have e2 : sy_i F' 2 = N := by
        rw [sy_i_eq (hF 2 (by decide)), hh, ← hN]
        exact zi_eq (by omega)
      have h4 := hP (sy_dh (sy_cm F' [.inl (.inr (.inl 0)), .inl (.inr (.inl 1)), .inl (.inr (.inl 2)), .inr (.inr (.inl 3))]) [] X2 hx_G) rfl
      rw [← e2] at h4
      exact h4
  | succ m ih =>
    intro F hN hh h1 h2 h3 p l e s mm args below meth c D h0 ex ka H0 Post C0 hP
    refine sy_at_ex (nv := 4) (sp := [29]) (sm := []) (n := 362) (d := 19) (f := true) (O := [false]) (pc := 29) (L := gx_L) (S := []) (G := hx_G) (u := [.inl (.inr (.inl 0)), .inl (.inr (.inl 8)), .inl (.inr (.inl 7)), .inr (.inr (.inl 6))]) (T := [(40, [.inl (.int 2), .inr (.inl 2)], [.inr (.inl 3)]), (40, [.inl (.int 8), .inl (.int 0)], [.inr (.inl 4)]), (40, [.inl (.int 3), .inl (.int 0)], [.inr (.inl 5)]), (0, [.inr (.inl 2), .inl (.int 1)], []), (0, [.inr (.inl 1), .inl (.int 1)], [])]) (P := [(5, .inr (.inl 0), .inr (.inl 1))]) jm_ok91 (by decide +kernel) (by decide +kernel) F [] X2 (fun F' hF hs => ?_) C0 (Nat.le_refl _) (Nat.le_refl _) (fun F' hF hs => ?_)
    · refine List.forall_mem_cons.mpr ⟨?_, fun _ h => absurd h List.not_mem_nil⟩
      show ¬ sy_i F' 0 ≤ sy_i F' 1
      rw [sy_i_eq (hF 0 (by decide)), sy_i_eq (hF 1 (by decide))]
      exact zi_nle (by omega)
    · have e8 : F' 8 = .inl (.int (sy_i F' 1 + 1)) := hs 4 _ rfl
      have e7 : F' 7 = .inl (.int (sy_i F' 2 + 1)) := hs 3 _ rfl
      have k1 : sy_i (sy_cm F' [.inl (.inr (.inl 0)), .inl (.inr (.inl 8)), .inl (.inr (.inl 7)), .inr (.inr (.inl 6))]) 1 = sy_i F 1 + 1 := by
        rw [← sy_i_eq (hF 1 (by decide))]
        show sy_i F' 8 = _
        exact sy_i_of e8
      have k2 : sy_i (sy_cm F' [.inl (.inr (.inl 0)), .inl (.inr (.inl 8)), .inl (.inr (.inl 7)), .inr (.inr (.inl 6))]) 2 = sy_i F 2 + 1 := by
        rw [← sy_i_eq (hF 2 (by decide))]
        show sy_i F' 7 = _
        exact sy_i_of e7
      have k0 : sy_i (sy_cm F' [.inl (.inr (.inl 0)), .inl (.inr (.inl 8)), .inl (.inr (.inl 7)), .inr (.inr (.inl 6))]) 0 = sy_i F 0 := (sy_i_eq (hF 0 (by decide)) : sy_i F' 0 = sy_i F 0)
      refine ih _ ?_ ?_ ?_ ?_ ?_ C0 hP
      · rw [k0]; exact hN
      · rw [k1, k2, hh]
      · rw [k1, k0, zi_inc h2 (by omega)]; omega
      · rw [k1, zi_inc h2 (by omega)]; omega
      · rw [k0]; exact h3
theorem hx_T {Ls : Nat} {xs : Nat → Int32} (X2 : List jm_c) (a0 : Int32) (h0 : 0 < a0) (h1 : ¬ 48 < a0) : jm_T Ls xs 20 jm_M91 [.ref 8, .int a0] (jm_H1, X2) 0 0 (fun v G => v = some (.int a0) ∧ G.2 = X2) := by
  have b0 : 0 < a0.toInt := by
    have := Int32.lt_iff_toInt_lt.mp h0
    rw [zc_0] at this
    omega
  have b1 : a0.toInt ≤ 48 := by
    have := mt Int32.lt_iff_toInt_lt.mpr h1
    rw [zc_48] at this
    omega
  refine jm_T_intro jm_ok91 (Nat.le_of_ble_eq_true rfl) (fun p l e s m args below meth c D hh ex ka C1 => ?_)
  have key := sy_at_ex (nv := 1) (sp := [29]) (sm := []) (n := 629) (d := 19) (f := true) (pc0 := 0) (L0 := sy_ent 3 [.inl (.ref 8), .inr (.inl 0)]) (S0 := []) (G0 := jm_H1s) (O := [false, false, false]) (pc := 29) (L := gx_L) (S := []) (G := hx_G) (u := [.inl (.inr (.inl 0)), .inl (.inl (.int 0)), .inl (.inl (.int 0)), .inr (.inl (.inl [0, 0, 0, 0, 0, 0, 0, 0, 0]))]) (T := []) (P := [(3, .inr (.inl 0), .inl (.int 0)), (3, .inl (.int 48), .inr (.inl 0)), (5, .inr (.inl 0), .inl (.int 0)), (1, .inl (.int 40), .inl (.int 0))]) jm_ok91 (by decide +kernel) (by decide +kernel) (sy_int [a0]) [] X2 (fun F' hF hs => ?_) (l := l) (e := e) (below := below) (Q := MQ below (jm_Qc D hh ex ka 0 (jm_H1, X2) (fun v G => v = some (.int a0) ∧ G.2 = X2)) args s 0 0 (fun q => hh ≤ q)) (R := jm_room 20 0 0) C1 (Nat.le_refl _) (Nat.le_refl _) (fun F' hF hs => ?_)
  · rw [jm_H1s_ok] at key
    exact key
  · have hF0 : sy_i F' 0 = a0 := sy_i_eq (hF 0 (by decide))
    refine List.forall_mem_cons.mpr ⟨?_, List.forall_mem_cons.mpr ⟨?_, List.forall_mem_cons.mpr ⟨?_, List.forall_mem_cons.mpr ⟨?_, fun _ h => absurd h List.not_mem_nil⟩⟩⟩⟩
    · show ¬ sy_i F' 0 < 0
      rw [hF0]; exact zi_nlt (by rw [zc_0]; omega)
    · show ¬ (48 : Int32) < sy_i F' 0
      rw [hF0]; exact h1
    · show ¬ sy_i F' 0 ≤ 0
      rw [hF0]; exact zi_nle (by rw [zc_0]; omega)
    · show ¬ (40 : Int32) = 0
      decide
  · have k0 : sy_i (sy_cm F' [.inl (.inr (.inl 0)), .inl (.inl (.int 0)), .inl (.inl (.int 0)), .inr (.inl (.inl [0, 0, 0, 0, 0, 0, 0, 0, 0]))]) 0 = a0 := (sy_i_eq (hF 0 (by decide)) : sy_i F' 0 = _)
    have k1 : sy_i (sy_cm F' [.inl (.inr (.inl 0)), .inl (.inl (.int 0)), .inl (.inl (.int 0)), .inr (.inl (.inl [0, 0, 0, 0, 0, 0, 0, 0, 0]))]) 1 = 0 := rfl
    have e0 : ((a0.toInt.toNat : Nat) : Int) = a0.toInt := Int.toNat_of_nonneg (by omega)
    refine hx_loop X2 a0 a0.toInt.toNat _ k0 rfl ?_ ?_ ?_ C1 (fun G hG => ⟨rfl, hG⟩)
    · rw [k0, k1, zc_0, e0]; omega
    · rw [k1, zc_0]; omega
    · rw [k0]; omega
def gm_L : List (Option sy_v) := [some (.inl (.ref 1000)), some (.inr (.inl 0)), some (.inr (.inl 1))]
def gm_G : sy_h := (.inr (), .inl [.inr (10, [.inl (.int 0), .inl (.ref 1001), .inl (.int 0), .inl (.ref 1002), .inl (.int 0), .inl (.ref 1003), .inl (.ref 1004), .inl (.ref 1005), .inl (.ref 1006), .inl (.ref 1007), .inl (.int 0), .inl (.int 0), .inl (.int 0), .inl (.int 0), .inl (.int 0), .inl (.int 0), .inl (.int 0), .inl (.int (-1)), .inl (.int 0), .inl (.int 0), .inl (.int 0), .inl (.ref 1008), .inl (.ref 1009), .inl (.ref 1010), .inl (.ref 1011), .inl (.ref 1012), .inl (.ref 1013), .inl (.ref 1014), .inl (.ref 1015), .inl (.ref 1016), .inl (.ref 1017), .inl (.ref 1018), .inl (.ref 1019), .inl (.ref 1020), .inl (.ref 1021), .inl (.int 0), .inl (.ref 1022), .inl (.ref 1023), .inl (.ref 1024), .inl (.ref 1025), .inl (.ref 1026), .inl (.int 0), .inl (.ref 1027), .inl (.ref 1028), .inl (.ref 1029), .inl (.int 0), .inl (.ref 1030), .inl (.ref 1031), .inl (.int 0), .inl (.ref 1032), .inl (.ref 1033), .inl (.int 0), .inl (.ref 1034), .inl (.ref 1035), .inl (.ref 1036), .inl (.ref 1037), .inl (.int 0), .inl (.int 0), .inl (.ref 1038), .inl (.ref 1039), .inl (.ref 1040), .inl (.int 0), .inl (.ref 1041), .inl (.ref 1042), .inl (.ref 1043), .inl (.ref 1044), .inl (.int 0), .inl (.ref 1045), .inl (.ref 1046)]),
  .inl (1, 2000, .inl (.inl [])),
  .inl (1, 2000, .inl (.inl [])),
  .inl (0, 403, .inl (.inl [])),
  .inl (0, 403, .inl (.inl [])),
  .inl (0, 403, .inl (.inl [])),
  .inl (3, 403, .inl (.inr [])),
  .inl (3, 23, .inl (.inr [3558512, 1494603, 459652, 263382265, 3217420, 12532058, 1001512747, 3499582, 125042, 5948362, 377761, 249, 399641, 107681, 361292, 164222, 168984, 1310653, 16308991, 276908612, 6465306496, 8800, 240023])),
  .inl (3, 11, .inl (.inr [])),
  .inl (0, 2, .inl (.inl [0])),
  .inl (0, 14, .inl (.inl [])),
  .inl (0, 14, .inl (.inl [])),
  .inl (0, 14, .inl (.inl [])),
  .inl (0, 2, .inl (.inl [0])),
  .inl (0, 8, .inl (.inl [])),
  .inl (0, 8, .inl (.inl [])),
  .inl (0, 8, .inl (.inl [])),
  .inl (0, 2, .inl (.inl [10])),
  .inl (0, 2, .inl (.inl [6])),
  .inl (0, 2, .inl (.inl [0])),
  .inl (0, 12, .inl (.inl [0, 0, 0, 0, 0, 0])),
  .inl (0, 12, .inl (.inl [0, 0, 0, 0, 0, 0])),
  .inl (2, 260, .inl (.inl [])),
  .inl (0, 260, .inl (.inl [])),
  .inl (0, 260, .inl (.inl [])),
  .inl (0, 260, .inl (.inl [])),
  .inl (0, 260, .inl (.inl [])),
  .inl (0, 840, .inl (.inl [])),
  .inl (0, 840, .inl (.inl [])),
  .inl (0, 64, .inl (.inl [])),
  .inl (0, 9, .inr (.inl 2)),
  .inl (0, 400, .inl (.inl [])),
  .inl (0, 61, .inl (.inl [0, 0, 0, 0, 0, 0, 0, 0, 0, 0, 0, 0, 0, 0, 0, 0, 0, 0, 0, 0, 0, (-2), (-2), (-2), (-2), (-2), (-2), (-2), 0, 0, 0, 0, 0, 0, 0, 0, 0, 0, 0, 0, 0, 0, 0, 0, 0, 0, 0, 0, 0, 0, 0, 0, 0, 0, 0, 0, 0, 0, 0, 0, 0])),
  .inl (0, 61, .inr (.inl 3)),
  .inl (2, 7, .inl (.inl [])),
  .inl (0, 7, .inl (.inl [])),
  .inl (0, 7, .inl (.inl [])),
  .inl (0, 7, .inl (.inl [])),
  .inl (0, 2440, .inl (.inl [])),
  .inl (0, 4, .inl (.inl [])),
  .inl (0, 4, .inl (.inl [])),
  .inl (0, 7, .inl (.inl [])),
  .inl (0, 7, .inl (.inl [])),
  .inl (0, 7, .inl (.inl [])),
  .inl (0, 49, .inl (.inl [])),
  .inl (2, 3, .inl (.inl [])),
  .inl (0, 183, .inl (.inl []))])
theorem gm_loop {Ls : Nat} {xs : Nat → Int32} (X1 : List jm_c) (N : Int32) : ∀ (m : Nat) (F : Nat → sy_d), sy_i F 0 = N → (sy_ai F 3).getD 57 0 = sy_i F 1 → (sy_i F 1).toInt + m = (sy_i F 0).toInt → 0 ≤ (sy_i F 1).toInt → (sy_i F 0).toInt ≤ 60 → ∀ {p : Program} {l : Launch} {e : Env} {s : State} {mm : MethodId} {args : Array Value} {below : List Frame} {meth : Method} {c : Code} {D : va_G} {h0 : Nat} {ex : Nat → Nat} {ka : Nat → ClassId} {H0 : jm_h} {Post : Option Value → jm_h → Prop}, jm_C p s mm args meth c D h0 ex ka Ls xs jm_M193 (jm_len H0) → (∀ F' : Nat → sy_d, (sy_ai F' 3).getD 57 0 = N → Post none (sy_dh F' X1 [] gm_G)) → jm_W p l e (jm_room 11 0 0) s mm args below meth c D h0 ex ka jm_M193 (jm_len H0) (MQ below (jm_Qc D h0 ex ka 0 H0 Post) args s 0 0 (fun q => h0 ≤ q)) (2, sy_dL F gm_L, sy_dS F [], sy_dh F X1 [] gm_G, 0, 0) := by
  intro m
  induction m with
  | zero =>
    intro F hN hh h1 h2 h3 p l e s mm args below meth c D h0 ex ka H0 Post C0 hP
    refine sy_fin_ex (nv := 4) (n := 64) (d := 10) (O := [true]) (v := none) (G := gm_G) (u := [.inl (.inr (.inl 0)), .inl (.inr (.inl 1)), .inr (.inr (.inl 2)), .inr (.inr (.inl 3))]) (T := []) (P := [(4, .inr (.inl 0), .inr (.inl 1))]) jm_ok193 (by decide +kernel) (by decide +kernel) F X1 [] (fun F' hF hs => ?_) C0 (fun F' hF hs => hP _ ?_)
    · refine List.forall_mem_cons.mpr ⟨?_, fun _ h => absurd h List.not_mem_nil⟩
      show sy_i F' 0 ≤ sy_i F' 1
      rw [sy_i_eq (hF 0 (by decide)), sy_i_eq (hF 1 (by decide))]
      exact zi_le (by omega)
    · show (sy_ai F' 3).getD 57 0 = N
      rw [sy_ai_eq (hF 3 (by decide)), hh, ← hN]
      exact zi_eq (by omega)
  | succ m ih =>
    intro F hN hh h1 h2 h3 p l e s mm args below meth c D h0 ex ka H0 Post C0 hP
    refine sy_at_ex (nv := 4) (sp := [2]) (sm := []) (n := 385) (d := 10) (f := true) (O := [false]) (pc := 2) (L := gm_L) (S := []) (G := gm_G) (u := [.inl (.inr (.inl 0)), .inl (.inr (.inl 19)), .inr (.inr (.inl 15)), .inr (.inr (.inl 18))]) (T := [(30, [.inl (.int 57)], [.inr (.inl 3)]), (40, [.inl (.int 0), .inl (.int 0)], [.inr (.inl 2)]), (40, [.inl (.int 1), .inl (.int 0)], [.inr (.inl 5)]), (40, [.inl (.int 2), .inl (.int 0)], [.inr (.inl 6)]), (40, [.inl (.int 3), .inl (.int 0)], [.inr (.inl 7)]), (40, [.inl (.int 4), .inl (.int 0)], [.inr (.inl 8)]), (40, [.inl (.int 5), .inl (.int 0)], [.inr (.inl 9)]), (40, [.inl (.int 6), .inl (.int 0)], [.inr (.inl 10)]), (40, [.inl (.int 7), .inl (.int 0)], [.inr (.inl 11)]), (40, [.inl (.int 8), .inl (.int 0)], [.inr (.inl 12)]), (40, [.inl (.int 2), .inr (.inl 4)], [.inr (.inl 13)]), (40, [.inl (.int 8), .inl (.int 0)], [.inr (.inl 14)]), (30, [.inl (.int 57)], [.inr (.inl 3)]), (0, [.inr (.inl 16), .inl (.int 1)], []), (40, [.inl (.int 57), .inr (.inl 17)], [.inr (.inl 3)]), (0, [.inr (.inl 1), .inl (.int 1)], [])]) (P := [(5, .inr (.inl 0), .inr (.inl 1))]) jm_ok193 (by decide +kernel) (by decide +kernel) F X1 [] (fun F' hF hs => ?_) C0 (Nat.le_refl _) (Nat.le_refl _) (fun F' hF hs => ?_)
    · refine List.forall_mem_cons.mpr ⟨?_, fun _ h => absurd h List.not_mem_nil⟩
      show ¬ sy_i F' 0 ≤ sy_i F' 1
      rw [sy_i_eq (hF 0 (by decide)), sy_i_eq (hF 1 (by decide))]
      exact zi_nle (by omega)
    · skip
      have e19 : F' 19 = .inl (.int (sy_i F' 1 + 1)) := hs 15 _ rfl
      have e16 : F' 16 = .inl (.int ((sy_ai F' 3).getD 57 0)) := hs 12 _ rfl
      have e17 : F' 17 = .inl (.int (sy_i F' 16 + 1)) := hs 13 _ rfl
      have e18 : F' 18 = .inr (.inl (jm_upd (sy_ai F' 3) 57 (sy_i F' 17))) := hs 14 _ rfl
      have k1 : sy_i (sy_cm F' [.inl (.inr (.inl 0)), .inl (.inr (.inl 19)), .inr (.inr (.inl 15)), .inr (.inr (.inl 18))]) 1 = sy_i F 1 + 1 := by
        rw [← sy_i_eq (hF 1 (by decide))]
        show sy_i F' 19 = _
        exact sy_i_of e19
      have k3 : (sy_ai (sy_cm F' [.inl (.inr (.inl 0)), .inl (.inr (.inl 19)), .inr (.inr (.inl 15)), .inr (.inr (.inl 18))]) 3).getD 57 0 = (sy_ai F 3).getD 57 0 + 1 := by
        have : sy_ai (sy_cm F' [.inl (.inr (.inl 0)), .inl (.inr (.inl 19)), .inr (.inr (.inl 15)), .inr (.inr (.inl 18))]) 3 = jm_upd (sy_ai F' 3) 57 (sy_i F' 17) := (sy_ai_of e18 : sy_ai F' 18 = _)
        rw [this, jm_upd_at, if_pos rfl, sy_i_of e17, sy_i_of e16, sy_ai_eq (hF 3 (by decide))]
      have k0 : sy_i (sy_cm F' [.inl (.inr (.inl 0)), .inl (.inr (.inl 19)), .inr (.inr (.inl 15)), .inr (.inr (.inl 18))]) 0 = sy_i F 0 := (sy_i_eq (hF 0 (by decide)) : sy_i F' 0 = sy_i F 0)
      refine ih _ ?_ ?_ ?_ ?_ ?_ C0 hP
      · rw [k0]; exact hN
      · rw [k1, k3, hh]
      · rw [k1, k0, zi_inc h2 (by omega)]; omega
      · rw [k1, zi_inc h2 (by omega)]; omega
      · rw [k0]; exact h3
theorem gm_T {Ls : Nat} {xs : Nat → Int32} (X1 : List jm_c) (a0 : Int32) (b0 : 0 ≤ a0.toInt) (b1 : a0.toInt ≤ 60) : jm_T Ls xs 11 jm_M193 [.ref 1000, .int a0] (X1, jm_H2) 0 0 (fun v G => v = none ∧ ∃ F' : Nat → sy_d, (sy_ai F' 3).getD 57 0 = a0 ∧ G = sy_dh F' X1 [] gm_G) := by
  refine jm_T_intro jm_ok193 (Nat.le_of_ble_eq_true rfl) (fun p l e s m args below meth c D h0 ex ka C1 => ?_)
  have key := sy_at_ex (nv := 1) (sp := [2]) (sm := []) (n := 62) (d := 10) (f := true) (pc0 := 0) (L0 := sy_ent 3 [.inl (.ref 1000), .inr (.inl 0)]) (S0 := []) (G0 := jm_H2s) (O := []) (pc := 2) (L := gm_L) (S := []) (G := gm_G) (u := [.inl (.inr (.inl 0)), .inl (.inl (.int 0)), .inr (.inl (.inl [])), .inr (.inl (.inl [0, 0, 0, 0, 0, 0, 0, 0, 0, 0, 0, 0, 0, 0, 0, 0, 0, 0, 0, 0, 0, (-2), (-2), (-2), (-2), (-2), (-2), (-2), 0, 0, 0, 0, 0, 0, 0, 0, 0, 0, 0, 0, 0, 0, 0, 0, 0, 0, 0, 0, 0, 0, 0, 0, 0, 0, 0, 0, 0, 0, 0, 0, 0]))]) (T := []) (P := []) jm_ok193 (by decide +kernel) (by decide +kernel) (sy_int [a0]) X1 [] (fun F' hF hs => fun _ h => absurd h List.not_mem_nil) (l := l) (e := e) (below := below) (Q := MQ below (jm_Qc D h0 ex ka 0 (X1, jm_H2) (fun v G => v = none ∧ ∃ F' : Nat → sy_d, (sy_ai F' 3).getD 57 0 = a0 ∧ G = sy_dh F' X1 [] gm_G)) args s 0 0 (fun q => h0 ≤ q)) (R := jm_room 11 0 0) C1 (Nat.le_refl _) (Nat.le_refl _) (fun F' hF hs => ?_)
  · rw [jm_H2s_ok] at key
    exact key
  · have k0 : sy_i (sy_cm F' [.inl (.inr (.inl 0)), .inl (.inl (.int 0)), .inr (.inl (.inl [])), .inr (.inl (.inl [0, 0, 0, 0, 0, 0, 0, 0, 0, 0, 0, 0, 0, 0, 0, 0, 0, 0, 0, 0, 0, (-2), (-2), (-2), (-2), (-2), (-2), (-2), 0, 0, 0, 0, 0, 0, 0, 0, 0, 0, 0, 0, 0, 0, 0, 0, 0, 0, 0, 0, 0, 0, 0, 0, 0, 0, 0, 0, 0, 0, 0, 0, 0]))]) 0 = a0 := (sy_i_eq (hF 0 (by decide)) : sy_i F' 0 = _)
    have k1 : sy_i (sy_cm F' [.inl (.inr (.inl 0)), .inl (.inl (.int 0)), .inr (.inl (.inl [])), .inr (.inl (.inl [0, 0, 0, 0, 0, 0, 0, 0, 0, 0, 0, 0, 0, 0, 0, 0, 0, 0, 0, 0, 0, (-2), (-2), (-2), (-2), (-2), (-2), (-2), 0, 0, 0, 0, 0, 0, 0, 0, 0, 0, 0, 0, 0, 0, 0, 0, 0, 0, 0, 0, 0, 0, 0, 0, 0, 0, 0, 0, 0, 0, 0, 0, 0]))]) 1 = 0 := rfl
    have e0 : ((a0.toInt.toNat : Nat) : Int) = a0.toInt := Int.toNat_of_nonneg b0
    refine gm_loop X1 a0 a0.toInt.toNat _ k0 rfl ?_ ?_ ?_ C1 (fun F' hF' => ⟨rfl, F', hF', rfl⟩)
    · rw [k0, k1, zc_0, e0]; omega
    · rw [k1, zc_0]; omega
    · rw [k0]; exact b1
theorem mum_T {Ls : Nat} {xs : Nat → Int32} (a0 a1 : Int32) (h0 : ¬ a0 < 0) (h1 : ¬ 60 < a0) (h2 : ¬ a1 < 0) (h3 : ¬ 3 < a1) : ∀ G1 : jm_h, G1.2 = jm_H2 → jm_T Ls xs 20 jm_M224 [.ref 1000, .int a0, .int a1] G1 0 0 (fun v _ => v = some (.int 0) ∧ True) := by
  rintro ⟨X1, _⟩ rfl
  have b0 : 0 ≤ a0.toInt := by
    have := mt Int32.lt_iff_toInt_lt.mpr h0
    rw [zc_0] at this
    omega
  have b1 : a0.toInt ≤ 60 := by
    have := mt Int32.lt_iff_toInt_lt.mpr h1
    rw [zc_60] at this
    omega
  refine jm_T_intro jm_ok224 (Nat.le_of_ble_eq_true rfl) (fun p l e s m args below meth c D hh ex ka C1 => ?_)
  have key := sy_at_ex (nv := 2) (sp := []) (sm := [193]) (n := 902) (d := 19) (f := true) (pc0 := 0) (L0 := sy_ent 3 [.inl (.ref 1000), .inr (.inl 0), .inr (.inl 1)]) (S0 := []) (G0 := jm_H2s) (O := [false, false, false, false]) (pc := 24) (L := [some (.inl (.ref 1000)), some (.inr (.inl 0)), some (.inr (.inl 1))]) (S := [.inr (.inl 0), .inl (.ref 1000)]) (G := jm_H2s) (u := [.inl (.inr (.inl 0)), .inl (.inr (.inl 1))]) (T := []) (P := [(3, .inr (.inl 0), .inl (.int 0)), (3, .inl (.int 60), .inr (.inl 0)), (3, .inr (.inl 1), .inl (.int 0)), (3, .inl (.int 3), .inr (.inl 1))]) jm_ok224 (by decide +kernel) (by decide +kernel) (sy_int [a0, a1]) X1 [] (fun F' hF hs => ?_) (l := l) (e := e) (below := below) (Q := MQ below (jm_Qc D hh ex ka 0 (X1, jm_H2) (fun v _ => v = some (.int 0) ∧ True)) args s 0 0 (fun q => hh ≤ q)) (R := jm_room 20 0 0) C1 (Nat.le_refl _) (Nat.le_refl _) (fun F' hF hs => ?_)
  · rw [jm_H2s_ok] at key
    exact key
  ·
    refine List.forall_mem_cons.mpr ⟨?_, List.forall_mem_cons.mpr ⟨?_, List.forall_mem_cons.mpr ⟨?_, List.forall_mem_cons.mpr ⟨?_, fun _ h => absurd h List.not_mem_nil⟩⟩⟩⟩
    · show ¬ sy_i F' 0 < 0
      rw [sy_i_eq (hF 0 (by decide))]; exact h0
    · show ¬ (60 : Int32) < sy_i F' 0
      rw [sy_i_eq (hF 0 (by decide))]; exact h1
    · show ¬ sy_i F' 1 < 0
      rw [sy_i_eq (hF 1 (by decide))]; exact h2
    · show ¬ (3 : Int32) < sy_i F' 1
      rw [sy_i_eq (hF 1 (by decide))]; exact h3
  · have hF0 : sy_i F' 0 = a0 := sy_i_eq (hF 0 (by decide))
    have hF1 : sy_i F' 1 = a1 := sy_i_eq (hF 1 (by decide))
    have hT : jm_T Ls xs 11 jm_M193 (([.inl (.ref 1000), .inr (.inl 0)] : List sy_v).map (sy_dv (sy_cm F' [.inl (.inr (.inl 0)), .inl (.inr (.inl 1))]))) (sy_dh (sy_cm F' [.inl (.inr (.inl 0)), .inl (.inr (.inl 1))]) X1 [] jm_H2s) 0 0 (fun v G => v = none ∧ ∃ F' : Nat → sy_d, (sy_ai F' 3).getD 57 0 = a0 ∧ G = sy_dh F' X1 [] gm_G) := by
      rw [jm_H2s_ok]
      have := gm_T (Ls := Ls) (xs := xs) X1 a0 b0 b1
      show jm_T Ls xs 11 jm_M193 [.ref 1000, .int (sy_i F' 0)] (X1, jm_H2) 0 0 _
      rw [hF0]
      exact this
    refine sy_call (nv := 0) (d := 0) (rest := []) jm_ok224 (i := (.invokevirtual 420, 3, 193, 0, 1514)) (by decide +kernel) rfl _ X1 [] C1 hT (Nat.le_of_ble_eq_true rfl) (Nat.le_of_ble_eq_true rfl) (fun v G1 hP hl => ?_)
    obtain ⟨rfl, F2, -, rfl⟩ := hP
    have fin := sy_fin_ex (nv := 6) (n := 178) (d := 19) (pc0 := 27) (L0 := [some (.inl (.ref 1000)), some (.inr (.inl 4)), some (.inr (.inl 5))]) (S0 := []) (G0 := gm_G) (O := []) (v := some (.inl (.int 0))) (G := gm_G) (u := [.inl (.inr (.inl 0)), .inl (.inr (.inl 1)), .inr (.inr (.inl 2)), .inr (.inr (.inl 3)), .inl (.inr (.inl 4)), .inl (.inr (.inl 5))]) (T := []) (P := []) jm_ok224 (by decide +kernel) (by decide +kernel) (fun k => if k < 4 then F2 k else if k = 4 then .inl (.int a0) else .inl (.int a1)) X1 [] (fun F' hF hs => fun _ h => absurd h List.not_mem_nil) (l := l) (e := e) (below := below) (H0 := (X1, jm_H2)) (Post := fun v _ => v = some (.int 0) ∧ True) C1 (fun F' hF hs => ⟨rfl, trivial⟩)
    have eG : sy_dh (fun k => if k < 4 then F2 k else if k = 4 then .inl (.int a0) else .inl (.int a1)) X1 [] gm_G = sy_dh F2 X1 [] gm_G := (sy_sw_ok (L := []) (S := []) (b := 4) (by decide +kernel) (fun k hk => if_pos hk)).2.2
    rw [eG] at fin
    have eL : sy_dL (sy_cm F' [.inl (.inr (.inl 0)), .inl (.inr (.inl 1))]) [some (.inl (.ref 1000)), some (.inr (.inl 0)), some (.inr (.inl 1))] = sy_dL (fun k => if k < 4 then F2 k else if k = 4 then .inl (.int a0) else .inl (.int a1)) [some (.inl (.ref 1000)), some (.inr (.inl 4)), some (.inr (.inl 5))] := by
      show [some (Value.ref 1000), some (.int (sy_i F' 0)), some (.int (sy_i F' 1))] = [some (Value.ref 1000), some (.int a0), some (.int a1)]
      rw [hF0, hF1]
    show jm_W p l e _ s m args below meth c D hh ex ka jm_M224 _ _ (24 + 3, sy_dL (sy_cm F' [.inl (.inr (.inl 0)), .inl (.inr (.inl 1))]) [some (.inl (.ref 1000)), some (.inr (.inl 0)), some (.inr (.inl 1))], [], _, 0, 0)
    rw [eL]
    exact fin
def hm_G : sy_h := (.inr (), .inl [.inr (10, [.inl (.int 0), .inl (.ref 1001), .inl (.int 0), .inl (.ref 1002), .inl (.int 0), .inl (.ref 1003), .inl (.ref 1004), .inl (.ref 1005), .inl (.ref 1006), .inl (.ref 1007), .inl (.int 0), .inl (.int 0), .inl (.int 0), .inl (.int 0), .inl (.int 0), .inl (.int 0), .inl (.int 0), .inl (.int (-1)), .inl (.int 0), .inl (.int 0), .inl (.int 0), .inl (.ref 1008), .inl (.ref 1009), .inl (.ref 1010), .inl (.ref 1011), .inl (.ref 1012), .inl (.ref 1013), .inl (.ref 1014), .inl (.ref 1015), .inl (.ref 1016), .inl (.ref 1017), .inl (.ref 1018), .inl (.ref 1019), .inl (.ref 1020), .inl (.ref 1021), .inl (.int 0), .inl (.ref 1022), .inl (.ref 1023), .inl (.ref 1024), .inl (.ref 1025), .inl (.ref 1026), .inl (.int 0), .inl (.ref 1027), .inl (.ref 1028), .inl (.ref 1029), .inl (.int 0), .inl (.ref 1030), .inl (.ref 1031), .inl (.int 0), .inl (.ref 1032), .inl (.ref 1033), .inl (.int 0), .inl (.ref 1034), .inl (.ref 1035), .inl (.ref 1036), .inl (.ref 1037), .inl (.int 0), .inl (.int 1), .inl (.ref 1038), .inl (.ref 1039), .inl (.ref 1040), .inl (.int 0), .inl (.ref 1041), .inl (.ref 1042), .inl (.ref 1043), .inl (.ref 1044), .inl (.int 0), .inl (.ref 1045), .inl (.ref 1046)]),
  .inl (1, 2000, .inl (.inl [])),
  .inl (1, 2000, .inl (.inl [])),
  .inl (0, 403, .inl (.inl [])),
  .inl (0, 403, .inl (.inl [])),
  .inl (0, 403, .inl (.inl [])),
  .inl (3, 403, .inl (.inr [])),
  .inl (3, 23, .inl (.inr [3558512, 1494603, 459652, 263382265, 3217420, 12532058, 1001512747, 3499582, 125042, 5948362, 377761, 249, 399641, 107681, 361292, 164222, 168984, 1310653, 16308991, 276908612, 6465306496, 8800, 240023])),
  .inl (3, 11, .inl (.inr [])),
  .inl (0, 2, .inl (.inl [0])),
  .inl (0, 14, .inl (.inl [])),
  .inl (0, 14, .inl (.inl [])),
  .inl (0, 14, .inl (.inl [])),
  .inl (0, 2, .inl (.inl [0])),
  .inl (0, 8, .inl (.inl [])),
  .inl (0, 8, .inl (.inl [])),
  .inl (0, 8, .inl (.inl [])),
  .inl (0, 2, .inl (.inl [10])),
  .inl (0, 2, .inl (.inl [6])),
  .inl (0, 2, .inl (.inl [0])),
  .inl (0, 12, .inl (.inl [0, 0, 0, 0, 0, 0])),
  .inl (0, 12, .inl (.inl [0, 0, 0, 0, 0, 0])),
  .inl (2, 260, .inl (.inl [])),
  .inl (0, 260, .inl (.inl [])),
  .inl (0, 260, .inl (.inl [])),
  .inl (0, 260, .inl (.inl [])),
  .inl (0, 260, .inl (.inl [])),
  .inl (0, 840, .inl (.inl [])),
  .inl (0, 840, .inl (.inl [])),
  .inl (0, 64, .inl (.inl [])),
  .inl (0, 9, .inr (.inl 2)),
  .inl (0, 400, .inl (.inl [])),
  .inl (0, 61, .inr (.inl 126)),
  .inl (0, 61, .inr (.inl 3)),
  .inl (2, 7, .inl (.inl [])),
  .inl (0, 7, .inl (.inl [])),
  .inl (0, 7, .inl (.inl [])),
  .inl (0, 7, .inl (.inl [])),
  .inl (0, 2440, .inl (.inl [0, 0, 0, 0, 0, 0, 0, 0, 0, 0, 0, 0, 0, 0, 0, 0, 0, 0, 0, 0, 0, (-2), (-2), (-2), (-2), (-2), (-2), (-2), 0, 0, 0, 0, 0, 0, 0, 0, 0, 0, 0, 0, 0, 0, 0, 0, 0, 0, 0, 0, 0, 0, 0, 0, 0, 0, 0, 0, 0, 0, 0, 0, 0])),
  .inl (0, 4, .inl (.inl [])),
  .inl (0, 4, .inl (.inl [])),
  .inl (0, 7, .inl (.inl [])),
  .inl (0, 7, .inl (.inl [])),
  .inl (0, 7, .inl (.inl [])),
  .inl (0, 49, .inl (.inl [])),
  .inl (2, 3, .inl (.inl [])),
  .inl (0, 183, .inl (.inl []))])
theorem hm_T {Ls : Nat} {xs : Nat → Int32} (a0 : Int32) (h0 : 0 < a0) (h1 : ¬ 48 < a0) : ∀ G1 : jm_h, G1.2 = jm_H2 → jm_T Ls xs 20 jm_M204 [.ref 1000, .int a0] G1 0 0 (fun v _ => v = some (.int a0) ∧ True) := by
  rintro ⟨X1, _⟩ rfl
  have b0 : 0 < a0.toInt := by
    have := Int32.lt_iff_toInt_lt.mp h0
    rw [zc_0] at this
    omega
  have b1 : a0.toInt ≤ 48 := by
    have := mt Int32.lt_iff_toInt_lt.mpr h1
    rw [zc_48] at this
    omega
  refine jm_T_intro jm_ok204 (Nat.le_of_ble_eq_true rfl) (fun p l e s m args below meth c D hh ex ka C1 => ?_)
  have key := sy_at_ex (nv := 1) (sp := []) (sm := [193]) (n := 887) (d := 19) (f := true) (pc0 := 0) (L0 := sy_ent 2 [.inl (.ref 1000), .inr (.inl 0)]) (S0 := []) (G0 := jm_H2s) (O := [false, false, true]) (pc := 30) (L := [some (.inl (.ref 1000)), some (.inr (.inl 0))]) (S := [.inr (.inl 0), .inl (.ref 1000)]) (G := jm_H2s) (u := [.inl (.inr (.inl 0))]) (T := []) (P := [(3, .inr (.inl 0), .inl (.int 0)), (3, .inl (.int 48), .inr (.inl 0)), (1, .inr (.inl 0), .inl (.int 0))]) jm_ok204 (by decide +kernel) (by decide +kernel) (sy_int [a0]) X1 [] (fun F' hF hs => ?_) (l := l) (e := e) (below := below) (Q := MQ below (jm_Qc D hh ex ka 0 (X1, jm_H2) (fun v _ => v = some (.int a0) ∧ True)) args s 0 0 (fun q => hh ≤ q)) (R := jm_room 20 0 0) C1 (Nat.le_refl _) (Nat.le_refl _) (fun F' hF hs => ?_)
  · rw [jm_H2s_ok] at key
    exact key
  · have hF0 : sy_i F' 0 = a0 := sy_i_eq (hF 0 (by decide))
    refine List.forall_mem_cons.mpr ⟨?_, List.forall_mem_cons.mpr ⟨?_, List.forall_mem_cons.mpr ⟨?_, fun _ h => absurd h List.not_mem_nil⟩⟩⟩
    · show ¬ sy_i F' 0 < 0
      rw [hF0]; exact zi_nlt (by rw [zc_0]; omega)
    · show ¬ (48 : Int32) < sy_i F' 0
      rw [hF0]; exact h1
    · show ¬ sy_i F' 0 = 0
      rw [hF0]
      intro q
      rw [q, zc_0] at b0
      omega
  · have hF0 : sy_i F' 0 = a0 := sy_i_eq (hF 0 (by decide))
    have hT : jm_T Ls xs 11 jm_M193 (([.inl (.ref 1000), .inr (.inl 0)] : List sy_v).map (sy_dv (sy_cm F' [.inl (.inr (.inl 0))]))) (sy_dh (sy_cm F' [.inl (.inr (.inl 0))]) X1 [] jm_H2s) 0 0 (fun v G => v = none ∧ ∃ F' : Nat → sy_d, (sy_ai F' 3).getD 57 0 = a0 ∧ G = sy_dh F' X1 [] gm_G) := by
      rw [jm_H2s_ok]
      have := gm_T (Ls := Ls) (xs := xs) X1 a0 (by omega) (by omega)
      show jm_T Ls xs 11 jm_M193 [.ref 1000, .int (sy_i F' 0)] (X1, jm_H2) 0 0 _
      rw [hF0]
      exact this
    refine sy_call (nv := 0) (d := 0) (rest := []) jm_ok204 (i := (.invokevirtual 420, 3, 193, 0, 1514)) (by decide +kernel) rfl _ X1 [] C1 hT (Nat.le_of_ble_eq_true rfl) (Nat.le_of_ble_eq_true rfl) (fun v G1 hP hl => ?_)
    obtain ⟨rfl, F2, hrow, rfl⟩ := hP
    have fin := sy_fin_ex (nv := 5) (n := 1982) (d := 19) (pc0 := 33) (L0 := [some (.inl (.ref 1000)), some (.inr (.inl 4))]) (S0 := []) (G0 := gm_G) (O := []) (v := some (.inr (.inl 119))) (G := hm_G) (u := [.inl (.inr (.inl 0)), .inl (.inr (.inl 1)), .inr (.inr (.inl 2)), .inr (.inr (.inl 3)), .inl (.inr (.inl 4)), .inl (.inr (.inl 5)), .inr (.inr (.inl 6)), .inl (.inr (.inl 7)), .inr (.inr (.inl 8)), .inl (.inr (.inl 9)), .inr (.inr (.inl 10)), .inl (.inr (.inl 11)), .inr (.inr (.inl 12)), .inl (.inr (.inl 13)), .inr (.inr (.inl 14)), .inl (.inr (.inl 15)), .inr (.inr (.inl 16)), .inl (.inr (.inl 17)), .inr (.inr (.inl 18)), .inl (.inr (.inl 19)), .inr (.inr (.inl 20)), .inl (.inr (.inl 21)), .inr (.inr (.inl 22)), .inl (.inr (.inl 23)), .inr (.inr (.inl 24)), .inl (.inr (.inl 25)), .inr (.inr (.inl 26)), .inl (.inr (.inl 27)), .inr (.inr (.inl 28)), .inl (.inr (.inl 29)), .inr (.inr (.inl 30)), .inl (.inr (.inl 31)), .inr (.inr (.inl 32)), .inl (.inr (.inl 33)), .inr (.inr (.inl 34)), .inl (.inr (.inl 35)), .inr (.inr (.inl 36)), .inl (.inr (.inl 37)), .inr (.inr (.inl 38)), .inl (.inr (.inl 39)), .inr (.inr (.inl 40)), .inl (.inr (.inl 41)), .inr (.inr (.inl 42)), .inl (.inr (.inl 43)), .inr (.inr (.inl 44)), .inl (.inr (.inl 45)), .inr (.inr (.inl 46)), .inl (.inr (.inl 47)), .inr (.inr (.inl 48)), .inl (.inr (.inl 49)), .inr (.inr (.inl 50)), .inl (.inr (.inl 51)), .inr (.inr (.inl 52)), .inl (.inr (.inl 53)), .inr (.inr (.inl 54)), .inl (.inr (.inl 55)), .inr (.inr (.inl 56)), .inl (.inr (.inl 57)), .inr (.inr (.inl 58)), .inl (.inr (.inl 59)), .inr (.inr (.inl 60)), .inl (.inr (.inl 61)), .inr (.inr (.inl 62)), .inl (.inr (.inl 63)), .inr (.inr (.inl 64)), .inl (.inr (.inl 65)), .inr (.inr (.inl 66)), .inl (.inr (.inl 67)), .inr (.inr (.inl 68)), .inl (.inr (.inl 69)), .inr (.inr (.inl 70)), .inl (.inr (.inl 71)), .inr (.inr (.inl 72)), .inl (.inr (.inl 73)), .inr (.inr (.inl 74)), .inl (.inr (.inl 75)), .inr (.inr (.inl 76)), .inl (.inr (.inl 77)), .inr (.inr (.inl 78)), .inl (.inr (.inl 79)), .inr (.inr (.inl 80)), .inl (.inr (.inl 81)), .inr (.inr (.inl 82)), .inl (.inr (.inl 83)), .inr (.inr (.inl 84)), .inl (.inr (.inl 85)), .inr (.inr (.inl 86)), .inl (.inr (.inl 87)), .inr (.inr (.inl 88)), .inl (.inr (.inl 89)), .inr (.inr (.inl 90)), .inl (.inr (.inl 91)), .inr (.inr (.inl 92)), .inl (.inr (.inl 93)), .inr (.inr (.inl 94)), .inl (.inr (.inl 95)), .inr (.inr (.inl 96)), .inl (.inr (.inl 97)), .inr (.inr (.inl 98)), .inl (.inr (.inl 99)), .inr (.inr (.inl 100)), .inl (.inr (.inl 101)), .inr (.inr (.inl 102)), .inl (.inr (.inl 103)), .inr (.inr (.inl 104)), .inl (.inr (.inl 105)), .inr (.inr (.inl 106)), .inl (.inr (.inl 107)), .inr (.inr (.inl 108)), .inl (.inr (.inl 109)), .inr (.inr (.inl 110)), .inl (.inr (.inl 111)), .inr (.inr (.inl 112)), .inl (.inr (.inl 113)), .inr (.inr (.inl 114)), .inl (.inr (.inl 115)), .inr (.inr (.inl 116)), .inl (.inr (.inl 117)), .inr (.inr (.inl 118)), .inl (.inr (.inl 119)), .inr (.inr (.inl 120)), .inl (.inr (.inl 121)), .inr (.inr (.inl 122)), .inl (.inr (.inl 123)), .inr (.inr (.inl 124)), .inl (.inr (.inl 125)), .inr (.inr (.inl 126))]) (T := [(30, [.inl (.int 0)], [.inr (.inl 3)]), (40, [.inl (.int 0), .inr (.inl 5)], [.inl (.inl [0, 0, 0, 0, 0, 0, 0, 0, 0, 0, 0, 0, 0, 0, 0, 0, 0, 0, 0, 0, 0, (-2), (-2), (-2), (-2), (-2), (-2), (-2), 0, 0, 0, 0, 0, 0, 0, 0, 0, 0, 0, 0, 0, 0, 0, 0, 0, 0, 0, 0, 0, 0, 0, 0, 0, 0, 0, 0, 0, 0, 0, 0, 0])]), (30, [.inl (.int 1)], [.inr (.inl 3)]), (40, [.inl (.int 1), .inr (.inl 7)], [.inr (.inl 6)]), (30, [.inl (.int 2)], [.inr (.inl 3)]), (40, [.inl (.int 2), .inr (.inl 9)], [.inr (.inl 8)]), (30, [.inl (.int 3)], [.inr (.inl 3)]), (40, [.inl (.int 3), .inr (.inl 11)], [.inr (.inl 10)]), (30, [.inl (.int 4)], [.inr (.inl 3)]), (40, [.inl (.int 4), .inr (.inl 13)], [.inr (.inl 12)]), (30, [.inl (.int 5)], [.inr (.inl 3)]), (40, [.inl (.int 5), .inr (.inl 15)], [.inr (.inl 14)]), (30, [.inl (.int 6)], [.inr (.inl 3)]), (40, [.inl (.int 6), .inr (.inl 17)], [.inr (.inl 16)]), (30, [.inl (.int 7)], [.inr (.inl 3)]), (40, [.inl (.int 7), .inr (.inl 19)], [.inr (.inl 18)]), (30, [.inl (.int 8)], [.inr (.inl 3)]), (40, [.inl (.int 8), .inr (.inl 21)], [.inr (.inl 20)]), (30, [.inl (.int 9)], [.inr (.inl 3)]), (40, [.inl (.int 9), .inr (.inl 23)], [.inr (.inl 22)]), (30, [.inl (.int 10)], [.inr (.inl 3)]), (40, [.inl (.int 10), .inr (.inl 25)], [.inr (.inl 24)]), (30, [.inl (.int 11)], [.inr (.inl 3)]), (40, [.inl (.int 11), .inr (.inl 27)], [.inr (.inl 26)]), (30, [.inl (.int 12)], [.inr (.inl 3)]), (40, [.inl (.int 12), .inr (.inl 29)], [.inr (.inl 28)]), (30, [.inl (.int 13)], [.inr (.inl 3)]), (40, [.inl (.int 13), .inr (.inl 31)], [.inr (.inl 30)]), (30, [.inl (.int 14)], [.inr (.inl 3)]), (40, [.inl (.int 14), .inr (.inl 33)], [.inr (.inl 32)]), (30, [.inl (.int 15)], [.inr (.inl 3)]), (40, [.inl (.int 15), .inr (.inl 35)], [.inr (.inl 34)]), (30, [.inl (.int 16)], [.inr (.inl 3)]), (40, [.inl (.int 16), .inr (.inl 37)], [.inr (.inl 36)]), (30, [.inl (.int 17)], [.inr (.inl 3)]), (40, [.inl (.int 17), .inr (.inl 39)], [.inr (.inl 38)]), (30, [.inl (.int 18)], [.inr (.inl 3)]), (40, [.inl (.int 18), .inr (.inl 41)], [.inr (.inl 40)]), (30, [.inl (.int 19)], [.inr (.inl 3)]), (40, [.inl (.int 19), .inr (.inl 43)], [.inr (.inl 42)]), (30, [.inl (.int 20)], [.inr (.inl 3)]), (40, [.inl (.int 20), .inr (.inl 45)], [.inr (.inl 44)]), (30, [.inl (.int 21)], [.inr (.inl 3)]), (40, [.inl (.int 21), .inr (.inl 47)], [.inr (.inl 46)]), (30, [.inl (.int 22)], [.inr (.inl 3)]), (40, [.inl (.int 22), .inr (.inl 49)], [.inr (.inl 48)]), (30, [.inl (.int 23)], [.inr (.inl 3)]), (40, [.inl (.int 23), .inr (.inl 51)], [.inr (.inl 50)]), (30, [.inl (.int 24)], [.inr (.inl 3)]), (40, [.inl (.int 24), .inr (.inl 53)], [.inr (.inl 52)]), (30, [.inl (.int 25)], [.inr (.inl 3)]), (40, [.inl (.int 25), .inr (.inl 55)], [.inr (.inl 54)]), (30, [.inl (.int 26)], [.inr (.inl 3)]), (40, [.inl (.int 26), .inr (.inl 57)], [.inr (.inl 56)]), (30, [.inl (.int 27)], [.inr (.inl 3)]), (40, [.inl (.int 27), .inr (.inl 59)], [.inr (.inl 58)]), (30, [.inl (.int 28)], [.inr (.inl 3)]), (40, [.inl (.int 28), .inr (.inl 61)], [.inr (.inl 60)]), (30, [.inl (.int 29)], [.inr (.inl 3)]), (40, [.inl (.int 29), .inr (.inl 63)], [.inr (.inl 62)]), (30, [.inl (.int 30)], [.inr (.inl 3)]), (40, [.inl (.int 30), .inr (.inl 65)], [.inr (.inl 64)]), (30, [.inl (.int 31)], [.inr (.inl 3)]), (40, [.inl (.int 31), .inr (.inl 67)], [.inr (.inl 66)]), (30, [.inl (.int 32)], [.inr (.inl 3)]), (40, [.inl (.int 32), .inr (.inl 69)], [.inr (.inl 68)]), (30, [.inl (.int 33)], [.inr (.inl 3)]), (40, [.inl (.int 33), .inr (.inl 71)], [.inr (.inl 70)]), (30, [.inl (.int 34)], [.inr (.inl 3)]), (40, [.inl (.int 34), .inr (.inl 73)], [.inr (.inl 72)]), (30, [.inl (.int 35)], [.inr (.inl 3)]), (40, [.inl (.int 35), .inr (.inl 75)], [.inr (.inl 74)]), (30, [.inl (.int 36)], [.inr (.inl 3)]), (40, [.inl (.int 36), .inr (.inl 77)], [.inr (.inl 76)]), (30, [.inl (.int 37)], [.inr (.inl 3)]), (40, [.inl (.int 37), .inr (.inl 79)], [.inr (.inl 78)]), (30, [.inl (.int 38)], [.inr (.inl 3)]), (40, [.inl (.int 38), .inr (.inl 81)], [.inr (.inl 80)]), (30, [.inl (.int 39)], [.inr (.inl 3)]), (40, [.inl (.int 39), .inr (.inl 83)], [.inr (.inl 82)]), (30, [.inl (.int 40)], [.inr (.inl 3)]), (40, [.inl (.int 40), .inr (.inl 85)], [.inr (.inl 84)]), (30, [.inl (.int 41)], [.inr (.inl 3)]), (40, [.inl (.int 41), .inr (.inl 87)], [.inr (.inl 86)]), (30, [.inl (.int 42)], [.inr (.inl 3)]), (40, [.inl (.int 42), .inr (.inl 89)], [.inr (.inl 88)]), (30, [.inl (.int 43)], [.inr (.inl 3)]), (40, [.inl (.int 43), .inr (.inl 91)], [.inr (.inl 90)]), (30, [.inl (.int 44)], [.inr (.inl 3)]), (40, [.inl (.int 44), .inr (.inl 93)], [.inr (.inl 92)]), (30, [.inl (.int 45)], [.inr (.inl 3)]), (40, [.inl (.int 45), .inr (.inl 95)], [.inr (.inl 94)]), (30, [.inl (.int 46)], [.inr (.inl 3)]), (40, [.inl (.int 46), .inr (.inl 97)], [.inr (.inl 96)]), (30, [.inl (.int 47)], [.inr (.inl 3)]), (40, [.inl (.int 47), .inr (.inl 99)], [.inr (.inl 98)]), (30, [.inl (.int 48)], [.inr (.inl 3)]), (40, [.inl (.int 48), .inr (.inl 101)], [.inr (.inl 100)]), (30, [.inl (.int 49)], [.inr (.inl 3)]), (40, [.inl (.int 49), .inr (.inl 103)], [.inr (.inl 102)]), (30, [.inl (.int 50)], [.inr (.inl 3)]), (40, [.inl (.int 50), .inr (.inl 105)], [.inr (.inl 104)]), (30, [.inl (.int 51)], [.inr (.inl 3)]), (40, [.inl (.int 51), .inr (.inl 107)], [.inr (.inl 106)]), (30, [.inl (.int 52)], [.inr (.inl 3)]), (40, [.inl (.int 52), .inr (.inl 109)], [.inr (.inl 108)]), (30, [.inl (.int 53)], [.inr (.inl 3)]), (40, [.inl (.int 53), .inr (.inl 111)], [.inr (.inl 110)]), (30, [.inl (.int 54)], [.inr (.inl 3)]), (40, [.inl (.int 54), .inr (.inl 113)], [.inr (.inl 112)]), (30, [.inl (.int 55)], [.inr (.inl 3)]), (40, [.inl (.int 55), .inr (.inl 115)], [.inr (.inl 114)]), (30, [.inl (.int 56)], [.inr (.inl 3)]), (40, [.inl (.int 56), .inr (.inl 117)], [.inr (.inl 116)]), (30, [.inl (.int 57)], [.inr (.inl 3)]), (40, [.inl (.int 57), .inr (.inl 119)], [.inr (.inl 118)]), (30, [.inl (.int 58)], [.inr (.inl 3)]), (40, [.inl (.int 58), .inr (.inl 121)], [.inr (.inl 120)]), (30, [.inl (.int 59)], [.inr (.inl 3)]), (40, [.inl (.int 59), .inr (.inl 123)], [.inr (.inl 122)]), (30, [.inl (.int 60)], [.inr (.inl 3)]), (40, [.inl (.int 60), .inr (.inl 125)], [.inr (.inl 124)])]) (P := []) jm_ok204 (by decide +kernel) (by decide +kernel) (fun k => if k < 4 then F2 k else .inl (.int a0)) X1 [] (fun F' hF hs => fun _ h => absurd h List.not_mem_nil) (l := l) (e := e) (below := below) (H0 := (X1, jm_H2)) (Post := fun v _ => v = some (.int a0) ∧ True) C1 (fun F3 hF3 hs3 => by
      have ev : F3 119 = .inl (.int ((sy_ai F3 3).getD 57 0)) := hs3 114 _ rfl
      have e3 : sy_ai F3 3 = sy_ai F2 3 := sy_ai_eq (hF3 3 (by decide))
      refine ⟨?_, trivial⟩
      show some (Value.int (sy_i F3 119)) = some (.int a0)
      rw [sy_i_of ev, e3, hrow])
    have eG : sy_dh (fun k => if k < 4 then F2 k else .inl (.int a0)) X1 [] gm_G = sy_dh F2 X1 [] gm_G := (sy_sw_ok (L := []) (S := []) (b := 4) (by decide +kernel) (fun k hk => if_pos hk)).2.2
    rw [eG] at fin
    have eL : sy_dL (sy_cm F' [.inl (.inr (.inl 0))]) [some (.inl (.ref 1000)), some (.inr (.inl 0))] = sy_dL (fun k => if k < 4 then F2 k else .inl (.int a0)) [some (.inl (.ref 1000)), some (.inr (.inl 4))] := by
      show [some (Value.ref 1000), some (.int (sy_i F' 0))] = [some (Value.ref 1000), some (.int a0)]
      rw [hF0]
    show jm_W p l e _ s m args below meth c D hh ex ka jm_M204 _ _ (30 + 3, sy_dL (sy_cm F' [.inl (.inr (.inl 0))]) [some (.inl (.ref 1000)), some (.inr (.inl 0))], [], _, 0, 0)
    rw [eL]
    exact fin
def lm_L : List (Option sy_v) := [some (.inl (.ref 1000)), some (.inr (.inl 0)), some (.inl (.int (-2))), some (.inl (.int (-2))), some (.inr (.inl 1)), none, none]
theorem zc_200 : (200 : Int32).toInt = 200 := by decide
theorem lm_loop {Ls : Nat} {xs : Nat → Int32} (X1 : List jm_c) : ∀ (m : Nat) (F : Nat → sy_d), (sy_i F 1).toInt + m = 201 → 0 ≤ (sy_i F 1).toInt → ∀ {p : Program} {l : Launch} {e : Env} {s : State} {mm : MethodId} {args : Array Value} {below : List Frame} {meth : Method} {c : Code} {D : va_G} {h0 : Nat} {ex : Nat → Nat} {ka : Nat → ClassId} {H0 : jm_h} {Post : Option Value → jm_h → Prop}, jm_C p s mm args meth c D h0 ex ka Ls xs jm_M225 (jm_len H0) → (∀ G : jm_h, Post (some (.int (-2))) G) → jm_W p l e (jm_room 20 0 0) s mm args below meth c D h0 ex ka jm_M225 (jm_len H0) (MQ below (jm_Qc D h0 ex ka 0 H0 Post) args s 0 0 (fun q => h0 ≤ q)) (24, sy_dL F lm_L, sy_dS F [], sy_dh F X1 [] gm_G, 0, 0) := by
  intro m
  induction m with
  | zero =>
    intro F h1 h2 p l e s mm args below meth c D h0 ex ka H0 Post C0 hP
    by_cases hw : sy_i F 0 = 0
    · refine sy_fin_ex (nv := 4) (n := 189) (d := 19) (O := [true, false]) (v := some (.inl (.int (-2)))) (G := gm_G) (u := [.inl (.inr (.inl 0)), .inl (.inr (.inl 1)), .inr (.inr (.inl 2)), .inr (.inr (.inl 3))]) (T := []) (P := [(2, .inl (.int 200), .inr (.inl 1)), (0, .inr (.inl 0), .inl (.int 0))]) jm_ok225 (by decide +kernel) (by decide +kernel) F X1 [] (fun F' hF hs => ?_) C0 (fun F' hF hs => hP _)
      refine List.forall_mem_cons.mpr ⟨?_, List.forall_mem_cons.mpr ⟨?_, fun _ h => absurd h List.not_mem_nil⟩⟩
      · show (200 : Int32) < sy_i F' 1
        rw [sy_i_eq (hF 1 (by decide))]
        exact zi_lt (by rw [zc_200]; omega)
      · show sy_i F' 0 = 0
        rw [sy_i_eq (hF 0 (by decide))]
        exact hw
    · refine sy_fin_ex (nv := 4) (n := 188) (d := 19) (O := [true, true]) (v := some (.inl (.int (-2)))) (G := gm_G) (u := [.inl (.inr (.inl 0)), .inl (.inr (.inl 1)), .inr (.inr (.inl 2)), .inr (.inr (.inl 3))]) (T := []) (P := [(2, .inl (.int 200), .inr (.inl 1)), (1, .inr (.inl 0), .inl (.int 0))]) jm_ok225 (by decide +kernel) (by decide +kernel) F X1 [] (fun F' hF hs => ?_) C0 (fun F' hF hs => hP _)
      refine List.forall_mem_cons.mpr ⟨?_, List.forall_mem_cons.mpr ⟨?_, fun _ h => absurd h List.not_mem_nil⟩⟩
      · show (200 : Int32) < sy_i F' 1
        rw [sy_i_eq (hF 1 (by decide))]
        exact zi_lt (by rw [zc_200]; omega)
      · show ¬ sy_i F' 0 = 0
        rw [sy_i_eq (hF 0 (by decide))]
        exact hw
  | succ m ih =>
    intro F h1 h2 p l e s mm args below meth c D h0 ex ka H0 Post C0 hP
    refine sy_at_ex (nv := 4) (sp := [24]) (sm := []) (n := 411) (d := 19) (f := true) (O := [false]) (pc := 24) (L := lm_L) (S := []) (G := gm_G) (u := [.inl (.inr (.inl 0)), .inl (.inr (.inl 19)), .inr (.inr (.inl 15)), .inr (.inr (.inl 18))]) (T := [(30, [.inl (.int 57)], [.inr (.inl 3)]), (40, [.inl (.int 0), .inl (.int 0)], [.inr (.inl 2)]), (40, [.inl (.int 1), .inl (.int 0)], [.inr (.inl 5)]), (40, [.inl (.int 2), .inl (.int 0)], [.inr (.inl 6)]), (40, [.inl (.int 3), .inl (.int 0)], [.inr (.inl 7)]), (40, [.inl (.int 4), .inl (.int 0)], [.inr (.inl 8)]), (40, [.inl (.int 5), .inl (.int 0)], [.inr (.inl 9)]), (40, [.inl (.int 6), .inl (.int 0)], [.inr (.inl 10)]), (40, [.inl (.int 7), .inl (.int 0)], [.inr (.inl 11)]), (40, [.inl (.int 8), .inl (.int 0)], [.inr (.inl 12)]), (40, [.inl (.int 2), .inr (.inl 4)], [.inr (.inl 13)]), (40, [.inl (.int 8), .inl (.int 0)], [.inr (.inl 14)]), (30, [.inl (.int 57)], [.inr (.inl 3)]), (0, [.inr (.inl 16), .inl (.int 1)], []), (40, [.inl (.int 57), .inr (.inl 17)], [.inr (.inl 3)]), (0, [.inr (.inl 1), .inl (.int 1)], [])]) (P := [(3, .inl (.int 200), .inr (.inl 1))]) jm_ok225 (by decide +kernel) (by decide +kernel) F X1 [] (fun F' hF hs => ?_) C0 (Nat.le_refl _) (Nat.le_refl _) (fun F' hF hs => ?_)
    · refine List.forall_mem_cons.mpr ⟨?_, fun _ h => absurd h List.not_mem_nil⟩
      show ¬ (200 : Int32) < sy_i F' 1
      rw [sy_i_eq (hF 1 (by decide))]
      exact zi_nlt (by rw [zc_200]; omega)
    · have e19 : F' 19 = .inl (.int (sy_i F' 1 + 1)) := hs 15 _ rfl
      have k1 : sy_i (sy_cm F' [.inl (.inr (.inl 0)), .inl (.inr (.inl 19)), .inr (.inr (.inl 15)), .inr (.inr (.inl 18))]) 1 = sy_i F 1 + 1 := by
        rw [← sy_i_eq (hF 1 (by decide))]
        show sy_i F' 19 = _
        exact sy_i_of e19
      refine ih _ ?_ ?_ C0 hP
      · rw [k1, zi_inc h2 (by omega)]; omega
      · rw [k1, zi_inc h2 (by omega)]; omega
theorem lm_T {Ls : Nat} {xs : Nat → Int32} (a0 : Int32) (h0 : ¬ a0 < 0) (h1 : ¬ 1 < a0) : ∀ G1 : jm_h, G1.2 = jm_H2 → jm_T Ls xs 20 jm_M225 [.ref 1000, .int a0] G1 0 0 (fun v _ => v = some (.int (-2)) ∧ True) := by
  rintro ⟨X1, _⟩ rfl
  refine jm_T_intro jm_ok225 (Nat.le_of_ble_eq_true rfl) (fun p l e s m args below meth c D hh ex ka C1 => ?_)
  have key := sy_at_ex (nv := 1) (sp := [24]) (sm := []) (n := 888) (d := 19) (f := true) (pc0 := 0) (L0 := sy_ent 7 [.inl (.ref 1000), .inr (.inl 0)]) (S0 := []) (G0 := jm_H2s) (O := [false, false]) (pc := 24) (L := lm_L) (S := []) (G := gm_G) (u := [.inl (.inr (.inl 0)), .inl (.inl (.int 1)), .inr (.inl (.inl [])), .inr (.inl (.inl [0, 0, 0, 0, 0, 0, 0, 0, 0, 0, 0, 0, 0, 0, 0, 0, 0, 0, 0, 0, 0, (-2), (-2), (-2), (-2), (-2), (-2), (-2), 0, 0, 0, 0, 0, 0, 0, 0, 0, 0, 0, 0, 0, 0, 0, 0, 0, 0, 0, 0, 0, 0, 0, 0, 0, 0, 0, 0, 0, 0, 0, 0, 0]))]) (T := []) (P := [(3, .inr (.inl 0), .inl (.int 0)), (3, .inl (.int 1), .inr (.inl 0))]) jm_ok225 (by decide +kernel) (by decide +kernel) (sy_int [a0]) X1 [] (fun F' hF hs => ?_) (l := l) (e := e) (below := below) (Q := MQ below (jm_Qc D hh ex ka 0 (X1, jm_H2) (fun v _ => v = some (.int (-2)) ∧ True)) args s 0 0 (fun q => hh ≤ q)) (R := jm_room 20 0 0) C1 (Nat.le_refl _) (Nat.le_refl _) (fun F' hF hs => ?_)
  · rw [jm_H2s_ok] at key
    exact key
  · have hF0 : sy_i F' 0 = a0 := sy_i_eq (hF 0 (by decide))
    refine List.forall_mem_cons.mpr ⟨?_, List.forall_mem_cons.mpr ⟨?_, fun _ h => absurd h List.not_mem_nil⟩⟩
    · show ¬ sy_i F' 0 < 0
      rw [hF0]; exact h0
    · show ¬ (1 : Int32) < sy_i F' 0
      rw [hF0]; exact h1
  · have k1 : sy_i (sy_cm F' [.inl (.inr (.inl 0)), .inl (.inl (.int 1)), .inr (.inl (.inl [])), .inr (.inl (.inl [0, 0, 0, 0, 0, 0, 0, 0, 0, 0, 0, 0, 0, 0, 0, 0, 0, 0, 0, 0, 0, (-2), (-2), (-2), (-2), (-2), (-2), (-2), 0, 0, 0, 0, 0, 0, 0, 0, 0, 0, 0, 0, 0, 0, 0, 0, 0, 0, 0, 0, 0, 0, 0, 0, 0, 0, 0, 0, 0, 0, 0, 0, 0]))]) 1 = 1 := rfl
    have z1 : (1 : Int32).toInt = 1 := by decide
    exact lm_loop X1 200 _ (by rw [k1, z1]; omega) (by rw [k1, z1]; omega) C1 (fun G => ⟨rfl, trivial⟩)
