/-! ===== the class parses a text ===== -/
theorem plr_eq {K : Nat → Int} (x : sT) : sLaw K x = sB (plr K x.1) (fun t => .inr (t, x.2)) := by
  unfold sLaw plr
  rw [sB_a]
noncomputable def rrI (K V : Nat → Int) (N : Nat → Int64) (P : Nat → Int) (FR BU : Nat) (rr : sE ⊕ sT) (good n : Int) (F : Nat → sy_d) : Prop := (good ≠ 0 → ∃ x, rcl P FR BU x F ∧ rr = sRun K V N (401 - n).toNat x) ∧ (good = 0 → rr = .inl ((sy_i F 34).toInt, tg F))
theorem rcl_eq {P : Nat → Int} {FR BU : Nat} {x : sT} {F F1 : Nat → sy_d} (h : rcl P FR BU x F) (e33 : (sy_i F1 33).toInt = (sy_i F 33).toInt) (e36 : (sy_i F1 36).toInt = (sy_i F 36).toInt) (e37 : (sy_i F1 37).toInt = (sy_i F 37).toInt) (e38 : (sy_i F1 38).toInt = (sy_i F 38).toInt) (eF : (sy_i F1 FR).toInt = (sy_i F FR).toInt) (eB : (sy_i F1 BU).toInt = (sy_i F BU).toInt) (e43 : F1 43 = F 43) : rcl P FR BU x F1 := by
  obtain ⟨a, b, c, d, e, f⟩ := h
  exact ⟨by rw [tg_eq e33]; exact a, by rw [eF]; exact b, by rw [eB]; exact c, ncr_eq d e43 e38, wc_eq e e36 e37, by rw [e38]; exact f⟩
theorem rrI_on {K V : Nat → Int} {N : Nat → Int64} {P : Nat → Int} {FR BU : Nat} {rr : sE ⊕ sT} {n : Int} {x : sT} {F3 : Nat → sy_d} {y : Int32} (h0 : 0 ≤ n) (h4 : n ≤ 400) (hk : K x.1 ≠ 0) (hr : rr = sRun K V N (401 - n).toNat x) (h : ac (sOne K V N x) (rcl P FR BU) y F3) : rrI K V N P FR BU rr y.toInt (n + 1) F3 := by
  have e : rr = sB (sOne K V N x) (sRun K V N (401 - (n + 1)).toNat) := by
    rw [hr, show (401 - n).toNat = (401 - (n + 1)).toNat + 1 by omega]
    show (if K x.1 = 0 then _ else _) = _
    rw [if_neg hk]
  obtain ⟨y0, y1⟩ := x01' h
  refine ⟨fun q => ?_, fun q => ?_⟩
  · obtain ⟨a, h1, h2⟩ := y1 q
    exact ⟨a, h2, by rw [e, h1]; rfl⟩
  · rw [e, y0 q]
    rfl
theorem rrI_eq {K V : Nat → Int} {N : Nat → Int64} {P : Nat → Int} {FR BU : Nat} {rr : sE ⊕ sT} {g g' n n' : Int} {F F1 : Nat → sy_d} (h : rrI K V N P FR BU rr g n F) (hg : g' = g) (hn : n' = n) (e33 : (sy_i F1 33).toInt = (sy_i F 33).toInt) (e34 : (sy_i F1 34).toInt = (sy_i F 34).toInt) (e36 : (sy_i F1 36).toInt = (sy_i F 36).toInt) (e37 : (sy_i F1 37).toInt = (sy_i F 37).toInt) (e38 : (sy_i F1 38).toInt = (sy_i F 38).toInt) (eF : (sy_i F1 FR).toInt = (sy_i F FR).toInt) (eB : (sy_i F1 BU).toInt = (sy_i F BU).toInt) (e43 : F1 43 = F 43) : rrI K V N P FR BU rr g' n' F1 := by
  subst hg hn
  refine ⟨fun q => ?_, fun q => ?_⟩
  · obtain ⟨x, a, b⟩ := h.1 q
    exact ⟨x, rcl_eq a e33 e36 e37 e38 eF eB e43, b⟩
  · rw [e34, tg_eq e33]
    exact h.2 q
theorem ac_sub {A : Type} {r : sE ⊕ A} {J J' : A → (Nat → sy_d) → Prop} {x : Int32} {F' F2 : Nat → sy_d} (h : ac r J x F') (e : ∀ q, q < 82 → F2 q = F' q) (hJ : ∀ a, J a F' → J' a F2) : ac r J' x F2 := ac_dst h (nz_fi (e 34 (by decide))) (nz_fi (e 33 (by decide))) hJ
noncomputable def k0_WP : List Nat := [18, 19, 20, 21, 22, 23, 24, 25, 26, 27, 28, 29, 30, 31, 32, 33, 34, 36, 37, 38, 43, 44]
section Pk0
variable {Ls : Nat} {xs : Nat → Int32} (X1 X2 : List jm_c) (F0 : Nat → sy_d) (rr : sE ⊕ sT)
theorem k0pq_e (F : Nat → sy_d) (g0 : gc k0_WP F0 F) (n : Int) (hI : rrI (kg F0) (vg F0) (ng F0) (pg F0) 18 19 rr (sy_i F 82).toInt n F) (hend : (sy_i F 82).toInt ≠ 0 → ∀ x, rcl (pg F0) 18 19 x F → sRun (kg F0) (vg F0) (ng F0) (401 - n).toNat x = .inr x) :
    hd_W Ls xs 28 jm_M31 (fun v G => ∃ (x : Int32) (F' : Nat → sy_d), v = some (.int x) ∧ G = sy_dh F' X1 X2 (iv_H 0) ∧ gc (35 :: k0_WP) F0 F' ∧ x.toInt = (sEnd (pg F0) rr).1 ∧ (sy_i F' 35).toInt = (sEnd (pg F0) rr).2) (189, sy_dL F [some (.inl (.ref 30)), none, none, none, some (.inr (.inl 82)), none, none], sy_dS F [], sy_dh F X1 X2 (iv_H 0), 0, 0) := by
  refine k0pq_189 (by decide) F X1 X2 g0.1 ?_ ?_
  · intro q _ _ _ F4 hb g e33 e34 e35 e36 e37 e38 eFR eBU a39 a40
    have h := hI.2 q
    refine ⟨_, F4, rfl, rfl, (g0.mono (by decide)).trans (gc_mk (W := 35 :: k0_WP) hb g (by decide)) (fun _ q => q), ?_, ?_⟩
    · rw [h]
      rfl
    · rw [h, e35]
      show _ = pg F0 (tg F)
      rw [← pg_eq (g0.2 40 (by decide) (by decide))]
      rfl
  · intro q _ F4 hb g e33 e34 e35 e36 e37 e38 eFR eBU a39 a40
    obtain ⟨x, h1, h2⟩ := hI.1 q
    rw [hend q x h1] at h2
    obtain ⟨w1, w2, w3, w4⟩ := h1.2.2.2.2.1
    refine ⟨_, F4, rfl, rfl, (g0.mono (by decide)).trans (gc_mk (W := 35 :: k0_WP) hb g (by decide)) (fun _ q => q), ?_, ?_⟩
    · rw [h2]
      show _ = (if x.2.2.2.2.1 = 0 then (0, -1) else (x.2.2.2.2.1, pg F0 x.2.2.2.2.2) : Int × Int).1
      split <;> (show _ = _; omega)
    · rw [h2]
      show _ = (if x.2.2.2.2.1 = 0 then (0, -1) else (x.2.2.2.2.1, pg F0 x.2.2.2.2.2) : Int × Int).2
      by_cases z : x.2.2.2.2.1 = 0
      · rw [if_pos z, e35, w4 z]
      · rw [if_neg z, e35, w3 z]
theorem k0pq_l : ∀ (m : Nat) (F : Nat → sy_d), gc k0_WP F0 F → jx_ok F0 → 0 ≤ (sy_i F 83).toInt → (sy_i F 83).toInt ≤ 401 → 401 - (sy_i F 83).toInt ≤ m → rrI (kg F0) (vg F0) (ng F0) (pg F0) 18 19 rr (sy_i F 82).toInt (sy_i F 83).toInt F →
    hd_W Ls xs 28 jm_M31 (fun v G => ∃ (x : Int32) (F' : Nat → sy_d), v = some (.int x) ∧ G = sy_dh F' X1 X2 (iv_H 0) ∧ gc (35 :: k0_WP) F0 F' ∧ x.toInt = (sEnd (pg F0) rr).1 ∧ (sy_i F' 35).toInt = (sEnd (pg F0) rr).2) (52, sy_dL F [some (.inl (.ref 30)), none, none, none, some (.inr (.inl 82)), some (.inr (.inl 83)), none], sy_dS F [], sy_dh F X1 X2 (iv_H 0), 0, 0)
  | m, F, g0, hJ, h83, h84, hm, hI => by
    have eK : kg F = kg F0 := kg_eq (g0.2 39 (by decide) (by decide))
    have eV : vg F = vg F0 := vg_eq (g0.2 41 (by decide) (by decide))
    have eN : ng F = ng F0 := ng_eq (g0.2 41 (by decide) (by decide))
    have eP : pg F = pg F0 := pg_eq (g0.2 40 (by decide) (by decide))
    have hJF : jx_ok F := jx_ok_eq (g0.2 39 (by decide) (by decide)) (g0.2 41 (by decide) (by decide)) hJ
    have hkF : kg F0 (tg F) = km ((sy_ai F 39).getD (sy_i F 33).toInt.toNat 0).toInt := by rw [← eK]; rfl
    refine k0pq_52 (by decide) F X1 X2 g0.1 ⟨h83, h84⟩ ?_ ?_ ?_ ?_ ?_ ?_ ?_ ?_ ?_
    · intro q F1 hb g e33 e34 e35 e36 e37 e38 eFR eBU a39 a40 e82
      refine k0pq_e X1 X2 F0 rr F1 (g0.trans (gc_mk (W := k0_WP) hb g (by decide)) (fun _ q => q)) (sy_i F 83).toInt (rrI_eq hI e82 rfl e33 e34 e36 e37 e38 eFR eBU (g 43 (by decide) (by decide))) (fun _ x _ => ?_)
      rw [show (401 - (sy_i F 83).toInt).toNat = 0 by omega]
      rfl
    · intro q z F1 hb g e33 e34 e35 e36 e37 e38 eFR eBU a39 a40 e82
      exact k0pq_e X1 X2 F0 rr F1 (g0.trans (gc_mk (W := k0_WP) hb g (by decide)) (fun _ q => q)) (sy_i F 83).toInt (rrI_eq hI e82 rfl e33 e34 e36 e37 e38 eFR eBU (g 43 (by decide) (by decide))) (fun y => absurd (e82.trans z) y)
    · intro q z _ _ hk F1 hb g e33 e34 e35 e36 e37 e38 eFR eBU a39 a40 e82
      refine k0pq_e X1 X2 F0 rr F1 (g0.trans (gc_mk (W := k0_WP) hb g (by decide)) (fun _ q => q)) (sy_i F 83).toInt (rrI_eq hI e82 rfl e33 e34 e36 e37 e38 eFR eBU (g 43 (by decide) (by decide))) (fun _ x hx => ?_)
      rw [show (401 - (sy_i F 83).toInt).toNat = (400 - (sy_i F 83).toInt).toNat + 1 by omega]
      show (if kg F0 x.1 = 0 then _ else _) = _
      rw [if_pos (by rw [← hx.1, tg_eq e33, hkF, hk]; decide)]
    · intro q z _ _ nk _ _ q0 q1 q2 q3 F1 hb g e33 e34 e35 e36 e37 e38 eFR eBU a39 a40 e82 e83
      obtain ⟨m, rfl⟩ : ∃ m', m = m' + 1 := ⟨m - 1, by omega⟩
      refine k0pq_l m F1 (g0.trans (gc_mk (W := k0_WP) hb g (by decide)) (fun _ q => q)) hJ (by omega) (by omega) (by omega) ⟨fun y => absurd e82 y, fun _ => ?_⟩
      obtain ⟨x, h1, h2⟩ := hI.1 z
      rw [h2, show (401 - (sy_i F 83).toInt).toNat = (400 - (sy_i F 83).toInt).toNat + 1 by omega, e34, tg_eq e33]
      show (if kg F0 x.1 = 0 then _ else _) = _
      obtain ⟨c, hc⟩ : ∃ c, c = ((sy_ai F 39).getD (sy_i F 33).toInt.toNat 0).toInt := ⟨_, rfl⟩
      rw [← hc] at hkF nk q0 q1 q2 q3
      have j0 : ¬ km c = 0 := fun y => by have := km_0.mp y; omega
      have j1 : sOne (kg F0) (vg F0) (ng F0) x = .inl (1, x.1) := by
        unfold sOne
        rw [← h1.1, hkF, if_neg (fun y => by have := (km_w (by decide) (by decide)).mp y; omega), if_neg (fun y => by have := (km_w (by decide) (by decide)).mp y; omega), if_neg (fun y => by rcases y with y | y <;> (have := (km_w (by decide) (by decide)).mp y; omega)), if_neg (fun y => by have := (km_w (by decide) (by decide)).mp y; omega), if_neg (fun y => by
          have := (km_w (c := c) (k := km c) (by omega) (by omega)).mp rfl
          omega)]
      rw [if_neg (by rw [← h1.1, hkF]; exact j0), j1, h1.1]
      rfl
    · intro q z _ _ nk _ _ q0 q1 q2 q3 q4 q5 F1 hb g e33 e34 e35 e36 e37 e38 eFR eBU a39 a40 e82 e83
      obtain ⟨m, rfl⟩ : ∃ m', m = m' + 1 := ⟨m - 1, by omega⟩
      refine k0pq_l m F1 (g0.trans (gc_mk (W := k0_WP) hb g (by decide)) (fun _ q => q)) hJ (by omega) (by omega) (by omega) ⟨fun y => absurd e82 y, fun _ => ?_⟩
      obtain ⟨x, h1, h2⟩ := hI.1 z
      rw [h2, show (401 - (sy_i F 83).toInt).toNat = (400 - (sy_i F 83).toInt).toNat + 1 by omega, e34, tg_eq e33]
      show (if kg F0 x.1 = 0 then _ else _) = _
      obtain ⟨c, hc⟩ : ∃ c, c = ((sy_ai F 39).getD (sy_i F 33).toInt.toNat 0).toInt := ⟨_, rfl⟩
      rw [← hc] at hkF nk q0 q1 q2 q3 q4 q5
      have j0 : ¬ km c = 0 := fun y => by have := km_0.mp y; omega
      have j1 : sOne (kg F0) (vg F0) (ng F0) x = .inl (1, x.1) := by
        unfold sOne
        rw [← h1.1, hkF, if_neg (fun y => by have := (km_w (by decide) (by decide)).mp y; omega), if_neg (fun y => by have := (km_w (by decide) (by decide)).mp y; omega), if_neg (fun y => by rcases y with y | y <;> (have := (km_w (by decide) (by decide)).mp y; omega)), if_neg (fun y => by have := (km_w (by decide) (by decide)).mp y; omega), if_neg (fun y => by
          have := (km_w (c := c) (k := km c) (by omega) (by omega)).mp rfl
          omega)]
      rw [if_neg (by rw [← h1.1, hkF]; exact j0), j1, h1.1]
      rfl
    · intro q z _ _ nk _ _ q0 q1 q2 q3 q4 q5 F1 hb g e33 e34 e35 e36 e37 e38 eFR eBU a39 a40 e82 e83
      obtain ⟨m, rfl⟩ : ∃ m', m = m' + 1 := ⟨m - 1, by omega⟩
      obtain ⟨x, h1, h2⟩ := hI.1 z
      obtain ⟨c, hc⟩ : ∃ c, c = ((sy_ai F 39).getD (sy_i F 33).toInt.toNat 0).toInt := ⟨_, rfl⟩
      rw [← hc] at hkF nk q0 q1 q2 q3 q4 q5 e83
      have g1 : gc k0_WP F0 F1 := g0.trans (gc_mk (W := k0_WP) hb g (by decide)) (fun _ q => q)
      have eK1 : kg F1 = kg F0 := kg_eq (g1.2 39 (by decide) (by decide))
      have eV1 : vg F1 = vg F0 := vg_eq (g1.2 41 (by decide) (by decide))
      have eN1 : ng F1 = ng F0 := ng_eq (g1.2 41 (by decide) (by decide))
      have eP1 : pg F1 = pg F0 := pg_eq (g1.2 40 (by decide) (by decide))
      have hx1 : rcl (pg F0) 18 19 x F1 := rcl_eq h1 e33 e36 e37 e38 eFR eBU (g 43 (by decide) (by decide))
      have hk1 : kg F1 (tg F1) = km c := by rw [eK1, tg_eq e33]; exact hkF
      have hkx : kg F0 x.1 = km c := by rw [← h1.1]; exact hkF
      have hk0 : kg F0 x.1 ≠ 0 := by
        rw [hkx]
        exact fun y => by have := km_0.mp y; omega
      have hone : sOne (kg F0) (vg F0) (ng F0) x = sSet (kg F0) (vg F0) (sHi c) x := by
        unfold sOne
        rw [hkx, km_r (by omega) (by omega), if_neg (by omega), if_neg (by omega)]
        unfold sHi
        by_cases z : c = 10
        · rw [if_neg (by omega), if_pos (by omega), if_pos z]
        · rw [if_pos (by omega), if_neg z]
      refine hd_calI (R := fun y F' => gc k0pg_W F1 F' ∧ ac (sSet (kg F1) (vg F1) (sHi (sy_i F1 83).toInt) x) (rcl (pg F1) 18 19) y F') (nh := 82) (nv := 84) (s := 0) (s1 := 0) (d1 := 5) (M1 := jm_M35) (As := [.inl (.ref 30), .inr (.inl 83)]) (rest := []) jm_ok31 rfl rfl (by decide) (by decide +kernel) (k0pg_T X1 X2 F1 hb (sy_i F1 83) (by omega) (by rw [hk1, e83]) x (by rw [eP1]; exact hx1)) (fun F3 F' y hR p1 p2 p3 => ?_)
      obtain ⟨r1, r2⟩ := hR
      rw [eK1, eV1, eP1, e83, ← hone] at r2
      have r1 := r1.dst p1
      have r2 : ac (sOne (kg F0) (vg F0) (ng F0) x) (rcl (pg F0) 18 19) y F3 := ac_sub r2 p1 (fun a h => rcl_eq h (nz_fi (p1 33 (by decide))) (nz_fi (p1 36 (by decide))) (nz_fi (p1 37 (by decide))) (nz_fi (p1 38 (by decide))) (nz_fi (p1 18 (by decide))) (nz_fi (p1 19 (by decide))) (p1 43 (by decide)))
      have g3 : gc k0_WP F0 F3 := g1.trans r1 (by decide)
      have hy : sy_i F3 84 = y := zz_i p3
      have k82 := nz_fi (p2 82 (by decide) (by decide))
      have hI3 := rrI_on (n := (sy_i F 83).toInt) (by omega) (by omega) hk0 h2 r2
      refine k0pq_171 (by decide) F3 X1 X2 g3.1 (by omega) ?_
      intro F4 hb g d33 d34 d35 d36 d37 d38 dFR dBU b39 b40 d82 d83
      exact k0pq_l m F4 (g3.trans (gc_mk (W := k0_WP) hb g (by decide)) (fun _ q => q)) hJ (by omega) (by omega) (by omega) (rrI_eq hI3 (by rw [d82, hy]) (by omega) d33 d34 d36 d37 d38 dFR dBU (g 43 (by decide) (by decide)))
    · intro q z _ _ nk _ _ q0 q1 q2 q3 F1 hb g e33 e34 e35 e36 e37 e38 eFR eBU a39 a40 e82 e83 e84
      obtain ⟨m, rfl⟩ : ∃ m', m = m' + 1 := ⟨m - 1, by omega⟩
      obtain ⟨x, h1, h2⟩ := hI.1 z
      obtain ⟨c, hc⟩ : ∃ c, c = ((sy_ai F 39).getD (sy_i F 33).toInt.toNat 0).toInt := ⟨_, rfl⟩
      rw [← hc] at hkF nk q0 q1 q2 q3 e83 e84
      have g1 : gc k0_WP F0 F1 := g0.trans (gc_mk (W := k0_WP) hb g (by decide)) (fun _ q => q)
      have eK1 : kg F1 = kg F0 := kg_eq (g1.2 39 (by decide) (by decide))
      have eV1 : vg F1 = vg F0 := vg_eq (g1.2 41 (by decide) (by decide))
      have eN1 : ng F1 = ng F0 := ng_eq (g1.2 41 (by decide) (by decide))
      have eP1 : pg F1 = pg F0 := pg_eq (g1.2 40 (by decide) (by decide))
      have hx1 : rcl (pg F0) 18 19 x F1 := rcl_eq h1 e33 e36 e37 e38 eFR eBU (g 43 (by decide) (by decide))
      have hk1 : kg F1 (tg F1) = km c := by rw [eK1, tg_eq e33]; exact hkF
      have hkx : kg F0 x.1 = km c := by rw [← h1.1]; exact hkF
      have hk0 : kg F0 x.1 ≠ 0 := by
        rw [hkx]
        exact fun y => by have := km_0.mp y; omega
      have hone : sOne (kg F0) (vg F0) (ng F0) x = sB (plr (kg F0) x.1) (fun t => .inr (t, x.2)) := by
        unfold sOne
        rw [hkx, km_r (by omega) (by omega), if_neg (by omega), if_neg (by omega), if_neg (by omega), if_neg (by omega), if_pos (by omega)]
        exact plr_eq x
      refine hd_calI (R := fun y F' => plR k0_WL y F1 F') (nh := 82) (nv := 85) (s := 0) (s1 := 0) (d1 := 26) (M1 := jm_M36) (As := [.inl (.ref 30), .inr (.inl 84), .inr (.inl 83)]) (rest := []) jm_ok31 rfl rfl (by decide) (by decide +kernel) (k0pl_T X1 X2 F1 (sy_i F1 84) (sy_i F1 83) hb (jx_ok_eq (g 39 (by decide) (by decide)) (g 41 (by decide) (by decide)) hJF) (by omega) (by omega) (by omega) (by rw [a39, e33, ← hc, e84])) (fun F3 F' y hR p1 p2 p3 => ?_)
      obtain ⟨r1, r2⟩ := plR_dst hR p1
      rw [eK1, hx1.1] at r2
      have r2 : ac (sOne (kg F0) (vg F0) (ng F0) x) (rcl (pg F0) 18 19) y F3 := by
        rcases r2 with ⟨a, b⟩ | ⟨a, b⟩
        · exact Or.inl ⟨a, by rw [hone, b]; rfl⟩
        · refine Or.inr ⟨a, (tg F3, x.2), by rw [hone, b]; rfl, rfl, ?_⟩
          have h := rcl_eq (F1 := fun j => if j = 33 then F1 33 else F3 j) hx1 rfl (nz_fi (r1.2 36 (by decide) (by decide))) (nz_fi (r1.2 37 (by decide) (by decide))) (nz_fi (r1.2 38 (by decide) (by decide))) (nz_fi (r1.2 18 (by decide) (by decide))) (nz_fi (r1.2 19 (by decide) (by decide))) (r1.2 43 (by decide) (by decide))
          obtain ⟨a1, a2, a3, a4, a5, a6⟩ := h
          exact ⟨a2, a3, ncr_eq a4 rfl rfl, wc_eq a5 rfl rfl, a6⟩
      have g3 : gc k0_WP F0 F3 := g1.trans r1 (by decide)
      have hy : sy_i F3 85 = y := zz_i p3
      have k82 := nz_fi (p2 82 (by decide) (by decide))
      have hI3 := rrI_on (n := (sy_i F 83).toInt) (by omega) (by omega) hk0 h2 r2
      refine k0pq_146 (by decide) F3 X1 X2 g3.1 (by omega) ?_
      intro F4 hb g d33 d34 d35 d36 d37 d38 dFR dBU b39 b40 d82 d83
      exact k0pq_l m F4 (g3.trans (gc_mk (W := k0_WP) hb g (by decide)) (fun _ q => q)) hJ (by omega) (by omega) (by omega) (rrI_eq hI3 (by rw [d82, hy]) (by omega) d33 d34 d36 d37 d38 dFR dBU (g 43 (by decide) (by decide)))
    · intro q z _ _ nk _ _ q0 q1 F1 hb g e33 e34 e35 e36 e37 e38 eFR eBU a39 a40 e82
      obtain ⟨m, rfl⟩ : ∃ m', m = m' + 1 := ⟨m - 1, by omega⟩
      obtain ⟨x, h1, h2⟩ := hI.1 z
      obtain ⟨c, hc⟩ : ∃ c, c = ((sy_ai F 39).getD (sy_i F 33).toInt.toNat 0).toInt := ⟨_, rfl⟩
      rw [← hc] at hkF nk q0 q1
      have g1 : gc k0_WP F0 F1 := g0.trans (gc_mk (W := k0_WP) hb g (by decide)) (fun _ q => q)
      have eK1 : kg F1 = kg F0 := kg_eq (g1.2 39 (by decide) (by decide))
      have eV1 : vg F1 = vg F0 := vg_eq (g1.2 41 (by decide) (by decide))
      have eN1 : ng F1 = ng F0 := ng_eq (g1.2 41 (by decide) (by decide))
      have eP1 : pg F1 = pg F0 := pg_eq (g1.2 40 (by decide) (by decide))
      have hx1 : rcl (pg F0) 18 19 x F1 := rcl_eq h1 e33 e36 e37 e38 eFR eBU (g 43 (by decide) (by decide))
      have hk1 : kg F1 (tg F1) = km c := by rw [eK1, tg_eq e33]; exact hkF
      have hkx : kg F0 x.1 = km c := by rw [← h1.1]; exact hkF
      have hk0 : kg F0 x.1 ≠ 0 := by
        rw [hkx]
        exact fun y => by have := km_0.mp y; omega
      have hk2 : kg F1 (tg F1) = 21 := by rw [hk1, q1]; decide
      have hone : sOne (kg F0) (vg F0) (ng F0) x = sBuyer (kg F0) (vg F0) (ng F0) x := by
        unfold sOne
        rw [hkx, if_neg (by rw [q1]; decide), if_pos (by rw [q1]; decide)]
      refine hd_calI (R := fun y F' => gc k0pb_W F1 F' ∧ ac (sBuyer (kg F1) (vg F1) (ng F1) x) (rcl (pg F1) 18 19) y F') (nh := 82) (nv := 83) (s := 0) (s1 := 0) (d1 := 5) (M1 := jm_M34) (As := [.inl (.ref 30)]) (rest := []) jm_ok31 rfl rfl (by decide) (by decide +kernel) (k0pb_T X1 X2 F1 hb hk2 x (by rw [eP1]; exact hx1)) (fun F3 F' y hR p1 p2 p3 => ?_)
      obtain ⟨r1, r2⟩ := hR
      rw [eK1, eV1, eN1, eP1, ← hone] at r2
      have r1 := r1.dst p1
      have r2 : ac (sOne (kg F0) (vg F0) (ng F0) x) (rcl (pg F0) 18 19) y F3 := ac_sub r2 p1 (fun a h => rcl_eq h (nz_fi (p1 33 (by decide))) (nz_fi (p1 36 (by decide))) (nz_fi (p1 37 (by decide))) (nz_fi (p1 38 (by decide))) (nz_fi (p1 18 (by decide))) (nz_fi (p1 19 (by decide))) (p1 43 (by decide)))
      have g3 : gc k0_WP F0 F3 := g1.trans r1 (by decide)
      have hy : sy_i F3 83 = y := zz_i p3
      have k82 := nz_fi (p2 82 (by decide) (by decide))
      have hI3 := rrI_on (n := (sy_i F 83).toInt) (by omega) (by omega) hk0 h2 r2
      refine k0pq_118 (by decide) F3 X1 X2 g3.1 (by omega) ?_
      intro F4 hb g d33 d34 d35 d36 d37 d38 dFR dBU b39 b40 d82 d83
      exact k0pq_l m F4 (g3.trans (gc_mk (W := k0_WP) hb g (by decide)) (fun _ q => q)) hJ (by omega) (by omega) (by omega) (rrI_eq hI3 (by rw [d82, hy]) (by omega) d33 d34 d36 d37 d38 dFR dBU (g 43 (by decide) (by decide)))
    · intro q z _ _ nk _ _ q0 F1 hb g e33 e34 e35 e36 e37 e38 eFR eBU a39 a40 e82
      obtain ⟨m, rfl⟩ : ∃ m', m = m' + 1 := ⟨m - 1, by omega⟩
      obtain ⟨x, h1, h2⟩ := hI.1 z
      obtain ⟨c, hc⟩ : ∃ c, c = ((sy_ai F 39).getD (sy_i F 33).toInt.toNat 0).toInt := ⟨_, rfl⟩
      rw [← hc] at hkF nk q0
      have g1 : gc k0_WP F0 F1 := g0.trans (gc_mk (W := k0_WP) hb g (by decide)) (fun _ q => q)
      have eK1 : kg F1 = kg F0 := kg_eq (g1.2 39 (by decide) (by decide))
      have eV1 : vg F1 = vg F0 := vg_eq (g1.2 41 (by decide) (by decide))
      have eN1 : ng F1 = ng F0 := ng_eq (g1.2 41 (by decide) (by decide))
      have eP1 : pg F1 = pg F0 := pg_eq (g1.2 40 (by decide) (by decide))
      have hx1 : rcl (pg F0) 18 19 x F1 := rcl_eq h1 e33 e36 e37 e38 eFR eBU (g 43 (by decide) (by decide))
      have hk1 : kg F1 (tg F1) = km c := by rw [eK1, tg_eq e33]; exact hkF
      have hkx : kg F0 x.1 = km c := by rw [← h1.1]; exact hkF
      have hk0 : kg F0 x.1 ≠ 0 := by
        rw [hkx]
        exact fun y => by have := km_0.mp y; omega
      have hk2 : kg F1 (tg F1) = 20 := by rw [hk1, q0]; decide
      have hone : sOne (kg F0) (vg F0) (ng F0) x = sFruit (kg F0) (vg F0) (ng F0) x := by
        unfold sOne
        rw [hkx, if_pos (by rw [q0]; decide)]
      refine hd_calI (R := fun y F' => gc k0pf_W F1 F' ∧ ac (sFruit (kg F1) (vg F1) (ng F1) x) (rcl (pg F1) 18 19) y F') (nh := 82) (nv := 83) (s := 0) (s1 := 0) (d1 := 5) (M1 := jm_M33) (As := [.inl (.ref 30)]) (rest := []) jm_ok31 rfl rfl (by decide) (by decide +kernel) (k0pf_T X1 X2 F1 hb hk2 x (by rw [eP1]; exact hx1)) (fun F3 F' y hR p1 p2 p3 => ?_)
      obtain ⟨r1, r2⟩ := hR
      rw [eK1, eV1, eN1, eP1, ← hone] at r2
      have r1 := r1.dst p1
      have r2 : ac (sOne (kg F0) (vg F0) (ng F0) x) (rcl (pg F0) 18 19) y F3 := ac_sub r2 p1 (fun a h => rcl_eq h (nz_fi (p1 33 (by decide))) (nz_fi (p1 36 (by decide))) (nz_fi (p1 37 (by decide))) (nz_fi (p1 38 (by decide))) (nz_fi (p1 18 (by decide))) (nz_fi (p1 19 (by decide))) (p1 43 (by decide)))
      have g3 : gc k0_WP F0 F3 := g1.trans r1 (by decide)
      have hy : sy_i F3 83 = y := zz_i p3
      have k82 := nz_fi (p2 82 (by decide) (by decide))
      have hI3 := rrI_on (n := (sy_i F 83).toInt) (by omega) (by omega) hk0 h2 r2
      refine k0pq_103 (by decide) F3 X1 X2 g3.1 (by omega) ?_
      intro F4 hb g d33 d34 d35 d36 d37 d38 dFR dBU b39 b40 d82 d83
      exact k0pq_l m F4 (g3.trans (gc_mk (W := k0_WP) hb g (by decide)) (fun _ q => q)) hJ (by omega) (by omega) (by omega) (rrI_eq hI3 (by rw [d82, hy]) (by omega) d33 d34 d36 d37 d38 dFR dBU (g 43 (by decide) (by decide)))
end Pk0
noncomputable def k3_WP : List Nat := [3, 4, 5, 6, 7, 8, 9, 10, 11, 12, 13, 14, 15, 16, 17, 33, 34, 36, 37, 38, 43, 44]
section Pk3
variable {Ls : Nat} {xs : Nat → Int32} (X1 X2 : List jm_c) (F0 : Nat → sy_d) (rr : sE ⊕ sT)
theorem k3pq_e (F : Nat → sy_d) (g0 : gc k3_WP F0 F) (n : Int) (hI : rrI (kg F0) (vg F0) (ng F0) (pg F0) 3 4 rr (sy_i F 82).toInt n F) (hend : (sy_i F 82).toInt ≠ 0 → ∀ x, rcl (pg F0) 3 4 x F → sRun (kg F0) (vg F0) (ng F0) (401 - n).toNat x = .inr x) :
    hd_W Ls xs 28 jm_M31 (fun v G => ∃ (x : Int32) (F' : Nat → sy_d), v = some (.int x) ∧ G = sy_dh F' X1 X2 (iv_H 3) ∧ gc (35 :: k3_WP) F0 F' ∧ x.toInt = (sEnd (pg F0) rr).1 ∧ (sy_i F' 35).toInt = (sEnd (pg F0) rr).2) (189, sy_dL F [some (.inl (.ref 30)), none, none, none, some (.inr (.inl 82)), none, none], sy_dS F [], sy_dh F X1 X2 (iv_H 3), 0, 0) := by
  refine k3pq_189 (by decide) F X1 X2 g0.1 ?_ ?_
  · intro q _ _ _ F4 hb g e33 e34 e35 e36 e37 e38 eFR eBU a39 a40
    have h := hI.2 q
    refine ⟨_, F4, rfl, rfl, (g0.mono (by decide)).trans (gc_mk (W := 35 :: k3_WP) hb g (by decide)) (fun _ q => q), ?_, ?_⟩
    · rw [h]
      rfl
    · rw [h, e35]
      show _ = pg F0 (tg F)
      rw [← pg_eq (g0.2 40 (by decide) (by decide))]
      rfl
  · intro q _ F4 hb g e33 e34 e35 e36 e37 e38 eFR eBU a39 a40
    obtain ⟨x, h1, h2⟩ := hI.1 q
    rw [hend q x h1] at h2
    obtain ⟨w1, w2, w3, w4⟩ := h1.2.2.2.2.1
    refine ⟨_, F4, rfl, rfl, (g0.mono (by decide)).trans (gc_mk (W := 35 :: k3_WP) hb g (by decide)) (fun _ q => q), ?_, ?_⟩
    · rw [h2]
      show _ = (if x.2.2.2.2.1 = 0 then (0, -1) else (x.2.2.2.2.1, pg F0 x.2.2.2.2.2) : Int × Int).1
      split <;> (show _ = _; omega)
    · rw [h2]
      show _ = (if x.2.2.2.2.1 = 0 then (0, -1) else (x.2.2.2.2.1, pg F0 x.2.2.2.2.2) : Int × Int).2
      by_cases z : x.2.2.2.2.1 = 0
      · rw [if_pos z, e35, w4 z]
      · rw [if_neg z, e35, w3 z]
theorem k3pq_l : ∀ (m : Nat) (F : Nat → sy_d), gc k3_WP F0 F → jx_ok F0 → 0 ≤ (sy_i F 83).toInt → (sy_i F 83).toInt ≤ 401 → 401 - (sy_i F 83).toInt ≤ m → rrI (kg F0) (vg F0) (ng F0) (pg F0) 3 4 rr (sy_i F 82).toInt (sy_i F 83).toInt F →
    hd_W Ls xs 28 jm_M31 (fun v G => ∃ (x : Int32) (F' : Nat → sy_d), v = some (.int x) ∧ G = sy_dh F' X1 X2 (iv_H 3) ∧ gc (35 :: k3_WP) F0 F' ∧ x.toInt = (sEnd (pg F0) rr).1 ∧ (sy_i F' 35).toInt = (sEnd (pg F0) rr).2) (52, sy_dL F [some (.inl (.ref 30)), none, none, none, some (.inr (.inl 82)), some (.inr (.inl 83)), none], sy_dS F [], sy_dh F X1 X2 (iv_H 3), 0, 0)
  | m, F, g0, hJ, h83, h84, hm, hI => by
    have eK : kg F = kg F0 := kg_eq (g0.2 39 (by decide) (by decide))
    have eV : vg F = vg F0 := vg_eq (g0.2 41 (by decide) (by decide))
    have eN : ng F = ng F0 := ng_eq (g0.2 41 (by decide) (by decide))
    have eP : pg F = pg F0 := pg_eq (g0.2 40 (by decide) (by decide))
    have hJF : jx_ok F := jx_ok_eq (g0.2 39 (by decide) (by decide)) (g0.2 41 (by decide) (by decide)) hJ
    have hkF : kg F0 (tg F) = km ((sy_ai F 39).getD (sy_i F 33).toInt.toNat 0).toInt := by rw [← eK]; rfl
    refine k3pq_52 (by decide) F X1 X2 g0.1 ⟨h83, h84⟩ ?_ ?_ ?_ ?_ ?_ ?_ ?_ ?_ ?_
    · intro q F1 hb g e33 e34 e35 e36 e37 e38 eFR eBU a39 a40 e82
      refine k3pq_e X1 X2 F0 rr F1 (g0.trans (gc_mk (W := k3_WP) hb g (by decide)) (fun _ q => q)) (sy_i F 83).toInt (rrI_eq hI e82 rfl e33 e34 e36 e37 e38 eFR eBU (g 43 (by decide) (by decide))) (fun _ x _ => ?_)
      rw [show (401 - (sy_i F 83).toInt).toNat = 0 by omega]
      rfl
    · intro q z F1 hb g e33 e34 e35 e36 e37 e38 eFR eBU a39 a40 e82
      exact k3pq_e X1 X2 F0 rr F1 (g0.trans (gc_mk (W := k3_WP) hb g (by decide)) (fun _ q => q)) (sy_i F 83).toInt (rrI_eq hI e82 rfl e33 e34 e36 e37 e38 eFR eBU (g 43 (by decide) (by decide))) (fun y => absurd (e82.trans z) y)
    · intro q z _ _ hk F1 hb g e33 e34 e35 e36 e37 e38 eFR eBU a39 a40 e82
      refine k3pq_e X1 X2 F0 rr F1 (g0.trans (gc_mk (W := k3_WP) hb g (by decide)) (fun _ q => q)) (sy_i F 83).toInt (rrI_eq hI e82 rfl e33 e34 e36 e37 e38 eFR eBU (g 43 (by decide) (by decide))) (fun _ x hx => ?_)
      rw [show (401 - (sy_i F 83).toInt).toNat = (400 - (sy_i F 83).toInt).toNat + 1 by omega]
      show (if kg F0 x.1 = 0 then _ else _) = _
      rw [if_pos (by rw [← hx.1, tg_eq e33, hkF, hk]; decide)]
    · intro q z _ _ nk _ _ q0 q1 q2 q3 F1 hb g e33 e34 e35 e36 e37 e38 eFR eBU a39 a40 e82 e83
      obtain ⟨m, rfl⟩ : ∃ m', m = m' + 1 := ⟨m - 1, by omega⟩
      refine k3pq_l m F1 (g0.trans (gc_mk (W := k3_WP) hb g (by decide)) (fun _ q => q)) hJ (by omega) (by omega) (by omega) ⟨fun y => absurd e82 y, fun _ => ?_⟩
      obtain ⟨x, h1, h2⟩ := hI.1 z
      rw [h2, show (401 - (sy_i F 83).toInt).toNat = (400 - (sy_i F 83).toInt).toNat + 1 by omega, e34, tg_eq e33]
      show (if kg F0 x.1 = 0 then _ else _) = _
      obtain ⟨c, hc⟩ : ∃ c, c = ((sy_ai F 39).getD (sy_i F 33).toInt.toNat 0).toInt := ⟨_, rfl⟩
      rw [← hc] at hkF nk q0 q1 q2 q3
      have j0 : ¬ km c = 0 := fun y => by have := km_0.mp y; omega
      have j1 : sOne (kg F0) (vg F0) (ng F0) x = .inl (1, x.1) := by
        unfold sOne
        rw [← h1.1, hkF, if_neg (fun y => by have := (km_w (by decide) (by decide)).mp y; omega), if_neg (fun y => by have := (km_w (by decide) (by decide)).mp y; omega), if_neg (fun y => by rcases y with y | y <;> (have := (km_w (by decide) (by decide)).mp y; omega)), if_neg (fun y => by have := (km_w (by decide) (by decide)).mp y; omega), if_neg (fun y => by
          have := (km_w (c := c) (k := km c) (by omega) (by omega)).mp rfl
          omega)]
      rw [if_neg (by rw [← h1.1, hkF]; exact j0), j1, h1.1]
      rfl
    · intro q z _ _ nk _ _ q0 q1 q2 q3 q4 q5 F1 hb g e33 e34 e35 e36 e37 e38 eFR eBU a39 a40 e82 e83
      obtain ⟨m, rfl⟩ : ∃ m', m = m' + 1 := ⟨m - 1, by omega⟩
      refine k3pq_l m F1 (g0.trans (gc_mk (W := k3_WP) hb g (by decide)) (fun _ q => q)) hJ (by omega) (by omega) (by omega) ⟨fun y => absurd e82 y, fun _ => ?_⟩
      obtain ⟨x, h1, h2⟩ := hI.1 z
      rw [h2, show (401 - (sy_i F 83).toInt).toNat = (400 - (sy_i F 83).toInt).toNat + 1 by omega, e34, tg_eq e33]
      show (if kg F0 x.1 = 0 then _ else _) = _
      obtain ⟨c, hc⟩ : ∃ c, c = ((sy_ai F 39).getD (sy_i F 33).toInt.toNat 0).toInt := ⟨_, rfl⟩
      rw [← hc] at hkF nk q0 q1 q2 q3 q4 q5
      have j0 : ¬ km c = 0 := fun y => by have := km_0.mp y; omega
      have j1 : sOne (kg F0) (vg F0) (ng F0) x = .inl (1, x.1) := by
        unfold sOne
        rw [← h1.1, hkF, if_neg (fun y => by have := (km_w (by decide) (by decide)).mp y; omega), if_neg (fun y => by have := (km_w (by decide) (by decide)).mp y; omega), if_neg (fun y => by rcases y with y | y <;> (have := (km_w (by decide) (by decide)).mp y; omega)), if_neg (fun y => by have := (km_w (by decide) (by decide)).mp y; omega), if_neg (fun y => by
          have := (km_w (c := c) (k := km c) (by omega) (by omega)).mp rfl
          omega)]
      rw [if_neg (by rw [← h1.1, hkF]; exact j0), j1, h1.1]
      rfl
    · intro q z _ _ nk _ _ q0 q1 q2 q3 q4 q5 F1 hb g e33 e34 e35 e36 e37 e38 eFR eBU a39 a40 e82 e83
      obtain ⟨m, rfl⟩ : ∃ m', m = m' + 1 := ⟨m - 1, by omega⟩
      obtain ⟨x, h1, h2⟩ := hI.1 z
      obtain ⟨c, hc⟩ : ∃ c, c = ((sy_ai F 39).getD (sy_i F 33).toInt.toNat 0).toInt := ⟨_, rfl⟩
      rw [← hc] at hkF nk q0 q1 q2 q3 q4 q5 e83
      have g1 : gc k3_WP F0 F1 := g0.trans (gc_mk (W := k3_WP) hb g (by decide)) (fun _ q => q)
      have eK1 : kg F1 = kg F0 := kg_eq (g1.2 39 (by decide) (by decide))
      have eV1 : vg F1 = vg F0 := vg_eq (g1.2 41 (by decide) (by decide))
      have eN1 : ng F1 = ng F0 := ng_eq (g1.2 41 (by decide) (by decide))
      have eP1 : pg F1 = pg F0 := pg_eq (g1.2 40 (by decide) (by decide))
      have hx1 : rcl (pg F0) 3 4 x F1 := rcl_eq h1 e33 e36 e37 e38 eFR eBU (g 43 (by decide) (by decide))
      have hk1 : kg F1 (tg F1) = km c := by rw [eK1, tg_eq e33]; exact hkF
      have hkx : kg F0 x.1 = km c := by rw [← h1.1]; exact hkF
      have hk0 : kg F0 x.1 ≠ 0 := by
        rw [hkx]
        exact fun y => by have := km_0.mp y; omega
      have hone : sOne (kg F0) (vg F0) (ng F0) x = sSet (kg F0) (vg F0) (sHi c) x := by
        unfold sOne
        rw [hkx, km_r (by omega) (by omega), if_neg (by omega), if_neg (by omega)]
        unfold sHi
        by_cases z : c = 10
        · rw [if_neg (by omega), if_pos (by omega), if_pos z]
        · rw [if_pos (by omega), if_neg z]
      refine hd_calI (R := fun y F' => gc k3pg_W F1 F' ∧ ac (sSet (kg F1) (vg F1) (sHi (sy_i F1 83).toInt) x) (rcl (pg F1) 3 4) y F') (nh := 82) (nv := 84) (s := 3) (s1 := 3) (d1 := 5) (M1 := jm_M35) (As := [.inl (.ref 30), .inr (.inl 83)]) (rest := []) jm_ok31 rfl rfl (by decide) (by decide +kernel) (k3pg_T X1 X2 F1 hb (sy_i F1 83) (by omega) (by rw [hk1, e83]) x (by rw [eP1]; exact hx1)) (fun F3 F' y hR p1 p2 p3 => ?_)
      obtain ⟨r1, r2⟩ := hR
      rw [eK1, eV1, eP1, e83, ← hone] at r2
      have r1 := r1.dst p1
      have r2 : ac (sOne (kg F0) (vg F0) (ng F0) x) (rcl (pg F0) 3 4) y F3 := ac_sub r2 p1 (fun a h => rcl_eq h (nz_fi (p1 33 (by decide))) (nz_fi (p1 36 (by decide))) (nz_fi (p1 37 (by decide))) (nz_fi (p1 38 (by decide))) (nz_fi (p1 3 (by decide))) (nz_fi (p1 4 (by decide))) (p1 43 (by decide)))
      have g3 : gc k3_WP F0 F3 := g1.trans r1 (by decide)
      have hy : sy_i F3 84 = y := zz_i p3
      have k82 := nz_fi (p2 82 (by decide) (by decide))
      have hI3 := rrI_on (n := (sy_i F 83).toInt) (by omega) (by omega) hk0 h2 r2
      refine k3pq_171 (by decide) F3 X1 X2 g3.1 (by omega) ?_
      intro F4 hb g d33 d34 d35 d36 d37 d38 dFR dBU b39 b40 d82 d83
      exact k3pq_l m F4 (g3.trans (gc_mk (W := k3_WP) hb g (by decide)) (fun _ q => q)) hJ (by omega) (by omega) (by omega) (rrI_eq hI3 (by rw [d82, hy]) (by omega) d33 d34 d36 d37 d38 dFR dBU (g 43 (by decide) (by decide)))
    · intro q z _ _ nk _ _ q0 q1 q2 q3 F1 hb g e33 e34 e35 e36 e37 e38 eFR eBU a39 a40 e82 e83 e84
      obtain ⟨m, rfl⟩ : ∃ m', m = m' + 1 := ⟨m - 1, by omega⟩
      obtain ⟨x, h1, h2⟩ := hI.1 z
      obtain ⟨c, hc⟩ : ∃ c, c = ((sy_ai F 39).getD (sy_i F 33).toInt.toNat 0).toInt := ⟨_, rfl⟩
      rw [← hc] at hkF nk q0 q1 q2 q3 e83 e84
      have g1 : gc k3_WP F0 F1 := g0.trans (gc_mk (W := k3_WP) hb g (by decide)) (fun _ q => q)
      have eK1 : kg F1 = kg F0 := kg_eq (g1.2 39 (by decide) (by decide))
      have eV1 : vg F1 = vg F0 := vg_eq (g1.2 41 (by decide) (by decide))
      have eN1 : ng F1 = ng F0 := ng_eq (g1.2 41 (by decide) (by decide))
      have eP1 : pg F1 = pg F0 := pg_eq (g1.2 40 (by decide) (by decide))
      have hx1 : rcl (pg F0) 3 4 x F1 := rcl_eq h1 e33 e36 e37 e38 eFR eBU (g 43 (by decide) (by decide))
      have hk1 : kg F1 (tg F1) = km c := by rw [eK1, tg_eq e33]; exact hkF
      have hkx : kg F0 x.1 = km c := by rw [← h1.1]; exact hkF
      have hk0 : kg F0 x.1 ≠ 0 := by
        rw [hkx]
        exact fun y => by have := km_0.mp y; omega
      have hone : sOne (kg F0) (vg F0) (ng F0) x = sB (plr (kg F0) x.1) (fun t => .inr (t, x.2)) := by
        unfold sOne
        rw [hkx, km_r (by omega) (by omega), if_neg (by omega), if_neg (by omega), if_neg (by omega), if_neg (by omega), if_pos (by omega)]
        exact plr_eq x
      refine hd_calI (R := fun y F' => plR k3_WL y F1 F') (nh := 82) (nv := 85) (s := 3) (s1 := 3) (d1 := 26) (M1 := jm_M36) (As := [.inl (.ref 30), .inr (.inl 84), .inr (.inl 83)]) (rest := []) jm_ok31 rfl rfl (by decide) (by decide +kernel) (k3pl_T X1 X2 F1 (sy_i F1 84) (sy_i F1 83) hb (jx_ok_eq (g 39 (by decide) (by decide)) (g 41 (by decide) (by decide)) hJF) (by omega) (by omega) (by omega) (by rw [a39, e33, ← hc, e84])) (fun F3 F' y hR p1 p2 p3 => ?_)
      obtain ⟨r1, r2⟩ := plR_dst hR p1
      rw [eK1, hx1.1] at r2
      have r2 : ac (sOne (kg F0) (vg F0) (ng F0) x) (rcl (pg F0) 3 4) y F3 := by
        rcases r2 with ⟨a, b⟩ | ⟨a, b⟩
        · exact Or.inl ⟨a, by rw [hone, b]; rfl⟩
        · refine Or.inr ⟨a, (tg F3, x.2), by rw [hone, b]; rfl, rfl, ?_⟩
          have h := rcl_eq (F1 := fun j => if j = 33 then F1 33 else F3 j) hx1 rfl (nz_fi (r1.2 36 (by decide) (by decide))) (nz_fi (r1.2 37 (by decide) (by decide))) (nz_fi (r1.2 38 (by decide) (by decide))) (nz_fi (r1.2 3 (by decide) (by decide))) (nz_fi (r1.2 4 (by decide) (by decide))) (r1.2 43 (by decide) (by decide))
          obtain ⟨a1, a2, a3, a4, a5, a6⟩ := h
          exact ⟨a2, a3, ncr_eq a4 rfl rfl, wc_eq a5 rfl rfl, a6⟩
      have g3 : gc k3_WP F0 F3 := g1.trans r1 (by decide)
      have hy : sy_i F3 85 = y := zz_i p3
      have k82 := nz_fi (p2 82 (by decide) (by decide))
      have hI3 := rrI_on (n := (sy_i F 83).toInt) (by omega) (by omega) hk0 h2 r2
      refine k3pq_146 (by decide) F3 X1 X2 g3.1 (by omega) ?_
      intro F4 hb g d33 d34 d35 d36 d37 d38 dFR dBU b39 b40 d82 d83
      exact k3pq_l m F4 (g3.trans (gc_mk (W := k3_WP) hb g (by decide)) (fun _ q => q)) hJ (by omega) (by omega) (by omega) (rrI_eq hI3 (by rw [d82, hy]) (by omega) d33 d34 d36 d37 d38 dFR dBU (g 43 (by decide) (by decide)))
    · intro q z _ _ nk _ _ q0 q1 F1 hb g e33 e34 e35 e36 e37 e38 eFR eBU a39 a40 e82
      obtain ⟨m, rfl⟩ : ∃ m', m = m' + 1 := ⟨m - 1, by omega⟩
      obtain ⟨x, h1, h2⟩ := hI.1 z
      obtain ⟨c, hc⟩ : ∃ c, c = ((sy_ai F 39).getD (sy_i F 33).toInt.toNat 0).toInt := ⟨_, rfl⟩
      rw [← hc] at hkF nk q0 q1
      have g1 : gc k3_WP F0 F1 := g0.trans (gc_mk (W := k3_WP) hb g (by decide)) (fun _ q => q)
      have eK1 : kg F1 = kg F0 := kg_eq (g1.2 39 (by decide) (by decide))
      have eV1 : vg F1 = vg F0 := vg_eq (g1.2 41 (by decide) (by decide))
      have eN1 : ng F1 = ng F0 := ng_eq (g1.2 41 (by decide) (by decide))
      have eP1 : pg F1 = pg F0 := pg_eq (g1.2 40 (by decide) (by decide))
      have hx1 : rcl (pg F0) 3 4 x F1 := rcl_eq h1 e33 e36 e37 e38 eFR eBU (g 43 (by decide) (by decide))
      have hk1 : kg F1 (tg F1) = km c := by rw [eK1, tg_eq e33]; exact hkF
      have hkx : kg F0 x.1 = km c := by rw [← h1.1]; exact hkF
      have hk0 : kg F0 x.1 ≠ 0 := by
        rw [hkx]
        exact fun y => by have := km_0.mp y; omega
      have hk2 : kg F1 (tg F1) = 21 := by rw [hk1, q1]; decide
      have hone : sOne (kg F0) (vg F0) (ng F0) x = sBuyer (kg F0) (vg F0) (ng F0) x := by
        unfold sOne
        rw [hkx, if_neg (by rw [q1]; decide), if_pos (by rw [q1]; decide)]
      refine hd_calI (R := fun y F' => gc k3pb_W F1 F' ∧ ac (sBuyer (kg F1) (vg F1) (ng F1) x) (rcl (pg F1) 3 4) y F') (nh := 82) (nv := 83) (s := 3) (s1 := 3) (d1 := 5) (M1 := jm_M34) (As := [.inl (.ref 30)]) (rest := []) jm_ok31 rfl rfl (by decide) (by decide +kernel) (k3pb_T X1 X2 F1 hb hk2 x (by rw [eP1]; exact hx1)) (fun F3 F' y hR p1 p2 p3 => ?_)
      obtain ⟨r1, r2⟩ := hR
      rw [eK1, eV1, eN1, eP1, ← hone] at r2
      have r1 := r1.dst p1
      have r2 : ac (sOne (kg F0) (vg F0) (ng F0) x) (rcl (pg F0) 3 4) y F3 := ac_sub r2 p1 (fun a h => rcl_eq h (nz_fi (p1 33 (by decide))) (nz_fi (p1 36 (by decide))) (nz_fi (p1 37 (by decide))) (nz_fi (p1 38 (by decide))) (nz_fi (p1 3 (by decide))) (nz_fi (p1 4 (by decide))) (p1 43 (by decide)))
      have g3 : gc k3_WP F0 F3 := g1.trans r1 (by decide)
      have hy : sy_i F3 83 = y := zz_i p3
      have k82 := nz_fi (p2 82 (by decide) (by decide))
      have hI3 := rrI_on (n := (sy_i F 83).toInt) (by omega) (by omega) hk0 h2 r2
      refine k3pq_118 (by decide) F3 X1 X2 g3.1 (by omega) ?_
      intro F4 hb g d33 d34 d35 d36 d37 d38 dFR dBU b39 b40 d82 d83
      exact k3pq_l m F4 (g3.trans (gc_mk (W := k3_WP) hb g (by decide)) (fun _ q => q)) hJ (by omega) (by omega) (by omega) (rrI_eq hI3 (by rw [d82, hy]) (by omega) d33 d34 d36 d37 d38 dFR dBU (g 43 (by decide) (by decide)))
    · intro q z _ _ nk _ _ q0 F1 hb g e33 e34 e35 e36 e37 e38 eFR eBU a39 a40 e82
      obtain ⟨m, rfl⟩ : ∃ m', m = m' + 1 := ⟨m - 1, by omega⟩
      obtain ⟨x, h1, h2⟩ := hI.1 z
      obtain ⟨c, hc⟩ : ∃ c, c = ((sy_ai F 39).getD (sy_i F 33).toInt.toNat 0).toInt := ⟨_, rfl⟩
      rw [← hc] at hkF nk q0
      have g1 : gc k3_WP F0 F1 := g0.trans (gc_mk (W := k3_WP) hb g (by decide)) (fun _ q => q)
      have eK1 : kg F1 = kg F0 := kg_eq (g1.2 39 (by decide) (by decide))
      have eV1 : vg F1 = vg F0 := vg_eq (g1.2 41 (by decide) (by decide))
      have eN1 : ng F1 = ng F0 := ng_eq (g1.2 41 (by decide) (by decide))
      have eP1 : pg F1 = pg F0 := pg_eq (g1.2 40 (by decide) (by decide))
      have hx1 : rcl (pg F0) 3 4 x F1 := rcl_eq h1 e33 e36 e37 e38 eFR eBU (g 43 (by decide) (by decide))
      have hk1 : kg F1 (tg F1) = km c := by rw [eK1, tg_eq e33]; exact hkF
      have hkx : kg F0 x.1 = km c := by rw [← h1.1]; exact hkF
      have hk0 : kg F0 x.1 ≠ 0 := by
        rw [hkx]
        exact fun y => by have := km_0.mp y; omega
      have hk2 : kg F1 (tg F1) = 20 := by rw [hk1, q0]; decide
      have hone : sOne (kg F0) (vg F0) (ng F0) x = sFruit (kg F0) (vg F0) (ng F0) x := by
        unfold sOne
        rw [hkx, if_pos (by rw [q0]; decide)]
      refine hd_calI (R := fun y F' => gc k3pf_W F1 F' ∧ ac (sFruit (kg F1) (vg F1) (ng F1) x) (rcl (pg F1) 3 4) y F') (nh := 82) (nv := 83) (s := 3) (s1 := 3) (d1 := 5) (M1 := jm_M33) (As := [.inl (.ref 30)]) (rest := []) jm_ok31 rfl rfl (by decide) (by decide +kernel) (k3pf_T X1 X2 F1 hb hk2 x (by rw [eP1]; exact hx1)) (fun F3 F' y hR p1 p2 p3 => ?_)
      obtain ⟨r1, r2⟩ := hR
      rw [eK1, eV1, eN1, eP1, ← hone] at r2
      have r1 := r1.dst p1
      have r2 : ac (sOne (kg F0) (vg F0) (ng F0) x) (rcl (pg F0) 3 4) y F3 := ac_sub r2 p1 (fun a h => rcl_eq h (nz_fi (p1 33 (by decide))) (nz_fi (p1 36 (by decide))) (nz_fi (p1 37 (by decide))) (nz_fi (p1 38 (by decide))) (nz_fi (p1 3 (by decide))) (nz_fi (p1 4 (by decide))) (p1 43 (by decide)))
      have g3 : gc k3_WP F0 F3 := g1.trans r1 (by decide)
      have hy : sy_i F3 83 = y := zz_i p3
      have k82 := nz_fi (p2 82 (by decide) (by decide))
      have hI3 := rrI_on (n := (sy_i F 83).toInt) (by omega) (by omega) hk0 h2 r2
      refine k3pq_103 (by decide) F3 X1 X2 g3.1 (by omega) ?_
      intro F4 hb g d33 d34 d35 d36 d37 d38 dFR dBU b39 b40 d82 d83
      exact k3pq_l m F4 (g3.trans (gc_mk (W := k3_WP) hb g (by decide)) (fun _ q => q)) hJ (by omega) (by omega) (by omega) (rrI_eq hI3 (by rw [d82, hy]) (by omega) d33 d34 d36 d37 d38 dFR dBU (g 43 (by decide) (by decide)))
end Pk3
theorem k0py_9T {Ls : Nat} {xs : Nat → Int32} (X1 X2 : List jm_c) (F : Nat → sy_d) (hB : iv_in F iv_B0) (hJ : jx_ok F) : hd_W Ls xs 28 jm_M31 (fun v G => ∃ (x : Int32) (F' : Nat → sy_d), v = some (.int x) ∧ G = sy_dh F' X1 X2 (iv_H 0) ∧ gc (35 :: k0_WP) F F' ∧ x.toInt = (sEnd (pg F) (sRun (kg F) (vg F) (ng F) 401 (0, 0, 0, [], (0, 0)))).1 ∧ (sy_i F' 35).toInt = (sEnd (pg F) (sRun (kg F) (vg F) (ng F) 401 (0, 0, 0, [], (0, 0)))).2) (9, sy_dL F [some (.inl (.ref 30)), none, none, some (.inl (.ref 20)), none, none, none], sy_dS F [], sy_dh F X1 X2 (iv_H 0), 0, 0) := by
  refine k0py_9 (by decide) F X1 X2 hB ?_
  intro F1 hb g e33 e34 e36 e37 e38 eFR eBU e82 e83
  refine k0pq_l X1 X2 F _ 401 F1 (gc_mk hb g (by decide)) hJ (by omega) (by omega) (by omega) ⟨fun _ => ⟨(0, 0, 0, [], (0, 0)), ⟨by unfold tg; rw [e33]; rfl, eFR, eBU, ?_, ⟨e36, (show (0 : Int) ≤ 0 by decide), fun z => absurd rfl z, fun _ => e37⟩, by rw [e38]; decide⟩, by rw [e83]; rfl⟩, fun z => by omega⟩
  show ∀ y, y ∈ ([] : List Int64) ↔ _
  intro y
  rw [e38]
  simp [mlc]
theorem k1py_9T {Ls : Nat} {xs : Nat → Int32} (X1 X2 : List jm_c) (F : Nat → sy_d) (hB : iv_in F iv_B0) (hJ : jx_ok F) : hd_W Ls xs 28 jm_M31 (fun v G => ∃ (x : Int32) (F' : Nat → sy_d), v = some (.int x) ∧ G = sy_dh F' X1 X2 (iv_H 0) ∧ gc (35 :: k0_WP) F F' ∧ x.toInt = (sEnd (pg F) (sRun (kg F) (vg F) (ng F) 401 (0, 0, 0, [], (0, 0)))).1 ∧ (sy_i F' 35).toInt = (sEnd (pg F) (sRun (kg F) (vg F) (ng F) 401 (0, 0, 0, [], (0, 0)))).2) (9, sy_dL F [some (.inl (.ref 30)), none, none, some (.inl (.ref 20)), none, none, none], sy_dS F [], sy_dh F X1 X2 (iv_H 1), 0, 0) := by
  refine k1py_9 (by decide) F X1 X2 hB ?_
  intro F1 hb g e33 e34 e36 e37 e38 eFR eBU e82 e83
  refine k0pq_l X1 X2 F _ 401 F1 (gc_mk hb g (by decide)) hJ (by omega) (by omega) (by omega) ⟨fun _ => ⟨(0, 0, 0, [], (0, 0)), ⟨by unfold tg; rw [e33]; rfl, eFR, eBU, ?_, ⟨e36, (show (0 : Int) ≤ 0 by decide), fun z => absurd rfl z, fun _ => e37⟩, by rw [e38]; decide⟩, by rw [e83]; rfl⟩, fun z => by omega⟩
  show ∀ y, y ∈ ([] : List Int64) ↔ _
  intro y
  rw [e38]
  simp [mlc]
theorem k2py_9T {Ls : Nat} {xs : Nat → Int32} (X1 X2 : List jm_c) (F : Nat → sy_d) (hB : iv_in F iv_B0) (hJ : jx_ok F) : hd_W Ls xs 28 jm_M31 (fun v G => ∃ (x : Int32) (F' : Nat → sy_d), v = some (.int x) ∧ G = sy_dh F' X1 X2 (iv_H 3) ∧ gc (35 :: k3_WP) F F' ∧ x.toInt = (sEnd (pg F) (sRun (kg F) (vg F) (ng F) 401 (0, 0, 0, [], (0, 0)))).1 ∧ (sy_i F' 35).toInt = (sEnd (pg F) (sRun (kg F) (vg F) (ng F) 401 (0, 0, 0, [], (0, 0)))).2) (9, sy_dL F [some (.inl (.ref 30)), none, none, some (.inl (.ref 10)), none, none, none], sy_dS F [], sy_dh F X1 X2 (iv_H 2), 0, 0) := by
  refine k2py_9 (by decide) F X1 X2 hB ?_
  intro F1 hb g e33 e34 e36 e37 e38 eFR eBU e82 e83
  refine k3pq_l X1 X2 F _ 401 F1 (gc_mk hb g (by decide)) hJ (by omega) (by omega) (by omega) ⟨fun _ => ⟨(0, 0, 0, [], (0, 0)), ⟨by unfold tg; rw [e33]; rfl, eFR, eBU, ?_, ⟨e36, (show (0 : Int) ≤ 0 by decide), fun z => absurd rfl z, fun _ => e37⟩, by rw [e38]; decide⟩, by rw [e83]; rfl⟩, fun z => by omega⟩
  show ∀ y, y ∈ ([] : List Int64) ↔ _
  intro y
  rw [e38]
  simp [mlc]
theorem k3py_9T {Ls : Nat} {xs : Nat → Int32} (X1 X2 : List jm_c) (F : Nat → sy_d) (hB : iv_in F iv_B0) (hJ : jx_ok F) : hd_W Ls xs 28 jm_M31 (fun v G => ∃ (x : Int32) (F' : Nat → sy_d), v = some (.int x) ∧ G = sy_dh F' X1 X2 (iv_H 3) ∧ gc (35 :: k3_WP) F F' ∧ x.toInt = (sEnd (pg F) (sRun (kg F) (vg F) (ng F) 401 (0, 0, 0, [], (0, 0)))).1 ∧ (sy_i F' 35).toInt = (sEnd (pg F) (sRun (kg F) (vg F) (ng F) 401 (0, 0, 0, [], (0, 0)))).2) (9, sy_dL F [some (.inl (.ref 30)), none, none, some (.inl (.ref 10)), none, none, none], sy_dS F [], sy_dh F X1 X2 (iv_H 3), 0, 0) := by
  refine k3py_9 (by decide) F X1 X2 hB ?_
  intro F1 hb g e33 e34 e36 e37 e38 eFR eBU e82 e83
  refine k3pq_l X1 X2 F _ 401 F1 (gc_mk hb g (by decide)) hJ (by omega) (by omega) (by omega) ⟨fun _ => ⟨(0, 0, 0, [], (0, 0)), ⟨by unfold tg; rw [e33]; rfl, eFR, eBU, ?_, ⟨e36, (show (0 : Int) ≤ 0 by decide), fun z => absurd rfl z, fun _ => e37⟩, by rw [e38]; decide⟩, by rw [e83]; rfl⟩, fun z => by omega⟩
  show ∀ y, y ∈ ([] : List Int64) ↔ _
  intro y
  rw [e38]
  simp [mlc]
