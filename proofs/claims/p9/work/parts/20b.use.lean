/-! ===== what the two keep, call by call ===== -/
noncomputable def nx (n : Nat) (F : Nat → sy_d) (as : List Int32) : Nat → sy_d := fun j => if j < n then F j else .inl (.int (as.getD (j - n) 0))
theorem nx_lt {n : Nat} {F : Nat → sy_d} {as : List Int32} : ∀ j, j < n → nx n F as j = F j := fun j h => by
  unfold nx
  rw [if_pos h]
theorem nx_at {n : Nat} {F : Nat → sy_d} {as : List Int32} (i : Nat) : nx n F as (n + i) = .inl (.int (as.getD i 0)) := by
  unfold nx
  rw [if_neg (by omega), Nat.add_sub_cancel_left]
noncomputable def hps (F : Nat → sy_d) : Nat → List iv_t → Prop
  | _, [] => True
  | k, t :: r => iv_has (F k) t ∧ hps F (k + 1) r
theorem hps_at {F : Nat → sy_d} : ∀ (P : List iv_t) (k i : Nat) (t : iv_t), hps F k P → P[i]? = some t → iv_has (F (k + i)) t
  | [], _, _, _, _, h => by simp at h
  | q :: r, k, 0, t, h, e => by
    have e : some q = some t := e
    cases e
    exact h.1
  | q :: r, k, i + 1, t, h, e => by
    have e : r[i]? = some t := e
    have := hps_at r (k + 1) i t h.2 e
    rwa [show k + 1 + i = k + (i + 1) by omega] at this
theorem iv_app {F : Nat → sy_d} {B P : List iv_t} {n : Nat} (hn : B.length = n) (hB : iv_in F B) (hP : hps F n P) : iv_in F (B ++ P) := by
  intro k t h
  by_cases q : k < n
  · rw [List.getElem?_append_left (by omega)] at h
    exact hB k t h
  · rw [List.getElem?_append_right (by omega)] at h
    have := hps_at P n (k - n) t hP (by rw [← hn]; exact h)
    rwa [show n + (k - n) = k by omega] at this
theorem iv_nx {F : Nat → sy_d} {B : List iv_t} {n : Nat} {as : List Int32} (hn : B.length = n) (hB : iv_in F B) : iv_in (nx n F as) B := iv_in_eq hB (fun j hj => nx_lt j (by omega))
theorem iv_tf (x : Int32) : iv_has (.inl (.int (if x = 0 then 0 else 1))) (0, 0, 1) := by
  by_cases h : x = 0
  · rw [if_pos h]
    exact ⟨rfl, by decide, by decide⟩
  · rw [if_neg h]
    exact ⟨rfl, by decide, by decide⟩
theorem iv_az (x : Int32) : iv_has (.inl (.int x)) iz0 := nz_hz rfl
theorem dh_x : ∀ {s : Nat} (F : Nat → sy_d) (X1 X2 : List jm_c), s < 4 → sy_dh F X1 X2 (iv_H s) = ((sy_dh F [] [] (iv_H s)).1, X2)
  | 0, _, _, _, _ => rfl
  | 1, _, _, _, _ => rfl
  | 2, _, _, _, _ => rfl
  | 3, _, _, _, _ => rfl
  | n + 4, _, _, _, h => absurd h (by omega)
theorem dh_m (F : Nat → sy_d) (X1 X2 : List jm_c) : sy_dh F X1 X2 (iv_H 4) = (X1, (sy_dh F [] [] (iv_H 4)).2) := rfl
theorem dh_nx : ∀ {s : Nat} {F F0 : Nat → sy_d}, s < 4 → (∀ j, j < 82 → F0 j = F j) → (sy_dh F [] [] (iv_H s)).1 = (sy_dh F0 [] [] (iv_H s)).1
  | 0, F, F0, _, h => by
    have g : sy_gw 82 (iv_H 0).1 = true := by decide +kernel
    simp only [sy_dh, sy_gw_ok g h]
  | 1, F, F0, _, h => by
    have g : sy_gw 82 (iv_H 1).1 = true := by decide +kernel
    simp only [sy_dh, sy_gw_ok g h]
  | 2, F, F0, _, h => by
    have g : sy_gw 82 (iv_H 2).1 = true := by decide +kernel
    simp only [sy_dh, sy_gw_ok g h]
  | 3, F, F0, _, h => by
    have g : sy_gw 82 (iv_H 3).1 = true := by decide +kernel
    simp only [sy_dh, sy_gw_ok g h]
  | n + 4, _, _, h, _ => absurd h (by omega)
/-- the class's cells keep their bounds, taped is tau; the reference's are C2 -/
noncomputable def nv1 (C2 : List jm_c) (tau : Int32) (G : jm_h) : Prop := ∃ (t : Nat) (F : Nat → sy_d), t < 4 ∧ G = ((sy_dh F [] [] (iv_H t)).1, C2) ∧ iv_in F iv_B0 ∧ jx_ok F ∧ sy_i F 0 = tau
noncomputable def nv2 (C1 : List jm_c) (tau : Int32) (G : jm_h) : Prop := ∃ F : Nat → sy_d, G = (C1, (sy_dh F [] [] (iv_H 4)).2) ∧ iv_in F iv_B4 ∧ jm_rpn F ∧ sy_i F 1 = tau
/-- both keep their bounds, and taped is alike -/
noncomputable def nv (G : jm_h) : Prop := ∃ (s : Nat) (F F2 : Nat → sy_d), s < 4 ∧ G = ((sy_dh F [] [] (iv_H s)).1, (sy_dh F2 [] [] (iv_H 4)).2) ∧ iv_in F iv_B0 ∧ jx_ok F ∧ iv_in F2 iv_B4 ∧ jm_rpn F2 ∧ sy_i F 0 = sy_i F2 1
noncomputable def xT (Ls : Nat) (xs : Nat → Int32) (M : jm_M) (As : List Value) (V : Int32 → Int32 → Prop) (f : Int32 → Int32) : Prop := ∀ (s : Nat) (F : Nat → sy_d) (X2 : List jm_c), s < 4 → iv_in F iv_B0 → jx_ok F → ∃ d, d ≤ 60 ∧ jm_T Ls xs d M (.ref 8 :: As) ((sy_dh F [] [] (iv_H s)).1, X2) 0 0 (fun v G => (∃ r : Int32, v = some (.int r) ∧ V (sy_i F 0) r) ∧ nv1 X2 (f (sy_i F 0)) G)
noncomputable def mT (Ls : Nat) (xs : Nat → Int32) (M : jm_M) (As : List Value) (V : Int32 → Int32 → Prop) (f : Int32 → Int32) : Prop := ∃ d, d ≤ 60 ∧ ∀ (F : Nat → sy_d) (X1 : List jm_c), iv_in F iv_B4 → jm_rpn F → jm_T Ls xs d M (.ref 1000 :: As) (X1, (sy_dh F [] [] (iv_H 4)).2) 0 0 (fun v G => (∃ r : Int32, v = some (.int r) ∧ V (sy_i F 1) r) ∧ nv2 X1 (f (sy_i F 1)) G)
theorem iv_ri {v : Option Value} {r : iv_t} (h : iv_ro v (some r)) (hr : r.1 = 0) : ∃ x : Int32, v = some (.int x) ∧ r.2.1 ≤ x.toInt ∧ x.toInt ≤ r.2.2 := by
  match v, h with
  | some (.int x), h => exact ⟨x, rfl, h.2.1, h.2.2⟩
  | some (.long x), h => exact absurd (h.1.symm.trans hr) (by decide)
theorem jj_x {s : Nat} {F : Nat → sy_d} (hs : s < 4) : jj s F ↔ jx_ok F := by
  unfold jj
  rw [if_neg (by omega)]
theorem ct_x {n s d : Nat} {ts Wr : List Nat} {A : List sy_v} {E : List iv_t} {r : iv_t} {M : jm_M} (as : List Int32) (h : ct_ok jj (n, A, s, ts, E, Wr, iv_B0, some r, d)) (hM : jm_TB[n]? = some M) (hs : s < 4) (hts : ∀ t ∈ ts, t < 4) (hW : Wr.contains 0 = false) (hr : r.1 = 0) (hA : ∀ F, A.map (sy_dv (nx 82 F as)) = .ref 8 :: as.map .int) (hE : ∀ F, iv_in F iv_B0 → iv_in (nx 82 F as) E) {Ls : Nat} {xs : Nat → Int32} (F : Nat → sy_d) (X2 : List jm_c) (hB : iv_in F iv_B0) (hJ : jx_ok F) :
    jm_T Ls xs d M (.ref 8 :: as.map .int) ((sy_dh F [] [] (iv_H s)).1, X2) 0 0 (fun v G => (∃ x : Int32, v = some (.int x) ∧ (r.2.1 ≤ x.toInt ∧ x.toInt ≤ r.2.2)) ∧ nv1 X2 (sy_i F 0) G) := by
  have k0 : ∀ j, j < 82 → nx 82 F as j = F j := nx_lt
  have hJ0 : jx_ok (nx 82 F as) := jx_ok_eq (k0 39 (by decide)) (k0 41 (by decide)) hJ
  rw [dh_nx hs k0, ← dh_x (nx 82 F as) [] X2 hs, ← hA F]
  refine jm_T_mono (h M hM Ls xs (nx 82 F as) [] X2 (hE F hB) ((jj_x hs).mpr hJ0)) ?_
  rintro v G ⟨t, F', ht, hG, hf, hB', hv, hj⟩
  have ht4 := hts t ht
  have f0 : F' 0 = nx 82 F as 0 := hf 0 (by
    show 0 < iv_nh s
    unfold iv_nh
    rw [if_neg (by omega)]
    decide) hW
  have e0 : sy_i F' 0 = sy_i F 0 := by
    unfold sy_i
    rw [f0, k0 0 (by decide)]
  exact ⟨iv_ri hv hr, t, F', ht4, by rw [hG, dh_x F' [] X2 ht4], hB', (jj_x ht4).mp hj, e0⟩
theorem ct_xr {n s d : Nat} {ts Wr : List Nat} {A : List sy_v} {r : iv_t} {M : jm_M} (h : ct_ok jj (n, A, s, ts, iv_B0, Wr, iv_ov iv_B0 [(0, (0, 0, 0))], some r, d)) (hM : jm_TB[n]? = some M) (hs : s < 4) (hts : ∀ t ∈ ts, t < 4) (hr : r.1 = 0) (hA : ∀ F, A.map (sy_dv F) = [.ref 8]) {Ls : Nat} {xs : Nat → Int32} (F : Nat → sy_d) (X2 : List jm_c) (hB : iv_in F iv_B0) (hJ : jx_ok F) :
    jm_T Ls xs d M [.ref 8] ((sy_dh F [] [] (iv_H s)).1, X2) 0 0 (fun v G => (∃ x : Int32, v = some (.int x) ∧ (r.2.1 ≤ x.toInt ∧ x.toInt ≤ r.2.2)) ∧ nv1 X2 0 G) := by
  rw [← dh_x F [] X2 hs, ← hA F]
  refine jm_T_mono (h M hM Ls xs F [] X2 hB ((jj_x hs).mpr hJ)) ?_
  rintro v G ⟨t, F', ht, hG, hf, hB', hv, hj⟩
  have ht4 := hts t ht
  have hB' : iv_in F' (iv_ov iv_B0 [(0, (0, 0, 0))]) := hB'
  obtain ⟨w, w1, w2, w3⟩ := iv_h0 (hB' 0 (0, 0, 0) rfl)
  have e0 : sy_i F' 0 = 0 := by
    rw [zz_i w1]
    refine Int32.toInt_inj.mp ?_
    have : (0 : Int32).toInt = 0 := by decide
    omega
  refine ⟨iv_ri hv hr, t, F', ht4, by rw [hG, dh_x F' [] X2 ht4], fun k q hq => ?_, (jj_x ht4).mp hj, e0⟩
  by_cases hk : k = 0
  · subst hk
    have hq : some (0, 0, 2000) = some q := hq
    cases hq
    exact nz_hi w1 rfl (by omega) (by omega)
  · refine hB' k q ?_
    show (iv_B0.set 0 (0, 0, 0))[k]? = some q
    rw [List.getElem?_set_ne (fun z => hk z.symm)]
    exact hq
theorem ct_mm {n d : Nat} {Wr : List Nat} {A : List sy_v} {E : List iv_t} {r : iv_t} {M : jm_M} (as : List Int32) (h : ct_ok jj (n, A, 4, [4], E, Wr, iv_B4, some r, d)) (hM : jm_TB[n]? = some M) (hW : Wr.contains 1 = false) (hr : r.1 = 0) (hA : ∀ F, A.map (sy_dv (nx 69 F as)) = .ref 1000 :: as.map .int) (hE : ∀ F, iv_in F iv_B4 → iv_in (nx 69 F as) E) {Ls : Nat} {xs : Nat → Int32} (F : Nat → sy_d) (X1 : List jm_c) (hB : iv_in F iv_B4) (hJ : jm_rpn F) :
    jm_T Ls xs d M (.ref 1000 :: as.map .int) (X1, (sy_dh F [] [] (iv_H 4)).2) 0 0 (fun v G => (∃ x : Int32, v = some (.int x) ∧ (r.2.1 ≤ x.toInt ∧ x.toInt ≤ r.2.2)) ∧ nv2 X1 (sy_i F 1) G) := by
  have k0 : ∀ j, j < 69 → nx 69 F as j = F j := nx_lt
  have hJ0 : jm_rpn (nx 69 F as) := jm_rpn_eq (fun q hq => k0 q (by revert q; decide)) hJ
  rw [← dh_m F X1 [], nz_eH X1 [] k0, ← hA F]
  refine jm_T_mono (h M hM Ls xs (nx 69 F as) X1 [] (hE F hB) hJ0) ?_
  rintro v G ⟨t, F', ht, hG, hf, hB', hv, hj⟩
  have ht : t ∈ [4] := ht
  have e : t = 4 := List.mem_singleton.mp ht
  subst e
  have f0 : F' 1 = nx 69 F as 1 := hf 1 (show 1 < iv_nh 4 by decide) hW
  have e0 : sy_i F' 1 = sy_i F 1 := by
    unfold sy_i
    rw [f0, k0 1 (by decide)]
  exact ⟨iv_ri hv hr, F', by rw [hG, dh_m F' X1 []], hB', hj, e0⟩
/-- both sides alike in taped: a turn -/
theorem lw_un_of {Ls : Nat} {xs : Nat → Int32} {kX kM : jm_M} {As : List Value} {V : Int32 → Int32 → Prop} {f : Int32 → Int32} {G : jm_h} (hx : xT Ls xs kX As V f) (hm : mT Ls xs kM As V f) (hG : nv G) : ∃ (C2 : List jm_c) (tau : Int32), G.2 = C2 ∧ (∃ F : Nat → sy_d, C2 = (sy_dh F [] [] (iv_H 4)).2) ∧ lw_un Ls xs kX kM As G (V tau) (nv1 C2 (f tau)) nv := by
  obtain ⟨s, F, F2, hs, rfl, hB, hJ, hB2, hJ2, ht⟩ := hG
  obtain ⟨d1, hd1, h1⟩ := hx s F (sy_dh F2 [] [] (iv_H 4)).2 hs hB hJ
  obtain ⟨d2, hd2, h2⟩ := hm
  refine ⟨_, sy_i F 0, rfl, ⟨F2, rfl⟩, d1, d2, hd1, hd2, h1, ?_⟩
  rintro G1 ⟨t, F', ht4, rfl, hB', hJ', e'⟩
  refine jm_T_mono (h2 F2 _ hB2 hJ2) ?_
  rintro v G2 ⟨⟨r, hr, hV⟩, F3, rfl, hB3, hJ3, e3⟩
  exact ⟨⟨r, hr, by rw [ht]; exact hV⟩, t, F', F3, ht4, rfl, hB', hJ', hB3, hJ3, by rw [e', e3, ht]⟩
theorem nv_8 : ∀ {G : jm_h}, nv G → ∃ fs, jm_g G 8 = some (.inr (9, fs)) := by
  rintro G ⟨s, F, F2, hs, rfl, -⟩
  match s, hs with
  | 0, _ => exact ⟨_, rfl⟩
  | 1, _ => exact ⟨_, rfl⟩
  | 2, _ => exact ⟨_, rfl⟩
  | 3, _ => exact ⟨_, rfl⟩
  | n + 4, h => exact absurd h (by omega)
theorem nv1_1000 {C2 : List jm_c} {tau : Int32} (h : ∃ F : Nat → sy_d, C2 = (sy_dh F [] [] (iv_H 4)).2) : ∀ G, nv1 C2 tau G → ∃ fs, jm_g G 1000 = some (.inr (10, fs)) := by
  obtain ⟨F, rfl⟩ := h
  rintro G ⟨t, F1, -, rfl, -⟩
  exact ⟨_, rfl⟩
