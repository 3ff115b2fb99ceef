/-! ===== an expression is read ===== -/
noncomputable def WX : List Nat := [4, 5, 6, 7, 15, 16, 49, 50, 51]
noncomputable def xc (F0 F : Nat → sy_d) : Prop := gr WX F0 F ∧ kp F0 F ∧ (sy_i F0 15).toInt ≤ (sy_i F 15).toInt ∧ (sy_i F 15).toInt + (sy_i F 16).toInt ≤ 420 * (sy_i F0 12).toInt + (sy_i F 4).toInt + 1
noncomputable def xi (k : Nat) (F0 F : Nat → sy_d) : Prop := ((sy_i F 6).toInt = 0 ∧ (sy_i F 5).toInt ≤ 6) ∧ (sy_i F 15).toInt + (sy_i F 16).toInt ≤ 420 * (sy_i F0 12).toInt + (sy_i F 4).toInt ∧ (k = 1 → (sy_i F0 4).toInt + 1 ≤ (sy_i F 4).toInt) ∧ ∃ g o p : Nat, ws (sy_ai F 51) (sy_i F 16).toInt.toNat g o p ∧ (o : Int) = (sy_i F 5).toInt ∧ rd (sy_ai F 49) (sy_ai F 50) (sy_i F0 15).toInt.toNat ((sy_i F 15).toInt - (sy_i F0 15).toInt).toNat (p + k)
noncomputable def xr (F0 F' : Nat → sy_d) : Prop := gr WX F0 F' ∧ kp F0 F' ∧ (sy_i F0 15).toInt ≤ (sy_i F' 15).toInt ∧ (sy_i F' 15).toInt ≤ 420 * (sy_i F0 12).toInt + (sy_i F' 4).toInt + 1 ∧
  ((sy_i F' 6).toInt = 0 → (sy_i F0 4).toInt + 1 ≤ (sy_i F' 4).toInt ∧ (sy_i F' 5).toInt = 0 ∧ (sy_i F' 15).toInt ≤ 420 * (sy_i F0 12).toInt + (sy_i F' 4).toInt ∧ rp_go (sy_ai F' 49) (sy_ai F' 50) ((sy_i F' 15).toInt - (sy_i F0 15).toInt).toNat (sy_i F0 15).toInt.toNat 0)
noncomputable def ex_Q (F0 : Nat → sy_d) (X1 X2 : List jm_c) (v : Option Value) (G : jm_h) : Prop := ∃ F' : Nat → sy_d, v = none ∧ G = sy_dh F' X1 X2 (iv_H 4) ∧ xr F0 F'
theorem xr_dst {F F' F2 : Nat → sy_d} (h : xr F F') (e : ∀ q, q < 69 → F2 q = F' q) : xr F F2 := by
  obtain ⟨h1, h2, h3, h4, h5⟩ := h
  have i4 := nz_fi (e 4 (by decide))
  have i5 := nz_fi (e 5 (by decide))
  have i6 := nz_fi (e 6 (by decide))
  have i15 := nz_fi (e 15 (by decide))
  have a49 := nz_fa (e 49 (by decide))
  have a50 := nz_fa (e 50 (by decide))
  refine ⟨h1.dst e, ?_, by rw [i15]; exact h3, by rw [i15, i4]; exact h4, by rw [i4, i5, i6, i15, a49, a50]; exact h5⟩
  unfold kp
  rw [i15, a49, a50]
  exact h2
theorem xc_step {F0 F F1 : Nat → sy_d} {C : List Nat} (h : xc F0 F) (hb : iv_in F1 iv_B4) (g : ∀ j, j < 69 → j ∉ C → F1 j = F j) (hs : ∀ x ∈ C, x ∈ WX) (t : (sy_i F 4).toInt ≤ (sy_i F1 4).toInt) (u : (sy_i F1 6).toInt = 0 → (sy_i F 6).toInt = 0) (k : kp F F1) (l : (sy_i F 15).toInt ≤ (sy_i F1 15).toInt) (m : (sy_i F1 15).toInt + (sy_i F1 16).toInt ≤ 420 * (sy_i F0 12).toInt + (sy_i F1 4).toInt + 1) : xc F0 F1 :=
  ⟨h.1.trans (gr_mk (W := WX) hb g hs t u) (fun _ q => q), kp_trans h.2.1 k h.2.2.1 l, Int.le_trans h.2.2.1 l, m⟩
theorem rd_push {code cint code' cint' : List Int32} {c n d : Nat} {K V : Int32} (h : rd code cint c n d) (e : code' = jm_upd code (c + n) K) (e2 : cint' = jm_upd cint (c + n) V) (hK : K.toInt < 2) (hV : K.toInt = 1 → 0 ≤ V.toInt ∧ V.toInt ≤ 8) : rd code' cint' c (n + 1) (d + 1) := by
  refine .val (rd_eq h (fun i h1 h2 => ?_)) ?_ ?_
  · rw [e, e2, jm_upd_at, jm_upd_at, if_neg (by omega), if_neg (by omega)]
    exact ⟨rfl, rfl⟩
  · rw [e, jm_upd_at, if_pos rfl]
    exact hK
  · rw [e, e2, jm_upd_at, jm_upd_at, if_pos rfl, if_pos rfl]
    exact hV
theorem ws_upd {w : List Int32} {n g o p : Nat} {V : Int32} (h : ws w n g o p) : ws (jm_upd w n V) n g o p := ws_eq h (fun i hi => by rw [jm_upd_at, if_neg (by omega)])
theorem ws_at {w : List Int32} {n : Nat} {V : Int32} : (jm_upd w n V).getD n 0 = V := by rw [jm_upd_at, if_pos rfl]
section EX
variable {Ls : Nat} {xs : Nat → Int32} (X1 X2 : List jm_c) (F0 : Nat → sy_d)
theorem ex_fin {F F' : Nat → sy_d} (hx : xc F0 F) (hc : (sy_i F 6).toInt ≠ 0 ∨ (xi 1 F0 F ∧ (sy_i F 5).toInt = 0)) (h : co_R 0 F F') (h0 : 0 ≤ (sy_i F0 15).toInt) : xr F0 F' := by
  obtain ⟨x1, x2, x3, x4⟩ := hx
  obtain ⟨r1, r2, r3, r4, r5⟩ := h
  have i4 := r1.i (k := 4) (by decide) (by decide)
  have i5 := r1.i (k := 5) (by decide) (by decide)
  have i6 := r1.i (k := 6) (by decide) (by decide)
  have c16 := nz_bx r1.b (k := 16) (lo := 0) (hi := 64) rfl
  refine ⟨x1.trans r1 (by decide), kp_trans x2 r4 x3 r2, by omega, by omega, fun z => ?_⟩
  rcases hc with hc | ⟨⟨y1, y2, y3, g, o, p, y4, y5, y6⟩, y7⟩
  · omega
  · obtain ⟨g', p', z1, z2, -, -⟩ := r5 (sy_i F0 15).toInt.toNat g o p (by omega) y4 (by rw [show ((sy_i F0 15).toInt.toNat : Int) = (sy_i F0 15).toInt by omega]; exact y6)
    rw [show ((sy_i F0 15).toInt.toNat : Int) = (sy_i F0 15).toInt by omega] at z2
    have y3' := y3 rfl
    refine ⟨by omega, by omega, by omega, ?_⟩
    have := rd_go z2 0 trivial
    rwa [Nat.add_zero] at this
theorem ex_206' {F : Nat → sy_d} (h0 : 0 ≤ (sy_i F0 15).toInt) (hx : xc F0 F) (hc : (sy_i F 6).toInt ≠ 0 ∨ (xi 1 F0 F ∧ (sy_i F 5).toInt = 0)) :
    hd_W Ls xs 4 jm_M164 (ex_Q F0 X1 X2) (206, sy_dL F [some (.inl (.ref 1000)), none, none], sy_dS F [.inl (.int 0), .inl (.ref 1000)], sy_dh F X1 X2 (iv_H 4), 0, 0) := by
  have x4 := hx.2.2.2
  have c4 := nz_bx hx.1.b (k := 4) (lo := 0) (hi := 400) rfl
  have c12 := nz_bx hx.1.b (k := 12) (lo := 0) (hi := 1) rfl
  have i12 := hx.1.i (k := 12) (by decide) (by decide)
  refine hd_calV (R := co_R 0 F) (nh := 69) (nv := 69) (s := 4) (s1 := 4) (d1 := 2) (M1 := jm_M163) (As := [.inl (.ref 1000), .inl (.int 0)]) (rest := []) jm_ok164 rfl rfl (by decide) (by decide +kernel) (co_T X1 X2 F hx.1.b (by omega) 0) (fun F3 F' hR p1 _ => ?_)
  have hR3 := co_Rdst hR p1
  refine ex_209 (by decide) F3 X1 X2 hR3.1.b ?_
  intro F4 hb g e4 e5 e6 e11 e12 e14 e15 e16 a25 a49 a50 a51
  exact ⟨F4, rfl, rfl, xr_dst (ex_fin F0 hx hc hR3 h0) (fun q hq => g q hq (by simp))⟩
/-- behind a fault -/
theorem ex_96F {F : Nat → sy_d} (h0 : 0 ≤ (sy_i F0 15).toInt) (hx : xc F0 F) (hf : (sy_i F 6).toInt ≠ 0) :
    hd_W Ls xs 4 jm_M164 (ex_Q F0 X1 X2) (96, sy_dL F [some (.inl (.ref 1000)), some (.inr (.inl 69)), some (.inl (.int 1))], sy_dS F [], sy_dh F X1 X2 (iv_H 4), 0, 0) := by
  have x4 := hx.2.2.2
  refine ex_96 (by decide) F X1 X2 hx.1.b ?_ ?_ ?_ ?_ ?_ ?_ ?_ ?_ ?_ ?_ ?_
  iterate 2
    intros
    rename_i F1 hb g e4 e5 e6 e11 e12 e14 e15 e16 a25 a49 a50 a51
    exact ex_206' X1 X2 F0 h0 (xc_step hx hb g (by decide) (by omega) (by omega) (kp_same a49 a50) (by omega) (by omega)) (Or.inl (by omega))
  all_goals (intros; exfalso; omega)
theorem ex_stop {F F1 : Nat → sy_d} (hx : xc F0 F1) (hf : (sy_i F1 6).toInt ≠ 0) : xr F0 F1 := by
  have c16 := nz_bx hx.1.b (k := 16) (lo := 0) (hi := 64) rfl
  obtain ⟨x1, x2, x3, x4⟩ := hx
  exact ⟨x1, x2, x3, by omega, fun z => absurd z hf⟩
theorem ex_23F {F : Nat → sy_d} (hx : xc F0 F) (hf : (sy_i F 6).toInt ≠ 0) :
    hd_W Ls xs 4 jm_M164 (ex_Q F0 X1 X2) (23, sy_dL F [some (.inl (.ref 1000)), some (.inr (.inl 69)), some (.inl (.int 1))], sy_dS F [], sy_dh F X1 X2 (iv_H 4), 0, 0) := by
  have x4 := hx.2.2.2
  refine ex_23 (by decide) F X1 X2 hx.1.b (by omega) (by omega) (by omega) (by omega) (by omega) (by omega) (by omega) (by omega) (by omega) (by omega) (by omega) (by omega) (by omega) (by omega) (by omega) (by omega) ?_ ?_ ?_ ?_ ?_ ?_ ?_ ?_ ?_ ?_
  · intros
    rename_i F1 hb g e4 e5 e6 e11 e12 e14 e15 e16 a25 a49 a50 a51
    exact ⟨F1, rfl, rfl, ex_stop (F := F) F0 (xc_step hx hb g (by decide) (by omega) (by omega) (kp_same a49 a50) (by omega) (by omega)) (by omega)⟩
  all_goals (intros; exfalso; omega)
theorem ex_12F {F : Nat → sy_d} (hx : xc F0 F) (hf : (sy_i F 6).toInt ≠ 0) :
    hd_W Ls xs 4 jm_M164 (ex_Q F0 X1 X2) (12, sy_dL F [some (.inl (.ref 1000)), some (.inr (.inl 69)), some (.inl (.int 1))], sy_dS F [], sy_dh F X1 X2 (iv_H 4), 0, 0) := by
  have x4 := hx.2.2.2
  refine ex_12 (by decide) F X1 X2 hx.1.b ?_ ?_
  · intros
    rename_i F1 hb g e4 e5 e6 e11 e12 e14 e15 e16 a25 a49 a50 a51
    exact ⟨F1, rfl, rfl, ex_stop (F := F) F0 (xc_step hx hb g (by decide) (by omega) (by omega) (kp_same a49 a50) (by omega) (by omega)) (by omega)⟩
  all_goals (intros; exfalso; omega)
/-- the three places of the loops, from 400 - n on -/
noncomputable def x96 (Ls : Nat) (xs : Nat → Int32) (n : Nat) : Prop := ∀ F : Nat → sy_d, xc F0 F → xi 1 F0 F → (sy_i F 69).toInt = 0 → 400 - (sy_i F 4).toInt < n →
    hd_W Ls xs 4 jm_M164 (ex_Q F0 X1 X2) (96, sy_dL F [some (.inl (.ref 1000)), some (.inr (.inl 69)), some (.inl (.int 1))], sy_dS F [], sy_dh F X1 X2 (iv_H 4), 0, 0)
noncomputable def x23 (Ls : Nat) (xs : Nat → Int32) (n : Nat) : Prop := ∀ F : Nat → sy_d, xc F0 F → xi 0 F0 F → (sy_i F 69).toInt = 0 → 400 - (sy_i F 4).toInt < n →
    hd_W Ls xs 4 jm_M164 (ex_Q F0 X1 X2) (23, sy_dL F [some (.inl (.ref 1000)), some (.inr (.inl 69)), some (.inl (.int 1))], sy_dS F [], sy_dh F X1 X2 (iv_H 4), 0, 0)
noncomputable def x12 (Ls : Nat) (xs : Nat → Int32) (n : Nat) : Prop := ∀ F : Nat → sy_d, xc F0 F → xi 0 F0 F → (sy_i F 69).toInt = 0 → 400 - (sy_i F 4).toInt < n →
    hd_W Ls xs 4 jm_M164 (ex_Q F0 X1 X2) (12, sy_dL F [some (.inl (.ref 1000)), some (.inr (.inl 69)), some (.inl (.int 1))], sy_dS F [], sy_dh F X1 X2 (iv_H 4), 0, 0)
theorem x12_of {n : Nat} (h : x23 X1 X2 F0 Ls xs n) : x12 X1 X2 F0 Ls xs n := by
  intro F hx hi h69 hn
  have x4 := hx.2.2.2
  obtain ⟨y1, y2, -, g', o, p, y4, y5, y6⟩ := hi
  refine ex_12 (by decide) F X1 X2 hx.1.b ?_ ?_
  · intros; exfalso; omega
  · intro q F1 hb g e4 e5 e6 e11 e12 e14 e15 e16 a25 a49 a50 a51 e69
    refine h F1 (xc_step hx hb g (by decide) (by omega) (by omega) (kp_same a49 a50) (by omega) (by omega)) ⟨by omega, by omega, fun z => absurd z (by decide), g', o, p, by rw [a51, e16]; exact y4, by omega, by rw [a49, a50, e15]; exact y6⟩ (by omega) (by omega)
theorem x23_of {n : Nat} (h0 : 0 ≤ (sy_i F0 15).toInt) (h23 : x23 X1 X2 F0 Ls xs n) (h96 : x96 X1 X2 F0 Ls xs n) : x23 X1 X2 F0 Ls xs (n + 1) := by
  intro F hx hi h69 hn
  have x3 := hx.2.2.1
  have x4 := hx.2.2.2
  have c4 := nz_bx hx.1.b (k := 4) (lo := 0) (hi := 400) rfl
  have c5 := nz_bx hx.1.b (k := 5) (lo := 0) (hi := 7) rfl
  have c12 := nz_bx hx.1.b (k := 12) (lo := 0) (hi := 1) rfl
  have c15 := nz_bx hx.1.b (k := 15) (lo := 0) (hi := 840) rfl
  have c16 := nz_bx hx.1.b (k := 16) (lo := 0) (hi := 64) rfl
  have i12 := hx.1.i (k := 12) (by decide) (by decide)
  have t1 := hx.1.t
  obtain ⟨y1, y2, -, g', o, p, y4, y5, y6⟩ := hi
  obtain ⟨w1, w2, w3⟩ := ws_n y4
  have ec : (sy_i F0 15).toInt.toNat + ((sy_i F 15).toInt - (sy_i F0 15).toInt).toNat = (sy_i F 15).toInt.toNat := by omega
  have en : ((sy_i F 15).toInt + 1 - (sy_i F0 15).toInt).toNat = ((sy_i F 15).toInt - (sy_i F0 15).toInt).toNat + 1 := by omega
  have e16n : ((sy_i F 16).toInt + 1).toNat = (sy_i F 16).toInt.toNat + 1 := by omega
  refine ex_23 (by decide) F X1 X2 hx.1.b (by omega) (by omega) (by omega) (by omega) (by omega) (by omega) (by omega) (by omega) (by omega) (by omega) (by omega) (by omega) (by omega) (by omega) (by omega) (by omega) ?_ ?_ ?_ ?_ ?_ ?_ ?_ ?_ ?_ ?_
  · intros; exfalso; omega
  · intros
    rename_i F1 hb g e4 e5 e6 e11 e12 e14 e15 e16 a25 a49 a50 a51
    exact ⟨F1, rfl, rfl, ex_stop (F := F) F0 (xc_step hx hb g (by decide) (by omega) (by omega) (kp_same a49 a50) (by omega) (by omega)) (by omega)⟩
  · intro _ _ _ _ _ q1 q2 _ _ F1 hb g e4 e5 e6 e11 e12 e14 e15 e16 a25 a49 a50 a51 e69
    refine h96 F1 (xc_step hx hb g (by decide) (by omega) (by omega) (kp_upd (by omega) e15 a49 a50) (by omega) (by omega)) ⟨by omega, by omega, fun _ => by omega, g', o, p, by rw [a51, e16]; exact y4, by omega, ?_⟩ (by omega) (by omega)
    rw [e15, en]
    refine rd_push (K := 1) y6 (by rw [a49, ec]) (by rw [a50, ec]) (by decide) (fun _ => ?_)
    rw [nz_sub (rfl : ((sy_ai F 25).getD (sy_i F 4).toInt.toNat 0).toInt = _) (by decide : ((34 : Int32)).toInt = 34) (by omega) (by omega)]
    omega
  · intros
    rename_i F1 hb g e4 e5 e6 e11 e12 e14 e15 e16 a25 a49 a50 a51
    exact ⟨F1, rfl, rfl, ex_stop (F := F) F0 (xc_step hx hb g (by decide) (by omega) (by omega) (kp_upd (by omega) e15 a49 a50) (by omega) (by omega)) (by omega)⟩
  · intro _ _ _ _ _ _ F1 hb g e4 e5 e6 e11 e12 e14 e15 e16 a25 a49 a50 a51 e69
    refine h96 F1 (xc_step hx hb g (by decide) (by omega) (by omega) (kp_upd (by omega) e15 a49 a50) (by omega) (by omega)) ⟨by omega, by omega, fun _ => by omega, g', o, p, by rw [a51, e16]; exact y4, by omega, ?_⟩ (by omega) (by omega)
    rw [e15, en]
    exact rd_push (K := 0) y6 (by rw [a49, ec]) (by rw [a50, ec]) (by decide) (fun z => absurd z (by decide))
  · intros
    rename_i F1 hb g e4 e5 e6 e11 e12 e14 e15 e16 a25 a49 a50 a51
    exact ⟨F1, rfl, rfl, ex_stop (F := F) F0 (xc_step hx hb g (by decide) (by omega) (by omega) (kp_upd (by omega) e15 a49 a50) (by omega) (by omega)) (by omega)⟩
  · intros
    rename_i F1 hb g e4 e5 e6 e11 e12 e14 e15 e16 a25 a49 a50 a51 e69
    refine h23 F1 (xc_step hx hb g (by decide) (by omega) (by omega) (kp_same a49 a50) (by omega) (by omega)) ⟨by omega, by omega, fun z => absurd z (by decide), 0, o + 1, p, ?_, by omega, by rw [a49, a50, e15]; exact y6⟩ (by omega) (by omega)
    rw [a51, e16, e16n]
    exact .opn (ws_upd y4) (by rw [ws_at]; decide)
  all_goals
    intros
    rename_i F1 hb g e4 e5 e6 e11 e12 e14 e15 e16 a25 a49 a50 a51 e69
    exact ex_23F X1 X2 F0 (xc_step hx hb g (by decide) (by omega) (by omega) (kp_same a49 a50) (by omega) (by omega)) (by omega)
theorem ex_co {b : Int} {F F' : Nat → sy_d} (h0 : 0 ≤ (sy_i F0 15).toInt) (hx : xc F0 F) (hi : xi 1 F0 F) (h : co_R b F F') : xc F0 F' ∧ (((sy_i F' 6).toInt = 0 ∧ (sy_i F' 5).toInt ≤ 6) ∧ (sy_i F' 15).toInt + (sy_i F' 16).toInt ≤ 420 * (sy_i F0 12).toInt + (sy_i F' 4).toInt ∧ (sy_i F0 4).toInt + 1 ≤ (sy_i F' 4).toInt) ∧ ∃ g o p : Nat, ws (sy_ai F' 51) (sy_i F' 16).toInt.toNat g o p ∧ (o : Int) = (sy_i F' 5).toInt ∧ rd (sy_ai F' 49) (sy_ai F' 50) (sy_i F0 15).toInt.toNat ((sy_i F' 15).toInt - (sy_i F0 15).toInt).toNat (p + 1) ∧ g ≤ 1 ∧ (b = 0 → g = 0) := by
  obtain ⟨x1, x2, x3, x4⟩ := hx
  obtain ⟨r1, r2, r3, r4, r5⟩ := h
  obtain ⟨y1, y2, y3, g, o, p, y4, y5, y6⟩ := hi
  have i4 := r1.i (k := 4) (by decide) (by decide)
  have i5 := r1.i (k := 5) (by decide) (by decide)
  have i6 := r1.i (k := 6) (by decide) (by decide)
  have a51 := r1.a (k := 51) (by decide) (by decide)
  have y3' := y3 rfl
  refine ⟨⟨x1.trans r1 (by decide), kp_trans x2 r4 x3 r2, by omega, by omega⟩, ⟨by omega, by omega, by omega⟩, ?_⟩
  obtain ⟨g', p', z1, z2, z3, z4⟩ := r5 (sy_i F0 15).toInt.toNat g o p (by omega) y4 (by rw [show ((sy_i F0 15).toInt.toNat : Int) = (sy_i F0 15).toInt by omega]; exact y6)
  rw [show ((sy_i F0 15).toInt.toNat : Int) = (sy_i F0 15).toInt by omega] at z2
  exact ⟨g', o, p', by rw [a51]; exact z1, by omega, z2, z3, z4⟩
theorem ex_234' {n : Nat} {F : Nat → sy_d} (h0 : 0 ≤ (sy_i F0 15).toInt) (h12 : x12 X1 X2 F0 Ls xs n) (hx : xc F0 F) (hi : xi 1 F0 F) (h69 : (sy_i F 69).toInt = 0) (hn : 400 - (sy_i F 4).toInt < n + 1) (hk : ((sy_i F 70).toInt = 0 ∧ (((sy_ai F 25).getD (sy_i F 4).toInt.toNat 0).toInt = 8 ∨ ((sy_ai F 25).getD (sy_i F 4).toInt.toNat 0).toInt = 9)) ∨ (((sy_ai F 25).getD (sy_i F 4).toInt.toNat 0).toInt = 10 ∨ ((sy_ai F 25).getD (sy_i F 4).toInt.toNat 0).toInt = 15)) :
    hd_W Ls xs 4 jm_M164 (ex_Q F0 X1 X2) (234, sy_dL F [some (.inl (.ref 1000)), some (.inr (.inl 69)), some (.inl (.int 1))], sy_dS F [.inr (.inl 70), .inl (.ref 1000)], sy_dh F X1 X2 (iv_H 4), 0, 0) := by
  have x4 := hx.2.2.2
  have c4 := nz_bx hx.1.b (k := 4) (lo := 0) (hi := 400) rfl
  have c12 := nz_bx hx.1.b (k := 12) (lo := 0) (hi := 1) rfl
  have i12 := hx.1.i (k := 12) (by decide) (by decide)
  refine hd_calV (R := co_R (sy_i F 70).toInt F) (nh := 69) (nv := 71) (s := 4) (s1 := 4) (d1 := 2) (M1 := jm_M163) (As := [.inl (.ref 1000), .inr (.inl 70)]) (rest := []) jm_ok164 rfl rfl (by decide) (by decide +kernel) (co_T X1 X2 F hx.1.b (by omega) (sy_i F 70)) (fun F3 F' hR p1 p2 => ?_)
  have hR3 := co_Rdst hR p1
  have j69 := nz_fi (p2 69 (by decide) (by decide))
  have k4 := hR3.1.i (k := 4) (by decide) (by decide)
  have k25 := hR3.1.a (k := 25) (by decide) (by decide)
  obtain ⟨hx3, ⟨y1, y2, y3⟩, g', o, p, z1, z2, z3, z4, z5⟩ := ex_co F0 h0 hx hi hR3
  obtain ⟨w1, w2, w3⟩ := ws_n z1
  have d5 := nz_bx hx3.1.b (k := 5) (lo := 0) (hi := 7) rfl
  have d16 := nz_bx hx3.1.b (k := 16) (lo := 0) (hi := 64) rfl
  have e16n : ((sy_i F3 16).toInt + 1).toNat = (sy_i F3 16).toInt.toNat + 1 := by omega
  refine ex_237 (by decide) F3 X1 X2 hx3.1.b (by omega) (by omega) (by omega) (by omega) ?_ ?_ ?_
  · intros
    rename_i F1 hb g e4 e5 e6 e11 e12 e14 e15 e16 a25 a49 a50 a51 e69
    refine h12 F1 (xc_step hx3 hb g (by decide) (by omega) (by omega) (kp_same a49 a50) (by omega) (by omega)) ?_ (by omega) (by omega)
    rcases hk with ⟨hb0, hk⟩ | hk
    · have hg := z5 hb0
      subst hg
      refine ⟨by omega, by omega, fun z => absurd z (by decide), 1, o, p + 1, ?_, by omega, by rw [a49, a50, e15]; exact z3⟩
      rw [a51, e16, e16n]
      exact .pm (ws_upd z1) (by rw [ws_at, k25, k4]; exact hk)
    · refine ⟨by omega, by omega, fun z => absurd z (by decide), 2, o, p + 1, ?_, by omega, by rw [a49, a50, e15]; exact z3⟩
      rw [a51, e16, e16n]
      exact .td (ws_upd z1) z4 (by rw [ws_at, k25, k4]; exact hk)
  · intros
    rename_i F1 hb g e4 e5 e6 e11 e12 e14 e15 e16 a25 a49 a50 a51 e69
    exact ex_12F X1 X2 F0 (xc_step hx3 hb g (by decide) (by omega) (by omega) (kp_same a49 a50) (by omega) (by omega)) (by omega)
  · intros; exfalso; omega
theorem ex_115' {n : Nat} {F : Nat → sy_d} (h0 : 0 ≤ (sy_i F0 15).toInt) (h96 : x96 X1 X2 F0 Ls xs n) (hx : xc F0 F) (hi : xi 1 F0 F) (h69 : (sy_i F 69).toInt = 0) (hn : 400 - (sy_i F 4).toInt < n + 1) (ho : 0 < (sy_i F 5).toInt) :
    hd_W Ls xs 4 jm_M164 (ex_Q F0 X1 X2) (115, sy_dL F [some (.inl (.ref 1000)), some (.inr (.inl 69)), some (.inl (.int 1))], sy_dS F [.inl (.int 0), .inl (.ref 1000)], sy_dh F X1 X2 (iv_H 4), 0, 0) := by
  have x4 := hx.2.2.2
  have c4 := nz_bx hx.1.b (k := 4) (lo := 0) (hi := 400) rfl
  have c12 := nz_bx hx.1.b (k := 12) (lo := 0) (hi := 1) rfl
  have i12 := hx.1.i (k := 12) (by decide) (by decide)
  refine hd_calV (R := co_R 0 F) (nh := 69) (nv := 70) (s := 4) (s1 := 4) (d1 := 2) (M1 := jm_M163) (As := [.inl (.ref 1000), .inl (.int 0)]) (rest := []) jm_ok164 rfl rfl (by decide) (by decide +kernel) (co_T X1 X2 F hx.1.b (by omega) 0) (fun F3 F' hR p1 p2 => ?_)
  have hR3 := co_Rdst hR p1
  have j69 := nz_fi (p2 69 (by decide) (by decide))
  have k4 := hR3.1.i (k := 4) (by decide) (by decide)
  have k5 := hR3.1.i (k := 5) (by decide) (by decide)
  obtain ⟨hx3, ⟨y1, y2, y3⟩, g', o, p, z1, z2, z3, z4, z5⟩ := ex_co F0 h0 hx hi hR3
  obtain ⟨w1, w2, w3⟩ := ws_n z1
  have d5 := nz_bx hx3.1.b (k := 5) (lo := 0) (hi := 7) rfl
  have d16 := nz_bx hx3.1.b (k := 16) (lo := 0) (hi := 64) rfl
  have hg := z5 rfl
  subst hg
  rw [show (sy_i F3 16).toInt.toNat = ((sy_i F3 16).toInt - 1).toNat + 1 by omega] at z1
  obtain ⟨g2, o', rfl, v1⟩ := ws_open z1
  refine ex_118 (by decide) F3 X1 X2 hx3.1.b (by omega) (by omega) (by omega) (by omega) (by omega) (by omega) ?_ ?_ ?_
  · intros
    rename_i F1 hb g e4 e5 e6 e11 e12 e14 e15 e16 a25 a49 a50 a51 e69
    exact h96 F1 (xc_step hx3 hb g (by decide) (by omega) (by omega) (kp_same a49 a50) (by omega) (by omega)) ⟨by omega, by omega, fun _ => by omega, g2, o', p, by rw [a51, e16]; exact v1, by omega, by rw [a49, a50, e15]; exact z3⟩ (by omega) (by omega)
  · intros
    rename_i F1 hb g e4 e5 e6 e11 e12 e14 e15 e16 a25 a49 a50 a51 e69
    exact ex_96F X1 X2 F0 h0 (xc_step hx3 hb g (by decide) (by omega) (by omega) (kp_same a49 a50) (by omega) (by omega)) (by omega)
  · intros; exfalso; omega
theorem x96_of {n : Nat} (h0 : 0 ≤ (sy_i F0 15).toInt) (h96 : x96 X1 X2 F0 Ls xs n) (h12 : x12 X1 X2 F0 Ls xs n) : x96 X1 X2 F0 Ls xs (n + 1) := by
  intro F hx hi h69 hn
  have x4 := hx.2.2.2
  have c5 := nz_bx hx.1.b (k := 5) (lo := 0) (hi := 7) rfl
  have hi0 := hi
  obtain ⟨y1, y2, y3, g', o, p, y4, y5, y6⟩ := hi0
  have y3' := y3 rfl
  have same : ∀ F1 : Nat → sy_d, (sy_i F1 4).toInt = (sy_i F 4).toInt → (sy_i F1 5).toInt = (sy_i F 5).toInt → (sy_i F1 6).toInt = (sy_i F 6).toInt → (sy_i F1 15).toInt = (sy_i F 15).toInt → (sy_i F1 16).toInt = (sy_i F 16).toInt → sy_ai F1 49 = sy_ai F 49 → sy_ai F1 50 = sy_ai F 50 → sy_ai F1 51 = sy_ai F 51 → xi 1 F0 F1 := by
    intro F1 e4 e5 e6 e15 e16 a49 a50 a51
    exact ⟨by omega, by omega, fun _ => by omega, g', o, p, by rw [a51, e16]; exact y4, by omega, by rw [a49, a50, e15]; exact y6⟩
  refine ex_96 (by decide) F X1 X2 hx.1.b ?_ ?_ ?_ ?_ ?_ ?_ ?_ ?_ ?_ ?_ ?_
  · intros; exfalso; omega
  · intros; exfalso; omega
  · intros
    rename_i F1 hb g e4 e5 e6 e11 e12 e14 e15 e16 a25 a49 a50 a51
    exact ex_206' X1 X2 F0 h0 (xc_step hx hb g (by decide) (by omega) (by omega) (kp_same a49 a50) (by omega) (by omega)) (Or.inr ⟨same F1 e4 e5 e6 e15 e16 a49 a50 a51, by omega⟩)
  · intros
    rename_i F1 hb g e4 e5 e6 e11 e12 e14 e15 e16 a25 a49 a50 a51
    exact ex_206' X1 X2 F0 h0 (xc_step hx hb g (by decide) (by omega) (by omega) (kp_same a49 a50) (by omega) (by omega)) (Or.inl (by omega))
  iterate 4
    intros
    rename_i F1 hb g e4 e5 e6 e11 e12 e14 e15 e16 a25 a49 a50 a51 e69 e70
    exact ex_234' X1 X2 F0 h0 h12 (xc_step hx hb g (by decide) (by omega) (by omega) (kp_same a49 a50) (by omega) (by omega)) (same F1 e4 e5 e6 e15 e16 a49 a50 a51) (by omega) (by omega) (by rw [a25, e4]; omega)
  · intros
    rename_i F1 hb g e4 e5 e6 e11 e12 e14 e15 e16 a25 a49 a50 a51
    exact ex_206' X1 X2 F0 h0 (xc_step hx hb g (by decide) (by omega) (by omega) (kp_same a49 a50) (by omega) (by omega)) (Or.inr ⟨same F1 e4 e5 e6 e15 e16 a49 a50 a51, by omega⟩)
  · intros; exfalso; omega
  · intros
    rename_i F1 hb g e4 e5 e6 e11 e12 e14 e15 e16 a25 a49 a50 a51 e69
    exact ex_115' X1 X2 F0 h0 h96 (xc_step hx hb g (by decide) (by omega) (by omega) (kp_same a49 a50) (by omega) (by omega)) (same F1 e4 e5 e6 e15 e16 a49 a50 a51) (by omega) (by omega) (by omega)
theorem x_all (h0 : 0 ≤ (sy_i F0 15).toInt) : ∀ n : Nat, x96 X1 X2 F0 Ls xs n ∧ x23 X1 X2 F0 Ls xs n
  | 0 => by
    constructor
    · intro F hx _ _ hn
      have c4 := nz_bx hx.1.b (k := 4) (lo := 0) (hi := 400) rfl
      omega
    · intro F hx _ _ hn
      have c4 := nz_bx hx.1.b (k := 4) (lo := 0) (hi := 400) rfl
      omega
  | n + 1 => by
    obtain ⟨a, b⟩ := x_all h0 n
    exact ⟨x96_of X1 X2 F0 h0 a (x12_of X1 X2 F0 b), x23_of X1 X2 F0 h0 b a⟩
theorem ex_T (hB : iv_in F0 iv_B4) (h1 : (sy_i F0 6).toInt = 0 → (sy_i F0 5).toInt = 0 ∧ (sy_i F0 15).toInt ≤ 420 * (sy_i F0 12).toInt + (sy_i F0 4).toInt) (h2 : (sy_i F0 15).toInt ≤ 420 * (sy_i F0 12).toInt + (sy_i F0 4).toInt + 1) :
    jm_T Ls xs 4 jm_M164 [.ref 1000] (sy_dh F0 X1 X2 (iv_H 4)) 0 0 (ex_Q F0 X1 X2) := by
  have c15 := nz_bx hB (k := 15) (lo := 0) (hi := 840) rfl
  have c4 := nz_bx hB (k := 4) (lo := 0) (hi := 400) rfl
  refine nz_T0 jm_ok164 (by decide) (ex_0 (by decide) F0 X1 X2 hB ?_)
  intro F hb g e4 e5 e6 e11 e12 e14 e15 e16 a25 a49 a50 a51 e69
  have hx : xc F0 F := ⟨gr_mk hb g (by decide) (by omega) (by omega), kp_same a49 a50, by omega, by omega⟩
  by_cases hf : (sy_i F 6).toInt = 0
  · have h1' := h1 (by omega)
    refine x12_of X1 X2 F0 (x_all X1 X2 F0 c15.1 401).2 F hx ⟨by omega, by omega, fun z => absurd z (by decide), 0, 0, 0, ?_, by omega, ?_⟩ (by omega) (by omega)
    · rw [show (sy_i F 16).toInt.toNat = 0 by omega]
      exact .nil
    · rw [show ((sy_i F 15).toInt - (sy_i F0 15).toInt).toNat = 0 by omega]
      exact .nil
  · exact ex_12F X1 X2 F0 hx hf
end EX
