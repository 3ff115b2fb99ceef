/-! ===== an expression is read ===== -/
noncomputable def WX : List Nat := [4, 5, 6, 7, 15, 16, 49, 50, 51]
noncomputable def xc (F0 F : Nat → sy_d) : Prop := gr WX F0 F ∧ kp F0 F ∧ (sy_i F0 15).toInt ≤ (sy_i F 15).toInt ∧ (sy_i F 15).toInt + (sy_i F 16).toInt ≤ 420 * (sy_i F0 12).toInt + (sy_i F 4).toInt + 1
noncomputable def xi (k : Nat) (F0 F : Nat → sy_d) : Prop := ((sy_i F 6).toInt = 0 ∧ (sy_i F 5).toInt ≤ 6) ∧ (sy_i F 15).toInt + (sy_i F 16).toInt ≤ 420 * (sy_i F0 12).toInt + (sy_i F 4).toInt ∧ (k = 1 → (sy_i F0 4).toInt + 1 ≤ (sy_i F 4).toInt) ∧ ∃ g o p : Nat, ws (sy_ai F 51) (sy_i F 16).toInt.toNat g o p ∧ (o : Int) = (sy_i F 5).toInt ∧ rd (sy_ai F 49) (sy_ai F 50) (sy_i F0 15).toInt.toNat ((sy_i F 15).toInt - (sy_i F0 15).toInt).toNat (p + k)
noncomputable def xr (F0 F' : Nat → sy_d) : Prop := gr WX F0 F' ∧ kp F0 F' ∧ (sy_i F0 15).toInt ≤ (sy_i F' 15).toInt ∧ (sy_i F' 15).toInt ≤ 420 * (sy_i F0 12).toInt + (sy_i F' 4).toInt + 1 ∧
  ((sy_i F' 6).toInt = 0 → (sy_i F0 4).toInt + 1 ≤ (sy_i F' 4).toInt ∧ (sy_i F' 5).toInt = 0 ∧ (sy_i F' 15).toInt ≤ 420 * (sy_i F0 12).toInt + (sy_i F' 4).toInt ∧ rp_go (sy_ai F' 49) (sy_ai F' 50) ((sy_i F' 15).toInt - (sy_i F0 15).toInt).toNat (sy_i F0 15).toInt.toNat 0)
noncomputable def ex_Q (F0 : Nat → sy_d) (X1 X2 : List jm_c) (v : Option Value) (G : jm_h) : Prop := ∃ F' : Nat → sy_d, v = none ∧ G = sy_dh F' X1 X2 (iv_H 4) ∧ xr F0 F'
theorem xr_dst {F F' F2 : Nat → sy_d} (h : xr F F') (e : ∀ q, q < 69 → F2 q = F' q) : xr F F2 := by
  obtain ⟨h1, h2, h3, h4, h5⟩ := h
  have i4 := nz_fi (e 4 (by decide))
  have i5 := nz_fi (e 5 (by decide))
  have i6 := nz_fi (e 6 (by decide))
  have i15 := nz_fi (e 15 (by decide))
  have a49 := nz_fa (e 49 (by decide))
  have a50 := nz_fa (e 50 (by decide))
  refine ⟨h1.dst e, ?_, by rw [i15]; exact h3, by rw [i15, i4]; exact h4, by rw [i4, i5, i6, i15, a49, a50]; exact h5⟩
  unfold kp
  rw [i15, a49, a50]
  exact h2
theorem xc_step {F0 F F1 : Nat → sy_d} {C : List Nat} (h : xc F0 F) (hb : iv_in F1 iv_B4) (g : ∀ j, j < 69 → j ∉ C → F1 j = F j) (hs : ∀ x ∈ C, x ∈ WX) (t : (sy_i F 4).toInt ≤ (sy_i F1 4).toInt) (u : (sy_i F1 6).toInt = 0 → (sy_i F 6).toInt = 0) (k : kp F F1) (l : (sy_i F 15).toInt ≤ (sy_i F1 15).toInt) (m : (sy_i F1 15).toInt + (sy_i F1 16).toInt ≤ 420 * (sy_i F0 12).toInt + (sy_i F1 4).toInt + 1) : xc F0 F1 :=
  ⟨h.1.trans (gr_mk (W := WX) hb g hs t u) (fun _ q => q), kp_trans h.2.1 k h.2.2.1 l, Int.le_trans h.2.2.1 l, m⟩
theorem rd_push {code cint code' cint' : List Int32} {c n d : Nat} {K V : Int32} (h : rd code cint c n d) (e : code' = jm_upd code (c + n) K) (e2 : cint' = jm_upd cint (c + n) V) (hK : K.toInt < 2) (hV : K.toInt = 1 → 0 ≤ V.toInt ∧ V.toInt ≤ 8) : rd code' cint' c (n + 1) (d + 1) := by
  refine .val (rd_eq h (fun i h1 h2 => ?_)) ?_ ?_
  · rw [e, e2, jm_upd_at, jm_upd_at, if_neg (by omega), if_neg (by omega)]
    exact ⟨rfl, rfl⟩
  · rw [e, jm_upd_at, if_pos rfl]
    exact hK
  · rw [e, e2, jm_upd_at, jm_upd_at, if_pos rfl, if_pos rfl]
    exact hV
theorem ws_upd {w : List Int32} {n g o p : Nat} {V : Int32} (h : ws w n g o p) : ws (jm_upd w n V) n g o p := ws_eq h (fun i hi => by rw [jm_upd_at, if_neg (by omega)])
theorem ws_at {w : List Int32} {n : Nat} {V : Int32} : (jm_upd w n V).getD n 0 = V := by rw [jm_upd_at, if_pos rfl]
section EX
variable {Ls : Nat} {xs : Nat → Int32} (X1 X2 : List jm_c) (F0 : Nat → sy_d)
theorem ex_fin {F F' : Nat → sy_d} (hx : xc F0 F) (hc : (sy_i F 6).toInt ≠ 0 ∨ (xi 1 F0 F ∧ (sy_i F 5).toInt = 0)) (h : co_R 0 F F') (h0 : 0 ≤ (sy_i F0 15).toInt) : xr F0 F' := by
  obtain ⟨x1, x2, x3, x4⟩ := hx
  obtain ⟨r1, r2, r3, r4, r5⟩ := h
  have i4 := r1.i (k := 4) (by decide) (by decide)
  have i5 := r1.i (k := 5) (by decide) (by decide)
  have i6 := r1.i (k := 6) (by decide) (by decide)
  have c16 := nz_bx r1.b (k := 16) (lo := 0) (hi := 64) rfl
  refine ⟨x1.trans r1 (by decide), kp_trans x2 r4 x3 r2, by omega, by omega, fun z => ?_⟩
  rcases hc with hc | ⟨⟨y1, y2, y3, g, o, p, y4, y5, y6⟩, y7⟩
  · omega
  · obtain ⟨g', p', z1, z2, -, -⟩ := r5 (sy_i F0 15).toInt.toNat g o p (by omega) y4 (by rw [show ((sy_i F0 15).toInt.toNat : Int) = (sy_i F0 15).toInt by omega]; exact y6)
    rw [show ((sy_i F0 15).toInt.toNat : Int) = (sy_i F0 15).toInt by omega] at z2
    have y3' := y3 rfl
    refine ⟨by omega, by omega, by omega, ?_⟩
    have := rd_go z2 0 trivial
    rwa [Nat.add_zero] at this
theorem ex_stop {F F1 : Nat → sy_d} (hx : xc F0 F1) (hf : (sy_i F1 6).toInt ≠ 0) : xr F0 F1 := by
  have c16 := nz_bx hx.1.b (k := 16) (lo := 0) (hi := 64) rfl
  obtain ⟨x1, x2, x3, x4⟩ := hx
  exact ⟨x1, x2, x3, by omega, fun z => absurd z hf⟩
/-- the three places of the loops, from 400 - n on -/
noncomputable def x96 (Ls : Nat) (xs : Nat → Int32) (n : Nat) : Prop := ∀ F : Nat → sy_d, xc F0 F → xi 1 F0 F → (sy_i F 69).toInt = 0 → 400 - (sy_i F 4).toInt < n →
    hd_W Ls xs 4 jm_M164 (ex_Q F0 X1 X2) (96, sy_dL F [some (.inl (.ref 1000)), some (.inr (.inl 69)), some (.inl (.int 1))], sy_dS F [], sy_dh F X1 X2 (iv_H 4), 0, 0)
noncomputable def x23 (Ls : Nat) (xs : Nat → Int32) (n : Nat) : Prop := ∀ F : Nat → sy_d, xc F0 F → xi 0 F0 F → (sy_i F 69).toInt = 0 → 400 - (sy_i F 4).toInt < n →
    hd_W Ls xs 4 jm_M164 (ex_Q F0 X1 X2) (23, sy_dL F [some (.inl (.ref 1000)), some (.inr (.inl 69)), some (.inl (.int 1))], sy_dS F [], sy_dh F X1 X2 (iv_H 4), 0, 0)
noncomputable def x12 (Ls : Nat) (xs : Nat → Int32) (n : Nat) : Prop := ∀ F : Nat → sy_d, xc F0 F → xi 0 F0 F → (sy_i F 69).toInt = 0 → 400 - (sy_i F 4).toInt < n →
    hd_W Ls xs 4 jm_M164 (ex_Q F0 X1 X2) (12, sy_dL F [some (.inl (.ref 1000)), some (.inr (.inl 69)), some (.inl (.int 1))], sy_dS F [], sy_dh F X1 X2 (iv_H 4), 0, 0)
theorem ex_co {b : Int} {F F' : Nat → sy_d} (h0 : 0 ≤ (sy_i F0 15).toInt) (hx : xc F0 F) (hi : xi 1 F0 F) (h : co_R b F F') : xc F0 F' ∧ (((sy_i F' 6).toInt = 0 ∧ (sy_i F' 5).toInt ≤ 6) ∧ (sy_i F' 15).toInt + (sy_i F' 16).toInt ≤ 420 * (sy_i F0 12).toInt + (sy_i F' 4).toInt ∧ (sy_i F0 4).toInt + 1 ≤ (sy_i F' 4).toInt) ∧ ∃ g o p : Nat, ws (sy_ai F' 51) (sy_i F' 16).toInt.toNat g o p ∧ (o : Int) = (sy_i F' 5).toInt ∧ rd (sy_ai F' 49) (sy_ai F' 50) (sy_i F0 15).toInt.toNat ((sy_i F' 15).toInt - (sy_i F0 15).toInt).toNat (p + 1) ∧ g ≤ 1 ∧ (b = 0 → g = 0) := by
  obtain ⟨x1, x2, x3, x4⟩ := hx
  obtain ⟨r1, r2, r3, r4, r5⟩ := h
  obtain ⟨y1, y2, y3, g, o, p, y4, y5, y6⟩ := hi
  have i4 := r1.i (k := 4) (by decide) (by decide)
  have i5 := r1.i (k := 5) (by decide) (by decide)
  have i6 := r1.i (k := 6) (by decide) (by decide)
  have a51 := r1.a (k := 51) (by decide) (by decide)
  have y3' := y3 rfl
  refine ⟨⟨x1.trans r1 (by decide), kp_trans x2 r4 x3 r2, by omega, by omega⟩, ⟨by omega, by omega, by omega⟩, ?_⟩
  obtain ⟨g', p', z1, z2, z3, z4⟩ := r5 (sy_i F0 15).toInt.toNat g o p (by omega) y4 (by rw [show ((sy_i F0 15).toInt.toNat : Int) = (sy_i F0 15).toInt by omega]; exact y6)
  rw [show ((sy_i F0 15).toInt.toNat : Int) = (sy_i F0 15).toInt by omega] at z2
  exact ⟨g', o, p', by rw [a51]; exact z1, by omega, z2, z3, z4⟩
end EX
