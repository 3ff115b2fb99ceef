/-! ===== the reference: what its laws tell ===== -/
theorem mkv_t {k : Int} {v : Nat → Int32} {j : Nat} (h : tvs k j = true) : mkv k v j = v j := by
  unfold mkv
  rw [if_pos h]
theorem mkv_f {k : Int} {v : Nat → Int32} {j : Nat} (h : tvs k j = false) : mkv k v j = 0 := by
  unfold mkv
  rw [if_neg (by rw [h]; decide)]
theorem pb_V (v : Nat → Int32) (k : Nat) : lwV v (pb k) = if k = 1 then 1 else if k = 2 ∨ k = 3 then v 0 else 0 := by
  unfold pb
  by_cases q1 : k = 1
  · rw [if_pos q1, if_pos q1]
    rfl
  · rw [if_neg q1, if_neg q1]
    by_cases q2 : k = 2 ∨ k = 3
    · rw [if_pos q2, if_pos q2]
      rfl
    · rw [if_neg q2, if_neg q2]
      rfl
/-- nine9 noughts -/
def z9 (l : List Int32) : List Int32 := jm_upd (jm_upd (jm_upd (jm_upd (jm_upd (jm_upd (jm_upd (jm_upd (jm_upd l (0 : Int).toNat ((0 : Int32))) (1 : Int).toNat ((0 : Int32))) (2 : Int).toNat ((0 : Int32))) (3 : Int).toNat ((0 : Int32))) (4 : Int).toNat ((0 : Int32))) (5 : Int).toNat ((0 : Int32))) (6 : Int).toNat ((0 : Int32))) (7 : Int).toNat ((0 : Int32))) (8 : Int).toNat ((0 : Int32))
theorem z9_at {l : List Int32} : ∀ j : Nat, j ≤ 8 → (z9 l).getD j 0 = 0 := fun j hj => by
  unfold z9
  rw [jm_upd_at, jm_upd_at, jm_upd_at, jm_upd_at, jm_upd_at, jm_upd_at, jm_upd_at, jm_upd_at, jm_upd_at]
  revert j
  exact nine9 rfl rfl rfl rfl rfl rfl rfl rfl rfl
theorem rX_n {T : tX} {F : Nat → sy_d} (h : rXl T F) : ix F 31 (sy_i F 11).toInt.toNat = T.1.length ∧ ix F 35 (sy_i F 11).toInt.toNat = T.2.1.length ∧ ix F 39 (sy_i F 11).toInt.toNat = T.2.2.1 ∧ ix F 40 (sy_i F 11).toInt.toNat = T.2.2.2.1 ∧ ix F 41 (sy_i F 11).toInt.toNat = T.2.2.2.2.1 := by
  obtain ⟨t1, t2, t4, t5, t7, -⟩ := h
  have t1 := t1.1
  have t2 := t2.1
  rw [fl_s, fl_ix (by decide)] at t1 t2 t4 t5 t7
  exact ⟨t1, t2, t4, t5, t7⟩
theorem gD {l : List t3} {f : Nat} (h : f < l.length) : l[f]? = some (l.getD f (0, 0, 0)) := by
  rw [List.getD_eq_getElem?_getD, List.getElem?_eq_getElem h]
  rfl
theorem rX_f {T : tX} {F : Nat → sy_d} (h : rXl T F) {f : Nat} (hf : f < T.1.length) : ix F 32 (7 * (sy_i F 11).toInt.toNat + f) = (tF T f).1 ∧ ix F 33 (7 * (sy_i F 11).toInt.toNat + f) = (tF T f).2.1 ∧ ix F 34 (7 * (sy_i F 11).toInt.toNat + f) = (tF T f).2.2 := by
  have t := h.1.2 f (tF T f) (gD hf)
  rw [fl_s, fl_ix (by decide), fl_ix (by decide), fl_ix (by decide)] at t
  exact t
theorem rX_b {T : tX} {F : Nat → sy_d} (h : rXl T F) {f : Nat} (hf : f < T.2.1.length) : ix F 36 (4 * (sy_i F 11).toInt.toNat + f) = (tB T f).1 ∧ ix F 37 (4 * (sy_i F 11).toInt.toNat + f) = (tB T f).2.1 ∧ ix F 38 (4 * (sy_i F 11).toInt.toNat + f) = (tB T f).2.2 := by
  have t := h.2.1.2 f (tB T f) (gD hf)
  rw [fl_s, fl_ix (by decide), fl_ix (by decide), fl_ix (by decide)] at t
  exact t
/-- the reference has the text T -/
def cR (T : tX) (F : Nat → sy_d) : Prop := iv_in F iv_B4 ∧ rXl T F ∧ wT T
theorem cR_q {T : tX} {F F1 : Nat → sy_d} {W : List Nat} (h : cR T F) (q : qR W F F1) (hW : ∀ a ∈ W, (a < 31 ∨ 50 < a) ∧ a ≠ 11) : cR T F1 := by
  have n11 : 11 ∉ W := fun z => (hW 11 z).2 rfl
  refine ⟨q.1, rXl_eq h.2.1 (nz_fi (q.2 11 (by decide) n11)) (fun a h1 h2 => qq_a q (by omega) (fun z => ?_)), h.2.2⟩
  have := (hW a z).1
  omega
section WB
variable {Ls : Nat} {xs : Nat → Int32} {T : tX} (F : Nat → sy_d) (X1 X2 : List jm_c)
theorem wb_V (hC : cR T F) (h l : Int32) : jm_T Ls xs 5 jm_M181 [.ref 1000, .int h, .int l] (sy_dh F X1 X2 (iv_H 4)) 0 0 (pI 4 X1 X2 (fun x F' => qR [17, 52, 53] F F' ∧ x.toInt = windT T h l)) := by
  refine R_T [h, l] [.inl (.ref 1000), .inr (.inl 69), .inr (.inl 70)] jm_ok181 (by decide) rfl (fun F0 k0 ki => ?_)
  have i69 : sy_i F0 69 = h := ki 0
  have i70 : sy_i F0 70 = l := ki 1
  refine ywb_0 (by decide) F0 X1 X2 (hd_iveq hC.1 k0) ?_
  intro F1 hb g a52
  have q1 : qR [17, 52, 53] F F1 := qq_src (qq_mk hb g (by decide)) k0
  have c1 := cR_q hC q1 (by decide)
  rw [i69, i70] at a52
  have a52 : sy_ai F1 52 = jm_upd (jm_upd (z9 (sy_ai F0 52)) (2 : Int).toNat (h)) (8 : Int).toNat (l) := a52
  have kz : ∀ j : Nat, j ≤ 8 → v52 F1 j = if j = (8 : Int).toNat then l else if j = (2 : Int).toNat then h else 0 := fun j hj => by
    show (sy_ai F1 52).getD j 0 = _
    rw [a52, jm_upd_at, jm_upd_at, z9_at j hj]
  have hv : ∀ j : Nat, j ≤ 8 → v52 F1 j = mkv 0 (vrs 0 0 h 0 0 0 0 0 l) j := nine9 (by rw [kz _ (by decide), mkv_f (by decide)]; rfl) (by rw [kz _ (by decide), mkv_f (by decide)]; rfl) (by rw [kz _ (by decide), mkv_t (by decide)]; rfl) (by rw [kz _ (by decide), mkv_f (by decide)]; rfl) (by rw [kz _ (by decide), mkv_f (by decide)]; rfl) (by rw [kz _ (by decide), mkv_f (by decide)]; rfl) (by rw [kz _ (by decide), mkv_f (by decide)]; rfl) (by rw [kz _ (by decide), mkv_f (by decide)]; rfl) (by rw [kz _ (by decide), mkv_t (by decide)]; rfl)
  refine hd_calI (R := fun x F' => qR [17, 53] F1 F' ∧ x.toInt = lwT T 0 (vrs 0 0 h 0 0 0 0 0 l)) (nh := 69) (nv := 69) (s := 4) (s1 := 4) (d1 := 4) (M1 := jm_M179) (As := [.inl (.ref 1000), .inl (.int 0), .inl (.int 0), .inl (.int 0), .inl (.int 9)]) (rest := []) jm_ok181 rfl rfl (by decide) (by decide +kernel) (ak_V F1 X1 X2 hb c1.2.1 c1.2.2 (by decide) (by decide) hv (by decide) (by decide) (fun _ => by rw [pb_V]; rfl)) (fun F3 F' x hR p1 p2 p3 => ?_)
  have q3 := qq_trans q1 (qR_dst (qq_up (W' := [17, 52, 53]) hR.1 (by decide)) p1)
  refine ywb_15 (by decide) F3 X1 X2 q3.1 ?_
  intro F4 hb4 g4
  exact ⟨_, F4, rfl, rfl, qq_on q3 hb4 g4 (by decide), by rw [zz_i p3]; exact hR.2⟩
theorem wo_V (hC : cR T F) (f r y h l : Int32) (hf : 0 ≤ f.toInt ∧ f.toInt < T.1.length) : jm_T Ls xs 5 jm_M183 [.ref 1000, .int f, .int r, .int y, .int h, .int l] (sy_dh F X1 X2 (iv_H 4)) 0 0 (pI 4 X1 X2 (fun x F' => qR [17, 52, 53] F F' ∧ x.toInt = worthT T f.toInt.toNat r y h l)) := by
  refine R_T [f, r, y, h, l] [.inl (.ref 1000), .inr (.inl 69), .inr (.inl 70), .inr (.inl 71), .inr (.inl 72), .inr (.inl 73)] jm_ok183 (by decide) rfl (fun F0 k0 ki => ?_)
  have i69 : sy_i F0 69 = f := ki 0
  have i70 : sy_i F0 70 = r := ki 1
  have i71 : sy_i F0 71 = y := ki 2
  have i72 : sy_i F0 72 = h := ki 3
  have i73 : sy_i F0 73 = l := ki 4
  have c11 := nz_bx hC.1 (k := 11) (lo := 0) (hi := 1) rfl
  have e11 : (sy_i F0 11).toInt = (sy_i F 11).toInt := nz_fi (k0 11 (by decide))
  have hfi : (sy_i F0 69).toInt = f.toInt := congrArg Int32.toInt i69
  have hn : f.toInt.toNat < T.1.length := by omega
  have l7 := hC.2.2.1.1
  obtain ⟨t1, t2, -⟩ := rX_f hC.2.1 hn
  have ei : (7 * (sy_i F0 11).toInt + (sy_i F0 69).toInt).toNat = 7 * (sy_i F 11).toInt.toNat + f.toInt.toNat := by omega
  have eh : (sy_ai F0 33).getD (7 * (sy_i F0 11).toInt + (sy_i F0 69).toInt).toNat 0 = Int32.ofInt (tF T f.toInt.toNat).2.1 := by
    rw [ei, nz_fa (k0 33 (by decide))]
    exact (ofi t2).symm
  have ex : (sy_ai F0 32).getD (7 * (sy_i F0 11).toInt + (sy_i F0 69).toInt).toNat 0 = Int32.ofInt (tF T f.toInt.toNat).1 := by
    rw [ei, nz_fa (k0 32 (by decide))]
    exact (ofi t1).symm
  refine ywo_0 (by decide) F0 X1 X2 (hd_iveq hC.1 k0) (by omega) ?_
  intro F1 hb g a52 e69 j69
  have q1 : qR [17, 52, 53] F F1 := qq_src (qq_mk hb g (by decide)) k0
  have c1 := cR_q hC q1 (by decide)
  rw [i72, i73, i70, i71, eh, ex] at a52
  rw [i70] at j69
  have a52 : sy_ai F1 52 = jm_upd (jm_upd (jm_upd (jm_upd (jm_upd (jm_upd (z9 (sy_ai F0 52)) (2 : Int).toNat (h)) (8 : Int).toNat (l)) (0 : Int).toNat (r)) (1 : Int).toNat (Int32.ofInt (tF T f.toInt.toNat).2.1)) (4 : Int).toNat (Int32.ofInt (tF T f.toInt.toNat).1)) (7 : Int).toNat (y) := a52
  have kz : ∀ j : Nat, j ≤ 8 → v52 F1 j = if j = (7 : Int).toNat then y else if j = (4 : Int).toNat then Int32.ofInt (tF T f.toInt.toNat).1 else if j = (1 : Int).toNat then Int32.ofInt (tF T f.toInt.toNat).2.1 else if j = (0 : Int).toNat then r else if j = (8 : Int).toNat then l else if j = (2 : Int).toNat then h else 0 := fun j hj => by
    show (sy_ai F1 52).getD j 0 = _
    rw [a52, jm_upd_at, jm_upd_at, jm_upd_at, jm_upd_at, jm_upd_at, jm_upd_at, z9_at j hj]
  have hv : ∀ j : Nat, j ≤ 8 → v52 F1 j = mkv 3 (vrs r (Int32.ofInt (tF T f.toInt.toNat).2.1) h 0 (Int32.ofInt (tF T f.toInt.toNat).1) 0 0 y l) j := nine9 (by rw [kz _ (by decide), mkv_t (by decide)]; rfl) (by rw [kz _ (by decide), mkv_t (by decide)]; rfl) (by rw [kz _ (by decide), mkv_t (by decide)]; rfl) (by rw [kz _ (by decide), mkv_f (by decide)]; rfl) (by rw [kz _ (by decide), mkv_t (by decide)]; rfl) (by rw [kz _ (by decide), mkv_f (by decide)]; rfl) (by rw [kz _ (by decide), mkv_f (by decide)]; rfl) (by rw [kz _ (by decide), mkv_t (by decide)]; rfl) (by rw [kz _ (by decide), mkv_t (by decide)]; rfl)
  refine hd_calI (R := fun x F' => qR [17, 53] F1 F' ∧ x.toInt = lwT T 3 (vrs r (Int32.ofInt (tF T f.toInt.toNat).2.1) h 0 (Int32.ofInt (tF T f.toInt.toNat).1) 0 0 y l)) (nh := 69) (nv := 69) (s := 4) (s1 := 4) (d1 := 4) (M1 := jm_M179) (As := [.inl (.ref 1000), .inl (.int 3), .inr (.inl 69), .inl (.int 0), .inl (.int 99)]) (rest := []) jm_ok183 rfl rfl (by decide) (by decide +kernel) (ak_V F1 X1 X2 hb c1.2.1 c1.2.2 (by decide) (by decide) hv (by decide) (by decide) (fun _ => by rw [pb_V, j69]; rw [mkv_t (by decide)]; rfl)) (fun F3 F' x hR p1 p2 p3 => ?_)
  have q3 := qq_trans q1 (qR_dst (qq_up (W' := [17, 52, 53]) hR.1 (by decide)) p1)
  refine ywo_27 (by decide) F3 X1 X2 q3.1 ?_
  intro F4 hb4 g4
  exact ⟨_, F4, rfl, rfl, qq_on q3 hb4 g4 (by decide), by rw [zz_i p3]; exact hR.2⟩
theorem bo_V (hC : cR T F) (f r h l : Int32) (hf : 0 ≤ f.toInt ∧ f.toInt < T.1.length) : jm_T Ls xs 5 jm_M184 [.ref 1000, .int f, .int r, .int h, .int l] (sy_dh F X1 X2 (iv_H 4)) 0 0 (pI 4 X1 X2 (fun x F' => qR [17, 52, 53] F F' ∧ x.toInt = bncT T f.toInt.toNat r h l)) := by
  refine R_T [f, r, h, l] [.inl (.ref 1000), .inr (.inl 69), .inr (.inl 70), .inr (.inl 71), .inr (.inl 72)] jm_ok184 (by decide) rfl (fun F0 k0 ki => ?_)
  have i69 : sy_i F0 69 = f := ki 0
  have i70 : sy_i F0 70 = r := ki 1
  have i71 : sy_i F0 71 = h := ki 2
  have i72 : sy_i F0 72 = l := ki 3
  have c11 := nz_bx hC.1 (k := 11) (lo := 0) (hi := 1) rfl
  have e11 : (sy_i F0 11).toInt = (sy_i F 11).toInt := nz_fi (k0 11 (by decide))
  have hfi : (sy_i F0 69).toInt = f.toInt := congrArg Int32.toInt i69
  have hn : f.toInt.toNat < T.1.length := by omega
  have l7 := hC.2.2.1.1
  obtain ⟨t1, t2, -⟩ := rX_f hC.2.1 hn
  have ei : (7 * (sy_i F0 11).toInt + (sy_i F0 69).toInt).toNat = 7 * (sy_i F 11).toInt.toNat + f.toInt.toNat := by omega
  have eh : (sy_ai F0 33).getD (7 * (sy_i F0 11).toInt + (sy_i F0 69).toInt).toNat 0 = Int32.ofInt (tF T f.toInt.toNat).2.1 := by
    rw [ei, nz_fa (k0 33 (by decide))]
    exact (ofi t2).symm
  have ex : (sy_ai F0 32).getD (7 * (sy_i F0 11).toInt + (sy_i F0 69).toInt).toNat 0 = Int32.ofInt (tF T f.toInt.toNat).1 := by
    rw [ei, nz_fa (k0 32 (by decide))]
    exact (ofi t1).symm
  refine ybo_0 (by decide) F0 X1 X2 (hd_iveq hC.1 k0) (by omega) ?_
  intro F1 hb g a52
  have q1 : qR [17, 52, 53] F F1 := qq_src (qq_mk hb g (by decide)) k0
  have c1 := cR_q hC q1 (by decide)
  rw [i71, i72, i70, eh, ex] at a52
  have a52 : sy_ai F1 52 = jm_upd (jm_upd (jm_upd (jm_upd (jm_upd (z9 (sy_ai F0 52)) (2 : Int).toNat (h)) (8 : Int).toNat (l)) (0 : Int).toNat (r)) (1 : Int).toNat (Int32.ofInt (tF T f.toInt.toNat).2.1)) (4 : Int).toNat (Int32.ofInt (tF T f.toInt.toNat).1) := a52
  have kz : ∀ j : Nat, j ≤ 8 → v52 F1 j = if j = (4 : Int).toNat then Int32.ofInt (tF T f.toInt.toNat).1 else if j = (1 : Int).toNat then Int32.ofInt (tF T f.toInt.toNat).2.1 else if j = (0 : Int).toNat then r else if j = (8 : Int).toNat then l else if j = (2 : Int).toNat then h else 0 := fun j hj => by
    show (sy_ai F1 52).getD j 0 = _
    rw [a52, jm_upd_at, jm_upd_at, jm_upd_at, jm_upd_at, jm_upd_at, z9_at j hj]
  have hv : ∀ j : Nat, j ≤ 8 → v52 F1 j = mkv 4 (vrs r (Int32.ofInt (tF T f.toInt.toNat).2.1) h 0 (Int32.ofInt (tF T f.toInt.toNat).1) 0 0 0 l) j := nine9 (by rw [kz _ (by decide), mkv_t (by decide)]; rfl) (by rw [kz _ (by decide), mkv_t (by decide)]; rfl) (by rw [kz _ (by decide), mkv_t (by decide)]; rfl) (by rw [kz _ (by decide), mkv_f (by decide)]; rfl) (by rw [kz _ (by decide), mkv_t (by decide)]; rfl) (by rw [kz _ (by decide), mkv_f (by decide)]; rfl) (by rw [kz _ (by decide), mkv_f (by decide)]; rfl) (by rw [kz _ (by decide), mkv_f (by decide)]; rfl) (by rw [kz _ (by decide), mkv_t (by decide)]; rfl)
  refine hd_calI (R := fun x F' => qR [17, 53] F1 F' ∧ x.toInt = lwT T 4 (vrs r (Int32.ofInt (tF T f.toInt.toNat).2.1) h 0 (Int32.ofInt (tF T f.toInt.toNat).1) 0 0 0 l)) (nh := 69) (nv := 69) (s := 4) (s1 := 4) (d1 := 4) (M1 := jm_M179) (As := [.inl (.ref 1000), .inl (.int 4), .inl (.int 0), .inl (.int (-9)), .inl (.int 9)]) (rest := []) jm_ok184 rfl rfl (by decide) (by decide +kernel) (ak_V F1 X1 X2 hb c1.2.1 c1.2.2 (by decide) (by decide) hv (by decide) (by decide) (fun _ => by rw [pb_V]; rfl)) (fun F3 F' x hR p1 p2 p3 => ?_)
  have q3 := qq_trans q1 (qR_dst (qq_up (W' := [17, 52, 53]) hR.1 (by decide)) p1)
  refine ybo_19 (by decide) F3 X1 X2 q3.1 ?_
  intro F4 hb4 g4
  exact ⟨_, F4, rfl, rfl, qq_on q3 hb4 g4 (by decide), by rw [zz_i p3]; exact hR.2⟩
theorem hf_V (hC : cR T F) (f r s p w h l : Int32) (hf : 0 ≤ f.toInt ∧ f.toInt < T.1.length) : jm_T Ls xs 5 jm_M185 [.ref 1000, .int 2, .int f, .int r, .int s, .int p, .int w, .int h, .int l] (sy_dh F X1 X2 (iv_H 4)) 0 0 (pI 4 X1 X2 (fun x F' => qR [17, 52, 53] F F' ∧ x.toInt = fallT T f.toInt.toNat r s p w h l)) := by
  refine R_T [2, f, r, s, p, w, h, l] [.inl (.ref 1000), .inr (.inl 69), .inr (.inl 70), .inr (.inl 71), .inr (.inl 72), .inr (.inl 73), .inr (.inl 74), .inr (.inl 75), .inr (.inl 76)] jm_ok185 (by decide) rfl (fun F0 k0 ki => ?_)
  have i69 : sy_i F0 69 = 2 := ki 0
  have i70 : sy_i F0 70 = f := ki 1
  have i71 : sy_i F0 71 = r := ki 2
  have i72 : sy_i F0 72 = s := ki 3
  have i73 : sy_i F0 73 = p := ki 4
  have i74 : sy_i F0 74 = w := ki 5
  have i75 : sy_i F0 75 = h := ki 6
  have i76 : sy_i F0 76 = l := ki 7
  have z69 : (sy_i F0 69).toInt = 2 := by rw [i69]; decide
  have c11 := nz_bx hC.1 (k := 11) (lo := 0) (hi := 1) rfl
  have e11 : (sy_i F0 11).toInt = (sy_i F 11).toInt := nz_fi (k0 11 (by decide))
  have hfi : (sy_i F0 70).toInt = f.toInt := congrArg Int32.toInt i70
  have hn : f.toInt.toNat < T.1.length := by omega
  have l7 := hC.2.2.1.1
  obtain ⟨t1, t2, -⟩ := rX_f hC.2.1 hn
  have ei : (7 * (sy_i F0 11).toInt + (sy_i F0 70).toInt).toNat = 7 * (sy_i F 11).toInt.toNat + f.toInt.toNat := by omega
  have eh : (sy_ai F0 33).getD (7 * (sy_i F0 11).toInt + (sy_i F0 70).toInt).toNat 0 = Int32.ofInt (tF T f.toInt.toNat).2.1 := by
    rw [ei, nz_fa (k0 33 (by decide))]
    exact (ofi t2).symm
  have ex : (sy_ai F0 32).getD (7 * (sy_i F0 11).toInt + (sy_i F0 70).toInt).toNat 0 = Int32.ofInt (tF T f.toInt.toNat).1 := by
    rw [ei, nz_fa (k0 32 (by decide))]
    exact (ofi t1).symm
  refine yhb_0 (by decide) F0 X1 X2 (hd_iveq hC.1 k0) (by omega) ?_ ?_
  · intro c0
    exact absurd z69 c0
  · intro c0 F1 hb g a52 e69 j69
    have q1 : qR [17, 52, 53] F F1 := qq_src (qq_mk hb g (by decide)) k0
    have c1 := cR_q hC q1 (by decide)
    rw [i75, i76, i71, eh, ex, i74, i72, i73] at a52
    rw [i71] at j69
    have a52 : sy_ai F1 52 = jm_upd (jm_upd (jm_upd (jm_upd (jm_upd (jm_upd (jm_upd (jm_upd (z9 (sy_ai F0 52)) (2 : Int).toNat (h)) (8 : Int).toNat (l)) (0 : Int).toNat (r)) (1 : Int).toNat (Int32.ofInt (tF T f.toInt.toNat).2.1)) (4 : Int).toNat (Int32.ofInt (tF T f.toInt.toNat).1)) (3 : Int).toNat (w)) (5 : Int).toNat (s)) (6 : Int).toNat (p) := a52
    have kz : ∀ j : Nat, j ≤ 8 → v52 F1 j = if j = (6 : Int).toNat then p else if j = (5 : Int).toNat then s else if j = (3 : Int).toNat then w else if j = (4 : Int).toNat then Int32.ofInt (tF T f.toInt.toNat).1 else if j = (1 : Int).toNat then Int32.ofInt (tF T f.toInt.toNat).2.1 else if j = (0 : Int).toNat then r else if j = (8 : Int).toNat then l else if j = (2 : Int).toNat then h else 0 := fun j hj => by
      show (sy_ai F1 52).getD j 0 = _
      rw [a52, jm_upd_at, jm_upd_at, jm_upd_at, jm_upd_at, jm_upd_at, jm_upd_at, jm_upd_at, jm_upd_at, z9_at j hj]
    have hv : ∀ j : Nat, j ≤ 8 → v52 F1 j = mkv 2 (vrs r (Int32.ofInt (tF T f.toInt.toNat).2.1) h w (Int32.ofInt (tF T f.toInt.toNat).1) s p 0 l) j := nine9 (by rw [kz _ (by decide), mkv_t (by decide)]; rfl) (by rw [kz _ (by decide), mkv_t (by decide)]; rfl) (by rw [kz _ (by decide), mkv_t (by decide)]; rfl) (by rw [kz _ (by decide), mkv_t (by decide)]; rfl) (by rw [kz _ (by decide), mkv_t (by decide)]; rfl) (by rw [kz _ (by decide), mkv_t (by decide)]; rfl) (by rw [kz _ (by decide), mkv_t (by decide)]; rfl) (by rw [kz _ (by decide), mkv_f (by decide)]; rfl) (by rw [kz _ (by decide), mkv_t (by decide)]; rfl)
    refine hd_calI (R := fun x F' => qR [17, 53] F1 F' ∧ x.toInt = lwT T 2 (vrs r (Int32.ofInt (tF T f.toInt.toNat).2.1) h w (Int32.ofInt (tF T f.toInt.toNat).1) s p 0 l)) (nh := 69) (nv := 69) (s := 4) (s1 := 4) (d1 := 4) (M1 := jm_M179) (As := [.inl (.ref 1000), .inl (.int 2), .inr (.inl 69), .inl (.int 0), .inl (.int 100)]) (rest := []) jm_ok185 rfl rfl (by decide) (by decide +kernel) (ak_V F1 X1 X2 hb c1.2.1 c1.2.2 (by decide) (by decide) hv (by decide) (by decide) (fun _ => by rw [pb_V, j69]; rw [mkv_t (by decide)]; rfl)) (fun F3 F' x hR p1 p2 p3 => ?_)
    have q3 := qq_trans q1 (qR_dst (qq_up (W' := [17, 52, 53]) hR.1 (by decide)) p1)
    refine yhb_49 (by decide) F3 X1 X2 q3.1 ?_
    intro F4 hb4 g4 e69' j69'
    have q4' := qq_on q3 hb4 g4 (by decide)
    refine yhb_62 (by decide) F4 X1 X2 hb4 ?_
    intro F5 hb5 g5
    exact ⟨_, F5, rfl, rfl, qq_on q4' hb5 g5 (by decide), by rw [e69', zz_i p3]; exact hR.2⟩
theorem hr_V (hC : cR T F) (f r s p w h l : Int32) (hf : 0 ≤ f.toInt ∧ f.toInt < T.1.length) : jm_T Ls xs 5 jm_M185 [.ref 1000, .int 1, .int f, .int r, .int s, .int p, .int w, .int h, .int l] (sy_dh F X1 X2 (iv_H 4)) 0 0 (pI 4 X1 X2 (fun x F' => qR [17, 52, 53] F F' ∧ x.toInt = ripeT T f.toInt.toNat r s p w h l)) := by
  refine R_T [1, f, r, s, p, w, h, l] [.inl (.ref 1000), .inr (.inl 69), .inr (.inl 70), .inr (.inl 71), .inr (.inl 72), .inr (.inl 73), .inr (.inl 74), .inr (.inl 75), .inr (.inl 76)] jm_ok185 (by decide) rfl (fun F0 k0 ki => ?_)
  have i69 : sy_i F0 69 = 1 := ki 0
  have i70 : sy_i F0 70 = f := ki 1
  have i71 : sy_i F0 71 = r := ki 2
  have i72 : sy_i F0 72 = s := ki 3
  have i73 : sy_i F0 73 = p := ki 4
  have i74 : sy_i F0 74 = w := ki 5
  have i75 : sy_i F0 75 = h := ki 6
  have i76 : sy_i F0 76 = l := ki 7
  have z69 : (sy_i F0 69).toInt = 1 := by rw [i69]; decide
  have c11 := nz_bx hC.1 (k := 11) (lo := 0) (hi := 1) rfl
  have e11 : (sy_i F0 11).toInt = (sy_i F 11).toInt := nz_fi (k0 11 (by decide))
  have hfi : (sy_i F0 70).toInt = f.toInt := congrArg Int32.toInt i70
  have hn : f.toInt.toNat < T.1.length := by omega
  have l7 := hC.2.2.1.1
  obtain ⟨t1, t2, -⟩ := rX_f hC.2.1 hn
  have ei : (7 * (sy_i F0 11).toInt + (sy_i F0 70).toInt).toNat = 7 * (sy_i F 11).toInt.toNat + f.toInt.toNat := by omega
  have eh : (sy_ai F0 33).getD (7 * (sy_i F0 11).toInt + (sy_i F0 70).toInt).toNat 0 = Int32.ofInt (tF T f.toInt.toNat).2.1 := by
    rw [ei, nz_fa (k0 33 (by decide))]
    exact (ofi t2).symm
  have ex : (sy_ai F0 32).getD (7 * (sy_i F0 11).toInt + (sy_i F0 70).toInt).toNat 0 = Int32.ofInt (tF T f.toInt.toNat).1 := by
    rw [ei, nz_fa (k0 32 (by decide))]
    exact (ofi t1).symm
  refine yhb_0 (by decide) F0 X1 X2 (hd_iveq hC.1 k0) (by omega) ?_ ?_
  · intro c0 F1 hb g a52
    have q1 : qR [17, 52, 53] F F1 := qq_src (qq_mk hb g (by decide)) k0
    have c1 := cR_q hC q1 (by decide)
    rw [i75, i76, i71, eh, ex, i74, i72, i73] at a52
    have a52 : sy_ai F1 52 = jm_upd (jm_upd (jm_upd (jm_upd (jm_upd (jm_upd (jm_upd (jm_upd (z9 (sy_ai F0 52)) (2 : Int).toNat (h)) (8 : Int).toNat (l)) (0 : Int).toNat (r)) (1 : Int).toNat (Int32.ofInt (tF T f.toInt.toNat).2.1)) (4 : Int).toNat (Int32.ofInt (tF T f.toInt.toNat).1)) (3 : Int).toNat (w)) (5 : Int).toNat (s)) (6 : Int).toNat (p) := a52
    have kz : ∀ j : Nat, j ≤ 8 → v52 F1 j = if j = (6 : Int).toNat then p else if j = (5 : Int).toNat then s else if j = (3 : Int).toNat then w else if j = (4 : Int).toNat then Int32.ofInt (tF T f.toInt.toNat).1 else if j = (1 : Int).toNat then Int32.ofInt (tF T f.toInt.toNat).2.1 else if j = (0 : Int).toNat then r else if j = (8 : Int).toNat then l else if j = (2 : Int).toNat then h else 0 := fun j hj => by
      show (sy_ai F1 52).getD j 0 = _
      rw [a52, jm_upd_at, jm_upd_at, jm_upd_at, jm_upd_at, jm_upd_at, jm_upd_at, jm_upd_at, jm_upd_at, z9_at j hj]
    have hv : ∀ j : Nat, j ≤ 8 → v52 F1 j = mkv 1 (vrs r (Int32.ofInt (tF T f.toInt.toNat).2.1) h w (Int32.ofInt (tF T f.toInt.toNat).1) s p 0 l) j := nine9 (by rw [kz _ (by decide), mkv_t (by decide)]; rfl) (by rw [kz _ (by decide), mkv_t (by decide)]; rfl) (by rw [kz _ (by decide), mkv_t (by decide)]; rfl) (by rw [kz _ (by decide), mkv_t (by decide)]; rfl) (by rw [kz _ (by decide), mkv_t (by decide)]; rfl) (by rw [kz _ (by decide), mkv_t (by decide)]; rfl) (by rw [kz _ (by decide), mkv_t (by decide)]; rfl) (by rw [kz _ (by decide), mkv_f (by decide)]; rfl) (by rw [kz _ (by decide), mkv_t (by decide)]; rfl)
    refine hd_calI (R := fun x F' => qR [17, 53] F1 F' ∧ x.toInt = lwT T 1 (vrs r (Int32.ofInt (tF T f.toInt.toNat).2.1) h w (Int32.ofInt (tF T f.toInt.toNat).1) s p 0 l)) (nh := 69) (nv := 69) (s := 4) (s1 := 4) (d1 := 4) (M1 := jm_M179) (As := [.inl (.ref 1000), .inl (.int 1), .inl (.int 1), .inl (.int (-9)), .inl (.int 9)]) (rest := []) jm_ok185 rfl rfl (by decide) (by decide +kernel) (ak_V F1 X1 X2 hb c1.2.1 c1.2.2 (by decide) (by decide) hv (by decide) (by decide) (fun _ => by rw [pb_V]; rfl)) (fun F3 F' x hR p1 p2 p3 => ?_)
    have q3 := qq_trans q1 (qR_dst (qq_up (W' := [17, 52, 53]) hR.1 (by decide)) p1)
    refine yhb_62 (by decide) F3 X1 X2 q3.1 ?_
    intro F5 hb5 g5
    exact ⟨_, F5, rfl, rfl, qq_on q3 hb5 g5 (by decide), by rw [zz_i p3]; exact hR.2⟩
  · intro c0
    omega
end WB
