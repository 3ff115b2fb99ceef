/-! ===== the reference: fruit and buyers told, with the numbers ===== -/
section BYV
variable {Ls : Nat} {xs : Nat → Int32} (F : Nat → sy_d) (X1 X2 : List jm_c)
set_option maxHeartbeats 4000000 in
theorem byv_0 (F0 : Nat → sy_d) (hB : iv_in F0 iv_B4) : hd_W Ls xs 3 jm_M157 (fun v G => ∃ (x : Int32) (F' : Nat → sy_d), v = some (.int x) ∧ G = sy_dh F' X1 X2 (iv_H 4) ∧ bR (sy_i F0 69).toInt (sy_i F0 70).toInt F0 F' ∧ ((sy_i F' 6).toInt = 0 → x.toInt = vf F0 (tn F0))) (0, sy_dL F0 (sy_ent (jm_mx jm_M157) [.inl (.ref 1000), .inr (.inl 69), .inr (.inl 70)]), [], sy_dh F0 X1 X2 (iv_H 4), 0, 0) := by
  have c4 := nz_bx hB (k := 4) (lo := 0) (hi := 400) rfl
  have eK : kf F0 (tn F0) = ((sy_ai F0 25).getD (sy_i F0 4).toInt.toNat 0).toInt := rfl
  have eP : pf F0 (tn F0) = ((sy_ai F0 26).getD (sy_i F0 4).toInt.toNat 0).toInt := rfl
  have eV : vf F0 (tn F0) = ((sy_ai F0 27).getD (sy_i F0 4).toInt.toNat 0).toInt := rfl
  have et : (tn F0 : Int) = (sy_i F0 4).toInt := by unfold tn; omega
  refine boy_0 (by decide) F0 X1 X2 hB ?_ ?_ ?_ ?_ ?_ ?_ ?_ ?_ ?_ ?_ ?_ ?_ ?_ ?_ ?_ ?_ ?_ ?_ ?_ ?_ ?_ ?_ ?_ ?_
  all_goals
    intros
    rename_i F1 hb g e4 e6 e7 e8 e9 e13 a25 a26 a27
    refine ⟨_, F1, rfl, rfl, ⟨gr_mk (W := W1) hb g (by decide) (by omega) (by omega), ?_, fun L w hm hL hw => ?_⟩, fun z => ?_⟩
  all_goals first
    | exact absurd z (by omega)
    | exact eV.symm
    | exact nop_same e6 e7
    | exact fun z => absurd z (by omega)
    | exact an_no (by omega)
    | exact an_er (k := 1) (tok := tn F0) (sN_no (by omega)) e6 (by decide) (e7.trans eP.symm)
    | exact an_er (k := 2) (tok := tn F0) (sN_4 (by omega) (by omega)) e6 (by decide) (e7.trans eP.symm)
    | (obtain ⟨h1, h2, h3⟩ := id hw
       have hm9 : w.1 ≠ 0 → (sy_i F0 9).toInt < pf F0 (tn F0) := fun q => by
         obtain ⟨x, y⟩ := h3 q
         rw [x]
         exact hm.1 _ _ y hL
       have ts : tn F1 = tn F0 + 1 := tn_s c4.1 e4
       refine an_ok (a := (tn F0 + 1, sW w (vf F0 (tn F0) < (sy_i F0 69).toInt ∨ (sy_i F0 70).toInt < vf F0 (tn F0)) 5 (tn F0))) (sN_ok (by omega) (by omega)) (by omega) ⟨ts, pm_nx hm hL (by omega) (by omega), wr_s (by decide) hw (by omega) (by omega) (by omega)⟩)
theorem byv_T (hB : iv_in F iv_B4) (a b : Int32) : jm_T Ls xs 3 jm_M157 [.ref 1000, .int a, .int b] (sy_dh F X1 X2 (iv_H 4)) 0 0 (fun v G => ∃ (x : Int32) (F' : Nat → sy_d), v = some (.int x) ∧ G = sy_dh F' X1 X2 (iv_H 4) ∧ bR a.toInt b.toInt F F' ∧ ((sy_i F' 6).toInt = 0 → x.toInt = vf F (tn F))) := by
  refine nz_T2 jm_ok157 (by decide) (fun F0 k0 h69 h70 => hd_W_mono (byv_0 X1 X2 F0 (hd_iveq hB k0)) ?_)
  rintro v G ⟨x, F', rfl, rfl, hR, hx⟩
  rw [h69, h70] at hR
  rw [vf_eq (k0 27 (by decide)), tn_eq (nz_fi (k0 4 (by decide)))] at hx
  exact ⟨x, F', rfl, rfl, bR_src hR k0, hx⟩
end BYV
theorem sM_r {K : Nat → Int} {k : Int} {t t' : Nat} (h : sM K k t = .inr t') : t' = t + 1 := by
  unfold sM sG at h
  split at h
  · split at h
    · cases h
    · cases h; rfl
  · cases h
theorem sNm_r {K : Nat → Int} {N : Nat → Int64} {q : Nat × List Int64 × sE} {p : Nat × sE} (h : sNm K N q = .inr p) : p.1 = q.1 + 1 := by
  unfold sNm at h
  cases e : sM K 1 q.1 with
  | inl x => rw [e] at h; cases h
  | inr x => rw [e] at h; cases h; exact sM_r e
theorem sN_r {K V : Nat → Int} {lo hi : Int} {q p : Nat × sE} (h : sN K V lo hi q = .inr p) : p.1 = q.1 + 1 := by
  unfold sN at h
  cases e : sM K 2 q.1 with
  | inl x => rw [e] at h; cases h
  | inr x => rw [e] at h; cases h; exact sM_r e
theorem sB_r {A B : Type} {r : sE ⊕ A} {f : A → sE ⊕ B} {b : B} (h : sB r f = .inr b) : ∃ a, r = .inr a ∧ f a = .inr b := by
  cases r with
  | inl e => cases h
  | inr a => exact ⟨a, rfl, h⟩
noncomputable def tf_k (F : Nat → sy_d) : Int := 7 * (sy_i F 12).toInt + ((sy_ai F 31).getD (sy_i F 12).toInt.toNat 0).toInt
/-- m of the three numbers are stored -/
noncomputable def tf_v (m : Nat) (F F1 : Nat → sy_d) : Prop := (∀ i : Nat, (i : Int) ≠ tf_k F → (sy_ai F1 32).getD i 0 = (sy_ai F 32).getD i 0 ∧ (sy_ai F1 33).getD i 0 = (sy_ai F 33).getD i 0 ∧ (sy_ai F1 34).getD i 0 = (sy_ai F 34).getD i 0) ∧ ∀ (L : Nat) (w : sE) (nm : List Int64), pm (pf F) (kf F) L → tn F ≤ L → wr (pf F) w F → nmr nm F → (sy_i F 6).toInt = 0 → (sy_i F1 6).toInt = 0 → (1 ≤ m → ix F1 32 (tf_k F).toNat = vf F (tn F + 1)) ∧ (2 ≤ m → ix F1 33 (tf_k F).toNat = vf F (tn F + 2)) ∧ (3 ≤ m → ix F1 34 (tf_k F).toNat = vf F (tn F + 3))
theorem tf_v_same {m : Nat} {F F1 F2 : Nat → sy_d} (h : tf_v m F F1) (b1 : sy_ai F2 32 = sy_ai F1 32) (b2 : sy_ai F2 33 = sy_ai F1 33) (b3 : sy_ai F2 34 = sy_ai F1 34) (h6 : (sy_i F2 6).toInt = 0 → (sy_i F1 6).toInt = 0) : tf_v m F F2 := by
  unfold tf_v ix
  rw [b1, b2, b3]
  exact ⟨h.1, fun L w nm a b c d z z2 => h.2 L w nm a b c d z (h6 z2)⟩
noncomputable def tfz_R (F F' : Nat → sy_d) : Prop := tfy_R F F' ∧ tf_v 3 F F' ∧ ∀ i : Nat, (i : Int) ≠ (sy_i F 12).toInt → (sy_ai F' 31).getD i 0 = (sy_ai F 31).getD i 0
noncomputable def tfz_Q (F : Nat → sy_d) (X1 X2 : List jm_c) (v : Option Value) (G : jm_h) : Prop := ∃ F' : Nat → sy_d, v = none ∧ G = sy_dh F' X1 X2 (iv_H 4) ∧ tfz_R F F'
section tfZ
variable {Ls : Nat} {xs : Nat → Int32} (F : Nat → sy_d) (X1 X2 : List jm_c)
theorem tfz_e (hB : iv_in F iv_B4) (hf : ((sy_ai F 31).getD (sy_i F 12).toInt.toNat 0).toInt ≤ 6) (hn : (sy_i F 13).toInt ≤ 10) (F1 : Nat → sy_d) (hG : rn tf_I F F1 (fun w nm => sB ((fun w nm => sB ((fun w nm => sB ((fun w nm => sNm (kf F) (nf F) (tn F, nm, w)) w nm) (sN (kf F) (vf F) 0 9)) w nm) (sN (kf F) (vf F) 1 9)) w nm) (sN (kf F) (vf F) 0 99))) (h69 : (sy_i F1 69).toInt = (sy_i F 4).toInt) (hV : tf_v 3 F F1) :
    hd_W Ls xs 5 jm_M158 (tfz_Q F X1 X2) (64, sy_dL F1 [some (.inl (.ref 1000)), none, none], sy_dS F1 [.inr (.inl 69), .inl (.ref 1000)], sy_dh F1 X1 X2 (iv_H 4), 0, 0) := by
  obtain ⟨g1, g2, g3⟩ := hG
  have c4 := nz_bx hB (k := 4) (lo := 0) (hi := 400) rfl
  have i12 := g1.i (k := 12) (by decide) (by decide)
  have i13 := g1.i (k := 13) (by decide) (by decide)
  have a31 := g1.a (k := 31) (by decide) (by decide)
  refine hd_calV (R := eR (sy_i F1 69).toInt.toNat F1) (nh := 69) (nv := 70) (s := 4) (s1 := 4) (d1 := 4) (M1 := jm_M156) (As := [.inl (.ref 1000), .inr (.inl 69)]) (rest := []) jm_ok158 rfl rfl (by decide) (by decide +kernel) (ed_T F1 X1 X2 g1.b _ (by omega) (by omega) (by omega)) (fun F3 F' hR p1 _ => ?_)
  have hR3 := eR_dst hR p1
  obtain ⟨h3, r2, x, r4⟩ := id hR3
  rw [kf_eq (g1.f 25 (by decide) (by decide)), pf_eq (g1.f 26 (by decide) (by decide)), nf_eq (g1.f 28 (by decide) (by decide)), show (sy_i F1 69).toInt.toNat = tn F by unfold tn; rw [h69]] at r4
  have k12 := h3.i (k := 12) (by decide) (by decide)
  have k31 := h3.a (k := 31) (by decide) (by decide)
  have b31 := nz_ba h3.b (k := 31) (lo := 0) (hi := 7) rfl (sy_i F3 12).toInt.toNat
  have h4 : gr tf_W F F3 := (g1.mono (by decide)).trans h3 (by decide)
  have e31 : ((sy_ai F3 31).getD (sy_i F3 12).toInt.toNat 0).toInt = ((sy_ai F 31).getD (sy_i F 12).toInt.toNat 0).toInt := by rw [k31, a31, k12, i12]
  have fin : ∀ F4 : Nat → sy_d, (∀ q, q < 69 → q ≠ 31 → F4 q = F3 q) → nop F F4 ∧ ∀ (L : Nat) (w : sE) (nm : List Int64), pm (pf F) (kf F) L → tn F ≤ L → wr (pf F) w F → nmr nm F → an (pf F) (sTell (kf F) (vf F) (nf F) (0, 9) (1, 9) (0, 99) (tn F, nm, w)) (fun q F' => jq (pf F) L q F' ∧ nmr (nm ++ [nf F (tn F)]) F') F F4 := by
    intro F4 e
    have i4 := nz_fi (e 4 (by decide) (by decide))
    have i6 := nz_fi (e 6 (by decide) (by decide))
    have i7 := nz_fi (e 7 (by decide) (by decide))
    refine ⟨nop_trans (nop_trans g2 r2) (nop_same i6 i7), fun L w nm a b c d => ?_⟩
    have eT : sTell (kf F) (vf F) (nf F) (0, 9) (1, 9) (0, 99) (tn F, nm, w) = sB ((fun w nm => sB ((fun w nm => sB ((fun w nm => sB ((fun w nm => sNm (kf F) (nf F) (tn F, nm, w)) w nm) (sN (kf F) (vf F) 0 9)) w nm) (sN (kf F) (vf F) 1 9)) w nm) (sN (kf F) (vf F) 0 99)) w nm) (fun q => sB (sM (kf F) 4 q.1) fun t => .inr (t, q.2)) := by
      show _ = sB (sB (sB (sB _ _) _) _) _
      rw [sB_a, sB_a, sB_a]
      rfl
    rw [eT]
    refine an_bind (g3 L w nm a b c d) (nop_trans r2 (nop_same i6 i7)) (fun _ q hq => ?_)
    obtain ⟨q1, q2⟩ := q
    obtain ⟨e1, l, hw⟩ := hq
    have e1 : tn F1 = q1 := e1
    subst e1
    have hd : nmr nm F1 := nmr_eq d (g1.f 30 (by decide) (by decide)) i13
    refine an_bind (an_mono (r4 L q2 nm a l hw hd) i6 i7 (J' := jE (pf F) L q2 (nm ++ [nf F (tn F)])) (fun t j => ?_)) (nop_same rfl rfl) (fun h6 t j => ?_)
    · obtain ⟨j1, j2, j3, j4⟩ := j
      exact ⟨by rw [tn_eq i4]; exact j1, j2, wr_eq j3 (by rw [tn_eq i4]; exact Nat.le_refl _) (nz_fi (e 8 (by decide) (by decide))) (nz_fi (e 9 (by decide) (by decide))), nmr_eq j4 (e 30 (by decide) (by decide)) (nz_fi (e 13 (by decide) (by decide)))⟩
    · exact an_ok rfl h6 ⟨⟨j.1, j.2.1, j.2.2.1⟩, j.2.2.2⟩
  have vv : ∀ F4 : Nat → sy_d, sy_ai F4 32 = sy_ai F3 32 → sy_ai F4 33 = sy_ai F3 33 → sy_ai F4 34 = sy_ai F3 34 → (sy_i F4 6).toInt = (sy_i F3 6).toInt → tf_v 3 F F4 := fun F4 b1 b2 b3 b6 => tf_v_same hV (b1.trans (h3.a (k := 32) (by decide) (by decide))) (b2.trans (h3.a (k := 33) (by decide) (by decide))) (b3.trans (h3.a (k := 34) (by decide) (by decide))) (fun z => h3.u (by omega))
  refine tfz_67 (by decide) F3 X1 X2 h3.b (by omega) ?_ ?_
  · intro q F4 hb g e4 e6 e7 e8 e9 e12 e13 a25 a26 e31' a32 a33 a34
    obtain ⟨f1, f2⟩ := fin F4 (fun q hq _ => g q hq (by simp))
    exact ⟨F4, rfl, rfl, ⟨h4.trans (gr_mk (W := tf_W) hb g (by decide) (by omega) (by omega)) (by decide), f1, fun z => absurd z (by omega), f2⟩, vv F4 a32 a33 a34 e6, fun i hi => by rw [e31', k31, a31]⟩
  · intro q F4 hb g e4 e6 e7 e8 e9 e12 e13 a25 a26 e31' a32 a33 a34
    obtain ⟨f1, f2⟩ := fin F4 (fun q hq hne => g q hq (by simp only [List.mem_cons, List.not_mem_nil, or_false]; exact hne))
    refine ⟨F4, rfl, rfl, ⟨h4.trans (gr_mk (W := tf_W) hb g (by decide) (by omega) (by omega)) (by decide), f1, fun z => ⟨by have := x q; omega, ?_⟩, f2⟩, vv F4 a32 a33 a34 e6, fun i hi => by rw [e31', jm_upd_at, if_neg (by have c12 := nz_bx hB (k := 12) (lo := 0) (hi := 1) rfl; have k12b := k12.trans i12; omega), k31, a31]⟩
    have k12' : (sy_i F3 12).toInt = (sy_i F 12).toInt := k12.trans i12
    rw [e31', jm_upd_at, if_pos (by rw [k12']), nz_add (rfl : ((sy_ai F3 31).getD (sy_i F3 12).toInt.toNat 0).toInt = _) (by decide : ((1 : Int32)).toInt = 1) (by omega) (by omega), e31]
theorem tfz_b2 (hB : iv_in F iv_B4) (hf : ((sy_ai F 31).getD (sy_i F 12).toInt.toNat 0).toInt ≤ 6) (hn : (sy_i F 13).toInt ≤ 10) (F1 : Nat → sy_d) (hG : rn tf_I F F1 (fun w nm => sB ((fun w nm => sB ((fun w nm => sNm (kf F) (nf F) (tn F, nm, w)) w nm) (sN (kf F) (vf F) 0 9)) w nm) (sN (kf F) (vf F) 1 9))) (hk : (sy_i F1 69).toInt = tf_k F) (hV : tf_v 2 F F1) (ha : 0 ≤ (sy_i F1 69).toInt ∧ (sy_i F1 69).toInt ≤ 13) (h70 : (sy_i F1 70).toInt = (sy_i F 4).toInt) :
    hd_W Ls xs 5 jm_M158 (tfz_Q F X1 X2) (58, sy_dL F1 [some (.inl (.ref 1000)), some (.inr (.inl 69)), some (.inr (.inl 70))], sy_dS F1 [.inl (.int 99), .inl (.int 0), .inl (.ref 1000), .inr (.inl 69), .inl (.ref 1012)], sy_dh F1 X1 X2 (iv_H 4), 0, 0) := by
  refine hd_calI (R := fun x F' => bR ((0 : Int32)).toInt ((99 : Int32)).toInt F1 F' ∧ ((sy_i F' 6).toInt = 0 → x.toInt = vf F1 (tn F1))) (nh := 69) (nv := 71) (s := 4) (s1 := 4) (d1 := 3) (M1 := jm_M157) (As := [.inl (.ref 1000), .inl (.int 0), .inl (.int 99)]) (rest := [.inr (.inl 69), .inl (.ref 1012)]) jm_ok158 rfl rfl (by decide) (by decide +kernel) (byv_T F1 X1 X2 hG.1.b _ _) (fun F3 F' x hR0 p1 p2 p3 => ?_)
  obtain ⟨hR, hx⟩ := hR0
  have hR : bR 0 99 F1 F' := hR
  have h3 := rn_num hG (by decide) (by decide) (bR_dst hR p1)
  have j69 := nz_fi (p2 69 (by decide) (by decide))
  have j70 := nz_fi (p2 70 (by decide) (by decide))
  have vv : ∀ F4 : Nat → sy_d, sy_ai F4 34 = jm_upd (sy_ai F3 34) ((sy_i F3 69).toInt).toNat (sy_i F3 71) → sy_ai F4 32 = sy_ai F3 32 → sy_ai F4 33 = sy_ai F3 33 → (sy_i F4 6).toInt = (sy_i F3 6).toInt → tf_v 3 F F4 := fun F4 b1 b2 b3 b6 => by
    have g3 := (bR_dst hR p1).1
    have k1 : sy_ai F3 34 = sy_ai F1 34 := g3.a (k := 34) (by decide) (by decide)
    have k2 : sy_ai F3 32 = sy_ai F1 32 := g3.a (k := 32) (by decide) (by decide)
    have k3 : sy_ai F3 33 = sy_ai F1 33 := g3.a (k := 33) (by decide) (by decide)
    have ek : (sy_i F3 69).toInt = tf_k F := j69.trans hk
    have i6 := nz_fi (p1 6 (by decide))
    refine ⟨fun i hi => ?_, fun L w nm a b c d z z2 => ?_⟩
    · obtain ⟨y1, y2, y3⟩ := hV.1 i hi
      have hu : (sy_ai F4 34).getD i 0 = (sy_ai F1 34).getD i 0 := by rw [b1, k1, jm_upd_at, if_neg (by omega)]
      rw [b2, b3, k2, k3]
      exact ⟨y1, y2, hu.trans y3⟩
    · have z1 : (sy_i F1 6).toInt = 0 := g3.u (by omega)
      obtain ⟨y1, y2, y3⟩ := hV.2 L w nm a b c d z z1
      have hval : ix F4 34 (tf_k F).toNat = vf F (tn F + 3) := by
        have y := (hG.2.2 L w nm a b c d z).2 z1
        obtain ⟨q, hq, hj⟩ := y
        obtain ⟨q1, hq1, hq2⟩ := sB_r hq
        obtain ⟨q0, hq0, hq01⟩ := sB_r hq1
        have h1 := sNm_r hq0
        have h2 := sN_r hq01
        have h3' := sN_r hq2
        have h0 : tn F1 = q.1 := hj.1
        unfold ix
        rw [b1, jm_upd_at, if_pos (by rw [ek]), zz_i p3, hx (by omega), vf_eq (hG.1.f 27 (by decide) (by decide)), show tn F1 = tn F + 3 by omega]
      have e2 : ix F4 32 (tf_k F).toNat = ix F1 32 (tf_k F).toNat := by unfold ix; rw [b2, k2]
      have e3 : ix F4 33 (tf_k F).toNat = ix F1 33 (tf_k F).toNat := by unfold ix; rw [b3, k3]
      exact ⟨fun _ => by rw [e2]; exact y1 (by decide), fun _ => by rw [e3]; exact y2 (by decide), fun _ => hval⟩
  refine tfz_61 (by decide) F3 X1 X2 h3.1.b (by omega) ?_
  intro F4 hb g e4 e6 e7 e8 e9 e12 e13 a25 a26 e31 a32 a33 a34 e69
  exact tfz_e F X1 X2 hB hf hn F4 (rn_same h3 hb g (by decide) (by decide)) (by omega) (vv F4 a34 a32 a33 e6)
theorem tfz_b1 (hB : iv_in F iv_B4) (hf : ((sy_ai F 31).getD (sy_i F 12).toInt.toNat 0).toInt ≤ 6) (hn : (sy_i F 13).toInt ≤ 10) (F1 : Nat → sy_d) (hG : rn tf_I F F1 (fun w nm => sB ((fun w nm => sNm (kf F) (nf F) (tn F, nm, w)) w nm) (sN (kf F) (vf F) 0 9))) (hk : (sy_i F1 69).toInt = tf_k F) (hV : tf_v 1 F F1) (ha : 0 ≤ (sy_i F1 69).toInt ∧ (sy_i F1 69).toInt ≤ 13) (h70 : (sy_i F1 70).toInt = (sy_i F 4).toInt) :
    hd_W Ls xs 5 jm_M158 (tfz_Q F X1 X2) (45, sy_dL F1 [some (.inl (.ref 1000)), some (.inr (.inl 69)), some (.inr (.inl 70))], sy_dS F1 [.inl (.int 9), .inl (.int 1), .inl (.ref 1000), .inr (.inl 69), .inl (.ref 1011)], sy_dh F1 X1 X2 (iv_H 4), 0, 0) := by
  refine hd_calI (R := fun x F' => bR ((1 : Int32)).toInt ((9 : Int32)).toInt F1 F' ∧ ((sy_i F' 6).toInt = 0 → x.toInt = vf F1 (tn F1))) (nh := 69) (nv := 71) (s := 4) (s1 := 4) (d1 := 3) (M1 := jm_M157) (As := [.inl (.ref 1000), .inl (.int 1), .inl (.int 9)]) (rest := [.inr (.inl 69), .inl (.ref 1011)]) jm_ok158 rfl rfl (by decide) (by decide +kernel) (byv_T F1 X1 X2 hG.1.b _ _) (fun F3 F' x hR0 p1 p2 p3 => ?_)
  obtain ⟨hR, hx⟩ := hR0
  have hR : bR 1 9 F1 F' := hR
  have h3 := rn_num hG (by decide) (by decide) (bR_dst hR p1)
  have j69 := nz_fi (p2 69 (by decide) (by decide))
  have j70 := nz_fi (p2 70 (by decide) (by decide))
  have vv : ∀ F4 : Nat → sy_d, sy_ai F4 33 = jm_upd (sy_ai F3 33) ((sy_i F3 69).toInt).toNat (sy_i F3 71) → sy_ai F4 32 = sy_ai F3 32 → sy_ai F4 34 = sy_ai F3 34 → (sy_i F4 6).toInt = (sy_i F3 6).toInt → tf_v 2 F F4 := fun F4 b1 b2 b3 b6 => by
    have g3 := (bR_dst hR p1).1
    have k1 : sy_ai F3 33 = sy_ai F1 33 := g3.a (k := 33) (by decide) (by decide)
    have k2 : sy_ai F3 32 = sy_ai F1 32 := g3.a (k := 32) (by decide) (by decide)
    have k3 : sy_ai F3 34 = sy_ai F1 34 := g3.a (k := 34) (by decide) (by decide)
    have ek : (sy_i F3 69).toInt = tf_k F := j69.trans hk
    have i6 := nz_fi (p1 6 (by decide))
    refine ⟨fun i hi => ?_, fun L w nm a b c d z z2 => ?_⟩
    · obtain ⟨y1, y2, y3⟩ := hV.1 i hi
      have hu : (sy_ai F4 33).getD i 0 = (sy_ai F1 33).getD i 0 := by rw [b1, k1, jm_upd_at, if_neg (by omega)]
      rw [b2, b3, k2, k3]
      exact ⟨y1, hu.trans y2, y3⟩
    · have z1 : (sy_i F1 6).toInt = 0 := g3.u (by omega)
      obtain ⟨y1, y2, y3⟩ := hV.2 L w nm a b c d z z1
      have hval : ix F4 33 (tf_k F).toNat = vf F (tn F + 2) := by
        have y := (hG.2.2 L w nm a b c d z).2 z1
        obtain ⟨q, hq, hj⟩ := y
        obtain ⟨q0, hq0, hq1⟩ := sB_r hq
        have h1 := sNm_r hq0
        have h2 := sN_r hq1
        have h0 : tn F1 = q.1 := hj.1
        unfold ix
        rw [b1, jm_upd_at, if_pos (by rw [ek]), zz_i p3, hx (by omega), vf_eq (hG.1.f 27 (by decide) (by decide)), show tn F1 = tn F + 2 by omega]
      have e2 : ix F4 32 (tf_k F).toNat = ix F1 32 (tf_k F).toNat := by unfold ix; rw [b2, k2]
      have e3 : ix F4 34 (tf_k F).toNat = ix F1 34 (tf_k F).toNat := by unfold ix; rw [b3, k3]
      exact ⟨fun _ => by rw [e2]; exact y1 (by decide), fun _ => hval, fun q => absurd q (by decide)⟩
  refine tfz_48 (by decide) F3 X1 X2 h3.1.b (by omega) ?_
  intro F4 hb g e4 e6 e7 e8 e9 e12 e13 a25 a26 e31 a32 a33 a34 e69 e70
  exact tfz_b2 F X1 X2 hB hf hn F4 (rn_same h3 hb g (by decide) (by decide)) (by omega) (vv F4 a33 a32 a34 e6) (by omega) (by omega)
theorem tfz_b0 (hB : iv_in F iv_B4) (hf : ((sy_ai F 31).getD (sy_i F 12).toInt.toNat 0).toInt ≤ 6) (hn : (sy_i F 13).toInt ≤ 10) (F1 : Nat → sy_d) (hG : rn tf_I F F1 (fun w nm => sNm (kf F) (nf F) (tn F, nm, w))) (hk : (sy_i F1 69).toInt = tf_k F) (hV : tf_v 0 F F1) (ha : 0 ≤ (sy_i F1 69).toInt ∧ (sy_i F1 69).toInt ≤ 13) (h70 : (sy_i F1 70).toInt = (sy_i F 4).toInt) :
    hd_W Ls xs 5 jm_M158 (tfz_Q F X1 X2) (32, sy_dL F1 [some (.inl (.ref 1000)), some (.inr (.inl 69)), some (.inr (.inl 70))], sy_dS F1 [.inl (.int 9), .inl (.int 0), .inl (.ref 1000), .inr (.inl 69), .inl (.ref 1010)], sy_dh F1 X1 X2 (iv_H 4), 0, 0) := by
  refine hd_calI (R := fun x F' => bR ((0 : Int32)).toInt ((9 : Int32)).toInt F1 F' ∧ ((sy_i F' 6).toInt = 0 → x.toInt = vf F1 (tn F1))) (nh := 69) (nv := 71) (s := 4) (s1 := 4) (d1 := 3) (M1 := jm_M157) (As := [.inl (.ref 1000), .inl (.int 0), .inl (.int 9)]) (rest := [.inr (.inl 69), .inl (.ref 1010)]) jm_ok158 rfl rfl (by decide) (by decide +kernel) (byv_T F1 X1 X2 hG.1.b _ _) (fun F3 F' x hR0 p1 p2 p3 => ?_)
  obtain ⟨hR, hx⟩ := hR0
  have hR : bR 0 9 F1 F' := hR
  have h3 := rn_num hG (by decide) (by decide) (bR_dst hR p1)
  have j69 := nz_fi (p2 69 (by decide) (by decide))
  have j70 := nz_fi (p2 70 (by decide) (by decide))
  have vv : ∀ F4 : Nat → sy_d, sy_ai F4 32 = jm_upd (sy_ai F3 32) ((sy_i F3 69).toInt).toNat (sy_i F3 71) → sy_ai F4 33 = sy_ai F3 33 → sy_ai F4 34 = sy_ai F3 34 → (sy_i F4 6).toInt = (sy_i F3 6).toInt → tf_v 1 F F4 := fun F4 b1 b2 b3 b6 => by
    have g3 := (bR_dst hR p1).1
    have k1 : sy_ai F3 32 = sy_ai F1 32 := g3.a (k := 32) (by decide) (by decide)
    have k2 : sy_ai F3 33 = sy_ai F1 33 := g3.a (k := 33) (by decide) (by decide)
    have k3 : sy_ai F3 34 = sy_ai F1 34 := g3.a (k := 34) (by decide) (by decide)
    have ek : (sy_i F3 69).toInt = tf_k F := j69.trans hk
    have i6 := nz_fi (p1 6 (by decide))
    refine ⟨fun i hi => ?_, fun L w nm a b c d z z2 => ?_⟩
    · obtain ⟨y1, y2, y3⟩ := hV.1 i hi
      have hu : (sy_ai F4 32).getD i 0 = (sy_ai F1 32).getD i 0 := by rw [b1, k1, jm_upd_at, if_neg (by omega)]
      rw [b2, b3, k2, k3]
      exact ⟨hu.trans y1, y2, y3⟩
    · have z1 : (sy_i F1 6).toInt = 0 := g3.u (by omega)
      obtain ⟨y1, y2, y3⟩ := hV.2 L w nm a b c d z z1
      have hval : ix F4 32 (tf_k F).toNat = vf F (tn F + 1) := by
        have y := (hG.2.2 L w nm a b c d z).2 z1
        obtain ⟨q, hq, hj⟩ := y
        have h1 := sNm_r hq
        have h0 : tn F1 = q.1 := hj.1
        unfold ix
        rw [b1, jm_upd_at, if_pos (by rw [ek]), zz_i p3, hx (by omega), vf_eq (hG.1.f 27 (by decide) (by decide)), show tn F1 = tn F + 1 by omega]
      have e2 : ix F4 33 (tf_k F).toNat = ix F1 33 (tf_k F).toNat := by unfold ix; rw [b2, k2]
      have e3 : ix F4 34 (tf_k F).toNat = ix F1 34 (tf_k F).toNat := by unfold ix; rw [b3, k3]
      exact ⟨fun _ => hval, fun q => absurd q (by decide), fun q => absurd q (by decide)⟩
  refine tfz_35 (by decide) F3 X1 X2 h3.1.b (by omega) ?_
  intro F4 hb g e4 e6 e7 e8 e9 e12 e13 a25 a26 e31 a32 a33 a34 e69 e70
  exact tfz_b1 F X1 X2 hB hf hn F4 (rn_same h3 hb g (by decide) (by decide)) (by omega) (vv F4 a32 a33 a34 e6) (by omega) (by omega)
theorem tfz_T (hB : iv_in F iv_B4) (hf : ((sy_ai F 31).getD (sy_i F 12).toInt.toNat 0).toInt ≤ 6) (hn : (sy_i F 13).toInt ≤ 10) : jm_T Ls xs 5 jm_M158 [.ref 1000] (sy_dh F X1 X2 (iv_H 4)) 0 0 (tfz_Q F X1 X2) := by
  have c4 := nz_bx hB (k := 4) (lo := 0) (hi := 400) rfl
  have c12 := nz_bx hB (k := 12) (lo := 0) (hi := 1) rfl
  have b31 := nz_ba hB (k := 31) (lo := 0) (hi := 7) rfl (sy_i F 12).toInt.toNat
  refine nz_T0 jm_ok158 (by decide) (tfz_0 (by decide) F X1 X2 hB ?_)
  intro F1 hb g e4 e6 e7 e8 e9 e12 e13 a25 a26 e31 a32 a33 a34 e69
  have g0 : ∀ q, q < 69 → F1 q = F q := fun q hq => g q hq (by simp)
  refine hd_calI (R := fun (x : Int32) F' => nR x F1 F') (nh := 69) (nv := 70) (s := 4) (s1 := 4) (d1 := 4) (M1 := jm_M155) (As := [.inl (.ref 1000)]) (rest := []) jm_ok158 rfl rfl (by decide) (by decide +kernel) (ny_T F1 X1 X2 hb) (fun F3 F' x hR p1 p2 p3 => ?_)
  obtain ⟨r1, r2, r4, r3⟩ := nR_dst hR p1
  rw [kf_eq (g0 25 (by decide)), pf_eq (g0 26 (by decide)), nf_eq (g0 28 (by decide)), tn_eq e4] at r3
  have h3 : rn tf_I F F3 (fun w nm => sNm (kf F) (nf F) (tn F, nm, w)) := ⟨(r1.mono (by decide)).src g0, nop_src r2 e6 e7, fun L w nm a b c d => an_src (r3 L w nm a b (wr_eq c (by rw [tn_eq e4]; exact Nat.le_refl _) e8 e9) (nmr_eq d (g0 30 (by decide)) e13)) e6⟩
  have j69 := nz_fi (p2 69 (by decide) (by decide))
  have j70 := zz_i p3
  rw [← j70] at r4
  refine tfz_22 (by decide) F3 X1 X2 h3.1.b ?_
  intro F4 hb4 g4 e4' e6' e7' e8' e9' e12' e13' a25' a26' e31' a32' a33' a34' e69' e70'
  refine tfz_b0 F X1 X2 hB hf hn F4 (rn_same h3 hb4 g4 (by decide) (by decide)) (by unfold tf_k; omega) ⟨fun i _ => ?_, fun L w nm a b c d z z2 => ⟨fun q => absurd q (by decide), fun q => absurd q (by decide), fun q => absurd q (by decide)⟩⟩ (by omega) (by omega)
  rw [a32', a33', a34', r1.a (k := 32) (by decide) (by decide), r1.a (k := 33) (by decide) (by decide), r1.a (k := 34) (by decide) (by decide), a32, a33, a34]
  exact ⟨rfl, rfl, rfl⟩
end tfZ
noncomputable def tb_k (F : Nat → sy_d) : Int := 4 * (sy_i F 12).toInt + ((sy_ai F 35).getD (sy_i F 12).toInt.toNat 0).toInt
/-- m of the three numbers are stored -/
noncomputable def tb_v (m : Nat) (F F1 : Nat → sy_d) : Prop := (∀ i : Nat, (i : Int) ≠ tb_k F → (sy_ai F1 36).getD i 0 = (sy_ai F 36).getD i 0 ∧ (sy_ai F1 37).getD i 0 = (sy_ai F 37).getD i 0 ∧ (sy_ai F1 38).getD i 0 = (sy_ai F 38).getD i 0) ∧ ∀ (L : Nat) (w : sE) (nm : List Int64), pm (pf F) (kf F) L → tn F ≤ L → wr (pf F) w F → nmr nm F → (sy_i F 6).toInt = 0 → (sy_i F1 6).toInt = 0 → (1 ≤ m → ix F1 36 (tb_k F).toNat = vf F (tn F + 1)) ∧ (2 ≤ m → ix F1 37 (tb_k F).toNat = vf F (tn F + 2)) ∧ (3 ≤ m → ix F1 38 (tb_k F).toNat = vf F (tn F + 3))
theorem tb_v_same {m : Nat} {F F1 F2 : Nat → sy_d} (h : tb_v m F F1) (b1 : sy_ai F2 36 = sy_ai F1 36) (b2 : sy_ai F2 37 = sy_ai F1 37) (b3 : sy_ai F2 38 = sy_ai F1 38) (h6 : (sy_i F2 6).toInt = 0 → (sy_i F1 6).toInt = 0) : tb_v m F F2 := by
  unfold tb_v ix
  rw [b1, b2, b3]
  exact ⟨h.1, fun L w nm a b c d z z2 => h.2 L w nm a b c d z (h6 z2)⟩
noncomputable def tbz_R (F F' : Nat → sy_d) : Prop := tby_R F F' ∧ tb_v 3 F F' ∧ ∀ i : Nat, (i : Int) ≠ (sy_i F 12).toInt → (sy_ai F' 35).getD i 0 = (sy_ai F 35).getD i 0
noncomputable def tbz_Q (F : Nat → sy_d) (X1 X2 : List jm_c) (v : Option Value) (G : jm_h) : Prop := ∃ F' : Nat → sy_d, v = none ∧ G = sy_dh F' X1 X2 (iv_H 4) ∧ tbz_R F F'
section tbZ
variable {Ls : Nat} {xs : Nat → Int32} (F : Nat → sy_d) (X1 X2 : List jm_c)
theorem tbz_e (hB : iv_in F iv_B4) (hf : ((sy_ai F 35).getD (sy_i F 12).toInt.toNat 0).toInt ≤ 3) (hn : (sy_i F 13).toInt ≤ 10) (F1 : Nat → sy_d) (hG : rn tb_I F F1 (fun w nm => sB ((fun w nm => sB ((fun w nm => sB ((fun w nm => sNm (kf F) (nf F) (tn F, nm, w)) w nm) (sN (kf F) (vf F) 0 9)) w nm) (sN (kf F) (vf F) 0 3)) w nm) (sN (kf F) (vf F) 0 999))) (h69 : (sy_i F1 69).toInt = (sy_i F 4).toInt) (hV : tb_v 3 F F1) :
    hd_W Ls xs 5 jm_M159 (tbz_Q F X1 X2) (63, sy_dL F1 [some (.inl (.ref 1000)), none, none], sy_dS F1 [.inr (.inl 69), .inl (.ref 1000)], sy_dh F1 X1 X2 (iv_H 4), 0, 0) := by
  obtain ⟨g1, g2, g3⟩ := hG
  have c4 := nz_bx hB (k := 4) (lo := 0) (hi := 400) rfl
  have i12 := g1.i (k := 12) (by decide) (by decide)
  have i13 := g1.i (k := 13) (by decide) (by decide)
  have a31 := g1.a (k := 35) (by decide) (by decide)
  refine hd_calV (R := eR (sy_i F1 69).toInt.toNat F1) (nh := 69) (nv := 70) (s := 4) (s1 := 4) (d1 := 4) (M1 := jm_M156) (As := [.inl (.ref 1000), .inr (.inl 69)]) (rest := []) jm_ok159 rfl rfl (by decide) (by decide +kernel) (ed_T F1 X1 X2 g1.b _ (by omega) (by omega) (by omega)) (fun F3 F' hR p1 _ => ?_)
  have hR3 := eR_dst hR p1
  obtain ⟨h3, r2, x, r4⟩ := id hR3
  rw [kf_eq (g1.f 25 (by decide) (by decide)), pf_eq (g1.f 26 (by decide) (by decide)), nf_eq (g1.f 28 (by decide) (by decide)), show (sy_i F1 69).toInt.toNat = tn F by unfold tn; rw [h69]] at r4
  have k12 := h3.i (k := 12) (by decide) (by decide)
  have k31 := h3.a (k := 35) (by decide) (by decide)
  have b31 := nz_ba h3.b (k := 35) (lo := 0) (hi := 4) rfl (sy_i F3 12).toInt.toNat
  have h4 : gr tb_W F F3 := (g1.mono (by decide)).trans h3 (by decide)
  have e31 : ((sy_ai F3 35).getD (sy_i F3 12).toInt.toNat 0).toInt = ((sy_ai F 35).getD (sy_i F 12).toInt.toNat 0).toInt := by rw [k31, a31, k12, i12]
  have fin : ∀ F4 : Nat → sy_d, (∀ q, q < 69 → q ≠ 35 → F4 q = F3 q) → nop F F4 ∧ ∀ (L : Nat) (w : sE) (nm : List Int64), pm (pf F) (kf F) L → tn F ≤ L → wr (pf F) w F → nmr nm F → an (pf F) (sTell (kf F) (vf F) (nf F) (0, 9) (0, 3) (0, 999) (tn F, nm, w)) (fun q F' => jq (pf F) L q F' ∧ nmr (nm ++ [nf F (tn F)]) F') F F4 := by
    intro F4 e
    have i4 := nz_fi (e 4 (by decide) (by decide))
    have i6 := nz_fi (e 6 (by decide) (by decide))
    have i7 := nz_fi (e 7 (by decide) (by decide))
    refine ⟨nop_trans (nop_trans g2 r2) (nop_same i6 i7), fun L w nm a b c d => ?_⟩
    have eT : sTell (kf F) (vf F) (nf F) (0, 9) (0, 3) (0, 999) (tn F, nm, w) = sB ((fun w nm => sB ((fun w nm => sB ((fun w nm => sB ((fun w nm => sNm (kf F) (nf F) (tn F, nm, w)) w nm) (sN (kf F) (vf F) 0 9)) w nm) (sN (kf F) (vf F) 0 3)) w nm) (sN (kf F) (vf F) 0 999)) w nm) (fun q => sB (sM (kf F) 4 q.1) fun t => .inr (t, q.2)) := by
      show _ = sB (sB (sB (sB _ _) _) _) _
      rw [sB_a, sB_a, sB_a]
      rfl
    rw [eT]
    refine an_bind (g3 L w nm a b c d) (nop_trans r2 (nop_same i6 i7)) (fun _ q hq => ?_)
    obtain ⟨q1, q2⟩ := q
    obtain ⟨e1, l, hw⟩ := hq
    have e1 : tn F1 = q1 := e1
    subst e1
    have hd : nmr nm F1 := nmr_eq d (g1.f 30 (by decide) (by decide)) i13
    refine an_bind (an_mono (r4 L q2 nm a l hw hd) i6 i7 (J' := jE (pf F) L q2 (nm ++ [nf F (tn F)])) (fun t j => ?_)) (nop_same rfl rfl) (fun h6 t j => ?_)
    · obtain ⟨j1, j2, j3, j4⟩ := j
      exact ⟨by rw [tn_eq i4]; exact j1, j2, wr_eq j3 (by rw [tn_eq i4]; exact Nat.le_refl _) (nz_fi (e 8 (by decide) (by decide))) (nz_fi (e 9 (by decide) (by decide))), nmr_eq j4 (e 30 (by decide) (by decide)) (nz_fi (e 13 (by decide) (by decide)))⟩
    · exact an_ok rfl h6 ⟨⟨j.1, j.2.1, j.2.2.1⟩, j.2.2.2⟩
  have vv : ∀ F4 : Nat → sy_d, sy_ai F4 36 = sy_ai F3 36 → sy_ai F4 37 = sy_ai F3 37 → sy_ai F4 38 = sy_ai F3 38 → (sy_i F4 6).toInt = (sy_i F3 6).toInt → tb_v 3 F F4 := fun F4 b1 b2 b3 b6 => tb_v_same hV (b1.trans (h3.a (k := 36) (by decide) (by decide))) (b2.trans (h3.a (k := 37) (by decide) (by decide))) (b3.trans (h3.a (k := 38) (by decide) (by decide))) (fun z => h3.u (by omega))
  refine tbz_66 (by decide) F3 X1 X2 h3.b (by omega) ?_ ?_
  · intro q F4 hb g e4 e6 e7 e8 e9 e12 e13 a25 a26 e31' a32 a33 a34
    obtain ⟨f1, f2⟩ := fin F4 (fun q hq _ => g q hq (by simp))
    exact ⟨F4, rfl, rfl, ⟨h4.trans (gr_mk (W := tb_W) hb g (by decide) (by omega) (by omega)) (by decide), f1, fun z => absurd z (by omega), f2⟩, vv F4 a32 a33 a34 e6, fun i hi => by rw [e31', k31, a31]⟩
  · intro q F4 hb g e4 e6 e7 e8 e9 e12 e13 a25 a26 e31' a32 a33 a34
    obtain ⟨f1, f2⟩ := fin F4 (fun q hq hne => g q hq (by simp only [List.mem_cons, List.not_mem_nil, or_false]; exact hne))
    refine ⟨F4, rfl, rfl, ⟨h4.trans (gr_mk (W := tb_W) hb g (by decide) (by omega) (by omega)) (by decide), f1, fun z => ⟨by have := x q; omega, ?_⟩, f2⟩, vv F4 a32 a33 a34 e6, fun i hi => by rw [e31', jm_upd_at, if_neg (by have c12 := nz_bx hB (k := 12) (lo := 0) (hi := 1) rfl; have k12b := k12.trans i12; omega), k31, a31]⟩
    have k12' : (sy_i F3 12).toInt = (sy_i F 12).toInt := k12.trans i12
    rw [e31', jm_upd_at, if_pos (by rw [k12']), nz_add (rfl : ((sy_ai F3 35).getD (sy_i F3 12).toInt.toNat 0).toInt = _) (by decide : ((1 : Int32)).toInt = 1) (by omega) (by omega), e31]
theorem tbz_b2 (hB : iv_in F iv_B4) (hf : ((sy_ai F 35).getD (sy_i F 12).toInt.toNat 0).toInt ≤ 3) (hn : (sy_i F 13).toInt ≤ 10) (F1 : Nat → sy_d) (hG : rn tb_I F F1 (fun w nm => sB ((fun w nm => sB ((fun w nm => sNm (kf F) (nf F) (tn F, nm, w)) w nm) (sN (kf F) (vf F) 0 9)) w nm) (sN (kf F) (vf F) 0 3))) (hk : (sy_i F1 69).toInt = tb_k F) (hV : tb_v 2 F F1) (ha : 0 ≤ (sy_i F1 69).toInt ∧ (sy_i F1 69).toInt ≤ 7) (h70 : (sy_i F1 70).toInt = (sy_i F 4).toInt) :
    hd_W Ls xs 5 jm_M159 (tbz_Q F X1 X2) (57, sy_dL F1 [some (.inl (.ref 1000)), some (.inr (.inl 69)), some (.inr (.inl 70))], sy_dS F1 [.inl (.int 999), .inl (.int 0), .inl (.ref 1000), .inr (.inl 69), .inl (.ref 1016)], sy_dh F1 X1 X2 (iv_H 4), 0, 0) := by
  refine hd_calI (R := fun x F' => bR ((0 : Int32)).toInt ((999 : Int32)).toInt F1 F' ∧ ((sy_i F' 6).toInt = 0 → x.toInt = vf F1 (tn F1))) (nh := 69) (nv := 71) (s := 4) (s1 := 4) (d1 := 3) (M1 := jm_M157) (As := [.inl (.ref 1000), .inl (.int 0), .inl (.int 999)]) (rest := [.inr (.inl 69), .inl (.ref 1016)]) jm_ok159 rfl rfl (by decide) (by decide +kernel) (byv_T F1 X1 X2 hG.1.b _ _) (fun F3 F' x hR0 p1 p2 p3 => ?_)
  obtain ⟨hR, hx⟩ := hR0
  have hR : bR 0 999 F1 F' := hR
  have h3 := rn_num hG (by decide) (by decide) (bR_dst hR p1)
  have j69 := nz_fi (p2 69 (by decide) (by decide))
  have j70 := nz_fi (p2 70 (by decide) (by decide))
  have vv : ∀ F4 : Nat → sy_d, sy_ai F4 38 = jm_upd (sy_ai F3 38) ((sy_i F3 69).toInt).toNat (sy_i F3 71) → sy_ai F4 36 = sy_ai F3 36 → sy_ai F4 37 = sy_ai F3 37 → (sy_i F4 6).toInt = (sy_i F3 6).toInt → tb_v 3 F F4 := fun F4 b1 b2 b3 b6 => by
    have g3 := (bR_dst hR p1).1
    have k1 : sy_ai F3 38 = sy_ai F1 38 := g3.a (k := 38) (by decide) (by decide)
    have k2 : sy_ai F3 36 = sy_ai F1 36 := g3.a (k := 36) (by decide) (by decide)
    have k3 : sy_ai F3 37 = sy_ai F1 37 := g3.a (k := 37) (by decide) (by decide)
    have ek : (sy_i F3 69).toInt = tb_k F := j69.trans hk
    have i6 := nz_fi (p1 6 (by decide))
    refine ⟨fun i hi => ?_, fun L w nm a b c d z z2 => ?_⟩
    · obtain ⟨y1, y2, y3⟩ := hV.1 i hi
      have hu : (sy_ai F4 38).getD i 0 = (sy_ai F1 38).getD i 0 := by rw [b1, k1, jm_upd_at, if_neg (by omega)]
      rw [b2, b3, k2, k3]
      exact ⟨y1, y2, hu.trans y3⟩
    · have z1 : (sy_i F1 6).toInt = 0 := g3.u (by omega)
      obtain ⟨y1, y2, y3⟩ := hV.2 L w nm a b c d z z1
      have hval : ix F4 38 (tb_k F).toNat = vf F (tn F + 3) := by
        have y := (hG.2.2 L w nm a b c d z).2 z1
        obtain ⟨q, hq, hj⟩ := y
        obtain ⟨q1, hq1, hq2⟩ := sB_r hq
        obtain ⟨q0, hq0, hq01⟩ := sB_r hq1
        have h1 := sNm_r hq0
        have h2 := sN_r hq01
        have h3' := sN_r hq2
        have h0 : tn F1 = q.1 := hj.1
        unfold ix
        rw [b1, jm_upd_at, if_pos (by rw [ek]), zz_i p3, hx (by omega), vf_eq (hG.1.f 27 (by decide) (by decide)), show tn F1 = tn F + 3 by omega]
      have e2 : ix F4 36 (tb_k F).toNat = ix F1 36 (tb_k F).toNat := by unfold ix; rw [b2, k2]
      have e3 : ix F4 37 (tb_k F).toNat = ix F1 37 (tb_k F).toNat := by unfold ix; rw [b3, k3]
      exact ⟨fun _ => by rw [e2]; exact y1 (by decide), fun _ => by rw [e3]; exact y2 (by decide), fun _ => hval⟩
  refine tbz_60 (by decide) F3 X1 X2 h3.1.b (by omega) ?_
  intro F4 hb g e4 e6 e7 e8 e9 e12 e13 a25 a26 e31 a32 a33 a34 e69
  exact tbz_e F X1 X2 hB hf hn F4 (rn_same h3 hb g (by decide) (by decide)) (by omega) (vv F4 a34 a32 a33 e6)
theorem tbz_b1 (hB : iv_in F iv_B4) (hf : ((sy_ai F 35).getD (sy_i F 12).toInt.toNat 0).toInt ≤ 3) (hn : (sy_i F 13).toInt ≤ 10) (F1 : Nat → sy_d) (hG : rn tb_I F F1 (fun w nm => sB ((fun w nm => sNm (kf F) (nf F) (tn F, nm, w)) w nm) (sN (kf F) (vf F) 0 9))) (hk : (sy_i F1 69).toInt = tb_k F) (hV : tb_v 1 F F1) (ha : 0 ≤ (sy_i F1 69).toInt ∧ (sy_i F1 69).toInt ≤ 7) (h70 : (sy_i F1 70).toInt = (sy_i F 4).toInt) :
    hd_W Ls xs 5 jm_M159 (tbz_Q F X1 X2) (43, sy_dL F1 [some (.inl (.ref 1000)), some (.inr (.inl 69)), some (.inr (.inl 70))], sy_dS F1 [.inl (.int 3), .inl (.int 0), .inl (.ref 1000), .inr (.inl 69), .inl (.ref 1015)], sy_dh F1 X1 X2 (iv_H 4), 0, 0) := by
  refine hd_calI (R := fun x F' => bR ((0 : Int32)).toInt ((3 : Int32)).toInt F1 F' ∧ ((sy_i F' 6).toInt = 0 → x.toInt = vf F1 (tn F1))) (nh := 69) (nv := 71) (s := 4) (s1 := 4) (d1 := 3) (M1 := jm_M157) (As := [.inl (.ref 1000), .inl (.int 0), .inl (.int 3)]) (rest := [.inr (.inl 69), .inl (.ref 1015)]) jm_ok159 rfl rfl (by decide) (by decide +kernel) (byv_T F1 X1 X2 hG.1.b _ _) (fun F3 F' x hR0 p1 p2 p3 => ?_)
  obtain ⟨hR, hx⟩ := hR0
  have hR : bR 0 3 F1 F' := hR
  have h3 := rn_num hG (by decide) (by decide) (bR_dst hR p1)
  have j69 := nz_fi (p2 69 (by decide) (by decide))
  have j70 := nz_fi (p2 70 (by decide) (by decide))
  have vv : ∀ F4 : Nat → sy_d, sy_ai F4 37 = jm_upd (sy_ai F3 37) ((sy_i F3 69).toInt).toNat (sy_i F3 71) → sy_ai F4 36 = sy_ai F3 36 → sy_ai F4 38 = sy_ai F3 38 → (sy_i F4 6).toInt = (sy_i F3 6).toInt → tb_v 2 F F4 := fun F4 b1 b2 b3 b6 => by
    have g3 := (bR_dst hR p1).1
    have k1 : sy_ai F3 37 = sy_ai F1 37 := g3.a (k := 37) (by decide) (by decide)
    have k2 : sy_ai F3 36 = sy_ai F1 36 := g3.a (k := 36) (by decide) (by decide)
    have k3 : sy_ai F3 38 = sy_ai F1 38 := g3.a (k := 38) (by decide) (by decide)
    have ek : (sy_i F3 69).toInt = tb_k F := j69.trans hk
    have i6 := nz_fi (p1 6 (by decide))
    refine ⟨fun i hi => ?_, fun L w nm a b c d z z2 => ?_⟩
    · obtain ⟨y1, y2, y3⟩ := hV.1 i hi
      have hu : (sy_ai F4 37).getD i 0 = (sy_ai F1 37).getD i 0 := by rw [b1, k1, jm_upd_at, if_neg (by omega)]
      rw [b2, b3, k2, k3]
      exact ⟨y1, hu.trans y2, y3⟩
    · have z1 : (sy_i F1 6).toInt = 0 := g3.u (by omega)
      obtain ⟨y1, y2, y3⟩ := hV.2 L w nm a b c d z z1
      have hval : ix F4 37 (tb_k F).toNat = vf F (tn F + 2) := by
        have y := (hG.2.2 L w nm a b c d z).2 z1
        obtain ⟨q, hq, hj⟩ := y
        obtain ⟨q0, hq0, hq1⟩ := sB_r hq
        have h1 := sNm_r hq0
        have h2 := sN_r hq1
        have h0 : tn F1 = q.1 := hj.1
        unfold ix
        rw [b1, jm_upd_at, if_pos (by rw [ek]), zz_i p3, hx (by omega), vf_eq (hG.1.f 27 (by decide) (by decide)), show tn F1 = tn F + 2 by omega]
      have e2 : ix F4 36 (tb_k F).toNat = ix F1 36 (tb_k F).toNat := by unfold ix; rw [b2, k2]
      have e3 : ix F4 38 (tb_k F).toNat = ix F1 38 (tb_k F).toNat := by unfold ix; rw [b3, k3]
      exact ⟨fun _ => by rw [e2]; exact y1 (by decide), fun _ => hval, fun q => absurd q (by decide)⟩
  refine tbz_46 (by decide) F3 X1 X2 h3.1.b (by omega) ?_
  intro F4 hb g e4 e6 e7 e8 e9 e12 e13 a25 a26 e31 a32 a33 a34 e69 e70
  exact tbz_b2 F X1 X2 hB hf hn F4 (rn_same h3 hb g (by decide) (by decide)) (by omega) (vv F4 a33 a32 a34 e6) (by omega) (by omega)
theorem tbz_b0 (hB : iv_in F iv_B4) (hf : ((sy_ai F 35).getD (sy_i F 12).toInt.toNat 0).toInt ≤ 3) (hn : (sy_i F 13).toInt ≤ 10) (F1 : Nat → sy_d) (hG : rn tb_I F F1 (fun w nm => sNm (kf F) (nf F) (tn F, nm, w))) (hk : (sy_i F1 69).toInt = tb_k F) (hV : tb_v 0 F F1) (ha : 0 ≤ (sy_i F1 69).toInt ∧ (sy_i F1 69).toInt ≤ 7) (h70 : (sy_i F1 70).toInt = (sy_i F 4).toInt) :
    hd_W Ls xs 5 jm_M159 (tbz_Q F X1 X2) (31, sy_dL F1 [some (.inl (.ref 1000)), some (.inr (.inl 69)), some (.inr (.inl 70))], sy_dS F1 [.inl (.int 9), .inl (.int 0), .inl (.ref 1000), .inr (.inl 69), .inl (.ref 1014)], sy_dh F1 X1 X2 (iv_H 4), 0, 0) := by
  refine hd_calI (R := fun x F' => bR ((0 : Int32)).toInt ((9 : Int32)).toInt F1 F' ∧ ((sy_i F' 6).toInt = 0 → x.toInt = vf F1 (tn F1))) (nh := 69) (nv := 71) (s := 4) (s1 := 4) (d1 := 3) (M1 := jm_M157) (As := [.inl (.ref 1000), .inl (.int 0), .inl (.int 9)]) (rest := [.inr (.inl 69), .inl (.ref 1014)]) jm_ok159 rfl rfl (by decide) (by decide +kernel) (byv_T F1 X1 X2 hG.1.b _ _) (fun F3 F' x hR0 p1 p2 p3 => ?_)
  obtain ⟨hR, hx⟩ := hR0
  have hR : bR 0 9 F1 F' := hR
  have h3 := rn_num hG (by decide) (by decide) (bR_dst hR p1)
  have j69 := nz_fi (p2 69 (by decide) (by decide))
  have j70 := nz_fi (p2 70 (by decide) (by decide))
  have vv : ∀ F4 : Nat → sy_d, sy_ai F4 36 = jm_upd (sy_ai F3 36) ((sy_i F3 69).toInt).toNat (sy_i F3 71) → sy_ai F4 37 = sy_ai F3 37 → sy_ai F4 38 = sy_ai F3 38 → (sy_i F4 6).toInt = (sy_i F3 6).toInt → tb_v 1 F F4 := fun F4 b1 b2 b3 b6 => by
    have g3 := (bR_dst hR p1).1
    have k1 : sy_ai F3 36 = sy_ai F1 36 := g3.a (k := 36) (by decide) (by decide)
    have k2 : sy_ai F3 37 = sy_ai F1 37 := g3.a (k := 37) (by decide) (by decide)
    have k3 : sy_ai F3 38 = sy_ai F1 38 := g3.a (k := 38) (by decide) (by decide)
    have ek : (sy_i F3 69).toInt = tb_k F := j69.trans hk
    have i6 := nz_fi (p1 6 (by decide))
    refine ⟨fun i hi => ?_, fun L w nm a b c d z z2 => ?_⟩
    · obtain ⟨y1, y2, y3⟩ := hV.1 i hi
      have hu : (sy_ai F4 36).getD i 0 = (sy_ai F1 36).getD i 0 := by rw [b1, k1, jm_upd_at, if_neg (by omega)]
      rw [b2, b3, k2, k3]
      exact ⟨hu.trans y1, y2, y3⟩
    · have z1 : (sy_i F1 6).toInt = 0 := g3.u (by omega)
      obtain ⟨y1, y2, y3⟩ := hV.2 L w nm a b c d z z1
      have hval : ix F4 36 (tb_k F).toNat = vf F (tn F + 1) := by
        have y := (hG.2.2 L w nm a b c d z).2 z1
        obtain ⟨q, hq, hj⟩ := y
        have h1 := sNm_r hq
        have h0 : tn F1 = q.1 := hj.1
        unfold ix
        rw [b1, jm_upd_at, if_pos (by rw [ek]), zz_i p3, hx (by omega), vf_eq (hG.1.f 27 (by decide) (by decide)), show tn F1 = tn F + 1 by omega]
      have e2 : ix F4 37 (tb_k F).toNat = ix F1 37 (tb_k F).toNat := by unfold ix; rw [b2, k2]
      have e3 : ix F4 38 (tb_k F).toNat = ix F1 38 (tb_k F).toNat := by unfold ix; rw [b3, k3]
      exact ⟨fun _ => hval, fun q => absurd q (by decide), fun q => absurd q (by decide)⟩
  refine tbz_34 (by decide) F3 X1 X2 h3.1.b (by omega) ?_
  intro F4 hb g e4 e6 e7 e8 e9 e12 e13 a25 a26 e31 a32 a33 a34 e69 e70
  exact tbz_b1 F X1 X2 hB hf hn F4 (rn_same h3 hb g (by decide) (by decide)) (by omega) (vv F4 a32 a33 a34 e6) (by omega) (by omega)
theorem tbz_T (hB : iv_in F iv_B4) (hf : ((sy_ai F 35).getD (sy_i F 12).toInt.toNat 0).toInt ≤ 3) (hn : (sy_i F 13).toInt ≤ 10) : jm_T Ls xs 5 jm_M159 [.ref 1000] (sy_dh F X1 X2 (iv_H 4)) 0 0 (tbz_Q F X1 X2) := by
  have c4 := nz_bx hB (k := 4) (lo := 0) (hi := 400) rfl
  have c12 := nz_bx hB (k := 12) (lo := 0) (hi := 1) rfl
  have b31 := nz_ba hB (k := 35) (lo := 0) (hi := 4) rfl (sy_i F 12).toInt.toNat
  refine nz_T0 jm_ok159 (by decide) (tbz_0 (by decide) F X1 X2 hB ?_)
  intro F1 hb g e4 e6 e7 e8 e9 e12 e13 a25 a26 e31 a32 a33 a34 e69
  have g0 : ∀ q, q < 69 → F1 q = F q := fun q hq => g q hq (by simp)
  refine hd_calI (R := fun (x : Int32) F' => nR x F1 F') (nh := 69) (nv := 70) (s := 4) (s1 := 4) (d1 := 4) (M1 := jm_M155) (As := [.inl (.ref 1000)]) (rest := []) jm_ok159 rfl rfl (by decide) (by decide +kernel) (ny_T F1 X1 X2 hb) (fun F3 F' x hR p1 p2 p3 => ?_)
  obtain ⟨r1, r2, r4, r3⟩ := nR_dst hR p1
  rw [kf_eq (g0 25 (by decide)), pf_eq (g0 26 (by decide)), nf_eq (g0 28 (by decide)), tn_eq e4] at r3
  have h3 : rn tb_I F F3 (fun w nm => sNm (kf F) (nf F) (tn F, nm, w)) := ⟨(r1.mono (by decide)).src g0, nop_src r2 e6 e7, fun L w nm a b c d => an_src (r3 L w nm a b (wr_eq c (by rw [tn_eq e4]; exact Nat.le_refl _) e8 e9) (nmr_eq d (g0 30 (by decide)) e13)) e6⟩
  have j69 := nz_fi (p2 69 (by decide) (by decide))
  have j70 := zz_i p3
  rw [← j70] at r4
  refine tbz_21 (by decide) F3 X1 X2 h3.1.b ?_
  intro F4 hb4 g4 e4' e6' e7' e8' e9' e12' e13' a25' a26' e31' a32' a33' a34' e69' e70'
  refine tbz_b0 F X1 X2 hB hf hn F4 (rn_same h3 hb4 g4 (by decide) (by decide)) (by unfold tb_k; omega) ⟨fun i _ => ?_, fun L w nm a b c d z z2 => ⟨fun q => absurd q (by decide), fun q => absurd q (by decide), fun q => absurd q (by decide)⟩⟩ (by omega) (by omega)
  rw [a32', a33', a34', r1.a (k := 36) (by decide) (by decide), r1.a (k := 37) (by decide) (by decide), r1.a (k := 38) (by decide) (by decide), a32, a33, a34]
  exact ⟨rfl, rfl, rfl⟩
end tbZ
