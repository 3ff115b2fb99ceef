/-! ===== one thing is told: what it tells ===== -/
section LE
variable {K : Nat → Int} {L : Nat}
noncomputable def okL (L : Nat) (r : sE ⊕ Nat) : Prop := ∀ t', r = .inr t' → t' ≤ L
theorem okL_b {A : Type} {r : sE ⊕ A} {f : A → sE ⊕ Nat} (h : ∀ a, r = .inr a → okL L (f a)) : okL L (sB r f) := by
  intro t' e
  match r, h, e with
  | .inl x, _, e => cases (show (.inl x : sE ⊕ Nat) = .inr t' from e)
  | .inr a, h, e => exact h a rfl t' e
theorem okL_G {P : Nat → Int} {t : Nat} (hm : pm P K L) (h : t ≤ L) (hk : K t ≠ 0) : okL L (sG t) := by
  intro t' e
  unfold sG at e
  split at e
  · cases e
  · rename_i q
    cases e
    have := hm.2.2
    exact pm_nx hm h hk (by omega)
theorem okL_M {P : Nat → Int} {t : Nat} {k : Int} (hm : pm P K L) (h : t ≤ L) (hk : k ≠ 0) : okL L (sM K k t) := by
  intro t' e
  unfold sM at e
  split at e
  · rename_i q
    exact okL_G hm h (by rw [q]; exact hk) t' e
  · cases e
theorem okL_X {P : Nat → Int} {t d m : Nat} (hm : pm P K L) (h : t ≤ L) : okL L (eX K t d m) := fun _ e => eX_le hm.2.1 hm.2.2 h e
theorem okL_If {P : Nat → Int} {t : Nat} (hm : pm P K L) (h : t ≤ L) (hk : K t ≠ 0) : okL L (sIf K t) :=
  okL_b (fun a e => okL_b (fun a e2 => okL_b (fun a e3 => okL_b (fun a e4 => okL_b (fun a e5 => okL_b (fun a e6 => okL_M hm (okL_X hm (okL_M hm (okL_X hm (okL_M hm (okL_X hm (okL_G hm h hk _ e) _ e2) (by decide) _ e3) _ e4) (by decide) _ e5) _ e6) (by decide)))))))
theorem okL_Ifs {P : Nat → Int} (hm : pm P K L) : ∀ (n t : Nat), t ≤ L → okL L (sIfs K n t)
  | 0, t, h => by
    intro t' e
    have e : (if K t = 31 then (.inl (2, t) : sE ⊕ Nat) else .inr t) = .inr t' := e
    split at e
    · cases e
    · cases e
      exact h
  | n + 1, t, h => by
    intro t' e
    have e : (if K t = 31 then sB (sIf K t) (sIfs K n) else .inr t) = .inr t' := e
    split at e
    · rename_i q
      exact okL_b (fun a ea => okL_Ifs hm n a (okL_If hm h (by rw [q]; decide) _ ea)) t' e
    · cases e
      exact h
theorem okL_Lw {P : Nat → Int} {t : Nat} (hm : pm P K L) (h : t ≤ L) : okL L (sLw K t) :=
  okL_b (fun a e => okL_b (fun a e2 => okL_b (fun a e3 => okL_M hm (okL_X hm (okL_Ifs hm 4 _ (okL_M hm h (by decide) _ e) _ e2) _ e3) (by decide))))
end LE
section ONE
variable {K V : Nat → Int} {N : Nat → Int64} {t fr bu : Nat} {nm : List Int64} {w : sE}
theorem sOne_1 (h : K t < 20 ∨ 30 < K t) : sOne K V N (t, fr, bu, nm, w) = .inl (1, t) := by
  show (if K t = 20 then _ else if K t = 21 then _ else if K t = 28 ∨ K t = 29 then _ else if K t = 30 then _ else if 22 ≤ K t ∧ K t ≤ 27 then _ else _) = _
  rw [if_neg (by omega), if_neg (by omega), if_neg (by omega), if_neg (by omega), if_neg (by omega)]
theorem sOne_f (h : K t = 20) : sOne K V N (t, fr, bu, nm, w) = sFruit K V N (t, fr, bu, nm, w) := by
  show (if K t = 20 then _ else _) = _
  rw [if_pos h]
theorem sOne_b (h : K t = 21) : sOne K V N (t, fr, bu, nm, w) = sBuyer K V N (t, fr, bu, nm, w) := by
  show (if K t = 20 then _ else if K t = 21 then _ else _) = _
  rw [if_neg (by omega), if_pos h]
theorem sOne_s (h : K t = 28 ∨ K t = 29) : sOne K V N (t, fr, bu, nm, w) = sSet K V 99 (t, fr, bu, nm, w) := by
  show (if K t = 20 then _ else if K t = 21 then _ else if K t = 28 ∨ K t = 29 then _ else _) = _
  rw [if_neg (by omega), if_neg (by omega), if_pos h]
theorem sOne_s3 (h : K t = 30) : sOne K V N (t, fr, bu, nm, w) = sSet K V 9999 (t, fr, bu, nm, w) := by
  show (if K t = 20 then _ else if K t = 21 then _ else if K t = 28 ∨ K t = 29 then _ else if K t = 30 then _ else _) = _
  rw [if_neg (by omega), if_neg (by omega), if_neg (by omega), if_pos h]
theorem sOne_l (h : 22 ≤ K t ∧ K t ≤ 27) : sOne K V N (t, fr, bu, nm, w) = sLaw K (t, fr, bu, nm, w) := by
  show (if K t = 20 then _ else if K t = 21 then _ else if K t = 28 ∨ K t = 29 then _ else if K t = 30 then _ else if 22 ≤ K t ∧ K t ≤ 27 then _ else _) = _
  rw [if_neg (by omega), if_neg (by omega), if_neg (by omega), if_neg (by omega), if_pos h]
theorem sF_7 (h : fr = 7) : sFruit K V N (t, fr, bu, nm, w) = .inl (2, t) := by
  show (if fr = 7 then _ else _) = _
  rw [if_pos h]
theorem sF_n (h : fr ≠ 7) : sFruit K V N (t, fr, bu, nm, w) = sB (sG t) fun t => sB (sTell K V N (0, 9) (1, 9) (0, 99) (t, nm, w)) fun q => .inr (q.1, fr + 1, bu, nm ++ [N t], q.2) := by
  show (if fr = 7 then _ else _) = _
  rw [if_neg h]
theorem sBu_4 (h : bu = 4) : sBuyer K V N (t, fr, bu, nm, w) = .inl (2, t) := by
  show (if bu = 4 then _ else _) = _
  rw [if_pos h]
theorem sBu_n (h : bu ≠ 4) : sBuyer K V N (t, fr, bu, nm, w) = sB (sG t) fun t => sB (sTell K V N (0, 9) (0, 3) (0, 999) (t, nm, w)) fun q => .inr (q.1, fr, bu + 1, nm ++ [N t], q.2) := by
  show (if bu = 4 then _ else _) = _
  rw [if_neg h]
end ONE
noncomputable def FRf (F : Nat → sy_d) : Int := ((sy_ai F 31).getD (sy_i F 12).toInt.toNat 0).toInt
noncomputable def BUf (F : Nat → sy_d) : Int := ((sy_ai F 35).getD (sy_i F 12).toInt.toNat 0).toInt
noncomputable def rt (P : Nat → Int) (L : Nat) (x : sT) (F : Nat → sy_d) : Prop := tn F = x.1 ∧ x.1 ≤ L ∧ FRf F = x.2.1 ∧ BUf F = x.2.2.1 ∧ nmr x.2.2.2.1 F ∧ wr P x.2.2.2.2 F
noncomputable def toy_A (F F' : Nat → sy_d) : Prop := ∀ (L : Nat) (x : sT), pm (pf F) (kf F) L → rt (pf F) L x F → an (pf F) (sOne (kf F) (vf F) (nf F) x) (rt (pf F) L) F F'
noncomputable def toy_Q (F : Nat → sy_d) (X1 X2 : List jm_c) (v : Option Value) (G : jm_h) : Prop := ∃ F' : Nat → sy_d, v = none ∧ G = sy_dh F' X1 X2 (iv_H 4) ∧ gr WO F F' ∧ pk F' ∧ ((sy_i F' 6).toInt = 0 → (sy_i F 4).toInt + 1 ≤ (sy_i F' 4).toInt) ∧ toy_A F F'
section TOY
variable {Ls : Nat} {xs : Nat → Int32} (X1 X2 : List jm_c) (F : Nat → sy_d)
theorem toy_fault (hP : pk F) {F1 : Nat → sy_d} {C : List Nat} (hb : iv_in F1 iv_B4) (g : ∀ j, j < 69 → j ∉ C → F1 j = F j) (hC : ∀ x ∈ C, x ∈ W1) (t : (sy_i F 4).toInt ≤ (sy_i F1 4).toInt) {k : Int} (h6 : (sy_i F1 6).toInt = k) (hk : k ≠ 0) (h7 : (sy_i F1 7).toInt = pf F (tn F)) (hr : ∀ fr bu nm w, FRf F = (fr : Nat) → BUf F = (bu : Nat) → sOne (kf F) (vf F) (nf F) (tn F, fr, bu, nm, w) = .inl (k, tn F)) : toy_Q F X1 X2 none (sy_dh F1 X1 X2 (iv_H 4)) := by
  have hf : (sy_i F1 6).toInt ≠ 0 := by rw [h6]; exact hk
  have hG : gr W1 F F1 := gr_mk hb g hC t (fun z => absurd z hf)
  refine ⟨F1, rfl, rfl, hG.mono (by decide), pk_of hP hG (by decide) (fun z => absurd z hf), fun z => absurd z hf, fun L x hm hx => ?_⟩
  obtain ⟨x1, x2, x3, x4, x5⟩ := x
  obtain ⟨r1, r2, r3, r4, -⟩ := hx
  have r1 : tn F = x1 := r1
  subst r1
  exact an_er (hr x2 x3 x4 x5 r3 r4) h6 hk h7
theorem toy_91' (hP : pk F) (hf : (sy_i F 6).toInt = 0) (hk : kf F (tn F) = 20) (F1 : Nat → sy_d) (hG : gr W1 F F1) (h : ((sy_ai F 31).getD (sy_i F 12).toInt.toNat 0).toInt ≠ 7) (h4 : (sy_i F1 4).toInt = (sy_i F 4).toInt + 1) (h400 : (sy_i F 4).toInt ≠ 400) (h6 : (sy_i F1 6).toInt = 0) (h8 : (sy_i F1 8).toInt = (sy_i F 8).toInt) (h9 : (sy_i F1 9).toInt = (sy_i F 9).toInt) :
    hd_W Ls xs 7 jm_M154 (toy_Q F X1 X2) (91, sy_dL F1 [some (.inl (.ref 1000)), none], sy_dS F1 [.inl (.ref 1000)], sy_dh F1 X1 X2 (iv_H 4), 0, 0) := by
  obtain ⟨j1, j2, j3, j4, j5, j6, j7⟩ := hP.2.2.2 hf
  have c4 := nz_bx hP.1 (k := 4) (lo := 0) (hi := 400) rfl
  have b31 := nz_ba hP.1 (k := 31) (lo := 0) (hi := 7) rfl (sy_i F 12).toInt.toNat
  have b35 := nz_ba hP.1 (k := 35) (lo := 0) (hi := 4) rfl (sy_i F 12).toInt.toNat
  have i12 := hG.i (k := 12) (by decide) (by decide)
  have i13 := hG.i (k := 13) (by decide) (by decide)
  have a31 := hG.a (k := 31) (by decide) (by decide)
  have a35 := hG.a (k := 35) (by decide) (by decide)
  refine hd_calV (R := tfy_R F1) (nh := 69) (nv := 69) (s := 4) (s1 := 4) (d1 := 5) (M1 := jm_M158) (As := [.inl (.ref 1000)]) (rest := []) jm_ok154 rfl rfl (by decide) (by decide +kernel) (tfy_T F1 X1 X2 hG.b (by rw [a31, i12]; omega) (by omega)) (fun F3 F' hR p1 _ => ?_)
  obtain ⟨hg, hN, hR2, hA⟩ := hR
  have g3 := hg.dst p1
  have k4 := nz_fi (p1 4 (by decide))
  have k6 := nz_fi (p1 6 (by decide))
  have k7 := nz_fi (p1 7 (by decide))
  have k12 := g3.i (k := 12) (by decide) (by decide)
  have k13 := nz_fi (p1 13 (by decide))
  have kf_ := nz_fa (p1 31 (by decide))
  have ko := g3.a (k := 35) (by decide) (by decide)
  rw [← k6, ← k13, ← kf_] at hR2
  have hG3 : gr tf_W F F3 := (hG.mono (by decide)).trans g3 (by decide)
  have t3 := g3.t
  refine toy_94 (by decide) F3 X1 X2 g3.b ?_
  intro F4 hb g e4 e5 e6 e7 e8 e9 e11 e12 e13 e14 e15 a25 a26 a27 a31' a35' a39 a40 a41
  have g0 : ∀ q, q < 69 → F4 q = F' q := fun q hq => (g q hq (by simp)).trans (p1 q hq)
  have hG4 : gr tf_W F F4 := hG3.trans (gr_mk (W := tf_W) hb g (by decide) (by omega) (by omega)) (fun _ q => q)
  refine ⟨F4, rfl, rfl, hG4.mono (by decide), pk_of hP hG4 (by decide) (fun z => ?_), fun z => by omega, fun L x hm hx => ?_⟩
  · obtain ⟨y1, y2⟩ := hR2 (by omega)
    rw [a31, i12] at y2
    refine pj_of (hP.2.2.2 hf) hG4 (by decide) ?_
    rw [a31', a35', ko, a35, y2]
    omega
  · obtain ⟨x1, x2, x3, x4, x5⟩ := x
    obtain ⟨r1, r2, r3, r4, r5, r6⟩ := hx
    have r1 : tn F = x1 := r1
    subst r1
    have r3 : ((sy_ai F 31).getD (sy_i F 12).toInt.toNat 0).toInt = (x2 : Nat) := r3
    have r4 : ((sy_ai F 35).getD (sy_i F 12).toInt.toNat 0).toInt = (x3 : Nat) := r4
    have r2 : tn F ≤ L := r2
    have ts : tn F1 = tn F + 1 := tn_s c4.1 h4
    rw [sOne_f hk, sF_n (by omega), sG_ok (by unfold tn; omega)]
    show an _ (sB (sTell (kf F) (vf F) (nf F) (0, 9) (1, 9) (0, 99) (tn F + 1, x4, x5)) fun q => .inr (q.1, x2 + 1, x3, x4 ++ [nf F (tn F + 1)], q.2)) _ _ _
    rw [kf_eq (hG.f 25 (by decide) (by decide)), pf_eq (hG.f 26 (by decide) (by decide)), vf_eq (hG.f 27 (by decide) (by decide)), nf_eq (hG.f 28 (by decide) (by decide)), ts] at hA
    have i4 := nz_fi (g0 4 (by decide))
    have i6 := nz_fi (g0 6 (by decide))
    have i7 := nz_fi (g0 7 (by decide))
    have i8 := nz_fi (g0 8 (by decide))
    have i9 := nz_fi (g0 9 (by decide))
    have hB1 := hA L x5 x4 hm (pm_nx hm r2 (by rw [hk]; decide) (by unfold tn; omega)) (wr_eq r6 (by omega) h8 h9) (nmr_eq r5 (hG.f 30 (by decide) (by decide)) i13)
    refine fun _ => an_bind (F := F1) (an_mono hB1 i6 i7 (J' := fun q G => (jq (pf F) L q G ∧ nmr (x4 ++ [nf F (tn F + 1)]) G)) (fun q j => ⟨jq_dst j.1 i4 i8 i9, nmr_eq j.2 (g0 30 (by decide)) (nz_fi (g0 13 (by decide)))⟩)) (nop_same rfl rfl) (fun hz q j => an_ok rfl hz ?_) h6
    obtain ⟨⟨q1, q2, q3⟩, q4⟩ := j
    obtain ⟨y1, y2⟩ := hR2 (by omega)
    refine ⟨q1, q2, ?_, ?_, q4, q3⟩
    · show ((sy_ai F4 31).getD (sy_i F4 12).toInt.toNat 0).toInt = _
      rw [a31', e12, k12, i12]
      rw [i12] at y2
      rw [y2, a31, r3]
      exact (Int.natCast_succ x2).symm
    · show ((sy_ai F4 35).getD (sy_i F4 12).toInt.toNat 0).toInt = _
      rw [a35', e12, k12, i12]
      rw [ko, a35, r4]
theorem toy_119' (hP : pk F) (hf : (sy_i F 6).toInt = 0) (hk : kf F (tn F) = 21) (F1 : Nat → sy_d) (hG : gr W1 F F1) (h : ((sy_ai F 35).getD (sy_i F 12).toInt.toNat 0).toInt ≠ 4) (h4 : (sy_i F1 4).toInt = (sy_i F 4).toInt + 1) (h400 : (sy_i F 4).toInt ≠ 400) (h6 : (sy_i F1 6).toInt = 0) (h8 : (sy_i F1 8).toInt = (sy_i F 8).toInt) (h9 : (sy_i F1 9).toInt = (sy_i F 9).toInt) :
    hd_W Ls xs 7 jm_M154 (toy_Q F X1 X2) (119, sy_dL F1 [some (.inl (.ref 1000)), none], sy_dS F1 [.inl (.ref 1000)], sy_dh F1 X1 X2 (iv_H 4), 0, 0) := by
  obtain ⟨j1, j2, j3, j4, j5, j6, j7⟩ := hP.2.2.2 hf
  have c4 := nz_bx hP.1 (k := 4) (lo := 0) (hi := 400) rfl
  have b31 := nz_ba hP.1 (k := 31) (lo := 0) (hi := 7) rfl (sy_i F 12).toInt.toNat
  have b35 := nz_ba hP.1 (k := 35) (lo := 0) (hi := 4) rfl (sy_i F 12).toInt.toNat
  have i12 := hG.i (k := 12) (by decide) (by decide)
  have i13 := hG.i (k := 13) (by decide) (by decide)
  have a31 := hG.a (k := 31) (by decide) (by decide)
  have a35 := hG.a (k := 35) (by decide) (by decide)
  refine hd_calV (R := tby_R F1) (nh := 69) (nv := 69) (s := 4) (s1 := 4) (d1 := 5) (M1 := jm_M159) (As := [.inl (.ref 1000)]) (rest := []) jm_ok154 rfl rfl (by decide) (by decide +kernel) (tby_T F1 X1 X2 hG.b (by rw [a35, i12]; omega) (by omega)) (fun F3 F' hR p1 _ => ?_)
  obtain ⟨hg, hN, hR2, hA⟩ := hR
  have g3 := hg.dst p1
  have k4 := nz_fi (p1 4 (by decide))
  have k6 := nz_fi (p1 6 (by decide))
  have k7 := nz_fi (p1 7 (by decide))
  have k12 := g3.i (k := 12) (by decide) (by decide)
  have k13 := nz_fi (p1 13 (by decide))
  have kf_ := nz_fa (p1 35 (by decide))
  have ko := g3.a (k := 31) (by decide) (by decide)
  rw [← k6, ← k13, ← kf_] at hR2
  have hG3 : gr tb_W F F3 := (hG.mono (by decide)).trans g3 (by decide)
  have t3 := g3.t
  refine toy_122 (by decide) F3 X1 X2 g3.b ?_
  intro F4 hb g e4 e5 e6 e7 e8 e9 e11 e12 e13 e14 e15 a25 a26 a27 a31' a35' a39 a40 a41
  have g0 : ∀ q, q < 69 → F4 q = F' q := fun q hq => (g q hq (by simp)).trans (p1 q hq)
  have hG4 : gr tb_W F F4 := hG3.trans (gr_mk (W := tb_W) hb g (by decide) (by omega) (by omega)) (fun _ q => q)
  refine ⟨F4, rfl, rfl, hG4.mono (by decide), pk_of hP hG4 (by decide) (fun z => ?_), fun z => by omega, fun L x hm hx => ?_⟩
  · obtain ⟨y1, y2⟩ := hR2 (by omega)
    rw [a35, i12] at y2
    refine pj_of (hP.2.2.2 hf) hG4 (by decide) ?_
    rw [a31', a35', ko, a31, y2]
    omega
  · obtain ⟨x1, x2, x3, x4, x5⟩ := x
    obtain ⟨r1, r2, r3, r4, r5, r6⟩ := hx
    have r1 : tn F = x1 := r1
    subst r1
    have r3 : ((sy_ai F 31).getD (sy_i F 12).toInt.toNat 0).toInt = (x2 : Nat) := r3
    have r4 : ((sy_ai F 35).getD (sy_i F 12).toInt.toNat 0).toInt = (x3 : Nat) := r4
    have r2 : tn F ≤ L := r2
    have ts : tn F1 = tn F + 1 := tn_s c4.1 h4
    rw [sOne_b hk, sBu_n (by omega), sG_ok (by unfold tn; omega)]
    show an _ (sB (sTell (kf F) (vf F) (nf F) (0, 9) (0, 3) (0, 999) (tn F + 1, x4, x5)) fun q => .inr (q.1, x2, x3 + 1, x4 ++ [nf F (tn F + 1)], q.2)) _ _ _
    rw [kf_eq (hG.f 25 (by decide) (by decide)), pf_eq (hG.f 26 (by decide) (by decide)), vf_eq (hG.f 27 (by decide) (by decide)), nf_eq (hG.f 28 (by decide) (by decide)), ts] at hA
    have i4 := nz_fi (g0 4 (by decide))
    have i6 := nz_fi (g0 6 (by decide))
    have i7 := nz_fi (g0 7 (by decide))
    have i8 := nz_fi (g0 8 (by decide))
    have i9 := nz_fi (g0 9 (by decide))
    have hB1 := hA L x5 x4 hm (pm_nx hm r2 (by rw [hk]; decide) (by unfold tn; omega)) (wr_eq r6 (by omega) h8 h9) (nmr_eq r5 (hG.f 30 (by decide) (by decide)) i13)
    refine fun _ => an_bind (F := F1) (an_mono hB1 i6 i7 (J' := fun q G => (jq (pf F) L q G ∧ nmr (x4 ++ [nf F (tn F + 1)]) G)) (fun q j => ⟨jq_dst j.1 i4 i8 i9, nmr_eq j.2 (g0 30 (by decide)) (nz_fi (g0 13 (by decide)))⟩)) (nop_same rfl rfl) (fun hz q j => an_ok rfl hz ?_) h6
    obtain ⟨⟨q1, q2, q3⟩, q4⟩ := j
    obtain ⟨y1, y2⟩ := hR2 (by omega)
    refine ⟨q1, q2, ?_, ?_, q4, q3⟩
    · show ((sy_ai F4 31).getD (sy_i F4 12).toInt.toNat 0).toInt = _
      rw [a31', e12, k12, i12]
      rw [ko, a31, r3]
    · show ((sy_ai F4 35).getD (sy_i F4 12).toInt.toNat 0).toInt = _
      rw [a35', e12, k12, i12]
      rw [i12] at y2
      rw [y2, a35, r4]
      exact (Int.natCast_succ x3).symm
theorem toy_233' (hP : pk F) (hf : (sy_i F 6).toInt = 0) (hk0 : 22 ≤ kf F (tn F) ∧ kf F (tn F) ≤ 27) (F1 : Nat → sy_d) (hG : gr W1 F F1) (hk : 0 ≤ (sy_i F1 69).toInt ∧ (sy_i F1 69).toInt ≤ 5) (h4 : (sy_i F1 6).toInt = 0 → (sy_i F1 4).toInt = (sy_i F 4).toInt + 1 ∧ (sy_i F 4).toInt ≠ 400) (h2 : (sy_i F1 6).toInt ≠ 0 → (sy_i F1 6).toInt = 2 ∧ (sy_i F 4).toInt = 400 ∧ (sy_i F1 7).toInt = pf F (tn F)) (h8 : (sy_i F1 8).toInt = (sy_i F 8).toInt) (h9 : (sy_i F1 9).toInt = (sy_i F 9).toInt) :
    hd_W Ls xs 7 jm_M154 (toy_Q F X1 X2) (233, sy_dL F1 [some (.inl (.ref 1000)), none], sy_dS F1 [.inr (.inl 69), .inl (.ref 1000)], sy_dh F1 X1 X2 (iv_H 4), 0, 0) := by
  obtain ⟨j1, j2, j3, j4, j5, j6, j7⟩ := hP.2.2.2 hf
  have c4 := nz_bx hP.1 (k := 4) (lo := 0) (hi := 400) rfl
  have i5 := hG.i (k := 5) (by decide) (by decide)
  have i11 := hG.i (k := 11) (by decide) (by decide)
  have i12 := hG.i (k := 12) (by decide) (by decide)
  have i13 := hG.i (k := 13) (by decide) (by decide)
  have i14 := hG.i (k := 14) (by decide) (by decide)
  have i15 := hG.i (k := 15) (by decide) (by decide)
  have a31 := hG.a (k := 31) (by decide) (by decide)
  have a35 := hG.a (k := 35) (by decide) (by decide)
  have t1 := hG.t
  have hP1 := hP.2.1
  have hr : jm_rpn F1 := jm_rpn_eq (fun q hq => hG.f q (by revert q; decide) (by revert q; decide)) hP.2.2.1
  have hS : rp_S F1 (sy_i F1 12).toInt.toNat (sy_i F1 14).toInt (sy_i F1 15).toInt := by
    rw [i12, i14, i15]
    have a42 := hG.a (k := 42) (by decide) (by decide)
    have a43 := hG.a (k := 43) (by decide) (by decide)
    have a44 := hG.a (k := 44) (by decide) (by decide)
    have a45 := hG.a (k := 45) (by decide) (by decide)
    have a46 := hG.a (k := 46) (by decide) (by decide)
    have a47 := hG.a (k := 47) (by decide) (by decide)
    have a48 := hG.a (k := 48) (by decide) (by decide)
    have a49 := hG.a (k := 49) (by decide) (by decide)
    have a50 := hG.a (k := 50) (by decide) (by decide)
    exact rp_S_keep j1 (fun k _ => by rw [a42, a43]; exact ⟨rfl, rfl⟩) (fun b _ _ => s5_same a44 a45 a46 a47 a48 b) (fun i _ _ => by rw [a49, a50]; exact ⟨rfl, rfl⟩) (Int.le_refl _) (Int.le_refl _)
  refine hd_calV (R := tly_R (sy_i F1 69).toInt F1) (nh := 69) (nv := 70) (s := 4) (s1 := 4) (d1 := 6) (M1 := jm_M160) (As := [.inl (.ref 1000), .inr (.inl 69)]) (rest := []) jm_ok154 rfl rfl (by decide) (by decide +kernel) (tly_T X1 X2 F1 (sy_i F1 69) hG.b hk (by omega) (fun z => by have := h4 z; omega) (by omega) (by omega)) (fun F3 F' hR p1 _ => ?_)
  obtain ⟨hR3, hfx, hrr⟩ := tly_Rdst hR p1
  have hP3 := pk_law hk hG.b (by omega) hr hS (by omega) (by omega) (by rw [i12, i13, a31, a35]; exact j6) hR3
  have hG3 : gr WO F F3 := (hG.mono (by decide)).trans hR3.1 (by decide)
  have t3 := hR3.1.t
  have u3 := hR3.1.u
  have m8 := hR3.1.i (k := 8) (by decide) (by decide)
  have m9 := hR3.1.i (k := 9) (by decide) (by decide)
  have m12 := hR3.1.i (k := 12) (by decide) (by decide)
  have m13 := hR3.1.i (k := 13) (by decide) (by decide)
  have m30 := hR3.1.f 30 (by decide) (by decide)
  have m31 := hR3.1.a (k := 31) (by decide) (by decide)
  have m35 := hR3.1.a (k := 35) (by decide) (by decide)
  refine toy_236 (by decide) F3 X1 X2 hG3.b ?_
  intro F4 hb g e4 e5 e6 e7 e8 e9 e11 e12 e13 e14 e15 a25 a26 a27 a31' a35' a39 a40 a41
  have hG4 : gr [] F3 F4 := gr_mk hb g (by decide) (by omega) (by omega)
  have y6 := hP3.2.2.2
  refine ⟨F4, rfl, rfl, hG3.trans hG4 (by decide), pk_of hP3 hG4 (by decide) (fun z => ?_), fun z => ?_, fun L x hm hx => ?_⟩
  · obtain ⟨m1, m2, m3, m4, m5, m6, m7⟩ := y6 (by omega)
    exact pj_of (y6 (by omega)) hG4 (by decide) (by rw [e13, a31', a35']; exact m6)
  · have := h4 (u3 (by omega))
    omega
  · obtain ⟨x1, x2, x3, x4, x5⟩ := x
    obtain ⟨r1, r2, r3, r4, r5, r6⟩ := hx
    have r1 : tn F = x1 := r1
    subst r1
    have r2 : tn F ≤ L := r2
    rw [sOne_l hk0]
    show an _ (sB (sG (tn F)) fun t => sB (sLw (kf F) t) fun t => .inr (t, x2, x3, x4, x5)) _ _ _
    by_cases hz : (sy_i F1 6).toInt = 0
    · obtain ⟨h4a, h4b⟩ := h4 hz
      have ts : tn F1 = tn F + 1 := tn_s c4.1 h4a
      have eL : lr F1 = sLw (kf F) (tn F + 1) := by
        unfold lr
        rw [kf_eq (hG.f 25 (by decide) (by decide)), ts]
      rw [eL] at hfx hrr
      rw [sG_ok (by unfold tn; omega)]
      show an _ (sB (sLw (kf F) (tn F + 1)) fun t => .inr (t, x2, x3, x4, x5)) _ _ _
      intro _
      rw [e6, e7]
      refine ⟨fun q => ?_, fun q => ?_⟩
      · obtain ⟨tok, q1, q2⟩ := hfx.1 hz q
        exact ⟨tok, by rw [q1]; rfl, by rw [q2, pf_eq (hG.f 26 (by decide) (by decide))]⟩
      · have e := hrr q
        refine ⟨(tn F3, x2, x3, x4, x5), by rw [e]; rfl, tn_eq e4, okL_Lw hm (pm_nx hm r2 (by omega) (by unfold tn; omega)) _ e, ?_, ?_, nmr_eq r5 ((g 30 (by decide) (by simp)).trans (m30.trans (hG.f 30 (by decide) (by decide)))) (by omega), wr_eq r6 (by unfold tn; omega) (by omega) (by omega)⟩
        · show ((sy_ai F4 31).getD (sy_i F4 12).toInt.toNat 0).toInt = _
          rw [a31', e12, m12, i12, m31, a31]
          exact r3
        · show ((sy_ai F4 35).getD (sy_i F4 12).toInt.toNat 0).toInt = _
          rw [a35', e12, m12, i12, m35, a35]
          exact r4
    · obtain ⟨q1, q2, q3⟩ := h2 hz
      obtain ⟨f1, f2⟩ := hfx.2 hz
      exact an_er (k := 2) (tok := tn F) (by rw [sG_4 (by unfold tn; omega)]; rfl) (by omega) (by decide) (by omega)
theorem toy_137' (hP : pk F) (hf : (sy_i F 6).toInt = 0) (hk : kf F (tn F) = 28 ∨ kf F (tn F) = 29) (F1 : Nat → sy_d) (g0 : ∀ j, j < 69 → F1 j = F j) (hb : iv_in F1 iv_B4) (hs : (sy_i F1 69).toInt = (sy_i F 12).toInt) :
    hd_W Ls xs 7 jm_M154 (toy_Q F X1 X2) (137, sy_dL F1 [some (.inl (.ref 1000)), none], sy_dS F1 [.inl (.int 99), .inl (.int 0), .inl (.ref 1000), .inr (.inl 69), .inl (.ref 1017)], sy_dh F1 X1 X2 (iv_H 4), 0, 0) := by
  have hJ := hP.2.2.2 hf
  obtain ⟨j1, j2, j3, j4, j5, j6, j7⟩ := id hJ
  have c12 := nz_bx hP.1 (k := 12) (lo := 0) (hi := 1) rfl
  refine hd_calI (R := fun _ F' => iR ((99 : Int32)).toInt F1 F') (nh := 69) (nv := 70) (s := 4) (s1 := 4) (d1 := 4) (M1 := jm_M153) (As := [.inl (.ref 1000), .inl (.int 0), .inl (.int 99)]) (rest := [.inr (.inl 69), .inl (.ref 1017)]) jm_ok154 rfl rfl (by decide) (by decide +kernel) (tiy_T F1 X1 X2 hb _) (fun F3 F' x hR p1 p2 _ => ?_)
  have hR : iR 99 F1 F' := hR
  obtain ⟨g3', n3, hR2, hA⟩ := iR_src (iR_dst hR p1) g0
  have k69 := nz_fi (p2 69 (by decide) (by decide))
  have i12 := g3'.i (k := 12) (by decide) (by decide)
  have i13 := g3'.i (k := 13) (by decide) (by decide)
  have b31 := g3'.a (k := 31) (by decide) (by decide)
  have b35 := g3'.a (k := 35) (by decide) (by decide)
  have b30 := g3'.f 30 (by decide) (by decide)
  refine toy_140 (by decide) F3 X1 X2 g3'.b (by omega) ?_
  intro F4 hb4 g e4 e5 e6 e7 e8 e9 e11 e12 e13 e14 e15 a25 a26 a27 a31 a35 a39 a40 a41
  have hG4 : gr [4, 6, 7, 8, 9, 39] F F4 := (g3'.mono (by decide)).trans (gr_mk (W := [39]) hb4 g (by decide) (by omega) (by omega)) (by decide)
  refine ⟨F4, rfl, rfl, hG4.mono (by decide), pk_of hP hG4 (by decide) (fun z => pj_of hJ hG4 (by decide) (by rw [a31, a35, b31, b35, e13, i13]; exact j6)), fun z => ?_, fun L x hm hx => ?_⟩
  · have := hR2 (by omega)
    omega
  · obtain ⟨x1, x2, x3, x4, x5⟩ := x
    obtain ⟨r1, r2, r3, r4, r5, r6⟩ := hx
    have r1 : tn F = x1 := r1
    subst r1
    rw [sOne_s (by omega)]
    refine an_bind (an_mono (hA L x5 hm r2 (by omega) r6) e6 e7 (fun q j => jq_dst j e4 e8 e9)) (nop_same rfl rfl) (fun hz q j => an_ok rfl hz ?_)
    obtain ⟨q1, q2, q3⟩ := j
    refine ⟨q1, q2, ?_, ?_, nmr_eq r5 ((g 30 (by decide) (by decide)).trans b30) (by omega), q3⟩
    · show ((sy_ai F4 31).getD (sy_i F4 12).toInt.toNat 0).toInt = _
      rw [a31, e12, i12, b31]
      exact r3
    · show ((sy_ai F4 35).getD (sy_i F4 12).toInt.toNat 0).toInt = _
      rw [a35, e12, i12, b35]
      exact r4
theorem toy_156' (hP : pk F) (hf : (sy_i F 6).toInt = 0) (hk : kf F (tn F) = 28 ∨ kf F (tn F) = 29) (F1 : Nat → sy_d) (g0 : ∀ j, j < 69 → F1 j = F j) (hb : iv_in F1 iv_B4) (hs : (sy_i F1 69).toInt = (sy_i F 12).toInt) :
    hd_W Ls xs 7 jm_M154 (toy_Q F X1 X2) (156, sy_dL F1 [some (.inl (.ref 1000)), none], sy_dS F1 [.inl (.int 99), .inl (.int 0), .inl (.ref 1000), .inr (.inl 69), .inl (.ref 1018)], sy_dh F1 X1 X2 (iv_H 4), 0, 0) := by
  have hJ := hP.2.2.2 hf
  obtain ⟨j1, j2, j3, j4, j5, j6, j7⟩ := id hJ
  have c12 := nz_bx hP.1 (k := 12) (lo := 0) (hi := 1) rfl
  refine hd_calI (R := fun _ F' => iR ((99 : Int32)).toInt F1 F') (nh := 69) (nv := 70) (s := 4) (s1 := 4) (d1 := 4) (M1 := jm_M153) (As := [.inl (.ref 1000), .inl (.int 0), .inl (.int 99)]) (rest := [.inr (.inl 69), .inl (.ref 1018)]) jm_ok154 rfl rfl (by decide) (by decide +kernel) (tiy_T F1 X1 X2 hb _) (fun F3 F' x hR p1 p2 _ => ?_)
  have hR : iR 99 F1 F' := hR
  obtain ⟨g3', n3, hR2, hA⟩ := iR_src (iR_dst hR p1) g0
  have k69 := nz_fi (p2 69 (by decide) (by decide))
  have i12 := g3'.i (k := 12) (by decide) (by decide)
  have i13 := g3'.i (k := 13) (by decide) (by decide)
  have b31 := g3'.a (k := 31) (by decide) (by decide)
  have b35 := g3'.a (k := 35) (by decide) (by decide)
  have b30 := g3'.f 30 (by decide) (by decide)
  refine toy_159 (by decide) F3 X1 X2 g3'.b (by omega) ?_
  intro F4 hb4 g e4 e5 e6 e7 e8 e9 e11 e12 e13 e14 e15 a25 a26 a27 a31 a35 a39 a40 a41
  have hG4 : gr [4, 6, 7, 8, 9, 40] F F4 := (g3'.mono (by decide)).trans (gr_mk (W := [40]) hb4 g (by decide) (by omega) (by omega)) (by decide)
  refine ⟨F4, rfl, rfl, hG4.mono (by decide), pk_of hP hG4 (by decide) (fun z => pj_of hJ hG4 (by decide) (by rw [a31, a35, b31, b35, e13, i13]; exact j6)), fun z => ?_, fun L x hm hx => ?_⟩
  · have := hR2 (by omega)
    omega
  · obtain ⟨x1, x2, x3, x4, x5⟩ := x
    obtain ⟨r1, r2, r3, r4, r5, r6⟩ := hx
    have r1 : tn F = x1 := r1
    subst r1
    rw [sOne_s (by omega)]
    refine an_bind (an_mono (hA L x5 hm r2 (by omega) r6) e6 e7 (fun q j => jq_dst j e4 e8 e9)) (nop_same rfl rfl) (fun hz q j => an_ok rfl hz ?_)
    obtain ⟨q1, q2, q3⟩ := j
    refine ⟨q1, q2, ?_, ?_, nmr_eq r5 ((g 30 (by decide) (by decide)).trans b30) (by omega), q3⟩
    · show ((sy_ai F4 31).getD (sy_i F4 12).toInt.toNat 0).toInt = _
      rw [a31, e12, i12, b31]
      exact r3
    · show ((sy_ai F4 35).getD (sy_i F4 12).toInt.toNat 0).toInt = _
      rw [a35, e12, i12, b35]
      exact r4
theorem toy_176' (hP : pk F) (hf : (sy_i F 6).toInt = 0) (hk : kf F (tn F) = 30) (F1 : Nat → sy_d) (g0 : ∀ j, j < 69 → F1 j = F j) (hb : iv_in F1 iv_B4) (hs : (sy_i F1 69).toInt = (sy_i F 12).toInt) :
    hd_W Ls xs 7 jm_M154 (toy_Q F X1 X2) (176, sy_dL F1 [some (.inl (.ref 1000)), none], sy_dS F1 [.inl (.int 9999), .inl (.int 0), .inl (.ref 1000), .inr (.inl 69), .inl (.ref 1019)], sy_dh F1 X1 X2 (iv_H 4), 0, 0) := by
  have hJ := hP.2.2.2 hf
  obtain ⟨j1, j2, j3, j4, j5, j6, j7⟩ := id hJ
  have c12 := nz_bx hP.1 (k := 12) (lo := 0) (hi := 1) rfl
  refine hd_calI (R := fun _ F' => iR ((9999 : Int32)).toInt F1 F') (nh := 69) (nv := 70) (s := 4) (s1 := 4) (d1 := 4) (M1 := jm_M153) (As := [.inl (.ref 1000), .inl (.int 0), .inl (.int 9999)]) (rest := [.inr (.inl 69), .inl (.ref 1019)]) jm_ok154 rfl rfl (by decide) (by decide +kernel) (tiy_T F1 X1 X2 hb _) (fun F3 F' x hR p1 p2 _ => ?_)
  have hR : iR 9999 F1 F' := hR
  obtain ⟨g3', n3, hR2, hA⟩ := iR_src (iR_dst hR p1) g0
  have k69 := nz_fi (p2 69 (by decide) (by decide))
  have i12 := g3'.i (k := 12) (by decide) (by decide)
  have i13 := g3'.i (k := 13) (by decide) (by decide)
  have b31 := g3'.a (k := 31) (by decide) (by decide)
  have b35 := g3'.a (k := 35) (by decide) (by decide)
  have b30 := g3'.f 30 (by decide) (by decide)
  refine toy_179 (by decide) F3 X1 X2 g3'.b (by omega) ?_
  intro F4 hb4 g e4 e5 e6 e7 e8 e9 e11 e12 e13 e14 e15 a25 a26 a27 a31 a35 a39 a40 a41
  have hG4 : gr [4, 6, 7, 8, 9, 41] F F4 := (g3'.mono (by decide)).trans (gr_mk (W := [41]) hb4 g (by decide) (by omega) (by omega)) (by decide)
  refine ⟨F4, rfl, rfl, hG4.mono (by decide), pk_of hP hG4 (by decide) (fun z => pj_of hJ hG4 (by decide) (by rw [a31, a35, b31, b35, e13, i13]; exact j6)), fun z => ?_, fun L x hm hx => ?_⟩
  · have := hR2 (by omega)
    omega
  · obtain ⟨x1, x2, x3, x4, x5⟩ := x
    obtain ⟨r1, r2, r3, r4, r5, r6⟩ := hx
    have r1 : tn F = x1 := r1
    subst r1
    rw [sOne_s3 (by omega)]
    refine an_bind (an_mono (hA L x5 hm r2 (by omega) r6) e6 e7 (fun q j => jq_dst j e4 e8 e9)) (nop_same rfl rfl) (fun hz q j => an_ok rfl hz ?_)
    obtain ⟨q1, q2, q3⟩ := j
    refine ⟨q1, q2, ?_, ?_, nmr_eq r5 ((g 30 (by decide) (by decide)).trans b30) (by omega), q3⟩
    · show ((sy_ai F4 31).getD (sy_i F4 12).toInt.toNat 0).toInt = _
      rw [a31, e12, i12, b31]
      exact r3
    · show ((sy_ai F4 35).getD (sy_i F4 12).toInt.toNat 0).toInt = _
      rw [a35, e12, i12, b35]
      exact r4
theorem toy_T (hP : pk F) (hf : (sy_i F 6).toInt = 0) : jm_T Ls xs 7 jm_M154 [.ref 1000] (sy_dh F X1 X2 (iv_H 4)) 0 0 (toy_Q F X1 X2) := by
  have c4 := nz_bx hP.1 (k := 4) (lo := 0) (hi := 400) rfl
  have eK : kf F (tn F) = ((sy_ai F 25).getD (sy_i F 4).toInt.toNat 0).toInt := rfl
  have eP : pf F (tn F) = ((sy_ai F 26).getD (sy_i F 4).toInt.toNat 0).toInt := rfl
  have eF : FRf F = ((sy_ai F 31).getD (sy_i F 12).toInt.toNat 0).toInt := rfl
  have eB : BUf F = ((sy_ai F 35).getD (sy_i F 12).toInt.toNat 0).toInt := rfl
  have et : (tn F : Int) = (sy_i F 4).toInt := by unfold tn; omega
  refine nz_T0 jm_ok154 (by decide) (toy_0 (by decide) F X1 X2 hP.1 ?_ ?_ ?_ ?_ ?_ ?_ ?_ ?_ ?_ ?_ ?_ ?_ ?_ ?_ ?_ ?_ ?_ ?_ ?_ ?_ ?_ ?_ ?_ ?_ ?_ ?_ ?_ ?_ ?_ ?_ ?_ ?_ ?_ ?_ ?_)
  all_goals intros
  all_goals first
    | (exfalso; omega)
    | (rename_i F1 hb g e4 e5 e6 e7 e8 e9 e11 e12 e13 e14 e15 a25 a26 a27 a31 a35 a39 a40 a41
       exact toy_fault X1 X2 F hP hb g (by decide) (by omega) e6 (by decide) (e7.trans eP.symm) (fun fr bu nm w hfr hbu => sOne_1 (by omega)))
    | (rename_i F1 hb g e4 e5 e6 e7 e8 e9 e11 e12 e13 e14 e15 a25 a26 a27 a31 a35 a39 a40 a41
       exact toy_fault X1 X2 F hP hb g (by decide) (by omega) e6 (by decide) (e7.trans eP.symm) (fun fr bu nm w hfr hbu => by rw [sOne_f (by omega), sF_7 (by omega)]))
    | (rename_i F1 hb g e4 e5 e6 e7 e8 e9 e11 e12 e13 e14 e15 a25 a26 a27 a31 a35 a39 a40 a41
       exact toy_fault X1 X2 F hP hb g (by decide) (by omega) e6 (by decide) (e7.trans eP.symm) (fun fr bu nm w hfr hbu => by rw [sOne_b (by omega), sBu_4 (by omega)]))
    | (rename_i F1 hb g e4 e5 e6 e7 e8 e9 e11 e12 e13 e14 e15 a25 a26 a27 a31 a35 a39 a40 a41
       exact toy_fault X1 X2 F hP hb g (by decide) (by omega) e6 (by decide) (e7.trans eP.symm) (fun fr bu nm w hfr hbu => by rw [sOne_f (by omega), sF_n (by omega), sG_4 (by omega)]; rfl))
    | (rename_i F1 hb g e4 e5 e6 e7 e8 e9 e11 e12 e13 e14 e15 a25 a26 a27 a31 a35 a39 a40 a41
       exact toy_fault X1 X2 F hP hb g (by decide) (by omega) e6 (by decide) (e7.trans eP.symm) (fun fr bu nm w hfr hbu => by rw [sOne_b (by omega), sBu_n (by omega), sG_4 (by omega)]; rfl))
    | (rename_i F1 hb g e4 e5 e6 e7 e8 e9 e11 e12 e13 e14 e15 a25 a26 a27 a31 a35 a39 a40 a41
       exact toy_91' X1 X2 F hP hf (by omega) F1 (gr_mk hb g (by decide) (by omega) (by omega)) (by omega) e4 (by omega) (by omega) e8 e9)
    | (rename_i F1 hb g e4 e5 e6 e7 e8 e9 e11 e12 e13 e14 e15 a25 a26 a27 a31 a35 a39 a40 a41
       exact toy_119' X1 X2 F hP hf (by omega) F1 (gr_mk hb g (by decide) (by omega) (by omega)) (by omega) e4 (by omega) (by omega) e8 e9)
    | (rename_i F1 hb g e4 e5 e6 e7 e8 e9 e11 e12 e13 e14 e15 a25 a26 a27 a31 a35 a39 a40 a41 e69
       exact toy_233' X1 X2 F hP hf (by omega) F1 (gr_mk hb g (by decide) (by omega) (by omega)) (by omega) (fun _ => by omega) (fun _ => ⟨by omega, by omega, by omega⟩) e8 e9)
    | (rename_i F1 hb g e4 e5 e6 e7 e8 e9 e11 e12 e13 e14 e15 a25 a26 a27 a31 a35 a39 a40 a41 e69
       exact toy_137' X1 X2 F hP hf (by omega) F1 (fun j hj => g j hj (by simp)) hb e69)
    | (rename_i F1 hb g e4 e5 e6 e7 e8 e9 e11 e12 e13 e14 e15 a25 a26 a27 a31 a35 a39 a40 a41 e69
       exact toy_156' X1 X2 F hP hf (by omega) F1 (fun j hj => g j hj (by simp)) hb e69)
    | (rename_i F1 hb g e4 e5 e6 e7 e8 e9 e11 e12 e13 e14 e15 a25 a26 a27 a31 a35 a39 a40 a41 e69
       exact toy_176' X1 X2 F hP hf (by omega) F1 (fun j hj => g j hj (by simp)) hb e69)
end TOY
