/-! ===== a text's content, and what one thing told makes of it (reference) ===== -/
abbrev t3 : Type := Int × Int × Int
abbrev tX : Type := List t3 × List t3 × Int × Int × Int × (Nat → Option (List bRT))
noncomputable def lwC (r : sE ⊕ (Nat × List bRT)) : List bRT := match r with
  | .inl _ => []
  | .inr p => p.2
noncomputable def tU (K V : Nat → Int) (t : Nat) (T : tX) : tX := if K t = 20 then (T.1 ++ [(V (t + 2), V (t + 3), V (t + 4))], T.2) else if K t = 21 then (T.1, T.2.1 ++ [(V (t + 2), V (t + 3), V (t + 4))], T.2.2) else if K t = 28 then (T.1, T.2.1, V (t + 1), T.2.2.2) else if K t = 29 then (T.1, T.2.1, T.2.2.1, V (t + 1), T.2.2.2.2) else if K t = 30 then (T.1, T.2.1, T.2.2.1, T.2.2.2.1, V (t + 1), T.2.2.2.2.2) else (T.1, T.2.1, T.2.2.1, T.2.2.2.1, T.2.2.2.2.1, fun k : Nat => if (k : Int) = K t - 22 then some (lwC (zLw K V (t + 1))) else T.2.2.2.2.2 k)
section TU
variable {K V : Nat → Int} {t : Nat} {T : tX}
theorem tU_f (h : K t = 20) : tU K V t T = (T.1 ++ [(V (t + 2), V (t + 3), V (t + 4))], T.2) := by unfold tU; rw [if_pos h]
theorem tU_b (h : K t = 21) : tU K V t T = (T.1, T.2.1 ++ [(V (t + 2), V (t + 3), V (t + 4))], T.2.2) := by unfold tU; rw [if_neg (by omega), if_pos h]
theorem tU_1 (h : K t = 28) : tU K V t T = (T.1, T.2.1, V (t + 1), T.2.2.2) := by unfold tU; rw [if_neg (by omega), if_neg (by omega), if_pos h]
theorem tU_2 (h : K t = 29) : tU K V t T = (T.1, T.2.1, T.2.2.1, V (t + 1), T.2.2.2.2) := by unfold tU; rw [if_neg (by omega), if_neg (by omega), if_neg (by omega), if_pos h]
theorem tU_3 (h : K t = 30) : tU K V t T = (T.1, T.2.1, T.2.2.1, T.2.2.2.1, V (t + 1), T.2.2.2.2.2) := by unfold tU; rw [if_neg (by omega), if_neg (by omega), if_neg (by omega), if_neg (by omega), if_pos h]
theorem tU_l (h : 22 ≤ K t ∧ K t ≤ 27) : tU K V t T = (T.1, T.2.1, T.2.2.1, T.2.2.2.1, T.2.2.2.2.1, fun k : Nat => if (k : Int) = K t - 22 then some (lwC (zLw K V (t + 1))) else T.2.2.2.2.2 k) := by unfold tU; rw [if_neg (by omega), if_neg (by omega), if_neg (by omega), if_neg (by omega), if_neg (by omega)]
end TU
noncomputable def sdf (F : Nat → sy_d) : Nat := (sy_i F 12).toInt.toNat
noncomputable def r3_ (F : Nat → sy_d) (c a w : Nat) (l : List t3) : Prop := ix F c (sdf F) = l.length ∧ ∀ (i : Nat) (v : t3), l[i]? = some v → ix F a (w * sdf F + i) = v.1 ∧ ix F (a + 1) (w * sdf F + i) = v.2.1 ∧ ix F (a + 2) (w * sdf F + i) = v.2.2
noncomputable def rLw (F : Nat → sy_d) (k : Nat) (o : Option (List bRT)) : Prop := match o with
  | none => ix F 42 (6 * sdf F + k) = ix F 43 (6 * sdf F + k)
  | some l => ix F 42 (6 * sdf F + k) ≤ ix F 43 (6 * sdf F + k) ∧ bL F (ix F 42 (6 * sdf F + k)).toNat (ix F 43 (6 * sdf F + k) - ix F 42 (6 * sdf F + k)).toNat = l
noncomputable def rX (T : tX) (F : Nat → sy_d) : Prop := r3_ F 31 32 7 T.1 ∧ r3_ F 35 36 4 T.2.1 ∧ ix F 39 (sdf F) = T.2.2.1 ∧ ix F 40 (sdf F) = T.2.2.2.1 ∧ ix F 41 (sdf F) = T.2.2.2.2.1 ∧ ∀ k, k < 6 → rLw F k (T.2.2.2.2.2 k)
theorem ix_eq {F F1 : Nat → sy_d} {a : Nat} (h : sy_ai F1 a = sy_ai F a) (i : Nat) : ix F1 a i = ix F a i := by unfold ix; rw [h]
theorem r3_eq {F F1 : Nat → sy_d} {c a w : Nat} {l : List t3} (h : r3_ F c a w l) (es : sdf F1 = sdf F) (hc : sy_ai F1 c = sy_ai F c) (h0 : sy_ai F1 a = sy_ai F a) (h1 : sy_ai F1 (a + 1) = sy_ai F (a + 1)) (h2 : sy_ai F1 (a + 2) = sy_ai F (a + 2)) : r3_ F1 c a w l := by
  unfold r3_ ix
  rw [es, hc, h0, h1, h2]
  exact h
theorem r3_push {F F4 : Nat → sy_d} {c a w : Nat} {l : List t3} {v : t3} (h : r3_ F c a w l) (es : sdf F4 = sdf F) (hc : ix F4 c (sdf F) = ix F c (sdf F) + 1) (ho : ∀ i : Nat, i ≠ w * sdf F + l.length → ix F4 a i = ix F a i ∧ ix F4 (a + 1) i = ix F (a + 1) i ∧ ix F4 (a + 2) i = ix F (a + 2) i) (h1 : ix F4 a (w * sdf F + l.length) = v.1) (h2 : ix F4 (a + 1) (w * sdf F + l.length) = v.2.1) (h3 : ix F4 (a + 2) (w * sdf F + l.length) = v.2.2) : r3_ F4 c a w (l ++ [v]) := by
  obtain ⟨q1, q2⟩ := h
  refine ⟨by rw [es, hc, q1, List.length_append]; rfl, fun i u hu => ?_⟩
  rw [es]
  by_cases q : i = l.length
  · subst q
    rw [List.getElem?_append_right (Nat.le_refl _), Nat.sub_self] at hu
    have hu : some v = some u := hu
    cases hu
    exact ⟨h1, h2, h3⟩
  · have hl : i < l.length := by
      have := (List.getElem?_eq_some_iff.mp hu).1
      rw [List.length_append] at this
      have e : [v].length = 1 := rfl
      omega
    rw [List.getElem?_append_left hl] at hu
    obtain ⟨y1, y2, y3⟩ := ho (w * sdf F + i) (by omega)
    rw [y1, y2, y3]
    exact q2 i u hu
theorem rLw_eq {F F1 : Nat → sy_d} {k : Nat} {o : Option (List bRT)} (h : rLw F k o) (es : sdf F1 = sdf F) (a42 : sy_ai F1 42 = sy_ai F 42) (a43 : sy_ai F1 43 = sy_ai F 43) (a44 : sy_ai F1 44 = sy_ai F 44) (a45 : sy_ai F1 45 = sy_ai F 45) (a46 : sy_ai F1 46 = sy_ai F 46) (a47 : sy_ai F1 47 = sy_ai F 47) (a48 : sy_ai F1 48 = sy_ai F 48) (a49 : sy_ai F1 49 = sy_ai F 49) (a50 : sy_ai F1 50 = sy_ai F 50) : rLw F1 k o := by
  cases o with
  | none =>
    unfold rLw ix at h ⊢
    rw [es, a42, a43]
    exact h
  | some l =>
    obtain ⟨h1, h2⟩ := h
    refine ⟨by unfold ix at h1 ⊢; rw [es, a42, a43]; exact h1, ?_⟩
    rw [es, ix_eq a42, ix_eq a43, bL_kp (F := F) _ (fun b _ _ => by unfold bq ix cut_; rw [a44, a45, a46, a47, a48, a49, a50])]
    exact h2
/-- laws stay where codes and branches are put behind them -/
theorem rLw_kp {F F1 : Nat → sy_d} {k : Nat} {o : Option (List bRT)} {nb : Int} (hk : k < 6) (h : rLw F k o) (es : sdf F1 = sdf F) (hS : rp_S F (sdf F) nb (sy_i F 15).toInt) (h42 : ix F1 42 (6 * sdf F + k) = ix F 42 (6 * sdf F + k)) (h43 : ix F1 43 (6 * sdf F + k) = ix F 43 (6 * sdf F + k)) (h0 : 0 ≤ ix F 42 (6 * sdf F + k)) (hs : ∀ b : Nat, (b : Int) < nb → s5 F F1 b) (hkp : kp F F1) : rLw F1 k o := by
  cases o with
  | none =>
    unfold rLw
    rw [es, h42, h43]
    exact h
  | some l =>
    obtain ⟨h1, h2⟩ := h
    refine ⟨by rw [es, h42, h43]; exact h1, ?_⟩
    rw [es, h42, h43, bL_kp (F := F) _ (fun b b1 b2 => ?_)]
    · exact h2
    · obtain ⟨y1, y2⟩ := hS k b hk (by show ix F 42 (6 * sdf F + k) ≤ b; omega) (by show (b : Int) < ix F 43 (6 * sdf F + k); omega)
      exact bq_kp y2 (hs b y1.2) hkp
noncomputable def toz_C (F F' : Nat → sy_d) : Prop := ∀ (L : Nat) (x : sT) (T : tX), pm (pf F) (kf F) L → rt (pf F) L x F → rX T F → (sy_i F' 6).toInt = 0 → rX (tU (kf F) (vf F) (tn F) T) F'
/-- what is of the other side stays -/
noncomputable def oth (F F' : Nat → sy_d) : Prop := F' 12 = F 12 ∧ F' 11 = F 11 ∧ (∀ i : Nat, (i : Int) ≠ (sy_i F 12).toInt → ix F' 31 i = ix F 31 i ∧ ix F' 35 i = ix F 35 i ∧ ix F' 39 i = ix F 39 i ∧ ix F' 40 i = ix F 40 i ∧ ix F' 41 i = ix F 41 i) ∧ (∀ i : Nat, ((i : Int) < 7 * (sy_i F 12).toInt ∨ 7 * (sy_i F 12).toInt + 7 ≤ i) → ix F' 32 i = ix F 32 i ∧ ix F' 33 i = ix F 33 i ∧ ix F' 34 i = ix F 34 i) ∧ (∀ i : Nat, ((i : Int) < 4 * (sy_i F 12).toInt ∨ 4 * (sy_i F 12).toInt + 4 ≤ i) → ix F' 36 i = ix F 36 i ∧ ix F' 37 i = ix F 37 i ∧ ix F' 38 i = ix F 38 i) ∧ (∀ i : Nat, ((i : Int) < 6 * (sy_i F 12).toInt ∨ 6 * (sy_i F 12).toInt + 6 ≤ i) → ix F' 42 i = ix F 42 i ∧ ix F' 43 i = ix F 43 i) ∧ (∀ b : Nat, ((b : Int) < 130 * (sy_i F 12).toInt ∨ 130 * (sy_i F 12).toInt + 130 ≤ b) → s5 F F' b) ∧ (∀ i : Nat, ((i : Int) < 420 * (sy_i F 12).toInt ∨ 420 * (sy_i F 12).toInt + 420 ≤ i) → (sy_ai F' 49).getD i 0 = (sy_ai F 49).getD i 0 ∧ (sy_ai F' 50).getD i 0 = (sy_ai F 50).getD i 0)
theorem oth_gr {W : List Nat} {F F' : Nat → sy_d} (h : gr W F F') (hW : ∀ q ∈ ([11, 12, 31, 32, 33, 34, 35, 36, 37, 38, 39, 40, 41, 42, 43, 44, 45, 46, 47, 48, 49, 50] : List Nat), q ∉ W) : oth F F' := by
  have e : ∀ q ∈ ([11, 12, 31, 32, 33, 34, 35, 36, 37, 38, 39, 40, 41, 42, 43, 44, 45, 46, 47, 48, 49, 50] : List Nat), F' q = F q := fun q hq => h.f q (by revert q; decide) (hW q hq)
  have a : ∀ q ∈ ([11, 12, 31, 32, 33, 34, 35, 36, 37, 38, 39, 40, 41, 42, 43, 44, 45, 46, 47, 48, 49, 50] : List Nat), sy_ai F' q = sy_ai F q := fun q hq => nz_fa (e q hq)
  refine ⟨e 12 (by decide), e 11 (by decide), fun i _ => ⟨ix_eq (a 31 (by decide)) i, ix_eq (a 35 (by decide)) i, ix_eq (a 39 (by decide)) i, ix_eq (a 40 (by decide)) i, ix_eq (a 41 (by decide)) i⟩, fun i _ => ⟨ix_eq (a 32 (by decide)) i, ix_eq (a 33 (by decide)) i, ix_eq (a 34 (by decide)) i⟩, fun i _ => ⟨ix_eq (a 36 (by decide)) i, ix_eq (a 37 (by decide)) i, ix_eq (a 38 (by decide)) i⟩, fun i _ => ⟨ix_eq (a 42 (by decide)) i, ix_eq (a 43 (by decide)) i⟩, fun b _ => s5_same (a 44 (by decide)) (a 45 (by decide)) (a 46 (by decide)) (a 47 (by decide)) (a 48 (by decide)) b, fun i _ => ⟨by rw [a 49 (by decide)], by rw [a 50 (by decide)]⟩⟩
theorem oth_trans {F F1 F2 : Nat → sy_d} (h : oth F F1) (k : oth F1 F2) : oth F F2 := by
  obtain ⟨a1, a2, a3, a4, a5, a6, a7, a8⟩ := h
  obtain ⟨b1, b2, b3, b4, b5, b6, b7, b8⟩ := k
  have i12 := nz_fi a1
  rw [i12] at b3 b4 b5 b6 b7 b8
  refine ⟨b1.trans a1, b2.trans a2, fun i hi => ?_, fun i hi => ?_, fun i hi => ?_, fun i hi => ?_, fun b hb => s5_trans (a7 b hb) (b7 b hb), fun i hi => ⟨(b8 i hi).1.trans (a8 i hi).1, (b8 i hi).2.trans (a8 i hi).2⟩⟩
  · obtain ⟨p1, p2, p3, p4, p5⟩ := a3 i hi
    obtain ⟨q1, q2, q3, q4, q5⟩ := b3 i hi
    exact ⟨q1.trans p1, q2.trans p2, q3.trans p3, q4.trans p4, q5.trans p5⟩
  · obtain ⟨p1, p2, p3⟩ := a4 i hi
    obtain ⟨q1, q2, q3⟩ := b4 i hi
    exact ⟨q1.trans p1, q2.trans p2, q3.trans p3⟩
  · obtain ⟨p1, p2, p3⟩ := a5 i hi
    obtain ⟨q1, q2, q3⟩ := b5 i hi
    exact ⟨q1.trans p1, q2.trans p2, q3.trans p3⟩
  · obtain ⟨p1, p2⟩ := a6 i hi
    obtain ⟨q1, q2⟩ := b6 i hi
    exact ⟨q1.trans p1, q2.trans p2⟩
noncomputable def toz_Q (F : Nat → sy_d) (X1 X2 : List jm_c) (v : Option Value) (G : jm_h) : Prop := ∃ F' : Nat → sy_d, v = none ∧ G = sy_dh F' X1 X2 (iv_H 4) ∧ gr WO F F' ∧ pk F' ∧ ((sy_i F' 6).toInt = 0 → (sy_i F 4).toInt + 1 ≤ (sy_i F' 4).toInt) ∧ toy_A F F' ∧ toz_C F F' ∧ oth F F'
section TOZ
variable {Ls : Nat} {xs : Nat → Int32} (X1 X2 : List jm_c) (F : Nat → sy_d)
theorem toz_fault (hP : pk F) {F1 : Nat → sy_d} {C : List Nat} (hb : iv_in F1 iv_B4) (g : ∀ j, j < 69 → j ∉ C → F1 j = F j) (hC : ∀ x ∈ C, x ∈ W1) (t : (sy_i F 4).toInt ≤ (sy_i F1 4).toInt) {k : Int} (h6 : (sy_i F1 6).toInt = k) (hk : k ≠ 0) (h7 : (sy_i F1 7).toInt = pf F (tn F)) (hr : ∀ fr bu nm w, FRf F = (fr : Nat) → BUf F = (bu : Nat) → sOne (kf F) (vf F) (nf F) (tn F, fr, bu, nm, w) = .inl (k, tn F)) : toz_Q F X1 X2 none (sy_dh F1 X1 X2 (iv_H 4)) := by
  have hf : (sy_i F1 6).toInt ≠ 0 := by rw [h6]; exact hk
  have hG : gr W1 F F1 := gr_mk hb g hC t (fun z => absurd z hf)
  refine ⟨F1, rfl, rfl, hG.mono (by decide), pk_of hP hG (by decide) (fun z => absurd z hf), fun z => absurd z hf, fun L x hm hx => ?_, fun L x T hm hx hT z => absurd z hf, oth_gr hG (by decide)⟩
  obtain ⟨x1, x2, x3, x4, x5⟩ := x
  obtain ⟨r1, r2, r3, r4, -⟩ := hx
  have r1 : tn F = x1 := r1
  subst r1
  exact an_er (hr x2 x3 x4 x5 r3 r4) h6 hk h7
theorem toz_91' (hP : pk F) (hf : (sy_i F 6).toInt = 0) (hk : kf F (tn F) = 20) (F1 : Nat → sy_d) (hG : gr W1 F F1) (h : ((sy_ai F 31).getD (sy_i F 12).toInt.toNat 0).toInt ≠ 7) (h4 : (sy_i F1 4).toInt = (sy_i F 4).toInt + 1) (h400 : (sy_i F 4).toInt ≠ 400) (h6 : (sy_i F1 6).toInt = 0) (h8 : (sy_i F1 8).toInt = (sy_i F 8).toInt) (h9 : (sy_i F1 9).toInt = (sy_i F 9).toInt) :
    hd_W Ls xs 7 jm_M154 (toz_Q F X1 X2) (91, sy_dL F1 [some (.inl (.ref 1000)), none], sy_dS F1 [.inl (.ref 1000)], sy_dh F1 X1 X2 (iv_H 4), 0, 0) := by
  obtain ⟨j1, j2, j3, j4, j5, j6, j7⟩ := hP.2.2.2 hf
  have c4 := nz_bx hP.1 (k := 4) (lo := 0) (hi := 400) rfl
  have b31 := nz_ba hP.1 (k := 31) (lo := 0) (hi := 7) rfl (sy_i F 12).toInt.toNat
  have b35 := nz_ba hP.1 (k := 35) (lo := 0) (hi := 4) rfl (sy_i F 12).toInt.toNat
  have i12 := hG.i (k := 12) (by decide) (by decide)
  have i13 := hG.i (k := 13) (by decide) (by decide)
  have a31 := hG.a (k := 31) (by decide) (by decide)
  have a35 := hG.a (k := 35) (by decide) (by decide)
  refine hd_calV (R := tfz_R F1) (nh := 69) (nv := 69) (s := 4) (s1 := 4) (d1 := 5) (M1 := jm_M158) (As := [.inl (.ref 1000)]) (rest := []) jm_ok154 rfl rfl (by decide) (by decide +kernel) (tfz_T F1 X1 X2 hG.b (by rw [a31, i12]; omega) (by omega)) (fun F3 F' hR p1 _ => ?_)
  obtain ⟨⟨hg, hN, hR2, hA⟩, hV, hO⟩ := hR
  have g3 := hg.dst p1
  have k4 := nz_fi (p1 4 (by decide))
  have k6 := nz_fi (p1 6 (by decide))
  have k7 := nz_fi (p1 7 (by decide))
  have k12 := g3.i (k := 12) (by decide) (by decide)
  have k13 := nz_fi (p1 13 (by decide))
  have kf_ := nz_fa (p1 31 (by decide))
  have ko := g3.a (k := 35) (by decide) (by decide)
  rw [← k6, ← k13, ← kf_] at hR2
  have hG3 : gr tf_W F F3 := (hG.mono (by decide)).trans g3 (by decide)
  have t3 := g3.t
  refine toy_94 (by decide) F3 X1 X2 g3.b ?_
  intro F4 hb g e4 e5 e6 e7 e8 e9 e11 e12 e13 e14 e15 a25 a26 a27 a31' a35' a39 a40 a41
  have g0 : ∀ q, q < 69 → F4 q = F' q := fun q hq => (g q hq (by simp)).trans (p1 q hq)
  have hG4 : gr tf_W F F4 := hG3.trans (gr_mk (W := tf_W) hb g (by decide) (by omega) (by omega)) (fun _ q => q)
  refine ⟨F4, rfl, rfl, hG4.mono (by decide), pk_of hP hG4 (by decide) (fun z => ?_), fun z => by omega, fun L x hm hx => ?_, fun L x T hm hx hT z => ?_, ?_⟩
  · obtain ⟨y1, y2⟩ := hR2 (by omega)
    rw [a31, i12] at y2
    refine pj_of (hP.2.2.2 hf) hG4 (by decide) ?_
    rw [a31', a35', ko, a35, y2]
    omega
  · obtain ⟨x1, x2, x3, x4, x5⟩ := x
    obtain ⟨r1, r2, r3, r4, r5, r6⟩ := hx
    have r1 : tn F = x1 := r1
    subst r1
    have r3 : ((sy_ai F 31).getD (sy_i F 12).toInt.toNat 0).toInt = (x2 : Nat) := r3
    have r4 : ((sy_ai F 35).getD (sy_i F 12).toInt.toNat 0).toInt = (x3 : Nat) := r4
    have r2 : tn F ≤ L := r2
    have ts : tn F1 = tn F + 1 := tn_s c4.1 h4
    rw [sOne_f hk, sF_n (by omega), sG_ok (by unfold tn; omega)]
    show an _ (sB (sTell (kf F) (vf F) (nf F) (0, 9) (1, 9) (0, 99) (tn F + 1, x4, x5)) fun q => .inr (q.1, x2 + 1, x3, x4 ++ [nf F (tn F + 1)], q.2)) _ _ _
    rw [kf_eq (hG.f 25 (by decide) (by decide)), pf_eq (hG.f 26 (by decide) (by decide)), vf_eq (hG.f 27 (by decide) (by decide)), nf_eq (hG.f 28 (by decide) (by decide)), ts] at hA
    have i4 := nz_fi (g0 4 (by decide))
    have i6 := nz_fi (g0 6 (by decide))
    have i7 := nz_fi (g0 7 (by decide))
    have i8 := nz_fi (g0 8 (by decide))
    have i9 := nz_fi (g0 9 (by decide))
    have hB1 := hA L x5 x4 hm (pm_nx hm r2 (by rw [hk]; decide) (by unfold tn; omega)) (wr_eq r6 (by omega) h8 h9) (nmr_eq r5 (hG.f 30 (by decide) (by decide)) i13)
    refine fun _ => an_bind (F := F1) (an_mono hB1 i6 i7 (J' := fun q G => (jq (pf F) L q G ∧ nmr (x4 ++ [nf F (tn F + 1)]) G)) (fun q j => ⟨jq_dst j.1 i4 i8 i9, nmr_eq j.2 (g0 30 (by decide)) (nz_fi (g0 13 (by decide)))⟩)) (nop_same rfl rfl) (fun hz q j => an_ok rfl hz ?_) h6
    obtain ⟨⟨q1, q2, q3⟩, q4⟩ := j
    obtain ⟨y1, y2⟩ := hR2 (by omega)
    refine ⟨q1, q2, ?_, ?_, q4, q3⟩
    · show ((sy_ai F4 31).getD (sy_i F4 12).toInt.toNat 0).toInt = _
      rw [a31', e12, k12, i12]
      rw [i12] at y2
      rw [y2, a31, r3]
      exact (Int.natCast_succ x2).symm
    · show ((sy_ai F4 35).getD (sy_i F4 12).toInt.toNat 0).toInt = _
      rw [a35', e12, k12, i12]
      rw [ko, a35, r4]
  · obtain ⟨x1, x2, x3, x4, x5⟩ := x
    obtain ⟨r1, r2, r3, r4, r5, r6⟩ := hx
    have r1 : tn F = x1 := r1
    subst r1
    have r2 : tn F ≤ L := r2
    have ts : tn F1 = tn F + 1 := tn_s c4.1 h4
    have i6 := nz_fi (g0 6 (by decide))
    have z' : (sy_i F' 6).toInt = 0 := by omega
    have hv := hV.2 L x5 x4 (by rw [pf_eq (hG.f 26 (by decide) (by decide)), kf_eq (hG.f 25 (by decide) (by decide))]; exact hm) (by rw [ts]; exact pm_nx hm r2 (by rw [hk]; decide) (by unfold tn; omega)) (by rw [pf_eq (hG.f 26 (by decide) (by decide))]; exact wr_eq r6 (by omega) h8 h9) (nmr_eq r5 (hG.f 30 (by decide) (by decide)) i13) h6 z'
    rw [vf_eq (hG.f 27 (by decide) (by decide)), ts] at hv
    obtain ⟨v1, v2, v3⟩ := hv
    obtain ⟨t1, t2, t4, t5, t7, t6⟩ := hT
    have es : sdf F4 = sdf F := by unfold sdf; rw [nz_fi (g0 12 (by decide)), nz_fi (hg.f 12 (by decide) (by decide)), i12]
    have hcl : ix F 31 (sdf F) = (T.1.length : Nat) := t1.1
    have ek : tf_k F1 = (7 * sdf F + T.1.length : Nat) := by
      have e : tf_k F1 = 7 * (sy_i F1 12).toInt + ((sy_ai F1 31).getD (sy_i F1 12).toInt.toNat 0).toInt := rfl
      rw [e, a31, i12]
      have c12 := nz_bx hP.1 (k := 12) (lo := 0) (hi := 1) rfl
      have e2 : ((sy_ai F 31).getD (sy_i F 12).toInt.toNat 0).toInt = (T.1.length : Nat) := hcl
      unfold sdf
      omega
    rw [ek, Int.toNat_natCast] at v1 v2 v3
    have y2 := (hR2 (by omega)).2
    rw [tU_f hk]
    refine ⟨r3_push (v := (vf F (tn F + 2), vf F (tn F + 3), vf F (tn F + 4))) t1 es ?_ (fun i hi => ?_) ?_ ?_ ?_, r3_eq t2 es ((nz_fa (g0 35 (by decide))).trans ((nz_fa (hg.f 35 (by decide) (by decide))).trans (nz_fa (hG.f 35 (by decide) (by decide))))) ((nz_fa (g0 36 (by decide))).trans ((nz_fa (hg.f 36 (by decide) (by decide))).trans (nz_fa (hG.f 36 (by decide) (by decide))))) ((nz_fa (g0 37 (by decide))).trans ((nz_fa (hg.f 37 (by decide) (by decide))).trans (nz_fa (hG.f 37 (by decide) (by decide))))) ((nz_fa (g0 38 (by decide))).trans ((nz_fa (hg.f 38 (by decide) (by decide))).trans (nz_fa (hG.f 38 (by decide) (by decide))))), by rw [es]; exact (ix_eq ((nz_fa (g0 39 (by decide))).trans ((nz_fa (hg.f 39 (by decide) (by decide))).trans (nz_fa (hG.f 39 (by decide) (by decide))))) (sdf F)).trans t4, by rw [es]; exact (ix_eq ((nz_fa (g0 40 (by decide))).trans ((nz_fa (hg.f 40 (by decide) (by decide))).trans (nz_fa (hG.f 40 (by decide) (by decide))))) (sdf F)).trans t5, by rw [es]; exact (ix_eq ((nz_fa (g0 41 (by decide))).trans ((nz_fa (hg.f 41 (by decide) (by decide))).trans (nz_fa (hG.f 41 (by decide) (by decide))))) (sdf F)).trans t7, fun k hk6 => rLw_eq (t6 k hk6) es ((nz_fa (g0 42 (by decide))).trans ((nz_fa (hg.f 42 (by decide) (by decide))).trans (nz_fa (hG.f 42 (by decide) (by decide))))) ((nz_fa (g0 43 (by decide))).trans ((nz_fa (hg.f 43 (by decide) (by decide))).trans (nz_fa (hG.f 43 (by decide) (by decide))))) ((nz_fa (g0 44 (by decide))).trans ((nz_fa (hg.f 44 (by decide) (by decide))).trans (nz_fa (hG.f 44 (by decide) (by decide))))) ((nz_fa (g0 45 (by decide))).trans ((nz_fa (hg.f 45 (by decide) (by decide))).trans (nz_fa (hG.f 45 (by decide) (by decide))))) ((nz_fa (g0 46 (by decide))).trans ((nz_fa (hg.f 46 (by decide) (by decide))).trans (nz_fa (hG.f 46 (by decide) (by decide))))) ((nz_fa (g0 47 (by decide))).trans ((nz_fa (hg.f 47 (by decide) (by decide))).trans (nz_fa (hG.f 47 (by decide) (by decide))))) ((nz_fa (g0 48 (by decide))).trans ((nz_fa (hg.f 48 (by decide) (by decide))).trans (nz_fa (hG.f 48 (by decide) (by decide))))) ((nz_fa (g0 49 (by decide))).trans ((nz_fa (hg.f 49 (by decide) (by decide))).trans (nz_fa (hG.f 49 (by decide) (by decide))))) ((nz_fa (g0 50 (by decide))).trans ((nz_fa (hg.f 50 (by decide) (by decide))).trans (nz_fa (hG.f 50 (by decide) (by decide)))))⟩
    · rw [i12, a31] at y2
      show ((sy_ai F4 31).getD _ 0).toInt = _
      rw [a31']
      exact y2
    · obtain ⟨u1, u2, u3⟩ := hV.1 i (by rw [ek]; omega)
      unfold ix
      rw [nz_fa (g0 32 (by decide)), nz_fa (g0 33 (by decide)), nz_fa (g0 34 (by decide)), u1, u2, u3, nz_fa (hG.f 32 (by decide) (by decide)), nz_fa (hG.f 33 (by decide) (by decide)), nz_fa (hG.f 34 (by decide) (by decide))]
      exact ⟨rfl, rfl, rfl⟩
    · rw [ix_eq (nz_fa (g0 32 (by decide)))]
      exact v1 (by decide)
    · rw [ix_eq (nz_fa (g0 33 (by decide)))]
      exact v2 (by decide)
    · rw [ix_eq (nz_fa (g0 34 (by decide)))]
      exact v3 (by decide)
  · refine oth_trans (oth_gr hG (by decide)) (oth_trans (F1 := F') ⟨hg.f 12 (by decide) (by decide), hg.f 11 (by decide) (by decide), fun i hi => ⟨(show ((sy_ai F' 31).getD i 0).toInt = _ by rw [hO i hi]; rfl), ix_eq (nz_fa (hg.f 35 (by decide) (by decide))) i, ix_eq (nz_fa (hg.f 39 (by decide) (by decide))) i, ix_eq (nz_fa (hg.f 40 (by decide) (by decide))) i, ix_eq (nz_fa (hg.f 41 (by decide) (by decide))) i⟩, fun i hi => by obtain ⟨u1, u2, u3⟩ := hV.1 i (by have ek : tf_k F1 = 7 * (sy_i F1 12).toInt + ((sy_ai F1 31).getD (sy_i F1 12).toInt.toNat 0).toInt := rfl; rw [ek, a31, i12]; rw [i12] at hi; omega); unfold ix; rw [u1, u2, u3]; exact ⟨rfl, rfl, rfl⟩, fun i hi => ⟨ix_eq (nz_fa (hg.f 36 (by decide) (by decide))) i, ix_eq (nz_fa (hg.f 37 (by decide) (by decide))) i, ix_eq (nz_fa (hg.f 38 (by decide) (by decide))) i⟩, fun i hi => ⟨ix_eq (nz_fa (hg.f 42 (by decide) (by decide))) i, ix_eq (nz_fa (hg.f 43 (by decide) (by decide))) i⟩, fun b _ => s5_same (nz_fa (hg.f 44 (by decide) (by decide))) (nz_fa (hg.f 45 (by decide) (by decide))) (nz_fa (hg.f 46 (by decide) (by decide))) (nz_fa (hg.f 47 (by decide) (by decide))) (nz_fa (hg.f 48 (by decide) (by decide))) b, fun i _ => ⟨by rw [nz_fa (hg.f 49 (by decide) (by decide))], by rw [nz_fa (hg.f 50 (by decide) (by decide))]⟩⟩ (oth_gr (W := []) ⟨hb, fun j hj _ => g0 j hj, by omega, by omega⟩ (by decide)))
theorem toz_119' (hP : pk F) (hf : (sy_i F 6).toInt = 0) (hk : kf F (tn F) = 21) (F1 : Nat → sy_d) (hG : gr W1 F F1) (h : ((sy_ai F 35).getD (sy_i F 12).toInt.toNat 0).toInt ≠ 4) (h4 : (sy_i F1 4).toInt = (sy_i F 4).toInt + 1) (h400 : (sy_i F 4).toInt ≠ 400) (h6 : (sy_i F1 6).toInt = 0) (h8 : (sy_i F1 8).toInt = (sy_i F 8).toInt) (h9 : (sy_i F1 9).toInt = (sy_i F 9).toInt) :
    hd_W Ls xs 7 jm_M154 (toz_Q F X1 X2) (119, sy_dL F1 [some (.inl (.ref 1000)), none], sy_dS F1 [.inl (.ref 1000)], sy_dh F1 X1 X2 (iv_H 4), 0, 0) := by
  obtain ⟨j1, j2, j3, j4, j5, j6, j7⟩ := hP.2.2.2 hf
  have c4 := nz_bx hP.1 (k := 4) (lo := 0) (hi := 400) rfl
  have b31 := nz_ba hP.1 (k := 31) (lo := 0) (hi := 7) rfl (sy_i F 12).toInt.toNat
  have b35 := nz_ba hP.1 (k := 35) (lo := 0) (hi := 4) rfl (sy_i F 12).toInt.toNat
  have i12 := hG.i (k := 12) (by decide) (by decide)
  have i13 := hG.i (k := 13) (by decide) (by decide)
  have a31 := hG.a (k := 31) (by decide) (by decide)
  have a35 := hG.a (k := 35) (by decide) (by decide)
  refine hd_calV (R := tbz_R F1) (nh := 69) (nv := 69) (s := 4) (s1 := 4) (d1 := 5) (M1 := jm_M159) (As := [.inl (.ref 1000)]) (rest := []) jm_ok154 rfl rfl (by decide) (by decide +kernel) (tbz_T F1 X1 X2 hG.b (by rw [a35, i12]; omega) (by omega)) (fun F3 F' hR p1 _ => ?_)
  obtain ⟨⟨hg, hN, hR2, hA⟩, hV, hO⟩ := hR
  have g3 := hg.dst p1
  have k4 := nz_fi (p1 4 (by decide))
  have k6 := nz_fi (p1 6 (by decide))
  have k7 := nz_fi (p1 7 (by decide))
  have k12 := g3.i (k := 12) (by decide) (by decide)
  have k13 := nz_fi (p1 13 (by decide))
  have kf_ := nz_fa (p1 35 (by decide))
  have ko := g3.a (k := 31) (by decide) (by decide)
  rw [← k6, ← k13, ← kf_] at hR2
  have hG3 : gr tb_W F F3 := (hG.mono (by decide)).trans g3 (by decide)
  have t3 := g3.t
  refine toy_122 (by decide) F3 X1 X2 g3.b ?_
  intro F4 hb g e4 e5 e6 e7 e8 e9 e11 e12 e13 e14 e15 a25 a26 a27 a31' a35' a39 a40 a41
  have g0 : ∀ q, q < 69 → F4 q = F' q := fun q hq => (g q hq (by simp)).trans (p1 q hq)
  have hG4 : gr tb_W F F4 := hG3.trans (gr_mk (W := tb_W) hb g (by decide) (by omega) (by omega)) (fun _ q => q)
  refine ⟨F4, rfl, rfl, hG4.mono (by decide), pk_of hP hG4 (by decide) (fun z => ?_), fun z => by omega, fun L x hm hx => ?_, fun L x T hm hx hT z => ?_, ?_⟩
  · obtain ⟨y1, y2⟩ := hR2 (by omega)
    rw [a35, i12] at y2
    refine pj_of (hP.2.2.2 hf) hG4 (by decide) ?_
    rw [a31', a35', ko, a31, y2]
    omega
  · obtain ⟨x1, x2, x3, x4, x5⟩ := x
    obtain ⟨r1, r2, r3, r4, r5, r6⟩ := hx
    have r1 : tn F = x1 := r1
    subst r1
    have r3 : ((sy_ai F 31).getD (sy_i F 12).toInt.toNat 0).toInt = (x2 : Nat) := r3
    have r4 : ((sy_ai F 35).getD (sy_i F 12).toInt.toNat 0).toInt = (x3 : Nat) := r4
    have r2 : tn F ≤ L := r2
    have ts : tn F1 = tn F + 1 := tn_s c4.1 h4
    rw [sOne_b hk, sBu_n (by omega), sG_ok (by unfold tn; omega)]
    show an _ (sB (sTell (kf F) (vf F) (nf F) (0, 9) (0, 3) (0, 999) (tn F + 1, x4, x5)) fun q => .inr (q.1, x2, x3 + 1, x4 ++ [nf F (tn F + 1)], q.2)) _ _ _
    rw [kf_eq (hG.f 25 (by decide) (by decide)), pf_eq (hG.f 26 (by decide) (by decide)), vf_eq (hG.f 27 (by decide) (by decide)), nf_eq (hG.f 28 (by decide) (by decide)), ts] at hA
    have i4 := nz_fi (g0 4 (by decide))
    have i6 := nz_fi (g0 6 (by decide))
    have i7 := nz_fi (g0 7 (by decide))
    have i8 := nz_fi (g0 8 (by decide))
    have i9 := nz_fi (g0 9 (by decide))
    have hB1 := hA L x5 x4 hm (pm_nx hm r2 (by rw [hk]; decide) (by unfold tn; omega)) (wr_eq r6 (by omega) h8 h9) (nmr_eq r5 (hG.f 30 (by decide) (by decide)) i13)
    refine fun _ => an_bind (F := F1) (an_mono hB1 i6 i7 (J' := fun q G => (jq (pf F) L q G ∧ nmr (x4 ++ [nf F (tn F + 1)]) G)) (fun q j => ⟨jq_dst j.1 i4 i8 i9, nmr_eq j.2 (g0 30 (by decide)) (nz_fi (g0 13 (by decide)))⟩)) (nop_same rfl rfl) (fun hz q j => an_ok rfl hz ?_) h6
    obtain ⟨⟨q1, q2, q3⟩, q4⟩ := j
    obtain ⟨y1, y2⟩ := hR2 (by omega)
    refine ⟨q1, q2, ?_, ?_, q4, q3⟩
    · show ((sy_ai F4 31).getD (sy_i F4 12).toInt.toNat 0).toInt = _
      rw [a31', e12, k12, i12]
      rw [ko, a31, r3]
    · show ((sy_ai F4 35).getD (sy_i F4 12).toInt.toNat 0).toInt = _
      rw [a35', e12, k12, i12]
      rw [i12] at y2
      rw [y2, a35, r4]
      exact (Int.natCast_succ x3).symm
  · obtain ⟨x1, x2, x3, x4, x5⟩ := x
    obtain ⟨r1, r2, r3, r4, r5, r6⟩ := hx
    have r1 : tn F = x1 := r1
    subst r1
    have r2 : tn F ≤ L := r2
    have ts : tn F1 = tn F + 1 := tn_s c4.1 h4
    have i6 := nz_fi (g0 6 (by decide))
    have z' : (sy_i F' 6).toInt = 0 := by omega
    have hv := hV.2 L x5 x4 (by rw [pf_eq (hG.f 26 (by decide) (by decide)), kf_eq (hG.f 25 (by decide) (by decide))]; exact hm) (by rw [ts]; exact pm_nx hm r2 (by rw [hk]; decide) (by unfold tn; omega)) (by rw [pf_eq (hG.f 26 (by decide) (by decide))]; exact wr_eq r6 (by omega) h8 h9) (nmr_eq r5 (hG.f 30 (by decide) (by decide)) i13) h6 z'
    rw [vf_eq (hG.f 27 (by decide) (by decide)), ts] at hv
    obtain ⟨v1, v2, v3⟩ := hv
    obtain ⟨t1, t2, t4, t5, t7, t6⟩ := hT
    have es : sdf F4 = sdf F := by unfold sdf; rw [nz_fi (g0 12 (by decide)), nz_fi (hg.f 12 (by decide) (by decide)), i12]
    have hcl : ix F 35 (sdf F) = (T.2.1.length : Nat) := t2.1
    have ek : tb_k F1 = (4 * sdf F + T.2.1.length : Nat) := by
      have e : tb_k F1 = 4 * (sy_i F1 12).toInt + ((sy_ai F1 35).getD (sy_i F1 12).toInt.toNat 0).toInt := rfl
      rw [e, a35, i12]
      have c12 := nz_bx hP.1 (k := 12) (lo := 0) (hi := 1) rfl
      have e2 : ((sy_ai F 35).getD (sy_i F 12).toInt.toNat 0).toInt = (T.2.1.length : Nat) := hcl
      unfold sdf
      omega
    rw [ek, Int.toNat_natCast] at v1 v2 v3
    have y2 := (hR2 (by omega)).2
    rw [tU_b hk]
    refine ⟨r3_eq t1 es ((nz_fa (g0 31 (by decide))).trans ((nz_fa (hg.f 31 (by decide) (by decide))).trans (nz_fa (hG.f 31 (by decide) (by decide))))) ((nz_fa (g0 32 (by decide))).trans ((nz_fa (hg.f 32 (by decide) (by decide))).trans (nz_fa (hG.f 32 (by decide) (by decide))))) ((nz_fa (g0 33 (by decide))).trans ((nz_fa (hg.f 33 (by decide) (by decide))).trans (nz_fa (hG.f 33 (by decide) (by decide))))) ((nz_fa (g0 34 (by decide))).trans ((nz_fa (hg.f 34 (by decide) (by decide))).trans (nz_fa (hG.f 34 (by decide) (by decide))))), r3_push (v := (vf F (tn F + 2), vf F (tn F + 3), vf F (tn F + 4))) t2 es ?_ (fun i hi => ?_) ?_ ?_ ?_, by rw [es]; exact (ix_eq ((nz_fa (g0 39 (by decide))).trans ((nz_fa (hg.f 39 (by decide) (by decide))).trans (nz_fa (hG.f 39 (by decide) (by decide))))) (sdf F)).trans t4, by rw [es]; exact (ix_eq ((nz_fa (g0 40 (by decide))).trans ((nz_fa (hg.f 40 (by decide) (by decide))).trans (nz_fa (hG.f 40 (by decide) (by decide))))) (sdf F)).trans t5, by rw [es]; exact (ix_eq ((nz_fa (g0 41 (by decide))).trans ((nz_fa (hg.f 41 (by decide) (by decide))).trans (nz_fa (hG.f 41 (by decide) (by decide))))) (sdf F)).trans t7, fun k hk6 => rLw_eq (t6 k hk6) es ((nz_fa (g0 42 (by decide))).trans ((nz_fa (hg.f 42 (by decide) (by decide))).trans (nz_fa (hG.f 42 (by decide) (by decide))))) ((nz_fa (g0 43 (by decide))).trans ((nz_fa (hg.f 43 (by decide) (by decide))).trans (nz_fa (hG.f 43 (by decide) (by decide))))) ((nz_fa (g0 44 (by decide))).trans ((nz_fa (hg.f 44 (by decide) (by decide))).trans (nz_fa (hG.f 44 (by decide) (by decide))))) ((nz_fa (g0 45 (by decide))).trans ((nz_fa (hg.f 45 (by decide) (by decide))).trans (nz_fa (hG.f 45 (by decide) (by decide))))) ((nz_fa (g0 46 (by decide))).trans ((nz_fa (hg.f 46 (by decide) (by decide))).trans (nz_fa (hG.f 46 (by decide) (by decide))))) ((nz_fa (g0 47 (by decide))).trans ((nz_fa (hg.f 47 (by decide) (by decide))).trans (nz_fa (hG.f 47 (by decide) (by decide))))) ((nz_fa (g0 48 (by decide))).trans ((nz_fa (hg.f 48 (by decide) (by decide))).trans (nz_fa (hG.f 48 (by decide) (by decide))))) ((nz_fa (g0 49 (by decide))).trans ((nz_fa (hg.f 49 (by decide) (by decide))).trans (nz_fa (hG.f 49 (by decide) (by decide))))) ((nz_fa (g0 50 (by decide))).trans ((nz_fa (hg.f 50 (by decide) (by decide))).trans (nz_fa (hG.f 50 (by decide) (by decide)))))⟩
    · rw [i12, a35] at y2
      show ((sy_ai F4 35).getD _ 0).toInt = _
      rw [a35']
      exact y2
    · obtain ⟨u1, u2, u3⟩ := hV.1 i (by rw [ek]; omega)
      unfold ix
      rw [nz_fa (g0 36 (by decide)), nz_fa (g0 37 (by decide)), nz_fa (g0 38 (by decide)), u1, u2, u3, nz_fa (hG.f 36 (by decide) (by decide)), nz_fa (hG.f 37 (by decide) (by decide)), nz_fa (hG.f 38 (by decide) (by decide))]
      exact ⟨rfl, rfl, rfl⟩
    · rw [ix_eq (nz_fa (g0 36 (by decide)))]
      exact v1 (by decide)
    · rw [ix_eq (nz_fa (g0 37 (by decide)))]
      exact v2 (by decide)
    · rw [ix_eq (nz_fa (g0 38 (by decide)))]
      exact v3 (by decide)
  · refine oth_trans (oth_gr hG (by decide)) (oth_trans (F1 := F') ⟨hg.f 12 (by decide) (by decide), hg.f 11 (by decide) (by decide), fun i hi => ⟨ix_eq (nz_fa (hg.f 31 (by decide) (by decide))) i, (show ((sy_ai F' 35).getD i 0).toInt = _ by rw [hO i hi]; rfl), ix_eq (nz_fa (hg.f 39 (by decide) (by decide))) i, ix_eq (nz_fa (hg.f 40 (by decide) (by decide))) i, ix_eq (nz_fa (hg.f 41 (by decide) (by decide))) i⟩, fun i hi => ⟨ix_eq (nz_fa (hg.f 32 (by decide) (by decide))) i, ix_eq (nz_fa (hg.f 33 (by decide) (by decide))) i, ix_eq (nz_fa (hg.f 34 (by decide) (by decide))) i⟩, fun i hi => by obtain ⟨u1, u2, u3⟩ := hV.1 i (by have ek : tb_k F1 = 4 * (sy_i F1 12).toInt + ((sy_ai F1 35).getD (sy_i F1 12).toInt.toNat 0).toInt := rfl; rw [ek, a35, i12]; rw [i12] at hi; omega); unfold ix; rw [u1, u2, u3]; exact ⟨rfl, rfl, rfl⟩, fun i hi => ⟨ix_eq (nz_fa (hg.f 42 (by decide) (by decide))) i, ix_eq (nz_fa (hg.f 43 (by decide) (by decide))) i⟩, fun b _ => s5_same (nz_fa (hg.f 44 (by decide) (by decide))) (nz_fa (hg.f 45 (by decide) (by decide))) (nz_fa (hg.f 46 (by decide) (by decide))) (nz_fa (hg.f 47 (by decide) (by decide))) (nz_fa (hg.f 48 (by decide) (by decide))) b, fun i _ => ⟨by rw [nz_fa (hg.f 49 (by decide) (by decide))], by rw [nz_fa (hg.f 50 (by decide) (by decide))]⟩⟩ (oth_gr (W := []) ⟨hb, fun j hj _ => g0 j hj, by omega, by omega⟩ (by decide)))
theorem toz_233' (hP : pk F) (hf : (sy_i F 6).toInt = 0) (hk0 : 22 ≤ kf F (tn F) ∧ kf F (tn F) ≤ 27) (F1 : Nat → sy_d) (hG : gr W1 F F1) (hk : 0 ≤ (sy_i F1 69).toInt ∧ (sy_i F1 69).toInt ≤ 5) (h69 : (sy_i F1 69).toInt = kf F (tn F) - 22) (h4 : (sy_i F1 6).toInt = 0 → (sy_i F1 4).toInt = (sy_i F 4).toInt + 1 ∧ (sy_i F 4).toInt ≠ 400) (h2 : (sy_i F1 6).toInt ≠ 0 → (sy_i F1 6).toInt = 2 ∧ (sy_i F 4).toInt = 400 ∧ (sy_i F1 7).toInt = pf F (tn F)) (h8 : (sy_i F1 8).toInt = (sy_i F 8).toInt) (h9 : (sy_i F1 9).toInt = (sy_i F 9).toInt) :
    hd_W Ls xs 7 jm_M154 (toz_Q F X1 X2) (233, sy_dL F1 [some (.inl (.ref 1000)), none], sy_dS F1 [.inr (.inl 69), .inl (.ref 1000)], sy_dh F1 X1 X2 (iv_H 4), 0, 0) := by
  obtain ⟨j1, j2, j3, j4, j5, j6, j7⟩ := hP.2.2.2 hf
  have c4 := nz_bx hP.1 (k := 4) (lo := 0) (hi := 400) rfl
  have i5 := hG.i (k := 5) (by decide) (by decide)
  have i11 := hG.i (k := 11) (by decide) (by decide)
  have i12 := hG.i (k := 12) (by decide) (by decide)
  have i13 := hG.i (k := 13) (by decide) (by decide)
  have i14 := hG.i (k := 14) (by decide) (by decide)
  have i15 := hG.i (k := 15) (by decide) (by decide)
  have a31 := hG.a (k := 31) (by decide) (by decide)
  have a35 := hG.a (k := 35) (by decide) (by decide)
  have t1 := hG.t
  have hP1 := hP.2.1
  have hr : jm_rpn F1 := jm_rpn_eq (fun q hq => hG.f q (by revert q; decide) (by revert q; decide)) hP.2.2.1
  have hS : rp_S F1 (sy_i F1 12).toInt.toNat (sy_i F1 14).toInt (sy_i F1 15).toInt := by
    rw [i12, i14, i15]
    have a42 := hG.a (k := 42) (by decide) (by decide)
    have a43 := hG.a (k := 43) (by decide) (by decide)
    have a44 := hG.a (k := 44) (by decide) (by decide)
    have a45 := hG.a (k := 45) (by decide) (by decide)
    have a46 := hG.a (k := 46) (by decide) (by decide)
    have a47 := hG.a (k := 47) (by decide) (by decide)
    have a48 := hG.a (k := 48) (by decide) (by decide)
    have a49 := hG.a (k := 49) (by decide) (by decide)
    have a50 := hG.a (k := 50) (by decide) (by decide)
    exact rp_S_keep j1 (fun k _ => by rw [a42, a43]; exact ⟨rfl, rfl⟩) (fun b _ _ => s5_same a44 a45 a46 a47 a48 b) (fun i _ _ => by rw [a49, a50]; exact ⟨rfl, rfl⟩) (Int.le_refl _) (Int.le_refl _)
  refine hd_calV (R := tlz_R (sy_i F1 69).toInt F1) (nh := 69) (nv := 70) (s := 4) (s1 := 4) (d1 := 6) (M1 := jm_M160) (As := [.inl (.ref 1000), .inr (.inl 69)]) (rest := []) jm_ok154 rfl rfl (by decide) (by decide +kernel) (tlz_T X1 X2 F1 (sy_i F1 69) hG.b hk (by omega) (fun z => by have := h4 z; omega) (by omega) (by omega)) (fun F3 F' hR p1 _ => ?_)
  have hz3 := (tlz_Rdst hR p1).2.2
  obtain ⟨hR3, hfx, hrr⟩ := tlz_y (tlz_Rdst hR p1)
  have hP3 := pk_law hk hG.b (by omega) hr hS (by omega) (by omega) (by rw [i12, i13, a31, a35]; exact j6) hR3
  have hG3 : gr WO F F3 := (hG.mono (by decide)).trans hR3.1 (by decide)
  have t3 := hR3.1.t
  have u3 := hR3.1.u
  have m8 := hR3.1.i (k := 8) (by decide) (by decide)
  have m9 := hR3.1.i (k := 9) (by decide) (by decide)
  have m12 := hR3.1.i (k := 12) (by decide) (by decide)
  have m13 := hR3.1.i (k := 13) (by decide) (by decide)
  have m30 := hR3.1.f 30 (by decide) (by decide)
  have m31 := hR3.1.a (k := 31) (by decide) (by decide)
  have m35 := hR3.1.a (k := 35) (by decide) (by decide)
  refine toy_236 (by decide) F3 X1 X2 hG3.b ?_
  intro F4 hb g e4 e5 e6 e7 e8 e9 e11 e12 e13 e14 e15 a25 a26 a27 a31' a35' a39 a40 a41
  have hG4 : gr [] F3 F4 := gr_mk hb g (by decide) (by omega) (by omega)
  have y6 := hP3.2.2.2
  refine ⟨F4, rfl, rfl, hG3.trans hG4 (by decide), pk_of hP3 hG4 (by decide) (fun z => ?_), fun z => ?_, fun L x hm hx => ?_, fun L x T hm hx hT z => ?_, ?_⟩
  · obtain ⟨m1, m2, m3, m4, m5, m6, m7⟩ := y6 (by omega)
    exact pj_of (y6 (by omega)) hG4 (by decide) (by rw [e13, a31', a35']; exact m6)
  · have := h4 (u3 (by omega))
    omega
  · obtain ⟨x1, x2, x3, x4, x5⟩ := x
    obtain ⟨r1, r2, r3, r4, r5, r6⟩ := hx
    have r1 : tn F = x1 := r1
    subst r1
    have r2 : tn F ≤ L := r2
    rw [sOne_l hk0]
    show an _ (sB (sG (tn F)) fun t => sB (sLw (kf F) t) fun t => .inr (t, x2, x3, x4, x5)) _ _ _
    by_cases hz : (sy_i F1 6).toInt = 0
    · obtain ⟨h4a, h4b⟩ := h4 hz
      have ts : tn F1 = tn F + 1 := tn_s c4.1 h4a
      have eL : lr F1 = sLw (kf F) (tn F + 1) := by
        unfold lr
        rw [kf_eq (hG.f 25 (by decide) (by decide)), ts]
      rw [eL] at hfx hrr
      rw [sG_ok (by unfold tn; omega)]
      show an _ (sB (sLw (kf F) (tn F + 1)) fun t => .inr (t, x2, x3, x4, x5)) _ _ _
      intro _
      rw [e6, e7]
      refine ⟨fun q => ?_, fun q => ?_⟩
      · obtain ⟨tok, q1, q2⟩ := hfx.1 hz q
        exact ⟨tok, by rw [q1]; rfl, by rw [q2, pf_eq (hG.f 26 (by decide) (by decide))]⟩
      · have e := hrr q
        refine ⟨(tn F3, x2, x3, x4, x5), by rw [e]; rfl, tn_eq e4, okL_Lw hm (pm_nx hm r2 (by omega) (by unfold tn; omega)) _ e, ?_, ?_, nmr_eq r5 ((g 30 (by decide) (by simp)).trans (m30.trans (hG.f 30 (by decide) (by decide)))) (by omega), wr_eq r6 (by unfold tn; omega) (by omega) (by omega)⟩
        · show ((sy_ai F4 31).getD (sy_i F4 12).toInt.toNat 0).toInt = _
          rw [a31', e12, m12, i12, m31, a31]
          exact r3
        · show ((sy_ai F4 35).getD (sy_i F4 12).toInt.toNat 0).toInt = _
          rw [a35', e12, m12, i12, m35, a35]
          exact r4
    · obtain ⟨q1, q2, q3⟩ := h2 hz
      obtain ⟨f1, f2⟩ := hfx.2 hz
      exact an_er (k := 2) (tok := tn F) (by rw [sG_4 (by unfold tn; omega)]; rfl) (by omega) (by decide) (by omega)
  · obtain ⟨t1', t2', t4', t5', t7', t6'⟩ := hT
    have z3 : (sy_i F3 6).toInt = 0 := by omega
    have z1 := u3 z3
    obtain ⟨h4a, h4b⟩ := h4 z1
    have ts : tn F1 = tn F + 1 := tn_s c4.1 h4a
    have es1 : sdf F1 = sdf F := by unfold sdf; rw [i12]
    have es3 : sdf F3 = sdf F1 := by unfold sdf; rw [m12]
    have es4 : sdf F4 = sdf F3 := by unfold sdf; rw [e12]
    have es : sdf F4 = sdf F := es4.trans (es3.trans es1)
    have c12 := nz_bx hP.1 (k := 12) (lo := 0) (hi := 1) rfl
    have eL : zLw (kf F) (vf F) (tn F + 1) = .inr (tn F3, aA F1 F3) := by
      rw [← hz3 z3]
      unfold lrz
      rw [kf_eq (hG.f 25 (by decide) (by decide)), vf_eq (hG.f 27 (by decide) (by decide)), ts]
    have sd1 : (sdf F1 : Int) = (sy_i F1 12).toInt := by unfold sdf; omega
    obtain ⟨w1, w2, w3, w4, w5, w6, w7, w8, w9⟩ := id hR3
    obtain ⟨-, -, x42, x43⟩ := w9 z3
    rw [tU_l hk0, eL]
    refine ⟨r3_eq t1' es ((nz_fa (g 31 (by decide) (by simp))).trans ((hR3.1.a (k := 31) (by decide) (by decide)).trans (hG.a (k := 31) (by decide) (by decide)))) ((nz_fa (g 32 (by decide) (by simp))).trans ((hR3.1.a (k := 32) (by decide) (by decide)).trans (hG.a (k := 32) (by decide) (by decide)))) ((nz_fa (g 33 (by decide) (by simp))).trans ((hR3.1.a (k := 33) (by decide) (by decide)).trans (hG.a (k := 33) (by decide) (by decide)))) ((nz_fa (g 34 (by decide) (by simp))).trans ((hR3.1.a (k := 34) (by decide) (by decide)).trans (hG.a (k := 34) (by decide) (by decide)))), r3_eq t2' es ((nz_fa (g 35 (by decide) (by simp))).trans ((hR3.1.a (k := 35) (by decide) (by decide)).trans (hG.a (k := 35) (by decide) (by decide)))) ((nz_fa (g 36 (by decide) (by simp))).trans ((hR3.1.a (k := 36) (by decide) (by decide)).trans (hG.a (k := 36) (by decide) (by decide)))) ((nz_fa (g 37 (by decide) (by simp))).trans ((hR3.1.a (k := 37) (by decide) (by decide)).trans (hG.a (k := 37) (by decide) (by decide)))) ((nz_fa (g 38 (by decide) (by simp))).trans ((hR3.1.a (k := 38) (by decide) (by decide)).trans (hG.a (k := 38) (by decide) (by decide)))), by rw [es]; exact (ix_eq ((nz_fa (g 39 (by decide) (by simp))).trans ((hR3.1.a (k := 39) (by decide) (by decide)).trans (hG.a (k := 39) (by decide) (by decide)))) (sdf F)).trans t4', by rw [es]; exact (ix_eq ((nz_fa (g 40 (by decide) (by simp))).trans ((hR3.1.a (k := 40) (by decide) (by decide)).trans (hG.a (k := 40) (by decide) (by decide)))) (sdf F)).trans t5', by rw [es]; exact (ix_eq ((nz_fa (g 41 (by decide) (by simp))).trans ((hR3.1.a (k := 41) (by decide) (by decide)).trans (hG.a (k := 41) (by decide) (by decide)))) (sdf F)).trans t7', fun k hk6 => ?_⟩
    refine rLw_eq (F := F3) ?_ es4 (nz_fa (g 42 (by decide) (by simp))) (nz_fa (g 43 (by decide) (by simp))) (nz_fa (g 44 (by decide) (by simp))) (nz_fa (g 45 (by decide) (by simp))) (nz_fa (g 46 (by decide) (by simp))) (nz_fa (g 47 (by decide) (by simp))) (nz_fa (g 48 (by decide) (by simp))) (nz_fa (g 49 (by decide) (by simp))) (nz_fa (g 50 (by decide) (by simp)))
    show rLw F3 k (if (k : Int) = kf F (tn F) - 22 then some (aA F1 F3) else T.2.2.2.2.2 k)
    by_cases hq : (k : Int) = kf F (tn F) - 22
    · rw [if_pos hq]
      have ei : 6 * sdf F3 + k = (6 * (sy_i F1 12).toInt + (sy_i F1 69).toInt).toNat := by omega
      have y42 : ix F3 42 (6 * sdf F3 + k) = (sy_i F1 14).toInt := by rw [ei]; exact x42
      have y43 : ix F3 43 (6 * sdf F3 + k) = (sy_i F3 14).toInt := by rw [ei]; exact x43
      refine ⟨by rw [y42, y43]; exact w5, ?_⟩
      rw [y42, y43]
      rfl
    · rw [if_neg hq]
      have hn : (((6 * sdf F1 + k : Nat)) : Int) ≠ 6 * (sy_i F1 12).toInt + (sy_i F1 69).toInt := by omega
      obtain ⟨y42, y43⟩ := w8 (6 * sdf F1 + k) hn
      have hb42 := nz_ba hG.b (k := 42) (lo := 0) (hi := 260) rfl (6 * sdf F1 + k)
      exact rLw_kp hk6 (rLw_eq (t6' k hk6) es1 (hG.a (k := 42) (by decide) (by decide)) (hG.a (k := 43) (by decide) (by decide)) (hG.a (k := 44) (by decide) (by decide)) (hG.a (k := 45) (by decide) (by decide)) (hG.a (k := 46) (by decide) (by decide)) (hG.a (k := 47) (by decide) (by decide)) (hG.a (k := 48) (by decide) (by decide)) (hG.a (k := 49) (by decide) (by decide)) (hG.a (k := 50) (by decide) (by decide))) es3 hS (by unfold ix; rw [y42]) (by unfold ix; rw [y43]) hb42.1 (fun b hb' => w3 b (Or.inl hb')) w2
  · obtain ⟨w1, w2, w3, w4, w5, w6, w7, w8, w9⟩ := id hR3
    have c12 := nz_bx hP.1 (k := 12) (lo := 0) (hi := 1) rfl
    have z4 := nz_bx w1.b (k := 4) (lo := 0) (hi := 400) rfl
    have S : ∀ q, q < 69 → q ∉ WLL → ∀ i : Nat, ix F3 q i = ix F1 q i := fun q hq hn i => ix_eq (nz_fa (w1.f q hq hn)) i
    refine oth_trans (oth_gr hG (by decide)) (oth_trans (F1 := F3) ⟨w1.f 12 (by decide) (by decide), w1.f 11 (by decide) (by decide), fun i _ => ⟨S 31 (by decide) (by decide) i, S 35 (by decide) (by decide) i, S 39 (by decide) (by decide) i, S 40 (by decide) (by decide) i, S 41 (by decide) (by decide) i⟩, fun i _ => ⟨S 32 (by decide) (by decide) i, S 33 (by decide) (by decide) i, S 34 (by decide) (by decide) i⟩, fun i _ => ⟨S 36 (by decide) (by decide) i, S 37 (by decide) (by decide) i, S 38 (by decide) (by decide) i⟩, fun i hi => ?_, fun b hb' => w3 b (by omega), fun i hi => w2 i (by omega)⟩ (oth_gr (W := []) hG4 (by decide)))
    obtain ⟨y1, y2⟩ := w8 i (by omega)
    unfold ix
    rw [y1, y2]
    exact ⟨rfl, rfl⟩
theorem toz_137' (hP : pk F) (hf : (sy_i F 6).toInt = 0) (hk : kf F (tn F) = 28) (F1 : Nat → sy_d) (g0 : ∀ j, j < 69 → F1 j = F j) (hb : iv_in F1 iv_B4) (hs : (sy_i F1 69).toInt = (sy_i F 12).toInt) :
    hd_W Ls xs 7 jm_M154 (toz_Q F X1 X2) (137, sy_dL F1 [some (.inl (.ref 1000)), none], sy_dS F1 [.inl (.int 99), .inl (.int 0), .inl (.ref 1000), .inr (.inl 69), .inl (.ref 1017)], sy_dh F1 X1 X2 (iv_H 4), 0, 0) := by
  have hJ := hP.2.2.2 hf
  obtain ⟨j1, j2, j3, j4, j5, j6, j7⟩ := id hJ
  have c12 := nz_bx hP.1 (k := 12) (lo := 0) (hi := 1) rfl
  refine hd_calI (R := fun x F' => iR ((99 : Int32)).toInt F1 F' ∧ ((sy_i F' 6).toInt = 0 → x.toInt = vf F1 (tn F1 + 1))) (nh := 69) (nv := 70) (s := 4) (s1 := 4) (d1 := 4) (M1 := jm_M153) (As := [.inl (.ref 1000), .inl (.int 0), .inl (.int 99)]) (rest := [.inr (.inl 69), .inl (.ref 1017)]) jm_ok154 rfl rfl (by decide) (by decide +kernel) (tiz_T F1 X1 X2 hb _) (fun F3 F' x hR0 p1 p2 p3 => ?_)
  obtain ⟨hR00, hx0⟩ := hR0
  have hR : iR 99 F1 F' := hR00
  have k6 := nz_fi (p1 6 (by decide))
  obtain ⟨g3', n3, hR2, hA⟩ := iR_src (iR_dst hR p1) g0
  have k69 := nz_fi (p2 69 (by decide) (by decide))
  have i12 := g3'.i (k := 12) (by decide) (by decide)
  have i13 := g3'.i (k := 13) (by decide) (by decide)
  have b31 := g3'.a (k := 31) (by decide) (by decide)
  have b35 := g3'.a (k := 35) (by decide) (by decide)
  have b30 := g3'.f 30 (by decide) (by decide)
  refine toy_140 (by decide) F3 X1 X2 g3'.b (by omega) ?_
  intro F4 hb4 g e4 e5 e6 e7 e8 e9 e11 e12 e13 e14 e15 a25 a26 a27 a31 a35 a39 a40 a41
  have hG4 : gr [4, 6, 7, 8, 9, 39] F F4 := (g3'.mono (by decide)).trans (gr_mk (W := [39]) hb4 g (by decide) (by omega) (by omega)) (by decide)
  refine ⟨F4, rfl, rfl, hG4.mono (by decide), pk_of hP hG4 (by decide) (fun z => pj_of hJ hG4 (by decide) (by rw [a31, a35, b31, b35, e13, i13]; exact j6)), fun z => ?_, fun L x hm hx => ?_, fun L x T hm hx hT z => ?_, ?_⟩
  · have := hR2 (by omega)
    omega
  · obtain ⟨x1, x2, x3, x4, x5⟩ := x
    obtain ⟨r1, r2, r3, r4, r5, r6⟩ := hx
    have r1 : tn F = x1 := r1
    subst r1
    rw [sOne_s (by omega)]
    refine an_bind (an_mono (hA L x5 hm r2 (by omega) r6) e6 e7 (fun q j => jq_dst j e4 e8 e9)) (nop_same rfl rfl) (fun hz q j => an_ok rfl hz ?_)
    obtain ⟨q1, q2, q3⟩ := j
    refine ⟨q1, q2, ?_, ?_, nmr_eq r5 ((g 30 (by decide) (by decide)).trans b30) (by omega), q3⟩
    · show ((sy_ai F4 31).getD (sy_i F4 12).toInt.toNat 0).toInt = _
      rw [a31, e12, i12, b31]
      exact r3
    · show ((sy_ai F4 35).getD (sy_i F4 12).toInt.toNat 0).toInt = _
      rw [a35, e12, i12, b35]
      exact r4
  · obtain ⟨t1, t2, t4, t5, t7, t6⟩ := hT
    have es : sdf F4 = sdf F := by unfold sdf; rw [e12, i12]
    rw [tU_1 hk]
    refine ⟨r3_eq t1 es ((nz_fa (g 31 (by decide) (by decide))).trans (g3'.a (k := 31) (by decide) (by decide))) ((nz_fa (g 32 (by decide) (by decide))).trans (g3'.a (k := 32) (by decide) (by decide))) ((nz_fa (g 33 (by decide) (by decide))).trans (g3'.a (k := 33) (by decide) (by decide))) ((nz_fa (g 34 (by decide) (by decide))).trans (g3'.a (k := 34) (by decide) (by decide))), r3_eq t2 es ((nz_fa (g 35 (by decide) (by decide))).trans (g3'.a (k := 35) (by decide) (by decide))) ((nz_fa (g 36 (by decide) (by decide))).trans (g3'.a (k := 36) (by decide) (by decide))) ((nz_fa (g 37 (by decide) (by decide))).trans (g3'.a (k := 37) (by decide) (by decide))) ((nz_fa (g 38 (by decide) (by decide))).trans (g3'.a (k := 38) (by decide) (by decide))), ?_, by rw [es]; exact (ix_eq ((nz_fa (g 40 (by decide) (by decide))).trans (g3'.a (k := 40) (by decide) (by decide))) (sdf F)).trans t5, by rw [es]; exact (ix_eq ((nz_fa (g 41 (by decide) (by decide))).trans (g3'.a (k := 41) (by decide) (by decide))) (sdf F)).trans t7, fun k hk6 => rLw_eq (t6 k hk6) es ((nz_fa (g 42 (by decide) (by decide))).trans (g3'.a (k := 42) (by decide) (by decide))) ((nz_fa (g 43 (by decide) (by decide))).trans (g3'.a (k := 43) (by decide) (by decide))) ((nz_fa (g 44 (by decide) (by decide))).trans (g3'.a (k := 44) (by decide) (by decide))) ((nz_fa (g 45 (by decide) (by decide))).trans (g3'.a (k := 45) (by decide) (by decide))) ((nz_fa (g 46 (by decide) (by decide))).trans (g3'.a (k := 46) (by decide) (by decide))) ((nz_fa (g 47 (by decide) (by decide))).trans (g3'.a (k := 47) (by decide) (by decide))) ((nz_fa (g 48 (by decide) (by decide))).trans (g3'.a (k := 48) (by decide) (by decide))) ((nz_fa (g 49 (by decide) (by decide))).trans (g3'.a (k := 49) (by decide) (by decide))) ((nz_fa (g 50 (by decide) (by decide))).trans (g3'.a (k := 50) (by decide) (by decide)))⟩
    show ((sy_ai F4 39).getD (sdf F4) 0).toInt = _
    rw [es, a39, jm_upd_at, if_pos (by unfold sdf; omega), zz_i p3, hx0 (by omega), vf_eq (g0 27 (by decide)), tn_eq (nz_fi (g0 4 (by decide)))]
  · have eo : ∀ q, q < 69 → q ∉ ([4, 6, 7, 8, 9, 39] : List Nat) → F4 q = F q := fun q hq hn => hG4.f q hq hn
    have ea : ∀ q, q < 69 → q ∉ ([4, 6, 7, 8, 9, 39] : List Nat) → ∀ i : Nat, ix F4 q i = ix F q i := fun q hq hn i => ix_eq (nz_fa (eo q hq hn)) i
    have eu : ∀ i : Nat, (i : Int) ≠ (sy_i F 12).toInt → ix F4 39 i = ix F 39 i := fun i hi => by
      unfold ix
      rw [a39, jm_upd_at, if_neg (by omega), g3'.a (k := 39) (by decide) (by decide)]
    exact ⟨eo 12 (by decide) (by decide), eo 11 (by decide) (by decide), fun i hi => ⟨ea 31 (by decide) (by decide) i, ea 35 (by decide) (by decide) i, eu i hi, ea 40 (by decide) (by decide) i, ea 41 (by decide) (by decide) i⟩, fun i _ => ⟨ea 32 (by decide) (by decide) i, ea 33 (by decide) (by decide) i, ea 34 (by decide) (by decide) i⟩, fun i _ => ⟨ea 36 (by decide) (by decide) i, ea 37 (by decide) (by decide) i, ea 38 (by decide) (by decide) i⟩, fun i _ => ⟨ea 42 (by decide) (by decide) i, ea 43 (by decide) (by decide) i⟩, fun b _ => s5_same (nz_fa (eo 44 (by decide) (by decide))) (nz_fa (eo 45 (by decide) (by decide))) (nz_fa (eo 46 (by decide) (by decide))) (nz_fa (eo 47 (by decide) (by decide))) (nz_fa (eo 48 (by decide) (by decide))) b, fun i _ => ⟨by rw [nz_fa (eo 49 (by decide) (by decide))], by rw [nz_fa (eo 50 (by decide) (by decide))]⟩⟩
theorem toz_156' (hP : pk F) (hf : (sy_i F 6).toInt = 0) (hk : kf F (tn F) = 29) (F1 : Nat → sy_d) (g0 : ∀ j, j < 69 → F1 j = F j) (hb : iv_in F1 iv_B4) (hs : (sy_i F1 69).toInt = (sy_i F 12).toInt) :
    hd_W Ls xs 7 jm_M154 (toz_Q F X1 X2) (156, sy_dL F1 [some (.inl (.ref 1000)), none], sy_dS F1 [.inl (.int 99), .inl (.int 0), .inl (.ref 1000), .inr (.inl 69), .inl (.ref 1018)], sy_dh F1 X1 X2 (iv_H 4), 0, 0) := by
  have hJ := hP.2.2.2 hf
  obtain ⟨j1, j2, j3, j4, j5, j6, j7⟩ := id hJ
  have c12 := nz_bx hP.1 (k := 12) (lo := 0) (hi := 1) rfl
  refine hd_calI (R := fun x F' => iR ((99 : Int32)).toInt F1 F' ∧ ((sy_i F' 6).toInt = 0 → x.toInt = vf F1 (tn F1 + 1))) (nh := 69) (nv := 70) (s := 4) (s1 := 4) (d1 := 4) (M1 := jm_M153) (As := [.inl (.ref 1000), .inl (.int 0), .inl (.int 99)]) (rest := [.inr (.inl 69), .inl (.ref 1018)]) jm_ok154 rfl rfl (by decide) (by decide +kernel) (tiz_T F1 X1 X2 hb _) (fun F3 F' x hR0 p1 p2 p3 => ?_)
  obtain ⟨hR00, hx0⟩ := hR0
  have hR : iR 99 F1 F' := hR00
  have k6 := nz_fi (p1 6 (by decide))
  obtain ⟨g3', n3, hR2, hA⟩ := iR_src (iR_dst hR p1) g0
  have k69 := nz_fi (p2 69 (by decide) (by decide))
  have i12 := g3'.i (k := 12) (by decide) (by decide)
  have i13 := g3'.i (k := 13) (by decide) (by decide)
  have b31 := g3'.a (k := 31) (by decide) (by decide)
  have b35 := g3'.a (k := 35) (by decide) (by decide)
  have b30 := g3'.f 30 (by decide) (by decide)
  refine toy_159 (by decide) F3 X1 X2 g3'.b (by omega) ?_
  intro F4 hb4 g e4 e5 e6 e7 e8 e9 e11 e12 e13 e14 e15 a25 a26 a27 a31 a35 a39 a40 a41
  have hG4 : gr [4, 6, 7, 8, 9, 40] F F4 := (g3'.mono (by decide)).trans (gr_mk (W := [40]) hb4 g (by decide) (by omega) (by omega)) (by decide)
  refine ⟨F4, rfl, rfl, hG4.mono (by decide), pk_of hP hG4 (by decide) (fun z => pj_of hJ hG4 (by decide) (by rw [a31, a35, b31, b35, e13, i13]; exact j6)), fun z => ?_, fun L x hm hx => ?_, fun L x T hm hx hT z => ?_, ?_⟩
  · have := hR2 (by omega)
    omega
  · obtain ⟨x1, x2, x3, x4, x5⟩ := x
    obtain ⟨r1, r2, r3, r4, r5, r6⟩ := hx
    have r1 : tn F = x1 := r1
    subst r1
    rw [sOne_s (by omega)]
    refine an_bind (an_mono (hA L x5 hm r2 (by omega) r6) e6 e7 (fun q j => jq_dst j e4 e8 e9)) (nop_same rfl rfl) (fun hz q j => an_ok rfl hz ?_)
    obtain ⟨q1, q2, q3⟩ := j
    refine ⟨q1, q2, ?_, ?_, nmr_eq r5 ((g 30 (by decide) (by decide)).trans b30) (by omega), q3⟩
    · show ((sy_ai F4 31).getD (sy_i F4 12).toInt.toNat 0).toInt = _
      rw [a31, e12, i12, b31]
      exact r3
    · show ((sy_ai F4 35).getD (sy_i F4 12).toInt.toNat 0).toInt = _
      rw [a35, e12, i12, b35]
      exact r4
  · obtain ⟨t1, t2, t4, t5, t7, t6⟩ := hT
    have es : sdf F4 = sdf F := by unfold sdf; rw [e12, i12]
    rw [tU_2 hk]
    refine ⟨r3_eq t1 es ((nz_fa (g 31 (by decide) (by decide))).trans (g3'.a (k := 31) (by decide) (by decide))) ((nz_fa (g 32 (by decide) (by decide))).trans (g3'.a (k := 32) (by decide) (by decide))) ((nz_fa (g 33 (by decide) (by decide))).trans (g3'.a (k := 33) (by decide) (by decide))) ((nz_fa (g 34 (by decide) (by decide))).trans (g3'.a (k := 34) (by decide) (by decide))), r3_eq t2 es ((nz_fa (g 35 (by decide) (by decide))).trans (g3'.a (k := 35) (by decide) (by decide))) ((nz_fa (g 36 (by decide) (by decide))).trans (g3'.a (k := 36) (by decide) (by decide))) ((nz_fa (g 37 (by decide) (by decide))).trans (g3'.a (k := 37) (by decide) (by decide))) ((nz_fa (g 38 (by decide) (by decide))).trans (g3'.a (k := 38) (by decide) (by decide))), by rw [es]; exact (ix_eq ((nz_fa (g 39 (by decide) (by decide))).trans (g3'.a (k := 39) (by decide) (by decide))) (sdf F)).trans t4, ?_, by rw [es]; exact (ix_eq ((nz_fa (g 41 (by decide) (by decide))).trans (g3'.a (k := 41) (by decide) (by decide))) (sdf F)).trans t7, fun k hk6 => rLw_eq (t6 k hk6) es ((nz_fa (g 42 (by decide) (by decide))).trans (g3'.a (k := 42) (by decide) (by decide))) ((nz_fa (g 43 (by decide) (by decide))).trans (g3'.a (k := 43) (by decide) (by decide))) ((nz_fa (g 44 (by decide) (by decide))).trans (g3'.a (k := 44) (by decide) (by decide))) ((nz_fa (g 45 (by decide) (by decide))).trans (g3'.a (k := 45) (by decide) (by decide))) ((nz_fa (g 46 (by decide) (by decide))).trans (g3'.a (k := 46) (by decide) (by decide))) ((nz_fa (g 47 (by decide) (by decide))).trans (g3'.a (k := 47) (by decide) (by decide))) ((nz_fa (g 48 (by decide) (by decide))).trans (g3'.a (k := 48) (by decide) (by decide))) ((nz_fa (g 49 (by decide) (by decide))).trans (g3'.a (k := 49) (by decide) (by decide))) ((nz_fa (g 50 (by decide) (by decide))).trans (g3'.a (k := 50) (by decide) (by decide)))⟩
    show ((sy_ai F4 40).getD (sdf F4) 0).toInt = _
    rw [es, a40, jm_upd_at, if_pos (by unfold sdf; omega), zz_i p3, hx0 (by omega), vf_eq (g0 27 (by decide)), tn_eq (nz_fi (g0 4 (by decide)))]
  · have eo : ∀ q, q < 69 → q ∉ ([4, 6, 7, 8, 9, 40] : List Nat) → F4 q = F q := fun q hq hn => hG4.f q hq hn
    have ea : ∀ q, q < 69 → q ∉ ([4, 6, 7, 8, 9, 40] : List Nat) → ∀ i : Nat, ix F4 q i = ix F q i := fun q hq hn i => ix_eq (nz_fa (eo q hq hn)) i
    have eu : ∀ i : Nat, (i : Int) ≠ (sy_i F 12).toInt → ix F4 40 i = ix F 40 i := fun i hi => by
      unfold ix
      rw [a40, jm_upd_at, if_neg (by omega), g3'.a (k := 40) (by decide) (by decide)]
    exact ⟨eo 12 (by decide) (by decide), eo 11 (by decide) (by decide), fun i hi => ⟨ea 31 (by decide) (by decide) i, ea 35 (by decide) (by decide) i, ea 39 (by decide) (by decide) i, eu i hi, ea 41 (by decide) (by decide) i⟩, fun i _ => ⟨ea 32 (by decide) (by decide) i, ea 33 (by decide) (by decide) i, ea 34 (by decide) (by decide) i⟩, fun i _ => ⟨ea 36 (by decide) (by decide) i, ea 37 (by decide) (by decide) i, ea 38 (by decide) (by decide) i⟩, fun i _ => ⟨ea 42 (by decide) (by decide) i, ea 43 (by decide) (by decide) i⟩, fun b _ => s5_same (nz_fa (eo 44 (by decide) (by decide))) (nz_fa (eo 45 (by decide) (by decide))) (nz_fa (eo 46 (by decide) (by decide))) (nz_fa (eo 47 (by decide) (by decide))) (nz_fa (eo 48 (by decide) (by decide))) b, fun i _ => ⟨by rw [nz_fa (eo 49 (by decide) (by decide))], by rw [nz_fa (eo 50 (by decide) (by decide))]⟩⟩
theorem toz_176' (hP : pk F) (hf : (sy_i F 6).toInt = 0) (hk : kf F (tn F) = 30) (F1 : Nat → sy_d) (g0 : ∀ j, j < 69 → F1 j = F j) (hb : iv_in F1 iv_B4) (hs : (sy_i F1 69).toInt = (sy_i F 12).toInt) :
    hd_W Ls xs 7 jm_M154 (toz_Q F X1 X2) (176, sy_dL F1 [some (.inl (.ref 1000)), none], sy_dS F1 [.inl (.int 9999), .inl (.int 0), .inl (.ref 1000), .inr (.inl 69), .inl (.ref 1019)], sy_dh F1 X1 X2 (iv_H 4), 0, 0) := by
  have hJ := hP.2.2.2 hf
  obtain ⟨j1, j2, j3, j4, j5, j6, j7⟩ := id hJ
  have c12 := nz_bx hP.1 (k := 12) (lo := 0) (hi := 1) rfl
  refine hd_calI (R := fun x F' => iR ((9999 : Int32)).toInt F1 F' ∧ ((sy_i F' 6).toInt = 0 → x.toInt = vf F1 (tn F1 + 1))) (nh := 69) (nv := 70) (s := 4) (s1 := 4) (d1 := 4) (M1 := jm_M153) (As := [.inl (.ref 1000), .inl (.int 0), .inl (.int 9999)]) (rest := [.inr (.inl 69), .inl (.ref 1019)]) jm_ok154 rfl rfl (by decide) (by decide +kernel) (tiz_T F1 X1 X2 hb _) (fun F3 F' x hR0 p1 p2 p3 => ?_)
  obtain ⟨hR00, hx0⟩ := hR0
  have hR : iR 9999 F1 F' := hR00
  have k6 := nz_fi (p1 6 (by decide))
  obtain ⟨g3', n3, hR2, hA⟩ := iR_src (iR_dst hR p1) g0
  have k69 := nz_fi (p2 69 (by decide) (by decide))
  have i12 := g3'.i (k := 12) (by decide) (by decide)
  have i13 := g3'.i (k := 13) (by decide) (by decide)
  have b31 := g3'.a (k := 31) (by decide) (by decide)
  have b35 := g3'.a (k := 35) (by decide) (by decide)
  have b30 := g3'.f 30 (by decide) (by decide)
  refine toy_179 (by decide) F3 X1 X2 g3'.b (by omega) ?_
  intro F4 hb4 g e4 e5 e6 e7 e8 e9 e11 e12 e13 e14 e15 a25 a26 a27 a31 a35 a39 a40 a41
  have hG4 : gr [4, 6, 7, 8, 9, 41] F F4 := (g3'.mono (by decide)).trans (gr_mk (W := [41]) hb4 g (by decide) (by omega) (by omega)) (by decide)
  refine ⟨F4, rfl, rfl, hG4.mono (by decide), pk_of hP hG4 (by decide) (fun z => pj_of hJ hG4 (by decide) (by rw [a31, a35, b31, b35, e13, i13]; exact j6)), fun z => ?_, fun L x hm hx => ?_, fun L x T hm hx hT z => ?_, ?_⟩
  · have := hR2 (by omega)
    omega
  · obtain ⟨x1, x2, x3, x4, x5⟩ := x
    obtain ⟨r1, r2, r3, r4, r5, r6⟩ := hx
    have r1 : tn F = x1 := r1
    subst r1
    rw [sOne_s3 (by omega)]
    refine an_bind (an_mono (hA L x5 hm r2 (by omega) r6) e6 e7 (fun q j => jq_dst j e4 e8 e9)) (nop_same rfl rfl) (fun hz q j => an_ok rfl hz ?_)
    obtain ⟨q1, q2, q3⟩ := j
    refine ⟨q1, q2, ?_, ?_, nmr_eq r5 ((g 30 (by decide) (by decide)).trans b30) (by omega), q3⟩
    · show ((sy_ai F4 31).getD (sy_i F4 12).toInt.toNat 0).toInt = _
      rw [a31, e12, i12, b31]
      exact r3
    · show ((sy_ai F4 35).getD (sy_i F4 12).toInt.toNat 0).toInt = _
      rw [a35, e12, i12, b35]
      exact r4
  · obtain ⟨t1, t2, t4, t5, t7, t6⟩ := hT
    have es : sdf F4 = sdf F := by unfold sdf; rw [e12, i12]
    rw [tU_3 hk]
    refine ⟨r3_eq t1 es ((nz_fa (g 31 (by decide) (by decide))).trans (g3'.a (k := 31) (by decide) (by decide))) ((nz_fa (g 32 (by decide) (by decide))).trans (g3'.a (k := 32) (by decide) (by decide))) ((nz_fa (g 33 (by decide) (by decide))).trans (g3'.a (k := 33) (by decide) (by decide))) ((nz_fa (g 34 (by decide) (by decide))).trans (g3'.a (k := 34) (by decide) (by decide))), r3_eq t2 es ((nz_fa (g 35 (by decide) (by decide))).trans (g3'.a (k := 35) (by decide) (by decide))) ((nz_fa (g 36 (by decide) (by decide))).trans (g3'.a (k := 36) (by decide) (by decide))) ((nz_fa (g 37 (by decide) (by decide))).trans (g3'.a (k := 37) (by decide) (by decide))) ((nz_fa (g 38 (by decide) (by decide))).trans (g3'.a (k := 38) (by decide) (by decide))), by rw [es]; exact (ix_eq ((nz_fa (g 39 (by decide) (by decide))).trans (g3'.a (k := 39) (by decide) (by decide))) (sdf F)).trans t4, by rw [es]; exact (ix_eq ((nz_fa (g 40 (by decide) (by decide))).trans (g3'.a (k := 40) (by decide) (by decide))) (sdf F)).trans t5, ?_, fun k hk6 => rLw_eq (t6 k hk6) es ((nz_fa (g 42 (by decide) (by decide))).trans (g3'.a (k := 42) (by decide) (by decide))) ((nz_fa (g 43 (by decide) (by decide))).trans (g3'.a (k := 43) (by decide) (by decide))) ((nz_fa (g 44 (by decide) (by decide))).trans (g3'.a (k := 44) (by decide) (by decide))) ((nz_fa (g 45 (by decide) (by decide))).trans (g3'.a (k := 45) (by decide) (by decide))) ((nz_fa (g 46 (by decide) (by decide))).trans (g3'.a (k := 46) (by decide) (by decide))) ((nz_fa (g 47 (by decide) (by decide))).trans (g3'.a (k := 47) (by decide) (by decide))) ((nz_fa (g 48 (by decide) (by decide))).trans (g3'.a (k := 48) (by decide) (by decide))) ((nz_fa (g 49 (by decide) (by decide))).trans (g3'.a (k := 49) (by decide) (by decide))) ((nz_fa (g 50 (by decide) (by decide))).trans (g3'.a (k := 50) (by decide) (by decide)))⟩
    show ((sy_ai F4 41).getD (sdf F4) 0).toInt = _
    rw [es, a41, jm_upd_at, if_pos (by unfold sdf; omega), zz_i p3, hx0 (by omega), vf_eq (g0 27 (by decide)), tn_eq (nz_fi (g0 4 (by decide)))]
  · have eo : ∀ q, q < 69 → q ∉ ([4, 6, 7, 8, 9, 41] : List Nat) → F4 q = F q := fun q hq hn => hG4.f q hq hn
    have ea : ∀ q, q < 69 → q ∉ ([4, 6, 7, 8, 9, 41] : List Nat) → ∀ i : Nat, ix F4 q i = ix F q i := fun q hq hn i => ix_eq (nz_fa (eo q hq hn)) i
    have eu : ∀ i : Nat, (i : Int) ≠ (sy_i F 12).toInt → ix F4 41 i = ix F 41 i := fun i hi => by
      unfold ix
      rw [a41, jm_upd_at, if_neg (by omega), g3'.a (k := 41) (by decide) (by decide)]
    exact ⟨eo 12 (by decide) (by decide), eo 11 (by decide) (by decide), fun i hi => ⟨ea 31 (by decide) (by decide) i, ea 35 (by decide) (by decide) i, ea 39 (by decide) (by decide) i, ea 40 (by decide) (by decide) i, eu i hi⟩, fun i _ => ⟨ea 32 (by decide) (by decide) i, ea 33 (by decide) (by decide) i, ea 34 (by decide) (by decide) i⟩, fun i _ => ⟨ea 36 (by decide) (by decide) i, ea 37 (by decide) (by decide) i, ea 38 (by decide) (by decide) i⟩, fun i _ => ⟨ea 42 (by decide) (by decide) i, ea 43 (by decide) (by decide) i⟩, fun b _ => s5_same (nz_fa (eo 44 (by decide) (by decide))) (nz_fa (eo 45 (by decide) (by decide))) (nz_fa (eo 46 (by decide) (by decide))) (nz_fa (eo 47 (by decide) (by decide))) (nz_fa (eo 48 (by decide) (by decide))) b, fun i _ => ⟨by rw [nz_fa (eo 49 (by decide) (by decide))], by rw [nz_fa (eo 50 (by decide) (by decide))]⟩⟩
theorem toz_T (hP : pk F) (hf : (sy_i F 6).toInt = 0) : jm_T Ls xs 7 jm_M154 [.ref 1000] (sy_dh F X1 X2 (iv_H 4)) 0 0 (toz_Q F X1 X2) := by
  have c4 := nz_bx hP.1 (k := 4) (lo := 0) (hi := 400) rfl
  have eK : kf F (tn F) = ((sy_ai F 25).getD (sy_i F 4).toInt.toNat 0).toInt := rfl
  have eP : pf F (tn F) = ((sy_ai F 26).getD (sy_i F 4).toInt.toNat 0).toInt := rfl
  have eF : FRf F = ((sy_ai F 31).getD (sy_i F 12).toInt.toNat 0).toInt := rfl
  have eB : BUf F = ((sy_ai F 35).getD (sy_i F 12).toInt.toNat 0).toInt := rfl
  have et : (tn F : Int) = (sy_i F 4).toInt := by unfold tn; omega
  refine nz_T0 jm_ok154 (by decide) (toy_0 (by decide) F X1 X2 hP.1 ?_ ?_ ?_ ?_ ?_ ?_ ?_ ?_ ?_ ?_ ?_ ?_ ?_ ?_ ?_ ?_ ?_ ?_ ?_ ?_ ?_ ?_ ?_ ?_ ?_ ?_ ?_ ?_ ?_ ?_ ?_ ?_ ?_ ?_ ?_)
  all_goals intros
  all_goals first
    | (exfalso; omega)
    | (rename_i F1 hb g e4 e5 e6 e7 e8 e9 e11 e12 e13 e14 e15 a25 a26 a27 a31 a35 a39 a40 a41
       exact toz_fault X1 X2 F hP hb g (by decide) (by omega) e6 (by decide) (e7.trans eP.symm) (fun fr bu nm w hfr hbu => sOne_1 (by omega)))
    | (rename_i F1 hb g e4 e5 e6 e7 e8 e9 e11 e12 e13 e14 e15 a25 a26 a27 a31 a35 a39 a40 a41
       exact toz_fault X1 X2 F hP hb g (by decide) (by omega) e6 (by decide) (e7.trans eP.symm) (fun fr bu nm w hfr hbu => by rw [sOne_f (by omega), sF_7 (by omega)]))
    | (rename_i F1 hb g e4 e5 e6 e7 e8 e9 e11 e12 e13 e14 e15 a25 a26 a27 a31 a35 a39 a40 a41
       exact toz_fault X1 X2 F hP hb g (by decide) (by omega) e6 (by decide) (e7.trans eP.symm) (fun fr bu nm w hfr hbu => by rw [sOne_b (by omega), sBu_4 (by omega)]))
    | (rename_i F1 hb g e4 e5 e6 e7 e8 e9 e11 e12 e13 e14 e15 a25 a26 a27 a31 a35 a39 a40 a41
       exact toz_fault X1 X2 F hP hb g (by decide) (by omega) e6 (by decide) (e7.trans eP.symm) (fun fr bu nm w hfr hbu => by rw [sOne_f (by omega), sF_n (by omega), sG_4 (by omega)]; rfl))
    | (rename_i F1 hb g e4 e5 e6 e7 e8 e9 e11 e12 e13 e14 e15 a25 a26 a27 a31 a35 a39 a40 a41
       exact toz_fault X1 X2 F hP hb g (by decide) (by omega) e6 (by decide) (e7.trans eP.symm) (fun fr bu nm w hfr hbu => by rw [sOne_b (by omega), sBu_n (by omega), sG_4 (by omega)]; rfl))
    | (rename_i F1 hb g e4 e5 e6 e7 e8 e9 e11 e12 e13 e14 e15 a25 a26 a27 a31 a35 a39 a40 a41
       exact toz_91' X1 X2 F hP hf (by omega) F1 (gr_mk hb g (by decide) (by omega) (by omega)) (by omega) e4 (by omega) (by omega) e8 e9)
    | (rename_i F1 hb g e4 e5 e6 e7 e8 e9 e11 e12 e13 e14 e15 a25 a26 a27 a31 a35 a39 a40 a41
       exact toz_119' X1 X2 F hP hf (by omega) F1 (gr_mk hb g (by decide) (by omega) (by omega)) (by omega) e4 (by omega) (by omega) e8 e9)
    | (rename_i F1 hb g e4 e5 e6 e7 e8 e9 e11 e12 e13 e14 e15 a25 a26 a27 a31 a35 a39 a40 a41 e69
       exact toz_233' X1 X2 F hP hf (by omega) F1 (gr_mk hb g (by decide) (by omega) (by omega)) (by omega) (by omega) (fun _ => by omega) (fun _ => ⟨by omega, by omega, by omega⟩) e8 e9)
    | (rename_i F1 hb g e4 e5 e6 e7 e8 e9 e11 e12 e13 e14 e15 a25 a26 a27 a31 a35 a39 a40 a41 e69
       exact toz_137' X1 X2 F hP hf (by omega) F1 (fun j hj => g j hj (by simp)) hb e69)
    | (rename_i F1 hb g e4 e5 e6 e7 e8 e9 e11 e12 e13 e14 e15 a25 a26 a27 a31 a35 a39 a40 a41 e69
       exact toz_156' X1 X2 F hP hf (by omega) F1 (fun j hj => g j hj (by simp)) hb e69)
    | (rename_i F1 hb g e4 e5 e6 e7 e8 e9 e11 e12 e13 e14 e15 a25 a26 a27 a31 a35 a39 a40 a41 e69
       exact toz_176' X1 X2 F hP hf (by omega) F1 (fun j hj => g j hj (by simp)) hb e69)
end TOZ
