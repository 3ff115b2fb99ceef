/-! ===== terms and laws are read ===== -/
theorem rp_go_eq {code cint code' cint' : List Int32} : ∀ (n c d : Nat), (∀ i, c ≤ i → i < c + n → code'.getD i 0 = code.getD i 0 ∧ cint'.getD i 0 = cint.getD i 0) → rp_go code cint n c d → rp_go code' cint' n c d
  | 0, _, _, _, _ => trivial
  | n + 1, c, d, e, h => by
    obtain ⟨e1, e2⟩ := e c (Nat.le_refl _) (by omega)
    unfold rp_go at h ⊢
    rw [e1, e2]
    exact ⟨fun q => ⟨(h.1 q).1, rp_go_eq n (c + 1) (d + 1) (fun i h1 h2 => e i (by omega) (by omega)) (h.1 q).2⟩, fun q => ⟨(h.2 q).1, rp_go_eq n (c + 1) (d - 1) (fun i h1 h2 => e i (by omega) (by omega)) (h.2 q).2⟩⟩
noncomputable def rs (sd : Nat) (nc : Int) (code cint : List Int32) (x y : Int) : Prop := (420 * sd : Int) ≤ x ∧ y ≤ nc ∧ y ≤ x + 400 ∧ rp_go code cint (y - x).toNat x.toNat 0
theorem rs_keep {sd : Nat} {nc nc' : Int} {code cint code' cint' : List Int32} {x y : Int} (h : rs sd nc code cint x y) (e : ∀ i : Nat, (420 * sd : Int) ≤ i → (i : Int) < nc → code'.getD i 0 = code.getD i 0 ∧ cint'.getD i 0 = cint.getD i 0) (l : nc ≤ nc') : rs sd nc' code' cint' x y := by
  obtain ⟨h1, h2, h3, h4⟩ := h
  refine ⟨h1, by omega, h3, rp_go_eq _ _ _ (fun i a b => e i (by omega) (by omega)) h4⟩
theorem rp_sg_rs {sd : Nat} {nc : Int} {code cint : List Int32} {x y : Int32} : rp_sg sd nc code cint x y ↔ rs sd nc code cint x.toInt y.toInt := Iff.rfl
/-- the five rows of a branch are the same -/
noncomputable def s5 (F F' : Nat → sy_d) (b : Nat) : Prop := (sy_ai F' 44).getD b 0 = (sy_ai F 44).getD b 0 ∧ (sy_ai F' 45).getD b 0 = (sy_ai F 45).getD b 0 ∧ (sy_ai F' 46).getD b 0 = (sy_ai F 46).getD b 0 ∧ (sy_ai F' 47).getD b 0 = (sy_ai F 47).getD b 0 ∧ (sy_ai F' 48).getD b 0 = (sy_ai F 48).getD b 0
theorem s5_trans {F F1 F2 : Nat → sy_d} {b : Nat} (h : s5 F F1 b) (h2 : s5 F1 F2 b) : s5 F F2 b := ⟨h2.1.trans h.1, h2.2.1.trans h.2.1, h2.2.2.1.trans h.2.2.1, h2.2.2.2.1.trans h.2.2.2.1, h2.2.2.2.2.trans h.2.2.2.2⟩
theorem s5_same {F F1 : Nat → sy_d} (a44 : sy_ai F1 44 = sy_ai F 44) (a45 : sy_ai F1 45 = sy_ai F 45) (a46 : sy_ai F1 46 = sy_ai F 46) (a47 : sy_ai F1 47 = sy_ai F 47) (a48 : sy_ai F1 48 = sy_ai F 48) (b : Nat) : s5 F F1 b := by
  unfold s5
  rw [a44, a45, a46, a47, a48]
  exact ⟨rfl, rfl, rfl, rfl, rfl⟩
theorem rp_br_keep {F F' : Nat → sy_d} {sd b : Nat} {nc nc' : Int} (h : rp_br F sd nc b) (e5 : s5 F F' b) (e : ∀ i : Nat, (420 * sd : Int) ≤ i → (i : Int) < nc → (sy_ai F' 49).getD i 0 = (sy_ai F 49).getD i 0 ∧ (sy_ai F' 50).getD i 0 = (sy_ai F 50).getD i 0) (l : nc ≤ nc') : rp_br F' sd nc' b := by
  obtain ⟨e44, e45, e46, e47, e48⟩ := e5
  unfold rp_br
  rw [e44, e45, e46, e47, e48]
  exact ⟨fun q => ⟨rs_keep (h.1 q).1 e l, rs_keep (h.1 q).2 e l⟩, rs_keep h.2 e l⟩
theorem rp_S_keep {F F' : Nat → sy_d} {sd : Nat} {nb nc nb' nc' : Int} (h : rp_S F sd nb nc) (el : ∀ k, k < 6 → (sy_ai F' 42).getD (6 * sd + k) 0 = (sy_ai F 42).getD (6 * sd + k) 0 ∧ (sy_ai F' 43).getD (6 * sd + k) 0 = (sy_ai F 43).getD (6 * sd + k) 0) (e5 : ∀ b : Nat, (130 * sd : Int) ≤ b → (b : Int) < nb → s5 F F' b) (e : ∀ i : Nat, (420 * sd : Int) ≤ i → (i : Int) < nc → (sy_ai F' 49).getD i 0 = (sy_ai F 49).getD i 0 ∧ (sy_ai F' 50).getD i 0 = (sy_ai F 50).getD i 0) (l1 : nb ≤ nb') (l2 : nc ≤ nc') : rp_S F' sd nb' nc' := by
  intro k b hk h1 h2
  rw [(el k hk).1] at h1
  rw [(el k hk).2] at h2
  obtain ⟨a, c⟩ := h k b hk h1 h2
  exact ⟨⟨a.1, by omega⟩, rp_br_keep c (e5 b a.1 a.2) e l2⟩
/-- the branches that lay there before, and those behind, stay -/
noncomputable def kb (F F' : Nat → sy_d) : Prop := ∀ b : Nat, ((b : Int) < (sy_i F 14).toInt ∨ (sy_i F' 14).toInt < b) → s5 F F' b
theorem kb_step {F0 F F1 : Nat → sy_d} (h : kb F0 F) (hs : ∀ b : Nat, (b : Int) ≠ (sy_i F 14).toInt → s5 F F1 b) (l0 : (sy_i F0 14).toInt ≤ (sy_i F 14).toInt) (l : (sy_i F 14).toInt ≤ (sy_i F1 14).toInt) : kb F0 F1 := fun b q => s5_trans (h b (by omega)) (hs b (by omega))
noncomputable def WT : List Nat := [4, 5, 6, 7, 14, 15, 16, 47, 48, 49, 50, 51]
noncomputable def tr_R (F F' : Nat → sy_d) : Prop := gr WT F F' ∧ kp F F' ∧ (∀ b : Nat, (b : Int) ≠ (sy_i F 14).toInt → s5 F F' b) ∧ (sy_i F' 14).toInt = (sy_i F 14).toInt + 1 ∧ (sy_i F 15).toInt ≤ (sy_i F' 15).toInt ∧ (sy_i F' 15).toInt ≤ 420 * (sy_i F 12).toInt + (sy_i F' 4).toInt + 1 ∧
  ((sy_i F' 6).toInt = 0 → (sy_i F 4).toInt + 1 ≤ (sy_i F' 4).toInt ∧ (sy_i F' 5).toInt = 0 ∧ (sy_i F' 15).toInt ≤ 420 * (sy_i F 12).toInt + (sy_i F' 4).toInt ∧ ((sy_ai F' 47).getD (sy_i F 14).toInt.toNat 0).toInt = (sy_i F 15).toInt ∧ ((sy_ai F' 48).getD (sy_i F 14).toInt.toNat 0).toInt = (sy_i F' 15).toInt ∧ rp_go (sy_ai F' 49) (sy_ai F' 50) ((sy_i F' 15).toInt - (sy_i F 15).toInt).toNat (sy_i F 15).toInt.toNat 0)
theorem tr_Rdst {F F' F2 : Nat → sy_d} (h : tr_R F F') (e : ∀ q, q < 69 → F2 q = F' q) : tr_R F F2 := by
  obtain ⟨h1, h2, h3, h4, h5, h6, h7⟩ := h
  have i4 := nz_fi (e 4 (by decide))
  have i5 := nz_fi (e 5 (by decide))
  have i6 := nz_fi (e 6 (by decide))
  have i14 := nz_fi (e 14 (by decide))
  have i15 := nz_fi (e 15 (by decide))
  have a49 := nz_fa (e 49 (by decide))
  have a50 := nz_fa (e 50 (by decide))
  have a47 := nz_fa (e 47 (by decide))
  have a48 := nz_fa (e 48 (by decide))
  refine ⟨h1.dst e, ?_, fun b hb => s5_trans (h3 b hb) (s5_same (nz_fa (e 44 (by decide))) (nz_fa (e 45 (by decide))) (nz_fa (e 46 (by decide))) a47 a48 b), by rw [i14]; exact h4, by rw [i15]; exact h5, by rw [i15, i4]; exact h6, by rw [i4, i5, i6, i15, a47, a48, a49, a50]; exact h7⟩
  unfold kp
  rw [i15, a49, a50]
  exact h2
section TR
variable {Ls : Nat} {xs : Nat → Int32} (X1 X2 : List jm_c) (F : Nat → sy_d)
theorem tr_e (F1 : Nat → sy_d) (hG : gr WT F F1) (hk : kp F F1) (hs : ∀ b : Nat, (b : Int) ≠ (sy_i F 14).toInt → s5 F F1 b) (h14 : (sy_i F1 14).toInt = (sy_i F 14).toInt) (hb : (sy_i F 14).toInt < 260) (h5 : (sy_i F 15).toInt ≤ (sy_i F1 15).toInt) (h6 : (sy_i F1 15).toInt ≤ 420 * (sy_i F 12).toInt + (sy_i F1 4).toInt + 1)
    (h7 : (sy_i F1 6).toInt = 0 → (sy_i F 4).toInt + 1 ≤ (sy_i F1 4).toInt ∧ (sy_i F1 5).toInt = 0 ∧ (sy_i F1 15).toInt ≤ 420 * (sy_i F 12).toInt + (sy_i F1 4).toInt ∧ ((sy_ai F1 47).getD (sy_i F 14).toInt.toNat 0).toInt = (sy_i F 15).toInt ∧ rp_go (sy_ai F1 49) (sy_ai F1 50) ((sy_i F1 15).toInt - (sy_i F 15).toInt).toNat (sy_i F 15).toInt.toNat 0) :
    hd_W Ls xs 5 jm_M161 (fun v G => ∃ F' : Nat → sy_d, v = none ∧ G = sy_dh F' X1 X2 (iv_H 4) ∧ tr_R F F') (24, sy_dL F1 [some (.inl (.ref 1000))], sy_dS F1 [], sy_dh F1 X1 X2 (iv_H 4), 0, 0) := by
  have c14 := nz_bx hG.b (k := 14) (lo := 0) (hi := 260) rfl
  refine tr_24 (by decide) F1 X1 X2 hG.b (by omega) (by omega) ?_
  intro F2 hb2 g e4 e5 e6 e11 e12 e14 e15 e16 a44 a45 a46 a47 a48 a49 a50
  refine ⟨F2, rfl, rfl, hG.trans (gr_mk (W := WT) hb2 g (by decide) (by omega) (by omega)) (by decide), kp_trans hk (kp_same a49 a50) h5 (by omega), fun b q => s5_trans (hs b q) ?_, by omega, by omega, by omega, fun z => ?_⟩
  · refine ⟨by rw [a44], by rw [a45], by rw [a46], by rw [a47], ?_⟩
    rw [a48, jm_upd_at, if_neg (by omega)]
  · obtain ⟨y1, y2, y3, y4, y5⟩ := h7 (by omega)
    refine ⟨by omega, by omega, by omega, by rw [a47]; exact y4, ?_, by rw [a49, a50, e15]; exact y5⟩
    rw [a48, jm_upd_at, if_pos (by omega), e15]
theorem tr_T (hB : iv_in F iv_B4) (h1 : (sy_i F 6).toInt = 0 → (sy_i F 5).toInt = 0 ∧ (sy_i F 15).toInt ≤ 420 * (sy_i F 12).toInt + (sy_i F 4).toInt) (h2 : (sy_i F 15).toInt ≤ 420 * (sy_i F 12).toInt + (sy_i F 4).toInt + 1) (hb : (sy_i F 14).toInt < 260) :
    jm_T Ls xs 5 jm_M161 [.ref 1000] (sy_dh F X1 X2 (iv_H 4)) 0 0 (fun v G => ∃ F' : Nat → sy_d, v = none ∧ G = sy_dh F' X1 X2 (iv_H 4) ∧ tr_R F F') := by
  have c14 := nz_bx hB (k := 14) (lo := 0) (hi := 260) rfl
  have s5u : ∀ F1 : Nat → sy_d, sy_ai F1 44 = sy_ai F 44 → sy_ai F1 45 = sy_ai F 45 → sy_ai F1 46 = sy_ai F 46 → sy_ai F1 47 = jm_upd (sy_ai F 47) (sy_i F 14).toInt.toNat (sy_i F 15) → sy_ai F1 48 = sy_ai F 48 → ∀ b : Nat, (b : Int) ≠ (sy_i F 14).toInt → s5 F F1 b := by
    intro F1 a44 a45 a46 a47 a48 b q
    refine ⟨by rw [a44], by rw [a45], by rw [a46], ?_, by rw [a48]⟩
    rw [a47, jm_upd_at, if_neg (by omega)]
  refine nz_T0 jm_ok161 (by decide) (tr_0 (by decide) F X1 X2 hB (by omega) ?_ ?_)
  · intro q F1 hb1 g e4 e5 e6 e11 e12 e14 e15 e16 a44 a45 a46 a47 a48 a49 a50
    exact tr_e X1 X2 F F1 (gr_mk hb1 g (by decide) (by omega) (by omega)) (kp_same a49 a50) (s5u F1 a44 a45 a46 a47 a48) e14 hb (by omega) (by omega) (fun z => absurd z (by omega))
  · intro q F1 hb1 g e4 e5 e6 e11 e12 e14 e15 e16 a44 a45 a46 a47 a48 a49 a50
    have hG : gr WT F F1 := gr_mk hb1 g (by decide) (by omega) (by omega)
    have h1' := h1 q
    refine hd_calV (R := xr F1) (nh := 69) (nv := 69) (s := 4) (s1 := 4) (d1 := 4) (M1 := jm_M164) (As := [.inl (.ref 1000)]) (rest := []) jm_ok161 rfl rfl (by decide) (by decide +kernel) (ex_T X1 X2 F1 hb1 (by omega) (by omega)) (fun F3 F' hR p1 _ => ?_)
    obtain ⟨x1, x2, x3, x4, x5⟩ := xr_dst hR p1
    have b44 := x1.a (k := 44) (by decide) (by decide)
    have b45 := x1.a (k := 45) (by decide) (by decide)
    have b46 := x1.a (k := 46) (by decide) (by decide)
    have b47 := x1.a (k := 47) (by decide) (by decide)
    have b48 := x1.a (k := 48) (by decide) (by decide)
    have j14 := x1.i (k := 14) (by decide) (by decide)
    refine tr_e X1 X2 F F3 (hG.trans x1 (by decide)) (kp_trans (kp_same a49 a50) x2 (by omega) (by omega)) (fun b q => s5_trans (s5u F1 a44 a45 a46 a47 a48 b q) (s5_same b44 b45 b46 b47 b48 b)) (by omega) hb (by omega) (by omega) (fun z => ?_)
    obtain ⟨y1, y2, y3, y4⟩ := x5 z
    rw [e15] at y4
    refine ⟨by omega, y2, by omega, ?_, y4⟩
    rw [b47, a47, jm_upd_at, if_pos rfl]
end TR
