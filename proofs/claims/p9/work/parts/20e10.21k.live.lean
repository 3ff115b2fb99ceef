/-! ===== the reference reads: the text's content ===== -/
noncomputable def T0 : tX := ([], [], 10, 6, 0, fun _ => none)
noncomputable def zRun (K V : Nat → Int) (N : Nat → Int64) : Nat → sT → tX → sE ⊕ (sT × tX)
  | 0, x, T => .inr (x, T)
  | n + 1, x, T => if K x.1 = 0 then .inr (x, T) else sB (sOne K V N x) (fun x' => zRun K V N n x' (tU K V x.1 T))
noncomputable def prT (r : sE ⊕ (sT × tX)) : sE ⊕ sT := sB r (fun p => .inr p.1)
noncomputable def cnT (r : sE ⊕ (sT × tX)) : tX := match r with
  | .inl _ => T0
  | .inr p => p.2
theorem prT_Run (K V : Nat → Int) (N : Nat → Int64) : ∀ (n : Nat) (x : sT) (T : tX), prT (zRun K V N n x T) = sRun K V N n x
  | 0, x, T => rfl
  | n + 1, x, T => by
    show prT (if K x.1 = 0 then _ else _) = if K x.1 = 0 then _ else _
    by_cases h : K x.1 = 0
    · rw [if_pos h, if_pos h]; rfl
    · rw [if_neg h, if_neg h]
      cases sOne K V N x with
      | inl e => rfl
      | inr y => exact prT_Run K V N n y _
/-- the live side's content -/
noncomputable def fl (F : Nat → sy_d) : Nat → sy_d := fun j => if j = 12 then F 11 else F j
noncomputable def rXl (T : tX) (F : Nat → sy_d) : Prop := rX T (fl F)
theorem fl_a {F : Nat → sy_d} {a : Nat} (h : a ≠ 12) : sy_ai (fl F) a = sy_ai F a := nz_fa (show fl F a = F a by unfold fl; rw [if_neg h])
theorem fl_s {F : Nat → sy_d} : sdf (fl F) = (sy_i F 11).toInt.toNat := by
  have e : fl F 12 = F 11 := by unfold fl; rw [if_pos rfl]
  unfold sdf sy_i
  rw [e]
theorem fl_ix {F : Nat → sy_d} {a i : Nat} (h : a ≠ 12) : ix (fl F) a i = ix F a i := ix_eq (fl_a h) i
theorem rX_eq {T : tX} {F F1 : Nat → sy_d} (h : rX T F) (es : sdf F1 = sdf F) (e : ∀ a, 31 ≤ a → a ≤ 50 → sy_ai F1 a = sy_ai F a) : rX T F1 := by
  obtain ⟨t1, t2, t4, t5, t7, t6⟩ := h
  refine ⟨r3_eq t1 es (e 31 (by decide) (by decide)) (e 32 (by decide) (by decide)) (e 33 (by decide) (by decide)) (e 34 (by decide) (by decide)), r3_eq t2 es (e 35 (by decide) (by decide)) (e 36 (by decide) (by decide)) (e 37 (by decide) (by decide)) (e 38 (by decide) (by decide)), by rw [es]; exact (ix_eq (e 39 (by decide) (by decide)) _).trans t4, by rw [es]; exact (ix_eq (e 40 (by decide) (by decide)) _).trans t5, by rw [es]; exact (ix_eq (e 41 (by decide) (by decide)) _).trans t7, fun k hk => rLw_eq (t6 k hk) es (e 42 (by decide) (by decide)) (e 43 (by decide) (by decide)) (e 44 (by decide) (by decide)) (e 45 (by decide) (by decide)) (e 46 (by decide) (by decide)) (e 47 (by decide) (by decide)) (e 48 (by decide) (by decide)) (e 49 (by decide) (by decide)) (e 50 (by decide) (by decide))⟩
theorem rXl_eq {T : tX} {F F1 : Nat → sy_d} (h : rXl T F) (e11 : (sy_i F1 11).toInt = (sy_i F 11).toInt) (e : ∀ a, 31 ≤ a → a ≤ 50 → sy_ai F1 a = sy_ai F a) : rXl T F1 := rX_eq h (by rw [fl_s, fl_s, e11]) (fun a h1 h2 => by rw [fl_a (by omega), fl_a (by omega)]; exact e a h1 h2)
/-- the side that was read becomes the live one -/
theorem rXl_of {T : tX} {F F1 : Nat → sy_d} (h : rX T F) (e11 : (sy_i F1 11).toInt = (sy_i F 12).toInt) (e : ∀ a, 31 ≤ a → a ≤ 50 → sy_ai F1 a = sy_ai F a) : rXl T F1 := rX_eq h (by rw [fl_s, e11]; rfl) (fun a h1 h2 => by rw [fl_a (by omega)]; exact e a h1 h2)
theorem r3_o {F F1 : Nat → sy_d} {c a w : Nat} {l : List t3} (h : r3_ F c a w l) (es : sdf F1 = sdf F) (hl : ix F c (sdf F) ≤ w) (hc : ix F1 c (sdf F) = ix F c (sdf F)) (ho : ∀ i : Nat, w * sdf F ≤ i → i < w * sdf F + w → ix F1 a i = ix F a i ∧ ix F1 (a + 1) i = ix F (a + 1) i ∧ ix F1 (a + 2) i = ix F (a + 2) i) : r3_ F1 c a w l := by
  obtain ⟨h1, h2⟩ := h
  refine ⟨by rw [es, hc]; exact h1, fun i v hv => ?_⟩
  have hi := (List.getElem?_eq_some_iff.mp hv).1
  obtain ⟨y1, y2, y3⟩ := ho (w * sdf F + i) (by omega) (by omega)
  rw [es, y1, y2, y3]
  exact h2 i v hv
theorem cut_o {F F1 : Nat → sy_d} {x y lo hi : Int} (h0 : lo ≤ x) (hl : 0 ≤ lo) (hy : y ≤ hi) (h : ∀ i : Nat, lo ≤ i → (i : Int) < hi → (sy_ai F1 49).getD i 0 = (sy_ai F 49).getD i 0 ∧ (sy_ai F1 50).getD i 0 = (sy_ai F 50).getD i 0) : cut_ F1 x y = cut_ F x y := by
  unfold cut_
  exact clf_eq _ (fun i h1 h2 => h i (by omega) (by omega))
theorem bq_o {F F1 : Nat → sy_d} {sd b : Nat} {nc : Int} (h : rp_br F sd nc b) (hs : s5 F F1 b) (hc : ∀ i : Nat, 420 * (sd : Int) ≤ i → (i : Int) < nc → (sy_ai F1 49).getD i 0 = (sy_ai F 49).getD i 0 ∧ (sy_ai F1 50).getD i 0 = (sy_ai F 50).getD i 0) : bq F1 b = bq F b := by
  obtain ⟨s1, s2, s3, s4, s6⟩ := hs
  obtain ⟨h1, h2⟩ := h
  unfold bq ix
  rw [s1, s2, s3, s4, s6, cut_o (F := F) (x := ((sy_ai F 47).getD b 0).toInt) h2.1 (by omega) h2.2.1 hc]
  by_cases q : (sy_ai F 44).getD b 0 = 1
  · obtain ⟨y1, y2⟩ := h1 q
    rw [if_pos q, if_pos q, cut_o (F := F) (x := ((sy_ai F 45).getD b 0).toInt) y1.1 (by omega) y1.2.1 hc, cut_o (F := F) (x := ((sy_ai F 46).getD b 0).toInt) y2.1 (by omega) y2.2.1 hc]
  · rw [if_neg q, if_neg q]
/-- while the other side is read, the live one stays -/
theorem oth_live {T : tX} {F F1 : Nat → sy_d} (hB : iv_in F iv_B4) (h12 : (sy_i F 12).toInt = 1 - (sy_i F 11).toInt) (hJ : jm_rpn F) (ho : oth F F1) (h : rXl T F) : rXl T F1 := by
  obtain ⟨o12, o11, oa, ob, oc, od, oe, of_⟩ := ho
  have c11 := nz_bx hB (k := 11) (lo := 0) (hi := 1) rfl
  have b31 := nz_ba hB (k := 31) (lo := 0) (hi := 7) rfl (sy_i F 11).toInt.toNat
  have b35 := nz_ba hB (k := 35) (lo := 0) (hi := 4) rfl (sy_i F 11).toInt.toNat
  have es : sdf (fl F1) = sdf (fl F) := by rw [fl_s, fl_s, nz_fi o11]
  obtain ⟨t1, t2, t4, t5, t7, t6⟩ := h
  have ea := oa (sy_i F 11).toInt.toNat (by omega)
  obtain ⟨e31, e35, e39, e40, e41⟩ := ea
  refine ⟨r3_o t1 es ?_ ?_ (fun i h1 h2 => ?_), r3_o t2 es ?_ ?_ (fun i h1 h2 => ?_), ?_, ?_, ?_, fun k hk => ?_⟩
  · rw [fl_s, fl_ix (by decide)]; exact b31.2
  · rw [fl_s, fl_ix (by decide), fl_ix (by decide)]; exact e31
  · rw [fl_s] at h1 h2
    rw [fl_ix (by decide), fl_ix (by decide), fl_ix (by decide), fl_ix (by decide), fl_ix (by decide), fl_ix (by decide)]
    exact ob i (by omega)
  · rw [fl_s, fl_ix (by decide)]; exact b35.2
  · rw [fl_s, fl_ix (by decide), fl_ix (by decide)]; exact e35
  · rw [fl_s] at h1 h2
    rw [fl_ix (by decide), fl_ix (by decide), fl_ix (by decide), fl_ix (by decide), fl_ix (by decide), fl_ix (by decide)]
    exact oc i (by omega)
  · rw [es, fl_s, fl_ix (by decide), e39, ← fl_ix (F := F) (by decide), ← fl_s]; exact t4
  · rw [es, fl_s, fl_ix (by decide), e40, ← fl_ix (F := F) (by decide), ← fl_s]; exact t5
  · rw [es, fl_s, fl_ix (by decide), e41, ← fl_ix (F := F) (by decide), ← fl_s]; exact t7
  · have hk6 := t6 k hk
    obtain ⟨y42, y43⟩ := od (6 * (sy_i F 11).toInt.toNat + k) (by omega)
    have z42 : ix (fl F1) 42 (6 * sdf (fl F1) + k) = ix (fl F) 42 (6 * sdf (fl F) + k) := by rw [es, fl_s, fl_ix (by decide), fl_ix (by decide)]; exact y42
    have z43 : ix (fl F1) 43 (6 * sdf (fl F1) + k) = ix (fl F) 43 (6 * sdf (fl F) + k) := by rw [es, fl_s, fl_ix (by decide), fl_ix (by decide)]; exact y43
    generalize T.2.2.2.2.2 k = o at hk6 ⊢
    cases o with
    | none =>
      show ix (fl F1) 42 _ = ix (fl F1) 43 _
      rw [z42, z43]
      exact hk6
    | some l =>
      obtain ⟨q1, q2⟩ := hk6
      refine ⟨by rw [z42, z43]; exact q1, ?_⟩
      rw [z42, z43, ← q2]
      refine bL_kp _ (fun b b1 b2 => ?_)
      have w42 : ix (fl F) 42 (6 * sdf (fl F) + k) = ix F 42 (6 * (sy_i F 11).toInt.toNat + k) := by rw [fl_s, fl_ix (by decide)]
      have w43 : ix (fl F) 43 (6 * sdf (fl F) + k) = ix F 43 (6 * (sy_i F 11).toInt.toNat + k) := by rw [fl_s, fl_ix (by decide)]
      rw [w42, w43] at b2
      rw [w42] at b1
      have hb42 := nz_ba hB (k := 42) (lo := 0) (hi := 260) rfl (6 * (sy_i F 11).toInt.toNat + k)
      have hb42 : 0 ≤ ix F 42 (6 * (sy_i F 11).toInt.toNat + k) := hb42.1
      obtain ⟨p1, p2⟩ := hJ k b hk (by show ix F 42 (6 * (sy_i F 11).toInt.toNat + k) ≤ b; omega) (by show (b : Int) < ix F 43 (6 * (sy_i F 11).toInt.toNat + k); omega)
      have hcl : ((sy_i F 11).toNatClampNeg : Int) = (sy_i F 11).toInt := by
        show (((sy_i F 11).toInt.toNat : Nat) : Int) = _
        omega
      have r : bq F1 b = bq F b := bq_o p2 (oe b (by omega)) (fun i h1 h2 => of_ i (by omega))
      have s1 : ∀ G : Nat → sy_d, bq (fl G) b = bq G b := fun G => by
        unfold bq ix cut_
        rw [fl_a (by decide), fl_a (by decide), fl_a (by decide), fl_a (by decide), fl_a (by decide), fl_a (by decide), fl_a (by decide)]
      rw [s1, s1]
      exact r
