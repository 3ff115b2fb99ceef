/-! ===== what the class has of a text; b: where the text's fields begin ===== -/
noncomputable def r3c (F : Nat → sy_d) (c a : Nat) (l : List t3) : Prop := (sy_i F c).toInt = l.length ∧ ∀ (i : Nat) (v : t3), l[i]? = some v → ix F a i = v.1 ∧ ix F (a + 1) i = v.2.1 ∧ ix F (a + 2) i = v.2.2
/-- a law that was not told -/
def pb (k : Nat) : List bRT := [(none, [if k = 1 then (0, 1) else if k = 2 ∨ k = 3 then (1, 0) else (0, 0)])]
noncomputable def rLc (b : Nat) (F : Nat → sy_d) (k : Nat) (bs : List bRT) : Prop := 0 ≤ ix F (b + 13) k ∧ ix F (b + 13) k + (lcs k (ix F (b + 13) k).toNat bs).length ≤ (sy_i F (b + 5)).toInt ∧ clc (sy_ai F (b + 14)) (ix F (b + 13) k).toNat (lcs k (ix F (b + 13) k).toNat bs).length = lcs k (ix F (b + 13) k).toNat bs
noncomputable def rXc (b : Nat) (T : tX) (F : Nat → sy_d) : Prop := r3c F b (b + 6) T.1 ∧ r3c F (b + 1) (b + 10) T.2.1 ∧ (sy_i F (b + 2)).toInt = T.2.2.1 ∧ (sy_i F (b + 3)).toInt = T.2.2.2.1 ∧ (sy_i F (b + 4)).toInt = T.2.2.2.2.1 ∧ ∀ k, k < 6 → rLc b F k ((T.2.2.2.2.2 k).getD (pb k))
section XC
variable {b : Nat} {F F' : Nat → sy_d}
theorem ix_c {a : Nat} (h : F' a = F a) (i : Nat) : ix F' a i = ix F a i := by unfold ix; rw [nz_fa h]
theorem r3c_eq {c a : Nat} {l : List t3} (h : r3c F c a l) (e : F' c = F c) (e0 : F' a = F a) (e1 : F' (a + 1) = F (a + 1)) (e2 : F' (a + 2) = F (a + 2)) : r3c F' c a l := by
  refine ⟨by rw [nz_fi e]; exact h.1, fun i v hv => ?_⟩
  rw [ix_c e0, ix_c e1, ix_c e2]
  exact h.2 i v hv
theorem r3c_push {c a : Nat} {l : List t3} (h : r3c F c a l) (n : nbC c a F F') : r3c F' c a (l ++ [(vg F (tg F + 2), vg F (tg F + 3), vg F (tg F + 4))]) := by
  obtain ⟨-, n1, x, y, z, hx, hy, hz, e0, e1, e2⟩ := n
  obtain ⟨h1, h2⟩ := h
  refine ⟨by rw [n1, h1, List.length_append]; rfl, fun i v hv => ?_⟩
  have hi := (List.getElem?_eq_some_iff.mp hv).1
  rw [List.length_append] at hi
  unfold ix
  rw [e0, e1, e2, h1]
  by_cases q : i = l.length
  · subst q
    rw [List.getElem?_append_right (Nat.le_refl _), Nat.sub_self] at hv
    have hv : (vg F (tg F + 2), vg F (tg F + 3), vg F (tg F + 4)) = v := Option.some.inj hv
    rw [← hv]
    refine ⟨?_, ?_, ?_⟩ <;> (rw [jm_upd_at, if_pos (by omega)]; assumption)
  · have hi2 : i < l.length := by
      simp only [List.length_cons, List.length_nil] at hi
      omega
    rw [List.getElem?_append_left hi2] at hv
    obtain ⟨y1, y2, y3⟩ := h2 i v hv
    refine ⟨?_, ?_, ?_⟩ <;> (rw [jm_upd_at, if_neg (by omega)]; assumption)
theorem rLc_eq {k : Nat} {bs : List bRT} (h : rLc b F k bs) (e13 : ix F' (b + 13) k = ix F (b + 13) k) (e5 : (sy_i F (b + 5)).toInt ≤ (sy_i F' (b + 5)).toInt) (e14 : ∀ i : Nat, (i : Int) < (sy_i F (b + 5)).toInt → (sy_ai F' (b + 14)).getD i 0 = (sy_ai F (b + 14)).getD i 0) : rLc b F' k bs := by
  unfold rLc at h ⊢
  rw [e13]
  refine ⟨h.1, by have := h.2.1; omega, ?_⟩
  rw [clc_eq (a := sy_ai F (b + 14)) _ (fun i _ h2 => e14 i (by have := h.2.1; have := h.1; omega))]
  exact h.2.2
theorem rXc_eq {T : tX} (h : rXc b T F) (e : ∀ j, b ≤ j → j < b + 15 → F' j = F j) : rXc b T F' := by
  obtain ⟨h1, h2, h3, h4, h5, h6⟩ := h
  refine ⟨r3c_eq h1 (e _ (by omega) (by omega)) (e _ (by omega) (by omega)) (e _ (by omega) (by omega)) (e _ (by omega) (by omega)), r3c_eq h2 (e _ (by omega) (by omega)) (e _ (by omega) (by omega)) (e _ (by omega) (by omega)) (e _ (by omega) (by omega)), by rw [nz_fi (e (b + 2) (by omega) (by omega))]; exact h3, by rw [nz_fi (e (b + 3) (by omega) (by omega))]; exact h4, by rw [nz_fi (e (b + 4) (by omega) (by omega))]; exact h5, fun k hk => rLc_eq (h6 k hk) (ix_c (e _ (by omega) (by omega)) k) (Int.le_of_eq (nz_fi (e _ (by omega) (by omega))).symm) (fun i _ => by rw [nz_fa (e (b + 14) (by omega) (by omega))])⟩
theorem rXc_fr {T : tX} (hk : kg F (tg F) = 20) (h : rXc b T F) (n : nbC b (b + 6) F F') (e : ∀ j, b < j → j < b + 15 → (j < b + 6 ∨ b + 8 < j) → F' j = F j) : rXc b (tU (kg F) (vg F) (tg F) T) F' := by
  obtain ⟨h1, h2, h3, h4, h5, h6⟩ := h
  unfold tU
  rw [if_pos hk]
  exact ⟨r3c_push h1 n, r3c_eq h2 (e _ (by omega) (by omega) (by omega)) (e _ (by omega) (by omega) (by omega)) (e _ (by omega) (by omega) (by omega)) (e _ (by omega) (by omega) (by omega)), by rw [nz_fi (e (b + 2) (by omega) (by omega) (by omega))]; exact h3, by rw [nz_fi (e (b + 3) (by omega) (by omega) (by omega))]; exact h4, by rw [nz_fi (e (b + 4) (by omega) (by omega) (by omega))]; exact h5, fun k hk => rLc_eq (h6 k hk) (ix_c (e _ (by omega) (by omega) (by omega)) k) (Int.le_of_eq (nz_fi (e _ (by omega) (by omega) (by omega))).symm) (fun i _ => by rw [nz_fa (e (b + 14) (by omega) (by omega) (by omega))])⟩
theorem rXc_bu {T : tX} (hk : kg F (tg F) = 21) (h : rXc b T F) (n : nbC (b + 1) (b + 10) F F') (e : ∀ j, b ≤ j → j < b + 15 → j ≠ b + 1 → (j < b + 10 ∨ b + 12 < j) → F' j = F j) : rXc b (tU (kg F) (vg F) (tg F) T) F' := by
  obtain ⟨h1, h2, h3, h4, h5, h6⟩ := h
  unfold tU
  rw [if_neg (by omega), if_pos hk]
  exact ⟨r3c_eq h1 (e _ (by omega) (by omega) (by omega) (by omega)) (e _ (by omega) (by omega) (by omega) (by omega)) (e _ (by omega) (by omega) (by omega) (by omega)) (e _ (by omega) (by omega) (by omega) (by omega)), r3c_push h2 n, by rw [nz_fi (e (b + 2) (by omega) (by omega) (by omega) (by omega))]; exact h3, by rw [nz_fi (e (b + 3) (by omega) (by omega) (by omega) (by omega))]; exact h4, by rw [nz_fi (e (b + 4) (by omega) (by omega) (by omega) (by omega))]; exact h5, fun k hk => rLc_eq (h6 k hk) (ix_c (e _ (by omega) (by omega) (by omega) (by omega)) k) (Int.le_of_eq (nz_fi (e _ (by omega) (by omega) (by omega) (by omega))).symm) (fun i _ => by rw [nz_fa (e (b + 14) (by omega) (by omega) (by omega) (by omega))])⟩
theorem rXc_st {T : tX} {a : Int} (ha : 8 ≤ a ∧ a ≤ 10) (hk : kg F (tg F) = a + 20) (h : rXc b T F) (n : stC (b + 2) a F F') (e : ∀ j, b ≤ j → j < b + 15 → (j < b + 2 ∨ b + 4 < j) → F' j = F j) : rXc b (tU (kg F) (vg F) (tg F) T) F' := by
  obtain ⟨h1, h2, h3, h4, h5, h6⟩ := h
  obtain ⟨-, n1, n2, n3⟩ := n
  have n2 : (sy_i F' (b + 3)).toInt = (if a = 9 then vg F (tg F + 1) else (sy_i F (b + 3)).toInt) := n2
  have n3 : (sy_i F' (b + 4)).toInt = (if a = 10 then vg F (tg F + 1) else (sy_i F (b + 4)).toInt) := n3
  have c1 : r3c F' b (b + 6) T.1 := r3c_eq h1 (e _ (by omega) (by omega) (by omega)) (e _ (by omega) (by omega) (by omega)) (e _ (by omega) (by omega) (by omega)) (e _ (by omega) (by omega) (by omega))
  have c2 : r3c F' (b + 1) (b + 10) T.2.1 := r3c_eq h2 (e _ (by omega) (by omega) (by omega)) (e _ (by omega) (by omega) (by omega)) (e _ (by omega) (by omega) (by omega)) (e _ (by omega) (by omega) (by omega))
  have c6 : ∀ k, k < 6 → rLc b F' k ((T.2.2.2.2.2 k).getD (pb k)) := fun k hk => rLc_eq (h6 k hk) (ix_c (e _ (by omega) (by omega) (by omega)) k) (Int.le_of_eq (nz_fi (e _ (by omega) (by omega) (by omega))).symm) (fun i _ => by rw [nz_fa (e (b + 14) (by omega) (by omega) (by omega))])
  unfold tU
  rw [if_neg (by omega), if_neg (by omega)]
  by_cases q8 : a = 8
  · rw [if_pos (by omega)]
    rw [if_pos q8] at n1
    rw [if_neg (by omega)] at n2 n3
    exact ⟨c1, c2, n1, n2.trans h4, n3.trans h5, c6⟩
  · rw [if_neg (by omega)]
    rw [if_neg q8] at n1
    by_cases q9 : a = 9
    · rw [if_pos (by omega)]
      rw [if_pos q9] at n2
      rw [if_neg (by omega)] at n3
      exact ⟨c1, c2, n1.trans h3, n2, n3.trans h5, c6⟩
    · rw [if_neg (by omega), if_pos (by omega)]
      rw [if_neg q9] at n2
      rw [if_pos (by omega)] at n3
      exact ⟨c1, c2, n1.trans h3, n2.trans h4, n3, c6⟩
theorem zlr_r {K V : Nat → Int} {t t' : Nat} {bs : List bRT} (h : zlr K V t = .inr (t', bs)) : lwC (zLw K V (t + 1)) = bs := by
  unfold zlr at h
  cases hh : sG t with
  | inl x =>
    rw [hh] at h
    cases h
  | inr u =>
    rw [hh] at h
    have hu := sG_r hh
    subst hu
    have h : zLw K V (t + 1) = .inr (t', bs) := h
    rw [h]
    rfl
theorem rXc_lw {T : tX} {a : Int} (ha : 0 ≤ a ∧ a ≤ 5) (h0 : 0 ≤ (sy_i F (b + 5)).toInt) (hk : kg F (tg F) = a + 22) (h : rXc b T F) (n : plC (b + 5) (b + 14) (b + 13) (zlr (kg F) (vg F) (tg F)) a F F') (e : ∀ j, b ≤ j → j < b + 15 → j ≠ b + 5 → j ≠ b + 13 → j ≠ b + 14 → F' j = F j) : rXc b (tU (kg F) (vg F) (tg F) T) F' := by
  obtain ⟨h1, h2, h3, h4, h5, h6⟩ := h
  obtain ⟨-, bs, n1, n2, n3⟩ := n
  have hl := zlr_r n1
  unfold tU
  rw [if_neg (by omega), if_neg (by omega), if_neg (by omega), if_neg (by omega), if_neg (by omega), hl]
  refine ⟨r3c_eq h1 (e _ (by omega) (by omega) (by omega) (by omega) (by omega)) (e _ (by omega) (by omega) (by omega) (by omega) (by omega)) (e _ (by omega) (by omega) (by omega) (by omega) (by omega)) (e _ (by omega) (by omega) (by omega) (by omega) (by omega)), r3c_eq h2 (e _ (by omega) (by omega) (by omega) (by omega) (by omega)) (e _ (by omega) (by omega) (by omega) (by omega) (by omega)) (e _ (by omega) (by omega) (by omega) (by omega) (by omega)) (e _ (by omega) (by omega) (by omega) (by omega) (by omega)), by rw [nz_fi (e (b + 2) (by omega) (by omega) (by omega) (by omega) (by omega))]; exact h3, by rw [nz_fi (e (b + 3) (by omega) (by omega) (by omega) (by omega) (by omega))]; exact h4, by rw [nz_fi (e (b + 4) (by omega) (by omega) (by omega) (by omega) (by omega))]; exact h5, fun k hk6 => ?_⟩
  obtain ⟨m1, m2, m3, m4⟩ := n2
  show rLc b F' k ((if (k : Int) = kg F (tg F) - 22 then some bs else T.2.2.2.2.2 k).getD (pb k))
  by_cases q : (k : Int) = kg F (tg F) - 22
  · rw [if_pos q]
    show rLc b F' k bs
    have ek : (k : Int) = a := by omega
    have es : ix F' (b + 13) k = (sy_i F (b + 5)).toInt := by
      unfold ix
      rw [n3, jm_upd_at, if_pos (by omega)]
    unfold rLc
    rw [es, ek]
    exact ⟨h0, by omega, m4⟩
  · rw [if_neg q]
    refine rLc_eq (h6 k hk6) ?_ (by omega) m3
    unfold ix
    rw [n3, jm_upd_at, if_neg (by omega)]
end XC
noncomputable def rrZ (K V : Nat → Int) (N : Nat → Int64) (P : Nat → Int) (b : Nat) (RR : sE ⊕ (sT × tX)) (good n : Int) (F : Nat → sy_d) : Prop := (good ≠ 0 → ∃ x T, rcl P b (b + 1) x F ∧ RR = zRun K V N (401 - n).toNat x T ∧ rXc b T F ∧ (sy_i F (b + 5)).toInt ≤ 12 + tg F) ∧ (good = 0 → RR = .inl ((sy_i F 34).toInt, tg F))
theorem rrZ_on {K V : Nat → Int} {N : Nat → Int64} {P : Nat → Int} {b : Nat} {RR : sE ⊕ (sT × tX)} {n : Int} {x : sT} {T : tX} {F3 : Nat → sy_d} {y : Int32} (h0 : 0 ≤ n) (h4 : n ≤ 400) (hk : K x.1 ≠ 0) (hr : RR = zRun K V N (401 - n).toNat x T) (h : ac (sOne K V N x) (rcl P b (b + 1)) y F3) (hc : y = 1 → rXc b (tU K V x.1 T) F3 ∧ (sy_i F3 (b + 5)).toInt ≤ 12 + tg F3) : rrZ K V N P b RR y.toInt (n + 1) F3 := by
  have e : RR = sB (sOne K V N x) (fun x' => zRun K V N (401 - (n + 1)).toNat x' (tU K V x.1 T)) := by
    rw [hr, show (401 - n).toNat = (401 - (n + 1)).toNat + 1 by omega]
    show (if K x.1 = 0 then _ else _) = _
    rw [if_neg hk]
  obtain ⟨y0, y1⟩ := x01' h
  refine ⟨fun q => ?_, fun q => ?_⟩
  · obtain ⟨a, h1, h2⟩ := y1 q
    obtain ⟨c1, c2⟩ := hc (ac_1 h q)
    exact ⟨a, _, h2, by rw [e, h1]; rfl, c1, c2⟩
  · rw [e, y0 q]
    rfl
theorem rrZ_eq {K V : Nat → Int} {N : Nat → Int64} {P : Nat → Int} {b : Nat} {RR : sE ⊕ (sT × tX)} {g g' n n' : Int} {F F1 : Nat → sy_d} (h : rrZ K V N P b RR g n F) (hg : g' = g) (hn : n' = n) (e33 : (sy_i F1 33).toInt = (sy_i F 33).toInt) (e34 : (sy_i F1 34).toInt = (sy_i F 34).toInt) (e36 : (sy_i F1 36).toInt = (sy_i F 36).toInt) (e37 : (sy_i F1 37).toInt = (sy_i F 37).toInt) (e38 : (sy_i F1 38).toInt = (sy_i F 38).toInt) (e43 : F1 43 = F 43) (e : ∀ j, b ≤ j → j < b + 15 → F1 j = F j) : rrZ K V N P b RR g' n' F1 := by
  subst hg hn
  refine ⟨fun q => ?_, fun q => ?_⟩
  · obtain ⟨x, T, a, z, c, d⟩ := h.1 q
    exact ⟨x, T, rcl_eq a e33 e36 e37 e38 (nz_fi (e _ (by omega) (by omega))) (nz_fi (e _ (by omega) (by omega))) e43, z, rXc_eq c e, by rw [nz_fi (e (b + 5) (by omega) (by omega)), tg_eq e33]; exact d⟩
  · rw [e34, tg_eq e33]
    exact h.2 q
