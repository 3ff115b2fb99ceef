/-! ===== the class cuts a text into tokens (shape 1) ===== -/
section CU1
variable {Ls : Nat} {xs : Nat → Int32} (X1 X2 : List jm_c)
theorem k1wk_L (F0 : Nat → sy_d) (x : Int64) (hw : wd F0) : ∀ (m : Nat) (F : Nat → sy_d) (k : Nat), 23 - k < m → k ≤ 23 → gc [] F0 F → sy_l F 82 = x → (sy_i F 83).toInt = k → (∀ j, j < k → wg F0 j ≠ x) →
    hd_W Ls xs 2 jm_M62 (fun v G => ∃ (y : Int32) (F' : Nat → sy_d), v = some (.int y) ∧ G = sy_dh F' X1 X2 (iv_H 1) ∧ gc [] F0 F' ∧ 0 ≤ y.toInt ∧ y.toInt ≤ 23 ∧ km y.toInt = uW (wg F0) x 23) (2, sy_dL F [some (.inl (.ref 31)), some (.inr (.inr 82)), none, some (.inr (.inl 83))], sy_dS F [], sy_dh F X1 X2 (iv_H 1), 0, 0) := by
  intro m
  induction m with
  | zero => intro F k hm; omega
  | succ m ih =>
    intro F k hm hk hG e82 e83 hn
    have hc : (lg_cmp ((sy_al F 42).getD (sy_i F 83).toInt.toNat 0) (sy_l F 82)).toInt = 0 ↔ wg F0 k = x := by
      rw [lgq, e82, nz_fl (hG.2 42 (by decide) (by decide)), e83, Int.toNat_natCast]
      exact Iff.rfl
    refine k1wk_2 (by decide) F X1 X2 hG.1 ?_ ?_ ?_ ?_
    · omega
    · intro q1 F1 hb g
      refine ⟨_, F1, rfl, rfl, hG.trans ⟨hb, g⟩ (by decide), by decide, by decide, ?_⟩
      rw [uW_no 23 (fun j hj => hn j (by omega))]
      decide
    · intro q1 q2 F1 hb g f82 f83
      refine ih F1 (k + 1) (by omega) (by omega) (hG.trans ⟨hb, g⟩ (by decide)) (f82.trans e82) (by omega) (fun j hj => ?_)
      by_cases q : j = k
      · rw [q]
        exact fun z => q2 (hc.mpr z)
      · exact hn j (by omega)
    · intro q1 q2 F1 hb g
      refine ⟨_, F1, rfl, rfl, hG.trans ⟨hb, g⟩ (by decide), by omega, by omega, ?_⟩
      rw [uW_at hw (hc.mp q2) 23 (by omega) (Nat.le_refl _), km_r (by omega) (by omega)]
      omega
theorem k1wk_T (F : Nat → sy_d) (hB : iv_in F iv_B0) (hw : wd F) (x : Int64) : jm_T Ls xs 2 jm_M62 [.ref 31, .long x] (sy_dh F X1 X2 (iv_H 1)) 0 0 (fun v G => ∃ (y : Int32) (F' : Nat → sy_d), v = some (.int y) ∧ G = sy_dh F' X1 X2 (iv_H 1) ∧ gc [] F F' ∧ 0 ≤ y.toInt ∧ y.toInt ≤ 23 ∧ km y.toInt = uW (wg F) x 23) := by
  refine nyy_T (by decide) F (fun _ => .inl (.long x)) X1 X2 (A := [.inl (.ref 31), .inr (.inr 82)]) jm_ok62 (by decide) rfl ?_
  refine k1wk_0 (by decide) (ny F (fun _ => .inl (.long x))) X1 X2 (hd_iveq0 hB ny_lt) ?_
  intro F1 hb g f82 f83
  exact k1wk_L X1 X2 F x hw 24 F1 0 (by omega) (by omega) ⟨hb, fun j hj hn => (g j hj hn).trans (ny_lt j hj)⟩ (f82.trans rfl) f83 (fun j hj => absurd hj (Nat.not_lt_zero _))
/-- a number -/
theorem k1nu_L (F0 : Nat → sy_d) (hJ : jx_ok F0) {n a e : Nat} (hn : n ≤ 400) (ha : a < e) (he : e ≤ 2000) (hL : uL (bg F0 e a) = false) (hD : uD (bg F0 e a) = true) : ∀ (m : Nat) (F : Nat → sy_d) (p : Nat), e - p < m → a ≤ p → p ≤ e → gc [] F0 F → (sy_i F 82).toInt = n → (sy_i F 83).toInt = a → (sy_i F 84).toInt = e → (sy_i F 85).toInt = p → uR uD (bg F0 e) e a = uR uD (bg F0 e) e p → (p - a ≤ 4 → (sy_l F 86).toInt = uF gd (bg F0 e) a (p - a) 0 ∧ 0 ≤ (sy_l F 86).toInt ∧ (sy_l F 86).toInt ≤ 9999 ∧ (p = a → (sy_l F 86).toInt = 0) ∧ (p = a + 1 → (sy_l F 86).toInt ≤ 9) ∧ (p = a + 2 → (sy_l F 86).toInt ≤ 99) ∧ (p = a + 3 → (sy_l F 86).toInt ≤ 999)) →
    hd_W Ls xs 3 jm_M61 (coQ 1 X1 X2 F0 n a e) (6, sy_dL F [some (.inl (.ref 31)), some (.inr (.inl 82)), some (.inl (.ref 9)), some (.inr (.inl 83)), some (.inr (.inl 84)), some (.inr (.inl 85)), some (.inr (.inr 86)), none], sy_dS F [], sy_dh F X1 X2 (iv_H 1), 0, 0) := by
  intro m
  induction m with
  | zero => intro F p hm; omega
  | succ m ih =>
    intro F p hm hap hpe hG e82 e83 e84 e85 hr hv
    have hLn : ¬ (uL (bg F0 e a) = true) := by rw [hL]; decide
    have hby := fun q : p < e => bg_c (F0 := F0) hG.1 (hG.2 2 (by decide) (by decide)) e85 q
    have i39 : sy_ai F 39 = sy_ai F0 39 := nz_fa (hG.2 39 (by decide) (by decide))
    have i41 : sy_al F 41 = sy_al F0 41 := nz_fl (hG.2 41 (by decide) (by decide))
    have go2 : ∀ F1 : Nat → sy_d, uR uD (bg F0 e) e a = p → p - a ≤ 4 → iv_in F1 iv_B0 → (∀ j, j < 82 → j ∉ ([39, 41] : List Nat) → F1 j = F j) → sy_ai F1 39 = jm_upd (sy_ai F 39) ((sy_i F 82).toInt).toNat 24 → sy_al F1 41 = jm_updL (sy_al F 41) ((sy_i F 82).toInt).toNat (sy_l F 86) → coQ 1 X1 X2 F0 n a e (some (.int (sy_i F 85))) (sy_dh F1 X1 X2 (iv_H 1)) := fun F1 q q2 hb g a39 a41 => by
      obtain ⟨v1, v2, v3, -⟩ := hv q2
      rw [e82, Int.toNat_natCast, i39] at a39
      rw [e82, Int.toNat_natCast, i41] at a41
      have hK : uK (bg F0 e) e (wg F0) a = 2 := by unfold uK; rw [if_neg (by omega), if_neg hLn, if_pos hD, q, if_neg (by omega)]
      refine ⟨_, F1, rfl, rfl, co_mk ⟨hb, fun j hj hn => (g j hj hn).trans (hG.2 j hj (by simp))⟩ a39 a41 hJ (fun _ => ⟨v2, v3⟩) ?_ (by rw [hK]; decide) (fun z => absurd (hK.symm.trans z) (by decide)) (fun _ => ?_) (fun z => absurd (hK.symm.trans z) (by decide))⟩
      · unfold uN
        rw [if_neg (by omega), if_neg hLn, if_pos hD, q]
        exact e85
      · rw [t32 v2 v3, q]
        exact v1
    have goB : ∀ F1 : Nat → sy_d, uR uD (bg F0 e) e a = p → 4 < p - a → iv_in F1 iv_B0 → (∀ j, j < 82 → j ∉ ([39, 41] : List Nat) → F1 j = F j) → sy_ai F1 39 = jm_upd (sy_ai F 39) ((sy_i F 82).toInt).toNat 25 → sy_al F1 41 = jm_updL (sy_al F 41) ((sy_i F 82).toInt).toNat (sy_l F 86) → coQ 1 X1 X2 F0 n a e (some (.int (sy_i F 85))) (sy_dh F1 X1 X2 (iv_H 1)) := fun F1 q q2 hb g a39 a41 => by
      rw [e82, Int.toNat_natCast, i39] at a39
      rw [e82, Int.toNat_natCast, i41] at a41
      have hK : uK (bg F0 e) e (wg F0) a = 3 := by unfold uK; rw [if_neg (by omega), if_neg hLn, if_pos hD, q, if_pos (by omega)]
      refine ⟨_, F1, rfl, rfl, co_mk ⟨hb, fun j hj hn => (g j hj hn).trans (hG.2 j hj (by simp))⟩ a39 a41 hJ (fun z => absurd z (by decide)) ?_ (by rw [hK]; decide) (fun _ => by decide) (fun z => absurd (hK.symm.trans z) (by decide)) (fun z => absurd (hK.symm.trans z) (by decide))⟩
      unfold uN
      rw [if_neg (by omega), if_neg hLn, if_pos hD, q]
      exact e85
    have hNe : e ≤ p ∨ uD (bg F0 e p) = false → uR uD (bg F0 e) e a = p := fun q => hr.trans (uR_e q)
    refine k1nu_6 (by decide) F X1 X2 hG.1 ?_ ?_ ?_ ?_ ?_ ?_ ?_ ?_ ?_ ?_ ?_
    · omega
    · omega
    · omega
    · omega
    · intro q1 q2 F1 hb g a39 a40 a41
      exact go2 F1 (hNe (Or.inl (by omega))) (by omega) hb g a39 a41
    · intro q1 q2 F1 hb g a39 a40 a41
      exact goB F1 (hNe (Or.inl (by omega))) (by omega) hb g a39 a41
    · intro q0 q1 q2 F1 hb g a39 a40 a41
      have hh := hby (by omega)
      exact go2 F1 (hNe (Or.inr (uD_n.mpr (by omega)))) (by omega) hb g a39 a41
    · intro q0 q1 q2 F1 hb g a39 a40 a41
      have hh := hby (by omega)
      exact goB F1 (hNe (Or.inr (uD_n.mpr (by omega)))) (by omega) hb g a39 a41
    · intro q0 q1 q2 q3 F1 hb g a39 a40 a41
      have hh := hby (by omega)
      exact go2 F1 (hNe (Or.inr (uD_n.mpr (by omega)))) (by omega) hb g a39 a41
    · intro q0 q1 q2 q3 F1 hb g a39 a40 a41
      have hh := hby (by omega)
      exact goB F1 (hNe (Or.inr (uD_n.mpr (by omega)))) (by omega) hb g a39 a41
    · intro q0 q1 q2 F1 hb g a39 a40 a41 f82 f83 f84 f85 f86
      have hh := hby (by omega)
      refine ih F1 (p + 1) (by omega) (by omega) (by omega) (hG.trans ⟨hb, g⟩ (by decide)) (by omega) (by omega) (by omega) (by omega) (hr.trans (uR_s (by omega) (uD_i.mpr (by omega)))) (fun z => ?_)
      obtain ⟨v1, v2, v3, v4, v5, v6, v7⟩ := hv (by omega)
      have hm := cn_num v2 (by omega) q1 q2
      rw [f86, show p + 1 - a = (p - a) + 1 by omega, uF_s, ← v1, show a + (p - a) = p by omega]
      show _ = 10 * _ + (_ - 48) ∧ _
      omega
theorem k1nu_T (F : Nat → sy_d) (hB : iv_in F iv_B0) (hJ : jx_ok F) (n a e : Int32) {n' a' e' : Nat} (en : n.toInt = n') (ea : a.toInt = a') (ee : e.toInt = e') (hn : n' ≤ 400) (ha : a' < e') (he : e' ≤ 2000) (hL : uL (bg F e' a') = false) (hD : uD (bg F e' a') = true) : jm_T Ls xs 3 jm_M61 [.ref 31, .int n, .ref 9, .int a, .int e] (sy_dh F X1 X2 (iv_H 1)) 0 0 (coQ 1 X1 X2 F n' a' e') := by
  refine nyy_T (by decide) F (fun j => .inl (.int (if j = 0 then n else if j = 1 then a else e))) X1 X2 (A := [.inl (.ref 31), .inr (.inl 82), .inl (.ref 9), .inr (.inl 83), .inr (.inl 84)]) jm_ok61 (by decide) rfl ?_
  refine k1nu_0 (by decide) (ny F (fun j => .inl (.int (if j = 0 then n else if j = 1 then a else e)))) X1 X2 (hd_iveq0 hB ny_lt) ?_
  intro F1 hb g a39 a40 a41 f82 f83 f84 f85 f86
  have z : (0 : Int64).toInt = 0 := by decide
  refine k1nu_L X1 X2 F hJ hn ha he hL hD (e' + 1) F1 a' (by omega) (by omega) (by omega) ⟨hb, fun j hj hn => (g j hj hn).trans (ny_lt j hj)⟩ (f82.trans en) (f83.trans ea) (f84.trans ee) (f85.trans ea) rfl (fun _ => ?_)
  rw [f86, z, Nat.sub_self, uF_0]
  omega
/-- a word -/
theorem k1wo_L (F0 : Nat → sy_d) (hJ : jx_ok F0) (hw : wd F0) {n a e : Nat} (hn : n ≤ 400) (ha : a < e) (he : e ≤ 2000) (hL : uL (bg F0 e a) = true) : ∀ (m : Nat) (F : Nat → sy_d) (p : Nat), e - p < m → a ≤ p → p ≤ e → gc [] F0 F → (sy_i F 82).toInt = n → (sy_i F 83).toInt = a → (sy_i F 84).toInt = e → (sy_i F 85).toInt = p → uR uL (bg F0 e) e a = uR uL (bg F0 e) e p → sy_l F 86 = uF gl (bg F0 e) a (p - a) 0 →
    hd_W Ls xs 4 jm_M60 (coQ 1 X1 X2 F0 n a e) (6, sy_dL F [some (.inl (.ref 31)), some (.inr (.inl 82)), some (.inl (.ref 9)), some (.inr (.inl 83)), some (.inr (.inl 84)), some (.inr (.inl 85)), some (.inr (.inr 86)), none], sy_dS F [], sy_dh F X1 X2 (iv_H 1), 0, 0) := by
  intro m
  induction m with
  | zero => intro F p hm; omega
  | succ m ih =>
    intro F p hm hap hpe hG e82 e83 e84 e85 hr hv
    have hby := fun q : p < e => bg_c (F0 := F0) hG.1 (hG.2 2 (by decide) (by decide)) e85 q
    have i39 : sy_ai F 39 = sy_ai F0 39 := nz_fa (hG.2 39 (by decide) (by decide))
    have i41 : sy_al F 41 = sy_al F0 41 := nz_fl (hG.2 41 (by decide) (by decide))
    have hN : uR uL (bg F0 e) e a = p → ((sy_i F 85).toInt : Int) = (uN (bg F0 e) e a : Nat) := fun q => by
      unfold uN
      rw [if_neg (by omega), if_pos hL, q]
      exact e85
    have go2 : ∀ F1 : Nat → sy_d, uR uL (bg F0 e) e a = p → p - a ≤ 8 → iv_in F1 iv_B0 → (∀ j, j < 82 → j ∉ ([41] : List Nat) → F1 j = F j) → sy_al F1 41 = jm_updL (sy_al F 41) ((sy_i F 82).toInt).toNat (sy_l F 86) → (sy_i F1 82).toInt = (sy_i F 85).toInt → sy_l F1 83 = sy_l F 86 → (sy_i F1 84).toInt = (sy_i F 82).toInt → hd_W Ls xs 4 jm_M60 (coQ 1 X1 X2 F0 n a e) (70, sy_dL F1 [none, none, none, none, none, some (.inr (.inl 82)), none, none], sy_dS F1 [.inr (.inr 83), .inl (.ref 31), .inr (.inl 84), .inl (.ref 32)], sy_dh F1 X1 X2 (iv_H 1), 0, 0) := fun F1 q q2 hb g a41 f82 f83 f84 => by
      have hG1 : gc [41] F0 F1 := ⟨hb, fun j hj hn => (g j hj hn).trans (hG.2 j hj (by simp))⟩
      have hw1 : wd F1 := wd_eq (hG1.2 42 (by decide) (by decide)) hw
      have ew : wg F1 = wg F0 := wg_eq (hG1.2 42 (by decide) (by decide))
      refine hd_calI (R := fun y F' => gc [] F1 F' ∧ 0 ≤ y.toInt ∧ y.toInt ≤ 23 ∧ km y.toInt = uW (wg F1) (sy_l F1 83) 23) (nh := 82) (nv := 85) (s := 1) (s1 := 1) (d1 := 2) (M1 := jm_M62) (As := [.inl (.ref 31), .inr (.inr 83)]) (rest := [.inr (.inl 84), .inl (.ref 32)]) jm_ok60 rfl rfl (by decide) (by decide +kernel) (k1wk_T X1 X2 F1 hb hw1 _) (fun F3 F' y hR p1 p2 p3 => ?_)
      obtain ⟨r1, r2, r3, r4⟩ := hR
      have f82' := nz_fi (p2 82 (by decide) (by decide))
      have f84' := nz_fi (p2 84 (by decide) (by decide))
      have f85' : sy_i F3 85 = y := zz_i p3
      have g3 : ∀ j, j < 82 → F3 j = F1 j := fun j hj => (p1 j hj).trans (r1.2 j hj (by simp))
      refine k1wo_73 (by decide) F3 X1 X2 (hd_iveq0 r1.1 p1) (by omega) ?_
      intro F4 hb4 g4 a39' a40' a41'
      rw [nz_fa (g3 39 (by decide)), nz_fa (hG1.2 39 (by decide) (by decide)), f84', f84, e82, Int.toNat_natCast, f85'] at a39'
      rw [nz_fl (g3 41 (by decide)), a41, i41, e82, Int.toNat_natCast] at a41'
      have hK : uK (bg F0 e) e (wg F0) a = km y.toInt := by unfold uK; rw [if_neg (by omega), if_pos hL, q, if_neg (by omega), r4, ew, f83, hv]
      have hb0 := uW_b (w := wg F1) (x := sy_l F1 83) 23
      refine ⟨_, F4, rfl, rfl, co_mk ⟨hb4, fun j hj hn => ?_⟩ a39' a41' hJ (fun z => by omega) ?_ hK.symm (fun z => ?_) (fun z => ?_) (fun _ => by rw [q]; exact hv)⟩
      · have n39 : j ∉ ([39] : List Nat) := fun q => hn (by revert q; simp; omega)
        have n41 : j ∉ ([41] : List Nat) := fun q => hn (by revert q; simp; omega)
        exact (g4 j hj n39).trans ((g3 j hj).trans (hG1.2 j hj n41))
      · rw [f82', f82]
        exact hN q
      · rw [hK, r4] at z; exact absurd z hb0.2.2.1
      · rw [hK, r4] at z; exact absurd z hb0.2.2.2
    have goB : ∀ F1 : Nat → sy_d, uR uL (bg F0 e) e a = p → 8 < p - a → iv_in F1 iv_B0 → (∀ j, j < 82 → j ∉ ([39, 41] : List Nat) → F1 j = F j) → sy_ai F1 39 = jm_upd (sy_ai F 39) ((sy_i F 82).toInt).toNat 25 → sy_al F1 41 = jm_updL (sy_al F 41) ((sy_i F 82).toInt).toNat (sy_l F 86) → coQ 1 X1 X2 F0 n a e (some (.int (sy_i F 85))) (sy_dh F1 X1 X2 (iv_H 1)) := fun F1 q q2 hb g a39 a41 => by
      rw [e82, Int.toNat_natCast, i39] at a39
      rw [e82, Int.toNat_natCast, i41] at a41
      have hK : uK (bg F0 e) e (wg F0) a = 3 := by unfold uK; rw [if_neg (by omega), if_pos hL, q, if_pos (by omega)]
      exact ⟨_, F1, rfl, rfl, co_mk ⟨hb, fun j hj hn => (g j hj hn).trans (hG.2 j hj (by simp))⟩ a39 a41 hJ (fun z => absurd z (by decide)) (hN q) (by rw [hK]; decide) (fun _ => by decide) (fun z => absurd (hK.symm.trans z) (by decide)) (fun z => absurd (hK.symm.trans z) (by decide))⟩
    have hNe : e ≤ p ∨ uL (bg F0 e p) = false → uR uL (bg F0 e) e a = p := fun q => hr.trans (uR_e q)
    refine k1wo_6 (by decide) F X1 X2 hG.1 ?_ ?_ ?_ ?_ ?_ ?_ ?_ ?_ ?_ ?_ ?_
    · omega
    · omega
    · omega
    · omega
    · intro q1 q2 F1 hb g a39 a40 a41 f82 f83 f84
      exact go2 F1 (hNe (Or.inl (by omega))) (by omega) hb g a41 f82 f83 f84
    · intro q1 q2 F1 hb g a39 a40 a41
      exact goB F1 (hNe (Or.inl (by omega))) (by omega) hb g a39 a41
    · intro q0 q1 q2 F1 hb g a39 a40 a41 f82 f83 f84
      have hh := hby (by omega)
      exact go2 F1 (hNe (Or.inr (uL_n.mpr (by omega)))) (by omega) hb g a41 f82 f83 f84
    · intro q0 q1 q2 F1 hb g a39 a40 a41
      have hh := hby (by omega)
      exact goB F1 (hNe (Or.inr (uL_n.mpr (by omega)))) (by omega) hb g a39 a41
    · intro q0 q1 q2 q3 F1 hb g a39 a40 a41 f82 f83 f84
      have hh := hby (by omega)
      exact go2 F1 (hNe (Or.inr (uL_n.mpr (by omega)))) (by omega) hb g a41 f82 f83 f84
    · intro q0 q1 q2 q3 F1 hb g a39 a40 a41
      have hh := hby (by omega)
      exact goB F1 (hNe (Or.inr (uL_n.mpr (by omega)))) (by omega) hb g a39 a41
    · intro q0 q1 q2 F1 hb g a39 a40 a41 f82 f83 f84 f85 f86
      have hh := hby (by omega)
      refine ih F1 (p + 1) (by omega) (by omega) (by omega) (hG.trans ⟨hb, g⟩ (by decide)) (by omega) (by omega) (by omega) (by omega) (hr.trans (uR_s (by omega) (uL_i.mpr (by omega)))) ?_
      rw [f86, show p + 1 - a = (p - a) + 1 by omega, uF_s, ← hv, show a + (p - a) = p by omega, hh.2, gl_c q1 q2]
theorem k1wo_T (F : Nat → sy_d) (hB : iv_in F iv_B0) (hJ : jx_ok F) (hw : wd F) (n a e : Int32) {n' a' e' : Nat} (en : n.toInt = n') (ea : a.toInt = a') (ee : e.toInt = e') (hn : n' ≤ 400) (ha : a' < e') (he : e' ≤ 2000) (hL : uL (bg F e' a') = true) : jm_T Ls xs 4 jm_M60 [.ref 31, .int n, .ref 9, .int a, .int e] (sy_dh F X1 X2 (iv_H 1)) 0 0 (coQ 1 X1 X2 F n' a' e') := by
  refine nyy_T (by decide) F (fun j => .inl (.int (if j = 0 then n else if j = 1 then a else e))) X1 X2 (A := [.inl (.ref 31), .inr (.inl 82), .inl (.ref 9), .inr (.inl 83), .inr (.inl 84)]) jm_ok60 (by decide) rfl ?_
  refine k1wo_0 (by decide) (ny F (fun j => .inl (.int (if j = 0 then n else if j = 1 then a else e)))) X1 X2 (hd_iveq0 hB ny_lt) ?_
  intro F1 hb g a39 a40 a41 f82 f83 f84 f85 f86
  refine k1wo_L X1 X2 F hJ hw hn ha he hL (e' + 1) F1 a' (by omega) (by omega) (by omega) ⟨hb, fun j hj hn => (g j hj hn).trans (ny_lt j hj)⟩ (f82.trans en) (f83.trans ea) (f84.trans ee) (f85.trans ea) rfl ?_
  rw [f86, Nat.sub_self, uF_0]
/-- one token -/
theorem k1on_T (F : Nat → sy_d) (hB : iv_in F iv_B0) (hJ : jx_ok F) (hw : wd F) (n a e : Int32) {n' a' e' : Nat} (en : n.toInt = n') (ea : a.toInt = a') (ee : e.toInt = e') (hn : n' ≤ 400) (ha : a' ≤ e') (he : e' ≤ 2000) : jm_T Ls xs 5 jm_M59 [.ref 31, .int n, .ref 9, .int a, .int e] (sy_dh F X1 X2 (iv_H 1)) 0 0 (coQ 1 X1 X2 F n' a' e') := by
  refine nyy_T (by decide) F (fun j => .inl (.int (if j = 0 then n else if j = 1 then a else e))) X1 X2 (A := [.inl (.ref 31), .inr (.inl 82), .inl (.ref 9), .inr (.inl 83), .inr (.inl 84)]) jm_ok59 (by decide) rfl ?_
  obtain ⟨F2, hF2⟩ : ∃ F2, F2 = ny F (fun j => .inl (.int (if j = 0 then n else if j = 1 then a else e))) := ⟨_, rfl⟩
  have k0 : ∀ j, j < 82 → F2 j = F j := fun j hj => by rw [hF2]; exact ny_lt j hj
  have e82 : (sy_i F2 82).toInt = n' := by rw [hF2]; exact en
  have e83 : (sy_i F2 83).toInt = a' := by rw [hF2]; exact ea
  have e84 : (sy_i F2 84).toInt = e' := by rw [hF2]; exact ee
  rw [← hF2]
  have hB2 := hd_iveq0 hB k0
  have hJ2 : jx_ok F2 := jx_ok_eq (k0 39 (by decide)) (k0 41 (by decide)) hJ
  have hw2 : wd F2 := wd_eq (k0 42 (by decide)) hw
  have eb : bg F2 = bg F := bg_eq (k0 2 (by decide))
  have ew : wg F2 = wg F := wg_eq (k0 42 (by decide))
  have hby := fun q : a' < e' => bg_c (F0 := F2) hB2 rfl e83 q
  have inc : a' < e' → ((sy_i F2 83) + 1).toInt = (a' + 1 : Nat) := fun q => by
    rw [nz_add (b := 1) e83 (by decide) (by omega) (by omega)]
    omega
  have goN : ∀ (F1 : Nat → sy_d) (c : Int32), a' < e' → uL (bg F2 e' a') = false → uD (bg F2 e' a') = false → km c.toInt = uS (bg F2 e' a') → (uS (bg F2 e' a') = 3 → c.toInt = 25) → c.toInt ≠ 24 → iv_in F1 iv_B0 → (∀ j, j < 82 → j ∉ ([39] : List Nat) → F1 j = F2 j) → sy_ai F1 39 = jm_upd (sy_ai F2 39) ((sy_i F2 82).toInt).toNat c → sy_al F1 41 = sy_al F2 41 → coQ 1 X1 X2 F n' a' e' (some (.int ((sy_i F2 83) + 1))) (sy_dh F1 X1 X2 (iv_H 1)) := fun F1 c q ql qd hk h3 h24 hb g a39 a41 => by
    rw [e82, Int.toNat_natCast] at a39
    have hK : uK (bg F2 e') e' (wg F2) a' = uS (bg F2 e' a') := by unfold uK; rw [if_neg (by omega), if_neg (by rw [ql]; decide), if_neg (by rw [qd]; decide)]
    have hs := uS_b (bg F2 e' a')
    refine ⟨_, F1, rfl, rfl, coP_eq (co_mk0 hb g a39 a41 hJ2 h24 ?_ (hk.trans hK.symm) (fun z => h3 (hK.symm.trans z)) (by rw [hK]; exact hs.2.2) (by rw [hK]; exact hs.2.1)) k0⟩
    unfold uN
    rw [if_neg (by omega), if_neg (by rw [ql]; decide), if_neg (by rw [qd]; decide)]
    exact inc q
  have goW : ∀ F1 : Nat → sy_d, a' < e' → uL (bg F2 e' a') = true → iv_in F1 iv_B0 → (∀ j, j < 82 → j ∉ ([] : List Nat) → F1 j = F2 j) → (sy_i F1 82).toInt = (sy_i F2 84).toInt → (sy_i F1 83).toInt = (sy_i F2 83).toInt → (sy_i F1 84).toInt = (sy_i F2 82).toInt → hd_W Ls xs 5 jm_M59 (coQ 1 X1 X2 F n' a' e') (31, sy_dL F1 [none, none, none, none, none], sy_dS F1 [.inr (.inl 82), .inr (.inl 83), .inl (.ref 9), .inr (.inl 84), .inl (.ref 31)], sy_dh F1 X1 X2 (iv_H 1), 0, 0) := fun F1 q ql hb g f82 f83 f84 => by
    have g1 : ∀ j, j < 82 → F1 j = F2 j := fun j hj => g j hj (by simp)
    have e1 : bg F1 = bg F2 := bg_eq (g1 2 (by decide))
    refine hd_calI (R := fun y F' => coP F1 F' n' a' e' y.toInt) (nh := 82) (nv := 85) (s := 1) (s1 := 1) (d1 := 4) (M1 := jm_M60) (As := [.inl (.ref 31), .inr (.inl 84), .inl (.ref 9), .inr (.inl 83), .inr (.inl 82)]) (rest := []) jm_ok59 rfl rfl (by decide) (by decide +kernel) (k1wo_T X1 X2 F1 hb (jx_ok_eq (g1 39 (by decide)) (g1 41 (by decide)) hJ2) (wd_eq (g1 42 (by decide)) hw2) _ _ _ (f84.trans e82) (f83.trans e83) (f82.trans e84) hn q he (by rw [e1]; exact ql)) (fun F3 F' y hR p1 p2 p3 => ?_)
    refine k1on_34 (by decide) F3 X1 X2 (hd_iveq0 hR.1.1 p1) ?_
    intro F4 hb4 g4 a39 a40 a41
    refine ⟨_, F4, rfl, rfl, ?_⟩
    rw [zz_i p3]
    exact coP_dst (coP_eq hR (fun j hj => (g1 j hj).trans (k0 j hj))) (fun j hj => (g4 j hj (by simp)).trans (p1 j hj))
  have goD : ∀ F1 : Nat → sy_d, a' < e' → uL (bg F2 e' a') = false → uD (bg F2 e' a') = true → iv_in F1 iv_B0 → (∀ j, j < 82 → j ∉ ([] : List Nat) → F1 j = F2 j) → (sy_i F1 82).toInt = (sy_i F2 84).toInt → (sy_i F1 83).toInt = (sy_i F2 83).toInt → (sy_i F1 84).toInt = (sy_i F2 82).toInt → hd_W Ls xs 5 jm_M59 (coQ 1 X1 X2 F n' a' e') (50, sy_dL F1 [none, none, none, none, none], sy_dS F1 [.inr (.inl 82), .inr (.inl 83), .inl (.ref 9), .inr (.inl 84), .inl (.ref 31)], sy_dh F1 X1 X2 (iv_H 1), 0, 0) := fun F1 q ql qd hb g f82 f83 f84 => by
    have g1 : ∀ j, j < 82 → F1 j = F2 j := fun j hj => g j hj (by simp)
    have e1 : bg F1 = bg F2 := bg_eq (g1 2 (by decide))
    refine hd_calI (R := fun y F' => coP F1 F' n' a' e' y.toInt) (nh := 82) (nv := 85) (s := 1) (s1 := 1) (d1 := 3) (M1 := jm_M61) (As := [.inl (.ref 31), .inr (.inl 84), .inl (.ref 9), .inr (.inl 83), .inr (.inl 82)]) (rest := []) jm_ok59 rfl rfl (by decide) (by decide +kernel) (k1nu_T X1 X2 F1 hb (jx_ok_eq (g1 39 (by decide)) (g1 41 (by decide)) hJ2) _ _ _ (f84.trans e82) (f83.trans e83) (f82.trans e84) hn q he (by rw [e1]; exact ql) (by rw [e1]; exact qd)) (fun F3 F' y hR p1 p2 p3 => ?_)
    refine k1on_53 (by decide) F3 X1 X2 (hd_iveq0 hR.1.1 p1) ?_
    intro F4 hb4 g4 a39 a40 a41
    refine ⟨_, F4, rfl, rfl, ?_⟩
    rw [zz_i p3]
    exact coP_dst (coP_eq hR (fun j hj => (g1 j hj).trans (k0 j hj))) (fun j hj => (g4 j hj (by simp)).trans (p1 j hj))
  refine k1on_0 (by decide) F2 X1 X2 hB2 ?_ ?_ ?_ ?_ ?_ ?_ ?_ ?_ ?_ ?_ ?_ ?_ ?_ ?_ ?_ ?_ ?_ ?_ ?_ ?_ ?_
  · omega
  · omega
  · omega
  · intro q0 q1 q2 q3 F1 hb g a39 a40 a41
    have hh := hby (by omega)
    have hs := sg_n hh.1 (by omega)
    rw [← hh.2] at hs
    exact goN F1 25 (by omega) (uL_n.mpr (by omega)) (uD_n.mpr (by omega)) (by rw [hs]; decide) (fun _ => by decide) (by decide) hb g a39 a41
  · intro q0 q1 q2 q3 F1 hb g a39 a40 a41
    have hh := hby (by omega)
    have hs := sg_y (c := ((sy_ai F2 2).getD (sy_i F2 83).toInt.toNat 0).toInt) (by omega)
    rw [← hh.2] at hs
    exact goN F1 _ (by omega) (uL_n.mpr (by omega)) (uD_n.mpr (by omega)) hs.1 (fun z => absurd z hs.2.1) hs.2.2 hb g a39 a41
  · intro q0 q1 q2 q3 F1 hb g a39 a40 a41
    have hh := hby (by omega)
    have hs := sg_y (c := ((sy_ai F2 2).getD (sy_i F2 83).toInt.toNat 0).toInt) (by omega)
    rw [← hh.2] at hs
    exact goN F1 _ (by omega) (uL_n.mpr (by omega)) (uD_n.mpr (by omega)) hs.1 (fun z => absurd z hs.2.1) hs.2.2 hb g a39 a41
  · intro q0 q1 q2 q3 F1 hb g a39 a40 a41
    have hh := hby (by omega)
    have hs := sg_y (c := ((sy_ai F2 2).getD (sy_i F2 83).toInt.toNat 0).toInt) (by omega)
    rw [← hh.2] at hs
    exact goN F1 _ (by omega) (uL_n.mpr (by omega)) (uD_n.mpr (by omega)) hs.1 (fun z => absurd z hs.2.1) hs.2.2 hb g a39 a41
  · intro q0 q1 q2 q3 F1 hb g a39 a40 a41
    have hh := hby (by omega)
    have hs := sg_y (c := ((sy_ai F2 2).getD (sy_i F2 83).toInt.toNat 0).toInt) (by omega)
    rw [← hh.2] at hs
    exact goN F1 _ (by omega) (uL_n.mpr (by omega)) (uD_n.mpr (by omega)) hs.1 (fun z => absurd z hs.2.1) hs.2.2 hb g a39 a41
  · intro q0 q1 q2 q3 F1 hb g a39 a40 a41
    have hh := hby (by omega)
    have hs := sg_n hh.1 (by omega)
    rw [← hh.2] at hs
    exact goN F1 25 (by omega) (uL_n.mpr (by omega)) (uD_n.mpr (by omega)) (by rw [hs]; decide) (fun _ => by decide) (by decide) hb g a39 a41
  · intro q0 q1 q2 q3 F1 hb g a39 a40 a41
    have hh := hby (by omega)
    have hs := sg_y (c := ((sy_ai F2 2).getD (sy_i F2 83).toInt.toNat 0).toInt) (by omega)
    rw [← hh.2] at hs
    exact goN F1 _ (by omega) (uL_n.mpr (by omega)) (uD_n.mpr (by omega)) hs.1 (fun z => absurd z hs.2.1) hs.2.2 hb g a39 a41
  · intro q0 q1 q2 q3 F1 hb g a39 a40 a41
    have hh := hby (by omega)
    have hs := sg_n hh.1 (by omega)
    rw [← hh.2] at hs
    exact goN F1 25 (by omega) (uL_n.mpr (by omega)) (uD_n.mpr (by omega)) (by rw [hs]; decide) (fun _ => by decide) (by decide) hb g a39 a41
  · intro q0 q1 q2 q3 F1 hb g a39 a40 a41
    have hh := hby (by omega)
    have hs := sg_y (c := ((sy_ai F2 2).getD (sy_i F2 83).toInt.toNat 0).toInt) (by omega)
    rw [← hh.2] at hs
    exact goN F1 _ (by omega) (uL_n.mpr (by omega)) (uD_n.mpr (by omega)) hs.1 (fun z => absurd z hs.2.1) hs.2.2 hb g a39 a41
  · intro q0 q1 q2 q3 q4 F1 hb g a39 a40 a41
    have hh := hby (by omega)
    have hs := sg_n hh.1 (by omega)
    rw [← hh.2] at hs
    exact goN F1 25 (by omega) (uL_n.mpr (by omega)) (uD_n.mpr (by omega)) (by rw [hs]; decide) (fun _ => by decide) (by decide) hb g a39 a41
  · intro q0 q1 q2 q3 q4 F1 hb g a39 a40 a41
    have hh := hby (by omega)
    have hs := sg_n hh.1 (by omega)
    rw [← hh.2] at hs
    exact goN F1 25 (by omega) (uL_n.mpr (by omega)) (uD_n.mpr (by omega)) (by rw [hs]; decide) (fun _ => by decide) (by decide) hb g a39 a41
  · intro q0 q1 q2 q3 q4 F1 hb g a39 a40 a41
    have hh := hby (by omega)
    have hs := sg_y (c := ((sy_ai F2 2).getD (sy_i F2 83).toInt.toNat 0).toInt) (by omega)
    rw [← hh.2] at hs
    exact goN F1 _ (by omega) (uL_n.mpr (by omega)) (uD_n.mpr (by omega)) hs.1 (fun z => absurd z hs.2.1) hs.2.2 hb g a39 a41
  · intro q0 q1 q2 q3 q4 F1 hb g a39 a40 a41
    have hh := hby (by omega)
    have hs := sg_y (c := ((sy_ai F2 2).getD (sy_i F2 83).toInt.toNat 0).toInt) (by omega)
    rw [← hh.2] at hs
    exact goN F1 _ (by omega) (uL_n.mpr (by omega)) (uD_n.mpr (by omega)) hs.1 (fun z => absurd z hs.2.1) hs.2.2 hb g a39 a41
  · intro q0 q1 q2 q3 q4 F1 hb g a39 a40 a41
    have hh := hby (by omega)
    have hs := sg_y (c := ((sy_ai F2 2).getD (sy_i F2 83).toInt.toNat 0).toInt) (by omega)
    rw [← hh.2] at hs
    exact goN F1 _ (by omega) (uL_n.mpr (by omega)) (uD_n.mpr (by omega)) hs.1 (fun z => absurd z hs.2.1) hs.2.2 hb g a39 a41
  · intro q0 q1 q2 q3 F1 hb g a39 a40 a41 f82 f83 f84
    have hh := hby (by omega)
    exact goD F1 (by omega) (uL_n.mpr (by omega)) (uD_i.mpr (by omega)) hb g f82 f83 f84
  · intro q0 q1 q2 q3 q4 q5 F1 hb g a39 a40 a41
    have hh := hby (by omega)
    have hs := sg_n hh.1 (by omega)
    rw [← hh.2] at hs
    exact goN F1 25 (by omega) (uL_n.mpr (by omega)) (uD_n.mpr (by omega)) (by rw [hs]; decide) (fun _ => by decide) (by decide) hb g a39 a41
  · intro q0 q1 q2 F1 hb g a39 a40 a41 f82 f83 f84
    have hh := hby (by omega)
    exact goW F1 (by omega) (uL_i.mpr (by omega)) hb g f82 f83 f84
  · intro q0 F1 hb g a39 a40 a41
    rw [e82, Int.toNat_natCast] at a39
    have hK : uK (bg F2 e') e' (wg F2) a' = 0 := by unfold uK; rw [if_pos (by omega)]
    exact ⟨_, F1, rfl, rfl, coP_eq (co_mk0 hb g a39 a41 hJ2 (by decide) (by unfold uN; rw [if_pos (by omega)]; exact e83) (by rw [hK]; decide) (fun z => absurd (hK.symm.trans z) (by decide)) (by rw [hK]; decide) (by rw [hK]; decide)) k0⟩
/-- token by token -/
theorem k1cu_B (F0 : Nat → sy_d) (hw : wd F0) {e T : Nat} (he : e ≤ 2000) (hT : T ≤ 400) (K : ∀ (F : Nat → sy_d) (i : Nat), cJ F0 F e i T 0 → uP (bg F0 e) e T = i → (sy_i F 82).toInt = e → (sy_i F 83).toInt = i → (sy_i F 84).toInt = T → ∀ F1 : Nat → sy_d, iv_in F1 iv_B0 → (∀ j, j < 82 → j ∉ ([40] : List Nat) → F1 j = F j) → sy_ai F1 40 = jm_upd (sy_ai F 40) T (sy_i F 83) → (sy_i F1 82).toInt = e → (sy_i F1 83).toInt = T → (sy_i F1 84).toInt = i → hd_W Ls xs 6 jm_M58 (cuQ 1 X1 X2 F0 e) (67, sy_dL F1 [some (.inl (.ref 31)), some (.inl (.ref 9)), none, some (.inr (.inl 82)), none, none, some (.inr (.inl 83))], sy_dS F1 [.inr (.inl 82), .inr (.inl 84), .inl (.ref 9), .inr (.inl 83), .inl (.ref 31)], sy_dh F1 X1 X2 (iv_H 1), 0, 0)) :
    ∀ (m : Nat) (F : Nat → sy_d) (i : Nat), e - i < m → cJ F0 F e i T 0 → (sy_i F 82).toInt = e → (sy_i F 83).toInt = i → (sy_i F 84).toInt = T → hd_W Ls xs 6 jm_M58 (cuQ 1 X1 X2 F0 e) (29, sy_dL F [some (.inl (.ref 31)), some (.inl (.ref 9)), none, some (.inr (.inl 82)), some (.inr (.inl 83)), none, some (.inr (.inl 84))], sy_dS F [], sy_dh F X1 X2 (iv_H 1), 0, 0) := by
  intro m
  induction m with
  | zero => intro F i hm; omega
  | succ m ih =>
    intro F i hm hI e82 e83 e84
    have hie := hI.2.2.1
    have hB := hI.1.1
    have hby := fun q : i < e => bg_c (F0 := F0) hB (hI.1.2 2 (by decide) (by decide)) e83 q
    have goB : ∀ F1 : Nat → sy_d, i < e → uB (bg F0 e i) = true → iv_in F1 iv_B0 → (∀ j, j < 82 → j ∉ ([] : List Nat) → F1 j = F j) → (sy_i F1 82).toInt = (sy_i F 82).toInt → (sy_i F1 83).toInt = (sy_i F 83).toInt + 1 → (sy_i F1 84).toInt = (sy_i F 84).toInt → hd_W Ls xs 6 jm_M58 (cuQ 1 X1 X2 F0 e) (29, sy_dL F1 [some (.inl (.ref 31)), some (.inl (.ref 9)), none, some (.inr (.inl 82)), some (.inr (.inl 83)), none, some (.inr (.inl 84))], sy_dS F1 [], sy_dh F1 X1 X2 (iv_H 1), 0, 0) := fun F1 q qb hb g f82 f83 f84 => by
      obtain ⟨h1, h2, h3, h4, h5, h6⟩ := cJ_eq hI hb (fun j hj => g j hj (by simp))
      refine ih F1 (i + 1) (by omega) ⟨h1, h2, by omega, h4, fun z => ⟨(h5 z).1, ?_⟩, fun z => absurd rfl z⟩ (by omega) (by omega) (by omega)
      rw [← uR_s q qb]
      exact (h5 z).2
    have goK : ∀ F1 : Nat → sy_d, e ≤ i ∨ uB (bg F0 e i) = false → iv_in F1 iv_B0 → (∀ j, j < 82 → j ∉ ([40] : List Nat) → F1 j = F j) → sy_ai F1 40 = jm_upd (sy_ai F 40) ((sy_i F 84).toInt).toNat (sy_i F 83) → (sy_i F1 82).toInt = (sy_i F 82).toInt → (sy_i F1 83).toInt = (sy_i F 84).toInt → (sy_i F1 84).toInt = (sy_i F 83).toInt → hd_W Ls xs 6 jm_M58 (cuQ 1 X1 X2 F0 e) (67, sy_dL F1 [some (.inl (.ref 31)), some (.inl (.ref 9)), none, some (.inr (.inl 82)), none, none, some (.inr (.inl 83))], sy_dS F1 [.inr (.inl 82), .inr (.inl 84), .inl (.ref 9), .inr (.inl 83), .inl (.ref 31)], sy_dh F1 X1 X2 (iv_H 1), 0, 0) := fun F1 q hb g a40 f82 f83 f84 => by
      rw [e84, Int.toNat_natCast] at a40
      exact K F i hI (by rw [← ((hI.2.2.2.2.1 rfl).2)]; exact uR_e q) e82 e83 e84 F1 hb g a40 (by omega) (by omega) (by omega)
    refine k1cu_29 (by decide) F X1 X2 hB ?_ ?_ ?_ ?_ ?_ ?_ ?_ ?_ ?_
    · omega
    · omega
    · omega
    · intro q1 F1 hb g a39 a40 a41 f82 f83 f84
      exact goK F1 (Or.inl (by omega)) hb g a40 f82 f83 f84
    · intro q1 q2 F1 hb g a39 a40 a41 f82 f83 f84
      have hh := hby (by omega)
      exact goB F1 (by omega) (uB_i.mpr (by omega)) hb g f82 f83 f84
    · intro q1 q2 q3 F1 hb g a39 a40 a41 f82 f83 f84
      have hh := hby (by omega)
      exact goB F1 (by omega) (uB_i.mpr (by omega)) hb g f82 f83 f84
    · intro q1 q2 q3 q4 F1 hb g a39 a40 a41 f82 f83 f84
      have hh := hby (by omega)
      exact goB F1 (by omega) (uB_i.mpr (by omega)) hb g f82 f83 f84
    · intro q1 q2 q3 q4 q5 F1 hb g a39 a40 a41 f82 f83 f84
      have hh := hby (by omega)
      exact goK F1 (Or.inr (uB_n.mpr (by omega))) hb g a40 f82 f83 f84
    · intro q1 q2 q3 q4 q5 F1 hb g a39 a40 a41 f82 f83 f84
      have hh := hby (by omega)
      exact goB F1 (by omega) (uB_i.mpr (by omega)) hb g f82 f83 f84
theorem k1cu_L (F0 : Nat → sy_d) (hw : wd F0) {e : Nat} (he : e ≤ 2000) : ∀ (m : Nat) (F : Nat → sy_d) (i T : Nat), 401 - T < m → T ≤ 401 → cJ F0 F e i T (sy_i F 84).toInt → (sy_i F 82).toInt = e → (sy_i F 83).toInt = i → (sy_i F 85).toInt = T → hd_W Ls xs 6 jm_M58 (cuQ 1 X1 X2 F0 e) (16, sy_dL F [some (.inl (.ref 31)), some (.inl (.ref 9)), none, some (.inr (.inl 82)), some (.inr (.inl 83)), some (.inr (.inl 84)), some (.inr (.inl 85))], sy_dS F [], sy_dh F X1 X2 (iv_H 1), 0, 0) := by
  intro m
  induction m with
  | zero => intro F i T hm; omega
  | succ m ih =>
    intro F i T hm hT hI e82 e83 e85
    have over : ∀ F1 : Nat → sy_d, (sy_i F 84).toInt ≠ 0 → iv_in F1 iv_B0 → (∀ j, j < 82 → j ∉ ([] : List Nat) → F1 j = F j) → cuQ 1 X1 X2 F0 e none (sy_dh F1 X1 X2 (iv_H 1)) := fun F1 q hb g => by
      obtain ⟨h1, h2, h3, h4, h5, h6⟩ := cJ_eq hI hb (fun j hj => g j hj (by simp))
      obtain ⟨t1, t2, t3⟩ := h6 q
      exact ⟨F1, rfl, rfl, h1, h2, T - 1, by omega, fun j hj => h4 j (by omega), fun j hj => t2 j (by omega), t3.elim (fun z => Or.inl z) (fun z => Or.inr (Or.inl z))⟩
    refine k1cu_16 (by decide) F X1 X2 hI.1.1 ?_ ?_ ?_ ?_
    · omega
    · intro q1 F1 hb g a39 a40 a41
      by_cases q : (sy_i F 84).toInt = 0
      · obtain ⟨h1, h2, h3, h4, h5, h6⟩ := cJ_eq hI hb (fun j hj => g j hj (by simp))
        exact ⟨F1, rfl, rfl, h1, h2, 400, Nat.le_refl _, fun j hj => h4 j (by omega), fun j hj => (h5 q).1 j (by omega), Or.inr (Or.inr rfl)⟩
      · exact over F1 q hb g
    · intro q1 q2 F1 hb g a39 a40 a41
      exact over F1 q2 hb g
    · intro q1 q2 F1 hb g a39 a40 a41 f82 f83 f84
      have hI1 := cJ_eq hI hb (fun j hj => g j hj (by simp))
      rw [q2] at hI1
      refine k1cu_B X1 X2 F0 hw he (T := T) (by omega) ?_ (e + 1) F1 i (by omega) hI1 (by omega) (by omega) (by omega)
      intro F2 i2 hI2 hu f82 f83 f84 F3 hb3 g3 a40 h82 h83 h84
      have hI2e := hI2.2.2.1
      have gg : ∀ j, j < 82 → j ∉ ([40] : List Nat) → F3 j = F2 j := g3
      have j3 : jx_ok F3 := jx_ok_eq (g3 39 (by decide) (by decide)) (g3 41 (by decide) (by decide)) hI2.2.1
      have w3 : wd F3 := wd_eq ((g3 42 (by decide) (by decide)).trans (hI2.1.2 42 (by decide) (by decide))) hw
      refine hd_calI (R := fun y F' => coP F3 F' T i2 e y.toInt) (nh := 82) (nv := 85) (s := 1) (s1 := 1) (d1 := 5) (M1 := jm_M59) (As := [.inl (.ref 31), .inr (.inl 83), .inl (.ref 9), .inr (.inl 84), .inr (.inl 82)]) (rest := []) jm_ok58 rfl rfl (by decide) (by decide +kernel) (k1on_T X1 X2 F3 hb3 j3 w3 _ _ _ h83 h84 h82 (by omega) (by omega) he) (fun F4 F' y hR p1 p2 p3 => ?_)
      have m82 := nz_fi (p2 82 (by decide) (by decide))
      have m83 := nz_fi (p2 83 (by decide) (by decide))
      have m85 : (sy_i F4 85).toInt = y.toInt := by rw [zz_i p3]
      obtain ⟨c1, c2, c3, c4, c5, c6, c7⟩ := cJ_push hI2 hu hb3 gg a40 f83 (coP_dst hR (F2 := F4) p1)
      have eK : kg F4 T = km ((sy_ai F4 39).getD (sy_i F4 83).toInt.toNat 0).toInt := by
        rw [m83, h83, Int.toNat_natCast]
        rfl
      have eK2 : ((sy_ai F4 39).getD (sy_i F4 83).toInt.toNat 0) = ((sy_ai F4 39).getD T 0) := by rw [m83, h83, Int.toNat_natCast]
      refine k1cu_70 (by decide) F4 X1 X2 c2.1 ?_ ?_ ?_ ?_
      · omega
      · intro q1 F5 hb5 g5 a39' a40' a41' n82 n83 n84 n85
        have c : cJ F0 F4 e (uN (bg F0 e) e i2) (T + 1) 1 := ⟨c2, c3, c4, c5, fun z => absurd z (by decide), fun _ => ⟨by omega, fun j hj => c6 j (by omega), Or.inl (by rw [Nat.add_sub_cancel, eK]; exact km_0.mpr q1)⟩⟩
        have c := cJ_eq c hb5 (fun j hj => g5 j hj (by simp))
        exact ih F5 (uN (bg F0 e) e i2) (T + 1) (by omega) (by omega) (by rw [n84]; exact c) (by omega) (by omega) (by omega)
      · intro q1 q2 F5 hb5 g5 a39' a40' a41' n82 n83 n84 n85
        have c : cJ F0 F4 e (uN (bg F0 e) e i2) (T + 1) 0 := ⟨c2, c3, c4, c5, fun _ => ⟨fun j hj => ?_, by rw [← hu]; rfl⟩, fun z => absurd rfl z⟩
        · have c := cJ_eq c hb5 (fun j hj => g5 j hj (by simp))
          exact ih F5 (uN (bg F0 e) e i2) (T + 1) (by omega) (by omega) (by rw [n84]; exact c) (by omega) (by omega) (by omega)
        · by_cases q : j = T
          · subst q
            exact ⟨fun z => q1 (km_0.mp (eK.symm.trans z)), fun z => q2 (by rw [eK2]; exact c7 z)⟩
          · exact c6 j (by omega)
      · intro q1 q2 F5 hb5 g5 a39' a40' a41' n82 n83 n84 n85
        have c : cJ F0 F4 e (uN (bg F0 e) e i2) (T + 1) 1 := ⟨c2, c3, c4, c5, fun z => absurd z (by decide), fun _ => ⟨by omega, fun j hj => c6 j (by omega), Or.inr (by rw [Nat.add_sub_cancel, eK, q2]; decide)⟩⟩
        have c := cJ_eq c hb5 (fun j hj => g5 j hj (by simp))
        exact ih F5 (uN (bg F0 e) e i2) (T + 1) (by omega) (by omega) (by rw [n84]; exact c) (by omega) (by omega) (by omega)
theorem k1cu_T (F : Nat → sy_d) (hB : iv_in F iv_B0) (hJ : jx_ok F) (hw : wd F) (n : Int32) {e : Nat} (en : n.toInt = e) (he : e ≤ 2000) : jm_T Ls xs 6 jm_M58 [.ref 31, .ref 9, .int n] (sy_dh F X1 X2 (iv_H 1)) 0 0 (cuQ 1 X1 X2 F e) := by
  refine nyy_T (by decide) F (fun _ => .inl (.int n)) X1 X2 (A := [.inl (.ref 31), .inl (.ref 9), .inr (.inl 82)]) jm_ok58 (by decide) rfl ?_
  have e82 : (sy_i (ny F (fun _ => .inl (.int n))) 82).toInt = e := en
  refine k1cu_0 (by decide) (ny F (fun _ => .inl (.int n))) X1 X2 (hd_iveq0 hB ny_lt) ?_ ?_
  · omega
  · intro q F1 hb g a39 a40 a41 f82 f83 f84 f85
    have g1 : ∀ j, j < 82 → F1 j = F j := fun j hj => (g j hj (by simp)).trans (ny_lt j hj)
    refine k1cu_L X1 X2 F hw he 402 F1 0 0 (by omega) (by omega) ?_ (f82.trans e82) f83 f85
    rw [f84]
    exact ⟨⟨hb, fun j hj _ => g1 j hj⟩, jx_ok_eq (g1 39 (by decide)) (g1 41 (by decide)) hJ, Nat.zero_le _, fun j hj => absurd hj (Nat.not_lt_zero _), fun _ => ⟨fun j hj => absurd hj (Nat.not_lt_zero _), rfl⟩, fun z => absurd rfl z⟩
end CU1
