section
/-! ===== the class cuts a text into tokens (shape 2) ===== -/
section CU2
variable {Ls : Nat} {xs : Nat → Int32} (X1 X2 : List jm_c)
theorem k2wk_L (F0 : Nat → sy_d) (x : Int64) (hw : wd F0) : ∀ (m : Nat) (F : Nat → sy_d) (k : Nat), 23 - k < m → k ≤ 23 → gc [] F0 F → sy_l F 82 = x → (sy_i F 83).toInt = k → (∀ j, j < k → wg F0 j ≠ x) →
    hd_W Ls xs 2 jm_M62 (fun v G => ∃ (y : Int32) (F' : Nat → sy_d), v = some (.int y) ∧ G = sy_dh F' X1 X2 (iv_H 2) ∧ gc [] F0 F' ∧ 0 ≤ y.toInt ∧ y.toInt ≤ 23 ∧ km y.toInt = uW (wg F0) x 23) (2, sy_dL F [some (.inl (.ref 31)), some (.inr (.inr 82)), none, some (.inr (.inl 83))], sy_dS F [], sy_dh F X1 X2 (iv_H 2), 0, 0) := by
  intro m
  induction m with
  | zero => intro F k hm; omega
  | succ m ih =>
    intro F k hm hk hG e82 e83 hn
    have hc : (lg_cmp ((sy_al F 42).getD (sy_i F 83).toInt.toNat 0) (sy_l F 82)).toInt = 0 ↔ wg F0 k = x := by
      rw [lgq, e82, nz_fl (hG.2 42 (by decide) (by decide)), e83, Int.toNat_natCast]
      exact Iff.rfl
    refine k2wk_2 (by decide) F X1 X2 hG.1 ?_ ?_ ?_ ?_
    · omega
    · intro q1 F1 hb g
      refine ⟨_, F1, rfl, rfl, hG.trans ⟨hb, g⟩ (by decide), by decide, by decide, ?_⟩
      rw [uW_no 23 (fun j hj => hn j (by omega))]
      decide
    · intro q1 q2 F1 hb g f82 f83
      refine ih F1 (k + 1) (by omega) (by omega) (hG.trans ⟨hb, g⟩ (by decide)) (f82.trans e82) (by omega) (fun j hj => ?_)
      by_cases q : j = k
      · rw [q]
        exact fun z => q2 (hc.mpr z)
      · exact hn j (by omega)
    · intro q1 q2 F1 hb g
      refine ⟨_, F1, rfl, rfl, hG.trans ⟨hb, g⟩ (by decide), by omega, by omega, ?_⟩
      rw [uW_at hw (hc.mp q2) 23 (by omega) (Nat.le_refl _), km_r (by omega) (by omega)]
      omega
theorem k2wk_T (F : Nat → sy_d) (hB : iv_in F iv_B0) (hw : wd F) (x : Int64) : jm_T Ls xs 2 jm_M62 [.ref 31, .long x] (sy_dh F X1 X2 (iv_H 2)) 0 0 (fun v G => ∃ (y : Int32) (F' : Nat → sy_d), v = some (.int y) ∧ G = sy_dh F' X1 X2 (iv_H 2) ∧ gc [] F F' ∧ 0 ≤ y.toInt ∧ y.toInt ≤ 23 ∧ km y.toInt = uW (wg F) x 23) := by
  refine nyy_T (by decide) F (fun _ => .inl (.long x)) X1 X2 (A := [.inl (.ref 31), .inr (.inr 82)]) jm_ok62 (by decide) rfl ?_
  refine k2wk_0 (by decide) (ny F (fun _ => .inl (.long x))) X1 X2 (hd_iveq0 hB ny_lt) ?_
  intro F1 hb g f82 f83
  exact k2wk_L X1 X2 F x hw 24 F1 0 (by omega) (by omega) ⟨hb, fun j hj hn => (g j hj hn).trans (ny_lt j hj)⟩ (f82.trans rfl) f83 (fun j hj => absurd hj (Nat.not_lt_zero _))
/-- a number -/
theorem k2nu_L (F0 : Nat → sy_d) (hJ : jx_ok F0) {n a e : Nat} (hn : n ≤ 400) (ha : a < e) (he : e ≤ 2000) (hL : uL (bg F0 e a) = false) (hD : uD (bg F0 e a) = true) : ∀ (m : Nat) (F : Nat → sy_d) (p : Nat), e - p < m → a ≤ p → p ≤ e → gc [] F0 F → (sy_i F 82).toInt = n → (sy_i F 83).toInt = a → (sy_i F 84).toInt = e → (sy_i F 85).toInt = p → uR uD (bg F0 e) e a = uR uD (bg F0 e) e p → (p - a ≤ 4 → (sy_l F 86).toInt = uF gd (bg F0 e) a (p - a) 0 ∧ 0 ≤ (sy_l F 86).toInt ∧ (sy_l F 86).toInt ≤ 9999 ∧ (p = a → (sy_l F 86).toInt = 0) ∧ (p = a + 1 → (sy_l F 86).toInt ≤ 9) ∧ (p = a + 2 → (sy_l F 86).toInt ≤ 99) ∧ (p = a + 3 → (sy_l F 86).toInt ≤ 999)) →
    hd_W Ls xs 3 jm_M61 (coQ 2 X1 X2 F0 n a e) (6, sy_dL F [some (.inl (.ref 31)), some (.inr (.inl 82)), some (.inl (.ref 9)), some (.inr (.inl 83)), some (.inr (.inl 84)), some (.inr (.inl 85)), some (.inr (.inr 86)), none], sy_dS F [], sy_dh F X1 X2 (iv_H 2), 0, 0) := by
  intro m
  induction m with
  | zero => intro F p hm; omega
  | succ m ih =>
    intro F p hm hap hpe hG e82 e83 e84 e85 hr hv
    have hLn : ¬ (uL (bg F0 e a) = true) := by rw [hL]; decide
    have hby := fun q : p < e => bg_c (F0 := F0) hG.1 (hG.2 2 (by decide) (by decide)) e85 q
    have i39 : sy_ai F 39 = sy_ai F0 39 := nz_fa (hG.2 39 (by decide) (by decide))
    have i41 : sy_al F 41 = sy_al F0 41 := nz_fl (hG.2 41 (by decide) (by decide))
    have go2 : ∀ F1 : Nat → sy_d, uR uD (bg F0 e) e a = p → p - a ≤ 4 → iv_in F1 iv_B0 → (∀ j, j < 82 → j ∉ ([39, 41] : List Nat) → F1 j = F j) → sy_ai F1 39 = jm_upd (sy_ai F 39) ((sy_i F 82).toInt).toNat 24 → sy_al F1 41 = jm_updL (sy_al F 41) ((sy_i F 82).toInt).toNat (sy_l F 86) → coQ 2 X1 X2 F0 n a e (some (.int (sy_i F 85))) (sy_dh F1 X1 X2 (iv_H 2)) := fun F1 q q2 hb g a39 a41 => by
      obtain ⟨v1, v2, v3, -⟩ := hv q2
      rw [e82, Int.toNat_natCast, i39] at a39
      rw [e82, Int.toNat_natCast, i41] at a41
      have hK : uK (bg F0 e) e (wg F0) a = 2 := by unfold uK; rw [if_neg (by omega), if_neg hLn, if_pos hD, q, if_neg (by omega)]
      refine ⟨_, F1, rfl, rfl, co_mk ⟨hb, fun j hj hn => (g j hj hn).trans (hG.2 j hj (by simp))⟩ a39 a41 hJ (fun _ => ⟨v2, v3⟩) ?_ (by rw [hK]; decide) (fun z => absurd (hK.symm.trans z) (by decide)) (fun _ => ?_) (fun z => absurd (hK.symm.trans z) (by decide))⟩
      · unfold uN
        rw [if_neg (by omega), if_neg hLn, if_pos hD, q]
        exact e85
      · rw [t32 v2 v3, q]
        exact v1
    have goB : ∀ F1 : Nat → sy_d, uR uD (bg F0 e) e a = p → 4 < p - a → iv_in F1 iv_B0 → (∀ j, j < 82 → j ∉ ([39, 41] : List Nat) → F1 j = F j) → sy_ai F1 39 = jm_upd (sy_ai F 39) ((sy_i F 82).toInt).toNat 25 → sy_al F1 41 = jm_updL (sy_al F 41) ((sy_i F 82).toInt).toNat (sy_l F 86) → coQ 2 X1 X2 F0 n a e (some (.int (sy_i F 85))) (sy_dh F1 X1 X2 (iv_H 2)) := fun F1 q q2 hb g a39 a41 => by
      rw [e82, Int.toNat_natCast, i39] at a39
      rw [e82, Int.toNat_natCast, i41] at a41
      have hK : uK (bg F0 e) e (wg F0) a = 3 := by unfold uK; rw [if_neg (by omega), if_neg hLn, if_pos hD, q, if_pos (by omega)]
      refine ⟨_, F1, rfl, rfl, co_mk ⟨hb, fun j hj hn => (g j hj hn).trans (hG.2 j hj (by simp))⟩ a39 a41 hJ (fun z => absurd z (by decide)) ?_ (by rw [hK]; decide) (fun _ => by decide) (fun z => absurd (hK.symm.trans z) (by decide)) (fun z => absurd (hK.symm.trans z) (by decide))⟩
      unfold uN
      rw [if_neg (by omega), if_neg hLn, if_pos hD, q]
      exact e85
    have hNe : e ≤ p ∨ uD (bg F0 e p) = false → uR uD (bg F0 e) e a = p := fun q => hr.trans (uR_e q)
    refine k2nu_6 (by decide) F X1 X2 hG.1 ?_ ?_ ?_ ?_ ?_ ?_ ?_ ?_ ?_ ?_ ?_
    · omega
    · omega
    · omega
    · omega
    · intro q1 q2 F1 hb g a39 a40 a41
      exact go2 F1 (hNe (Or.inl (by omega))) (by omega) hb g a39 a41
    · intro q1 q2 F1 hb g a39 a40 a41
      exact goB F1 (hNe (Or.inl (by omega))) (by omega) hb g a39 a41
    · intro q0 q1 q2 F1 hb g a39 a40 a41
      have hh := hby (by omega)
      exact go2 F1 (hNe (Or.inr (uD_n.mpr (by omega)))) (by omega) hb g a39 a41
    · intro q0 q1 q2 F1 hb g a39 a40 a41
      have hh := hby (by omega)
      exact goB F1 (hNe (Or.inr (uD_n.mpr (by omega)))) (by omega) hb g a39 a41
    · intro q0 q1 q2 q3 F1 hb g a39 a40 a41
      have hh := hby (by omega)
      exact go2 F1 (hNe (Or.inr (uD_n.mpr (by omega)))) (by omega) hb g a39 a41
    · intro q0 q1 q2 q3 F1 hb g a39 a40 a41
      have hh := hby (by omega)
      exact goB F1 (hNe (Or.inr (uD_n.mpr (by omega)))) (by omega) hb g a39 a41
    · intro q0 q1 q2 F1 hb g a39 a40 a41 f82 f83 f84 f85 f86
      have hh := hby (by omega)
      refine ih F1 (p + 1) (by omega) (by omega) (by omega) (hG.trans ⟨hb, g⟩ (by decide)) (by omega) (by omega) (by omega) (by omega) (hr.trans (uR_s (by omega) (uD_i.mpr (by omega)))) (fun z => ?_)
      obtain ⟨v1, v2, v3, v4, v5, v6, v7⟩ := hv (by omega)
      have hm := cn_num v2 (by omega) q1 q2
      rw [f86, show p + 1 - a = (p - a) + 1 by omega, uF_s, ← v1, show a + (p - a) = p by omega]
      show _ = 10 * _ + (_ - 48) ∧ _
      omega
theorem k2nu_T (F : Nat → sy_d) (hB : iv_in F iv_B0) (hJ : jx_ok F) (n a e : Int32) {n' a' e' : Nat} (en : n.toInt = n') (ea : a.toInt = a') (ee : e.toInt = e') (hn : n' ≤ 400) (ha : a' < e') (he : e' ≤ 2000) (hL : uL (bg F e' a') = false) (hD : uD (bg F e' a') = true) : jm_T Ls xs 3 jm_M61 [.ref 31, .int n, .ref 9, .int a, .int e] (sy_dh F X1 X2 (iv_H 2)) 0 0 (coQ 2 X1 X2 F n' a' e') := by
  refine nyy_T (by decide) F (fun j => .inl (.int (if j = 0 then n else if j = 1 then a else e))) X1 X2 (A := [.inl (.ref 31), .inr (.inl 82), .inl (.ref 9), .inr (.inl 83), .inr (.inl 84)]) jm_ok61 (by decide) rfl ?_
  refine k2nu_0 (by decide) (ny F (fun j => .inl (.int (if j = 0 then n else if j = 1 then a else e)))) X1 X2 (hd_iveq0 hB ny_lt) ?_
  intro F1 hb g a39 a40 a41 f82 f83 f84 f85 f86
  have z : (0 : Int64).toInt = 0 := by decide
  refine k2nu_L X1 X2 F hJ hn ha he hL hD (e' + 1) F1 a' (by omega) (by omega) (by omega) ⟨hb, fun j hj hn => (g j hj hn).trans (ny_lt j hj)⟩ (f82.trans en) (f83.trans ea) (f84.trans ee) (f85.trans ea) rfl (fun _ => ?_)
  rw [f86, z, Nat.sub_self, uF_0]
  omega
/-- a word -/
theorem k2wo_L (F0 : Nat → sy_d) (hJ : jx_ok F0) (hw : wd F0) {n a e : Nat} (hn : n ≤ 400) (ha : a < e) (he : e ≤ 2000) (hL : uL (bg F0 e a) = true) : ∀ (m : Nat) (F : Nat → sy_d) (p : Nat), e - p < m → a ≤ p → p ≤ e → gc [] F0 F → (sy_i F 82).toInt = n → (sy_i F 83).toInt = a → (sy_i F 84).toInt = e → (sy_i F 85).toInt = p → uR uL (bg F0 e) e a = uR uL (bg F0 e) e p → sy_l F 86 = uF gl (bg F0 e) a (p - a) 0 →
    hd_W Ls xs 4 jm_M60 (coQ 2 X1 X2 F0 n a e) (6, sy_dL F [some (.inl (.ref 31)), some (.inr (.inl 82)), some (.inl (.ref 9)), some (.inr (.inl 83)), some (.inr (.inl 84)), some (.inr (.inl 85)), some (.inr (.inr 86)), none], sy_dS F [], sy_dh F X1 X2 (iv_H 2), 0, 0) := by
  intro m
  induction m with
  | zero => intro F p hm; omega
  | succ m ih =>
    intro F p hm hap hpe hG e82 e83 e84 e85 hr hv
    have hby := fun q : p < e => bg_c (F0 := F0) hG.1 (hG.2 2 (by decide) (by decide)) e85 q
    have i39 : sy_ai F 39 = sy_ai F0 39 := nz_fa (hG.2 39 (by decide) (by decide))
    have i41 : sy_al F 41 = sy_al F0 41 := nz_fl (hG.2 41 (by decide) (by decide))
    have hN : uR uL (bg F0 e) e a = p → ((sy_i F 85).toInt : Int) = (uN (bg F0 e) e a : Nat) := fun q => by
      unfold uN
      rw [if_neg (by omega), if_pos hL, q]
      exact e85
    have go2 : ∀ F1 : Nat → sy_d, uR uL (bg F0 e) e a = p → p - a ≤ 8 → iv_in F1 iv_B0 → (∀ j, j < 82 → j ∉ ([41] : List Nat) → F1 j = F j) → sy_al F1 41 = jm_updL (sy_al F 41) ((sy_i F 82).toInt).toNat (sy_l F 86) → (sy_i F1 82).toInt = (sy_i F 85).toInt → sy_l F1 83 = sy_l F 86 → (sy_i F1 84).toInt = (sy_i F 82).toInt → hd_W Ls xs 4 jm_M60 (coQ 2 X1 X2 F0 n a e) (70, sy_dL F1 [none, none, none, none, none, some (.inr (.inl 82)), none, none], sy_dS F1 [.inr (.inr 83), .inl (.ref 31), .inr (.inl 84), .inl (.ref 32)], sy_dh F1 X1 X2 (iv_H 2), 0, 0) := fun F1 q q2 hb g a41 f82 f83 f84 => by
      have hG1 : gc [41] F0 F1 := ⟨hb, fun j hj hn => (g j hj hn).trans (hG.2 j hj (by simp))⟩
      have hw1 : wd F1 := wd_eq (hG1.2 42 (by decide) (by decide)) hw
      have ew : wg F1 = wg F0 := wg_eq (hG1.2 42 (by decide) (by decide))
      refine hd_calI (R := fun y F' => gc [] F1 F' ∧ 0 ≤ y.toInt ∧ y.toInt ≤ 23 ∧ km y.toInt = uW (wg F1) (sy_l F1 83) 23) (nh := 82) (nv := 85) (s := 2) (s1 := 2) (d1 := 2) (M1 := jm_M62) (As := [.inl (.ref 31), .inr (.inr 83)]) (rest := [.inr (.inl 84), .inl (.ref 32)]) jm_ok60 rfl rfl (by decide) (by decide +kernel) (k2wk_T X1 X2 F1 hb hw1 _) (fun F3 F' y hR p1 p2 p3 => ?_)
      obtain ⟨r1, r2, r3, r4⟩ := hR
      have f82' := nz_fi (p2 82 (by decide) (by decide))
      have f84' := nz_fi (p2 84 (by decide) (by decide))
      have f85' : sy_i F3 85 = y := zz_i p3
      have g3 : ∀ j, j < 82 → F3 j = F1 j := fun j hj => (p1 j hj).trans (r1.2 j hj (by simp))
      refine k2wo_73 (by decide) F3 X1 X2 (hd_iveq0 r1.1 p1) (by omega) ?_
      intro F4 hb4 g4 a39' a40' a41'
      rw [nz_fa (g3 39 (by decide)), nz_fa (hG1.2 39 (by decide) (by decide)), f84', f84, e82, Int.toNat_natCast, f85'] at a39'
      rw [nz_fl (g3 41 (by decide)), a41, i41, e82, Int.toNat_natCast] at a41'
      have hK : uK (bg F0 e) e (wg F0) a = km y.toInt := by unfold uK; rw [if_neg (by omega), if_pos hL, q, if_neg (by omega), r4, ew, f83, hv]
      have hb0 := uW_b (w := wg F1) (x := sy_l F1 83) 23
      refine ⟨_, F4, rfl, rfl, co_mk ⟨hb4, fun j hj hn => ?_⟩ a39' a41' hJ (fun z => by omega) ?_ hK.symm (fun z => ?_) (fun z => ?_) (fun _ => by rw [q]; exact hv)⟩
      · have n39 : j ∉ ([39] : List Nat) := fun q => hn (by revert q; simp; omega)
        have n41 : j ∉ ([41] : List Nat) := fun q => hn (by revert q; simp; omega)
        exact (g4 j hj n39).trans ((g3 j hj).trans (hG1.2 j hj n41))
      · rw [f82', f82]
        exact hN q
      · rw [hK, r4] at z; exact absurd z hb0.2.2.1
      · rw [hK, r4] at z; exact absurd z hb0.2.2.2
    have goB : ∀ F1 : Nat → sy_d, uR uL (bg F0 e) e a = p → 8 < p - a → iv_in F1 iv_B0 → (∀ j, j < 82 → j ∉ ([39, 41] : List Nat) → F1 j = F j) → sy_ai F1 39 = jm_upd (sy_ai F 39) ((sy_i F 82).toInt).toNat 25 → sy_al F1 41 = jm_updL (sy_al F 41) ((sy_i F 82).toInt).toNat (sy_l F 86) → coQ 2 X1 X2 F0 n a e (some (.int (sy_i F 85))) (sy_dh F1 X1 X2 (iv_H 2)) := fun F1 q q2 hb g a39 a41 => by
      rw [e82, Int.toNat_natCast, i39] at a39
      rw [e82, Int.toNat_natCast, i41] at a41
      have hK : uK (bg F0 e) e (wg F0) a = 3 := by unfold uK; rw [if_neg (by omega), if_pos hL, q, if_pos (by omega)]
      exact ⟨_, F1, rfl, rfl, co_mk ⟨hb, fun j hj hn => (g j hj hn).trans (hG.2 j hj (by simp))⟩ a39 a41 hJ (fun z => absurd z (by decide)) (hN q) (by rw [hK]; decide) (fun _ => by decide) (fun z => absurd (hK.symm.trans z) (by decide)) (fun z => absurd (hK.symm.trans z) (by decide))⟩
    have hNe : e ≤ p ∨ uL (bg F0 e p) = false → uR uL (bg F0 e) e a = p := fun q => hr.trans (uR_e q)
    refine k2wo_6 (by decide) F X1 X2 hG.1 ?_ ?_ ?_ ?_ ?_ ?_ ?_ ?_ ?_ ?_ ?_
    · omega
    · omega
    · omega
    · omega
    · intro q1 q2 F1 hb g a39 a40 a41 f82 f83 f84
      exact go2 F1 (hNe (Or.inl (by omega))) (by omega) hb g a41 f82 f83 f84
    · intro q1 q2 F1 hb g a39 a40 a41
      exact goB F1 (hNe (Or.inl (by omega))) (by omega) hb g a39 a41
    · intro q0 q1 q2 F1 hb g a39 a40 a41 f82 f83 f84
      have hh := hby (by omega)
      exact go2 F1 (hNe (Or.inr (uL_n.mpr (by omega)))) (by omega) hb g a41 f82 f83 f84
    · intro q0 q1 q2 F1 hb g a39 a40 a41
      have hh := hby (by omega)
      exact goB F1 (hNe (Or.inr (uL_n.mpr (by omega)))) (by omega) hb g a39 a41
    · intro q0 q1 q2 q3 F1 hb g a39 a40 a41 f82 f83 f84
      have hh := hby (by omega)
      exact go2 F1 (hNe (Or.inr (uL_n.mpr (by omega)))) (by omega) hb g a41 f82 f83 f84
    · intro q0 q1 q2 q3 F1 hb g a39 a40 a41
      have hh := hby (by omega)
      exact goB F1 (hNe (Or.inr (uL_n.mpr (by omega)))) (by omega) hb g a39 a41
    · intro q0 q1 q2 F1 hb g a39 a40 a41 f82 f83 f84 f85 f86
      have hh := hby (by omega)
      refine ih F1 (p + 1) (by omega) (by omega) (by omega) (hG.trans ⟨hb, g⟩ (by decide)) (by omega) (by omega) (by omega) (by omega) (hr.trans (uR_s (by omega) (uL_i.mpr (by omega)))) ?_
      rw [f86, show p + 1 - a = (p - a) + 1 by omega, uF_s, ← hv, show a + (p - a) = p by omega, hh.2, gl_c q1 q2]
theorem k2wo_T (F : Nat → sy_d) (hB : iv_in F iv_B0) (hJ : jx_ok F) (hw : wd F) (n a e : Int32) {n' a' e' : Nat} (en : n.toInt = n') (ea : a.toInt = a') (ee : e.toInt = e') (hn : n' ≤ 400) (ha : a' < e') (he : e' ≤ 2000) (hL : uL (bg F e' a') = true) : jm_T Ls xs 4 jm_M60 [.ref 31, .int n, .ref 9, .int a, .int e] (sy_dh F X1 X2 (iv_H 2)) 0 0 (coQ 2 X1 X2 F n' a' e') := by
  refine nyy_T (by decide) F (fun j => .inl (.int (if j = 0 then n else if j = 1 then a else e))) X1 X2 (A := [.inl (.ref 31), .inr (.inl 82), .inl (.ref 9), .inr (.inl 83), .inr (.inl 84)]) jm_ok60 (by decide) rfl ?_
  refine k2wo_0 (by decide) (ny F (fun j => .inl (.int (if j = 0 then n else if j = 1 then a else e)))) X1 X2 (hd_iveq0 hB ny_lt) ?_
  intro F1 hb g a39 a40 a41 f82 f83 f84 f85 f86
  refine k2wo_L X1 X2 F hJ hw hn ha he hL (e' + 1) F1 a' (by omega) (by omega) (by omega) ⟨hb, fun j hj hn => (g j hj hn).trans (ny_lt j hj)⟩ (f82.trans en) (f83.trans ea) (f84.trans ee) (f85.trans ea) rfl ?_
  rw [f86, Nat.sub_self, uF_0]
/-- one token -/
theorem k2on_T (F : Nat → sy_d) (hB : iv_in F iv_B0) (hJ : jx_ok F) (hw : wd F) (n a e : Int32) {n' a' e' : Nat} (en : n.toInt = n') (ea : a.toInt = a') (ee : e.toInt = e') (hn : n' ≤ 400) (ha : a' ≤ e') (he : e' ≤ 2000) : jm_T Ls xs 5 jm_M59 [.ref 31, .int n, .ref 9, .int a, .int e] (sy_dh F X1 X2 (iv_H 2)) 0 0 (coQ 2 X1 X2 F n' a' e') := by
  refine nyy_T (by decide) F (fun j => .inl (.int (if j = 0 then n else if j = 1 then a else e))) X1 X2 (A := [.inl (.ref 31), .inr (.inl 82), .inl (.ref 9), .inr (.inl 83), .inr (.inl 84)]) jm_ok59 (by decide) rfl ?_
  obtain ⟨F2, hF2⟩ : ∃ F2, F2 = ny F (fun j => .inl (.int (if j = 0 then n else if j = 1 then a else e))) := ⟨_, rfl⟩
  have k0 : ∀ j, j < 82 → F2 j = F j := fun j hj => by rw [hF2]; exact ny_lt j hj
  have e82 : (sy_i F2 82).toInt = n' := by rw [hF2]; exact en
  have e83 : (sy_i F2 83).toInt = a' := by rw [hF2]; exact ea
  have e84 : (sy_i F2 84).toInt = e' := by rw [hF2]; exact ee
  rw [← hF2]
  have hB2 := hd_iveq0 hB k0
  have hJ2 : jx_ok F2 := jx_ok_eq (k0 39 (by decide)) (k0 41 (by decide)) hJ
  have hw2 : wd F2 := wd_eq (k0 42 (by decide)) hw
  have eb : bg F2 = bg F := bg_eq (k0 2 (by decide))
  have ew : wg F2 = wg F := wg_eq (k0 42 (by decide))
  have hby := fun q : a' < e' => bg_c (F0 := F2) hB2 rfl e83 q
  have inc : a' < e' → ((sy_i F2 83) + 1).toInt = (a' + 1 : Nat) := fun q => by
    rw [nz_add (b := 1) e83 (by decide) (by omega) (by omega)]
    omega
  have goN : ∀ (F1 : Nat → sy_d) (c : Int32), a' < e' → uL (bg F2 e' a') = false → uD (bg F2 e' a') = false → km c.toInt = uS (bg F2 e' a') → (uS (bg F2 e' a') = 3 → c.toInt = 25) → c.toInt ≠ 24 → iv_in F1 iv_B0 → (∀ j, j < 82 → j ∉ ([39] : List Nat) → F1 j = F2 j) → sy_ai F1 39 = jm_upd (sy_ai F2 39) ((sy_i F2 82).toInt).toNat c → sy_al F1 41 = sy_al F2 41 → coQ 2 X1 X2 F n' a' e' (some (.int ((sy_i F2 83) + 1))) (sy_dh F1 X1 X2 (iv_H 2)) := fun F1 c q ql qd hk h3 h24 hb g a39 a41 => by
    rw [e82, Int.toNat_natCast] at a39
    have hK : uK (bg F2 e') e' (wg F2) a' = uS (bg F2 e' a') := by unfold uK; rw [if_neg (by omega), if_neg (by rw [ql]; decide), if_neg (by rw [qd]; decide)]
    have hs := uS_b (bg F2 e' a')
    refine ⟨_, F1, rfl, rfl, coP_eq (co_mk0 hb g a39 a41 hJ2 h24 ?_ (hk.trans hK.symm) (fun z => h3 (hK.symm.trans z)) (by rw [hK]; exact hs.2.2) (by rw [hK]; exact hs.2.1)) k0⟩
    unfold uN
    rw [if_neg (by omega), if_neg (by rw [ql]; decide), if_neg (by rw [qd]; decide)]
    exact inc q
  have goW : ∀ F1 : Nat → sy_d, a' < e' → uL (bg F2 e' a') = true → iv_in F1 iv_B0 → (∀ j, j < 82 → j ∉ ([] : List Nat) → F1 j = F2 j) → (sy_i F1 82).toInt = (sy_i F2 84).toInt → (sy_i F1 83).toInt = (sy_i F2 83).toInt → (sy_i F1 84).toInt = (sy_i F2 82).toInt → hd_W Ls xs 5 jm_M59 (coQ 2 X1 X2 F n' a' e') (31, sy_dL F1 [none, none, none, none, none], sy_dS F1 [.inr (.inl 82), .inr (.inl 83), .inl (.ref 9), .inr (.inl 84), .inl (.ref 31)], sy_dh F1 X1 X2 (iv_H 2), 0, 0) := fun F1 q ql hb g f82 f83 f84 => by
    have g1 : ∀ j, j < 82 → F1 j = F2 j := fun j hj => g j hj (by simp)
    have e1 : bg F1 = bg F2 := bg_eq (g1 2 (by decide))
    refine hd_calI (R := fun y F' => coP F1 F' n' a' e' y.toInt) (nh := 82) (nv := 85) (s := 2) (s1 := 2) (d1 := 4) (M1 := jm_M60) (As := [.inl (.ref 31), .inr (.inl 84), .inl (.ref 9), .inr (.inl 83), .inr (.inl 82)]) (rest := []) jm_ok59 rfl rfl (by decide) (by decide +kernel) (k2wo_T X1 X2 F1 hb (jx_ok_eq (g1 39 (by decide)) (g1 41 (by decide)) hJ2) (wd_eq (g1 42 (by decide)) hw2) _ _ _ (f84.trans e82) (f83.trans e83) (f82.trans e84) hn q he (by rw [e1]; exact ql)) (fun F3 F' y hR p1 p2 p3 => ?_)
    refine k2on_34 (by decide) F3 X1 X2 (hd_iveq0 hR.1.1 p1) ?_
    intro F4 hb4 g4 a39 a40 a41
    refine ⟨_, F4, rfl, rfl, ?_⟩
    rw [zz_i p3]
    exact coP_dst (coP_eq hR (fun j hj => (g1 j hj).trans (k0 j hj))) (fun j hj => (g4 j hj (by simp)).trans (p1 j hj))
  have goD : ∀ F1 : Nat → sy_d, a' < e' → uL (bg F2 e' a') = false → uD (bg F2 e' a') = true → iv_in F1 iv_B0 → (∀ j, j < 82 → j ∉ ([] : List Nat) → F1 j = F2 j) → (sy_i F1 82).toInt = (sy_i F2 84).toInt → (sy_i F1 83).toInt = (sy_i F2 83).toInt → (sy_i F1 84).toInt = (sy_i F2 82).toInt → hd_W Ls xs 5 jm_M59 (coQ 2 X1 X2 F n' a' e') (50, sy_dL F1 [none, none, none, none, none], sy_dS F1 [.inr (.inl 82), .inr (.inl 83), .inl (.ref 9), .inr (.inl 84), .inl (.ref 31)], sy_dh F1 X1 X2 (iv_H 2), 0, 0) := fun F1 q ql qd hb g f82 f83 f84 => by
    have g1 : ∀ j, j < 82 → F1 j = F2 j := fun j hj => g j hj (by simp)
    have e1 : bg F1 = bg F2 := bg_eq (g1 2 (by decide))
    refine hd_calI (R := fun y F' => coP F1 F' n' a' e' y.toInt) (nh := 82) (nv := 85) (s := 2) (s1 := 2) (d1 := 3) (M1 := jm_M61) (As := [.inl (.ref 31), .inr (.inl 84), .inl (.ref 9), .inr (.inl 83), .inr (.inl 82)]) (rest := []) jm_ok59 rfl rfl (by decide) (by decide +kernel) (k2nu_T X1 X2 F1 hb (jx_ok_eq (g1 39 (by decide)) (g1 41 (by decide)) hJ2) _ _ _ (f84.trans e82) (f83.trans e83) (f82.trans e84) hn q he (by rw [e1]; exact ql) (by rw [e1]; exact qd)) (fun F3 F' y hR p1 p2 p3 => ?_)
    refine k2on_53 (by decide) F3 X1 X2 (hd_iveq0 hR.1.1 p1) ?_
    intro F4 hb4 g4 a39 a40 a41
    refine ⟨_, F4, rfl, rfl, ?_⟩
    rw [zz_i p3]
    exact coP_dst (coP_eq hR (fun j hj => (g1 j hj).trans (k0 j hj))) (fun j hj => (g4 j hj (by simp)).trans (p1 j hj))
  refine k2on_0 (by decide) F2 X1 X2 hB2 ?_ ?_ ?_ ?_ ?_ ?_ ?_ ?_ ?_ ?_ ?_ ?_ ?_ ?_ ?_ ?_ ?_ ?_ ?_ ?_ ?_
  · omega
  · omega
  · omega
  · intro q0 q1 q2 q3 F1 hb g a39 a40 a41
    have hh := hby (by omega)
    have hs := sg_n hh.1 (by omega)
    rw [← hh.2] at hs
    exact goN F1 25 (by omega) (uL_n.mpr (by omega)) (uD_n.mpr (by omega)) (by rw [hs]; decide) (fun _ => by decide) (by decide) hb g a39 a41
  · intro q0 q1 q2 q3 F1 hb g a39 a40 a41
    have hh := hby (by omega)
    have hs := sg_y (c := ((sy_ai F2 2).getD (sy_i F2 83).toInt.toNat 0).toInt) (by omega)
    rw [← hh.2] at hs
    exact goN F1 _ (by omega) (uL_n.mpr (by omega)) (uD_n.mpr (by omega)) hs.1 (fun z => absurd z hs.2.1) hs.2.2 hb g a39 a41
  · intro q0 q1 q2 q3 F1 hb g a39 a40 a41
    have hh := hby (by omega)
    have hs := sg_y (c := ((sy_ai F2 2).getD (sy_i F2 83).toInt.toNat 0).toInt) (by omega)
    rw [← hh.2] at hs
    exact goN F1 _ (by omega) (uL_n.mpr (by omega)) (uD_n.mpr (by omega)) hs.1 (fun z => absurd z hs.2.1) hs.2.2 hb g a39 a41
  · intro q0 q1 q2 q3 F1 hb g a39 a40 a41
    have hh := hby (by omega)
    have hs := sg_y (c := ((sy_ai F2 2).getD (sy_i F2 83).toInt.toNat 0).toInt) (by omega)
    rw [← hh.2] at hs
    exact goN F1 _ (by omega) (uL_n.mpr (by omega)) (uD_n.mpr (by omega)) hs.1 (fun z => absurd z hs.2.1) hs.2.2 hb g a39 a41
  · intro q0 q1 q2 q3 F1 hb g a39 a40 a41
    have hh := hby (by omega)
    have hs := sg_y (c := ((sy_ai F2 2).getD (sy_i F2 83).toInt.toNat 0).toInt) (by omega)
    rw [← hh.2] at hs
    exact goN F1 _ (by omega) (uL_n.mpr (by omega)) (uD_n.mpr (by omega)) hs.1 (fun z => absurd z hs.2.1) hs.2.2 hb g a39 a41
  · intro q0 q1 q2 q3 F1 hb g a39 a40 a41
    have hh := hby (by omega)
    have hs := sg_n hh.1 (by omega)
    rw [← hh.2] at hs
    exact goN F1 25 (by omega) (uL_n.mpr (by omega)) (uD_n.mpr (by omega)) (by rw [hs]; decide) (fun _ => by decide) (by decide) hb g a39 a41
  · intro q0 q1 q2 q3 F1 hb g a39 a40 a41
    have hh := hby (by omega)
    have hs := sg_y (c := ((sy_ai F2 2).getD (sy_i F2 83).toInt.toNat 0).toInt) (by omega)
    rw [← hh.2] at hs
    exact goN F1 _ (by omega) (uL_n.mpr (by omega)) (uD_n.mpr (by omega)) hs.1 (fun z => absurd z hs.2.1) hs.2.2 hb g a39 a41
  · intro q0 q1 q2 q3 F1 hb g a39 a40 a41
    have hh := hby (by omega)
    have hs := sg_n hh.1 (by omega)
    rw [← hh.2] at hs
    exact goN F1 25 (by omega) (uL_n.mpr (by omega)) (uD_n.mpr (by omega)) (by rw [hs]; decide) (fun _ => by decide) (by decide) hb g a39 a41
  · intro q0 q1 q2 q3 F1 hb g a39 a40 a41
    have hh := hby (by omega)
    have hs := sg_y (c := ((sy_ai F2 2).getD (sy_i F2 83).toInt.toNat 0).toInt) (by omega)
    rw [← hh.2] at hs
    exact goN F1 _ (by omega) (uL_n.mpr (by omega)) (uD_n.mpr (by omega)) hs.1 (fun z => absurd z hs.2.1) hs.2.2 hb g a39 a41
  · intro q0 q1 q2 q3 q4 F1 hb g a39 a40 a41
    have hh := hby (by omega)
    have hs := sg_n hh.1 (by omega)
    rw [← hh.2] at hs
    exact goN F1 25 (by omega) (uL_n.mpr (by omega)) (uD_n.mpr (by omega)) (by rw [hs]; decide) (fun _ => by decide) (by decide) hb g a39 a41
  · intro q0 q1 q2 q3 q4 F1 hb g a39 a40 a41
    have hh := hby (by omega)
    have hs := sg_n hh.1 (by omega)
    rw [← hh.2] at hs
    exact goN F1 25 (by omega) (uL_n.mpr (by omega)) (uD_n.mpr (by omega)) (by rw [hs]; decide) (fun _ => by decide) (by decide) hb g a39 a41
  · intro q0 q1 q2 q3 q4 F1 hb g a39 a40 a41
    have hh := hby (by omega)
    have hs := sg_y (c := ((sy_ai F2 2).getD (sy_i F2 83).toInt.toNat 0).toInt) (by omega)
    rw [← hh.2] at hs
    exact goN F1 _ (by omega) (uL_n.mpr (by omega)) (uD_n.mpr (by omega)) hs.1 (fun z => absurd z hs.2.1) hs.2.2 hb g a39 a41
  · intro q0 q1 q2 q3 q4 F1 hb g a39 a40 a41
    have hh := hby (by omega)
    have hs := sg_y (c := ((sy_ai F2 2).getD (sy_i F2 83).toInt.toNat 0).toInt) (by omega)
    rw [← hh.2] at hs
    exact goN F1 _ (by omega) (uL_n.mpr (by omega)) (uD_n.mpr (by omega)) hs.1 (fun z => absurd z hs.2.1) hs.2.2 hb g a39 a41
  · intro q0 q1 q2 q3 q4 F1 hb g a39 a40 a41
    have hh := hby (by omega)
    have hs := sg_y (c := ((sy_ai F2 2).getD (sy_i F2 83).toInt.toNat 0).toInt) (by omega)
    rw [← hh.2] at hs
    exact goN F1 _ (by omega) (uL_n.mpr (by omega)) (uD_n.mpr (by omega)) hs.1 (fun z => absurd z hs.2.1) hs.2.2 hb g a39 a41
  · intro q0 q1 q2 q3 F1 hb g a39 a40 a41 f82 f83 f84
    have hh := hby (by omega)
    exact goD F1 (by omega) (uL_n.mpr (by omega)) (uD_i.mpr (by omega)) hb g f82 f83 f84
  · intro q0 q1 q2 q3 q4 q5 F1 hb g a39 a40 a41
    have hh := hby (by omega)
    have hs := sg_n hh.1 (by omega)
    rw [← hh.2] at hs
    exact goN F1 25 (by omega) (uL_n.mpr (by omega)) (uD_n.mpr (by omega)) (by rw [hs]; decide) (fun _ => by decide) (by decide) hb g a39 a41
  · intro q0 q1 q2 F1 hb g a39 a40 a41 f82 f83 f84
    have hh := hby (by omega)
    exact goW F1 (by omega) (uL_i.mpr (by omega)) hb g f82 f83 f84
  · intro q0 F1 hb g a39 a40 a41
    rw [e82, Int.toNat_natCast] at a39
    have hK : uK (bg F2 e') e' (wg F2) a' = 0 := by unfold uK; rw [if_pos (by omega)]
    exact ⟨_, F1, rfl, rfl, coP_eq (co_mk0 hb g a39 a41 hJ2 (by decide) (by unfold uN; rw [if_pos (by omega)]; exact e83) (by rw [hK]; decide) (fun z => absurd (hK.symm.trans z) (by decide)) (by rw [hK]; decide) (by rw [hK]; decide)) k0⟩
/-- token by token -/
theorem k2cu_B (F0 : Nat → sy_d) (hw : wd F0) {e T : Nat} (he : e ≤ 2000) (hT : T ≤ 400) (K : ∀ (F : Nat → sy_d) (i : Nat), cJ F0 F e i T 0 → uP (bg F0 e) e T = i → (sy_i F 82).toInt = e → (sy_i F 83).toInt = i → (sy_i F 84).toInt = T → ∀ F1 : Nat → sy_d, iv_in F1 iv_B0 → (∀ j, j < 82 → j ∉ ([40] : List Nat) → F1 j = F j) → sy_ai F1 40 = jm_upd (sy_ai F 40) T (sy_i F 83) → (sy_i F1 82).toInt = e → (sy_i F1 83).toInt = T → (sy_i F1 84).toInt = i → hd_W Ls xs 6 jm_M58 (cuQ 2 X1 X2 F0 e) (67, sy_dL F1 [some (.inl (.ref 31)), some (.inl (.ref 9)), none, some (.inr (.inl 82)), none, none, some (.inr (.inl 83))], sy_dS F1 [.inr (.inl 82), .inr (.inl 84), .inl (.ref 9), .inr (.inl 83), .inl (.ref 31)], sy_dh F1 X1 X2 (iv_H 2), 0, 0)) :
    ∀ (m : Nat) (F : Nat → sy_d) (i : Nat), e - i < m → cJ F0 F e i T 0 → (sy_i F 82).toInt = e → (sy_i F 83).toInt = i → (sy_i F 84).toInt = T → hd_W Ls xs 6 jm_M58 (cuQ 2 X1 X2 F0 e) (29, sy_dL F [some (.inl (.ref 31)), some (.inl (.ref 9)), none, some (.inr (.inl 82)), some (.inr (.inl 83)), none, some (.inr (.inl 84))], sy_dS F [], sy_dh F X1 X2 (iv_H 2), 0, 0) := by
  intro m
  induction m with
  | zero => intro F i hm; omega
  | succ m ih =>
    intro F i hm hI e82 e83 e84
    have hie := hI.2.2.1
    have hB := hI.1.1
    have hby := fun q : i < e => bg_c (F0 := F0) hB (hI.1.2 2 (by decide) (by decide)) e83 q
    have goB : ∀ F1 : Nat → sy_d, i < e → uB (bg F0 e i) = true → iv_in F1 iv_B0 → (∀ j, j < 82 → j ∉ ([] : List Nat) → F1 j = F j) → (sy_i F1 82).toInt = (sy_i F 82).toInt → (sy_i F1 83).toInt = (sy_i F 83).toInt + 1 → (sy_i F1 84).toInt = (sy_i F 84).toInt → hd_W Ls xs 6 jm_M58 (cuQ 2 X1 X2 F0 e) (29, sy_dL F1 [some (.inl (.ref 31)), some (.inl (.ref 9)), none, some (.inr (.inl 82)), some (.inr (.inl 83)), none, some (.inr (.inl 84))], sy_dS F1 [], sy_dh F1 X1 X2 (iv_H 2), 0, 0) := fun F1 q qb hb g f82 f83 f84 => by
      obtain ⟨h1, h2, h3, h4, h5, h6⟩ := cJ_eq hI hb (fun j hj => g j hj (by simp))
      refine ih F1 (i + 1) (by omega) ⟨h1, h2, by omega, h4, fun z => ⟨(h5 z).1, ?_⟩, fun z => absurd rfl z⟩ (by omega) (by omega) (by omega)
      rw [← uR_s q qb]
      exact (h5 z).2
    have goK : ∀ F1 : Nat → sy_d, e ≤ i ∨ uB (bg F0 e i) = false → iv_in F1 iv_B0 → (∀ j, j < 82 → j ∉ ([40] : List Nat) → F1 j = F j) → sy_ai F1 40 = jm_upd (sy_ai F 40) ((sy_i F 84).toInt).toNat (sy_i F 83) → (sy_i F1 82).toInt = (sy_i F 82).toInt → (sy_i F1 83).toInt = (sy_i F 84).toInt → (sy_i F1 84).toInt = (sy_i F 83).toInt → hd_W Ls xs 6 jm_M58 (cuQ 2 X1 X2 F0 e) (67, sy_dL F1 [some (.inl (.ref 31)), some (.inl (.ref 9)), none, some (.inr (.inl 82)), none, none, some (.inr (.inl 83))], sy_dS F1 [.inr (.inl 82), .inr (.inl 84), .inl (.ref 9), .inr (.inl 83), .inl (.ref 31)], sy_dh F1 X1 X2 (iv_H 2), 0, 0) := fun F1 q hb g a40 f82 f83 f84 => by
      rw [e84, Int.toNat_natCast] at a40
      exact K F i hI (by rw [← ((hI.2.2.2.2.1 rfl).2)]; exact uR_e q) e82 e83 e84 F1 hb g a40 (by omega) (by omega) (by omega)
    refine k2cu_29 (by decide) F X1 X2 hB ?_ ?_ ?_ ?_ ?_ ?_ ?_ ?_ ?_
    · omega
    · omega
    · omega
    · intro q1 F1 hb g a39 a40 a41 f82 f83 f84
      exact goK F1 (Or.inl (by omega)) hb g a40 f82 f83 f84
    · intro q1 q2 F1 hb g a39 a40 a41 f82 f83 f84
      have hh := hby (by omega)
      exact goB F1 (by omega) (uB_i.mpr (by omega)) hb g f82 f83 f84
    · intro q1 q2 q3 F1 hb g a39 a40 a41 f82 f83 f84
      have hh := hby (by omega)
      exact goB F1 (by omega) (uB_i.mpr (by omega)) hb g f82 f83 f84
    · intro q1 q2 q3 q4 F1 hb g a39 a40 a41 f82 f83 f84
      have hh := hby (by omega)
      exact goB F1 (by omega) (uB_i.mpr (by omega)) hb g f82 f83 f84
    · intro q1 q2 q3 q4 q5 F1 hb g a39 a40 a41 f82 f83 f84
      have hh := hby (by omega)
      exact goK F1 (Or.inr (uB_n.mpr (by omega))) hb g a40 f82 f83 f84
    · intro q1 q2 q3 q4 q5 F1 hb g a39 a40 a41 f82 f83 f84
      have hh := hby (by omega)
      exact goB F1 (by omega) (uB_i.mpr (by omega)) hb g f82 f83 f84
theorem k2cu_L (F0 : Nat → sy_d) (hw : wd F0) {e : Nat} (he : e ≤ 2000) : ∀ (m : Nat) (F : Nat → sy_d) (i T : Nat), 401 - T < m → T ≤ 401 → cJ F0 F e i T (sy_i F 84).toInt → (sy_i F 82).toInt = e → (sy_i F 83).toInt = i → (sy_i F 85).toInt = T → hd_W Ls xs 6 jm_M58 (cuQ 2 X1 X2 F0 e) (16, sy_dL F [some (.inl (.ref 31)), some (.inl (.ref 9)), none, some (.inr (.inl 82)), some (.inr (.inl 83)), some (.inr (.inl 84)), some (.inr (.inl 85))], sy_dS F [], sy_dh F X1 X2 (iv_H 2), 0, 0) := by
  intro m
  induction m with
  | zero => intro F i T hm; omega
  | succ m ih =>
    intro F i T hm hT hI e82 e83 e85
    have over : ∀ F1 : Nat → sy_d, (sy_i F 84).toInt ≠ 0 → iv_in F1 iv_B0 → (∀ j, j < 82 → j ∉ ([] : List Nat) → F1 j = F j) → cuQ 2 X1 X2 F0 e none (sy_dh F1 X1 X2 (iv_H 2)) := fun F1 q hb g => by
      obtain ⟨h1, h2, h3, h4, h5, h6⟩ := cJ_eq hI hb (fun j hj => g j hj (by simp))
      obtain ⟨t1, t2, t3⟩ := h6 q
      exact ⟨F1, rfl, rfl, h1, h2, T - 1, by omega, fun j hj => h4 j (by omega), fun j hj => t2 j (by omega), t3.elim (fun z => Or.inl z) (fun z => Or.inr (Or.inl z))⟩
    refine k2cu_16 (by decide) F X1 X2 hI.1.1 ?_ ?_ ?_ ?_
    · omega
    · intro q1 F1 hb g a39 a40 a41
      by_cases q : (sy_i F 84).toInt = 0
      · obtain ⟨h1, h2, h3, h4, h5, h6⟩ := cJ_eq hI hb (fun j hj => g j hj (by simp))
        exact ⟨F1, rfl, rfl, h1, h2, 400, Nat.le_refl _, fun j hj => h4 j (by omega), fun j hj => (h5 q).1 j (by omega), Or.inr (Or.inr rfl)⟩
      · exact over F1 q hb g
    · intro q1 q2 F1 hb g a39 a40 a41
      exact over F1 q2 hb g
    · intro q1 q2 F1 hb g a39 a40 a41 f82 f83 f84
      have hI1 := cJ_eq hI hb (fun j hj => g j hj (by simp))
      rw [q2] at hI1
      refine k2cu_B X1 X2 F0 hw he (T := T) (by omega) ?_ (e + 1) F1 i (by omega) hI1 (by omega) (by omega) (by omega)
      intro F2 i2 hI2 hu f82 f83 f84 F3 hb3 g3 a40 h82 h83 h84
      have hI2e := hI2.2.2.1
      have gg : ∀ j, j < 82 → j ∉ ([40] : List Nat) → F3 j = F2 j := g3
      have j3 : jx_ok F3 := jx_ok_eq (g3 39 (by decide) (by decide)) (g3 41 (by decide) (by decide)) hI2.2.1
      have w3 : wd F3 := wd_eq ((g3 42 (by decide) (by decide)).trans (hI2.1.2 42 (by decide) (by decide))) hw
      refine hd_calI (R := fun y F' => coP F3 F' T i2 e y.toInt) (nh := 82) (nv := 85) (s := 2) (s1 := 2) (d1 := 5) (M1 := jm_M59) (As := [.inl (.ref 31), .inr (.inl 83), .inl (.ref 9), .inr (.inl 84), .inr (.inl 82)]) (rest := []) jm_ok58 rfl rfl (by decide) (by decide +kernel) (k2on_T X1 X2 F3 hb3 j3 w3 _ _ _ h83 h84 h82 (by omega) (by omega) he) (fun F4 F' y hR p1 p2 p3 => ?_)
      have m82 := nz_fi (p2 82 (by decide) (by decide))
      have m83 := nz_fi (p2 83 (by decide) (by decide))
      have m85 : (sy_i F4 85).toInt = y.toInt := by rw [zz_i p3]
      obtain ⟨c1, c2, c3, c4, c5, c6, c7⟩ := cJ_push hI2 hu hb3 gg a40 f83 (coP_dst hR (F2 := F4) p1)
      have eK : kg F4 T = km ((sy_ai F4 39).getD (sy_i F4 83).toInt.toNat 0).toInt := by
        rw [m83, h83, Int.toNat_natCast]
        rfl
      have eK2 : ((sy_ai F4 39).getD (sy_i F4 83).toInt.toNat 0) = ((sy_ai F4 39).getD T 0) := by rw [m83, h83, Int.toNat_natCast]
      refine k2cu_70 (by decide) F4 X1 X2 c2.1 ?_ ?_ ?_ ?_
      · omega
      · intro q1 F5 hb5 g5 a39' a40' a41' n82 n83 n84 n85
        have c : cJ F0 F4 e (uN (bg F0 e) e i2) (T + 1) 1 := ⟨c2, c3, c4, c5, fun z => absurd z (by decide), fun _ => ⟨by omega, fun j hj => c6 j (by omega), Or.inl (by rw [Nat.add_sub_cancel, eK]; exact km_0.mpr q1)⟩⟩
        have c := cJ_eq c hb5 (fun j hj => g5 j hj (by simp))
        exact ih F5 (uN (bg F0 e) e i2) (T + 1) (by omega) (by omega) (by rw [n84]; exact c) (by omega) (by omega) (by omega)
      · intro q1 q2 F5 hb5 g5 a39' a40' a41' n82 n83 n84 n85
        have c : cJ F0 F4 e (uN (bg F0 e) e i2) (T + 1) 0 := ⟨c2, c3, c4, c5, fun _ => ⟨fun j hj => ?_, by rw [← hu]; rfl⟩, fun z => absurd rfl z⟩
        · have c := cJ_eq c hb5 (fun j hj => g5 j hj (by simp))
          exact ih F5 (uN (bg F0 e) e i2) (T + 1) (by omega) (by omega) (by rw [n84]; exact c) (by omega) (by omega) (by omega)
        · by_cases q : j = T
          · subst q
            exact ⟨fun z => q1 (km_0.mp (eK.symm.trans z)), fun z => q2 (by rw [eK2]; exact c7 z)⟩
          · exact c6 j (by omega)
      · intro q1 q2 F5 hb5 g5 a39' a40' a41' n82 n83 n84 n85
        have c : cJ F0 F4 e (uN (bg F0 e) e i2) (T + 1) 1 := ⟨c2, c3, c4, c5, fun z => absurd z (by decide), fun _ => ⟨by omega, fun j hj => c6 j (by omega), Or.inr (by rw [Nat.add_sub_cancel, eK, q2]; decide)⟩⟩
        have c := cJ_eq c hb5 (fun j hj => g5 j hj (by simp))
        exact ih F5 (uN (bg F0 e) e i2) (T + 1) (by omega) (by omega) (by rw [n84]; exact c) (by omega) (by omega) (by omega)
theorem k2cu_T (F : Nat → sy_d) (hB : iv_in F iv_B0) (hJ : jx_ok F) (hw : wd F) (n : Int32) {e : Nat} (en : n.toInt = e) (he : e ≤ 2000) : jm_T Ls xs 6 jm_M58 [.ref 31, .ref 9, .int n] (sy_dh F X1 X2 (iv_H 2)) 0 0 (cuQ 2 X1 X2 F e) := by
  refine nyy_T (by decide) F (fun _ => .inl (.int n)) X1 X2 (A := [.inl (.ref 31), .inl (.ref 9), .inr (.inl 82)]) jm_ok58 (by decide) rfl ?_
  have e82 : (sy_i (ny F (fun _ => .inl (.int n))) 82).toInt = e := en
  refine k2cu_0 (by decide) (ny F (fun _ => .inl (.int n))) X1 X2 (hd_iveq0 hB ny_lt) ?_ ?_
  · omega
  · intro q F1 hb g a39 a40 a41 f82 f83 f84 f85
    have g1 : ∀ j, j < 82 → F1 j = F j := fun j hj => (g j hj (by simp)).trans (ny_lt j hj)
    refine k2cu_L X1 X2 F hw he 402 F1 0 0 (by omega) (by omega) ?_ (f82.trans e82) f83 f85
    rw [f84]
    exact ⟨⟨hb, fun j hj _ => g1 j hj⟩, jx_ok_eq (g1 39 (by decide)) (g1 41 (by decide)) hJ, Nat.zero_le _, fun j hj => absurd hj (Nat.not_lt_zero _), fun _ => ⟨fun j hj => absurd hj (Nat.not_lt_zero _), rfl⟩, fun z => absurd rfl z⟩
end CU2
end
section
/-! ===== the class cuts a text into tokens (shape 3) ===== -/
section CU3
variable {Ls : Nat} {xs : Nat → Int32} (X1 X2 : List jm_c)
theorem k3wk_L (F0 : Nat → sy_d) (x : Int64) (hw : wd F0) : ∀ (m : Nat) (F : Nat → sy_d) (k : Nat), 23 - k < m → k ≤ 23 → gc [] F0 F → sy_l F 82 = x → (sy_i F 83).toInt = k → (∀ j, j < k → wg F0 j ≠ x) →
    hd_W Ls xs 2 jm_M62 (fun v G => ∃ (y : Int32) (F' : Nat → sy_d), v = some (.int y) ∧ G = sy_dh F' X1 X2 (iv_H 3) ∧ gc [] F0 F' ∧ 0 ≤ y.toInt ∧ y.toInt ≤ 23 ∧ km y.toInt = uW (wg F0) x 23) (2, sy_dL F [some (.inl (.ref 31)), some (.inr (.inr 82)), none, some (.inr (.inl 83))], sy_dS F [], sy_dh F X1 X2 (iv_H 3), 0, 0) := by
  intro m
  induction m with
  | zero => intro F k hm; omega
  | succ m ih =>
    intro F k hm hk hG e82 e83 hn
    have hc : (lg_cmp ((sy_al F 42).getD (sy_i F 83).toInt.toNat 0) (sy_l F 82)).toInt = 0 ↔ wg F0 k = x := by
      rw [lgq, e82, nz_fl (hG.2 42 (by decide) (by decide)), e83, Int.toNat_natCast]
      exact Iff.rfl
    refine k3wk_2 (by decide) F X1 X2 hG.1 ?_ ?_ ?_ ?_
    · omega
    · intro q1 F1 hb g
      refine ⟨_, F1, rfl, rfl, hG.trans ⟨hb, g⟩ (by decide), by decide, by decide, ?_⟩
      rw [uW_no 23 (fun j hj => hn j (by omega))]
      decide
    · intro q1 q2 F1 hb g f82 f83
      refine ih F1 (k + 1) (by omega) (by omega) (hG.trans ⟨hb, g⟩ (by decide)) (f82.trans e82) (by omega) (fun j hj => ?_)
      by_cases q : j = k
      · rw [q]
        exact fun z => q2 (hc.mpr z)
      · exact hn j (by omega)
    · intro q1 q2 F1 hb g
      refine ⟨_, F1, rfl, rfl, hG.trans ⟨hb, g⟩ (by decide), by omega, by omega, ?_⟩
      rw [uW_at hw (hc.mp q2) 23 (by omega) (Nat.le_refl _), km_r (by omega) (by omega)]
      omega
theorem k3wk_T (F : Nat → sy_d) (hB : iv_in F iv_B0) (hw : wd F) (x : Int64) : jm_T Ls xs 2 jm_M62 [.ref 31, .long x] (sy_dh F X1 X2 (iv_H 3)) 0 0 (fun v G => ∃ (y : Int32) (F' : Nat → sy_d), v = some (.int y) ∧ G = sy_dh F' X1 X2 (iv_H 3) ∧ gc [] F F' ∧ 0 ≤ y.toInt ∧ y.toInt ≤ 23 ∧ km y.toInt = uW (wg F) x 23) := by
  refine nyy_T (by decide) F (fun _ => .inl (.long x)) X1 X2 (A := [.inl (.ref 31), .inr (.inr 82)]) jm_ok62 (by decide) rfl ?_
  refine k3wk_0 (by decide) (ny F (fun _ => .inl (.long x))) X1 X2 (hd_iveq0 hB ny_lt) ?_
  intro F1 hb g f82 f83
  exact k3wk_L X1 X2 F x hw 24 F1 0 (by omega) (by omega) ⟨hb, fun j hj hn => (g j hj hn).trans (ny_lt j hj)⟩ (f82.trans rfl) f83 (fun j hj => absurd hj (Nat.not_lt_zero _))
/-- a number -/
theorem k3nu_L (F0 : Nat → sy_d) (hJ : jx_ok F0) {n a e : Nat} (hn : n ≤ 400) (ha : a < e) (he : e ≤ 2000) (hL : uL (bg F0 e a) = false) (hD : uD (bg F0 e a) = true) : ∀ (m : Nat) (F : Nat → sy_d) (p : Nat), e - p < m → a ≤ p → p ≤ e → gc [] F0 F → (sy_i F 82).toInt = n → (sy_i F 83).toInt = a → (sy_i F 84).toInt = e → (sy_i F 85).toInt = p → uR uD (bg F0 e) e a = uR uD (bg F0 e) e p → (p - a ≤ 4 → (sy_l F 86).toInt = uF gd (bg F0 e) a (p - a) 0 ∧ 0 ≤ (sy_l F 86).toInt ∧ (sy_l F 86).toInt ≤ 9999 ∧ (p = a → (sy_l F 86).toInt = 0) ∧ (p = a + 1 → (sy_l F 86).toInt ≤ 9) ∧ (p = a + 2 → (sy_l F 86).toInt ≤ 99) ∧ (p = a + 3 → (sy_l F 86).toInt ≤ 999)) →
    hd_W Ls xs 3 jm_M61 (coQ 3 X1 X2 F0 n a e) (6, sy_dL F [some (.inl (.ref 31)), some (.inr (.inl 82)), some (.inl (.ref 9)), some (.inr (.inl 83)), some (.inr (.inl 84)), some (.inr (.inl 85)), some (.inr (.inr 86)), none], sy_dS F [], sy_dh F X1 X2 (iv_H 3), 0, 0) := by
  intro m
  induction m with
  | zero => intro F p hm; omega
  | succ m ih =>
    intro F p hm hap hpe hG e82 e83 e84 e85 hr hv
    have hLn : ¬ (uL (bg F0 e a) = true) := by rw [hL]; decide
    have hby := fun q : p < e => bg_c (F0 := F0) hG.1 (hG.2 2 (by decide) (by decide)) e85 q
    have i39 : sy_ai F 39 = sy_ai F0 39 := nz_fa (hG.2 39 (by decide) (by decide))
    have i41 : sy_al F 41 = sy_al F0 41 := nz_fl (hG.2 41 (by decide) (by decide))
    have go2 : ∀ F1 : Nat → sy_d, uR uD (bg F0 e) e a = p → p - a ≤ 4 → iv_in F1 iv_B0 → (∀ j, j < 82 → j ∉ ([39, 41] : List Nat) → F1 j = F j) → sy_ai F1 39 = jm_upd (sy_ai F 39) ((sy_i F 82).toInt).toNat 24 → sy_al F1 41 = jm_updL (sy_al F 41) ((sy_i F 82).toInt).toNat (sy_l F 86) → coQ 3 X1 X2 F0 n a e (some (.int (sy_i F 85))) (sy_dh F1 X1 X2 (iv_H 3)) := fun F1 q q2 hb g a39 a41 => by
      obtain ⟨v1, v2, v3, -⟩ := hv q2
      rw [e82, Int.toNat_natCast, i39] at a39
      rw [e82, Int.toNat_natCast, i41] at a41
      have hK : uK (bg F0 e) e (wg F0) a = 2 := by unfold uK; rw [if_neg (by omega), if_neg hLn, if_pos hD, q, if_neg (by omega)]
      refine ⟨_, F1, rfl, rfl, co_mk ⟨hb, fun j hj hn => (g j hj hn).trans (hG.2 j hj (by simp))⟩ a39 a41 hJ (fun _ => ⟨v2, v3⟩) ?_ (by rw [hK]; decide) (fun z => absurd (hK.symm.trans z) (by decide)) (fun _ => ?_) (fun z => absurd (hK.symm.trans z) (by decide))⟩
      · unfold uN
        rw [if_neg (by omega), if_neg hLn, if_pos hD, q]
        exact e85
      · rw [t32 v2 v3, q]
        exact v1
    have goB : ∀ F1 : Nat → sy_d, uR uD (bg F0 e) e a = p → 4 < p - a → iv_in F1 iv_B0 → (∀ j, j < 82 → j ∉ ([39, 41] : List Nat) → F1 j = F j) → sy_ai F1 39 = jm_upd (sy_ai F 39) ((sy_i F 82).toInt).toNat 25 → sy_al F1 41 = jm_updL (sy_al F 41) ((sy_i F 82).toInt).toNat (sy_l F 86) → coQ 3 X1 X2 F0 n a e (some (.int (sy_i F 85))) (sy_dh F1 X1 X2 (iv_H 3)) := fun F1 q q2 hb g a39 a41 => by
      rw [e82, Int.toNat_natCast, i39] at a39
      rw [e82, Int.toNat_natCast, i41] at a41
      have hK : uK (bg F0 e) e (wg F0) a = 3 := by unfold uK; rw [if_neg (by omega), if_neg hLn, if_pos hD, q, if_pos (by omega)]
      refine ⟨_, F1, rfl, rfl, co_mk ⟨hb, fun j hj hn => (g j hj hn).trans (hG.2 j hj (by simp))⟩ a39 a41 hJ (fun z => absurd z (by decide)) ?_ (by rw [hK]; decide) (fun _ => by decide) (fun z => absurd (hK.symm.trans z) (by decide)) (fun z => absurd (hK.symm.trans z) (by decide))⟩
      unfold uN
      rw [if_neg (by omega), if_neg hLn, if_pos hD, q]
      exact e85
    have hNe : e ≤ p ∨ uD (bg F0 e p) = false → uR uD (bg F0 e) e a = p := fun q => hr.trans (uR_e q)
    refine k3nu_6 (by decide) F X1 X2 hG.1 ?_ ?_ ?_ ?_ ?_ ?_ ?_ ?_ ?_ ?_ ?_
    · omega
    · omega
    · omega
    · omega
    · intro q1 q2 F1 hb g a39 a40 a41
      exact go2 F1 (hNe (Or.inl (by omega))) (by omega) hb g a39 a41
    · intro q1 q2 F1 hb g a39 a40 a41
      exact goB F1 (hNe (Or.inl (by omega))) (by omega) hb g a39 a41
    · intro q0 q1 q2 F1 hb g a39 a40 a41
      have hh := hby (by omega)
      exact go2 F1 (hNe (Or.inr (uD_n.mpr (by omega)))) (by omega) hb g a39 a41
    · intro q0 q1 q2 F1 hb g a39 a40 a41
      have hh := hby (by omega)
      exact goB F1 (hNe (Or.inr (uD_n.mpr (by omega)))) (by omega) hb g a39 a41
    · intro q0 q1 q2 q3 F1 hb g a39 a40 a41
      have hh := hby (by omega)
      exact go2 F1 (hNe (Or.inr (uD_n.mpr (by omega)))) (by omega) hb g a39 a41
    · intro q0 q1 q2 q3 F1 hb g a39 a40 a41
      have hh := hby (by omega)
      exact goB F1 (hNe (Or.inr (uD_n.mpr (by omega)))) (by omega) hb g a39 a41
    · intro q0 q1 q2 F1 hb g a39 a40 a41 f82 f83 f84 f85 f86
      have hh := hby (by omega)
      refine ih F1 (p + 1) (by omega) (by omega) (by omega) (hG.trans ⟨hb, g⟩ (by decide)) (by omega) (by omega) (by omega) (by omega) (hr.trans (uR_s (by omega) (uD_i.mpr (by omega)))) (fun z => ?_)
      obtain ⟨v1, v2, v3, v4, v5, v6, v7⟩ := hv (by omega)
      have hm := cn_num v2 (by omega) q1 q2
      rw [f86, show p + 1 - a = (p - a) + 1 by omega, uF_s, ← v1, show a + (p - a) = p by omega]
      show _ = 10 * _ + (_ - 48) ∧ _
      omega
theorem k3nu_T (F : Nat → sy_d) (hB : iv_in F iv_B0) (hJ : jx_ok F) (n a e : Int32) {n' a' e' : Nat} (en : n.toInt = n') (ea : a.toInt = a') (ee : e.toInt = e') (hn : n' ≤ 400) (ha : a' < e') (he : e' ≤ 2000) (hL : uL (bg F e' a') = false) (hD : uD (bg F e' a') = true) : jm_T Ls xs 3 jm_M61 [.ref 31, .int n, .ref 9, .int a, .int e] (sy_dh F X1 X2 (iv_H 3)) 0 0 (coQ 3 X1 X2 F n' a' e') := by
  refine nyy_T (by decide) F (fun j => .inl (.int (if j = 0 then n else if j = 1 then a else e))) X1 X2 (A := [.inl (.ref 31), .inr (.inl 82), .inl (.ref 9), .inr (.inl 83), .inr (.inl 84)]) jm_ok61 (by decide) rfl ?_
  refine k3nu_0 (by decide) (ny F (fun j => .inl (.int (if j = 0 then n else if j = 1 then a else e)))) X1 X2 (hd_iveq0 hB ny_lt) ?_
  intro F1 hb g a39 a40 a41 f82 f83 f84 f85 f86
  have z : (0 : Int64).toInt = 0 := by decide
  refine k3nu_L X1 X2 F hJ hn ha he hL hD (e' + 1) F1 a' (by omega) (by omega) (by omega) ⟨hb, fun j hj hn => (g j hj hn).trans (ny_lt j hj)⟩ (f82.trans en) (f83.trans ea) (f84.trans ee) (f85.trans ea) rfl (fun _ => ?_)
  rw [f86, z, Nat.sub_self, uF_0]
  omega
/-- a word -/
theorem k3wo_L (F0 : Nat → sy_d) (hJ : jx_ok F0) (hw : wd F0) {n a e : Nat} (hn : n ≤ 400) (ha : a < e) (he : e ≤ 2000) (hL : uL (bg F0 e a) = true) : ∀ (m : Nat) (F : Nat → sy_d) (p : Nat), e - p < m → a ≤ p → p ≤ e → gc [] F0 F → (sy_i F 82).toInt = n → (sy_i F 83).toInt = a → (sy_i F 84).toInt = e → (sy_i F 85).toInt = p → uR uL (bg F0 e) e a = uR uL (bg F0 e) e p → sy_l F 86 = uF gl (bg F0 e) a (p - a) 0 →
    hd_W Ls xs 4 jm_M60 (coQ 3 X1 X2 F0 n a e) (6, sy_dL F [some (.inl (.ref 31)), some (.inr (.inl 82)), some (.inl (.ref 9)), some (.inr (.inl 83)), some (.inr (.inl 84)), some (.inr (.inl 85)), some (.inr (.inr 86)), none], sy_dS F [], sy_dh F X1 X2 (iv_H 3), 0, 0) := by
  intro m
  induction m with
  | zero => intro F p hm; omega
  | succ m ih =>
    intro F p hm hap hpe hG e82 e83 e84 e85 hr hv
    have hby := fun q : p < e => bg_c (F0 := F0) hG.1 (hG.2 2 (by decide) (by decide)) e85 q
    have i39 : sy_ai F 39 = sy_ai F0 39 := nz_fa (hG.2 39 (by decide) (by decide))
    have i41 : sy_al F 41 = sy_al F0 41 := nz_fl (hG.2 41 (by decide) (by decide))
    have hN : uR uL (bg F0 e) e a = p → ((sy_i F 85).toInt : Int) = (uN (bg F0 e) e a : Nat) := fun q => by
      unfold uN
      rw [if_neg (by omega), if_pos hL, q]
      exact e85
    have go2 : ∀ F1 : Nat → sy_d, uR uL (bg F0 e) e a = p → p - a ≤ 8 → iv_in F1 iv_B0 → (∀ j, j < 82 → j ∉ ([41] : List Nat) → F1 j = F j) → sy_al F1 41 = jm_updL (sy_al F 41) ((sy_i F 82).toInt).toNat (sy_l F 86) → (sy_i F1 82).toInt = (sy_i F 85).toInt → sy_l F1 83 = sy_l F 86 → (sy_i F1 84).toInt = (sy_i F 82).toInt → hd_W Ls xs 4 jm_M60 (coQ 3 X1 X2 F0 n a e) (70, sy_dL F1 [none, none, none, none, none, some (.inr (.inl 82)), none, none], sy_dS F1 [.inr (.inr 83), .inl (.ref 31), .inr (.inl 84), .inl (.ref 32)], sy_dh F1 X1 X2 (iv_H 3), 0, 0) := fun F1 q q2 hb g a41 f82 f83 f84 => by
      have hG1 : gc [41] F0 F1 := ⟨hb, fun j hj hn => (g j hj hn).trans (hG.2 j hj (by simp))⟩
      have hw1 : wd F1 := wd_eq (hG1.2 42 (by decide) (by decide)) hw
      have ew : wg F1 = wg F0 := wg_eq (hG1.2 42 (by decide) (by decide))
      refine hd_calI (R := fun y F' => gc [] F1 F' ∧ 0 ≤ y.toInt ∧ y.toInt ≤ 23 ∧ km y.toInt = uW (wg F1) (sy_l F1 83) 23) (nh := 82) (nv := 85) (s := 3) (s1 := 3) (d1 := 2) (M1 := jm_M62) (As := [.inl (.ref 31), .inr (.inr 83)]) (rest := [.inr (.inl 84), .inl (.ref 32)]) jm_ok60 rfl rfl (by decide) (by decide +kernel) (k3wk_T X1 X2 F1 hb hw1 _) (fun F3 F' y hR p1 p2 p3 => ?_)
      obtain ⟨r1, r2, r3, r4⟩ := hR
      have f82' := nz_fi (p2 82 (by decide) (by decide))
      have f84' := nz_fi (p2 84 (by decide) (by decide))
      have f85' : sy_i F3 85 = y := zz_i p3
      have g3 : ∀ j, j < 82 → F3 j = F1 j := fun j hj => (p1 j hj).trans (r1.2 j hj (by simp))
      refine k3wo_73 (by decide) F3 X1 X2 (hd_iveq0 r1.1 p1) (by omega) ?_
      intro F4 hb4 g4 a39' a40' a41'
      rw [nz_fa (g3 39 (by decide)), nz_fa (hG1.2 39 (by decide) (by decide)), f84', f84, e82, Int.toNat_natCast, f85'] at a39'
      rw [nz_fl (g3 41 (by decide)), a41, i41, e82, Int.toNat_natCast] at a41'
      have hK : uK (bg F0 e) e (wg F0) a = km y.toInt := by unfold uK; rw [if_neg (by omega), if_pos hL, q, if_neg (by omega), r4, ew, f83, hv]
      have hb0 := uW_b (w := wg F1) (x := sy_l F1 83) 23
      refine ⟨_, F4, rfl, rfl, co_mk ⟨hb4, fun j hj hn => ?_⟩ a39' a41' hJ (fun z => by omega) ?_ hK.symm (fun z => ?_) (fun z => ?_) (fun _ => by rw [q]; exact hv)⟩
      · have n39 : j ∉ ([39] : List Nat) := fun q => hn (by revert q; simp; omega)
        have n41 : j ∉ ([41] : List Nat) := fun q => hn (by revert q; simp; omega)
        exact (g4 j hj n39).trans ((g3 j hj).trans (hG1.2 j hj n41))
      · rw [f82', f82]
        exact hN q
      · rw [hK, r4] at z; exact absurd z hb0.2.2.1
      · rw [hK, r4] at z; exact absurd z hb0.2.2.2
    have goB : ∀ F1 : Nat → sy_d, uR uL (bg F0 e) e a = p → 8 < p - a → iv_in F1 iv_B0 → (∀ j, j < 82 → j ∉ ([39, 41] : List Nat) → F1 j = F j) → sy_ai F1 39 = jm_upd (sy_ai F 39) ((sy_i F 82).toInt).toNat 25 → sy_al F1 41 = jm_updL (sy_al F 41) ((sy_i F 82).toInt).toNat (sy_l F 86) → coQ 3 X1 X2 F0 n a e (some (.int (sy_i F 85))) (sy_dh F1 X1 X2 (iv_H 3)) := fun F1 q q2 hb g a39 a41 => by
      rw [e82, Int.toNat_natCast, i39] at a39
      rw [e82, Int.toNat_natCast, i41] at a41
      have hK : uK (bg F0 e) e (wg F0) a = 3 := by unfold uK; rw [if_neg (by omega), if_pos hL, q, if_pos (by omega)]
      exact ⟨_, F1, rfl, rfl, co_mk ⟨hb, fun j hj hn => (g j hj hn).trans (hG.2 j hj (by simp))⟩ a39 a41 hJ (fun z => absurd z (by decide)) (hN q) (by rw [hK]; decide) (fun _ => by decide) (fun z => absurd (hK.symm.trans z) (by decide)) (fun z => absurd (hK.symm.trans z) (by decide))⟩
    have hNe : e ≤ p ∨ uL (bg F0 e p) = false → uR uL (bg F0 e) e a = p := fun q => hr.trans (uR_e q)
    refine k3wo_6 (by decide) F X1 X2 hG.1 ?_ ?_ ?_ ?_ ?_ ?_ ?_ ?_ ?_ ?_ ?_
    · omega
    · omega
    · omega
    · omega
    · intro q1 q2 F1 hb g a39 a40 a41 f82 f83 f84
      exact go2 F1 (hNe (Or.inl (by omega))) (by omega) hb g a41 f82 f83 f84
    · intro q1 q2 F1 hb g a39 a40 a41
      exact goB F1 (hNe (Or.inl (by omega))) (by omega) hb g a39 a41
    · intro q0 q1 q2 F1 hb g a39 a40 a41 f82 f83 f84
      have hh := hby (by omega)
      exact go2 F1 (hNe (Or.inr (uL_n.mpr (by omega)))) (by omega) hb g a41 f82 f83 f84
    · intro q0 q1 q2 F1 hb g a39 a40 a41
      have hh := hby (by omega)
      exact goB F1 (hNe (Or.inr (uL_n.mpr (by omega)))) (by omega) hb g a39 a41
    · intro q0 q1 q2 q3 F1 hb g a39 a40 a41 f82 f83 f84
      have hh := hby (by omega)
      exact go2 F1 (hNe (Or.inr (uL_n.mpr (by omega)))) (by omega) hb g a41 f82 f83 f84
    · intro q0 q1 q2 q3 F1 hb g a39 a40 a41
      have hh := hby (by omega)
      exact goB F1 (hNe (Or.inr (uL_n.mpr (by omega)))) (by omega) hb g a39 a41
    · intro q0 q1 q2 F1 hb g a39 a40 a41 f82 f83 f84 f85 f86
      have hh := hby (by omega)
      refine ih F1 (p + 1) (by omega) (by omega) (by omega) (hG.trans ⟨hb, g⟩ (by decide)) (by omega) (by omega) (by omega) (by omega) (hr.trans (uR_s (by omega) (uL_i.mpr (by omega)))) ?_
      rw [f86, show p + 1 - a = (p - a) + 1 by omega, uF_s, ← hv, show a + (p - a) = p by omega, hh.2, gl_c q1 q2]
theorem k3wo_T (F : Nat → sy_d) (hB : iv_in F iv_B0) (hJ : jx_ok F) (hw : wd F) (n a e : Int32) {n' a' e' : Nat} (en : n.toInt = n') (ea : a.toInt = a') (ee : e.toInt = e') (hn : n' ≤ 400) (ha : a' < e') (he : e' ≤ 2000) (hL : uL (bg F e' a') = true) : jm_T Ls xs 4 jm_M60 [.ref 31, .int n, .ref 9, .int a, .int e] (sy_dh F X1 X2 (iv_H 3)) 0 0 (coQ 3 X1 X2 F n' a' e') := by
  refine nyy_T (by decide) F (fun j => .inl (.int (if j = 0 then n else if j = 1 then a else e))) X1 X2 (A := [.inl (.ref 31), .inr (.inl 82), .inl (.ref 9), .inr (.inl 83), .inr (.inl 84)]) jm_ok60 (by decide) rfl ?_
  refine k3wo_0 (by decide) (ny F (fun j => .inl (.int (if j = 0 then n else if j = 1 then a else e)))) X1 X2 (hd_iveq0 hB ny_lt) ?_
  intro F1 hb g a39 a40 a41 f82 f83 f84 f85 f86
  refine k3wo_L X1 X2 F hJ hw hn ha he hL (e' + 1) F1 a' (by omega) (by omega) (by omega) ⟨hb, fun j hj hn => (g j hj hn).trans (ny_lt j hj)⟩ (f82.trans en) (f83.trans ea) (f84.trans ee) (f85.trans ea) rfl ?_
  rw [f86, Nat.sub_self, uF_0]
/-- one token -/
theorem k3on_T (F : Nat → sy_d) (hB : iv_in F iv_B0) (hJ : jx_ok F) (hw : wd F) (n a e : Int32) {n' a' e' : Nat} (en : n.toInt = n') (ea : a.toInt = a') (ee : e.toInt = e') (hn : n' ≤ 400) (ha : a' ≤ e') (he : e' ≤ 2000) : jm_T Ls xs 5 jm_M59 [.ref 31, .int n, .ref 9, .int a, .int e] (sy_dh F X1 X2 (iv_H 3)) 0 0 (coQ 3 X1 X2 F n' a' e') := by
  refine nyy_T (by decide) F (fun j => .inl (.int (if j = 0 then n else if j = 1 then a else e))) X1 X2 (A := [.inl (.ref 31), .inr (.inl 82), .inl (.ref 9), .inr (.inl 83), .inr (.inl 84)]) jm_ok59 (by decide) rfl ?_
  obtain ⟨F2, hF2⟩ : ∃ F2, F2 = ny F (fun j => .inl (.int (if j = 0 then n else if j = 1 then a else e))) := ⟨_, rfl⟩
  have k0 : ∀ j, j < 82 → F2 j = F j := fun j hj => by rw [hF2]; exact ny_lt j hj
  have e82 : (sy_i F2 82).toInt = n' := by rw [hF2]; exact en
  have e83 : (sy_i F2 83).toInt = a' := by rw [hF2]; exact ea
  have e84 : (sy_i F2 84).toInt = e' := by rw [hF2]; exact ee
  rw [← hF2]
  have hB2 := hd_iveq0 hB k0
  have hJ2 : jx_ok F2 := jx_ok_eq (k0 39 (by decide)) (k0 41 (by decide)) hJ
  have hw2 : wd F2 := wd_eq (k0 42 (by decide)) hw
  have eb : bg F2 = bg F := bg_eq (k0 2 (by decide))
  have ew : wg F2 = wg F := wg_eq (k0 42 (by decide))
  have hby := fun q : a' < e' => bg_c (F0 := F2) hB2 rfl e83 q
  have inc : a' < e' → ((sy_i F2 83) + 1).toInt = (a' + 1 : Nat) := fun q => by
    rw [nz_add (b := 1) e83 (by decide) (by omega) (by omega)]
    omega
  have goN : ∀ (F1 : Nat → sy_d) (c : Int32), a' < e' → uL (bg F2 e' a') = false → uD (bg F2 e' a') = false → km c.toInt = uS (bg F2 e' a') → (uS (bg F2 e' a') = 3 → c.toInt = 25) → c.toInt ≠ 24 → iv_in F1 iv_B0 → (∀ j, j < 82 → j ∉ ([39] : List Nat) → F1 j = F2 j) → sy_ai F1 39 = jm_upd (sy_ai F2 39) ((sy_i F2 82).toInt).toNat c → sy_al F1 41 = sy_al F2 41 → coQ 3 X1 X2 F n' a' e' (some (.int ((sy_i F2 83) + 1))) (sy_dh F1 X1 X2 (iv_H 3)) := fun F1 c q ql qd hk h3 h24 hb g a39 a41 => by
    rw [e82, Int.toNat_natCast] at a39
    have hK : uK (bg F2 e') e' (wg F2) a' = uS (bg F2 e' a') := by unfold uK; rw [if_neg (by omega), if_neg (by rw [ql]; decide), if_neg (by rw [qd]; decide)]
    have hs := uS_b (bg F2 e' a')
    refine ⟨_, F1, rfl, rfl, coP_eq (co_mk0 hb g a39 a41 hJ2 h24 ?_ (hk.trans hK.symm) (fun z => h3 (hK.symm.trans z)) (by rw [hK]; exact hs.2.2) (by rw [hK]; exact hs.2.1)) k0⟩
    unfold uN
    rw [if_neg (by omega), if_neg (by rw [ql]; decide), if_neg (by rw [qd]; decide)]
    exact inc q
  have goW : ∀ F1 : Nat → sy_d, a' < e' → uL (bg F2 e' a') = true → iv_in F1 iv_B0 → (∀ j, j < 82 → j ∉ ([] : List Nat) → F1 j = F2 j) → (sy_i F1 82).toInt = (sy_i F2 84).toInt → (sy_i F1 83).toInt = (sy_i F2 83).toInt → (sy_i F1 84).toInt = (sy_i F2 82).toInt → hd_W Ls xs 5 jm_M59 (coQ 3 X1 X2 F n' a' e') (31, sy_dL F1 [none, none, none, none, none], sy_dS F1 [.inr (.inl 82), .inr (.inl 83), .inl (.ref 9), .inr (.inl 84), .inl (.ref 31)], sy_dh F1 X1 X2 (iv_H 3), 0, 0) := fun F1 q ql hb g f82 f83 f84 => by
    have g1 : ∀ j, j < 82 → F1 j = F2 j := fun j hj => g j hj (by simp)
    have e1 : bg F1 = bg F2 := bg_eq (g1 2 (by decide))
    refine hd_calI (R := fun y F' => coP F1 F' n' a' e' y.toInt) (nh := 82) (nv := 85) (s := 3) (s1 := 3) (d1 := 4) (M1 := jm_M60) (As := [.inl (.ref 31), .inr (.inl 84), .inl (.ref 9), .inr (.inl 83), .inr (.inl 82)]) (rest := []) jm_ok59 rfl rfl (by decide) (by decide +kernel) (k3wo_T X1 X2 F1 hb (jx_ok_eq (g1 39 (by decide)) (g1 41 (by decide)) hJ2) (wd_eq (g1 42 (by decide)) hw2) _ _ _ (f84.trans e82) (f83.trans e83) (f82.trans e84) hn q he (by rw [e1]; exact ql)) (fun F3 F' y hR p1 p2 p3 => ?_)
    refine k3on_34 (by decide) F3 X1 X2 (hd_iveq0 hR.1.1 p1) ?_
    intro F4 hb4 g4 a39 a40 a41
    refine ⟨_, F4, rfl, rfl, ?_⟩
    rw [zz_i p3]
    exact coP_dst (coP_eq hR (fun j hj => (g1 j hj).trans (k0 j hj))) (fun j hj => (g4 j hj (by simp)).trans (p1 j hj))
  have goD : ∀ F1 : Nat → sy_d, a' < e' → uL (bg F2 e' a') = false → uD (bg F2 e' a') = true → iv_in F1 iv_B0 → (∀ j, j < 82 → j ∉ ([] : List Nat) → F1 j = F2 j) → (sy_i F1 82).toInt = (sy_i F2 84).toInt → (sy_i F1 83).toInt = (sy_i F2 83).toInt → (sy_i F1 84).toInt = (sy_i F2 82).toInt → hd_W Ls xs 5 jm_M59 (coQ 3 X1 X2 F n' a' e') (50, sy_dL F1 [none, none, none, none, none], sy_dS F1 [.inr (.inl 82), .inr (.inl 83), .inl (.ref 9), .inr (.inl 84), .inl (.ref 31)], sy_dh F1 X1 X2 (iv_H 3), 0, 0) := fun F1 q ql qd hb g f82 f83 f84 => by
    have g1 : ∀ j, j < 82 → F1 j = F2 j := fun j hj => g j hj (by simp)
    have e1 : bg F1 = bg F2 := bg_eq (g1 2 (by decide))
    refine hd_calI (R := fun y F' => coP F1 F' n' a' e' y.toInt) (nh := 82) (nv := 85) (s := 3) (s1 := 3) (d1 := 3) (M1 := jm_M61) (As := [.inl (.ref 31), .inr (.inl 84), .inl (.ref 9), .inr (.inl 83), .inr (.inl 82)]) (rest := []) jm_ok59 rfl rfl (by decide) (by decide +kernel) (k3nu_T X1 X2 F1 hb (jx_ok_eq (g1 39 (by decide)) (g1 41 (by decide)) hJ2) _ _ _ (f84.trans e82) (f83.trans e83) (f82.trans e84) hn q he (by rw [e1]; exact ql) (by rw [e1]; exact qd)) (fun F3 F' y hR p1 p2 p3 => ?_)
    refine k3on_53 (by decide) F3 X1 X2 (hd_iveq0 hR.1.1 p1) ?_
    intro F4 hb4 g4 a39 a40 a41
    refine ⟨_, F4, rfl, rfl, ?_⟩
    rw [zz_i p3]
    exact coP_dst (coP_eq hR (fun j hj => (g1 j hj).trans (k0 j hj))) (fun j hj => (g4 j hj (by simp)).trans (p1 j hj))
  refine k3on_0 (by decide) F2 X1 X2 hB2 ?_ ?_ ?_ ?_ ?_ ?_ ?_ ?_ ?_ ?_ ?_ ?_ ?_ ?_ ?_ ?_ ?_ ?_ ?_ ?_ ?_
  · omega
  · omega
  · omega
  · intro q0 q1 q2 q3 F1 hb g a39 a40 a41
    have hh := hby (by omega)
    have hs := sg_n hh.1 (by omega)
    rw [← hh.2] at hs
    exact goN F1 25 (by omega) (uL_n.mpr (by omega)) (uD_n.mpr (by omega)) (by rw [hs]; decide) (fun _ => by decide) (by decide) hb g a39 a41
  · intro q0 q1 q2 q3 F1 hb g a39 a40 a41
    have hh := hby (by omega)
    have hs := sg_y (c := ((sy_ai F2 2).getD (sy_i F2 83).toInt.toNat 0).toInt) (by omega)
    rw [← hh.2] at hs
    exact goN F1 _ (by omega) (uL_n.mpr (by omega)) (uD_n.mpr (by omega)) hs.1 (fun z => absurd z hs.2.1) hs.2.2 hb g a39 a41
  · intro q0 q1 q2 q3 F1 hb g a39 a40 a41
    have hh := hby (by omega)
    have hs := sg_y (c := ((sy_ai F2 2).getD (sy_i F2 83).toInt.toNat 0).toInt) (by omega)
    rw [← hh.2] at hs
    exact goN F1 _ (by omega) (uL_n.mpr (by omega)) (uD_n.mpr (by omega)) hs.1 (fun z => absurd z hs.2.1) hs.2.2 hb g a39 a41
  · intro q0 q1 q2 q3 F1 hb g a39 a40 a41
    have hh := hby (by omega)
    have hs := sg_y (c := ((sy_ai F2 2).getD (sy_i F2 83).toInt.toNat 0).toInt) (by omega)
    rw [← hh.2] at hs
    exact goN F1 _ (by omega) (uL_n.mpr (by omega)) (uD_n.mpr (by omega)) hs.1 (fun z => absurd z hs.2.1) hs.2.2 hb g a39 a41
  · intro q0 q1 q2 q3 F1 hb g a39 a40 a41
    have hh := hby (by omega)
    have hs := sg_y (c := ((sy_ai F2 2).getD (sy_i F2 83).toInt.toNat 0).toInt) (by omega)
    rw [← hh.2] at hs
    exact goN F1 _ (by omega) (uL_n.mpr (by omega)) (uD_n.mpr (by omega)) hs.1 (fun z => absurd z hs.2.1) hs.2.2 hb g a39 a41
  · intro q0 q1 q2 q3 F1 hb g a39 a40 a41
    have hh := hby (by omega)
    have hs := sg_n hh.1 (by omega)
    rw [← hh.2] at hs
    exact goN F1 25 (by omega) (uL_n.mpr (by omega)) (uD_n.mpr (by omega)) (by rw [hs]; decide) (fun _ => by decide) (by decide) hb g a39 a41
  · intro q0 q1 q2 q3 F1 hb g a39 a40 a41
    have hh := hby (by omega)
    have hs := sg_y (c := ((sy_ai F2 2).getD (sy_i F2 83).toInt.toNat 0).toInt) (by omega)
    rw [← hh.2] at hs
    exact goN F1 _ (by omega) (uL_n.mpr (by omega)) (uD_n.mpr (by omega)) hs.1 (fun z => absurd z hs.2.1) hs.2.2 hb g a39 a41
  · intro q0 q1 q2 q3 F1 hb g a39 a40 a41
    have hh := hby (by omega)
    have hs := sg_n hh.1 (by omega)
    rw [← hh.2] at hs
    exact goN F1 25 (by omega) (uL_n.mpr (by omega)) (uD_n.mpr (by omega)) (by rw [hs]; decide) (fun _ => by decide) (by decide) hb g a39 a41
  · intro q0 q1 q2 q3 F1 hb g a39 a40 a41
    have hh := hby (by omega)
    have hs := sg_y (c := ((sy_ai F2 2).getD (sy_i F2 83).toInt.toNat 0).toInt) (by omega)
    rw [← hh.2] at hs
    exact goN F1 _ (by omega) (uL_n.mpr (by omega)) (uD_n.mpr (by omega)) hs.1 (fun z => absurd z hs.2.1) hs.2.2 hb g a39 a41
  · intro q0 q1 q2 q3 q4 F1 hb g a39 a40 a41
    have hh := hby (by omega)
    have hs := sg_n hh.1 (by omega)
    rw [← hh.2] at hs
    exact goN F1 25 (by omega) (uL_n.mpr (by omega)) (uD_n.mpr (by omega)) (by rw [hs]; decide) (fun _ => by decide) (by decide) hb g a39 a41
  · intro q0 q1 q2 q3 q4 F1 hb g a39 a40 a41
    have hh := hby (by omega)
    have hs := sg_n hh.1 (by omega)
    rw [← hh.2] at hs
    exact goN F1 25 (by omega) (uL_n.mpr (by omega)) (uD_n.mpr (by omega)) (by rw [hs]; decide) (fun _ => by decide) (by decide) hb g a39 a41
  · intro q0 q1 q2 q3 q4 F1 hb g a39 a40 a41
    have hh := hby (by omega)
    have hs := sg_y (c := ((sy_ai F2 2).getD (sy_i F2 83).toInt.toNat 0).toInt) (by omega)
    rw [← hh.2] at hs
    exact goN F1 _ (by omega) (uL_n.mpr (by omega)) (uD_n.mpr (by omega)) hs.1 (fun z => absurd z hs.2.1) hs.2.2 hb g a39 a41
  · intro q0 q1 q2 q3 q4 F1 hb g a39 a40 a41
    have hh := hby (by omega)
    have hs := sg_y (c := ((sy_ai F2 2).getD (sy_i F2 83).toInt.toNat 0).toInt) (by omega)
    rw [← hh.2] at hs
    exact goN F1 _ (by omega) (uL_n.mpr (by omega)) (uD_n.mpr (by omega)) hs.1 (fun z => absurd z hs.2.1) hs.2.2 hb g a39 a41
  · intro q0 q1 q2 q3 q4 F1 hb g a39 a40 a41
    have hh := hby (by omega)
    have hs := sg_y (c := ((sy_ai F2 2).getD (sy_i F2 83).toInt.toNat 0).toInt) (by omega)
    rw [← hh.2] at hs
    exact goN F1 _ (by omega) (uL_n.mpr (by omega)) (uD_n.mpr (by omega)) hs.1 (fun z => absurd z hs.2.1) hs.2.2 hb g a39 a41
  · intro q0 q1 q2 q3 F1 hb g a39 a40 a41 f82 f83 f84
    have hh := hby (by omega)
    exact goD F1 (by omega) (uL_n.mpr (by omega)) (uD_i.mpr (by omega)) hb g f82 f83 f84
  · intro q0 q1 q2 q3 q4 q5 F1 hb g a39 a40 a41
    have hh := hby (by omega)
    have hs := sg_n hh.1 (by omega)
    rw [← hh.2] at hs
    exact goN F1 25 (by omega) (uL_n.mpr (by omega)) (uD_n.mpr (by omega)) (by rw [hs]; decide) (fun _ => by decide) (by decide) hb g a39 a41
  · intro q0 q1 q2 F1 hb g a39 a40 a41 f82 f83 f84
    have hh := hby (by omega)
    exact goW F1 (by omega) (uL_i.mpr (by omega)) hb g f82 f83 f84
  · intro q0 F1 hb g a39 a40 a41
    rw [e82, Int.toNat_natCast] at a39
    have hK : uK (bg F2 e') e' (wg F2) a' = 0 := by unfold uK; rw [if_pos (by omega)]
    exact ⟨_, F1, rfl, rfl, coP_eq (co_mk0 hb g a39 a41 hJ2 (by decide) (by unfold uN; rw [if_pos (by omega)]; exact e83) (by rw [hK]; decide) (fun z => absurd (hK.symm.trans z) (by decide)) (by rw [hK]; decide) (by rw [hK]; decide)) k0⟩
/-- token by token -/
theorem k3cu_B (F0 : Nat → sy_d) (hw : wd F0) {e T : Nat} (he : e ≤ 2000) (hT : T ≤ 400) (K : ∀ (F : Nat → sy_d) (i : Nat), cJ F0 F e i T 0 → uP (bg F0 e) e T = i → (sy_i F 82).toInt = e → (sy_i F 83).toInt = i → (sy_i F 84).toInt = T → ∀ F1 : Nat → sy_d, iv_in F1 iv_B0 → (∀ j, j < 82 → j ∉ ([40] : List Nat) → F1 j = F j) → sy_ai F1 40 = jm_upd (sy_ai F 40) T (sy_i F 83) → (sy_i F1 82).toInt = e → (sy_i F1 83).toInt = T → (sy_i F1 84).toInt = i → hd_W Ls xs 6 jm_M58 (cuQ 3 X1 X2 F0 e) (67, sy_dL F1 [some (.inl (.ref 31)), some (.inl (.ref 9)), none, some (.inr (.inl 82)), none, none, some (.inr (.inl 83))], sy_dS F1 [.inr (.inl 82), .inr (.inl 84), .inl (.ref 9), .inr (.inl 83), .inl (.ref 31)], sy_dh F1 X1 X2 (iv_H 3), 0, 0)) :
    ∀ (m : Nat) (F : Nat → sy_d) (i : Nat), e - i < m → cJ F0 F e i T 0 → (sy_i F 82).toInt = e → (sy_i F 83).toInt = i → (sy_i F 84).toInt = T → hd_W Ls xs 6 jm_M58 (cuQ 3 X1 X2 F0 e) (29, sy_dL F [some (.inl (.ref 31)), some (.inl (.ref 9)), none, some (.inr (.inl 82)), some (.inr (.inl 83)), none, some (.inr (.inl 84))], sy_dS F [], sy_dh F X1 X2 (iv_H 3), 0, 0) := by
  intro m
  induction m with
  | zero => intro F i hm; omega
  | succ m ih =>
    intro F i hm hI e82 e83 e84
    have hie := hI.2.2.1
    have hB := hI.1.1
    have hby := fun q : i < e => bg_c (F0 := F0) hB (hI.1.2 2 (by decide) (by decide)) e83 q
    have goB : ∀ F1 : Nat → sy_d, i < e → uB (bg F0 e i) = true → iv_in F1 iv_B0 → (∀ j, j < 82 → j ∉ ([] : List Nat) → F1 j = F j) → (sy_i F1 82).toInt = (sy_i F 82).toInt → (sy_i F1 83).toInt = (sy_i F 83).toInt + 1 → (sy_i F1 84).toInt = (sy_i F 84).toInt → hd_W Ls xs 6 jm_M58 (cuQ 3 X1 X2 F0 e) (29, sy_dL F1 [some (.inl (.ref 31)), some (.inl (.ref 9)), none, some (.inr (.inl 82)), some (.inr (.inl 83)), none, some (.inr (.inl 84))], sy_dS F1 [], sy_dh F1 X1 X2 (iv_H 3), 0, 0) := fun F1 q qb hb g f82 f83 f84 => by
      obtain ⟨h1, h2, h3, h4, h5, h6⟩ := cJ_eq hI hb (fun j hj => g j hj (by simp))
      refine ih F1 (i + 1) (by omega) ⟨h1, h2, by omega, h4, fun z => ⟨(h5 z).1, ?_⟩, fun z => absurd rfl z⟩ (by omega) (by omega) (by omega)
      rw [← uR_s q qb]
      exact (h5 z).2
    have goK : ∀ F1 : Nat → sy_d, e ≤ i ∨ uB (bg F0 e i) = false → iv_in F1 iv_B0 → (∀ j, j < 82 → j ∉ ([40] : List Nat) → F1 j = F j) → sy_ai F1 40 = jm_upd (sy_ai F 40) ((sy_i F 84).toInt).toNat (sy_i F 83) → (sy_i F1 82).toInt = (sy_i F 82).toInt → (sy_i F1 83).toInt = (sy_i F 84).toInt → (sy_i F1 84).toInt = (sy_i F 83).toInt → hd_W Ls xs 6 jm_M58 (cuQ 3 X1 X2 F0 e) (67, sy_dL F1 [some (.inl (.ref 31)), some (.inl (.ref 9)), none, some (.inr (.inl 82)), none, none, some (.inr (.inl 83))], sy_dS F1 [.inr (.inl 82), .inr (.inl 84), .inl (.ref 9), .inr (.inl 83), .inl (.ref 31)], sy_dh F1 X1 X2 (iv_H 3), 0, 0) := fun F1 q hb g a40 f82 f83 f84 => by
      rw [e84, Int.toNat_natCast] at a40
      exact K F i hI (by rw [← ((hI.2.2.2.2.1 rfl).2)]; exact uR_e q) e82 e83 e84 F1 hb g a40 (by omega) (by omega) (by omega)
    refine k3cu_29 (by decide) F X1 X2 hB ?_ ?_ ?_ ?_ ?_ ?_ ?_ ?_ ?_
    · omega
    · omega
    · omega
    · intro q1 F1 hb g a39 a40 a41 f82 f83 f84
      exact goK F1 (Or.inl (by omega)) hb g a40 f82 f83 f84
    · intro q1 q2 F1 hb g a39 a40 a41 f82 f83 f84
      have hh := hby (by omega)
      exact goB F1 (by omega) (uB_i.mpr (by omega)) hb g f82 f83 f84
    · intro q1 q2 q3 F1 hb g a39 a40 a41 f82 f83 f84
      have hh := hby (by omega)
      exact goB F1 (by omega) (uB_i.mpr (by omega)) hb g f82 f83 f84
    · intro q1 q2 q3 q4 F1 hb g a39 a40 a41 f82 f83 f84
      have hh := hby (by omega)
      exact goB F1 (by omega) (uB_i.mpr (by omega)) hb g f82 f83 f84
    · intro q1 q2 q3 q4 q5 F1 hb g a39 a40 a41 f82 f83 f84
      have hh := hby (by omega)
      exact goK F1 (Or.inr (uB_n.mpr (by omega))) hb g a40 f82 f83 f84
    · intro q1 q2 q3 q4 q5 F1 hb g a39 a40 a41 f82 f83 f84
      have hh := hby (by omega)
      exact goB F1 (by omega) (uB_i.mpr (by omega)) hb g f82 f83 f84
theorem k3cu_L (F0 : Nat → sy_d) (hw : wd F0) {e : Nat} (he : e ≤ 2000) : ∀ (m : Nat) (F : Nat → sy_d) (i T : Nat), 401 - T < m → T ≤ 401 → cJ F0 F e i T (sy_i F 84).toInt → (sy_i F 82).toInt = e → (sy_i F 83).toInt = i → (sy_i F 85).toInt = T → hd_W Ls xs 6 jm_M58 (cuQ 3 X1 X2 F0 e) (16, sy_dL F [some (.inl (.ref 31)), some (.inl (.ref 9)), none, some (.inr (.inl 82)), some (.inr (.inl 83)), some (.inr (.inl 84)), some (.inr (.inl 85))], sy_dS F [], sy_dh F X1 X2 (iv_H 3), 0, 0) := by
  intro m
  induction m with
  | zero => intro F i T hm; omega
  | succ m ih =>
    intro F i T hm hT hI e82 e83 e85
    have over : ∀ F1 : Nat → sy_d, (sy_i F 84).toInt ≠ 0 → iv_in F1 iv_B0 → (∀ j, j < 82 → j ∉ ([] : List Nat) → F1 j = F j) → cuQ 3 X1 X2 F0 e none (sy_dh F1 X1 X2 (iv_H 3)) := fun F1 q hb g => by
      obtain ⟨h1, h2, h3, h4, h5, h6⟩ := cJ_eq hI hb (fun j hj => g j hj (by simp))
      obtain ⟨t1, t2, t3⟩ := h6 q
      exact ⟨F1, rfl, rfl, h1, h2, T - 1, by omega, fun j hj => h4 j (by omega), fun j hj => t2 j (by omega), t3.elim (fun z => Or.inl z) (fun z => Or.inr (Or.inl z))⟩
    refine k3cu_16 (by decide) F X1 X2 hI.1.1 ?_ ?_ ?_ ?_
    · omega
    · intro q1 F1 hb g a39 a40 a41
      by_cases q : (sy_i F 84).toInt = 0
      · obtain ⟨h1, h2, h3, h4, h5, h6⟩ := cJ_eq hI hb (fun j hj => g j hj (by simp))
        exact ⟨F1, rfl, rfl, h1, h2, 400, Nat.le_refl _, fun j hj => h4 j (by omega), fun j hj => (h5 q).1 j (by omega), Or.inr (Or.inr rfl)⟩
      · exact over F1 q hb g
    · intro q1 q2 F1 hb g a39 a40 a41
      exact over F1 q2 hb g
    · intro q1 q2 F1 hb g a39 a40 a41 f82 f83 f84
      have hI1 := cJ_eq hI hb (fun j hj => g j hj (by simp))
      rw [q2] at hI1
      refine k3cu_B X1 X2 F0 hw he (T := T) (by omega) ?_ (e + 1) F1 i (by omega) hI1 (by omega) (by omega) (by omega)
      intro F2 i2 hI2 hu f82 f83 f84 F3 hb3 g3 a40 h82 h83 h84
      have hI2e := hI2.2.2.1
      have gg : ∀ j, j < 82 → j ∉ ([40] : List Nat) → F3 j = F2 j := g3
      have j3 : jx_ok F3 := jx_ok_eq (g3 39 (by decide) (by decide)) (g3 41 (by decide) (by decide)) hI2.2.1
      have w3 : wd F3 := wd_eq ((g3 42 (by decide) (by decide)).trans (hI2.1.2 42 (by decide) (by decide))) hw
      refine hd_calI (R := fun y F' => coP F3 F' T i2 e y.toInt) (nh := 82) (nv := 85) (s := 3) (s1 := 3) (d1 := 5) (M1 := jm_M59) (As := [.inl (.ref 31), .inr (.inl 83), .inl (.ref 9), .inr (.inl 84), .inr (.inl 82)]) (rest := []) jm_ok58 rfl rfl (by decide) (by decide +kernel) (k3on_T X1 X2 F3 hb3 j3 w3 _ _ _ h83 h84 h82 (by omega) (by omega) he) (fun F4 F' y hR p1 p2 p3 => ?_)
      have m82 := nz_fi (p2 82 (by decide) (by decide))
      have m83 := nz_fi (p2 83 (by decide) (by decide))
      have m85 : (sy_i F4 85).toInt = y.toInt := by rw [zz_i p3]
      obtain ⟨c1, c2, c3, c4, c5, c6, c7⟩ := cJ_push hI2 hu hb3 gg a40 f83 (coP_dst hR (F2 := F4) p1)
      have eK : kg F4 T = km ((sy_ai F4 39).getD (sy_i F4 83).toInt.toNat 0).toInt := by
        rw [m83, h83, Int.toNat_natCast]
        rfl
      have eK2 : ((sy_ai F4 39).getD (sy_i F4 83).toInt.toNat 0) = ((sy_ai F4 39).getD T 0) := by rw [m83, h83, Int.toNat_natCast]
      refine k3cu_70 (by decide) F4 X1 X2 c2.1 ?_ ?_ ?_ ?_
      · omega
      · intro q1 F5 hb5 g5 a39' a40' a41' n82 n83 n84 n85
        have c : cJ F0 F4 e (uN (bg F0 e) e i2) (T + 1) 1 := ⟨c2, c3, c4, c5, fun z => absurd z (by decide), fun _ => ⟨by omega, fun j hj => c6 j (by omega), Or.inl (by rw [Nat.add_sub_cancel, eK]; exact km_0.mpr q1)⟩⟩
        have c := cJ_eq c hb5 (fun j hj => g5 j hj (by simp))
        exact ih F5 (uN (bg F0 e) e i2) (T + 1) (by omega) (by omega) (by rw [n84]; exact c) (by omega) (by omega) (by omega)
      · intro q1 q2 F5 hb5 g5 a39' a40' a41' n82 n83 n84 n85
        have c : cJ F0 F4 e (uN (bg F0 e) e i2) (T + 1) 0 := ⟨c2, c3, c4, c5, fun _ => ⟨fun j hj => ?_, by rw [← hu]; rfl⟩, fun z => absurd rfl z⟩
        · have c := cJ_eq c hb5 (fun j hj => g5 j hj (by simp))
          exact ih F5 (uN (bg F0 e) e i2) (T + 1) (by omega) (by omega) (by rw [n84]; exact c) (by omega) (by omega) (by omega)
        · by_cases q : j = T
          · subst q
            exact ⟨fun z => q1 (km_0.mp (eK.symm.trans z)), fun z => q2 (by rw [eK2]; exact c7 z)⟩
          · exact c6 j (by omega)
      · intro q1 q2 F5 hb5 g5 a39' a40' a41' n82 n83 n84 n85
        have c : cJ F0 F4 e (uN (bg F0 e) e i2) (T + 1) 1 := ⟨c2, c3, c4, c5, fun z => absurd z (by decide), fun _ => ⟨by omega, fun j hj => c6 j (by omega), Or.inr (by rw [Nat.add_sub_cancel, eK, q2]; decide)⟩⟩
        have c := cJ_eq c hb5 (fun j hj => g5 j hj (by simp))
        exact ih F5 (uN (bg F0 e) e i2) (T + 1) (by omega) (by omega) (by rw [n84]; exact c) (by omega) (by omega) (by omega)
theorem k3cu_T (F : Nat → sy_d) (hB : iv_in F iv_B0) (hJ : jx_ok F) (hw : wd F) (n : Int32) {e : Nat} (en : n.toInt = e) (he : e ≤ 2000) : jm_T Ls xs 6 jm_M58 [.ref 31, .ref 9, .int n] (sy_dh F X1 X2 (iv_H 3)) 0 0 (cuQ 3 X1 X2 F e) := by
  refine nyy_T (by decide) F (fun _ => .inl (.int n)) X1 X2 (A := [.inl (.ref 31), .inl (.ref 9), .inr (.inl 82)]) jm_ok58 (by decide) rfl ?_
  have e82 : (sy_i (ny F (fun _ => .inl (.int n))) 82).toInt = e := en
  refine k3cu_0 (by decide) (ny F (fun _ => .inl (.int n))) X1 X2 (hd_iveq0 hB ny_lt) ?_ ?_
  · omega
  · intro q F1 hb g a39 a40 a41 f82 f83 f84 f85
    have g1 : ∀ j, j < 82 → F1 j = F j := fun j hj => (g j hj (by simp)).trans (ny_lt j hj)
    refine k3cu_L X1 X2 F hw he 402 F1 0 0 (by omega) (by omega) ?_ (f82.trans e82) f83 f85
    rw [f84]
    exact ⟨⟨hb, fun j hj _ => g1 j hj⟩, jx_ok_eq (g1 39 (by decide)) (g1 41 (by decide)) hJ, Nat.zero_le _, fun j hj => absurd hj (Nat.not_lt_zero _), fun _ => ⟨fun j hj => absurd hj (Nat.not_lt_zero _), rfl⟩, fun z => absurd rfl z⟩
end CU3
end
section
/-! ===== bytes ===== -/
theorem b8 (x : Int32) : (x.toInt8.toInt32.toInt8.toInt32).toInt % 256 = x.toInt % 256 := by
  rw [Int8.toInt_toInt32, Int32.toInt_toInt8, Int8.toInt_toInt32, Int32.toInt_toInt8]
  simp only [Int.bmod_def]
  omega
theorem b8i (x : Int32) (h : -128 ≤ x.toInt ∧ x.toInt ≤ 127) : x.toInt8.toInt32 = x := by
  apply Int32.toInt_inj.mp
  rw [Int8.toInt_toInt32, Int32.toInt_toInt8]
  simp only [Int.bmod_def]
  omega
theorem u32n (x : Int32) : (x.toUInt32.toNat : Int) = x.toInt % 4294967296 := by
  have h : x.toUInt32.toNat = x.toBitVec.toNat := rfl
  have h3 : x.toInt = x.toBitVec.toInt := rfl
  rw [h, h3, BitVec.toInt_eq_toNat_cond]
  have := x.toBitVec.isLt
  split <;> omega
theorem u32i (u : UInt32) : u.toInt32.toInt % 256 = (u.toNat : Int) % 256 := by
  have h3 : u.toInt32.toInt = u.toBitVec.toInt := rfl
  have h4 : u.toNat = u.toBitVec.toNat := rfl
  rw [h3, h4, BitVec.toInt_eq_toNat_cond]
  have := u.toBitVec.isLt
  split <;> omega
theorem us24 (x : Int32) : ((x.toUInt32 >>> ((24 : Int32).toUInt32 &&& Int32.toUInt32 31)).toInt32).toInt % 256 = x.toInt / 16777216 % 256 := by
  have e : ((24 : Int32).toUInt32 &&& Int32.toUInt32 31) = 24 := by decide
  rw [e, u32i]
  have h : (x.toUInt32 >>> 24).toNat = x.toUInt32.toNat / 16777216 := by
    rw [UInt32.toNat_shiftRight]
    exact Nat.shiftRight_eq_div_pow _ 24
  have h2 := u32n x
  rw [h]
  omega
theorem us16 (x : Int32) : ((x.toUInt32 >>> ((16 : Int32).toUInt32 &&& Int32.toUInt32 31)).toInt32).toInt % 256 = x.toInt / 65536 % 256 := by
  have e : ((16 : Int32).toUInt32 &&& Int32.toUInt32 31) = 16 := by decide
  rw [e, u32i]
  have h : (x.toUInt32 >>> 16).toNat = x.toUInt32.toNat / 65536 := by
    rw [UInt32.toNat_shiftRight]
    exact Nat.shiftRight_eq_div_pow _ 16
  have h2 := u32n x
  rw [h]
  omega
theorem us8 (x : Int32) : ((x.toUInt32 >>> ((8 : Int32).toUInt32 &&& Int32.toUInt32 31)).toInt32).toInt % 256 = x.toInt / 256 % 256 := by
  have e : ((8 : Int32).toUInt32 &&& Int32.toUInt32 31) = 8 := by decide
  rw [e, u32i]
  have h : (x.toUInt32 >>> 8).toNat = x.toUInt32.toNat / 256 := by
    rw [UInt32.toNat_shiftRight]
    exact Nat.shiftRight_eq_div_pow _ 8
  have h2 := u32n x
  rw [h]
  omega
theorem us0 (x : Int32) : ((x.toUInt32 >>> ((0 : Int32).toUInt32 &&& Int32.toUInt32 31)).toInt32).toInt % 256 = x.toInt % 256 := by
  have e : ((0 : Int32).toUInt32 &&& Int32.toUInt32 31) = 0 := by decide
  rw [e, u32i]
  have h : (x.toUInt32 >>> 0).toNat = x.toUInt32.toNat := by
    rw [UInt32.toNat_shiftRight]
    exact Nat.shiftRight_zero
  have h2 := u32n x
  rw [h]
  omega
theorem srn (x k : Int32) (n : Nat) (hk : (k &&& 31).toBitVec.smod 32 = BitVec.ofNat 32 n) (hn : n < 32) : (x >>> (k &&& 31)).toInt = x.toInt / 2 ^ n := by
  have h : (x >>> (k &&& 31)).toInt = (BitVec.sshiftRight' x.toBitVec ((k &&& 31).toBitVec.smod 32)).toInt := rfl
  rw [h, hk, BitVec.sshiftRight', BitVec.toInt_sshiftRight, BitVec.toNat_ofNat, Int.shiftRight_eq_div_pow]
  have e : n % 2 ^ 32 = n := Nat.mod_eq_of_lt (by omega)
  rw [e]
  rfl
theorem sr24 (x : Int32) : (x >>> ((24 : Int32) &&& 31)).toInt % 256 = x.toInt / 16777216 % 256 := by rw [srn x 24 24 (by decide) (by decide)]; rfl
theorem sr16 (x : Int32) : (x >>> ((16 : Int32) &&& 31)).toInt % 256 = x.toInt / 65536 % 256 := by rw [srn x 16 16 (by decide) (by decide)]; rfl
theorem sr8 (x : Int32) : (x >>> ((8 : Int32) &&& 31)).toInt % 256 = x.toInt / 256 % 256 := by rw [srn x 8 8 (by decide) (by decide)]; rfl
theorem sr0 (x : Int32) : (x >>> ((0 : Int32) &&& 31)).toInt % 256 = x.toInt % 256 := by rw [srn x 0 0 (by decide) (by decide)]; simp
/-! ===== what is seen of the two between calls ===== -/
def wls : List Int64 := [3558512, 1494603, 459652, 263382265, 3217420, 12532058, 1001512747, 3499582, 125042, 5948362, 377761, 249, 399641, 107681, 361292, 164222, 168984, 1310653, 16308991, 276908612, 6465306496, 8800, 240023]
noncomputable def cP (b : Nat → Int) (n j : Nat) : Int := (uP b n j : Nat)
noncomputable def cK (b : Nat → Int) (n : Nat) (w : Nat → Int64) (j : Nat) : Int := uK b n w (uP b n j)
noncomputable def cV (b : Nat → Int) (n j : Nat) : Int := uF gd b (uP b n j) (uR uD b n (uP b n j) - uP b n j) 0
noncomputable def cN (b : Nat → Int) (n j : Nat) : Int64 := uF gl b (uP b n j) (uR uL b n (uP b n j) - uP b n j) 0
/-- how a text is read: the answer, the place of the fault -/
noncomputable def rdA (b : Nat → Int) (n : Nat) : Int × Int := sEnd (cP b n) (sRun (cK b n (fun k => wls.getD k 0)) (cV b n) (cN b n) 401 (0, 0, 0, [], (0, 0)))
theorem rd_same {b : Nat → Int} {n : Nat} {w : Nat → Int64} {K P V : Nat → Int} {N : Nat → Int64} {L : Nat} (hw : w = fun k => wls.getD k 0) (h : ∀ j, j ≤ L → tk b n w K P V N j) (hL : K L = 0 ∨ K L = 3 ∨ L = 400) : sEnd P (sRun K V N 401 (0, 0, 0, [], (0, 0))) = rdA b n := by
  subst hw
  exact cg_End (L := L) ⟨fun j hj => (h j hj).2.1, hL, fun j hj z => (h j hj).2.2.1 z, fun j hj z => (h j hj).2.2.2 z⟩ (fun j hj => (h j hj).1)
/-- four bytes more -/
def apB (b : Nat → Int) (t : Nat) (a : Int32) (i : Nat) : Int := if i < t then b i else if i = t then a.toInt / 16777216 % 256 else if i = t + 1 then a.toInt / 65536 % 256 else if i = t + 2 then a.toInt / 256 % 256 else if i = t + 3 then a.toInt % 256 else 0
theorem ap_ub {l : List Int32} {n0 n1 n2 n3 t t' : Nat} {c0 c1 c2 c3 a : Int32} (h0 : n0 = t) (h1 : n1 = t + 1) (h2 : n2 = t + 2) (h3 : n3 = t + 3) (ht : t' = t + 4) (e0 : c0.toInt % 256 = a.toInt / 16777216 % 256) (e1 : c1.toInt % 256 = a.toInt / 65536 % 256) (e2 : c2.toInt % 256 = a.toInt / 256 % 256) (e3 : c3.toInt % 256 = a.toInt % 256) : ub (jm_upd (jm_upd (jm_upd (jm_upd l n0 c0) n1 c1) n2 c2) n3 c3) t' = apB (ub l t) t a := by
  subst h0; subst h1; subst h2; subst h3; subst ht
  funext i
  unfold ub apB
  rw [jm_upd_at, jm_upd_at, jm_upd_at, jm_upd_at]
  by_cases q : i < n0
  · rw [if_pos (by omega), if_neg (by omega), if_neg (by omega), if_neg (by omega), if_neg (by omega), if_pos q]
    exact (if_pos q).symm
  · by_cases q0 : i = n0
    · rw [if_pos (by omega), if_neg (by omega), if_neg (by omega), if_neg (by omega), if_pos q0, if_neg q, if_pos q0]; exact e0
    · by_cases q1 : i = n0 + 1
      · rw [if_pos (by omega), if_neg (by omega), if_neg (by omega), if_pos q1, if_neg q, if_neg q0, if_pos q1]; exact e1
      · by_cases q2 : i = n0 + 2
        · rw [if_pos (by omega), if_neg (by omega), if_pos q2, if_neg q, if_neg q0, if_neg q1, if_pos q2]; exact e2
        · by_cases q3 : i = n0 + 3
          · rw [if_pos (by omega), if_pos q3, if_neg q, if_neg q0, if_neg q1, if_neg q2, if_pos q3]; exact e3
          · rw [if_neg (by omega), if_neg q, if_neg q0, if_neg q1, if_neg q2, if_neg q3]
theorem ub_cut {l : List Int32} {n n' : Nat} (h : n' ≤ n) : ub l n' = fun i => if i < n' then ub l n i else 0 := by
  funext i
  unfold ub
  by_cases q : i < n'
  · rw [if_pos q, if_pos q, if_pos (by omega)]
  · rw [if_neg q, if_neg q]
/-- taped, the bytes, the place of the fault, how many are told, what is held -/
abbrev sg : Type := Int × (Nat → Int) × Int × Int × (Nat → Int)
noncomputable def hl3 (l : List Int32) (i : Nat) : Int := if i < 3 then (l.getD i 0).toInt else 0
noncomputable def ox (F : Nat → sy_d) : sg := ((sy_i F 0).toInt, ub (sy_ai F 2) (sy_i F 0).toInt.toNat, (sy_i F 1).toInt, (sy_i F 79).toInt, hl3 (sy_ai F 78))
noncomputable def om (F : Nat → sy_d) : sg := ((sy_i F 1).toInt, ub (sy_ai F 23) (sy_i F 1).toInt.toNat, (sy_i F 10).toInt, (sy_i F 21).toInt, hl3 (sy_ai F 67))
theorem ox_eq {F F' : Nat → sy_d} (h0 : F' 0 = F 0) (h1 : F' 1 = F 1) (h2 : F' 2 = F 2) (h78 : F' 78 = F 78) (h79 : F' 79 = F 79) : ox F' = ox F := by
  unfold ox
  rw [nz_fi h0, nz_fi h1, nz_fa h2, nz_fa h78, nz_fi h79]
theorem om_eq {F F' : Nat → sy_d} (h0 : F' 1 = F 1) (h1 : F' 10 = F 10) (h2 : F' 23 = F 23) (h78 : F' 67 = F 67) (h79 : F' 21 = F 21) : om F' = om F := by
  unfold om
  rw [nz_fi h0, nz_fi h1, nz_fa h2, nz_fa h78, nz_fi h79]
theorem ub_z {l : List Int32} : ub l 0 = fun _ => 0 := by
  funext i
  exact ub_0 (Nat.zero_le _)
theorem hl_z {l : List Int32} (h : ∀ j, j < 3 → l.getD j 0 = 0) : hl3 l = fun _ => 0 := by
  funext i
  unfold hl3
  split
  · rename_i q
    rw [h i q]
    decide
  · rfl
theorem hl_u {l : List Int32} {k : Nat} (hk : k < 3) : hl3 (jm_upd l k 1) = fun i => if i = k then 1 else hl3 l i := by
  funext i
  unfold hl3
  rw [jm_upd_at]
  by_cases q : i = k
  · rw [if_pos (by omega), if_pos q, if_pos q]
    decide
  · rw [if_neg q, if_neg q]
/-- what each call makes of it, and answers -/
noncomputable def s_feed (a b c d e : Int32) (x : sg) : sg := if 2000 < x.1 + 20 then x else (x.1 + 20, apB (apB (apB (apB (apB x.2.1 x.1.toNat a) (x.1.toNat + 4) b) (x.1.toNat + 8) c) (x.1.toNat + 12) d) (x.1.toNat + 16) e, x.2.2)
noncomputable def a_feed (x : sg) : Int := if 2000 < x.1 + 20 then -1 else x.1 + 20
noncomputable def s_back (a : Int32) (x : sg) : sg := if a.toInt < 0 ∨ x.1 < a.toInt then x else (x.1 - a.toInt, (fun i => if i < (x.1 - a.toInt).toNat then x.2.1 i else 0), x.2.2)
noncomputable def a_back (a : Int32) (x : sg) : Int := if a.toInt < 0 ∨ x.1 < a.toInt then -1 else x.1 - a.toInt
noncomputable def s_read (x : sg) : sg := (0, (fun _ => 0), (rdA x.2.1 x.1.toNat).2, if (rdA x.2.1 x.1.toNat).1 = 0 then (0, fun _ => 0) else x.2.2.2)
noncomputable def a_read (x : sg) : Int := (rdA x.2.1 x.1.toNat).1
def tl_ok (a b : Int32) (n : Int) : Prop := (1 ≤ a.toInt ∧ a.toInt ≤ 9) ∧ (0 ≤ b.toInt ∧ b.toInt ≤ 9) ∧ n < 7
noncomputable def s_tell (a b : Int32) (x : sg) : sg := (x.1, x.2.1, x.2.2.1, if (1 ≤ a.toInt ∧ a.toInt ≤ 9) ∧ (0 ≤ b.toInt ∧ b.toInt ≤ 9) ∧ x.2.2.2.1 < 7 then x.2.2.2.1 + 1 else x.2.2.2.1, x.2.2.2.2)
noncomputable def a_tell (a b : Int32) (x : sg) : Int := if (1 ≤ a.toInt ∧ a.toInt ≤ 9) ∧ (0 ≤ b.toInt ∧ b.toInt ≤ 9) ∧ x.2.2.2.1 < 7 then x.2.2.2.1 else -1
noncomputable def s_forget (x : sg) : sg := (x.1, x.2.1, x.2.2.1, 0, x.2.2.2.2)
noncomputable def s_hold (a : Int32) (x : sg) : sg := if 0 ≤ a.toInt ∧ a.toInt ≤ 2 then (x.1, x.2.1, x.2.2.1, x.2.2.2.1, fun i => if i = a.toInt.toNat then 1 else x.2.2.2.2 i) else x
noncomputable def a_hold (a : Int32) (_ : sg) : Int := if 0 ≤ a.toInt ∧ a.toInt ≤ 2 then 1 else 0
noncomputable def a_rest (a : Int32) (x : sg) : Int := if (0 ≤ a.toInt ∧ a.toInt ≤ 2) ∧ x.2.2.2.2 a.toInt.toNat ≠ 0 then 1 else 0
/-- the class's cells keep their bounds, x is seen; the reference's are C2 -/
noncomputable def ov1 (C2 : List jm_c) (x : sg) (G : jm_h) : Prop := ∃ (t : Nat) (F : Nat → sy_d), t < 4 ∧ G = ((sy_dh F [] [] (iv_H t)).1, C2) ∧ iv_in F iv_B0 ∧ jx_ok F ∧ sy_al F 42 = wls ∧ ox F = x
noncomputable def ov2 (C1 : List jm_c) (x : sg) (G : jm_h) : Prop := ∃ F : Nat → sy_d, G = (C1, (sy_dh F [] [] (iv_H 4)).2) ∧ iv_in F iv_B4 ∧ jm_rpn F ∧ sy_al F 29 = wls ∧ om F = x
noncomputable def ov (G : jm_h) : Prop := ∃ (s : Nat) (F F2 : Nat → sy_d), s < 4 ∧ G = ((sy_dh F [] [] (iv_H s)).1, (sy_dh F2 [] [] (iv_H 4)).2) ∧ iv_in F iv_B0 ∧ jx_ok F ∧ iv_in F2 iv_B4 ∧ jm_rpn F2 ∧ sy_al F 42 = wls ∧ sy_al F2 29 = wls ∧ ox F = om F2
noncomputable def oxT (Ls : Nat) (xs : Nat → Int32) (M : jm_M) (As : List Value) (V : sg → Int32 → Prop) (f : sg → sg) : Prop := ∀ (s : Nat) (F : Nat → sy_d) (X2 : List jm_c), s < 4 → iv_in F iv_B0 → jx_ok F → sy_al F 42 = wls → ∃ d, d ≤ 60 ∧ jm_T Ls xs d M (.ref 8 :: As) ((sy_dh F [] [] (iv_H s)).1, X2) 0 0 (fun v G => (∃ r : Int32, v = some (.int r) ∧ V (ox F) r) ∧ ov1 X2 (f (ox F)) G)
noncomputable def omT (Ls : Nat) (xs : Nat → Int32) (M : jm_M) (As : List Value) (V : sg → Int32 → Prop) (f : sg → sg) : Prop := ∃ d, d ≤ 60 ∧ ∀ (F : Nat → sy_d) (X1 : List jm_c), iv_in F iv_B4 → jm_rpn F → sy_al F 29 = wls → jm_T Ls xs d M (.ref 1000 :: As) (X1, (sy_dh F [] [] (iv_H 4)).2) 0 0 (fun v G => (∃ r : Int32, v = some (.int r) ∧ V (om F) r) ∧ ov2 X1 (f (om F)) G)
/-- a contract of the class, used inside -/
theorem oct_c {n s d : Nat} {Wr : List Nat} {A : List sy_v} {E : List iv_t} {M : jm_M} (h : ct_ok jj (n, A, s, [s], E, Wr, iv_B0, none, d)) (hM : jm_TB[n]? = some M) (hs : s < 4) {Ls : Nat} {xs : Nat → Int32} (F dd : Nat → sy_d) (X1 X2 : List jm_c) {vs : List Value} (hA : A.map (sy_dv (ny F dd)) = vs) (hE : iv_in (ny F dd) E) (hJ : jx_ok F) :
    jm_T Ls xs d M vs (sy_dh F X1 X2 (iv_H s)) 0 0 (fun v G => ∃ F' : Nat → sy_d, v = none ∧ G = sy_dh F' X1 X2 (iv_H s) ∧ iv_in F' iv_B0 ∧ (∀ j, j < 82 → Wr.contains j = false → F' j = F j) ∧ jx_ok F') := by
  have k0 : ∀ j, j < 82 → ny F dd j = F j := ny_lt
  have hJ0 : jx_ok (ny F dd) := jx_ok_eq (k0 39 (by decide)) (k0 41 (by decide)) hJ
  rw [dh_x F X1 X2 hs, dh_nx hs k0, ← dh_x (ny F dd) X1 X2 hs, ← hA]
  refine jm_T_mono (h M hM Ls xs (ny F dd) X1 X2 hE ((jj_x hs).mpr hJ0)) ?_
  rintro v G ⟨t, F', ht, hG, hf, hB', hv, hj⟩
  have ht : t ∈ [s] := ht
  have e : t = s := List.mem_singleton.mp ht
  subst e
  refine ⟨F', ?_, hG, hB', fun j hj hn => (hf j (by
    show j < iv_nh t
    unfold iv_nh
    rw [if_neg (by omega)]
    exact hj) hn).trans (k0 j hj), (jj_x hs).mp hj⟩
  cases v with
  | none => rfl
  | some x => exact absurd hv (by intro q; cases q)
theorem hd_mono {Ls : Nat} {xs : Nat → Int32} {d : Nat} {M : jm_M} {Q Q' : Option Value → jm_h → Prop} {st : jm_St} (h : hd_W Ls xs d M Q st) (m : ∀ v G, Q v G → Q' v G) : hd_W Ls xs d M Q' st :=
  fun _ _ _ _ _ _ _ _ _ _ _ _ _ _ _ hC hP => h hC (fun v G q => hP v G (m v G q))
theorem wd_wls {F : Nat → sy_d} (h : sy_al F 42 = wls) : wd F := by
  unfold wd wg
  rw [h]
  have q : ∀ i : Nat, i < 23 → ∀ j : Nat, j < 23 → wls.getD i 0 = wls.getD j 0 → i = j := by decide +kernel
  exact fun i j hi hj => q i hi j hj
end
section
/-! ===== the reference: the tape, what is told, what is held, way by way ===== -/
theorem rt_0_p0 {Ls : Nat} {xs : Nat → Int32} {d : Nat} {Q : Option Value → jm_h → Prop} (hd : 3 ≤ d) (F : Nat → sy_d) (X1 X2 : List jm_c) (hB : iv_in F iv_B4)
    (k : ∀ F1 : Nat → sy_d, (∀ j, j < 69 → j ≠ 2 → F1 j = F j) → F1 2 = .inl (.int (sy_i F 1)) → F1 69 = .inl (.int ((0 : Int32))) → hd_W Ls xs d jm_M150 Q (10, sy_dL F1 [some (.inl (.ref 1000)), some (.inr (.inl 69))], sy_dS F1 [], sy_dh F1 X1 X2 (iv_H 4), 0, 0)) :
    hd_W Ls xs d jm_M150 Q (0, sy_dL F [some (.inl (.ref 1000)), none], sy_dS F [], sy_dh F X1 X2 (iv_H 4), 0, 0) := by
  refine hd_run (s := 4) (nv := 69) (pc := 10) (L := [some (.inl (.ref 1000)), some (.inr (.inl 69))]) (S := []) (uh := hd_ov (iv_id 0 iv_B4) [(2, .inl (.inr (.inl 1)))]) (ul := [.inl (.inl (.int 0))]) (f := true) (sp := [10]) (d0 := 2) (O := []) (T := []) (P := []) jm_ok150 (by decide +kernel) (by decide +kernel) hd F X1 X2 (fun F' hF hs => ?_)
  have b1 := hd_b (F := F) (F' := F') (k := 1) (hF 1 (by decide))
  have hB' : iv_in F' iv_B4 := iv_in_eq hB (fun j hj => hF j (Nat.lt_of_lt_of_le hj (by decide +kernel)))
  refine ⟨fun _ h => absurd h List.not_mem_nil, ?_⟩
  refine k _ ?_ ?_ ?_
  · exact fun j hj hn => (hd_keep hB' (Nat.lt_of_lt_of_le hj (by decide +kernel)) (by simp; omega)).trans (hF j (Nat.lt_of_lt_of_le hj (by decide)))
  · exact hd_gi (x := .inr (.inl 1)) (by decide +kernel) b1
  · exact hd_gi (x := .inl (.int 0)) (by decide +kernel) rfl
theorem rt_0 {Ls : Nat} {xs : Nat → Int32} {d : Nat} {Q : Option Value → jm_h → Prop} (hd : 3 ≤ d) (F : Nat → sy_d) (X1 X2 : List jm_c) (hB : iv_in F iv_B4)
    (k0 : ∀ F1 : Nat → sy_d, iv_in F1 iv_B4 → (∀ j, j < 69 → j ∉ ([2] : List Nat) → F1 j = F j) → (sy_i F1 1).toInt = (sy_i F 1).toInt → (sy_i F1 2).toInt = (sy_i F 1).toInt → sy_ai F1 23 = sy_ai F 23 → sy_ai F1 24 = sy_ai F 24 → (sy_i F1 69).toInt = 0 → hd_W Ls xs d jm_M150 Q (10, sy_dL F1 [some (.inl (.ref 1000)), some (.inr (.inl 69))], sy_dS F1 [], sy_dh F1 X1 X2 (iv_H 4), 0, 0)) :
    hd_W Ls xs d jm_M150 Q (0, sy_dL F [some (.inl (.ref 1000)), none], sy_dS F [], sy_dh F X1 X2 (iv_H 4), 0, 0) := by
  have c1 := nz_bx hB (k := 1) (lo := 0) (hi := 2000) rfl
  exact rt_0_p0 hd F X1 X2 hB  (fun F1 g e2 e69 => k0 F1 (nz_in hB [2] (fun j hj hn => g j hj (by simp only [List.mem_cons, List.not_mem_nil, or_false, not_or] at hn; omega)) (List.forall_mem_cons.mpr ⟨fun t ht => (Option.some.inj ht) ▸ (nz_hi e2 (rfl : (sy_i F 1).toInt = (sy_i F 1).toInt) (by omega) (by omega)), List.forall_mem_nil _⟩)) (fun j hj hn => g j hj (by simp only [List.mem_cons, List.not_mem_nil, or_false, not_or] at hn; omega)) (nz_fi (g 1 (by decide) (by decide))) ((congrArg Int32.toInt (zz_i e2)).trans (rfl : (sy_i F 1).toInt = (sy_i F 1).toInt)) (nz_fa (g 23 (by decide) (by decide))) (nz_fa (g 24 (by decide) (by decide))) ((congrArg Int32.toInt (zz_i e69)).trans (by decide : ((0 : Int32)).toInt = 0)))
theorem rt_10_p0 {Ls : Nat} {xs : Nat → Int32} {d : Nat} {Q : Option Value → jm_h → Prop} (hd : 3 ≤ d) (F : Nat → sy_d) (X1 X2 : List jm_c) (hB : iv_in F iv_B4)
    (h0 : (sy_i F 2).toInt ≤ (sy_i F 69).toInt)
    (k : ∀ F1 : Nat → sy_d, (∀ j, j < 69 → j ≠ 1 → F1 j = F j) → F1 1 = .inl (.int ((0 : Int32))) → hd_W Ls xs d jm_M150 Q (42, sy_dL F1 [some (.inl (.ref 1000)), none], sy_dS F1 [.inl (.ref 1000)], sy_dh F1 X1 X2 (iv_H 4), 0, 0)) :
    hd_W Ls xs d jm_M150 Q (10, sy_dL F [some (.inl (.ref 1000)), some (.inr (.inl 69))], sy_dS F [], sy_dh F X1 X2 (iv_H 4), 0, 0) := by
  refine hd_run (s := 4) (nv := 70) (pc := 42) (L := [some (.inl (.ref 1000)), none]) (S := [.inl (.ref 1000)]) (uh := hd_ov (iv_id 0 iv_B4) [(1, .inl (.inl (.int 0)))]) (ul := []) (f := true) (sp := [10, 42]) (d0 := 2) (O := [true]) (T := []) (P := [(4, .inr (.inl 2), .inr (.inl 69))]) jm_ok150 (by decide +kernel) (by decide +kernel) hd F X1 X2 (fun F' hF hs => ?_)
  have b2 := hd_b (F := F) (F' := F') (k := 2) (hF 2 (by decide))
  have b69 := hd_b (F := F) (F' := F') (k := 69) (hF 69 (by decide))
  have hB' : iv_in F' iv_B4 := iv_in_eq hB (fun j hj => hF j (Nat.lt_of_lt_of_le hj (by decide +kernel)))
  refine ⟨List.forall_mem_cons.mpr ⟨hd_p4 b2 b69 h0, fun _ h => absurd h List.not_mem_nil⟩, ?_⟩
  refine k _ ?_ ?_
  · exact fun j hj hn => (hd_keep hB' (Nat.lt_of_lt_of_le hj (by decide +kernel)) (by simp; omega)).trans (hF j (Nat.lt_of_lt_of_le hj (by decide)))
  · exact hd_gi (x := .inl (.int 0)) (by decide +kernel) rfl
theorem rt_10_p1 {Ls : Nat} {xs : Nat → Int32} {d : Nat} {Q : Option Value → jm_h → Prop} (hd : 3 ≤ d) (F : Nat → sy_d) (X1 X2 : List jm_c) (hB : iv_in F iv_B4)
    (h0 : (sy_i F 69).toInt < (sy_i F 2).toInt)
    (h1 : 0 ≤ (sy_i F 69).toInt ∧ (sy_i F 69).toInt < 2000)
    (h2 : 0 ≤ (sy_i F 69).toInt ∧ (sy_i F 69).toInt < 2000)
    (k : ∀ F1 : Nat → sy_d, (∀ j, j < 69 → j ≠ 24 → F1 j = F j) → F1 24 = .inr (.inl (jm_upd (sy_ai F 24) (sy_i F 69).toNatClampNeg (((sy_ai F 23).getD (sy_i F 69).toNatClampNeg 0).toInt8.toInt32))) → F1 69 = .inl (.int ((sy_i F 69) + ((1 : Int32)))) → hd_W Ls xs d jm_M150 Q (10, sy_dL F1 [some (.inl (.ref 1000)), some (.inr (.inl 69))], sy_dS F1 [], sy_dh F1 X1 X2 (iv_H 4), 0, 0)) :
    hd_W Ls xs d jm_M150 Q (10, sy_dL F [some (.inl (.ref 1000)), some (.inr (.inl 69))], sy_dS F [], sy_dh F X1 X2 (iv_H 4), 0, 0) := by
  refine hd_run (s := 4) (nv := 70) (pc := 10) (L := [some (.inl (.ref 1000)), some (.inr (.inl 69))]) (S := []) (uh := hd_ov (iv_id 0 iv_B4) [(24, .inr (.inr (.inl 72)))]) (ul := [.inl (.inr (.inl 73))]) (f := true) (sp := [10, 42]) (d0 := 2) (O := [false]) (T := [(30, [.inr (.inl 69)], [.inr (.inl 23)]), (22, [.inr (.inl 70)], []), (40, [.inr (.inl 69), .inr (.inl 71)], [.inr (.inl 24)]), (0, [.inr (.inl 69), .inl (.int 1)], [])]) (P := [(5, .inr (.inl 2), .inr (.inl 69)), (6, .inr (.inl 69), .inl (.ref 2000)), (6, .inr (.inl 69), .inl (.ref 2000))]) jm_ok150 (by decide +kernel) (by decide +kernel) hd F X1 X2 (fun F' hF hs => ?_)
  have b2 := hd_b (F := F) (F' := F') (k := 2) (hF 2 (by decide))
  have b69 := hd_b (F := F) (F' := F') (k := 69) (hF 69 (by decide))
  have a23 := hd_ba (F := F) (F' := F') (k := 23) (hF 23 (by decide))
  have t70 : sy_dv F' (.inr (.inl 70)) = .int ((sy_ai F 23).getD (sy_i F 69).toNatClampNeg 0) := hd_rd (hs 0 _ rfl) b69 a23
  have t71 : sy_dv F' (.inr (.inl 71)) = .int (((sy_ai F 23).getD (sy_i F 69).toNatClampNeg 0).toInt8.toInt32) := hd_u (hs 1 _ rfl) t70 rfl
  have a24 := hd_ba (F := F) (F' := F') (k := 24) (hF 24 (by decide))
  have t72 : sy_da F' (.inr (.inl 72)) = .inl (jm_upd (sy_ai F 24) (sy_i F 69).toNatClampNeg (((sy_ai F 23).getD (sy_i F 69).toNatClampNeg 0).toInt8.toInt32)) := hd_up (hs 2 _ rfl) b69 t71 a24
  have t73 : sy_dv F' (.inr (.inl 73)) = .int ((sy_i F 69) + ((1 : Int32))) := hd_o (hs 3 _ rfl) b69 rfl rfl
  have hB' : iv_in F' iv_B4 := iv_in_eq hB (fun j hj => hF j (Nat.lt_of_lt_of_le hj (by decide +kernel)))
  refine ⟨List.forall_mem_cons.mpr ⟨hd_p5 b2 b69 h0, List.forall_mem_cons.mpr ⟨hd_pb b69 (by first | exact h1 | exact h1), List.forall_mem_cons.mpr ⟨hd_pb b69 (by first | exact h2 | exact h2), fun _ h => absurd h List.not_mem_nil⟩⟩⟩, ?_⟩
  refine k _ ?_ ?_ ?_
  · exact fun j hj hn => (hd_keep hB' (Nat.lt_of_lt_of_le hj (by decide +kernel)) (by simp; omega)).trans (hF j (Nat.lt_of_lt_of_le hj (by decide)))
  · exact hd_ga (a := .inr (.inl 72)) (by decide +kernel) t72
  · exact hd_gi (x := .inr (.inl 73)) (by decide +kernel) t73
theorem rt_10 {Ls : Nat} {xs : Nat → Int32} {d : Nat} {Q : Option Value → jm_h → Prop} (hd : 3 ≤ d) (F : Nat → sy_d) (X1 X2 : List jm_c) (hB : iv_in F iv_B4)
    (a69 : 0 ≤ (sy_i F 69).toInt ∧ (sy_i F 69).toInt ≤ 2000)
    (k0 : (sy_i F 2).toInt ≤ (sy_i F 69).toInt → ∀ F1 : Nat → sy_d, iv_in F1 iv_B4 → (∀ j, j < 69 → j ∉ ([1] : List Nat) → F1 j = F j) → (sy_i F1 1).toInt = 0 → (sy_i F1 2).toInt = (sy_i F 2).toInt → sy_ai F1 23 = sy_ai F 23 → sy_ai F1 24 = sy_ai F 24 → hd_W Ls xs d jm_M150 Q (42, sy_dL F1 [some (.inl (.ref 1000)), none], sy_dS F1 [.inl (.ref 1000)], sy_dh F1 X1 X2 (iv_H 4), 0, 0))
    (k1 : (sy_i F 69).toInt < (sy_i F 2).toInt → ∀ F1 : Nat → sy_d, iv_in F1 iv_B4 → (∀ j, j < 69 → j ∉ ([24] : List Nat) → F1 j = F j) → (sy_i F1 1).toInt = (sy_i F 1).toInt → (sy_i F1 2).toInt = (sy_i F 2).toInt → sy_ai F1 23 = sy_ai F 23 → sy_ai F1 24 = jm_upd (sy_ai F 24) ((sy_i F 69).toInt).toNat (((sy_ai F 23).getD ((sy_i F 69).toInt).toNat 0).toInt8.toInt32) → (sy_i F1 69).toInt = ((sy_i F 69).toInt + 1) → hd_W Ls xs d jm_M150 Q (10, sy_dL F1 [some (.inl (.ref 1000)), some (.inr (.inl 69))], sy_dS F1 [], sy_dh F1 X1 X2 (iv_H 4), 0, 0)) :
    hd_W Ls xs d jm_M150 Q (10, sy_dL F [some (.inl (.ref 1000)), some (.inr (.inl 69))], sy_dS F [], sy_dh F X1 X2 (iv_H 4), 0, 0) := by
  by_cases g0 : (sy_i F 2).toInt ≤ (sy_i F 69).toInt
  · have c2 := nz_bx hB (k := 2) (lo := 0) (hi := 2000) rfl
    exact rt_10_p0 hd F X1 X2 hB (by first | exact g0 | (simp only [nz_c]; exact g0)) (fun F1 g e1 => k0 g0 F1 (nz_in hB [1] (fun j hj hn => g j hj (by simp only [List.mem_cons, List.not_mem_nil, or_false, not_or] at hn; omega)) (List.forall_mem_cons.mpr ⟨fun t ht => (Option.some.inj ht) ▸ (nz_hi e1 (by decide : ((0 : Int32)).toInt = 0) (by omega) (by omega)), List.forall_mem_nil _⟩)) (fun j hj hn => g j hj (by simp only [List.mem_cons, List.not_mem_nil, or_false, not_or] at hn; omega)) ((congrArg Int32.toInt (zz_i e1)).trans (by decide : ((0 : Int32)).toInt = 0)) (nz_fi (g 2 (by decide) (by decide))) (nz_fa (g 23 (by decide) (by decide))) (nz_fa (g 24 (by decide) (by decide))))
  replace g0 : (sy_i F 69).toInt < (sy_i F 2).toInt := by omega
  have c2 := nz_bx hB (k := 2) (lo := 0) (hi := 2000) rfl
  have q71 : ((sy_ai F 23).getD (sy_i F 69).toNatClampNeg 0).toInt8.toInt32 = ((sy_ai F 23).getD ((sy_i F 69).toInt).toNat 0).toInt8.toInt32 := by simp only [nz_c]
  have n71 : (((sy_ai F 23).getD (sy_i F 69).toNatClampNeg 0).toInt8.toInt32).toInt = (((sy_ai F 23).getD ((sy_i F 69).toInt).toNat 0).toInt8.toInt32).toInt := congrArg Int32.toInt q71
  have r71 := nz_b8 ((sy_ai F 23).getD ((sy_i F 69).toInt).toNat 0)
  have w72 : jm_upd (sy_ai F 24) (sy_i F 69).toNatClampNeg (((sy_ai F 23).getD (sy_i F 69).toNatClampNeg 0).toInt8.toInt32) = jm_upd (sy_ai F 24) ((sy_i F 69).toInt).toNat (((sy_ai F 23).getD ((sy_i F 69).toInt).toNat 0).toInt8.toInt32) := by simp only [nz_c]
  have n73 : ((sy_i F 69) + ((1 : Int32))).toInt = ((sy_i F 69).toInt + 1) := nz_add (rfl : (sy_i F 69).toInt = (sy_i F 69).toInt) (by decide : ((1 : Int32)).toInt = 1) (by omega) (by omega)
  exact rt_10_p1 hd F X1 X2 hB (by first | exact g0 | (simp only [nz_c]; exact g0)) (by first | exact ⟨by omega, by omega⟩ | (simp only [nz_c]; exact ⟨by omega, by omega⟩)) (by first | exact ⟨by omega, by omega⟩ | (simp only [nz_c]; exact ⟨by omega, by omega⟩)) (fun F1 g e24 e69 => k1 g0 F1 (nz_in hB [24] (fun j hj hn => g j hj (by simp only [List.mem_cons, List.not_mem_nil, or_false, not_or] at hn; omega)) (List.forall_mem_cons.mpr ⟨fun t ht => (Option.some.inj ht) ▸ (nz_hA e24 (nz_up (nz_ba hB (k := 24) (lo := (-128)) (hi := 127) rfl) n71 (by omega) (by omega))), List.forall_mem_nil _⟩)) (fun j hj hn => g j hj (by simp only [List.mem_cons, List.not_mem_nil, or_false, not_or] at hn; omega)) (nz_fi (g 1 (by decide) (by decide))) (nz_fi (g 2 (by decide) (by decide))) (nz_fa (g 23 (by decide) (by decide))) ((zz_ai e24).trans w72) ((congrArg Int32.toInt (zz_i e69)).trans n73))
theorem rap_0_p0 {Ls : Nat} {xs : Nat → Int32} {d : Nat} {Q : Option Value → jm_h → Prop} (hd : 1 ≤ d) (F : Nat → sy_d) (X1 X2 : List jm_c) (hB : iv_in F iv_B4)
    (h0 : 0 ≤ (sy_i F 1).toInt ∧ (sy_i F 1).toInt < 2000)
    (h1 : 0 ≤ ((sy_i F 1) + ((1 : Int32))).toInt ∧ ((sy_i F 1) + ((1 : Int32))).toInt < 2000)
    (h2 : 0 ≤ (((sy_i F 1) + ((1 : Int32))) + ((1 : Int32))).toInt ∧ (((sy_i F 1) + ((1 : Int32))) + ((1 : Int32))).toInt < 2000)
    (h3 : 0 ≤ ((((sy_i F 1) + ((1 : Int32))) + ((1 : Int32))) + ((1 : Int32))).toInt ∧ ((((sy_i F 1) + ((1 : Int32))) + ((1 : Int32))) + ((1 : Int32))).toInt < 2000)
    (k : ∀ F1 : Nat → sy_d, (∀ j, j < 69 → j ≠ 1 ∧ j ≠ 23 → F1 j = F j) → F1 1 = .inl (.int (((((sy_i F 1) + ((1 : Int32))) + ((1 : Int32))) + ((1 : Int32))) + ((1 : Int32)))) → F1 23 = .inr (.inl (jm_upd (jm_upd (jm_upd (jm_upd (sy_ai F 23) (sy_i F 1).toNatClampNeg ((((sy_i F 69) >>> (((24 : Int32)) &&& 31)).toInt8.toInt32).toInt8.toInt32)) ((sy_i F 1) + ((1 : Int32))).toNatClampNeg ((((sy_i F 69) >>> (((16 : Int32)) &&& 31)).toInt8.toInt32).toInt8.toInt32)) (((sy_i F 1) + ((1 : Int32))) + ((1 : Int32))).toNatClampNeg ((((sy_i F 69) >>> (((8 : Int32)) &&& 31)).toInt8.toInt32).toInt8.toInt32)) ((((sy_i F 1) + ((1 : Int32))) + ((1 : Int32))) + ((1 : Int32))).toNatClampNeg ((((sy_i F 69) >>> (((0 : Int32)) &&& 31)).toInt8.toInt32).toInt8.toInt32))) → Q (none) (sy_dh F1 X1 X2 (iv_H 4))) :
    hd_W Ls xs d jm_M134 Q (0, sy_dL F [some (.inl (.ref 1000)), some (.inr (.inl 69)), none], sy_dS F [], sy_dh F X1 X2 (iv_H 4), 0, 0) := by
  refine hd_ret (s := 4) (nv := 70) (v := none) (uh := hd_ov (iv_id 0 iv_B4) [(1, .inl (.inr (.inl 89))), (23, .inr (.inr (.inl 88)))]) (f := true) (sp := []) (d0 := 0) (O := []) (T := [(7, [.inr (.inl 69), .inl (.int 24)], []), (22, [.inr (.inl 70)], []), (22, [.inr (.inl 71)], []), (40, [.inr (.inl 1), .inr (.inl 72)], [.inr (.inl 23)]), (0, [.inr (.inl 1), .inl (.int 1)], []), (7, [.inr (.inl 69), .inl (.int 16)], []), (22, [.inr (.inl 75)], []), (22, [.inr (.inl 76)], []), (40, [.inr (.inl 74), .inr (.inl 77)], [.inr (.inl 73)]), (0, [.inr (.inl 74), .inl (.int 1)], []), (7, [.inr (.inl 69), .inl (.int 8)], []), (22, [.inr (.inl 80)], []), (22, [.inr (.inl 81)], []), (40, [.inr (.inl 79), .inr (.inl 82)], [.inr (.inl 78)]), (0, [.inr (.inl 79), .inl (.int 1)], []), (7, [.inr (.inl 69), .inl (.int 0)], []), (22, [.inr (.inl 85)], []), (22, [.inr (.inl 86)], []), (40, [.inr (.inl 84), .inr (.inl 87)], [.inr (.inl 83)]), (0, [.inr (.inl 84), .inl (.int 1)], [])]) (P := [(6, .inr (.inl 1), .inl (.ref 2000)), (6, .inr (.inl 74), .inl (.ref 2000)), (6, .inr (.inl 79), .inl (.ref 2000)), (6, .inr (.inl 84), .inl (.ref 2000))]) jm_ok134 (by decide +kernel) (by decide +kernel) hd F X1 X2 (fun F' hF hs => ?_)
  have b1 := hd_b (F := F) (F' := F') (k := 1) (hF 1 (by decide))
  have t74 : sy_dv F' (.inr (.inl 74)) = .int ((sy_i F 1) + ((1 : Int32))) := hd_o (hs 4 _ rfl) b1 rfl rfl
  have t79 : sy_dv F' (.inr (.inl 79)) = .int (((sy_i F 1) + ((1 : Int32))) + ((1 : Int32))) := hd_o (hs 9 _ rfl) t74 rfl rfl
  have t84 : sy_dv F' (.inr (.inl 84)) = .int ((((sy_i F 1) + ((1 : Int32))) + ((1 : Int32))) + ((1 : Int32))) := hd_o (hs 14 _ rfl) t79 rfl rfl
  have t89 : sy_dv F' (.inr (.inl 89)) = .int (((((sy_i F 1) + ((1 : Int32))) + ((1 : Int32))) + ((1 : Int32))) + ((1 : Int32))) := hd_o (hs 19 _ rfl) t84 rfl rfl
  have b69 := hd_b (F := F) (F' := F') (k := 69) (hF 69 (by decide))
  have t85 : sy_dv F' (.inr (.inl 85)) = .int ((sy_i F 69) >>> (((0 : Int32)) &&& 31)) := hd_o (hs 15 _ rfl) b69 rfl rfl
  have t86 : sy_dv F' (.inr (.inl 86)) = .int (((sy_i F 69) >>> (((0 : Int32)) &&& 31)).toInt8.toInt32) := hd_u (hs 16 _ rfl) t85 rfl
  have t87 : sy_dv F' (.inr (.inl 87)) = .int ((((sy_i F 69) >>> (((0 : Int32)) &&& 31)).toInt8.toInt32).toInt8.toInt32) := hd_u (hs 17 _ rfl) t86 rfl
  have t80 : sy_dv F' (.inr (.inl 80)) = .int ((sy_i F 69) >>> (((8 : Int32)) &&& 31)) := hd_o (hs 10 _ rfl) b69 rfl rfl
  have t81 : sy_dv F' (.inr (.inl 81)) = .int (((sy_i F 69) >>> (((8 : Int32)) &&& 31)).toInt8.toInt32) := hd_u (hs 11 _ rfl) t80 rfl
  have t82 : sy_dv F' (.inr (.inl 82)) = .int ((((sy_i F 69) >>> (((8 : Int32)) &&& 31)).toInt8.toInt32).toInt8.toInt32) := hd_u (hs 12 _ rfl) t81 rfl
  have t75 : sy_dv F' (.inr (.inl 75)) = .int ((sy_i F 69) >>> (((16 : Int32)) &&& 31)) := hd_o (hs 5 _ rfl) b69 rfl rfl
  have t76 : sy_dv F' (.inr (.inl 76)) = .int (((sy_i F 69) >>> (((16 : Int32)) &&& 31)).toInt8.toInt32) := hd_u (hs 6 _ rfl) t75 rfl
  have t77 : sy_dv F' (.inr (.inl 77)) = .int ((((sy_i F 69) >>> (((16 : Int32)) &&& 31)).toInt8.toInt32).toInt8.toInt32) := hd_u (hs 7 _ rfl) t76 rfl
  have t70 : sy_dv F' (.inr (.inl 70)) = .int ((sy_i F 69) >>> (((24 : Int32)) &&& 31)) := hd_o (hs 0 _ rfl) b69 rfl rfl
  have t71 : sy_dv F' (.inr (.inl 71)) = .int (((sy_i F 69) >>> (((24 : Int32)) &&& 31)).toInt8.toInt32) := hd_u (hs 1 _ rfl) t70 rfl
  have t72 : sy_dv F' (.inr (.inl 72)) = .int ((((sy_i F 69) >>> (((24 : Int32)) &&& 31)).toInt8.toInt32).toInt8.toInt32) := hd_u (hs 2 _ rfl) t71 rfl
  have a23 := hd_ba (F := F) (F' := F') (k := 23) (hF 23 (by decide))
  have t73 : sy_da F' (.inr (.inl 73)) = .inl (jm_upd (sy_ai F 23) (sy_i F 1).toNatClampNeg ((((sy_i F 69) >>> (((24 : Int32)) &&& 31)).toInt8.toInt32).toInt8.toInt32)) := hd_up (hs 3 _ rfl) b1 t72 a23
  have t78 : sy_da F' (.inr (.inl 78)) = .inl (jm_upd (jm_upd (sy_ai F 23) (sy_i F 1).toNatClampNeg ((((sy_i F 69) >>> (((24 : Int32)) &&& 31)).toInt8.toInt32).toInt8.toInt32)) ((sy_i F 1) + ((1 : Int32))).toNatClampNeg ((((sy_i F 69) >>> (((16 : Int32)) &&& 31)).toInt8.toInt32).toInt8.toInt32)) := hd_up (hs 8 _ rfl) t74 t77 t73
  have t83 : sy_da F' (.inr (.inl 83)) = .inl (jm_upd (jm_upd (jm_upd (sy_ai F 23) (sy_i F 1).toNatClampNeg ((((sy_i F 69) >>> (((24 : Int32)) &&& 31)).toInt8.toInt32).toInt8.toInt32)) ((sy_i F 1) + ((1 : Int32))).toNatClampNeg ((((sy_i F 69) >>> (((16 : Int32)) &&& 31)).toInt8.toInt32).toInt8.toInt32)) (((sy_i F 1) + ((1 : Int32))) + ((1 : Int32))).toNatClampNeg ((((sy_i F 69) >>> (((8 : Int32)) &&& 31)).toInt8.toInt32).toInt8.toInt32)) := hd_up (hs 13 _ rfl) t79 t82 t78
  have t88 : sy_da F' (.inr (.inl 88)) = .inl (jm_upd (jm_upd (jm_upd (jm_upd (sy_ai F 23) (sy_i F 1).toNatClampNeg ((((sy_i F 69) >>> (((24 : Int32)) &&& 31)).toInt8.toInt32).toInt8.toInt32)) ((sy_i F 1) + ((1 : Int32))).toNatClampNeg ((((sy_i F 69) >>> (((16 : Int32)) &&& 31)).toInt8.toInt32).toInt8.toInt32)) (((sy_i F 1) + ((1 : Int32))) + ((1 : Int32))).toNatClampNeg ((((sy_i F 69) >>> (((8 : Int32)) &&& 31)).toInt8.toInt32).toInt8.toInt32)) ((((sy_i F 1) + ((1 : Int32))) + ((1 : Int32))) + ((1 : Int32))).toNatClampNeg ((((sy_i F 69) >>> (((0 : Int32)) &&& 31)).toInt8.toInt32).toInt8.toInt32)) := hd_up (hs 18 _ rfl) t84 t87 t83
  have hB' : iv_in F' iv_B4 := iv_in_eq hB (fun j hj => hF j (Nat.lt_of_lt_of_le hj (by decide +kernel)))
  refine ⟨List.forall_mem_cons.mpr ⟨hd_pb b1 (by first | exact h0 | exact h0), List.forall_mem_cons.mpr ⟨hd_pb t74 (by first | exact h1 | exact h1), List.forall_mem_cons.mpr ⟨hd_pb t79 (by first | exact h2 | exact h2), List.forall_mem_cons.mpr ⟨hd_pb t84 (by first | exact h3 | exact h3), fun _ h => absurd h List.not_mem_nil⟩⟩⟩⟩, ?_⟩
  refine k _ ?_ ?_ ?_
  · exact fun j hj hn => (hd_keep hB' (Nat.lt_of_lt_of_le hj (by decide +kernel)) (by simp; omega)).trans (hF j (Nat.lt_of_lt_of_le hj (by decide)))
  · exact hd_gi (x := .inr (.inl 89)) (by decide +kernel) t89
  · exact hd_ga (a := .inr (.inl 88)) (by decide +kernel) t88
theorem rap_0 {Ls : Nat} {xs : Nat → Int32} {d : Nat} {Q : Option Value → jm_h → Prop} (hd : 1 ≤ d) (F : Nat → sy_d) (X1 X2 : List jm_c) (hB : iv_in F iv_B4)
    (o0 : (0 ≤ (sy_i F 1).toInt ∧ (sy_i F 1).toInt < 2000))
    (o1 : (0 ≤ ((sy_i F 1).toInt + 1) ∧ ((sy_i F 1).toInt + 1) < 2000))
    (o2 : (0 ≤ (((sy_i F 1).toInt + 1) + 1) ∧ (((sy_i F 1).toInt + 1) + 1) < 2000))
    (o3 : (0 ≤ ((((sy_i F 1).toInt + 1) + 1) + 1) ∧ ((((sy_i F 1).toInt + 1) + 1) + 1) < 2000))
    (o4 : (0 ≤ (((((sy_i F 1).toInt + 1) + 1) + 1) + 1) ∧ (((((sy_i F 1).toInt + 1) + 1) + 1) + 1) ≤ 2000))
    (k0 : ∀ F1 : Nat → sy_d, iv_in F1 iv_B4 → (∀ j, j < 69 → j ∉ ([1, 23] : List Nat) → F1 j = F j) → (sy_i F1 1).toInt = (((((sy_i F 1).toInt + 1) + 1) + 1) + 1) → sy_ai F1 23 = jm_upd (jm_upd (jm_upd (jm_upd (sy_ai F 23) ((sy_i F 1).toInt).toNat ((((sy_i F 69) >>> (((24 : Int32)) &&& 31)).toInt8.toInt32).toInt8.toInt32)) (((sy_i F 1).toInt + 1)).toNat ((((sy_i F 69) >>> (((16 : Int32)) &&& 31)).toInt8.toInt32).toInt8.toInt32)) ((((sy_i F 1).toInt + 1) + 1)).toNat ((((sy_i F 69) >>> (((8 : Int32)) &&& 31)).toInt8.toInt32).toInt8.toInt32)) (((((sy_i F 1).toInt + 1) + 1) + 1)).toNat ((((sy_i F 69) >>> (((0 : Int32)) &&& 31)).toInt8.toInt32).toInt8.toInt32) → Q (none) (sy_dh F1 X1 X2 (iv_H 4))) :
    hd_W Ls xs d jm_M134 Q (0, sy_dL F [some (.inl (.ref 1000)), some (.inr (.inl 69)), none], sy_dS F [], sy_dh F X1 X2 (iv_H 4), 0, 0) := by
  have c1 := nz_bx hB (k := 1) (lo := 0) (hi := 2000) rfl
  have n74 : ((sy_i F 1) + ((1 : Int32))).toInt = ((sy_i F 1).toInt + 1) := nz_add (rfl : (sy_i F 1).toInt = (sy_i F 1).toInt) (by decide : ((1 : Int32)).toInt = 1) (by omega) (by omega)
  have n79 : (((sy_i F 1) + ((1 : Int32))) + ((1 : Int32))).toInt = (((sy_i F 1).toInt + 1) + 1) := nz_add n74 (by decide : ((1 : Int32)).toInt = 1) (by omega) (by omega)
  have n84 : ((((sy_i F 1) + ((1 : Int32))) + ((1 : Int32))) + ((1 : Int32))).toInt = ((((sy_i F 1).toInt + 1) + 1) + 1) := nz_add n79 (by decide : ((1 : Int32)).toInt = 1) (by omega) (by omega)
  have n89 : (((((sy_i F 1) + ((1 : Int32))) + ((1 : Int32))) + ((1 : Int32))) + ((1 : Int32))).toInt = (((((sy_i F 1).toInt + 1) + 1) + 1) + 1) := nz_add n84 (by decide : ((1 : Int32)).toInt = 1) (by omega) (by omega)
  have n87 : ((((sy_i F 69) >>> (((0 : Int32)) &&& 31)).toInt8.toInt32).toInt8.toInt32).toInt = ((((sy_i F 69) >>> (((0 : Int32)) &&& 31)).toInt8.toInt32).toInt8.toInt32).toInt := congrArg Int32.toInt (rfl : (((sy_i F 69) >>> (((0 : Int32)) &&& 31)).toInt8.toInt32).toInt8.toInt32 = (((sy_i F 69) >>> (((0 : Int32)) &&& 31)).toInt8.toInt32).toInt8.toInt32)
  have r87 := nz_b8 (((sy_i F 69) >>> (((0 : Int32)) &&& 31)).toInt8.toInt32)
  have n82 : ((((sy_i F 69) >>> (((8 : Int32)) &&& 31)).toInt8.toInt32).toInt8.toInt32).toInt = ((((sy_i F 69) >>> (((8 : Int32)) &&& 31)).toInt8.toInt32).toInt8.toInt32).toInt := congrArg Int32.toInt (rfl : (((sy_i F 69) >>> (((8 : Int32)) &&& 31)).toInt8.toInt32).toInt8.toInt32 = (((sy_i F 69) >>> (((8 : Int32)) &&& 31)).toInt8.toInt32).toInt8.toInt32)
  have r82 := nz_b8 (((sy_i F 69) >>> (((8 : Int32)) &&& 31)).toInt8.toInt32)
  have n77 : ((((sy_i F 69) >>> (((16 : Int32)) &&& 31)).toInt8.toInt32).toInt8.toInt32).toInt = ((((sy_i F 69) >>> (((16 : Int32)) &&& 31)).toInt8.toInt32).toInt8.toInt32).toInt := congrArg Int32.toInt (rfl : (((sy_i F 69) >>> (((16 : Int32)) &&& 31)).toInt8.toInt32).toInt8.toInt32 = (((sy_i F 69) >>> (((16 : Int32)) &&& 31)).toInt8.toInt32).toInt8.toInt32)
  have r77 := nz_b8 (((sy_i F 69) >>> (((16 : Int32)) &&& 31)).toInt8.toInt32)
  have n72 : ((((sy_i F 69) >>> (((24 : Int32)) &&& 31)).toInt8.toInt32).toInt8.toInt32).toInt = ((((sy_i F 69) >>> (((24 : Int32)) &&& 31)).toInt8.toInt32).toInt8.toInt32).toInt := congrArg Int32.toInt (rfl : (((sy_i F 69) >>> (((24 : Int32)) &&& 31)).toInt8.toInt32).toInt8.toInt32 = (((sy_i F 69) >>> (((24 : Int32)) &&& 31)).toInt8.toInt32).toInt8.toInt32)
  have r72 := nz_b8 (((sy_i F 69) >>> (((24 : Int32)) &&& 31)).toInt8.toInt32)
  have w88 : jm_upd (jm_upd (jm_upd (jm_upd (sy_ai F 23) (sy_i F 1).toNatClampNeg ((((sy_i F 69) >>> (((24 : Int32)) &&& 31)).toInt8.toInt32).toInt8.toInt32)) ((sy_i F 1) + ((1 : Int32))).toNatClampNeg ((((sy_i F 69) >>> (((16 : Int32)) &&& 31)).toInt8.toInt32).toInt8.toInt32)) (((sy_i F 1) + ((1 : Int32))) + ((1 : Int32))).toNatClampNeg ((((sy_i F 69) >>> (((8 : Int32)) &&& 31)).toInt8.toInt32).toInt8.toInt32)) ((((sy_i F 1) + ((1 : Int32))) + ((1 : Int32))) + ((1 : Int32))).toNatClampNeg ((((sy_i F 69) >>> (((0 : Int32)) &&& 31)).toInt8.toInt32).toInt8.toInt32) = jm_upd (jm_upd (jm_upd (jm_upd (sy_ai F 23) ((sy_i F 1).toInt).toNat ((((sy_i F 69) >>> (((24 : Int32)) &&& 31)).toInt8.toInt32).toInt8.toInt32)) (((sy_i F 1).toInt + 1)).toNat ((((sy_i F 69) >>> (((16 : Int32)) &&& 31)).toInt8.toInt32).toInt8.toInt32)) ((((sy_i F 1).toInt + 1) + 1)).toNat ((((sy_i F 69) >>> (((8 : Int32)) &&& 31)).toInt8.toInt32).toInt8.toInt32)) (((((sy_i F 1).toInt + 1) + 1) + 1)).toNat ((((sy_i F 69) >>> (((0 : Int32)) &&& 31)).toInt8.toInt32).toInt8.toInt32) := by simp only [nz_c, n74, n79, n84, (by decide : ((0 : Int32)).toInt = 0), (by decide : ((1 : Int32)).toInt = 1), (by decide : ((8 : Int32)).toInt = 8), (by decide : ((16 : Int32)).toInt = 16), (by decide : ((24 : Int32)).toInt = 24)]
  exact rap_0_p0 hd F X1 X2 hB (by first | exact (o0) | (simp only [nz_c]; exact (o0))) (by first | exact (o1) | (simp only [nz_c, n74]; exact (o1)) | (rw [n74]; exact (o1))) (by first | exact (o2) | (simp only [nz_c, n74, n79]; exact (o2)) | (rw [n79]; exact (o2))) (by first | exact (o3) | (simp only [nz_c, n74, n79, n84]; exact (o3)) | (rw [n84]; exact (o3))) (fun F1 g e1 e23 => k0 F1 (nz_in hB [1, 23] (fun j hj hn => g j hj (by simp only [List.mem_cons, List.not_mem_nil, or_false, not_or] at hn; omega)) (List.forall_mem_cons.mpr ⟨fun t ht => (Option.some.inj ht) ▸ (nz_hi e1 n89 (o4).1 (o4).2), List.forall_mem_cons.mpr ⟨fun t ht => (Option.some.inj ht) ▸ (nz_hA e23 (nz_up (nz_up (nz_up (nz_up (nz_ba hB (k := 23) (lo := (-128)) (hi := 127) rfl) n72 (by omega) (by omega)) n77 (by omega) (by omega)) n82 (by omega) (by omega)) n87 (by omega) (by omega))), List.forall_mem_nil _⟩⟩)) (fun j hj hn => g j hj (by simp only [List.mem_cons, List.not_mem_nil, or_false, not_or] at hn; omega)) ((congrArg Int32.toInt (zz_i e1)).trans n89) ((zz_ai e23).trans w88))
theorem rfd_0_p0 {Ls : Nat} {xs : Nat → Int32} {d : Nat} {Q : Option Value → jm_h → Prop} (hd : 2 ≤ d) (F : Nat → sy_d) (X1 X2 : List jm_c) (hB : iv_in F iv_B4)
    (h0 : ((sy_i F 1) + ((20 : Int32))).toInt ≤ 2000)
    (k : ∀ F1 : Nat → sy_d, (∀ j, j < 69 → True → F1 j = F j) → F1 69 = .inl (.int (sy_i F 69)) → F1 70 = .inl (.int (sy_i F 70)) → F1 71 = .inl (.int (sy_i F 71)) → F1 72 = .inl (.int (sy_i F 72)) → F1 73 = .inl (.int (sy_i F 73)) → hd_W Ls xs d jm_M133 Q (17, sy_dL F1 [some (.inl (.ref 1000)), some (.inr (.inl 69)), some (.inr (.inl 70)), some (.inr (.inl 71)), some (.inr (.inl 72)), some (.inr (.inl 73))], sy_dS F1 [.inr (.inl 69), .inl (.ref 1000)], sy_dh F1 X1 X2 (iv_H 4), 0, 0)) :
    hd_W Ls xs d jm_M133 Q (0, sy_dL F [some (.inl (.ref 1000)), some (.inr (.inl 69)), some (.inr (.inl 70)), some (.inr (.inl 71)), some (.inr (.inl 72)), some (.inr (.inl 73))], sy_dS F [], sy_dh F X1 X2 (iv_H 4), 0, 0) := by
  refine hd_run (s := 4) (nv := 74) (pc := 17) (L := [some (.inl (.ref 1000)), some (.inr (.inl 69)), some (.inr (.inl 70)), some (.inr (.inl 71)), some (.inr (.inl 72)), some (.inr (.inl 73))]) (S := [.inr (.inl 69), .inl (.ref 1000)]) (uh := hd_ov (iv_id 0 iv_B4) []) (ul := [.inl (.inr (.inl 69)), .inl (.inr (.inl 70)), .inl (.inr (.inl 71)), .inl (.inr (.inl 72)), .inl (.inr (.inl 73))]) (f := true) (sp := [17]) (d0 := 1) (O := [true]) (T := [(0, [.inr (.inl 1), .inl (.int 20)], [])]) (P := [(4, .inr (.inl 74), .inl (.int 2000))]) jm_ok133 (by decide +kernel) (by decide +kernel) hd F X1 X2 (fun F' hF hs => ?_)
  have b1 := hd_b (F := F) (F' := F') (k := 1) (hF 1 (by decide))
  have t74 : sy_dv F' (.inr (.inl 74)) = .int ((sy_i F 1) + ((20 : Int32))) := hd_o (hs 0 _ rfl) b1 rfl rfl
  have b69 := hd_b (F := F) (F' := F') (k := 69) (hF 69 (by decide))
  have b70 := hd_b (F := F) (F' := F') (k := 70) (hF 70 (by decide))
  have b71 := hd_b (F := F) (F' := F') (k := 71) (hF 71 (by decide))
  have b72 := hd_b (F := F) (F' := F') (k := 72) (hF 72 (by decide))
  have b73 := hd_b (F := F) (F' := F') (k := 73) (hF 73 (by decide))
  have hB' : iv_in F' iv_B4 := iv_in_eq hB (fun j hj => hF j (Nat.lt_of_lt_of_le hj (by decide +kernel)))
  refine ⟨List.forall_mem_cons.mpr ⟨hd_p4 t74 rfl (by have hc : ((2000) : Int32).toInt = 2000 := (by decide); omega), fun _ h => absurd h List.not_mem_nil⟩, ?_⟩
  refine k _ ?_ ?_ ?_ ?_ ?_ ?_
  · exact fun j hj _ => (hd_keep hB' (Nat.lt_of_lt_of_le hj (by decide +kernel)) (by simp)).trans (hF j (Nat.lt_of_lt_of_le hj (by decide)))
  · exact hd_gi (x := .inr (.inl 69)) (by decide +kernel) b69
  · exact hd_gi (x := .inr (.inl 70)) (by decide +kernel) b70
  · exact hd_gi (x := .inr (.inl 71)) (by decide +kernel) b71
  · exact hd_gi (x := .inr (.inl 72)) (by decide +kernel) b72
  · exact hd_gi (x := .inr (.inl 73)) (by decide +kernel) b73
theorem rfd_0_p1 {Ls : Nat} {xs : Nat → Int32} {d : Nat} {Q : Option Value → jm_h → Prop} (hd : 2 ≤ d) (F : Nat → sy_d) (X1 X2 : List jm_c) (hB : iv_in F iv_B4)
    (h0 : 2000 < ((sy_i F 1) + ((20 : Int32))).toInt)
    (k : ∀ F1 : Nat → sy_d, (∀ j, j < 69 → True → F1 j = F j) → Q (some (.int (((-1) : Int32)))) (sy_dh F1 X1 X2 (iv_H 4))) :
    hd_W Ls xs d jm_M133 Q (0, sy_dL F [some (.inl (.ref 1000)), some (.inr (.inl 69)), some (.inr (.inl 70)), some (.inr (.inl 71)), some (.inr (.inl 72)), some (.inr (.inl 73))], sy_dS F [], sy_dh F X1 X2 (iv_H 4), 0, 0) := by
  refine hd_ret (s := 4) (nv := 74) (v := some (.inl (.int (-1)))) (uh := hd_ov (iv_id 0 iv_B4) []) (f := true) (sp := [17]) (d0 := 1) (O := [false]) (T := [(0, [.inr (.inl 1), .inl (.int 20)], [])]) (P := [(5, .inr (.inl 74), .inl (.int 2000))]) jm_ok133 (by decide +kernel) (by decide +kernel) hd F X1 X2 (fun F' hF hs => ?_)
  have b1 := hd_b (F := F) (F' := F') (k := 1) (hF 1 (by decide))
  have t74 : sy_dv F' (.inr (.inl 74)) = .int ((sy_i F 1) + ((20 : Int32))) := hd_o (hs 0 _ rfl) b1 rfl rfl
  have hB' : iv_in F' iv_B4 := iv_in_eq hB (fun j hj => hF j (Nat.lt_of_lt_of_le hj (by decide +kernel)))
  refine ⟨List.forall_mem_cons.mpr ⟨hd_p5 t74 rfl (by have hc : ((2000) : Int32).toInt = 2000 := (by decide); omega), fun _ h => absurd h List.not_mem_nil⟩, ?_⟩
  refine k _ ?_
  · exact fun j hj _ => (hd_keep hB' (Nat.lt_of_lt_of_le hj (by decide +kernel)) (by simp)).trans (hF j (Nat.lt_of_lt_of_le hj (by decide)))
theorem rfd_0 {Ls : Nat} {xs : Nat → Int32} {d : Nat} {Q : Option Value → jm_h → Prop} (hd : 2 ≤ d) (F : Nat → sy_d) (X1 X2 : List jm_c) (hB : iv_in F iv_B4)
    (k0 : ((sy_i F 1).toInt + 20) ≤ 2000 → ∀ F1 : Nat → sy_d, iv_in F1 iv_B4 → (∀ j, j < 69 → j ∉ ([] : List Nat) → F1 j = F j) → (sy_i F1 1).toInt = (sy_i F 1).toInt → (sy_i F1 10).toInt = (sy_i F 10).toInt → (sy_i F1 21).toInt = (sy_i F 21).toInt → sy_ai F1 23 = sy_ai F 23 → sy_ai F1 67 = sy_ai F 67 → (sy_i F1 69).toInt = (sy_i F 69).toInt → (sy_i F1 70).toInt = (sy_i F 70).toInt → (sy_i F1 71).toInt = (sy_i F 71).toInt → (sy_i F1 72).toInt = (sy_i F 72).toInt → (sy_i F1 73).toInt = (sy_i F 73).toInt → hd_W Ls xs d jm_M133 Q (17, sy_dL F1 [some (.inl (.ref 1000)), some (.inr (.inl 69)), some (.inr (.inl 70)), some (.inr (.inl 71)), some (.inr (.inl 72)), some (.inr (.inl 73))], sy_dS F1 [.inr (.inl 69), .inl (.ref 1000)], sy_dh F1 X1 X2 (iv_H 4), 0, 0))
    (k1 : 2000 < ((sy_i F 1).toInt + 20) → ∀ F1 : Nat → sy_d, iv_in F1 iv_B4 → (∀ j, j < 69 → j ∉ ([] : List Nat) → F1 j = F j) → (sy_i F1 1).toInt = (sy_i F 1).toInt → (sy_i F1 10).toInt = (sy_i F 10).toInt → (sy_i F1 21).toInt = (sy_i F 21).toInt → sy_ai F1 23 = sy_ai F 23 → sy_ai F1 67 = sy_ai F 67 → Q (some (.int (((-1) : Int32)))) (sy_dh F1 X1 X2 (iv_H 4))) :
    hd_W Ls xs d jm_M133 Q (0, sy_dL F [some (.inl (.ref 1000)), some (.inr (.inl 69)), some (.inr (.inl 70)), some (.inr (.inl 71)), some (.inr (.inl 72)), some (.inr (.inl 73))], sy_dS F [], sy_dh F X1 X2 (iv_H 4), 0, 0) := by
  by_cases g0 : ((sy_i F 1).toInt + 20) ≤ 2000
  · have c1 := nz_bx hB (k := 1) (lo := 0) (hi := 2000) rfl
    have n74 : ((sy_i F 1) + ((20 : Int32))).toInt = ((sy_i F 1).toInt + 20) := nz_add (rfl : (sy_i F 1).toInt = (sy_i F 1).toInt) (by decide : ((20 : Int32)).toInt = 20) (by omega) (by omega)
    exact rfd_0_p0 hd F X1 X2 hB (by first | exact g0 | (simp only [nz_c, n74]; exact g0) | (rw [n74]; exact g0)) (fun F1 g e69 e70 e71 e72 e73 => k0 g0 F1 (nz_in hB [] (fun j hj hn => g j hj (by simp only [List.mem_cons, List.not_mem_nil, or_false, not_or] at hn; exact trivial)) (List.forall_mem_nil _)) (fun j hj hn => g j hj (by simp only [List.mem_cons, List.not_mem_nil, or_false, not_or] at hn; exact trivial)) (nz_fi (g 1 (by decide) (by decide))) (nz_fi (g 10 (by decide) (by decide))) (nz_fi (g 21 (by decide) (by decide))) (nz_fa (g 23 (by decide) (by decide))) (nz_fa (g 67 (by decide) (by decide))) ((congrArg Int32.toInt (zz_i e69)).trans (rfl : (sy_i F 69).toInt = (sy_i F 69).toInt)) ((congrArg Int32.toInt (zz_i e70)).trans (rfl : (sy_i F 70).toInt = (sy_i F 70).toInt)) ((congrArg Int32.toInt (zz_i e71)).trans (rfl : (sy_i F 71).toInt = (sy_i F 71).toInt)) ((congrArg Int32.toInt (zz_i e72)).trans (rfl : (sy_i F 72).toInt = (sy_i F 72).toInt)) ((congrArg Int32.toInt (zz_i e73)).trans (rfl : (sy_i F 73).toInt = (sy_i F 73).toInt)))
  replace g0 : 2000 < ((sy_i F 1).toInt + 20) := by omega
  have c1 := nz_bx hB (k := 1) (lo := 0) (hi := 2000) rfl
  have n74 : ((sy_i F 1) + ((20 : Int32))).toInt = ((sy_i F 1).toInt + 20) := nz_add (rfl : (sy_i F 1).toInt = (sy_i F 1).toInt) (by decide : ((20 : Int32)).toInt = 20) (by omega) (by omega)
  exact rfd_0_p1 hd F X1 X2 hB (by first | exact g0 | (simp only [nz_c, n74]; exact g0) | (rw [n74]; exact g0)) (fun F1 g  => k1 g0 F1 (nz_in hB [] (fun j hj hn => g j hj (by simp only [List.mem_cons, List.not_mem_nil, or_false, not_or] at hn; exact trivial)) (List.forall_mem_nil _)) (fun j hj hn => g j hj (by simp only [List.mem_cons, List.not_mem_nil, or_false, not_or] at hn; exact trivial)) (nz_fi (g 1 (by decide) (by decide))) (nz_fi (g 10 (by decide) (by decide))) (nz_fi (g 21 (by decide) (by decide))) (nz_fa (g 23 (by decide) (by decide))) (nz_fa (g 67 (by decide) (by decide))))
theorem rfd_20_p0 {Ls : Nat} {xs : Nat → Int32} {d : Nat} {Q : Option Value → jm_h → Prop} (hd : 2 ≤ d) (F : Nat → sy_d) (X1 X2 : List jm_c) (hB : iv_in F iv_B4)
    (k : ∀ F1 : Nat → sy_d, (∀ j, j < 69 → True → F1 j = F j) → F1 69 = .inl (.int (sy_i F 69)) → F1 70 = .inl (.int (sy_i F 70)) → F1 71 = .inl (.int (sy_i F 71)) → F1 72 = .inl (.int (sy_i F 72)) → F1 73 = .inl (.int (sy_i F 73)) → hd_W Ls xs d jm_M133 Q (22, sy_dL F1 [some (.inl (.ref 1000)), some (.inr (.inl 69)), some (.inr (.inl 70)), some (.inr (.inl 71)), some (.inr (.inl 72)), some (.inr (.inl 73))], sy_dS F1 [.inr (.inl 70), .inl (.ref 1000)], sy_dh F1 X1 X2 (iv_H 4), 0, 0)) :
    hd_W Ls xs d jm_M133 Q (20, sy_dL F [some (.inl (.ref 1000)), some (.inr (.inl 69)), some (.inr (.inl 70)), some (.inr (.inl 71)), some (.inr (.inl 72)), some (.inr (.inl 73))], sy_dS F [], sy_dh F X1 X2 (iv_H 4), 0, 0) := by
  refine hd_run (s := 4) (nv := 74) (pc := 22) (L := [some (.inl (.ref 1000)), some (.inr (.inl 69)), some (.inr (.inl 70)), some (.inr (.inl 71)), some (.inr (.inl 72)), some (.inr (.inl 73))]) (S := [.inr (.inl 70), .inl (.ref 1000)]) (uh := hd_ov (iv_id 0 iv_B4) []) (ul := [.inl (.inr (.inl 69)), .inl (.inr (.inl 70)), .inl (.inr (.inl 71)), .inl (.inr (.inl 72)), .inl (.inr (.inl 73))]) (f := false) (sp := [22]) (d0 := 1) (O := []) (T := []) (P := []) jm_ok133 (by decide +kernel) (by decide +kernel) hd F X1 X2 (fun F' hF hs => ?_)
  have b69 := hd_b (F := F) (F' := F') (k := 69) (hF 69 (by decide))
  have b70 := hd_b (F := F) (F' := F') (k := 70) (hF 70 (by decide))
  have b71 := hd_b (F := F) (F' := F') (k := 71) (hF 71 (by decide))
  have b72 := hd_b (F := F) (F' := F') (k := 72) (hF 72 (by decide))
  have b73 := hd_b (F := F) (F' := F') (k := 73) (hF 73 (by decide))
  have hB' : iv_in F' iv_B4 := iv_in_eq hB (fun j hj => hF j (Nat.lt_of_lt_of_le hj (by decide +kernel)))
  refine ⟨fun _ h => absurd h List.not_mem_nil, ?_⟩
  refine k _ ?_ ?_ ?_ ?_ ?_ ?_
  · exact fun j hj _ => (hd_keep hB' (Nat.lt_of_lt_of_le hj (by decide +kernel)) (by simp)).trans (hF j (Nat.lt_of_lt_of_le hj (by decide)))
  · exact hd_gi (x := .inr (.inl 69)) (by decide +kernel) b69
  · exact hd_gi (x := .inr (.inl 70)) (by decide +kernel) b70
  · exact hd_gi (x := .inr (.inl 71)) (by decide +kernel) b71
  · exact hd_gi (x := .inr (.inl 72)) (by decide +kernel) b72
  · exact hd_gi (x := .inr (.inl 73)) (by decide +kernel) b73
theorem rfd_20 {Ls : Nat} {xs : Nat → Int32} {d : Nat} {Q : Option Value → jm_h → Prop} (hd : 2 ≤ d) (F : Nat → sy_d) (X1 X2 : List jm_c) (hB : iv_in F iv_B4)
    (k0 : ∀ F1 : Nat → sy_d, iv_in F1 iv_B4 → (∀ j, j < 69 → j ∉ ([] : List Nat) → F1 j = F j) → (sy_i F1 1).toInt = (sy_i F 1).toInt → (sy_i F1 10).toInt = (sy_i F 10).toInt → (sy_i F1 21).toInt = (sy_i F 21).toInt → sy_ai F1 23 = sy_ai F 23 → sy_ai F1 67 = sy_ai F 67 → (sy_i F1 69).toInt = (sy_i F 69).toInt → (sy_i F1 70).toInt = (sy_i F 70).toInt → (sy_i F1 71).toInt = (sy_i F 71).toInt → (sy_i F1 72).toInt = (sy_i F 72).toInt → (sy_i F1 73).toInt = (sy_i F 73).toInt → hd_W Ls xs d jm_M133 Q (22, sy_dL F1 [some (.inl (.ref 1000)), some (.inr (.inl 69)), some (.inr (.inl 70)), some (.inr (.inl 71)), some (.inr (.inl 72)), some (.inr (.inl 73))], sy_dS F1 [.inr (.inl 70), .inl (.ref 1000)], sy_dh F1 X1 X2 (iv_H 4), 0, 0)) :
    hd_W Ls xs d jm_M133 Q (20, sy_dL F [some (.inl (.ref 1000)), some (.inr (.inl 69)), some (.inr (.inl 70)), some (.inr (.inl 71)), some (.inr (.inl 72)), some (.inr (.inl 73))], sy_dS F [], sy_dh F X1 X2 (iv_H 4), 0, 0) := by
  exact rfd_20_p0 hd F X1 X2 hB  (fun F1 g e69 e70 e71 e72 e73 => k0 F1 (nz_in hB [] (fun j hj hn => g j hj (by simp only [List.mem_cons, List.not_mem_nil, or_false, not_or] at hn; exact trivial)) (List.forall_mem_nil _)) (fun j hj hn => g j hj (by simp only [List.mem_cons, List.not_mem_nil, or_false, not_or] at hn; exact trivial)) (nz_fi (g 1 (by decide) (by decide))) (nz_fi (g 10 (by decide) (by decide))) (nz_fi (g 21 (by decide) (by decide))) (nz_fa (g 23 (by decide) (by decide))) (nz_fa (g 67 (by decide) (by decide))) ((congrArg Int32.toInt (zz_i e69)).trans (rfl : (sy_i F 69).toInt = (sy_i F 69).toInt)) ((congrArg Int32.toInt (zz_i e70)).trans (rfl : (sy_i F 70).toInt = (sy_i F 70).toInt)) ((congrArg Int32.toInt (zz_i e71)).trans (rfl : (sy_i F 71).toInt = (sy_i F 71).toInt)) ((congrArg Int32.toInt (zz_i e72)).trans (rfl : (sy_i F 72).toInt = (sy_i F 72).toInt)) ((congrArg Int32.toInt (zz_i e73)).trans (rfl : (sy_i F 73).toInt = (sy_i F 73).toInt)))
theorem rfd_25_p0 {Ls : Nat} {xs : Nat → Int32} {d : Nat} {Q : Option Value → jm_h → Prop} (hd : 2 ≤ d) (F : Nat → sy_d) (X1 X2 : List jm_c) (hB : iv_in F iv_B4)
    (k : ∀ F1 : Nat → sy_d, (∀ j, j < 69 → True → F1 j = F j) → F1 69 = .inl (.int (sy_i F 69)) → F1 70 = .inl (.int (sy_i F 70)) → F1 71 = .inl (.int (sy_i F 71)) → F1 72 = .inl (.int (sy_i F 72)) → F1 73 = .inl (.int (sy_i F 73)) → hd_W Ls xs d jm_M133 Q (27, sy_dL F1 [some (.inl (.ref 1000)), some (.inr (.inl 69)), some (.inr (.inl 70)), some (.inr (.inl 71)), some (.inr (.inl 72)), some (.inr (.inl 73))], sy_dS F1 [.inr (.inl 71), .inl (.ref 1000)], sy_dh F1 X1 X2 (iv_H 4), 0, 0)) :
    hd_W Ls xs d jm_M133 Q (25, sy_dL F [some (.inl (.ref 1000)), some (.inr (.inl 69)), some (.inr (.inl 70)), some (.inr (.inl 71)), some (.inr (.inl 72)), some (.inr (.inl 73))], sy_dS F [], sy_dh F X1 X2 (iv_H 4), 0, 0) := by
  refine hd_run (s := 4) (nv := 74) (pc := 27) (L := [some (.inl (.ref 1000)), some (.inr (.inl 69)), some (.inr (.inl 70)), some (.inr (.inl 71)), some (.inr (.inl 72)), some (.inr (.inl 73))]) (S := [.inr (.inl 71), .inl (.ref 1000)]) (uh := hd_ov (iv_id 0 iv_B4) []) (ul := [.inl (.inr (.inl 69)), .inl (.inr (.inl 70)), .inl (.inr (.inl 71)), .inl (.inr (.inl 72)), .inl (.inr (.inl 73))]) (f := false) (sp := [27]) (d0 := 1) (O := []) (T := []) (P := []) jm_ok133 (by decide +kernel) (by decide +kernel) hd F X1 X2 (fun F' hF hs => ?_)
  have b69 := hd_b (F := F) (F' := F') (k := 69) (hF 69 (by decide))
  have b70 := hd_b (F := F) (F' := F') (k := 70) (hF 70 (by decide))
  have b71 := hd_b (F := F) (F' := F') (k := 71) (hF 71 (by decide))
  have b72 := hd_b (F := F) (F' := F') (k := 72) (hF 72 (by decide))
  have b73 := hd_b (F := F) (F' := F') (k := 73) (hF 73 (by decide))
  have hB' : iv_in F' iv_B4 := iv_in_eq hB (fun j hj => hF j (Nat.lt_of_lt_of_le hj (by decide +kernel)))
  refine ⟨fun _ h => absurd h List.not_mem_nil, ?_⟩
  refine k _ ?_ ?_ ?_ ?_ ?_ ?_
  · exact fun j hj _ => (hd_keep hB' (Nat.lt_of_lt_of_le hj (by decide +kernel)) (by simp)).trans (hF j (Nat.lt_of_lt_of_le hj (by decide)))
  · exact hd_gi (x := .inr (.inl 69)) (by decide +kernel) b69
  · exact hd_gi (x := .inr (.inl 70)) (by decide +kernel) b70
  · exact hd_gi (x := .inr (.inl 71)) (by decide +kernel) b71
  · exact hd_gi (x := .inr (.inl 72)) (by decide +kernel) b72
  · exact hd_gi (x := .inr (.inl 73)) (by decide +kernel) b73
theorem rfd_25 {Ls : Nat} {xs : Nat → Int32} {d : Nat} {Q : Option Value → jm_h → Prop} (hd : 2 ≤ d) (F : Nat → sy_d) (X1 X2 : List jm_c) (hB : iv_in F iv_B4)
    (k0 : ∀ F1 : Nat → sy_d, iv_in F1 iv_B4 → (∀ j, j < 69 → j ∉ ([] : List Nat) → F1 j = F j) → (sy_i F1 1).toInt = (sy_i F 1).toInt → (sy_i F1 10).toInt = (sy_i F 10).toInt → (sy_i F1 21).toInt = (sy_i F 21).toInt → sy_ai F1 23 = sy_ai F 23 → sy_ai F1 67 = sy_ai F 67 → (sy_i F1 69).toInt = (sy_i F 69).toInt → (sy_i F1 70).toInt = (sy_i F 70).toInt → (sy_i F1 71).toInt = (sy_i F 71).toInt → (sy_i F1 72).toInt = (sy_i F 72).toInt → (sy_i F1 73).toInt = (sy_i F 73).toInt → hd_W Ls xs d jm_M133 Q (27, sy_dL F1 [some (.inl (.ref 1000)), some (.inr (.inl 69)), some (.inr (.inl 70)), some (.inr (.inl 71)), some (.inr (.inl 72)), some (.inr (.inl 73))], sy_dS F1 [.inr (.inl 71), .inl (.ref 1000)], sy_dh F1 X1 X2 (iv_H 4), 0, 0)) :
    hd_W Ls xs d jm_M133 Q (25, sy_dL F [some (.inl (.ref 1000)), some (.inr (.inl 69)), some (.inr (.inl 70)), some (.inr (.inl 71)), some (.inr (.inl 72)), some (.inr (.inl 73))], sy_dS F [], sy_dh F X1 X2 (iv_H 4), 0, 0) := by
  exact rfd_25_p0 hd F X1 X2 hB  (fun F1 g e69 e70 e71 e72 e73 => k0 F1 (nz_in hB [] (fun j hj hn => g j hj (by simp only [List.mem_cons, List.not_mem_nil, or_false, not_or] at hn; exact trivial)) (List.forall_mem_nil _)) (fun j hj hn => g j hj (by simp only [List.mem_cons, List.not_mem_nil, or_false, not_or] at hn; exact trivial)) (nz_fi (g 1 (by decide) (by decide))) (nz_fi (g 10 (by decide) (by decide))) (nz_fi (g 21 (by decide) (by decide))) (nz_fa (g 23 (by decide) (by decide))) (nz_fa (g 67 (by decide) (by decide))) ((congrArg Int32.toInt (zz_i e69)).trans (rfl : (sy_i F 69).toInt = (sy_i F 69).toInt)) ((congrArg Int32.toInt (zz_i e70)).trans (rfl : (sy_i F 70).toInt = (sy_i F 70).toInt)) ((congrArg Int32.toInt (zz_i e71)).trans (rfl : (sy_i F 71).toInt = (sy_i F 71).toInt)) ((congrArg Int32.toInt (zz_i e72)).trans (rfl : (sy_i F 72).toInt = (sy_i F 72).toInt)) ((congrArg Int32.toInt (zz_i e73)).trans (rfl : (sy_i F 73).toInt = (sy_i F 73).toInt)))
theorem rfd_30_p0 {Ls : Nat} {xs : Nat → Int32} {d : Nat} {Q : Option Value → jm_h → Prop} (hd : 2 ≤ d) (F : Nat → sy_d) (X1 X2 : List jm_c) (hB : iv_in F iv_B4)
    (k : ∀ F1 : Nat → sy_d, (∀ j, j < 69 → True → F1 j = F j) → F1 69 = .inl (.int (sy_i F 69)) → F1 70 = .inl (.int (sy_i F 70)) → F1 71 = .inl (.int (sy_i F 71)) → F1 72 = .inl (.int (sy_i F 72)) → F1 73 = .inl (.int (sy_i F 73)) → hd_W Ls xs d jm_M133 Q (33, sy_dL F1 [some (.inl (.ref 1000)), some (.inr (.inl 69)), some (.inr (.inl 70)), some (.inr (.inl 71)), some (.inr (.inl 72)), some (.inr (.inl 73))], sy_dS F1 [.inr (.inl 72), .inl (.ref 1000)], sy_dh F1 X1 X2 (iv_H 4), 0, 0)) :
    hd_W Ls xs d jm_M133 Q (30, sy_dL F [some (.inl (.ref 1000)), some (.inr (.inl 69)), some (.inr (.inl 70)), some (.inr (.inl 71)), some (.inr (.inl 72)), some (.inr (.inl 73))], sy_dS F [], sy_dh F X1 X2 (iv_H 4), 0, 0) := by
  refine hd_run (s := 4) (nv := 74) (pc := 33) (L := [some (.inl (.ref 1000)), some (.inr (.inl 69)), some (.inr (.inl 70)), some (.inr (.inl 71)), some (.inr (.inl 72)), some (.inr (.inl 73))]) (S := [.inr (.inl 72), .inl (.ref 1000)]) (uh := hd_ov (iv_id 0 iv_B4) []) (ul := [.inl (.inr (.inl 69)), .inl (.inr (.inl 70)), .inl (.inr (.inl 71)), .inl (.inr (.inl 72)), .inl (.inr (.inl 73))]) (f := false) (sp := [33]) (d0 := 1) (O := []) (T := []) (P := []) jm_ok133 (by decide +kernel) (by decide +kernel) hd F X1 X2 (fun F' hF hs => ?_)
  have b69 := hd_b (F := F) (F' := F') (k := 69) (hF 69 (by decide))
  have b70 := hd_b (F := F) (F' := F') (k := 70) (hF 70 (by decide))
  have b71 := hd_b (F := F) (F' := F') (k := 71) (hF 71 (by decide))
  have b72 := hd_b (F := F) (F' := F') (k := 72) (hF 72 (by decide))
  have b73 := hd_b (F := F) (F' := F') (k := 73) (hF 73 (by decide))
  have hB' : iv_in F' iv_B4 := iv_in_eq hB (fun j hj => hF j (Nat.lt_of_lt_of_le hj (by decide +kernel)))
  refine ⟨fun _ h => absurd h List.not_mem_nil, ?_⟩
  refine k _ ?_ ?_ ?_ ?_ ?_ ?_
  · exact fun j hj _ => (hd_keep hB' (Nat.lt_of_lt_of_le hj (by decide +kernel)) (by simp)).trans (hF j (Nat.lt_of_lt_of_le hj (by decide)))
  · exact hd_gi (x := .inr (.inl 69)) (by decide +kernel) b69
  · exact hd_gi (x := .inr (.inl 70)) (by decide +kernel) b70
  · exact hd_gi (x := .inr (.inl 71)) (by decide +kernel) b71
  · exact hd_gi (x := .inr (.inl 72)) (by decide +kernel) b72
  · exact hd_gi (x := .inr (.inl 73)) (by decide +kernel) b73
theorem rfd_30 {Ls : Nat} {xs : Nat → Int32} {d : Nat} {Q : Option Value → jm_h → Prop} (hd : 2 ≤ d) (F : Nat → sy_d) (X1 X2 : List jm_c) (hB : iv_in F iv_B4)
    (k0 : ∀ F1 : Nat → sy_d, iv_in F1 iv_B4 → (∀ j, j < 69 → j ∉ ([] : List Nat) → F1 j = F j) → (sy_i F1 1).toInt = (sy_i F 1).toInt → (sy_i F1 10).toInt = (sy_i F 10).toInt → (sy_i F1 21).toInt = (sy_i F 21).toInt → sy_ai F1 23 = sy_ai F 23 → sy_ai F1 67 = sy_ai F 67 → (sy_i F1 69).toInt = (sy_i F 69).toInt → (sy_i F1 70).toInt = (sy_i F 70).toInt → (sy_i F1 71).toInt = (sy_i F 71).toInt → (sy_i F1 72).toInt = (sy_i F 72).toInt → (sy_i F1 73).toInt = (sy_i F 73).toInt → hd_W Ls xs d jm_M133 Q (33, sy_dL F1 [some (.inl (.ref 1000)), some (.inr (.inl 69)), some (.inr (.inl 70)), some (.inr (.inl 71)), some (.inr (.inl 72)), some (.inr (.inl 73))], sy_dS F1 [.inr (.inl 72), .inl (.ref 1000)], sy_dh F1 X1 X2 (iv_H 4), 0, 0)) :
    hd_W Ls xs d jm_M133 Q (30, sy_dL F [some (.inl (.ref 1000)), some (.inr (.inl 69)), some (.inr (.inl 70)), some (.inr (.inl 71)), some (.inr (.inl 72)), some (.inr (.inl 73))], sy_dS F [], sy_dh F X1 X2 (iv_H 4), 0, 0) := by
  exact rfd_30_p0 hd F X1 X2 hB  (fun F1 g e69 e70 e71 e72 e73 => k0 F1 (nz_in hB [] (fun j hj hn => g j hj (by simp only [List.mem_cons, List.not_mem_nil, or_false, not_or] at hn; exact trivial)) (List.forall_mem_nil _)) (fun j hj hn => g j hj (by simp only [List.mem_cons, List.not_mem_nil, or_false, not_or] at hn; exact trivial)) (nz_fi (g 1 (by decide) (by decide))) (nz_fi (g 10 (by decide) (by decide))) (nz_fi (g 21 (by decide) (by decide))) (nz_fa (g 23 (by decide) (by decide))) (nz_fa (g 67 (by decide) (by decide))) ((congrArg Int32.toInt (zz_i e69)).trans (rfl : (sy_i F 69).toInt = (sy_i F 69).toInt)) ((congrArg Int32.toInt (zz_i e70)).trans (rfl : (sy_i F 70).toInt = (sy_i F 70).toInt)) ((congrArg Int32.toInt (zz_i e71)).trans (rfl : (sy_i F 71).toInt = (sy_i F 71).toInt)) ((congrArg Int32.toInt (zz_i e72)).trans (rfl : (sy_i F 72).toInt = (sy_i F 72).toInt)) ((congrArg Int32.toInt (zz_i e73)).trans (rfl : (sy_i F 73).toInt = (sy_i F 73).toInt)))
theorem rfd_36_p0 {Ls : Nat} {xs : Nat → Int32} {d : Nat} {Q : Option Value → jm_h → Prop} (hd : 2 ≤ d) (F : Nat → sy_d) (X1 X2 : List jm_c) (hB : iv_in F iv_B4)
    (k : ∀ F1 : Nat → sy_d, (∀ j, j < 69 → True → F1 j = F j) → F1 69 = .inl (.int (sy_i F 69)) → F1 70 = .inl (.int (sy_i F 70)) → F1 71 = .inl (.int (sy_i F 71)) → F1 72 = .inl (.int (sy_i F 72)) → F1 73 = .inl (.int (sy_i F 73)) → hd_W Ls xs d jm_M133 Q (39, sy_dL F1 [some (.inl (.ref 1000)), some (.inr (.inl 69)), some (.inr (.inl 70)), some (.inr (.inl 71)), some (.inr (.inl 72)), some (.inr (.inl 73))], sy_dS F1 [.inr (.inl 73), .inl (.ref 1000)], sy_dh F1 X1 X2 (iv_H 4), 0, 0)) :
    hd_W Ls xs d jm_M133 Q (36, sy_dL F [some (.inl (.ref 1000)), some (.inr (.inl 69)), some (.inr (.inl 70)), some (.inr (.inl 71)), some (.inr (.inl 72)), some (.inr (.inl 73))], sy_dS F [], sy_dh F X1 X2 (iv_H 4), 0, 0) := by
  refine hd_run (s := 4) (nv := 74) (pc := 39) (L := [some (.inl (.ref 1000)), some (.inr (.inl 69)), some (.inr (.inl 70)), some (.inr (.inl 71)), some (.inr (.inl 72)), some (.inr (.inl 73))]) (S := [.inr (.inl 73), .inl (.ref 1000)]) (uh := hd_ov (iv_id 0 iv_B4) []) (ul := [.inl (.inr (.inl 69)), .inl (.inr (.inl 70)), .inl (.inr (.inl 71)), .inl (.inr (.inl 72)), .inl (.inr (.inl 73))]) (f := false) (sp := [39]) (d0 := 1) (O := []) (T := []) (P := []) jm_ok133 (by decide +kernel) (by decide +kernel) hd F X1 X2 (fun F' hF hs => ?_)
  have b69 := hd_b (F := F) (F' := F') (k := 69) (hF 69 (by decide))
  have b70 := hd_b (F := F) (F' := F') (k := 70) (hF 70 (by decide))
  have b71 := hd_b (F := F) (F' := F') (k := 71) (hF 71 (by decide))
  have b72 := hd_b (F := F) (F' := F') (k := 72) (hF 72 (by decide))
  have b73 := hd_b (F := F) (F' := F') (k := 73) (hF 73 (by decide))
  have hB' : iv_in F' iv_B4 := iv_in_eq hB (fun j hj => hF j (Nat.lt_of_lt_of_le hj (by decide +kernel)))
  refine ⟨fun _ h => absurd h List.not_mem_nil, ?_⟩
  refine k _ ?_ ?_ ?_ ?_ ?_ ?_
  · exact fun j hj _ => (hd_keep hB' (Nat.lt_of_lt_of_le hj (by decide +kernel)) (by simp)).trans (hF j (Nat.lt_of_lt_of_le hj (by decide)))
  · exact hd_gi (x := .inr (.inl 69)) (by decide +kernel) b69
  · exact hd_gi (x := .inr (.inl 70)) (by decide +kernel) b70
  · exact hd_gi (x := .inr (.inl 71)) (by decide +kernel) b71
  · exact hd_gi (x := .inr (.inl 72)) (by decide +kernel) b72
  · exact hd_gi (x := .inr (.inl 73)) (by decide +kernel) b73
theorem rfd_36 {Ls : Nat} {xs : Nat → Int32} {d : Nat} {Q : Option Value → jm_h → Prop} (hd : 2 ≤ d) (F : Nat → sy_d) (X1 X2 : List jm_c) (hB : iv_in F iv_B4)
    (k0 : ∀ F1 : Nat → sy_d, iv_in F1 iv_B4 → (∀ j, j < 69 → j ∉ ([] : List Nat) → F1 j = F j) → (sy_i F1 1).toInt = (sy_i F 1).toInt → (sy_i F1 10).toInt = (sy_i F 10).toInt → (sy_i F1 21).toInt = (sy_i F 21).toInt → sy_ai F1 23 = sy_ai F 23 → sy_ai F1 67 = sy_ai F 67 → (sy_i F1 69).toInt = (sy_i F 69).toInt → (sy_i F1 70).toInt = (sy_i F 70).toInt → (sy_i F1 71).toInt = (sy_i F 71).toInt → (sy_i F1 72).toInt = (sy_i F 72).toInt → (sy_i F1 73).toInt = (sy_i F 73).toInt → hd_W Ls xs d jm_M133 Q (39, sy_dL F1 [some (.inl (.ref 1000)), some (.inr (.inl 69)), some (.inr (.inl 70)), some (.inr (.inl 71)), some (.inr (.inl 72)), some (.inr (.inl 73))], sy_dS F1 [.inr (.inl 73), .inl (.ref 1000)], sy_dh F1 X1 X2 (iv_H 4), 0, 0)) :
    hd_W Ls xs d jm_M133 Q (36, sy_dL F [some (.inl (.ref 1000)), some (.inr (.inl 69)), some (.inr (.inl 70)), some (.inr (.inl 71)), some (.inr (.inl 72)), some (.inr (.inl 73))], sy_dS F [], sy_dh F X1 X2 (iv_H 4), 0, 0) := by
  exact rfd_36_p0 hd F X1 X2 hB  (fun F1 g e69 e70 e71 e72 e73 => k0 F1 (nz_in hB [] (fun j hj hn => g j hj (by simp only [List.mem_cons, List.not_mem_nil, or_false, not_or] at hn; exact trivial)) (List.forall_mem_nil _)) (fun j hj hn => g j hj (by simp only [List.mem_cons, List.not_mem_nil, or_false, not_or] at hn; exact trivial)) (nz_fi (g 1 (by decide) (by decide))) (nz_fi (g 10 (by decide) (by decide))) (nz_fi (g 21 (by decide) (by decide))) (nz_fa (g 23 (by decide) (by decide))) (nz_fa (g 67 (by decide) (by decide))) ((congrArg Int32.toInt (zz_i e69)).trans (rfl : (sy_i F 69).toInt = (sy_i F 69).toInt)) ((congrArg Int32.toInt (zz_i e70)).trans (rfl : (sy_i F 70).toInt = (sy_i F 70).toInt)) ((congrArg Int32.toInt (zz_i e71)).trans (rfl : (sy_i F 71).toInt = (sy_i F 71).toInt)) ((congrArg Int32.toInt (zz_i e72)).trans (rfl : (sy_i F 72).toInt = (sy_i F 72).toInt)) ((congrArg Int32.toInt (zz_i e73)).trans (rfl : (sy_i F 73).toInt = (sy_i F 73).toInt)))
theorem rfd_42_p0 {Ls : Nat} {xs : Nat → Int32} {d : Nat} {Q : Option Value → jm_h → Prop} (hd : 2 ≤ d) (F : Nat → sy_d) (X1 X2 : List jm_c) (hB : iv_in F iv_B4)
    (k : ∀ F1 : Nat → sy_d, (∀ j, j < 69 → True → F1 j = F j) → Q (some (.int (sy_i F 1))) (sy_dh F1 X1 X2 (iv_H 4))) :
    hd_W Ls xs d jm_M133 Q (42, sy_dL F [some (.inl (.ref 1000)), some (.inr (.inl 69)), some (.inr (.inl 70)), some (.inr (.inl 71)), some (.inr (.inl 72)), some (.inr (.inl 73))], sy_dS F [], sy_dh F X1 X2 (iv_H 4), 0, 0) := by
  refine hd_ret (s := 4) (nv := 74) (v := some (.inr (.inl 1))) (uh := hd_ov (iv_id 0 iv_B4) []) (f := false) (sp := []) (d0 := 1) (O := []) (T := []) (P := []) jm_ok133 (by decide +kernel) (by decide +kernel) hd F X1 X2 (fun F' hF hs => ?_)
  have b1 := hd_b (F := F) (F' := F') (k := 1) (hF 1 (by decide))
  have hB' : iv_in F' iv_B4 := iv_in_eq hB (fun j hj => hF j (Nat.lt_of_lt_of_le hj (by decide +kernel)))
  have hk := k (sy_cm F' (hd_ov (iv_id 0 iv_B4) [] ++ [])) (fun j hj _ => (hd_keep hB' (Nat.lt_of_lt_of_le hj (by decide +kernel)) (by simp)).trans (hF j (Nat.lt_of_lt_of_le hj (by decide))))
  refine ⟨fun _ h => absurd h List.not_mem_nil, ?_⟩
  show Q (some (sy_dv F' (.inr (.inl 1)))) _
  rw [b1]
  exact hk
theorem rfd_42 {Ls : Nat} {xs : Nat → Int32} {d : Nat} {Q : Option Value → jm_h → Prop} (hd : 2 ≤ d) (F : Nat → sy_d) (X1 X2 : List jm_c) (hB : iv_in F iv_B4)
    (k0 : ∀ F1 : Nat → sy_d, iv_in F1 iv_B4 → (∀ j, j < 69 → j ∉ ([] : List Nat) → F1 j = F j) → (sy_i F1 1).toInt = (sy_i F 1).toInt → (sy_i F1 10).toInt = (sy_i F 10).toInt → (sy_i F1 21).toInt = (sy_i F 21).toInt → sy_ai F1 23 = sy_ai F 23 → sy_ai F1 67 = sy_ai F 67 → Q (some (.int (sy_i F 1))) (sy_dh F1 X1 X2 (iv_H 4))) :
    hd_W Ls xs d jm_M133 Q (42, sy_dL F [some (.inl (.ref 1000)), some (.inr (.inl 69)), some (.inr (.inl 70)), some (.inr (.inl 71)), some (.inr (.inl 72)), some (.inr (.inl 73))], sy_dS F [], sy_dh F X1 X2 (iv_H 4), 0, 0) := by
  exact rfd_42_p0 hd F X1 X2 hB  (fun F1 g  => by rw [(rfl : sy_i F 1 = sy_i F 1)]; exact k0 F1 (nz_in hB [] (fun j hj hn => g j hj (by simp only [List.mem_cons, List.not_mem_nil, or_false, not_or] at hn; exact trivial)) (List.forall_mem_nil _)) (fun j hj hn => g j hj (by simp only [List.mem_cons, List.not_mem_nil, or_false, not_or] at hn; exact trivial)) (nz_fi (g 1 (by decide) (by decide))) (nz_fi (g 10 (by decide) (by decide))) (nz_fi (g 21 (by decide) (by decide))) (nz_fa (g 23 (by decide) (by decide))) (nz_fa (g 67 (by decide) (by decide))))
end
section
/-! ===== the class: the tape, what is told, what is held, way by way (shape 0) ===== -/
theorem k0oap_0_p0 {Ls : Nat} {xs : Nat → Int32} {d : Nat} {Q : Option Value → jm_h → Prop} (hd : 1 ≤ d) (F : Nat → sy_d) (X1 X2 : List jm_c) (hB : iv_in F iv_B0)
    (h0 : 2000 ≤ (sy_i F 0).toInt)
    (k : ∀ F1 : Nat → sy_d, (∀ j, j < 82 → True → F1 j = F j) → Q (none) (sy_dh F1 X1 X2 (iv_H 0))) :
    hd_W Ls xs d jm_M116 Q (0, sy_dL F [some (.inl (.ref 8)), some (.inr (.inl 82)), none], sy_dS F [], sy_dh F X1 X2 (iv_H 0), 0, 0) := by
  refine hd_ret (s := 0) (nv := 83) (v := none) (uh := hd_ov (iv_id 0 iv_B0) []) (f := true) (sp := []) (d0 := 0) (O := [true]) (T := []) (P := [(4, .inl (.int 2000), .inr (.inl 0))]) jm_ok116 (by decide +kernel) (by decide +kernel) hd F X1 X2 (fun F' hF hs => ?_)
  have b0 := hd_b (F := F) (F' := F') (k := 0) (hF 0 (by decide))
  have hB' : iv_in F' iv_B0 := iv_in_eq hB (fun j hj => hF j (Nat.lt_of_lt_of_le hj (by decide +kernel)))
  refine ⟨List.forall_mem_cons.mpr ⟨hd_p4 rfl b0 (by have hc : ((2000) : Int32).toInt = 2000 := (by decide); omega), fun _ h => absurd h List.not_mem_nil⟩, ?_⟩
  refine k _ ?_
  · exact fun j hj _ => (hd_keep hB' (Nat.lt_of_lt_of_le hj (by decide +kernel)) (by simp)).trans (hF j (Nat.lt_of_lt_of_le hj (by decide)))
theorem k0oap_0_p1 {Ls : Nat} {xs : Nat → Int32} {d : Nat} {Q : Option Value → jm_h → Prop} (hd : 1 ≤ d) (F : Nat → sy_d) (X1 X2 : List jm_c) (hB : iv_in F iv_B0)
    (h0 : (sy_i F 0).toInt < 2000)
    (h1 : 0 ≤ (sy_i F 0).toInt ∧ (sy_i F 0).toInt < 2000)
    (h2 : 2000 ≤ ((sy_i F 0) + ((1 : Int32))).toInt)
    (k : ∀ F1 : Nat → sy_d, (∀ j, j < 82 → j ≠ 0 ∧ j ≠ 2 → F1 j = F j) → F1 0 = .inl (.int ((sy_i F 0) + ((1 : Int32)))) → F1 2 = .inr (.inl (jm_upd (sy_ai F 2) (sy_i F 0).toNatClampNeg ((((((sy_i F 82)).toUInt32 >>> ((((24 : Int32))).toUInt32 &&& Int32.toUInt32 31)).toInt32).toInt8.toInt32).toInt8.toInt32))) → Q (none) (sy_dh F1 X1 X2 (iv_H 0))) :
    hd_W Ls xs d jm_M116 Q (0, sy_dL F [some (.inl (.ref 8)), some (.inr (.inl 82)), none], sy_dS F [], sy_dh F X1 X2 (iv_H 0), 0, 0) := by
  refine hd_ret (s := 0) (nv := 83) (v := none) (uh := hd_ov (iv_id 0 iv_B0) [(0, .inl (.inr (.inl 87))), (2, .inr (.inr (.inl 86)))]) (f := true) (sp := []) (d0 := 0) (O := [false, true]) (T := [(8, [.inr (.inl 82), .inl (.int 24)], []), (22, [.inr (.inl 83)], []), (22, [.inr (.inl 84)], []), (40, [.inr (.inl 0), .inr (.inl 85)], [.inr (.inl 2)]), (0, [.inr (.inl 0), .inl (.int 1)], [])]) (P := [(5, .inl (.int 2000), .inr (.inl 0)), (6, .inr (.inl 0), .inl (.ref 2000)), (4, .inl (.int 2000), .inr (.inl 87))]) jm_ok116 (by decide +kernel) (by decide +kernel) hd F X1 X2 (fun F' hF hs => ?_)
  have b0 := hd_b (F := F) (F' := F') (k := 0) (hF 0 (by decide))
  have t87 : sy_dv F' (.inr (.inl 87)) = .int ((sy_i F 0) + ((1 : Int32))) := hd_o (hs 4 _ rfl) b0 rfl rfl
  have b82 := hd_b (F := F) (F' := F') (k := 82) (hF 82 (by decide))
  have t83 : sy_dv F' (.inr (.inl 83)) = .int ((((sy_i F 82)).toUInt32 >>> ((((24 : Int32))).toUInt32 &&& Int32.toUInt32 31)).toInt32) := hd_o (hs 0 _ rfl) b82 rfl rfl
  have t84 : sy_dv F' (.inr (.inl 84)) = .int (((((sy_i F 82)).toUInt32 >>> ((((24 : Int32))).toUInt32 &&& Int32.toUInt32 31)).toInt32).toInt8.toInt32) := hd_u (hs 1 _ rfl) t83 rfl
  have t85 : sy_dv F' (.inr (.inl 85)) = .int ((((((sy_i F 82)).toUInt32 >>> ((((24 : Int32))).toUInt32 &&& Int32.toUInt32 31)).toInt32).toInt8.toInt32).toInt8.toInt32) := hd_u (hs 2 _ rfl) t84 rfl
  have a2 := hd_ba (F := F) (F' := F') (k := 2) (hF 2 (by decide))
  have t86 : sy_da F' (.inr (.inl 86)) = .inl (jm_upd (sy_ai F 2) (sy_i F 0).toNatClampNeg ((((((sy_i F 82)).toUInt32 >>> ((((24 : Int32))).toUInt32 &&& Int32.toUInt32 31)).toInt32).toInt8.toInt32).toInt8.toInt32)) := hd_up (hs 3 _ rfl) b0 t85 a2
  have hB' : iv_in F' iv_B0 := iv_in_eq hB (fun j hj => hF j (Nat.lt_of_lt_of_le hj (by decide +kernel)))
  refine ⟨List.forall_mem_cons.mpr ⟨hd_p5 rfl b0 (by have hc : ((2000) : Int32).toInt = 2000 := (by decide); omega), List.forall_mem_cons.mpr ⟨hd_pb b0 (by first | exact h1 | exact h1), List.forall_mem_cons.mpr ⟨hd_p4 rfl t87 (by have hc : ((2000) : Int32).toInt = 2000 := (by decide); omega), fun _ h => absurd h List.not_mem_nil⟩⟩⟩, ?_⟩
  refine k _ ?_ ?_ ?_
  · exact fun j hj hn => (hd_keep hB' (Nat.lt_of_lt_of_le hj (by decide +kernel)) (by simp; omega)).trans (hF j (Nat.lt_of_lt_of_le hj (by decide)))
  · exact hd_gi (x := .inr (.inl 87)) (by decide +kernel) t87
  · exact hd_ga (a := .inr (.inl 86)) (by decide +kernel) t86
theorem k0oap_0_p2 {Ls : Nat} {xs : Nat → Int32} {d : Nat} {Q : Option Value → jm_h → Prop} (hd : 1 ≤ d) (F : Nat → sy_d) (X1 X2 : List jm_c) (hB : iv_in F iv_B0)
    (h0 : (sy_i F 0).toInt < 2000)
    (h1 : 0 ≤ (sy_i F 0).toInt ∧ (sy_i F 0).toInt < 2000)
    (h2 : ((sy_i F 0) + ((1 : Int32))).toInt < 2000)
    (h3 : 0 ≤ ((sy_i F 0) + ((1 : Int32))).toInt ∧ ((sy_i F 0) + ((1 : Int32))).toInt < 2000)
    (h4 : 2000 ≤ (((sy_i F 0) + ((1 : Int32))) + ((1 : Int32))).toInt)
    (k : ∀ F1 : Nat → sy_d, (∀ j, j < 82 → j ≠ 0 ∧ j ≠ 2 → F1 j = F j) → F1 0 = .inl (.int (((sy_i F 0) + ((1 : Int32))) + ((1 : Int32)))) → F1 2 = .inr (.inl (jm_upd (jm_upd (sy_ai F 2) (sy_i F 0).toNatClampNeg ((((((sy_i F 82)).toUInt32 >>> ((((24 : Int32))).toUInt32 &&& Int32.toUInt32 31)).toInt32).toInt8.toInt32).toInt8.toInt32)) ((sy_i F 0) + ((1 : Int32))).toNatClampNeg ((((((sy_i F 82)).toUInt32 >>> ((((16 : Int32))).toUInt32 &&& Int32.toUInt32 31)).toInt32).toInt8.toInt32).toInt8.toInt32))) → Q (none) (sy_dh F1 X1 X2 (iv_H 0))) :
    hd_W Ls xs d jm_M116 Q (0, sy_dL F [some (.inl (.ref 8)), some (.inr (.inl 82)), none], sy_dS F [], sy_dh F X1 X2 (iv_H 0), 0, 0) := by
  refine hd_ret (s := 0) (nv := 83) (v := none) (uh := hd_ov (iv_id 0 iv_B0) [(0, .inl (.inr (.inl 92))), (2, .inr (.inr (.inl 91)))]) (f := true) (sp := []) (d0 := 0) (O := [false, false, true]) (T := [(8, [.inr (.inl 82), .inl (.int 24)], []), (22, [.inr (.inl 83)], []), (22, [.inr (.inl 84)], []), (40, [.inr (.inl 0), .inr (.inl 85)], [.inr (.inl 2)]), (0, [.inr (.inl 0), .inl (.int 1)], []), (8, [.inr (.inl 82), .inl (.int 16)], []), (22, [.inr (.inl 88)], []), (22, [.inr (.inl 89)], []), (40, [.inr (.inl 87), .inr (.inl 90)], [.inr (.inl 86)]), (0, [.inr (.inl 87), .inl (.int 1)], [])]) (P := [(5, .inl (.int 2000), .inr (.inl 0)), (6, .inr (.inl 0), .inl (.ref 2000)), (5, .inl (.int 2000), .inr (.inl 87)), (6, .inr (.inl 87), .inl (.ref 2000)), (4, .inl (.int 2000), .inr (.inl 92))]) jm_ok116 (by decide +kernel) (by decide +kernel) hd F X1 X2 (fun F' hF hs => ?_)
  have b0 := hd_b (F := F) (F' := F') (k := 0) (hF 0 (by decide))
  have t87 : sy_dv F' (.inr (.inl 87)) = .int ((sy_i F 0) + ((1 : Int32))) := hd_o (hs 4 _ rfl) b0 rfl rfl
  have t92 : sy_dv F' (.inr (.inl 92)) = .int (((sy_i F 0) + ((1 : Int32))) + ((1 : Int32))) := hd_o (hs 9 _ rfl) t87 rfl rfl
  have b82 := hd_b (F := F) (F' := F') (k := 82) (hF 82 (by decide))
  have t88 : sy_dv F' (.inr (.inl 88)) = .int ((((sy_i F 82)).toUInt32 >>> ((((16 : Int32))).toUInt32 &&& Int32.toUInt32 31)).toInt32) := hd_o (hs 5 _ rfl) b82 rfl rfl
  have t89 : sy_dv F' (.inr (.inl 89)) = .int (((((sy_i F 82)).toUInt32 >>> ((((16 : Int32))).toUInt32 &&& Int32.toUInt32 31)).toInt32).toInt8.toInt32) := hd_u (hs 6 _ rfl) t88 rfl
  have t90 : sy_dv F' (.inr (.inl 90)) = .int ((((((sy_i F 82)).toUInt32 >>> ((((16 : Int32))).toUInt32 &&& Int32.toUInt32 31)).toInt32).toInt8.toInt32).toInt8.toInt32) := hd_u (hs 7 _ rfl) t89 rfl
  have t83 : sy_dv F' (.inr (.inl 83)) = .int ((((sy_i F 82)).toUInt32 >>> ((((24 : Int32))).toUInt32 &&& Int32.toUInt32 31)).toInt32) := hd_o (hs 0 _ rfl) b82 rfl rfl
  have t84 : sy_dv F' (.inr (.inl 84)) = .int (((((sy_i F 82)).toUInt32 >>> ((((24 : Int32))).toUInt32 &&& Int32.toUInt32 31)).toInt32).toInt8.toInt32) := hd_u (hs 1 _ rfl) t83 rfl
  have t85 : sy_dv F' (.inr (.inl 85)) = .int ((((((sy_i F 82)).toUInt32 >>> ((((24 : Int32))).toUInt32 &&& Int32.toUInt32 31)).toInt32).toInt8.toInt32).toInt8.toInt32) := hd_u (hs 2 _ rfl) t84 rfl
  have a2 := hd_ba (F := F) (F' := F') (k := 2) (hF 2 (by decide))
  have t86 : sy_da F' (.inr (.inl 86)) = .inl (jm_upd (sy_ai F 2) (sy_i F 0).toNatClampNeg ((((((sy_i F 82)).toUInt32 >>> ((((24 : Int32))).toUInt32 &&& Int32.toUInt32 31)).toInt32).toInt8.toInt32).toInt8.toInt32)) := hd_up (hs 3 _ rfl) b0 t85 a2
  have t91 : sy_da F' (.inr (.inl 91)) = .inl (jm_upd (jm_upd (sy_ai F 2) (sy_i F 0).toNatClampNeg ((((((sy_i F 82)).toUInt32 >>> ((((24 : Int32))).toUInt32 &&& Int32.toUInt32 31)).toInt32).toInt8.toInt32).toInt8.toInt32)) ((sy_i F 0) + ((1 : Int32))).toNatClampNeg ((((((sy_i F 82)).toUInt32 >>> ((((16 : Int32))).toUInt32 &&& Int32.toUInt32 31)).toInt32).toInt8.toInt32).toInt8.toInt32)) := hd_up (hs 8 _ rfl) t87 t90 t86
  have hB' : iv_in F' iv_B0 := iv_in_eq hB (fun j hj => hF j (Nat.lt_of_lt_of_le hj (by decide +kernel)))
  refine ⟨List.forall_mem_cons.mpr ⟨hd_p5 rfl b0 (by have hc : ((2000) : Int32).toInt = 2000 := (by decide); omega), List.forall_mem_cons.mpr ⟨hd_pb b0 (by first | exact h1 | exact h1), List.forall_mem_cons.mpr ⟨hd_p5 rfl t87 (by have hc : ((2000) : Int32).toInt = 2000 := (by decide); omega), List.forall_mem_cons.mpr ⟨hd_pb t87 (by first | exact h3 | exact h3), List.forall_mem_cons.mpr ⟨hd_p4 rfl t92 (by have hc : ((2000) : Int32).toInt = 2000 := (by decide); omega), fun _ h => absurd h List.not_mem_nil⟩⟩⟩⟩⟩, ?_⟩
  refine k _ ?_ ?_ ?_
  · exact fun j hj hn => (hd_keep hB' (Nat.lt_of_lt_of_le hj (by decide +kernel)) (by simp; omega)).trans (hF j (Nat.lt_of_lt_of_le hj (by decide)))
  · exact hd_gi (x := .inr (.inl 92)) (by decide +kernel) t92
  · exact hd_ga (a := .inr (.inl 91)) (by decide +kernel) t91
theorem k0oap_0_p3 {Ls : Nat} {xs : Nat → Int32} {d : Nat} {Q : Option Value → jm_h → Prop} (hd : 1 ≤ d) (F : Nat → sy_d) (X1 X2 : List jm_c) (hB : iv_in F iv_B0)
    (h0 : (sy_i F 0).toInt < 2000)
    (h1 : 0 ≤ (sy_i F 0).toInt ∧ (sy_i F 0).toInt < 2000)
    (h2 : ((sy_i F 0) + ((1 : Int32))).toInt < 2000)
    (h3 : 0 ≤ ((sy_i F 0) + ((1 : Int32))).toInt ∧ ((sy_i F 0) + ((1 : Int32))).toInt < 2000)
    (h4 : (((sy_i F 0) + ((1 : Int32))) + ((1 : Int32))).toInt < 2000)
    (h5 : 0 ≤ (((sy_i F 0) + ((1 : Int32))) + ((1 : Int32))).toInt ∧ (((sy_i F 0) + ((1 : Int32))) + ((1 : Int32))).toInt < 2000)
    (h6 : 2000 ≤ ((((sy_i F 0) + ((1 : Int32))) + ((1 : Int32))) + ((1 : Int32))).toInt)
    (k : ∀ F1 : Nat → sy_d, (∀ j, j < 82 → j ≠ 0 ∧ j ≠ 2 → F1 j = F j) → F1 0 = .inl (.int ((((sy_i F 0) + ((1 : Int32))) + ((1 : Int32))) + ((1 : Int32)))) → F1 2 = .inr (.inl (jm_upd (jm_upd (jm_upd (sy_ai F 2) (sy_i F 0).toNatClampNeg ((((((sy_i F 82)).toUInt32 >>> ((((24 : Int32))).toUInt32 &&& Int32.toUInt32 31)).toInt32).toInt8.toInt32).toInt8.toInt32)) ((sy_i F 0) + ((1 : Int32))).toNatClampNeg ((((((sy_i F 82)).toUInt32 >>> ((((16 : Int32))).toUInt32 &&& Int32.toUInt32 31)).toInt32).toInt8.toInt32).toInt8.toInt32)) (((sy_i F 0) + ((1 : Int32))) + ((1 : Int32))).toNatClampNeg ((((((sy_i F 82)).toUInt32 >>> ((((8 : Int32))).toUInt32 &&& Int32.toUInt32 31)).toInt32).toInt8.toInt32).toInt8.toInt32))) → Q (none) (sy_dh F1 X1 X2 (iv_H 0))) :
    hd_W Ls xs d jm_M116 Q (0, sy_dL F [some (.inl (.ref 8)), some (.inr (.inl 82)), none], sy_dS F [], sy_dh F X1 X2 (iv_H 0), 0, 0) := by
  refine hd_ret (s := 0) (nv := 83) (v := none) (uh := hd_ov (iv_id 0 iv_B0) [(0, .inl (.inr (.inl 97))), (2, .inr (.inr (.inl 96)))]) (f := true) (sp := []) (d0 := 0) (O := [false, false, false, true]) (T := [(8, [.inr (.inl 82), .inl (.int 24)], []), (22, [.inr (.inl 83)], []), (22, [.inr (.inl 84)], []), (40, [.inr (.inl 0), .inr (.inl 85)], [.inr (.inl 2)]), (0, [.inr (.inl 0), .inl (.int 1)], []), (8, [.inr (.inl 82), .inl (.int 16)], []), (22, [.inr (.inl 88)], []), (22, [.inr (.inl 89)], []), (40, [.inr (.inl 87), .inr (.inl 90)], [.inr (.inl 86)]), (0, [.inr (.inl 87), .inl (.int 1)], []), (8, [.inr (.inl 82), .inl (.int 8)], []), (22, [.inr (.inl 93)], []), (22, [.inr (.inl 94)], []), (40, [.inr (.inl 92), .inr (.inl 95)], [.inr (.inl 91)]), (0, [.inr (.inl 92), .inl (.int 1)], [])]) (P := [(5, .inl (.int 2000), .inr (.inl 0)), (6, .inr (.inl 0), .inl (.ref 2000)), (5, .inl (.int 2000), .inr (.inl 87)), (6, .inr (.inl 87), .inl (.ref 2000)), (5, .inl (.int 2000), .inr (.inl 92)), (6, .inr (.inl 92), .inl (.ref 2000)), (4, .inl (.int 2000), .inr (.inl 97))]) jm_ok116 (by decide +kernel) (by decide +kernel) hd F X1 X2 (fun F' hF hs => ?_)
  have b0 := hd_b (F := F) (F' := F') (k := 0) (hF 0 (by decide))
  have t87 : sy_dv F' (.inr (.inl 87)) = .int ((sy_i F 0) + ((1 : Int32))) := hd_o (hs 4 _ rfl) b0 rfl rfl
  have t92 : sy_dv F' (.inr (.inl 92)) = .int (((sy_i F 0) + ((1 : Int32))) + ((1 : Int32))) := hd_o (hs 9 _ rfl) t87 rfl rfl
  have t97 : sy_dv F' (.inr (.inl 97)) = .int ((((sy_i F 0) + ((1 : Int32))) + ((1 : Int32))) + ((1 : Int32))) := hd_o (hs 14 _ rfl) t92 rfl rfl
  have b82 := hd_b (F := F) (F' := F') (k := 82) (hF 82 (by decide))
  have t93 : sy_dv F' (.inr (.inl 93)) = .int ((((sy_i F 82)).toUInt32 >>> ((((8 : Int32))).toUInt32 &&& Int32.toUInt32 31)).toInt32) := hd_o (hs 10 _ rfl) b82 rfl rfl
  have t94 : sy_dv F' (.inr (.inl 94)) = .int (((((sy_i F 82)).toUInt32 >>> ((((8 : Int32))).toUInt32 &&& Int32.toUInt32 31)).toInt32).toInt8.toInt32) := hd_u (hs 11 _ rfl) t93 rfl
  have t95 : sy_dv F' (.inr (.inl 95)) = .int ((((((sy_i F 82)).toUInt32 >>> ((((8 : Int32))).toUInt32 &&& Int32.toUInt32 31)).toInt32).toInt8.toInt32).toInt8.toInt32) := hd_u (hs 12 _ rfl) t94 rfl
  have t88 : sy_dv F' (.inr (.inl 88)) = .int ((((sy_i F 82)).toUInt32 >>> ((((16 : Int32))).toUInt32 &&& Int32.toUInt32 31)).toInt32) := hd_o (hs 5 _ rfl) b82 rfl rfl
  have t89 : sy_dv F' (.inr (.inl 89)) = .int (((((sy_i F 82)).toUInt32 >>> ((((16 : Int32))).toUInt32 &&& Int32.toUInt32 31)).toInt32).toInt8.toInt32) := hd_u (hs 6 _ rfl) t88 rfl
  have t90 : sy_dv F' (.inr (.inl 90)) = .int ((((((sy_i F 82)).toUInt32 >>> ((((16 : Int32))).toUInt32 &&& Int32.toUInt32 31)).toInt32).toInt8.toInt32).toInt8.toInt32) := hd_u (hs 7 _ rfl) t89 rfl
  have t83 : sy_dv F' (.inr (.inl 83)) = .int ((((sy_i F 82)).toUInt32 >>> ((((24 : Int32))).toUInt32 &&& Int32.toUInt32 31)).toInt32) := hd_o (hs 0 _ rfl) b82 rfl rfl
  have t84 : sy_dv F' (.inr (.inl 84)) = .int (((((sy_i F 82)).toUInt32 >>> ((((24 : Int32))).toUInt32 &&& Int32.toUInt32 31)).toInt32).toInt8.toInt32) := hd_u (hs 1 _ rfl) t83 rfl
  have t85 : sy_dv F' (.inr (.inl 85)) = .int ((((((sy_i F 82)).toUInt32 >>> ((((24 : Int32))).toUInt32 &&& Int32.toUInt32 31)).toInt32).toInt8.toInt32).toInt8.toInt32) := hd_u (hs 2 _ rfl) t84 rfl
  have a2 := hd_ba (F := F) (F' := F') (k := 2) (hF 2 (by decide))
  have t86 : sy_da F' (.inr (.inl 86)) = .inl (jm_upd (sy_ai F 2) (sy_i F 0).toNatClampNeg ((((((sy_i F 82)).toUInt32 >>> ((((24 : Int32))).toUInt32 &&& Int32.toUInt32 31)).toInt32).toInt8.toInt32).toInt8.toInt32)) := hd_up (hs 3 _ rfl) b0 t85 a2
  have t91 : sy_da F' (.inr (.inl 91)) = .inl (jm_upd (jm_upd (sy_ai F 2) (sy_i F 0).toNatClampNeg ((((((sy_i F 82)).toUInt32 >>> ((((24 : Int32))).toUInt32 &&& Int32.toUInt32 31)).toInt32).toInt8.toInt32).toInt8.toInt32)) ((sy_i F 0) + ((1 : Int32))).toNatClampNeg ((((((sy_i F 82)).toUInt32 >>> ((((16 : Int32))).toUInt32 &&& Int32.toUInt32 31)).toInt32).toInt8.toInt32).toInt8.toInt32)) := hd_up (hs 8 _ rfl) t87 t90 t86
  have t96 : sy_da F' (.inr (.inl 96)) = .inl (jm_upd (jm_upd (jm_upd (sy_ai F 2) (sy_i F 0).toNatClampNeg ((((((sy_i F 82)).toUInt32 >>> ((((24 : Int32))).toUInt32 &&& Int32.toUInt32 31)).toInt32).toInt8.toInt32).toInt8.toInt32)) ((sy_i F 0) + ((1 : Int32))).toNatClampNeg ((((((sy_i F 82)).toUInt32 >>> ((((16 : Int32))).toUInt32 &&& Int32.toUInt32 31)).toInt32).toInt8.toInt32).toInt8.toInt32)) (((sy_i F 0) + ((1 : Int32))) + ((1 : Int32))).toNatClampNeg ((((((sy_i F 82)).toUInt32 >>> ((((8 : Int32))).toUInt32 &&& Int32.toUInt32 31)).toInt32).toInt8.toInt32).toInt8.toInt32)) := hd_up (hs 13 _ rfl) t92 t95 t91
  have hB' : iv_in F' iv_B0 := iv_in_eq hB (fun j hj => hF j (Nat.lt_of_lt_of_le hj (by decide +kernel)))
  refine ⟨List.forall_mem_cons.mpr ⟨hd_p5 rfl b0 (by have hc : ((2000) : Int32).toInt = 2000 := (by decide); omega), List.forall_mem_cons.mpr ⟨hd_pb b0 (by first | exact h1 | exact h1), List.forall_mem_cons.mpr ⟨hd_p5 rfl t87 (by have hc : ((2000) : Int32).toInt = 2000 := (by decide); omega), List.forall_mem_cons.mpr ⟨hd_pb t87 (by first | exact h3 | exact h3), List.forall_mem_cons.mpr ⟨hd_p5 rfl t92 (by have hc : ((2000) : Int32).toInt = 2000 := (by decide); omega), List.forall_mem_cons.mpr ⟨hd_pb t92 (by first | exact h5 | exact h5), List.forall_mem_cons.mpr ⟨hd_p4 rfl t97 (by have hc : ((2000) : Int32).toInt = 2000 := (by decide); omega), fun _ h => absurd h List.not_mem_nil⟩⟩⟩⟩⟩⟩⟩, ?_⟩
  refine k _ ?_ ?_ ?_
  · exact fun j hj hn => (hd_keep hB' (Nat.lt_of_lt_of_le hj (by decide +kernel)) (by simp; omega)).trans (hF j (Nat.lt_of_lt_of_le hj (by decide)))
  · exact hd_gi (x := .inr (.inl 97)) (by decide +kernel) t97
  · exact hd_ga (a := .inr (.inl 96)) (by decide +kernel) t96
theorem k0oap_0_p4 {Ls : Nat} {xs : Nat → Int32} {d : Nat} {Q : Option Value → jm_h → Prop} (hd : 1 ≤ d) (F : Nat → sy_d) (X1 X2 : List jm_c) (hB : iv_in F iv_B0)
    (h0 : (sy_i F 0).toInt < 2000)
    (h1 : 0 ≤ (sy_i F 0).toInt ∧ (sy_i F 0).toInt < 2000)
    (h2 : ((sy_i F 0) + ((1 : Int32))).toInt < 2000)
    (h3 : 0 ≤ ((sy_i F 0) + ((1 : Int32))).toInt ∧ ((sy_i F 0) + ((1 : Int32))).toInt < 2000)
    (h4 : (((sy_i F 0) + ((1 : Int32))) + ((1 : Int32))).toInt < 2000)
    (h5 : 0 ≤ (((sy_i F 0) + ((1 : Int32))) + ((1 : Int32))).toInt ∧ (((sy_i F 0) + ((1 : Int32))) + ((1 : Int32))).toInt < 2000)
    (h6 : ((((sy_i F 0) + ((1 : Int32))) + ((1 : Int32))) + ((1 : Int32))).toInt < 2000)
    (h7 : 0 ≤ ((((sy_i F 0) + ((1 : Int32))) + ((1 : Int32))) + ((1 : Int32))).toInt ∧ ((((sy_i F 0) + ((1 : Int32))) + ((1 : Int32))) + ((1 : Int32))).toInt < 2000)
    (k : ∀ F1 : Nat → sy_d, (∀ j, j < 82 → j ≠ 0 ∧ j ≠ 2 → F1 j = F j) → F1 0 = .inl (.int (((((sy_i F 0) + ((1 : Int32))) + ((1 : Int32))) + ((1 : Int32))) + ((1 : Int32)))) → F1 2 = .inr (.inl (jm_upd (jm_upd (jm_upd (jm_upd (sy_ai F 2) (sy_i F 0).toNatClampNeg ((((((sy_i F 82)).toUInt32 >>> ((((24 : Int32))).toUInt32 &&& Int32.toUInt32 31)).toInt32).toInt8.toInt32).toInt8.toInt32)) ((sy_i F 0) + ((1 : Int32))).toNatClampNeg ((((((sy_i F 82)).toUInt32 >>> ((((16 : Int32))).toUInt32 &&& Int32.toUInt32 31)).toInt32).toInt8.toInt32).toInt8.toInt32)) (((sy_i F 0) + ((1 : Int32))) + ((1 : Int32))).toNatClampNeg ((((((sy_i F 82)).toUInt32 >>> ((((8 : Int32))).toUInt32 &&& Int32.toUInt32 31)).toInt32).toInt8.toInt32).toInt8.toInt32)) ((((sy_i F 0) + ((1 : Int32))) + ((1 : Int32))) + ((1 : Int32))).toNatClampNeg ((((((sy_i F 82)).toUInt32 >>> ((((0 : Int32))).toUInt32 &&& Int32.toUInt32 31)).toInt32).toInt8.toInt32).toInt8.toInt32))) → Q (none) (sy_dh F1 X1 X2 (iv_H 0))) :
    hd_W Ls xs d jm_M116 Q (0, sy_dL F [some (.inl (.ref 8)), some (.inr (.inl 82)), none], sy_dS F [], sy_dh F X1 X2 (iv_H 0), 0, 0) := by
  refine hd_ret (s := 0) (nv := 83) (v := none) (uh := hd_ov (iv_id 0 iv_B0) [(0, .inl (.inr (.inl 102))), (2, .inr (.inr (.inl 101)))]) (f := true) (sp := []) (d0 := 0) (O := [false, false, false, false]) (T := [(8, [.inr (.inl 82), .inl (.int 24)], []), (22, [.inr (.inl 83)], []), (22, [.inr (.inl 84)], []), (40, [.inr (.inl 0), .inr (.inl 85)], [.inr (.inl 2)]), (0, [.inr (.inl 0), .inl (.int 1)], []), (8, [.inr (.inl 82), .inl (.int 16)], []), (22, [.inr (.inl 88)], []), (22, [.inr (.inl 89)], []), (40, [.inr (.inl 87), .inr (.inl 90)], [.inr (.inl 86)]), (0, [.inr (.inl 87), .inl (.int 1)], []), (8, [.inr (.inl 82), .inl (.int 8)], []), (22, [.inr (.inl 93)], []), (22, [.inr (.inl 94)], []), (40, [.inr (.inl 92), .inr (.inl 95)], [.inr (.inl 91)]), (0, [.inr (.inl 92), .inl (.int 1)], []), (8, [.inr (.inl 82), .inl (.int 0)], []), (22, [.inr (.inl 98)], []), (22, [.inr (.inl 99)], []), (40, [.inr (.inl 97), .inr (.inl 100)], [.inr (.inl 96)]), (0, [.inr (.inl 97), .inl (.int 1)], [])]) (P := [(5, .inl (.int 2000), .inr (.inl 0)), (6, .inr (.inl 0), .inl (.ref 2000)), (5, .inl (.int 2000), .inr (.inl 87)), (6, .inr (.inl 87), .inl (.ref 2000)), (5, .inl (.int 2000), .inr (.inl 92)), (6, .inr (.inl 92), .inl (.ref 2000)), (5, .inl (.int 2000), .inr (.inl 97)), (6, .inr (.inl 97), .inl (.ref 2000))]) jm_ok116 (by decide +kernel) (by decide +kernel) hd F X1 X2 (fun F' hF hs => ?_)
  have b0 := hd_b (F := F) (F' := F') (k := 0) (hF 0 (by decide))
  have t87 : sy_dv F' (.inr (.inl 87)) = .int ((sy_i F 0) + ((1 : Int32))) := hd_o (hs 4 _ rfl) b0 rfl rfl
  have t92 : sy_dv F' (.inr (.inl 92)) = .int (((sy_i F 0) + ((1 : Int32))) + ((1 : Int32))) := hd_o (hs 9 _ rfl) t87 rfl rfl
  have t97 : sy_dv F' (.inr (.inl 97)) = .int ((((sy_i F 0) + ((1 : Int32))) + ((1 : Int32))) + ((1 : Int32))) := hd_o (hs 14 _ rfl) t92 rfl rfl
  have t102 : sy_dv F' (.inr (.inl 102)) = .int (((((sy_i F 0) + ((1 : Int32))) + ((1 : Int32))) + ((1 : Int32))) + ((1 : Int32))) := hd_o (hs 19 _ rfl) t97 rfl rfl
  have b82 := hd_b (F := F) (F' := F') (k := 82) (hF 82 (by decide))
  have t98 : sy_dv F' (.inr (.inl 98)) = .int ((((sy_i F 82)).toUInt32 >>> ((((0 : Int32))).toUInt32 &&& Int32.toUInt32 31)).toInt32) := hd_o (hs 15 _ rfl) b82 rfl rfl
  have t99 : sy_dv F' (.inr (.inl 99)) = .int (((((sy_i F 82)).toUInt32 >>> ((((0 : Int32))).toUInt32 &&& Int32.toUInt32 31)).toInt32).toInt8.toInt32) := hd_u (hs 16 _ rfl) t98 rfl
  have t100 : sy_dv F' (.inr (.inl 100)) = .int ((((((sy_i F 82)).toUInt32 >>> ((((0 : Int32))).toUInt32 &&& Int32.toUInt32 31)).toInt32).toInt8.toInt32).toInt8.toInt32) := hd_u (hs 17 _ rfl) t99 rfl
  have t93 : sy_dv F' (.inr (.inl 93)) = .int ((((sy_i F 82)).toUInt32 >>> ((((8 : Int32))).toUInt32 &&& Int32.toUInt32 31)).toInt32) := hd_o (hs 10 _ rfl) b82 rfl rfl
  have t94 : sy_dv F' (.inr (.inl 94)) = .int (((((sy_i F 82)).toUInt32 >>> ((((8 : Int32))).toUInt32 &&& Int32.toUInt32 31)).toInt32).toInt8.toInt32) := hd_u (hs 11 _ rfl) t93 rfl
  have t95 : sy_dv F' (.inr (.inl 95)) = .int ((((((sy_i F 82)).toUInt32 >>> ((((8 : Int32))).toUInt32 &&& Int32.toUInt32 31)).toInt32).toInt8.toInt32).toInt8.toInt32) := hd_u (hs 12 _ rfl) t94 rfl
  have t88 : sy_dv F' (.inr (.inl 88)) = .int ((((sy_i F 82)).toUInt32 >>> ((((16 : Int32))).toUInt32 &&& Int32.toUInt32 31)).toInt32) := hd_o (hs 5 _ rfl) b82 rfl rfl
  have t89 : sy_dv F' (.inr (.inl 89)) = .int (((((sy_i F 82)).toUInt32 >>> ((((16 : Int32))).toUInt32 &&& Int32.toUInt32 31)).toInt32).toInt8.toInt32) := hd_u (hs 6 _ rfl) t88 rfl
  have t90 : sy_dv F' (.inr (.inl 90)) = .int ((((((sy_i F 82)).toUInt32 >>> ((((16 : Int32))).toUInt32 &&& Int32.toUInt32 31)).toInt32).toInt8.toInt32).toInt8.toInt32) := hd_u (hs 7 _ rfl) t89 rfl
  have t83 : sy_dv F' (.inr (.inl 83)) = .int ((((sy_i F 82)).toUInt32 >>> ((((24 : Int32))).toUInt32 &&& Int32.toUInt32 31)).toInt32) := hd_o (hs 0 _ rfl) b82 rfl rfl
  have t84 : sy_dv F' (.inr (.inl 84)) = .int (((((sy_i F 82)).toUInt32 >>> ((((24 : Int32))).toUInt32 &&& Int32.toUInt32 31)).toInt32).toInt8.toInt32) := hd_u (hs 1 _ rfl) t83 rfl
  have t85 : sy_dv F' (.inr (.inl 85)) = .int ((((((sy_i F 82)).toUInt32 >>> ((((24 : Int32))).toUInt32 &&& Int32.toUInt32 31)).toInt32).toInt8.toInt32).toInt8.toInt32) := hd_u (hs 2 _ rfl) t84 rfl
  have a2 := hd_ba (F := F) (F' := F') (k := 2) (hF 2 (by decide))
  have t86 : sy_da F' (.inr (.inl 86)) = .inl (jm_upd (sy_ai F 2) (sy_i F 0).toNatClampNeg ((((((sy_i F 82)).toUInt32 >>> ((((24 : Int32))).toUInt32 &&& Int32.toUInt32 31)).toInt32).toInt8.toInt32).toInt8.toInt32)) := hd_up (hs 3 _ rfl) b0 t85 a2
  have t91 : sy_da F' (.inr (.inl 91)) = .inl (jm_upd (jm_upd (sy_ai F 2) (sy_i F 0).toNatClampNeg ((((((sy_i F 82)).toUInt32 >>> ((((24 : Int32))).toUInt32 &&& Int32.toUInt32 31)).toInt32).toInt8.toInt32).toInt8.toInt32)) ((sy_i F 0) + ((1 : Int32))).toNatClampNeg ((((((sy_i F 82)).toUInt32 >>> ((((16 : Int32))).toUInt32 &&& Int32.toUInt32 31)).toInt32).toInt8.toInt32).toInt8.toInt32)) := hd_up (hs 8 _ rfl) t87 t90 t86
  have t96 : sy_da F' (.inr (.inl 96)) = .inl (jm_upd (jm_upd (jm_upd (sy_ai F 2) (sy_i F 0).toNatClampNeg ((((((sy_i F 82)).toUInt32 >>> ((((24 : Int32))).toUInt32 &&& Int32.toUInt32 31)).toInt32).toInt8.toInt32).toInt8.toInt32)) ((sy_i F 0) + ((1 : Int32))).toNatClampNeg ((((((sy_i F 82)).toUInt32 >>> ((((16 : Int32))).toUInt32 &&& Int32.toUInt32 31)).toInt32).toInt8.toInt32).toInt8.toInt32)) (((sy_i F 0) + ((1 : Int32))) + ((1 : Int32))).toNatClampNeg ((((((sy_i F 82)).toUInt32 >>> ((((8 : Int32))).toUInt32 &&& Int32.toUInt32 31)).toInt32).toInt8.toInt32).toInt8.toInt32)) := hd_up (hs 13 _ rfl) t92 t95 t91
  have t101 : sy_da F' (.inr (.inl 101)) = .inl (jm_upd (jm_upd (jm_upd (jm_upd (sy_ai F 2) (sy_i F 0).toNatClampNeg ((((((sy_i F 82)).toUInt32 >>> ((((24 : Int32))).toUInt32 &&& Int32.toUInt32 31)).toInt32).toInt8.toInt32).toInt8.toInt32)) ((sy_i F 0) + ((1 : Int32))).toNatClampNeg ((((((sy_i F 82)).toUInt32 >>> ((((16 : Int32))).toUInt32 &&& Int32.toUInt32 31)).toInt32).toInt8.toInt32).toInt8.toInt32)) (((sy_i F 0) + ((1 : Int32))) + ((1 : Int32))).toNatClampNeg ((((((sy_i F 82)).toUInt32 >>> ((((8 : Int32))).toUInt32 &&& Int32.toUInt32 31)).toInt32).toInt8.toInt32).toInt8.toInt32)) ((((sy_i F 0) + ((1 : Int32))) + ((1 : Int32))) + ((1 : Int32))).toNatClampNeg ((((((sy_i F 82)).toUInt32 >>> ((((0 : Int32))).toUInt32 &&& Int32.toUInt32 31)).toInt32).toInt8.toInt32).toInt8.toInt32)) := hd_up (hs 18 _ rfl) t97 t100 t96
  have hB' : iv_in F' iv_B0 := iv_in_eq hB (fun j hj => hF j (Nat.lt_of_lt_of_le hj (by decide +kernel)))
  refine ⟨List.forall_mem_cons.mpr ⟨hd_p5 rfl b0 (by have hc : ((2000) : Int32).toInt = 2000 := (by decide); omega), List.forall_mem_cons.mpr ⟨hd_pb b0 (by first | exact h1 | exact h1), List.forall_mem_cons.mpr ⟨hd_p5 rfl t87 (by have hc : ((2000) : Int32).toInt = 2000 := (by decide); omega), List.forall_mem_cons.mpr ⟨hd_pb t87 (by first | exact h3 | exact h3), List.forall_mem_cons.mpr ⟨hd_p5 rfl t92 (by have hc : ((2000) : Int32).toInt = 2000 := (by decide); omega), List.forall_mem_cons.mpr ⟨hd_pb t92 (by first | exact h5 | exact h5), List.forall_mem_cons.mpr ⟨hd_p5 rfl t97 (by have hc : ((2000) : Int32).toInt = 2000 := (by decide); omega), List.forall_mem_cons.mpr ⟨hd_pb t97 (by first | exact h7 | exact h7), fun _ h => absurd h List.not_mem_nil⟩⟩⟩⟩⟩⟩⟩⟩, ?_⟩
  refine k _ ?_ ?_ ?_
  · exact fun j hj hn => (hd_keep hB' (Nat.lt_of_lt_of_le hj (by decide +kernel)) (by simp; omega)).trans (hF j (Nat.lt_of_lt_of_le hj (by decide)))
  · exact hd_gi (x := .inr (.inl 102)) (by decide +kernel) t102
  · exact hd_ga (a := .inr (.inl 101)) (by decide +kernel) t101
theorem k0oap_0 {Ls : Nat} {xs : Nat → Int32} {d : Nat} {Q : Option Value → jm_h → Prop} (hd : 1 ≤ d) (F : Nat → sy_d) (X1 X2 : List jm_c) (hB : iv_in F iv_B0)
    (k0 : 2000 ≤ (sy_i F 0).toInt → ∀ F1 : Nat → sy_d, iv_in F1 iv_B0 → (∀ j, j < 82 → j ∉ ([] : List Nat) → F1 j = F j) → (sy_i F1 0).toInt = (sy_i F 0).toInt → sy_ai F1 2 = sy_ai F 2 → Q (none) (sy_dh F1 X1 X2 (iv_H 0)))
    (k1 : (sy_i F 0).toInt < 2000 → 2000 ≤ ((sy_i F 0).toInt + 1) → ∀ F1 : Nat → sy_d, iv_in F1 iv_B0 → (∀ j, j < 82 → j ∉ ([0, 2] : List Nat) → F1 j = F j) → (sy_i F1 0).toInt = ((sy_i F 0).toInt + 1) → sy_ai F1 2 = jm_upd (sy_ai F 2) ((sy_i F 0).toInt).toNat ((((((sy_i F 82)).toUInt32 >>> ((((24 : Int32))).toUInt32 &&& Int32.toUInt32 31)).toInt32).toInt8.toInt32).toInt8.toInt32) → Q (none) (sy_dh F1 X1 X2 (iv_H 0)))
    (k2 : (sy_i F 0).toInt < 2000 → ((sy_i F 0).toInt + 1) < 2000 → 2000 ≤ (((sy_i F 0).toInt + 1) + 1) → ∀ F1 : Nat → sy_d, iv_in F1 iv_B0 → (∀ j, j < 82 → j ∉ ([0, 2] : List Nat) → F1 j = F j) → (sy_i F1 0).toInt = (((sy_i F 0).toInt + 1) + 1) → sy_ai F1 2 = jm_upd (jm_upd (sy_ai F 2) ((sy_i F 0).toInt).toNat ((((((sy_i F 82)).toUInt32 >>> ((((24 : Int32))).toUInt32 &&& Int32.toUInt32 31)).toInt32).toInt8.toInt32).toInt8.toInt32)) (((sy_i F 0).toInt + 1)).toNat ((((((sy_i F 82)).toUInt32 >>> ((((16 : Int32))).toUInt32 &&& Int32.toUInt32 31)).toInt32).toInt8.toInt32).toInt8.toInt32) → Q (none) (sy_dh F1 X1 X2 (iv_H 0)))
    (k3 : (sy_i F 0).toInt < 2000 → ((sy_i F 0).toInt + 1) < 2000 → (((sy_i F 0).toInt + 1) + 1) < 2000 → 2000 ≤ ((((sy_i F 0).toInt + 1) + 1) + 1) → ∀ F1 : Nat → sy_d, iv_in F1 iv_B0 → (∀ j, j < 82 → j ∉ ([0, 2] : List Nat) → F1 j = F j) → (sy_i F1 0).toInt = ((((sy_i F 0).toInt + 1) + 1) + 1) → sy_ai F1 2 = jm_upd (jm_upd (jm_upd (sy_ai F 2) ((sy_i F 0).toInt).toNat ((((((sy_i F 82)).toUInt32 >>> ((((24 : Int32))).toUInt32 &&& Int32.toUInt32 31)).toInt32).toInt8.toInt32).toInt8.toInt32)) (((sy_i F 0).toInt + 1)).toNat ((((((sy_i F 82)).toUInt32 >>> ((((16 : Int32))).toUInt32 &&& Int32.toUInt32 31)).toInt32).toInt8.toInt32).toInt8.toInt32)) ((((sy_i F 0).toInt + 1) + 1)).toNat ((((((sy_i F 82)).toUInt32 >>> ((((8 : Int32))).toUInt32 &&& Int32.toUInt32 31)).toInt32).toInt8.toInt32).toInt8.toInt32) → Q (none) (sy_dh F1 X1 X2 (iv_H 0)))
    (k4 : (sy_i F 0).toInt < 2000 → ((sy_i F 0).toInt + 1) < 2000 → (((sy_i F 0).toInt + 1) + 1) < 2000 → ((((sy_i F 0).toInt + 1) + 1) + 1) < 2000 → ∀ F1 : Nat → sy_d, iv_in F1 iv_B0 → (∀ j, j < 82 → j ∉ ([0, 2] : List Nat) → F1 j = F j) → (sy_i F1 0).toInt = (((((sy_i F 0).toInt + 1) + 1) + 1) + 1) → sy_ai F1 2 = jm_upd (jm_upd (jm_upd (jm_upd (sy_ai F 2) ((sy_i F 0).toInt).toNat ((((((sy_i F 82)).toUInt32 >>> ((((24 : Int32))).toUInt32 &&& Int32.toUInt32 31)).toInt32).toInt8.toInt32).toInt8.toInt32)) (((sy_i F 0).toInt + 1)).toNat ((((((sy_i F 82)).toUInt32 >>> ((((16 : Int32))).toUInt32 &&& Int32.toUInt32 31)).toInt32).toInt8.toInt32).toInt8.toInt32)) ((((sy_i F 0).toInt + 1) + 1)).toNat ((((((sy_i F 82)).toUInt32 >>> ((((8 : Int32))).toUInt32 &&& Int32.toUInt32 31)).toInt32).toInt8.toInt32).toInt8.toInt32)) (((((sy_i F 0).toInt + 1) + 1) + 1)).toNat ((((((sy_i F 82)).toUInt32 >>> ((((0 : Int32))).toUInt32 &&& Int32.toUInt32 31)).toInt32).toInt8.toInt32).toInt8.toInt32) → Q (none) (sy_dh F1 X1 X2 (iv_H 0))) :
    hd_W Ls xs d jm_M116 Q (0, sy_dL F [some (.inl (.ref 8)), some (.inr (.inl 82)), none], sy_dS F [], sy_dh F X1 X2 (iv_H 0), 0, 0) := by
  by_cases g0 : 2000 ≤ (sy_i F 0).toInt
  · have c0 := nz_bx hB (k := 0) (lo := 0) (hi := 2000) rfl
    exact k0oap_0_p0 hd F X1 X2 hB (by first | exact g0 | (simp only [nz_c]; exact g0)) (fun F1 g  => k0 g0 F1 (nz_in0 hB [] (fun j hj hn => g j hj (by simp only [List.mem_cons, List.not_mem_nil, or_false, not_or] at hn; exact trivial)) (List.forall_mem_nil _)) (fun j hj hn => g j hj (by simp only [List.mem_cons, List.not_mem_nil, or_false, not_or] at hn; exact trivial)) (nz_fi (g 0 (by decide) (by decide))) (nz_fa (g 2 (by decide) (by decide))))
  replace g0 : (sy_i F 0).toInt < 2000 := by omega
  by_cases g1 : 2000 ≤ ((sy_i F 0).toInt + 1)
  · have c0 := nz_bx hB (k := 0) (lo := 0) (hi := 2000) rfl
    have n87 : ((sy_i F 0) + ((1 : Int32))).toInt = ((sy_i F 0).toInt + 1) := nz_add (rfl : (sy_i F 0).toInt = (sy_i F 0).toInt) (by decide : ((1 : Int32)).toInt = 1) (by omega) (by omega)
    have n85 : ((((((sy_i F 82)).toUInt32 >>> ((((24 : Int32))).toUInt32 &&& Int32.toUInt32 31)).toInt32).toInt8.toInt32).toInt8.toInt32).toInt = ((((((sy_i F 82)).toUInt32 >>> ((((24 : Int32))).toUInt32 &&& Int32.toUInt32 31)).toInt32).toInt8.toInt32).toInt8.toInt32).toInt := congrArg Int32.toInt (rfl : (((((sy_i F 82)).toUInt32 >>> ((((24 : Int32))).toUInt32 &&& Int32.toUInt32 31)).toInt32).toInt8.toInt32).toInt8.toInt32 = (((((sy_i F 82)).toUInt32 >>> ((((24 : Int32))).toUInt32 &&& Int32.toUInt32 31)).toInt32).toInt8.toInt32).toInt8.toInt32)
    have r85 := nz_b8 (((((sy_i F 82)).toUInt32 >>> ((((24 : Int32))).toUInt32 &&& Int32.toUInt32 31)).toInt32).toInt8.toInt32)
    have w86 : jm_upd (sy_ai F 2) (sy_i F 0).toNatClampNeg ((((((sy_i F 82)).toUInt32 >>> ((((24 : Int32))).toUInt32 &&& Int32.toUInt32 31)).toInt32).toInt8.toInt32).toInt8.toInt32) = jm_upd (sy_ai F 2) ((sy_i F 0).toInt).toNat ((((((sy_i F 82)).toUInt32 >>> ((((24 : Int32))).toUInt32 &&& Int32.toUInt32 31)).toInt32).toInt8.toInt32).toInt8.toInt32) := by simp only [nz_c, (by decide : ((24 : Int32)).toInt = 24)]
    exact k0oap_0_p1 hd F X1 X2 hB (by first | exact g0 | (simp only [nz_c]; exact g0)) (by first | exact ⟨by omega, by omega⟩ | (simp only [nz_c]; exact ⟨by omega, by omega⟩)) (by first | exact g1 | (simp only [nz_c, n87]; exact g1) | (rw [n87]; exact g1)) (fun F1 g e0 e2 => k1 g0 g1 F1 (nz_in0 hB [0, 2] (fun j hj hn => g j hj (by simp only [List.mem_cons, List.not_mem_nil, or_false, not_or] at hn; omega)) (List.forall_mem_cons.mpr ⟨fun t ht => (Option.some.inj ht) ▸ (nz_hi e0 n87 (by omega) (by omega)), List.forall_mem_cons.mpr ⟨fun t ht => (Option.some.inj ht) ▸ (nz_hA e2 (nz_up (nz_ba hB (k := 2) (lo := (-128)) (hi := 127) rfl) n85 (by omega) (by omega))), List.forall_mem_nil _⟩⟩)) (fun j hj hn => g j hj (by simp only [List.mem_cons, List.not_mem_nil, or_false, not_or] at hn; omega)) ((congrArg Int32.toInt (zz_i e0)).trans n87) ((zz_ai e2).trans w86))
  replace g1 : ((sy_i F 0).toInt + 1) < 2000 := by omega
  by_cases g2 : 2000 ≤ (((sy_i F 0).toInt + 1) + 1)
  · have c0 := nz_bx hB (k := 0) (lo := 0) (hi := 2000) rfl
    have n87 : ((sy_i F 0) + ((1 : Int32))).toInt = ((sy_i F 0).toInt + 1) := nz_add (rfl : (sy_i F 0).toInt = (sy_i F 0).toInt) (by decide : ((1 : Int32)).toInt = 1) (by omega) (by omega)
    have n92 : (((sy_i F 0) + ((1 : Int32))) + ((1 : Int32))).toInt = (((sy_i F 0).toInt + 1) + 1) := nz_add n87 (by decide : ((1 : Int32)).toInt = 1) (by omega) (by omega)
    have n90 : ((((((sy_i F 82)).toUInt32 >>> ((((16 : Int32))).toUInt32 &&& Int32.toUInt32 31)).toInt32).toInt8.toInt32).toInt8.toInt32).toInt = ((((((sy_i F 82)).toUInt32 >>> ((((16 : Int32))).toUInt32 &&& Int32.toUInt32 31)).toInt32).toInt8.toInt32).toInt8.toInt32).toInt := congrArg Int32.toInt (rfl : (((((sy_i F 82)).toUInt32 >>> ((((16 : Int32))).toUInt32 &&& Int32.toUInt32 31)).toInt32).toInt8.toInt32).toInt8.toInt32 = (((((sy_i F 82)).toUInt32 >>> ((((16 : Int32))).toUInt32 &&& Int32.toUInt32 31)).toInt32).toInt8.toInt32).toInt8.toInt32)
    have r90 := nz_b8 (((((sy_i F 82)).toUInt32 >>> ((((16 : Int32))).toUInt32 &&& Int32.toUInt32 31)).toInt32).toInt8.toInt32)
    have n85 : ((((((sy_i F 82)).toUInt32 >>> ((((24 : Int32))).toUInt32 &&& Int32.toUInt32 31)).toInt32).toInt8.toInt32).toInt8.toInt32).toInt = ((((((sy_i F 82)).toUInt32 >>> ((((24 : Int32))).toUInt32 &&& Int32.toUInt32 31)).toInt32).toInt8.toInt32).toInt8.toInt32).toInt := congrArg Int32.toInt (rfl : (((((sy_i F 82)).toUInt32 >>> ((((24 : Int32))).toUInt32 &&& Int32.toUInt32 31)).toInt32).toInt8.toInt32).toInt8.toInt32 = (((((sy_i F 82)).toUInt32 >>> ((((24 : Int32))).toUInt32 &&& Int32.toUInt32 31)).toInt32).toInt8.toInt32).toInt8.toInt32)
    have r85 := nz_b8 (((((sy_i F 82)).toUInt32 >>> ((((24 : Int32))).toUInt32 &&& Int32.toUInt32 31)).toInt32).toInt8.toInt32)
    have w91 : jm_upd (jm_upd (sy_ai F 2) (sy_i F 0).toNatClampNeg ((((((sy_i F 82)).toUInt32 >>> ((((24 : Int32))).toUInt32 &&& Int32.toUInt32 31)).toInt32).toInt8.toInt32).toInt8.toInt32)) ((sy_i F 0) + ((1 : Int32))).toNatClampNeg ((((((sy_i F 82)).toUInt32 >>> ((((16 : Int32))).toUInt32 &&& Int32.toUInt32 31)).toInt32).toInt8.toInt32).toInt8.toInt32) = jm_upd (jm_upd (sy_ai F 2) ((sy_i F 0).toInt).toNat ((((((sy_i F 82)).toUInt32 >>> ((((24 : Int32))).toUInt32 &&& Int32.toUInt32 31)).toInt32).toInt8.toInt32).toInt8.toInt32)) (((sy_i F 0).toInt + 1)).toNat ((((((sy_i F 82)).toUInt32 >>> ((((16 : Int32))).toUInt32 &&& Int32.toUInt32 31)).toInt32).toInt8.toInt32).toInt8.toInt32) := by simp only [nz_c, n87, (by decide : ((1 : Int32)).toInt = 1), (by decide : ((16 : Int32)).toInt = 16), (by decide : ((24 : Int32)).toInt = 24)]
    exact k0oap_0_p2 hd F X1 X2 hB (by first | exact g0 | (simp only [nz_c]; exact g0)) (by first | exact ⟨by omega, by omega⟩ | (simp only [nz_c]; exact ⟨by omega, by omega⟩)) (by first | exact g1 | (simp only [nz_c, n87]; exact g1) | (rw [n87]; exact g1)) (by first | exact ⟨by omega, by omega⟩ | (simp only [nz_c, n87]; exact ⟨by omega, by omega⟩) | (rw [n87]; exact ⟨by omega, by omega⟩)) (by first | exact g2 | (simp only [nz_c, n87, n92]; exact g2) | (rw [n92]; exact g2)) (fun F1 g e0 e2 => k2 g0 g1 g2 F1 (nz_in0 hB [0, 2] (fun j hj hn => g j hj (by simp only [List.mem_cons, List.not_mem_nil, or_false, not_or] at hn; omega)) (List.forall_mem_cons.mpr ⟨fun t ht => (Option.some.inj ht) ▸ (nz_hi e0 n92 (by omega) (by omega)), List.forall_mem_cons.mpr ⟨fun t ht => (Option.some.inj ht) ▸ (nz_hA e2 (nz_up (nz_up (nz_ba hB (k := 2) (lo := (-128)) (hi := 127) rfl) n85 (by omega) (by omega)) n90 (by omega) (by omega))), List.forall_mem_nil _⟩⟩)) (fun j hj hn => g j hj (by simp only [List.mem_cons, List.not_mem_nil, or_false, not_or] at hn; omega)) ((congrArg Int32.toInt (zz_i e0)).trans n92) ((zz_ai e2).trans w91))
  replace g2 : (((sy_i F 0).toInt + 1) + 1) < 2000 := by omega
  by_cases g3 : 2000 ≤ ((((sy_i F 0).toInt + 1) + 1) + 1)
  · have c0 := nz_bx hB (k := 0) (lo := 0) (hi := 2000) rfl
    have n87 : ((sy_i F 0) + ((1 : Int32))).toInt = ((sy_i F 0).toInt + 1) := nz_add (rfl : (sy_i F 0).toInt = (sy_i F 0).toInt) (by decide : ((1 : Int32)).toInt = 1) (by omega) (by omega)
    have n92 : (((sy_i F 0) + ((1 : Int32))) + ((1 : Int32))).toInt = (((sy_i F 0).toInt + 1) + 1) := nz_add n87 (by decide : ((1 : Int32)).toInt = 1) (by omega) (by omega)
    have n97 : ((((sy_i F 0) + ((1 : Int32))) + ((1 : Int32))) + ((1 : Int32))).toInt = ((((sy_i F 0).toInt + 1) + 1) + 1) := nz_add n92 (by decide : ((1 : Int32)).toInt = 1) (by omega) (by omega)
    have n95 : ((((((sy_i F 82)).toUInt32 >>> ((((8 : Int32))).toUInt32 &&& Int32.toUInt32 31)).toInt32).toInt8.toInt32).toInt8.toInt32).toInt = ((((((sy_i F 82)).toUInt32 >>> ((((8 : Int32))).toUInt32 &&& Int32.toUInt32 31)).toInt32).toInt8.toInt32).toInt8.toInt32).toInt := congrArg Int32.toInt (rfl : (((((sy_i F 82)).toUInt32 >>> ((((8 : Int32))).toUInt32 &&& Int32.toUInt32 31)).toInt32).toInt8.toInt32).toInt8.toInt32 = (((((sy_i F 82)).toUInt32 >>> ((((8 : Int32))).toUInt32 &&& Int32.toUInt32 31)).toInt32).toInt8.toInt32).toInt8.toInt32)
    have r95 := nz_b8 (((((sy_i F 82)).toUInt32 >>> ((((8 : Int32))).toUInt32 &&& Int32.toUInt32 31)).toInt32).toInt8.toInt32)
    have n90 : ((((((sy_i F 82)).toUInt32 >>> ((((16 : Int32))).toUInt32 &&& Int32.toUInt32 31)).toInt32).toInt8.toInt32).toInt8.toInt32).toInt = ((((((sy_i F 82)).toUInt32 >>> ((((16 : Int32))).toUInt32 &&& Int32.toUInt32 31)).toInt32).toInt8.toInt32).toInt8.toInt32).toInt := congrArg Int32.toInt (rfl : (((((sy_i F 82)).toUInt32 >>> ((((16 : Int32))).toUInt32 &&& Int32.toUInt32 31)).toInt32).toInt8.toInt32).toInt8.toInt32 = (((((sy_i F 82)).toUInt32 >>> ((((16 : Int32))).toUInt32 &&& Int32.toUInt32 31)).toInt32).toInt8.toInt32).toInt8.toInt32)
    have r90 := nz_b8 (((((sy_i F 82)).toUInt32 >>> ((((16 : Int32))).toUInt32 &&& Int32.toUInt32 31)).toInt32).toInt8.toInt32)
    have n85 : ((((((sy_i F 82)).toUInt32 >>> ((((24 : Int32))).toUInt32 &&& Int32.toUInt32 31)).toInt32).toInt8.toInt32).toInt8.toInt32).toInt = ((((((sy_i F 82)).toUInt32 >>> ((((24 : Int32))).toUInt32 &&& Int32.toUInt32 31)).toInt32).toInt8.toInt32).toInt8.toInt32).toInt := congrArg Int32.toInt (rfl : (((((sy_i F 82)).toUInt32 >>> ((((24 : Int32))).toUInt32 &&& Int32.toUInt32 31)).toInt32).toInt8.toInt32).toInt8.toInt32 = (((((sy_i F 82)).toUInt32 >>> ((((24 : Int32))).toUInt32 &&& Int32.toUInt32 31)).toInt32).toInt8.toInt32).toInt8.toInt32)
    have r85 := nz_b8 (((((sy_i F 82)).toUInt32 >>> ((((24 : Int32))).toUInt32 &&& Int32.toUInt32 31)).toInt32).toInt8.toInt32)
    have w96 : jm_upd (jm_upd (jm_upd (sy_ai F 2) (sy_i F 0).toNatClampNeg ((((((sy_i F 82)).toUInt32 >>> ((((24 : Int32))).toUInt32 &&& Int32.toUInt32 31)).toInt32).toInt8.toInt32).toInt8.toInt32)) ((sy_i F 0) + ((1 : Int32))).toNatClampNeg ((((((sy_i F 82)).toUInt32 >>> ((((16 : Int32))).toUInt32 &&& Int32.toUInt32 31)).toInt32).toInt8.toInt32).toInt8.toInt32)) (((sy_i F 0) + ((1 : Int32))) + ((1 : Int32))).toNatClampNeg ((((((sy_i F 82)).toUInt32 >>> ((((8 : Int32))).toUInt32 &&& Int32.toUInt32 31)).toInt32).toInt8.toInt32).toInt8.toInt32) = jm_upd (jm_upd (jm_upd (sy_ai F 2) ((sy_i F 0).toInt).toNat ((((((sy_i F 82)).toUInt32 >>> ((((24 : Int32))).toUInt32 &&& Int32.toUInt32 31)).toInt32).toInt8.toInt32).toInt8.toInt32)) (((sy_i F 0).toInt + 1)).toNat ((((((sy_i F 82)).toUInt32 >>> ((((16 : Int32))).toUInt32 &&& Int32.toUInt32 31)).toInt32).toInt8.toInt32).toInt8.toInt32)) ((((sy_i F 0).toInt + 1) + 1)).toNat ((((((sy_i F 82)).toUInt32 >>> ((((8 : Int32))).toUInt32 &&& Int32.toUInt32 31)).toInt32).toInt8.toInt32).toInt8.toInt32) := by simp only [nz_c, n87, n92, (by decide : ((1 : Int32)).toInt = 1), (by decide : ((8 : Int32)).toInt = 8), (by decide : ((16 : Int32)).toInt = 16), (by decide : ((24 : Int32)).toInt = 24)]
    exact k0oap_0_p3 hd F X1 X2 hB (by first | exact g0 | (simp only [nz_c]; exact g0)) (by first | exact ⟨by omega, by omega⟩ | (simp only [nz_c]; exact ⟨by omega, by omega⟩)) (by first | exact g1 | (simp only [nz_c, n87]; exact g1) | (rw [n87]; exact g1)) (by first | exact ⟨by omega, by omega⟩ | (simp only [nz_c, n87]; exact ⟨by omega, by omega⟩) | (rw [n87]; exact ⟨by omega, by omega⟩)) (by first | exact g2 | (simp only [nz_c, n87, n92]; exact g2) | (rw [n92]; exact g2)) (by first | exact ⟨by omega, by omega⟩ | (simp only [nz_c, n87, n92]; exact ⟨by omega, by omega⟩) | (rw [n92]; exact ⟨by omega, by omega⟩)) (by first | exact g3 | (simp only [nz_c, n87, n92, n97]; exact g3) | (rw [n97]; exact g3)) (fun F1 g e0 e2 => k3 g0 g1 g2 g3 F1 (nz_in0 hB [0, 2] (fun j hj hn => g j hj (by simp only [List.mem_cons, List.not_mem_nil, or_false, not_or] at hn; omega)) (List.forall_mem_cons.mpr ⟨fun t ht => (Option.some.inj ht) ▸ (nz_hi e0 n97 (by omega) (by omega)), List.forall_mem_cons.mpr ⟨fun t ht => (Option.some.inj ht) ▸ (nz_hA e2 (nz_up (nz_up (nz_up (nz_ba hB (k := 2) (lo := (-128)) (hi := 127) rfl) n85 (by omega) (by omega)) n90 (by omega) (by omega)) n95 (by omega) (by omega))), List.forall_mem_nil _⟩⟩)) (fun j hj hn => g j hj (by simp only [List.mem_cons, List.not_mem_nil, or_false, not_or] at hn; omega)) ((congrArg Int32.toInt (zz_i e0)).trans n97) ((zz_ai e2).trans w96))
  replace g3 : ((((sy_i F 0).toInt + 1) + 1) + 1) < 2000 := by omega
  have c0 := nz_bx hB (k := 0) (lo := 0) (hi := 2000) rfl
  have n87 : ((sy_i F 0) + ((1 : Int32))).toInt = ((sy_i F 0).toInt + 1) := nz_add (rfl : (sy_i F 0).toInt = (sy_i F 0).toInt) (by decide : ((1 : Int32)).toInt = 1) (by omega) (by omega)
  have n92 : (((sy_i F 0) + ((1 : Int32))) + ((1 : Int32))).toInt = (((sy_i F 0).toInt + 1) + 1) := nz_add n87 (by decide : ((1 : Int32)).toInt = 1) (by omega) (by omega)
  have n97 : ((((sy_i F 0) + ((1 : Int32))) + ((1 : Int32))) + ((1 : Int32))).toInt = ((((sy_i F 0).toInt + 1) + 1) + 1) := nz_add n92 (by decide : ((1 : Int32)).toInt = 1) (by omega) (by omega)
  have n102 : (((((sy_i F 0) + ((1 : Int32))) + ((1 : Int32))) + ((1 : Int32))) + ((1 : Int32))).toInt = (((((sy_i F 0).toInt + 1) + 1) + 1) + 1) := nz_add n97 (by decide : ((1 : Int32)).toInt = 1) (by omega) (by omega)
  have n100 : ((((((sy_i F 82)).toUInt32 >>> ((((0 : Int32))).toUInt32 &&& Int32.toUInt32 31)).toInt32).toInt8.toInt32).toInt8.toInt32).toInt = ((((((sy_i F 82)).toUInt32 >>> ((((0 : Int32))).toUInt32 &&& Int32.toUInt32 31)).toInt32).toInt8.toInt32).toInt8.toInt32).toInt := congrArg Int32.toInt (rfl : (((((sy_i F 82)).toUInt32 >>> ((((0 : Int32))).toUInt32 &&& Int32.toUInt32 31)).toInt32).toInt8.toInt32).toInt8.toInt32 = (((((sy_i F 82)).toUInt32 >>> ((((0 : Int32))).toUInt32 &&& Int32.toUInt32 31)).toInt32).toInt8.toInt32).toInt8.toInt32)
  have r100 := nz_b8 (((((sy_i F 82)).toUInt32 >>> ((((0 : Int32))).toUInt32 &&& Int32.toUInt32 31)).toInt32).toInt8.toInt32)
  have n95 : ((((((sy_i F 82)).toUInt32 >>> ((((8 : Int32))).toUInt32 &&& Int32.toUInt32 31)).toInt32).toInt8.toInt32).toInt8.toInt32).toInt = ((((((sy_i F 82)).toUInt32 >>> ((((8 : Int32))).toUInt32 &&& Int32.toUInt32 31)).toInt32).toInt8.toInt32).toInt8.toInt32).toInt := congrArg Int32.toInt (rfl : (((((sy_i F 82)).toUInt32 >>> ((((8 : Int32))).toUInt32 &&& Int32.toUInt32 31)).toInt32).toInt8.toInt32).toInt8.toInt32 = (((((sy_i F 82)).toUInt32 >>> ((((8 : Int32))).toUInt32 &&& Int32.toUInt32 31)).toInt32).toInt8.toInt32).toInt8.toInt32)
  have r95 := nz_b8 (((((sy_i F 82)).toUInt32 >>> ((((8 : Int32))).toUInt32 &&& Int32.toUInt32 31)).toInt32).toInt8.toInt32)
  have n90 : ((((((sy_i F 82)).toUInt32 >>> ((((16 : Int32))).toUInt32 &&& Int32.toUInt32 31)).toInt32).toInt8.toInt32).toInt8.toInt32).toInt = ((((((sy_i F 82)).toUInt32 >>> ((((16 : Int32))).toUInt32 &&& Int32.toUInt32 31)).toInt32).toInt8.toInt32).toInt8.toInt32).toInt := congrArg Int32.toInt (rfl : (((((sy_i F 82)).toUInt32 >>> ((((16 : Int32))).toUInt32 &&& Int32.toUInt32 31)).toInt32).toInt8.toInt32).toInt8.toInt32 = (((((sy_i F 82)).toUInt32 >>> ((((16 : Int32))).toUInt32 &&& Int32.toUInt32 31)).toInt32).toInt8.toInt32).toInt8.toInt32)
  have r90 := nz_b8 (((((sy_i F 82)).toUInt32 >>> ((((16 : Int32))).toUInt32 &&& Int32.toUInt32 31)).toInt32).toInt8.toInt32)
  have n85 : ((((((sy_i F 82)).toUInt32 >>> ((((24 : Int32))).toUInt32 &&& Int32.toUInt32 31)).toInt32).toInt8.toInt32).toInt8.toInt32).toInt = ((((((sy_i F 82)).toUInt32 >>> ((((24 : Int32))).toUInt32 &&& Int32.toUInt32 31)).toInt32).toInt8.toInt32).toInt8.toInt32).toInt := congrArg Int32.toInt (rfl : (((((sy_i F 82)).toUInt32 >>> ((((24 : Int32))).toUInt32 &&& Int32.toUInt32 31)).toInt32).toInt8.toInt32).toInt8.toInt32 = (((((sy_i F 82)).toUInt32 >>> ((((24 : Int32))).toUInt32 &&& Int32.toUInt32 31)).toInt32).toInt8.toInt32).toInt8.toInt32)
  have r85 := nz_b8 (((((sy_i F 82)).toUInt32 >>> ((((24 : Int32))).toUInt32 &&& Int32.toUInt32 31)).toInt32).toInt8.toInt32)
  have w101 : jm_upd (jm_upd (jm_upd (jm_upd (sy_ai F 2) (sy_i F 0).toNatClampNeg ((((((sy_i F 82)).toUInt32 >>> ((((24 : Int32))).toUInt32 &&& Int32.toUInt32 31)).toInt32).toInt8.toInt32).toInt8.toInt32)) ((sy_i F 0) + ((1 : Int32))).toNatClampNeg ((((((sy_i F 82)).toUInt32 >>> ((((16 : Int32))).toUInt32 &&& Int32.toUInt32 31)).toInt32).toInt8.toInt32).toInt8.toInt32)) (((sy_i F 0) + ((1 : Int32))) + ((1 : Int32))).toNatClampNeg ((((((sy_i F 82)).toUInt32 >>> ((((8 : Int32))).toUInt32 &&& Int32.toUInt32 31)).toInt32).toInt8.toInt32).toInt8.toInt32)) ((((sy_i F 0) + ((1 : Int32))) + ((1 : Int32))) + ((1 : Int32))).toNatClampNeg ((((((sy_i F 82)).toUInt32 >>> ((((0 : Int32))).toUInt32 &&& Int32.toUInt32 31)).toInt32).toInt8.toInt32).toInt8.toInt32) = jm_upd (jm_upd (jm_upd (jm_upd (sy_ai F 2) ((sy_i F 0).toInt).toNat ((((((sy_i F 82)).toUInt32 >>> ((((24 : Int32))).toUInt32 &&& Int32.toUInt32 31)).toInt32).toInt8.toInt32).toInt8.toInt32)) (((sy_i F 0).toInt + 1)).toNat ((((((sy_i F 82)).toUInt32 >>> ((((16 : Int32))).toUInt32 &&& Int32.toUInt32 31)).toInt32).toInt8.toInt32).toInt8.toInt32)) ((((sy_i F 0).toInt + 1) + 1)).toNat ((((((sy_i F 82)).toUInt32 >>> ((((8 : Int32))).toUInt32 &&& Int32.toUInt32 31)).toInt32).toInt8.toInt32).toInt8.toInt32)) (((((sy_i F 0).toInt + 1) + 1) + 1)).toNat ((((((sy_i F 82)).toUInt32 >>> ((((0 : Int32))).toUInt32 &&& Int32.toUInt32 31)).toInt32).toInt8.toInt32).toInt8.toInt32) := by simp only [nz_c, n87, n92, n97, (by decide : ((0 : Int32)).toInt = 0), (by decide : ((1 : Int32)).toInt = 1), (by decide : ((8 : Int32)).toInt = 8), (by decide : ((16 : Int32)).toInt = 16), (by decide : ((24 : Int32)).toInt = 24)]
  exact k0oap_0_p4 hd F X1 X2 hB (by first | exact g0 | (simp only [nz_c]; exact g0)) (by first | exact ⟨by omega, by omega⟩ | (simp only [nz_c]; exact ⟨by omega, by omega⟩)) (by first | exact g1 | (simp only [nz_c, n87]; exact g1) | (rw [n87]; exact g1)) (by first | exact ⟨by omega, by omega⟩ | (simp only [nz_c, n87]; exact ⟨by omega, by omega⟩) | (rw [n87]; exact ⟨by omega, by omega⟩)) (by first | exact g2 | (simp only [nz_c, n87, n92]; exact g2) | (rw [n92]; exact g2)) (by first | exact ⟨by omega, by omega⟩ | (simp only [nz_c, n87, n92]; exact ⟨by omega, by omega⟩) | (rw [n92]; exact ⟨by omega, by omega⟩)) (by first | exact g3 | (simp only [nz_c, n87, n92, n97]; exact g3) | (rw [n97]; exact g3)) (by first | exact ⟨by omega, by omega⟩ | (simp only [nz_c, n87, n92, n97]; exact ⟨by omega, by omega⟩) | (rw [n97]; exact ⟨by omega, by omega⟩)) (fun F1 g e0 e2 => k4 g0 g1 g2 g3 F1 (nz_in0 hB [0, 2] (fun j hj hn => g j hj (by simp only [List.mem_cons, List.not_mem_nil, or_false, not_or] at hn; omega)) (List.forall_mem_cons.mpr ⟨fun t ht => (Option.some.inj ht) ▸ (nz_hi e0 n102 (by omega) (by omega)), List.forall_mem_cons.mpr ⟨fun t ht => (Option.some.inj ht) ▸ (nz_hA e2 (nz_up (nz_up (nz_up (nz_up (nz_ba hB (k := 2) (lo := (-128)) (hi := 127) rfl) n85 (by omega) (by omega)) n90 (by omega) (by omega)) n95 (by omega) (by omega)) n100 (by omega) (by omega))), List.forall_mem_nil _⟩⟩)) (fun j hj hn => g j hj (by simp only [List.mem_cons, List.not_mem_nil, or_false, not_or] at hn; omega)) ((congrArg Int32.toInt (zz_i e0)).trans n102) ((zz_ai e2).trans w101))
theorem k0ofd_0_p0 {Ls : Nat} {xs : Nat → Int32} {d : Nat} {Q : Option Value → jm_h → Prop} (hd : 2 ≤ d) (F : Nat → sy_d) (X1 X2 : List jm_c) (hB : iv_in F iv_B0)
    (h0 : ((sy_i F 0) + ((20 : Int32))).toInt ≤ 2000)
    (k : ∀ F1 : Nat → sy_d, (∀ j, j < 82 → True → F1 j = F j) → F1 82 = .inl (.int (sy_i F 82)) → F1 83 = .inl (.int (sy_i F 83)) → F1 84 = .inl (.int (sy_i F 84)) → F1 85 = .inl (.int (sy_i F 85)) → F1 86 = .inl (.int (sy_i F 86)) → hd_W Ls xs d jm_M81 Q (17, sy_dL F1 [some (.inl (.ref 8)), some (.inr (.inl 82)), some (.inr (.inl 83)), some (.inr (.inl 84)), some (.inr (.inl 85)), some (.inr (.inl 86))], sy_dS F1 [.inr (.inl 82), .inl (.ref 8)], sy_dh F1 X1 X2 (iv_H 0), 0, 0)) :
    hd_W Ls xs d jm_M81 Q (0, sy_dL F [some (.inl (.ref 8)), some (.inr (.inl 82)), some (.inr (.inl 83)), some (.inr (.inl 84)), some (.inr (.inl 85)), some (.inr (.inl 86))], sy_dS F [], sy_dh F X1 X2 (iv_H 0), 0, 0) := by
  refine hd_run (s := 0) (nv := 87) (pc := 17) (L := [some (.inl (.ref 8)), some (.inr (.inl 82)), some (.inr (.inl 83)), some (.inr (.inl 84)), some (.inr (.inl 85)), some (.inr (.inl 86))]) (S := [.inr (.inl 82), .inl (.ref 8)]) (uh := hd_ov (iv_id 0 iv_B0) []) (ul := [.inl (.inr (.inl 82)), .inl (.inr (.inl 83)), .inl (.inr (.inl 84)), .inl (.inr (.inl 85)), .inl (.inr (.inl 86))]) (f := true) (sp := [17]) (d0 := 1) (O := [true]) (T := [(0, [.inr (.inl 0), .inl (.int 20)], [])]) (P := [(4, .inr (.inl 87), .inl (.int 2000))]) jm_ok81 (by decide +kernel) (by decide +kernel) hd F X1 X2 (fun F' hF hs => ?_)
  have b0 := hd_b (F := F) (F' := F') (k := 0) (hF 0 (by decide))
  have t87 : sy_dv F' (.inr (.inl 87)) = .int ((sy_i F 0) + ((20 : Int32))) := hd_o (hs 0 _ rfl) b0 rfl rfl
  have b82 := hd_b (F := F) (F' := F') (k := 82) (hF 82 (by decide))
  have b83 := hd_b (F := F) (F' := F') (k := 83) (hF 83 (by decide))
  have b84 := hd_b (F := F) (F' := F') (k := 84) (hF 84 (by decide))
  have b85 := hd_b (F := F) (F' := F') (k := 85) (hF 85 (by decide))
  have b86 := hd_b (F := F) (F' := F') (k := 86) (hF 86 (by decide))
  have hB' : iv_in F' iv_B0 := iv_in_eq hB (fun j hj => hF j (Nat.lt_of_lt_of_le hj (by decide +kernel)))
  refine ⟨List.forall_mem_cons.mpr ⟨hd_p4 t87 rfl (by have hc : ((2000) : Int32).toInt = 2000 := (by decide); omega), fun _ h => absurd h List.not_mem_nil⟩, ?_⟩
  refine k _ ?_ ?_ ?_ ?_ ?_ ?_
  · exact fun j hj _ => (hd_keep hB' (Nat.lt_of_lt_of_le hj (by decide +kernel)) (by simp)).trans (hF j (Nat.lt_of_lt_of_le hj (by decide)))
  · exact hd_gi (x := .inr (.inl 82)) (by decide +kernel) b82
  · exact hd_gi (x := .inr (.inl 83)) (by decide +kernel) b83
  · exact hd_gi (x := .inr (.inl 84)) (by decide +kernel) b84
  · exact hd_gi (x := .inr (.inl 85)) (by decide +kernel) b85
  · exact hd_gi (x := .inr (.inl 86)) (by decide +kernel) b86
theorem k0ofd_0_p1 {Ls : Nat} {xs : Nat → Int32} {d : Nat} {Q : Option Value → jm_h → Prop} (hd : 2 ≤ d) (F : Nat → sy_d) (X1 X2 : List jm_c) (hB : iv_in F iv_B0)
    (h0 : 2000 < ((sy_i F 0) + ((20 : Int32))).toInt)
    (k : ∀ F1 : Nat → sy_d, (∀ j, j < 82 → True → F1 j = F j) → Q (some (.int (((-1) : Int32)))) (sy_dh F1 X1 X2 (iv_H 0))) :
    hd_W Ls xs d jm_M81 Q (0, sy_dL F [some (.inl (.ref 8)), some (.inr (.inl 82)), some (.inr (.inl 83)), some (.inr (.inl 84)), some (.inr (.inl 85)), some (.inr (.inl 86))], sy_dS F [], sy_dh F X1 X2 (iv_H 0), 0, 0) := by
  refine hd_ret (s := 0) (nv := 87) (v := some (.inl (.int (-1)))) (uh := hd_ov (iv_id 0 iv_B0) []) (f := true) (sp := [17]) (d0 := 1) (O := [false]) (T := [(0, [.inr (.inl 0), .inl (.int 20)], [])]) (P := [(5, .inr (.inl 87), .inl (.int 2000))]) jm_ok81 (by decide +kernel) (by decide +kernel) hd F X1 X2 (fun F' hF hs => ?_)
  have b0 := hd_b (F := F) (F' := F') (k := 0) (hF 0 (by decide))
  have t87 : sy_dv F' (.inr (.inl 87)) = .int ((sy_i F 0) + ((20 : Int32))) := hd_o (hs 0 _ rfl) b0 rfl rfl
  have hB' : iv_in F' iv_B0 := iv_in_eq hB (fun j hj => hF j (Nat.lt_of_lt_of_le hj (by decide +kernel)))
  refine ⟨List.forall_mem_cons.mpr ⟨hd_p5 t87 rfl (by have hc : ((2000) : Int32).toInt = 2000 := (by decide); omega), fun _ h => absurd h List.not_mem_nil⟩, ?_⟩
  refine k _ ?_
  · exact fun j hj _ => (hd_keep hB' (Nat.lt_of_lt_of_le hj (by decide +kernel)) (by simp)).trans (hF j (Nat.lt_of_lt_of_le hj (by decide)))
theorem k0ofd_0 {Ls : Nat} {xs : Nat → Int32} {d : Nat} {Q : Option Value → jm_h → Prop} (hd : 2 ≤ d) (F : Nat → sy_d) (X1 X2 : List jm_c) (hB : iv_in F iv_B0)
    (k0 : ((sy_i F 0).toInt + 20) ≤ 2000 → ∀ F1 : Nat → sy_d, iv_in F1 iv_B0 → (∀ j, j < 82 → j ∉ ([] : List Nat) → F1 j = F j) → (sy_i F1 0).toInt = (sy_i F 0).toInt → (sy_i F1 1).toInt = (sy_i F 1).toInt → (sy_i F1 79).toInt = (sy_i F 79).toInt → sy_ai F1 2 = sy_ai F 2 → sy_ai F1 78 = sy_ai F 78 → (sy_i F1 82).toInt = (sy_i F 82).toInt → (sy_i F1 83).toInt = (sy_i F 83).toInt → (sy_i F1 84).toInt = (sy_i F 84).toInt → (sy_i F1 85).toInt = (sy_i F 85).toInt → (sy_i F1 86).toInt = (sy_i F 86).toInt → hd_W Ls xs d jm_M81 Q (17, sy_dL F1 [some (.inl (.ref 8)), some (.inr (.inl 82)), some (.inr (.inl 83)), some (.inr (.inl 84)), some (.inr (.inl 85)), some (.inr (.inl 86))], sy_dS F1 [.inr (.inl 82), .inl (.ref 8)], sy_dh F1 X1 X2 (iv_H 0), 0, 0))
    (k1 : 2000 < ((sy_i F 0).toInt + 20) → ∀ F1 : Nat → sy_d, iv_in F1 iv_B0 → (∀ j, j < 82 → j ∉ ([] : List Nat) → F1 j = F j) → (sy_i F1 0).toInt = (sy_i F 0).toInt → (sy_i F1 1).toInt = (sy_i F 1).toInt → (sy_i F1 79).toInt = (sy_i F 79).toInt → sy_ai F1 2 = sy_ai F 2 → sy_ai F1 78 = sy_ai F 78 → Q (some (.int (((-1) : Int32)))) (sy_dh F1 X1 X2 (iv_H 0))) :
    hd_W Ls xs d jm_M81 Q (0, sy_dL F [some (.inl (.ref 8)), some (.inr (.inl 82)), some (.inr (.inl 83)), some (.inr (.inl 84)), some (.inr (.inl 85)), some (.inr (.inl 86))], sy_dS F [], sy_dh F X1 X2 (iv_H 0), 0, 0) := by
  by_cases g0 : ((sy_i F 0).toInt + 20) ≤ 2000
  · have c0 := nz_bx hB (k := 0) (lo := 0) (hi := 2000) rfl
    have n87 : ((sy_i F 0) + ((20 : Int32))).toInt = ((sy_i F 0).toInt + 20) := nz_add (rfl : (sy_i F 0).toInt = (sy_i F 0).toInt) (by decide : ((20 : Int32)).toInt = 20) (by omega) (by omega)
    exact k0ofd_0_p0 hd F X1 X2 hB (by first | exact g0 | (simp only [nz_c, n87]; exact g0) | (rw [n87]; exact g0)) (fun F1 g e82 e83 e84 e85 e86 => k0 g0 F1 (nz_in0 hB [] (fun j hj hn => g j hj (by simp only [List.mem_cons, List.not_mem_nil, or_false, not_or] at hn; exact trivial)) (List.forall_mem_nil _)) (fun j hj hn => g j hj (by simp only [List.mem_cons, List.not_mem_nil, or_false, not_or] at hn; exact trivial)) (nz_fi (g 0 (by decide) (by decide))) (nz_fi (g 1 (by decide) (by decide))) (nz_fi (g 79 (by decide) (by decide))) (nz_fa (g 2 (by decide) (by decide))) (nz_fa (g 78 (by decide) (by decide))) ((congrArg Int32.toInt (zz_i e82)).trans (rfl : (sy_i F 82).toInt = (sy_i F 82).toInt)) ((congrArg Int32.toInt (zz_i e83)).trans (rfl : (sy_i F 83).toInt = (sy_i F 83).toInt)) ((congrArg Int32.toInt (zz_i e84)).trans (rfl : (sy_i F 84).toInt = (sy_i F 84).toInt)) ((congrArg Int32.toInt (zz_i e85)).trans (rfl : (sy_i F 85).toInt = (sy_i F 85).toInt)) ((congrArg Int32.toInt (zz_i e86)).trans (rfl : (sy_i F 86).toInt = (sy_i F 86).toInt)))
  replace g0 : 2000 < ((sy_i F 0).toInt + 20) := by omega
  have c0 := nz_bx hB (k := 0) (lo := 0) (hi := 2000) rfl
  have n87 : ((sy_i F 0) + ((20 : Int32))).toInt = ((sy_i F 0).toInt + 20) := nz_add (rfl : (sy_i F 0).toInt = (sy_i F 0).toInt) (by decide : ((20 : Int32)).toInt = 20) (by omega) (by omega)
  exact k0ofd_0_p1 hd F X1 X2 hB (by first | exact g0 | (simp only [nz_c, n87]; exact g0) | (rw [n87]; exact g0)) (fun F1 g  => k1 g0 F1 (nz_in0 hB [] (fun j hj hn => g j hj (by simp only [List.mem_cons, List.not_mem_nil, or_false, not_or] at hn; exact trivial)) (List.forall_mem_nil _)) (fun j hj hn => g j hj (by simp only [List.mem_cons, List.not_mem_nil, or_false, not_or] at hn; exact trivial)) (nz_fi (g 0 (by decide) (by decide))) (nz_fi (g 1 (by decide) (by decide))) (nz_fi (g 79 (by decide) (by decide))) (nz_fa (g 2 (by decide) (by decide))) (nz_fa (g 78 (by decide) (by decide))))
theorem k0ofd_20_p0 {Ls : Nat} {xs : Nat → Int32} {d : Nat} {Q : Option Value → jm_h → Prop} (hd : 2 ≤ d) (F : Nat → sy_d) (X1 X2 : List jm_c) (hB : iv_in F iv_B0)
    (k : ∀ F1 : Nat → sy_d, (∀ j, j < 82 → True → F1 j = F j) → F1 82 = .inl (.int (sy_i F 82)) → F1 83 = .inl (.int (sy_i F 83)) → F1 84 = .inl (.int (sy_i F 84)) → F1 85 = .inl (.int (sy_i F 85)) → F1 86 = .inl (.int (sy_i F 86)) → hd_W Ls xs d jm_M81 Q (22, sy_dL F1 [some (.inl (.ref 8)), some (.inr (.inl 82)), some (.inr (.inl 83)), some (.inr (.inl 84)), some (.inr (.inl 85)), some (.inr (.inl 86))], sy_dS F1 [.inr (.inl 83), .inl (.ref 8)], sy_dh F1 X1 X2 (iv_H 0), 0, 0)) :
    hd_W Ls xs d jm_M81 Q (20, sy_dL F [some (.inl (.ref 8)), some (.inr (.inl 82)), some (.inr (.inl 83)), some (.inr (.inl 84)), some (.inr (.inl 85)), some (.inr (.inl 86))], sy_dS F [], sy_dh F X1 X2 (iv_H 0), 0, 0) := by
  refine hd_run (s := 0) (nv := 87) (pc := 22) (L := [some (.inl (.ref 8)), some (.inr (.inl 82)), some (.inr (.inl 83)), some (.inr (.inl 84)), some (.inr (.inl 85)), some (.inr (.inl 86))]) (S := [.inr (.inl 83), .inl (.ref 8)]) (uh := hd_ov (iv_id 0 iv_B0) []) (ul := [.inl (.inr (.inl 82)), .inl (.inr (.inl 83)), .inl (.inr (.inl 84)), .inl (.inr (.inl 85)), .inl (.inr (.inl 86))]) (f := false) (sp := [22]) (d0 := 1) (O := []) (T := []) (P := []) jm_ok81 (by decide +kernel) (by decide +kernel) hd F X1 X2 (fun F' hF hs => ?_)
  have b82 := hd_b (F := F) (F' := F') (k := 82) (hF 82 (by decide))
  have b83 := hd_b (F := F) (F' := F') (k := 83) (hF 83 (by decide))
  have b84 := hd_b (F := F) (F' := F') (k := 84) (hF 84 (by decide))
  have b85 := hd_b (F := F) (F' := F') (k := 85) (hF 85 (by decide))
  have b86 := hd_b (F := F) (F' := F') (k := 86) (hF 86 (by decide))
  have hB' : iv_in F' iv_B0 := iv_in_eq hB (fun j hj => hF j (Nat.lt_of_lt_of_le hj (by decide +kernel)))
  refine ⟨fun _ h => absurd h List.not_mem_nil, ?_⟩
  refine k _ ?_ ?_ ?_ ?_ ?_ ?_
  · exact fun j hj _ => (hd_keep hB' (Nat.lt_of_lt_of_le hj (by decide +kernel)) (by simp)).trans (hF j (Nat.lt_of_lt_of_le hj (by decide)))
  · exact hd_gi (x := .inr (.inl 82)) (by decide +kernel) b82
  · exact hd_gi (x := .inr (.inl 83)) (by decide +kernel) b83
  · exact hd_gi (x := .inr (.inl 84)) (by decide +kernel) b84
  · exact hd_gi (x := .inr (.inl 85)) (by decide +kernel) b85
  · exact hd_gi (x := .inr (.inl 86)) (by decide +kernel) b86
theorem k0ofd_20 {Ls : Nat} {xs : Nat → Int32} {d : Nat} {Q : Option Value → jm_h → Prop} (hd : 2 ≤ d) (F : Nat → sy_d) (X1 X2 : List jm_c) (hB : iv_in F iv_B0)
    (k0 : ∀ F1 : Nat → sy_d, iv_in F1 iv_B0 → (∀ j, j < 82 → j ∉ ([] : List Nat) → F1 j = F j) → (sy_i F1 0).toInt = (sy_i F 0).toInt → (sy_i F1 1).toInt = (sy_i F 1).toInt → (sy_i F1 79).toInt = (sy_i F 79).toInt → sy_ai F1 2 = sy_ai F 2 → sy_ai F1 78 = sy_ai F 78 → (sy_i F1 82).toInt = (sy_i F 82).toInt → (sy_i F1 83).toInt = (sy_i F 83).toInt → (sy_i F1 84).toInt = (sy_i F 84).toInt → (sy_i F1 85).toInt = (sy_i F 85).toInt → (sy_i F1 86).toInt = (sy_i F 86).toInt → hd_W Ls xs d jm_M81 Q (22, sy_dL F1 [some (.inl (.ref 8)), some (.inr (.inl 82)), some (.inr (.inl 83)), some (.inr (.inl 84)), some (.inr (.inl 85)), some (.inr (.inl 86))], sy_dS F1 [.inr (.inl 83), .inl (.ref 8)], sy_dh F1 X1 X2 (iv_H 0), 0, 0)) :
    hd_W Ls xs d jm_M81 Q (20, sy_dL F [some (.inl (.ref 8)), some (.inr (.inl 82)), some (.inr (.inl 83)), some (.inr (.inl 84)), some (.inr (.inl 85)), some (.inr (.inl 86))], sy_dS F [], sy_dh F X1 X2 (iv_H 0), 0, 0) := by
  exact k0ofd_20_p0 hd F X1 X2 hB  (fun F1 g e82 e83 e84 e85 e86 => k0 F1 (nz_in0 hB [] (fun j hj hn => g j hj (by simp only [List.mem_cons, List.not_mem_nil, or_false, not_or] at hn; exact trivial)) (List.forall_mem_nil _)) (fun j hj hn => g j hj (by simp only [List.mem_cons, List.not_mem_nil, or_false, not_or] at hn; exact trivial)) (nz_fi (g 0 (by decide) (by decide))) (nz_fi (g 1 (by decide) (by decide))) (nz_fi (g 79 (by decide) (by decide))) (nz_fa (g 2 (by decide) (by decide))) (nz_fa (g 78 (by decide) (by decide))) ((congrArg Int32.toInt (zz_i e82)).trans (rfl : (sy_i F 82).toInt = (sy_i F 82).toInt)) ((congrArg Int32.toInt (zz_i e83)).trans (rfl : (sy_i F 83).toInt = (sy_i F 83).toInt)) ((congrArg Int32.toInt (zz_i e84)).trans (rfl : (sy_i F 84).toInt = (sy_i F 84).toInt)) ((congrArg Int32.toInt (zz_i e85)).trans (rfl : (sy_i F 85).toInt = (sy_i F 85).toInt)) ((congrArg Int32.toInt (zz_i e86)).trans (rfl : (sy_i F 86).toInt = (sy_i F 86).toInt)))
theorem k0ofd_25_p0 {Ls : Nat} {xs : Nat → Int32} {d : Nat} {Q : Option Value → jm_h → Prop} (hd : 2 ≤ d) (F : Nat → sy_d) (X1 X2 : List jm_c) (hB : iv_in F iv_B0)
    (k : ∀ F1 : Nat → sy_d, (∀ j, j < 82 → True → F1 j = F j) → F1 82 = .inl (.int (sy_i F 82)) → F1 83 = .inl (.int (sy_i F 83)) → F1 84 = .inl (.int (sy_i F 84)) → F1 85 = .inl (.int (sy_i F 85)) → F1 86 = .inl (.int (sy_i F 86)) → hd_W Ls xs d jm_M81 Q (27, sy_dL F1 [some (.inl (.ref 8)), some (.inr (.inl 82)), some (.inr (.inl 83)), some (.inr (.inl 84)), some (.inr (.inl 85)), some (.inr (.inl 86))], sy_dS F1 [.inr (.inl 84), .inl (.ref 8)], sy_dh F1 X1 X2 (iv_H 0), 0, 0)) :
    hd_W Ls xs d jm_M81 Q (25, sy_dL F [some (.inl (.ref 8)), some (.inr (.inl 82)), some (.inr (.inl 83)), some (.inr (.inl 84)), some (.inr (.inl 85)), some (.inr (.inl 86))], sy_dS F [], sy_dh F X1 X2 (iv_H 0), 0, 0) := by
  refine hd_run (s := 0) (nv := 87) (pc := 27) (L := [some (.inl (.ref 8)), some (.inr (.inl 82)), some (.inr (.inl 83)), some (.inr (.inl 84)), some (.inr (.inl 85)), some (.inr (.inl 86))]) (S := [.inr (.inl 84), .inl (.ref 8)]) (uh := hd_ov (iv_id 0 iv_B0) []) (ul := [.inl (.inr (.inl 82)), .inl (.inr (.inl 83)), .inl (.inr (.inl 84)), .inl (.inr (.inl 85)), .inl (.inr (.inl 86))]) (f := false) (sp := [27]) (d0 := 1) (O := []) (T := []) (P := []) jm_ok81 (by decide +kernel) (by decide +kernel) hd F X1 X2 (fun F' hF hs => ?_)
  have b82 := hd_b (F := F) (F' := F') (k := 82) (hF 82 (by decide))
  have b83 := hd_b (F := F) (F' := F') (k := 83) (hF 83 (by decide))
  have b84 := hd_b (F := F) (F' := F') (k := 84) (hF 84 (by decide))
  have b85 := hd_b (F := F) (F' := F') (k := 85) (hF 85 (by decide))
  have b86 := hd_b (F := F) (F' := F') (k := 86) (hF 86 (by decide))
  have hB' : iv_in F' iv_B0 := iv_in_eq hB (fun j hj => hF j (Nat.lt_of_lt_of_le hj (by decide +kernel)))
  refine ⟨fun _ h => absurd h List.not_mem_nil, ?_⟩
  refine k _ ?_ ?_ ?_ ?_ ?_ ?_
  · exact fun j hj _ => (hd_keep hB' (Nat.lt_of_lt_of_le hj (by decide +kernel)) (by simp)).trans (hF j (Nat.lt_of_lt_of_le hj (by decide)))
  · exact hd_gi (x := .inr (.inl 82)) (by decide +kernel) b82
  · exact hd_gi (x := .inr (.inl 83)) (by decide +kernel) b83
  · exact hd_gi (x := .inr (.inl 84)) (by decide +kernel) b84
  · exact hd_gi (x := .inr (.inl 85)) (by decide +kernel) b85
  · exact hd_gi (x := .inr (.inl 86)) (by decide +kernel) b86
theorem k0ofd_25 {Ls : Nat} {xs : Nat → Int32} {d : Nat} {Q : Option Value → jm_h → Prop} (hd : 2 ≤ d) (F : Nat → sy_d) (X1 X2 : List jm_c) (hB : iv_in F iv_B0)
    (k0 : ∀ F1 : Nat → sy_d, iv_in F1 iv_B0 → (∀ j, j < 82 → j ∉ ([] : List Nat) → F1 j = F j) → (sy_i F1 0).toInt = (sy_i F 0).toInt → (sy_i F1 1).toInt = (sy_i F 1).toInt → (sy_i F1 79).toInt = (sy_i F 79).toInt → sy_ai F1 2 = sy_ai F 2 → sy_ai F1 78 = sy_ai F 78 → (sy_i F1 82).toInt = (sy_i F 82).toInt → (sy_i F1 83).toInt = (sy_i F 83).toInt → (sy_i F1 84).toInt = (sy_i F 84).toInt → (sy_i F1 85).toInt = (sy_i F 85).toInt → (sy_i F1 86).toInt = (sy_i F 86).toInt → hd_W Ls xs d jm_M81 Q (27, sy_dL F1 [some (.inl (.ref 8)), some (.inr (.inl 82)), some (.inr (.inl 83)), some (.inr (.inl 84)), some (.inr (.inl 85)), some (.inr (.inl 86))], sy_dS F1 [.inr (.inl 84), .inl (.ref 8)], sy_dh F1 X1 X2 (iv_H 0), 0, 0)) :
    hd_W Ls xs d jm_M81 Q (25, sy_dL F [some (.inl (.ref 8)), some (.inr (.inl 82)), some (.inr (.inl 83)), some (.inr (.inl 84)), some (.inr (.inl 85)), some (.inr (.inl 86))], sy_dS F [], sy_dh F X1 X2 (iv_H 0), 0, 0) := by
  exact k0ofd_25_p0 hd F X1 X2 hB  (fun F1 g e82 e83 e84 e85 e86 => k0 F1 (nz_in0 hB [] (fun j hj hn => g j hj (by simp only [List.mem_cons, List.not_mem_nil, or_false, not_or] at hn; exact trivial)) (List.forall_mem_nil _)) (fun j hj hn => g j hj (by simp only [List.mem_cons, List.not_mem_nil, or_false, not_or] at hn; exact trivial)) (nz_fi (g 0 (by decide) (by decide))) (nz_fi (g 1 (by decide) (by decide))) (nz_fi (g 79 (by decide) (by decide))) (nz_fa (g 2 (by decide) (by decide))) (nz_fa (g 78 (by decide) (by decide))) ((congrArg Int32.toInt (zz_i e82)).trans (rfl : (sy_i F 82).toInt = (sy_i F 82).toInt)) ((congrArg Int32.toInt (zz_i e83)).trans (rfl : (sy_i F 83).toInt = (sy_i F 83).toInt)) ((congrArg Int32.toInt (zz_i e84)).trans (rfl : (sy_i F 84).toInt = (sy_i F 84).toInt)) ((congrArg Int32.toInt (zz_i e85)).trans (rfl : (sy_i F 85).toInt = (sy_i F 85).toInt)) ((congrArg Int32.toInt (zz_i e86)).trans (rfl : (sy_i F 86).toInt = (sy_i F 86).toInt)))
theorem k0ofd_30_p0 {Ls : Nat} {xs : Nat → Int32} {d : Nat} {Q : Option Value → jm_h → Prop} (hd : 2 ≤ d) (F : Nat → sy_d) (X1 X2 : List jm_c) (hB : iv_in F iv_B0)
    (k : ∀ F1 : Nat → sy_d, (∀ j, j < 82 → True → F1 j = F j) → F1 82 = .inl (.int (sy_i F 82)) → F1 83 = .inl (.int (sy_i F 83)) → F1 84 = .inl (.int (sy_i F 84)) → F1 85 = .inl (.int (sy_i F 85)) → F1 86 = .inl (.int (sy_i F 86)) → hd_W Ls xs d jm_M81 Q (33, sy_dL F1 [some (.inl (.ref 8)), some (.inr (.inl 82)), some (.inr (.inl 83)), some (.inr (.inl 84)), some (.inr (.inl 85)), some (.inr (.inl 86))], sy_dS F1 [.inr (.inl 85), .inl (.ref 8)], sy_dh F1 X1 X2 (iv_H 0), 0, 0)) :
    hd_W Ls xs d jm_M81 Q (30, sy_dL F [some (.inl (.ref 8)), some (.inr (.inl 82)), some (.inr (.inl 83)), some (.inr (.inl 84)), some (.inr (.inl 85)), some (.inr (.inl 86))], sy_dS F [], sy_dh F X1 X2 (iv_H 0), 0, 0) := by
  refine hd_run (s := 0) (nv := 87) (pc := 33) (L := [some (.inl (.ref 8)), some (.inr (.inl 82)), some (.inr (.inl 83)), some (.inr (.inl 84)), some (.inr (.inl 85)), some (.inr (.inl 86))]) (S := [.inr (.inl 85), .inl (.ref 8)]) (uh := hd_ov (iv_id 0 iv_B0) []) (ul := [.inl (.inr (.inl 82)), .inl (.inr (.inl 83)), .inl (.inr (.inl 84)), .inl (.inr (.inl 85)), .inl (.inr (.inl 86))]) (f := false) (sp := [33]) (d0 := 1) (O := []) (T := []) (P := []) jm_ok81 (by decide +kernel) (by decide +kernel) hd F X1 X2 (fun F' hF hs => ?_)
  have b82 := hd_b (F := F) (F' := F') (k := 82) (hF 82 (by decide))
  have b83 := hd_b (F := F) (F' := F') (k := 83) (hF 83 (by decide))
  have b84 := hd_b (F := F) (F' := F') (k := 84) (hF 84 (by decide))
  have b85 := hd_b (F := F) (F' := F') (k := 85) (hF 85 (by decide))
  have b86 := hd_b (F := F) (F' := F') (k := 86) (hF 86 (by decide))
  have hB' : iv_in F' iv_B0 := iv_in_eq hB (fun j hj => hF j (Nat.lt_of_lt_of_le hj (by decide +kernel)))
  refine ⟨fun _ h => absurd h List.not_mem_nil, ?_⟩
  refine k _ ?_ ?_ ?_ ?_ ?_ ?_
  · exact fun j hj _ => (hd_keep hB' (Nat.lt_of_lt_of_le hj (by decide +kernel)) (by simp)).trans (hF j (Nat.lt_of_lt_of_le hj (by decide)))
  · exact hd_gi (x := .inr (.inl 82)) (by decide +kernel) b82
  · exact hd_gi (x := .inr (.inl 83)) (by decide +kernel) b83
  · exact hd_gi (x := .inr (.inl 84)) (by decide +kernel) b84
  · exact hd_gi (x := .inr (.inl 85)) (by decide +kernel) b85
  · exact hd_gi (x := .inr (.inl 86)) (by decide +kernel) b86
theorem k0ofd_30 {Ls : Nat} {xs : Nat → Int32} {d : Nat} {Q : Option Value → jm_h → Prop} (hd : 2 ≤ d) (F : Nat → sy_d) (X1 X2 : List jm_c) (hB : iv_in F iv_B0)
    (k0 : ∀ F1 : Nat → sy_d, iv_in F1 iv_B0 → (∀ j, j < 82 → j ∉ ([] : List Nat) → F1 j = F j) → (sy_i F1 0).toInt = (sy_i F 0).toInt → (sy_i F1 1).toInt = (sy_i F 1).toInt → (sy_i F1 79).toInt = (sy_i F 79).toInt → sy_ai F1 2 = sy_ai F 2 → sy_ai F1 78 = sy_ai F 78 → (sy_i F1 82).toInt = (sy_i F 82).toInt → (sy_i F1 83).toInt = (sy_i F 83).toInt → (sy_i F1 84).toInt = (sy_i F 84).toInt → (sy_i F1 85).toInt = (sy_i F 85).toInt → (sy_i F1 86).toInt = (sy_i F 86).toInt → hd_W Ls xs d jm_M81 Q (33, sy_dL F1 [some (.inl (.ref 8)), some (.inr (.inl 82)), some (.inr (.inl 83)), some (.inr (.inl 84)), some (.inr (.inl 85)), some (.inr (.inl 86))], sy_dS F1 [.inr (.inl 85), .inl (.ref 8)], sy_dh F1 X1 X2 (iv_H 0), 0, 0)) :
    hd_W Ls xs d jm_M81 Q (30, sy_dL F [some (.inl (.ref 8)), some (.inr (.inl 82)), some (.inr (.inl 83)), some (.inr (.inl 84)), some (.inr (.inl 85)), some (.inr (.inl 86))], sy_dS F [], sy_dh F X1 X2 (iv_H 0), 0, 0) := by
  exact k0ofd_30_p0 hd F X1 X2 hB  (fun F1 g e82 e83 e84 e85 e86 => k0 F1 (nz_in0 hB [] (fun j hj hn => g j hj (by simp only [List.mem_cons, List.not_mem_nil, or_false, not_or] at hn; exact trivial)) (List.forall_mem_nil _)) (fun j hj hn => g j hj (by simp only [List.mem_cons, List.not_mem_nil, or_false, not_or] at hn; exact trivial)) (nz_fi (g 0 (by decide) (by decide))) (nz_fi (g 1 (by decide) (by decide))) (nz_fi (g 79 (by decide) (by decide))) (nz_fa (g 2 (by decide) (by decide))) (nz_fa (g 78 (by decide) (by decide))) ((congrArg Int32.toInt (zz_i e82)).trans (rfl : (sy_i F 82).toInt = (sy_i F 82).toInt)) ((congrArg Int32.toInt (zz_i e83)).trans (rfl : (sy_i F 83).toInt = (sy_i F 83).toInt)) ((congrArg Int32.toInt (zz_i e84)).trans (rfl : (sy_i F 84).toInt = (sy_i F 84).toInt)) ((congrArg Int32.toInt (zz_i e85)).trans (rfl : (sy_i F 85).toInt = (sy_i F 85).toInt)) ((congrArg Int32.toInt (zz_i e86)).trans (rfl : (sy_i F 86).toInt = (sy_i F 86).toInt)))
theorem k0ofd_36_p0 {Ls : Nat} {xs : Nat → Int32} {d : Nat} {Q : Option Value → jm_h → Prop} (hd : 2 ≤ d) (F : Nat → sy_d) (X1 X2 : List jm_c) (hB : iv_in F iv_B0)
    (k : ∀ F1 : Nat → sy_d, (∀ j, j < 82 → True → F1 j = F j) → F1 82 = .inl (.int (sy_i F 82)) → F1 83 = .inl (.int (sy_i F 83)) → F1 84 = .inl (.int (sy_i F 84)) → F1 85 = .inl (.int (sy_i F 85)) → F1 86 = .inl (.int (sy_i F 86)) → hd_W Ls xs d jm_M81 Q (39, sy_dL F1 [some (.inl (.ref 8)), some (.inr (.inl 82)), some (.inr (.inl 83)), some (.inr (.inl 84)), some (.inr (.inl 85)), some (.inr (.inl 86))], sy_dS F1 [.inr (.inl 86), .inl (.ref 8)], sy_dh F1 X1 X2 (iv_H 0), 0, 0)) :
    hd_W Ls xs d jm_M81 Q (36, sy_dL F [some (.inl (.ref 8)), some (.inr (.inl 82)), some (.inr (.inl 83)), some (.inr (.inl 84)), some (.inr (.inl 85)), some (.inr (.inl 86))], sy_dS F [], sy_dh F X1 X2 (iv_H 0), 0, 0) := by
  refine hd_run (s := 0) (nv := 87) (pc := 39) (L := [some (.inl (.ref 8)), some (.inr (.inl 82)), some (.inr (.inl 83)), some (.inr (.inl 84)), some (.inr (.inl 85)), some (.inr (.inl 86))]) (S := [.inr (.inl 86), .inl (.ref 8)]) (uh := hd_ov (iv_id 0 iv_B0) []) (ul := [.inl (.inr (.inl 82)), .inl (.inr (.inl 83)), .inl (.inr (.inl 84)), .inl (.inr (.inl 85)), .inl (.inr (.inl 86))]) (f := false) (sp := [39]) (d0 := 1) (O := []) (T := []) (P := []) jm_ok81 (by decide +kernel) (by decide +kernel) hd F X1 X2 (fun F' hF hs => ?_)
  have b82 := hd_b (F := F) (F' := F') (k := 82) (hF 82 (by decide))
  have b83 := hd_b (F := F) (F' := F') (k := 83) (hF 83 (by decide))
  have b84 := hd_b (F := F) (F' := F') (k := 84) (hF 84 (by decide))
  have b85 := hd_b (F := F) (F' := F') (k := 85) (hF 85 (by decide))
  have b86 := hd_b (F := F) (F' := F') (k := 86) (hF 86 (by decide))
  have hB' : iv_in F' iv_B0 := iv_in_eq hB (fun j hj => hF j (Nat.lt_of_lt_of_le hj (by decide +kernel)))
  refine ⟨fun _ h => absurd h List.not_mem_nil, ?_⟩
  refine k _ ?_ ?_ ?_ ?_ ?_ ?_
  · exact fun j hj _ => (hd_keep hB' (Nat.lt_of_lt_of_le hj (by decide +kernel)) (by simp)).trans (hF j (Nat.lt_of_lt_of_le hj (by decide)))
  · exact hd_gi (x := .inr (.inl 82)) (by decide +kernel) b82
  · exact hd_gi (x := .inr (.inl 83)) (by decide +kernel) b83
  · exact hd_gi (x := .inr (.inl 84)) (by decide +kernel) b84
  · exact hd_gi (x := .inr (.inl 85)) (by decide +kernel) b85
  · exact hd_gi (x := .inr (.inl 86)) (by decide +kernel) b86
theorem k0ofd_36 {Ls : Nat} {xs : Nat → Int32} {d : Nat} {Q : Option Value → jm_h → Prop} (hd : 2 ≤ d) (F : Nat → sy_d) (X1 X2 : List jm_c) (hB : iv_in F iv_B0)
    (k0 : ∀ F1 : Nat → sy_d, iv_in F1 iv_B0 → (∀ j, j < 82 → j ∉ ([] : List Nat) → F1 j = F j) → (sy_i F1 0).toInt = (sy_i F 0).toInt → (sy_i F1 1).toInt = (sy_i F 1).toInt → (sy_i F1 79).toInt = (sy_i F 79).toInt → sy_ai F1 2 = sy_ai F 2 → sy_ai F1 78 = sy_ai F 78 → (sy_i F1 82).toInt = (sy_i F 82).toInt → (sy_i F1 83).toInt = (sy_i F 83).toInt → (sy_i F1 84).toInt = (sy_i F 84).toInt → (sy_i F1 85).toInt = (sy_i F 85).toInt → (sy_i F1 86).toInt = (sy_i F 86).toInt → hd_W Ls xs d jm_M81 Q (39, sy_dL F1 [some (.inl (.ref 8)), some (.inr (.inl 82)), some (.inr (.inl 83)), some (.inr (.inl 84)), some (.inr (.inl 85)), some (.inr (.inl 86))], sy_dS F1 [.inr (.inl 86), .inl (.ref 8)], sy_dh F1 X1 X2 (iv_H 0), 0, 0)) :
    hd_W Ls xs d jm_M81 Q (36, sy_dL F [some (.inl (.ref 8)), some (.inr (.inl 82)), some (.inr (.inl 83)), some (.inr (.inl 84)), some (.inr (.inl 85)), some (.inr (.inl 86))], sy_dS F [], sy_dh F X1 X2 (iv_H 0), 0, 0) := by
  exact k0ofd_36_p0 hd F X1 X2 hB  (fun F1 g e82 e83 e84 e85 e86 => k0 F1 (nz_in0 hB [] (fun j hj hn => g j hj (by simp only [List.mem_cons, List.not_mem_nil, or_false, not_or] at hn; exact trivial)) (List.forall_mem_nil _)) (fun j hj hn => g j hj (by simp only [List.mem_cons, List.not_mem_nil, or_false, not_or] at hn; exact trivial)) (nz_fi (g 0 (by decide) (by decide))) (nz_fi (g 1 (by decide) (by decide))) (nz_fi (g 79 (by decide) (by decide))) (nz_fa (g 2 (by decide) (by decide))) (nz_fa (g 78 (by decide) (by decide))) ((congrArg Int32.toInt (zz_i e82)).trans (rfl : (sy_i F 82).toInt = (sy_i F 82).toInt)) ((congrArg Int32.toInt (zz_i e83)).trans (rfl : (sy_i F 83).toInt = (sy_i F 83).toInt)) ((congrArg Int32.toInt (zz_i e84)).trans (rfl : (sy_i F 84).toInt = (sy_i F 84).toInt)) ((congrArg Int32.toInt (zz_i e85)).trans (rfl : (sy_i F 85).toInt = (sy_i F 85).toInt)) ((congrArg Int32.toInt (zz_i e86)).trans (rfl : (sy_i F 86).toInt = (sy_i F 86).toInt)))
theorem k0ofd_42_p0 {Ls : Nat} {xs : Nat → Int32} {d : Nat} {Q : Option Value → jm_h → Prop} (hd : 2 ≤ d) (F : Nat → sy_d) (X1 X2 : List jm_c) (hB : iv_in F iv_B0)
    (k : ∀ F1 : Nat → sy_d, (∀ j, j < 82 → True → F1 j = F j) → Q (some (.int (sy_i F 0))) (sy_dh F1 X1 X2 (iv_H 0))) :
    hd_W Ls xs d jm_M81 Q (42, sy_dL F [some (.inl (.ref 8)), some (.inr (.inl 82)), some (.inr (.inl 83)), some (.inr (.inl 84)), some (.inr (.inl 85)), some (.inr (.inl 86))], sy_dS F [], sy_dh F X1 X2 (iv_H 0), 0, 0) := by
  refine hd_ret (s := 0) (nv := 87) (v := some (.inr (.inl 0))) (uh := hd_ov (iv_id 0 iv_B0) []) (f := false) (sp := []) (d0 := 1) (O := []) (T := []) (P := []) jm_ok81 (by decide +kernel) (by decide +kernel) hd F X1 X2 (fun F' hF hs => ?_)
  have b0 := hd_b (F := F) (F' := F') (k := 0) (hF 0 (by decide))
  have hB' : iv_in F' iv_B0 := iv_in_eq hB (fun j hj => hF j (Nat.lt_of_lt_of_le hj (by decide +kernel)))
  have hk := k (sy_cm F' (hd_ov (iv_id 0 iv_B0) [] ++ [])) (fun j hj _ => (hd_keep hB' (Nat.lt_of_lt_of_le hj (by decide +kernel)) (by simp)).trans (hF j (Nat.lt_of_lt_of_le hj (by decide))))
  refine ⟨fun _ h => absurd h List.not_mem_nil, ?_⟩
  show Q (some (sy_dv F' (.inr (.inl 0)))) _
  rw [b0]
  exact hk
theorem k0ofd_42 {Ls : Nat} {xs : Nat → Int32} {d : Nat} {Q : Option Value → jm_h → Prop} (hd : 2 ≤ d) (F : Nat → sy_d) (X1 X2 : List jm_c) (hB : iv_in F iv_B0)
    (k0 : ∀ F1 : Nat → sy_d, iv_in F1 iv_B0 → (∀ j, j < 82 → j ∉ ([] : List Nat) → F1 j = F j) → (sy_i F1 0).toInt = (sy_i F 0).toInt → (sy_i F1 1).toInt = (sy_i F 1).toInt → (sy_i F1 79).toInt = (sy_i F 79).toInt → sy_ai F1 2 = sy_ai F 2 → sy_ai F1 78 = sy_ai F 78 → Q (some (.int (sy_i F 0))) (sy_dh F1 X1 X2 (iv_H 0))) :
    hd_W Ls xs d jm_M81 Q (42, sy_dL F [some (.inl (.ref 8)), some (.inr (.inl 82)), some (.inr (.inl 83)), some (.inr (.inl 84)), some (.inr (.inl 85)), some (.inr (.inl 86))], sy_dS F [], sy_dh F X1 X2 (iv_H 0), 0, 0) := by
  exact k0ofd_42_p0 hd F X1 X2 hB  (fun F1 g  => by rw [(rfl : sy_i F 0 = sy_i F 0)]; exact k0 F1 (nz_in0 hB [] (fun j hj hn => g j hj (by simp only [List.mem_cons, List.not_mem_nil, or_false, not_or] at hn; exact trivial)) (List.forall_mem_nil _)) (fun j hj hn => g j hj (by simp only [List.mem_cons, List.not_mem_nil, or_false, not_or] at hn; exact trivial)) (nz_fi (g 0 (by decide) (by decide))) (nz_fi (g 1 (by decide) (by decide))) (nz_fi (g 79 (by decide) (by decide))) (nz_fa (g 2 (by decide) (by decide))) (nz_fa (g 78 (by decide) (by decide))))
theorem k0ord_0_p0 {Ls : Nat} {xs : Nat → Int32} {d : Nat} {Q : Option Value → jm_h → Prop} (hd : 29 ≤ d) (F : Nat → sy_d) (X1 X2 : List jm_c) (hB : iv_in F iv_B0)
    (k : ∀ F1 : Nat → sy_d, (∀ j, j < 82 → True → F1 j = F j) → F1 82 = .inl (.int (sy_i F 0)) → hd_W Ls xs d jm_M83 Q (16, sy_dL F1 [some (.inl (.ref 8)), none, none], sy_dS F1 [.inl (.ref 20), .inr (.inl 82), .inl (.ref 9), .inl (.ref 30)], sy_dh F1 X1 X2 (iv_H 0), 0, 0)) :
    hd_W Ls xs d jm_M83 Q (0, sy_dL F [some (.inl (.ref 8)), none, none], sy_dS F [], sy_dh F X1 X2 (iv_H 0), 0, 0) := by
  refine hd_run (s := 0) (nv := 82) (pc := 16) (L := [some (.inl (.ref 8)), none, none]) (S := [.inl (.ref 20), .inr (.inl 82), .inl (.ref 9), .inl (.ref 30)]) (uh := hd_ov (iv_id 0 iv_B0) []) (ul := [.inl (.inr (.inl 0))]) (f := true) (sp := [16]) (d0 := 28) (O := []) (T := []) (P := []) jm_ok83 (by decide +kernel) (by decide +kernel) hd F X1 X2 (fun F' hF hs => ?_)
  have b0 := hd_b (F := F) (F' := F') (k := 0) (hF 0 (by decide))
  have hB' : iv_in F' iv_B0 := iv_in_eq hB (fun j hj => hF j (Nat.lt_of_lt_of_le hj (by decide +kernel)))
  refine ⟨fun _ h => absurd h List.not_mem_nil, ?_⟩
  refine k _ ?_ ?_
  · exact fun j hj _ => (hd_keep hB' (Nat.lt_of_lt_of_le hj (by decide +kernel)) (by simp)).trans (hF j (Nat.lt_of_lt_of_le hj (by decide)))
  · exact hd_gi (x := .inr (.inl 0)) (by decide +kernel) b0
theorem k0ord_0 {Ls : Nat} {xs : Nat → Int32} {d : Nat} {Q : Option Value → jm_h → Prop} (hd : 29 ≤ d) (F : Nat → sy_d) (X1 X2 : List jm_c) (hB : iv_in F iv_B0)
    (k0 : ∀ F1 : Nat → sy_d, iv_in F1 iv_B0 → (∀ j, j < 82 → j ∉ ([] : List Nat) → F1 j = F j) → (sy_i F1 0).toInt = (sy_i F 0).toInt → (sy_i F1 1).toInt = (sy_i F 1).toInt → (sy_i F1 35).toInt = (sy_i F 35).toInt → (sy_i F1 79).toInt = (sy_i F 79).toInt → sy_ai F1 2 = sy_ai F 2 → sy_ai F1 78 = sy_ai F 78 → (sy_i F1 82).toInt = (sy_i F 0).toInt → hd_W Ls xs d jm_M83 Q (16, sy_dL F1 [some (.inl (.ref 8)), none, none], sy_dS F1 [.inl (.ref 20), .inr (.inl 82), .inl (.ref 9), .inl (.ref 30)], sy_dh F1 X1 X2 (iv_H 0), 0, 0)) :
    hd_W Ls xs d jm_M83 Q (0, sy_dL F [some (.inl (.ref 8)), none, none], sy_dS F [], sy_dh F X1 X2 (iv_H 0), 0, 0) := by
  have c0 := nz_bx hB (k := 0) (lo := 0) (hi := 2000) rfl
  exact k0ord_0_p0 hd F X1 X2 hB  (fun F1 g e82 => k0 F1 (nz_in0 hB [] (fun j hj hn => g j hj (by simp only [List.mem_cons, List.not_mem_nil, or_false, not_or] at hn; exact trivial)) (List.forall_mem_nil _)) (fun j hj hn => g j hj (by simp only [List.mem_cons, List.not_mem_nil, or_false, not_or] at hn; exact trivial)) (nz_fi (g 0 (by decide) (by decide))) (nz_fi (g 1 (by decide) (by decide))) (nz_fi (g 35 (by decide) (by decide))) (nz_fi (g 79 (by decide) (by decide))) (nz_fa (g 2 (by decide) (by decide))) (nz_fa (g 78 (by decide) (by decide))) ((congrArg Int32.toInt (zz_i e82)).trans (rfl : (sy_i F 0).toInt = (sy_i F 0).toInt)))
end
section
/-! ===== the class: the tape, what is told, what is held, way by way (shape 1) ===== -/
theorem k1oap_0_p0 {Ls : Nat} {xs : Nat → Int32} {d : Nat} {Q : Option Value → jm_h → Prop} (hd : 1 ≤ d) (F : Nat → sy_d) (X1 X2 : List jm_c) (hB : iv_in F iv_B0)
    (h0 : 2000 ≤ (sy_i F 0).toInt)
    (k : ∀ F1 : Nat → sy_d, (∀ j, j < 82 → True → F1 j = F j) → Q (none) (sy_dh F1 X1 X2 (iv_H 1))) :
    hd_W Ls xs d jm_M116 Q (0, sy_dL F [some (.inl (.ref 8)), some (.inr (.inl 82)), none], sy_dS F [], sy_dh F X1 X2 (iv_H 1), 0, 0) := by
  refine hd_ret (s := 1) (nv := 83) (v := none) (uh := hd_ov (iv_id 0 iv_B0) []) (f := true) (sp := []) (d0 := 0) (O := [true]) (T := []) (P := [(4, .inl (.int 2000), .inr (.inl 0))]) jm_ok116 (by decide +kernel) (by decide +kernel) hd F X1 X2 (fun F' hF hs => ?_)
  have b0 := hd_b (F := F) (F' := F') (k := 0) (hF 0 (by decide))
  have hB' : iv_in F' iv_B0 := iv_in_eq hB (fun j hj => hF j (Nat.lt_of_lt_of_le hj (by decide +kernel)))
  refine ⟨List.forall_mem_cons.mpr ⟨hd_p4 rfl b0 (by have hc : ((2000) : Int32).toInt = 2000 := (by decide); omega), fun _ h => absurd h List.not_mem_nil⟩, ?_⟩
  refine k _ ?_
  · exact fun j hj _ => (hd_keep hB' (Nat.lt_of_lt_of_le hj (by decide +kernel)) (by simp)).trans (hF j (Nat.lt_of_lt_of_le hj (by decide)))
theorem k1oap_0_p1 {Ls : Nat} {xs : Nat → Int32} {d : Nat} {Q : Option Value → jm_h → Prop} (hd : 1 ≤ d) (F : Nat → sy_d) (X1 X2 : List jm_c) (hB : iv_in F iv_B0)
    (h0 : (sy_i F 0).toInt < 2000)
    (h1 : 0 ≤ (sy_i F 0).toInt ∧ (sy_i F 0).toInt < 2000)
    (h2 : 2000 ≤ ((sy_i F 0) + ((1 : Int32))).toInt)
    (k : ∀ F1 : Nat → sy_d, (∀ j, j < 82 → j ≠ 0 ∧ j ≠ 2 → F1 j = F j) → F1 0 = .inl (.int ((sy_i F 0) + ((1 : Int32)))) → F1 2 = .inr (.inl (jm_upd (sy_ai F 2) (sy_i F 0).toNatClampNeg ((((((sy_i F 82)).toUInt32 >>> ((((24 : Int32))).toUInt32 &&& Int32.toUInt32 31)).toInt32).toInt8.toInt32).toInt8.toInt32))) → Q (none) (sy_dh F1 X1 X2 (iv_H 1))) :
    hd_W Ls xs d jm_M116 Q (0, sy_dL F [some (.inl (.ref 8)), some (.inr (.inl 82)), none], sy_dS F [], sy_dh F X1 X2 (iv_H 1), 0, 0) := by
  refine hd_ret (s := 1) (nv := 83) (v := none) (uh := hd_ov (iv_id 0 iv_B0) [(0, .inl (.inr (.inl 87))), (2, .inr (.inr (.inl 86)))]) (f := true) (sp := []) (d0 := 0) (O := [false, true]) (T := [(8, [.inr (.inl 82), .inl (.int 24)], []), (22, [.inr (.inl 83)], []), (22, [.inr (.inl 84)], []), (40, [.inr (.inl 0), .inr (.inl 85)], [.inr (.inl 2)]), (0, [.inr (.inl 0), .inl (.int 1)], [])]) (P := [(5, .inl (.int 2000), .inr (.inl 0)), (6, .inr (.inl 0), .inl (.ref 2000)), (4, .inl (.int 2000), .inr (.inl 87))]) jm_ok116 (by decide +kernel) (by decide +kernel) hd F X1 X2 (fun F' hF hs => ?_)
  have b0 := hd_b (F := F) (F' := F') (k := 0) (hF 0 (by decide))
  have t87 : sy_dv F' (.inr (.inl 87)) = .int ((sy_i F 0) + ((1 : Int32))) := hd_o (hs 4 _ rfl) b0 rfl rfl
  have b82 := hd_b (F := F) (F' := F') (k := 82) (hF 82 (by decide))
  have t83 : sy_dv F' (.inr (.inl 83)) = .int ((((sy_i F 82)).toUInt32 >>> ((((24 : Int32))).toUInt32 &&& Int32.toUInt32 31)).toInt32) := hd_o (hs 0 _ rfl) b82 rfl rfl
  have t84 : sy_dv F' (.inr (.inl 84)) = .int (((((sy_i F 82)).toUInt32 >>> ((((24 : Int32))).toUInt32 &&& Int32.toUInt32 31)).toInt32).toInt8.toInt32) := hd_u (hs 1 _ rfl) t83 rfl
  have t85 : sy_dv F' (.inr (.inl 85)) = .int ((((((sy_i F 82)).toUInt32 >>> ((((24 : Int32))).toUInt32 &&& Int32.toUInt32 31)).toInt32).toInt8.toInt32).toInt8.toInt32) := hd_u (hs 2 _ rfl) t84 rfl
  have a2 := hd_ba (F := F) (F' := F') (k := 2) (hF 2 (by decide))
  have t86 : sy_da F' (.inr (.inl 86)) = .inl (jm_upd (sy_ai F 2) (sy_i F 0).toNatClampNeg ((((((sy_i F 82)).toUInt32 >>> ((((24 : Int32))).toUInt32 &&& Int32.toUInt32 31)).toInt32).toInt8.toInt32).toInt8.toInt32)) := hd_up (hs 3 _ rfl) b0 t85 a2
  have hB' : iv_in F' iv_B0 := iv_in_eq hB (fun j hj => hF j (Nat.lt_of_lt_of_le hj (by decide +kernel)))
  refine ⟨List.forall_mem_cons.mpr ⟨hd_p5 rfl b0 (by have hc : ((2000) : Int32).toInt = 2000 := (by decide); omega), List.forall_mem_cons.mpr ⟨hd_pb b0 (by first | exact h1 | exact h1), List.forall_mem_cons.mpr ⟨hd_p4 rfl t87 (by have hc : ((2000) : Int32).toInt = 2000 := (by decide); omega), fun _ h => absurd h List.not_mem_nil⟩⟩⟩, ?_⟩
  refine k _ ?_ ?_ ?_
  · exact fun j hj hn => (hd_keep hB' (Nat.lt_of_lt_of_le hj (by decide +kernel)) (by simp; omega)).trans (hF j (Nat.lt_of_lt_of_le hj (by decide)))
  · exact hd_gi (x := .inr (.inl 87)) (by decide +kernel) t87
  · exact hd_ga (a := .inr (.inl 86)) (by decide +kernel) t86
theorem k1oap_0_p2 {Ls : Nat} {xs : Nat → Int32} {d : Nat} {Q : Option Value → jm_h → Prop} (hd : 1 ≤ d) (F : Nat → sy_d) (X1 X2 : List jm_c) (hB : iv_in F iv_B0)
    (h0 : (sy_i F 0).toInt < 2000)
    (h1 : 0 ≤ (sy_i F 0).toInt ∧ (sy_i F 0).toInt < 2000)
    (h2 : ((sy_i F 0) + ((1 : Int32))).toInt < 2000)
    (h3 : 0 ≤ ((sy_i F 0) + ((1 : Int32))).toInt ∧ ((sy_i F 0) + ((1 : Int32))).toInt < 2000)
    (h4 : 2000 ≤ (((sy_i F 0) + ((1 : Int32))) + ((1 : Int32))).toInt)
    (k : ∀ F1 : Nat → sy_d, (∀ j, j < 82 → j ≠ 0 ∧ j ≠ 2 → F1 j = F j) → F1 0 = .inl (.int (((sy_i F 0) + ((1 : Int32))) + ((1 : Int32)))) → F1 2 = .inr (.inl (jm_upd (jm_upd (sy_ai F 2) (sy_i F 0).toNatClampNeg ((((((sy_i F 82)).toUInt32 >>> ((((24 : Int32))).toUInt32 &&& Int32.toUInt32 31)).toInt32).toInt8.toInt32).toInt8.toInt32)) ((sy_i F 0) + ((1 : Int32))).toNatClampNeg ((((((sy_i F 82)).toUInt32 >>> ((((16 : Int32))).toUInt32 &&& Int32.toUInt32 31)).toInt32).toInt8.toInt32).toInt8.toInt32))) → Q (none) (sy_dh F1 X1 X2 (iv_H 1))) :
    hd_W Ls xs d jm_M116 Q (0, sy_dL F [some (.inl (.ref 8)), some (.inr (.inl 82)), none], sy_dS F [], sy_dh F X1 X2 (iv_H 1), 0, 0) := by
  refine hd_ret (s := 1) (nv := 83) (v := none) (uh := hd_ov (iv_id 0 iv_B0) [(0, .inl (.inr (.inl 92))), (2, .inr (.inr (.inl 91)))]) (f := true) (sp := []) (d0 := 0) (O := [false, false, true]) (T := [(8, [.inr (.inl 82), .inl (.int 24)], []), (22, [.inr (.inl 83)], []), (22, [.inr (.inl 84)], []), (40, [.inr (.inl 0), .inr (.inl 85)], [.inr (.inl 2)]), (0, [.inr (.inl 0), .inl (.int 1)], []), (8, [.inr (.inl 82), .inl (.int 16)], []), (22, [.inr (.inl 88)], []), (22, [.inr (.inl 89)], []), (40, [.inr (.inl 87), .inr (.inl 90)], [.inr (.inl 86)]), (0, [.inr (.inl 87), .inl (.int 1)], [])]) (P := [(5, .inl (.int 2000), .inr (.inl 0)), (6, .inr (.inl 0), .inl (.ref 2000)), (5, .inl (.int 2000), .inr (.inl 87)), (6, .inr (.inl 87), .inl (.ref 2000)), (4, .inl (.int 2000), .inr (.inl 92))]) jm_ok116 (by decide +kernel) (by decide +kernel) hd F X1 X2 (fun F' hF hs => ?_)
  have b0 := hd_b (F := F) (F' := F') (k := 0) (hF 0 (by decide))
  have t87 : sy_dv F' (.inr (.inl 87)) = .int ((sy_i F 0) + ((1 : Int32))) := hd_o (hs 4 _ rfl) b0 rfl rfl
  have t92 : sy_dv F' (.inr (.inl 92)) = .int (((sy_i F 0) + ((1 : Int32))) + ((1 : Int32))) := hd_o (hs 9 _ rfl) t87 rfl rfl
  have b82 := hd_b (F := F) (F' := F') (k := 82) (hF 82 (by decide))
  have t88 : sy_dv F' (.inr (.inl 88)) = .int ((((sy_i F 82)).toUInt32 >>> ((((16 : Int32))).toUInt32 &&& Int32.toUInt32 31)).toInt32) := hd_o (hs 5 _ rfl) b82 rfl rfl
  have t89 : sy_dv F' (.inr (.inl 89)) = .int (((((sy_i F 82)).toUInt32 >>> ((((16 : Int32))).toUInt32 &&& Int32.toUInt32 31)).toInt32).toInt8.toInt32) := hd_u (hs 6 _ rfl) t88 rfl
  have t90 : sy_dv F' (.inr (.inl 90)) = .int ((((((sy_i F 82)).toUInt32 >>> ((((16 : Int32))).toUInt32 &&& Int32.toUInt32 31)).toInt32).toInt8.toInt32).toInt8.toInt32) := hd_u (hs 7 _ rfl) t89 rfl
  have t83 : sy_dv F' (.inr (.inl 83)) = .int ((((sy_i F 82)).toUInt32 >>> ((((24 : Int32))).toUInt32 &&& Int32.toUInt32 31)).toInt32) := hd_o (hs 0 _ rfl) b82 rfl rfl
  have t84 : sy_dv F' (.inr (.inl 84)) = .int (((((sy_i F 82)).toUInt32 >>> ((((24 : Int32))).toUInt32 &&& Int32.toUInt32 31)).toInt32).toInt8.toInt32) := hd_u (hs 1 _ rfl) t83 rfl
  have t85 : sy_dv F' (.inr (.inl 85)) = .int ((((((sy_i F 82)).toUInt32 >>> ((((24 : Int32))).toUInt32 &&& Int32.toUInt32 31)).toInt32).toInt8.toInt32).toInt8.toInt32) := hd_u (hs 2 _ rfl) t84 rfl
  have a2 := hd_ba (F := F) (F' := F') (k := 2) (hF 2 (by decide))
  have t86 : sy_da F' (.inr (.inl 86)) = .inl (jm_upd (sy_ai F 2) (sy_i F 0).toNatClampNeg ((((((sy_i F 82)).toUInt32 >>> ((((24 : Int32))).toUInt32 &&& Int32.toUInt32 31)).toInt32).toInt8.toInt32).toInt8.toInt32)) := hd_up (hs 3 _ rfl) b0 t85 a2
  have t91 : sy_da F' (.inr (.inl 91)) = .inl (jm_upd (jm_upd (sy_ai F 2) (sy_i F 0).toNatClampNeg ((((((sy_i F 82)).toUInt32 >>> ((((24 : Int32))).toUInt32 &&& Int32.toUInt32 31)).toInt32).toInt8.toInt32).toInt8.toInt32)) ((sy_i F 0) + ((1 : Int32))).toNatClampNeg ((((((sy_i F 82)).toUInt32 >>> ((((16 : Int32))).toUInt32 &&& Int32.toUInt32 31)).toInt32).toInt8.toInt32).toInt8.toInt32)) := hd_up (hs 8 _ rfl) t87 t90 t86
  have hB' : iv_in F' iv_B0 := iv_in_eq hB (fun j hj => hF j (Nat.lt_of_lt_of_le hj (by decide +kernel)))
  refine ⟨List.forall_mem_cons.mpr ⟨hd_p5 rfl b0 (by have hc : ((2000) : Int32).toInt = 2000 := (by decide); omega), List.forall_mem_cons.mpr ⟨hd_pb b0 (by first | exact h1 | exact h1), List.forall_mem_cons.mpr ⟨hd_p5 rfl t87 (by have hc : ((2000) : Int32).toInt = 2000 := (by decide); omega), List.forall_mem_cons.mpr ⟨hd_pb t87 (by first | exact h3 | exact h3), List.forall_mem_cons.mpr ⟨hd_p4 rfl t92 (by have hc : ((2000) : Int32).toInt = 2000 := (by decide); omega), fun _ h => absurd h List.not_mem_nil⟩⟩⟩⟩⟩, ?_⟩
  refine k _ ?_ ?_ ?_
  · exact fun j hj hn => (hd_keep hB' (Nat.lt_of_lt_of_le hj (by decide +kernel)) (by simp; omega)).trans (hF j (Nat.lt_of_lt_of_le hj (by decide)))
  · exact hd_gi (x := .inr (.inl 92)) (by decide +kernel) t92
  · exact hd_ga (a := .inr (.inl 91)) (by decide +kernel) t91
theorem k1oap_0_p3 {Ls : Nat} {xs : Nat → Int32} {d : Nat} {Q : Option Value → jm_h → Prop} (hd : 1 ≤ d) (F : Nat → sy_d) (X1 X2 : List jm_c) (hB : iv_in F iv_B0)
    (h0 : (sy_i F 0).toInt < 2000)
    (h1 : 0 ≤ (sy_i F 0).toInt ∧ (sy_i F 0).toInt < 2000)
    (h2 : ((sy_i F 0) + ((1 : Int32))).toInt < 2000)
    (h3 : 0 ≤ ((sy_i F 0) + ((1 : Int32))).toInt ∧ ((sy_i F 0) + ((1 : Int32))).toInt < 2000)
    (h4 : (((sy_i F 0) + ((1 : Int32))) + ((1 : Int32))).toInt < 2000)
    (h5 : 0 ≤ (((sy_i F 0) + ((1 : Int32))) + ((1 : Int32))).toInt ∧ (((sy_i F 0) + ((1 : Int32))) + ((1 : Int32))).toInt < 2000)
    (h6 : 2000 ≤ ((((sy_i F 0) + ((1 : Int32))) + ((1 : Int32))) + ((1 : Int32))).toInt)
    (k : ∀ F1 : Nat → sy_d, (∀ j, j < 82 → j ≠ 0 ∧ j ≠ 2 → F1 j = F j) → F1 0 = .inl (.int ((((sy_i F 0) + ((1 : Int32))) + ((1 : Int32))) + ((1 : Int32)))) → F1 2 = .inr (.inl (jm_upd (jm_upd (jm_upd (sy_ai F 2) (sy_i F 0).toNatClampNeg ((((((sy_i F 82)).toUInt32 >>> ((((24 : Int32))).toUInt32 &&& Int32.toUInt32 31)).toInt32).toInt8.toInt32).toInt8.toInt32)) ((sy_i F 0) + ((1 : Int32))).toNatClampNeg ((((((sy_i F 82)).toUInt32 >>> ((((16 : Int32))).toUInt32 &&& Int32.toUInt32 31)).toInt32).toInt8.toInt32).toInt8.toInt32)) (((sy_i F 0) + ((1 : Int32))) + ((1 : Int32))).toNatClampNeg ((((((sy_i F 82)).toUInt32 >>> ((((8 : Int32))).toUInt32 &&& Int32.toUInt32 31)).toInt32).toInt8.toInt32).toInt8.toInt32))) → Q (none) (sy_dh F1 X1 X2 (iv_H 1))) :
    hd_W Ls xs d jm_M116 Q (0, sy_dL F [some (.inl (.ref 8)), some (.inr (.inl 82)), none], sy_dS F [], sy_dh F X1 X2 (iv_H 1), 0, 0) := by
  refine hd_ret (s := 1) (nv := 83) (v := none) (uh := hd_ov (iv_id 0 iv_B0) [(0, .inl (.inr (.inl 97))), (2, .inr (.inr (.inl 96)))]) (f := true) (sp := []) (d0 := 0) (O := [false, false, false, true]) (T := [(8, [.inr (.inl 82), .inl (.int 24)], []), (22, [.inr (.inl 83)], []), (22, [.inr (.inl 84)], []), (40, [.inr (.inl 0), .inr (.inl 85)], [.inr (.inl 2)]), (0, [.inr (.inl 0), .inl (.int 1)], []), (8, [.inr (.inl 82), .inl (.int 16)], []), (22, [.inr (.inl 88)], []), (22, [.inr (.inl 89)], []), (40, [.inr (.inl 87), .inr (.inl 90)], [.inr (.inl 86)]), (0, [.inr (.inl 87), .inl (.int 1)], []), (8, [.inr (.inl 82), .inl (.int 8)], []), (22, [.inr (.inl 93)], []), (22, [.inr (.inl 94)], []), (40, [.inr (.inl 92), .inr (.inl 95)], [.inr (.inl 91)]), (0, [.inr (.inl 92), .inl (.int 1)], [])]) (P := [(5, .inl (.int 2000), .inr (.inl 0)), (6, .inr (.inl 0), .inl (.ref 2000)), (5, .inl (.int 2000), .inr (.inl 87)), (6, .inr (.inl 87), .inl (.ref 2000)), (5, .inl (.int 2000), .inr (.inl 92)), (6, .inr (.inl 92), .inl (.ref 2000)), (4, .inl (.int 2000), .inr (.inl 97))]) jm_ok116 (by decide +kernel) (by decide +kernel) hd F X1 X2 (fun F' hF hs => ?_)
  have b0 := hd_b (F := F) (F' := F') (k := 0) (hF 0 (by decide))
  have t87 : sy_dv F' (.inr (.inl 87)) = .int ((sy_i F 0) + ((1 : Int32))) := hd_o (hs 4 _ rfl) b0 rfl rfl
  have t92 : sy_dv F' (.inr (.inl 92)) = .int (((sy_i F 0) + ((1 : Int32))) + ((1 : Int32))) := hd_o (hs 9 _ rfl) t87 rfl rfl
  have t97 : sy_dv F' (.inr (.inl 97)) = .int ((((sy_i F 0) + ((1 : Int32))) + ((1 : Int32))) + ((1 : Int32))) := hd_o (hs 14 _ rfl) t92 rfl rfl
  have b82 := hd_b (F := F) (F' := F') (k := 82) (hF 82 (by decide))
  have t93 : sy_dv F' (.inr (.inl 93)) = .int ((((sy_i F 82)).toUInt32 >>> ((((8 : Int32))).toUInt32 &&& Int32.toUInt32 31)).toInt32) := hd_o (hs 10 _ rfl) b82 rfl rfl
  have t94 : sy_dv F' (.inr (.inl 94)) = .int (((((sy_i F 82)).toUInt32 >>> ((((8 : Int32))).toUInt32 &&& Int32.toUInt32 31)).toInt32).toInt8.toInt32) := hd_u (hs 11 _ rfl) t93 rfl
  have t95 : sy_dv F' (.inr (.inl 95)) = .int ((((((sy_i F 82)).toUInt32 >>> ((((8 : Int32))).toUInt32 &&& Int32.toUInt32 31)).toInt32).toInt8.toInt32).toInt8.toInt32) := hd_u (hs 12 _ rfl) t94 rfl
  have t88 : sy_dv F' (.inr (.inl 88)) = .int ((((sy_i F 82)).toUInt32 >>> ((((16 : Int32))).toUInt32 &&& Int32.toUInt32 31)).toInt32) := hd_o (hs 5 _ rfl) b82 rfl rfl
  have t89 : sy_dv F' (.inr (.inl 89)) = .int (((((sy_i F 82)).toUInt32 >>> ((((16 : Int32))).toUInt32 &&& Int32.toUInt32 31)).toInt32).toInt8.toInt32) := hd_u (hs 6 _ rfl) t88 rfl
  have t90 : sy_dv F' (.inr (.inl 90)) = .int ((((((sy_i F 82)).toUInt32 >>> ((((16 : Int32))).toUInt32 &&& Int32.toUInt32 31)).toInt32).toInt8.toInt32).toInt8.toInt32) := hd_u (hs 7 _ rfl) t89 rfl
  have t83 : sy_dv F' (.inr (.inl 83)) = .int ((((sy_i F 82)).toUInt32 >>> ((((24 : Int32))).toUInt32 &&& Int32.toUInt32 31)).toInt32) := hd_o (hs 0 _ rfl) b82 rfl rfl
  have t84 : sy_dv F' (.inr (.inl 84)) = .int (((((sy_i F 82)).toUInt32 >>> ((((24 : Int32))).toUInt32 &&& Int32.toUInt32 31)).toInt32).toInt8.toInt32) := hd_u (hs 1 _ rfl) t83 rfl
  have t85 : sy_dv F' (.inr (.inl 85)) = .int ((((((sy_i F 82)).toUInt32 >>> ((((24 : Int32))).toUInt32 &&& Int32.toUInt32 31)).toInt32).toInt8.toInt32).toInt8.toInt32) := hd_u (hs 2 _ rfl) t84 rfl
  have a2 := hd_ba (F := F) (F' := F') (k := 2) (hF 2 (by decide))
  have t86 : sy_da F' (.inr (.inl 86)) = .inl (jm_upd (sy_ai F 2) (sy_i F 0).toNatClampNeg ((((((sy_i F 82)).toUInt32 >>> ((((24 : Int32))).toUInt32 &&& Int32.toUInt32 31)).toInt32).toInt8.toInt32).toInt8.toInt32)) := hd_up (hs 3 _ rfl) b0 t85 a2
  have t91 : sy_da F' (.inr (.inl 91)) = .inl (jm_upd (jm_upd (sy_ai F 2) (sy_i F 0).toNatClampNeg ((((((sy_i F 82)).toUInt32 >>> ((((24 : Int32))).toUInt32 &&& Int32.toUInt32 31)).toInt32).toInt8.toInt32).toInt8.toInt32)) ((sy_i F 0) + ((1 : Int32))).toNatClampNeg ((((((sy_i F 82)).toUInt32 >>> ((((16 : Int32))).toUInt32 &&& Int32.toUInt32 31)).toInt32).toInt8.toInt32).toInt8.toInt32)) := hd_up (hs 8 _ rfl) t87 t90 t86
  have t96 : sy_da F' (.inr (.inl 96)) = .inl (jm_upd (jm_upd (jm_upd (sy_ai F 2) (sy_i F 0).toNatClampNeg ((((((sy_i F 82)).toUInt32 >>> ((((24 : Int32))).toUInt32 &&& Int32.toUInt32 31)).toInt32).toInt8.toInt32).toInt8.toInt32)) ((sy_i F 0) + ((1 : Int32))).toNatClampNeg ((((((sy_i F 82)).toUInt32 >>> ((((16 : Int32))).toUInt32 &&& Int32.toUInt32 31)).toInt32).toInt8.toInt32).toInt8.toInt32)) (((sy_i F 0) + ((1 : Int32))) + ((1 : Int32))).toNatClampNeg ((((((sy_i F 82)).toUInt32 >>> ((((8 : Int32))).toUInt32 &&& Int32.toUInt32 31)).toInt32).toInt8.toInt32).toInt8.toInt32)) := hd_up (hs 13 _ rfl) t92 t95 t91
  have hB' : iv_in F' iv_B0 := iv_in_eq hB (fun j hj => hF j (Nat.lt_of_lt_of_le hj (by decide +kernel)))
  refine ⟨List.forall_mem_cons.mpr ⟨hd_p5 rfl b0 (by have hc : ((2000) : Int32).toInt = 2000 := (by decide); omega), List.forall_mem_cons.mpr ⟨hd_pb b0 (by first | exact h1 | exact h1), List.forall_mem_cons.mpr ⟨hd_p5 rfl t87 (by have hc : ((2000) : Int32).toInt = 2000 := (by decide); omega), List.forall_mem_cons.mpr ⟨hd_pb t87 (by first | exact h3 | exact h3), List.forall_mem_cons.mpr ⟨hd_p5 rfl t92 (by have hc : ((2000) : Int32).toInt = 2000 := (by decide); omega), List.forall_mem_cons.mpr ⟨hd_pb t92 (by first | exact h5 | exact h5), List.forall_mem_cons.mpr ⟨hd_p4 rfl t97 (by have hc : ((2000) : Int32).toInt = 2000 := (by decide); omega), fun _ h => absurd h List.not_mem_nil⟩⟩⟩⟩⟩⟩⟩, ?_⟩
  refine k _ ?_ ?_ ?_
  · exact fun j hj hn => (hd_keep hB' (Nat.lt_of_lt_of_le hj (by decide +kernel)) (by simp; omega)).trans (hF j (Nat.lt_of_lt_of_le hj (by decide)))
  · exact hd_gi (x := .inr (.inl 97)) (by decide +kernel) t97
  · exact hd_ga (a := .inr (.inl 96)) (by decide +kernel) t96
theorem k1oap_0_p4 {Ls : Nat} {xs : Nat → Int32} {d : Nat} {Q : Option Value → jm_h → Prop} (hd : 1 ≤ d) (F : Nat → sy_d) (X1 X2 : List jm_c) (hB : iv_in F iv_B0)
    (h0 : (sy_i F 0).toInt < 2000)
    (h1 : 0 ≤ (sy_i F 0).toInt ∧ (sy_i F 0).toInt < 2000)
    (h2 : ((sy_i F 0) + ((1 : Int32))).toInt < 2000)
    (h3 : 0 ≤ ((sy_i F 0) + ((1 : Int32))).toInt ∧ ((sy_i F 0) + ((1 : Int32))).toInt < 2000)
    (h4 : (((sy_i F 0) + ((1 : Int32))) + ((1 : Int32))).toInt < 2000)
    (h5 : 0 ≤ (((sy_i F 0) + ((1 : Int32))) + ((1 : Int32))).toInt ∧ (((sy_i F 0) + ((1 : Int32))) + ((1 : Int32))).toInt < 2000)
    (h6 : ((((sy_i F 0) + ((1 : Int32))) + ((1 : Int32))) + ((1 : Int32))).toInt < 2000)
    (h7 : 0 ≤ ((((sy_i F 0) + ((1 : Int32))) + ((1 : Int32))) + ((1 : Int32))).toInt ∧ ((((sy_i F 0) + ((1 : Int32))) + ((1 : Int32))) + ((1 : Int32))).toInt < 2000)
    (k : ∀ F1 : Nat → sy_d, (∀ j, j < 82 → j ≠ 0 ∧ j ≠ 2 → F1 j = F j) → F1 0 = .inl (.int (((((sy_i F 0) + ((1 : Int32))) + ((1 : Int32))) + ((1 : Int32))) + ((1 : Int32)))) → F1 2 = .inr (.inl (jm_upd (jm_upd (jm_upd (jm_upd (sy_ai F 2) (sy_i F 0).toNatClampNeg ((((((sy_i F 82)).toUInt32 >>> ((((24 : Int32))).toUInt32 &&& Int32.toUInt32 31)).toInt32).toInt8.toInt32).toInt8.toInt32)) ((sy_i F 0) + ((1 : Int32))).toNatClampNeg ((((((sy_i F 82)).toUInt32 >>> ((((16 : Int32))).toUInt32 &&& Int32.toUInt32 31)).toInt32).toInt8.toInt32).toInt8.toInt32)) (((sy_i F 0) + ((1 : Int32))) + ((1 : Int32))).toNatClampNeg ((((((sy_i F 82)).toUInt32 >>> ((((8 : Int32))).toUInt32 &&& Int32.toUInt32 31)).toInt32).toInt8.toInt32).toInt8.toInt32)) ((((sy_i F 0) + ((1 : Int32))) + ((1 : Int32))) + ((1 : Int32))).toNatClampNeg ((((((sy_i F 82)).toUInt32 >>> ((((0 : Int32))).toUInt32 &&& Int32.toUInt32 31)).toInt32).toInt8.toInt32).toInt8.toInt32))) → Q (none) (sy_dh F1 X1 X2 (iv_H 1))) :
    hd_W Ls xs d jm_M116 Q (0, sy_dL F [some (.inl (.ref 8)), some (.inr (.inl 82)), none], sy_dS F [], sy_dh F X1 X2 (iv_H 1), 0, 0) := by
  refine hd_ret (s := 1) (nv := 83) (v := none) (uh := hd_ov (iv_id 0 iv_B0) [(0, .inl (.inr (.inl 102))), (2, .inr (.inr (.inl 101)))]) (f := true) (sp := []) (d0 := 0) (O := [false, false, false, false]) (T := [(8, [.inr (.inl 82), .inl (.int 24)], []), (22, [.inr (.inl 83)], []), (22, [.inr (.inl 84)], []), (40, [.inr (.inl 0), .inr (.inl 85)], [.inr (.inl 2)]), (0, [.inr (.inl 0), .inl (.int 1)], []), (8, [.inr (.inl 82), .inl (.int 16)], []), (22, [.inr (.inl 88)], []), (22, [.inr (.inl 89)], []), (40, [.inr (.inl 87), .inr (.inl 90)], [.inr (.inl 86)]), (0, [.inr (.inl 87), .inl (.int 1)], []), (8, [.inr (.inl 82), .inl (.int 8)], []), (22, [.inr (.inl 93)], []), (22, [.inr (.inl 94)], []), (40, [.inr (.inl 92), .inr (.inl 95)], [.inr (.inl 91)]), (0, [.inr (.inl 92), .inl (.int 1)], []), (8, [.inr (.inl 82), .inl (.int 0)], []), (22, [.inr (.inl 98)], []), (22, [.inr (.inl 99)], []), (40, [.inr (.inl 97), .inr (.inl 100)], [.inr (.inl 96)]), (0, [.inr (.inl 97), .inl (.int 1)], [])]) (P := [(5, .inl (.int 2000), .inr (.inl 0)), (6, .inr (.inl 0), .inl (.ref 2000)), (5, .inl (.int 2000), .inr (.inl 87)), (6, .inr (.inl 87), .inl (.ref 2000)), (5, .inl (.int 2000), .inr (.inl 92)), (6, .inr (.inl 92), .inl (.ref 2000)), (5, .inl (.int 2000), .inr (.inl 97)), (6, .inr (.inl 97), .inl (.ref 2000))]) jm_ok116 (by decide +kernel) (by decide +kernel) hd F X1 X2 (fun F' hF hs => ?_)
  have b0 := hd_b (F := F) (F' := F') (k := 0) (hF 0 (by decide))
  have t87 : sy_dv F' (.inr (.inl 87)) = .int ((sy_i F 0) + ((1 : Int32))) := hd_o (hs 4 _ rfl) b0 rfl rfl
  have t92 : sy_dv F' (.inr (.inl 92)) = .int (((sy_i F 0) + ((1 : Int32))) + ((1 : Int32))) := hd_o (hs 9 _ rfl) t87 rfl rfl
  have t97 : sy_dv F' (.inr (.inl 97)) = .int ((((sy_i F 0) + ((1 : Int32))) + ((1 : Int32))) + ((1 : Int32))) := hd_o (hs 14 _ rfl) t92 rfl rfl
  have t102 : sy_dv F' (.inr (.inl 102)) = .int (((((sy_i F 0) + ((1 : Int32))) + ((1 : Int32))) + ((1 : Int32))) + ((1 : Int32))) := hd_o (hs 19 _ rfl) t97 rfl rfl
  have b82 := hd_b (F := F) (F' := F') (k := 82) (hF 82 (by decide))
  have t98 : sy_dv F' (.inr (.inl 98)) = .int ((((sy_i F 82)).toUInt32 >>> ((((0 : Int32))).toUInt32 &&& Int32.toUInt32 31)).toInt32) := hd_o (hs 15 _ rfl) b82 rfl rfl
  have t99 : sy_dv F' (.inr (.inl 99)) = .int (((((sy_i F 82)).toUInt32 >>> ((((0 : Int32))).toUInt32 &&& Int32.toUInt32 31)).toInt32).toInt8.toInt32) := hd_u (hs 16 _ rfl) t98 rfl
  have t100 : sy_dv F' (.inr (.inl 100)) = .int ((((((sy_i F 82)).toUInt32 >>> ((((0 : Int32))).toUInt32 &&& Int32.toUInt32 31)).toInt32).toInt8.toInt32).toInt8.toInt32) := hd_u (hs 17 _ rfl) t99 rfl
  have t93 : sy_dv F' (.inr (.inl 93)) = .int ((((sy_i F 82)).toUInt32 >>> ((((8 : Int32))).toUInt32 &&& Int32.toUInt32 31)).toInt32) := hd_o (hs 10 _ rfl) b82 rfl rfl
  have t94 : sy_dv F' (.inr (.inl 94)) = .int (((((sy_i F 82)).toUInt32 >>> ((((8 : Int32))).toUInt32 &&& Int32.toUInt32 31)).toInt32).toInt8.toInt32) := hd_u (hs 11 _ rfl) t93 rfl
  have t95 : sy_dv F' (.inr (.inl 95)) = .int ((((((sy_i F 82)).toUInt32 >>> ((((8 : Int32))).toUInt32 &&& Int32.toUInt32 31)).toInt32).toInt8.toInt32).toInt8.toInt32) := hd_u (hs 12 _ rfl) t94 rfl
  have t88 : sy_dv F' (.inr (.inl 88)) = .int ((((sy_i F 82)).toUInt32 >>> ((((16 : Int32))).toUInt32 &&& Int32.toUInt32 31)).toInt32) := hd_o (hs 5 _ rfl) b82 rfl rfl
  have t89 : sy_dv F' (.inr (.inl 89)) = .int (((((sy_i F 82)).toUInt32 >>> ((((16 : Int32))).toUInt32 &&& Int32.toUInt32 31)).toInt32).toInt8.toInt32) := hd_u (hs 6 _ rfl) t88 rfl
  have t90 : sy_dv F' (.inr (.inl 90)) = .int ((((((sy_i F 82)).toUInt32 >>> ((((16 : Int32))).toUInt32 &&& Int32.toUInt32 31)).toInt32).toInt8.toInt32).toInt8.toInt32) := hd_u (hs 7 _ rfl) t89 rfl
  have t83 : sy_dv F' (.inr (.inl 83)) = .int ((((sy_i F 82)).toUInt32 >>> ((((24 : Int32))).toUInt32 &&& Int32.toUInt32 31)).toInt32) := hd_o (hs 0 _ rfl) b82 rfl rfl
  have t84 : sy_dv F' (.inr (.inl 84)) = .int (((((sy_i F 82)).toUInt32 >>> ((((24 : Int32))).toUInt32 &&& Int32.toUInt32 31)).toInt32).toInt8.toInt32) := hd_u (hs 1 _ rfl) t83 rfl
  have t85 : sy_dv F' (.inr (.inl 85)) = .int ((((((sy_i F 82)).toUInt32 >>> ((((24 : Int32))).toUInt32 &&& Int32.toUInt32 31)).toInt32).toInt8.toInt32).toInt8.toInt32) := hd_u (hs 2 _ rfl) t84 rfl
  have a2 := hd_ba (F := F) (F' := F') (k := 2) (hF 2 (by decide))
  have t86 : sy_da F' (.inr (.inl 86)) = .inl (jm_upd (sy_ai F 2) (sy_i F 0).toNatClampNeg ((((((sy_i F 82)).toUInt32 >>> ((((24 : Int32))).toUInt32 &&& Int32.toUInt32 31)).toInt32).toInt8.toInt32).toInt8.toInt32)) := hd_up (hs 3 _ rfl) b0 t85 a2
  have t91 : sy_da F' (.inr (.inl 91)) = .inl (jm_upd (jm_upd (sy_ai F 2) (sy_i F 0).toNatClampNeg ((((((sy_i F 82)).toUInt32 >>> ((((24 : Int32))).toUInt32 &&& Int32.toUInt32 31)).toInt32).toInt8.toInt32).toInt8.toInt32)) ((sy_i F 0) + ((1 : Int32))).toNatClampNeg ((((((sy_i F 82)).toUInt32 >>> ((((16 : Int32))).toUInt32 &&& Int32.toUInt32 31)).toInt32).toInt8.toInt32).toInt8.toInt32)) := hd_up (hs 8 _ rfl) t87 t90 t86
  have t96 : sy_da F' (.inr (.inl 96)) = .inl (jm_upd (jm_upd (jm_upd (sy_ai F 2) (sy_i F 0).toNatClampNeg ((((((sy_i F 82)).toUInt32 >>> ((((24 : Int32))).toUInt32 &&& Int32.toUInt32 31)).toInt32).toInt8.toInt32).toInt8.toInt32)) ((sy_i F 0) + ((1 : Int32))).toNatClampNeg ((((((sy_i F 82)).toUInt32 >>> ((((16 : Int32))).toUInt32 &&& Int32.toUInt32 31)).toInt32).toInt8.toInt32).toInt8.toInt32)) (((sy_i F 0) + ((1 : Int32))) + ((1 : Int32))).toNatClampNeg ((((((sy_i F 82)).toUInt32 >>> ((((8 : Int32))).toUInt32 &&& Int32.toUInt32 31)).toInt32).toInt8.toInt32).toInt8.toInt32)) := hd_up (hs 13 _ rfl) t92 t95 t91
  have t101 : sy_da F' (.inr (.inl 101)) = .inl (jm_upd (jm_upd (jm_upd (jm_upd (sy_ai F 2) (sy_i F 0).toNatClampNeg ((((((sy_i F 82)).toUInt32 >>> ((((24 : Int32))).toUInt32 &&& Int32.toUInt32 31)).toInt32).toInt8.toInt32).toInt8.toInt32)) ((sy_i F 0) + ((1 : Int32))).toNatClampNeg ((((((sy_i F 82)).toUInt32 >>> ((((16 : Int32))).toUInt32 &&& Int32.toUInt32 31)).toInt32).toInt8.toInt32).toInt8.toInt32)) (((sy_i F 0) + ((1 : Int32))) + ((1 : Int32))).toNatClampNeg ((((((sy_i F 82)).toUInt32 >>> ((((8 : Int32))).toUInt32 &&& Int32.toUInt32 31)).toInt32).toInt8.toInt32).toInt8.toInt32)) ((((sy_i F 0) + ((1 : Int32))) + ((1 : Int32))) + ((1 : Int32))).toNatClampNeg ((((((sy_i F 82)).toUInt32 >>> ((((0 : Int32))).toUInt32 &&& Int32.toUInt32 31)).toInt32).toInt8.toInt32).toInt8.toInt32)) := hd_up (hs 18 _ rfl) t97 t100 t96
  have hB' : iv_in F' iv_B0 := iv_in_eq hB (fun j hj => hF j (Nat.lt_of_lt_of_le hj (by decide +kernel)))
  refine ⟨List.forall_mem_cons.mpr ⟨hd_p5 rfl b0 (by have hc : ((2000) : Int32).toInt = 2000 := (by decide); omega), List.forall_mem_cons.mpr ⟨hd_pb b0 (by first | exact h1 | exact h1), List.forall_mem_cons.mpr ⟨hd_p5 rfl t87 (by have hc : ((2000) : Int32).toInt = 2000 := (by decide); omega), List.forall_mem_cons.mpr ⟨hd_pb t87 (by first | exact h3 | exact h3), List.forall_mem_cons.mpr ⟨hd_p5 rfl t92 (by have hc : ((2000) : Int32).toInt = 2000 := (by decide); omega), List.forall_mem_cons.mpr ⟨hd_pb t92 (by first | exact h5 | exact h5), List.forall_mem_cons.mpr ⟨hd_p5 rfl t97 (by have hc : ((2000) : Int32).toInt = 2000 := (by decide); omega), List.forall_mem_cons.mpr ⟨hd_pb t97 (by first | exact h7 | exact h7), fun _ h => absurd h List.not_mem_nil⟩⟩⟩⟩⟩⟩⟩⟩, ?_⟩
  refine k _ ?_ ?_ ?_
  · exact fun j hj hn => (hd_keep hB' (Nat.lt_of_lt_of_le hj (by decide +kernel)) (by simp; omega)).trans (hF j (Nat.lt_of_lt_of_le hj (by decide)))
  · exact hd_gi (x := .inr (.inl 102)) (by decide +kernel) t102
  · exact hd_ga (a := .inr (.inl 101)) (by decide +kernel) t101
theorem k1oap_0 {Ls : Nat} {xs : Nat → Int32} {d : Nat} {Q : Option Value → jm_h → Prop} (hd : 1 ≤ d) (F : Nat → sy_d) (X1 X2 : List jm_c) (hB : iv_in F iv_B0)
    (k0 : 2000 ≤ (sy_i F 0).toInt → ∀ F1 : Nat → sy_d, iv_in F1 iv_B0 → (∀ j, j < 82 → j ∉ ([] : List Nat) → F1 j = F j) → (sy_i F1 0).toInt = (sy_i F 0).toInt → sy_ai F1 2 = sy_ai F 2 → Q (none) (sy_dh F1 X1 X2 (iv_H 1)))
    (k1 : (sy_i F 0).toInt < 2000 → 2000 ≤ ((sy_i F 0).toInt + 1) → ∀ F1 : Nat → sy_d, iv_in F1 iv_B0 → (∀ j, j < 82 → j ∉ ([0, 2] : List Nat) → F1 j = F j) → (sy_i F1 0).toInt = ((sy_i F 0).toInt + 1) → sy_ai F1 2 = jm_upd (sy_ai F 2) ((sy_i F 0).toInt).toNat ((((((sy_i F 82)).toUInt32 >>> ((((24 : Int32))).toUInt32 &&& Int32.toUInt32 31)).toInt32).toInt8.toInt32).toInt8.toInt32) → Q (none) (sy_dh F1 X1 X2 (iv_H 1)))
    (k2 : (sy_i F 0).toInt < 2000 → ((sy_i F 0).toInt + 1) < 2000 → 2000 ≤ (((sy_i F 0).toInt + 1) + 1) → ∀ F1 : Nat → sy_d, iv_in F1 iv_B0 → (∀ j, j < 82 → j ∉ ([0, 2] : List Nat) → F1 j = F j) → (sy_i F1 0).toInt = (((sy_i F 0).toInt + 1) + 1) → sy_ai F1 2 = jm_upd (jm_upd (sy_ai F 2) ((sy_i F 0).toInt).toNat ((((((sy_i F 82)).toUInt32 >>> ((((24 : Int32))).toUInt32 &&& Int32.toUInt32 31)).toInt32).toInt8.toInt32).toInt8.toInt32)) (((sy_i F 0).toInt + 1)).toNat ((((((sy_i F 82)).toUInt32 >>> ((((16 : Int32))).toUInt32 &&& Int32.toUInt32 31)).toInt32).toInt8.toInt32).toInt8.toInt32) → Q (none) (sy_dh F1 X1 X2 (iv_H 1)))
    (k3 : (sy_i F 0).toInt < 2000 → ((sy_i F 0).toInt + 1) < 2000 → (((sy_i F 0).toInt + 1) + 1) < 2000 → 2000 ≤ ((((sy_i F 0).toInt + 1) + 1) + 1) → ∀ F1 : Nat → sy_d, iv_in F1 iv_B0 → (∀ j, j < 82 → j ∉ ([0, 2] : List Nat) → F1 j = F j) → (sy_i F1 0).toInt = ((((sy_i F 0).toInt + 1) + 1) + 1) → sy_ai F1 2 = jm_upd (jm_upd (jm_upd (sy_ai F 2) ((sy_i F 0).toInt).toNat ((((((sy_i F 82)).toUInt32 >>> ((((24 : Int32))).toUInt32 &&& Int32.toUInt32 31)).toInt32).toInt8.toInt32).toInt8.toInt32)) (((sy_i F 0).toInt + 1)).toNat ((((((sy_i F 82)).toUInt32 >>> ((((16 : Int32))).toUInt32 &&& Int32.toUInt32 31)).toInt32).toInt8.toInt32).toInt8.toInt32)) ((((sy_i F 0).toInt + 1) + 1)).toNat ((((((sy_i F 82)).toUInt32 >>> ((((8 : Int32))).toUInt32 &&& Int32.toUInt32 31)).toInt32).toInt8.toInt32).toInt8.toInt32) → Q (none) (sy_dh F1 X1 X2 (iv_H 1)))
    (k4 : (sy_i F 0).toInt < 2000 → ((sy_i F 0).toInt + 1) < 2000 → (((sy_i F 0).toInt + 1) + 1) < 2000 → ((((sy_i F 0).toInt + 1) + 1) + 1) < 2000 → ∀ F1 : Nat → sy_d, iv_in F1 iv_B0 → (∀ j, j < 82 → j ∉ ([0, 2] : List Nat) → F1 j = F j) → (sy_i F1 0).toInt = (((((sy_i F 0).toInt + 1) + 1) + 1) + 1) → sy_ai F1 2 = jm_upd (jm_upd (jm_upd (jm_upd (sy_ai F 2) ((sy_i F 0).toInt).toNat ((((((sy_i F 82)).toUInt32 >>> ((((24 : Int32))).toUInt32 &&& Int32.toUInt32 31)).toInt32).toInt8.toInt32).toInt8.toInt32)) (((sy_i F 0).toInt + 1)).toNat ((((((sy_i F 82)).toUInt32 >>> ((((16 : Int32))).toUInt32 &&& Int32.toUInt32 31)).toInt32).toInt8.toInt32).toInt8.toInt32)) ((((sy_i F 0).toInt + 1) + 1)).toNat ((((((sy_i F 82)).toUInt32 >>> ((((8 : Int32))).toUInt32 &&& Int32.toUInt32 31)).toInt32).toInt8.toInt32).toInt8.toInt32)) (((((sy_i F 0).toInt + 1) + 1) + 1)).toNat ((((((sy_i F 82)).toUInt32 >>> ((((0 : Int32))).toUInt32 &&& Int32.toUInt32 31)).toInt32).toInt8.toInt32).toInt8.toInt32) → Q (none) (sy_dh F1 X1 X2 (iv_H 1))) :
    hd_W Ls xs d jm_M116 Q (0, sy_dL F [some (.inl (.ref 8)), some (.inr (.inl 82)), none], sy_dS F [], sy_dh F X1 X2 (iv_H 1), 0, 0) := by
  by_cases g0 : 2000 ≤ (sy_i F 0).toInt
  · have c0 := nz_bx hB (k := 0) (lo := 0) (hi := 2000) rfl
    exact k1oap_0_p0 hd F X1 X2 hB (by first | exact g0 | (simp only [nz_c]; exact g0)) (fun F1 g  => k0 g0 F1 (nz_in0 hB [] (fun j hj hn => g j hj (by simp only [List.mem_cons, List.not_mem_nil, or_false, not_or] at hn; exact trivial)) (List.forall_mem_nil _)) (fun j hj hn => g j hj (by simp only [List.mem_cons, List.not_mem_nil, or_false, not_or] at hn; exact trivial)) (nz_fi (g 0 (by decide) (by decide))) (nz_fa (g 2 (by decide) (by decide))))
  replace g0 : (sy_i F 0).toInt < 2000 := by omega
  by_cases g1 : 2000 ≤ ((sy_i F 0).toInt + 1)
  · have c0 := nz_bx hB (k := 0) (lo := 0) (hi := 2000) rfl
    have n87 : ((sy_i F 0) + ((1 : Int32))).toInt = ((sy_i F 0).toInt + 1) := nz_add (rfl : (sy_i F 0).toInt = (sy_i F 0).toInt) (by decide : ((1 : Int32)).toInt = 1) (by omega) (by omega)
    have n85 : ((((((sy_i F 82)).toUInt32 >>> ((((24 : Int32))).toUInt32 &&& Int32.toUInt32 31)).toInt32).toInt8.toInt32).toInt8.toInt32).toInt = ((((((sy_i F 82)).toUInt32 >>> ((((24 : Int32))).toUInt32 &&& Int32.toUInt32 31)).toInt32).toInt8.toInt32).toInt8.toInt32).toInt := congrArg Int32.toInt (rfl : (((((sy_i F 82)).toUInt32 >>> ((((24 : Int32))).toUInt32 &&& Int32.toUInt32 31)).toInt32).toInt8.toInt32).toInt8.toInt32 = (((((sy_i F 82)).toUInt32 >>> ((((24 : Int32))).toUInt32 &&& Int32.toUInt32 31)).toInt32).toInt8.toInt32).toInt8.toInt32)
    have r85 := nz_b8 (((((sy_i F 82)).toUInt32 >>> ((((24 : Int32))).toUInt32 &&& Int32.toUInt32 31)).toInt32).toInt8.toInt32)
    have w86 : jm_upd (sy_ai F 2) (sy_i F 0).toNatClampNeg ((((((sy_i F 82)).toUInt32 >>> ((((24 : Int32))).toUInt32 &&& Int32.toUInt32 31)).toInt32).toInt8.toInt32).toInt8.toInt32) = jm_upd (sy_ai F 2) ((sy_i F 0).toInt).toNat ((((((sy_i F 82)).toUInt32 >>> ((((24 : Int32))).toUInt32 &&& Int32.toUInt32 31)).toInt32).toInt8.toInt32).toInt8.toInt32) := by simp only [nz_c, (by decide : ((24 : Int32)).toInt = 24)]
    exact k1oap_0_p1 hd F X1 X2 hB (by first | exact g0 | (simp only [nz_c]; exact g0)) (by first | exact ⟨by omega, by omega⟩ | (simp only [nz_c]; exact ⟨by omega, by omega⟩)) (by first | exact g1 | (simp only [nz_c, n87]; exact g1) | (rw [n87]; exact g1)) (fun F1 g e0 e2 => k1 g0 g1 F1 (nz_in0 hB [0, 2] (fun j hj hn => g j hj (by simp only [List.mem_cons, List.not_mem_nil, or_false, not_or] at hn; omega)) (List.forall_mem_cons.mpr ⟨fun t ht => (Option.some.inj ht) ▸ (nz_hi e0 n87 (by omega) (by omega)), List.forall_mem_cons.mpr ⟨fun t ht => (Option.some.inj ht) ▸ (nz_hA e2 (nz_up (nz_ba hB (k := 2) (lo := (-128)) (hi := 127) rfl) n85 (by omega) (by omega))), List.forall_mem_nil _⟩⟩)) (fun j hj hn => g j hj (by simp only [List.mem_cons, List.not_mem_nil, or_false, not_or] at hn; omega)) ((congrArg Int32.toInt (zz_i e0)).trans n87) ((zz_ai e2).trans w86))
  replace g1 : ((sy_i F 0).toInt + 1) < 2000 := by omega
  by_cases g2 : 2000 ≤ (((sy_i F 0).toInt + 1) + 1)
  · have c0 := nz_bx hB (k := 0) (lo := 0) (hi := 2000) rfl
    have n87 : ((sy_i F 0) + ((1 : Int32))).toInt = ((sy_i F 0).toInt + 1) := nz_add (rfl : (sy_i F 0).toInt = (sy_i F 0).toInt) (by decide : ((1 : Int32)).toInt = 1) (by omega) (by omega)
    have n92 : (((sy_i F 0) + ((1 : Int32))) + ((1 : Int32))).toInt = (((sy_i F 0).toInt + 1) + 1) := nz_add n87 (by decide : ((1 : Int32)).toInt = 1) (by omega) (by omega)
    have n90 : ((((((sy_i F 82)).toUInt32 >>> ((((16 : Int32))).toUInt32 &&& Int32.toUInt32 31)).toInt32).toInt8.toInt32).toInt8.toInt32).toInt = ((((((sy_i F 82)).toUInt32 >>> ((((16 : Int32))).toUInt32 &&& Int32.toUInt32 31)).toInt32).toInt8.toInt32).toInt8.toInt32).toInt := congrArg Int32.toInt (rfl : (((((sy_i F 82)).toUInt32 >>> ((((16 : Int32))).toUInt32 &&& Int32.toUInt32 31)).toInt32).toInt8.toInt32).toInt8.toInt32 = (((((sy_i F 82)).toUInt32 >>> ((((16 : Int32))).toUInt32 &&& Int32.toUInt32 31)).toInt32).toInt8.toInt32).toInt8.toInt32)
    have r90 := nz_b8 (((((sy_i F 82)).toUInt32 >>> ((((16 : Int32))).toUInt32 &&& Int32.toUInt32 31)).toInt32).toInt8.toInt32)
    have n85 : ((((((sy_i F 82)).toUInt32 >>> ((((24 : Int32))).toUInt32 &&& Int32.toUInt32 31)).toInt32).toInt8.toInt32).toInt8.toInt32).toInt = ((((((sy_i F 82)).toUInt32 >>> ((((24 : Int32))).toUInt32 &&& Int32.toUInt32 31)).toInt32).toInt8.toInt32).toInt8.toInt32).toInt := congrArg Int32.toInt (rfl : (((((sy_i F 82)).toUInt32 >>> ((((24 : Int32))).toUInt32 &&& Int32.toUInt32 31)).toInt32).toInt8.toInt32).toInt8.toInt32 = (((((sy_i F 82)).toUInt32 >>> ((((24 : Int32))).toUInt32 &&& Int32.toUInt32 31)).toInt32).toInt8.toInt32).toInt8.toInt32)
    have r85 := nz_b8 (((((sy_i F 82)).toUInt32 >>> ((((24 : Int32))).toUInt32 &&& Int32.toUInt32 31)).toInt32).toInt8.toInt32)
    have w91 : jm_upd (jm_upd (sy_ai F 2) (sy_i F 0).toNatClampNeg ((((((sy_i F 82)).toUInt32 >>> ((((24 : Int32))).toUInt32 &&& Int32.toUInt32 31)).toInt32).toInt8.toInt32).toInt8.toInt32)) ((sy_i F 0) + ((1 : Int32))).toNatClampNeg ((((((sy_i F 82)).toUInt32 >>> ((((16 : Int32))).toUInt32 &&& Int32.toUInt32 31)).toInt32).toInt8.toInt32).toInt8.toInt32) = jm_upd (jm_upd (sy_ai F 2) ((sy_i F 0).toInt).toNat ((((((sy_i F 82)).toUInt32 >>> ((((24 : Int32))).toUInt32 &&& Int32.toUInt32 31)).toInt32).toInt8.toInt32).toInt8.toInt32)) (((sy_i F 0).toInt + 1)).toNat ((((((sy_i F 82)).toUInt32 >>> ((((16 : Int32))).toUInt32 &&& Int32.toUInt32 31)).toInt32).toInt8.toInt32).toInt8.toInt32) := by simp only [nz_c, n87, (by decide : ((1 : Int32)).toInt = 1), (by decide : ((16 : Int32)).toInt = 16), (by decide : ((24 : Int32)).toInt = 24)]
    exact k1oap_0_p2 hd F X1 X2 hB (by first | exact g0 | (simp only [nz_c]; exact g0)) (by first | exact ⟨by omega, by omega⟩ | (simp only [nz_c]; exact ⟨by omega, by omega⟩)) (by first | exact g1 | (simp only [nz_c, n87]; exact g1) | (rw [n87]; exact g1)) (by first | exact ⟨by omega, by omega⟩ | (simp only [nz_c, n87]; exact ⟨by omega, by omega⟩) | (rw [n87]; exact ⟨by omega, by omega⟩)) (by first | exact g2 | (simp only [nz_c, n87, n92]; exact g2) | (rw [n92]; exact g2)) (fun F1 g e0 e2 => k2 g0 g1 g2 F1 (nz_in0 hB [0, 2] (fun j hj hn => g j hj (by simp only [List.mem_cons, List.not_mem_nil, or_false, not_or] at hn; omega)) (List.forall_mem_cons.mpr ⟨fun t ht => (Option.some.inj ht) ▸ (nz_hi e0 n92 (by omega) (by omega)), List.forall_mem_cons.mpr ⟨fun t ht => (Option.some.inj ht) ▸ (nz_hA e2 (nz_up (nz_up (nz_ba hB (k := 2) (lo := (-128)) (hi := 127) rfl) n85 (by omega) (by omega)) n90 (by omega) (by omega))), List.forall_mem_nil _⟩⟩)) (fun j hj hn => g j hj (by simp only [List.mem_cons, List.not_mem_nil, or_false, not_or] at hn; omega)) ((congrArg Int32.toInt (zz_i e0)).trans n92) ((zz_ai e2).trans w91))
  replace g2 : (((sy_i F 0).toInt + 1) + 1) < 2000 := by omega
  by_cases g3 : 2000 ≤ ((((sy_i F 0).toInt + 1) + 1) + 1)
  · have c0 := nz_bx hB (k := 0) (lo := 0) (hi := 2000) rfl
    have n87 : ((sy_i F 0) + ((1 : Int32))).toInt = ((sy_i F 0).toInt + 1) := nz_add (rfl : (sy_i F 0).toInt = (sy_i F 0).toInt) (by decide : ((1 : Int32)).toInt = 1) (by omega) (by omega)
    have n92 : (((sy_i F 0) + ((1 : Int32))) + ((1 : Int32))).toInt = (((sy_i F 0).toInt + 1) + 1) := nz_add n87 (by decide : ((1 : Int32)).toInt = 1) (by omega) (by omega)
    have n97 : ((((sy_i F 0) + ((1 : Int32))) + ((1 : Int32))) + ((1 : Int32))).toInt = ((((sy_i F 0).toInt + 1) + 1) + 1) := nz_add n92 (by decide : ((1 : Int32)).toInt = 1) (by omega) (by omega)
    have n95 : ((((((sy_i F 82)).toUInt32 >>> ((((8 : Int32))).toUInt32 &&& Int32.toUInt32 31)).toInt32).toInt8.toInt32).toInt8.toInt32).toInt = ((((((sy_i F 82)).toUInt32 >>> ((((8 : Int32))).toUInt32 &&& Int32.toUInt32 31)).toInt32).toInt8.toInt32).toInt8.toInt32).toInt := congrArg Int32.toInt (rfl : (((((sy_i F 82)).toUInt32 >>> ((((8 : Int32))).toUInt32 &&& Int32.toUInt32 31)).toInt32).toInt8.toInt32).toInt8.toInt32 = (((((sy_i F 82)).toUInt32 >>> ((((8 : Int32))).toUInt32 &&& Int32.toUInt32 31)).toInt32).toInt8.toInt32).toInt8.toInt32)
    have r95 := nz_b8 (((((sy_i F 82)).toUInt32 >>> ((((8 : Int32))).toUInt32 &&& Int32.toUInt32 31)).toInt32).toInt8.toInt32)
    have n90 : ((((((sy_i F 82)).toUInt32 >>> ((((16 : Int32))).toUInt32 &&& Int32.toUInt32 31)).toInt32).toInt8.toInt32).toInt8.toInt32).toInt = ((((((sy_i F 82)).toUInt32 >>> ((((16 : Int32))).toUInt32 &&& Int32.toUInt32 31)).toInt32).toInt8.toInt32).toInt8.toInt32).toInt := congrArg Int32.toInt (rfl : (((((sy_i F 82)).toUInt32 >>> ((((16 : Int32))).toUInt32 &&& Int32.toUInt32 31)).toInt32).toInt8.toInt32).toInt8.toInt32 = (((((sy_i F 82)).toUInt32 >>> ((((16 : Int32))).toUInt32 &&& Int32.toUInt32 31)).toInt32).toInt8.toInt32).toInt8.toInt32)
    have r90 := nz_b8 (((((sy_i F 82)).toUInt32 >>> ((((16 : Int32))).toUInt32 &&& Int32.toUInt32 31)).toInt32).toInt8.toInt32)
    have n85 : ((((((sy_i F 82)).toUInt32 >>> ((((24 : Int32))).toUInt32 &&& Int32.toUInt32 31)).toInt32).toInt8.toInt32).toInt8.toInt32).toInt = ((((((sy_i F 82)).toUInt32 >>> ((((24 : Int32))).toUInt32 &&& Int32.toUInt32 31)).toInt32).toInt8.toInt32).toInt8.toInt32).toInt := congrArg Int32.toInt (rfl : (((((sy_i F 82)).toUInt32 >>> ((((24 : Int32))).toUInt32 &&& Int32.toUInt32 31)).toInt32).toInt8.toInt32).toInt8.toInt32 = (((((sy_i F 82)).toUInt32 >>> ((((24 : Int32))).toUInt32 &&& Int32.toUInt32 31)).toInt32).toInt8.toInt32).toInt8.toInt32)
    have r85 := nz_b8 (((((sy_i F 82)).toUInt32 >>> ((((24 : Int32))).toUInt32 &&& Int32.toUInt32 31)).toInt32).toInt8.toInt32)
    have w96 : jm_upd (jm_upd (jm_upd (sy_ai F 2) (sy_i F 0).toNatClampNeg ((((((sy_i F 82)).toUInt32 >>> ((((24 : Int32))).toUInt32 &&& Int32.toUInt32 31)).toInt32).toInt8.toInt32).toInt8.toInt32)) ((sy_i F 0) + ((1 : Int32))).toNatClampNeg ((((((sy_i F 82)).toUInt32 >>> ((((16 : Int32))).toUInt32 &&& Int32.toUInt32 31)).toInt32).toInt8.toInt32).toInt8.toInt32)) (((sy_i F 0) + ((1 : Int32))) + ((1 : Int32))).toNatClampNeg ((((((sy_i F 82)).toUInt32 >>> ((((8 : Int32))).toUInt32 &&& Int32.toUInt32 31)).toInt32).toInt8.toInt32).toInt8.toInt32) = jm_upd (jm_upd (jm_upd (sy_ai F 2) ((sy_i F 0).toInt).toNat ((((((sy_i F 82)).toUInt32 >>> ((((24 : Int32))).toUInt32 &&& Int32.toUInt32 31)).toInt32).toInt8.toInt32).toInt8.toInt32)) (((sy_i F 0).toInt + 1)).toNat ((((((sy_i F 82)).toUInt32 >>> ((((16 : Int32))).toUInt32 &&& Int32.toUInt32 31)).toInt32).toInt8.toInt32).toInt8.toInt32)) ((((sy_i F 0).toInt + 1) + 1)).toNat ((((((sy_i F 82)).toUInt32 >>> ((((8 : Int32))).toUInt32 &&& Int32.toUInt32 31)).toInt32).toInt8.toInt32).toInt8.toInt32) := by simp only [nz_c, n87, n92, (by decide : ((1 : Int32)).toInt = 1), (by decide : ((8 : Int32)).toInt = 8), (by decide : ((16 : Int32)).toInt = 16), (by decide : ((24 : Int32)).toInt = 24)]
    exact k1oap_0_p3 hd F X1 X2 hB (by first | exact g0 | (simp only [nz_c]; exact g0)) (by first | exact ⟨by omega, by omega⟩ | (simp only [nz_c]; exact ⟨by omega, by omega⟩)) (by first | exact g1 | (simp only [nz_c, n87]; exact g1) | (rw [n87]; exact g1)) (by first | exact ⟨by omega, by omega⟩ | (simp only [nz_c, n87]; exact ⟨by omega, by omega⟩) | (rw [n87]; exact ⟨by omega, by omega⟩)) (by first | exact g2 | (simp only [nz_c, n87, n92]; exact g2) | (rw [n92]; exact g2)) (by first | exact ⟨by omega, by omega⟩ | (simp only [nz_c, n87, n92]; exact ⟨by omega, by omega⟩) | (rw [n92]; exact ⟨by omega, by omega⟩)) (by first | exact g3 | (simp only [nz_c, n87, n92, n97]; exact g3) | (rw [n97]; exact g3)) (fun F1 g e0 e2 => k3 g0 g1 g2 g3 F1 (nz_in0 hB [0, 2] (fun j hj hn => g j hj (by simp only [List.mem_cons, List.not_mem_nil, or_false, not_or] at hn; omega)) (List.forall_mem_cons.mpr ⟨fun t ht => (Option.some.inj ht) ▸ (nz_hi e0 n97 (by omega) (by omega)), List.forall_mem_cons.mpr ⟨fun t ht => (Option.some.inj ht) ▸ (nz_hA e2 (nz_up (nz_up (nz_up (nz_ba hB (k := 2) (lo := (-128)) (hi := 127) rfl) n85 (by omega) (by omega)) n90 (by omega) (by omega)) n95 (by omega) (by omega))), List.forall_mem_nil _⟩⟩)) (fun j hj hn => g j hj (by simp only [List.mem_cons, List.not_mem_nil, or_false, not_or] at hn; omega)) ((congrArg Int32.toInt (zz_i e0)).trans n97) ((zz_ai e2).trans w96))
  replace g3 : ((((sy_i F 0).toInt + 1) + 1) + 1) < 2000 := by omega
  have c0 := nz_bx hB (k := 0) (lo := 0) (hi := 2000) rfl
  have n87 : ((sy_i F 0) + ((1 : Int32))).toInt = ((sy_i F 0).toInt + 1) := nz_add (rfl : (sy_i F 0).toInt = (sy_i F 0).toInt) (by decide : ((1 : Int32)).toInt = 1) (by omega) (by omega)
  have n92 : (((sy_i F 0) + ((1 : Int32))) + ((1 : Int32))).toInt = (((sy_i F 0).toInt + 1) + 1) := nz_add n87 (by decide : ((1 : Int32)).toInt = 1) (by omega) (by omega)
  have n97 : ((((sy_i F 0) + ((1 : Int32))) + ((1 : Int32))) + ((1 : Int32))).toInt = ((((sy_i F 0).toInt + 1) + 1) + 1) := nz_add n92 (by decide : ((1 : Int32)).toInt = 1) (by omega) (by omega)
  have n102 : (((((sy_i F 0) + ((1 : Int32))) + ((1 : Int32))) + ((1 : Int32))) + ((1 : Int32))).toInt = (((((sy_i F 0).toInt + 1) + 1) + 1) + 1) := nz_add n97 (by decide : ((1 : Int32)).toInt = 1) (by omega) (by omega)
  have n100 : ((((((sy_i F 82)).toUInt32 >>> ((((0 : Int32))).toUInt32 &&& Int32.toUInt32 31)).toInt32).toInt8.toInt32).toInt8.toInt32).toInt = ((((((sy_i F 82)).toUInt32 >>> ((((0 : Int32))).toUInt32 &&& Int32.toUInt32 31)).toInt32).toInt8.toInt32).toInt8.toInt32).toInt := congrArg Int32.toInt (rfl : (((((sy_i F 82)).toUInt32 >>> ((((0 : Int32))).toUInt32 &&& Int32.toUInt32 31)).toInt32).toInt8.toInt32).toInt8.toInt32 = (((((sy_i F 82)).toUInt32 >>> ((((0 : Int32))).toUInt32 &&& Int32.toUInt32 31)).toInt32).toInt8.toInt32).toInt8.toInt32)
  have r100 := nz_b8 (((((sy_i F 82)).toUInt32 >>> ((((0 : Int32))).toUInt32 &&& Int32.toUInt32 31)).toInt32).toInt8.toInt32)
  have n95 : ((((((sy_i F 82)).toUInt32 >>> ((((8 : Int32))).toUInt32 &&& Int32.toUInt32 31)).toInt32).toInt8.toInt32).toInt8.toInt32).toInt = ((((((sy_i F 82)).toUInt32 >>> ((((8 : Int32))).toUInt32 &&& Int32.toUInt32 31)).toInt32).toInt8.toInt32).toInt8.toInt32).toInt := congrArg Int32.toInt (rfl : (((((sy_i F 82)).toUInt32 >>> ((((8 : Int32))).toUInt32 &&& Int32.toUInt32 31)).toInt32).toInt8.toInt32).toInt8.toInt32 = (((((sy_i F 82)).toUInt32 >>> ((((8 : Int32))).toUInt32 &&& Int32.toUInt32 31)).toInt32).toInt8.toInt32).toInt8.toInt32)
  have r95 := nz_b8 (((((sy_i F 82)).toUInt32 >>> ((((8 : Int32))).toUInt32 &&& Int32.toUInt32 31)).toInt32).toInt8.toInt32)
  have n90 : ((((((sy_i F 82)).toUInt32 >>> ((((16 : Int32))).toUInt32 &&& Int32.toUInt32 31)).toInt32).toInt8.toInt32).toInt8.toInt32).toInt = ((((((sy_i F 82)).toUInt32 >>> ((((16 : Int32))).toUInt32 &&& Int32.toUInt32 31)).toInt32).toInt8.toInt32).toInt8.toInt32).toInt := congrArg Int32.toInt (rfl : (((((sy_i F 82)).toUInt32 >>> ((((16 : Int32))).toUInt32 &&& Int32.toUInt32 31)).toInt32).toInt8.toInt32).toInt8.toInt32 = (((((sy_i F 82)).toUInt32 >>> ((((16 : Int32))).toUInt32 &&& Int32.toUInt32 31)).toInt32).toInt8.toInt32).toInt8.toInt32)
  have r90 := nz_b8 (((((sy_i F 82)).toUInt32 >>> ((((16 : Int32))).toUInt32 &&& Int32.toUInt32 31)).toInt32).toInt8.toInt32)
  have n85 : ((((((sy_i F 82)).toUInt32 >>> ((((24 : Int32))).toUInt32 &&& Int32.toUInt32 31)).toInt32).toInt8.toInt32).toInt8.toInt32).toInt = ((((((sy_i F 82)).toUInt32 >>> ((((24 : Int32))).toUInt32 &&& Int32.toUInt32 31)).toInt32).toInt8.toInt32).toInt8.toInt32).toInt := congrArg Int32.toInt (rfl : (((((sy_i F 82)).toUInt32 >>> ((((24 : Int32))).toUInt32 &&& Int32.toUInt32 31)).toInt32).toInt8.toInt32).toInt8.toInt32 = (((((sy_i F 82)).toUInt32 >>> ((((24 : Int32))).toUInt32 &&& Int32.toUInt32 31)).toInt32).toInt8.toInt32).toInt8.toInt32)
  have r85 := nz_b8 (((((sy_i F 82)).toUInt32 >>> ((((24 : Int32))).toUInt32 &&& Int32.toUInt32 31)).toInt32).toInt8.toInt32)
  have w101 : jm_upd (jm_upd (jm_upd (jm_upd (sy_ai F 2) (sy_i F 0).toNatClampNeg ((((((sy_i F 82)).toUInt32 >>> ((((24 : Int32))).toUInt32 &&& Int32.toUInt32 31)).toInt32).toInt8.toInt32).toInt8.toInt32)) ((sy_i F 0) + ((1 : Int32))).toNatClampNeg ((((((sy_i F 82)).toUInt32 >>> ((((16 : Int32))).toUInt32 &&& Int32.toUInt32 31)).toInt32).toInt8.toInt32).toInt8.toInt32)) (((sy_i F 0) + ((1 : Int32))) + ((1 : Int32))).toNatClampNeg ((((((sy_i F 82)).toUInt32 >>> ((((8 : Int32))).toUInt32 &&& Int32.toUInt32 31)).toInt32).toInt8.toInt32).toInt8.toInt32)) ((((sy_i F 0) + ((1 : Int32))) + ((1 : Int32))) + ((1 : Int32))).toNatClampNeg ((((((sy_i F 82)).toUInt32 >>> ((((0 : Int32))).toUInt32 &&& Int32.toUInt32 31)).toInt32).toInt8.toInt32).toInt8.toInt32) = jm_upd (jm_upd (jm_upd (jm_upd (sy_ai F 2) ((sy_i F 0).toInt).toNat ((((((sy_i F 82)).toUInt32 >>> ((((24 : Int32))).toUInt32 &&& Int32.toUInt32 31)).toInt32).toInt8.toInt32).toInt8.toInt32)) (((sy_i F 0).toInt + 1)).toNat ((((((sy_i F 82)).toUInt32 >>> ((((16 : Int32))).toUInt32 &&& Int32.toUInt32 31)).toInt32).toInt8.toInt32).toInt8.toInt32)) ((((sy_i F 0).toInt + 1) + 1)).toNat ((((((sy_i F 82)).toUInt32 >>> ((((8 : Int32))).toUInt32 &&& Int32.toUInt32 31)).toInt32).toInt8.toInt32).toInt8.toInt32)) (((((sy_i F 0).toInt + 1) + 1) + 1)).toNat ((((((sy_i F 82)).toUInt32 >>> ((((0 : Int32))).toUInt32 &&& Int32.toUInt32 31)).toInt32).toInt8.toInt32).toInt8.toInt32) := by simp only [nz_c, n87, n92, n97, (by decide : ((0 : Int32)).toInt = 0), (by decide : ((1 : Int32)).toInt = 1), (by decide : ((8 : Int32)).toInt = 8), (by decide : ((16 : Int32)).toInt = 16), (by decide : ((24 : Int32)).toInt = 24)]
  exact k1oap_0_p4 hd F X1 X2 hB (by first | exact g0 | (simp only [nz_c]; exact g0)) (by first | exact ⟨by omega, by omega⟩ | (simp only [nz_c]; exact ⟨by omega, by omega⟩)) (by first | exact g1 | (simp only [nz_c, n87]; exact g1) | (rw [n87]; exact g1)) (by first | exact ⟨by omega, by omega⟩ | (simp only [nz_c, n87]; exact ⟨by omega, by omega⟩) | (rw [n87]; exact ⟨by omega, by omega⟩)) (by first | exact g2 | (simp only [nz_c, n87, n92]; exact g2) | (rw [n92]; exact g2)) (by first | exact ⟨by omega, by omega⟩ | (simp only [nz_c, n87, n92]; exact ⟨by omega, by omega⟩) | (rw [n92]; exact ⟨by omega, by omega⟩)) (by first | exact g3 | (simp only [nz_c, n87, n92, n97]; exact g3) | (rw [n97]; exact g3)) (by first | exact ⟨by omega, by omega⟩ | (simp only [nz_c, n87, n92, n97]; exact ⟨by omega, by omega⟩) | (rw [n97]; exact ⟨by omega, by omega⟩)) (fun F1 g e0 e2 => k4 g0 g1 g2 g3 F1 (nz_in0 hB [0, 2] (fun j hj hn => g j hj (by simp only [List.mem_cons, List.not_mem_nil, or_false, not_or] at hn; omega)) (List.forall_mem_cons.mpr ⟨fun t ht => (Option.some.inj ht) ▸ (nz_hi e0 n102 (by omega) (by omega)), List.forall_mem_cons.mpr ⟨fun t ht => (Option.some.inj ht) ▸ (nz_hA e2 (nz_up (nz_up (nz_up (nz_up (nz_ba hB (k := 2) (lo := (-128)) (hi := 127) rfl) n85 (by omega) (by omega)) n90 (by omega) (by omega)) n95 (by omega) (by omega)) n100 (by omega) (by omega))), List.forall_mem_nil _⟩⟩)) (fun j hj hn => g j hj (by simp only [List.mem_cons, List.not_mem_nil, or_false, not_or] at hn; omega)) ((congrArg Int32.toInt (zz_i e0)).trans n102) ((zz_ai e2).trans w101))
theorem k1ofd_0_p0 {Ls : Nat} {xs : Nat → Int32} {d : Nat} {Q : Option Value → jm_h → Prop} (hd : 2 ≤ d) (F : Nat → sy_d) (X1 X2 : List jm_c) (hB : iv_in F iv_B0)
    (h0 : ((sy_i F 0) + ((20 : Int32))).toInt ≤ 2000)
    (k : ∀ F1 : Nat → sy_d, (∀ j, j < 82 → True → F1 j = F j) → F1 82 = .inl (.int (sy_i F 82)) → F1 83 = .inl (.int (sy_i F 83)) → F1 84 = .inl (.int (sy_i F 84)) → F1 85 = .inl (.int (sy_i F 85)) → F1 86 = .inl (.int (sy_i F 86)) → hd_W Ls xs d jm_M81 Q (17, sy_dL F1 [some (.inl (.ref 8)), some (.inr (.inl 82)), some (.inr (.inl 83)), some (.inr (.inl 84)), some (.inr (.inl 85)), some (.inr (.inl 86))], sy_dS F1 [.inr (.inl 82), .inl (.ref 8)], sy_dh F1 X1 X2 (iv_H 1), 0, 0)) :
    hd_W Ls xs d jm_M81 Q (0, sy_dL F [some (.inl (.ref 8)), some (.inr (.inl 82)), some (.inr (.inl 83)), some (.inr (.inl 84)), some (.inr (.inl 85)), some (.inr (.inl 86))], sy_dS F [], sy_dh F X1 X2 (iv_H 1), 0, 0) := by
  refine hd_run (s := 1) (nv := 87) (pc := 17) (L := [some (.inl (.ref 8)), some (.inr (.inl 82)), some (.inr (.inl 83)), some (.inr (.inl 84)), some (.inr (.inl 85)), some (.inr (.inl 86))]) (S := [.inr (.inl 82), .inl (.ref 8)]) (uh := hd_ov (iv_id 0 iv_B0) []) (ul := [.inl (.inr (.inl 82)), .inl (.inr (.inl 83)), .inl (.inr (.inl 84)), .inl (.inr (.inl 85)), .inl (.inr (.inl 86))]) (f := true) (sp := [17]) (d0 := 1) (O := [true]) (T := [(0, [.inr (.inl 0), .inl (.int 20)], [])]) (P := [(4, .inr (.inl 87), .inl (.int 2000))]) jm_ok81 (by decide +kernel) (by decide +kernel) hd F X1 X2 (fun F' hF hs => ?_)
  have b0 := hd_b (F := F) (F' := F') (k := 0) (hF 0 (by decide))
  have t87 : sy_dv F' (.inr (.inl 87)) = .int ((sy_i F 0) + ((20 : Int32))) := hd_o (hs 0 _ rfl) b0 rfl rfl
  have b82 := hd_b (F := F) (F' := F') (k := 82) (hF 82 (by decide))
  have b83 := hd_b (F := F) (F' := F') (k := 83) (hF 83 (by decide))
  have b84 := hd_b (F := F) (F' := F') (k := 84) (hF 84 (by decide))
  have b85 := hd_b (F := F) (F' := F') (k := 85) (hF 85 (by decide))
  have b86 := hd_b (F := F) (F' := F') (k := 86) (hF 86 (by decide))
  have hB' : iv_in F' iv_B0 := iv_in_eq hB (fun j hj => hF j (Nat.lt_of_lt_of_le hj (by decide +kernel)))
  refine ⟨List.forall_mem_cons.mpr ⟨hd_p4 t87 rfl (by have hc : ((2000) : Int32).toInt = 2000 := (by decide); omega), fun _ h => absurd h List.not_mem_nil⟩, ?_⟩
  refine k _ ?_ ?_ ?_ ?_ ?_ ?_
  · exact fun j hj _ => (hd_keep hB' (Nat.lt_of_lt_of_le hj (by decide +kernel)) (by simp)).trans (hF j (Nat.lt_of_lt_of_le hj (by decide)))
  · exact hd_gi (x := .inr (.inl 82)) (by decide +kernel) b82
  · exact hd_gi (x := .inr (.inl 83)) (by decide +kernel) b83
  · exact hd_gi (x := .inr (.inl 84)) (by decide +kernel) b84
  · exact hd_gi (x := .inr (.inl 85)) (by decide +kernel) b85
  · exact hd_gi (x := .inr (.inl 86)) (by decide +kernel) b86
theorem k1ofd_0_p1 {Ls : Nat} {xs : Nat → Int32} {d : Nat} {Q : Option Value → jm_h → Prop} (hd : 2 ≤ d) (F : Nat → sy_d) (X1 X2 : List jm_c) (hB : iv_in F iv_B0)
    (h0 : 2000 < ((sy_i F 0) + ((20 : Int32))).toInt)
    (k : ∀ F1 : Nat → sy_d, (∀ j, j < 82 → True → F1 j = F j) → Q (some (.int (((-1) : Int32)))) (sy_dh F1 X1 X2 (iv_H 1))) :
    hd_W Ls xs d jm_M81 Q (0, sy_dL F [some (.inl (.ref 8)), some (.inr (.inl 82)), some (.inr (.inl 83)), some (.inr (.inl 84)), some (.inr (.inl 85)), some (.inr (.inl 86))], sy_dS F [], sy_dh F X1 X2 (iv_H 1), 0, 0) := by
  refine hd_ret (s := 1) (nv := 87) (v := some (.inl (.int (-1)))) (uh := hd_ov (iv_id 0 iv_B0) []) (f := true) (sp := [17]) (d0 := 1) (O := [false]) (T := [(0, [.inr (.inl 0), .inl (.int 20)], [])]) (P := [(5, .inr (.inl 87), .inl (.int 2000))]) jm_ok81 (by decide +kernel) (by decide +kernel) hd F X1 X2 (fun F' hF hs => ?_)
  have b0 := hd_b (F := F) (F' := F') (k := 0) (hF 0 (by decide))
  have t87 : sy_dv F' (.inr (.inl 87)) = .int ((sy_i F 0) + ((20 : Int32))) := hd_o (hs 0 _ rfl) b0 rfl rfl
  have hB' : iv_in F' iv_B0 := iv_in_eq hB (fun j hj => hF j (Nat.lt_of_lt_of_le hj (by decide +kernel)))
  refine ⟨List.forall_mem_cons.mpr ⟨hd_p5 t87 rfl (by have hc : ((2000) : Int32).toInt = 2000 := (by decide); omega), fun _ h => absurd h List.not_mem_nil⟩, ?_⟩
  refine k _ ?_
  · exact fun j hj _ => (hd_keep hB' (Nat.lt_of_lt_of_le hj (by decide +kernel)) (by simp)).trans (hF j (Nat.lt_of_lt_of_le hj (by decide)))
theorem k1ofd_0 {Ls : Nat} {xs : Nat → Int32} {d : Nat} {Q : Option Value → jm_h → Prop} (hd : 2 ≤ d) (F : Nat → sy_d) (X1 X2 : List jm_c) (hB : iv_in F iv_B0)
    (k0 : ((sy_i F 0).toInt + 20) ≤ 2000 → ∀ F1 : Nat → sy_d, iv_in F1 iv_B0 → (∀ j, j < 82 → j ∉ ([] : List Nat) → F1 j = F j) → (sy_i F1 0).toInt = (sy_i F 0).toInt → (sy_i F1 1).toInt = (sy_i F 1).toInt → (sy_i F1 79).toInt = (sy_i F 79).toInt → sy_ai F1 2 = sy_ai F 2 → sy_ai F1 78 = sy_ai F 78 → (sy_i F1 82).toInt = (sy_i F 82).toInt → (sy_i F1 83).toInt = (sy_i F 83).toInt → (sy_i F1 84).toInt = (sy_i F 84).toInt → (sy_i F1 85).toInt = (sy_i F 85).toInt → (sy_i F1 86).toInt = (sy_i F 86).toInt → hd_W Ls xs d jm_M81 Q (17, sy_dL F1 [some (.inl (.ref 8)), some (.inr (.inl 82)), some (.inr (.inl 83)), some (.inr (.inl 84)), some (.inr (.inl 85)), some (.inr (.inl 86))], sy_dS F1 [.inr (.inl 82), .inl (.ref 8)], sy_dh F1 X1 X2 (iv_H 1), 0, 0))
    (k1 : 2000 < ((sy_i F 0).toInt + 20) → ∀ F1 : Nat → sy_d, iv_in F1 iv_B0 → (∀ j, j < 82 → j ∉ ([] : List Nat) → F1 j = F j) → (sy_i F1 0).toInt = (sy_i F 0).toInt → (sy_i F1 1).toInt = (sy_i F 1).toInt → (sy_i F1 79).toInt = (sy_i F 79).toInt → sy_ai F1 2 = sy_ai F 2 → sy_ai F1 78 = sy_ai F 78 → Q (some (.int (((-1) : Int32)))) (sy_dh F1 X1 X2 (iv_H 1))) :
    hd_W Ls xs d jm_M81 Q (0, sy_dL F [some (.inl (.ref 8)), some (.inr (.inl 82)), some (.inr (.inl 83)), some (.inr (.inl 84)), some (.inr (.inl 85)), some (.inr (.inl 86))], sy_dS F [], sy_dh F X1 X2 (iv_H 1), 0, 0) := by
  by_cases g0 : ((sy_i F 0).toInt + 20) ≤ 2000
  · have c0 := nz_bx hB (k := 0) (lo := 0) (hi := 2000) rfl
    have n87 : ((sy_i F 0) + ((20 : Int32))).toInt = ((sy_i F 0).toInt + 20) := nz_add (rfl : (sy_i F 0).toInt = (sy_i F 0).toInt) (by decide : ((20 : Int32)).toInt = 20) (by omega) (by omega)
    exact k1ofd_0_p0 hd F X1 X2 hB (by first | exact g0 | (simp only [nz_c, n87]; exact g0) | (rw [n87]; exact g0)) (fun F1 g e82 e83 e84 e85 e86 => k0 g0 F1 (nz_in0 hB [] (fun j hj hn => g j hj (by simp only [List.mem_cons, List.not_mem_nil, or_false, not_or] at hn; exact trivial)) (List.forall_mem_nil _)) (fun j hj hn => g j hj (by simp only [List.mem_cons, List.not_mem_nil, or_false, not_or] at hn; exact trivial)) (nz_fi (g 0 (by decide) (by decide))) (nz_fi (g 1 (by decide) (by decide))) (nz_fi (g 79 (by decide) (by decide))) (nz_fa (g 2 (by decide) (by decide))) (nz_fa (g 78 (by decide) (by decide))) ((congrArg Int32.toInt (zz_i e82)).trans (rfl : (sy_i F 82).toInt = (sy_i F 82).toInt)) ((congrArg Int32.toInt (zz_i e83)).trans (rfl : (sy_i F 83).toInt = (sy_i F 83).toInt)) ((congrArg Int32.toInt (zz_i e84)).trans (rfl : (sy_i F 84).toInt = (sy_i F 84).toInt)) ((congrArg Int32.toInt (zz_i e85)).trans (rfl : (sy_i F 85).toInt = (sy_i F 85).toInt)) ((congrArg Int32.toInt (zz_i e86)).trans (rfl : (sy_i F 86).toInt = (sy_i F 86).toInt)))
  replace g0 : 2000 < ((sy_i F 0).toInt + 20) := by omega
  have c0 := nz_bx hB (k := 0) (lo := 0) (hi := 2000) rfl
  have n87 : ((sy_i F 0) + ((20 : Int32))).toInt = ((sy_i F 0).toInt + 20) := nz_add (rfl : (sy_i F 0).toInt = (sy_i F 0).toInt) (by decide : ((20 : Int32)).toInt = 20) (by omega) (by omega)
  exact k1ofd_0_p1 hd F X1 X2 hB (by first | exact g0 | (simp only [nz_c, n87]; exact g0) | (rw [n87]; exact g0)) (fun F1 g  => k1 g0 F1 (nz_in0 hB [] (fun j hj hn => g j hj (by simp only [List.mem_cons, List.not_mem_nil, or_false, not_or] at hn; exact trivial)) (List.forall_mem_nil _)) (fun j hj hn => g j hj (by simp only [List.mem_cons, List.not_mem_nil, or_false, not_or] at hn; exact trivial)) (nz_fi (g 0 (by decide) (by decide))) (nz_fi (g 1 (by decide) (by decide))) (nz_fi (g 79 (by decide) (by decide))) (nz_fa (g 2 (by decide) (by decide))) (nz_fa (g 78 (by decide) (by decide))))
theorem k1ofd_20_p0 {Ls : Nat} {xs : Nat → Int32} {d : Nat} {Q : Option Value → jm_h → Prop} (hd : 2 ≤ d) (F : Nat → sy_d) (X1 X2 : List jm_c) (hB : iv_in F iv_B0)
    (k : ∀ F1 : Nat → sy_d, (∀ j, j < 82 → True → F1 j = F j) → F1 82 = .inl (.int (sy_i F 82)) → F1 83 = .inl (.int (sy_i F 83)) → F1 84 = .inl (.int (sy_i F 84)) → F1 85 = .inl (.int (sy_i F 85)) → F1 86 = .inl (.int (sy_i F 86)) → hd_W Ls xs d jm_M81 Q (22, sy_dL F1 [some (.inl (.ref 8)), some (.inr (.inl 82)), some (.inr (.inl 83)), some (.inr (.inl 84)), some (.inr (.inl 85)), some (.inr (.inl 86))], sy_dS F1 [.inr (.inl 83), .inl (.ref 8)], sy_dh F1 X1 X2 (iv_H 1), 0, 0)) :
    hd_W Ls xs d jm_M81 Q (20, sy_dL F [some (.inl (.ref 8)), some (.inr (.inl 82)), some (.inr (.inl 83)), some (.inr (.inl 84)), some (.inr (.inl 85)), some (.inr (.inl 86))], sy_dS F [], sy_dh F X1 X2 (iv_H 1), 0, 0) := by
  refine hd_run (s := 1) (nv := 87) (pc := 22) (L := [some (.inl (.ref 8)), some (.inr (.inl 82)), some (.inr (.inl 83)), some (.inr (.inl 84)), some (.inr (.inl 85)), some (.inr (.inl 86))]) (S := [.inr (.inl 83), .inl (.ref 8)]) (uh := hd_ov (iv_id 0 iv_B0) []) (ul := [.inl (.inr (.inl 82)), .inl (.inr (.inl 83)), .inl (.inr (.inl 84)), .inl (.inr (.inl 85)), .inl (.inr (.inl 86))]) (f := false) (sp := [22]) (d0 := 1) (O := []) (T := []) (P := []) jm_ok81 (by decide +kernel) (by decide +kernel) hd F X1 X2 (fun F' hF hs => ?_)
  have b82 := hd_b (F := F) (F' := F') (k := 82) (hF 82 (by decide))
  have b83 := hd_b (F := F) (F' := F') (k := 83) (hF 83 (by decide))
  have b84 := hd_b (F := F) (F' := F') (k := 84) (hF 84 (by decide))
  have b85 := hd_b (F := F) (F' := F') (k := 85) (hF 85 (by decide))
  have b86 := hd_b (F := F) (F' := F') (k := 86) (hF 86 (by decide))
  have hB' : iv_in F' iv_B0 := iv_in_eq hB (fun j hj => hF j (Nat.lt_of_lt_of_le hj (by decide +kernel)))
  refine ⟨fun _ h => absurd h List.not_mem_nil, ?_⟩
  refine k _ ?_ ?_ ?_ ?_ ?_ ?_
  · exact fun j hj _ => (hd_keep hB' (Nat.lt_of_lt_of_le hj (by decide +kernel)) (by simp)).trans (hF j (Nat.lt_of_lt_of_le hj (by decide)))
  · exact hd_gi (x := .inr (.inl 82)) (by decide +kernel) b82
  · exact hd_gi (x := .inr (.inl 83)) (by decide +kernel) b83
  · exact hd_gi (x := .inr (.inl 84)) (by decide +kernel) b84
  · exact hd_gi (x := .inr (.inl 85)) (by decide +kernel) b85
  · exact hd_gi (x := .inr (.inl 86)) (by decide +kernel) b86
theorem k1ofd_20 {Ls : Nat} {xs : Nat → Int32} {d : Nat} {Q : Option Value → jm_h → Prop} (hd : 2 ≤ d) (F : Nat → sy_d) (X1 X2 : List jm_c) (hB : iv_in F iv_B0)
    (k0 : ∀ F1 : Nat → sy_d, iv_in F1 iv_B0 → (∀ j, j < 82 → j ∉ ([] : List Nat) → F1 j = F j) → (sy_i F1 0).toInt = (sy_i F 0).toInt → (sy_i F1 1).toInt = (sy_i F 1).toInt → (sy_i F1 79).toInt = (sy_i F 79).toInt → sy_ai F1 2 = sy_ai F 2 → sy_ai F1 78 = sy_ai F 78 → (sy_i F1 82).toInt = (sy_i F 82).toInt → (sy_i F1 83).toInt = (sy_i F 83).toInt → (sy_i F1 84).toInt = (sy_i F 84).toInt → (sy_i F1 85).toInt = (sy_i F 85).toInt → (sy_i F1 86).toInt = (sy_i F 86).toInt → hd_W Ls xs d jm_M81 Q (22, sy_dL F1 [some (.inl (.ref 8)), some (.inr (.inl 82)), some (.inr (.inl 83)), some (.inr (.inl 84)), some (.inr (.inl 85)), some (.inr (.inl 86))], sy_dS F1 [.inr (.inl 83), .inl (.ref 8)], sy_dh F1 X1 X2 (iv_H 1), 0, 0)) :
    hd_W Ls xs d jm_M81 Q (20, sy_dL F [some (.inl (.ref 8)), some (.inr (.inl 82)), some (.inr (.inl 83)), some (.inr (.inl 84)), some (.inr (.inl 85)), some (.inr (.inl 86))], sy_dS F [], sy_dh F X1 X2 (iv_H 1), 0, 0) := by
  exact k1ofd_20_p0 hd F X1 X2 hB  (fun F1 g e82 e83 e84 e85 e86 => k0 F1 (nz_in0 hB [] (fun j hj hn => g j hj (by simp only [List.mem_cons, List.not_mem_nil, or_false, not_or] at hn; exact trivial)) (List.forall_mem_nil _)) (fun j hj hn => g j hj (by simp only [List.mem_cons, List.not_mem_nil, or_false, not_or] at hn; exact trivial)) (nz_fi (g 0 (by decide) (by decide))) (nz_fi (g 1 (by decide) (by decide))) (nz_fi (g 79 (by decide) (by decide))) (nz_fa (g 2 (by decide) (by decide))) (nz_fa (g 78 (by decide) (by decide))) ((congrArg Int32.toInt (zz_i e82)).trans (rfl : (sy_i F 82).toInt = (sy_i F 82).toInt)) ((congrArg Int32.toInt (zz_i e83)).trans (rfl : (sy_i F 83).toInt = (sy_i F 83).toInt)) ((congrArg Int32.toInt (zz_i e84)).trans (rfl : (sy_i F 84).toInt = (sy_i F 84).toInt)) ((congrArg Int32.toInt (zz_i e85)).trans (rfl : (sy_i F 85).toInt = (sy_i F 85).toInt)) ((congrArg Int32.toInt (zz_i e86)).trans (rfl : (sy_i F 86).toInt = (sy_i F 86).toInt)))
theorem k1ofd_25_p0 {Ls : Nat} {xs : Nat → Int32} {d : Nat} {Q : Option Value → jm_h → Prop} (hd : 2 ≤ d) (F : Nat → sy_d) (X1 X2 : List jm_c) (hB : iv_in F iv_B0)
    (k : ∀ F1 : Nat → sy_d, (∀ j, j < 82 → True → F1 j = F j) → F1 82 = .inl (.int (sy_i F 82)) → F1 83 = .inl (.int (sy_i F 83)) → F1 84 = .inl (.int (sy_i F 84)) → F1 85 = .inl (.int (sy_i F 85)) → F1 86 = .inl (.int (sy_i F 86)) → hd_W Ls xs d jm_M81 Q (27, sy_dL F1 [some (.inl (.ref 8)), some (.inr (.inl 82)), some (.inr (.inl 83)), some (.inr (.inl 84)), some (.inr (.inl 85)), some (.inr (.inl 86))], sy_dS F1 [.inr (.inl 84), .inl (.ref 8)], sy_dh F1 X1 X2 (iv_H 1), 0, 0)) :
    hd_W Ls xs d jm_M81 Q (25, sy_dL F [some (.inl (.ref 8)), some (.inr (.inl 82)), some (.inr (.inl 83)), some (.inr (.inl 84)), some (.inr (.inl 85)), some (.inr (.inl 86))], sy_dS F [], sy_dh F X1 X2 (iv_H 1), 0, 0) := by
  refine hd_run (s := 1) (nv := 87) (pc := 27) (L := [some (.inl (.ref 8)), some (.inr (.inl 82)), some (.inr (.inl 83)), some (.inr (.inl 84)), some (.inr (.inl 85)), some (.inr (.inl 86))]) (S := [.inr (.inl 84), .inl (.ref 8)]) (uh := hd_ov (iv_id 0 iv_B0) []) (ul := [.inl (.inr (.inl 82)), .inl (.inr (.inl 83)), .inl (.inr (.inl 84)), .inl (.inr (.inl 85)), .inl (.inr (.inl 86))]) (f := false) (sp := [27]) (d0 := 1) (O := []) (T := []) (P := []) jm_ok81 (by decide +kernel) (by decide +kernel) hd F X1 X2 (fun F' hF hs => ?_)
  have b82 := hd_b (F := F) (F' := F') (k := 82) (hF 82 (by decide))
  have b83 := hd_b (F := F) (F' := F') (k := 83) (hF 83 (by decide))
  have b84 := hd_b (F := F) (F' := F') (k := 84) (hF 84 (by decide))
  have b85 := hd_b (F := F) (F' := F') (k := 85) (hF 85 (by decide))
  have b86 := hd_b (F := F) (F' := F') (k := 86) (hF 86 (by decide))
  have hB' : iv_in F' iv_B0 := iv_in_eq hB (fun j hj => hF j (Nat.lt_of_lt_of_le hj (by decide +kernel)))
  refine ⟨fun _ h => absurd h List.not_mem_nil, ?_⟩
  refine k _ ?_ ?_ ?_ ?_ ?_ ?_
  · exact fun j hj _ => (hd_keep hB' (Nat.lt_of_lt_of_le hj (by decide +kernel)) (by simp)).trans (hF j (Nat.lt_of_lt_of_le hj (by decide)))
  · exact hd_gi (x := .inr (.inl 82)) (by decide +kernel) b82
  · exact hd_gi (x := .inr (.inl 83)) (by decide +kernel) b83
  · exact hd_gi (x := .inr (.inl 84)) (by decide +kernel) b84
  · exact hd_gi (x := .inr (.inl 85)) (by decide +kernel) b85
  · exact hd_gi (x := .inr (.inl 86)) (by decide +kernel) b86
theorem k1ofd_25 {Ls : Nat} {xs : Nat → Int32} {d : Nat} {Q : Option Value → jm_h → Prop} (hd : 2 ≤ d) (F : Nat → sy_d) (X1 X2 : List jm_c) (hB : iv_in F iv_B0)
    (k0 : ∀ F1 : Nat → sy_d, iv_in F1 iv_B0 → (∀ j, j < 82 → j ∉ ([] : List Nat) → F1 j = F j) → (sy_i F1 0).toInt = (sy_i F 0).toInt → (sy_i F1 1).toInt = (sy_i F 1).toInt → (sy_i F1 79).toInt = (sy_i F 79).toInt → sy_ai F1 2 = sy_ai F 2 → sy_ai F1 78 = sy_ai F 78 → (sy_i F1 82).toInt = (sy_i F 82).toInt → (sy_i F1 83).toInt = (sy_i F 83).toInt → (sy_i F1 84).toInt = (sy_i F 84).toInt → (sy_i F1 85).toInt = (sy_i F 85).toInt → (sy_i F1 86).toInt = (sy_i F 86).toInt → hd_W Ls xs d jm_M81 Q (27, sy_dL F1 [some (.inl (.ref 8)), some (.inr (.inl 82)), some (.inr (.inl 83)), some (.inr (.inl 84)), some (.inr (.inl 85)), some (.inr (.inl 86))], sy_dS F1 [.inr (.inl 84), .inl (.ref 8)], sy_dh F1 X1 X2 (iv_H 1), 0, 0)) :
    hd_W Ls xs d jm_M81 Q (25, sy_dL F [some (.inl (.ref 8)), some (.inr (.inl 82)), some (.inr (.inl 83)), some (.inr (.inl 84)), some (.inr (.inl 85)), some (.inr (.inl 86))], sy_dS F [], sy_dh F X1 X2 (iv_H 1), 0, 0) := by
  exact k1ofd_25_p0 hd F X1 X2 hB  (fun F1 g e82 e83 e84 e85 e86 => k0 F1 (nz_in0 hB [] (fun j hj hn => g j hj (by simp only [List.mem_cons, List.not_mem_nil, or_false, not_or] at hn; exact trivial)) (List.forall_mem_nil _)) (fun j hj hn => g j hj (by simp only [List.mem_cons, List.not_mem_nil, or_false, not_or] at hn; exact trivial)) (nz_fi (g 0 (by decide) (by decide))) (nz_fi (g 1 (by decide) (by decide))) (nz_fi (g 79 (by decide) (by decide))) (nz_fa (g 2 (by decide) (by decide))) (nz_fa (g 78 (by decide) (by decide))) ((congrArg Int32.toInt (zz_i e82)).trans (rfl : (sy_i F 82).toInt = (sy_i F 82).toInt)) ((congrArg Int32.toInt (zz_i e83)).trans (rfl : (sy_i F 83).toInt = (sy_i F 83).toInt)) ((congrArg Int32.toInt (zz_i e84)).trans (rfl : (sy_i F 84).toInt = (sy_i F 84).toInt)) ((congrArg Int32.toInt (zz_i e85)).trans (rfl : (sy_i F 85).toInt = (sy_i F 85).toInt)) ((congrArg Int32.toInt (zz_i e86)).trans (rfl : (sy_i F 86).toInt = (sy_i F 86).toInt)))
theorem k1ofd_30_p0 {Ls : Nat} {xs : Nat → Int32} {d : Nat} {Q : Option Value → jm_h → Prop} (hd : 2 ≤ d) (F : Nat → sy_d) (X1 X2 : List jm_c) (hB : iv_in F iv_B0)
    (k : ∀ F1 : Nat → sy_d, (∀ j, j < 82 → True → F1 j = F j) → F1 82 = .inl (.int (sy_i F 82)) → F1 83 = .inl (.int (sy_i F 83)) → F1 84 = .inl (.int (sy_i F 84)) → F1 85 = .inl (.int (sy_i F 85)) → F1 86 = .inl (.int (sy_i F 86)) → hd_W Ls xs d jm_M81 Q (33, sy_dL F1 [some (.inl (.ref 8)), some (.inr (.inl 82)), some (.inr (.inl 83)), some (.inr (.inl 84)), some (.inr (.inl 85)), some (.inr (.inl 86))], sy_dS F1 [.inr (.inl 85), .inl (.ref 8)], sy_dh F1 X1 X2 (iv_H 1), 0, 0)) :
    hd_W Ls xs d jm_M81 Q (30, sy_dL F [some (.inl (.ref 8)), some (.inr (.inl 82)), some (.inr (.inl 83)), some (.inr (.inl 84)), some (.inr (.inl 85)), some (.inr (.inl 86))], sy_dS F [], sy_dh F X1 X2 (iv_H 1), 0, 0) := by
  refine hd_run (s := 1) (nv := 87) (pc := 33) (L := [some (.inl (.ref 8)), some (.inr (.inl 82)), some (.inr (.inl 83)), some (.inr (.inl 84)), some (.inr (.inl 85)), some (.inr (.inl 86))]) (S := [.inr (.inl 85), .inl (.ref 8)]) (uh := hd_ov (iv_id 0 iv_B0) []) (ul := [.inl (.inr (.inl 82)), .inl (.inr (.inl 83)), .inl (.inr (.inl 84)), .inl (.inr (.inl 85)), .inl (.inr (.inl 86))]) (f := false) (sp := [33]) (d0 := 1) (O := []) (T := []) (P := []) jm_ok81 (by decide +kernel) (by decide +kernel) hd F X1 X2 (fun F' hF hs => ?_)
  have b82 := hd_b (F := F) (F' := F') (k := 82) (hF 82 (by decide))
  have b83 := hd_b (F := F) (F' := F') (k := 83) (hF 83 (by decide))
  have b84 := hd_b (F := F) (F' := F') (k := 84) (hF 84 (by decide))
  have b85 := hd_b (F := F) (F' := F') (k := 85) (hF 85 (by decide))
  have b86 := hd_b (F := F) (F' := F') (k := 86) (hF 86 (by decide))
  have hB' : iv_in F' iv_B0 := iv_in_eq hB (fun j hj => hF j (Nat.lt_of_lt_of_le hj (by decide +kernel)))
  refine ⟨fun _ h => absurd h List.not_mem_nil, ?_⟩
  refine k _ ?_ ?_ ?_ ?_ ?_ ?_
  · exact fun j hj _ => (hd_keep hB' (Nat.lt_of_lt_of_le hj (by decide +kernel)) (by simp)).trans (hF j (Nat.lt_of_lt_of_le hj (by decide)))
  · exact hd_gi (x := .inr (.inl 82)) (by decide +kernel) b82
  · exact hd_gi (x := .inr (.inl 83)) (by decide +kernel) b83
  · exact hd_gi (x := .inr (.inl 84)) (by decide +kernel) b84
  · exact hd_gi (x := .inr (.inl 85)) (by decide +kernel) b85
  · exact hd_gi (x := .inr (.inl 86)) (by decide +kernel) b86
theorem k1ofd_30 {Ls : Nat} {xs : Nat → Int32} {d : Nat} {Q : Option Value → jm_h → Prop} (hd : 2 ≤ d) (F : Nat → sy_d) (X1 X2 : List jm_c) (hB : iv_in F iv_B0)
    (k0 : ∀ F1 : Nat → sy_d, iv_in F1 iv_B0 → (∀ j, j < 82 → j ∉ ([] : List Nat) → F1 j = F j) → (sy_i F1 0).toInt = (sy_i F 0).toInt → (sy_i F1 1).toInt = (sy_i F 1).toInt → (sy_i F1 79).toInt = (sy_i F 79).toInt → sy_ai F1 2 = sy_ai F 2 → sy_ai F1 78 = sy_ai F 78 → (sy_i F1 82).toInt = (sy_i F 82).toInt → (sy_i F1 83).toInt = (sy_i F 83).toInt → (sy_i F1 84).toInt = (sy_i F 84).toInt → (sy_i F1 85).toInt = (sy_i F 85).toInt → (sy_i F1 86).toInt = (sy_i F 86).toInt → hd_W Ls xs d jm_M81 Q (33, sy_dL F1 [some (.inl (.ref 8)), some (.inr (.inl 82)), some (.inr (.inl 83)), some (.inr (.inl 84)), some (.inr (.inl 85)), some (.inr (.inl 86))], sy_dS F1 [.inr (.inl 85), .inl (.ref 8)], sy_dh F1 X1 X2 (iv_H 1), 0, 0)) :
    hd_W Ls xs d jm_M81 Q (30, sy_dL F [some (.inl (.ref 8)), some (.inr (.inl 82)), some (.inr (.inl 83)), some (.inr (.inl 84)), some (.inr (.inl 85)), some (.inr (.inl 86))], sy_dS F [], sy_dh F X1 X2 (iv_H 1), 0, 0) := by
  exact k1ofd_30_p0 hd F X1 X2 hB  (fun F1 g e82 e83 e84 e85 e86 => k0 F1 (nz_in0 hB [] (fun j hj hn => g j hj (by simp only [List.mem_cons, List.not_mem_nil, or_false, not_or] at hn; exact trivial)) (List.forall_mem_nil _)) (fun j hj hn => g j hj (by simp only [List.mem_cons, List.not_mem_nil, or_false, not_or] at hn; exact trivial)) (nz_fi (g 0 (by decide) (by decide))) (nz_fi (g 1 (by decide) (by decide))) (nz_fi (g 79 (by decide) (by decide))) (nz_fa (g 2 (by decide) (by decide))) (nz_fa (g 78 (by decide) (by decide))) ((congrArg Int32.toInt (zz_i e82)).trans (rfl : (sy_i F 82).toInt = (sy_i F 82).toInt)) ((congrArg Int32.toInt (zz_i e83)).trans (rfl : (sy_i F 83).toInt = (sy_i F 83).toInt)) ((congrArg Int32.toInt (zz_i e84)).trans (rfl : (sy_i F 84).toInt = (sy_i F 84).toInt)) ((congrArg Int32.toInt (zz_i e85)).trans (rfl : (sy_i F 85).toInt = (sy_i F 85).toInt)) ((congrArg Int32.toInt (zz_i e86)).trans (rfl : (sy_i F 86).toInt = (sy_i F 86).toInt)))
theorem k1ofd_36_p0 {Ls : Nat} {xs : Nat → Int32} {d : Nat} {Q : Option Value → jm_h → Prop} (hd : 2 ≤ d) (F : Nat → sy_d) (X1 X2 : List jm_c) (hB : iv_in F iv_B0)
    (k : ∀ F1 : Nat → sy_d, (∀ j, j < 82 → True → F1 j = F j) → F1 82 = .inl (.int (sy_i F 82)) → F1 83 = .inl (.int (sy_i F 83)) → F1 84 = .inl (.int (sy_i F 84)) → F1 85 = .inl (.int (sy_i F 85)) → F1 86 = .inl (.int (sy_i F 86)) → hd_W Ls xs d jm_M81 Q (39, sy_dL F1 [some (.inl (.ref 8)), some (.inr (.inl 82)), some (.inr (.inl 83)), some (.inr (.inl 84)), some (.inr (.inl 85)), some (.inr (.inl 86))], sy_dS F1 [.inr (.inl 86), .inl (.ref 8)], sy_dh F1 X1 X2 (iv_H 1), 0, 0)) :
    hd_W Ls xs d jm_M81 Q (36, sy_dL F [some (.inl (.ref 8)), some (.inr (.inl 82)), some (.inr (.inl 83)), some (.inr (.inl 84)), some (.inr (.inl 85)), some (.inr (.inl 86))], sy_dS F [], sy_dh F X1 X2 (iv_H 1), 0, 0) := by
  refine hd_run (s := 1) (nv := 87) (pc := 39) (L := [some (.inl (.ref 8)), some (.inr (.inl 82)), some (.inr (.inl 83)), some (.inr (.inl 84)), some (.inr (.inl 85)), some (.inr (.inl 86))]) (S := [.inr (.inl 86), .inl (.ref 8)]) (uh := hd_ov (iv_id 0 iv_B0) []) (ul := [.inl (.inr (.inl 82)), .inl (.inr (.inl 83)), .inl (.inr (.inl 84)), .inl (.inr (.inl 85)), .inl (.inr (.inl 86))]) (f := false) (sp := [39]) (d0 := 1) (O := []) (T := []) (P := []) jm_ok81 (by decide +kernel) (by decide +kernel) hd F X1 X2 (fun F' hF hs => ?_)
  have b82 := hd_b (F := F) (F' := F') (k := 82) (hF 82 (by decide))
  have b83 := hd_b (F := F) (F' := F') (k := 83) (hF 83 (by decide))
  have b84 := hd_b (F := F) (F' := F') (k := 84) (hF 84 (by decide))
  have b85 := hd_b (F := F) (F' := F') (k := 85) (hF 85 (by decide))
  have b86 := hd_b (F := F) (F' := F') (k := 86) (hF 86 (by decide))
  have hB' : iv_in F' iv_B0 := iv_in_eq hB (fun j hj => hF j (Nat.lt_of_lt_of_le hj (by decide +kernel)))
  refine ⟨fun _ h => absurd h List.not_mem_nil, ?_⟩
  refine k _ ?_ ?_ ?_ ?_ ?_ ?_
  · exact fun j hj _ => (hd_keep hB' (Nat.lt_of_lt_of_le hj (by decide +kernel)) (by simp)).trans (hF j (Nat.lt_of_lt_of_le hj (by decide)))
  · exact hd_gi (x := .inr (.inl 82)) (by decide +kernel) b82
  · exact hd_gi (x := .inr (.inl 83)) (by decide +kernel) b83
  · exact hd_gi (x := .inr (.inl 84)) (by decide +kernel) b84
  · exact hd_gi (x := .inr (.inl 85)) (by decide +kernel) b85
  · exact hd_gi (x := .inr (.inl 86)) (by decide +kernel) b86
theorem k1ofd_36 {Ls : Nat} {xs : Nat → Int32} {d : Nat} {Q : Option Value → jm_h → Prop} (hd : 2 ≤ d) (F : Nat → sy_d) (X1 X2 : List jm_c) (hB : iv_in F iv_B0)
    (k0 : ∀ F1 : Nat → sy_d, iv_in F1 iv_B0 → (∀ j, j < 82 → j ∉ ([] : List Nat) → F1 j = F j) → (sy_i F1 0).toInt = (sy_i F 0).toInt → (sy_i F1 1).toInt = (sy_i F 1).toInt → (sy_i F1 79).toInt = (sy_i F 79).toInt → sy_ai F1 2 = sy_ai F 2 → sy_ai F1 78 = sy_ai F 78 → (sy_i F1 82).toInt = (sy_i F 82).toInt → (sy_i F1 83).toInt = (sy_i F 83).toInt → (sy_i F1 84).toInt = (sy_i F 84).toInt → (sy_i F1 85).toInt = (sy_i F 85).toInt → (sy_i F1 86).toInt = (sy_i F 86).toInt → hd_W Ls xs d jm_M81 Q (39, sy_dL F1 [some (.inl (.ref 8)), some (.inr (.inl 82)), some (.inr (.inl 83)), some (.inr (.inl 84)), some (.inr (.inl 85)), some (.inr (.inl 86))], sy_dS F1 [.inr (.inl 86), .inl (.ref 8)], sy_dh F1 X1 X2 (iv_H 1), 0, 0)) :
    hd_W Ls xs d jm_M81 Q (36, sy_dL F [some (.inl (.ref 8)), some (.inr (.inl 82)), some (.inr (.inl 83)), some (.inr (.inl 84)), some (.inr (.inl 85)), some (.inr (.inl 86))], sy_dS F [], sy_dh F X1 X2 (iv_H 1), 0, 0) := by
  exact k1ofd_36_p0 hd F X1 X2 hB  (fun F1 g e82 e83 e84 e85 e86 => k0 F1 (nz_in0 hB [] (fun j hj hn => g j hj (by simp only [List.mem_cons, List.not_mem_nil, or_false, not_or] at hn; exact trivial)) (List.forall_mem_nil _)) (fun j hj hn => g j hj (by simp only [List.mem_cons, List.not_mem_nil, or_false, not_or] at hn; exact trivial)) (nz_fi (g 0 (by decide) (by decide))) (nz_fi (g 1 (by decide) (by decide))) (nz_fi (g 79 (by decide) (by decide))) (nz_fa (g 2 (by decide) (by decide))) (nz_fa (g 78 (by decide) (by decide))) ((congrArg Int32.toInt (zz_i e82)).trans (rfl : (sy_i F 82).toInt = (sy_i F 82).toInt)) ((congrArg Int32.toInt (zz_i e83)).trans (rfl : (sy_i F 83).toInt = (sy_i F 83).toInt)) ((congrArg Int32.toInt (zz_i e84)).trans (rfl : (sy_i F 84).toInt = (sy_i F 84).toInt)) ((congrArg Int32.toInt (zz_i e85)).trans (rfl : (sy_i F 85).toInt = (sy_i F 85).toInt)) ((congrArg Int32.toInt (zz_i e86)).trans (rfl : (sy_i F 86).toInt = (sy_i F 86).toInt)))
theorem k1ofd_42_p0 {Ls : Nat} {xs : Nat → Int32} {d : Nat} {Q : Option Value → jm_h → Prop} (hd : 2 ≤ d) (F : Nat → sy_d) (X1 X2 : List jm_c) (hB : iv_in F iv_B0)
    (k : ∀ F1 : Nat → sy_d, (∀ j, j < 82 → True → F1 j = F j) → Q (some (.int (sy_i F 0))) (sy_dh F1 X1 X2 (iv_H 1))) :
    hd_W Ls xs d jm_M81 Q (42, sy_dL F [some (.inl (.ref 8)), some (.inr (.inl 82)), some (.inr (.inl 83)), some (.inr (.inl 84)), some (.inr (.inl 85)), some (.inr (.inl 86))], sy_dS F [], sy_dh F X1 X2 (iv_H 1), 0, 0) := by
  refine hd_ret (s := 1) (nv := 87) (v := some (.inr (.inl 0))) (uh := hd_ov (iv_id 0 iv_B0) []) (f := false) (sp := []) (d0 := 1) (O := []) (T := []) (P := []) jm_ok81 (by decide +kernel) (by decide +kernel) hd F X1 X2 (fun F' hF hs => ?_)
  have b0 := hd_b (F := F) (F' := F') (k := 0) (hF 0 (by decide))
  have hB' : iv_in F' iv_B0 := iv_in_eq hB (fun j hj => hF j (Nat.lt_of_lt_of_le hj (by decide +kernel)))
  have hk := k (sy_cm F' (hd_ov (iv_id 0 iv_B0) [] ++ [])) (fun j hj _ => (hd_keep hB' (Nat.lt_of_lt_of_le hj (by decide +kernel)) (by simp)).trans (hF j (Nat.lt_of_lt_of_le hj (by decide))))
  refine ⟨fun _ h => absurd h List.not_mem_nil, ?_⟩
  show Q (some (sy_dv F' (.inr (.inl 0)))) _
  rw [b0]
  exact hk
theorem k1ofd_42 {Ls : Nat} {xs : Nat → Int32} {d : Nat} {Q : Option Value → jm_h → Prop} (hd : 2 ≤ d) (F : Nat → sy_d) (X1 X2 : List jm_c) (hB : iv_in F iv_B0)
    (k0 : ∀ F1 : Nat → sy_d, iv_in F1 iv_B0 → (∀ j, j < 82 → j ∉ ([] : List Nat) → F1 j = F j) → (sy_i F1 0).toInt = (sy_i F 0).toInt → (sy_i F1 1).toInt = (sy_i F 1).toInt → (sy_i F1 79).toInt = (sy_i F 79).toInt → sy_ai F1 2 = sy_ai F 2 → sy_ai F1 78 = sy_ai F 78 → Q (some (.int (sy_i F 0))) (sy_dh F1 X1 X2 (iv_H 1))) :
    hd_W Ls xs d jm_M81 Q (42, sy_dL F [some (.inl (.ref 8)), some (.inr (.inl 82)), some (.inr (.inl 83)), some (.inr (.inl 84)), some (.inr (.inl 85)), some (.inr (.inl 86))], sy_dS F [], sy_dh F X1 X2 (iv_H 1), 0, 0) := by
  exact k1ofd_42_p0 hd F X1 X2 hB  (fun F1 g  => by rw [(rfl : sy_i F 0 = sy_i F 0)]; exact k0 F1 (nz_in0 hB [] (fun j hj hn => g j hj (by simp only [List.mem_cons, List.not_mem_nil, or_false, not_or] at hn; exact trivial)) (List.forall_mem_nil _)) (fun j hj hn => g j hj (by simp only [List.mem_cons, List.not_mem_nil, or_false, not_or] at hn; exact trivial)) (nz_fi (g 0 (by decide) (by decide))) (nz_fi (g 1 (by decide) (by decide))) (nz_fi (g 79 (by decide) (by decide))) (nz_fa (g 2 (by decide) (by decide))) (nz_fa (g 78 (by decide) (by decide))))
theorem k1ord_0_p0 {Ls : Nat} {xs : Nat → Int32} {d : Nat} {Q : Option Value → jm_h → Prop} (hd : 29 ≤ d) (F : Nat → sy_d) (X1 X2 : List jm_c) (hB : iv_in F iv_B0)
    (k : ∀ F1 : Nat → sy_d, (∀ j, j < 82 → True → F1 j = F j) → F1 82 = .inl (.int (sy_i F 0)) → hd_W Ls xs d jm_M83 Q (16, sy_dL F1 [some (.inl (.ref 8)), none, none], sy_dS F1 [.inl (.ref 20), .inr (.inl 82), .inl (.ref 9), .inl (.ref 30)], sy_dh F1 X1 X2 (iv_H 1), 0, 0)) :
    hd_W Ls xs d jm_M83 Q (0, sy_dL F [some (.inl (.ref 8)), none, none], sy_dS F [], sy_dh F X1 X2 (iv_H 1), 0, 0) := by
  refine hd_run (s := 1) (nv := 82) (pc := 16) (L := [some (.inl (.ref 8)), none, none]) (S := [.inl (.ref 20), .inr (.inl 82), .inl (.ref 9), .inl (.ref 30)]) (uh := hd_ov (iv_id 0 iv_B0) []) (ul := [.inl (.inr (.inl 0))]) (f := true) (sp := [16]) (d0 := 28) (O := []) (T := []) (P := []) jm_ok83 (by decide +kernel) (by decide +kernel) hd F X1 X2 (fun F' hF hs => ?_)
  have b0 := hd_b (F := F) (F' := F') (k := 0) (hF 0 (by decide))
  have hB' : iv_in F' iv_B0 := iv_in_eq hB (fun j hj => hF j (Nat.lt_of_lt_of_le hj (by decide +kernel)))
  refine ⟨fun _ h => absurd h List.not_mem_nil, ?_⟩
  refine k _ ?_ ?_
  · exact fun j hj _ => (hd_keep hB' (Nat.lt_of_lt_of_le hj (by decide +kernel)) (by simp)).trans (hF j (Nat.lt_of_lt_of_le hj (by decide)))
  · exact hd_gi (x := .inr (.inl 0)) (by decide +kernel) b0
theorem k1ord_0 {Ls : Nat} {xs : Nat → Int32} {d : Nat} {Q : Option Value → jm_h → Prop} (hd : 29 ≤ d) (F : Nat → sy_d) (X1 X2 : List jm_c) (hB : iv_in F iv_B0)
    (k0 : ∀ F1 : Nat → sy_d, iv_in F1 iv_B0 → (∀ j, j < 82 → j ∉ ([] : List Nat) → F1 j = F j) → (sy_i F1 0).toInt = (sy_i F 0).toInt → (sy_i F1 1).toInt = (sy_i F 1).toInt → (sy_i F1 35).toInt = (sy_i F 35).toInt → (sy_i F1 79).toInt = (sy_i F 79).toInt → sy_ai F1 2 = sy_ai F 2 → sy_ai F1 78 = sy_ai F 78 → (sy_i F1 82).toInt = (sy_i F 0).toInt → hd_W Ls xs d jm_M83 Q (16, sy_dL F1 [some (.inl (.ref 8)), none, none], sy_dS F1 [.inl (.ref 20), .inr (.inl 82), .inl (.ref 9), .inl (.ref 30)], sy_dh F1 X1 X2 (iv_H 1), 0, 0)) :
    hd_W Ls xs d jm_M83 Q (0, sy_dL F [some (.inl (.ref 8)), none, none], sy_dS F [], sy_dh F X1 X2 (iv_H 1), 0, 0) := by
  have c0 := nz_bx hB (k := 0) (lo := 0) (hi := 2000) rfl
  exact k1ord_0_p0 hd F X1 X2 hB  (fun F1 g e82 => k0 F1 (nz_in0 hB [] (fun j hj hn => g j hj (by simp only [List.mem_cons, List.not_mem_nil, or_false, not_or] at hn; exact trivial)) (List.forall_mem_nil _)) (fun j hj hn => g j hj (by simp only [List.mem_cons, List.not_mem_nil, or_false, not_or] at hn; exact trivial)) (nz_fi (g 0 (by decide) (by decide))) (nz_fi (g 1 (by decide) (by decide))) (nz_fi (g 35 (by decide) (by decide))) (nz_fi (g 79 (by decide) (by decide))) (nz_fa (g 2 (by decide) (by decide))) (nz_fa (g 78 (by decide) (by decide))) ((congrArg Int32.toInt (zz_i e82)).trans (rfl : (sy_i F 0).toInt = (sy_i F 0).toInt)))
end
section
/-! ===== the class: the tape, what is told, what is held, way by way (shape 2) ===== -/
theorem k2oap_0_p0 {Ls : Nat} {xs : Nat → Int32} {d : Nat} {Q : Option Value → jm_h → Prop} (hd : 1 ≤ d) (F : Nat → sy_d) (X1 X2 : List jm_c) (hB : iv_in F iv_B0)
    (h0 : 2000 ≤ (sy_i F 0).toInt)
    (k : ∀ F1 : Nat → sy_d, (∀ j, j < 82 → True → F1 j = F j) → Q (none) (sy_dh F1 X1 X2 (iv_H 2))) :
    hd_W Ls xs d jm_M116 Q (0, sy_dL F [some (.inl (.ref 8)), some (.inr (.inl 82)), none], sy_dS F [], sy_dh F X1 X2 (iv_H 2), 0, 0) := by
  refine hd_ret (s := 2) (nv := 83) (v := none) (uh := hd_ov (iv_id 0 iv_B0) []) (f := true) (sp := []) (d0 := 0) (O := [true]) (T := []) (P := [(4, .inl (.int 2000), .inr (.inl 0))]) jm_ok116 (by decide +kernel) (by decide +kernel) hd F X1 X2 (fun F' hF hs => ?_)
  have b0 := hd_b (F := F) (F' := F') (k := 0) (hF 0 (by decide))
  have hB' : iv_in F' iv_B0 := iv_in_eq hB (fun j hj => hF j (Nat.lt_of_lt_of_le hj (by decide +kernel)))
  refine ⟨List.forall_mem_cons.mpr ⟨hd_p4 rfl b0 (by have hc : ((2000) : Int32).toInt = 2000 := (by decide); omega), fun _ h => absurd h List.not_mem_nil⟩, ?_⟩
  refine k _ ?_
  · exact fun j hj _ => (hd_keep hB' (Nat.lt_of_lt_of_le hj (by decide +kernel)) (by simp)).trans (hF j (Nat.lt_of_lt_of_le hj (by decide)))
theorem k2oap_0_p1 {Ls : Nat} {xs : Nat → Int32} {d : Nat} {Q : Option Value → jm_h → Prop} (hd : 1 ≤ d) (F : Nat → sy_d) (X1 X2 : List jm_c) (hB : iv_in F iv_B0)
    (h0 : (sy_i F 0).toInt < 2000)
    (h1 : 0 ≤ (sy_i F 0).toInt ∧ (sy_i F 0).toInt < 2000)
    (h2 : 2000 ≤ ((sy_i F 0) + ((1 : Int32))).toInt)
    (k : ∀ F1 : Nat → sy_d, (∀ j, j < 82 → j ≠ 0 ∧ j ≠ 2 → F1 j = F j) → F1 0 = .inl (.int ((sy_i F 0) + ((1 : Int32)))) → F1 2 = .inr (.inl (jm_upd (sy_ai F 2) (sy_i F 0).toNatClampNeg ((((((sy_i F 82)).toUInt32 >>> ((((24 : Int32))).toUInt32 &&& Int32.toUInt32 31)).toInt32).toInt8.toInt32).toInt8.toInt32))) → Q (none) (sy_dh F1 X1 X2 (iv_H 2))) :
    hd_W Ls xs d jm_M116 Q (0, sy_dL F [some (.inl (.ref 8)), some (.inr (.inl 82)), none], sy_dS F [], sy_dh F X1 X2 (iv_H 2), 0, 0) := by
  refine hd_ret (s := 2) (nv := 83) (v := none) (uh := hd_ov (iv_id 0 iv_B0) [(0, .inl (.inr (.inl 87))), (2, .inr (.inr (.inl 86)))]) (f := true) (sp := []) (d0 := 0) (O := [false, true]) (T := [(8, [.inr (.inl 82), .inl (.int 24)], []), (22, [.inr (.inl 83)], []), (22, [.inr (.inl 84)], []), (40, [.inr (.inl 0), .inr (.inl 85)], [.inr (.inl 2)]), (0, [.inr (.inl 0), .inl (.int 1)], [])]) (P := [(5, .inl (.int 2000), .inr (.inl 0)), (6, .inr (.inl 0), .inl (.ref 2000)), (4, .inl (.int 2000), .inr (.inl 87))]) jm_ok116 (by decide +kernel) (by decide +kernel) hd F X1 X2 (fun F' hF hs => ?_)
  have b0 := hd_b (F := F) (F' := F') (k := 0) (hF 0 (by decide))
  have t87 : sy_dv F' (.inr (.inl 87)) = .int ((sy_i F 0) + ((1 : Int32))) := hd_o (hs 4 _ rfl) b0 rfl rfl
  have b82 := hd_b (F := F) (F' := F') (k := 82) (hF 82 (by decide))
  have t83 : sy_dv F' (.inr (.inl 83)) = .int ((((sy_i F 82)).toUInt32 >>> ((((24 : Int32))).toUInt32 &&& Int32.toUInt32 31)).toInt32) := hd_o (hs 0 _ rfl) b82 rfl rfl
  have t84 : sy_dv F' (.inr (.inl 84)) = .int (((((sy_i F 82)).toUInt32 >>> ((((24 : Int32))).toUInt32 &&& Int32.toUInt32 31)).toInt32).toInt8.toInt32) := hd_u (hs 1 _ rfl) t83 rfl
  have t85 : sy_dv F' (.inr (.inl 85)) = .int ((((((sy_i F 82)).toUInt32 >>> ((((24 : Int32))).toUInt32 &&& Int32.toUInt32 31)).toInt32).toInt8.toInt32).toInt8.toInt32) := hd_u (hs 2 _ rfl) t84 rfl
  have a2 := hd_ba (F := F) (F' := F') (k := 2) (hF 2 (by decide))
  have t86 : sy_da F' (.inr (.inl 86)) = .inl (jm_upd (sy_ai F 2) (sy_i F 0).toNatClampNeg ((((((sy_i F 82)).toUInt32 >>> ((((24 : Int32))).toUInt32 &&& Int32.toUInt32 31)).toInt32).toInt8.toInt32).toInt8.toInt32)) := hd_up (hs 3 _ rfl) b0 t85 a2
  have hB' : iv_in F' iv_B0 := iv_in_eq hB (fun j hj => hF j (Nat.lt_of_lt_of_le hj (by decide +kernel)))
  refine ⟨List.forall_mem_cons.mpr ⟨hd_p5 rfl b0 (by have hc : ((2000) : Int32).toInt = 2000 := (by decide); omega), List.forall_mem_cons.mpr ⟨hd_pb b0 (by first | exact h1 | exact h1), List.forall_mem_cons.mpr ⟨hd_p4 rfl t87 (by have hc : ((2000) : Int32).toInt = 2000 := (by decide); omega), fun _ h => absurd h List.not_mem_nil⟩⟩⟩, ?_⟩
  refine k _ ?_ ?_ ?_
  · exact fun j hj hn => (hd_keep hB' (Nat.lt_of_lt_of_le hj (by decide +kernel)) (by simp; omega)).trans (hF j (Nat.lt_of_lt_of_le hj (by decide)))
  · exact hd_gi (x := .inr (.inl 87)) (by decide +kernel) t87
  · exact hd_ga (a := .inr (.inl 86)) (by decide +kernel) t86
theorem k2oap_0_p2 {Ls : Nat} {xs : Nat → Int32} {d : Nat} {Q : Option Value → jm_h → Prop} (hd : 1 ≤ d) (F : Nat → sy_d) (X1 X2 : List jm_c) (hB : iv_in F iv_B0)
    (h0 : (sy_i F 0).toInt < 2000)
    (h1 : 0 ≤ (sy_i F 0).toInt ∧ (sy_i F 0).toInt < 2000)
    (h2 : ((sy_i F 0) + ((1 : Int32))).toInt < 2000)
    (h3 : 0 ≤ ((sy_i F 0) + ((1 : Int32))).toInt ∧ ((sy_i F 0) + ((1 : Int32))).toInt < 2000)
    (h4 : 2000 ≤ (((sy_i F 0) + ((1 : Int32))) + ((1 : Int32))).toInt)
    (k : ∀ F1 : Nat → sy_d, (∀ j, j < 82 → j ≠ 0 ∧ j ≠ 2 → F1 j = F j) → F1 0 = .inl (.int (((sy_i F 0) + ((1 : Int32))) + ((1 : Int32)))) → F1 2 = .inr (.inl (jm_upd (jm_upd (sy_ai F 2) (sy_i F 0).toNatClampNeg ((((((sy_i F 82)).toUInt32 >>> ((((24 : Int32))).toUInt32 &&& Int32.toUInt32 31)).toInt32).toInt8.toInt32).toInt8.toInt32)) ((sy_i F 0) + ((1 : Int32))).toNatClampNeg ((((((sy_i F 82)).toUInt32 >>> ((((16 : Int32))).toUInt32 &&& Int32.toUInt32 31)).toInt32).toInt8.toInt32).toInt8.toInt32))) → Q (none) (sy_dh F1 X1 X2 (iv_H 2))) :
    hd_W Ls xs d jm_M116 Q (0, sy_dL F [some (.inl (.ref 8)), some (.inr (.inl 82)), none], sy_dS F [], sy_dh F X1 X2 (iv_H 2), 0, 0) := by
  refine hd_ret (s := 2) (nv := 83) (v := none) (uh := hd_ov (iv_id 0 iv_B0) [(0, .inl (.inr (.inl 92))), (2, .inr (.inr (.inl 91)))]) (f := true) (sp := []) (d0 := 0) (O := [false, false, true]) (T := [(8, [.inr (.inl 82), .inl (.int 24)], []), (22, [.inr (.inl 83)], []), (22, [.inr (.inl 84)], []), (40, [.inr (.inl 0), .inr (.inl 85)], [.inr (.inl 2)]), (0, [.inr (.inl 0), .inl (.int 1)], []), (8, [.inr (.inl 82), .inl (.int 16)], []), (22, [.inr (.inl 88)], []), (22, [.inr (.inl 89)], []), (40, [.inr (.inl 87), .inr (.inl 90)], [.inr (.inl 86)]), (0, [.inr (.inl 87), .inl (.int 1)], [])]) (P := [(5, .inl (.int 2000), .inr (.inl 0)), (6, .inr (.inl 0), .inl (.ref 2000)), (5, .inl (.int 2000), .inr (.inl 87)), (6, .inr (.inl 87), .inl (.ref 2000)), (4, .inl (.int 2000), .inr (.inl 92))]) jm_ok116 (by decide +kernel) (by decide +kernel) hd F X1 X2 (fun F' hF hs => ?_)
  have b0 := hd_b (F := F) (F' := F') (k := 0) (hF 0 (by decide))
  have t87 : sy_dv F' (.inr (.inl 87)) = .int ((sy_i F 0) + ((1 : Int32))) := hd_o (hs 4 _ rfl) b0 rfl rfl
  have t92 : sy_dv F' (.inr (.inl 92)) = .int (((sy_i F 0) + ((1 : Int32))) + ((1 : Int32))) := hd_o (hs 9 _ rfl) t87 rfl rfl
  have b82 := hd_b (F := F) (F' := F') (k := 82) (hF 82 (by decide))
  have t88 : sy_dv F' (.inr (.inl 88)) = .int ((((sy_i F 82)).toUInt32 >>> ((((16 : Int32))).toUInt32 &&& Int32.toUInt32 31)).toInt32) := hd_o (hs 5 _ rfl) b82 rfl rfl
  have t89 : sy_dv F' (.inr (.inl 89)) = .int (((((sy_i F 82)).toUInt32 >>> ((((16 : Int32))).toUInt32 &&& Int32.toUInt32 31)).toInt32).toInt8.toInt32) := hd_u (hs 6 _ rfl) t88 rfl
  have t90 : sy_dv F' (.inr (.inl 90)) = .int ((((((sy_i F 82)).toUInt32 >>> ((((16 : Int32))).toUInt32 &&& Int32.toUInt32 31)).toInt32).toInt8.toInt32).toInt8.toInt32) := hd_u (hs 7 _ rfl) t89 rfl
  have t83 : sy_dv F' (.inr (.inl 83)) = .int ((((sy_i F 82)).toUInt32 >>> ((((24 : Int32))).toUInt32 &&& Int32.toUInt32 31)).toInt32) := hd_o (hs 0 _ rfl) b82 rfl rfl
  have t84 : sy_dv F' (.inr (.inl 84)) = .int (((((sy_i F 82)).toUInt32 >>> ((((24 : Int32))).toUInt32 &&& Int32.toUInt32 31)).toInt32).toInt8.toInt32) := hd_u (hs 1 _ rfl) t83 rfl
  have t85 : sy_dv F' (.inr (.inl 85)) = .int ((((((sy_i F 82)).toUInt32 >>> ((((24 : Int32))).toUInt32 &&& Int32.toUInt32 31)).toInt32).toInt8.toInt32).toInt8.toInt32) := hd_u (hs 2 _ rfl) t84 rfl
  have a2 := hd_ba (F := F) (F' := F') (k := 2) (hF 2 (by decide))
  have t86 : sy_da F' (.inr (.inl 86)) = .inl (jm_upd (sy_ai F 2) (sy_i F 0).toNatClampNeg ((((((sy_i F 82)).toUInt32 >>> ((((24 : Int32))).toUInt32 &&& Int32.toUInt32 31)).toInt32).toInt8.toInt32).toInt8.toInt32)) := hd_up (hs 3 _ rfl) b0 t85 a2
  have t91 : sy_da F' (.inr (.inl 91)) = .inl (jm_upd (jm_upd (sy_ai F 2) (sy_i F 0).toNatClampNeg ((((((sy_i F 82)).toUInt32 >>> ((((24 : Int32))).toUInt32 &&& Int32.toUInt32 31)).toInt32).toInt8.toInt32).toInt8.toInt32)) ((sy_i F 0) + ((1 : Int32))).toNatClampNeg ((((((sy_i F 82)).toUInt32 >>> ((((16 : Int32))).toUInt32 &&& Int32.toUInt32 31)).toInt32).toInt8.toInt32).toInt8.toInt32)) := hd_up (hs 8 _ rfl) t87 t90 t86
  have hB' : iv_in F' iv_B0 := iv_in_eq hB (fun j hj => hF j (Nat.lt_of_lt_of_le hj (by decide +kernel)))
  refine ⟨List.forall_mem_cons.mpr ⟨hd_p5 rfl b0 (by have hc : ((2000) : Int32).toInt = 2000 := (by decide); omega), List.forall_mem_cons.mpr ⟨hd_pb b0 (by first | exact h1 | exact h1), List.forall_mem_cons.mpr ⟨hd_p5 rfl t87 (by have hc : ((2000) : Int32).toInt = 2000 := (by decide); omega), List.forall_mem_cons.mpr ⟨hd_pb t87 (by first | exact h3 | exact h3), List.forall_mem_cons.mpr ⟨hd_p4 rfl t92 (by have hc : ((2000) : Int32).toInt = 2000 := (by decide); omega), fun _ h => absurd h List.not_mem_nil⟩⟩⟩⟩⟩, ?_⟩
  refine k _ ?_ ?_ ?_
  · exact fun j hj hn => (hd_keep hB' (Nat.lt_of_lt_of_le hj (by decide +kernel)) (by simp; omega)).trans (hF j (Nat.lt_of_lt_of_le hj (by decide)))
  · exact hd_gi (x := .inr (.inl 92)) (by decide +kernel) t92
  · exact hd_ga (a := .inr (.inl 91)) (by decide +kernel) t91
theorem k2oap_0_p3 {Ls : Nat} {xs : Nat → Int32} {d : Nat} {Q : Option Value → jm_h → Prop} (hd : 1 ≤ d) (F : Nat → sy_d) (X1 X2 : List jm_c) (hB : iv_in F iv_B0)
    (h0 : (sy_i F 0).toInt < 2000)
    (h1 : 0 ≤ (sy_i F 0).toInt ∧ (sy_i F 0).toInt < 2000)
    (h2 : ((sy_i F 0) + ((1 : Int32))).toInt < 2000)
    (h3 : 0 ≤ ((sy_i F 0) + ((1 : Int32))).toInt ∧ ((sy_i F 0) + ((1 : Int32))).toInt < 2000)
    (h4 : (((sy_i F 0) + ((1 : Int32))) + ((1 : Int32))).toInt < 2000)
    (h5 : 0 ≤ (((sy_i F 0) + ((1 : Int32))) + ((1 : Int32))).toInt ∧ (((sy_i F 0) + ((1 : Int32))) + ((1 : Int32))).toInt < 2000)
    (h6 : 2000 ≤ ((((sy_i F 0) + ((1 : Int32))) + ((1 : Int32))) + ((1 : Int32))).toInt)
    (k : ∀ F1 : Nat → sy_d, (∀ j, j < 82 → j ≠ 0 ∧ j ≠ 2 → F1 j = F j) → F1 0 = .inl (.int ((((sy_i F 0) + ((1 : Int32))) + ((1 : Int32))) + ((1 : Int32)))) → F1 2 = .inr (.inl (jm_upd (jm_upd (jm_upd (sy_ai F 2) (sy_i F 0).toNatClampNeg ((((((sy_i F 82)).toUInt32 >>> ((((24 : Int32))).toUInt32 &&& Int32.toUInt32 31)).toInt32).toInt8.toInt32).toInt8.toInt32)) ((sy_i F 0) + ((1 : Int32))).toNatClampNeg ((((((sy_i F 82)).toUInt32 >>> ((((16 : Int32))).toUInt32 &&& Int32.toUInt32 31)).toInt32).toInt8.toInt32).toInt8.toInt32)) (((sy_i F 0) + ((1 : Int32))) + ((1 : Int32))).toNatClampNeg ((((((sy_i F 82)).toUInt32 >>> ((((8 : Int32))).toUInt32 &&& Int32.toUInt32 31)).toInt32).toInt8.toInt32).toInt8.toInt32))) → Q (none) (sy_dh F1 X1 X2 (iv_H 2))) :
    hd_W Ls xs d jm_M116 Q (0, sy_dL F [some (.inl (.ref 8)), some (.inr (.inl 82)), none], sy_dS F [], sy_dh F X1 X2 (iv_H 2), 0, 0) := by
  refine hd_ret (s := 2) (nv := 83) (v := none) (uh := hd_ov (iv_id 0 iv_B0) [(0, .inl (.inr (.inl 97))), (2, .inr (.inr (.inl 96)))]) (f := true) (sp := []) (d0 := 0) (O := [false, false, false, true]) (T := [(8, [.inr (.inl 82), .inl (.int 24)], []), (22, [.inr (.inl 83)], []), (22, [.inr (.inl 84)], []), (40, [.inr (.inl 0), .inr (.inl 85)], [.inr (.inl 2)]), (0, [.inr (.inl 0), .inl (.int 1)], []), (8, [.inr (.inl 82), .inl (.int 16)], []), (22, [.inr (.inl 88)], []), (22, [.inr (.inl 89)], []), (40, [.inr (.inl 87), .inr (.inl 90)], [.inr (.inl 86)]), (0, [.inr (.inl 87), .inl (.int 1)], []), (8, [.inr (.inl 82), .inl (.int 8)], []), (22, [.inr (.inl 93)], []), (22, [.inr (.inl 94)], []), (40, [.inr (.inl 92), .inr (.inl 95)], [.inr (.inl 91)]), (0, [.inr (.inl 92), .inl (.int 1)], [])]) (P := [(5, .inl (.int 2000), .inr (.inl 0)), (6, .inr (.inl 0), .inl (.ref 2000)), (5, .inl (.int 2000), .inr (.inl 87)), (6, .inr (.inl 87), .inl (.ref 2000)), (5, .inl (.int 2000), .inr (.inl 92)), (6, .inr (.inl 92), .inl (.ref 2000)), (4, .inl (.int 2000), .inr (.inl 97))]) jm_ok116 (by decide +kernel) (by decide +kernel) hd F X1 X2 (fun F' hF hs => ?_)
  have b0 := hd_b (F := F) (F' := F') (k := 0) (hF 0 (by decide))
  have t87 : sy_dv F' (.inr (.inl 87)) = .int ((sy_i F 0) + ((1 : Int32))) := hd_o (hs 4 _ rfl) b0 rfl rfl
  have t92 : sy_dv F' (.inr (.inl 92)) = .int (((sy_i F 0) + ((1 : Int32))) + ((1 : Int32))) := hd_o (hs 9 _ rfl) t87 rfl rfl
  have t97 : sy_dv F' (.inr (.inl 97)) = .int ((((sy_i F 0) + ((1 : Int32))) + ((1 : Int32))) + ((1 : Int32))) := hd_o (hs 14 _ rfl) t92 rfl rfl
  have b82 := hd_b (F := F) (F' := F') (k := 82) (hF 82 (by decide))
  have t93 : sy_dv F' (.inr (.inl 93)) = .int ((((sy_i F 82)).toUInt32 >>> ((((8 : Int32))).toUInt32 &&& Int32.toUInt32 31)).toInt32) := hd_o (hs 10 _ rfl) b82 rfl rfl
  have t94 : sy_dv F' (.inr (.inl 94)) = .int (((((sy_i F 82)).toUInt32 >>> ((((8 : Int32))).toUInt32 &&& Int32.toUInt32 31)).toInt32).toInt8.toInt32) := hd_u (hs 11 _ rfl) t93 rfl
  have t95 : sy_dv F' (.inr (.inl 95)) = .int ((((((sy_i F 82)).toUInt32 >>> ((((8 : Int32))).toUInt32 &&& Int32.toUInt32 31)).toInt32).toInt8.toInt32).toInt8.toInt32) := hd_u (hs 12 _ rfl) t94 rfl
  have t88 : sy_dv F' (.inr (.inl 88)) = .int ((((sy_i F 82)).toUInt32 >>> ((((16 : Int32))).toUInt32 &&& Int32.toUInt32 31)).toInt32) := hd_o (hs 5 _ rfl) b82 rfl rfl
  have t89 : sy_dv F' (.inr (.inl 89)) = .int (((((sy_i F 82)).toUInt32 >>> ((((16 : Int32))).toUInt32 &&& Int32.toUInt32 31)).toInt32).toInt8.toInt32) := hd_u (hs 6 _ rfl) t88 rfl
  have t90 : sy_dv F' (.inr (.inl 90)) = .int ((((((sy_i F 82)).toUInt32 >>> ((((16 : Int32))).toUInt32 &&& Int32.toUInt32 31)).toInt32).toInt8.toInt32).toInt8.toInt32) := hd_u (hs 7 _ rfl) t89 rfl
  have t83 : sy_dv F' (.inr (.inl 83)) = .int ((((sy_i F 82)).toUInt32 >>> ((((24 : Int32))).toUInt32 &&& Int32.toUInt32 31)).toInt32) := hd_o (hs 0 _ rfl) b82 rfl rfl
  have t84 : sy_dv F' (.inr (.inl 84)) = .int (((((sy_i F 82)).toUInt32 >>> ((((24 : Int32))).toUInt32 &&& Int32.toUInt32 31)).toInt32).toInt8.toInt32) := hd_u (hs 1 _ rfl) t83 rfl
  have t85 : sy_dv F' (.inr (.inl 85)) = .int ((((((sy_i F 82)).toUInt32 >>> ((((24 : Int32))).toUInt32 &&& Int32.toUInt32 31)).toInt32).toInt8.toInt32).toInt8.toInt32) := hd_u (hs 2 _ rfl) t84 rfl
  have a2 := hd_ba (F := F) (F' := F') (k := 2) (hF 2 (by decide))
  have t86 : sy_da F' (.inr (.inl 86)) = .inl (jm_upd (sy_ai F 2) (sy_i F 0).toNatClampNeg ((((((sy_i F 82)).toUInt32 >>> ((((24 : Int32))).toUInt32 &&& Int32.toUInt32 31)).toInt32).toInt8.toInt32).toInt8.toInt32)) := hd_up (hs 3 _ rfl) b0 t85 a2
  have t91 : sy_da F' (.inr (.inl 91)) = .inl (jm_upd (jm_upd (sy_ai F 2) (sy_i F 0).toNatClampNeg ((((((sy_i F 82)).toUInt32 >>> ((((24 : Int32))).toUInt32 &&& Int32.toUInt32 31)).toInt32).toInt8.toInt32).toInt8.toInt32)) ((sy_i F 0) + ((1 : Int32))).toNatClampNeg ((((((sy_i F 82)).toUInt32 >>> ((((16 : Int32))).toUInt32 &&& Int32.toUInt32 31)).toInt32).toInt8.toInt32).toInt8.toInt32)) := hd_up (hs 8 _ rfl) t87 t90 t86
  have t96 : sy_da F' (.inr (.inl 96)) = .inl (jm_upd (jm_upd (jm_upd (sy_ai F 2) (sy_i F 0).toNatClampNeg ((((((sy_i F 82)).toUInt32 >>> ((((24 : Int32))).toUInt32 &&& Int32.toUInt32 31)).toInt32).toInt8.toInt32).toInt8.toInt32)) ((sy_i F 0) + ((1 : Int32))).toNatClampNeg ((((((sy_i F 82)).toUInt32 >>> ((((16 : Int32))).toUInt32 &&& Int32.toUInt32 31)).toInt32).toInt8.toInt32).toInt8.toInt32)) (((sy_i F 0) + ((1 : Int32))) + ((1 : Int32))).toNatClampNeg ((((((sy_i F 82)).toUInt32 >>> ((((8 : Int32))).toUInt32 &&& Int32.toUInt32 31)).toInt32).toInt8.toInt32).toInt8.toInt32)) := hd_up (hs 13 _ rfl) t92 t95 t91
  have hB' : iv_in F' iv_B0 := iv_in_eq hB (fun j hj => hF j (Nat.lt_of_lt_of_le hj (by decide +kernel)))
  refine ⟨List.forall_mem_cons.mpr ⟨hd_p5 rfl b0 (by have hc : ((2000) : Int32).toInt = 2000 := (by decide); omega), List.forall_mem_cons.mpr ⟨hd_pb b0 (by first | exact h1 | exact h1), List.forall_mem_cons.mpr ⟨hd_p5 rfl t87 (by have hc : ((2000) : Int32).toInt = 2000 := (by decide); omega), List.forall_mem_cons.mpr ⟨hd_pb t87 (by first | exact h3 | exact h3), List.forall_mem_cons.mpr ⟨hd_p5 rfl t92 (by have hc : ((2000) : Int32).toInt = 2000 := (by decide); omega), List.forall_mem_cons.mpr ⟨hd_pb t92 (by first | exact h5 | exact h5), List.forall_mem_cons.mpr ⟨hd_p4 rfl t97 (by have hc : ((2000) : Int32).toInt = 2000 := (by decide); omega), fun _ h => absurd h List.not_mem_nil⟩⟩⟩⟩⟩⟩⟩, ?_⟩
  refine k _ ?_ ?_ ?_
  · exact fun j hj hn => (hd_keep hB' (Nat.lt_of_lt_of_le hj (by decide +kernel)) (by simp; omega)).trans (hF j (Nat.lt_of_lt_of_le hj (by decide)))
  · exact hd_gi (x := .inr (.inl 97)) (by decide +kernel) t97
  · exact hd_ga (a := .inr (.inl 96)) (by decide +kernel) t96
theorem k2oap_0_p4 {Ls : Nat} {xs : Nat → Int32} {d : Nat} {Q : Option Value → jm_h → Prop} (hd : 1 ≤ d) (F : Nat → sy_d) (X1 X2 : List jm_c) (hB : iv_in F iv_B0)
    (h0 : (sy_i F 0).toInt < 2000)
    (h1 : 0 ≤ (sy_i F 0).toInt ∧ (sy_i F 0).toInt < 2000)
    (h2 : ((sy_i F 0) + ((1 : Int32))).toInt < 2000)
    (h3 : 0 ≤ ((sy_i F 0) + ((1 : Int32))).toInt ∧ ((sy_i F 0) + ((1 : Int32))).toInt < 2000)
    (h4 : (((sy_i F 0) + ((1 : Int32))) + ((1 : Int32))).toInt < 2000)
    (h5 : 0 ≤ (((sy_i F 0) + ((1 : Int32))) + ((1 : Int32))).toInt ∧ (((sy_i F 0) + ((1 : Int32))) + ((1 : Int32))).toInt < 2000)
    (h6 : ((((sy_i F 0) + ((1 : Int32))) + ((1 : Int32))) + ((1 : Int32))).toInt < 2000)
    (h7 : 0 ≤ ((((sy_i F 0) + ((1 : Int32))) + ((1 : Int32))) + ((1 : Int32))).toInt ∧ ((((sy_i F 0) + ((1 : Int32))) + ((1 : Int32))) + ((1 : Int32))).toInt < 2000)
    (k : ∀ F1 : Nat → sy_d, (∀ j, j < 82 → j ≠ 0 ∧ j ≠ 2 → F1 j = F j) → F1 0 = .inl (.int (((((sy_i F 0) + ((1 : Int32))) + ((1 : Int32))) + ((1 : Int32))) + ((1 : Int32)))) → F1 2 = .inr (.inl (jm_upd (jm_upd (jm_upd (jm_upd (sy_ai F 2) (sy_i F 0).toNatClampNeg ((((((sy_i F 82)).toUInt32 >>> ((((24 : Int32))).toUInt32 &&& Int32.toUInt32 31)).toInt32).toInt8.toInt32).toInt8.toInt32)) ((sy_i F 0) + ((1 : Int32))).toNatClampNeg ((((((sy_i F 82)).toUInt32 >>> ((((16 : Int32))).toUInt32 &&& Int32.toUInt32 31)).toInt32).toInt8.toInt32).toInt8.toInt32)) (((sy_i F 0) + ((1 : Int32))) + ((1 : Int32))).toNatClampNeg ((((((sy_i F 82)).toUInt32 >>> ((((8 : Int32))).toUInt32 &&& Int32.toUInt32 31)).toInt32).toInt8.toInt32).toInt8.toInt32)) ((((sy_i F 0) + ((1 : Int32))) + ((1 : Int32))) + ((1 : Int32))).toNatClampNeg ((((((sy_i F 82)).toUInt32 >>> ((((0 : Int32))).toUInt32 &&& Int32.toUInt32 31)).toInt32).toInt8.toInt32).toInt8.toInt32))) → Q (none) (sy_dh F1 X1 X2 (iv_H 2))) :
    hd_W Ls xs d jm_M116 Q (0, sy_dL F [some (.inl (.ref 8)), some (.inr (.inl 82)), none], sy_dS F [], sy_dh F X1 X2 (iv_H 2), 0, 0) := by
  refine hd_ret (s := 2) (nv := 83) (v := none) (uh := hd_ov (iv_id 0 iv_B0) [(0, .inl (.inr (.inl 102))), (2, .inr (.inr (.inl 101)))]) (f := true) (sp := []) (d0 := 0) (O := [false, false, false, false]) (T := [(8, [.inr (.inl 82), .inl (.int 24)], []), (22, [.inr (.inl 83)], []), (22, [.inr (.inl 84)], []), (40, [.inr (.inl 0), .inr (.inl 85)], [.inr (.inl 2)]), (0, [.inr (.inl 0), .inl (.int 1)], []), (8, [.inr (.inl 82), .inl (.int 16)], []), (22, [.inr (.inl 88)], []), (22, [.inr (.inl 89)], []), (40, [.inr (.inl 87), .inr (.inl 90)], [.inr (.inl 86)]), (0, [.inr (.inl 87), .inl (.int 1)], []), (8, [.inr (.inl 82), .inl (.int 8)], []), (22, [.inr (.inl 93)], []), (22, [.inr (.inl 94)], []), (40, [.inr (.inl 92), .inr (.inl 95)], [.inr (.inl 91)]), (0, [.inr (.inl 92), .inl (.int 1)], []), (8, [.inr (.inl 82), .inl (.int 0)], []), (22, [.inr (.inl 98)], []), (22, [.inr (.inl 99)], []), (40, [.inr (.inl 97), .inr (.inl 100)], [.inr (.inl 96)]), (0, [.inr (.inl 97), .inl (.int 1)], [])]) (P := [(5, .inl (.int 2000), .inr (.inl 0)), (6, .inr (.inl 0), .inl (.ref 2000)), (5, .inl (.int 2000), .inr (.inl 87)), (6, .inr (.inl 87), .inl (.ref 2000)), (5, .inl (.int 2000), .inr (.inl 92)), (6, .inr (.inl 92), .inl (.ref 2000)), (5, .inl (.int 2000), .inr (.inl 97)), (6, .inr (.inl 97), .inl (.ref 2000))]) jm_ok116 (by decide +kernel) (by decide +kernel) hd F X1 X2 (fun F' hF hs => ?_)
  have b0 := hd_b (F := F) (F' := F') (k := 0) (hF 0 (by decide))
  have t87 : sy_dv F' (.inr (.inl 87)) = .int ((sy_i F 0) + ((1 : Int32))) := hd_o (hs 4 _ rfl) b0 rfl rfl
  have t92 : sy_dv F' (.inr (.inl 92)) = .int (((sy_i F 0) + ((1 : Int32))) + ((1 : Int32))) := hd_o (hs 9 _ rfl) t87 rfl rfl
  have t97 : sy_dv F' (.inr (.inl 97)) = .int ((((sy_i F 0) + ((1 : Int32))) + ((1 : Int32))) + ((1 : Int32))) := hd_o (hs 14 _ rfl) t92 rfl rfl
  have t102 : sy_dv F' (.inr (.inl 102)) = .int (((((sy_i F 0) + ((1 : Int32))) + ((1 : Int32))) + ((1 : Int32))) + ((1 : Int32))) := hd_o (hs 19 _ rfl) t97 rfl rfl
  have b82 := hd_b (F := F) (F' := F') (k := 82) (hF 82 (by decide))
  have t98 : sy_dv F' (.inr (.inl 98)) = .int ((((sy_i F 82)).toUInt32 >>> ((((0 : Int32))).toUInt32 &&& Int32.toUInt32 31)).toInt32) := hd_o (hs 15 _ rfl) b82 rfl rfl
  have t99 : sy_dv F' (.inr (.inl 99)) = .int (((((sy_i F 82)).toUInt32 >>> ((((0 : Int32))).toUInt32 &&& Int32.toUInt32 31)).toInt32).toInt8.toInt32) := hd_u (hs 16 _ rfl) t98 rfl
  have t100 : sy_dv F' (.inr (.inl 100)) = .int ((((((sy_i F 82)).toUInt32 >>> ((((0 : Int32))).toUInt32 &&& Int32.toUInt32 31)).toInt32).toInt8.toInt32).toInt8.toInt32) := hd_u (hs 17 _ rfl) t99 rfl
  have t93 : sy_dv F' (.inr (.inl 93)) = .int ((((sy_i F 82)).toUInt32 >>> ((((8 : Int32))).toUInt32 &&& Int32.toUInt32 31)).toInt32) := hd_o (hs 10 _ rfl) b82 rfl rfl
  have t94 : sy_dv F' (.inr (.inl 94)) = .int (((((sy_i F 82)).toUInt32 >>> ((((8 : Int32))).toUInt32 &&& Int32.toUInt32 31)).toInt32).toInt8.toInt32) := hd_u (hs 11 _ rfl) t93 rfl
  have t95 : sy_dv F' (.inr (.inl 95)) = .int ((((((sy_i F 82)).toUInt32 >>> ((((8 : Int32))).toUInt32 &&& Int32.toUInt32 31)).toInt32).toInt8.toInt32).toInt8.toInt32) := hd_u (hs 12 _ rfl) t94 rfl
  have t88 : sy_dv F' (.inr (.inl 88)) = .int ((((sy_i F 82)).toUInt32 >>> ((((16 : Int32))).toUInt32 &&& Int32.toUInt32 31)).toInt32) := hd_o (hs 5 _ rfl) b82 rfl rfl
  have t89 : sy_dv F' (.inr (.inl 89)) = .int (((((sy_i F 82)).toUInt32 >>> ((((16 : Int32))).toUInt32 &&& Int32.toUInt32 31)).toInt32).toInt8.toInt32) := hd_u (hs 6 _ rfl) t88 rfl
  have t90 : sy_dv F' (.inr (.inl 90)) = .int ((((((sy_i F 82)).toUInt32 >>> ((((16 : Int32))).toUInt32 &&& Int32.toUInt32 31)).toInt32).toInt8.toInt32).toInt8.toInt32) := hd_u (hs 7 _ rfl) t89 rfl
  have t83 : sy_dv F' (.inr (.inl 83)) = .int ((((sy_i F 82)).toUInt32 >>> ((((24 : Int32))).toUInt32 &&& Int32.toUInt32 31)).toInt32) := hd_o (hs 0 _ rfl) b82 rfl rfl
  have t84 : sy_dv F' (.inr (.inl 84)) = .int (((((sy_i F 82)).toUInt32 >>> ((((24 : Int32))).toUInt32 &&& Int32.toUInt32 31)).toInt32).toInt8.toInt32) := hd_u (hs 1 _ rfl) t83 rfl
  have t85 : sy_dv F' (.inr (.inl 85)) = .int ((((((sy_i F 82)).toUInt32 >>> ((((24 : Int32))).toUInt32 &&& Int32.toUInt32 31)).toInt32).toInt8.toInt32).toInt8.toInt32) := hd_u (hs 2 _ rfl) t84 rfl
  have a2 := hd_ba (F := F) (F' := F') (k := 2) (hF 2 (by decide))
  have t86 : sy_da F' (.inr (.inl 86)) = .inl (jm_upd (sy_ai F 2) (sy_i F 0).toNatClampNeg ((((((sy_i F 82)).toUInt32 >>> ((((24 : Int32))).toUInt32 &&& Int32.toUInt32 31)).toInt32).toInt8.toInt32).toInt8.toInt32)) := hd_up (hs 3 _ rfl) b0 t85 a2
  have t91 : sy_da F' (.inr (.inl 91)) = .inl (jm_upd (jm_upd (sy_ai F 2) (sy_i F 0).toNatClampNeg ((((((sy_i F 82)).toUInt32 >>> ((((24 : Int32))).toUInt32 &&& Int32.toUInt32 31)).toInt32).toInt8.toInt32).toInt8.toInt32)) ((sy_i F 0) + ((1 : Int32))).toNatClampNeg ((((((sy_i F 82)).toUInt32 >>> ((((16 : Int32))).toUInt32 &&& Int32.toUInt32 31)).toInt32).toInt8.toInt32).toInt8.toInt32)) := hd_up (hs 8 _ rfl) t87 t90 t86
  have t96 : sy_da F' (.inr (.inl 96)) = .inl (jm_upd (jm_upd (jm_upd (sy_ai F 2) (sy_i F 0).toNatClampNeg ((((((sy_i F 82)).toUInt32 >>> ((((24 : Int32))).toUInt32 &&& Int32.toUInt32 31)).toInt32).toInt8.toInt32).toInt8.toInt32)) ((sy_i F 0) + ((1 : Int32))).toNatClampNeg ((((((sy_i F 82)).toUInt32 >>> ((((16 : Int32))).toUInt32 &&& Int32.toUInt32 31)).toInt32).toInt8.toInt32).toInt8.toInt32)) (((sy_i F 0) + ((1 : Int32))) + ((1 : Int32))).toNatClampNeg ((((((sy_i F 82)).toUInt32 >>> ((((8 : Int32))).toUInt32 &&& Int32.toUInt32 31)).toInt32).toInt8.toInt32).toInt8.toInt32)) := hd_up (hs 13 _ rfl) t92 t95 t91
  have t101 : sy_da F' (.inr (.inl 101)) = .inl (jm_upd (jm_upd (jm_upd (jm_upd (sy_ai F 2) (sy_i F 0).toNatClampNeg ((((((sy_i F 82)).toUInt32 >>> ((((24 : Int32))).toUInt32 &&& Int32.toUInt32 31)).toInt32).toInt8.toInt32).toInt8.toInt32)) ((sy_i F 0) + ((1 : Int32))).toNatClampNeg ((((((sy_i F 82)).toUInt32 >>> ((((16 : Int32))).toUInt32 &&& Int32.toUInt32 31)).toInt32).toInt8.toInt32).toInt8.toInt32)) (((sy_i F 0) + ((1 : Int32))) + ((1 : Int32))).toNatClampNeg ((((((sy_i F 82)).toUInt32 >>> ((((8 : Int32))).toUInt32 &&& Int32.toUInt32 31)).toInt32).toInt8.toInt32).toInt8.toInt32)) ((((sy_i F 0) + ((1 : Int32))) + ((1 : Int32))) + ((1 : Int32))).toNatClampNeg ((((((sy_i F 82)).toUInt32 >>> ((((0 : Int32))).toUInt32 &&& Int32.toUInt32 31)).toInt32).toInt8.toInt32).toInt8.toInt32)) := hd_up (hs 18 _ rfl) t97 t100 t96
  have hB' : iv_in F' iv_B0 := iv_in_eq hB (fun j hj => hF j (Nat.lt_of_lt_of_le hj (by decide +kernel)))
  refine ⟨List.forall_mem_cons.mpr ⟨hd_p5 rfl b0 (by have hc : ((2000) : Int32).toInt = 2000 := (by decide); omega), List.forall_mem_cons.mpr ⟨hd_pb b0 (by first | exact h1 | exact h1), List.forall_mem_cons.mpr ⟨hd_p5 rfl t87 (by have hc : ((2000) : Int32).toInt = 2000 := (by decide); omega), List.forall_mem_cons.mpr ⟨hd_pb t87 (by first | exact h3 | exact h3), List.forall_mem_cons.mpr ⟨hd_p5 rfl t92 (by have hc : ((2000) : Int32).toInt = 2000 := (by decide); omega), List.forall_mem_cons.mpr ⟨hd_pb t92 (by first | exact h5 | exact h5), List.forall_mem_cons.mpr ⟨hd_p5 rfl t97 (by have hc : ((2000) : Int32).toInt = 2000 := (by decide); omega), List.forall_mem_cons.mpr ⟨hd_pb t97 (by first | exact h7 | exact h7), fun _ h => absurd h List.not_mem_nil⟩⟩⟩⟩⟩⟩⟩⟩, ?_⟩
  refine k _ ?_ ?_ ?_
  · exact fun j hj hn => (hd_keep hB' (Nat.lt_of_lt_of_le hj (by decide +kernel)) (by simp; omega)).trans (hF j (Nat.lt_of_lt_of_le hj (by decide)))
  · exact hd_gi (x := .inr (.inl 102)) (by decide +kernel) t102
  · exact hd_ga (a := .inr (.inl 101)) (by decide +kernel) t101
theorem k2oap_0 {Ls : Nat} {xs : Nat → Int32} {d : Nat} {Q : Option Value → jm_h → Prop} (hd : 1 ≤ d) (F : Nat → sy_d) (X1 X2 : List jm_c) (hB : iv_in F iv_B0)
    (k0 : 2000 ≤ (sy_i F 0).toInt → ∀ F1 : Nat → sy_d, iv_in F1 iv_B0 → (∀ j, j < 82 → j ∉ ([] : List Nat) → F1 j = F j) → (sy_i F1 0).toInt = (sy_i F 0).toInt → sy_ai F1 2 = sy_ai F 2 → Q (none) (sy_dh F1 X1 X2 (iv_H 2)))
    (k1 : (sy_i F 0).toInt < 2000 → 2000 ≤ ((sy_i F 0).toInt + 1) → ∀ F1 : Nat → sy_d, iv_in F1 iv_B0 → (∀ j, j < 82 → j ∉ ([0, 2] : List Nat) → F1 j = F j) → (sy_i F1 0).toInt = ((sy_i F 0).toInt + 1) → sy_ai F1 2 = jm_upd (sy_ai F 2) ((sy_i F 0).toInt).toNat ((((((sy_i F 82)).toUInt32 >>> ((((24 : Int32))).toUInt32 &&& Int32.toUInt32 31)).toInt32).toInt8.toInt32).toInt8.toInt32) → Q (none) (sy_dh F1 X1 X2 (iv_H 2)))
    (k2 : (sy_i F 0).toInt < 2000 → ((sy_i F 0).toInt + 1) < 2000 → 2000 ≤ (((sy_i F 0).toInt + 1) + 1) → ∀ F1 : Nat → sy_d, iv_in F1 iv_B0 → (∀ j, j < 82 → j ∉ ([0, 2] : List Nat) → F1 j = F j) → (sy_i F1 0).toInt = (((sy_i F 0).toInt + 1) + 1) → sy_ai F1 2 = jm_upd (jm_upd (sy_ai F 2) ((sy_i F 0).toInt).toNat ((((((sy_i F 82)).toUInt32 >>> ((((24 : Int32))).toUInt32 &&& Int32.toUInt32 31)).toInt32).toInt8.toInt32).toInt8.toInt32)) (((sy_i F 0).toInt + 1)).toNat ((((((sy_i F 82)).toUInt32 >>> ((((16 : Int32))).toUInt32 &&& Int32.toUInt32 31)).toInt32).toInt8.toInt32).toInt8.toInt32) → Q (none) (sy_dh F1 X1 X2 (iv_H 2)))
    (k3 : (sy_i F 0).toInt < 2000 → ((sy_i F 0).toInt + 1) < 2000 → (((sy_i F 0).toInt + 1) + 1) < 2000 → 2000 ≤ ((((sy_i F 0).toInt + 1) + 1) + 1) → ∀ F1 : Nat → sy_d, iv_in F1 iv_B0 → (∀ j, j < 82 → j ∉ ([0, 2] : List Nat) → F1 j = F j) → (sy_i F1 0).toInt = ((((sy_i F 0).toInt + 1) + 1) + 1) → sy_ai F1 2 = jm_upd (jm_upd (jm_upd (sy_ai F 2) ((sy_i F 0).toInt).toNat ((((((sy_i F 82)).toUInt32 >>> ((((24 : Int32))).toUInt32 &&& Int32.toUInt32 31)).toInt32).toInt8.toInt32).toInt8.toInt32)) (((sy_i F 0).toInt + 1)).toNat ((((((sy_i F 82)).toUInt32 >>> ((((16 : Int32))).toUInt32 &&& Int32.toUInt32 31)).toInt32).toInt8.toInt32).toInt8.toInt32)) ((((sy_i F 0).toInt + 1) + 1)).toNat ((((((sy_i F 82)).toUInt32 >>> ((((8 : Int32))).toUInt32 &&& Int32.toUInt32 31)).toInt32).toInt8.toInt32).toInt8.toInt32) → Q (none) (sy_dh F1 X1 X2 (iv_H 2)))
    (k4 : (sy_i F 0).toInt < 2000 → ((sy_i F 0).toInt + 1) < 2000 → (((sy_i F 0).toInt + 1) + 1) < 2000 → ((((sy_i F 0).toInt + 1) + 1) + 1) < 2000 → ∀ F1 : Nat → sy_d, iv_in F1 iv_B0 → (∀ j, j < 82 → j ∉ ([0, 2] : List Nat) → F1 j = F j) → (sy_i F1 0).toInt = (((((sy_i F 0).toInt + 1) + 1) + 1) + 1) → sy_ai F1 2 = jm_upd (jm_upd (jm_upd (jm_upd (sy_ai F 2) ((sy_i F 0).toInt).toNat ((((((sy_i F 82)).toUInt32 >>> ((((24 : Int32))).toUInt32 &&& Int32.toUInt32 31)).toInt32).toInt8.toInt32).toInt8.toInt32)) (((sy_i F 0).toInt + 1)).toNat ((((((sy_i F 82)).toUInt32 >>> ((((16 : Int32))).toUInt32 &&& Int32.toUInt32 31)).toInt32).toInt8.toInt32).toInt8.toInt32)) ((((sy_i F 0).toInt + 1) + 1)).toNat ((((((sy_i F 82)).toUInt32 >>> ((((8 : Int32))).toUInt32 &&& Int32.toUInt32 31)).toInt32).toInt8.toInt32).toInt8.toInt32)) (((((sy_i F 0).toInt + 1) + 1) + 1)).toNat ((((((sy_i F 82)).toUInt32 >>> ((((0 : Int32))).toUInt32 &&& Int32.toUInt32 31)).toInt32).toInt8.toInt32).toInt8.toInt32) → Q (none) (sy_dh F1 X1 X2 (iv_H 2))) :
    hd_W Ls xs d jm_M116 Q (0, sy_dL F [some (.inl (.ref 8)), some (.inr (.inl 82)), none], sy_dS F [], sy_dh F X1 X2 (iv_H 2), 0, 0) := by
  by_cases g0 : 2000 ≤ (sy_i F 0).toInt
  · have c0 := nz_bx hB (k := 0) (lo := 0) (hi := 2000) rfl
    exact k2oap_0_p0 hd F X1 X2 hB (by first | exact g0 | (simp only [nz_c]; exact g0)) (fun F1 g  => k0 g0 F1 (nz_in0 hB [] (fun j hj hn => g j hj (by simp only [List.mem_cons, List.not_mem_nil, or_false, not_or] at hn; exact trivial)) (List.forall_mem_nil _)) (fun j hj hn => g j hj (by simp only [List.mem_cons, List.not_mem_nil, or_false, not_or] at hn; exact trivial)) (nz_fi (g 0 (by decide) (by decide))) (nz_fa (g 2 (by decide) (by decide))))
  replace g0 : (sy_i F 0).toInt < 2000 := by omega
  by_cases g1 : 2000 ≤ ((sy_i F 0).toInt + 1)
  · have c0 := nz_bx hB (k := 0) (lo := 0) (hi := 2000) rfl
    have n87 : ((sy_i F 0) + ((1 : Int32))).toInt = ((sy_i F 0).toInt + 1) := nz_add (rfl : (sy_i F 0).toInt = (sy_i F 0).toInt) (by decide : ((1 : Int32)).toInt = 1) (by omega) (by omega)
    have n85 : ((((((sy_i F 82)).toUInt32 >>> ((((24 : Int32))).toUInt32 &&& Int32.toUInt32 31)).toInt32).toInt8.toInt32).toInt8.toInt32).toInt = ((((((sy_i F 82)).toUInt32 >>> ((((24 : Int32))).toUInt32 &&& Int32.toUInt32 31)).toInt32).toInt8.toInt32).toInt8.toInt32).toInt := congrArg Int32.toInt (rfl : (((((sy_i F 82)).toUInt32 >>> ((((24 : Int32))).toUInt32 &&& Int32.toUInt32 31)).toInt32).toInt8.toInt32).toInt8.toInt32 = (((((sy_i F 82)).toUInt32 >>> ((((24 : Int32))).toUInt32 &&& Int32.toUInt32 31)).toInt32).toInt8.toInt32).toInt8.toInt32)
    have r85 := nz_b8 (((((sy_i F 82)).toUInt32 >>> ((((24 : Int32))).toUInt32 &&& Int32.toUInt32 31)).toInt32).toInt8.toInt32)
    have w86 : jm_upd (sy_ai F 2) (sy_i F 0).toNatClampNeg ((((((sy_i F 82)).toUInt32 >>> ((((24 : Int32))).toUInt32 &&& Int32.toUInt32 31)).toInt32).toInt8.toInt32).toInt8.toInt32) = jm_upd (sy_ai F 2) ((sy_i F 0).toInt).toNat ((((((sy_i F 82)).toUInt32 >>> ((((24 : Int32))).toUInt32 &&& Int32.toUInt32 31)).toInt32).toInt8.toInt32).toInt8.toInt32) := by simp only [nz_c, (by decide : ((24 : Int32)).toInt = 24)]
    exact k2oap_0_p1 hd F X1 X2 hB (by first | exact g0 | (simp only [nz_c]; exact g0)) (by first | exact ⟨by omega, by omega⟩ | (simp only [nz_c]; exact ⟨by omega, by omega⟩)) (by first | exact g1 | (simp only [nz_c, n87]; exact g1) | (rw [n87]; exact g1)) (fun F1 g e0 e2 => k1 g0 g1 F1 (nz_in0 hB [0, 2] (fun j hj hn => g j hj (by simp only [List.mem_cons, List.not_mem_nil, or_false, not_or] at hn; omega)) (List.forall_mem_cons.mpr ⟨fun t ht => (Option.some.inj ht) ▸ (nz_hi e0 n87 (by omega) (by omega)), List.forall_mem_cons.mpr ⟨fun t ht => (Option.some.inj ht) ▸ (nz_hA e2 (nz_up (nz_ba hB (k := 2) (lo := (-128)) (hi := 127) rfl) n85 (by omega) (by omega))), List.forall_mem_nil _⟩⟩)) (fun j hj hn => g j hj (by simp only [List.mem_cons, List.not_mem_nil, or_false, not_or] at hn; omega)) ((congrArg Int32.toInt (zz_i e0)).trans n87) ((zz_ai e2).trans w86))
  replace g1 : ((sy_i F 0).toInt + 1) < 2000 := by omega
  by_cases g2 : 2000 ≤ (((sy_i F 0).toInt + 1) + 1)
  · have c0 := nz_bx hB (k := 0) (lo := 0) (hi := 2000) rfl
    have n87 : ((sy_i F 0) + ((1 : Int32))).toInt = ((sy_i F 0).toInt + 1) := nz_add (rfl : (sy_i F 0).toInt = (sy_i F 0).toInt) (by decide : ((1 : Int32)).toInt = 1) (by omega) (by omega)
    have n92 : (((sy_i F 0) + ((1 : Int32))) + ((1 : Int32))).toInt = (((sy_i F 0).toInt + 1) + 1) := nz_add n87 (by decide : ((1 : Int32)).toInt = 1) (by omega) (by omega)
    have n90 : ((((((sy_i F 82)).toUInt32 >>> ((((16 : Int32))).toUInt32 &&& Int32.toUInt32 31)).toInt32).toInt8.toInt32).toInt8.toInt32).toInt = ((((((sy_i F 82)).toUInt32 >>> ((((16 : Int32))).toUInt32 &&& Int32.toUInt32 31)).toInt32).toInt8.toInt32).toInt8.toInt32).toInt := congrArg Int32.toInt (rfl : (((((sy_i F 82)).toUInt32 >>> ((((16 : Int32))).toUInt32 &&& Int32.toUInt32 31)).toInt32).toInt8.toInt32).toInt8.toInt32 = (((((sy_i F 82)).toUInt32 >>> ((((16 : Int32))).toUInt32 &&& Int32.toUInt32 31)).toInt32).toInt8.toInt32).toInt8.toInt32)
    have r90 := nz_b8 (((((sy_i F 82)).toUInt32 >>> ((((16 : Int32))).toUInt32 &&& Int32.toUInt32 31)).toInt32).toInt8.toInt32)
    have n85 : ((((((sy_i F 82)).toUInt32 >>> ((((24 : Int32))).toUInt32 &&& Int32.toUInt32 31)).toInt32).toInt8.toInt32).toInt8.toInt32).toInt = ((((((sy_i F 82)).toUInt32 >>> ((((24 : Int32))).toUInt32 &&& Int32.toUInt32 31)).toInt32).toInt8.toInt32).toInt8.toInt32).toInt := congrArg Int32.toInt (rfl : (((((sy_i F 82)).toUInt32 >>> ((((24 : Int32))).toUInt32 &&& Int32.toUInt32 31)).toInt32).toInt8.toInt32).toInt8.toInt32 = (((((sy_i F 82)).toUInt32 >>> ((((24 : Int32))).toUInt32 &&& Int32.toUInt32 31)).toInt32).toInt8.toInt32).toInt8.toInt32)
    have r85 := nz_b8 (((((sy_i F 82)).toUInt32 >>> ((((24 : Int32))).toUInt32 &&& Int32.toUInt32 31)).toInt32).toInt8.toInt32)
    have w91 : jm_upd (jm_upd (sy_ai F 2) (sy_i F 0).toNatClampNeg ((((((sy_i F 82)).toUInt32 >>> ((((24 : Int32))).toUInt32 &&& Int32.toUInt32 31)).toInt32).toInt8.toInt32).toInt8.toInt32)) ((sy_i F 0) + ((1 : Int32))).toNatClampNeg ((((((sy_i F 82)).toUInt32 >>> ((((16 : Int32))).toUInt32 &&& Int32.toUInt32 31)).toInt32).toInt8.toInt32).toInt8.toInt32) = jm_upd (jm_upd (sy_ai F 2) ((sy_i F 0).toInt).toNat ((((((sy_i F 82)).toUInt32 >>> ((((24 : Int32))).toUInt32 &&& Int32.toUInt32 31)).toInt32).toInt8.toInt32).toInt8.toInt32)) (((sy_i F 0).toInt + 1)).toNat ((((((sy_i F 82)).toUInt32 >>> ((((16 : Int32))).toUInt32 &&& Int32.toUInt32 31)).toInt32).toInt8.toInt32).toInt8.toInt32) := by simp only [nz_c, n87, (by decide : ((1 : Int32)).toInt = 1), (by decide : ((16 : Int32)).toInt = 16), (by decide : ((24 : Int32)).toInt = 24)]
    exact k2oap_0_p2 hd F X1 X2 hB (by first | exact g0 | (simp only [nz_c]; exact g0)) (by first | exact ⟨by omega, by omega⟩ | (simp only [nz_c]; exact ⟨by omega, by omega⟩)) (by first | exact g1 | (simp only [nz_c, n87]; exact g1) | (rw [n87]; exact g1)) (by first | exact ⟨by omega, by omega⟩ | (simp only [nz_c, n87]; exact ⟨by omega, by omega⟩) | (rw [n87]; exact ⟨by omega, by omega⟩)) (by first | exact g2 | (simp only [nz_c, n87, n92]; exact g2) | (rw [n92]; exact g2)) (fun F1 g e0 e2 => k2 g0 g1 g2 F1 (nz_in0 hB [0, 2] (fun j hj hn => g j hj (by simp only [List.mem_cons, List.not_mem_nil, or_false, not_or] at hn; omega)) (List.forall_mem_cons.mpr ⟨fun t ht => (Option.some.inj ht) ▸ (nz_hi e0 n92 (by omega) (by omega)), List.forall_mem_cons.mpr ⟨fun t ht => (Option.some.inj ht) ▸ (nz_hA e2 (nz_up (nz_up (nz_ba hB (k := 2) (lo := (-128)) (hi := 127) rfl) n85 (by omega) (by omega)) n90 (by omega) (by omega))), List.forall_mem_nil _⟩⟩)) (fun j hj hn => g j hj (by simp only [List.mem_cons, List.not_mem_nil, or_false, not_or] at hn; omega)) ((congrArg Int32.toInt (zz_i e0)).trans n92) ((zz_ai e2).trans w91))
  replace g2 : (((sy_i F 0).toInt + 1) + 1) < 2000 := by omega
  by_cases g3 : 2000 ≤ ((((sy_i F 0).toInt + 1) + 1) + 1)
  · have c0 := nz_bx hB (k := 0) (lo := 0) (hi := 2000) rfl
    have n87 : ((sy_i F 0) + ((1 : Int32))).toInt = ((sy_i F 0).toInt + 1) := nz_add (rfl : (sy_i F 0).toInt = (sy_i F 0).toInt) (by decide : ((1 : Int32)).toInt = 1) (by omega) (by omega)
    have n92 : (((sy_i F 0) + ((1 : Int32))) + ((1 : Int32))).toInt = (((sy_i F 0).toInt + 1) + 1) := nz_add n87 (by decide : ((1 : Int32)).toInt = 1) (by omega) (by omega)
    have n97 : ((((sy_i F 0) + ((1 : Int32))) + ((1 : Int32))) + ((1 : Int32))).toInt = ((((sy_i F 0).toInt + 1) + 1) + 1) := nz_add n92 (by decide : ((1 : Int32)).toInt = 1) (by omega) (by omega)
    have n95 : ((((((sy_i F 82)).toUInt32 >>> ((((8 : Int32))).toUInt32 &&& Int32.toUInt32 31)).toInt32).toInt8.toInt32).toInt8.toInt32).toInt = ((((((sy_i F 82)).toUInt32 >>> ((((8 : Int32))).toUInt32 &&& Int32.toUInt32 31)).toInt32).toInt8.toInt32).toInt8.toInt32).toInt := congrArg Int32.toInt (rfl : (((((sy_i F 82)).toUInt32 >>> ((((8 : Int32))).toUInt32 &&& Int32.toUInt32 31)).toInt32).toInt8.toInt32).toInt8.toInt32 = (((((sy_i F 82)).toUInt32 >>> ((((8 : Int32))).toUInt32 &&& Int32.toUInt32 31)).toInt32).toInt8.toInt32).toInt8.toInt32)
    have r95 := nz_b8 (((((sy_i F 82)).toUInt32 >>> ((((8 : Int32))).toUInt32 &&& Int32.toUInt32 31)).toInt32).toInt8.toInt32)
    have n90 : ((((((sy_i F 82)).toUInt32 >>> ((((16 : Int32))).toUInt32 &&& Int32.toUInt32 31)).toInt32).toInt8.toInt32).toInt8.toInt32).toInt = ((((((sy_i F 82)).toUInt32 >>> ((((16 : Int32))).toUInt32 &&& Int32.toUInt32 31)).toInt32).toInt8.toInt32).toInt8.toInt32).toInt := congrArg Int32.toInt (rfl : (((((sy_i F 82)).toUInt32 >>> ((((16 : Int32))).toUInt32 &&& Int32.toUInt32 31)).toInt32).toInt8.toInt32).toInt8.toInt32 = (((((sy_i F 82)).toUInt32 >>> ((((16 : Int32))).toUInt32 &&& Int32.toUInt32 31)).toInt32).toInt8.toInt32).toInt8.toInt32)
    have r90 := nz_b8 (((((sy_i F 82)).toUInt32 >>> ((((16 : Int32))).toUInt32 &&& Int32.toUInt32 31)).toInt32).toInt8.toInt32)
    have n85 : ((((((sy_i F 82)).toUInt32 >>> ((((24 : Int32))).toUInt32 &&& Int32.toUInt32 31)).toInt32).toInt8.toInt32).toInt8.toInt32).toInt = ((((((sy_i F 82)).toUInt32 >>> ((((24 : Int32))).toUInt32 &&& Int32.toUInt32 31)).toInt32).toInt8.toInt32).toInt8.toInt32).toInt := congrArg Int32.toInt (rfl : (((((sy_i F 82)).toUInt32 >>> ((((24 : Int32))).toUInt32 &&& Int32.toUInt32 31)).toInt32).toInt8.toInt32).toInt8.toInt32 = (((((sy_i F 82)).toUInt32 >>> ((((24 : Int32))).toUInt32 &&& Int32.toUInt32 31)).toInt32).toInt8.toInt32).toInt8.toInt32)
    have r85 := nz_b8 (((((sy_i F 82)).toUInt32 >>> ((((24 : Int32))).toUInt32 &&& Int32.toUInt32 31)).toInt32).toInt8.toInt32)
    have w96 : jm_upd (jm_upd (jm_upd (sy_ai F 2) (sy_i F 0).toNatClampNeg ((((((sy_i F 82)).toUInt32 >>> ((((24 : Int32))).toUInt32 &&& Int32.toUInt32 31)).toInt32).toInt8.toInt32).toInt8.toInt32)) ((sy_i F 0) + ((1 : Int32))).toNatClampNeg ((((((sy_i F 82)).toUInt32 >>> ((((16 : Int32))).toUInt32 &&& Int32.toUInt32 31)).toInt32).toInt8.toInt32).toInt8.toInt32)) (((sy_i F 0) + ((1 : Int32))) + ((1 : Int32))).toNatClampNeg ((((((sy_i F 82)).toUInt32 >>> ((((8 : Int32))).toUInt32 &&& Int32.toUInt32 31)).toInt32).toInt8.toInt32).toInt8.toInt32) = jm_upd (jm_upd (jm_upd (sy_ai F 2) ((sy_i F 0).toInt).toNat ((((((sy_i F 82)).toUInt32 >>> ((((24 : Int32))).toUInt32 &&& Int32.toUInt32 31)).toInt32).toInt8.toInt32).toInt8.toInt32)) (((sy_i F 0).toInt + 1)).toNat ((((((sy_i F 82)).toUInt32 >>> ((((16 : Int32))).toUInt32 &&& Int32.toUInt32 31)).toInt32).toInt8.toInt32).toInt8.toInt32)) ((((sy_i F 0).toInt + 1) + 1)).toNat ((((((sy_i F 82)).toUInt32 >>> ((((8 : Int32))).toUInt32 &&& Int32.toUInt32 31)).toInt32).toInt8.toInt32).toInt8.toInt32) := by simp only [nz_c, n87, n92, (by decide : ((1 : Int32)).toInt = 1), (by decide : ((8 : Int32)).toInt = 8), (by decide : ((16 : Int32)).toInt = 16), (by decide : ((24 : Int32)).toInt = 24)]
    exact k2oap_0_p3 hd F X1 X2 hB (by first | exact g0 | (simp only [nz_c]; exact g0)) (by first | exact ⟨by omega, by omega⟩ | (simp only [nz_c]; exact ⟨by omega, by omega⟩)) (by first | exact g1 | (simp only [nz_c, n87]; exact g1) | (rw [n87]; exact g1)) (by first | exact ⟨by omega, by omega⟩ | (simp only [nz_c, n87]; exact ⟨by omega, by omega⟩) | (rw [n87]; exact ⟨by omega, by omega⟩)) (by first | exact g2 | (simp only [nz_c, n87, n92]; exact g2) | (rw [n92]; exact g2)) (by first | exact ⟨by omega, by omega⟩ | (simp only [nz_c, n87, n92]; exact ⟨by omega, by omega⟩) | (rw [n92]; exact ⟨by omega, by omega⟩)) (by first | exact g3 | (simp only [nz_c, n87, n92, n97]; exact g3) | (rw [n97]; exact g3)) (fun F1 g e0 e2 => k3 g0 g1 g2 g3 F1 (nz_in0 hB [0, 2] (fun j hj hn => g j hj (by simp only [List.mem_cons, List.not_mem_nil, or_false, not_or] at hn; omega)) (List.forall_mem_cons.mpr ⟨fun t ht => (Option.some.inj ht) ▸ (nz_hi e0 n97 (by omega) (by omega)), List.forall_mem_cons.mpr ⟨fun t ht => (Option.some.inj ht) ▸ (nz_hA e2 (nz_up (nz_up (nz_up (nz_ba hB (k := 2) (lo := (-128)) (hi := 127) rfl) n85 (by omega) (by omega)) n90 (by omega) (by omega)) n95 (by omega) (by omega))), List.forall_mem_nil _⟩⟩)) (fun j hj hn => g j hj (by simp only [List.mem_cons, List.not_mem_nil, or_false, not_or] at hn; omega)) ((congrArg Int32.toInt (zz_i e0)).trans n97) ((zz_ai e2).trans w96))
  replace g3 : ((((sy_i F 0).toInt + 1) + 1) + 1) < 2000 := by omega
  have c0 := nz_bx hB (k := 0) (lo := 0) (hi := 2000) rfl
  have n87 : ((sy_i F 0) + ((1 : Int32))).toInt = ((sy_i F 0).toInt + 1) := nz_add (rfl : (sy_i F 0).toInt = (sy_i F 0).toInt) (by decide : ((1 : Int32)).toInt = 1) (by omega) (by omega)
  have n92 : (((sy_i F 0) + ((1 : Int32))) + ((1 : Int32))).toInt = (((sy_i F 0).toInt + 1) + 1) := nz_add n87 (by decide : ((1 : Int32)).toInt = 1) (by omega) (by omega)
  have n97 : ((((sy_i F 0) + ((1 : Int32))) + ((1 : Int32))) + ((1 : Int32))).toInt = ((((sy_i F 0).toInt + 1) + 1) + 1) := nz_add n92 (by decide : ((1 : Int32)).toInt = 1) (by omega) (by omega)
  have n102 : (((((sy_i F 0) + ((1 : Int32))) + ((1 : Int32))) + ((1 : Int32))) + ((1 : Int32))).toInt = (((((sy_i F 0).toInt + 1) + 1) + 1) + 1) := nz_add n97 (by decide : ((1 : Int32)).toInt = 1) (by omega) (by omega)
  have n100 : ((((((sy_i F 82)).toUInt32 >>> ((((0 : Int32))).toUInt32 &&& Int32.toUInt32 31)).toInt32).toInt8.toInt32).toInt8.toInt32).toInt = ((((((sy_i F 82)).toUInt32 >>> ((((0 : Int32))).toUInt32 &&& Int32.toUInt32 31)).toInt32).toInt8.toInt32).toInt8.toInt32).toInt := congrArg Int32.toInt (rfl : (((((sy_i F 82)).toUInt32 >>> ((((0 : Int32))).toUInt32 &&& Int32.toUInt32 31)).toInt32).toInt8.toInt32).toInt8.toInt32 = (((((sy_i F 82)).toUInt32 >>> ((((0 : Int32))).toUInt32 &&& Int32.toUInt32 31)).toInt32).toInt8.toInt32).toInt8.toInt32)
  have r100 := nz_b8 (((((sy_i F 82)).toUInt32 >>> ((((0 : Int32))).toUInt32 &&& Int32.toUInt32 31)).toInt32).toInt8.toInt32)
  have n95 : ((((((sy_i F 82)).toUInt32 >>> ((((8 : Int32))).toUInt32 &&& Int32.toUInt32 31)).toInt32).toInt8.toInt32).toInt8.toInt32).toInt = ((((((sy_i F 82)).toUInt32 >>> ((((8 : Int32))).toUInt32 &&& Int32.toUInt32 31)).toInt32).toInt8.toInt32).toInt8.toInt32).toInt := congrArg Int32.toInt (rfl : (((((sy_i F 82)).toUInt32 >>> ((((8 : Int32))).toUInt32 &&& Int32.toUInt32 31)).toInt32).toInt8.toInt32).toInt8.toInt32 = (((((sy_i F 82)).toUInt32 >>> ((((8 : Int32))).toUInt32 &&& Int32.toUInt32 31)).toInt32).toInt8.toInt32).toInt8.toInt32)
  have r95 := nz_b8 (((((sy_i F 82)).toUInt32 >>> ((((8 : Int32))).toUInt32 &&& Int32.toUInt32 31)).toInt32).toInt8.toInt32)
  have n90 : ((((((sy_i F 82)).toUInt32 >>> ((((16 : Int32))).toUInt32 &&& Int32.toUInt32 31)).toInt32).toInt8.toInt32).toInt8.toInt32).toInt = ((((((sy_i F 82)).toUInt32 >>> ((((16 : Int32))).toUInt32 &&& Int32.toUInt32 31)).toInt32).toInt8.toInt32).toInt8.toInt32).toInt := congrArg Int32.toInt (rfl : (((((sy_i F 82)).toUInt32 >>> ((((16 : Int32))).toUInt32 &&& Int32.toUInt32 31)).toInt32).toInt8.toInt32).toInt8.toInt32 = (((((sy_i F 82)).toUInt32 >>> ((((16 : Int32))).toUInt32 &&& Int32.toUInt32 31)).toInt32).toInt8.toInt32).toInt8.toInt32)
  have r90 := nz_b8 (((((sy_i F 82)).toUInt32 >>> ((((16 : Int32))).toUInt32 &&& Int32.toUInt32 31)).toInt32).toInt8.toInt32)
  have n85 : ((((((sy_i F 82)).toUInt32 >>> ((((24 : Int32))).toUInt32 &&& Int32.toUInt32 31)).toInt32).toInt8.toInt32).toInt8.toInt32).toInt = ((((((sy_i F 82)).toUInt32 >>> ((((24 : Int32))).toUInt32 &&& Int32.toUInt32 31)).toInt32).toInt8.toInt32).toInt8.toInt32).toInt := congrArg Int32.toInt (rfl : (((((sy_i F 82)).toUInt32 >>> ((((24 : Int32))).toUInt32 &&& Int32.toUInt32 31)).toInt32).toInt8.toInt32).toInt8.toInt32 = (((((sy_i F 82)).toUInt32 >>> ((((24 : Int32))).toUInt32 &&& Int32.toUInt32 31)).toInt32).toInt8.toInt32).toInt8.toInt32)
  have r85 := nz_b8 (((((sy_i F 82)).toUInt32 >>> ((((24 : Int32))).toUInt32 &&& Int32.toUInt32 31)).toInt32).toInt8.toInt32)
  have w101 : jm_upd (jm_upd (jm_upd (jm_upd (sy_ai F 2) (sy_i F 0).toNatClampNeg ((((((sy_i F 82)).toUInt32 >>> ((((24 : Int32))).toUInt32 &&& Int32.toUInt32 31)).toInt32).toInt8.toInt32).toInt8.toInt32)) ((sy_i F 0) + ((1 : Int32))).toNatClampNeg ((((((sy_i F 82)).toUInt32 >>> ((((16 : Int32))).toUInt32 &&& Int32.toUInt32 31)).toInt32).toInt8.toInt32).toInt8.toInt32)) (((sy_i F 0) + ((1 : Int32))) + ((1 : Int32))).toNatClampNeg ((((((sy_i F 82)).toUInt32 >>> ((((8 : Int32))).toUInt32 &&& Int32.toUInt32 31)).toInt32).toInt8.toInt32).toInt8.toInt32)) ((((sy_i F 0) + ((1 : Int32))) + ((1 : Int32))) + ((1 : Int32))).toNatClampNeg ((((((sy_i F 82)).toUInt32 >>> ((((0 : Int32))).toUInt32 &&& Int32.toUInt32 31)).toInt32).toInt8.toInt32).toInt8.toInt32) = jm_upd (jm_upd (jm_upd (jm_upd (sy_ai F 2) ((sy_i F 0).toInt).toNat ((((((sy_i F 82)).toUInt32 >>> ((((24 : Int32))).toUInt32 &&& Int32.toUInt32 31)).toInt32).toInt8.toInt32).toInt8.toInt32)) (((sy_i F 0).toInt + 1)).toNat ((((((sy_i F 82)).toUInt32 >>> ((((16 : Int32))).toUInt32 &&& Int32.toUInt32 31)).toInt32).toInt8.toInt32).toInt8.toInt32)) ((((sy_i F 0).toInt + 1) + 1)).toNat ((((((sy_i F 82)).toUInt32 >>> ((((8 : Int32))).toUInt32 &&& Int32.toUInt32 31)).toInt32).toInt8.toInt32).toInt8.toInt32)) (((((sy_i F 0).toInt + 1) + 1) + 1)).toNat ((((((sy_i F 82)).toUInt32 >>> ((((0 : Int32))).toUInt32 &&& Int32.toUInt32 31)).toInt32).toInt8.toInt32).toInt8.toInt32) := by simp only [nz_c, n87, n92, n97, (by decide : ((0 : Int32)).toInt = 0), (by decide : ((1 : Int32)).toInt = 1), (by decide : ((8 : Int32)).toInt = 8), (by decide : ((16 : Int32)).toInt = 16), (by decide : ((24 : Int32)).toInt = 24)]
  exact k2oap_0_p4 hd F X1 X2 hB (by first | exact g0 | (simp only [nz_c]; exact g0)) (by first | exact ⟨by omega, by omega⟩ | (simp only [nz_c]; exact ⟨by omega, by omega⟩)) (by first | exact g1 | (simp only [nz_c, n87]; exact g1) | (rw [n87]; exact g1)) (by first | exact ⟨by omega, by omega⟩ | (simp only [nz_c, n87]; exact ⟨by omega, by omega⟩) | (rw [n87]; exact ⟨by omega, by omega⟩)) (by first | exact g2 | (simp only [nz_c, n87, n92]; exact g2) | (rw [n92]; exact g2)) (by first | exact ⟨by omega, by omega⟩ | (simp only [nz_c, n87, n92]; exact ⟨by omega, by omega⟩) | (rw [n92]; exact ⟨by omega, by omega⟩)) (by first | exact g3 | (simp only [nz_c, n87, n92, n97]; exact g3) | (rw [n97]; exact g3)) (by first | exact ⟨by omega, by omega⟩ | (simp only [nz_c, n87, n92, n97]; exact ⟨by omega, by omega⟩) | (rw [n97]; exact ⟨by omega, by omega⟩)) (fun F1 g e0 e2 => k4 g0 g1 g2 g3 F1 (nz_in0 hB [0, 2] (fun j hj hn => g j hj (by simp only [List.mem_cons, List.not_mem_nil, or_false, not_or] at hn; omega)) (List.forall_mem_cons.mpr ⟨fun t ht => (Option.some.inj ht) ▸ (nz_hi e0 n102 (by omega) (by omega)), List.forall_mem_cons.mpr ⟨fun t ht => (Option.some.inj ht) ▸ (nz_hA e2 (nz_up (nz_up (nz_up (nz_up (nz_ba hB (k := 2) (lo := (-128)) (hi := 127) rfl) n85 (by omega) (by omega)) n90 (by omega) (by omega)) n95 (by omega) (by omega)) n100 (by omega) (by omega))), List.forall_mem_nil _⟩⟩)) (fun j hj hn => g j hj (by simp only [List.mem_cons, List.not_mem_nil, or_false, not_or] at hn; omega)) ((congrArg Int32.toInt (zz_i e0)).trans n102) ((zz_ai e2).trans w101))
theorem k2ofd_0_p0 {Ls : Nat} {xs : Nat → Int32} {d : Nat} {Q : Option Value → jm_h → Prop} (hd : 2 ≤ d) (F : Nat → sy_d) (X1 X2 : List jm_c) (hB : iv_in F iv_B0)
    (h0 : ((sy_i F 0) + ((20 : Int32))).toInt ≤ 2000)
    (k : ∀ F1 : Nat → sy_d, (∀ j, j < 82 → True → F1 j = F j) → F1 82 = .inl (.int (sy_i F 82)) → F1 83 = .inl (.int (sy_i F 83)) → F1 84 = .inl (.int (sy_i F 84)) → F1 85 = .inl (.int (sy_i F 85)) → F1 86 = .inl (.int (sy_i F 86)) → hd_W Ls xs d jm_M81 Q (17, sy_dL F1 [some (.inl (.ref 8)), some (.inr (.inl 82)), some (.inr (.inl 83)), some (.inr (.inl 84)), some (.inr (.inl 85)), some (.inr (.inl 86))], sy_dS F1 [.inr (.inl 82), .inl (.ref 8)], sy_dh F1 X1 X2 (iv_H 2), 0, 0)) :
    hd_W Ls xs d jm_M81 Q (0, sy_dL F [some (.inl (.ref 8)), some (.inr (.inl 82)), some (.inr (.inl 83)), some (.inr (.inl 84)), some (.inr (.inl 85)), some (.inr (.inl 86))], sy_dS F [], sy_dh F X1 X2 (iv_H 2), 0, 0) := by
  refine hd_run (s := 2) (nv := 87) (pc := 17) (L := [some (.inl (.ref 8)), some (.inr (.inl 82)), some (.inr (.inl 83)), some (.inr (.inl 84)), some (.inr (.inl 85)), some (.inr (.inl 86))]) (S := [.inr (.inl 82), .inl (.ref 8)]) (uh := hd_ov (iv_id 0 iv_B0) []) (ul := [.inl (.inr (.inl 82)), .inl (.inr (.inl 83)), .inl (.inr (.inl 84)), .inl (.inr (.inl 85)), .inl (.inr (.inl 86))]) (f := true) (sp := [17]) (d0 := 1) (O := [true]) (T := [(0, [.inr (.inl 0), .inl (.int 20)], [])]) (P := [(4, .inr (.inl 87), .inl (.int 2000))]) jm_ok81 (by decide +kernel) (by decide +kernel) hd F X1 X2 (fun F' hF hs => ?_)
  have b0 := hd_b (F := F) (F' := F') (k := 0) (hF 0 (by decide))
  have t87 : sy_dv F' (.inr (.inl 87)) = .int ((sy_i F 0) + ((20 : Int32))) := hd_o (hs 0 _ rfl) b0 rfl rfl
  have b82 := hd_b (F := F) (F' := F') (k := 82) (hF 82 (by decide))
  have b83 := hd_b (F := F) (F' := F') (k := 83) (hF 83 (by decide))
  have b84 := hd_b (F := F) (F' := F') (k := 84) (hF 84 (by decide))
  have b85 := hd_b (F := F) (F' := F') (k := 85) (hF 85 (by decide))
  have b86 := hd_b (F := F) (F' := F') (k := 86) (hF 86 (by decide))
  have hB' : iv_in F' iv_B0 := iv_in_eq hB (fun j hj => hF j (Nat.lt_of_lt_of_le hj (by decide +kernel)))
  refine ⟨List.forall_mem_cons.mpr ⟨hd_p4 t87 rfl (by have hc : ((2000) : Int32).toInt = 2000 := (by decide); omega), fun _ h => absurd h List.not_mem_nil⟩, ?_⟩
  refine k _ ?_ ?_ ?_ ?_ ?_ ?_
  · exact fun j hj _ => (hd_keep hB' (Nat.lt_of_lt_of_le hj (by decide +kernel)) (by simp)).trans (hF j (Nat.lt_of_lt_of_le hj (by decide)))
  · exact hd_gi (x := .inr (.inl 82)) (by decide +kernel) b82
  · exact hd_gi (x := .inr (.inl 83)) (by decide +kernel) b83
  · exact hd_gi (x := .inr (.inl 84)) (by decide +kernel) b84
  · exact hd_gi (x := .inr (.inl 85)) (by decide +kernel) b85
  · exact hd_gi (x := .inr (.inl 86)) (by decide +kernel) b86
theorem k2ofd_0_p1 {Ls : Nat} {xs : Nat → Int32} {d : Nat} {Q : Option Value → jm_h → Prop} (hd : 2 ≤ d) (F : Nat → sy_d) (X1 X2 : List jm_c) (hB : iv_in F iv_B0)
    (h0 : 2000 < ((sy_i F 0) + ((20 : Int32))).toInt)
    (k : ∀ F1 : Nat → sy_d, (∀ j, j < 82 → True → F1 j = F j) → Q (some (.int (((-1) : Int32)))) (sy_dh F1 X1 X2 (iv_H 2))) :
    hd_W Ls xs d jm_M81 Q (0, sy_dL F [some (.inl (.ref 8)), some (.inr (.inl 82)), some (.inr (.inl 83)), some (.inr (.inl 84)), some (.inr (.inl 85)), some (.inr (.inl 86))], sy_dS F [], sy_dh F X1 X2 (iv_H 2), 0, 0) := by
  refine hd_ret (s := 2) (nv := 87) (v := some (.inl (.int (-1)))) (uh := hd_ov (iv_id 0 iv_B0) []) (f := true) (sp := [17]) (d0 := 1) (O := [false]) (T := [(0, [.inr (.inl 0), .inl (.int 20)], [])]) (P := [(5, .inr (.inl 87), .inl (.int 2000))]) jm_ok81 (by decide +kernel) (by decide +kernel) hd F X1 X2 (fun F' hF hs => ?_)
  have b0 := hd_b (F := F) (F' := F') (k := 0) (hF 0 (by decide))
  have t87 : sy_dv F' (.inr (.inl 87)) = .int ((sy_i F 0) + ((20 : Int32))) := hd_o (hs 0 _ rfl) b0 rfl rfl
  have hB' : iv_in F' iv_B0 := iv_in_eq hB (fun j hj => hF j (Nat.lt_of_lt_of_le hj (by decide +kernel)))
  refine ⟨List.forall_mem_cons.mpr ⟨hd_p5 t87 rfl (by have hc : ((2000) : Int32).toInt = 2000 := (by decide); omega), fun _ h => absurd h List.not_mem_nil⟩, ?_⟩
  refine k _ ?_
  · exact fun j hj _ => (hd_keep hB' (Nat.lt_of_lt_of_le hj (by decide +kernel)) (by simp)).trans (hF j (Nat.lt_of_lt_of_le hj (by decide)))
theorem k2ofd_0 {Ls : Nat} {xs : Nat → Int32} {d : Nat} {Q : Option Value → jm_h → Prop} (hd : 2 ≤ d) (F : Nat → sy_d) (X1 X2 : List jm_c) (hB : iv_in F iv_B0)
    (k0 : ((sy_i F 0).toInt + 20) ≤ 2000 → ∀ F1 : Nat → sy_d, iv_in F1 iv_B0 → (∀ j, j < 82 → j ∉ ([] : List Nat) → F1 j = F j) → (sy_i F1 0).toInt = (sy_i F 0).toInt → (sy_i F1 1).toInt = (sy_i F 1).toInt → (sy_i F1 79).toInt = (sy_i F 79).toInt → sy_ai F1 2 = sy_ai F 2 → sy_ai F1 78 = sy_ai F 78 → (sy_i F1 82).toInt = (sy_i F 82).toInt → (sy_i F1 83).toInt = (sy_i F 83).toInt → (sy_i F1 84).toInt = (sy_i F 84).toInt → (sy_i F1 85).toInt = (sy_i F 85).toInt → (sy_i F1 86).toInt = (sy_i F 86).toInt → hd_W Ls xs d jm_M81 Q (17, sy_dL F1 [some (.inl (.ref 8)), some (.inr (.inl 82)), some (.inr (.inl 83)), some (.inr (.inl 84)), some (.inr (.inl 85)), some (.inr (.inl 86))], sy_dS F1 [.inr (.inl 82), .inl (.ref 8)], sy_dh F1 X1 X2 (iv_H 2), 0, 0))
    (k1 : 2000 < ((sy_i F 0).toInt + 20) → ∀ F1 : Nat → sy_d, iv_in F1 iv_B0 → (∀ j, j < 82 → j ∉ ([] : List Nat) → F1 j = F j) → (sy_i F1 0).toInt = (sy_i F 0).toInt → (sy_i F1 1).toInt = (sy_i F 1).toInt → (sy_i F1 79).toInt = (sy_i F 79).toInt → sy_ai F1 2 = sy_ai F 2 → sy_ai F1 78 = sy_ai F 78 → Q (some (.int (((-1) : Int32)))) (sy_dh F1 X1 X2 (iv_H 2))) :
    hd_W Ls xs d jm_M81 Q (0, sy_dL F [some (.inl (.ref 8)), some (.inr (.inl 82)), some (.inr (.inl 83)), some (.inr (.inl 84)), some (.inr (.inl 85)), some (.inr (.inl 86))], sy_dS F [], sy_dh F X1 X2 (iv_H 2), 0, 0) := by
  by_cases g0 : ((sy_i F 0).toInt + 20) ≤ 2000
  · have c0 := nz_bx hB (k := 0) (lo := 0) (hi := 2000) rfl
    have n87 : ((sy_i F 0) + ((20 : Int32))).toInt = ((sy_i F 0).toInt + 20) := nz_add (rfl : (sy_i F 0).toInt = (sy_i F 0).toInt) (by decide : ((20 : Int32)).toInt = 20) (by omega) (by omega)
    exact k2ofd_0_p0 hd F X1 X2 hB (by first | exact g0 | (simp only [nz_c, n87]; exact g0) | (rw [n87]; exact g0)) (fun F1 g e82 e83 e84 e85 e86 => k0 g0 F1 (nz_in0 hB [] (fun j hj hn => g j hj (by simp only [List.mem_cons, List.not_mem_nil, or_false, not_or] at hn; exact trivial)) (List.forall_mem_nil _)) (fun j hj hn => g j hj (by simp only [List.mem_cons, List.not_mem_nil, or_false, not_or] at hn; exact trivial)) (nz_fi (g 0 (by decide) (by decide))) (nz_fi (g 1 (by decide) (by decide))) (nz_fi (g 79 (by decide) (by decide))) (nz_fa (g 2 (by decide) (by decide))) (nz_fa (g 78 (by decide) (by decide))) ((congrArg Int32.toInt (zz_i e82)).trans (rfl : (sy_i F 82).toInt = (sy_i F 82).toInt)) ((congrArg Int32.toInt (zz_i e83)).trans (rfl : (sy_i F 83).toInt = (sy_i F 83).toInt)) ((congrArg Int32.toInt (zz_i e84)).trans (rfl : (sy_i F 84).toInt = (sy_i F 84).toInt)) ((congrArg Int32.toInt (zz_i e85)).trans (rfl : (sy_i F 85).toInt = (sy_i F 85).toInt)) ((congrArg Int32.toInt (zz_i e86)).trans (rfl : (sy_i F 86).toInt = (sy_i F 86).toInt)))
  replace g0 : 2000 < ((sy_i F 0).toInt + 20) := by omega
  have c0 := nz_bx hB (k := 0) (lo := 0) (hi := 2000) rfl
  have n87 : ((sy_i F 0) + ((20 : Int32))).toInt = ((sy_i F 0).toInt + 20) := nz_add (rfl : (sy_i F 0).toInt = (sy_i F 0).toInt) (by decide : ((20 : Int32)).toInt = 20) (by omega) (by omega)
  exact k2ofd_0_p1 hd F X1 X2 hB (by first | exact g0 | (simp only [nz_c, n87]; exact g0) | (rw [n87]; exact g0)) (fun F1 g  => k1 g0 F1 (nz_in0 hB [] (fun j hj hn => g j hj (by simp only [List.mem_cons, List.not_mem_nil, or_false, not_or] at hn; exact trivial)) (List.forall_mem_nil _)) (fun j hj hn => g j hj (by simp only [List.mem_cons, List.not_mem_nil, or_false, not_or] at hn; exact trivial)) (nz_fi (g 0 (by decide) (by decide))) (nz_fi (g 1 (by decide) (by decide))) (nz_fi (g 79 (by decide) (by decide))) (nz_fa (g 2 (by decide) (by decide))) (nz_fa (g 78 (by decide) (by decide))))
theorem k2ofd_20_p0 {Ls : Nat} {xs : Nat → Int32} {d : Nat} {Q : Option Value → jm_h → Prop} (hd : 2 ≤ d) (F : Nat → sy_d) (X1 X2 : List jm_c) (hB : iv_in F iv_B0)
    (k : ∀ F1 : Nat → sy_d, (∀ j, j < 82 → True → F1 j = F j) → F1 82 = .inl (.int (sy_i F 82)) → F1 83 = .inl (.int (sy_i F 83)) → F1 84 = .inl (.int (sy_i F 84)) → F1 85 = .inl (.int (sy_i F 85)) → F1 86 = .inl (.int (sy_i F 86)) → hd_W Ls xs d jm_M81 Q (22, sy_dL F1 [some (.inl (.ref 8)), some (.inr (.inl 82)), some (.inr (.inl 83)), some (.inr (.inl 84)), some (.inr (.inl 85)), some (.inr (.inl 86))], sy_dS F1 [.inr (.inl 83), .inl (.ref 8)], sy_dh F1 X1 X2 (iv_H 2), 0, 0)) :
    hd_W Ls xs d jm_M81 Q (20, sy_dL F [some (.inl (.ref 8)), some (.inr (.inl 82)), some (.inr (.inl 83)), some (.inr (.inl 84)), some (.inr (.inl 85)), some (.inr (.inl 86))], sy_dS F [], sy_dh F X1 X2 (iv_H 2), 0, 0) := by
  refine hd_run (s := 2) (nv := 87) (pc := 22) (L := [some (.inl (.ref 8)), some (.inr (.inl 82)), some (.inr (.inl 83)), some (.inr (.inl 84)), some (.inr (.inl 85)), some (.inr (.inl 86))]) (S := [.inr (.inl 83), .inl (.ref 8)]) (uh := hd_ov (iv_id 0 iv_B0) []) (ul := [.inl (.inr (.inl 82)), .inl (.inr (.inl 83)), .inl (.inr (.inl 84)), .inl (.inr (.inl 85)), .inl (.inr (.inl 86))]) (f := false) (sp := [22]) (d0 := 1) (O := []) (T := []) (P := []) jm_ok81 (by decide +kernel) (by decide +kernel) hd F X1 X2 (fun F' hF hs => ?_)
  have b82 := hd_b (F := F) (F' := F') (k := 82) (hF 82 (by decide))
  have b83 := hd_b (F := F) (F' := F') (k := 83) (hF 83 (by decide))
  have b84 := hd_b (F := F) (F' := F') (k := 84) (hF 84 (by decide))
  have b85 := hd_b (F := F) (F' := F') (k := 85) (hF 85 (by decide))
  have b86 := hd_b (F := F) (F' := F') (k := 86) (hF 86 (by decide))
  have hB' : iv_in F' iv_B0 := iv_in_eq hB (fun j hj => hF j (Nat.lt_of_lt_of_le hj (by decide +kernel)))
  refine ⟨fun _ h => absurd h List.not_mem_nil, ?_⟩
  refine k _ ?_ ?_ ?_ ?_ ?_ ?_
  · exact fun j hj _ => (hd_keep hB' (Nat.lt_of_lt_of_le hj (by decide +kernel)) (by simp)).trans (hF j (Nat.lt_of_lt_of_le hj (by decide)))
  · exact hd_gi (x := .inr (.inl 82)) (by decide +kernel) b82
  · exact hd_gi (x := .inr (.inl 83)) (by decide +kernel) b83
  · exact hd_gi (x := .inr (.inl 84)) (by decide +kernel) b84
  · exact hd_gi (x := .inr (.inl 85)) (by decide +kernel) b85
  · exact hd_gi (x := .inr (.inl 86)) (by decide +kernel) b86
theorem k2ofd_20 {Ls : Nat} {xs : Nat → Int32} {d : Nat} {Q : Option Value → jm_h → Prop} (hd : 2 ≤ d) (F : Nat → sy_d) (X1 X2 : List jm_c) (hB : iv_in F iv_B0)
    (k0 : ∀ F1 : Nat → sy_d, iv_in F1 iv_B0 → (∀ j, j < 82 → j ∉ ([] : List Nat) → F1 j = F j) → (sy_i F1 0).toInt = (sy_i F 0).toInt → (sy_i F1 1).toInt = (sy_i F 1).toInt → (sy_i F1 79).toInt = (sy_i F 79).toInt → sy_ai F1 2 = sy_ai F 2 → sy_ai F1 78 = sy_ai F 78 → (sy_i F1 82).toInt = (sy_i F 82).toInt → (sy_i F1 83).toInt = (sy_i F 83).toInt → (sy_i F1 84).toInt = (sy_i F 84).toInt → (sy_i F1 85).toInt = (sy_i F 85).toInt → (sy_i F1 86).toInt = (sy_i F 86).toInt → hd_W Ls xs d jm_M81 Q (22, sy_dL F1 [some (.inl (.ref 8)), some (.inr (.inl 82)), some (.inr (.inl 83)), some (.inr (.inl 84)), some (.inr (.inl 85)), some (.inr (.inl 86))], sy_dS F1 [.inr (.inl 83), .inl (.ref 8)], sy_dh F1 X1 X2 (iv_H 2), 0, 0)) :
    hd_W Ls xs d jm_M81 Q (20, sy_dL F [some (.inl (.ref 8)), some (.inr (.inl 82)), some (.inr (.inl 83)), some (.inr (.inl 84)), some (.inr (.inl 85)), some (.inr (.inl 86))], sy_dS F [], sy_dh F X1 X2 (iv_H 2), 0, 0) := by
  exact k2ofd_20_p0 hd F X1 X2 hB  (fun F1 g e82 e83 e84 e85 e86 => k0 F1 (nz_in0 hB [] (fun j hj hn => g j hj (by simp only [List.mem_cons, List.not_mem_nil, or_false, not_or] at hn; exact trivial)) (List.forall_mem_nil _)) (fun j hj hn => g j hj (by simp only [List.mem_cons, List.not_mem_nil, or_false, not_or] at hn; exact trivial)) (nz_fi (g 0 (by decide) (by decide))) (nz_fi (g 1 (by decide) (by decide))) (nz_fi (g 79 (by decide) (by decide))) (nz_fa (g 2 (by decide) (by decide))) (nz_fa (g 78 (by decide) (by decide))) ((congrArg Int32.toInt (zz_i e82)).trans (rfl : (sy_i F 82).toInt = (sy_i F 82).toInt)) ((congrArg Int32.toInt (zz_i e83)).trans (rfl : (sy_i F 83).toInt = (sy_i F 83).toInt)) ((congrArg Int32.toInt (zz_i e84)).trans (rfl : (sy_i F 84).toInt = (sy_i F 84).toInt)) ((congrArg Int32.toInt (zz_i e85)).trans (rfl : (sy_i F 85).toInt = (sy_i F 85).toInt)) ((congrArg Int32.toInt (zz_i e86)).trans (rfl : (sy_i F 86).toInt = (sy_i F 86).toInt)))
theorem k2ofd_25_p0 {Ls : Nat} {xs : Nat → Int32} {d : Nat} {Q : Option Value → jm_h → Prop} (hd : 2 ≤ d) (F : Nat → sy_d) (X1 X2 : List jm_c) (hB : iv_in F iv_B0)
    (k : ∀ F1 : Nat → sy_d, (∀ j, j < 82 → True → F1 j = F j) → F1 82 = .inl (.int (sy_i F 82)) → F1 83 = .inl (.int (sy_i F 83)) → F1 84 = .inl (.int (sy_i F 84)) → F1 85 = .inl (.int (sy_i F 85)) → F1 86 = .inl (.int (sy_i F 86)) → hd_W Ls xs d jm_M81 Q (27, sy_dL F1 [some (.inl (.ref 8)), some (.inr (.inl 82)), some (.inr (.inl 83)), some (.inr (.inl 84)), some (.inr (.inl 85)), some (.inr (.inl 86))], sy_dS F1 [.inr (.inl 84), .inl (.ref 8)], sy_dh F1 X1 X2 (iv_H 2), 0, 0)) :
    hd_W Ls xs d jm_M81 Q (25, sy_dL F [some (.inl (.ref 8)), some (.inr (.inl 82)), some (.inr (.inl 83)), some (.inr (.inl 84)), some (.inr (.inl 85)), some (.inr (.inl 86))], sy_dS F [], sy_dh F X1 X2 (iv_H 2), 0, 0) := by
  refine hd_run (s := 2) (nv := 87) (pc := 27) (L := [some (.inl (.ref 8)), some (.inr (.inl 82)), some (.inr (.inl 83)), some (.inr (.inl 84)), some (.inr (.inl 85)), some (.inr (.inl 86))]) (S := [.inr (.inl 84), .inl (.ref 8)]) (uh := hd_ov (iv_id 0 iv_B0) []) (ul := [.inl (.inr (.inl 82)), .inl (.inr (.inl 83)), .inl (.inr (.inl 84)), .inl (.inr (.inl 85)), .inl (.inr (.inl 86))]) (f := false) (sp := [27]) (d0 := 1) (O := []) (T := []) (P := []) jm_ok81 (by decide +kernel) (by decide +kernel) hd F X1 X2 (fun F' hF hs => ?_)
  have b82 := hd_b (F := F) (F' := F') (k := 82) (hF 82 (by decide))
  have b83 := hd_b (F := F) (F' := F') (k := 83) (hF 83 (by decide))
  have b84 := hd_b (F := F) (F' := F') (k := 84) (hF 84 (by decide))
  have b85 := hd_b (F := F) (F' := F') (k := 85) (hF 85 (by decide))
  have b86 := hd_b (F := F) (F' := F') (k := 86) (hF 86 (by decide))
  have hB' : iv_in F' iv_B0 := iv_in_eq hB (fun j hj => hF j (Nat.lt_of_lt_of_le hj (by decide +kernel)))
  refine ⟨fun _ h => absurd h List.not_mem_nil, ?_⟩
  refine k _ ?_ ?_ ?_ ?_ ?_ ?_
  · exact fun j hj _ => (hd_keep hB' (Nat.lt_of_lt_of_le hj (by decide +kernel)) (by simp)).trans (hF j (Nat.lt_of_lt_of_le hj (by decide)))
  · exact hd_gi (x := .inr (.inl 82)) (by decide +kernel) b82
  · exact hd_gi (x := .inr (.inl 83)) (by decide +kernel) b83
  · exact hd_gi (x := .inr (.inl 84)) (by decide +kernel) b84
  · exact hd_gi (x := .inr (.inl 85)) (by decide +kernel) b85
  · exact hd_gi (x := .inr (.inl 86)) (by decide +kernel) b86
theorem k2ofd_25 {Ls : Nat} {xs : Nat → Int32} {d : Nat} {Q : Option Value → jm_h → Prop} (hd : 2 ≤ d) (F : Nat → sy_d) (X1 X2 : List jm_c) (hB : iv_in F iv_B0)
    (k0 : ∀ F1 : Nat → sy_d, iv_in F1 iv_B0 → (∀ j, j < 82 → j ∉ ([] : List Nat) → F1 j = F j) → (sy_i F1 0).toInt = (sy_i F 0).toInt → (sy_i F1 1).toInt = (sy_i F 1).toInt → (sy_i F1 79).toInt = (sy_i F 79).toInt → sy_ai F1 2 = sy_ai F 2 → sy_ai F1 78 = sy_ai F 78 → (sy_i F1 82).toInt = (sy_i F 82).toInt → (sy_i F1 83).toInt = (sy_i F 83).toInt → (sy_i F1 84).toInt = (sy_i F 84).toInt → (sy_i F1 85).toInt = (sy_i F 85).toInt → (sy_i F1 86).toInt = (sy_i F 86).toInt → hd_W Ls xs d jm_M81 Q (27, sy_dL F1 [some (.inl (.ref 8)), some (.inr (.inl 82)), some (.inr (.inl 83)), some (.inr (.inl 84)), some (.inr (.inl 85)), some (.inr (.inl 86))], sy_dS F1 [.inr (.inl 84), .inl (.ref 8)], sy_dh F1 X1 X2 (iv_H 2), 0, 0)) :
    hd_W Ls xs d jm_M81 Q (25, sy_dL F [some (.inl (.ref 8)), some (.inr (.inl 82)), some (.inr (.inl 83)), some (.inr (.inl 84)), some (.inr (.inl 85)), some (.inr (.inl 86))], sy_dS F [], sy_dh F X1 X2 (iv_H 2), 0, 0) := by
  exact k2ofd_25_p0 hd F X1 X2 hB  (fun F1 g e82 e83 e84 e85 e86 => k0 F1 (nz_in0 hB [] (fun j hj hn => g j hj (by simp only [List.mem_cons, List.not_mem_nil, or_false, not_or] at hn; exact trivial)) (List.forall_mem_nil _)) (fun j hj hn => g j hj (by simp only [List.mem_cons, List.not_mem_nil, or_false, not_or] at hn; exact trivial)) (nz_fi (g 0 (by decide) (by decide))) (nz_fi (g 1 (by decide) (by decide))) (nz_fi (g 79 (by decide) (by decide))) (nz_fa (g 2 (by decide) (by decide))) (nz_fa (g 78 (by decide) (by decide))) ((congrArg Int32.toInt (zz_i e82)).trans (rfl : (sy_i F 82).toInt = (sy_i F 82).toInt)) ((congrArg Int32.toInt (zz_i e83)).trans (rfl : (sy_i F 83).toInt = (sy_i F 83).toInt)) ((congrArg Int32.toInt (zz_i e84)).trans (rfl : (sy_i F 84).toInt = (sy_i F 84).toInt)) ((congrArg Int32.toInt (zz_i e85)).trans (rfl : (sy_i F 85).toInt = (sy_i F 85).toInt)) ((congrArg Int32.toInt (zz_i e86)).trans (rfl : (sy_i F 86).toInt = (sy_i F 86).toInt)))
theorem k2ofd_30_p0 {Ls : Nat} {xs : Nat → Int32} {d : Nat} {Q : Option Value → jm_h → Prop} (hd : 2 ≤ d) (F : Nat → sy_d) (X1 X2 : List jm_c) (hB : iv_in F iv_B0)
    (k : ∀ F1 : Nat → sy_d, (∀ j, j < 82 → True → F1 j = F j) → F1 82 = .inl (.int (sy_i F 82)) → F1 83 = .inl (.int (sy_i F 83)) → F1 84 = .inl (.int (sy_i F 84)) → F1 85 = .inl (.int (sy_i F 85)) → F1 86 = .inl (.int (sy_i F 86)) → hd_W Ls xs d jm_M81 Q (33, sy_dL F1 [some (.inl (.ref 8)), some (.inr (.inl 82)), some (.inr (.inl 83)), some (.inr (.inl 84)), some (.inr (.inl 85)), some (.inr (.inl 86))], sy_dS F1 [.inr (.inl 85), .inl (.ref 8)], sy_dh F1 X1 X2 (iv_H 2), 0, 0)) :
    hd_W Ls xs d jm_M81 Q (30, sy_dL F [some (.inl (.ref 8)), some (.inr (.inl 82)), some (.inr (.inl 83)), some (.inr (.inl 84)), some (.inr (.inl 85)), some (.inr (.inl 86))], sy_dS F [], sy_dh F X1 X2 (iv_H 2), 0, 0) := by
  refine hd_run (s := 2) (nv := 87) (pc := 33) (L := [some (.inl (.ref 8)), some (.inr (.inl 82)), some (.inr (.inl 83)), some (.inr (.inl 84)), some (.inr (.inl 85)), some (.inr (.inl 86))]) (S := [.inr (.inl 85), .inl (.ref 8)]) (uh := hd_ov (iv_id 0 iv_B0) []) (ul := [.inl (.inr (.inl 82)), .inl (.inr (.inl 83)), .inl (.inr (.inl 84)), .inl (.inr (.inl 85)), .inl (.inr (.inl 86))]) (f := false) (sp := [33]) (d0 := 1) (O := []) (T := []) (P := []) jm_ok81 (by decide +kernel) (by decide +kernel) hd F X1 X2 (fun F' hF hs => ?_)
  have b82 := hd_b (F := F) (F' := F') (k := 82) (hF 82 (by decide))
  have b83 := hd_b (F := F) (F' := F') (k := 83) (hF 83 (by decide))
  have b84 := hd_b (F := F) (F' := F') (k := 84) (hF 84 (by decide))
  have b85 := hd_b (F := F) (F' := F') (k := 85) (hF 85 (by decide))
  have b86 := hd_b (F := F) (F' := F') (k := 86) (hF 86 (by decide))
  have hB' : iv_in F' iv_B0 := iv_in_eq hB (fun j hj => hF j (Nat.lt_of_lt_of_le hj (by decide +kernel)))
  refine ⟨fun _ h => absurd h List.not_mem_nil, ?_⟩
  refine k _ ?_ ?_ ?_ ?_ ?_ ?_
  · exact fun j hj _ => (hd_keep hB' (Nat.lt_of_lt_of_le hj (by decide +kernel)) (by simp)).trans (hF j (Nat.lt_of_lt_of_le hj (by decide)))
  · exact hd_gi (x := .inr (.inl 82)) (by decide +kernel) b82
  · exact hd_gi (x := .inr (.inl 83)) (by decide +kernel) b83
  · exact hd_gi (x := .inr (.inl 84)) (by decide +kernel) b84
  · exact hd_gi (x := .inr (.inl 85)) (by decide +kernel) b85
  · exact hd_gi (x := .inr (.inl 86)) (by decide +kernel) b86
theorem k2ofd_30 {Ls : Nat} {xs : Nat → Int32} {d : Nat} {Q : Option Value → jm_h → Prop} (hd : 2 ≤ d) (F : Nat → sy_d) (X1 X2 : List jm_c) (hB : iv_in F iv_B0)
    (k0 : ∀ F1 : Nat → sy_d, iv_in F1 iv_B0 → (∀ j, j < 82 → j ∉ ([] : List Nat) → F1 j = F j) → (sy_i F1 0).toInt = (sy_i F 0).toInt → (sy_i F1 1).toInt = (sy_i F 1).toInt → (sy_i F1 79).toInt = (sy_i F 79).toInt → sy_ai F1 2 = sy_ai F 2 → sy_ai F1 78 = sy_ai F 78 → (sy_i F1 82).toInt = (sy_i F 82).toInt → (sy_i F1 83).toInt = (sy_i F 83).toInt → (sy_i F1 84).toInt = (sy_i F 84).toInt → (sy_i F1 85).toInt = (sy_i F 85).toInt → (sy_i F1 86).toInt = (sy_i F 86).toInt → hd_W Ls xs d jm_M81 Q (33, sy_dL F1 [some (.inl (.ref 8)), some (.inr (.inl 82)), some (.inr (.inl 83)), some (.inr (.inl 84)), some (.inr (.inl 85)), some (.inr (.inl 86))], sy_dS F1 [.inr (.inl 85), .inl (.ref 8)], sy_dh F1 X1 X2 (iv_H 2), 0, 0)) :
    hd_W Ls xs d jm_M81 Q (30, sy_dL F [some (.inl (.ref 8)), some (.inr (.inl 82)), some (.inr (.inl 83)), some (.inr (.inl 84)), some (.inr (.inl 85)), some (.inr (.inl 86))], sy_dS F [], sy_dh F X1 X2 (iv_H 2), 0, 0) := by
  exact k2ofd_30_p0 hd F X1 X2 hB  (fun F1 g e82 e83 e84 e85 e86 => k0 F1 (nz_in0 hB [] (fun j hj hn => g j hj (by simp only [List.mem_cons, List.not_mem_nil, or_false, not_or] at hn; exact trivial)) (List.forall_mem_nil _)) (fun j hj hn => g j hj (by simp only [List.mem_cons, List.not_mem_nil, or_false, not_or] at hn; exact trivial)) (nz_fi (g 0 (by decide) (by decide))) (nz_fi (g 1 (by decide) (by decide))) (nz_fi (g 79 (by decide) (by decide))) (nz_fa (g 2 (by decide) (by decide))) (nz_fa (g 78 (by decide) (by decide))) ((congrArg Int32.toInt (zz_i e82)).trans (rfl : (sy_i F 82).toInt = (sy_i F 82).toInt)) ((congrArg Int32.toInt (zz_i e83)).trans (rfl : (sy_i F 83).toInt = (sy_i F 83).toInt)) ((congrArg Int32.toInt (zz_i e84)).trans (rfl : (sy_i F 84).toInt = (sy_i F 84).toInt)) ((congrArg Int32.toInt (zz_i e85)).trans (rfl : (sy_i F 85).toInt = (sy_i F 85).toInt)) ((congrArg Int32.toInt (zz_i e86)).trans (rfl : (sy_i F 86).toInt = (sy_i F 86).toInt)))
theorem k2ofd_36_p0 {Ls : Nat} {xs : Nat → Int32} {d : Nat} {Q : Option Value → jm_h → Prop} (hd : 2 ≤ d) (F : Nat → sy_d) (X1 X2 : List jm_c) (hB : iv_in F iv_B0)
    (k : ∀ F1 : Nat → sy_d, (∀ j, j < 82 → True → F1 j = F j) → F1 82 = .inl (.int (sy_i F 82)) → F1 83 = .inl (.int (sy_i F 83)) → F1 84 = .inl (.int (sy_i F 84)) → F1 85 = .inl (.int (sy_i F 85)) → F1 86 = .inl (.int (sy_i F 86)) → hd_W Ls xs d jm_M81 Q (39, sy_dL F1 [some (.inl (.ref 8)), some (.inr (.inl 82)), some (.inr (.inl 83)), some (.inr (.inl 84)), some (.inr (.inl 85)), some (.inr (.inl 86))], sy_dS F1 [.inr (.inl 86), .inl (.ref 8)], sy_dh F1 X1 X2 (iv_H 2), 0, 0)) :
    hd_W Ls xs d jm_M81 Q (36, sy_dL F [some (.inl (.ref 8)), some (.inr (.inl 82)), some (.inr (.inl 83)), some (.inr (.inl 84)), some (.inr (.inl 85)), some (.inr (.inl 86))], sy_dS F [], sy_dh F X1 X2 (iv_H 2), 0, 0) := by
  refine hd_run (s := 2) (nv := 87) (pc := 39) (L := [some (.inl (.ref 8)), some (.inr (.inl 82)), some (.inr (.inl 83)), some (.inr (.inl 84)), some (.inr (.inl 85)), some (.inr (.inl 86))]) (S := [.inr (.inl 86), .inl (.ref 8)]) (uh := hd_ov (iv_id 0 iv_B0) []) (ul := [.inl (.inr (.inl 82)), .inl (.inr (.inl 83)), .inl (.inr (.inl 84)), .inl (.inr (.inl 85)), .inl (.inr (.inl 86))]) (f := false) (sp := [39]) (d0 := 1) (O := []) (T := []) (P := []) jm_ok81 (by decide +kernel) (by decide +kernel) hd F X1 X2 (fun F' hF hs => ?_)
  have b82 := hd_b (F := F) (F' := F') (k := 82) (hF 82 (by decide))
  have b83 := hd_b (F := F) (F' := F') (k := 83) (hF 83 (by decide))
  have b84 := hd_b (F := F) (F' := F') (k := 84) (hF 84 (by decide))
  have b85 := hd_b (F := F) (F' := F') (k := 85) (hF 85 (by decide))
  have b86 := hd_b (F := F) (F' := F') (k := 86) (hF 86 (by decide))
  have hB' : iv_in F' iv_B0 := iv_in_eq hB (fun j hj => hF j (Nat.lt_of_lt_of_le hj (by decide +kernel)))
  refine ⟨fun _ h => absurd h List.not_mem_nil, ?_⟩
  refine k _ ?_ ?_ ?_ ?_ ?_ ?_
  · exact fun j hj _ => (hd_keep hB' (Nat.lt_of_lt_of_le hj (by decide +kernel)) (by simp)).trans (hF j (Nat.lt_of_lt_of_le hj (by decide)))
  · exact hd_gi (x := .inr (.inl 82)) (by decide +kernel) b82
  · exact hd_gi (x := .inr (.inl 83)) (by decide +kernel) b83
  · exact hd_gi (x := .inr (.inl 84)) (by decide +kernel) b84
  · exact hd_gi (x := .inr (.inl 85)) (by decide +kernel) b85
  · exact hd_gi (x := .inr (.inl 86)) (by decide +kernel) b86
theorem k2ofd_36 {Ls : Nat} {xs : Nat → Int32} {d : Nat} {Q : Option Value → jm_h → Prop} (hd : 2 ≤ d) (F : Nat → sy_d) (X1 X2 : List jm_c) (hB : iv_in F iv_B0)
    (k0 : ∀ F1 : Nat → sy_d, iv_in F1 iv_B0 → (∀ j, j < 82 → j ∉ ([] : List Nat) → F1 j = F j) → (sy_i F1 0).toInt = (sy_i F 0).toInt → (sy_i F1 1).toInt = (sy_i F 1).toInt → (sy_i F1 79).toInt = (sy_i F 79).toInt → sy_ai F1 2 = sy_ai F 2 → sy_ai F1 78 = sy_ai F 78 → (sy_i F1 82).toInt = (sy_i F 82).toInt → (sy_i F1 83).toInt = (sy_i F 83).toInt → (sy_i F1 84).toInt = (sy_i F 84).toInt → (sy_i F1 85).toInt = (sy_i F 85).toInt → (sy_i F1 86).toInt = (sy_i F 86).toInt → hd_W Ls xs d jm_M81 Q (39, sy_dL F1 [some (.inl (.ref 8)), some (.inr (.inl 82)), some (.inr (.inl 83)), some (.inr (.inl 84)), some (.inr (.inl 85)), some (.inr (.inl 86))], sy_dS F1 [.inr (.inl 86), .inl (.ref 8)], sy_dh F1 X1 X2 (iv_H 2), 0, 0)) :
    hd_W Ls xs d jm_M81 Q (36, sy_dL F [some (.inl (.ref 8)), some (.inr (.inl 82)), some (.inr (.inl 83)), some (.inr (.inl 84)), some (.inr (.inl 85)), some (.inr (.inl 86))], sy_dS F [], sy_dh F X1 X2 (iv_H 2), 0, 0) := by
  exact k2ofd_36_p0 hd F X1 X2 hB  (fun F1 g e82 e83 e84 e85 e86 => k0 F1 (nz_in0 hB [] (fun j hj hn => g j hj (by simp only [List.mem_cons, List.not_mem_nil, or_false, not_or] at hn; exact trivial)) (List.forall_mem_nil _)) (fun j hj hn => g j hj (by simp only [List.mem_cons, List.not_mem_nil, or_false, not_or] at hn; exact trivial)) (nz_fi (g 0 (by decide) (by decide))) (nz_fi (g 1 (by decide) (by decide))) (nz_fi (g 79 (by decide) (by decide))) (nz_fa (g 2 (by decide) (by decide))) (nz_fa (g 78 (by decide) (by decide))) ((congrArg Int32.toInt (zz_i e82)).trans (rfl : (sy_i F 82).toInt = (sy_i F 82).toInt)) ((congrArg Int32.toInt (zz_i e83)).trans (rfl : (sy_i F 83).toInt = (sy_i F 83).toInt)) ((congrArg Int32.toInt (zz_i e84)).trans (rfl : (sy_i F 84).toInt = (sy_i F 84).toInt)) ((congrArg Int32.toInt (zz_i e85)).trans (rfl : (sy_i F 85).toInt = (sy_i F 85).toInt)) ((congrArg Int32.toInt (zz_i e86)).trans (rfl : (sy_i F 86).toInt = (sy_i F 86).toInt)))
theorem k2ofd_42_p0 {Ls : Nat} {xs : Nat → Int32} {d : Nat} {Q : Option Value → jm_h → Prop} (hd : 2 ≤ d) (F : Nat → sy_d) (X1 X2 : List jm_c) (hB : iv_in F iv_B0)
    (k : ∀ F1 : Nat → sy_d, (∀ j, j < 82 → True → F1 j = F j) → Q (some (.int (sy_i F 0))) (sy_dh F1 X1 X2 (iv_H 2))) :
    hd_W Ls xs d jm_M81 Q (42, sy_dL F [some (.inl (.ref 8)), some (.inr (.inl 82)), some (.inr (.inl 83)), some (.inr (.inl 84)), some (.inr (.inl 85)), some (.inr (.inl 86))], sy_dS F [], sy_dh F X1 X2 (iv_H 2), 0, 0) := by
  refine hd_ret (s := 2) (nv := 87) (v := some (.inr (.inl 0))) (uh := hd_ov (iv_id 0 iv_B0) []) (f := false) (sp := []) (d0 := 1) (O := []) (T := []) (P := []) jm_ok81 (by decide +kernel) (by decide +kernel) hd F X1 X2 (fun F' hF hs => ?_)
  have b0 := hd_b (F := F) (F' := F') (k := 0) (hF 0 (by decide))
  have hB' : iv_in F' iv_B0 := iv_in_eq hB (fun j hj => hF j (Nat.lt_of_lt_of_le hj (by decide +kernel)))
  have hk := k (sy_cm F' (hd_ov (iv_id 0 iv_B0) [] ++ [])) (fun j hj _ => (hd_keep hB' (Nat.lt_of_lt_of_le hj (by decide +kernel)) (by simp)).trans (hF j (Nat.lt_of_lt_of_le hj (by decide))))
  refine ⟨fun _ h => absurd h List.not_mem_nil, ?_⟩
  show Q (some (sy_dv F' (.inr (.inl 0)))) _
  rw [b0]
  exact hk
theorem k2ofd_42 {Ls : Nat} {xs : Nat → Int32} {d : Nat} {Q : Option Value → jm_h → Prop} (hd : 2 ≤ d) (F : Nat → sy_d) (X1 X2 : List jm_c) (hB : iv_in F iv_B0)
    (k0 : ∀ F1 : Nat → sy_d, iv_in F1 iv_B0 → (∀ j, j < 82 → j ∉ ([] : List Nat) → F1 j = F j) → (sy_i F1 0).toInt = (sy_i F 0).toInt → (sy_i F1 1).toInt = (sy_i F 1).toInt → (sy_i F1 79).toInt = (sy_i F 79).toInt → sy_ai F1 2 = sy_ai F 2 → sy_ai F1 78 = sy_ai F 78 → Q (some (.int (sy_i F 0))) (sy_dh F1 X1 X2 (iv_H 2))) :
    hd_W Ls xs d jm_M81 Q (42, sy_dL F [some (.inl (.ref 8)), some (.inr (.inl 82)), some (.inr (.inl 83)), some (.inr (.inl 84)), some (.inr (.inl 85)), some (.inr (.inl 86))], sy_dS F [], sy_dh F X1 X2 (iv_H 2), 0, 0) := by
  exact k2ofd_42_p0 hd F X1 X2 hB  (fun F1 g  => by rw [(rfl : sy_i F 0 = sy_i F 0)]; exact k0 F1 (nz_in0 hB [] (fun j hj hn => g j hj (by simp only [List.mem_cons, List.not_mem_nil, or_false, not_or] at hn; exact trivial)) (List.forall_mem_nil _)) (fun j hj hn => g j hj (by simp only [List.mem_cons, List.not_mem_nil, or_false, not_or] at hn; exact trivial)) (nz_fi (g 0 (by decide) (by decide))) (nz_fi (g 1 (by decide) (by decide))) (nz_fi (g 79 (by decide) (by decide))) (nz_fa (g 2 (by decide) (by decide))) (nz_fa (g 78 (by decide) (by decide))))
theorem k2ord_0_p0 {Ls : Nat} {xs : Nat → Int32} {d : Nat} {Q : Option Value → jm_h → Prop} (hd : 29 ≤ d) (F : Nat → sy_d) (X1 X2 : List jm_c) (hB : iv_in F iv_B0)
    (k : ∀ F1 : Nat → sy_d, (∀ j, j < 82 → True → F1 j = F j) → F1 82 = .inl (.int (sy_i F 0)) → hd_W Ls xs d jm_M83 Q (16, sy_dL F1 [some (.inl (.ref 8)), none, none], sy_dS F1 [.inl (.ref 10), .inr (.inl 82), .inl (.ref 9), .inl (.ref 30)], sy_dh F1 X1 X2 (iv_H 2), 0, 0)) :
    hd_W Ls xs d jm_M83 Q (0, sy_dL F [some (.inl (.ref 8)), none, none], sy_dS F [], sy_dh F X1 X2 (iv_H 2), 0, 0) := by
  refine hd_run (s := 2) (nv := 82) (pc := 16) (L := [some (.inl (.ref 8)), none, none]) (S := [.inl (.ref 10), .inr (.inl 82), .inl (.ref 9), .inl (.ref 30)]) (uh := hd_ov (iv_id 0 iv_B0) []) (ul := [.inl (.inr (.inl 0))]) (f := true) (sp := [16]) (d0 := 28) (O := []) (T := []) (P := []) jm_ok83 (by decide +kernel) (by decide +kernel) hd F X1 X2 (fun F' hF hs => ?_)
  have b0 := hd_b (F := F) (F' := F') (k := 0) (hF 0 (by decide))
  have hB' : iv_in F' iv_B0 := iv_in_eq hB (fun j hj => hF j (Nat.lt_of_lt_of_le hj (by decide +kernel)))
  refine ⟨fun _ h => absurd h List.not_mem_nil, ?_⟩
  refine k _ ?_ ?_
  · exact fun j hj _ => (hd_keep hB' (Nat.lt_of_lt_of_le hj (by decide +kernel)) (by simp)).trans (hF j (Nat.lt_of_lt_of_le hj (by decide)))
  · exact hd_gi (x := .inr (.inl 0)) (by decide +kernel) b0
theorem k2ord_0 {Ls : Nat} {xs : Nat → Int32} {d : Nat} {Q : Option Value → jm_h → Prop} (hd : 29 ≤ d) (F : Nat → sy_d) (X1 X2 : List jm_c) (hB : iv_in F iv_B0)
    (k0 : ∀ F1 : Nat → sy_d, iv_in F1 iv_B0 → (∀ j, j < 82 → j ∉ ([] : List Nat) → F1 j = F j) → (sy_i F1 0).toInt = (sy_i F 0).toInt → (sy_i F1 1).toInt = (sy_i F 1).toInt → (sy_i F1 35).toInt = (sy_i F 35).toInt → (sy_i F1 79).toInt = (sy_i F 79).toInt → sy_ai F1 2 = sy_ai F 2 → sy_ai F1 78 = sy_ai F 78 → (sy_i F1 82).toInt = (sy_i F 0).toInt → hd_W Ls xs d jm_M83 Q (16, sy_dL F1 [some (.inl (.ref 8)), none, none], sy_dS F1 [.inl (.ref 10), .inr (.inl 82), .inl (.ref 9), .inl (.ref 30)], sy_dh F1 X1 X2 (iv_H 2), 0, 0)) :
    hd_W Ls xs d jm_M83 Q (0, sy_dL F [some (.inl (.ref 8)), none, none], sy_dS F [], sy_dh F X1 X2 (iv_H 2), 0, 0) := by
  have c0 := nz_bx hB (k := 0) (lo := 0) (hi := 2000) rfl
  exact k2ord_0_p0 hd F X1 X2 hB  (fun F1 g e82 => k0 F1 (nz_in0 hB [] (fun j hj hn => g j hj (by simp only [List.mem_cons, List.not_mem_nil, or_false, not_or] at hn; exact trivial)) (List.forall_mem_nil _)) (fun j hj hn => g j hj (by simp only [List.mem_cons, List.not_mem_nil, or_false, not_or] at hn; exact trivial)) (nz_fi (g 0 (by decide) (by decide))) (nz_fi (g 1 (by decide) (by decide))) (nz_fi (g 35 (by decide) (by decide))) (nz_fi (g 79 (by decide) (by decide))) (nz_fa (g 2 (by decide) (by decide))) (nz_fa (g 78 (by decide) (by decide))) ((congrArg Int32.toInt (zz_i e82)).trans (rfl : (sy_i F 0).toInt = (sy_i F 0).toInt)))
end
section
/-! ===== the class: the tape, what is told, what is held, way by way (shape 3) ===== -/
theorem k3oap_0_p0 {Ls : Nat} {xs : Nat → Int32} {d : Nat} {Q : Option Value → jm_h → Prop} (hd : 1 ≤ d) (F : Nat → sy_d) (X1 X2 : List jm_c) (hB : iv_in F iv_B0)
    (h0 : 2000 ≤ (sy_i F 0).toInt)
    (k : ∀ F1 : Nat → sy_d, (∀ j, j < 82 → True → F1 j = F j) → Q (none) (sy_dh F1 X1 X2 (iv_H 3))) :
    hd_W Ls xs d jm_M116 Q (0, sy_dL F [some (.inl (.ref 8)), some (.inr (.inl 82)), none], sy_dS F [], sy_dh F X1 X2 (iv_H 3), 0, 0) := by
  refine hd_ret (s := 3) (nv := 83) (v := none) (uh := hd_ov (iv_id 0 iv_B0) []) (f := true) (sp := []) (d0 := 0) (O := [true]) (T := []) (P := [(4, .inl (.int 2000), .inr (.inl 0))]) jm_ok116 (by decide +kernel) (by decide +kernel) hd F X1 X2 (fun F' hF hs => ?_)
  have b0 := hd_b (F := F) (F' := F') (k := 0) (hF 0 (by decide))
  have hB' : iv_in F' iv_B0 := iv_in_eq hB (fun j hj => hF j (Nat.lt_of_lt_of_le hj (by decide +kernel)))
  refine ⟨List.forall_mem_cons.mpr ⟨hd_p4 rfl b0 (by have hc : ((2000) : Int32).toInt = 2000 := (by decide); omega), fun _ h => absurd h List.not_mem_nil⟩, ?_⟩
  refine k _ ?_
  · exact fun j hj _ => (hd_keep hB' (Nat.lt_of_lt_of_le hj (by decide +kernel)) (by simp)).trans (hF j (Nat.lt_of_lt_of_le hj (by decide)))
theorem k3oap_0_p1 {Ls : Nat} {xs : Nat → Int32} {d : Nat} {Q : Option Value → jm_h → Prop} (hd : 1 ≤ d) (F : Nat → sy_d) (X1 X2 : List jm_c) (hB : iv_in F iv_B0)
    (h0 : (sy_i F 0).toInt < 2000)
    (h1 : 0 ≤ (sy_i F 0).toInt ∧ (sy_i F 0).toInt < 2000)
    (h2 : 2000 ≤ ((sy_i F 0) + ((1 : Int32))).toInt)
    (k : ∀ F1 : Nat → sy_d, (∀ j, j < 82 → j ≠ 0 ∧ j ≠ 2 → F1 j = F j) → F1 0 = .inl (.int ((sy_i F 0) + ((1 : Int32)))) → F1 2 = .inr (.inl (jm_upd (sy_ai F 2) (sy_i F 0).toNatClampNeg ((((((sy_i F 82)).toUInt32 >>> ((((24 : Int32))).toUInt32 &&& Int32.toUInt32 31)).toInt32).toInt8.toInt32).toInt8.toInt32))) → Q (none) (sy_dh F1 X1 X2 (iv_H 3))) :
    hd_W Ls xs d jm_M116 Q (0, sy_dL F [some (.inl (.ref 8)), some (.inr (.inl 82)), none], sy_dS F [], sy_dh F X1 X2 (iv_H 3), 0, 0) := by
  refine hd_ret (s := 3) (nv := 83) (v := none) (uh := hd_ov (iv_id 0 iv_B0) [(0, .inl (.inr (.inl 87))), (2, .inr (.inr (.inl 86)))]) (f := true) (sp := []) (d0 := 0) (O := [false, true]) (T := [(8, [.inr (.inl 82), .inl (.int 24)], []), (22, [.inr (.inl 83)], []), (22, [.inr (.inl 84)], []), (40, [.inr (.inl 0), .inr (.inl 85)], [.inr (.inl 2)]), (0, [.inr (.inl 0), .inl (.int 1)], [])]) (P := [(5, .inl (.int 2000), .inr (.inl 0)), (6, .inr (.inl 0), .inl (.ref 2000)), (4, .inl (.int 2000), .inr (.inl 87))]) jm_ok116 (by decide +kernel) (by decide +kernel) hd F X1 X2 (fun F' hF hs => ?_)
  have b0 := hd_b (F := F) (F' := F') (k := 0) (hF 0 (by decide))
  have t87 : sy_dv F' (.inr (.inl 87)) = .int ((sy_i F 0) + ((1 : Int32))) := hd_o (hs 4 _ rfl) b0 rfl rfl
  have b82 := hd_b (F := F) (F' := F') (k := 82) (hF 82 (by decide))
  have t83 : sy_dv F' (.inr (.inl 83)) = .int ((((sy_i F 82)).toUInt32 >>> ((((24 : Int32))).toUInt32 &&& Int32.toUInt32 31)).toInt32) := hd_o (hs 0 _ rfl) b82 rfl rfl
  have t84 : sy_dv F' (.inr (.inl 84)) = .int (((((sy_i F 82)).toUInt32 >>> ((((24 : Int32))).toUInt32 &&& Int32.toUInt32 31)).toInt32).toInt8.toInt32) := hd_u (hs 1 _ rfl) t83 rfl
  have t85 : sy_dv F' (.inr (.inl 85)) = .int ((((((sy_i F 82)).toUInt32 >>> ((((24 : Int32))).toUInt32 &&& Int32.toUInt32 31)).toInt32).toInt8.toInt32).toInt8.toInt32) := hd_u (hs 2 _ rfl) t84 rfl
  have a2 := hd_ba (F := F) (F' := F') (k := 2) (hF 2 (by decide))
  have t86 : sy_da F' (.inr (.inl 86)) = .inl (jm_upd (sy_ai F 2) (sy_i F 0).toNatClampNeg ((((((sy_i F 82)).toUInt32 >>> ((((24 : Int32))).toUInt32 &&& Int32.toUInt32 31)).toInt32).toInt8.toInt32).toInt8.toInt32)) := hd_up (hs 3 _ rfl) b0 t85 a2
  have hB' : iv_in F' iv_B0 := iv_in_eq hB (fun j hj => hF j (Nat.lt_of_lt_of_le hj (by decide +kernel)))
  refine ⟨List.forall_mem_cons.mpr ⟨hd_p5 rfl b0 (by have hc : ((2000) : Int32).toInt = 2000 := (by decide); omega), List.forall_mem_cons.mpr ⟨hd_pb b0 (by first | exact h1 | exact h1), List.forall_mem_cons.mpr ⟨hd_p4 rfl t87 (by have hc : ((2000) : Int32).toInt = 2000 := (by decide); omega), fun _ h => absurd h List.not_mem_nil⟩⟩⟩, ?_⟩
  refine k _ ?_ ?_ ?_
  · exact fun j hj hn => (hd_keep hB' (Nat.lt_of_lt_of_le hj (by decide +kernel)) (by simp; omega)).trans (hF j (Nat.lt_of_lt_of_le hj (by decide)))
  · exact hd_gi (x := .inr (.inl 87)) (by decide +kernel) t87
  · exact hd_ga (a := .inr (.inl 86)) (by decide +kernel) t86
theorem k3oap_0_p2 {Ls : Nat} {xs : Nat → Int32} {d : Nat} {Q : Option Value → jm_h → Prop} (hd : 1 ≤ d) (F : Nat → sy_d) (X1 X2 : List jm_c) (hB : iv_in F iv_B0)
    (h0 : (sy_i F 0).toInt < 2000)
    (h1 : 0 ≤ (sy_i F 0).toInt ∧ (sy_i F 0).toInt < 2000)
    (h2 : ((sy_i F 0) + ((1 : Int32))).toInt < 2000)
    (h3 : 0 ≤ ((sy_i F 0) + ((1 : Int32))).toInt ∧ ((sy_i F 0) + ((1 : Int32))).toInt < 2000)
    (h4 : 2000 ≤ (((sy_i F 0) + ((1 : Int32))) + ((1 : Int32))).toInt)
    (k : ∀ F1 : Nat → sy_d, (∀ j, j < 82 → j ≠ 0 ∧ j ≠ 2 → F1 j = F j) → F1 0 = .inl (.int (((sy_i F 0) + ((1 : Int32))) + ((1 : Int32)))) → F1 2 = .inr (.inl (jm_upd (jm_upd (sy_ai F 2) (sy_i F 0).toNatClampNeg ((((((sy_i F 82)).toUInt32 >>> ((((24 : Int32))).toUInt32 &&& Int32.toUInt32 31)).toInt32).toInt8.toInt32).toInt8.toInt32)) ((sy_i F 0) + ((1 : Int32))).toNatClampNeg ((((((sy_i F 82)).toUInt32 >>> ((((16 : Int32))).toUInt32 &&& Int32.toUInt32 31)).toInt32).toInt8.toInt32).toInt8.toInt32))) → Q (none) (sy_dh F1 X1 X2 (iv_H 3))) :
    hd_W Ls xs d jm_M116 Q (0, sy_dL F [some (.inl (.ref 8)), some (.inr (.inl 82)), none], sy_dS F [], sy_dh F X1 X2 (iv_H 3), 0, 0) := by
  refine hd_ret (s := 3) (nv := 83) (v := none) (uh := hd_ov (iv_id 0 iv_B0) [(0, .inl (.inr (.inl 92))), (2, .inr (.inr (.inl 91)))]) (f := true) (sp := []) (d0 := 0) (O := [false, false, true]) (T := [(8, [.inr (.inl 82), .inl (.int 24)], []), (22, [.inr (.inl 83)], []), (22, [.inr (.inl 84)], []), (40, [.inr (.inl 0), .inr (.inl 85)], [.inr (.inl 2)]), (0, [.inr (.inl 0), .inl (.int 1)], []), (8, [.inr (.inl 82), .inl (.int 16)], []), (22, [.inr (.inl 88)], []), (22, [.inr (.inl 89)], []), (40, [.inr (.inl 87), .inr (.inl 90)], [.inr (.inl 86)]), (0, [.inr (.inl 87), .inl (.int 1)], [])]) (P := [(5, .inl (.int 2000), .inr (.inl 0)), (6, .inr (.inl 0), .inl (.ref 2000)), (5, .inl (.int 2000), .inr (.inl 87)), (6, .inr (.inl 87), .inl (.ref 2000)), (4, .inl (.int 2000), .inr (.inl 92))]) jm_ok116 (by decide +kernel) (by decide +kernel) hd F X1 X2 (fun F' hF hs => ?_)
  have b0 := hd_b (F := F) (F' := F') (k := 0) (hF 0 (by decide))
  have t87 : sy_dv F' (.inr (.inl 87)) = .int ((sy_i F 0) + ((1 : Int32))) := hd_o (hs 4 _ rfl) b0 rfl rfl
  have t92 : sy_dv F' (.inr (.inl 92)) = .int (((sy_i F 0) + ((1 : Int32))) + ((1 : Int32))) := hd_o (hs 9 _ rfl) t87 rfl rfl
  have b82 := hd_b (F := F) (F' := F') (k := 82) (hF 82 (by decide))
  have t88 : sy_dv F' (.inr (.inl 88)) = .int ((((sy_i F 82)).toUInt32 >>> ((((16 : Int32))).toUInt32 &&& Int32.toUInt32 31)).toInt32) := hd_o (hs 5 _ rfl) b82 rfl rfl
  have t89 : sy_dv F' (.inr (.inl 89)) = .int (((((sy_i F 82)).toUInt32 >>> ((((16 : Int32))).toUInt32 &&& Int32.toUInt32 31)).toInt32).toInt8.toInt32) := hd_u (hs 6 _ rfl) t88 rfl
  have t90 : sy_dv F' (.inr (.inl 90)) = .int ((((((sy_i F 82)).toUInt32 >>> ((((16 : Int32))).toUInt32 &&& Int32.toUInt32 31)).toInt32).toInt8.toInt32).toInt8.toInt32) := hd_u (hs 7 _ rfl) t89 rfl
  have t83 : sy_dv F' (.inr (.inl 83)) = .int ((((sy_i F 82)).toUInt32 >>> ((((24 : Int32))).toUInt32 &&& Int32.toUInt32 31)).toInt32) := hd_o (hs 0 _ rfl) b82 rfl rfl
  have t84 : sy_dv F' (.inr (.inl 84)) = .int (((((sy_i F 82)).toUInt32 >>> ((((24 : Int32))).toUInt32 &&& Int32.toUInt32 31)).toInt32).toInt8.toInt32) := hd_u (hs 1 _ rfl) t83 rfl
  have t85 : sy_dv F' (.inr (.inl 85)) = .int ((((((sy_i F 82)).toUInt32 >>> ((((24 : Int32))).toUInt32 &&& Int32.toUInt32 31)).toInt32).toInt8.toInt32).toInt8.toInt32) := hd_u (hs 2 _ rfl) t84 rfl
  have a2 := hd_ba (F := F) (F' := F') (k := 2) (hF 2 (by decide))
  have t86 : sy_da F' (.inr (.inl 86)) = .inl (jm_upd (sy_ai F 2) (sy_i F 0).toNatClampNeg ((((((sy_i F 82)).toUInt32 >>> ((((24 : Int32))).toUInt32 &&& Int32.toUInt32 31)).toInt32).toInt8.toInt32).toInt8.toInt32)) := hd_up (hs 3 _ rfl) b0 t85 a2
  have t91 : sy_da F' (.inr (.inl 91)) = .inl (jm_upd (jm_upd (sy_ai F 2) (sy_i F 0).toNatClampNeg ((((((sy_i F 82)).toUInt32 >>> ((((24 : Int32))).toUInt32 &&& Int32.toUInt32 31)).toInt32).toInt8.toInt32).toInt8.toInt32)) ((sy_i F 0) + ((1 : Int32))).toNatClampNeg ((((((sy_i F 82)).toUInt32 >>> ((((16 : Int32))).toUInt32 &&& Int32.toUInt32 31)).toInt32).toInt8.toInt32).toInt8.toInt32)) := hd_up (hs 8 _ rfl) t87 t90 t86
  have hB' : iv_in F' iv_B0 := iv_in_eq hB (fun j hj => hF j (Nat.lt_of_lt_of_le hj (by decide +kernel)))
  refine ⟨List.forall_mem_cons.mpr ⟨hd_p5 rfl b0 (by have hc : ((2000) : Int32).toInt = 2000 := (by decide); omega), List.forall_mem_cons.mpr ⟨hd_pb b0 (by first | exact h1 | exact h1), List.forall_mem_cons.mpr ⟨hd_p5 rfl t87 (by have hc : ((2000) : Int32).toInt = 2000 := (by decide); omega), List.forall_mem_cons.mpr ⟨hd_pb t87 (by first | exact h3 | exact h3), List.forall_mem_cons.mpr ⟨hd_p4 rfl t92 (by have hc : ((2000) : Int32).toInt = 2000 := (by decide); omega), fun _ h => absurd h List.not_mem_nil⟩⟩⟩⟩⟩, ?_⟩
  refine k _ ?_ ?_ ?_
  · exact fun j hj hn => (hd_keep hB' (Nat.lt_of_lt_of_le hj (by decide +kernel)) (by simp; omega)).trans (hF j (Nat.lt_of_lt_of_le hj (by decide)))
  · exact hd_gi (x := .inr (.inl 92)) (by decide +kernel) t92
  · exact hd_ga (a := .inr (.inl 91)) (by decide +kernel) t91
theorem k3oap_0_p3 {Ls : Nat} {xs : Nat → Int32} {d : Nat} {Q : Option Value → jm_h → Prop} (hd : 1 ≤ d) (F : Nat → sy_d) (X1 X2 : List jm_c) (hB : iv_in F iv_B0)
    (h0 : (sy_i F 0).toInt < 2000)
    (h1 : 0 ≤ (sy_i F 0).toInt ∧ (sy_i F 0).toInt < 2000)
    (h2 : ((sy_i F 0) + ((1 : Int32))).toInt < 2000)
    (h3 : 0 ≤ ((sy_i F 0) + ((1 : Int32))).toInt ∧ ((sy_i F 0) + ((1 : Int32))).toInt < 2000)
    (h4 : (((sy_i F 0) + ((1 : Int32))) + ((1 : Int32))).toInt < 2000)
    (h5 : 0 ≤ (((sy_i F 0) + ((1 : Int32))) + ((1 : Int32))).toInt ∧ (((sy_i F 0) + ((1 : Int32))) + ((1 : Int32))).toInt < 2000)
    (h6 : 2000 ≤ ((((sy_i F 0) + ((1 : Int32))) + ((1 : Int32))) + ((1 : Int32))).toInt)
    (k : ∀ F1 : Nat → sy_d, (∀ j, j < 82 → j ≠ 0 ∧ j ≠ 2 → F1 j = F j) → F1 0 = .inl (.int ((((sy_i F 0) + ((1 : Int32))) + ((1 : Int32))) + ((1 : Int32)))) → F1 2 = .inr (.inl (jm_upd (jm_upd (jm_upd (sy_ai F 2) (sy_i F 0).toNatClampNeg ((((((sy_i F 82)).toUInt32 >>> ((((24 : Int32))).toUInt32 &&& Int32.toUInt32 31)).toInt32).toInt8.toInt32).toInt8.toInt32)) ((sy_i F 0) + ((1 : Int32))).toNatClampNeg ((((((sy_i F 82)).toUInt32 >>> ((((16 : Int32))).toUInt32 &&& Int32.toUInt32 31)).toInt32).toInt8.toInt32).toInt8.toInt32)) (((sy_i F 0) + ((1 : Int32))) + ((1 : Int32))).toNatClampNeg ((((((sy_i F 82)).toUInt32 >>> ((((8 : Int32))).toUInt32 &&& Int32.toUInt32 31)).toInt32).toInt8.toInt32).toInt8.toInt32))) → Q (none) (sy_dh F1 X1 X2 (iv_H 3))) :
    hd_W Ls xs d jm_M116 Q (0, sy_dL F [some (.inl (.ref 8)), some (.inr (.inl 82)), none], sy_dS F [], sy_dh F X1 X2 (iv_H 3), 0, 0) := by
  refine hd_ret (s := 3) (nv := 83) (v := none) (uh := hd_ov (iv_id 0 iv_B0) [(0, .inl (.inr (.inl 97))), (2, .inr (.inr (.inl 96)))]) (f := true) (sp := []) (d0 := 0) (O := [false, false, false, true]) (T := [(8, [.inr (.inl 82), .inl (.int 24)], []), (22, [.inr (.inl 83)], []), (22, [.inr (.inl 84)], []), (40, [.inr (.inl 0), .inr (.inl 85)], [.inr (.inl 2)]), (0, [.inr (.inl 0), .inl (.int 1)], []), (8, [.inr (.inl 82), .inl (.int 16)], []), (22, [.inr (.inl 88)], []), (22, [.inr (.inl 89)], []), (40, [.inr (.inl 87), .inr (.inl 90)], [.inr (.inl 86)]), (0, [.inr (.inl 87), .inl (.int 1)], []), (8, [.inr (.inl 82), .inl (.int 8)], []), (22, [.inr (.inl 93)], []), (22, [.inr (.inl 94)], []), (40, [.inr (.inl 92), .inr (.inl 95)], [.inr (.inl 91)]), (0, [.inr (.inl 92), .inl (.int 1)], [])]) (P := [(5, .inl (.int 2000), .inr (.inl 0)), (6, .inr (.inl 0), .inl (.ref 2000)), (5, .inl (.int 2000), .inr (.inl 87)), (6, .inr (.inl 87), .inl (.ref 2000)), (5, .inl (.int 2000), .inr (.inl 92)), (6, .inr (.inl 92), .inl (.ref 2000)), (4, .inl (.int 2000), .inr (.inl 97))]) jm_ok116 (by decide +kernel) (by decide +kernel) hd F X1 X2 (fun F' hF hs => ?_)
  have b0 := hd_b (F := F) (F' := F') (k := 0) (hF 0 (by decide))
  have t87 : sy_dv F' (.inr (.inl 87)) = .int ((sy_i F 0) + ((1 : Int32))) := hd_o (hs 4 _ rfl) b0 rfl rfl
  have t92 : sy_dv F' (.inr (.inl 92)) = .int (((sy_i F 0) + ((1 : Int32))) + ((1 : Int32))) := hd_o (hs 9 _ rfl) t87 rfl rfl
  have t97 : sy_dv F' (.inr (.inl 97)) = .int ((((sy_i F 0) + ((1 : Int32))) + ((1 : Int32))) + ((1 : Int32))) := hd_o (hs 14 _ rfl) t92 rfl rfl
  have b82 := hd_b (F := F) (F' := F') (k := 82) (hF 82 (by decide))
  have t93 : sy_dv F' (.inr (.inl 93)) = .int ((((sy_i F 82)).toUInt32 >>> ((((8 : Int32))).toUInt32 &&& Int32.toUInt32 31)).toInt32) := hd_o (hs 10 _ rfl) b82 rfl rfl
  have t94 : sy_dv F' (.inr (.inl 94)) = .int (((((sy_i F 82)).toUInt32 >>> ((((8 : Int32))).toUInt32 &&& Int32.toUInt32 31)).toInt32).toInt8.toInt32) := hd_u (hs 11 _ rfl) t93 rfl
  have t95 : sy_dv F' (.inr (.inl 95)) = .int ((((((sy_i F 82)).toUInt32 >>> ((((8 : Int32))).toUInt32 &&& Int32.toUInt32 31)).toInt32).toInt8.toInt32).toInt8.toInt32) := hd_u (hs 12 _ rfl) t94 rfl
  have t88 : sy_dv F' (.inr (.inl 88)) = .int ((((sy_i F 82)).toUInt32 >>> ((((16 : Int32))).toUInt32 &&& Int32.toUInt32 31)).toInt32) := hd_o (hs 5 _ rfl) b82 rfl rfl
  have t89 : sy_dv F' (.inr (.inl 89)) = .int (((((sy_i F 82)).toUInt32 >>> ((((16 : Int32))).toUInt32 &&& Int32.toUInt32 31)).toInt32).toInt8.toInt32) := hd_u (hs 6 _ rfl) t88 rfl
  have t90 : sy_dv F' (.inr (.inl 90)) = .int ((((((sy_i F 82)).toUInt32 >>> ((((16 : Int32))).toUInt32 &&& Int32.toUInt32 31)).toInt32).toInt8.toInt32).toInt8.toInt32) := hd_u (hs 7 _ rfl) t89 rfl
  have t83 : sy_dv F' (.inr (.inl 83)) = .int ((((sy_i F 82)).toUInt32 >>> ((((24 : Int32))).toUInt32 &&& Int32.toUInt32 31)).toInt32) := hd_o (hs 0 _ rfl) b82 rfl rfl
  have t84 : sy_dv F' (.inr (.inl 84)) = .int (((((sy_i F 82)).toUInt32 >>> ((((24 : Int32))).toUInt32 &&& Int32.toUInt32 31)).toInt32).toInt8.toInt32) := hd_u (hs 1 _ rfl) t83 rfl
  have t85 : sy_dv F' (.inr (.inl 85)) = .int ((((((sy_i F 82)).toUInt32 >>> ((((24 : Int32))).toUInt32 &&& Int32.toUInt32 31)).toInt32).toInt8.toInt32).toInt8.toInt32) := hd_u (hs 2 _ rfl) t84 rfl
  have a2 := hd_ba (F := F) (F' := F') (k := 2) (hF 2 (by decide))
  have t86 : sy_da F' (.inr (.inl 86)) = .inl (jm_upd (sy_ai F 2) (sy_i F 0).toNatClampNeg ((((((sy_i F 82)).toUInt32 >>> ((((24 : Int32))).toUInt32 &&& Int32.toUInt32 31)).toInt32).toInt8.toInt32).toInt8.toInt32)) := hd_up (hs 3 _ rfl) b0 t85 a2
  have t91 : sy_da F' (.inr (.inl 91)) = .inl (jm_upd (jm_upd (sy_ai F 2) (sy_i F 0).toNatClampNeg ((((((sy_i F 82)).toUInt32 >>> ((((24 : Int32))).toUInt32 &&& Int32.toUInt32 31)).toInt32).toInt8.toInt32).toInt8.toInt32)) ((sy_i F 0) + ((1 : Int32))).toNatClampNeg ((((((sy_i F 82)).toUInt32 >>> ((((16 : Int32))).toUInt32 &&& Int32.toUInt32 31)).toInt32).toInt8.toInt32).toInt8.toInt32)) := hd_up (hs 8 _ rfl) t87 t90 t86
  have t96 : sy_da F' (.inr (.inl 96)) = .inl (jm_upd (jm_upd (jm_upd (sy_ai F 2) (sy_i F 0).toNatClampNeg ((((((sy_i F 82)).toUInt32 >>> ((((24 : Int32))).toUInt32 &&& Int32.toUInt32 31)).toInt32).toInt8.toInt32).toInt8.toInt32)) ((sy_i F 0) + ((1 : Int32))).toNatClampNeg ((((((sy_i F 82)).toUInt32 >>> ((((16 : Int32))).toUInt32 &&& Int32.toUInt32 31)).toInt32).toInt8.toInt32).toInt8.toInt32)) (((sy_i F 0) + ((1 : Int32))) + ((1 : Int32))).toNatClampNeg ((((((sy_i F 82)).toUInt32 >>> ((((8 : Int32))).toUInt32 &&& Int32.toUInt32 31)).toInt32).toInt8.toInt32).toInt8.toInt32)) := hd_up (hs 13 _ rfl) t92 t95 t91
  have hB' : iv_in F' iv_B0 := iv_in_eq hB (fun j hj => hF j (Nat.lt_of_lt_of_le hj (by decide +kernel)))
  refine ⟨List.forall_mem_cons.mpr ⟨hd_p5 rfl b0 (by have hc : ((2000) : Int32).toInt = 2000 := (by decide); omega), List.forall_mem_cons.mpr ⟨hd_pb b0 (by first | exact h1 | exact h1), List.forall_mem_cons.mpr ⟨hd_p5 rfl t87 (by have hc : ((2000) : Int32).toInt = 2000 := (by decide); omega), List.forall_mem_cons.mpr ⟨hd_pb t87 (by first | exact h3 | exact h3), List.forall_mem_cons.mpr ⟨hd_p5 rfl t92 (by have hc : ((2000) : Int32).toInt = 2000 := (by decide); omega), List.forall_mem_cons.mpr ⟨hd_pb t92 (by first | exact h5 | exact h5), List.forall_mem_cons.mpr ⟨hd_p4 rfl t97 (by have hc : ((2000) : Int32).toInt = 2000 := (by decide); omega), fun _ h => absurd h List.not_mem_nil⟩⟩⟩⟩⟩⟩⟩, ?_⟩
  refine k _ ?_ ?_ ?_
  · exact fun j hj hn => (hd_keep hB' (Nat.lt_of_lt_of_le hj (by decide +kernel)) (by simp; omega)).trans (hF j (Nat.lt_of_lt_of_le hj (by decide)))
  · exact hd_gi (x := .inr (.inl 97)) (by decide +kernel) t97
  · exact hd_ga (a := .inr (.inl 96)) (by decide +kernel) t96
theorem k3oap_0_p4 {Ls : Nat} {xs : Nat → Int32} {d : Nat} {Q : Option Value → jm_h → Prop} (hd : 1 ≤ d) (F : Nat → sy_d) (X1 X2 : List jm_c) (hB : iv_in F iv_B0)
    (h0 : (sy_i F 0).toInt < 2000)
    (h1 : 0 ≤ (sy_i F 0).toInt ∧ (sy_i F 0).toInt < 2000)
    (h2 : ((sy_i F 0) + ((1 : Int32))).toInt < 2000)
    (h3 : 0 ≤ ((sy_i F 0) + ((1 : Int32))).toInt ∧ ((sy_i F 0) + ((1 : Int32))).toInt < 2000)
    (h4 : (((sy_i F 0) + ((1 : Int32))) + ((1 : Int32))).toInt < 2000)
    (h5 : 0 ≤ (((sy_i F 0) + ((1 : Int32))) + ((1 : Int32))).toInt ∧ (((sy_i F 0) + ((1 : Int32))) + ((1 : Int32))).toInt < 2000)
    (h6 : ((((sy_i F 0) + ((1 : Int32))) + ((1 : Int32))) + ((1 : Int32))).toInt < 2000)
    (h7 : 0 ≤ ((((sy_i F 0) + ((1 : Int32))) + ((1 : Int32))) + ((1 : Int32))).toInt ∧ ((((sy_i F 0) + ((1 : Int32))) + ((1 : Int32))) + ((1 : Int32))).toInt < 2000)
    (k : ∀ F1 : Nat → sy_d, (∀ j, j < 82 → j ≠ 0 ∧ j ≠ 2 → F1 j = F j) → F1 0 = .inl (.int (((((sy_i F 0) + ((1 : Int32))) + ((1 : Int32))) + ((1 : Int32))) + ((1 : Int32)))) → F1 2 = .inr (.inl (jm_upd (jm_upd (jm_upd (jm_upd (sy_ai F 2) (sy_i F 0).toNatClampNeg ((((((sy_i F 82)).toUInt32 >>> ((((24 : Int32))).toUInt32 &&& Int32.toUInt32 31)).toInt32).toInt8.toInt32).toInt8.toInt32)) ((sy_i F 0) + ((1 : Int32))).toNatClampNeg ((((((sy_i F 82)).toUInt32 >>> ((((16 : Int32))).toUInt32 &&& Int32.toUInt32 31)).toInt32).toInt8.toInt32).toInt8.toInt32)) (((sy_i F 0) + ((1 : Int32))) + ((1 : Int32))).toNatClampNeg ((((((sy_i F 82)).toUInt32 >>> ((((8 : Int32))).toUInt32 &&& Int32.toUInt32 31)).toInt32).toInt8.toInt32).toInt8.toInt32)) ((((sy_i F 0) + ((1 : Int32))) + ((1 : Int32))) + ((1 : Int32))).toNatClampNeg ((((((sy_i F 82)).toUInt32 >>> ((((0 : Int32))).toUInt32 &&& Int32.toUInt32 31)).toInt32).toInt8.toInt32).toInt8.toInt32))) → Q (none) (sy_dh F1 X1 X2 (iv_H 3))) :
    hd_W Ls xs d jm_M116 Q (0, sy_dL F [some (.inl (.ref 8)), some (.inr (.inl 82)), none], sy_dS F [], sy_dh F X1 X2 (iv_H 3), 0, 0) := by
  refine hd_ret (s := 3) (nv := 83) (v := none) (uh := hd_ov (iv_id 0 iv_B0) [(0, .inl (.inr (.inl 102))), (2, .inr (.inr (.inl 101)))]) (f := true) (sp := []) (d0 := 0) (O := [false, false, false, false]) (T := [(8, [.inr (.inl 82), .inl (.int 24)], []), (22, [.inr (.inl 83)], []), (22, [.inr (.inl 84)], []), (40, [.inr (.inl 0), .inr (.inl 85)], [.inr (.inl 2)]), (0, [.inr (.inl 0), .inl (.int 1)], []), (8, [.inr (.inl 82), .inl (.int 16)], []), (22, [.inr (.inl 88)], []), (22, [.inr (.inl 89)], []), (40, [.inr (.inl 87), .inr (.inl 90)], [.inr (.inl 86)]), (0, [.inr (.inl 87), .inl (.int 1)], []), (8, [.inr (.inl 82), .inl (.int 8)], []), (22, [.inr (.inl 93)], []), (22, [.inr (.inl 94)], []), (40, [.inr (.inl 92), .inr (.inl 95)], [.inr (.inl 91)]), (0, [.inr (.inl 92), .inl (.int 1)], []), (8, [.inr (.inl 82), .inl (.int 0)], []), (22, [.inr (.inl 98)], []), (22, [.inr (.inl 99)], []), (40, [.inr (.inl 97), .inr (.inl 100)], [.inr (.inl 96)]), (0, [.inr (.inl 97), .inl (.int 1)], [])]) (P := [(5, .inl (.int 2000), .inr (.inl 0)), (6, .inr (.inl 0), .inl (.ref 2000)), (5, .inl (.int 2000), .inr (.inl 87)), (6, .inr (.inl 87), .inl (.ref 2000)), (5, .inl (.int 2000), .inr (.inl 92)), (6, .inr (.inl 92), .inl (.ref 2000)), (5, .inl (.int 2000), .inr (.inl 97)), (6, .inr (.inl 97), .inl (.ref 2000))]) jm_ok116 (by decide +kernel) (by decide +kernel) hd F X1 X2 (fun F' hF hs => ?_)
  have b0 := hd_b (F := F) (F' := F') (k := 0) (hF 0 (by decide))
  have t87 : sy_dv F' (.inr (.inl 87)) = .int ((sy_i F 0) + ((1 : Int32))) := hd_o (hs 4 _ rfl) b0 rfl rfl
  have t92 : sy_dv F' (.inr (.inl 92)) = .int (((sy_i F 0) + ((1 : Int32))) + ((1 : Int32))) := hd_o (hs 9 _ rfl) t87 rfl rfl
  have t97 : sy_dv F' (.inr (.inl 97)) = .int ((((sy_i F 0) + ((1 : Int32))) + ((1 : Int32))) + ((1 : Int32))) := hd_o (hs 14 _ rfl) t92 rfl rfl
  have t102 : sy_dv F' (.inr (.inl 102)) = .int (((((sy_i F 0) + ((1 : Int32))) + ((1 : Int32))) + ((1 : Int32))) + ((1 : Int32))) := hd_o (hs 19 _ rfl) t97 rfl rfl
  have b82 := hd_b (F := F) (F' := F') (k := 82) (hF 82 (by decide))
  have t98 : sy_dv F' (.inr (.inl 98)) = .int ((((sy_i F 82)).toUInt32 >>> ((((0 : Int32))).toUInt32 &&& Int32.toUInt32 31)).toInt32) := hd_o (hs 15 _ rfl) b82 rfl rfl
  have t99 : sy_dv F' (.inr (.inl 99)) = .int (((((sy_i F 82)).toUInt32 >>> ((((0 : Int32))).toUInt32 &&& Int32.toUInt32 31)).toInt32).toInt8.toInt32) := hd_u (hs 16 _ rfl) t98 rfl
  have t100 : sy_dv F' (.inr (.inl 100)) = .int ((((((sy_i F 82)).toUInt32 >>> ((((0 : Int32))).toUInt32 &&& Int32.toUInt32 31)).toInt32).toInt8.toInt32).toInt8.toInt32) := hd_u (hs 17 _ rfl) t99 rfl
  have t93 : sy_dv F' (.inr (.inl 93)) = .int ((((sy_i F 82)).toUInt32 >>> ((((8 : Int32))).toUInt32 &&& Int32.toUInt32 31)).toInt32) := hd_o (hs 10 _ rfl) b82 rfl rfl
  have t94 : sy_dv F' (.inr (.inl 94)) = .int (((((sy_i F 82)).toUInt32 >>> ((((8 : Int32))).toUInt32 &&& Int32.toUInt32 31)).toInt32).toInt8.toInt32) := hd_u (hs 11 _ rfl) t93 rfl
  have t95 : sy_dv F' (.inr (.inl 95)) = .int ((((((sy_i F 82)).toUInt32 >>> ((((8 : Int32))).toUInt32 &&& Int32.toUInt32 31)).toInt32).toInt8.toInt32).toInt8.toInt32) := hd_u (hs 12 _ rfl) t94 rfl
  have t88 : sy_dv F' (.inr (.inl 88)) = .int ((((sy_i F 82)).toUInt32 >>> ((((16 : Int32))).toUInt32 &&& Int32.toUInt32 31)).toInt32) := hd_o (hs 5 _ rfl) b82 rfl rfl
  have t89 : sy_dv F' (.inr (.inl 89)) = .int (((((sy_i F 82)).toUInt32 >>> ((((16 : Int32))).toUInt32 &&& Int32.toUInt32 31)).toInt32).toInt8.toInt32) := hd_u (hs 6 _ rfl) t88 rfl
  have t90 : sy_dv F' (.inr (.inl 90)) = .int ((((((sy_i F 82)).toUInt32 >>> ((((16 : Int32))).toUInt32 &&& Int32.toUInt32 31)).toInt32).toInt8.toInt32).toInt8.toInt32) := hd_u (hs 7 _ rfl) t89 rfl
  have t83 : sy_dv F' (.inr (.inl 83)) = .int ((((sy_i F 82)).toUInt32 >>> ((((24 : Int32))).toUInt32 &&& Int32.toUInt32 31)).toInt32) := hd_o (hs 0 _ rfl) b82 rfl rfl
  have t84 : sy_dv F' (.inr (.inl 84)) = .int (((((sy_i F 82)).toUInt32 >>> ((((24 : Int32))).toUInt32 &&& Int32.toUInt32 31)).toInt32).toInt8.toInt32) := hd_u (hs 1 _ rfl) t83 rfl
  have t85 : sy_dv F' (.inr (.inl 85)) = .int ((((((sy_i F 82)).toUInt32 >>> ((((24 : Int32))).toUInt32 &&& Int32.toUInt32 31)).toInt32).toInt8.toInt32).toInt8.toInt32) := hd_u (hs 2 _ rfl) t84 rfl
  have a2 := hd_ba (F := F) (F' := F') (k := 2) (hF 2 (by decide))
  have t86 : sy_da F' (.inr (.inl 86)) = .inl (jm_upd (sy_ai F 2) (sy_i F 0).toNatClampNeg ((((((sy_i F 82)).toUInt32 >>> ((((24 : Int32))).toUInt32 &&& Int32.toUInt32 31)).toInt32).toInt8.toInt32).toInt8.toInt32)) := hd_up (hs 3 _ rfl) b0 t85 a2
  have t91 : sy_da F' (.inr (.inl 91)) = .inl (jm_upd (jm_upd (sy_ai F 2) (sy_i F 0).toNatClampNeg ((((((sy_i F 82)).toUInt32 >>> ((((24 : Int32))).toUInt32 &&& Int32.toUInt32 31)).toInt32).toInt8.toInt32).toInt8.toInt32)) ((sy_i F 0) + ((1 : Int32))).toNatClampNeg ((((((sy_i F 82)).toUInt32 >>> ((((16 : Int32))).toUInt32 &&& Int32.toUInt32 31)).toInt32).toInt8.toInt32).toInt8.toInt32)) := hd_up (hs 8 _ rfl) t87 t90 t86
  have t96 : sy_da F' (.inr (.inl 96)) = .inl (jm_upd (jm_upd (jm_upd (sy_ai F 2) (sy_i F 0).toNatClampNeg ((((((sy_i F 82)).toUInt32 >>> ((((24 : Int32))).toUInt32 &&& Int32.toUInt32 31)).toInt32).toInt8.toInt32).toInt8.toInt32)) ((sy_i F 0) + ((1 : Int32))).toNatClampNeg ((((((sy_i F 82)).toUInt32 >>> ((((16 : Int32))).toUInt32 &&& Int32.toUInt32 31)).toInt32).toInt8.toInt32).toInt8.toInt32)) (((sy_i F 0) + ((1 : Int32))) + ((1 : Int32))).toNatClampNeg ((((((sy_i F 82)).toUInt32 >>> ((((8 : Int32))).toUInt32 &&& Int32.toUInt32 31)).toInt32).toInt8.toInt32).toInt8.toInt32)) := hd_up (hs 13 _ rfl) t92 t95 t91
  have t101 : sy_da F' (.inr (.inl 101)) = .inl (jm_upd (jm_upd (jm_upd (jm_upd (sy_ai F 2) (sy_i F 0).toNatClampNeg ((((((sy_i F 82)).toUInt32 >>> ((((24 : Int32))).toUInt32 &&& Int32.toUInt32 31)).toInt32).toInt8.toInt32).toInt8.toInt32)) ((sy_i F 0) + ((1 : Int32))).toNatClampNeg ((((((sy_i F 82)).toUInt32 >>> ((((16 : Int32))).toUInt32 &&& Int32.toUInt32 31)).toInt32).toInt8.toInt32).toInt8.toInt32)) (((sy_i F 0) + ((1 : Int32))) + ((1 : Int32))).toNatClampNeg ((((((sy_i F 82)).toUInt32 >>> ((((8 : Int32))).toUInt32 &&& Int32.toUInt32 31)).toInt32).toInt8.toInt32).toInt8.toInt32)) ((((sy_i F 0) + ((1 : Int32))) + ((1 : Int32))) + ((1 : Int32))).toNatClampNeg ((((((sy_i F 82)).toUInt32 >>> ((((0 : Int32))).toUInt32 &&& Int32.toUInt32 31)).toInt32).toInt8.toInt32).toInt8.toInt32)) := hd_up (hs 18 _ rfl) t97 t100 t96
  have hB' : iv_in F' iv_B0 := iv_in_eq hB (fun j hj => hF j (Nat.lt_of_lt_of_le hj (by decide +kernel)))
  refine ⟨List.forall_mem_cons.mpr ⟨hd_p5 rfl b0 (by have hc : ((2000) : Int32).toInt = 2000 := (by decide); omega), List.forall_mem_cons.mpr ⟨hd_pb b0 (by first | exact h1 | exact h1), List.forall_mem_cons.mpr ⟨hd_p5 rfl t87 (by have hc : ((2000) : Int32).toInt = 2000 := (by decide); omega), List.forall_mem_cons.mpr ⟨hd_pb t87 (by first | exact h3 | exact h3), List.forall_mem_cons.mpr ⟨hd_p5 rfl t92 (by have hc : ((2000) : Int32).toInt = 2000 := (by decide); omega), List.forall_mem_cons.mpr ⟨hd_pb t92 (by first | exact h5 | exact h5), List.forall_mem_cons.mpr ⟨hd_p5 rfl t97 (by have hc : ((2000) : Int32).toInt = 2000 := (by decide); omega), List.forall_mem_cons.mpr ⟨hd_pb t97 (by first | exact h7 | exact h7), fun _ h => absurd h List.not_mem_nil⟩⟩⟩⟩⟩⟩⟩⟩, ?_⟩
  refine k _ ?_ ?_ ?_
  · exact fun j hj hn => (hd_keep hB' (Nat.lt_of_lt_of_le hj (by decide +kernel)) (by simp; omega)).trans (hF j (Nat.lt_of_lt_of_le hj (by decide)))
  · exact hd_gi (x := .inr (.inl 102)) (by decide +kernel) t102
  · exact hd_ga (a := .inr (.inl 101)) (by decide +kernel) t101
theorem k3oap_0 {Ls : Nat} {xs : Nat → Int32} {d : Nat} {Q : Option Value → jm_h → Prop} (hd : 1 ≤ d) (F : Nat → sy_d) (X1 X2 : List jm_c) (hB : iv_in F iv_B0)
    (k0 : 2000 ≤ (sy_i F 0).toInt → ∀ F1 : Nat → sy_d, iv_in F1 iv_B0 → (∀ j, j < 82 → j ∉ ([] : List Nat) → F1 j = F j) → (sy_i F1 0).toInt = (sy_i F 0).toInt → sy_ai F1 2 = sy_ai F 2 → Q (none) (sy_dh F1 X1 X2 (iv_H 3)))
    (k1 : (sy_i F 0).toInt < 2000 → 2000 ≤ ((sy_i F 0).toInt + 1) → ∀ F1 : Nat → sy_d, iv_in F1 iv_B0 → (∀ j, j < 82 → j ∉ ([0, 2] : List Nat) → F1 j = F j) → (sy_i F1 0).toInt = ((sy_i F 0).toInt + 1) → sy_ai F1 2 = jm_upd (sy_ai F 2) ((sy_i F 0).toInt).toNat ((((((sy_i F 82)).toUInt32 >>> ((((24 : Int32))).toUInt32 &&& Int32.toUInt32 31)).toInt32).toInt8.toInt32).toInt8.toInt32) → Q (none) (sy_dh F1 X1 X2 (iv_H 3)))
    (k2 : (sy_i F 0).toInt < 2000 → ((sy_i F 0).toInt + 1) < 2000 → 2000 ≤ (((sy_i F 0).toInt + 1) + 1) → ∀ F1 : Nat → sy_d, iv_in F1 iv_B0 → (∀ j, j < 82 → j ∉ ([0, 2] : List Nat) → F1 j = F j) → (sy_i F1 0).toInt = (((sy_i F 0).toInt + 1) + 1) → sy_ai F1 2 = jm_upd (jm_upd (sy_ai F 2) ((sy_i F 0).toInt).toNat ((((((sy_i F 82)).toUInt32 >>> ((((24 : Int32))).toUInt32 &&& Int32.toUInt32 31)).toInt32).toInt8.toInt32).toInt8.toInt32)) (((sy_i F 0).toInt + 1)).toNat ((((((sy_i F 82)).toUInt32 >>> ((((16 : Int32))).toUInt32 &&& Int32.toUInt32 31)).toInt32).toInt8.toInt32).toInt8.toInt32) → Q (none) (sy_dh F1 X1 X2 (iv_H 3)))
    (k3 : (sy_i F 0).toInt < 2000 → ((sy_i F 0).toInt + 1) < 2000 → (((sy_i F 0).toInt + 1) + 1) < 2000 → 2000 ≤ ((((sy_i F 0).toInt + 1) + 1) + 1) → ∀ F1 : Nat → sy_d, iv_in F1 iv_B0 → (∀ j, j < 82 → j ∉ ([0, 2] : List Nat) → F1 j = F j) → (sy_i F1 0).toInt = ((((sy_i F 0).toInt + 1) + 1) + 1) → sy_ai F1 2 = jm_upd (jm_upd (jm_upd (sy_ai F 2) ((sy_i F 0).toInt).toNat ((((((sy_i F 82)).toUInt32 >>> ((((24 : Int32))).toUInt32 &&& Int32.toUInt32 31)).toInt32).toInt8.toInt32).toInt8.toInt32)) (((sy_i F 0).toInt + 1)).toNat ((((((sy_i F 82)).toUInt32 >>> ((((16 : Int32))).toUInt32 &&& Int32.toUInt32 31)).toInt32).toInt8.toInt32).toInt8.toInt32)) ((((sy_i F 0).toInt + 1) + 1)).toNat ((((((sy_i F 82)).toUInt32 >>> ((((8 : Int32))).toUInt32 &&& Int32.toUInt32 31)).toInt32).toInt8.toInt32).toInt8.toInt32) → Q (none) (sy_dh F1 X1 X2 (iv_H 3)))
    (k4 : (sy_i F 0).toInt < 2000 → ((sy_i F 0).toInt + 1) < 2000 → (((sy_i F 0).toInt + 1) + 1) < 2000 → ((((sy_i F 0).toInt + 1) + 1) + 1) < 2000 → ∀ F1 : Nat → sy_d, iv_in F1 iv_B0 → (∀ j, j < 82 → j ∉ ([0, 2] : List Nat) → F1 j = F j) → (sy_i F1 0).toInt = (((((sy_i F 0).toInt + 1) + 1) + 1) + 1) → sy_ai F1 2 = jm_upd (jm_upd (jm_upd (jm_upd (sy_ai F 2) ((sy_i F 0).toInt).toNat ((((((sy_i F 82)).toUInt32 >>> ((((24 : Int32))).toUInt32 &&& Int32.toUInt32 31)).toInt32).toInt8.toInt32).toInt8.toInt32)) (((sy_i F 0).toInt + 1)).toNat ((((((sy_i F 82)).toUInt32 >>> ((((16 : Int32))).toUInt32 &&& Int32.toUInt32 31)).toInt32).toInt8.toInt32).toInt8.toInt32)) ((((sy_i F 0).toInt + 1) + 1)).toNat ((((((sy_i F 82)).toUInt32 >>> ((((8 : Int32))).toUInt32 &&& Int32.toUInt32 31)).toInt32).toInt8.toInt32).toInt8.toInt32)) (((((sy_i F 0).toInt + 1) + 1) + 1)).toNat ((((((sy_i F 82)).toUInt32 >>> ((((0 : Int32))).toUInt32 &&& Int32.toUInt32 31)).toInt32).toInt8.toInt32).toInt8.toInt32) → Q (none) (sy_dh F1 X1 X2 (iv_H 3))) :
    hd_W Ls xs d jm_M116 Q (0, sy_dL F [some (.inl (.ref 8)), some (.inr (.inl 82)), none], sy_dS F [], sy_dh F X1 X2 (iv_H 3), 0, 0) := by
  by_cases g0 : 2000 ≤ (sy_i F 0).toInt
  · have c0 := nz_bx hB (k := 0) (lo := 0) (hi := 2000) rfl
    exact k3oap_0_p0 hd F X1 X2 hB (by first | exact g0 | (simp only [nz_c]; exact g0)) (fun F1 g  => k0 g0 F1 (nz_in0 hB [] (fun j hj hn => g j hj (by simp only [List.mem_cons, List.not_mem_nil, or_false, not_or] at hn; exact trivial)) (List.forall_mem_nil _)) (fun j hj hn => g j hj (by simp only [List.mem_cons, List.not_mem_nil, or_false, not_or] at hn; exact trivial)) (nz_fi (g 0 (by decide) (by decide))) (nz_fa (g 2 (by decide) (by decide))))
  replace g0 : (sy_i F 0).toInt < 2000 := by omega
  by_cases g1 : 2000 ≤ ((sy_i F 0).toInt + 1)
  · have c0 := nz_bx hB (k := 0) (lo := 0) (hi := 2000) rfl
    have n87 : ((sy_i F 0) + ((1 : Int32))).toInt = ((sy_i F 0).toInt + 1) := nz_add (rfl : (sy_i F 0).toInt = (sy_i F 0).toInt) (by decide : ((1 : Int32)).toInt = 1) (by omega) (by omega)
    have n85 : ((((((sy_i F 82)).toUInt32 >>> ((((24 : Int32))).toUInt32 &&& Int32.toUInt32 31)).toInt32).toInt8.toInt32).toInt8.toInt32).toInt = ((((((sy_i F 82)).toUInt32 >>> ((((24 : Int32))).toUInt32 &&& Int32.toUInt32 31)).toInt32).toInt8.toInt32).toInt8.toInt32).toInt := congrArg Int32.toInt (rfl : (((((sy_i F 82)).toUInt32 >>> ((((24 : Int32))).toUInt32 &&& Int32.toUInt32 31)).toInt32).toInt8.toInt32).toInt8.toInt32 = (((((sy_i F 82)).toUInt32 >>> ((((24 : Int32))).toUInt32 &&& Int32.toUInt32 31)).toInt32).toInt8.toInt32).toInt8.toInt32)
    have r85 := nz_b8 (((((sy_i F 82)).toUInt32 >>> ((((24 : Int32))).toUInt32 &&& Int32.toUInt32 31)).toInt32).toInt8.toInt32)
    have w86 : jm_upd (sy_ai F 2) (sy_i F 0).toNatClampNeg ((((((sy_i F 82)).toUInt32 >>> ((((24 : Int32))).toUInt32 &&& Int32.toUInt32 31)).toInt32).toInt8.toInt32).toInt8.toInt32) = jm_upd (sy_ai F 2) ((sy_i F 0).toInt).toNat ((((((sy_i F 82)).toUInt32 >>> ((((24 : Int32))).toUInt32 &&& Int32.toUInt32 31)).toInt32).toInt8.toInt32).toInt8.toInt32) := by simp only [nz_c, (by decide : ((24 : Int32)).toInt = 24)]
    exact k3oap_0_p1 hd F X1 X2 hB (by first | exact g0 | (simp only [nz_c]; exact g0)) (by first | exact ⟨by omega, by omega⟩ | (simp only [nz_c]; exact ⟨by omega, by omega⟩)) (by first | exact g1 | (simp only [nz_c, n87]; exact g1) | (rw [n87]; exact g1)) (fun F1 g e0 e2 => k1 g0 g1 F1 (nz_in0 hB [0, 2] (fun j hj hn => g j hj (by simp only [List.mem_cons, List.not_mem_nil, or_false, not_or] at hn; omega)) (List.forall_mem_cons.mpr ⟨fun t ht => (Option.some.inj ht) ▸ (nz_hi e0 n87 (by omega) (by omega)), List.forall_mem_cons.mpr ⟨fun t ht => (Option.some.inj ht) ▸ (nz_hA e2 (nz_up (nz_ba hB (k := 2) (lo := (-128)) (hi := 127) rfl) n85 (by omega) (by omega))), List.forall_mem_nil _⟩⟩)) (fun j hj hn => g j hj (by simp only [List.mem_cons, List.not_mem_nil, or_false, not_or] at hn; omega)) ((congrArg Int32.toInt (zz_i e0)).trans n87) ((zz_ai e2).trans w86))
  replace g1 : ((sy_i F 0).toInt + 1) < 2000 := by omega
  by_cases g2 : 2000 ≤ (((sy_i F 0).toInt + 1) + 1)
  · have c0 := nz_bx hB (k := 0) (lo := 0) (hi := 2000) rfl
    have n87 : ((sy_i F 0) + ((1 : Int32))).toInt = ((sy_i F 0).toInt + 1) := nz_add (rfl : (sy_i F 0).toInt = (sy_i F 0).toInt) (by decide : ((1 : Int32)).toInt = 1) (by omega) (by omega)
    have n92 : (((sy_i F 0) + ((1 : Int32))) + ((1 : Int32))).toInt = (((sy_i F 0).toInt + 1) + 1) := nz_add n87 (by decide : ((1 : Int32)).toInt = 1) (by omega) (by omega)
    have n90 : ((((((sy_i F 82)).toUInt32 >>> ((((16 : Int32))).toUInt32 &&& Int32.toUInt32 31)).toInt32).toInt8.toInt32).toInt8.toInt32).toInt = ((((((sy_i F 82)).toUInt32 >>> ((((16 : Int32))).toUInt32 &&& Int32.toUInt32 31)).toInt32).toInt8.toInt32).toInt8.toInt32).toInt := congrArg Int32.toInt (rfl : (((((sy_i F 82)).toUInt32 >>> ((((16 : Int32))).toUInt32 &&& Int32.toUInt32 31)).toInt32).toInt8.toInt32).toInt8.toInt32 = (((((sy_i F 82)).toUInt32 >>> ((((16 : Int32))).toUInt32 &&& Int32.toUInt32 31)).toInt32).toInt8.toInt32).toInt8.toInt32)
    have r90 := nz_b8 (((((sy_i F 82)).toUInt32 >>> ((((16 : Int32))).toUInt32 &&& Int32.toUInt32 31)).toInt32).toInt8.toInt32)
    have n85 : ((((((sy_i F 82)).toUInt32 >>> ((((24 : Int32))).toUInt32 &&& Int32.toUInt32 31)).toInt32).toInt8.toInt32).toInt8.toInt32).toInt = ((((((sy_i F 82)).toUInt32 >>> ((((24 : Int32))).toUInt32 &&& Int32.toUInt32 31)).toInt32).toInt8.toInt32).toInt8.toInt32).toInt := congrArg Int32.toInt (rfl : (((((sy_i F 82)).toUInt32 >>> ((((24 : Int32))).toUInt32 &&& Int32.toUInt32 31)).toInt32).toInt8.toInt32).toInt8.toInt32 = (((((sy_i F 82)).toUInt32 >>> ((((24 : Int32))).toUInt32 &&& Int32.toUInt32 31)).toInt32).toInt8.toInt32).toInt8.toInt32)
    have r85 := nz_b8 (((((sy_i F 82)).toUInt32 >>> ((((24 : Int32))).toUInt32 &&& Int32.toUInt32 31)).toInt32).toInt8.toInt32)
    have w91 : jm_upd (jm_upd (sy_ai F 2) (sy_i F 0).toNatClampNeg ((((((sy_i F 82)).toUInt32 >>> ((((24 : Int32))).toUInt32 &&& Int32.toUInt32 31)).toInt32).toInt8.toInt32).toInt8.toInt32)) ((sy_i F 0) + ((1 : Int32))).toNatClampNeg ((((((sy_i F 82)).toUInt32 >>> ((((16 : Int32))).toUInt32 &&& Int32.toUInt32 31)).toInt32).toInt8.toInt32).toInt8.toInt32) = jm_upd (jm_upd (sy_ai F 2) ((sy_i F 0).toInt).toNat ((((((sy_i F 82)).toUInt32 >>> ((((24 : Int32))).toUInt32 &&& Int32.toUInt32 31)).toInt32).toInt8.toInt32).toInt8.toInt32)) (((sy_i F 0).toInt + 1)).toNat ((((((sy_i F 82)).toUInt32 >>> ((((16 : Int32))).toUInt32 &&& Int32.toUInt32 31)).toInt32).toInt8.toInt32).toInt8.toInt32) := by simp only [nz_c, n87, (by decide : ((1 : Int32)).toInt = 1), (by decide : ((16 : Int32)).toInt = 16), (by decide : ((24 : Int32)).toInt = 24)]
    exact k3oap_0_p2 hd F X1 X2 hB (by first | exact g0 | (simp only [nz_c]; exact g0)) (by first | exact ⟨by omega, by omega⟩ | (simp only [nz_c]; exact ⟨by omega, by omega⟩)) (by first | exact g1 | (simp only [nz_c, n87]; exact g1) | (rw [n87]; exact g1)) (by first | exact ⟨by omega, by omega⟩ | (simp only [nz_c, n87]; exact ⟨by omega, by omega⟩) | (rw [n87]; exact ⟨by omega, by omega⟩)) (by first | exact g2 | (simp only [nz_c, n87, n92]; exact g2) | (rw [n92]; exact g2)) (fun F1 g e0 e2 => k2 g0 g1 g2 F1 (nz_in0 hB [0, 2] (fun j hj hn => g j hj (by simp only [List.mem_cons, List.not_mem_nil, or_false, not_or] at hn; omega)) (List.forall_mem_cons.mpr ⟨fun t ht => (Option.some.inj ht) ▸ (nz_hi e0 n92 (by omega) (by omega)), List.forall_mem_cons.mpr ⟨fun t ht => (Option.some.inj ht) ▸ (nz_hA e2 (nz_up (nz_up (nz_ba hB (k := 2) (lo := (-128)) (hi := 127) rfl) n85 (by omega) (by omega)) n90 (by omega) (by omega))), List.forall_mem_nil _⟩⟩)) (fun j hj hn => g j hj (by simp only [List.mem_cons, List.not_mem_nil, or_false, not_or] at hn; omega)) ((congrArg Int32.toInt (zz_i e0)).trans n92) ((zz_ai e2).trans w91))
  replace g2 : (((sy_i F 0).toInt + 1) + 1) < 2000 := by omega
  by_cases g3 : 2000 ≤ ((((sy_i F 0).toInt + 1) + 1) + 1)
  · have c0 := nz_bx hB (k := 0) (lo := 0) (hi := 2000) rfl
    have n87 : ((sy_i F 0) + ((1 : Int32))).toInt = ((sy_i F 0).toInt + 1) := nz_add (rfl : (sy_i F 0).toInt = (sy_i F 0).toInt) (by decide : ((1 : Int32)).toInt = 1) (by omega) (by omega)
    have n92 : (((sy_i F 0) + ((1 : Int32))) + ((1 : Int32))).toInt = (((sy_i F 0).toInt + 1) + 1) := nz_add n87 (by decide : ((1 : Int32)).toInt = 1) (by omega) (by omega)
    have n97 : ((((sy_i F 0) + ((1 : Int32))) + ((1 : Int32))) + ((1 : Int32))).toInt = ((((sy_i F 0).toInt + 1) + 1) + 1) := nz_add n92 (by decide : ((1 : Int32)).toInt = 1) (by omega) (by omega)
    have n95 : ((((((sy_i F 82)).toUInt32 >>> ((((8 : Int32))).toUInt32 &&& Int32.toUInt32 31)).toInt32).toInt8.toInt32).toInt8.toInt32).toInt = ((((((sy_i F 82)).toUInt32 >>> ((((8 : Int32))).toUInt32 &&& Int32.toUInt32 31)).toInt32).toInt8.toInt32).toInt8.toInt32).toInt := congrArg Int32.toInt (rfl : (((((sy_i F 82)).toUInt32 >>> ((((8 : Int32))).toUInt32 &&& Int32.toUInt32 31)).toInt32).toInt8.toInt32).toInt8.toInt32 = (((((sy_i F 82)).toUInt32 >>> ((((8 : Int32))).toUInt32 &&& Int32.toUInt32 31)).toInt32).toInt8.toInt32).toInt8.toInt32)
    have r95 := nz_b8 (((((sy_i F 82)).toUInt32 >>> ((((8 : Int32))).toUInt32 &&& Int32.toUInt32 31)).toInt32).toInt8.toInt32)
    have n90 : ((((((sy_i F 82)).toUInt32 >>> ((((16 : Int32))).toUInt32 &&& Int32.toUInt32 31)).toInt32).toInt8.toInt32).toInt8.toInt32).toInt = ((((((sy_i F 82)).toUInt32 >>> ((((16 : Int32))).toUInt32 &&& Int32.toUInt32 31)).toInt32).toInt8.toInt32).toInt8.toInt32).toInt := congrArg Int32.toInt (rfl : (((((sy_i F 82)).toUInt32 >>> ((((16 : Int32))).toUInt32 &&& Int32.toUInt32 31)).toInt32).toInt8.toInt32).toInt8.toInt32 = (((((sy_i F 82)).toUInt32 >>> ((((16 : Int32))).toUInt32 &&& Int32.toUInt32 31)).toInt32).toInt8.toInt32).toInt8.toInt32)
    have r90 := nz_b8 (((((sy_i F 82)).toUInt32 >>> ((((16 : Int32))).toUInt32 &&& Int32.toUInt32 31)).toInt32).toInt8.toInt32)
    have n85 : ((((((sy_i F 82)).toUInt32 >>> ((((24 : Int32))).toUInt32 &&& Int32.toUInt32 31)).toInt32).toInt8.toInt32).toInt8.toInt32).toInt = ((((((sy_i F 82)).toUInt32 >>> ((((24 : Int32))).toUInt32 &&& Int32.toUInt32 31)).toInt32).toInt8.toInt32).toInt8.toInt32).toInt := congrArg Int32.toInt (rfl : (((((sy_i F 82)).toUInt32 >>> ((((24 : Int32))).toUInt32 &&& Int32.toUInt32 31)).toInt32).toInt8.toInt32).toInt8.toInt32 = (((((sy_i F 82)).toUInt32 >>> ((((24 : Int32))).toUInt32 &&& Int32.toUInt32 31)).toInt32).toInt8.toInt32).toInt8.toInt32)
    have r85 := nz_b8 (((((sy_i F 82)).toUInt32 >>> ((((24 : Int32))).toUInt32 &&& Int32.toUInt32 31)).toInt32).toInt8.toInt32)
    have w96 : jm_upd (jm_upd (jm_upd (sy_ai F 2) (sy_i F 0).toNatClampNeg ((((((sy_i F 82)).toUInt32 >>> ((((24 : Int32))).toUInt32 &&& Int32.toUInt32 31)).toInt32).toInt8.toInt32).toInt8.toInt32)) ((sy_i F 0) + ((1 : Int32))).toNatClampNeg ((((((sy_i F 82)).toUInt32 >>> ((((16 : Int32))).toUInt32 &&& Int32.toUInt32 31)).toInt32).toInt8.toInt32).toInt8.toInt32)) (((sy_i F 0) + ((1 : Int32))) + ((1 : Int32))).toNatClampNeg ((((((sy_i F 82)).toUInt32 >>> ((((8 : Int32))).toUInt32 &&& Int32.toUInt32 31)).toInt32).toInt8.toInt32).toInt8.toInt32) = jm_upd (jm_upd (jm_upd (sy_ai F 2) ((sy_i F 0).toInt).toNat ((((((sy_i F 82)).toUInt32 >>> ((((24 : Int32))).toUInt32 &&& Int32.toUInt32 31)).toInt32).toInt8.toInt32).toInt8.toInt32)) (((sy_i F 0).toInt + 1)).toNat ((((((sy_i F 82)).toUInt32 >>> ((((16 : Int32))).toUInt32 &&& Int32.toUInt32 31)).toInt32).toInt8.toInt32).toInt8.toInt32)) ((((sy_i F 0).toInt + 1) + 1)).toNat ((((((sy_i F 82)).toUInt32 >>> ((((8 : Int32))).toUInt32 &&& Int32.toUInt32 31)).toInt32).toInt8.toInt32).toInt8.toInt32) := by simp only [nz_c, n87, n92, (by decide : ((1 : Int32)).toInt = 1), (by decide : ((8 : Int32)).toInt = 8), (by decide : ((16 : Int32)).toInt = 16), (by decide : ((24 : Int32)).toInt = 24)]
    exact k3oap_0_p3 hd F X1 X2 hB (by first | exact g0 | (simp only [nz_c]; exact g0)) (by first | exact ⟨by omega, by omega⟩ | (simp only [nz_c]; exact ⟨by omega, by omega⟩)) (by first | exact g1 | (simp only [nz_c, n87]; exact g1) | (rw [n87]; exact g1)) (by first | exact ⟨by omega, by omega⟩ | (simp only [nz_c, n87]; exact ⟨by omega, by omega⟩) | (rw [n87]; exact ⟨by omega, by omega⟩)) (by first | exact g2 | (simp only [nz_c, n87, n92]; exact g2) | (rw [n92]; exact g2)) (by first | exact ⟨by omega, by omega⟩ | (simp only [nz_c, n87, n92]; exact ⟨by omega, by omega⟩) | (rw [n92]; exact ⟨by omega, by omega⟩)) (by first | exact g3 | (simp only [nz_c, n87, n92, n97]; exact g3) | (rw [n97]; exact g3)) (fun F1 g e0 e2 => k3 g0 g1 g2 g3 F1 (nz_in0 hB [0, 2] (fun j hj hn => g j hj (by simp only [List.mem_cons, List.not_mem_nil, or_false, not_or] at hn; omega)) (List.forall_mem_cons.mpr ⟨fun t ht => (Option.some.inj ht) ▸ (nz_hi e0 n97 (by omega) (by omega)), List.forall_mem_cons.mpr ⟨fun t ht => (Option.some.inj ht) ▸ (nz_hA e2 (nz_up (nz_up (nz_up (nz_ba hB (k := 2) (lo := (-128)) (hi := 127) rfl) n85 (by omega) (by omega)) n90 (by omega) (by omega)) n95 (by omega) (by omega))), List.forall_mem_nil _⟩⟩)) (fun j hj hn => g j hj (by simp only [List.mem_cons, List.not_mem_nil, or_false, not_or] at hn; omega)) ((congrArg Int32.toInt (zz_i e0)).trans n97) ((zz_ai e2).trans w96))
  replace g3 : ((((sy_i F 0).toInt + 1) + 1) + 1) < 2000 := by omega
  have c0 := nz_bx hB (k := 0) (lo := 0) (hi := 2000) rfl
  have n87 : ((sy_i F 0) + ((1 : Int32))).toInt = ((sy_i F 0).toInt + 1) := nz_add (rfl : (sy_i F 0).toInt = (sy_i F 0).toInt) (by decide : ((1 : Int32)).toInt = 1) (by omega) (by omega)
  have n92 : (((sy_i F 0) + ((1 : Int32))) + ((1 : Int32))).toInt = (((sy_i F 0).toInt + 1) + 1) := nz_add n87 (by decide : ((1 : Int32)).toInt = 1) (by omega) (by omega)
  have n97 : ((((sy_i F 0) + ((1 : Int32))) + ((1 : Int32))) + ((1 : Int32))).toInt = ((((sy_i F 0).toInt + 1) + 1) + 1) := nz_add n92 (by decide : ((1 : Int32)).toInt = 1) (by omega) (by omega)
  have n102 : (((((sy_i F 0) + ((1 : Int32))) + ((1 : Int32))) + ((1 : Int32))) + ((1 : Int32))).toInt = (((((sy_i F 0).toInt + 1) + 1) + 1) + 1) := nz_add n97 (by decide : ((1 : Int32)).toInt = 1) (by omega) (by omega)
  have n100 : ((((((sy_i F 82)).toUInt32 >>> ((((0 : Int32))).toUInt32 &&& Int32.toUInt32 31)).toInt32).toInt8.toInt32).toInt8.toInt32).toInt = ((((((sy_i F 82)).toUInt32 >>> ((((0 : Int32))).toUInt32 &&& Int32.toUInt32 31)).toInt32).toInt8.toInt32).toInt8.toInt32).toInt := congrArg Int32.toInt (rfl : (((((sy_i F 82)).toUInt32 >>> ((((0 : Int32))).toUInt32 &&& Int32.toUInt32 31)).toInt32).toInt8.toInt32).toInt8.toInt32 = (((((sy_i F 82)).toUInt32 >>> ((((0 : Int32))).toUInt32 &&& Int32.toUInt32 31)).toInt32).toInt8.toInt32).toInt8.toInt32)
  have r100 := nz_b8 (((((sy_i F 82)).toUInt32 >>> ((((0 : Int32))).toUInt32 &&& Int32.toUInt32 31)).toInt32).toInt8.toInt32)
  have n95 : ((((((sy_i F 82)).toUInt32 >>> ((((8 : Int32))).toUInt32 &&& Int32.toUInt32 31)).toInt32).toInt8.toInt32).toInt8.toInt32).toInt = ((((((sy_i F 82)).toUInt32 >>> ((((8 : Int32))).toUInt32 &&& Int32.toUInt32 31)).toInt32).toInt8.toInt32).toInt8.toInt32).toInt := congrArg Int32.toInt (rfl : (((((sy_i F 82)).toUInt32 >>> ((((8 : Int32))).toUInt32 &&& Int32.toUInt32 31)).toInt32).toInt8.toInt32).toInt8.toInt32 = (((((sy_i F 82)).toUInt32 >>> ((((8 : Int32))).toUInt32 &&& Int32.toUInt32 31)).toInt32).toInt8.toInt32).toInt8.toInt32)
  have r95 := nz_b8 (((((sy_i F 82)).toUInt32 >>> ((((8 : Int32))).toUInt32 &&& Int32.toUInt32 31)).toInt32).toInt8.toInt32)
  have n90 : ((((((sy_i F 82)).toUInt32 >>> ((((16 : Int32))).toUInt32 &&& Int32.toUInt32 31)).toInt32).toInt8.toInt32).toInt8.toInt32).toInt = ((((((sy_i F 82)).toUInt32 >>> ((((16 : Int32))).toUInt32 &&& Int32.toUInt32 31)).toInt32).toInt8.toInt32).toInt8.toInt32).toInt := congrArg Int32.toInt (rfl : (((((sy_i F 82)).toUInt32 >>> ((((16 : Int32))).toUInt32 &&& Int32.toUInt32 31)).toInt32).toInt8.toInt32).toInt8.toInt32 = (((((sy_i F 82)).toUInt32 >>> ((((16 : Int32))).toUInt32 &&& Int32.toUInt32 31)).toInt32).toInt8.toInt32).toInt8.toInt32)
  have r90 := nz_b8 (((((sy_i F 82)).toUInt32 >>> ((((16 : Int32))).toUInt32 &&& Int32.toUInt32 31)).toInt32).toInt8.toInt32)
  have n85 : ((((((sy_i F 82)).toUInt32 >>> ((((24 : Int32))).toUInt32 &&& Int32.toUInt32 31)).toInt32).toInt8.toInt32).toInt8.toInt32).toInt = ((((((sy_i F 82)).toUInt32 >>> ((((24 : Int32))).toUInt32 &&& Int32.toUInt32 31)).toInt32).toInt8.toInt32).toInt8.toInt32).toInt := congrArg Int32.toInt (rfl : (((((sy_i F 82)).toUInt32 >>> ((((24 : Int32))).toUInt32 &&& Int32.toUInt32 31)).toInt32).toInt8.toInt32).toInt8.toInt32 = (((((sy_i F 82)).toUInt32 >>> ((((24 : Int32))).toUInt32 &&& Int32.toUInt32 31)).toInt32).toInt8.toInt32).toInt8.toInt32)
  have r85 := nz_b8 (((((sy_i F 82)).toUInt32 >>> ((((24 : Int32))).toUInt32 &&& Int32.toUInt32 31)).toInt32).toInt8.toInt32)
  have w101 : jm_upd (jm_upd (jm_upd (jm_upd (sy_ai F 2) (sy_i F 0).toNatClampNeg ((((((sy_i F 82)).toUInt32 >>> ((((24 : Int32))).toUInt32 &&& Int32.toUInt32 31)).toInt32).toInt8.toInt32).toInt8.toInt32)) ((sy_i F 0) + ((1 : Int32))).toNatClampNeg ((((((sy_i F 82)).toUInt32 >>> ((((16 : Int32))).toUInt32 &&& Int32.toUInt32 31)).toInt32).toInt8.toInt32).toInt8.toInt32)) (((sy_i F 0) + ((1 : Int32))) + ((1 : Int32))).toNatClampNeg ((((((sy_i F 82)).toUInt32 >>> ((((8 : Int32))).toUInt32 &&& Int32.toUInt32 31)).toInt32).toInt8.toInt32).toInt8.toInt32)) ((((sy_i F 0) + ((1 : Int32))) + ((1 : Int32))) + ((1 : Int32))).toNatClampNeg ((((((sy_i F 82)).toUInt32 >>> ((((0 : Int32))).toUInt32 &&& Int32.toUInt32 31)).toInt32).toInt8.toInt32).toInt8.toInt32) = jm_upd (jm_upd (jm_upd (jm_upd (sy_ai F 2) ((sy_i F 0).toInt).toNat ((((((sy_i F 82)).toUInt32 >>> ((((24 : Int32))).toUInt32 &&& Int32.toUInt32 31)).toInt32).toInt8.toInt32).toInt8.toInt32)) (((sy_i F 0).toInt + 1)).toNat ((((((sy_i F 82)).toUInt32 >>> ((((16 : Int32))).toUInt32 &&& Int32.toUInt32 31)).toInt32).toInt8.toInt32).toInt8.toInt32)) ((((sy_i F 0).toInt + 1) + 1)).toNat ((((((sy_i F 82)).toUInt32 >>> ((((8 : Int32))).toUInt32 &&& Int32.toUInt32 31)).toInt32).toInt8.toInt32).toInt8.toInt32)) (((((sy_i F 0).toInt + 1) + 1) + 1)).toNat ((((((sy_i F 82)).toUInt32 >>> ((((0 : Int32))).toUInt32 &&& Int32.toUInt32 31)).toInt32).toInt8.toInt32).toInt8.toInt32) := by simp only [nz_c, n87, n92, n97, (by decide : ((0 : Int32)).toInt = 0), (by decide : ((1 : Int32)).toInt = 1), (by decide : ((8 : Int32)).toInt = 8), (by decide : ((16 : Int32)).toInt = 16), (by decide : ((24 : Int32)).toInt = 24)]
  exact k3oap_0_p4 hd F X1 X2 hB (by first | exact g0 | (simp only [nz_c]; exact g0)) (by first | exact ⟨by omega, by omega⟩ | (simp only [nz_c]; exact ⟨by omega, by omega⟩)) (by first | exact g1 | (simp only [nz_c, n87]; exact g1) | (rw [n87]; exact g1)) (by first | exact ⟨by omega, by omega⟩ | (simp only [nz_c, n87]; exact ⟨by omega, by omega⟩) | (rw [n87]; exact ⟨by omega, by omega⟩)) (by first | exact g2 | (simp only [nz_c, n87, n92]; exact g2) | (rw [n92]; exact g2)) (by first | exact ⟨by omega, by omega⟩ | (simp only [nz_c, n87, n92]; exact ⟨by omega, by omega⟩) | (rw [n92]; exact ⟨by omega, by omega⟩)) (by first | exact g3 | (simp only [nz_c, n87, n92, n97]; exact g3) | (rw [n97]; exact g3)) (by first | exact ⟨by omega, by omega⟩ | (simp only [nz_c, n87, n92, n97]; exact ⟨by omega, by omega⟩) | (rw [n97]; exact ⟨by omega, by omega⟩)) (fun F1 g e0 e2 => k4 g0 g1 g2 g3 F1 (nz_in0 hB [0, 2] (fun j hj hn => g j hj (by simp only [List.mem_cons, List.not_mem_nil, or_false, not_or] at hn; omega)) (List.forall_mem_cons.mpr ⟨fun t ht => (Option.some.inj ht) ▸ (nz_hi e0 n102 (by omega) (by omega)), List.forall_mem_cons.mpr ⟨fun t ht => (Option.some.inj ht) ▸ (nz_hA e2 (nz_up (nz_up (nz_up (nz_up (nz_ba hB (k := 2) (lo := (-128)) (hi := 127) rfl) n85 (by omega) (by omega)) n90 (by omega) (by omega)) n95 (by omega) (by omega)) n100 (by omega) (by omega))), List.forall_mem_nil _⟩⟩)) (fun j hj hn => g j hj (by simp only [List.mem_cons, List.not_mem_nil, or_false, not_or] at hn; omega)) ((congrArg Int32.toInt (zz_i e0)).trans n102) ((zz_ai e2).trans w101))
theorem k3ofd_0_p0 {Ls : Nat} {xs : Nat → Int32} {d : Nat} {Q : Option Value → jm_h → Prop} (hd : 2 ≤ d) (F : Nat → sy_d) (X1 X2 : List jm_c) (hB : iv_in F iv_B0)
    (h0 : ((sy_i F 0) + ((20 : Int32))).toInt ≤ 2000)
    (k : ∀ F1 : Nat → sy_d, (∀ j, j < 82 → True → F1 j = F j) → F1 82 = .inl (.int (sy_i F 82)) → F1 83 = .inl (.int (sy_i F 83)) → F1 84 = .inl (.int (sy_i F 84)) → F1 85 = .inl (.int (sy_i F 85)) → F1 86 = .inl (.int (sy_i F 86)) → hd_W Ls xs d jm_M81 Q (17, sy_dL F1 [some (.inl (.ref 8)), some (.inr (.inl 82)), some (.inr (.inl 83)), some (.inr (.inl 84)), some (.inr (.inl 85)), some (.inr (.inl 86))], sy_dS F1 [.inr (.inl 82), .inl (.ref 8)], sy_dh F1 X1 X2 (iv_H 3), 0, 0)) :
    hd_W Ls xs d jm_M81 Q (0, sy_dL F [some (.inl (.ref 8)), some (.inr (.inl 82)), some (.inr (.inl 83)), some (.inr (.inl 84)), some (.inr (.inl 85)), some (.inr (.inl 86))], sy_dS F [], sy_dh F X1 X2 (iv_H 3), 0, 0) := by
  refine hd_run (s := 3) (nv := 87) (pc := 17) (L := [some (.inl (.ref 8)), some (.inr (.inl 82)), some (.inr (.inl 83)), some (.inr (.inl 84)), some (.inr (.inl 85)), some (.inr (.inl 86))]) (S := [.inr (.inl 82), .inl (.ref 8)]) (uh := hd_ov (iv_id 0 iv_B0) []) (ul := [.inl (.inr (.inl 82)), .inl (.inr (.inl 83)), .inl (.inr (.inl 84)), .inl (.inr (.inl 85)), .inl (.inr (.inl 86))]) (f := true) (sp := [17]) (d0 := 1) (O := [true]) (T := [(0, [.inr (.inl 0), .inl (.int 20)], [])]) (P := [(4, .inr (.inl 87), .inl (.int 2000))]) jm_ok81 (by decide +kernel) (by decide +kernel) hd F X1 X2 (fun F' hF hs => ?_)
  have b0 := hd_b (F := F) (F' := F') (k := 0) (hF 0 (by decide))
  have t87 : sy_dv F' (.inr (.inl 87)) = .int ((sy_i F 0) + ((20 : Int32))) := hd_o (hs 0 _ rfl) b0 rfl rfl
  have b82 := hd_b (F := F) (F' := F') (k := 82) (hF 82 (by decide))
  have b83 := hd_b (F := F) (F' := F') (k := 83) (hF 83 (by decide))
  have b84 := hd_b (F := F) (F' := F') (k := 84) (hF 84 (by decide))
  have b85 := hd_b (F := F) (F' := F') (k := 85) (hF 85 (by decide))
  have b86 := hd_b (F := F) (F' := F') (k := 86) (hF 86 (by decide))
  have hB' : iv_in F' iv_B0 := iv_in_eq hB (fun j hj => hF j (Nat.lt_of_lt_of_le hj (by decide +kernel)))
  refine ⟨List.forall_mem_cons.mpr ⟨hd_p4 t87 rfl (by have hc : ((2000) : Int32).toInt = 2000 := (by decide); omega), fun _ h => absurd h List.not_mem_nil⟩, ?_⟩
  refine k _ ?_ ?_ ?_ ?_ ?_ ?_
  · exact fun j hj _ => (hd_keep hB' (Nat.lt_of_lt_of_le hj (by decide +kernel)) (by simp)).trans (hF j (Nat.lt_of_lt_of_le hj (by decide)))
  · exact hd_gi (x := .inr (.inl 82)) (by decide +kernel) b82
  · exact hd_gi (x := .inr (.inl 83)) (by decide +kernel) b83
  · exact hd_gi (x := .inr (.inl 84)) (by decide +kernel) b84
  · exact hd_gi (x := .inr (.inl 85)) (by decide +kernel) b85
  · exact hd_gi (x := .inr (.inl 86)) (by decide +kernel) b86
theorem k3ofd_0_p1 {Ls : Nat} {xs : Nat → Int32} {d : Nat} {Q : Option Value → jm_h → Prop} (hd : 2 ≤ d) (F : Nat → sy_d) (X1 X2 : List jm_c) (hB : iv_in F iv_B0)
    (h0 : 2000 < ((sy_i F 0) + ((20 : Int32))).toInt)
    (k : ∀ F1 : Nat → sy_d, (∀ j, j < 82 → True → F1 j = F j) → Q (some (.int (((-1) : Int32)))) (sy_dh F1 X1 X2 (iv_H 3))) :
    hd_W Ls xs d jm_M81 Q (0, sy_dL F [some (.inl (.ref 8)), some (.inr (.inl 82)), some (.inr (.inl 83)), some (.inr (.inl 84)), some (.inr (.inl 85)), some (.inr (.inl 86))], sy_dS F [], sy_dh F X1 X2 (iv_H 3), 0, 0) := by
  refine hd_ret (s := 3) (nv := 87) (v := some (.inl (.int (-1)))) (uh := hd_ov (iv_id 0 iv_B0) []) (f := true) (sp := [17]) (d0 := 1) (O := [false]) (T := [(0, [.inr (.inl 0), .inl (.int 20)], [])]) (P := [(5, .inr (.inl 87), .inl (.int 2000))]) jm_ok81 (by decide +kernel) (by decide +kernel) hd F X1 X2 (fun F' hF hs => ?_)
  have b0 := hd_b (F := F) (F' := F') (k := 0) (hF 0 (by decide))
  have t87 : sy_dv F' (.inr (.inl 87)) = .int ((sy_i F 0) + ((20 : Int32))) := hd_o (hs 0 _ rfl) b0 rfl rfl
  have hB' : iv_in F' iv_B0 := iv_in_eq hB (fun j hj => hF j (Nat.lt_of_lt_of_le hj (by decide +kernel)))
  refine ⟨List.forall_mem_cons.mpr ⟨hd_p5 t87 rfl (by have hc : ((2000) : Int32).toInt = 2000 := (by decide); omega), fun _ h => absurd h List.not_mem_nil⟩, ?_⟩
  refine k _ ?_
  · exact fun j hj _ => (hd_keep hB' (Nat.lt_of_lt_of_le hj (by decide +kernel)) (by simp)).trans (hF j (Nat.lt_of_lt_of_le hj (by decide)))
theorem k3ofd_0 {Ls : Nat} {xs : Nat → Int32} {d : Nat} {Q : Option Value → jm_h → Prop} (hd : 2 ≤ d) (F : Nat → sy_d) (X1 X2 : List jm_c) (hB : iv_in F iv_B0)
    (k0 : ((sy_i F 0).toInt + 20) ≤ 2000 → ∀ F1 : Nat → sy_d, iv_in F1 iv_B0 → (∀ j, j < 82 → j ∉ ([] : List Nat) → F1 j = F j) → (sy_i F1 0).toInt = (sy_i F 0).toInt → (sy_i F1 1).toInt = (sy_i F 1).toInt → (sy_i F1 79).toInt = (sy_i F 79).toInt → sy_ai F1 2 = sy_ai F 2 → sy_ai F1 78 = sy_ai F 78 → (sy_i F1 82).toInt = (sy_i F 82).toInt → (sy_i F1 83).toInt = (sy_i F 83).toInt → (sy_i F1 84).toInt = (sy_i F 84).toInt → (sy_i F1 85).toInt = (sy_i F 85).toInt → (sy_i F1 86).toInt = (sy_i F 86).toInt → hd_W Ls xs d jm_M81 Q (17, sy_dL F1 [some (.inl (.ref 8)), some (.inr (.inl 82)), some (.inr (.inl 83)), some (.inr (.inl 84)), some (.inr (.inl 85)), some (.inr (.inl 86))], sy_dS F1 [.inr (.inl 82), .inl (.ref 8)], sy_dh F1 X1 X2 (iv_H 3), 0, 0))
    (k1 : 2000 < ((sy_i F 0).toInt + 20) → ∀ F1 : Nat → sy_d, iv_in F1 iv_B0 → (∀ j, j < 82 → j ∉ ([] : List Nat) → F1 j = F j) → (sy_i F1 0).toInt = (sy_i F 0).toInt → (sy_i F1 1).toInt = (sy_i F 1).toInt → (sy_i F1 79).toInt = (sy_i F 79).toInt → sy_ai F1 2 = sy_ai F 2 → sy_ai F1 78 = sy_ai F 78 → Q (some (.int (((-1) : Int32)))) (sy_dh F1 X1 X2 (iv_H 3))) :
    hd_W Ls xs d jm_M81 Q (0, sy_dL F [some (.inl (.ref 8)), some (.inr (.inl 82)), some (.inr (.inl 83)), some (.inr (.inl 84)), some (.inr (.inl 85)), some (.inr (.inl 86))], sy_dS F [], sy_dh F X1 X2 (iv_H 3), 0, 0) := by
  by_cases g0 : ((sy_i F 0).toInt + 20) ≤ 2000
  · have c0 := nz_bx hB (k := 0) (lo := 0) (hi := 2000) rfl
    have n87 : ((sy_i F 0) + ((20 : Int32))).toInt = ((sy_i F 0).toInt + 20) := nz_add (rfl : (sy_i F 0).toInt = (sy_i F 0).toInt) (by decide : ((20 : Int32)).toInt = 20) (by omega) (by omega)
    exact k3ofd_0_p0 hd F X1 X2 hB (by first | exact g0 | (simp only [nz_c, n87]; exact g0) | (rw [n87]; exact g0)) (fun F1 g e82 e83 e84 e85 e86 => k0 g0 F1 (nz_in0 hB [] (fun j hj hn => g j hj (by simp only [List.mem_cons, List.not_mem_nil, or_false, not_or] at hn; exact trivial)) (List.forall_mem_nil _)) (fun j hj hn => g j hj (by simp only [List.mem_cons, List.not_mem_nil, or_false, not_or] at hn; exact trivial)) (nz_fi (g 0 (by decide) (by decide))) (nz_fi (g 1 (by decide) (by decide))) (nz_fi (g 79 (by decide) (by decide))) (nz_fa (g 2 (by decide) (by decide))) (nz_fa (g 78 (by decide) (by decide))) ((congrArg Int32.toInt (zz_i e82)).trans (rfl : (sy_i F 82).toInt = (sy_i F 82).toInt)) ((congrArg Int32.toInt (zz_i e83)).trans (rfl : (sy_i F 83).toInt = (sy_i F 83).toInt)) ((congrArg Int32.toInt (zz_i e84)).trans (rfl : (sy_i F 84).toInt = (sy_i F 84).toInt)) ((congrArg Int32.toInt (zz_i e85)).trans (rfl : (sy_i F 85).toInt = (sy_i F 85).toInt)) ((congrArg Int32.toInt (zz_i e86)).trans (rfl : (sy_i F 86).toInt = (sy_i F 86).toInt)))
  replace g0 : 2000 < ((sy_i F 0).toInt + 20) := by omega
  have c0 := nz_bx hB (k := 0) (lo := 0) (hi := 2000) rfl
  have n87 : ((sy_i F 0) + ((20 : Int32))).toInt = ((sy_i F 0).toInt + 20) := nz_add (rfl : (sy_i F 0).toInt = (sy_i F 0).toInt) (by decide : ((20 : Int32)).toInt = 20) (by omega) (by omega)
  exact k3ofd_0_p1 hd F X1 X2 hB (by first | exact g0 | (simp only [nz_c, n87]; exact g0) | (rw [n87]; exact g0)) (fun F1 g  => k1 g0 F1 (nz_in0 hB [] (fun j hj hn => g j hj (by simp only [List.mem_cons, List.not_mem_nil, or_false, not_or] at hn; exact trivial)) (List.forall_mem_nil _)) (fun j hj hn => g j hj (by simp only [List.mem_cons, List.not_mem_nil, or_false, not_or] at hn; exact trivial)) (nz_fi (g 0 (by decide) (by decide))) (nz_fi (g 1 (by decide) (by decide))) (nz_fi (g 79 (by decide) (by decide))) (nz_fa (g 2 (by decide) (by decide))) (nz_fa (g 78 (by decide) (by decide))))
theorem k3ofd_20_p0 {Ls : Nat} {xs : Nat → Int32} {d : Nat} {Q : Option Value → jm_h → Prop} (hd : 2 ≤ d) (F : Nat → sy_d) (X1 X2 : List jm_c) (hB : iv_in F iv_B0)
    (k : ∀ F1 : Nat → sy_d, (∀ j, j < 82 → True → F1 j = F j) → F1 82 = .inl (.int (sy_i F 82)) → F1 83 = .inl (.int (sy_i F 83)) → F1 84 = .inl (.int (sy_i F 84)) → F1 85 = .inl (.int (sy_i F 85)) → F1 86 = .inl (.int (sy_i F 86)) → hd_W Ls xs d jm_M81 Q (22, sy_dL F1 [some (.inl (.ref 8)), some (.inr (.inl 82)), some (.inr (.inl 83)), some (.inr (.inl 84)), some (.inr (.inl 85)), some (.inr (.inl 86))], sy_dS F1 [.inr (.inl 83), .inl (.ref 8)], sy_dh F1 X1 X2 (iv_H 3), 0, 0)) :
    hd_W Ls xs d jm_M81 Q (20, sy_dL F [some (.inl (.ref 8)), some (.inr (.inl 82)), some (.inr (.inl 83)), some (.inr (.inl 84)), some (.inr (.inl 85)), some (.inr (.inl 86))], sy_dS F [], sy_dh F X1 X2 (iv_H 3), 0, 0) := by
  refine hd_run (s := 3) (nv := 87) (pc := 22) (L := [some (.inl (.ref 8)), some (.inr (.inl 82)), some (.inr (.inl 83)), some (.inr (.inl 84)), some (.inr (.inl 85)), some (.inr (.inl 86))]) (S := [.inr (.inl 83), .inl (.ref 8)]) (uh := hd_ov (iv_id 0 iv_B0) []) (ul := [.inl (.inr (.inl 82)), .inl (.inr (.inl 83)), .inl (.inr (.inl 84)), .inl (.inr (.inl 85)), .inl (.inr (.inl 86))]) (f := false) (sp := [22]) (d0 := 1) (O := []) (T := []) (P := []) jm_ok81 (by decide +kernel) (by decide +kernel) hd F X1 X2 (fun F' hF hs => ?_)
  have b82 := hd_b (F := F) (F' := F') (k := 82) (hF 82 (by decide))
  have b83 := hd_b (F := F) (F' := F') (k := 83) (hF 83 (by decide))
  have b84 := hd_b (F := F) (F' := F') (k := 84) (hF 84 (by decide))
  have b85 := hd_b (F := F) (F' := F') (k := 85) (hF 85 (by decide))
  have b86 := hd_b (F := F) (F' := F') (k := 86) (hF 86 (by decide))
  have hB' : iv_in F' iv_B0 := iv_in_eq hB (fun j hj => hF j (Nat.lt_of_lt_of_le hj (by decide +kernel)))
  refine ⟨fun _ h => absurd h List.not_mem_nil, ?_⟩
  refine k _ ?_ ?_ ?_ ?_ ?_ ?_
  · exact fun j hj _ => (hd_keep hB' (Nat.lt_of_lt_of_le hj (by decide +kernel)) (by simp)).trans (hF j (Nat.lt_of_lt_of_le hj (by decide)))
  · exact hd_gi (x := .inr (.inl 82)) (by decide +kernel) b82
  · exact hd_gi (x := .inr (.inl 83)) (by decide +kernel) b83
  · exact hd_gi (x := .inr (.inl 84)) (by decide +kernel) b84
  · exact hd_gi (x := .inr (.inl 85)) (by decide +kernel) b85
  · exact hd_gi (x := .inr (.inl 86)) (by decide +kernel) b86
theorem k3ofd_20 {Ls : Nat} {xs : Nat → Int32} {d : Nat} {Q : Option Value → jm_h → Prop} (hd : 2 ≤ d) (F : Nat → sy_d) (X1 X2 : List jm_c) (hB : iv_in F iv_B0)
    (k0 : ∀ F1 : Nat → sy_d, iv_in F1 iv_B0 → (∀ j, j < 82 → j ∉ ([] : List Nat) → F1 j = F j) → (sy_i F1 0).toInt = (sy_i F 0).toInt → (sy_i F1 1).toInt = (sy_i F 1).toInt → (sy_i F1 79).toInt = (sy_i F 79).toInt → sy_ai F1 2 = sy_ai F 2 → sy_ai F1 78 = sy_ai F 78 → (sy_i F1 82).toInt = (sy_i F 82).toInt → (sy_i F1 83).toInt = (sy_i F 83).toInt → (sy_i F1 84).toInt = (sy_i F 84).toInt → (sy_i F1 85).toInt = (sy_i F 85).toInt → (sy_i F1 86).toInt = (sy_i F 86).toInt → hd_W Ls xs d jm_M81 Q (22, sy_dL F1 [some (.inl (.ref 8)), some (.inr (.inl 82)), some (.inr (.inl 83)), some (.inr (.inl 84)), some (.inr (.inl 85)), some (.inr (.inl 86))], sy_dS F1 [.inr (.inl 83), .inl (.ref 8)], sy_dh F1 X1 X2 (iv_H 3), 0, 0)) :
    hd_W Ls xs d jm_M81 Q (20, sy_dL F [some (.inl (.ref 8)), some (.inr (.inl 82)), some (.inr (.inl 83)), some (.inr (.inl 84)), some (.inr (.inl 85)), some (.inr (.inl 86))], sy_dS F [], sy_dh F X1 X2 (iv_H 3), 0, 0) := by
  exact k3ofd_20_p0 hd F X1 X2 hB  (fun F1 g e82 e83 e84 e85 e86 => k0 F1 (nz_in0 hB [] (fun j hj hn => g j hj (by simp only [List.mem_cons, List.not_mem_nil, or_false, not_or] at hn; exact trivial)) (List.forall_mem_nil _)) (fun j hj hn => g j hj (by simp only [List.mem_cons, List.not_mem_nil, or_false, not_or] at hn; exact trivial)) (nz_fi (g 0 (by decide) (by decide))) (nz_fi (g 1 (by decide) (by decide))) (nz_fi (g 79 (by decide) (by decide))) (nz_fa (g 2 (by decide) (by decide))) (nz_fa (g 78 (by decide) (by decide))) ((congrArg Int32.toInt (zz_i e82)).trans (rfl : (sy_i F 82).toInt = (sy_i F 82).toInt)) ((congrArg Int32.toInt (zz_i e83)).trans (rfl : (sy_i F 83).toInt = (sy_i F 83).toInt)) ((congrArg Int32.toInt (zz_i e84)).trans (rfl : (sy_i F 84).toInt = (sy_i F 84).toInt)) ((congrArg Int32.toInt (zz_i e85)).trans (rfl : (sy_i F 85).toInt = (sy_i F 85).toInt)) ((congrArg Int32.toInt (zz_i e86)).trans (rfl : (sy_i F 86).toInt = (sy_i F 86).toInt)))
theorem k3ofd_25_p0 {Ls : Nat} {xs : Nat → Int32} {d : Nat} {Q : Option Value → jm_h → Prop} (hd : 2 ≤ d) (F : Nat → sy_d) (X1 X2 : List jm_c) (hB : iv_in F iv_B0)
    (k : ∀ F1 : Nat → sy_d, (∀ j, j < 82 → True → F1 j = F j) → F1 82 = .inl (.int (sy_i F 82)) → F1 83 = .inl (.int (sy_i F 83)) → F1 84 = .inl (.int (sy_i F 84)) → F1 85 = .inl (.int (sy_i F 85)) → F1 86 = .inl (.int (sy_i F 86)) → hd_W Ls xs d jm_M81 Q (27, sy_dL F1 [some (.inl (.ref 8)), some (.inr (.inl 82)), some (.inr (.inl 83)), some (.inr (.inl 84)), some (.inr (.inl 85)), some (.inr (.inl 86))], sy_dS F1 [.inr (.inl 84), .inl (.ref 8)], sy_dh F1 X1 X2 (iv_H 3), 0, 0)) :
    hd_W Ls xs d jm_M81 Q (25, sy_dL F [some (.inl (.ref 8)), some (.inr (.inl 82)), some (.inr (.inl 83)), some (.inr (.inl 84)), some (.inr (.inl 85)), some (.inr (.inl 86))], sy_dS F [], sy_dh F X1 X2 (iv_H 3), 0, 0) := by
  refine hd_run (s := 3) (nv := 87) (pc := 27) (L := [some (.inl (.ref 8)), some (.inr (.inl 82)), some (.inr (.inl 83)), some (.inr (.inl 84)), some (.inr (.inl 85)), some (.inr (.inl 86))]) (S := [.inr (.inl 84), .inl (.ref 8)]) (uh := hd_ov (iv_id 0 iv_B0) []) (ul := [.inl (.inr (.inl 82)), .inl (.inr (.inl 83)), .inl (.inr (.inl 84)), .inl (.inr (.inl 85)), .inl (.inr (.inl 86))]) (f := false) (sp := [27]) (d0 := 1) (O := []) (T := []) (P := []) jm_ok81 (by decide +kernel) (by decide +kernel) hd F X1 X2 (fun F' hF hs => ?_)
  have b82 := hd_b (F := F) (F' := F') (k := 82) (hF 82 (by decide))
  have b83 := hd_b (F := F) (F' := F') (k := 83) (hF 83 (by decide))
  have b84 := hd_b (F := F) (F' := F') (k := 84) (hF 84 (by decide))
  have b85 := hd_b (F := F) (F' := F') (k := 85) (hF 85 (by decide))
  have b86 := hd_b (F := F) (F' := F') (k := 86) (hF 86 (by decide))
  have hB' : iv_in F' iv_B0 := iv_in_eq hB (fun j hj => hF j (Nat.lt_of_lt_of_le hj (by decide +kernel)))
  refine ⟨fun _ h => absurd h List.not_mem_nil, ?_⟩
  refine k _ ?_ ?_ ?_ ?_ ?_ ?_
  · exact fun j hj _ => (hd_keep hB' (Nat.lt_of_lt_of_le hj (by decide +kernel)) (by simp)).trans (hF j (Nat.lt_of_lt_of_le hj (by decide)))
  · exact hd_gi (x := .inr (.inl 82)) (by decide +kernel) b82
  · exact hd_gi (x := .inr (.inl 83)) (by decide +kernel) b83
  · exact hd_gi (x := .inr (.inl 84)) (by decide +kernel) b84
  · exact hd_gi (x := .inr (.inl 85)) (by decide +kernel) b85
  · exact hd_gi (x := .inr (.inl 86)) (by decide +kernel) b86
theorem k3ofd_25 {Ls : Nat} {xs : Nat → Int32} {d : Nat} {Q : Option Value → jm_h → Prop} (hd : 2 ≤ d) (F : Nat → sy_d) (X1 X2 : List jm_c) (hB : iv_in F iv_B0)
    (k0 : ∀ F1 : Nat → sy_d, iv_in F1 iv_B0 → (∀ j, j < 82 → j ∉ ([] : List Nat) → F1 j = F j) → (sy_i F1 0).toInt = (sy_i F 0).toInt → (sy_i F1 1).toInt = (sy_i F 1).toInt → (sy_i F1 79).toInt = (sy_i F 79).toInt → sy_ai F1 2 = sy_ai F 2 → sy_ai F1 78 = sy_ai F 78 → (sy_i F1 82).toInt = (sy_i F 82).toInt → (sy_i F1 83).toInt = (sy_i F 83).toInt → (sy_i F1 84).toInt = (sy_i F 84).toInt → (sy_i F1 85).toInt = (sy_i F 85).toInt → (sy_i F1 86).toInt = (sy_i F 86).toInt → hd_W Ls xs d jm_M81 Q (27, sy_dL F1 [some (.inl (.ref 8)), some (.inr (.inl 82)), some (.inr (.inl 83)), some (.inr (.inl 84)), some (.inr (.inl 85)), some (.inr (.inl 86))], sy_dS F1 [.inr (.inl 84), .inl (.ref 8)], sy_dh F1 X1 X2 (iv_H 3), 0, 0)) :
    hd_W Ls xs d jm_M81 Q (25, sy_dL F [some (.inl (.ref 8)), some (.inr (.inl 82)), some (.inr (.inl 83)), some (.inr (.inl 84)), some (.inr (.inl 85)), some (.inr (.inl 86))], sy_dS F [], sy_dh F X1 X2 (iv_H 3), 0, 0) := by
  exact k3ofd_25_p0 hd F X1 X2 hB  (fun F1 g e82 e83 e84 e85 e86 => k0 F1 (nz_in0 hB [] (fun j hj hn => g j hj (by simp only [List.mem_cons, List.not_mem_nil, or_false, not_or] at hn; exact trivial)) (List.forall_mem_nil _)) (fun j hj hn => g j hj (by simp only [List.mem_cons, List.not_mem_nil, or_false, not_or] at hn; exact trivial)) (nz_fi (g 0 (by decide) (by decide))) (nz_fi (g 1 (by decide) (by decide))) (nz_fi (g 79 (by decide) (by decide))) (nz_fa (g 2 (by decide) (by decide))) (nz_fa (g 78 (by decide) (by decide))) ((congrArg Int32.toInt (zz_i e82)).trans (rfl : (sy_i F 82).toInt = (sy_i F 82).toInt)) ((congrArg Int32.toInt (zz_i e83)).trans (rfl : (sy_i F 83).toInt = (sy_i F 83).toInt)) ((congrArg Int32.toInt (zz_i e84)).trans (rfl : (sy_i F 84).toInt = (sy_i F 84).toInt)) ((congrArg Int32.toInt (zz_i e85)).trans (rfl : (sy_i F 85).toInt = (sy_i F 85).toInt)) ((congrArg Int32.toInt (zz_i e86)).trans (rfl : (sy_i F 86).toInt = (sy_i F 86).toInt)))
theorem k3ofd_30_p0 {Ls : Nat} {xs : Nat → Int32} {d : Nat} {Q : Option Value → jm_h → Prop} (hd : 2 ≤ d) (F : Nat → sy_d) (X1 X2 : List jm_c) (hB : iv_in F iv_B0)
    (k : ∀ F1 : Nat → sy_d, (∀ j, j < 82 → True → F1 j = F j) → F1 82 = .inl (.int (sy_i F 82)) → F1 83 = .inl (.int (sy_i F 83)) → F1 84 = .inl (.int (sy_i F 84)) → F1 85 = .inl (.int (sy_i F 85)) → F1 86 = .inl (.int (sy_i F 86)) → hd_W Ls xs d jm_M81 Q (33, sy_dL F1 [some (.inl (.ref 8)), some (.inr (.inl 82)), some (.inr (.inl 83)), some (.inr (.inl 84)), some (.inr (.inl 85)), some (.inr (.inl 86))], sy_dS F1 [.inr (.inl 85), .inl (.ref 8)], sy_dh F1 X1 X2 (iv_H 3), 0, 0)) :
    hd_W Ls xs d jm_M81 Q (30, sy_dL F [some (.inl (.ref 8)), some (.inr (.inl 82)), some (.inr (.inl 83)), some (.inr (.inl 84)), some (.inr (.inl 85)), some (.inr (.inl 86))], sy_dS F [], sy_dh F X1 X2 (iv_H 3), 0, 0) := by
  refine hd_run (s := 3) (nv := 87) (pc := 33) (L := [some (.inl (.ref 8)), some (.inr (.inl 82)), some (.inr (.inl 83)), some (.inr (.inl 84)), some (.inr (.inl 85)), some (.inr (.inl 86))]) (S := [.inr (.inl 85), .inl (.ref 8)]) (uh := hd_ov (iv_id 0 iv_B0) []) (ul := [.inl (.inr (.inl 82)), .inl (.inr (.inl 83)), .inl (.inr (.inl 84)), .inl (.inr (.inl 85)), .inl (.inr (.inl 86))]) (f := false) (sp := [33]) (d0 := 1) (O := []) (T := []) (P := []) jm_ok81 (by decide +kernel) (by decide +kernel) hd F X1 X2 (fun F' hF hs => ?_)
  have b82 := hd_b (F := F) (F' := F') (k := 82) (hF 82 (by decide))
  have b83 := hd_b (F := F) (F' := F') (k := 83) (hF 83 (by decide))
  have b84 := hd_b (F := F) (F' := F') (k := 84) (hF 84 (by decide))
  have b85 := hd_b (F := F) (F' := F') (k := 85) (hF 85 (by decide))
  have b86 := hd_b (F := F) (F' := F') (k := 86) (hF 86 (by decide))
  have hB' : iv_in F' iv_B0 := iv_in_eq hB (fun j hj => hF j (Nat.lt_of_lt_of_le hj (by decide +kernel)))
  refine ⟨fun _ h => absurd h List.not_mem_nil, ?_⟩
  refine k _ ?_ ?_ ?_ ?_ ?_ ?_
  · exact fun j hj _ => (hd_keep hB' (Nat.lt_of_lt_of_le hj (by decide +kernel)) (by simp)).trans (hF j (Nat.lt_of_lt_of_le hj (by decide)))
  · exact hd_gi (x := .inr (.inl 82)) (by decide +kernel) b82
  · exact hd_gi (x := .inr (.inl 83)) (by decide +kernel) b83
  · exact hd_gi (x := .inr (.inl 84)) (by decide +kernel) b84
  · exact hd_gi (x := .inr (.inl 85)) (by decide +kernel) b85
  · exact hd_gi (x := .inr (.inl 86)) (by decide +kernel) b86
theorem k3ofd_30 {Ls : Nat} {xs : Nat → Int32} {d : Nat} {Q : Option Value → jm_h → Prop} (hd : 2 ≤ d) (F : Nat → sy_d) (X1 X2 : List jm_c) (hB : iv_in F iv_B0)
    (k0 : ∀ F1 : Nat → sy_d, iv_in F1 iv_B0 → (∀ j, j < 82 → j ∉ ([] : List Nat) → F1 j = F j) → (sy_i F1 0).toInt = (sy_i F 0).toInt → (sy_i F1 1).toInt = (sy_i F 1).toInt → (sy_i F1 79).toInt = (sy_i F 79).toInt → sy_ai F1 2 = sy_ai F 2 → sy_ai F1 78 = sy_ai F 78 → (sy_i F1 82).toInt = (sy_i F 82).toInt → (sy_i F1 83).toInt = (sy_i F 83).toInt → (sy_i F1 84).toInt = (sy_i F 84).toInt → (sy_i F1 85).toInt = (sy_i F 85).toInt → (sy_i F1 86).toInt = (sy_i F 86).toInt → hd_W Ls xs d jm_M81 Q (33, sy_dL F1 [some (.inl (.ref 8)), some (.inr (.inl 82)), some (.inr (.inl 83)), some (.inr (.inl 84)), some (.inr (.inl 85)), some (.inr (.inl 86))], sy_dS F1 [.inr (.inl 85), .inl (.ref 8)], sy_dh F1 X1 X2 (iv_H 3), 0, 0)) :
    hd_W Ls xs d jm_M81 Q (30, sy_dL F [some (.inl (.ref 8)), some (.inr (.inl 82)), some (.inr (.inl 83)), some (.inr (.inl 84)), some (.inr (.inl 85)), some (.inr (.inl 86))], sy_dS F [], sy_dh F X1 X2 (iv_H 3), 0, 0) := by
  exact k3ofd_30_p0 hd F X1 X2 hB  (fun F1 g e82 e83 e84 e85 e86 => k0 F1 (nz_in0 hB [] (fun j hj hn => g j hj (by simp only [List.mem_cons, List.not_mem_nil, or_false, not_or] at hn; exact trivial)) (List.forall_mem_nil _)) (fun j hj hn => g j hj (by simp only [List.mem_cons, List.not_mem_nil, or_false, not_or] at hn; exact trivial)) (nz_fi (g 0 (by decide) (by decide))) (nz_fi (g 1 (by decide) (by decide))) (nz_fi (g 79 (by decide) (by decide))) (nz_fa (g 2 (by decide) (by decide))) (nz_fa (g 78 (by decide) (by decide))) ((congrArg Int32.toInt (zz_i e82)).trans (rfl : (sy_i F 82).toInt = (sy_i F 82).toInt)) ((congrArg Int32.toInt (zz_i e83)).trans (rfl : (sy_i F 83).toInt = (sy_i F 83).toInt)) ((congrArg Int32.toInt (zz_i e84)).trans (rfl : (sy_i F 84).toInt = (sy_i F 84).toInt)) ((congrArg Int32.toInt (zz_i e85)).trans (rfl : (sy_i F 85).toInt = (sy_i F 85).toInt)) ((congrArg Int32.toInt (zz_i e86)).trans (rfl : (sy_i F 86).toInt = (sy_i F 86).toInt)))
theorem k3ofd_36_p0 {Ls : Nat} {xs : Nat → Int32} {d : Nat} {Q : Option Value → jm_h → Prop} (hd : 2 ≤ d) (F : Nat → sy_d) (X1 X2 : List jm_c) (hB : iv_in F iv_B0)
    (k : ∀ F1 : Nat → sy_d, (∀ j, j < 82 → True → F1 j = F j) → F1 82 = .inl (.int (sy_i F 82)) → F1 83 = .inl (.int (sy_i F 83)) → F1 84 = .inl (.int (sy_i F 84)) → F1 85 = .inl (.int (sy_i F 85)) → F1 86 = .inl (.int (sy_i F 86)) → hd_W Ls xs d jm_M81 Q (39, sy_dL F1 [some (.inl (.ref 8)), some (.inr (.inl 82)), some (.inr (.inl 83)), some (.inr (.inl 84)), some (.inr (.inl 85)), some (.inr (.inl 86))], sy_dS F1 [.inr (.inl 86), .inl (.ref 8)], sy_dh F1 X1 X2 (iv_H 3), 0, 0)) :
    hd_W Ls xs d jm_M81 Q (36, sy_dL F [some (.inl (.ref 8)), some (.inr (.inl 82)), some (.inr (.inl 83)), some (.inr (.inl 84)), some (.inr (.inl 85)), some (.inr (.inl 86))], sy_dS F [], sy_dh F X1 X2 (iv_H 3), 0, 0) := by
  refine hd_run (s := 3) (nv := 87) (pc := 39) (L := [some (.inl (.ref 8)), some (.inr (.inl 82)), some (.inr (.inl 83)), some (.inr (.inl 84)), some (.inr (.inl 85)), some (.inr (.inl 86))]) (S := [.inr (.inl 86), .inl (.ref 8)]) (uh := hd_ov (iv_id 0 iv_B0) []) (ul := [.inl (.inr (.inl 82)), .inl (.inr (.inl 83)), .inl (.inr (.inl 84)), .inl (.inr (.inl 85)), .inl (.inr (.inl 86))]) (f := false) (sp := [39]) (d0 := 1) (O := []) (T := []) (P := []) jm_ok81 (by decide +kernel) (by decide +kernel) hd F X1 X2 (fun F' hF hs => ?_)
  have b82 := hd_b (F := F) (F' := F') (k := 82) (hF 82 (by decide))
  have b83 := hd_b (F := F) (F' := F') (k := 83) (hF 83 (by decide))
  have b84 := hd_b (F := F) (F' := F') (k := 84) (hF 84 (by decide))
  have b85 := hd_b (F := F) (F' := F') (k := 85) (hF 85 (by decide))
  have b86 := hd_b (F := F) (F' := F') (k := 86) (hF 86 (by decide))
  have hB' : iv_in F' iv_B0 := iv_in_eq hB (fun j hj => hF j (Nat.lt_of_lt_of_le hj (by decide +kernel)))
  refine ⟨fun _ h => absurd h List.not_mem_nil, ?_⟩
  refine k _ ?_ ?_ ?_ ?_ ?_ ?_
  · exact fun j hj _ => (hd_keep hB' (Nat.lt_of_lt_of_le hj (by decide +kernel)) (by simp)).trans (hF j (Nat.lt_of_lt_of_le hj (by decide)))
  · exact hd_gi (x := .inr (.inl 82)) (by decide +kernel) b82
  · exact hd_gi (x := .inr (.inl 83)) (by decide +kernel) b83
  · exact hd_gi (x := .inr (.inl 84)) (by decide +kernel) b84
  · exact hd_gi (x := .inr (.inl 85)) (by decide +kernel) b85
  · exact hd_gi (x := .inr (.inl 86)) (by decide +kernel) b86
theorem k3ofd_36 {Ls : Nat} {xs : Nat → Int32} {d : Nat} {Q : Option Value → jm_h → Prop} (hd : 2 ≤ d) (F : Nat → sy_d) (X1 X2 : List jm_c) (hB : iv_in F iv_B0)
    (k0 : ∀ F1 : Nat → sy_d, iv_in F1 iv_B0 → (∀ j, j < 82 → j ∉ ([] : List Nat) → F1 j = F j) → (sy_i F1 0).toInt = (sy_i F 0).toInt → (sy_i F1 1).toInt = (sy_i F 1).toInt → (sy_i F1 79).toInt = (sy_i F 79).toInt → sy_ai F1 2 = sy_ai F 2 → sy_ai F1 78 = sy_ai F 78 → (sy_i F1 82).toInt = (sy_i F 82).toInt → (sy_i F1 83).toInt = (sy_i F 83).toInt → (sy_i F1 84).toInt = (sy_i F 84).toInt → (sy_i F1 85).toInt = (sy_i F 85).toInt → (sy_i F1 86).toInt = (sy_i F 86).toInt → hd_W Ls xs d jm_M81 Q (39, sy_dL F1 [some (.inl (.ref 8)), some (.inr (.inl 82)), some (.inr (.inl 83)), some (.inr (.inl 84)), some (.inr (.inl 85)), some (.inr (.inl 86))], sy_dS F1 [.inr (.inl 86), .inl (.ref 8)], sy_dh F1 X1 X2 (iv_H 3), 0, 0)) :
    hd_W Ls xs d jm_M81 Q (36, sy_dL F [some (.inl (.ref 8)), some (.inr (.inl 82)), some (.inr (.inl 83)), some (.inr (.inl 84)), some (.inr (.inl 85)), some (.inr (.inl 86))], sy_dS F [], sy_dh F X1 X2 (iv_H 3), 0, 0) := by
  exact k3ofd_36_p0 hd F X1 X2 hB  (fun F1 g e82 e83 e84 e85 e86 => k0 F1 (nz_in0 hB [] (fun j hj hn => g j hj (by simp only [List.mem_cons, List.not_mem_nil, or_false, not_or] at hn; exact trivial)) (List.forall_mem_nil _)) (fun j hj hn => g j hj (by simp only [List.mem_cons, List.not_mem_nil, or_false, not_or] at hn; exact trivial)) (nz_fi (g 0 (by decide) (by decide))) (nz_fi (g 1 (by decide) (by decide))) (nz_fi (g 79 (by decide) (by decide))) (nz_fa (g 2 (by decide) (by decide))) (nz_fa (g 78 (by decide) (by decide))) ((congrArg Int32.toInt (zz_i e82)).trans (rfl : (sy_i F 82).toInt = (sy_i F 82).toInt)) ((congrArg Int32.toInt (zz_i e83)).trans (rfl : (sy_i F 83).toInt = (sy_i F 83).toInt)) ((congrArg Int32.toInt (zz_i e84)).trans (rfl : (sy_i F 84).toInt = (sy_i F 84).toInt)) ((congrArg Int32.toInt (zz_i e85)).trans (rfl : (sy_i F 85).toInt = (sy_i F 85).toInt)) ((congrArg Int32.toInt (zz_i e86)).trans (rfl : (sy_i F 86).toInt = (sy_i F 86).toInt)))
theorem k3ofd_42_p0 {Ls : Nat} {xs : Nat → Int32} {d : Nat} {Q : Option Value → jm_h → Prop} (hd : 2 ≤ d) (F : Nat → sy_d) (X1 X2 : List jm_c) (hB : iv_in F iv_B0)
    (k : ∀ F1 : Nat → sy_d, (∀ j, j < 82 → True → F1 j = F j) → Q (some (.int (sy_i F 0))) (sy_dh F1 X1 X2 (iv_H 3))) :
    hd_W Ls xs d jm_M81 Q (42, sy_dL F [some (.inl (.ref 8)), some (.inr (.inl 82)), some (.inr (.inl 83)), some (.inr (.inl 84)), some (.inr (.inl 85)), some (.inr (.inl 86))], sy_dS F [], sy_dh F X1 X2 (iv_H 3), 0, 0) := by
  refine hd_ret (s := 3) (nv := 87) (v := some (.inr (.inl 0))) (uh := hd_ov (iv_id 0 iv_B0) []) (f := false) (sp := []) (d0 := 1) (O := []) (T := []) (P := []) jm_ok81 (by decide +kernel) (by decide +kernel) hd F X1 X2 (fun F' hF hs => ?_)
  have b0 := hd_b (F := F) (F' := F') (k := 0) (hF 0 (by decide))
  have hB' : iv_in F' iv_B0 := iv_in_eq hB (fun j hj => hF j (Nat.lt_of_lt_of_le hj (by decide +kernel)))
  have hk := k (sy_cm F' (hd_ov (iv_id 0 iv_B0) [] ++ [])) (fun j hj _ => (hd_keep hB' (Nat.lt_of_lt_of_le hj (by decide +kernel)) (by simp)).trans (hF j (Nat.lt_of_lt_of_le hj (by decide))))
  refine ⟨fun _ h => absurd h List.not_mem_nil, ?_⟩
  show Q (some (sy_dv F' (.inr (.inl 0)))) _
  rw [b0]
  exact hk
theorem k3ofd_42 {Ls : Nat} {xs : Nat → Int32} {d : Nat} {Q : Option Value → jm_h → Prop} (hd : 2 ≤ d) (F : Nat → sy_d) (X1 X2 : List jm_c) (hB : iv_in F iv_B0)
    (k0 : ∀ F1 : Nat → sy_d, iv_in F1 iv_B0 → (∀ j, j < 82 → j ∉ ([] : List Nat) → F1 j = F j) → (sy_i F1 0).toInt = (sy_i F 0).toInt → (sy_i F1 1).toInt = (sy_i F 1).toInt → (sy_i F1 79).toInt = (sy_i F 79).toInt → sy_ai F1 2 = sy_ai F 2 → sy_ai F1 78 = sy_ai F 78 → Q (some (.int (sy_i F 0))) (sy_dh F1 X1 X2 (iv_H 3))) :
    hd_W Ls xs d jm_M81 Q (42, sy_dL F [some (.inl (.ref 8)), some (.inr (.inl 82)), some (.inr (.inl 83)), some (.inr (.inl 84)), some (.inr (.inl 85)), some (.inr (.inl 86))], sy_dS F [], sy_dh F X1 X2 (iv_H 3), 0, 0) := by
  exact k3ofd_42_p0 hd F X1 X2 hB  (fun F1 g  => by rw [(rfl : sy_i F 0 = sy_i F 0)]; exact k0 F1 (nz_in0 hB [] (fun j hj hn => g j hj (by simp only [List.mem_cons, List.not_mem_nil, or_false, not_or] at hn; exact trivial)) (List.forall_mem_nil _)) (fun j hj hn => g j hj (by simp only [List.mem_cons, List.not_mem_nil, or_false, not_or] at hn; exact trivial)) (nz_fi (g 0 (by decide) (by decide))) (nz_fi (g 1 (by decide) (by decide))) (nz_fi (g 79 (by decide) (by decide))) (nz_fa (g 2 (by decide) (by decide))) (nz_fa (g 78 (by decide) (by decide))))
theorem k3ord_0_p0 {Ls : Nat} {xs : Nat → Int32} {d : Nat} {Q : Option Value → jm_h → Prop} (hd : 29 ≤ d) (F : Nat → sy_d) (X1 X2 : List jm_c) (hB : iv_in F iv_B0)
    (k : ∀ F1 : Nat → sy_d, (∀ j, j < 82 → True → F1 j = F j) → F1 82 = .inl (.int (sy_i F 0)) → hd_W Ls xs d jm_M83 Q (16, sy_dL F1 [some (.inl (.ref 8)), none, none], sy_dS F1 [.inl (.ref 10), .inr (.inl 82), .inl (.ref 9), .inl (.ref 30)], sy_dh F1 X1 X2 (iv_H 3), 0, 0)) :
    hd_W Ls xs d jm_M83 Q (0, sy_dL F [some (.inl (.ref 8)), none, none], sy_dS F [], sy_dh F X1 X2 (iv_H 3), 0, 0) := by
  refine hd_run (s := 3) (nv := 82) (pc := 16) (L := [some (.inl (.ref 8)), none, none]) (S := [.inl (.ref 10), .inr (.inl 82), .inl (.ref 9), .inl (.ref 30)]) (uh := hd_ov (iv_id 0 iv_B0) []) (ul := [.inl (.inr (.inl 0))]) (f := true) (sp := [16]) (d0 := 28) (O := []) (T := []) (P := []) jm_ok83 (by decide +kernel) (by decide +kernel) hd F X1 X2 (fun F' hF hs => ?_)
  have b0 := hd_b (F := F) (F' := F') (k := 0) (hF 0 (by decide))
  have hB' : iv_in F' iv_B0 := iv_in_eq hB (fun j hj => hF j (Nat.lt_of_lt_of_le hj (by decide +kernel)))
  refine ⟨fun _ h => absurd h List.not_mem_nil, ?_⟩
  refine k _ ?_ ?_
  · exact fun j hj _ => (hd_keep hB' (Nat.lt_of_lt_of_le hj (by decide +kernel)) (by simp)).trans (hF j (Nat.lt_of_lt_of_le hj (by decide)))
  · exact hd_gi (x := .inr (.inl 0)) (by decide +kernel) b0
theorem k3ord_0 {Ls : Nat} {xs : Nat → Int32} {d : Nat} {Q : Option Value → jm_h → Prop} (hd : 29 ≤ d) (F : Nat → sy_d) (X1 X2 : List jm_c) (hB : iv_in F iv_B0)
    (k0 : ∀ F1 : Nat → sy_d, iv_in F1 iv_B0 → (∀ j, j < 82 → j ∉ ([] : List Nat) → F1 j = F j) → (sy_i F1 0).toInt = (sy_i F 0).toInt → (sy_i F1 1).toInt = (sy_i F 1).toInt → (sy_i F1 35).toInt = (sy_i F 35).toInt → (sy_i F1 79).toInt = (sy_i F 79).toInt → sy_ai F1 2 = sy_ai F 2 → sy_ai F1 78 = sy_ai F 78 → (sy_i F1 82).toInt = (sy_i F 0).toInt → hd_W Ls xs d jm_M83 Q (16, sy_dL F1 [some (.inl (.ref 8)), none, none], sy_dS F1 [.inl (.ref 10), .inr (.inl 82), .inl (.ref 9), .inl (.ref 30)], sy_dh F1 X1 X2 (iv_H 3), 0, 0)) :
    hd_W Ls xs d jm_M83 Q (0, sy_dL F [some (.inl (.ref 8)), none, none], sy_dS F [], sy_dh F X1 X2 (iv_H 3), 0, 0) := by
  have c0 := nz_bx hB (k := 0) (lo := 0) (hi := 2000) rfl
  exact k3ord_0_p0 hd F X1 X2 hB  (fun F1 g e82 => k0 F1 (nz_in0 hB [] (fun j hj hn => g j hj (by simp only [List.mem_cons, List.not_mem_nil, or_false, not_or] at hn; exact trivial)) (List.forall_mem_nil _)) (fun j hj hn => g j hj (by simp only [List.mem_cons, List.not_mem_nil, or_false, not_or] at hn; exact trivial)) (nz_fi (g 0 (by decide) (by decide))) (nz_fi (g 1 (by decide) (by decide))) (nz_fi (g 35 (by decide) (by decide))) (nz_fi (g 79 (by decide) (by decide))) (nz_fa (g 2 (by decide) (by decide))) (nz_fa (g 78 (by decide) (by decide))) ((congrArg Int32.toInt (zz_i e82)).trans (rfl : (sy_i F 0).toInt = (sy_i F 0).toInt)))
end
section
/-! ===== the class reads: behind the parse (shape 0) ===== -/
theorem k0ord_19_p0 {Ls : Nat} {xs : Nat → Int32} {d : Nat} {Q : Option Value → jm_h → Prop} (hd : 29 ≤ d) (F : Nat → sy_d) (X1 X2 : List jm_c) (hB : iv_in F iv_B0)
    (h0 : (sy_i F 82).toInt ≠ 0)
    (k : ∀ F1 : Nat → sy_d, (∀ j, j < 82 → j ≠ 0 ∧ j ≠ 1 → F1 j = F j) → F1 0 = .inl (.int ((0 : Int32))) → F1 1 = .inl (.int (sy_i F 35)) → Q (some (.int (sy_i F 82))) (sy_dh F1 X1 X2 (iv_H 0))) :
    hd_W Ls xs d jm_M83 Q (19, sy_dL F [some (.inl (.ref 8)), none, none], sy_dS F [.inr (.inl 82)], sy_dh F X1 X2 (iv_H 0), 0, 0) := by
  refine hd_ret (s := 0) (nv := 83) (v := some (.inr (.inl 82))) (uh := hd_ov (iv_id 0 iv_B0) [(0, .inl (.inl (.int 0))), (1, .inl (.inr (.inl 35)))]) (f := false) (sp := [59]) (d0 := 28) (O := [true]) (T := []) (P := [(1, .inr (.inl 82), .inl (.int 0))]) jm_ok83 (by decide +kernel) (by decide +kernel) hd F X1 X2 (fun F' hF hs => ?_)
  have b82 := hd_b (F := F) (F' := F') (k := 82) (hF 82 (by decide))
  have b35 := hd_b (F := F) (F' := F') (k := 35) (hF 35 (by decide))
  have hB' : iv_in F' iv_B0 := iv_in_eq hB (fun j hj => hF j (Nat.lt_of_lt_of_le hj (by decide +kernel)))
  have hk := k (sy_cm F' (hd_ov (iv_id 0 iv_B0) [(0, .inl (.inl (.int 0))), (1, .inl (.inr (.inl 35)))] ++ [])) (fun j hj hn => (hd_keep hB' (Nat.lt_of_lt_of_le hj (by decide +kernel)) (by simp; omega)).trans (hF j (Nat.lt_of_lt_of_le hj (by decide)))) (hd_gi (x := .inl (.int 0)) (by decide +kernel) rfl) (hd_gi (x := .inr (.inl 35)) (by decide +kernel) b35)
  refine ⟨List.forall_mem_cons.mpr ⟨hd_p1 b82 rfl (by have hc : ((0) : Int32).toInt = 0 := (by decide); omega), fun _ h => absurd h List.not_mem_nil⟩, ?_⟩
  show Q (some (sy_dv F' (.inr (.inl 82)))) _
  rw [b82]
  exact hk
theorem k0ord_19_p1 {Ls : Nat} {xs : Nat → Int32} {d : Nat} {Q : Option Value → jm_h → Prop} (hd : 29 ≤ d) (F : Nat → sy_d) (X1 X2 : List jm_c) (hB : iv_in F iv_B0)
    (h0 : (sy_i F 82).toInt = 0)
    (k : ∀ F1 : Nat → sy_d, (∀ j, j < 82 → j ≠ 0 ∧ j ≠ 1 → F1 j = F j) → F1 0 = .inl (.int ((0 : Int32))) → F1 1 = .inl (.int (sy_i F 35)) → F1 82 = .inl (.int (sy_i F 82)) → hd_W Ls xs d jm_M83 Q (59, sy_dL F1 [none, some (.inr (.inl 82)), none], sy_dS F1 [.inl (.ref 8)], sy_dh F1 X1 X2 (iv_H 2), 0, 0)) :
    hd_W Ls xs d jm_M83 Q (19, sy_dL F [some (.inl (.ref 8)), none, none], sy_dS F [.inr (.inl 82)], sy_dh F X1 X2 (iv_H 0), 0, 0) := by
  refine hd_run (s := 2) (nv := 83) (pc := 59) (L := [none, some (.inr (.inl 82)), none]) (S := [.inl (.ref 8)]) (uh := hd_ov (iv_id 0 iv_B0) [(0, .inl (.inl (.int 0))), (1, .inl (.inr (.inl 35)))]) (ul := [.inl (.inr (.inl 82))]) (f := false) (sp := [59]) (d0 := 28) (O := [false]) (T := []) (P := [(0, .inr (.inl 82), .inl (.int 0))]) jm_ok83 (by decide +kernel) (by decide +kernel) hd F X1 X2 (fun F' hF hs => ?_)
  have b82 := hd_b (F := F) (F' := F') (k := 82) (hF 82 (by decide))
  have b35 := hd_b (F := F) (F' := F') (k := 35) (hF 35 (by decide))
  have hB' : iv_in F' iv_B0 := iv_in_eq hB (fun j hj => hF j (Nat.lt_of_lt_of_le hj (by decide +kernel)))
  refine ⟨List.forall_mem_cons.mpr ⟨hd_p0 b82 rfl (by have hc : ((0) : Int32).toInt = 0 := (by decide); omega), fun _ h => absurd h List.not_mem_nil⟩, ?_⟩
  refine k _ ?_ ?_ ?_ ?_
  · exact fun j hj hn => (hd_keep hB' (Nat.lt_of_lt_of_le hj (by decide +kernel)) (by simp; omega)).trans (hF j (Nat.lt_of_lt_of_le hj (by decide)))
  · exact hd_gi (x := .inl (.int 0)) (by decide +kernel) rfl
  · exact hd_gi (x := .inr (.inl 35)) (by decide +kernel) b35
  · exact hd_gi (x := .inr (.inl 82)) (by decide +kernel) b82
theorem k0ord_19 {Ls : Nat} {xs : Nat → Int32} {d : Nat} {Q : Option Value → jm_h → Prop} (hd : 29 ≤ d) (F : Nat → sy_d) (X1 X2 : List jm_c) (hB : iv_in F iv_B0)
    (k0 : (sy_i F 82).toInt ≠ 0 → ∀ F1 : Nat → sy_d, iv_in F1 iv_B0 → (∀ j, j < 82 → j ∉ ([0, 1] : List Nat) → F1 j = F j) → (sy_i F1 0).toInt = 0 → (sy_i F1 1).toInt = (sy_i F 35).toInt → (sy_i F1 35).toInt = (sy_i F 35).toInt → (sy_i F1 79).toInt = (sy_i F 79).toInt → sy_ai F1 2 = sy_ai F 2 → sy_ai F1 78 = sy_ai F 78 → Q (some (.int (sy_i F 82))) (sy_dh F1 X1 X2 (iv_H 0)))
    (k1 : (sy_i F 82).toInt = 0 → ∀ F1 : Nat → sy_d, iv_in F1 iv_B0 → (∀ j, j < 82 → j ∉ ([0, 1] : List Nat) → F1 j = F j) → (sy_i F1 0).toInt = 0 → (sy_i F1 1).toInt = (sy_i F 35).toInt → (sy_i F1 35).toInt = (sy_i F 35).toInt → (sy_i F1 79).toInt = (sy_i F 79).toInt → sy_ai F1 2 = sy_ai F 2 → sy_ai F1 78 = sy_ai F 78 → (sy_i F1 82).toInt = (sy_i F 82).toInt → hd_W Ls xs d jm_M83 Q (59, sy_dL F1 [none, some (.inr (.inl 82)), none], sy_dS F1 [.inl (.ref 8)], sy_dh F1 X1 X2 (iv_H 2), 0, 0)) :
    hd_W Ls xs d jm_M83 Q (19, sy_dL F [some (.inl (.ref 8)), none, none], sy_dS F [.inr (.inl 82)], sy_dh F X1 X2 (iv_H 0), 0, 0) := by
  by_cases g0 : (sy_i F 82).toInt ≠ 0
  · exact k0ord_19_p0 hd F X1 X2 hB (by first | exact g0 | (simp only [nz_c]; exact g0)) (fun F1 g e0 e1 => by rw [(rfl : sy_i F 82 = sy_i F 82)]; exact k0 g0 F1 (nz_in0 hB [0, 1] (fun j hj hn => g j hj (by simp only [List.mem_cons, List.not_mem_nil, or_false, not_or] at hn; omega)) (List.forall_mem_cons.mpr ⟨fun t ht => (Option.some.inj ht) ▸ (nz_hi e0 (by decide : ((0 : Int32)).toInt = 0) (by omega) (by omega)), List.forall_mem_cons.mpr ⟨fun t ht => (Option.some.inj ht) ▸ (nz_hz e1), List.forall_mem_nil _⟩⟩)) (fun j hj hn => g j hj (by simp only [List.mem_cons, List.not_mem_nil, or_false, not_or] at hn; omega)) ((congrArg Int32.toInt (zz_i e0)).trans (by decide : ((0 : Int32)).toInt = 0)) ((congrArg Int32.toInt (zz_i e1)).trans (rfl : (sy_i F 35).toInt = (sy_i F 35).toInt)) (nz_fi (g 35 (by decide) (by decide))) (nz_fi (g 79 (by decide) (by decide))) (nz_fa (g 2 (by decide) (by decide))) (nz_fa (g 78 (by decide) (by decide))))
  replace g0 : (sy_i F 82).toInt = 0 := by omega
  exact k0ord_19_p1 hd F X1 X2 hB (by first | exact g0 | (simp only [nz_c]; exact g0)) (fun F1 g e0 e1 e82 => k1 g0 F1 (nz_in0 hB [0, 1] (fun j hj hn => g j hj (by simp only [List.mem_cons, List.not_mem_nil, or_false, not_or] at hn; omega)) (List.forall_mem_cons.mpr ⟨fun t ht => (Option.some.inj ht) ▸ (nz_hi e0 (by decide : ((0 : Int32)).toInt = 0) (by omega) (by omega)), List.forall_mem_cons.mpr ⟨fun t ht => (Option.some.inj ht) ▸ (nz_hz e1), List.forall_mem_nil _⟩⟩)) (fun j hj hn => g j hj (by simp only [List.mem_cons, List.not_mem_nil, or_false, not_or] at hn; omega)) ((congrArg Int32.toInt (zz_i e0)).trans (by decide : ((0 : Int32)).toInt = 0)) ((congrArg Int32.toInt (zz_i e1)).trans (rfl : (sy_i F 35).toInt = (sy_i F 35).toInt)) (nz_fi (g 35 (by decide) (by decide))) (nz_fi (g 79 (by decide) (by decide))) (nz_fa (g 2 (by decide) (by decide))) (nz_fa (g 78 (by decide) (by decide))) ((congrArg Int32.toInt (zz_i e82)).trans (rfl : (sy_i F 82).toInt = (sy_i F 82).toInt)))
theorem k2ord_62_p0 {Ls : Nat} {xs : Nat → Int32} {d : Nat} {Q : Option Value → jm_h → Prop} (hd : 29 ≤ d) (F : Nat → sy_d) (X1 X2 : List jm_c) (hB : iv_in F iv_B0)
    (k : ∀ F1 : Nat → sy_d, (∀ j, j < 82 → True → F1 j = F j) → Q (some (.int (sy_i F 82))) (sy_dh F1 X1 X2 (iv_H 2))) :
    hd_W Ls xs d jm_M83 Q (62, sy_dL F [none, some (.inr (.inl 82)), none], sy_dS F [], sy_dh F X1 X2 (iv_H 2), 0, 0) := by
  refine hd_ret (s := 2) (nv := 83) (v := some (.inr (.inl 82))) (uh := hd_ov (iv_id 0 iv_B0) []) (f := false) (sp := []) (d0 := 28) (O := []) (T := []) (P := []) jm_ok83 (by decide +kernel) (by decide +kernel) hd F X1 X2 (fun F' hF hs => ?_)
  have b82 := hd_b (F := F) (F' := F') (k := 82) (hF 82 (by decide))
  have hB' : iv_in F' iv_B0 := iv_in_eq hB (fun j hj => hF j (Nat.lt_of_lt_of_le hj (by decide +kernel)))
  have hk := k (sy_cm F' (hd_ov (iv_id 0 iv_B0) [] ++ [])) (fun j hj _ => (hd_keep hB' (Nat.lt_of_lt_of_le hj (by decide +kernel)) (by simp)).trans (hF j (Nat.lt_of_lt_of_le hj (by decide))))
  refine ⟨fun _ h => absurd h List.not_mem_nil, ?_⟩
  show Q (some (sy_dv F' (.inr (.inl 82)))) _
  rw [b82]
  exact hk
theorem k2ord_62 {Ls : Nat} {xs : Nat → Int32} {d : Nat} {Q : Option Value → jm_h → Prop} (hd : 29 ≤ d) (F : Nat → sy_d) (X1 X2 : List jm_c) (hB : iv_in F iv_B0)
    (k0 : ∀ F1 : Nat → sy_d, iv_in F1 iv_B0 → (∀ j, j < 82 → j ∉ ([] : List Nat) → F1 j = F j) → (sy_i F1 0).toInt = (sy_i F 0).toInt → (sy_i F1 1).toInt = (sy_i F 1).toInt → (sy_i F1 79).toInt = (sy_i F 79).toInt → sy_ai F1 2 = sy_ai F 2 → sy_ai F1 78 = sy_ai F 78 → Q (some (.int (sy_i F 82))) (sy_dh F1 X1 X2 (iv_H 2))) :
    hd_W Ls xs d jm_M83 Q (62, sy_dL F [none, some (.inr (.inl 82)), none], sy_dS F [], sy_dh F X1 X2 (iv_H 2), 0, 0) := by
  exact k2ord_62_p0 hd F X1 X2 hB  (fun F1 g  => by rw [(rfl : sy_i F 82 = sy_i F 82)]; exact k0 F1 (nz_in0 hB [] (fun j hj hn => g j hj (by simp only [List.mem_cons, List.not_mem_nil, or_false, not_or] at hn; exact trivial)) (List.forall_mem_nil _)) (fun j hj hn => g j hj (by simp only [List.mem_cons, List.not_mem_nil, or_false, not_or] at hn; exact trivial)) (nz_fi (g 0 (by decide) (by decide))) (nz_fi (g 1 (by decide) (by decide))) (nz_fi (g 79 (by decide) (by decide))) (nz_fa (g 2 (by decide) (by decide))) (nz_fa (g 78 (by decide) (by decide))))
end
section
/-! ===== the class reads: behind the parse (shape 3) ===== -/
theorem k3ord_19_p0 {Ls : Nat} {xs : Nat → Int32} {d : Nat} {Q : Option Value → jm_h → Prop} (hd : 29 ≤ d) (F : Nat → sy_d) (X1 X2 : List jm_c) (hB : iv_in F iv_B0)
    (h0 : (sy_i F 82).toInt ≠ 0)
    (k : ∀ F1 : Nat → sy_d, (∀ j, j < 82 → j ≠ 0 ∧ j ≠ 1 → F1 j = F j) → F1 0 = .inl (.int ((0 : Int32))) → F1 1 = .inl (.int (sy_i F 35)) → Q (some (.int (sy_i F 82))) (sy_dh F1 X1 X2 (iv_H 3))) :
    hd_W Ls xs d jm_M83 Q (19, sy_dL F [some (.inl (.ref 8)), none, none], sy_dS F [.inr (.inl 82)], sy_dh F X1 X2 (iv_H 3), 0, 0) := by
  refine hd_ret (s := 3) (nv := 83) (v := some (.inr (.inl 82))) (uh := hd_ov (iv_id 0 iv_B0) [(0, .inl (.inl (.int 0))), (1, .inl (.inr (.inl 35)))]) (f := false) (sp := [59]) (d0 := 28) (O := [true]) (T := []) (P := [(1, .inr (.inl 82), .inl (.int 0))]) jm_ok83 (by decide +kernel) (by decide +kernel) hd F X1 X2 (fun F' hF hs => ?_)
  have b82 := hd_b (F := F) (F' := F') (k := 82) (hF 82 (by decide))
  have b35 := hd_b (F := F) (F' := F') (k := 35) (hF 35 (by decide))
  have hB' : iv_in F' iv_B0 := iv_in_eq hB (fun j hj => hF j (Nat.lt_of_lt_of_le hj (by decide +kernel)))
  have hk := k (sy_cm F' (hd_ov (iv_id 0 iv_B0) [(0, .inl (.inl (.int 0))), (1, .inl (.inr (.inl 35)))] ++ [])) (fun j hj hn => (hd_keep hB' (Nat.lt_of_lt_of_le hj (by decide +kernel)) (by simp; omega)).trans (hF j (Nat.lt_of_lt_of_le hj (by decide)))) (hd_gi (x := .inl (.int 0)) (by decide +kernel) rfl) (hd_gi (x := .inr (.inl 35)) (by decide +kernel) b35)
  refine ⟨List.forall_mem_cons.mpr ⟨hd_p1 b82 rfl (by have hc : ((0) : Int32).toInt = 0 := (by decide); omega), fun _ h => absurd h List.not_mem_nil⟩, ?_⟩
  show Q (some (sy_dv F' (.inr (.inl 82)))) _
  rw [b82]
  exact hk
theorem k3ord_19_p1 {Ls : Nat} {xs : Nat → Int32} {d : Nat} {Q : Option Value → jm_h → Prop} (hd : 29 ≤ d) (F : Nat → sy_d) (X1 X2 : List jm_c) (hB : iv_in F iv_B0)
    (h0 : (sy_i F 82).toInt = 0)
    (k : ∀ F1 : Nat → sy_d, (∀ j, j < 82 → j ≠ 0 ∧ j ≠ 1 → F1 j = F j) → F1 0 = .inl (.int ((0 : Int32))) → F1 1 = .inl (.int (sy_i F 35)) → F1 82 = .inl (.int (sy_i F 82)) → hd_W Ls xs d jm_M83 Q (59, sy_dL F1 [none, some (.inr (.inl 82)), none], sy_dS F1 [.inl (.ref 8)], sy_dh F1 X1 X2 (iv_H 1), 0, 0)) :
    hd_W Ls xs d jm_M83 Q (19, sy_dL F [some (.inl (.ref 8)), none, none], sy_dS F [.inr (.inl 82)], sy_dh F X1 X2 (iv_H 3), 0, 0) := by
  refine hd_run (s := 1) (nv := 83) (pc := 59) (L := [none, some (.inr (.inl 82)), none]) (S := [.inl (.ref 8)]) (uh := hd_ov (iv_id 0 iv_B0) [(0, .inl (.inl (.int 0))), (1, .inl (.inr (.inl 35)))]) (ul := [.inl (.inr (.inl 82))]) (f := false) (sp := [59]) (d0 := 28) (O := [false]) (T := []) (P := [(0, .inr (.inl 82), .inl (.int 0))]) jm_ok83 (by decide +kernel) (by decide +kernel) hd F X1 X2 (fun F' hF hs => ?_)
  have b82 := hd_b (F := F) (F' := F') (k := 82) (hF 82 (by decide))
  have b35 := hd_b (F := F) (F' := F') (k := 35) (hF 35 (by decide))
  have hB' : iv_in F' iv_B0 := iv_in_eq hB (fun j hj => hF j (Nat.lt_of_lt_of_le hj (by decide +kernel)))
  refine ⟨List.forall_mem_cons.mpr ⟨hd_p0 b82 rfl (by have hc : ((0) : Int32).toInt = 0 := (by decide); omega), fun _ h => absurd h List.not_mem_nil⟩, ?_⟩
  refine k _ ?_ ?_ ?_ ?_
  · exact fun j hj hn => (hd_keep hB' (Nat.lt_of_lt_of_le hj (by decide +kernel)) (by simp; omega)).trans (hF j (Nat.lt_of_lt_of_le hj (by decide)))
  · exact hd_gi (x := .inl (.int 0)) (by decide +kernel) rfl
  · exact hd_gi (x := .inr (.inl 35)) (by decide +kernel) b35
  · exact hd_gi (x := .inr (.inl 82)) (by decide +kernel) b82
theorem k3ord_19 {Ls : Nat} {xs : Nat → Int32} {d : Nat} {Q : Option Value → jm_h → Prop} (hd : 29 ≤ d) (F : Nat → sy_d) (X1 X2 : List jm_c) (hB : iv_in F iv_B0)
    (k0 : (sy_i F 82).toInt ≠ 0 → ∀ F1 : Nat → sy_d, iv_in F1 iv_B0 → (∀ j, j < 82 → j ∉ ([0, 1] : List Nat) → F1 j = F j) → (sy_i F1 0).toInt = 0 → (sy_i F1 1).toInt = (sy_i F 35).toInt → (sy_i F1 35).toInt = (sy_i F 35).toInt → (sy_i F1 79).toInt = (sy_i F 79).toInt → sy_ai F1 2 = sy_ai F 2 → sy_ai F1 78 = sy_ai F 78 → Q (some (.int (sy_i F 82))) (sy_dh F1 X1 X2 (iv_H 3)))
    (k1 : (sy_i F 82).toInt = 0 → ∀ F1 : Nat → sy_d, iv_in F1 iv_B0 → (∀ j, j < 82 → j ∉ ([0, 1] : List Nat) → F1 j = F j) → (sy_i F1 0).toInt = 0 → (sy_i F1 1).toInt = (sy_i F 35).toInt → (sy_i F1 35).toInt = (sy_i F 35).toInt → (sy_i F1 79).toInt = (sy_i F 79).toInt → sy_ai F1 2 = sy_ai F 2 → sy_ai F1 78 = sy_ai F 78 → (sy_i F1 82).toInt = (sy_i F 82).toInt → hd_W Ls xs d jm_M83 Q (59, sy_dL F1 [none, some (.inr (.inl 82)), none], sy_dS F1 [.inl (.ref 8)], sy_dh F1 X1 X2 (iv_H 1), 0, 0)) :
    hd_W Ls xs d jm_M83 Q (19, sy_dL F [some (.inl (.ref 8)), none, none], sy_dS F [.inr (.inl 82)], sy_dh F X1 X2 (iv_H 3), 0, 0) := by
  by_cases g0 : (sy_i F 82).toInt ≠ 0
  · exact k3ord_19_p0 hd F X1 X2 hB (by first | exact g0 | (simp only [nz_c]; exact g0)) (fun F1 g e0 e1 => by rw [(rfl : sy_i F 82 = sy_i F 82)]; exact k0 g0 F1 (nz_in0 hB [0, 1] (fun j hj hn => g j hj (by simp only [List.mem_cons, List.not_mem_nil, or_false, not_or] at hn; omega)) (List.forall_mem_cons.mpr ⟨fun t ht => (Option.some.inj ht) ▸ (nz_hi e0 (by decide : ((0 : Int32)).toInt = 0) (by omega) (by omega)), List.forall_mem_cons.mpr ⟨fun t ht => (Option.some.inj ht) ▸ (nz_hz e1), List.forall_mem_nil _⟩⟩)) (fun j hj hn => g j hj (by simp only [List.mem_cons, List.not_mem_nil, or_false, not_or] at hn; omega)) ((congrArg Int32.toInt (zz_i e0)).trans (by decide : ((0 : Int32)).toInt = 0)) ((congrArg Int32.toInt (zz_i e1)).trans (rfl : (sy_i F 35).toInt = (sy_i F 35).toInt)) (nz_fi (g 35 (by decide) (by decide))) (nz_fi (g 79 (by decide) (by decide))) (nz_fa (g 2 (by decide) (by decide))) (nz_fa (g 78 (by decide) (by decide))))
  replace g0 : (sy_i F 82).toInt = 0 := by omega
  exact k3ord_19_p1 hd F X1 X2 hB (by first | exact g0 | (simp only [nz_c]; exact g0)) (fun F1 g e0 e1 e82 => k1 g0 F1 (nz_in0 hB [0, 1] (fun j hj hn => g j hj (by simp only [List.mem_cons, List.not_mem_nil, or_false, not_or] at hn; omega)) (List.forall_mem_cons.mpr ⟨fun t ht => (Option.some.inj ht) ▸ (nz_hi e0 (by decide : ((0 : Int32)).toInt = 0) (by omega) (by omega)), List.forall_mem_cons.mpr ⟨fun t ht => (Option.some.inj ht) ▸ (nz_hz e1), List.forall_mem_nil _⟩⟩)) (fun j hj hn => g j hj (by simp only [List.mem_cons, List.not_mem_nil, or_false, not_or] at hn; omega)) ((congrArg Int32.toInt (zz_i e0)).trans (by decide : ((0 : Int32)).toInt = 0)) ((congrArg Int32.toInt (zz_i e1)).trans (rfl : (sy_i F 35).toInt = (sy_i F 35).toInt)) (nz_fi (g 35 (by decide) (by decide))) (nz_fi (g 79 (by decide) (by decide))) (nz_fa (g 2 (by decide) (by decide))) (nz_fa (g 78 (by decide) (by decide))) ((congrArg Int32.toInt (zz_i e82)).trans (rfl : (sy_i F 82).toInt = (sy_i F 82).toInt)))
theorem k1ord_62_p0 {Ls : Nat} {xs : Nat → Int32} {d : Nat} {Q : Option Value → jm_h → Prop} (hd : 29 ≤ d) (F : Nat → sy_d) (X1 X2 : List jm_c) (hB : iv_in F iv_B0)
    (k : ∀ F1 : Nat → sy_d, (∀ j, j < 82 → True → F1 j = F j) → Q (some (.int (sy_i F 82))) (sy_dh F1 X1 X2 (iv_H 1))) :
    hd_W Ls xs d jm_M83 Q (62, sy_dL F [none, some (.inr (.inl 82)), none], sy_dS F [], sy_dh F X1 X2 (iv_H 1), 0, 0) := by
  refine hd_ret (s := 1) (nv := 83) (v := some (.inr (.inl 82))) (uh := hd_ov (iv_id 0 iv_B0) []) (f := false) (sp := []) (d0 := 28) (O := []) (T := []) (P := []) jm_ok83 (by decide +kernel) (by decide +kernel) hd F X1 X2 (fun F' hF hs => ?_)
  have b82 := hd_b (F := F) (F' := F') (k := 82) (hF 82 (by decide))
  have hB' : iv_in F' iv_B0 := iv_in_eq hB (fun j hj => hF j (Nat.lt_of_lt_of_le hj (by decide +kernel)))
  have hk := k (sy_cm F' (hd_ov (iv_id 0 iv_B0) [] ++ [])) (fun j hj _ => (hd_keep hB' (Nat.lt_of_lt_of_le hj (by decide +kernel)) (by simp)).trans (hF j (Nat.lt_of_lt_of_le hj (by decide))))
  refine ⟨fun _ h => absurd h List.not_mem_nil, ?_⟩
  show Q (some (sy_dv F' (.inr (.inl 82)))) _
  rw [b82]
  exact hk
theorem k1ord_62 {Ls : Nat} {xs : Nat → Int32} {d : Nat} {Q : Option Value → jm_h → Prop} (hd : 29 ≤ d) (F : Nat → sy_d) (X1 X2 : List jm_c) (hB : iv_in F iv_B0)
    (k0 : ∀ F1 : Nat → sy_d, iv_in F1 iv_B0 → (∀ j, j < 82 → j ∉ ([] : List Nat) → F1 j = F j) → (sy_i F1 0).toInt = (sy_i F 0).toInt → (sy_i F1 1).toInt = (sy_i F 1).toInt → (sy_i F1 79).toInt = (sy_i F 79).toInt → sy_ai F1 2 = sy_ai F 2 → sy_ai F1 78 = sy_ai F 78 → Q (some (.int (sy_i F 82))) (sy_dh F1 X1 X2 (iv_H 1))) :
    hd_W Ls xs d jm_M83 Q (62, sy_dL F [none, some (.inr (.inl 82)), none], sy_dS F [], sy_dh F X1 X2 (iv_H 1), 0, 0) := by
  exact k1ord_62_p0 hd F X1 X2 hB  (fun F1 g  => by rw [(rfl : sy_i F 82 = sy_i F 82)]; exact k0 F1 (nz_in0 hB [] (fun j hj hn => g j hj (by simp only [List.mem_cons, List.not_mem_nil, or_false, not_or] at hn; exact trivial)) (List.forall_mem_nil _)) (fun j hj hn => g j hj (by simp only [List.mem_cons, List.not_mem_nil, or_false, not_or] at hn; exact trivial)) (nz_fi (g 0 (by decide) (by decide))) (nz_fi (g 1 (by decide) (by decide))) (nz_fi (g 79 (by decide) (by decide))) (nz_fa (g 2 (by decide) (by decide))) (nz_fa (g 78 (by decide) (by decide))))
end
section
/-! ===== the reference: what each call makes of what is seen ===== -/
noncomputable def nm (F d : Nat → sy_d) : Nat → sy_d := fun j => if j < 69 then F j else d (j - 69)
theorem nm_lt {F d : Nat → sy_d} : ∀ j, j < 69 → nm F d j = F j := fun j h => by
  unfold nm
  rw [if_pos h]
theorem nm_T {Ls : Nat} {xs : Nat → Int32} {d : Nat} {M : jm_M} {Q : Option Value → jm_h → Prop} (F dd : Nat → sy_d) (X1 X2 : List jm_c) {A : List sy_v} {vs : List Value} (hok : jm_ok jm_YN M) (hl : (sy_e1 A).length ≤ jm_mx M) (hA : A.map (sy_dv (nm F dd)) = vs)
    (h : hd_W Ls xs d M Q (0, sy_dL (nm F dd) (sy_ent (jm_mx M) A), [], sy_dh (nm F dd) X1 X2 (iv_H 4), 0, 0)) : jm_T Ls xs d M vs (sy_dh F X1 X2 (iv_H 4)) 0 0 Q := by
  rw [nz_eH X1 X2 (nm_lt (F := F) (d := dd)), ← hA]
  exact hd_T hok hl h
theorem om_mk {F : Nat → sy_d} {a c d : Int} {b e : Nat → Int} (h1 : (sy_i F 1).toInt = a) (h2 : ub (sy_ai F 23) a.toNat = b) (h3 : (sy_i F 10).toInt = c) (h4 : (sy_i F 21).toInt = d) (h5 : hl3 (sy_ai F 67) = e) : om F = (a, b, c, d, e) := by
  subst h1; subst h2; subst h3; subst h4; subst h5
  rfl
section OM
variable {Ls : Nat} {xs : Nat → Int32}
/-- five ints fed -/
noncomputable def fR (F0 F : Nat → sy_d) (t : Nat) (b : Nat → Int) : Prop := iv_in F iv_B4 ∧ (∀ j, j < 69 → j ∉ ([1, 23] : List Nat) → F j = F0 j) ∧ (sy_i F 1).toInt = t ∧ ub (sy_ai F 23) t = b
theorem fR_eq {F0 F F1 : Nat → sy_d} {t : Nat} {b : Nat → Int} (h : fR F0 F t b) (g : ∀ j, j < 69 → F1 j = F j) : fR F0 F1 t b := ⟨hd_iveq h.1 g, fun j hj hn => (g j hj).trans (h.2.1 j hj hn), (nz_fi (g 1 (by decide))).trans h.2.2.1, by rw [nz_fa (g 23 (by decide))]; exact h.2.2.2⟩
theorem rap_T (X1 X2 : List jm_c) (F0 F : Nat → sy_d) {t : Nat} {b : Nat → Int} (h : fR F0 F t b) (ht : t ≤ 1996) (a : Int32) : jm_T Ls xs 1 jm_M134 [.ref 1000, .int a] (sy_dh F X1 X2 (iv_H 4)) 0 0 (fun v G => ∃ F' : Nat → sy_d, v = none ∧ G = sy_dh F' X1 X2 (iv_H 4) ∧ fR F0 F' (t + 4) (apB b t a)) := by
  refine nz_T1 jm_ok134 (by decide) (fun F2 k0 i69 => ?_)
  have h2 := fR_eq h k0
  obtain ⟨c1, c2, c3, c4⟩ := h2
  subst i69
  refine rap_0 (by decide) F2 X1 X2 c1 ?_ ?_ ?_ ?_ ?_ ?_
  iterate 5 omega
  intro F1 hb g e1 a23
  refine ⟨F1, rfl, rfl, hb, fun j hj hn => (g j hj hn).trans (c2 j hj hn), by omega, ?_⟩
  rw [a23, ← c4]
  exact ap_ub (by omega) (by omega) (by omega) (by omega) rfl ((b8 _).trans (sr24 _)) ((b8 _).trans (sr16 _)) ((b8 _).trans (sr8 _)) ((b8 _).trans (sr0 _))
end OM
end
section
/-! ===== the class: what each call makes of what is seen (shape 0) ===== -/
section OX0
variable {Ls : Nat} {xs : Nat → Int32} (X1 X2 : List jm_c)
noncomputable def oQ0 (X1 X2 : List jm_c) (V : Int32 → Prop) (x : sg) (v : Option Value) (G : jm_h) : Prop := ∃ (r : Int32) (t : Nat) (F' : Nat → sy_d), v = some (.int r) ∧ V r ∧ t < 4 ∧ G = sy_dh F' X1 X2 (iv_H t) ∧ iv_in F' iv_B0 ∧ jx_ok F' ∧ sy_al F' 42 = wls ∧ ox F' = x
theorem ox0_mk {F : Nat → sy_d} {a c d : Int} {b e : Nat → Int} (h1 : (sy_i F 0).toInt = a) (h2 : ub (sy_ai F 2) a.toNat = b) (h3 : (sy_i F 1).toInt = c) (h4 : (sy_i F 79).toInt = d) (h5 : hl3 (sy_ai F 78) = e) : ox F = (a, b, c, d, e) := by
  subst h1; subst h2; subst h3; subst h4; subst h5
  rfl
noncomputable def fC0 (F0 F : Nat → sy_d) (t : Nat) (b : Nat → Int) : Prop := iv_in F iv_B0 ∧ (∀ j, j < 82 → j ∉ ([0, 2] : List Nat) → F j = F0 j) ∧ (sy_i F 0).toInt = t ∧ ub (sy_ai F 2) t = b
theorem fC0_eq {F0 F F1 : Nat → sy_d} {t : Nat} {b : Nat → Int} (h : fC0 F0 F t b) (g : ∀ j, j < 82 → F1 j = F j) : fC0 F0 F1 t b := ⟨hd_iveq0 h.1 g, fun j hj hn => (g j hj).trans (h.2.1 j hj hn), (nz_fi (g 0 (by decide))).trans h.2.2.1, by rw [nz_fa (g 2 (by decide))]; exact h.2.2.2⟩
theorem k0oap_T (F0 F : Nat → sy_d) {t : Nat} {b : Nat → Int} (h : fC0 F0 F t b) (ht : t ≤ 1996) (a : Int32) : jm_T Ls xs 1 jm_M116 [.ref 8, .int a] (sy_dh F X1 X2 (iv_H 0)) 0 0 (fun v G => ∃ F' : Nat → sy_d, v = none ∧ G = sy_dh F' X1 X2 (iv_H 0) ∧ fC0 F0 F' (t + 4) (apB b t a)) := by
  refine nyy_T (by decide) F (fun _ => .inl (.int a)) X1 X2 (A := [.inl (.ref 8), .inr (.inl 82)]) jm_ok116 (by decide) rfl ?_
  obtain ⟨F2, hF2⟩ : ∃ F2, F2 = ny F (fun _ => .inl (.int a)) := ⟨_, rfl⟩
  have i82 : sy_i F2 82 = a := by rw [hF2]; rfl
  have h2 : fC0 F0 F2 t b := fC0_eq h (fun j hj => by rw [hF2]; exact ny_lt j hj)
  rw [← hF2]
  obtain ⟨c1, c2, c3, c4⟩ := h2
  subst i82
  refine k0oap_0 (by decide) F2 X1 X2 c1 ?_ ?_ ?_ ?_ ?_
  iterate 4 (intros; omega)
  intro q1 q2 q3 q4 F1 hb g e0 a2
  refine ⟨F1, rfl, rfl, hb, fun j hj hn => (g j hj hn).trans (c2 j hj hn), by omega, ?_⟩
  rw [a2, ← c4]
  exact ap_ub (by omega) (by omega) (by omega) (by omega) rfl ((b8 _).trans (us24 _)) ((b8 _).trans (us16 _)) ((b8 _).trans (us8 _)) ((b8 _).trans (us0 _))
end OX0
end
section
/-! ===== the class: what each call makes of what is seen (shape 1) ===== -/
section OX1
variable {Ls : Nat} {xs : Nat → Int32} (X1 X2 : List jm_c)
noncomputable def oQ1 (X1 X2 : List jm_c) (V : Int32 → Prop) (x : sg) (v : Option Value) (G : jm_h) : Prop := ∃ (r : Int32) (t : Nat) (F' : Nat → sy_d), v = some (.int r) ∧ V r ∧ t < 4 ∧ G = sy_dh F' X1 X2 (iv_H t) ∧ iv_in F' iv_B0 ∧ jx_ok F' ∧ sy_al F' 42 = wls ∧ ox F' = x
noncomputable def fC1 (F0 F : Nat → sy_d) (t : Nat) (b : Nat → Int) : Prop := iv_in F iv_B0 ∧ (∀ j, j < 82 → j ∉ ([0, 2] : List Nat) → F j = F0 j) ∧ (sy_i F 0).toInt = t ∧ ub (sy_ai F 2) t = b
theorem fC1_eq {F0 F F1 : Nat → sy_d} {t : Nat} {b : Nat → Int} (h : fC1 F0 F t b) (g : ∀ j, j < 82 → F1 j = F j) : fC1 F0 F1 t b := ⟨hd_iveq0 h.1 g, fun j hj hn => (g j hj).trans (h.2.1 j hj hn), (nz_fi (g 0 (by decide))).trans h.2.2.1, by rw [nz_fa (g 2 (by decide))]; exact h.2.2.2⟩
theorem k1oap_T (F0 F : Nat → sy_d) {t : Nat} {b : Nat → Int} (h : fC1 F0 F t b) (ht : t ≤ 1996) (a : Int32) : jm_T Ls xs 1 jm_M116 [.ref 8, .int a] (sy_dh F X1 X2 (iv_H 1)) 0 0 (fun v G => ∃ F' : Nat → sy_d, v = none ∧ G = sy_dh F' X1 X2 (iv_H 1) ∧ fC1 F0 F' (t + 4) (apB b t a)) := by
  refine nyy_T (by decide) F (fun _ => .inl (.int a)) X1 X2 (A := [.inl (.ref 8), .inr (.inl 82)]) jm_ok116 (by decide) rfl ?_
  obtain ⟨F2, hF2⟩ : ∃ F2, F2 = ny F (fun _ => .inl (.int a)) := ⟨_, rfl⟩
  have i82 : sy_i F2 82 = a := by rw [hF2]; rfl
  have h2 : fC1 F0 F2 t b := fC1_eq h (fun j hj => by rw [hF2]; exact ny_lt j hj)
  rw [← hF2]
  obtain ⟨c1, c2, c3, c4⟩ := h2
  subst i82
  refine k1oap_0 (by decide) F2 X1 X2 c1 ?_ ?_ ?_ ?_ ?_
  iterate 4 (intros; omega)
  intro q1 q2 q3 q4 F1 hb g e0 a2
  refine ⟨F1, rfl, rfl, hb, fun j hj hn => (g j hj hn).trans (c2 j hj hn), by omega, ?_⟩
  rw [a2, ← c4]
  exact ap_ub (by omega) (by omega) (by omega) (by omega) rfl ((b8 _).trans (us24 _)) ((b8 _).trans (us16 _)) ((b8 _).trans (us8 _)) ((b8 _).trans (us0 _))
end OX1
end
section
/-! ===== the class: what each call makes of what is seen (shape 2) ===== -/
section OX2
variable {Ls : Nat} {xs : Nat → Int32} (X1 X2 : List jm_c)
noncomputable def oQ2 (X1 X2 : List jm_c) (V : Int32 → Prop) (x : sg) (v : Option Value) (G : jm_h) : Prop := ∃ (r : Int32) (t : Nat) (F' : Nat → sy_d), v = some (.int r) ∧ V r ∧ t < 4 ∧ G = sy_dh F' X1 X2 (iv_H t) ∧ iv_in F' iv_B0 ∧ jx_ok F' ∧ sy_al F' 42 = wls ∧ ox F' = x
noncomputable def fC2 (F0 F : Nat → sy_d) (t : Nat) (b : Nat → Int) : Prop := iv_in F iv_B0 ∧ (∀ j, j < 82 → j ∉ ([0, 2] : List Nat) → F j = F0 j) ∧ (sy_i F 0).toInt = t ∧ ub (sy_ai F 2) t = b
theorem fC2_eq {F0 F F1 : Nat → sy_d} {t : Nat} {b : Nat → Int} (h : fC2 F0 F t b) (g : ∀ j, j < 82 → F1 j = F j) : fC2 F0 F1 t b := ⟨hd_iveq0 h.1 g, fun j hj hn => (g j hj).trans (h.2.1 j hj hn), (nz_fi (g 0 (by decide))).trans h.2.2.1, by rw [nz_fa (g 2 (by decide))]; exact h.2.2.2⟩
theorem k2oap_T (F0 F : Nat → sy_d) {t : Nat} {b : Nat → Int} (h : fC2 F0 F t b) (ht : t ≤ 1996) (a : Int32) : jm_T Ls xs 1 jm_M116 [.ref 8, .int a] (sy_dh F X1 X2 (iv_H 2)) 0 0 (fun v G => ∃ F' : Nat → sy_d, v = none ∧ G = sy_dh F' X1 X2 (iv_H 2) ∧ fC2 F0 F' (t + 4) (apB b t a)) := by
  refine nyy_T (by decide) F (fun _ => .inl (.int a)) X1 X2 (A := [.inl (.ref 8), .inr (.inl 82)]) jm_ok116 (by decide) rfl ?_
  obtain ⟨F2, hF2⟩ : ∃ F2, F2 = ny F (fun _ => .inl (.int a)) := ⟨_, rfl⟩
  have i82 : sy_i F2 82 = a := by rw [hF2]; rfl
  have h2 : fC2 F0 F2 t b := fC2_eq h (fun j hj => by rw [hF2]; exact ny_lt j hj)
  rw [← hF2]
  obtain ⟨c1, c2, c3, c4⟩ := h2
  subst i82
  refine k2oap_0 (by decide) F2 X1 X2 c1 ?_ ?_ ?_ ?_ ?_
  iterate 4 (intros; omega)
  intro q1 q2 q3 q4 F1 hb g e0 a2
  refine ⟨F1, rfl, rfl, hb, fun j hj hn => (g j hj hn).trans (c2 j hj hn), by omega, ?_⟩
  rw [a2, ← c4]
  exact ap_ub (by omega) (by omega) (by omega) (by omega) rfl ((b8 _).trans (us24 _)) ((b8 _).trans (us16 _)) ((b8 _).trans (us8 _)) ((b8 _).trans (us0 _))
end OX2
end
section
/-! ===== the class: what each call makes of what is seen (shape 3) ===== -/
section OX3
variable {Ls : Nat} {xs : Nat → Int32} (X1 X2 : List jm_c)
noncomputable def oQ3 (X1 X2 : List jm_c) (V : Int32 → Prop) (x : sg) (v : Option Value) (G : jm_h) : Prop := ∃ (r : Int32) (t : Nat) (F' : Nat → sy_d), v = some (.int r) ∧ V r ∧ t < 4 ∧ G = sy_dh F' X1 X2 (iv_H t) ∧ iv_in F' iv_B0 ∧ jx_ok F' ∧ sy_al F' 42 = wls ∧ ox F' = x
noncomputable def fC3 (F0 F : Nat → sy_d) (t : Nat) (b : Nat → Int) : Prop := iv_in F iv_B0 ∧ (∀ j, j < 82 → j ∉ ([0, 2] : List Nat) → F j = F0 j) ∧ (sy_i F 0).toInt = t ∧ ub (sy_ai F 2) t = b
theorem fC3_eq {F0 F F1 : Nat → sy_d} {t : Nat} {b : Nat → Int} (h : fC3 F0 F t b) (g : ∀ j, j < 82 → F1 j = F j) : fC3 F0 F1 t b := ⟨hd_iveq0 h.1 g, fun j hj hn => (g j hj).trans (h.2.1 j hj hn), (nz_fi (g 0 (by decide))).trans h.2.2.1, by rw [nz_fa (g 2 (by decide))]; exact h.2.2.2⟩
theorem k3oap_T (F0 F : Nat → sy_d) {t : Nat} {b : Nat → Int} (h : fC3 F0 F t b) (ht : t ≤ 1996) (a : Int32) : jm_T Ls xs 1 jm_M116 [.ref 8, .int a] (sy_dh F X1 X2 (iv_H 3)) 0 0 (fun v G => ∃ F' : Nat → sy_d, v = none ∧ G = sy_dh F' X1 X2 (iv_H 3) ∧ fC3 F0 F' (t + 4) (apB b t a)) := by
  refine nyy_T (by decide) F (fun _ => .inl (.int a)) X1 X2 (A := [.inl (.ref 8), .inr (.inl 82)]) jm_ok116 (by decide) rfl ?_
  obtain ⟨F2, hF2⟩ : ∃ F2, F2 = ny F (fun _ => .inl (.int a)) := ⟨_, rfl⟩
  have i82 : sy_i F2 82 = a := by rw [hF2]; rfl
  have h2 : fC3 F0 F2 t b := fC3_eq h (fun j hj => by rw [hF2]; exact ny_lt j hj)
  rw [← hF2]
  obtain ⟨c1, c2, c3, c4⟩ := h2
  subst i82
  refine k3oap_0 (by decide) F2 X1 X2 c1 ?_ ?_ ?_ ?_ ?_
  iterate 4 (intros; omega)
  intro q1 q2 q3 q4 F1 hb g e0 a2
  refine ⟨F1, rfl, rfl, hb, fun j hj hn => (g j hj hn).trans (c2 j hj hn), by omega, ?_⟩
  rw [a2, ← c4]
  exact ap_ub (by omega) (by omega) (by omega) (by omega) rfl ((b8 _).trans (us24 _)) ((b8 _).trans (us16 _)) ((b8 _).trans (us8 _)) ((b8 _).trans (us0 _))
end OX3
end
