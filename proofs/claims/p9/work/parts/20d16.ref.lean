/-! ===== the reference cuts a text into tokens ===== -/
theorem lgq (x y : Int64) : (lg_cmp x y).toInt = 0 ↔ x = y := by
  unfold lg_cmp
  split
  · rename_i h
    have := Int64.lt_iff_toInt_lt.mp h
    exact ⟨fun q => absurd q (by decide), fun q => by rw [q] at this; omega⟩
  · split
    · rename_i h
      exact ⟨fun _ => h, fun _ => by decide⟩
    · rename_i h
      exact ⟨fun q => absurd q (by decide), fun q => absurd q h⟩
theorem uW_c {w : Nat → Int64} {x : Int64} : ∀ k : Nat, uW w x k = 1 ∨ uW w x k ≤ 19 + (k : Int)
  | 0 => Or.inl rfl
  | k + 1 => by
    have h := uW_c (w := w) (x := x) k
    unfold uW
    split <;> omega
abbrev WU : List Nat := [3, 25, 26, 27, 28]
noncomputable def zf (F : Nat → sy_d) : Nat := (sy_i F 2).toInt.toNat
noncomputable def bf (F : Nat → sy_d) : Nat → Int := ub (sy_ai F 24) (zf F)
noncomputable def wf (F : Nat → sy_d) (k : Nat) : Int64 := (sy_al F 29).getD k 0
noncomputable def tf_ (F0 F : Nat → sy_d) (j : Nat) : Prop := tk (bf F0) (zf F0) (wf F0) (kf F) (pf F) (vf F) (nf F) j
noncomputable def rcQ (X1 X2 : List jm_c) (F0 : Nat → sy_d) (v : Option Value) (G : jm_h) : Prop := ∃ F' : Nat → sy_d, v = none ∧ G = sy_dh F' X1 X2 (iv_H 4) ∧ iv_in F' iv_B4 ∧ (∀ j, j < 69 → j ∉ WU → F' j = F0 j) ∧ ∃ L : Nat, L ≤ 400 ∧ (∀ j, j ≤ L → tf_ F0 F' j) ∧ (∀ j, j < L → kf F' j ≠ 0) ∧ (kf F' L = 0 ∨ L = 400)
/-- so far: the byte i, T tokens cut -/
noncomputable def cI (F0 F : Nat → sy_d) (i T : Nat) : Prop := iv_in F iv_B4 ∧ (∀ j, j < 69 → j ∉ WU → F j = F0 j) ∧ i ≤ zf F0 ∧ (sy_i F 3).toInt = T ∧ (∀ j, j < T → tf_ F0 F j ∧ kf F j ≠ 0) ∧ uR uB (bf F0) (zf F0) i = uP (bf F0) (zf F0) T
theorem cI_eq {F0 F F1 : Nat → sy_d} {i T : Nat} (h : cI F0 F i T) (hb : iv_in F1 iv_B4) (g : ∀ j, j < 69 → F1 j = F j) : cI F0 F1 i T := by
  obtain ⟨h1, h2, h3, h4, h5, h6⟩ := h
  refine ⟨hb, fun j hj hn => (g j hj).trans (h2 j hj hn), h3, by rw [nz_fi (g 3 (by decide))]; exact h4, fun j hj => ?_, h6⟩
  unfold tf_
  rw [kf_eq (g 25 (by decide)), pf_eq (g 26 (by decide)), vf_eq (g 27 (by decide)), nf_eq (g 28 (by decide))]
  exact h5 j hj
theorem tf_push {F0 F F1 : Nat → sy_d} {i T : Nat} {k p v : Int32} {nm : Int64} (h : cI F0 F i T) (hi : uP (bf F0) (zf F0) T = i) (a25 : sy_ai F1 25 = jm_upd (sy_ai F 25) ((sy_i F 3).toInt).toNat k) (a26 : sy_ai F1 26 = jm_upd (sy_ai F 26) ((sy_i F 3).toInt).toNat p) (a27 : sy_ai F1 27 = jm_upd (sy_ai F 27) ((sy_i F 3).toInt).toNat v) (a28 : sy_al F1 28 = jm_updL (sy_al F 28) ((sy_i F 3).toInt).toNat nm)
    (hk : k.toInt = uK (bf F0) (zf F0) (wf F0) i) (hp : p.toInt = i) (hv : k.toInt = 2 → v.toInt = uF gd (bf F0) i (uR uD (bf F0) (zf F0) i - i) 0) (hn : k.toInt = 1 → nm = uF gl (bf F0) i (uR uL (bf F0) (zf F0) i - i) 0) : (∀ j, j ≤ T → tf_ F0 F1 j) ∧ (∀ j, j < T → kf F1 j ≠ 0) ∧ kf F1 T = k.toInt := by
  obtain ⟨h1, h2, h3, h4, h5, h6⟩ := h
  rw [h4, Int.toNat_natCast] at a25 a26 a27 a28
  have k0 : ∀ j, kf F1 j = if j = T then k.toInt else kf F j := fun j => by unfold kf; rw [a25, jm_upd_at]; split <;> rfl
  have p0 : ∀ j, pf F1 j = if j = T then p.toInt else pf F j := fun j => by unfold pf; rw [a26, jm_upd_at]; split <;> rfl
  have v0 : ∀ j, vf F1 j = if j = T then v.toInt else vf F j := fun j => by unfold vf; rw [a27, jm_upd_at]; split <;> rfl
  have n0 : ∀ j, nf F1 j = if j = T then nm else nf F j := fun j => by unfold nf; rw [a28, jm_updL_at]
  refine ⟨fun j hj => ?_, fun j hj => ?_, by rw [k0, if_pos rfl]⟩
  · by_cases q : j = T
    · unfold tf_ tk
      rw [k0, p0, v0, n0, if_pos q, if_pos q, if_pos q, if_pos q, q, hi]
      exact ⟨hp, hk, hv, hn⟩
    · have := (h5 j (by omega)).1
      unfold tf_ tk at this ⊢
      rw [k0, p0, v0, n0, if_neg q, if_neg q, if_neg q, if_neg q]
      exact this
  · rw [k0, if_neg (by omega)]
    exact (h5 j hj).2
theorem cI_push {F0 F F1 : Nat → sy_d} {i T : Nat} {k p v : Int32} {nm : Int64} (h : cI F0 F i T) (hi : uP (bf F0) (zf F0) T = i) (hb : iv_in F1 iv_B4) (g : ∀ j, j < 69 → j ∉ ([3, 25, 26, 27, 28] : List Nat) → F1 j = F j) (e3 : (sy_i F1 3).toInt = (sy_i F 3).toInt + 1) (a25 : sy_ai F1 25 = jm_upd (sy_ai F 25) ((sy_i F 3).toInt).toNat k) (a26 : sy_ai F1 26 = jm_upd (sy_ai F 26) ((sy_i F 3).toInt).toNat p) (a27 : sy_ai F1 27 = jm_upd (sy_ai F 27) ((sy_i F 3).toInt).toNat v) (a28 : sy_al F1 28 = jm_updL (sy_al F 28) ((sy_i F 3).toInt).toNat nm)
    (hk : k.toInt = uK (bf F0) (zf F0) (wf F0) i) (hk0 : k.toInt ≠ 0) (hp : p.toInt = i) (hv : k.toInt = 2 → v.toInt = uF gd (bf F0) i (uR uD (bf F0) (zf F0) i - i) 0) (hn : k.toInt = 1 → nm = uF gl (bf F0) i (uR uL (bf F0) (zf F0) i - i) 0) {i' : Nat} (hi' : i' = uN (bf F0) (zf F0) i) : cI F0 F1 i' (T + 1) := by
  obtain ⟨q1, q2, q3⟩ := tf_push h hi a25 a26 a27 a28 hk hp hv hn
  obtain ⟨h1, h2, h3, h4, h5, h6⟩ := h
  refine ⟨hb, fun j hj hn => (g j hj hn).trans (h2 j hj hn), by rw [hi']; exact uN_le h3, by omega, fun j hj => ⟨q1 j (by omega), ?_⟩, ?_⟩
  · by_cases q : j = T
    · rw [q, q3]; exact hk0
    · exact q2 j (by omega)
  · rw [hi', ← hi]
    rfl
theorem by_ {F0 F : Nat → sy_d} (h : F 24 = F0 24) {z : Int} {p : Nat} (hz : z = p) (hp : p < zf F0) : ((sy_ai F 24).getD z.toNat 0 &&& 255).toInt = bf F0 p := by
  rw [nz_fa h, hz, Int.toNat_natCast]
  exact ub_and hp
section RC
variable {Ls : Nat} {xs : Nat → Int32} (X1 X2 : List jm_c) {F0 : Nat → sy_d} {Q : Option Value → jm_h → Prop}
abbrev rc7 (Ls : Nat) (xs : Nat → Int32) (X1 X2 : List jm_c) (Q : Option Value → jm_h → Prop) (F : Nat → sy_d) : Prop := hd_W Ls xs 5 jm_M142 Q (7, sy_dL F [some (.inl (.ref 1000)), some (.inr (.inl 69)), none, none, none, none, none, none], sy_dS F [], sy_dh F X1 X2 (iv_H 4), 0, 0)
/-- which word: one after the other -/
theorem rc_l {i c T : Nat} (hi : i < zf F0) (hu : uP (bf F0) (zf F0) T = i) (hL : uL (bf F0 i) = true) (hr : uR uL (bf F0) (zf F0) i = i + c) (hc : c ≤ 8) (K : ∀ F1 : Nat → sy_d, cI F0 F1 (i + c) (T + 1) → (sy_i F1 69).toInt = (i + c : Nat) → rc7 Ls xs X1 X2 Q F1) :
    ∀ (m : Nat) (F : Nat → sy_d) (k : Nat), 23 - k < m → k ≤ 23 → T ≤ 400 → cI F0 F i T → (sy_i F 69).toInt = i → (sy_i F 70).toInt = c → sy_l F 71 = uF gl (bf F0) i c 0 → (sy_i F 73).toInt = k → (sy_i F 72).toInt = uW (wf F0) (uF gl (bf F0) i c 0) k →
    hd_W Ls xs 5 jm_M142 Q (146, sy_dL F [some (.inl (.ref 1000)), some (.inr (.inl 69)), none, some (.inr (.inl 70)), some (.inr (.inr 71)), none, some (.inr (.inl 72)), some (.inr (.inl 73))], sy_dS F [], sy_dh F X1 X2 (iv_H 4), 0, 0) := by
  intro m
  induction m with
  | zero => intro F k hm; omega
  | succ m ih =>
    intro F k hm hk hT hI e69 e70 e71 e73 e72
    have hz : zf F0 ≤ 2000 := by
      have := nz_bx hI.1 (k := 2) (lo := 0) (hi := 2000) rfl
      have e := nz_fi (hI.2.1 2 (by decide) (by decide))
      unfold zf
      omega
    have hT3 := hI.2.2.2.1
    have hw := uW_b (w := wf F0) (x := uF gl (bf F0) i c 0) k
    have hw2 := uW_c (w := wf F0) (x := uF gl (bf F0) i c 0) k
    have hK : k = 23 → uK (bf F0) (zf F0) (wf F0) i = (sy_i F 72).toInt := fun z => by
      unfold uK
      rw [if_neg (by omega), if_pos hL, hr, if_neg (by omega), show i + c - i = c by omega, e72, z]
    have hN : uN (bf F0) (zf F0) i = i + c := by
      unfold uN
      rw [if_neg (by omega), if_pos hL, hr]
    have hcmp : ∀ {z : Int}, z = k → ((lg_cmp ((sy_al F 29).getD z.toNat 0) (sy_l F 71)).toInt = 0 ↔ wf F0 k = uF gl (bf F0) i c 0) := fun {z} hz => by
      rw [lgq, e71, nz_fl (hI.2.1 29 (by decide) (by decide)), hz, Int.toNat_natCast]
      exact Iff.rfl
    have hc0 := hcmp e73
    refine rc_146 (by decide) F X1 X2 hI.1 ?_ ?_ ?_ ?_ ?_ ?_ ?_ ?_
    · omega
    · omega
    · omega
    · intros; omega
    · intros; omega
    · intro q1 F1 hb g e2 e3 a25 a26 a27 a28 f69
      exact K F1 (cI_push hI hu hb g e3 a25 a26 a27 a28 (hK (by omega)).symm (by omega) e69 (fun z => absurd (e72 ▸ z) hw.2.2.2) (fun _ => by rw [e71, hr, show i + c - i = c by omega]) hN.symm) (by omega)
    · intro q1 q2 F1 hb g e2 e3 a25 a26 a27 a28 f69 f70 f71 f72 f73
      refine ih F1 (k + 1) (by omega) (by omega) hT (cI_eq hI hb (fun j hj => g j hj (by simp))) (by omega) (by omega) (f71.trans e71) (by omega) ?_
      rw [uW_n (fun z => q2 (hc0.mpr z)), f72]
      exact e72
    · intro q1 q2 F1 hb g e2 e3 a25 a26 a27 a28 f69 f70 f71 f72 f73
      refine ih F1 (k + 1) (by omega) (by omega) hT (cI_eq hI hb (fun j hj => g j hj (by simp))) (by omega) (by omega) (f71.trans e71) (by omega) ?_
      rw [uW_y (hc0.mp q2)]
      omega
/-- a word: letter by letter -/
theorem rc_w {i T : Nat} (hi : i < zf F0) (hu : uP (bf F0) (zf F0) T = i) (hL : uL (bf F0 i) = true) (K : ∀ (F1 : Nat → sy_d) (i' : Nat), i < i' → cI F0 F1 i' (T + 1) → (sy_i F1 69).toInt = i' → rc7 Ls xs X1 X2 Q F1) :
    ∀ (m : Nat) (F : Nat → sy_d) (c : Nat), zf F0 - (i + c) < m → i + c ≤ zf F0 → T ≤ 400 → cI F0 F i T → (sy_i F 69).toInt = i → (sy_i F 70).toInt = c → uR uL (bf F0) (zf F0) i = uR uL (bf F0) (zf F0) (i + c) → (c ≤ 8 → sy_l F 71 = uF gl (bf F0) i c 0) →
    hd_W Ls xs 5 jm_M142 Q (85, sy_dL F [some (.inl (.ref 1000)), some (.inr (.inl 69)), none, some (.inr (.inl 70)), some (.inr (.inr 71)), none, none, none], sy_dS F [], sy_dh F X1 X2 (iv_H 4), 0, 0) := by
  intro m
  induction m with
  | zero => intro F c hm; omega
  | succ m ih =>
    intro F c hm hc hT hI e69 e70 hr e71
    have e2' : (sy_i F 2).toInt = zf F0 := by
      have := nz_bx hI.1 (k := 2) (lo := 0) (hi := 2000) rfl
      have e := nz_fi (hI.2.1 2 (by decide) (by decide))
      unfold zf
      omega
    have hz : zf F0 ≤ 2000 := by
      have := nz_bx hI.1 (k := 2) (lo := 0) (hi := 2000) rfl
      omega
    have hT3 := hI.2.2.2.1
    have hby : i + c < zf F0 → ((sy_ai F 24).getD ((sy_i F 69).toInt + (sy_i F 70).toInt).toNat 0 &&& 255).toInt = bf F0 (i + c) := fun q => by_ (hI.2.1 24 (by decide) (by decide)) (by omega) q
    have hNe : zf F0 ≤ i + c ∨ uL (bf F0 (i + c)) = false → uR uL (bf F0) (zf F0) i = i + c := fun q => hr.trans (uR_e q)
    have c0 : uR uL (bf F0) (zf F0) i = i + c → 0 < c := fun q => by
      have := uR_gt hi hL
      omega
    have bad : uR uL (bf F0) (zf F0) i = i + c → 8 < c → (uK (bf F0) (zf F0) (wf F0) i = 3 ∧ uN (bf F0) (zf F0) i = i + c) := fun q q2 => by
      unfold uK uN
      rw [if_neg (by omega), if_pos hL, q, if_pos (by omega), if_neg (by omega), if_pos hL]
      exact ⟨rfl, rfl⟩
    have goL : ∀ F1 : Nat → sy_d, uR uL (bf F0) (zf F0) i = i + c → c ≤ 8 → iv_in F1 iv_B4 → (∀ j, j < 69 → j ∉ ([] : List Nat) → F1 j = F j) → (sy_i F1 69).toInt = (sy_i F 69).toInt → (sy_i F1 70).toInt = (sy_i F 70).toInt → sy_l F1 71 = sy_l F 71 → (sy_i F1 72).toInt = 1 → (sy_i F1 73).toInt = 0 → hd_W Ls xs 5 jm_M142 Q (146, sy_dL F1 [some (.inl (.ref 1000)), some (.inr (.inl 69)), none, some (.inr (.inl 70)), some (.inr (.inr 71)), none, some (.inr (.inl 72)), some (.inr (.inl 73))], sy_dS F1 [], sy_dh F1 X1 X2 (iv_H 4), 0, 0) := fun F1 q q2 hb g f69 f70 f71 f72 f73 =>
      rc_l X1 X2 hi hu hL q q2 (fun F2 h2 h3 => K F2 (i + c) (by have := c0 q; omega) h2 h3) 24 F1 0 (by omega) (by omega) hT (cI_eq hI hb (fun j hj => g j hj (by simp))) (by omega) (by omega) (f71.trans (e71 q2)) (by omega) (by rw [f72]; rfl)
    have goB : ∀ F1 : Nat → sy_d, uR uL (bf F0) (zf F0) i = i + c → 8 < c → iv_in F1 iv_B4 → (∀ j, j < 69 → j ∉ ([3, 25, 26, 27, 28] : List Nat) → F1 j = F j) → (sy_i F1 3).toInt = (sy_i F 3).toInt + 1 → sy_ai F1 25 = jm_upd (sy_ai F 25) ((sy_i F 3).toInt).toNat 3 → sy_ai F1 26 = jm_upd (sy_ai F 26) ((sy_i F 3).toInt).toNat (sy_i F 69) → sy_ai F1 27 = jm_upd (sy_ai F 27) ((sy_i F 3).toInt).toNat 0 → sy_al F1 28 = jm_updL (sy_al F 28) ((sy_i F 3).toInt).toNat (sy_l F 71) → (sy_i F1 69).toInt = (sy_i F 69).toInt + (sy_i F 70).toInt → rc7 Ls xs X1 X2 Q F1 := fun F1 q q2 hb g e3 a25 a26 a27 a28 f69 =>
      K F1 (i + c) (by omega) (cI_push hI hu hb g e3 a25 a26 a27 a28 (bad q q2).1.symm (by decide) e69 (fun z => absurd z (by decide)) (fun z => absurd z (by decide)) (bad q q2).2.symm) (by omega)
    refine rc_85 (by decide) F X1 X2 hI.1 ?_ ?_ ?_ ?_ ?_ ?_ ?_ ?_ ?_ ?_ ?_ ?_ ?_ ?_ ?_
    · omega
    · omega
    · intros; omega
    · intros; omega
    · intros; omega
    · intro q1 q2 q3 F1 hb g e2 e3 a25 a26 a27 a28 f69 f70 f71 f72 f73
      exact goL F1 (hNe (Or.inl (by omega))) (by omega) hb g f69 f70 f71 f72 f73
    · intro q1 q2 q3 F1 hb g e2 e3 a25 a26 a27 a28 f69
      exact goB F1 (hNe (Or.inl (by omega))) (by omega) hb g e3 a25 a26 a27 a28 f69
    · intro q0 q1 q2 q3 F1 hb g e2 e3 a25 a26 a27 a28 f69 f70 f71 f72 f73
      have hh := hby (by omega)
      exact goL F1 (hNe (Or.inr (uL_n.mpr (by omega)))) (by omega) hb g f69 f70 f71 f72 f73
    · intro q0 q1 q2 q3 F1 hb g e2 e3 a25 a26 a27 a28 f69
      have hh := hby (by omega)
      exact goB F1 (hNe (Or.inr (uL_n.mpr (by omega)))) (by omega) hb g e3 a25 a26 a27 a28 f69
    · intro q0 q1 q2 q3 q4 F1 hb g e2 e3 a25 a26 a27 a28 f69 f70 f71 f72 f73
      have hh := hby (by omega)
      exact goL F1 (hNe (Or.inr (uL_n.mpr (by omega)))) (by omega) hb g f69 f70 f71 f72 f73
    · intro q0 q1 q2 q3 q4 F1 hb g e2 e3 a25 a26 a27 a28 f69
      have hh := hby (by omega)
      exact goB F1 (hNe (Or.inr (uL_n.mpr (by omega)))) (by omega) hb g e3 a25 a26 a27 a28 f69
    · intro q0 q1 q2 q3 F1 hb g e2 e3 a25 a26 a27 a28 f69 f70 f71
      have hh := hby (by omega)
      exact ih F1 (c + 1) (by omega) (by omega) hT (cI_eq hI hb (fun j hj => g j hj (by simp))) (by omega) (by omega) (hr.trans (uR_s (by omega) (uL_i.mpr (by omega)))) (fun z => by omega)
    · intros; omega
    · intro q0 q1 q2 q3 q4 q5 F1 hb g e2 e3 a25 a26 a27 a28 f69 f70 f71
      have hh := hby (by omega)
      refine ih F1 (c + 1) (by omega) (by omega) hT (cI_eq hI hb (fun j hj => g j hj (by simp))) (by omega) (by omega) (hr.trans (uR_s (by omega) (uL_i.mpr (by omega)))) (fun _ => ?_)
      rw [uF_s, f71, ← e71 (by omega), ← hh, gl, gl_i _ q1 q2, Int64.mul_comm]
    · intro q0 q1 q2 q3 q4 q5
      unfold oq at q5
      intros; omega
/-- a number: digit by digit -/
theorem rc_d {i T : Nat} (hi : i < zf F0) (hu : uP (bf F0) (zf F0) T = i) (hL : uL (bf F0 i) = false) (hD : uD (bf F0 i) = true) (K : ∀ (F1 : Nat → sy_d) (i' : Nat), i < i' → cI F0 F1 i' (T + 1) → (sy_i F1 69).toInt = i' → rc7 Ls xs X1 X2 Q F1) :
    ∀ (m : Nat) (F : Nat → sy_d) (c : Nat), zf F0 - (i + c) < m → i + c ≤ zf F0 → T ≤ 400 → cI F0 F i T → (sy_i F 69).toInt = i → (sy_i F 70).toInt = c → uR uD (bf F0) (zf F0) i = uR uD (bf F0) (zf F0) (i + c) → (c ≤ 4 → (sy_i F 71).toInt = uF gd (bf F0) i c 0) → 0 ≤ (sy_i F 71).toInt ∧ (sy_i F 71).toInt ≤ 9999 ∧ (c = 0 → (sy_i F 71).toInt = 0) ∧ (c = 1 → (sy_i F 71).toInt ≤ 9) ∧ (c = 2 → (sy_i F 71).toInt ≤ 99) ∧ (c = 3 → (sy_i F 71).toInt ≤ 999) →
    hd_W Ls xs 5 jm_M142 Q (208, sy_dL F [some (.inl (.ref 1000)), some (.inr (.inl 69)), none, some (.inr (.inl 70)), some (.inr (.inl 71)), none, none, none], sy_dS F [], sy_dh F X1 X2 (iv_H 4), 0, 0) := by
  intro m
  induction m with
  | zero => intro F c hm; omega
  | succ m ih =>
    intro F c hm hc hT hI e69 e70 hr e71 hv
    have e2' : (sy_i F 2).toInt = zf F0 := by
      have := nz_bx hI.1 (k := 2) (lo := 0) (hi := 2000) rfl
      have e := nz_fi (hI.2.1 2 (by decide) (by decide))
      unfold zf
      omega
    have hz : zf F0 ≤ 2000 := by
      have := nz_bx hI.1 (k := 2) (lo := 0) (hi := 2000) rfl
      omega
    have hT3 := hI.2.2.2.1
    have hby : i + c < zf F0 → ((sy_ai F 24).getD ((sy_i F 69).toInt + (sy_i F 70).toInt).toNat 0 &&& 255).toInt = bf F0 (i + c) := fun q => by_ (hI.2.1 24 (by decide) (by decide)) (by omega) q
    have hNe : zf F0 ≤ i + c ∨ uD (bf F0 (i + c)) = false → uR uD (bf F0) (zf F0) i = i + c := fun q => hr.trans (uR_e q)
    have hLn : ¬ (uL (bf F0 i) = true) := by rw [hL]; decide
    have go2 : ∀ F1 : Nat → sy_d, uR uD (bf F0) (zf F0) i = i + c → c ≤ 4 → iv_in F1 iv_B4 → (∀ j, j < 69 → j ∉ ([3, 25, 26, 27, 28] : List Nat) → F1 j = F j) → (sy_i F1 3).toInt = (sy_i F 3).toInt + 1 → sy_ai F1 25 = jm_upd (sy_ai F 25) ((sy_i F 3).toInt).toNat 2 → sy_ai F1 26 = jm_upd (sy_ai F 26) ((sy_i F 3).toInt).toNat (sy_i F 69) → sy_ai F1 27 = jm_upd (sy_ai F 27) ((sy_i F 3).toInt).toNat (sy_i F 71) → sy_al F1 28 = jm_updL (sy_al F 28) ((sy_i F 3).toInt).toNat 0 → (sy_i F1 69).toInt = (sy_i F 69).toInt + (sy_i F 70).toInt → rc7 Ls xs X1 X2 Q F1 := fun F1 q q2 hb g e3 a25 a26 a27 a28 f69 =>
      K F1 (i + c) (by have := uR_gt hi hD; omega) (cI_push hI hu hb g e3 a25 a26 a27 a28 (by unfold uK; rw [if_neg (by omega), if_neg hLn, if_pos hD, q, if_neg (by omega)]; decide) (by decide) e69 (fun _ => by rw [q, show i + c - i = c by omega]; exact e71 q2) (fun z => absurd z (by decide)) (by unfold uN; rw [if_neg (by omega), if_neg hLn, if_pos hD, q])) (by omega)
    have goB : ∀ F1 : Nat → sy_d, uR uD (bf F0) (zf F0) i = i + c → 4 < c → iv_in F1 iv_B4 → (∀ j, j < 69 → j ∉ ([3, 25, 26, 27, 28] : List Nat) → F1 j = F j) → (sy_i F1 3).toInt = (sy_i F 3).toInt + 1 → sy_ai F1 25 = jm_upd (sy_ai F 25) ((sy_i F 3).toInt).toNat 3 → sy_ai F1 26 = jm_upd (sy_ai F 26) ((sy_i F 3).toInt).toNat (sy_i F 69) → sy_ai F1 27 = jm_upd (sy_ai F 27) ((sy_i F 3).toInt).toNat (sy_i F 71) → sy_al F1 28 = jm_updL (sy_al F 28) ((sy_i F 3).toInt).toNat 0 → (sy_i F1 69).toInt = (sy_i F 69).toInt + (sy_i F 70).toInt → rc7 Ls xs X1 X2 Q F1 := fun F1 q q2 hb g e3 a25 a26 a27 a28 f69 =>
      K F1 (i + c) (by omega) (cI_push hI hu hb g e3 a25 a26 a27 a28 (by unfold uK; rw [if_neg (by omega), if_neg hLn, if_pos hD, q, if_pos (by omega)]; decide) (by decide) e69 (fun z => absurd z (by decide)) (fun z => absurd z (by decide)) (by unfold uN; rw [if_neg (by omega), if_neg hLn, if_pos hD, q])) (by omega)
    obtain ⟨v1, v2, v3, v4, v5, v6⟩ := hv
    refine rc_208 (by decide) F X1 X2 hI.1 ?_ ?_ ?_ ?_ ?_ ?_ ?_ ?_ ?_ ?_ ?_ ?_ ?_ ?_ ?_ ?_ ?_ ?_
    · omega
    · omega
    · omega
    iterate 6 (intros; omega)
    · intro q1 q2 F1 hb g e2 e3 a25 a26 a27 a28 f69
      exact go2 F1 (hNe (Or.inl (by omega))) (by omega) hb g e3 a25 a26 a27 a28 f69
    · intro q1 q2 F1 hb g e2 e3 a25 a26 a27 a28 f69
      exact goB F1 (hNe (Or.inl (by omega))) (by omega) hb g e3 a25 a26 a27 a28 f69
    · intro q0 q1 q2 F1 hb g e2 e3 a25 a26 a27 a28 f69
      have hh := hby (by omega)
      exact go2 F1 (hNe (Or.inr (uD_n.mpr (by omega)))) (by omega) hb g e3 a25 a26 a27 a28 f69
    · intro q0 q1 q2 F1 hb g e2 e3 a25 a26 a27 a28 f69
      have hh := hby (by omega)
      exact goB F1 (hNe (Or.inr (uD_n.mpr (by omega)))) (by omega) hb g e3 a25 a26 a27 a28 f69
    · intro q0 q1 q2 q3 F1 hb g e2 e3 a25 a26 a27 a28 f69
      have hh := hby (by omega)
      exact go2 F1 (hNe (Or.inr (uD_n.mpr (by omega)))) (by omega) hb g e3 a25 a26 a27 a28 f69
    · intro q0 q1 q2 q3 F1 hb g e2 e3 a25 a26 a27 a28 f69
      have hh := hby (by omega)
      exact goB F1 (hNe (Or.inr (uD_n.mpr (by omega)))) (by omega) hb g e3 a25 a26 a27 a28 f69
    · intro q0 q1 q2 q3 F1 hb g e2 e3 a25 a26 a27 a28 f69 f70 f71
      have hh := hby (by omega)
      exact ih F1 (c + 1) (by omega) (by omega) hT (cI_eq hI hb (fun j hj => g j hj (by simp))) (by omega) (by omega) (hr.trans (uR_s (by omega) (uD_i.mpr (by omega)))) (fun z => by omega) (by omega)
    · intros; omega
    · intro q0 q1 q2 q3 q4 F1 hb g e2 e3 a25 a26 a27 a28 f69 f70 f71
      have hh := hby (by omega)
      refine ih F1 (c + 1) (by omega) (by omega) hT (cI_eq hI hb (fun j hj => g j hj (by simp))) (by omega) (by omega) (hr.trans (uR_s (by omega) (uD_i.mpr (by omega)))) (fun _ => ?_) (by omega)
      rw [uF_s, ← e71 (by omega), f71, hh]
      show _ = 10 * _ + (_ - 48)
      omega
theorem nz_T3 {d : Nat} {M : jm_M} {F : Nat → sy_d} {a b c : Int32} (hok : jm_ok jm_YN M) (hA : (sy_e1 [.inl (.ref 1000), .inr (.inl 69), .inr (.inl 70), .inr (.inl 71)]).length ≤ jm_mx M)
    (h : ∀ F0 : Nat → sy_d, (∀ j, j < 69 → F0 j = F j) → sy_i F0 69 = a → sy_i F0 70 = b → hd_W Ls xs d M Q (0, sy_dL F0 (sy_ent (jm_mx M) [.inl (.ref 1000), .inr (.inl 69), .inr (.inl 70), .inr (.inl 71)]), [], sy_dh F0 X1 X2 (iv_H 4), 0, 0)) :
    jm_T Ls xs d M [.ref 1000, .int a, .int b, .int c] (sy_dh F X1 X2 (iv_H 4)) 0 0 Q := by
  obtain ⟨F0, hF0⟩ : ∃ F0 : Nat → sy_d, F0 = fun j => if j = 69 then .inl (.int a) else if j = 70 then .inl (.int b) else if j = 71 then .inl (.int c) else F j := ⟨_, rfl⟩
  have k0 : ∀ j, j < 69 → F0 j = F j := fun j hj => by
    rw [hF0]
    dsimp only
    rw [if_neg (by omega), if_neg (by omega), if_neg (by omega)]
  have k1 : F0 69 = .inl (.int a) := by rw [hF0]; rfl
  have k2 : F0 70 = .inl (.int b) := by rw [hF0]; rfl
  have k3 : F0 71 = .inl (.int c) := by rw [hF0]; rfl
  have i69 : sy_i F0 69 = a := zz_i k1
  have i70 : sy_i F0 70 = b := zz_i k2
  have i71 : sy_i F0 71 = c := zz_i k3
  have eA : ([.ref 1000, .int a, .int b, .int c] : List Value) = ([.inl (.ref 1000), .inr (.inl 69), .inr (.inl 70), .inr (.inl 71)] : List sy_v).map (sy_dv F0) := by
    show _ = [Value.ref 1000, .int (sy_i F0 69), .int (sy_i F0 70), .int (sy_i F0 71)]
    rw [i69, i70, i71]
  rw [eA, nz_eH X1 X2 k0]
  exact hd_T hok hA (h F0 k0 i69 i70)
theorem rs_T (F : Nat → sy_d) (hB : iv_in F iv_B4) (a b c : Int32) (ha : 0 ≤ a.toInt) (ha2 : a.toInt ≤ 2000) (h3 : (sy_i F 3).toInt ≤ 401) : jm_T Ls xs 4 jm_M143 [.ref 1000, .int a, .int b, .int c] (sy_dh F X1 X2 (iv_H 4)) 0 0 (fun v G => ∃ (x : Int32) (F' : Nat → sy_d), v = some (.int x) ∧ G = sy_dh F' X1 X2 (iv_H 4) ∧ x = 1 ∧ iv_in F' iv_B4 ∧ (∀ j, j < 69 → j ∉ ([3, 25, 26, 27, 28] : List Nat) → F' j = F j) ∧ (sy_i F' 3).toInt = (sy_i F 3).toInt + 1 ∧ ∃ k : Int32, k.toInt = uS b.toInt ∧ sy_ai F' 25 = jm_upd (sy_ai F 25) ((sy_i F 3).toInt).toNat k ∧ sy_ai F' 26 = jm_upd (sy_ai F 26) ((sy_i F 3).toInt).toNat a ∧ sy_ai F' 27 = jm_upd (sy_ai F 27) ((sy_i F 3).toInt).toNat 0 ∧ sy_al F' 28 = jm_updL (sy_al F 28) ((sy_i F 3).toInt).toNat 0) := by
  refine nz_T3 X1 X2 jm_ok143 (by decide) (fun F0 k0 i69 i70 => ?_)
  have i3 := nz_fi (k0 3 (by decide))
  have c3 := nz_bx hB (k := 3) (lo := 0) (hi := 402) rfl
  have b25 := nz_fa (k0 25 (by decide))
  have b26 := nz_fa (k0 26 (by decide))
  have b27 := nz_fa (k0 27 (by decide))
  have b28 := nz_fl (k0 28 (by decide))
  subst i69
  subst i70
  refine rs_0 (by decide) F0 X1 X2 (hd_iveq hB k0) ⟨ha, ha2⟩ ?_ ?_ ?_ ?_ ?_ ?_ ?_ ?_ ?_ ?_ ?_ ?_ ?_ ?_ ?_ ?_ ?_ ?_ ?_ ?_
  iterate 10 (intros; omega)
  · intro q1 q2 q3 q4 q5 q6 q7 q8 q9 F1 hb g e2 e3 a25 a26 a27 a28
    exact ⟨_, F1, rfl, rfl, rfl, hb, fun j hj hn => (g j hj hn).trans (k0 j hj), by omega, 3, by unfold uS; repeat rw [if_neg (by omega)]; try decide, by rw [a25, b25, i3], by rw [a26, b26, i3], by rw [a27, b27, i3], by rw [a28, b28, i3]⟩
  · intro q1 q2 q3 q4 q5 q6 q7 q8 q9 F1 hb g e2 e3 a25 a26 a27 a28
    exact ⟨_, F1, rfl, rfl, rfl, hb, fun j hj hn => (g j hj hn).trans (k0 j hj), by omega, 13, by rw [q9]; decide, by rw [a25, b25, i3], by rw [a26, b26, i3], by rw [a27, b27, i3], by rw [a28, b28, i3]⟩
  · intro q1 q2 q3 q4 q5 q6 q7 q8 q9 F1 hb g e2 e3 a25 a26 a27 a28
    exact ⟨_, F1, rfl, rfl, rfl, hb, fun j hj hn => (g j hj hn).trans (k0 j hj), by omega, 15, by rw [q8]; decide, by rw [a25, b25, i3], by rw [a26, b26, i3], by rw [a27, b27, i3], by rw [a28, b28, i3]⟩
  · intro q1 q2 q3 q4 q5 q6 q7 q8 q9 F1 hb g e2 e3 a25 a26 a27 a28
    exact ⟨_, F1, rfl, rfl, rfl, hb, fun j hj hn => (g j hj hn).trans (k0 j hj), by omega, 10, by rw [q7]; decide, by rw [a25, b25, i3], by rw [a26, b26, i3], by rw [a27, b27, i3], by rw [a28, b28, i3]⟩
  · intro q1 q2 q3 q4 q5 q6 q7 q8 q9 F1 hb g e2 e3 a25 a26 a27 a28
    exact ⟨_, F1, rfl, rfl, rfl, hb, fun j hj hn => (g j hj hn).trans (k0 j hj), by omega, 9, by rw [q6]; decide, by rw [a25, b25, i3], by rw [a26, b26, i3], by rw [a27, b27, i3], by rw [a28, b28, i3]⟩
  · intro q1 q2 q3 q4 q5 q6 q7 q8 q9 F1 hb g e2 e3 a25 a26 a27 a28
    exact ⟨_, F1, rfl, rfl, rfl, hb, fun j hj hn => (g j hj hn).trans (k0 j hj), by omega, 8, by rw [q5]; decide, by rw [a25, b25, i3], by rw [a26, b26, i3], by rw [a27, b27, i3], by rw [a28, b28, i3]⟩
  · intro q1 q2 q3 q4 q5 q6 q7 q8 q9 F1 hb g e2 e3 a25 a26 a27 a28
    exact ⟨_, F1, rfl, rfl, rfl, hb, fun j hj hn => (g j hj hn).trans (k0 j hj), by omega, 7, by rw [q4]; decide, by rw [a25, b25, i3], by rw [a26, b26, i3], by rw [a27, b27, i3], by rw [a28, b28, i3]⟩
  · intro q1 q2 q3 q5 q6 q7 q8 q9 F1 hb g e2 e3 a25 a26 a27 a28
    exact ⟨_, F1, rfl, rfl, rfl, hb, fun j hj hn => (g j hj hn).trans (k0 j hj), by omega, 6, by rw [q3]; decide, by rw [a25, b25, i3], by rw [a26, b26, i3], by rw [a27, b27, i3], by rw [a28, b28, i3]⟩
  · intro q1 q2 q5 q6 q7 q8 q9 F1 hb g e2 e3 a25 a26 a27 a28
    exact ⟨_, F1, rfl, rfl, rfl, hb, fun j hj hn => (g j hj hn).trans (k0 j hj), by omega, 5, by rw [q2]; decide, by rw [a25, b25, i3], by rw [a26, b26, i3], by rw [a27, b27, i3], by rw [a28, b28, i3]⟩
  · intro q1 q5 q6 q7 q8 q9 F1 hb g e2 e3 a25 a26 a27 a28
    exact ⟨_, F1, rfl, rfl, rfl, hb, fun j hj hn => (g j hj hn).trans (k0 j hj), by omega, 4, by rw [q1]; decide, by rw [a25, b25, i3], by rw [a26, b26, i3], by rw [a27, b27, i3], by rw [a28, b28, i3]⟩
/-- token by token -/
theorem rc_go : ∀ (m : Nat) (F : Nat → sy_d) (i T : Nat), zf F0 - i < m → cI F0 F i T → T ≤ 401 → (sy_i F 69).toInt = i → rc7 Ls xs X1 X2 (rcQ X1 X2 F0) F := by
  intro m
  induction m with
  | zero => intro F i T hm; omega
  | succ m ih =>
    intro F i T hm hI hT e69
    have e2' : (sy_i F 2).toInt = zf F0 := by
      have := nz_bx hI.1 (k := 2) (lo := 0) (hi := 2000) rfl
      have e := nz_fi (hI.2.1 2 (by decide) (by decide))
      unfold zf
      omega
    have hz : zf F0 ≤ 2000 := by
      have := nz_bx hI.1 (k := 2) (lo := 0) (hi := 2000) rfl
      omega
    have hT3 := hI.2.2.2.1
    have hi := hI.2.2.1
    have hby : i < zf F0 → ((sy_ai F 24).getD (sy_i F 69).toInt.toNat 0 &&& 255).toInt = bf F0 i := fun q => by_ (hI.2.1 24 (by decide) (by decide)) (by omega) q
    have nb : uB (bf F0 i) = false → uP (bf F0) (zf F0) T = i := fun q => by rw [← hI.2.2.2.2.2]; exact uR_e (Or.inr q)
    have goBl : ∀ F1 : Nat → sy_d, i < zf F0 → uB (bf F0 i) = true → iv_in F1 iv_B4 → (∀ j, j < 69 → j ∉ ([] : List Nat) → F1 j = F j) → (sy_i F1 69).toInt = (sy_i F 69).toInt + 1 → rc7 Ls xs X1 X2 (rcQ X1 X2 F0) F1 := fun F1 q q2 hb g f69 => by
      have hI1 := cI_eq hI hb (fun j hj => g j hj (by simp))
      refine ih F1 (i + 1) T (by omega) ⟨hI1.1, hI1.2.1, by omega, hI1.2.2.2.1, hI1.2.2.2.2.1, ?_⟩ hT (by omega)
      rw [← uR_s q q2]
      exact hI1.2.2.2.2.2
    have goE : ∀ F1 : Nat → sy_d, zf F0 ≤ i → T ≤ 400 → iv_in F1 iv_B4 → (∀ j, j < 69 → j ∉ ([3, 25, 26, 27, 28] : List Nat) → F1 j = F j) → (sy_i F1 3).toInt = (sy_i F 3).toInt + 1 → sy_ai F1 25 = jm_upd (sy_ai F 25) ((sy_i F 3).toInt).toNat 0 → sy_ai F1 26 = jm_upd (sy_ai F 26) ((sy_i F 3).toInt).toNat (sy_i F 2) → sy_ai F1 27 = jm_upd (sy_ai F 27) ((sy_i F 3).toInt).toNat 0 → sy_al F1 28 = jm_updL (sy_al F 28) ((sy_i F 3).toInt).toNat 0 → rcQ X1 X2 F0 none (sy_dh F1 X1 X2 (iv_H 4)) := fun F1 q q2 hb g e3 a25 a26 a27 a28 => by
      obtain ⟨z1, z2, z3⟩ := tf_push hI (by rw [← hI.2.2.2.2.2]; exact uR_e (Or.inl q)) a25 a26 a27 a28 (by unfold uK; rw [if_pos q]; decide) (by omega) (fun z => absurd z (by decide)) (fun z => absurd z (by decide))
      exact ⟨F1, rfl, rfl, hb, fun j hj hn => (g j hj hn).trans (hI.2.1 j hj hn), T, q2, z1, z2, Or.inl (by rw [z3]; decide)⟩
    have goS : ∀ F1 : Nat → sy_d, i < zf F0 → T ≤ 400 → uB (bf F0 i) = false → uL (bf F0 i) = false → uD (bf F0 i) = false → iv_in F1 iv_B4 → (∀ j, j < 69 → j ∉ ([] : List Nat) → F1 j = F j) → (sy_i F1 70).toInt = bf F0 i → (sy_i F1 71).toInt = (sy_i F 69).toInt → (sy_i F1 72).toInt = (sy_i F 69).toInt → hd_W Ls xs 5 jm_M142 (rcQ X1 X2 F0) (286, sy_dL F1 [some (.inl (.ref 1000)), none, none, none, none, none, none, none], sy_dS F1 [.inr (.inl 69), .inr (.inl 70), .inr (.inl 71), .inl (.ref 1000), .inr (.inl 72)], sy_dh F1 X1 X2 (iv_H 4), 0, 0) := fun F1 q q2 qb ql qd hb g f70 f71 f72 => by
      have hI1 := cI_eq hI hb (fun j hj => g j hj (by simp))
      have h31 := hI1.2.2.2.1
      refine hd_calI (R := fun x F' => x = 1 ∧ iv_in F' iv_B4 ∧ (∀ j, j < 69 → j ∉ ([3, 25, 26, 27, 28] : List Nat) → F' j = F1 j) ∧ (sy_i F' 3).toInt = (sy_i F1 3).toInt + 1 ∧ ∃ k : Int32, k.toInt = uS (sy_i F1 70).toInt ∧ sy_ai F' 25 = jm_upd (sy_ai F1 25) ((sy_i F1 3).toInt).toNat k ∧ sy_ai F' 26 = jm_upd (sy_ai F1 26) ((sy_i F1 3).toInt).toNat (sy_i F1 71) ∧ sy_ai F' 27 = jm_upd (sy_ai F1 27) ((sy_i F1 3).toInt).toNat 0 ∧ sy_al F' 28 = jm_updL (sy_al F1 28) ((sy_i F1 3).toInt).toNat 0) (nh := 69) (nv := 73) (s := 4) (s1 := 4) (d1 := 4) (M1 := jm_M143) (As := [.inl (.ref 1000), .inr (.inl 71), .inr (.inl 70), .inr (.inl 69)]) (rest := [.inr (.inl 72)]) jm_ok142 rfl rfl (by decide) (by decide +kernel) (rs_T X1 X2 F1 hb _ _ _ (by omega) (by omega) (by omega)) (fun F3 F' x hR p1 p2 p3 => ?_)
      obtain ⟨r1, r2, r3, r4, k, r5, r6, r7, r8, r9⟩ := hR
      have f72' := nz_fi (p2 72 (by decide) (by decide))
      have f73' : (sy_i F3 73).toInt = 1 := by rw [zz_i p3, r1]; decide
      have hk : uK (bf F0) (zf F0) (wf F0) i = k.toInt := by
        unfold uK
        rw [if_neg (by omega), if_neg (by rw [ql]; decide), if_neg (by rw [qd]; decide), r5, f70]
      have hN : uN (bf F0) (zf F0) i = i + 1 := by
        unfold uN
        rw [if_neg (by omega), if_neg (by rw [ql]; decide), if_neg (by rw [qd]; decide)]
      have ks := uS_b (sy_i F1 70).toInt
      refine rc_289 (by decide) F3 X1 X2 (hd_iveq r2 p1) (by omega) (by omega) ?_
      intro F4 hb4 g4 e2 e3 a25 a26 a27 a28 f69
      have gg : ∀ j, j < 69 → F4 j = F' j := fun j hj => (g4 j hj (by simp)).trans (p1 j hj)
      refine ih F4 (i + 1) (T + 1) (by omega) (cI_push hI1 (nb qb) hb4 (fun j hj hn => (gg j hj).trans (r3 j hj hn)) ?_ ?_ ?_ ?_ ?_ hk.symm (by omega) (k := k) (p := sy_i F1 71) (v := 0) (nm := 0) (by omega) (fun z => by omega) (fun z => by omega) hN.symm) (by omega) (by omega)
      · rw [nz_fi (gg 3 (by decide))]; exact r4
      · rw [nz_fa (gg 25 (by decide))]; exact r6
      · rw [nz_fa (gg 26 (by decide))]; exact r7
      · rw [nz_fa (gg 27 (by decide))]; exact r8
      · rw [nz_fl (gg 28 (by decide))]; exact r9
    refine rc_7 (by decide) F X1 X2 hI.1 ?_ ?_ ?_ ?_ ?_ ?_ ?_ ?_ ?_ ?_ ?_ ?_ ?_ ?_ ?_ ?_ ?_ ?_
    · omega
    · intro q1 F1 hb g e2 e3 a25 a26 a27 a28
      have hI1 := cI_eq hI hb (fun j hj => g j hj (by simp))
      exact ⟨F1, rfl, rfl, hb, hI1.2.1, 400, Nat.le_refl _, fun j hj => (hI1.2.2.2.2.1 j (by omega)).1, fun j hj => (hI1.2.2.2.2.1 j (by omega)).2, Or.inr rfl⟩
    · intros; omega
    · intros; omega
    · intro q1 q2 q3 F1 hb g e2 e3 a25 a26 a27 a28
      exact goE F1 (by omega) (by omega) hb g e3 a25 a26 a27 a28
    · intro q1 q2 q3 q4 F1 hb g e2 e3 a25 a26 a27 a28 f69
      have hh := hby (by omega)
      unfold oq at q4
      exact goBl F1 (by omega) (uB_i.mpr (by omega)) hb g f69
    · intro q1 q2 q3 q4 q5 F1 hb g e2 e3 a25 a26 a27 a28 f69
      have hh := hby (by omega)
      unfold oq at q5
      exact goBl F1 (by omega) (uB_i.mpr (by omega)) hb g f69
    · intro q1 q2 q3 q4 q5 q6 F1 hb g e2 e3 a25 a26 a27 a28 f69
      have hh := hby (by omega)
      unfold oq at q6
      exact goBl F1 (by omega) (uB_i.mpr (by omega)) hb g f69
    · intro q1 q2 q3 q4 q5 q6 q7 q8 q9 q10 F1 hb g e2 e3 a25 a26 a27 a28 f69 f70 f71 f72
      have hh := hby (by omega)
      unfold oq at q4 q5 q6 q7
      exact goS F1 (by omega) (by omega) (uB_n.mpr (by omega)) (uL_n.mpr (by omega)) (uD_n.mpr (by omega)) hb g (by omega) f71 f72
    · intro q1 q2 q3 q4 q5 q6 q7 q8 q9 q10 F1 hb g e2 e3 a25 a26 a27 a28 f69 f70 f71 f72
      have hh := hby (by omega)
      unfold oq at q4 q5 q6 q7
      exact goS F1 (by omega) (by omega) (uB_n.mpr (by omega)) (uL_n.mpr (by omega)) (uD_n.mpr (by omega)) hb g (by omega) f71 f72
    · intro q1 q2 q3 q4 q5 q6 q7 q8 q9 q10 q11 F1 hb g e2 e3 a25 a26 a27 a28 f69 f70 f71 f72
      have hh := hby (by omega)
      unfold oq at q4 q5 q6 q7
      exact goS F1 (by omega) (by omega) (uB_n.mpr (by omega)) (uL_n.mpr (by omega)) (uD_n.mpr (by omega)) hb g (by omega) f71 f72
    · intro q1 q2 q3 q4 q5 q6 q7 q8 q9 q10 q11 F1 hb g e2 e3 a25 a26 a27 a28 f69 f70 f71 f72
      have hh := hby (by omega)
      unfold oq at q4 q5 q6 q7
      exact goS F1 (by omega) (by omega) (uB_n.mpr (by omega)) (uL_n.mpr (by omega)) (uD_n.mpr (by omega)) hb g (by omega) f71 f72
    · intro q1 q2 q3 q4 q5 q6 q7 q8 q9 q10 F1 hb g e2 e3 a25 a26 a27 a28 f69 f70 f71
      have hh := hby (by omega)
      unfold oq at q4 q5 q6 q7
      exact rc_d X1 X2 (by omega) (nb (uB_n.mpr (by omega))) (uL_n.mpr (by omega)) (uD_i.mpr (by omega)) (fun F2 i' h1 h2 h3 => ih F2 i' (T + 1) (by have := h2.2.2.1; omega) h2 (by omega) h3) (zf F0 + 1) F1 0 (by omega) (by omega) (by omega) (cI_eq hI hb (fun j hj => g j hj (by simp))) (by omega) (by omega) rfl (fun _ => f71) (by omega)
    · intro q1 q2 q3 q4 q5 q6 q7 q8 q9 q10 q11 q12 F1 hb g e2 e3 a25 a26 a27 a28 f69 f70 f71 f72
      have hh := hby (by omega)
      unfold oq at q4 q5 q6 q7
      exact goS F1 (by omega) (by omega) (uB_n.mpr (by omega)) (uL_n.mpr (by omega)) (uD_n.mpr (by omega)) hb g (by omega) f71 f72
    · intro q1 q2 q3 q4 q5 q6 q7 q8 q9 q10 q11 q12 F1 hb g e2 e3 a25 a26 a27 a28 f69 f70 f71 f72
      have hh := hby (by omega)
      unfold oq at q4 q5 q6 q7
      exact goS F1 (by omega) (by omega) (uB_n.mpr (by omega)) (uL_n.mpr (by omega)) (uD_n.mpr (by omega)) hb g (by omega) f71 f72
    · intro q1 q2 q3 q4 q5 q6 q7 q8 q9 F1 hb g e2 e3 a25 a26 a27 a28 f69 f70 f71
      have hh := hby (by omega)
      unfold oq at q4 q5 q6 q7
      exact rc_w X1 X2 (by omega) (nb (uB_n.mpr (by omega))) (uL_i.mpr (by omega)) (fun F2 i' h1 h2 h3 => ih F2 i' (T + 1) (by have := h2.2.2.1; omega) h2 (by omega) h3) (zf F0 + 1) F1 0 (by omega) (by omega) (by omega) (cI_eq hI hb (fun j hj => g j hj (by simp))) (by omega) (by omega) rfl (fun _ => f71)
    · intro q1 q2 q3 q4 q5 q6 q7 F1 hb g e2 e3 a25 a26 a27 a28 f69
      have hh := hby (by omega)
      unfold oq at q7
      exact goBl F1 (by omega) (uB_i.mpr (by omega)) hb g f69
    · intro q1 q2 q3 F1 hb g e2 e3 a25 a26 a27 a28
      exact goE F1 (by omega) (by omega) hb g e3 a25 a26 a27 a28
theorem rc_T (hB : iv_in F0 iv_B4) : jm_T Ls xs 5 jm_M142 [.ref 1000] (sy_dh F0 X1 X2 (iv_H 4)) 0 0 (rcQ X1 X2 F0) := by
  refine nz_T0 jm_ok142 (by decide) (rc_0 (by decide) F0 X1 X2 hB ?_)
  intro F1 hb g e2 e3 a25 a26 a27 a28 f69
  exact rc_go X1 X2 (zf F0 + 1) F1 0 0 (by omega) ⟨hb, fun j hj hn => g j hj (fun q => hn (by revert q; simp; omega)), Nat.zero_le _, e3, fun j hj => absurd hj (Nat.not_lt_zero _), rfl⟩ (by omega) f69
end RC
