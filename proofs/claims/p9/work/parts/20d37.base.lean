/-! ===== the class cuts a text into tokens: names and lemmas ===== -/
noncomputable def ny (F d : Nat → sy_d) : Nat → sy_d := fun j => if j < 82 then F j else d (j - 82)
theorem ny_lt {F d : Nat → sy_d} : ∀ j, j < 82 → ny F d j = F j := fun j h => by
  unfold ny
  rw [if_pos h]
theorem nyy_T {Ls : Nat} {xs : Nat → Int32} {d : Nat} {M : jm_M} {Q : Option Value → jm_h → Prop} {s : Nat} (hs : s < 4) (F dd : Nat → sy_d) (X1 X2 : List jm_c) {A : List sy_v} {vs : List Value} (hok : jm_ok jm_YN M) (hl : (sy_e1 A).length ≤ jm_mx M) (hA : A.map (sy_dv (ny F dd)) = vs)
    (h : hd_W Ls xs d M Q (0, sy_dL (ny F dd) (sy_ent (jm_mx M) A), [], sy_dh (ny F dd) X1 X2 (iv_H s), 0, 0)) : jm_T Ls xs d M vs (sy_dh F X1 X2 (iv_H s)) 0 0 Q := by
  have e : sy_dh F X1 X2 (iv_H s) = sy_dh (ny F dd) X1 X2 (iv_H s) := by
    rw [dh_x F X1 X2 hs, dh_x (ny F dd) X1 X2 hs, dh_nx hs ny_lt]
  rw [e, ← hA]
  exact hd_T hok hl h
noncomputable def wg (F : Nat → sy_d) (k : Nat) : Int64 := (sy_al F 42).getD k 0
noncomputable def bg (F : Nat → sy_d) (n : Nat) : Nat → Int := ub (sy_ai F 2) n
noncomputable def wd (F : Nat → sy_d) : Prop := ∀ i j, i < 23 → j < 23 → wg F i = wg F j → i = j
theorem wg_eq {F F1 : Nat → sy_d} (h : F1 42 = F 42) : wg F1 = wg F := by funext k; unfold wg; rw [nz_fl h]
theorem bg_eq {F F1 : Nat → sy_d} (h : F1 2 = F 2) : bg F1 = bg F := by funext k; unfold bg; rw [nz_fa h]
theorem wd_eq {F F1 : Nat → sy_d} (h : F1 42 = F 42) (hw : wd F) : wd F1 := by unfold wd at hw ⊢; rw [wg_eq h]; exact hw
theorem bg_c {F0 F : Nat → sy_d} (hB : iv_in F iv_B0) (h2 : F 2 = F0 2) {z : Int} {n p : Nat} (hz : z = p) (hp : p < n) : (-128 ≤ ((sy_ai F 2).getD z.toNat 0).toInt ∧ ((sy_ai F 2).getD z.toNat 0).toInt ≤ 127) ∧ bg F0 n p = ((sy_ai F 2).getD z.toNat 0).toInt % 256 := by
  refine ⟨nz_ba hB (k := 2) (lo := -128) (hi := 127) rfl _, ?_⟩
  unfold bg
  rw [ub_i hp, nz_fa h2, hz, Int.toNat_natCast]
theorem gl_c {c : Int32} {a : Int64} (h1 : 97 ≤ c.toInt) (h2 : c.toInt ≤ 122) : gl a (c.toInt % 256) = a * 27 + (c - 97 + 1).toInt64 := by
  unfold gl
  rw [show c.toInt % 256 = c.toInt by omega, gl_i c h1 h2]
theorem t32 {w : Int64} (h0 : 0 ≤ w.toInt) (h1 : w.toInt ≤ 9999) : w.toInt32.toInt = w.toInt := by
  rw [Int64.toInt_toInt32, Int.bmod_def]
  omega
theorem sg_y {c : Int} (h : c = 40 ∨ c = 41 ∨ c = 42 ∨ c = 43 ∨ c = 45 ∨ c = 47 ∨ c = 59 ∨ c = 60 ∨ c = 61) : km c = uS (c % 256) ∧ uS (c % 256) ≠ 3 ∧ c ≠ 24 := by
  rcases h with h | h | h | h | h | h | h | h | h <;> (rw [h]; decide)
theorem sg_n {c : Int} (h : -128 ≤ c ∧ c ≤ 127) (h1 : c ≠ 40 ∧ c ≠ 41 ∧ c ≠ 42 ∧ c ≠ 43 ∧ c ≠ 45 ∧ c ≠ 47 ∧ c ≠ 59 ∧ c ≠ 60 ∧ c ≠ 61) : uS (c % 256) = 3 := by
  unfold uS
  rw [if_neg (by omega), if_neg (by omega), if_neg (by omega), if_neg (by omega), if_neg (by omega), if_neg (by omega), if_neg (by omega), if_neg (by omega), if_neg (by omega)]
/-- one token cut: the n-th, from the byte a, the text ends at e -/
noncomputable def coP (F F' : Nat → sy_d) (n a e : Nat) (x : Int) : Prop := gc [39, 41] F F' ∧ jx_ok F' ∧ x = (uN (bg F e) e a : Nat) ∧ (∀ j, j ≠ n → (sy_ai F' 39).getD j 0 = (sy_ai F 39).getD j 0 ∧ (sy_al F' 41).getD j 0 = (sy_al F 41).getD j 0) ∧ km ((sy_ai F' 39).getD n 0).toInt = uK (bg F e) e (wg F) a ∧ (uK (bg F e) e (wg F) a = 3 → ((sy_ai F' 39).getD n 0).toInt = 25) ∧ (uK (bg F e) e (wg F) a = 2 → ((sy_al F' 41).getD n 0).toInt32.toInt = uF gd (bg F e) a (uR uD (bg F e) e a - a) 0) ∧ (uK (bg F e) e (wg F) a = 1 → (sy_al F' 41).getD n 0 = uF gl (bg F e) a (uR uL (bg F e) e a - a) 0)
noncomputable def coQ (s : Nat) (X1 X2 : List jm_c) (F : Nat → sy_d) (n a e : Nat) (v : Option Value) (G : jm_h) : Prop := ∃ (x : Int32) (F' : Nat → sy_d), v = some (.int x) ∧ G = sy_dh F' X1 X2 (iv_H s) ∧ coP F F' n a e x.toInt
theorem co_mk {F F' : Nat → sy_d} {n a e : Nat} {x : Int} {k : Int32} {w : Int64} (hg : gc [39, 41] F F') (a39 : sy_ai F' 39 = jm_upd (sy_ai F 39) n k) (a41 : sy_al F' 41 = jm_updL (sy_al F 41) n w) (hJ : jx_ok F) (h24 : k.toInt = 24 → 0 ≤ w.toInt ∧ w.toInt ≤ 9999) (hx : x = (uN (bg F e) e a : Nat)) (hk : km k.toInt = uK (bg F e) e (wg F) a) (h3 : uK (bg F e) e (wg F) a = 3 → k.toInt = 25) (h2 : uK (bg F e) e (wg F) a = 2 → w.toInt32.toInt = uF gd (bg F e) a (uR uD (bg F e) e a - a) 0) (h1 : uK (bg F e) e (wg F) a = 1 → w = uF gl (bg F e) a (uR uL (bg F e) e a - a) 0) : coP F F' n a e x := by
  refine ⟨hg, fun j hv => ?_, hx, fun j hj => ?_, ?_, ?_, ?_, ?_⟩
  · rw [a39, jm_upd_at] at hv
    rw [a41, jm_updL_at]
    split at hv
    · rename_i q
      rw [if_pos q]
      exact h24 (by rw [hv]; decide)
    · rename_i q
      rw [if_neg q]
      exact hJ j hv
  · rw [a39, a41, jm_upd_at, jm_updL_at, if_neg hj, if_neg hj]
    exact ⟨rfl, rfl⟩
  · rw [a39, jm_upd_at, if_pos rfl]; exact hk
  · rw [a39, jm_upd_at, if_pos rfl]; exact h3
  · rw [a41, jm_updL_at, if_pos rfl]; exact h2
  · rw [a41, jm_updL_at, if_pos rfl]; exact h1
theorem co_mk0 {F F' : Nat → sy_d} {n a e : Nat} {x : Int} {k : Int32} (hb : iv_in F' iv_B0) (hg : ∀ j, j < 82 → j ∉ ([39] : List Nat) → F' j = F j) (a39 : sy_ai F' 39 = jm_upd (sy_ai F 39) n k) (a41 : sy_al F' 41 = sy_al F 41) (hJ : jx_ok F) (h24 : k.toInt ≠ 24) (hx : x = (uN (bg F e) e a : Nat)) (hk : km k.toInt = uK (bg F e) e (wg F) a) (h3 : uK (bg F e) e (wg F) a = 3 → k.toInt = 25) (h2 : uK (bg F e) e (wg F) a ≠ 2) (h1 : uK (bg F e) e (wg F) a ≠ 1) : coP F F' n a e x := by
  refine ⟨⟨hb, fun j hj hn => hg j hj (fun q => hn (by revert q; simp; omega))⟩, fun j hv => ?_, hx, fun j hj => ?_, ?_, ?_, fun z => absurd z h2, fun z => absurd z h1⟩
  · rw [a39, jm_upd_at] at hv
    rw [a41]
    split at hv
    · exact absurd (by rw [hv]; decide) h24
    · exact hJ j hv
  · rw [a39, a41, jm_upd_at, if_neg hj]
    exact ⟨rfl, rfl⟩
  · rw [a39, jm_upd_at, if_pos rfl]; exact hk
  · rw [a39, jm_upd_at, if_pos rfl]; exact h3
theorem coP_eq {F0 F F' : Nat → sy_d} {n a e : Nat} {x : Int} (h : coP F F' n a e x) (g : ∀ j, j < 82 → F j = F0 j) : coP F0 F' n a e x := by
  obtain ⟨h1, h2, h3, h4, h5, h6, h7, h8⟩ := h
  rw [bg_eq (g 2 (by decide)), wg_eq (g 42 (by decide))] at *
  rw [nz_fa (g 39 (by decide)), nz_fl (g 41 (by decide))] at h4
  exact ⟨h1.src g, h2, h3, h4, h5, h6, h7, h8⟩
theorem coP_dst {F F' F2 : Nat → sy_d} {n a e : Nat} {x : Int} (h : coP F F' n a e x) (g : ∀ j, j < 82 → F2 j = F' j) : coP F F2 n a e x := by
  obtain ⟨h1, h2, h3, h4, h5, h6, h7, h8⟩ := h
  unfold coP
  rw [nz_fa (g 39 (by decide)), nz_fl (g 41 (by decide))]
  exact ⟨h1.dst g, jx_ok_eq (g 39 (by decide)) (g 41 (by decide)) h2, h3, h4, h5, h6, h7, h8⟩
noncomputable def tg_ (F0 F : Nat → sy_d) (e j : Nat) : Prop := tk (bg F0 e) e (wg F0) (kg F) (pg F) (vg F) (ng F) j
noncomputable def cuQ (s : Nat) (X1 X2 : List jm_c) (F0 : Nat → sy_d) (e : Nat) (v : Option Value) (G : jm_h) : Prop := ∃ F' : Nat → sy_d, v = none ∧ G = sy_dh F' X1 X2 (iv_H s) ∧ gc [39, 40, 41] F0 F' ∧ jx_ok F' ∧ ∃ L : Nat, L ≤ 400 ∧ (∀ j, j ≤ L → tg_ F0 F' e j) ∧ (∀ j, j < L → kg F' j ≠ 0 ∧ kg F' j ≠ 3) ∧ (kg F' L = 0 ∨ kg F' L = 3 ∨ L = 400)
/-- so far: T tokens cut, the byte i; o: it is over -/
noncomputable def cJ (F0 F : Nat → sy_d) (e i T : Nat) (o : Int) : Prop := gc [39, 40, 41] F0 F ∧ jx_ok F ∧ i ≤ e ∧ (∀ j, j < T → tg_ F0 F e j) ∧ (o = 0 → (∀ j, j < T → kg F j ≠ 0 ∧ kg F j ≠ 3) ∧ uR uB (bg F0 e) e i = uP (bg F0 e) e T) ∧ (o ≠ 0 → 1 ≤ T ∧ (∀ j, j + 1 < T → kg F j ≠ 0 ∧ kg F j ≠ 3) ∧ (kg F (T - 1) = 0 ∨ kg F (T - 1) = 3))
theorem cJ_eq {F0 F F1 : Nat → sy_d} {e i T : Nat} {o : Int} (h : cJ F0 F e i T o) (hb : iv_in F1 iv_B0) (g : ∀ j, j < 82 → F1 j = F j) : cJ F0 F1 e i T o := by
  obtain ⟨h1, h2, h3, h4, h5, h6⟩ := h
  unfold cJ tg_
  rw [kg_eq (g 39 (by decide)), pg_eq (g 40 (by decide)), vg_eq (g 41 (by decide)), ng_eq (g 41 (by decide))]
  exact ⟨⟨hb, fun j hj hn => (g j hj).trans (h1.2 j hj hn)⟩, jx_ok_eq (g 39 (by decide)) (g 41 (by decide)) h2, h3, h4, h5, h6⟩
/-- a token more -/
theorem cJ_push {F0 F F1 F2 : Nat → sy_d} {e i T : Nat} {x : Int} (h : cJ F0 F e i T 0) (hi : uP (bg F0 e) e T = i) (hb : iv_in F1 iv_B0) (g : ∀ j, j < 82 → j ∉ ([40] : List Nat) → F1 j = F j) {p : Int32} (a40 : sy_ai F1 40 = jm_upd (sy_ai F 40) T p) (hp : p.toInt = i) (hc : coP F1 F2 T i e x) : x = (uN (bg F0 e) e i : Nat) ∧ gc [39, 40, 41] F0 F2 ∧ jx_ok F2 ∧ uN (bg F0 e) e i ≤ e ∧ (∀ j, j < T + 1 → tg_ F0 F2 e j) ∧ (∀ j, j < T → kg F2 j ≠ 0 ∧ kg F2 j ≠ 3) ∧ (kg F2 T = 3 → ((sy_ai F2 39).getD T 0).toInt = 25) := by
  obtain ⟨h1, h2, h3, h4, h5, h6⟩ := h
  obtain ⟨c1, c2, c3, c4, c5, c6, c7, c8⟩ := hc
  have eb : bg F1 = bg F0 := bg_eq ((g 2 (by decide) (by decide)).trans (h1.2 2 (by decide) (by decide)))
  have ew : wg F1 = wg F0 := wg_eq ((g 42 (by decide) (by decide)).trans (h1.2 42 (by decide) (by decide)))
  rw [eb] at c3 c5 c6 c7 c8
  rw [ew] at c5 c6 c7 c8
  have e39 : sy_ai F1 39 = sy_ai F 39 := nz_fa (g 39 (by decide) (by decide))
  have e41 : sy_al F1 41 = sy_al F 41 := nz_fl (g 41 (by decide) (by decide))
  rw [e39, e41] at c4
  have e40 : sy_ai F2 40 = jm_upd (sy_ai F 40) T p := (nz_fa (c1.2 40 (by decide) (by decide))).trans a40
  have k0 : ∀ j, j ≠ T → kg F2 j = kg F j := fun j hj => by unfold kg; rw [(c4 j hj).1]
  have v0 : ∀ j, j ≠ T → vg F2 j = vg F j := fun j hj => by unfold vg; rw [(c4 j hj).2]
  have n0 : ∀ j, j ≠ T → ng F2 j = ng F j := fun j hj => by unfold ng; rw [(c4 j hj).2]
  have p0 : ∀ j, pg F2 j = if j = T then p.toInt else pg F j := fun j => by unfold pg; rw [e40, jm_upd_at]; split <;> rfl
  have hg2 : gc [39, 40, 41] F0 F2 := (h1.trans (W1 := [40]) ⟨hb, g⟩ (by decide)).trans c1 (by decide)
  refine ⟨c3, hg2, c2, uN_le h3, fun j hj => ?_, fun j hj => ?_, fun z => ?_⟩
  · by_cases q : j = T
    · subst q
      unfold tg_ tk
      rw [p0, if_pos rfl, hi]
      refine ⟨hp, c5, fun z => c7 (c5 ▸ z), fun z => c8 (c5 ▸ z)⟩
    · have := h4 j (by omega)
      unfold tg_ tk at this ⊢
      rw [p0, if_neg q, k0 j q, v0 j q, n0 j q]
      exact this
  · rw [k0 j (by omega)]
    exact (h5 rfl).1 j hj
  · exact c6 (c5 ▸ z)
