/-! ===== the class parses a text: what it has then ===== -/
theorem nbC_dst {own r : Nat} {F0 F F2 : Nat → sy_d} (h : nbC own r F0 F) (e : ∀ q, q < 82 → F2 q = F q) (h1 : own < 82) (h2 : r + 2 < 82) : nbC own r F0 F2 := by
  unfold nbC at h ⊢
  rw [tg_eq (nz_fi (e 33 (by decide))), nz_fi (e own h1), nz_fa (e r (by omega)), nz_fa (e (r + 1) (by omega)), nz_fa (e (r + 2) h2)]
  exact h
theorem stC_dst {s : Nat} {a : Int} {F0 F F2 : Nat → sy_d} (h : stC s a F0 F) (e : ∀ q, q < 82 → F2 q = F q) (h1 : s + 2 < 82) : stC s a F0 F2 := by
  unfold stC at h ⊢
  rw [tg_eq (nz_fi (e 33 (by decide))), nz_fi (e s (by omega)), nz_fi (e (s + 1) (by omega)), nz_fi (e (s + 2) h1)]
  exact h
/-- faults of syntax and room have numbers -/
def okE {A : Type} (r : sE ⊕ A) : Prop := ∀ e, r = .inl e → e.1 ≠ 0
theorem okE_r {A : Type} {a : A} : okE (.inr a : sE ⊕ A) := fun e h => by cases h
theorem okE_l {A : Type} {k : Int} {t : Nat} (h : k ≠ 0) : okE (.inl (k, t) : sE ⊕ A) := fun e he => by
  have := Sum.inl.inj he
  rw [← this]
  exact h
theorem okE_B {A B : Type} {r : sE ⊕ A} {f : A → sE ⊕ B} (h : okE r) (hf : ∀ a, okE (f a)) : okE (sB r f) := by
  cases r with
  | inl e => exact fun e' h' => by rw [← Sum.inl.inj h']; exact h e rfl
  | inr a => exact hf a
theorem okE_if {A : Type} {c : Prop} [Decidable c] {r s : sE ⊕ A} (h : okE r) (h2 : okE s) : okE (if c then r else s) := by
  by_cases q : c
  · rw [if_pos q]; exact h
  · rw [if_neg q]; exact h2
theorem okE_G (t : Nat) : okE (sG t) := okE_if (okE_l (by decide)) okE_r
theorem okE_M (K : Nat → Int) (k : Int) (t : Nat) : okE (sM K k t) := okE_if (okE_G t) (okE_l (by decide))
theorem okE_eM (K : Nat → Int) : ∀ (n t d m : Nat), okE (eM K n t d m)
  | 0, t, d, m => okE_r
  | n + 1, t, d, m => by
    unfold eM
    repeat' (first | exact okE_r | exact okE_l (by decide) | exact okE_eM K n _ _ _ | apply okE_if)
theorem okE_ifs (K : Nat → Int) : ∀ (n t : Nat), okE (sIfs K n t)
  | 0, t => okE_if (okE_l (by decide)) okE_r
  | n + 1, t => okE_if (okE_B (okE_B (okE_G _) (fun _ => okE_B (okE_eM K _ _ _ _) (fun _ => okE_B (okE_M K _ _) (fun _ => okE_B (okE_eM K _ _ _ _) (fun _ => okE_B (okE_M K _ _) (fun _ => okE_B (okE_eM K _ _ _ _) (fun _ => okE_M K _ _))))))) (fun _ => okE_ifs K n _)) okE_r
theorem okE_N (K V : Nat → Int) (lo hi : Int) (q : Nat × sE) : okE (sN K V lo hi q) := okE_B (okE_M K _ _) (fun _ => okE_r)
theorem okE_One (K V : Nat → Int) (N : Nat → Int64) (x : sT) : okE (sOne K V N x) := by
  have hT : ∀ a b c q, okE (sTell K V N a b c q) := fun a b c q => okE_B (okE_B (okE_M K _ _) (fun _ => okE_r)) (fun _ => okE_B (okE_N K V _ _ _) (fun _ => okE_B (okE_N K V _ _ _) (fun _ => okE_B (okE_N K V _ _ _) (fun _ => okE_B (okE_M K _ _) (fun _ => okE_r)))))
  have hS : ∀ hi, okE (sSet K V hi x) := fun hi => okE_B (okE_B (okE_G _) (fun _ => okE_B (okE_N K V _ _ _) (fun _ => okE_B (okE_M K _ _) (fun _ => okE_r)))) (fun _ => okE_r)
  refine okE_if (okE_if (okE_l (by decide)) (okE_B (okE_G _) (fun _ => okE_B (hT _ _ _ _) (fun _ => okE_r)))) (okE_if (okE_if (okE_l (by decide)) (okE_B (okE_G _) (fun _ => okE_B (hT _ _ _ _) (fun _ => okE_r)))) (okE_if (hS _) (okE_if (hS _) (okE_if ?_ (okE_l (by decide))))))
  exact okE_B (okE_G _) (fun _ => okE_B (okE_B (okE_M K _ _) (fun _ => okE_B (okE_ifs K _ _) (fun _ => okE_B (okE_eM K _ _ _ _) (fun _ => okE_M K _ _)))) (fun _ => okE_r))
theorem okE_Run (K V : Nat → Int) (N : Nat → Int64) : ∀ (n : Nat) (x : sT) (T : tX), okE (zRun K V N n x T)
  | 0, x, T => okE_r
  | n + 1, x, T => okE_if okE_r (okE_B (okE_One K V N x) (fun _ => okE_Run K V N n _ _))
theorem rX_0 {b : Nat} {F : Nat → sy_d} {c d : List Int32} (h0 : (sy_i F b).toInt = 0) (h1 : (sy_i F (b + 1)).toInt = 0) (h2 : (sy_i F (b + 2)).toInt = 10) (h3 : (sy_i F (b + 3)).toInt = 6) (h4 : (sy_i F (b + 4)).toInt = 0) (h5 : (sy_i F (b + 5)).toInt = 12)
    (hs : sy_ai F (b + 13) = jm_upd (jm_upd (jm_upd (jm_upd (jm_upd (jm_upd c (0 : Int).toNat ((0 : Int32))) (1 : Int).toNat ((2 : Int32))) (2 : Int).toNat ((4 : Int32))) (3 : Int).toNat ((6 : Int32))) (4 : Int).toNat ((8 : Int32))) (5 : Int).toNat ((10 : Int32)))
    (hc : sy_ai F (b + 14) = jm_upd (jm_upd (jm_upd (jm_upd (jm_upd (jm_upd (jm_upd (jm_upd (jm_upd (jm_upd (jm_upd (jm_upd d (0 : Int).toNat ((0 : Int32))) (1 : Int).toNat (((-14) : Int32))) (2 : Int).toNat ((1 : Int32))) (3 : Int).toNat (((-14) : Int32))) (4 : Int).toNat (((-1) : Int32))) (5 : Int).toNat (((-14) : Int32))) (6 : Int).toNat (((-1) : Int32))) (7 : Int).toNat (((-14) : Int32))) (8 : Int).toNat ((0 : Int32))) (9 : Int).toNat (((-14) : Int32))) (10 : Int).toNat ((0 : Int32))) (11 : Int).toNat (((-14) : Int32))) : rXc b T0 F := by
  refine ⟨⟨h0, fun i v hv => by simp [T0] at hv⟩, ⟨h1, fun i v hv => by simp [T0] at hv⟩, h2, h3, h4, fun k hk => ?_⟩
  show rLc b F k (pb k)
  unfold rLc
  have hk' : k = 0 ∨ k = 1 ∨ k = 2 ∨ k = 3 ∨ k = 4 ∨ k = 5 := by omega
  have key : ∀ (s : Nat) (x y : Int32), ix F (b + 13) k = s → s + 2 ≤ 12 → (sy_ai F (b + 14)).getD s 0 = x → (sy_ai F (b + 14)).getD (s + 1) 0 = y → lcs k s (pb k) = [x.toInt, y.toInt] → 0 ≤ ix F (b + 13) k ∧ ix F (b + 13) k + (lcs k (ix F (b + 13) k).toNat (pb k)).length ≤ (sy_i F (b + 5)).toInt ∧ clc (sy_ai F (b + 14)) (ix F (b + 13) k).toNat (lcs k (ix F (b + 13) k).toNat (pb k)).length = lcs k (ix F (b + 13) k).toNat (pb k) := by
    intro s x y e1 e2 e3 e4 e5
    rw [e1, show ((s : Int)).toNat = s by omega, e5, h5]
    refine ⟨by omega, by show (s : Int) + 2 ≤ 12; omega, ?_⟩
    show [((sy_ai F (b + 14)).getD s 0).toInt] ++ [((sy_ai F (b + 14)).getD (s + 1) 0).toInt] = _
    rw [e3, e4]
    rfl
  rcases hk' with h | h | h | h | h | h <;> subst h
  · exact key 0 0 (-14) (by unfold ix; rw [hs]; rw [jm_upd_at, if_neg (by decide)]; rw [jm_upd_at, if_neg (by decide)]; rw [jm_upd_at, if_neg (by decide)]; rw [jm_upd_at, if_neg (by decide)]; rw [jm_upd_at, if_neg (by decide)]; rw [jm_upd_at, if_pos (by decide)]; decide) (by decide) (by rw [hc]; rw [jm_upd_at, if_neg (by decide)]; rw [jm_upd_at, if_neg (by decide)]; rw [jm_upd_at, if_neg (by decide)]; rw [jm_upd_at, if_neg (by decide)]; rw [jm_upd_at, if_neg (by decide)]; rw [jm_upd_at, if_neg (by decide)]; rw [jm_upd_at, if_neg (by decide)]; rw [jm_upd_at, if_neg (by decide)]; rw [jm_upd_at, if_neg (by decide)]; rw [jm_upd_at, if_neg (by decide)]; rw [jm_upd_at, if_neg (by decide)]; rw [jm_upd_at, if_pos (by decide)]) (by rw [hc]; rw [jm_upd_at, if_neg (by decide)]; rw [jm_upd_at, if_neg (by decide)]; rw [jm_upd_at, if_neg (by decide)]; rw [jm_upd_at, if_neg (by decide)]; rw [jm_upd_at, if_neg (by decide)]; rw [jm_upd_at, if_neg (by decide)]; rw [jm_upd_at, if_neg (by decide)]; rw [jm_upd_at, if_neg (by decide)]; rw [jm_upd_at, if_neg (by decide)]; rw [jm_upd_at, if_neg (by decide)]; rw [jm_upd_at, if_pos (by decide)]) (by decide)
  · exact key 2 1 (-14) (by unfold ix; rw [hs]; rw [jm_upd_at, if_neg (by decide)]; rw [jm_upd_at, if_neg (by decide)]; rw [jm_upd_at, if_neg (by decide)]; rw [jm_upd_at, if_neg (by decide)]; rw [jm_upd_at, if_pos (by decide)]; decide) (by decide) (by rw [hc]; rw [jm_upd_at, if_neg (by decide)]; rw [jm_upd_at, if_neg (by decide)]; rw [jm_upd_at, if_neg (by decide)]; rw [jm_upd_at, if_neg (by decide)]; rw [jm_upd_at, if_neg (by decide)]; rw [jm_upd_at, if_neg (by decide)]; rw [jm_upd_at, if_neg (by decide)]; rw [jm_upd_at, if_neg (by decide)]; rw [jm_upd_at, if_neg (by decide)]; rw [jm_upd_at, if_pos (by decide)]) (by rw [hc]; rw [jm_upd_at, if_neg (by decide)]; rw [jm_upd_at, if_neg (by decide)]; rw [jm_upd_at, if_neg (by decide)]; rw [jm_upd_at, if_neg (by decide)]; rw [jm_upd_at, if_neg (by decide)]; rw [jm_upd_at, if_neg (by decide)]; rw [jm_upd_at, if_neg (by decide)]; rw [jm_upd_at, if_neg (by decide)]; rw [jm_upd_at, if_pos (by decide)]) (by decide)
  · exact key 4 (-1) (-14) (by unfold ix; rw [hs]; rw [jm_upd_at, if_neg (by decide)]; rw [jm_upd_at, if_neg (by decide)]; rw [jm_upd_at, if_neg (by decide)]; rw [jm_upd_at, if_pos (by decide)]; decide) (by decide) (by rw [hc]; rw [jm_upd_at, if_neg (by decide)]; rw [jm_upd_at, if_neg (by decide)]; rw [jm_upd_at, if_neg (by decide)]; rw [jm_upd_at, if_neg (by decide)]; rw [jm_upd_at, if_neg (by decide)]; rw [jm_upd_at, if_neg (by decide)]; rw [jm_upd_at, if_neg (by decide)]; rw [jm_upd_at, if_pos (by decide)]) (by rw [hc]; rw [jm_upd_at, if_neg (by decide)]; rw [jm_upd_at, if_neg (by decide)]; rw [jm_upd_at, if_neg (by decide)]; rw [jm_upd_at, if_neg (by decide)]; rw [jm_upd_at, if_neg (by decide)]; rw [jm_upd_at, if_neg (by decide)]; rw [jm_upd_at, if_pos (by decide)]) (by decide)
  · exact key 6 (-1) (-14) (by unfold ix; rw [hs]; rw [jm_upd_at, if_neg (by decide)]; rw [jm_upd_at, if_neg (by decide)]; rw [jm_upd_at, if_pos (by decide)]; decide) (by decide) (by rw [hc]; rw [jm_upd_at, if_neg (by decide)]; rw [jm_upd_at, if_neg (by decide)]; rw [jm_upd_at, if_neg (by decide)]; rw [jm_upd_at, if_neg (by decide)]; rw [jm_upd_at, if_neg (by decide)]; rw [jm_upd_at, if_pos (by decide)]) (by rw [hc]; rw [jm_upd_at, if_neg (by decide)]; rw [jm_upd_at, if_neg (by decide)]; rw [jm_upd_at, if_neg (by decide)]; rw [jm_upd_at, if_neg (by decide)]; rw [jm_upd_at, if_pos (by decide)]) (by decide)
  · exact key 8 0 (-14) (by unfold ix; rw [hs]; rw [jm_upd_at, if_neg (by decide)]; rw [jm_upd_at, if_pos (by decide)]; decide) (by decide) (by rw [hc]; rw [jm_upd_at, if_neg (by decide)]; rw [jm_upd_at, if_neg (by decide)]; rw [jm_upd_at, if_neg (by decide)]; rw [jm_upd_at, if_pos (by decide)]) (by rw [hc]; rw [jm_upd_at, if_neg (by decide)]; rw [jm_upd_at, if_neg (by decide)]; rw [jm_upd_at, if_pos (by decide)]) (by decide)
  · exact key 10 0 (-14) (by unfold ix; rw [hs]; rw [jm_upd_at, if_pos (by decide)]; decide) (by decide) (by rw [hc]; rw [jm_upd_at, if_neg (by decide)]; rw [jm_upd_at, if_pos (by decide)]) (by rw [hc]; rw [jm_upd_at, if_pos (by decide)]) (by decide)
section PZk0
variable {Ls : Nat} {xs : Nat → Int32} (X1 X2 : List jm_c) (F0 : Nat → sy_d) (RR : sE ⊕ (sT × tX))
theorem k0zq_e (hEr : ∀ e, RR = .inl e → e.1 ≠ 0) (F : Nat → sy_d) (g0 : gc k0_WP F0 F) (n : Int) (hI : rrZ (kg F0) (vg F0) (ng F0) (pg F0) 18 RR (sy_i F 82).toInt n F) (hend : (sy_i F 82).toInt ≠ 0 → ∀ x T, rcl (pg F0) 18 19 x F → zRun (kg F0) (vg F0) (ng F0) (401 - n).toNat x T = .inr (x, T)) :
    hd_W Ls xs 28 jm_M31 (fun v G => ∃ (x : Int32) (F' : Nat → sy_d), v = some (.int x) ∧ G = sy_dh F' X1 X2 (iv_H 0) ∧ gc (35 :: k0_WP) F0 F' ∧ x.toInt = (sEnd (pg F0) (prT RR)).1 ∧ (sy_i F' 35).toInt = (sEnd (pg F0) (prT RR)).2 ∧ (x.toInt = 0 → rXc 18 (cnT RR) F' ∧ (sy_i F' 23).toInt ≤ 412)) (189, sy_dL F [some (.inl (.ref 30)), none, none, none, some (.inr (.inl 82)), none, none], sy_dS F [], sy_dh F X1 X2 (iv_H 0), 0, 0) := by
  refine k0pq_189 (by decide) F X1 X2 g0.1 ?_ ?_
  · intro q _ _ _ F4 hb g e33 e34 e35 e36 e37 e38 eFR eBU a39 a40
    have h := hI.2 q
    refine ⟨_, F4, rfl, rfl, (g0.mono (by decide)).trans (gc_mk (W := 35 :: k0_WP) hb g (by decide)) (fun _ q => q), ?_, ?_, fun zz => absurd zz ?_⟩
    rotate_left
    rotate_left
    · exact hEr _ h
    · rw [h]
      rfl
    · rw [h, e35]
      show _ = pg F0 (tg F)
      rw [← pg_eq (g0.2 40 (by decide) (by decide))]
      rfl
  · intro q _ F4 hb g e33 e34 e35 e36 e37 e38 eFR eBU a39 a40
    obtain ⟨x, T, h1, h2, hT, hcs⟩ := hI.1 q
    rw [hend q x T h1] at h2
    obtain ⟨w1, w2, w3, w4⟩ := h1.2.2.2.2.1
    refine ⟨_, F4, rfl, rfl, (g0.mono (by decide)).trans (gc_mk (W := 35 :: k0_WP) hb g (by decide)) (fun _ q => q), ?_, ?_, fun _ => ⟨by rw [h2]; exact rXc_eq hT (fun j j1 j2 => g j (by omega) (by intro z; simp at z <;> omega)), by rw [nz_fi (g 23 (by decide) (by decide))]; have hcs : (sy_i F 23).toInt ≤ 12 + (tg F : Int) := hcs; have c33 := nz_bx g0.1 (k := 33) (lo := 0) (hi := 400) rfl; have ht : (tg F : Int) = (sy_i F 33).toInt := (by unfold tg; omega); omega⟩⟩
    · rw [h2]
      show _ = (if x.2.2.2.2.1 = 0 then (0, -1) else (x.2.2.2.2.1, pg F0 x.2.2.2.2.2) : Int × Int).1
      split <;> (show _ = _; omega)
    · rw [h2]
      show _ = (if x.2.2.2.2.1 = 0 then (0, -1) else (x.2.2.2.2.1, pg F0 x.2.2.2.2.2) : Int × Int).2
      by_cases z : x.2.2.2.2.1 = 0
      · rw [if_pos z, e35, w4 z]
      · rw [if_neg z, e35, w3 z]
theorem k0zq_l (hEr : ∀ e, RR = .inl e → e.1 ≠ 0) : ∀ (m : Nat) (F : Nat → sy_d), gc k0_WP F0 F → jx_ok F0 → 0 ≤ (sy_i F 83).toInt → (sy_i F 83).toInt ≤ 401 → 401 - (sy_i F 83).toInt ≤ m → rrZ (kg F0) (vg F0) (ng F0) (pg F0) 18 RR (sy_i F 82).toInt (sy_i F 83).toInt F →
    hd_W Ls xs 28 jm_M31 (fun v G => ∃ (x : Int32) (F' : Nat → sy_d), v = some (.int x) ∧ G = sy_dh F' X1 X2 (iv_H 0) ∧ gc (35 :: k0_WP) F0 F' ∧ x.toInt = (sEnd (pg F0) (prT RR)).1 ∧ (sy_i F' 35).toInt = (sEnd (pg F0) (prT RR)).2 ∧ (x.toInt = 0 → rXc 18 (cnT RR) F' ∧ (sy_i F' 23).toInt ≤ 412)) (52, sy_dL F [some (.inl (.ref 30)), none, none, none, some (.inr (.inl 82)), some (.inr (.inl 83)), none], sy_dS F [], sy_dh F X1 X2 (iv_H 0), 0, 0)
  | m, F, g0, hJ, h83, h84, hm, hI => by
    have eK : kg F = kg F0 := kg_eq (g0.2 39 (by decide) (by decide))
    have eV : vg F = vg F0 := vg_eq (g0.2 41 (by decide) (by decide))
    have eN : ng F = ng F0 := ng_eq (g0.2 41 (by decide) (by decide))
    have eP : pg F = pg F0 := pg_eq (g0.2 40 (by decide) (by decide))
    have hJF : jx_ok F := jx_ok_eq (g0.2 39 (by decide) (by decide)) (g0.2 41 (by decide) (by decide)) hJ
    have hkF : kg F0 (tg F) = km ((sy_ai F 39).getD (sy_i F 33).toInt.toNat 0).toInt := by rw [← eK]; rfl
    refine k0pq_52 (by decide) F X1 X2 g0.1 ⟨h83, h84⟩ ?_ ?_ ?_ ?_ ?_ ?_ ?_ ?_ ?_
    · intro q F1 hb g e33 e34 e35 e36 e37 e38 eFR eBU a39 a40 e82
      refine k0zq_e X1 X2 F0 RR hEr F1 (g0.trans (gc_mk (W := k0_WP) hb g (by decide)) (fun _ q => q)) (sy_i F 83).toInt (rrZ_eq hI e82 rfl e33 e34 e36 e37 e38 (g 43 (by decide) (by decide)) (fun j j1 j2 => g j (by omega) (by intro z; simp at z <;> omega))) (fun _ x T _ => ?_)
      rw [show (401 - (sy_i F 83).toInt).toNat = 0 by omega]
      rfl
    · intro q z F1 hb g e33 e34 e35 e36 e37 e38 eFR eBU a39 a40 e82
      exact k0zq_e X1 X2 F0 RR hEr F1 (g0.trans (gc_mk (W := k0_WP) hb g (by decide)) (fun _ q => q)) (sy_i F 83).toInt (rrZ_eq hI e82 rfl e33 e34 e36 e37 e38 (g 43 (by decide) (by decide)) (fun j j1 j2 => g j (by omega) (by intro z; simp at z <;> omega))) (fun y => absurd (e82.trans z) y)
    · intro q z _ _ hk F1 hb g e33 e34 e35 e36 e37 e38 eFR eBU a39 a40 e82
      refine k0zq_e X1 X2 F0 RR hEr F1 (g0.trans (gc_mk (W := k0_WP) hb g (by decide)) (fun _ q => q)) (sy_i F 83).toInt (rrZ_eq hI e82 rfl e33 e34 e36 e37 e38 (g 43 (by decide) (by decide)) (fun j j1 j2 => g j (by omega) (by intro z; simp at z <;> omega))) (fun _ x T hx => ?_)
      rw [show (401 - (sy_i F 83).toInt).toNat = (400 - (sy_i F 83).toInt).toNat + 1 by omega]
      show (if kg F0 x.1 = 0 then _ else _) = _
      rw [if_pos (by rw [← hx.1, tg_eq e33, hkF, hk]; decide)]
    · intro q z _ _ nk _ _ q0 q1 q2 q3 F1 hb g e33 e34 e35 e36 e37 e38 eFR eBU a39 a40 e82 e83
      obtain ⟨m, rfl⟩ : ∃ m', m = m' + 1 := ⟨m - 1, by omega⟩
      refine k0zq_l hEr m F1 (g0.trans (gc_mk (W := k0_WP) hb g (by decide)) (fun _ q => q)) hJ (by omega) (by omega) (by omega) ⟨fun y => absurd e82 y, fun _ => ?_⟩
      obtain ⟨x, T, h1, h2, hT, hcs⟩ := hI.1 z
      rw [h2, show (401 - (sy_i F 83).toInt).toNat = (400 - (sy_i F 83).toInt).toNat + 1 by omega, e34, tg_eq e33]
      show (if kg F0 x.1 = 0 then _ else _) = _
      obtain ⟨c, hc⟩ : ∃ c, c = ((sy_ai F 39).getD (sy_i F 33).toInt.toNat 0).toInt := ⟨_, rfl⟩
      rw [← hc] at hkF nk q0 q1 q2 q3
      have j0 : ¬ km c = 0 := fun y => by have := km_0.mp y; omega
      have j1 : sOne (kg F0) (vg F0) (ng F0) x = .inl (1, x.1) := by
        unfold sOne
        rw [← h1.1, hkF, if_neg (fun y => by have := (km_w (by decide) (by decide)).mp y; omega), if_neg (fun y => by have := (km_w (by decide) (by decide)).mp y; omega), if_neg (fun y => by rcases y with y | y <;> (have := (km_w (by decide) (by decide)).mp y; omega)), if_neg (fun y => by have := (km_w (by decide) (by decide)).mp y; omega), if_neg (fun y => by
          have := (km_w (c := c) (k := km c) (by omega) (by omega)).mp rfl
          omega)]
      rw [if_neg (by rw [← h1.1, hkF]; exact j0), j1, h1.1]
      rfl
    · intro q z _ _ nk _ _ q0 q1 q2 q3 q4 q5 F1 hb g e33 e34 e35 e36 e37 e38 eFR eBU a39 a40 e82 e83
      obtain ⟨m, rfl⟩ : ∃ m', m = m' + 1 := ⟨m - 1, by omega⟩
      refine k0zq_l hEr m F1 (g0.trans (gc_mk (W := k0_WP) hb g (by decide)) (fun _ q => q)) hJ (by omega) (by omega) (by omega) ⟨fun y => absurd e82 y, fun _ => ?_⟩
      obtain ⟨x, T, h1, h2, hT, hcs⟩ := hI.1 z
      rw [h2, show (401 - (sy_i F 83).toInt).toNat = (400 - (sy_i F 83).toInt).toNat + 1 by omega, e34, tg_eq e33]
      show (if kg F0 x.1 = 0 then _ else _) = _
      obtain ⟨c, hc⟩ : ∃ c, c = ((sy_ai F 39).getD (sy_i F 33).toInt.toNat 0).toInt := ⟨_, rfl⟩
      rw [← hc] at hkF nk q0 q1 q2 q3 q4 q5
      have j0 : ¬ km c = 0 := fun y => by have := km_0.mp y; omega
      have j1 : sOne (kg F0) (vg F0) (ng F0) x = .inl (1, x.1) := by
        unfold sOne
        rw [← h1.1, hkF, if_neg (fun y => by have := (km_w (by decide) (by decide)).mp y; omega), if_neg (fun y => by have := (km_w (by decide) (by decide)).mp y; omega), if_neg (fun y => by rcases y with y | y <;> (have := (km_w (by decide) (by decide)).mp y; omega)), if_neg (fun y => by have := (km_w (by decide) (by decide)).mp y; omega), if_neg (fun y => by
          have := (km_w (c := c) (k := km c) (by omega) (by omega)).mp rfl
          omega)]
      rw [if_neg (by rw [← h1.1, hkF]; exact j0), j1, h1.1]
      rfl
    · intro q z _ _ nk _ _ q0 q1 q2 q3 q4 q5 F1 hb g e33 e34 e35 e36 e37 e38 eFR eBU a39 a40 e82 e83
      obtain ⟨m, rfl⟩ : ∃ m', m = m' + 1 := ⟨m - 1, by omega⟩
      obtain ⟨x, T, h1, h2, hT, hcs⟩ := hI.1 z
      obtain ⟨c, hc⟩ : ∃ c, c = ((sy_ai F 39).getD (sy_i F 33).toInt.toNat 0).toInt := ⟨_, rfl⟩
      rw [← hc] at hkF nk q0 q1 q2 q3 q4 q5 e83
      have g1 : gc k0_WP F0 F1 := g0.trans (gc_mk (W := k0_WP) hb g (by decide)) (fun _ q => q)
      have eK1 : kg F1 = kg F0 := kg_eq (g1.2 39 (by decide) (by decide))
      have eV1 : vg F1 = vg F0 := vg_eq (g1.2 41 (by decide) (by decide))
      have eN1 : ng F1 = ng F0 := ng_eq (g1.2 41 (by decide) (by decide))
      have eP1 : pg F1 = pg F0 := pg_eq (g1.2 40 (by decide) (by decide))
      have hx1 : rcl (pg F0) 18 19 x F1 := rcl_eq h1 e33 e36 e37 e38 eFR eBU (g 43 (by decide) (by decide))
      have hk1 : kg F1 (tg F1) = km c := by rw [eK1, tg_eq e33]; exact hkF
      have hT1 : rXc 18 T F1 := rXc_eq hT (fun j j1 j2 => g j (by omega) (by intro z; simp at z <;> omega))
      have hcs1 : (sy_i F1 23).toInt ≤ 12 + tg F1 := by rw [nz_fi (g 23 (by decide) (by decide)), tg_eq e33]; exact hcs
      have hkx : kg F0 x.1 = km c := by rw [← h1.1]; exact hkF
      have hk0 : kg F0 x.1 ≠ 0 := by
        rw [hkx]
        exact fun y => by have := km_0.mp y; omega
      have hone : sOne (kg F0) (vg F0) (ng F0) x = sSet (kg F0) (vg F0) (sHi c) x := by
        unfold sOne
        rw [hkx, km_r (by omega) (by omega), if_neg (by omega), if_neg (by omega)]
        unfold sHi
        by_cases z : c = 10
        · rw [if_neg (by omega), if_pos (by omega), if_pos z]
        · rw [if_pos (by omega), if_neg z]
      refine hd_calI (R := fun y F' => gc k0pg_W F1 F' ∧ ac (sSet (kg F1) (vg F1) (sHi (sy_i F1 83).toInt) x) (rcl (pg F1) 18 19) y F' ∧ (y = 1 → stC 20 (sy_i F1 83).toInt F1 F')) (nh := 82) (nv := 84) (s := 0) (s1 := 0) (d1 := 5) (M1 := jm_M35) (As := [.inl (.ref 30), .inr (.inl 83)]) (rest := []) jm_ok31 rfl rfl (by decide) (by decide +kernel) (k0vg_T X1 X2 F1 hb (sy_i F1 83) (by omega) (by rw [hk1, e83]) x (by rw [eP1]; exact hx1)) (fun F3 F' y hR p1 p2 p3 => ?_)
      obtain ⟨r1, r2, r3⟩ := hR
      rw [eK1, eV1, eP1, e83, ← hone] at r2
      have r1 := r1.dst p1
      have r2 : ac (sOne (kg F0) (vg F0) (ng F0) x) (rcl (pg F0) 18 19) y F3 := ac_sub r2 p1 (fun a h => rcl_eq h (nz_fi (p1 33 (by decide))) (nz_fi (p1 36 (by decide))) (nz_fi (p1 37 (by decide))) (nz_fi (p1 38 (by decide))) (nz_fi (p1 18 (by decide))) (nz_fi (p1 19 (by decide))) (p1 43 (by decide)))
      have g3 : gc k0_WP F0 F3 := g1.trans r1 (by decide)
      have hy : sy_i F3 84 = y := zz_i p3
      have k82 := nz_fi (p2 82 (by decide) (by decide))
      have hI3 := rrZ_on (b := 18) (n := (sy_i F 83).toInt) (by omega) (by omega) hk0 h2 r2 (fun zy => by
        have zn := stC_dst (r3 zy) p1 (by decide)
        have zc := rXc_st (b := 18) (a := (sy_i F1 83).toInt) (by omega) (by rw [hk1, e83, km_r (by omega) (by omega)]) hT1 zn (fun j j1 j2 j3 => r1.2 j (by omega) (by intro z; simp [k0pg_W] at z; omega))
        rw [eK1, eV1, hx1.1] at zc
        exact ⟨zc, by have z1 := zn.1; rw [r1.i (k := 23) (by decide) (by decide)]; omega⟩)
      refine k0pq_171 (by decide) F3 X1 X2 g3.1 (by omega) ?_
      intro F4 hb g d33 d34 d35 d36 d37 d38 dFR dBU b39 b40 d82 d83
      exact k0zq_l hEr m F4 (g3.trans (gc_mk (W := k0_WP) hb g (by decide)) (fun _ q => q)) hJ (by omega) (by omega) (by omega) (rrZ_eq hI3 (by rw [d82, hy]) (by omega) d33 d34 d36 d37 d38 (g 43 (by decide) (by decide)) (fun j j1 j2 => g j (by omega) (by intro z; simp at z <;> omega)))
    · intro q z _ _ nk _ _ q0 q1 q2 q3 F1 hb g e33 e34 e35 e36 e37 e38 eFR eBU a39 a40 e82 e83 e84
      obtain ⟨m, rfl⟩ : ∃ m', m = m' + 1 := ⟨m - 1, by omega⟩
      obtain ⟨x, T, h1, h2, hT, hcs⟩ := hI.1 z
      obtain ⟨c, hc⟩ : ∃ c, c = ((sy_ai F 39).getD (sy_i F 33).toInt.toNat 0).toInt := ⟨_, rfl⟩
      rw [← hc] at hkF nk q0 q1 q2 q3 e83 e84
      have g1 : gc k0_WP F0 F1 := g0.trans (gc_mk (W := k0_WP) hb g (by decide)) (fun _ q => q)
      have eK1 : kg F1 = kg F0 := kg_eq (g1.2 39 (by decide) (by decide))
      have eV1 : vg F1 = vg F0 := vg_eq (g1.2 41 (by decide) (by decide))
      have eN1 : ng F1 = ng F0 := ng_eq (g1.2 41 (by decide) (by decide))
      have eP1 : pg F1 = pg F0 := pg_eq (g1.2 40 (by decide) (by decide))
      have hx1 : rcl (pg F0) 18 19 x F1 := rcl_eq h1 e33 e36 e37 e38 eFR eBU (g 43 (by decide) (by decide))
      have hk1 : kg F1 (tg F1) = km c := by rw [eK1, tg_eq e33]; exact hkF
      have hT1 : rXc 18 T F1 := rXc_eq hT (fun j j1 j2 => g j (by omega) (by intro z; simp at z <;> omega))
      have hcs1 : (sy_i F1 23).toInt ≤ 12 + tg F1 := by rw [nz_fi (g 23 (by decide) (by decide)), tg_eq e33]; exact hcs
      have hkx : kg F0 x.1 = km c := by rw [← h1.1]; exact hkF
      have hk0 : kg F0 x.1 ≠ 0 := by
        rw [hkx]
        exact fun y => by have := km_0.mp y; omega
      have hone : sOne (kg F0) (vg F0) (ng F0) x = sB (plr (kg F0) x.1) (fun t => .inr (t, x.2)) := by
        unfold sOne
        rw [hkx, km_r (by omega) (by omega), if_neg (by omega), if_neg (by omega), if_neg (by omega), if_neg (by omega), if_pos (by omega)]
        exact plr_eq x
      refine hd_calI (R := fun y F' => plZ 23 32 31 k0_WL (sy_i F1 83).toInt y F1 F') (nh := 82) (nv := 85) (s := 0) (s1 := 0) (d1 := 26) (M1 := jm_M36) (As := [.inl (.ref 30), .inr (.inl 84), .inr (.inl 83)]) (rest := []) jm_ok31 rfl rfl (by decide) (by decide +kernel) (k0pl_TZ X1 X2 F1 (sy_i F1 84) (sy_i F1 83) hb (jx_ok_eq (g 39 (by decide) (by decide)) (g 41 (by decide) (by decide)) hJF) hcs1 (by omega) (by omega) (by omega) (by rw [a39, e33, ← hc, e84])) (fun F3 F' y hR p1 p2 p3 => ?_)
      obtain ⟨r1, r2⟩ := plR_dst hR.1 p1
      have r3 := hR.2
      rw [eK1, hx1.1] at r2
      have r2 : ac (sOne (kg F0) (vg F0) (ng F0) x) (rcl (pg F0) 18 19) y F3 := by
        rcases r2 with ⟨a, b⟩ | ⟨a, b⟩
        · exact Or.inl ⟨a, by rw [hone, b]; rfl⟩
        · refine Or.inr ⟨a, (tg F3, x.2), by rw [hone, b]; rfl, rfl, ?_⟩
          have h := rcl_eq (F1 := fun j => if j = 33 then F1 33 else F3 j) hx1 rfl (nz_fi (r1.2 36 (by decide) (by decide))) (nz_fi (r1.2 37 (by decide) (by decide))) (nz_fi (r1.2 38 (by decide) (by decide))) (nz_fi (r1.2 18 (by decide) (by decide))) (nz_fi (r1.2 19 (by decide) (by decide))) (r1.2 43 (by decide) (by decide))
          obtain ⟨a1, a2, a3, a4, a5, a6⟩ := h
          exact ⟨a2, a3, ncr_eq a4 rfl rfl, wc_eq a5 rfl rfl, a6⟩
      have g3 : gc k0_WP F0 F3 := g1.trans r1 (by decide)
      have hy : sy_i F3 85 = y := zz_i p3
      have k82 := nz_fi (p2 82 (by decide) (by decide))
      have hI3 := rrZ_on (b := 18) (n := (sy_i F 83).toInt) (by omega) (by omega) hk0 h2 r2 (fun zy => by
        have zn := plC_dst (r3 zy) p1 (by decide) (by decide) (by decide)
        have zc := rXc_lw (b := 18) (a := (sy_i F1 83).toInt) (by omega) (nz_bx hb (k := 23) (lo := 0) (hi := 512) rfl).1 (by rw [hk1, e83, km_r (by omega) (by omega)]; omega) hT1 zn (fun j j1 j2 j3 j4 j5 => r1.2 j (by omega) (by intro z; simp [k0_WL] at z; omega))
        rw [eK1, eV1, hx1.1] at zc
        exact ⟨zc, by obtain ⟨-, bs, -, z2, -⟩ := zn; have z1 := z2.2.1; show (sy_i F3 23).toInt ≤ _; omega⟩)
      refine k0pq_146 (by decide) F3 X1 X2 g3.1 (by omega) ?_
      intro F4 hb g d33 d34 d35 d36 d37 d38 dFR dBU b39 b40 d82 d83
      exact k0zq_l hEr m F4 (g3.trans (gc_mk (W := k0_WP) hb g (by decide)) (fun _ q => q)) hJ (by omega) (by omega) (by omega) (rrZ_eq hI3 (by rw [d82, hy]) (by omega) d33 d34 d36 d37 d38 (g 43 (by decide) (by decide)) (fun j j1 j2 => g j (by omega) (by intro z; simp at z <;> omega)))
    · intro q z _ _ nk _ _ q0 q1 F1 hb g e33 e34 e35 e36 e37 e38 eFR eBU a39 a40 e82
      obtain ⟨m, rfl⟩ : ∃ m', m = m' + 1 := ⟨m - 1, by omega⟩
      obtain ⟨x, T, h1, h2, hT, hcs⟩ := hI.1 z
      obtain ⟨c, hc⟩ : ∃ c, c = ((sy_ai F 39).getD (sy_i F 33).toInt.toNat 0).toInt := ⟨_, rfl⟩
      rw [← hc] at hkF nk q0 q1
      have g1 : gc k0_WP F0 F1 := g0.trans (gc_mk (W := k0_WP) hb g (by decide)) (fun _ q => q)
      have eK1 : kg F1 = kg F0 := kg_eq (g1.2 39 (by decide) (by decide))
      have eV1 : vg F1 = vg F0 := vg_eq (g1.2 41 (by decide) (by decide))
      have eN1 : ng F1 = ng F0 := ng_eq (g1.2 41 (by decide) (by decide))
      have eP1 : pg F1 = pg F0 := pg_eq (g1.2 40 (by decide) (by decide))
      have hx1 : rcl (pg F0) 18 19 x F1 := rcl_eq h1 e33 e36 e37 e38 eFR eBU (g 43 (by decide) (by decide))
      have hk1 : kg F1 (tg F1) = km c := by rw [eK1, tg_eq e33]; exact hkF
      have hT1 : rXc 18 T F1 := rXc_eq hT (fun j j1 j2 => g j (by omega) (by intro z; simp at z <;> omega))
      have hcs1 : (sy_i F1 23).toInt ≤ 12 + tg F1 := by rw [nz_fi (g 23 (by decide) (by decide)), tg_eq e33]; exact hcs
      have hkx : kg F0 x.1 = km c := by rw [← h1.1]; exact hkF
      have hk0 : kg F0 x.1 ≠ 0 := by
        rw [hkx]
        exact fun y => by have := km_0.mp y; omega
      have hk2 : kg F1 (tg F1) = 21 := by rw [hk1, q1]; decide
      have hone : sOne (kg F0) (vg F0) (ng F0) x = sBuyer (kg F0) (vg F0) (ng F0) x := by
        unfold sOne
        rw [hkx, if_neg (by rw [q1]; decide), if_pos (by rw [q1]; decide)]
      refine hd_calI (R := fun y F' => gc k0pb_W F1 F' ∧ ac (sBuyer (kg F1) (vg F1) (ng F1) x) (rcl (pg F1) 18 19) y F' ∧ (y = 1 → nbC 19 28 F1 F')) (nh := 82) (nv := 83) (s := 0) (s1 := 0) (d1 := 5) (M1 := jm_M34) (As := [.inl (.ref 30)]) (rest := []) jm_ok31 rfl rfl (by decide) (by decide +kernel) (k0vb_T X1 X2 F1 hb hk2 x (by rw [eP1]; exact hx1)) (fun F3 F' y hR p1 p2 p3 => ?_)
      obtain ⟨r1, r2, r3⟩ := hR
      rw [eK1, eV1, eN1, eP1, ← hone] at r2
      have r1 := r1.dst p1
      have r2 : ac (sOne (kg F0) (vg F0) (ng F0) x) (rcl (pg F0) 18 19) y F3 := ac_sub r2 p1 (fun a h => rcl_eq h (nz_fi (p1 33 (by decide))) (nz_fi (p1 36 (by decide))) (nz_fi (p1 37 (by decide))) (nz_fi (p1 38 (by decide))) (nz_fi (p1 18 (by decide))) (nz_fi (p1 19 (by decide))) (p1 43 (by decide)))
      have g3 : gc k0_WP F0 F3 := g1.trans r1 (by decide)
      have hy : sy_i F3 83 = y := zz_i p3
      have k82 := nz_fi (p2 82 (by decide) (by decide))
      have hI3 := rrZ_on (b := 18) (n := (sy_i F 83).toInt) (by omega) (by omega) hk0 h2 r2 (fun zy => by
        have zn := nbC_dst (r3 zy) p1 (by decide) (by decide)
        have zc := rXc_bu (b := 18) hk2 hT1 zn (fun j j1 j2 j3 j4 => r1.2 j (by omega) (by intro z; simp [k0pb_W] at z; omega))
        rw [eK1, eV1, hx1.1] at zc
        exact ⟨zc, by have z1 := zn.1; rw [r1.i (k := 23) (by decide) (by decide)]; omega⟩)
      refine k0pq_118 (by decide) F3 X1 X2 g3.1 (by omega) ?_
      intro F4 hb g d33 d34 d35 d36 d37 d38 dFR dBU b39 b40 d82 d83
      exact k0zq_l hEr m F4 (g3.trans (gc_mk (W := k0_WP) hb g (by decide)) (fun _ q => q)) hJ (by omega) (by omega) (by omega) (rrZ_eq hI3 (by rw [d82, hy]) (by omega) d33 d34 d36 d37 d38 (g 43 (by decide) (by decide)) (fun j j1 j2 => g j (by omega) (by intro z; simp at z <;> omega)))
    · intro q z _ _ nk _ _ q0 F1 hb g e33 e34 e35 e36 e37 e38 eFR eBU a39 a40 e82
      obtain ⟨m, rfl⟩ : ∃ m', m = m' + 1 := ⟨m - 1, by omega⟩
      obtain ⟨x, T, h1, h2, hT, hcs⟩ := hI.1 z
      obtain ⟨c, hc⟩ : ∃ c, c = ((sy_ai F 39).getD (sy_i F 33).toInt.toNat 0).toInt := ⟨_, rfl⟩
      rw [← hc] at hkF nk q0
      have g1 : gc k0_WP F0 F1 := g0.trans (gc_mk (W := k0_WP) hb g (by decide)) (fun _ q => q)
      have eK1 : kg F1 = kg F0 := kg_eq (g1.2 39 (by decide) (by decide))
      have eV1 : vg F1 = vg F0 := vg_eq (g1.2 41 (by decide) (by decide))
      have eN1 : ng F1 = ng F0 := ng_eq (g1.2 41 (by decide) (by decide))
      have eP1 : pg F1 = pg F0 := pg_eq (g1.2 40 (by decide) (by decide))
      have hx1 : rcl (pg F0) 18 19 x F1 := rcl_eq h1 e33 e36 e37 e38 eFR eBU (g 43 (by decide) (by decide))
      have hk1 : kg F1 (tg F1) = km c := by rw [eK1, tg_eq e33]; exact hkF
      have hT1 : rXc 18 T F1 := rXc_eq hT (fun j j1 j2 => g j (by omega) (by intro z; simp at z <;> omega))
      have hcs1 : (sy_i F1 23).toInt ≤ 12 + tg F1 := by rw [nz_fi (g 23 (by decide) (by decide)), tg_eq e33]; exact hcs
      have hkx : kg F0 x.1 = km c := by rw [← h1.1]; exact hkF
      have hk0 : kg F0 x.1 ≠ 0 := by
        rw [hkx]
        exact fun y => by have := km_0.mp y; omega
      have hk2 : kg F1 (tg F1) = 20 := by rw [hk1, q0]; decide
      have hone : sOne (kg F0) (vg F0) (ng F0) x = sFruit (kg F0) (vg F0) (ng F0) x := by
        unfold sOne
        rw [hkx, if_pos (by rw [q0]; decide)]
      refine hd_calI (R := fun y F' => gc k0pf_W F1 F' ∧ ac (sFruit (kg F1) (vg F1) (ng F1) x) (rcl (pg F1) 18 19) y F' ∧ (y = 1 → nbC 18 24 F1 F')) (nh := 82) (nv := 83) (s := 0) (s1 := 0) (d1 := 5) (M1 := jm_M33) (As := [.inl (.ref 30)]) (rest := []) jm_ok31 rfl rfl (by decide) (by decide +kernel) (k0vf_T X1 X2 F1 hb hk2 x (by rw [eP1]; exact hx1)) (fun F3 F' y hR p1 p2 p3 => ?_)
      obtain ⟨r1, r2, r3⟩ := hR
      rw [eK1, eV1, eN1, eP1, ← hone] at r2
      have r1 := r1.dst p1
      have r2 : ac (sOne (kg F0) (vg F0) (ng F0) x) (rcl (pg F0) 18 19) y F3 := ac_sub r2 p1 (fun a h => rcl_eq h (nz_fi (p1 33 (by decide))) (nz_fi (p1 36 (by decide))) (nz_fi (p1 37 (by decide))) (nz_fi (p1 38 (by decide))) (nz_fi (p1 18 (by decide))) (nz_fi (p1 19 (by decide))) (p1 43 (by decide)))
      have g3 : gc k0_WP F0 F3 := g1.trans r1 (by decide)
      have hy : sy_i F3 83 = y := zz_i p3
      have k82 := nz_fi (p2 82 (by decide) (by decide))
      have hI3 := rrZ_on (b := 18) (n := (sy_i F 83).toInt) (by omega) (by omega) hk0 h2 r2 (fun zy => by
        have zn := nbC_dst (r3 zy) p1 (by decide) (by decide)
        have zc := rXc_fr (b := 18) hk2 hT1 zn (fun j j1 j2 j3 => r1.2 j (by omega) (by intro z; simp [k0pf_W] at z; omega))
        rw [eK1, eV1, hx1.1] at zc
        exact ⟨zc, by have z1 := zn.1; rw [r1.i (k := 23) (by decide) (by decide)]; omega⟩)
      refine k0pq_103 (by decide) F3 X1 X2 g3.1 (by omega) ?_
      intro F4 hb g d33 d34 d35 d36 d37 d38 dFR dBU b39 b40 d82 d83
      exact k0zq_l hEr m F4 (g3.trans (gc_mk (W := k0_WP) hb g (by decide)) (fun _ q => q)) hJ (by omega) (by omega) (by omega) (rrZ_eq hI3 (by rw [d82, hy]) (by omega) d33 d34 d36 d37 d38 (g 43 (by decide) (by decide)) (fun j j1 j2 => g j (by omega) (by intro z; simp at z <;> omega)))
end PZk0
section PZk3
variable {Ls : Nat} {xs : Nat → Int32} (X1 X2 : List jm_c) (F0 : Nat → sy_d) (RR : sE ⊕ (sT × tX))
theorem k3zq_e (hEr : ∀ e, RR = .inl e → e.1 ≠ 0) (F : Nat → sy_d) (g0 : gc k3_WP F0 F) (n : Int) (hI : rrZ (kg F0) (vg F0) (ng F0) (pg F0) 3 RR (sy_i F 82).toInt n F) (hend : (sy_i F 82).toInt ≠ 0 → ∀ x T, rcl (pg F0) 3 4 x F → zRun (kg F0) (vg F0) (ng F0) (401 - n).toNat x T = .inr (x, T)) :
    hd_W Ls xs 28 jm_M31 (fun v G => ∃ (x : Int32) (F' : Nat → sy_d), v = some (.int x) ∧ G = sy_dh F' X1 X2 (iv_H 3) ∧ gc (35 :: k3_WP) F0 F' ∧ x.toInt = (sEnd (pg F0) (prT RR)).1 ∧ (sy_i F' 35).toInt = (sEnd (pg F0) (prT RR)).2 ∧ (x.toInt = 0 → rXc 3 (cnT RR) F' ∧ (sy_i F' 8).toInt ≤ 412)) (189, sy_dL F [some (.inl (.ref 30)), none, none, none, some (.inr (.inl 82)), none, none], sy_dS F [], sy_dh F X1 X2 (iv_H 3), 0, 0) := by
  refine k3pq_189 (by decide) F X1 X2 g0.1 ?_ ?_
  · intro q _ _ _ F4 hb g e33 e34 e35 e36 e37 e38 eFR eBU a39 a40
    have h := hI.2 q
    refine ⟨_, F4, rfl, rfl, (g0.mono (by decide)).trans (gc_mk (W := 35 :: k3_WP) hb g (by decide)) (fun _ q => q), ?_, ?_, fun zz => absurd zz ?_⟩
    rotate_left
    rotate_left
    · exact hEr _ h
    · rw [h]
      rfl
    · rw [h, e35]
      show _ = pg F0 (tg F)
      rw [← pg_eq (g0.2 40 (by decide) (by decide))]
      rfl
  · intro q _ F4 hb g e33 e34 e35 e36 e37 e38 eFR eBU a39 a40
    obtain ⟨x, T, h1, h2, hT, hcs⟩ := hI.1 q
    rw [hend q x T h1] at h2
    obtain ⟨w1, w2, w3, w4⟩ := h1.2.2.2.2.1
    refine ⟨_, F4, rfl, rfl, (g0.mono (by decide)).trans (gc_mk (W := 35 :: k3_WP) hb g (by decide)) (fun _ q => q), ?_, ?_, fun _ => ⟨by rw [h2]; exact rXc_eq hT (fun j j1 j2 => g j (by omega) (by intro z; simp at z <;> omega)), by rw [nz_fi (g 8 (by decide) (by decide))]; have hcs : (sy_i F 8).toInt ≤ 12 + (tg F : Int) := hcs; have c33 := nz_bx g0.1 (k := 33) (lo := 0) (hi := 400) rfl; have ht : (tg F : Int) = (sy_i F 33).toInt := (by unfold tg; omega); omega⟩⟩
    · rw [h2]
      show _ = (if x.2.2.2.2.1 = 0 then (0, -1) else (x.2.2.2.2.1, pg F0 x.2.2.2.2.2) : Int × Int).1
      split <;> (show _ = _; omega)
    · rw [h2]
      show _ = (if x.2.2.2.2.1 = 0 then (0, -1) else (x.2.2.2.2.1, pg F0 x.2.2.2.2.2) : Int × Int).2
      by_cases z : x.2.2.2.2.1 = 0
      · rw [if_pos z, e35, w4 z]
      · rw [if_neg z, e35, w3 z]
theorem k3zq_l (hEr : ∀ e, RR = .inl e → e.1 ≠ 0) : ∀ (m : Nat) (F : Nat → sy_d), gc k3_WP F0 F → jx_ok F0 → 0 ≤ (sy_i F 83).toInt → (sy_i F 83).toInt ≤ 401 → 401 - (sy_i F 83).toInt ≤ m → rrZ (kg F0) (vg F0) (ng F0) (pg F0) 3 RR (sy_i F 82).toInt (sy_i F 83).toInt F →
    hd_W Ls xs 28 jm_M31 (fun v G => ∃ (x : Int32) (F' : Nat → sy_d), v = some (.int x) ∧ G = sy_dh F' X1 X2 (iv_H 3) ∧ gc (35 :: k3_WP) F0 F' ∧ x.toInt = (sEnd (pg F0) (prT RR)).1 ∧ (sy_i F' 35).toInt = (sEnd (pg F0) (prT RR)).2 ∧ (x.toInt = 0 → rXc 3 (cnT RR) F' ∧ (sy_i F' 8).toInt ≤ 412)) (52, sy_dL F [some (.inl (.ref 30)), none, none, none, some (.inr (.inl 82)), some (.inr (.inl 83)), none], sy_dS F [], sy_dh F X1 X2 (iv_H 3), 0, 0)
  | m, F, g0, hJ, h83, h84, hm, hI => by
    have eK : kg F = kg F0 := kg_eq (g0.2 39 (by decide) (by decide))
    have eV : vg F = vg F0 := vg_eq (g0.2 41 (by decide) (by decide))
    have eN : ng F = ng F0 := ng_eq (g0.2 41 (by decide) (by decide))
    have eP : pg F = pg F0 := pg_eq (g0.2 40 (by decide) (by decide))
    have hJF : jx_ok F := jx_ok_eq (g0.2 39 (by decide) (by decide)) (g0.2 41 (by decide) (by decide)) hJ
    have hkF : kg F0 (tg F) = km ((sy_ai F 39).getD (sy_i F 33).toInt.toNat 0).toInt := by rw [← eK]; rfl
    refine k3pq_52 (by decide) F X1 X2 g0.1 ⟨h83, h84⟩ ?_ ?_ ?_ ?_ ?_ ?_ ?_ ?_ ?_
    · intro q F1 hb g e33 e34 e35 e36 e37 e38 eFR eBU a39 a40 e82
      refine k3zq_e X1 X2 F0 RR hEr F1 (g0.trans (gc_mk (W := k3_WP) hb g (by decide)) (fun _ q => q)) (sy_i F 83).toInt (rrZ_eq hI e82 rfl e33 e34 e36 e37 e38 (g 43 (by decide) (by decide)) (fun j j1 j2 => g j (by omega) (by intro z; simp at z <;> omega))) (fun _ x T _ => ?_)
      rw [show (401 - (sy_i F 83).toInt).toNat = 0 by omega]
      rfl
    · intro q z F1 hb g e33 e34 e35 e36 e37 e38 eFR eBU a39 a40 e82
      exact k3zq_e X1 X2 F0 RR hEr F1 (g0.trans (gc_mk (W := k3_WP) hb g (by decide)) (fun _ q => q)) (sy_i F 83).toInt (rrZ_eq hI e82 rfl e33 e34 e36 e37 e38 (g 43 (by decide) (by decide)) (fun j j1 j2 => g j (by omega) (by intro z; simp at z <;> omega))) (fun y => absurd (e82.trans z) y)
    · intro q z _ _ hk F1 hb g e33 e34 e35 e36 e37 e38 eFR eBU a39 a40 e82
      refine k3zq_e X1 X2 F0 RR hEr F1 (g0.trans (gc_mk (W := k3_WP) hb g (by decide)) (fun _ q => q)) (sy_i F 83).toInt (rrZ_eq hI e82 rfl e33 e34 e36 e37 e38 (g 43 (by decide) (by decide)) (fun j j1 j2 => g j (by omega) (by intro z; simp at z <;> omega))) (fun _ x T hx => ?_)
      rw [show (401 - (sy_i F 83).toInt).toNat = (400 - (sy_i F 83).toInt).toNat + 1 by omega]
      show (if kg F0 x.1 = 0 then _ else _) = _
      rw [if_pos (by rw [← hx.1, tg_eq e33, hkF, hk]; decide)]
    · intro q z _ _ nk _ _ q0 q1 q2 q3 F1 hb g e33 e34 e35 e36 e37 e38 eFR eBU a39 a40 e82 e83
      obtain ⟨m, rfl⟩ : ∃ m', m = m' + 1 := ⟨m - 1, by omega⟩
      refine k3zq_l hEr m F1 (g0.trans (gc_mk (W := k3_WP) hb g (by decide)) (fun _ q => q)) hJ (by omega) (by omega) (by omega) ⟨fun y => absurd e82 y, fun _ => ?_⟩
      obtain ⟨x, T, h1, h2, hT, hcs⟩ := hI.1 z
      rw [h2, show (401 - (sy_i F 83).toInt).toNat = (400 - (sy_i F 83).toInt).toNat + 1 by omega, e34, tg_eq e33]
      show (if kg F0 x.1 = 0 then _ else _) = _
      obtain ⟨c, hc⟩ : ∃ c, c = ((sy_ai F 39).getD (sy_i F 33).toInt.toNat 0).toInt := ⟨_, rfl⟩
      rw [← hc] at hkF nk q0 q1 q2 q3
      have j0 : ¬ km c = 0 := fun y => by have := km_0.mp y; omega
      have j1 : sOne (kg F0) (vg F0) (ng F0) x = .inl (1, x.1) := by
        unfold sOne
        rw [← h1.1, hkF, if_neg (fun y => by have := (km_w (by decide) (by decide)).mp y; omega), if_neg (fun y => by have := (km_w (by decide) (by decide)).mp y; omega), if_neg (fun y => by rcases y with y | y <;> (have := (km_w (by decide) (by decide)).mp y; omega)), if_neg (fun y => by have := (km_w (by decide) (by decide)).mp y; omega), if_neg (fun y => by
          have := (km_w (c := c) (k := km c) (by omega) (by omega)).mp rfl
          omega)]
      rw [if_neg (by rw [← h1.1, hkF]; exact j0), j1, h1.1]
      rfl
    · intro q z _ _ nk _ _ q0 q1 q2 q3 q4 q5 F1 hb g e33 e34 e35 e36 e37 e38 eFR eBU a39 a40 e82 e83
      obtain ⟨m, rfl⟩ : ∃ m', m = m' + 1 := ⟨m - 1, by omega⟩
      refine k3zq_l hEr m F1 (g0.trans (gc_mk (W := k3_WP) hb g (by decide)) (fun _ q => q)) hJ (by omega) (by omega) (by omega) ⟨fun y => absurd e82 y, fun _ => ?_⟩
      obtain ⟨x, T, h1, h2, hT, hcs⟩ := hI.1 z
      rw [h2, show (401 - (sy_i F 83).toInt).toNat = (400 - (sy_i F 83).toInt).toNat + 1 by omega, e34, tg_eq e33]
      show (if kg F0 x.1 = 0 then _ else _) = _
      obtain ⟨c, hc⟩ : ∃ c, c = ((sy_ai F 39).getD (sy_i F 33).toInt.toNat 0).toInt := ⟨_, rfl⟩
      rw [← hc] at hkF nk q0 q1 q2 q3 q4 q5
      have j0 : ¬ km c = 0 := fun y => by have := km_0.mp y; omega
      have j1 : sOne (kg F0) (vg F0) (ng F0) x = .inl (1, x.1) := by
        unfold sOne
        rw [← h1.1, hkF, if_neg (fun y => by have := (km_w (by decide) (by decide)).mp y; omega), if_neg (fun y => by have := (km_w (by decide) (by decide)).mp y; omega), if_neg (fun y => by rcases y with y | y <;> (have := (km_w (by decide) (by decide)).mp y; omega)), if_neg (fun y => by have := (km_w (by decide) (by decide)).mp y; omega), if_neg (fun y => by
          have := (km_w (c := c) (k := km c) (by omega) (by omega)).mp rfl
          omega)]
      rw [if_neg (by rw [← h1.1, hkF]; exact j0), j1, h1.1]
      rfl
    · intro q z _ _ nk _ _ q0 q1 q2 q3 q4 q5 F1 hb g e33 e34 e35 e36 e37 e38 eFR eBU a39 a40 e82 e83
      obtain ⟨m, rfl⟩ : ∃ m', m = m' + 1 := ⟨m - 1, by omega⟩
      obtain ⟨x, T, h1, h2, hT, hcs⟩ := hI.1 z
      obtain ⟨c, hc⟩ : ∃ c, c = ((sy_ai F 39).getD (sy_i F 33).toInt.toNat 0).toInt := ⟨_, rfl⟩
      rw [← hc] at hkF nk q0 q1 q2 q3 q4 q5 e83
      have g1 : gc k3_WP F0 F1 := g0.trans (gc_mk (W := k3_WP) hb g (by decide)) (fun _ q => q)
      have eK1 : kg F1 = kg F0 := kg_eq (g1.2 39 (by decide) (by decide))
      have eV1 : vg F1 = vg F0 := vg_eq (g1.2 41 (by decide) (by decide))
      have eN1 : ng F1 = ng F0 := ng_eq (g1.2 41 (by decide) (by decide))
      have eP1 : pg F1 = pg F0 := pg_eq (g1.2 40 (by decide) (by decide))
      have hx1 : rcl (pg F0) 3 4 x F1 := rcl_eq h1 e33 e36 e37 e38 eFR eBU (g 43 (by decide) (by decide))
      have hk1 : kg F1 (tg F1) = km c := by rw [eK1, tg_eq e33]; exact hkF
      have hT1 : rXc 3 T F1 := rXc_eq hT (fun j j1 j2 => g j (by omega) (by intro z; simp at z <;> omega))
      have hcs1 : (sy_i F1 8).toInt ≤ 12 + tg F1 := by rw [nz_fi (g 8 (by decide) (by decide)), tg_eq e33]; exact hcs
      have hkx : kg F0 x.1 = km c := by rw [← h1.1]; exact hkF
      have hk0 : kg F0 x.1 ≠ 0 := by
        rw [hkx]
        exact fun y => by have := km_0.mp y; omega
      have hone : sOne (kg F0) (vg F0) (ng F0) x = sSet (kg F0) (vg F0) (sHi c) x := by
        unfold sOne
        rw [hkx, km_r (by omega) (by omega), if_neg (by omega), if_neg (by omega)]
        unfold sHi
        by_cases z : c = 10
        · rw [if_neg (by omega), if_pos (by omega), if_pos z]
        · rw [if_pos (by omega), if_neg z]
      refine hd_calI (R := fun y F' => gc k3pg_W F1 F' ∧ ac (sSet (kg F1) (vg F1) (sHi (sy_i F1 83).toInt) x) (rcl (pg F1) 3 4) y F' ∧ (y = 1 → stC 5 (sy_i F1 83).toInt F1 F')) (nh := 82) (nv := 84) (s := 3) (s1 := 3) (d1 := 5) (M1 := jm_M35) (As := [.inl (.ref 30), .inr (.inl 83)]) (rest := []) jm_ok31 rfl rfl (by decide) (by decide +kernel) (k3vg_T X1 X2 F1 hb (sy_i F1 83) (by omega) (by rw [hk1, e83]) x (by rw [eP1]; exact hx1)) (fun F3 F' y hR p1 p2 p3 => ?_)
      obtain ⟨r1, r2, r3⟩ := hR
      rw [eK1, eV1, eP1, e83, ← hone] at r2
      have r1 := r1.dst p1
      have r2 : ac (sOne (kg F0) (vg F0) (ng F0) x) (rcl (pg F0) 3 4) y F3 := ac_sub r2 p1 (fun a h => rcl_eq h (nz_fi (p1 33 (by decide))) (nz_fi (p1 36 (by decide))) (nz_fi (p1 37 (by decide))) (nz_fi (p1 38 (by decide))) (nz_fi (p1 3 (by decide))) (nz_fi (p1 4 (by decide))) (p1 43 (by decide)))
      have g3 : gc k3_WP F0 F3 := g1.trans r1 (by decide)
      have hy : sy_i F3 84 = y := zz_i p3
      have k82 := nz_fi (p2 82 (by decide) (by decide))
      have hI3 := rrZ_on (b := 3) (n := (sy_i F 83).toInt) (by omega) (by omega) hk0 h2 r2 (fun zy => by
        have zn := stC_dst (r3 zy) p1 (by decide)
        have zc := rXc_st (b := 3) (a := (sy_i F1 83).toInt) (by omega) (by rw [hk1, e83, km_r (by omega) (by omega)]) hT1 zn (fun j j1 j2 j3 => r1.2 j (by omega) (by intro z; simp [k3pg_W] at z; omega))
        rw [eK1, eV1, hx1.1] at zc
        exact ⟨zc, by have z1 := zn.1; rw [r1.i (k := 8) (by decide) (by decide)]; omega⟩)
      refine k3pq_171 (by decide) F3 X1 X2 g3.1 (by omega) ?_
      intro F4 hb g d33 d34 d35 d36 d37 d38 dFR dBU b39 b40 d82 d83
      exact k3zq_l hEr m F4 (g3.trans (gc_mk (W := k3_WP) hb g (by decide)) (fun _ q => q)) hJ (by omega) (by omega) (by omega) (rrZ_eq hI3 (by rw [d82, hy]) (by omega) d33 d34 d36 d37 d38 (g 43 (by decide) (by decide)) (fun j j1 j2 => g j (by omega) (by intro z; simp at z <;> omega)))
    · intro q z _ _ nk _ _ q0 q1 q2 q3 F1 hb g e33 e34 e35 e36 e37 e38 eFR eBU a39 a40 e82 e83 e84
      obtain ⟨m, rfl⟩ : ∃ m', m = m' + 1 := ⟨m - 1, by omega⟩
      obtain ⟨x, T, h1, h2, hT, hcs⟩ := hI.1 z
      obtain ⟨c, hc⟩ : ∃ c, c = ((sy_ai F 39).getD (sy_i F 33).toInt.toNat 0).toInt := ⟨_, rfl⟩
      rw [← hc] at hkF nk q0 q1 q2 q3 e83 e84
      have g1 : gc k3_WP F0 F1 := g0.trans (gc_mk (W := k3_WP) hb g (by decide)) (fun _ q => q)
      have eK1 : kg F1 = kg F0 := kg_eq (g1.2 39 (by decide) (by decide))
      have eV1 : vg F1 = vg F0 := vg_eq (g1.2 41 (by decide) (by decide))
      have eN1 : ng F1 = ng F0 := ng_eq (g1.2 41 (by decide) (by decide))
      have eP1 : pg F1 = pg F0 := pg_eq (g1.2 40 (by decide) (by decide))
      have hx1 : rcl (pg F0) 3 4 x F1 := rcl_eq h1 e33 e36 e37 e38 eFR eBU (g 43 (by decide) (by decide))
      have hk1 : kg F1 (tg F1) = km c := by rw [eK1, tg_eq e33]; exact hkF
      have hT1 : rXc 3 T F1 := rXc_eq hT (fun j j1 j2 => g j (by omega) (by intro z; simp at z <;> omega))
      have hcs1 : (sy_i F1 8).toInt ≤ 12 + tg F1 := by rw [nz_fi (g 8 (by decide) (by decide)), tg_eq e33]; exact hcs
      have hkx : kg F0 x.1 = km c := by rw [← h1.1]; exact hkF
      have hk0 : kg F0 x.1 ≠ 0 := by
        rw [hkx]
        exact fun y => by have := km_0.mp y; omega
      have hone : sOne (kg F0) (vg F0) (ng F0) x = sB (plr (kg F0) x.1) (fun t => .inr (t, x.2)) := by
        unfold sOne
        rw [hkx, km_r (by omega) (by omega), if_neg (by omega), if_neg (by omega), if_neg (by omega), if_neg (by omega), if_pos (by omega)]
        exact plr_eq x
      refine hd_calI (R := fun y F' => plZ 8 17 16 k3_WL (sy_i F1 83).toInt y F1 F') (nh := 82) (nv := 85) (s := 3) (s1 := 3) (d1 := 26) (M1 := jm_M36) (As := [.inl (.ref 30), .inr (.inl 84), .inr (.inl 83)]) (rest := []) jm_ok31 rfl rfl (by decide) (by decide +kernel) (k3pl_TZ X1 X2 F1 (sy_i F1 84) (sy_i F1 83) hb (jx_ok_eq (g 39 (by decide) (by decide)) (g 41 (by decide) (by decide)) hJF) hcs1 (by omega) (by omega) (by omega) (by rw [a39, e33, ← hc, e84])) (fun F3 F' y hR p1 p2 p3 => ?_)
      obtain ⟨r1, r2⟩ := plR_dst hR.1 p1
      have r3 := hR.2
      rw [eK1, hx1.1] at r2
      have r2 : ac (sOne (kg F0) (vg F0) (ng F0) x) (rcl (pg F0) 3 4) y F3 := by
        rcases r2 with ⟨a, b⟩ | ⟨a, b⟩
        · exact Or.inl ⟨a, by rw [hone, b]; rfl⟩
        · refine Or.inr ⟨a, (tg F3, x.2), by rw [hone, b]; rfl, rfl, ?_⟩
          have h := rcl_eq (F1 := fun j => if j = 33 then F1 33 else F3 j) hx1 rfl (nz_fi (r1.2 36 (by decide) (by decide))) (nz_fi (r1.2 37 (by decide) (by decide))) (nz_fi (r1.2 38 (by decide) (by decide))) (nz_fi (r1.2 3 (by decide) (by decide))) (nz_fi (r1.2 4 (by decide) (by decide))) (r1.2 43 (by decide) (by decide))
          obtain ⟨a1, a2, a3, a4, a5, a6⟩ := h
          exact ⟨a2, a3, ncr_eq a4 rfl rfl, wc_eq a5 rfl rfl, a6⟩
      have g3 : gc k3_WP F0 F3 := g1.trans r1 (by decide)
      have hy : sy_i F3 85 = y := zz_i p3
      have k82 := nz_fi (p2 82 (by decide) (by decide))
      have hI3 := rrZ_on (b := 3) (n := (sy_i F 83).toInt) (by omega) (by omega) hk0 h2 r2 (fun zy => by
        have zn := plC_dst (r3 zy) p1 (by decide) (by decide) (by decide)
        have zc := rXc_lw (b := 3) (a := (sy_i F1 83).toInt) (by omega) (nz_bx hb (k := 8) (lo := 0) (hi := 512) rfl).1 (by rw [hk1, e83, km_r (by omega) (by omega)]; omega) hT1 zn (fun j j1 j2 j3 j4 j5 => r1.2 j (by omega) (by intro z; simp [k3_WL] at z; omega))
        rw [eK1, eV1, hx1.1] at zc
        exact ⟨zc, by obtain ⟨-, bs, -, z2, -⟩ := zn; have z1 := z2.2.1; show (sy_i F3 8).toInt ≤ _; omega⟩)
      refine k3pq_146 (by decide) F3 X1 X2 g3.1 (by omega) ?_
      intro F4 hb g d33 d34 d35 d36 d37 d38 dFR dBU b39 b40 d82 d83
      exact k3zq_l hEr m F4 (g3.trans (gc_mk (W := k3_WP) hb g (by decide)) (fun _ q => q)) hJ (by omega) (by omega) (by omega) (rrZ_eq hI3 (by rw [d82, hy]) (by omega) d33 d34 d36 d37 d38 (g 43 (by decide) (by decide)) (fun j j1 j2 => g j (by omega) (by intro z; simp at z <;> omega)))
    · intro q z _ _ nk _ _ q0 q1 F1 hb g e33 e34 e35 e36 e37 e38 eFR eBU a39 a40 e82
      obtain ⟨m, rfl⟩ : ∃ m', m = m' + 1 := ⟨m - 1, by omega⟩
      obtain ⟨x, T, h1, h2, hT, hcs⟩ := hI.1 z
      obtain ⟨c, hc⟩ : ∃ c, c = ((sy_ai F 39).getD (sy_i F 33).toInt.toNat 0).toInt := ⟨_, rfl⟩
      rw [← hc] at hkF nk q0 q1
      have g1 : gc k3_WP F0 F1 := g0.trans (gc_mk (W := k3_WP) hb g (by decide)) (fun _ q => q)
      have eK1 : kg F1 = kg F0 := kg_eq (g1.2 39 (by decide) (by decide))
      have eV1 : vg F1 = vg F0 := vg_eq (g1.2 41 (by decide) (by decide))
      have eN1 : ng F1 = ng F0 := ng_eq (g1.2 41 (by decide) (by decide))
      have eP1 : pg F1 = pg F0 := pg_eq (g1.2 40 (by decide) (by decide))
      have hx1 : rcl (pg F0) 3 4 x F1 := rcl_eq h1 e33 e36 e37 e38 eFR eBU (g 43 (by decide) (by decide))
      have hk1 : kg F1 (tg F1) = km c := by rw [eK1, tg_eq e33]; exact hkF
      have hT1 : rXc 3 T F1 := rXc_eq hT (fun j j1 j2 => g j (by omega) (by intro z; simp at z <;> omega))
      have hcs1 : (sy_i F1 8).toInt ≤ 12 + tg F1 := by rw [nz_fi (g 8 (by decide) (by decide)), tg_eq e33]; exact hcs
      have hkx : kg F0 x.1 = km c := by rw [← h1.1]; exact hkF
      have hk0 : kg F0 x.1 ≠ 0 := by
        rw [hkx]
        exact fun y => by have := km_0.mp y; omega
      have hk2 : kg F1 (tg F1) = 21 := by rw [hk1, q1]; decide
      have hone : sOne (kg F0) (vg F0) (ng F0) x = sBuyer (kg F0) (vg F0) (ng F0) x := by
        unfold sOne
        rw [hkx, if_neg (by rw [q1]; decide), if_pos (by rw [q1]; decide)]
      refine hd_calI (R := fun y F' => gc k3pb_W F1 F' ∧ ac (sBuyer (kg F1) (vg F1) (ng F1) x) (rcl (pg F1) 3 4) y F' ∧ (y = 1 → nbC 4 13 F1 F')) (nh := 82) (nv := 83) (s := 3) (s1 := 3) (d1 := 5) (M1 := jm_M34) (As := [.inl (.ref 30)]) (rest := []) jm_ok31 rfl rfl (by decide) (by decide +kernel) (k3vb_T X1 X2 F1 hb hk2 x (by rw [eP1]; exact hx1)) (fun F3 F' y hR p1 p2 p3 => ?_)
      obtain ⟨r1, r2, r3⟩ := hR
      rw [eK1, eV1, eN1, eP1, ← hone] at r2
      have r1 := r1.dst p1
      have r2 : ac (sOne (kg F0) (vg F0) (ng F0) x) (rcl (pg F0) 3 4) y F3 := ac_sub r2 p1 (fun a h => rcl_eq h (nz_fi (p1 33 (by decide))) (nz_fi (p1 36 (by decide))) (nz_fi (p1 37 (by decide))) (nz_fi (p1 38 (by decide))) (nz_fi (p1 3 (by decide))) (nz_fi (p1 4 (by decide))) (p1 43 (by decide)))
      have g3 : gc k3_WP F0 F3 := g1.trans r1 (by decide)
      have hy : sy_i F3 83 = y := zz_i p3
      have k82 := nz_fi (p2 82 (by decide) (by decide))
      have hI3 := rrZ_on (b := 3) (n := (sy_i F 83).toInt) (by omega) (by omega) hk0 h2 r2 (fun zy => by
        have zn := nbC_dst (r3 zy) p1 (by decide) (by decide)
        have zc := rXc_bu (b := 3) hk2 hT1 zn (fun j j1 j2 j3 j4 => r1.2 j (by omega) (by intro z; simp [k3pb_W] at z; omega))
        rw [eK1, eV1, hx1.1] at zc
        exact ⟨zc, by have z1 := zn.1; rw [r1.i (k := 8) (by decide) (by decide)]; omega⟩)
      refine k3pq_118 (by decide) F3 X1 X2 g3.1 (by omega) ?_
      intro F4 hb g d33 d34 d35 d36 d37 d38 dFR dBU b39 b40 d82 d83
      exact k3zq_l hEr m F4 (g3.trans (gc_mk (W := k3_WP) hb g (by decide)) (fun _ q => q)) hJ (by omega) (by omega) (by omega) (rrZ_eq hI3 (by rw [d82, hy]) (by omega) d33 d34 d36 d37 d38 (g 43 (by decide) (by decide)) (fun j j1 j2 => g j (by omega) (by intro z; simp at z <;> omega)))
    · intro q z _ _ nk _ _ q0 F1 hb g e33 e34 e35 e36 e37 e38 eFR eBU a39 a40 e82
      obtain ⟨m, rfl⟩ : ∃ m', m = m' + 1 := ⟨m - 1, by omega⟩
      obtain ⟨x, T, h1, h2, hT, hcs⟩ := hI.1 z
      obtain ⟨c, hc⟩ : ∃ c, c = ((sy_ai F 39).getD (sy_i F 33).toInt.toNat 0).toInt := ⟨_, rfl⟩
      rw [← hc] at hkF nk q0
      have g1 : gc k3_WP F0 F1 := g0.trans (gc_mk (W := k3_WP) hb g (by decide)) (fun _ q => q)
      have eK1 : kg F1 = kg F0 := kg_eq (g1.2 39 (by decide) (by decide))
      have eV1 : vg F1 = vg F0 := vg_eq (g1.2 41 (by decide) (by decide))
      have eN1 : ng F1 = ng F0 := ng_eq (g1.2 41 (by decide) (by decide))
      have eP1 : pg F1 = pg F0 := pg_eq (g1.2 40 (by decide) (by decide))
      have hx1 : rcl (pg F0) 3 4 x F1 := rcl_eq h1 e33 e36 e37 e38 eFR eBU (g 43 (by decide) (by decide))
      have hk1 : kg F1 (tg F1) = km c := by rw [eK1, tg_eq e33]; exact hkF
      have hT1 : rXc 3 T F1 := rXc_eq hT (fun j j1 j2 => g j (by omega) (by intro z; simp at z <;> omega))
      have hcs1 : (sy_i F1 8).toInt ≤ 12 + tg F1 := by rw [nz_fi (g 8 (by decide) (by decide)), tg_eq e33]; exact hcs
      have hkx : kg F0 x.1 = km c := by rw [← h1.1]; exact hkF
      have hk0 : kg F0 x.1 ≠ 0 := by
        rw [hkx]
        exact fun y => by have := km_0.mp y; omega
      have hk2 : kg F1 (tg F1) = 20 := by rw [hk1, q0]; decide
      have hone : sOne (kg F0) (vg F0) (ng F0) x = sFruit (kg F0) (vg F0) (ng F0) x := by
        unfold sOne
        rw [hkx, if_pos (by rw [q0]; decide)]
      refine hd_calI (R := fun y F' => gc k3pf_W F1 F' ∧ ac (sFruit (kg F1) (vg F1) (ng F1) x) (rcl (pg F1) 3 4) y F' ∧ (y = 1 → nbC 3 9 F1 F')) (nh := 82) (nv := 83) (s := 3) (s1 := 3) (d1 := 5) (M1 := jm_M33) (As := [.inl (.ref 30)]) (rest := []) jm_ok31 rfl rfl (by decide) (by decide +kernel) (k3vf_T X1 X2 F1 hb hk2 x (by rw [eP1]; exact hx1)) (fun F3 F' y hR p1 p2 p3 => ?_)
      obtain ⟨r1, r2, r3⟩ := hR
      rw [eK1, eV1, eN1, eP1, ← hone] at r2
      have r1 := r1.dst p1
      have r2 : ac (sOne (kg F0) (vg F0) (ng F0) x) (rcl (pg F0) 3 4) y F3 := ac_sub r2 p1 (fun a h => rcl_eq h (nz_fi (p1 33 (by decide))) (nz_fi (p1 36 (by decide))) (nz_fi (p1 37 (by decide))) (nz_fi (p1 38 (by decide))) (nz_fi (p1 3 (by decide))) (nz_fi (p1 4 (by decide))) (p1 43 (by decide)))
      have g3 : gc k3_WP F0 F3 := g1.trans r1 (by decide)
      have hy : sy_i F3 83 = y := zz_i p3
      have k82 := nz_fi (p2 82 (by decide) (by decide))
      have hI3 := rrZ_on (b := 3) (n := (sy_i F 83).toInt) (by omega) (by omega) hk0 h2 r2 (fun zy => by
        have zn := nbC_dst (r3 zy) p1 (by decide) (by decide)
        have zc := rXc_fr (b := 3) hk2 hT1 zn (fun j j1 j2 j3 => r1.2 j (by omega) (by intro z; simp [k3pf_W] at z; omega))
        rw [eK1, eV1, hx1.1] at zc
        exact ⟨zc, by have z1 := zn.1; rw [r1.i (k := 8) (by decide) (by decide)]; omega⟩)
      refine k3pq_103 (by decide) F3 X1 X2 g3.1 (by omega) ?_
      intro F4 hb g d33 d34 d35 d36 d37 d38 dFR dBU b39 b40 d82 d83
      exact k3zq_l hEr m F4 (g3.trans (gc_mk (W := k3_WP) hb g (by decide)) (fun _ q => q)) hJ (by omega) (by omega) (by omega) (rrZ_eq hI3 (by rw [d82, hy]) (by omega) d33 d34 d36 d37 d38 (g 43 (by decide) (by decide)) (fun j j1 j2 => g j (by omega) (by intro z; simp at z <;> omega)))
end PZk3
theorem k0zpy_9T {Ls : Nat} {xs : Nat → Int32} (X1 X2 : List jm_c) (F : Nat → sy_d) (hB : iv_in F iv_B0) (hJ : jx_ok F) : hd_W Ls xs 28 jm_M31 (fun v G => ∃ (x : Int32) (F' : Nat → sy_d), v = some (.int x) ∧ G = sy_dh F' X1 X2 (iv_H 0) ∧ gc (35 :: k0_WP) F F' ∧ x.toInt = (sEnd (pg F) (sRun (kg F) (vg F) (ng F) 401 (0, 0, 0, [], (0, 0)))).1 ∧ (sy_i F' 35).toInt = (sEnd (pg F) (sRun (kg F) (vg F) (ng F) 401 (0, 0, 0, [], (0, 0)))).2 ∧ (x.toInt = 0 → rXc 18 (cnT (zRun (kg F) (vg F) (ng F) 401 (0, 0, 0, [], (0, 0)) T0)) F' ∧ (sy_i F' 23).toInt ≤ 412)) (9, sy_dL F [some (.inl (.ref 30)), none, none, some (.inl (.ref 20)), none, none, none], sy_dS F [], sy_dh F X1 X2 (iv_H 0), 0, 0) := by
  refine k0zpy_9 (by decide) F X1 X2 hB ?_
  intro F1 hb g e33 e34 e36 e37 e38 eFR eBU eS0 eS1 eS2 eC aL aC e82 e83
  rw [← prT_Run (kg F) (vg F) (ng F) 401 (0, 0, 0, [], (0, 0)) T0]
  refine k0zq_l X1 X2 F _ (fun e he => okE_Run _ _ _ _ _ _ e he) 401 F1 (gc_mk hb g (by decide)) hJ (by omega) (by omega) (by omega) ⟨fun _ => ⟨(0, 0, 0, [], (0, 0)), T0, ⟨by unfold tg; rw [e33]; rfl, eFR, eBU, ?_, ⟨e36, (show (0 : Int) ≤ 0 by decide), fun z => absurd rfl z, fun _ => e37⟩, by rw [e38]; decide⟩, by rw [e83]; rfl, rX_0 (b := 18) eFR eBU eS0 eS1 eS2 eC aL aC, by show (sy_i F1 23).toInt ≤ _; omega⟩, fun z => by omega⟩
  show ∀ y, y ∈ ([] : List Int64) ↔ _
  intro y
  rw [e38]
  simp [mlc]
theorem k1zpy_9T {Ls : Nat} {xs : Nat → Int32} (X1 X2 : List jm_c) (F : Nat → sy_d) (hB : iv_in F iv_B0) (hJ : jx_ok F) : hd_W Ls xs 28 jm_M31 (fun v G => ∃ (x : Int32) (F' : Nat → sy_d), v = some (.int x) ∧ G = sy_dh F' X1 X2 (iv_H 0) ∧ gc (35 :: k0_WP) F F' ∧ x.toInt = (sEnd (pg F) (sRun (kg F) (vg F) (ng F) 401 (0, 0, 0, [], (0, 0)))).1 ∧ (sy_i F' 35).toInt = (sEnd (pg F) (sRun (kg F) (vg F) (ng F) 401 (0, 0, 0, [], (0, 0)))).2 ∧ (x.toInt = 0 → rXc 18 (cnT (zRun (kg F) (vg F) (ng F) 401 (0, 0, 0, [], (0, 0)) T0)) F' ∧ (sy_i F' 23).toInt ≤ 412)) (9, sy_dL F [some (.inl (.ref 30)), none, none, some (.inl (.ref 20)), none, none, none], sy_dS F [], sy_dh F X1 X2 (iv_H 1), 0, 0) := by
  refine k1zpy_9 (by decide) F X1 X2 hB ?_
  intro F1 hb g e33 e34 e36 e37 e38 eFR eBU eS0 eS1 eS2 eC aL aC e82 e83
  rw [← prT_Run (kg F) (vg F) (ng F) 401 (0, 0, 0, [], (0, 0)) T0]
  refine k0zq_l X1 X2 F _ (fun e he => okE_Run _ _ _ _ _ _ e he) 401 F1 (gc_mk hb g (by decide)) hJ (by omega) (by omega) (by omega) ⟨fun _ => ⟨(0, 0, 0, [], (0, 0)), T0, ⟨by unfold tg; rw [e33]; rfl, eFR, eBU, ?_, ⟨e36, (show (0 : Int) ≤ 0 by decide), fun z => absurd rfl z, fun _ => e37⟩, by rw [e38]; decide⟩, by rw [e83]; rfl, rX_0 (b := 18) eFR eBU eS0 eS1 eS2 eC aL aC, by show (sy_i F1 23).toInt ≤ _; omega⟩, fun z => by omega⟩
  show ∀ y, y ∈ ([] : List Int64) ↔ _
  intro y
  rw [e38]
  simp [mlc]
theorem k2zpy_9T {Ls : Nat} {xs : Nat → Int32} (X1 X2 : List jm_c) (F : Nat → sy_d) (hB : iv_in F iv_B0) (hJ : jx_ok F) : hd_W Ls xs 28 jm_M31 (fun v G => ∃ (x : Int32) (F' : Nat → sy_d), v = some (.int x) ∧ G = sy_dh F' X1 X2 (iv_H 3) ∧ gc (35 :: k3_WP) F F' ∧ x.toInt = (sEnd (pg F) (sRun (kg F) (vg F) (ng F) 401 (0, 0, 0, [], (0, 0)))).1 ∧ (sy_i F' 35).toInt = (sEnd (pg F) (sRun (kg F) (vg F) (ng F) 401 (0, 0, 0, [], (0, 0)))).2 ∧ (x.toInt = 0 → rXc 3 (cnT (zRun (kg F) (vg F) (ng F) 401 (0, 0, 0, [], (0, 0)) T0)) F' ∧ (sy_i F' 8).toInt ≤ 412)) (9, sy_dL F [some (.inl (.ref 30)), none, none, some (.inl (.ref 10)), none, none, none], sy_dS F [], sy_dh F X1 X2 (iv_H 2), 0, 0) := by
  refine k2zpy_9 (by decide) F X1 X2 hB ?_
  intro F1 hb g e33 e34 e36 e37 e38 eFR eBU eS0 eS1 eS2 eC aL aC e82 e83
  rw [← prT_Run (kg F) (vg F) (ng F) 401 (0, 0, 0, [], (0, 0)) T0]
  refine k3zq_l X1 X2 F _ (fun e he => okE_Run _ _ _ _ _ _ e he) 401 F1 (gc_mk hb g (by decide)) hJ (by omega) (by omega) (by omega) ⟨fun _ => ⟨(0, 0, 0, [], (0, 0)), T0, ⟨by unfold tg; rw [e33]; rfl, eFR, eBU, ?_, ⟨e36, (show (0 : Int) ≤ 0 by decide), fun z => absurd rfl z, fun _ => e37⟩, by rw [e38]; decide⟩, by rw [e83]; rfl, rX_0 (b := 3) eFR eBU eS0 eS1 eS2 eC aL aC, by show (sy_i F1 8).toInt ≤ _; omega⟩, fun z => by omega⟩
  show ∀ y, y ∈ ([] : List Int64) ↔ _
  intro y
  rw [e38]
  simp [mlc]
theorem k3zpy_9T {Ls : Nat} {xs : Nat → Int32} (X1 X2 : List jm_c) (F : Nat → sy_d) (hB : iv_in F iv_B0) (hJ : jx_ok F) : hd_W Ls xs 28 jm_M31 (fun v G => ∃ (x : Int32) (F' : Nat → sy_d), v = some (.int x) ∧ G = sy_dh F' X1 X2 (iv_H 3) ∧ gc (35 :: k3_WP) F F' ∧ x.toInt = (sEnd (pg F) (sRun (kg F) (vg F) (ng F) 401 (0, 0, 0, [], (0, 0)))).1 ∧ (sy_i F' 35).toInt = (sEnd (pg F) (sRun (kg F) (vg F) (ng F) 401 (0, 0, 0, [], (0, 0)))).2 ∧ (x.toInt = 0 → rXc 3 (cnT (zRun (kg F) (vg F) (ng F) 401 (0, 0, 0, [], (0, 0)) T0)) F' ∧ (sy_i F' 8).toInt ≤ 412)) (9, sy_dL F [some (.inl (.ref 30)), none, none, some (.inl (.ref 10)), none, none, none], sy_dS F [], sy_dh F X1 X2 (iv_H 3), 0, 0) := by
  refine k3zpy_9 (by decide) F X1 X2 hB ?_
  intro F1 hb g e33 e34 e36 e37 e38 eFR eBU eS0 eS1 eS2 eC aL aC e82 e83
  rw [← prT_Run (kg F) (vg F) (ng F) 401 (0, 0, 0, [], (0, 0)) T0]
  refine k3zq_l X1 X2 F _ (fun e he => okE_Run _ _ _ _ _ _ e he) 401 F1 (gc_mk hb g (by decide)) hJ (by omega) (by omega) (by omega) ⟨fun _ => ⟨(0, 0, 0, [], (0, 0)), T0, ⟨by unfold tg; rw [e33]; rfl, eFR, eBU, ?_, ⟨e36, (show (0 : Int) ≤ 0 by decide), fun z => absurd rfl z, fun _ => e37⟩, by rw [e38]; decide⟩, by rw [e83]; rfl, rX_0 (b := 3) eFR eBU eS0 eS1 eS2 eC aL aC, by show (sy_i F1 8).toInt ≤ _; omega⟩, fun z => by omega⟩
  show ∀ y, y ∈ ([] : List Int64) ↔ _
  intro y
  rw [e38]
  simp [mlc]
