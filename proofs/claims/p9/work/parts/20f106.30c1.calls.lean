/-! ===== prop, shake, hours on the class's side (shape 1) ===== -/
section SH1
variable {Ls : Nat} {xs : Nat → Int32} {T : tX} {g : gS} (F : Nat → sy_d) (X1 X2 : List jm_c)
theorem j1pr_W (hC : xC 3 T F) (hg : gC 50 (nfS T) (nbS T) F g) {U : List gS} (hT : trC (nfS T) (nbS T) F U) {f w : Int32} (hf : 0 ≤ f.toInt ∧ f.toInt < nfS T) (hw : 0 ≤ w.toInt ∧ w.toInt ≤ 1) {F1 : Nat → sy_d} (q1 : qC [] F F1) (j82 : sy_i F1 82 = f) (j83 : sy_i F1 83 = w) :
    hd_W Ls xs 3 jm_M89 (pI 1 X1 X2 (fun x F' => x = 1 ∧ qC [57, 74, 75, 76] F F' ∧ gC 50 (nfS T) (nbS T) F' (upS g 5 f.toInt.toNat w) ∧ trC (nfS T) (nbS T) F' (rmS g U))) (53, sy_dL F1 [some (.inl (.ref 8)), some (.inr (.inl 82)), none, some (.inr (.inl 83))], sy_dS F1 [.inl (.ref 46), .inl (.ref 66)], sy_dh F1 X1 X2 (iv_H 1), 0, 0) := by
  have l7 : nfS T ≤ 7 := hC.2.2.1.1.1
  have l4 : nbS T ≤ 4 := hC.2.2.1.1.2.1
  have f1 : ∀ j, j < 82 → F1 j = F j := fun j hj => q1.2 j hj (by simp)
  refine hd_calV (R := fun F' => qC [74, 75, 76] F1 F' ∧ trC (nfS T) (nbS T) F' (rmS g U)) (nh := 82) (nv := 84) (s := 1) (s1 := 1) (d1 := 2) (M1 := jm_M78) (As := [.inl (.ref 66), .inl (.ref 46)]) (rest := []) jm_ok89 rfl rfl (by decide) (by decide +kernel) (j1re_V F1 X1 X2 q1.1 l7 l4 (gC_eq hg (fun j h1 h2 => f1 j (by omega))) (trC_eq hT (f1 74 (by decide)) (f1 75 (by decide)) (f1 76 (by decide)))) (fun F3 F' hR p1 p2 => ?_)
  obtain ⟨r1, r2⟩ := hR
  have r1' : qC [74, 75, 76] F1 F3 := qC_dst r1 p1
  have k82 : sy_i F3 82 = f := (eI (p2 82 (by decide) (by decide))).trans j82
  have k83 : sy_i F3 83 = w := (eI (p2 83 (by decide) (by decide))).trans j83
  refine j1pr_56 (by decide) F3 X1 X2 r1'.1 (by rw [k82]; omega) (by rw [k83]; omega) ?_
  intro F4 hb4 g4 a57
  rw [k82, k83] at a57
  have f3 : ∀ j, 50 ≤ j → j < 62 → F3 j = F j := fun j h1 h2 => (r1'.2 j (by omega) (by simp; omega)).trans (f1 j (by omega))
  exact ⟨_, F4, rfl, rfl, rfl, qq_on (qq_trans (qq_up q1 (by decide)) (qq_up r1' (by decide))) hb4 g4 (by decide), gC_up (gC_eq hg (fun j h1 h2 => f3 j h1 (by omega))) (by decide) rfl a57 (fun j h1 h2 h3 => g4 j (by omega) (by intro z; simp at z; exact h3 z)), trC_eq r2 ((g4 74 (by decide) (by decide)).trans (p1 74 (by decide))) ((g4 75 (by decide) (by decide)).trans (p1 75 (by decide))) ((g4 76 (by decide) (by decide)).trans (p1 76 (by decide)))⟩
theorem j1pr_V (hC : xC 3 T F) (hg : gC 50 (nfS T) (nbS T) F g) {U : List gS} (hT : trC (nfS T) (nbS T) F U) (f v : Int32) (hv : 0 ≤ v.toInt ∧ v.toInt ≤ 1) : jm_T Ls xs 3 jm_M89 [.ref 8, .int f, .int v] (sy_dh F X1 X2 (iv_H 1)) 0 0 (pI 1 X1 X2 (fun x F' => (¬ (0 ≤ f.toInt ∧ f.toInt < nfS T ∧ (g 2 f.toInt.toNat).toInt = 0 ∧ g 5 f.toInt.toNat ≠ v) → x = 0 ∧ qC [] F F') ∧ (0 ≤ f.toInt ∧ f.toInt < nfS T ∧ (g 2 f.toInt.toNat).toInt = 0 ∧ g 5 f.toInt.toNat ≠ v → x = 1 ∧ qC [57, 74, 75, 76] F F' ∧ gC 50 (nfS T) (nbS T) F' (upS g 5 f.toInt.toNat v) ∧ trC (nfS T) (nbS T) F' (rmS g U)))) := by
  have l7 : nfS T ≤ 7 := hC.2.2.1.1.1
  have enf : (sy_i F 3).toInt = (nfS T : Int) := hC.2.1.1.1
  refine C_T (by decide) [f, v] [.inl (.ref 8), .inr (.inl 82), .inr (.inl 83)] jm_ok89 (by decide) rfl (fun F0 k0 ki => ?_)
  have i82 : sy_i F0 82 = f := ki 0
  have i83 : sy_i F0 83 = v := ki 1
  have enf0 : (sy_i F0 3).toInt = (nfS T : Int) := by rw [nz_fi (k0 3 (by decide))]; exact enf
  have rd : f.toInt.toNat < nfS T → ((sy_ai F0 54).getD f.toInt.toNat 0) = g 2 f.toInt.toNat := fun h => by
    rw [nz_fa (k0 54 (by decide))]
    exact hg.1 2 _ (by decide) (vF (by decide) h)
  have rp : f.toInt.toNat < nfS T → ((sy_ai F0 57).getD f.toInt.toNat 0) = g 5 f.toInt.toNat := fun h => by
    rw [nz_fa (k0 57 (by decide))]
    exact hg.1 5 _ (by decide) (vF (by decide) h)
  have no : ∀ F1 : Nat → sy_d, iv_in F1 iv_B0 → (∀ j, j < 82 → j ∉ ([] : List Nat) → F1 j = F0 j) → ¬ (0 ≤ f.toInt ∧ f.toInt < nfS T ∧ (g 2 f.toInt.toNat).toInt = 0 ∧ g 5 f.toInt.toNat ≠ v) → pI 1 X1 X2 (fun x F' => (¬ (0 ≤ f.toInt ∧ f.toInt < nfS T ∧ (g 2 f.toInt.toNat).toInt = 0 ∧ g 5 f.toInt.toNat ≠ v) → x = 0 ∧ qC [] F F') ∧ (0 ≤ f.toInt ∧ f.toInt < nfS T ∧ (g 2 f.toInt.toNat).toInt = 0 ∧ g 5 f.toInt.toNat ≠ v → x = 1 ∧ qC [57, 74, 75, 76] F F' ∧ gC 50 (nfS T) (nbS T) F' (upS g 5 f.toInt.toNat v) ∧ trC (nfS T) (nbS T) F' (rmS g U))) (some (.int (0 : Int32))) (sy_dh F1 X1 X2 (iv_H 1)) := fun F1 hb1 gg h => ⟨_, F1, rfl, rfl, fun _ => ⟨rfl, qq_src (qq_mk hb1 gg (by decide)) k0⟩, fun z => absurd z h⟩
  have yes : ∀ (F1 : Nat → sy_d) (w : Int32), w = v → iv_in F1 iv_B0 → (∀ j, j < 82 → j ∉ ([] : List Nat) → F1 j = F0 j) → sy_i F1 82 = sy_i F0 82 → sy_i F1 83 = w → (0 ≤ f.toInt ∧ f.toInt < nfS T ∧ (g 2 f.toInt.toNat).toInt = 0 ∧ g 5 f.toInt.toNat ≠ v) → hd_W Ls xs 3 jm_M89 (pI 1 X1 X2 (fun x F' => (¬ (0 ≤ f.toInt ∧ f.toInt < nfS T ∧ (g 2 f.toInt.toNat).toInt = 0 ∧ g 5 f.toInt.toNat ≠ v) → x = 0 ∧ qC [] F F') ∧ (0 ≤ f.toInt ∧ f.toInt < nfS T ∧ (g 2 f.toInt.toNat).toInt = 0 ∧ g 5 f.toInt.toNat ≠ v → x = 1 ∧ qC [57, 74, 75, 76] F F' ∧ gC 50 (nfS T) (nbS T) F' (upS g 5 f.toInt.toNat v) ∧ trC (nfS T) (nbS T) F' (rmS g U)))) (53, sy_dL F1 [some (.inl (.ref 8)), some (.inr (.inl 82)), none, some (.inr (.inl 83))], sy_dS F1 [.inl (.ref 46), .inl (.ref 66)], sy_dh F1 X1 X2 (iv_H 1), 0, 0) := fun F1 w ew hb1 gg j82 j83 h => by
    subst ew
    refine hd_mono (j1pr_W F X1 X2 hC hg hT ⟨h.1, h.2.1⟩ hv (qq_src (qq_mk hb1 gg (by decide)) k0) (j82.trans i82) j83) ?_
    rintro x G ⟨r, F', e1, e2, e3⟩
    exact ⟨r, F', e1, e2, fun z => absurd h z, fun _ => e3⟩
  have z0 : (0 : Int32).toInt = 0 := by decide
  have z1 : (1 : Int32).toInt = 1 := by decide
  refine j1pr_0 (by decide) F0 X1 X2 (hd_iveq0 hC.1 k0) ?_ ?_ ?_ ?_ ?_ ?_ ?_ ?_ ?_ ?_
  · intro cv c0 F1 hb1 gg
    rw [i82] at c0
    exact no F1 hb1 gg (fun h => absurd h.1 (by omega))
  · intro cv c0 c1 F1 hb1 gg
    rw [i82] at c0 c1
    exact no F1 hb1 gg (fun h => absurd h.2.1 (by omega))
  · intro cv c0 c1 c2 F1 hb1 gg
    rw [i82] at c0 c1 c2
    rw [rd (by omega)] at c2
    exact no F1 hb1 gg (fun h => c2 h.2.2.1)
  · intro cv c0 c1 c2 c3 F1 hb1 gg e82 j82 e83 j83
    rw [i83] at cv
    rw [i82] at c0 c1 c2 c3
    rw [rd (by omega)] at c2
    rw [rp (by omega)] at c3
    have ev : (0 : Int32) = v := Int32.toInt_inj.mp (by omega)
    exact yes F1 0 ev hb1 gg j82 j83 ⟨c0, by omega, c2, fun z => c3 (by rw [z, ← ev]; exact z0)⟩
  · intro cv c0 c1 c2 c3 F1 hb1 gg
    rw [i83] at cv
    rw [i82] at c0 c1 c2 c3
    rw [rp (by omega)] at c3
    have ev : (0 : Int32) = v := Int32.toInt_inj.mp (by omega)
    exact no F1 hb1 gg (fun h => h.2.2.2 (Int32.toInt_inj.mp (by rw [← ev]; omega)))
  · intro cv c0 F1 hb1 gg
    rw [i82] at c0
    exact no F1 hb1 gg (fun h => absurd h.1 (by omega))
  · intro cv c0 c1 F1 hb1 gg
    rw [i82] at c0 c1
    exact no F1 hb1 gg (fun h => absurd h.2.1 (by omega))
  · intro cv c0 c1 c2 F1 hb1 gg
    rw [i82] at c0 c1 c2
    rw [rd (by omega)] at c2
    exact no F1 hb1 gg (fun h => c2 h.2.2.1)
  · intro cv c0 c1 c2 c3 F1 hb1 gg e82 j82 e83 j83
    rw [i83] at cv
    rw [i82] at c0 c1 c2 c3
    rw [rd (by omega)] at c2
    rw [rp (by omega)] at c3
    have ev : (1 : Int32) = v := Int32.toInt_inj.mp (by omega)
    exact yes F1 1 ev hb1 gg j82 j83 ⟨c0, by omega, c2, fun z => c3 (by rw [z, ← ev]; exact z1)⟩
  · intro cv c0 c1 c2 c3 F1 hb1 gg
    rw [i83] at cv
    rw [i82] at c0 c1 c2 c3
    rw [rp (by omega)] at c3
    have ev : (1 : Int32) = v := Int32.toInt_inj.mp (by omega)
    exact no F1 hb1 gg (fun h => h.2.2.2 (Int32.toInt_inj.mp (by rw [← ev]; omega)))
noncomputable def j1sqP (T : tX) (g : gS) (U : List gS) (f : Nat) (F : Nat → sy_d) (x : Int32) (F' : Nat → sy_d) : Prop := qC [45, 46, 51, 52, 58, 74, 75, 76] F F' ∧ trC (nfS T) (nbS T) F' (rmS g U) ∧ (fdS T g → x = 1 ∧ gC 50 (nfS T) (nbS T) F' (fndS T g f)) ∧ (¬ fdS T g → x = 0 ∧ gC 50 (nfS T) (nbS T) F' (shkS g f))
theorem j1sq_V (hC : xC 3 T F) (hg : gC 50 (nfS T) (nbS T) F g) {U : List gS} (hT : trC (nfS T) (nbS T) F U) (f : Int32) : jm_T Ls xs 6 jm_M90 [.ref 8, .int f] (sy_dh F X1 X2 (iv_H 1)) 0 0 (pI 1 X1 X2 (fun x F' => (¬ (0 ≤ f.toInt ∧ f.toInt < nfS T) → x = -1 ∧ qC [] F F') ∧ (0 ≤ f.toInt ∧ f.toInt < nfS T → (g 2 f.toInt.toNat).toInt ≠ 0 → x = -2 ∧ qC [] F F') ∧ (0 ≤ f.toInt ∧ f.toInt < nfS T → (g 2 f.toInt.toNat).toInt = 0 → j1sqP T g U f.toInt.toNat F x F'))) := by
  have l7 : nfS T ≤ 7 := hC.2.2.1.1.1
  have l4 : nbS T ≤ 4 := hC.2.2.1.1.2.1
  have enf : (sy_i F 3).toInt = (nfS T : Int) := hC.2.1.1.1
  refine C_T (by decide) [f] [.inl (.ref 8), .inr (.inl 82)] jm_ok90 (by decide) rfl (fun F0 k0 ki => ?_)
  have i82 : sy_i F0 82 = f := ki 0
  have enf0 : (sy_i F0 3).toInt = (nfS T : Int) := by rw [nz_fi (k0 3 (by decide))]; exact enf
  have rd : f.toInt.toNat < nfS T → ((sy_ai F0 54).getD f.toInt.toNat 0) = g 2 f.toInt.toNat := fun h => by
    rw [nz_fa (k0 54 (by decide))]
    exact hg.1 2 _ (by decide) (vF (by decide) h)
  refine j1sq_0 (by decide) F0 X1 X2 (hd_iveq0 hC.1 k0) ?_ ?_ ?_ ?_
  · intro c0 F1 hb1 gg
    rw [i82] at c0
    exact ⟨_, F1, rfl, rfl, fun _ => ⟨rfl, qq_src (qq_mk hb1 gg (by decide)) k0⟩, fun h => absurd h.1 (by omega), fun h => absurd h.1 (by omega)⟩
  · intro c0 c1 F1 hb1 gg
    rw [i82] at c0 c1
    exact ⟨_, F1, rfl, rfl, fun _ => ⟨rfl, qq_src (qq_mk hb1 gg (by decide)) k0⟩, fun h => absurd h.2 (by omega), fun h => absurd h.2 (by omega)⟩
  · intro c0 c1 c2 F1 hb1 gg e82 j82
    rw [i82] at c0 c1 c2 j82
    have hlt : f.toInt.toNat < nfS T := by omega
    rw [rd hlt] at c2
    have q1 : qC [] F F1 := qq_src (qq_mk hb1 gg (by decide)) k0
    have f1 : ∀ j, j < 82 → F1 j = F j := fun j hj => q1.2 j hj (by simp)
    refine hd_calV (R := fun F' => qC [74, 75, 76] F1 F' ∧ trC (nfS T) (nbS T) F' (rmS g U)) (nh := 82) (nv := 83) (s := 1) (s1 := 1) (d1 := 2) (M1 := jm_M78) (As := [.inl (.ref 66), .inl (.ref 46)]) (rest := []) jm_ok90 rfl rfl (by decide) (by decide +kernel) (j1re_V F1 X1 X2 hb1 l7 l4 (gC_eq hg (fun j h1 h2 => f1 j (by omega))) (trC_eq hT (f1 74 (by decide)) (f1 75 (by decide)) (f1 76 (by decide)))) (fun F3 F' hR p1 p2 => ?_)
    obtain ⟨r1, r2⟩ := hR
    have r1' : qC [74, 75, 76] F1 F3 := qC_dst r1 p1
    have q3 : qC [74, 75, 76] F F3 := qq_trans (qq_up q1 (by decide)) r1'
    have t3 : trC (nfS T) (nbS T) F3 (rmS g U) := trC_eq r2 (p1 74 (by decide)) (p1 75 (by decide)) (p1 76 (by decide))
    have k82 : sy_i F3 82 = f := (eI (p2 82 (by decide) (by decide))).trans j82
    have g3 : gC 50 (nfS T) (nbS T) F3 g := gC_eq hg (fun j h1 h2 => q3.2 j (by omega) (by simp; omega))
    have sd3 : sy_i F3 7 = Int32.ofInt T.2.2.2.2.1 := (qq_i q3 (by decide) (by decide)).trans (ofi hC.2.1.2.2.2.2.1).symm
    have n3 : sy_i F3 51 = g 9 1 := g3.2 1 (by decide)
    have h3 : sy_i F3 50 = g 9 0 := g3.2 0 (by decide)
    refine j1sq_36 (by decide) F3 X1 X2 r1'.1 (by rw [k82]; omega) ?_
    intro F4 hb4 g4 e51 i51 a58 e82' i82' e83 i83 e84 i84
    rw [k82] at a58
    rw [n3] at i51
    rw [sd3, n3] at i82'
    rw [h3] at i83
    have i82' : sy_i F4 82 = lotS (Int32.ofInt T.2.2.2.2.1) ((1000000 : Int32) + g 9 1) := i82'
    have q4 : qC [51, 58, 74, 75, 76] F F4 := qq_on (qq_up q3 (by decide)) hb4 g4 (by decide)
    have r6 : (sy_ai F3 58).getD f.toInt.toNat 0 = g 6 f.toInt.toNat := g3.1 6 _ (by decide) (vF (by decide) hlt)
    rw [r6] at a58
    have g4' : gC 50 (nfS T) (nbS T) F4 (shkS g f.toInt.toNat) := gC_upn (k := 1) g3 (by decide) rfl (by decide) a58 i51 (fun j h1 h2 h3 h4 => g4 j (by omega) (by intro z; simp at z; rcases z with z | z; exact h4 z; exact h3 z))
    have t4 : trC (nfS T) (nbS T) F4 (rmS g U) := trC_eq t3 (g4 74 (by decide) (by decide)) (g4 75 (by decide) (by decide)) (g4 76 (by decide) (by decide))
    have c4 := xC_q (by decide) hC q4 (by decide)
    refine hd_calI (R := fun x F' => qC [] F4 F' ∧ x = ppS (mkS (shkS g f.toInt.toNat) (0 : Int32).toInt (nfS T))) (nh := 82) (nv := 84) (s := 1) (s1 := 1) (d1 := 2) (M1 := jm_M12) (As := [.inl (.ref 46), .inl (.int 0), .inr (.inl 84)]) (rest := [.inr (.inl 83), .inl (.ref 10), .inl (.ref 38)]) jm_ok90 rfl rfl (by decide) (by decide +kernel) (j1nhm_V F4 X1 X2 c4 g4' 0 _ (by rw [e84, qq_i q3 (j := 3) (by decide) (by decide)]; exact enf)) (fun F5 F6 x hR5 s1 s2 s3 => ?_)
    obtain ⟨u1, u2⟩ := hR5
    have q5 : qC [51, 58, 74, 75, 76] F F5 := qq_trans q4 (qq_up (qC_dst u1 s1) (by decide))
    have c5 := xC_q (by decide) hC q5 (by decide)
    have k84 : sy_i F5 84 = lfS T g := (zz_i s3).trans (u2.trans (lf_shk T g f.toInt.toNat))
    have k83 : sy_i F5 83 = g 9 0 := (eI (s2 83 (by decide) (by decide))).trans i83
    have k82b : sy_i F5 82 = lotS (Int32.ofInt T.2.2.2.2.1) ((1000000 : Int32) + g 9 1) := (eI (s2 82 (by decide) (by decide))).trans i82'
    have f45 : ∀ j, j < 82 → F5 j = F4 j := fun j hj => (s1 j hj).trans (u1.2 j hj (by simp))
    refine hd_calV (R := fun F' => qC [45, 46] F5 F' ∧ v45 F' 2 = sy_i F5 83 ∧ v45 F' 8 = sy_i F5 84 ∧ v45 F' 3 = Int32.ofInt (windT T (sy_i F5 83) (sy_i F5 84))) (nh := 82) (nv := 83) (s := 1) (s1 := 1) (d1 := 5) (M1 := jm_M17) (As := [.inl (.ref 38), .inl (.ref 10), .inr (.inl 83), .inr (.inl 84)]) (rest := []) jm_ok90 rfl rfl (by decide) (by decide +kernel) (j1sh_V F5 X1 X2 c5 _ _) (fun F7 F8 hR7 w1 w2 => ?_)
    obtain ⟨v1, v2, v3, v4⟩ := hR7
    rw [k83] at v2 v4
    rw [k84] at v3 v4
    have v1' : qC [45, 46] F5 F7 := qC_dst v1 w1
    have q7 : qC [45, 46, 51, 52, 58, 74, 75, 76] F F7 := qq_trans (qq_up q5 (by decide)) (qq_up v1' (by decide))
    have e45 : v45 F7 = v45 F8 := by unfold v45; rw [nz_fa (w1 45 (by decide))]
    have k82c : sy_i F7 82 = lotS (Int32.ofInt T.2.2.2.2.1) ((1000000 : Int32) + g 9 1) := (eI (w2 82 (by decide) (by decide))).trans k82b
    refine j1sq_116 (by decide) F7 X1 X2 q7.1 ?_
    intro F9 hb9 g9 a45 e82'' i82''
    have n7 : sy_i F7 51 = g 9 1 + 1 := (qq_i v1' (by decide) (by decide)).trans ((eI (f45 51 (by decide))).trans i51)
    rw [n7] at a45
    have q9 : qC [45, 46, 51, 52, 58, 74, 75, 76] F F9 := qq_on q7 hb9 g9 (by decide)
    have c9 := xC_q (by decide) hC q9 (by decide)
    have key : ∀ j : Nat, v45 F9 j = if j = (5 : Int).toNat then g 9 1 + 1 else v45 F7 j := fun j => by
      show (sy_ai F9 45).getD j 0 = _
      rw [a45, jm_upd_at]
      rfl
    have hfd : lwT T 5 (v45 F9) = foundT T (g 9 1 + 1) (Int32.ofInt (wiS T g)) (g 9 0) (lfS T g) := lwT_cg hC.2.2.1 (nine9 (fun t => absurd t (by decide)) (fun t => absurd t (by decide)) (fun _ => by rw [key, e45]; exact v2) (fun _ => by rw [key, e45]; exact v4) (fun t => absurd t (by decide)) (fun _ => by rw [key]; rfl) (fun t => absurd t (by decide)) (fun t => absurd t (by decide)) (fun _ => by rw [key, e45]; exact v3))
    refine hd_calI (R := fun x F' => qC [46] F9 F' ∧ x.toInt = lwT T 5 (v45 F9)) (nh := 82) (nv := 83) (s := 1) (s1 := 1) (d1 := 4) (M1 := jm_M21) (As := [.inl (.ref 38), .inl (.ref 10), .inl (.int 5)]) (rest := [.inr (.inl 82)]) jm_ok90 rfl rfl (by decide) (by decide +kernel) (j1tl_V F9 X1 X2 c9 (by decide) (by decide)) (fun FA FB y hRA y1 y2 y3 => ?_)
    obtain ⟨z1, z2⟩ := hRA
    rw [hfd] at z2
    have z1' : qC [46] F9 FA := qC_dst z1 y1
    have qA : qC [45, 46, 51, 52, 58, 74, 75, 76] F FA := qq_trans q9 (qq_up z1' (by decide))
    have m82 : sy_i FA 82 = lotS (Int32.ofInt T.2.2.2.2.1) ((1000000 : Int32) + g 9 1) := (eI (y2 82 (by decide) (by decide))).trans (i82''.trans k82c)
    have m83 : (sy_i FA 83).toInt = foundT T (g 9 1 + 1) (Int32.ofInt (wiS T g)) (g 9 0) (lfS T g) := by rw [zz_i y3]; exact z2
    have fA : ∀ j, j < 82 → j ≠ 45 → j ≠ 46 → FA j = F4 j := fun j hj n1 n2 => (z1'.2 j hj (by simp; omega)).trans ((g9 j hj (by simp; omega)).trans ((v1'.2 j hj (by simp; omega)).trans (f45 j hj)))
    have gA : gC 50 (nfS T) (nbS T) FA (shkS g f.toInt.toNat) := gC_eq g4' (fun j h1 h2 => fA j (by omega) (by omega) (by omega))
    have tA : trC (nfS T) (nbS T) FA (rmS g U) := trC_eq t4 (fA 74 (by decide) (by decide) (by decide)) (fA 75 (by decide) (by decide) (by decide)) (fA 76 (by decide) (by decide) (by decide))
    have hfd2 : fdS T g ↔ (sy_i FA 82).toInt < (sy_i FA 83).toInt := by rw [m82, m83]; exact Iff.rfl
    refine j1sq_145 (by decide) FA X1 X2 qA.1 ?_ ?_
    · intro d0 FC hbC gC'
      have hn : ¬ fdS T g := fun h => absurd (hfd2.mp h) (by omega)
      exact ⟨_, FC, rfl, rfl, fun h => absurd ⟨c0, by omega⟩ h, fun _ h => absurd c2 h, fun _ _ => ⟨qq_on qA hbC gC' (by decide), trC_eq tA (gC' 74 (by decide) (by decide)) (gC' 75 (by decide) (by decide)) (gC' 76 (by decide) (by decide)), fun h => absurd h hn, fun _ => ⟨rfl, gC_eq gA (fun j h1 h2 => gC' j (by omega) (by simp))⟩⟩⟩
    · intro d0 FC hbC gC' e52 i52
      have hy : fdS T g := hfd2.mpr d0
      have n52 : sy_i FA 52 = g 9 2 := (gA.2 2 (by decide)).trans (shkS_9 g f.toInt.toNat).2.2.1
      rw [n52] at i52
      exact ⟨_, FC, rfl, rfl, fun h => absurd ⟨c0, by omega⟩ h, fun _ h => absurd c2 h, fun _ _ => ⟨qq_on qA hbC gC' (by decide), trC_eq tA (gC' 74 (by decide) (by decide)) (gC' 75 (by decide) (by decide)) (gC' 76 (by decide) (by decide)), fun _ => ⟨rfl, gC_93 (gC_n gA (i := 2) (by decide) i52 (fun j h1 h2 h3 => gC' j (by omega) (by intro z; simp at z; exact h3 z))) _⟩, fun h => absurd hy h⟩⟩
  · intro c0 c1 c2 F1 hb1 gg
    rw [i82] at c0 c1 c2
    rw [rd (by omega)] at c2
    exact ⟨_, F1, rfl, rfl, fun h => absurd ⟨c0, by omega⟩ h, fun _ _ => ⟨rfl, qq_src (qq_mk hb1 gg (by decide)) k0⟩, fun _ z => absurd z c2⟩
theorem j1hq_L (hC : xC 3 T F) (hO : okS T g) {U : List gS} {N : Nat} (hN : N ≤ 48) : ∀ (m : Nat) (F1 : Nat → sy_d) (n : Nat), n + m = N → qC [45, 46, 50, 51, 52, 53, 54, 55, 56, 57, 58, 59, 60, 61, 74, 75, 76] F F1 → (sy_i F1 82).toInt = N → (sy_i F1 83).toInt = n → gC 50 (nfS T) (nbS T) F1 (hrsS T (Int32.ofInt T.2.2.2.2.1) g n) → trC (nfS T) (nbS T) F1 U →
    hd_W Ls xs 8 jm_M91 (pI 1 X1 X2 (fun x F' => x = hrsS T (Int32.ofInt T.2.2.2.2.1) g N 9 0 ∧ qC [45, 46, 50, 51, 52, 53, 54, 55, 56, 57, 58, 59, 60, 61, 74, 75, 76] F F' ∧ gC 50 (nfS T) (nbS T) F' (hrsS T (Int32.ofInt T.2.2.2.2.1) g N) ∧ trC (nfS T) (nbS T) F' U)) (29, sy_dL F1 [some (.inl (.ref 8)), some (.inr (.inl 82)), some (.inr (.inl 83))], sy_dS F1 [], sy_dh F1 X1 X2 (iv_H 1), 0, 0) := by
  intro m
  induction m with
  | zero =>
    intro F1 n hm hq e82 e83 hG hU
    have en : n = N := by omega
    subst en
    refine j1hq_29 (by decide) F1 X1 X2 hq.1 (by omega) (by omega) ?_ ?_
    · intro c0 F2 hb gg
      exact ⟨_, F2, rfl, rfl, hG.2 0 (by decide), qq_on hq hb gg (by decide), gC_eq hG (fun j h1 h2 => gg j (by omega) (by simp)), trC_eq hU (gg 74 (by decide) (by decide)) (gg 75 (by decide) (by decide)) (gg 76 (by decide) (by decide))⟩
    · intros
      omega
  | succ m ih =>
    intro F1 n hm hq e82 e83 hG hU
    refine j1hq_29 (by decide) F1 X1 X2 hq.1 (by omega) (by omega) ?_ ?_
    · intros
      omega
    · intro c0 F2 hb gg f82 i82 f83 i83 f84 i84
      have q2 := qq_on hq hb gg (by decide)
      have c2 := xC_q (by decide) hC q2 (by decide)
      have sd2 : sy_i F2 84 = Int32.ofInt T.2.2.2.2.1 := i84.trans ((qq_i hq (by decide) (by decide)).trans (ofi hC.2.1.2.2.2.2.1).symm)
      have g2 : gC 50 (nfS T) (nbS T) F2 (hrsS T (Int32.ofInt T.2.2.2.2.1) g n) := gC_eq hG (fun j h1 h2 => gg j (by omega) (by simp))
      have u2 : trC (nfS T) (nbS T) F2 U := trC_eq hU (gg 74 (by decide) (by decide)) (gg 75 (by decide) (by decide)) (gg 76 (by decide) (by decide))
      refine hd_calV (R := fun F' => qC W1n F2 F' ∧ gC 50 (nfS T) (nbS T) F' (hourS T (sy_i F2 84) (hrsS T (Int32.ofInt T.2.2.2.2.1) g n))) (nh := 82) (nv := 84) (s := 1) (s1 := 1) (d1 := 7) (M1 := jm_M3) (As := [.inl (.ref 41), .inl (.ref 10), .inl (.ref 46), .inr (.inl 84)]) (rest := []) jm_ok91 rfl rfl (by decide) (by decide +kernel) (j1nph_V F2 X1 X2 c2 g2 (okS_hrs hO n) _) (fun F3 F' hR p1 p2 => ?_)
      obtain ⟨r1, r2⟩ := hR
      rw [sd2] at r2
      have r1' : qC W1n F2 F3 := qC_dst r1 p1
      refine j1hq_56 (by decide) F3 X1 X2 r1'.1 (by rw [nz_fi (p2 83 (by decide) (by decide))]; omega) ?_
      intro F4 hb4 g4 h82 k82 h83 k83
      have q4 : qC [45, 46, 50, 51, 52, 53, 54, 55, 56, 57, 58, 59, 60, 61, 74, 75, 76] F F4 := qq_on (qq_trans q2 (qq_up r1' (by decide))) hb4 g4 (by decide)
      refine ih F4 (n + 1) (by omega) q4 (by rw [h82, nz_fi (p2 82 (by decide) (by decide))]; omega) (by rw [h83, nz_fi (p2 83 (by decide) (by decide))]; omega) (gC_eq r2 (fun j h1 h2 => (g4 j (by omega) (by simp)).trans (p1 j (by omega)))) (trC_eq u2 ?_ ?_ ?_)
      · exact (g4 74 (by decide) (by decide)).trans (r1'.2 74 (by decide) (by decide))
      · exact (g4 75 (by decide) (by decide)).trans (r1'.2 75 (by decide) (by decide))
      · exact (g4 76 (by decide) (by decide)).trans (r1'.2 76 (by decide) (by decide))
theorem j1hq_V (hC : xC 3 T F) (hg : gC 50 (nfS T) (nbS T) F g) (hO : okS T g) {U : List gS} (hT : trC (nfS T) (nbS T) F U) (n : Int32) : jm_T Ls xs 8 jm_M91 [.ref 8, .int n] (sy_dh F X1 X2 (iv_H 1)) 0 0 (pI 1 X1 X2 (fun x F' => (¬ (0 ≤ n.toInt ∧ n.toInt ≤ 48) → x = -1 ∧ qC [] F F') ∧ (n.toInt = 0 → x = g 9 0 ∧ qC [] F F') ∧ (1 ≤ n.toInt ∧ n.toInt ≤ 48 → x = hrsS T (Int32.ofInt T.2.2.2.2.1) g n.toInt.toNat 9 0 ∧ qC [45, 46, 50, 51, 52, 53, 54, 55, 56, 57, 58, 59, 60, 61, 74, 75, 76] F F' ∧ gC 50 (nfS T) (nbS T) F' (hrsS T (Int32.ofInt T.2.2.2.2.1) g n.toInt.toNat) ∧ trC (nfS T) (nbS T) F' (rmS g U)))) := by
  have l7 : nfS T ≤ 7 := hC.2.2.1.1.1
  have l4 : nbS T ≤ 4 := hC.2.2.1.1.2.1
  refine C_T (by decide) [n] [.inl (.ref 8), .inr (.inl 82)] jm_ok91 (by decide) rfl (fun F0 k0 ki => ?_)
  have i82 : sy_i F0 82 = n := ki 0
  refine j1hq_0 (by decide) F0 X1 X2 (hd_iveq0 hC.1 k0) ?_ ?_ ?_ ?_
  · intro c0 F1 hb1 gg
    rw [i82] at c0
    exact ⟨_, F1, rfl, rfl, fun _ => ⟨rfl, qq_src (qq_mk hb1 gg (by decide)) k0⟩, fun h => absurd h (by omega), fun h => absurd h.1 (by omega)⟩
  · intro c0 c1 F1 hb1 gg
    rw [i82] at c0 c1
    exact ⟨_, F1, rfl, rfl, fun _ => ⟨rfl, qq_src (qq_mk hb1 gg (by decide)) k0⟩, fun h => absurd h (by omega), fun h => absurd h.2 (by omega)⟩
  · intro c0 c1 c2 F1 hb1 gg
    rw [i82] at c0 c1 c2
    exact ⟨_, F1, rfl, rfl, fun h => absurd ⟨c0, c1⟩ h, fun _ => ⟨(eI (k0 50 (by decide))).trans (hg.2 0 (by decide)), qq_src (qq_mk hb1 gg (by decide)) k0⟩, fun h => absurd h.1 (by omega)⟩
  · intro c0 c1 c2 F1 hb1 gg e82 j82
    rw [i82] at c0 c1 c2 j82
    have q1 : qC [] F F1 := qq_src (qq_mk hb1 gg (by decide)) k0
    have f1 : ∀ j, j < 82 → F1 j = F j := fun j hj => q1.2 j hj (by simp)
    refine hd_calV (R := fun F' => qC [74, 75, 76] F1 F' ∧ trC (nfS T) (nbS T) F' (rmS g U)) (nh := 82) (nv := 83) (s := 1) (s1 := 1) (d1 := 2) (M1 := jm_M78) (As := [.inl (.ref 66), .inl (.ref 46)]) (rest := []) jm_ok91 rfl rfl (by decide) (by decide +kernel) (j1re_V F1 X1 X2 hb1 l7 l4 (gC_eq hg (fun j h1 h2 => f1 j (by omega))) (trC_eq hT (f1 74 (by decide)) (f1 75 (by decide)) (f1 76 (by decide)))) (fun F3 F' hR p1 p2 => ?_)
    obtain ⟨r1, r2⟩ := hR
    have r1' : qC [74, 75, 76] F1 F3 := qC_dst r1 p1
    have q3 : qC [74, 75, 76] F F3 := qq_trans (qq_up q1 (by decide)) r1'
    have k82 : sy_i F3 82 = n := (eI (p2 82 (by decide) (by decide))).trans j82
    refine j1hq_27 (by decide) F3 X1 X2 q3.1 ?_
    intro F4 hb4 g4 h82 m82 h83 m83
    have f4 : ∀ j, j < 82 → F4 j = F3 j := fun j hj => g4 j hj (by simp)
    refine hd_mono (j1hq_L F X1 X2 hC hO (U := rmS g U) (N := n.toInt.toNat) (by omega) n.toInt.toNat F4 0 (by omega) (qq_on (qq_up q3 (by decide)) hb4 g4 (by decide)) (by rw [h82, k82]; omega) h83 (gC_eq hg (fun j h1 h2 => (f4 j (by omega)).trans (q3.2 j (by omega) (by simp; omega)))) (trC_eq r2 ((f4 74 (by decide)).trans (p1 74 (by decide))) ((f4 75 (by decide)).trans (p1 75 (by decide))) ((f4 76 (by decide)).trans (p1 76 (by decide))))) ?_
    rintro x G ⟨r, F', e1, e2, e3⟩
    exact ⟨r, F', e1, e2, fun h => absurd ⟨c0, c1⟩ h, fun h => absurd h (by omega), fun _ => e3⟩
end SH1
