/-! ===== go, prop on the class's side (shape 2) ===== -/
section GP2
variable {Ls : Nat} {xs : Nat → Int32} {T : tX} {g : gS} (F : Nat → sy_d) (X1 X2 : List jm_c)
theorem j2go_V (hC : xC 18 T F) (hg : gC 50 (nfS T) (nbS T) F g) {U : List gS} (hT : trC (nfS T) (nbS T) F U) (b v : Int32) : jm_T Ls xs 3 jm_M88 [.ref 8, .int b, .int v] (sy_dh F X1 X2 (iv_H 2)) 0 0 (pI 2 X1 X2 (fun x F' => (¬ (0 ≤ b.toInt ∧ b.toInt < nbS T ∧ 0 ≤ v.toInt ∧ v.toInt ≤ 9 ∧ g 7 b.toInt.toNat ≠ v) → x = 0 ∧ qC [] F F') ∧ (0 ≤ b.toInt ∧ b.toInt < nbS T ∧ 0 ≤ v.toInt ∧ v.toInt ≤ 9 ∧ g 7 b.toInt.toNat ≠ v → x = 1 ∧ qC [60, 74, 75, 76] F F' ∧ gC 50 (nfS T) (nbS T) F' (upS g 7 b.toInt.toNat v) ∧ trC (nfS T) (nbS T) F' (rmS g U)))) := by
  have l7 : nfS T ≤ 7 := hC.2.2.1.1.1
  have l4 : nbS T ≤ 4 := hC.2.2.1.1.2.1
  have enb : (sy_i F 19).toInt = (nbS T : Int) := hC.2.1.2.1.1
  refine C_T (by decide) [b, v] [.inl (.ref 8), .inr (.inl 82), .inr (.inl 83)] jm_ok88 (by decide) rfl (fun F0 k0 ki => ?_)
  have i82 : sy_i F0 82 = b := ki 0
  have i83 : sy_i F0 83 = v := ki 1
  have enb0 : (sy_i F0 19).toInt = (nbS T : Int) := by rw [nz_fi (k0 19 (by decide))]; exact enb
  have rd : b.toInt.toNat < nbS T → ((sy_ai F0 60).getD b.toInt.toNat 0) = g 7 b.toInt.toNat := fun h => by
    rw [nz_fa (k0 60 (by decide))]
    exact hg.1 7 _ (by decide) (Or.inr (Or.inl ⟨Or.inl rfl, h⟩))
  refine j2go_0 (by decide) F0 X1 X2 (hd_iveq0 hC.1 k0) ?_ ?_ ?_ ?_ ?_ ?_
  · intro c0 F1 hb1 gg
    rw [i82] at c0
    exact ⟨_, F1, rfl, rfl, fun _ => ⟨rfl, qq_src (qq_mk hb1 gg (by decide)) k0⟩, fun h => absurd h.1 (by omega)⟩
  · intro c0 c1 F1 hb1 gg
    rw [i82] at c0 c1
    exact ⟨_, F1, rfl, rfl, fun _ => ⟨rfl, qq_src (qq_mk hb1 gg (by decide)) k0⟩, fun h => absurd h.2.1 (by omega)⟩
  · intro c0 c1 c2 F1 hb1 gg
    rw [i83] at c2
    exact ⟨_, F1, rfl, rfl, fun _ => ⟨rfl, qq_src (qq_mk hb1 gg (by decide)) k0⟩, fun h => absurd h.2.2.1 (by omega)⟩
  · intro c0 c1 c2 c3 F1 hb1 gg
    rw [i83] at c2 c3
    exact ⟨_, F1, rfl, rfl, fun _ => ⟨rfl, qq_src (qq_mk hb1 gg (by decide)) k0⟩, fun h => absurd h.2.2.2.1 (by omega)⟩
  · intro c0 c1 c2 c3 c4 F1 hb1 gg e82 j82 e83 j83
    rw [i82] at c0 c1 c4 j82
    rw [i83] at c2 c3 c4 j83
    have hlt : b.toInt.toNat < nbS T := by omega
    rw [rd hlt] at c4
    have hne : g 7 b.toInt.toNat ≠ v := fun z => c4 (congrArg Int32.toInt z)
    have q1 : qC [] F F1 := qq_src (qq_mk hb1 gg (by decide)) k0
    have f1 : ∀ j, j < 82 → F1 j = F j := fun j hj => q1.2 j hj (by simp)
    refine hd_calV (R := fun F' => qC [74, 75, 76] F1 F' ∧ trC (nfS T) (nbS T) F' (rmS g U)) (nh := 82) (nv := 84) (s := 2) (s1 := 2) (d1 := 2) (M1 := jm_M78) (As := [.inl (.ref 66), .inl (.ref 46)]) (rest := []) jm_ok88 rfl rfl (by decide) (by decide +kernel) (j2re_V F1 X1 X2 hb1 l7 l4 (gC_eq hg (fun j h1 h2 => f1 j (by omega))) (trC_eq hT (f1 74 (by decide)) (f1 75 (by decide)) (f1 76 (by decide)))) (fun F3 F' hR p1 p2 => ?_)
    obtain ⟨r1, r2⟩ := hR
    have r1' : qC [74, 75, 76] F1 F3 := qC_dst r1 p1
    have k82 : sy_i F3 82 = b := (eI (p2 82 (by decide) (by decide))).trans j82
    have k83 : sy_i F3 83 = v := (eI (p2 83 (by decide) (by decide))).trans j83
    refine j2go_44 (by decide) F3 X1 X2 r1'.1 (by rw [k82]; omega) (by rw [k83]; omega) ?_
    intro F4 hb4 g4 a60
    rw [k82, k83] at a60
    have f3 : ∀ j, 50 ≤ j → j < 62 → F3 j = F j := fun j h1 h2 => (r1'.2 j (by omega) (by simp; omega)).trans (f1 j (by omega))
    exact ⟨_, F4, rfl, rfl, fun h => absurd ⟨c0, by omega, c2, c3, hne⟩ h, fun _ => ⟨rfl, qq_on (qq_trans (qq_up q1 (by decide)) (qq_up r1' (by decide))) hb4 g4 (by decide), gC_up (gC_eq hg (fun j h1 h2 => f3 j h1 (by omega))) (by decide) rfl a60 (fun j h1 h2 h3 => g4 j (by omega) (by intro z; simp at z; exact h3 z)), trC_eq r2 ((g4 74 (by decide) (by decide)).trans (p1 74 (by decide))) ((g4 75 (by decide) (by decide)).trans (p1 75 (by decide))) ((g4 76 (by decide) (by decide)).trans (p1 76 (by decide)))⟩⟩
  · intro c0 c1 c2 c3 c4 F1 hb1 gg
    rw [i82] at c0 c1 c4
    rw [i83] at c4
    have hlt : b.toInt.toNat < nbS T := by omega
    rw [rd hlt] at c4
    have heq : g 7 b.toInt.toNat = v := Int32.toInt_inj.mp c4
    exact ⟨_, F1, rfl, rfl, fun _ => ⟨rfl, qq_src (qq_mk hb1 gg (by decide)) k0⟩, fun h => absurd heq h.2.2.2.2⟩
end GP2
