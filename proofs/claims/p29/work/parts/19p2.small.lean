/-! ===== the reference reads a text: small methods ===== -/
noncomputable def W1 : List Nat := [4, 6, 7, 8, 9]
section SM
variable {Ls : Nat} {xs : Nat → Int32} (F : Nat → sy_d) (X1 X2 : List jm_c)
theorem bo_T (hB : iv_in F iv_B4) (a b : Int32) : jm_T Ls xs 3 jm_M157 [.ref 1000, .int a, .int b] (sy_dh F X1 X2 (iv_H 4)) 0 0 (fun v G => ∃ (x : Int32) (F' : Nat → sy_d), v = some (.int x) ∧ G = sy_dh F' X1 X2 (iv_H 4) ∧ gr W1 F F' ∧ ((sy_i F' 6).toInt = 0 → (sy_i F' 4).toInt = (sy_i F 4).toInt + 1)) := by
  refine nz_T2 jm_ok157 (by decide) (fun F0 k0 _ _ => ?_)
  have i4 := nz_fi (k0 4 (by decide))
  have i6 := nz_fi (k0 6 (by decide))
  refine bo_0 (by decide) F0 X1 X2 (hd_iveq hB k0) ?_ ?_ ?_ ?_ ?_ ?_ ?_ ?_ ?_ ?_ ?_ ?_ ?_ ?_ ?_ ?_ ?_ ?_ ?_ ?_ ?_ ?_ ?_ ?_
  all_goals (intros; refine ⟨_, _, rfl, rfl, gr.src (gr_mk (W := W1) (by assumption) (by assumption) (by decide) ?_ ?_) k0, ?_⟩ <;> omega)
theorem na_loop (F0 : Nat → sy_d) (hB0 : iv_in F0 iv_B4) : ∀ (n : Nat) (F : Nat → sy_d), gr W1 F0 F → ((sy_i F 6).toInt = 0 → (sy_i F 4).toInt = (sy_i F0 4).toInt + 1) → (sy_i F 69).toInt = (sy_i F0 4).toInt → 0 ≤ (sy_i F 70).toInt → (sy_i F 70).toInt ≤ 11 → 11 - (sy_i F 70).toInt < n →
    hd_W Ls xs 4 jm_M155 (fun v G => ∃ (x : Int32) (F' : Nat → sy_d), v = some (.int x) ∧ G = sy_dh F' X1 X2 (iv_H 4) ∧ gr W1 F0 F' ∧ ((sy_i F' 6).toInt = 0 → (sy_i F' 4).toInt = (sy_i F0 4).toInt + 1) ∧ 0 ≤ x.toInt ∧ x.toInt ≤ 400) (12, sy_dL F [some (.inl (.ref 1000)), some (.inr (.inl 69)), some (.inr (.inl 70))], sy_dS F [], sy_dh F X1 X2 (iv_H 4), 0, 0)
  | 0, F, _, _, _, h1, h2, h3 => absurd h3 (by omega)
  | n + 1, F, hG, ht, h69, h1, h2, h3 => by
    have c4 := nz_bx hB0 (k := 4) (lo := 0) (hi := 400) rfl
    have c13 := nz_bx hG.b (k := 13) (lo := 0) (hi := 11) rfl
    refine na_12 (by decide) F X1 X2 hG.b (by omega) (by omega) ?_ ?_ ?_ ?_ ?_ ?_ ?_ ?_
    iterate 2 (intros; refine ⟨_, _, rfl, rfl, hG.trans (gr_mk (W := W1) (by assumption) (by assumption) (by decide) ?_ ?_) (by decide), ?_, ?_, ?_⟩ <;> omega)
    all_goals (intros; refine na_loop F0 hB0 n _ (hG.trans (gr_mk (W := W1) (by assumption) (by assumption) (by decide) ?_ ?_) (by decide)) ?_ ?_ ?_ ?_ ?_ <;> omega)
theorem na_T (hB : iv_in F iv_B4) : jm_T Ls xs 4 jm_M155 [.ref 1000] (sy_dh F X1 X2 (iv_H 4)) 0 0 (fun v G => ∃ (x : Int32) (F' : Nat → sy_d), v = some (.int x) ∧ G = sy_dh F' X1 X2 (iv_H 4) ∧ gr W1 F F' ∧ ((sy_i F' 6).toInt = 0 → (sy_i F' 4).toInt = (sy_i F 4).toInt + 1) ∧ 0 ≤ x.toInt ∧ x.toInt ≤ 400) := by
  refine nz_T0 jm_ok155 (by decide) (na_0 (by decide) F X1 X2 hB ?_ ?_ ?_ ?_)
  all_goals (intros; refine na_loop X1 X2 F hB 12 _ (gr_mk (W := W1) (by assumption) (by assumption) (by decide) ?_ ?_) ?_ ?_ ?_ ?_ ?_ <;> omega)
noncomputable def W2 : List Nat := [4, 6, 7, 8, 9, 13, 30]
theorem en_T (hB : iv_in F iv_B4) (a : Int32) (h1 : 0 ≤ a.toInt) (h2 : a.toInt ≤ 400) (hn : (sy_i F 13).toInt ≤ 10) : jm_T Ls xs 4 jm_M156 [.ref 1000, .int a] (sy_dh F X1 X2 (iv_H 4)) 0 0 (fun v G => ∃ F' : Nat → sy_d, v = none ∧ G = sy_dh F' X1 X2 (iv_H 4) ∧ gr W2 F F' ∧ ((sy_i F' 6).toInt = 0 → (sy_i F' 13).toInt = (sy_i F 13).toInt + 1 ∧ (sy_i F 4).toInt + 1 ≤ (sy_i F' 4).toInt)) := by
  refine nz_T1 jm_ok156 (by decide) (fun F0 k0 i69 => ?_)
  have i4 := nz_fi (k0 4 (by decide))
  have i6 := nz_fi (k0 6 (by decide))
  have i13 := nz_fi (k0 13 (by decide))
  have c13 := nz_bx hB (k := 13) (lo := 0) (hi := 11) rfl
  refine en_0 (by decide) F0 X1 X2 (hd_iveq hB k0) (by rw [i69]; exact ⟨h1, h2⟩) (by omega) (by omega) ?_ ?_ ?_ ?_
  all_goals (intros; refine ⟨_, rfl, rfl, gr.src (gr_mk (W := W2) (by assumption) (by assumption) (by decide) ?_ ?_) k0, ?_⟩ <;> omega)
theorem ti_T (hB : iv_in F iv_B4) (a b : Int32) : jm_T Ls xs 4 jm_M153 [.ref 1000, .int a, .int b] (sy_dh F X1 X2 (iv_H 4)) 0 0 (fun v G => ∃ (x : Int32) (F' : Nat → sy_d), v = some (.int x) ∧ G = sy_dh F' X1 X2 (iv_H 4) ∧ gr W1 F F' ∧ ((sy_i F' 6).toInt = 0 → (sy_i F 4).toInt + 1 ≤ (sy_i F' 4).toInt)) := by
  refine nz_T2 jm_ok153 (by decide) (fun F0 k0 _ _ => ?_)
  have i4 := nz_fi (k0 4 (by decide))
  have i6 := nz_fi (k0 6 (by decide))
  have step : ∀ F1 : Nat → sy_d, gr W1 F0 F1 → hd_W Ls xs 4 jm_M153 (fun v G => ∃ (x : Int32) (F' : Nat → sy_d), v = some (.int x) ∧ G = sy_dh F' X1 X2 (iv_H 4) ∧ gr W1 F F' ∧ ((sy_i F' 6).toInt = 0 → (sy_i F 4).toInt + 1 ≤ (sy_i F' 4).toInt)) (7, sy_dL F1 [some (.inl (.ref 1000)), none, none, none], sy_dS F1 [.inr (.inl 69), .inr (.inl 70), .inl (.ref 1000)], sy_dh F1 X1 X2 (iv_H 4), 0, 0) := by
    intro F1 hG
    refine hd_calI (R := fun _ F' => gr W1 F1 F' ∧ ((sy_i F' 6).toInt = 0 → (sy_i F' 4).toInt = (sy_i F1 4).toInt + 1)) (nh := 69) (nv := 71) (s := 4) (s1 := 4) (d1 := 3) (M1 := jm_M157) (As := [.inl (.ref 1000), .inr (.inl 70), .inr (.inl 69)]) (rest := []) jm_ok153 rfl rfl (by decide) (by decide +kernel) (bo_T F1 X1 X2 hG.b _ _) (fun F3 F' x hR p1 _ _ => ?_)
    have hG3 := hG.trans (hR.1.dst p1) (by decide)
    have j4 := nz_fi (p1 4 (by decide))
    have j6 := nz_fi (p1 6 (by decide))
    have h4 := hR.2
    have t1 := hG.t
    refine ti_10 (by decide) F3 X1 X2 hG3.b ?_ ?_ ?_ ?_
    all_goals (intros; refine ⟨_, _, rfl, rfl, gr.src (hG3.trans (gr_mk (W := W1) (by assumption) (by assumption) (by decide) ?_ ?_) (by decide)) k0, ?_⟩ <;> omega)
  refine ti_0 (by decide) F0 X1 X2 (hd_iveq hB k0) ?_ ?_ ?_
  all_goals (intros; refine step _ (gr_mk (W := W1) (by assumption) (by assumption) (by decide) ?_ ?_) <;> omega)
end SM
