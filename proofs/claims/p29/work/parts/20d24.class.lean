/-! ===== the class parses expressions ===== -/
noncomputable def pR (W : List Nat) (E : Int → Prop) (d : Nat) (x : Int32) (F F' : Nat → sy_d) : Prop := gc W F F' ∧ tg F ≤ tg F' ∧ ((x = 0 ∧ eX (kg F) (tg F) d 0 = .inl ((sy_i F' 34).toInt, tg F')) ∨ (x = 1 ∧ eX (kg F) (tg F) d 0 = eX (kg F) (tg F') d 1 ∧ tg F < tg F' ∧ ¬ E (kg F (tg F'))))
theorem pR_src {W : List Nat} {E : Int → Prop} {d : Nat} {x : Int32} {F F0 F' : Nat → sy_d} (h : pR W E d x F0 F') (e : ∀ q, q < 82 → F0 q = F q) : pR W E d x F F' := by
  obtain ⟨h1, h2⟩ := h
  rw [kg_eq (e 39 (by decide)), tg_eq (nz_fi (e 33 (by decide)))] at h2
  exact ⟨h1.src e, h2.1, h2.2⟩
theorem pR_dst {W : List Nat} {E : Int → Prop} {d : Nat} {x : Int32} {F F' F2 : Nat → sy_d} (h : pR W E d x F F') (e : ∀ q, q < 82 → F2 q = F' q) : pR W E d x F F2 := by
  have i33 := nz_fi (e 33 (by decide))
  refine ⟨h.1.dst e, ?_⟩
  rw [nz_fi (e 34 (by decide)), tg_eq i33]
  exact h.2
def E0 : Int → Prop := fun _ => False
def E1 : Int → Prop := fun k => k = 10 ∨ k = 15
def E2 : Int → Prop := fun k => k = 8 ∨ k = 9 ∨ k = 10 ∨ k = 15
theorem jx_i32 {F : Nat → sy_d} (hJ : jx_ok F) {j : Nat} (h : ((sy_ai F 39).getD j 0).toInt = 24) : 0 ≤ (((sy_al F 41).getD j 0).toInt32).toInt ∧ (((sy_al F 41).getD j 0).toInt32).toInt ≤ 9999 := by
  obtain ⟨a, b⟩ := hJ j (Int32.toInt_inj.mp (by rw [h]; decide))
  rw [Int64.toInt_toInt32]
  have : ((sy_al F 41).getD j 0).toInt.bmod (2 ^ 32) = ((sy_al F 41).getD j 0).toInt := Int.bmod_eq_of_le (by omega) (by omega)
  rw [this]
  exact ⟨a, b⟩
noncomputable def k0_W : List Nat := [33, 34, 23, 32]
section P0
variable {Ls : Nat} {xs : Nat → Int32} (X1 X2 : List jm_c)
noncomputable def k0uT (Ls : Nat) (xs : Nat → Int32) (X1 X2 : List jm_c) (m : Nat) : Prop := ∀ (F : Nat → sy_d) (a b : Int32), iv_in F iv_B0 → jx_ok F → 0 ≤ a.toInt → a.toInt ≤ 5 → b.toInt = 6 - m → jm_T Ls xs (4 + 3 * m) jm_M40 [.ref 30, .int a, .int b] (sy_dh F X1 X2 (iv_H 0)) 0 0 (fun v G => ∃ (x : Int32) (F' : Nat → sy_d), v = some (.int x) ∧ G = sy_dh F' X1 X2 (iv_H 0) ∧ pR k0_W E0 b.toInt.toNat x F F')
noncomputable def k0pT (Ls : Nat) (xs : Nat → Int32) (X1 X2 : List jm_c) (m : Nat) : Prop := ∀ (F : Nat → sy_d) (a b : Int32), iv_in F iv_B0 → jx_ok F → 0 ≤ a.toInt → a.toInt ≤ 5 → b.toInt = 6 - m → jm_T Ls xs (5 + 3 * m) jm_M39 [.ref 30, .int a, .int b] (sy_dh F X1 X2 (iv_H 0)) 0 0 (fun v G => ∃ (x : Int32) (F' : Nat → sy_d), v = some (.int x) ∧ G = sy_dh F' X1 X2 (iv_H 0) ∧ pR k0_W E1 b.toInt.toNat x F F')
noncomputable def k0sT (Ls : Nat) (xs : Nat → Int32) (X1 X2 : List jm_c) (m : Nat) : Prop := ∀ (F : Nat → sy_d) (a b : Int32), iv_in F iv_B0 → jx_ok F → 0 ≤ a.toInt → a.toInt ≤ 5 → b.toInt = 6 - m → jm_T Ls xs (6 + 3 * m) jm_M38 [.ref 30, .int a, .int b] (sy_dh F X1 X2 (iv_H 0)) 0 0 (fun v G => ∃ (x : Int32) (F' : Nat → sy_d), v = some (.int x) ∧ G = sy_dh F' X1 X2 (iv_H 0) ∧ pR k0_W E2 b.toInt.toNat x F F')
theorem k0u_end {dp : Nat} (F0 F1 F3 : Nat → sy_d) (d : Nat) (hd : 4 ≤ dp) (g1 : gc k0_W F0 F1) (g3 : gc k0_W F1 F3) (hlt : tg F0 < tg F1) (hle : tg F1 ≤ tg F3) (h : (sy_i F3 84 = 0 ∧ eX (kg F0) (tg F0) d 0 = .inl ((sy_i F3 34).toInt, tg F3)) ∨ (sy_i F3 84 = 1 ∧ eX (kg F0) (tg F0) d 0 = eX (kg F0) (tg F3) (d + 1) 1 ∧ tg F0 < tg F3 ∧ ¬ E2 (kg F0 (tg F3)))) :
    hd_W Ls xs dp jm_M40 (fun v G => ∃ (x : Int32) (F' : Nat → sy_d), v = some (.int x) ∧ G = sy_dh F' X1 X2 (iv_H 0) ∧ pR k0_W E0 d x F0 F') (137, sy_dL F3 [some (.inl (.ref 30)), none, none, none, none], sy_dS F3 [.inr (.inl 84)], sy_dh F3 X1 X2 (iv_H 0), 0, 0) := by
  have g03 : gc k0_W F0 F3 := g1.trans g3 (fun _ q => q)
  have hB3 := g03.1
  have c33 := nz_bx hB3 (k := 33) (lo := 0) (hi := 400) rfl
  have et : (tg F3 : Int) = (sy_i F3 33).toInt := by unfold tg; omega
  have eK : kg F0 (tg F3) = km ((sy_ai F3 39).getD (sy_i F3 33).toInt.toNat 0).toInt := by rw [show sy_ai F3 39 = sy_ai F0 39 from nz_fa (g03.2 39 (by decide) (by decide))]; rfl
  have m2 : kg F0 (tg F3) = 2 ↔ ((sy_ai F3 39).getD (sy_i F3 33).toInt.toNat 0).toInt = 24 := by rw [eK]; exact km_2
  have m6 : kg F0 (tg F3) = 6 ↔ ((sy_ai F3 39).getD (sy_i F3 33).toInt.toNat 0).toInt = 40 := by rw [eK]; exact km_6
  have m7 : kg F0 (tg F3) = 7 ↔ ((sy_ai F3 39).getD (sy_i F3 33).toInt.toNat 0).toInt = 41 := by rw [eK]; exact km_7
  have m8 : kg F0 (tg F3) = 8 ↔ ((sy_ai F3 39).getD (sy_i F3 33).toInt.toNat 0).toInt = 43 := by rw [eK]; exact km_8
  have m9 : kg F0 (tg F3) = 9 ↔ ((sy_ai F3 39).getD (sy_i F3 33).toInt.toNat 0).toInt = 45 := by rw [eK]; exact km_9
  have m10 : kg F0 (tg F3) = 10 ↔ ((sy_ai F3 39).getD (sy_i F3 33).toInt.toNat 0).toInt = 42 := by rw [eK]; exact km_10
  have m15 : kg F0 (tg F3) = 15 ↔ ((sy_ai F3 39).getD (sy_i F3 33).toInt.toNat 0).toInt = 47 := by rw [eK]; exact km_15
  have mv : (34 ≤ kg F0 (tg F3) ∧ kg F0 (tg F3) ≤ 42) ↔ (14 ≤ ((sy_ai F3 39).getD (sy_i F3 33).toInt.toNat 0).toInt ∧ ((sy_ai F3 39).getD (sy_i F3 33).toInt.toNat 0).toInt ≤ 22) := by rw [eK]; exact km_v
  refine k0pu_137 (by omega) F3 X1 X2 hB3 ?_ ?_ ?_ ?_
  · intro q F4 hb g e33 e34 e23 a39
    refine ⟨_, F4, rfl, rfl, g03.trans (gc_mk (W := k0_W) hb g (by decide)) (fun _ q => q), by rw [tg_eq e33]; omega, Or.inl ⟨rfl, ?_⟩⟩
    rcases h with ⟨h1, h2⟩ | ⟨h1, -⟩
    · rw [e34, tg_eq e33]
      exact h2
    · rw [h1] at q
      exact absurd q (by decide)
  · intro q84 _ _ _ _ F4 hb g e33 e34 e23 a39
    rcases h with ⟨h1, -⟩ | ⟨h1, h2, h3, h4⟩
    · rw [h1] at q84
      exact absurd (by decide) q84
    have hE : ¬ (kg F0 (tg F3) = 8 ∨ kg F0 (tg F3) = 9 ∨ kg F0 (tg F3) = 10 ∨ kg F0 (tg F3) = 15) := h4
    refine ⟨_, F4, rfl, rfl, g03.trans (gc_mk (W := k0_W) hb g (by decide)) (fun _ q => q), by first | (rw [tg_eq e33]; omega) | (rw [tg_s c33.1 e33]; omega), ?_⟩
    first
      | exact Or.inr ⟨rfl, by rw [tg_s c33.1 e33]; exact h2.trans (eX_c (by omega) (by omega) (by omega)), by rw [tg_s c33.1 e33]; omega, id⟩
      | exact Or.inl ⟨rfl, by rw [e34, tg_eq e33]; exact h2.trans (eX_c4 (by omega) (by omega) (by omega))⟩
      | exact Or.inl ⟨rfl, by rw [e34, tg_eq e33]; exact h2.trans (eX_e1 (by omega) (by omega) hE (by omega))⟩
  · intro q84 _ _ _ _ F4 hb g e33 e34 e23 a39
    rcases h with ⟨h1, -⟩ | ⟨h1, h2, h3, h4⟩
    · rw [h1] at q84
      exact absurd (by decide) q84
    have hE : ¬ (kg F0 (tg F3) = 8 ∨ kg F0 (tg F3) = 9 ∨ kg F0 (tg F3) = 10 ∨ kg F0 (tg F3) = 15) := h4
    refine ⟨_, F4, rfl, rfl, g03.trans (gc_mk (W := k0_W) hb g (by decide)) (fun _ q => q), by first | (rw [tg_eq e33]; omega) | (rw [tg_s c33.1 e33]; omega), ?_⟩
    first
      | exact Or.inr ⟨rfl, by rw [tg_s c33.1 e33]; exact h2.trans (eX_c (by omega) (by omega) (by omega)), by rw [tg_s c33.1 e33]; omega, id⟩
      | exact Or.inl ⟨rfl, by rw [e34, tg_eq e33]; exact h2.trans (eX_c4 (by omega) (by omega) (by omega))⟩
      | exact Or.inl ⟨rfl, by rw [e34, tg_eq e33]; exact h2.trans (eX_e1 (by omega) (by omega) hE (by omega))⟩
  · intro q84 _ _ _ F4 hb g e33 e34 e23 a39
    rcases h with ⟨h1, -⟩ | ⟨h1, h2, h3, h4⟩
    · rw [h1] at q84
      exact absurd (by decide) q84
    have hE : ¬ (kg F0 (tg F3) = 8 ∨ kg F0 (tg F3) = 9 ∨ kg F0 (tg F3) = 10 ∨ kg F0 (tg F3) = 15) := h4
    refine ⟨_, F4, rfl, rfl, g03.trans (gc_mk (W := k0_W) hb g (by decide)) (fun _ q => q), by first | (rw [tg_eq e33]; omega) | (rw [tg_s c33.1 e33]; omega), ?_⟩
    first
      | exact Or.inr ⟨rfl, by rw [tg_s c33.1 e33]; exact h2.trans (eX_c (by omega) (by omega) (by omega)), by rw [tg_s c33.1 e33]; omega, id⟩
      | exact Or.inl ⟨rfl, by rw [e34, tg_eq e33]; exact h2.trans (eX_c4 (by omega) (by omega) (by omega))⟩
      | exact Or.inl ⟨rfl, by rw [e34, tg_eq e33]; exact h2.trans (eX_e1 (by omega) (by omega) hE (by omega))⟩
theorem k0u_of (m : Nat) (hm : m ≤ 6) (ih : ∀ m', m = m' + 1 → k0sT Ls xs X1 X2 m') : k0uT Ls xs X1 X2 m := by
  intro F a b hB hJ a0 a5 hb
  refine nx_T (s := 0) (by decide) F X1 X2 (as := [a, b]) (A := [.inl (.ref 30), .inr (.inl 82), .inr (.inl 83)]) jm_ok40 (by decide) rfl ?_
  obtain ⟨F0, hF0⟩ : ∃ F0, F0 = nx 82 F [a, b] := ⟨_, rfl⟩
  rw [← hF0]
  have k0 : ∀ q, q < 82 → F0 q = F q := by rw [hF0]; exact nx_lt
  have i82 : sy_i F0 82 = a := by rw [hF0]; rfl
  have i83 : sy_i F0 83 = b := by rw [hF0]; rfl
  have hB0 := hd_iveq0 hB k0
  have hJ0 : jx_ok F0 := jx_ok_eq (k0 39 (by decide)) (k0 41 (by decide)) hJ
  refine hd_W_mono (Q := fun v G => ∃ (x : Int32) (F' : Nat → sy_d), v = some (.int x) ∧ G = sy_dh F' X1 X2 (iv_H 0) ∧ pR k0_W E0 b.toInt.toNat x F0 F') ?_ (by
    rintro v G ⟨x, F', rfl, rfl, hR⟩
    exact ⟨x, F', rfl, rfl, pR_src hR k0⟩)
  clear hF0
  have j82 : (sy_i F0 82).toInt = a.toInt := by rw [i82]
  have j83 : (sy_i F0 83).toInt = b.toInt := by rw [i83]
  have c33 := nz_bx hB0 (k := 33) (lo := 0) (hi := 400) rfl
  have et : (tg F0 : Int) = (sy_i F0 33).toInt := by unfold tg; omega
  have eK : kg F0 (tg F0) = km ((sy_ai F0 39).getD (sy_i F0 33).toInt.toNat 0).toInt := rfl
  have m2 : kg F0 (tg F0) = 2 ↔ ((sy_ai F0 39).getD (sy_i F0 33).toInt.toNat 0).toInt = 24 := by rw [eK]; exact km_2
  have m6 : kg F0 (tg F0) = 6 ↔ ((sy_ai F0 39).getD (sy_i F0 33).toInt.toNat 0).toInt = 40 := by rw [eK]; exact km_6
  have m7 : kg F0 (tg F0) = 7 ↔ ((sy_ai F0 39).getD (sy_i F0 33).toInt.toNat 0).toInt = 41 := by rw [eK]; exact km_7
  have m8 : kg F0 (tg F0) = 8 ↔ ((sy_ai F0 39).getD (sy_i F0 33).toInt.toNat 0).toInt = 43 := by rw [eK]; exact km_8
  have m9 : kg F0 (tg F0) = 9 ↔ ((sy_ai F0 39).getD (sy_i F0 33).toInt.toNat 0).toInt = 45 := by rw [eK]; exact km_9
  have m10 : kg F0 (tg F0) = 10 ↔ ((sy_ai F0 39).getD (sy_i F0 33).toInt.toNat 0).toInt = 42 := by rw [eK]; exact km_10
  have m15 : kg F0 (tg F0) = 15 ↔ ((sy_ai F0 39).getD (sy_i F0 33).toInt.toNat 0).toInt = 47 := by rw [eK]; exact km_15
  have mv : (34 ≤ kg F0 (tg F0) ∧ kg F0 (tg F0) ≤ 42) ↔ (14 ≤ ((sy_ai F0 39).getD (sy_i F0 33).toInt.toNat 0).toInt ∧ ((sy_ai F0 39).getD (sy_i F0 33).toInt.toNat 0).toInt ≤ 22) := by rw [eK]; exact km_v
  have hJ1 : ((sy_ai F0 39).getD (sy_i F0 33).toInt.toNat 0).toInt = 24 → 0 ≤ (((sy_al F0 41).getD (sy_i F0 33).toInt.toNat 0).toInt32).toInt ∧ (((sy_al F0 41).getD (sy_i F0 33).toInt.toNat 0).toInt32).toInt ≤ 9999 := fun h => jx_i32 hJ0 h
  have em : ∀ (F1 : Nat → sy_d), gc k0_W F0 F1 → (sy_i F1 33).toInt = (sy_i F0 33).toInt → (sy_i F1 82).toInt = ((sy_ai F0 39).getD (sy_i F0 33).toInt.toNat 0).toInt → -100 ≤ (sy_i F1 83).toInt → (sy_i F1 83).toInt ≤ 9999 → (kg F0 (tg F0) = 2 ∨ (34 ≤ kg F0 (tg F0) ∧ kg F0 (tg F0) ≤ 42)) → ∀ pc, (pc = 34 ∨ pc = 88) → hd_W Ls xs (4 + 3 * m) jm_M40 (fun v G => ∃ (x : Int32) (F' : Nat → sy_d), v = some (.int x) ∧ G = sy_dh F' X1 X2 (iv_H 0) ∧ pR k0_W E0 b.toInt.toNat x F0 F') (pc, sy_dL F1 [some (.inl (.ref 30)), none, none, some (.inr (.inl 82)), none], sy_dS F1 [.inr (.inl 83), .inl (.ref 20)], sy_dh F1 X1 X2 (iv_H 0), 0, 0) := by
    intro F1 g1 f33 f82 v0 v1 hk pc hpc
    have x39 : sy_ai F1 39 = sy_ai F0 39 := nz_fa (g1.2 39 (by decide) (by decide))
    have c82 : ((sy_ai F1 39).getD (sy_i F1 33).toInt.toNat 0).toInt = (sy_i F1 82).toInt := by rw [x39, f33, f82]
    have e0 : tg F1 = tg F0 := tg_eq f33
    clear m2 m6 m7 m8 m9 m10 m15 mv eK
    rcases hpc with rfl | rfl
    · refine k0pu_34 (by omega) F1 X1 X2 g1.1 (by omega) ?_ ?_ ?_ ?_ ?_ ?_
      all_goals intros
      all_goals first
        | (exfalso; omega)
        | (rename_i F2 hb2 g e33 e34 e23 a39
           exact ⟨_, F2, rfl, rfl, g1.trans (gc_mk (W := k0_W) hb2 g (by decide)) (fun _ q => q), by rw [tg_eq e33]; omega, Or.inl ⟨rfl, by rw [e34, tg_eq e33, e0]; exact eX_u4 (by omega) hk⟩⟩)
        | (rename_i F2 hb2 g e33 e34 e23 a39
           have ts := tg_s (by omega) e33
           exact ⟨_, F2, rfl, rfl, g1.trans (gc_mk (W := k0_W) hb2 g (by decide)) (fun _ q => q), by omega, Or.inr ⟨rfl, by rw [ts, e0]; exact eX_u (by omega) hk, by omega, id⟩⟩)
    · refine k0pu_88 (by omega) F1 X1 X2 g1.1 (by omega) ?_ ?_ ?_ ?_ ?_ ?_
      all_goals intros
      all_goals first
        | (exfalso; omega)
        | (rename_i F2 hb2 g e33 e34 e23 a39
           exact ⟨_, F2, rfl, rfl, g1.trans (gc_mk (W := k0_W) hb2 g (by decide)) (fun _ q => q), by rw [tg_eq e33]; omega, Or.inl ⟨rfl, by rw [e34, tg_eq e33, e0]; exact eX_u4 (by omega) hk⟩⟩)
        | (rename_i F2 hb2 g e33 e34 e23 a39
           have ts := tg_s (by omega) e33
           exact ⟨_, F2, rfl, rfl, g1.trans (gc_mk (W := k0_W) hb2 g (by decide)) (fun _ q => q), by omega, Or.inr ⟨rfl, by rw [ts, e0]; exact eX_u (by omega) hk, by omega, id⟩⟩)
  refine k0pu_0 (by omega) F0 X1 X2 hB0 (by omega) (by omega) ?_ ?_ ?_ ?_ ?_ ?_ ?_ ?_
  all_goals intros
  all_goals first
    | (exfalso; clear em hJ1; omega)
    | (rename_i F1 hb1 g e33 e34 e23 a39
       clear em hJ1
       exact ⟨_, F1, rfl, rfl, gc_mk hb1 g (by decide), by rw [tg_eq e33]; omega, Or.inl ⟨rfl, by rw [e34, tg_eq e33]; exact eX_u1 (by omega) (by omega) (by omega) (by omega)⟩⟩)
    | (rename_i F1 hb1 g e33 e34 e23 a39
       clear em hJ1
       exact ⟨_, F1, rfl, rfl, gc_mk hb1 g (by decide), by rw [tg_eq e33]; omega, Or.inl ⟨rfl, by rw [e34, tg_eq e33]; exact eX_o6 (by omega) (by omega) (by omega)⟩⟩)
    | (rename_i F1 hb1 g e33 e34 e23 a39 e82 e83
       have hv := hJ1 (by omega)
       exact em F1 (gc_mk hb1 g (by decide)) e33 e82 (by omega) (by omega) (by omega) 34 (Or.inl rfl))
    | (rename_i F1 hb1 g e33 e34 e23 a39 e82 e83
       exact em F1 (gc_mk hb1 g (by decide)) e33 e82 (by omega) (by omega) (by omega) 88 (Or.inr rfl))
    | (rename_i F1 hb1 g e33 e34 e23 a39 e82 e83
       clear em hJ1
       have ts := tg_s c33.1 e33
       obtain ⟨m', rfl⟩ : ∃ m', m = m' + 1 := ⟨m - 1, by omega⟩
       have hJ1 : jx_ok F1 := jx_ok_eq (g 39 (by decide) (by decide)) (g 41 (by decide) (by decide)) hJ0
       refine hd_calI (R := fun x F' => pR k0_W E2 (sy_i F1 82).toInt.toNat x F1 F') (nh := 82) (nv := 84) (s := 0) (s1 := 0) (d1 := 6 + 3 * m') (M1 := jm_M38) (As := [.inl (.ref 30), .inr (.inl 83), .inr (.inl 82)]) (rest := []) jm_ok40 rfl rfl (by omega) (by decide +kernel) (ih m' rfl F1 (sy_i F1 83) (sy_i F1 82) hb1 hJ1 (by omega) (by omega) (by omega)) (fun F3 F' x hR p1 p2 p3 => ?_)
       obtain ⟨r1, rl, r2⟩ := pR_dst hR p1
       have i84 : sy_i F3 84 = x := zz_i p3
       have e0 : eX (kg F0) (tg F0) b.toInt.toNat 0 = eX (kg F0) (tg F1) (sy_i F1 82).toInt.toNat 0 := by
         rw [ts, show (sy_i F1 82).toInt.toNat = b.toInt.toNat + 1 by omega]
         exact eX_o (by omega) (by omega) (by omega)
       rw [kg_eq (g 39 (by decide) (by decide))] at r2
       refine k0u_end X1 X2 F0 F1 F3 b.toInt.toNat (by omega) (gc_mk hb1 g (by decide)) r1 (by omega) (by omega) ?_
       rw [i84]
       rcases r2 with ⟨q1, q2⟩ | ⟨q1, q2, q3, q4⟩
       · exact Or.inl ⟨q1, e0.trans q2⟩
       · exact Or.inr ⟨q1, by rw [show b.toInt.toNat + 1 = (sy_i F1 82).toInt.toNat by omega]; exact e0.trans q2, by omega, q4⟩)
/-- at the loop's head -/
noncomputable def k0ppI (F0 F : Nat → sy_d) (d : Nat) : Prop := gc k0_W F0 F ∧ (sy_i F 82).toInt = (sy_i F0 82).toInt ∧ (sy_i F 83).toInt = (sy_i F0 83).toInt ∧ (sy_i F 85).toInt = ((sy_ai F 39).getD (sy_i F 33).toInt.toNat 0).toInt ∧ 0 ≤ (sy_i F 86).toInt ∧ ((sy_i F 84 = 0 ∧ (sy_i F 86).toInt + tg F0 ≤ tg F ∧ eX (kg F0) (tg F0) d 0 = .inl ((sy_i F 34).toInt, tg F)) ∨ (sy_i F 84 = 1 ∧ (sy_i F 86).toInt + 1 + tg F0 ≤ tg F ∧ eX (kg F0) (tg F0) d 0 = eX (kg F0) (tg F) d 1 ∧ ¬ E0 (kg F0 (tg F))))
theorem k0pp_loop (m : Nat) (hm : m ≤ 6) (hc : k0uT Ls xs X1 X2 m) (F0 : Nat → sy_d) (d : Nat) (hJ0 : jx_ok F0) (ha : 0 ≤ (sy_i F0 82).toInt ∧ (sy_i F0 82).toInt ≤ 5) (hb : (sy_i F0 83).toInt = 6 - m) (hd : (d : Int) = 6 - m) : ∀ (n : Nat) (F : Nat → sy_d), k0ppI F0 F d → 401 - (sy_i F 86).toInt < n →
    hd_W Ls xs (5 + 3 * m) jm_M39 (fun v G => ∃ (x : Int32) (F' : Nat → sy_d), v = some (.int x) ∧ G = sy_dh F' X1 X2 (iv_H 0) ∧ pR k0_W E1 d x F0 F') (23, sy_dL F [some (.inl (.ref 30)), some (.inr (.inl 82)), some (.inr (.inl 83)), some (.inr (.inl 84)), some (.inr (.inl 85)), some (.inr (.inl 86))], sy_dS F [], sy_dh F X1 X2 (iv_H 0), 0, 0)
  | 0, F, h, h3 => by
    obtain ⟨g0, -, -, -, h86, h⟩ := h
    have c33 := nz_bx g0.1 (k := 33) (lo := 0) (hi := 400) rfl
    have et : (tg F : Int) = (sy_i F 33).toInt := by unfold tg; omega
    rcases h with ⟨-, h, -⟩ | ⟨-, h, -⟩ <;> omega
  | n + 1, F, h, h3 => by
    obtain ⟨g0, i82, i83, i85, h86, h⟩ := h
    have hB := g0.1
    have c33 := nz_bx hB (k := 33) (lo := 0) (hi := 400) rfl
    have et : (tg F : Int) = (sy_i F 33).toInt := by unfold tg; omega
    have eK : kg F0 (tg F) = km ((sy_ai F 39).getD (sy_i F 33).toInt.toNat 0).toInt := by rw [show sy_ai F 39 = sy_ai F0 39 from nz_fa (g0.2 39 (by decide) (by decide))]; rfl
    have m2 : kg F0 (tg F) = 2 ↔ ((sy_ai F 39).getD (sy_i F 33).toInt.toNat 0).toInt = 24 := by rw [eK]; exact km_2
    have m6 : kg F0 (tg F) = 6 ↔ ((sy_ai F 39).getD (sy_i F 33).toInt.toNat 0).toInt = 40 := by rw [eK]; exact km_6
    have m7 : kg F0 (tg F) = 7 ↔ ((sy_ai F 39).getD (sy_i F 33).toInt.toNat 0).toInt = 41 := by rw [eK]; exact km_7
    have m8 : kg F0 (tg F) = 8 ↔ ((sy_ai F 39).getD (sy_i F 33).toInt.toNat 0).toInt = 43 := by rw [eK]; exact km_8
    have m9 : kg F0 (tg F) = 9 ↔ ((sy_ai F 39).getD (sy_i F 33).toInt.toNat 0).toInt = 45 := by rw [eK]; exact km_9
    have m10 : kg F0 (tg F) = 10 ↔ ((sy_ai F 39).getD (sy_i F 33).toInt.toNat 0).toInt = 42 := by rw [eK]; exact km_10
    have m15 : kg F0 (tg F) = 15 ↔ ((sy_ai F 39).getD (sy_i F 33).toInt.toNat 0).toInt = 47 := by rw [eK]; exact km_15
    have mv : (34 ≤ kg F0 (tg F) ∧ kg F0 (tg F) ≤ 42) ↔ (14 ≤ ((sy_ai F 39).getD (sy_i F 33).toInt.toNat 0).toInt ∧ ((sy_ai F 39).getD (sy_i F 33).toInt.toNat 0).toInt ≤ 22) := by rw [eK]; exact km_v
    have h400 : (sy_i F 86).toInt ≤ 400 := by rcases h with ⟨-, h, -⟩ | ⟨-, h, -⟩ <;> omega
    have hle : tg F0 ≤ tg F := by rcases h with ⟨-, h, -⟩ | ⟨-, h, -⟩ <;> omega
    have h84 : (sy_i F 84).toInt = 0 ∨ (sy_i F 84).toInt = 1 := by
      rcases h with ⟨h, -⟩ | ⟨h, -⟩
      · rw [h]; exact Or.inl (by decide)
      · rw [h]; exact Or.inr (by decide)
    have good : (sy_i F 84).toInt ≠ 0 → (sy_i F 86).toInt + 1 + tg F0 ≤ tg F ∧ eX (kg F0) (tg F0) d 0 = eX (kg F0) (tg F) d 1 ∧ ¬ E0 (kg F0 (tg F)) := fun q => by
      rcases h with ⟨h, -⟩ | ⟨-, h⟩
      · rw [h] at q
        exact absurd (by decide) q
      · exact h
    have z0 : (0 : Int32).toInt = 0 := by decide
    refine k0pp_23 (by omega) F X1 X2 hB (by omega) (by omega) (by omega) ?_ ?_ ?_ ?_ ?_ ?_ ?_ ?_ ?_ ?_ ?_ ?_ ?_
    · intros; exfalso; omega
    · intro q1 q2 F1 hb1 g e33 e34 e23 a39
      refine ⟨_, F1, rfl, rfl, g0.trans (gc_mk (W := k0_W) hb1 g (by decide)) (fun _ q => q), by rw [tg_eq e33]; exact hle, ?_⟩
      rcases h with ⟨h1, h2, h3⟩ | ⟨h1, -⟩
      · exact Or.inl ⟨h1, by rw [e34, tg_eq e33]; exact h3⟩
      · rw [h1] at q2
        exact absurd q2 (by decide)
    all_goals clear h
    all_goals intros
    all_goals first
      | (exfalso; omega)
      | (rename_i F1 hb1 g e33 e34 e23 a39
         obtain ⟨y1, y2, y3⟩ := good (by omega)
         refine ⟨_, F1, rfl, rfl, g0.trans (gc_mk (W := k0_W) hb1 g (by decide)) (fun _ q => q), by rw [tg_eq e33]; exact hle, Or.inr ⟨Int32.toInt_inj.mp (by rw [show (1 : Int32).toInt = 1 by decide]; omega), by rw [tg_eq e33]; exact y2, by rw [tg_eq e33]; omega, ?_⟩⟩
         rw [tg_eq e33]
         intro z
         have z : kg F0 (tg F) = 10 ∨ kg F0 (tg F) = 15 := z
         omega)
      | (rename_i F1 hb1 g e33 e34 e23 a39 e82 e83 e84 e85 e86
         obtain ⟨y1, y2, y3⟩ := good (by omega)
         refine k0pp_loop m hm hc F0 d hJ0 ha hb hd n F1 ⟨g0.trans (gc_mk (W := k0_W) hb1 g (by decide)) (fun _ q => q), by omega, by omega, by rw [e85, a39, e33], by omega, Or.inl ⟨Int32.toInt_inj.mp (by rw [z0]; exact e84), by rw [tg_eq e33]; omega, ?_⟩⟩ (by omega)
         rw [e34, tg_eq e33]
         exact y2.trans (eX_b4 (by omega) (by omega)))
      | (rename_i F1 hb1 g e33 e34 e23 a39 e82 e83 e84 e85
         obtain ⟨y1, y2, y3⟩ := good (by omega)
         have ts := tg_s c33.1 e33
         have g1 : gc k0_W F0 F1 := g0.trans (gc_mk (W := k0_W) hb1 g (by decide)) (fun _ q => q)
         have hJ1 : jx_ok F1 := jx_ok_eq (g1.2 39 (by decide) (by decide)) (g1.2 41 (by decide) (by decide)) hJ0
         refine hd_calI (R := fun x F' => pR k0_W E0 (sy_i F1 83).toInt.toNat x F1 F') (nh := 82) (nv := 86) (s := 0) (s1 := 0) (d1 := 4 + 3 * m) (M1 := jm_M40) (As := [.inl (.ref 30), .inr (.inl 82), .inr (.inl 83)]) (rest := []) jm_ok39 rfl rfl (by omega) (by decide +kernel) (hc F1 (sy_i F1 82) (sy_i F1 83) hb1 hJ1 (by omega) (by omega) (by omega)) (fun F3 F' x hR p1 p2 p3 => ?_)
         obtain ⟨r1, rl, r2⟩ := pR_dst hR p1
         have x86 : sy_i F3 86 = x := zz_i p3
         have k82 := nz_fi (p2 82 (by decide) (by decide))
         have k83 := nz_fi (p2 83 (by decide) (by decide))
         have k84 := nz_fi (p2 84 (by decide) (by decide))
         have k85 := nz_fi (p2 85 (by decide) (by decide))
         rw [kg_eq (g1.2 39 (by decide) (by decide)), show (sy_i F1 83).toInt.toNat = d by omega] at r2
         have e0 : eX (kg F0) (tg F0) d 0 = eX (kg F0) (tg F1) d 0 := by
           rw [ts]
           exact y2.trans (eX_b (by omega) (by omega))
         have g3 : gc k0_W F0 F3 := g1.trans r1 (fun _ q => q)
         refine k0pp_64 (by omega) F3 X1 X2 r1.1 (by omega) ?_ ?_ ?_ ?_ ?_ ?_ ?_ ?_
         all_goals
           intros
           rename_i q86 _ _ _ _ F4 hb4 g4 d33 d34 d23 b39 d82 d83 d84 d85 d86
           refine k0pp_loop m hm hc F0 d hJ0 ha hb hd n F4 ⟨g3.trans (gc_mk (W := k0_W) hb4 g4 (by decide)) (fun _ q => q), by omega, by omega, by rw [d85, b39, d33], by omega, ?_⟩ (by omega)
           rw [d34, tg_eq d33]
           rcases r2 with ⟨q1, q2⟩ | ⟨q1, q2, q3, q4⟩
           · first
               | exact Or.inl ⟨Int32.toInt_inj.mp (by rw [z0]; exact d84), by omega, e0.trans q2⟩
               | exact absurd (by rw [x86, q1]; decide) q86
           · first
               | exact Or.inr ⟨Int32.toInt_inj.mp (by rw [show (1 : Int32).toInt = 1 by decide]; exact d84), by omega, e0.trans q2, q4⟩
               | (rw [x86, q1] at q86; exact absurd q86 (by decide)))
theorem k0p_of (m : Nat) (hm : m ≤ 6) (hc : k0uT Ls xs X1 X2 m) : k0pT Ls xs X1 X2 m := by
  intro F a b hB hJ a0 a5 hb
  refine nx_T (s := 0) (by decide) F X1 X2 (as := [a, b]) (A := [.inl (.ref 30), .inr (.inl 82), .inr (.inl 83)]) jm_ok39 (by decide) rfl ?_
  obtain ⟨F0, hF0⟩ : ∃ F0, F0 = nx 82 F [a, b] := ⟨_, rfl⟩
  rw [← hF0]
  have k0 : ∀ q, q < 82 → F0 q = F q := by rw [hF0]; exact nx_lt
  have i82 : sy_i F0 82 = a := by rw [hF0]; rfl
  have i83 : sy_i F0 83 = b := by rw [hF0]; rfl
  have hB0 := hd_iveq0 hB k0
  have hJ0 : jx_ok F0 := jx_ok_eq (k0 39 (by decide)) (k0 41 (by decide)) hJ
  refine hd_W_mono (Q := fun v G => ∃ (x : Int32) (F' : Nat → sy_d), v = some (.int x) ∧ G = sy_dh F' X1 X2 (iv_H 0) ∧ pR k0_W E1 b.toInt.toNat x F0 F') ?_ (by
    rintro v G ⟨x, F', rfl, rfl, hR⟩
    exact ⟨x, F', rfl, rfl, pR_src hR k0⟩)
  clear hF0
  have j82 : (sy_i F0 82).toInt = a.toInt := by rw [i82]
  have j83 : (sy_i F0 83).toInt = b.toInt := by rw [i83]
  refine k0pp_0 (by omega) F0 X1 X2 hB0 ?_
  intro F1 hb1 g e33 e34 e23 a39 e82 e83
  have g0 : ∀ q, q < 82 → F1 q = F0 q := fun q hq => g q hq (by simp)
  have hJ1 : jx_ok F1 := jx_ok_eq (g0 39 (by decide)) (g0 41 (by decide)) hJ0
  refine hd_calI (R := fun x F' => pR k0_W E0 (sy_i F1 83).toInt.toNat x F1 F') (nh := 82) (nv := 84) (s := 0) (s1 := 0) (d1 := 4 + 3 * m) (M1 := jm_M40) (As := [.inl (.ref 30), .inr (.inl 82), .inr (.inl 83)]) (rest := []) jm_ok39 rfl rfl (by omega) (by decide +kernel) (hc F1 (sy_i F1 82) (sy_i F1 83) hb1 hJ1 (by omega) (by omega) (by omega)) (fun F3 F' x hR p1 p2 p3 => ?_)
  obtain ⟨r1, rl, r2⟩ := pR_src (pR_dst hR p1) g0
  have x84 : sy_i F3 84 = x := zz_i p3
  have k82 := nz_fi (p2 82 (by decide) (by decide))
  have k83 := nz_fi (p2 83 (by decide) (by decide))
  rw [show (sy_i F1 83).toInt.toNat = b.toInt.toNat by omega] at r2
  refine k0pp_6 (by omega) F3 X1 X2 r1.1 ?_
  intros
  rename_i F4 hb4 g4 d33 d34 d23 b39 d82 d83 d84 d85 d86
  refine k0pp_loop X1 X2 m hm hc F0 b.toInt.toNat hJ0 (by omega) (by omega) (by omega) 402 F4 ⟨r1.trans (gc_mk (W := k0_W) hb4 g4 (by decide)) (fun _ q => q), by omega, by omega, by rw [d85, b39, d33], by omega, ?_⟩ (by omega)
  rw [d34, tg_eq d33, d86, show sy_i F4 84 = x from (Int32.toInt_inj.mp d84).trans x84]
  rcases r2 with ⟨q1, q2⟩ | ⟨q1, q2, q3, q4⟩
  · exact Or.inl ⟨q1, by omega, q2⟩
  · exact Or.inr ⟨q1, by omega, q2, q4⟩
/-- at the loop's head -/
noncomputable def k0psI (F0 F : Nat → sy_d) (d : Nat) : Prop := gc k0_W F0 F ∧ (sy_i F 82).toInt = (sy_i F0 82).toInt ∧ (sy_i F 83).toInt = (sy_i F0 83).toInt ∧ (sy_i F 85).toInt = ((sy_ai F 39).getD (sy_i F 33).toInt.toNat 0).toInt ∧ 0 ≤ (sy_i F 86).toInt ∧ ((sy_i F 84 = 0 ∧ (sy_i F 86).toInt + tg F0 ≤ tg F ∧ eX (kg F0) (tg F0) d 0 = .inl ((sy_i F 34).toInt, tg F)) ∨ (sy_i F 84 = 1 ∧ (sy_i F 86).toInt + 1 + tg F0 ≤ tg F ∧ eX (kg F0) (tg F0) d 0 = eX (kg F0) (tg F) d 1 ∧ ¬ E1 (kg F0 (tg F))))
theorem k0ps_loop (m : Nat) (hm : m ≤ 6) (hc : k0pT Ls xs X1 X2 m) (F0 : Nat → sy_d) (d : Nat) (hJ0 : jx_ok F0) (ha : 0 ≤ (sy_i F0 82).toInt ∧ (sy_i F0 82).toInt ≤ 5) (hb : (sy_i F0 83).toInt = 6 - m) (hd : (d : Int) = 6 - m) : ∀ (n : Nat) (F : Nat → sy_d), k0psI F0 F d → 401 - (sy_i F 86).toInt < n →
    hd_W Ls xs (6 + 3 * m) jm_M38 (fun v G => ∃ (x : Int32) (F' : Nat → sy_d), v = some (.int x) ∧ G = sy_dh F' X1 X2 (iv_H 0) ∧ pR k0_W E2 d x F0 F') (23, sy_dL F [some (.inl (.ref 30)), some (.inr (.inl 82)), some (.inr (.inl 83)), some (.inr (.inl 84)), some (.inr (.inl 85)), some (.inr (.inl 86))], sy_dS F [], sy_dh F X1 X2 (iv_H 0), 0, 0)
  | 0, F, h, h3 => by
    obtain ⟨g0, -, -, -, h86, h⟩ := h
    have c33 := nz_bx g0.1 (k := 33) (lo := 0) (hi := 400) rfl
    have et : (tg F : Int) = (sy_i F 33).toInt := by unfold tg; omega
    rcases h with ⟨-, h, -⟩ | ⟨-, h, -⟩ <;> omega
  | n + 1, F, h, h3 => by
    obtain ⟨g0, i82, i83, i85, h86, h⟩ := h
    have hB := g0.1
    have c33 := nz_bx hB (k := 33) (lo := 0) (hi := 400) rfl
    have et : (tg F : Int) = (sy_i F 33).toInt := by unfold tg; omega
    have eK : kg F0 (tg F) = km ((sy_ai F 39).getD (sy_i F 33).toInt.toNat 0).toInt := by rw [show sy_ai F 39 = sy_ai F0 39 from nz_fa (g0.2 39 (by decide) (by decide))]; rfl
    have m2 : kg F0 (tg F) = 2 ↔ ((sy_ai F 39).getD (sy_i F 33).toInt.toNat 0).toInt = 24 := by rw [eK]; exact km_2
    have m6 : kg F0 (tg F) = 6 ↔ ((sy_ai F 39).getD (sy_i F 33).toInt.toNat 0).toInt = 40 := by rw [eK]; exact km_6
    have m7 : kg F0 (tg F) = 7 ↔ ((sy_ai F 39).getD (sy_i F 33).toInt.toNat 0).toInt = 41 := by rw [eK]; exact km_7
    have m8 : kg F0 (tg F) = 8 ↔ ((sy_ai F 39).getD (sy_i F 33).toInt.toNat 0).toInt = 43 := by rw [eK]; exact km_8
    have m9 : kg F0 (tg F) = 9 ↔ ((sy_ai F 39).getD (sy_i F 33).toInt.toNat 0).toInt = 45 := by rw [eK]; exact km_9
    have m10 : kg F0 (tg F) = 10 ↔ ((sy_ai F 39).getD (sy_i F 33).toInt.toNat 0).toInt = 42 := by rw [eK]; exact km_10
    have m15 : kg F0 (tg F) = 15 ↔ ((sy_ai F 39).getD (sy_i F 33).toInt.toNat 0).toInt = 47 := by rw [eK]; exact km_15
    have mv : (34 ≤ kg F0 (tg F) ∧ kg F0 (tg F) ≤ 42) ↔ (14 ≤ ((sy_ai F 39).getD (sy_i F 33).toInt.toNat 0).toInt ∧ ((sy_ai F 39).getD (sy_i F 33).toInt.toNat 0).toInt ≤ 22) := by rw [eK]; exact km_v
    have h400 : (sy_i F 86).toInt ≤ 400 := by rcases h with ⟨-, h, -⟩ | ⟨-, h, -⟩ <;> omega
    have hle : tg F0 ≤ tg F := by rcases h with ⟨-, h, -⟩ | ⟨-, h, -⟩ <;> omega
    have h84 : (sy_i F 84).toInt = 0 ∨ (sy_i F 84).toInt = 1 := by
      rcases h with ⟨h, -⟩ | ⟨h, -⟩
      · rw [h]; exact Or.inl (by decide)
      · rw [h]; exact Or.inr (by decide)
    have good : (sy_i F 84).toInt ≠ 0 → (sy_i F 86).toInt + 1 + tg F0 ≤ tg F ∧ eX (kg F0) (tg F0) d 0 = eX (kg F0) (tg F) d 1 ∧ ¬ E1 (kg F0 (tg F)) := fun q => by
      rcases h with ⟨h, -⟩ | ⟨-, h⟩
      · rw [h] at q
        exact absurd (by decide) q
      · exact h
    have z0 : (0 : Int32).toInt = 0 := by decide
    refine k0ps_23 (by omega) F X1 X2 hB (by omega) (by omega) (by omega) ?_ ?_ ?_ ?_ ?_ ?_ ?_ ?_ ?_ ?_ ?_ ?_ ?_
    · intros; exfalso; omega
    · intro q1 q2 F1 hb1 g e33 e34 e23 a39
      refine ⟨_, F1, rfl, rfl, g0.trans (gc_mk (W := k0_W) hb1 g (by decide)) (fun _ q => q), by rw [tg_eq e33]; exact hle, ?_⟩
      rcases h with ⟨h1, h2, h3⟩ | ⟨h1, -⟩
      · exact Or.inl ⟨h1, by rw [e34, tg_eq e33]; exact h3⟩
      · rw [h1] at q2
        exact absurd q2 (by decide)
    all_goals clear h
    all_goals intros
    all_goals first
      | (exfalso; omega)
      | (rename_i F1 hb1 g e33 e34 e23 a39
         obtain ⟨y1, y2, y3⟩ := good (by omega)
         refine ⟨_, F1, rfl, rfl, g0.trans (gc_mk (W := k0_W) hb1 g (by decide)) (fun _ q => q), by rw [tg_eq e33]; exact hle, Or.inr ⟨Int32.toInt_inj.mp (by rw [show (1 : Int32).toInt = 1 by decide]; omega), by rw [tg_eq e33]; exact y2, by rw [tg_eq e33]; omega, ?_⟩⟩
         rw [tg_eq e33]
         intro z
         have z : kg F0 (tg F) = 8 ∨ kg F0 (tg F) = 9 ∨ kg F0 (tg F) = 10 ∨ kg F0 (tg F) = 15 := z
         have y3 : ¬ (kg F0 (tg F) = 10 ∨ kg F0 (tg F) = 15) := y3
         omega)
      | (rename_i F1 hb1 g e33 e34 e23 a39 e82 e83 e84 e85 e86
         obtain ⟨y1, y2, y3⟩ := good (by omega)
         refine k0ps_loop m hm hc F0 d hJ0 ha hb hd n F1 ⟨g0.trans (gc_mk (W := k0_W) hb1 g (by decide)) (fun _ q => q), by omega, by omega, by rw [e85, a39, e33], by omega, Or.inl ⟨Int32.toInt_inj.mp (by rw [z0]; exact e84), by rw [tg_eq e33]; omega, ?_⟩⟩ (by omega)
         rw [e34, tg_eq e33]
         exact y2.trans (eX_b4 (by omega) (by omega)))
      | (rename_i F1 hb1 g e33 e34 e23 a39 e82 e83 e84 e85
         obtain ⟨y1, y2, y3⟩ := good (by omega)
         have ts := tg_s c33.1 e33
         have g1 : gc k0_W F0 F1 := g0.trans (gc_mk (W := k0_W) hb1 g (by decide)) (fun _ q => q)
         have hJ1 : jx_ok F1 := jx_ok_eq (g1.2 39 (by decide) (by decide)) (g1.2 41 (by decide) (by decide)) hJ0
         refine hd_calI (R := fun x F' => pR k0_W E1 (sy_i F1 83).toInt.toNat x F1 F') (nh := 82) (nv := 86) (s := 0) (s1 := 0) (d1 := 5 + 3 * m) (M1 := jm_M39) (As := [.inl (.ref 30), .inr (.inl 82), .inr (.inl 83)]) (rest := []) jm_ok38 rfl rfl (by omega) (by decide +kernel) (hc F1 (sy_i F1 82) (sy_i F1 83) hb1 hJ1 (by omega) (by omega) (by omega)) (fun F3 F' x hR p1 p2 p3 => ?_)
         obtain ⟨r1, rl, r2⟩ := pR_dst hR p1
         have x86 : sy_i F3 86 = x := zz_i p3
         have k82 := nz_fi (p2 82 (by decide) (by decide))
         have k83 := nz_fi (p2 83 (by decide) (by decide))
         have k84 := nz_fi (p2 84 (by decide) (by decide))
         have k85 := nz_fi (p2 85 (by decide) (by decide))
         rw [kg_eq (g1.2 39 (by decide) (by decide)), show (sy_i F1 83).toInt.toNat = d by omega] at r2
         have e0 : eX (kg F0) (tg F0) d 0 = eX (kg F0) (tg F1) d 0 := by
           rw [ts]
           exact y2.trans (eX_b (by omega) (by omega))
         have g3 : gc k0_W F0 F3 := g1.trans r1 (fun _ q => q)
         refine k0ps_64 (by omega) F3 X1 X2 r1.1 (by omega) ?_ ?_ ?_ ?_ ?_ ?_ ?_ ?_
         all_goals
           intros
           rename_i q86 _ _ _ _ F4 hb4 g4 d33 d34 d23 b39 d82 d83 d84 d85 d86
           refine k0ps_loop m hm hc F0 d hJ0 ha hb hd n F4 ⟨g3.trans (gc_mk (W := k0_W) hb4 g4 (by decide)) (fun _ q => q), by omega, by omega, by rw [d85, b39, d33], by omega, ?_⟩ (by omega)
           rw [d34, tg_eq d33]
           rcases r2 with ⟨q1, q2⟩ | ⟨q1, q2, q3, q4⟩
           · first
               | exact Or.inl ⟨Int32.toInt_inj.mp (by rw [z0]; exact d84), by omega, e0.trans q2⟩
               | exact absurd (by rw [x86, q1]; decide) q86
           · first
               | exact Or.inr ⟨Int32.toInt_inj.mp (by rw [show (1 : Int32).toInt = 1 by decide]; exact d84), by omega, e0.trans q2, q4⟩
               | (rw [x86, q1] at q86; exact absurd q86 (by decide)))
theorem k0s_of (m : Nat) (hm : m ≤ 6) (hc : k0pT Ls xs X1 X2 m) : k0sT Ls xs X1 X2 m := by
  intro F a b hB hJ a0 a5 hb
  refine nx_T (s := 0) (by decide) F X1 X2 (as := [a, b]) (A := [.inl (.ref 30), .inr (.inl 82), .inr (.inl 83)]) jm_ok38 (by decide) rfl ?_
  obtain ⟨F0, hF0⟩ : ∃ F0, F0 = nx 82 F [a, b] := ⟨_, rfl⟩
  rw [← hF0]
  have k0 : ∀ q, q < 82 → F0 q = F q := by rw [hF0]; exact nx_lt
  have i82 : sy_i F0 82 = a := by rw [hF0]; rfl
  have i83 : sy_i F0 83 = b := by rw [hF0]; rfl
  have hB0 := hd_iveq0 hB k0
  have hJ0 : jx_ok F0 := jx_ok_eq (k0 39 (by decide)) (k0 41 (by decide)) hJ
  refine hd_W_mono (Q := fun v G => ∃ (x : Int32) (F' : Nat → sy_d), v = some (.int x) ∧ G = sy_dh F' X1 X2 (iv_H 0) ∧ pR k0_W E2 b.toInt.toNat x F0 F') ?_ (by
    rintro v G ⟨x, F', rfl, rfl, hR⟩
    exact ⟨x, F', rfl, rfl, pR_src hR k0⟩)
  clear hF0
  have j82 : (sy_i F0 82).toInt = a.toInt := by rw [i82]
  have j83 : (sy_i F0 83).toInt = b.toInt := by rw [i83]
  refine k0ps_0 (by omega) F0 X1 X2 hB0 ?_
  intro F1 hb1 g e33 e34 e23 a39 e82 e83
  have g0 : ∀ q, q < 82 → F1 q = F0 q := fun q hq => g q hq (by simp)
  have hJ1 : jx_ok F1 := jx_ok_eq (g0 39 (by decide)) (g0 41 (by decide)) hJ0
  refine hd_calI (R := fun x F' => pR k0_W E1 (sy_i F1 83).toInt.toNat x F1 F') (nh := 82) (nv := 84) (s := 0) (s1 := 0) (d1 := 5 + 3 * m) (M1 := jm_M39) (As := [.inl (.ref 30), .inr (.inl 82), .inr (.inl 83)]) (rest := []) jm_ok38 rfl rfl (by omega) (by decide +kernel) (hc F1 (sy_i F1 82) (sy_i F1 83) hb1 hJ1 (by omega) (by omega) (by omega)) (fun F3 F' x hR p1 p2 p3 => ?_)
  obtain ⟨r1, rl, r2⟩ := pR_src (pR_dst hR p1) g0
  have x84 : sy_i F3 84 = x := zz_i p3
  have k82 := nz_fi (p2 82 (by decide) (by decide))
  have k83 := nz_fi (p2 83 (by decide) (by decide))
  rw [show (sy_i F1 83).toInt.toNat = b.toInt.toNat by omega] at r2
  refine k0ps_6 (by omega) F3 X1 X2 r1.1 ?_
  intros
  rename_i F4 hb4 g4 d33 d34 d23 b39 d82 d83 d84 d85 d86
  refine k0ps_loop X1 X2 m hm hc F0 b.toInt.toNat hJ0 (by omega) (by omega) (by omega) 402 F4 ⟨r1.trans (gc_mk (W := k0_W) hb4 g4 (by decide)) (fun _ q => q), by omega, by omega, by rw [d85, b39, d33], by omega, ?_⟩ (by omega)
  rw [d34, tg_eq d33, d86, show sy_i F4 84 = x from (Int32.toInt_inj.mp d84).trans x84]
  rcases r2 with ⟨q1, q2⟩ | ⟨q1, q2, q3, q4⟩
  · exact Or.inl ⟨q1, by omega, q2⟩
  · exact Or.inr ⟨q1, by omega, q2, q4⟩
theorem k0_all : ∀ m : Nat, m ≤ 6 → k0sT Ls xs X1 X2 m
  | 0, h => k0s_of X1 X2 0 h (k0p_of X1 X2 0 h (k0u_of X1 X2 0 h (fun m' q => absurd q (by omega))))
  | m + 1, h => k0s_of X1 X2 (m + 1) h (k0p_of X1 X2 (m + 1) h (k0u_of X1 X2 (m + 1) h (fun m' q => by
      have : m = m' := by omega
      rw [← this]
      exact k0_all m (by omega))))
theorem k0_sum (F : Nat → sy_d) (a : Int32) (hB : iv_in F iv_B0) (hJ : jx_ok F) (a0 : 0 ≤ a.toInt) (a5 : a.toInt ≤ 5) : jm_T Ls xs 24 jm_M38 [.ref 30, .int a, .int 0] (sy_dh F X1 X2 (iv_H 0)) 0 0 (fun v G => ∃ (x : Int32) (F' : Nat → sy_d), v = some (.int x) ∧ G = sy_dh F' X1 X2 (iv_H 0) ∧ pR k0_W E2 0 x F F') := k0_all X1 X2 6 (by decide) F a 0 hB hJ a0 a5 (by decide)
end P0
noncomputable def k3_W : List Nat := [33, 34, 8, 17]
section P3
variable {Ls : Nat} {xs : Nat → Int32} (X1 X2 : List jm_c)
noncomputable def k3uT (Ls : Nat) (xs : Nat → Int32) (X1 X2 : List jm_c) (m : Nat) : Prop := ∀ (F : Nat → sy_d) (a b : Int32), iv_in F iv_B0 → jx_ok F → 0 ≤ a.toInt → a.toInt ≤ 5 → b.toInt = 6 - m → jm_T Ls xs (4 + 3 * m) jm_M40 [.ref 30, .int a, .int b] (sy_dh F X1 X2 (iv_H 3)) 0 0 (fun v G => ∃ (x : Int32) (F' : Nat → sy_d), v = some (.int x) ∧ G = sy_dh F' X1 X2 (iv_H 3) ∧ pR k3_W E0 b.toInt.toNat x F F')
noncomputable def k3pT (Ls : Nat) (xs : Nat → Int32) (X1 X2 : List jm_c) (m : Nat) : Prop := ∀ (F : Nat → sy_d) (a b : Int32), iv_in F iv_B0 → jx_ok F → 0 ≤ a.toInt → a.toInt ≤ 5 → b.toInt = 6 - m → jm_T Ls xs (5 + 3 * m) jm_M39 [.ref 30, .int a, .int b] (sy_dh F X1 X2 (iv_H 3)) 0 0 (fun v G => ∃ (x : Int32) (F' : Nat → sy_d), v = some (.int x) ∧ G = sy_dh F' X1 X2 (iv_H 3) ∧ pR k3_W E1 b.toInt.toNat x F F')
noncomputable def k3sT (Ls : Nat) (xs : Nat → Int32) (X1 X2 : List jm_c) (m : Nat) : Prop := ∀ (F : Nat → sy_d) (a b : Int32), iv_in F iv_B0 → jx_ok F → 0 ≤ a.toInt → a.toInt ≤ 5 → b.toInt = 6 - m → jm_T Ls xs (6 + 3 * m) jm_M38 [.ref 30, .int a, .int b] (sy_dh F X1 X2 (iv_H 3)) 0 0 (fun v G => ∃ (x : Int32) (F' : Nat → sy_d), v = some (.int x) ∧ G = sy_dh F' X1 X2 (iv_H 3) ∧ pR k3_W E2 b.toInt.toNat x F F')
theorem k3u_end {dp : Nat} (F0 F1 F3 : Nat → sy_d) (d : Nat) (hd : 4 ≤ dp) (g1 : gc k3_W F0 F1) (g3 : gc k3_W F1 F3) (hlt : tg F0 < tg F1) (hle : tg F1 ≤ tg F3) (h : (sy_i F3 84 = 0 ∧ eX (kg F0) (tg F0) d 0 = .inl ((sy_i F3 34).toInt, tg F3)) ∨ (sy_i F3 84 = 1 ∧ eX (kg F0) (tg F0) d 0 = eX (kg F0) (tg F3) (d + 1) 1 ∧ tg F0 < tg F3 ∧ ¬ E2 (kg F0 (tg F3)))) :
    hd_W Ls xs dp jm_M40 (fun v G => ∃ (x : Int32) (F' : Nat → sy_d), v = some (.int x) ∧ G = sy_dh F' X1 X2 (iv_H 3) ∧ pR k3_W E0 d x F0 F') (137, sy_dL F3 [some (.inl (.ref 30)), none, none, none, none], sy_dS F3 [.inr (.inl 84)], sy_dh F3 X1 X2 (iv_H 3), 0, 0) := by
  have g03 : gc k3_W F0 F3 := g1.trans g3 (fun _ q => q)
  have hB3 := g03.1
  have c33 := nz_bx hB3 (k := 33) (lo := 0) (hi := 400) rfl
  have et : (tg F3 : Int) = (sy_i F3 33).toInt := by unfold tg; omega
  have eK : kg F0 (tg F3) = km ((sy_ai F3 39).getD (sy_i F3 33).toInt.toNat 0).toInt := by rw [show sy_ai F3 39 = sy_ai F0 39 from nz_fa (g03.2 39 (by decide) (by decide))]; rfl
  have m2 : kg F0 (tg F3) = 2 ↔ ((sy_ai F3 39).getD (sy_i F3 33).toInt.toNat 0).toInt = 24 := by rw [eK]; exact km_2
  have m6 : kg F0 (tg F3) = 6 ↔ ((sy_ai F3 39).getD (sy_i F3 33).toInt.toNat 0).toInt = 40 := by rw [eK]; exact km_6
  have m7 : kg F0 (tg F3) = 7 ↔ ((sy_ai F3 39).getD (sy_i F3 33).toInt.toNat 0).toInt = 41 := by rw [eK]; exact km_7
  have m8 : kg F0 (tg F3) = 8 ↔ ((sy_ai F3 39).getD (sy_i F3 33).toInt.toNat 0).toInt = 43 := by rw [eK]; exact km_8
  have m9 : kg F0 (tg F3) = 9 ↔ ((sy_ai F3 39).getD (sy_i F3 33).toInt.toNat 0).toInt = 45 := by rw [eK]; exact km_9
  have m10 : kg F0 (tg F3) = 10 ↔ ((sy_ai F3 39).getD (sy_i F3 33).toInt.toNat 0).toInt = 42 := by rw [eK]; exact km_10
  have m15 : kg F0 (tg F3) = 15 ↔ ((sy_ai F3 39).getD (sy_i F3 33).toInt.toNat 0).toInt = 47 := by rw [eK]; exact km_15
  have mv : (34 ≤ kg F0 (tg F3) ∧ kg F0 (tg F3) ≤ 42) ↔ (14 ≤ ((sy_ai F3 39).getD (sy_i F3 33).toInt.toNat 0).toInt ∧ ((sy_ai F3 39).getD (sy_i F3 33).toInt.toNat 0).toInt ≤ 22) := by rw [eK]; exact km_v
  refine k3pu_137 (by omega) F3 X1 X2 hB3 ?_ ?_ ?_ ?_
  · intro q F4 hb g e33 e34 e23 a39
    refine ⟨_, F4, rfl, rfl, g03.trans (gc_mk (W := k3_W) hb g (by decide)) (fun _ q => q), by rw [tg_eq e33]; omega, Or.inl ⟨rfl, ?_⟩⟩
    rcases h with ⟨h1, h2⟩ | ⟨h1, -⟩
    · rw [e34, tg_eq e33]
      exact h2
    · rw [h1] at q
      exact absurd q (by decide)
  · intro q84 _ _ _ _ F4 hb g e33 e34 e23 a39
    rcases h with ⟨h1, -⟩ | ⟨h1, h2, h3, h4⟩
    · rw [h1] at q84
      exact absurd (by decide) q84
    have hE : ¬ (kg F0 (tg F3) = 8 ∨ kg F0 (tg F3) = 9 ∨ kg F0 (tg F3) = 10 ∨ kg F0 (tg F3) = 15) := h4
    refine ⟨_, F4, rfl, rfl, g03.trans (gc_mk (W := k3_W) hb g (by decide)) (fun _ q => q), by first | (rw [tg_eq e33]; omega) | (rw [tg_s c33.1 e33]; omega), ?_⟩
    first
      | exact Or.inr ⟨rfl, by rw [tg_s c33.1 e33]; exact h2.trans (eX_c (by omega) (by omega) (by omega)), by rw [tg_s c33.1 e33]; omega, id⟩
      | exact Or.inl ⟨rfl, by rw [e34, tg_eq e33]; exact h2.trans (eX_c4 (by omega) (by omega) (by omega))⟩
      | exact Or.inl ⟨rfl, by rw [e34, tg_eq e33]; exact h2.trans (eX_e1 (by omega) (by omega) hE (by omega))⟩
  · intro q84 _ _ _ _ F4 hb g e33 e34 e23 a39
    rcases h with ⟨h1, -⟩ | ⟨h1, h2, h3, h4⟩
    · rw [h1] at q84
      exact absurd (by decide) q84
    have hE : ¬ (kg F0 (tg F3) = 8 ∨ kg F0 (tg F3) = 9 ∨ kg F0 (tg F3) = 10 ∨ kg F0 (tg F3) = 15) := h4
    refine ⟨_, F4, rfl, rfl, g03.trans (gc_mk (W := k3_W) hb g (by decide)) (fun _ q => q), by first | (rw [tg_eq e33]; omega) | (rw [tg_s c33.1 e33]; omega), ?_⟩
    first
      | exact Or.inr ⟨rfl, by rw [tg_s c33.1 e33]; exact h2.trans (eX_c (by omega) (by omega) (by omega)), by rw [tg_s c33.1 e33]; omega, id⟩
      | exact Or.inl ⟨rfl, by rw [e34, tg_eq e33]; exact h2.trans (eX_c4 (by omega) (by omega) (by omega))⟩
      | exact Or.inl ⟨rfl, by rw [e34, tg_eq e33]; exact h2.trans (eX_e1 (by omega) (by omega) hE (by omega))⟩
  · intro q84 _ _ _ F4 hb g e33 e34 e23 a39
    rcases h with ⟨h1, -⟩ | ⟨h1, h2, h3, h4⟩
    · rw [h1] at q84
      exact absurd (by decide) q84
    have hE : ¬ (kg F0 (tg F3) = 8 ∨ kg F0 (tg F3) = 9 ∨ kg F0 (tg F3) = 10 ∨ kg F0 (tg F3) = 15) := h4
    refine ⟨_, F4, rfl, rfl, g03.trans (gc_mk (W := k3_W) hb g (by decide)) (fun _ q => q), by first | (rw [tg_eq e33]; omega) | (rw [tg_s c33.1 e33]; omega), ?_⟩
    first
      | exact Or.inr ⟨rfl, by rw [tg_s c33.1 e33]; exact h2.trans (eX_c (by omega) (by omega) (by omega)), by rw [tg_s c33.1 e33]; omega, id⟩
      | exact Or.inl ⟨rfl, by rw [e34, tg_eq e33]; exact h2.trans (eX_c4 (by omega) (by omega) (by omega))⟩
      | exact Or.inl ⟨rfl, by rw [e34, tg_eq e33]; exact h2.trans (eX_e1 (by omega) (by omega) hE (by omega))⟩
theorem k3u_of (m : Nat) (hm : m ≤ 6) (ih : ∀ m', m = m' + 1 → k3sT Ls xs X1 X2 m') : k3uT Ls xs X1 X2 m := by
  intro F a b hB hJ a0 a5 hb
  refine nx_T (s := 3) (by decide) F X1 X2 (as := [a, b]) (A := [.inl (.ref 30), .inr (.inl 82), .inr (.inl 83)]) jm_ok40 (by decide) rfl ?_
  obtain ⟨F0, hF0⟩ : ∃ F0, F0 = nx 82 F [a, b] := ⟨_, rfl⟩
  rw [← hF0]
  have k0 : ∀ q, q < 82 → F0 q = F q := by rw [hF0]; exact nx_lt
  have i82 : sy_i F0 82 = a := by rw [hF0]; rfl
  have i83 : sy_i F0 83 = b := by rw [hF0]; rfl
  have hB0 := hd_iveq0 hB k0
  have hJ0 : jx_ok F0 := jx_ok_eq (k0 39 (by decide)) (k0 41 (by decide)) hJ
  refine hd_W_mono (Q := fun v G => ∃ (x : Int32) (F' : Nat → sy_d), v = some (.int x) ∧ G = sy_dh F' X1 X2 (iv_H 3) ∧ pR k3_W E0 b.toInt.toNat x F0 F') ?_ (by
    rintro v G ⟨x, F', rfl, rfl, hR⟩
    exact ⟨x, F', rfl, rfl, pR_src hR k0⟩)
  clear hF0
  have j82 : (sy_i F0 82).toInt = a.toInt := by rw [i82]
  have j83 : (sy_i F0 83).toInt = b.toInt := by rw [i83]
  have c33 := nz_bx hB0 (k := 33) (lo := 0) (hi := 400) rfl
  have et : (tg F0 : Int) = (sy_i F0 33).toInt := by unfold tg; omega
  have eK : kg F0 (tg F0) = km ((sy_ai F0 39).getD (sy_i F0 33).toInt.toNat 0).toInt := rfl
  have m2 : kg F0 (tg F0) = 2 ↔ ((sy_ai F0 39).getD (sy_i F0 33).toInt.toNat 0).toInt = 24 := by rw [eK]; exact km_2
  have m6 : kg F0 (tg F0) = 6 ↔ ((sy_ai F0 39).getD (sy_i F0 33).toInt.toNat 0).toInt = 40 := by rw [eK]; exact km_6
  have m7 : kg F0 (tg F0) = 7 ↔ ((sy_ai F0 39).getD (sy_i F0 33).toInt.toNat 0).toInt = 41 := by rw [eK]; exact km_7
  have m8 : kg F0 (tg F0) = 8 ↔ ((sy_ai F0 39).getD (sy_i F0 33).toInt.toNat 0).toInt = 43 := by rw [eK]; exact km_8
  have m9 : kg F0 (tg F0) = 9 ↔ ((sy_ai F0 39).getD (sy_i F0 33).toInt.toNat 0).toInt = 45 := by rw [eK]; exact km_9
  have m10 : kg F0 (tg F0) = 10 ↔ ((sy_ai F0 39).getD (sy_i F0 33).toInt.toNat 0).toInt = 42 := by rw [eK]; exact km_10
  have m15 : kg F0 (tg F0) = 15 ↔ ((sy_ai F0 39).getD (sy_i F0 33).toInt.toNat 0).toInt = 47 := by rw [eK]; exact km_15
  have mv : (34 ≤ kg F0 (tg F0) ∧ kg F0 (tg F0) ≤ 42) ↔ (14 ≤ ((sy_ai F0 39).getD (sy_i F0 33).toInt.toNat 0).toInt ∧ ((sy_ai F0 39).getD (sy_i F0 33).toInt.toNat 0).toInt ≤ 22) := by rw [eK]; exact km_v
  have hJ1 : ((sy_ai F0 39).getD (sy_i F0 33).toInt.toNat 0).toInt = 24 → 0 ≤ (((sy_al F0 41).getD (sy_i F0 33).toInt.toNat 0).toInt32).toInt ∧ (((sy_al F0 41).getD (sy_i F0 33).toInt.toNat 0).toInt32).toInt ≤ 9999 := fun h => jx_i32 hJ0 h
  have em : ∀ (F1 : Nat → sy_d), gc k3_W F0 F1 → (sy_i F1 33).toInt = (sy_i F0 33).toInt → (sy_i F1 82).toInt = ((sy_ai F0 39).getD (sy_i F0 33).toInt.toNat 0).toInt → -100 ≤ (sy_i F1 83).toInt → (sy_i F1 83).toInt ≤ 9999 → (kg F0 (tg F0) = 2 ∨ (34 ≤ kg F0 (tg F0) ∧ kg F0 (tg F0) ≤ 42)) → ∀ pc, (pc = 34 ∨ pc = 88) → hd_W Ls xs (4 + 3 * m) jm_M40 (fun v G => ∃ (x : Int32) (F' : Nat → sy_d), v = some (.int x) ∧ G = sy_dh F' X1 X2 (iv_H 3) ∧ pR k3_W E0 b.toInt.toNat x F0 F') (pc, sy_dL F1 [some (.inl (.ref 30)), none, none, some (.inr (.inl 82)), none], sy_dS F1 [.inr (.inl 83), .inl (.ref 10)], sy_dh F1 X1 X2 (iv_H 3), 0, 0) := by
    intro F1 g1 f33 f82 v0 v1 hk pc hpc
    have x39 : sy_ai F1 39 = sy_ai F0 39 := nz_fa (g1.2 39 (by decide) (by decide))
    have c82 : ((sy_ai F1 39).getD (sy_i F1 33).toInt.toNat 0).toInt = (sy_i F1 82).toInt := by rw [x39, f33, f82]
    have e0 : tg F1 = tg F0 := tg_eq f33
    clear m2 m6 m7 m8 m9 m10 m15 mv eK
    rcases hpc with rfl | rfl
    · refine k3pu_34 (by omega) F1 X1 X2 g1.1 (by omega) ?_ ?_ ?_ ?_ ?_ ?_
      all_goals intros
      all_goals first
        | (exfalso; omega)
        | (rename_i F2 hb2 g e33 e34 e23 a39
           exact ⟨_, F2, rfl, rfl, g1.trans (gc_mk (W := k3_W) hb2 g (by decide)) (fun _ q => q), by rw [tg_eq e33]; omega, Or.inl ⟨rfl, by rw [e34, tg_eq e33, e0]; exact eX_u4 (by omega) hk⟩⟩)
        | (rename_i F2 hb2 g e33 e34 e23 a39
           have ts := tg_s (by omega) e33
           exact ⟨_, F2, rfl, rfl, g1.trans (gc_mk (W := k3_W) hb2 g (by decide)) (fun _ q => q), by omega, Or.inr ⟨rfl, by rw [ts, e0]; exact eX_u (by omega) hk, by omega, id⟩⟩)
    · refine k3pu_88 (by omega) F1 X1 X2 g1.1 (by omega) ?_ ?_ ?_ ?_ ?_ ?_
      all_goals intros
      all_goals first
        | (exfalso; omega)
        | (rename_i F2 hb2 g e33 e34 e23 a39
           exact ⟨_, F2, rfl, rfl, g1.trans (gc_mk (W := k3_W) hb2 g (by decide)) (fun _ q => q), by rw [tg_eq e33]; omega, Or.inl ⟨rfl, by rw [e34, tg_eq e33, e0]; exact eX_u4 (by omega) hk⟩⟩)
        | (rename_i F2 hb2 g e33 e34 e23 a39
           have ts := tg_s (by omega) e33
           exact ⟨_, F2, rfl, rfl, g1.trans (gc_mk (W := k3_W) hb2 g (by decide)) (fun _ q => q), by omega, Or.inr ⟨rfl, by rw [ts, e0]; exact eX_u (by omega) hk, by omega, id⟩⟩)
  refine k3pu_0 (by omega) F0 X1 X2 hB0 (by omega) (by omega) ?_ ?_ ?_ ?_ ?_ ?_ ?_ ?_
  all_goals intros
  all_goals first
    | (exfalso; clear em hJ1; omega)
    | (rename_i F1 hb1 g e33 e34 e23 a39
       clear em hJ1
       exact ⟨_, F1, rfl, rfl, gc_mk hb1 g (by decide), by rw [tg_eq e33]; omega, Or.inl ⟨rfl, by rw [e34, tg_eq e33]; exact eX_u1 (by omega) (by omega) (by omega) (by omega)⟩⟩)
    | (rename_i F1 hb1 g e33 e34 e23 a39
       clear em hJ1
       exact ⟨_, F1, rfl, rfl, gc_mk hb1 g (by decide), by rw [tg_eq e33]; omega, Or.inl ⟨rfl, by rw [e34, tg_eq e33]; exact eX_o6 (by omega) (by omega) (by omega)⟩⟩)
    | (rename_i F1 hb1 g e33 e34 e23 a39 e82 e83
       have hv := hJ1 (by omega)
       exact em F1 (gc_mk hb1 g (by decide)) e33 e82 (by omega) (by omega) (by omega) 34 (Or.inl rfl))
    | (rename_i F1 hb1 g e33 e34 e23 a39 e82 e83
       exact em F1 (gc_mk hb1 g (by decide)) e33 e82 (by omega) (by omega) (by omega) 88 (Or.inr rfl))
    | (rename_i F1 hb1 g e33 e34 e23 a39 e82 e83
       clear em hJ1
       have ts := tg_s c33.1 e33
       obtain ⟨m', rfl⟩ : ∃ m', m = m' + 1 := ⟨m - 1, by omega⟩
       have hJ1 : jx_ok F1 := jx_ok_eq (g 39 (by decide) (by decide)) (g 41 (by decide) (by decide)) hJ0
       refine hd_calI (R := fun x F' => pR k3_W E2 (sy_i F1 82).toInt.toNat x F1 F') (nh := 82) (nv := 84) (s := 3) (s1 := 3) (d1 := 6 + 3 * m') (M1 := jm_M38) (As := [.inl (.ref 30), .inr (.inl 83), .inr (.inl 82)]) (rest := []) jm_ok40 rfl rfl (by omega) (by decide +kernel) (ih m' rfl F1 (sy_i F1 83) (sy_i F1 82) hb1 hJ1 (by omega) (by omega) (by omega)) (fun F3 F' x hR p1 p2 p3 => ?_)
       obtain ⟨r1, rl, r2⟩ := pR_dst hR p1
       have i84 : sy_i F3 84 = x := zz_i p3
       have e0 : eX (kg F0) (tg F0) b.toInt.toNat 0 = eX (kg F0) (tg F1) (sy_i F1 82).toInt.toNat 0 := by
         rw [ts, show (sy_i F1 82).toInt.toNat = b.toInt.toNat + 1 by omega]
         exact eX_o (by omega) (by omega) (by omega)
       rw [kg_eq (g 39 (by decide) (by decide))] at r2
       refine k3u_end X1 X2 F0 F1 F3 b.toInt.toNat (by omega) (gc_mk hb1 g (by decide)) r1 (by omega) (by omega) ?_
       rw [i84]
       rcases r2 with ⟨q1, q2⟩ | ⟨q1, q2, q3, q4⟩
       · exact Or.inl ⟨q1, e0.trans q2⟩
       · exact Or.inr ⟨q1, by rw [show b.toInt.toNat + 1 = (sy_i F1 82).toInt.toNat by omega]; exact e0.trans q2, by omega, q4⟩)
/-- at the loop's head -/
noncomputable def k3ppI (F0 F : Nat → sy_d) (d : Nat) : Prop := gc k3_W F0 F ∧ (sy_i F 82).toInt = (sy_i F0 82).toInt ∧ (sy_i F 83).toInt = (sy_i F0 83).toInt ∧ (sy_i F 85).toInt = ((sy_ai F 39).getD (sy_i F 33).toInt.toNat 0).toInt ∧ 0 ≤ (sy_i F 86).toInt ∧ ((sy_i F 84 = 0 ∧ (sy_i F 86).toInt + tg F0 ≤ tg F ∧ eX (kg F0) (tg F0) d 0 = .inl ((sy_i F 34).toInt, tg F)) ∨ (sy_i F 84 = 1 ∧ (sy_i F 86).toInt + 1 + tg F0 ≤ tg F ∧ eX (kg F0) (tg F0) d 0 = eX (kg F0) (tg F) d 1 ∧ ¬ E0 (kg F0 (tg F))))
theorem k3pp_loop (m : Nat) (hm : m ≤ 6) (hc : k3uT Ls xs X1 X2 m) (F0 : Nat → sy_d) (d : Nat) (hJ0 : jx_ok F0) (ha : 0 ≤ (sy_i F0 82).toInt ∧ (sy_i F0 82).toInt ≤ 5) (hb : (sy_i F0 83).toInt = 6 - m) (hd : (d : Int) = 6 - m) : ∀ (n : Nat) (F : Nat → sy_d), k3ppI F0 F d → 401 - (sy_i F 86).toInt < n →
    hd_W Ls xs (5 + 3 * m) jm_M39 (fun v G => ∃ (x : Int32) (F' : Nat → sy_d), v = some (.int x) ∧ G = sy_dh F' X1 X2 (iv_H 3) ∧ pR k3_W E1 d x F0 F') (23, sy_dL F [some (.inl (.ref 30)), some (.inr (.inl 82)), some (.inr (.inl 83)), some (.inr (.inl 84)), some (.inr (.inl 85)), some (.inr (.inl 86))], sy_dS F [], sy_dh F X1 X2 (iv_H 3), 0, 0)
  | 0, F, h, h3 => by
    obtain ⟨g0, -, -, -, h86, h⟩ := h
    have c33 := nz_bx g0.1 (k := 33) (lo := 0) (hi := 400) rfl
    have et : (tg F : Int) = (sy_i F 33).toInt := by unfold tg; omega
    rcases h with ⟨-, h, -⟩ | ⟨-, h, -⟩ <;> omega
  | n + 1, F, h, h3 => by
    obtain ⟨g0, i82, i83, i85, h86, h⟩ := h
    have hB := g0.1
    have c33 := nz_bx hB (k := 33) (lo := 0) (hi := 400) rfl
    have et : (tg F : Int) = (sy_i F 33).toInt := by unfold tg; omega
    have eK : kg F0 (tg F) = km ((sy_ai F 39).getD (sy_i F 33).toInt.toNat 0).toInt := by rw [show sy_ai F 39 = sy_ai F0 39 from nz_fa (g0.2 39 (by decide) (by decide))]; rfl
    have m2 : kg F0 (tg F) = 2 ↔ ((sy_ai F 39).getD (sy_i F 33).toInt.toNat 0).toInt = 24 := by rw [eK]; exact km_2
    have m6 : kg F0 (tg F) = 6 ↔ ((sy_ai F 39).getD (sy_i F 33).toInt.toNat 0).toInt = 40 := by rw [eK]; exact km_6
    have m7 : kg F0 (tg F) = 7 ↔ ((sy_ai F 39).getD (sy_i F 33).toInt.toNat 0).toInt = 41 := by rw [eK]; exact km_7
    have m8 : kg F0 (tg F) = 8 ↔ ((sy_ai F 39).getD (sy_i F 33).toInt.toNat 0).toInt = 43 := by rw [eK]; exact km_8
    have m9 : kg F0 (tg F) = 9 ↔ ((sy_ai F 39).getD (sy_i F 33).toInt.toNat 0).toInt = 45 := by rw [eK]; exact km_9
    have m10 : kg F0 (tg F) = 10 ↔ ((sy_ai F 39).getD (sy_i F 33).toInt.toNat 0).toInt = 42 := by rw [eK]; exact km_10
    have m15 : kg F0 (tg F) = 15 ↔ ((sy_ai F 39).getD (sy_i F 33).toInt.toNat 0).toInt = 47 := by rw [eK]; exact km_15
    have mv : (34 ≤ kg F0 (tg F) ∧ kg F0 (tg F) ≤ 42) ↔ (14 ≤ ((sy_ai F 39).getD (sy_i F 33).toInt.toNat 0).toInt ∧ ((sy_ai F 39).getD (sy_i F 33).toInt.toNat 0).toInt ≤ 22) := by rw [eK]; exact km_v
    have h400 : (sy_i F 86).toInt ≤ 400 := by rcases h with ⟨-, h, -⟩ | ⟨-, h, -⟩ <;> omega
    have hle : tg F0 ≤ tg F := by rcases h with ⟨-, h, -⟩ | ⟨-, h, -⟩ <;> omega
    have h84 : (sy_i F 84).toInt = 0 ∨ (sy_i F 84).toInt = 1 := by
      rcases h with ⟨h, -⟩ | ⟨h, -⟩
      · rw [h]; exact Or.inl (by decide)
      · rw [h]; exact Or.inr (by decide)
    have good : (sy_i F 84).toInt ≠ 0 → (sy_i F 86).toInt + 1 + tg F0 ≤ tg F ∧ eX (kg F0) (tg F0) d 0 = eX (kg F0) (tg F) d 1 ∧ ¬ E0 (kg F0 (tg F)) := fun q => by
      rcases h with ⟨h, -⟩ | ⟨-, h⟩
      · rw [h] at q
        exact absurd (by decide) q
      · exact h
    have z0 : (0 : Int32).toInt = 0 := by decide
    refine k3pp_23 (by omega) F X1 X2 hB (by omega) (by omega) (by omega) ?_ ?_ ?_ ?_ ?_ ?_ ?_ ?_ ?_ ?_ ?_ ?_ ?_
    · intros; exfalso; omega
    · intro q1 q2 F1 hb1 g e33 e34 e23 a39
      refine ⟨_, F1, rfl, rfl, g0.trans (gc_mk (W := k3_W) hb1 g (by decide)) (fun _ q => q), by rw [tg_eq e33]; exact hle, ?_⟩
      rcases h with ⟨h1, h2, h3⟩ | ⟨h1, -⟩
      · exact Or.inl ⟨h1, by rw [e34, tg_eq e33]; exact h3⟩
      · rw [h1] at q2
        exact absurd q2 (by decide)
    all_goals clear h
    all_goals intros
    all_goals first
      | (exfalso; omega)
      | (rename_i F1 hb1 g e33 e34 e23 a39
         obtain ⟨y1, y2, y3⟩ := good (by omega)
         refine ⟨_, F1, rfl, rfl, g0.trans (gc_mk (W := k3_W) hb1 g (by decide)) (fun _ q => q), by rw [tg_eq e33]; exact hle, Or.inr ⟨Int32.toInt_inj.mp (by rw [show (1 : Int32).toInt = 1 by decide]; omega), by rw [tg_eq e33]; exact y2, by rw [tg_eq e33]; omega, ?_⟩⟩
         rw [tg_eq e33]
         intro z
         have z : kg F0 (tg F) = 10 ∨ kg F0 (tg F) = 15 := z
         omega)
      | (rename_i F1 hb1 g e33 e34 e23 a39 e82 e83 e84 e85 e86
         obtain ⟨y1, y2, y3⟩ := good (by omega)
         refine k3pp_loop m hm hc F0 d hJ0 ha hb hd n F1 ⟨g0.trans (gc_mk (W := k3_W) hb1 g (by decide)) (fun _ q => q), by omega, by omega, by rw [e85, a39, e33], by omega, Or.inl ⟨Int32.toInt_inj.mp (by rw [z0]; exact e84), by rw [tg_eq e33]; omega, ?_⟩⟩ (by omega)
         rw [e34, tg_eq e33]
         exact y2.trans (eX_b4 (by omega) (by omega)))
      | (rename_i F1 hb1 g e33 e34 e23 a39 e82 e83 e84 e85
         obtain ⟨y1, y2, y3⟩ := good (by omega)
         have ts := tg_s c33.1 e33
         have g1 : gc k3_W F0 F1 := g0.trans (gc_mk (W := k3_W) hb1 g (by decide)) (fun _ q => q)
         have hJ1 : jx_ok F1 := jx_ok_eq (g1.2 39 (by decide) (by decide)) (g1.2 41 (by decide) (by decide)) hJ0
         refine hd_calI (R := fun x F' => pR k3_W E0 (sy_i F1 83).toInt.toNat x F1 F') (nh := 82) (nv := 86) (s := 3) (s1 := 3) (d1 := 4 + 3 * m) (M1 := jm_M40) (As := [.inl (.ref 30), .inr (.inl 82), .inr (.inl 83)]) (rest := []) jm_ok39 rfl rfl (by omega) (by decide +kernel) (hc F1 (sy_i F1 82) (sy_i F1 83) hb1 hJ1 (by omega) (by omega) (by omega)) (fun F3 F' x hR p1 p2 p3 => ?_)
         obtain ⟨r1, rl, r2⟩ := pR_dst hR p1
         have x86 : sy_i F3 86 = x := zz_i p3
         have k82 := nz_fi (p2 82 (by decide) (by decide))
         have k83 := nz_fi (p2 83 (by decide) (by decide))
         have k84 := nz_fi (p2 84 (by decide) (by decide))
         have k85 := nz_fi (p2 85 (by decide) (by decide))
         rw [kg_eq (g1.2 39 (by decide) (by decide)), show (sy_i F1 83).toInt.toNat = d by omega] at r2
         have e0 : eX (kg F0) (tg F0) d 0 = eX (kg F0) (tg F1) d 0 := by
           rw [ts]
           exact y2.trans (eX_b (by omega) (by omega))
         have g3 : gc k3_W F0 F3 := g1.trans r1 (fun _ q => q)
         refine k3pp_64 (by omega) F3 X1 X2 r1.1 (by omega) ?_ ?_ ?_ ?_ ?_ ?_ ?_ ?_
         all_goals
           intros
           rename_i q86 _ _ _ _ F4 hb4 g4 d33 d34 d23 b39 d82 d83 d84 d85 d86
           refine k3pp_loop m hm hc F0 d hJ0 ha hb hd n F4 ⟨g3.trans (gc_mk (W := k3_W) hb4 g4 (by decide)) (fun _ q => q), by omega, by omega, by rw [d85, b39, d33], by omega, ?_⟩ (by omega)
           rw [d34, tg_eq d33]
           rcases r2 with ⟨q1, q2⟩ | ⟨q1, q2, q3, q4⟩
           · first
               | exact Or.inl ⟨Int32.toInt_inj.mp (by rw [z0]; exact d84), by omega, e0.trans q2⟩
               | exact absurd (by rw [x86, q1]; decide) q86
           · first
               | exact Or.inr ⟨Int32.toInt_inj.mp (by rw [show (1 : Int32).toInt = 1 by decide]; exact d84), by omega, e0.trans q2, q4⟩
               | (rw [x86, q1] at q86; exact absurd q86 (by decide)))
theorem k3p_of (m : Nat) (hm : m ≤ 6) (hc : k3uT Ls xs X1 X2 m) : k3pT Ls xs X1 X2 m := by
  intro F a b hB hJ a0 a5 hb
  refine nx_T (s := 3) (by decide) F X1 X2 (as := [a, b]) (A := [.inl (.ref 30), .inr (.inl 82), .inr (.inl 83)]) jm_ok39 (by decide) rfl ?_
  obtain ⟨F0, hF0⟩ : ∃ F0, F0 = nx 82 F [a, b] := ⟨_, rfl⟩
  rw [← hF0]
  have k0 : ∀ q, q < 82 → F0 q = F q := by rw [hF0]; exact nx_lt
  have i82 : sy_i F0 82 = a := by rw [hF0]; rfl
  have i83 : sy_i F0 83 = b := by rw [hF0]; rfl
  have hB0 := hd_iveq0 hB k0
  have hJ0 : jx_ok F0 := jx_ok_eq (k0 39 (by decide)) (k0 41 (by decide)) hJ
  refine hd_W_mono (Q := fun v G => ∃ (x : Int32) (F' : Nat → sy_d), v = some (.int x) ∧ G = sy_dh F' X1 X2 (iv_H 3) ∧ pR k3_W E1 b.toInt.toNat x F0 F') ?_ (by
    rintro v G ⟨x, F', rfl, rfl, hR⟩
    exact ⟨x, F', rfl, rfl, pR_src hR k0⟩)
  clear hF0
  have j82 : (sy_i F0 82).toInt = a.toInt := by rw [i82]
  have j83 : (sy_i F0 83).toInt = b.toInt := by rw [i83]
  refine k3pp_0 (by omega) F0 X1 X2 hB0 ?_
  intro F1 hb1 g e33 e34 e23 a39 e82 e83
  have g0 : ∀ q, q < 82 → F1 q = F0 q := fun q hq => g q hq (by simp)
  have hJ1 : jx_ok F1 := jx_ok_eq (g0 39 (by decide)) (g0 41 (by decide)) hJ0
  refine hd_calI (R := fun x F' => pR k3_W E0 (sy_i F1 83).toInt.toNat x F1 F') (nh := 82) (nv := 84) (s := 3) (s1 := 3) (d1 := 4 + 3 * m) (M1 := jm_M40) (As := [.inl (.ref 30), .inr (.inl 82), .inr (.inl 83)]) (rest := []) jm_ok39 rfl rfl (by omega) (by decide +kernel) (hc F1 (sy_i F1 82) (sy_i F1 83) hb1 hJ1 (by omega) (by omega) (by omega)) (fun F3 F' x hR p1 p2 p3 => ?_)
  obtain ⟨r1, rl, r2⟩ := pR_src (pR_dst hR p1) g0
  have x84 : sy_i F3 84 = x := zz_i p3
  have k82 := nz_fi (p2 82 (by decide) (by decide))
  have k83 := nz_fi (p2 83 (by decide) (by decide))
  rw [show (sy_i F1 83).toInt.toNat = b.toInt.toNat by omega] at r2
  refine k3pp_6 (by omega) F3 X1 X2 r1.1 ?_
  intros
  rename_i F4 hb4 g4 d33 d34 d23 b39 d82 d83 d84 d85 d86
  refine k3pp_loop X1 X2 m hm hc F0 b.toInt.toNat hJ0 (by omega) (by omega) (by omega) 402 F4 ⟨r1.trans (gc_mk (W := k3_W) hb4 g4 (by decide)) (fun _ q => q), by omega, by omega, by rw [d85, b39, d33], by omega, ?_⟩ (by omega)
  rw [d34, tg_eq d33, d86, show sy_i F4 84 = x from (Int32.toInt_inj.mp d84).trans x84]
  rcases r2 with ⟨q1, q2⟩ | ⟨q1, q2, q3, q4⟩
  · exact Or.inl ⟨q1, by omega, q2⟩
  · exact Or.inr ⟨q1, by omega, q2, q4⟩
/-- at the loop's head -/
noncomputable def k3psI (F0 F : Nat → sy_d) (d : Nat) : Prop := gc k3_W F0 F ∧ (sy_i F 82).toInt = (sy_i F0 82).toInt ∧ (sy_i F 83).toInt = (sy_i F0 83).toInt ∧ (sy_i F 85).toInt = ((sy_ai F 39).getD (sy_i F 33).toInt.toNat 0).toInt ∧ 0 ≤ (sy_i F 86).toInt ∧ ((sy_i F 84 = 0 ∧ (sy_i F 86).toInt + tg F0 ≤ tg F ∧ eX (kg F0) (tg F0) d 0 = .inl ((sy_i F 34).toInt, tg F)) ∨ (sy_i F 84 = 1 ∧ (sy_i F 86).toInt + 1 + tg F0 ≤ tg F ∧ eX (kg F0) (tg F0) d 0 = eX (kg F0) (tg F) d 1 ∧ ¬ E1 (kg F0 (tg F))))
theorem k3ps_loop (m : Nat) (hm : m ≤ 6) (hc : k3pT Ls xs X1 X2 m) (F0 : Nat → sy_d) (d : Nat) (hJ0 : jx_ok F0) (ha : 0 ≤ (sy_i F0 82).toInt ∧ (sy_i F0 82).toInt ≤ 5) (hb : (sy_i F0 83).toInt = 6 - m) (hd : (d : Int) = 6 - m) : ∀ (n : Nat) (F : Nat → sy_d), k3psI F0 F d → 401 - (sy_i F 86).toInt < n →
    hd_W Ls xs (6 + 3 * m) jm_M38 (fun v G => ∃ (x : Int32) (F' : Nat → sy_d), v = some (.int x) ∧ G = sy_dh F' X1 X2 (iv_H 3) ∧ pR k3_W E2 d x F0 F') (23, sy_dL F [some (.inl (.ref 30)), some (.inr (.inl 82)), some (.inr (.inl 83)), some (.inr (.inl 84)), some (.inr (.inl 85)), some (.inr (.inl 86))], sy_dS F [], sy_dh F X1 X2 (iv_H 3), 0, 0)
  | 0, F, h, h3 => by
    obtain ⟨g0, -, -, -, h86, h⟩ := h
    have c33 := nz_bx g0.1 (k := 33) (lo := 0) (hi := 400) rfl
    have et : (tg F : Int) = (sy_i F 33).toInt := by unfold tg; omega
    rcases h with ⟨-, h, -⟩ | ⟨-, h, -⟩ <;> omega
  | n + 1, F, h, h3 => by
    obtain ⟨g0, i82, i83, i85, h86, h⟩ := h
    have hB := g0.1
    have c33 := nz_bx hB (k := 33) (lo := 0) (hi := 400) rfl
    have et : (tg F : Int) = (sy_i F 33).toInt := by unfold tg; omega
    have eK : kg F0 (tg F) = km ((sy_ai F 39).getD (sy_i F 33).toInt.toNat 0).toInt := by rw [show sy_ai F 39 = sy_ai F0 39 from nz_fa (g0.2 39 (by decide) (by decide))]; rfl
    have m2 : kg F0 (tg F) = 2 ↔ ((sy_ai F 39).getD (sy_i F 33).toInt.toNat 0).toInt = 24 := by rw [eK]; exact km_2
    have m6 : kg F0 (tg F) = 6 ↔ ((sy_ai F 39).getD (sy_i F 33).toInt.toNat 0).toInt = 40 := by rw [eK]; exact km_6
    have m7 : kg F0 (tg F) = 7 ↔ ((sy_ai F 39).getD (sy_i F 33).toInt.toNat 0).toInt = 41 := by rw [eK]; exact km_7
    have m8 : kg F0 (tg F) = 8 ↔ ((sy_ai F 39).getD (sy_i F 33).toInt.toNat 0).toInt = 43 := by rw [eK]; exact km_8
    have m9 : kg F0 (tg F) = 9 ↔ ((sy_ai F 39).getD (sy_i F 33).toInt.toNat 0).toInt = 45 := by rw [eK]; exact km_9
    have m10 : kg F0 (tg F) = 10 ↔ ((sy_ai F 39).getD (sy_i F 33).toInt.toNat 0).toInt = 42 := by rw [eK]; exact km_10
    have m15 : kg F0 (tg F) = 15 ↔ ((sy_ai F 39).getD (sy_i F 33).toInt.toNat 0).toInt = 47 := by rw [eK]; exact km_15
    have mv : (34 ≤ kg F0 (tg F) ∧ kg F0 (tg F) ≤ 42) ↔ (14 ≤ ((sy_ai F 39).getD (sy_i F 33).toInt.toNat 0).toInt ∧ ((sy_ai F 39).getD (sy_i F 33).toInt.toNat 0).toInt ≤ 22) := by rw [eK]; exact km_v
    have h400 : (sy_i F 86).toInt ≤ 400 := by rcases h with ⟨-, h, -⟩ | ⟨-, h, -⟩ <;> omega
    have hle : tg F0 ≤ tg F := by rcases h with ⟨-, h, -⟩ | ⟨-, h, -⟩ <;> omega
    have h84 : (sy_i F 84).toInt = 0 ∨ (sy_i F 84).toInt = 1 := by
      rcases h with ⟨h, -⟩ | ⟨h, -⟩
      · rw [h]; exact Or.inl (by decide)
      · rw [h]; exact Or.inr (by decide)
    have good : (sy_i F 84).toInt ≠ 0 → (sy_i F 86).toInt + 1 + tg F0 ≤ tg F ∧ eX (kg F0) (tg F0) d 0 = eX (kg F0) (tg F) d 1 ∧ ¬ E1 (kg F0 (tg F)) := fun q => by
      rcases h with ⟨h, -⟩ | ⟨-, h⟩
      · rw [h] at q
        exact absurd (by decide) q
      · exact h
    have z0 : (0 : Int32).toInt = 0 := by decide
    refine k3ps_23 (by omega) F X1 X2 hB (by omega) (by omega) (by omega) ?_ ?_ ?_ ?_ ?_ ?_ ?_ ?_ ?_ ?_ ?_ ?_ ?_
    · intros; exfalso; omega
    · intro q1 q2 F1 hb1 g e33 e34 e23 a39
      refine ⟨_, F1, rfl, rfl, g0.trans (gc_mk (W := k3_W) hb1 g (by decide)) (fun _ q => q), by rw [tg_eq e33]; exact hle, ?_⟩
      rcases h with ⟨h1, h2, h3⟩ | ⟨h1, -⟩
      · exact Or.inl ⟨h1, by rw [e34, tg_eq e33]; exact h3⟩
      · rw [h1] at q2
        exact absurd q2 (by decide)
    all_goals clear h
    all_goals intros
    all_goals first
      | (exfalso; omega)
      | (rename_i F1 hb1 g e33 e34 e23 a39
         obtain ⟨y1, y2, y3⟩ := good (by omega)
         refine ⟨_, F1, rfl, rfl, g0.trans (gc_mk (W := k3_W) hb1 g (by decide)) (fun _ q => q), by rw [tg_eq e33]; exact hle, Or.inr ⟨Int32.toInt_inj.mp (by rw [show (1 : Int32).toInt = 1 by decide]; omega), by rw [tg_eq e33]; exact y2, by rw [tg_eq e33]; omega, ?_⟩⟩
         rw [tg_eq e33]
         intro z
         have z : kg F0 (tg F) = 8 ∨ kg F0 (tg F) = 9 ∨ kg F0 (tg F) = 10 ∨ kg F0 (tg F) = 15 := z
         have y3 : ¬ (kg F0 (tg F) = 10 ∨ kg F0 (tg F) = 15) := y3
         omega)
      | (rename_i F1 hb1 g e33 e34 e23 a39 e82 e83 e84 e85 e86
         obtain ⟨y1, y2, y3⟩ := good (by omega)
         refine k3ps_loop m hm hc F0 d hJ0 ha hb hd n F1 ⟨g0.trans (gc_mk (W := k3_W) hb1 g (by decide)) (fun _ q => q), by omega, by omega, by rw [e85, a39, e33], by omega, Or.inl ⟨Int32.toInt_inj.mp (by rw [z0]; exact e84), by rw [tg_eq e33]; omega, ?_⟩⟩ (by omega)
         rw [e34, tg_eq e33]
         exact y2.trans (eX_b4 (by omega) (by omega)))
      | (rename_i F1 hb1 g e33 e34 e23 a39 e82 e83 e84 e85
         obtain ⟨y1, y2, y3⟩ := good (by omega)
         have ts := tg_s c33.1 e33
         have g1 : gc k3_W F0 F1 := g0.trans (gc_mk (W := k3_W) hb1 g (by decide)) (fun _ q => q)
         have hJ1 : jx_ok F1 := jx_ok_eq (g1.2 39 (by decide) (by decide)) (g1.2 41 (by decide) (by decide)) hJ0
         refine hd_calI (R := fun x F' => pR k3_W E1 (sy_i F1 83).toInt.toNat x F1 F') (nh := 82) (nv := 86) (s := 3) (s1 := 3) (d1 := 5 + 3 * m) (M1 := jm_M39) (As := [.inl (.ref 30), .inr (.inl 82), .inr (.inl 83)]) (rest := []) jm_ok38 rfl rfl (by omega) (by decide +kernel) (hc F1 (sy_i F1 82) (sy_i F1 83) hb1 hJ1 (by omega) (by omega) (by omega)) (fun F3 F' x hR p1 p2 p3 => ?_)
         obtain ⟨r1, rl, r2⟩ := pR_dst hR p1
         have x86 : sy_i F3 86 = x := zz_i p3
         have k82 := nz_fi (p2 82 (by decide) (by decide))
         have k83 := nz_fi (p2 83 (by decide) (by decide))
         have k84 := nz_fi (p2 84 (by decide) (by decide))
         have k85 := nz_fi (p2 85 (by decide) (by decide))
         rw [kg_eq (g1.2 39 (by decide) (by decide)), show (sy_i F1 83).toInt.toNat = d by omega] at r2
         have e0 : eX (kg F0) (tg F0) d 0 = eX (kg F0) (tg F1) d 0 := by
           rw [ts]
           exact y2.trans (eX_b (by omega) (by omega))
         have g3 : gc k3_W F0 F3 := g1.trans r1 (fun _ q => q)
         refine k3ps_64 (by omega) F3 X1 X2 r1.1 (by omega) ?_ ?_ ?_ ?_ ?_ ?_ ?_ ?_
         all_goals
           intros
           rename_i q86 _ _ _ _ F4 hb4 g4 d33 d34 d23 b39 d82 d83 d84 d85 d86
           refine k3ps_loop m hm hc F0 d hJ0 ha hb hd n F4 ⟨g3.trans (gc_mk (W := k3_W) hb4 g4 (by decide)) (fun _ q => q), by omega, by omega, by rw [d85, b39, d33], by omega, ?_⟩ (by omega)
           rw [d34, tg_eq d33]
           rcases r2 with ⟨q1, q2⟩ | ⟨q1, q2, q3, q4⟩
           · first
               | exact Or.inl ⟨Int32.toInt_inj.mp (by rw [z0]; exact d84), by omega, e0.trans q2⟩
               | exact absurd (by rw [x86, q1]; decide) q86
           · first
               | exact Or.inr ⟨Int32.toInt_inj.mp (by rw [show (1 : Int32).toInt = 1 by decide]; exact d84), by omega, e0.trans q2, q4⟩
               | (rw [x86, q1] at q86; exact absurd q86 (by decide)))
theorem k3s_of (m : Nat) (hm : m ≤ 6) (hc : k3pT Ls xs X1 X2 m) : k3sT Ls xs X1 X2 m := by
  intro F a b hB hJ a0 a5 hb
  refine nx_T (s := 3) (by decide) F X1 X2 (as := [a, b]) (A := [.inl (.ref 30), .inr (.inl 82), .inr (.inl 83)]) jm_ok38 (by decide) rfl ?_
  obtain ⟨F0, hF0⟩ : ∃ F0, F0 = nx 82 F [a, b] := ⟨_, rfl⟩
  rw [← hF0]
  have k0 : ∀ q, q < 82 → F0 q = F q := by rw [hF0]; exact nx_lt
  have i82 : sy_i F0 82 = a := by rw [hF0]; rfl
  have i83 : sy_i F0 83 = b := by rw [hF0]; rfl
  have hB0 := hd_iveq0 hB k0
  have hJ0 : jx_ok F0 := jx_ok_eq (k0 39 (by decide)) (k0 41 (by decide)) hJ
  refine hd_W_mono (Q := fun v G => ∃ (x : Int32) (F' : Nat → sy_d), v = some (.int x) ∧ G = sy_dh F' X1 X2 (iv_H 3) ∧ pR k3_W E2 b.toInt.toNat x F0 F') ?_ (by
    rintro v G ⟨x, F', rfl, rfl, hR⟩
    exact ⟨x, F', rfl, rfl, pR_src hR k0⟩)
  clear hF0
  have j82 : (sy_i F0 82).toInt = a.toInt := by rw [i82]
  have j83 : (sy_i F0 83).toInt = b.toInt := by rw [i83]
  refine k3ps_0 (by omega) F0 X1 X2 hB0 ?_
  intro F1 hb1 g e33 e34 e23 a39 e82 e83
  have g0 : ∀ q, q < 82 → F1 q = F0 q := fun q hq => g q hq (by simp)
  have hJ1 : jx_ok F1 := jx_ok_eq (g0 39 (by decide)) (g0 41 (by decide)) hJ0
  refine hd_calI (R := fun x F' => pR k3_W E1 (sy_i F1 83).toInt.toNat x F1 F') (nh := 82) (nv := 84) (s := 3) (s1 := 3) (d1 := 5 + 3 * m) (M1 := jm_M39) (As := [.inl (.ref 30), .inr (.inl 82), .inr (.inl 83)]) (rest := []) jm_ok38 rfl rfl (by omega) (by decide +kernel) (hc F1 (sy_i F1 82) (sy_i F1 83) hb1 hJ1 (by omega) (by omega) (by omega)) (fun F3 F' x hR p1 p2 p3 => ?_)
  obtain ⟨r1, rl, r2⟩ := pR_src (pR_dst hR p1) g0
  have x84 : sy_i F3 84 = x := zz_i p3
  have k82 := nz_fi (p2 82 (by decide) (by decide))
  have k83 := nz_fi (p2 83 (by decide) (by decide))
  rw [show (sy_i F1 83).toInt.toNat = b.toInt.toNat by omega] at r2
  refine k3ps_6 (by omega) F3 X1 X2 r1.1 ?_
  intros
  rename_i F4 hb4 g4 d33 d34 d23 b39 d82 d83 d84 d85 d86
  refine k3ps_loop X1 X2 m hm hc F0 b.toInt.toNat hJ0 (by omega) (by omega) (by omega) 402 F4 ⟨r1.trans (gc_mk (W := k3_W) hb4 g4 (by decide)) (fun _ q => q), by omega, by omega, by rw [d85, b39, d33], by omega, ?_⟩ (by omega)
  rw [d34, tg_eq d33, d86, show sy_i F4 84 = x from (Int32.toInt_inj.mp d84).trans x84]
  rcases r2 with ⟨q1, q2⟩ | ⟨q1, q2, q3, q4⟩
  · exact Or.inl ⟨q1, by omega, q2⟩
  · exact Or.inr ⟨q1, by omega, q2, q4⟩
theorem k3_all : ∀ m : Nat, m ≤ 6 → k3sT Ls xs X1 X2 m
  | 0, h => k3s_of X1 X2 0 h (k3p_of X1 X2 0 h (k3u_of X1 X2 0 h (fun m' q => absurd q (by omega))))
  | m + 1, h => k3s_of X1 X2 (m + 1) h (k3p_of X1 X2 (m + 1) h (k3u_of X1 X2 (m + 1) h (fun m' q => by
      have : m = m' := by omega
      rw [← this]
      exact k3_all m (by omega))))
theorem k3_sum (F : Nat → sy_d) (a : Int32) (hB : iv_in F iv_B0) (hJ : jx_ok F) (a0 : 0 ≤ a.toInt) (a5 : a.toInt ≤ 5) : jm_T Ls xs 24 jm_M38 [.ref 30, .int a, .int 0] (sy_dh F X1 X2 (iv_H 3)) 0 0 (fun v G => ∃ (x : Int32) (F' : Nat → sy_d), v = some (.int x) ∧ G = sy_dh F' X1 X2 (iv_H 3) ∧ pR k3_W E2 0 x F F') := k3_all X1 X2 6 (by decide) F a 0 hB hJ a0 a5 (by decide)
end P3
