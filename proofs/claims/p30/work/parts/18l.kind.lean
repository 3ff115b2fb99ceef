/-! ===== the class: the kind of a word ===== -/
def jt (_ : Nat) (_ : Nat → sy_d) : Prop := True
noncomputable def jt_pl : iv_pl := (fun _ _ _ _ _ => none, fun _ _ _ _ _ _ => true)
theorem jt_plok : iv_plok jt jt_pl := by
  refine ⟨?_, ?_, ?_⟩
  · intros; trivial
  · intro s nv A T F E _ _ _ _ _ e t h
    cases h
  · intros; trivial
noncomputable def kt_0_62_31 : iv_ct := (62, [.inl (.ref 31), .inr (.inr 82)], 0, [0], iv_B0 ++ [iz1], [], iv_B0, some (0, 0, 23), 1)
theorem okt_0_62_31 : ct_ok jt kt_0_62_31 := iv_sound jt_plok (cs := []) (List.forall_mem_nil _) (M := jm_M62) (cuts := [(0, 2, [some (.inl (.ref 31)), some (.inr (.inr 82)), none, some (.inr (.inl 83))], [], iv_B0 ++ [iz1, (0, 0, 23)], (23, [((-1), 83)]), none, [.inl ((4, .inl (.int 23), .inr (.inl 83)), 0), .inr (.inl [true]), .inl ((1, .inr (.inl 85), .inl (.int 0)), 0), .inr (.inl [false, true]), .inr (.inl [false, false])])]) (its := [.inr (.inl [])]) rfl (by decide +kernel)
noncomputable def kt_1_62_31 : iv_ct := (62, [.inl (.ref 31), .inr (.inr 82)], 1, [1], iv_B0 ++ [iz1], [], iv_B0, some (0, 0, 23), 1)
theorem okt_1_62_31 : ct_ok jt kt_1_62_31 := iv_sound jt_plok (cs := []) (List.forall_mem_nil _) (M := jm_M62) (cuts := [(1, 2, [some (.inl (.ref 31)), some (.inr (.inr 82)), none, some (.inr (.inl 83))], [], iv_B0 ++ [iz1, (0, 0, 23)], (23, [((-1), 83)]), none, [.inl ((4, .inl (.int 23), .inr (.inl 83)), 0), .inr (.inl [true]), .inl ((1, .inr (.inl 85), .inl (.int 0)), 0), .inr (.inl [false, true]), .inr (.inl [false, false])])]) (its := [.inr (.inl [])]) rfl (by decide +kernel)
noncomputable def kt_2_62_31 : iv_ct := (62, [.inl (.ref 31), .inr (.inr 82)], 2, [2], iv_B0 ++ [iz1], [], iv_B0, some (0, 0, 23), 1)
theorem okt_2_62_31 : ct_ok jt kt_2_62_31 := iv_sound jt_plok (cs := []) (List.forall_mem_nil _) (M := jm_M62) (cuts := [(2, 2, [some (.inl (.ref 31)), some (.inr (.inr 82)), none, some (.inr (.inl 83))], [], iv_B0 ++ [iz1, (0, 0, 23)], (23, [((-1), 83)]), none, [.inl ((4, .inl (.int 23), .inr (.inl 83)), 0), .inr (.inl [true]), .inl ((1, .inr (.inl 85), .inl (.int 0)), 0), .inr (.inl [false, true]), .inr (.inl [false, false])])]) (its := [.inr (.inl [])]) rfl (by decide +kernel)
noncomputable def kt_3_62_31 : iv_ct := (62, [.inl (.ref 31), .inr (.inr 82)], 3, [3], iv_B0 ++ [iz1], [], iv_B0, some (0, 0, 23), 1)
theorem okt_3_62_31 : ct_ok jt kt_3_62_31 := iv_sound jt_plok (cs := []) (List.forall_mem_nil _) (M := jm_M62) (cuts := [(3, 2, [some (.inl (.ref 31)), some (.inr (.inr 82)), none, some (.inr (.inl 83))], [], iv_B0 ++ [iz1, (0, 0, 23)], (23, [((-1), 83)]), none, [.inl ((4, .inl (.int 23), .inr (.inl 83)), 0), .inr (.inl [true]), .inl ((1, .inr (.inl 85), .inl (.int 0)), 0), .inr (.inl [false, true]), .inr (.inl [false, false])])]) (its := [.inr (.inl [])]) rfl (by decide +kernel)
theorem wk_T0 {Ls : Nat} {xs : Nat → Int32} (F : Nat → sy_d) (X1 X2 : List jm_c) (hB : iv_in F iv_B0) {x : sy_v} {N : Int64} (hx : sy_dv F x = .long N) : jm_T Ls xs 1 jm_M62 ([.inl (.ref 31), x].map (sy_dv F)) (sy_dh F X1 X2 (iv_H 0)) 0 0 (fun v G => ∃ (y : Int32) (F' : Nat → sy_d), v = some (.int y) ∧ G = sy_dh F' X1 X2 (iv_H 0) ∧ (∀ j, j < 82 → F' j = F j) ∧ 0 ≤ y.toInt ∧ y.toInt ≤ 23) := by
  obtain ⟨F0, hF0⟩ : ∃ F0 : Nat → sy_d, F0 = fun j => if j = 82 then .inl (.long N) else F j := ⟨_, rfl⟩
  have k0 : ∀ j, j < 82 → F0 j = F j := fun j hj => by
    rw [hF0]
    dsimp only
    rw [if_neg (by omega)]
  have k1 : F0 82 = .inl (.long N) := by rw [hF0]; rfl
  have hE0 : iv_in F0 (iv_B0 ++ [iz1]) := by
    intro k t hk
    by_cases h : k < 82
    · rw [List.getElem?_append_left (show k < iv_B0.length from h)] at hk
      rw [k0 k h]
      exact hB k t hk
    · rw [List.getElem?_append_right (show iv_B0.length ≤ k from Nat.not_lt.mp h)] at hk
      have h0 : k - iv_B0.length = 0 := by
        by_cases hz : k - iv_B0.length = 0
        · exact hz
        · rw [List.getElem?_eq_none (by simp; omega)] at hk
          cases hk
      have hl : iv_B0.length = 82 := by decide +kernel
      rw [h0] at hk
      have ht : iz1 = t := by simpa using hk
      have hk2 : k = 82 := by omega
      rw [hk2, k1, ← ht]
      exact ⟨rfl, iv_fullL N⟩
  have eA : ([.inl (.ref 31), x] : List sy_v).map (sy_dv F) = ([.inl (.ref 31), .inr (.inr 82)] : List sy_v).map (sy_dv F0) := by
    show [Value.ref 31, sy_dv F x] = [Value.ref 31, .long (sy_l F0 82)]
    rw [hx, zz_l k1]
  have eH : sy_dh F X1 X2 (iv_H 0) = sy_dh F0 X1 X2 (iv_H 0) := by
    have g1 : sy_gw 82 (iv_H 0).1 = true := by decide +kernel
    have g2 : sy_gw 82 (iv_H 0).2 = true := by decide +kernel
    simp only [sy_dh, sy_gw_ok g1 k0, sy_gw_ok g2 k0]
  rw [eA, eH]
  refine jm_T_mono (okt_0_62_31 jm_M62 rfl Ls xs F0 X1 X2 hE0 trivial) ?_
  rintro v G ⟨t, F', ht, rfl, hf, -, hr, -⟩
  have ht : t = 0 := by simpa using (show t ∈ [0] from ht)
  subst ht
  unfold iv_ro at hr
  split at hr
  · rename_i q
    cases q
  · rename_i v0 t0 q
    cases q
    obtain ⟨y, hy, y1, y2⟩ := iv_h0 (d := .inl v0) hr
    cases hy
    exact ⟨y, F', rfl, rfl, fun j hj => by rw [hf j hj rfl, k0 j hj], y1, y2⟩
  · exact hr.elim
theorem wk_T1 {Ls : Nat} {xs : Nat → Int32} (F : Nat → sy_d) (X1 X2 : List jm_c) (hB : iv_in F iv_B0) {x : sy_v} {N : Int64} (hx : sy_dv F x = .long N) : jm_T Ls xs 1 jm_M62 ([.inl (.ref 31), x].map (sy_dv F)) (sy_dh F X1 X2 (iv_H 1)) 0 0 (fun v G => ∃ (y : Int32) (F' : Nat → sy_d), v = some (.int y) ∧ G = sy_dh F' X1 X2 (iv_H 1) ∧ (∀ j, j < 82 → F' j = F j) ∧ 0 ≤ y.toInt ∧ y.toInt ≤ 23) := by
  obtain ⟨F0, hF0⟩ : ∃ F0 : Nat → sy_d, F0 = fun j => if j = 82 then .inl (.long N) else F j := ⟨_, rfl⟩
  have k0 : ∀ j, j < 82 → F0 j = F j := fun j hj => by
    rw [hF0]
    dsimp only
    rw [if_neg (by omega)]
  have k1 : F0 82 = .inl (.long N) := by rw [hF0]; rfl
  have hE0 : iv_in F0 (iv_B0 ++ [iz1]) := by
    intro k t hk
    by_cases h : k < 82
    · rw [List.getElem?_append_left (show k < iv_B0.length from h)] at hk
      rw [k0 k h]
      exact hB k t hk
    · rw [List.getElem?_append_right (show iv_B0.length ≤ k from Nat.not_lt.mp h)] at hk
      have h0 : k - iv_B0.length = 0 := by
        by_cases hz : k - iv_B0.length = 0
        · exact hz
        · rw [List.getElem?_eq_none (by simp; omega)] at hk
          cases hk
      have hl : iv_B0.length = 82 := by decide +kernel
      rw [h0] at hk
      have ht : iz1 = t := by simpa using hk
      have hk2 : k = 82 := by omega
      rw [hk2, k1, ← ht]
      exact ⟨rfl, iv_fullL N⟩
  have eA : ([.inl (.ref 31), x] : List sy_v).map (sy_dv F) = ([.inl (.ref 31), .inr (.inr 82)] : List sy_v).map (sy_dv F0) := by
    show [Value.ref 31, sy_dv F x] = [Value.ref 31, .long (sy_l F0 82)]
    rw [hx, zz_l k1]
  have eH : sy_dh F X1 X2 (iv_H 1) = sy_dh F0 X1 X2 (iv_H 1) := by
    have g1 : sy_gw 82 (iv_H 1).1 = true := by decide +kernel
    have g2 : sy_gw 82 (iv_H 1).2 = true := by decide +kernel
    simp only [sy_dh, sy_gw_ok g1 k0, sy_gw_ok g2 k0]
  rw [eA, eH]
  refine jm_T_mono (okt_1_62_31 jm_M62 rfl Ls xs F0 X1 X2 hE0 trivial) ?_
  rintro v G ⟨t, F', ht, rfl, hf, -, hr, -⟩
  have ht : t = 1 := by simpa using (show t ∈ [1] from ht)
  subst ht
  unfold iv_ro at hr
  split at hr
  · rename_i q
    cases q
  · rename_i v0 t0 q
    cases q
    obtain ⟨y, hy, y1, y2⟩ := iv_h0 (d := .inl v0) hr
    cases hy
    exact ⟨y, F', rfl, rfl, fun j hj => by rw [hf j hj rfl, k0 j hj], y1, y2⟩
  · exact hr.elim
theorem wk_T2 {Ls : Nat} {xs : Nat → Int32} (F : Nat → sy_d) (X1 X2 : List jm_c) (hB : iv_in F iv_B0) {x : sy_v} {N : Int64} (hx : sy_dv F x = .long N) : jm_T Ls xs 1 jm_M62 ([.inl (.ref 31), x].map (sy_dv F)) (sy_dh F X1 X2 (iv_H 2)) 0 0 (fun v G => ∃ (y : Int32) (F' : Nat → sy_d), v = some (.int y) ∧ G = sy_dh F' X1 X2 (iv_H 2) ∧ (∀ j, j < 82 → F' j = F j) ∧ 0 ≤ y.toInt ∧ y.toInt ≤ 23) := by
  obtain ⟨F0, hF0⟩ : ∃ F0 : Nat → sy_d, F0 = fun j => if j = 82 then .inl (.long N) else F j := ⟨_, rfl⟩
  have k0 : ∀ j, j < 82 → F0 j = F j := fun j hj => by
    rw [hF0]
    dsimp only
    rw [if_neg (by omega)]
  have k1 : F0 82 = .inl (.long N) := by rw [hF0]; rfl
  have hE0 : iv_in F0 (iv_B0 ++ [iz1]) := by
    intro k t hk
    by_cases h : k < 82
    · rw [List.getElem?_append_left (show k < iv_B0.length from h)] at hk
      rw [k0 k h]
      exact hB k t hk
    · rw [List.getElem?_append_right (show iv_B0.length ≤ k from Nat.not_lt.mp h)] at hk
      have h0 : k - iv_B0.length = 0 := by
        by_cases hz : k - iv_B0.length = 0
        · exact hz
        · rw [List.getElem?_eq_none (by simp; omega)] at hk
          cases hk
      have hl : iv_B0.length = 82 := by decide +kernel
      rw [h0] at hk
      have ht : iz1 = t := by simpa using hk
      have hk2 : k = 82 := by omega
      rw [hk2, k1, ← ht]
      exact ⟨rfl, iv_fullL N⟩
  have eA : ([.inl (.ref 31), x] : List sy_v).map (sy_dv F) = ([.inl (.ref 31), .inr (.inr 82)] : List sy_v).map (sy_dv F0) := by
    show [Value.ref 31, sy_dv F x] = [Value.ref 31, .long (sy_l F0 82)]
    rw [hx, zz_l k1]
  have eH : sy_dh F X1 X2 (iv_H 2) = sy_dh F0 X1 X2 (iv_H 2) := by
    have g1 : sy_gw 82 (iv_H 2).1 = true := by decide +kernel
    have g2 : sy_gw 82 (iv_H 2).2 = true := by decide +kernel
    simp only [sy_dh, sy_gw_ok g1 k0, sy_gw_ok g2 k0]
  rw [eA, eH]
  refine jm_T_mono (okt_2_62_31 jm_M62 rfl Ls xs F0 X1 X2 hE0 trivial) ?_
  rintro v G ⟨t, F', ht, rfl, hf, -, hr, -⟩
  have ht : t = 2 := by simpa using (show t ∈ [2] from ht)
  subst ht
  unfold iv_ro at hr
  split at hr
  · rename_i q
    cases q
  · rename_i v0 t0 q
    cases q
    obtain ⟨y, hy, y1, y2⟩ := iv_h0 (d := .inl v0) hr
    cases hy
    exact ⟨y, F', rfl, rfl, fun j hj => by rw [hf j hj rfl, k0 j hj], y1, y2⟩
  · exact hr.elim
theorem wk_T3 {Ls : Nat} {xs : Nat → Int32} (F : Nat → sy_d) (X1 X2 : List jm_c) (hB : iv_in F iv_B0) {x : sy_v} {N : Int64} (hx : sy_dv F x = .long N) : jm_T Ls xs 1 jm_M62 ([.inl (.ref 31), x].map (sy_dv F)) (sy_dh F X1 X2 (iv_H 3)) 0 0 (fun v G => ∃ (y : Int32) (F' : Nat → sy_d), v = some (.int y) ∧ G = sy_dh F' X1 X2 (iv_H 3) ∧ (∀ j, j < 82 → F' j = F j) ∧ 0 ≤ y.toInt ∧ y.toInt ≤ 23) := by
  obtain ⟨F0, hF0⟩ : ∃ F0 : Nat → sy_d, F0 = fun j => if j = 82 then .inl (.long N) else F j := ⟨_, rfl⟩
  have k0 : ∀ j, j < 82 → F0 j = F j := fun j hj => by
    rw [hF0]
    dsimp only
    rw [if_neg (by omega)]
  have k1 : F0 82 = .inl (.long N) := by rw [hF0]; rfl
  have hE0 : iv_in F0 (iv_B0 ++ [iz1]) := by
    intro k t hk
    by_cases h : k < 82
    · rw [List.getElem?_append_left (show k < iv_B0.length from h)] at hk
      rw [k0 k h]
      exact hB k t hk
    · rw [List.getElem?_append_right (show iv_B0.length ≤ k from Nat.not_lt.mp h)] at hk
      have h0 : k - iv_B0.length = 0 := by
        by_cases hz : k - iv_B0.length = 0
        · exact hz
        · rw [List.getElem?_eq_none (by simp; omega)] at hk
          cases hk
      have hl : iv_B0.length = 82 := by decide +kernel
      rw [h0] at hk
      have ht : iz1 = t := by simpa using hk
      have hk2 : k = 82 := by omega
      rw [hk2, k1, ← ht]
      exact ⟨rfl, iv_fullL N⟩
  have eA : ([.inl (.ref 31), x] : List sy_v).map (sy_dv F) = ([.inl (.ref 31), .inr (.inr 82)] : List sy_v).map (sy_dv F0) := by
    show [Value.ref 31, sy_dv F x] = [Value.ref 31, .long (sy_l F0 82)]
    rw [hx, zz_l k1]
  have eH : sy_dh F X1 X2 (iv_H 3) = sy_dh F0 X1 X2 (iv_H 3) := by
    have g1 : sy_gw 82 (iv_H 3).1 = true := by decide +kernel
    have g2 : sy_gw 82 (iv_H 3).2 = true := by decide +kernel
    simp only [sy_dh, sy_gw_ok g1 k0, sy_gw_ok g2 k0]
  rw [eA, eH]
  refine jm_T_mono (okt_3_62_31 jm_M62 rfl Ls xs F0 X1 X2 hE0 trivial) ?_
  rintro v G ⟨t, F', ht, rfl, hf, -, hr, -⟩
  have ht : t = 3 := by simpa using (show t ∈ [3] from ht)
  subst ht
  unfold iv_ro at hr
  split at hr
  · rename_i q
    cases q
  · rename_i v0 t0 q
    cases q
    obtain ⟨y, hy, y1, y2⟩ := iv_h0 (d := .inl v0) hr
    cases hy
    exact ⟨y, F', rfl, rfl, fun j hj => by rw [hf j hj rfl, k0 j hj], y1, y2⟩
  · exact hr.elim
