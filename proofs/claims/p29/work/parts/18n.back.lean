/-! ===== back: what it answers ===== -/
/-- the bytes behind, the answer -/
def bk_t (t a : Int32) : Int32 := if a.toInt < 0 ∨ t.toInt < a.toInt then t else t - a
def bk_v (t a : Int32) : Int32 := if a.toInt < 0 ∨ t.toInt < a.toInt then -1 else t - a
theorem bk_sub {t a : Int32} (h0 : 0 ≤ t.toInt) (h1 : t.toInt ≤ 2000) (h2 : 0 ≤ a.toInt) (h3 : a.toInt ≤ t.toInt) : 0 ≤ (t - a).toInt ∧ (t - a).toInt ≤ 2000 := by
  rw [Jvm.Kit.i32_sub (by omega) (by omega)]
  omega
theorem bk0_T {Ls : Nat} {xs : Nat → Int32} (F : Nat → sy_d) (X1 X2 : List jm_c) (hB : iv_in F iv_B0) (hJ : jx_ok F) (a : Int32) : jm_T Ls xs 1 jm_M82 [.ref 8, .int a] (sy_dh F X1 X2 (iv_H 0)) 0 0 (fun v G => ∃ F' : Nat → sy_d, v = some (.int (bk_v (sy_i F 0) a)) ∧ G = sy_dh F' X1 X2 (iv_H 0) ∧ iv_in F' iv_B0 ∧ jx_ok F' ∧ sy_i F' 0 = bk_t (sy_i F 0) a) := by
  obtain ⟨F0, hF0⟩ : ∃ F0 : Nat → sy_d, F0 = fun j => if j = 82 then .inl (.int a) else F j := ⟨_, rfl⟩
  have k0 : ∀ j, j < 82 → F0 j = F j := fun j hj => by
    rw [hF0]
    dsimp only
    rw [if_neg (by omega)]
  have k1 : F0 82 = .inl (.int a) := by rw [hF0]; rfl
  have hB0 : iv_in F0 iv_B0 := iv_in_eq hB (fun j hj => k0 j hj)
  have eA : [Value.ref 8, .int a] = ([.inl (.ref 8), .inr (.inl 82)] : List sy_v).map (sy_dv F0) := by
    show _ = [Value.ref 8, .int (sy_i F0 82)]
    rw [zz_i k1]
  have eH : sy_dh F X1 X2 (iv_H 0) = sy_dh F0 X1 X2 (iv_H 0) := by
    have g1 : sy_gw 82 (iv_H 0).1 = true := by decide +kernel
    have g2 : sy_gw 82 (iv_H 0).2 = true := by decide +kernel
    simp only [sy_dh, sy_gw_ok g1 k0, sy_gw_ok g2 k0]
  have iN : sy_i F0 82 = a := zz_i k1
  have iK : sy_i F0 0 = sy_i F 0 := by unfold sy_i; rw [k0 0 (by decide)]
  obtain ⟨tp, htp, t1, t2⟩ := iv_h0 (hB 0 (0, 0, 2000) rfl)
  have et := zz_i htp
  rw [eA, eH]
  refine hd_T (As := [.inl (.ref 8), .inr (.inl 82)]) jm_ok82 (by decide) ?_
  by_cases h0 : a.toInt < 0
  · refine bk0_0_0 (by decide) F0 X1 X2 hB0 (by rw [iN]; exact h0) (fun F1 g => ⟨F1, ?_, rfl, hd_in1 hB0 (fun j t hj => Or.inl (g j (List.getElem?_eq_some_iff.mp hj).1 trivial)), jx_ok_eq ((g 39 (by decide) trivial).trans (k0 39 (by decide))) ((g 41 (by decide) trivial).trans (k0 41 (by decide))) hJ, ?_⟩)
    · unfold bk_v; rw [if_pos (Or.inl h0)]
    · unfold bk_t; rw [if_pos (Or.inl h0), ← iK]; unfold sy_i; rw [g 0 (by decide) trivial]
  · by_cases h1 : (sy_i F 0).toInt < a.toInt
    · refine bk0_0_2 (by decide) F0 X1 X2 hB0 (by rw [iN]; exact Int.not_lt.mp h0) (by rw [iN, iK]; exact h1) (fun F1 g => ⟨F1, ?_, rfl, hd_in1 hB0 (fun j t hj => Or.inl (g j (List.getElem?_eq_some_iff.mp hj).1 trivial)), jx_ok_eq ((g 39 (by decide) trivial).trans (k0 39 (by decide))) ((g 41 (by decide) trivial).trans (k0 41 (by decide))) hJ, ?_⟩)
      · unfold bk_v; rw [if_pos (Or.inr h1)]
      · unfold bk_t; rw [if_pos (Or.inr h1), ← iK]; unfold sy_i; rw [g 0 (by decide) trivial]
    · have hn : ¬ (a.toInt < 0 ∨ (sy_i F 0).toInt < a.toInt) := fun q => q.elim h0 h1
      refine bk0_0_1 (by decide) F0 X1 X2 hB0 (by rw [iN]; exact Int.not_lt.mp h0) (by rw [iN, iK]; exact Int.not_lt.mp h1) (fun F1 g g1 => ⟨F1, ?_, rfl, hd_in1 hB0 (fun j t hj => ?_), jx_ok_eq ((g 39 (by decide) (by decide)).trans (k0 39 (by decide))) ((g 41 (by decide) (by decide)).trans (k0 41 (by decide))) hJ, ?_⟩)
      · unfold bk_v; rw [if_neg hn, iN, iK]
      · by_cases h : j = 0
        · subst h
          right
          have ht : t = (0, 0, 2000) := (Option.some.inj hj).symm
          rw [g1, ht, iN, iK]
          have := bk_sub (t := sy_i F 0) (a := a) (by rw [et]; exact t1) (by rw [et]; exact t2) (Int.not_lt.mp h0) (Int.not_lt.mp h1)
          exact ⟨rfl, this.1, this.2⟩
        · exact Or.inl (g j (List.getElem?_eq_some_iff.mp hj).1 h)
      · unfold bk_t; rw [if_neg hn, zz_i g1, iN, iK]
theorem bk1_T {Ls : Nat} {xs : Nat → Int32} (F : Nat → sy_d) (X1 X2 : List jm_c) (hB : iv_in F iv_B0) (hJ : jx_ok F) (a : Int32) : jm_T Ls xs 1 jm_M82 [.ref 8, .int a] (sy_dh F X1 X2 (iv_H 1)) 0 0 (fun v G => ∃ F' : Nat → sy_d, v = some (.int (bk_v (sy_i F 0) a)) ∧ G = sy_dh F' X1 X2 (iv_H 1) ∧ iv_in F' iv_B0 ∧ jx_ok F' ∧ sy_i F' 0 = bk_t (sy_i F 0) a) := by
  obtain ⟨F0, hF0⟩ : ∃ F0 : Nat → sy_d, F0 = fun j => if j = 82 then .inl (.int a) else F j := ⟨_, rfl⟩
  have k0 : ∀ j, j < 82 → F0 j = F j := fun j hj => by
    rw [hF0]
    dsimp only
    rw [if_neg (by omega)]
  have k1 : F0 82 = .inl (.int a) := by rw [hF0]; rfl
  have hB0 : iv_in F0 iv_B0 := iv_in_eq hB (fun j hj => k0 j hj)
  have eA : [Value.ref 8, .int a] = ([.inl (.ref 8), .inr (.inl 82)] : List sy_v).map (sy_dv F0) := by
    show _ = [Value.ref 8, .int (sy_i F0 82)]
    rw [zz_i k1]
  have eH : sy_dh F X1 X2 (iv_H 1) = sy_dh F0 X1 X2 (iv_H 1) := by
    have g1 : sy_gw 82 (iv_H 1).1 = true := by decide +kernel
    have g2 : sy_gw 82 (iv_H 1).2 = true := by decide +kernel
    simp only [sy_dh, sy_gw_ok g1 k0, sy_gw_ok g2 k0]
  have iN : sy_i F0 82 = a := zz_i k1
  have iK : sy_i F0 0 = sy_i F 0 := by unfold sy_i; rw [k0 0 (by decide)]
  obtain ⟨tp, htp, t1, t2⟩ := iv_h0 (hB 0 (0, 0, 2000) rfl)
  have et := zz_i htp
  rw [eA, eH]
  refine hd_T (As := [.inl (.ref 8), .inr (.inl 82)]) jm_ok82 (by decide) ?_
  by_cases h0 : a.toInt < 0
  · refine bk1_0_0 (by decide) F0 X1 X2 hB0 (by rw [iN]; exact h0) (fun F1 g => ⟨F1, ?_, rfl, hd_in1 hB0 (fun j t hj => Or.inl (g j (List.getElem?_eq_some_iff.mp hj).1 trivial)), jx_ok_eq ((g 39 (by decide) trivial).trans (k0 39 (by decide))) ((g 41 (by decide) trivial).trans (k0 41 (by decide))) hJ, ?_⟩)
    · unfold bk_v; rw [if_pos (Or.inl h0)]
    · unfold bk_t; rw [if_pos (Or.inl h0), ← iK]; unfold sy_i; rw [g 0 (by decide) trivial]
  · by_cases h1 : (sy_i F 0).toInt < a.toInt
    · refine bk1_0_2 (by decide) F0 X1 X2 hB0 (by rw [iN]; exact Int.not_lt.mp h0) (by rw [iN, iK]; exact h1) (fun F1 g => ⟨F1, ?_, rfl, hd_in1 hB0 (fun j t hj => Or.inl (g j (List.getElem?_eq_some_iff.mp hj).1 trivial)), jx_ok_eq ((g 39 (by decide) trivial).trans (k0 39 (by decide))) ((g 41 (by decide) trivial).trans (k0 41 (by decide))) hJ, ?_⟩)
      · unfold bk_v; rw [if_pos (Or.inr h1)]
      · unfold bk_t; rw [if_pos (Or.inr h1), ← iK]; unfold sy_i; rw [g 0 (by decide) trivial]
    · have hn : ¬ (a.toInt < 0 ∨ (sy_i F 0).toInt < a.toInt) := fun q => q.elim h0 h1
      refine bk1_0_1 (by decide) F0 X1 X2 hB0 (by rw [iN]; exact Int.not_lt.mp h0) (by rw [iN, iK]; exact Int.not_lt.mp h1) (fun F1 g g1 => ⟨F1, ?_, rfl, hd_in1 hB0 (fun j t hj => ?_), jx_ok_eq ((g 39 (by decide) (by decide)).trans (k0 39 (by decide))) ((g 41 (by decide) (by decide)).trans (k0 41 (by decide))) hJ, ?_⟩)
      · unfold bk_v; rw [if_neg hn, iN, iK]
      · by_cases h : j = 0
        · subst h
          right
          have ht : t = (0, 0, 2000) := (Option.some.inj hj).symm
          rw [g1, ht, iN, iK]
          have := bk_sub (t := sy_i F 0) (a := a) (by rw [et]; exact t1) (by rw [et]; exact t2) (Int.not_lt.mp h0) (Int.not_lt.mp h1)
          exact ⟨rfl, this.1, this.2⟩
        · exact Or.inl (g j (List.getElem?_eq_some_iff.mp hj).1 h)
      · unfold bk_t; rw [if_neg hn, zz_i g1, iN, iK]
theorem bk2_T {Ls : Nat} {xs : Nat → Int32} (F : Nat → sy_d) (X1 X2 : List jm_c) (hB : iv_in F iv_B0) (hJ : jx_ok F) (a : Int32) : jm_T Ls xs 1 jm_M82 [.ref 8, .int a] (sy_dh F X1 X2 (iv_H 2)) 0 0 (fun v G => ∃ F' : Nat → sy_d, v = some (.int (bk_v (sy_i F 0) a)) ∧ G = sy_dh F' X1 X2 (iv_H 2) ∧ iv_in F' iv_B0 ∧ jx_ok F' ∧ sy_i F' 0 = bk_t (sy_i F 0) a) := by
  obtain ⟨F0, hF0⟩ : ∃ F0 : Nat → sy_d, F0 = fun j => if j = 82 then .inl (.int a) else F j := ⟨_, rfl⟩
  have k0 : ∀ j, j < 82 → F0 j = F j := fun j hj => by
    rw [hF0]
    dsimp only
    rw [if_neg (by omega)]
  have k1 : F0 82 = .inl (.int a) := by rw [hF0]; rfl
  have hB0 : iv_in F0 iv_B0 := iv_in_eq hB (fun j hj => k0 j hj)
  have eA : [Value.ref 8, .int a] = ([.inl (.ref 8), .inr (.inl 82)] : List sy_v).map (sy_dv F0) := by
    show _ = [Value.ref 8, .int (sy_i F0 82)]
    rw [zz_i k1]
  have eH : sy_dh F X1 X2 (iv_H 2) = sy_dh F0 X1 X2 (iv_H 2) := by
    have g1 : sy_gw 82 (iv_H 2).1 = true := by decide +kernel
    have g2 : sy_gw 82 (iv_H 2).2 = true := by decide +kernel
    simp only [sy_dh, sy_gw_ok g1 k0, sy_gw_ok g2 k0]
  have iN : sy_i F0 82 = a := zz_i k1
  have iK : sy_i F0 0 = sy_i F 0 := by unfold sy_i; rw [k0 0 (by decide)]
  obtain ⟨tp, htp, t1, t2⟩ := iv_h0 (hB 0 (0, 0, 2000) rfl)
  have et := zz_i htp
  rw [eA, eH]
  refine hd_T (As := [.inl (.ref 8), .inr (.inl 82)]) jm_ok82 (by decide) ?_
  by_cases h0 : a.toInt < 0
  · refine bk2_0_0 (by decide) F0 X1 X2 hB0 (by rw [iN]; exact h0) (fun F1 g => ⟨F1, ?_, rfl, hd_in1 hB0 (fun j t hj => Or.inl (g j (List.getElem?_eq_some_iff.mp hj).1 trivial)), jx_ok_eq ((g 39 (by decide) trivial).trans (k0 39 (by decide))) ((g 41 (by decide) trivial).trans (k0 41 (by decide))) hJ, ?_⟩)
    · unfold bk_v; rw [if_pos (Or.inl h0)]
    · unfold bk_t; rw [if_pos (Or.inl h0), ← iK]; unfold sy_i; rw [g 0 (by decide) trivial]
  · by_cases h1 : (sy_i F 0).toInt < a.toInt
    · refine bk2_0_2 (by decide) F0 X1 X2 hB0 (by rw [iN]; exact Int.not_lt.mp h0) (by rw [iN, iK]; exact h1) (fun F1 g => ⟨F1, ?_, rfl, hd_in1 hB0 (fun j t hj => Or.inl (g j (List.getElem?_eq_some_iff.mp hj).1 trivial)), jx_ok_eq ((g 39 (by decide) trivial).trans (k0 39 (by decide))) ((g 41 (by decide) trivial).trans (k0 41 (by decide))) hJ, ?_⟩)
      · unfold bk_v; rw [if_pos (Or.inr h1)]
      · unfold bk_t; rw [if_pos (Or.inr h1), ← iK]; unfold sy_i; rw [g 0 (by decide) trivial]
    · have hn : ¬ (a.toInt < 0 ∨ (sy_i F 0).toInt < a.toInt) := fun q => q.elim h0 h1
      refine bk2_0_1 (by decide) F0 X1 X2 hB0 (by rw [iN]; exact Int.not_lt.mp h0) (by rw [iN, iK]; exact Int.not_lt.mp h1) (fun F1 g g1 => ⟨F1, ?_, rfl, hd_in1 hB0 (fun j t hj => ?_), jx_ok_eq ((g 39 (by decide) (by decide)).trans (k0 39 (by decide))) ((g 41 (by decide) (by decide)).trans (k0 41 (by decide))) hJ, ?_⟩)
      · unfold bk_v; rw [if_neg hn, iN, iK]
      · by_cases h : j = 0
        · subst h
          right
          have ht : t = (0, 0, 2000) := (Option.some.inj hj).symm
          rw [g1, ht, iN, iK]
          have := bk_sub (t := sy_i F 0) (a := a) (by rw [et]; exact t1) (by rw [et]; exact t2) (Int.not_lt.mp h0) (Int.not_lt.mp h1)
          exact ⟨rfl, this.1, this.2⟩
        · exact Or.inl (g j (List.getElem?_eq_some_iff.mp hj).1 h)
      · unfold bk_t; rw [if_neg hn, zz_i g1, iN, iK]
theorem bk3_T {Ls : Nat} {xs : Nat → Int32} (F : Nat → sy_d) (X1 X2 : List jm_c) (hB : iv_in F iv_B0) (hJ : jx_ok F) (a : Int32) : jm_T Ls xs 1 jm_M82 [.ref 8, .int a] (sy_dh F X1 X2 (iv_H 3)) 0 0 (fun v G => ∃ F' : Nat → sy_d, v = some (.int (bk_v (sy_i F 0) a)) ∧ G = sy_dh F' X1 X2 (iv_H 3) ∧ iv_in F' iv_B0 ∧ jx_ok F' ∧ sy_i F' 0 = bk_t (sy_i F 0) a) := by
  obtain ⟨F0, hF0⟩ : ∃ F0 : Nat → sy_d, F0 = fun j => if j = 82 then .inl (.int a) else F j := ⟨_, rfl⟩
  have k0 : ∀ j, j < 82 → F0 j = F j := fun j hj => by
    rw [hF0]
    dsimp only
    rw [if_neg (by omega)]
  have k1 : F0 82 = .inl (.int a) := by rw [hF0]; rfl
  have hB0 : iv_in F0 iv_B0 := iv_in_eq hB (fun j hj => k0 j hj)
  have eA : [Value.ref 8, .int a] = ([.inl (.ref 8), .inr (.inl 82)] : List sy_v).map (sy_dv F0) := by
    show _ = [Value.ref 8, .int (sy_i F0 82)]
    rw [zz_i k1]
  have eH : sy_dh F X1 X2 (iv_H 3) = sy_dh F0 X1 X2 (iv_H 3) := by
    have g1 : sy_gw 82 (iv_H 3).1 = true := by decide +kernel
    have g2 : sy_gw 82 (iv_H 3).2 = true := by decide +kernel
    simp only [sy_dh, sy_gw_ok g1 k0, sy_gw_ok g2 k0]
  have iN : sy_i F0 82 = a := zz_i k1
  have iK : sy_i F0 0 = sy_i F 0 := by unfold sy_i; rw [k0 0 (by decide)]
  obtain ⟨tp, htp, t1, t2⟩ := iv_h0 (hB 0 (0, 0, 2000) rfl)
  have et := zz_i htp
  rw [eA, eH]
  refine hd_T (As := [.inl (.ref 8), .inr (.inl 82)]) jm_ok82 (by decide) ?_
  by_cases h0 : a.toInt < 0
  · refine bk3_0_0 (by decide) F0 X1 X2 hB0 (by rw [iN]; exact h0) (fun F1 g => ⟨F1, ?_, rfl, hd_in1 hB0 (fun j t hj => Or.inl (g j (List.getElem?_eq_some_iff.mp hj).1 trivial)), jx_ok_eq ((g 39 (by decide) trivial).trans (k0 39 (by decide))) ((g 41 (by decide) trivial).trans (k0 41 (by decide))) hJ, ?_⟩)
    · unfold bk_v; rw [if_pos (Or.inl h0)]
    · unfold bk_t; rw [if_pos (Or.inl h0), ← iK]; unfold sy_i; rw [g 0 (by decide) trivial]
  · by_cases h1 : (sy_i F 0).toInt < a.toInt
    · refine bk3_0_2 (by decide) F0 X1 X2 hB0 (by rw [iN]; exact Int.not_lt.mp h0) (by rw [iN, iK]; exact h1) (fun F1 g => ⟨F1, ?_, rfl, hd_in1 hB0 (fun j t hj => Or.inl (g j (List.getElem?_eq_some_iff.mp hj).1 trivial)), jx_ok_eq ((g 39 (by decide) trivial).trans (k0 39 (by decide))) ((g 41 (by decide) trivial).trans (k0 41 (by decide))) hJ, ?_⟩)
      · unfold bk_v; rw [if_pos (Or.inr h1)]
      · unfold bk_t; rw [if_pos (Or.inr h1), ← iK]; unfold sy_i; rw [g 0 (by decide) trivial]
    · have hn : ¬ (a.toInt < 0 ∨ (sy_i F 0).toInt < a.toInt) := fun q => q.elim h0 h1
      refine bk3_0_1 (by decide) F0 X1 X2 hB0 (by rw [iN]; exact Int.not_lt.mp h0) (by rw [iN, iK]; exact Int.not_lt.mp h1) (fun F1 g g1 => ⟨F1, ?_, rfl, hd_in1 hB0 (fun j t hj => ?_), jx_ok_eq ((g 39 (by decide) (by decide)).trans (k0 39 (by decide))) ((g 41 (by decide) (by decide)).trans (k0 41 (by decide))) hJ, ?_⟩)
      · unfold bk_v; rw [if_neg hn, iN, iK]
      · by_cases h : j = 0
        · subst h
          right
          have ht : t = (0, 0, 2000) := (Option.some.inj hj).symm
          rw [g1, ht, iN, iK]
          have := bk_sub (t := sy_i F 0) (a := a) (by rw [et]; exact t1) (by rw [et]; exact t2) (Int.not_lt.mp h0) (Int.not_lt.mp h1)
          exact ⟨rfl, this.1, this.2⟩
        · exact Or.inl (g j (List.getElem?_eq_some_iff.mp hj).1 h)
      · unfold bk_t; rw [if_neg hn, zz_i g1, iN, iK]
theorem bk4_T {Ls : Nat} {xs : Nat → Int32} (F : Nat → sy_d) (X1 X2 : List jm_c) (hB : iv_in F iv_B4) (hJ : jm_rpn F) (a : Int32) : jm_T Ls xs 1 jm_M135 [.ref 1000, .int a] (sy_dh F X1 X2 (iv_H 4)) 0 0 (fun v G => ∃ F' : Nat → sy_d, v = some (.int (bk_v (sy_i F 1) a)) ∧ G = sy_dh F' X1 X2 (iv_H 4) ∧ iv_in F' iv_B4 ∧ jm_rpn F' ∧ sy_i F' 1 = bk_t (sy_i F 1) a) := by
  obtain ⟨F0, hF0⟩ : ∃ F0 : Nat → sy_d, F0 = fun j => if j = 69 then .inl (.int a) else F j := ⟨_, rfl⟩
  have k0 : ∀ j, j < 69 → F0 j = F j := fun j hj => by
    rw [hF0]
    dsimp only
    rw [if_neg (by omega)]
  have k1 : F0 69 = .inl (.int a) := by rw [hF0]; rfl
  have hB0 : iv_in F0 iv_B4 := iv_in_eq hB (fun j hj => k0 j hj)
  have eA : [Value.ref 1000, .int a] = ([.inl (.ref 1000), .inr (.inl 69)] : List sy_v).map (sy_dv F0) := by
    show _ = [Value.ref 1000, .int (sy_i F0 69)]
    rw [zz_i k1]
  have eH : sy_dh F X1 X2 (iv_H 4) = sy_dh F0 X1 X2 (iv_H 4) := by
    have g1 : sy_gw 69 (iv_H 4).1 = true := by decide +kernel
    have g2 : sy_gw 69 (iv_H 4).2 = true := by decide +kernel
    simp only [sy_dh, sy_gw_ok g1 k0, sy_gw_ok g2 k0]
  have iN : sy_i F0 69 = a := zz_i k1
  have iK : sy_i F0 1 = sy_i F 1 := by unfold sy_i; rw [k0 1 (by decide)]
  obtain ⟨tp, htp, t1, t2⟩ := iv_h0 (hB 1 (0, 0, 2000) rfl)
  have et := zz_i htp
  rw [eA, eH]
  refine hd_T (As := [.inl (.ref 1000), .inr (.inl 69)]) jm_ok135 (by decide) ?_
  by_cases h0 : a.toInt < 0
  · refine bk4_0_0 (by decide) F0 X1 X2 hB0 (by rw [iN]; exact h0) (fun F1 g => ⟨F1, ?_, rfl, hd_in1 hB0 (fun j t hj => Or.inl (g j (List.getElem?_eq_some_iff.mp hj).1 trivial)), jm_rpn_eq (fun q hq => by rw [g q (by revert q; decide) trivial, k0 q (by revert q; decide)]) hJ, ?_⟩)
    · unfold bk_v; rw [if_pos (Or.inl h0)]
    · unfold bk_t; rw [if_pos (Or.inl h0), ← iK]; unfold sy_i; rw [g 1 (by decide) trivial]
  · by_cases h1 : (sy_i F 1).toInt < a.toInt
    · refine bk4_0_2 (by decide) F0 X1 X2 hB0 (by rw [iN]; exact Int.not_lt.mp h0) (by rw [iN, iK]; exact h1) (fun F1 g => ⟨F1, ?_, rfl, hd_in1 hB0 (fun j t hj => Or.inl (g j (List.getElem?_eq_some_iff.mp hj).1 trivial)), jm_rpn_eq (fun q hq => by rw [g q (by revert q; decide) trivial, k0 q (by revert q; decide)]) hJ, ?_⟩)
      · unfold bk_v; rw [if_pos (Or.inr h1)]
      · unfold bk_t; rw [if_pos (Or.inr h1), ← iK]; unfold sy_i; rw [g 1 (by decide) trivial]
    · have hn : ¬ (a.toInt < 0 ∨ (sy_i F 1).toInt < a.toInt) := fun q => q.elim h0 h1
      refine bk4_0_1 (by decide) F0 X1 X2 hB0 (by rw [iN]; exact Int.not_lt.mp h0) (by rw [iN, iK]; exact Int.not_lt.mp h1) (fun F1 g g1 => ⟨F1, ?_, rfl, hd_in1 hB0 (fun j t hj => ?_), jm_rpn_eq (fun q hq => by rw [g q (by revert q; decide) (by revert q; decide), k0 q (by revert q; decide)]) hJ, ?_⟩)
      · unfold bk_v; rw [if_neg hn, iN, iK]
      · by_cases h : j = 1
        · subst h
          right
          have ht : t = (0, 0, 2000) := (Option.some.inj hj).symm
          rw [g1, ht, iN, iK]
          have := bk_sub (t := sy_i F 1) (a := a) (by rw [et]; exact t1) (by rw [et]; exact t2) (Int.not_lt.mp h0) (Int.not_lt.mp h1)
          exact ⟨rfl, this.1, this.2⟩
        · exact Or.inl (g j (List.getElem?_eq_some_iff.mp hj).1 h)
      · unfold bk_t; rw [if_neg hn, zz_i g1, iN, iK]
