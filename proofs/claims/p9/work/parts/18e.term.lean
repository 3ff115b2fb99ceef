/-! ===== the reference: a term of a law ===== -/
theorem hd_sub1 {X : Int32} (h : 1 ≤ X.toInt) : (X + (-1 : Int32)).toInt = X.toInt - 1 := by
  have e : (-1 : Int32).toInt = -1 := by decide
  have h2 := iv_full X
  rw [Jvm.Kit.i32_add (by rw [e]; omega) (by rw [e]; omega), e]
  omega
theorem hd_dec1 {X : Int32} (h : 1 ≤ X.toInt) : (X - (1 : Int32)).toInt = X.toInt - 1 := by
  have e : (1 : Int32).toInt = 1 := by decide
  have h2 := iv_full X
  rw [Jvm.Kit.i32_sub (by rw [e]; omega) (by rw [e]; omega), e]
theorem hd_inc1 {X : Int32} (h : 0 ≤ X.toInt) (h1 : X.toInt ≤ 1000000) : (X + (1 : Int32)).toInt = X.toInt + 1 := by
  have e : (1 : Int32).toInt = 1 := by decide
  rw [Jvm.Kit.i32_add (by rw [e]; omega) (by rw [e]; omega), e]
theorem hd_ny {X : Int32} {n : Nat} (h : X.toInt = n) : X.toNatClampNeg = n := by
  have : X.toNatClampNeg = X.toInt.toNat := rfl
  rw [this, h]
  omega
def te_Q (F : Nat → sy_d) (X1 X2 : List jm_c) : Option Value → jm_h → Prop := fun v G => ∃ (x : Int32) (F' : Nat → sy_d), v = some (.int x) ∧ G = sy_dh F' X1 X2 (iv_H 4) ∧ (iv_in F' iv_B4 ∧ ∀ j, j < 69 → j ≠ 17 → j ≠ 53 → F' j = F j)
theorem te_pile {F F1 : Nat → sy_d} {l : List Int32} (hB : iv_in F iv_B4) (g1 : ∀ j, j < 69 → j ≠ 53 → F1 j = F j) (g2 : F1 53 = .inr (.inl l)) : iv_in F1 iv_B4 := hd_in1 hB (fun j t hj => by
  by_cases h : j = 53
  · subst h
    right
    have ht : t = iz2 := (Option.some.inj hj).symm
    rw [g2, ht]
    exact ⟨rfl, fun j => iv_full _⟩
  · exact Or.inl (g1 j (List.getElem?_eq_some_iff.mp hj).1 h))
theorem te_brk {F F1 : Nat → sy_d} (hB : iv_in F iv_B4) (g1 : ∀ j, j < 69 → j ≠ 17 → F1 j = F j) (g2 : F1 17 = .inl (.int 1)) : iv_in F1 iv_B4 := hd_in1 hB (fun j t hj => by
  by_cases h : j = 17
  · subst h
    right
    have ht : t = (0, 0, 1) := (Option.some.inj hj).symm
    rw [g2, ht]
    exact ⟨rfl, by decide, by decide⟩
  · exact Or.inl (g1 j (List.getElem?_eq_some_iff.mp hj).1 h))
theorem te_i0 {X Y Z : Int32} {n : Nat} (h1 : Y.toInt = X.toInt - 1) (h2 : Z.toInt = Y.toInt - 1) (h : 2 ≤ X.toInt) (h3 : X.toInt + ((n + 1 : Nat) : Int) ≤ 400) : (0 ≤ Z.toInt ∧ Z.toInt < 400) ∧ (0 ≤ Y.toInt ∧ Y.toInt < 400) ∧ Y.toNatClampNeg = X.toNatClampNeg - 1 ∧ Y.toInt + n ≤ 400 := by
  have a : X.toNatClampNeg = X.toInt.toNat := rfl
  have b : Y.toNatClampNeg = Y.toInt.toNat := rfl
  rw [a, b]
  omega
theorem te_i {X : Int32} {n : Nat} (h : 2 ≤ X.toInt) (h3 : X.toInt + ((n + 1 : Nat) : Int) ≤ 400) : (0 ≤ (X + (-1 : Int32) - (1 : Int32)).toInt ∧ (X + (-1 : Int32) - (1 : Int32)).toInt < 400) ∧ (0 ≤ (X + (-1 : Int32)).toInt ∧ (X + (-1 : Int32)).toInt < 400) ∧ (X + (-1 : Int32)).toNatClampNeg = X.toNatClampNeg - 1 ∧ (X + (-1 : Int32)).toInt + n ≤ 400 := by
  have d1 := hd_sub1 (X := X) (Int.le_trans (by decide) h)
  have d2 := hd_dec1 (X := X + (-1 : Int32)) (by rw [d1]; exact Int.le_sub_right_of_add_le h)
  exact te_i0 d1 d2 h h3
set_option maxHeartbeats 4000000 in
theorem te_loop {Ls : Nat} {xs : Nat → Int32} (F : Nat → sy_d) (X1 X2 : List jm_c) : ∀ (n : Nat) (F1 : Nat → sy_d), iv_in F1 iv_B4 → (∀ j, j < 69 → j ≠ 17 → j ≠ 53 → F1 j = F j) → ((sy_i F1 69).toInt - (sy_i F1 71).toInt).toNat = n → rp_go (sy_ai F 49) (sy_ai F 50) n (sy_i F1 71).toNatClampNeg (sy_i F1 70).toNatClampNeg → 0 ≤ (sy_i F1 70).toInt → (sy_i F1 70).toInt + n ≤ 400 → 0 ≤ (sy_i F1 71).toInt → (sy_i F1 69).toInt ≤ 840 →
    hd_W Ls xs 1 jm_M166 (te_Q F X1 X2) (5, sy_dL F1 [some (.inl (.ref 1000)), none, some (.inr (.inl 69)), some (.inr (.inl 70)), some (.inr (.inl 71)), none, none, none], sy_dS F1 [], sy_dh F1 X1 X2 (iv_H 4), 0, 0) := by
  intro n
  induction n with
  | zero =>
    intro F1 hB hf hn _ _ _ _ _
    exact te_5_0 (Nat.le_refl _) F1 X1 X2 hB (by omega) (fun F2 g1 => ⟨_, F2, rfl, rfl, hd_in1 hB (fun j t hj => Or.inl (g1 j (List.getElem?_eq_some_iff.mp hj).1 trivial)), fun j hj h1 h2 => by rw [g1 j hj trivial, hf j hj h1 h2]⟩)
  | succ n ih =>
    intro F1 hB hf hn hr ht0 ht1 hc0 hto
    have hlt : (sy_i F1 71).toInt < (sy_i F1 69).toInt := by omega
    have e49 : sy_ai F1 49 = sy_ai F 49 := by unfold sy_ai; rw [hf 49 (by decide) (by decide) (by decide)]
    have e50 : sy_ai F1 50 = sy_ai F 50 := by unfold sy_ai; rw [hf 50 (by decide) (by decide) (by decide)]
    obtain ⟨cl, hcl, hcb⟩ := iv_h2 (hB 49 (2, 0, 5) rfl)
    have hk := hcb (sy_i F1 71).toNatClampNeg
    rw [← zz_ai hcl] at hk
    obtain ⟨r1, r2⟩ := hr
    rw [← e49, ← e50] at r1
    rw [← e49] at r2
    have htN := hd_nat ht0
    have hcN := hd_nat hc0
    have inc := hd_inc1 hc0 (by omega)
    -- from a place on
    have go : ∀ F2 : Nat → sy_d, iv_in F2 iv_B4 → (∀ j, j < 69 → j ≠ 53 → F2 j = F1 j) → F2 69 = .inl (.int (sy_i F1 69)) → F2 71 = .inl (.int (sy_i F1 71 + (1 : Int32))) → ∀ tp : Int32, F2 70 = .inl (.int tp) → rp_go (sy_ai F 49) (sy_ai F 50) n ((sy_i F1 71).toNatClampNeg + 1) tp.toNatClampNeg → 0 ≤ tp.toInt → tp.toInt + n ≤ 400 →
        hd_W Ls xs 1 jm_M166 (te_Q F X1 X2) (5, sy_dL F2 [some (.inl (.ref 1000)), none, some (.inr (.inl 69)), some (.inr (.inl 70)), some (.inr (.inl 71)), none, none, none], sy_dS F2 [], sy_dh F2 X1 X2 (iv_H 4), 0, 0) := by
      intro F2 b1 b2 b3 b4 tp b5 b6 b7 b8
      have q3 := zz_i b3
      have q4 := zz_i b4
      have q5 := zz_i b5
      refine ih F2 b1 (fun j hj h1 h2 => by rw [b2 j hj h2, hf j hj h1 h2]) ?_ ?_ ?_ ?_ ?_ ?_
      · rw [q3, q4, inc]; omega
      · rw [q4, q5, hd_ny (n := (sy_i F1 71).toNatClampNeg + 1) (by rw [inc]; omega)]; exact b6
      · rw [q5]; exact b7
      · rw [q5]; exact b8
      · rw [q4, inc]; omega
      · rw [q3]; exact hto
    by_cases hk2 : ((sy_ai F1 49).getD (sy_i F1 71).toNatClampNeg 0).toInt < 2
    · obtain ⟨s1, s2⟩ := r1 hk2
      rw [e49, e50] at s2
      have tinc := hd_inc1 ht0 (by omega)
      have s3 : rp_go (sy_ai F 49) (sy_ai F 50) n ((sy_i F1 71).toNatClampNeg + 1) (sy_i F1 70 + (1 : Int32)).toNatClampNeg := by
        rw [hd_ny (X := sy_i F1 70 + (1 : Int32)) (n := (sy_i F1 70).toNatClampNeg + 1) (by rw [tinc]; omega)]
        exact s2
      by_cases hk0 : ((sy_ai F1 49).getD (sy_i F1 71).toNatClampNeg 0).toInt = 0
      · refine te_5_7 (Nat.le_refl _) F1 X1 X2 hB hlt ⟨hc0, by omega⟩ hk2 hk0 ⟨hc0, by omega⟩ ⟨ht0, by omega⟩ (fun F2 g1 g2 g3 g4 g5 => ?_)
        exact go F2 (te_pile hB g1 g2) g1 g3 g5 _ g4 s3 (by rw [tinc]; omega) (by rw [tinc]; omega)
      · have h8 := s1 (by omega)
        refine te_5_6 (Nat.le_refl _) F1 X1 X2 hB hlt ⟨hc0, by omega⟩ hk2 hk0 ⟨hc0, by omega⟩ ⟨h8.1, by omega⟩ ⟨ht0, by omega⟩ (fun F2 g1 g2 g3 g4 g5 => ?_)
        exact go F2 (te_pile hB g1 g2) g1 g3 g5 _ g4 s3 (by rw [tinc]; omega) (by rw [tinc]; omega)
    · have hk2 : 2 ≤ ((sy_ai F1 49).getD (sy_i F1 71).toNatClampNeg 0).toInt := by omega
      obtain ⟨s1, s2⟩ := r2 hk2
      rw [e49] at s2
      have hcc : 0 ≤ (sy_i F1 71).toInt ∧ (sy_i F1 71).toInt < 840 := ⟨hc0, by omega⟩
      have h4 : ((sy_ai F1 49).getD (sy_i F1 71).toNatClampNeg 0).toInt ≠ 5 → ((sy_ai F1 49).getD (sy_i F1 71).toNatClampNeg 0).toInt ≠ 2 → ((sy_ai F1 49).getD (sy_i F1 71).toNatClampNeg 0).toInt ≠ 3 → ((sy_ai F1 49).getD (sy_i F1 71).toNatClampNeg 0).toInt = 4 := by
        intro a b c
        omega
      obtain ⟨i1, i2, d3, d4⟩ := te_i (X := sy_i F1 70) (n := n) (by omega) (by omega)
      rw [← d3] at s2
      have fin : ∀ F2 : Nat → sy_d, (∀ j, j < 69 → j ≠ 53 → F2 j = F1 j) → ∀ l : List Int32, F2 53 = .inr (.inl l) → F2 69 = .inl (.int (sy_i F1 69)) → F2 70 = .inl (.int (sy_i F1 70 + (-1 : Int32))) → F2 71 = .inl (.int (sy_i F1 71 + (1 : Int32))) → hd_W Ls xs 1 jm_M166 (te_Q F X1 X2) (5, sy_dL F2 [some (.inl (.ref 1000)), none, some (.inr (.inl 69)), some (.inr (.inl 70)), some (.inr (.inl 71)), none, none, none], sy_dS F2 [], sy_dh F2 X1 X2 (iv_H 4), 0, 0) := fun F2 g1 l g2 g3 g4 g5 => go F2 (te_pile hB g1 g2) g1 g3 g5 _ g4 s2 i2.1 d4
      by_cases h5 : ((sy_ai F1 49).getD (sy_i F1 71).toNatClampNeg 0).toInt = 5
      · by_cases h0 : ((sy_ai F1 53).getD (sy_i F1 70 + (-1 : Int32)).toNatClampNeg 0).toInt = 0
        · refine te_5_5 (Nat.le_refl _) F1 X1 X2 hB hlt hcc hk2 i1 i2 h5 h0 (fun F2 g1 g2 => ⟨_, F2, rfl, rfl, te_brk hB g1 g2, fun j hj h1 h2 => by rw [g1 j hj h1, hf j hj h1 h2]⟩)
        · exact te_5_4 (Nat.le_refl _) F1 X1 X2 hB hlt hcc hk2 i1 i2 h5 h0 (by rw [h5]; decide) (by rw [h5]; decide) (by rw [h5]; decide) h0 i1 (fun F2 g1 g2 g3 g4 g5 => fin F2 g1 _ g2 g3 g4 g5)
      · by_cases h2 : ((sy_ai F1 49).getD (sy_i F1 71).toNatClampNeg 0).toInt = 2
        · exact te_5_3 (Nat.le_refl _) F1 X1 X2 hB hlt hcc hk2 i1 i2 h5 h2 i1 (fun F2 g1 g2 g3 g4 g5 => fin F2 g1 _ g2 g3 g4 g5)
        · by_cases h3 : ((sy_ai F1 49).getD (sy_i F1 71).toNatClampNeg 0).toInt = 3
          · exact te_5_2 (Nat.le_refl _) F1 X1 X2 hB hlt hcc hk2 i1 i2 h5 h2 h3 i1 (fun F2 g1 g2 g3 g4 g5 => fin F2 g1 _ g2 g3 g4 g5)
          · exact te_5_1 (Nat.le_refl _) F1 X1 X2 hB hlt hcc hk2 i1 i2 h5 h2 h3 (h4 h5 h2 h3) i1 (fun F2 g1 g2 g3 g4 g5 => fin F2 g1 _ g2 g3 g4 g5)
/-- a term of a law, from code that never takes from an empty pile -/
theorem te_T {Ls : Nat} {xs : Nat → Int32} (F : Nat → sy_d) (X1 X2 : List jm_c) (hB : iv_in F iv_B4) {x y : sy_v} {X Y : Int32} (hx : sy_dv F x = .int X) (hy : sy_dv F y = .int Y) (h0 : 0 ≤ X.toInt) (h1 : Y.toInt ≤ 840) (hs : rp_seg (sy_ai F 49) (sy_ai F 50) X Y) :
    jm_T Ls xs 1 jm_M166 ([.inl (.ref 1000), x, y].map (sy_dv F)) (sy_dh F X1 X2 (iv_H 4)) 0 0 (te_Q F X1 X2) := by
  obtain ⟨F0, hF0⟩ : ∃ F0 : Nat → sy_d, F0 = fun j => if j = 69 then .inl (.int X) else if j = 70 then .inl (.int Y) else F j := ⟨_, rfl⟩
  have k0 : ∀ j, j < 69 → F0 j = F j := fun j hj => by
    rw [hF0]
    dsimp only
    rw [if_neg (by omega), if_neg (by omega)]
  have k1 : F0 69 = .inl (.int X) := by rw [hF0]; rfl
  have k2 : F0 70 = .inl (.int Y) := by rw [hF0]; rfl
  have hB0 : iv_in F0 iv_B4 := iv_in_eq hB (fun j hj => k0 j hj)
  have eA : ([.inl (.ref 1000), x, y] : List sy_v).map (sy_dv F) = ([.inl (.ref 1000), .inr (.inl 69), .inr (.inl 70)] : List sy_v).map (sy_dv F0) := by
    show [Value.ref 1000, sy_dv F x, sy_dv F y] = [Value.ref 1000, .int (sy_i F0 69), .int (sy_i F0 70)]
    rw [hx, hy, zz_i k1, zz_i k2]
  have eH : sy_dh F X1 X2 (iv_H 4) = sy_dh F0 X1 X2 (iv_H 4) := by
    have g1 : sy_gw 69 (iv_H 4).1 = true := by decide +kernel
    have g2 : sy_gw 69 (iv_H 4).2 = true := by decide +kernel
    simp only [sy_dh, sy_gw_ok g1 k0, sy_gw_ok g2 k0]
  rw [eA, eH]
  refine hd_T (As := [.inl (.ref 1000), .inr (.inl 69), .inr (.inl 70)]) jm_ok166 (by decide) (te_0_0 (Nat.le_refl _) F0 X1 X2 hB0 (fun F1 g1 g2 g3 g4 => ?_))
  have q2 := zz_i g2
  have q3 := zz_i g3
  have q4 := zz_i g4
  rw [zz_i k2] at q2
  rw [zz_i k1] at q4
  have z : (0 : Int32).toInt = 0 := by decide
  have zn : (0 : Int32).toNatClampNeg = 0 := by decide
  refine te_loop F X1 X2 ((Y.toInt - X.toInt).toNat) F1 (hd_in1 hB0 (fun j t hj => Or.inl (g1 j (List.getElem?_eq_some_iff.mp hj).1 trivial))) (fun j hj _ _ => by rw [g1 j hj trivial, k0 j hj]) ?_ ?_ ?_ ?_ ?_ ?_
  · rw [q2, q4]
  · rw [q3, q4, zn, show X.toNatClampNeg = X.toInt.toNat from rfl]; exact hs.2
  · rw [q3, z]; exact Int.le_refl _
  · rw [q3, z]; have := hs.1; omega
  · rw [q4]; exact h0
  · rw [q2]; exact h1
