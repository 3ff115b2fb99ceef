/-! ===== the reference: asking a law ===== -/
theorem ak_mul {L : Int32} (h0 : 0 ≤ L.toInt) (h1 : L.toInt ≤ 1) : ((6 : Int32) * L).toInt = 6 * L.toInt := by
  have e : (6 : Int32).toInt = 6 := by decide
  rw [Jvm.Kit.i32_mul (by rw [e]; omega) (by rw [e]; omega), e]
theorem ak_add {A K : Int32} (h0 : 0 ≤ A.toInt) (h1 : A.toInt ≤ 6) (h2 : 0 ≤ K.toInt) (h3 : K.toInt ≤ 5) : (A + K).toInt = A.toInt + K.toInt := Jvm.Kit.i32_add (by omega) (by omega)
theorem ak_at0 {A K L : Int32} (e : A.toInt = 6 * L.toInt) (h0 : 0 ≤ L.toInt) (h1 : L.toInt ≤ 1) (h2 : 0 ≤ K.toInt) (h3 : K.toInt ≤ 5) : (0 ≤ (A + K).toInt ∧ (A + K).toInt < 12) ∧ (A + K).toNatClampNeg = 6 * L.toNatClampNeg + K.toNatClampNeg ∧ K.toNatClampNeg < 6 := by
  have e2 := ak_add (A := A) (K := K) (by omega) (by omega) h2 h3
  have a : (A + K).toNatClampNeg = (A + K).toInt.toNat := rfl
  have b : L.toNatClampNeg = L.toInt.toNat := rfl
  have c : K.toNatClampNeg = K.toInt.toNat := rfl
  rw [a, b, c, e2]
  omega
theorem ak_at {K L : Int32} (h0 : 0 ≤ L.toInt) (h1 : L.toInt ≤ 1) (h2 : 0 ≤ K.toInt) (h3 : K.toInt ≤ 5) : (0 ≤ ((6 : Int32) * L + K).toInt ∧ ((6 : Int32) * L + K).toInt < 12) ∧ ((6 : Int32) * L + K).toNatClampNeg = 6 * L.toNatClampNeg + K.toNatClampNeg ∧ K.toNatClampNeg < 6 := ak_at0 (ak_mul h0 h1) h0 h1 h2 h3
section AK
variable {Ls : Nat} {xs : Nat → Int32} (F : Nat → sy_d) (X1 X2 : List jm_c)
theorem lt_T (hB : iv_in F iv_B4) (hJ : jm_rpn F) {x : sy_v} {X : Int32} (hx : sy_dv F x = .int X) {kk : Nat} (hkk : kk < 6) (hat : X.toNatClampNeg = 6 * (sy_i F 11).toNatClampNeg + kk) (h12 : 0 ≤ X.toInt ∧ X.toInt < 12) :
    jm_T Ls xs 2 jm_M180 ([.inl (.ref 1000), x].map (sy_dv F)) (sy_dh F X1 X2 (iv_H 4)) 0 0 (te_Q F X1 X2) := by
  obtain ⟨F0, hF0⟩ : ∃ F0 : Nat → sy_d, F0 = fun j => if j = 69 then .inl (.int X) else F j := ⟨_, rfl⟩
  have k0 : ∀ j, j < 69 → F0 j = F j := fun j hj => by
    rw [hF0]
    dsimp only
    rw [if_neg (by omega)]
  have k1 : F0 69 = .inl (.int X) := by rw [hF0]; rfl
  have hB0 : iv_in F0 iv_B4 := hd_iveq hB k0
  have hJ0 : jm_rpn F0 := jm_rpn_eq (fun q hq => k0 q (by revert q; decide)) hJ
  have e11 : sy_i F0 11 = sy_i F 11 := by unfold sy_i; rw [k0 11 (by decide)]
  have i69 : sy_i F0 69 = X := zz_i k1
  have eA : ([.inl (.ref 1000), x] : List sy_v).map (sy_dv F) = ([.inl (.ref 1000), .inr (.inl 69)] : List sy_v).map (sy_dv F0) := by
    show [Value.ref 1000, sy_dv F x] = [Value.ref 1000, .int (sy_i F0 69)]
    rw [hx, i69]
  have eH : sy_dh F X1 X2 (iv_H 4) = sy_dh F0 X1 X2 (iv_H 4) := by
    have g1 : sy_gw 69 (iv_H 4).1 = true := by decide +kernel
    have g2 : sy_gw 69 (iv_H 4).2 = true := by decide +kernel
    simp only [sy_dh, sy_gw_ok g1 k0, sy_gw_ok g2 k0]
  rw [eA, eH]
  refine jm_T_mono (P1 := te_Q F0 X1 X2) (hd_T (As := [.inl (.ref 1000), .inr (.inl 69)]) jm_ok180 (by decide) (lt_0_0 (by decide) F0 X1 X2 hB0 (by rw [i69]; exact h12) (fun F1 g1 g2 g3 g4 => ?_))) ?_
  · have hB1 : iv_in F1 iv_B4 := hd_in1 hB0 (fun j t hj => by
      by_cases h : j = 17
      · subst h
        right
        have ht : t = (0, 0, 1) := (Option.some.inj hj).symm
        rw [g2, ht]
        exact ⟨rfl, by decide, by decide⟩
      · exact Or.inl (g1 j (List.getElem?_eq_some_iff.mp hj).1 h))
    have m69 := zz_i g3
    have m70 := zz_i g4
    refine lt_loop F0 X1 X2 hB0 hJ0 hkk (by rw [i69, e11]; exact hat) (by rw [i69]; exact h12) _ F1 hB1 (fun j hj a _ => g1 j hj a) m69 ?_ rfl
    rw [m70]
    exact Int.le_refl _
  · rintro v G ⟨y, F', rfl, rfl, hB', hf⟩
    exact ⟨y, F', rfl, rfl, hB', fun j hj a b => by rw [hf j hj a b, k0 j hj]⟩
theorem ak_T (hB : iv_in F iv_B4) (hJ : jm_rpn F) (h1 : 0 ≤ (sy_i F 69).toInt) (h2 : (sy_i F 69).toInt ≤ 5) (h3 : (sy_i F 71).toInt ≤ (sy_i F 72).toInt) :
    jm_T Ls xs 4 jm_M179 (([.inl (.ref 1000), .inr (.inl 69), .inr (.inl 70), .inr (.inl 71), .inr (.inl 72)] : List sy_v).map (sy_dv F)) (sy_dh F X1 X2 (iv_H 4)) 0 0 (fun v G => ∃ (x : Int32) (F' : Nat → sy_d), v = some (.int x) ∧ G = sy_dh F' X1 X2 (iv_H 4) ∧ (iv_in F' iv_B4 ∧ ∀ j, j < 69 → j ≠ 17 → j ≠ 53 → F' j = F j) ∧ (sy_i F 71).toInt ≤ x.toInt ∧ x.toInt ≤ (sy_i F 72).toInt) := by
  obtain ⟨L, hL, l1, l2⟩ := iv_h0 (hB 11 (0, 0, 1) rfl)
  have eL := zz_i hL
  obtain ⟨a1, a2, a3⟩ := ak_at (K := sy_i F 69) (L := sy_i F 11) (by rw [eL]; exact l1) (by rw [eL]; exact l2) h1 h2
  refine hd_T (As := [.inl (.ref 1000), .inr (.inl 69), .inr (.inl 70), .inr (.inl 71), .inr (.inl 72)]) jm_ok179 (by decide) ?_
  by_cases hlt : ((sy_ai F 42).getD ((6 : Int32) * (sy_i F 11) + (sy_i F 69)).toNatClampNeg 0).toInt < ((sy_ai F 43).getD ((6 : Int32) * (sy_i F 11) + (sy_i F 69)).toNatClampNeg 0).toInt
  · refine ak_0_3 (by decide) F X1 X2 hB a1 a1 hlt (fun F1 g1 g2 g3 g4 => ?_)
    have hB1 : iv_in F1 iv_B4 := hd_iveq hB (fun j hj => g1 j hj trivial)
    have hJ1 : jm_rpn F1 := jm_rpn_eq (fun q hq => g1 q (by revert q; decide) trivial) hJ
    have e11 : sy_i F1 11 = sy_i F 11 := by unfold sy_i; rw [g1 11 (by decide) trivial]
    refine hd_calI (R := fun _ F' => iv_in F' iv_B4 ∧ ∀ j, j < 69 → j ≠ 17 → j ≠ 53 → F' j = F1 j) (nh := 69) (nv := 72) (s := 4) (s1 := 4) (d1 := 2) (M1 := jm_M180) (As := [.inl (.ref 1000), .inr (.inl 71)]) (rest := []) jm_ok179 rfl rfl (by decide) (by decide +kernel) (lt_T F1 X1 X2 hB1 hJ1 (hd_dvi g4) a3 (by rw [e11]; exact a2) a1) (fun F2 F' x hR p1 p2 p3 => ?_)
    obtain ⟨hB', hf'⟩ := hR
    have hB2 : iv_in F2 iv_B4 := hd_iveq hB' p1
    have i69 : sy_i F2 69 = sy_i F 71 := zz_i ((p2 69 (by decide) (by decide)).trans g2)
    have i70 : sy_i F2 70 = sy_i F 72 := zz_i ((p2 70 (by decide) (by decide)).trans g3)
    have fr : ∀ F3 : Nat → sy_d, (∀ j, j < 69 → True → F3 j = F2 j) → iv_in F3 iv_B4 ∧ ∀ j, j < 69 → j ≠ 17 → j ≠ 53 → F3 j = F j := fun F3 w => ⟨hd_iveq hB2 (fun j hj => w j hj trivial), fun j hj a b => by rw [w j hj trivial, p1 j hj, hf' j hj a b, g1 j hj trivial]⟩
    by_cases c1 : (sy_i F2 72).toInt < (sy_i F2 69).toInt
    · refine ak_37_2 (by decide) F2 X1 X2 hB2 c1 (fun F3 w => ⟨_, F3, rfl, rfl, fr F3 w, ?_, ?_⟩)
      · rw [i69]; exact Int.le_refl _
      · rw [i69]; exact h3
    · by_cases c2 : (sy_i F2 70).toInt < (sy_i F2 72).toInt
      · refine ak_37_1 (by decide) F2 X1 X2 hB2 (Int.not_lt.mp c1) c2 (fun F3 w => ⟨_, F3, rfl, rfl, fr F3 w, ?_, ?_⟩)
        · rw [i70]; exact h3
        · rw [i70]; exact Int.le_refl _
      · refine ak_37_0 (by decide) F2 X1 X2 hB2 (Int.not_lt.mp c1) (Int.not_lt.mp c2) (fun F3 w => ⟨_, F3, rfl, rfl, fr F3 w, ?_, ?_⟩)
        · rw [← i69]; exact Int.not_lt.mp c1
        · rw [← i70]; exact Int.not_lt.mp c2
  · have hle := Int.not_lt.mp hlt
    have fr : ∀ F3 : Nat → sy_d, (∀ j, j < 69 → True → F3 j = F j) → iv_in F3 iv_B4 ∧ ∀ j, j < 69 → j ≠ 17 → j ≠ 53 → F3 j = F j := fun F3 w => ⟨hd_iveq hB (fun j hj => w j hj trivial), fun j hj a b => w j hj trivial⟩
    by_cases c1 : (sy_i F 70).toInt < (sy_i F 71).toInt
    · exact ak_0_2 (by decide) F X1 X2 hB a1 a1 hle c1 (fun F3 w => ⟨_, F3, rfl, rfl, fr F3 w, Int.le_refl _, h3⟩)
    · by_cases c2 : (sy_i F 72).toInt < (sy_i F 70).toInt
      · exact ak_0_1 (by decide) F X1 X2 hB a1 a1 hle (Int.not_lt.mp c1) c2 (fun F3 w => ⟨_, F3, rfl, rfl, fr F3 w, h3, Int.le_refl _⟩)
      · exact ak_0_0 (by decide) F X1 X2 hB a1 a1 hle (Int.not_lt.mp c1) (Int.not_lt.mp c2) (fun F3 w => ⟨_, F3, rfl, rfl, fr F3 w, Int.not_lt.mp c1, Int.not_lt.mp c2⟩)
end AK
theorem ak_ct (kl kh pl ph lo hi : Int) (h0 : 0 ≤ kl) (h1 : kh ≤ 5) (h2 : lo ≤ hi) : ct_ok jj (179, [.inl (.ref 1000), .inr (.inl 69), .inr (.inl 70), .inr (.inl 71), .inr (.inl 72)], 4, [4], iv_B4 ++ [(0, kl, kh), (0, pl, ph), (0, lo, lo), (0, hi, hi)], [17, 53], iv_B4, some (0, lo, hi), 4) := by
  intro M hM Ls xs F X1 X2 hE hJ
  have hM : jm_TB[179]? = some M := hM
  have e : jm_TB[179]? = some jm_M179 := rfl
  rw [e] at hM
  cases hM
  have hE : iv_in F (iv_B4 ++ [(0, kl, kh), (0, pl, ph), (0, lo, lo), (0, hi, hi)]) := hE
  have hB : iv_in F iv_B4 := fun k t hk => hE k t (by rw [List.getElem?_append_left (List.getElem?_eq_some_iff.mp hk).1]; exact hk)
  have hJ : jm_rpn F := hJ
  obtain ⟨x, hx, x1, x2⟩ := iv_h0 (hE 69 (0, kl, kh) rfl)
  obtain ⟨y, hy, y1, y2⟩ := iv_h0 (hE 71 (0, lo, lo) rfl)
  obtain ⟨z, hz, z1, z2⟩ := iv_h0 (hE 72 (0, hi, hi) rfl)
  have ex := zz_i hx
  have ey := zz_i hy
  have ez := zz_i hz
  refine jm_T_mono (ak_T F X1 X2 hB hJ (by rw [ex]; omega) (by rw [ex]; omega) (by rw [ey, ez]; omega)) ?_
  rintro v G ⟨w, F', rfl, rfl, ⟨hB', hf⟩, w1, w2⟩
  rw [ey] at w1
  rw [ez] at w2
  refine ⟨4, F', List.mem_cons_self, rfl, fun j hj hw => ?_, hB', ⟨rfl, ?_, ?_⟩, ?_⟩
  · have hw : ([17, 53] : List Nat).contains j = false := hw
    have hn : j ≠ 17 ∧ j ≠ 53 := by
      constructor
      · intro q; subst q; exact absurd hw (by decide)
      · intro q; subst q; exact absurd hw (by decide)
    exact hf j hj hn.1 hn.2
  · show lo ≤ _
    omega
  · show _ ≤ hi
    omega
  · exact jm_rpn_eq (fun q hq => hf q (by revert q; decide) (by revert q; decide) (by revert q; decide)) hJ
theorem ok_4_179_v0_9 : ct_ok jj k_4_179_v0_9 := ak_ct 0 0 0 0 0 9 (by decide) (by decide) (by decide)
theorem ok_4_179_v0_100 : ct_ok jj k_4_179_v0_100 := ak_ct 2 5 (-2147483648) 2147483647 0 100 (by decide) (by decide) (by decide)
theorem ok_4_179_vm9_9 : ct_ok jj k_4_179_vm9_9 := ak_ct 1 4 0 1 (-9) 9 (by decide) (by decide) (by decide)
theorem ok_4_179_v0_99 : ct_ok jj k_4_179_v0_99 := ak_ct 3 3 (-2147483648) 2147483647 0 99 (by decide) (by decide) (by decide)
