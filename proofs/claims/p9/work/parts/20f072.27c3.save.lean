/-! ===== the class saves its ground and loads it (shape 3) ===== -/
section SV3
variable {Ls : Nat} {xs : Nat → Int32}
theorem j3svt_L (F : Nat → sy_d) (X1 X2 : List jm_c) {p : Nat} (hp : p ≤ 2340) : ∀ (m : Nat) (F1 : Nat → sy_d) (n : Nat), n + m = 7 → qC [76] F F1 → (sy_i F1 82).toInt = p → (sy_i F1 83).toInt = p + 3 + 7 * n → (sy_i F1 84).toInt = n → (∀ j, j < p ∨ p + 60 ≤ j → (sy_ai F1 76).getD j 0 = (sy_ai F 76).getD j 0) → (∀ i, i < 3 → (sy_ai F1 76).getD (p + i) 0 = sy_i F (50 + i)) → (∀ q i, q < 7 → i < n → (sy_ai F1 76).getD (p + 3 + 7 * i + q) 0 = (sy_ai F (53 + q)).getD i 0) →
    hd_W Ls xs 1 jm_M9 (pV 3 X1 X2 (fun F' => qC [76] F F' ∧ svR (sy_ai F' 76) p F 50 ∧ ∀ j, j < p ∨ p + 60 ≤ j → (sy_ai F' 76).getD j 0 = (sy_ai F 76).getD j 0)) (46, sy_dL F1 [some (.inl (.ref 46)), some (.inl (.ref 67)), some (.inr (.inl 82)), some (.inr (.inl 83)), some (.inr (.inl 84))], sy_dS F1 [], sy_dh F1 X1 X2 (iv_H 3), 0, 0) := by
  intro m
  induction m with
  | zero =>
    intro F1 n hm hq e82 e83 e84 ho h3 h7
    refine j3svt_46 (by decide) F1 X1 X2 hq.1 (by omega) (by omega) (by omega) ?_ ?_
    · intro c0 F2 hb gg a
      rw [show (sy_i F1 83).toInt.toNat = p + 52 by omega, show ((sy_i F1 83).toInt + 4).toNat = p + 56 by omega] at a
      have key : ∀ j, (sy_ai F2 76).getD j 0 = if p + 56 ≤ j ∧ j < p + 56 + 4 then (sy_ai F1 61).getD (0 + (j - (p + 56))) 0 else if p + 52 ≤ j ∧ j < p + 52 + 4 then (sy_ai F1 60).getD (0 + (j - (p + 52))) 0 else (sy_ai F1 76).getD j 0 := fun j => by
        rw [a, cpy_ix, cpy_ix]
        rfl
      refine ⟨F2, rfl, rfl, qq_on hq hb gg (by decide), ⟨fun q i hq' hi => ?_, fun i hi => ⟨?_, ?_⟩, fun i hi => ?_⟩, fun j hj => ?_⟩
      · rw [key, if_neg (by omega), if_neg (by omega)]
        exact h7 q i hq' (by omega)
      · rw [key, if_neg (by omega), if_pos (by omega), show 0 + (p + 52 + i - (p + 52)) = i by omega, qq_a hq (by decide) (by decide)]
      · rw [key, if_pos (by omega), show 0 + (p + 56 + i - (p + 56)) = i by omega, qq_a hq (by decide) (by decide)]
      · rw [key, if_neg (by omega), if_neg (by omega)]
        exact h3 i hi
      · rw [key, if_neg (by omega), if_neg (by omega)]
        exact ho j hj
    · intros
      omega
  | succ m ih =>
    intro F1 n hm hq e82 e83 e84 ho h3 h7
    refine j3svt_46 (by decide) F1 X1 X2 hq.1 (by omega) (by omega) (by omega) ?_ ?_
    · intros
      omega
    · intro c0 F2 hb gg a e82' j82 e83' j83 e84' j84
      rw [show (sy_i F1 83).toInt.toNat = p + 3 + 7 * n by omega, show ((sy_i F1 83).toInt + 1).toNat = p + 3 + 7 * n + 1 by omega, show ((sy_i F1 83).toInt + 2).toNat = p + 3 + 7 * n + 2 by omega, show ((sy_i F1 83).toInt + 3).toNat = p + 3 + 7 * n + 3 by omega, show ((sy_i F1 83).toInt + 4).toNat = p + 3 + 7 * n + 4 by omega, show ((sy_i F1 83).toInt + 5).toNat = p + 3 + 7 * n + 5 by omega, show ((sy_i F1 83).toInt + 6).toNat = p + 3 + 7 * n + 6 by omega, show (sy_i F1 84).toInt.toNat = n by omega] at a
      have ko : ∀ j, (j < p + 3 + 7 * n ∨ p + 3 + 7 * n + 7 ≤ j) → (sy_ai F2 76).getD j 0 = (sy_ai F1 76).getD j 0 := fun j h => (congrArg (fun l => l.getD j 0) a).trans (up7_o h)
      have ki : ∀ q, q < 7 → (sy_ai F2 76).getD (p + 3 + 7 * n + q) 0 = (sy_ai F1 (53 + q)).getD n 0 := fun q h => (congrArg (fun l => l.getD (p + 3 + 7 * n + q) 0) a).trans (up7_i (fun q => (sy_ai F1 (53 + q)).getD n 0) h)
      refine ih F2 (n + 1) (by omega) (qq_on hq hb gg (by decide)) (by omega) (by omega) (by omega) (fun j hj => ?_) (fun i hi => ?_) (fun q i hq' hi => ?_)
      · rw [ko j (by omega)]
        exact ho j hj
      · rw [ko _ (by omega)]
        exact h3 i hi
      · by_cases z : i = n
        · rw [z, ki q hq', qq_a hq (by omega) (by simp; omega)]
        · rw [ko _ (by omega)]
          exact h7 q i hq' (by omega)
theorem j3svt_V (F : Nat → sy_d) (X1 X2 : List jm_c) (hB : iv_in F iv_B0) {v : Int32} {p : Nat} (hv : v.toInt = p) (hp : p ≤ 2340) : jm_T Ls xs 1 jm_M9 [.ref 46, .ref 67, .int v] (sy_dh F X1 X2 (iv_H 3)) 0 0 (pV 3 X1 X2 (fun F' => qC [76] F F' ∧ svR (sy_ai F' 76) p F 50 ∧ ∀ j, j < p ∨ p + 60 ≤ j → (sy_ai F' 76).getD j 0 = (sy_ai F 76).getD j 0)) := by
  refine C_T (by decide) [v] [.inl (.ref 46), .inl (.ref 67), .inr (.inl 82)] jm_ok9 (by decide) rfl (fun F0 k0 ki => ?_)
  have i82 : sy_i F0 82 = v := ki 0
  refine j3svt_0 (by decide) F0 X1 X2 (hd_iveq0 hB k0) (by rw [i82]; omega) ?_
  intro c0 c1 F1 hb gg a e82 j82 e83 j83 e84 j84
  rw [i82] at a e82 e83
  rw [show v.toInt.toNat = p by omega, show (v.toInt + 1).toNat = p + 1 by omega, show (v.toInt + 2).toNat = p + 2 by omega, eI (k0 50 (by decide)), eI (k0 51 (by decide)), eI (k0 52 (by decide)), nz_fa (k0 76 (by decide))] at a
  have key : ∀ j, (sy_ai F1 76).getD j 0 = if j = p + 2 then sy_i F 52 else if j = p + 1 then sy_i F 51 else if j = p then sy_i F 50 else (sy_ai F 76).getD j 0 := fun j => by
    rw [a, jm_upd_at, jm_upd_at, jm_upd_at]
  refine j3svt_L F X1 X2 hp 7 F1 0 (by omega) (qq_src (qq_mk hb gg (by decide)) k0) (by omega) (by omega) e84 (fun j hj => ?_) (fun i hi => ?_) (fun q i hq hi => absurd hi (by omega))
  · rw [key, if_neg (by omega), if_neg (by omega), if_neg (by omega)]
  · rw [key]
    match i, hi with
    | 0, _ => rw [if_neg (by omega), if_neg (by omega), if_pos (by omega)]
    | 1, _ => rw [if_neg (by omega), if_pos rfl]
    | 2, _ => rw [if_pos rfl]
theorem j3ldt_L (F : Nat → sy_d) (X1 X2 : List jm_c) {p : Nat} (hp : p ≤ 2340) : ∀ (m : Nat) (F1 : Nat → sy_d) (n : Nat), n + m = 7 → qC [50, 51, 52, 53, 54, 55, 56, 57, 58, 59, 60, 61] F F1 → (sy_i F1 82).toInt = p → (sy_i F1 83).toInt = p + 3 + 7 * n → (sy_i F1 84).toInt = n → (∀ i, i < 3 → (sy_ai F 76).getD (p + i) 0 = sy_i F1 (50 + i)) → (∀ q i, q < 7 → i < n → (sy_ai F 76).getD (p + 3 + 7 * i + q) 0 = (sy_ai F1 (53 + q)).getD i 0) →
    hd_W Ls xs 1 jm_M10 (pV 3 X1 X2 (fun F' => qC [50, 51, 52, 53, 54, 55, 56, 57, 58, 59, 60, 61] F F' ∧ svR (sy_ai F 76) p F' 50)) (46, sy_dL F1 [some (.inl (.ref 46)), some (.inl (.ref 67)), some (.inr (.inl 82)), some (.inr (.inl 83)), some (.inr (.inl 84))], sy_dS F1 [], sy_dh F1 X1 X2 (iv_H 3), 0, 0) := by
  intro m
  induction m with
  | zero =>
    intro F1 n hm hq e82 e83 e84 h3 h7
    have eC : sy_ai F1 76 = sy_ai F 76 := qq_a hq (by decide) (by decide)
    refine j3ldt_46 (by decide) F1 X1 X2 hq.1 (by omega) (by omega) (by omega) ?_ ?_
    · intro c0 F2 hb gg a60 a61
      rw [show (sy_i F1 83).toInt.toNat = p + 52 by omega, eC] at a60
      rw [show ((sy_i F1 83).toInt + 4).toNat = p + 56 by omega, eC] at a61
      refine ⟨F2, rfl, rfl, qq_on hq hb gg (by decide), ⟨fun q i hq' hi => ?_, fun i hi => ⟨?_, ?_⟩, fun i hi => ?_⟩⟩
      · rw [show 50 + 3 + q = 53 + q by omega, nz_fa (gg (53 + q) (by omega) (by simp; omega))]
        exact h7 q i hq' (by omega)
      · show _ = (sy_ai F2 60).getD i 0
        rw [a60, cpy_ix, if_pos ⟨Nat.zero_le _, (show i < (0 : Nat) + 4 by omega)⟩]
        show _ = (sy_ai F 76).getD (p + 52 + (i - 0)) 0
        rw [Nat.sub_zero]
      · show _ = (sy_ai F2 61).getD i 0
        rw [a61, cpy_ix, if_pos ⟨Nat.zero_le _, (show i < (0 : Nat) + 4 by omega)⟩]
        show _ = (sy_ai F 76).getD (p + 56 + (i - 0)) 0
        rw [Nat.sub_zero]
      · rw [eI (gg (50 + i) (by omega) (by simp; omega))]
        exact h3 i hi
    · intros
      omega
  | succ m ih =>
    intro F1 n hm hq e82 e83 e84 h3 h7
    have eC : sy_ai F1 76 = sy_ai F 76 := qq_a hq (by decide) (by decide)
    refine j3ldt_46 (by decide) F1 X1 X2 hq.1 (by omega) (by omega) (by omega) ?_ ?_
    · intros
      omega
    · intro c0 F2 hb gg a53 a54 a55 a56 a57 a58 a59 e82' j82 e83' j83 e84' j84
      rw [show (sy_i F1 84).toInt.toNat = n by omega, show (sy_i F1 83).toInt.toNat = p + 3 + 7 * n by omega, eC] at a53
      rw [show (sy_i F1 84).toInt.toNat = n by omega, show ((sy_i F1 83).toInt + 1).toNat = p + 3 + 7 * n + 1 by omega, eC] at a54
      rw [show (sy_i F1 84).toInt.toNat = n by omega, show ((sy_i F1 83).toInt + 2).toNat = p + 3 + 7 * n + 2 by omega, eC] at a55
      rw [show (sy_i F1 84).toInt.toNat = n by omega, show ((sy_i F1 83).toInt + 3).toNat = p + 3 + 7 * n + 3 by omega, eC] at a56
      rw [show (sy_i F1 84).toInt.toNat = n by omega, show ((sy_i F1 83).toInt + 4).toNat = p + 3 + 7 * n + 4 by omega, eC] at a57
      rw [show (sy_i F1 84).toInt.toNat = n by omega, show ((sy_i F1 83).toInt + 5).toNat = p + 3 + 7 * n + 5 by omega, eC] at a58
      rw [show (sy_i F1 84).toInt.toNat = n by omega, show ((sy_i F1 83).toInt + 6).toNat = p + 3 + 7 * n + 6 by omega, eC] at a59
      have hu : ∀ q, q < 7 → sy_ai F2 (53 + q) = jm_upd (sy_ai F1 (53 + q)) n ((sy_ai F 76).getD (p + 3 + 7 * n + q) 0) := fun q h => by
        match q, h with
        | 0, _ => exact a53
        | 1, _ => exact a54
        | 2, _ => exact a55
        | 3, _ => exact a56
        | 4, _ => exact a57
        | 5, _ => exact a58
        | 6, _ => exact a59
      refine ih F2 (n + 1) (by omega) (qq_on hq hb gg (by decide)) (by omega) (by omega) (by omega) (fun i hi => ?_) (fun q i hq' hi => ?_)
      · rw [eI (gg (50 + i) (by omega) (by simp; omega))]
        exact h3 i hi
      · rw [hu q hq', jm_upd_at]
        by_cases z : i = n
        · rw [if_pos z, z]
        · rw [if_neg z]
          exact h7 q i hq' (by omega)
theorem j3ldt_V (F : Nat → sy_d) (X1 X2 : List jm_c) (hB : iv_in F iv_B0) {v : Int32} {p : Nat} (hv : v.toInt = p) (hp : p ≤ 2340) : jm_T Ls xs 1 jm_M10 [.ref 46, .ref 67, .int v] (sy_dh F X1 X2 (iv_H 3)) 0 0 (pV 3 X1 X2 (fun F' => qC [50, 51, 52, 53, 54, 55, 56, 57, 58, 59, 60, 61] F F' ∧ svR (sy_ai F 76) p F' 50)) := by
  refine C_T (by decide) [v] [.inl (.ref 46), .inl (.ref 67), .inr (.inl 82)] jm_ok10 (by decide) rfl (fun F0 k0 ki => ?_)
  have i82 : sy_i F0 82 = v := ki 0
  refine j3ldt_0 (by decide) F0 X1 X2 (hd_iveq0 hB k0) (by rw [i82]; omega) ?_
  intro c0 c1 F1 hb gg e50 j50 e51 j51 e52 j52 e82 j82 e83 j83 e84 j84
  rw [i82] at j50 j51 j52 e82 e83
  rw [nz_fa (k0 76 (by decide))] at j50 j51 j52
  rw [show v.toInt.toNat = p by omega] at j50
  rw [show (v.toInt + 1).toNat = p + 1 by omega] at j51
  rw [show (v.toInt + 2).toNat = p + 2 by omega] at j52
  refine j3ldt_L F X1 X2 hp 7 F1 0 (by omega) (qq_src (qq_mk hb gg (by decide)) k0) (by omega) (by omega) e84 (fun i hi => ?_) (fun q i hq hi => absurd hi (by omega))
  match i, hi with
  | 0, _ => exact j50.symm
  | 1, _ => exact j51.symm
  | 2, _ => exact j52.symm
theorem j3svs_L (F : Nat → sy_d) (X1 X2 : List jm_c) {p : Nat} (hp : p ≤ 120) : ∀ (m : Nat) (F1 : Nat → sy_d) (n : Nat), n + m = 7 → qC [77] F F1 → (sy_i F1 82).toInt = p → (sy_i F1 83).toInt = p + 3 + 7 * n → (sy_i F1 84).toInt = n → (∀ j, j < p ∨ p + 60 ≤ j → (sy_ai F1 77).getD j 0 = (sy_ai F 77).getD j 0) → (∀ i, i < 3 → (sy_ai F1 77).getD (p + i) 0 = sy_i F (50 + i)) → (∀ q i, q < 7 → i < n → (sy_ai F1 77).getD (p + 3 + 7 * i + q) 0 = (sy_ai F (53 + q)).getD i 0) →
    hd_W Ls xs 1 jm_M9 (pV 3 X1 X2 (fun F' => qC [77] F F' ∧ svR (sy_ai F' 77) p F 50 ∧ ∀ j, j < p ∨ p + 60 ≤ j → (sy_ai F' 77).getD j 0 = (sy_ai F 77).getD j 0)) (46, sy_dL F1 [some (.inl (.ref 46)), some (.inl (.ref 68)), some (.inr (.inl 82)), some (.inr (.inl 83)), some (.inr (.inl 84))], sy_dS F1 [], sy_dh F1 X1 X2 (iv_H 3), 0, 0) := by
  intro m
  induction m with
  | zero =>
    intro F1 n hm hq e82 e83 e84 ho h3 h7
    refine j3svs_46 (by decide) F1 X1 X2 hq.1 (by omega) (by omega) (by omega) ?_ ?_
    · intro c0 F2 hb gg a
      rw [show (sy_i F1 83).toInt.toNat = p + 52 by omega, show ((sy_i F1 83).toInt + 4).toNat = p + 56 by omega] at a
      have key : ∀ j, (sy_ai F2 77).getD j 0 = if p + 56 ≤ j ∧ j < p + 56 + 4 then (sy_ai F1 61).getD (0 + (j - (p + 56))) 0 else if p + 52 ≤ j ∧ j < p + 52 + 4 then (sy_ai F1 60).getD (0 + (j - (p + 52))) 0 else (sy_ai F1 77).getD j 0 := fun j => by
        rw [a, cpy_ix, cpy_ix]
        rfl
      refine ⟨F2, rfl, rfl, qq_on hq hb gg (by decide), ⟨fun q i hq' hi => ?_, fun i hi => ⟨?_, ?_⟩, fun i hi => ?_⟩, fun j hj => ?_⟩
      · rw [key, if_neg (by omega), if_neg (by omega)]
        exact h7 q i hq' (by omega)
      · rw [key, if_neg (by omega), if_pos (by omega), show 0 + (p + 52 + i - (p + 52)) = i by omega, qq_a hq (by decide) (by decide)]
      · rw [key, if_pos (by omega), show 0 + (p + 56 + i - (p + 56)) = i by omega, qq_a hq (by decide) (by decide)]
      · rw [key, if_neg (by omega), if_neg (by omega)]
        exact h3 i hi
      · rw [key, if_neg (by omega), if_neg (by omega)]
        exact ho j hj
    · intros
      omega
  | succ m ih =>
    intro F1 n hm hq e82 e83 e84 ho h3 h7
    refine j3svs_46 (by decide) F1 X1 X2 hq.1 (by omega) (by omega) (by omega) ?_ ?_
    · intros
      omega
    · intro c0 F2 hb gg a e82' j82 e83' j83 e84' j84
      rw [show (sy_i F1 83).toInt.toNat = p + 3 + 7 * n by omega, show ((sy_i F1 83).toInt + 1).toNat = p + 3 + 7 * n + 1 by omega, show ((sy_i F1 83).toInt + 2).toNat = p + 3 + 7 * n + 2 by omega, show ((sy_i F1 83).toInt + 3).toNat = p + 3 + 7 * n + 3 by omega, show ((sy_i F1 83).toInt + 4).toNat = p + 3 + 7 * n + 4 by omega, show ((sy_i F1 83).toInt + 5).toNat = p + 3 + 7 * n + 5 by omega, show ((sy_i F1 83).toInt + 6).toNat = p + 3 + 7 * n + 6 by omega, show (sy_i F1 84).toInt.toNat = n by omega] at a
      have ko : ∀ j, (j < p + 3 + 7 * n ∨ p + 3 + 7 * n + 7 ≤ j) → (sy_ai F2 77).getD j 0 = (sy_ai F1 77).getD j 0 := fun j h => (congrArg (fun l => l.getD j 0) a).trans (up7_o h)
      have ki : ∀ q, q < 7 → (sy_ai F2 77).getD (p + 3 + 7 * n + q) 0 = (sy_ai F1 (53 + q)).getD n 0 := fun q h => (congrArg (fun l => l.getD (p + 3 + 7 * n + q) 0) a).trans (up7_i (fun q => (sy_ai F1 (53 + q)).getD n 0) h)
      refine ih F2 (n + 1) (by omega) (qq_on hq hb gg (by decide)) (by omega) (by omega) (by omega) (fun j hj => ?_) (fun i hi => ?_) (fun q i hq' hi => ?_)
      · rw [ko j (by omega)]
        exact ho j hj
      · rw [ko _ (by omega)]
        exact h3 i hi
      · by_cases z : i = n
        · rw [z, ki q hq', qq_a hq (by omega) (by simp; omega)]
        · rw [ko _ (by omega)]
          exact h7 q i hq' (by omega)
theorem j3svs_V (F : Nat → sy_d) (X1 X2 : List jm_c) (hB : iv_in F iv_B0) {v : Int32} {p : Nat} (hv : v.toInt = p) (hp : p ≤ 120) : jm_T Ls xs 1 jm_M9 [.ref 46, .ref 68, .int v] (sy_dh F X1 X2 (iv_H 3)) 0 0 (pV 3 X1 X2 (fun F' => qC [77] F F' ∧ svR (sy_ai F' 77) p F 50 ∧ ∀ j, j < p ∨ p + 60 ≤ j → (sy_ai F' 77).getD j 0 = (sy_ai F 77).getD j 0)) := by
  refine C_T (by decide) [v] [.inl (.ref 46), .inl (.ref 68), .inr (.inl 82)] jm_ok9 (by decide) rfl (fun F0 k0 ki => ?_)
  have i82 : sy_i F0 82 = v := ki 0
  refine j3svs_0 (by decide) F0 X1 X2 (hd_iveq0 hB k0) (by rw [i82]; omega) ?_
  intro c0 c1 F1 hb gg a e82 j82 e83 j83 e84 j84
  rw [i82] at a e82 e83
  rw [show v.toInt.toNat = p by omega, show (v.toInt + 1).toNat = p + 1 by omega, show (v.toInt + 2).toNat = p + 2 by omega, eI (k0 50 (by decide)), eI (k0 51 (by decide)), eI (k0 52 (by decide)), nz_fa (k0 77 (by decide))] at a
  have key : ∀ j, (sy_ai F1 77).getD j 0 = if j = p + 2 then sy_i F 52 else if j = p + 1 then sy_i F 51 else if j = p then sy_i F 50 else (sy_ai F 77).getD j 0 := fun j => by
    rw [a, jm_upd_at, jm_upd_at, jm_upd_at]
  refine j3svs_L F X1 X2 hp 7 F1 0 (by omega) (qq_src (qq_mk hb gg (by decide)) k0) (by omega) (by omega) e84 (fun j hj => ?_) (fun i hi => ?_) (fun q i hq hi => absurd hi (by omega))
  · rw [key, if_neg (by omega), if_neg (by omega), if_neg (by omega)]
  · rw [key]
    match i, hi with
    | 0, _ => rw [if_neg (by omega), if_neg (by omega), if_pos (by omega)]
    | 1, _ => rw [if_neg (by omega), if_pos rfl]
    | 2, _ => rw [if_pos rfl]
theorem j3lds_L (F : Nat → sy_d) (X1 X2 : List jm_c) {p : Nat} (hp : p ≤ 120) : ∀ (m : Nat) (F1 : Nat → sy_d) (n : Nat), n + m = 7 → qC [50, 51, 52, 53, 54, 55, 56, 57, 58, 59, 60, 61] F F1 → (sy_i F1 82).toInt = p → (sy_i F1 83).toInt = p + 3 + 7 * n → (sy_i F1 84).toInt = n → (∀ i, i < 3 → (sy_ai F 77).getD (p + i) 0 = sy_i F1 (50 + i)) → (∀ q i, q < 7 → i < n → (sy_ai F 77).getD (p + 3 + 7 * i + q) 0 = (sy_ai F1 (53 + q)).getD i 0) →
    hd_W Ls xs 1 jm_M10 (pV 3 X1 X2 (fun F' => qC [50, 51, 52, 53, 54, 55, 56, 57, 58, 59, 60, 61] F F' ∧ svR (sy_ai F 77) p F' 50)) (46, sy_dL F1 [some (.inl (.ref 46)), some (.inl (.ref 68)), some (.inr (.inl 82)), some (.inr (.inl 83)), some (.inr (.inl 84))], sy_dS F1 [], sy_dh F1 X1 X2 (iv_H 3), 0, 0) := by
  intro m
  induction m with
  | zero =>
    intro F1 n hm hq e82 e83 e84 h3 h7
    have eC : sy_ai F1 77 = sy_ai F 77 := qq_a hq (by decide) (by decide)
    refine j3lds_46 (by decide) F1 X1 X2 hq.1 (by omega) (by omega) (by omega) ?_ ?_
    · intro c0 F2 hb gg a60 a61
      rw [show (sy_i F1 83).toInt.toNat = p + 52 by omega, eC] at a60
      rw [show ((sy_i F1 83).toInt + 4).toNat = p + 56 by omega, eC] at a61
      refine ⟨F2, rfl, rfl, qq_on hq hb gg (by decide), ⟨fun q i hq' hi => ?_, fun i hi => ⟨?_, ?_⟩, fun i hi => ?_⟩⟩
      · rw [show 50 + 3 + q = 53 + q by omega, nz_fa (gg (53 + q) (by omega) (by simp; omega))]
        exact h7 q i hq' (by omega)
      · show _ = (sy_ai F2 60).getD i 0
        rw [a60, cpy_ix, if_pos ⟨Nat.zero_le _, (show i < (0 : Nat) + 4 by omega)⟩]
        show _ = (sy_ai F 77).getD (p + 52 + (i - 0)) 0
        rw [Nat.sub_zero]
      · show _ = (sy_ai F2 61).getD i 0
        rw [a61, cpy_ix, if_pos ⟨Nat.zero_le _, (show i < (0 : Nat) + 4 by omega)⟩]
        show _ = (sy_ai F 77).getD (p + 56 + (i - 0)) 0
        rw [Nat.sub_zero]
      · rw [eI (gg (50 + i) (by omega) (by simp; omega))]
        exact h3 i hi
    · intros
      omega
  | succ m ih =>
    intro F1 n hm hq e82 e83 e84 h3 h7
    have eC : sy_ai F1 77 = sy_ai F 77 := qq_a hq (by decide) (by decide)
    refine j3lds_46 (by decide) F1 X1 X2 hq.1 (by omega) (by omega) (by omega) ?_ ?_
    · intros
      omega
    · intro c0 F2 hb gg a53 a54 a55 a56 a57 a58 a59 e82' j82 e83' j83 e84' j84
      rw [show (sy_i F1 84).toInt.toNat = n by omega, show (sy_i F1 83).toInt.toNat = p + 3 + 7 * n by omega, eC] at a53
      rw [show (sy_i F1 84).toInt.toNat = n by omega, show ((sy_i F1 83).toInt + 1).toNat = p + 3 + 7 * n + 1 by omega, eC] at a54
      rw [show (sy_i F1 84).toInt.toNat = n by omega, show ((sy_i F1 83).toInt + 2).toNat = p + 3 + 7 * n + 2 by omega, eC] at a55
      rw [show (sy_i F1 84).toInt.toNat = n by omega, show ((sy_i F1 83).toInt + 3).toNat = p + 3 + 7 * n + 3 by omega, eC] at a56
      rw [show (sy_i F1 84).toInt.toNat = n by omega, show ((sy_i F1 83).toInt + 4).toNat = p + 3 + 7 * n + 4 by omega, eC] at a57
      rw [show (sy_i F1 84).toInt.toNat = n by omega, show ((sy_i F1 83).toInt + 5).toNat = p + 3 + 7 * n + 5 by omega, eC] at a58
      rw [show (sy_i F1 84).toInt.toNat = n by omega, show ((sy_i F1 83).toInt + 6).toNat = p + 3 + 7 * n + 6 by omega, eC] at a59
      have hu : ∀ q, q < 7 → sy_ai F2 (53 + q) = jm_upd (sy_ai F1 (53 + q)) n ((sy_ai F 77).getD (p + 3 + 7 * n + q) 0) := fun q h => by
        match q, h with
        | 0, _ => exact a53
        | 1, _ => exact a54
        | 2, _ => exact a55
        | 3, _ => exact a56
        | 4, _ => exact a57
        | 5, _ => exact a58
        | 6, _ => exact a59
      refine ih F2 (n + 1) (by omega) (qq_on hq hb gg (by decide)) (by omega) (by omega) (by omega) (fun i hi => ?_) (fun q i hq' hi => ?_)
      · rw [eI (gg (50 + i) (by omega) (by simp; omega))]
        exact h3 i hi
      · rw [hu q hq', jm_upd_at]
        by_cases z : i = n
        · rw [if_pos z, z]
        · rw [if_neg z]
          exact h7 q i hq' (by omega)
theorem j3lds_V (F : Nat → sy_d) (X1 X2 : List jm_c) (hB : iv_in F iv_B0) {v : Int32} {p : Nat} (hv : v.toInt = p) (hp : p ≤ 120) : jm_T Ls xs 1 jm_M10 [.ref 46, .ref 68, .int v] (sy_dh F X1 X2 (iv_H 3)) 0 0 (pV 3 X1 X2 (fun F' => qC [50, 51, 52, 53, 54, 55, 56, 57, 58, 59, 60, 61] F F' ∧ svR (sy_ai F 77) p F' 50)) := by
  refine C_T (by decide) [v] [.inl (.ref 46), .inl (.ref 68), .inr (.inl 82)] jm_ok10 (by decide) rfl (fun F0 k0 ki => ?_)
  have i82 : sy_i F0 82 = v := ki 0
  refine j3lds_0 (by decide) F0 X1 X2 (hd_iveq0 hB k0) (by rw [i82]; omega) ?_
  intro c0 c1 F1 hb gg e50 j50 e51 j51 e52 j52 e82 j82 e83 j83 e84 j84
  rw [i82] at j50 j51 j52 e82 e83
  rw [nz_fa (k0 77 (by decide))] at j50 j51 j52
  rw [show v.toInt.toNat = p by omega] at j50
  rw [show (v.toInt + 1).toNat = p + 1 by omega] at j51
  rw [show (v.toInt + 2).toNat = p + 2 by omega] at j52
  refine j3lds_L F X1 X2 hp 7 F1 0 (by omega) (qq_src (qq_mk hb gg (by decide)) k0) (by omega) (by omega) e84 (fun i hi => ?_) (fun q i hq hi => absurd hi (by omega))
  match i, hi with
  | 0, _ => exact j50.symm
  | 1, _ => exact j51.symm
  | 2, _ => exact j52.symm
end SV3
