/-! ===== the reference: a text begins; what is told and taped ===== -/
/-- a row as it is filled: z owners, n fruit, m buyers -/
def bgF (T : tX) (z n m j : Nat) : Int32 := if j < n then Int32.ofInt (tF T j).1 else if 7 ≤ j ∧ j < 7 + n then Int32.ofInt (tF T (j - 7)).2.2 else if 21 ≤ j ∧ j < 21 + z then -2 else if 49 ≤ j ∧ j < 49 + m then Int32.ofInt (tB T (j - 49)).1 else if 53 ≤ j ∧ j < 53 + m then Int32.ofInt (tB T (j - 53)).2.2 else 0
theorem bgF_z {T : tX} {z j : Nat} : bgF T (z + 1) 0 0 j = if j = 21 + z then -2 else bgF T z 0 0 j := by
  unfold bgF
  rw [if_neg (by omega), if_neg (by omega), if_neg (by omega : ¬ (j < 0)), if_neg (by omega : ¬ (7 ≤ j ∧ j < 7 + 0))]
  by_cases q : j = 21 + z
  · rw [if_pos q, if_pos (by omega)]
  · rw [if_neg q]
    by_cases q2 : 21 ≤ j ∧ j < 21 + z
    · rw [if_pos q2, if_pos (by omega)]
    · rw [if_neg q2, if_neg (by omega)]
theorem bgF_n {T : tX} {n j : Nat} (hn : n < 7) : bgF T 7 (n + 1) 0 j = if j = 7 + n then Int32.ofInt (tF T n).2.2 else if j = n then Int32.ofInt (tF T n).1 else bgF T 7 n 0 j := by
  unfold bgF
  by_cases q : j = 7 + n
  · rw [if_pos q, if_neg (by omega), if_pos (by omega), show j - 7 = n by omega]
  · rw [if_neg q]
    by_cases q2 : j = n
    · rw [if_pos q2, if_pos (by omega), q2]
    · rw [if_neg q2]
      by_cases q3 : j < n
      · rw [if_pos q3, if_pos (by omega)]
      · rw [if_neg q3, if_neg (by omega)]
        by_cases q4 : 7 ≤ j ∧ j < 7 + n
        · rw [if_pos q4, if_pos (by omega)]
        · rw [if_neg q4, if_neg (by omega)]
theorem bgF_m {T : tX} {n m j : Nat} (hn : n ≤ 7) (hm : m < 4) : bgF T 7 n (m + 1) j = if j = 53 + m then Int32.ofInt (tB T m).2.2 else if j = 49 + m then Int32.ofInt (tB T m).1 else bgF T 7 n m j := by
  unfold bgF
  by_cases q : j = 53 + m
  · rw [if_pos q, if_neg (by omega), if_neg (by omega), if_neg (by omega), if_neg (by omega), if_pos (by omega), show j - 53 = m by omega]
  · rw [if_neg q]
    by_cases q2 : j = 49 + m
    · rw [if_pos q2, if_neg (by omega), if_neg (by omega), if_neg (by omega), if_pos (by omega), show j - 49 = m by omega]
    · rw [if_neg q2]
      by_cases q3 : j < n
      · rw [if_pos q3, if_pos q3]
      · rw [if_neg q3, if_neg q3]
        by_cases q4 : 7 ≤ j ∧ j < 7 + n
        · rw [if_pos q4, if_pos q4]
        · rw [if_neg q4, if_neg q4]
          by_cases q5 : 21 ≤ j ∧ j < 21 + 7
          · rw [if_pos q5, if_pos q5]
          · rw [if_neg q5, if_neg q5]
            by_cases q6 : 49 ≤ j ∧ j < 49 + m
            · rw [if_pos q6, if_pos (by omega)]
            · rw [if_neg q6, if_neg (by omega)]
              by_cases q7 : 53 ≤ j ∧ j < 53 + m
              · rw [if_pos q7, if_pos (by omega)]
              · rw [if_neg q7, if_neg (by omega)]
theorem bgF_beg {T : tX} (hf : nfS T ≤ 7) (hb : nbS T ≤ 4) {l : List Int32} (h : ∀ j, j < 61 → l.getD j 0 = bgF T 7 (nfS T) (nbS T) j) : gL (nfS T) (nbS T) l (begS T) := by
  have s0 : ∀ i, i < nfS T → l.getD (0 + i) 0 = begS T 0 i := fun i hi => by
    rw [h _ (by omega), Nat.zero_add]
    show (if i < nfS T then _ else _) = Int32.ofInt (tF T i).1
    rw [if_pos hi]
  have s1 : ∀ i, i < nfS T → l.getD (7 + i) 0 = begS T 1 i := fun i hi => by
    rw [h _ (by omega)]
    unfold bgF
    rw [if_neg (by omega), if_pos (by omega), show 7 + i - 7 = i by omega]
    rfl
  have s3 : ∀ i, i < nfS T → l.getD (21 + i) 0 = begS T 3 i := fun i hi => by
    rw [h _ (by omega)]
    unfold bgF
    rw [if_neg (by omega), if_neg (by omega), if_pos (by omega)]
    rfl
  have s7 : ∀ i, i < nbS T → l.getD (49 + i) 0 = begS T 7 i := fun i hi => by
    rw [h _ (by omega)]
    unfold bgF
    rw [if_neg (by omega), if_neg (by omega), if_neg (by omega), if_pos (by omega), show 49 + i - 49 = i by omega]
    rfl
  have s8 : ∀ i, i < nbS T → l.getD (53 + i) 0 = begS T 8 i := fun i hi => by
    rw [h _ (by omega)]
    unfold bgF
    rw [if_neg (by omega), if_neg (by omega), if_neg (by omega), if_neg (by omega), if_pos (by omega), show 53 + i - 53 = i by omega]
    rfl
  have sz : ∀ j, j < 61 → (14 ≤ j ∧ j < 21 ∨ 28 ≤ j ∧ j < 49 ∨ 57 ≤ j) → l.getD j 0 = 0 := fun j h1 h2 => by
    rw [h _ h1]
    unfold bgF
    rw [if_neg (by omega), if_neg (by omega), if_neg (by omega), if_neg (by omega), if_neg (by omega)]
  intro a i hv
  have hd := vl_in hf hb hv
  rcases hv with ⟨h1, h2⟩ | ⟨h1, h2⟩ | ⟨h1, h2⟩
  · match a, h1 with
    | 0, _ => exact s0 i h2
    | 1, _ => exact s1 i h2
    | 2, _ => exact sz (14 + i) (by omega) (by omega)
    | 3, _ => exact s3 i h2
    | 4, _ => exact sz (28 + i) (by omega) (by omega)
    | 5, _ => exact sz (35 + i) (by omega) (by omega)
    | 6, _ => exact sz (42 + i) (by omega) (by omega)
  · rcases h1 with h1 | h1
    · subst h1
      exact s7 i h2
    · subst h1
      exact s8 i h2
  · subst h1
    exact sz (57 + i) (by omega) (by omega)
section RB
variable {Ls : Nat} {xs : Nat → Int32} {T : tX} {g : gS} (F : Nat → sy_d) (X1 X2 : List jm_c)
theorem bg_112 (hC : cR T F) : ∀ (k : Nat) (F1 : Nat → sy_d) (m : Nat), m + k = nbS T → qR [18, 55] F F1 → (sy_i F1 69).toInt = m → (∀ j, j < 61 → (sy_ai F1 55).getD j 0 = bgF T 7 (nfS T) m j) →
    hd_W Ls xs 1 jm_M171 (pV 4 X1 X2 (fun F' => qR [18, 55] F F' ∧ gRow T F' (begS T))) (112, sy_dL F1 [some (.inl (.ref 1000)), some (.inr (.inl 69))], sy_dS F1 [], sy_dh F1 X1 X2 (iv_H 4), 0, 0) := by
  have l7 : nfS T ≤ 7 := hC.2.2.1.1
  have l4 : nbS T ≤ 4 := hC.2.2.1.2.1
  intro k
  induction k with
  | zero =>
    intro F1 m hm hq e69 hr
    have en : ((sy_ai F1 35).getD (sy_i F1 11).toInt.toNat 0).toInt = (nbS T : Int) := (rX_n (cR_q hC hq (by decide)).2.1).2.1
    refine zbg_112 (by decide) F1 X1 X2 hq.1 (by omega) ?_ ?_
    · intro c0 F2 hb gg e18 i18
      refine ⟨F2, rfl, rfl, qq_on hq hb gg (by decide), ?_⟩
      have em : m = nbS T := by omega
      subst em
      unfold gRow
      rw [nz_fa (gg 55 (by decide) (by decide))]
      exact bgF_beg l7 l4 hr
    · intros
      omega
  | succ k ih =>
    intro F1 m hm hq e69 hr
    have c1 := cR_q hC hq (by decide)
    have en : ((sy_ai F1 35).getD (sy_i F1 11).toInt.toNat 0).toInt = (nbS T : Int) := (rX_n c1.2.1).2.1
    have x11 := nz_bx hq.1 (k := 11) (lo := 0) (hi := 1) rfl
    refine zbg_112 (by decide) F1 X1 X2 hq.1 (by omega) ?_ ?_
    · intros
      omega
    · intro c0 F2 hb gg a55 f69 i69
      obtain ⟨t1, t2, t3⟩ := rX_b c1.2.1 (show m < T.2.1.length by show m < nbS T; omega)
      have ei : (4 * (sy_i F1 11).toInt + (sy_i F1 69).toInt).toNat = 4 * (sy_i F1 11).toInt.toNat + m := by omega
      rw [ei] at a55
      have x1 : (sy_ai F1 36).getD (4 * (sy_i F1 11).toInt.toNat + m) 0 = Int32.ofInt (tB T m).1 := (ofi t1).symm
      have x3 : (sy_ai F1 38).getD (4 * (sy_i F1 11).toInt.toNat + m) 0 = Int32.ofInt (tB T m).2.2 := (ofi t3).symm
      rw [x1, x3, show (49 + (sy_i F1 69).toInt).toNat = 49 + m by omega, show (53 + (sy_i F1 69).toInt).toNat = 53 + m by omega] at a55
      refine ih F2 (m + 1) (by omega) (qq_on hq hb gg (by decide)) (by omega) (fun j hj => ?_)
      rw [a55, jm_upd_at, jm_upd_at, bgF_m l7 (by omega), hr j hj]
theorem bg_48 (hC : cR T F) : ∀ (k : Nat) (F1 : Nat → sy_d) (n : Nat), n + k = nfS T → qR [18, 55] F F1 → (sy_i F1 69).toInt = n → (∀ j, j < 61 → (sy_ai F1 55).getD j 0 = bgF T 7 n 0 j) →
    hd_W Ls xs 1 jm_M171 (pV 4 X1 X2 (fun F' => qR [18, 55] F F' ∧ gRow T F' (begS T))) (48, sy_dL F1 [some (.inl (.ref 1000)), some (.inr (.inl 69))], sy_dS F1 [], sy_dh F1 X1 X2 (iv_H 4), 0, 0) := by
  have l7 : nfS T ≤ 7 := hC.2.2.1.1
  intro k
  induction k with
  | zero =>
    intro F1 n hm hq e69 hr
    have en : ((sy_ai F1 31).getD (sy_i F1 11).toInt.toNat 0).toInt = (nfS T : Int) := (rX_n (cR_q hC hq (by decide)).2.1).1
    refine zbg_48 (by decide) F1 X1 X2 hq.1 (by omega) ?_ ?_
    · intro c0 F2 hb gg f69 i69
      refine bg_112 F X1 X2 hC (nbS T) F2 0 (by omega) (qq_on hq hb gg (by decide)) f69 (fun j hj => ?_)
      rw [nz_fa (gg 55 (by decide) (by decide)), hr j hj, show n = nfS T by omega]
    · intros
      omega
  | succ k ih =>
    intro F1 n hm hq e69 hr
    have c1 := cR_q hC hq (by decide)
    have en : ((sy_ai F1 31).getD (sy_i F1 11).toInt.toNat 0).toInt = (nfS T : Int) := (rX_n c1.2.1).1
    have x11 := nz_bx hq.1 (k := 11) (lo := 0) (hi := 1) rfl
    refine zbg_48 (by decide) F1 X1 X2 hq.1 (by omega) ?_ ?_
    · intros
      omega
    · intro c0 F2 hb gg a55 f69 i69
      obtain ⟨t1, t2, t3⟩ := rX_f c1.2.1 (show n < T.1.length by show n < nfS T; omega)
      have ei : (7 * (sy_i F1 11).toInt + (sy_i F1 69).toInt).toNat = 7 * (sy_i F1 11).toInt.toNat + n := by omega
      rw [ei] at a55
      have x1 : (sy_ai F1 32).getD (7 * (sy_i F1 11).toInt.toNat + n) 0 = Int32.ofInt (tF T n).1 := (ofi t1).symm
      have x3 : (sy_ai F1 34).getD (7 * (sy_i F1 11).toInt.toNat + n) 0 = Int32.ofInt (tF T n).2.2 := (ofi t3).symm
      rw [x1, x3, show (sy_i F1 69).toInt.toNat = n by omega, show (7 + (sy_i F1 69).toInt).toNat = 7 + n by omega] at a55
      refine ih F2 (n + 1) (by omega) (qq_on hq hb gg (by decide)) (by omega) (fun j hj => ?_)
      rw [a55, jm_upd_at, jm_upd_at, bgF_n (by omega), hr j hj]
theorem bg_23 (hC : cR T F) : ∀ (k : Nat) (F1 : Nat → sy_d) (z : Nat), z + k = 7 → qR [18, 55] F F1 → (sy_i F1 69).toInt = z → (∀ j, j < 61 → (sy_ai F1 55).getD j 0 = bgF T z 0 0 j) →
    hd_W Ls xs 1 jm_M171 (pV 4 X1 X2 (fun F' => qR [18, 55] F F' ∧ gRow T F' (begS T))) (23, sy_dL F1 [some (.inl (.ref 1000)), some (.inr (.inl 69))], sy_dS F1 [], sy_dh F1 X1 X2 (iv_H 4), 0, 0) := by
  intro k
  induction k with
  | zero =>
    intro F1 z hm hq e69 hr
    refine zbg_23 (by decide) F1 X1 X2 hq.1 (by omega) ?_ ?_
    · intro c0 F2 hb gg f69 i69
      refine bg_48 F X1 X2 hC (nfS T) F2 0 (by omega) (qq_on hq hb gg (by decide)) f69 (fun j hj => ?_)
      rw [nz_fa (gg 55 (by decide) (by decide)), hr j hj, show z = 7 by omega]
    · intros
      omega
  | succ k ih =>
    intro F1 z hm hq e69 hr
    refine zbg_23 (by decide) F1 X1 X2 hq.1 (by omega) ?_ ?_
    · intros
      omega
    · intro c0 F2 hb gg a55 f69 i69
      rw [show (21 + (sy_i F1 69).toInt).toNat = 21 + z by omega] at a55
      refine ih F2 (z + 1) (by omega) (qq_on hq hb gg (by decide)) (by omega) (fun j hj => ?_)
      rw [a55, jm_upd_at, bgF_z, hr j hj]
theorem bg_2 (hC : cR T F) : ∀ (k : Nat) (F1 : Nat → sy_d) (n : Nat), n + k = 61 → qR [18, 55] F F1 → (sy_i F1 69).toInt = n → (∀ j, j < n → (sy_ai F1 55).getD j 0 = 0) →
    hd_W Ls xs 1 jm_M171 (pV 4 X1 X2 (fun F' => qR [18, 55] F F' ∧ gRow T F' (begS T))) (2, sy_dL F1 [some (.inl (.ref 1000)), some (.inr (.inl 69))], sy_dS F1 [], sy_dh F1 X1 X2 (iv_H 4), 0, 0) := by
  intro k
  induction k with
  | zero =>
    intro F1 n hm hq e69 hr
    refine zbg_2 (by decide) F1 X1 X2 hq.1 (by omega) ?_ ?_
    · intro c0 F2 hb gg f69 i69
      refine bg_23 F X1 X2 hC 7 F2 0 (by omega) (qq_on hq hb gg (by decide)) f69 (fun j hj => ?_)
      rw [nz_fa (gg 55 (by decide) (by decide)), hr j (by omega)]
      unfold bgF
      rw [if_neg (by omega), if_neg (by omega), if_neg (by omega), if_neg (by omega), if_neg (by omega)]
    · intros
      omega
  | succ k ih =>
    intro F1 n hm hq e69 hr
    refine zbg_2 (by decide) F1 X1 X2 hq.1 (by omega) ?_ ?_
    · intros
      omega
    · intro c0 F2 hb gg a55 f69 i69
      rw [show (sy_i F1 69).toInt.toNat = n by omega] at a55
      refine ih F2 (n + 1) (by omega) (qq_on hq hb gg (by decide)) (by omega) (fun j hj => ?_)
      rw [a55, jm_upd_at]
      by_cases q : j = n
      · rw [if_pos q]
      · rw [if_neg q]
        exact hr j (by omega)
theorem bg_V (hC : cR T F) : jm_T Ls xs 1 jm_M171 [.ref 1000] (sy_dh F X1 X2 (iv_H 4)) 0 0 (pV 4 X1 X2 (fun F' => qR [18, 55] F F' ∧ gRow T F' (begS T))) := by
  refine hd_T (As := [.inl (.ref 1000)]) jm_ok171 (by decide) (zbg_0 (by decide) F X1 X2 hC.1 ?_)
  intro F1 hb gg f69 i69
  exact bg_2 F X1 X2 hC 61 F1 0 (by omega) (qq_mk hb gg (by decide)) f69 (fun j hj => absurd hj (by omega))
theorem rpl_V (hB : iv_in F iv_B4) : jm_T Ls xs 1 jm_M151 [.ref 1000] (sy_dh F X1 X2 (iv_H 4)) 0 0 (pI 4 X1 X2 (fun x F' => x = sy_i F 10 ∧ qR [] F F')) := by
  refine hd_T (As := [.inl (.ref 1000)]) jm_ok151 (by decide) (zpl_0 (by decide) F X1 X2 hB ?_)
  intro F1 hb gg
  exact ⟨_, F1, rfl, rfl, rfl, qq_mk hb gg (by decide)⟩
theorem rfo_V (hB : iv_in F iv_B4) : jm_T Ls xs 1 jm_M229 [.ref 1000] (sy_dh F X1 X2 (iv_H 4)) 0 0 (pI 4 X1 X2 (fun x F' => x = sy_i F 21 ∧ qR [21] F F' ∧ (sy_i F' 21).toInt = 0)) := by
  refine hd_T (As := [.inl (.ref 1000)]) jm_ok229 (by decide) (zfo_0 (by decide) F X1 X2 hB ?_)
  intro F1 hb gg e21 i21
  exact ⟨_, F1, rfl, rfl, rfl, qq_mk hb gg (by decide), e21⟩
theorem rbk_V (hB : iv_in F iv_B4) (v : Int32) : jm_T Ls xs 1 jm_M135 [.ref 1000, .int v] (sy_dh F X1 X2 (iv_H 4)) 0 0 (pI 4 X1 X2 (fun x F' => (v.toInt < 0 ∨ (sy_i F 1).toInt < v.toInt → x = -1 ∧ qR [] F F') ∧ (¬ (v.toInt < 0 ∨ (sy_i F 1).toInt < v.toInt) → x.toInt = (sy_i F 1).toInt - v.toInt ∧ qR [1] F F' ∧ (sy_i F' 1).toInt = (sy_i F 1).toInt - v.toInt))) := by
  have c1 := nz_bx hB (k := 1) (lo := 0) (hi := 2000) rfl
  refine R_T [v] [.inl (.ref 1000), .inr (.inl 69)] jm_ok135 (by decide) rfl (fun F0 k0 ki => ?_)
  have z69 : (sy_i F0 69).toInt = v.toInt := congrArg Int32.toInt (ki 0)
  have e0 : (sy_i F0 1).toInt = (sy_i F 1).toInt := nz_fi (k0 1 (by decide))
  refine zbk_0 (by decide) F0 X1 X2 (hd_iveq hB k0) (by intros; omega) ?_ ?_ ?_
  · intro c0 F1 hb1 gg
    exact ⟨_, F1, rfl, rfl, fun _ => ⟨rfl, qq_src (qq_mk hb1 gg (by decide)) k0⟩, fun h => absurd (Or.inl (by omega)) h⟩
  · intro c0 c2 F1 hb1 gg f0 i0
    exact ⟨_, F1, rfl, rfl, fun h => absurd h (by omega), fun _ => ⟨by rw [nz_sub rfl rfl (by omega) (by omega)]; omega, qq_src (qq_mk hb1 gg (by decide)) k0, by omega⟩⟩
  · intro c0 c2 F1 hb1 gg
    exact ⟨_, F1, rfl, rfl, fun _ => ⟨rfl, qq_src (qq_mk hb1 gg (by decide)) k0⟩, fun h => absurd (Or.inr (by omega)) h⟩
theorem rtl_V (hB : iv_in F iv_B4) (a b : Int32) : jm_T Ls xs 2 jm_M228 [.ref 1000, .int a, .int b] (sy_dh F X1 X2 (iv_H 4)) 0 0 (pI 4 X1 X2 (fun x F' => (¬ ((1 ≤ a.toInt ∧ a.toInt ≤ 9) ∧ (0 ≤ b.toInt ∧ b.toInt ≤ 9) ∧ (sy_i F 21).toInt < 7) → x = -1 ∧ qR [] F F') ∧ ((1 ≤ a.toInt ∧ a.toInt ≤ 9) ∧ (0 ≤ b.toInt ∧ b.toInt ≤ 9) ∧ (sy_i F 21).toInt < 7 → x.toInt = (sy_i F 21).toInt ∧ qR [21, 63, 64] F F' ∧ (sy_i F' 21).toInt = (sy_i F 21).toInt + 1 ∧ sy_ai F' 63 = jm_upd (sy_ai F 63) (sy_i F 21).toInt.toNat a ∧ sy_ai F' 64 = jm_upd (sy_ai F 64) (sy_i F 21).toInt.toNat b))) := by
  have c1 := nz_bx hB (k := 21) (lo := 0) (hi := 7) rfl
  refine R_T [a, b] [.inl (.ref 1000), .inr (.inl 69), .inr (.inl 70)] jm_ok228 (by decide) rfl (fun F0 k0 ki => ?_)
  have i69 : sy_i F0 69 = a := ki 0
  have i70 : sy_i F0 70 = b := ki 1
  have e0 : sy_i F0 21 = sy_i F 21 := eI (k0 21 (by decide))
  have z69 : (sy_i F0 69).toInt = a.toInt := congrArg Int32.toInt i69
  have z70 : (sy_i F0 70).toInt = b.toInt := congrArg Int32.toInt i70
  have z21 : (sy_i F0 21).toInt = (sy_i F 21).toInt := congrArg Int32.toInt e0
  have no : ∀ F1 : Nat → sy_d, iv_in F1 iv_B4 → (∀ j, j < 69 → j ∉ ([] : List Nat) → F1 j = F0 j) → ¬ ((1 ≤ a.toInt ∧ a.toInt ≤ 9) ∧ (0 ≤ b.toInt ∧ b.toInt ≤ 9) ∧ (sy_i F 21).toInt < 7) → pI 4 X1 X2 (fun x F' => (¬ ((1 ≤ a.toInt ∧ a.toInt ≤ 9) ∧ (0 ≤ b.toInt ∧ b.toInt ≤ 9) ∧ (sy_i F 21).toInt < 7) → x = -1 ∧ qR [] F F') ∧ ((1 ≤ a.toInt ∧ a.toInt ≤ 9) ∧ (0 ≤ b.toInt ∧ b.toInt ≤ 9) ∧ (sy_i F 21).toInt < 7 → x.toInt = (sy_i F 21).toInt ∧ qR [21, 63, 64] F F' ∧ (sy_i F' 21).toInt = (sy_i F 21).toInt + 1 ∧ sy_ai F' 63 = jm_upd (sy_ai F 63) (sy_i F 21).toInt.toNat a ∧ sy_ai F' 64 = jm_upd (sy_ai F 64) (sy_i F 21).toInt.toNat b)) (some (.int (-1 : Int32))) (sy_dh F1 X1 X2 (iv_H 4)) := fun F1 hb1 gg h => ⟨_, F1, rfl, rfl, fun _ => ⟨rfl, qq_src (qq_mk hb1 gg (by decide)) k0⟩, fun z => absurd z h⟩
  refine ztl_0 (by decide) F0 X1 X2 (hd_iveq hB k0) ?_ ?_ ?_ ?_ ?_ ?_
  · intro d1 F1 hb1 gg
    exact no F1 hb1 gg (by omega)
  · intro d1 d2 F1 hb1 gg
    exact no F1 hb1 gg (by omega)
  · intro d1 d2 d3 F1 hb1 gg
    exact no F1 hb1 gg (by omega)
  · intro d1 d2 d3 d4 F1 hb1 gg
    exact no F1 hb1 gg (by omega)
  · intro d1 d2 d3 d4 d5 F1 hb1 gg
    exact no F1 hb1 gg (by omega)
  · intro d1 d2 d3 d4 d5 F1 hb1 gg f21 i21 a63 a64
    rw [i69, e0, nz_fa (k0 63 (by decide))] at a63
    rw [i70, e0, nz_fa (k0 64 (by decide))] at a64
    have o1 : (1 : Int32).toInt = 1 := by decide
    exact ⟨_, F1, rfl, rfl, fun h => absurd (by omega) h, fun _ => ⟨by rw [nz_sub (nz_add rfl o1 (by omega) (by omega)) o1 (by omega) (by omega)]; omega, qq_src (qq_mk hb1 gg (by decide)) k0, by omega, a63, a64⟩⟩
theorem rfd_V (hB : iv_in F iv_B4) (a b c d e : Int32) : jm_T Ls xs 2 jm_M133 [.ref 1000, .int a, .int b, .int c, .int d, .int e] (sy_dh F X1 X2 (iv_H 4)) 0 0 (pI 4 X1 X2 (fun x F' => (2000 < (sy_i F 1).toInt + 20 → x = -1 ∧ qR [] F F') ∧ (¬ 2000 < (sy_i F 1).toInt + 20 → x.toInt = (sy_i F 1).toInt + 20 ∧ qR [1, 23] F F' ∧ (sy_i F' 1).toInt = (sy_i F 1).toInt + 20 ∧ ub (sy_ai F' 23) ((sy_i F 1).toInt + 20).toNat = apB (apB (apB (apB (apB (ub (sy_ai F 23) (sy_i F 1).toInt.toNat) (sy_i F 1).toInt.toNat a) ((sy_i F 1).toInt.toNat + 4) b) ((sy_i F 1).toInt.toNat + 8) c) ((sy_i F 1).toInt.toNat + 12) d) ((sy_i F 1).toInt.toNat + 16) e))) := by
  obtain ⟨F0, hF0⟩ : ∃ F0, F0 = nm F (fun j => .inl (.int (if j = 0 then a else if j = 1 then b else if j = 2 then c else if j = 3 then d else e))) := ⟨_, rfl⟩
  have k0 : ∀ j, j < 69 → F0 j = F j := fun j hj => by rw [hF0]; exact nm_lt j hj
  have i69 : sy_i F0 69 = a := by rw [hF0]; rfl
  have i70 : sy_i F0 70 = b := by rw [hF0]; rfl
  have i71 : sy_i F0 71 = c := by rw [hF0]; rfl
  have i72 : sy_i F0 72 = d := by rw [hF0]; rfl
  have i73 : sy_i F0 73 = e := by rw [hF0]; rfl
  have hB0 := hd_iveq hB k0
  have e00 : (sy_i F0 1).toInt = (sy_i F 1).toInt := nz_fi (k0 1 (by decide))
  have c1 := nz_bx hB0 (k := 1) (lo := 0) (hi := 2000) rfl
  refine nm_T F (fun j => .inl (.int (if j = 0 then a else if j = 1 then b else if j = 2 then c else if j = 3 then d else e))) X1 X2 (A := [.inl (.ref 1000), .inr (.inl 69), .inr (.inl 70), .inr (.inl 71), .inr (.inl 72), .inr (.inl 73)]) jm_ok133 (by decide) rfl ?_
  rw [← hF0]
  refine rfd_0 (by decide) F0 X1 X2 hB0 ?_ ?_
  · intro q F1 hb g e1 e10 e21 a23 a67 f69 f70 f71 f72 f73
    have hn : ¬ 2000 < (sy_i F 1).toInt + 20 := by omega
    obtain ⟨t, ht⟩ : ∃ t : Nat, t = (sy_i F0 1).toInt.toNat := ⟨_, rfl⟩
    have h1 : fR F0 F1 t (ub (sy_ai F0 23) t) := ⟨hb, fun j hj hn => g j hj (by simp), by omega, by rw [a23]⟩
    have v0 : sy_i F1 69 = sy_i F0 69 := Int32.toInt_inj.mp f69
    have v1 : sy_i F1 70 = sy_i F0 70 := Int32.toInt_inj.mp f70
    have v2 : sy_i F1 71 = sy_i F0 71 := Int32.toInt_inj.mp f71
    have v3 : sy_i F1 72 = sy_i F0 72 := Int32.toInt_inj.mp f72
    have v4 : sy_i F1 73 = sy_i F0 73 := Int32.toInt_inj.mp f73
    refine hd_calV (R := fun F' => fR F0 F' (t + 4) (apB (ub (sy_ai F0 23) t) (t) (sy_i F0 69))) (nh := 69) (nv := 74) (s := 4) (s1 := 4) (d1 := 1) (M1 := jm_M134) (As := [.inl (.ref 1000), .inr (.inl 69)]) (rest := []) jm_ok133 rfl rfl (by decide) (by decide +kernel) (by rw [← v0]; exact rap_T X1 X2 F0 F1 h1 (by omega) _) (fun G0 H0 hR0 p0 r0 => ?_)
    have h0a := fR_eq hR0 p0
    have w0_1 : sy_i G0 70 = sy_i F0 70 := (show sy_i G0 70 = sy_i F1 70 by unfold sy_i; rw [r0 70 (by decide) (by decide)]).trans v1
    have w0_2 : sy_i G0 71 = sy_i F0 71 := (show sy_i G0 71 = sy_i F1 71 by unfold sy_i; rw [r0 71 (by decide) (by decide)]).trans v2
    have w0_3 : sy_i G0 72 = sy_i F0 72 := (show sy_i G0 72 = sy_i F1 72 by unfold sy_i; rw [r0 72 (by decide) (by decide)]).trans v3
    have w0_4 : sy_i G0 73 = sy_i F0 73 := (show sy_i G0 73 = sy_i F1 73 by unfold sy_i; rw [r0 73 (by decide) (by decide)]).trans v4
    refine rfd_20 (by decide) G0 X1 X2 h0a.1 ?_
    intro K0 kb0 kg0 z0_e1 z0_e10 z0_e21 z0_a23 z0_a67 y0_0 y0_1 y0_2 y0_3 y0_4
    have h0b := fR_eq h0a (fun j hj => kg0 j hj (by simp))
    have u0_1 : sy_i K0 70 = sy_i F0 70 := (Int32.toInt_inj.mp y0_1).trans w0_1
    have u0_2 : sy_i K0 71 = sy_i F0 71 := (Int32.toInt_inj.mp y0_2).trans w0_2
    have u0_3 : sy_i K0 72 = sy_i F0 72 := (Int32.toInt_inj.mp y0_3).trans w0_3
    have u0_4 : sy_i K0 73 = sy_i F0 73 := (Int32.toInt_inj.mp y0_4).trans w0_4
    refine hd_calV (R := fun F' => fR F0 F' (t + 4 + 4) (apB (apB (ub (sy_ai F0 23) t) (t) (sy_i F0 69)) (t + 4) (sy_i F0 70))) (nh := 69) (nv := 74) (s := 4) (s1 := 4) (d1 := 1) (M1 := jm_M134) (As := [.inl (.ref 1000), .inr (.inl 70)]) (rest := []) jm_ok133 rfl rfl (by decide) (by decide +kernel) (by rw [← u0_1]; exact rap_T X1 X2 F0 K0 h0b (by omega) _) (fun G1 H1 hR1 p1 r1 => ?_)
    have h1a := fR_eq hR1 p1
    have w1_2 : sy_i G1 71 = sy_i F0 71 := (show sy_i G1 71 = sy_i K0 71 by unfold sy_i; rw [r1 71 (by decide) (by decide)]).trans u0_2
    have w1_3 : sy_i G1 72 = sy_i F0 72 := (show sy_i G1 72 = sy_i K0 72 by unfold sy_i; rw [r1 72 (by decide) (by decide)]).trans u0_3
    have w1_4 : sy_i G1 73 = sy_i F0 73 := (show sy_i G1 73 = sy_i K0 73 by unfold sy_i; rw [r1 73 (by decide) (by decide)]).trans u0_4
    refine rfd_25 (by decide) G1 X1 X2 h1a.1 ?_
    intro K1 kb1 kg1 z1_e1 z1_e10 z1_e21 z1_a23 z1_a67 y1_0 y1_1 y1_2 y1_3 y1_4
    have h1b := fR_eq h1a (fun j hj => kg1 j hj (by simp))
    have u1_2 : sy_i K1 71 = sy_i F0 71 := (Int32.toInt_inj.mp y1_2).trans w1_2
    have u1_3 : sy_i K1 72 = sy_i F0 72 := (Int32.toInt_inj.mp y1_3).trans w1_3
    have u1_4 : sy_i K1 73 = sy_i F0 73 := (Int32.toInt_inj.mp y1_4).trans w1_4
    refine hd_calV (R := fun F' => fR F0 F' (t + 4 + 4 + 4) (apB (apB (apB (ub (sy_ai F0 23) t) (t) (sy_i F0 69)) (t + 4) (sy_i F0 70)) (t + 4 + 4) (sy_i F0 71))) (nh := 69) (nv := 74) (s := 4) (s1 := 4) (d1 := 1) (M1 := jm_M134) (As := [.inl (.ref 1000), .inr (.inl 71)]) (rest := []) jm_ok133 rfl rfl (by decide) (by decide +kernel) (by rw [← u1_2]; exact rap_T X1 X2 F0 K1 h1b (by omega) _) (fun G2 H2 hR2 p2 r2 => ?_)
    have h2a := fR_eq hR2 p2
    have w2_3 : sy_i G2 72 = sy_i F0 72 := (show sy_i G2 72 = sy_i K1 72 by unfold sy_i; rw [r2 72 (by decide) (by decide)]).trans u1_3
    have w2_4 : sy_i G2 73 = sy_i F0 73 := (show sy_i G2 73 = sy_i K1 73 by unfold sy_i; rw [r2 73 (by decide) (by decide)]).trans u1_4
    refine rfd_30 (by decide) G2 X1 X2 h2a.1 ?_
    intro K2 kb2 kg2 z2_e1 z2_e10 z2_e21 z2_a23 z2_a67 y2_0 y2_1 y2_2 y2_3 y2_4
    have h2b := fR_eq h2a (fun j hj => kg2 j hj (by simp))
    have u2_3 : sy_i K2 72 = sy_i F0 72 := (Int32.toInt_inj.mp y2_3).trans w2_3
    have u2_4 : sy_i K2 73 = sy_i F0 73 := (Int32.toInt_inj.mp y2_4).trans w2_4
    refine hd_calV (R := fun F' => fR F0 F' (t + 4 + 4 + 4 + 4) (apB (apB (apB (apB (ub (sy_ai F0 23) t) (t) (sy_i F0 69)) (t + 4) (sy_i F0 70)) (t + 4 + 4) (sy_i F0 71)) (t + 4 + 4 + 4) (sy_i F0 72))) (nh := 69) (nv := 74) (s := 4) (s1 := 4) (d1 := 1) (M1 := jm_M134) (As := [.inl (.ref 1000), .inr (.inl 72)]) (rest := []) jm_ok133 rfl rfl (by decide) (by decide +kernel) (by rw [← u2_3]; exact rap_T X1 X2 F0 K2 h2b (by omega) _) (fun G3 H3 hR3 p3 r3 => ?_)
    have h3a := fR_eq hR3 p3
    have w3_4 : sy_i G3 73 = sy_i F0 73 := (show sy_i G3 73 = sy_i K2 73 by unfold sy_i; rw [r3 73 (by decide) (by decide)]).trans u2_4
    refine rfd_36 (by decide) G3 X1 X2 h3a.1 ?_
    intro K3 kb3 kg3 z3_e1 z3_e10 z3_e21 z3_a23 z3_a67 y3_0 y3_1 y3_2 y3_3 y3_4
    have h3b := fR_eq h3a (fun j hj => kg3 j hj (by simp))
    have u3_4 : sy_i K3 73 = sy_i F0 73 := (Int32.toInt_inj.mp y3_4).trans w3_4
    refine hd_calV (R := fun F' => fR F0 F' (t + 4 + 4 + 4 + 4 + 4) (apB (apB (apB (apB (apB (ub (sy_ai F0 23) t) (t) (sy_i F0 69)) (t + 4) (sy_i F0 70)) (t + 4 + 4) (sy_i F0 71)) (t + 4 + 4 + 4) (sy_i F0 72)) (t + 4 + 4 + 4 + 4) (sy_i F0 73))) (nh := 69) (nv := 74) (s := 4) (s1 := 4) (d1 := 1) (M1 := jm_M134) (As := [.inl (.ref 1000), .inr (.inl 73)]) (rest := []) jm_ok133 rfl rfl (by decide) (by decide +kernel) (by rw [← u3_4]; exact rap_T X1 X2 F0 K3 h3b (by omega) _) (fun G4 H4 hR4 p4 r4 => ?_)
    have h4a := fR_eq hR4 p4
    refine rfd_42 (by decide) G4 X1 X2 h4a.1 ?_
    intro F9 kb kg z_e1 z_e10 z_e21 z_a23 z_a67
    have h6 := h4a
    have q5 := fR_eq h4a (fun j hj => kg j hj (by simp))
    have w5 := q5.2.2.1
    have w6 := h6.2.2.1
    refine ⟨_, F9, rfl, rfl, fun h => absurd h hn, fun _ => ⟨by omega, ⟨q5.1, fun j hj hn => (q5.2.1 j hj hn).trans (k0 j hj)⟩, by omega, ?_⟩⟩
    have hA := q5.2.2.2
    rw [i69, i70, i71, i72, i73, nz_fa (k0 23 (by decide))] at hA
    have ht2 : (sy_i F 1).toInt.toNat = t := by omega
    rw [ht2, show ((sy_i F 1).toInt + 20).toNat = t + 4 + 4 + 4 + 4 + 4 by omega]
    exact hA
  · intro q F1 hb g e1 e10 e21 a23 a67
    have hn : 2000 < (sy_i F 1).toInt + 20 := by omega
    exact ⟨_, F1, rfl, rfl, fun _ => ⟨rfl, qq_src (qq_mk hb g (by decide)) k0⟩, fun h => absurd hn h⟩
end RB
