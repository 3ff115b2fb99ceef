/-! ===== what a text is put as looks at no token behind the first that ends it ===== -/
section CZ
variable {K K' V V' : Nat → Int} {N N' : Nat → Int64} {L : Nat}
abbrev cgP {A : Type} (L : Nat) (p : Nat × A) : Prop := p.1 ≤ L
theorem cg_cM (H : cH K K' V V' N N' L) : ∀ (n t : Nat) (W : List Int) (m : Nat) (O : List rO), t ≤ L → cg L (cgP L) (cM K V n t W m O) (cM K' V' n t W m O)
  | 0, t, W, m, O, h => cg_r h
  | n + 1, t, W, m, O, h => by
    have hV := H.2.2.1 t h
    unfold cM
    rw [← H.1 t h]
    by_cases hm : m = 0
    · rw [if_pos hm, if_pos hm]
      by_cases h6 : K t = 6
      · rw [if_pos h6, if_pos h6]
        by_cases ho : opn W = 6
        · rw [if_pos ho, if_pos ho]; exact cg_l h
        · rw [if_neg ho, if_neg ho]
          by_cases h4 : t = 400
          · rw [if_pos h4, if_pos h4]; exact cg_l h
          · rw [if_neg h4, if_neg h4]; exact cg_cM H n _ _ _ _ (cg_n H h (by omega) (by omega) h4)
      · rw [if_neg h6, if_neg h6]
        by_cases h2 : K t = 2
        · rw [if_pos h2, if_pos h2, hV h2]
          by_cases h4 : t = 400
          · rw [if_pos h4, if_pos h4]; exact cg_l h
          · rw [if_neg h4, if_neg h4]; exact cg_cM H n _ _ _ _ (cg_n H h (by omega) (by omega) h4)
        · rw [if_neg h2, if_neg h2]
          by_cases h3 : 34 ≤ K t ∧ K t ≤ 42
          · rw [if_pos h3, if_pos h3]
            by_cases h4 : t = 400
            · rw [if_pos h4, if_pos h4]; exact cg_l h
            · rw [if_neg h4, if_neg h4]; exact cg_cM H n _ _ _ _ (cg_n H h (by omega) (by omega) h4)
          · rw [if_neg h3, if_neg h3]; exact cg_l h
    · rw [if_neg hm, if_neg hm]
      by_cases h7 : K t = 7 ∧ 0 < opn W
      · rw [if_pos h7, if_pos h7]
        by_cases h4 : t = 400
        · rw [if_pos h4, if_pos h4]; exact cg_l h
        · rw [if_neg h4, if_neg h4]; exact cg_cM H n _ _ _ _ (cg_n H h (by omega) (by omega) h4)
      · rw [if_neg h7, if_neg h7]
        by_cases hb : K t = 8 ∨ K t = 9 ∨ K t = 10 ∨ K t = 15
        · rw [if_pos hb, if_pos hb]
          by_cases h4 : t = 400
          · rw [if_pos h4, if_pos h4]; exact cg_l h
          · rw [if_neg h4, if_neg h4]; exact cg_cM H n _ _ _ _ (cg_n H h (by omega) (by omega) h4)
        · rw [if_neg hb, if_neg hb]
          by_cases ho : 0 < opn W
          · rw [if_pos ho]; exact cg_l h
          · rw [if_neg ho]; exact cg_r h
theorem cg_cX (H : cH K K' V V' N N' L) {t : Nat} (h : t ≤ L) : cg L (cgP L) (cX K V t [] 0 []) (cX K' V' t [] 0 []) := cg_cM H _ _ _ _ _ h
theorem cg_zL (H : cH K K' V V' N N' L) {acc : List bRT} {t : Nat} (h : t ≤ L) : cg L (cgP L) (zLast K V acc t) (zLast K' V' acc t) := cg_B (cg_cX H h) (fun p hp => cg_B (cg_M H hp (by decide) (by decide)) (fun t ht => cg_r ht))
theorem cg_zI (H : cH K K' V V' N N' L) : ∀ (n : Nat) (acc : List bRT) (t : Nat), t ≤ L → cg L (cgP L) (zI K V n acc t) (zI K' V' n acc t)
  | 0, acc, t, h => by
    unfold zI
    rw [← H.1 t h]
    by_cases q : K t = 31
    · rw [if_pos q, if_pos q]; exact cg_l h
    · rw [if_neg q, if_neg q]; exact cg_zL H h
  | n + 1, acc, t, h => by
    unfold zI
    rw [← H.1 t h]
    by_cases q : K t = 31
    · rw [if_pos q, if_pos q]
      exact cg_B (cg_G H h (by omega) (by omega)) (fun t ht => cg_B (cg_cX H ht) (fun p hp => cg_B (cg_M H hp (by decide) (by decide)) (fun t ht => cg_B (cg_cX H ht) (fun p2 hp2 => cg_B (cg_M H hp2 (by decide) (by decide)) (fun t ht => cg_B (cg_cX H ht) (fun p3 hp3 => cg_B (cg_M H hp3 (by decide) (by decide)) (fun t ht => cg_zI H n _ t ht)))))))
    · rw [if_neg q, if_neg q]; exact cg_zL H h
theorem cg_zLw (H : cH K K' V V' N N' L) {t : Nat} (h : t ≤ L) : zLw K V t = zLw K' V' t := (cg_B (cg_M H h (by decide) (by decide)) (fun t ht => cg_zI H 4 [] t ht)).1
theorem sG_r4 {t t' : Nat} (h : sG t = .inr t') : t ≠ 400 := fun q => by
  unfold sG at h
  rw [if_pos q] at h
  cases h
theorem sM_rk {K : Nat → Int} {k : Int} {t t' : Nat} (h : sM K k t = .inr t') : K t = k ∧ t ≠ 400 := by
  unfold sM at h
  by_cases q : K t = k
  · rw [if_pos q] at h
    exact ⟨q, sG_r4 h⟩
  · rw [if_neg q] at h
    cases h
theorem sB_inr {A B : Type} {r : sE ⊕ A} {f : A → sE ⊕ B} {b : B} (h : sB r f = .inr b) : ∃ a, r = .inr a ∧ f a = .inr b := by
  cases r with
  | inl e => cases h
  | inr a => exact ⟨a, rfl, h⟩
theorem sN_rk {lo hi : Int} {q q' : Nat × sE} (h : sN K V lo hi q = .inr q') : K q.1 = 2 ∧ q.1 ≠ 400 ∧ q'.1 = q.1 + 1 := by
  obtain ⟨t, h1, h2⟩ := sB_inr h
  have h3 := sM_rk h1
  exact ⟨h3.1, h3.2, by rw [← Sum.inr.inj h2]; exact sM_r h1⟩
theorem sTell_rk {a b c : Int × Int} {t : Nat} {nm : List Int64} {w : sE} {q' : Nat × sE} (h : sTell K V N a b c (t, nm, w) = .inr q') : K t = 1 ∧ t ≠ 400 ∧ K (t + 1) = 2 ∧ t + 1 ≠ 400 ∧ K (t + 2) = 2 ∧ t + 2 ≠ 400 ∧ K (t + 3) = 2 := by
  obtain ⟨q1, h1, h⟩ := sB_inr h
  obtain ⟨q2, h2, h⟩ := sB_inr h
  obtain ⟨q3, h3, h⟩ := sB_inr h
  obtain ⟨q4, h4, h⟩ := sB_inr h
  have e1 := sNm_rc h1
  obtain ⟨t1, k1, -⟩ := sB_inr h1
  have k1 := sM_rk k1
  have k2 := sN_rk h2
  have k3 := sN_rk h3
  have k4 := sN_rk h4
  rw [k2.2.2, e1] at k3
  rw [k3.2.2] at k4
  rw [e1] at k2
  exact ⟨k1.1, k1.2, k2.1, k2.2.1, k3.1, k3.2.1, k4.1⟩
/-- what one piece puts is the same, if it is one -/
theorem cg_tU (H : cH K K' V V' N N' L) {x x' : sT} {T : tX} (h : cgX L x) (h0 : K x.1 ≠ 0) (hr : sOne K V N x = .inr x') : tU K V x.1 T = tU K' V' x.1 T := by
  have e := H.1 x.1 h.1
  have hV := H.2.2.1
  unfold tU
  rw [← e]
  unfold sOne at hr
  by_cases q0 : K x.1 = 20
  · rw [if_pos q0] at hr
    rw [if_pos q0, if_pos q0]
    unfold sFruit at hr
    by_cases q7 : x.2.1 = 7
    · rw [if_pos q7] at hr
      cases hr
    rw [if_neg q7] at hr
    obtain ⟨t, h1, hr⟩ := sB_inr hr
    obtain ⟨q, h2, -⟩ := sB_inr hr
    have e1 := sG_r h1
    subst e1
    obtain ⟨k1, n1, k2, n2, k3, n3, k4⟩ := sTell_rk h2
    have l1 := cg_n H h.1 (by omega) (by omega) (sG_r4 h1)
    have l2 := cg_n H l1 (by omega) (by omega) n1
    have l3 : x.1 + 1 + 2 ≤ L := cg_n (t := x.1 + 1 + 1) H l2 (by rw [k2]; decide) (by rw [k2]; decide) n2
    have l4 : x.1 + 1 + 3 ≤ L := cg_n (t := x.1 + 1 + 2) H l3 (by rw [k3]; decide) (by rw [k3]; decide) n3
    rw [hV _ l2 k2, hV _ l3 k3, hV _ l4 k4]
  · rw [if_neg q0] at hr
    rw [if_neg q0, if_neg q0]
    by_cases q1 : K x.1 = 21
    · rw [if_pos q1] at hr
      rw [if_pos q1, if_pos q1]
      unfold sBuyer at hr
      by_cases q7 : x.2.2.1 = 4
      · rw [if_pos q7] at hr
        cases hr
      rw [if_neg q7] at hr
      obtain ⟨t, h1, hr⟩ := sB_inr hr
      obtain ⟨q, h2, -⟩ := sB_inr hr
      have e1 := sG_r h1
      subst e1
      obtain ⟨k1, n1, k2, n2, k3, n3, k4⟩ := sTell_rk h2
      have l1 := cg_n H h.1 (by omega) (by omega) (sG_r4 h1)
      have l2 := cg_n H l1 (by omega) (by omega) n1
      have l3 : x.1 + 1 + 2 ≤ L := cg_n (t := x.1 + 1 + 1) H l2 (by rw [k2]; decide) (by rw [k2]; decide) n2
      have l4 : x.1 + 1 + 3 ≤ L := cg_n (t := x.1 + 1 + 2) H l3 (by rw [k3]; decide) (by rw [k3]; decide) n3
      rw [hV _ l2 k2, hV _ l3 k3, hV _ l4 k4]
    · rw [if_neg q1] at hr
      rw [if_neg q1, if_neg q1]
      have key : ∀ hi, sSet K V hi x = .inr x' → (28 ≤ K x.1 ∧ K x.1 ≤ 30) → V (x.1 + 1) = V' (x.1 + 1) := fun hi hr hk => by
        obtain ⟨q, h1, -⟩ := sB_inr hr
        obtain ⟨t, h2, h3⟩ := sB_inr h1
        obtain ⟨q2, h4, -⟩ := sB_inr h3
        have e1 := sG_r h2
        subst e1
        have k2 := sN_rk h4
        exact hV _ (cg_n H h.1 (by omega) (by omega) (sG_r4 h2)) k2.1
      by_cases q2 : K x.1 = 28
      · rw [if_pos (Or.inl q2)] at hr
        rw [if_pos q2, if_pos q2, key _ hr (by omega)]
      · rw [if_neg q2, if_neg q2]
        by_cases q3 : K x.1 = 29
        · rw [if_pos (Or.inr q3)] at hr
          rw [if_pos q3, if_pos q3, key _ hr (by omega)]
        · rw [if_neg (by omega)] at hr
          rw [if_neg q3, if_neg q3]
          by_cases q4 : K x.1 = 30
          · rw [if_pos q4] at hr
            rw [if_pos q4, if_pos q4, key _ hr (by omega)]
          · rw [if_neg q4] at hr
            rw [if_neg q4, if_neg q4]
            by_cases q5 : 22 ≤ K x.1 ∧ K x.1 ≤ 27
            · rw [if_pos q5] at hr
              obtain ⟨t, h1, -⟩ := sB_inr hr
              have e1 := sG_r h1
              subst e1
              rw [cg_zLw H (cg_n H h.1 (by omega) (by omega) (sG_r4 h1))]
            · rw [if_neg q5] at hr
              cases hr
theorem cg_zRun (H : cH K K' V V' N N' L) : ∀ (n : Nat) (x : sT) (T : tX), cgX L x → zRun K V N n x T = zRun K' V' N' n x T
  | 0, x, T, h => rfl
  | n + 1, x, T, h => by
    unfold zRun
    rw [← H.1 _ h.1]
    by_cases q : K x.1 = 0
    · rw [if_pos q, if_pos q]
    · rw [if_neg q, if_neg q]
      have ho := cg_One H h
      have h1 := ho.1
      have h2 := ho.2
      cases hr : sOne K V N x with
      | inl e =>
        rw [hr] at h1
        rw [← h1]
        rfl
      | inr y =>
        rw [hr] at h1 h2
        rw [← h1]
        show zRun K V N n y _ = zRun K' V' N' n y _
        rw [cg_tU H h q hr]
        exact cg_zRun H n y _ h2
end CZ
/-- what a text is put as -/
noncomputable def rdT (b : Nat → Int) (n : Nat) : tX := cnT (zRun (cK b n (fun k => wls.getD k 0)) (cV b n) (cN b n) 401 (0, 0, 0, [], (0, 0)) T0)
theorem rd_sameT {b : Nat → Int} {n : Nat} {w : Nat → Int64} {K P V : Nat → Int} {N : Nat → Int64} {L : Nat} (hw : w = fun k => wls.getD k 0) (h : ∀ j, j ≤ L → tk b n w K P V N j) (hL : K L = 0 ∨ K L = 3 ∨ L = 400) : cnT (zRun K V N 401 (0, 0, 0, [], (0, 0)) T0) = rdT b n := by
  subst hw
  unfold rdT
  rw [cg_zRun (L := L) ⟨fun j hj => (h j hj).2.1, hL, fun j hj z => (h j hj).2.2.1 z, fun j hj z => (h j hj).2.2.2 z⟩ 401 (0, 0, 0, [], (0, 0)) T0 ⟨Nat.zero_le _, Nat.zero_le _⟩]
  rfl
