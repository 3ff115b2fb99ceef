/-! ===== the class: what is so, who catches, who buys (shape 0, n) ===== -/
section G0n
variable {Ls : Nat} {xs : Nat → Int32} {T : tX} {g : gS} (F : Nat → sy_d) (X1 X2 : List jm_c)
theorem j0nbi_L (hC : xC 3 T F) (hG : gC 50 (nfS T) (nbS T) F g) (w : Int32) : ∀ (m : Nat) (F1 : Nat → sy_d) (n : Nat), n + m = nfS T → qC [] F F1 → sy_i F1 82 = w → (sy_i F1 83).toInt = nfS T → (sy_i F1 85).toInt = n → sy_i F1 84 = mkS g w.toInt n →
    hd_W Ls xs 1 jm_M11 (pI 0 X1 X2 (fun x F' => qC [] F F' ∧ x = mkS g w.toInt (nfS T))) (5, sy_dL F1 [some (.inl (.ref 46)), some (.inr (.inl 82)), some (.inr (.inl 83)), some (.inr (.inl 84)), some (.inr (.inl 85))], sy_dS F1 [], sy_dh F1 X1 X2 (iv_H 0), 0, 0) := by
  have l7 : nfS T ≤ 7 := hC.2.2.1.1.1
  intro m
  induction m with
  | zero =>
    intro F1 n hm hq i82 e83 e85 i84
    refine j0nbi_5 (by decide) F1 X1 X2 hq.1 (by omega) (by omega) ?_ ?_ ?_
    · intro c0 F2 hb gg
      refine ⟨_, F2, rfl, rfl, qq_on hq hb gg (by decide), ?_⟩
      rw [i84, show n = nfS T by omega]
    · intros
      omega
    · intros
      omega
  | succ m ih =>
    intro F1 n hm hq i82 e83 e85 i84
    have eh : (sy_ai F1 54).getD (sy_i F1 85).toInt.toNat 0 = g 2 n := by
      rw [qq_a hq (by decide) (by decide), show (sy_i F1 85).toInt.toNat = n by omega]
      exact hG.1 2 n (by decide) (vF (by decide) (by omega))
    refine j0nbi_5 (by decide) F1 X1 X2 hq.1 (by omega) (by omega) ?_ ?_ ?_
    · intros
      omega
    · intro c0 c1 c2 F2 hb gg e82' i82' e83' i83' e84' i84' e85' i85'
      rw [eh, i82] at c2
      refine ih F2 (n + 1) (by omega) (qq_on hq hb gg (by decide)) (i82'.trans i82) (by omega) (by omega) ?_
      rw [i84', i84]
      exact (if_neg c2).symm
    · intro c0 c1 c2 F2 hb gg e82' i82' e83' i83' e84' i84' e85' i85'
      rw [eh, i82] at c2
      refine ih F2 (n + 1) (by omega) (qq_on hq hb gg (by decide)) (i82'.trans i82) (by omega) (by omega) ?_
      rw [i84', i84, ← ofi e85]
      exact (if_pos c2).symm
theorem j0nbi_V (hC : xC 3 T F) (hG : gC 50 (nfS T) (nbS T) F g) (w n : Int32) (hn : n.toInt = nfS T) : jm_T Ls xs 1 jm_M11 [.ref 46, .int w, .int n] (sy_dh F X1 X2 (iv_H 0)) 0 0 (pI 0 X1 X2 (fun x F' => qC [] F F' ∧ x = mkS g w.toInt (nfS T))) := by
  refine C_T (by decide) [w, n] [.inl (.ref 46), .inr (.inl 82), .inr (.inl 83)] jm_ok11 (by decide) rfl (fun F0 k0 ki => ?_)
  have i82 : sy_i F0 82 = w := ki 0
  have i83 : sy_i F0 83 = n := ki 1
  refine j0nbi_0 (by decide) F0 X1 X2 (hd_iveq0 hC.1 k0) ?_
  intro F1 hb gg e82 j82 e83 j83 e84 j84 e85 j85
  exact j0nbi_L F X1 X2 hC hG w (nfS T) F1 0 (by omega) (qq_src (qq_mk hb gg (by decide)) k0) (j82.trans i82) (by rw [e83, i83]; exact hn) e85 j84
theorem j0nhm_V (hC : xC 3 T F) (hG : gC 50 (nfS T) (nbS T) F g) (w n : Int32) (hn : n.toInt = nfS T) : jm_T Ls xs 2 jm_M12 [.ref 46, .int w, .int n] (sy_dh F X1 X2 (iv_H 0)) 0 0 (pI 0 X1 X2 (fun x F' => qC [] F F' ∧ x = ppS (mkS g w.toInt (nfS T)))) := by
  refine C_T (by decide) [w, n] [.inl (.ref 46), .inr (.inl 82), .inr (.inl 83)] jm_ok12 (by decide) rfl (fun F0 k0 ki => ?_)
  have i82 : sy_i F0 82 = w := ki 0
  have i83 : sy_i F0 83 = n := ki 1
  refine j0nhm_0 (by decide) F0 X1 X2 (hd_iveq0 hC.1 k0) ?_
  intro F1 hb gg e82 j82 e83 j83
  have q1 : qC [] F F1 := qq_src (qq_mk hb gg (by decide)) k0
  refine hd_calI (R := fun x F' => qC [] F1 F' ∧ x = mkS g (sy_i F1 82).toInt (nfS T)) (nh := 82) (nv := 82) (s := 0) (s1 := 0) (d1 := 1) (M1 := jm_M11) (As := [.inl (.ref 46), .inr (.inl 82), .inr (.inl 83)]) (rest := []) jm_ok12 rfl rfl (by decide) (by decide +kernel) (j0nbi_V F1 X1 X2 (xC_q (by decide) hC q1 (by decide)) (gC_eq hG (fun j h1 h2 => q1.2 j (by omega) (by simp))) _ _ (by rw [j83, i83]; exact hn)) (fun F3 F' x hR p1 p2 p3 => ?_)
  obtain ⟨r1, r2⟩ := hR
  rw [j82, i82] at r2
  have q3 : qC [] F F3 := qq_trans q1 (qC_dst r1 p1)
  refine j0nhm_6 (by decide) F3 X1 X2 q3.1 ?_
  intro F4 hb4 g4
  refine ⟨_, F4, rfl, rfl, qq_on q3 hb4 g4 (by decide), ?_⟩
  have i82' : sy_i F3 82 = x := zz_i p3
  rw [i82', r2]
  exact bc_mk hC.2.2.1 g w.toInt
theorem j0nnr_L (hC : xC 3 T F) (hG : gC 50 (nfS T) (nbS T) F g) (hO : okS T g) {x c : Int} (hx : 0 ≤ x ∧ x ≤ 9) : ∀ (m : Nat) (F1 : Nat → sy_d) (n : Nat), n + m = nbS T → qC [] F F1 → (sy_i F1 82).toInt = x → (sy_i F1 83).toInt = c → (sy_i F1 86).toInt = n → (sy_i F1 84).toInt = (nrS T g x c n).1 → (sy_i F1 85).toInt = (nrS T g x c n).2 →
    hd_W Ls xs 2 jm_M13 (pI 0 X1 X2 (fun y F' => qC [] F F' ∧ y.toInt = (nrS T g x c (nbS T)).1)) (10, sy_dL F1 [some (.inl (.ref 46)), some (.inl (.ref 10)), some (.inr (.inl 82)), some (.inr (.inl 83)), some (.inr (.inl 84)), some (.inr (.inl 85)), some (.inr (.inl 86)), none], sy_dS F1 [], sy_dh F1 X1 X2 (iv_H 0), 0, 0) := by
  have l4 : nbS T ≤ 4 := hC.2.2.1.1.2.1
  have en : (sy_i F 4).toInt = (nbS T : Int) := hC.2.1.2.1.1
  intro m
  induction m with
  | zero =>
    intro F1 n hm hq e82 e83 e86 e84 e85
    have en1 : (sy_i F1 4).toInt = (nbS T : Int) := by rw [qq_i hq (by decide) (by decide)]; exact en
    refine j0nnr_10 (by decide) F1 X1 X2 hq.1 (by omega) ?_ ?_ ?_ ?_ ?_ ?_ ?_ ?_ ?_
    · intro c0 F2 hb gg
      refine ⟨_, F2, rfl, rfl, qq_on hq hb gg (by decide), ?_⟩
      rw [e84, show n = nbS T by omega]
    iterate 8
      intros
      omega
  | succ m ih =>
    intro F1 n hm hq e82 e83 e86 e84 e85
    have en1 : (sy_i F1 4).toInt = (nbS T : Int) := by rw [qq_i hq (by decide) (by decide)]; exact en
    have enn : (sy_i F1 86).toInt.toNat = n := by omega
    have r60 : (sy_ai F1 60).getD (sy_i F1 86).toInt.toNat 0 = g 7 n := by
      rw [qq_a hq (by decide) (by decide), enn]
      exact hG.1 7 n (by decide) (vB (Or.inl rfl) (by omega))
    have r61 : (sy_ai F1 61).getD (sy_i F1 86).toInt.toNat 0 = g 8 n := by
      rw [qq_a hq (by decide) (by decide), enn]
      exact hG.1 8 n (by decide) (vB (Or.inr rfl) (by omega))
    have rea : ((sy_ai F1 14).getD (sy_i F1 86).toInt.toNat 0).toInt = (tB T n).2.1 := by
      rw [qq_a hq (by decide) (by decide), enn]
      exact (xX_b hC (show n < nbS T by omega)).2.1
    have hst := hO.1 n (by omega)
    have d1 : (g 7 n - sy_i F1 82).toInt = (g 7 n).toInt - x := by rw [nz_sub rfl e82 (by omega) (by omega)]
    have d2 : (0 - (g 7 n - sy_i F1 82)).toInt = x - (g 7 n).toInt := by
      rw [nz_sub (by decide : (0 : Int32).toInt = 0) d1 (by omega) (by omega)]
      omega
    have hstep : (nrS T g x c (n + 1)) = if (((g 7 n).toInt - x).natAbs : Int) ≤ (tB T n).2.1 ∧ (((g 7 n).toInt - x).natAbs : Int) < (nrS T g x c n).2 ∧ c ≤ (g 8 n).toInt then ((n : Int), (((g 7 n).toInt - x).natAbs : Int)) else nrS T g x c n := rfl
    have b86 : 0 ≤ (sy_i F1 86).toInt ∧ (sy_i F1 86).toInt ≤ 4 := by omega
    have yes : ∀ F2 : Nat → sy_d, iv_in F2 iv_B0 → (∀ j, j < 82 → j ∉ ([] : List Nat) → F2 j = F1 j) → (sy_i F2 82).toInt = (sy_i F1 82).toInt → (sy_i F2 83).toInt = (sy_i F1 83).toInt → (sy_i F2 84).toInt = (sy_i F1 86).toInt → (sy_i F2 85).toInt = (((g 7 n).toInt - x).natAbs : Int) → (sy_i F2 86).toInt = (sy_i F1 86).toInt + 1 → ((((g 7 n).toInt - x).natAbs : Int) ≤ (tB T n).2.1 ∧ (((g 7 n).toInt - x).natAbs : Int) < (nrS T g x c n).2 ∧ c ≤ (g 8 n).toInt) → hd_W Ls xs 2 jm_M13 (pI 0 X1 X2 (fun y F' => qC [] F F' ∧ y.toInt = (nrS T g x c (nbS T)).1)) (10, sy_dL F2 [some (.inl (.ref 46)), some (.inl (.ref 10)), some (.inr (.inl 82)), some (.inr (.inl 83)), some (.inr (.inl 84)), some (.inr (.inl 85)), some (.inr (.inl 86)), none], sy_dS F2 [], sy_dh F2 X1 X2 (iv_H 0), 0, 0) := fun F2 hb gg f82 f83 f84 f85 f86 h => ih F2 (n + 1) (by omega) (qq_on hq hb gg (by decide)) (by omega) (by omega) (by omega) (by rw [hstep, if_pos h]; show _ = (n : Int); omega) (by rw [hstep, if_pos h]; exact f85)
    have no : ∀ F2 : Nat → sy_d, iv_in F2 iv_B0 → (∀ j, j < 82 → j ∉ ([] : List Nat) → F2 j = F1 j) → (sy_i F2 82).toInt = (sy_i F1 82).toInt → (sy_i F2 83).toInt = (sy_i F1 83).toInt → (sy_i F2 84).toInt = (sy_i F1 84).toInt → (sy_i F2 85).toInt = (sy_i F1 85).toInt → (sy_i F2 86).toInt = (sy_i F1 86).toInt + 1 → ¬ ((((g 7 n).toInt - x).natAbs : Int) ≤ (tB T n).2.1 ∧ (((g 7 n).toInt - x).natAbs : Int) < (nrS T g x c n).2 ∧ c ≤ (g 8 n).toInt) → hd_W Ls xs 2 jm_M13 (pI 0 X1 X2 (fun y F' => qC [] F F' ∧ y.toInt = (nrS T g x c (nbS T)).1)) (10, sy_dL F2 [some (.inl (.ref 46)), some (.inl (.ref 10)), some (.inr (.inl 82)), some (.inr (.inl 83)), some (.inr (.inl 84)), some (.inr (.inl 85)), some (.inr (.inl 86)), none], sy_dS F2 [], sy_dh F2 X1 X2 (iv_H 0), 0, 0) := fun F2 hb gg f82 f83 f84 f85 f86 h => ih F2 (n + 1) (by omega) (qq_on hq hb gg (by decide)) (by omega) (by omega) (by omega) (by rw [hstep, if_neg h]; omega) (by rw [hstep, if_neg h]; omega)
    refine j0nnr_10 (by decide) F1 X1 X2 hq.1 b86 ?_ ?_ ?_ ?_ ?_ ?_ ?_ ?_ ?_
    · intros
      omega
    · intro c0 c1 c2 F2 hb gg f82 k82 f83 k83 f84 k84 f85 k85 f86 k86
      rw [r60, d1] at c1
      rw [rea, r60, d1] at c2
      exact no F2 hb gg f82 f83 f84 f85 f86 (by omega)
    · intro c0 c1 c2 c3 F2 hb gg f82 k82 f83 k83 f84 k84 f85 k85 f86 k86
      rw [r60, d1] at c1
      rw [rea, r60, d1] at c2
      rw [r60, d1] at c3
      exact no F2 hb gg f82 f83 f84 f85 f86 (by omega)
    · intro c0 c1 c2 c3 c4 F2 hb gg f82 k82 f83 k83 f84 k84 f85 k85 f86 k86
      rw [r60, d1] at c1
      rw [rea, r60, d1] at c2
      rw [r60, d1] at c3
      rw [r61] at c4
      exact no F2 hb gg f82 f83 f84 f85 f86 (by omega)
    · intro c0 c1 c2 c3 c4 F2 hb gg f82 k82 f83 k83 f84 k84 f85 k85 f86 k86
      rw [r60, d1] at c1
      rw [rea, r60, d1] at c2
      rw [r60, d1] at c3
      rw [r61] at c4
      rw [r60, d1] at f85
      exact yes F2 hb gg f82 f83 f84 (by omega) f86 (by omega)
    · intro c0 c1 c2 F2 hb gg f82 k82 f83 k83 f84 k84 f85 k85 f86 k86
      rw [r60, d1] at c1
      rw [rea, r60, d2] at c2
      exact no F2 hb gg f82 f83 f84 f85 f86 (by omega)
    · intro c0 c1 c2 c3 F2 hb gg f82 k82 f83 k83 f84 k84 f85 k85 f86 k86
      rw [r60, d1] at c1
      rw [rea, r60, d2] at c2
      rw [r60, d2] at c3
      exact no F2 hb gg f82 f83 f84 f85 f86 (by omega)
    · intro c0 c1 c2 c3 c4 F2 hb gg f82 k82 f83 k83 f84 k84 f85 k85 f86 k86
      rw [r60, d1] at c1
      rw [rea, r60, d2] at c2
      rw [r60, d2] at c3
      rw [r61] at c4
      exact no F2 hb gg f82 f83 f84 f85 f86 (by omega)
    · intro c0 c1 c2 c3 c4 F2 hb gg f82 k82 f83 k83 f84 k84 f85 k85 f86 k86
      rw [r60, d1] at c1
      rw [rea, r60, d2] at c2
      rw [r60, d2] at c3
      rw [r61] at c4
      rw [r60, d2] at f85
      exact yes F2 hb gg f82 f83 f84 (by omega) f86 (by omega)
theorem j0nnr_V (hC : xC 3 T F) (hG : gC 50 (nfS T) (nbS T) F g) (hO : okS T g) {x c : Int32} (hx : 0 ≤ x.toInt ∧ x.toInt ≤ 9) : jm_T Ls xs 2 jm_M13 [.ref 46, .ref 10, .int x, .int c] (sy_dh F X1 X2 (iv_H 0)) 0 0 (pI 0 X1 X2 (fun y F' => qC [] F F' ∧ y.toInt = (nrS T g x.toInt c.toInt (nbS T)).1)) := by
  refine C_T (by decide) [x, c] [.inl (.ref 46), .inl (.ref 10), .inr (.inl 82), .inr (.inl 83)] jm_ok13 (by decide) rfl (fun F0 k0 ki => ?_)
  have i82 : sy_i F0 82 = x := ki 0
  have i83 : sy_i F0 83 = c := ki 1
  refine j0nnr_0 (by decide) F0 X1 X2 (hd_iveq0 hC.1 k0) ?_
  intro F1 hb gg e82 j82 e83 j83 e84 j84 e85 j85 e86 j86
  exact j0nnr_L F X1 X2 hC hG hO hx (nbS T) F1 0 (by omega) (qq_src (qq_mk hb gg (by decide)) k0) (by rw [e82, i82]) (by rw [e83, i83]) e86 e84 e85
theorem j0nfa_L (hC : xC 3 T F) (hG : gC 50 (nfS T) (nbS T) F g) {x : Int32} {c : Int} : ∀ (m : Nat) (F1 : Nat → sy_d) (n : Nat), n + m = nbS T → qC [] F F1 → sy_i F1 82 = x → (sy_i F1 83).toInt = c → (sy_i F1 84).toInt = n → fsS g x c n = -2 →
    hd_W Ls xs 1 jm_M14 (pI 0 X1 X2 (fun y F' => qC [] F F' ∧ y.toInt = fsS g x c (nbS T))) (3, sy_dL F1 [some (.inl (.ref 46)), some (.inl (.ref 10)), some (.inr (.inl 82)), some (.inr (.inl 83)), some (.inr (.inl 84))], sy_dS F1 [], sy_dh F1 X1 X2 (iv_H 0), 0, 0) := by
  have l4 : nbS T ≤ 4 := hC.2.2.1.1.2.1
  have en : (sy_i F 4).toInt = (nbS T : Int) := hC.2.1.2.1.1
  intro m
  induction m with
  | zero =>
    intro F1 n hm hq i82 e83 e84 hfs
    have en1 : (sy_i F1 4).toInt = (nbS T : Int) := by rw [qq_i hq (by decide) (by decide)]; exact en
    refine j0nfa_3 (by decide) F1 X1 X2 hq.1 (by omega) ?_ ?_ ?_ ?_
    · intro c0 F2 hb gg
      refine ⟨_, F2, rfl, rfl, qq_on hq hb gg (by decide), ?_⟩
      rw [show nbS T = n by omega, hfs]
      decide
    iterate 3
      intros
      omega
  | succ m ih =>
    intro F1 n hm hq i82 e83 e84 hfs
    have en1 : (sy_i F1 4).toInt = (nbS T : Int) := by rw [qq_i hq (by decide) (by decide)]; exact en
    have enn : (sy_i F1 84).toInt.toNat = n := by omega
    have r60 : (sy_ai F1 60).getD (sy_i F1 84).toInt.toNat 0 = g 7 n := by
      rw [qq_a hq (by decide) (by decide), enn]
      exact hG.1 7 n (by decide) (vB (Or.inl rfl) (by omega))
    have r61 : (sy_ai F1 61).getD (sy_i F1 84).toInt.toNat 0 = g 8 n := by
      rw [qq_a hq (by decide) (by decide), enn]
      exact hG.1 8 n (by decide) (vB (Or.inr rfl) (by omega))
    have hst : fsS g x c (n + 1) = if (g 7 n) = x ∧ c ≤ (g 8 n).toInt then (n : Int) else -2 := by
      show (if 0 ≤ fsS g x c n then _ else _) = _
      rw [if_neg (by omega)]
    refine j0nfa_3 (by decide) F1 X1 X2 hq.1 (by omega) ?_ ?_ ?_ ?_
    · intros
      omega
    · intro c0 c1 F2 hb gg f82 k82 f83 k83 f84 k84
      rw [r60, i82] at c1
      refine ih F2 (n + 1) (by omega) (qq_on hq hb gg (by decide)) (k82.trans i82) (by omega) (by omega) ?_
      rw [hst, if_neg (fun z => c1 (congrArg Int32.toInt z.1))]
    · intro c0 c1 c2 F2 hb gg f82 k82 f83 k83 f84 k84
      rw [r61] at c2
      refine ih F2 (n + 1) (by omega) (qq_on hq hb gg (by decide)) (k82.trans i82) (by omega) (by omega) ?_
      rw [hst, if_neg (fun z => by omega)]
    · intro c0 c1 c2 F2 hb gg
      rw [r60, i82] at c1
      rw [r61] at c2
      refine ⟨_, F2, rfl, rfl, qq_on hq hb gg (by decide), ?_⟩
      have hs1 : fsS g x c (n + 1) = n := by rw [hst, if_pos ⟨Int32.toInt_inj.mp c1, by omega⟩]
      have := fs_st (g := g) (x := x) (c := c) (n := n + 1) (by omega) m
      rw [show n + 1 + m = nbS T by omega] at this
      omega
theorem j0nfa_V (hC : xC 3 T F) (hG : gC 50 (nfS T) (nbS T) F g) (x c : Int32) : jm_T Ls xs 1 jm_M14 [.ref 46, .ref 10, .int x, .int c] (sy_dh F X1 X2 (iv_H 0)) 0 0 (pI 0 X1 X2 (fun y F' => qC [] F F' ∧ y.toInt = fsS g x c.toInt (nbS T))) := by
  refine C_T (by decide) [x, c] [.inl (.ref 46), .inl (.ref 10), .inr (.inl 82), .inr (.inl 83)] jm_ok14 (by decide) rfl (fun F0 k0 ki => ?_)
  have i82 : sy_i F0 82 = x := ki 0
  have i83 : sy_i F0 83 = c := ki 1
  refine j0nfa_0 (by decide) F0 X1 X2 (hd_iveq0 hC.1 k0) ?_
  intro F1 hb gg e82 j82 e83 j83 e84 j84
  exact j0nfa_L F X1 X2 hC hG (nbS T) F1 0 (by omega) (qq_src (qq_mk hb gg (by decide)) k0) (j82.trans i82) (by rw [e83, i83]) e84 rfl
end G0n
