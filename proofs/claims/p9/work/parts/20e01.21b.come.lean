/-! ===== the reference puts an expression: what waits and what came out, as lists ===== -/
noncomputable def wlf (w : List Int32) : Nat → List Int
  | 0 => []
  | n + 1 => (w.getD n 0).toInt :: wlf w n
noncomputable def clf (code cint : List Int32) (c : Nat) : Nat → List rO
  | 0 => []
  | n + 1 => clf code cint c n ++ [((code.getD (c + n) 0).toInt, (cint.getD (c + n) 0).toInt)]
theorem wlf_eq {w w' : List Int32} : ∀ n : Nat, (∀ i, i < n → w'.getD i 0 = w.getD i 0) → wlf w' n = wlf w n
  | 0, _ => rfl
  | n + 1, h => by
    unfold wlf
    rw [h n (by omega), wlf_eq n (fun i hi => h i (by omega))]
theorem wlf_up {w : List Int32} {n : Nat} {V : Int32} : wlf (jm_upd w n V) (n + 1) = V.toInt :: wlf w n := by
  show ((jm_upd w n V).getD n 0).toInt :: wlf (jm_upd w n V) n = _
  rw [jm_upd_at, if_pos rfl, wlf_eq (w := w) (w' := jm_upd w n V) n (fun i hi => by rw [jm_upd_at, if_neg (by omega)])]
theorem clf_eq {a b a' b' : List Int32} {c : Nat} : ∀ n : Nat, (∀ i, c ≤ i → i < c + n → a'.getD i 0 = a.getD i 0 ∧ b'.getD i 0 = b.getD i 0) → clf a' b' c n = clf a b c n
  | 0, _ => rfl
  | n + 1, h => by
    unfold clf
    rw [(h (c + n) (by omega) (by omega)).1, (h (c + n) (by omega) (by omega)).2, clf_eq n (fun i h1 h2 => h i h1 (by omega))]
theorem opn_ws {w : List Int32} : ∀ {n g o p : Nat}, ws w n g o p → opn (wlf w n) = o
  | 0, g, o, p, h => by
    have := h
    unfold ws at this
    show 0 = o
    omega
  | n + 1, g, o, p, h => by
    by_cases q : (w.getD n 0).toInt = 6
    · have h0 := ws_top6 h q
      subst h0
      obtain ⟨g', o', e, h'⟩ := ws_open h
      have := opn_ws h'
      show (if (w.getD n 0).toInt = 6 then opn (wlf w n) + 1 else opn (wlf w n)) = o
      rw [if_pos q]
      omega
    · obtain ⟨g', p', e, h', -⟩ := ws_pop h q
      have := opn_ws h'
      show (if (w.getD n 0).toInt = 6 then opn (wlf w n) + 1 else opn (wlf w n)) = o
      rw [if_neg q]
      exact this
noncomputable def wW (F : Nat → sy_d) : List Int := wlf (sy_ai F 51) (sy_i F 16).toInt.toNat
noncomputable def oO (c : Nat) (F : Nat → sy_d) : List rO := clf (sy_ai F 49) (sy_ai F 50) c ((sy_i F 15).toInt - c).toNat
theorem wW_eq {F F1 : Nat → sy_d} (h51 : sy_ai F1 51 = sy_ai F 51) (h16 : (sy_i F1 16).toInt = (sy_i F 16).toInt) : wW F1 = wW F := by unfold wW; rw [h51, h16]
theorem oO_eq {c : Nat} {F F1 : Nat → sy_d} (h49 : sy_ai F1 49 = sy_ai F 49) (h50 : sy_ai F1 50 = sy_ai F 50) (h15 : (sy_i F1 15).toInt = (sy_i F 15).toInt) : oO c F1 = oO c F := by unfold oO; rw [h49, h50, h15]
theorem oO_up {c : Nat} {F F1 : Nat → sy_d} {K V : Int32} (hc : (c : Int) ≤ (sy_i F 15).toInt) (h15 : (sy_i F1 15).toInt = (sy_i F 15).toInt + 1) (a49 : sy_ai F1 49 = jm_upd (sy_ai F 49) (sy_i F 15).toInt.toNat K) (a50 : sy_ai F1 50 = jm_upd (sy_ai F 50) (sy_i F 15).toInt.toNat V) : oO c F1 = oO c F ++ [(K.toInt, V.toInt)] := by
  unfold oO
  rw [show ((sy_i F1 15).toInt - c).toNat = ((sy_i F 15).toInt - c).toNat + 1 by omega]
  show clf _ _ c _ ++ [_] = _
  rw [a49, a50, jm_upd_at, jm_upd_at, if_pos (by omega), if_pos (by omega), clf_eq (a := sy_ai F 49) (b := sy_ai F 50) _ (fun i h1 h2 => by rw [jm_upd_at, jm_upd_at, if_neg (by omega), if_neg (by omega)]; exact ⟨rfl, rfl⟩)]
noncomputable def cz_R (b : Int) (F F' : Nat → sy_d) : Prop := co_R b F F' ∧ wW F' = (coS (decide (b ≠ 0)) (wW F)).1 ∧ ∀ c : Nat, (c : Int) ≤ (sy_i F 15).toInt → oO c F' = oO c F ++ (coS (decide (b ≠ 0)) (wW F)).2
theorem cz_Rdst {b : Int} {F F' F2 : Nat → sy_d} (h : cz_R b F F') (e : ∀ q, q < 69 → F2 q = F' q) : cz_R b F F2 := by
  obtain ⟨h1, h2, h3⟩ := h
  refine ⟨co_Rdst h1 e, (wW_eq (nz_fa (e 51 (by decide))) (nz_fi (e 16 (by decide)))).trans h2, fun c hc => ?_⟩
  rw [oO_eq (nz_fa (e 49 (by decide))) (nz_fa (e 50 (by decide))) (nz_fi (e 15 (by decide)))]
  exact h3 c hc
theorem cz_Rsrc {b : Int} {F F' F0 : Nat → sy_d} (h : cz_R b F0 F') (e : ∀ q, q < 69 → F0 q = F q) : cz_R b F F' := by
  obtain ⟨h1, h2, h3⟩ := h
  have i15 := nz_fi (e 15 (by decide))
  have eW : wW F0 = wW F := wW_eq (nz_fa (e 51 (by decide))) (nz_fi (e 16 (by decide)))
  rw [eW] at h2
  refine ⟨co_Rsrc h1 e, h2, fun c hc => ?_⟩
  have := h3 c (by omega)
  rw [eW, oO_eq (F := F) (nz_fa (e 49 (by decide))) (nz_fa (e 50 (by decide))) i15] at this
  exact this
theorem cz_end {b : Int} {F F1 : Nat → sy_d} (h : co_R b F F1) (h15 : (sy_i F1 15).toInt = (sy_i F 15).toInt) (h16 : (sy_i F1 16).toInt = (sy_i F 16).toInt) (a49 : sy_ai F1 49 = sy_ai F 49) (a50 : sy_ai F1 50 = sy_ai F 50) (a51 : sy_ai F1 51 = sy_ai F 51) (hs : coS (decide (b ≠ 0)) (wW F) = (wW F, [])) : cz_R b F F1 := by
  refine ⟨h, by rw [hs]; exact wW_eq a51 h16, fun c hc => ?_⟩
  rw [hs, List.append_nil]
  exact oO_eq a49 a50 h15
theorem wW_s {F : Nat → sy_d} (h : 0 < (sy_i F 16).toInt) : wW F = ((sy_ai F 51).getD ((sy_i F 16).toInt - 1).toNat 0).toInt :: wlf (sy_ai F 51) ((sy_i F 16).toInt - 1).toNat := by
  unfold wW
  rw [show (sy_i F 16).toInt.toNat = ((sy_i F 16).toInt - 1).toNat + 1 by omega]
  rfl
theorem cz_step {b : Int} {F F1 F' : Nat → sy_d} {K : Int32} (hR : co_R b F F') (hp : 0 < (sy_i F 16).toInt) (h15 : (sy_i F1 15).toInt = (sy_i F 15).toInt + 1) (h16 : (sy_i F1 16).toInt = (sy_i F 16).toInt - 1) (a49 : sy_ai F1 49 = jm_upd (sy_ai F 49) (sy_i F 15).toInt.toNat K) (a50 : sy_ai F1 50 = jm_upd (sy_ai F 50) (sy_i F 15).toInt.toNat 0) (a51 : sy_ai F1 51 = sy_ai F 51) (hK : K.toInt = opc ((sy_ai F 51).getD ((sy_i F 16).toInt - 1).toNat 0).toInt) (hn : ¬ (((sy_ai F 51).getD ((sy_i F 16).toInt - 1).toNat 0).toInt = 6 ∨ (decide (b ≠ 0) = true ∧ (((sy_ai F 51).getD ((sy_i F 16).toInt - 1).toNat 0).toInt = 8 ∨ ((sy_ai F 51).getD ((sy_i F 16).toInt - 1).toNat 0).toInt = 9)))) (h : cz_R b F1 F') : cz_R b F F' := by
  obtain ⟨-, h2, h3⟩ := h
  have eW : wW F1 = wlf (sy_ai F 51) ((sy_i F 16).toInt - 1).toNat := by unfold wW; rw [a51, h16]
  have eS : coS (decide (b ≠ 0)) (wW F) = ((coS (decide (b ≠ 0)) (wW F1)).1, (K.toInt, 0) :: (coS (decide (b ≠ 0)) (wW F1)).2) := by
    rw [wW_s hp, eW, hK]
    show (if _ then _ else _) = _
    rw [if_neg hn]
  refine ⟨hR, by rw [eS]; exact h2, fun c hc => ?_⟩
  rw [h3 c (by omega), oO_up hc h15 a49 a50, eS, List.append_assoc]
  rfl
theorem opc_5 {w : Int} (h8 : w ≠ 8) (h9 : w ≠ 9) (h10 : w ≠ 10) : ((5 : Int32)).toInt = opc w := by unfold opc; rw [if_neg h8, if_neg h9, if_neg h10]; decide
theorem opc_4 {w : Int} (h : w = 10) : ((4 : Int32)).toInt = opc w := by rw [h]; decide
theorem opc_3 {w : Int} (h : w = 9) : ((3 : Int32)).toInt = opc w := by rw [h]; decide
theorem opc_2 {w : Int} (h : w = 8) : ((2 : Int32)).toInt = opc w := by rw [h]; decide
section CW
variable {Ls : Nat} {xs : Nat → Int32} (X1 X2 : List jm_c)
theorem cz_loop (b : Int) : ∀ (n : Nat) (F : Nat → sy_d), iv_in F iv_B4 → (sy_i F 16).toInt < n → (sy_i F 15).toInt + (sy_i F 16).toInt ≤ 840 → (sy_i F 69).toInt = b →
    hd_W Ls xs 2 jm_M163 (fun v G => ∃ F' : Nat → sy_d, v = none ∧ G = sy_dh F' X1 X2 (iv_H 4) ∧ cz_R b F F') (0, sy_dL F [some (.inl (.ref 1000)), some (.inr (.inl 69)), none], sy_dS F [], sy_dh F X1 X2 (iv_H 4), 0, 0)
  | 0, F, hB, h1, _, _ => by
    have c16 := nz_bx hB (k := 16) (lo := 0) (hi := 64) rfl
    omega
  | n + 1, F, hB, h1, h2, hb => by
    have c15 := nz_bx hB (k := 15) (lo := 0) (hi := 840) rfl
    have c16 := nz_bx hB (k := 16) (lo := 0) (hi := 64) rfl
    have hm : 0 < (sy_i F 16).toInt → (sy_i F 16).toInt.toNat = ((sy_i F 16).toInt - 1).toNat + 1 := by omega
    have top : ∀ z : 0 < (sy_i F 16).toInt, ((sy_ai F 51).getD ((sy_i F 16).toInt - 1).toNat 0).toInt = 6 ∨ (decide (b ≠ 0) = true ∧ (((sy_ai F 51).getD ((sy_i F 16).toInt - 1).toNat 0).toInt = 8 ∨ ((sy_ai F 51).getD ((sy_i F 16).toInt - 1).toNat 0).toInt = 9)) → coS (decide (b ≠ 0)) (wW F) = (wW F, []) := fun z q => by
      rw [wW_s z]
      show (if _ then _ else _) = _
      rw [if_pos q]
    refine co_0 (by decide) F X1 X2 hB (by omega) (by omega) (by omega) (by omega) (by omega) (by omega) (by omega) (by omega) (by omega) (by omega) (by omega) (by omega) ?_ ?_ ?_ ?_ ?_ ?_ ?_ ?_ ?_ ?_
    · intro q F1 hb1 g e15 e16 a49 a50 a51
      refine ⟨F1, rfl, rfl, cz_end (co_end (gr_mk hb1 g (by decide) (by rw [nz_fi (g 4 (by decide) (by decide))]; exact Int.le_refl _) (by rw [nz_fi (g 6 (by decide) (by decide))]; exact id)) e15 e16 a49 a50 (fun g o p hw => ?_)) e15 e16 a49 a50 a51 ?_⟩
      · rw [show (sy_i F 16).toInt.toNat = 0 by omega] at hw
        have := ws_zero hw
        omega
      · unfold wW
        rw [show (sy_i F 16).toInt.toNat = 0 by omega]
        rfl
    · intro q q6 F1 hb1 g e15 e16 a49 a50 a51
      refine ⟨F1, rfl, rfl, cz_end (co_end (gr_mk hb1 g (by decide) (by rw [nz_fi (g 4 (by decide) (by decide))]; exact Int.le_refl _) (by rw [nz_fi (g 6 (by decide) (by decide))]; exact id)) e15 e16 a49 a50 (fun g o p hw => ?_)) e15 e16 a49 a50 a51 (top q (Or.inl q6))⟩
      rw [hm q] at hw
      have := ws_top6 hw q6
      omega
    iterate 4
      intro q q6 qb
      intros
      rename_i F1 hb1 g e15 e16 a49 a50 a51 e69
      refine hd_W_mono (cz_loop b n F1 hb1 (by omega) (by omega) (by omega)) ?_
      rintro v G ⟨F', rfl, rfl, hR⟩
      exact ⟨F', rfl, rfl, cz_step (co_step (by decide) (gr_mk hb1 g (by decide) (by rw [nz_fi (g 4 (by decide) (by decide))]; exact Int.le_refl _) (by rw [nz_fi (g 6 (by decide) (by decide))]; exact id)) e15 e16 a49 a50 a51 q (by omega) q6 hR.1) q e15 e16 a49 a50 a51 (by first | exact opc_2 (by omega) | exact opc_3 (by omega) | exact opc_4 (by omega) | exact opc_5 (by omega) (by omega) (by omega)) (fun z => by rcases z with z | z; exact q6 z; exact absurd (of_decide_eq_true z.1) (fun y => y (by omega))) hR⟩
    · intro q q6 q69 q8 F1 hb1 g e15 e16 a49 a50 a51
      refine ⟨F1, rfl, rfl, cz_end (co_end (gr_mk hb1 g (by decide) (by rw [nz_fi (g 4 (by decide) (by decide))]; exact Int.le_refl _) (by rw [nz_fi (g 6 (by decide) (by decide))]; exact id)) e15 e16 a49 a50 (fun g o p hw => ?_)) e15 e16 a49 a50 a51 (top q (Or.inr ⟨decide_eq_true (by omega), Or.inl q8⟩))⟩
      rw [hm q] at hw
      have := ws_topp hw (Or.inl q8)
      omega
    iterate 2
      intro q q6 qb
      intros
      rename_i F1 hb1 g e15 e16 a49 a50 a51 e69
      refine hd_W_mono (cz_loop b n F1 hb1 (by omega) (by omega) (by omega)) ?_
      rintro v G ⟨F', rfl, rfl, hR⟩
      exact ⟨F', rfl, rfl, cz_step (co_step (by decide) (gr_mk hb1 g (by decide) (by rw [nz_fi (g 4 (by decide) (by decide))]; exact Int.le_refl _) (by rw [nz_fi (g 6 (by decide) (by decide))]; exact id)) e15 e16 a49 a50 a51 q (by omega) q6 hR.1) q e15 e16 a49 a50 a51 (by first | exact opc_4 (by omega) | exact opc_5 (by omega) (by omega) (by omega)) (fun z => by rcases z with z | z; exact q6 z; omega) hR⟩
    · intro q q6 q69 q8 q9 F1 hb1 g e15 e16 a49 a50 a51
      refine ⟨F1, rfl, rfl, cz_end (co_end (gr_mk hb1 g (by decide) (by rw [nz_fi (g 4 (by decide) (by decide))]; exact Int.le_refl _) (by rw [nz_fi (g 6 (by decide) (by decide))]; exact id)) e15 e16 a49 a50 (fun g o p hw => ?_)) e15 e16 a49 a50 a51 (top q (Or.inr ⟨decide_eq_true (by omega), Or.inr q9⟩))⟩
      rw [hm q] at hw
      have := ws_topp hw (Or.inr q9)
      omega
theorem cz_T (F : Nat → sy_d) (hB : iv_in F iv_B4) (h : (sy_i F 15).toInt + (sy_i F 16).toInt ≤ 840) (b : Int32) : jm_T Ls xs 2 jm_M163 [.ref 1000, .int b] (sy_dh F X1 X2 (iv_H 4)) 0 0 (fun v G => ∃ F' : Nat → sy_d, v = none ∧ G = sy_dh F' X1 X2 (iv_H 4) ∧ cz_R b.toInt F F') := by
  refine nz_T1 jm_ok163 (by decide) (fun F0 k0 i69 => ?_)
  have i15 := nz_fi (k0 15 (by decide))
  have i16 := nz_fi (k0 16 (by decide))
  have c16 := nz_bx hB (k := 16) (lo := 0) (hi := 64) rfl
  refine hd_W_mono (cz_loop X1 X2 b.toInt 65 F0 (hd_iveq hB k0) (by omega) (by omega) (by rw [i69])) ?_
  rintro v G ⟨F', rfl, rfl, hR⟩
  exact ⟨F', rfl, rfl, cz_Rsrc hR k0⟩
end CW
