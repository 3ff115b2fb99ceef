section
/-! ===== what an expression is put as: K the kinds, V the numbers; W what waits (the last first), O what came out ===== -/
abbrev rO : Type := Int × Int
def opc (w : Int) : Int := if w = 8 then 2 else if w = 9 then 3 else if w = 10 then 4 else 5
/-- what waits comes out, up to a bracket; strong: up to + or - too -/
def coS (b : Bool) : List Int → List Int × List rO
  | [] => ([], [])
  | w :: W => if w = 6 ∨ (b = true ∧ (w = 8 ∨ w = 9)) then (w :: W, []) else ((coS b W).1, (opc w, 0) :: (coS b W).2)
def opn : List Int → Nat
  | [] => 0
  | w :: W => if w = 6 then opn W + 1 else opn W
def isOp (k : Int) : Prop := k = 8 ∨ k = 9 ∨ k = 10 ∨ k = 15
noncomputable def cM (K V : Nat → Int) : Nat → Nat → List Int → Nat → List rO → sE ⊕ (Nat × List rO)
  | 0, t, _, _, O => .inr (t, O)
  | n + 1, t, W, m, O => if m = 0 then
      (if K t = 6 then (if opn W = 6 then .inl (2, t) else if t = 400 then .inl (2, t) else cM K V n (t + 1) (6 :: W) 0 O)
      else if K t = 2 then (if t = 400 then .inl (2, t) else cM K V n (t + 1) W 1 (O ++ [(0, V t)]))
      else if 34 ≤ K t ∧ K t ≤ 42 then (if t = 400 then .inl (2, t) else cM K V n (t + 1) W 1 (O ++ [(1, K t - 34)])) else .inl (1, t))
    else
      (if K t = 7 ∧ 0 < opn W then (if t = 400 then .inl (2, t) else cM K V n (t + 1) (coS false W).1.tail 1 (O ++ (coS false W).2))
      else if K t = 8 ∨ K t = 9 ∨ K t = 10 ∨ K t = 15 then (if t = 400 then .inl (2, t) else cM K V n (t + 1) (K t :: (coS (decide (K t = 10 ∨ K t = 15)) W).1) 0 (O ++ (coS (decide (K t = 10 ∨ K t = 15)) W).2))
      else if 0 < opn W then .inl (1, t) else .inr (t, O ++ (coS false W).2))
noncomputable def cX (K V : Nat → Int) (t : Nat) (W : List Int) (m : Nat) (O : List rO) : sE ⊕ (Nat × List rO) := cM K V (401 - t) t W m O
section CQ
variable {K V : Nat → Int} {t : Nat} {W : List Int} {O : List rO}
theorem cX_eq (ht : t ≤ 400) (m : Nat) : cX K V t W m O = if m = 0 then
      (if K t = 6 then (if opn W = 6 then .inl (2, t) else if t = 400 then .inl (2, t) else cX K V (t + 1) (6 :: W) 0 O)
      else if K t = 2 then (if t = 400 then .inl (2, t) else cX K V (t + 1) W 1 (O ++ [(0, V t)]))
      else if 34 ≤ K t ∧ K t ≤ 42 then (if t = 400 then .inl (2, t) else cX K V (t + 1) W 1 (O ++ [(1, K t - 34)])) else .inl (1, t))
    else
      (if K t = 7 ∧ 0 < opn W then (if t = 400 then .inl (2, t) else cX K V (t + 1) (coS false W).1.tail 1 (O ++ (coS false W).2))
      else if K t = 8 ∨ K t = 9 ∨ K t = 10 ∨ K t = 15 then (if t = 400 then .inl (2, t) else cX K V (t + 1) (K t :: (coS (decide (K t = 10 ∨ K t = 15)) W).1) 0 (O ++ (coS (decide (K t = 10 ∨ K t = 15)) W).2))
      else if 0 < opn W then .inl (1, t) else .inr (t, O ++ (coS false W).2)) := by
  unfold cX
  rw [show 401 - t = (401 - (t + 1)) + 1 by omega]
  rfl
theorem cX_o6 (ht : t ≤ 400) (h : K t = 6) (h2 : opn W = 6 ∨ t = 400) : cX K V t W 0 O = .inl (2, t) := by
  rw [cX_eq ht, if_pos rfl, if_pos h]
  by_cases q : opn W = 6
  · rw [if_pos q]
  · rw [if_neg q, if_pos (by omega)]
theorem cX_o (ht : t < 400) (h : K t = 6) (h2 : opn W ≠ 6) : cX K V t W 0 O = cX K V (t + 1) (6 :: W) 0 O := by
  rw [cX_eq (by omega), if_pos rfl, if_pos h, if_neg h2, if_neg (by omega)]
theorem cX_i (ht : t < 400) (h : K t = 2) : cX K V t W 0 O = cX K V (t + 1) W 1 (O ++ [(0, V t)]) := by
  rw [cX_eq (by omega), if_pos rfl, if_neg (by omega), if_pos h, if_neg (by omega)]
theorem cX_v (ht : t < 400) (h : 34 ≤ K t ∧ K t ≤ 42) : cX K V t W 0 O = cX K V (t + 1) W 1 (O ++ [(1, K t - 34)]) := by
  rw [cX_eq (by omega), if_pos rfl, if_neg (by omega), if_neg (by omega), if_pos h, if_neg (by omega)]
theorem cX_u4 (ht : t = 400) (h : K t = 2 ∨ (34 ≤ K t ∧ K t ≤ 42)) : cX K V t W 0 O = .inl (2, t) := by
  rw [cX_eq (by omega), if_pos rfl, if_neg (by omega)]
  by_cases q : K t = 2
  · rw [if_pos q, if_pos ht]
  · rw [if_neg q, if_pos (by omega), if_pos ht]
theorem cX_u1 (ht : t ≤ 400) (h : K t ≠ 6) (h1 : K t ≠ 2) (h2 : K t < 34 ∨ 42 < K t) : cX K V t W 0 O = .inl (1, t) := by
  rw [cX_eq ht, if_pos rfl, if_neg h, if_neg h1, if_neg (by omega)]
theorem cX_c (ht : t < 400) (h : K t = 7) (h2 : 0 < opn W) : cX K V t W 1 O = cX K V (t + 1) (coS false W).1.tail 1 (O ++ (coS false W).2) := by
  rw [cX_eq (by omega), if_neg (by decide), if_pos ⟨h, h2⟩, if_neg (by omega)]
theorem cX_c4 (ht : t = 400) (h : K t = 7) (h2 : 0 < opn W) : cX K V t W 1 O = .inl (2, t) := by
  rw [cX_eq (by omega), if_neg (by decide), if_pos ⟨h, h2⟩, if_pos ht]
theorem cX_b (ht : t < 400) (h : K t = 8 ∨ K t = 9 ∨ K t = 10 ∨ K t = 15) : cX K V t W 1 O = cX K V (t + 1) (K t :: (coS (decide (K t = 10 ∨ K t = 15)) W).1) 0 (O ++ (coS (decide (K t = 10 ∨ K t = 15)) W).2) := by
  rw [cX_eq (by omega), if_neg (by decide), if_neg (by omega), if_pos h, if_neg (by omega)]
theorem cX_b4 (ht : t = 400) (h : K t = 8 ∨ K t = 9 ∨ K t = 10 ∨ K t = 15) : cX K V t W 1 O = .inl (2, t) := by
  rw [cX_eq (by omega), if_neg (by decide), if_neg (by omega), if_pos h, if_pos ht]
theorem cX_e1 (ht : t ≤ 400) (h7 : K t ≠ 7) (h : ¬ (K t = 8 ∨ K t = 9 ∨ K t = 10 ∨ K t = 15)) (h2 : 0 < opn W) : cX K V t W 1 O = .inl (1, t) := by
  rw [cX_eq ht, if_neg (by decide), if_neg (by omega), if_neg h, if_pos h2]
theorem cX_e0 (ht : t ≤ 400) (h : ¬ (K t = 8 ∨ K t = 9 ∨ K t = 10 ∨ K t = 15)) (h2 : opn W = 0) : cX K V t W 1 O = .inr (t, O ++ (coS false W).2) := by
  rw [cX_eq ht, if_neg (by decide), if_neg (by omega), if_neg h, if_neg (by omega)]
end CQ
/-! ===== the strong first, then the rest: as one after the other ===== -/
theorem coS_opn (b : Bool) : ∀ W : List Int, opn (coS b W).1 = opn W
  | [] => rfl
  | w :: W => by
    unfold coS
    by_cases q : w = 6 ∨ (b = true ∧ (w = 8 ∨ w = 9))
    · rw [if_pos q]
    · rw [if_neg q]
      show opn (coS b W).1 = opn (w :: W)
      rw [coS_opn b W]
      show opn W = if w = 6 then opn W + 1 else opn W
      rw [if_neg (by omega)]
theorem cX_m1 {K V : Nat → Int} {t : Nat} {W : List Int} {O : List rO} (ht : t ≤ 400) : cX K V t W 1 O = (if K t = 7 ∧ 0 < opn W then (if t = 400 then .inl (2, t) else cX K V (t + 1) (coS false W).1.tail 1 (O ++ (coS false W).2))
      else if K t = 8 ∨ K t = 9 ∨ K t = 10 ∨ K t = 15 then (if t = 400 then .inl (2, t) else cX K V (t + 1) (K t :: (coS (decide (K t = 10 ∨ K t = 15)) W).1) 0 (O ++ (coS (decide (K t = 10 ∨ K t = 15)) W).2))
      else if 0 < opn W then .inl (1, t) else .inr (t, O ++ (coS false W).2)) := (cX_eq ht 1).trans (if_neg (by decide))
end
section
/-! ===== the reference puts an expression: what waits and what came out, as lists ===== -/
noncomputable def wlf (w : List Int32) : Nat → List Int
  | 0 => []
  | n + 1 => (w.getD n 0).toInt :: wlf w n
noncomputable def clf (code cint : List Int32) (c : Nat) : Nat → List rO
  | 0 => []
  | n + 1 => clf code cint c n ++ [((code.getD (c + n) 0).toInt, (cint.getD (c + n) 0).toInt)]
theorem wlf_eq {w w' : List Int32} : ∀ n : Nat, (∀ i, i < n → w'.getD i 0 = w.getD i 0) → wlf w' n = wlf w n
  | 0, _ => rfl
  | n + 1, h => by
    unfold wlf
    rw [h n (by omega), wlf_eq n (fun i hi => h i (by omega))]
theorem wlf_up {w : List Int32} {n : Nat} {V : Int32} : wlf (jm_upd w n V) (n + 1) = V.toInt :: wlf w n := by
  show ((jm_upd w n V).getD n 0).toInt :: wlf (jm_upd w n V) n = _
  rw [jm_upd_at, if_pos rfl, wlf_eq (w := w) (w' := jm_upd w n V) n (fun i hi => by rw [jm_upd_at, if_neg (by omega)])]
theorem clf_eq {a b a' b' : List Int32} {c : Nat} : ∀ n : Nat, (∀ i, c ≤ i → i < c + n → a'.getD i 0 = a.getD i 0 ∧ b'.getD i 0 = b.getD i 0) → clf a' b' c n = clf a b c n
  | 0, _ => rfl
  | n + 1, h => by
    unfold clf
    rw [(h (c + n) (by omega) (by omega)).1, (h (c + n) (by omega) (by omega)).2, clf_eq n (fun i h1 h2 => h i h1 (by omega))]
theorem opn_ws {w : List Int32} : ∀ {n g o p : Nat}, ws w n g o p → opn (wlf w n) = o
  | 0, g, o, p, h => by
    have := h
    unfold ws at this
    show 0 = o
    omega
  | n + 1, g, o, p, h => by
    by_cases q : (w.getD n 0).toInt = 6
    · have h0 := ws_top6 h q
      subst h0
      obtain ⟨g', o', e, h'⟩ := ws_open h
      have := opn_ws h'
      show (if (w.getD n 0).toInt = 6 then opn (wlf w n) + 1 else opn (wlf w n)) = o
      rw [if_pos q]
      omega
    · obtain ⟨g', p', e, h', -⟩ := ws_pop h q
      have := opn_ws h'
      show (if (w.getD n 0).toInt = 6 then opn (wlf w n) + 1 else opn (wlf w n)) = o
      rw [if_neg q]
      exact this
noncomputable def wW (F : Nat → sy_d) : List Int := wlf (sy_ai F 51) (sy_i F 16).toInt.toNat
noncomputable def oO (c : Nat) (F : Nat → sy_d) : List rO := clf (sy_ai F 49) (sy_ai F 50) c ((sy_i F 15).toInt - c).toNat
theorem wW_eq {F F1 : Nat → sy_d} (h51 : sy_ai F1 51 = sy_ai F 51) (h16 : (sy_i F1 16).toInt = (sy_i F 16).toInt) : wW F1 = wW F := by unfold wW; rw [h51, h16]
theorem oO_eq {c : Nat} {F F1 : Nat → sy_d} (h49 : sy_ai F1 49 = sy_ai F 49) (h50 : sy_ai F1 50 = sy_ai F 50) (h15 : (sy_i F1 15).toInt = (sy_i F 15).toInt) : oO c F1 = oO c F := by unfold oO; rw [h49, h50, h15]
theorem oO_up {c : Nat} {F F1 : Nat → sy_d} {K V : Int32} (hc : (c : Int) ≤ (sy_i F 15).toInt) (h15 : (sy_i F1 15).toInt = (sy_i F 15).toInt + 1) (a49 : sy_ai F1 49 = jm_upd (sy_ai F 49) (sy_i F 15).toInt.toNat K) (a50 : sy_ai F1 50 = jm_upd (sy_ai F 50) (sy_i F 15).toInt.toNat V) : oO c F1 = oO c F ++ [(K.toInt, V.toInt)] := by
  unfold oO
  rw [show ((sy_i F1 15).toInt - c).toNat = ((sy_i F 15).toInt - c).toNat + 1 by omega]
  show clf _ _ c _ ++ [_] = _
  rw [a49, a50, jm_upd_at, jm_upd_at, if_pos (by omega), if_pos (by omega), clf_eq (a := sy_ai F 49) (b := sy_ai F 50) _ (fun i h1 h2 => by rw [jm_upd_at, jm_upd_at, if_neg (by omega), if_neg (by omega)]; exact ⟨rfl, rfl⟩)]
noncomputable def cz_R (b : Int) (F F' : Nat → sy_d) : Prop := co_R b F F' ∧ wW F' = (coS (decide (b ≠ 0)) (wW F)).1 ∧ ∀ c : Nat, (c : Int) ≤ (sy_i F 15).toInt → oO c F' = oO c F ++ (coS (decide (b ≠ 0)) (wW F)).2
theorem cz_Rdst {b : Int} {F F' F2 : Nat → sy_d} (h : cz_R b F F') (e : ∀ q, q < 69 → F2 q = F' q) : cz_R b F F2 := by
  obtain ⟨h1, h2, h3⟩ := h
  refine ⟨co_Rdst h1 e, (wW_eq (nz_fa (e 51 (by decide))) (nz_fi (e 16 (by decide)))).trans h2, fun c hc => ?_⟩
  rw [oO_eq (nz_fa (e 49 (by decide))) (nz_fa (e 50 (by decide))) (nz_fi (e 15 (by decide)))]
  exact h3 c hc
theorem cz_Rsrc {b : Int} {F F' F0 : Nat → sy_d} (h : cz_R b F0 F') (e : ∀ q, q < 69 → F0 q = F q) : cz_R b F F' := by
  obtain ⟨h1, h2, h3⟩ := h
  have i15 := nz_fi (e 15 (by decide))
  have eW : wW F0 = wW F := wW_eq (nz_fa (e 51 (by decide))) (nz_fi (e 16 (by decide)))
  rw [eW] at h2
  refine ⟨co_Rsrc h1 e, h2, fun c hc => ?_⟩
  have := h3 c (by omega)
  rw [eW, oO_eq (F := F) (nz_fa (e 49 (by decide))) (nz_fa (e 50 (by decide))) i15] at this
  exact this
theorem cz_end {b : Int} {F F1 : Nat → sy_d} (h : co_R b F F1) (h15 : (sy_i F1 15).toInt = (sy_i F 15).toInt) (h16 : (sy_i F1 16).toInt = (sy_i F 16).toInt) (a49 : sy_ai F1 49 = sy_ai F 49) (a50 : sy_ai F1 50 = sy_ai F 50) (a51 : sy_ai F1 51 = sy_ai F 51) (hs : coS (decide (b ≠ 0)) (wW F) = (wW F, [])) : cz_R b F F1 := by
  refine ⟨h, by rw [hs]; exact wW_eq a51 h16, fun c hc => ?_⟩
  rw [hs, List.append_nil]
  exact oO_eq a49 a50 h15
theorem wW_s {F : Nat → sy_d} (h : 0 < (sy_i F 16).toInt) : wW F = ((sy_ai F 51).getD ((sy_i F 16).toInt - 1).toNat 0).toInt :: wlf (sy_ai F 51) ((sy_i F 16).toInt - 1).toNat := by
  unfold wW
  rw [show (sy_i F 16).toInt.toNat = ((sy_i F 16).toInt - 1).toNat + 1 by omega]
  rfl
theorem cz_step {b : Int} {F F1 F' : Nat → sy_d} {K : Int32} (hR : co_R b F F') (hp : 0 < (sy_i F 16).toInt) (h15 : (sy_i F1 15).toInt = (sy_i F 15).toInt + 1) (h16 : (sy_i F1 16).toInt = (sy_i F 16).toInt - 1) (a49 : sy_ai F1 49 = jm_upd (sy_ai F 49) (sy_i F 15).toInt.toNat K) (a50 : sy_ai F1 50 = jm_upd (sy_ai F 50) (sy_i F 15).toInt.toNat 0) (a51 : sy_ai F1 51 = sy_ai F 51) (hK : K.toInt = opc ((sy_ai F 51).getD ((sy_i F 16).toInt - 1).toNat 0).toInt) (hn : ¬ (((sy_ai F 51).getD ((sy_i F 16).toInt - 1).toNat 0).toInt = 6 ∨ (decide (b ≠ 0) = true ∧ (((sy_ai F 51).getD ((sy_i F 16).toInt - 1).toNat 0).toInt = 8 ∨ ((sy_ai F 51).getD ((sy_i F 16).toInt - 1).toNat 0).toInt = 9)))) (h : cz_R b F1 F') : cz_R b F F' := by
  obtain ⟨-, h2, h3⟩ := h
  have eW : wW F1 = wlf (sy_ai F 51) ((sy_i F 16).toInt - 1).toNat := by unfold wW; rw [a51, h16]
  have eS : coS (decide (b ≠ 0)) (wW F) = ((coS (decide (b ≠ 0)) (wW F1)).1, (K.toInt, 0) :: (coS (decide (b ≠ 0)) (wW F1)).2) := by
    rw [wW_s hp, eW, hK]
    show (if _ then _ else _) = _
    rw [if_neg hn]
  refine ⟨hR, by rw [eS]; exact h2, fun c hc => ?_⟩
  rw [h3 c (by omega), oO_up hc h15 a49 a50, eS, List.append_assoc]
  rfl
theorem opc_5 {w : Int} (h8 : w ≠ 8) (h9 : w ≠ 9) (h10 : w ≠ 10) : ((5 : Int32)).toInt = opc w := by unfold opc; rw [if_neg h8, if_neg h9, if_neg h10]; decide
theorem opc_4 {w : Int} (h : w = 10) : ((4 : Int32)).toInt = opc w := by rw [h]; decide
theorem opc_3 {w : Int} (h : w = 9) : ((3 : Int32)).toInt = opc w := by rw [h]; decide
theorem opc_2 {w : Int} (h : w = 8) : ((2 : Int32)).toInt = opc w := by rw [h]; decide
section CW
variable {Ls : Nat} {xs : Nat → Int32} (X1 X2 : List jm_c)
theorem cz_loop (b : Int) : ∀ (n : Nat) (F : Nat → sy_d), iv_in F iv_B4 → (sy_i F 16).toInt < n → (sy_i F 15).toInt + (sy_i F 16).toInt ≤ 840 → (sy_i F 69).toInt = b →
    hd_W Ls xs 2 jm_M163 (fun v G => ∃ F' : Nat → sy_d, v = none ∧ G = sy_dh F' X1 X2 (iv_H 4) ∧ cz_R b F F') (0, sy_dL F [some (.inl (.ref 1000)), some (.inr (.inl 69)), none], sy_dS F [], sy_dh F X1 X2 (iv_H 4), 0, 0)
  | 0, F, hB, h1, _, _ => by
    have c16 := nz_bx hB (k := 16) (lo := 0) (hi := 64) rfl
    omega
  | n + 1, F, hB, h1, h2, hb => by
    have c15 := nz_bx hB (k := 15) (lo := 0) (hi := 840) rfl
    have c16 := nz_bx hB (k := 16) (lo := 0) (hi := 64) rfl
    have hm : 0 < (sy_i F 16).toInt → (sy_i F 16).toInt.toNat = ((sy_i F 16).toInt - 1).toNat + 1 := by omega
    have top : ∀ z : 0 < (sy_i F 16).toInt, ((sy_ai F 51).getD ((sy_i F 16).toInt - 1).toNat 0).toInt = 6 ∨ (decide (b ≠ 0) = true ∧ (((sy_ai F 51).getD ((sy_i F 16).toInt - 1).toNat 0).toInt = 8 ∨ ((sy_ai F 51).getD ((sy_i F 16).toInt - 1).toNat 0).toInt = 9)) → coS (decide (b ≠ 0)) (wW F) = (wW F, []) := fun z q => by
      rw [wW_s z]
      show (if _ then _ else _) = _
      rw [if_pos q]
    refine co_0 (by decide) F X1 X2 hB (by omega) (by omega) (by omega) (by omega) (by omega) (by omega) (by omega) (by omega) (by omega) (by omega) (by omega) (by omega) ?_ ?_ ?_ ?_ ?_ ?_ ?_ ?_ ?_ ?_
    · intro q F1 hb1 g e15 e16 a49 a50 a51
      refine ⟨F1, rfl, rfl, cz_end (co_end (gr_mk hb1 g (by decide) (by rw [nz_fi (g 4 (by decide) (by decide))]; exact Int.le_refl _) (by rw [nz_fi (g 6 (by decide) (by decide))]; exact id)) e15 e16 a49 a50 (fun g o p hw => ?_)) e15 e16 a49 a50 a51 ?_⟩
      · rw [show (sy_i F 16).toInt.toNat = 0 by omega] at hw
        have := ws_zero hw
        omega
      · unfold wW
        rw [show (sy_i F 16).toInt.toNat = 0 by omega]
        rfl
    · intro q q6 F1 hb1 g e15 e16 a49 a50 a51
      refine ⟨F1, rfl, rfl, cz_end (co_end (gr_mk hb1 g (by decide) (by rw [nz_fi (g 4 (by decide) (by decide))]; exact Int.le_refl _) (by rw [nz_fi (g 6 (by decide) (by decide))]; exact id)) e15 e16 a49 a50 (fun g o p hw => ?_)) e15 e16 a49 a50 a51 (top q (Or.inl q6))⟩
      rw [hm q] at hw
      have := ws_top6 hw q6
      omega
    iterate 4
      intro q q6 qb
      intros
      rename_i F1 hb1 g e15 e16 a49 a50 a51 e69
      refine hd_W_mono (cz_loop b n F1 hb1 (by omega) (by omega) (by omega)) ?_
      rintro v G ⟨F', rfl, rfl, hR⟩
      exact ⟨F', rfl, rfl, cz_step (co_step (by decide) (gr_mk hb1 g (by decide) (by rw [nz_fi (g 4 (by decide) (by decide))]; exact Int.le_refl _) (by rw [nz_fi (g 6 (by decide) (by decide))]; exact id)) e15 e16 a49 a50 a51 q (by omega) q6 hR.1) q e15 e16 a49 a50 a51 (by first | exact opc_2 (by omega) | exact opc_3 (by omega) | exact opc_4 (by omega) | exact opc_5 (by omega) (by omega) (by omega)) (fun z => by rcases z with z | z; exact q6 z; exact absurd (of_decide_eq_true z.1) (fun y => y (by omega))) hR⟩
    · intro q q6 q69 q8 F1 hb1 g e15 e16 a49 a50 a51
      refine ⟨F1, rfl, rfl, cz_end (co_end (gr_mk hb1 g (by decide) (by rw [nz_fi (g 4 (by decide) (by decide))]; exact Int.le_refl _) (by rw [nz_fi (g 6 (by decide) (by decide))]; exact id)) e15 e16 a49 a50 (fun g o p hw => ?_)) e15 e16 a49 a50 a51 (top q (Or.inr ⟨decide_eq_true (by omega), Or.inl q8⟩))⟩
      rw [hm q] at hw
      have := ws_topp hw (Or.inl q8)
      omega
    iterate 2
      intro q q6 qb
      intros
      rename_i F1 hb1 g e15 e16 a49 a50 a51 e69
      refine hd_W_mono (cz_loop b n F1 hb1 (by omega) (by omega) (by omega)) ?_
      rintro v G ⟨F', rfl, rfl, hR⟩
      exact ⟨F', rfl, rfl, cz_step (co_step (by decide) (gr_mk hb1 g (by decide) (by rw [nz_fi (g 4 (by decide) (by decide))]; exact Int.le_refl _) (by rw [nz_fi (g 6 (by decide) (by decide))]; exact id)) e15 e16 a49 a50 a51 q (by omega) q6 hR.1) q e15 e16 a49 a50 a51 (by first | exact opc_4 (by omega) | exact opc_5 (by omega) (by omega) (by omega)) (fun z => by rcases z with z | z; exact q6 z; omega) hR⟩
    · intro q q6 q69 q8 q9 F1 hb1 g e15 e16 a49 a50 a51
      refine ⟨F1, rfl, rfl, cz_end (co_end (gr_mk hb1 g (by decide) (by rw [nz_fi (g 4 (by decide) (by decide))]; exact Int.le_refl _) (by rw [nz_fi (g 6 (by decide) (by decide))]; exact id)) e15 e16 a49 a50 (fun g o p hw => ?_)) e15 e16 a49 a50 a51 (top q (Or.inr ⟨decide_eq_true (by omega), Or.inr q9⟩))⟩
      rw [hm q] at hw
      have := ws_topp hw (Or.inr q9)
      omega
theorem cz_T (F : Nat → sy_d) (hB : iv_in F iv_B4) (h : (sy_i F 15).toInt + (sy_i F 16).toInt ≤ 840) (b : Int32) : jm_T Ls xs 2 jm_M163 [.ref 1000, .int b] (sy_dh F X1 X2 (iv_H 4)) 0 0 (fun v G => ∃ F' : Nat → sy_d, v = none ∧ G = sy_dh F' X1 X2 (iv_H 4) ∧ cz_R b.toInt F F') := by
  refine nz_T1 jm_ok163 (by decide) (fun F0 k0 i69 => ?_)
  have i15 := nz_fi (k0 15 (by decide))
  have i16 := nz_fi (k0 16 (by decide))
  have c16 := nz_bx hB (k := 16) (lo := 0) (hi := 64) rfl
  refine hd_W_mono (cz_loop X1 X2 b.toInt 65 F0 (hd_iveq hB k0) (by omega) (by omega) (by rw [i69])) ?_
  rintro v G ⟨F', rfl, rfl, hR⟩
  exact ⟨F', rfl, rfl, cz_Rsrc hR k0⟩
end CW
end
section
/-! ===== the reference puts an expression ===== -/
noncomputable def c0f (F0 : Nat → sy_d) : Nat := (sy_i F0 15).toInt.toNat
noncomputable def crr (F0 : Nat → sy_d) : sE ⊕ (Nat × List rO) := cX (kf F0) (vf F0) (tn F0) [] 0 []
noncomputable def zc (F0 F : Nat → sy_d) : Prop := xc F0 F ∧ fx (crr F0) F0 F
noncomputable def zi (k : Nat) (F0 F : Nat → sy_d) : Prop := xi k F0 F ∧ crr F0 = cX (kf F0) (vf F0) (tn F) (wW F) k (oO (c0f F0) F)
noncomputable def zr (F0 F' : Nat → sy_d) : Prop := xr F0 F' ∧ fx (crr F0) F0 F' ∧ ((sy_i F' 6).toInt = 0 → crr F0 = .inr (tn F', oO (c0f F0) F'))
noncomputable def ez_Q (F0 : Nat → sy_d) (X1 X2 : List jm_c) (v : Option Value) (G : jm_h) : Prop := ∃ F' : Nat → sy_d, v = none ∧ G = sy_dh F' X1 X2 (iv_H 4) ∧ zr F0 F'
theorem zr_dst {F F' F2 : Nat → sy_d} (h : zr F F') (e : ∀ q, q < 69 → F2 q = F' q) : zr F F2 := by
  have i4 := nz_fi (e 4 (by decide))
  have i6 := nz_fi (e 6 (by decide))
  have i7 := nz_fi (e 7 (by decide))
  exact ⟨xr_dst h.1 e, fx_same h.2.1 i6 i7, fun z => by rw [tn_eq i4, oO_eq (nz_fa (e 49 (by decide))) (nz_fa (e 50 (by decide))) (nz_fi (e 15 (by decide)))]; exact h.2.2 (by rw [← i6]; exact z)⟩
section EZ
variable {Ls : Nat} {xs : Nat → Int32} (X1 X2 : List jm_c) (F0 : Nat → sy_d)
theorem ez_206' {F : Nat → sy_d} (h0 : 0 ≤ (sy_i F0 15).toInt) (hx : zc F0 F) (hc : (sy_i F 6).toInt ≠ 0 ∨ (zi 1 F0 F ∧ (sy_i F 5).toInt = 0 ∧ ¬ (kf F0 (tn F) = 8 ∨ kf F0 (tn F) = 9 ∨ kf F0 (tn F) = 10 ∨ kf F0 (tn F) = 15))) :
    hd_W Ls xs 4 jm_M164 (ez_Q F0 X1 X2) (206, sy_dL F [some (.inl (.ref 1000)), none, none], sy_dS F [.inl (.int 0), .inl (.ref 1000)], sy_dh F X1 X2 (iv_H 4), 0, 0) := by
  have x4 := hx.1.2.2.2
  have c4 := nz_bx hx.1.1.b (k := 4) (lo := 0) (hi := 400) rfl
  have c12 := nz_bx hx.1.1.b (k := 12) (lo := 0) (hi := 1) rfl
  have i12 := hx.1.1.i (k := 12) (by decide) (by decide)
  refine hd_calV (R := cz_R 0 F) (nh := 69) (nv := 69) (s := 4) (s1 := 4) (d1 := 2) (M1 := jm_M163) (As := [.inl (.ref 1000), .inl (.int 0)]) (rest := []) jm_ok164 rfl rfl (by decide) (by decide +kernel) (cz_T X1 X2 F hx.1.1.b (by omega) 0) (fun F3 F' hR p1 _ => ?_)
  have hR4 := cz_Rdst hR p1
  have hR3 := hR4.1
  have k4 := hR3.1.i (k := 4) (by decide) (by decide)
  have k6 := hR3.1.i (k := 6) (by decide) (by decide)
  have k7 := hR3.1.i (k := 7) (by decide) (by decide)
  refine exy_209 (by decide) F3 X1 X2 hR3.1.b ?_
  intro F1 hb g e4 e5 e6 e7 e11 e12 e14 e15 e16 a25 a26 a49 a50 a51
  have hxr := xr_dst (ex_fin F0 hx.1 (hc.imp id (fun q => ⟨q.1.1, q.2.1⟩)) hR3 h0) (F2 := F1) (fun q hq => g q hq (by simp))
  refine ⟨F1, rfl, rfl, hxr, fx_same hx.2 (by omega) (by omega), fun z => ?_⟩
  rcases hc with hc | ⟨⟨hxi, hc⟩, h5, hn⟩
  · exact absurd z (by omega)
  · obtain ⟨-, -, -, g', o, p, y4, y5, -⟩ := hxi
    have hop : opn (wW F) = 0 := (opn_ws y4).trans (by omega)
    have ho : oO (c0f F0) F1 = oO (c0f F0) F ++ (coS false (wW F)).2 := by
      rw [oO_eq a49 a50 e15]
      exact hR4.2.2 (c0f F0) (by unfold c0f; have := hx.1.2.2.1; omega)
    have : tn F1 = tn F := tn_eq (by omega)
    rw [hc, this, ho]
    exact cX_e0 (by unfold tn; omega) hn hop
theorem ez_96F {F : Nat → sy_d} (h0 : 0 ≤ (sy_i F0 15).toInt) (hx : zc F0 F) (hf : (sy_i F 6).toInt ≠ 0) :
    hd_W Ls xs 4 jm_M164 (ez_Q F0 X1 X2) (96, sy_dL F [some (.inl (.ref 1000)), some (.inr (.inl 69)), some (.inl (.int 1))], sy_dS F [], sy_dh F X1 X2 (iv_H 4), 0, 0) := by
  have x4 := hx.1.2.2.2
  refine exy_96 (by decide) F X1 X2 hx.1.1.b ?_ ?_ ?_ ?_ ?_ ?_ ?_ ?_ ?_ ?_ ?_
  iterate 2
    intros
    rename_i F1 hb g e4 e5 e6 e7 e11 e12 e14 e15 e16 a25 a26 a49 a50 a51
    exact ez_206' X1 X2 F0 h0 ⟨xc_step hx.1 hb g (by decide) (by omega) (by omega) (kp_same a49 a50) (by omega) (by omega), fx_same hx.2 e6 e7⟩ (Or.inl (by omega))
  all_goals (intros; exfalso; omega)
theorem ez_stop {F1 : Nat → sy_d} (hx : zc F0 F1) (hf : (sy_i F1 6).toInt ≠ 0) : zr F0 F1 := ⟨ex_stop (F := F1) F0 hx.1 hf, hx.2, fun z => absurd z hf⟩
theorem ez_23F {F : Nat → sy_d} (hx : zc F0 F) (hf : (sy_i F 6).toInt ≠ 0) :
    hd_W Ls xs 4 jm_M164 (ez_Q F0 X1 X2) (23, sy_dL F [some (.inl (.ref 1000)), some (.inr (.inl 69)), some (.inl (.int 1))], sy_dS F [], sy_dh F X1 X2 (iv_H 4), 0, 0) := by
  have x4 := hx.1.2.2.2
  refine exy_23 (by decide) F X1 X2 hx.1.1.b (by omega) (by omega) (by omega) (by omega) (by omega) (by omega) (by omega) (by omega) (by omega) (by omega) (by omega) (by omega) (by omega) (by omega) (by omega) (by omega) ?_ ?_ ?_ ?_ ?_ ?_ ?_ ?_ ?_ ?_
  · intros
    rename_i F1 hb g e4 e5 e6 e7 e11 e12 e14 e15 e16 a25 a26 a49 a50 a51
    exact ⟨F1, rfl, rfl, ez_stop F0 ⟨xc_step hx.1 hb g (by decide) (by omega) (by omega) (kp_same a49 a50) (by omega) (by omega), fx_same hx.2 e6 e7⟩ (by omega)⟩
  all_goals (intros; exfalso; omega)
theorem ez_12F {F : Nat → sy_d} (hx : zc F0 F) (hf : (sy_i F 6).toInt ≠ 0) :
    hd_W Ls xs 4 jm_M164 (ez_Q F0 X1 X2) (12, sy_dL F [some (.inl (.ref 1000)), some (.inr (.inl 69)), some (.inl (.int 1))], sy_dS F [], sy_dh F X1 X2 (iv_H 4), 0, 0) := by
  have x4 := hx.1.2.2.2
  refine exy_12 (by decide) F X1 X2 hx.1.1.b ?_ ?_
  · intros
    rename_i F1 hb g e4 e5 e6 e7 e11 e12 e14 e15 e16 a25 a26 a49 a50 a51
    exact ⟨F1, rfl, rfl, ez_stop F0 ⟨xc_step hx.1 hb g (by decide) (by omega) (by omega) (kp_same a49 a50) (by omega) (by omega), fx_same hx.2 e6 e7⟩ (by omega)⟩
  all_goals (intros; exfalso; omega)
noncomputable def z96 (Ls : Nat) (xs : Nat → Int32) (n : Nat) : Prop := ∀ F : Nat → sy_d, zc F0 F → zi 1 F0 F → (sy_i F 69).toInt = 0 → 400 - (sy_i F 4).toInt < n →
    hd_W Ls xs 4 jm_M164 (ez_Q F0 X1 X2) (96, sy_dL F [some (.inl (.ref 1000)), some (.inr (.inl 69)), some (.inl (.int 1))], sy_dS F [], sy_dh F X1 X2 (iv_H 4), 0, 0)
noncomputable def z23 (Ls : Nat) (xs : Nat → Int32) (n : Nat) : Prop := ∀ F : Nat → sy_d, zc F0 F → zi 0 F0 F → (sy_i F 69).toInt = 0 → 400 - (sy_i F 4).toInt < n →
    hd_W Ls xs 4 jm_M164 (ez_Q F0 X1 X2) (23, sy_dL F [some (.inl (.ref 1000)), some (.inr (.inl 69)), some (.inl (.int 1))], sy_dS F [], sy_dh F X1 X2 (iv_H 4), 0, 0)
noncomputable def z12 (Ls : Nat) (xs : Nat → Int32) (n : Nat) : Prop := ∀ F : Nat → sy_d, zc F0 F → zi 0 F0 F → (sy_i F 69).toInt = 0 → 400 - (sy_i F 4).toInt < n →
    hd_W Ls xs 4 jm_M164 (ez_Q F0 X1 X2) (12, sy_dL F [some (.inl (.ref 1000)), some (.inr (.inl 69)), some (.inl (.int 1))], sy_dS F [], sy_dh F X1 X2 (iv_H 4), 0, 0)
theorem z12_of {n : Nat} (h : z23 X1 X2 F0 Ls xs n) : z12 X1 X2 F0 Ls xs n := by
  intro F hx hi h69 hn
  have x4 := hx.1.2.2.2
  obtain ⟨⟨y1, y2, -, g', o, p, y4, y5, y6⟩, yE⟩ := hi
  have u0 := hx.1.1.u y1.1
  refine exy_12 (by decide) F X1 X2 hx.1.1.b ?_ ?_
  · intros; exfalso; omega
  · intro q F1 hb g e4 e5 e6 e7 e11 e12 e14 e15 e16 a25 a26 a49 a50 a51 e69
    refine h F1 ⟨xc_step hx.1 hb g (by decide) (by omega) (by omega) (kp_same a49 a50) (by omega) (by omega), fx_ok u0 (by omega)⟩ ⟨⟨by omega, by omega, fun z => absurd z (by decide), g', o, p, by rw [a51, e16]; exact y4, by omega, by rw [a49, a50, e15]; exact y6⟩, ?_⟩ (by omega) (by omega)
    rw [tn_eq e4, wW_eq a51 e16, oO_eq a49 a50 e15]
    exact yE
theorem z23_of {n : Nat} (h0 : 0 ≤ (sy_i F0 15).toInt) (h23 : z23 X1 X2 F0 Ls xs n) (h96 : z96 X1 X2 F0 Ls xs n) : z23 X1 X2 F0 Ls xs (n + 1) := by
  intro F hx hi h69 hn
  have x3 := hx.1.2.2.1
  have x4 := hx.1.2.2.2
  have c4 := nz_bx hx.1.1.b (k := 4) (lo := 0) (hi := 400) rfl
  have c5 := nz_bx hx.1.1.b (k := 5) (lo := 0) (hi := 7) rfl
  have c12 := nz_bx hx.1.1.b (k := 12) (lo := 0) (hi := 1) rfl
  have c15 := nz_bx hx.1.1.b (k := 15) (lo := 0) (hi := 840) rfl
  have c16 := nz_bx hx.1.1.b (k := 16) (lo := 0) (hi := 64) rfl
  have i12 := hx.1.1.i (k := 12) (by decide) (by decide)
  have x25 := hx.1.1.a (k := 25) (by decide) (by decide)
  have x26 := hx.1.1.a (k := 26) (by decide) (by decide)
  have eK : kf F0 (tn F) = ((sy_ai F 25).getD (sy_i F 4).toInt.toNat 0).toInt := by rw [x25]; rfl
  have eP : pf F0 (tn F) = ((sy_ai F 26).getD (sy_i F 4).toInt.toNat 0).toInt := by rw [x26]; rfl
  have et : (tn F : Int) = (sy_i F 4).toInt := by unfold tn; omega
  have t1 := hx.1.1.t
  obtain ⟨⟨y1, y2, -, g', o, p, y4, y5, y6⟩, yE⟩ := hi
  have u0 := hx.1.1.u y1.1
  obtain ⟨w1, w2, w3⟩ := ws_n y4
  have hop : (opn (wW F) : Int) = (sy_i F 5).toInt := (congrArg Int.ofNat (opn_ws y4)).trans y5
  have x27 := hx.1.1.a (k := 27) (by decide) (by decide)
  have eV : vf F0 (tn F) = ((sy_ai F 27).getD (sy_i F 4).toInt.toNat 0).toInt := by rw [x27]; rfl
  have hc0 : (c0f F0 : Int) ≤ (sy_i F 15).toInt := by unfold c0f; omega
  have ec : (sy_i F0 15).toInt.toNat + ((sy_i F 15).toInt - (sy_i F0 15).toInt).toNat = (sy_i F 15).toInt.toNat := by omega
  have en : ((sy_i F 15).toInt + 1 - (sy_i F0 15).toInt).toNat = ((sy_i F 15).toInt - (sy_i F0 15).toInt).toNat + 1 := by omega
  have e16n : ((sy_i F 16).toInt + 1).toNat = (sy_i F 16).toInt.toNat + 1 := by omega
  refine exy_23 (by decide) F X1 X2 hx.1.1.b (by omega) (by omega) (by omega) (by omega) (by omega) (by omega) (by omega) (by omega) (by omega) (by omega) (by omega) (by omega) (by omega) (by omega) (by omega) (by omega) ?_ ?_ ?_ ?_ ?_ ?_ ?_ ?_ ?_ ?_
  · intros; exfalso; omega
  · intros
    rename_i F1 hb g e4 e5 e6 e7 e11 e12 e14 e15 e16 a25 a26 a49 a50 a51
    exact ⟨F1, rfl, rfl, ez_stop F0 ⟨xc_step hx.1 hb g (by decide) (by omega) (by omega) (kp_same a49 a50) (by omega) (by omega), fx_mk u0 (yE.trans (cX_u1 (by omega) (by omega) (by omega) (by omega))) e6 (e7.trans eP.symm)⟩ (by omega)⟩
  · intro _ _ _ _ _ q1 q2 _ _ F1 hb g e4 e5 e6 e7 e11 e12 e14 e15 e16 a25 a26 a49 a50 a51 e69
    have ts : tn F1 = tn F + 1 := tn_s c4.1 e4
    refine h96 F1 ⟨xc_step hx.1 hb g (by decide) (by omega) (by omega) (kp_upd (by omega) e15 a49 a50) (by omega) (by omega), fx_ok u0 (by omega)⟩ ⟨⟨by omega, by omega, fun _ => by omega, g', o, p, by rw [a51, e16]; exact y4, by omega, ?_⟩, ?_⟩ (by omega) (by omega)
    · rw [e15, en]
      refine rd_push (K := 1) y6 (by rw [a49, ec]) (by rw [a50, ec]) (by decide) (fun _ => ?_)
      rw [nz_sub (rfl : ((sy_ai F 25).getD (sy_i F 4).toInt.toNat 0).toInt = _) (by decide : ((34 : Int32)).toInt = 34) (by omega) (by omega)]
      omega
    · rw [ts, wW_eq a51 e16, oO_up hc0 e15 a49 a50, nz_sub (rfl : ((sy_ai F 25).getD (sy_i F 4).toInt.toNat 0).toInt = _) (by decide : ((34 : Int32)).toInt = 34) (by omega) (by omega), ← eK]
      exact yE.trans (cX_v (by omega) (by omega))
  · intros
    rename_i F1 hb g e4 e5 e6 e7 e11 e12 e14 e15 e16 a25 a26 a49 a50 a51
    exact ⟨F1, rfl, rfl, ez_stop F0 ⟨xc_step hx.1 hb g (by decide) (by omega) (by omega) (kp_upd (by omega) e15 a49 a50) (by omega) (by omega), fx_mk u0 (yE.trans (cX_u4 (by omega) (by omega))) e6 (e7.trans eP.symm)⟩ (by omega)⟩
  · intro _ _ _ _ _ _ F1 hb g e4 e5 e6 e7 e11 e12 e14 e15 e16 a25 a26 a49 a50 a51 e69
    have ts : tn F1 = tn F + 1 := tn_s c4.1 e4
    refine h96 F1 ⟨xc_step hx.1 hb g (by decide) (by omega) (by omega) (kp_upd (by omega) e15 a49 a50) (by omega) (by omega), fx_ok u0 (by omega)⟩ ⟨⟨by omega, by omega, fun _ => by omega, g', o, p, by rw [a51, e16]; exact y4, by omega, ?_⟩, ?_⟩ (by omega) (by omega)
    · rw [e15, en]
      exact rd_push (K := 0) y6 (by rw [a49, ec]) (by rw [a50, ec]) (by decide) (fun z => absurd z (by decide))
    · rw [ts, wW_eq a51 e16, oO_up hc0 e15 a49 a50, ← eV]
      exact yE.trans (cX_i (by omega) (by omega))
  · intros
    rename_i F1 hb g e4 e5 e6 e7 e11 e12 e14 e15 e16 a25 a26 a49 a50 a51
    exact ⟨F1, rfl, rfl, ez_stop F0 ⟨xc_step hx.1 hb g (by decide) (by omega) (by omega) (kp_upd (by omega) e15 a49 a50) (by omega) (by omega), fx_mk u0 (yE.trans (cX_u4 (by omega) (by omega))) e6 (e7.trans eP.symm)⟩ (by omega)⟩
  · intros
    rename_i F1 hb g e4 e5 e6 e7 e11 e12 e14 e15 e16 a25 a26 a49 a50 a51 e69
    have ts : tn F1 = tn F + 1 := tn_s c4.1 e4
    refine h23 F1 ⟨xc_step hx.1 hb g (by decide) (by omega) (by omega) (kp_same a49 a50) (by omega) (by omega), fx_ok u0 (by omega)⟩ ⟨⟨by omega, by omega, fun z => absurd z (by decide), 0, o + 1, p, ?_, by omega, by rw [a49, a50, e15]; exact y6⟩, ?_⟩ (by omega) (by omega)
    · rw [a51, e16, e16n]
      exact .opn (ws_upd y4) (by rw [ws_at]; decide)
    · have eW : wW F1 = 6 :: wW F := by
        unfold wW
        rw [a51, e16, e16n]
        exact wlf_up
      rw [ts, eW, oO_eq a49 a50 e15]
      exact yE.trans (cX_o (by omega) (by omega) (by omega))
  · intros
    rename_i F1 hb g e4 e5 e6 e7 e11 e12 e14 e15 e16 a25 a26 a49 a50 a51 e69
    exact ez_23F X1 X2 F0 ⟨xc_step hx.1 hb g (by decide) (by omega) (by omega) (kp_same a49 a50) (by omega) (by omega), fx_mk u0 (yE.trans (cX_o6 (by omega) (by omega) (Or.inr (by omega)))) e6 (e7.trans eP.symm)⟩ (by omega)
  · intros
    rename_i F1 hb g e4 e5 e6 e7 e11 e12 e14 e15 e16 a25 a26 a49 a50 a51 e69
    exact ez_23F X1 X2 F0 ⟨xc_step hx.1 hb g (by decide) (by omega) (by omega) (kp_same a49 a50) (by omega) (by omega), fx_mk u0 (yE.trans (cX_o6 (by omega) (by omega) (Or.inl (by omega)))) e6 (e7.trans eP.symm)⟩ (by omega)
  · intros
    rename_i F1 hb g e4 e5 e6 e7 e11 e12 e14 e15 e16 a25 a26 a49 a50 a51 e69
    exact ez_23F X1 X2 F0 ⟨xc_step hx.1 hb g (by decide) (by omega) (by omega) (kp_same a49 a50) (by omega) (by omega), fx_mk u0 (yE.trans (cX_o6 (by omega) (by omega) (Or.inl (by omega)))) e6 (e7.trans eP.symm)⟩ (by omega)
theorem ez_234' {n : Nat} {F : Nat → sy_d} (h0 : 0 ≤ (sy_i F0 15).toInt) (h12 : z12 X1 X2 F0 Ls xs n) (hx : zc F0 F) (hi : zi 1 F0 F) (h69 : (sy_i F 69).toInt = 0) (hn : 400 - (sy_i F 4).toInt < n + 1) (hk : ((sy_i F 70).toInt = 0 ∧ (((sy_ai F 25).getD (sy_i F 4).toInt.toNat 0).toInt = 8 ∨ ((sy_ai F 25).getD (sy_i F 4).toInt.toNat 0).toInt = 9)) ∨ ((sy_i F 70).toInt ≠ 0 ∧ (((sy_ai F 25).getD (sy_i F 4).toInt.toNat 0).toInt = 10 ∨ ((sy_ai F 25).getD (sy_i F 4).toInt.toNat 0).toInt = 15))) :
    hd_W Ls xs 4 jm_M164 (ez_Q F0 X1 X2) (234, sy_dL F [some (.inl (.ref 1000)), some (.inr (.inl 69)), some (.inl (.int 1))], sy_dS F [.inr (.inl 70), .inl (.ref 1000)], sy_dh F X1 X2 (iv_H 4), 0, 0) := by
  have x3 := hx.1.2.2.1
  have x4 := hx.1.2.2.2
  have c4 := nz_bx hx.1.1.b (k := 4) (lo := 0) (hi := 400) rfl
  have c5 := nz_bx hx.1.1.b (k := 5) (lo := 0) (hi := 7) rfl
  have c12 := nz_bx hx.1.1.b (k := 12) (lo := 0) (hi := 1) rfl
  have c15 := nz_bx hx.1.1.b (k := 15) (lo := 0) (hi := 840) rfl
  have c16 := nz_bx hx.1.1.b (k := 16) (lo := 0) (hi := 64) rfl
  have i12 := hx.1.1.i (k := 12) (by decide) (by decide)
  have x25 := hx.1.1.a (k := 25) (by decide) (by decide)
  have x26 := hx.1.1.a (k := 26) (by decide) (by decide)
  have eK : kf F0 (tn F) = ((sy_ai F 25).getD (sy_i F 4).toInt.toNat 0).toInt := by rw [x25]; rfl
  have eP : pf F0 (tn F) = ((sy_ai F 26).getD (sy_i F 4).toInt.toNat 0).toInt := by rw [x26]; rfl
  have et : (tn F : Int) = (sy_i F 4).toInt := by unfold tn; omega
  have t1 := hx.1.1.t
  obtain ⟨hi, yE⟩ := hi
  have hop : (opn (wW F) : Int) = (sy_i F 5).toInt := by
    obtain ⟨-, -, -, g', o, p, y4, y5, -⟩ := id hi
    exact (congrArg Int.ofNat (opn_ws y4)).trans y5
  have u0 := hx.1.1.u hi.1.1
  refine hd_calV (R := cz_R (sy_i F 70).toInt F) (nh := 69) (nv := 71) (s := 4) (s1 := 4) (d1 := 2) (M1 := jm_M163) (As := [.inl (.ref 1000), .inr (.inl 70)]) (rest := []) jm_ok164 rfl rfl (by decide) (by decide +kernel) (cz_T X1 X2 F hx.1.1.b (by omega) (sy_i F 70)) (fun F3 F' hR p1 p2 => ?_)
  have hR4 := cz_Rdst hR p1
  have hR3 := hR4.1
  have j69 := nz_fi (p2 69 (by decide) (by decide))
  have k4 := hR3.1.i (k := 4) (by decide) (by decide)
  have k5 := hR3.1.i (k := 5) (by decide) (by decide)
  have k25 := hR3.1.a (k := 25) (by decide) (by decide)
  have k26 := hR3.1.a (k := 26) (by decide) (by decide)
  obtain ⟨hx3, ⟨y1, y2, y3⟩, g', o, p, z1, z2, z3, z4, z5⟩ := ex_co F0 h0 hx.1 hi hR3
  obtain ⟨w1, w2, w3⟩ := ws_n z1
  have d5 := nz_bx hx3.1.b (k := 5) (lo := 0) (hi := 7) rfl
  have d16 := nz_bx hx3.1.b (k := 16) (lo := 0) (hi := 64) rfl
  have e16n : ((sy_i F3 16).toInt + 1).toNat = (sy_i F3 16).toInt.toNat + 1 := by omega
  have t3 : tn F3 = tn F := tn_eq k4
  refine exy_237 (by decide) F3 X1 X2 hx3.1.b (by omega) (by omega) (by omega) (by omega) ?_ ?_ ?_
  · intros
    rename_i F1 hb g e4 e5 e6 e7 e11 e12 e14 e15 e16 a25 a26 a49 a50 a51 e69
    have ts : tn F1 = tn F + 1 := by rw [← t3]; exact tn_s (by omega) e4
    have eB : decide ((sy_i F 70).toInt ≠ 0) = decide (kf F0 (tn F) = 10 ∨ kf F0 (tn F) = 15) := by
      rw [eK]
      by_cases q : (sy_i F 70).toInt = 0
      · rw [decide_eq_false (by omega), decide_eq_false (by omega)]
      · rw [decide_eq_true q, decide_eq_true (by omega)]
    have eW : wW F1 = kf F0 (tn F) :: (coS (decide (kf F0 (tn F) = 10 ∨ kf F0 (tn F) = 15)) (wW F)).1 := by
      rw [← eB, ← hR4.2.1, eK, ← k25, ← k4]
      unfold wW
      rw [a51, e16, e16n]
      exact wlf_up
    have eO : oO (c0f F0) F1 = oO (c0f F0) F ++ (coS (decide (kf F0 (tn F) = 10 ∨ kf F0 (tn F) = 15)) (wW F)).2 := by
      rw [← eB, oO_eq a49 a50 e15]
      exact hR4.2.2 (c0f F0) (by unfold c0f; omega)
    have yE2 : crr F0 = cX (kf F0) (vf F0) (tn F1) (wW F1) 0 (oO (c0f F0) F1) := by
      rw [ts, eW, eO]
      exact yE.trans (cX_b (by omega) (by omega))
    refine h12 F1 ⟨xc_step hx3 hb g (by decide) (by omega) (by omega) (kp_same a49 a50) (by omega) (by omega), fx_ok u0 (by omega)⟩ ⟨?_, yE2⟩ (by omega) (by omega)
    rcases hk with ⟨hb0, hk⟩ | hk
    · have hg := z5 hb0
      subst hg
      refine ⟨by omega, by omega, fun z => absurd z (by decide), 1, o, p + 1, ?_, by omega, by rw [a49, a50, e15]; exact z3⟩
      rw [a51, e16, e16n]
      exact .pm (ws_upd z1) (by rw [ws_at, k25, k4]; exact hk)
    · refine ⟨by omega, by omega, fun z => absurd z (by decide), 2, o, p + 1, ?_, by omega, by rw [a49, a50, e15]; exact z3⟩
      rw [a51, e16, e16n]
      exact .td (ws_upd z1) z4 (by rw [ws_at, k25, k4]; exact hk.2)
  · intros
    rename_i F1 hb g e4 e5 e6 e7 e11 e12 e14 e15 e16 a25 a26 a49 a50 a51 e69
    exact ez_12F X1 X2 F0 ⟨xc_step hx3 hb g (by decide) (by omega) (by omega) (kp_same a49 a50) (by omega) (by omega), fx_mk u0 (yE.trans (cX_b4 (by omega) (by omega))) e6 (by rw [e7, k26, k4]; exact eP.symm)⟩ (by omega)
  · intros; exfalso; omega
theorem ez_115' {n : Nat} {F : Nat → sy_d} (h0 : 0 ≤ (sy_i F0 15).toInt) (h96 : z96 X1 X2 F0 Ls xs n) (hx : zc F0 F) (hi : zi 1 F0 F) (h69 : (sy_i F 69).toInt = 0) (hn : 400 - (sy_i F 4).toInt < n + 1) (ho : 0 < (sy_i F 5).toInt) (hk : ((sy_ai F 25).getD (sy_i F 4).toInt.toNat 0).toInt = 7) :
    hd_W Ls xs 4 jm_M164 (ez_Q F0 X1 X2) (115, sy_dL F [some (.inl (.ref 1000)), some (.inr (.inl 69)), some (.inl (.int 1))], sy_dS F [.inl (.int 0), .inl (.ref 1000)], sy_dh F X1 X2 (iv_H 4), 0, 0) := by
  have x3 := hx.1.2.2.1
  have x4 := hx.1.2.2.2
  have c4 := nz_bx hx.1.1.b (k := 4) (lo := 0) (hi := 400) rfl
  have c5 := nz_bx hx.1.1.b (k := 5) (lo := 0) (hi := 7) rfl
  have c12 := nz_bx hx.1.1.b (k := 12) (lo := 0) (hi := 1) rfl
  have c15 := nz_bx hx.1.1.b (k := 15) (lo := 0) (hi := 840) rfl
  have c16 := nz_bx hx.1.1.b (k := 16) (lo := 0) (hi := 64) rfl
  have i12 := hx.1.1.i (k := 12) (by decide) (by decide)
  have x25 := hx.1.1.a (k := 25) (by decide) (by decide)
  have x26 := hx.1.1.a (k := 26) (by decide) (by decide)
  have eK : kf F0 (tn F) = ((sy_ai F 25).getD (sy_i F 4).toInt.toNat 0).toInt := by rw [x25]; rfl
  have eP : pf F0 (tn F) = ((sy_ai F 26).getD (sy_i F 4).toInt.toNat 0).toInt := by rw [x26]; rfl
  have et : (tn F : Int) = (sy_i F 4).toInt := by unfold tn; omega
  have t1 := hx.1.1.t
  obtain ⟨hi, yE⟩ := hi
  have hop : (opn (wW F) : Int) = (sy_i F 5).toInt := by
    obtain ⟨-, -, -, g', o, p, y4, y5, -⟩ := id hi
    exact (congrArg Int.ofNat (opn_ws y4)).trans y5
  have u0 := hx.1.1.u hi.1.1
  refine hd_calV (R := cz_R 0 F) (nh := 69) (nv := 70) (s := 4) (s1 := 4) (d1 := 2) (M1 := jm_M163) (As := [.inl (.ref 1000), .inl (.int 0)]) (rest := []) jm_ok164 rfl rfl (by decide) (by decide +kernel) (cz_T X1 X2 F hx.1.1.b (by omega) 0) (fun F3 F' hR p1 p2 => ?_)
  have hR4 := cz_Rdst hR p1
  have hR3 := hR4.1
  have j69 := nz_fi (p2 69 (by decide) (by decide))
  have k4 := hR3.1.i (k := 4) (by decide) (by decide)
  have k5 := hR3.1.i (k := 5) (by decide) (by decide)
  have k26 := hR3.1.a (k := 26) (by decide) (by decide)
  obtain ⟨hx3, ⟨y1, y2, y3⟩, g', o, p, z1, z2, z3, z4, z5⟩ := ex_co F0 h0 hx.1 hi hR3
  obtain ⟨w1, w2, w3⟩ := ws_n z1
  have d5 := nz_bx hx3.1.b (k := 5) (lo := 0) (hi := 7) rfl
  have d16 := nz_bx hx3.1.b (k := 16) (lo := 0) (hi := 64) rfl
  have hg := z5 rfl
  subst hg
  rw [show (sy_i F3 16).toInt.toNat = ((sy_i F3 16).toInt - 1).toNat + 1 by omega] at z1
  obtain ⟨g2, o', rfl, v1⟩ := ws_open z1
  have t3 : tn F3 = tn F := tn_eq k4
  refine exy_118 (by decide) F3 X1 X2 hx3.1.b (by omega) (by omega) (by omega) (by omega) (by omega) (by omega) ?_ ?_ ?_
  · intros
    rename_i F1 hb g e4 e5 e6 e7 e11 e12 e14 e15 e16 a25 a26 a49 a50 a51 e69
    have ts : tn F1 = tn F + 1 := by rw [← t3]; exact tn_s (by omega) e4
    have eW : wW F1 = (coS false (wW F)).1.tail := by
      have q : wW F3 = (coS false (wW F)).1 := hR4.2.1
      rw [← q, wW_s (F := F3) (by omega)]
      unfold wW
      rw [a51, e16]
      rfl
    have eO : oO (c0f F0) F1 = oO (c0f F0) F ++ (coS false (wW F)).2 := by
      rw [oO_eq a49 a50 e15]
      exact hR4.2.2 (c0f F0) (by unfold c0f; omega)
    have yE2 : crr F0 = cX (kf F0) (vf F0) (tn F1) (wW F1) 1 (oO (c0f F0) F1) := by
      rw [ts, eW, eO]
      exact yE.trans (cX_c (by omega) (by omega) (by omega))
    exact h96 F1 ⟨xc_step hx3 hb g (by decide) (by omega) (by omega) (kp_same a49 a50) (by omega) (by omega), fx_ok u0 (by omega)⟩ ⟨⟨by omega, by omega, fun _ => by omega, g2, o', p, by rw [a51, e16]; exact v1, by omega, by rw [a49, a50, e15]; exact z3⟩, yE2⟩ (by omega) (by omega)
  · intros
    rename_i F1 hb g e4 e5 e6 e7 e11 e12 e14 e15 e16 a25 a26 a49 a50 a51 e69
    exact ez_96F X1 X2 F0 h0 ⟨xc_step hx3 hb g (by decide) (by omega) (by omega) (kp_same a49 a50) (by omega) (by omega), fx_mk u0 (yE.trans (cX_c4 (by omega) (by omega) (by omega))) e6 (by rw [e7, k26, k4]; exact eP.symm)⟩ (by omega)
  · intros; exfalso; omega
theorem z96_of {n : Nat} (h0 : 0 ≤ (sy_i F0 15).toInt) (h96 : z96 X1 X2 F0 Ls xs n) (h12 : z12 X1 X2 F0 Ls xs n) : z96 X1 X2 F0 Ls xs (n + 1) := by
  intro F hx hi h69 hn
  have x3 := hx.1.2.2.1
  have x4 := hx.1.2.2.2
  have c4 := nz_bx hx.1.1.b (k := 4) (lo := 0) (hi := 400) rfl
  have c5 := nz_bx hx.1.1.b (k := 5) (lo := 0) (hi := 7) rfl
  have c12 := nz_bx hx.1.1.b (k := 12) (lo := 0) (hi := 1) rfl
  have c15 := nz_bx hx.1.1.b (k := 15) (lo := 0) (hi := 840) rfl
  have c16 := nz_bx hx.1.1.b (k := 16) (lo := 0) (hi := 64) rfl
  have i12 := hx.1.1.i (k := 12) (by decide) (by decide)
  have x25 := hx.1.1.a (k := 25) (by decide) (by decide)
  have x26 := hx.1.1.a (k := 26) (by decide) (by decide)
  have eK : kf F0 (tn F) = ((sy_ai F 25).getD (sy_i F 4).toInt.toNat 0).toInt := by rw [x25]; rfl
  have eP : pf F0 (tn F) = ((sy_ai F 26).getD (sy_i F 4).toInt.toNat 0).toInt := by rw [x26]; rfl
  have et : (tn F : Int) = (sy_i F 4).toInt := by unfold tn; omega
  have t1 := hx.1.1.t
  obtain ⟨⟨y1, y2, y3, g', o, p, y4, y5, y6⟩, yE⟩ := id hi
  have u0 := hx.1.1.u y1.1
  have y3' := y3 rfl
  have hop : (opn (wW F) : Int) = (sy_i F 5).toInt := (congrArg Int.ofNat (opn_ws y4)).trans y5
  have same : ∀ F1 : Nat → sy_d, (sy_i F1 4).toInt = (sy_i F 4).toInt → (sy_i F1 5).toInt = (sy_i F 5).toInt → (sy_i F1 6).toInt = (sy_i F 6).toInt → (sy_i F1 15).toInt = (sy_i F 15).toInt → (sy_i F1 16).toInt = (sy_i F 16).toInt → sy_ai F1 49 = sy_ai F 49 → sy_ai F1 50 = sy_ai F 50 → sy_ai F1 51 = sy_ai F 51 → zi 1 F0 F1 := by
    intro F1 e4 e5 e6 e15 e16 a49 a50 a51
    exact ⟨⟨by omega, by omega, fun _ => by omega, g', o, p, by rw [a51, e16]; exact y4, by omega, by rw [a49, a50, e15]; exact y6⟩, by rw [tn_eq e4, wW_eq a51 e16, oO_eq a49 a50 e15]; exact yE⟩
  refine exy_96 (by decide) F X1 X2 hx.1.1.b ?_ ?_ ?_ ?_ ?_ ?_ ?_ ?_ ?_ ?_ ?_
  · intros; exfalso; omega
  · intros; exfalso; omega
  · intros
    rename_i F1 hb g e4 e5 e6 e7 e11 e12 e14 e15 e16 a25 a26 a49 a50 a51
    exact ez_206' X1 X2 F0 h0 ⟨xc_step hx.1 hb g (by decide) (by omega) (by omega) (kp_same a49 a50) (by omega) (by omega), fx_ok u0 (by omega)⟩ (Or.inr ⟨same F1 e4 e5 e6 e15 e16 a49 a50 a51, by omega, by rw [tn_eq e4]; omega⟩)
  · intros
    rename_i F1 hb g e4 e5 e6 e7 e11 e12 e14 e15 e16 a25 a26 a49 a50 a51
    exact ez_206' X1 X2 F0 h0 ⟨xc_step hx.1 hb g (by decide) (by omega) (by omega) (kp_same a49 a50) (by omega) (by omega), fx_mk u0 (yE.trans (cX_e1 (by omega) (by omega) (by omega) (by omega))) e6 (e7.trans eP.symm)⟩ (Or.inl (by omega))
  iterate 4
    intros
    rename_i F1 hb g e4 e5 e6 e7 e11 e12 e14 e15 e16 a25 a26 a49 a50 a51 e69 e70
    exact ez_234' X1 X2 F0 h0 h12 ⟨xc_step hx.1 hb g (by decide) (by omega) (by omega) (kp_same a49 a50) (by omega) (by omega), fx_ok u0 (by omega)⟩ (same F1 e4 e5 e6 e15 e16 a49 a50 a51) (by omega) (by omega) (by rw [a25, e4]; omega)
  · intros
    rename_i F1 hb g e4 e5 e6 e7 e11 e12 e14 e15 e16 a25 a26 a49 a50 a51
    exact ez_206' X1 X2 F0 h0 ⟨xc_step hx.1 hb g (by decide) (by omega) (by omega) (kp_same a49 a50) (by omega) (by omega), fx_ok u0 (by omega)⟩ (Or.inr ⟨same F1 e4 e5 e6 e15 e16 a49 a50 a51, by omega, by rw [tn_eq e4]; omega⟩)
  · intros; exfalso; omega
  · intros
    rename_i F1 hb g e4 e5 e6 e7 e11 e12 e14 e15 e16 a25 a26 a49 a50 a51 e69
    exact ez_115' X1 X2 F0 h0 h96 ⟨xc_step hx.1 hb g (by decide) (by omega) (by omega) (kp_same a49 a50) (by omega) (by omega), fx_ok u0 (by omega)⟩ (same F1 e4 e5 e6 e15 e16 a49 a50 a51) (by omega) (by omega) (by omega) (by rw [a25, e4]; omega)
theorem z_all (h0 : 0 ≤ (sy_i F0 15).toInt) : ∀ n : Nat, z96 X1 X2 F0 Ls xs n ∧ z23 X1 X2 F0 Ls xs n
  | 0 => by
    constructor
    · intro F hx _ _ hn
      have c4 := nz_bx hx.1.1.b (k := 4) (lo := 0) (hi := 400) rfl
      omega
    · intro F hx _ _ hn
      have c4 := nz_bx hx.1.1.b (k := 4) (lo := 0) (hi := 400) rfl
      omega
  | n + 1 => by
    obtain ⟨a, b⟩ := z_all h0 n
    exact ⟨z96_of X1 X2 F0 h0 a (z12_of X1 X2 F0 b), z23_of X1 X2 F0 h0 b a⟩
theorem ez_T (hB : iv_in F0 iv_B4) (h1 : (sy_i F0 6).toInt = 0 → (sy_i F0 5).toInt = 0 ∧ (sy_i F0 15).toInt ≤ 420 * (sy_i F0 12).toInt + (sy_i F0 4).toInt) (h2 : (sy_i F0 15).toInt ≤ 420 * (sy_i F0 12).toInt + (sy_i F0 4).toInt + 1) :
    jm_T Ls xs 4 jm_M164 [.ref 1000] (sy_dh F0 X1 X2 (iv_H 4)) 0 0 (ez_Q F0 X1 X2) := by
  have c15 := nz_bx hB (k := 15) (lo := 0) (hi := 840) rfl
  have c4 := nz_bx hB (k := 4) (lo := 0) (hi := 400) rfl
  refine nz_T0 jm_ok164 (by decide) (exy_0 (by decide) F0 X1 X2 hB ?_)
  intro F hb g e4 e5 e6 e7 e11 e12 e14 e15 e16 a25 a26 a49 a50 a51 e69
  have hx : xc F0 F := ⟨gr_mk hb g (by decide) (by omega) (by omega), kp_same a49 a50, by omega, by omega⟩
  by_cases hf : (sy_i F 6).toInt = 0
  · have h1' := h1 (by omega)
    refine z12_of X1 X2 F0 (z_all X1 X2 F0 c15.1 401).2 F ⟨hx, fx_ok (by omega) hf⟩ ⟨⟨by omega, by omega, fun z => absurd z (by decide), 0, 0, 0, ?_, by omega, ?_⟩, ?_⟩ (by omega) (by omega)
    · rw [show (sy_i F 16).toInt.toNat = 0 by omega]
      exact .nil
    · rw [show ((sy_i F 15).toInt - (sy_i F0 15).toInt).toNat = 0 by omega]
      exact .nil
    · have eW : wW F = [] := by
        unfold wW
        rw [show (sy_i F 16).toInt.toNat = 0 by omega]
        rfl
      have eO : oO (c0f F0) F = [] := by
        unfold oO c0f
        rw [show ((sy_i F 15).toInt - ((sy_i F0 15).toInt.toNat : Int)).toNat = 0 by omega]
        rfl
      rw [tn_eq e4, eW, eO]
      rfl
  · exact ez_12F X1 X2 F0 ⟨hx, ⟨fun q => absurd e6 (by omega), fun _ => ⟨e6, e7⟩⟩⟩ hf
end EZ
end
section
/-! ===== what a law is put as: branch by branch ===== -/
abbrev bRT : Type := Option (List rO × List rO) × List rO
section ZI
variable (K V : Nat → Int)
noncomputable def zLast (acc : List bRT) (t : Nat) : sE ⊕ (Nat × List bRT) := sB (cX K V t [] 0 []) fun p => sB (sM K 4 p.1) fun t => .inr (t, acc ++ [(none, p.2)])
noncomputable def zc6 (f : List bRT → Nat → sE ⊕ (Nat × List bRT)) (acc : List bRT) (u v w : List rO) (t : Nat) : sE ⊕ (Nat × List bRT) := sB (sM K 33 t) (f (acc ++ [(some (u, v), w)]))
noncomputable def zc5 (f : List bRT → Nat → sE ⊕ (Nat × List bRT)) (acc : List bRT) (u v : List rO) (t : Nat) : sE ⊕ (Nat × List bRT) := sB (cX K V t [] 0 []) fun p => zc6 K f acc u v p.2 p.1
noncomputable def zc4 (f : List bRT → Nat → sE ⊕ (Nat × List bRT)) (acc : List bRT) (u v : List rO) (t : Nat) : sE ⊕ (Nat × List bRT) := sB (sM K 32 t) (zc5 K V f acc u v)
noncomputable def zc3 (f : List bRT → Nat → sE ⊕ (Nat × List bRT)) (acc : List bRT) (u : List rO) (t : Nat) : sE ⊕ (Nat × List bRT) := sB (cX K V t [] 0 []) fun p => zc4 K V f acc u p.2 p.1
noncomputable def zc2 (f : List bRT → Nat → sE ⊕ (Nat × List bRT)) (acc : List bRT) (u : List rO) (t : Nat) : sE ⊕ (Nat × List bRT) := sB (sM K 13 t) (zc3 K V f acc u)
noncomputable def zc1 (f : List bRT → Nat → sE ⊕ (Nat × List bRT)) (acc : List bRT) (t : Nat) : sE ⊕ (Nat × List bRT) := sB (cX K V t [] 0 []) fun p => zc2 K V f acc p.2 p.1
noncomputable def zI : Nat → List bRT → Nat → sE ⊕ (Nat × List bRT)
  | 0, acc, t => if K t = 31 then .inl (2, t) else zLast K V acc t
  | n + 1, acc, t => if K t = 31 then sB (sG t) (zc1 K V (zI n) acc) else zLast K V acc t
noncomputable def zLw (t : Nat) : sE ⊕ (Nat × List bRT) := sB (sM K 5 t) (zI K V 4 [])
theorem z_if {n t : Nat} {acc : List bRT} (h : K t = 31) : zI K V (n + 1) acc t = sB (sG t) (zc1 K V (zI K V n) acc) := by
  show (if K t = 31 then _ else _) = _
  rw [if_pos h]
theorem z_if0 {t : Nat} {acc : List bRT} (h : K t = 31) : zI K V 0 acc t = .inl (2, t) := by
  show (if K t = 31 then _ else _) = _
  rw [if_pos h]
theorem z_no {n t : Nat} {acc : List bRT} (h : K t ≠ 31) : zI K V n acc t = zLast K V acc t := by
  cases n with
  | zero =>
    show (if K t = 31 then _ else _) = _
    rw [if_neg h]
  | succ n =>
    show (if K t = 31 then _ else _) = _
    rw [if_neg h]
end ZI
/-! ===== what the reference has put ===== -/
noncomputable def cut_ (F : Nat → sy_d) (x y : Int) : List rO := clf (sy_ai F 49) (sy_ai F 50) x.toNat (y - x).toNat
noncomputable def ix (F : Nat → sy_d) (a b : Nat) : Int := ((sy_ai F a).getD b 0).toInt
noncomputable def bq (F : Nat → sy_d) (b : Nat) : bRT := (if (sy_ai F 44).getD b 0 = 1 then some (cut_ F (ix F 45 b) (ix F 46 b), cut_ F (ix F 46 b) (ix F 47 b)) else none, cut_ F (ix F 47 b) (ix F 48 b))
noncomputable def bL (F : Nat → sy_d) (b0 : Nat) : Nat → List bRT
  | 0 => []
  | n + 1 => bL F b0 n ++ [bq F (b0 + n)]
noncomputable def aA (F0 F : Nat → sy_d) : List bRT := bL F (sy_i F0 14).toInt.toNat ((sy_i F 14).toInt - (sy_i F0 14).toInt).toNat
noncomputable def bN (F : Nat → sy_d) : Nat := (sy_i F 14).toInt.toNat
noncomputable def uU (F : Nat → sy_d) : List rO := cut_ F (ix F 45 (bN F)) (ix F 46 (bN F))
noncomputable def vV (F : Nat → sy_d) : List rO := cut_ F (ix F 46 (bN F)) (sy_i F 15).toInt
noncomputable def uu1 (F : Nat → sy_d) : List rO := cut_ F (ix F 45 (bN F)) (sy_i F 15).toInt
theorem cut_kp {F F1 : Nat → sy_d} {x y : Int} (h0 : 0 ≤ x) (hy : y ≤ (sy_i F 15).toInt) (hk : kp F F1) : cut_ F1 x y = cut_ F x y := by
  unfold cut_
  exact clf_eq _ (fun i h1 h2 => hk i (Or.inl (by omega)))
theorem cut_eq {F F1 : Nat → sy_d} {x y : Int} (a49 : sy_ai F1 49 = sy_ai F 49) (a50 : sy_ai F1 50 = sy_ai F 50) : cut_ F1 x y = cut_ F x y := by
  unfold cut_
  rw [a49, a50]
theorem bq_kp {F F1 : Nat → sy_d} {sd b : Nat} (h : rp_br F sd (sy_i F 15).toInt b) (hs : s5 F F1 b) (hk : kp F F1) : bq F1 b = bq F b := by
  obtain ⟨s1, s2, s3, s4, s6⟩ := hs
  obtain ⟨h1, h2⟩ := h
  unfold bq ix
  rw [s1, s2, s3, s4, s6]
  have e2 : cut_ F1 ((sy_ai F 47).getD b 0).toInt ((sy_ai F 48).getD b 0).toInt = cut_ F ((sy_ai F 47).getD b 0).toInt ((sy_ai F 48).getD b 0).toInt := cut_kp (by have := h2.1; omega) h2.2.1 hk
  rw [e2]
  by_cases q : (sy_ai F 44).getD b 0 = 1
  · obtain ⟨y1, y2⟩ := h1 q
    rw [if_pos q, if_pos q, cut_kp (by have := y1.1; omega) y1.2.1 hk, cut_kp (by have := y2.1; omega) y2.2.1 hk]
  · rw [if_neg q, if_neg q]
theorem bL_kp {F F1 : Nat → sy_d} {b0 : Nat} : ∀ n : Nat, (∀ b, b0 ≤ b → b < b0 + n → bq F1 b = bq F b) → bL F1 b0 n = bL F b0 n
  | 0, _ => rfl
  | n + 1, h => by
    unfold bL
    rw [h (b0 + n) (by omega) (by omega), bL_kp n (fun b h1 h2 => h b h1 (by omega))]
theorem aA_st {j : Int} {F0 F F1 : Nat → sy_d} (hb0 : 0 ≤ (sy_i F0 14).toInt) (h : li j F0 F) (e14 : (sy_i F1 14).toInt = (sy_i F 14).toInt) (hs : ∀ b : Nat, (b : Int) ≠ (sy_i F 14).toInt → s5 F F1 b) (hk : kp F F1) : aA F0 F1 = aA F0 F := by
  unfold aA
  rw [e14]
  exact bL_kp _ (fun b h1 h2 => bq_kp (h.2.2.2 b (by omega) (by omega)) (hs b (by omega)) hk)
theorem aA_same {F0 F F1 : Nat → sy_d} (e14 : (sy_i F1 14).toInt = (sy_i F 14).toInt) (a44 : sy_ai F1 44 = sy_ai F 44) (a45 : sy_ai F1 45 = sy_ai F 45) (a46 : sy_ai F1 46 = sy_ai F 46) (a47 : sy_ai F1 47 = sy_ai F 47) (a48 : sy_ai F1 48 = sy_ai F 48) (a49 : sy_ai F1 49 = sy_ai F 49) (a50 : sy_ai F1 50 = sy_ai F 50) : aA F0 F1 = aA F0 F := by
  unfold aA
  rw [e14]
  exact bL_kp _ (fun b _ _ => by unfold bq ix cut_; rw [a44, a45, a46, a47, a48, a49, a50])
theorem uv_same {F F1 : Nat → sy_d} (e14 : (sy_i F1 14).toInt = (sy_i F 14).toInt) (e15 : (sy_i F1 15).toInt = (sy_i F 15).toInt) (a45 : sy_ai F1 45 = sy_ai F 45) (a46 : sy_ai F1 46 = sy_ai F 46) (a49 : sy_ai F1 49 = sy_ai F 49) (a50 : sy_ai F1 50 = sy_ai F 50) : uU F1 = uU F ∧ vV F1 = vV F := by
  unfold uU vV bN ix cut_
  rw [e14, e15, a45, a46, a49, a50]
  exact ⟨rfl, rfl⟩
/-- a branch more -/
theorem aA_push {j : Int} {F0 F F1 : Nat → sy_d} (hb0 : 0 ≤ (sy_i F0 14).toInt) (h14 : (sy_i F0 14).toInt ≤ (sy_i F 14).toInt) (h : li j F0 F) (e14 : (sy_i F1 14).toInt = (sy_i F 14).toInt + 1) (hs : ∀ b : Nat, (b : Int) ≠ (sy_i F 14).toInt → s5 F F1 b) (hk : kp F F1) : aA F0 F1 = aA F0 F ++ [bq F1 (bN F)] := by
  unfold aA
  rw [show ((sy_i F1 14).toInt - (sy_i F0 14).toInt).toNat = ((sy_i F 14).toInt - (sy_i F0 14).toInt).toNat + 1 by omega]
  show bL F1 _ _ ++ [_] = _
  rw [bL_kp (F := F) _ (fun b h1 h2 => bq_kp (h.2.2.2 b (by omega) (by omega)) (hs b (by omega)) hk), show (sy_i F0 14).toInt.toNat + ((sy_i F 14).toInt - (sy_i F0 14).toInt).toNat = bN F by unfold bN; omega]
end
section
/-! ===== the reference puts terms and laws ===== -/
noncomputable def trz_R (F F' : Nat → sy_d) : Prop := tr_R F F' ∧ fx (crr F) F F' ∧ ((sy_i F' 6).toInt = 0 → crr F = .inr (tn F', cut_ F' (sy_i F 15).toInt (sy_i F' 15).toInt))
theorem trz_Rdst {F F' F2 : Nat → sy_d} (h : trz_R F F') (e : ∀ q, q < 69 → F2 q = F' q) : trz_R F F2 := by
  have i4 := nz_fi (e 4 (by decide))
  have i6 := nz_fi (e 6 (by decide))
  have i7 := nz_fi (e 7 (by decide))
  exact ⟨tr_Rdst h.1 e, fx_same h.2.1 i6 i7, fun z => by rw [tn_eq i4, cut_eq (nz_fa (e 49 (by decide))) (nz_fa (e 50 (by decide))), nz_fi (e 15 (by decide))]; exact h.2.2 (by rw [← i6]; exact z)⟩
theorem oO_cut {F F1 : Nat → sy_d} (h0 : 0 ≤ (sy_i F 15).toInt) : oO (c0f F) F1 = cut_ F1 (sy_i F 15).toInt (sy_i F1 15).toInt := by
  unfold oO c0f cut_
  rw [show ((sy_i F1 15).toInt - ((sy_i F 15).toInt.toNat : Int)).toNat = ((sy_i F1 15).toInt - (sy_i F 15).toInt).toNat by omega]
theorem bq_n {F : Nat → sy_d} {b : Nat} {x y : Int} (h44 : (sy_ai F 44).getD b 0 ≠ 1) (h47 : ix F 47 b = x) (h48 : ix F 48 b = y) : bq F b = (none, cut_ F x y) := by
  unfold bq
  rw [if_neg h44, h47, h48]
theorem bq_s {F : Nat → sy_d} {b : Nat} {p q x y : Int} (h44 : (sy_ai F 44).getD b 0 = 1) (h45 : ix F 45 b = p) (h46 : ix F 46 b = q) (h47 : ix F 47 b = x) (h48 : ix F 48 b = y) : bq F b = (some (cut_ F p q, cut_ F q x), cut_ F x y) := by
  unfold bq
  rw [if_pos h44, h45, h46, h47, h48]
section TRZ
variable {Ls : Nat} {xs : Nat → Int32} (X1 X2 : List jm_c) (F : Nat → sy_d)
theorem trz_e (F1 : Nat → sy_d) (hG : gr WT F F1) (hk : kp F F1) (hs : ∀ b : Nat, (b : Int) ≠ (sy_i F 14).toInt → s5 F F1 b) (h14 : (sy_i F1 14).toInt = (sy_i F 14).toInt) (hb : (sy_i F 14).toInt < 260) (h5 : (sy_i F 15).toInt ≤ (sy_i F1 15).toInt) (h6 : (sy_i F1 15).toInt ≤ 420 * (sy_i F 12).toInt + (sy_i F1 4).toInt + 1)
    (h7 : (sy_i F1 6).toInt = 0 → (sy_i F 4).toInt + 1 ≤ (sy_i F1 4).toInt ∧ (sy_i F1 5).toInt = 0 ∧ (sy_i F1 15).toInt ≤ 420 * (sy_i F 12).toInt + (sy_i F1 4).toInt ∧ ((sy_ai F1 47).getD (sy_i F 14).toInt.toNat 0).toInt = (sy_i F 15).toInt ∧ rp_go (sy_ai F1 49) (sy_ai F1 50) ((sy_i F1 15).toInt - (sy_i F 15).toInt).toNat (sy_i F 15).toInt.toNat 0) (hf : fx (crr F) F F1) (hr : (sy_i F1 6).toInt = 0 → crr F = .inr (tn F1, cut_ F1 (sy_i F 15).toInt (sy_i F1 15).toInt)) :
    hd_W Ls xs 5 jm_M161 (fun v G => ∃ F' : Nat → sy_d, v = none ∧ G = sy_dh F' X1 X2 (iv_H 4) ∧ trz_R F F') (24, sy_dL F1 [some (.inl (.ref 1000))], sy_dS F1 [], sy_dh F1 X1 X2 (iv_H 4), 0, 0) := by
  have c14 := nz_bx hG.b (k := 14) (lo := 0) (hi := 260) rfl
  refine try_24 (by decide) F1 X1 X2 hG.b (by omega) (by omega) ?_
  intro F2 hb2 g e4 e5 e6 e7 e8 e9 e11 e12 e14 e15 e16 a25 a26 a44 a45 a46 a47 a48 a49 a50
  refine ⟨F2, rfl, rfl, ⟨hG.trans (gr_mk (W := WT) hb2 g (by decide) (by omega) (by omega)) (by decide), kp_trans hk (kp_same a49 a50) h5 (by omega), fun b q => s5_trans (hs b q) ?_, by omega, by omega, by omega, fun z => ?_⟩, fx_same hf e6 e7, fun z => by rw [tn_eq e4, cut_eq a49 a50, e15]; exact hr (by omega)⟩
  · refine ⟨by rw [a44], by rw [a45], by rw [a46], by rw [a47], ?_⟩
    rw [a48, jm_upd_at, if_neg (by omega)]
  · obtain ⟨y1, y2, y3, y4, y5⟩ := h7 (by omega)
    refine ⟨by omega, by omega, by omega, by rw [a47]; exact y4, ?_, by rw [a49, a50, e15]; exact y5⟩
    rw [a48, jm_upd_at, if_pos (by omega), e15]
theorem trz_T (hB : iv_in F iv_B4) (h1 : (sy_i F 6).toInt = 0 → (sy_i F 5).toInt = 0 ∧ (sy_i F 15).toInt ≤ 420 * (sy_i F 12).toInt + (sy_i F 4).toInt) (h2 : (sy_i F 15).toInt ≤ 420 * (sy_i F 12).toInt + (sy_i F 4).toInt + 1) (hb : (sy_i F 14).toInt < 260) :
    jm_T Ls xs 5 jm_M161 [.ref 1000] (sy_dh F X1 X2 (iv_H 4)) 0 0 (fun v G => ∃ F' : Nat → sy_d, v = none ∧ G = sy_dh F' X1 X2 (iv_H 4) ∧ trz_R F F') := by
  have c14 := nz_bx hB (k := 14) (lo := 0) (hi := 260) rfl
  have s5u : ∀ F1 : Nat → sy_d, sy_ai F1 44 = sy_ai F 44 → sy_ai F1 45 = sy_ai F 45 → sy_ai F1 46 = sy_ai F 46 → sy_ai F1 47 = jm_upd (sy_ai F 47) (sy_i F 14).toInt.toNat (sy_i F 15) → sy_ai F1 48 = sy_ai F 48 → ∀ b : Nat, (b : Int) ≠ (sy_i F 14).toInt → s5 F F1 b := by
    intro F1 a44 a45 a46 a47 a48 b q
    refine ⟨by rw [a44], by rw [a45], by rw [a46], ?_, by rw [a48]⟩
    rw [a47, jm_upd_at, if_neg (by omega)]
  refine nz_T0 jm_ok161 (by decide) (try_0 (by decide) F X1 X2 hB (by omega) ?_ ?_)
  · intro q F1 hb g e4 e5 e6 e7 e8 e9 e11 e12 e14 e15 e16 a25 a26 a44 a45 a46 a47 a48 a49 a50
    exact trz_e X1 X2 F F1 (gr_mk hb g (by decide) (by omega) (by omega)) (kp_same a49 a50) (s5u F1 a44 a45 a46 a47 a48) e14 (by assumption) (by omega) (by omega) (fun z => absurd z (by omega)) ⟨fun z => absurd z q, fun _ => ⟨e6, e7⟩⟩ (fun z => absurd z (by omega))
  · intro q F1 hb g e4 e5 e6 e7 e8 e9 e11 e12 e14 e15 e16 a25 a26 a44 a45 a46 a47 a48 a49 a50
    have hG : gr WT F F1 := gr_mk hb g (by decide) (by omega) (by omega)
    have h1' := h1 q
    have eE : crr F1 = crr F := by
      unfold crr
      rw [kf_eq (g 25 (by decide) (by decide)), vf_eq (g 27 (by decide) (by decide)), tn_eq e4]
    refine hd_calV (R := zr F1) (nh := 69) (nv := 69) (s := 4) (s1 := 4) (d1 := 4) (M1 := jm_M164) (As := [.inl (.ref 1000)]) (rest := []) jm_ok161 rfl rfl (by decide) (by decide +kernel) (ez_T X1 X2 F1 hb (by omega) (by omega)) (fun F3 F' hR p1 _ => ?_)
    obtain ⟨⟨x1, x2, x3, x4, x5⟩, y1, y2⟩ := zr_dst hR p1
    rw [eE] at y1 y2
    have b44 := x1.a (k := 44) (by decide) (by decide)
    have b45 := x1.a (k := 45) (by decide) (by decide)
    have b46 := x1.a (k := 46) (by decide) (by decide)
    have b47 := x1.a (k := 47) (by decide) (by decide)
    have b48 := x1.a (k := 48) (by decide) (by decide)
    have j14 := x1.i (k := 14) (by decide) (by decide)
    refine trz_e X1 X2 F F3 (hG.trans x1 (by decide)) (kp_trans (kp_same a49 a50) x2 (by omega) (by omega)) (fun b q => s5_trans (s5u F1 a44 a45 a46 a47 a48 b q) (s5_same b44 b45 b46 b47 b48 b)) (by omega) (by assumption) (by omega) (by omega) (fun z => ?_) ?_ (fun z => by rw [y2 z, oO_cut (F := F1) (by have := nz_bx hb (k := 15) (lo := 0) (hi := 840) rfl; omega), e15])
    · obtain ⟨y1, y2, y3, y4⟩ := x5 z
      rw [e15] at y4
      refine ⟨by omega, y2, by omega, ?_, y4⟩
      rw [b47, a47, jm_upd_at, if_pos rfl]
    · refine ⟨fun a b => ?_, fun a => absurd q a⟩
      obtain ⟨tok, t1, t2⟩ := y1.1 (by omega) b
      exact ⟨tok, t1, by rw [t2, pf_eq (g 26 (by decide) (by decide))]⟩
end TRZ
noncomputable def lrz (F0 : Nat → sy_d) : sE ⊕ (Nat × List bRT) := zLw (kf F0) (vf F0) (tn F0)
noncomputable def tlz_R (k : Int) (F0 F' : Nat → sy_d) : Prop := tl_R k F0 F' ∧ fx (lrz F0) F0 F' ∧ ((sy_i F' 6).toInt = 0 → lrz F0 = .inr (tn F', aA F0 F'))
noncomputable def tlz_Q (k : Int) (F0 : Nat → sy_d) (X1 X2 : List jm_c) (v : Option Value) (G : jm_h) : Prop := ∃ F' : Nat → sy_d, v = none ∧ G = sy_dh F' X1 X2 (iv_H 4) ∧ tlz_R k F0 F'
section TLZ
variable {Ls : Nat} {xs : Nat → Int32} (X1 X2 : List jm_c) (F0 : Nat → sy_d) (k : Int)
theorem tlz_143' (hb0 : 0 ≤ (sy_i F0 14).toInt) (hk : 0 ≤ k ∧ k ≤ 5) (F : Nat → sy_d) (hx : lc 101 F0 F) (hf : fx (lrz F0) F0 F) (hi : (sy_i F 6).toInt = 0 → li (-1) F0 F ∧ (sy_i F0 4).toInt + 1 ≤ (sy_i F 4).toInt) (heq : (sy_i F 6).toInt = 0 → lrz F0 = sB (sM (kf F0) 4 (tn F)) (fun t => .inr (t, aA F0 F))) (h69 : (sy_i F 69).toInt = k) (h70 : (sy_i F 70).toInt = (sy_i F0 14).toInt) :
    hd_W Ls xs 6 jm_M160 (tlz_Q k F0 X1 X2) (143, sy_dL F [some (.inl (.ref 1000)), some (.inr (.inl 69)), some (.inr (.inl 70)), none], sy_dS F [], sy_dh F X1 X2 (iv_H 4), 0, 0) := by
  obtain ⟨x1, x2, x3, x4, x5, x6, x7⟩ := id hx
  have i12 := x1.i (k := 12) (by decide) (by decide)
  have c12 := nz_bx x1.b (k := 12) (lo := 0) (hi := 1) rfl
  have c14 := nz_bx x1.b (k := 14) (lo := 0) (hi := 260) rfl
  have q4 := nz_bx x1.b (k := 4) (lo := 0) (hi := 400) rfl
  have x25 := x1.a (k := 25) (by decide) (by decide)
  have x26 := x1.a (k := 26) (by decide) (by decide)
  have eK : kf F0 (tn F) = ((sy_ai F 25).getD (sy_i F 4).toInt.toNat 0).toInt := by rw [x25]; rfl
  have eP : pf F0 (tn F) = ((sy_ai F 26).getD (sy_i F 4).toInt.toNat 0).toInt := by rw [x26]; rfl
  have z4 := nz_bx x1.b (k := 4) (lo := 0) (hi := 400) rfl
  have et : (tn F : Int) = (sy_i F 4).toInt := by unfold tn; omega
  refine tly_143 (by decide) F X1 X2 x1.b (by omega) (fun _ _ _ _ => by omega) ?_ ?_ ?_ ?_
  · intros
    rename_i F1 hb g e4 e5 e6 e7 e8 e9 e11 e12 e14 e15 e16 a25 a26 a42 a43 a44 a45 a46 a47 a48 a49 a50
    refine ⟨F1, rfl, rfl, lc_end (lc_step hx hb g (by decide) (by omega) (by omega) (kp_same a49 a50) (fun b _ => s5_same a44 a45 a46 a47 a48 b) (by omega) (by omega) (by omega) (by omega)) (by omega), ?_, fun z => absurd z (by omega)⟩
    first
      | exact fx_same hf e6 e7
      | exact fx_mk (x1.u (by omega)) (by rw [heq (by omega), sM_no (by omega)]; rfl) e6 (e7.trans eP.symm)
      | exact fx_mk (x1.u (by omega)) (by rw [heq (by omega), sM_4 (by omega) (by omega)]; rfl) e6 (e7.trans eP.symm)
  · intros
    rename_i F1 hb g e4 e5 e6 e7 e8 e9 e11 e12 e14 e15 e16 a25 a26 a42 a43 a44 a45 a46 a47 a48 a49 a50
    refine ⟨F1, rfl, rfl, lc_end (lc_step hx hb g (by decide) (by omega) (by omega) (kp_same a49 a50) (fun b _ => s5_same a44 a45 a46 a47 a48 b) (by omega) (by omega) (by omega) (by omega)) (by omega), ?_, fun z => absurd z (by omega)⟩
    first
      | exact fx_same hf e6 e7
      | exact fx_mk (x1.u (by omega)) (by rw [heq (by omega), sM_no (by omega)]; rfl) e6 (e7.trans eP.symm)
      | exact fx_mk (x1.u (by omega)) (by rw [heq (by omega), sM_4 (by omega) (by omega)]; rfl) e6 (e7.trans eP.symm)
  · intros
    rename_i q6 _ _ _ F1 hb g e4 e5 e6 e7 e8 e9 e11 e12 e14 e15 e16 a25 a26 a42 a43 a44 a45 a46 a47 a48 a49 a50
    obtain ⟨y1, y2⟩ := hi q6
    obtain ⟨z1, z2, z3, zz4⟩ := id y1
    have s5e : ∀ b : Nat, (b : Int) ≠ (sy_i F 14).toInt → s5 F F1 b := fun b _ => s5_same a44 a45 a46 a47 a48 b
    have ei : (6 * (sy_i F 12).toInt + (sy_i F 69).toInt).toNat = (6 * (sy_i F0 12).toInt + k).toNat := by omega
    have b42 := x1.a (k := 42) (by decide) (by decide)
    have b43 := x1.a (k := 43) (by decide) (by decide)
    refine ⟨F1, rfl, rfl, ⟨(x1.mono (by decide)).trans (gr_mk (W := WLL) hb g (by decide) (by omega) (by omega)) (by decide), kp_trans x2 (kp_same a49 a50) x4 (by omega), kb_step x3 s5e x5 (by omega), by omega, by omega, by omega, by omega, fun i q => ?_, fun _ => ⟨li_step y1 (by omega) (by omega) (by omega) e14 s5e (kp_same a49 a50) (by omega), by omega, ?_, ?_⟩⟩, fx_same hf e6 e7, fun _ => ?_⟩
    · rw [a42, a43, jm_upd_at, jm_upd_at, if_neg (by omega), if_neg (by omega), b42, b43]
      exact ⟨rfl, rfl⟩
    · rw [a42, jm_upd_at, if_pos ei.symm]
      exact h70
    · rw [a43, jm_upd_at, if_pos ei.symm]
      exact e14.symm
    · rw [heq q6, sM_ok (by omega) (by omega), tn_s z4.1 e4, aA_same e14 a44 a45 a46 a47 a48 a49 a50]
      rfl
  · intros
    rename_i F1 hb g e4 e5 e6 e7 e8 e9 e11 e12 e14 e15 e16 a25 a26 a42 a43 a44 a45 a46 a47 a48 a49 a50
    refine ⟨F1, rfl, rfl, lc_end (lc_step hx hb g (by decide) (by omega) (by omega) (kp_same a49 a50) (fun b _ => s5_same a44 a45 a46 a47 a48 b) (by omega) (by omega) (by omega) (by omega)) (by omega), ?_, fun z => absurd z (by omega)⟩
    first
      | exact fx_same hf e6 e7
      | exact fx_mk (x1.u (by omega)) (by rw [heq (by omega), sM_no (by omega)]; rfl) e6 (e7.trans eP.symm)
      | exact fx_mk (x1.u (by omega)) (by rw [heq (by omega), sM_4 (by omega) (by omega)]; rfl) e6 (e7.trans eP.symm)
theorem tlz_140' (hb0 : 0 ≤ (sy_i F0 14).toInt) (hF0 : 420 * (sy_i F0 12).toInt ≤ (sy_i F0 15).toInt) (hk : 0 ≤ k ∧ k ≤ 5) (F : Nat → sy_d) (hx : lc 100 F0 F) (hf : fx (lrz F0) F0 F) (hi : (sy_i F 6).toInt = 0 → li 2 F0 F ∧ (sy_ai F 44).getD (sy_i F 14).toInt.toNat 0 = 0) (heq : (sy_i F 6).toInt = 0 → lrz F0 = zLast (kf F0) (vf F0) (aA F0 F) (tn F)) (h69 : (sy_i F 69).toInt = k) (h70 : (sy_i F 70).toInt = (sy_i F0 14).toInt) :
    hd_W Ls xs 6 jm_M160 (tlz_Q k F0 X1 X2) (140, sy_dL F [some (.inl (.ref 1000)), some (.inr (.inl 69)), some (.inr (.inl 70)), none], sy_dS F [.inl (.ref 1000)], sy_dh F X1 X2 (iv_H 4), 0, 0) := by
  obtain ⟨x1, x2, x3, x4, x5, x6, x7⟩ := id hx
  have i12 := x1.i (k := 12) (by decide) (by decide)
  have c12 := nz_bx x1.b (k := 12) (lo := 0) (hi := 1) rfl
  have c14 := nz_bx x1.b (k := 14) (lo := 0) (hi := 260) rfl
  have q4 := nz_bx x1.b (k := 4) (lo := 0) (hi := 400) rfl
  refine hd_calV (R := trz_R F) (nh := 69) (nv := 71) (s := 4) (s1 := 4) (d1 := 5) (M1 := jm_M161) (As := [.inl (.ref 1000)]) (rest := []) jm_ok160 rfl rfl (by decide) (by decide +kernel) (trz_T X1 X2 F x1.b (fun z => ?_) (by omega) (by omega)) (fun F3 F' hR p1 p2 => ?_)
  · obtain ⟨⟨y1, y2, -⟩, -⟩ := hi z
    omega
  obtain ⟨hR3, r2, r3⟩ := trz_Rdst hR p1
  have j69 := nz_fi (p2 69 (by decide) (by decide))
  have j70 := nz_fi (p2 70 (by decide) (by decide))
  obtain ⟨u1, u2⟩ := tl_term (m := 100) (j := 2) (j' := -1) F0 hF0 hx (fun z => ⟨(hi z).1, fun q => absurd ((hi z).2.symm.trans q) (by decide)⟩) hR3 (by omega)
  have t1 := x1.t
  have eE : crr F = cX (kf F0) (vf F0) (tn F) [] 0 [] := by unfold crr; rw [kf_eq (x1.f 25 (by decide) (by decide)), vf_eq (x1.f 27 (by decide) (by decide))]
  rw [eE] at r2 r3
  have hP := pf_eq (x1.f 26 (by decide) (by decide))
  exact tlz_143' X1 X2 F0 k hb0 hk F3 u1 (fx_bind hf r2 hP (x1.u) (fun z => heq z)) (fun z => ⟨(u2 z).1, by have := (u2 z).2; omega⟩) (fun z => by
    have y0 := hi (hR3.1.u z)
    obtain ⟨-, -, -, y47, y48, -⟩ := hR3.2.2.2.2.2.2 z
    have hA : aA F0 F3 = aA F0 F ++ [(none, cut_ F3 (sy_i F 15).toInt (sy_i F3 15).toInt)] := by
      rw [aA_push hb0 x5 y0.1 hR3.2.2.2.1 hR3.2.2.1 hR3.2.1]
      rw [bq_n (b := bN F) (by rw [hR3.1.a (k := 44) (by decide) (by decide)]; intro q; exact absurd (y0.2.symm.trans q) (by decide)) y47 y48]
    rw [heq (hR3.1.u z), hA]
    show sB _ _ = _
    rw [r3 z]
    rfl) (by omega) (by omega)
/-- the loop's head, with n ifs left -/
noncomputable def tz12 (Ls : Nat) (xs : Nat → Int32) (n : Nat) : Prop := ∀ F : Nat → sy_d, lc 100 F0 F → fx (lrz F0) F0 F → ((sy_i F 6).toInt = 0 → li 2 F0 F) → ((sy_i F 6).toInt = 0 → lrz F0 = zI (kf F0) (vf F0) n (aA F0 F) (tn F)) → (sy_i F 69).toInt = k → (sy_i F 70).toInt = (sy_i F0 14).toInt → (sy_i F 71).toInt = 4 - n →
    hd_W Ls xs 6 jm_M160 (tlz_Q k F0 X1 X2) (12, sy_dL F [some (.inl (.ref 1000)), some (.inr (.inl 69)), some (.inr (.inl 70)), some (.inr (.inl 71))], sy_dS F [], sy_dh F X1 X2 (iv_H 4), 0, 0)
theorem tlz_117' (hb0 : 0 ≤ (sy_i F0 14).toInt) (hF0 : 420 * (sy_i F0 12).toInt ≤ (sy_i F0 15).toInt) {n : Nat} (h12 : tz12 X1 X2 F0 k Ls xs n) (F : Nat → sy_d) (hx : lc 99 F0 F) (hf : fx (lrz F0) F0 F) (hi : (sy_i F 6).toInt = 0 → li 7 F0 F ∧ (sy_ai F 44).getD (sy_i F 14).toInt.toNat 0 = 1 ∧ rs (sy_i F0 12).toInt.toNat (sy_i F 15).toInt (sy_ai F 49) (sy_ai F 50) ((sy_ai F 45).getD (sy_i F 14).toInt.toNat 0).toInt ((sy_ai F 46).getD (sy_i F 14).toInt.toNat 0).toInt ∧ rs (sy_i F0 12).toInt.toNat (sy_i F 15).toInt (sy_ai F 49) (sy_ai F 50) ((sy_ai F 46).getD (sy_i F 14).toInt.toNat 0).toInt (sy_i F 15).toInt) (heq : (sy_i F 6).toInt = 0 → lrz F0 = zc5 (kf F0) (vf F0) (zI (kf F0) (vf F0) n) (aA F0 F) (uU F) (vV F) (tn F)) (h69 : (sy_i F 69).toInt = k) (h70 : (sy_i F 70).toInt = (sy_i F0 14).toInt) (h71 : (sy_i F 71).toInt = 4 - n) :
    hd_W Ls xs 6 jm_M160 (tlz_Q k F0 X1 X2) (117, sy_dL F [some (.inl (.ref 1000)), some (.inr (.inl 69)), some (.inr (.inl 70)), some (.inr (.inl 71))], sy_dS F [.inl (.ref 1000)], sy_dh F X1 X2 (iv_H 4), 0, 0) := by
  obtain ⟨x1, x2, x3, x4, x5, x6, x7⟩ := id hx
  have i12 := x1.i (k := 12) (by decide) (by decide)
  have c12 := nz_bx x1.b (k := 12) (lo := 0) (hi := 1) rfl
  have c14 := nz_bx x1.b (k := 14) (lo := 0) (hi := 260) rfl
  have q4 := nz_bx x1.b (k := 4) (lo := 0) (hi := 400) rfl
  refine hd_calV (R := trz_R F) (nh := 69) (nv := 72) (s := 4) (s1 := 4) (d1 := 5) (M1 := jm_M161) (As := [.inl (.ref 1000)]) (rest := []) jm_ok160 rfl rfl (by decide) (by decide +kernel) (trz_T X1 X2 F x1.b (fun z => ?_) (by omega) (by omega)) (fun F3 F' hR p1 p2 => ?_)
  · obtain ⟨⟨y1, y2, -⟩, -⟩ := hi z
    omega
  obtain ⟨hR3, r2y, r3y⟩ := trz_Rdst hR p1
  have j69 := nz_fi (p2 69 (by decide) (by decide))
  have j70 := nz_fi (p2 70 (by decide) (by decide))
  have j71 := nz_fi (p2 71 (by decide) (by decide))
  have eE : crr F = cX (kf F0) (vf F0) (tn F) [] 0 [] := by unfold crr; rw [kf_eq (x1.f 25 (by decide) (by decide)), vf_eq (x1.f 27 (by decide) (by decide))]
  rw [eE] at r2y r3y
  have hP := pf_eq (x1.f 26 (by decide) (by decide))
  obtain ⟨u1, u2⟩ := tl_term (m := 99) (j := 7) (j' := 4) F0 hF0 hx (fun z => ⟨(hi z).1, fun _ => (hi z).2.2⟩) hR3 (by omega)
  have hf3 := fx_bind hf r2y hP (x1.u) (fun z => heq z)
  have hq3 : (sy_i F3 6).toInt = 0 → lrz F0 = sB (sM (kf F0) 33 (tn F3)) (zI (kf F0) (vf F0) n (aA F0 F3)) := fun z => by
    obtain ⟨y0, y44, yA, yB⟩ := hi (hR3.1.u z)
    obtain ⟨-, -, -, y47, y48, -⟩ := hR3.2.2.2.2.2.2 z
    have hA : aA F0 F3 = aA F0 F ++ [(some (uU F, vV F), cut_ F3 (sy_i F 15).toInt (sy_i F3 15).toInt)] := by
      rw [aA_push hb0 x5 y0 hR3.2.2.2.1 hR3.2.2.1 hR3.2.1]
      rw [bq_s (b := bN F) (p := ix F 45 (bN F)) (q := ix F 46 (bN F)) (by rw [hR3.1.a (k := 44) (by decide) (by decide)]; exact y44) (by unfold ix; rw [hR3.1.a (k := 45) (by decide) (by decide)]) (by unfold ix; rw [hR3.1.a (k := 46) (by decide) (by decide)]) y47 y48]
      rw [cut_kp (F := F) (x := ix F 45 (bN F)) (y := ix F 46 (bN F)) (by have := yA.1; unfold ix bN; omega) yA.2.1 hR3.2.1, cut_kp (F := F) (x := ix F 46 (bN F)) (y := (sy_i F 15).toInt) (by have := yB.1; unfold ix bN; omega) (Int.le_refl _) hR3.2.1]
      rfl
    rw [heq (hR3.1.u z), hA]
    show sB _ _ = _
    rw [r3y z]
    rfl
  clear heq hf
  obtain ⟨v1, v2, v3, v4, v5, v6, v7⟩ := id u1
  have x25 := v1.a (k := 25) (by decide) (by decide)
  have x26 := v1.a (k := 26) (by decide) (by decide)
  have eK : kf F0 (tn F3) = ((sy_ai F3 25).getD (sy_i F3 4).toInt.toNat 0).toInt := by rw [x25]; rfl
  have eP : pf F0 (tn F3) = ((sy_ai F3 26).getD (sy_i F3 4).toInt.toNat 0).toInt := by rw [x26]; rfl
  have z4 := nz_bx v1.b (k := 4) (lo := 0) (hi := 400) rfl
  have et : (tn F3 : Int) = (sy_i F3 4).toInt := by unfold tn; omega
  refine tly_120 (by decide) F3 X1 X2 v1.b ?_ ?_ ?_ ?_
  all_goals
    intros
    rename_i F1 hb g e4 e5 e6 e7 e8 e9 e11 e12 e14 e15 e16 a25 a26 a42 a43 a44 a45 a46 a47 a48 a49 a50 e69 e70 e71
    refine h12 F1 (lc_step u1 hb g (by decide) (by omega) (by omega) (kp_same a49 a50) (fun b _ => s5_same a44 a45 a46 a47 a48 b) (by omega) (by omega) (by omega) (by omega)) ?_ (fun z => ?_) (fun z => ?_) (by omega) (by omega) (by omega)
  all_goals first
      | exact fx_same hf3 e6 e7
      | exact fx_mk (v1.u (by omega)) (by rw [hq3 (by omega), sM_no (by omega)]; rfl) e6 (e7.trans eP.symm)
      | exact fx_mk (v1.u (by omega)) (by rw [hq3 (by omega), sM_4 (by omega) (by omega)]; rfl) e6 (e7.trans eP.symm)
      | (exfalso; omega)
      | (rw [hq3 (by omega), sM_ok (by omega) (by omega), tn_s z4.1 e4, aA_same e14 a44 a45 a46 a47 a48 a49 a50]; rfl)
      | (obtain ⟨y1, y2⟩ := u2 (by omega)
         obtain ⟨w1, w2, w3, w4⟩ := id y1
         exact li_step y1 (by omega) (by omega) (by omega) (by omega) (fun b _ => s5_same a44 a45 a46 a47 a48 b) (kp_same a49 a50) (by omega))
theorem tlz_110' (hb0 : 0 ≤ (sy_i F0 14).toInt) (hF0 : 420 * (sy_i F0 12).toInt ≤ (sy_i F0 15).toInt) {n : Nat} (h12 : tz12 X1 X2 F0 k Ls xs n) (F : Nat → sy_d) (hx : lc 99 F0 F) (hf : fx (lrz F0) F0 F) (hi : (sy_i F 6).toInt = 0 → li 6 F0 F ∧ (sy_ai F 44).getD (sy_i F 14).toInt.toNat 0 = 1 ∧ rs (sy_i F0 12).toInt.toNat (sy_i F 15).toInt (sy_ai F 49) (sy_ai F 50) ((sy_ai F 45).getD (sy_i F 14).toInt.toNat 0).toInt ((sy_ai F 46).getD (sy_i F 14).toInt.toNat 0).toInt ∧ rs (sy_i F0 12).toInt.toNat (sy_i F 15).toInt (sy_ai F 49) (sy_ai F 50) ((sy_ai F 46).getD (sy_i F 14).toInt.toNat 0).toInt (sy_i F 15).toInt) (heq : (sy_i F 6).toInt = 0 → lrz F0 = zc4 (kf F0) (vf F0) (zI (kf F0) (vf F0) n) (aA F0 F) (uU F) (vV F) (tn F)) (h69 : (sy_i F 69).toInt = k) (h70 : (sy_i F 70).toInt = (sy_i F0 14).toInt) (h71 : (sy_i F 71).toInt = 4 - n) :
    hd_W Ls xs 6 jm_M160 (tlz_Q k F0 X1 X2) (110, sy_dL F [some (.inl (.ref 1000)), some (.inr (.inl 69)), some (.inr (.inl 70)), some (.inr (.inl 71))], sy_dS F [], sy_dh F X1 X2 (iv_H 4), 0, 0) := by
  obtain ⟨x1, x2, x3, x4, x5, x6, x7⟩ := id hx
  have i12 := x1.i (k := 12) (by decide) (by decide)
  have c12 := nz_bx x1.b (k := 12) (lo := 0) (hi := 1) rfl
  have c14 := nz_bx x1.b (k := 14) (lo := 0) (hi := 260) rfl
  have q4 := nz_bx x1.b (k := 4) (lo := 0) (hi := 400) rfl
  have x25 := x1.a (k := 25) (by decide) (by decide)
  have x26 := x1.a (k := 26) (by decide) (by decide)
  have eK : kf F0 (tn F) = ((sy_ai F 25).getD (sy_i F 4).toInt.toNat 0).toInt := by rw [x25]; rfl
  have eP : pf F0 (tn F) = ((sy_ai F 26).getD (sy_i F 4).toInt.toNat 0).toInt := by rw [x26]; rfl
  have z4 := nz_bx x1.b (k := 4) (lo := 0) (hi := 400) rfl
  have et : (tn F : Int) = (sy_i F 4).toInt := by unfold tn; omega
  refine tly_110 (by decide) F X1 X2 x1.b ?_ ?_ ?_ ?_
  all_goals
    intros
    rename_i F1 hb g e4 e5 e6 e7 e8 e9 e11 e12 e14 e15 e16 a25 a26 a42 a43 a44 a45 a46 a47 a48 a49 a50 e69 e70 e71
    refine tlz_117' X1 X2 F0 k hb0 hF0 h12 F1 (lc_step hx hb g (by decide) (by omega) (by omega) (kp_same a49 a50) (fun b _ => s5_same a44 a45 a46 a47 a48 b) (by omega) (by omega) (by omega) (by omega)) ?_ (fun z => ?_) (fun z => ?_) (by omega) (by omega) (by omega)
  all_goals first
      | exact fx_same hf e6 e7
      | exact fx_mk (x1.u (by omega)) (by rw [heq (by omega), zc4, sM_no (by omega)]; rfl) e6 (e7.trans eP.symm)
      | exact fx_mk (x1.u (by omega)) (by rw [heq (by omega), zc4, sM_4 (by omega) (by omega)]; rfl) e6 (e7.trans eP.symm)
      | (exfalso; omega)
      | (rw [heq (by omega), zc4, sM_ok (by omega) (by omega), tn_s z4.1 e4, aA_same e14 a44 a45 a46 a47 a48 a49 a50, (uv_same e14 e15 a45 a46 a49 a50).1, (uv_same e14 e15 a45 a46 a49 a50).2]; rfl)
      | (obtain ⟨y1, y2, y3, y4⟩ := hi (by omega)
         obtain ⟨w1, w2, w3, w4⟩ := id y1
         refine ⟨li_step y1 (by omega) (by omega) (by omega) (by omega) (fun b _ => s5_same a44 a45 a46 a47 a48 b) (kp_same a49 a50) (by omega), ?_⟩
         rw [a44, a45, a46, a49, a50, e14, e15]
         exact ⟨y2, y3, y4⟩)
theorem tlz_107' (hb0 : 0 ≤ (sy_i F0 14).toInt) (hF0 : 420 * (sy_i F0 12).toInt ≤ (sy_i F0 15).toInt) {n : Nat} (h12 : tz12 X1 X2 F0 k Ls xs n) (F : Nat → sy_d) (hx : lc 99 F0 F) (hf0 : (sy_i F 6).toInt = 0) (hf : fx (lrz F0) F0 F) (hi : li 5 F0 F ∧ (sy_ai F 44).getD (sy_i F 14).toInt.toNat 0 = 1 ∧ rs (sy_i F0 12).toInt.toNat (sy_i F 15).toInt (sy_ai F 49) (sy_ai F 50) ((sy_ai F 45).getD (sy_i F 14).toInt.toNat 0).toInt ((sy_ai F 46).getD (sy_i F 14).toInt.toNat 0).toInt ∧ ((sy_ai F 46).getD (sy_i F 14).toInt.toNat 0).toInt = (sy_i F 15).toInt) (heq : lrz F0 = zc3 (kf F0) (vf F0) (zI (kf F0) (vf F0) n) (aA F0 F) (uU F) (tn F)) (h69 : (sy_i F 69).toInt = k) (h70 : (sy_i F 70).toInt = (sy_i F0 14).toInt) (h71 : (sy_i F 71).toInt = 4 - n) :
    hd_W Ls xs 6 jm_M160 (tlz_Q k F0 X1 X2) (107, sy_dL F [some (.inl (.ref 1000)), some (.inr (.inl 69)), some (.inr (.inl 70)), some (.inr (.inl 71))], sy_dS F [.inl (.ref 1000)], sy_dh F X1 X2 (iv_H 4), 0, 0) := by
  obtain ⟨x1, x2, x3, x4, x5, x6, x7⟩ := id hx
  have i12 := x1.i (k := 12) (by decide) (by decide)
  have c12 := nz_bx x1.b (k := 12) (lo := 0) (hi := 1) rfl
  have c14 := nz_bx x1.b (k := 14) (lo := 0) (hi := 260) rfl
  have q4 := nz_bx x1.b (k := 4) (lo := 0) (hi := 400) rfl
  obtain ⟨z1, z2, z3, z4'⟩ := hi
  obtain ⟨w1, w2, w3, w4⟩ := id z1
  refine hd_calV (R := zr F) (nh := 69) (nv := 72) (s := 4) (s1 := 4) (d1 := 4) (M1 := jm_M164) (As := [.inl (.ref 1000)]) (rest := []) jm_ok160 rfl rfl (by decide) (by decide +kernel) (ez_T X1 X2 F x1.b (by omega) (by omega)) (fun F3 F' hR p1 p2 => ?_)
  obtain ⟨⟨r1, r2, r3, r4, r5⟩, r2y, r3y⟩ := zr_dst hR p1
  have j69 := nz_fi (p2 69 (by decide) (by decide))
  have j70 := nz_fi (p2 70 (by decide) (by decide))
  have j71 := nz_fi (p2 71 (by decide) (by decide))
  have b44 := r1.a (k := 44) (by decide) (by decide)
  have b45 := r1.a (k := 45) (by decide) (by decide)
  have b46 := r1.a (k := 46) (by decide) (by decide)
  have b47 := r1.a (k := 47) (by decide) (by decide)
  have b48 := r1.a (k := 48) (by decide) (by decide)
  have j14 := r1.i (k := 14) (by decide) (by decide)
  have d4 := nz_bx r1.b (k := 4) (lo := 0) (hi := 400) rfl
  have eE : crr F = cX (kf F0) (vf F0) (tn F) [] 0 [] := by unfold crr; rw [kf_eq (x1.f 25 (by decide) (by decide)), vf_eq (x1.f 27 (by decide) (by decide))]
  rw [eE] at r2y r3y
  have hP := pf_eq (x1.f 26 (by decide) (by decide))
  refine tlz_110' X1 X2 F0 k hb0 hF0 h12 F3 (lc_gr hx r1 (by decide) r2 (fun b _ => s5_same b44 b45 b46 b47 b48 b) r3 (by omega) (by omega) (by omega)) (fx_bind hf r2y hP (x1.u) (fun z => heq)) (fun z => ?_) (fun z => ?_) (by omega) (by omega) (by omega)
  · obtain ⟨y1, y2, y3, y4⟩ := r5 z
    refine ⟨li_step z1 y2 (by omega) (by omega) j14 (fun b _ => s5_same b44 b45 b46 b47 b48 b) r2 r3, ?_⟩
    rw [b44, b45, b46, j14]
    refine ⟨z2, rs_step z3 r2 r3, ?_⟩
    rw [z4']
    exact ⟨by omega, by omega, by omega, y4⟩
  · have hA : aA F0 F3 = aA F0 F := aA_st hb0 z1 j14 (fun b _ => s5_same b44 b45 b46 b47 b48 b) r2
    have hU : uU F3 = uU F := by
      unfold uU bN ix
      rw [j14, b45, b46, cut_kp (F := F) (by have := z3.1; omega) z3.2.1 r2]
    have hV : vV F3 = oO (c0f F) F3 := by
      rw [oO_cut (by have := nz_bx x1.b (k := 15) (lo := 0) (hi := 840) rfl; omega)]
      unfold vV bN ix
      rw [j14, b46, z4']
    rw [heq, hA, hU, hV]
    show sB _ _ = _
    rw [r3y z]
    rfl
theorem tlz_77' (hb0 : 0 ≤ (sy_i F0 14).toInt) (hF0 : 420 * (sy_i F0 12).toInt ≤ (sy_i F0 15).toInt) {n : Nat} (h12 : tz12 X1 X2 F0 k Ls xs n) (F : Nat → sy_d) (hx : lc 99 F0 F) (hf : fx (lrz F0) F0 F) (hi : (sy_i F 6).toInt = 0 → li 3 F0 F ∧ (sy_ai F 44).getD (sy_i F 14).toInt.toNat 0 = 1 ∧ ((sy_ai F 45).getD (sy_i F 14).toInt.toNat 0).toInt = (sy_i F 15).toInt) (heq : (sy_i F 6).toInt = 0 → lrz F0 = zc1 (kf F0) (vf F0) (zI (kf F0) (vf F0) n) (aA F0 F) (tn F)) (h69 : (sy_i F 69).toInt = k) (h70 : (sy_i F 70).toInt = (sy_i F0 14).toInt) (h71 : (sy_i F 71).toInt = 4 - n) :
    hd_W Ls xs 6 jm_M160 (tlz_Q k F0 X1 X2) (77, sy_dL F [some (.inl (.ref 1000)), some (.inr (.inl 69)), some (.inr (.inl 70)), some (.inr (.inl 71))], sy_dS F [.inl (.ref 1000)], sy_dh F X1 X2 (iv_H 4), 0, 0) := by
  obtain ⟨x1, x2, x3, x4, x5, x6, x7⟩ := id hx
  have i12 := x1.i (k := 12) (by decide) (by decide)
  have c12 := nz_bx x1.b (k := 12) (lo := 0) (hi := 1) rfl
  have c14 := nz_bx x1.b (k := 14) (lo := 0) (hi := 260) rfl
  have q4 := nz_bx x1.b (k := 4) (lo := 0) (hi := 400) rfl
  refine hd_calV (R := zr F) (nh := 69) (nv := 72) (s := 4) (s1 := 4) (d1 := 4) (M1 := jm_M164) (As := [.inl (.ref 1000)]) (rest := []) jm_ok160 rfl rfl (by decide) (by decide +kernel) (ez_T X1 X2 F x1.b (fun z => by have y := (hi z).1.1; have y2 := (hi z).1.2.1; omega) (by omega)) (fun F3 F' hR p1 p2 => ?_)
  obtain ⟨⟨r1, r2, r3, r4, r5⟩, r2y, r3y⟩ := zr_dst hR p1
  have j69 := nz_fi (p2 69 (by decide) (by decide))
  have j70 := nz_fi (p2 70 (by decide) (by decide))
  have j71 := nz_fi (p2 71 (by decide) (by decide))
  have b44 := r1.a (k := 44) (by decide) (by decide)
  have b45 := r1.a (k := 45) (by decide) (by decide)
  have b46 := r1.a (k := 46) (by decide) (by decide)
  have b47 := r1.a (k := 47) (by decide) (by decide)
  have b48 := r1.a (k := 48) (by decide) (by decide)
  have j14 := r1.i (k := 14) (by decide) (by decide)
  have d4 := nz_bx r1.b (k := 4) (lo := 0) (hi := 400) rfl
  have eE : crr F = cX (kf F0) (vf F0) (tn F) [] 0 [] := by unfold crr; rw [kf_eq (x1.f 25 (by decide) (by decide)), vf_eq (x1.f 27 (by decide) (by decide))]
  rw [eE] at r2y r3y
  have hP := pf_eq (x1.f 26 (by decide) (by decide))
  have hx3 : lc 99 F0 F3 := lc_gr hx r1 (by decide) r2 (fun b _ => s5_same b44 b45 b46 b47 b48 b) r3 (by omega) (by omega) (by omega)
  have hf3 := fx_bind hf r2y hP (x1.u) (fun z => heq z)
  have hq3 : (sy_i F3 6).toInt = 0 → lrz F0 = zc2 (kf F0) (vf F0) (zI (kf F0) (vf F0) n) (aA F0 F3) (uu1 F3) (tn F3) := fun z => by
    obtain ⟨z1, z2, z3⟩ := hi (r1.u z)
    have hA : aA F0 F3 = aA F0 F := aA_st hb0 z1 j14 (fun b _ => s5_same b44 b45 b46 b47 b48 b) r2
    have hU : uu1 F3 = oO (c0f F) F3 := by
      rw [oO_cut (by have := nz_bx x1.b (k := 15) (lo := 0) (hi := 840) rfl; omega)]
      unfold uu1 bN ix
      rw [j14, b45, z3]
    rw [heq (r1.u z), hA, hU]
    show sB _ _ = _
    rw [r3y z]
    rfl
  have hi3 : (sy_i F3 6).toInt = 0 → li 4 F0 F3 ∧ (sy_ai F3 44).getD (sy_i F3 14).toInt.toNat 0 = 1 ∧ rs (sy_i F0 12).toInt.toNat (sy_i F3 15).toInt (sy_ai F3 49) (sy_ai F3 50) ((sy_ai F3 45).getD (sy_i F3 14).toInt.toNat 0).toInt (sy_i F3 15).toInt := by
    intro z
    obtain ⟨z1, z2, z3⟩ := hi (r1.u z)
    obtain ⟨w1, w2, w3, w4⟩ := id z1
    obtain ⟨y1, y2, y3, y4⟩ := r5 z
    refine ⟨li_step z1 y2 (by omega) (by omega) j14 (fun b _ => s5_same b44 b45 b46 b47 b48 b) r2 r3, ?_⟩
    rw [b44, b45, j14, z3]
    exact ⟨z2, by omega, by omega, by omega, y4⟩
  clear hi heq hf r5
  obtain ⟨v1, v2, v3, v4, v5, v6, v7⟩ := id hx3
  have x25 := v1.a (k := 25) (by decide) (by decide)
  have x26 := v1.a (k := 26) (by decide) (by decide)
  have eK : kf F0 (tn F3) = ((sy_ai F3 25).getD (sy_i F3 4).toInt.toNat 0).toInt := by rw [x25]; rfl
  have eP : pf F0 (tn F3) = ((sy_ai F3 26).getD (sy_i F3 4).toInt.toNat 0).toInt := by rw [x26]; rfl
  have z4 := nz_bx v1.b (k := 4) (lo := 0) (hi := 400) rfl
  have et : (tn F3 : Int) = (sy_i F3 4).toInt := by unfold tn; omega
  have s5u : ∀ F1 : Nat → sy_d, sy_ai F1 44 = sy_ai F3 44 → sy_ai F1 45 = sy_ai F3 45 → sy_ai F1 46 = jm_upd (sy_ai F3 46) (sy_i F3 14).toInt.toNat (sy_i F3 15) → sy_ai F1 47 = sy_ai F3 47 → sy_ai F1 48 = sy_ai F3 48 → ∀ b : Nat, (b : Int) ≠ (sy_i F3 14).toInt → s5 F3 F1 b := by
    intro F1 a44 a45 a46 a47 a48 b q
    refine ⟨by rw [a44], by rw [a45], ?_, by rw [a47], by rw [a48]⟩
    rw [a46, jm_upd_at, if_neg (by omega)]
  refine tly_80 (by decide) F3 X1 X2 r1.b (by omega) (by omega) (by omega) (by omega) ?_ ?_ ?_ ?_
  · intros
    rename_i F1 hb g e4 e5 e6 e7 e8 e9 e11 e12 e14 e15 e16 a25 a26 a42 a43 a44 a45 a46 a47 a48 a49 a50 e69 e70 e71
    refine tlz_110' X1 X2 F0 k hb0 hF0 h12 F1 (lc_step hx3 hb g (by decide) (by omega) (by omega) (kp_same a49 a50) (s5u F1 a44 a45 a46 a47 a48) (by omega) (by omega) (by omega) (by omega)) ?_ (fun z => absurd z (by omega)) (fun z => absurd z (by omega)) (by omega) (by omega) (by omega)
    first
      | exact fx_same hf3 e6 e7
      | exact fx_mk (v1.u (by omega)) (by rw [hq3 (by omega), zc2, sM_no (by omega)]; rfl) e6 (e7.trans eP.symm)
      | exact fx_mk (v1.u (by omega)) (by rw [hq3 (by omega), zc2, sM_4 (by omega) (by omega)]; rfl) e6 (e7.trans eP.symm)
  · intros
    rename_i F1 hb g e4 e5 e6 e7 e8 e9 e11 e12 e14 e15 e16 a25 a26 a42 a43 a44 a45 a46 a47 a48 a49 a50 e69 e70 e71
    refine tlz_110' X1 X2 F0 k hb0 hF0 h12 F1 (lc_step hx3 hb g (by decide) (by omega) (by omega) (kp_same a49 a50) (s5u F1 a44 a45 a46 a47 a48) (by omega) (by omega) (by omega) (by omega)) ?_ (fun z => absurd z (by omega)) (fun z => absurd z (by omega)) (by omega) (by omega) (by omega)
    first
      | exact fx_same hf3 e6 e7
      | exact fx_mk (v1.u (by omega)) (by rw [hq3 (by omega), zc2, sM_no (by omega)]; rfl) e6 (e7.trans eP.symm)
      | exact fx_mk (v1.u (by omega)) (by rw [hq3 (by omega), zc2, sM_4 (by omega) (by omega)]; rfl) e6 (e7.trans eP.symm)
  · intros
    rename_i F1 hb g e4 e5 e6 e7 e8 e9 e11 e12 e14 e15 e16 a25 a26 a42 a43 a44 a45 a46 a47 a48 a49 a50 e69 e70 e71
    obtain ⟨z1, z2, z3⟩ := hi3 (by omega)
    obtain ⟨w1, w2, w3, w4⟩ := id z1
    refine tlz_107' X1 X2 F0 k hb0 hF0 h12 F1 (lc_step hx3 hb g (by decide) (by omega) (by omega) (kp_same a49 a50) (s5u F1 a44 a45 a46 a47 a48) (by omega) (by omega) (by omega) (by omega)) (by omega) (fx_same hf3 e6 e7) ⟨li_step z1 (by omega) (by omega) (by omega) (by omega) (s5u F1 a44 a45 a46 a47 a48) (kp_same a49 a50) (by omega), ?_⟩ ?_ (by omega) (by omega) (by omega)
    · have e46 : (sy_ai F1 46).getD (sy_i F3 14).toInt.toNat 0 = sy_i F3 15 := by rw [a46, jm_upd_at, if_pos rfl]
      rw [a44, a45, a49, a50, e14, e15, e46]
      exact ⟨z2, z3, rfl⟩
    · have hA : aA F0 F1 = aA F0 F3 := aA_st hb0 z1 e14 (s5u F1 a44 a45 a46 a47 a48) (kp_same a49 a50)
      have hU : uU F1 = uu1 F3 := by
        unfold uU uu1 bN ix
        rw [e14, a45, a46, jm_upd_at, if_pos rfl, cut_eq a49 a50]
      rw [hq3 (by omega), zc2, sM_ok (by omega) (by omega), tn_s z4.1 e4, hA, hU]
      rfl
  · intros
    rename_i F1 hb g e4 e5 e6 e7 e8 e9 e11 e12 e14 e15 e16 a25 a26 a42 a43 a44 a45 a46 a47 a48 a49 a50 e69 e70 e71
    refine tlz_110' X1 X2 F0 k hb0 hF0 h12 F1 (lc_step hx3 hb g (by decide) (by omega) (by omega) (kp_same a49 a50) (s5u F1 a44 a45 a46 a47 a48) (by omega) (by omega) (by omega) (by omega)) ?_ (fun z => absurd z (by omega)) (fun z => absurd z (by omega)) (by omega) (by omega) (by omega)
    first
      | exact fx_same hf3 e6 e7
      | exact fx_mk (v1.u (by omega)) (by rw [hq3 (by omega), zc2, sM_no (by omega)]; rfl) e6 (e7.trans eP.symm)
      | exact fx_mk (v1.u (by omega)) (by rw [hq3 (by omega), zc2, sM_4 (by omega) (by omega)]; rfl) e6 (e7.trans eP.symm)
theorem tz12_0 (hb0 : 0 ≤ (sy_i F0 14).toInt) (hF0 : 420 * (sy_i F0 12).toInt ≤ (sy_i F0 15).toInt) (hk : 0 ≤ k ∧ k ≤ 5) : tz12 X1 X2 F0 k Ls xs 0 := by
  intro F hx hf hi heq h69 h70 h71
  obtain ⟨x1, x2, x3, x4, x5, x6, x7⟩ := id hx
  have i12 := x1.i (k := 12) (by decide) (by decide)
  have c12 := nz_bx x1.b (k := 12) (lo := 0) (hi := 1) rfl
  have c14 := nz_bx x1.b (k := 14) (lo := 0) (hi := 260) rfl
  have q4 := nz_bx x1.b (k := 4) (lo := 0) (hi := 400) rfl
  have x25 := x1.a (k := 25) (by decide) (by decide)
  have x26 := x1.a (k := 26) (by decide) (by decide)
  have eK : kf F0 (tn F) = ((sy_ai F 25).getD (sy_i F 4).toInt.toNat 0).toInt := by rw [x25]; rfl
  have eP : pf F0 (tn F) = ((sy_ai F 26).getD (sy_i F 4).toInt.toNat 0).toInt := by rw [x26]; rfl
  have z4 := nz_bx x1.b (k := 4) (lo := 0) (hi := 400) rfl
  have et : (tn F : Int) = (sy_i F 4).toInt := by unfold tn; omega
  have s44 : ∀ (F1 : Nat → sy_d) (V : Int32), sy_ai F1 44 = jm_upd (sy_ai F 44) (sy_i F 14).toInt.toNat V → sy_ai F1 45 = sy_ai F 45 → sy_ai F1 46 = sy_ai F 46 → sy_ai F1 47 = sy_ai F 47 → sy_ai F1 48 = sy_ai F 48 → ∀ b : Nat, (b : Int) ≠ (sy_i F 14).toInt → s5 F F1 b := by
    intro F1 V a44 a45 a46 a47 a48 b q
    refine ⟨?_, by rw [a45], by rw [a46], by rw [a47], by rw [a48]⟩
    rw [a44, jm_upd_at, if_neg (by omega)]
  have s45 : ∀ (F1 : Nat → sy_d) (V V2 : Int32), sy_ai F1 44 = jm_upd (sy_ai F 44) (sy_i F 14).toInt.toNat V → sy_ai F1 45 = jm_upd (sy_ai F 45) (sy_i F 14).toInt.toNat V2 → sy_ai F1 46 = sy_ai F 46 → sy_ai F1 47 = sy_ai F 47 → sy_ai F1 48 = sy_ai F 48 → ∀ b : Nat, (b : Int) ≠ (sy_i F 14).toInt → s5 F F1 b := by
    intro F1 V V2 a44 a45 a46 a47 a48 b q
    refine ⟨?_, ?_, by rw [a46], by rw [a47], by rw [a48]⟩
    · rw [a44, jm_upd_at, if_neg (by omega)]
    · rw [a45, jm_upd_at, if_neg (by omega)]
  have hi4 : (sy_i F 6).toInt = 0 → 4 * ((sy_i F 14).toInt - 130 * (sy_i F0 12).toInt) + 2 ≤ (sy_i F 4).toInt := fun z => (hi z).2.2.1
  refine tly_12 (by decide) F X1 X2 x1.b (by omega) (by omega) (by omega) (by omega) (by omega) ?_ ?_ ?_ ?_ ?_
  · intros
    rename_i F1 hb g e4 e5 e6 e7 e8 e9 e11 e12 e14 e15 e16 a25 a26 a42 a43 a44 a45 a46 a47 a48 a49 a50 e69 e70
    refine tlz_140' X1 X2 F0 k hb0 hF0 hk F1 (lc_step hx hb g (by decide) (by omega) (by omega) (kp_same a49 a50) (s44 F1 0 a44 a45 a46 a47 a48) (by omega) (by omega) (by omega) (by omega)) (fx_same hf e6 e7) (fun z => ?_) (fun z => ?_) (by omega) (by omega)
    · have y1 := hi (by omega)
      obtain ⟨w1, w2, w3, w4⟩ := id y1
      refine ⟨li_step y1 (by omega) (by omega) (by omega) (by omega) (s44 F1 0 a44 a45 a46 a47 a48) (kp_same a49 a50) (by omega), ?_⟩
      rw [a44, e14, jm_upd_at, if_pos rfl]
    · first
        | (exfalso; omega)
        | (rw [heq (by omega), z_no (kf F0) (vf F0) (by omega), tn_eq e4, aA_st hb0 (hi (by omega)) e14 (s44 F1 0 a44 a45 a46 a47 a48) (kp_same a49 a50)])
  · intros
    rename_i F1 hb g e4 e5 e6 e7 e8 e9 e11 e12 e14 e15 e16 a25 a26 a42 a43 a44 a45 a46 a47 a48 a49 a50 e69 e70
    refine tlz_140' X1 X2 F0 k hb0 hF0 hk F1 (lc_step hx hb g (by decide) (by omega) (by omega) (kp_same a49 a50) (s44 F1 0 a44 a45 a46 a47 a48) (by omega) (by omega) (by omega) (by omega)) (fx_same hf e6 e7) (fun z => ?_) (fun z => ?_) (by omega) (by omega)
    · have y1 := hi (by omega)
      obtain ⟨w1, w2, w3, w4⟩ := id y1
      refine ⟨li_step y1 (by omega) (by omega) (by omega) (by omega) (s44 F1 0 a44 a45 a46 a47 a48) (kp_same a49 a50) (by omega), ?_⟩
      rw [a44, e14, jm_upd_at, if_pos rfl]
    · first
        | (exfalso; omega)
        | (rw [heq (by omega), z_no (kf F0) (vf F0) (by omega), tn_eq e4, aA_st hb0 (hi (by omega)) e14 (s44 F1 0 a44 a45 a46 a47 a48) (kp_same a49 a50)])
  · intros; exfalso; omega
  · intros; exfalso; omega
  · intros
    rename_i F1 hb g e4 e5 e6 e7 e8 e9 e11 e12 e14 e15 e16 a25 a26 a42 a43 a44 a45 a46 a47 a48 a49 a50
    exact ⟨F1, rfl, rfl, lc_end (lc_step hx hb g (by decide) (by omega) (by omega) (kp_same a49 a50) (fun b _ => s5_same a44 a45 a46 a47 a48 b) (by omega) (by omega) (by omega) (by omega)) (by omega), fx_mk (x1.u (by omega)) (by rw [heq (by omega), z_if0 (kf F0) (vf F0) (by omega)]) e6 (e7.trans eP.symm), fun z => absurd z (by omega)⟩
theorem tz12_s (hb0 : 0 ≤ (sy_i F0 14).toInt) (hF0 : 420 * (sy_i F0 12).toInt ≤ (sy_i F0 15).toInt) (hk : 0 ≤ k ∧ k ≤ 5) {n : Nat} (hn : n < 4) (h12 : tz12 X1 X2 F0 k Ls xs n) : tz12 X1 X2 F0 k Ls xs (n + 1) := by
  intro F hx hf hi heq h69 h70 h71
  obtain ⟨x1, x2, x3, x4, x5, x6, x7⟩ := id hx
  have i12 := x1.i (k := 12) (by decide) (by decide)
  have c12 := nz_bx x1.b (k := 12) (lo := 0) (hi := 1) rfl
  have c14 := nz_bx x1.b (k := 14) (lo := 0) (hi := 260) rfl
  have q4 := nz_bx x1.b (k := 4) (lo := 0) (hi := 400) rfl
  have x25 := x1.a (k := 25) (by decide) (by decide)
  have x26 := x1.a (k := 26) (by decide) (by decide)
  have eK : kf F0 (tn F) = ((sy_ai F 25).getD (sy_i F 4).toInt.toNat 0).toInt := by rw [x25]; rfl
  have eP : pf F0 (tn F) = ((sy_ai F 26).getD (sy_i F 4).toInt.toNat 0).toInt := by rw [x26]; rfl
  have z4 := nz_bx x1.b (k := 4) (lo := 0) (hi := 400) rfl
  have et : (tn F : Int) = (sy_i F 4).toInt := by unfold tn; omega
  have s44 : ∀ (F1 : Nat → sy_d) (V : Int32), sy_ai F1 44 = jm_upd (sy_ai F 44) (sy_i F 14).toInt.toNat V → sy_ai F1 45 = sy_ai F 45 → sy_ai F1 46 = sy_ai F 46 → sy_ai F1 47 = sy_ai F 47 → sy_ai F1 48 = sy_ai F 48 → ∀ b : Nat, (b : Int) ≠ (sy_i F 14).toInt → s5 F F1 b := by
    intro F1 V a44 a45 a46 a47 a48 b q
    refine ⟨?_, by rw [a45], by rw [a46], by rw [a47], by rw [a48]⟩
    rw [a44, jm_upd_at, if_neg (by omega)]
  have s45 : ∀ (F1 : Nat → sy_d) (V V2 : Int32), sy_ai F1 44 = jm_upd (sy_ai F 44) (sy_i F 14).toInt.toNat V → sy_ai F1 45 = jm_upd (sy_ai F 45) (sy_i F 14).toInt.toNat V2 → sy_ai F1 46 = sy_ai F 46 → sy_ai F1 47 = sy_ai F 47 → sy_ai F1 48 = sy_ai F 48 → ∀ b : Nat, (b : Int) ≠ (sy_i F 14).toInt → s5 F F1 b := by
    intro F1 V V2 a44 a45 a46 a47 a48 b q
    refine ⟨?_, ?_, by rw [a46], by rw [a47], by rw [a48]⟩
    · rw [a44, jm_upd_at, if_neg (by omega)]
    · rw [a45, jm_upd_at, if_neg (by omega)]
  have hi4 : (sy_i F 6).toInt = 0 → 4 * ((sy_i F 14).toInt - 130 * (sy_i F0 12).toInt) + 2 ≤ (sy_i F 4).toInt := fun z => (hi z).2.2.1
  refine tly_12 (by decide) F X1 X2 x1.b (by omega) (by omega) (by omega) (by omega) (by omega) ?_ ?_ ?_ ?_ ?_
  · intros
    rename_i F1 hb g e4 e5 e6 e7 e8 e9 e11 e12 e14 e15 e16 a25 a26 a42 a43 a44 a45 a46 a47 a48 a49 a50 e69 e70
    refine tlz_140' X1 X2 F0 k hb0 hF0 hk F1 (lc_step hx hb g (by decide) (by omega) (by omega) (kp_same a49 a50) (s44 F1 0 a44 a45 a46 a47 a48) (by omega) (by omega) (by omega) (by omega)) (fx_same hf e6 e7) (fun z => ?_) (fun z => ?_) (by omega) (by omega)
    · have y1 := hi (by omega)
      obtain ⟨w1, w2, w3, w4⟩ := id y1
      refine ⟨li_step y1 (by omega) (by omega) (by omega) (by omega) (s44 F1 0 a44 a45 a46 a47 a48) (kp_same a49 a50) (by omega), ?_⟩
      rw [a44, e14, jm_upd_at, if_pos rfl]
    · first
        | (exfalso; omega)
        | (rw [heq (by omega), z_no (kf F0) (vf F0) (by omega), tn_eq e4, aA_st hb0 (hi (by omega)) e14 (s44 F1 0 a44 a45 a46 a47 a48) (kp_same a49 a50)])
  · intros
    rename_i F1 hb g e4 e5 e6 e7 e8 e9 e11 e12 e14 e15 e16 a25 a26 a42 a43 a44 a45 a46 a47 a48 a49 a50 e69 e70
    refine tlz_140' X1 X2 F0 k hb0 hF0 hk F1 (lc_step hx hb g (by decide) (by omega) (by omega) (kp_same a49 a50) (s44 F1 0 a44 a45 a46 a47 a48) (by omega) (by omega) (by omega) (by omega)) (fx_same hf e6 e7) (fun z => ?_) (fun z => ?_) (by omega) (by omega)
    · have y1 := hi (by omega)
      obtain ⟨w1, w2, w3, w4⟩ := id y1
      refine ⟨li_step y1 (by omega) (by omega) (by omega) (by omega) (s44 F1 0 a44 a45 a46 a47 a48) (kp_same a49 a50) (by omega), ?_⟩
      rw [a44, e14, jm_upd_at, if_pos rfl]
    · first
        | (exfalso; omega)
        | (rw [heq (by omega), z_no (kf F0) (vf F0) (by omega), tn_eq e4, aA_st hb0 (hi (by omega)) e14 (s44 F1 0 a44 a45 a46 a47 a48) (kp_same a49 a50)])
  · intros
    rename_i F1 hb g e4 e5 e6 e7 e8 e9 e11 e12 e14 e15 e16 a25 a26 a42 a43 a44 a45 a46 a47 a48 a49 a50 e69 e70 e71
    refine tlz_77' X1 X2 F0 k hb0 hF0 h12 F1 (lc_step hx hb g (by decide) (by omega) (by omega) (kp_same a49 a50) (s45 F1 1 _ a44 a45 a46 a47 a48) (by omega) (by omega) (by omega) (by omega)) ?_ (fun z => ?_) (fun z => ?_) (by omega) (by omega) (by omega)
    · first
        | exact fx_same hf e6 e7
        | exact fx_mk (x1.u (by omega)) (by rw [heq (by omega), z_if (kf F0) (vf F0) (by omega), sG_4 (by omega)]; rfl) e6 (e7.trans eP.symm)
    · first
        | (exfalso; omega)
        | (have y1 := hi (by omega)
           obtain ⟨w1, w2, w3, w4⟩ := id y1
           refine ⟨li_step y1 (by omega) (by omega) (by omega) (by omega) (s45 F1 1 _ a44 a45 a46 a47 a48) (kp_same a49 a50) (by omega), ?_, ?_⟩
           · rw [a44, e14, jm_upd_at, if_pos rfl]
           · rw [a45, e14, e15, jm_upd_at, if_pos rfl])
    · first
        | (exfalso; omega)
        | (rw [heq (by omega), z_if (kf F0) (vf F0) (by omega), sG_ok (by omega), tn_s z4.1 e4, aA_st hb0 (hi (by omega)) e14 (s45 F1 1 _ a44 a45 a46 a47 a48) (kp_same a49 a50)]; rfl)
  · intros
    rename_i F1 hb g e4 e5 e6 e7 e8 e9 e11 e12 e14 e15 e16 a25 a26 a42 a43 a44 a45 a46 a47 a48 a49 a50 e69 e70 e71
    refine tlz_77' X1 X2 F0 k hb0 hF0 h12 F1 (lc_step hx hb g (by decide) (by omega) (by omega) (kp_same a49 a50) (s45 F1 1 _ a44 a45 a46 a47 a48) (by omega) (by omega) (by omega) (by omega)) ?_ (fun z => ?_) (fun z => ?_) (by omega) (by omega) (by omega)
    · first
        | exact fx_same hf e6 e7
        | exact fx_mk (x1.u (by omega)) (by rw [heq (by omega), z_if (kf F0) (vf F0) (by omega), sG_4 (by omega)]; rfl) e6 (e7.trans eP.symm)
    · first
        | (exfalso; omega)
        | (have y1 := hi (by omega)
           obtain ⟨w1, w2, w3, w4⟩ := id y1
           refine ⟨li_step y1 (by omega) (by omega) (by omega) (by omega) (s45 F1 1 _ a44 a45 a46 a47 a48) (kp_same a49 a50) (by omega), ?_, ?_⟩
           · rw [a44, e14, jm_upd_at, if_pos rfl]
           · rw [a45, e14, e15, jm_upd_at, if_pos rfl])
    · first
        | (exfalso; omega)
        | (rw [heq (by omega), z_if (kf F0) (vf F0) (by omega), sG_ok (by omega), tn_s z4.1 e4, aA_st hb0 (hi (by omega)) e14 (s45 F1 1 _ a44 a45 a46 a47 a48) (kp_same a49 a50)]; rfl)
  · intros; exfalso; omega
theorem tz12_4 (hb0 : 0 ≤ (sy_i F0 14).toInt) (hF0 : 420 * (sy_i F0 12).toInt ≤ (sy_i F0 15).toInt) (hk : 0 ≤ k ∧ k ≤ 5) : tz12 X1 X2 F0 k Ls xs 4 :=
  tz12_s X1 X2 F0 k hb0 hF0 hk (by decide) (tz12_s X1 X2 F0 k hb0 hF0 hk (by decide) (tz12_s X1 X2 F0 k hb0 hF0 hk (by decide) (tz12_s X1 X2 F0 k hb0 hF0 hk (by decide) (tz12_0 X1 X2 F0 k hb0 hF0 hk))))
end TLZ
theorem tlz_Rsrc {m : Int} {F F' G : Nat → sy_d} (h : tlz_R m G F') (e : ∀ q, q < 69 → G q = F q) : tlz_R m F F' := by
  obtain ⟨h1, h2, h3⟩ := h
  have i4 := nz_fi (e 4 (by decide))
  have i6 := nz_fi (e 6 (by decide))
  have i7 := nz_fi (e 7 (by decide))
  have eL : lrz G = lrz F := by unfold lrz; rw [kf_eq (e 25 (by decide)), vf_eq (e 27 (by decide)), tn_eq i4]
  rw [eL] at h2 h3
  have eA : aA G F' = aA F F' := by unfold aA; rw [nz_fi (e 14 (by decide))]
  rw [eA] at h3
  refine ⟨lc_src h1 e, ⟨fun a b => ?_, fun a => ?_⟩, h3⟩
  · obtain ⟨tok, t1, t2⟩ := h2.1 (by rw [i6]; exact a) b
    exact ⟨tok, t1, by rw [t2, pf_eq (e 26 (by decide))]⟩
  · have := h2.2 (by rw [i6]; exact a)
    rwa [i6, i7] at this
theorem tlz_Rdst {k : Int} {F F' F2 : Nat → sy_d} (h : tlz_R k F F') (e : ∀ q, q < 69 → F2 q = F' q) : tlz_R k F F2 := by
  have i4 := nz_fi (e 4 (by decide))
  have i6 := nz_fi (e 6 (by decide))
  have i7 := nz_fi (e 7 (by decide))
  exact ⟨tl_Rdst h.1 e, fx_same h.2.1 i6 i7, fun z => by rw [tn_eq i4, aA_same (nz_fi (e 14 (by decide))) (nz_fa (e 44 (by decide))) (nz_fa (e 45 (by decide))) (nz_fa (e 46 (by decide))) (nz_fa (e 47 (by decide))) (nz_fa (e 48 (by decide))) (nz_fa (e 49 (by decide))) (nz_fa (e 50 (by decide)))]; exact h.2.2 (by rw [← i6]; exact z)⟩
theorem tlz_T {Ls : Nat} {xs : Nat → Int32} (X1 X2 : List jm_c) (F : Nat → sy_d) (a : Int32) (hB : iv_in F iv_B4) (hk : 0 ≤ a.toInt ∧ a.toInt ≤ 5) (hF : 420 * (sy_i F 12).toInt ≤ (sy_i F 15).toInt) (h1 : (sy_i F 6).toInt = 0 → (sy_i F 5).toInt = 0 ∧ (sy_i F 15).toInt ≤ 420 * (sy_i F 12).toInt + (sy_i F 4).toInt ∧ 4 * ((sy_i F 14).toInt - 130 * (sy_i F 12).toInt) + 1 ≤ (sy_i F 4).toInt) (h2 : (sy_i F 15).toInt ≤ 420 * (sy_i F 12).toInt + (sy_i F 4).toInt + 1) (h3 : (sy_i F 14).toInt ≤ 130 * (sy_i F 12).toInt + 100) :
    jm_T Ls xs 6 jm_M160 [.ref 1000, .int a] (sy_dh F X1 X2 (iv_H 4)) 0 0 (tlz_Q a.toInt F X1 X2) := by
  refine nz_T1 jm_ok160 (by decide) (fun F0 k0 i69 => ?_)
  have i4 := nz_fi (k0 4 (by decide))
  have i5 := nz_fi (k0 5 (by decide))
  have i6 := nz_fi (k0 6 (by decide))
  have i12 := nz_fi (k0 12 (by decide))
  have i14 := nz_fi (k0 14 (by decide))
  have i15 := nz_fi (k0 15 (by decide))
  have c14 := nz_bx hB (k := 14) (lo := 0) (hi := 260) rfl
  have q4 := nz_bx hB (k := 4) (lo := 0) (hi := 400) rfl
  have j69 : (sy_i F0 69).toInt = a.toInt := by rw [i69]
  have eK : kf F0 (tn F0) = ((sy_ai F0 25).getD (sy_i F0 4).toInt.toNat 0).toInt := rfl
  have eP : pf F0 (tn F0) = ((sy_ai F0 26).getD (sy_i F0 4).toInt.toNat 0).toInt := rfl
  have et : (tn F0 : Int) = (sy_i F0 4).toInt := by unfold tn; omega
  refine hd_W_mono (Q := tlz_Q a.toInt F0 X1 X2) ?_ (by
    rintro v G ⟨F', rfl, rfl, hR⟩
    exact ⟨F', rfl, rfl, tlz_Rsrc hR k0⟩)
  refine tly_0 (by decide) F0 X1 X2 (hd_iveq hB k0) ?_ ?_ ?_ ?_
  all_goals
    intros
    rename_i F1 hb g e4 e5 e6 e7 e8 e9 e11 e12 e14 e15 e16 a25 a26 a42 a43 a44 a45 a46 a47 a48 a49 a50 e69 e70 e71
    refine tz12_4 X1 X2 F0 a.toInt (by omega) (by omega) hk F1 ⟨gr_mk hb g (by decide) (by omega) (by omega), kp_same a49 a50, fun b _ => s5_same a44 a45 a46 a47 a48 b, by omega, by omega, by omega, by omega⟩ ?_ (fun z => ⟨by omega, by omega, by omega, fun b q1 q2 => absurd q2 (by omega)⟩) (fun z => ?_) (by omega) (by omega) (by omega)
  all_goals first
    | exact ⟨fun z => absurd z (by omega), fun _ => ⟨e6, e7⟩⟩
    | exact fx_ok (by omega) (by omega)
    | exact fx_mk (by omega) (by show sB (sM _ _ _) _ = _; rw [sM_no (by omega)]; rfl) e6 (e7.trans eP.symm)
    | exact fx_mk (by omega) (by show sB (sM _ _ _) _ = _; rw [sM_4 (by omega) (by omega)]; rfl) e6 (e7.trans eP.symm)
    | (exfalso; omega)
    | (show sB (sM _ _ _) _ = _
       have hA : aA F0 F1 = [] := by
         unfold aA
         rw [show ((sy_i F1 14).toInt - (sy_i F0 14).toInt).toNat = 0 by omega]
         rfl
       rw [sM_ok (by omega) (by omega), tn_s (by omega) e4, hA]
       rfl)
end
section
/-! ===== fruit and buyers, with the numbers ===== -/
theorem tfz_0 {Ls : Nat} {xs : Nat → Int32} {d : Nat} {Q : Option Value → jm_h → Prop} (hd : 5 ≤ d) (F : Nat → sy_d) (X1 X2 : List jm_c) (hB : iv_in F iv_B4)
    (k0 : ∀ F1 : Nat → sy_d, iv_in F1 iv_B4 → (∀ j, j < 69 → j ∉ ([] : List Nat) → F1 j = F j) → (sy_i F1 4).toInt = (sy_i F 4).toInt → (sy_i F1 6).toInt = (sy_i F 6).toInt → (sy_i F1 7).toInt = (sy_i F 7).toInt → (sy_i F1 8).toInt = (sy_i F 8).toInt → (sy_i F1 9).toInt = (sy_i F 9).toInt → (sy_i F1 12).toInt = (sy_i F 12).toInt → (sy_i F1 13).toInt = (sy_i F 13).toInt → sy_ai F1 25 = sy_ai F 25 → sy_ai F1 26 = sy_ai F 26 → sy_ai F1 31 = sy_ai F 31 → sy_ai F1 32 = sy_ai F 32 → sy_ai F1 33 = sy_ai F 33 → sy_ai F1 34 = sy_ai F 34 → (sy_i F1 69).toInt = ((7 * (sy_i F 12).toInt) + ((sy_ai F 31).getD ((sy_i F 12).toInt).toNat 0).toInt) → hd_W Ls xs d jm_M158 Q (19, sy_dL F1 [some (.inl (.ref 1000)), some (.inr (.inl 69)), none], sy_dS F1 [.inl (.ref 1000)], sy_dh F1 X1 X2 (iv_H 4), 0, 0)) :
    hd_W Ls xs d jm_M158 Q (0, sy_dL F [some (.inl (.ref 1000)), none, none], sy_dS F [], sy_dh F X1 X2 (iv_H 4), 0, 0) := by
  have c12 := nz_bx hB (k := 12) (lo := 0) (hi := 1) rfl
  have n69 : (((7 : Int32)) * (sy_i F 12)).toInt = (7 * (sy_i F 12).toInt) := nz_mul (by decide : ((7 : Int32)).toInt = 7) (rfl : (sy_i F 12).toInt = (sy_i F 12).toInt) (by omega) (by omega)
  have q70 : (sy_ai F 31).getD (sy_i F 12).toNatClampNeg 0 = (sy_ai F 31).getD ((sy_i F 12).toInt).toNat 0 := by simp only [nz_c]
  have n70 : ((sy_ai F 31).getD (sy_i F 12).toNatClampNeg 0).toInt = ((sy_ai F 31).getD ((sy_i F 12).toInt).toNat 0).toInt := congrArg Int32.toInt q70
  have r70 := nz_ba hB (k := 31) (lo := 0) (hi := 7) rfl ((sy_i F 12).toInt).toNat
  have n71 : ((((7 : Int32)) * (sy_i F 12)) + ((sy_ai F 31).getD (sy_i F 12).toNatClampNeg 0)).toInt = ((7 * (sy_i F 12).toInt) + ((sy_ai F 31).getD ((sy_i F 12).toInt).toNat 0).toInt) := nz_add n69 n70 (by omega) (by omega)
  exact tf_0_p0 hd F X1 X2 hB (by first | exact ⟨by omega, by omega⟩ | (simp only [nz_c]; exact ⟨by omega, by omega⟩)) (fun F1 g e69 => k0 F1 (nz_in hB [] (fun j hj hn => g j hj (by simp only [List.mem_cons, List.not_mem_nil, or_false, not_or] at hn; exact trivial)) (List.forall_mem_nil _)) (fun j hj hn => g j hj (by simp only [List.mem_cons, List.not_mem_nil, or_false, not_or] at hn; exact trivial)) (nz_fi (g 4 (by decide) (by decide))) (nz_fi (g 6 (by decide) (by decide))) (nz_fi (g 7 (by decide) (by decide))) (nz_fi (g 8 (by decide) (by decide))) (nz_fi (g 9 (by decide) (by decide))) (nz_fi (g 12 (by decide) (by decide))) (nz_fi (g 13 (by decide) (by decide))) (nz_fa (g 25 (by decide) (by decide))) (nz_fa (g 26 (by decide) (by decide))) (nz_fa (g 31 (by decide) (by decide))) (nz_fa (g 32 (by decide) (by decide))) (nz_fa (g 33 (by decide) (by decide))) (nz_fa (g 34 (by decide) (by decide))) ((congrArg Int32.toInt (zz_i e69)).trans n71))
theorem tfz_22 {Ls : Nat} {xs : Nat → Int32} {d : Nat} {Q : Option Value → jm_h → Prop} (hd : 5 ≤ d) (F : Nat → sy_d) (X1 X2 : List jm_c) (hB : iv_in F iv_B4)
    (k0 : ∀ F1 : Nat → sy_d, iv_in F1 iv_B4 → (∀ j, j < 69 → j ∉ ([] : List Nat) → F1 j = F j) → (sy_i F1 4).toInt = (sy_i F 4).toInt → (sy_i F1 6).toInt = (sy_i F 6).toInt → (sy_i F1 7).toInt = (sy_i F 7).toInt → (sy_i F1 8).toInt = (sy_i F 8).toInt → (sy_i F1 9).toInt = (sy_i F 9).toInt → (sy_i F1 12).toInt = (sy_i F 12).toInt → (sy_i F1 13).toInt = (sy_i F 13).toInt → sy_ai F1 25 = sy_ai F 25 → sy_ai F1 26 = sy_ai F 26 → sy_ai F1 31 = sy_ai F 31 → sy_ai F1 32 = sy_ai F 32 → sy_ai F1 33 = sy_ai F 33 → sy_ai F1 34 = sy_ai F 34 → (sy_i F1 69).toInt = (sy_i F 69).toInt → (sy_i F1 70).toInt = (sy_i F 70).toInt → hd_W Ls xs d jm_M158 Q (32, sy_dL F1 [some (.inl (.ref 1000)), some (.inr (.inl 69)), some (.inr (.inl 70))], sy_dS F1 [.inl (.int 9), .inl (.int 0), .inl (.ref 1000), .inr (.inl 69), .inl (.ref 1010)], sy_dh F1 X1 X2 (iv_H 4), 0, 0)) :
    hd_W Ls xs d jm_M158 Q (22, sy_dL F [some (.inl (.ref 1000)), some (.inr (.inl 69)), none], sy_dS F [.inr (.inl 70)], sy_dh F X1 X2 (iv_H 4), 0, 0) := by
  exact tf_22_p0 hd F X1 X2 hB  (fun F1 g e69 e70 => k0 F1 (nz_in hB [] (fun j hj hn => g j hj (by simp only [List.mem_cons, List.not_mem_nil, or_false, not_or] at hn; exact trivial)) (List.forall_mem_nil _)) (fun j hj hn => g j hj (by simp only [List.mem_cons, List.not_mem_nil, or_false, not_or] at hn; exact trivial)) (nz_fi (g 4 (by decide) (by decide))) (nz_fi (g 6 (by decide) (by decide))) (nz_fi (g 7 (by decide) (by decide))) (nz_fi (g 8 (by decide) (by decide))) (nz_fi (g 9 (by decide) (by decide))) (nz_fi (g 12 (by decide) (by decide))) (nz_fi (g 13 (by decide) (by decide))) (nz_fa (g 25 (by decide) (by decide))) (nz_fa (g 26 (by decide) (by decide))) (nz_fa (g 31 (by decide) (by decide))) (nz_fa (g 32 (by decide) (by decide))) (nz_fa (g 33 (by decide) (by decide))) (nz_fa (g 34 (by decide) (by decide))) ((congrArg Int32.toInt (zz_i e69)).trans (rfl : (sy_i F 69).toInt = (sy_i F 69).toInt)) ((congrArg Int32.toInt (zz_i e70)).trans (rfl : (sy_i F 70).toInt = (sy_i F 70).toInt)))
theorem tfz_35 {Ls : Nat} {xs : Nat → Int32} {d : Nat} {Q : Option Value → jm_h → Prop} (hd : 5 ≤ d) (F : Nat → sy_d) (X1 X2 : List jm_c) (hB : iv_in F iv_B4)
    (a69 : 0 ≤ (sy_i F 69).toInt ∧ (sy_i F 69).toInt ≤ 13)
    (k0 : ∀ F1 : Nat → sy_d, iv_in F1 iv_B4 → (∀ j, j < 69 → j ∉ ([32] : List Nat) → F1 j = F j) → (sy_i F1 4).toInt = (sy_i F 4).toInt → (sy_i F1 6).toInt = (sy_i F 6).toInt → (sy_i F1 7).toInt = (sy_i F 7).toInt → (sy_i F1 8).toInt = (sy_i F 8).toInt → (sy_i F1 9).toInt = (sy_i F 9).toInt → (sy_i F1 12).toInt = (sy_i F 12).toInt → (sy_i F1 13).toInt = (sy_i F 13).toInt → sy_ai F1 25 = sy_ai F 25 → sy_ai F1 26 = sy_ai F 26 → sy_ai F1 31 = sy_ai F 31 → sy_ai F1 32 = jm_upd (sy_ai F 32) ((sy_i F 69).toInt).toNat (sy_i F 71) → sy_ai F1 33 = sy_ai F 33 → sy_ai F1 34 = sy_ai F 34 → (sy_i F1 69).toInt = (sy_i F 69).toInt → (sy_i F1 70).toInt = (sy_i F 70).toInt → hd_W Ls xs d jm_M158 Q (45, sy_dL F1 [some (.inl (.ref 1000)), some (.inr (.inl 69)), some (.inr (.inl 70))], sy_dS F1 [.inl (.int 9), .inl (.int 1), .inl (.ref 1000), .inr (.inl 69), .inl (.ref 1011)], sy_dh F1 X1 X2 (iv_H 4), 0, 0)) :
    hd_W Ls xs d jm_M158 Q (35, sy_dL F [some (.inl (.ref 1000)), some (.inr (.inl 69)), some (.inr (.inl 70))], sy_dS F [.inr (.inl 71), .inr (.inl 69), .inl (.ref 1010)], sy_dh F X1 X2 (iv_H 4), 0, 0) := by
  have w72 : jm_upd (sy_ai F 32) (sy_i F 69).toNatClampNeg (sy_i F 71) = jm_upd (sy_ai F 32) ((sy_i F 69).toInt).toNat (sy_i F 71) := by simp only [nz_c]
  exact tf_35_p0 hd F X1 X2 hB (by first | exact ⟨by omega, by omega⟩ | (simp only [nz_c]; exact ⟨by omega, by omega⟩)) (fun F1 g e32 e69 e70 => k0 F1 (nz_in hB [32] (fun j hj hn => g j hj (by simp only [List.mem_cons, List.not_mem_nil, or_false, not_or] at hn; omega)) (List.forall_mem_cons.mpr ⟨fun t ht => (Option.some.inj ht) ▸ (nz_hz2 e32), List.forall_mem_nil _⟩)) (fun j hj hn => g j hj (by simp only [List.mem_cons, List.not_mem_nil, or_false, not_or] at hn; omega)) (nz_fi (g 4 (by decide) (by decide))) (nz_fi (g 6 (by decide) (by decide))) (nz_fi (g 7 (by decide) (by decide))) (nz_fi (g 8 (by decide) (by decide))) (nz_fi (g 9 (by decide) (by decide))) (nz_fi (g 12 (by decide) (by decide))) (nz_fi (g 13 (by decide) (by decide))) (nz_fa (g 25 (by decide) (by decide))) (nz_fa (g 26 (by decide) (by decide))) (nz_fa (g 31 (by decide) (by decide))) ((zz_ai e32).trans w72) (nz_fa (g 33 (by decide) (by decide))) (nz_fa (g 34 (by decide) (by decide))) ((congrArg Int32.toInt (zz_i e69)).trans (rfl : (sy_i F 69).toInt = (sy_i F 69).toInt)) ((congrArg Int32.toInt (zz_i e70)).trans (rfl : (sy_i F 70).toInt = (sy_i F 70).toInt)))
theorem tfz_48 {Ls : Nat} {xs : Nat → Int32} {d : Nat} {Q : Option Value → jm_h → Prop} (hd : 5 ≤ d) (F : Nat → sy_d) (X1 X2 : List jm_c) (hB : iv_in F iv_B4)
    (a69 : 0 ≤ (sy_i F 69).toInt ∧ (sy_i F 69).toInt ≤ 13)
    (k0 : ∀ F1 : Nat → sy_d, iv_in F1 iv_B4 → (∀ j, j < 69 → j ∉ ([33] : List Nat) → F1 j = F j) → (sy_i F1 4).toInt = (sy_i F 4).toInt → (sy_i F1 6).toInt = (sy_i F 6).toInt → (sy_i F1 7).toInt = (sy_i F 7).toInt → (sy_i F1 8).toInt = (sy_i F 8).toInt → (sy_i F1 9).toInt = (sy_i F 9).toInt → (sy_i F1 12).toInt = (sy_i F 12).toInt → (sy_i F1 13).toInt = (sy_i F 13).toInt → sy_ai F1 25 = sy_ai F 25 → sy_ai F1 26 = sy_ai F 26 → sy_ai F1 31 = sy_ai F 31 → sy_ai F1 32 = sy_ai F 32 → sy_ai F1 33 = jm_upd (sy_ai F 33) ((sy_i F 69).toInt).toNat (sy_i F 71) → sy_ai F1 34 = sy_ai F 34 → (sy_i F1 69).toInt = (sy_i F 69).toInt → (sy_i F1 70).toInt = (sy_i F 70).toInt → hd_W Ls xs d jm_M158 Q (58, sy_dL F1 [some (.inl (.ref 1000)), some (.inr (.inl 69)), some (.inr (.inl 70))], sy_dS F1 [.inl (.int 99), .inl (.int 0), .inl (.ref 1000), .inr (.inl 69), .inl (.ref 1012)], sy_dh F1 X1 X2 (iv_H 4), 0, 0)) :
    hd_W Ls xs d jm_M158 Q (48, sy_dL F [some (.inl (.ref 1000)), some (.inr (.inl 69)), some (.inr (.inl 70))], sy_dS F [.inr (.inl 71), .inr (.inl 69), .inl (.ref 1011)], sy_dh F X1 X2 (iv_H 4), 0, 0) := by
  have w72 : jm_upd (sy_ai F 33) (sy_i F 69).toNatClampNeg (sy_i F 71) = jm_upd (sy_ai F 33) ((sy_i F 69).toInt).toNat (sy_i F 71) := by simp only [nz_c]
  exact tf_48_p0 hd F X1 X2 hB (by first | exact ⟨by omega, by omega⟩ | (simp only [nz_c]; exact ⟨by omega, by omega⟩)) (fun F1 g e33 e69 e70 => k0 F1 (nz_in hB [33] (fun j hj hn => g j hj (by simp only [List.mem_cons, List.not_mem_nil, or_false, not_or] at hn; omega)) (List.forall_mem_cons.mpr ⟨fun t ht => (Option.some.inj ht) ▸ (nz_hz2 e33), List.forall_mem_nil _⟩)) (fun j hj hn => g j hj (by simp only [List.mem_cons, List.not_mem_nil, or_false, not_or] at hn; omega)) (nz_fi (g 4 (by decide) (by decide))) (nz_fi (g 6 (by decide) (by decide))) (nz_fi (g 7 (by decide) (by decide))) (nz_fi (g 8 (by decide) (by decide))) (nz_fi (g 9 (by decide) (by decide))) (nz_fi (g 12 (by decide) (by decide))) (nz_fi (g 13 (by decide) (by decide))) (nz_fa (g 25 (by decide) (by decide))) (nz_fa (g 26 (by decide) (by decide))) (nz_fa (g 31 (by decide) (by decide))) (nz_fa (g 32 (by decide) (by decide))) ((zz_ai e33).trans w72) (nz_fa (g 34 (by decide) (by decide))) ((congrArg Int32.toInt (zz_i e69)).trans (rfl : (sy_i F 69).toInt = (sy_i F 69).toInt)) ((congrArg Int32.toInt (zz_i e70)).trans (rfl : (sy_i F 70).toInt = (sy_i F 70).toInt)))
theorem tfz_61 {Ls : Nat} {xs : Nat → Int32} {d : Nat} {Q : Option Value → jm_h → Prop} (hd : 5 ≤ d) (F : Nat → sy_d) (X1 X2 : List jm_c) (hB : iv_in F iv_B4)
    (a69 : 0 ≤ (sy_i F 69).toInt ∧ (sy_i F 69).toInt ≤ 13)
    (k0 : ∀ F1 : Nat → sy_d, iv_in F1 iv_B4 → (∀ j, j < 69 → j ∉ ([34] : List Nat) → F1 j = F j) → (sy_i F1 4).toInt = (sy_i F 4).toInt → (sy_i F1 6).toInt = (sy_i F 6).toInt → (sy_i F1 7).toInt = (sy_i F 7).toInt → (sy_i F1 8).toInt = (sy_i F 8).toInt → (sy_i F1 9).toInt = (sy_i F 9).toInt → (sy_i F1 12).toInt = (sy_i F 12).toInt → (sy_i F1 13).toInt = (sy_i F 13).toInt → sy_ai F1 25 = sy_ai F 25 → sy_ai F1 26 = sy_ai F 26 → sy_ai F1 31 = sy_ai F 31 → sy_ai F1 32 = sy_ai F 32 → sy_ai F1 33 = sy_ai F 33 → sy_ai F1 34 = jm_upd (sy_ai F 34) ((sy_i F 69).toInt).toNat (sy_i F 71) → (sy_i F1 69).toInt = (sy_i F 70).toInt → hd_W Ls xs d jm_M158 Q (64, sy_dL F1 [some (.inl (.ref 1000)), none, none], sy_dS F1 [.inr (.inl 69), .inl (.ref 1000)], sy_dh F1 X1 X2 (iv_H 4), 0, 0)) :
    hd_W Ls xs d jm_M158 Q (61, sy_dL F [some (.inl (.ref 1000)), some (.inr (.inl 69)), some (.inr (.inl 70))], sy_dS F [.inr (.inl 71), .inr (.inl 69), .inl (.ref 1012)], sy_dh F X1 X2 (iv_H 4), 0, 0) := by
  have w72 : jm_upd (sy_ai F 34) (sy_i F 69).toNatClampNeg (sy_i F 71) = jm_upd (sy_ai F 34) ((sy_i F 69).toInt).toNat (sy_i F 71) := by simp only [nz_c]
  exact tf_61_p0 hd F X1 X2 hB (by first | exact ⟨by omega, by omega⟩ | (simp only [nz_c]; exact ⟨by omega, by omega⟩)) (fun F1 g e34 e69 => k0 F1 (nz_in hB [34] (fun j hj hn => g j hj (by simp only [List.mem_cons, List.not_mem_nil, or_false, not_or] at hn; omega)) (List.forall_mem_cons.mpr ⟨fun t ht => (Option.some.inj ht) ▸ (nz_hz2 e34), List.forall_mem_nil _⟩)) (fun j hj hn => g j hj (by simp only [List.mem_cons, List.not_mem_nil, or_false, not_or] at hn; omega)) (nz_fi (g 4 (by decide) (by decide))) (nz_fi (g 6 (by decide) (by decide))) (nz_fi (g 7 (by decide) (by decide))) (nz_fi (g 8 (by decide) (by decide))) (nz_fi (g 9 (by decide) (by decide))) (nz_fi (g 12 (by decide) (by decide))) (nz_fi (g 13 (by decide) (by decide))) (nz_fa (g 25 (by decide) (by decide))) (nz_fa (g 26 (by decide) (by decide))) (nz_fa (g 31 (by decide) (by decide))) (nz_fa (g 32 (by decide) (by decide))) (nz_fa (g 33 (by decide) (by decide))) ((zz_ai e34).trans w72) ((congrArg Int32.toInt (zz_i e69)).trans (rfl : (sy_i F 70).toInt = (sy_i F 70).toInt)))
theorem tfz_67 {Ls : Nat} {xs : Nat → Int32} {d : Nat} {Q : Option Value → jm_h → Prop} (hd : 5 ≤ d) (F : Nat → sy_d) (X1 X2 : List jm_c) (hB : iv_in F iv_B4)
    (o0 : (sy_i F 6).toInt = 0 → (0 ≤ (((sy_ai F 31).getD ((sy_i F 12).toInt).toNat 0).toInt + 1) ∧ (((sy_ai F 31).getD ((sy_i F 12).toInt).toNat 0).toInt + 1) ≤ 7))
    (k0 : (sy_i F 6).toInt ≠ 0 → ∀ F1 : Nat → sy_d, iv_in F1 iv_B4 → (∀ j, j < 69 → j ∉ ([] : List Nat) → F1 j = F j) → (sy_i F1 4).toInt = (sy_i F 4).toInt → (sy_i F1 6).toInt = (sy_i F 6).toInt → (sy_i F1 7).toInt = (sy_i F 7).toInt → (sy_i F1 8).toInt = (sy_i F 8).toInt → (sy_i F1 9).toInt = (sy_i F 9).toInt → (sy_i F1 12).toInt = (sy_i F 12).toInt → (sy_i F1 13).toInt = (sy_i F 13).toInt → sy_ai F1 25 = sy_ai F 25 → sy_ai F1 26 = sy_ai F 26 → sy_ai F1 31 = sy_ai F 31 → sy_ai F1 32 = sy_ai F 32 → sy_ai F1 33 = sy_ai F 33 → sy_ai F1 34 = sy_ai F 34 → Q (none) (sy_dh F1 X1 X2 (iv_H 4)))
    (k1 : (sy_i F 6).toInt = 0 → ∀ F1 : Nat → sy_d, iv_in F1 iv_B4 → (∀ j, j < 69 → j ∉ ([31] : List Nat) → F1 j = F j) → (sy_i F1 4).toInt = (sy_i F 4).toInt → (sy_i F1 6).toInt = (sy_i F 6).toInt → (sy_i F1 7).toInt = (sy_i F 7).toInt → (sy_i F1 8).toInt = (sy_i F 8).toInt → (sy_i F1 9).toInt = (sy_i F 9).toInt → (sy_i F1 12).toInt = (sy_i F 12).toInt → (sy_i F1 13).toInt = (sy_i F 13).toInt → sy_ai F1 25 = sy_ai F 25 → sy_ai F1 26 = sy_ai F 26 → sy_ai F1 31 = jm_upd (sy_ai F 31) ((sy_i F 12).toInt).toNat (((sy_ai F 31).getD ((sy_i F 12).toInt).toNat 0) + ((1 : Int32))) → sy_ai F1 32 = sy_ai F 32 → sy_ai F1 33 = sy_ai F 33 → sy_ai F1 34 = sy_ai F 34 → Q (none) (sy_dh F1 X1 X2 (iv_H 4))) :
    hd_W Ls xs d jm_M158 Q (67, sy_dL F [some (.inl (.ref 1000)), none, none], sy_dS F [], sy_dh F X1 X2 (iv_H 4), 0, 0) := by
  by_cases g0 : (sy_i F 6).toInt ≠ 0
  · have c6 := nz_bx hB (k := 6) (lo := 0) (hi := 2) rfl
    exact tf_67_p0 hd F X1 X2 hB (by first | exact g0 | (simp only [nz_c]; exact g0)) (fun F1 g  => k0 g0 F1 (nz_in hB [] (fun j hj hn => g j hj (by simp only [List.mem_cons, List.not_mem_nil, or_false, not_or] at hn; exact trivial)) (List.forall_mem_nil _)) (fun j hj hn => g j hj (by simp only [List.mem_cons, List.not_mem_nil, or_false, not_or] at hn; exact trivial)) (nz_fi (g 4 (by decide) (by decide))) (nz_fi (g 6 (by decide) (by decide))) (nz_fi (g 7 (by decide) (by decide))) (nz_fi (g 8 (by decide) (by decide))) (nz_fi (g 9 (by decide) (by decide))) (nz_fi (g 12 (by decide) (by decide))) (nz_fi (g 13 (by decide) (by decide))) (nz_fa (g 25 (by decide) (by decide))) (nz_fa (g 26 (by decide) (by decide))) (nz_fa (g 31 (by decide) (by decide))) (nz_fa (g 32 (by decide) (by decide))) (nz_fa (g 33 (by decide) (by decide))) (nz_fa (g 34 (by decide) (by decide))))
  replace g0 : (sy_i F 6).toInt = 0 := by omega
  have c6 := nz_bx hB (k := 6) (lo := 0) (hi := 2) rfl
  have c12 := nz_bx hB (k := 12) (lo := 0) (hi := 1) rfl
  have q70 : (sy_ai F 31).getD (sy_i F 12).toNatClampNeg 0 = (sy_ai F 31).getD ((sy_i F 12).toInt).toNat 0 := by simp only [nz_c]
  have n70 : ((sy_ai F 31).getD (sy_i F 12).toNatClampNeg 0).toInt = ((sy_ai F 31).getD ((sy_i F 12).toInt).toNat 0).toInt := congrArg Int32.toInt q70
  have r70 := nz_ba hB (k := 31) (lo := 0) (hi := 7) rfl ((sy_i F 12).toInt).toNat
  have n71 : (((sy_ai F 31).getD (sy_i F 12).toNatClampNeg 0) + ((1 : Int32))).toInt = (((sy_ai F 31).getD ((sy_i F 12).toInt).toNat 0).toInt + 1) := nz_add n70 (by decide : ((1 : Int32)).toInt = 1) (by omega) (by omega)
  have w72 : jm_upd (sy_ai F 31) (sy_i F 12).toNatClampNeg (((sy_ai F 31).getD (sy_i F 12).toNatClampNeg 0) + ((1 : Int32))) = jm_upd (sy_ai F 31) ((sy_i F 12).toInt).toNat (((sy_ai F 31).getD ((sy_i F 12).toInt).toNat 0) + ((1 : Int32))) := by simp only [nz_c, n71, (by decide : ((1 : Int32)).toInt = 1)]
  exact tf_67_p1 hd F X1 X2 hB (by first | exact g0 | (simp only [nz_c]; exact g0)) (by first | exact ⟨by omega, by omega⟩ | (simp only [nz_c]; exact ⟨by omega, by omega⟩)) (by first | exact ⟨by omega, by omega⟩ | (simp only [nz_c]; exact ⟨by omega, by omega⟩)) (fun F1 g e31 => k1 g0 F1 (nz_in hB [31] (fun j hj hn => g j hj (by simp only [List.mem_cons, List.not_mem_nil, or_false, not_or] at hn; omega)) (List.forall_mem_cons.mpr ⟨fun t ht => (Option.some.inj ht) ▸ (nz_hA e31 (nz_up (nz_ba hB (k := 31) (lo := 0) (hi := 7) rfl) n71 (o0 g0).1 (o0 g0).2)), List.forall_mem_nil _⟩)) (fun j hj hn => g j hj (by simp only [List.mem_cons, List.not_mem_nil, or_false, not_or] at hn; omega)) (nz_fi (g 4 (by decide) (by decide))) (nz_fi (g 6 (by decide) (by decide))) (nz_fi (g 7 (by decide) (by decide))) (nz_fi (g 8 (by decide) (by decide))) (nz_fi (g 9 (by decide) (by decide))) (nz_fi (g 12 (by decide) (by decide))) (nz_fi (g 13 (by decide) (by decide))) (nz_fa (g 25 (by decide) (by decide))) (nz_fa (g 26 (by decide) (by decide))) ((zz_ai e31).trans w72) (nz_fa (g 32 (by decide) (by decide))) (nz_fa (g 33 (by decide) (by decide))) (nz_fa (g 34 (by decide) (by decide))))
theorem tbz_0 {Ls : Nat} {xs : Nat → Int32} {d : Nat} {Q : Option Value → jm_h → Prop} (hd : 5 ≤ d) (F : Nat → sy_d) (X1 X2 : List jm_c) (hB : iv_in F iv_B4)
    (k0 : ∀ F1 : Nat → sy_d, iv_in F1 iv_B4 → (∀ j, j < 69 → j ∉ ([] : List Nat) → F1 j = F j) → (sy_i F1 4).toInt = (sy_i F 4).toInt → (sy_i F1 6).toInt = (sy_i F 6).toInt → (sy_i F1 7).toInt = (sy_i F 7).toInt → (sy_i F1 8).toInt = (sy_i F 8).toInt → (sy_i F1 9).toInt = (sy_i F 9).toInt → (sy_i F1 12).toInt = (sy_i F 12).toInt → (sy_i F1 13).toInt = (sy_i F 13).toInt → sy_ai F1 25 = sy_ai F 25 → sy_ai F1 26 = sy_ai F 26 → sy_ai F1 35 = sy_ai F 35 → sy_ai F1 36 = sy_ai F 36 → sy_ai F1 37 = sy_ai F 37 → sy_ai F1 38 = sy_ai F 38 → (sy_i F1 69).toInt = ((4 * (sy_i F 12).toInt) + ((sy_ai F 35).getD ((sy_i F 12).toInt).toNat 0).toInt) → hd_W Ls xs d jm_M159 Q (18, sy_dL F1 [some (.inl (.ref 1000)), some (.inr (.inl 69)), none], sy_dS F1 [.inl (.ref 1000)], sy_dh F1 X1 X2 (iv_H 4), 0, 0)) :
    hd_W Ls xs d jm_M159 Q (0, sy_dL F [some (.inl (.ref 1000)), none, none], sy_dS F [], sy_dh F X1 X2 (iv_H 4), 0, 0) := by
  have c12 := nz_bx hB (k := 12) (lo := 0) (hi := 1) rfl
  have n69 : (((4 : Int32)) * (sy_i F 12)).toInt = (4 * (sy_i F 12).toInt) := nz_mul (by decide : ((4 : Int32)).toInt = 4) (rfl : (sy_i F 12).toInt = (sy_i F 12).toInt) (by omega) (by omega)
  have q70 : (sy_ai F 35).getD (sy_i F 12).toNatClampNeg 0 = (sy_ai F 35).getD ((sy_i F 12).toInt).toNat 0 := by simp only [nz_c]
  have n70 : ((sy_ai F 35).getD (sy_i F 12).toNatClampNeg 0).toInt = ((sy_ai F 35).getD ((sy_i F 12).toInt).toNat 0).toInt := congrArg Int32.toInt q70
  have r70 := nz_ba hB (k := 35) (lo := 0) (hi := 4) rfl ((sy_i F 12).toInt).toNat
  have n71 : ((((4 : Int32)) * (sy_i F 12)) + ((sy_ai F 35).getD (sy_i F 12).toNatClampNeg 0)).toInt = ((4 * (sy_i F 12).toInt) + ((sy_ai F 35).getD ((sy_i F 12).toInt).toNat 0).toInt) := nz_add n69 n70 (by omega) (by omega)
  exact tb_0_p0 hd F X1 X2 hB (by first | exact ⟨by omega, by omega⟩ | (simp only [nz_c]; exact ⟨by omega, by omega⟩)) (fun F1 g e69 => k0 F1 (nz_in hB [] (fun j hj hn => g j hj (by simp only [List.mem_cons, List.not_mem_nil, or_false, not_or] at hn; exact trivial)) (List.forall_mem_nil _)) (fun j hj hn => g j hj (by simp only [List.mem_cons, List.not_mem_nil, or_false, not_or] at hn; exact trivial)) (nz_fi (g 4 (by decide) (by decide))) (nz_fi (g 6 (by decide) (by decide))) (nz_fi (g 7 (by decide) (by decide))) (nz_fi (g 8 (by decide) (by decide))) (nz_fi (g 9 (by decide) (by decide))) (nz_fi (g 12 (by decide) (by decide))) (nz_fi (g 13 (by decide) (by decide))) (nz_fa (g 25 (by decide) (by decide))) (nz_fa (g 26 (by decide) (by decide))) (nz_fa (g 35 (by decide) (by decide))) (nz_fa (g 36 (by decide) (by decide))) (nz_fa (g 37 (by decide) (by decide))) (nz_fa (g 38 (by decide) (by decide))) ((congrArg Int32.toInt (zz_i e69)).trans n71))
theorem tbz_21 {Ls : Nat} {xs : Nat → Int32} {d : Nat} {Q : Option Value → jm_h → Prop} (hd : 5 ≤ d) (F : Nat → sy_d) (X1 X2 : List jm_c) (hB : iv_in F iv_B4)
    (k0 : ∀ F1 : Nat → sy_d, iv_in F1 iv_B4 → (∀ j, j < 69 → j ∉ ([] : List Nat) → F1 j = F j) → (sy_i F1 4).toInt = (sy_i F 4).toInt → (sy_i F1 6).toInt = (sy_i F 6).toInt → (sy_i F1 7).toInt = (sy_i F 7).toInt → (sy_i F1 8).toInt = (sy_i F 8).toInt → (sy_i F1 9).toInt = (sy_i F 9).toInt → (sy_i F1 12).toInt = (sy_i F 12).toInt → (sy_i F1 13).toInt = (sy_i F 13).toInt → sy_ai F1 25 = sy_ai F 25 → sy_ai F1 26 = sy_ai F 26 → sy_ai F1 35 = sy_ai F 35 → sy_ai F1 36 = sy_ai F 36 → sy_ai F1 37 = sy_ai F 37 → sy_ai F1 38 = sy_ai F 38 → (sy_i F1 69).toInt = (sy_i F 69).toInt → (sy_i F1 70).toInt = (sy_i F 70).toInt → hd_W Ls xs d jm_M159 Q (31, sy_dL F1 [some (.inl (.ref 1000)), some (.inr (.inl 69)), some (.inr (.inl 70))], sy_dS F1 [.inl (.int 9), .inl (.int 0), .inl (.ref 1000), .inr (.inl 69), .inl (.ref 1014)], sy_dh F1 X1 X2 (iv_H 4), 0, 0)) :
    hd_W Ls xs d jm_M159 Q (21, sy_dL F [some (.inl (.ref 1000)), some (.inr (.inl 69)), none], sy_dS F [.inr (.inl 70)], sy_dh F X1 X2 (iv_H 4), 0, 0) := by
  exact tb_21_p0 hd F X1 X2 hB  (fun F1 g e69 e70 => k0 F1 (nz_in hB [] (fun j hj hn => g j hj (by simp only [List.mem_cons, List.not_mem_nil, or_false, not_or] at hn; exact trivial)) (List.forall_mem_nil _)) (fun j hj hn => g j hj (by simp only [List.mem_cons, List.not_mem_nil, or_false, not_or] at hn; exact trivial)) (nz_fi (g 4 (by decide) (by decide))) (nz_fi (g 6 (by decide) (by decide))) (nz_fi (g 7 (by decide) (by decide))) (nz_fi (g 8 (by decide) (by decide))) (nz_fi (g 9 (by decide) (by decide))) (nz_fi (g 12 (by decide) (by decide))) (nz_fi (g 13 (by decide) (by decide))) (nz_fa (g 25 (by decide) (by decide))) (nz_fa (g 26 (by decide) (by decide))) (nz_fa (g 35 (by decide) (by decide))) (nz_fa (g 36 (by decide) (by decide))) (nz_fa (g 37 (by decide) (by decide))) (nz_fa (g 38 (by decide) (by decide))) ((congrArg Int32.toInt (zz_i e69)).trans (rfl : (sy_i F 69).toInt = (sy_i F 69).toInt)) ((congrArg Int32.toInt (zz_i e70)).trans (rfl : (sy_i F 70).toInt = (sy_i F 70).toInt)))
theorem tbz_34 {Ls : Nat} {xs : Nat → Int32} {d : Nat} {Q : Option Value → jm_h → Prop} (hd : 5 ≤ d) (F : Nat → sy_d) (X1 X2 : List jm_c) (hB : iv_in F iv_B4)
    (a69 : 0 ≤ (sy_i F 69).toInt ∧ (sy_i F 69).toInt ≤ 7)
    (k0 : ∀ F1 : Nat → sy_d, iv_in F1 iv_B4 → (∀ j, j < 69 → j ∉ ([36] : List Nat) → F1 j = F j) → (sy_i F1 4).toInt = (sy_i F 4).toInt → (sy_i F1 6).toInt = (sy_i F 6).toInt → (sy_i F1 7).toInt = (sy_i F 7).toInt → (sy_i F1 8).toInt = (sy_i F 8).toInt → (sy_i F1 9).toInt = (sy_i F 9).toInt → (sy_i F1 12).toInt = (sy_i F 12).toInt → (sy_i F1 13).toInt = (sy_i F 13).toInt → sy_ai F1 25 = sy_ai F 25 → sy_ai F1 26 = sy_ai F 26 → sy_ai F1 35 = sy_ai F 35 → sy_ai F1 36 = jm_upd (sy_ai F 36) ((sy_i F 69).toInt).toNat (sy_i F 71) → sy_ai F1 37 = sy_ai F 37 → sy_ai F1 38 = sy_ai F 38 → (sy_i F1 69).toInt = (sy_i F 69).toInt → (sy_i F1 70).toInt = (sy_i F 70).toInt → hd_W Ls xs d jm_M159 Q (43, sy_dL F1 [some (.inl (.ref 1000)), some (.inr (.inl 69)), some (.inr (.inl 70))], sy_dS F1 [.inl (.int 3), .inl (.int 0), .inl (.ref 1000), .inr (.inl 69), .inl (.ref 1015)], sy_dh F1 X1 X2 (iv_H 4), 0, 0)) :
    hd_W Ls xs d jm_M159 Q (34, sy_dL F [some (.inl (.ref 1000)), some (.inr (.inl 69)), some (.inr (.inl 70))], sy_dS F [.inr (.inl 71), .inr (.inl 69), .inl (.ref 1014)], sy_dh F X1 X2 (iv_H 4), 0, 0) := by
  have w72 : jm_upd (sy_ai F 36) (sy_i F 69).toNatClampNeg (sy_i F 71) = jm_upd (sy_ai F 36) ((sy_i F 69).toInt).toNat (sy_i F 71) := by simp only [nz_c]
  exact tb_34_p0 hd F X1 X2 hB (by first | exact ⟨by omega, by omega⟩ | (simp only [nz_c]; exact ⟨by omega, by omega⟩)) (fun F1 g e36 e69 e70 => k0 F1 (nz_in hB [36] (fun j hj hn => g j hj (by simp only [List.mem_cons, List.not_mem_nil, or_false, not_or] at hn; omega)) (List.forall_mem_cons.mpr ⟨fun t ht => (Option.some.inj ht) ▸ (nz_hz2 e36), List.forall_mem_nil _⟩)) (fun j hj hn => g j hj (by simp only [List.mem_cons, List.not_mem_nil, or_false, not_or] at hn; omega)) (nz_fi (g 4 (by decide) (by decide))) (nz_fi (g 6 (by decide) (by decide))) (nz_fi (g 7 (by decide) (by decide))) (nz_fi (g 8 (by decide) (by decide))) (nz_fi (g 9 (by decide) (by decide))) (nz_fi (g 12 (by decide) (by decide))) (nz_fi (g 13 (by decide) (by decide))) (nz_fa (g 25 (by decide) (by decide))) (nz_fa (g 26 (by decide) (by decide))) (nz_fa (g 35 (by decide) (by decide))) ((zz_ai e36).trans w72) (nz_fa (g 37 (by decide) (by decide))) (nz_fa (g 38 (by decide) (by decide))) ((congrArg Int32.toInt (zz_i e69)).trans (rfl : (sy_i F 69).toInt = (sy_i F 69).toInt)) ((congrArg Int32.toInt (zz_i e70)).trans (rfl : (sy_i F 70).toInt = (sy_i F 70).toInt)))
theorem tbz_46 {Ls : Nat} {xs : Nat → Int32} {d : Nat} {Q : Option Value → jm_h → Prop} (hd : 5 ≤ d) (F : Nat → sy_d) (X1 X2 : List jm_c) (hB : iv_in F iv_B4)
    (a69 : 0 ≤ (sy_i F 69).toInt ∧ (sy_i F 69).toInt ≤ 7)
    (k0 : ∀ F1 : Nat → sy_d, iv_in F1 iv_B4 → (∀ j, j < 69 → j ∉ ([37] : List Nat) → F1 j = F j) → (sy_i F1 4).toInt = (sy_i F 4).toInt → (sy_i F1 6).toInt = (sy_i F 6).toInt → (sy_i F1 7).toInt = (sy_i F 7).toInt → (sy_i F1 8).toInt = (sy_i F 8).toInt → (sy_i F1 9).toInt = (sy_i F 9).toInt → (sy_i F1 12).toInt = (sy_i F 12).toInt → (sy_i F1 13).toInt = (sy_i F 13).toInt → sy_ai F1 25 = sy_ai F 25 → sy_ai F1 26 = sy_ai F 26 → sy_ai F1 35 = sy_ai F 35 → sy_ai F1 36 = sy_ai F 36 → sy_ai F1 37 = jm_upd (sy_ai F 37) ((sy_i F 69).toInt).toNat (sy_i F 71) → sy_ai F1 38 = sy_ai F 38 → (sy_i F1 69).toInt = (sy_i F 69).toInt → (sy_i F1 70).toInt = (sy_i F 70).toInt → hd_W Ls xs d jm_M159 Q (57, sy_dL F1 [some (.inl (.ref 1000)), some (.inr (.inl 69)), some (.inr (.inl 70))], sy_dS F1 [.inl (.int 999), .inl (.int 0), .inl (.ref 1000), .inr (.inl 69), .inl (.ref 1016)], sy_dh F1 X1 X2 (iv_H 4), 0, 0)) :
    hd_W Ls xs d jm_M159 Q (46, sy_dL F [some (.inl (.ref 1000)), some (.inr (.inl 69)), some (.inr (.inl 70))], sy_dS F [.inr (.inl 71), .inr (.inl 69), .inl (.ref 1015)], sy_dh F X1 X2 (iv_H 4), 0, 0) := by
  have w72 : jm_upd (sy_ai F 37) (sy_i F 69).toNatClampNeg (sy_i F 71) = jm_upd (sy_ai F 37) ((sy_i F 69).toInt).toNat (sy_i F 71) := by simp only [nz_c]
  exact tb_46_p0 hd F X1 X2 hB (by first | exact ⟨by omega, by omega⟩ | (simp only [nz_c]; exact ⟨by omega, by omega⟩)) (fun F1 g e37 e69 e70 => k0 F1 (nz_in hB [37] (fun j hj hn => g j hj (by simp only [List.mem_cons, List.not_mem_nil, or_false, not_or] at hn; omega)) (List.forall_mem_cons.mpr ⟨fun t ht => (Option.some.inj ht) ▸ (nz_hz2 e37), List.forall_mem_nil _⟩)) (fun j hj hn => g j hj (by simp only [List.mem_cons, List.not_mem_nil, or_false, not_or] at hn; omega)) (nz_fi (g 4 (by decide) (by decide))) (nz_fi (g 6 (by decide) (by decide))) (nz_fi (g 7 (by decide) (by decide))) (nz_fi (g 8 (by decide) (by decide))) (nz_fi (g 9 (by decide) (by decide))) (nz_fi (g 12 (by decide) (by decide))) (nz_fi (g 13 (by decide) (by decide))) (nz_fa (g 25 (by decide) (by decide))) (nz_fa (g 26 (by decide) (by decide))) (nz_fa (g 35 (by decide) (by decide))) (nz_fa (g 36 (by decide) (by decide))) ((zz_ai e37).trans w72) (nz_fa (g 38 (by decide) (by decide))) ((congrArg Int32.toInt (zz_i e69)).trans (rfl : (sy_i F 69).toInt = (sy_i F 69).toInt)) ((congrArg Int32.toInt (zz_i e70)).trans (rfl : (sy_i F 70).toInt = (sy_i F 70).toInt)))
theorem tbz_60 {Ls : Nat} {xs : Nat → Int32} {d : Nat} {Q : Option Value → jm_h → Prop} (hd : 5 ≤ d) (F : Nat → sy_d) (X1 X2 : List jm_c) (hB : iv_in F iv_B4)
    (a69 : 0 ≤ (sy_i F 69).toInt ∧ (sy_i F 69).toInt ≤ 7)
    (k0 : ∀ F1 : Nat → sy_d, iv_in F1 iv_B4 → (∀ j, j < 69 → j ∉ ([38] : List Nat) → F1 j = F j) → (sy_i F1 4).toInt = (sy_i F 4).toInt → (sy_i F1 6).toInt = (sy_i F 6).toInt → (sy_i F1 7).toInt = (sy_i F 7).toInt → (sy_i F1 8).toInt = (sy_i F 8).toInt → (sy_i F1 9).toInt = (sy_i F 9).toInt → (sy_i F1 12).toInt = (sy_i F 12).toInt → (sy_i F1 13).toInt = (sy_i F 13).toInt → sy_ai F1 25 = sy_ai F 25 → sy_ai F1 26 = sy_ai F 26 → sy_ai F1 35 = sy_ai F 35 → sy_ai F1 36 = sy_ai F 36 → sy_ai F1 37 = sy_ai F 37 → sy_ai F1 38 = jm_upd (sy_ai F 38) ((sy_i F 69).toInt).toNat (sy_i F 71) → (sy_i F1 69).toInt = (sy_i F 70).toInt → hd_W Ls xs d jm_M159 Q (63, sy_dL F1 [some (.inl (.ref 1000)), none, none], sy_dS F1 [.inr (.inl 69), .inl (.ref 1000)], sy_dh F1 X1 X2 (iv_H 4), 0, 0)) :
    hd_W Ls xs d jm_M159 Q (60, sy_dL F [some (.inl (.ref 1000)), some (.inr (.inl 69)), some (.inr (.inl 70))], sy_dS F [.inr (.inl 71), .inr (.inl 69), .inl (.ref 1016)], sy_dh F X1 X2 (iv_H 4), 0, 0) := by
  have w72 : jm_upd (sy_ai F 38) (sy_i F 69).toNatClampNeg (sy_i F 71) = jm_upd (sy_ai F 38) ((sy_i F 69).toInt).toNat (sy_i F 71) := by simp only [nz_c]
  exact tb_60_p0 hd F X1 X2 hB (by first | exact ⟨by omega, by omega⟩ | (simp only [nz_c]; exact ⟨by omega, by omega⟩)) (fun F1 g e38 e69 => k0 F1 (nz_in hB [38] (fun j hj hn => g j hj (by simp only [List.mem_cons, List.not_mem_nil, or_false, not_or] at hn; omega)) (List.forall_mem_cons.mpr ⟨fun t ht => (Option.some.inj ht) ▸ (nz_hz2 e38), List.forall_mem_nil _⟩)) (fun j hj hn => g j hj (by simp only [List.mem_cons, List.not_mem_nil, or_false, not_or] at hn; omega)) (nz_fi (g 4 (by decide) (by decide))) (nz_fi (g 6 (by decide) (by decide))) (nz_fi (g 7 (by decide) (by decide))) (nz_fi (g 8 (by decide) (by decide))) (nz_fi (g 9 (by decide) (by decide))) (nz_fi (g 12 (by decide) (by decide))) (nz_fi (g 13 (by decide) (by decide))) (nz_fa (g 25 (by decide) (by decide))) (nz_fa (g 26 (by decide) (by decide))) (nz_fa (g 35 (by decide) (by decide))) (nz_fa (g 36 (by decide) (by decide))) (nz_fa (g 37 (by decide) (by decide))) ((zz_ai e38).trans w72) ((congrArg Int32.toInt (zz_i e69)).trans (rfl : (sy_i F 70).toInt = (sy_i F 70).toInt)))
theorem tbz_66 {Ls : Nat} {xs : Nat → Int32} {d : Nat} {Q : Option Value → jm_h → Prop} (hd : 5 ≤ d) (F : Nat → sy_d) (X1 X2 : List jm_c) (hB : iv_in F iv_B4)
    (o0 : (sy_i F 6).toInt = 0 → (0 ≤ (((sy_ai F 35).getD ((sy_i F 12).toInt).toNat 0).toInt + 1) ∧ (((sy_ai F 35).getD ((sy_i F 12).toInt).toNat 0).toInt + 1) ≤ 4))
    (k0 : (sy_i F 6).toInt ≠ 0 → ∀ F1 : Nat → sy_d, iv_in F1 iv_B4 → (∀ j, j < 69 → j ∉ ([] : List Nat) → F1 j = F j) → (sy_i F1 4).toInt = (sy_i F 4).toInt → (sy_i F1 6).toInt = (sy_i F 6).toInt → (sy_i F1 7).toInt = (sy_i F 7).toInt → (sy_i F1 8).toInt = (sy_i F 8).toInt → (sy_i F1 9).toInt = (sy_i F 9).toInt → (sy_i F1 12).toInt = (sy_i F 12).toInt → (sy_i F1 13).toInt = (sy_i F 13).toInt → sy_ai F1 25 = sy_ai F 25 → sy_ai F1 26 = sy_ai F 26 → sy_ai F1 35 = sy_ai F 35 → sy_ai F1 36 = sy_ai F 36 → sy_ai F1 37 = sy_ai F 37 → sy_ai F1 38 = sy_ai F 38 → Q (none) (sy_dh F1 X1 X2 (iv_H 4)))
    (k1 : (sy_i F 6).toInt = 0 → ∀ F1 : Nat → sy_d, iv_in F1 iv_B4 → (∀ j, j < 69 → j ∉ ([35] : List Nat) → F1 j = F j) → (sy_i F1 4).toInt = (sy_i F 4).toInt → (sy_i F1 6).toInt = (sy_i F 6).toInt → (sy_i F1 7).toInt = (sy_i F 7).toInt → (sy_i F1 8).toInt = (sy_i F 8).toInt → (sy_i F1 9).toInt = (sy_i F 9).toInt → (sy_i F1 12).toInt = (sy_i F 12).toInt → (sy_i F1 13).toInt = (sy_i F 13).toInt → sy_ai F1 25 = sy_ai F 25 → sy_ai F1 26 = sy_ai F 26 → sy_ai F1 35 = jm_upd (sy_ai F 35) ((sy_i F 12).toInt).toNat (((sy_ai F 35).getD ((sy_i F 12).toInt).toNat 0) + ((1 : Int32))) → sy_ai F1 36 = sy_ai F 36 → sy_ai F1 37 = sy_ai F 37 → sy_ai F1 38 = sy_ai F 38 → Q (none) (sy_dh F1 X1 X2 (iv_H 4))) :
    hd_W Ls xs d jm_M159 Q (66, sy_dL F [some (.inl (.ref 1000)), none, none], sy_dS F [], sy_dh F X1 X2 (iv_H 4), 0, 0) := by
  by_cases g0 : (sy_i F 6).toInt ≠ 0
  · have c6 := nz_bx hB (k := 6) (lo := 0) (hi := 2) rfl
    exact tb_66_p0 hd F X1 X2 hB (by first | exact g0 | (simp only [nz_c]; exact g0)) (fun F1 g  => k0 g0 F1 (nz_in hB [] (fun j hj hn => g j hj (by simp only [List.mem_cons, List.not_mem_nil, or_false, not_or] at hn; exact trivial)) (List.forall_mem_nil _)) (fun j hj hn => g j hj (by simp only [List.mem_cons, List.not_mem_nil, or_false, not_or] at hn; exact trivial)) (nz_fi (g 4 (by decide) (by decide))) (nz_fi (g 6 (by decide) (by decide))) (nz_fi (g 7 (by decide) (by decide))) (nz_fi (g 8 (by decide) (by decide))) (nz_fi (g 9 (by decide) (by decide))) (nz_fi (g 12 (by decide) (by decide))) (nz_fi (g 13 (by decide) (by decide))) (nz_fa (g 25 (by decide) (by decide))) (nz_fa (g 26 (by decide) (by decide))) (nz_fa (g 35 (by decide) (by decide))) (nz_fa (g 36 (by decide) (by decide))) (nz_fa (g 37 (by decide) (by decide))) (nz_fa (g 38 (by decide) (by decide))))
  replace g0 : (sy_i F 6).toInt = 0 := by omega
  have c6 := nz_bx hB (k := 6) (lo := 0) (hi := 2) rfl
  have c12 := nz_bx hB (k := 12) (lo := 0) (hi := 1) rfl
  have q70 : (sy_ai F 35).getD (sy_i F 12).toNatClampNeg 0 = (sy_ai F 35).getD ((sy_i F 12).toInt).toNat 0 := by simp only [nz_c]
  have n70 : ((sy_ai F 35).getD (sy_i F 12).toNatClampNeg 0).toInt = ((sy_ai F 35).getD ((sy_i F 12).toInt).toNat 0).toInt := congrArg Int32.toInt q70
  have r70 := nz_ba hB (k := 35) (lo := 0) (hi := 4) rfl ((sy_i F 12).toInt).toNat
  have n71 : (((sy_ai F 35).getD (sy_i F 12).toNatClampNeg 0) + ((1 : Int32))).toInt = (((sy_ai F 35).getD ((sy_i F 12).toInt).toNat 0).toInt + 1) := nz_add n70 (by decide : ((1 : Int32)).toInt = 1) (by omega) (by omega)
  have w72 : jm_upd (sy_ai F 35) (sy_i F 12).toNatClampNeg (((sy_ai F 35).getD (sy_i F 12).toNatClampNeg 0) + ((1 : Int32))) = jm_upd (sy_ai F 35) ((sy_i F 12).toInt).toNat (((sy_ai F 35).getD ((sy_i F 12).toInt).toNat 0) + ((1 : Int32))) := by simp only [nz_c, n71, (by decide : ((1 : Int32)).toInt = 1)]
  exact tb_66_p1 hd F X1 X2 hB (by first | exact g0 | (simp only [nz_c]; exact g0)) (by first | exact ⟨by omega, by omega⟩ | (simp only [nz_c]; exact ⟨by omega, by omega⟩)) (by first | exact ⟨by omega, by omega⟩ | (simp only [nz_c]; exact ⟨by omega, by omega⟩)) (fun F1 g e35 => k1 g0 F1 (nz_in hB [35] (fun j hj hn => g j hj (by simp only [List.mem_cons, List.not_mem_nil, or_false, not_or] at hn; omega)) (List.forall_mem_cons.mpr ⟨fun t ht => (Option.some.inj ht) ▸ (nz_hA e35 (nz_up (nz_ba hB (k := 35) (lo := 0) (hi := 4) rfl) n71 (o0 g0).1 (o0 g0).2)), List.forall_mem_nil _⟩)) (fun j hj hn => g j hj (by simp only [List.mem_cons, List.not_mem_nil, or_false, not_or] at hn; omega)) (nz_fi (g 4 (by decide) (by decide))) (nz_fi (g 6 (by decide) (by decide))) (nz_fi (g 7 (by decide) (by decide))) (nz_fi (g 8 (by decide) (by decide))) (nz_fi (g 9 (by decide) (by decide))) (nz_fi (g 12 (by decide) (by decide))) (nz_fi (g 13 (by decide) (by decide))) (nz_fa (g 25 (by decide) (by decide))) (nz_fa (g 26 (by decide) (by decide))) ((zz_ai e35).trans w72) (nz_fa (g 36 (by decide) (by decide))) (nz_fa (g 37 (by decide) (by decide))) (nz_fa (g 38 (by decide) (by decide))))
end
section
/-! ===== the reference: fruit and buyers told, with the numbers ===== -/
section BYV
variable {Ls : Nat} {xs : Nat → Int32} (F : Nat → sy_d) (X1 X2 : List jm_c)
set_option maxHeartbeats 4000000 in
theorem byv_0 (F0 : Nat → sy_d) (hB : iv_in F0 iv_B4) : hd_W Ls xs 3 jm_M157 (fun v G => ∃ (x : Int32) (F' : Nat → sy_d), v = some (.int x) ∧ G = sy_dh F' X1 X2 (iv_H 4) ∧ bR (sy_i F0 69).toInt (sy_i F0 70).toInt F0 F' ∧ ((sy_i F' 6).toInt = 0 → x.toInt = vf F0 (tn F0))) (0, sy_dL F0 (sy_ent (jm_mx jm_M157) [.inl (.ref 1000), .inr (.inl 69), .inr (.inl 70)]), [], sy_dh F0 X1 X2 (iv_H 4), 0, 0) := by
  have c4 := nz_bx hB (k := 4) (lo := 0) (hi := 400) rfl
  have eK : kf F0 (tn F0) = ((sy_ai F0 25).getD (sy_i F0 4).toInt.toNat 0).toInt := rfl
  have eP : pf F0 (tn F0) = ((sy_ai F0 26).getD (sy_i F0 4).toInt.toNat 0).toInt := rfl
  have eV : vf F0 (tn F0) = ((sy_ai F0 27).getD (sy_i F0 4).toInt.toNat 0).toInt := rfl
  have et : (tn F0 : Int) = (sy_i F0 4).toInt := by unfold tn; omega
  refine boy_0 (by decide) F0 X1 X2 hB ?_ ?_ ?_ ?_ ?_ ?_ ?_ ?_ ?_ ?_ ?_ ?_ ?_ ?_ ?_ ?_ ?_ ?_ ?_ ?_ ?_ ?_ ?_ ?_
  all_goals
    intros
    rename_i F1 hb g e4 e6 e7 e8 e9 e13 a25 a26 a27
    refine ⟨_, F1, rfl, rfl, ⟨gr_mk (W := W1) hb g (by decide) (by omega) (by omega), ?_, fun L w hm hL hw => ?_⟩, fun z => ?_⟩
  all_goals first
    | exact absurd z (by omega)
    | exact eV.symm
    | exact nop_same e6 e7
    | exact fun z => absurd z (by omega)
    | exact an_no (by omega)
    | exact an_er (k := 1) (tok := tn F0) (sN_no (by omega)) e6 (by decide) (e7.trans eP.symm)
    | exact an_er (k := 2) (tok := tn F0) (sN_4 (by omega) (by omega)) e6 (by decide) (e7.trans eP.symm)
    | (obtain ⟨h1, h2, h3⟩ := id hw
       have hm9 : w.1 ≠ 0 → (sy_i F0 9).toInt < pf F0 (tn F0) := fun q => by
         obtain ⟨x, y⟩ := h3 q
         rw [x]
         exact hm.1 _ _ y hL
       have ts : tn F1 = tn F0 + 1 := tn_s c4.1 e4
       refine an_ok (a := (tn F0 + 1, sW w (vf F0 (tn F0) < (sy_i F0 69).toInt ∨ (sy_i F0 70).toInt < vf F0 (tn F0)) 5 (tn F0))) (sN_ok (by omega) (by omega)) (by omega) ⟨ts, pm_nx hm hL (by omega) (by omega), wr_s (by decide) hw (by omega) (by omega) (by omega)⟩)
theorem byv_T (hB : iv_in F iv_B4) (a b : Int32) : jm_T Ls xs 3 jm_M157 [.ref 1000, .int a, .int b] (sy_dh F X1 X2 (iv_H 4)) 0 0 (fun v G => ∃ (x : Int32) (F' : Nat → sy_d), v = some (.int x) ∧ G = sy_dh F' X1 X2 (iv_H 4) ∧ bR a.toInt b.toInt F F' ∧ ((sy_i F' 6).toInt = 0 → x.toInt = vf F (tn F))) := by
  refine nz_T2 jm_ok157 (by decide) (fun F0 k0 h69 h70 => hd_W_mono (byv_0 X1 X2 F0 (hd_iveq hB k0)) ?_)
  rintro v G ⟨x, F', rfl, rfl, hR, hx⟩
  rw [h69, h70] at hR
  rw [vf_eq (k0 27 (by decide)), tn_eq (nz_fi (k0 4 (by decide)))] at hx
  exact ⟨x, F', rfl, rfl, bR_src hR k0, hx⟩
end BYV
theorem sM_r {K : Nat → Int} {k : Int} {t t' : Nat} (h : sM K k t = .inr t') : t' = t + 1 := by
  unfold sM sG at h
  split at h
  · split at h
    · cases h
    · cases h; rfl
  · cases h
theorem sNm_r {K : Nat → Int} {N : Nat → Int64} {q : Nat × List Int64 × sE} {p : Nat × sE} (h : sNm K N q = .inr p) : p.1 = q.1 + 1 := by
  unfold sNm at h
  cases e : sM K 1 q.1 with
  | inl x => rw [e] at h; cases h
  | inr x => rw [e] at h; cases h; exact sM_r e
theorem sN_r {K V : Nat → Int} {lo hi : Int} {q p : Nat × sE} (h : sN K V lo hi q = .inr p) : p.1 = q.1 + 1 := by
  unfold sN at h
  cases e : sM K 2 q.1 with
  | inl x => rw [e] at h; cases h
  | inr x => rw [e] at h; cases h; exact sM_r e
theorem sB_r {A B : Type} {r : sE ⊕ A} {f : A → sE ⊕ B} {b : B} (h : sB r f = .inr b) : ∃ a, r = .inr a ∧ f a = .inr b := by
  cases r with
  | inl e => cases h
  | inr a => exact ⟨a, rfl, h⟩
noncomputable def tf_k (F : Nat → sy_d) : Int := 7 * (sy_i F 12).toInt + ((sy_ai F 31).getD (sy_i F 12).toInt.toNat 0).toInt
/-- m of the three numbers are stored -/
noncomputable def tf_v (m : Nat) (F F1 : Nat → sy_d) : Prop := (∀ i : Nat, (i : Int) ≠ tf_k F → (sy_ai F1 32).getD i 0 = (sy_ai F 32).getD i 0 ∧ (sy_ai F1 33).getD i 0 = (sy_ai F 33).getD i 0 ∧ (sy_ai F1 34).getD i 0 = (sy_ai F 34).getD i 0) ∧ ∀ (L : Nat) (w : sE) (nm : List Int64), pm (pf F) (kf F) L → tn F ≤ L → wr (pf F) w F → nmr nm F → (sy_i F 6).toInt = 0 → (sy_i F1 6).toInt = 0 → (1 ≤ m → ix F1 32 (tf_k F).toNat = vf F (tn F + 1)) ∧ (2 ≤ m → ix F1 33 (tf_k F).toNat = vf F (tn F + 2)) ∧ (3 ≤ m → ix F1 34 (tf_k F).toNat = vf F (tn F + 3))
theorem tf_v_same {m : Nat} {F F1 F2 : Nat → sy_d} (h : tf_v m F F1) (b1 : sy_ai F2 32 = sy_ai F1 32) (b2 : sy_ai F2 33 = sy_ai F1 33) (b3 : sy_ai F2 34 = sy_ai F1 34) (h6 : (sy_i F2 6).toInt = 0 → (sy_i F1 6).toInt = 0) : tf_v m F F2 := by
  unfold tf_v ix
  rw [b1, b2, b3]
  exact ⟨h.1, fun L w nm a b c d z z2 => h.2 L w nm a b c d z (h6 z2)⟩
noncomputable def tfz_R (F F' : Nat → sy_d) : Prop := tfy_R F F' ∧ tf_v 3 F F' ∧ ∀ i : Nat, (i : Int) ≠ (sy_i F 12).toInt → (sy_ai F' 31).getD i 0 = (sy_ai F 31).getD i 0
noncomputable def tfz_Q (F : Nat → sy_d) (X1 X2 : List jm_c) (v : Option Value) (G : jm_h) : Prop := ∃ F' : Nat → sy_d, v = none ∧ G = sy_dh F' X1 X2 (iv_H 4) ∧ tfz_R F F'
section tfZ
variable {Ls : Nat} {xs : Nat → Int32} (F : Nat → sy_d) (X1 X2 : List jm_c)
theorem tfz_e (hB : iv_in F iv_B4) (hf : ((sy_ai F 31).getD (sy_i F 12).toInt.toNat 0).toInt ≤ 6) (hn : (sy_i F 13).toInt ≤ 10) (F1 : Nat → sy_d) (hG : rn tf_I F F1 (fun w nm => sB ((fun w nm => sB ((fun w nm => sB ((fun w nm => sNm (kf F) (nf F) (tn F, nm, w)) w nm) (sN (kf F) (vf F) 0 9)) w nm) (sN (kf F) (vf F) 1 9)) w nm) (sN (kf F) (vf F) 0 99))) (h69 : (sy_i F1 69).toInt = (sy_i F 4).toInt) (hV : tf_v 3 F F1) :
    hd_W Ls xs 5 jm_M158 (tfz_Q F X1 X2) (64, sy_dL F1 [some (.inl (.ref 1000)), none, none], sy_dS F1 [.inr (.inl 69), .inl (.ref 1000)], sy_dh F1 X1 X2 (iv_H 4), 0, 0) := by
  obtain ⟨g1, g2, g3⟩ := hG
  have c4 := nz_bx hB (k := 4) (lo := 0) (hi := 400) rfl
  have i12 := g1.i (k := 12) (by decide) (by decide)
  have i13 := g1.i (k := 13) (by decide) (by decide)
  have a31 := g1.a (k := 31) (by decide) (by decide)
  refine hd_calV (R := eR (sy_i F1 69).toInt.toNat F1) (nh := 69) (nv := 70) (s := 4) (s1 := 4) (d1 := 4) (M1 := jm_M156) (As := [.inl (.ref 1000), .inr (.inl 69)]) (rest := []) jm_ok158 rfl rfl (by decide) (by decide +kernel) (ed_T F1 X1 X2 g1.b _ (by omega) (by omega) (by omega)) (fun F3 F' hR p1 _ => ?_)
  have hR3 := eR_dst hR p1
  obtain ⟨h3, r2, x, r4⟩ := id hR3
  rw [kf_eq (g1.f 25 (by decide) (by decide)), pf_eq (g1.f 26 (by decide) (by decide)), nf_eq (g1.f 28 (by decide) (by decide)), show (sy_i F1 69).toInt.toNat = tn F by unfold tn; rw [h69]] at r4
  have k12 := h3.i (k := 12) (by decide) (by decide)
  have k31 := h3.a (k := 31) (by decide) (by decide)
  have b31 := nz_ba h3.b (k := 31) (lo := 0) (hi := 7) rfl (sy_i F3 12).toInt.toNat
  have h4 : gr tf_W F F3 := (g1.mono (by decide)).trans h3 (by decide)
  have e31 : ((sy_ai F3 31).getD (sy_i F3 12).toInt.toNat 0).toInt = ((sy_ai F 31).getD (sy_i F 12).toInt.toNat 0).toInt := by rw [k31, a31, k12, i12]
  have fin : ∀ F4 : Nat → sy_d, (∀ q, q < 69 → q ≠ 31 → F4 q = F3 q) → nop F F4 ∧ ∀ (L : Nat) (w : sE) (nm : List Int64), pm (pf F) (kf F) L → tn F ≤ L → wr (pf F) w F → nmr nm F → an (pf F) (sTell (kf F) (vf F) (nf F) (0, 9) (1, 9) (0, 99) (tn F, nm, w)) (fun q F' => jq (pf F) L q F' ∧ nmr (nm ++ [nf F (tn F)]) F') F F4 := by
    intro F4 e
    have i4 := nz_fi (e 4 (by decide) (by decide))
    have i6 := nz_fi (e 6 (by decide) (by decide))
    have i7 := nz_fi (e 7 (by decide) (by decide))
    refine ⟨nop_trans (nop_trans g2 r2) (nop_same i6 i7), fun L w nm a b c d => ?_⟩
    have eT : sTell (kf F) (vf F) (nf F) (0, 9) (1, 9) (0, 99) (tn F, nm, w) = sB ((fun w nm => sB ((fun w nm => sB ((fun w nm => sB ((fun w nm => sNm (kf F) (nf F) (tn F, nm, w)) w nm) (sN (kf F) (vf F) 0 9)) w nm) (sN (kf F) (vf F) 1 9)) w nm) (sN (kf F) (vf F) 0 99)) w nm) (fun q => sB (sM (kf F) 4 q.1) fun t => .inr (t, q.2)) := by
      show _ = sB (sB (sB (sB _ _) _) _) _
      rw [sB_a, sB_a, sB_a]
      rfl
    rw [eT]
    refine an_bind (g3 L w nm a b c d) (nop_trans r2 (nop_same i6 i7)) (fun _ q hq => ?_)
    obtain ⟨q1, q2⟩ := q
    obtain ⟨e1, l, hw⟩ := hq
    have e1 : tn F1 = q1 := e1
    subst e1
    have hd : nmr nm F1 := nmr_eq d (g1.f 30 (by decide) (by decide)) i13
    refine an_bind (an_mono (r4 L q2 nm a l hw hd) i6 i7 (J' := jE (pf F) L q2 (nm ++ [nf F (tn F)])) (fun t j => ?_)) (nop_same rfl rfl) (fun h6 t j => ?_)
    · obtain ⟨j1, j2, j3, j4⟩ := j
      exact ⟨by rw [tn_eq i4]; exact j1, j2, wr_eq j3 (by rw [tn_eq i4]; exact Nat.le_refl _) (nz_fi (e 8 (by decide) (by decide))) (nz_fi (e 9 (by decide) (by decide))), nmr_eq j4 (e 30 (by decide) (by decide)) (nz_fi (e 13 (by decide) (by decide)))⟩
    · exact an_ok rfl h6 ⟨⟨j.1, j.2.1, j.2.2.1⟩, j.2.2.2⟩
  have vv : ∀ F4 : Nat → sy_d, sy_ai F4 32 = sy_ai F3 32 → sy_ai F4 33 = sy_ai F3 33 → sy_ai F4 34 = sy_ai F3 34 → (sy_i F4 6).toInt = (sy_i F3 6).toInt → tf_v 3 F F4 := fun F4 b1 b2 b3 b6 => tf_v_same hV (b1.trans (h3.a (k := 32) (by decide) (by decide))) (b2.trans (h3.a (k := 33) (by decide) (by decide))) (b3.trans (h3.a (k := 34) (by decide) (by decide))) (fun z => h3.u (by omega))
  refine tfz_67 (by decide) F3 X1 X2 h3.b (by omega) ?_ ?_
  · intro q F4 hb g e4 e6 e7 e8 e9 e12 e13 a25 a26 e31' a32 a33 a34
    obtain ⟨f1, f2⟩ := fin F4 (fun q hq _ => g q hq (by simp))
    exact ⟨F4, rfl, rfl, ⟨h4.trans (gr_mk (W := tf_W) hb g (by decide) (by omega) (by omega)) (by decide), f1, fun z => absurd z (by omega), f2⟩, vv F4 a32 a33 a34 e6, fun i hi => by rw [e31', k31, a31]⟩
  · intro q F4 hb g e4 e6 e7 e8 e9 e12 e13 a25 a26 e31' a32 a33 a34
    obtain ⟨f1, f2⟩ := fin F4 (fun q hq hne => g q hq (by simp only [List.mem_cons, List.not_mem_nil, or_false]; exact hne))
    refine ⟨F4, rfl, rfl, ⟨h4.trans (gr_mk (W := tf_W) hb g (by decide) (by omega) (by omega)) (by decide), f1, fun z => ⟨by have := x q; omega, ?_⟩, f2⟩, vv F4 a32 a33 a34 e6, fun i hi => by rw [e31', jm_upd_at, if_neg (by have c12 := nz_bx hB (k := 12) (lo := 0) (hi := 1) rfl; have k12b := k12.trans i12; omega), k31, a31]⟩
    have k12' : (sy_i F3 12).toInt = (sy_i F 12).toInt := k12.trans i12
    rw [e31', jm_upd_at, if_pos (by rw [k12']), nz_add (rfl : ((sy_ai F3 31).getD (sy_i F3 12).toInt.toNat 0).toInt = _) (by decide : ((1 : Int32)).toInt = 1) (by omega) (by omega), e31]
theorem tfz_b2 (hB : iv_in F iv_B4) (hf : ((sy_ai F 31).getD (sy_i F 12).toInt.toNat 0).toInt ≤ 6) (hn : (sy_i F 13).toInt ≤ 10) (F1 : Nat → sy_d) (hG : rn tf_I F F1 (fun w nm => sB ((fun w nm => sB ((fun w nm => sNm (kf F) (nf F) (tn F, nm, w)) w nm) (sN (kf F) (vf F) 0 9)) w nm) (sN (kf F) (vf F) 1 9))) (hk : (sy_i F1 69).toInt = tf_k F) (hV : tf_v 2 F F1) (ha : 0 ≤ (sy_i F1 69).toInt ∧ (sy_i F1 69).toInt ≤ 13) (h70 : (sy_i F1 70).toInt = (sy_i F 4).toInt) :
    hd_W Ls xs 5 jm_M158 (tfz_Q F X1 X2) (58, sy_dL F1 [some (.inl (.ref 1000)), some (.inr (.inl 69)), some (.inr (.inl 70))], sy_dS F1 [.inl (.int 99), .inl (.int 0), .inl (.ref 1000), .inr (.inl 69), .inl (.ref 1012)], sy_dh F1 X1 X2 (iv_H 4), 0, 0) := by
  refine hd_calI (R := fun x F' => bR ((0 : Int32)).toInt ((99 : Int32)).toInt F1 F' ∧ ((sy_i F' 6).toInt = 0 → x.toInt = vf F1 (tn F1))) (nh := 69) (nv := 71) (s := 4) (s1 := 4) (d1 := 3) (M1 := jm_M157) (As := [.inl (.ref 1000), .inl (.int 0), .inl (.int 99)]) (rest := [.inr (.inl 69), .inl (.ref 1012)]) jm_ok158 rfl rfl (by decide) (by decide +kernel) (byv_T F1 X1 X2 hG.1.b _ _) (fun F3 F' x hR0 p1 p2 p3 => ?_)
  obtain ⟨hR, hx⟩ := hR0
  have hR : bR 0 99 F1 F' := hR
  have h3 := rn_num hG (by decide) (by decide) (bR_dst hR p1)
  have j69 := nz_fi (p2 69 (by decide) (by decide))
  have j70 := nz_fi (p2 70 (by decide) (by decide))
  have vv : ∀ F4 : Nat → sy_d, sy_ai F4 34 = jm_upd (sy_ai F3 34) ((sy_i F3 69).toInt).toNat (sy_i F3 71) → sy_ai F4 32 = sy_ai F3 32 → sy_ai F4 33 = sy_ai F3 33 → (sy_i F4 6).toInt = (sy_i F3 6).toInt → tf_v 3 F F4 := fun F4 b1 b2 b3 b6 => by
    have g3 := (bR_dst hR p1).1
    have k1 : sy_ai F3 34 = sy_ai F1 34 := g3.a (k := 34) (by decide) (by decide)
    have k2 : sy_ai F3 32 = sy_ai F1 32 := g3.a (k := 32) (by decide) (by decide)
    have k3 : sy_ai F3 33 = sy_ai F1 33 := g3.a (k := 33) (by decide) (by decide)
    have ek : (sy_i F3 69).toInt = tf_k F := j69.trans hk
    have i6 := nz_fi (p1 6 (by decide))
    refine ⟨fun i hi => ?_, fun L w nm a b c d z z2 => ?_⟩
    · obtain ⟨y1, y2, y3⟩ := hV.1 i hi
      have hu : (sy_ai F4 34).getD i 0 = (sy_ai F1 34).getD i 0 := by rw [b1, k1, jm_upd_at, if_neg (by omega)]
      rw [b2, b3, k2, k3]
      exact ⟨y1, y2, hu.trans y3⟩
    · have z1 : (sy_i F1 6).toInt = 0 := g3.u (by omega)
      obtain ⟨y1, y2, y3⟩ := hV.2 L w nm a b c d z z1
      have hval : ix F4 34 (tf_k F).toNat = vf F (tn F + 3) := by
        have y := (hG.2.2 L w nm a b c d z).2 z1
        obtain ⟨q, hq, hj⟩ := y
        obtain ⟨q1, hq1, hq2⟩ := sB_r hq
        obtain ⟨q0, hq0, hq01⟩ := sB_r hq1
        have h1 := sNm_r hq0
        have h2 := sN_r hq01
        have h3' := sN_r hq2
        have h0 : tn F1 = q.1 := hj.1
        unfold ix
        rw [b1, jm_upd_at, if_pos (by rw [ek]), zz_i p3, hx (by omega), vf_eq (hG.1.f 27 (by decide) (by decide)), show tn F1 = tn F + 3 by omega]
      have e2 : ix F4 32 (tf_k F).toNat = ix F1 32 (tf_k F).toNat := by unfold ix; rw [b2, k2]
      have e3 : ix F4 33 (tf_k F).toNat = ix F1 33 (tf_k F).toNat := by unfold ix; rw [b3, k3]
      exact ⟨fun _ => by rw [e2]; exact y1 (by decide), fun _ => by rw [e3]; exact y2 (by decide), fun _ => hval⟩
  refine tfz_61 (by decide) F3 X1 X2 h3.1.b (by omega) ?_
  intro F4 hb g e4 e6 e7 e8 e9 e12 e13 a25 a26 e31 a32 a33 a34 e69
  exact tfz_e F X1 X2 hB hf hn F4 (rn_same h3 hb g (by decide) (by decide)) (by omega) (vv F4 a34 a32 a33 e6)
theorem tfz_b1 (hB : iv_in F iv_B4) (hf : ((sy_ai F 31).getD (sy_i F 12).toInt.toNat 0).toInt ≤ 6) (hn : (sy_i F 13).toInt ≤ 10) (F1 : Nat → sy_d) (hG : rn tf_I F F1 (fun w nm => sB ((fun w nm => sNm (kf F) (nf F) (tn F, nm, w)) w nm) (sN (kf F) (vf F) 0 9))) (hk : (sy_i F1 69).toInt = tf_k F) (hV : tf_v 1 F F1) (ha : 0 ≤ (sy_i F1 69).toInt ∧ (sy_i F1 69).toInt ≤ 13) (h70 : (sy_i F1 70).toInt = (sy_i F 4).toInt) :
    hd_W Ls xs 5 jm_M158 (tfz_Q F X1 X2) (45, sy_dL F1 [some (.inl (.ref 1000)), some (.inr (.inl 69)), some (.inr (.inl 70))], sy_dS F1 [.inl (.int 9), .inl (.int 1), .inl (.ref 1000), .inr (.inl 69), .inl (.ref 1011)], sy_dh F1 X1 X2 (iv_H 4), 0, 0) := by
  refine hd_calI (R := fun x F' => bR ((1 : Int32)).toInt ((9 : Int32)).toInt F1 F' ∧ ((sy_i F' 6).toInt = 0 → x.toInt = vf F1 (tn F1))) (nh := 69) (nv := 71) (s := 4) (s1 := 4) (d1 := 3) (M1 := jm_M157) (As := [.inl (.ref 1000), .inl (.int 1), .inl (.int 9)]) (rest := [.inr (.inl 69), .inl (.ref 1011)]) jm_ok158 rfl rfl (by decide) (by decide +kernel) (byv_T F1 X1 X2 hG.1.b _ _) (fun F3 F' x hR0 p1 p2 p3 => ?_)
  obtain ⟨hR, hx⟩ := hR0
  have hR : bR 1 9 F1 F' := hR
  have h3 := rn_num hG (by decide) (by decide) (bR_dst hR p1)
  have j69 := nz_fi (p2 69 (by decide) (by decide))
  have j70 := nz_fi (p2 70 (by decide) (by decide))
  have vv : ∀ F4 : Nat → sy_d, sy_ai F4 33 = jm_upd (sy_ai F3 33) ((sy_i F3 69).toInt).toNat (sy_i F3 71) → sy_ai F4 32 = sy_ai F3 32 → sy_ai F4 34 = sy_ai F3 34 → (sy_i F4 6).toInt = (sy_i F3 6).toInt → tf_v 2 F F4 := fun F4 b1 b2 b3 b6 => by
    have g3 := (bR_dst hR p1).1
    have k1 : sy_ai F3 33 = sy_ai F1 33 := g3.a (k := 33) (by decide) (by decide)
    have k2 : sy_ai F3 32 = sy_ai F1 32 := g3.a (k := 32) (by decide) (by decide)
    have k3 : sy_ai F3 34 = sy_ai F1 34 := g3.a (k := 34) (by decide) (by decide)
    have ek : (sy_i F3 69).toInt = tf_k F := j69.trans hk
    have i6 := nz_fi (p1 6 (by decide))
    refine ⟨fun i hi => ?_, fun L w nm a b c d z z2 => ?_⟩
    · obtain ⟨y1, y2, y3⟩ := hV.1 i hi
      have hu : (sy_ai F4 33).getD i 0 = (sy_ai F1 33).getD i 0 := by rw [b1, k1, jm_upd_at, if_neg (by omega)]
      rw [b2, b3, k2, k3]
      exact ⟨y1, hu.trans y2, y3⟩
    · have z1 : (sy_i F1 6).toInt = 0 := g3.u (by omega)
      obtain ⟨y1, y2, y3⟩ := hV.2 L w nm a b c d z z1
      have hval : ix F4 33 (tf_k F).toNat = vf F (tn F + 2) := by
        have y := (hG.2.2 L w nm a b c d z).2 z1
        obtain ⟨q, hq, hj⟩ := y
        obtain ⟨q0, hq0, hq1⟩ := sB_r hq
        have h1 := sNm_r hq0
        have h2 := sN_r hq1
        have h0 : tn F1 = q.1 := hj.1
        unfold ix
        rw [b1, jm_upd_at, if_pos (by rw [ek]), zz_i p3, hx (by omega), vf_eq (hG.1.f 27 (by decide) (by decide)), show tn F1 = tn F + 2 by omega]
      have e2 : ix F4 32 (tf_k F).toNat = ix F1 32 (tf_k F).toNat := by unfold ix; rw [b2, k2]
      have e3 : ix F4 34 (tf_k F).toNat = ix F1 34 (tf_k F).toNat := by unfold ix; rw [b3, k3]
      exact ⟨fun _ => by rw [e2]; exact y1 (by decide), fun _ => hval, fun q => absurd q (by decide)⟩
  refine tfz_48 (by decide) F3 X1 X2 h3.1.b (by omega) ?_
  intro F4 hb g e4 e6 e7 e8 e9 e12 e13 a25 a26 e31 a32 a33 a34 e69 e70
  exact tfz_b2 F X1 X2 hB hf hn F4 (rn_same h3 hb g (by decide) (by decide)) (by omega) (vv F4 a33 a32 a34 e6) (by omega) (by omega)
theorem tfz_b0 (hB : iv_in F iv_B4) (hf : ((sy_ai F 31).getD (sy_i F 12).toInt.toNat 0).toInt ≤ 6) (hn : (sy_i F 13).toInt ≤ 10) (F1 : Nat → sy_d) (hG : rn tf_I F F1 (fun w nm => sNm (kf F) (nf F) (tn F, nm, w))) (hk : (sy_i F1 69).toInt = tf_k F) (hV : tf_v 0 F F1) (ha : 0 ≤ (sy_i F1 69).toInt ∧ (sy_i F1 69).toInt ≤ 13) (h70 : (sy_i F1 70).toInt = (sy_i F 4).toInt) :
    hd_W Ls xs 5 jm_M158 (tfz_Q F X1 X2) (32, sy_dL F1 [some (.inl (.ref 1000)), some (.inr (.inl 69)), some (.inr (.inl 70))], sy_dS F1 [.inl (.int 9), .inl (.int 0), .inl (.ref 1000), .inr (.inl 69), .inl (.ref 1010)], sy_dh F1 X1 X2 (iv_H 4), 0, 0) := by
  refine hd_calI (R := fun x F' => bR ((0 : Int32)).toInt ((9 : Int32)).toInt F1 F' ∧ ((sy_i F' 6).toInt = 0 → x.toInt = vf F1 (tn F1))) (nh := 69) (nv := 71) (s := 4) (s1 := 4) (d1 := 3) (M1 := jm_M157) (As := [.inl (.ref 1000), .inl (.int 0), .inl (.int 9)]) (rest := [.inr (.inl 69), .inl (.ref 1010)]) jm_ok158 rfl rfl (by decide) (by decide +kernel) (byv_T F1 X1 X2 hG.1.b _ _) (fun F3 F' x hR0 p1 p2 p3 => ?_)
  obtain ⟨hR, hx⟩ := hR0
  have hR : bR 0 9 F1 F' := hR
  have h3 := rn_num hG (by decide) (by decide) (bR_dst hR p1)
  have j69 := nz_fi (p2 69 (by decide) (by decide))
  have j70 := nz_fi (p2 70 (by decide) (by decide))
  have vv : ∀ F4 : Nat → sy_d, sy_ai F4 32 = jm_upd (sy_ai F3 32) ((sy_i F3 69).toInt).toNat (sy_i F3 71) → sy_ai F4 33 = sy_ai F3 33 → sy_ai F4 34 = sy_ai F3 34 → (sy_i F4 6).toInt = (sy_i F3 6).toInt → tf_v 1 F F4 := fun F4 b1 b2 b3 b6 => by
    have g3 := (bR_dst hR p1).1
    have k1 : sy_ai F3 32 = sy_ai F1 32 := g3.a (k := 32) (by decide) (by decide)
    have k2 : sy_ai F3 33 = sy_ai F1 33 := g3.a (k := 33) (by decide) (by decide)
    have k3 : sy_ai F3 34 = sy_ai F1 34 := g3.a (k := 34) (by decide) (by decide)
    have ek : (sy_i F3 69).toInt = tf_k F := j69.trans hk
    have i6 := nz_fi (p1 6 (by decide))
    refine ⟨fun i hi => ?_, fun L w nm a b c d z z2 => ?_⟩
    · obtain ⟨y1, y2, y3⟩ := hV.1 i hi
      have hu : (sy_ai F4 32).getD i 0 = (sy_ai F1 32).getD i 0 := by rw [b1, k1, jm_upd_at, if_neg (by omega)]
      rw [b2, b3, k2, k3]
      exact ⟨hu.trans y1, y2, y3⟩
    · have z1 : (sy_i F1 6).toInt = 0 := g3.u (by omega)
      obtain ⟨y1, y2, y3⟩ := hV.2 L w nm a b c d z z1
      have hval : ix F4 32 (tf_k F).toNat = vf F (tn F + 1) := by
        have y := (hG.2.2 L w nm a b c d z).2 z1
        obtain ⟨q, hq, hj⟩ := y
        have h1 := sNm_r hq
        have h0 : tn F1 = q.1 := hj.1
        unfold ix
        rw [b1, jm_upd_at, if_pos (by rw [ek]), zz_i p3, hx (by omega), vf_eq (hG.1.f 27 (by decide) (by decide)), show tn F1 = tn F + 1 by omega]
      have e2 : ix F4 33 (tf_k F).toNat = ix F1 33 (tf_k F).toNat := by unfold ix; rw [b2, k2]
      have e3 : ix F4 34 (tf_k F).toNat = ix F1 34 (tf_k F).toNat := by unfold ix; rw [b3, k3]
      exact ⟨fun _ => hval, fun q => absurd q (by decide), fun q => absurd q (by decide)⟩
  refine tfz_35 (by decide) F3 X1 X2 h3.1.b (by omega) ?_
  intro F4 hb g e4 e6 e7 e8 e9 e12 e13 a25 a26 e31 a32 a33 a34 e69 e70
  exact tfz_b1 F X1 X2 hB hf hn F4 (rn_same h3 hb g (by decide) (by decide)) (by omega) (vv F4 a32 a33 a34 e6) (by omega) (by omega)
theorem tfz_T (hB : iv_in F iv_B4) (hf : ((sy_ai F 31).getD (sy_i F 12).toInt.toNat 0).toInt ≤ 6) (hn : (sy_i F 13).toInt ≤ 10) : jm_T Ls xs 5 jm_M158 [.ref 1000] (sy_dh F X1 X2 (iv_H 4)) 0 0 (tfz_Q F X1 X2) := by
  have c4 := nz_bx hB (k := 4) (lo := 0) (hi := 400) rfl
  have c12 := nz_bx hB (k := 12) (lo := 0) (hi := 1) rfl
  have b31 := nz_ba hB (k := 31) (lo := 0) (hi := 7) rfl (sy_i F 12).toInt.toNat
  refine nz_T0 jm_ok158 (by decide) (tfz_0 (by decide) F X1 X2 hB ?_)
  intro F1 hb g e4 e6 e7 e8 e9 e12 e13 a25 a26 e31 a32 a33 a34 e69
  have g0 : ∀ q, q < 69 → F1 q = F q := fun q hq => g q hq (by simp)
  refine hd_calI (R := fun (x : Int32) F' => nR x F1 F') (nh := 69) (nv := 70) (s := 4) (s1 := 4) (d1 := 4) (M1 := jm_M155) (As := [.inl (.ref 1000)]) (rest := []) jm_ok158 rfl rfl (by decide) (by decide +kernel) (ny_T F1 X1 X2 hb) (fun F3 F' x hR p1 p2 p3 => ?_)
  obtain ⟨r1, r2, r4, r3⟩ := nR_dst hR p1
  rw [kf_eq (g0 25 (by decide)), pf_eq (g0 26 (by decide)), nf_eq (g0 28 (by decide)), tn_eq e4] at r3
  have h3 : rn tf_I F F3 (fun w nm => sNm (kf F) (nf F) (tn F, nm, w)) := ⟨(r1.mono (by decide)).src g0, nop_src r2 e6 e7, fun L w nm a b c d => an_src (r3 L w nm a b (wr_eq c (by rw [tn_eq e4]; exact Nat.le_refl _) e8 e9) (nmr_eq d (g0 30 (by decide)) e13)) e6⟩
  have j69 := nz_fi (p2 69 (by decide) (by decide))
  have j70 := zz_i p3
  rw [← j70] at r4
  refine tfz_22 (by decide) F3 X1 X2 h3.1.b ?_
  intro F4 hb4 g4 e4' e6' e7' e8' e9' e12' e13' a25' a26' e31' a32' a33' a34' e69' e70'
  refine tfz_b0 F X1 X2 hB hf hn F4 (rn_same h3 hb4 g4 (by decide) (by decide)) (by unfold tf_k; omega) ⟨fun i _ => ?_, fun L w nm a b c d z z2 => ⟨fun q => absurd q (by decide), fun q => absurd q (by decide), fun q => absurd q (by decide)⟩⟩ (by omega) (by omega)
  rw [a32', a33', a34', r1.a (k := 32) (by decide) (by decide), r1.a (k := 33) (by decide) (by decide), r1.a (k := 34) (by decide) (by decide), a32, a33, a34]
  exact ⟨rfl, rfl, rfl⟩
end tfZ
noncomputable def tb_k (F : Nat → sy_d) : Int := 4 * (sy_i F 12).toInt + ((sy_ai F 35).getD (sy_i F 12).toInt.toNat 0).toInt
/-- m of the three numbers are stored -/
noncomputable def tb_v (m : Nat) (F F1 : Nat → sy_d) : Prop := (∀ i : Nat, (i : Int) ≠ tb_k F → (sy_ai F1 36).getD i 0 = (sy_ai F 36).getD i 0 ∧ (sy_ai F1 37).getD i 0 = (sy_ai F 37).getD i 0 ∧ (sy_ai F1 38).getD i 0 = (sy_ai F 38).getD i 0) ∧ ∀ (L : Nat) (w : sE) (nm : List Int64), pm (pf F) (kf F) L → tn F ≤ L → wr (pf F) w F → nmr nm F → (sy_i F 6).toInt = 0 → (sy_i F1 6).toInt = 0 → (1 ≤ m → ix F1 36 (tb_k F).toNat = vf F (tn F + 1)) ∧ (2 ≤ m → ix F1 37 (tb_k F).toNat = vf F (tn F + 2)) ∧ (3 ≤ m → ix F1 38 (tb_k F).toNat = vf F (tn F + 3))
theorem tb_v_same {m : Nat} {F F1 F2 : Nat → sy_d} (h : tb_v m F F1) (b1 : sy_ai F2 36 = sy_ai F1 36) (b2 : sy_ai F2 37 = sy_ai F1 37) (b3 : sy_ai F2 38 = sy_ai F1 38) (h6 : (sy_i F2 6).toInt = 0 → (sy_i F1 6).toInt = 0) : tb_v m F F2 := by
  unfold tb_v ix
  rw [b1, b2, b3]
  exact ⟨h.1, fun L w nm a b c d z z2 => h.2 L w nm a b c d z (h6 z2)⟩
noncomputable def tbz_R (F F' : Nat → sy_d) : Prop := tby_R F F' ∧ tb_v 3 F F' ∧ ∀ i : Nat, (i : Int) ≠ (sy_i F 12).toInt → (sy_ai F' 35).getD i 0 = (sy_ai F 35).getD i 0
noncomputable def tbz_Q (F : Nat → sy_d) (X1 X2 : List jm_c) (v : Option Value) (G : jm_h) : Prop := ∃ F' : Nat → sy_d, v = none ∧ G = sy_dh F' X1 X2 (iv_H 4) ∧ tbz_R F F'
section tbZ
variable {Ls : Nat} {xs : Nat → Int32} (F : Nat → sy_d) (X1 X2 : List jm_c)
theorem tbz_e (hB : iv_in F iv_B4) (hf : ((sy_ai F 35).getD (sy_i F 12).toInt.toNat 0).toInt ≤ 3) (hn : (sy_i F 13).toInt ≤ 10) (F1 : Nat → sy_d) (hG : rn tb_I F F1 (fun w nm => sB ((fun w nm => sB ((fun w nm => sB ((fun w nm => sNm (kf F) (nf F) (tn F, nm, w)) w nm) (sN (kf F) (vf F) 0 9)) w nm) (sN (kf F) (vf F) 0 3)) w nm) (sN (kf F) (vf F) 0 999))) (h69 : (sy_i F1 69).toInt = (sy_i F 4).toInt) (hV : tb_v 3 F F1) :
    hd_W Ls xs 5 jm_M159 (tbz_Q F X1 X2) (63, sy_dL F1 [some (.inl (.ref 1000)), none, none], sy_dS F1 [.inr (.inl 69), .inl (.ref 1000)], sy_dh F1 X1 X2 (iv_H 4), 0, 0) := by
  obtain ⟨g1, g2, g3⟩ := hG
  have c4 := nz_bx hB (k := 4) (lo := 0) (hi := 400) rfl
  have i12 := g1.i (k := 12) (by decide) (by decide)
  have i13 := g1.i (k := 13) (by decide) (by decide)
  have a31 := g1.a (k := 35) (by decide) (by decide)
  refine hd_calV (R := eR (sy_i F1 69).toInt.toNat F1) (nh := 69) (nv := 70) (s := 4) (s1 := 4) (d1 := 4) (M1 := jm_M156) (As := [.inl (.ref 1000), .inr (.inl 69)]) (rest := []) jm_ok159 rfl rfl (by decide) (by decide +kernel) (ed_T F1 X1 X2 g1.b _ (by omega) (by omega) (by omega)) (fun F3 F' hR p1 _ => ?_)
  have hR3 := eR_dst hR p1
  obtain ⟨h3, r2, x, r4⟩ := id hR3
  rw [kf_eq (g1.f 25 (by decide) (by decide)), pf_eq (g1.f 26 (by decide) (by decide)), nf_eq (g1.f 28 (by decide) (by decide)), show (sy_i F1 69).toInt.toNat = tn F by unfold tn; rw [h69]] at r4
  have k12 := h3.i (k := 12) (by decide) (by decide)
  have k31 := h3.a (k := 35) (by decide) (by decide)
  have b31 := nz_ba h3.b (k := 35) (lo := 0) (hi := 4) rfl (sy_i F3 12).toInt.toNat
  have h4 : gr tb_W F F3 := (g1.mono (by decide)).trans h3 (by decide)
  have e31 : ((sy_ai F3 35).getD (sy_i F3 12).toInt.toNat 0).toInt = ((sy_ai F 35).getD (sy_i F 12).toInt.toNat 0).toInt := by rw [k31, a31, k12, i12]
  have fin : ∀ F4 : Nat → sy_d, (∀ q, q < 69 → q ≠ 35 → F4 q = F3 q) → nop F F4 ∧ ∀ (L : Nat) (w : sE) (nm : List Int64), pm (pf F) (kf F) L → tn F ≤ L → wr (pf F) w F → nmr nm F → an (pf F) (sTell (kf F) (vf F) (nf F) (0, 9) (0, 3) (0, 999) (tn F, nm, w)) (fun q F' => jq (pf F) L q F' ∧ nmr (nm ++ [nf F (tn F)]) F') F F4 := by
    intro F4 e
    have i4 := nz_fi (e 4 (by decide) (by decide))
    have i6 := nz_fi (e 6 (by decide) (by decide))
    have i7 := nz_fi (e 7 (by decide) (by decide))
    refine ⟨nop_trans (nop_trans g2 r2) (nop_same i6 i7), fun L w nm a b c d => ?_⟩
    have eT : sTell (kf F) (vf F) (nf F) (0, 9) (0, 3) (0, 999) (tn F, nm, w) = sB ((fun w nm => sB ((fun w nm => sB ((fun w nm => sB ((fun w nm => sNm (kf F) (nf F) (tn F, nm, w)) w nm) (sN (kf F) (vf F) 0 9)) w nm) (sN (kf F) (vf F) 0 3)) w nm) (sN (kf F) (vf F) 0 999)) w nm) (fun q => sB (sM (kf F) 4 q.1) fun t => .inr (t, q.2)) := by
      show _ = sB (sB (sB (sB _ _) _) _) _
      rw [sB_a, sB_a, sB_a]
      rfl
    rw [eT]
    refine an_bind (g3 L w nm a b c d) (nop_trans r2 (nop_same i6 i7)) (fun _ q hq => ?_)
    obtain ⟨q1, q2⟩ := q
    obtain ⟨e1, l, hw⟩ := hq
    have e1 : tn F1 = q1 := e1
    subst e1
    have hd : nmr nm F1 := nmr_eq d (g1.f 30 (by decide) (by decide)) i13
    refine an_bind (an_mono (r4 L q2 nm a l hw hd) i6 i7 (J' := jE (pf F) L q2 (nm ++ [nf F (tn F)])) (fun t j => ?_)) (nop_same rfl rfl) (fun h6 t j => ?_)
    · obtain ⟨j1, j2, j3, j4⟩ := j
      exact ⟨by rw [tn_eq i4]; exact j1, j2, wr_eq j3 (by rw [tn_eq i4]; exact Nat.le_refl _) (nz_fi (e 8 (by decide) (by decide))) (nz_fi (e 9 (by decide) (by decide))), nmr_eq j4 (e 30 (by decide) (by decide)) (nz_fi (e 13 (by decide) (by decide)))⟩
    · exact an_ok rfl h6 ⟨⟨j.1, j.2.1, j.2.2.1⟩, j.2.2.2⟩
  have vv : ∀ F4 : Nat → sy_d, sy_ai F4 36 = sy_ai F3 36 → sy_ai F4 37 = sy_ai F3 37 → sy_ai F4 38 = sy_ai F3 38 → (sy_i F4 6).toInt = (sy_i F3 6).toInt → tb_v 3 F F4 := fun F4 b1 b2 b3 b6 => tb_v_same hV (b1.trans (h3.a (k := 36) (by decide) (by decide))) (b2.trans (h3.a (k := 37) (by decide) (by decide))) (b3.trans (h3.a (k := 38) (by decide) (by decide))) (fun z => h3.u (by omega))
  refine tbz_66 (by decide) F3 X1 X2 h3.b (by omega) ?_ ?_
  · intro q F4 hb g e4 e6 e7 e8 e9 e12 e13 a25 a26 e31' a32 a33 a34
    obtain ⟨f1, f2⟩ := fin F4 (fun q hq _ => g q hq (by simp))
    exact ⟨F4, rfl, rfl, ⟨h4.trans (gr_mk (W := tb_W) hb g (by decide) (by omega) (by omega)) (by decide), f1, fun z => absurd z (by omega), f2⟩, vv F4 a32 a33 a34 e6, fun i hi => by rw [e31', k31, a31]⟩
  · intro q F4 hb g e4 e6 e7 e8 e9 e12 e13 a25 a26 e31' a32 a33 a34
    obtain ⟨f1, f2⟩ := fin F4 (fun q hq hne => g q hq (by simp only [List.mem_cons, List.not_mem_nil, or_false]; exact hne))
    refine ⟨F4, rfl, rfl, ⟨h4.trans (gr_mk (W := tb_W) hb g (by decide) (by omega) (by omega)) (by decide), f1, fun z => ⟨by have := x q; omega, ?_⟩, f2⟩, vv F4 a32 a33 a34 e6, fun i hi => by rw [e31', jm_upd_at, if_neg (by have c12 := nz_bx hB (k := 12) (lo := 0) (hi := 1) rfl; have k12b := k12.trans i12; omega), k31, a31]⟩
    have k12' : (sy_i F3 12).toInt = (sy_i F 12).toInt := k12.trans i12
    rw [e31', jm_upd_at, if_pos (by rw [k12']), nz_add (rfl : ((sy_ai F3 35).getD (sy_i F3 12).toInt.toNat 0).toInt = _) (by decide : ((1 : Int32)).toInt = 1) (by omega) (by omega), e31]
theorem tbz_b2 (hB : iv_in F iv_B4) (hf : ((sy_ai F 35).getD (sy_i F 12).toInt.toNat 0).toInt ≤ 3) (hn : (sy_i F 13).toInt ≤ 10) (F1 : Nat → sy_d) (hG : rn tb_I F F1 (fun w nm => sB ((fun w nm => sB ((fun w nm => sNm (kf F) (nf F) (tn F, nm, w)) w nm) (sN (kf F) (vf F) 0 9)) w nm) (sN (kf F) (vf F) 0 3))) (hk : (sy_i F1 69).toInt = tb_k F) (hV : tb_v 2 F F1) (ha : 0 ≤ (sy_i F1 69).toInt ∧ (sy_i F1 69).toInt ≤ 7) (h70 : (sy_i F1 70).toInt = (sy_i F 4).toInt) :
    hd_W Ls xs 5 jm_M159 (tbz_Q F X1 X2) (57, sy_dL F1 [some (.inl (.ref 1000)), some (.inr (.inl 69)), some (.inr (.inl 70))], sy_dS F1 [.inl (.int 999), .inl (.int 0), .inl (.ref 1000), .inr (.inl 69), .inl (.ref 1016)], sy_dh F1 X1 X2 (iv_H 4), 0, 0) := by
  refine hd_calI (R := fun x F' => bR ((0 : Int32)).toInt ((999 : Int32)).toInt F1 F' ∧ ((sy_i F' 6).toInt = 0 → x.toInt = vf F1 (tn F1))) (nh := 69) (nv := 71) (s := 4) (s1 := 4) (d1 := 3) (M1 := jm_M157) (As := [.inl (.ref 1000), .inl (.int 0), .inl (.int 999)]) (rest := [.inr (.inl 69), .inl (.ref 1016)]) jm_ok159 rfl rfl (by decide) (by decide +kernel) (byv_T F1 X1 X2 hG.1.b _ _) (fun F3 F' x hR0 p1 p2 p3 => ?_)
  obtain ⟨hR, hx⟩ := hR0
  have hR : bR 0 999 F1 F' := hR
  have h3 := rn_num hG (by decide) (by decide) (bR_dst hR p1)
  have j69 := nz_fi (p2 69 (by decide) (by decide))
  have j70 := nz_fi (p2 70 (by decide) (by decide))
  have vv : ∀ F4 : Nat → sy_d, sy_ai F4 38 = jm_upd (sy_ai F3 38) ((sy_i F3 69).toInt).toNat (sy_i F3 71) → sy_ai F4 36 = sy_ai F3 36 → sy_ai F4 37 = sy_ai F3 37 → (sy_i F4 6).toInt = (sy_i F3 6).toInt → tb_v 3 F F4 := fun F4 b1 b2 b3 b6 => by
    have g3 := (bR_dst hR p1).1
    have k1 : sy_ai F3 38 = sy_ai F1 38 := g3.a (k := 38) (by decide) (by decide)
    have k2 : sy_ai F3 36 = sy_ai F1 36 := g3.a (k := 36) (by decide) (by decide)
    have k3 : sy_ai F3 37 = sy_ai F1 37 := g3.a (k := 37) (by decide) (by decide)
    have ek : (sy_i F3 69).toInt = tb_k F := j69.trans hk
    have i6 := nz_fi (p1 6 (by decide))
    refine ⟨fun i hi => ?_, fun L w nm a b c d z z2 => ?_⟩
    · obtain ⟨y1, y2, y3⟩ := hV.1 i hi
      have hu : (sy_ai F4 38).getD i 0 = (sy_ai F1 38).getD i 0 := by rw [b1, k1, jm_upd_at, if_neg (by omega)]
      rw [b2, b3, k2, k3]
      exact ⟨y1, y2, hu.trans y3⟩
    · have z1 : (sy_i F1 6).toInt = 0 := g3.u (by omega)
      obtain ⟨y1, y2, y3⟩ := hV.2 L w nm a b c d z z1
      have hval : ix F4 38 (tb_k F).toNat = vf F (tn F + 3) := by
        have y := (hG.2.2 L w nm a b c d z).2 z1
        obtain ⟨q, hq, hj⟩ := y
        obtain ⟨q1, hq1, hq2⟩ := sB_r hq
        obtain ⟨q0, hq0, hq01⟩ := sB_r hq1
        have h1 := sNm_r hq0
        have h2 := sN_r hq01
        have h3' := sN_r hq2
        have h0 : tn F1 = q.1 := hj.1
        unfold ix
        rw [b1, jm_upd_at, if_pos (by rw [ek]), zz_i p3, hx (by omega), vf_eq (hG.1.f 27 (by decide) (by decide)), show tn F1 = tn F + 3 by omega]
      have e2 : ix F4 36 (tb_k F).toNat = ix F1 36 (tb_k F).toNat := by unfold ix; rw [b2, k2]
      have e3 : ix F4 37 (tb_k F).toNat = ix F1 37 (tb_k F).toNat := by unfold ix; rw [b3, k3]
      exact ⟨fun _ => by rw [e2]; exact y1 (by decide), fun _ => by rw [e3]; exact y2 (by decide), fun _ => hval⟩
  refine tbz_60 (by decide) F3 X1 X2 h3.1.b (by omega) ?_
  intro F4 hb g e4 e6 e7 e8 e9 e12 e13 a25 a26 e31 a32 a33 a34 e69
  exact tbz_e F X1 X2 hB hf hn F4 (rn_same h3 hb g (by decide) (by decide)) (by omega) (vv F4 a34 a32 a33 e6)
theorem tbz_b1 (hB : iv_in F iv_B4) (hf : ((sy_ai F 35).getD (sy_i F 12).toInt.toNat 0).toInt ≤ 3) (hn : (sy_i F 13).toInt ≤ 10) (F1 : Nat → sy_d) (hG : rn tb_I F F1 (fun w nm => sB ((fun w nm => sNm (kf F) (nf F) (tn F, nm, w)) w nm) (sN (kf F) (vf F) 0 9))) (hk : (sy_i F1 69).toInt = tb_k F) (hV : tb_v 1 F F1) (ha : 0 ≤ (sy_i F1 69).toInt ∧ (sy_i F1 69).toInt ≤ 7) (h70 : (sy_i F1 70).toInt = (sy_i F 4).toInt) :
    hd_W Ls xs 5 jm_M159 (tbz_Q F X1 X2) (43, sy_dL F1 [some (.inl (.ref 1000)), some (.inr (.inl 69)), some (.inr (.inl 70))], sy_dS F1 [.inl (.int 3), .inl (.int 0), .inl (.ref 1000), .inr (.inl 69), .inl (.ref 1015)], sy_dh F1 X1 X2 (iv_H 4), 0, 0) := by
  refine hd_calI (R := fun x F' => bR ((0 : Int32)).toInt ((3 : Int32)).toInt F1 F' ∧ ((sy_i F' 6).toInt = 0 → x.toInt = vf F1 (tn F1))) (nh := 69) (nv := 71) (s := 4) (s1 := 4) (d1 := 3) (M1 := jm_M157) (As := [.inl (.ref 1000), .inl (.int 0), .inl (.int 3)]) (rest := [.inr (.inl 69), .inl (.ref 1015)]) jm_ok159 rfl rfl (by decide) (by decide +kernel) (byv_T F1 X1 X2 hG.1.b _ _) (fun F3 F' x hR0 p1 p2 p3 => ?_)
  obtain ⟨hR, hx⟩ := hR0
  have hR : bR 0 3 F1 F' := hR
  have h3 := rn_num hG (by decide) (by decide) (bR_dst hR p1)
  have j69 := nz_fi (p2 69 (by decide) (by decide))
  have j70 := nz_fi (p2 70 (by decide) (by decide))
  have vv : ∀ F4 : Nat → sy_d, sy_ai F4 37 = jm_upd (sy_ai F3 37) ((sy_i F3 69).toInt).toNat (sy_i F3 71) → sy_ai F4 36 = sy_ai F3 36 → sy_ai F4 38 = sy_ai F3 38 → (sy_i F4 6).toInt = (sy_i F3 6).toInt → tb_v 2 F F4 := fun F4 b1 b2 b3 b6 => by
    have g3 := (bR_dst hR p1).1
    have k1 : sy_ai F3 37 = sy_ai F1 37 := g3.a (k := 37) (by decide) (by decide)
    have k2 : sy_ai F3 36 = sy_ai F1 36 := g3.a (k := 36) (by decide) (by decide)
    have k3 : sy_ai F3 38 = sy_ai F1 38 := g3.a (k := 38) (by decide) (by decide)
    have ek : (sy_i F3 69).toInt = tb_k F := j69.trans hk
    have i6 := nz_fi (p1 6 (by decide))
    refine ⟨fun i hi => ?_, fun L w nm a b c d z z2 => ?_⟩
    · obtain ⟨y1, y2, y3⟩ := hV.1 i hi
      have hu : (sy_ai F4 37).getD i 0 = (sy_ai F1 37).getD i 0 := by rw [b1, k1, jm_upd_at, if_neg (by omega)]
      rw [b2, b3, k2, k3]
      exact ⟨y1, hu.trans y2, y3⟩
    · have z1 : (sy_i F1 6).toInt = 0 := g3.u (by omega)
      obtain ⟨y1, y2, y3⟩ := hV.2 L w nm a b c d z z1
      have hval : ix F4 37 (tb_k F).toNat = vf F (tn F + 2) := by
        have y := (hG.2.2 L w nm a b c d z).2 z1
        obtain ⟨q, hq, hj⟩ := y
        obtain ⟨q0, hq0, hq1⟩ := sB_r hq
        have h1 := sNm_r hq0
        have h2 := sN_r hq1
        have h0 : tn F1 = q.1 := hj.1
        unfold ix
        rw [b1, jm_upd_at, if_pos (by rw [ek]), zz_i p3, hx (by omega), vf_eq (hG.1.f 27 (by decide) (by decide)), show tn F1 = tn F + 2 by omega]
      have e2 : ix F4 36 (tb_k F).toNat = ix F1 36 (tb_k F).toNat := by unfold ix; rw [b2, k2]
      have e3 : ix F4 38 (tb_k F).toNat = ix F1 38 (tb_k F).toNat := by unfold ix; rw [b3, k3]
      exact ⟨fun _ => by rw [e2]; exact y1 (by decide), fun _ => hval, fun q => absurd q (by decide)⟩
  refine tbz_46 (by decide) F3 X1 X2 h3.1.b (by omega) ?_
  intro F4 hb g e4 e6 e7 e8 e9 e12 e13 a25 a26 e31 a32 a33 a34 e69 e70
  exact tbz_b2 F X1 X2 hB hf hn F4 (rn_same h3 hb g (by decide) (by decide)) (by omega) (vv F4 a33 a32 a34 e6) (by omega) (by omega)
theorem tbz_b0 (hB : iv_in F iv_B4) (hf : ((sy_ai F 35).getD (sy_i F 12).toInt.toNat 0).toInt ≤ 3) (hn : (sy_i F 13).toInt ≤ 10) (F1 : Nat → sy_d) (hG : rn tb_I F F1 (fun w nm => sNm (kf F) (nf F) (tn F, nm, w))) (hk : (sy_i F1 69).toInt = tb_k F) (hV : tb_v 0 F F1) (ha : 0 ≤ (sy_i F1 69).toInt ∧ (sy_i F1 69).toInt ≤ 7) (h70 : (sy_i F1 70).toInt = (sy_i F 4).toInt) :
    hd_W Ls xs 5 jm_M159 (tbz_Q F X1 X2) (31, sy_dL F1 [some (.inl (.ref 1000)), some (.inr (.inl 69)), some (.inr (.inl 70))], sy_dS F1 [.inl (.int 9), .inl (.int 0), .inl (.ref 1000), .inr (.inl 69), .inl (.ref 1014)], sy_dh F1 X1 X2 (iv_H 4), 0, 0) := by
  refine hd_calI (R := fun x F' => bR ((0 : Int32)).toInt ((9 : Int32)).toInt F1 F' ∧ ((sy_i F' 6).toInt = 0 → x.toInt = vf F1 (tn F1))) (nh := 69) (nv := 71) (s := 4) (s1 := 4) (d1 := 3) (M1 := jm_M157) (As := [.inl (.ref 1000), .inl (.int 0), .inl (.int 9)]) (rest := [.inr (.inl 69), .inl (.ref 1014)]) jm_ok159 rfl rfl (by decide) (by decide +kernel) (byv_T F1 X1 X2 hG.1.b _ _) (fun F3 F' x hR0 p1 p2 p3 => ?_)
  obtain ⟨hR, hx⟩ := hR0
  have hR : bR 0 9 F1 F' := hR
  have h3 := rn_num hG (by decide) (by decide) (bR_dst hR p1)
  have j69 := nz_fi (p2 69 (by decide) (by decide))
  have j70 := nz_fi (p2 70 (by decide) (by decide))
  have vv : ∀ F4 : Nat → sy_d, sy_ai F4 36 = jm_upd (sy_ai F3 36) ((sy_i F3 69).toInt).toNat (sy_i F3 71) → sy_ai F4 37 = sy_ai F3 37 → sy_ai F4 38 = sy_ai F3 38 → (sy_i F4 6).toInt = (sy_i F3 6).toInt → tb_v 1 F F4 := fun F4 b1 b2 b3 b6 => by
    have g3 := (bR_dst hR p1).1
    have k1 : sy_ai F3 36 = sy_ai F1 36 := g3.a (k := 36) (by decide) (by decide)
    have k2 : sy_ai F3 37 = sy_ai F1 37 := g3.a (k := 37) (by decide) (by decide)
    have k3 : sy_ai F3 38 = sy_ai F1 38 := g3.a (k := 38) (by decide) (by decide)
    have ek : (sy_i F3 69).toInt = tb_k F := j69.trans hk
    have i6 := nz_fi (p1 6 (by decide))
    refine ⟨fun i hi => ?_, fun L w nm a b c d z z2 => ?_⟩
    · obtain ⟨y1, y2, y3⟩ := hV.1 i hi
      have hu : (sy_ai F4 36).getD i 0 = (sy_ai F1 36).getD i 0 := by rw [b1, k1, jm_upd_at, if_neg (by omega)]
      rw [b2, b3, k2, k3]
      exact ⟨hu.trans y1, y2, y3⟩
    · have z1 : (sy_i F1 6).toInt = 0 := g3.u (by omega)
      obtain ⟨y1, y2, y3⟩ := hV.2 L w nm a b c d z z1
      have hval : ix F4 36 (tb_k F).toNat = vf F (tn F + 1) := by
        have y := (hG.2.2 L w nm a b c d z).2 z1
        obtain ⟨q, hq, hj⟩ := y
        have h1 := sNm_r hq
        have h0 : tn F1 = q.1 := hj.1
        unfold ix
        rw [b1, jm_upd_at, if_pos (by rw [ek]), zz_i p3, hx (by omega), vf_eq (hG.1.f 27 (by decide) (by decide)), show tn F1 = tn F + 1 by omega]
      have e2 : ix F4 37 (tb_k F).toNat = ix F1 37 (tb_k F).toNat := by unfold ix; rw [b2, k2]
      have e3 : ix F4 38 (tb_k F).toNat = ix F1 38 (tb_k F).toNat := by unfold ix; rw [b3, k3]
      exact ⟨fun _ => hval, fun q => absurd q (by decide), fun q => absurd q (by decide)⟩
  refine tbz_34 (by decide) F3 X1 X2 h3.1.b (by omega) ?_
  intro F4 hb g e4 e6 e7 e8 e9 e12 e13 a25 a26 e31 a32 a33 a34 e69 e70
  exact tbz_b1 F X1 X2 hB hf hn F4 (rn_same h3 hb g (by decide) (by decide)) (by omega) (vv F4 a32 a33 a34 e6) (by omega) (by omega)
theorem tbz_T (hB : iv_in F iv_B4) (hf : ((sy_ai F 35).getD (sy_i F 12).toInt.toNat 0).toInt ≤ 3) (hn : (sy_i F 13).toInt ≤ 10) : jm_T Ls xs 5 jm_M159 [.ref 1000] (sy_dh F X1 X2 (iv_H 4)) 0 0 (tbz_Q F X1 X2) := by
  have c4 := nz_bx hB (k := 4) (lo := 0) (hi := 400) rfl
  have c12 := nz_bx hB (k := 12) (lo := 0) (hi := 1) rfl
  have b31 := nz_ba hB (k := 35) (lo := 0) (hi := 4) rfl (sy_i F 12).toInt.toNat
  refine nz_T0 jm_ok159 (by decide) (tbz_0 (by decide) F X1 X2 hB ?_)
  intro F1 hb g e4 e6 e7 e8 e9 e12 e13 a25 a26 e31 a32 a33 a34 e69
  have g0 : ∀ q, q < 69 → F1 q = F q := fun q hq => g q hq (by simp)
  refine hd_calI (R := fun (x : Int32) F' => nR x F1 F') (nh := 69) (nv := 70) (s := 4) (s1 := 4) (d1 := 4) (M1 := jm_M155) (As := [.inl (.ref 1000)]) (rest := []) jm_ok159 rfl rfl (by decide) (by decide +kernel) (ny_T F1 X1 X2 hb) (fun F3 F' x hR p1 p2 p3 => ?_)
  obtain ⟨r1, r2, r4, r3⟩ := nR_dst hR p1
  rw [kf_eq (g0 25 (by decide)), pf_eq (g0 26 (by decide)), nf_eq (g0 28 (by decide)), tn_eq e4] at r3
  have h3 : rn tb_I F F3 (fun w nm => sNm (kf F) (nf F) (tn F, nm, w)) := ⟨(r1.mono (by decide)).src g0, nop_src r2 e6 e7, fun L w nm a b c d => an_src (r3 L w nm a b (wr_eq c (by rw [tn_eq e4]; exact Nat.le_refl _) e8 e9) (nmr_eq d (g0 30 (by decide)) e13)) e6⟩
  have j69 := nz_fi (p2 69 (by decide) (by decide))
  have j70 := zz_i p3
  rw [← j70] at r4
  refine tbz_21 (by decide) F3 X1 X2 h3.1.b ?_
  intro F4 hb4 g4 e4' e6' e7' e8' e9' e12' e13' a25' a26' e31' a32' a33' a34' e69' e70'
  refine tbz_b0 F X1 X2 hB hf hn F4 (rn_same h3 hb4 g4 (by decide) (by decide)) (by unfold tb_k; omega) ⟨fun i _ => ?_, fun L w nm a b c d z z2 => ⟨fun q => absurd q (by decide), fun q => absurd q (by decide), fun q => absurd q (by decide)⟩⟩ (by omega) (by omega)
  rw [a32', a33', a34', r1.a (k := 36) (by decide) (by decide), r1.a (k := 37) (by decide) (by decide), r1.a (k := 38) (by decide) (by decide), a32, a33, a34]
  exact ⟨rfl, rfl, rfl⟩
end tbZ
end
section
/-! ===== a setting told, with its number ===== -/
section TIZ
variable {Ls : Nat} {xs : Nat → Int32} (F : Nat → sy_d) (X1 X2 : List jm_c)
theorem tiz_T (hB : iv_in F iv_B4) (b : Int32) : jm_T Ls xs 4 jm_M153 [.ref 1000, .int 0, .int b] (sy_dh F X1 X2 (iv_H 4)) 0 0 (fun v G => ∃ (x : Int32) (F' : Nat → sy_d), v = some (.int x) ∧ G = sy_dh F' X1 X2 (iv_H 4) ∧ iR b.toInt F F' ∧ ((sy_i F' 6).toInt = 0 → x.toInt = vf F (tn F + 1))) := by
  refine nz_T2 jm_ok153 (by decide) (fun F0 k0 h69 h70 => hd_W_mono (Q := fun v G => ∃ (x : Int32) (F' : Nat → sy_d), v = some (.int x) ∧ G = sy_dh F' X1 X2 (iv_H 4) ∧ iR b.toInt F0 F' ∧ ((sy_i F' 6).toInt = 0 → x.toInt = vf F0 (tn F0 + 1))) ?_ (by
    rintro v G ⟨x, F', rfl, rfl, hR, hv⟩
    rw [vf_eq (k0 27 (by decide)), tn_eq (nz_fi (k0 4 (by decide)))] at hv
    exact ⟨x, F', rfl, rfl, iR_src hR k0, hv⟩))
  have hB0 := hd_iveq hB k0
  have c4 := nz_bx hB0 (k := 4) (lo := 0) (hi := 400) rfl
  have c6 := nz_bx hB0 (k := 6) (lo := 0) (hi := 2) rfl
  have eP : pf F0 (tn F0) = ((sy_ai F0 26).getD (sy_i F0 4).toInt.toNat 0).toInt := rfl
  have et : (tn F0 : Int) = (sy_i F0 4).toInt := by unfold tn; omega
  have z0 : (0 : Int32).toInt = 0 := by decide
  have step : ∀ F1 : Nat → sy_d, gr W1 F0 F1 → nop F0 F1 → (sy_i F1 69).toInt = b.toInt → (sy_i F1 70).toInt = 0 → (∀ (L : Nat) (w : sE), pm (pf F0) (kf F0) L → tn F0 ≤ L → kf F0 (tn F0) ≠ 0 → wr (pf F0) w F0 → an (pf F0) (sG (tn F0)) (jw (pf F0) L w) F0 F1) → ((sy_i F1 6).toInt = 0 → tn F1 = tn F0 + 1) → hd_W Ls xs 4 jm_M153 (fun v G => ∃ (x : Int32) (F' : Nat → sy_d), v = some (.int x) ∧ G = sy_dh F' X1 X2 (iv_H 4) ∧ iR b.toInt F0 F' ∧ ((sy_i F' 6).toInt = 0 → x.toInt = vf F0 (tn F0 + 1))) (7, sy_dL F1 [some (.inl (.ref 1000)), none, none, none], sy_dS F1 [.inr (.inl 69), .inr (.inl 70), .inl (.ref 1000)], sy_dh F1 X1 X2 (iv_H 4), 0, 0) := by
    intro F1 hG hN q69 q70 hA hT
    refine hd_calI (R := fun x F' => bR (sy_i F1 70).toInt (sy_i F1 69).toInt F1 F' ∧ ((sy_i F' 6).toInt = 0 → x.toInt = vf F1 (tn F1))) (nh := 69) (nv := 71) (s := 4) (s1 := 4) (d1 := 3) (M1 := jm_M157) (As := [.inl (.ref 1000), .inr (.inl 70), .inr (.inl 69)]) (rest := []) jm_ok153 rfl rfl (by decide) (by decide +kernel) (byv_T F1 X1 X2 hG.b _ _) (fun F3 F' x hR0 p1 _ p3 => ?_)
    obtain ⟨hR, hx⟩ := hR0
    have i6 := nz_fi (p1 6 (by decide))
    have hR3 := bR_dst hR p1
    rw [q69, q70] at hR3
    obtain ⟨b1, b2, b3⟩ := id hR3
    rw [kf_eq (hG.f 25 (by decide) (by decide)), pf_eq (hG.f 26 (by decide) (by decide)), vf_eq (hG.f 27 (by decide) (by decide))] at b3
    have g3 := hG.trans b1 (by decide)
    have d4 := nz_bx g3.b (k := 4) (lo := 0) (hi := 400) rfl
    have x25 := g3.a (k := 25) (by decide) (by decide)
    have x26 := g3.a (k := 26) (by decide) (by decide)
    have eK3 : kf F0 (tn F3) = ((sy_ai F3 25).getD (sy_i F3 4).toInt.toNat 0).toInt := by rw [x25]; rfl
    have eP3 : pf F0 (tn F3) = ((sy_ai F3 26).getD (sy_i F3 4).toInt.toNat 0).toInt := by rw [x26]; rfl
    have et3 : (tn F3 : Int) = (sy_i F3 4).toInt := by unfold tn; omega
    have t1 := g3.t
    have chain : ∀ (F4 : Nat → sy_d), nop F3 F4 → (∀ (L : Nat) (q : Nat × sE), pm (pf F0) (kf F0) L → jq (pf F0) L q F3 → (sy_i F3 6).toInt = 0 → an (pf F0) (sB (sM (kf F0) 4 q.1) fun t => .inr (t, q.2)) (jq (pf F0) L) F3 F4) → nop F0 F4 ∧ ∀ (L : Nat) (w : sE), pm (pf F0) (kf F0) L → tn F0 ≤ L → kf F0 (tn F0) ≠ 0 → wr (pf F0) w F0 → an (pf F0) (sSt (kf F0) (vf F0) b.toInt (tn F0) w) (jq (pf F0) L) F0 F4 := by
      intro F4 n4 h4
      refine ⟨nop_trans (nop_trans hN b2) n4, fun L w hm hL hk hw => ?_⟩
      refine an_bind (hA L w hm hL hk hw) (nop_trans b2 n4) (fun _ t ht => ?_)
      obtain ⟨t1, t2, t3⟩ := ht
      subst t1
      exact an_bind (b3 L w hm t2 t3) n4 (fun h6 q hq => h4 L q hm hq h6)
    refine tiy_10 (by decide) F3 X1 X2 g3.b ?_ ?_ ?_ ?_
    all_goals
      intros
      rename_i F4 hb4 g4 e4 e6 e7 e8 e9 e13 a25 a26 a27
      obtain ⟨f1, f2⟩ := chain F4 (by
        first
          | exact nop_same e6 e7
          | exact fun z => absurd z (by omega)) (fun L q hm hq h6 => by
        obtain ⟨q1, q2⟩ := q
        obtain ⟨y1, y2, y3⟩ := hq
        have y1 : tn F3 = q1 := y1
        subst y1
        show an _ (sB (sM (kf F0) 4 (tn F3)) fun t => .inr (t, q2)) _ _ _
        first
          | exact absurd h6 (by omega)
          | exact an_er (k := 1) (tok := tn F3) (by rw [sM_no (by omega)]; rfl) e6 (by decide) (e7.trans eP3.symm)
          | exact an_er (k := 2) (tok := tn F3) (by rw [sM_4 (by omega) (by omega)]; rfl) e6 (by decide) (e7.trans eP3.symm)
          | exact an_ok (a := (tn F3 + 1, q2)) (by rw [sM_ok (by omega) (by omega)]; rfl) (by omega) ⟨tn_s d4.1 e4, pm_nx hm y2 (by omega) (by omega), wr_eq y3 (by rw [tn_s d4.1 e4]; omega) e8 e9⟩)
      refine ⟨_, F4, rfl, rfl, ⟨g3.trans (gr_mk (W := W1) hb4 g4 (by decide) (by omega) (by omega)) (by decide), f1, by omega, f2⟩, fun z => ?_⟩
      rw [zz_i p3, hx (by omega), vf_eq (hG.f 27 (by decide) (by decide)), hT (b1.u (by omega))]
  refine tiy_0 (by decide) F0 X1 X2 hB0 ?_ ?_ ?_
  all_goals
    intros
    rename_i F1 hb g e4 e6 e7 e8 e9 e13 a25 a26 a27 e69 e70
    refine step F1 (gr_mk (W := W1) hb g (by decide) (by omega) (by omega)) ?_ (by rw [e69, h70]) (by rw [e70, h69]; exact z0) (fun L w hm hL hk hw => ?_) (fun z => ?_)
  all_goals first
    | exact absurd z (by omega)
    | exact tn_s c4.1 e4
    | exact nop_same e6 e7
    | exact fun z => absurd z (by omega)
    | exact an_no (by omega)
    | exact an_er (k := 2) (tok := tn F0) (sG_4 (by omega)) e6 (by decide) (e7.trans eP.symm)
    | exact fun z0 => an_ok (F := F0) (a := tn F0 + 1) (sG_ok (by omega)) (by omega) ⟨tn_s c4.1 e4, pm_nx hm hL hk (by omega), wr_eq hw (by rw [tn_s c4.1 e4]; omega) e8 e9⟩ z0
end TIZ
end
section
/-! ===== what is put, and where the way goes ===== -/
noncomputable def prj {A : Type} (r : sE ⊕ (Nat × A)) : sE ⊕ Nat := sB r (fun p => .inr p.1)
theorem prj_B {A B : Type} {r : sE ⊕ (Nat × A)} {f : Nat × A → sE ⊕ (Nat × B)} {g : Nat → sE ⊕ Nat} (h : ∀ p, prj (f p) = g p.1) : prj (sB r f) = sB (prj r) g := by
  cases r with
  | inl e => rfl
  | inr p => exact h p
theorem prj_M {B : Type} {r : sE ⊕ Nat} {f : Nat → sE ⊕ (Nat × B)} {g : Nat → sE ⊕ Nat} (h : ∀ p, prj (f p) = g p) : prj (sB r f) = sB r g := by
  cases r with
  | inl e => rfl
  | inr p => exact h p
theorem opn_tail : ∀ W : List Int, 0 < opn W → opn (coS false W).1.tail = opn W - 1
  | [], h => absurd h (by decide)
  | w :: W, h => by
    by_cases q : w = 6
    · have e : coS false (w :: W) = (w :: W, []) := by
        show (if _ then _ else _) = _
        rw [if_pos (Or.inl q)]
      rw [e]
      show opn W = (if w = 6 then opn W + 1 else opn W) - 1
      rw [if_pos q]
      rfl
    · have e : coS false (w :: W) = ((coS false W).1, (opc w, 0) :: (coS false W).2) := by
        show (if _ then _ else _) = _
        rw [if_neg (by intro z; rcases z with z | z; exact q z; exact absurd z.1 (by decide))]
      have e2 : opn (w :: W) = opn W := by
        show (if w = 6 then opn W + 1 else opn W) = _
        rw [if_neg q]
      rw [e, e2]
      exact opn_tail W (by omega)
theorem prj_cM (K V : Nat → Int) : ∀ (n t : Nat) (W : List Int) (m : Nat) (O : List rO), prj (cM K V n t W m O) = eM K n t (opn W) m
  | 0, t, W, m, O => rfl
  | n + 1, t, W, m, O => by
    unfold cM eM
    by_cases hm : m = 0
    · rw [if_pos hm, if_pos hm]
      by_cases h6 : K t = 6
      · rw [if_pos h6, if_pos h6]
        by_cases ho : opn W = 6
        · rw [if_pos ho, if_pos ho]; rfl
        · rw [if_neg ho, if_neg ho]
          by_cases h4 : t = 400
          · rw [if_pos h4, if_pos h4]; rfl
          · rw [if_neg h4, if_neg h4, prj_cM K V n]
            rfl
      · rw [if_neg h6, if_neg h6]
        by_cases h2 : K t = 2
        · rw [if_pos h2, if_pos (Or.inl h2)]
          by_cases h4 : t = 400
          · rw [if_pos h4, if_pos h4]; rfl
          · rw [if_neg h4, if_neg h4, prj_cM K V n]
        · rw [if_neg h2]
          by_cases h3 : 34 ≤ K t ∧ K t ≤ 42
          · rw [if_pos h3, if_pos (Or.inr h3)]
            by_cases h4 : t = 400
            · rw [if_pos h4, if_pos h4]; rfl
            · rw [if_neg h4, if_neg h4, prj_cM K V n]
          · rw [if_neg h3, if_neg (by omega)]
            rfl
    · rw [if_neg hm, if_neg hm]
      by_cases h7 : K t = 7 ∧ 0 < opn W
      · rw [if_pos h7, if_pos h7]
        by_cases h4 : t = 400
        · rw [if_pos h4, if_pos h4]; rfl
        · rw [if_neg h4, if_neg h4, prj_cM K V n, opn_tail W h7.2]
      · rw [if_neg h7, if_neg h7]
        by_cases hb : K t = 8 ∨ K t = 9 ∨ K t = 10 ∨ K t = 15
        · rw [if_pos hb, if_pos hb]
          by_cases h4 : t = 400
          · rw [if_pos h4, if_pos h4]; rfl
          · rw [if_neg h4, if_neg h4, prj_cM K V n]
            have e : opn (K t :: (coS (decide (K t = 10 ∨ K t = 15)) W).1) = opn W := by
              show (if K t = 6 then _ else _) = _
              rw [if_neg (by omega), coS_opn]
            rw [e]
        · rw [if_neg hb, if_neg hb]
          by_cases ho : 0 < opn W
          · rw [if_pos ho, if_pos ho]; rfl
          · rw [if_neg ho, if_neg ho]; rfl
theorem prj_cX (K V : Nat → Int) (t : Nat) : prj (cX K V t [] 0 []) = eX K t 0 0 := prj_cM K V _ _ _ _ _
theorem prj_last (K V : Nat → Int) (acc : List bRT) (t : Nat) : prj (zLast K V acc t) = sLast K t := by
  unfold zLast sLast
  rw [← prj_cX K V t]
  refine prj_B (fun p => ?_)
  refine (prj_M (g := fun t => .inr t) (fun _ => rfl)).trans ?_
  cases sM K 4 p.1 <;> rfl
theorem prj_zI (K V : Nat → Int) : ∀ (n : Nat) (acc : List bRT) (t : Nat), prj (zI K V n acc t) = sB (sIfs K n t) (sLast K)
  | 0, acc, t => by
    by_cases h : K t = 31
    · rw [z_if0 K V h, c_if0 K h]; rfl
    · rw [z_no K V h, c_no K h]; exact prj_last K V acc t
  | n + 1, acc, t => by
    by_cases h : K t = 31
    · rw [z_if K V h, c_if K h]
      refine prj_M (fun t => ?_)
      unfold zc1 c1
      rw [← prj_cX K V t]
      refine prj_B (fun p => ?_)
      unfold zc2 c2
      refine prj_M (fun t => ?_)
      unfold zc3 c3
      rw [← prj_cX K V t]
      refine prj_B (fun p => ?_)
      unfold zc4 c4
      refine prj_M (fun t => ?_)
      unfold zc5 c5
      rw [← prj_cX K V t]
      refine prj_B (fun p => ?_)
      unfold zc6 c6
      refine prj_M (fun t => ?_)
      exact prj_zI K V n _ t
    · rw [z_no K V h, c_no K h]; exact prj_last K V acc t
theorem prj_Lw (K V : Nat → Int) (t : Nat) : prj (zLw K V t) = sLw K t := by
  unfold zLw sLw
  exact prj_M (fun t => prj_zI K V 4 [] t)
theorem prj_l {A : Type} {r : sE ⊕ (Nat × A)} {e : sE} (h : r = .inl e) : prj r = .inl e := by rw [h]; rfl
theorem prj_r {A : Type} {r : sE ⊕ (Nat × A)} {p : Nat × A} (h : r = .inr p) : prj r = .inr p.1 := by rw [h]; rfl
theorem fx_prj {A : Type} {r : sE ⊕ (Nat × A)} {F0 F : Nat → sy_d} (h : fx r F0 F) : fx (prj r) F0 F := ⟨fun a b => by
  obtain ⟨tok, t1, t2⟩ := h.1 a b
  exact ⟨tok, prj_l t1, t2⟩, h.2⟩
/-- with what is put, also where the way goes -/
theorem tlz_y {k : Int} {F F' : Nat → sy_d} (h : tlz_R k F F') : tly_R k F F' := by
  obtain ⟨h1, h2, h3⟩ := h
  have e : lr F = prj (lrz F) := (prj_Lw (kf F) (vf F) (tn F)).symm
  refine ⟨h1, by rw [e]; exact fx_prj h2, fun z => ?_⟩
  rw [e]
  exact prj_r (h3 z)
end
section
/-! ===== a text's content, and what one thing told makes of it (reference) ===== -/
abbrev t3 : Type := Int × Int × Int
abbrev tX : Type := List t3 × List t3 × Int × Int × Int × (Nat → Option (List bRT))
noncomputable def lwC (r : sE ⊕ (Nat × List bRT)) : List bRT := match r with
  | .inl _ => []
  | .inr p => p.2
noncomputable def tU (K V : Nat → Int) (t : Nat) (T : tX) : tX := if K t = 20 then (T.1 ++ [(V (t + 2), V (t + 3), V (t + 4))], T.2) else if K t = 21 then (T.1, T.2.1 ++ [(V (t + 2), V (t + 3), V (t + 4))], T.2.2) else if K t = 28 then (T.1, T.2.1, V (t + 1), T.2.2.2) else if K t = 29 then (T.1, T.2.1, T.2.2.1, V (t + 1), T.2.2.2.2) else if K t = 30 then (T.1, T.2.1, T.2.2.1, T.2.2.2.1, V (t + 1), T.2.2.2.2.2) else (T.1, T.2.1, T.2.2.1, T.2.2.2.1, T.2.2.2.2.1, fun k : Nat => if (k : Int) = K t - 22 then some (lwC (zLw K V (t + 1))) else T.2.2.2.2.2 k)
section TU
variable {K V : Nat → Int} {t : Nat} {T : tX}
theorem tU_f (h : K t = 20) : tU K V t T = (T.1 ++ [(V (t + 2), V (t + 3), V (t + 4))], T.2) := by unfold tU; rw [if_pos h]
theorem tU_b (h : K t = 21) : tU K V t T = (T.1, T.2.1 ++ [(V (t + 2), V (t + 3), V (t + 4))], T.2.2) := by unfold tU; rw [if_neg (by omega), if_pos h]
theorem tU_1 (h : K t = 28) : tU K V t T = (T.1, T.2.1, V (t + 1), T.2.2.2) := by unfold tU; rw [if_neg (by omega), if_neg (by omega), if_pos h]
theorem tU_2 (h : K t = 29) : tU K V t T = (T.1, T.2.1, T.2.2.1, V (t + 1), T.2.2.2.2) := by unfold tU; rw [if_neg (by omega), if_neg (by omega), if_neg (by omega), if_pos h]
theorem tU_3 (h : K t = 30) : tU K V t T = (T.1, T.2.1, T.2.2.1, T.2.2.2.1, V (t + 1), T.2.2.2.2.2) := by unfold tU; rw [if_neg (by omega), if_neg (by omega), if_neg (by omega), if_neg (by omega), if_pos h]
theorem tU_l (h : 22 ≤ K t ∧ K t ≤ 27) : tU K V t T = (T.1, T.2.1, T.2.2.1, T.2.2.2.1, T.2.2.2.2.1, fun k : Nat => if (k : Int) = K t - 22 then some (lwC (zLw K V (t + 1))) else T.2.2.2.2.2 k) := by unfold tU; rw [if_neg (by omega), if_neg (by omega), if_neg (by omega), if_neg (by omega), if_neg (by omega)]
end TU
noncomputable def sdf (F : Nat → sy_d) : Nat := (sy_i F 12).toInt.toNat
noncomputable def r3_ (F : Nat → sy_d) (c a w : Nat) (l : List t3) : Prop := ix F c (sdf F) = l.length ∧ ∀ (i : Nat) (v : t3), l[i]? = some v → ix F a (w * sdf F + i) = v.1 ∧ ix F (a + 1) (w * sdf F + i) = v.2.1 ∧ ix F (a + 2) (w * sdf F + i) = v.2.2
noncomputable def rLw (F : Nat → sy_d) (k : Nat) (o : Option (List bRT)) : Prop := match o with
  | none => ix F 42 (6 * sdf F + k) = ix F 43 (6 * sdf F + k)
  | some l => ix F 42 (6 * sdf F + k) ≤ ix F 43 (6 * sdf F + k) ∧ bL F (ix F 42 (6 * sdf F + k)).toNat (ix F 43 (6 * sdf F + k) - ix F 42 (6 * sdf F + k)).toNat = l
noncomputable def rX (T : tX) (F : Nat → sy_d) : Prop := r3_ F 31 32 7 T.1 ∧ r3_ F 35 36 4 T.2.1 ∧ ix F 39 (sdf F) = T.2.2.1 ∧ ix F 40 (sdf F) = T.2.2.2.1 ∧ ix F 41 (sdf F) = T.2.2.2.2.1 ∧ ∀ k, k < 6 → rLw F k (T.2.2.2.2.2 k)
theorem ix_eq {F F1 : Nat → sy_d} {a : Nat} (h : sy_ai F1 a = sy_ai F a) (i : Nat) : ix F1 a i = ix F a i := by unfold ix; rw [h]
theorem r3_eq {F F1 : Nat → sy_d} {c a w : Nat} {l : List t3} (h : r3_ F c a w l) (es : sdf F1 = sdf F) (hc : sy_ai F1 c = sy_ai F c) (h0 : sy_ai F1 a = sy_ai F a) (h1 : sy_ai F1 (a + 1) = sy_ai F (a + 1)) (h2 : sy_ai F1 (a + 2) = sy_ai F (a + 2)) : r3_ F1 c a w l := by
  unfold r3_ ix
  rw [es, hc, h0, h1, h2]
  exact h
theorem r3_push {F F4 : Nat → sy_d} {c a w : Nat} {l : List t3} {v : t3} (h : r3_ F c a w l) (es : sdf F4 = sdf F) (hc : ix F4 c (sdf F) = ix F c (sdf F) + 1) (ho : ∀ i : Nat, i ≠ w * sdf F + l.length → ix F4 a i = ix F a i ∧ ix F4 (a + 1) i = ix F (a + 1) i ∧ ix F4 (a + 2) i = ix F (a + 2) i) (h1 : ix F4 a (w * sdf F + l.length) = v.1) (h2 : ix F4 (a + 1) (w * sdf F + l.length) = v.2.1) (h3 : ix F4 (a + 2) (w * sdf F + l.length) = v.2.2) : r3_ F4 c a w (l ++ [v]) := by
  obtain ⟨q1, q2⟩ := h
  refine ⟨by rw [es, hc, q1, List.length_append]; rfl, fun i u hu => ?_⟩
  rw [es]
  by_cases q : i = l.length
  · subst q
    rw [List.getElem?_append_right (Nat.le_refl _), Nat.sub_self] at hu
    have hu : some v = some u := hu
    cases hu
    exact ⟨h1, h2, h3⟩
  · have hl : i < l.length := by
      have := (List.getElem?_eq_some_iff.mp hu).1
      rw [List.length_append] at this
      have e : [v].length = 1 := rfl
      omega
    rw [List.getElem?_append_left hl] at hu
    obtain ⟨y1, y2, y3⟩ := ho (w * sdf F + i) (by omega)
    rw [y1, y2, y3]
    exact q2 i u hu
theorem rLw_eq {F F1 : Nat → sy_d} {k : Nat} {o : Option (List bRT)} (h : rLw F k o) (es : sdf F1 = sdf F) (a42 : sy_ai F1 42 = sy_ai F 42) (a43 : sy_ai F1 43 = sy_ai F 43) (a44 : sy_ai F1 44 = sy_ai F 44) (a45 : sy_ai F1 45 = sy_ai F 45) (a46 : sy_ai F1 46 = sy_ai F 46) (a47 : sy_ai F1 47 = sy_ai F 47) (a48 : sy_ai F1 48 = sy_ai F 48) (a49 : sy_ai F1 49 = sy_ai F 49) (a50 : sy_ai F1 50 = sy_ai F 50) : rLw F1 k o := by
  cases o with
  | none =>
    unfold rLw ix at h ⊢
    rw [es, a42, a43]
    exact h
  | some l =>
    obtain ⟨h1, h2⟩ := h
    refine ⟨by unfold ix at h1 ⊢; rw [es, a42, a43]; exact h1, ?_⟩
    rw [es, ix_eq a42, ix_eq a43, bL_kp (F := F) _ (fun b _ _ => by unfold bq ix cut_; rw [a44, a45, a46, a47, a48, a49, a50])]
    exact h2
/-- laws stay where codes and branches are put behind them -/
theorem rLw_kp {F F1 : Nat → sy_d} {k : Nat} {o : Option (List bRT)} {nb : Int} (hk : k < 6) (h : rLw F k o) (es : sdf F1 = sdf F) (hS : rp_S F (sdf F) nb (sy_i F 15).toInt) (h42 : ix F1 42 (6 * sdf F + k) = ix F 42 (6 * sdf F + k)) (h43 : ix F1 43 (6 * sdf F + k) = ix F 43 (6 * sdf F + k)) (h0 : 0 ≤ ix F 42 (6 * sdf F + k)) (hs : ∀ b : Nat, (b : Int) < nb → s5 F F1 b) (hkp : kp F F1) : rLw F1 k o := by
  cases o with
  | none =>
    unfold rLw
    rw [es, h42, h43]
    exact h
  | some l =>
    obtain ⟨h1, h2⟩ := h
    refine ⟨by rw [es, h42, h43]; exact h1, ?_⟩
    rw [es, h42, h43, bL_kp (F := F) _ (fun b b1 b2 => ?_)]
    · exact h2
    · obtain ⟨y1, y2⟩ := hS k b hk (by show ix F 42 (6 * sdf F + k) ≤ b; omega) (by show (b : Int) < ix F 43 (6 * sdf F + k); omega)
      exact bq_kp y2 (hs b y1.2) hkp
noncomputable def toz_C (F F' : Nat → sy_d) : Prop := ∀ (L : Nat) (x : sT) (T : tX), pm (pf F) (kf F) L → rt (pf F) L x F → rX T F → (sy_i F' 6).toInt = 0 → rX (tU (kf F) (vf F) (tn F) T) F'
/-- what is of the other side stays -/
noncomputable def oth (F F' : Nat → sy_d) : Prop := F' 12 = F 12 ∧ F' 11 = F 11 ∧ (∀ i : Nat, (i : Int) ≠ (sy_i F 12).toInt → ix F' 31 i = ix F 31 i ∧ ix F' 35 i = ix F 35 i ∧ ix F' 39 i = ix F 39 i ∧ ix F' 40 i = ix F 40 i ∧ ix F' 41 i = ix F 41 i) ∧ (∀ i : Nat, ((i : Int) < 7 * (sy_i F 12).toInt ∨ 7 * (sy_i F 12).toInt + 7 ≤ i) → ix F' 32 i = ix F 32 i ∧ ix F' 33 i = ix F 33 i ∧ ix F' 34 i = ix F 34 i) ∧ (∀ i : Nat, ((i : Int) < 4 * (sy_i F 12).toInt ∨ 4 * (sy_i F 12).toInt + 4 ≤ i) → ix F' 36 i = ix F 36 i ∧ ix F' 37 i = ix F 37 i ∧ ix F' 38 i = ix F 38 i) ∧ (∀ i : Nat, ((i : Int) < 6 * (sy_i F 12).toInt ∨ 6 * (sy_i F 12).toInt + 6 ≤ i) → ix F' 42 i = ix F 42 i ∧ ix F' 43 i = ix F 43 i) ∧ (∀ b : Nat, ((b : Int) < 130 * (sy_i F 12).toInt ∨ 130 * (sy_i F 12).toInt + 130 ≤ b) → s5 F F' b) ∧ (∀ i : Nat, ((i : Int) < 420 * (sy_i F 12).toInt ∨ 420 * (sy_i F 12).toInt + 420 ≤ i) → (sy_ai F' 49).getD i 0 = (sy_ai F 49).getD i 0 ∧ (sy_ai F' 50).getD i 0 = (sy_ai F 50).getD i 0)
theorem oth_gr {W : List Nat} {F F' : Nat → sy_d} (h : gr W F F') (hW : ∀ q ∈ ([11, 12, 31, 32, 33, 34, 35, 36, 37, 38, 39, 40, 41, 42, 43, 44, 45, 46, 47, 48, 49, 50] : List Nat), q ∉ W) : oth F F' := by
  have e : ∀ q ∈ ([11, 12, 31, 32, 33, 34, 35, 36, 37, 38, 39, 40, 41, 42, 43, 44, 45, 46, 47, 48, 49, 50] : List Nat), F' q = F q := fun q hq => h.f q (by revert q; decide) (hW q hq)
  have a : ∀ q ∈ ([11, 12, 31, 32, 33, 34, 35, 36, 37, 38, 39, 40, 41, 42, 43, 44, 45, 46, 47, 48, 49, 50] : List Nat), sy_ai F' q = sy_ai F q := fun q hq => nz_fa (e q hq)
  refine ⟨e 12 (by decide), e 11 (by decide), fun i _ => ⟨ix_eq (a 31 (by decide)) i, ix_eq (a 35 (by decide)) i, ix_eq (a 39 (by decide)) i, ix_eq (a 40 (by decide)) i, ix_eq (a 41 (by decide)) i⟩, fun i _ => ⟨ix_eq (a 32 (by decide)) i, ix_eq (a 33 (by decide)) i, ix_eq (a 34 (by decide)) i⟩, fun i _ => ⟨ix_eq (a 36 (by decide)) i, ix_eq (a 37 (by decide)) i, ix_eq (a 38 (by decide)) i⟩, fun i _ => ⟨ix_eq (a 42 (by decide)) i, ix_eq (a 43 (by decide)) i⟩, fun b _ => s5_same (a 44 (by decide)) (a 45 (by decide)) (a 46 (by decide)) (a 47 (by decide)) (a 48 (by decide)) b, fun i _ => ⟨by rw [a 49 (by decide)], by rw [a 50 (by decide)]⟩⟩
theorem oth_trans {F F1 F2 : Nat → sy_d} (h : oth F F1) (k : oth F1 F2) : oth F F2 := by
  obtain ⟨a1, a2, a3, a4, a5, a6, a7, a8⟩ := h
  obtain ⟨b1, b2, b3, b4, b5, b6, b7, b8⟩ := k
  have i12 := nz_fi a1
  rw [i12] at b3 b4 b5 b6 b7 b8
  refine ⟨b1.trans a1, b2.trans a2, fun i hi => ?_, fun i hi => ?_, fun i hi => ?_, fun i hi => ?_, fun b hb => s5_trans (a7 b hb) (b7 b hb), fun i hi => ⟨(b8 i hi).1.trans (a8 i hi).1, (b8 i hi).2.trans (a8 i hi).2⟩⟩
  · obtain ⟨p1, p2, p3, p4, p5⟩ := a3 i hi
    obtain ⟨q1, q2, q3, q4, q5⟩ := b3 i hi
    exact ⟨q1.trans p1, q2.trans p2, q3.trans p3, q4.trans p4, q5.trans p5⟩
  · obtain ⟨p1, p2, p3⟩ := a4 i hi
    obtain ⟨q1, q2, q3⟩ := b4 i hi
    exact ⟨q1.trans p1, q2.trans p2, q3.trans p3⟩
  · obtain ⟨p1, p2, p3⟩ := a5 i hi
    obtain ⟨q1, q2, q3⟩ := b5 i hi
    exact ⟨q1.trans p1, q2.trans p2, q3.trans p3⟩
  · obtain ⟨p1, p2⟩ := a6 i hi
    obtain ⟨q1, q2⟩ := b6 i hi
    exact ⟨q1.trans p1, q2.trans p2⟩
noncomputable def toz_Q (F : Nat → sy_d) (X1 X2 : List jm_c) (v : Option Value) (G : jm_h) : Prop := ∃ F' : Nat → sy_d, v = none ∧ G = sy_dh F' X1 X2 (iv_H 4) ∧ gr WO F F' ∧ pk F' ∧ ((sy_i F' 6).toInt = 0 → (sy_i F 4).toInt + 1 ≤ (sy_i F' 4).toInt) ∧ toy_A F F' ∧ toz_C F F' ∧ oth F F'
section TOZ
variable {Ls : Nat} {xs : Nat → Int32} (X1 X2 : List jm_c) (F : Nat → sy_d)
theorem toz_fault (hP : pk F) {F1 : Nat → sy_d} {C : List Nat} (hb : iv_in F1 iv_B4) (g : ∀ j, j < 69 → j ∉ C → F1 j = F j) (hC : ∀ x ∈ C, x ∈ W1) (t : (sy_i F 4).toInt ≤ (sy_i F1 4).toInt) {k : Int} (h6 : (sy_i F1 6).toInt = k) (hk : k ≠ 0) (h7 : (sy_i F1 7).toInt = pf F (tn F)) (hr : ∀ fr bu nm w, FRf F = (fr : Nat) → BUf F = (bu : Nat) → sOne (kf F) (vf F) (nf F) (tn F, fr, bu, nm, w) = .inl (k, tn F)) : toz_Q F X1 X2 none (sy_dh F1 X1 X2 (iv_H 4)) := by
  have hf : (sy_i F1 6).toInt ≠ 0 := by rw [h6]; exact hk
  have hG : gr W1 F F1 := gr_mk hb g hC t (fun z => absurd z hf)
  refine ⟨F1, rfl, rfl, hG.mono (by decide), pk_of hP hG (by decide) (fun z => absurd z hf), fun z => absurd z hf, fun L x hm hx => ?_, fun L x T hm hx hT z => absurd z hf, oth_gr hG (by decide)⟩
  obtain ⟨x1, x2, x3, x4, x5⟩ := x
  obtain ⟨r1, r2, r3, r4, -⟩ := hx
  have r1 : tn F = x1 := r1
  subst r1
  exact an_er (hr x2 x3 x4 x5 r3 r4) h6 hk h7
theorem toz_91' (hP : pk F) (hf : (sy_i F 6).toInt = 0) (hk : kf F (tn F) = 20) (F1 : Nat → sy_d) (hG : gr W1 F F1) (h : ((sy_ai F 31).getD (sy_i F 12).toInt.toNat 0).toInt ≠ 7) (h4 : (sy_i F1 4).toInt = (sy_i F 4).toInt + 1) (h400 : (sy_i F 4).toInt ≠ 400) (h6 : (sy_i F1 6).toInt = 0) (h8 : (sy_i F1 8).toInt = (sy_i F 8).toInt) (h9 : (sy_i F1 9).toInt = (sy_i F 9).toInt) :
    hd_W Ls xs 7 jm_M154 (toz_Q F X1 X2) (91, sy_dL F1 [some (.inl (.ref 1000)), none], sy_dS F1 [.inl (.ref 1000)], sy_dh F1 X1 X2 (iv_H 4), 0, 0) := by
  obtain ⟨j1, j2, j3, j4, j5, j6, j7⟩ := hP.2.2.2 hf
  have c4 := nz_bx hP.1 (k := 4) (lo := 0) (hi := 400) rfl
  have b31 := nz_ba hP.1 (k := 31) (lo := 0) (hi := 7) rfl (sy_i F 12).toInt.toNat
  have b35 := nz_ba hP.1 (k := 35) (lo := 0) (hi := 4) rfl (sy_i F 12).toInt.toNat
  have i12 := hG.i (k := 12) (by decide) (by decide)
  have i13 := hG.i (k := 13) (by decide) (by decide)
  have a31 := hG.a (k := 31) (by decide) (by decide)
  have a35 := hG.a (k := 35) (by decide) (by decide)
  refine hd_calV (R := tfz_R F1) (nh := 69) (nv := 69) (s := 4) (s1 := 4) (d1 := 5) (M1 := jm_M158) (As := [.inl (.ref 1000)]) (rest := []) jm_ok154 rfl rfl (by decide) (by decide +kernel) (tfz_T F1 X1 X2 hG.b (by rw [a31, i12]; omega) (by omega)) (fun F3 F' hR p1 _ => ?_)
  obtain ⟨⟨hg, hN, hR2, hA⟩, hV, hO⟩ := hR
  have g3 := hg.dst p1
  have k4 := nz_fi (p1 4 (by decide))
  have k6 := nz_fi (p1 6 (by decide))
  have k7 := nz_fi (p1 7 (by decide))
  have k12 := g3.i (k := 12) (by decide) (by decide)
  have k13 := nz_fi (p1 13 (by decide))
  have kf_ := nz_fa (p1 31 (by decide))
  have ko := g3.a (k := 35) (by decide) (by decide)
  rw [← k6, ← k13, ← kf_] at hR2
  have hG3 : gr tf_W F F3 := (hG.mono (by decide)).trans g3 (by decide)
  have t3 := g3.t
  refine toy_94 (by decide) F3 X1 X2 g3.b ?_
  intro F4 hb g e4 e5 e6 e7 e8 e9 e11 e12 e13 e14 e15 a25 a26 a27 a31' a35' a39 a40 a41
  have g0 : ∀ q, q < 69 → F4 q = F' q := fun q hq => (g q hq (by simp)).trans (p1 q hq)
  have hG4 : gr tf_W F F4 := hG3.trans (gr_mk (W := tf_W) hb g (by decide) (by omega) (by omega)) (fun _ q => q)
  refine ⟨F4, rfl, rfl, hG4.mono (by decide), pk_of hP hG4 (by decide) (fun z => ?_), fun z => by omega, fun L x hm hx => ?_, fun L x T hm hx hT z => ?_, ?_⟩
  · obtain ⟨y1, y2⟩ := hR2 (by omega)
    rw [a31, i12] at y2
    refine pj_of (hP.2.2.2 hf) hG4 (by decide) ?_
    rw [a31', a35', ko, a35, y2]
    omega
  · obtain ⟨x1, x2, x3, x4, x5⟩ := x
    obtain ⟨r1, r2, r3, r4, r5, r6⟩ := hx
    have r1 : tn F = x1 := r1
    subst r1
    have r3 : ((sy_ai F 31).getD (sy_i F 12).toInt.toNat 0).toInt = (x2 : Nat) := r3
    have r4 : ((sy_ai F 35).getD (sy_i F 12).toInt.toNat 0).toInt = (x3 : Nat) := r4
    have r2 : tn F ≤ L := r2
    have ts : tn F1 = tn F + 1 := tn_s c4.1 h4
    rw [sOne_f hk, sF_n (by omega), sG_ok (by unfold tn; omega)]
    show an _ (sB (sTell (kf F) (vf F) (nf F) (0, 9) (1, 9) (0, 99) (tn F + 1, x4, x5)) fun q => .inr (q.1, x2 + 1, x3, x4 ++ [nf F (tn F + 1)], q.2)) _ _ _
    rw [kf_eq (hG.f 25 (by decide) (by decide)), pf_eq (hG.f 26 (by decide) (by decide)), vf_eq (hG.f 27 (by decide) (by decide)), nf_eq (hG.f 28 (by decide) (by decide)), ts] at hA
    have i4 := nz_fi (g0 4 (by decide))
    have i6 := nz_fi (g0 6 (by decide))
    have i7 := nz_fi (g0 7 (by decide))
    have i8 := nz_fi (g0 8 (by decide))
    have i9 := nz_fi (g0 9 (by decide))
    have hB1 := hA L x5 x4 hm (pm_nx hm r2 (by rw [hk]; decide) (by unfold tn; omega)) (wr_eq r6 (by omega) h8 h9) (nmr_eq r5 (hG.f 30 (by decide) (by decide)) i13)
    refine fun _ => an_bind (F := F1) (an_mono hB1 i6 i7 (J' := fun q G => (jq (pf F) L q G ∧ nmr (x4 ++ [nf F (tn F + 1)]) G)) (fun q j => ⟨jq_dst j.1 i4 i8 i9, nmr_eq j.2 (g0 30 (by decide)) (nz_fi (g0 13 (by decide)))⟩)) (nop_same rfl rfl) (fun hz q j => an_ok rfl hz ?_) h6
    obtain ⟨⟨q1, q2, q3⟩, q4⟩ := j
    obtain ⟨y1, y2⟩ := hR2 (by omega)
    refine ⟨q1, q2, ?_, ?_, q4, q3⟩
    · show ((sy_ai F4 31).getD (sy_i F4 12).toInt.toNat 0).toInt = _
      rw [a31', e12, k12, i12]
      rw [i12] at y2
      rw [y2, a31, r3]
      exact (Int.natCast_succ x2).symm
    · show ((sy_ai F4 35).getD (sy_i F4 12).toInt.toNat 0).toInt = _
      rw [a35', e12, k12, i12]
      rw [ko, a35, r4]
  · obtain ⟨x1, x2, x3, x4, x5⟩ := x
    obtain ⟨r1, r2, r3, r4, r5, r6⟩ := hx
    have r1 : tn F = x1 := r1
    subst r1
    have r2 : tn F ≤ L := r2
    have ts : tn F1 = tn F + 1 := tn_s c4.1 h4
    have i6 := nz_fi (g0 6 (by decide))
    have z' : (sy_i F' 6).toInt = 0 := by omega
    have hv := hV.2 L x5 x4 (by rw [pf_eq (hG.f 26 (by decide) (by decide)), kf_eq (hG.f 25 (by decide) (by decide))]; exact hm) (by rw [ts]; exact pm_nx hm r2 (by rw [hk]; decide) (by unfold tn; omega)) (by rw [pf_eq (hG.f 26 (by decide) (by decide))]; exact wr_eq r6 (by omega) h8 h9) (nmr_eq r5 (hG.f 30 (by decide) (by decide)) i13) h6 z'
    rw [vf_eq (hG.f 27 (by decide) (by decide)), ts] at hv
    obtain ⟨v1, v2, v3⟩ := hv
    obtain ⟨t1, t2, t4, t5, t7, t6⟩ := hT
    have es : sdf F4 = sdf F := by unfold sdf; rw [nz_fi (g0 12 (by decide)), nz_fi (hg.f 12 (by decide) (by decide)), i12]
    have hcl : ix F 31 (sdf F) = (T.1.length : Nat) := t1.1
    have ek : tf_k F1 = (7 * sdf F + T.1.length : Nat) := by
      have e : tf_k F1 = 7 * (sy_i F1 12).toInt + ((sy_ai F1 31).getD (sy_i F1 12).toInt.toNat 0).toInt := rfl
      rw [e, a31, i12]
      have c12 := nz_bx hP.1 (k := 12) (lo := 0) (hi := 1) rfl
      have e2 : ((sy_ai F 31).getD (sy_i F 12).toInt.toNat 0).toInt = (T.1.length : Nat) := hcl
      unfold sdf
      omega
    rw [ek, Int.toNat_natCast] at v1 v2 v3
    have y2 := (hR2 (by omega)).2
    rw [tU_f hk]
    refine ⟨r3_push (v := (vf F (tn F + 2), vf F (tn F + 3), vf F (tn F + 4))) t1 es ?_ (fun i hi => ?_) ?_ ?_ ?_, r3_eq t2 es ((nz_fa (g0 35 (by decide))).trans ((nz_fa (hg.f 35 (by decide) (by decide))).trans (nz_fa (hG.f 35 (by decide) (by decide))))) ((nz_fa (g0 36 (by decide))).trans ((nz_fa (hg.f 36 (by decide) (by decide))).trans (nz_fa (hG.f 36 (by decide) (by decide))))) ((nz_fa (g0 37 (by decide))).trans ((nz_fa (hg.f 37 (by decide) (by decide))).trans (nz_fa (hG.f 37 (by decide) (by decide))))) ((nz_fa (g0 38 (by decide))).trans ((nz_fa (hg.f 38 (by decide) (by decide))).trans (nz_fa (hG.f 38 (by decide) (by decide))))), by rw [es]; exact (ix_eq ((nz_fa (g0 39 (by decide))).trans ((nz_fa (hg.f 39 (by decide) (by decide))).trans (nz_fa (hG.f 39 (by decide) (by decide))))) (sdf F)).trans t4, by rw [es]; exact (ix_eq ((nz_fa (g0 40 (by decide))).trans ((nz_fa (hg.f 40 (by decide) (by decide))).trans (nz_fa (hG.f 40 (by decide) (by decide))))) (sdf F)).trans t5, by rw [es]; exact (ix_eq ((nz_fa (g0 41 (by decide))).trans ((nz_fa (hg.f 41 (by decide) (by decide))).trans (nz_fa (hG.f 41 (by decide) (by decide))))) (sdf F)).trans t7, fun k hk6 => rLw_eq (t6 k hk6) es ((nz_fa (g0 42 (by decide))).trans ((nz_fa (hg.f 42 (by decide) (by decide))).trans (nz_fa (hG.f 42 (by decide) (by decide))))) ((nz_fa (g0 43 (by decide))).trans ((nz_fa (hg.f 43 (by decide) (by decide))).trans (nz_fa (hG.f 43 (by decide) (by decide))))) ((nz_fa (g0 44 (by decide))).trans ((nz_fa (hg.f 44 (by decide) (by decide))).trans (nz_fa (hG.f 44 (by decide) (by decide))))) ((nz_fa (g0 45 (by decide))).trans ((nz_fa (hg.f 45 (by decide) (by decide))).trans (nz_fa (hG.f 45 (by decide) (by decide))))) ((nz_fa (g0 46 (by decide))).trans ((nz_fa (hg.f 46 (by decide) (by decide))).trans (nz_fa (hG.f 46 (by decide) (by decide))))) ((nz_fa (g0 47 (by decide))).trans ((nz_fa (hg.f 47 (by decide) (by decide))).trans (nz_fa (hG.f 47 (by decide) (by decide))))) ((nz_fa (g0 48 (by decide))).trans ((nz_fa (hg.f 48 (by decide) (by decide))).trans (nz_fa (hG.f 48 (by decide) (by decide))))) ((nz_fa (g0 49 (by decide))).trans ((nz_fa (hg.f 49 (by decide) (by decide))).trans (nz_fa (hG.f 49 (by decide) (by decide))))) ((nz_fa (g0 50 (by decide))).trans ((nz_fa (hg.f 50 (by decide) (by decide))).trans (nz_fa (hG.f 50 (by decide) (by decide)))))⟩
    · rw [i12, a31] at y2
      show ((sy_ai F4 31).getD _ 0).toInt = _
      rw [a31']
      exact y2
    · obtain ⟨u1, u2, u3⟩ := hV.1 i (by rw [ek]; omega)
      unfold ix
      rw [nz_fa (g0 32 (by decide)), nz_fa (g0 33 (by decide)), nz_fa (g0 34 (by decide)), u1, u2, u3, nz_fa (hG.f 32 (by decide) (by decide)), nz_fa (hG.f 33 (by decide) (by decide)), nz_fa (hG.f 34 (by decide) (by decide))]
      exact ⟨rfl, rfl, rfl⟩
    · rw [ix_eq (nz_fa (g0 32 (by decide)))]
      exact v1 (by decide)
    · rw [ix_eq (nz_fa (g0 33 (by decide)))]
      exact v2 (by decide)
    · rw [ix_eq (nz_fa (g0 34 (by decide)))]
      exact v3 (by decide)
  · refine oth_trans (oth_gr hG (by decide)) (oth_trans (F1 := F') ⟨hg.f 12 (by decide) (by decide), hg.f 11 (by decide) (by decide), fun i hi => ⟨(show ((sy_ai F' 31).getD i 0).toInt = _ by rw [hO i hi]; rfl), ix_eq (nz_fa (hg.f 35 (by decide) (by decide))) i, ix_eq (nz_fa (hg.f 39 (by decide) (by decide))) i, ix_eq (nz_fa (hg.f 40 (by decide) (by decide))) i, ix_eq (nz_fa (hg.f 41 (by decide) (by decide))) i⟩, fun i hi => by obtain ⟨u1, u2, u3⟩ := hV.1 i (by have ek : tf_k F1 = 7 * (sy_i F1 12).toInt + ((sy_ai F1 31).getD (sy_i F1 12).toInt.toNat 0).toInt := rfl; rw [ek, a31, i12]; rw [i12] at hi; omega); unfold ix; rw [u1, u2, u3]; exact ⟨rfl, rfl, rfl⟩, fun i hi => ⟨ix_eq (nz_fa (hg.f 36 (by decide) (by decide))) i, ix_eq (nz_fa (hg.f 37 (by decide) (by decide))) i, ix_eq (nz_fa (hg.f 38 (by decide) (by decide))) i⟩, fun i hi => ⟨ix_eq (nz_fa (hg.f 42 (by decide) (by decide))) i, ix_eq (nz_fa (hg.f 43 (by decide) (by decide))) i⟩, fun b _ => s5_same (nz_fa (hg.f 44 (by decide) (by decide))) (nz_fa (hg.f 45 (by decide) (by decide))) (nz_fa (hg.f 46 (by decide) (by decide))) (nz_fa (hg.f 47 (by decide) (by decide))) (nz_fa (hg.f 48 (by decide) (by decide))) b, fun i _ => ⟨by rw [nz_fa (hg.f 49 (by decide) (by decide))], by rw [nz_fa (hg.f 50 (by decide) (by decide))]⟩⟩ (oth_gr (W := []) ⟨hb, fun j hj _ => g0 j hj, by omega, by omega⟩ (by decide)))
theorem toz_119' (hP : pk F) (hf : (sy_i F 6).toInt = 0) (hk : kf F (tn F) = 21) (F1 : Nat → sy_d) (hG : gr W1 F F1) (h : ((sy_ai F 35).getD (sy_i F 12).toInt.toNat 0).toInt ≠ 4) (h4 : (sy_i F1 4).toInt = (sy_i F 4).toInt + 1) (h400 : (sy_i F 4).toInt ≠ 400) (h6 : (sy_i F1 6).toInt = 0) (h8 : (sy_i F1 8).toInt = (sy_i F 8).toInt) (h9 : (sy_i F1 9).toInt = (sy_i F 9).toInt) :
    hd_W Ls xs 7 jm_M154 (toz_Q F X1 X2) (119, sy_dL F1 [some (.inl (.ref 1000)), none], sy_dS F1 [.inl (.ref 1000)], sy_dh F1 X1 X2 (iv_H 4), 0, 0) := by
  obtain ⟨j1, j2, j3, j4, j5, j6, j7⟩ := hP.2.2.2 hf
  have c4 := nz_bx hP.1 (k := 4) (lo := 0) (hi := 400) rfl
  have b31 := nz_ba hP.1 (k := 31) (lo := 0) (hi := 7) rfl (sy_i F 12).toInt.toNat
  have b35 := nz_ba hP.1 (k := 35) (lo := 0) (hi := 4) rfl (sy_i F 12).toInt.toNat
  have i12 := hG.i (k := 12) (by decide) (by decide)
  have i13 := hG.i (k := 13) (by decide) (by decide)
  have a31 := hG.a (k := 31) (by decide) (by decide)
  have a35 := hG.a (k := 35) (by decide) (by decide)
  refine hd_calV (R := tbz_R F1) (nh := 69) (nv := 69) (s := 4) (s1 := 4) (d1 := 5) (M1 := jm_M159) (As := [.inl (.ref 1000)]) (rest := []) jm_ok154 rfl rfl (by decide) (by decide +kernel) (tbz_T F1 X1 X2 hG.b (by rw [a35, i12]; omega) (by omega)) (fun F3 F' hR p1 _ => ?_)
  obtain ⟨⟨hg, hN, hR2, hA⟩, hV, hO⟩ := hR
  have g3 := hg.dst p1
  have k4 := nz_fi (p1 4 (by decide))
  have k6 := nz_fi (p1 6 (by decide))
  have k7 := nz_fi (p1 7 (by decide))
  have k12 := g3.i (k := 12) (by decide) (by decide)
  have k13 := nz_fi (p1 13 (by decide))
  have kf_ := nz_fa (p1 35 (by decide))
  have ko := g3.a (k := 31) (by decide) (by decide)
  rw [← k6, ← k13, ← kf_] at hR2
  have hG3 : gr tb_W F F3 := (hG.mono (by decide)).trans g3 (by decide)
  have t3 := g3.t
  refine toy_122 (by decide) F3 X1 X2 g3.b ?_
  intro F4 hb g e4 e5 e6 e7 e8 e9 e11 e12 e13 e14 e15 a25 a26 a27 a31' a35' a39 a40 a41
  have g0 : ∀ q, q < 69 → F4 q = F' q := fun q hq => (g q hq (by simp)).trans (p1 q hq)
  have hG4 : gr tb_W F F4 := hG3.trans (gr_mk (W := tb_W) hb g (by decide) (by omega) (by omega)) (fun _ q => q)
  refine ⟨F4, rfl, rfl, hG4.mono (by decide), pk_of hP hG4 (by decide) (fun z => ?_), fun z => by omega, fun L x hm hx => ?_, fun L x T hm hx hT z => ?_, ?_⟩
  · obtain ⟨y1, y2⟩ := hR2 (by omega)
    rw [a35, i12] at y2
    refine pj_of (hP.2.2.2 hf) hG4 (by decide) ?_
    rw [a31', a35', ko, a31, y2]
    omega
  · obtain ⟨x1, x2, x3, x4, x5⟩ := x
    obtain ⟨r1, r2, r3, r4, r5, r6⟩ := hx
    have r1 : tn F = x1 := r1
    subst r1
    have r3 : ((sy_ai F 31).getD (sy_i F 12).toInt.toNat 0).toInt = (x2 : Nat) := r3
    have r4 : ((sy_ai F 35).getD (sy_i F 12).toInt.toNat 0).toInt = (x3 : Nat) := r4
    have r2 : tn F ≤ L := r2
    have ts : tn F1 = tn F + 1 := tn_s c4.1 h4
    rw [sOne_b hk, sBu_n (by omega), sG_ok (by unfold tn; omega)]
    show an _ (sB (sTell (kf F) (vf F) (nf F) (0, 9) (0, 3) (0, 999) (tn F + 1, x4, x5)) fun q => .inr (q.1, x2, x3 + 1, x4 ++ [nf F (tn F + 1)], q.2)) _ _ _
    rw [kf_eq (hG.f 25 (by decide) (by decide)), pf_eq (hG.f 26 (by decide) (by decide)), vf_eq (hG.f 27 (by decide) (by decide)), nf_eq (hG.f 28 (by decide) (by decide)), ts] at hA
    have i4 := nz_fi (g0 4 (by decide))
    have i6 := nz_fi (g0 6 (by decide))
    have i7 := nz_fi (g0 7 (by decide))
    have i8 := nz_fi (g0 8 (by decide))
    have i9 := nz_fi (g0 9 (by decide))
    have hB1 := hA L x5 x4 hm (pm_nx hm r2 (by rw [hk]; decide) (by unfold tn; omega)) (wr_eq r6 (by omega) h8 h9) (nmr_eq r5 (hG.f 30 (by decide) (by decide)) i13)
    refine fun _ => an_bind (F := F1) (an_mono hB1 i6 i7 (J' := fun q G => (jq (pf F) L q G ∧ nmr (x4 ++ [nf F (tn F + 1)]) G)) (fun q j => ⟨jq_dst j.1 i4 i8 i9, nmr_eq j.2 (g0 30 (by decide)) (nz_fi (g0 13 (by decide)))⟩)) (nop_same rfl rfl) (fun hz q j => an_ok rfl hz ?_) h6
    obtain ⟨⟨q1, q2, q3⟩, q4⟩ := j
    obtain ⟨y1, y2⟩ := hR2 (by omega)
    refine ⟨q1, q2, ?_, ?_, q4, q3⟩
    · show ((sy_ai F4 31).getD (sy_i F4 12).toInt.toNat 0).toInt = _
      rw [a31', e12, k12, i12]
      rw [ko, a31, r3]
    · show ((sy_ai F4 35).getD (sy_i F4 12).toInt.toNat 0).toInt = _
      rw [a35', e12, k12, i12]
      rw [i12] at y2
      rw [y2, a35, r4]
      exact (Int.natCast_succ x3).symm
  · obtain ⟨x1, x2, x3, x4, x5⟩ := x
    obtain ⟨r1, r2, r3, r4, r5, r6⟩ := hx
    have r1 : tn F = x1 := r1
    subst r1
    have r2 : tn F ≤ L := r2
    have ts : tn F1 = tn F + 1 := tn_s c4.1 h4
    have i6 := nz_fi (g0 6 (by decide))
    have z' : (sy_i F' 6).toInt = 0 := by omega
    have hv := hV.2 L x5 x4 (by rw [pf_eq (hG.f 26 (by decide) (by decide)), kf_eq (hG.f 25 (by decide) (by decide))]; exact hm) (by rw [ts]; exact pm_nx hm r2 (by rw [hk]; decide) (by unfold tn; omega)) (by rw [pf_eq (hG.f 26 (by decide) (by decide))]; exact wr_eq r6 (by omega) h8 h9) (nmr_eq r5 (hG.f 30 (by decide) (by decide)) i13) h6 z'
    rw [vf_eq (hG.f 27 (by decide) (by decide)), ts] at hv
    obtain ⟨v1, v2, v3⟩ := hv
    obtain ⟨t1, t2, t4, t5, t7, t6⟩ := hT
    have es : sdf F4 = sdf F := by unfold sdf; rw [nz_fi (g0 12 (by decide)), nz_fi (hg.f 12 (by decide) (by decide)), i12]
    have hcl : ix F 35 (sdf F) = (T.2.1.length : Nat) := t2.1
    have ek : tb_k F1 = (4 * sdf F + T.2.1.length : Nat) := by
      have e : tb_k F1 = 4 * (sy_i F1 12).toInt + ((sy_ai F1 35).getD (sy_i F1 12).toInt.toNat 0).toInt := rfl
      rw [e, a35, i12]
      have c12 := nz_bx hP.1 (k := 12) (lo := 0) (hi := 1) rfl
      have e2 : ((sy_ai F 35).getD (sy_i F 12).toInt.toNat 0).toInt = (T.2.1.length : Nat) := hcl
      unfold sdf
      omega
    rw [ek, Int.toNat_natCast] at v1 v2 v3
    have y2 := (hR2 (by omega)).2
    rw [tU_b hk]
    refine ⟨r3_eq t1 es ((nz_fa (g0 31 (by decide))).trans ((nz_fa (hg.f 31 (by decide) (by decide))).trans (nz_fa (hG.f 31 (by decide) (by decide))))) ((nz_fa (g0 32 (by decide))).trans ((nz_fa (hg.f 32 (by decide) (by decide))).trans (nz_fa (hG.f 32 (by decide) (by decide))))) ((nz_fa (g0 33 (by decide))).trans ((nz_fa (hg.f 33 (by decide) (by decide))).trans (nz_fa (hG.f 33 (by decide) (by decide))))) ((nz_fa (g0 34 (by decide))).trans ((nz_fa (hg.f 34 (by decide) (by decide))).trans (nz_fa (hG.f 34 (by decide) (by decide))))), r3_push (v := (vf F (tn F + 2), vf F (tn F + 3), vf F (tn F + 4))) t2 es ?_ (fun i hi => ?_) ?_ ?_ ?_, by rw [es]; exact (ix_eq ((nz_fa (g0 39 (by decide))).trans ((nz_fa (hg.f 39 (by decide) (by decide))).trans (nz_fa (hG.f 39 (by decide) (by decide))))) (sdf F)).trans t4, by rw [es]; exact (ix_eq ((nz_fa (g0 40 (by decide))).trans ((nz_fa (hg.f 40 (by decide) (by decide))).trans (nz_fa (hG.f 40 (by decide) (by decide))))) (sdf F)).trans t5, by rw [es]; exact (ix_eq ((nz_fa (g0 41 (by decide))).trans ((nz_fa (hg.f 41 (by decide) (by decide))).trans (nz_fa (hG.f 41 (by decide) (by decide))))) (sdf F)).trans t7, fun k hk6 => rLw_eq (t6 k hk6) es ((nz_fa (g0 42 (by decide))).trans ((nz_fa (hg.f 42 (by decide) (by decide))).trans (nz_fa (hG.f 42 (by decide) (by decide))))) ((nz_fa (g0 43 (by decide))).trans ((nz_fa (hg.f 43 (by decide) (by decide))).trans (nz_fa (hG.f 43 (by decide) (by decide))))) ((nz_fa (g0 44 (by decide))).trans ((nz_fa (hg.f 44 (by decide) (by decide))).trans (nz_fa (hG.f 44 (by decide) (by decide))))) ((nz_fa (g0 45 (by decide))).trans ((nz_fa (hg.f 45 (by decide) (by decide))).trans (nz_fa (hG.f 45 (by decide) (by decide))))) ((nz_fa (g0 46 (by decide))).trans ((nz_fa (hg.f 46 (by decide) (by decide))).trans (nz_fa (hG.f 46 (by decide) (by decide))))) ((nz_fa (g0 47 (by decide))).trans ((nz_fa (hg.f 47 (by decide) (by decide))).trans (nz_fa (hG.f 47 (by decide) (by decide))))) ((nz_fa (g0 48 (by decide))).trans ((nz_fa (hg.f 48 (by decide) (by decide))).trans (nz_fa (hG.f 48 (by decide) (by decide))))) ((nz_fa (g0 49 (by decide))).trans ((nz_fa (hg.f 49 (by decide) (by decide))).trans (nz_fa (hG.f 49 (by decide) (by decide))))) ((nz_fa (g0 50 (by decide))).trans ((nz_fa (hg.f 50 (by decide) (by decide))).trans (nz_fa (hG.f 50 (by decide) (by decide)))))⟩
    · rw [i12, a35] at y2
      show ((sy_ai F4 35).getD _ 0).toInt = _
      rw [a35']
      exact y2
    · obtain ⟨u1, u2, u3⟩ := hV.1 i (by rw [ek]; omega)
      unfold ix
      rw [nz_fa (g0 36 (by decide)), nz_fa (g0 37 (by decide)), nz_fa (g0 38 (by decide)), u1, u2, u3, nz_fa (hG.f 36 (by decide) (by decide)), nz_fa (hG.f 37 (by decide) (by decide)), nz_fa (hG.f 38 (by decide) (by decide))]
      exact ⟨rfl, rfl, rfl⟩
    · rw [ix_eq (nz_fa (g0 36 (by decide)))]
      exact v1 (by decide)
    · rw [ix_eq (nz_fa (g0 37 (by decide)))]
      exact v2 (by decide)
    · rw [ix_eq (nz_fa (g0 38 (by decide)))]
      exact v3 (by decide)
  · refine oth_trans (oth_gr hG (by decide)) (oth_trans (F1 := F') ⟨hg.f 12 (by decide) (by decide), hg.f 11 (by decide) (by decide), fun i hi => ⟨ix_eq (nz_fa (hg.f 31 (by decide) (by decide))) i, (show ((sy_ai F' 35).getD i 0).toInt = _ by rw [hO i hi]; rfl), ix_eq (nz_fa (hg.f 39 (by decide) (by decide))) i, ix_eq (nz_fa (hg.f 40 (by decide) (by decide))) i, ix_eq (nz_fa (hg.f 41 (by decide) (by decide))) i⟩, fun i hi => ⟨ix_eq (nz_fa (hg.f 32 (by decide) (by decide))) i, ix_eq (nz_fa (hg.f 33 (by decide) (by decide))) i, ix_eq (nz_fa (hg.f 34 (by decide) (by decide))) i⟩, fun i hi => by obtain ⟨u1, u2, u3⟩ := hV.1 i (by have ek : tb_k F1 = 4 * (sy_i F1 12).toInt + ((sy_ai F1 35).getD (sy_i F1 12).toInt.toNat 0).toInt := rfl; rw [ek, a35, i12]; rw [i12] at hi; omega); unfold ix; rw [u1, u2, u3]; exact ⟨rfl, rfl, rfl⟩, fun i hi => ⟨ix_eq (nz_fa (hg.f 42 (by decide) (by decide))) i, ix_eq (nz_fa (hg.f 43 (by decide) (by decide))) i⟩, fun b _ => s5_same (nz_fa (hg.f 44 (by decide) (by decide))) (nz_fa (hg.f 45 (by decide) (by decide))) (nz_fa (hg.f 46 (by decide) (by decide))) (nz_fa (hg.f 47 (by decide) (by decide))) (nz_fa (hg.f 48 (by decide) (by decide))) b, fun i _ => ⟨by rw [nz_fa (hg.f 49 (by decide) (by decide))], by rw [nz_fa (hg.f 50 (by decide) (by decide))]⟩⟩ (oth_gr (W := []) ⟨hb, fun j hj _ => g0 j hj, by omega, by omega⟩ (by decide)))
theorem toz_233' (hP : pk F) (hf : (sy_i F 6).toInt = 0) (hk0 : 22 ≤ kf F (tn F) ∧ kf F (tn F) ≤ 27) (F1 : Nat → sy_d) (hG : gr W1 F F1) (hk : 0 ≤ (sy_i F1 69).toInt ∧ (sy_i F1 69).toInt ≤ 5) (h69 : (sy_i F1 69).toInt = kf F (tn F) - 22) (h4 : (sy_i F1 6).toInt = 0 → (sy_i F1 4).toInt = (sy_i F 4).toInt + 1 ∧ (sy_i F 4).toInt ≠ 400) (h2 : (sy_i F1 6).toInt ≠ 0 → (sy_i F1 6).toInt = 2 ∧ (sy_i F 4).toInt = 400 ∧ (sy_i F1 7).toInt = pf F (tn F)) (h8 : (sy_i F1 8).toInt = (sy_i F 8).toInt) (h9 : (sy_i F1 9).toInt = (sy_i F 9).toInt) :
    hd_W Ls xs 7 jm_M154 (toz_Q F X1 X2) (233, sy_dL F1 [some (.inl (.ref 1000)), none], sy_dS F1 [.inr (.inl 69), .inl (.ref 1000)], sy_dh F1 X1 X2 (iv_H 4), 0, 0) := by
  obtain ⟨j1, j2, j3, j4, j5, j6, j7⟩ := hP.2.2.2 hf
  have c4 := nz_bx hP.1 (k := 4) (lo := 0) (hi := 400) rfl
  have i5 := hG.i (k := 5) (by decide) (by decide)
  have i11 := hG.i (k := 11) (by decide) (by decide)
  have i12 := hG.i (k := 12) (by decide) (by decide)
  have i13 := hG.i (k := 13) (by decide) (by decide)
  have i14 := hG.i (k := 14) (by decide) (by decide)
  have i15 := hG.i (k := 15) (by decide) (by decide)
  have a31 := hG.a (k := 31) (by decide) (by decide)
  have a35 := hG.a (k := 35) (by decide) (by decide)
  have t1 := hG.t
  have hP1 := hP.2.1
  have hr : jm_rpn F1 := jm_rpn_eq (fun q hq => hG.f q (by revert q; decide) (by revert q; decide)) hP.2.2.1
  have hS : rp_S F1 (sy_i F1 12).toInt.toNat (sy_i F1 14).toInt (sy_i F1 15).toInt := by
    rw [i12, i14, i15]
    have a42 := hG.a (k := 42) (by decide) (by decide)
    have a43 := hG.a (k := 43) (by decide) (by decide)
    have a44 := hG.a (k := 44) (by decide) (by decide)
    have a45 := hG.a (k := 45) (by decide) (by decide)
    have a46 := hG.a (k := 46) (by decide) (by decide)
    have a47 := hG.a (k := 47) (by decide) (by decide)
    have a48 := hG.a (k := 48) (by decide) (by decide)
    have a49 := hG.a (k := 49) (by decide) (by decide)
    have a50 := hG.a (k := 50) (by decide) (by decide)
    exact rp_S_keep j1 (fun k _ => by rw [a42, a43]; exact ⟨rfl, rfl⟩) (fun b _ _ => s5_same a44 a45 a46 a47 a48 b) (fun i _ _ => by rw [a49, a50]; exact ⟨rfl, rfl⟩) (Int.le_refl _) (Int.le_refl _)
  refine hd_calV (R := tlz_R (sy_i F1 69).toInt F1) (nh := 69) (nv := 70) (s := 4) (s1 := 4) (d1 := 6) (M1 := jm_M160) (As := [.inl (.ref 1000), .inr (.inl 69)]) (rest := []) jm_ok154 rfl rfl (by decide) (by decide +kernel) (tlz_T X1 X2 F1 (sy_i F1 69) hG.b hk (by omega) (fun z => by have := h4 z; omega) (by omega) (by omega)) (fun F3 F' hR p1 _ => ?_)
  have hz3 := (tlz_Rdst hR p1).2.2
  obtain ⟨hR3, hfx, hrr⟩ := tlz_y (tlz_Rdst hR p1)
  have hP3 := pk_law hk hG.b (by omega) hr hS (by omega) (by omega) (by rw [i12, i13, a31, a35]; exact j6) hR3
  have hG3 : gr WO F F3 := (hG.mono (by decide)).trans hR3.1 (by decide)
  have t3 := hR3.1.t
  have u3 := hR3.1.u
  have m8 := hR3.1.i (k := 8) (by decide) (by decide)
  have m9 := hR3.1.i (k := 9) (by decide) (by decide)
  have m12 := hR3.1.i (k := 12) (by decide) (by decide)
  have m13 := hR3.1.i (k := 13) (by decide) (by decide)
  have m30 := hR3.1.f 30 (by decide) (by decide)
  have m31 := hR3.1.a (k := 31) (by decide) (by decide)
  have m35 := hR3.1.a (k := 35) (by decide) (by decide)
  refine toy_236 (by decide) F3 X1 X2 hG3.b ?_
  intro F4 hb g e4 e5 e6 e7 e8 e9 e11 e12 e13 e14 e15 a25 a26 a27 a31' a35' a39 a40 a41
  have hG4 : gr [] F3 F4 := gr_mk hb g (by decide) (by omega) (by omega)
  have y6 := hP3.2.2.2
  refine ⟨F4, rfl, rfl, hG3.trans hG4 (by decide), pk_of hP3 hG4 (by decide) (fun z => ?_), fun z => ?_, fun L x hm hx => ?_, fun L x T hm hx hT z => ?_, ?_⟩
  · obtain ⟨m1, m2, m3, m4, m5, m6, m7⟩ := y6 (by omega)
    exact pj_of (y6 (by omega)) hG4 (by decide) (by rw [e13, a31', a35']; exact m6)
  · have := h4 (u3 (by omega))
    omega
  · obtain ⟨x1, x2, x3, x4, x5⟩ := x
    obtain ⟨r1, r2, r3, r4, r5, r6⟩ := hx
    have r1 : tn F = x1 := r1
    subst r1
    have r2 : tn F ≤ L := r2
    rw [sOne_l hk0]
    show an _ (sB (sG (tn F)) fun t => sB (sLw (kf F) t) fun t => .inr (t, x2, x3, x4, x5)) _ _ _
    by_cases hz : (sy_i F1 6).toInt = 0
    · obtain ⟨h4a, h4b⟩ := h4 hz
      have ts : tn F1 = tn F + 1 := tn_s c4.1 h4a
      have eL : lr F1 = sLw (kf F) (tn F + 1) := by
        unfold lr
        rw [kf_eq (hG.f 25 (by decide) (by decide)), ts]
      rw [eL] at hfx hrr
      rw [sG_ok (by unfold tn; omega)]
      show an _ (sB (sLw (kf F) (tn F + 1)) fun t => .inr (t, x2, x3, x4, x5)) _ _ _
      intro _
      rw [e6, e7]
      refine ⟨fun q => ?_, fun q => ?_⟩
      · obtain ⟨tok, q1, q2⟩ := hfx.1 hz q
        exact ⟨tok, by rw [q1]; rfl, by rw [q2, pf_eq (hG.f 26 (by decide) (by decide))]⟩
      · have e := hrr q
        refine ⟨(tn F3, x2, x3, x4, x5), by rw [e]; rfl, tn_eq e4, okL_Lw hm (pm_nx hm r2 (by omega) (by unfold tn; omega)) _ e, ?_, ?_, nmr_eq r5 ((g 30 (by decide) (by simp)).trans (m30.trans (hG.f 30 (by decide) (by decide)))) (by omega), wr_eq r6 (by unfold tn; omega) (by omega) (by omega)⟩
        · show ((sy_ai F4 31).getD (sy_i F4 12).toInt.toNat 0).toInt = _
          rw [a31', e12, m12, i12, m31, a31]
          exact r3
        · show ((sy_ai F4 35).getD (sy_i F4 12).toInt.toNat 0).toInt = _
          rw [a35', e12, m12, i12, m35, a35]
          exact r4
    · obtain ⟨q1, q2, q3⟩ := h2 hz
      obtain ⟨f1, f2⟩ := hfx.2 hz
      exact an_er (k := 2) (tok := tn F) (by rw [sG_4 (by unfold tn; omega)]; rfl) (by omega) (by decide) (by omega)
  · obtain ⟨t1', t2', t4', t5', t7', t6'⟩ := hT
    have z3 : (sy_i F3 6).toInt = 0 := by omega
    have z1 := u3 z3
    obtain ⟨h4a, h4b⟩ := h4 z1
    have ts : tn F1 = tn F + 1 := tn_s c4.1 h4a
    have es1 : sdf F1 = sdf F := by unfold sdf; rw [i12]
    have es3 : sdf F3 = sdf F1 := by unfold sdf; rw [m12]
    have es4 : sdf F4 = sdf F3 := by unfold sdf; rw [e12]
    have es : sdf F4 = sdf F := es4.trans (es3.trans es1)
    have c12 := nz_bx hP.1 (k := 12) (lo := 0) (hi := 1) rfl
    have eL : zLw (kf F) (vf F) (tn F + 1) = .inr (tn F3, aA F1 F3) := by
      rw [← hz3 z3]
      unfold lrz
      rw [kf_eq (hG.f 25 (by decide) (by decide)), vf_eq (hG.f 27 (by decide) (by decide)), ts]
    have sd1 : (sdf F1 : Int) = (sy_i F1 12).toInt := by unfold sdf; omega
    obtain ⟨w1, w2, w3, w4, w5, w6, w7, w8, w9⟩ := id hR3
    obtain ⟨-, -, x42, x43⟩ := w9 z3
    rw [tU_l hk0, eL]
    refine ⟨r3_eq t1' es ((nz_fa (g 31 (by decide) (by simp))).trans ((hR3.1.a (k := 31) (by decide) (by decide)).trans (hG.a (k := 31) (by decide) (by decide)))) ((nz_fa (g 32 (by decide) (by simp))).trans ((hR3.1.a (k := 32) (by decide) (by decide)).trans (hG.a (k := 32) (by decide) (by decide)))) ((nz_fa (g 33 (by decide) (by simp))).trans ((hR3.1.a (k := 33) (by decide) (by decide)).trans (hG.a (k := 33) (by decide) (by decide)))) ((nz_fa (g 34 (by decide) (by simp))).trans ((hR3.1.a (k := 34) (by decide) (by decide)).trans (hG.a (k := 34) (by decide) (by decide)))), r3_eq t2' es ((nz_fa (g 35 (by decide) (by simp))).trans ((hR3.1.a (k := 35) (by decide) (by decide)).trans (hG.a (k := 35) (by decide) (by decide)))) ((nz_fa (g 36 (by decide) (by simp))).trans ((hR3.1.a (k := 36) (by decide) (by decide)).trans (hG.a (k := 36) (by decide) (by decide)))) ((nz_fa (g 37 (by decide) (by simp))).trans ((hR3.1.a (k := 37) (by decide) (by decide)).trans (hG.a (k := 37) (by decide) (by decide)))) ((nz_fa (g 38 (by decide) (by simp))).trans ((hR3.1.a (k := 38) (by decide) (by decide)).trans (hG.a (k := 38) (by decide) (by decide)))), by rw [es]; exact (ix_eq ((nz_fa (g 39 (by decide) (by simp))).trans ((hR3.1.a (k := 39) (by decide) (by decide)).trans (hG.a (k := 39) (by decide) (by decide)))) (sdf F)).trans t4', by rw [es]; exact (ix_eq ((nz_fa (g 40 (by decide) (by simp))).trans ((hR3.1.a (k := 40) (by decide) (by decide)).trans (hG.a (k := 40) (by decide) (by decide)))) (sdf F)).trans t5', by rw [es]; exact (ix_eq ((nz_fa (g 41 (by decide) (by simp))).trans ((hR3.1.a (k := 41) (by decide) (by decide)).trans (hG.a (k := 41) (by decide) (by decide)))) (sdf F)).trans t7', fun k hk6 => ?_⟩
    refine rLw_eq (F := F3) ?_ es4 (nz_fa (g 42 (by decide) (by simp))) (nz_fa (g 43 (by decide) (by simp))) (nz_fa (g 44 (by decide) (by simp))) (nz_fa (g 45 (by decide) (by simp))) (nz_fa (g 46 (by decide) (by simp))) (nz_fa (g 47 (by decide) (by simp))) (nz_fa (g 48 (by decide) (by simp))) (nz_fa (g 49 (by decide) (by simp))) (nz_fa (g 50 (by decide) (by simp)))
    show rLw F3 k (if (k : Int) = kf F (tn F) - 22 then some (aA F1 F3) else T.2.2.2.2.2 k)
    by_cases hq : (k : Int) = kf F (tn F) - 22
    · rw [if_pos hq]
      have ei : 6 * sdf F3 + k = (6 * (sy_i F1 12).toInt + (sy_i F1 69).toInt).toNat := by omega
      have y42 : ix F3 42 (6 * sdf F3 + k) = (sy_i F1 14).toInt := by rw [ei]; exact x42
      have y43 : ix F3 43 (6 * sdf F3 + k) = (sy_i F3 14).toInt := by rw [ei]; exact x43
      refine ⟨by rw [y42, y43]; exact w5, ?_⟩
      rw [y42, y43]
      rfl
    · rw [if_neg hq]
      have hn : (((6 * sdf F1 + k : Nat)) : Int) ≠ 6 * (sy_i F1 12).toInt + (sy_i F1 69).toInt := by omega
      obtain ⟨y42, y43⟩ := w8 (6 * sdf F1 + k) hn
      have hb42 := nz_ba hG.b (k := 42) (lo := 0) (hi := 260) rfl (6 * sdf F1 + k)
      exact rLw_kp hk6 (rLw_eq (t6' k hk6) es1 (hG.a (k := 42) (by decide) (by decide)) (hG.a (k := 43) (by decide) (by decide)) (hG.a (k := 44) (by decide) (by decide)) (hG.a (k := 45) (by decide) (by decide)) (hG.a (k := 46) (by decide) (by decide)) (hG.a (k := 47) (by decide) (by decide)) (hG.a (k := 48) (by decide) (by decide)) (hG.a (k := 49) (by decide) (by decide)) (hG.a (k := 50) (by decide) (by decide))) es3 hS (by unfold ix; rw [y42]) (by unfold ix; rw [y43]) hb42.1 (fun b hb' => w3 b (Or.inl hb')) w2
  · obtain ⟨w1, w2, w3, w4, w5, w6, w7, w8, w9⟩ := id hR3
    have c12 := nz_bx hP.1 (k := 12) (lo := 0) (hi := 1) rfl
    have z4 := nz_bx w1.b (k := 4) (lo := 0) (hi := 400) rfl
    have S : ∀ q, q < 69 → q ∉ WLL → ∀ i : Nat, ix F3 q i = ix F1 q i := fun q hq hn i => ix_eq (nz_fa (w1.f q hq hn)) i
    refine oth_trans (oth_gr hG (by decide)) (oth_trans (F1 := F3) ⟨w1.f 12 (by decide) (by decide), w1.f 11 (by decide) (by decide), fun i _ => ⟨S 31 (by decide) (by decide) i, S 35 (by decide) (by decide) i, S 39 (by decide) (by decide) i, S 40 (by decide) (by decide) i, S 41 (by decide) (by decide) i⟩, fun i _ => ⟨S 32 (by decide) (by decide) i, S 33 (by decide) (by decide) i, S 34 (by decide) (by decide) i⟩, fun i _ => ⟨S 36 (by decide) (by decide) i, S 37 (by decide) (by decide) i, S 38 (by decide) (by decide) i⟩, fun i hi => ?_, fun b hb' => w3 b (by omega), fun i hi => w2 i (by omega)⟩ (oth_gr (W := []) hG4 (by decide)))
    obtain ⟨y1, y2⟩ := w8 i (by omega)
    unfold ix
    rw [y1, y2]
    exact ⟨rfl, rfl⟩
theorem toz_137' (hP : pk F) (hf : (sy_i F 6).toInt = 0) (hk : kf F (tn F) = 28) (F1 : Nat → sy_d) (g0 : ∀ j, j < 69 → F1 j = F j) (hb : iv_in F1 iv_B4) (hs : (sy_i F1 69).toInt = (sy_i F 12).toInt) :
    hd_W Ls xs 7 jm_M154 (toz_Q F X1 X2) (137, sy_dL F1 [some (.inl (.ref 1000)), none], sy_dS F1 [.inl (.int 99), .inl (.int 0), .inl (.ref 1000), .inr (.inl 69), .inl (.ref 1017)], sy_dh F1 X1 X2 (iv_H 4), 0, 0) := by
  have hJ := hP.2.2.2 hf
  obtain ⟨j1, j2, j3, j4, j5, j6, j7⟩ := id hJ
  have c12 := nz_bx hP.1 (k := 12) (lo := 0) (hi := 1) rfl
  refine hd_calI (R := fun x F' => iR ((99 : Int32)).toInt F1 F' ∧ ((sy_i F' 6).toInt = 0 → x.toInt = vf F1 (tn F1 + 1))) (nh := 69) (nv := 70) (s := 4) (s1 := 4) (d1 := 4) (M1 := jm_M153) (As := [.inl (.ref 1000), .inl (.int 0), .inl (.int 99)]) (rest := [.inr (.inl 69), .inl (.ref 1017)]) jm_ok154 rfl rfl (by decide) (by decide +kernel) (tiz_T F1 X1 X2 hb _) (fun F3 F' x hR0 p1 p2 p3 => ?_)
  obtain ⟨hR00, hx0⟩ := hR0
  have hR : iR 99 F1 F' := hR00
  have k6 := nz_fi (p1 6 (by decide))
  obtain ⟨g3', n3, hR2, hA⟩ := iR_src (iR_dst hR p1) g0
  have k69 := nz_fi (p2 69 (by decide) (by decide))
  have i12 := g3'.i (k := 12) (by decide) (by decide)
  have i13 := g3'.i (k := 13) (by decide) (by decide)
  have b31 := g3'.a (k := 31) (by decide) (by decide)
  have b35 := g3'.a (k := 35) (by decide) (by decide)
  have b30 := g3'.f 30 (by decide) (by decide)
  refine toy_140 (by decide) F3 X1 X2 g3'.b (by omega) ?_
  intro F4 hb4 g e4 e5 e6 e7 e8 e9 e11 e12 e13 e14 e15 a25 a26 a27 a31 a35 a39 a40 a41
  have hG4 : gr [4, 6, 7, 8, 9, 39] F F4 := (g3'.mono (by decide)).trans (gr_mk (W := [39]) hb4 g (by decide) (by omega) (by omega)) (by decide)
  refine ⟨F4, rfl, rfl, hG4.mono (by decide), pk_of hP hG4 (by decide) (fun z => pj_of hJ hG4 (by decide) (by rw [a31, a35, b31, b35, e13, i13]; exact j6)), fun z => ?_, fun L x hm hx => ?_, fun L x T hm hx hT z => ?_, ?_⟩
  · have := hR2 (by omega)
    omega
  · obtain ⟨x1, x2, x3, x4, x5⟩ := x
    obtain ⟨r1, r2, r3, r4, r5, r6⟩ := hx
    have r1 : tn F = x1 := r1
    subst r1
    rw [sOne_s (by omega)]
    refine an_bind (an_mono (hA L x5 hm r2 (by omega) r6) e6 e7 (fun q j => jq_dst j e4 e8 e9)) (nop_same rfl rfl) (fun hz q j => an_ok rfl hz ?_)
    obtain ⟨q1, q2, q3⟩ := j
    refine ⟨q1, q2, ?_, ?_, nmr_eq r5 ((g 30 (by decide) (by decide)).trans b30) (by omega), q3⟩
    · show ((sy_ai F4 31).getD (sy_i F4 12).toInt.toNat 0).toInt = _
      rw [a31, e12, i12, b31]
      exact r3
    · show ((sy_ai F4 35).getD (sy_i F4 12).toInt.toNat 0).toInt = _
      rw [a35, e12, i12, b35]
      exact r4
  · obtain ⟨t1, t2, t4, t5, t7, t6⟩ := hT
    have es : sdf F4 = sdf F := by unfold sdf; rw [e12, i12]
    rw [tU_1 hk]
    refine ⟨r3_eq t1 es ((nz_fa (g 31 (by decide) (by decide))).trans (g3'.a (k := 31) (by decide) (by decide))) ((nz_fa (g 32 (by decide) (by decide))).trans (g3'.a (k := 32) (by decide) (by decide))) ((nz_fa (g 33 (by decide) (by decide))).trans (g3'.a (k := 33) (by decide) (by decide))) ((nz_fa (g 34 (by decide) (by decide))).trans (g3'.a (k := 34) (by decide) (by decide))), r3_eq t2 es ((nz_fa (g 35 (by decide) (by decide))).trans (g3'.a (k := 35) (by decide) (by decide))) ((nz_fa (g 36 (by decide) (by decide))).trans (g3'.a (k := 36) (by decide) (by decide))) ((nz_fa (g 37 (by decide) (by decide))).trans (g3'.a (k := 37) (by decide) (by decide))) ((nz_fa (g 38 (by decide) (by decide))).trans (g3'.a (k := 38) (by decide) (by decide))), ?_, by rw [es]; exact (ix_eq ((nz_fa (g 40 (by decide) (by decide))).trans (g3'.a (k := 40) (by decide) (by decide))) (sdf F)).trans t5, by rw [es]; exact (ix_eq ((nz_fa (g 41 (by decide) (by decide))).trans (g3'.a (k := 41) (by decide) (by decide))) (sdf F)).trans t7, fun k hk6 => rLw_eq (t6 k hk6) es ((nz_fa (g 42 (by decide) (by decide))).trans (g3'.a (k := 42) (by decide) (by decide))) ((nz_fa (g 43 (by decide) (by decide))).trans (g3'.a (k := 43) (by decide) (by decide))) ((nz_fa (g 44 (by decide) (by decide))).trans (g3'.a (k := 44) (by decide) (by decide))) ((nz_fa (g 45 (by decide) (by decide))).trans (g3'.a (k := 45) (by decide) (by decide))) ((nz_fa (g 46 (by decide) (by decide))).trans (g3'.a (k := 46) (by decide) (by decide))) ((nz_fa (g 47 (by decide) (by decide))).trans (g3'.a (k := 47) (by decide) (by decide))) ((nz_fa (g 48 (by decide) (by decide))).trans (g3'.a (k := 48) (by decide) (by decide))) ((nz_fa (g 49 (by decide) (by decide))).trans (g3'.a (k := 49) (by decide) (by decide))) ((nz_fa (g 50 (by decide) (by decide))).trans (g3'.a (k := 50) (by decide) (by decide)))⟩
    show ((sy_ai F4 39).getD (sdf F4) 0).toInt = _
    rw [es, a39, jm_upd_at, if_pos (by unfold sdf; omega), zz_i p3, hx0 (by omega), vf_eq (g0 27 (by decide)), tn_eq (nz_fi (g0 4 (by decide)))]
  · have eo : ∀ q, q < 69 → q ∉ ([4, 6, 7, 8, 9, 39] : List Nat) → F4 q = F q := fun q hq hn => hG4.f q hq hn
    have ea : ∀ q, q < 69 → q ∉ ([4, 6, 7, 8, 9, 39] : List Nat) → ∀ i : Nat, ix F4 q i = ix F q i := fun q hq hn i => ix_eq (nz_fa (eo q hq hn)) i
    have eu : ∀ i : Nat, (i : Int) ≠ (sy_i F 12).toInt → ix F4 39 i = ix F 39 i := fun i hi => by
      unfold ix
      rw [a39, jm_upd_at, if_neg (by omega), g3'.a (k := 39) (by decide) (by decide)]
    exact ⟨eo 12 (by decide) (by decide), eo 11 (by decide) (by decide), fun i hi => ⟨ea 31 (by decide) (by decide) i, ea 35 (by decide) (by decide) i, eu i hi, ea 40 (by decide) (by decide) i, ea 41 (by decide) (by decide) i⟩, fun i _ => ⟨ea 32 (by decide) (by decide) i, ea 33 (by decide) (by decide) i, ea 34 (by decide) (by decide) i⟩, fun i _ => ⟨ea 36 (by decide) (by decide) i, ea 37 (by decide) (by decide) i, ea 38 (by decide) (by decide) i⟩, fun i _ => ⟨ea 42 (by decide) (by decide) i, ea 43 (by decide) (by decide) i⟩, fun b _ => s5_same (nz_fa (eo 44 (by decide) (by decide))) (nz_fa (eo 45 (by decide) (by decide))) (nz_fa (eo 46 (by decide) (by decide))) (nz_fa (eo 47 (by decide) (by decide))) (nz_fa (eo 48 (by decide) (by decide))) b, fun i _ => ⟨by rw [nz_fa (eo 49 (by decide) (by decide))], by rw [nz_fa (eo 50 (by decide) (by decide))]⟩⟩
theorem toz_156' (hP : pk F) (hf : (sy_i F 6).toInt = 0) (hk : kf F (tn F) = 29) (F1 : Nat → sy_d) (g0 : ∀ j, j < 69 → F1 j = F j) (hb : iv_in F1 iv_B4) (hs : (sy_i F1 69).toInt = (sy_i F 12).toInt) :
    hd_W Ls xs 7 jm_M154 (toz_Q F X1 X2) (156, sy_dL F1 [some (.inl (.ref 1000)), none], sy_dS F1 [.inl (.int 99), .inl (.int 0), .inl (.ref 1000), .inr (.inl 69), .inl (.ref 1018)], sy_dh F1 X1 X2 (iv_H 4), 0, 0) := by
  have hJ := hP.2.2.2 hf
  obtain ⟨j1, j2, j3, j4, j5, j6, j7⟩ := id hJ
  have c12 := nz_bx hP.1 (k := 12) (lo := 0) (hi := 1) rfl
  refine hd_calI (R := fun x F' => iR ((99 : Int32)).toInt F1 F' ∧ ((sy_i F' 6).toInt = 0 → x.toInt = vf F1 (tn F1 + 1))) (nh := 69) (nv := 70) (s := 4) (s1 := 4) (d1 := 4) (M1 := jm_M153) (As := [.inl (.ref 1000), .inl (.int 0), .inl (.int 99)]) (rest := [.inr (.inl 69), .inl (.ref 1018)]) jm_ok154 rfl rfl (by decide) (by decide +kernel) (tiz_T F1 X1 X2 hb _) (fun F3 F' x hR0 p1 p2 p3 => ?_)
  obtain ⟨hR00, hx0⟩ := hR0
  have hR : iR 99 F1 F' := hR00
  have k6 := nz_fi (p1 6 (by decide))
  obtain ⟨g3', n3, hR2, hA⟩ := iR_src (iR_dst hR p1) g0
  have k69 := nz_fi (p2 69 (by decide) (by decide))
  have i12 := g3'.i (k := 12) (by decide) (by decide)
  have i13 := g3'.i (k := 13) (by decide) (by decide)
  have b31 := g3'.a (k := 31) (by decide) (by decide)
  have b35 := g3'.a (k := 35) (by decide) (by decide)
  have b30 := g3'.f 30 (by decide) (by decide)
  refine toy_159 (by decide) F3 X1 X2 g3'.b (by omega) ?_
  intro F4 hb4 g e4 e5 e6 e7 e8 e9 e11 e12 e13 e14 e15 a25 a26 a27 a31 a35 a39 a40 a41
  have hG4 : gr [4, 6, 7, 8, 9, 40] F F4 := (g3'.mono (by decide)).trans (gr_mk (W := [40]) hb4 g (by decide) (by omega) (by omega)) (by decide)
  refine ⟨F4, rfl, rfl, hG4.mono (by decide), pk_of hP hG4 (by decide) (fun z => pj_of hJ hG4 (by decide) (by rw [a31, a35, b31, b35, e13, i13]; exact j6)), fun z => ?_, fun L x hm hx => ?_, fun L x T hm hx hT z => ?_, ?_⟩
  · have := hR2 (by omega)
    omega
  · obtain ⟨x1, x2, x3, x4, x5⟩ := x
    obtain ⟨r1, r2, r3, r4, r5, r6⟩ := hx
    have r1 : tn F = x1 := r1
    subst r1
    rw [sOne_s (by omega)]
    refine an_bind (an_mono (hA L x5 hm r2 (by omega) r6) e6 e7 (fun q j => jq_dst j e4 e8 e9)) (nop_same rfl rfl) (fun hz q j => an_ok rfl hz ?_)
    obtain ⟨q1, q2, q3⟩ := j
    refine ⟨q1, q2, ?_, ?_, nmr_eq r5 ((g 30 (by decide) (by decide)).trans b30) (by omega), q3⟩
    · show ((sy_ai F4 31).getD (sy_i F4 12).toInt.toNat 0).toInt = _
      rw [a31, e12, i12, b31]
      exact r3
    · show ((sy_ai F4 35).getD (sy_i F4 12).toInt.toNat 0).toInt = _
      rw [a35, e12, i12, b35]
      exact r4
  · obtain ⟨t1, t2, t4, t5, t7, t6⟩ := hT
    have es : sdf F4 = sdf F := by unfold sdf; rw [e12, i12]
    rw [tU_2 hk]
    refine ⟨r3_eq t1 es ((nz_fa (g 31 (by decide) (by decide))).trans (g3'.a (k := 31) (by decide) (by decide))) ((nz_fa (g 32 (by decide) (by decide))).trans (g3'.a (k := 32) (by decide) (by decide))) ((nz_fa (g 33 (by decide) (by decide))).trans (g3'.a (k := 33) (by decide) (by decide))) ((nz_fa (g 34 (by decide) (by decide))).trans (g3'.a (k := 34) (by decide) (by decide))), r3_eq t2 es ((nz_fa (g 35 (by decide) (by decide))).trans (g3'.a (k := 35) (by decide) (by decide))) ((nz_fa (g 36 (by decide) (by decide))).trans (g3'.a (k := 36) (by decide) (by decide))) ((nz_fa (g 37 (by decide) (by decide))).trans (g3'.a (k := 37) (by decide) (by decide))) ((nz_fa (g 38 (by decide) (by decide))).trans (g3'.a (k := 38) (by decide) (by decide))), by rw [es]; exact (ix_eq ((nz_fa (g 39 (by decide) (by decide))).trans (g3'.a (k := 39) (by decide) (by decide))) (sdf F)).trans t4, ?_, by rw [es]; exact (ix_eq ((nz_fa (g 41 (by decide) (by decide))).trans (g3'.a (k := 41) (by decide) (by decide))) (sdf F)).trans t7, fun k hk6 => rLw_eq (t6 k hk6) es ((nz_fa (g 42 (by decide) (by decide))).trans (g3'.a (k := 42) (by decide) (by decide))) ((nz_fa (g 43 (by decide) (by decide))).trans (g3'.a (k := 43) (by decide) (by decide))) ((nz_fa (g 44 (by decide) (by decide))).trans (g3'.a (k := 44) (by decide) (by decide))) ((nz_fa (g 45 (by decide) (by decide))).trans (g3'.a (k := 45) (by decide) (by decide))) ((nz_fa (g 46 (by decide) (by decide))).trans (g3'.a (k := 46) (by decide) (by decide))) ((nz_fa (g 47 (by decide) (by decide))).trans (g3'.a (k := 47) (by decide) (by decide))) ((nz_fa (g 48 (by decide) (by decide))).trans (g3'.a (k := 48) (by decide) (by decide))) ((nz_fa (g 49 (by decide) (by decide))).trans (g3'.a (k := 49) (by decide) (by decide))) ((nz_fa (g 50 (by decide) (by decide))).trans (g3'.a (k := 50) (by decide) (by decide)))⟩
    show ((sy_ai F4 40).getD (sdf F4) 0).toInt = _
    rw [es, a40, jm_upd_at, if_pos (by unfold sdf; omega), zz_i p3, hx0 (by omega), vf_eq (g0 27 (by decide)), tn_eq (nz_fi (g0 4 (by decide)))]
  · have eo : ∀ q, q < 69 → q ∉ ([4, 6, 7, 8, 9, 40] : List Nat) → F4 q = F q := fun q hq hn => hG4.f q hq hn
    have ea : ∀ q, q < 69 → q ∉ ([4, 6, 7, 8, 9, 40] : List Nat) → ∀ i : Nat, ix F4 q i = ix F q i := fun q hq hn i => ix_eq (nz_fa (eo q hq hn)) i
    have eu : ∀ i : Nat, (i : Int) ≠ (sy_i F 12).toInt → ix F4 40 i = ix F 40 i := fun i hi => by
      unfold ix
      rw [a40, jm_upd_at, if_neg (by omega), g3'.a (k := 40) (by decide) (by decide)]
    exact ⟨eo 12 (by decide) (by decide), eo 11 (by decide) (by decide), fun i hi => ⟨ea 31 (by decide) (by decide) i, ea 35 (by decide) (by decide) i, ea 39 (by decide) (by decide) i, eu i hi, ea 41 (by decide) (by decide) i⟩, fun i _ => ⟨ea 32 (by decide) (by decide) i, ea 33 (by decide) (by decide) i, ea 34 (by decide) (by decide) i⟩, fun i _ => ⟨ea 36 (by decide) (by decide) i, ea 37 (by decide) (by decide) i, ea 38 (by decide) (by decide) i⟩, fun i _ => ⟨ea 42 (by decide) (by decide) i, ea 43 (by decide) (by decide) i⟩, fun b _ => s5_same (nz_fa (eo 44 (by decide) (by decide))) (nz_fa (eo 45 (by decide) (by decide))) (nz_fa (eo 46 (by decide) (by decide))) (nz_fa (eo 47 (by decide) (by decide))) (nz_fa (eo 48 (by decide) (by decide))) b, fun i _ => ⟨by rw [nz_fa (eo 49 (by decide) (by decide))], by rw [nz_fa (eo 50 (by decide) (by decide))]⟩⟩
theorem toz_176' (hP : pk F) (hf : (sy_i F 6).toInt = 0) (hk : kf F (tn F) = 30) (F1 : Nat → sy_d) (g0 : ∀ j, j < 69 → F1 j = F j) (hb : iv_in F1 iv_B4) (hs : (sy_i F1 69).toInt = (sy_i F 12).toInt) :
    hd_W Ls xs 7 jm_M154 (toz_Q F X1 X2) (176, sy_dL F1 [some (.inl (.ref 1000)), none], sy_dS F1 [.inl (.int 9999), .inl (.int 0), .inl (.ref 1000), .inr (.inl 69), .inl (.ref 1019)], sy_dh F1 X1 X2 (iv_H 4), 0, 0) := by
  have hJ := hP.2.2.2 hf
  obtain ⟨j1, j2, j3, j4, j5, j6, j7⟩ := id hJ
  have c12 := nz_bx hP.1 (k := 12) (lo := 0) (hi := 1) rfl
  refine hd_calI (R := fun x F' => iR ((9999 : Int32)).toInt F1 F' ∧ ((sy_i F' 6).toInt = 0 → x.toInt = vf F1 (tn F1 + 1))) (nh := 69) (nv := 70) (s := 4) (s1 := 4) (d1 := 4) (M1 := jm_M153) (As := [.inl (.ref 1000), .inl (.int 0), .inl (.int 9999)]) (rest := [.inr (.inl 69), .inl (.ref 1019)]) jm_ok154 rfl rfl (by decide) (by decide +kernel) (tiz_T F1 X1 X2 hb _) (fun F3 F' x hR0 p1 p2 p3 => ?_)
  obtain ⟨hR00, hx0⟩ := hR0
  have hR : iR 9999 F1 F' := hR00
  have k6 := nz_fi (p1 6 (by decide))
  obtain ⟨g3', n3, hR2, hA⟩ := iR_src (iR_dst hR p1) g0
  have k69 := nz_fi (p2 69 (by decide) (by decide))
  have i12 := g3'.i (k := 12) (by decide) (by decide)
  have i13 := g3'.i (k := 13) (by decide) (by decide)
  have b31 := g3'.a (k := 31) (by decide) (by decide)
  have b35 := g3'.a (k := 35) (by decide) (by decide)
  have b30 := g3'.f 30 (by decide) (by decide)
  refine toy_179 (by decide) F3 X1 X2 g3'.b (by omega) ?_
  intro F4 hb4 g e4 e5 e6 e7 e8 e9 e11 e12 e13 e14 e15 a25 a26 a27 a31 a35 a39 a40 a41
  have hG4 : gr [4, 6, 7, 8, 9, 41] F F4 := (g3'.mono (by decide)).trans (gr_mk (W := [41]) hb4 g (by decide) (by omega) (by omega)) (by decide)
  refine ⟨F4, rfl, rfl, hG4.mono (by decide), pk_of hP hG4 (by decide) (fun z => pj_of hJ hG4 (by decide) (by rw [a31, a35, b31, b35, e13, i13]; exact j6)), fun z => ?_, fun L x hm hx => ?_, fun L x T hm hx hT z => ?_, ?_⟩
  · have := hR2 (by omega)
    omega
  · obtain ⟨x1, x2, x3, x4, x5⟩ := x
    obtain ⟨r1, r2, r3, r4, r5, r6⟩ := hx
    have r1 : tn F = x1 := r1
    subst r1
    rw [sOne_s3 (by omega)]
    refine an_bind (an_mono (hA L x5 hm r2 (by omega) r6) e6 e7 (fun q j => jq_dst j e4 e8 e9)) (nop_same rfl rfl) (fun hz q j => an_ok rfl hz ?_)
    obtain ⟨q1, q2, q3⟩ := j
    refine ⟨q1, q2, ?_, ?_, nmr_eq r5 ((g 30 (by decide) (by decide)).trans b30) (by omega), q3⟩
    · show ((sy_ai F4 31).getD (sy_i F4 12).toInt.toNat 0).toInt = _
      rw [a31, e12, i12, b31]
      exact r3
    · show ((sy_ai F4 35).getD (sy_i F4 12).toInt.toNat 0).toInt = _
      rw [a35, e12, i12, b35]
      exact r4
  · obtain ⟨t1, t2, t4, t5, t7, t6⟩ := hT
    have es : sdf F4 = sdf F := by unfold sdf; rw [e12, i12]
    rw [tU_3 hk]
    refine ⟨r3_eq t1 es ((nz_fa (g 31 (by decide) (by decide))).trans (g3'.a (k := 31) (by decide) (by decide))) ((nz_fa (g 32 (by decide) (by decide))).trans (g3'.a (k := 32) (by decide) (by decide))) ((nz_fa (g 33 (by decide) (by decide))).trans (g3'.a (k := 33) (by decide) (by decide))) ((nz_fa (g 34 (by decide) (by decide))).trans (g3'.a (k := 34) (by decide) (by decide))), r3_eq t2 es ((nz_fa (g 35 (by decide) (by decide))).trans (g3'.a (k := 35) (by decide) (by decide))) ((nz_fa (g 36 (by decide) (by decide))).trans (g3'.a (k := 36) (by decide) (by decide))) ((nz_fa (g 37 (by decide) (by decide))).trans (g3'.a (k := 37) (by decide) (by decide))) ((nz_fa (g 38 (by decide) (by decide))).trans (g3'.a (k := 38) (by decide) (by decide))), by rw [es]; exact (ix_eq ((nz_fa (g 39 (by decide) (by decide))).trans (g3'.a (k := 39) (by decide) (by decide))) (sdf F)).trans t4, by rw [es]; exact (ix_eq ((nz_fa (g 40 (by decide) (by decide))).trans (g3'.a (k := 40) (by decide) (by decide))) (sdf F)).trans t5, ?_, fun k hk6 => rLw_eq (t6 k hk6) es ((nz_fa (g 42 (by decide) (by decide))).trans (g3'.a (k := 42) (by decide) (by decide))) ((nz_fa (g 43 (by decide) (by decide))).trans (g3'.a (k := 43) (by decide) (by decide))) ((nz_fa (g 44 (by decide) (by decide))).trans (g3'.a (k := 44) (by decide) (by decide))) ((nz_fa (g 45 (by decide) (by decide))).trans (g3'.a (k := 45) (by decide) (by decide))) ((nz_fa (g 46 (by decide) (by decide))).trans (g3'.a (k := 46) (by decide) (by decide))) ((nz_fa (g 47 (by decide) (by decide))).trans (g3'.a (k := 47) (by decide) (by decide))) ((nz_fa (g 48 (by decide) (by decide))).trans (g3'.a (k := 48) (by decide) (by decide))) ((nz_fa (g 49 (by decide) (by decide))).trans (g3'.a (k := 49) (by decide) (by decide))) ((nz_fa (g 50 (by decide) (by decide))).trans (g3'.a (k := 50) (by decide) (by decide)))⟩
    show ((sy_ai F4 41).getD (sdf F4) 0).toInt = _
    rw [es, a41, jm_upd_at, if_pos (by unfold sdf; omega), zz_i p3, hx0 (by omega), vf_eq (g0 27 (by decide)), tn_eq (nz_fi (g0 4 (by decide)))]
  · have eo : ∀ q, q < 69 → q ∉ ([4, 6, 7, 8, 9, 41] : List Nat) → F4 q = F q := fun q hq hn => hG4.f q hq hn
    have ea : ∀ q, q < 69 → q ∉ ([4, 6, 7, 8, 9, 41] : List Nat) → ∀ i : Nat, ix F4 q i = ix F q i := fun q hq hn i => ix_eq (nz_fa (eo q hq hn)) i
    have eu : ∀ i : Nat, (i : Int) ≠ (sy_i F 12).toInt → ix F4 41 i = ix F 41 i := fun i hi => by
      unfold ix
      rw [a41, jm_upd_at, if_neg (by omega), g3'.a (k := 41) (by decide) (by decide)]
    exact ⟨eo 12 (by decide) (by decide), eo 11 (by decide) (by decide), fun i hi => ⟨ea 31 (by decide) (by decide) i, ea 35 (by decide) (by decide) i, ea 39 (by decide) (by decide) i, ea 40 (by decide) (by decide) i, eu i hi⟩, fun i _ => ⟨ea 32 (by decide) (by decide) i, ea 33 (by decide) (by decide) i, ea 34 (by decide) (by decide) i⟩, fun i _ => ⟨ea 36 (by decide) (by decide) i, ea 37 (by decide) (by decide) i, ea 38 (by decide) (by decide) i⟩, fun i _ => ⟨ea 42 (by decide) (by decide) i, ea 43 (by decide) (by decide) i⟩, fun b _ => s5_same (nz_fa (eo 44 (by decide) (by decide))) (nz_fa (eo 45 (by decide) (by decide))) (nz_fa (eo 46 (by decide) (by decide))) (nz_fa (eo 47 (by decide) (by decide))) (nz_fa (eo 48 (by decide) (by decide))) b, fun i _ => ⟨by rw [nz_fa (eo 49 (by decide) (by decide))], by rw [nz_fa (eo 50 (by decide) (by decide))]⟩⟩
theorem toz_T (hP : pk F) (hf : (sy_i F 6).toInt = 0) : jm_T Ls xs 7 jm_M154 [.ref 1000] (sy_dh F X1 X2 (iv_H 4)) 0 0 (toz_Q F X1 X2) := by
  have c4 := nz_bx hP.1 (k := 4) (lo := 0) (hi := 400) rfl
  have eK : kf F (tn F) = ((sy_ai F 25).getD (sy_i F 4).toInt.toNat 0).toInt := rfl
  have eP : pf F (tn F) = ((sy_ai F 26).getD (sy_i F 4).toInt.toNat 0).toInt := rfl
  have eF : FRf F = ((sy_ai F 31).getD (sy_i F 12).toInt.toNat 0).toInt := rfl
  have eB : BUf F = ((sy_ai F 35).getD (sy_i F 12).toInt.toNat 0).toInt := rfl
  have et : (tn F : Int) = (sy_i F 4).toInt := by unfold tn; omega
  refine nz_T0 jm_ok154 (by decide) (toy_0 (by decide) F X1 X2 hP.1 ?_ ?_ ?_ ?_ ?_ ?_ ?_ ?_ ?_ ?_ ?_ ?_ ?_ ?_ ?_ ?_ ?_ ?_ ?_ ?_ ?_ ?_ ?_ ?_ ?_ ?_ ?_ ?_ ?_ ?_ ?_ ?_ ?_ ?_ ?_)
  all_goals intros
  all_goals first
    | (exfalso; omega)
    | (rename_i F1 hb g e4 e5 e6 e7 e8 e9 e11 e12 e13 e14 e15 a25 a26 a27 a31 a35 a39 a40 a41
       exact toz_fault X1 X2 F hP hb g (by decide) (by omega) e6 (by decide) (e7.trans eP.symm) (fun fr bu nm w hfr hbu => sOne_1 (by omega)))
    | (rename_i F1 hb g e4 e5 e6 e7 e8 e9 e11 e12 e13 e14 e15 a25 a26 a27 a31 a35 a39 a40 a41
       exact toz_fault X1 X2 F hP hb g (by decide) (by omega) e6 (by decide) (e7.trans eP.symm) (fun fr bu nm w hfr hbu => by rw [sOne_f (by omega), sF_7 (by omega)]))
    | (rename_i F1 hb g e4 e5 e6 e7 e8 e9 e11 e12 e13 e14 e15 a25 a26 a27 a31 a35 a39 a40 a41
       exact toz_fault X1 X2 F hP hb g (by decide) (by omega) e6 (by decide) (e7.trans eP.symm) (fun fr bu nm w hfr hbu => by rw [sOne_b (by omega), sBu_4 (by omega)]))
    | (rename_i F1 hb g e4 e5 e6 e7 e8 e9 e11 e12 e13 e14 e15 a25 a26 a27 a31 a35 a39 a40 a41
       exact toz_fault X1 X2 F hP hb g (by decide) (by omega) e6 (by decide) (e7.trans eP.symm) (fun fr bu nm w hfr hbu => by rw [sOne_f (by omega), sF_n (by omega), sG_4 (by omega)]; rfl))
    | (rename_i F1 hb g e4 e5 e6 e7 e8 e9 e11 e12 e13 e14 e15 a25 a26 a27 a31 a35 a39 a40 a41
       exact toz_fault X1 X2 F hP hb g (by decide) (by omega) e6 (by decide) (e7.trans eP.symm) (fun fr bu nm w hfr hbu => by rw [sOne_b (by omega), sBu_n (by omega), sG_4 (by omega)]; rfl))
    | (rename_i F1 hb g e4 e5 e6 e7 e8 e9 e11 e12 e13 e14 e15 a25 a26 a27 a31 a35 a39 a40 a41
       exact toz_91' X1 X2 F hP hf (by omega) F1 (gr_mk hb g (by decide) (by omega) (by omega)) (by omega) e4 (by omega) (by omega) e8 e9)
    | (rename_i F1 hb g e4 e5 e6 e7 e8 e9 e11 e12 e13 e14 e15 a25 a26 a27 a31 a35 a39 a40 a41
       exact toz_119' X1 X2 F hP hf (by omega) F1 (gr_mk hb g (by decide) (by omega) (by omega)) (by omega) e4 (by omega) (by omega) e8 e9)
    | (rename_i F1 hb g e4 e5 e6 e7 e8 e9 e11 e12 e13 e14 e15 a25 a26 a27 a31 a35 a39 a40 a41 e69
       exact toz_233' X1 X2 F hP hf (by omega) F1 (gr_mk hb g (by decide) (by omega) (by omega)) (by omega) (by omega) (fun _ => by omega) (fun _ => ⟨by omega, by omega, by omega⟩) e8 e9)
    | (rename_i F1 hb g e4 e5 e6 e7 e8 e9 e11 e12 e13 e14 e15 a25 a26 a27 a31 a35 a39 a40 a41 e69
       exact toz_137' X1 X2 F hP hf (by omega) F1 (fun j hj => g j hj (by simp)) hb e69)
    | (rename_i F1 hb g e4 e5 e6 e7 e8 e9 e11 e12 e13 e14 e15 a25 a26 a27 a31 a35 a39 a40 a41 e69
       exact toz_156' X1 X2 F hP hf (by omega) F1 (fun j hj => g j hj (by simp)) hb e69)
    | (rename_i F1 hb g e4 e5 e6 e7 e8 e9 e11 e12 e13 e14 e15 a25 a26 a27 a31 a35 a39 a40 a41 e69
       exact toz_176' X1 X2 F hP hf (by omega) F1 (fun j hj => g j hj (by simp)) hb e69)
end TOZ
end
section
/-! ===== the reference reads: the text's content ===== -/
noncomputable def T0 : tX := ([], [], 10, 6, 0, fun _ => none)
noncomputable def zRun (K V : Nat → Int) (N : Nat → Int64) : Nat → sT → tX → sE ⊕ (sT × tX)
  | 0, x, T => .inr (x, T)
  | n + 1, x, T => if K x.1 = 0 then .inr (x, T) else sB (sOne K V N x) (fun x' => zRun K V N n x' (tU K V x.1 T))
noncomputable def prT (r : sE ⊕ (sT × tX)) : sE ⊕ sT := sB r (fun p => .inr p.1)
noncomputable def cnT (r : sE ⊕ (sT × tX)) : tX := match r with
  | .inl _ => T0
  | .inr p => p.2
theorem prT_Run (K V : Nat → Int) (N : Nat → Int64) : ∀ (n : Nat) (x : sT) (T : tX), prT (zRun K V N n x T) = sRun K V N n x
  | 0, x, T => rfl
  | n + 1, x, T => by
    show prT (if K x.1 = 0 then _ else _) = if K x.1 = 0 then _ else _
    by_cases h : K x.1 = 0
    · rw [if_pos h, if_pos h]; rfl
    · rw [if_neg h, if_neg h]
      cases sOne K V N x with
      | inl e => rfl
      | inr y => exact prT_Run K V N n y _
/-- the live side's content -/
noncomputable def fl (F : Nat → sy_d) : Nat → sy_d := fun j => if j = 12 then F 11 else F j
noncomputable def rXl (T : tX) (F : Nat → sy_d) : Prop := rX T (fl F)
theorem fl_a {F : Nat → sy_d} {a : Nat} (h : a ≠ 12) : sy_ai (fl F) a = sy_ai F a := nz_fa (show fl F a = F a by unfold fl; rw [if_neg h])
theorem fl_s {F : Nat → sy_d} : sdf (fl F) = (sy_i F 11).toInt.toNat := by
  have e : fl F 12 = F 11 := by unfold fl; rw [if_pos rfl]
  unfold sdf sy_i
  rw [e]
theorem fl_ix {F : Nat → sy_d} {a i : Nat} (h : a ≠ 12) : ix (fl F) a i = ix F a i := ix_eq (fl_a h) i
theorem rX_eq {T : tX} {F F1 : Nat → sy_d} (h : rX T F) (es : sdf F1 = sdf F) (e : ∀ a, 31 ≤ a → a ≤ 50 → sy_ai F1 a = sy_ai F a) : rX T F1 := by
  obtain ⟨t1, t2, t4, t5, t7, t6⟩ := h
  refine ⟨r3_eq t1 es (e 31 (by decide) (by decide)) (e 32 (by decide) (by decide)) (e 33 (by decide) (by decide)) (e 34 (by decide) (by decide)), r3_eq t2 es (e 35 (by decide) (by decide)) (e 36 (by decide) (by decide)) (e 37 (by decide) (by decide)) (e 38 (by decide) (by decide)), by rw [es]; exact (ix_eq (e 39 (by decide) (by decide)) _).trans t4, by rw [es]; exact (ix_eq (e 40 (by decide) (by decide)) _).trans t5, by rw [es]; exact (ix_eq (e 41 (by decide) (by decide)) _).trans t7, fun k hk => rLw_eq (t6 k hk) es (e 42 (by decide) (by decide)) (e 43 (by decide) (by decide)) (e 44 (by decide) (by decide)) (e 45 (by decide) (by decide)) (e 46 (by decide) (by decide)) (e 47 (by decide) (by decide)) (e 48 (by decide) (by decide)) (e 49 (by decide) (by decide)) (e 50 (by decide) (by decide))⟩
theorem rXl_eq {T : tX} {F F1 : Nat → sy_d} (h : rXl T F) (e11 : (sy_i F1 11).toInt = (sy_i F 11).toInt) (e : ∀ a, 31 ≤ a → a ≤ 50 → sy_ai F1 a = sy_ai F a) : rXl T F1 := rX_eq h (by rw [fl_s, fl_s, e11]) (fun a h1 h2 => by rw [fl_a (by omega), fl_a (by omega)]; exact e a h1 h2)
/-- the side that was read becomes the live one -/
theorem rXl_of {T : tX} {F F1 : Nat → sy_d} (h : rX T F) (e11 : (sy_i F1 11).toInt = (sy_i F 12).toInt) (e : ∀ a, 31 ≤ a → a ≤ 50 → sy_ai F1 a = sy_ai F a) : rXl T F1 := rX_eq h (by rw [fl_s, e11]; rfl) (fun a h1 h2 => by rw [fl_a (by omega)]; exact e a h1 h2)
theorem r3_o {F F1 : Nat → sy_d} {c a w : Nat} {l : List t3} (h : r3_ F c a w l) (es : sdf F1 = sdf F) (hl : ix F c (sdf F) ≤ w) (hc : ix F1 c (sdf F) = ix F c (sdf F)) (ho : ∀ i : Nat, w * sdf F ≤ i → i < w * sdf F + w → ix F1 a i = ix F a i ∧ ix F1 (a + 1) i = ix F (a + 1) i ∧ ix F1 (a + 2) i = ix F (a + 2) i) : r3_ F1 c a w l := by
  obtain ⟨h1, h2⟩ := h
  refine ⟨by rw [es, hc]; exact h1, fun i v hv => ?_⟩
  have hi := (List.getElem?_eq_some_iff.mp hv).1
  obtain ⟨y1, y2, y3⟩ := ho (w * sdf F + i) (by omega) (by omega)
  rw [es, y1, y2, y3]
  exact h2 i v hv
theorem cut_o {F F1 : Nat → sy_d} {x y lo hi : Int} (h0 : lo ≤ x) (hl : 0 ≤ lo) (hy : y ≤ hi) (h : ∀ i : Nat, lo ≤ i → (i : Int) < hi → (sy_ai F1 49).getD i 0 = (sy_ai F 49).getD i 0 ∧ (sy_ai F1 50).getD i 0 = (sy_ai F 50).getD i 0) : cut_ F1 x y = cut_ F x y := by
  unfold cut_
  exact clf_eq _ (fun i h1 h2 => h i (by omega) (by omega))
theorem bq_o {F F1 : Nat → sy_d} {sd b : Nat} {nc : Int} (h : rp_br F sd nc b) (hs : s5 F F1 b) (hc : ∀ i : Nat, 420 * (sd : Int) ≤ i → (i : Int) < nc → (sy_ai F1 49).getD i 0 = (sy_ai F 49).getD i 0 ∧ (sy_ai F1 50).getD i 0 = (sy_ai F 50).getD i 0) : bq F1 b = bq F b := by
  obtain ⟨s1, s2, s3, s4, s6⟩ := hs
  obtain ⟨h1, h2⟩ := h
  unfold bq ix
  rw [s1, s2, s3, s4, s6, cut_o (F := F) (x := ((sy_ai F 47).getD b 0).toInt) h2.1 (by omega) h2.2.1 hc]
  by_cases q : (sy_ai F 44).getD b 0 = 1
  · obtain ⟨y1, y2⟩ := h1 q
    rw [if_pos q, if_pos q, cut_o (F := F) (x := ((sy_ai F 45).getD b 0).toInt) y1.1 (by omega) y1.2.1 hc, cut_o (F := F) (x := ((sy_ai F 46).getD b 0).toInt) y2.1 (by omega) y2.2.1 hc]
  · rw [if_neg q, if_neg q]
/-- while the other side is read, the live one stays -/
theorem oth_live {T : tX} {F F1 : Nat → sy_d} (hB : iv_in F iv_B4) (h12 : (sy_i F 12).toInt = 1 - (sy_i F 11).toInt) (hJ : jm_rpn F) (ho : oth F F1) (h : rXl T F) : rXl T F1 := by
  obtain ⟨o12, o11, oa, ob, oc, od, oe, of_⟩ := ho
  have c11 := nz_bx hB (k := 11) (lo := 0) (hi := 1) rfl
  have b31 := nz_ba hB (k := 31) (lo := 0) (hi := 7) rfl (sy_i F 11).toInt.toNat
  have b35 := nz_ba hB (k := 35) (lo := 0) (hi := 4) rfl (sy_i F 11).toInt.toNat
  have es : sdf (fl F1) = sdf (fl F) := by rw [fl_s, fl_s, nz_fi o11]
  obtain ⟨t1, t2, t4, t5, t7, t6⟩ := h
  have ea := oa (sy_i F 11).toInt.toNat (by omega)
  obtain ⟨e31, e35, e39, e40, e41⟩ := ea
  refine ⟨r3_o t1 es ?_ ?_ (fun i h1 h2 => ?_), r3_o t2 es ?_ ?_ (fun i h1 h2 => ?_), ?_, ?_, ?_, fun k hk => ?_⟩
  · rw [fl_s, fl_ix (by decide)]; exact b31.2
  · rw [fl_s, fl_ix (by decide), fl_ix (by decide)]; exact e31
  · rw [fl_s] at h1 h2
    rw [fl_ix (by decide), fl_ix (by decide), fl_ix (by decide), fl_ix (by decide), fl_ix (by decide), fl_ix (by decide)]
    exact ob i (by omega)
  · rw [fl_s, fl_ix (by decide)]; exact b35.2
  · rw [fl_s, fl_ix (by decide), fl_ix (by decide)]; exact e35
  · rw [fl_s] at h1 h2
    rw [fl_ix (by decide), fl_ix (by decide), fl_ix (by decide), fl_ix (by decide), fl_ix (by decide), fl_ix (by decide)]
    exact oc i (by omega)
  · rw [es, fl_s, fl_ix (by decide), e39, ← fl_ix (F := F) (by decide), ← fl_s]; exact t4
  · rw [es, fl_s, fl_ix (by decide), e40, ← fl_ix (F := F) (by decide), ← fl_s]; exact t5
  · rw [es, fl_s, fl_ix (by decide), e41, ← fl_ix (F := F) (by decide), ← fl_s]; exact t7
  · have hk6 := t6 k hk
    obtain ⟨y42, y43⟩ := od (6 * (sy_i F 11).toInt.toNat + k) (by omega)
    have z42 : ix (fl F1) 42 (6 * sdf (fl F1) + k) = ix (fl F) 42 (6 * sdf (fl F) + k) := by rw [es, fl_s, fl_ix (by decide), fl_ix (by decide)]; exact y42
    have z43 : ix (fl F1) 43 (6 * sdf (fl F1) + k) = ix (fl F) 43 (6 * sdf (fl F) + k) := by rw [es, fl_s, fl_ix (by decide), fl_ix (by decide)]; exact y43
    generalize T.2.2.2.2.2 k = o at hk6 ⊢
    cases o with
    | none =>
      show ix (fl F1) 42 _ = ix (fl F1) 43 _
      rw [z42, z43]
      exact hk6
    | some l =>
      obtain ⟨q1, q2⟩ := hk6
      refine ⟨by rw [z42, z43]; exact q1, ?_⟩
      rw [z42, z43, ← q2]
      refine bL_kp _ (fun b b1 b2 => ?_)
      have w42 : ix (fl F) 42 (6 * sdf (fl F) + k) = ix F 42 (6 * (sy_i F 11).toInt.toNat + k) := by rw [fl_s, fl_ix (by decide)]
      have w43 : ix (fl F) 43 (6 * sdf (fl F) + k) = ix F 43 (6 * (sy_i F 11).toInt.toNat + k) := by rw [fl_s, fl_ix (by decide)]
      rw [w42, w43] at b2
      rw [w42] at b1
      have hb42 := nz_ba hB (k := 42) (lo := 0) (hi := 260) rfl (6 * (sy_i F 11).toInt.toNat + k)
      have hb42 : 0 ≤ ix F 42 (6 * (sy_i F 11).toInt.toNat + k) := hb42.1
      obtain ⟨p1, p2⟩ := hJ k b hk (by show ix F 42 (6 * (sy_i F 11).toInt.toNat + k) ≤ b; omega) (by show (b : Int) < ix F 43 (6 * (sy_i F 11).toInt.toNat + k); omega)
      have hcl : ((sy_i F 11).toNatClampNeg : Int) = (sy_i F 11).toInt := by
        show (((sy_i F 11).toInt.toNat : Nat) : Int) = _
        omega
      have r : bq F1 b = bq F b := bq_o p2 (oe b (by omega)) (fun i h1 h2 => of_ i (by omega))
      have s1 : ∀ G : Nat → sy_d, bq (fl G) b = bq G b := fun G => by
        unfold bq ix cut_
        rw [fl_a (by decide), fl_a (by decide), fl_a (by decide), fl_a (by decide), fl_a (by decide), fl_a (by decide), fl_a (by decide)]
      rw [s1, s1]
      exact r
end
section
/-! ===== the reference reads: a plain text first ===== -/
theorem rez_45 {Ls : Nat} {xs : Nat → Int32} {d : Nat} {Q : Option Value → jm_h → Prop} (hd : 3 ≤ d) (F : Nat → sy_d) (X1 X2 : List jm_c) (hB : iv_in F iv_B4)
    (k0 : ∀ F1 : Nat → sy_d, iv_in F1 iv_B4 → (∀ j, j < 69 → j ∉ ([4, 5, 6, 8, 12, 13, 14, 15, 31, 35, 39, 40, 41, 42, 43] : List Nat) → F1 j = F j) → (sy_i F1 1).toInt = (sy_i F 1).toInt → (sy_i F1 2).toInt = (sy_i F 2).toInt → (sy_i F1 4).toInt = 0 → (sy_i F1 5).toInt = 0 → (sy_i F1 6).toInt = 0 → (sy_i F1 7).toInt = (sy_i F 7).toInt → (sy_i F1 8).toInt = 0 → (sy_i F1 9).toInt = (sy_i F 9).toInt → (sy_i F1 10).toInt = (sy_i F 10).toInt → (sy_i F1 11).toInt = (sy_i F 11).toInt → (sy_i F1 12).toInt = (1 - (sy_i F 11).toInt) → (sy_i F1 13).toInt = 0 → (sy_i F1 14).toInt = (130 * (1 - (sy_i F 11).toInt)) → (sy_i F1 15).toInt = (420 * (1 - (sy_i F 11).toInt)) → (sy_i F1 20).toInt = (sy_i F 20).toInt → (sy_i F1 21).toInt = (sy_i F 21).toInt → sy_ai F1 25 = sy_ai F 25 → sy_ai F1 26 = sy_ai F 26 → sy_ai F1 27 = sy_ai F 27 → sy_ai F1 31 = jm_upd (sy_ai F 31) ((1 - (sy_i F 11).toInt)).toNat ((0 : Int32)) → sy_ai F1 35 = jm_upd (sy_ai F 35) ((1 - (sy_i F 11).toInt)).toNat ((0 : Int32)) → sy_ai F1 67 = sy_ai F 67 → sy_ai F1 42 = jm_upd (jm_upd (jm_upd (jm_upd (jm_upd (jm_upd (sy_ai F 42) (((6 * (1 - (sy_i F 11).toInt)) + 0)).toNat ((0 : Int32))) (((6 * (1 - (sy_i F 11).toInt)) + 1)).toNat ((0 : Int32))) (((6 * (1 - (sy_i F 11).toInt)) + 2)).toNat ((0 : Int32))) (((6 * (1 - (sy_i F 11).toInt)) + 3)).toNat ((0 : Int32))) (((6 * (1 - (sy_i F 11).toInt)) + 4)).toNat ((0 : Int32))) (((6 * (1 - (sy_i F 11).toInt)) + 5)).toNat ((0 : Int32)) → sy_ai F1 43 = jm_upd (jm_upd (jm_upd (jm_upd (jm_upd (jm_upd (sy_ai F 43) (((6 * (1 - (sy_i F 11).toInt)) + 0)).toNat ((0 : Int32))) (((6 * (1 - (sy_i F 11).toInt)) + 1)).toNat ((0 : Int32))) (((6 * (1 - (sy_i F 11).toInt)) + 2)).toNat ((0 : Int32))) (((6 * (1 - (sy_i F 11).toInt)) + 3)).toNat ((0 : Int32))) (((6 * (1 - (sy_i F 11).toInt)) + 4)).toNat ((0 : Int32))) (((6 * (1 - (sy_i F 11).toInt)) + 5)).toNat ((0 : Int32)) → sy_ai F1 44 = sy_ai F 44 → sy_ai F1 45 = sy_ai F 45 → sy_ai F1 46 = sy_ai F 46 → sy_ai F1 47 = sy_ai F 47 → sy_ai F1 48 = sy_ai F 48 → sy_ai F1 49 = sy_ai F 49 → sy_ai F1 50 = sy_ai F 50 → sy_ai F1 39 = jm_upd (sy_ai F 39) ((1 - (sy_i F 11).toInt)).toNat ((10 : Int32)) → sy_ai F1 40 = jm_upd (sy_ai F 40) ((1 - (sy_i F 11).toInt)).toNat ((6 : Int32)) → sy_ai F1 41 = jm_upd (sy_ai F 41) ((1 - (sy_i F 11).toInt)).toNat ((0 : Int32)) → hd_W Ls xs d jm_M150 Q (112, sy_dL F1 [some (.inl (.ref 1000)), none], sy_dS F1 [], sy_dh F1 X1 X2 (iv_H 4), 0, 0)) :
    hd_W Ls xs d jm_M150 Q (45, sy_dL F [some (.inl (.ref 1000)), none], sy_dS F [], sy_dh F X1 X2 (iv_H 4), 0, 0) := by
  have c11 := nz_bx hB (k := 11) (lo := 0) (hi := 1) rfl
  have n69 : (((1 : Int32)) - (sy_i F 11)).toInt = (1 - (sy_i F 11).toInt) := nz_sub (by decide : ((1 : Int32)).toInt = 1) (rfl : (sy_i F 11).toInt = (sy_i F 11).toInt) (by omega) (by omega)
  have n75 : (((6 : Int32)) * (((1 : Int32)) - (sy_i F 11))).toInt = (6 * (1 - (sy_i F 11).toInt)) := nz_mul (by decide : ((6 : Int32)).toInt = 6) n69 (by omega) (by omega)
  have n76 : ((((6 : Int32)) * (((1 : Int32)) - (sy_i F 11))) + ((0 : Int32))).toInt = ((6 * (1 - (sy_i F 11).toInt)) + 0) := nz_add n75 (by decide : ((0 : Int32)).toInt = 0) (by omega) (by omega)
  have n78 : (((6 : Int32)) * (((1 : Int32)) - (sy_i F 11))).toInt = (6 * (1 - (sy_i F 11).toInt)) := nz_mul (by decide : ((6 : Int32)).toInt = 6) n69 (by omega) (by omega)
  have n79 : ((((6 : Int32)) * (((1 : Int32)) - (sy_i F 11))) + ((0 : Int32))).toInt = ((6 * (1 - (sy_i F 11).toInt)) + 0) := nz_add n78 (by decide : ((0 : Int32)).toInt = 0) (by omega) (by omega)
  have n81 : (((6 : Int32)) * (((1 : Int32)) - (sy_i F 11))).toInt = (6 * (1 - (sy_i F 11).toInt)) := nz_mul (by decide : ((6 : Int32)).toInt = 6) n69 (by omega) (by omega)
  have n82 : ((((6 : Int32)) * (((1 : Int32)) - (sy_i F 11))) + ((1 : Int32))).toInt = ((6 * (1 - (sy_i F 11).toInt)) + 1) := nz_add n81 (by decide : ((1 : Int32)).toInt = 1) (by omega) (by omega)
  have n84 : (((6 : Int32)) * (((1 : Int32)) - (sy_i F 11))).toInt = (6 * (1 - (sy_i F 11).toInt)) := nz_mul (by decide : ((6 : Int32)).toInt = 6) n69 (by omega) (by omega)
  have n85 : ((((6 : Int32)) * (((1 : Int32)) - (sy_i F 11))) + ((1 : Int32))).toInt = ((6 * (1 - (sy_i F 11).toInt)) + 1) := nz_add n84 (by decide : ((1 : Int32)).toInt = 1) (by omega) (by omega)
  have n87 : (((6 : Int32)) * (((1 : Int32)) - (sy_i F 11))).toInt = (6 * (1 - (sy_i F 11).toInt)) := nz_mul (by decide : ((6 : Int32)).toInt = 6) n69 (by omega) (by omega)
  have n88 : ((((6 : Int32)) * (((1 : Int32)) - (sy_i F 11))) + ((2 : Int32))).toInt = ((6 * (1 - (sy_i F 11).toInt)) + 2) := nz_add n87 (by decide : ((2 : Int32)).toInt = 2) (by omega) (by omega)
  have n90 : (((6 : Int32)) * (((1 : Int32)) - (sy_i F 11))).toInt = (6 * (1 - (sy_i F 11).toInt)) := nz_mul (by decide : ((6 : Int32)).toInt = 6) n69 (by omega) (by omega)
  have n91 : ((((6 : Int32)) * (((1 : Int32)) - (sy_i F 11))) + ((2 : Int32))).toInt = ((6 * (1 - (sy_i F 11).toInt)) + 2) := nz_add n90 (by decide : ((2 : Int32)).toInt = 2) (by omega) (by omega)
  have n93 : (((6 : Int32)) * (((1 : Int32)) - (sy_i F 11))).toInt = (6 * (1 - (sy_i F 11).toInt)) := nz_mul (by decide : ((6 : Int32)).toInt = 6) n69 (by omega) (by omega)
  have n94 : ((((6 : Int32)) * (((1 : Int32)) - (sy_i F 11))) + ((3 : Int32))).toInt = ((6 * (1 - (sy_i F 11).toInt)) + 3) := nz_add n93 (by decide : ((3 : Int32)).toInt = 3) (by omega) (by omega)
  have n96 : (((6 : Int32)) * (((1 : Int32)) - (sy_i F 11))).toInt = (6 * (1 - (sy_i F 11).toInt)) := nz_mul (by decide : ((6 : Int32)).toInt = 6) n69 (by omega) (by omega)
  have n97 : ((((6 : Int32)) * (((1 : Int32)) - (sy_i F 11))) + ((3 : Int32))).toInt = ((6 * (1 - (sy_i F 11).toInt)) + 3) := nz_add n96 (by decide : ((3 : Int32)).toInt = 3) (by omega) (by omega)
  have n99 : (((6 : Int32)) * (((1 : Int32)) - (sy_i F 11))).toInt = (6 * (1 - (sy_i F 11).toInt)) := nz_mul (by decide : ((6 : Int32)).toInt = 6) n69 (by omega) (by omega)
  have n100 : ((((6 : Int32)) * (((1 : Int32)) - (sy_i F 11))) + ((4 : Int32))).toInt = ((6 * (1 - (sy_i F 11).toInt)) + 4) := nz_add n99 (by decide : ((4 : Int32)).toInt = 4) (by omega) (by omega)
  have n102 : (((6 : Int32)) * (((1 : Int32)) - (sy_i F 11))).toInt = (6 * (1 - (sy_i F 11).toInt)) := nz_mul (by decide : ((6 : Int32)).toInt = 6) n69 (by omega) (by omega)
  have n103 : ((((6 : Int32)) * (((1 : Int32)) - (sy_i F 11))) + ((4 : Int32))).toInt = ((6 * (1 - (sy_i F 11).toInt)) + 4) := nz_add n102 (by decide : ((4 : Int32)).toInt = 4) (by omega) (by omega)
  have n105 : (((6 : Int32)) * (((1 : Int32)) - (sy_i F 11))).toInt = (6 * (1 - (sy_i F 11).toInt)) := nz_mul (by decide : ((6 : Int32)).toInt = 6) n69 (by omega) (by omega)
  have n106 : ((((6 : Int32)) * (((1 : Int32)) - (sy_i F 11))) + ((5 : Int32))).toInt = ((6 * (1 - (sy_i F 11).toInt)) + 5) := nz_add n105 (by decide : ((5 : Int32)).toInt = 5) (by omega) (by omega)
  have n108 : (((6 : Int32)) * (((1 : Int32)) - (sy_i F 11))).toInt = (6 * (1 - (sy_i F 11).toInt)) := nz_mul (by decide : ((6 : Int32)).toInt = 6) n69 (by omega) (by omega)
  have n109 : ((((6 : Int32)) * (((1 : Int32)) - (sy_i F 11))) + ((5 : Int32))).toInt = ((6 * (1 - (sy_i F 11).toInt)) + 5) := nz_add n108 (by decide : ((5 : Int32)).toInt = 5) (by omega) (by omega)
  have n111 : (((130 : Int32)) * (((1 : Int32)) - (sy_i F 11))).toInt = (130 * (1 - (sy_i F 11).toInt)) := nz_mul (by decide : ((130 : Int32)).toInt = 130) n69 (by omega) (by omega)
  have n112 : (((420 : Int32)) * (((1 : Int32)) - (sy_i F 11))).toInt = (420 * (1 - (sy_i F 11).toInt)) := nz_mul (by decide : ((420 : Int32)).toInt = 420) n69 (by omega) (by omega)
  have w70 : jm_upd (sy_ai F 31) (((1 : Int32)) - (sy_i F 11)).toNatClampNeg ((0 : Int32)) = jm_upd (sy_ai F 31) ((1 - (sy_i F 11).toInt)).toNat ((0 : Int32)) := by simp only [nz_c, n69, (by decide : ((0 : Int32)).toInt = 0), (by decide : ((1 : Int32)).toInt = 1)]
  have w71 : jm_upd (sy_ai F 35) (((1 : Int32)) - (sy_i F 11)).toNatClampNeg ((0 : Int32)) = jm_upd (sy_ai F 35) ((1 - (sy_i F 11).toInt)).toNat ((0 : Int32)) := by simp only [nz_c, n69, (by decide : ((0 : Int32)).toInt = 0), (by decide : ((1 : Int32)).toInt = 1)]
  have w107 : jm_upd (jm_upd (jm_upd (jm_upd (jm_upd (jm_upd (sy_ai F 42) ((((6 : Int32)) * (((1 : Int32)) - (sy_i F 11))) + ((0 : Int32))).toNatClampNeg ((0 : Int32))) ((((6 : Int32)) * (((1 : Int32)) - (sy_i F 11))) + ((1 : Int32))).toNatClampNeg ((0 : Int32))) ((((6 : Int32)) * (((1 : Int32)) - (sy_i F 11))) + ((2 : Int32))).toNatClampNeg ((0 : Int32))) ((((6 : Int32)) * (((1 : Int32)) - (sy_i F 11))) + ((3 : Int32))).toNatClampNeg ((0 : Int32))) ((((6 : Int32)) * (((1 : Int32)) - (sy_i F 11))) + ((4 : Int32))).toNatClampNeg ((0 : Int32))) ((((6 : Int32)) * (((1 : Int32)) - (sy_i F 11))) + ((5 : Int32))).toNatClampNeg ((0 : Int32)) = jm_upd (jm_upd (jm_upd (jm_upd (jm_upd (jm_upd (sy_ai F 42) (((6 * (1 - (sy_i F 11).toInt)) + 0)).toNat ((0 : Int32))) (((6 * (1 - (sy_i F 11).toInt)) + 1)).toNat ((0 : Int32))) (((6 * (1 - (sy_i F 11).toInt)) + 2)).toNat ((0 : Int32))) (((6 * (1 - (sy_i F 11).toInt)) + 3)).toNat ((0 : Int32))) (((6 * (1 - (sy_i F 11).toInt)) + 4)).toNat ((0 : Int32))) (((6 * (1 - (sy_i F 11).toInt)) + 5)).toNat ((0 : Int32)) := by simp only [nz_c, n69, n75, n76, n81, n82, n87, n88, n93, n94, n99, n100, n105, n106, (by decide : ((0 : Int32)).toInt = 0), (by decide : ((1 : Int32)).toInt = 1), (by decide : ((2 : Int32)).toInt = 2), (by decide : ((3 : Int32)).toInt = 3), (by decide : ((4 : Int32)).toInt = 4), (by decide : ((5 : Int32)).toInt = 5), (by decide : ((6 : Int32)).toInt = 6)]
  have w110 : jm_upd (jm_upd (jm_upd (jm_upd (jm_upd (jm_upd (sy_ai F 43) ((((6 : Int32)) * (((1 : Int32)) - (sy_i F 11))) + ((0 : Int32))).toNatClampNeg ((0 : Int32))) ((((6 : Int32)) * (((1 : Int32)) - (sy_i F 11))) + ((1 : Int32))).toNatClampNeg ((0 : Int32))) ((((6 : Int32)) * (((1 : Int32)) - (sy_i F 11))) + ((2 : Int32))).toNatClampNeg ((0 : Int32))) ((((6 : Int32)) * (((1 : Int32)) - (sy_i F 11))) + ((3 : Int32))).toNatClampNeg ((0 : Int32))) ((((6 : Int32)) * (((1 : Int32)) - (sy_i F 11))) + ((4 : Int32))).toNatClampNeg ((0 : Int32))) ((((6 : Int32)) * (((1 : Int32)) - (sy_i F 11))) + ((5 : Int32))).toNatClampNeg ((0 : Int32)) = jm_upd (jm_upd (jm_upd (jm_upd (jm_upd (jm_upd (sy_ai F 43) (((6 * (1 - (sy_i F 11).toInt)) + 0)).toNat ((0 : Int32))) (((6 * (1 - (sy_i F 11).toInt)) + 1)).toNat ((0 : Int32))) (((6 * (1 - (sy_i F 11).toInt)) + 2)).toNat ((0 : Int32))) (((6 * (1 - (sy_i F 11).toInt)) + 3)).toNat ((0 : Int32))) (((6 * (1 - (sy_i F 11).toInt)) + 4)).toNat ((0 : Int32))) (((6 * (1 - (sy_i F 11).toInt)) + 5)).toNat ((0 : Int32)) := by simp only [nz_c, n69, n78, n79, n84, n85, n90, n91, n96, n97, n102, n103, n108, n109, (by decide : ((0 : Int32)).toInt = 0), (by decide : ((1 : Int32)).toInt = 1), (by decide : ((2 : Int32)).toInt = 2), (by decide : ((3 : Int32)).toInt = 3), (by decide : ((4 : Int32)).toInt = 4), (by decide : ((5 : Int32)).toInt = 5), (by decide : ((6 : Int32)).toInt = 6)]
  have w72 : jm_upd (sy_ai F 39) (((1 : Int32)) - (sy_i F 11)).toNatClampNeg ((10 : Int32)) = jm_upd (sy_ai F 39) ((1 - (sy_i F 11).toInt)).toNat ((10 : Int32)) := by simp only [nz_c, n69, (by decide : ((1 : Int32)).toInt = 1), (by decide : ((10 : Int32)).toInt = 10)]
  have w73 : jm_upd (sy_ai F 40) (((1 : Int32)) - (sy_i F 11)).toNatClampNeg ((6 : Int32)) = jm_upd (sy_ai F 40) ((1 - (sy_i F 11).toInt)).toNat ((6 : Int32)) := by simp only [nz_c, n69, (by decide : ((1 : Int32)).toInt = 1), (by decide : ((6 : Int32)).toInt = 6)]
  have w74 : jm_upd (sy_ai F 41) (((1 : Int32)) - (sy_i F 11)).toNatClampNeg ((0 : Int32)) = jm_upd (sy_ai F 41) ((1 - (sy_i F 11).toInt)).toNat ((0 : Int32)) := by simp only [nz_c, n69, (by decide : ((0 : Int32)).toInt = 0), (by decide : ((1 : Int32)).toInt = 1)]
  exact re_45_p0 hd F X1 X2 hB (by first | exact ⟨by omega, by omega⟩ | (simp only [nz_c, n69]; exact ⟨by omega, by omega⟩) | (rw [n69]; exact ⟨by omega, by omega⟩)) (by first | exact ⟨by omega, by omega⟩ | (simp only [nz_c, n69]; exact ⟨by omega, by omega⟩) | (rw [n69]; exact ⟨by omega, by omega⟩)) (by first | exact ⟨by omega, by omega⟩ | (simp only [nz_c, n69]; exact ⟨by omega, by omega⟩) | (rw [n69]; exact ⟨by omega, by omega⟩)) (by first | exact ⟨by omega, by omega⟩ | (simp only [nz_c, n69]; exact ⟨by omega, by omega⟩) | (rw [n69]; exact ⟨by omega, by omega⟩)) (by first | exact ⟨by omega, by omega⟩ | (simp only [nz_c, n69]; exact ⟨by omega, by omega⟩) | (rw [n69]; exact ⟨by omega, by omega⟩)) (by first | exact ⟨by omega, by omega⟩ | (simp only [nz_c, n69, n75, n76]; exact ⟨by omega, by omega⟩) | (rw [n76]; exact ⟨by omega, by omega⟩)) (by first | exact ⟨by omega, by omega⟩ | (simp only [nz_c, n69, n78, n79]; exact ⟨by omega, by omega⟩) | (rw [n79]; exact ⟨by omega, by omega⟩)) (by first | exact ⟨by omega, by omega⟩ | (simp only [nz_c, n69, n81, n82]; exact ⟨by omega, by omega⟩) | (rw [n82]; exact ⟨by omega, by omega⟩)) (by first | exact ⟨by omega, by omega⟩ | (simp only [nz_c, n69, n84, n85]; exact ⟨by omega, by omega⟩) | (rw [n85]; exact ⟨by omega, by omega⟩)) (by first | exact ⟨by omega, by omega⟩ | (simp only [nz_c, n69, n87, n88]; exact ⟨by omega, by omega⟩) | (rw [n88]; exact ⟨by omega, by omega⟩)) (by first | exact ⟨by omega, by omega⟩ | (simp only [nz_c, n69, n90, n91]; exact ⟨by omega, by omega⟩) | (rw [n91]; exact ⟨by omega, by omega⟩)) (by first | exact ⟨by omega, by omega⟩ | (simp only [nz_c, n69, n93, n94]; exact ⟨by omega, by omega⟩) | (rw [n94]; exact ⟨by omega, by omega⟩)) (by first | exact ⟨by omega, by omega⟩ | (simp only [nz_c, n69, n96, n97]; exact ⟨by omega, by omega⟩) | (rw [n97]; exact ⟨by omega, by omega⟩)) (by first | exact ⟨by omega, by omega⟩ | (simp only [nz_c, n69, n99, n100]; exact ⟨by omega, by omega⟩) | (rw [n100]; exact ⟨by omega, by omega⟩)) (by first | exact ⟨by omega, by omega⟩ | (simp only [nz_c, n69, n102, n103]; exact ⟨by omega, by omega⟩) | (rw [n103]; exact ⟨by omega, by omega⟩)) (by first | exact ⟨by omega, by omega⟩ | (simp only [nz_c, n69, n105, n106]; exact ⟨by omega, by omega⟩) | (rw [n106]; exact ⟨by omega, by omega⟩)) (by first | exact ⟨by omega, by omega⟩ | (simp only [nz_c, n69, n108, n109]; exact ⟨by omega, by omega⟩) | (rw [n109]; exact ⟨by omega, by omega⟩)) (fun F1 g e4 e5 e6 e8 e12 e13 e14 e15 e31 e35 e39 e40 e41 e42 e43 => k0 F1 (nz_in hB [4, 5, 6, 8, 12, 13, 14, 15, 31, 35, 39, 40, 41, 42, 43] (fun j hj hn => g j hj (by simp only [List.mem_cons, List.not_mem_nil, or_false, not_or] at hn; omega)) (List.forall_mem_cons.mpr ⟨fun t ht => (Option.some.inj ht) ▸ (nz_hi e4 (by decide : ((0 : Int32)).toInt = 0) (by omega) (by omega)), List.forall_mem_cons.mpr ⟨fun t ht => (Option.some.inj ht) ▸ (nz_hi e5 (by decide : ((0 : Int32)).toInt = 0) (by omega) (by omega)), List.forall_mem_cons.mpr ⟨fun t ht => (Option.some.inj ht) ▸ (nz_hi e6 (by decide : ((0 : Int32)).toInt = 0) (by omega) (by omega)), List.forall_mem_cons.mpr ⟨fun t ht => (Option.some.inj ht) ▸ (nz_hz e8), List.forall_mem_cons.mpr ⟨fun t ht => (Option.some.inj ht) ▸ (nz_hi e12 n69 (by omega) (by omega)), List.forall_mem_cons.mpr ⟨fun t ht => (Option.some.inj ht) ▸ (nz_hi e13 (by decide : ((0 : Int32)).toInt = 0) (by omega) (by omega)), List.forall_mem_cons.mpr ⟨fun t ht => (Option.some.inj ht) ▸ (nz_hi e14 n111 (by omega) (by omega)), List.forall_mem_cons.mpr ⟨fun t ht => (Option.some.inj ht) ▸ (nz_hi e15 n112 (by omega) (by omega)), List.forall_mem_cons.mpr ⟨fun t ht => (Option.some.inj ht) ▸ (nz_hA e31 (nz_up (nz_ba hB (k := 31) (lo := 0) (hi := 7) rfl) (by decide : ((0 : Int32)).toInt = 0) (by omega) (by omega))), List.forall_mem_cons.mpr ⟨fun t ht => (Option.some.inj ht) ▸ (nz_hA e35 (nz_up (nz_ba hB (k := 35) (lo := 0) (hi := 4) rfl) (by decide : ((0 : Int32)).toInt = 0) (by omega) (by omega))), List.forall_mem_cons.mpr ⟨fun t ht => (Option.some.inj ht) ▸ (nz_hz2 e39), List.forall_mem_cons.mpr ⟨fun t ht => (Option.some.inj ht) ▸ (nz_hz2 e40), List.forall_mem_cons.mpr ⟨fun t ht => (Option.some.inj ht) ▸ (nz_hz2 e41), List.forall_mem_cons.mpr ⟨fun t ht => (Option.some.inj ht) ▸ (nz_hA e42 (nz_up (nz_up (nz_up (nz_up (nz_up (nz_up (nz_ba hB (k := 42) (lo := 0) (hi := 260) rfl) (by decide : ((0 : Int32)).toInt = 0) (by omega) (by omega)) (by decide : ((0 : Int32)).toInt = 0) (by omega) (by omega)) (by decide : ((0 : Int32)).toInt = 0) (by omega) (by omega)) (by decide : ((0 : Int32)).toInt = 0) (by omega) (by omega)) (by decide : ((0 : Int32)).toInt = 0) (by omega) (by omega)) (by decide : ((0 : Int32)).toInt = 0) (by omega) (by omega))), List.forall_mem_cons.mpr ⟨fun t ht => (Option.some.inj ht) ▸ (nz_hA e43 (nz_up (nz_up (nz_up (nz_up (nz_up (nz_up (nz_ba hB (k := 43) (lo := 0) (hi := 260) rfl) (by decide : ((0 : Int32)).toInt = 0) (by omega) (by omega)) (by decide : ((0 : Int32)).toInt = 0) (by omega) (by omega)) (by decide : ((0 : Int32)).toInt = 0) (by omega) (by omega)) (by decide : ((0 : Int32)).toInt = 0) (by omega) (by omega)) (by decide : ((0 : Int32)).toInt = 0) (by omega) (by omega)) (by decide : ((0 : Int32)).toInt = 0) (by omega) (by omega))), List.forall_mem_nil _⟩⟩⟩⟩⟩⟩⟩⟩⟩⟩⟩⟩⟩⟩⟩)) (fun j hj hn => g j hj (by simp only [List.mem_cons, List.not_mem_nil, or_false, not_or] at hn; omega)) (nz_fi (g 1 (by decide) (by decide))) (nz_fi (g 2 (by decide) (by decide))) ((congrArg Int32.toInt (zz_i e4)).trans (by decide : ((0 : Int32)).toInt = 0)) ((congrArg Int32.toInt (zz_i e5)).trans (by decide : ((0 : Int32)).toInt = 0)) ((congrArg Int32.toInt (zz_i e6)).trans (by decide : ((0 : Int32)).toInt = 0)) (nz_fi (g 7 (by decide) (by decide))) ((congrArg Int32.toInt (zz_i e8)).trans (by decide : ((0 : Int32)).toInt = 0)) (nz_fi (g 9 (by decide) (by decide))) (nz_fi (g 10 (by decide) (by decide))) (nz_fi (g 11 (by decide) (by decide))) ((congrArg Int32.toInt (zz_i e12)).trans n69) ((congrArg Int32.toInt (zz_i e13)).trans (by decide : ((0 : Int32)).toInt = 0)) ((congrArg Int32.toInt (zz_i e14)).trans n111) ((congrArg Int32.toInt (zz_i e15)).trans n112) (nz_fi (g 20 (by decide) (by decide))) (nz_fi (g 21 (by decide) (by decide))) (nz_fa (g 25 (by decide) (by decide))) (nz_fa (g 26 (by decide) (by decide))) (nz_fa (g 27 (by decide) (by decide))) ((zz_ai e31).trans w70) ((zz_ai e35).trans w71) (nz_fa (g 67 (by decide) (by decide))) ((zz_ai e42).trans w107) ((zz_ai e43).trans w110) (nz_fa (g 44 (by decide) (by decide))) (nz_fa (g 45 (by decide) (by decide))) (nz_fa (g 46 (by decide) (by decide))) (nz_fa (g 47 (by decide) (by decide))) (nz_fa (g 48 (by decide) (by decide))) (nz_fa (g 49 (by decide) (by decide))) (nz_fa (g 50 (by decide) (by decide))) ((zz_ai e39).trans w72) ((zz_ai e40).trans w73) ((zz_ai e41).trans w74))
end
section
/-! ===== the reference reads: what it answers, and the content ===== -/
noncomputable def rz_Q (X1 X2 : List jm_c) (a : Int × Int) (C TL : tX) (T21 T67 T29 : sy_d) (v : Option Value) (G : jm_h) : Prop := ∃ (x : Int32) (F' : Nat → sy_d), v = some (.int x) ∧ G = sy_dh F' X1 X2 (iv_H 4) ∧ iv_in F' iv_B4 ∧ jm_rpn F' ∧ (sy_i F' 1).toInt = 0 ∧ x.toInt = a.1 ∧ (sy_i F' 10).toInt = a.2 ∧ (a.1 = 0 → (sy_i F' 21).toInt = 0 ∧ ∀ j, j < 3 → (sy_ai F' 67).getD j 0 = 0) ∧ (a.1 ≠ 0 → F' 21 = T21 ∧ F' 67 = T67) ∧ F' 29 = T29 ∧ (a.1 = 0 → rXl C F') ∧ (a.1 ≠ 0 → rXl TL F')
section RZ
variable {Ls : Nat} {xs : Nat → Int32} (X1 X2 : List jm_c) (C TL : tX) (T21 T67 T29 : sy_d)
/-- at the loop's head -/
noncomputable def rIz (K V : Nat → Int) (N : Nat → Int64) (P : Nat → Int) (L : Nat) (rr : sE ⊕ (sT × tX)) (F : Nat → sy_d) : Prop := (kf F = K ∧ vf F = V ∧ nf F = N ∧ pf F = P) ∧ pm P K L ∧ ((sy_i F 6).toInt = 0 → ∃ (n : Nat) (x : sT) (T : tX), 401 ≤ n + tn F ∧ rt P L x F ∧ rr = zRun K V N n x T ∧ rX T F) ∧ ((sy_i F 6).toInt ≠ 0 → ∃ tok, rr = .inl ((sy_i F 6).toInt, tok) ∧ (sy_i F 7).toInt = P tok)
theorem rIz_eq {K V P : Nat → Int} {N : Nat → Int64} {L : Nat} {rr : sE ⊕ (sT × tX)} {F F1 : Nat → sy_d} (h : rIz K V N P L rr F) (e : ∀ q, q < 69 → F1 q = F q) : rIz K V N P L rr F1 := by
  obtain ⟨⟨k1, k2, k3, k4⟩, k5, k6, k7⟩ := h
  have i4 := nz_fi (e 4 (by decide))
  have i6 := nz_fi (e 6 (by decide))
  refine ⟨⟨(kf_eq (e 25 (by decide))).trans k1, (vf_eq (e 27 (by decide))).trans k2, (nf_eq (e 28 (by decide))).trans k3, (pf_eq (e 26 (by decide))).trans k4⟩, k5, fun z => ?_, fun z => ?_⟩
  · obtain ⟨n, x, T, a, b, c, d⟩ := k6 (by omega)
    obtain ⟨b1, b2, b3, b4, b5, b6⟩ := b
    refine ⟨n, x, T, by rw [tn_eq i4]; exact a, ⟨by rw [tn_eq i4]; exact b1, b2, ?_, ?_, nmr_eq b5 (e 30 (by decide)) (nz_fi (e 13 (by decide))), wr_eq b6 (by rw [tn_eq i4]; exact Nat.le_refl _) (nz_fi (e 8 (by decide))) (nz_fi (e 9 (by decide)))⟩, c, rX_eq d (by unfold sdf; rw [nz_fi (e 12 (by decide))]) (fun a h1 h2 => nz_fa (e a (by omega)))⟩
    · unfold FRf
      rw [nz_fa (e 31 (by decide)), nz_fi (e 12 (by decide))]
      exact b3
    · unfold BUf
      rw [nz_fa (e 35 (by decide)), nz_fi (e 12 (by decide))]
      exact b4
  · rw [i6, nz_fi (e 7 (by decide))]
    exact k7 (by omega)
end RZ
end
section
/-! ===== what the class puts, cell by cell ===== -/
section CP
variable {K V : Nat → Int} {t : Nat} {W : List Int} {O : List rO}
/-- a strong sign waits above W: it may come out at once -/
theorem cX_p {w : Int} (ht : t ≤ 400) (hw : w = 10 ∨ w = 15) (hW : coS true W = (W, [])) : cX K V t (w :: W) 1 O = cX K V t W 1 (O ++ [(opc w, 0)]) := by
  have e : ∀ b, coS b (w :: W) = ((coS b W).1, (opc w, 0) :: (coS b W).2) := fun b => by
    show (if _ then _ else _) = _
    rw [if_neg (by intro z; rcases z with z | z; omega; omega)]
  have eo : opn (w :: W) = opn W := by
    show (if w = 6 then _ else _) = _
    rw [if_neg (by omega)]
  rw [cX_m1 ht, cX_m1 ht, e, e, eo, List.append_assoc, List.append_assoc]
  rfl
/-- a weak sign waits above W, and no strong one comes: it may come out at once -/
theorem cX_s {w : Int} (ht : t ≤ 400) (hw : w = 8 ∨ w = 9) (h1 : K t ≠ 10) (h2 : K t ≠ 15) : cX K V t (w :: W) 1 O = cX K V t W 1 (O ++ [(opc w, 0)]) := by
  have e : coS false (w :: W) = ((coS false W).1, (opc w, 0) :: (coS false W).2) := by
    show (if _ then _ else _) = _
    rw [if_neg (by intro z; rcases z with z | z; omega; exact absurd z.1 (by decide))]
  have eo : opn (w :: W) = opn W := by
    show (if w = 6 then _ else _) = _
    rw [if_neg (by omega)]
  have ed : decide (K t = 10 ∨ K t = 15) = false := decide_eq_false (by omega)
  rw [cX_m1 ht, cX_m1 ht, ed, e, eo, List.append_assoc]
  rfl
/-- a bracket closes above W -/
theorem cX_cl (ht : t < 400) (h : K t = 7) : cX K V t (6 :: W) 1 O = cX K V (t + 1) W 1 O := by
  have e : coS false (6 :: W) = (6 :: W, []) := by
    show (if _ then _ else _) = _
    rw [if_pos (Or.inl rfl)]
  have eo : 0 < opn (6 :: W) := by
    show 0 < (if (6 : Int) = 6 then opn W + 1 else opn W)
    rw [if_pos rfl]
    omega
  rw [cX_c ht h eo, e, List.append_nil]
  rfl
/-- a sign above W where nothing strong waits -/
theorem cX_bp (ht : t < 400) (h : K t = 10 ∨ K t = 15) (hW : coS true W = (W, [])) : cX K V t W 1 O = cX K V (t + 1) (K t :: W) 0 O := by
  rw [cX_b ht (by omega), decide_eq_true h, hW, List.append_nil]
theorem cX_bs (ht : t < 400) (h : K t = 8 ∨ K t = 9) (hW : coS false W = (W, [])) : cX K V t W 1 O = cX K V (t + 1) (K t :: W) 0 O := by
  rw [cX_b ht (by omega), decide_eq_false (by omega), hW, List.append_nil]
end CP
theorem ok_w (b : Bool) {w : Int} {W : List Int} (h : w = 6 ∨ (b = true ∧ (w = 8 ∨ w = 9))) : coS b (w :: W) = (w :: W, []) := by
  show (if _ then _ else _) = _
  rw [if_pos h]
/-- a cell of the class, for the law a -/
def tvs (a v : Int) : Bool := ((([260, 383, 383, 407, 279, 300] : List Int).getD a.toNat 0) / 2 ^ v.toNat) % 2 = 1
def cell (a : Int) (o : rO) : Int := if o.1 = 0 then o.2 else if o.1 = 1 then (if tvs a o.2 = true then -1 - o.2 else 0) else -8 - o.1
noncomputable def clc (code : List Int32) (c : Nat) : Nat → List Int
  | 0 => []
  | n + 1 => clc code c n ++ [(code.getD (c + n) 0).toInt]
theorem clc_eq {a a' : List Int32} {c : Nat} : ∀ n : Nat, (∀ i, c ≤ i → i < c + n → a'.getD i 0 = a.getD i 0) → clc a' c n = clc a c n
  | 0, _ => rfl
  | n + 1, h => by
    unfold clc
    rw [h (c + n) (by omega) (by omega), clc_eq n (fun i h1 h2 => h i h1 (by omega))]
theorem clc_add {a : List Int32} {c : Nat} (n : Nat) : ∀ m : Nat, clc a c (n + m) = clc a c n ++ clc a (c + n) m
  | 0 => by
    show clc a c n = clc a c n ++ []
    rw [List.append_nil]
  | m + 1 => by
    show clc a c (n + m) ++ [_] = _ ++ (clc a (c + n) m ++ [_])
    rw [clc_add n m, List.append_assoc, Nat.add_assoc]
    rfl
end
