/-! ===== an expression's cells, piece by piece ===== -/
def okW (l : Nat) (W : List Int) : Prop := (l = 1 → coS true W = (W, [])) ∧ (l = 2 → coS false W = (W, []))
theorem okW_0 {W : List Int} : okW 0 W := ⟨fun z => absurd z (by decide), fun z => absurd z (by decide)⟩
theorem okW_21 {W : List Int} (h : okW 2 W) : okW 1 W := by
  refine ⟨fun _ => ?_, fun z => absurd z (by decide)⟩
  have h2 := h.2 rfl
  match W, h2 with
  | [], _ => rfl
  | w :: W, h2 =>
    by_cases q : w = 6
    · exact ok_w true (Or.inl q)
    · have e : coS false (w :: W) = ((coS false W).1, (opc w, 0) :: (coS false W).2) := by
        show (if _ then _ else _) = _
        rw [if_neg (by intro z; rcases z with z | z; exact q z; exact absurd z.1 (by decide))]
      rw [e] at h2
      exact absurd (congrArg Prod.snd h2) (by simp)
/-- the cells of an expression stand behind the others -/
noncomputable def zE (cs co l : Nat) (a : Int) (d : Nat) (F F' : Nat → sy_d) : Prop := (sy_i F cs).toInt ≤ (sy_i F' cs).toInt ∧ (sy_i F' cs).toInt + tg F ≤ (sy_i F cs).toInt + tg F' ∧ (∀ i : Nat, (i : Int) < (sy_i F cs).toInt → (sy_ai F' co).getD i 0 = (sy_ai F co).getD i 0) ∧ ∃ ops : List rO, clc (sy_ai F' co) (sy_i F cs).toInt.toNat ((sy_i F' cs).toInt - (sy_i F cs).toInt).toNat = ops.map (cell a) ∧ ∀ (W : List Int) (O : List rO), opn W = d → okW l W → cX (kg F) (vg F) (tg F) W 0 O = cX (kg F) (vg F) (tg F') W 1 (O ++ ops)
section ZE
variable {cs co l d : Nat} {a : Int} {F F1 F3 F4 : Nat → sy_d}
theorem zE_src {F0 : Nat → sy_d} (h : zE cs co l a d F0 F4) (e : ∀ q, q < 82 → F0 q = F q) (h1 : cs < 82) (h2 : co < 82) : zE cs co l a d F F4 := by
  unfold zE at h ⊢
  rw [nz_fi (e cs h1), nz_fa (e co h2), kg_eq (e 39 (by decide)), vg_eq (e 41 (by decide)), tg_eq (nz_fi (e 33 (by decide)))] at h
  exact h
theorem zE_dst {F2 : Nat → sy_d} (h : zE cs co l a d F F4) (e : ∀ q, q < 82 → F2 q = F4 q) (h1 : cs < 82) (h2 : co < 82) : zE cs co l a d F F2 := by
  unfold zE at h ⊢
  rw [nz_fi (e cs h1), nz_fa (e co h2), tg_eq (nz_fi (e 33 (by decide)))]
  exact h
theorem zE_mk {F2 : Nat → sy_d} (h : zE cs co l a d F F4) (e1 : (sy_i F2 cs).toInt = (sy_i F4 cs).toInt) (e2 : sy_ai F2 co = sy_ai F4 co) (e3 : (sy_i F2 33).toInt = (sy_i F4 33).toInt) : zE cs co l a d F F2 := by
  unfold zE at h ⊢
  rw [e1, e2, tg_eq e3]
  exact h
theorem zE_01 (h : zE cs co 0 a d F F4) (l : Nat) : zE cs co l a d F F4 := by
  obtain ⟨h1, h2, h3, ops, h4, h5⟩ := h
  exact ⟨h1, h2, h3, ops, h4, fun W O q _ => h5 W O q okW_0⟩
theorem zE_12 (h : zE cs co 1 a d F F4) : zE cs co 2 a d F F4 := by
  obtain ⟨h1, h2, h3, ops, h4, h5⟩ := h
  exact ⟨h1, h2, h3, ops, h4, fun W O q k => h5 W O q (okW_21 k)⟩
/-- one cell more, for a token -/
theorem zE_cell {o : rO} {v : Int32} (h0 : 0 ≤ (sy_i F cs).toInt) (ecs : (sy_i F4 cs).toInt = (sy_i F cs).toInt + 1) (eco : sy_ai F4 co = jm_upd (sy_ai F co) ((sy_i F cs).toInt).toNat v) (ht : tg F4 = tg F + 1) (hv : v.toInt = cell a o) (hX : ∀ (W : List Int) (O : List rO), cX (kg F) (vg F) (tg F) W 0 O = cX (kg F) (vg F) (tg F + 1) W 1 (O ++ [o])) : zE cs co l a d F F4 := by
  refine ⟨by omega, by omega, fun i hi => ?_, [o], ?_, fun W O _ _ => by rw [ht]; exact hX W O⟩
  · rw [eco, jm_upd_at, if_neg (by omega)]
  · rw [show ((sy_i F4 cs).toInt - (sy_i F cs).toInt).toNat = 1 by omega]
    show [((sy_ai F4 co).getD ((sy_i F cs).toInt.toNat + 0) 0).toInt] = [cell a o]
    rw [eco, jm_upd_at, if_pos (by omega), hv]
/-- a bracket -/
theorem zE_br (hcs : (sy_i F1 cs).toInt = (sy_i F cs).toInt) (hco : sy_ai F1 co = sy_ai F co) (hk : kg F1 = kg F) (hvg : vg F1 = vg F) (t1 : tg F1 = tg F + 1) (hB : zE cs co 2 a (d + 1) F1 F3) (e1 : (sy_i F4 cs).toInt = (sy_i F3 cs).toInt) (e2 : sy_ai F4 co = sy_ai F3 co) (t4 : tg F4 = tg F3 + 1) (k6 : kg F (tg F) = 6) (k7 : kg F (tg F3) = 7) (hd : d ≠ 6) (h1 : tg F < 400) (h3 : tg F3 < 400) : zE cs co 0 a d F F4 := by
  obtain ⟨b1, b2, b3, ops, b4, b5⟩ := hB
  rw [hcs, hco] at b3
  rw [hcs] at b1 b2 b4
  rw [hk, hvg, t1] at b5
  refine ⟨by omega, by omega, fun i hi => by rw [e2]; exact b3 i hi, ops, by rw [e1, e2]; exact b4, fun W O hW _ => ?_⟩
  rw [cX_o h1 k6 (by omega), b5 (6 :: W) O (by show (if (6 : Int) = 6 then opn W + 1 else opn W) = d + 1; rw [if_pos rfl, hW]) ⟨fun z => absurd z (by decide), fun _ => ok_w false (Or.inl rfl)⟩, cX_cl h3 k7, t4]
/-- a sign, and what comes behind it -/
theorem zE_sg {l' : Nat} {v : Int32} (h0 : 0 ≤ (sy_i F cs).toInt) (hA : zE cs co l a d F F1) {F2 : Nat → sy_d} (hcs : (sy_i F2 cs).toInt = (sy_i F1 cs).toInt) (hco : sy_ai F2 co = sy_ai F1 co) (hk : kg F2 = kg F) (hvg : vg F2 = vg F) (t2 : tg F2 = tg F1 + 1) (hB : zE cs co l' a d F2 F3) (e1 : (sy_i F4 cs).toInt = (sy_i F3 cs).toInt + 1) (e2 : sy_ai F4 co = jm_upd (sy_ai F3 co) ((sy_i F3 cs).toInt).toNat v) (t4 : tg F4 = tg F3) (hv : v.toInt = -8 - opc (kg F (tg F1)))
    (hX : ∀ (W : List Int) (O : List rO), okW l W → okW l' (kg F (tg F1) :: W) ∧ opn (kg F (tg F1) :: W) = opn W ∧ cX (kg F) (vg F) (tg F1) W 1 O = cX (kg F) (vg F) (tg F1 + 1) (kg F (tg F1) :: W) 0 O ∧ cX (kg F) (vg F) (tg F3) (kg F (tg F1) :: W) 1 O = cX (kg F) (vg F) (tg F3) W 1 (O ++ [(opc (kg F (tg F1)), 0)])) : zE cs co l a d F F4 := by
  obtain ⟨a1, a2, a3, p, a4, a5⟩ := hA
  obtain ⟨b1, b2, b3, q, b4, b5⟩ := hB
  rw [hcs, hco] at b3
  rw [hcs] at b1 b2 b4
  rw [hk, hvg, t2] at b5
  refine ⟨by omega, by omega, fun i hi => ?_, p ++ q ++ [(opc (kg F (tg F1)), 0)], ?_, fun W O hW ho => ?_⟩
  · rw [e2, jm_upd_at, if_neg (by omega), b3 i (by omega), a3 i hi]
  · have n1 : ((sy_i F4 cs).toInt - (sy_i F cs).toInt).toNat = (((sy_i F1 cs).toInt - (sy_i F cs).toInt).toNat + ((sy_i F3 cs).toInt - (sy_i F1 cs).toInt).toNat) + 1 := by omega
    have hc : clc (sy_ai F4 co) (sy_i F cs).toInt.toNat (((sy_i F1 cs).toInt - (sy_i F cs).toInt).toNat + ((sy_i F3 cs).toInt - (sy_i F1 cs).toInt).toNat) = (p ++ q).map (cell a) := by
      rw [e2, clc_eq (a := sy_ai F3 co) _ (fun i _ h2 => by rw [jm_upd_at, if_neg (by omega)]), clc_add, List.map_append, clc_eq (a := sy_ai F1 co) _ (fun i _ h2 => b3 i (by omega)), a4, show (sy_i F cs).toInt.toNat + ((sy_i F1 cs).toInt - (sy_i F cs).toInt).toNat = (sy_i F1 cs).toInt.toNat by omega, b4]
    rw [n1]
    show clc _ _ _ ++ [_] = _
    rw [hc, List.map_append (l₁ := p ++ q)]
    have hz : (opc (kg F (tg F1))) ≠ 0 ∧ (opc (kg F (tg F1))) ≠ 1 := by unfold opc; (repeat' split) <;> decide
    have hcell : cell a (opc (kg F (tg F1)), 0) = -8 - opc (kg F (tg F1)) := by
      show (if opc (kg F (tg F1)) = 0 then _ else if opc (kg F (tg F1)) = 1 then _ else _) = _
      rw [if_neg hz.1, if_neg hz.2]
    show _ ++ [((sy_ai F4 co).getD _ 0).toInt] = _ ++ [cell a (opc (kg F (tg F1)), 0)]
    rw [hcell, e2, jm_upd_at, if_pos (by omega), hv]
  · obtain ⟨x1, x2, x3, x4⟩ := hX W (O ++ p) ho
    obtain ⟨-, -, -, x5⟩ := hX W (O ++ p ++ q) ho
    rw [a5 W O hW ho, x3, b5 _ _ (x2.trans hW) x1, x5, t4, List.append_assoc, List.append_assoc, List.append_assoc]
end ZE
theorem zX_p {K V : Nat → Int} {t t3 : Nat} (h : K t = 10 ∨ K t = 15) (h1 : t < 400) (h3 : t3 ≤ 400) (W : List Int) (O : List rO) (ho : okW 1 W) : okW 0 (K t :: W) ∧ opn (K t :: W) = opn W ∧ cX K V t W 1 O = cX K V (t + 1) (K t :: W) 0 O ∧ cX K V t3 (K t :: W) 1 O = cX K V t3 W 1 (O ++ [(opc (K t), 0)]) :=
  ⟨okW_0, by show (if K t = 6 then _ else _) = _; rw [if_neg (by omega)], cX_bp h1 h (ho.1 rfl), cX_p h3 h (ho.1 rfl)⟩
theorem zX_s {K V : Nat → Int} {t t3 : Nat} (h : K t = 8 ∨ K t = 9) (h1 : t < 400) (h3 : t3 ≤ 400) (n1 : K t3 ≠ 10) (n2 : K t3 ≠ 15) (W : List Int) (O : List rO) (ho : okW 2 W) : okW 1 (K t :: W) ∧ opn (K t :: W) = opn W ∧ cX K V t W 1 O = cX K V (t + 1) (K t :: W) 0 O ∧ cX K V t3 (K t :: W) 1 O = cX K V t3 W 1 (O ++ [(opc (K t), 0)]) :=
  ⟨⟨fun _ => ok_w true (Or.inr ⟨rfl, h⟩), fun z => absurd z (by decide)⟩, by show (if K t = 6 then _ else _) = _; rw [if_neg (by omega)], cX_bs h1 h (ho.2 rfl), cX_s h3 h n1 n2⟩
/-- a var's cell, for the law a -/
theorem tv_all : ∀ i : Fin 6, ∀ j : Fin 9, ((((([260, 383, 383, 407, 279, 300] : List Int32).getD i.val 0) >>> ((Int32.ofNat (j.val + 14) - (14 : Int32)) &&& 31)) &&& (1 : Int32)).toInt = 1 ↔ tvs i.val j.val = true) := by decide +kernel
theorem tv_is {A : Int} {k : Int32} (a0 : 0 ≤ A) (a5 : A ≤ 5) (k0 : 14 ≤ k.toInt) (k1 : k.toInt ≤ 22) : ((((([260, 383, 383, 407, 279, 300] : List Int32).getD A.toNat 0) >>> ((k - (14 : Int32)) &&& 31)) &&& (1 : Int32)).toInt = 1 ↔ tvs A (k.toInt - 14) = true) := by
  have h := tv_all ⟨A.toNat, by omega⟩ ⟨(k.toInt - 14).toNat, by omega⟩
  have ek : Int32.ofNat ((k.toInt - 14).toNat + 14) = k := Int32.toInt_inj.mp (by
    rw [show (k.toInt - 14).toNat + 14 = k.toInt.toNat by omega]
    rw [Int32.toInt_ofNat_of_lt (by omega)]
    omega)
  have e1 : ((A.toNat : Nat) : Int) = A := by omega
  have e2 : (((k.toInt - 14).toNat : Nat) : Int) = k.toInt - 14 := by omega
  simp only [ek, e1, e2] at h
  exact h
theorem tv_cell1 {A v : Int} {k : Int32} (a0 : 0 ≤ A) (a5 : A ≤ 5) (k0 : 14 ≤ k.toInt) (k1 : k.toInt ≤ 22) (hv : v = k.toInt + 20) (h : oq (((([260, 383, 383, 407, 279, 300] : List Int32).getD A.toNat 0) >>> ((k - (14 : Int32)) &&& 31)) &&& (1 : Int32)).toInt 1) : -1 - (k.toInt - 14) = cell A (1, v - 34) := by
  show _ = if (1 : Int) = 0 then _ else if (1 : Int) = 1 then (if tvs A (v - 34) = true then -1 - (v - 34) else 0) else _
  rw [if_neg (by decide), if_pos rfl, show v - 34 = k.toInt - 14 by omega, if_pos ((tv_is a0 a5 k0 k1).mp h)]
theorem tv_cell0 {A v : Int} {k : Int32} (a0 : 0 ≤ A) (a5 : A ≤ 5) (k0 : 14 ≤ k.toInt) (k1 : k.toInt ≤ 22) (hv : v = k.toInt + 20) (h : ¬ oq (((([260, 383, 383, 407, 279, 300] : List Int32).getD A.toNat 0) >>> ((k - (14 : Int32)) &&& 31)) &&& (1 : Int32)).toInt 1) : 0 = cell A (1, v - 34) := by
  show _ = if (1 : Int) = 0 then _ else if (1 : Int) = 1 then (if tvs A (v - 34) = true then -1 - (v - 34) else 0) else _
  rw [if_neg (by decide), if_pos rfl, show v - 34 = k.toInt - 14 by omega, if_neg (fun q => h ((tv_is a0 a5 k0 k1).mpr q))]
