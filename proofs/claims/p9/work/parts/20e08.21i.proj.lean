/-! ===== what is put, and where the way goes ===== -/
noncomputable def prj {A : Type} (r : sE ⊕ (Nat × A)) : sE ⊕ Nat := sB r (fun p => .inr p.1)
theorem prj_B {A B : Type} {r : sE ⊕ (Nat × A)} {f : Nat × A → sE ⊕ (Nat × B)} {g : Nat → sE ⊕ Nat} (h : ∀ p, prj (f p) = g p.1) : prj (sB r f) = sB (prj r) g := by
  cases r with
  | inl e => rfl
  | inr p => exact h p
theorem prj_M {B : Type} {r : sE ⊕ Nat} {f : Nat → sE ⊕ (Nat × B)} {g : Nat → sE ⊕ Nat} (h : ∀ p, prj (f p) = g p) : prj (sB r f) = sB r g := by
  cases r with
  | inl e => rfl
  | inr p => exact h p
theorem opn_tail : ∀ W : List Int, 0 < opn W → opn (coS false W).1.tail = opn W - 1
  | [], h => absurd h (by decide)
  | w :: W, h => by
    by_cases q : w = 6
    · have e : coS false (w :: W) = (w :: W, []) := by
        show (if _ then _ else _) = _
        rw [if_pos (Or.inl q)]
      rw [e]
      show opn W = (if w = 6 then opn W + 1 else opn W) - 1
      rw [if_pos q]
      rfl
    · have e : coS false (w :: W) = ((coS false W).1, (opc w, 0) :: (coS false W).2) := by
        show (if _ then _ else _) = _
        rw [if_neg (by intro z; rcases z with z | z; exact q z; exact absurd z.1 (by decide))]
      have e2 : opn (w :: W) = opn W := by
        show (if w = 6 then opn W + 1 else opn W) = _
        rw [if_neg q]
      rw [e, e2]
      exact opn_tail W (by omega)
theorem prj_cM (K V : Nat → Int) : ∀ (n t : Nat) (W : List Int) (m : Nat) (O : List rO), prj (cM K V n t W m O) = eM K n t (opn W) m
  | 0, t, W, m, O => rfl
  | n + 1, t, W, m, O => by
    unfold cM eM
    by_cases hm : m = 0
    · rw [if_pos hm, if_pos hm]
      by_cases h6 : K t = 6
      · rw [if_pos h6, if_pos h6]
        by_cases ho : opn W = 6
        · rw [if_pos ho, if_pos ho]; rfl
        · rw [if_neg ho, if_neg ho]
          by_cases h4 : t = 400
          · rw [if_pos h4, if_pos h4]; rfl
          · rw [if_neg h4, if_neg h4, prj_cM K V n]
            rfl
      · rw [if_neg h6, if_neg h6]
        by_cases h2 : K t = 2
        · rw [if_pos h2, if_pos (Or.inl h2)]
          by_cases h4 : t = 400
          · rw [if_pos h4, if_pos h4]; rfl
          · rw [if_neg h4, if_neg h4, prj_cM K V n]
        · rw [if_neg h2]
          by_cases h3 : 34 ≤ K t ∧ K t ≤ 42
          · rw [if_pos h3, if_pos (Or.inr h3)]
            by_cases h4 : t = 400
            · rw [if_pos h4, if_pos h4]; rfl
            · rw [if_neg h4, if_neg h4, prj_cM K V n]
          · rw [if_neg h3, if_neg (by omega)]
            rfl
    · rw [if_neg hm, if_neg hm]
      by_cases h7 : K t = 7 ∧ 0 < opn W
      · rw [if_pos h7, if_pos h7]
        by_cases h4 : t = 400
        · rw [if_pos h4, if_pos h4]; rfl
        · rw [if_neg h4, if_neg h4, prj_cM K V n, opn_tail W h7.2]
      · rw [if_neg h7, if_neg h7]
        by_cases hb : K t = 8 ∨ K t = 9 ∨ K t = 10 ∨ K t = 15
        · rw [if_pos hb, if_pos hb]
          by_cases h4 : t = 400
          · rw [if_pos h4, if_pos h4]; rfl
          · rw [if_neg h4, if_neg h4, prj_cM K V n]
            have e : opn (K t :: (coS (decide (K t = 10 ∨ K t = 15)) W).1) = opn W := by
              show (if K t = 6 then _ else _) = _
              rw [if_neg (by omega), coS_opn]
            rw [e]
        · rw [if_neg hb, if_neg hb]
          by_cases ho : 0 < opn W
          · rw [if_pos ho, if_pos ho]; rfl
          · rw [if_neg ho, if_neg ho]; rfl
theorem prj_cX (K V : Nat → Int) (t : Nat) : prj (cX K V t [] 0 []) = eX K t 0 0 := prj_cM K V _ _ _ _ _
theorem prj_last (K V : Nat → Int) (acc : List bRT) (t : Nat) : prj (zLast K V acc t) = sLast K t := by
  unfold zLast sLast
  rw [← prj_cX K V t]
  refine prj_B (fun p => ?_)
  refine (prj_M (g := fun t => .inr t) (fun _ => rfl)).trans ?_
  cases sM K 4 p.1 <;> rfl
theorem prj_zI (K V : Nat → Int) : ∀ (n : Nat) (acc : List bRT) (t : Nat), prj (zI K V n acc t) = sB (sIfs K n t) (sLast K)
  | 0, acc, t => by
    by_cases h : K t = 31
    · rw [z_if0 K V h, c_if0 K h]; rfl
    · rw [z_no K V h, c_no K h]; exact prj_last K V acc t
  | n + 1, acc, t => by
    by_cases h : K t = 31
    · rw [z_if K V h, c_if K h]
      refine prj_M (fun t => ?_)
      unfold zc1 c1
      rw [← prj_cX K V t]
      refine prj_B (fun p => ?_)
      unfold zc2 c2
      refine prj_M (fun t => ?_)
      unfold zc3 c3
      rw [← prj_cX K V t]
      refine prj_B (fun p => ?_)
      unfold zc4 c4
      refine prj_M (fun t => ?_)
      unfold zc5 c5
      rw [← prj_cX K V t]
      refine prj_B (fun p => ?_)
      unfold zc6 c6
      refine prj_M (fun t => ?_)
      exact prj_zI K V n _ t
    · rw [z_no K V h, c_no K h]; exact prj_last K V acc t
theorem prj_Lw (K V : Nat → Int) (t : Nat) : prj (zLw K V t) = sLw K t := by
  unfold zLw sLw
  exact prj_M (fun t => prj_zI K V 4 [] t)
theorem prj_l {A : Type} {r : sE ⊕ (Nat × A)} {e : sE} (h : r = .inl e) : prj r = .inl e := by rw [h]; rfl
theorem prj_r {A : Type} {r : sE ⊕ (Nat × A)} {p : Nat × A} (h : r = .inr p) : prj r = .inr p.1 := by rw [h]; rfl
theorem fx_prj {A : Type} {r : sE ⊕ (Nat × A)} {F0 F : Nat → sy_d} (h : fx r F0 F) : fx (prj r) F0 F := ⟨fun a b => by
  obtain ⟨tok, t1, t2⟩ := h.1 a b
  exact ⟨tok, prj_l t1, t2⟩, h.2⟩
/-- with what is put, also where the way goes -/
theorem tlz_y {k : Int} {F F' : Nat → sy_d} (h : tlz_R k F F') : tly_R k F F' := by
  obtain ⟨h1, h2, h3⟩ := h
  have e : lr F = prj (lrz F) := (prj_Lw (kf F) (vf F) (tn F)).symm
  refine ⟨h1, by rw [e]; exact fx_prj h2, fun z => ?_⟩
  rw [e]
  exact prj_r (h3 z)
