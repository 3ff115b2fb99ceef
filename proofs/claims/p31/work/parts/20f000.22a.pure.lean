section
/-! ===== what a law's branches are worth, v: the vars ===== -/
def opv (o : Int) (a b : Int32) : Int32 := if o = 2 then a + b else if o = 3 then a - b else if o = 4 then a * b else a / b
def evR (v : Nat → Int32) : List rO → List Int32 → Option (List Int32)
  | [], S => some S
  | o :: r, S => if o.1 = 0 then evR v r (Int32.ofInt o.2 :: S) else if o.1 = 1 then evR v r (v o.2.toNat :: S) else match S with
    | b :: a :: S' => if o.1 = 5 ∧ b = 0 then none else evR v r (opv o.1 a b :: S')
    | _ => none
theorem evR_0 {v : Nat → Int32} {o : rO} {r : List rO} {S : List Int32} (h : o.1 = 0) : evR v (o :: r) S = evR v r (Int32.ofInt o.2 :: S) := by
  show (if _ then _ else _) = _
  rw [if_pos h]
theorem evR_1 {v : Nat → Int32} {o : rO} {r : List rO} {S : List Int32} (h : o.1 = 1) : evR v (o :: r) S = evR v r (v o.2.toNat :: S) := by
  show (if _ then _ else _) = _
  rw [if_neg (by omega), if_pos h]
theorem evR_2 {v : Nat → Int32} {o : rO} {r : List rO} {a b : Int32} {S : List Int32} (h : 2 ≤ o.1) : evR v (o :: r) (b :: a :: S) = if o.1 = 5 ∧ b = 0 then none else evR v r (opv o.1 a b :: S) := by
  show (if _ then _ else _) = _
  rw [if_neg (by omega), if_neg (by omega)]
def exV (v : Nat → Int32) (O : List rO) : Option Int32 := match evR v O [] with
  | some [x] => some x
  | _ => none
def lwV (v : Nat → Int32) : List bRT → Int32
  | [] => 0
  | (none, w) :: _ => (exV v w).getD 0
  | (some (u, q), w) :: r => match exV v u, exV v q with
    | some a, some b => if a.toInt < b.toInt then (exV v w).getD 0 else lwV v r
    | _, _ => 0
section LW
variable {v : Nat → Int32} {u q w : List rO} {r : List bRT} {a b : Int32}
theorem lwV_n : lwV v ((none, w) :: r) = (exV v w).getD 0 := rfl
theorem lwV_s (h1 : exV v u = some a) (h2 : exV v q = some b) : lwV v ((some (u, q), w) :: r) = if a.toInt < b.toInt then (exV v w).getD 0 else lwV v r := by
  show (match exV v u, exV v q with | some a, some b => (if a.toInt < b.toInt then (exV v w).getD 0 else lwV v r) | _, _ => (0 : Int32)) = _
  rw [h1, h2]
theorem lwV_0 (h : exV v u = none ∨ exV v q = none) : lwV v ((some (u, q), w) :: r) = 0 := by
  show (match exV v u, exV v q with | some a, some b => (if a.toInt < b.toInt then (exV v w).getD 0 else lwV v r) | _, _ => (0 : Int32)) = 0
  cases h1 : exV v u with
  | none => rfl
  | some a =>
    rcases h with h | h
    · rw [h1] at h
      cases h
    · rw [h]
end LW
/-- never from an empty pile, nor above 15 -/
def wfR : List rO → Nat → Nat → Prop
  | [], d, e => d = e
  | o :: r, d, e => ((0 ≤ o.1 ∧ o.1 ≤ 5) ∧ (o.1 = 0 → 0 ≤ o.2) ∧ (o.1 = 1 → 0 ≤ o.2 ∧ o.2 ≤ 8)) ∧ (o.1 < 2 → d < 15 ∧ wfR r (d + 1) e) ∧ (2 ≤ o.1 → 2 ≤ d ∧ wfR r (d - 1) e)
theorem wfR_app : ∀ {p q : List rO} {d c e : Nat}, wfR p d c → wfR q c e → wfR (p ++ q) d e
  | [], q, d, c, e, h, h2 => by
    have h : d = c := h
    subst h
    exact h2
  | o :: p, q, d, c, e, h, h2 => ⟨h.1, fun z => ⟨(h.2.1 z).1, wfR_app (h.2.1 z).2 h2⟩, fun z => ⟨(h.2.2 z).1, wfR_app (h.2.2 z).2 h2⟩⟩
theorem evR_wf (v : Nat → Int32) : ∀ (p : List rO) (S B : List Int32) (e : Nat), wfR p S.length e → (evR v p S = none ∧ evR v p (S ++ B) = none) ∨ ∃ S' : List Int32, S'.length = e ∧ evR v p S = some S' ∧ evR v p (S ++ B) = some (S' ++ B)
  | [], S, B, e, h => Or.inr ⟨S, h, rfl, rfl⟩
  | o :: r, S, B, e, h => by
    obtain ⟨⟨h0, -, -⟩, h2, h3⟩ := h
    by_cases q0 : o.1 = 0
    · rw [evR_0 q0, evR_0 q0]
      exact evR_wf v r (_ :: S) B e (h2 (by omega)).2
    · by_cases q1 : o.1 = 1
      · rw [evR_1 q1, evR_1 q1]
        exact evR_wf v r (_ :: S) B e (h2 (by omega)).2
      · obtain ⟨h4, h5⟩ := h3 (by omega)
        match S, h4, h5 with
        | [], h4, _ => exact absurd h4 (by simp)
        | [_], h4, _ => exact absurd h4 (by simp)
        | b :: a :: S, _, h5 =>
          have e1 := evR_2 (v := v) (r := r) (a := a) (b := b) (S := S) (o := o) (by omega)
          have e2 := evR_2 (v := v) (r := r) (a := a) (b := b) (S := S ++ B) (o := o) (by omega)
          show (evR v (o :: r) (b :: a :: S) = none ∧ evR v (o :: r) (b :: a :: (S ++ B)) = none) ∨ ∃ S' : List Int32, S'.length = e ∧ evR v (o :: r) (b :: a :: S) = some S' ∧ evR v (o :: r) (b :: a :: (S ++ B)) = some (S' ++ B)
          rw [e1, e2]
          by_cases z : o.1 = 5 ∧ b = 0
          · rw [if_pos z, if_pos z]
            exact Or.inl ⟨rfl, rfl⟩
          · rw [if_neg z, if_neg z]
            exact evR_wf v r (opv o.1 a b :: S) B e h5
theorem exV_b {v : Nat → Int32} {O : List rO} (h : wfR O 0 1) (B : List Int32) : (evR v O B = none ∧ exV v O = none) ∨ ∃ x : Int32, evR v O B = some (x :: B) ∧ exV v O = some x := by
  rcases evR_wf v O [] B 1 h with ⟨h1, h2⟩ | ⟨S', h0, h1, h2⟩
  · refine Or.inl ⟨h2, ?_⟩
    unfold exV
    rw [h1]
  · match S', h0 with
    | [x], _ =>
      refine Or.inr ⟨x, h2, ?_⟩
      unfold exV
      rw [h1]
    | [], h0 => exact absurd h0 (by simp)
    | _ :: _ :: _, h0 => exact absurd h0 (by simp)
/-! ===== what is put is well put ===== -/
def nwp : List Int → Nat
  | [] => 0
  | w :: W => if w = 6 then nwp W else nwp W + 1
def sgw : List Int → Nat
  | [] => 0
  | w :: W => if w = 6 then 0 else sgw W + 1
def shw : List Int → Prop
  | [] => True
  | w :: W => shw W ∧ (w = 6 ∨ ((w = 8 ∨ w = 9) ∧ sgw W = 0) ∨ ((w = 10 ∨ w = 15) ∧ sgw W ≤ 1))
theorem nwp_6 {W : List Int} : nwp (6 :: W) = nwp W := by
  show (if (6 : Int) = 6 then _ else _) = _
  rw [if_pos rfl]
theorem nwp_o {w : Int} {W : List Int} (h : w ≠ 6) : nwp (w :: W) = nwp W + 1 := by
  show (if _ then _ else _) = _
  rw [if_neg h]
theorem opn_6 {W : List Int} : opn (6 :: W) = opn W + 1 := by
  show (if (6 : Int) = 6 then _ else _) = _
  rw [if_pos rfl]
theorem opn_o {w : Int} {W : List Int} (h : w ≠ 6) : opn (w :: W) = opn W := by
  show (if _ then _ else _) = _
  rw [if_neg h]
theorem shw_sgw : ∀ {W : List Int}, shw W → sgw W ≤ 2
  | [], _ => by decide
  | w :: W, h => by
    show (if w = 6 then 0 else sgw W + 1) ≤ 2
    rcases h.2 with z | z | z
    · rw [if_pos z]
      decide
    · split <;> omega
    · split <;> omega
theorem shw_nwp : ∀ {W : List Int}, shw W → nwp W ≤ 2 * opn W + sgw W
  | [], _ => by decide
  | w :: W, h => by
    have ih := shw_nwp h.1
    have hs := shw_sgw h.1
    show (if w = 6 then nwp W else nwp W + 1) ≤ 2 * (if w = 6 then opn W + 1 else opn W) + (if w = 6 then 0 else sgw W + 1)
    by_cases q : w = 6
    · simp only [if_pos q]
      omega
    · simp only [if_neg q]
      omega
theorem coS_st {b : Bool} {w : Int} {W : List Int} (q : w = 6 ∨ (b = true ∧ (w = 8 ∨ w = 9))) : coS b (w :: W) = (w :: W, []) := by
  show (if _ then _ else _) = _
  rw [if_pos q]
theorem coS_go {b : Bool} {w : Int} {W : List Int} (q : ¬ (w = 6 ∨ (b = true ∧ (w = 8 ∨ w = 9)))) : coS b (w :: W) = ((coS b W).1, (opc w, 0) :: (coS b W).2) := by
  show (if _ then _ else _) = _
  rw [if_neg q]
theorem opc_in (w : Int) : 2 ≤ opc w ∧ opc w ≤ 5 := by
  unfold opc
  (repeat' split) <;> decide
theorem coS_wf (b : Bool) : ∀ W : List Int, wfR (coS b W).2 (nwp W + 1) (nwp (coS b W).1 + 1)
  | [] => rfl
  | w :: W => by
    by_cases q : w = 6 ∨ (b = true ∧ (w = 8 ∨ w = 9))
    · rw [coS_st q]
      exact rfl
    · rw [coS_go q, nwp_o (fun z => q (Or.inl z))]
      have ho := opc_in w
      refine ⟨⟨⟨by show 0 ≤ opc w; omega, ho.2⟩, fun z => ?_, fun z => ?_⟩, fun z => ?_, fun _ => ⟨by omega, coS_wf b W⟩⟩
      · have z : opc w = 0 := z
        omega
      · have z : opc w = 1 := z
        omega
      · have z : opc w < 2 := z
        omega
theorem coS_shp (b : Bool) : ∀ W : List Int, shw W → shw (coS b W).1
  | [], _ => trivial
  | w :: W, h => by
    by_cases q : w = 6 ∨ (b = true ∧ (w = 8 ∨ w = 9))
    · rw [coS_st q]
      exact h
    · rw [coS_go q]
      exact coS_shp b W h.1
theorem coS_sg1 : ∀ W : List Int, shw W → sgw (coS true W).1 ≤ 1
  | [], _ => by decide
  | w :: W, h => by
    by_cases q : w = 6 ∨ (true = true ∧ (w = 8 ∨ w = 9))
    · rw [coS_st q]
      show (if w = 6 then 0 else sgw W + 1) ≤ 1
      rcases h.2 with z | z | z
      · rw [if_pos z]
        decide
      · split <;> omega
      · exact absurd q (by omega)
    · rw [coS_go q]
      exact coS_sg1 W h.1
theorem coS_sg0 : ∀ W : List Int, sgw (coS false W).1 = 0
  | [] => rfl
  | w :: W => by
    by_cases q : w = 6 ∨ (false = true ∧ (w = 8 ∨ w = 9))
    · rw [coS_st q]
      show (if w = 6 then 0 else sgw W + 1) = 0
      rcases q with z | z
      · rw [if_pos z]
      · exact absurd z.1 (by decide)
    · rw [coS_go q]
      exact coS_sg0 W
theorem coS_tl : ∀ W : List Int, 0 < opn W → shw W → nwp (coS false W).1.tail = nwp (coS false W).1 ∧ shw (coS false W).1.tail
  | [], h, _ => absurd h (by decide)
  | w :: W, h, hs => by
    by_cases q : w = 6
    · rw [coS_st (Or.inl q)]
      subst q
      exact ⟨nwp_6.symm, hs.1⟩
    · rw [coS_go (by intro z; rcases z with z | z; exact q z; exact absurd z.1 (by decide))]
      exact coS_tl W (by rw [opn_o q] at h; exact h) hs.1
theorem coS_nil : ∀ W : List Int, opn W = 0 → (coS false W).1 = []
  | [], _ => rfl
  | w :: W, h => by
    by_cases q : w = 6
    · subst q
      rw [opn_6] at h
      omega
    · rw [coS_go (by intro z; rcases z with z | z; exact q z; exact absurd z.1 (by decide))]
      exact coS_nil W (by rw [opn_o q] at h; exact h)
theorem cM_wf {K V : Nat → Int} (hV : ∀ t, 0 ≤ V t) : ∀ (n t : Nat) (W : List Int) (m : Nat) (O : List rO) (p : Nat × List rO), n = 401 - t → t ≤ 400 → m ≤ 1 → shw W → opn W ≤ 6 → cM K V n t W m O = .inr p → p.1 ≤ 400 ∧ ∃ r, p.2 = O ++ r ∧ wfR r (nwp W + m) 1
  | 0, t, W, m, O, p, hn, ht, _, _, _, _ => absurd hn (by omega)
  | n + 1, t, W, m, O, p, hn, ht, hm, hs, ho, h => by
    have hnp := shw_nwp hs
    have hsg := shw_sgw hs
    unfold cM at h
    by_cases hm0 : m = 0
    · subst hm0
      rw [if_pos rfl] at h
      by_cases h6 : K t = 6
      · rw [if_pos h6] at h
        by_cases h7 : opn W = 6
        · rw [if_pos h7] at h
          cases h
        · rw [if_neg h7] at h
          by_cases h4 : t = 400
          · rw [if_pos h4] at h
            cases h
          · rw [if_neg h4] at h
            obtain ⟨p1, r, e1, e2⟩ := cM_wf hV n (t + 1) (6 :: W) 0 O p (by omega) (by omega) (by omega) ⟨hs, Or.inl rfl⟩ (by rw [opn_6]; omega) h
            rw [nwp_6] at e2
            exact ⟨p1, r, e1, e2⟩
      · rw [if_neg h6] at h
        by_cases h2 : K t = 2
        · rw [if_pos h2] at h
          by_cases h4 : t = 400
          · rw [if_pos h4] at h
            cases h
          · rw [if_neg h4] at h
            obtain ⟨p1, r, e1, e2⟩ := cM_wf hV n (t + 1) W 1 _ p (by omega) (by omega) (by omega) hs ho h
            refine ⟨p1, (0, V t) :: r, by rw [e1, List.append_assoc]; rfl, ⟨⟨(by decide : (0 : Int) ≤ 0), (by decide : (0 : Int) ≤ 5)⟩, fun _ => hV t, fun z => absurd z (by decide : ¬ (0 : Int) = 1)⟩, fun _ => ⟨by omega, e2⟩, fun z => absurd z (by decide : ¬ (2 : Int) ≤ 0)⟩
        · rw [if_neg h2] at h
          by_cases h3 : 34 ≤ K t ∧ K t ≤ 42
          · rw [if_pos h3] at h
            by_cases h4 : t = 400
            · rw [if_pos h4] at h
              cases h
            · rw [if_neg h4] at h
              obtain ⟨p1, r, e1, e2⟩ := cM_wf hV n (t + 1) W 1 _ p (by omega) (by omega) (by omega) hs ho h
              refine ⟨p1, (1, K t - 34) :: r, by rw [e1, List.append_assoc]; rfl, ⟨⟨(by decide : (0 : Int) ≤ 1), (by decide : (1 : Int) ≤ 5)⟩, fun z => absurd z (by decide : ¬ (1 : Int) = 0), fun _ => ⟨by show 0 ≤ K t - 34; omega, by show K t - 34 ≤ 8; omega⟩⟩, fun _ => ⟨by omega, e2⟩, fun z => absurd z (by decide : ¬ (2 : Int) ≤ 1)⟩
          · rw [if_neg h3] at h
            cases h
    · have hm1 : m = 1 := by omega
      subst hm1
      rw [if_neg hm0] at h
      by_cases h7 : K t = 7 ∧ 0 < opn W
      · rw [if_pos h7] at h
        by_cases h4 : t = 400
        · rw [if_pos h4] at h
          cases h
        · rw [if_neg h4] at h
          obtain ⟨y1, y2⟩ := coS_tl W h7.2 hs
          obtain ⟨p1, r, e1, e2⟩ := cM_wf hV n (t + 1) _ 1 _ p (by omega) (by omega) (by omega) y2 (by rw [opn_tail W h7.2]; omega) h
          rw [y1] at e2
          exact ⟨p1, (coS false W).2 ++ r, by rw [e1, List.append_assoc], wfR_app (coS_wf false W) e2⟩
      · rw [if_neg h7] at h
        by_cases hb : K t = 8 ∨ K t = 9 ∨ K t = 10 ∨ K t = 15
        · rw [if_pos hb] at h
          by_cases h4 : t = 400
          · rw [if_pos h4] at h
            cases h
          · rw [if_neg h4] at h
            have k6 : K t ≠ 6 := by omega
            have hsp : shw (K t :: (coS (decide (K t = 10 ∨ K t = 15)) W).1) := by
              refine ⟨coS_shp _ W hs, ?_⟩
              by_cases z : K t = 10 ∨ K t = 15
              · rw [decide_eq_true z]
                exact Or.inr (Or.inr ⟨z, coS_sg1 W hs⟩)
              · rw [decide_eq_false z]
                exact Or.inr (Or.inl ⟨by omega, coS_sg0 W⟩)
            obtain ⟨p1, r, e1, e2⟩ := cM_wf hV n (t + 1) _ 0 _ p (by omega) (by omega) (by omega) hsp (by rw [opn_o k6, coS_opn]; exact ho) h
            rw [nwp_o k6] at e2
            exact ⟨p1, (coS (decide (K t = 10 ∨ K t = 15)) W).2 ++ r, by rw [e1, List.append_assoc], wfR_app (coS_wf _ W) e2⟩
        · rw [if_neg hb] at h
          by_cases h8 : 0 < opn W
          · rw [if_pos h8] at h
            cases h
          · rw [if_neg h8] at h
            have h := Sum.inr.inj h
            subst h
            refine ⟨ht, (coS false W).2, rfl, ?_⟩
            have y := coS_wf false W
            rw [coS_nil W (by omega)] at y
            exact y
theorem cX_wf {K V : Nat → Int} (hV : ∀ t, 0 ≤ V t) {t : Nat} {p : Nat × List rO} (ht : t ≤ 400) (h : cX K V t [] 0 [] = .inr p) : p.1 ≤ 400 ∧ wfR p.2 0 1 := by
  obtain ⟨p1, r, e1, e2⟩ := cM_wf hV (401 - t) t [] 0 [] p rfl ht (by decide) trivial (by decide) h
  rw [List.nil_append] at e1
  rw [e1]
  exact ⟨p1, e2⟩
def wfB (b : bRT) : Prop := wfR b.2 0 1 ∧ ∀ u q, b.1 = some (u, q) → wfR u 0 1 ∧ wfR q 0 1
def hasN : List bRT → Prop
  | [] => False
  | (none, _) :: _ => True
  | (some _, _) :: r => hasN r
def wfL (l : List bRT) : Prop := hasN l ∧ ∀ b ∈ l, wfB b
theorem hasN_app (w : List rO) : ∀ l : List bRT, hasN (l ++ [(none, w)])
  | [] => trivial
  | (none, _) :: _ => trivial
  | (some _, _) :: r => hasN_app w r
theorem sGi {t t' : Nat} (ht : t ≤ 400) (h : sG t = .inr t') : t' = t + 1 ∧ t' ≤ 400 := by
  unfold sG at h
  by_cases q : t = 400
  · rw [if_pos q] at h
    cases h
  · rw [if_neg q] at h
    have h := Sum.inr.inj h
    omega
theorem sMi {K : Nat → Int} {k : Int} {t t' : Nat} (ht : t ≤ 400) (h : sM K k t = .inr t') : K t = k ∧ t' = t + 1 ∧ t' ≤ 400 := by
  unfold sM at h
  by_cases q : K t = k
  · rw [if_pos q] at h
    exact ⟨q, sGi ht h⟩
  · rw [if_neg q] at h
    cases h
theorem sBi {A B : Type} {r : sE ⊕ A} {f : A → sE ⊕ B} {b : B} (h : sB r f = .inr b) : ∃ a, r = .inr a ∧ f a = .inr b := by
  cases r with
  | inl e => cases h
  | inr a => exact ⟨a, rfl, h⟩
section ZW
variable {K V : Nat → Int}
theorem zLast_wf (hV : ∀ t, 0 ≤ V t) {acc : List bRT} {t : Nat} {p : Nat × List bRT} (ht : t ≤ 400) (ha : ∀ b ∈ acc, wfB b) (h : zLast K V acc t = .inr p) : p.1 ≤ 400 ∧ wfL p.2 := by
  obtain ⟨q, h1, h2⟩ := sBi h
  obtain ⟨u, h3, h4⟩ := sBi h2
  have hq := cX_wf hV ht h1
  have h4 := Sum.inr.inj h4
  subst h4
  refine ⟨(sMi hq.1 h3).2.2, hasN_app _ _, fun b hb => ?_⟩
  rcases List.mem_append.mp hb with z | z
  · exact ha b z
  · have z : b = (none, q.2) := List.mem_singleton.mp z
    subst z
    exact ⟨hq.2, fun _ _ z => by cases z⟩
theorem zI_wf (hV : ∀ t, 0 ≤ V t) : ∀ (n : Nat) (acc : List bRT) (t : Nat) (p : Nat × List bRT), t ≤ 400 → (∀ b ∈ acc, wfB b) → zI K V n acc t = .inr p → p.1 ≤ 400 ∧ wfL p.2
  | 0, acc, t, p, ht, ha, h => by
    by_cases q : K t = 31
    · rw [z_if0 K V q] at h
      cases h
    · rw [z_no K V q] at h
      exact zLast_wf hV ht ha h
  | n + 1, acc, t, p, ht, ha, h => by
    by_cases q : K t = 31
    · rw [z_if K V q] at h
      obtain ⟨t1, g1, h⟩ := sBi h
      obtain ⟨u, g2, h⟩ := sBi h
      obtain ⟨t3, g3, h⟩ := sBi h
      obtain ⟨w, g4, h⟩ := sBi h
      obtain ⟨t5, g5, h⟩ := sBi h
      obtain ⟨x, g6, h⟩ := sBi h
      obtain ⟨t7, g7, h⟩ := sBi h
      have c2 := cX_wf hV (sGi ht g1).2 g2
      have c4 := cX_wf hV (sMi c2.1 g3).2.2 g4
      have c6 := cX_wf hV (sMi c4.1 g5).2.2 g6
      refine zI_wf hV n _ t7 p (sMi c6.1 g7).2.2 (fun b hb => ?_) h
      rcases List.mem_append.mp hb with z | z
      · exact ha b z
      · have z : b = (some (u.2, w.2), x.2) := List.mem_singleton.mp z
        subst z
        refine ⟨c6.2, fun a b z => ?_⟩
        have z := Option.some.inj z
        have z1 : u.2 = a := congrArg Prod.fst z
        have z2 : w.2 = b := congrArg Prod.snd z
        rw [← z1, ← z2]
        exact ⟨c2.2, c4.2⟩
    · rw [z_no K V q] at h
      exact zLast_wf hV ht ha h
theorem zLw_wf (hV : ∀ t, 0 ≤ V t) {t : Nat} {p : Nat × List bRT} (ht : t ≤ 400) (h : zLw K V t = .inr p) : p.1 ≤ 400 ∧ wfL p.2 := by
  obtain ⟨u, h1, h2⟩ := sBi h
  exact zI_wf hV 4 [] u p (sMi ht h1).2.2 (fun b hb => absurd hb List.not_mem_nil) h2
end ZW
/-! ===== a text without a fault ===== -/
def bF3 (v : t3) : Prop := (0 ≤ v.1 ∧ v.1 ≤ 9) ∧ (1 ≤ v.2.1 ∧ v.2.1 ≤ 9) ∧ (0 ≤ v.2.2 ∧ v.2.2 ≤ 99)
def bB3 (v : t3) : Prop := (0 ≤ v.1 ∧ v.1 ≤ 9) ∧ (0 ≤ v.2.1 ∧ v.2.1 ≤ 3) ∧ (0 ≤ v.2.2 ∧ v.2.2 ≤ 999)
def bT (T : tX) : Prop := (∀ v ∈ T.1, bF3 v) ∧ (∀ v ∈ T.2.1, bB3 v) ∧ (0 ≤ T.2.2.1 ∧ T.2.2.1 ≤ 99) ∧ (0 ≤ T.2.2.2.1 ∧ T.2.2.2.1 ≤ 99) ∧ (0 ≤ T.2.2.2.2.1 ∧ T.2.2.2.2.1 ≤ 9999)
def lT (T : tX) : Prop := T.1.length ≤ 7 ∧ T.2.1.length ≤ 4 ∧ ∀ k bs, T.2.2.2.2.2 k = some bs → wfL bs
def wT (T : tX) : Prop := lT T ∧ bT T
theorem wT_0 : wT T0 := ⟨⟨by decide, by decide, fun k bs h => by cases h⟩, fun v h => absurd h List.not_mem_nil, fun v h => absurd h List.not_mem_nil, ⟨by decide, by decide⟩, ⟨by decide, by decide⟩, ⟨by decide, by decide⟩⟩
section WT
variable {K V : Nat → Int} {N : Nat → Int64}
theorem sNi {lo hi : Int} {q q' : Nat × sE} (ht : q.1 ≤ 400) (h : sN K V lo hi q = .inr q') : q'.1 = q.1 + 1 ∧ q'.1 ≤ 400 ∧ (q'.2.1 = 0 → q.2.1 = 0 ∧ lo ≤ V q.1 ∧ V q.1 ≤ hi) := by
  obtain ⟨t, h1, h2⟩ := sBi h
  obtain ⟨a1, a2, a3⟩ := sMi ht h1
  have h2 := Sum.inr.inj h2
  subst h2
  refine ⟨a2, a3, fun z => ?_⟩
  have z : (sW q.2 (V q.1 < lo ∨ hi < V q.1) 5 q.1).1 = 0 := z
  unfold sW at z
  by_cases y : (V q.1 < lo ∨ hi < V q.1) ∧ q.2.1 = 0
  · rw [if_pos y] at z
    exact absurd z (by decide : ¬ (5 : Int) = 0)
  · rw [if_neg y] at z
    omega
theorem sNmi {q : Nat × List Int64 × sE} {q' : Nat × sE} (ht : q.1 ≤ 400) (h : sNm K N q = .inr q') : q'.1 = q.1 + 1 ∧ q'.1 ≤ 400 ∧ (q'.2.1 = 0 → q.2.2.1 = 0) := by
  obtain ⟨t, h1, h2⟩ := sBi h
  obtain ⟨a1, a2, a3⟩ := sMi ht h1
  have h2 := Sum.inr.inj h2
  subst h2
  refine ⟨a2, a3, fun z => ?_⟩
  have z : (sW q.2.2 (N q.1 ∈ q.2.1) 3 q.1).1 = 0 := z
  unfold sW at z
  by_cases y : N q.1 ∈ q.2.1 ∧ q.2.2.1 = 0
  · rw [if_pos y] at z
    exact absurd z (by decide : ¬ (3 : Int) = 0)
  · rw [if_neg y] at z
    exact z
theorem sTi {a b c : Int × Int} {q : Nat × List Int64 × sE} {q' : Nat × sE} (ht : q.1 ≤ 400) (h : sTell K V N a b c q = .inr q') : q'.1 ≤ 400 ∧ (q'.2.1 = 0 → q.2.2.1 = 0 ∧ (a.1 ≤ V (q.1 + 1) ∧ V (q.1 + 1) ≤ a.2) ∧ (b.1 ≤ V (q.1 + 2) ∧ V (q.1 + 2) ≤ b.2) ∧ (c.1 ≤ V (q.1 + 3) ∧ V (q.1 + 3) ≤ c.2)) := by
  obtain ⟨q1, h1, h⟩ := sBi h
  obtain ⟨q2, h2, h⟩ := sBi h
  obtain ⟨q3, h3, h⟩ := sBi h
  obtain ⟨qR, h4, h⟩ := sBi h
  obtain ⟨t, h5, h⟩ := sBi h
  have h := Sum.inr.inj h
  subst h
  obtain ⟨a1, a2, a3⟩ := sNmi ht h1
  obtain ⟨b1, b2, b3⟩ := sNi a2 h2
  obtain ⟨c1, c2, c3⟩ := sNi b2 h3
  obtain ⟨d1, d2, d3⟩ := sNi c2 h4
  refine ⟨(sMi d2 h5).2.2, fun z => ?_⟩
  have d3 := d3 z
  have c3 := c3 d3.1
  have b3 := b3 c3.1
  rw [a1] at b3 b1
  rw [b1] at c3 c1
  rw [c1] at d3
  exact ⟨a3 b3.1, b3.2, c3.2, d3.2⟩
theorem sSti {hi : Int} {t : Nat} {w : sE} {q' : Nat × sE} (ht : t ≤ 400) (h : sSt K V hi t w = .inr q') : q'.1 ≤ 400 ∧ (q'.2.1 = 0 → w.1 = 0 ∧ 0 ≤ V (t + 1) ∧ V (t + 1) ≤ hi) := by
  obtain ⟨t1, h1, h⟩ := sBi h
  obtain ⟨q2, h2, h⟩ := sBi h
  obtain ⟨t3, h3, h⟩ := sBi h
  have h := Sum.inr.inj h
  subst h
  obtain ⟨a1, a2⟩ := sGi ht h1
  subst a1
  obtain ⟨b1, b2, b3⟩ := sNi a2 h2
  exact ⟨(sMi b2 h3).2.2, b3⟩
/-- what holds of a text so far -/
def tI (x : sT) (T : tX) : Prop := x.1 ≤ 400 ∧ (x.2.1 = T.1.length ∧ x.2.2.1 = T.2.1.length) ∧ lT T ∧ (x.2.2.2.2.1 = 0 → bT T)
theorem tI_one (hV : ∀ t, 0 ≤ V t) {x y : sT} {T : tX} (h : tI x T) (ho : sOne K V N x = .inr y) : tI y (tU K V x.1 T) := by
  obtain ⟨h1, ⟨h2, h3⟩, ⟨h4, h5, h6⟩, h7⟩ := h
  unfold sOne at ho
  by_cases k1 : K x.1 = 20
  · rw [if_pos k1] at ho
    rw [tU_f k1]
    unfold sFruit at ho
    by_cases z : x.2.1 = 7
    · rw [if_pos z] at ho
      cases ho
    · rw [if_neg z] at ho
      obtain ⟨t, g1, ho⟩ := sBi ho
      obtain ⟨q, g2, ho⟩ := sBi ho
      have ho := Sum.inr.inj ho
      subst ho
      obtain ⟨a1, a2⟩ := sGi h1 g1
      subst a1
      obtain ⟨b1, b2⟩ := sTi a2 g2
      have hl : (T.1 ++ [(V (x.1 + 2), V (x.1 + 3), V (x.1 + 4))]).length = T.1.length + 1 := by rw [List.length_append]; rfl
      refine ⟨b1, ⟨by show x.2.1 + 1 = _; rw [hl, h2], h3⟩, ⟨by show (T.1 ++ [_]).length ≤ 7; rw [hl]; omega, h5, h6⟩, fun z => ?_⟩
      obtain ⟨c1, c2, c3, c4⟩ := b2 z
      obtain ⟨d1, d2⟩ := h7 c1
      refine ⟨fun v hv => ?_, d2⟩
      rcases List.mem_append.mp hv with e | e
      · exact d1 v e
      · have e : v = _ := List.mem_singleton.mp e
        subst e
        exact ⟨c2, c3, c4⟩
  · rw [if_neg k1] at ho
    by_cases k2 : K x.1 = 21
    · rw [if_pos k2] at ho
      rw [tU_b k2]
      unfold sBuyer at ho
      by_cases z : x.2.2.1 = 4
      · rw [if_pos z] at ho
        cases ho
      · rw [if_neg z] at ho
        obtain ⟨t, g1, ho⟩ := sBi ho
        obtain ⟨q, g2, ho⟩ := sBi ho
        have ho := Sum.inr.inj ho
        subst ho
        obtain ⟨a1, a2⟩ := sGi h1 g1
        subst a1
        obtain ⟨b1, b2⟩ := sTi a2 g2
        have hl : (T.2.1 ++ [(V (x.1 + 2), V (x.1 + 3), V (x.1 + 4))]).length = T.2.1.length + 1 := by rw [List.length_append]; rfl
        refine ⟨b1, ⟨h2, by show x.2.2.1 + 1 = _; rw [hl, h3]⟩, ⟨h4, by show (T.2.1 ++ [_]).length ≤ 4; rw [hl]; omega, h6⟩, fun z => ?_⟩
        obtain ⟨c1, c2, c3, c4⟩ := b2 z
        obtain ⟨d1, d2, d3⟩ := h7 c1
        refine ⟨d1, fun v hv => ?_, d3⟩
        rcases List.mem_append.mp hv with e | e
        · exact d2 v e
        · have e : v = _ := List.mem_singleton.mp e
          subst e
          exact ⟨c2, c3, c4⟩
    · rw [if_neg k2] at ho
      have hset : ∀ hi : Int, sSet K V hi x = .inr y → y.1 ≤ 400 ∧ (y.2.1 = x.2.1 ∧ y.2.2.1 = x.2.2.1) ∧ (y.2.2.2.2.1 = 0 → x.2.2.2.2.1 = 0 ∧ 0 ≤ V (x.1 + 1) ∧ V (x.1 + 1) ≤ hi) := fun hi ho => by
        obtain ⟨q, g2, ho⟩ := sBi ho
        have ho := Sum.inr.inj ho
        subst ho
        obtain ⟨b1, b2⟩ := sSti h1 g2
        exact ⟨b1, ⟨rfl, rfl⟩, b2⟩
      by_cases k3 : K x.1 = 28 ∨ K x.1 = 29
      · rw [if_pos k3] at ho
        obtain ⟨b1, ⟨b2, b3⟩, b4⟩ := hset 99 ho
        by_cases k4 : K x.1 = 28
        · rw [tU_1 k4]
          refine ⟨b1, ⟨b2.trans h2, b3.trans h3⟩, ⟨h4, h5, h6⟩, fun z => ?_⟩
          obtain ⟨c1, c2⟩ := b4 z
          obtain ⟨d1, d2, d3, d4, d5⟩ := h7 c1
          exact ⟨d1, d2, c2, d4, d5⟩
        · rw [tU_2 (by omega)]
          refine ⟨b1, ⟨b2.trans h2, b3.trans h3⟩, ⟨h4, h5, h6⟩, fun z => ?_⟩
          obtain ⟨c1, c2⟩ := b4 z
          obtain ⟨d1, d2, d3, d4, d5⟩ := h7 c1
          exact ⟨d1, d2, d3, c2, d5⟩
      · rw [if_neg k3] at ho
        by_cases k5 : K x.1 = 30
        · rw [if_pos k5] at ho
          obtain ⟨b1, ⟨b2, b3⟩, b4⟩ := hset 9999 ho
          rw [tU_3 k5]
          refine ⟨b1, ⟨b2.trans h2, b3.trans h3⟩, ⟨h4, h5, h6⟩, fun z => ?_⟩
          obtain ⟨c1, c2⟩ := b4 z
          obtain ⟨d1, d2, d3, d4, d5⟩ := h7 c1
          exact ⟨d1, d2, d3, d4, c2⟩
        · rw [if_neg k5] at ho
          by_cases k6 : 22 ≤ K x.1 ∧ K x.1 ≤ 27
          · rw [if_pos k6] at ho
            rw [tU_l k6]
            obtain ⟨t, g1, ho⟩ := sBi ho
            obtain ⟨u, g2, ho⟩ := sBi ho
            have ho := Sum.inr.inj ho
            subst ho
            obtain ⟨a1, a2⟩ := sGi h1 g1
            subst a1
            have g3 : prj (zLw K V (x.1 + 1)) = .inr u := (prj_Lw K V (x.1 + 1)).trans g2
            obtain ⟨p, g4, g5⟩ := sBi g3
            have g5 := Sum.inr.inj g5
            have hw := zLw_wf hV a2 g4
            refine ⟨by rw [← g5]; exact hw.1, ⟨h2, h3⟩, ⟨h4, h5, fun k bs hk => ?_⟩, h7⟩
            have hk : (if (k : Int) = K x.1 - 22 then some (lwC (zLw K V (x.1 + 1))) else T.2.2.2.2.2 k) = some bs := hk
            by_cases y : (k : Int) = K x.1 - 22
            · rw [if_pos y, g4] at hk
              have hk : p.2 = bs := Option.some.inj hk
              rw [← hk]
              exact hw.2
            · rw [if_neg y] at hk
              exact h6 k bs hk
          · rw [if_neg k6] at ho
            cases ho
theorem tI_run (hV : ∀ t, 0 ≤ V t) : ∀ (n : Nat) (x : sT) (T : tX) (p : sT × tX), tI x T → zRun K V N n x T = .inr p → tI p.1 p.2
  | 0, x, T, p, h, e => by
    have e := Sum.inr.inj e
    subst e
    exact h
  | n + 1, x, T, p, h, e => by
    unfold zRun at e
    by_cases q : K x.1 = 0
    · rw [if_pos q] at e
      have e := Sum.inr.inj e
      subst e
      exact h
    · rw [if_neg q] at e
      obtain ⟨y, e1, e2⟩ := sBi e
      exact tI_run hV n y _ p (tI_one hV h e1) e2
end WT
theorem uRf_all (p : Int → Bool) (b : Nat → Int) : ∀ (k i j : Nat), i ≤ j → j < uRf p b k i → p (b j) = true
  | 0, i, j, h1, h2 => by
    have h2 : j < i := h2
    omega
  | k + 1, i, j, h1, h2 => by
    unfold uRf at h2
    by_cases q : p (b i) = true
    · rw [if_pos q] at h2
      by_cases e : i = j
      · rw [← e]
        exact q
      · exact uRf_all p b k (i + 1) j (by omega) h2
    · rw [if_neg q] at h2
      omega
theorem cV_0 (b : Nat → Int) (n t : Nat) : 0 ≤ cV b n t := by
  unfold cV
  refine (dG _ (fun j hj => ?_)).1
  exact uRf_all uD b (n - uP b n t) (uP b n t) _ (by omega) (by unfold uR at hj; omega)
/-- a text read without a fault is well put -/
theorem rdT_wf {b : Nat → Int} {n : Nat} (h : (rdA b n).1 = 0) : wT (rdT b n) := by
  unfold rdA at h
  rw [← prT_Run _ _ _ 401 (0, 0, 0, [], (0, 0)) T0] at h
  unfold rdT
  have hi := fun p => tI_run (cV_0 b n) 401 (0, 0, 0, [], (0, 0)) T0 p (K := cK b n (fun k => wls.getD k 0)) (N := cN b n) ⟨by decide, ⟨rfl, rfl⟩, wT_0.1, fun _ => wT_0.2⟩
  have he := okE_Run (cK b n (fun k => wls.getD k 0)) (cV b n) (cN b n) 401 (0, 0, 0, [], (0, 0)) T0
  generalize zRun (cK b n (fun k => wls.getD k 0)) (cV b n) (cN b n) 401 (0, 0, 0, [], (0, 0)) T0 = r at *
  cases r with
  | inl e => exact absurd h (he e rfl)
  | inr p =>
    obtain ⟨-, -, h1, h2⟩ := hi p rfl
    refine ⟨h1, h2 ?_⟩
    have h : (if p.1.2.2.2.2.1 = 0 then ((0 : Int), (-1 : Int)) else (p.1.2.2.2.2.1, cP b n p.1.2.2.2.2.2)).1 = 0 := h
    by_cases q : p.1.2.2.2.2.1 = 0
    · exact q
    · rw [if_neg q] at h
      exact absurd h q
/-- the law's value: its branches over the vars that are told for it, held -/
def mkv (k : Int) (v : Nat → Int32) : Nat → Int32 := fun j => if tvs k j = true then v j else 0
def hdz (lo hi : Int) (x : Int) : Int := if x < lo then lo else if hi < x then hi else x
def lLo (k : Nat) : Int := if k = 1 ∨ k = 4 then -9 else 0
def lHi (k : Nat) : Int := if k = 2 ∨ k = 5 then 100 else if k = 3 then 99 else 9
noncomputable def lwR (T : tX) (k : Nat) (v : Nat → Int32) : Int32 := lwV (mkv k v) ((T.2.2.2.2.2 k).getD (pb k))
noncomputable def lwT (T : tX) (k : Nat) (v : Nat → Int32) : Int := hdz (lLo k) (lHi k) (lwR T k v).toInt
theorem wfL_pb (k : Nat) : wfL (pb k) := by
  unfold pb
  refine ⟨trivial, fun b hb => ?_⟩
  have hb := List.mem_singleton.mp hb
  subst hb
  refine ⟨?_, fun _ _ z => by cases z⟩
  show wfR [_] 0 1
  by_cases q1 : k = 1
  · simp only [if_pos q1]
    exact ⟨⟨⟨by decide, by decide⟩, fun _ => by decide, fun z => absurd z (by decide)⟩, fun _ => ⟨by decide, rfl⟩, fun z => absurd z (by decide)⟩
  · by_cases q2 : k = 2 ∨ k = 3
    · simp only [if_neg q1, if_pos q2]
      exact ⟨⟨⟨by decide, by decide⟩, fun z => absurd z (by decide), fun _ => by decide⟩, fun _ => ⟨by decide, rfl⟩, fun z => absurd z (by decide)⟩
    · simp only [if_neg q1, if_neg q2]
      exact ⟨⟨⟨by decide, by decide⟩, fun _ => by decide, fun z => absurd z (by decide)⟩, fun _ => ⟨by decide, rfl⟩, fun z => absurd z (by decide)⟩
theorem wfL_T {T : tX} (h : wT T) (k : Nat) : wfL ((T.2.2.2.2.2 k).getD (pb k)) := by
  cases e : T.2.2.2.2.2 k with
  | none => exact wfL_pb k
  | some bs => exact h.1.2.2 k bs e
theorem hdz_in {lo hi x : Int} (h : lo ≤ hi) : lo ≤ hdz lo hi x ∧ hdz lo hi x ≤ hi := by
  unfold hdz
  split
  · omega
  · split <;> omega
theorem lwT_in (T : tX) (k : Nat) (v : Nat → Int32) : lLo k ≤ lwT T k v ∧ lwT T k v ≤ lHi k := hdz_in (by unfold lLo lHi; (repeat' split) <;> omega)
end
section
/-! ===== the reference: terms, laws, what is asked, way by way ===== -/
/-! ===== what an int is, behind a veil ===== -/
def nzI (x : Int32) (z : Int) : Prop := x.toInt = z
theorem nzE {x : Int32} {z : Int} (h : nzI x z) : x.toInt = z := h
def nzIL (x : Int64) (z : Int) : Prop := x.toInt = z
/-! ===== a copied stretch, as a number of a run ===== -/
theorem hd_cp {F : Nat → sy_d} {k op : Nat} {i j n : sy_v} {a b : sy_a} {I J N : Int32} {f g : List Int32} (h : F k = sy_sem F (op, [i, j, n], [a, b])) (hi : sy_dv F i = .int I) (hj : sy_dv F j = .int J) (hn : sy_dv F n = .int N) (ha : sy_da F a = .inl f) (hb : sy_da F b = .inl g) : sy_da F (.inr (.inl k)) = .inl (jm_cpy f g I.toNatClampNeg J.toNatClampNeg N.toNatClampNeg) := by
  have e : F k = .inr (sy_cp (sy_da F a) (sy_da F b) (sy_dv F i) (sy_dv F j) (sy_dv F n)) := h
  rw [hi, hj, hn, ha, hb] at e
  have e2 : F k = .inr (.inl (jm_cpy f g I.toNatClampNeg J.toNatClampNeg N.toNatClampNeg)) := e
  simp only [sy_da, sy_ai, e2]
theorem yte_0_p0 {Ls : Nat} {xs : Nat → Int32} {d : Nat} {Q : Option Value → jm_h → Prop} (hd : 1 ≤ d) (F : Nat → sy_d) (X1 X2 : List jm_c) (hB : iv_in F iv_B4)
    (k : ∀ F1 : Nat → sy_d, (∀ j, j < 69 → True → F1 j = F j) → F1 69 = .inl (.int (sy_i F 70)) → F1 70 = .inl (.int ((0 : Int32))) → F1 71 = .inl (.int (sy_i F 69)) → hd_W Ls xs d jm_M166 Q (5, sy_dL F1 [some (.inl (.ref 1000)), none, some (.inr (.inl 69)), some (.inr (.inl 70)), some (.inr (.inl 71)), none, none, none], sy_dS F1 [], sy_dh F1 X1 X2 (iv_H 4), 0, 0)) :
    hd_W Ls xs d jm_M166 Q (0, sy_dL F [some (.inl (.ref 1000)), some (.inr (.inl 69)), some (.inr (.inl 70)), none, none, none, none, none], sy_dS F [], sy_dh F X1 X2 (iv_H 4), 0, 0) := by
  refine hd_run (s := 4) (nv := 71) (pc := 5) (L := [some (.inl (.ref 1000)), none, some (.inr (.inl 69)), some (.inr (.inl 70)), some (.inr (.inl 71)), none, none, none]) (S := []) (uh := hd_ov (iv_id 0 iv_B4) []) (ul := [.inl (.inr (.inl 70)), .inl (.inl (.int 0)), .inl (.inr (.inl 69))]) (f := true) (sp := [5]) (d0 := 0) (O := []) (T := []) (P := []) jm_ok166 (by decide +kernel) (by decide +kernel) hd F X1 X2 (fun F' hF hs => ?_)
  have b70 := hd_b (F := F) (F' := F') (k := 70) (hF 70 (by decide))
  have b69 := hd_b (F := F) (F' := F') (k := 69) (hF 69 (by decide))
  have hB' : iv_in F' iv_B4 := iv_in_eq hB (fun j hj => hF j (Nat.lt_of_lt_of_le hj (by decide +kernel)))
  refine ⟨fun _ h => absurd h List.not_mem_nil, ?_⟩
  refine k _ ?_ ?_ ?_ ?_
  · exact fun j hj _ => (hd_keep hB' (Nat.lt_of_lt_of_le hj (by decide +kernel)) (by simp)).trans (hF j (Nat.lt_of_lt_of_le hj (by decide)))
  · exact hd_gi (x := .inr (.inl 70)) (by decide +kernel) b70
  · exact hd_gi (x := .inl (.int 0)) (by decide +kernel) rfl
  · exact hd_gi (x := .inr (.inl 69)) (by decide +kernel) b69
theorem yte_0 {Ls : Nat} {xs : Nat → Int32} {d : Nat} {Q : Option Value → jm_h → Prop} (hd : 1 ≤ d) (F : Nat → sy_d) (X1 X2 : List jm_c) (hB : iv_in F iv_B4)
    (k0 : ∀ F1 : Nat → sy_d, iv_in F1 iv_B4 → (∀ j, j < 69 → j ∉ ([] : List Nat) → F1 j = F j) → (sy_i F1 69).toInt = (sy_i F 70).toInt → sy_i F1 69 = sy_i F 70 → (sy_i F1 70).toInt = 0 → sy_i F1 70 = (0 : Int32) → (sy_i F1 71).toInt = (sy_i F 69).toInt → sy_i F1 71 = sy_i F 69 → hd_W Ls xs d jm_M166 Q (5, sy_dL F1 [some (.inl (.ref 1000)), none, some (.inr (.inl 69)), some (.inr (.inl 70)), some (.inr (.inl 71)), none, none, none], sy_dS F1 [], sy_dh F1 X1 X2 (iv_H 4), 0, 0)) :
    hd_W Ls xs d jm_M166 Q (0, sy_dL F [some (.inl (.ref 1000)), some (.inr (.inl 69)), some (.inr (.inl 70)), none, none, none, none, none], sy_dS F [], sy_dh F X1 X2 (iv_H 4), 0, 0) := by
  exact yte_0_p0 hd F X1 X2 hB  (fun F1 g e69 e70 e71 => k0 F1 (nz_in hB [] (fun j hj hn => g j hj (by simp only [List.mem_cons, List.not_mem_nil, or_false, not_or] at hn; exact trivial)) (List.forall_mem_nil _)) (fun j hj hn => g j hj (by simp only [List.mem_cons, List.not_mem_nil, or_false, not_or] at hn; exact trivial)) ((congrArg Int32.toInt (zz_i e69)).trans (rfl : (sy_i F 70).toInt = (sy_i F 70).toInt)) ((zz_i e69).trans (rfl : sy_i F 70 = sy_i F 70)) ((congrArg Int32.toInt (zz_i e70)).trans (by decide : ((0 : Int32)).toInt = 0)) ((zz_i e70).trans (rfl : (0 : Int32) = (0 : Int32))) ((congrArg Int32.toInt (zz_i e71)).trans (rfl : (sy_i F 69).toInt = (sy_i F 69).toInt)) ((zz_i e71).trans (rfl : sy_i F 69 = sy_i F 69)))
theorem yte_5_p0 {Ls : Nat} {xs : Nat → Int32} {d : Nat} {Q : Option Value → jm_h → Prop} (hd : 1 ≤ d) (F : Nat → sy_d) (X1 X2 : List jm_c) (hB : iv_in F iv_B4)
    (h0 : (sy_i F 69).toInt ≤ (sy_i F 71).toInt)
    (k : ∀ F1 : Nat → sy_d, (∀ j, j < 69 → True → F1 j = F j) → Q (some (.int ((sy_ai F 53).getD ((0 : Int32)).toNatClampNeg 0))) (sy_dh F1 X1 X2 (iv_H 4))) :
    hd_W Ls xs d jm_M166 Q (5, sy_dL F [some (.inl (.ref 1000)), none, some (.inr (.inl 69)), some (.inr (.inl 70)), some (.inr (.inl 71)), none, none, none], sy_dS F [], sy_dh F X1 X2 (iv_H 4), 0, 0) := by
  refine hd_ret (s := 4) (nv := 72) (v := some (.inr (.inl 72))) (uh := hd_ov (iv_id 0 iv_B4) []) (f := true) (sp := [5]) (d0 := 0) (O := [true]) (T := [(30, [.inl (.int 0)], [.inr (.inl 53)])]) (P := [(4, .inr (.inl 69), .inr (.inl 71))]) jm_ok166 (by decide +kernel) (by decide +kernel) hd F X1 X2 (fun F' hF hs => ?_)
  have b69 := hd_b (F := F) (F' := F') (k := 69) (hF 69 (by decide))
  have b71 := hd_b (F := F) (F' := F') (k := 71) (hF 71 (by decide))
  have a53 := hd_ba (F := F) (F' := F') (k := 53) (hF 53 (by decide))
  have t72 : sy_dv F' (.inr (.inl 72)) = .int ((sy_ai F 53).getD ((0 : Int32)).toNatClampNeg 0) := hd_rd (hs 0 _ rfl) rfl a53
  have hB' : iv_in F' iv_B4 := iv_in_eq hB (fun j hj => hF j (Nat.lt_of_lt_of_le hj (by decide +kernel)))
  have hk := k (sy_cm F' (hd_ov (iv_id 0 iv_B4) [] ++ [])) (fun j hj _ => (hd_keep hB' (Nat.lt_of_lt_of_le hj (by decide +kernel)) (by simp)).trans (hF j (Nat.lt_of_lt_of_le hj (by decide))))
  refine ⟨List.forall_mem_cons.mpr ⟨hd_p4 b69 b71 h0, fun _ h => absurd h List.not_mem_nil⟩, ?_⟩
  show Q (some (sy_dv F' (.inr (.inl 72)))) _
  rw [t72]
  exact hk
theorem yte_5_p1 {Ls : Nat} {xs : Nat → Int32} {d : Nat} {Q : Option Value → jm_h → Prop} (hd : 1 ≤ d) (F : Nat → sy_d) (X1 X2 : List jm_c) (hB : iv_in F iv_B4)
    (h0 : (sy_i F 71).toInt < (sy_i F 69).toInt)
    (h1 : 0 ≤ (sy_i F 71).toInt ∧ (sy_i F 71).toInt < 840)
    (h2 : 2 ≤ ((sy_ai F 49).getD (sy_i F 71).toNatClampNeg 0).toInt)
    (h3 : 0 ≤ (((sy_i F 70) + (((-1) : Int32))) - ((1 : Int32))).toInt ∧ (((sy_i F 70) + (((-1) : Int32))) - ((1 : Int32))).toInt < 400)
    (h4 : 0 ≤ ((sy_i F 70) + (((-1) : Int32))).toInt ∧ ((sy_i F 70) + (((-1) : Int32))).toInt < 400)
    (h5 : ((sy_ai F 49).getD (sy_i F 71).toNatClampNeg 0).toInt ≠ 5)
    (h6 : ((sy_ai F 49).getD (sy_i F 71).toNatClampNeg 0).toInt ≠ 2)
    (h7 : ((sy_ai F 49).getD (sy_i F 71).toNatClampNeg 0).toInt ≠ 3)
    (h8 : ((sy_ai F 49).getD (sy_i F 71).toNatClampNeg 0).toInt = 4)
    (h9 : 0 ≤ (((sy_i F 70) + (((-1) : Int32))) - ((1 : Int32))).toInt ∧ (((sy_i F 70) + (((-1) : Int32))) - ((1 : Int32))).toInt < 400)
    (k : ∀ F1 : Nat → sy_d, (∀ j, j < 69 → j ≠ 53 → F1 j = F j) → F1 53 = .inr (.inl (jm_upd (sy_ai F 53) (((sy_i F 70) + (((-1) : Int32))) - ((1 : Int32))).toNatClampNeg (((sy_ai F 53).getD (((sy_i F 70) + (((-1) : Int32))) - ((1 : Int32))).toNatClampNeg 0) * ((sy_ai F 53).getD ((sy_i F 70) + (((-1) : Int32))).toNatClampNeg 0)))) → F1 69 = .inl (.int (sy_i F 69)) → F1 70 = .inl (.int ((sy_i F 70) + (((-1) : Int32)))) → F1 71 = .inl (.int ((sy_i F 71) + ((1 : Int32)))) → hd_W Ls xs d jm_M166 Q (5, sy_dL F1 [some (.inl (.ref 1000)), none, some (.inr (.inl 69)), some (.inr (.inl 70)), some (.inr (.inl 71)), none, none, none], sy_dS F1 [], sy_dh F1 X1 X2 (iv_H 4), 0, 0)) :
    hd_W Ls xs d jm_M166 Q (5, sy_dL F [some (.inl (.ref 1000)), none, some (.inr (.inl 69)), some (.inr (.inl 70)), some (.inr (.inl 71)), none, none, none], sy_dS F [], sy_dh F X1 X2 (iv_H 4), 0, 0) := by
  refine hd_run (s := 4) (nv := 72) (pc := 5) (L := [some (.inl (.ref 1000)), none, some (.inr (.inl 69)), some (.inr (.inl 70)), some (.inr (.inl 71)), none, none, none]) (S := []) (uh := hd_ov (iv_id 0 iv_B4) [(53, .inr (.inr (.inl 79)))]) (ul := [.inl (.inr (.inl 69)), .inl (.inr (.inl 73)), .inl (.inr (.inl 80))]) (f := true) (sp := [5]) (d0 := 0) (O := [false, true, true, true, true, false]) (T := [(30, [.inr (.inl 71)], [.inr (.inl 49)]), (0, [.inr (.inl 70), .inl (.int (-1))], []), (1, [.inr (.inl 73), .inl (.int 1)], []), (30, [.inr (.inl 74)], [.inr (.inl 53)]), (30, [.inr (.inl 73)], [.inr (.inl 53)]), (1, [.inr (.inl 73), .inl (.int 1)], []), (2, [.inr (.inl 75), .inr (.inl 76)], []), (40, [.inr (.inl 77), .inr (.inl 78)], [.inr (.inl 53)]), (0, [.inr (.inl 71), .inl (.int 1)], [])]) (P := [(5, .inr (.inl 69), .inr (.inl 71)), (6, .inr (.inl 71), .inl (.ref 840)), (4, .inl (.int 2), .inr (.inl 72)), (6, .inr (.inl 74), .inl (.ref 400)), (6, .inr (.inl 73), .inl (.ref 400)), (1, .inr (.inl 72), .inl (.int 5)), (1, .inr (.inl 72), .inl (.int 2)), (1, .inr (.inl 72), .inl (.int 3)), (0, .inr (.inl 72), .inl (.int 4)), (6, .inr (.inl 77), .inl (.ref 400))]) jm_ok166 (by decide +kernel) (by decide +kernel) hd F X1 X2 (fun F' hF hs => ?_)
  have b69 := hd_b (F := F) (F' := F') (k := 69) (hF 69 (by decide))
  have b71 := hd_b (F := F) (F' := F') (k := 71) (hF 71 (by decide))
  have a49 := hd_ba (F := F) (F' := F') (k := 49) (hF 49 (by decide))
  have t72 : sy_dv F' (.inr (.inl 72)) = .int ((sy_ai F 49).getD (sy_i F 71).toNatClampNeg 0) := hd_rd (hs 0 _ rfl) b71 a49
  have b70 := hd_b (F := F) (F' := F') (k := 70) (hF 70 (by decide))
  have t73 : sy_dv F' (.inr (.inl 73)) = .int ((sy_i F 70) + (((-1) : Int32))) := hd_o (hs 1 _ rfl) b70 rfl rfl
  have t74 : sy_dv F' (.inr (.inl 74)) = .int (((sy_i F 70) + (((-1) : Int32))) - ((1 : Int32))) := hd_o (hs 2 _ rfl) t73 rfl rfl
  have t77 : sy_dv F' (.inr (.inl 77)) = .int (((sy_i F 70) + (((-1) : Int32))) - ((1 : Int32))) := hd_o (hs 5 _ rfl) t73 rfl rfl
  have a53 := hd_ba (F := F) (F' := F') (k := 53) (hF 53 (by decide))
  have t75 : sy_dv F' (.inr (.inl 75)) = .int ((sy_ai F 53).getD (((sy_i F 70) + (((-1) : Int32))) - ((1 : Int32))).toNatClampNeg 0) := hd_rd (hs 3 _ rfl) t74 a53
  have t76 : sy_dv F' (.inr (.inl 76)) = .int ((sy_ai F 53).getD ((sy_i F 70) + (((-1) : Int32))).toNatClampNeg 0) := hd_rd (hs 4 _ rfl) t73 a53
  have t78 : sy_dv F' (.inr (.inl 78)) = .int (((sy_ai F 53).getD (((sy_i F 70) + (((-1) : Int32))) - ((1 : Int32))).toNatClampNeg 0) * ((sy_ai F 53).getD ((sy_i F 70) + (((-1) : Int32))).toNatClampNeg 0)) := hd_o (hs 6 _ rfl) t75 t76 rfl
  have t79 : sy_da F' (.inr (.inl 79)) = .inl (jm_upd (sy_ai F 53) (((sy_i F 70) + (((-1) : Int32))) - ((1 : Int32))).toNatClampNeg (((sy_ai F 53).getD (((sy_i F 70) + (((-1) : Int32))) - ((1 : Int32))).toNatClampNeg 0) * ((sy_ai F 53).getD ((sy_i F 70) + (((-1) : Int32))).toNatClampNeg 0))) := hd_up (hs 7 _ rfl) t77 t78 a53
  have t80 : sy_dv F' (.inr (.inl 80)) = .int ((sy_i F 71) + ((1 : Int32))) := hd_o (hs 8 _ rfl) b71 rfl rfl
  have hB' : iv_in F' iv_B4 := iv_in_eq hB (fun j hj => hF j (Nat.lt_of_lt_of_le hj (by decide +kernel)))
  refine ⟨List.forall_mem_cons.mpr ⟨hd_p5 b69 b71 h0, List.forall_mem_cons.mpr ⟨hd_pb b71 (by first | exact h1 | exact h1), List.forall_mem_cons.mpr ⟨hd_p4 rfl t72 (by have hc : ((2) : Int32).toInt = 2 := (by decide); omega), List.forall_mem_cons.mpr ⟨hd_pb t74 (by first | exact h3 | exact h3), List.forall_mem_cons.mpr ⟨hd_pb t73 (by first | exact h4 | exact h4), List.forall_mem_cons.mpr ⟨hd_p1 t72 rfl (by have hc : ((5) : Int32).toInt = 5 := (by decide); omega), List.forall_mem_cons.mpr ⟨hd_p1 t72 rfl (by have hc : ((2) : Int32).toInt = 2 := (by decide); omega), List.forall_mem_cons.mpr ⟨hd_p1 t72 rfl (by have hc : ((3) : Int32).toInt = 3 := (by decide); omega), List.forall_mem_cons.mpr ⟨hd_p0 t72 rfl (by have hc : ((4) : Int32).toInt = 4 := (by decide); omega), List.forall_mem_cons.mpr ⟨hd_pb t77 (by first | exact h9 | exact h9), fun _ h => absurd h List.not_mem_nil⟩⟩⟩⟩⟩⟩⟩⟩⟩⟩, ?_⟩
  refine k _ ?_ ?_ ?_ ?_ ?_
  · exact fun j hj hn => (hd_keep hB' (Nat.lt_of_lt_of_le hj (by decide +kernel)) (by simp; omega)).trans (hF j (Nat.lt_of_lt_of_le hj (by decide)))
  · exact hd_ga (a := .inr (.inl 79)) (by decide +kernel) t79
  · exact hd_gi (x := .inr (.inl 69)) (by decide +kernel) b69
  · exact hd_gi (x := .inr (.inl 73)) (by decide +kernel) t73
  · exact hd_gi (x := .inr (.inl 80)) (by decide +kernel) t80
theorem yte_5_p2 {Ls : Nat} {xs : Nat → Int32} {d : Nat} {Q : Option Value → jm_h → Prop} (hd : 1 ≤ d) (F : Nat → sy_d) (X1 X2 : List jm_c) (hB : iv_in F iv_B4)
    (h0 : (sy_i F 71).toInt < (sy_i F 69).toInt)
    (h1 : 0 ≤ (sy_i F 71).toInt ∧ (sy_i F 71).toInt < 840)
    (h2 : 2 ≤ ((sy_ai F 49).getD (sy_i F 71).toNatClampNeg 0).toInt)
    (h3 : 0 ≤ (((sy_i F 70) + (((-1) : Int32))) - ((1 : Int32))).toInt ∧ (((sy_i F 70) + (((-1) : Int32))) - ((1 : Int32))).toInt < 400)
    (h4 : 0 ≤ ((sy_i F 70) + (((-1) : Int32))).toInt ∧ ((sy_i F 70) + (((-1) : Int32))).toInt < 400)
    (h5 : ((sy_ai F 49).getD (sy_i F 71).toNatClampNeg 0).toInt ≠ 5)
    (h6 : ((sy_ai F 49).getD (sy_i F 71).toNatClampNeg 0).toInt ≠ 2)
    (h7 : ((sy_ai F 49).getD (sy_i F 71).toNatClampNeg 0).toInt = 3)
    (h8 : 0 ≤ (((sy_i F 70) + (((-1) : Int32))) - ((1 : Int32))).toInt ∧ (((sy_i F 70) + (((-1) : Int32))) - ((1 : Int32))).toInt < 400)
    (k : ∀ F1 : Nat → sy_d, (∀ j, j < 69 → j ≠ 53 → F1 j = F j) → F1 53 = .inr (.inl (jm_upd (sy_ai F 53) (((sy_i F 70) + (((-1) : Int32))) - ((1 : Int32))).toNatClampNeg (((sy_ai F 53).getD (((sy_i F 70) + (((-1) : Int32))) - ((1 : Int32))).toNatClampNeg 0) - ((sy_ai F 53).getD ((sy_i F 70) + (((-1) : Int32))).toNatClampNeg 0)))) → F1 69 = .inl (.int (sy_i F 69)) → F1 70 = .inl (.int ((sy_i F 70) + (((-1) : Int32)))) → F1 71 = .inl (.int ((sy_i F 71) + ((1 : Int32)))) → hd_W Ls xs d jm_M166 Q (5, sy_dL F1 [some (.inl (.ref 1000)), none, some (.inr (.inl 69)), some (.inr (.inl 70)), some (.inr (.inl 71)), none, none, none], sy_dS F1 [], sy_dh F1 X1 X2 (iv_H 4), 0, 0)) :
    hd_W Ls xs d jm_M166 Q (5, sy_dL F [some (.inl (.ref 1000)), none, some (.inr (.inl 69)), some (.inr (.inl 70)), some (.inr (.inl 71)), none, none, none], sy_dS F [], sy_dh F X1 X2 (iv_H 4), 0, 0) := by
  refine hd_run (s := 4) (nv := 72) (pc := 5) (L := [some (.inl (.ref 1000)), none, some (.inr (.inl 69)), some (.inr (.inl 70)), some (.inr (.inl 71)), none, none, none]) (S := []) (uh := hd_ov (iv_id 0 iv_B4) [(53, .inr (.inr (.inl 79)))]) (ul := [.inl (.inr (.inl 69)), .inl (.inr (.inl 73)), .inl (.inr (.inl 80))]) (f := true) (sp := [5]) (d0 := 0) (O := [false, true, true, true, false]) (T := [(30, [.inr (.inl 71)], [.inr (.inl 49)]), (0, [.inr (.inl 70), .inl (.int (-1))], []), (1, [.inr (.inl 73), .inl (.int 1)], []), (30, [.inr (.inl 74)], [.inr (.inl 53)]), (30, [.inr (.inl 73)], [.inr (.inl 53)]), (1, [.inr (.inl 73), .inl (.int 1)], []), (1, [.inr (.inl 75), .inr (.inl 76)], []), (40, [.inr (.inl 77), .inr (.inl 78)], [.inr (.inl 53)]), (0, [.inr (.inl 71), .inl (.int 1)], [])]) (P := [(5, .inr (.inl 69), .inr (.inl 71)), (6, .inr (.inl 71), .inl (.ref 840)), (4, .inl (.int 2), .inr (.inl 72)), (6, .inr (.inl 74), .inl (.ref 400)), (6, .inr (.inl 73), .inl (.ref 400)), (1, .inr (.inl 72), .inl (.int 5)), (1, .inr (.inl 72), .inl (.int 2)), (0, .inr (.inl 72), .inl (.int 3)), (6, .inr (.inl 77), .inl (.ref 400))]) jm_ok166 (by decide +kernel) (by decide +kernel) hd F X1 X2 (fun F' hF hs => ?_)
  have b69 := hd_b (F := F) (F' := F') (k := 69) (hF 69 (by decide))
  have b71 := hd_b (F := F) (F' := F') (k := 71) (hF 71 (by decide))
  have a49 := hd_ba (F := F) (F' := F') (k := 49) (hF 49 (by decide))
  have t72 : sy_dv F' (.inr (.inl 72)) = .int ((sy_ai F 49).getD (sy_i F 71).toNatClampNeg 0) := hd_rd (hs 0 _ rfl) b71 a49
  have b70 := hd_b (F := F) (F' := F') (k := 70) (hF 70 (by decide))
  have t73 : sy_dv F' (.inr (.inl 73)) = .int ((sy_i F 70) + (((-1) : Int32))) := hd_o (hs 1 _ rfl) b70 rfl rfl
  have t74 : sy_dv F' (.inr (.inl 74)) = .int (((sy_i F 70) + (((-1) : Int32))) - ((1 : Int32))) := hd_o (hs 2 _ rfl) t73 rfl rfl
  have t77 : sy_dv F' (.inr (.inl 77)) = .int (((sy_i F 70) + (((-1) : Int32))) - ((1 : Int32))) := hd_o (hs 5 _ rfl) t73 rfl rfl
  have a53 := hd_ba (F := F) (F' := F') (k := 53) (hF 53 (by decide))
  have t75 : sy_dv F' (.inr (.inl 75)) = .int ((sy_ai F 53).getD (((sy_i F 70) + (((-1) : Int32))) - ((1 : Int32))).toNatClampNeg 0) := hd_rd (hs 3 _ rfl) t74 a53
  have t76 : sy_dv F' (.inr (.inl 76)) = .int ((sy_ai F 53).getD ((sy_i F 70) + (((-1) : Int32))).toNatClampNeg 0) := hd_rd (hs 4 _ rfl) t73 a53
  have t78 : sy_dv F' (.inr (.inl 78)) = .int (((sy_ai F 53).getD (((sy_i F 70) + (((-1) : Int32))) - ((1 : Int32))).toNatClampNeg 0) - ((sy_ai F 53).getD ((sy_i F 70) + (((-1) : Int32))).toNatClampNeg 0)) := hd_o (hs 6 _ rfl) t75 t76 rfl
  have t79 : sy_da F' (.inr (.inl 79)) = .inl (jm_upd (sy_ai F 53) (((sy_i F 70) + (((-1) : Int32))) - ((1 : Int32))).toNatClampNeg (((sy_ai F 53).getD (((sy_i F 70) + (((-1) : Int32))) - ((1 : Int32))).toNatClampNeg 0) - ((sy_ai F 53).getD ((sy_i F 70) + (((-1) : Int32))).toNatClampNeg 0))) := hd_up (hs 7 _ rfl) t77 t78 a53
  have t80 : sy_dv F' (.inr (.inl 80)) = .int ((sy_i F 71) + ((1 : Int32))) := hd_o (hs 8 _ rfl) b71 rfl rfl
  have hB' : iv_in F' iv_B4 := iv_in_eq hB (fun j hj => hF j (Nat.lt_of_lt_of_le hj (by decide +kernel)))
  refine ⟨List.forall_mem_cons.mpr ⟨hd_p5 b69 b71 h0, List.forall_mem_cons.mpr ⟨hd_pb b71 (by first | exact h1 | exact h1), List.forall_mem_cons.mpr ⟨hd_p4 rfl t72 (by have hc : ((2) : Int32).toInt = 2 := (by decide); omega), List.forall_mem_cons.mpr ⟨hd_pb t74 (by first | exact h3 | exact h3), List.forall_mem_cons.mpr ⟨hd_pb t73 (by first | exact h4 | exact h4), List.forall_mem_cons.mpr ⟨hd_p1 t72 rfl (by have hc : ((5) : Int32).toInt = 5 := (by decide); omega), List.forall_mem_cons.mpr ⟨hd_p1 t72 rfl (by have hc : ((2) : Int32).toInt = 2 := (by decide); omega), List.forall_mem_cons.mpr ⟨hd_p0 t72 rfl (by have hc : ((3) : Int32).toInt = 3 := (by decide); omega), List.forall_mem_cons.mpr ⟨hd_pb t77 (by first | exact h8 | exact h8), fun _ h => absurd h List.not_mem_nil⟩⟩⟩⟩⟩⟩⟩⟩⟩, ?_⟩
  refine k _ ?_ ?_ ?_ ?_ ?_
  · exact fun j hj hn => (hd_keep hB' (Nat.lt_of_lt_of_le hj (by decide +kernel)) (by simp; omega)).trans (hF j (Nat.lt_of_lt_of_le hj (by decide)))
  · exact hd_ga (a := .inr (.inl 79)) (by decide +kernel) t79
  · exact hd_gi (x := .inr (.inl 69)) (by decide +kernel) b69
  · exact hd_gi (x := .inr (.inl 73)) (by decide +kernel) t73
  · exact hd_gi (x := .inr (.inl 80)) (by decide +kernel) t80
theorem yte_5_p3 {Ls : Nat} {xs : Nat → Int32} {d : Nat} {Q : Option Value → jm_h → Prop} (hd : 1 ≤ d) (F : Nat → sy_d) (X1 X2 : List jm_c) (hB : iv_in F iv_B4)
    (h0 : (sy_i F 71).toInt < (sy_i F 69).toInt)
    (h1 : 0 ≤ (sy_i F 71).toInt ∧ (sy_i F 71).toInt < 840)
    (h2 : 2 ≤ ((sy_ai F 49).getD (sy_i F 71).toNatClampNeg 0).toInt)
    (h3 : 0 ≤ (((sy_i F 70) + (((-1) : Int32))) - ((1 : Int32))).toInt ∧ (((sy_i F 70) + (((-1) : Int32))) - ((1 : Int32))).toInt < 400)
    (h4 : 0 ≤ ((sy_i F 70) + (((-1) : Int32))).toInt ∧ ((sy_i F 70) + (((-1) : Int32))).toInt < 400)
    (h5 : ((sy_ai F 49).getD (sy_i F 71).toNatClampNeg 0).toInt ≠ 5)
    (h6 : ((sy_ai F 49).getD (sy_i F 71).toNatClampNeg 0).toInt = 2)
    (h7 : 0 ≤ (((sy_i F 70) + (((-1) : Int32))) - ((1 : Int32))).toInt ∧ (((sy_i F 70) + (((-1) : Int32))) - ((1 : Int32))).toInt < 400)
    (k : ∀ F1 : Nat → sy_d, (∀ j, j < 69 → j ≠ 53 → F1 j = F j) → F1 53 = .inr (.inl (jm_upd (sy_ai F 53) (((sy_i F 70) + (((-1) : Int32))) - ((1 : Int32))).toNatClampNeg (((sy_ai F 53).getD (((sy_i F 70) + (((-1) : Int32))) - ((1 : Int32))).toNatClampNeg 0) + ((sy_ai F 53).getD ((sy_i F 70) + (((-1) : Int32))).toNatClampNeg 0)))) → F1 69 = .inl (.int (sy_i F 69)) → F1 70 = .inl (.int ((sy_i F 70) + (((-1) : Int32)))) → F1 71 = .inl (.int ((sy_i F 71) + ((1 : Int32)))) → hd_W Ls xs d jm_M166 Q (5, sy_dL F1 [some (.inl (.ref 1000)), none, some (.inr (.inl 69)), some (.inr (.inl 70)), some (.inr (.inl 71)), none, none, none], sy_dS F1 [], sy_dh F1 X1 X2 (iv_H 4), 0, 0)) :
    hd_W Ls xs d jm_M166 Q (5, sy_dL F [some (.inl (.ref 1000)), none, some (.inr (.inl 69)), some (.inr (.inl 70)), some (.inr (.inl 71)), none, none, none], sy_dS F [], sy_dh F X1 X2 (iv_H 4), 0, 0) := by
  refine hd_run (s := 4) (nv := 72) (pc := 5) (L := [some (.inl (.ref 1000)), none, some (.inr (.inl 69)), some (.inr (.inl 70)), some (.inr (.inl 71)), none, none, none]) (S := []) (uh := hd_ov (iv_id 0 iv_B4) [(53, .inr (.inr (.inl 79)))]) (ul := [.inl (.inr (.inl 69)), .inl (.inr (.inl 73)), .inl (.inr (.inl 80))]) (f := true) (sp := [5]) (d0 := 0) (O := [false, true, true, false]) (T := [(30, [.inr (.inl 71)], [.inr (.inl 49)]), (0, [.inr (.inl 70), .inl (.int (-1))], []), (1, [.inr (.inl 73), .inl (.int 1)], []), (30, [.inr (.inl 74)], [.inr (.inl 53)]), (30, [.inr (.inl 73)], [.inr (.inl 53)]), (1, [.inr (.inl 73), .inl (.int 1)], []), (0, [.inr (.inl 75), .inr (.inl 76)], []), (40, [.inr (.inl 77), .inr (.inl 78)], [.inr (.inl 53)]), (0, [.inr (.inl 71), .inl (.int 1)], [])]) (P := [(5, .inr (.inl 69), .inr (.inl 71)), (6, .inr (.inl 71), .inl (.ref 840)), (4, .inl (.int 2), .inr (.inl 72)), (6, .inr (.inl 74), .inl (.ref 400)), (6, .inr (.inl 73), .inl (.ref 400)), (1, .inr (.inl 72), .inl (.int 5)), (0, .inr (.inl 72), .inl (.int 2)), (6, .inr (.inl 77), .inl (.ref 400))]) jm_ok166 (by decide +kernel) (by decide +kernel) hd F X1 X2 (fun F' hF hs => ?_)
  have b69 := hd_b (F := F) (F' := F') (k := 69) (hF 69 (by decide))
  have b71 := hd_b (F := F) (F' := F') (k := 71) (hF 71 (by decide))
  have a49 := hd_ba (F := F) (F' := F') (k := 49) (hF 49 (by decide))
  have t72 : sy_dv F' (.inr (.inl 72)) = .int ((sy_ai F 49).getD (sy_i F 71).toNatClampNeg 0) := hd_rd (hs 0 _ rfl) b71 a49
  have b70 := hd_b (F := F) (F' := F') (k := 70) (hF 70 (by decide))
  have t73 : sy_dv F' (.inr (.inl 73)) = .int ((sy_i F 70) + (((-1) : Int32))) := hd_o (hs 1 _ rfl) b70 rfl rfl
  have t74 : sy_dv F' (.inr (.inl 74)) = .int (((sy_i F 70) + (((-1) : Int32))) - ((1 : Int32))) := hd_o (hs 2 _ rfl) t73 rfl rfl
  have t77 : sy_dv F' (.inr (.inl 77)) = .int (((sy_i F 70) + (((-1) : Int32))) - ((1 : Int32))) := hd_o (hs 5 _ rfl) t73 rfl rfl
  have a53 := hd_ba (F := F) (F' := F') (k := 53) (hF 53 (by decide))
  have t75 : sy_dv F' (.inr (.inl 75)) = .int ((sy_ai F 53).getD (((sy_i F 70) + (((-1) : Int32))) - ((1 : Int32))).toNatClampNeg 0) := hd_rd (hs 3 _ rfl) t74 a53
  have t76 : sy_dv F' (.inr (.inl 76)) = .int ((sy_ai F 53).getD ((sy_i F 70) + (((-1) : Int32))).toNatClampNeg 0) := hd_rd (hs 4 _ rfl) t73 a53
  have t78 : sy_dv F' (.inr (.inl 78)) = .int (((sy_ai F 53).getD (((sy_i F 70) + (((-1) : Int32))) - ((1 : Int32))).toNatClampNeg 0) + ((sy_ai F 53).getD ((sy_i F 70) + (((-1) : Int32))).toNatClampNeg 0)) := hd_o (hs 6 _ rfl) t75 t76 rfl
  have t79 : sy_da F' (.inr (.inl 79)) = .inl (jm_upd (sy_ai F 53) (((sy_i F 70) + (((-1) : Int32))) - ((1 : Int32))).toNatClampNeg (((sy_ai F 53).getD (((sy_i F 70) + (((-1) : Int32))) - ((1 : Int32))).toNatClampNeg 0) + ((sy_ai F 53).getD ((sy_i F 70) + (((-1) : Int32))).toNatClampNeg 0))) := hd_up (hs 7 _ rfl) t77 t78 a53
  have t80 : sy_dv F' (.inr (.inl 80)) = .int ((sy_i F 71) + ((1 : Int32))) := hd_o (hs 8 _ rfl) b71 rfl rfl
  have hB' : iv_in F' iv_B4 := iv_in_eq hB (fun j hj => hF j (Nat.lt_of_lt_of_le hj (by decide +kernel)))
  refine ⟨List.forall_mem_cons.mpr ⟨hd_p5 b69 b71 h0, List.forall_mem_cons.mpr ⟨hd_pb b71 (by first | exact h1 | exact h1), List.forall_mem_cons.mpr ⟨hd_p4 rfl t72 (by have hc : ((2) : Int32).toInt = 2 := (by decide); omega), List.forall_mem_cons.mpr ⟨hd_pb t74 (by first | exact h3 | exact h3), List.forall_mem_cons.mpr ⟨hd_pb t73 (by first | exact h4 | exact h4), List.forall_mem_cons.mpr ⟨hd_p1 t72 rfl (by have hc : ((5) : Int32).toInt = 5 := (by decide); omega), List.forall_mem_cons.mpr ⟨hd_p0 t72 rfl (by have hc : ((2) : Int32).toInt = 2 := (by decide); omega), List.forall_mem_cons.mpr ⟨hd_pb t77 (by first | exact h7 | exact h7), fun _ h => absurd h List.not_mem_nil⟩⟩⟩⟩⟩⟩⟩⟩, ?_⟩
  refine k _ ?_ ?_ ?_ ?_ ?_
  · exact fun j hj hn => (hd_keep hB' (Nat.lt_of_lt_of_le hj (by decide +kernel)) (by simp; omega)).trans (hF j (Nat.lt_of_lt_of_le hj (by decide)))
  · exact hd_ga (a := .inr (.inl 79)) (by decide +kernel) t79
  · exact hd_gi (x := .inr (.inl 69)) (by decide +kernel) b69
  · exact hd_gi (x := .inr (.inl 73)) (by decide +kernel) t73
  · exact hd_gi (x := .inr (.inl 80)) (by decide +kernel) t80
theorem yte_5_p4 {Ls : Nat} {xs : Nat → Int32} {d : Nat} {Q : Option Value → jm_h → Prop} (hd : 1 ≤ d) (F : Nat → sy_d) (X1 X2 : List jm_c) (hB : iv_in F iv_B4)
    (h0 : (sy_i F 71).toInt < (sy_i F 69).toInt)
    (h1 : 0 ≤ (sy_i F 71).toInt ∧ (sy_i F 71).toInt < 840)
    (h2 : 2 ≤ ((sy_ai F 49).getD (sy_i F 71).toNatClampNeg 0).toInt)
    (h3 : 0 ≤ (((sy_i F 70) + (((-1) : Int32))) - ((1 : Int32))).toInt ∧ (((sy_i F 70) + (((-1) : Int32))) - ((1 : Int32))).toInt < 400)
    (h4 : 0 ≤ ((sy_i F 70) + (((-1) : Int32))).toInt ∧ ((sy_i F 70) + (((-1) : Int32))).toInt < 400)
    (h5 : ((sy_ai F 49).getD (sy_i F 71).toNatClampNeg 0).toInt = 5)
    (h6 : ((sy_ai F 53).getD ((sy_i F 70) + (((-1) : Int32))).toNatClampNeg 0).toInt ≠ 0)
    (h7 : ((sy_ai F 49).getD (sy_i F 71).toNatClampNeg 0).toInt ≠ 2)
    (h8 : ((sy_ai F 49).getD (sy_i F 71).toNatClampNeg 0).toInt ≠ 3)
    (h9 : ((sy_ai F 49).getD (sy_i F 71).toNatClampNeg 0).toInt ≠ 4)
    (h10 : ((sy_ai F 53).getD ((sy_i F 70) + (((-1) : Int32))).toNatClampNeg 0).toInt ≠ 0)
    (h11 : 0 ≤ (((sy_i F 70) + (((-1) : Int32))) - ((1 : Int32))).toInt ∧ (((sy_i F 70) + (((-1) : Int32))) - ((1 : Int32))).toInt < 400)
    (k : ∀ F1 : Nat → sy_d, (∀ j, j < 69 → j ≠ 53 → F1 j = F j) → F1 53 = .inr (.inl (jm_upd (sy_ai F 53) (((sy_i F 70) + (((-1) : Int32))) - ((1 : Int32))).toNatClampNeg (((sy_ai F 53).getD (((sy_i F 70) + (((-1) : Int32))) - ((1 : Int32))).toNatClampNeg 0) / ((sy_ai F 53).getD ((sy_i F 70) + (((-1) : Int32))).toNatClampNeg 0)))) → F1 69 = .inl (.int (sy_i F 69)) → F1 70 = .inl (.int ((sy_i F 70) + (((-1) : Int32)))) → F1 71 = .inl (.int ((sy_i F 71) + ((1 : Int32)))) → hd_W Ls xs d jm_M166 Q (5, sy_dL F1 [some (.inl (.ref 1000)), none, some (.inr (.inl 69)), some (.inr (.inl 70)), some (.inr (.inl 71)), none, none, none], sy_dS F1 [], sy_dh F1 X1 X2 (iv_H 4), 0, 0)) :
    hd_W Ls xs d jm_M166 Q (5, sy_dL F [some (.inl (.ref 1000)), none, some (.inr (.inl 69)), some (.inr (.inl 70)), some (.inr (.inl 71)), none, none, none], sy_dS F [], sy_dh F X1 X2 (iv_H 4), 0, 0) := by
  refine hd_run (s := 4) (nv := 72) (pc := 5) (L := [some (.inl (.ref 1000)), none, some (.inr (.inl 69)), some (.inr (.inl 70)), some (.inr (.inl 71)), none, none, none]) (S := []) (uh := hd_ov (iv_id 0 iv_B4) [(53, .inr (.inr (.inl 79)))]) (ul := [.inl (.inr (.inl 69)), .inl (.inr (.inl 73)), .inl (.inr (.inl 80))]) (f := true) (sp := [5]) (d0 := 0) (O := [false, true, false, true, true, true, true]) (T := [(30, [.inr (.inl 71)], [.inr (.inl 49)]), (0, [.inr (.inl 70), .inl (.int (-1))], []), (1, [.inr (.inl 73), .inl (.int 1)], []), (30, [.inr (.inl 74)], [.inr (.inl 53)]), (30, [.inr (.inl 73)], [.inr (.inl 53)]), (1, [.inr (.inl 73), .inl (.int 1)], []), (9, [.inr (.inl 75), .inr (.inl 76)], []), (40, [.inr (.inl 77), .inr (.inl 78)], [.inr (.inl 53)]), (0, [.inr (.inl 71), .inl (.int 1)], [])]) (P := [(5, .inr (.inl 69), .inr (.inl 71)), (6, .inr (.inl 71), .inl (.ref 840)), (4, .inl (.int 2), .inr (.inl 72)), (6, .inr (.inl 74), .inl (.ref 400)), (6, .inr (.inl 73), .inl (.ref 400)), (0, .inr (.inl 72), .inl (.int 5)), (1, .inr (.inl 76), .inl (.int 0)), (1, .inr (.inl 72), .inl (.int 2)), (1, .inr (.inl 72), .inl (.int 3)), (1, .inr (.inl 72), .inl (.int 4)), (1, .inr (.inl 76), .inl (.int 0)), (6, .inr (.inl 77), .inl (.ref 400))]) jm_ok166 (by decide +kernel) (by decide +kernel) hd F X1 X2 (fun F' hF hs => ?_)
  have b69 := hd_b (F := F) (F' := F') (k := 69) (hF 69 (by decide))
  have b71 := hd_b (F := F) (F' := F') (k := 71) (hF 71 (by decide))
  have a49 := hd_ba (F := F) (F' := F') (k := 49) (hF 49 (by decide))
  have t72 : sy_dv F' (.inr (.inl 72)) = .int ((sy_ai F 49).getD (sy_i F 71).toNatClampNeg 0) := hd_rd (hs 0 _ rfl) b71 a49
  have b70 := hd_b (F := F) (F' := F') (k := 70) (hF 70 (by decide))
  have t73 : sy_dv F' (.inr (.inl 73)) = .int ((sy_i F 70) + (((-1) : Int32))) := hd_o (hs 1 _ rfl) b70 rfl rfl
  have t74 : sy_dv F' (.inr (.inl 74)) = .int (((sy_i F 70) + (((-1) : Int32))) - ((1 : Int32))) := hd_o (hs 2 _ rfl) t73 rfl rfl
  have a53 := hd_ba (F := F) (F' := F') (k := 53) (hF 53 (by decide))
  have t76 : sy_dv F' (.inr (.inl 76)) = .int ((sy_ai F 53).getD ((sy_i F 70) + (((-1) : Int32))).toNatClampNeg 0) := hd_rd (hs 4 _ rfl) t73 a53
  have t77 : sy_dv F' (.inr (.inl 77)) = .int (((sy_i F 70) + (((-1) : Int32))) - ((1 : Int32))) := hd_o (hs 5 _ rfl) t73 rfl rfl
  have t75 : sy_dv F' (.inr (.inl 75)) = .int ((sy_ai F 53).getD (((sy_i F 70) + (((-1) : Int32))) - ((1 : Int32))).toNatClampNeg 0) := hd_rd (hs 3 _ rfl) t74 a53
  have t78 : sy_dv F' (.inr (.inl 78)) = .int (((sy_ai F 53).getD (((sy_i F 70) + (((-1) : Int32))) - ((1 : Int32))).toNatClampNeg 0) / ((sy_ai F 53).getD ((sy_i F 70) + (((-1) : Int32))).toNatClampNeg 0)) := hd_o (hs 6 _ rfl) t75 t76 rfl
  have t79 : sy_da F' (.inr (.inl 79)) = .inl (jm_upd (sy_ai F 53) (((sy_i F 70) + (((-1) : Int32))) - ((1 : Int32))).toNatClampNeg (((sy_ai F 53).getD (((sy_i F 70) + (((-1) : Int32))) - ((1 : Int32))).toNatClampNeg 0) / ((sy_ai F 53).getD ((sy_i F 70) + (((-1) : Int32))).toNatClampNeg 0))) := hd_up (hs 7 _ rfl) t77 t78 a53
  have t80 : sy_dv F' (.inr (.inl 80)) = .int ((sy_i F 71) + ((1 : Int32))) := hd_o (hs 8 _ rfl) b71 rfl rfl
  have hB' : iv_in F' iv_B4 := iv_in_eq hB (fun j hj => hF j (Nat.lt_of_lt_of_le hj (by decide +kernel)))
  refine ⟨List.forall_mem_cons.mpr ⟨hd_p5 b69 b71 h0, List.forall_mem_cons.mpr ⟨hd_pb b71 (by first | exact h1 | exact h1), List.forall_mem_cons.mpr ⟨hd_p4 rfl t72 (by have hc : ((2) : Int32).toInt = 2 := (by decide); omega), List.forall_mem_cons.mpr ⟨hd_pb t74 (by first | exact h3 | exact h3), List.forall_mem_cons.mpr ⟨hd_pb t73 (by first | exact h4 | exact h4), List.forall_mem_cons.mpr ⟨hd_p0 t72 rfl (by have hc : ((5) : Int32).toInt = 5 := (by decide); omega), List.forall_mem_cons.mpr ⟨hd_p1 t76 rfl (by have hc : ((0) : Int32).toInt = 0 := (by decide); omega), List.forall_mem_cons.mpr ⟨hd_p1 t72 rfl (by have hc : ((2) : Int32).toInt = 2 := (by decide); omega), List.forall_mem_cons.mpr ⟨hd_p1 t72 rfl (by have hc : ((3) : Int32).toInt = 3 := (by decide); omega), List.forall_mem_cons.mpr ⟨hd_p1 t72 rfl (by have hc : ((4) : Int32).toInt = 4 := (by decide); omega), List.forall_mem_cons.mpr ⟨hd_p1 t76 rfl (by have hc : ((0) : Int32).toInt = 0 := (by decide); omega), List.forall_mem_cons.mpr ⟨hd_pb t77 (by first | exact h11 | exact h11), fun _ h => absurd h List.not_mem_nil⟩⟩⟩⟩⟩⟩⟩⟩⟩⟩⟩⟩, ?_⟩
  refine k _ ?_ ?_ ?_ ?_ ?_
  · exact fun j hj hn => (hd_keep hB' (Nat.lt_of_lt_of_le hj (by decide +kernel)) (by simp; omega)).trans (hF j (Nat.lt_of_lt_of_le hj (by decide)))
  · exact hd_ga (a := .inr (.inl 79)) (by decide +kernel) t79
  · exact hd_gi (x := .inr (.inl 69)) (by decide +kernel) b69
  · exact hd_gi (x := .inr (.inl 73)) (by decide +kernel) t73
  · exact hd_gi (x := .inr (.inl 80)) (by decide +kernel) t80
theorem yte_5_p5 {Ls : Nat} {xs : Nat → Int32} {d : Nat} {Q : Option Value → jm_h → Prop} (hd : 1 ≤ d) (F : Nat → sy_d) (X1 X2 : List jm_c) (hB : iv_in F iv_B4)
    (h0 : (sy_i F 71).toInt < (sy_i F 69).toInt)
    (h1 : 0 ≤ (sy_i F 71).toInt ∧ (sy_i F 71).toInt < 840)
    (h2 : 2 ≤ ((sy_ai F 49).getD (sy_i F 71).toNatClampNeg 0).toInt)
    (h3 : 0 ≤ (((sy_i F 70) + (((-1) : Int32))) - ((1 : Int32))).toInt ∧ (((sy_i F 70) + (((-1) : Int32))) - ((1 : Int32))).toInt < 400)
    (h4 : 0 ≤ ((sy_i F 70) + (((-1) : Int32))).toInt ∧ ((sy_i F 70) + (((-1) : Int32))).toInt < 400)
    (h5 : ((sy_ai F 49).getD (sy_i F 71).toNatClampNeg 0).toInt = 5)
    (h6 : ((sy_ai F 53).getD ((sy_i F 70) + (((-1) : Int32))).toNatClampNeg 0).toInt = 0)
    (k : ∀ F1 : Nat → sy_d, (∀ j, j < 69 → j ≠ 17 → F1 j = F j) → F1 17 = .inl (.int ((1 : Int32))) → Q (some (.int ((0 : Int32)))) (sy_dh F1 X1 X2 (iv_H 4))) :
    hd_W Ls xs d jm_M166 Q (5, sy_dL F [some (.inl (.ref 1000)), none, some (.inr (.inl 69)), some (.inr (.inl 70)), some (.inr (.inl 71)), none, none, none], sy_dS F [], sy_dh F X1 X2 (iv_H 4), 0, 0) := by
  refine hd_ret (s := 4) (nv := 72) (v := some (.inl (.int 0))) (uh := hd_ov (iv_id 0 iv_B4) [(17, .inl (.inl (.int 1)))]) (f := true) (sp := [5]) (d0 := 0) (O := [false, true, false, false]) (T := [(30, [.inr (.inl 71)], [.inr (.inl 49)]), (0, [.inr (.inl 70), .inl (.int (-1))], []), (1, [.inr (.inl 73), .inl (.int 1)], []), (30, [.inr (.inl 74)], [.inr (.inl 53)]), (30, [.inr (.inl 73)], [.inr (.inl 53)])]) (P := [(5, .inr (.inl 69), .inr (.inl 71)), (6, .inr (.inl 71), .inl (.ref 840)), (4, .inl (.int 2), .inr (.inl 72)), (6, .inr (.inl 74), .inl (.ref 400)), (6, .inr (.inl 73), .inl (.ref 400)), (0, .inr (.inl 72), .inl (.int 5)), (0, .inr (.inl 76), .inl (.int 0))]) jm_ok166 (by decide +kernel) (by decide +kernel) hd F X1 X2 (fun F' hF hs => ?_)
  have b69 := hd_b (F := F) (F' := F') (k := 69) (hF 69 (by decide))
  have b71 := hd_b (F := F) (F' := F') (k := 71) (hF 71 (by decide))
  have a49 := hd_ba (F := F) (F' := F') (k := 49) (hF 49 (by decide))
  have t72 : sy_dv F' (.inr (.inl 72)) = .int ((sy_ai F 49).getD (sy_i F 71).toNatClampNeg 0) := hd_rd (hs 0 _ rfl) b71 a49
  have b70 := hd_b (F := F) (F' := F') (k := 70) (hF 70 (by decide))
  have t73 : sy_dv F' (.inr (.inl 73)) = .int ((sy_i F 70) + (((-1) : Int32))) := hd_o (hs 1 _ rfl) b70 rfl rfl
  have t74 : sy_dv F' (.inr (.inl 74)) = .int (((sy_i F 70) + (((-1) : Int32))) - ((1 : Int32))) := hd_o (hs 2 _ rfl) t73 rfl rfl
  have a53 := hd_ba (F := F) (F' := F') (k := 53) (hF 53 (by decide))
  have t76 : sy_dv F' (.inr (.inl 76)) = .int ((sy_ai F 53).getD ((sy_i F 70) + (((-1) : Int32))).toNatClampNeg 0) := hd_rd (hs 4 _ rfl) t73 a53
  have hB' : iv_in F' iv_B4 := iv_in_eq hB (fun j hj => hF j (Nat.lt_of_lt_of_le hj (by decide +kernel)))
  refine ⟨List.forall_mem_cons.mpr ⟨hd_p5 b69 b71 h0, List.forall_mem_cons.mpr ⟨hd_pb b71 (by first | exact h1 | exact h1), List.forall_mem_cons.mpr ⟨hd_p4 rfl t72 (by have hc : ((2) : Int32).toInt = 2 := (by decide); omega), List.forall_mem_cons.mpr ⟨hd_pb t74 (by first | exact h3 | exact h3), List.forall_mem_cons.mpr ⟨hd_pb t73 (by first | exact h4 | exact h4), List.forall_mem_cons.mpr ⟨hd_p0 t72 rfl (by have hc : ((5) : Int32).toInt = 5 := (by decide); omega), List.forall_mem_cons.mpr ⟨hd_p0 t76 rfl (by have hc : ((0) : Int32).toInt = 0 := (by decide); omega), fun _ h => absurd h List.not_mem_nil⟩⟩⟩⟩⟩⟩⟩, ?_⟩
  refine k _ ?_ ?_
  · exact fun j hj hn => (hd_keep hB' (Nat.lt_of_lt_of_le hj (by decide +kernel)) (by simp; omega)).trans (hF j (Nat.lt_of_lt_of_le hj (by decide)))
  · exact hd_gi (x := .inl (.int 1)) (by decide +kernel) rfl
theorem yte_5_p6 {Ls : Nat} {xs : Nat → Int32} {d : Nat} {Q : Option Value → jm_h → Prop} (hd : 1 ≤ d) (F : Nat → sy_d) (X1 X2 : List jm_c) (hB : iv_in F iv_B4)
    (h0 : (sy_i F 71).toInt < (sy_i F 69).toInt)
    (h1 : 0 ≤ (sy_i F 71).toInt ∧ (sy_i F 71).toInt < 840)
    (h2 : ((sy_ai F 49).getD (sy_i F 71).toNatClampNeg 0).toInt < 2)
    (h3 : ((sy_ai F 49).getD (sy_i F 71).toNatClampNeg 0).toInt ≠ 0)
    (h4 : 0 ≤ (sy_i F 71).toInt ∧ (sy_i F 71).toInt < 840)
    (h5 : 0 ≤ ((sy_ai F 50).getD (sy_i F 71).toNatClampNeg 0).toInt ∧ ((sy_ai F 50).getD (sy_i F 71).toNatClampNeg 0).toInt < 9)
    (h6 : 0 ≤ (sy_i F 70).toInt ∧ (sy_i F 70).toInt < 400)
    (k : ∀ F1 : Nat → sy_d, (∀ j, j < 69 → j ≠ 53 → F1 j = F j) → F1 53 = .inr (.inl (jm_upd (sy_ai F 53) (sy_i F 70).toNatClampNeg ((sy_ai F 52).getD ((sy_ai F 50).getD (sy_i F 71).toNatClampNeg 0).toNatClampNeg 0))) → F1 69 = .inl (.int (sy_i F 69)) → F1 70 = .inl (.int ((sy_i F 70) + ((1 : Int32)))) → F1 71 = .inl (.int ((sy_i F 71) + ((1 : Int32)))) → hd_W Ls xs d jm_M166 Q (5, sy_dL F1 [some (.inl (.ref 1000)), none, some (.inr (.inl 69)), some (.inr (.inl 70)), some (.inr (.inl 71)), none, none, none], sy_dS F1 [], sy_dh F1 X1 X2 (iv_H 4), 0, 0)) :
    hd_W Ls xs d jm_M166 Q (5, sy_dL F [some (.inl (.ref 1000)), none, some (.inr (.inl 69)), some (.inr (.inl 70)), some (.inr (.inl 71)), none, none, none], sy_dS F [], sy_dh F X1 X2 (iv_H 4), 0, 0) := by
  refine hd_run (s := 4) (nv := 72) (pc := 5) (L := [some (.inl (.ref 1000)), none, some (.inr (.inl 69)), some (.inr (.inl 70)), some (.inr (.inl 71)), none, none, none]) (S := []) (uh := hd_ov (iv_id 0 iv_B4) [(53, .inr (.inr (.inl 75)))]) (ul := [.inl (.inr (.inl 69)), .inl (.inr (.inl 76)), .inl (.inr (.inl 77))]) (f := true) (sp := [5]) (d0 := 0) (O := [false, false, true]) (T := [(30, [.inr (.inl 71)], [.inr (.inl 49)]), (30, [.inr (.inl 71)], [.inr (.inl 50)]), (30, [.inr (.inl 73)], [.inr (.inl 52)]), (40, [.inr (.inl 70), .inr (.inl 74)], [.inr (.inl 53)]), (0, [.inr (.inl 70), .inl (.int 1)], []), (0, [.inr (.inl 71), .inl (.int 1)], [])]) (P := [(5, .inr (.inl 69), .inr (.inl 71)), (6, .inr (.inl 71), .inl (.ref 840)), (5, .inl (.int 2), .inr (.inl 72)), (1, .inr (.inl 72), .inl (.int 0)), (6, .inr (.inl 71), .inl (.ref 840)), (6, .inr (.inl 73), .inl (.ref 9)), (6, .inr (.inl 70), .inl (.ref 400))]) jm_ok166 (by decide +kernel) (by decide +kernel) hd F X1 X2 (fun F' hF hs => ?_)
  have b69 := hd_b (F := F) (F' := F') (k := 69) (hF 69 (by decide))
  have b71 := hd_b (F := F) (F' := F') (k := 71) (hF 71 (by decide))
  have a49 := hd_ba (F := F) (F' := F') (k := 49) (hF 49 (by decide))
  have t72 : sy_dv F' (.inr (.inl 72)) = .int ((sy_ai F 49).getD (sy_i F 71).toNatClampNeg 0) := hd_rd (hs 0 _ rfl) b71 a49
  have a50 := hd_ba (F := F) (F' := F') (k := 50) (hF 50 (by decide))
  have t73 : sy_dv F' (.inr (.inl 73)) = .int ((sy_ai F 50).getD (sy_i F 71).toNatClampNeg 0) := hd_rd (hs 1 _ rfl) b71 a50
  have b70 := hd_b (F := F) (F' := F') (k := 70) (hF 70 (by decide))
  have a52 := hd_ba (F := F) (F' := F') (k := 52) (hF 52 (by decide))
  have t74 : sy_dv F' (.inr (.inl 74)) = .int ((sy_ai F 52).getD ((sy_ai F 50).getD (sy_i F 71).toNatClampNeg 0).toNatClampNeg 0) := hd_rd (hs 2 _ rfl) t73 a52
  have a53 := hd_ba (F := F) (F' := F') (k := 53) (hF 53 (by decide))
  have t75 : sy_da F' (.inr (.inl 75)) = .inl (jm_upd (sy_ai F 53) (sy_i F 70).toNatClampNeg ((sy_ai F 52).getD ((sy_ai F 50).getD (sy_i F 71).toNatClampNeg 0).toNatClampNeg 0)) := hd_up (hs 3 _ rfl) b70 t74 a53
  have t76 : sy_dv F' (.inr (.inl 76)) = .int ((sy_i F 70) + ((1 : Int32))) := hd_o (hs 4 _ rfl) b70 rfl rfl
  have t77 : sy_dv F' (.inr (.inl 77)) = .int ((sy_i F 71) + ((1 : Int32))) := hd_o (hs 5 _ rfl) b71 rfl rfl
  have hB' : iv_in F' iv_B4 := iv_in_eq hB (fun j hj => hF j (Nat.lt_of_lt_of_le hj (by decide +kernel)))
  refine ⟨List.forall_mem_cons.mpr ⟨hd_p5 b69 b71 h0, List.forall_mem_cons.mpr ⟨hd_pb b71 (by first | exact h1 | exact h1), List.forall_mem_cons.mpr ⟨hd_p5 rfl t72 (by have hc : ((2) : Int32).toInt = 2 := (by decide); omega), List.forall_mem_cons.mpr ⟨hd_p1 t72 rfl (by have hc : ((0) : Int32).toInt = 0 := (by decide); omega), List.forall_mem_cons.mpr ⟨hd_pb b71 (by first | exact h4 | exact h4), List.forall_mem_cons.mpr ⟨hd_pb t73 (by first | exact h5 | exact h5), List.forall_mem_cons.mpr ⟨hd_pb b70 (by first | exact h6 | exact h6), fun _ h => absurd h List.not_mem_nil⟩⟩⟩⟩⟩⟩⟩, ?_⟩
  refine k _ ?_ ?_ ?_ ?_ ?_
  · exact fun j hj hn => (hd_keep hB' (Nat.lt_of_lt_of_le hj (by decide +kernel)) (by simp; omega)).trans (hF j (Nat.lt_of_lt_of_le hj (by decide)))
  · exact hd_ga (a := .inr (.inl 75)) (by decide +kernel) t75
  · exact hd_gi (x := .inr (.inl 69)) (by decide +kernel) b69
  · exact hd_gi (x := .inr (.inl 76)) (by decide +kernel) t76
  · exact hd_gi (x := .inr (.inl 77)) (by decide +kernel) t77
theorem yte_5_p7 {Ls : Nat} {xs : Nat → Int32} {d : Nat} {Q : Option Value → jm_h → Prop} (hd : 1 ≤ d) (F : Nat → sy_d) (X1 X2 : List jm_c) (hB : iv_in F iv_B4)
    (h0 : (sy_i F 71).toInt < (sy_i F 69).toInt)
    (h1 : 0 ≤ (sy_i F 71).toInt ∧ (sy_i F 71).toInt < 840)
    (h2 : ((sy_ai F 49).getD (sy_i F 71).toNatClampNeg 0).toInt < 2)
    (h3 : ((sy_ai F 49).getD (sy_i F 71).toNatClampNeg 0).toInt = 0)
    (h4 : 0 ≤ (sy_i F 71).toInt ∧ (sy_i F 71).toInt < 840)
    (h5 : 0 ≤ (sy_i F 70).toInt ∧ (sy_i F 70).toInt < 400)
    (k : ∀ F1 : Nat → sy_d, (∀ j, j < 69 → j ≠ 53 → F1 j = F j) → F1 53 = .inr (.inl (jm_upd (sy_ai F 53) (sy_i F 70).toNatClampNeg ((sy_ai F 50).getD (sy_i F 71).toNatClampNeg 0))) → F1 69 = .inl (.int (sy_i F 69)) → F1 70 = .inl (.int ((sy_i F 70) + ((1 : Int32)))) → F1 71 = .inl (.int ((sy_i F 71) + ((1 : Int32)))) → hd_W Ls xs d jm_M166 Q (5, sy_dL F1 [some (.inl (.ref 1000)), none, some (.inr (.inl 69)), some (.inr (.inl 70)), some (.inr (.inl 71)), none, none, none], sy_dS F1 [], sy_dh F1 X1 X2 (iv_H 4), 0, 0)) :
    hd_W Ls xs d jm_M166 Q (5, sy_dL F [some (.inl (.ref 1000)), none, some (.inr (.inl 69)), some (.inr (.inl 70)), some (.inr (.inl 71)), none, none, none], sy_dS F [], sy_dh F X1 X2 (iv_H 4), 0, 0) := by
  refine hd_run (s := 4) (nv := 72) (pc := 5) (L := [some (.inl (.ref 1000)), none, some (.inr (.inl 69)), some (.inr (.inl 70)), some (.inr (.inl 71)), none, none, none]) (S := []) (uh := hd_ov (iv_id 0 iv_B4) [(53, .inr (.inr (.inl 74)))]) (ul := [.inl (.inr (.inl 69)), .inl (.inr (.inl 75)), .inl (.inr (.inl 76))]) (f := true) (sp := [5]) (d0 := 0) (O := [false, false, false]) (T := [(30, [.inr (.inl 71)], [.inr (.inl 49)]), (30, [.inr (.inl 71)], [.inr (.inl 50)]), (40, [.inr (.inl 70), .inr (.inl 73)], [.inr (.inl 53)]), (0, [.inr (.inl 70), .inl (.int 1)], []), (0, [.inr (.inl 71), .inl (.int 1)], [])]) (P := [(5, .inr (.inl 69), .inr (.inl 71)), (6, .inr (.inl 71), .inl (.ref 840)), (5, .inl (.int 2), .inr (.inl 72)), (0, .inr (.inl 72), .inl (.int 0)), (6, .inr (.inl 71), .inl (.ref 840)), (6, .inr (.inl 70), .inl (.ref 400))]) jm_ok166 (by decide +kernel) (by decide +kernel) hd F X1 X2 (fun F' hF hs => ?_)
  have b69 := hd_b (F := F) (F' := F') (k := 69) (hF 69 (by decide))
  have b71 := hd_b (F := F) (F' := F') (k := 71) (hF 71 (by decide))
  have a49 := hd_ba (F := F) (F' := F') (k := 49) (hF 49 (by decide))
  have t72 : sy_dv F' (.inr (.inl 72)) = .int ((sy_ai F 49).getD (sy_i F 71).toNatClampNeg 0) := hd_rd (hs 0 _ rfl) b71 a49
  have b70 := hd_b (F := F) (F' := F') (k := 70) (hF 70 (by decide))
  have a50 := hd_ba (F := F) (F' := F') (k := 50) (hF 50 (by decide))
  have t73 : sy_dv F' (.inr (.inl 73)) = .int ((sy_ai F 50).getD (sy_i F 71).toNatClampNeg 0) := hd_rd (hs 1 _ rfl) b71 a50
  have a53 := hd_ba (F := F) (F' := F') (k := 53) (hF 53 (by decide))
  have t74 : sy_da F' (.inr (.inl 74)) = .inl (jm_upd (sy_ai F 53) (sy_i F 70).toNatClampNeg ((sy_ai F 50).getD (sy_i F 71).toNatClampNeg 0)) := hd_up (hs 2 _ rfl) b70 t73 a53
  have t75 : sy_dv F' (.inr (.inl 75)) = .int ((sy_i F 70) + ((1 : Int32))) := hd_o (hs 3 _ rfl) b70 rfl rfl
  have t76 : sy_dv F' (.inr (.inl 76)) = .int ((sy_i F 71) + ((1 : Int32))) := hd_o (hs 4 _ rfl) b71 rfl rfl
  have hB' : iv_in F' iv_B4 := iv_in_eq hB (fun j hj => hF j (Nat.lt_of_lt_of_le hj (by decide +kernel)))
  refine ⟨List.forall_mem_cons.mpr ⟨hd_p5 b69 b71 h0, List.forall_mem_cons.mpr ⟨hd_pb b71 (by first | exact h1 | exact h1), List.forall_mem_cons.mpr ⟨hd_p5 rfl t72 (by have hc : ((2) : Int32).toInt = 2 := (by decide); omega), List.forall_mem_cons.mpr ⟨hd_p0 t72 rfl (by have hc : ((0) : Int32).toInt = 0 := (by decide); omega), List.forall_mem_cons.mpr ⟨hd_pb b71 (by first | exact h4 | exact h4), List.forall_mem_cons.mpr ⟨hd_pb b70 (by first | exact h5 | exact h5), fun _ h => absurd h List.not_mem_nil⟩⟩⟩⟩⟩⟩, ?_⟩
  refine k _ ?_ ?_ ?_ ?_ ?_
  · exact fun j hj hn => (hd_keep hB' (Nat.lt_of_lt_of_le hj (by decide +kernel)) (by simp; omega)).trans (hF j (Nat.lt_of_lt_of_le hj (by decide)))
  · exact hd_ga (a := .inr (.inl 74)) (by decide +kernel) t74
  · exact hd_gi (x := .inr (.inl 69)) (by decide +kernel) b69
  · exact hd_gi (x := .inr (.inl 75)) (by decide +kernel) t75
  · exact hd_gi (x := .inr (.inl 76)) (by decide +kernel) t76
theorem yte_5 {Ls : Nat} {xs : Nat → Int32} {d : Nat} {Q : Option Value → jm_h → Prop} (hd : 1 ≤ d) (F : Nat → sy_d) (X1 X2 : List jm_c) (hB : iv_in F iv_B4)
    (a69 : 0 ≤ (sy_i F 69).toInt ∧ (sy_i F 69).toInt ≤ 840)
    (a70 : 0 ≤ (sy_i F 70).toInt ∧ (sy_i F 70).toInt ≤ 400)
    (a71 : 0 ≤ (sy_i F 71).toInt ∧ (sy_i F 71).toInt ≤ 840)
    (o0 : (sy_i F 71).toInt < (sy_i F 69).toInt → 2 ≤ ((sy_ai F 49).getD ((sy_i F 71).toInt).toNat 0).toInt → (0 ≤ (((sy_i F 70).toInt + (-1 : Int)) - 1) ∧ (((sy_i F 70).toInt + (-1 : Int)) - 1) < 400))
    (o1 : (sy_i F 71).toInt < (sy_i F 69).toInt → 2 ≤ ((sy_ai F 49).getD ((sy_i F 71).toInt).toNat 0).toInt → (0 ≤ ((sy_i F 70).toInt + (-1 : Int)) ∧ ((sy_i F 70).toInt + (-1 : Int)) < 400))
    (o2 : (sy_i F 71).toInt < (sy_i F 69).toInt → 2 ≤ ((sy_ai F 49).getD ((sy_i F 71).toInt).toNat 0).toInt → ((sy_ai F 49).getD ((sy_i F 71).toInt).toNat 0).toInt ≠ 5 → ((sy_ai F 49).getD ((sy_i F 71).toInt).toNat 0).toInt ≠ 2 → ((sy_ai F 49).getD ((sy_i F 71).toInt).toNat 0).toInt ≠ 3 → ((sy_ai F 49).getD ((sy_i F 71).toInt).toNat 0).toInt = 4 → (0 ≤ (((sy_i F 70).toInt + (-1 : Int)) - 1) ∧ (((sy_i F 70).toInt + (-1 : Int)) - 1) < 400))
    (o3 : (sy_i F 71).toInt < (sy_i F 69).toInt → 2 ≤ ((sy_ai F 49).getD ((sy_i F 71).toInt).toNat 0).toInt → ((sy_ai F 49).getD ((sy_i F 71).toInt).toNat 0).toInt ≠ 5 → ((sy_ai F 49).getD ((sy_i F 71).toInt).toNat 0).toInt ≠ 2 → ((sy_ai F 49).getD ((sy_i F 71).toInt).toNat 0).toInt = 3 → (0 ≤ (((sy_i F 70).toInt + (-1 : Int)) - 1) ∧ (((sy_i F 70).toInt + (-1 : Int)) - 1) < 400))
    (o4 : (sy_i F 71).toInt < (sy_i F 69).toInt → 2 ≤ ((sy_ai F 49).getD ((sy_i F 71).toInt).toNat 0).toInt → ((sy_ai F 49).getD ((sy_i F 71).toInt).toNat 0).toInt ≠ 5 → ((sy_ai F 49).getD ((sy_i F 71).toInt).toNat 0).toInt = 2 → (0 ≤ (((sy_i F 70).toInt + (-1 : Int)) - 1) ∧ (((sy_i F 70).toInt + (-1 : Int)) - 1) < 400))
    (o5 : (sy_i F 71).toInt < (sy_i F 69).toInt → 2 ≤ ((sy_ai F 49).getD ((sy_i F 71).toInt).toNat 0).toInt → ((sy_ai F 49).getD ((sy_i F 71).toInt).toNat 0).toInt = 5 → ((sy_ai F 53).getD (((sy_i F 70).toInt + (-1 : Int))).toNat 0).toInt ≠ 0 → ((sy_ai F 49).getD ((sy_i F 71).toInt).toNat 0).toInt ≠ 2 → ((sy_ai F 49).getD ((sy_i F 71).toInt).toNat 0).toInt ≠ 3 → ((sy_ai F 49).getD ((sy_i F 71).toInt).toNat 0).toInt ≠ 4 → (0 ≤ (((sy_i F 70).toInt + (-1 : Int)) - 1) ∧ (((sy_i F 70).toInt + (-1 : Int)) - 1) < 400))
    (o6 : (sy_i F 71).toInt < (sy_i F 69).toInt → ((sy_ai F 49).getD ((sy_i F 71).toInt).toNat 0).toInt < 2 → ((sy_ai F 49).getD ((sy_i F 71).toInt).toNat 0).toInt ≠ 0 → (0 ≤ ((sy_ai F 50).getD ((sy_i F 71).toInt).toNat 0).toInt ∧ ((sy_ai F 50).getD ((sy_i F 71).toInt).toNat 0).toInt < 9))
    (o7 : (sy_i F 71).toInt < (sy_i F 69).toInt → ((sy_ai F 49).getD ((sy_i F 71).toInt).toNat 0).toInt < 2 → ((sy_ai F 49).getD ((sy_i F 71).toInt).toNat 0).toInt ≠ 0 → (0 ≤ (sy_i F 70).toInt ∧ (sy_i F 70).toInt < 400))
    (o8 : (sy_i F 71).toInt < (sy_i F 69).toInt → ((sy_ai F 49).getD ((sy_i F 71).toInt).toNat 0).toInt < 2 → ((sy_ai F 49).getD ((sy_i F 71).toInt).toNat 0).toInt = 0 → (0 ≤ (sy_i F 70).toInt ∧ (sy_i F 70).toInt < 400))
    (k0 : (sy_i F 69).toInt ≤ (sy_i F 71).toInt → ∀ F1 : Nat → sy_d, iv_in F1 iv_B4 → (∀ j, j < 69 → j ∉ ([] : List Nat) → F1 j = F j) → Q (some (.int ((sy_ai F 53).getD (0 : Int).toNat 0))) (sy_dh F1 X1 X2 (iv_H 4)))
    (k1 : (sy_i F 71).toInt < (sy_i F 69).toInt → 2 ≤ ((sy_ai F 49).getD ((sy_i F 71).toInt).toNat 0).toInt → ((sy_ai F 49).getD ((sy_i F 71).toInt).toNat 0).toInt ≠ 5 → ((sy_ai F 49).getD ((sy_i F 71).toInt).toNat 0).toInt ≠ 2 → ((sy_ai F 49).getD ((sy_i F 71).toInt).toNat 0).toInt ≠ 3 → ((sy_ai F 49).getD ((sy_i F 71).toInt).toNat 0).toInt = 4 → ∀ F1 : Nat → sy_d, iv_in F1 iv_B4 → (∀ j, j < 69 → j ∉ ([53] : List Nat) → F1 j = F j) → sy_ai F1 53 = jm_upd (sy_ai F 53) ((((sy_i F 70).toInt + (-1 : Int)) - 1)).toNat (((sy_ai F 53).getD ((((sy_i F 70).toInt + (-1 : Int)) - 1)).toNat 0) * ((sy_ai F 53).getD (((sy_i F 70).toInt + (-1 : Int))).toNat 0)) → (sy_i F1 69).toInt = (sy_i F 69).toInt → sy_i F1 69 = sy_i F 69 → (sy_i F1 70).toInt = ((sy_i F 70).toInt + (-1 : Int)) → sy_i F1 70 = (sy_i F 70) + (((-1) : Int32)) → (sy_i F1 71).toInt = ((sy_i F 71).toInt + 1) → sy_i F1 71 = (sy_i F 71) + ((1 : Int32)) → hd_W Ls xs d jm_M166 Q (5, sy_dL F1 [some (.inl (.ref 1000)), none, some (.inr (.inl 69)), some (.inr (.inl 70)), some (.inr (.inl 71)), none, none, none], sy_dS F1 [], sy_dh F1 X1 X2 (iv_H 4), 0, 0))
    (k2 : (sy_i F 71).toInt < (sy_i F 69).toInt → 2 ≤ ((sy_ai F 49).getD ((sy_i F 71).toInt).toNat 0).toInt → ((sy_ai F 49).getD ((sy_i F 71).toInt).toNat 0).toInt ≠ 5 → ((sy_ai F 49).getD ((sy_i F 71).toInt).toNat 0).toInt ≠ 2 → ((sy_ai F 49).getD ((sy_i F 71).toInt).toNat 0).toInt = 3 → ∀ F1 : Nat → sy_d, iv_in F1 iv_B4 → (∀ j, j < 69 → j ∉ ([53] : List Nat) → F1 j = F j) → sy_ai F1 53 = jm_upd (sy_ai F 53) ((((sy_i F 70).toInt + (-1 : Int)) - 1)).toNat (((sy_ai F 53).getD ((((sy_i F 70).toInt + (-1 : Int)) - 1)).toNat 0) - ((sy_ai F 53).getD (((sy_i F 70).toInt + (-1 : Int))).toNat 0)) → (sy_i F1 69).toInt = (sy_i F 69).toInt → sy_i F1 69 = sy_i F 69 → (sy_i F1 70).toInt = ((sy_i F 70).toInt + (-1 : Int)) → sy_i F1 70 = (sy_i F 70) + (((-1) : Int32)) → (sy_i F1 71).toInt = ((sy_i F 71).toInt + 1) → sy_i F1 71 = (sy_i F 71) + ((1 : Int32)) → hd_W Ls xs d jm_M166 Q (5, sy_dL F1 [some (.inl (.ref 1000)), none, some (.inr (.inl 69)), some (.inr (.inl 70)), some (.inr (.inl 71)), none, none, none], sy_dS F1 [], sy_dh F1 X1 X2 (iv_H 4), 0, 0))
    (k3 : (sy_i F 71).toInt < (sy_i F 69).toInt → 2 ≤ ((sy_ai F 49).getD ((sy_i F 71).toInt).toNat 0).toInt → ((sy_ai F 49).getD ((sy_i F 71).toInt).toNat 0).toInt ≠ 5 → ((sy_ai F 49).getD ((sy_i F 71).toInt).toNat 0).toInt = 2 → ∀ F1 : Nat → sy_d, iv_in F1 iv_B4 → (∀ j, j < 69 → j ∉ ([53] : List Nat) → F1 j = F j) → sy_ai F1 53 = jm_upd (sy_ai F 53) ((((sy_i F 70).toInt + (-1 : Int)) - 1)).toNat (((sy_ai F 53).getD ((((sy_i F 70).toInt + (-1 : Int)) - 1)).toNat 0) + ((sy_ai F 53).getD (((sy_i F 70).toInt + (-1 : Int))).toNat 0)) → (sy_i F1 69).toInt = (sy_i F 69).toInt → sy_i F1 69 = sy_i F 69 → (sy_i F1 70).toInt = ((sy_i F 70).toInt + (-1 : Int)) → sy_i F1 70 = (sy_i F 70) + (((-1) : Int32)) → (sy_i F1 71).toInt = ((sy_i F 71).toInt + 1) → sy_i F1 71 = (sy_i F 71) + ((1 : Int32)) → hd_W Ls xs d jm_M166 Q (5, sy_dL F1 [some (.inl (.ref 1000)), none, some (.inr (.inl 69)), some (.inr (.inl 70)), some (.inr (.inl 71)), none, none, none], sy_dS F1 [], sy_dh F1 X1 X2 (iv_H 4), 0, 0))
    (k4 : (sy_i F 71).toInt < (sy_i F 69).toInt → 2 ≤ ((sy_ai F 49).getD ((sy_i F 71).toInt).toNat 0).toInt → ((sy_ai F 49).getD ((sy_i F 71).toInt).toNat 0).toInt = 5 → ((sy_ai F 53).getD (((sy_i F 70).toInt + (-1 : Int))).toNat 0).toInt ≠ 0 → ((sy_ai F 49).getD ((sy_i F 71).toInt).toNat 0).toInt ≠ 2 → ((sy_ai F 49).getD ((sy_i F 71).toInt).toNat 0).toInt ≠ 3 → ((sy_ai F 49).getD ((sy_i F 71).toInt).toNat 0).toInt ≠ 4 → ∀ F1 : Nat → sy_d, iv_in F1 iv_B4 → (∀ j, j < 69 → j ∉ ([53] : List Nat) → F1 j = F j) → sy_ai F1 53 = jm_upd (sy_ai F 53) ((((sy_i F 70).toInt + (-1 : Int)) - 1)).toNat (((sy_ai F 53).getD ((((sy_i F 70).toInt + (-1 : Int)) - 1)).toNat 0) / ((sy_ai F 53).getD (((sy_i F 70).toInt + (-1 : Int))).toNat 0)) → (sy_i F1 69).toInt = (sy_i F 69).toInt → sy_i F1 69 = sy_i F 69 → (sy_i F1 70).toInt = ((sy_i F 70).toInt + (-1 : Int)) → sy_i F1 70 = (sy_i F 70) + (((-1) : Int32)) → (sy_i F1 71).toInt = ((sy_i F 71).toInt + 1) → sy_i F1 71 = (sy_i F 71) + ((1 : Int32)) → hd_W Ls xs d jm_M166 Q (5, sy_dL F1 [some (.inl (.ref 1000)), none, some (.inr (.inl 69)), some (.inr (.inl 70)), some (.inr (.inl 71)), none, none, none], sy_dS F1 [], sy_dh F1 X1 X2 (iv_H 4), 0, 0))
    (k5 : (sy_i F 71).toInt < (sy_i F 69).toInt → 2 ≤ ((sy_ai F 49).getD ((sy_i F 71).toInt).toNat 0).toInt → ((sy_ai F 49).getD ((sy_i F 71).toInt).toNat 0).toInt = 5 → ((sy_ai F 53).getD (((sy_i F 70).toInt + (-1 : Int))).toNat 0).toInt = 0 → ∀ F1 : Nat → sy_d, iv_in F1 iv_B4 → (∀ j, j < 69 → j ∉ ([17] : List Nat) → F1 j = F j) → (sy_i F1 17).toInt = 1 → sy_i F1 17 = (1 : Int32) → Q (some (.int ((0 : Int32)))) (sy_dh F1 X1 X2 (iv_H 4)))
    (k6 : (sy_i F 71).toInt < (sy_i F 69).toInt → ((sy_ai F 49).getD ((sy_i F 71).toInt).toNat 0).toInt < 2 → ((sy_ai F 49).getD ((sy_i F 71).toInt).toNat 0).toInt ≠ 0 → ∀ F1 : Nat → sy_d, iv_in F1 iv_B4 → (∀ j, j < 69 → j ∉ ([53] : List Nat) → F1 j = F j) → sy_ai F1 53 = jm_upd (sy_ai F 53) ((sy_i F 70).toInt).toNat ((sy_ai F 52).getD (((sy_ai F 50).getD ((sy_i F 71).toInt).toNat 0).toInt).toNat 0) → (sy_i F1 69).toInt = (sy_i F 69).toInt → sy_i F1 69 = sy_i F 69 → (sy_i F1 70).toInt = ((sy_i F 70).toInt + 1) → sy_i F1 70 = (sy_i F 70) + ((1 : Int32)) → (sy_i F1 71).toInt = ((sy_i F 71).toInt + 1) → sy_i F1 71 = (sy_i F 71) + ((1 : Int32)) → hd_W Ls xs d jm_M166 Q (5, sy_dL F1 [some (.inl (.ref 1000)), none, some (.inr (.inl 69)), some (.inr (.inl 70)), some (.inr (.inl 71)), none, none, none], sy_dS F1 [], sy_dh F1 X1 X2 (iv_H 4), 0, 0))
    (k7 : (sy_i F 71).toInt < (sy_i F 69).toInt → ((sy_ai F 49).getD ((sy_i F 71).toInt).toNat 0).toInt < 2 → ((sy_ai F 49).getD ((sy_i F 71).toInt).toNat 0).toInt = 0 → ∀ F1 : Nat → sy_d, iv_in F1 iv_B4 → (∀ j, j < 69 → j ∉ ([53] : List Nat) → F1 j = F j) → sy_ai F1 53 = jm_upd (sy_ai F 53) ((sy_i F 70).toInt).toNat ((sy_ai F 50).getD ((sy_i F 71).toInt).toNat 0) → (sy_i F1 69).toInt = (sy_i F 69).toInt → sy_i F1 69 = sy_i F 69 → (sy_i F1 70).toInt = ((sy_i F 70).toInt + 1) → sy_i F1 70 = (sy_i F 70) + ((1 : Int32)) → (sy_i F1 71).toInt = ((sy_i F 71).toInt + 1) → sy_i F1 71 = (sy_i F 71) + ((1 : Int32)) → hd_W Ls xs d jm_M166 Q (5, sy_dL F1 [some (.inl (.ref 1000)), none, some (.inr (.inl 69)), some (.inr (.inl 70)), some (.inr (.inl 71)), none, none, none], sy_dS F1 [], sy_dh F1 X1 X2 (iv_H 4), 0, 0)) :
    hd_W Ls xs d jm_M166 Q (5, sy_dL F [some (.inl (.ref 1000)), none, some (.inr (.inl 69)), some (.inr (.inl 70)), some (.inr (.inl 71)), none, none, none], sy_dS F [], sy_dh F X1 X2 (iv_H 4), 0, 0) := by
  by_cases g0 : (sy_i F 69).toInt ≤ (sy_i F 71).toInt
  · have q72 : (sy_ai F 53).getD ((0 : Int32)).toNatClampNeg 0 = (sy_ai F 53).getD (0 : Int).toNat 0 := by simp only [nz_c, (by decide : ((0 : Int32)).toInt = 0)]
    exact yte_5_p0 hd F X1 X2 hB (by first | exact g0 | (simp only [nz_c]; exact g0)) (fun F1 g  => by rw [q72]; exact k0 g0 F1 (nz_in hB [] (fun j hj hn => g j hj (by simp only [List.mem_cons, List.not_mem_nil, or_false, not_or] at hn; exact trivial)) (List.forall_mem_nil _)) (fun j hj hn => g j hj (by simp only [List.mem_cons, List.not_mem_nil, or_false, not_or] at hn; exact trivial)) )
  replace g0 : (sy_i F 71).toInt < (sy_i F 69).toInt := by omega
  by_cases g1 : 2 ≤ ((sy_ai F 49).getD ((sy_i F 71).toInt).toNat 0).toInt
  · by_cases g2 : ((sy_ai F 49).getD ((sy_i F 71).toInt).toNat 0).toInt ≠ 5
    · by_cases g3 : ((sy_ai F 49).getD ((sy_i F 71).toInt).toNat 0).toInt ≠ 2
      · by_cases g4 : ((sy_ai F 49).getD ((sy_i F 71).toInt).toNat 0).toInt ≠ 3
        · by_cases g5 : ((sy_ai F 49).getD ((sy_i F 71).toInt).toNat 0).toInt ≠ 4
          · have q72 : (sy_ai F 49).getD (sy_i F 71).toNatClampNeg 0 = (sy_ai F 49).getD ((sy_i F 71).toInt).toNat 0 := by simp only [nz_c]
            have n72 : nzI ((sy_ai F 49).getD (sy_i F 71).toNatClampNeg 0) (((sy_ai F 49).getD ((sy_i F 71).toInt).toNat 0).toInt) := congrArg Int32.toInt q72
            have r72 := nz_ba hB (k := 49) (lo := 0) (hi := 5) rfl ((sy_i F 71).toInt).toNat
            have n73 : nzI ((sy_i F 70) + (((-1) : Int32))) (((sy_i F 70).toInt + (-1 : Int))) := nz_add (rfl : (sy_i F 70).toInt = (sy_i F 70).toInt) (by decide : (((-1) : Int32)).toInt = (-1 : Int)) (by omega) (by omega)
            have n74 : nzI (((sy_i F 70) + (((-1) : Int32))) - ((1 : Int32))) ((((sy_i F 70).toInt + (-1 : Int)) - 1)) := nz_sub (nzE n73) (by decide : ((1 : Int32)).toInt = 1) (by omega) (by omega)
            exfalso
            omega
          replace g5 : ((sy_ai F 49).getD ((sy_i F 71).toInt).toNat 0).toInt = 4 := by omega
          have q72 : (sy_ai F 49).getD (sy_i F 71).toNatClampNeg 0 = (sy_ai F 49).getD ((sy_i F 71).toInt).toNat 0 := by simp only [nz_c]
          have n72 : nzI ((sy_ai F 49).getD (sy_i F 71).toNatClampNeg 0) (((sy_ai F 49).getD ((sy_i F 71).toInt).toNat 0).toInt) := congrArg Int32.toInt q72
          have r72 := nz_ba hB (k := 49) (lo := 0) (hi := 5) rfl ((sy_i F 71).toInt).toNat
          have n73 : nzI ((sy_i F 70) + (((-1) : Int32))) (((sy_i F 70).toInt + (-1 : Int))) := nz_add (rfl : (sy_i F 70).toInt = (sy_i F 70).toInt) (by decide : (((-1) : Int32)).toInt = (-1 : Int)) (by omega) (by omega)
          have n74 : nzI (((sy_i F 70) + (((-1) : Int32))) - ((1 : Int32))) ((((sy_i F 70).toInt + (-1 : Int)) - 1)) := nz_sub (nzE n73) (by decide : ((1 : Int32)).toInt = 1) (by omega) (by omega)
          have n77 : nzI (((sy_i F 70) + (((-1) : Int32))) - ((1 : Int32))) ((((sy_i F 70).toInt + (-1 : Int)) - 1)) := nz_sub (nzE n73) (by decide : ((1 : Int32)).toInt = 1) (by omega) (by omega)
          have w79 : jm_upd (sy_ai F 53) (((sy_i F 70) + (((-1) : Int32))) - ((1 : Int32))).toNatClampNeg (((sy_ai F 53).getD (((sy_i F 70) + (((-1) : Int32))) - ((1 : Int32))).toNatClampNeg 0) * ((sy_ai F 53).getD ((sy_i F 70) + (((-1) : Int32))).toNatClampNeg 0)) = jm_upd (sy_ai F 53) ((((sy_i F 70).toInt + (-1 : Int)) - 1)).toNat (((sy_ai F 53).getD ((((sy_i F 70).toInt + (-1 : Int)) - 1)).toNat 0) * ((sy_ai F 53).getD (((sy_i F 70).toInt + (-1 : Int))).toNat 0)) := by simp only [nz_c, (nzE n73), (nzE n74), (nzE n77), (by decide : (((-1) : Int32)).toInt = (-1 : Int)), (by decide : ((1 : Int32)).toInt = 1)]
          have n80 : nzI ((sy_i F 71) + ((1 : Int32))) (((sy_i F 71).toInt + 1)) := nz_add (rfl : (sy_i F 71).toInt = (sy_i F 71).toInt) (by decide : ((1 : Int32)).toInt = 1) (by omega) (by omega)
          exact yte_5_p1 hd F X1 X2 hB (by first | exact g0 | (simp only [nz_c]; exact g0)) (by first | exact ⟨by omega, by omega⟩ | (simp only [nz_c]; exact ⟨by omega, by omega⟩)) (by first | exact g1 | (simp only [nz_c]; exact g1) | (rw [(nzE n72)]; exact g1)) (by first | (simp only [nz_c, (nzE n73), (nzE n74)]; exact (o0 g0 g1)) | exact (o0 g0 g1) | (rw [(nzE n74)]; exact (o0 g0 g1))) (by first | (simp only [nz_c, (nzE n73)]; exact (o1 g0 g1)) | exact (o1 g0 g1) | (rw [(nzE n73)]; exact (o1 g0 g1))) (by first | exact g2 | (simp only [nz_c]; exact g2) | (rw [(nzE n72)]; exact g2)) (by first | exact g3 | (simp only [nz_c]; exact g3) | (rw [(nzE n72)]; exact g3)) (by first | exact g4 | (simp only [nz_c]; exact g4) | (rw [(nzE n72)]; exact g4)) (by first | exact g5 | (simp only [nz_c]; exact g5) | (rw [(nzE n72)]; exact g5)) (by first | (simp only [nz_c, (nzE n73), (nzE n77)]; exact (o2 g0 g1 g2 g3 g4 g5)) | exact (o2 g0 g1 g2 g3 g4 g5) | (rw [(nzE n77)]; exact (o2 g0 g1 g2 g3 g4 g5))) (fun F1 g e53 e69 e70 e71 => k1 g0 g1 g2 g3 g4 g5 F1 (nz_in hB [53] (fun j hj hn => g j hj (by simp only [List.mem_cons, List.not_mem_nil, or_false, not_or] at hn; omega)) (List.forall_mem_cons.mpr ⟨fun t ht => (Option.some.inj ht) ▸ (nz_hz2 e53), List.forall_mem_nil _⟩)) (fun j hj hn => g j hj (by simp only [List.mem_cons, List.not_mem_nil, or_false, not_or] at hn; omega)) ((zz_ai e53).trans w79) ((congrArg Int32.toInt (zz_i e69)).trans (rfl : (sy_i F 69).toInt = (sy_i F 69).toInt)) ((zz_i e69).trans (rfl : sy_i F 69 = sy_i F 69)) ((congrArg Int32.toInt (zz_i e70)).trans (nzE n73)) ((zz_i e70).trans (rfl : (sy_i F 70) + (((-1) : Int32)) = (sy_i F 70) + (((-1) : Int32)))) ((congrArg Int32.toInt (zz_i e71)).trans (nzE n80)) ((zz_i e71).trans (rfl : (sy_i F 71) + ((1 : Int32)) = (sy_i F 71) + ((1 : Int32)))))
        replace g4 : ((sy_ai F 49).getD ((sy_i F 71).toInt).toNat 0).toInt = 3 := by omega
        have q72 : (sy_ai F 49).getD (sy_i F 71).toNatClampNeg 0 = (sy_ai F 49).getD ((sy_i F 71).toInt).toNat 0 := by simp only [nz_c]
        have n72 : nzI ((sy_ai F 49).getD (sy_i F 71).toNatClampNeg 0) (((sy_ai F 49).getD ((sy_i F 71).toInt).toNat 0).toInt) := congrArg Int32.toInt q72
        have r72 := nz_ba hB (k := 49) (lo := 0) (hi := 5) rfl ((sy_i F 71).toInt).toNat
        have n73 : nzI ((sy_i F 70) + (((-1) : Int32))) (((sy_i F 70).toInt + (-1 : Int))) := nz_add (rfl : (sy_i F 70).toInt = (sy_i F 70).toInt) (by decide : (((-1) : Int32)).toInt = (-1 : Int)) (by omega) (by omega)
        have n74 : nzI (((sy_i F 70) + (((-1) : Int32))) - ((1 : Int32))) ((((sy_i F 70).toInt + (-1 : Int)) - 1)) := nz_sub (nzE n73) (by decide : ((1 : Int32)).toInt = 1) (by omega) (by omega)
        have n77 : nzI (((sy_i F 70) + (((-1) : Int32))) - ((1 : Int32))) ((((sy_i F 70).toInt + (-1 : Int)) - 1)) := nz_sub (nzE n73) (by decide : ((1 : Int32)).toInt = 1) (by omega) (by omega)
        have w79 : jm_upd (sy_ai F 53) (((sy_i F 70) + (((-1) : Int32))) - ((1 : Int32))).toNatClampNeg (((sy_ai F 53).getD (((sy_i F 70) + (((-1) : Int32))) - ((1 : Int32))).toNatClampNeg 0) - ((sy_ai F 53).getD ((sy_i F 70) + (((-1) : Int32))).toNatClampNeg 0)) = jm_upd (sy_ai F 53) ((((sy_i F 70).toInt + (-1 : Int)) - 1)).toNat (((sy_ai F 53).getD ((((sy_i F 70).toInt + (-1 : Int)) - 1)).toNat 0) - ((sy_ai F 53).getD (((sy_i F 70).toInt + (-1 : Int))).toNat 0)) := by simp only [nz_c, (nzE n73), (nzE n74), (nzE n77), (by decide : (((-1) : Int32)).toInt = (-1 : Int)), (by decide : ((1 : Int32)).toInt = 1)]
        have n80 : nzI ((sy_i F 71) + ((1 : Int32))) (((sy_i F 71).toInt + 1)) := nz_add (rfl : (sy_i F 71).toInt = (sy_i F 71).toInt) (by decide : ((1 : Int32)).toInt = 1) (by omega) (by omega)
        exact yte_5_p2 hd F X1 X2 hB (by first | exact g0 | (simp only [nz_c]; exact g0)) (by first | exact ⟨by omega, by omega⟩ | (simp only [nz_c]; exact ⟨by omega, by omega⟩)) (by first | exact g1 | (simp only [nz_c]; exact g1) | (rw [(nzE n72)]; exact g1)) (by first | (simp only [nz_c, (nzE n73), (nzE n74)]; exact (o0 g0 g1)) | exact (o0 g0 g1) | (rw [(nzE n74)]; exact (o0 g0 g1))) (by first | (simp only [nz_c, (nzE n73)]; exact (o1 g0 g1)) | exact (o1 g0 g1) | (rw [(nzE n73)]; exact (o1 g0 g1))) (by first | exact g2 | (simp only [nz_c]; exact g2) | (rw [(nzE n72)]; exact g2)) (by first | exact g3 | (simp only [nz_c]; exact g3) | (rw [(nzE n72)]; exact g3)) (by first | exact g4 | (simp only [nz_c]; exact g4) | (rw [(nzE n72)]; exact g4)) (by first | (simp only [nz_c, (nzE n73), (nzE n77)]; exact (o3 g0 g1 g2 g3 g4)) | exact (o3 g0 g1 g2 g3 g4) | (rw [(nzE n77)]; exact (o3 g0 g1 g2 g3 g4))) (fun F1 g e53 e69 e70 e71 => k2 g0 g1 g2 g3 g4 F1 (nz_in hB [53] (fun j hj hn => g j hj (by simp only [List.mem_cons, List.not_mem_nil, or_false, not_or] at hn; omega)) (List.forall_mem_cons.mpr ⟨fun t ht => (Option.some.inj ht) ▸ (nz_hz2 e53), List.forall_mem_nil _⟩)) (fun j hj hn => g j hj (by simp only [List.mem_cons, List.not_mem_nil, or_false, not_or] at hn; omega)) ((zz_ai e53).trans w79) ((congrArg Int32.toInt (zz_i e69)).trans (rfl : (sy_i F 69).toInt = (sy_i F 69).toInt)) ((zz_i e69).trans (rfl : sy_i F 69 = sy_i F 69)) ((congrArg Int32.toInt (zz_i e70)).trans (nzE n73)) ((zz_i e70).trans (rfl : (sy_i F 70) + (((-1) : Int32)) = (sy_i F 70) + (((-1) : Int32)))) ((congrArg Int32.toInt (zz_i e71)).trans (nzE n80)) ((zz_i e71).trans (rfl : (sy_i F 71) + ((1 : Int32)) = (sy_i F 71) + ((1 : Int32)))))
      replace g3 : ((sy_ai F 49).getD ((sy_i F 71).toInt).toNat 0).toInt = 2 := by omega
      have q72 : (sy_ai F 49).getD (sy_i F 71).toNatClampNeg 0 = (sy_ai F 49).getD ((sy_i F 71).toInt).toNat 0 := by simp only [nz_c]
      have n72 : nzI ((sy_ai F 49).getD (sy_i F 71).toNatClampNeg 0) (((sy_ai F 49).getD ((sy_i F 71).toInt).toNat 0).toInt) := congrArg Int32.toInt q72
      have r72 := nz_ba hB (k := 49) (lo := 0) (hi := 5) rfl ((sy_i F 71).toInt).toNat
      have n73 : nzI ((sy_i F 70) + (((-1) : Int32))) (((sy_i F 70).toInt + (-1 : Int))) := nz_add (rfl : (sy_i F 70).toInt = (sy_i F 70).toInt) (by decide : (((-1) : Int32)).toInt = (-1 : Int)) (by omega) (by omega)
      have n74 : nzI (((sy_i F 70) + (((-1) : Int32))) - ((1 : Int32))) ((((sy_i F 70).toInt + (-1 : Int)) - 1)) := nz_sub (nzE n73) (by decide : ((1 : Int32)).toInt = 1) (by omega) (by omega)
      have n77 : nzI (((sy_i F 70) + (((-1) : Int32))) - ((1 : Int32))) ((((sy_i F 70).toInt + (-1 : Int)) - 1)) := nz_sub (nzE n73) (by decide : ((1 : Int32)).toInt = 1) (by omega) (by omega)
      have w79 : jm_upd (sy_ai F 53) (((sy_i F 70) + (((-1) : Int32))) - ((1 : Int32))).toNatClampNeg (((sy_ai F 53).getD (((sy_i F 70) + (((-1) : Int32))) - ((1 : Int32))).toNatClampNeg 0) + ((sy_ai F 53).getD ((sy_i F 70) + (((-1) : Int32))).toNatClampNeg 0)) = jm_upd (sy_ai F 53) ((((sy_i F 70).toInt + (-1 : Int)) - 1)).toNat (((sy_ai F 53).getD ((((sy_i F 70).toInt + (-1 : Int)) - 1)).toNat 0) + ((sy_ai F 53).getD (((sy_i F 70).toInt + (-1 : Int))).toNat 0)) := by simp only [nz_c, (nzE n73), (nzE n74), (nzE n77), (by decide : (((-1) : Int32)).toInt = (-1 : Int)), (by decide : ((1 : Int32)).toInt = 1)]
      have n80 : nzI ((sy_i F 71) + ((1 : Int32))) (((sy_i F 71).toInt + 1)) := nz_add (rfl : (sy_i F 71).toInt = (sy_i F 71).toInt) (by decide : ((1 : Int32)).toInt = 1) (by omega) (by omega)
      exact yte_5_p3 hd F X1 X2 hB (by first | exact g0 | (simp only [nz_c]; exact g0)) (by first | exact ⟨by omega, by omega⟩ | (simp only [nz_c]; exact ⟨by omega, by omega⟩)) (by first | exact g1 | (simp only [nz_c]; exact g1) | (rw [(nzE n72)]; exact g1)) (by first | (simp only [nz_c, (nzE n73), (nzE n74)]; exact (o0 g0 g1)) | exact (o0 g0 g1) | (rw [(nzE n74)]; exact (o0 g0 g1))) (by first | (simp only [nz_c, (nzE n73)]; exact (o1 g0 g1)) | exact (o1 g0 g1) | (rw [(nzE n73)]; exact (o1 g0 g1))) (by first | exact g2 | (simp only [nz_c]; exact g2) | (rw [(nzE n72)]; exact g2)) (by first | exact g3 | (simp only [nz_c]; exact g3) | (rw [(nzE n72)]; exact g3)) (by first | (simp only [nz_c, (nzE n73), (nzE n77)]; exact (o4 g0 g1 g2 g3)) | exact (o4 g0 g1 g2 g3) | (rw [(nzE n77)]; exact (o4 g0 g1 g2 g3))) (fun F1 g e53 e69 e70 e71 => k3 g0 g1 g2 g3 F1 (nz_in hB [53] (fun j hj hn => g j hj (by simp only [List.mem_cons, List.not_mem_nil, or_false, not_or] at hn; omega)) (List.forall_mem_cons.mpr ⟨fun t ht => (Option.some.inj ht) ▸ (nz_hz2 e53), List.forall_mem_nil _⟩)) (fun j hj hn => g j hj (by simp only [List.mem_cons, List.not_mem_nil, or_false, not_or] at hn; omega)) ((zz_ai e53).trans w79) ((congrArg Int32.toInt (zz_i e69)).trans (rfl : (sy_i F 69).toInt = (sy_i F 69).toInt)) ((zz_i e69).trans (rfl : sy_i F 69 = sy_i F 69)) ((congrArg Int32.toInt (zz_i e70)).trans (nzE n73)) ((zz_i e70).trans (rfl : (sy_i F 70) + (((-1) : Int32)) = (sy_i F 70) + (((-1) : Int32)))) ((congrArg Int32.toInt (zz_i e71)).trans (nzE n80)) ((zz_i e71).trans (rfl : (sy_i F 71) + ((1 : Int32)) = (sy_i F 71) + ((1 : Int32)))))
    replace g2 : ((sy_ai F 49).getD ((sy_i F 71).toInt).toNat 0).toInt = 5 := by omega
    by_cases g3 : ((sy_ai F 53).getD (((sy_i F 70).toInt + (-1 : Int))).toNat 0).toInt ≠ 0
    · by_cases g4 : ((sy_ai F 49).getD ((sy_i F 71).toInt).toNat 0).toInt ≠ 2
      · by_cases g5 : ((sy_ai F 49).getD ((sy_i F 71).toInt).toNat 0).toInt ≠ 3
        · by_cases g6 : ((sy_ai F 49).getD ((sy_i F 71).toInt).toNat 0).toInt ≠ 4
          · have q72 : (sy_ai F 49).getD (sy_i F 71).toNatClampNeg 0 = (sy_ai F 49).getD ((sy_i F 71).toInt).toNat 0 := by simp only [nz_c]
            have n72 : nzI ((sy_ai F 49).getD (sy_i F 71).toNatClampNeg 0) (((sy_ai F 49).getD ((sy_i F 71).toInt).toNat 0).toInt) := congrArg Int32.toInt q72
            have r72 := nz_ba hB (k := 49) (lo := 0) (hi := 5) rfl ((sy_i F 71).toInt).toNat
            have n73 : nzI ((sy_i F 70) + (((-1) : Int32))) (((sy_i F 70).toInt + (-1 : Int))) := nz_add (rfl : (sy_i F 70).toInt = (sy_i F 70).toInt) (by decide : (((-1) : Int32)).toInt = (-1 : Int)) (by omega) (by omega)
            have n74 : nzI (((sy_i F 70) + (((-1) : Int32))) - ((1 : Int32))) ((((sy_i F 70).toInt + (-1 : Int)) - 1)) := nz_sub (nzE n73) (by decide : ((1 : Int32)).toInt = 1) (by omega) (by omega)
            have q76 : (sy_ai F 53).getD ((sy_i F 70) + (((-1) : Int32))).toNatClampNeg 0 = (sy_ai F 53).getD (((sy_i F 70).toInt + (-1 : Int))).toNat 0 := by simp only [nz_c, (nzE n73), (by decide : (((-1) : Int32)).toInt = (-1 : Int))]
            have n76 : nzI ((sy_ai F 53).getD ((sy_i F 70) + (((-1) : Int32))).toNatClampNeg 0) (((sy_ai F 53).getD (((sy_i F 70).toInt + (-1 : Int))).toNat 0).toInt) := congrArg Int32.toInt q76
            have n77 : nzI (((sy_i F 70) + (((-1) : Int32))) - ((1 : Int32))) ((((sy_i F 70).toInt + (-1 : Int)) - 1)) := nz_sub (nzE n73) (by decide : ((1 : Int32)).toInt = 1) (by omega) (by omega)
            have w79 : jm_upd (sy_ai F 53) (((sy_i F 70) + (((-1) : Int32))) - ((1 : Int32))).toNatClampNeg (((sy_ai F 53).getD (((sy_i F 70) + (((-1) : Int32))) - ((1 : Int32))).toNatClampNeg 0) / ((sy_ai F 53).getD ((sy_i F 70) + (((-1) : Int32))).toNatClampNeg 0)) = jm_upd (sy_ai F 53) ((((sy_i F 70).toInt + (-1 : Int)) - 1)).toNat (((sy_ai F 53).getD ((((sy_i F 70).toInt + (-1 : Int)) - 1)).toNat 0) / ((sy_ai F 53).getD (((sy_i F 70).toInt + (-1 : Int))).toNat 0)) := by simp only [nz_c, (nzE n73), (nzE n74), (nzE n77), (by decide : (((-1) : Int32)).toInt = (-1 : Int)), (by decide : ((1 : Int32)).toInt = 1)]
            have n80 : nzI ((sy_i F 71) + ((1 : Int32))) (((sy_i F 71).toInt + 1)) := nz_add (rfl : (sy_i F 71).toInt = (sy_i F 71).toInt) (by decide : ((1 : Int32)).toInt = 1) (by omega) (by omega)
            exact yte_5_p4 hd F X1 X2 hB (by first | exact g0 | (simp only [nz_c]; exact g0)) (by first | exact ⟨by omega, by omega⟩ | (simp only [nz_c]; exact ⟨by omega, by omega⟩)) (by first | exact g1 | (simp only [nz_c]; exact g1) | (rw [(nzE n72)]; exact g1)) (by first | (simp only [nz_c, (nzE n73), (nzE n74)]; exact (o0 g0 g1)) | exact (o0 g0 g1) | (rw [(nzE n74)]; exact (o0 g0 g1))) (by first | (simp only [nz_c, (nzE n73)]; exact (o1 g0 g1)) | exact (o1 g0 g1) | (rw [(nzE n73)]; exact (o1 g0 g1))) (by first | exact g2 | (simp only [nz_c]; exact g2) | (rw [(nzE n72)]; exact g2)) (by first | (simp only [nz_c, (nzE n73)]; exact g3) | exact g3 | (rw [(nzE n76)]; exact g3)) (by first | exact g4 | (simp only [nz_c]; exact g4) | (rw [(nzE n72)]; exact g4)) (by first | exact g5 | (simp only [nz_c]; exact g5) | (rw [(nzE n72)]; exact g5)) (by first | exact g6 | (simp only [nz_c]; exact g6) | (rw [(nzE n72)]; exact g6)) (by first | (simp only [nz_c, (nzE n73)]; exact g3) | exact g3 | (rw [(nzE n76)]; exact g3)) (by first | (simp only [nz_c, (nzE n73), (nzE n77)]; exact (o5 g0 g1 g2 g3 g4 g5 g6)) | exact (o5 g0 g1 g2 g3 g4 g5 g6) | (rw [(nzE n77)]; exact (o5 g0 g1 g2 g3 g4 g5 g6))) (fun F1 g e53 e69 e70 e71 => k4 g0 g1 g2 g3 g4 g5 g6 F1 (nz_in hB [53] (fun j hj hn => g j hj (by simp only [List.mem_cons, List.not_mem_nil, or_false, not_or] at hn; omega)) (List.forall_mem_cons.mpr ⟨fun t ht => (Option.some.inj ht) ▸ (nz_hz2 e53), List.forall_mem_nil _⟩)) (fun j hj hn => g j hj (by simp only [List.mem_cons, List.not_mem_nil, or_false, not_or] at hn; omega)) ((zz_ai e53).trans w79) ((congrArg Int32.toInt (zz_i e69)).trans (rfl : (sy_i F 69).toInt = (sy_i F 69).toInt)) ((zz_i e69).trans (rfl : sy_i F 69 = sy_i F 69)) ((congrArg Int32.toInt (zz_i e70)).trans (nzE n73)) ((zz_i e70).trans (rfl : (sy_i F 70) + (((-1) : Int32)) = (sy_i F 70) + (((-1) : Int32)))) ((congrArg Int32.toInt (zz_i e71)).trans (nzE n80)) ((zz_i e71).trans (rfl : (sy_i F 71) + ((1 : Int32)) = (sy_i F 71) + ((1 : Int32)))))
          replace g6 : ((sy_ai F 49).getD ((sy_i F 71).toInt).toNat 0).toInt = 4 := by omega
          have q72 : (sy_ai F 49).getD (sy_i F 71).toNatClampNeg 0 = (sy_ai F 49).getD ((sy_i F 71).toInt).toNat 0 := by simp only [nz_c]
          have n72 : nzI ((sy_ai F 49).getD (sy_i F 71).toNatClampNeg 0) (((sy_ai F 49).getD ((sy_i F 71).toInt).toNat 0).toInt) := congrArg Int32.toInt q72
          have r72 := nz_ba hB (k := 49) (lo := 0) (hi := 5) rfl ((sy_i F 71).toInt).toNat
          have n73 : nzI ((sy_i F 70) + (((-1) : Int32))) (((sy_i F 70).toInt + (-1 : Int))) := nz_add (rfl : (sy_i F 70).toInt = (sy_i F 70).toInt) (by decide : (((-1) : Int32)).toInt = (-1 : Int)) (by omega) (by omega)
          have n74 : nzI (((sy_i F 70) + (((-1) : Int32))) - ((1 : Int32))) ((((sy_i F 70).toInt + (-1 : Int)) - 1)) := nz_sub (nzE n73) (by decide : ((1 : Int32)).toInt = 1) (by omega) (by omega)
          have q76 : (sy_ai F 53).getD ((sy_i F 70) + (((-1) : Int32))).toNatClampNeg 0 = (sy_ai F 53).getD (((sy_i F 70).toInt + (-1 : Int))).toNat 0 := by simp only [nz_c, (nzE n73), (by decide : (((-1) : Int32)).toInt = (-1 : Int))]
          have n76 : nzI ((sy_ai F 53).getD ((sy_i F 70) + (((-1) : Int32))).toNatClampNeg 0) (((sy_ai F 53).getD (((sy_i F 70).toInt + (-1 : Int))).toNat 0).toInt) := congrArg Int32.toInt q76
          exfalso
          omega
        replace g5 : ((sy_ai F 49).getD ((sy_i F 71).toInt).toNat 0).toInt = 3 := by omega
        have q72 : (sy_ai F 49).getD (sy_i F 71).toNatClampNeg 0 = (sy_ai F 49).getD ((sy_i F 71).toInt).toNat 0 := by simp only [nz_c]
        have n72 : nzI ((sy_ai F 49).getD (sy_i F 71).toNatClampNeg 0) (((sy_ai F 49).getD ((sy_i F 71).toInt).toNat 0).toInt) := congrArg Int32.toInt q72
        have r72 := nz_ba hB (k := 49) (lo := 0) (hi := 5) rfl ((sy_i F 71).toInt).toNat
        have n73 : nzI ((sy_i F 70) + (((-1) : Int32))) (((sy_i F 70).toInt + (-1 : Int))) := nz_add (rfl : (sy_i F 70).toInt = (sy_i F 70).toInt) (by decide : (((-1) : Int32)).toInt = (-1 : Int)) (by omega) (by omega)
        have n74 : nzI (((sy_i F 70) + (((-1) : Int32))) - ((1 : Int32))) ((((sy_i F 70).toInt + (-1 : Int)) - 1)) := nz_sub (nzE n73) (by decide : ((1 : Int32)).toInt = 1) (by omega) (by omega)
        have q76 : (sy_ai F 53).getD ((sy_i F 70) + (((-1) : Int32))).toNatClampNeg 0 = (sy_ai F 53).getD (((sy_i F 70).toInt + (-1 : Int))).toNat 0 := by simp only [nz_c, (nzE n73), (by decide : (((-1) : Int32)).toInt = (-1 : Int))]
        have n76 : nzI ((sy_ai F 53).getD ((sy_i F 70) + (((-1) : Int32))).toNatClampNeg 0) (((sy_ai F 53).getD (((sy_i F 70).toInt + (-1 : Int))).toNat 0).toInt) := congrArg Int32.toInt q76
        exfalso
        omega
      replace g4 : ((sy_ai F 49).getD ((sy_i F 71).toInt).toNat 0).toInt = 2 := by omega
      have q72 : (sy_ai F 49).getD (sy_i F 71).toNatClampNeg 0 = (sy_ai F 49).getD ((sy_i F 71).toInt).toNat 0 := by simp only [nz_c]
      have n72 : nzI ((sy_ai F 49).getD (sy_i F 71).toNatClampNeg 0) (((sy_ai F 49).getD ((sy_i F 71).toInt).toNat 0).toInt) := congrArg Int32.toInt q72
      have r72 := nz_ba hB (k := 49) (lo := 0) (hi := 5) rfl ((sy_i F 71).toInt).toNat
      have n73 : nzI ((sy_i F 70) + (((-1) : Int32))) (((sy_i F 70).toInt + (-1 : Int))) := nz_add (rfl : (sy_i F 70).toInt = (sy_i F 70).toInt) (by decide : (((-1) : Int32)).toInt = (-1 : Int)) (by omega) (by omega)
      have n74 : nzI (((sy_i F 70) + (((-1) : Int32))) - ((1 : Int32))) ((((sy_i F 70).toInt + (-1 : Int)) - 1)) := nz_sub (nzE n73) (by decide : ((1 : Int32)).toInt = 1) (by omega) (by omega)
      have q76 : (sy_ai F 53).getD ((sy_i F 70) + (((-1) : Int32))).toNatClampNeg 0 = (sy_ai F 53).getD (((sy_i F 70).toInt + (-1 : Int))).toNat 0 := by simp only [nz_c, (nzE n73), (by decide : (((-1) : Int32)).toInt = (-1 : Int))]
      have n76 : nzI ((sy_ai F 53).getD ((sy_i F 70) + (((-1) : Int32))).toNatClampNeg 0) (((sy_ai F 53).getD (((sy_i F 70).toInt + (-1 : Int))).toNat 0).toInt) := congrArg Int32.toInt q76
      exfalso
      omega
    replace g3 : ((sy_ai F 53).getD (((sy_i F 70).toInt + (-1 : Int))).toNat 0).toInt = 0 := by omega
    have q72 : (sy_ai F 49).getD (sy_i F 71).toNatClampNeg 0 = (sy_ai F 49).getD ((sy_i F 71).toInt).toNat 0 := by simp only [nz_c]
    have n72 : nzI ((sy_ai F 49).getD (sy_i F 71).toNatClampNeg 0) (((sy_ai F 49).getD ((sy_i F 71).toInt).toNat 0).toInt) := congrArg Int32.toInt q72
    have r72 := nz_ba hB (k := 49) (lo := 0) (hi := 5) rfl ((sy_i F 71).toInt).toNat
    have n73 : nzI ((sy_i F 70) + (((-1) : Int32))) (((sy_i F 70).toInt + (-1 : Int))) := nz_add (rfl : (sy_i F 70).toInt = (sy_i F 70).toInt) (by decide : (((-1) : Int32)).toInt = (-1 : Int)) (by omega) (by omega)
    have n74 : nzI (((sy_i F 70) + (((-1) : Int32))) - ((1 : Int32))) ((((sy_i F 70).toInt + (-1 : Int)) - 1)) := nz_sub (nzE n73) (by decide : ((1 : Int32)).toInt = 1) (by omega) (by omega)
    have q76 : (sy_ai F 53).getD ((sy_i F 70) + (((-1) : Int32))).toNatClampNeg 0 = (sy_ai F 53).getD (((sy_i F 70).toInt + (-1 : Int))).toNat 0 := by simp only [nz_c, (nzE n73), (by decide : (((-1) : Int32)).toInt = (-1 : Int))]
    have n76 : nzI ((sy_ai F 53).getD ((sy_i F 70) + (((-1) : Int32))).toNatClampNeg 0) (((sy_ai F 53).getD (((sy_i F 70).toInt + (-1 : Int))).toNat 0).toInt) := congrArg Int32.toInt q76
    exact yte_5_p5 hd F X1 X2 hB (by first | exact g0 | (simp only [nz_c]; exact g0)) (by first | exact ⟨by omega, by omega⟩ | (simp only [nz_c]; exact ⟨by omega, by omega⟩)) (by first | exact g1 | (simp only [nz_c]; exact g1) | (rw [(nzE n72)]; exact g1)) (by first | (simp only [nz_c, (nzE n73), (nzE n74)]; exact (o0 g0 g1)) | exact (o0 g0 g1) | (rw [(nzE n74)]; exact (o0 g0 g1))) (by first | (simp only [nz_c, (nzE n73)]; exact (o1 g0 g1)) | exact (o1 g0 g1) | (rw [(nzE n73)]; exact (o1 g0 g1))) (by first | exact g2 | (simp only [nz_c]; exact g2) | (rw [(nzE n72)]; exact g2)) (by first | (simp only [nz_c, (nzE n73)]; exact g3) | exact g3 | (rw [(nzE n76)]; exact g3)) (fun F1 g e17 => k5 g0 g1 g2 g3 F1 (nz_in hB [17] (fun j hj hn => g j hj (by simp only [List.mem_cons, List.not_mem_nil, or_false, not_or] at hn; omega)) (List.forall_mem_cons.mpr ⟨fun t ht => (Option.some.inj ht) ▸ (nz_hi e17 (by decide : ((1 : Int32)).toInt = 1) (by omega) (by omega)), List.forall_mem_nil _⟩)) (fun j hj hn => g j hj (by simp only [List.mem_cons, List.not_mem_nil, or_false, not_or] at hn; omega)) ((congrArg Int32.toInt (zz_i e17)).trans (by decide : ((1 : Int32)).toInt = 1)) ((zz_i e17).trans (rfl : (1 : Int32) = (1 : Int32))))
  replace g1 : ((sy_ai F 49).getD ((sy_i F 71).toInt).toNat 0).toInt < 2 := by omega
  by_cases g2 : ((sy_ai F 49).getD ((sy_i F 71).toInt).toNat 0).toInt ≠ 0
  · have q72 : (sy_ai F 49).getD (sy_i F 71).toNatClampNeg 0 = (sy_ai F 49).getD ((sy_i F 71).toInt).toNat 0 := by simp only [nz_c]
    have n72 : nzI ((sy_ai F 49).getD (sy_i F 71).toNatClampNeg 0) (((sy_ai F 49).getD ((sy_i F 71).toInt).toNat 0).toInt) := congrArg Int32.toInt q72
    have r72 := nz_ba hB (k := 49) (lo := 0) (hi := 5) rfl ((sy_i F 71).toInt).toNat
    have q73 : (sy_ai F 50).getD (sy_i F 71).toNatClampNeg 0 = (sy_ai F 50).getD ((sy_i F 71).toInt).toNat 0 := by simp only [nz_c]
    have n73 : nzI ((sy_ai F 50).getD (sy_i F 71).toNatClampNeg 0) (((sy_ai F 50).getD ((sy_i F 71).toInt).toNat 0).toInt) := congrArg Int32.toInt q73
    have w75 : jm_upd (sy_ai F 53) (sy_i F 70).toNatClampNeg ((sy_ai F 52).getD ((sy_ai F 50).getD (sy_i F 71).toNatClampNeg 0).toNatClampNeg 0) = jm_upd (sy_ai F 53) ((sy_i F 70).toInt).toNat ((sy_ai F 52).getD (((sy_ai F 50).getD ((sy_i F 71).toInt).toNat 0).toInt).toNat 0) := by simp only [nz_c]
    have n76 : nzI ((sy_i F 70) + ((1 : Int32))) (((sy_i F 70).toInt + 1)) := nz_add (rfl : (sy_i F 70).toInt = (sy_i F 70).toInt) (by decide : ((1 : Int32)).toInt = 1) (by omega) (by omega)
    have n77 : nzI ((sy_i F 71) + ((1 : Int32))) (((sy_i F 71).toInt + 1)) := nz_add (rfl : (sy_i F 71).toInt = (sy_i F 71).toInt) (by decide : ((1 : Int32)).toInt = 1) (by omega) (by omega)
    exact yte_5_p6 hd F X1 X2 hB (by first | exact g0 | (simp only [nz_c]; exact g0)) (by first | exact ⟨by omega, by omega⟩ | (simp only [nz_c]; exact ⟨by omega, by omega⟩)) (by first | exact g1 | (simp only [nz_c]; exact g1) | (rw [(nzE n72)]; exact g1)) (by first | exact g2 | (simp only [nz_c]; exact g2) | (rw [(nzE n72)]; exact g2)) (by first | exact ⟨by omega, by omega⟩ | (simp only [nz_c]; exact ⟨by omega, by omega⟩)) (by first | exact (o6 g0 g1 g2) | (simp only [nz_c]; exact (o6 g0 g1 g2)) | (rw [(nzE n73)]; exact (o6 g0 g1 g2))) (by first | exact (o7 g0 g1 g2) | (simp only [nz_c]; exact (o7 g0 g1 g2))) (fun F1 g e53 e69 e70 e71 => k6 g0 g1 g2 F1 (nz_in hB [53] (fun j hj hn => g j hj (by simp only [List.mem_cons, List.not_mem_nil, or_false, not_or] at hn; omega)) (List.forall_mem_cons.mpr ⟨fun t ht => (Option.some.inj ht) ▸ (nz_hz2 e53), List.forall_mem_nil _⟩)) (fun j hj hn => g j hj (by simp only [List.mem_cons, List.not_mem_nil, or_false, not_or] at hn; omega)) ((zz_ai e53).trans w75) ((congrArg Int32.toInt (zz_i e69)).trans (rfl : (sy_i F 69).toInt = (sy_i F 69).toInt)) ((zz_i e69).trans (rfl : sy_i F 69 = sy_i F 69)) ((congrArg Int32.toInt (zz_i e70)).trans (nzE n76)) ((zz_i e70).trans (rfl : (sy_i F 70) + ((1 : Int32)) = (sy_i F 70) + ((1 : Int32)))) ((congrArg Int32.toInt (zz_i e71)).trans (nzE n77)) ((zz_i e71).trans (rfl : (sy_i F 71) + ((1 : Int32)) = (sy_i F 71) + ((1 : Int32)))))
  replace g2 : ((sy_ai F 49).getD ((sy_i F 71).toInt).toNat 0).toInt = 0 := by omega
  have q72 : (sy_ai F 49).getD (sy_i F 71).toNatClampNeg 0 = (sy_ai F 49).getD ((sy_i F 71).toInt).toNat 0 := by simp only [nz_c]
  have n72 : nzI ((sy_ai F 49).getD (sy_i F 71).toNatClampNeg 0) (((sy_ai F 49).getD ((sy_i F 71).toInt).toNat 0).toInt) := congrArg Int32.toInt q72
  have r72 := nz_ba hB (k := 49) (lo := 0) (hi := 5) rfl ((sy_i F 71).toInt).toNat
  have w74 : jm_upd (sy_ai F 53) (sy_i F 70).toNatClampNeg ((sy_ai F 50).getD (sy_i F 71).toNatClampNeg 0) = jm_upd (sy_ai F 53) ((sy_i F 70).toInt).toNat ((sy_ai F 50).getD ((sy_i F 71).toInt).toNat 0) := by simp only [nz_c]
  have n75 : nzI ((sy_i F 70) + ((1 : Int32))) (((sy_i F 70).toInt + 1)) := nz_add (rfl : (sy_i F 70).toInt = (sy_i F 70).toInt) (by decide : ((1 : Int32)).toInt = 1) (by omega) (by omega)
  have n76 : nzI ((sy_i F 71) + ((1 : Int32))) (((sy_i F 71).toInt + 1)) := nz_add (rfl : (sy_i F 71).toInt = (sy_i F 71).toInt) (by decide : ((1 : Int32)).toInt = 1) (by omega) (by omega)
  exact yte_5_p7 hd F X1 X2 hB (by first | exact g0 | (simp only [nz_c]; exact g0)) (by first | exact ⟨by omega, by omega⟩ | (simp only [nz_c]; exact ⟨by omega, by omega⟩)) (by first | exact g1 | (simp only [nz_c]; exact g1) | (rw [(nzE n72)]; exact g1)) (by first | exact g2 | (simp only [nz_c]; exact g2) | (rw [(nzE n72)]; exact g2)) (by first | exact ⟨by omega, by omega⟩ | (simp only [nz_c]; exact ⟨by omega, by omega⟩)) (by first | exact (o8 g0 g1 g2) | (simp only [nz_c]; exact (o8 g0 g1 g2))) (fun F1 g e53 e69 e70 e71 => k7 g0 g1 g2 F1 (nz_in hB [53] (fun j hj hn => g j hj (by simp only [List.mem_cons, List.not_mem_nil, or_false, not_or] at hn; omega)) (List.forall_mem_cons.mpr ⟨fun t ht => (Option.some.inj ht) ▸ (nz_hz2 e53), List.forall_mem_nil _⟩)) (fun j hj hn => g j hj (by simp only [List.mem_cons, List.not_mem_nil, or_false, not_or] at hn; omega)) ((zz_ai e53).trans w74) ((congrArg Int32.toInt (zz_i e69)).trans (rfl : (sy_i F 69).toInt = (sy_i F 69).toInt)) ((zz_i e69).trans (rfl : sy_i F 69 = sy_i F 69)) ((congrArg Int32.toInt (zz_i e70)).trans (nzE n75)) ((zz_i e70).trans (rfl : (sy_i F 70) + ((1 : Int32)) = (sy_i F 70) + ((1 : Int32)))) ((congrArg Int32.toInt (zz_i e71)).trans (nzE n76)) ((zz_i e71).trans (rfl : (sy_i F 71) + ((1 : Int32)) = (sy_i F 71) + ((1 : Int32)))))
theorem ylt_0_p0 {Ls : Nat} {xs : Nat → Int32} {d : Nat} {Q : Option Value → jm_h → Prop} (hd : 1 ≤ d) (F : Nat → sy_d) (X1 X2 : List jm_c) (hB : iv_in F iv_B4)
    (h0 : 0 ≤ (sy_i F 69).toInt ∧ (sy_i F 69).toInt < 12)
    (k : ∀ F1 : Nat → sy_d, (∀ j, j < 69 → j ≠ 17 → F1 j = F j) → F1 17 = .inl (.int ((0 : Int32))) → F1 69 = .inl (.int (sy_i F 69)) → F1 70 = .inl (.int ((sy_ai F 42).getD (sy_i F 69).toNatClampNeg 0)) → hd_W Ls xs d jm_M180 Q (12, sy_dL F1 [some (.inl (.ref 1000)), some (.inr (.inl 69)), some (.inr (.inl 70)), none, none], sy_dS F1 [], sy_dh F1 X1 X2 (iv_H 4), 0, 0)) :
    hd_W Ls xs d jm_M180 Q (0, sy_dL F [some (.inl (.ref 1000)), some (.inr (.inl 69)), none, none, none], sy_dS F [], sy_dh F X1 X2 (iv_H 4), 0, 0) := by
  refine hd_run (s := 4) (nv := 70) (pc := 12) (L := [some (.inl (.ref 1000)), some (.inr (.inl 69)), some (.inr (.inl 70)), none, none]) (S := []) (uh := hd_ov (iv_id 0 iv_B4) [(17, .inl (.inl (.int 0)))]) (ul := [.inl (.inr (.inl 69)), .inl (.inr (.inl 70))]) (f := true) (sp := [12]) (d0 := 0) (O := []) (T := [(30, [.inr (.inl 69)], [.inr (.inl 42)])]) (P := [(6, .inr (.inl 69), .inl (.ref 12))]) jm_ok180 (by decide +kernel) (by decide +kernel) hd F X1 X2 (fun F' hF hs => ?_)
  have b69 := hd_b (F := F) (F' := F') (k := 69) (hF 69 (by decide))
  have a42 := hd_ba (F := F) (F' := F') (k := 42) (hF 42 (by decide))
  have t70 : sy_dv F' (.inr (.inl 70)) = .int ((sy_ai F 42).getD (sy_i F 69).toNatClampNeg 0) := hd_rd (hs 0 _ rfl) b69 a42
  have hB' : iv_in F' iv_B4 := iv_in_eq hB (fun j hj => hF j (Nat.lt_of_lt_of_le hj (by decide +kernel)))
  refine ⟨List.forall_mem_cons.mpr ⟨hd_pb b69 (by first | exact h0 | exact h0), fun _ h => absurd h List.not_mem_nil⟩, ?_⟩
  refine k _ ?_ ?_ ?_ ?_
  · exact fun j hj hn => (hd_keep hB' (Nat.lt_of_lt_of_le hj (by decide +kernel)) (by simp; omega)).trans (hF j (Nat.lt_of_lt_of_le hj (by decide)))
  · exact hd_gi (x := .inl (.int 0)) (by decide +kernel) rfl
  · exact hd_gi (x := .inr (.inl 69)) (by decide +kernel) b69
  · exact hd_gi (x := .inr (.inl 70)) (by decide +kernel) t70
theorem ylt_0 {Ls : Nat} {xs : Nat → Int32} {d : Nat} {Q : Option Value → jm_h → Prop} (hd : 1 ≤ d) (F : Nat → sy_d) (X1 X2 : List jm_c) (hB : iv_in F iv_B4)
    (a69 : 0 ≤ (sy_i F 69).toInt ∧ (sy_i F 69).toInt ≤ 11)
    (k0 : ∀ F1 : Nat → sy_d, iv_in F1 iv_B4 → (∀ j, j < 69 → j ∉ ([17] : List Nat) → F1 j = F j) → (sy_i F1 17).toInt = 0 → sy_i F1 17 = (0 : Int32) → (sy_i F1 69).toInt = (sy_i F 69).toInt → sy_i F1 69 = sy_i F 69 → (sy_i F1 70).toInt = ((sy_ai F 42).getD ((sy_i F 69).toInt).toNat 0).toInt → sy_i F1 70 = (sy_ai F 42).getD ((sy_i F 69).toInt).toNat 0 → hd_W Ls xs d jm_M180 Q (12, sy_dL F1 [some (.inl (.ref 1000)), some (.inr (.inl 69)), some (.inr (.inl 70)), none, none], sy_dS F1 [], sy_dh F1 X1 X2 (iv_H 4), 0, 0)) :
    hd_W Ls xs d jm_M180 Q (0, sy_dL F [some (.inl (.ref 1000)), some (.inr (.inl 69)), none, none, none], sy_dS F [], sy_dh F X1 X2 (iv_H 4), 0, 0) := by
  have q70 : (sy_ai F 42).getD (sy_i F 69).toNatClampNeg 0 = (sy_ai F 42).getD ((sy_i F 69).toInt).toNat 0 := by simp only [nz_c]
  have n70 : nzI ((sy_ai F 42).getD (sy_i F 69).toNatClampNeg 0) (((sy_ai F 42).getD ((sy_i F 69).toInt).toNat 0).toInt) := congrArg Int32.toInt q70
  have r70 := nz_ba hB (k := 42) (lo := 0) (hi := 260) rfl ((sy_i F 69).toInt).toNat
  exact ylt_0_p0 hd F X1 X2 hB (by first | exact ⟨by omega, by omega⟩ | (simp only [nz_c]; exact ⟨by omega, by omega⟩)) (fun F1 g e17 e69 e70 => k0 F1 (nz_in hB [17] (fun j hj hn => g j hj (by simp only [List.mem_cons, List.not_mem_nil, or_false, not_or] at hn; omega)) (List.forall_mem_cons.mpr ⟨fun t ht => (Option.some.inj ht) ▸ (nz_hi e17 (by decide : ((0 : Int32)).toInt = 0) (by omega) (by omega)), List.forall_mem_nil _⟩)) (fun j hj hn => g j hj (by simp only [List.mem_cons, List.not_mem_nil, or_false, not_or] at hn; omega)) ((congrArg Int32.toInt (zz_i e17)).trans (by decide : ((0 : Int32)).toInt = 0)) ((zz_i e17).trans (rfl : (0 : Int32) = (0 : Int32))) ((congrArg Int32.toInt (zz_i e69)).trans (rfl : (sy_i F 69).toInt = (sy_i F 69).toInt)) ((zz_i e69).trans (rfl : sy_i F 69 = sy_i F 69)) ((congrArg Int32.toInt (zz_i e70)).trans (nzE n70)) ((zz_i e70).trans q70))
theorem ylt_12_p0 {Ls : Nat} {xs : Nat → Int32} {d : Nat} {Q : Option Value → jm_h → Prop} (hd : 1 ≤ d) (F : Nat → sy_d) (X1 X2 : List jm_c) (hB : iv_in F iv_B4)
    (h0 : 0 ≤ (sy_i F 69).toInt ∧ (sy_i F 69).toInt < 12)
    (h1 : ((sy_ai F 43).getD (sy_i F 69).toNatClampNeg 0).toInt ≤ (sy_i F 70).toInt)
    (k : ∀ F1 : Nat → sy_d, (∀ j, j < 69 → True → F1 j = F j) → Q (some (.int ((0 : Int32)))) (sy_dh F1 X1 X2 (iv_H 4))) :
    hd_W Ls xs d jm_M180 Q (12, sy_dL F [some (.inl (.ref 1000)), some (.inr (.inl 69)), some (.inr (.inl 70)), none, none], sy_dS F [], sy_dh F X1 X2 (iv_H 4), 0, 0) := by
  refine hd_ret (s := 4) (nv := 71) (v := some (.inl (.int 0))) (uh := hd_ov (iv_id 0 iv_B4) []) (f := true) (sp := [44, 97]) (d0 := 0) (O := [true]) (T := [(30, [.inr (.inl 69)], [.inr (.inl 43)])]) (P := [(6, .inr (.inl 69), .inl (.ref 12)), (4, .inr (.inl 71), .inr (.inl 70))]) jm_ok180 (by decide +kernel) (by decide +kernel) hd F X1 X2 (fun F' hF hs => ?_)
  have b69 := hd_b (F := F) (F' := F') (k := 69) (hF 69 (by decide))
  have a43 := hd_ba (F := F) (F' := F') (k := 43) (hF 43 (by decide))
  have t71 : sy_dv F' (.inr (.inl 71)) = .int ((sy_ai F 43).getD (sy_i F 69).toNatClampNeg 0) := hd_rd (hs 0 _ rfl) b69 a43
  have b70 := hd_b (F := F) (F' := F') (k := 70) (hF 70 (by decide))
  have hB' : iv_in F' iv_B4 := iv_in_eq hB (fun j hj => hF j (Nat.lt_of_lt_of_le hj (by decide +kernel)))
  refine ⟨List.forall_mem_cons.mpr ⟨hd_pb b69 (by first | exact h0 | exact h0), List.forall_mem_cons.mpr ⟨hd_p4 t71 b70 h1, fun _ h => absurd h List.not_mem_nil⟩⟩, ?_⟩
  refine k _ ?_
  · exact fun j hj _ => (hd_keep hB' (Nat.lt_of_lt_of_le hj (by decide +kernel)) (by simp)).trans (hF j (Nat.lt_of_lt_of_le hj (by decide)))
theorem ylt_12_p1 {Ls : Nat} {xs : Nat → Int32} {d : Nat} {Q : Option Value → jm_h → Prop} (hd : 1 ≤ d) (F : Nat → sy_d) (X1 X2 : List jm_c) (hB : iv_in F iv_B4)
    (h0 : 0 ≤ (sy_i F 69).toInt ∧ (sy_i F 69).toInt < 12)
    (h1 : (sy_i F 70).toInt < ((sy_ai F 43).getD (sy_i F 69).toNatClampNeg 0).toInt)
    (h2 : 0 ≤ (sy_i F 70).toInt ∧ (sy_i F 70).toInt < 260)
    (h3 : ((sy_ai F 44).getD (sy_i F 70).toNatClampNeg 0).toInt = 0)
    (h4 : 0 ≤ (sy_i F 70).toInt ∧ (sy_i F 70).toInt < 260)
    (h5 : 0 ≤ (sy_i F 70).toInt ∧ (sy_i F 70).toInt < 260)
    (k : ∀ F1 : Nat → sy_d, (∀ j, j < 69 → True → F1 j = F j) → F1 69 = .inl (.int (sy_i F 69)) → F1 70 = .inl (.int (sy_i F 70)) → F1 71 = .inl (.int ((sy_ai F 47).getD (sy_i F 70).toNatClampNeg 0)) → F1 72 = .inl (.int ((sy_ai F 48).getD (sy_i F 70).toNatClampNeg 0)) → hd_W Ls xs d jm_M180 Q (97, sy_dL F1 [some (.inl (.ref 1000)), some (.inr (.inl 69)), some (.inr (.inl 70)), none, none], sy_dS F1 [.inr (.inl 72), .inr (.inl 71), .inl (.ref 1000)], sy_dh F1 X1 X2 (iv_H 4), 0, 0)) :
    hd_W Ls xs d jm_M180 Q (12, sy_dL F [some (.inl (.ref 1000)), some (.inr (.inl 69)), some (.inr (.inl 70)), none, none], sy_dS F [], sy_dh F X1 X2 (iv_H 4), 0, 0) := by
  refine hd_run (s := 4) (nv := 71) (pc := 97) (L := [some (.inl (.ref 1000)), some (.inr (.inl 69)), some (.inr (.inl 70)), none, none]) (S := [.inr (.inl 72), .inr (.inl 71), .inl (.ref 1000)]) (uh := hd_ov (iv_id 0 iv_B4) []) (ul := [.inl (.inr (.inl 69)), .inl (.inr (.inl 70)), .inl (.inr (.inl 73)), .inl (.inr (.inl 74))]) (f := true) (sp := [44, 97]) (d0 := 0) (O := [false, true]) (T := [(30, [.inr (.inl 69)], [.inr (.inl 43)]), (30, [.inr (.inl 70)], [.inr (.inl 44)]), (30, [.inr (.inl 70)], [.inr (.inl 47)]), (30, [.inr (.inl 70)], [.inr (.inl 48)])]) (P := [(6, .inr (.inl 69), .inl (.ref 12)), (5, .inr (.inl 71), .inr (.inl 70)), (6, .inr (.inl 70), .inl (.ref 260)), (0, .inr (.inl 72), .inl (.int 0)), (6, .inr (.inl 70), .inl (.ref 260)), (6, .inr (.inl 70), .inl (.ref 260))]) jm_ok180 (by decide +kernel) (by decide +kernel) hd F X1 X2 (fun F' hF hs => ?_)
  have b69 := hd_b (F := F) (F' := F') (k := 69) (hF 69 (by decide))
  have a43 := hd_ba (F := F) (F' := F') (k := 43) (hF 43 (by decide))
  have t71 : sy_dv F' (.inr (.inl 71)) = .int ((sy_ai F 43).getD (sy_i F 69).toNatClampNeg 0) := hd_rd (hs 0 _ rfl) b69 a43
  have b70 := hd_b (F := F) (F' := F') (k := 70) (hF 70 (by decide))
  have a44 := hd_ba (F := F) (F' := F') (k := 44) (hF 44 (by decide))
  have t72 : sy_dv F' (.inr (.inl 72)) = .int ((sy_ai F 44).getD (sy_i F 70).toNatClampNeg 0) := hd_rd (hs 1 _ rfl) b70 a44
  have a47 := hd_ba (F := F) (F' := F') (k := 47) (hF 47 (by decide))
  have t73 : sy_dv F' (.inr (.inl 73)) = .int ((sy_ai F 47).getD (sy_i F 70).toNatClampNeg 0) := hd_rd (hs 2 _ rfl) b70 a47
  have a48 := hd_ba (F := F) (F' := F') (k := 48) (hF 48 (by decide))
  have t74 : sy_dv F' (.inr (.inl 74)) = .int ((sy_ai F 48).getD (sy_i F 70).toNatClampNeg 0) := hd_rd (hs 3 _ rfl) b70 a48
  have hB' : iv_in F' iv_B4 := iv_in_eq hB (fun j hj => hF j (Nat.lt_of_lt_of_le hj (by decide +kernel)))
  refine ⟨List.forall_mem_cons.mpr ⟨hd_pb b69 (by first | exact h0 | exact h0), List.forall_mem_cons.mpr ⟨hd_p5 t71 b70 h1, List.forall_mem_cons.mpr ⟨hd_pb b70 (by first | exact h2 | exact h2), List.forall_mem_cons.mpr ⟨hd_p0 t72 rfl (by have hc : ((0) : Int32).toInt = 0 := (by decide); omega), List.forall_mem_cons.mpr ⟨hd_pb b70 (by first | exact h4 | exact h4), List.forall_mem_cons.mpr ⟨hd_pb b70 (by first | exact h5 | exact h5), fun _ h => absurd h List.not_mem_nil⟩⟩⟩⟩⟩⟩, ?_⟩
  refine k _ ?_ ?_ ?_ ?_ ?_
  · exact fun j hj _ => (hd_keep hB' (Nat.lt_of_lt_of_le hj (by decide +kernel)) (by simp)).trans (hF j (Nat.lt_of_lt_of_le hj (by decide)))
  · exact hd_gi (x := .inr (.inl 69)) (by decide +kernel) b69
  · exact hd_gi (x := .inr (.inl 70)) (by decide +kernel) b70
  · exact hd_gi (x := .inr (.inl 73)) (by decide +kernel) t73
  · exact hd_gi (x := .inr (.inl 74)) (by decide +kernel) t74
theorem ylt_12_p2 {Ls : Nat} {xs : Nat → Int32} {d : Nat} {Q : Option Value → jm_h → Prop} (hd : 1 ≤ d) (F : Nat → sy_d) (X1 X2 : List jm_c) (hB : iv_in F iv_B4)
    (h0 : 0 ≤ (sy_i F 69).toInt ∧ (sy_i F 69).toInt < 12)
    (h1 : (sy_i F 70).toInt < ((sy_ai F 43).getD (sy_i F 69).toNatClampNeg 0).toInt)
    (h2 : 0 ≤ (sy_i F 70).toInt ∧ (sy_i F 70).toInt < 260)
    (h3 : ((sy_ai F 44).getD (sy_i F 70).toNatClampNeg 0).toInt ≠ 0)
    (h4 : 0 ≤ (sy_i F 70).toInt ∧ (sy_i F 70).toInt < 260)
    (h5 : 0 ≤ (sy_i F 70).toInt ∧ (sy_i F 70).toInt < 260)
    (k : ∀ F1 : Nat → sy_d, (∀ j, j < 69 → True → F1 j = F j) → F1 69 = .inl (.int (sy_i F 69)) → F1 70 = .inl (.int (sy_i F 70)) → F1 71 = .inl (.int ((sy_ai F 45).getD (sy_i F 70).toNatClampNeg 0)) → F1 72 = .inl (.int ((sy_ai F 46).getD (sy_i F 70).toNatClampNeg 0)) → hd_W Ls xs d jm_M180 Q (44, sy_dL F1 [some (.inl (.ref 1000)), some (.inr (.inl 69)), some (.inr (.inl 70)), none, none], sy_dS F1 [.inr (.inl 72), .inr (.inl 71), .inl (.ref 1000)], sy_dh F1 X1 X2 (iv_H 4), 0, 0)) :
    hd_W Ls xs d jm_M180 Q (12, sy_dL F [some (.inl (.ref 1000)), some (.inr (.inl 69)), some (.inr (.inl 70)), none, none], sy_dS F [], sy_dh F X1 X2 (iv_H 4), 0, 0) := by
  refine hd_run (s := 4) (nv := 71) (pc := 44) (L := [some (.inl (.ref 1000)), some (.inr (.inl 69)), some (.inr (.inl 70)), none, none]) (S := [.inr (.inl 72), .inr (.inl 71), .inl (.ref 1000)]) (uh := hd_ov (iv_id 0 iv_B4) []) (ul := [.inl (.inr (.inl 69)), .inl (.inr (.inl 70)), .inl (.inr (.inl 73)), .inl (.inr (.inl 74))]) (f := true) (sp := [44, 97]) (d0 := 0) (O := [false, false]) (T := [(30, [.inr (.inl 69)], [.inr (.inl 43)]), (30, [.inr (.inl 70)], [.inr (.inl 44)]), (30, [.inr (.inl 70)], [.inr (.inl 45)]), (30, [.inr (.inl 70)], [.inr (.inl 46)])]) (P := [(6, .inr (.inl 69), .inl (.ref 12)), (5, .inr (.inl 71), .inr (.inl 70)), (6, .inr (.inl 70), .inl (.ref 260)), (1, .inr (.inl 72), .inl (.int 0)), (6, .inr (.inl 70), .inl (.ref 260)), (6, .inr (.inl 70), .inl (.ref 260))]) jm_ok180 (by decide +kernel) (by decide +kernel) hd F X1 X2 (fun F' hF hs => ?_)
  have b69 := hd_b (F := F) (F' := F') (k := 69) (hF 69 (by decide))
  have a43 := hd_ba (F := F) (F' := F') (k := 43) (hF 43 (by decide))
  have t71 : sy_dv F' (.inr (.inl 71)) = .int ((sy_ai F 43).getD (sy_i F 69).toNatClampNeg 0) := hd_rd (hs 0 _ rfl) b69 a43
  have b70 := hd_b (F := F) (F' := F') (k := 70) (hF 70 (by decide))
  have a44 := hd_ba (F := F) (F' := F') (k := 44) (hF 44 (by decide))
  have t72 : sy_dv F' (.inr (.inl 72)) = .int ((sy_ai F 44).getD (sy_i F 70).toNatClampNeg 0) := hd_rd (hs 1 _ rfl) b70 a44
  have a45 := hd_ba (F := F) (F' := F') (k := 45) (hF 45 (by decide))
  have t73 : sy_dv F' (.inr (.inl 73)) = .int ((sy_ai F 45).getD (sy_i F 70).toNatClampNeg 0) := hd_rd (hs 2 _ rfl) b70 a45
  have a46 := hd_ba (F := F) (F' := F') (k := 46) (hF 46 (by decide))
  have t74 : sy_dv F' (.inr (.inl 74)) = .int ((sy_ai F 46).getD (sy_i F 70).toNatClampNeg 0) := hd_rd (hs 3 _ rfl) b70 a46
  have hB' : iv_in F' iv_B4 := iv_in_eq hB (fun j hj => hF j (Nat.lt_of_lt_of_le hj (by decide +kernel)))
  refine ⟨List.forall_mem_cons.mpr ⟨hd_pb b69 (by first | exact h0 | exact h0), List.forall_mem_cons.mpr ⟨hd_p5 t71 b70 h1, List.forall_mem_cons.mpr ⟨hd_pb b70 (by first | exact h2 | exact h2), List.forall_mem_cons.mpr ⟨hd_p1 t72 rfl (by have hc : ((0) : Int32).toInt = 0 := (by decide); omega), List.forall_mem_cons.mpr ⟨hd_pb b70 (by first | exact h4 | exact h4), List.forall_mem_cons.mpr ⟨hd_pb b70 (by first | exact h5 | exact h5), fun _ h => absurd h List.not_mem_nil⟩⟩⟩⟩⟩⟩, ?_⟩
  refine k _ ?_ ?_ ?_ ?_ ?_
  · exact fun j hj _ => (hd_keep hB' (Nat.lt_of_lt_of_le hj (by decide +kernel)) (by simp)).trans (hF j (Nat.lt_of_lt_of_le hj (by decide)))
  · exact hd_gi (x := .inr (.inl 69)) (by decide +kernel) b69
  · exact hd_gi (x := .inr (.inl 70)) (by decide +kernel) b70
  · exact hd_gi (x := .inr (.inl 73)) (by decide +kernel) t73
  · exact hd_gi (x := .inr (.inl 74)) (by decide +kernel) t74
theorem ylt_12 {Ls : Nat} {xs : Nat → Int32} {d : Nat} {Q : Option Value → jm_h → Prop} (hd : 1 ≤ d) (F : Nat → sy_d) (X1 X2 : List jm_c) (hB : iv_in F iv_B4)
    (a69 : 0 ≤ (sy_i F 69).toInt ∧ (sy_i F 69).toInt ≤ 11)
    (a70 : 0 ≤ (sy_i F 70).toInt ∧ (sy_i F 70).toInt ≤ 260)
    (k0 : ((sy_ai F 43).getD ((sy_i F 69).toInt).toNat 0).toInt ≤ (sy_i F 70).toInt → ∀ F1 : Nat → sy_d, iv_in F1 iv_B4 → (∀ j, j < 69 → j ∉ ([] : List Nat) → F1 j = F j) → Q (some (.int ((0 : Int32)))) (sy_dh F1 X1 X2 (iv_H 4)))
    (k1 : (sy_i F 70).toInt < ((sy_ai F 43).getD ((sy_i F 69).toInt).toNat 0).toInt → ((sy_ai F 44).getD ((sy_i F 70).toInt).toNat 0).toInt = 0 → ∀ F1 : Nat → sy_d, iv_in F1 iv_B4 → (∀ j, j < 69 → j ∉ ([] : List Nat) → F1 j = F j) → (sy_i F1 69).toInt = (sy_i F 69).toInt → sy_i F1 69 = sy_i F 69 → (sy_i F1 70).toInt = (sy_i F 70).toInt → sy_i F1 70 = sy_i F 70 → (sy_i F1 71).toInt = ((sy_ai F 47).getD ((sy_i F 70).toInt).toNat 0).toInt → sy_i F1 71 = (sy_ai F 47).getD ((sy_i F 70).toInt).toNat 0 → (sy_i F1 72).toInt = ((sy_ai F 48).getD ((sy_i F 70).toInt).toNat 0).toInt → sy_i F1 72 = (sy_ai F 48).getD ((sy_i F 70).toInt).toNat 0 → hd_W Ls xs d jm_M180 Q (97, sy_dL F1 [some (.inl (.ref 1000)), some (.inr (.inl 69)), some (.inr (.inl 70)), none, none], sy_dS F1 [.inr (.inl 72), .inr (.inl 71), .inl (.ref 1000)], sy_dh F1 X1 X2 (iv_H 4), 0, 0))
    (k2 : (sy_i F 70).toInt < ((sy_ai F 43).getD ((sy_i F 69).toInt).toNat 0).toInt → ((sy_ai F 44).getD ((sy_i F 70).toInt).toNat 0).toInt ≠ 0 → ∀ F1 : Nat → sy_d, iv_in F1 iv_B4 → (∀ j, j < 69 → j ∉ ([] : List Nat) → F1 j = F j) → (sy_i F1 69).toInt = (sy_i F 69).toInt → sy_i F1 69 = sy_i F 69 → (sy_i F1 70).toInt = (sy_i F 70).toInt → sy_i F1 70 = sy_i F 70 → (sy_i F1 71).toInt = ((sy_ai F 45).getD ((sy_i F 70).toInt).toNat 0).toInt → sy_i F1 71 = (sy_ai F 45).getD ((sy_i F 70).toInt).toNat 0 → (sy_i F1 72).toInt = ((sy_ai F 46).getD ((sy_i F 70).toInt).toNat 0).toInt → sy_i F1 72 = (sy_ai F 46).getD ((sy_i F 70).toInt).toNat 0 → hd_W Ls xs d jm_M180 Q (44, sy_dL F1 [some (.inl (.ref 1000)), some (.inr (.inl 69)), some (.inr (.inl 70)), none, none], sy_dS F1 [.inr (.inl 72), .inr (.inl 71), .inl (.ref 1000)], sy_dh F1 X1 X2 (iv_H 4), 0, 0)) :
    hd_W Ls xs d jm_M180 Q (12, sy_dL F [some (.inl (.ref 1000)), some (.inr (.inl 69)), some (.inr (.inl 70)), none, none], sy_dS F [], sy_dh F X1 X2 (iv_H 4), 0, 0) := by
  by_cases g0 : ((sy_ai F 43).getD ((sy_i F 69).toInt).toNat 0).toInt ≤ (sy_i F 70).toInt
  · have q71 : (sy_ai F 43).getD (sy_i F 69).toNatClampNeg 0 = (sy_ai F 43).getD ((sy_i F 69).toInt).toNat 0 := by simp only [nz_c]
    have n71 : nzI ((sy_ai F 43).getD (sy_i F 69).toNatClampNeg 0) (((sy_ai F 43).getD ((sy_i F 69).toInt).toNat 0).toInt) := congrArg Int32.toInt q71
    have r71 := nz_ba hB (k := 43) (lo := 0) (hi := 260) rfl ((sy_i F 69).toInt).toNat
    exact ylt_12_p0 hd F X1 X2 hB (by first | exact ⟨by omega, by omega⟩ | (simp only [nz_c]; exact ⟨by omega, by omega⟩)) (by first | exact g0 | (simp only [nz_c]; exact g0) | (rw [(nzE n71)]; exact g0)) (fun F1 g  => k0 g0 F1 (nz_in hB [] (fun j hj hn => g j hj (by simp only [List.mem_cons, List.not_mem_nil, or_false, not_or] at hn; exact trivial)) (List.forall_mem_nil _)) (fun j hj hn => g j hj (by simp only [List.mem_cons, List.not_mem_nil, or_false, not_or] at hn; exact trivial)) )
  replace g0 : (sy_i F 70).toInt < ((sy_ai F 43).getD ((sy_i F 69).toInt).toNat 0).toInt := by omega
  by_cases g1 : ((sy_ai F 44).getD ((sy_i F 70).toInt).toNat 0).toInt = 0
  · have q71 : (sy_ai F 43).getD (sy_i F 69).toNatClampNeg 0 = (sy_ai F 43).getD ((sy_i F 69).toInt).toNat 0 := by simp only [nz_c]
    have n71 : nzI ((sy_ai F 43).getD (sy_i F 69).toNatClampNeg 0) (((sy_ai F 43).getD ((sy_i F 69).toInt).toNat 0).toInt) := congrArg Int32.toInt q71
    have r71 := nz_ba hB (k := 43) (lo := 0) (hi := 260) rfl ((sy_i F 69).toInt).toNat
    have q72 : (sy_ai F 44).getD (sy_i F 70).toNatClampNeg 0 = (sy_ai F 44).getD ((sy_i F 70).toInt).toNat 0 := by simp only [nz_c]
    have n72 : nzI ((sy_ai F 44).getD (sy_i F 70).toNatClampNeg 0) (((sy_ai F 44).getD ((sy_i F 70).toInt).toNat 0).toInt) := congrArg Int32.toInt q72
    have r72 := nz_ba hB (k := 44) (lo := 0) (hi := 1) rfl ((sy_i F 70).toInt).toNat
    have q73 : (sy_ai F 47).getD (sy_i F 70).toNatClampNeg 0 = (sy_ai F 47).getD ((sy_i F 70).toInt).toNat 0 := by simp only [nz_c]
    have n73 : nzI ((sy_ai F 47).getD (sy_i F 70).toNatClampNeg 0) (((sy_ai F 47).getD ((sy_i F 70).toInt).toNat 0).toInt) := congrArg Int32.toInt q73
    have r73 := nz_ba hB (k := 47) (lo := 0) (hi := 840) rfl ((sy_i F 70).toInt).toNat
    have q74 : (sy_ai F 48).getD (sy_i F 70).toNatClampNeg 0 = (sy_ai F 48).getD ((sy_i F 70).toInt).toNat 0 := by simp only [nz_c]
    have n74 : nzI ((sy_ai F 48).getD (sy_i F 70).toNatClampNeg 0) (((sy_ai F 48).getD ((sy_i F 70).toInt).toNat 0).toInt) := congrArg Int32.toInt q74
    have r74 := nz_ba hB (k := 48) (lo := 0) (hi := 840) rfl ((sy_i F 70).toInt).toNat
    exact ylt_12_p1 hd F X1 X2 hB (by first | exact ⟨by omega, by omega⟩ | (simp only [nz_c]; exact ⟨by omega, by omega⟩)) (by first | exact g0 | (simp only [nz_c]; exact g0) | (rw [(nzE n71)]; exact g0)) (by first | exact ⟨by omega, by omega⟩ | (simp only [nz_c]; exact ⟨by omega, by omega⟩)) (by first | exact g1 | (simp only [nz_c]; exact g1) | (rw [(nzE n72)]; exact g1)) (by first | exact ⟨by omega, by omega⟩ | (simp only [nz_c]; exact ⟨by omega, by omega⟩)) (by first | exact ⟨by omega, by omega⟩ | (simp only [nz_c]; exact ⟨by omega, by omega⟩)) (fun F1 g e69 e70 e71 e72 => k1 g0 g1 F1 (nz_in hB [] (fun j hj hn => g j hj (by simp only [List.mem_cons, List.not_mem_nil, or_false, not_or] at hn; exact trivial)) (List.forall_mem_nil _)) (fun j hj hn => g j hj (by simp only [List.mem_cons, List.not_mem_nil, or_false, not_or] at hn; exact trivial)) ((congrArg Int32.toInt (zz_i e69)).trans (rfl : (sy_i F 69).toInt = (sy_i F 69).toInt)) ((zz_i e69).trans (rfl : sy_i F 69 = sy_i F 69)) ((congrArg Int32.toInt (zz_i e70)).trans (rfl : (sy_i F 70).toInt = (sy_i F 70).toInt)) ((zz_i e70).trans (rfl : sy_i F 70 = sy_i F 70)) ((congrArg Int32.toInt (zz_i e71)).trans (nzE n73)) ((zz_i e71).trans q73) ((congrArg Int32.toInt (zz_i e72)).trans (nzE n74)) ((zz_i e72).trans q74))
  replace g1 : ((sy_ai F 44).getD ((sy_i F 70).toInt).toNat 0).toInt ≠ 0 := by omega
  have q71 : (sy_ai F 43).getD (sy_i F 69).toNatClampNeg 0 = (sy_ai F 43).getD ((sy_i F 69).toInt).toNat 0 := by simp only [nz_c]
  have n71 : nzI ((sy_ai F 43).getD (sy_i F 69).toNatClampNeg 0) (((sy_ai F 43).getD ((sy_i F 69).toInt).toNat 0).toInt) := congrArg Int32.toInt q71
  have r71 := nz_ba hB (k := 43) (lo := 0) (hi := 260) rfl ((sy_i F 69).toInt).toNat
  have q72 : (sy_ai F 44).getD (sy_i F 70).toNatClampNeg 0 = (sy_ai F 44).getD ((sy_i F 70).toInt).toNat 0 := by simp only [nz_c]
  have n72 : nzI ((sy_ai F 44).getD (sy_i F 70).toNatClampNeg 0) (((sy_ai F 44).getD ((sy_i F 70).toInt).toNat 0).toInt) := congrArg Int32.toInt q72
  have r72 := nz_ba hB (k := 44) (lo := 0) (hi := 1) rfl ((sy_i F 70).toInt).toNat
  have q73 : (sy_ai F 45).getD (sy_i F 70).toNatClampNeg 0 = (sy_ai F 45).getD ((sy_i F 70).toInt).toNat 0 := by simp only [nz_c]
  have n73 : nzI ((sy_ai F 45).getD (sy_i F 70).toNatClampNeg 0) (((sy_ai F 45).getD ((sy_i F 70).toInt).toNat 0).toInt) := congrArg Int32.toInt q73
  have r73 := nz_ba hB (k := 45) (lo := 0) (hi := 840) rfl ((sy_i F 70).toInt).toNat
  have q74 : (sy_ai F 46).getD (sy_i F 70).toNatClampNeg 0 = (sy_ai F 46).getD ((sy_i F 70).toInt).toNat 0 := by simp only [nz_c]
  have n74 : nzI ((sy_ai F 46).getD (sy_i F 70).toNatClampNeg 0) (((sy_ai F 46).getD ((sy_i F 70).toInt).toNat 0).toInt) := congrArg Int32.toInt q74
  have r74 := nz_ba hB (k := 46) (lo := 0) (hi := 840) rfl ((sy_i F 70).toInt).toNat
  exact ylt_12_p2 hd F X1 X2 hB (by first | exact ⟨by omega, by omega⟩ | (simp only [nz_c]; exact ⟨by omega, by omega⟩)) (by first | exact g0 | (simp only [nz_c]; exact g0) | (rw [(nzE n71)]; exact g0)) (by first | exact ⟨by omega, by omega⟩ | (simp only [nz_c]; exact ⟨by omega, by omega⟩)) (by first | exact g1 | (simp only [nz_c]; exact g1) | (rw [(nzE n72)]; exact g1)) (by first | exact ⟨by omega, by omega⟩ | (simp only [nz_c]; exact ⟨by omega, by omega⟩)) (by first | exact ⟨by omega, by omega⟩ | (simp only [nz_c]; exact ⟨by omega, by omega⟩)) (fun F1 g e69 e70 e71 e72 => k2 g0 g1 F1 (nz_in hB [] (fun j hj hn => g j hj (by simp only [List.mem_cons, List.not_mem_nil, or_false, not_or] at hn; exact trivial)) (List.forall_mem_nil _)) (fun j hj hn => g j hj (by simp only [List.mem_cons, List.not_mem_nil, or_false, not_or] at hn; exact trivial)) ((congrArg Int32.toInt (zz_i e69)).trans (rfl : (sy_i F 69).toInt = (sy_i F 69).toInt)) ((zz_i e69).trans (rfl : sy_i F 69 = sy_i F 69)) ((congrArg Int32.toInt (zz_i e70)).trans (rfl : (sy_i F 70).toInt = (sy_i F 70).toInt)) ((zz_i e70).trans (rfl : sy_i F 70 = sy_i F 70)) ((congrArg Int32.toInt (zz_i e71)).trans (nzE n73)) ((zz_i e71).trans q73) ((congrArg Int32.toInt (zz_i e72)).trans (nzE n74)) ((zz_i e72).trans q74))
theorem ylt_47_p0 {Ls : Nat} {xs : Nat → Int32} {d : Nat} {Q : Option Value → jm_h → Prop} (hd : 1 ≤ d) (F : Nat → sy_d) (X1 X2 : List jm_c) (hB : iv_in F iv_B4)
    (h0 : 0 ≤ (sy_i F 70).toInt ∧ (sy_i F 70).toInt < 260)
    (h1 : 0 ≤ (sy_i F 70).toInt ∧ (sy_i F 70).toInt < 260)
    (k : ∀ F1 : Nat → sy_d, (∀ j, j < 69 → True → F1 j = F j) → F1 69 = .inl (.int (sy_i F 69)) → F1 70 = .inl (.int (sy_i F 70)) → F1 71 = .inl (.int (sy_i F 71)) → F1 72 = .inl (.int ((sy_ai F 46).getD (sy_i F 70).toNatClampNeg 0)) → F1 73 = .inl (.int ((sy_ai F 47).getD (sy_i F 70).toNatClampNeg 0)) → hd_W Ls xs d jm_M180 Q (61, sy_dL F1 [some (.inl (.ref 1000)), some (.inr (.inl 69)), some (.inr (.inl 70)), some (.inr (.inl 71)), none], sy_dS F1 [.inr (.inl 73), .inr (.inl 72), .inl (.ref 1000)], sy_dh F1 X1 X2 (iv_H 4), 0, 0)) :
    hd_W Ls xs d jm_M180 Q (47, sy_dL F [some (.inl (.ref 1000)), some (.inr (.inl 69)), some (.inr (.inl 70)), none, none], sy_dS F [.inr (.inl 71)], sy_dh F X1 X2 (iv_H 4), 0, 0) := by
  refine hd_run (s := 4) (nv := 72) (pc := 61) (L := [some (.inl (.ref 1000)), some (.inr (.inl 69)), some (.inr (.inl 70)), some (.inr (.inl 71)), none]) (S := [.inr (.inl 73), .inr (.inl 72), .inl (.ref 1000)]) (uh := hd_ov (iv_id 0 iv_B4) []) (ul := [.inl (.inr (.inl 69)), .inl (.inr (.inl 70)), .inl (.inr (.inl 71)), .inl (.inr (.inl 72)), .inl (.inr (.inl 73))]) (f := false) (sp := [61]) (d0 := 0) (O := []) (T := [(30, [.inr (.inl 70)], [.inr (.inl 46)]), (30, [.inr (.inl 70)], [.inr (.inl 47)])]) (P := [(6, .inr (.inl 70), .inl (.ref 260)), (6, .inr (.inl 70), .inl (.ref 260))]) jm_ok180 (by decide +kernel) (by decide +kernel) hd F X1 X2 (fun F' hF hs => ?_)
  have b70 := hd_b (F := F) (F' := F') (k := 70) (hF 70 (by decide))
  have b69 := hd_b (F := F) (F' := F') (k := 69) (hF 69 (by decide))
  have b71 := hd_b (F := F) (F' := F') (k := 71) (hF 71 (by decide))
  have a46 := hd_ba (F := F) (F' := F') (k := 46) (hF 46 (by decide))
  have t72 : sy_dv F' (.inr (.inl 72)) = .int ((sy_ai F 46).getD (sy_i F 70).toNatClampNeg 0) := hd_rd (hs 0 _ rfl) b70 a46
  have a47 := hd_ba (F := F) (F' := F') (k := 47) (hF 47 (by decide))
  have t73 : sy_dv F' (.inr (.inl 73)) = .int ((sy_ai F 47).getD (sy_i F 70).toNatClampNeg 0) := hd_rd (hs 1 _ rfl) b70 a47
  have hB' : iv_in F' iv_B4 := iv_in_eq hB (fun j hj => hF j (Nat.lt_of_lt_of_le hj (by decide +kernel)))
  refine ⟨List.forall_mem_cons.mpr ⟨hd_pb b70 (by first | exact h0 | exact h0), List.forall_mem_cons.mpr ⟨hd_pb b70 (by first | exact h1 | exact h1), fun _ h => absurd h List.not_mem_nil⟩⟩, ?_⟩
  refine k _ ?_ ?_ ?_ ?_ ?_ ?_
  · exact fun j hj _ => (hd_keep hB' (Nat.lt_of_lt_of_le hj (by decide +kernel)) (by simp)).trans (hF j (Nat.lt_of_lt_of_le hj (by decide)))
  · exact hd_gi (x := .inr (.inl 69)) (by decide +kernel) b69
  · exact hd_gi (x := .inr (.inl 70)) (by decide +kernel) b70
  · exact hd_gi (x := .inr (.inl 71)) (by decide +kernel) b71
  · exact hd_gi (x := .inr (.inl 72)) (by decide +kernel) t72
  · exact hd_gi (x := .inr (.inl 73)) (by decide +kernel) t73
theorem ylt_47 {Ls : Nat} {xs : Nat → Int32} {d : Nat} {Q : Option Value → jm_h → Prop} (hd : 1 ≤ d) (F : Nat → sy_d) (X1 X2 : List jm_c) (hB : iv_in F iv_B4)
    (a70 : 0 ≤ (sy_i F 70).toInt ∧ (sy_i F 70).toInt ≤ 259)
    (k0 : ∀ F1 : Nat → sy_d, iv_in F1 iv_B4 → (∀ j, j < 69 → j ∉ ([] : List Nat) → F1 j = F j) → (sy_i F1 69).toInt = (sy_i F 69).toInt → sy_i F1 69 = sy_i F 69 → (sy_i F1 70).toInt = (sy_i F 70).toInt → sy_i F1 70 = sy_i F 70 → (sy_i F1 71).toInt = (sy_i F 71).toInt → sy_i F1 71 = sy_i F 71 → (sy_i F1 72).toInt = ((sy_ai F 46).getD ((sy_i F 70).toInt).toNat 0).toInt → sy_i F1 72 = (sy_ai F 46).getD ((sy_i F 70).toInt).toNat 0 → (sy_i F1 73).toInt = ((sy_ai F 47).getD ((sy_i F 70).toInt).toNat 0).toInt → sy_i F1 73 = (sy_ai F 47).getD ((sy_i F 70).toInt).toNat 0 → hd_W Ls xs d jm_M180 Q (61, sy_dL F1 [some (.inl (.ref 1000)), some (.inr (.inl 69)), some (.inr (.inl 70)), some (.inr (.inl 71)), none], sy_dS F1 [.inr (.inl 73), .inr (.inl 72), .inl (.ref 1000)], sy_dh F1 X1 X2 (iv_H 4), 0, 0)) :
    hd_W Ls xs d jm_M180 Q (47, sy_dL F [some (.inl (.ref 1000)), some (.inr (.inl 69)), some (.inr (.inl 70)), none, none], sy_dS F [.inr (.inl 71)], sy_dh F X1 X2 (iv_H 4), 0, 0) := by
  have q72 : (sy_ai F 46).getD (sy_i F 70).toNatClampNeg 0 = (sy_ai F 46).getD ((sy_i F 70).toInt).toNat 0 := by simp only [nz_c]
  have n72 : nzI ((sy_ai F 46).getD (sy_i F 70).toNatClampNeg 0) (((sy_ai F 46).getD ((sy_i F 70).toInt).toNat 0).toInt) := congrArg Int32.toInt q72
  have r72 := nz_ba hB (k := 46) (lo := 0) (hi := 840) rfl ((sy_i F 70).toInt).toNat
  have q73 : (sy_ai F 47).getD (sy_i F 70).toNatClampNeg 0 = (sy_ai F 47).getD ((sy_i F 70).toInt).toNat 0 := by simp only [nz_c]
  have n73 : nzI ((sy_ai F 47).getD (sy_i F 70).toNatClampNeg 0) (((sy_ai F 47).getD ((sy_i F 70).toInt).toNat 0).toInt) := congrArg Int32.toInt q73
  have r73 := nz_ba hB (k := 47) (lo := 0) (hi := 840) rfl ((sy_i F 70).toInt).toNat
  exact ylt_47_p0 hd F X1 X2 hB (by first | exact ⟨by omega, by omega⟩ | (simp only [nz_c]; exact ⟨by omega, by omega⟩)) (by first | exact ⟨by omega, by omega⟩ | (simp only [nz_c]; exact ⟨by omega, by omega⟩)) (fun F1 g e69 e70 e71 e72 e73 => k0 F1 (nz_in hB [] (fun j hj hn => g j hj (by simp only [List.mem_cons, List.not_mem_nil, or_false, not_or] at hn; exact trivial)) (List.forall_mem_nil _)) (fun j hj hn => g j hj (by simp only [List.mem_cons, List.not_mem_nil, or_false, not_or] at hn; exact trivial)) ((congrArg Int32.toInt (zz_i e69)).trans (rfl : (sy_i F 69).toInt = (sy_i F 69).toInt)) ((zz_i e69).trans (rfl : sy_i F 69 = sy_i F 69)) ((congrArg Int32.toInt (zz_i e70)).trans (rfl : (sy_i F 70).toInt = (sy_i F 70).toInt)) ((zz_i e70).trans (rfl : sy_i F 70 = sy_i F 70)) ((congrArg Int32.toInt (zz_i e71)).trans (rfl : (sy_i F 71).toInt = (sy_i F 71).toInt)) ((zz_i e71).trans (rfl : sy_i F 71 = sy_i F 71)) ((congrArg Int32.toInt (zz_i e72)).trans (nzE n72)) ((zz_i e72).trans q72) ((congrArg Int32.toInt (zz_i e73)).trans (nzE n73)) ((zz_i e73).trans q73))
theorem ylt_64_p0 {Ls : Nat} {xs : Nat → Int32} {d : Nat} {Q : Option Value → jm_h → Prop} (hd : 1 ≤ d) (F : Nat → sy_d) (X1 X2 : List jm_c) (hB : iv_in F iv_B4)
    (h0 : (sy_i F 17).toInt = 0)
    (h1 : (sy_i F 71).toInt < (sy_i F 72).toInt)
    (h2 : 0 ≤ (sy_i F 70).toInt ∧ (sy_i F 70).toInt < 260)
    (h3 : 0 ≤ (sy_i F 70).toInt ∧ (sy_i F 70).toInt < 260)
    (k : ∀ F1 : Nat → sy_d, (∀ j, j < 69 → True → F1 j = F j) → F1 69 = .inl (.int (sy_i F 69)) → F1 70 = .inl (.int (sy_i F 70)) → F1 71 = .inl (.int ((sy_ai F 47).getD (sy_i F 70).toNatClampNeg 0)) → F1 72 = .inl (.int ((sy_ai F 48).getD (sy_i F 70).toNatClampNeg 0)) → hd_W Ls xs d jm_M180 Q (97, sy_dL F1 [some (.inl (.ref 1000)), some (.inr (.inl 69)), some (.inr (.inl 70)), none, none], sy_dS F1 [.inr (.inl 72), .inr (.inl 71), .inl (.ref 1000)], sy_dh F1 X1 X2 (iv_H 4), 0, 0)) :
    hd_W Ls xs d jm_M180 Q (64, sy_dL F [some (.inl (.ref 1000)), some (.inr (.inl 69)), some (.inr (.inl 70)), some (.inr (.inl 71)), none], sy_dS F [.inr (.inl 72)], sy_dh F X1 X2 (iv_H 4), 0, 0) := by
  refine hd_run (s := 4) (nv := 73) (pc := 97) (L := [some (.inl (.ref 1000)), some (.inr (.inl 69)), some (.inr (.inl 70)), none, none]) (S := [.inr (.inl 72), .inr (.inl 71), .inl (.ref 1000)]) (uh := hd_ov (iv_id 0 iv_B4) []) (ul := [.inl (.inr (.inl 69)), .inl (.inr (.inl 70)), .inl (.inr (.inl 73)), .inl (.inr (.inl 74))]) (f := false) (sp := [12, 97]) (d0 := 0) (O := [true, true]) (T := [(30, [.inr (.inl 70)], [.inr (.inl 47)]), (30, [.inr (.inl 70)], [.inr (.inl 48)])]) (P := [(0, .inr (.inl 17), .inl (.int 0)), (2, .inr (.inl 71), .inr (.inl 72)), (6, .inr (.inl 70), .inl (.ref 260)), (6, .inr (.inl 70), .inl (.ref 260))]) jm_ok180 (by decide +kernel) (by decide +kernel) hd F X1 X2 (fun F' hF hs => ?_)
  have b17 := hd_b (F := F) (F' := F') (k := 17) (hF 17 (by decide))
  have b71 := hd_b (F := F) (F' := F') (k := 71) (hF 71 (by decide))
  have b72 := hd_b (F := F) (F' := F') (k := 72) (hF 72 (by decide))
  have b70 := hd_b (F := F) (F' := F') (k := 70) (hF 70 (by decide))
  have b69 := hd_b (F := F) (F' := F') (k := 69) (hF 69 (by decide))
  have a47 := hd_ba (F := F) (F' := F') (k := 47) (hF 47 (by decide))
  have t73 : sy_dv F' (.inr (.inl 73)) = .int ((sy_ai F 47).getD (sy_i F 70).toNatClampNeg 0) := hd_rd (hs 0 _ rfl) b70 a47
  have a48 := hd_ba (F := F) (F' := F') (k := 48) (hF 48 (by decide))
  have t74 : sy_dv F' (.inr (.inl 74)) = .int ((sy_ai F 48).getD (sy_i F 70).toNatClampNeg 0) := hd_rd (hs 1 _ rfl) b70 a48
  have hB' : iv_in F' iv_B4 := iv_in_eq hB (fun j hj => hF j (Nat.lt_of_lt_of_le hj (by decide +kernel)))
  refine ⟨List.forall_mem_cons.mpr ⟨hd_p0 b17 rfl (by have hc : ((0) : Int32).toInt = 0 := (by decide); omega), List.forall_mem_cons.mpr ⟨hd_p2 b71 b72 h1, List.forall_mem_cons.mpr ⟨hd_pb b70 (by first | exact h2 | exact h2), List.forall_mem_cons.mpr ⟨hd_pb b70 (by first | exact h3 | exact h3), fun _ h => absurd h List.not_mem_nil⟩⟩⟩⟩, ?_⟩
  refine k _ ?_ ?_ ?_ ?_ ?_
  · exact fun j hj _ => (hd_keep hB' (Nat.lt_of_lt_of_le hj (by decide +kernel)) (by simp)).trans (hF j (Nat.lt_of_lt_of_le hj (by decide)))
  · exact hd_gi (x := .inr (.inl 69)) (by decide +kernel) b69
  · exact hd_gi (x := .inr (.inl 70)) (by decide +kernel) b70
  · exact hd_gi (x := .inr (.inl 73)) (by decide +kernel) t73
  · exact hd_gi (x := .inr (.inl 74)) (by decide +kernel) t74
theorem ylt_64_p1 {Ls : Nat} {xs : Nat → Int32} {d : Nat} {Q : Option Value → jm_h → Prop} (hd : 1 ≤ d) (F : Nat → sy_d) (X1 X2 : List jm_c) (hB : iv_in F iv_B4)
    (h0 : (sy_i F 17).toInt = 0)
    (h1 : (sy_i F 72).toInt ≤ (sy_i F 71).toInt)
    (k : ∀ F1 : Nat → sy_d, (∀ j, j < 69 → True → F1 j = F j) → F1 69 = .inl (.int (sy_i F 69)) → F1 70 = .inl (.int ((sy_i F 70) + ((1 : Int32)))) → hd_W Ls xs d jm_M180 Q (12, sy_dL F1 [some (.inl (.ref 1000)), some (.inr (.inl 69)), some (.inr (.inl 70)), none, none], sy_dS F1 [], sy_dh F1 X1 X2 (iv_H 4), 0, 0)) :
    hd_W Ls xs d jm_M180 Q (64, sy_dL F [some (.inl (.ref 1000)), some (.inr (.inl 69)), some (.inr (.inl 70)), some (.inr (.inl 71)), none], sy_dS F [.inr (.inl 72)], sy_dh F X1 X2 (iv_H 4), 0, 0) := by
  refine hd_run (s := 4) (nv := 73) (pc := 12) (L := [some (.inl (.ref 1000)), some (.inr (.inl 69)), some (.inr (.inl 70)), none, none]) (S := []) (uh := hd_ov (iv_id 0 iv_B4) []) (ul := [.inl (.inr (.inl 69)), .inl (.inr (.inl 73))]) (f := false) (sp := [12, 97]) (d0 := 0) (O := [true, false]) (T := [(0, [.inr (.inl 70), .inl (.int 1)], [])]) (P := [(0, .inr (.inl 17), .inl (.int 0)), (3, .inr (.inl 71), .inr (.inl 72))]) jm_ok180 (by decide +kernel) (by decide +kernel) hd F X1 X2 (fun F' hF hs => ?_)
  have b17 := hd_b (F := F) (F' := F') (k := 17) (hF 17 (by decide))
  have b71 := hd_b (F := F) (F' := F') (k := 71) (hF 71 (by decide))
  have b72 := hd_b (F := F) (F' := F') (k := 72) (hF 72 (by decide))
  have b69 := hd_b (F := F) (F' := F') (k := 69) (hF 69 (by decide))
  have b70 := hd_b (F := F) (F' := F') (k := 70) (hF 70 (by decide))
  have t73 : sy_dv F' (.inr (.inl 73)) = .int ((sy_i F 70) + ((1 : Int32))) := hd_o (hs 0 _ rfl) b70 rfl rfl
  have hB' : iv_in F' iv_B4 := iv_in_eq hB (fun j hj => hF j (Nat.lt_of_lt_of_le hj (by decide +kernel)))
  refine ⟨List.forall_mem_cons.mpr ⟨hd_p0 b17 rfl (by have hc : ((0) : Int32).toInt = 0 := (by decide); omega), List.forall_mem_cons.mpr ⟨hd_p3 b71 b72 h1, fun _ h => absurd h List.not_mem_nil⟩⟩, ?_⟩
  refine k _ ?_ ?_ ?_
  · exact fun j hj _ => (hd_keep hB' (Nat.lt_of_lt_of_le hj (by decide +kernel)) (by simp)).trans (hF j (Nat.lt_of_lt_of_le hj (by decide)))
  · exact hd_gi (x := .inr (.inl 69)) (by decide +kernel) b69
  · exact hd_gi (x := .inr (.inl 73)) (by decide +kernel) t73
theorem ylt_64_p2 {Ls : Nat} {xs : Nat → Int32} {d : Nat} {Q : Option Value → jm_h → Prop} (hd : 1 ≤ d) (F : Nat → sy_d) (X1 X2 : List jm_c) (hB : iv_in F iv_B4)
    (h0 : (sy_i F 17).toInt ≠ 0)
    (k : ∀ F1 : Nat → sy_d, (∀ j, j < 69 → True → F1 j = F j) → Q (some (.int ((0 : Int32)))) (sy_dh F1 X1 X2 (iv_H 4))) :
    hd_W Ls xs d jm_M180 Q (64, sy_dL F [some (.inl (.ref 1000)), some (.inr (.inl 69)), some (.inr (.inl 70)), some (.inr (.inl 71)), none], sy_dS F [.inr (.inl 72)], sy_dh F X1 X2 (iv_H 4), 0, 0) := by
  refine hd_ret (s := 4) (nv := 73) (v := some (.inl (.int 0))) (uh := hd_ov (iv_id 0 iv_B4) []) (f := false) (sp := [12, 97]) (d0 := 0) (O := [false]) (T := []) (P := [(1, .inr (.inl 17), .inl (.int 0))]) jm_ok180 (by decide +kernel) (by decide +kernel) hd F X1 X2 (fun F' hF hs => ?_)
  have b17 := hd_b (F := F) (F' := F') (k := 17) (hF 17 (by decide))
  have hB' : iv_in F' iv_B4 := iv_in_eq hB (fun j hj => hF j (Nat.lt_of_lt_of_le hj (by decide +kernel)))
  refine ⟨List.forall_mem_cons.mpr ⟨hd_p1 b17 rfl (by have hc : ((0) : Int32).toInt = 0 := (by decide); omega), fun _ h => absurd h List.not_mem_nil⟩, ?_⟩
  refine k _ ?_
  · exact fun j hj _ => (hd_keep hB' (Nat.lt_of_lt_of_le hj (by decide +kernel)) (by simp)).trans (hF j (Nat.lt_of_lt_of_le hj (by decide)))
theorem ylt_64 {Ls : Nat} {xs : Nat → Int32} {d : Nat} {Q : Option Value → jm_h → Prop} (hd : 1 ≤ d) (F : Nat → sy_d) (X1 X2 : List jm_c) (hB : iv_in F iv_B4)
    (a70 : 0 ≤ (sy_i F 70).toInt ∧ (sy_i F 70).toInt ≤ 259)
    (k0 : (sy_i F 17).toInt = 0 → (sy_i F 71).toInt < (sy_i F 72).toInt → ∀ F1 : Nat → sy_d, iv_in F1 iv_B4 → (∀ j, j < 69 → j ∉ ([] : List Nat) → F1 j = F j) → (sy_i F1 69).toInt = (sy_i F 69).toInt → sy_i F1 69 = sy_i F 69 → (sy_i F1 70).toInt = (sy_i F 70).toInt → sy_i F1 70 = sy_i F 70 → (sy_i F1 71).toInt = ((sy_ai F 47).getD ((sy_i F 70).toInt).toNat 0).toInt → sy_i F1 71 = (sy_ai F 47).getD ((sy_i F 70).toInt).toNat 0 → (sy_i F1 72).toInt = ((sy_ai F 48).getD ((sy_i F 70).toInt).toNat 0).toInt → sy_i F1 72 = (sy_ai F 48).getD ((sy_i F 70).toInt).toNat 0 → hd_W Ls xs d jm_M180 Q (97, sy_dL F1 [some (.inl (.ref 1000)), some (.inr (.inl 69)), some (.inr (.inl 70)), none, none], sy_dS F1 [.inr (.inl 72), .inr (.inl 71), .inl (.ref 1000)], sy_dh F1 X1 X2 (iv_H 4), 0, 0))
    (k1 : (sy_i F 17).toInt = 0 → (sy_i F 72).toInt ≤ (sy_i F 71).toInt → ∀ F1 : Nat → sy_d, iv_in F1 iv_B4 → (∀ j, j < 69 → j ∉ ([] : List Nat) → F1 j = F j) → (sy_i F1 69).toInt = (sy_i F 69).toInt → sy_i F1 69 = sy_i F 69 → (sy_i F1 70).toInt = ((sy_i F 70).toInt + 1) → sy_i F1 70 = (sy_i F 70) + ((1 : Int32)) → hd_W Ls xs d jm_M180 Q (12, sy_dL F1 [some (.inl (.ref 1000)), some (.inr (.inl 69)), some (.inr (.inl 70)), none, none], sy_dS F1 [], sy_dh F1 X1 X2 (iv_H 4), 0, 0))
    (k2 : (sy_i F 17).toInt ≠ 0 → ∀ F1 : Nat → sy_d, iv_in F1 iv_B4 → (∀ j, j < 69 → j ∉ ([] : List Nat) → F1 j = F j) → Q (some (.int ((0 : Int32)))) (sy_dh F1 X1 X2 (iv_H 4))) :
    hd_W Ls xs d jm_M180 Q (64, sy_dL F [some (.inl (.ref 1000)), some (.inr (.inl 69)), some (.inr (.inl 70)), some (.inr (.inl 71)), none], sy_dS F [.inr (.inl 72)], sy_dh F X1 X2 (iv_H 4), 0, 0) := by
  by_cases g0 : (sy_i F 17).toInt = 0
  · by_cases g1 : (sy_i F 71).toInt < (sy_i F 72).toInt
    · have c17 := nz_bx hB (k := 17) (lo := 0) (hi := 1) rfl
      have q73 : (sy_ai F 47).getD (sy_i F 70).toNatClampNeg 0 = (sy_ai F 47).getD ((sy_i F 70).toInt).toNat 0 := by simp only [nz_c]
      have n73 : nzI ((sy_ai F 47).getD (sy_i F 70).toNatClampNeg 0) (((sy_ai F 47).getD ((sy_i F 70).toInt).toNat 0).toInt) := congrArg Int32.toInt q73
      have r73 := nz_ba hB (k := 47) (lo := 0) (hi := 840) rfl ((sy_i F 70).toInt).toNat
      have q74 : (sy_ai F 48).getD (sy_i F 70).toNatClampNeg 0 = (sy_ai F 48).getD ((sy_i F 70).toInt).toNat 0 := by simp only [nz_c]
      have n74 : nzI ((sy_ai F 48).getD (sy_i F 70).toNatClampNeg 0) (((sy_ai F 48).getD ((sy_i F 70).toInt).toNat 0).toInt) := congrArg Int32.toInt q74
      have r74 := nz_ba hB (k := 48) (lo := 0) (hi := 840) rfl ((sy_i F 70).toInt).toNat
      exact ylt_64_p0 hd F X1 X2 hB (by first | exact g0 | (simp only [nz_c]; exact g0)) (by first | exact g1 | (simp only [nz_c]; exact g1)) (by first | exact ⟨by omega, by omega⟩ | (simp only [nz_c]; exact ⟨by omega, by omega⟩)) (by first | exact ⟨by omega, by omega⟩ | (simp only [nz_c]; exact ⟨by omega, by omega⟩)) (fun F1 g e69 e70 e71 e72 => k0 g0 g1 F1 (nz_in hB [] (fun j hj hn => g j hj (by simp only [List.mem_cons, List.not_mem_nil, or_false, not_or] at hn; exact trivial)) (List.forall_mem_nil _)) (fun j hj hn => g j hj (by simp only [List.mem_cons, List.not_mem_nil, or_false, not_or] at hn; exact trivial)) ((congrArg Int32.toInt (zz_i e69)).trans (rfl : (sy_i F 69).toInt = (sy_i F 69).toInt)) ((zz_i e69).trans (rfl : sy_i F 69 = sy_i F 69)) ((congrArg Int32.toInt (zz_i e70)).trans (rfl : (sy_i F 70).toInt = (sy_i F 70).toInt)) ((zz_i e70).trans (rfl : sy_i F 70 = sy_i F 70)) ((congrArg Int32.toInt (zz_i e71)).trans (nzE n73)) ((zz_i e71).trans q73) ((congrArg Int32.toInt (zz_i e72)).trans (nzE n74)) ((zz_i e72).trans q74))
    replace g1 : (sy_i F 72).toInt ≤ (sy_i F 71).toInt := by omega
    have c17 := nz_bx hB (k := 17) (lo := 0) (hi := 1) rfl
    have n73 : nzI ((sy_i F 70) + ((1 : Int32))) (((sy_i F 70).toInt + 1)) := nz_add (rfl : (sy_i F 70).toInt = (sy_i F 70).toInt) (by decide : ((1 : Int32)).toInt = 1) (by omega) (by omega)
    exact ylt_64_p1 hd F X1 X2 hB (by first | exact g0 | (simp only [nz_c]; exact g0)) (by first | exact g1 | (simp only [nz_c]; exact g1)) (fun F1 g e69 e70 => k1 g0 g1 F1 (nz_in hB [] (fun j hj hn => g j hj (by simp only [List.mem_cons, List.not_mem_nil, or_false, not_or] at hn; exact trivial)) (List.forall_mem_nil _)) (fun j hj hn => g j hj (by simp only [List.mem_cons, List.not_mem_nil, or_false, not_or] at hn; exact trivial)) ((congrArg Int32.toInt (zz_i e69)).trans (rfl : (sy_i F 69).toInt = (sy_i F 69).toInt)) ((zz_i e69).trans (rfl : sy_i F 69 = sy_i F 69)) ((congrArg Int32.toInt (zz_i e70)).trans (nzE n73)) ((zz_i e70).trans (rfl : (sy_i F 70) + ((1 : Int32)) = (sy_i F 70) + ((1 : Int32)))))
  replace g0 : (sy_i F 17).toInt ≠ 0 := by omega
  have c17 := nz_bx hB (k := 17) (lo := 0) (hi := 1) rfl
  exact ylt_64_p2 hd F X1 X2 hB (by first | exact g0 | (simp only [nz_c]; exact g0)) (fun F1 g  => k2 g0 F1 (nz_in hB [] (fun j hj hn => g j hj (by simp only [List.mem_cons, List.not_mem_nil, or_false, not_or] at hn; exact trivial)) (List.forall_mem_nil _)) (fun j hj hn => g j hj (by simp only [List.mem_cons, List.not_mem_nil, or_false, not_or] at hn; exact trivial)) )
theorem ylt_100_p0 {Ls : Nat} {xs : Nat → Int32} {d : Nat} {Q : Option Value → jm_h → Prop} (hd : 1 ≤ d) (F : Nat → sy_d) (X1 X2 : List jm_c) (hB : iv_in F iv_B4)
    (h0 : (sy_i F 17).toInt = 0)
    (k : ∀ F1 : Nat → sy_d, (∀ j, j < 69 → True → F1 j = F j) → Q (some (.int (sy_i F 71))) (sy_dh F1 X1 X2 (iv_H 4))) :
    hd_W Ls xs d jm_M180 Q (100, sy_dL F [some (.inl (.ref 1000)), some (.inr (.inl 69)), some (.inr (.inl 70)), none, none], sy_dS F [.inr (.inl 71)], sy_dh F X1 X2 (iv_H 4), 0, 0) := by
  refine hd_ret (s := 4) (nv := 72) (v := some (.inr (.inl 71))) (uh := hd_ov (iv_id 0 iv_B4) []) (f := false) (sp := []) (d0 := 0) (O := [true]) (T := []) (P := [(0, .inr (.inl 17), .inl (.int 0))]) jm_ok180 (by decide +kernel) (by decide +kernel) hd F X1 X2 (fun F' hF hs => ?_)
  have b17 := hd_b (F := F) (F' := F') (k := 17) (hF 17 (by decide))
  have b71 := hd_b (F := F) (F' := F') (k := 71) (hF 71 (by decide))
  have hB' : iv_in F' iv_B4 := iv_in_eq hB (fun j hj => hF j (Nat.lt_of_lt_of_le hj (by decide +kernel)))
  have hk := k (sy_cm F' (hd_ov (iv_id 0 iv_B4) [] ++ [])) (fun j hj _ => (hd_keep hB' (Nat.lt_of_lt_of_le hj (by decide +kernel)) (by simp)).trans (hF j (Nat.lt_of_lt_of_le hj (by decide))))
  refine ⟨List.forall_mem_cons.mpr ⟨hd_p0 b17 rfl (by have hc : ((0) : Int32).toInt = 0 := (by decide); omega), fun _ h => absurd h List.not_mem_nil⟩, ?_⟩
  show Q (some (sy_dv F' (.inr (.inl 71)))) _
  rw [b71]
  exact hk
theorem ylt_100_p1 {Ls : Nat} {xs : Nat → Int32} {d : Nat} {Q : Option Value → jm_h → Prop} (hd : 1 ≤ d) (F : Nat → sy_d) (X1 X2 : List jm_c) (hB : iv_in F iv_B4)
    (h0 : (sy_i F 17).toInt ≠ 0)
    (k : ∀ F1 : Nat → sy_d, (∀ j, j < 69 → True → F1 j = F j) → Q (some (.int ((0 : Int32)))) (sy_dh F1 X1 X2 (iv_H 4))) :
    hd_W Ls xs d jm_M180 Q (100, sy_dL F [some (.inl (.ref 1000)), some (.inr (.inl 69)), some (.inr (.inl 70)), none, none], sy_dS F [.inr (.inl 71)], sy_dh F X1 X2 (iv_H 4), 0, 0) := by
  refine hd_ret (s := 4) (nv := 72) (v := some (.inl (.int 0))) (uh := hd_ov (iv_id 0 iv_B4) []) (f := false) (sp := []) (d0 := 0) (O := [false]) (T := []) (P := [(1, .inr (.inl 17), .inl (.int 0))]) jm_ok180 (by decide +kernel) (by decide +kernel) hd F X1 X2 (fun F' hF hs => ?_)
  have b17 := hd_b (F := F) (F' := F') (k := 17) (hF 17 (by decide))
  have hB' : iv_in F' iv_B4 := iv_in_eq hB (fun j hj => hF j (Nat.lt_of_lt_of_le hj (by decide +kernel)))
  refine ⟨List.forall_mem_cons.mpr ⟨hd_p1 b17 rfl (by have hc : ((0) : Int32).toInt = 0 := (by decide); omega), fun _ h => absurd h List.not_mem_nil⟩, ?_⟩
  refine k _ ?_
  · exact fun j hj _ => (hd_keep hB' (Nat.lt_of_lt_of_le hj (by decide +kernel)) (by simp)).trans (hF j (Nat.lt_of_lt_of_le hj (by decide)))
theorem ylt_100 {Ls : Nat} {xs : Nat → Int32} {d : Nat} {Q : Option Value → jm_h → Prop} (hd : 1 ≤ d) (F : Nat → sy_d) (X1 X2 : List jm_c) (hB : iv_in F iv_B4)
    (k0 : (sy_i F 17).toInt = 0 → ∀ F1 : Nat → sy_d, iv_in F1 iv_B4 → (∀ j, j < 69 → j ∉ ([] : List Nat) → F1 j = F j) → Q (some (.int (sy_i F 71))) (sy_dh F1 X1 X2 (iv_H 4)))
    (k1 : (sy_i F 17).toInt ≠ 0 → ∀ F1 : Nat → sy_d, iv_in F1 iv_B4 → (∀ j, j < 69 → j ∉ ([] : List Nat) → F1 j = F j) → Q (some (.int ((0 : Int32)))) (sy_dh F1 X1 X2 (iv_H 4))) :
    hd_W Ls xs d jm_M180 Q (100, sy_dL F [some (.inl (.ref 1000)), some (.inr (.inl 69)), some (.inr (.inl 70)), none, none], sy_dS F [.inr (.inl 71)], sy_dh F X1 X2 (iv_H 4), 0, 0) := by
  by_cases g0 : (sy_i F 17).toInt = 0
  · have c17 := nz_bx hB (k := 17) (lo := 0) (hi := 1) rfl
    exact ylt_100_p0 hd F X1 X2 hB (by first | exact g0 | (simp only [nz_c]; exact g0)) (fun F1 g  => by rw [(rfl : sy_i F 71 = sy_i F 71)]; exact k0 g0 F1 (nz_in hB [] (fun j hj hn => g j hj (by simp only [List.mem_cons, List.not_mem_nil, or_false, not_or] at hn; exact trivial)) (List.forall_mem_nil _)) (fun j hj hn => g j hj (by simp only [List.mem_cons, List.not_mem_nil, or_false, not_or] at hn; exact trivial)) )
  replace g0 : (sy_i F 17).toInt ≠ 0 := by omega
  have c17 := nz_bx hB (k := 17) (lo := 0) (hi := 1) rfl
  exact ylt_100_p1 hd F X1 X2 hB (by first | exact g0 | (simp only [nz_c]; exact g0)) (fun F1 g  => k1 g0 F1 (nz_in hB [] (fun j hj hn => g j hj (by simp only [List.mem_cons, List.not_mem_nil, or_false, not_or] at hn; exact trivial)) (List.forall_mem_nil _)) (fun j hj hn => g j hj (by simp only [List.mem_cons, List.not_mem_nil, or_false, not_or] at hn; exact trivial)) )
theorem yak_0_p0 {Ls : Nat} {xs : Nat → Int32} {d : Nat} {Q : Option Value → jm_h → Prop} (hd : 2 ≤ d) (F : Nat → sy_d) (X1 X2 : List jm_c) (hB : iv_in F iv_B4)
    (h0 : 0 ≤ ((((6 : Int32)) * (sy_i F 11)) + (sy_i F 69)).toInt ∧ ((((6 : Int32)) * (sy_i F 11)) + (sy_i F 69)).toInt < 12)
    (h1 : 0 ≤ ((((6 : Int32)) * (sy_i F 11)) + (sy_i F 69)).toInt ∧ ((((6 : Int32)) * (sy_i F 11)) + (sy_i F 69)).toInt < 12)
    (h2 : ((sy_ai F 43).getD ((((6 : Int32)) * (sy_i F 11)) + (sy_i F 69)).toNatClampNeg 0).toInt ≤ ((sy_ai F 42).getD ((((6 : Int32)) * (sy_i F 11)) + (sy_i F 69)).toNatClampNeg 0).toInt)
    (h3 : (sy_i F 71).toInt ≤ (sy_i F 70).toInt)
    (h4 : (sy_i F 70).toInt ≤ (sy_i F 72).toInt)
    (k : ∀ F1 : Nat → sy_d, (∀ j, j < 69 → True → F1 j = F j) → Q (some (.int (sy_i F 70))) (sy_dh F1 X1 X2 (iv_H 4))) :
    hd_W Ls xs d jm_M179 Q (0, sy_dL F [some (.inl (.ref 1000)), some (.inr (.inl 69)), some (.inr (.inl 70)), some (.inr (.inl 71)), some (.inr (.inl 72)), none, none], sy_dS F [], sy_dh F X1 X2 (iv_H 4), 0, 0) := by
  refine hd_ret (s := 4) (nv := 73) (v := some (.inr (.inl 70))) (uh := hd_ov (iv_id 0 iv_B4) []) (f := true) (sp := [34]) (d0 := 1) (O := [true, true, true]) (T := [(2, [.inl (.int 6), .inr (.inl 11)], []), (0, [.inr (.inl 73), .inr (.inl 69)], []), (30, [.inr (.inl 74)], [.inr (.inl 42)]), (30, [.inr (.inl 74)], [.inr (.inl 43)])]) (P := [(6, .inr (.inl 74), .inl (.ref 12)), (6, .inr (.inl 74), .inl (.ref 12)), (4, .inr (.inl 76), .inr (.inl 75)), (4, .inr (.inl 71), .inr (.inl 70)), (4, .inr (.inl 70), .inr (.inl 72))]) jm_ok179 (by decide +kernel) (by decide +kernel) hd F X1 X2 (fun F' hF hs => ?_)
  have b11 := hd_b (F := F) (F' := F') (k := 11) (hF 11 (by decide))
  have t73 : sy_dv F' (.inr (.inl 73)) = .int (((6 : Int32)) * (sy_i F 11)) := hd_o (hs 0 _ rfl) rfl b11 rfl
  have b69 := hd_b (F := F) (F' := F') (k := 69) (hF 69 (by decide))
  have t74 : sy_dv F' (.inr (.inl 74)) = .int ((((6 : Int32)) * (sy_i F 11)) + (sy_i F 69)) := hd_o (hs 1 _ rfl) t73 b69 rfl
  have a43 := hd_ba (F := F) (F' := F') (k := 43) (hF 43 (by decide))
  have t76 : sy_dv F' (.inr (.inl 76)) = .int ((sy_ai F 43).getD ((((6 : Int32)) * (sy_i F 11)) + (sy_i F 69)).toNatClampNeg 0) := hd_rd (hs 3 _ rfl) t74 a43
  have a42 := hd_ba (F := F) (F' := F') (k := 42) (hF 42 (by decide))
  have t75 : sy_dv F' (.inr (.inl 75)) = .int ((sy_ai F 42).getD ((((6 : Int32)) * (sy_i F 11)) + (sy_i F 69)).toNatClampNeg 0) := hd_rd (hs 2 _ rfl) t74 a42
  have b71 := hd_b (F := F) (F' := F') (k := 71) (hF 71 (by decide))
  have b70 := hd_b (F := F) (F' := F') (k := 70) (hF 70 (by decide))
  have b72 := hd_b (F := F) (F' := F') (k := 72) (hF 72 (by decide))
  have hB' : iv_in F' iv_B4 := iv_in_eq hB (fun j hj => hF j (Nat.lt_of_lt_of_le hj (by decide +kernel)))
  have hk := k (sy_cm F' (hd_ov (iv_id 0 iv_B4) [] ++ [])) (fun j hj _ => (hd_keep hB' (Nat.lt_of_lt_of_le hj (by decide +kernel)) (by simp)).trans (hF j (Nat.lt_of_lt_of_le hj (by decide))))
  refine ⟨List.forall_mem_cons.mpr ⟨hd_pb t74 (by first | exact h0 | exact h0), List.forall_mem_cons.mpr ⟨hd_pb t74 (by first | exact h1 | exact h1), List.forall_mem_cons.mpr ⟨hd_p4 t76 t75 h2, List.forall_mem_cons.mpr ⟨hd_p4 b71 b70 h3, List.forall_mem_cons.mpr ⟨hd_p4 b70 b72 h4, fun _ h => absurd h List.not_mem_nil⟩⟩⟩⟩⟩, ?_⟩
  show Q (some (sy_dv F' (.inr (.inl 70)))) _
  rw [b70]
  exact hk
theorem yak_0_p1 {Ls : Nat} {xs : Nat → Int32} {d : Nat} {Q : Option Value → jm_h → Prop} (hd : 2 ≤ d) (F : Nat → sy_d) (X1 X2 : List jm_c) (hB : iv_in F iv_B4)
    (h0 : 0 ≤ ((((6 : Int32)) * (sy_i F 11)) + (sy_i F 69)).toInt ∧ ((((6 : Int32)) * (sy_i F 11)) + (sy_i F 69)).toInt < 12)
    (h1 : 0 ≤ ((((6 : Int32)) * (sy_i F 11)) + (sy_i F 69)).toInt ∧ ((((6 : Int32)) * (sy_i F 11)) + (sy_i F 69)).toInt < 12)
    (h2 : ((sy_ai F 43).getD ((((6 : Int32)) * (sy_i F 11)) + (sy_i F 69)).toNatClampNeg 0).toInt ≤ ((sy_ai F 42).getD ((((6 : Int32)) * (sy_i F 11)) + (sy_i F 69)).toNatClampNeg 0).toInt)
    (h3 : (sy_i F 71).toInt ≤ (sy_i F 70).toInt)
    (h4 : (sy_i F 72).toInt < (sy_i F 70).toInt)
    (k : ∀ F1 : Nat → sy_d, (∀ j, j < 69 → True → F1 j = F j) → Q (some (.int (sy_i F 72))) (sy_dh F1 X1 X2 (iv_H 4))) :
    hd_W Ls xs d jm_M179 Q (0, sy_dL F [some (.inl (.ref 1000)), some (.inr (.inl 69)), some (.inr (.inl 70)), some (.inr (.inl 71)), some (.inr (.inl 72)), none, none], sy_dS F [], sy_dh F X1 X2 (iv_H 4), 0, 0) := by
  refine hd_ret (s := 4) (nv := 73) (v := some (.inr (.inl 72))) (uh := hd_ov (iv_id 0 iv_B4) []) (f := true) (sp := [34]) (d0 := 1) (O := [true, true, false]) (T := [(2, [.inl (.int 6), .inr (.inl 11)], []), (0, [.inr (.inl 73), .inr (.inl 69)], []), (30, [.inr (.inl 74)], [.inr (.inl 42)]), (30, [.inr (.inl 74)], [.inr (.inl 43)])]) (P := [(6, .inr (.inl 74), .inl (.ref 12)), (6, .inr (.inl 74), .inl (.ref 12)), (4, .inr (.inl 76), .inr (.inl 75)), (4, .inr (.inl 71), .inr (.inl 70)), (5, .inr (.inl 70), .inr (.inl 72))]) jm_ok179 (by decide +kernel) (by decide +kernel) hd F X1 X2 (fun F' hF hs => ?_)
  have b11 := hd_b (F := F) (F' := F') (k := 11) (hF 11 (by decide))
  have t73 : sy_dv F' (.inr (.inl 73)) = .int (((6 : Int32)) * (sy_i F 11)) := hd_o (hs 0 _ rfl) rfl b11 rfl
  have b69 := hd_b (F := F) (F' := F') (k := 69) (hF 69 (by decide))
  have t74 : sy_dv F' (.inr (.inl 74)) = .int ((((6 : Int32)) * (sy_i F 11)) + (sy_i F 69)) := hd_o (hs 1 _ rfl) t73 b69 rfl
  have a43 := hd_ba (F := F) (F' := F') (k := 43) (hF 43 (by decide))
  have t76 : sy_dv F' (.inr (.inl 76)) = .int ((sy_ai F 43).getD ((((6 : Int32)) * (sy_i F 11)) + (sy_i F 69)).toNatClampNeg 0) := hd_rd (hs 3 _ rfl) t74 a43
  have a42 := hd_ba (F := F) (F' := F') (k := 42) (hF 42 (by decide))
  have t75 : sy_dv F' (.inr (.inl 75)) = .int ((sy_ai F 42).getD ((((6 : Int32)) * (sy_i F 11)) + (sy_i F 69)).toNatClampNeg 0) := hd_rd (hs 2 _ rfl) t74 a42
  have b71 := hd_b (F := F) (F' := F') (k := 71) (hF 71 (by decide))
  have b70 := hd_b (F := F) (F' := F') (k := 70) (hF 70 (by decide))
  have b72 := hd_b (F := F) (F' := F') (k := 72) (hF 72 (by decide))
  have hB' : iv_in F' iv_B4 := iv_in_eq hB (fun j hj => hF j (Nat.lt_of_lt_of_le hj (by decide +kernel)))
  have hk := k (sy_cm F' (hd_ov (iv_id 0 iv_B4) [] ++ [])) (fun j hj _ => (hd_keep hB' (Nat.lt_of_lt_of_le hj (by decide +kernel)) (by simp)).trans (hF j (Nat.lt_of_lt_of_le hj (by decide))))
  refine ⟨List.forall_mem_cons.mpr ⟨hd_pb t74 (by first | exact h0 | exact h0), List.forall_mem_cons.mpr ⟨hd_pb t74 (by first | exact h1 | exact h1), List.forall_mem_cons.mpr ⟨hd_p4 t76 t75 h2, List.forall_mem_cons.mpr ⟨hd_p4 b71 b70 h3, List.forall_mem_cons.mpr ⟨hd_p5 b70 b72 h4, fun _ h => absurd h List.not_mem_nil⟩⟩⟩⟩⟩, ?_⟩
  show Q (some (sy_dv F' (.inr (.inl 72)))) _
  rw [b72]
  exact hk
theorem yak_0_p2 {Ls : Nat} {xs : Nat → Int32} {d : Nat} {Q : Option Value → jm_h → Prop} (hd : 2 ≤ d) (F : Nat → sy_d) (X1 X2 : List jm_c) (hB : iv_in F iv_B4)
    (h0 : 0 ≤ ((((6 : Int32)) * (sy_i F 11)) + (sy_i F 69)).toInt ∧ ((((6 : Int32)) * (sy_i F 11)) + (sy_i F 69)).toInt < 12)
    (h1 : 0 ≤ ((((6 : Int32)) * (sy_i F 11)) + (sy_i F 69)).toInt ∧ ((((6 : Int32)) * (sy_i F 11)) + (sy_i F 69)).toInt < 12)
    (h2 : ((sy_ai F 43).getD ((((6 : Int32)) * (sy_i F 11)) + (sy_i F 69)).toNatClampNeg 0).toInt ≤ ((sy_ai F 42).getD ((((6 : Int32)) * (sy_i F 11)) + (sy_i F 69)).toNatClampNeg 0).toInt)
    (h3 : (sy_i F 70).toInt < (sy_i F 71).toInt)
    (k : ∀ F1 : Nat → sy_d, (∀ j, j < 69 → True → F1 j = F j) → Q (some (.int (sy_i F 71))) (sy_dh F1 X1 X2 (iv_H 4))) :
    hd_W Ls xs d jm_M179 Q (0, sy_dL F [some (.inl (.ref 1000)), some (.inr (.inl 69)), some (.inr (.inl 70)), some (.inr (.inl 71)), some (.inr (.inl 72)), none, none], sy_dS F [], sy_dh F X1 X2 (iv_H 4), 0, 0) := by
  refine hd_ret (s := 4) (nv := 73) (v := some (.inr (.inl 71))) (uh := hd_ov (iv_id 0 iv_B4) []) (f := true) (sp := [34]) (d0 := 1) (O := [true, false]) (T := [(2, [.inl (.int 6), .inr (.inl 11)], []), (0, [.inr (.inl 73), .inr (.inl 69)], []), (30, [.inr (.inl 74)], [.inr (.inl 42)]), (30, [.inr (.inl 74)], [.inr (.inl 43)])]) (P := [(6, .inr (.inl 74), .inl (.ref 12)), (6, .inr (.inl 74), .inl (.ref 12)), (4, .inr (.inl 76), .inr (.inl 75)), (5, .inr (.inl 71), .inr (.inl 70))]) jm_ok179 (by decide +kernel) (by decide +kernel) hd F X1 X2 (fun F' hF hs => ?_)
  have b11 := hd_b (F := F) (F' := F') (k := 11) (hF 11 (by decide))
  have t73 : sy_dv F' (.inr (.inl 73)) = .int (((6 : Int32)) * (sy_i F 11)) := hd_o (hs 0 _ rfl) rfl b11 rfl
  have b69 := hd_b (F := F) (F' := F') (k := 69) (hF 69 (by decide))
  have t74 : sy_dv F' (.inr (.inl 74)) = .int ((((6 : Int32)) * (sy_i F 11)) + (sy_i F 69)) := hd_o (hs 1 _ rfl) t73 b69 rfl
  have a43 := hd_ba (F := F) (F' := F') (k := 43) (hF 43 (by decide))
  have t76 : sy_dv F' (.inr (.inl 76)) = .int ((sy_ai F 43).getD ((((6 : Int32)) * (sy_i F 11)) + (sy_i F 69)).toNatClampNeg 0) := hd_rd (hs 3 _ rfl) t74 a43
  have a42 := hd_ba (F := F) (F' := F') (k := 42) (hF 42 (by decide))
  have t75 : sy_dv F' (.inr (.inl 75)) = .int ((sy_ai F 42).getD ((((6 : Int32)) * (sy_i F 11)) + (sy_i F 69)).toNatClampNeg 0) := hd_rd (hs 2 _ rfl) t74 a42
  have b71 := hd_b (F := F) (F' := F') (k := 71) (hF 71 (by decide))
  have b70 := hd_b (F := F) (F' := F') (k := 70) (hF 70 (by decide))
  have hB' : iv_in F' iv_B4 := iv_in_eq hB (fun j hj => hF j (Nat.lt_of_lt_of_le hj (by decide +kernel)))
  have hk := k (sy_cm F' (hd_ov (iv_id 0 iv_B4) [] ++ [])) (fun j hj _ => (hd_keep hB' (Nat.lt_of_lt_of_le hj (by decide +kernel)) (by simp)).trans (hF j (Nat.lt_of_lt_of_le hj (by decide))))
  refine ⟨List.forall_mem_cons.mpr ⟨hd_pb t74 (by first | exact h0 | exact h0), List.forall_mem_cons.mpr ⟨hd_pb t74 (by first | exact h1 | exact h1), List.forall_mem_cons.mpr ⟨hd_p4 t76 t75 h2, List.forall_mem_cons.mpr ⟨hd_p5 b71 b70 h3, fun _ h => absurd h List.not_mem_nil⟩⟩⟩⟩, ?_⟩
  show Q (some (sy_dv F' (.inr (.inl 71)))) _
  rw [b71]
  exact hk
theorem yak_0_p3 {Ls : Nat} {xs : Nat → Int32} {d : Nat} {Q : Option Value → jm_h → Prop} (hd : 2 ≤ d) (F : Nat → sy_d) (X1 X2 : List jm_c) (hB : iv_in F iv_B4)
    (h0 : 0 ≤ ((((6 : Int32)) * (sy_i F 11)) + (sy_i F 69)).toInt ∧ ((((6 : Int32)) * (sy_i F 11)) + (sy_i F 69)).toInt < 12)
    (h1 : 0 ≤ ((((6 : Int32)) * (sy_i F 11)) + (sy_i F 69)).toInt ∧ ((((6 : Int32)) * (sy_i F 11)) + (sy_i F 69)).toInt < 12)
    (h2 : ((sy_ai F 42).getD ((((6 : Int32)) * (sy_i F 11)) + (sy_i F 69)).toNatClampNeg 0).toInt < ((sy_ai F 43).getD ((((6 : Int32)) * (sy_i F 11)) + (sy_i F 69)).toNatClampNeg 0).toInt)
    (k : ∀ F1 : Nat → sy_d, (∀ j, j < 69 → True → F1 j = F j) → F1 69 = .inl (.int (sy_i F 71)) → F1 70 = .inl (.int (sy_i F 72)) → F1 71 = .inl (.int ((((6 : Int32)) * (sy_i F 11)) + (sy_i F 69))) → hd_W Ls xs d jm_M179 Q (34, sy_dL F1 [some (.inl (.ref 1000)), none, none, some (.inr (.inl 69)), some (.inr (.inl 70)), none, none], sy_dS F1 [.inr (.inl 71), .inl (.ref 1000)], sy_dh F1 X1 X2 (iv_H 4), 0, 0)) :
    hd_W Ls xs d jm_M179 Q (0, sy_dL F [some (.inl (.ref 1000)), some (.inr (.inl 69)), some (.inr (.inl 70)), some (.inr (.inl 71)), some (.inr (.inl 72)), none, none], sy_dS F [], sy_dh F X1 X2 (iv_H 4), 0, 0) := by
  refine hd_run (s := 4) (nv := 73) (pc := 34) (L := [some (.inl (.ref 1000)), none, none, some (.inr (.inl 69)), some (.inr (.inl 70)), none, none]) (S := [.inr (.inl 71), .inl (.ref 1000)]) (uh := hd_ov (iv_id 0 iv_B4) []) (ul := [.inl (.inr (.inl 71)), .inl (.inr (.inl 72)), .inl (.inr (.inl 74))]) (f := true) (sp := [34]) (d0 := 1) (O := [false]) (T := [(2, [.inl (.int 6), .inr (.inl 11)], []), (0, [.inr (.inl 73), .inr (.inl 69)], []), (30, [.inr (.inl 74)], [.inr (.inl 42)]), (30, [.inr (.inl 74)], [.inr (.inl 43)])]) (P := [(6, .inr (.inl 74), .inl (.ref 12)), (6, .inr (.inl 74), .inl (.ref 12)), (5, .inr (.inl 76), .inr (.inl 75))]) jm_ok179 (by decide +kernel) (by decide +kernel) hd F X1 X2 (fun F' hF hs => ?_)
  have b11 := hd_b (F := F) (F' := F') (k := 11) (hF 11 (by decide))
  have t73 : sy_dv F' (.inr (.inl 73)) = .int (((6 : Int32)) * (sy_i F 11)) := hd_o (hs 0 _ rfl) rfl b11 rfl
  have b69 := hd_b (F := F) (F' := F') (k := 69) (hF 69 (by decide))
  have t74 : sy_dv F' (.inr (.inl 74)) = .int ((((6 : Int32)) * (sy_i F 11)) + (sy_i F 69)) := hd_o (hs 1 _ rfl) t73 b69 rfl
  have a43 := hd_ba (F := F) (F' := F') (k := 43) (hF 43 (by decide))
  have t76 : sy_dv F' (.inr (.inl 76)) = .int ((sy_ai F 43).getD ((((6 : Int32)) * (sy_i F 11)) + (sy_i F 69)).toNatClampNeg 0) := hd_rd (hs 3 _ rfl) t74 a43
  have a42 := hd_ba (F := F) (F' := F') (k := 42) (hF 42 (by decide))
  have t75 : sy_dv F' (.inr (.inl 75)) = .int ((sy_ai F 42).getD ((((6 : Int32)) * (sy_i F 11)) + (sy_i F 69)).toNatClampNeg 0) := hd_rd (hs 2 _ rfl) t74 a42
  have b71 := hd_b (F := F) (F' := F') (k := 71) (hF 71 (by decide))
  have b72 := hd_b (F := F) (F' := F') (k := 72) (hF 72 (by decide))
  have hB' : iv_in F' iv_B4 := iv_in_eq hB (fun j hj => hF j (Nat.lt_of_lt_of_le hj (by decide +kernel)))
  refine ⟨List.forall_mem_cons.mpr ⟨hd_pb t74 (by first | exact h0 | exact h0), List.forall_mem_cons.mpr ⟨hd_pb t74 (by first | exact h1 | exact h1), List.forall_mem_cons.mpr ⟨hd_p5 t76 t75 h2, fun _ h => absurd h List.not_mem_nil⟩⟩⟩, ?_⟩
  refine k _ ?_ ?_ ?_ ?_
  · exact fun j hj _ => (hd_keep hB' (Nat.lt_of_lt_of_le hj (by decide +kernel)) (by simp)).trans (hF j (Nat.lt_of_lt_of_le hj (by decide)))
  · exact hd_gi (x := .inr (.inl 71)) (by decide +kernel) b71
  · exact hd_gi (x := .inr (.inl 72)) (by decide +kernel) b72
  · exact hd_gi (x := .inr (.inl 74)) (by decide +kernel) t74
theorem yak_0 {Ls : Nat} {xs : Nat → Int32} {d : Nat} {Q : Option Value → jm_h → Prop} (hd : 2 ≤ d) (F : Nat → sy_d) (X1 X2 : List jm_c) (hB : iv_in F iv_B4)
    (a69 : 0 ≤ (sy_i F 69).toInt ∧ (sy_i F 69).toInt ≤ 5)
    (k0 : ((sy_ai F 43).getD (((6 * (sy_i F 11).toInt) + (sy_i F 69).toInt)).toNat 0).toInt ≤ ((sy_ai F 42).getD (((6 * (sy_i F 11).toInt) + (sy_i F 69).toInt)).toNat 0).toInt → (sy_i F 71).toInt ≤ (sy_i F 70).toInt → (sy_i F 70).toInt ≤ (sy_i F 72).toInt → ∀ F1 : Nat → sy_d, iv_in F1 iv_B4 → (∀ j, j < 69 → j ∉ ([] : List Nat) → F1 j = F j) → Q (some (.int (sy_i F 70))) (sy_dh F1 X1 X2 (iv_H 4)))
    (k1 : ((sy_ai F 43).getD (((6 * (sy_i F 11).toInt) + (sy_i F 69).toInt)).toNat 0).toInt ≤ ((sy_ai F 42).getD (((6 * (sy_i F 11).toInt) + (sy_i F 69).toInt)).toNat 0).toInt → (sy_i F 71).toInt ≤ (sy_i F 70).toInt → (sy_i F 72).toInt < (sy_i F 70).toInt → ∀ F1 : Nat → sy_d, iv_in F1 iv_B4 → (∀ j, j < 69 → j ∉ ([] : List Nat) → F1 j = F j) → Q (some (.int (sy_i F 72))) (sy_dh F1 X1 X2 (iv_H 4)))
    (k2 : ((sy_ai F 43).getD (((6 * (sy_i F 11).toInt) + (sy_i F 69).toInt)).toNat 0).toInt ≤ ((sy_ai F 42).getD (((6 * (sy_i F 11).toInt) + (sy_i F 69).toInt)).toNat 0).toInt → (sy_i F 70).toInt < (sy_i F 71).toInt → ∀ F1 : Nat → sy_d, iv_in F1 iv_B4 → (∀ j, j < 69 → j ∉ ([] : List Nat) → F1 j = F j) → Q (some (.int (sy_i F 71))) (sy_dh F1 X1 X2 (iv_H 4)))
    (k3 : ((sy_ai F 42).getD (((6 * (sy_i F 11).toInt) + (sy_i F 69).toInt)).toNat 0).toInt < ((sy_ai F 43).getD (((6 * (sy_i F 11).toInt) + (sy_i F 69).toInt)).toNat 0).toInt → ∀ F1 : Nat → sy_d, iv_in F1 iv_B4 → (∀ j, j < 69 → j ∉ ([] : List Nat) → F1 j = F j) → (sy_i F1 69).toInt = (sy_i F 71).toInt → sy_i F1 69 = sy_i F 71 → (sy_i F1 70).toInt = (sy_i F 72).toInt → sy_i F1 70 = sy_i F 72 → (sy_i F1 71).toInt = ((6 * (sy_i F 11).toInt) + (sy_i F 69).toInt) → sy_i F1 71 = (((6 : Int32)) * (sy_i F 11)) + (sy_i F 69) → hd_W Ls xs d jm_M179 Q (34, sy_dL F1 [some (.inl (.ref 1000)), none, none, some (.inr (.inl 69)), some (.inr (.inl 70)), none, none], sy_dS F1 [.inr (.inl 71), .inl (.ref 1000)], sy_dh F1 X1 X2 (iv_H 4), 0, 0)) :
    hd_W Ls xs d jm_M179 Q (0, sy_dL F [some (.inl (.ref 1000)), some (.inr (.inl 69)), some (.inr (.inl 70)), some (.inr (.inl 71)), some (.inr (.inl 72)), none, none], sy_dS F [], sy_dh F X1 X2 (iv_H 4), 0, 0) := by
  by_cases g0 : ((sy_ai F 43).getD (((6 * (sy_i F 11).toInt) + (sy_i F 69).toInt)).toNat 0).toInt ≤ ((sy_ai F 42).getD (((6 * (sy_i F 11).toInt) + (sy_i F 69).toInt)).toNat 0).toInt
  · by_cases g1 : (sy_i F 71).toInt ≤ (sy_i F 70).toInt
    · by_cases g2 : (sy_i F 70).toInt ≤ (sy_i F 72).toInt
      · have c11 := nz_bx hB (k := 11) (lo := 0) (hi := 1) rfl
        have n73 : nzI (((6 : Int32)) * (sy_i F 11)) ((6 * (sy_i F 11).toInt)) := nz_mul (by decide : ((6 : Int32)).toInt = 6) (rfl : (sy_i F 11).toInt = (sy_i F 11).toInt) (by omega) (by omega)
        have n74 : nzI ((((6 : Int32)) * (sy_i F 11)) + (sy_i F 69)) (((6 * (sy_i F 11).toInt) + (sy_i F 69).toInt)) := nz_add (nzE n73) (rfl : (sy_i F 69).toInt = (sy_i F 69).toInt) (by omega) (by omega)
        have q76 : (sy_ai F 43).getD ((((6 : Int32)) * (sy_i F 11)) + (sy_i F 69)).toNatClampNeg 0 = (sy_ai F 43).getD (((6 * (sy_i F 11).toInt) + (sy_i F 69).toInt)).toNat 0 := by simp only [nz_c, (nzE n73), (nzE n74), (by decide : ((6 : Int32)).toInt = 6)]
        have n76 : nzI ((sy_ai F 43).getD ((((6 : Int32)) * (sy_i F 11)) + (sy_i F 69)).toNatClampNeg 0) (((sy_ai F 43).getD (((6 * (sy_i F 11).toInt) + (sy_i F 69).toInt)).toNat 0).toInt) := congrArg Int32.toInt q76
        have r76 := nz_ba hB (k := 43) (lo := 0) (hi := 260) rfl (((6 * (sy_i F 11).toInt) + (sy_i F 69).toInt)).toNat
        have q75 : (sy_ai F 42).getD ((((6 : Int32)) * (sy_i F 11)) + (sy_i F 69)).toNatClampNeg 0 = (sy_ai F 42).getD (((6 * (sy_i F 11).toInt) + (sy_i F 69).toInt)).toNat 0 := by simp only [nz_c, (nzE n73), (nzE n74), (by decide : ((6 : Int32)).toInt = 6)]
        have n75 : nzI ((sy_ai F 42).getD ((((6 : Int32)) * (sy_i F 11)) + (sy_i F 69)).toNatClampNeg 0) (((sy_ai F 42).getD (((6 * (sy_i F 11).toInt) + (sy_i F 69).toInt)).toNat 0).toInt) := congrArg Int32.toInt q75
        have r75 := nz_ba hB (k := 42) (lo := 0) (hi := 260) rfl (((6 * (sy_i F 11).toInt) + (sy_i F 69).toInt)).toNat
        exact yak_0_p0 hd F X1 X2 hB (by first | (simp only [nz_c, (nzE n73), (nzE n74)]; exact ⟨by omega, by omega⟩) | exact ⟨by omega, by omega⟩ | (rw [(nzE n74)]; exact ⟨by omega, by omega⟩)) (by first | (simp only [nz_c, (nzE n73), (nzE n74)]; exact ⟨by omega, by omega⟩) | exact ⟨by omega, by omega⟩ | (rw [(nzE n74)]; exact ⟨by omega, by omega⟩)) (by first | (simp only [nz_c, (nzE n73), (nzE n74)]; exact g0) | exact g0 | (rw [(nzE n76)]; exact g0) | (rw [(nzE n75)]; exact g0) | (rw [(nzE n76), (nzE n75)]; exact g0)) (by first | exact g1 | (simp only [nz_c]; exact g1)) (by first | exact g2 | (simp only [nz_c]; exact g2)) (fun F1 g  => by rw [(rfl : sy_i F 70 = sy_i F 70)]; exact k0 g0 g1 g2 F1 (nz_in hB [] (fun j hj hn => g j hj (by simp only [List.mem_cons, List.not_mem_nil, or_false, not_or] at hn; exact trivial)) (List.forall_mem_nil _)) (fun j hj hn => g j hj (by simp only [List.mem_cons, List.not_mem_nil, or_false, not_or] at hn; exact trivial)) )
      replace g2 : (sy_i F 72).toInt < (sy_i F 70).toInt := by omega
      have c11 := nz_bx hB (k := 11) (lo := 0) (hi := 1) rfl
      have n73 : nzI (((6 : Int32)) * (sy_i F 11)) ((6 * (sy_i F 11).toInt)) := nz_mul (by decide : ((6 : Int32)).toInt = 6) (rfl : (sy_i F 11).toInt = (sy_i F 11).toInt) (by omega) (by omega)
      have n74 : nzI ((((6 : Int32)) * (sy_i F 11)) + (sy_i F 69)) (((6 * (sy_i F 11).toInt) + (sy_i F 69).toInt)) := nz_add (nzE n73) (rfl : (sy_i F 69).toInt = (sy_i F 69).toInt) (by omega) (by omega)
      have q76 : (sy_ai F 43).getD ((((6 : Int32)) * (sy_i F 11)) + (sy_i F 69)).toNatClampNeg 0 = (sy_ai F 43).getD (((6 * (sy_i F 11).toInt) + (sy_i F 69).toInt)).toNat 0 := by simp only [nz_c, (nzE n73), (nzE n74), (by decide : ((6 : Int32)).toInt = 6)]
      have n76 : nzI ((sy_ai F 43).getD ((((6 : Int32)) * (sy_i F 11)) + (sy_i F 69)).toNatClampNeg 0) (((sy_ai F 43).getD (((6 * (sy_i F 11).toInt) + (sy_i F 69).toInt)).toNat 0).toInt) := congrArg Int32.toInt q76
      have r76 := nz_ba hB (k := 43) (lo := 0) (hi := 260) rfl (((6 * (sy_i F 11).toInt) + (sy_i F 69).toInt)).toNat
      have q75 : (sy_ai F 42).getD ((((6 : Int32)) * (sy_i F 11)) + (sy_i F 69)).toNatClampNeg 0 = (sy_ai F 42).getD (((6 * (sy_i F 11).toInt) + (sy_i F 69).toInt)).toNat 0 := by simp only [nz_c, (nzE n73), (nzE n74), (by decide : ((6 : Int32)).toInt = 6)]
      have n75 : nzI ((sy_ai F 42).getD ((((6 : Int32)) * (sy_i F 11)) + (sy_i F 69)).toNatClampNeg 0) (((sy_ai F 42).getD (((6 * (sy_i F 11).toInt) + (sy_i F 69).toInt)).toNat 0).toInt) := congrArg Int32.toInt q75
      have r75 := nz_ba hB (k := 42) (lo := 0) (hi := 260) rfl (((6 * (sy_i F 11).toInt) + (sy_i F 69).toInt)).toNat
      exact yak_0_p1 hd F X1 X2 hB (by first | (simp only [nz_c, (nzE n73), (nzE n74)]; exact ⟨by omega, by omega⟩) | exact ⟨by omega, by omega⟩ | (rw [(nzE n74)]; exact ⟨by omega, by omega⟩)) (by first | (simp only [nz_c, (nzE n73), (nzE n74)]; exact ⟨by omega, by omega⟩) | exact ⟨by omega, by omega⟩ | (rw [(nzE n74)]; exact ⟨by omega, by omega⟩)) (by first | (simp only [nz_c, (nzE n73), (nzE n74)]; exact g0) | exact g0 | (rw [(nzE n76)]; exact g0) | (rw [(nzE n75)]; exact g0) | (rw [(nzE n76), (nzE n75)]; exact g0)) (by first | exact g1 | (simp only [nz_c]; exact g1)) (by first | exact g2 | (simp only [nz_c]; exact g2)) (fun F1 g  => by rw [(rfl : sy_i F 72 = sy_i F 72)]; exact k1 g0 g1 g2 F1 (nz_in hB [] (fun j hj hn => g j hj (by simp only [List.mem_cons, List.not_mem_nil, or_false, not_or] at hn; exact trivial)) (List.forall_mem_nil _)) (fun j hj hn => g j hj (by simp only [List.mem_cons, List.not_mem_nil, or_false, not_or] at hn; exact trivial)) )
    replace g1 : (sy_i F 70).toInt < (sy_i F 71).toInt := by omega
    have c11 := nz_bx hB (k := 11) (lo := 0) (hi := 1) rfl
    have n73 : nzI (((6 : Int32)) * (sy_i F 11)) ((6 * (sy_i F 11).toInt)) := nz_mul (by decide : ((6 : Int32)).toInt = 6) (rfl : (sy_i F 11).toInt = (sy_i F 11).toInt) (by omega) (by omega)
    have n74 : nzI ((((6 : Int32)) * (sy_i F 11)) + (sy_i F 69)) (((6 * (sy_i F 11).toInt) + (sy_i F 69).toInt)) := nz_add (nzE n73) (rfl : (sy_i F 69).toInt = (sy_i F 69).toInt) (by omega) (by omega)
    have q76 : (sy_ai F 43).getD ((((6 : Int32)) * (sy_i F 11)) + (sy_i F 69)).toNatClampNeg 0 = (sy_ai F 43).getD (((6 * (sy_i F 11).toInt) + (sy_i F 69).toInt)).toNat 0 := by simp only [nz_c, (nzE n73), (nzE n74), (by decide : ((6 : Int32)).toInt = 6)]
    have n76 : nzI ((sy_ai F 43).getD ((((6 : Int32)) * (sy_i F 11)) + (sy_i F 69)).toNatClampNeg 0) (((sy_ai F 43).getD (((6 * (sy_i F 11).toInt) + (sy_i F 69).toInt)).toNat 0).toInt) := congrArg Int32.toInt q76
    have r76 := nz_ba hB (k := 43) (lo := 0) (hi := 260) rfl (((6 * (sy_i F 11).toInt) + (sy_i F 69).toInt)).toNat
    have q75 : (sy_ai F 42).getD ((((6 : Int32)) * (sy_i F 11)) + (sy_i F 69)).toNatClampNeg 0 = (sy_ai F 42).getD (((6 * (sy_i F 11).toInt) + (sy_i F 69).toInt)).toNat 0 := by simp only [nz_c, (nzE n73), (nzE n74), (by decide : ((6 : Int32)).toInt = 6)]
    have n75 : nzI ((sy_ai F 42).getD ((((6 : Int32)) * (sy_i F 11)) + (sy_i F 69)).toNatClampNeg 0) (((sy_ai F 42).getD (((6 * (sy_i F 11).toInt) + (sy_i F 69).toInt)).toNat 0).toInt) := congrArg Int32.toInt q75
    have r75 := nz_ba hB (k := 42) (lo := 0) (hi := 260) rfl (((6 * (sy_i F 11).toInt) + (sy_i F 69).toInt)).toNat
    exact yak_0_p2 hd F X1 X2 hB (by first | (simp only [nz_c, (nzE n73), (nzE n74)]; exact ⟨by omega, by omega⟩) | exact ⟨by omega, by omega⟩ | (rw [(nzE n74)]; exact ⟨by omega, by omega⟩)) (by first | (simp only [nz_c, (nzE n73), (nzE n74)]; exact ⟨by omega, by omega⟩) | exact ⟨by omega, by omega⟩ | (rw [(nzE n74)]; exact ⟨by omega, by omega⟩)) (by first | (simp only [nz_c, (nzE n73), (nzE n74)]; exact g0) | exact g0 | (rw [(nzE n76)]; exact g0) | (rw [(nzE n75)]; exact g0) | (rw [(nzE n76), (nzE n75)]; exact g0)) (by first | exact g1 | (simp only [nz_c]; exact g1)) (fun F1 g  => by rw [(rfl : sy_i F 71 = sy_i F 71)]; exact k2 g0 g1 F1 (nz_in hB [] (fun j hj hn => g j hj (by simp only [List.mem_cons, List.not_mem_nil, or_false, not_or] at hn; exact trivial)) (List.forall_mem_nil _)) (fun j hj hn => g j hj (by simp only [List.mem_cons, List.not_mem_nil, or_false, not_or] at hn; exact trivial)) )
  replace g0 : ((sy_ai F 42).getD (((6 * (sy_i F 11).toInt) + (sy_i F 69).toInt)).toNat 0).toInt < ((sy_ai F 43).getD (((6 * (sy_i F 11).toInt) + (sy_i F 69).toInt)).toNat 0).toInt := by omega
  have c11 := nz_bx hB (k := 11) (lo := 0) (hi := 1) rfl
  have n73 : nzI (((6 : Int32)) * (sy_i F 11)) ((6 * (sy_i F 11).toInt)) := nz_mul (by decide : ((6 : Int32)).toInt = 6) (rfl : (sy_i F 11).toInt = (sy_i F 11).toInt) (by omega) (by omega)
  have n74 : nzI ((((6 : Int32)) * (sy_i F 11)) + (sy_i F 69)) (((6 * (sy_i F 11).toInt) + (sy_i F 69).toInt)) := nz_add (nzE n73) (rfl : (sy_i F 69).toInt = (sy_i F 69).toInt) (by omega) (by omega)
  have q76 : (sy_ai F 43).getD ((((6 : Int32)) * (sy_i F 11)) + (sy_i F 69)).toNatClampNeg 0 = (sy_ai F 43).getD (((6 * (sy_i F 11).toInt) + (sy_i F 69).toInt)).toNat 0 := by simp only [nz_c, (nzE n73), (nzE n74), (by decide : ((6 : Int32)).toInt = 6)]
  have n76 : nzI ((sy_ai F 43).getD ((((6 : Int32)) * (sy_i F 11)) + (sy_i F 69)).toNatClampNeg 0) (((sy_ai F 43).getD (((6 * (sy_i F 11).toInt) + (sy_i F 69).toInt)).toNat 0).toInt) := congrArg Int32.toInt q76
  have r76 := nz_ba hB (k := 43) (lo := 0) (hi := 260) rfl (((6 * (sy_i F 11).toInt) + (sy_i F 69).toInt)).toNat
  have q75 : (sy_ai F 42).getD ((((6 : Int32)) * (sy_i F 11)) + (sy_i F 69)).toNatClampNeg 0 = (sy_ai F 42).getD (((6 * (sy_i F 11).toInt) + (sy_i F 69).toInt)).toNat 0 := by simp only [nz_c, (nzE n73), (nzE n74), (by decide : ((6 : Int32)).toInt = 6)]
  have n75 : nzI ((sy_ai F 42).getD ((((6 : Int32)) * (sy_i F 11)) + (sy_i F 69)).toNatClampNeg 0) (((sy_ai F 42).getD (((6 * (sy_i F 11).toInt) + (sy_i F 69).toInt)).toNat 0).toInt) := congrArg Int32.toInt q75
  have r75 := nz_ba hB (k := 42) (lo := 0) (hi := 260) rfl (((6 * (sy_i F 11).toInt) + (sy_i F 69).toInt)).toNat
  exact yak_0_p3 hd F X1 X2 hB (by first | (simp only [nz_c, (nzE n73), (nzE n74)]; exact ⟨by omega, by omega⟩) | exact ⟨by omega, by omega⟩ | (rw [(nzE n74)]; exact ⟨by omega, by omega⟩)) (by first | (simp only [nz_c, (nzE n73), (nzE n74)]; exact ⟨by omega, by omega⟩) | exact ⟨by omega, by omega⟩ | (rw [(nzE n74)]; exact ⟨by omega, by omega⟩)) (by first | (simp only [nz_c, (nzE n73), (nzE n74)]; exact g0) | exact g0 | (rw [(nzE n76)]; exact g0) | (rw [(nzE n75)]; exact g0) | (rw [(nzE n76), (nzE n75)]; exact g0)) (fun F1 g e69 e70 e71 => k3 g0 F1 (nz_in hB [] (fun j hj hn => g j hj (by simp only [List.mem_cons, List.not_mem_nil, or_false, not_or] at hn; exact trivial)) (List.forall_mem_nil _)) (fun j hj hn => g j hj (by simp only [List.mem_cons, List.not_mem_nil, or_false, not_or] at hn; exact trivial)) ((congrArg Int32.toInt (zz_i e69)).trans (rfl : (sy_i F 71).toInt = (sy_i F 71).toInt)) ((zz_i e69).trans (rfl : sy_i F 71 = sy_i F 71)) ((congrArg Int32.toInt (zz_i e70)).trans (rfl : (sy_i F 72).toInt = (sy_i F 72).toInt)) ((zz_i e70).trans (rfl : sy_i F 72 = sy_i F 72)) ((congrArg Int32.toInt (zz_i e71)).trans (nzE n74)) ((zz_i e71).trans (rfl : (((6 : Int32)) * (sy_i F 11)) + (sy_i F 69) = (((6 : Int32)) * (sy_i F 11)) + (sy_i F 69))))
theorem yak_37_p0 {Ls : Nat} {xs : Nat → Int32} {d : Nat} {Q : Option Value → jm_h → Prop} (hd : 2 ≤ d) (F : Nat → sy_d) (X1 X2 : List jm_c) (hB : iv_in F iv_B4)
    (h0 : (sy_i F 69).toInt ≤ (sy_i F 71).toInt)
    (h1 : (sy_i F 71).toInt ≤ (sy_i F 70).toInt)
    (k : ∀ F1 : Nat → sy_d, (∀ j, j < 69 → True → F1 j = F j) → Q (some (.int (sy_i F 71))) (sy_dh F1 X1 X2 (iv_H 4))) :
    hd_W Ls xs d jm_M179 Q (37, sy_dL F [some (.inl (.ref 1000)), none, none, some (.inr (.inl 69)), some (.inr (.inl 70)), none, none], sy_dS F [.inr (.inl 71)], sy_dh F X1 X2 (iv_H 4), 0, 0) := by
  refine hd_ret (s := 4) (nv := 72) (v := some (.inr (.inl 71))) (uh := hd_ov (iv_id 0 iv_B4) []) (f := false) (sp := []) (d0 := 1) (O := [true, true]) (T := []) (P := [(4, .inr (.inl 69), .inr (.inl 71)), (4, .inr (.inl 71), .inr (.inl 70))]) jm_ok179 (by decide +kernel) (by decide +kernel) hd F X1 X2 (fun F' hF hs => ?_)
  have b69 := hd_b (F := F) (F' := F') (k := 69) (hF 69 (by decide))
  have b71 := hd_b (F := F) (F' := F') (k := 71) (hF 71 (by decide))
  have b70 := hd_b (F := F) (F' := F') (k := 70) (hF 70 (by decide))
  have hB' : iv_in F' iv_B4 := iv_in_eq hB (fun j hj => hF j (Nat.lt_of_lt_of_le hj (by decide +kernel)))
  have hk := k (sy_cm F' (hd_ov (iv_id 0 iv_B4) [] ++ [])) (fun j hj _ => (hd_keep hB' (Nat.lt_of_lt_of_le hj (by decide +kernel)) (by simp)).trans (hF j (Nat.lt_of_lt_of_le hj (by decide))))
  refine ⟨List.forall_mem_cons.mpr ⟨hd_p4 b69 b71 h0, List.forall_mem_cons.mpr ⟨hd_p4 b71 b70 h1, fun _ h => absurd h List.not_mem_nil⟩⟩, ?_⟩
  show Q (some (sy_dv F' (.inr (.inl 71)))) _
  rw [b71]
  exact hk
theorem yak_37_p1 {Ls : Nat} {xs : Nat → Int32} {d : Nat} {Q : Option Value → jm_h → Prop} (hd : 2 ≤ d) (F : Nat → sy_d) (X1 X2 : List jm_c) (hB : iv_in F iv_B4)
    (h0 : (sy_i F 69).toInt ≤ (sy_i F 71).toInt)
    (h1 : (sy_i F 70).toInt < (sy_i F 71).toInt)
    (k : ∀ F1 : Nat → sy_d, (∀ j, j < 69 → True → F1 j = F j) → Q (some (.int (sy_i F 70))) (sy_dh F1 X1 X2 (iv_H 4))) :
    hd_W Ls xs d jm_M179 Q (37, sy_dL F [some (.inl (.ref 1000)), none, none, some (.inr (.inl 69)), some (.inr (.inl 70)), none, none], sy_dS F [.inr (.inl 71)], sy_dh F X1 X2 (iv_H 4), 0, 0) := by
  refine hd_ret (s := 4) (nv := 72) (v := some (.inr (.inl 70))) (uh := hd_ov (iv_id 0 iv_B4) []) (f := false) (sp := []) (d0 := 1) (O := [true, false]) (T := []) (P := [(4, .inr (.inl 69), .inr (.inl 71)), (5, .inr (.inl 71), .inr (.inl 70))]) jm_ok179 (by decide +kernel) (by decide +kernel) hd F X1 X2 (fun F' hF hs => ?_)
  have b69 := hd_b (F := F) (F' := F') (k := 69) (hF 69 (by decide))
  have b71 := hd_b (F := F) (F' := F') (k := 71) (hF 71 (by decide))
  have b70 := hd_b (F := F) (F' := F') (k := 70) (hF 70 (by decide))
  have hB' : iv_in F' iv_B4 := iv_in_eq hB (fun j hj => hF j (Nat.lt_of_lt_of_le hj (by decide +kernel)))
  have hk := k (sy_cm F' (hd_ov (iv_id 0 iv_B4) [] ++ [])) (fun j hj _ => (hd_keep hB' (Nat.lt_of_lt_of_le hj (by decide +kernel)) (by simp)).trans (hF j (Nat.lt_of_lt_of_le hj (by decide))))
  refine ⟨List.forall_mem_cons.mpr ⟨hd_p4 b69 b71 h0, List.forall_mem_cons.mpr ⟨hd_p5 b71 b70 h1, fun _ h => absurd h List.not_mem_nil⟩⟩, ?_⟩
  show Q (some (sy_dv F' (.inr (.inl 70)))) _
  rw [b70]
  exact hk
theorem yak_37_p2 {Ls : Nat} {xs : Nat → Int32} {d : Nat} {Q : Option Value → jm_h → Prop} (hd : 2 ≤ d) (F : Nat → sy_d) (X1 X2 : List jm_c) (hB : iv_in F iv_B4)
    (h0 : (sy_i F 71).toInt < (sy_i F 69).toInt)
    (k : ∀ F1 : Nat → sy_d, (∀ j, j < 69 → True → F1 j = F j) → Q (some (.int (sy_i F 69))) (sy_dh F1 X1 X2 (iv_H 4))) :
    hd_W Ls xs d jm_M179 Q (37, sy_dL F [some (.inl (.ref 1000)), none, none, some (.inr (.inl 69)), some (.inr (.inl 70)), none, none], sy_dS F [.inr (.inl 71)], sy_dh F X1 X2 (iv_H 4), 0, 0) := by
  refine hd_ret (s := 4) (nv := 72) (v := some (.inr (.inl 69))) (uh := hd_ov (iv_id 0 iv_B4) []) (f := false) (sp := []) (d0 := 1) (O := [false]) (T := []) (P := [(5, .inr (.inl 69), .inr (.inl 71))]) jm_ok179 (by decide +kernel) (by decide +kernel) hd F X1 X2 (fun F' hF hs => ?_)
  have b69 := hd_b (F := F) (F' := F') (k := 69) (hF 69 (by decide))
  have b71 := hd_b (F := F) (F' := F') (k := 71) (hF 71 (by decide))
  have hB' : iv_in F' iv_B4 := iv_in_eq hB (fun j hj => hF j (Nat.lt_of_lt_of_le hj (by decide +kernel)))
  have hk := k (sy_cm F' (hd_ov (iv_id 0 iv_B4) [] ++ [])) (fun j hj _ => (hd_keep hB' (Nat.lt_of_lt_of_le hj (by decide +kernel)) (by simp)).trans (hF j (Nat.lt_of_lt_of_le hj (by decide))))
  refine ⟨List.forall_mem_cons.mpr ⟨hd_p5 b69 b71 h0, fun _ h => absurd h List.not_mem_nil⟩, ?_⟩
  show Q (some (sy_dv F' (.inr (.inl 69)))) _
  rw [b69]
  exact hk
theorem yak_37 {Ls : Nat} {xs : Nat → Int32} {d : Nat} {Q : Option Value → jm_h → Prop} (hd : 2 ≤ d) (F : Nat → sy_d) (X1 X2 : List jm_c) (hB : iv_in F iv_B4)
    (k0 : (sy_i F 69).toInt ≤ (sy_i F 71).toInt → (sy_i F 71).toInt ≤ (sy_i F 70).toInt → ∀ F1 : Nat → sy_d, iv_in F1 iv_B4 → (∀ j, j < 69 → j ∉ ([] : List Nat) → F1 j = F j) → Q (some (.int (sy_i F 71))) (sy_dh F1 X1 X2 (iv_H 4)))
    (k1 : (sy_i F 69).toInt ≤ (sy_i F 71).toInt → (sy_i F 70).toInt < (sy_i F 71).toInt → ∀ F1 : Nat → sy_d, iv_in F1 iv_B4 → (∀ j, j < 69 → j ∉ ([] : List Nat) → F1 j = F j) → Q (some (.int (sy_i F 70))) (sy_dh F1 X1 X2 (iv_H 4)))
    (k2 : (sy_i F 71).toInt < (sy_i F 69).toInt → ∀ F1 : Nat → sy_d, iv_in F1 iv_B4 → (∀ j, j < 69 → j ∉ ([] : List Nat) → F1 j = F j) → Q (some (.int (sy_i F 69))) (sy_dh F1 X1 X2 (iv_H 4))) :
    hd_W Ls xs d jm_M179 Q (37, sy_dL F [some (.inl (.ref 1000)), none, none, some (.inr (.inl 69)), some (.inr (.inl 70)), none, none], sy_dS F [.inr (.inl 71)], sy_dh F X1 X2 (iv_H 4), 0, 0) := by
  by_cases g0 : (sy_i F 69).toInt ≤ (sy_i F 71).toInt
  · by_cases g1 : (sy_i F 71).toInt ≤ (sy_i F 70).toInt
    · exact yak_37_p0 hd F X1 X2 hB (by first | exact g0 | (simp only [nz_c]; exact g0)) (by first | exact g1 | (simp only [nz_c]; exact g1)) (fun F1 g  => by rw [(rfl : sy_i F 71 = sy_i F 71)]; exact k0 g0 g1 F1 (nz_in hB [] (fun j hj hn => g j hj (by simp only [List.mem_cons, List.not_mem_nil, or_false, not_or] at hn; exact trivial)) (List.forall_mem_nil _)) (fun j hj hn => g j hj (by simp only [List.mem_cons, List.not_mem_nil, or_false, not_or] at hn; exact trivial)) )
    replace g1 : (sy_i F 70).toInt < (sy_i F 71).toInt := by omega
    exact yak_37_p1 hd F X1 X2 hB (by first | exact g0 | (simp only [nz_c]; exact g0)) (by first | exact g1 | (simp only [nz_c]; exact g1)) (fun F1 g  => by rw [(rfl : sy_i F 70 = sy_i F 70)]; exact k1 g0 g1 F1 (nz_in hB [] (fun j hj hn => g j hj (by simp only [List.mem_cons, List.not_mem_nil, or_false, not_or] at hn; exact trivial)) (List.forall_mem_nil _)) (fun j hj hn => g j hj (by simp only [List.mem_cons, List.not_mem_nil, or_false, not_or] at hn; exact trivial)) )
  replace g0 : (sy_i F 71).toInt < (sy_i F 69).toInt := by omega
  exact yak_37_p2 hd F X1 X2 hB (by first | exact g0 | (simp only [nz_c]; exact g0)) (fun F1 g  => by rw [(rfl : sy_i F 69 = sy_i F 69)]; exact k2 g0 F1 (nz_in hB [] (fun j hj hn => g j hj (by simp only [List.mem_cons, List.not_mem_nil, or_false, not_or] at hn; exact trivial)) (List.forall_mem_nil _)) (fun j hj hn => g j hj (by simp only [List.mem_cons, List.not_mem_nil, or_false, not_or] at hn; exact trivial)) )
end
section
/-! ===== what stays behind a call ===== -/
noncomputable def qq (n : Nat) (B : List iv_t) (W : List Nat) (F F' : Nat → sy_d) : Prop := iv_in F' B ∧ ∀ j, j < n → j ∉ W → F' j = F j
noncomputable abbrev qR (W : List Nat) (F F' : Nat → sy_d) : Prop := qq 69 iv_B4 W F F'
noncomputable abbrev qC (W : List Nat) (F F' : Nat → sy_d) : Prop := qq 82 iv_B0 W F F'
section QQ
variable {n : Nat} {B : List iv_t} {W W' : List Nat} {F F1 F2 : Nat → sy_d}
theorem qq_trans (h : qq n B W F F1) (h2 : qq n B W F1 F2) : qq n B W F F2 := ⟨h2.1, fun j hj hn => (h2.2 j hj hn).trans (h.2 j hj hn)⟩
theorem qq_up (h : qq n B W F F1) (hW : ∀ q ∈ W, q ∈ W') : qq n B W' F F1 := ⟨h.1, fun j hj hn => h.2 j hj (fun z => hn (hW j z))⟩
theorem qq_mk (hb : iv_in F1 B) (g : ∀ j, j < n → j ∉ W → F1 j = F j) (hW : ∀ q ∈ W, q ∈ W') : qq n B W' F F1 := ⟨hb, fun j hj hn => g j hj (fun z => hn (hW j z))⟩
/-- a way on from what was kept -/
theorem qq_on (h : qq n B W' F F1) (hb : iv_in F2 B) (g : ∀ j, j < n → j ∉ W → F2 j = F1 j) (hW : ∀ q ∈ W, q ∈ W') : qq n B W' F F2 := qq_trans h (qq_mk hb g hW)
theorem qq_src (h : qq n B W F1 F2) (e : ∀ j, j < n → F1 j = F j) : qq n B W F F2 := ⟨h.1, fun j hj hn => (h.2 j hj hn).trans (e j hj)⟩
theorem qR_dst (h : qR W F F1) (e : ∀ j, j < 69 → F2 j = F1 j) : qR W F F2 := ⟨hd_iveq h.1 e, fun j hj hn => (e j hj).trans (h.2 j hj hn)⟩
theorem qC_dst (h : qC W F F1) (e : ∀ j, j < 82 → F2 j = F1 j) : qC W F F2 := ⟨hd_iveq0 h.1 e, fun j hj hn => (e j hj).trans (h.2 j hj hn)⟩
theorem qq_i (h : qq n B W F F1) {j : Nat} (hj : j < n) (hn : j ∉ W) : sy_i F1 j = sy_i F j := by unfold sy_i; rw [h.2 j hj hn]
theorem qq_a (h : qq n B W F F1) {j : Nat} (hj : j < n) (hn : j ∉ W) : sy_ai F1 j = sy_ai F j := nz_fa (h.2 j hj hn)
theorem qq_l (h : qq n B W F F1) {j : Nat} (hj : j < n) (hn : j ∉ W) : sy_al F1 j = sy_al F j := nz_fl (h.2 j hj hn)
end QQ
theorem eI {F F1 : Nat → sy_d} {k : Nat} (h : F1 k = F k) : sy_i F1 k = sy_i F k := by unfold sy_i; rw [h]
/-- an int is answered -/
noncomputable def pI (s : Nat) (X1 X2 : List jm_c) (P : Int32 → (Nat → sy_d) → Prop) : Option Value → jm_h → Prop := fun v G => ∃ (x : Int32) (F' : Nat → sy_d), v = some (.int x) ∧ G = sy_dh F' X1 X2 (iv_H s) ∧ P x F'
noncomputable def pV (s : Nat) (X1 X2 : List jm_c) (P : (Nat → sy_d) → Prop) : Option Value → jm_h → Prop := fun v G => ∃ F' : Nat → sy_d, v = none ∧ G = sy_dh F' X1 X2 (iv_H s) ∧ P F'
noncomputable def pL (s : Nat) (X1 X2 : List jm_c) (P : Int64 → (Nat → sy_d) → Prop) : Option Value → jm_h → Prop := fun v G => ∃ (x : Int64) (F' : Nat → sy_d), v = some (.long x) ∧ G = sy_dh F' X1 X2 (iv_H s) ∧ P x F'
theorem i0z {x : Int32} : x = 0 ↔ x.toInt = 0 := ⟨fun h => by rw [h]; decide, fun h => Int32.toInt_inj.mp (by rw [h]; decide)⟩
theorem i1z {x : Int32} : x = 1 ↔ x.toInt = 1 := ⟨fun h => by rw [h]; decide, fun h => Int32.toInt_inj.mp (by rw [h]; decide)⟩
theorem ofi {x : Int32} {z : Int} (h : x.toInt = z) : Int32.ofInt z = x := by rw [← h]; exact Int32.ofInt_toInt x
/-! ===== a pile ===== -/
def stq (l : List Int32) : List Int32 → Prop
  | [] => True
  | x :: S => l.getD S.length 0 = x ∧ stq l S
theorem stq_up {l : List Int32} {n : Nat} {x : Int32} : ∀ {S : List Int32}, S.length ≤ n → stq l S → stq (jm_upd l n x) S
  | [], _, _ => trivial
  | y :: S, h, hs => by
    have h : S.length + 1 ≤ n := h
    refine ⟨?_, stq_up (by omega) hs.2⟩
    rw [jm_upd_at, if_neg (by omega)]
    exact hs.1
theorem stq_put {l : List Int32} {n : Nat} {x : Int32} {S : List Int32} (h : n = S.length) (hs : stq l S) : stq (jm_upd l n x) (x :: S) := ⟨by rw [jm_upd_at, if_pos h.symm], stq_up (by omega) hs⟩
theorem clf_cons {code cint : List Int32} : ∀ (n c : Nat), clf code cint c (n + 1) = ((code.getD c 0).toInt, (cint.getD c 0).toInt) :: clf code cint (c + 1) n
  | 0, c => rfl
  | n + 1, c => by
    show clf code cint c (n + 1) ++ [_] = _ :: (clf code cint (c + 1) n ++ [_])
    rw [clf_cons n c, show c + 1 + n = c + (n + 1) by omega]
    rfl
theorem bL_cons {F : Nat → sy_d} : ∀ (n b : Nat), bL F b (n + 1) = bq F b :: bL F (b + 1) n
  | 0, b => rfl
  | n + 1, b => by
    show bL F b (n + 1) ++ [_] = _ :: (bL F (b + 1) n ++ [_])
    rw [bL_cons n b, show b + 1 + n = b + (n + 1) by omega]
    rfl
theorem evR_cg {v v' : Nat → Int32} (h : ∀ j, j ≤ 8 → v j = v' j) : ∀ (p : List rO) (S : List Int32) (d e : Nat), wfR p d e → evR v p S = evR v' p S
  | [], S, d, e, _ => rfl
  | o :: r, S, d, e, hw => by
    obtain ⟨⟨h0, h1, h2⟩, h3, h4⟩ := hw
    by_cases q0 : o.1 = 0
    · rw [evR_0 q0, evR_0 q0]
      exact evR_cg h r _ _ e (h3 (by omega)).2
    · by_cases q1 : o.1 = 1
      · rw [evR_1 q1, evR_1 q1, h o.2.toNat (by have := h2 q1; omega)]
        exact evR_cg h r _ _ e (h3 (by omega)).2
      · match S with
        | [] =>
          show (if _ then _ else _) = (if _ then _ else _)
          rw [if_neg q0, if_neg q0, if_neg q1, if_neg q1]
        | [_] =>
          show (if _ then _ else _) = (if _ then _ else _)
          rw [if_neg q0, if_neg q0, if_neg q1, if_neg q1]
        | b :: a :: S =>
          rw [evR_2 (by omega), evR_2 (by omega), evR_cg h r _ _ e (h4 (by omega)).2]
theorem exV_cg {v v' : Nat → Int32} (h : ∀ j, j ≤ 8 → v j = v' j) {p : List rO} {d e : Nat} (hw : wfR p d e) : exV v p = exV v' p := by
  unfold exV
  rw [evR_cg h p [] d e hw]
theorem lwV_cg {v v' : Nat → Int32} (h : ∀ j, j ≤ 8 → v j = v' j) : ∀ l : List bRT, (∀ b ∈ l, wfB b) → lwV v l = lwV v' l
  | [], _ => rfl
  | (none, w) :: r, hw => by
    have e := exV_cg h (hw _ (List.mem_cons_self)).1
    show (exV v w).getD 0 = (exV v' w).getD 0
    rw [e]
  | (some (u, q), w) :: r, hw => by
    obtain ⟨w1, w2⟩ := hw _ (List.mem_cons_self)
    obtain ⟨w3, w4⟩ := w2 u q rfl
    have ih := lwV_cg h r (fun b hb => hw b (List.mem_cons_of_mem _ hb))
    show (match exV v u, exV v q with | some a, some b => (if a.toInt < b.toInt then (exV v w).getD 0 else lwV v r) | _, _ => (0 : Int32)) = (match exV v' u, exV v' q with | some a, some b => (if a.toInt < b.toInt then (exV v' w).getD 0 else lwV v' r) | _, _ => (0 : Int32))
    rw [exV_cg h w1, exV_cg h w3, exV_cg h w4, ih]
/-! ===== the reference: a term ===== -/
noncomputable def v52 (F : Nat → sy_d) : Nat → Int32 := fun j => (sy_ai F 52).getD j 0
noncomputable def teP (F : Nat → sy_d) (O : List rO) (x : Int32) (F' : Nat → sy_d) : Prop := qR [17, 53] F F' ∧ (exV (v52 F) O = none → (sy_i F' 17).toInt = 1) ∧ ∀ y, exV (v52 F) O = some y → x = y ∧ F' 17 = F 17
section TE
variable {Ls : Nat} {xs : Nat → Int32} (F : Nat → sy_d) (X1 X2 : List jm_c)
theorem two2 {A : Type} : ∀ {S : List A}, 2 ≤ S.length → ∃ y x S', S = y :: x :: S'
  | [], h => absurd h (by simp)
  | [_], h => absurd h (by simp)
  | y :: x :: S, _ => ⟨y, x, S, rfl⟩
theorem te_L {O : List rO} {b : Int} (hbb : b ≤ 840) : ∀ (r : List rO) (S : List Int32) (F1 : Nat → sy_d), qR [53] F F1 → (sy_i F1 69).toInt = b → (sy_i F1 70).toInt = S.length → 0 ≤ (sy_i F1 71).toInt → (sy_i F1 71).toInt + r.length = b → clf (sy_ai F 49) (sy_ai F 50) (sy_i F1 71).toInt.toNat r.length = r → stq (sy_ai F1 53) S → S.length ≤ 15 → wfR r S.length 1 → (∀ T, evR (v52 F) r S = some T → exV (v52 F) O = (match T with | [x] => some x | _ => none)) → (evR (v52 F) r S = none → exV (v52 F) O = none) →
    hd_W Ls xs 1 jm_M166 (pI 4 X1 X2 (teP F O)) (5, sy_dL F1 [some (.inl (.ref 1000)), none, some (.inr (.inl 69)), some (.inr (.inl 70)), some (.inr (.inl 71)), none, none, none], sy_dS F1 [], sy_dh F1 X1 X2 (iv_H 4), 0, 0)
  | [], S, F1, hq, e69, e70, h0, h1, hc, hs, hS, hw, hv, hn => by
    have h1 : (sy_i F1 71).toInt + (0 : Nat) = b := h1
    match S, hw, hs, hv, e70 with
    | [x], _, hs, hv, e70 =>
      have e70 : (sy_i F1 70).toInt = 1 := e70
      have hv : exV (v52 F) O = some x := hv [x] rfl
      have hs : (sy_ai F1 53).getD 0 0 = x := hs.1
      refine yte_5 (by decide) F1 X1 X2 hq.1 (by omega) (by omega) (by omega) ?_ ?_ ?_ ?_ ?_ ?_ ?_ ?_ ?_ ?_ ?_ ?_ ?_ ?_ ?_ ?_ ?_
      rotate_left 9
      · intro c0 F2 hb g
        refine ⟨_, F2, rfl, rfl, qq_on (qq_up hq (by decide)) hb g (by decide), fun z => (by rw [hv] at z; cases z), fun y hy => ⟨?_, ?_⟩⟩
        · rw [hv] at hy
          rw [← Option.some.inj hy]
          exact hs
        · exact (g 17 (by decide) (by decide)).trans (hq.2 17 (by decide) (by decide))
      all_goals
        intros
        omega
    | [], hw, _, _, _ => exact absurd (show (0 : Nat) = 1 from hw) (by decide)
    | _ :: _ :: _, hw, _, _, _ =>
      have hw : _ + 1 + 1 = 1 := hw
      omega
  | o :: r, S, F1, hq, e69, e70, h0, h1, hc, hs, hS, hw, hv, hn => by
    have hl : (o :: r).length = r.length + 1 := rfl
    rw [hl] at hc h1
    rw [clf_cons] at hc
    have ho := (List.cons.inj hc).1
    have hr := (List.cons.inj hc).2
    have o1 : ((sy_ai F1 49).getD (sy_i F1 71).toInt.toNat 0).toInt = o.1 := by rw [qq_a hq (by decide) (by decide), ← ho]
    have o2 : ((sy_ai F1 50).getD (sy_i F1 71).toInt.toNat 0).toInt = o.2 := by rw [qq_a hq (by decide) (by decide), ← ho]
    obtain ⟨⟨w0, w1, w2⟩, w3, w4⟩ := hw
    have two : 2 ≤ o.1 → 2 ≤ S.length := fun z => (w4 z).1
    have nx : (sy_i F1 71).toInt.toNat + 1 = ((sy_i F1 71).toInt + 1).toNat := by omega
    refine yte_5 (by decide) F1 X1 X2 hq.1 (by omega) (by omega) (by omega) ?_ ?_ ?_ ?_ ?_ ?_ ?_ ?_ ?_ ?_ ?_ ?_ ?_ ?_ ?_ ?_ ?_
    iterate 6
      intros
      first | omega | (have := two (by omega); omega)
    · intro c0 c1 c2
      have := w2 (by omega)
      omega
    · intros; omega
    · intros; omega
    · intros; omega
    · intro c0 c1 c2 c3 c4 c5 F2 hb g a53 e69' i69 e70' i70 e71' i71
      obtain ⟨y, x, S, rfl⟩ := two2 (two (by omega))
      simp only [List.length_cons] at e70 hS
      have n1 : ((sy_i F1 70).toInt + (-1 : Int) - 1).toNat = S.length := by omega
      have n2 : ((sy_i F1 70).toInt + (-1 : Int)).toNat = S.length + 1 := by omega
      have hy : (sy_ai F1 53).getD (S.length + 1) 0 = y := hs.1
      have hx : (sy_ai F1 53).getD S.length 0 = x := hs.2.1
      rw [n1, n2, hy, hx] at a53
      have ev := evR_2 (v := v52 F) (r := r) (a := x) (b := y) (S := S) (o := o) (by omega)
      rw [if_neg (by omega)] at ev
      have eo : opv o.1 x y = x * y := by
        unfold opv
        rw [if_neg (by omega), if_neg (by omega), if_pos (by omega)]
      rw [eo] at ev
      rw [ev] at hv hn
      exact te_L hbb r ((x * y) :: S) F2 (qq_on hq hb g (by decide)) (by omega) (by show _ = ((S.length + 1 : Nat) : Int); omega) (by omega) (by omega) (by rw [e71', ← nx]; exact hr) (by rw [a53]; exact stq_put rfl hs.2.2) (by simp only [List.length_cons]; omega) (w4 (by omega)).2 hv hn
    · intro c0 c1 c2 c3 c4 F2 hb g a53 e69' i69 e70' i70 e71' i71
      obtain ⟨y, x, S, rfl⟩ := two2 (two (by omega))
      simp only [List.length_cons] at e70 hS
      have n1 : ((sy_i F1 70).toInt + (-1 : Int) - 1).toNat = S.length := by omega
      have n2 : ((sy_i F1 70).toInt + (-1 : Int)).toNat = S.length + 1 := by omega
      have hy : (sy_ai F1 53).getD (S.length + 1) 0 = y := hs.1
      have hx : (sy_ai F1 53).getD S.length 0 = x := hs.2.1
      rw [n1, n2, hy, hx] at a53
      have ev := evR_2 (v := v52 F) (r := r) (a := x) (b := y) (S := S) (o := o) (by omega)
      rw [if_neg (by omega)] at ev
      have eo : opv o.1 x y = x - y := by
        unfold opv
        rw [if_neg (by omega), if_pos (by omega)]
      rw [eo] at ev
      rw [ev] at hv hn
      exact te_L hbb r ((x - y) :: S) F2 (qq_on hq hb g (by decide)) (by omega) (by show _ = ((S.length + 1 : Nat) : Int); omega) (by omega) (by omega) (by rw [e71', ← nx]; exact hr) (by rw [a53]; exact stq_put rfl hs.2.2) (by simp only [List.length_cons]; omega) (w4 (by omega)).2 hv hn
    · intro c0 c1 c2 c3 F2 hb g a53 e69' i69 e70' i70 e71' i71
      obtain ⟨y, x, S, rfl⟩ := two2 (two (by omega))
      simp only [List.length_cons] at e70 hS
      have n1 : ((sy_i F1 70).toInt + (-1 : Int) - 1).toNat = S.length := by omega
      have n2 : ((sy_i F1 70).toInt + (-1 : Int)).toNat = S.length + 1 := by omega
      have hy : (sy_ai F1 53).getD (S.length + 1) 0 = y := hs.1
      have hx : (sy_ai F1 53).getD S.length 0 = x := hs.2.1
      rw [n1, n2, hy, hx] at a53
      have ev := evR_2 (v := v52 F) (r := r) (a := x) (b := y) (S := S) (o := o) (by omega)
      rw [if_neg (by omega)] at ev
      have eo : opv o.1 x y = x + y := by
        unfold opv
        rw [if_pos (by omega)]
      rw [eo] at ev
      rw [ev] at hv hn
      exact te_L hbb r ((x + y) :: S) F2 (qq_on hq hb g (by decide)) (by omega) (by show _ = ((S.length + 1 : Nat) : Int); omega) (by omega) (by omega) (by rw [e71', ← nx]; exact hr) (by rw [a53]; exact stq_put rfl hs.2.2) (by simp only [List.length_cons]; omega) (w4 (by omega)).2 hv hn
    · intro c0 c1 c2 c3 c4 c5 c6 F2 hb g a53 e69' i69 e70' i70 e71' i71
      obtain ⟨y, x, S, rfl⟩ := two2 (two (by omega))
      simp only [List.length_cons] at e70 hS
      have n1 : ((sy_i F1 70).toInt + (-1 : Int) - 1).toNat = S.length := by omega
      have n2 : ((sy_i F1 70).toInt + (-1 : Int)).toNat = S.length + 1 := by omega
      have hy : (sy_ai F1 53).getD (S.length + 1) 0 = y := hs.1
      have hx : (sy_ai F1 53).getD S.length 0 = x := hs.2.1
      rw [n2, hy] at c3
      rw [n1, n2, hy, hx] at a53
      have ev := evR_2 (v := v52 F) (r := r) (a := x) (b := y) (S := S) (o := o) (by omega)
      rw [if_neg (fun z => c3 (i0z.mp z.2))] at ev
      have eo : opv o.1 x y = x / y := by
        unfold opv
        rw [if_neg (by omega), if_neg (by omega), if_neg (by omega)]
      rw [eo] at ev
      rw [ev] at hv hn
      exact te_L hbb r ((x / y) :: S) F2 (qq_on hq hb g (by decide)) (by omega) (by show _ = ((S.length + 1 : Nat) : Int); omega) (by omega) (by omega) (by rw [e71', ← nx]; exact hr) (by rw [a53]; exact stq_put rfl hs.2.2) (by simp only [List.length_cons]; omega) (w4 (by omega)).2 hv hn
    · intro c0 c1 c2 c3 F2 hb g e17 i17
      obtain ⟨y, x, S, rfl⟩ := two2 (two (by omega))
      simp only [List.length_cons] at e70 hS
      have n2 : ((sy_i F1 70).toInt + (-1 : Int)).toNat = S.length + 1 := by omega
      have hy : (sy_ai F1 53).getD (S.length + 1) 0 = y := hs.1
      rw [n2, hy] at c3
      have ev := evR_2 (v := v52 F) (r := r) (a := x) (b := y) (S := S) (o := o) (by omega)
      rw [if_pos ⟨by omega, i0z.mpr c3⟩] at ev
      have hn := hn ev
      exact ⟨_, F2, rfl, rfl, qq_on (qq_up hq (by decide)) hb g (by decide), fun _ => e17, fun y hy => (by rw [hn] at hy; cases hy)⟩
    · intro c0 c1 c2 F2 hb g a53 e69' i69 e70' i70 e71' i71
      have k1 : o.1 = 1 := by omega
      have hw3 := w3 (by omega)
      have ev := evR_1 (v := v52 F) (r := r) (S := S) k1
      rw [ev] at hv hn
      rw [o2, qq_a hq (j := 52) (by decide) (by decide)] at a53
      exact te_L hbb r (v52 F o.2.toNat :: S) F2 (qq_on hq hb g (by decide)) (by omega) (by show _ = ((S.length + 1 : Nat) : Int); omega) (by omega) (by omega) (by rw [e71', ← nx]; exact hr) (by rw [a53]; exact stq_put (by omega) hs) (by simp only [List.length_cons]; omega) hw3.2 hv hn
    · intro c0 c1 c2 F2 hb g a53 e69' i69 e70' i70 e71' i71
      have k1 : o.1 = 0 := by omega
      have hw3 := w3 (by omega)
      have ev := evR_0 (v := v52 F) (r := r) (S := S) k1
      rw [ofi o2] at ev
      rw [ev] at hv hn
      exact te_L hbb r (_ :: S) F2 (qq_on hq hb g (by decide)) (by omega) (by show _ = ((S.length + 1 : Nat) : Int); omega) (by omega) (by omega) (by rw [e71', ← nx]; exact hr) (by rw [a53]; exact stq_put (by omega) hs) (by simp only [List.length_cons]; omega) hw3.2 hv hn
theorem te_V (hB : iv_in F iv_B4) {a b : Int32} (h0 : 0 ≤ a.toInt) (hb : b.toInt ≤ 840) {O : List rO} (hO : cut_ F a.toInt b.toInt = O) (hw : wfR O 0 1) : jm_T Ls xs 1 jm_M166 [.ref 1000, .int a, .int b] (sy_dh F X1 X2 (iv_H 4)) 0 0 (pI 4 X1 X2 (teP F O)) := by
  obtain ⟨F0, hF0⟩ : ∃ F0, F0 = nm F (fun j => .inl (.int (if j = 0 then a else b))) := ⟨_, rfl⟩
  have k0 : ∀ j, j < 69 → F0 j = F j := fun j hj => by rw [hF0]; exact nm_lt j hj
  have i69 : sy_i F0 69 = a := by rw [hF0]; rfl
  have i70 : sy_i F0 70 = b := by rw [hF0]; rfl
  refine nm_T F (fun j => .inl (.int (if j = 0 then a else b))) X1 X2 (A := [.inl (.ref 1000), .inr (.inl 69), .inr (.inl 70)]) jm_ok166 (by decide) rfl ?_
  rw [← hF0]
  refine yte_0 (by decide) F0 X1 X2 (hd_iveq hB k0) ?_
  intro F1 hb1 g e69 j69 e70 j70 e71 j71
  have hl : O.length = (b.toInt - a.toInt).toNat := by
    rw [← hO]
    unfold cut_
    have len : ∀ n : Nat, (clf (sy_ai F 49) (sy_ai F 50) a.toInt.toNat n).length = n := fun n => by
      induction n with
      | zero => rfl
      | succ n ih =>
        show (clf _ _ _ n ++ [_]).length = n + 1
        rw [List.length_append, ih]
        rfl
    exact len _
  have hne : O ≠ [] := fun z => by
    rw [z] at hw
    exact absurd (show (0 : Nat) = 1 from hw) (by decide)
  have hpos : 0 < O.length := List.length_pos_iff.mpr hne
  rw [i69] at e71
  rw [i70] at e69
  refine te_L F X1 X2 hb O [] F1 (qq_src (qq_mk hb1 g (by decide)) k0) e69 e70 (by omega) (by omega) ?_ trivial (by decide) hw (fun T hT => ?_) (fun hn => ?_)
  · rw [e71, hl]
    exact hO
  · unfold exV
    rw [hT]
    cases T with
    | nil => rfl
    | cons x S => cases S <;> rfl
  · unfold exV
    rw [hn]
end TE
/-! ===== the reference: a law ===== -/
theorem cut_F {F F1 : Nat → sy_d} {x y : Int} (h49 : sy_ai F1 49 = sy_ai F 49) (h50 : sy_ai F1 50 = sy_ai F 50) : cut_ F1 x y = cut_ F x y := by
  unfold cut_
  rw [h49, h50]
theorem v52_F {F F1 : Nat → sy_d} (h : sy_ai F1 52 = sy_ai F 52) : v52 F1 = v52 F := by
  unfold v52
  rw [h]
section LT
variable {Ls : Nat} {xs : Nat → Int32} (F : Nat → sy_d) (X1 X2 : List jm_c)
theorem lv_97 {w : List rO} (F1 : Nat → sy_d) (hq : qR [17, 53] F F1) (h17 : (sy_i F1 17).toInt = 0) (h0 : 0 ≤ (sy_i F1 71).toInt) (h8 : (sy_i F1 72).toInt ≤ 840) (hw : wfR w 0 1) (hc : cut_ F (sy_i F1 71).toInt (sy_i F1 72).toInt = w) : hd_W Ls xs 2 jm_M180 (pI 4 X1 X2 (fun x F' => qR [17, 53] F F' ∧ x = (exV (v52 F) w).getD 0)) (97, sy_dL F1 [some (.inl (.ref 1000)), some (.inr (.inl 69)), some (.inr (.inl 70)), none, none], sy_dS F1 [.inr (.inl 72), .inr (.inl 71), .inl (.ref 1000)], sy_dh F1 X1 X2 (iv_H 4), 0, 0) := by
  have hc1 : cut_ F1 (sy_i F1 71).toInt (sy_i F1 72).toInt = w := (cut_F (qq_a hq (by decide) (by decide)) (qq_a hq (by decide) (by decide))).trans hc
  have ev : v52 F1 = v52 F := v52_F (qq_a hq (by decide) (by decide))
  refine hd_calI (R := teP F1 w) (nh := 69) (nv := 71) (s := 4) (s1 := 4) (d1 := 1) (M1 := jm_M166) (As := [.inl (.ref 1000), .inr (.inl 71), .inr (.inl 72)]) (rest := []) jm_ok180 rfl rfl (by decide) (by decide +kernel) (te_V F1 X1 X2 hq.1 h0 h8 hc1 hw) (fun F3 F' x hR p1 p2 p3 => ?_)
  obtain ⟨r1, r2, r3⟩ := hR
  rw [ev] at r2 r3
  have q3 := qq_trans hq (qR_dst r1 p1)
  have i17 : (sy_i F3 17).toInt = (sy_i F' 17).toInt := nz_fi (p1 17 (by decide))
  have i71 : sy_i F3 71 = x := zz_i p3
  refine ylt_100 (by decide) F3 X1 X2 q3.1 ?_ ?_
  · intro c0 F4 hb g
    refine ⟨_, F4, rfl, rfl, qq_on q3 hb g (by decide), ?_⟩
    cases he : exV (v52 F) w with
    | none =>
      have := r2 he
      omega
    | some y =>
      rw [i71]
      exact (r3 y he).1
  · intro c0 F4 hb g
    refine ⟨_, F4, rfl, rfl, qq_on q3 hb g (by decide), ?_⟩
    cases he : exV (v52 F) w with
    | none => rfl
    | some y =>
      have := nz_fi (r3 y he).2
      omega
theorem lv_L (hB : iv_in F iv_B4) {A : Int} (hA : 0 ≤ A ∧ A ≤ 11) : ∀ (l : List bRT) (F1 : Nat → sy_d), qR [17, 53] F F1 → (sy_i F1 17).toInt = 0 → (sy_i F1 69).toInt = A → 0 ≤ (sy_i F1 70).toInt → (sy_i F1 70).toInt + l.length = ix F 43 A.toNat → bL F (sy_i F1 70).toInt.toNat l.length = l → (∀ b ∈ l, wfB b) →
    hd_W Ls xs 2 jm_M180 (pI 4 X1 X2 (fun x F' => qR [17, 53] F F' ∧ x = lwV (v52 F) l)) (12, sy_dL F1 [some (.inl (.ref 1000)), some (.inr (.inl 69)), some (.inr (.inl 70)), none, none], sy_dS F1 [], sy_dh F1 X1 X2 (iv_H 4), 0, 0)
  | [], F1, hq, h17, e69, h0, hl, _, _ => by
    have b43 := nz_ba hB (k := 43) (lo := 0) (hi := 260) rfl A.toNat
    have hl : (sy_i F1 70).toInt + ((0 : Nat) : Int) = ((sy_ai F 43).getD A.toNat 0).toInt := hl
    have e43 : ((sy_ai F1 43).getD (sy_i F1 69).toInt.toNat 0).toInt = ((sy_ai F 43).getD A.toNat 0).toInt := by rw [e69, qq_a hq (by decide) (by decide)]
    refine ylt_12 (by decide) F1 X1 X2 hq.1 (by omega) (by omega) ?_ ?_ ?_
    · intro c0 F2 hb g
      exact ⟨_, F2, rfl, rfl, qq_on hq hb g (by decide), rfl⟩
    · intros
      omega
    · intros
      omega
  | br :: r, F1, hq, h17, e69, h0, hl, hbl, hw => by
    have b43 := nz_ba hB (k := 43) (lo := 0) (hi := 260) rfl A.toNat
    have hll : (br :: r).length = r.length + 1 := rfl
    rw [hll] at hl hbl
    have hl : (sy_i F1 70).toInt + ((r.length + 1 : Nat) : Int) = ((sy_ai F 43).getD A.toNat 0).toInt := hl
    rw [bL_cons] at hbl
    have hbr := (List.cons.inj hbl).1
    have hr := (List.cons.inj hbl).2
    have e43 : ((sy_ai F1 43).getD (sy_i F1 69).toInt.toNat 0).toInt = ((sy_ai F 43).getD A.toNat 0).toInt := by rw [e69, qq_a hq (by decide) (by decide)]
    have e44 : ((sy_ai F1 44).getD (sy_i F1 70).toInt.toNat 0) = (sy_ai F 44).getD (sy_i F1 70).toInt.toNat 0 := by rw [qq_a hq (by decide) (by decide)]
    have e45 : ((sy_ai F1 45).getD (sy_i F1 70).toInt.toNat 0).toInt = ix F 45 (sy_i F1 70).toInt.toNat := by rw [qq_a hq (by decide) (by decide)]; rfl
    have e46 : ((sy_ai F1 46).getD (sy_i F1 70).toInt.toNat 0).toInt = ix F 46 (sy_i F1 70).toInt.toNat := by rw [qq_a hq (by decide) (by decide)]; rfl
    have e47 : ((sy_ai F1 47).getD (sy_i F1 70).toInt.toNat 0).toInt = ix F 47 (sy_i F1 70).toInt.toNat := by rw [qq_a hq (by decide) (by decide)]; rfl
    have e48 : ((sy_ai F1 48).getD (sy_i F1 70).toInt.toNat 0).toInt = ix F 48 (sy_i F1 70).toInt.toNat := by rw [qq_a hq (by decide) (by decide)]; rfl
    have b44 := nz_ba hB (k := 44) (lo := 0) (hi := 1) rfl (sy_i F1 70).toInt.toNat
    have b45 := nz_ba hB (k := 45) (lo := 0) (hi := 840) rfl (sy_i F1 70).toInt.toNat
    have b46 := nz_ba hB (k := 46) (lo := 0) (hi := 840) rfl (sy_i F1 70).toInt.toNat
    have b47 := nz_ba hB (k := 47) (lo := 0) (hi := 840) rfl (sy_i F1 70).toInt.toNat
    have b48 := nz_ba hB (k := 48) (lo := 0) (hi := 840) rfl (sy_i F1 70).toInt.toNat
    have b45 : 0 ≤ ix F 45 (sy_i F1 70).toInt.toNat ∧ ix F 45 (sy_i F1 70).toInt.toNat ≤ 840 := b45
    have b46 : 0 ≤ ix F 46 (sy_i F1 70).toInt.toNat ∧ ix F 46 (sy_i F1 70).toInt.toNat ≤ 840 := b46
    have b47 : 0 ≤ ix F 47 (sy_i F1 70).toInt.toNat ∧ ix F 47 (sy_i F1 70).toInt.toNat ≤ 840 := b47
    have b48 : 0 ≤ ix F 48 (sy_i F1 70).toInt.toNat ∧ ix F 48 (sy_i F1 70).toInt.toNat ≤ 840 := b48
    obtain ⟨ww, wt⟩ := hw br List.mem_cons_self
    have hwr : ∀ b ∈ r, wfB b := fun b hb => hw b (List.mem_cons_of_mem _ hb)
    rw [← hbr] at ww wt ⊢
    refine ylt_12 (by decide) F1 X1 X2 hq.1 (by omega) (by omega) ?_ ?_ ?_
    · intros
      omega
    · intro c0 c1 F2 hb g e69' i69 e70' i70 e71 i71 e72 i72
      have hn : ¬ ((sy_ai F 44).getD (sy_i F1 70).toInt.toNat 0 = 1) := fun z => by
        rw [e44, z] at c1
        exact absurd c1 (by decide)
      refine hd_W_mono (lv_97 F X1 X2 (w := cut_ F (ix F 47 (sy_i F1 70).toInt.toNat) (ix F 48 (sy_i F1 70).toInt.toNat)) F2 (qq_on hq hb g (by decide)) ?_ (by omega) (by omega) ww (by rw [e71, e72, e47, e48])) ?_
      · rw [nz_fi (g 17 (by decide) (by decide))]
        exact h17
      · rintro v G ⟨x, F', rfl, rfl, h1, h2⟩
        refine ⟨x, F', rfl, rfl, h1, ?_⟩
        rw [h2]
        unfold bq
        rw [if_neg hn]
        rfl
    · intro c0 c1 F2 hb g e69' i69 e70' i70 e71 i71 e72 i72
      have hn : (sy_ai F 44).getD (sy_i F1 70).toInt.toNat 0 = 1 := i1z.mpr (by rw [e44] at c1; omega)
      have q2 := qq_on (W' := [17, 53]) hq hb g (by decide)
      obtain ⟨B, hBd⟩ : ∃ B : Nat, B = (sy_i F1 70).toInt.toNat := ⟨_, rfl⟩
      rw [← hBd] at e45 e46 e47 e48 b45 b46 b47 b48 ww wt hr hn e71 e72
      have ebq : bq F B = (some (cut_ F (ix F 45 B) (ix F 46 B), cut_ F (ix F 46 B) (ix F 47 B)), cut_ F (ix F 47 B) (ix F 48 B)) := by
        unfold bq
        rw [if_pos hn]
      rw [← hBd, ebq]
      rw [ebq] at ww wt
      obtain ⟨wu, wq⟩ := wt _ _ rfl
      have ev2 : v52 F2 = v52 F := v52_F (qq_a q2 (by decide) (by decide))
      refine hd_calI (R := teP F2 (cut_ F (ix F 45 B) (ix F 46 B))) (nh := 69) (nv := 71) (s := 4) (s1 := 4) (d1 := 1) (M1 := jm_M166) (As := [.inl (.ref 1000), .inr (.inl 71), .inr (.inl 72)]) (rest := []) jm_ok180 rfl rfl (by decide) (by decide +kernel) (te_V F2 X1 X2 q2.1 (by omega) (by omega) (by rw [e71, e72, e45, e46]; exact cut_F (qq_a q2 (by decide) (by decide)) (qq_a q2 (by decide) (by decide))) wu) (fun F3 F' x hR p1 p2 p3 => ?_)
      obtain ⟨r1, r2, r3⟩ := hR
      rw [ev2] at r2 r3
      have q3 := qq_trans q2 (qR_dst r1 p1)
      have i17 : (sy_i F3 17).toInt = (sy_i F' 17).toInt := nz_fi (p1 17 (by decide))
      have i17b : (sy_i F2 17).toInt = 0 := by rw [nz_fi (g 17 (by decide) (by decide))]; exact h17
      have j71 : sy_i F3 71 = x := zz_i p3
      have j70 : (sy_i F3 70).toInt = (sy_i F1 70).toInt := by rw [nz_fi (p2 70 (by decide) (by decide))]; exact e70'
      have j69 : (sy_i F3 69).toInt = A := by rw [nz_fi (p2 69 (by decide) (by decide)), e69']; exact e69
      have f46 : ((sy_ai F3 46).getD (sy_i F3 70).toInt.toNat 0).toInt = ix F 46 B := by rw [qq_a q3 (by decide) (by decide), j70, hBd]; rfl
      have f47 : ((sy_ai F3 47).getD (sy_i F3 70).toInt.toNat 0).toInt = ix F 47 B := by rw [qq_a q3 (by decide) (by decide), j70, hBd]; rfl
      refine ylt_47 (by decide) F3 X1 X2 q3.1 (by omega) ?_
      intro F4 hb4 g4 e69'' i69' e70'' i70' e71' i71' e72' i72' e73' i73'
      have q4' := qq_on (W' := [17, 53]) q3 hb4 g4 (by decide)
      have ev4 : v52 F4 = v52 F := v52_F (qq_a q4' (by decide) (by decide))
      refine hd_calI (R := teP F4 (cut_ F (ix F 46 B) (ix F 47 B))) (nh := 69) (nv := 72) (s := 4) (s1 := 4) (d1 := 1) (M1 := jm_M166) (As := [.inl (.ref 1000), .inr (.inl 72), .inr (.inl 73)]) (rest := []) jm_ok180 rfl rfl (by decide) (by decide +kernel) (te_V F4 X1 X2 q4'.1 (by omega) (by omega) (by rw [e72', e73', f46, f47]; exact cut_F (qq_a q4' (by decide) (by decide)) (qq_a q4' (by decide) (by decide))) wq) (fun F5 F6 y hR2 r1' r2' r3' => ?_)
      obtain ⟨s1, s2, s3⟩ := hR2
      rw [ev4] at s2 s3
      have q5 := qq_trans q4' (qR_dst s1 r1')
      have k17 : (sy_i F5 17).toInt = (sy_i F6 17).toInt := nz_fi (r1' 17 (by decide))
      have l17 : (sy_i F4 17).toInt = (sy_i F3 17).toInt := nz_fi (g4 17 (by decide) (by decide))
      have k72 : sy_i F5 72 = y := zz_i r3'
      have k71 : sy_i F5 71 = x := by rw [eI (r2' 71 (by decide) (by decide)), i71']; exact j71
      have k70 : (sy_i F5 70).toInt = (sy_i F1 70).toInt := by rw [nz_fi (r2' 70 (by decide) (by decide)), e70'']; exact j70
      have k69 : (sy_i F5 69).toInt = A := by rw [nz_fi (r2' 69 (by decide) (by decide)), e69'']; exact j69
      have g47 : ((sy_ai F5 47).getD (sy_i F5 70).toInt.toNat 0).toInt = ix F 47 B := by rw [qq_a q5 (by decide) (by decide), k70, hBd]; rfl
      have g48 : ((sy_ai F5 48).getD (sy_i F5 70).toInt.toNat 0).toInt = ix F 48 B := by rw [qq_a q5 (by decide) (by decide), k70, hBd]; rfl
      have h17i : (sy_i F5 17).toInt = 0 → ∃ a b, exV (v52 F) (cut_ F (ix F 45 B) (ix F 46 B)) = some a ∧ exV (v52 F) (cut_ F (ix F 46 B) (ix F 47 B)) = some b ∧ x = a ∧ y = b := fun z => by
        cases hq2 : exV (v52 F) (cut_ F (ix F 46 B) (ix F 47 B)) with
        | none =>
          have := s2 hq2
          omega
        | some b =>
          obtain ⟨y1, y2⟩ := s3 b hq2
          have y2 := nz_fi y2
          cases hu : exV (v52 F) (cut_ F (ix F 45 B) (ix F 46 B)) with
          | none =>
            have := r2 hu
            omega
          | some a => exact ⟨a, b, rfl, rfl, (r3 a hu).1, y1⟩
      have h17n : (sy_i F5 17).toInt ≠ 0 → exV (v52 F) (cut_ F (ix F 45 B) (ix F 46 B)) = none ∨ exV (v52 F) (cut_ F (ix F 46 B) (ix F 47 B)) = none := fun z => by
        cases hu : exV (v52 F) (cut_ F (ix F 45 B) (ix F 46 B)) with
        | none => exact Or.inl rfl
        | some a =>
          cases hq2 : exV (v52 F) (cut_ F (ix F 46 B) (ix F 47 B)) with
          | none => exact Or.inr rfl
          | some b =>
            have y1 := nz_fi (r3 a hu).2
            have y2 := nz_fi (s3 b hq2).2
            exact absurd (show (sy_i F5 17).toInt = 0 by omega) z
      refine ylt_64 (by decide) F5 X1 X2 q5.1 (by omega) ?_ ?_ ?_
      · intro c2 c3 F7 hb7 g7 e69a i69a e70a i70a e71a i71a e72a i72a
        obtain ⟨a, b, ha, hb', hxa, hyb⟩ := h17i c2
        refine hd_W_mono (lv_97 F X1 X2 (w := cut_ F (ix F 47 B) (ix F 48 B)) F7 (qq_on q5 hb7 g7 (by decide)) ?_ (by omega) (by omega) ww (by rw [e71a, e72a, g47, g48])) ?_
        · rw [nz_fi (g7 17 (by decide) (by decide))]
          exact c2
        · rintro v G ⟨x', F', rfl, rfl, h1, h2⟩
          refine ⟨x', F', rfl, rfl, h1, ?_⟩
          have hab : a.toInt < b.toInt := by rw [← hxa, ← hyb, ← k71, ← k72]; exact c3
          rw [h2, lwV_s ha hb', if_pos hab]
      · intro c2 c3 F7 hb7 g7 e69a i69a e70a i70a
        obtain ⟨a, b, ha, hb', hxa, hyb⟩ := h17i c2
        refine hd_W_mono (lv_L hB hA r F7 (qq_on q5 hb7 g7 (by decide)) ?_ (by omega) (by omega) ?_ ?_ hwr) ?_
        · rw [nz_fi (g7 17 (by decide) (by decide))]
          exact c2
        · show _ = ((sy_ai F 43).getD A.toNat 0).toInt
          omega
        · rw [e70a, k70, show ((sy_i F1 70).toInt + 1).toNat = B + 1 by omega]
          exact hr
        · rintro v G ⟨x', F', rfl, rfl, h1, h2⟩
          refine ⟨x', F', rfl, rfl, h1, ?_⟩
          have hab : ¬ a.toInt < b.toInt := by rw [← hxa, ← hyb, ← k71, ← k72]; omega
          rw [h2, lwV_s ha hb', if_neg hab]
      · intro c2 F7 hb7 g7
        exact ⟨_, F7, rfl, rfl, qq_on q5 hb7 g7 (by decide), (lwV_0 (h17n c2)).symm⟩
end LT
end
section
/-! ===== the reference: what is asked by the laws, way by way ===== -/
theorem ywb_0_p0 {Ls : Nat} {xs : Nat → Int32} {d : Nat} {Q : Option Value → jm_h → Prop} (hd : 2 ≤ d) (F : Nat → sy_d) (X1 X2 : List jm_c) (hB : iv_in F iv_B4)
    (k : ∀ F1 : Nat → sy_d, (∀ j, j < 69 → j ≠ 52 → F1 j = F j) → F1 52 = .inr (.inl (jm_upd (jm_upd (jm_upd (jm_upd (jm_upd (jm_upd (jm_upd (jm_upd (jm_upd (jm_upd (jm_upd (sy_ai F 52) ((0 : Int32)).toNatClampNeg ((0 : Int32))) ((1 : Int32)).toNatClampNeg ((0 : Int32))) ((2 : Int32)).toNatClampNeg ((0 : Int32))) ((3 : Int32)).toNatClampNeg ((0 : Int32))) ((4 : Int32)).toNatClampNeg ((0 : Int32))) ((5 : Int32)).toNatClampNeg ((0 : Int32))) ((6 : Int32)).toNatClampNeg ((0 : Int32))) ((7 : Int32)).toNatClampNeg ((0 : Int32))) ((8 : Int32)).toNatClampNeg ((0 : Int32))) ((2 : Int32)).toNatClampNeg (sy_i F 69)) ((8 : Int32)).toNatClampNeg (sy_i F 70))) → hd_W Ls xs d jm_M181 Q (12, sy_dL F1 [some (.inl (.ref 1000)), none, none], sy_dS F1 [.inl (.int 9), .inl (.int 0), .inl (.int 0), .inl (.int 0), .inl (.ref 1000)], sy_dh F1 X1 X2 (iv_H 4), 0, 0)) :
    hd_W Ls xs d jm_M181 Q (0, sy_dL F [some (.inl (.ref 1000)), some (.inr (.inl 69)), some (.inr (.inl 70))], sy_dS F [], sy_dh F X1 X2 (iv_H 4), 0, 0) := by
  refine hd_run (s := 4) (nv := 71) (pc := 12) (L := [some (.inl (.ref 1000)), none, none]) (S := [.inl (.int 9), .inl (.int 0), .inl (.int 0), .inl (.int 0), .inl (.ref 1000)]) (uh := hd_ov (iv_id 0 iv_B4) [(52, .inr (.inr (.inl 81)))]) (ul := []) (f := true) (sp := [12]) (d0 := 1) (O := []) (T := [(40, [.inl (.int 0), .inl (.int 0)], [.inr (.inl 52)]), (40, [.inl (.int 1), .inl (.int 0)], [.inr (.inl 71)]), (40, [.inl (.int 2), .inl (.int 0)], [.inr (.inl 72)]), (40, [.inl (.int 3), .inl (.int 0)], [.inr (.inl 73)]), (40, [.inl (.int 4), .inl (.int 0)], [.inr (.inl 74)]), (40, [.inl (.int 5), .inl (.int 0)], [.inr (.inl 75)]), (40, [.inl (.int 6), .inl (.int 0)], [.inr (.inl 76)]), (40, [.inl (.int 7), .inl (.int 0)], [.inr (.inl 77)]), (40, [.inl (.int 8), .inl (.int 0)], [.inr (.inl 78)]), (40, [.inl (.int 2), .inr (.inl 69)], [.inr (.inl 79)]), (40, [.inl (.int 8), .inr (.inl 70)], [.inr (.inl 80)])]) (P := []) jm_ok181 (by decide +kernel) (by decide +kernel) hd F X1 X2 (fun F' hF hs => ?_)
  have b70 := hd_b (F := F) (F' := F') (k := 70) (hF 70 (by decide))
  have b69 := hd_b (F := F) (F' := F') (k := 69) (hF 69 (by decide))
  have a52 := hd_ba (F := F) (F' := F') (k := 52) (hF 52 (by decide))
  have t71 : sy_da F' (.inr (.inl 71)) = .inl (jm_upd (sy_ai F 52) ((0 : Int32)).toNatClampNeg ((0 : Int32))) := hd_up (hs 0 _ rfl) rfl rfl a52
  have t72 : sy_da F' (.inr (.inl 72)) = .inl (jm_upd (jm_upd (sy_ai F 52) ((0 : Int32)).toNatClampNeg ((0 : Int32))) ((1 : Int32)).toNatClampNeg ((0 : Int32))) := hd_up (hs 1 _ rfl) rfl rfl t71
  have t73 : sy_da F' (.inr (.inl 73)) = .inl (jm_upd (jm_upd (jm_upd (sy_ai F 52) ((0 : Int32)).toNatClampNeg ((0 : Int32))) ((1 : Int32)).toNatClampNeg ((0 : Int32))) ((2 : Int32)).toNatClampNeg ((0 : Int32))) := hd_up (hs 2 _ rfl) rfl rfl t72
  have t74 : sy_da F' (.inr (.inl 74)) = .inl (jm_upd (jm_upd (jm_upd (jm_upd (sy_ai F 52) ((0 : Int32)).toNatClampNeg ((0 : Int32))) ((1 : Int32)).toNatClampNeg ((0 : Int32))) ((2 : Int32)).toNatClampNeg ((0 : Int32))) ((3 : Int32)).toNatClampNeg ((0 : Int32))) := hd_up (hs 3 _ rfl) rfl rfl t73
  have t75 : sy_da F' (.inr (.inl 75)) = .inl (jm_upd (jm_upd (jm_upd (jm_upd (jm_upd (sy_ai F 52) ((0 : Int32)).toNatClampNeg ((0 : Int32))) ((1 : Int32)).toNatClampNeg ((0 : Int32))) ((2 : Int32)).toNatClampNeg ((0 : Int32))) ((3 : Int32)).toNatClampNeg ((0 : Int32))) ((4 : Int32)).toNatClampNeg ((0 : Int32))) := hd_up (hs 4 _ rfl) rfl rfl t74
  have t76 : sy_da F' (.inr (.inl 76)) = .inl (jm_upd (jm_upd (jm_upd (jm_upd (jm_upd (jm_upd (sy_ai F 52) ((0 : Int32)).toNatClampNeg ((0 : Int32))) ((1 : Int32)).toNatClampNeg ((0 : Int32))) ((2 : Int32)).toNatClampNeg ((0 : Int32))) ((3 : Int32)).toNatClampNeg ((0 : Int32))) ((4 : Int32)).toNatClampNeg ((0 : Int32))) ((5 : Int32)).toNatClampNeg ((0 : Int32))) := hd_up (hs 5 _ rfl) rfl rfl t75
  have t77 : sy_da F' (.inr (.inl 77)) = .inl (jm_upd (jm_upd (jm_upd (jm_upd (jm_upd (jm_upd (jm_upd (sy_ai F 52) ((0 : Int32)).toNatClampNeg ((0 : Int32))) ((1 : Int32)).toNatClampNeg ((0 : Int32))) ((2 : Int32)).toNatClampNeg ((0 : Int32))) ((3 : Int32)).toNatClampNeg ((0 : Int32))) ((4 : Int32)).toNatClampNeg ((0 : Int32))) ((5 : Int32)).toNatClampNeg ((0 : Int32))) ((6 : Int32)).toNatClampNeg ((0 : Int32))) := hd_up (hs 6 _ rfl) rfl rfl t76
  have t78 : sy_da F' (.inr (.inl 78)) = .inl (jm_upd (jm_upd (jm_upd (jm_upd (jm_upd (jm_upd (jm_upd (jm_upd (sy_ai F 52) ((0 : Int32)).toNatClampNeg ((0 : Int32))) ((1 : Int32)).toNatClampNeg ((0 : Int32))) ((2 : Int32)).toNatClampNeg ((0 : Int32))) ((3 : Int32)).toNatClampNeg ((0 : Int32))) ((4 : Int32)).toNatClampNeg ((0 : Int32))) ((5 : Int32)).toNatClampNeg ((0 : Int32))) ((6 : Int32)).toNatClampNeg ((0 : Int32))) ((7 : Int32)).toNatClampNeg ((0 : Int32))) := hd_up (hs 7 _ rfl) rfl rfl t77
  have t79 : sy_da F' (.inr (.inl 79)) = .inl (jm_upd (jm_upd (jm_upd (jm_upd (jm_upd (jm_upd (jm_upd (jm_upd (jm_upd (sy_ai F 52) ((0 : Int32)).toNatClampNeg ((0 : Int32))) ((1 : Int32)).toNatClampNeg ((0 : Int32))) ((2 : Int32)).toNatClampNeg ((0 : Int32))) ((3 : Int32)).toNatClampNeg ((0 : Int32))) ((4 : Int32)).toNatClampNeg ((0 : Int32))) ((5 : Int32)).toNatClampNeg ((0 : Int32))) ((6 : Int32)).toNatClampNeg ((0 : Int32))) ((7 : Int32)).toNatClampNeg ((0 : Int32))) ((8 : Int32)).toNatClampNeg ((0 : Int32))) := hd_up (hs 8 _ rfl) rfl rfl t78
  have t80 : sy_da F' (.inr (.inl 80)) = .inl (jm_upd (jm_upd (jm_upd (jm_upd (jm_upd (jm_upd (jm_upd (jm_upd (jm_upd (jm_upd (sy_ai F 52) ((0 : Int32)).toNatClampNeg ((0 : Int32))) ((1 : Int32)).toNatClampNeg ((0 : Int32))) ((2 : Int32)).toNatClampNeg ((0 : Int32))) ((3 : Int32)).toNatClampNeg ((0 : Int32))) ((4 : Int32)).toNatClampNeg ((0 : Int32))) ((5 : Int32)).toNatClampNeg ((0 : Int32))) ((6 : Int32)).toNatClampNeg ((0 : Int32))) ((7 : Int32)).toNatClampNeg ((0 : Int32))) ((8 : Int32)).toNatClampNeg ((0 : Int32))) ((2 : Int32)).toNatClampNeg (sy_i F 69)) := hd_up (hs 9 _ rfl) rfl b69 t79
  have t81 : sy_da F' (.inr (.inl 81)) = .inl (jm_upd (jm_upd (jm_upd (jm_upd (jm_upd (jm_upd (jm_upd (jm_upd (jm_upd (jm_upd (jm_upd (sy_ai F 52) ((0 : Int32)).toNatClampNeg ((0 : Int32))) ((1 : Int32)).toNatClampNeg ((0 : Int32))) ((2 : Int32)).toNatClampNeg ((0 : Int32))) ((3 : Int32)).toNatClampNeg ((0 : Int32))) ((4 : Int32)).toNatClampNeg ((0 : Int32))) ((5 : Int32)).toNatClampNeg ((0 : Int32))) ((6 : Int32)).toNatClampNeg ((0 : Int32))) ((7 : Int32)).toNatClampNeg ((0 : Int32))) ((8 : Int32)).toNatClampNeg ((0 : Int32))) ((2 : Int32)).toNatClampNeg (sy_i F 69)) ((8 : Int32)).toNatClampNeg (sy_i F 70)) := hd_up (hs 10 _ rfl) rfl b70 t80
  have hB' : iv_in F' iv_B4 := iv_in_eq hB (fun j hj => hF j (Nat.lt_of_lt_of_le hj (by decide +kernel)))
  refine ⟨fun _ h => absurd h List.not_mem_nil, ?_⟩
  refine k _ ?_ ?_
  · exact fun j hj hn => (hd_keep hB' (Nat.lt_of_lt_of_le hj (by decide +kernel)) (by simp; omega)).trans (hF j (Nat.lt_of_lt_of_le hj (by decide)))
  · exact hd_ga (a := .inr (.inl 81)) (by decide +kernel) t81
theorem ywb_0 {Ls : Nat} {xs : Nat → Int32} {d : Nat} {Q : Option Value → jm_h → Prop} (hd : 2 ≤ d) (F : Nat → sy_d) (X1 X2 : List jm_c) (hB : iv_in F iv_B4)
    (k0 : ∀ F1 : Nat → sy_d, iv_in F1 iv_B4 → (∀ j, j < 69 → j ∉ ([52] : List Nat) → F1 j = F j) → sy_ai F1 52 = jm_upd (jm_upd (jm_upd (jm_upd (jm_upd (jm_upd (jm_upd (jm_upd (jm_upd (jm_upd (jm_upd (sy_ai F 52) (0 : Int).toNat ((0 : Int32))) (1 : Int).toNat ((0 : Int32))) (2 : Int).toNat ((0 : Int32))) (3 : Int).toNat ((0 : Int32))) (4 : Int).toNat ((0 : Int32))) (5 : Int).toNat ((0 : Int32))) (6 : Int).toNat ((0 : Int32))) (7 : Int).toNat ((0 : Int32))) (8 : Int).toNat ((0 : Int32))) (2 : Int).toNat (sy_i F 69)) (8 : Int).toNat (sy_i F 70) → hd_W Ls xs d jm_M181 Q (12, sy_dL F1 [some (.inl (.ref 1000)), none, none], sy_dS F1 [.inl (.int 9), .inl (.int 0), .inl (.int 0), .inl (.int 0), .inl (.ref 1000)], sy_dh F1 X1 X2 (iv_H 4), 0, 0)) :
    hd_W Ls xs d jm_M181 Q (0, sy_dL F [some (.inl (.ref 1000)), some (.inr (.inl 69)), some (.inr (.inl 70))], sy_dS F [], sy_dh F X1 X2 (iv_H 4), 0, 0) := by
  have w81 : jm_upd (jm_upd (jm_upd (jm_upd (jm_upd (jm_upd (jm_upd (jm_upd (jm_upd (jm_upd (jm_upd (sy_ai F 52) ((0 : Int32)).toNatClampNeg ((0 : Int32))) ((1 : Int32)).toNatClampNeg ((0 : Int32))) ((2 : Int32)).toNatClampNeg ((0 : Int32))) ((3 : Int32)).toNatClampNeg ((0 : Int32))) ((4 : Int32)).toNatClampNeg ((0 : Int32))) ((5 : Int32)).toNatClampNeg ((0 : Int32))) ((6 : Int32)).toNatClampNeg ((0 : Int32))) ((7 : Int32)).toNatClampNeg ((0 : Int32))) ((8 : Int32)).toNatClampNeg ((0 : Int32))) ((2 : Int32)).toNatClampNeg (sy_i F 69)) ((8 : Int32)).toNatClampNeg (sy_i F 70) = jm_upd (jm_upd (jm_upd (jm_upd (jm_upd (jm_upd (jm_upd (jm_upd (jm_upd (jm_upd (jm_upd (sy_ai F 52) (0 : Int).toNat ((0 : Int32))) (1 : Int).toNat ((0 : Int32))) (2 : Int).toNat ((0 : Int32))) (3 : Int).toNat ((0 : Int32))) (4 : Int).toNat ((0 : Int32))) (5 : Int).toNat ((0 : Int32))) (6 : Int).toNat ((0 : Int32))) (7 : Int).toNat ((0 : Int32))) (8 : Int).toNat ((0 : Int32))) (2 : Int).toNat (sy_i F 69)) (8 : Int).toNat (sy_i F 70) := by simp only [nz_c, (by decide : ((0 : Int32)).toInt = 0), (by decide : ((1 : Int32)).toInt = 1), (by decide : ((2 : Int32)).toInt = 2), (by decide : ((3 : Int32)).toInt = 3), (by decide : ((4 : Int32)).toInt = 4), (by decide : ((5 : Int32)).toInt = 5), (by decide : ((6 : Int32)).toInt = 6), (by decide : ((7 : Int32)).toInt = 7), (by decide : ((8 : Int32)).toInt = 8)]
  exact ywb_0_p0 hd F X1 X2 hB  (fun F1 g e52 => k0 F1 (nz_in hB [52] (fun j hj hn => g j hj (by simp only [List.mem_cons, List.not_mem_nil, or_false, not_or] at hn; omega)) (List.forall_mem_cons.mpr ⟨fun t ht => (Option.some.inj ht) ▸ (nz_hz2 e52), List.forall_mem_nil _⟩)) (fun j hj hn => g j hj (by simp only [List.mem_cons, List.not_mem_nil, or_false, not_or] at hn; omega)) ((zz_ai e52).trans w81))
theorem ywb_15_p0 {Ls : Nat} {xs : Nat → Int32} {d : Nat} {Q : Option Value → jm_h → Prop} (hd : 1 ≤ d) (F : Nat → sy_d) (X1 X2 : List jm_c) (hB : iv_in F iv_B4)
    (k : ∀ F1 : Nat → sy_d, (∀ j, j < 69 → True → F1 j = F j) → Q (some (.int (sy_i F 69))) (sy_dh F1 X1 X2 (iv_H 4))) :
    hd_W Ls xs d jm_M181 Q (15, sy_dL F [some (.inl (.ref 1000)), none, none], sy_dS F [.inr (.inl 69)], sy_dh F X1 X2 (iv_H 4), 0, 0) := by
  refine hd_ret (s := 4) (nv := 70) (v := some (.inr (.inl 69))) (uh := hd_ov (iv_id 0 iv_B4) []) (f := false) (sp := []) (d0 := 0) (O := []) (T := []) (P := []) jm_ok181 (by decide +kernel) (by decide +kernel) hd F X1 X2 (fun F' hF hs => ?_)
  have b69 := hd_b (F := F) (F' := F') (k := 69) (hF 69 (by decide))
  have hB' : iv_in F' iv_B4 := iv_in_eq hB (fun j hj => hF j (Nat.lt_of_lt_of_le hj (by decide +kernel)))
  have hk := k (sy_cm F' (hd_ov (iv_id 0 iv_B4) [] ++ [])) (fun j hj _ => (hd_keep hB' (Nat.lt_of_lt_of_le hj (by decide +kernel)) (by simp)).trans (hF j (Nat.lt_of_lt_of_le hj (by decide))))
  refine ⟨fun _ h => absurd h List.not_mem_nil, ?_⟩
  show Q (some (sy_dv F' (.inr (.inl 69)))) _
  rw [b69]
  exact hk
theorem ywb_15 {Ls : Nat} {xs : Nat → Int32} {d : Nat} {Q : Option Value → jm_h → Prop} (hd : 1 ≤ d) (F : Nat → sy_d) (X1 X2 : List jm_c) (hB : iv_in F iv_B4)
    (k0 : ∀ F1 : Nat → sy_d, iv_in F1 iv_B4 → (∀ j, j < 69 → j ∉ ([] : List Nat) → F1 j = F j) → Q (some (.int (sy_i F 69))) (sy_dh F1 X1 X2 (iv_H 4))) :
    hd_W Ls xs d jm_M181 Q (15, sy_dL F [some (.inl (.ref 1000)), none, none], sy_dS F [.inr (.inl 69)], sy_dh F X1 X2 (iv_H 4), 0, 0) := by
  exact ywb_15_p0 hd F X1 X2 hB  (fun F1 g  => by rw [(rfl : sy_i F 69 = sy_i F 69)]; exact k0 F1 (nz_in hB [] (fun j hj hn => g j hj (by simp only [List.mem_cons, List.not_mem_nil, or_false, not_or] at hn; exact trivial)) (List.forall_mem_nil _)) (fun j hj hn => g j hj (by simp only [List.mem_cons, List.not_mem_nil, or_false, not_or] at hn; exact trivial)) )
theorem ywo_0_p0 {Ls : Nat} {xs : Nat → Int32} {d : Nat} {Q : Option Value → jm_h → Prop} (hd : 3 ≤ d) (F : Nat → sy_d) (X1 X2 : List jm_c) (hB : iv_in F iv_B4)
    (h0 : 0 ≤ ((((7 : Int32)) * (sy_i F 11)) + (sy_i F 69)).toInt ∧ ((((7 : Int32)) * (sy_i F 11)) + (sy_i F 69)).toInt < 14)
    (h1 : 0 ≤ ((((7 : Int32)) * (sy_i F 11)) + (sy_i F 69)).toInt ∧ ((((7 : Int32)) * (sy_i F 11)) + (sy_i F 69)).toInt < 14)
    (k : ∀ F1 : Nat → sy_d, (∀ j, j < 69 → j ≠ 52 → F1 j = F j) → F1 52 = .inr (.inl (jm_upd (jm_upd (jm_upd (jm_upd (jm_upd (jm_upd (jm_upd (jm_upd (jm_upd (jm_upd (jm_upd (jm_upd (jm_upd (jm_upd (jm_upd (sy_ai F 52) ((0 : Int32)).toNatClampNeg ((0 : Int32))) ((1 : Int32)).toNatClampNeg ((0 : Int32))) ((2 : Int32)).toNatClampNeg ((0 : Int32))) ((3 : Int32)).toNatClampNeg ((0 : Int32))) ((4 : Int32)).toNatClampNeg ((0 : Int32))) ((5 : Int32)).toNatClampNeg ((0 : Int32))) ((6 : Int32)).toNatClampNeg ((0 : Int32))) ((7 : Int32)).toNatClampNeg ((0 : Int32))) ((8 : Int32)).toNatClampNeg ((0 : Int32))) ((2 : Int32)).toNatClampNeg (sy_i F 72)) ((8 : Int32)).toNatClampNeg (sy_i F 73)) ((0 : Int32)).toNatClampNeg (sy_i F 70)) ((1 : Int32)).toNatClampNeg ((sy_ai F 33).getD ((((7 : Int32)) * (sy_i F 11)) + (sy_i F 69)).toNatClampNeg 0)) ((4 : Int32)).toNatClampNeg ((sy_ai F 32).getD ((((7 : Int32)) * (sy_i F 11)) + (sy_i F 69)).toNatClampNeg 0)) ((7 : Int32)).toNatClampNeg (sy_i F 71))) → F1 69 = .inl (.int (sy_i F 70)) → hd_W Ls xs d jm_M183 Q (24, sy_dL F1 [some (.inl (.ref 1000)), none, none, none, none, none], sy_dS F1 [.inl (.int 99), .inl (.int 0), .inr (.inl 69), .inl (.int 3), .inl (.ref 1000)], sy_dh F1 X1 X2 (iv_H 4), 0, 0)) :
    hd_W Ls xs d jm_M183 Q (0, sy_dL F [some (.inl (.ref 1000)), some (.inr (.inl 69)), some (.inr (.inl 70)), some (.inr (.inl 71)), some (.inr (.inl 72)), some (.inr (.inl 73))], sy_dS F [], sy_dh F X1 X2 (iv_H 4), 0, 0) := by
  refine hd_run (s := 4) (nv := 74) (pc := 24) (L := [some (.inl (.ref 1000)), none, none, none, none, none]) (S := [.inl (.int 99), .inl (.int 0), .inr (.inl 69), .inl (.int 3), .inl (.ref 1000)]) (uh := hd_ov (iv_id 0 iv_B4) [(52, .inr (.inr (.inl 94)))]) (ul := [.inl (.inr (.inl 70))]) (f := true) (sp := [24]) (d0 := 2) (O := []) (T := [(40, [.inl (.int 0), .inl (.int 0)], [.inr (.inl 52)]), (40, [.inl (.int 1), .inl (.int 0)], [.inr (.inl 74)]), (40, [.inl (.int 2), .inl (.int 0)], [.inr (.inl 75)]), (40, [.inl (.int 3), .inl (.int 0)], [.inr (.inl 76)]), (40, [.inl (.int 4), .inl (.int 0)], [.inr (.inl 77)]), (40, [.inl (.int 5), .inl (.int 0)], [.inr (.inl 78)]), (40, [.inl (.int 6), .inl (.int 0)], [.inr (.inl 79)]), (40, [.inl (.int 7), .inl (.int 0)], [.inr (.inl 80)]), (40, [.inl (.int 8), .inl (.int 0)], [.inr (.inl 81)]), (40, [.inl (.int 2), .inr (.inl 72)], [.inr (.inl 82)]), (40, [.inl (.int 8), .inr (.inl 73)], [.inr (.inl 83)]), (40, [.inl (.int 0), .inr (.inl 70)], [.inr (.inl 84)]), (2, [.inl (.int 7), .inr (.inl 11)], []), (0, [.inr (.inl 86), .inr (.inl 69)], []), (30, [.inr (.inl 87)], [.inr (.inl 33)]), (40, [.inl (.int 1), .inr (.inl 88)], [.inr (.inl 85)]), (2, [.inl (.int 7), .inr (.inl 11)], []), (0, [.inr (.inl 90), .inr (.inl 69)], []), (30, [.inr (.inl 91)], [.inr (.inl 32)]), (40, [.inl (.int 4), .inr (.inl 92)], [.inr (.inl 89)]), (40, [.inl (.int 7), .inr (.inl 71)], [.inr (.inl 93)])]) (P := [(6, .inr (.inl 87), .inl (.ref 14)), (6, .inr (.inl 91), .inl (.ref 14))]) jm_ok183 (by decide +kernel) (by decide +kernel) hd F X1 X2 (fun F' hF hs => ?_)
  have b11 := hd_b (F := F) (F' := F') (k := 11) (hF 11 (by decide))
  have t86 : sy_dv F' (.inr (.inl 86)) = .int (((7 : Int32)) * (sy_i F 11)) := hd_o (hs 12 _ rfl) rfl b11 rfl
  have b69 := hd_b (F := F) (F' := F') (k := 69) (hF 69 (by decide))
  have t87 : sy_dv F' (.inr (.inl 87)) = .int ((((7 : Int32)) * (sy_i F 11)) + (sy_i F 69)) := hd_o (hs 13 _ rfl) t86 b69 rfl
  have t90 : sy_dv F' (.inr (.inl 90)) = .int (((7 : Int32)) * (sy_i F 11)) := hd_o (hs 16 _ rfl) rfl b11 rfl
  have t91 : sy_dv F' (.inr (.inl 91)) = .int ((((7 : Int32)) * (sy_i F 11)) + (sy_i F 69)) := hd_o (hs 17 _ rfl) t90 b69 rfl
  have b71 := hd_b (F := F) (F' := F') (k := 71) (hF 71 (by decide))
  have a32 := hd_ba (F := F) (F' := F') (k := 32) (hF 32 (by decide))
  have t92 : sy_dv F' (.inr (.inl 92)) = .int ((sy_ai F 32).getD ((((7 : Int32)) * (sy_i F 11)) + (sy_i F 69)).toNatClampNeg 0) := hd_rd (hs 18 _ rfl) t91 a32
  have a33 := hd_ba (F := F) (F' := F') (k := 33) (hF 33 (by decide))
  have t88 : sy_dv F' (.inr (.inl 88)) = .int ((sy_ai F 33).getD ((((7 : Int32)) * (sy_i F 11)) + (sy_i F 69)).toNatClampNeg 0) := hd_rd (hs 14 _ rfl) t87 a33
  have b70 := hd_b (F := F) (F' := F') (k := 70) (hF 70 (by decide))
  have b73 := hd_b (F := F) (F' := F') (k := 73) (hF 73 (by decide))
  have b72 := hd_b (F := F) (F' := F') (k := 72) (hF 72 (by decide))
  have a52 := hd_ba (F := F) (F' := F') (k := 52) (hF 52 (by decide))
  have t74 : sy_da F' (.inr (.inl 74)) = .inl (jm_upd (sy_ai F 52) ((0 : Int32)).toNatClampNeg ((0 : Int32))) := hd_up (hs 0 _ rfl) rfl rfl a52
  have t75 : sy_da F' (.inr (.inl 75)) = .inl (jm_upd (jm_upd (sy_ai F 52) ((0 : Int32)).toNatClampNeg ((0 : Int32))) ((1 : Int32)).toNatClampNeg ((0 : Int32))) := hd_up (hs 1 _ rfl) rfl rfl t74
  have t76 : sy_da F' (.inr (.inl 76)) = .inl (jm_upd (jm_upd (jm_upd (sy_ai F 52) ((0 : Int32)).toNatClampNeg ((0 : Int32))) ((1 : Int32)).toNatClampNeg ((0 : Int32))) ((2 : Int32)).toNatClampNeg ((0 : Int32))) := hd_up (hs 2 _ rfl) rfl rfl t75
  have t77 : sy_da F' (.inr (.inl 77)) = .inl (jm_upd (jm_upd (jm_upd (jm_upd (sy_ai F 52) ((0 : Int32)).toNatClampNeg ((0 : Int32))) ((1 : Int32)).toNatClampNeg ((0 : Int32))) ((2 : Int32)).toNatClampNeg ((0 : Int32))) ((3 : Int32)).toNatClampNeg ((0 : Int32))) := hd_up (hs 3 _ rfl) rfl rfl t76
  have t78 : sy_da F' (.inr (.inl 78)) = .inl (jm_upd (jm_upd (jm_upd (jm_upd (jm_upd (sy_ai F 52) ((0 : Int32)).toNatClampNeg ((0 : Int32))) ((1 : Int32)).toNatClampNeg ((0 : Int32))) ((2 : Int32)).toNatClampNeg ((0 : Int32))) ((3 : Int32)).toNatClampNeg ((0 : Int32))) ((4 : Int32)).toNatClampNeg ((0 : Int32))) := hd_up (hs 4 _ rfl) rfl rfl t77
  have t79 : sy_da F' (.inr (.inl 79)) = .inl (jm_upd (jm_upd (jm_upd (jm_upd (jm_upd (jm_upd (sy_ai F 52) ((0 : Int32)).toNatClampNeg ((0 : Int32))) ((1 : Int32)).toNatClampNeg ((0 : Int32))) ((2 : Int32)).toNatClampNeg ((0 : Int32))) ((3 : Int32)).toNatClampNeg ((0 : Int32))) ((4 : Int32)).toNatClampNeg ((0 : Int32))) ((5 : Int32)).toNatClampNeg ((0 : Int32))) := hd_up (hs 5 _ rfl) rfl rfl t78
  have t80 : sy_da F' (.inr (.inl 80)) = .inl (jm_upd (jm_upd (jm_upd (jm_upd (jm_upd (jm_upd (jm_upd (sy_ai F 52) ((0 : Int32)).toNatClampNeg ((0 : Int32))) ((1 : Int32)).toNatClampNeg ((0 : Int32))) ((2 : Int32)).toNatClampNeg ((0 : Int32))) ((3 : Int32)).toNatClampNeg ((0 : Int32))) ((4 : Int32)).toNatClampNeg ((0 : Int32))) ((5 : Int32)).toNatClampNeg ((0 : Int32))) ((6 : Int32)).toNatClampNeg ((0 : Int32))) := hd_up (hs 6 _ rfl) rfl rfl t79
  have t81 : sy_da F' (.inr (.inl 81)) = .inl (jm_upd (jm_upd (jm_upd (jm_upd (jm_upd (jm_upd (jm_upd (jm_upd (sy_ai F 52) ((0 : Int32)).toNatClampNeg ((0 : Int32))) ((1 : Int32)).toNatClampNeg ((0 : Int32))) ((2 : Int32)).toNatClampNeg ((0 : Int32))) ((3 : Int32)).toNatClampNeg ((0 : Int32))) ((4 : Int32)).toNatClampNeg ((0 : Int32))) ((5 : Int32)).toNatClampNeg ((0 : Int32))) ((6 : Int32)).toNatClampNeg ((0 : Int32))) ((7 : Int32)).toNatClampNeg ((0 : Int32))) := hd_up (hs 7 _ rfl) rfl rfl t80
  have t82 : sy_da F' (.inr (.inl 82)) = .inl (jm_upd (jm_upd (jm_upd (jm_upd (jm_upd (jm_upd (jm_upd (jm_upd (jm_upd (sy_ai F 52) ((0 : Int32)).toNatClampNeg ((0 : Int32))) ((1 : Int32)).toNatClampNeg ((0 : Int32))) ((2 : Int32)).toNatClampNeg ((0 : Int32))) ((3 : Int32)).toNatClampNeg ((0 : Int32))) ((4 : Int32)).toNatClampNeg ((0 : Int32))) ((5 : Int32)).toNatClampNeg ((0 : Int32))) ((6 : Int32)).toNatClampNeg ((0 : Int32))) ((7 : Int32)).toNatClampNeg ((0 : Int32))) ((8 : Int32)).toNatClampNeg ((0 : Int32))) := hd_up (hs 8 _ rfl) rfl rfl t81
  have t83 : sy_da F' (.inr (.inl 83)) = .inl (jm_upd (jm_upd (jm_upd (jm_upd (jm_upd (jm_upd (jm_upd (jm_upd (jm_upd (jm_upd (sy_ai F 52) ((0 : Int32)).toNatClampNeg ((0 : Int32))) ((1 : Int32)).toNatClampNeg ((0 : Int32))) ((2 : Int32)).toNatClampNeg ((0 : Int32))) ((3 : Int32)).toNatClampNeg ((0 : Int32))) ((4 : Int32)).toNatClampNeg ((0 : Int32))) ((5 : Int32)).toNatClampNeg ((0 : Int32))) ((6 : Int32)).toNatClampNeg ((0 : Int32))) ((7 : Int32)).toNatClampNeg ((0 : Int32))) ((8 : Int32)).toNatClampNeg ((0 : Int32))) ((2 : Int32)).toNatClampNeg (sy_i F 72)) := hd_up (hs 9 _ rfl) rfl b72 t82
  have t84 : sy_da F' (.inr (.inl 84)) = .inl (jm_upd (jm_upd (jm_upd (jm_upd (jm_upd (jm_upd (jm_upd (jm_upd (jm_upd (jm_upd (jm_upd (sy_ai F 52) ((0 : Int32)).toNatClampNeg ((0 : Int32))) ((1 : Int32)).toNatClampNeg ((0 : Int32))) ((2 : Int32)).toNatClampNeg ((0 : Int32))) ((3 : Int32)).toNatClampNeg ((0 : Int32))) ((4 : Int32)).toNatClampNeg ((0 : Int32))) ((5 : Int32)).toNatClampNeg ((0 : Int32))) ((6 : Int32)).toNatClampNeg ((0 : Int32))) ((7 : Int32)).toNatClampNeg ((0 : Int32))) ((8 : Int32)).toNatClampNeg ((0 : Int32))) ((2 : Int32)).toNatClampNeg (sy_i F 72)) ((8 : Int32)).toNatClampNeg (sy_i F 73)) := hd_up (hs 10 _ rfl) rfl b73 t83
  have t85 : sy_da F' (.inr (.inl 85)) = .inl (jm_upd (jm_upd (jm_upd (jm_upd (jm_upd (jm_upd (jm_upd (jm_upd (jm_upd (jm_upd (jm_upd (jm_upd (sy_ai F 52) ((0 : Int32)).toNatClampNeg ((0 : Int32))) ((1 : Int32)).toNatClampNeg ((0 : Int32))) ((2 : Int32)).toNatClampNeg ((0 : Int32))) ((3 : Int32)).toNatClampNeg ((0 : Int32))) ((4 : Int32)).toNatClampNeg ((0 : Int32))) ((5 : Int32)).toNatClampNeg ((0 : Int32))) ((6 : Int32)).toNatClampNeg ((0 : Int32))) ((7 : Int32)).toNatClampNeg ((0 : Int32))) ((8 : Int32)).toNatClampNeg ((0 : Int32))) ((2 : Int32)).toNatClampNeg (sy_i F 72)) ((8 : Int32)).toNatClampNeg (sy_i F 73)) ((0 : Int32)).toNatClampNeg (sy_i F 70)) := hd_up (hs 11 _ rfl) rfl b70 t84
  have t89 : sy_da F' (.inr (.inl 89)) = .inl (jm_upd (jm_upd (jm_upd (jm_upd (jm_upd (jm_upd (jm_upd (jm_upd (jm_upd (jm_upd (jm_upd (jm_upd (jm_upd (sy_ai F 52) ((0 : Int32)).toNatClampNeg ((0 : Int32))) ((1 : Int32)).toNatClampNeg ((0 : Int32))) ((2 : Int32)).toNatClampNeg ((0 : Int32))) ((3 : Int32)).toNatClampNeg ((0 : Int32))) ((4 : Int32)).toNatClampNeg ((0 : Int32))) ((5 : Int32)).toNatClampNeg ((0 : Int32))) ((6 : Int32)).toNatClampNeg ((0 : Int32))) ((7 : Int32)).toNatClampNeg ((0 : Int32))) ((8 : Int32)).toNatClampNeg ((0 : Int32))) ((2 : Int32)).toNatClampNeg (sy_i F 72)) ((8 : Int32)).toNatClampNeg (sy_i F 73)) ((0 : Int32)).toNatClampNeg (sy_i F 70)) ((1 : Int32)).toNatClampNeg ((sy_ai F 33).getD ((((7 : Int32)) * (sy_i F 11)) + (sy_i F 69)).toNatClampNeg 0)) := hd_up (hs 15 _ rfl) rfl t88 t85
  have t93 : sy_da F' (.inr (.inl 93)) = .inl (jm_upd (jm_upd (jm_upd (jm_upd (jm_upd (jm_upd (jm_upd (jm_upd (jm_upd (jm_upd (jm_upd (jm_upd (jm_upd (jm_upd (sy_ai F 52) ((0 : Int32)).toNatClampNeg ((0 : Int32))) ((1 : Int32)).toNatClampNeg ((0 : Int32))) ((2 : Int32)).toNatClampNeg ((0 : Int32))) ((3 : Int32)).toNatClampNeg ((0 : Int32))) ((4 : Int32)).toNatClampNeg ((0 : Int32))) ((5 : Int32)).toNatClampNeg ((0 : Int32))) ((6 : Int32)).toNatClampNeg ((0 : Int32))) ((7 : Int32)).toNatClampNeg ((0 : Int32))) ((8 : Int32)).toNatClampNeg ((0 : Int32))) ((2 : Int32)).toNatClampNeg (sy_i F 72)) ((8 : Int32)).toNatClampNeg (sy_i F 73)) ((0 : Int32)).toNatClampNeg (sy_i F 70)) ((1 : Int32)).toNatClampNeg ((sy_ai F 33).getD ((((7 : Int32)) * (sy_i F 11)) + (sy_i F 69)).toNatClampNeg 0)) ((4 : Int32)).toNatClampNeg ((sy_ai F 32).getD ((((7 : Int32)) * (sy_i F 11)) + (sy_i F 69)).toNatClampNeg 0)) := hd_up (hs 19 _ rfl) rfl t92 t89
  have t94 : sy_da F' (.inr (.inl 94)) = .inl (jm_upd (jm_upd (jm_upd (jm_upd (jm_upd (jm_upd (jm_upd (jm_upd (jm_upd (jm_upd (jm_upd (jm_upd (jm_upd (jm_upd (jm_upd (sy_ai F 52) ((0 : Int32)).toNatClampNeg ((0 : Int32))) ((1 : Int32)).toNatClampNeg ((0 : Int32))) ((2 : Int32)).toNatClampNeg ((0 : Int32))) ((3 : Int32)).toNatClampNeg ((0 : Int32))) ((4 : Int32)).toNatClampNeg ((0 : Int32))) ((5 : Int32)).toNatClampNeg ((0 : Int32))) ((6 : Int32)).toNatClampNeg ((0 : Int32))) ((7 : Int32)).toNatClampNeg ((0 : Int32))) ((8 : Int32)).toNatClampNeg ((0 : Int32))) ((2 : Int32)).toNatClampNeg (sy_i F 72)) ((8 : Int32)).toNatClampNeg (sy_i F 73)) ((0 : Int32)).toNatClampNeg (sy_i F 70)) ((1 : Int32)).toNatClampNeg ((sy_ai F 33).getD ((((7 : Int32)) * (sy_i F 11)) + (sy_i F 69)).toNatClampNeg 0)) ((4 : Int32)).toNatClampNeg ((sy_ai F 32).getD ((((7 : Int32)) * (sy_i F 11)) + (sy_i F 69)).toNatClampNeg 0)) ((7 : Int32)).toNatClampNeg (sy_i F 71)) := hd_up (hs 20 _ rfl) rfl b71 t93
  have hB' : iv_in F' iv_B4 := iv_in_eq hB (fun j hj => hF j (Nat.lt_of_lt_of_le hj (by decide +kernel)))
  refine ⟨List.forall_mem_cons.mpr ⟨hd_pb t87 (by first | exact h0 | exact h0), List.forall_mem_cons.mpr ⟨hd_pb t91 (by first | exact h1 | exact h1), fun _ h => absurd h List.not_mem_nil⟩⟩, ?_⟩
  refine k _ ?_ ?_ ?_
  · exact fun j hj hn => (hd_keep hB' (Nat.lt_of_lt_of_le hj (by decide +kernel)) (by simp; omega)).trans (hF j (Nat.lt_of_lt_of_le hj (by decide)))
  · exact hd_ga (a := .inr (.inl 94)) (by decide +kernel) t94
  · exact hd_gi (x := .inr (.inl 70)) (by decide +kernel) b70
theorem ywo_0 {Ls : Nat} {xs : Nat → Int32} {d : Nat} {Q : Option Value → jm_h → Prop} (hd : 3 ≤ d) (F : Nat → sy_d) (X1 X2 : List jm_c) (hB : iv_in F iv_B4)
    (a69 : 0 ≤ (sy_i F 69).toInt ∧ (sy_i F 69).toInt ≤ 6)
    (k0 : ∀ F1 : Nat → sy_d, iv_in F1 iv_B4 → (∀ j, j < 69 → j ∉ ([52] : List Nat) → F1 j = F j) → sy_ai F1 52 = jm_upd (jm_upd (jm_upd (jm_upd (jm_upd (jm_upd (jm_upd (jm_upd (jm_upd (jm_upd (jm_upd (jm_upd (jm_upd (jm_upd (jm_upd (sy_ai F 52) (0 : Int).toNat ((0 : Int32))) (1 : Int).toNat ((0 : Int32))) (2 : Int).toNat ((0 : Int32))) (3 : Int).toNat ((0 : Int32))) (4 : Int).toNat ((0 : Int32))) (5 : Int).toNat ((0 : Int32))) (6 : Int).toNat ((0 : Int32))) (7 : Int).toNat ((0 : Int32))) (8 : Int).toNat ((0 : Int32))) (2 : Int).toNat (sy_i F 72)) (8 : Int).toNat (sy_i F 73)) (0 : Int).toNat (sy_i F 70)) (1 : Int).toNat ((sy_ai F 33).getD (((7 * (sy_i F 11).toInt) + (sy_i F 69).toInt)).toNat 0)) (4 : Int).toNat ((sy_ai F 32).getD (((7 * (sy_i F 11).toInt) + (sy_i F 69).toInt)).toNat 0)) (7 : Int).toNat (sy_i F 71) → (sy_i F1 69).toInt = (sy_i F 70).toInt → sy_i F1 69 = sy_i F 70 → hd_W Ls xs d jm_M183 Q (24, sy_dL F1 [some (.inl (.ref 1000)), none, none, none, none, none], sy_dS F1 [.inl (.int 99), .inl (.int 0), .inr (.inl 69), .inl (.int 3), .inl (.ref 1000)], sy_dh F1 X1 X2 (iv_H 4), 0, 0)) :
    hd_W Ls xs d jm_M183 Q (0, sy_dL F [some (.inl (.ref 1000)), some (.inr (.inl 69)), some (.inr (.inl 70)), some (.inr (.inl 71)), some (.inr (.inl 72)), some (.inr (.inl 73))], sy_dS F [], sy_dh F X1 X2 (iv_H 4), 0, 0) := by
  have c11 := nz_bx hB (k := 11) (lo := 0) (hi := 1) rfl
  have n86 : nzI (((7 : Int32)) * (sy_i F 11)) ((7 * (sy_i F 11).toInt)) := nz_mul (by decide : ((7 : Int32)).toInt = 7) (rfl : (sy_i F 11).toInt = (sy_i F 11).toInt) (by omega) (by omega)
  have n87 : nzI ((((7 : Int32)) * (sy_i F 11)) + (sy_i F 69)) (((7 * (sy_i F 11).toInt) + (sy_i F 69).toInt)) := nz_add (nzE n86) (rfl : (sy_i F 69).toInt = (sy_i F 69).toInt) (by omega) (by omega)
  have n90 : nzI (((7 : Int32)) * (sy_i F 11)) ((7 * (sy_i F 11).toInt)) := nz_mul (by decide : ((7 : Int32)).toInt = 7) (rfl : (sy_i F 11).toInt = (sy_i F 11).toInt) (by omega) (by omega)
  have n91 : nzI ((((7 : Int32)) * (sy_i F 11)) + (sy_i F 69)) (((7 * (sy_i F 11).toInt) + (sy_i F 69).toInt)) := nz_add (nzE n90) (rfl : (sy_i F 69).toInt = (sy_i F 69).toInt) (by omega) (by omega)
  have w94 : jm_upd (jm_upd (jm_upd (jm_upd (jm_upd (jm_upd (jm_upd (jm_upd (jm_upd (jm_upd (jm_upd (jm_upd (jm_upd (jm_upd (jm_upd (sy_ai F 52) ((0 : Int32)).toNatClampNeg ((0 : Int32))) ((1 : Int32)).toNatClampNeg ((0 : Int32))) ((2 : Int32)).toNatClampNeg ((0 : Int32))) ((3 : Int32)).toNatClampNeg ((0 : Int32))) ((4 : Int32)).toNatClampNeg ((0 : Int32))) ((5 : Int32)).toNatClampNeg ((0 : Int32))) ((6 : Int32)).toNatClampNeg ((0 : Int32))) ((7 : Int32)).toNatClampNeg ((0 : Int32))) ((8 : Int32)).toNatClampNeg ((0 : Int32))) ((2 : Int32)).toNatClampNeg (sy_i F 72)) ((8 : Int32)).toNatClampNeg (sy_i F 73)) ((0 : Int32)).toNatClampNeg (sy_i F 70)) ((1 : Int32)).toNatClampNeg ((sy_ai F 33).getD ((((7 : Int32)) * (sy_i F 11)) + (sy_i F 69)).toNatClampNeg 0)) ((4 : Int32)).toNatClampNeg ((sy_ai F 32).getD ((((7 : Int32)) * (sy_i F 11)) + (sy_i F 69)).toNatClampNeg 0)) ((7 : Int32)).toNatClampNeg (sy_i F 71) = jm_upd (jm_upd (jm_upd (jm_upd (jm_upd (jm_upd (jm_upd (jm_upd (jm_upd (jm_upd (jm_upd (jm_upd (jm_upd (jm_upd (jm_upd (sy_ai F 52) (0 : Int).toNat ((0 : Int32))) (1 : Int).toNat ((0 : Int32))) (2 : Int).toNat ((0 : Int32))) (3 : Int).toNat ((0 : Int32))) (4 : Int).toNat ((0 : Int32))) (5 : Int).toNat ((0 : Int32))) (6 : Int).toNat ((0 : Int32))) (7 : Int).toNat ((0 : Int32))) (8 : Int).toNat ((0 : Int32))) (2 : Int).toNat (sy_i F 72)) (8 : Int).toNat (sy_i F 73)) (0 : Int).toNat (sy_i F 70)) (1 : Int).toNat ((sy_ai F 33).getD (((7 * (sy_i F 11).toInt) + (sy_i F 69).toInt)).toNat 0)) (4 : Int).toNat ((sy_ai F 32).getD (((7 * (sy_i F 11).toInt) + (sy_i F 69).toInt)).toNat 0)) (7 : Int).toNat (sy_i F 71) := by simp only [nz_c, (nzE n86), (nzE n87), (nzE n90), (nzE n91), (by decide : ((0 : Int32)).toInt = 0), (by decide : ((1 : Int32)).toInt = 1), (by decide : ((2 : Int32)).toInt = 2), (by decide : ((3 : Int32)).toInt = 3), (by decide : ((4 : Int32)).toInt = 4), (by decide : ((5 : Int32)).toInt = 5), (by decide : ((6 : Int32)).toInt = 6), (by decide : ((7 : Int32)).toInt = 7), (by decide : ((8 : Int32)).toInt = 8)]
  exact ywo_0_p0 hd F X1 X2 hB (by first | (simp only [nz_c, (nzE n86), (nzE n87)]; exact ⟨by omega, by omega⟩) | exact ⟨by omega, by omega⟩ | (rw [(nzE n87)]; exact ⟨by omega, by omega⟩)) (by first | (simp only [nz_c, (nzE n90), (nzE n91)]; exact ⟨by omega, by omega⟩) | exact ⟨by omega, by omega⟩ | (rw [(nzE n91)]; exact ⟨by omega, by omega⟩)) (fun F1 g e52 e69 => k0 F1 (nz_in hB [52] (fun j hj hn => g j hj (by simp only [List.mem_cons, List.not_mem_nil, or_false, not_or] at hn; omega)) (List.forall_mem_cons.mpr ⟨fun t ht => (Option.some.inj ht) ▸ (nz_hz2 e52), List.forall_mem_nil _⟩)) (fun j hj hn => g j hj (by simp only [List.mem_cons, List.not_mem_nil, or_false, not_or] at hn; omega)) ((zz_ai e52).trans w94) ((congrArg Int32.toInt (zz_i e69)).trans (rfl : (sy_i F 70).toInt = (sy_i F 70).toInt)) ((zz_i e69).trans (rfl : sy_i F 70 = sy_i F 70)))
theorem ywo_27_p0 {Ls : Nat} {xs : Nat → Int32} {d : Nat} {Q : Option Value → jm_h → Prop} (hd : 1 ≤ d) (F : Nat → sy_d) (X1 X2 : List jm_c) (hB : iv_in F iv_B4)
    (k : ∀ F1 : Nat → sy_d, (∀ j, j < 69 → True → F1 j = F j) → Q (some (.int (sy_i F 69))) (sy_dh F1 X1 X2 (iv_H 4))) :
    hd_W Ls xs d jm_M183 Q (27, sy_dL F [some (.inl (.ref 1000)), none, none, none, none, none], sy_dS F [.inr (.inl 69)], sy_dh F X1 X2 (iv_H 4), 0, 0) := by
  refine hd_ret (s := 4) (nv := 70) (v := some (.inr (.inl 69))) (uh := hd_ov (iv_id 0 iv_B4) []) (f := false) (sp := []) (d0 := 0) (O := []) (T := []) (P := []) jm_ok183 (by decide +kernel) (by decide +kernel) hd F X1 X2 (fun F' hF hs => ?_)
  have b69 := hd_b (F := F) (F' := F') (k := 69) (hF 69 (by decide))
  have hB' : iv_in F' iv_B4 := iv_in_eq hB (fun j hj => hF j (Nat.lt_of_lt_of_le hj (by decide +kernel)))
  have hk := k (sy_cm F' (hd_ov (iv_id 0 iv_B4) [] ++ [])) (fun j hj _ => (hd_keep hB' (Nat.lt_of_lt_of_le hj (by decide +kernel)) (by simp)).trans (hF j (Nat.lt_of_lt_of_le hj (by decide))))
  refine ⟨fun _ h => absurd h List.not_mem_nil, ?_⟩
  show Q (some (sy_dv F' (.inr (.inl 69)))) _
  rw [b69]
  exact hk
theorem ywo_27 {Ls : Nat} {xs : Nat → Int32} {d : Nat} {Q : Option Value → jm_h → Prop} (hd : 1 ≤ d) (F : Nat → sy_d) (X1 X2 : List jm_c) (hB : iv_in F iv_B4)
    (k0 : ∀ F1 : Nat → sy_d, iv_in F1 iv_B4 → (∀ j, j < 69 → j ∉ ([] : List Nat) → F1 j = F j) → Q (some (.int (sy_i F 69))) (sy_dh F1 X1 X2 (iv_H 4))) :
    hd_W Ls xs d jm_M183 Q (27, sy_dL F [some (.inl (.ref 1000)), none, none, none, none, none], sy_dS F [.inr (.inl 69)], sy_dh F X1 X2 (iv_H 4), 0, 0) := by
  exact ywo_27_p0 hd F X1 X2 hB  (fun F1 g  => by rw [(rfl : sy_i F 69 = sy_i F 69)]; exact k0 F1 (nz_in hB [] (fun j hj hn => g j hj (by simp only [List.mem_cons, List.not_mem_nil, or_false, not_or] at hn; exact trivial)) (List.forall_mem_nil _)) (fun j hj hn => g j hj (by simp only [List.mem_cons, List.not_mem_nil, or_false, not_or] at hn; exact trivial)) )
theorem ybo_0_p0 {Ls : Nat} {xs : Nat → Int32} {d : Nat} {Q : Option Value → jm_h → Prop} (hd : 3 ≤ d) (F : Nat → sy_d) (X1 X2 : List jm_c) (hB : iv_in F iv_B4)
    (h0 : 0 ≤ ((((7 : Int32)) * (sy_i F 11)) + (sy_i F 69)).toInt ∧ ((((7 : Int32)) * (sy_i F 11)) + (sy_i F 69)).toInt < 14)
    (h1 : 0 ≤ ((((7 : Int32)) * (sy_i F 11)) + (sy_i F 69)).toInt ∧ ((((7 : Int32)) * (sy_i F 11)) + (sy_i F 69)).toInt < 14)
    (k : ∀ F1 : Nat → sy_d, (∀ j, j < 69 → j ≠ 52 → F1 j = F j) → F1 52 = .inr (.inl (jm_upd (jm_upd (jm_upd (jm_upd (jm_upd (jm_upd (jm_upd (jm_upd (jm_upd (jm_upd (jm_upd (jm_upd (jm_upd (jm_upd (sy_ai F 52) ((0 : Int32)).toNatClampNeg ((0 : Int32))) ((1 : Int32)).toNatClampNeg ((0 : Int32))) ((2 : Int32)).toNatClampNeg ((0 : Int32))) ((3 : Int32)).toNatClampNeg ((0 : Int32))) ((4 : Int32)).toNatClampNeg ((0 : Int32))) ((5 : Int32)).toNatClampNeg ((0 : Int32))) ((6 : Int32)).toNatClampNeg ((0 : Int32))) ((7 : Int32)).toNatClampNeg ((0 : Int32))) ((8 : Int32)).toNatClampNeg ((0 : Int32))) ((2 : Int32)).toNatClampNeg (sy_i F 71)) ((8 : Int32)).toNatClampNeg (sy_i F 72)) ((0 : Int32)).toNatClampNeg (sy_i F 70)) ((1 : Int32)).toNatClampNeg ((sy_ai F 33).getD ((((7 : Int32)) * (sy_i F 11)) + (sy_i F 69)).toNatClampNeg 0)) ((4 : Int32)).toNatClampNeg ((sy_ai F 32).getD ((((7 : Int32)) * (sy_i F 11)) + (sy_i F 69)).toNatClampNeg 0))) → hd_W Ls xs d jm_M184 Q (16, sy_dL F1 [some (.inl (.ref 1000)), none, none, none, none], sy_dS F1 [.inl (.int 9), .inl (.int (-9)), .inl (.int 0), .inl (.int 4), .inl (.ref 1000)], sy_dh F1 X1 X2 (iv_H 4), 0, 0)) :
    hd_W Ls xs d jm_M184 Q (0, sy_dL F [some (.inl (.ref 1000)), some (.inr (.inl 69)), some (.inr (.inl 70)), some (.inr (.inl 71)), some (.inr (.inl 72))], sy_dS F [], sy_dh F X1 X2 (iv_H 4), 0, 0) := by
  refine hd_run (s := 4) (nv := 73) (pc := 16) (L := [some (.inl (.ref 1000)), none, none, none, none]) (S := [.inl (.int 9), .inl (.int (-9)), .inl (.int 0), .inl (.int 4), .inl (.ref 1000)]) (uh := hd_ov (iv_id 0 iv_B4) [(52, .inr (.inr (.inl 92)))]) (ul := []) (f := true) (sp := [16]) (d0 := 2) (O := []) (T := [(40, [.inl (.int 0), .inl (.int 0)], [.inr (.inl 52)]), (40, [.inl (.int 1), .inl (.int 0)], [.inr (.inl 73)]), (40, [.inl (.int 2), .inl (.int 0)], [.inr (.inl 74)]), (40, [.inl (.int 3), .inl (.int 0)], [.inr (.inl 75)]), (40, [.inl (.int 4), .inl (.int 0)], [.inr (.inl 76)]), (40, [.inl (.int 5), .inl (.int 0)], [.inr (.inl 77)]), (40, [.inl (.int 6), .inl (.int 0)], [.inr (.inl 78)]), (40, [.inl (.int 7), .inl (.int 0)], [.inr (.inl 79)]), (40, [.inl (.int 8), .inl (.int 0)], [.inr (.inl 80)]), (40, [.inl (.int 2), .inr (.inl 71)], [.inr (.inl 81)]), (40, [.inl (.int 8), .inr (.inl 72)], [.inr (.inl 82)]), (40, [.inl (.int 0), .inr (.inl 70)], [.inr (.inl 83)]), (2, [.inl (.int 7), .inr (.inl 11)], []), (0, [.inr (.inl 85), .inr (.inl 69)], []), (30, [.inr (.inl 86)], [.inr (.inl 33)]), (40, [.inl (.int 1), .inr (.inl 87)], [.inr (.inl 84)]), (2, [.inl (.int 7), .inr (.inl 11)], []), (0, [.inr (.inl 89), .inr (.inl 69)], []), (30, [.inr (.inl 90)], [.inr (.inl 32)]), (40, [.inl (.int 4), .inr (.inl 91)], [.inr (.inl 88)])]) (P := [(6, .inr (.inl 86), .inl (.ref 14)), (6, .inr (.inl 90), .inl (.ref 14))]) jm_ok184 (by decide +kernel) (by decide +kernel) hd F X1 X2 (fun F' hF hs => ?_)
  have b11 := hd_b (F := F) (F' := F') (k := 11) (hF 11 (by decide))
  have t85 : sy_dv F' (.inr (.inl 85)) = .int (((7 : Int32)) * (sy_i F 11)) := hd_o (hs 12 _ rfl) rfl b11 rfl
  have b69 := hd_b (F := F) (F' := F') (k := 69) (hF 69 (by decide))
  have t86 : sy_dv F' (.inr (.inl 86)) = .int ((((7 : Int32)) * (sy_i F 11)) + (sy_i F 69)) := hd_o (hs 13 _ rfl) t85 b69 rfl
  have t89 : sy_dv F' (.inr (.inl 89)) = .int (((7 : Int32)) * (sy_i F 11)) := hd_o (hs 16 _ rfl) rfl b11 rfl
  have t90 : sy_dv F' (.inr (.inl 90)) = .int ((((7 : Int32)) * (sy_i F 11)) + (sy_i F 69)) := hd_o (hs 17 _ rfl) t89 b69 rfl
  have a32 := hd_ba (F := F) (F' := F') (k := 32) (hF 32 (by decide))
  have t91 : sy_dv F' (.inr (.inl 91)) = .int ((sy_ai F 32).getD ((((7 : Int32)) * (sy_i F 11)) + (sy_i F 69)).toNatClampNeg 0) := hd_rd (hs 18 _ rfl) t90 a32
  have a33 := hd_ba (F := F) (F' := F') (k := 33) (hF 33 (by decide))
  have t87 : sy_dv F' (.inr (.inl 87)) = .int ((sy_ai F 33).getD ((((7 : Int32)) * (sy_i F 11)) + (sy_i F 69)).toNatClampNeg 0) := hd_rd (hs 14 _ rfl) t86 a33
  have b70 := hd_b (F := F) (F' := F') (k := 70) (hF 70 (by decide))
  have b72 := hd_b (F := F) (F' := F') (k := 72) (hF 72 (by decide))
  have b71 := hd_b (F := F) (F' := F') (k := 71) (hF 71 (by decide))
  have a52 := hd_ba (F := F) (F' := F') (k := 52) (hF 52 (by decide))
  have t73 : sy_da F' (.inr (.inl 73)) = .inl (jm_upd (sy_ai F 52) ((0 : Int32)).toNatClampNeg ((0 : Int32))) := hd_up (hs 0 _ rfl) rfl rfl a52
  have t74 : sy_da F' (.inr (.inl 74)) = .inl (jm_upd (jm_upd (sy_ai F 52) ((0 : Int32)).toNatClampNeg ((0 : Int32))) ((1 : Int32)).toNatClampNeg ((0 : Int32))) := hd_up (hs 1 _ rfl) rfl rfl t73
  have t75 : sy_da F' (.inr (.inl 75)) = .inl (jm_upd (jm_upd (jm_upd (sy_ai F 52) ((0 : Int32)).toNatClampNeg ((0 : Int32))) ((1 : Int32)).toNatClampNeg ((0 : Int32))) ((2 : Int32)).toNatClampNeg ((0 : Int32))) := hd_up (hs 2 _ rfl) rfl rfl t74
  have t76 : sy_da F' (.inr (.inl 76)) = .inl (jm_upd (jm_upd (jm_upd (jm_upd (sy_ai F 52) ((0 : Int32)).toNatClampNeg ((0 : Int32))) ((1 : Int32)).toNatClampNeg ((0 : Int32))) ((2 : Int32)).toNatClampNeg ((0 : Int32))) ((3 : Int32)).toNatClampNeg ((0 : Int32))) := hd_up (hs 3 _ rfl) rfl rfl t75
  have t77 : sy_da F' (.inr (.inl 77)) = .inl (jm_upd (jm_upd (jm_upd (jm_upd (jm_upd (sy_ai F 52) ((0 : Int32)).toNatClampNeg ((0 : Int32))) ((1 : Int32)).toNatClampNeg ((0 : Int32))) ((2 : Int32)).toNatClampNeg ((0 : Int32))) ((3 : Int32)).toNatClampNeg ((0 : Int32))) ((4 : Int32)).toNatClampNeg ((0 : Int32))) := hd_up (hs 4 _ rfl) rfl rfl t76
  have t78 : sy_da F' (.inr (.inl 78)) = .inl (jm_upd (jm_upd (jm_upd (jm_upd (jm_upd (jm_upd (sy_ai F 52) ((0 : Int32)).toNatClampNeg ((0 : Int32))) ((1 : Int32)).toNatClampNeg ((0 : Int32))) ((2 : Int32)).toNatClampNeg ((0 : Int32))) ((3 : Int32)).toNatClampNeg ((0 : Int32))) ((4 : Int32)).toNatClampNeg ((0 : Int32))) ((5 : Int32)).toNatClampNeg ((0 : Int32))) := hd_up (hs 5 _ rfl) rfl rfl t77
  have t79 : sy_da F' (.inr (.inl 79)) = .inl (jm_upd (jm_upd (jm_upd (jm_upd (jm_upd (jm_upd (jm_upd (sy_ai F 52) ((0 : Int32)).toNatClampNeg ((0 : Int32))) ((1 : Int32)).toNatClampNeg ((0 : Int32))) ((2 : Int32)).toNatClampNeg ((0 : Int32))) ((3 : Int32)).toNatClampNeg ((0 : Int32))) ((4 : Int32)).toNatClampNeg ((0 : Int32))) ((5 : Int32)).toNatClampNeg ((0 : Int32))) ((6 : Int32)).toNatClampNeg ((0 : Int32))) := hd_up (hs 6 _ rfl) rfl rfl t78
  have t80 : sy_da F' (.inr (.inl 80)) = .inl (jm_upd (jm_upd (jm_upd (jm_upd (jm_upd (jm_upd (jm_upd (jm_upd (sy_ai F 52) ((0 : Int32)).toNatClampNeg ((0 : Int32))) ((1 : Int32)).toNatClampNeg ((0 : Int32))) ((2 : Int32)).toNatClampNeg ((0 : Int32))) ((3 : Int32)).toNatClampNeg ((0 : Int32))) ((4 : Int32)).toNatClampNeg ((0 : Int32))) ((5 : Int32)).toNatClampNeg ((0 : Int32))) ((6 : Int32)).toNatClampNeg ((0 : Int32))) ((7 : Int32)).toNatClampNeg ((0 : Int32))) := hd_up (hs 7 _ rfl) rfl rfl t79
  have t81 : sy_da F' (.inr (.inl 81)) = .inl (jm_upd (jm_upd (jm_upd (jm_upd (jm_upd (jm_upd (jm_upd (jm_upd (jm_upd (sy_ai F 52) ((0 : Int32)).toNatClampNeg ((0 : Int32))) ((1 : Int32)).toNatClampNeg ((0 : Int32))) ((2 : Int32)).toNatClampNeg ((0 : Int32))) ((3 : Int32)).toNatClampNeg ((0 : Int32))) ((4 : Int32)).toNatClampNeg ((0 : Int32))) ((5 : Int32)).toNatClampNeg ((0 : Int32))) ((6 : Int32)).toNatClampNeg ((0 : Int32))) ((7 : Int32)).toNatClampNeg ((0 : Int32))) ((8 : Int32)).toNatClampNeg ((0 : Int32))) := hd_up (hs 8 _ rfl) rfl rfl t80
  have t82 : sy_da F' (.inr (.inl 82)) = .inl (jm_upd (jm_upd (jm_upd (jm_upd (jm_upd (jm_upd (jm_upd (jm_upd (jm_upd (jm_upd (sy_ai F 52) ((0 : Int32)).toNatClampNeg ((0 : Int32))) ((1 : Int32)).toNatClampNeg ((0 : Int32))) ((2 : Int32)).toNatClampNeg ((0 : Int32))) ((3 : Int32)).toNatClampNeg ((0 : Int32))) ((4 : Int32)).toNatClampNeg ((0 : Int32))) ((5 : Int32)).toNatClampNeg ((0 : Int32))) ((6 : Int32)).toNatClampNeg ((0 : Int32))) ((7 : Int32)).toNatClampNeg ((0 : Int32))) ((8 : Int32)).toNatClampNeg ((0 : Int32))) ((2 : Int32)).toNatClampNeg (sy_i F 71)) := hd_up (hs 9 _ rfl) rfl b71 t81
  have t83 : sy_da F' (.inr (.inl 83)) = .inl (jm_upd (jm_upd (jm_upd (jm_upd (jm_upd (jm_upd (jm_upd (jm_upd (jm_upd (jm_upd (jm_upd (sy_ai F 52) ((0 : Int32)).toNatClampNeg ((0 : Int32))) ((1 : Int32)).toNatClampNeg ((0 : Int32))) ((2 : Int32)).toNatClampNeg ((0 : Int32))) ((3 : Int32)).toNatClampNeg ((0 : Int32))) ((4 : Int32)).toNatClampNeg ((0 : Int32))) ((5 : Int32)).toNatClampNeg ((0 : Int32))) ((6 : Int32)).toNatClampNeg ((0 : Int32))) ((7 : Int32)).toNatClampNeg ((0 : Int32))) ((8 : Int32)).toNatClampNeg ((0 : Int32))) ((2 : Int32)).toNatClampNeg (sy_i F 71)) ((8 : Int32)).toNatClampNeg (sy_i F 72)) := hd_up (hs 10 _ rfl) rfl b72 t82
  have t84 : sy_da F' (.inr (.inl 84)) = .inl (jm_upd (jm_upd (jm_upd (jm_upd (jm_upd (jm_upd (jm_upd (jm_upd (jm_upd (jm_upd (jm_upd (jm_upd (sy_ai F 52) ((0 : Int32)).toNatClampNeg ((0 : Int32))) ((1 : Int32)).toNatClampNeg ((0 : Int32))) ((2 : Int32)).toNatClampNeg ((0 : Int32))) ((3 : Int32)).toNatClampNeg ((0 : Int32))) ((4 : Int32)).toNatClampNeg ((0 : Int32))) ((5 : Int32)).toNatClampNeg ((0 : Int32))) ((6 : Int32)).toNatClampNeg ((0 : Int32))) ((7 : Int32)).toNatClampNeg ((0 : Int32))) ((8 : Int32)).toNatClampNeg ((0 : Int32))) ((2 : Int32)).toNatClampNeg (sy_i F 71)) ((8 : Int32)).toNatClampNeg (sy_i F 72)) ((0 : Int32)).toNatClampNeg (sy_i F 70)) := hd_up (hs 11 _ rfl) rfl b70 t83
  have t88 : sy_da F' (.inr (.inl 88)) = .inl (jm_upd (jm_upd (jm_upd (jm_upd (jm_upd (jm_upd (jm_upd (jm_upd (jm_upd (jm_upd (jm_upd (jm_upd (jm_upd (sy_ai F 52) ((0 : Int32)).toNatClampNeg ((0 : Int32))) ((1 : Int32)).toNatClampNeg ((0 : Int32))) ((2 : Int32)).toNatClampNeg ((0 : Int32))) ((3 : Int32)).toNatClampNeg ((0 : Int32))) ((4 : Int32)).toNatClampNeg ((0 : Int32))) ((5 : Int32)).toNatClampNeg ((0 : Int32))) ((6 : Int32)).toNatClampNeg ((0 : Int32))) ((7 : Int32)).toNatClampNeg ((0 : Int32))) ((8 : Int32)).toNatClampNeg ((0 : Int32))) ((2 : Int32)).toNatClampNeg (sy_i F 71)) ((8 : Int32)).toNatClampNeg (sy_i F 72)) ((0 : Int32)).toNatClampNeg (sy_i F 70)) ((1 : Int32)).toNatClampNeg ((sy_ai F 33).getD ((((7 : Int32)) * (sy_i F 11)) + (sy_i F 69)).toNatClampNeg 0)) := hd_up (hs 15 _ rfl) rfl t87 t84
  have t92 : sy_da F' (.inr (.inl 92)) = .inl (jm_upd (jm_upd (jm_upd (jm_upd (jm_upd (jm_upd (jm_upd (jm_upd (jm_upd (jm_upd (jm_upd (jm_upd (jm_upd (jm_upd (sy_ai F 52) ((0 : Int32)).toNatClampNeg ((0 : Int32))) ((1 : Int32)).toNatClampNeg ((0 : Int32))) ((2 : Int32)).toNatClampNeg ((0 : Int32))) ((3 : Int32)).toNatClampNeg ((0 : Int32))) ((4 : Int32)).toNatClampNeg ((0 : Int32))) ((5 : Int32)).toNatClampNeg ((0 : Int32))) ((6 : Int32)).toNatClampNeg ((0 : Int32))) ((7 : Int32)).toNatClampNeg ((0 : Int32))) ((8 : Int32)).toNatClampNeg ((0 : Int32))) ((2 : Int32)).toNatClampNeg (sy_i F 71)) ((8 : Int32)).toNatClampNeg (sy_i F 72)) ((0 : Int32)).toNatClampNeg (sy_i F 70)) ((1 : Int32)).toNatClampNeg ((sy_ai F 33).getD ((((7 : Int32)) * (sy_i F 11)) + (sy_i F 69)).toNatClampNeg 0)) ((4 : Int32)).toNatClampNeg ((sy_ai F 32).getD ((((7 : Int32)) * (sy_i F 11)) + (sy_i F 69)).toNatClampNeg 0)) := hd_up (hs 19 _ rfl) rfl t91 t88
  have hB' : iv_in F' iv_B4 := iv_in_eq hB (fun j hj => hF j (Nat.lt_of_lt_of_le hj (by decide +kernel)))
  refine ⟨List.forall_mem_cons.mpr ⟨hd_pb t86 (by first | exact h0 | exact h0), List.forall_mem_cons.mpr ⟨hd_pb t90 (by first | exact h1 | exact h1), fun _ h => absurd h List.not_mem_nil⟩⟩, ?_⟩
  refine k _ ?_ ?_
  · exact fun j hj hn => (hd_keep hB' (Nat.lt_of_lt_of_le hj (by decide +kernel)) (by simp; omega)).trans (hF j (Nat.lt_of_lt_of_le hj (by decide)))
  · exact hd_ga (a := .inr (.inl 92)) (by decide +kernel) t92
theorem ybo_0 {Ls : Nat} {xs : Nat → Int32} {d : Nat} {Q : Option Value → jm_h → Prop} (hd : 3 ≤ d) (F : Nat → sy_d) (X1 X2 : List jm_c) (hB : iv_in F iv_B4)
    (a69 : 0 ≤ (sy_i F 69).toInt ∧ (sy_i F 69).toInt ≤ 6)
    (k0 : ∀ F1 : Nat → sy_d, iv_in F1 iv_B4 → (∀ j, j < 69 → j ∉ ([52] : List Nat) → F1 j = F j) → sy_ai F1 52 = jm_upd (jm_upd (jm_upd (jm_upd (jm_upd (jm_upd (jm_upd (jm_upd (jm_upd (jm_upd (jm_upd (jm_upd (jm_upd (jm_upd (sy_ai F 52) (0 : Int).toNat ((0 : Int32))) (1 : Int).toNat ((0 : Int32))) (2 : Int).toNat ((0 : Int32))) (3 : Int).toNat ((0 : Int32))) (4 : Int).toNat ((0 : Int32))) (5 : Int).toNat ((0 : Int32))) (6 : Int).toNat ((0 : Int32))) (7 : Int).toNat ((0 : Int32))) (8 : Int).toNat ((0 : Int32))) (2 : Int).toNat (sy_i F 71)) (8 : Int).toNat (sy_i F 72)) (0 : Int).toNat (sy_i F 70)) (1 : Int).toNat ((sy_ai F 33).getD (((7 * (sy_i F 11).toInt) + (sy_i F 69).toInt)).toNat 0)) (4 : Int).toNat ((sy_ai F 32).getD (((7 * (sy_i F 11).toInt) + (sy_i F 69).toInt)).toNat 0) → hd_W Ls xs d jm_M184 Q (16, sy_dL F1 [some (.inl (.ref 1000)), none, none, none, none], sy_dS F1 [.inl (.int 9), .inl (.int (-9)), .inl (.int 0), .inl (.int 4), .inl (.ref 1000)], sy_dh F1 X1 X2 (iv_H 4), 0, 0)) :
    hd_W Ls xs d jm_M184 Q (0, sy_dL F [some (.inl (.ref 1000)), some (.inr (.inl 69)), some (.inr (.inl 70)), some (.inr (.inl 71)), some (.inr (.inl 72))], sy_dS F [], sy_dh F X1 X2 (iv_H 4), 0, 0) := by
  have c11 := nz_bx hB (k := 11) (lo := 0) (hi := 1) rfl
  have n85 : nzI (((7 : Int32)) * (sy_i F 11)) ((7 * (sy_i F 11).toInt)) := nz_mul (by decide : ((7 : Int32)).toInt = 7) (rfl : (sy_i F 11).toInt = (sy_i F 11).toInt) (by omega) (by omega)
  have n86 : nzI ((((7 : Int32)) * (sy_i F 11)) + (sy_i F 69)) (((7 * (sy_i F 11).toInt) + (sy_i F 69).toInt)) := nz_add (nzE n85) (rfl : (sy_i F 69).toInt = (sy_i F 69).toInt) (by omega) (by omega)
  have n89 : nzI (((7 : Int32)) * (sy_i F 11)) ((7 * (sy_i F 11).toInt)) := nz_mul (by decide : ((7 : Int32)).toInt = 7) (rfl : (sy_i F 11).toInt = (sy_i F 11).toInt) (by omega) (by omega)
  have n90 : nzI ((((7 : Int32)) * (sy_i F 11)) + (sy_i F 69)) (((7 * (sy_i F 11).toInt) + (sy_i F 69).toInt)) := nz_add (nzE n89) (rfl : (sy_i F 69).toInt = (sy_i F 69).toInt) (by omega) (by omega)
  have w92 : jm_upd (jm_upd (jm_upd (jm_upd (jm_upd (jm_upd (jm_upd (jm_upd (jm_upd (jm_upd (jm_upd (jm_upd (jm_upd (jm_upd (sy_ai F 52) ((0 : Int32)).toNatClampNeg ((0 : Int32))) ((1 : Int32)).toNatClampNeg ((0 : Int32))) ((2 : Int32)).toNatClampNeg ((0 : Int32))) ((3 : Int32)).toNatClampNeg ((0 : Int32))) ((4 : Int32)).toNatClampNeg ((0 : Int32))) ((5 : Int32)).toNatClampNeg ((0 : Int32))) ((6 : Int32)).toNatClampNeg ((0 : Int32))) ((7 : Int32)).toNatClampNeg ((0 : Int32))) ((8 : Int32)).toNatClampNeg ((0 : Int32))) ((2 : Int32)).toNatClampNeg (sy_i F 71)) ((8 : Int32)).toNatClampNeg (sy_i F 72)) ((0 : Int32)).toNatClampNeg (sy_i F 70)) ((1 : Int32)).toNatClampNeg ((sy_ai F 33).getD ((((7 : Int32)) * (sy_i F 11)) + (sy_i F 69)).toNatClampNeg 0)) ((4 : Int32)).toNatClampNeg ((sy_ai F 32).getD ((((7 : Int32)) * (sy_i F 11)) + (sy_i F 69)).toNatClampNeg 0) = jm_upd (jm_upd (jm_upd (jm_upd (jm_upd (jm_upd (jm_upd (jm_upd (jm_upd (jm_upd (jm_upd (jm_upd (jm_upd (jm_upd (sy_ai F 52) (0 : Int).toNat ((0 : Int32))) (1 : Int).toNat ((0 : Int32))) (2 : Int).toNat ((0 : Int32))) (3 : Int).toNat ((0 : Int32))) (4 : Int).toNat ((0 : Int32))) (5 : Int).toNat ((0 : Int32))) (6 : Int).toNat ((0 : Int32))) (7 : Int).toNat ((0 : Int32))) (8 : Int).toNat ((0 : Int32))) (2 : Int).toNat (sy_i F 71)) (8 : Int).toNat (sy_i F 72)) (0 : Int).toNat (sy_i F 70)) (1 : Int).toNat ((sy_ai F 33).getD (((7 * (sy_i F 11).toInt) + (sy_i F 69).toInt)).toNat 0)) (4 : Int).toNat ((sy_ai F 32).getD (((7 * (sy_i F 11).toInt) + (sy_i F 69).toInt)).toNat 0) := by simp only [nz_c, (nzE n85), (nzE n86), (nzE n89), (nzE n90), (by decide : ((0 : Int32)).toInt = 0), (by decide : ((1 : Int32)).toInt = 1), (by decide : ((2 : Int32)).toInt = 2), (by decide : ((3 : Int32)).toInt = 3), (by decide : ((4 : Int32)).toInt = 4), (by decide : ((5 : Int32)).toInt = 5), (by decide : ((6 : Int32)).toInt = 6), (by decide : ((7 : Int32)).toInt = 7), (by decide : ((8 : Int32)).toInt = 8)]
  exact ybo_0_p0 hd F X1 X2 hB (by first | (simp only [nz_c, (nzE n85), (nzE n86)]; exact ⟨by omega, by omega⟩) | exact ⟨by omega, by omega⟩ | (rw [(nzE n86)]; exact ⟨by omega, by omega⟩)) (by first | (simp only [nz_c, (nzE n89), (nzE n90)]; exact ⟨by omega, by omega⟩) | exact ⟨by omega, by omega⟩ | (rw [(nzE n90)]; exact ⟨by omega, by omega⟩)) (fun F1 g e52 => k0 F1 (nz_in hB [52] (fun j hj hn => g j hj (by simp only [List.mem_cons, List.not_mem_nil, or_false, not_or] at hn; omega)) (List.forall_mem_cons.mpr ⟨fun t ht => (Option.some.inj ht) ▸ (nz_hz2 e52), List.forall_mem_nil _⟩)) (fun j hj hn => g j hj (by simp only [List.mem_cons, List.not_mem_nil, or_false, not_or] at hn; omega)) ((zz_ai e52).trans w92))
theorem ybo_19_p0 {Ls : Nat} {xs : Nat → Int32} {d : Nat} {Q : Option Value → jm_h → Prop} (hd : 1 ≤ d) (F : Nat → sy_d) (X1 X2 : List jm_c) (hB : iv_in F iv_B4)
    (k : ∀ F1 : Nat → sy_d, (∀ j, j < 69 → True → F1 j = F j) → Q (some (.int (sy_i F 69))) (sy_dh F1 X1 X2 (iv_H 4))) :
    hd_W Ls xs d jm_M184 Q (19, sy_dL F [some (.inl (.ref 1000)), none, none, none, none], sy_dS F [.inr (.inl 69)], sy_dh F X1 X2 (iv_H 4), 0, 0) := by
  refine hd_ret (s := 4) (nv := 70) (v := some (.inr (.inl 69))) (uh := hd_ov (iv_id 0 iv_B4) []) (f := false) (sp := []) (d0 := 0) (O := []) (T := []) (P := []) jm_ok184 (by decide +kernel) (by decide +kernel) hd F X1 X2 (fun F' hF hs => ?_)
  have b69 := hd_b (F := F) (F' := F') (k := 69) (hF 69 (by decide))
  have hB' : iv_in F' iv_B4 := iv_in_eq hB (fun j hj => hF j (Nat.lt_of_lt_of_le hj (by decide +kernel)))
  have hk := k (sy_cm F' (hd_ov (iv_id 0 iv_B4) [] ++ [])) (fun j hj _ => (hd_keep hB' (Nat.lt_of_lt_of_le hj (by decide +kernel)) (by simp)).trans (hF j (Nat.lt_of_lt_of_le hj (by decide))))
  refine ⟨fun _ h => absurd h List.not_mem_nil, ?_⟩
  show Q (some (sy_dv F' (.inr (.inl 69)))) _
  rw [b69]
  exact hk
theorem ybo_19 {Ls : Nat} {xs : Nat → Int32} {d : Nat} {Q : Option Value → jm_h → Prop} (hd : 1 ≤ d) (F : Nat → sy_d) (X1 X2 : List jm_c) (hB : iv_in F iv_B4)
    (k0 : ∀ F1 : Nat → sy_d, iv_in F1 iv_B4 → (∀ j, j < 69 → j ∉ ([] : List Nat) → F1 j = F j) → Q (some (.int (sy_i F 69))) (sy_dh F1 X1 X2 (iv_H 4))) :
    hd_W Ls xs d jm_M184 Q (19, sy_dL F [some (.inl (.ref 1000)), none, none, none, none], sy_dS F [.inr (.inl 69)], sy_dh F X1 X2 (iv_H 4), 0, 0) := by
  exact ybo_19_p0 hd F X1 X2 hB  (fun F1 g  => by rw [(rfl : sy_i F 69 = sy_i F 69)]; exact k0 F1 (nz_in hB [] (fun j hj hn => g j hj (by simp only [List.mem_cons, List.not_mem_nil, or_false, not_or] at hn; exact trivial)) (List.forall_mem_nil _)) (fun j hj hn => g j hj (by simp only [List.mem_cons, List.not_mem_nil, or_false, not_or] at hn; exact trivial)) )
theorem yhb_0_p0 {Ls : Nat} {xs : Nat → Int32} {d : Nat} {Q : Option Value → jm_h → Prop} (hd : 3 ≤ d) (F : Nat → sy_d) (X1 X2 : List jm_c) (hB : iv_in F iv_B4)
    (h0 : 0 ≤ ((((7 : Int32)) * (sy_i F 11)) + (sy_i F 70)).toInt ∧ ((((7 : Int32)) * (sy_i F 11)) + (sy_i F 70)).toInt < 14)
    (h1 : 0 ≤ ((((7 : Int32)) * (sy_i F 11)) + (sy_i F 70)).toInt ∧ ((((7 : Int32)) * (sy_i F 11)) + (sy_i F 70)).toInt < 14)
    (h2 : (sy_i F 69).toInt ≠ 2)
    (k : ∀ F1 : Nat → sy_d, (∀ j, j < 69 → j ≠ 52 → F1 j = F j) → F1 52 = .inr (.inl (jm_upd (jm_upd (jm_upd (jm_upd (jm_upd (jm_upd (jm_upd (jm_upd (jm_upd (jm_upd (jm_upd (jm_upd (jm_upd (jm_upd (jm_upd (jm_upd (jm_upd (sy_ai F 52) ((0 : Int32)).toNatClampNeg ((0 : Int32))) ((1 : Int32)).toNatClampNeg ((0 : Int32))) ((2 : Int32)).toNatClampNeg ((0 : Int32))) ((3 : Int32)).toNatClampNeg ((0 : Int32))) ((4 : Int32)).toNatClampNeg ((0 : Int32))) ((5 : Int32)).toNatClampNeg ((0 : Int32))) ((6 : Int32)).toNatClampNeg ((0 : Int32))) ((7 : Int32)).toNatClampNeg ((0 : Int32))) ((8 : Int32)).toNatClampNeg ((0 : Int32))) ((2 : Int32)).toNatClampNeg (sy_i F 75)) ((8 : Int32)).toNatClampNeg (sy_i F 76)) ((0 : Int32)).toNatClampNeg (sy_i F 71)) ((1 : Int32)).toNatClampNeg ((sy_ai F 33).getD ((((7 : Int32)) * (sy_i F 11)) + (sy_i F 70)).toNatClampNeg 0)) ((4 : Int32)).toNatClampNeg ((sy_ai F 32).getD ((((7 : Int32)) * (sy_i F 11)) + (sy_i F 70)).toNatClampNeg 0)) ((3 : Int32)).toNatClampNeg (sy_i F 74)) ((5 : Int32)).toNatClampNeg (sy_i F 72)) ((6 : Int32)).toNatClampNeg (sy_i F 73))) → hd_W Ls xs d jm_M185 Q (59, sy_dL F1 [some (.inl (.ref 1000)), none, none, none, none, none, none, none, none], sy_dS F1 [.inl (.int 9), .inl (.int (-9)), .inl (.int 1), .inl (.int 1), .inl (.ref 1000)], sy_dh F1 X1 X2 (iv_H 4), 0, 0)) :
    hd_W Ls xs d jm_M185 Q (0, sy_dL F [some (.inl (.ref 1000)), some (.inr (.inl 69)), some (.inr (.inl 70)), some (.inr (.inl 71)), some (.inr (.inl 72)), some (.inr (.inl 73)), some (.inr (.inl 74)), some (.inr (.inl 75)), some (.inr (.inl 76))], sy_dS F [], sy_dh F X1 X2 (iv_H 4), 0, 0) := by
  refine hd_run (s := 4) (nv := 77) (pc := 59) (L := [some (.inl (.ref 1000)), none, none, none, none, none, none, none, none]) (S := [.inl (.int 9), .inl (.int (-9)), .inl (.int 1), .inl (.int 1), .inl (.ref 1000)]) (uh := hd_ov (iv_id 0 iv_B4) [(52, .inr (.inr (.inl 99)))]) (ul := []) (f := true) (sp := [46, 59]) (d0 := 2) (O := [true]) (T := [(40, [.inl (.int 0), .inl (.int 0)], [.inr (.inl 52)]), (40, [.inl (.int 1), .inl (.int 0)], [.inr (.inl 77)]), (40, [.inl (.int 2), .inl (.int 0)], [.inr (.inl 78)]), (40, [.inl (.int 3), .inl (.int 0)], [.inr (.inl 79)]), (40, [.inl (.int 4), .inl (.int 0)], [.inr (.inl 80)]), (40, [.inl (.int 5), .inl (.int 0)], [.inr (.inl 81)]), (40, [.inl (.int 6), .inl (.int 0)], [.inr (.inl 82)]), (40, [.inl (.int 7), .inl (.int 0)], [.inr (.inl 83)]), (40, [.inl (.int 8), .inl (.int 0)], [.inr (.inl 84)]), (40, [.inl (.int 2), .inr (.inl 75)], [.inr (.inl 85)]), (40, [.inl (.int 8), .inr (.inl 76)], [.inr (.inl 86)]), (40, [.inl (.int 0), .inr (.inl 71)], [.inr (.inl 87)]), (2, [.inl (.int 7), .inr (.inl 11)], []), (0, [.inr (.inl 89), .inr (.inl 70)], []), (30, [.inr (.inl 90)], [.inr (.inl 33)]), (40, [.inl (.int 1), .inr (.inl 91)], [.inr (.inl 88)]), (2, [.inl (.int 7), .inr (.inl 11)], []), (0, [.inr (.inl 93), .inr (.inl 70)], []), (30, [.inr (.inl 94)], [.inr (.inl 32)]), (40, [.inl (.int 4), .inr (.inl 95)], [.inr (.inl 92)]), (40, [.inl (.int 3), .inr (.inl 74)], [.inr (.inl 96)]), (40, [.inl (.int 5), .inr (.inl 72)], [.inr (.inl 97)]), (40, [.inl (.int 6), .inr (.inl 73)], [.inr (.inl 98)])]) (P := [(6, .inr (.inl 90), .inl (.ref 14)), (6, .inr (.inl 94), .inl (.ref 14)), (1, .inr (.inl 69), .inl (.int 2))]) jm_ok185 (by decide +kernel) (by decide +kernel) hd F X1 X2 (fun F' hF hs => ?_)
  have b11 := hd_b (F := F) (F' := F') (k := 11) (hF 11 (by decide))
  have t89 : sy_dv F' (.inr (.inl 89)) = .int (((7 : Int32)) * (sy_i F 11)) := hd_o (hs 12 _ rfl) rfl b11 rfl
  have b70 := hd_b (F := F) (F' := F') (k := 70) (hF 70 (by decide))
  have t90 : sy_dv F' (.inr (.inl 90)) = .int ((((7 : Int32)) * (sy_i F 11)) + (sy_i F 70)) := hd_o (hs 13 _ rfl) t89 b70 rfl
  have t93 : sy_dv F' (.inr (.inl 93)) = .int (((7 : Int32)) * (sy_i F 11)) := hd_o (hs 16 _ rfl) rfl b11 rfl
  have t94 : sy_dv F' (.inr (.inl 94)) = .int ((((7 : Int32)) * (sy_i F 11)) + (sy_i F 70)) := hd_o (hs 17 _ rfl) t93 b70 rfl
  have b69 := hd_b (F := F) (F' := F') (k := 69) (hF 69 (by decide))
  have b73 := hd_b (F := F) (F' := F') (k := 73) (hF 73 (by decide))
  have b72 := hd_b (F := F) (F' := F') (k := 72) (hF 72 (by decide))
  have b74 := hd_b (F := F) (F' := F') (k := 74) (hF 74 (by decide))
  have a32 := hd_ba (F := F) (F' := F') (k := 32) (hF 32 (by decide))
  have t95 : sy_dv F' (.inr (.inl 95)) = .int ((sy_ai F 32).getD ((((7 : Int32)) * (sy_i F 11)) + (sy_i F 70)).toNatClampNeg 0) := hd_rd (hs 18 _ rfl) t94 a32
  have a33 := hd_ba (F := F) (F' := F') (k := 33) (hF 33 (by decide))
  have t91 : sy_dv F' (.inr (.inl 91)) = .int ((sy_ai F 33).getD ((((7 : Int32)) * (sy_i F 11)) + (sy_i F 70)).toNatClampNeg 0) := hd_rd (hs 14 _ rfl) t90 a33
  have b71 := hd_b (F := F) (F' := F') (k := 71) (hF 71 (by decide))
  have b76 := hd_b (F := F) (F' := F') (k := 76) (hF 76 (by decide))
  have b75 := hd_b (F := F) (F' := F') (k := 75) (hF 75 (by decide))
  have a52 := hd_ba (F := F) (F' := F') (k := 52) (hF 52 (by decide))
  have t77 : sy_da F' (.inr (.inl 77)) = .inl (jm_upd (sy_ai F 52) ((0 : Int32)).toNatClampNeg ((0 : Int32))) := hd_up (hs 0 _ rfl) rfl rfl a52
  have t78 : sy_da F' (.inr (.inl 78)) = .inl (jm_upd (jm_upd (sy_ai F 52) ((0 : Int32)).toNatClampNeg ((0 : Int32))) ((1 : Int32)).toNatClampNeg ((0 : Int32))) := hd_up (hs 1 _ rfl) rfl rfl t77
  have t79 : sy_da F' (.inr (.inl 79)) = .inl (jm_upd (jm_upd (jm_upd (sy_ai F 52) ((0 : Int32)).toNatClampNeg ((0 : Int32))) ((1 : Int32)).toNatClampNeg ((0 : Int32))) ((2 : Int32)).toNatClampNeg ((0 : Int32))) := hd_up (hs 2 _ rfl) rfl rfl t78
  have t80 : sy_da F' (.inr (.inl 80)) = .inl (jm_upd (jm_upd (jm_upd (jm_upd (sy_ai F 52) ((0 : Int32)).toNatClampNeg ((0 : Int32))) ((1 : Int32)).toNatClampNeg ((0 : Int32))) ((2 : Int32)).toNatClampNeg ((0 : Int32))) ((3 : Int32)).toNatClampNeg ((0 : Int32))) := hd_up (hs 3 _ rfl) rfl rfl t79
  have t81 : sy_da F' (.inr (.inl 81)) = .inl (jm_upd (jm_upd (jm_upd (jm_upd (jm_upd (sy_ai F 52) ((0 : Int32)).toNatClampNeg ((0 : Int32))) ((1 : Int32)).toNatClampNeg ((0 : Int32))) ((2 : Int32)).toNatClampNeg ((0 : Int32))) ((3 : Int32)).toNatClampNeg ((0 : Int32))) ((4 : Int32)).toNatClampNeg ((0 : Int32))) := hd_up (hs 4 _ rfl) rfl rfl t80
  have t82 : sy_da F' (.inr (.inl 82)) = .inl (jm_upd (jm_upd (jm_upd (jm_upd (jm_upd (jm_upd (sy_ai F 52) ((0 : Int32)).toNatClampNeg ((0 : Int32))) ((1 : Int32)).toNatClampNeg ((0 : Int32))) ((2 : Int32)).toNatClampNeg ((0 : Int32))) ((3 : Int32)).toNatClampNeg ((0 : Int32))) ((4 : Int32)).toNatClampNeg ((0 : Int32))) ((5 : Int32)).toNatClampNeg ((0 : Int32))) := hd_up (hs 5 _ rfl) rfl rfl t81
  have t83 : sy_da F' (.inr (.inl 83)) = .inl (jm_upd (jm_upd (jm_upd (jm_upd (jm_upd (jm_upd (jm_upd (sy_ai F 52) ((0 : Int32)).toNatClampNeg ((0 : Int32))) ((1 : Int32)).toNatClampNeg ((0 : Int32))) ((2 : Int32)).toNatClampNeg ((0 : Int32))) ((3 : Int32)).toNatClampNeg ((0 : Int32))) ((4 : Int32)).toNatClampNeg ((0 : Int32))) ((5 : Int32)).toNatClampNeg ((0 : Int32))) ((6 : Int32)).toNatClampNeg ((0 : Int32))) := hd_up (hs 6 _ rfl) rfl rfl t82
  have t84 : sy_da F' (.inr (.inl 84)) = .inl (jm_upd (jm_upd (jm_upd (jm_upd (jm_upd (jm_upd (jm_upd (jm_upd (sy_ai F 52) ((0 : Int32)).toNatClampNeg ((0 : Int32))) ((1 : Int32)).toNatClampNeg ((0 : Int32))) ((2 : Int32)).toNatClampNeg ((0 : Int32))) ((3 : Int32)).toNatClampNeg ((0 : Int32))) ((4 : Int32)).toNatClampNeg ((0 : Int32))) ((5 : Int32)).toNatClampNeg ((0 : Int32))) ((6 : Int32)).toNatClampNeg ((0 : Int32))) ((7 : Int32)).toNatClampNeg ((0 : Int32))) := hd_up (hs 7 _ rfl) rfl rfl t83
  have t85 : sy_da F' (.inr (.inl 85)) = .inl (jm_upd (jm_upd (jm_upd (jm_upd (jm_upd (jm_upd (jm_upd (jm_upd (jm_upd (sy_ai F 52) ((0 : Int32)).toNatClampNeg ((0 : Int32))) ((1 : Int32)).toNatClampNeg ((0 : Int32))) ((2 : Int32)).toNatClampNeg ((0 : Int32))) ((3 : Int32)).toNatClampNeg ((0 : Int32))) ((4 : Int32)).toNatClampNeg ((0 : Int32))) ((5 : Int32)).toNatClampNeg ((0 : Int32))) ((6 : Int32)).toNatClampNeg ((0 : Int32))) ((7 : Int32)).toNatClampNeg ((0 : Int32))) ((8 : Int32)).toNatClampNeg ((0 : Int32))) := hd_up (hs 8 _ rfl) rfl rfl t84
  have t86 : sy_da F' (.inr (.inl 86)) = .inl (jm_upd (jm_upd (jm_upd (jm_upd (jm_upd (jm_upd (jm_upd (jm_upd (jm_upd (jm_upd (sy_ai F 52) ((0 : Int32)).toNatClampNeg ((0 : Int32))) ((1 : Int32)).toNatClampNeg ((0 : Int32))) ((2 : Int32)).toNatClampNeg ((0 : Int32))) ((3 : Int32)).toNatClampNeg ((0 : Int32))) ((4 : Int32)).toNatClampNeg ((0 : Int32))) ((5 : Int32)).toNatClampNeg ((0 : Int32))) ((6 : Int32)).toNatClampNeg ((0 : Int32))) ((7 : Int32)).toNatClampNeg ((0 : Int32))) ((8 : Int32)).toNatClampNeg ((0 : Int32))) ((2 : Int32)).toNatClampNeg (sy_i F 75)) := hd_up (hs 9 _ rfl) rfl b75 t85
  have t87 : sy_da F' (.inr (.inl 87)) = .inl (jm_upd (jm_upd (jm_upd (jm_upd (jm_upd (jm_upd (jm_upd (jm_upd (jm_upd (jm_upd (jm_upd (sy_ai F 52) ((0 : Int32)).toNatClampNeg ((0 : Int32))) ((1 : Int32)).toNatClampNeg ((0 : Int32))) ((2 : Int32)).toNatClampNeg ((0 : Int32))) ((3 : Int32)).toNatClampNeg ((0 : Int32))) ((4 : Int32)).toNatClampNeg ((0 : Int32))) ((5 : Int32)).toNatClampNeg ((0 : Int32))) ((6 : Int32)).toNatClampNeg ((0 : Int32))) ((7 : Int32)).toNatClampNeg ((0 : Int32))) ((8 : Int32)).toNatClampNeg ((0 : Int32))) ((2 : Int32)).toNatClampNeg (sy_i F 75)) ((8 : Int32)).toNatClampNeg (sy_i F 76)) := hd_up (hs 10 _ rfl) rfl b76 t86
  have t88 : sy_da F' (.inr (.inl 88)) = .inl (jm_upd (jm_upd (jm_upd (jm_upd (jm_upd (jm_upd (jm_upd (jm_upd (jm_upd (jm_upd (jm_upd (jm_upd (sy_ai F 52) ((0 : Int32)).toNatClampNeg ((0 : Int32))) ((1 : Int32)).toNatClampNeg ((0 : Int32))) ((2 : Int32)).toNatClampNeg ((0 : Int32))) ((3 : Int32)).toNatClampNeg ((0 : Int32))) ((4 : Int32)).toNatClampNeg ((0 : Int32))) ((5 : Int32)).toNatClampNeg ((0 : Int32))) ((6 : Int32)).toNatClampNeg ((0 : Int32))) ((7 : Int32)).toNatClampNeg ((0 : Int32))) ((8 : Int32)).toNatClampNeg ((0 : Int32))) ((2 : Int32)).toNatClampNeg (sy_i F 75)) ((8 : Int32)).toNatClampNeg (sy_i F 76)) ((0 : Int32)).toNatClampNeg (sy_i F 71)) := hd_up (hs 11 _ rfl) rfl b71 t87
  have t92 : sy_da F' (.inr (.inl 92)) = .inl (jm_upd (jm_upd (jm_upd (jm_upd (jm_upd (jm_upd (jm_upd (jm_upd (jm_upd (jm_upd (jm_upd (jm_upd (jm_upd (sy_ai F 52) ((0 : Int32)).toNatClampNeg ((0 : Int32))) ((1 : Int32)).toNatClampNeg ((0 : Int32))) ((2 : Int32)).toNatClampNeg ((0 : Int32))) ((3 : Int32)).toNatClampNeg ((0 : Int32))) ((4 : Int32)).toNatClampNeg ((0 : Int32))) ((5 : Int32)).toNatClampNeg ((0 : Int32))) ((6 : Int32)).toNatClampNeg ((0 : Int32))) ((7 : Int32)).toNatClampNeg ((0 : Int32))) ((8 : Int32)).toNatClampNeg ((0 : Int32))) ((2 : Int32)).toNatClampNeg (sy_i F 75)) ((8 : Int32)).toNatClampNeg (sy_i F 76)) ((0 : Int32)).toNatClampNeg (sy_i F 71)) ((1 : Int32)).toNatClampNeg ((sy_ai F 33).getD ((((7 : Int32)) * (sy_i F 11)) + (sy_i F 70)).toNatClampNeg 0)) := hd_up (hs 15 _ rfl) rfl t91 t88
  have t96 : sy_da F' (.inr (.inl 96)) = .inl (jm_upd (jm_upd (jm_upd (jm_upd (jm_upd (jm_upd (jm_upd (jm_upd (jm_upd (jm_upd (jm_upd (jm_upd (jm_upd (jm_upd (sy_ai F 52) ((0 : Int32)).toNatClampNeg ((0 : Int32))) ((1 : Int32)).toNatClampNeg ((0 : Int32))) ((2 : Int32)).toNatClampNeg ((0 : Int32))) ((3 : Int32)).toNatClampNeg ((0 : Int32))) ((4 : Int32)).toNatClampNeg ((0 : Int32))) ((5 : Int32)).toNatClampNeg ((0 : Int32))) ((6 : Int32)).toNatClampNeg ((0 : Int32))) ((7 : Int32)).toNatClampNeg ((0 : Int32))) ((8 : Int32)).toNatClampNeg ((0 : Int32))) ((2 : Int32)).toNatClampNeg (sy_i F 75)) ((8 : Int32)).toNatClampNeg (sy_i F 76)) ((0 : Int32)).toNatClampNeg (sy_i F 71)) ((1 : Int32)).toNatClampNeg ((sy_ai F 33).getD ((((7 : Int32)) * (sy_i F 11)) + (sy_i F 70)).toNatClampNeg 0)) ((4 : Int32)).toNatClampNeg ((sy_ai F 32).getD ((((7 : Int32)) * (sy_i F 11)) + (sy_i F 70)).toNatClampNeg 0)) := hd_up (hs 19 _ rfl) rfl t95 t92
  have t97 : sy_da F' (.inr (.inl 97)) = .inl (jm_upd (jm_upd (jm_upd (jm_upd (jm_upd (jm_upd (jm_upd (jm_upd (jm_upd (jm_upd (jm_upd (jm_upd (jm_upd (jm_upd (jm_upd (sy_ai F 52) ((0 : Int32)).toNatClampNeg ((0 : Int32))) ((1 : Int32)).toNatClampNeg ((0 : Int32))) ((2 : Int32)).toNatClampNeg ((0 : Int32))) ((3 : Int32)).toNatClampNeg ((0 : Int32))) ((4 : Int32)).toNatClampNeg ((0 : Int32))) ((5 : Int32)).toNatClampNeg ((0 : Int32))) ((6 : Int32)).toNatClampNeg ((0 : Int32))) ((7 : Int32)).toNatClampNeg ((0 : Int32))) ((8 : Int32)).toNatClampNeg ((0 : Int32))) ((2 : Int32)).toNatClampNeg (sy_i F 75)) ((8 : Int32)).toNatClampNeg (sy_i F 76)) ((0 : Int32)).toNatClampNeg (sy_i F 71)) ((1 : Int32)).toNatClampNeg ((sy_ai F 33).getD ((((7 : Int32)) * (sy_i F 11)) + (sy_i F 70)).toNatClampNeg 0)) ((4 : Int32)).toNatClampNeg ((sy_ai F 32).getD ((((7 : Int32)) * (sy_i F 11)) + (sy_i F 70)).toNatClampNeg 0)) ((3 : Int32)).toNatClampNeg (sy_i F 74)) := hd_up (hs 20 _ rfl) rfl b74 t96
  have t98 : sy_da F' (.inr (.inl 98)) = .inl (jm_upd (jm_upd (jm_upd (jm_upd (jm_upd (jm_upd (jm_upd (jm_upd (jm_upd (jm_upd (jm_upd (jm_upd (jm_upd (jm_upd (jm_upd (jm_upd (sy_ai F 52) ((0 : Int32)).toNatClampNeg ((0 : Int32))) ((1 : Int32)).toNatClampNeg ((0 : Int32))) ((2 : Int32)).toNatClampNeg ((0 : Int32))) ((3 : Int32)).toNatClampNeg ((0 : Int32))) ((4 : Int32)).toNatClampNeg ((0 : Int32))) ((5 : Int32)).toNatClampNeg ((0 : Int32))) ((6 : Int32)).toNatClampNeg ((0 : Int32))) ((7 : Int32)).toNatClampNeg ((0 : Int32))) ((8 : Int32)).toNatClampNeg ((0 : Int32))) ((2 : Int32)).toNatClampNeg (sy_i F 75)) ((8 : Int32)).toNatClampNeg (sy_i F 76)) ((0 : Int32)).toNatClampNeg (sy_i F 71)) ((1 : Int32)).toNatClampNeg ((sy_ai F 33).getD ((((7 : Int32)) * (sy_i F 11)) + (sy_i F 70)).toNatClampNeg 0)) ((4 : Int32)).toNatClampNeg ((sy_ai F 32).getD ((((7 : Int32)) * (sy_i F 11)) + (sy_i F 70)).toNatClampNeg 0)) ((3 : Int32)).toNatClampNeg (sy_i F 74)) ((5 : Int32)).toNatClampNeg (sy_i F 72)) := hd_up (hs 21 _ rfl) rfl b72 t97
  have t99 : sy_da F' (.inr (.inl 99)) = .inl (jm_upd (jm_upd (jm_upd (jm_upd (jm_upd (jm_upd (jm_upd (jm_upd (jm_upd (jm_upd (jm_upd (jm_upd (jm_upd (jm_upd (jm_upd (jm_upd (jm_upd (sy_ai F 52) ((0 : Int32)).toNatClampNeg ((0 : Int32))) ((1 : Int32)).toNatClampNeg ((0 : Int32))) ((2 : Int32)).toNatClampNeg ((0 : Int32))) ((3 : Int32)).toNatClampNeg ((0 : Int32))) ((4 : Int32)).toNatClampNeg ((0 : Int32))) ((5 : Int32)).toNatClampNeg ((0 : Int32))) ((6 : Int32)).toNatClampNeg ((0 : Int32))) ((7 : Int32)).toNatClampNeg ((0 : Int32))) ((8 : Int32)).toNatClampNeg ((0 : Int32))) ((2 : Int32)).toNatClampNeg (sy_i F 75)) ((8 : Int32)).toNatClampNeg (sy_i F 76)) ((0 : Int32)).toNatClampNeg (sy_i F 71)) ((1 : Int32)).toNatClampNeg ((sy_ai F 33).getD ((((7 : Int32)) * (sy_i F 11)) + (sy_i F 70)).toNatClampNeg 0)) ((4 : Int32)).toNatClampNeg ((sy_ai F 32).getD ((((7 : Int32)) * (sy_i F 11)) + (sy_i F 70)).toNatClampNeg 0)) ((3 : Int32)).toNatClampNeg (sy_i F 74)) ((5 : Int32)).toNatClampNeg (sy_i F 72)) ((6 : Int32)).toNatClampNeg (sy_i F 73)) := hd_up (hs 22 _ rfl) rfl b73 t98
  have hB' : iv_in F' iv_B4 := iv_in_eq hB (fun j hj => hF j (Nat.lt_of_lt_of_le hj (by decide +kernel)))
  refine ⟨List.forall_mem_cons.mpr ⟨hd_pb t90 (by first | exact h0 | exact h0), List.forall_mem_cons.mpr ⟨hd_pb t94 (by first | exact h1 | exact h1), List.forall_mem_cons.mpr ⟨hd_p1 b69 rfl (by have hc : ((2) : Int32).toInt = 2 := (by decide); omega), fun _ h => absurd h List.not_mem_nil⟩⟩⟩, ?_⟩
  refine k _ ?_ ?_
  · exact fun j hj hn => (hd_keep hB' (Nat.lt_of_lt_of_le hj (by decide +kernel)) (by simp; omega)).trans (hF j (Nat.lt_of_lt_of_le hj (by decide)))
  · exact hd_ga (a := .inr (.inl 99)) (by decide +kernel) t99
theorem yhb_0_p1 {Ls : Nat} {xs : Nat → Int32} {d : Nat} {Q : Option Value → jm_h → Prop} (hd : 3 ≤ d) (F : Nat → sy_d) (X1 X2 : List jm_c) (hB : iv_in F iv_B4)
    (h0 : 0 ≤ ((((7 : Int32)) * (sy_i F 11)) + (sy_i F 70)).toInt ∧ ((((7 : Int32)) * (sy_i F 11)) + (sy_i F 70)).toInt < 14)
    (h1 : 0 ≤ ((((7 : Int32)) * (sy_i F 11)) + (sy_i F 70)).toInt ∧ ((((7 : Int32)) * (sy_i F 11)) + (sy_i F 70)).toInt < 14)
    (h2 : (sy_i F 69).toInt = 2)
    (k : ∀ F1 : Nat → sy_d, (∀ j, j < 69 → j ≠ 52 → F1 j = F j) → F1 52 = .inr (.inl (jm_upd (jm_upd (jm_upd (jm_upd (jm_upd (jm_upd (jm_upd (jm_upd (jm_upd (jm_upd (jm_upd (jm_upd (jm_upd (jm_upd (jm_upd (jm_upd (jm_upd (sy_ai F 52) ((0 : Int32)).toNatClampNeg ((0 : Int32))) ((1 : Int32)).toNatClampNeg ((0 : Int32))) ((2 : Int32)).toNatClampNeg ((0 : Int32))) ((3 : Int32)).toNatClampNeg ((0 : Int32))) ((4 : Int32)).toNatClampNeg ((0 : Int32))) ((5 : Int32)).toNatClampNeg ((0 : Int32))) ((6 : Int32)).toNatClampNeg ((0 : Int32))) ((7 : Int32)).toNatClampNeg ((0 : Int32))) ((8 : Int32)).toNatClampNeg ((0 : Int32))) ((2 : Int32)).toNatClampNeg (sy_i F 75)) ((8 : Int32)).toNatClampNeg (sy_i F 76)) ((0 : Int32)).toNatClampNeg (sy_i F 71)) ((1 : Int32)).toNatClampNeg ((sy_ai F 33).getD ((((7 : Int32)) * (sy_i F 11)) + (sy_i F 70)).toNatClampNeg 0)) ((4 : Int32)).toNatClampNeg ((sy_ai F 32).getD ((((7 : Int32)) * (sy_i F 11)) + (sy_i F 70)).toNatClampNeg 0)) ((3 : Int32)).toNatClampNeg (sy_i F 74)) ((5 : Int32)).toNatClampNeg (sy_i F 72)) ((6 : Int32)).toNatClampNeg (sy_i F 73))) → F1 69 = .inl (.int (sy_i F 71)) → hd_W Ls xs d jm_M185 Q (46, sy_dL F1 [some (.inl (.ref 1000)), none, none, none, none, none, none, none, none], sy_dS F1 [.inl (.int 100), .inl (.int 0), .inr (.inl 69), .inl (.int 2), .inl (.ref 1000)], sy_dh F1 X1 X2 (iv_H 4), 0, 0)) :
    hd_W Ls xs d jm_M185 Q (0, sy_dL F [some (.inl (.ref 1000)), some (.inr (.inl 69)), some (.inr (.inl 70)), some (.inr (.inl 71)), some (.inr (.inl 72)), some (.inr (.inl 73)), some (.inr (.inl 74)), some (.inr (.inl 75)), some (.inr (.inl 76))], sy_dS F [], sy_dh F X1 X2 (iv_H 4), 0, 0) := by
  refine hd_run (s := 4) (nv := 77) (pc := 46) (L := [some (.inl (.ref 1000)), none, none, none, none, none, none, none, none]) (S := [.inl (.int 100), .inl (.int 0), .inr (.inl 69), .inl (.int 2), .inl (.ref 1000)]) (uh := hd_ov (iv_id 0 iv_B4) [(52, .inr (.inr (.inl 99)))]) (ul := [.inl (.inr (.inl 71))]) (f := true) (sp := [46, 59]) (d0 := 2) (O := [false]) (T := [(40, [.inl (.int 0), .inl (.int 0)], [.inr (.inl 52)]), (40, [.inl (.int 1), .inl (.int 0)], [.inr (.inl 77)]), (40, [.inl (.int 2), .inl (.int 0)], [.inr (.inl 78)]), (40, [.inl (.int 3), .inl (.int 0)], [.inr (.inl 79)]), (40, [.inl (.int 4), .inl (.int 0)], [.inr (.inl 80)]), (40, [.inl (.int 5), .inl (.int 0)], [.inr (.inl 81)]), (40, [.inl (.int 6), .inl (.int 0)], [.inr (.inl 82)]), (40, [.inl (.int 7), .inl (.int 0)], [.inr (.inl 83)]), (40, [.inl (.int 8), .inl (.int 0)], [.inr (.inl 84)]), (40, [.inl (.int 2), .inr (.inl 75)], [.inr (.inl 85)]), (40, [.inl (.int 8), .inr (.inl 76)], [.inr (.inl 86)]), (40, [.inl (.int 0), .inr (.inl 71)], [.inr (.inl 87)]), (2, [.inl (.int 7), .inr (.inl 11)], []), (0, [.inr (.inl 89), .inr (.inl 70)], []), (30, [.inr (.inl 90)], [.inr (.inl 33)]), (40, [.inl (.int 1), .inr (.inl 91)], [.inr (.inl 88)]), (2, [.inl (.int 7), .inr (.inl 11)], []), (0, [.inr (.inl 93), .inr (.inl 70)], []), (30, [.inr (.inl 94)], [.inr (.inl 32)]), (40, [.inl (.int 4), .inr (.inl 95)], [.inr (.inl 92)]), (40, [.inl (.int 3), .inr (.inl 74)], [.inr (.inl 96)]), (40, [.inl (.int 5), .inr (.inl 72)], [.inr (.inl 97)]), (40, [.inl (.int 6), .inr (.inl 73)], [.inr (.inl 98)])]) (P := [(6, .inr (.inl 90), .inl (.ref 14)), (6, .inr (.inl 94), .inl (.ref 14)), (0, .inr (.inl 69), .inl (.int 2))]) jm_ok185 (by decide +kernel) (by decide +kernel) hd F X1 X2 (fun F' hF hs => ?_)
  have b11 := hd_b (F := F) (F' := F') (k := 11) (hF 11 (by decide))
  have t89 : sy_dv F' (.inr (.inl 89)) = .int (((7 : Int32)) * (sy_i F 11)) := hd_o (hs 12 _ rfl) rfl b11 rfl
  have b70 := hd_b (F := F) (F' := F') (k := 70) (hF 70 (by decide))
  have t90 : sy_dv F' (.inr (.inl 90)) = .int ((((7 : Int32)) * (sy_i F 11)) + (sy_i F 70)) := hd_o (hs 13 _ rfl) t89 b70 rfl
  have t93 : sy_dv F' (.inr (.inl 93)) = .int (((7 : Int32)) * (sy_i F 11)) := hd_o (hs 16 _ rfl) rfl b11 rfl
  have t94 : sy_dv F' (.inr (.inl 94)) = .int ((((7 : Int32)) * (sy_i F 11)) + (sy_i F 70)) := hd_o (hs 17 _ rfl) t93 b70 rfl
  have b69 := hd_b (F := F) (F' := F') (k := 69) (hF 69 (by decide))
  have b73 := hd_b (F := F) (F' := F') (k := 73) (hF 73 (by decide))
  have b72 := hd_b (F := F) (F' := F') (k := 72) (hF 72 (by decide))
  have b74 := hd_b (F := F) (F' := F') (k := 74) (hF 74 (by decide))
  have a32 := hd_ba (F := F) (F' := F') (k := 32) (hF 32 (by decide))
  have t95 : sy_dv F' (.inr (.inl 95)) = .int ((sy_ai F 32).getD ((((7 : Int32)) * (sy_i F 11)) + (sy_i F 70)).toNatClampNeg 0) := hd_rd (hs 18 _ rfl) t94 a32
  have a33 := hd_ba (F := F) (F' := F') (k := 33) (hF 33 (by decide))
  have t91 : sy_dv F' (.inr (.inl 91)) = .int ((sy_ai F 33).getD ((((7 : Int32)) * (sy_i F 11)) + (sy_i F 70)).toNatClampNeg 0) := hd_rd (hs 14 _ rfl) t90 a33
  have b71 := hd_b (F := F) (F' := F') (k := 71) (hF 71 (by decide))
  have b76 := hd_b (F := F) (F' := F') (k := 76) (hF 76 (by decide))
  have b75 := hd_b (F := F) (F' := F') (k := 75) (hF 75 (by decide))
  have a52 := hd_ba (F := F) (F' := F') (k := 52) (hF 52 (by decide))
  have t77 : sy_da F' (.inr (.inl 77)) = .inl (jm_upd (sy_ai F 52) ((0 : Int32)).toNatClampNeg ((0 : Int32))) := hd_up (hs 0 _ rfl) rfl rfl a52
  have t78 : sy_da F' (.inr (.inl 78)) = .inl (jm_upd (jm_upd (sy_ai F 52) ((0 : Int32)).toNatClampNeg ((0 : Int32))) ((1 : Int32)).toNatClampNeg ((0 : Int32))) := hd_up (hs 1 _ rfl) rfl rfl t77
  have t79 : sy_da F' (.inr (.inl 79)) = .inl (jm_upd (jm_upd (jm_upd (sy_ai F 52) ((0 : Int32)).toNatClampNeg ((0 : Int32))) ((1 : Int32)).toNatClampNeg ((0 : Int32))) ((2 : Int32)).toNatClampNeg ((0 : Int32))) := hd_up (hs 2 _ rfl) rfl rfl t78
  have t80 : sy_da F' (.inr (.inl 80)) = .inl (jm_upd (jm_upd (jm_upd (jm_upd (sy_ai F 52) ((0 : Int32)).toNatClampNeg ((0 : Int32))) ((1 : Int32)).toNatClampNeg ((0 : Int32))) ((2 : Int32)).toNatClampNeg ((0 : Int32))) ((3 : Int32)).toNatClampNeg ((0 : Int32))) := hd_up (hs 3 _ rfl) rfl rfl t79
  have t81 : sy_da F' (.inr (.inl 81)) = .inl (jm_upd (jm_upd (jm_upd (jm_upd (jm_upd (sy_ai F 52) ((0 : Int32)).toNatClampNeg ((0 : Int32))) ((1 : Int32)).toNatClampNeg ((0 : Int32))) ((2 : Int32)).toNatClampNeg ((0 : Int32))) ((3 : Int32)).toNatClampNeg ((0 : Int32))) ((4 : Int32)).toNatClampNeg ((0 : Int32))) := hd_up (hs 4 _ rfl) rfl rfl t80
  have t82 : sy_da F' (.inr (.inl 82)) = .inl (jm_upd (jm_upd (jm_upd (jm_upd (jm_upd (jm_upd (sy_ai F 52) ((0 : Int32)).toNatClampNeg ((0 : Int32))) ((1 : Int32)).toNatClampNeg ((0 : Int32))) ((2 : Int32)).toNatClampNeg ((0 : Int32))) ((3 : Int32)).toNatClampNeg ((0 : Int32))) ((4 : Int32)).toNatClampNeg ((0 : Int32))) ((5 : Int32)).toNatClampNeg ((0 : Int32))) := hd_up (hs 5 _ rfl) rfl rfl t81
  have t83 : sy_da F' (.inr (.inl 83)) = .inl (jm_upd (jm_upd (jm_upd (jm_upd (jm_upd (jm_upd (jm_upd (sy_ai F 52) ((0 : Int32)).toNatClampNeg ((0 : Int32))) ((1 : Int32)).toNatClampNeg ((0 : Int32))) ((2 : Int32)).toNatClampNeg ((0 : Int32))) ((3 : Int32)).toNatClampNeg ((0 : Int32))) ((4 : Int32)).toNatClampNeg ((0 : Int32))) ((5 : Int32)).toNatClampNeg ((0 : Int32))) ((6 : Int32)).toNatClampNeg ((0 : Int32))) := hd_up (hs 6 _ rfl) rfl rfl t82
  have t84 : sy_da F' (.inr (.inl 84)) = .inl (jm_upd (jm_upd (jm_upd (jm_upd (jm_upd (jm_upd (jm_upd (jm_upd (sy_ai F 52) ((0 : Int32)).toNatClampNeg ((0 : Int32))) ((1 : Int32)).toNatClampNeg ((0 : Int32))) ((2 : Int32)).toNatClampNeg ((0 : Int32))) ((3 : Int32)).toNatClampNeg ((0 : Int32))) ((4 : Int32)).toNatClampNeg ((0 : Int32))) ((5 : Int32)).toNatClampNeg ((0 : Int32))) ((6 : Int32)).toNatClampNeg ((0 : Int32))) ((7 : Int32)).toNatClampNeg ((0 : Int32))) := hd_up (hs 7 _ rfl) rfl rfl t83
  have t85 : sy_da F' (.inr (.inl 85)) = .inl (jm_upd (jm_upd (jm_upd (jm_upd (jm_upd (jm_upd (jm_upd (jm_upd (jm_upd (sy_ai F 52) ((0 : Int32)).toNatClampNeg ((0 : Int32))) ((1 : Int32)).toNatClampNeg ((0 : Int32))) ((2 : Int32)).toNatClampNeg ((0 : Int32))) ((3 : Int32)).toNatClampNeg ((0 : Int32))) ((4 : Int32)).toNatClampNeg ((0 : Int32))) ((5 : Int32)).toNatClampNeg ((0 : Int32))) ((6 : Int32)).toNatClampNeg ((0 : Int32))) ((7 : Int32)).toNatClampNeg ((0 : Int32))) ((8 : Int32)).toNatClampNeg ((0 : Int32))) := hd_up (hs 8 _ rfl) rfl rfl t84
  have t86 : sy_da F' (.inr (.inl 86)) = .inl (jm_upd (jm_upd (jm_upd (jm_upd (jm_upd (jm_upd (jm_upd (jm_upd (jm_upd (jm_upd (sy_ai F 52) ((0 : Int32)).toNatClampNeg ((0 : Int32))) ((1 : Int32)).toNatClampNeg ((0 : Int32))) ((2 : Int32)).toNatClampNeg ((0 : Int32))) ((3 : Int32)).toNatClampNeg ((0 : Int32))) ((4 : Int32)).toNatClampNeg ((0 : Int32))) ((5 : Int32)).toNatClampNeg ((0 : Int32))) ((6 : Int32)).toNatClampNeg ((0 : Int32))) ((7 : Int32)).toNatClampNeg ((0 : Int32))) ((8 : Int32)).toNatClampNeg ((0 : Int32))) ((2 : Int32)).toNatClampNeg (sy_i F 75)) := hd_up (hs 9 _ rfl) rfl b75 t85
  have t87 : sy_da F' (.inr (.inl 87)) = .inl (jm_upd (jm_upd (jm_upd (jm_upd (jm_upd (jm_upd (jm_upd (jm_upd (jm_upd (jm_upd (jm_upd (sy_ai F 52) ((0 : Int32)).toNatClampNeg ((0 : Int32))) ((1 : Int32)).toNatClampNeg ((0 : Int32))) ((2 : Int32)).toNatClampNeg ((0 : Int32))) ((3 : Int32)).toNatClampNeg ((0 : Int32))) ((4 : Int32)).toNatClampNeg ((0 : Int32))) ((5 : Int32)).toNatClampNeg ((0 : Int32))) ((6 : Int32)).toNatClampNeg ((0 : Int32))) ((7 : Int32)).toNatClampNeg ((0 : Int32))) ((8 : Int32)).toNatClampNeg ((0 : Int32))) ((2 : Int32)).toNatClampNeg (sy_i F 75)) ((8 : Int32)).toNatClampNeg (sy_i F 76)) := hd_up (hs 10 _ rfl) rfl b76 t86
  have t88 : sy_da F' (.inr (.inl 88)) = .inl (jm_upd (jm_upd (jm_upd (jm_upd (jm_upd (jm_upd (jm_upd (jm_upd (jm_upd (jm_upd (jm_upd (jm_upd (sy_ai F 52) ((0 : Int32)).toNatClampNeg ((0 : Int32))) ((1 : Int32)).toNatClampNeg ((0 : Int32))) ((2 : Int32)).toNatClampNeg ((0 : Int32))) ((3 : Int32)).toNatClampNeg ((0 : Int32))) ((4 : Int32)).toNatClampNeg ((0 : Int32))) ((5 : Int32)).toNatClampNeg ((0 : Int32))) ((6 : Int32)).toNatClampNeg ((0 : Int32))) ((7 : Int32)).toNatClampNeg ((0 : Int32))) ((8 : Int32)).toNatClampNeg ((0 : Int32))) ((2 : Int32)).toNatClampNeg (sy_i F 75)) ((8 : Int32)).toNatClampNeg (sy_i F 76)) ((0 : Int32)).toNatClampNeg (sy_i F 71)) := hd_up (hs 11 _ rfl) rfl b71 t87
  have t92 : sy_da F' (.inr (.inl 92)) = .inl (jm_upd (jm_upd (jm_upd (jm_upd (jm_upd (jm_upd (jm_upd (jm_upd (jm_upd (jm_upd (jm_upd (jm_upd (jm_upd (sy_ai F 52) ((0 : Int32)).toNatClampNeg ((0 : Int32))) ((1 : Int32)).toNatClampNeg ((0 : Int32))) ((2 : Int32)).toNatClampNeg ((0 : Int32))) ((3 : Int32)).toNatClampNeg ((0 : Int32))) ((4 : Int32)).toNatClampNeg ((0 : Int32))) ((5 : Int32)).toNatClampNeg ((0 : Int32))) ((6 : Int32)).toNatClampNeg ((0 : Int32))) ((7 : Int32)).toNatClampNeg ((0 : Int32))) ((8 : Int32)).toNatClampNeg ((0 : Int32))) ((2 : Int32)).toNatClampNeg (sy_i F 75)) ((8 : Int32)).toNatClampNeg (sy_i F 76)) ((0 : Int32)).toNatClampNeg (sy_i F 71)) ((1 : Int32)).toNatClampNeg ((sy_ai F 33).getD ((((7 : Int32)) * (sy_i F 11)) + (sy_i F 70)).toNatClampNeg 0)) := hd_up (hs 15 _ rfl) rfl t91 t88
  have t96 : sy_da F' (.inr (.inl 96)) = .inl (jm_upd (jm_upd (jm_upd (jm_upd (jm_upd (jm_upd (jm_upd (jm_upd (jm_upd (jm_upd (jm_upd (jm_upd (jm_upd (jm_upd (sy_ai F 52) ((0 : Int32)).toNatClampNeg ((0 : Int32))) ((1 : Int32)).toNatClampNeg ((0 : Int32))) ((2 : Int32)).toNatClampNeg ((0 : Int32))) ((3 : Int32)).toNatClampNeg ((0 : Int32))) ((4 : Int32)).toNatClampNeg ((0 : Int32))) ((5 : Int32)).toNatClampNeg ((0 : Int32))) ((6 : Int32)).toNatClampNeg ((0 : Int32))) ((7 : Int32)).toNatClampNeg ((0 : Int32))) ((8 : Int32)).toNatClampNeg ((0 : Int32))) ((2 : Int32)).toNatClampNeg (sy_i F 75)) ((8 : Int32)).toNatClampNeg (sy_i F 76)) ((0 : Int32)).toNatClampNeg (sy_i F 71)) ((1 : Int32)).toNatClampNeg ((sy_ai F 33).getD ((((7 : Int32)) * (sy_i F 11)) + (sy_i F 70)).toNatClampNeg 0)) ((4 : Int32)).toNatClampNeg ((sy_ai F 32).getD ((((7 : Int32)) * (sy_i F 11)) + (sy_i F 70)).toNatClampNeg 0)) := hd_up (hs 19 _ rfl) rfl t95 t92
  have t97 : sy_da F' (.inr (.inl 97)) = .inl (jm_upd (jm_upd (jm_upd (jm_upd (jm_upd (jm_upd (jm_upd (jm_upd (jm_upd (jm_upd (jm_upd (jm_upd (jm_upd (jm_upd (jm_upd (sy_ai F 52) ((0 : Int32)).toNatClampNeg ((0 : Int32))) ((1 : Int32)).toNatClampNeg ((0 : Int32))) ((2 : Int32)).toNatClampNeg ((0 : Int32))) ((3 : Int32)).toNatClampNeg ((0 : Int32))) ((4 : Int32)).toNatClampNeg ((0 : Int32))) ((5 : Int32)).toNatClampNeg ((0 : Int32))) ((6 : Int32)).toNatClampNeg ((0 : Int32))) ((7 : Int32)).toNatClampNeg ((0 : Int32))) ((8 : Int32)).toNatClampNeg ((0 : Int32))) ((2 : Int32)).toNatClampNeg (sy_i F 75)) ((8 : Int32)).toNatClampNeg (sy_i F 76)) ((0 : Int32)).toNatClampNeg (sy_i F 71)) ((1 : Int32)).toNatClampNeg ((sy_ai F 33).getD ((((7 : Int32)) * (sy_i F 11)) + (sy_i F 70)).toNatClampNeg 0)) ((4 : Int32)).toNatClampNeg ((sy_ai F 32).getD ((((7 : Int32)) * (sy_i F 11)) + (sy_i F 70)).toNatClampNeg 0)) ((3 : Int32)).toNatClampNeg (sy_i F 74)) := hd_up (hs 20 _ rfl) rfl b74 t96
  have t98 : sy_da F' (.inr (.inl 98)) = .inl (jm_upd (jm_upd (jm_upd (jm_upd (jm_upd (jm_upd (jm_upd (jm_upd (jm_upd (jm_upd (jm_upd (jm_upd (jm_upd (jm_upd (jm_upd (jm_upd (sy_ai F 52) ((0 : Int32)).toNatClampNeg ((0 : Int32))) ((1 : Int32)).toNatClampNeg ((0 : Int32))) ((2 : Int32)).toNatClampNeg ((0 : Int32))) ((3 : Int32)).toNatClampNeg ((0 : Int32))) ((4 : Int32)).toNatClampNeg ((0 : Int32))) ((5 : Int32)).toNatClampNeg ((0 : Int32))) ((6 : Int32)).toNatClampNeg ((0 : Int32))) ((7 : Int32)).toNatClampNeg ((0 : Int32))) ((8 : Int32)).toNatClampNeg ((0 : Int32))) ((2 : Int32)).toNatClampNeg (sy_i F 75)) ((8 : Int32)).toNatClampNeg (sy_i F 76)) ((0 : Int32)).toNatClampNeg (sy_i F 71)) ((1 : Int32)).toNatClampNeg ((sy_ai F 33).getD ((((7 : Int32)) * (sy_i F 11)) + (sy_i F 70)).toNatClampNeg 0)) ((4 : Int32)).toNatClampNeg ((sy_ai F 32).getD ((((7 : Int32)) * (sy_i F 11)) + (sy_i F 70)).toNatClampNeg 0)) ((3 : Int32)).toNatClampNeg (sy_i F 74)) ((5 : Int32)).toNatClampNeg (sy_i F 72)) := hd_up (hs 21 _ rfl) rfl b72 t97
  have t99 : sy_da F' (.inr (.inl 99)) = .inl (jm_upd (jm_upd (jm_upd (jm_upd (jm_upd (jm_upd (jm_upd (jm_upd (jm_upd (jm_upd (jm_upd (jm_upd (jm_upd (jm_upd (jm_upd (jm_upd (jm_upd (sy_ai F 52) ((0 : Int32)).toNatClampNeg ((0 : Int32))) ((1 : Int32)).toNatClampNeg ((0 : Int32))) ((2 : Int32)).toNatClampNeg ((0 : Int32))) ((3 : Int32)).toNatClampNeg ((0 : Int32))) ((4 : Int32)).toNatClampNeg ((0 : Int32))) ((5 : Int32)).toNatClampNeg ((0 : Int32))) ((6 : Int32)).toNatClampNeg ((0 : Int32))) ((7 : Int32)).toNatClampNeg ((0 : Int32))) ((8 : Int32)).toNatClampNeg ((0 : Int32))) ((2 : Int32)).toNatClampNeg (sy_i F 75)) ((8 : Int32)).toNatClampNeg (sy_i F 76)) ((0 : Int32)).toNatClampNeg (sy_i F 71)) ((1 : Int32)).toNatClampNeg ((sy_ai F 33).getD ((((7 : Int32)) * (sy_i F 11)) + (sy_i F 70)).toNatClampNeg 0)) ((4 : Int32)).toNatClampNeg ((sy_ai F 32).getD ((((7 : Int32)) * (sy_i F 11)) + (sy_i F 70)).toNatClampNeg 0)) ((3 : Int32)).toNatClampNeg (sy_i F 74)) ((5 : Int32)).toNatClampNeg (sy_i F 72)) ((6 : Int32)).toNatClampNeg (sy_i F 73)) := hd_up (hs 22 _ rfl) rfl b73 t98
  have hB' : iv_in F' iv_B4 := iv_in_eq hB (fun j hj => hF j (Nat.lt_of_lt_of_le hj (by decide +kernel)))
  refine ⟨List.forall_mem_cons.mpr ⟨hd_pb t90 (by first | exact h0 | exact h0), List.forall_mem_cons.mpr ⟨hd_pb t94 (by first | exact h1 | exact h1), List.forall_mem_cons.mpr ⟨hd_p0 b69 rfl (by have hc : ((2) : Int32).toInt = 2 := (by decide); omega), fun _ h => absurd h List.not_mem_nil⟩⟩⟩, ?_⟩
  refine k _ ?_ ?_ ?_
  · exact fun j hj hn => (hd_keep hB' (Nat.lt_of_lt_of_le hj (by decide +kernel)) (by simp; omega)).trans (hF j (Nat.lt_of_lt_of_le hj (by decide)))
  · exact hd_ga (a := .inr (.inl 99)) (by decide +kernel) t99
  · exact hd_gi (x := .inr (.inl 71)) (by decide +kernel) b71
theorem yhb_0 {Ls : Nat} {xs : Nat → Int32} {d : Nat} {Q : Option Value → jm_h → Prop} (hd : 3 ≤ d) (F : Nat → sy_d) (X1 X2 : List jm_c) (hB : iv_in F iv_B4)
    (a70 : 0 ≤ (sy_i F 70).toInt ∧ (sy_i F 70).toInt ≤ 6)
    (k0 : (sy_i F 69).toInt ≠ 2 → ∀ F1 : Nat → sy_d, iv_in F1 iv_B4 → (∀ j, j < 69 → j ∉ ([52] : List Nat) → F1 j = F j) → sy_ai F1 52 = jm_upd (jm_upd (jm_upd (jm_upd (jm_upd (jm_upd (jm_upd (jm_upd (jm_upd (jm_upd (jm_upd (jm_upd (jm_upd (jm_upd (jm_upd (jm_upd (jm_upd (sy_ai F 52) (0 : Int).toNat ((0 : Int32))) (1 : Int).toNat ((0 : Int32))) (2 : Int).toNat ((0 : Int32))) (3 : Int).toNat ((0 : Int32))) (4 : Int).toNat ((0 : Int32))) (5 : Int).toNat ((0 : Int32))) (6 : Int).toNat ((0 : Int32))) (7 : Int).toNat ((0 : Int32))) (8 : Int).toNat ((0 : Int32))) (2 : Int).toNat (sy_i F 75)) (8 : Int).toNat (sy_i F 76)) (0 : Int).toNat (sy_i F 71)) (1 : Int).toNat ((sy_ai F 33).getD (((7 * (sy_i F 11).toInt) + (sy_i F 70).toInt)).toNat 0)) (4 : Int).toNat ((sy_ai F 32).getD (((7 * (sy_i F 11).toInt) + (sy_i F 70).toInt)).toNat 0)) (3 : Int).toNat (sy_i F 74)) (5 : Int).toNat (sy_i F 72)) (6 : Int).toNat (sy_i F 73) → hd_W Ls xs d jm_M185 Q (59, sy_dL F1 [some (.inl (.ref 1000)), none, none, none, none, none, none, none, none], sy_dS F1 [.inl (.int 9), .inl (.int (-9)), .inl (.int 1), .inl (.int 1), .inl (.ref 1000)], sy_dh F1 X1 X2 (iv_H 4), 0, 0))
    (k1 : (sy_i F 69).toInt = 2 → ∀ F1 : Nat → sy_d, iv_in F1 iv_B4 → (∀ j, j < 69 → j ∉ ([52] : List Nat) → F1 j = F j) → sy_ai F1 52 = jm_upd (jm_upd (jm_upd (jm_upd (jm_upd (jm_upd (jm_upd (jm_upd (jm_upd (jm_upd (jm_upd (jm_upd (jm_upd (jm_upd (jm_upd (jm_upd (jm_upd (sy_ai F 52) (0 : Int).toNat ((0 : Int32))) (1 : Int).toNat ((0 : Int32))) (2 : Int).toNat ((0 : Int32))) (3 : Int).toNat ((0 : Int32))) (4 : Int).toNat ((0 : Int32))) (5 : Int).toNat ((0 : Int32))) (6 : Int).toNat ((0 : Int32))) (7 : Int).toNat ((0 : Int32))) (8 : Int).toNat ((0 : Int32))) (2 : Int).toNat (sy_i F 75)) (8 : Int).toNat (sy_i F 76)) (0 : Int).toNat (sy_i F 71)) (1 : Int).toNat ((sy_ai F 33).getD (((7 * (sy_i F 11).toInt) + (sy_i F 70).toInt)).toNat 0)) (4 : Int).toNat ((sy_ai F 32).getD (((7 * (sy_i F 11).toInt) + (sy_i F 70).toInt)).toNat 0)) (3 : Int).toNat (sy_i F 74)) (5 : Int).toNat (sy_i F 72)) (6 : Int).toNat (sy_i F 73) → (sy_i F1 69).toInt = (sy_i F 71).toInt → sy_i F1 69 = sy_i F 71 → hd_W Ls xs d jm_M185 Q (46, sy_dL F1 [some (.inl (.ref 1000)), none, none, none, none, none, none, none, none], sy_dS F1 [.inl (.int 100), .inl (.int 0), .inr (.inl 69), .inl (.int 2), .inl (.ref 1000)], sy_dh F1 X1 X2 (iv_H 4), 0, 0)) :
    hd_W Ls xs d jm_M185 Q (0, sy_dL F [some (.inl (.ref 1000)), some (.inr (.inl 69)), some (.inr (.inl 70)), some (.inr (.inl 71)), some (.inr (.inl 72)), some (.inr (.inl 73)), some (.inr (.inl 74)), some (.inr (.inl 75)), some (.inr (.inl 76))], sy_dS F [], sy_dh F X1 X2 (iv_H 4), 0, 0) := by
  by_cases g0 : (sy_i F 69).toInt ≠ 2
  · have c11 := nz_bx hB (k := 11) (lo := 0) (hi := 1) rfl
    have n89 : nzI (((7 : Int32)) * (sy_i F 11)) ((7 * (sy_i F 11).toInt)) := nz_mul (by decide : ((7 : Int32)).toInt = 7) (rfl : (sy_i F 11).toInt = (sy_i F 11).toInt) (by omega) (by omega)
    have n90 : nzI ((((7 : Int32)) * (sy_i F 11)) + (sy_i F 70)) (((7 * (sy_i F 11).toInt) + (sy_i F 70).toInt)) := nz_add (nzE n89) (rfl : (sy_i F 70).toInt = (sy_i F 70).toInt) (by omega) (by omega)
    have n93 : nzI (((7 : Int32)) * (sy_i F 11)) ((7 * (sy_i F 11).toInt)) := nz_mul (by decide : ((7 : Int32)).toInt = 7) (rfl : (sy_i F 11).toInt = (sy_i F 11).toInt) (by omega) (by omega)
    have n94 : nzI ((((7 : Int32)) * (sy_i F 11)) + (sy_i F 70)) (((7 * (sy_i F 11).toInt) + (sy_i F 70).toInt)) := nz_add (nzE n93) (rfl : (sy_i F 70).toInt = (sy_i F 70).toInt) (by omega) (by omega)
    have w99 : jm_upd (jm_upd (jm_upd (jm_upd (jm_upd (jm_upd (jm_upd (jm_upd (jm_upd (jm_upd (jm_upd (jm_upd (jm_upd (jm_upd (jm_upd (jm_upd (jm_upd (sy_ai F 52) ((0 : Int32)).toNatClampNeg ((0 : Int32))) ((1 : Int32)).toNatClampNeg ((0 : Int32))) ((2 : Int32)).toNatClampNeg ((0 : Int32))) ((3 : Int32)).toNatClampNeg ((0 : Int32))) ((4 : Int32)).toNatClampNeg ((0 : Int32))) ((5 : Int32)).toNatClampNeg ((0 : Int32))) ((6 : Int32)).toNatClampNeg ((0 : Int32))) ((7 : Int32)).toNatClampNeg ((0 : Int32))) ((8 : Int32)).toNatClampNeg ((0 : Int32))) ((2 : Int32)).toNatClampNeg (sy_i F 75)) ((8 : Int32)).toNatClampNeg (sy_i F 76)) ((0 : Int32)).toNatClampNeg (sy_i F 71)) ((1 : Int32)).toNatClampNeg ((sy_ai F 33).getD ((((7 : Int32)) * (sy_i F 11)) + (sy_i F 70)).toNatClampNeg 0)) ((4 : Int32)).toNatClampNeg ((sy_ai F 32).getD ((((7 : Int32)) * (sy_i F 11)) + (sy_i F 70)).toNatClampNeg 0)) ((3 : Int32)).toNatClampNeg (sy_i F 74)) ((5 : Int32)).toNatClampNeg (sy_i F 72)) ((6 : Int32)).toNatClampNeg (sy_i F 73) = jm_upd (jm_upd (jm_upd (jm_upd (jm_upd (jm_upd (jm_upd (jm_upd (jm_upd (jm_upd (jm_upd (jm_upd (jm_upd (jm_upd (jm_upd (jm_upd (jm_upd (sy_ai F 52) (0 : Int).toNat ((0 : Int32))) (1 : Int).toNat ((0 : Int32))) (2 : Int).toNat ((0 : Int32))) (3 : Int).toNat ((0 : Int32))) (4 : Int).toNat ((0 : Int32))) (5 : Int).toNat ((0 : Int32))) (6 : Int).toNat ((0 : Int32))) (7 : Int).toNat ((0 : Int32))) (8 : Int).toNat ((0 : Int32))) (2 : Int).toNat (sy_i F 75)) (8 : Int).toNat (sy_i F 76)) (0 : Int).toNat (sy_i F 71)) (1 : Int).toNat ((sy_ai F 33).getD (((7 * (sy_i F 11).toInt) + (sy_i F 70).toInt)).toNat 0)) (4 : Int).toNat ((sy_ai F 32).getD (((7 * (sy_i F 11).toInt) + (sy_i F 70).toInt)).toNat 0)) (3 : Int).toNat (sy_i F 74)) (5 : Int).toNat (sy_i F 72)) (6 : Int).toNat (sy_i F 73) := by simp only [nz_c, (nzE n89), (nzE n90), (nzE n93), (nzE n94), (by decide : ((0 : Int32)).toInt = 0), (by decide : ((1 : Int32)).toInt = 1), (by decide : ((2 : Int32)).toInt = 2), (by decide : ((3 : Int32)).toInt = 3), (by decide : ((4 : Int32)).toInt = 4), (by decide : ((5 : Int32)).toInt = 5), (by decide : ((6 : Int32)).toInt = 6), (by decide : ((7 : Int32)).toInt = 7), (by decide : ((8 : Int32)).toInt = 8)]
    exact yhb_0_p0 hd F X1 X2 hB (by first | (simp only [nz_c, (nzE n89), (nzE n90)]; exact ⟨by omega, by omega⟩) | exact ⟨by omega, by omega⟩ | (rw [(nzE n90)]; exact ⟨by omega, by omega⟩)) (by first | (simp only [nz_c, (nzE n93), (nzE n94)]; exact ⟨by omega, by omega⟩) | exact ⟨by omega, by omega⟩ | (rw [(nzE n94)]; exact ⟨by omega, by omega⟩)) (by first | exact g0 | (simp only [nz_c]; exact g0)) (fun F1 g e52 => k0 g0 F1 (nz_in hB [52] (fun j hj hn => g j hj (by simp only [List.mem_cons, List.not_mem_nil, or_false, not_or] at hn; omega)) (List.forall_mem_cons.mpr ⟨fun t ht => (Option.some.inj ht) ▸ (nz_hz2 e52), List.forall_mem_nil _⟩)) (fun j hj hn => g j hj (by simp only [List.mem_cons, List.not_mem_nil, or_false, not_or] at hn; omega)) ((zz_ai e52).trans w99))
  replace g0 : (sy_i F 69).toInt = 2 := by omega
  have c11 := nz_bx hB (k := 11) (lo := 0) (hi := 1) rfl
  have n89 : nzI (((7 : Int32)) * (sy_i F 11)) ((7 * (sy_i F 11).toInt)) := nz_mul (by decide : ((7 : Int32)).toInt = 7) (rfl : (sy_i F 11).toInt = (sy_i F 11).toInt) (by omega) (by omega)
  have n90 : nzI ((((7 : Int32)) * (sy_i F 11)) + (sy_i F 70)) (((7 * (sy_i F 11).toInt) + (sy_i F 70).toInt)) := nz_add (nzE n89) (rfl : (sy_i F 70).toInt = (sy_i F 70).toInt) (by omega) (by omega)
  have n93 : nzI (((7 : Int32)) * (sy_i F 11)) ((7 * (sy_i F 11).toInt)) := nz_mul (by decide : ((7 : Int32)).toInt = 7) (rfl : (sy_i F 11).toInt = (sy_i F 11).toInt) (by omega) (by omega)
  have n94 : nzI ((((7 : Int32)) * (sy_i F 11)) + (sy_i F 70)) (((7 * (sy_i F 11).toInt) + (sy_i F 70).toInt)) := nz_add (nzE n93) (rfl : (sy_i F 70).toInt = (sy_i F 70).toInt) (by omega) (by omega)
  have w99 : jm_upd (jm_upd (jm_upd (jm_upd (jm_upd (jm_upd (jm_upd (jm_upd (jm_upd (jm_upd (jm_upd (jm_upd (jm_upd (jm_upd (jm_upd (jm_upd (jm_upd (sy_ai F 52) ((0 : Int32)).toNatClampNeg ((0 : Int32))) ((1 : Int32)).toNatClampNeg ((0 : Int32))) ((2 : Int32)).toNatClampNeg ((0 : Int32))) ((3 : Int32)).toNatClampNeg ((0 : Int32))) ((4 : Int32)).toNatClampNeg ((0 : Int32))) ((5 : Int32)).toNatClampNeg ((0 : Int32))) ((6 : Int32)).toNatClampNeg ((0 : Int32))) ((7 : Int32)).toNatClampNeg ((0 : Int32))) ((8 : Int32)).toNatClampNeg ((0 : Int32))) ((2 : Int32)).toNatClampNeg (sy_i F 75)) ((8 : Int32)).toNatClampNeg (sy_i F 76)) ((0 : Int32)).toNatClampNeg (sy_i F 71)) ((1 : Int32)).toNatClampNeg ((sy_ai F 33).getD ((((7 : Int32)) * (sy_i F 11)) + (sy_i F 70)).toNatClampNeg 0)) ((4 : Int32)).toNatClampNeg ((sy_ai F 32).getD ((((7 : Int32)) * (sy_i F 11)) + (sy_i F 70)).toNatClampNeg 0)) ((3 : Int32)).toNatClampNeg (sy_i F 74)) ((5 : Int32)).toNatClampNeg (sy_i F 72)) ((6 : Int32)).toNatClampNeg (sy_i F 73) = jm_upd (jm_upd (jm_upd (jm_upd (jm_upd (jm_upd (jm_upd (jm_upd (jm_upd (jm_upd (jm_upd (jm_upd (jm_upd (jm_upd (jm_upd (jm_upd (jm_upd (sy_ai F 52) (0 : Int).toNat ((0 : Int32))) (1 : Int).toNat ((0 : Int32))) (2 : Int).toNat ((0 : Int32))) (3 : Int).toNat ((0 : Int32))) (4 : Int).toNat ((0 : Int32))) (5 : Int).toNat ((0 : Int32))) (6 : Int).toNat ((0 : Int32))) (7 : Int).toNat ((0 : Int32))) (8 : Int).toNat ((0 : Int32))) (2 : Int).toNat (sy_i F 75)) (8 : Int).toNat (sy_i F 76)) (0 : Int).toNat (sy_i F 71)) (1 : Int).toNat ((sy_ai F 33).getD (((7 * (sy_i F 11).toInt) + (sy_i F 70).toInt)).toNat 0)) (4 : Int).toNat ((sy_ai F 32).getD (((7 * (sy_i F 11).toInt) + (sy_i F 70).toInt)).toNat 0)) (3 : Int).toNat (sy_i F 74)) (5 : Int).toNat (sy_i F 72)) (6 : Int).toNat (sy_i F 73) := by simp only [nz_c, (nzE n89), (nzE n90), (nzE n93), (nzE n94), (by decide : ((0 : Int32)).toInt = 0), (by decide : ((1 : Int32)).toInt = 1), (by decide : ((2 : Int32)).toInt = 2), (by decide : ((3 : Int32)).toInt = 3), (by decide : ((4 : Int32)).toInt = 4), (by decide : ((5 : Int32)).toInt = 5), (by decide : ((6 : Int32)).toInt = 6), (by decide : ((7 : Int32)).toInt = 7), (by decide : ((8 : Int32)).toInt = 8)]
  exact yhb_0_p1 hd F X1 X2 hB (by first | (simp only [nz_c, (nzE n89), (nzE n90)]; exact ⟨by omega, by omega⟩) | exact ⟨by omega, by omega⟩ | (rw [(nzE n90)]; exact ⟨by omega, by omega⟩)) (by first | (simp only [nz_c, (nzE n93), (nzE n94)]; exact ⟨by omega, by omega⟩) | exact ⟨by omega, by omega⟩ | (rw [(nzE n94)]; exact ⟨by omega, by omega⟩)) (by first | exact g0 | (simp only [nz_c]; exact g0)) (fun F1 g e52 e69 => k1 g0 F1 (nz_in hB [52] (fun j hj hn => g j hj (by simp only [List.mem_cons, List.not_mem_nil, or_false, not_or] at hn; omega)) (List.forall_mem_cons.mpr ⟨fun t ht => (Option.some.inj ht) ▸ (nz_hz2 e52), List.forall_mem_nil _⟩)) (fun j hj hn => g j hj (by simp only [List.mem_cons, List.not_mem_nil, or_false, not_or] at hn; omega)) ((zz_ai e52).trans w99) ((congrArg Int32.toInt (zz_i e69)).trans (rfl : (sy_i F 71).toInt = (sy_i F 71).toInt)) ((zz_i e69).trans (rfl : sy_i F 71 = sy_i F 71)))
theorem yhb_49_p0 {Ls : Nat} {xs : Nat → Int32} {d : Nat} {Q : Option Value → jm_h → Prop} (hd : 1 ≤ d) (F : Nat → sy_d) (X1 X2 : List jm_c) (hB : iv_in F iv_B4)
    (k : ∀ F1 : Nat → sy_d, (∀ j, j < 69 → True → F1 j = F j) → F1 69 = .inl (.int (sy_i F 69)) → hd_W Ls xs d jm_M185 Q (62, sy_dL F1 [some (.inl (.ref 1000)), none, none, none, none, none, none, none, none], sy_dS F1 [.inr (.inl 69)], sy_dh F1 X1 X2 (iv_H 4), 0, 0)) :
    hd_W Ls xs d jm_M185 Q (49, sy_dL F [some (.inl (.ref 1000)), none, none, none, none, none, none, none, none], sy_dS F [.inr (.inl 69)], sy_dh F X1 X2 (iv_H 4), 0, 0) := by
  refine hd_run (s := 4) (nv := 70) (pc := 62) (L := [some (.inl (.ref 1000)), none, none, none, none, none, none, none, none]) (S := [.inr (.inl 69)]) (uh := hd_ov (iv_id 0 iv_B4) []) (ul := [.inl (.inr (.inl 69))]) (f := false) (sp := [62]) (d0 := 0) (O := []) (T := []) (P := []) jm_ok185 (by decide +kernel) (by decide +kernel) hd F X1 X2 (fun F' hF hs => ?_)
  have b69 := hd_b (F := F) (F' := F') (k := 69) (hF 69 (by decide))
  have hB' : iv_in F' iv_B4 := iv_in_eq hB (fun j hj => hF j (Nat.lt_of_lt_of_le hj (by decide +kernel)))
  refine ⟨fun _ h => absurd h List.not_mem_nil, ?_⟩
  refine k _ ?_ ?_
  · exact fun j hj _ => (hd_keep hB' (Nat.lt_of_lt_of_le hj (by decide +kernel)) (by simp)).trans (hF j (Nat.lt_of_lt_of_le hj (by decide)))
  · exact hd_gi (x := .inr (.inl 69)) (by decide +kernel) b69
theorem yhb_49 {Ls : Nat} {xs : Nat → Int32} {d : Nat} {Q : Option Value → jm_h → Prop} (hd : 1 ≤ d) (F : Nat → sy_d) (X1 X2 : List jm_c) (hB : iv_in F iv_B4)
    (k0 : ∀ F1 : Nat → sy_d, iv_in F1 iv_B4 → (∀ j, j < 69 → j ∉ ([] : List Nat) → F1 j = F j) → (sy_i F1 69).toInt = (sy_i F 69).toInt → sy_i F1 69 = sy_i F 69 → hd_W Ls xs d jm_M185 Q (62, sy_dL F1 [some (.inl (.ref 1000)), none, none, none, none, none, none, none, none], sy_dS F1 [.inr (.inl 69)], sy_dh F1 X1 X2 (iv_H 4), 0, 0)) :
    hd_W Ls xs d jm_M185 Q (49, sy_dL F [some (.inl (.ref 1000)), none, none, none, none, none, none, none, none], sy_dS F [.inr (.inl 69)], sy_dh F X1 X2 (iv_H 4), 0, 0) := by
  exact yhb_49_p0 hd F X1 X2 hB  (fun F1 g e69 => k0 F1 (nz_in hB [] (fun j hj hn => g j hj (by simp only [List.mem_cons, List.not_mem_nil, or_false, not_or] at hn; exact trivial)) (List.forall_mem_nil _)) (fun j hj hn => g j hj (by simp only [List.mem_cons, List.not_mem_nil, or_false, not_or] at hn; exact trivial)) ((congrArg Int32.toInt (zz_i e69)).trans (rfl : (sy_i F 69).toInt = (sy_i F 69).toInt)) ((zz_i e69).trans (rfl : sy_i F 69 = sy_i F 69)))
theorem yhb_62_p0 {Ls : Nat} {xs : Nat → Int32} {d : Nat} {Q : Option Value → jm_h → Prop} (hd : 1 ≤ d) (F : Nat → sy_d) (X1 X2 : List jm_c) (hB : iv_in F iv_B4)
    (k : ∀ F1 : Nat → sy_d, (∀ j, j < 69 → True → F1 j = F j) → Q (some (.int (sy_i F 69))) (sy_dh F1 X1 X2 (iv_H 4))) :
    hd_W Ls xs d jm_M185 Q (62, sy_dL F [some (.inl (.ref 1000)), none, none, none, none, none, none, none, none], sy_dS F [.inr (.inl 69)], sy_dh F X1 X2 (iv_H 4), 0, 0) := by
  refine hd_ret (s := 4) (nv := 70) (v := some (.inr (.inl 69))) (uh := hd_ov (iv_id 0 iv_B4) []) (f := false) (sp := []) (d0 := 0) (O := []) (T := []) (P := []) jm_ok185 (by decide +kernel) (by decide +kernel) hd F X1 X2 (fun F' hF hs => ?_)
  have b69 := hd_b (F := F) (F' := F') (k := 69) (hF 69 (by decide))
  have hB' : iv_in F' iv_B4 := iv_in_eq hB (fun j hj => hF j (Nat.lt_of_lt_of_le hj (by decide +kernel)))
  have hk := k (sy_cm F' (hd_ov (iv_id 0 iv_B4) [] ++ [])) (fun j hj _ => (hd_keep hB' (Nat.lt_of_lt_of_le hj (by decide +kernel)) (by simp)).trans (hF j (Nat.lt_of_lt_of_le hj (by decide))))
  refine ⟨fun _ h => absurd h List.not_mem_nil, ?_⟩
  show Q (some (sy_dv F' (.inr (.inl 69)))) _
  rw [b69]
  exact hk
theorem yhb_62 {Ls : Nat} {xs : Nat → Int32} {d : Nat} {Q : Option Value → jm_h → Prop} (hd : 1 ≤ d) (F : Nat → sy_d) (X1 X2 : List jm_c) (hB : iv_in F iv_B4)
    (k0 : ∀ F1 : Nat → sy_d, iv_in F1 iv_B4 → (∀ j, j < 69 → j ∉ ([] : List Nat) → F1 j = F j) → Q (some (.int (sy_i F 69))) (sy_dh F1 X1 X2 (iv_H 4))) :
    hd_W Ls xs d jm_M185 Q (62, sy_dL F [some (.inl (.ref 1000)), none, none, none, none, none, none, none, none], sy_dS F [.inr (.inl 69)], sy_dh F X1 X2 (iv_H 4), 0, 0) := by
  exact yhb_62_p0 hd F X1 X2 hB  (fun F1 g  => by rw [(rfl : sy_i F 69 = sy_i F 69)]; exact k0 F1 (nz_in hB [] (fun j hj hn => g j hj (by simp only [List.mem_cons, List.not_mem_nil, or_false, not_or] at hn; exact trivial)) (List.forall_mem_nil _)) (fun j hj hn => g j hj (by simp only [List.mem_cons, List.not_mem_nil, or_false, not_or] at hn; exact trivial)) )
end
section
/-! ===== a method begins ===== -/
theorem R_T {Ls : Nat} {xs : Nat → Int32} {d : Nat} {M : jm_M} {Q : Option Value → jm_h → Prop} {F : Nat → sy_d} {X1 X2 : List jm_c} (as : List Int32) (A : List sy_v) {vs : List Value} (hok : jm_ok jm_YN M) (hl : (sy_e1 A).length ≤ jm_mx M) (hA : A.map (sy_dv (nx 69 F as)) = vs)
    (h : ∀ F0 : Nat → sy_d, (∀ j, j < 69 → F0 j = F j) → (∀ i, sy_i F0 (69 + i) = as.getD i 0) → hd_W Ls xs d M Q (0, sy_dL F0 (sy_ent (jm_mx M) A), [], sy_dh F0 X1 X2 (iv_H 4), 0, 0)) : jm_T Ls xs d M vs (sy_dh F X1 X2 (iv_H 4)) 0 0 Q := by
  rw [nz_eH X1 X2 (nx_lt (F := F) (as := as)), ← hA]
  exact hd_T hok hl (h _ nx_lt (fun i => zz_i (nx_at i)))
theorem C_T {Ls : Nat} {xs : Nat → Int32} {d : Nat} {M : jm_M} {Q : Option Value → jm_h → Prop} {F : Nat → sy_d} {X1 X2 : List jm_c} {s : Nat} (hs : s < 4) (as : List Int32) (A : List sy_v) {vs : List Value} (hok : jm_ok jm_YN M) (hl : (sy_e1 A).length ≤ jm_mx M) (hA : A.map (sy_dv (nx 82 F as)) = vs)
    (h : ∀ F0 : Nat → sy_d, (∀ j, j < 82 → F0 j = F j) → (∀ i, sy_i F0 (82 + i) = as.getD i 0) → hd_W Ls xs d M Q (0, sy_dL F0 (sy_ent (jm_mx M) A), [], sy_dh F0 X1 X2 (iv_H s), 0, 0)) : jm_T Ls xs d M vs (sy_dh F X1 X2 (iv_H s)) 0 0 Q := by
  have e : sy_dh F X1 X2 (iv_H s) = sy_dh (nx 82 F as) X1 X2 (iv_H s) := by
    rw [dh_x F X1 X2 hs, dh_x (nx 82 F as) X1 X2 hs, dh_nx hs nx_lt]
  rw [e, ← hA]
  exact hd_T hok hl (h _ nx_lt (fun i => zz_i (nx_at i)))
/-! ===== the vars, and what the laws tell ===== -/
def vrs (ripe high hour blows across shaken propped lay left : Int32) : Nat → Int32
  | 0 => ripe
  | 1 => high
  | 2 => hour
  | 3 => blows
  | 4 => across
  | 5 => shaken
  | 6 => propped
  | 7 => lay
  | 8 => left
  | _ => 0
def tF (T : tX) (f : Nat) : t3 := T.1.getD f (0, 0, 0)
def tB (T : tX) (b : Nat) : t3 := T.2.1.getD b (0, 0, 0)
noncomputable def windT (T : tX) (hour left : Int32) : Int := lwT T 0 (vrs 0 0 hour 0 0 0 0 0 left)
noncomputable def ripeT (T : tX) (f : Nat) (ripe shaken propped blows hour left : Int32) : Int := lwT T 1 (vrs ripe (Int32.ofInt (tF T f).2.1) hour blows (Int32.ofInt (tF T f).1) shaken propped 0 left)
noncomputable def fallT (T : tX) (f : Nat) (ripe shaken propped blows hour left : Int32) : Int := lwT T 2 (vrs ripe (Int32.ofInt (tF T f).2.1) hour blows (Int32.ofInt (tF T f).1) shaken propped 0 left)
noncomputable def worthT (T : tX) (f : Nat) (ripe lay hour left : Int32) : Int := lwT T 3 (vrs ripe (Int32.ofInt (tF T f).2.1) hour 0 (Int32.ofInt (tF T f).1) 0 0 lay left)
noncomputable def bncT (T : tX) (f : Nat) (ripe hour left : Int32) : Int := lwT T 4 (vrs ripe (Int32.ofInt (tF T f).2.1) hour 0 (Int32.ofInt (tF T f).1) 0 0 0 left)
noncomputable def foundT (T : tX) (shaken blows hour left : Int32) : Int := lwT T 5 (vrs 0 0 hour blows 0 shaken 0 0 left)
theorem nine9 {p : Nat → Prop} (h0 : p 0) (h1 : p 1) (h2 : p 2) (h3 : p 3) (h4 : p 4) (h5 : p 5) (h6 : p 6) (h7 : p 7) (h8 : p 8) : ∀ j, j ≤ 8 → p j
  | 0, _ => h0
  | 1, _ => h1
  | 2, _ => h2
  | 3, _ => h3
  | 4, _ => h4
  | 5, _ => h5
  | 6, _ => h6
  | 7, _ => h7
  | 8, _ => h8
  | n + 9, h => absurd h (by omega)
theorem lwR_cg {T : tX} (hT : wT T) {k : Nat} {v v' : Nat → Int32} (h : ∀ j : Nat, j ≤ 8 → tvs k j = true → v j = v' j) : lwR T k v = lwR T k v' := by
  unfold lwR
  refine lwV_cg (fun j hj => ?_) _ (wfL_T hT k).2
  unfold mkv
  by_cases q : tvs k j = true
  · rw [if_pos q, if_pos q]
    exact h j hj q
  · rw [if_neg q, if_neg q]
theorem lwT_cg {T : tX} (hT : wT T) {k : Nat} {v v' : Nat → Int32} (h : ∀ j : Nat, j ≤ 8 → tvs k j = true → v j = v' j) : lwT T k v = lwT T k v' := by
  unfold lwT
  rw [lwR_cg hT h]
theorem bq_fl (F : Nat → sy_d) (b : Nat) : bq (fl F) b = bq F b := by
  unfold bq ix cut_
  rw [fl_a (by decide), fl_a (by decide), fl_a (by decide), fl_a (by decide), fl_a (by decide), fl_a (by decide), fl_a (by decide)]
theorem bL_fl (F : Nat → sy_d) (b : Nat) : ∀ n : Nat, bL (fl F) b n = bL F b n
  | 0 => rfl
  | n + 1 => by
    show bL (fl F) b n ++ [_] = bL F b n ++ [_]
    rw [bL_fl F b n, bq_fl]
theorem rX_law {T : tX} {F : Nat → sy_d} (h : rXl T F) {k : Nat} (hk : k < 6) : (T.2.2.2.2.2 k = none → ix F 42 (6 * (sy_i F 11).toInt.toNat + k) = ix F 43 (6 * (sy_i F 11).toInt.toNat + k)) ∧ ∀ l, T.2.2.2.2.2 k = some l → ix F 42 (6 * (sy_i F 11).toInt.toNat + k) ≤ ix F 43 (6 * (sy_i F 11).toInt.toNat + k) ∧ bL F (ix F 42 (6 * (sy_i F 11).toInt.toNat + k)).toNat (ix F 43 (6 * (sy_i F 11).toInt.toNat + k) - ix F 42 (6 * (sy_i F 11).toInt.toNat + k)).toNat = l := by
  have h6 := h.2.2.2.2.2 k hk
  constructor
  · intro q
    rw [q] at h6
    have h6 : ix (fl F) 42 (6 * sdf (fl F) + k) = ix (fl F) 43 (6 * sdf (fl F) + k) := h6
    rw [fl_s, fl_ix (by decide), fl_ix (by decide)] at h6
    exact h6
  · intro l q
    rw [q] at h6
    have h6 : ix (fl F) 42 (6 * sdf (fl F) + k) ≤ ix (fl F) 43 (6 * sdf (fl F) + k) ∧ bL (fl F) (ix (fl F) 42 (6 * sdf (fl F) + k)).toNat (ix (fl F) 43 (6 * sdf (fl F) + k) - ix (fl F) 42 (6 * sdf (fl F) + k)).toNat = l := h6
    rw [fl_s, fl_ix (by decide), fl_ix (by decide), bL_fl] at h6
    exact h6
theorem bL_len {F : Nat → sy_d} {b : Nat} : ∀ n : Nat, (bL F b n).length = n
  | 0 => rfl
  | n + 1 => by
    show (bL F b n ++ [_]).length = n + 1
    rw [List.length_append, bL_len n]
    rfl
section AV
variable {Ls : Nat} {xs : Nat → Int32} (F : Nat → sy_d) (X1 X2 : List jm_c)
theorem lw_V (hB : iv_in F iv_B4) {a : Int32} (ha : 0 ≤ a.toInt ∧ a.toInt ≤ 11) {l : List bRT} (h1 : ix F 42 a.toInt.toNat ≤ ix F 43 a.toInt.toNat) (h2 : bL F (ix F 42 a.toInt.toNat).toNat (ix F 43 a.toInt.toNat - ix F 42 a.toInt.toNat).toNat = l) (hw : ∀ b ∈ l, wfB b) : jm_T Ls xs 2 jm_M180 [.ref 1000, .int a] (sy_dh F X1 X2 (iv_H 4)) 0 0 (pI 4 X1 X2 (fun x F' => qR [17, 53] F F' ∧ x = lwV (v52 F) l)) := by
  refine R_T [a] [.inl (.ref 1000), .inr (.inl 69)] jm_ok180 (by decide) rfl (fun F0 k0 ki => ?_)
  have i69 : sy_i F0 69 = a := ki 0
  have b42 := nz_ba hB (k := 42) (lo := 0) (hi := 260) rfl a.toInt.toNat
  have b42 : 0 ≤ ix F 42 a.toInt.toNat ∧ ix F 42 a.toInt.toNat ≤ 260 := b42
  refine ylt_0 (by decide) F0 X1 X2 (hd_iveq hB k0) (by rw [i69]; omega) ?_
  intro F1 hb g e17 j17 e69 j69 e70 j70
  rw [i69] at e69 e70
  have e70 : (sy_i F1 70).toInt = ix F 42 a.toInt.toNat := by rw [e70, nz_fa (k0 42 (by decide))]; rfl
  have hl : l.length = (ix F 43 a.toInt.toNat - ix F 42 a.toInt.toNat).toNat := by rw [← h2]; exact bL_len _
  refine lv_L F X1 X2 hB (A := a.toInt) ha l F1 (qq_src (qq_mk hb g (by decide)) k0) e17 e69 (by omega) (by omega) ?_ hw
  rw [e70, hl]
  exact h2
theorem ak_V {T : tX} (hB : iv_in F iv_B4) (hX : rXl T F) (hT : wT T) {k : Nat} (hk : k < 6) {c p lo hi : Int32} {v : Nat → Int32} (hc : c.toInt = k) (hv : ∀ j, j ≤ 8 → v52 F j = mkv k v j) (hlo : lo.toInt = lLo k) (hhi : hi.toInt = lHi k) (hp : T.2.2.2.2.2 k = none → p = lwV (mkv k v) (pb k)) :
    jm_T Ls xs 4 jm_M179 [.ref 1000, .int c, .int p, .int lo, .int hi] (sy_dh F X1 X2 (iv_H 4)) 0 0 (pI 4 X1 X2 (fun x F' => qR [17, 53] F F' ∧ x.toInt = lwT T k v)) := by
  refine R_T [c, p, lo, hi] [.inl (.ref 1000), .inr (.inl 69), .inr (.inl 70), .inr (.inl 71), .inr (.inl 72)] jm_ok179 (by decide) rfl (fun F0 k0 ki => ?_)
  have i69 : sy_i F0 69 = c := ki 0
  have i70 : sy_i F0 70 = p := ki 1
  have i71 : sy_i F0 71 = lo := ki 2
  have i72 : sy_i F0 72 = hi := ki 3
  have c11 := nz_bx hB (k := 11) (lo := 0) (hi := 1) rfl
  have e11 : (sy_i F0 11).toInt = (sy_i F 11).toInt := nz_fi (k0 11 (by decide))
  have e69c : (sy_i F0 69).toInt = k := by rw [i69]; exact hc
  have a42 : sy_ai F0 42 = sy_ai F 42 := nz_fa (k0 42 (by decide))
  have a43 : sy_ai F0 43 = sy_ai F 43 := nz_fa (k0 43 (by decide))
  obtain ⟨A, hA⟩ : ∃ A : Nat, A = 6 * (sy_i F 11).toInt.toNat + k := ⟨_, rfl⟩
  have eA : (6 * (sy_i F0 11).toInt + (sy_i F0 69).toInt).toNat = A := by rw [i69, hc, e11, hA]; omega
  obtain ⟨x1, x2⟩ := rX_law hX hk
  rw [← hA] at x1 x2
  have hlh : lLo k ≤ lHi k := by unfold lLo lHi; (repeat' split) <;> omega
  have f42 : ((sy_ai F0 42).getD (6 * (sy_i F0 11).toInt + (sy_i F0 69).toInt).toNat 0).toInt = ix F 42 A := by rw [eA, a42]; rfl
  have f43 : ((sy_ai F0 43).getD (6 * (sy_i F0 11).toInt + (sy_i F0 69).toInt).toNat 0).toInt = ix F 43 A := by rw [eA, a43]; rfl
  have ew : ∀ x : Int32, x = lwV (v52 F) ((T.2.2.2.2.2 k).getD (pb k)) → hdz (lLo k) (lHi k) x.toInt = lwT T k v := fun x h => by
    unfold lwT lwR
    rw [h, lwV_cg hv _ (wfL_T hT k).2]
  have nn : ix F 43 A ≤ ix F 42 A → hdz (lLo k) (lHi k) p.toInt = lwT T k v := fun q => by
    cases e : T.2.2.2.2.2 k with
    | none =>
      refine ew p ?_
      rw [e, hp e]
      exact (lwV_cg hv _ (wfL_pb k).2).symm
    | some l =>
      obtain ⟨y1, y2⟩ := x2 l e
      have hl : l.length = (ix F 43 A - ix F 42 A).toNat := by rw [← y2]; exact bL_len _
      have hw := (hT.1.2.2 k l e).1
      match l, hl, hw with
      | [], _, hw => exact absurd hw (by intro z; exact z)
      | _ :: _, hl, _ =>
        simp only [List.length_cons] at hl
        omega
  refine yak_0 (by decide) F0 X1 X2 (hd_iveq hB k0) (by rw [i69]; omega) ?_ ?_ ?_ ?_
  · intro c0 c1 c2 F1 hb g
    refine ⟨_, F1, rfl, rfl, qq_src (qq_mk hb g (by decide)) k0, ?_⟩
    rw [f42, f43] at c0
    rw [← nn c0, i70]
    rw [i71, i70] at c1
    rw [i70, i72] at c2
    unfold hdz
    rw [if_neg (by omega), if_neg (by omega)]
  · intro c0 c1 c2 F1 hb g
    refine ⟨_, F1, rfl, rfl, qq_src (qq_mk hb g (by decide)) k0, ?_⟩
    rw [f42, f43] at c0
    rw [← nn c0, i72]
    rw [i71, i70] at c1
    rw [i70, i72] at c2
    unfold hdz
    rw [if_neg (by omega), if_pos (by omega)]
    exact hhi
  · intro c0 c1 F1 hb g
    refine ⟨_, F1, rfl, rfl, qq_src (qq_mk hb g (by decide)) k0, ?_⟩
    rw [f42, f43] at c0
    rw [← nn c0, i71]
    rw [i71, i70] at c1
    unfold hdz
    rw [if_pos (by omega)]
    exact hlo
  · intro c0 F1 hb g e69 j69 e70 j70 e71 j71
    rw [f42, f43] at c0
    have hs : ∃ l, T.2.2.2.2.2 k = some l := by
      cases e : T.2.2.2.2.2 k with
      | none =>
        have := x1 e
        omega
      | some l => exact ⟨l, rfl⟩
    obtain ⟨l, hl⟩ := hs
    obtain ⟨y1, y2⟩ := x2 l hl
    have q1 : qR [] F F1 := qq_src (qq_mk hb g (by decide)) k0
    have eA1 : (sy_i F1 71).toInt.toNat = A := by rw [e71]; exact eA
    have g42 : ix F1 42 (sy_i F1 71).toInt.toNat = ix F 42 A := by unfold ix; rw [eA1, qq_a q1 (by decide) (by decide)]
    have g43 : ix F1 43 (sy_i F1 71).toInt.toNat = ix F 43 A := by unfold ix; rw [eA1, qq_a q1 (by decide) (by decide)]
    refine hd_calI (R := fun x F' => qR [17, 53] F1 F' ∧ x = lwV (v52 F1) l) (nh := 69) (nv := 71) (s := 4) (s1 := 4) (d1 := 2) (M1 := jm_M180) (As := [.inl (.ref 1000), .inr (.inl 71)]) (rest := []) jm_ok179 rfl rfl (by decide) (by decide +kernel) (lw_V F1 X1 X2 hb (by omega) (by rw [g42, g43]; exact y1) ?_ (hT.1.2.2 k l hl).2) (fun F3 F' x hR p1 p2 p3 => ?_)
    · rw [g42, g43, ← y2]
      exact bL_kp _ (fun b _ _ => by
        unfold bq ix cut_
        rw [qq_a q1 (j := 44) (by decide) (by decide), qq_a q1 (j := 45) (by decide) (by decide), qq_a q1 (j := 46) (by decide) (by decide), qq_a q1 (j := 47) (by decide) (by decide), qq_a q1 (j := 48) (by decide) (by decide), qq_a q1 (j := 49) (by decide) (by decide), qq_a q1 (j := 50) (by decide) (by decide)])
    · obtain ⟨r1, r2⟩ := hR
      have q3 : qR [17, 53] F F3 := qq_trans (qq_up q1 (by decide)) (qR_dst r1 p1)
      have k69 : (sy_i F3 69).toInt = lLo k := by rw [nz_fi (p2 69 (by decide) (by decide)), e69, i71]; exact hlo
      have k70 : (sy_i F3 70).toInt = lHi k := by rw [nz_fi (p2 70 (by decide) (by decide)), e70, i72]; exact hhi
      have k71 : sy_i F3 71 = x := zz_i p3
      have ev : v52 F1 = v52 F := v52_F (qq_a q1 (by decide) (by decide))
      have hx : hdz (lLo k) (lHi k) x.toInt = lwT T k v := ew x (by rw [r2, ev, hl]; rfl)
      refine yak_37 (by decide) F3 X1 X2 q3.1 ?_ ?_ ?_
      · intro c1 c2 F4 hb4 g4
        refine ⟨_, F4, rfl, rfl, qq_on q3 hb4 g4 (by decide), ?_⟩
        rw [← hx, k71]
        rw [k71, k69] at c1
        rw [k71, k70] at c2
        unfold hdz
        rw [if_neg (by omega), if_neg (by omega)]
      · intro c1 c2 F4 hb4 g4
        refine ⟨_, F4, rfl, rfl, qq_on q3 hb4 g4 (by decide), ?_⟩
        rw [← hx, k70]
        rw [k71, k69] at c1
        rw [k71, k70] at c2
        unfold hdz
        rw [if_neg (by omega), if_pos (by omega)]
      · intro c1 F4 hb4 g4
        refine ⟨_, F4, rfl, rfl, qq_on q3 hb4 g4 (by decide), ?_⟩
        rw [← hx, k69]
        rw [k71, k69] at c1
        unfold hdz
        rw [if_pos (by omega)]
end AV
end
section
/-! ===== the reference: what its laws tell ===== -/
theorem mkv_t {k : Int} {v : Nat → Int32} {j : Nat} (h : tvs k j = true) : mkv k v j = v j := by
  unfold mkv
  rw [if_pos h]
theorem mkv_f {k : Int} {v : Nat → Int32} {j : Nat} (h : tvs k j = false) : mkv k v j = 0 := by
  unfold mkv
  rw [if_neg (by rw [h]; decide)]
theorem pb_V (v : Nat → Int32) (k : Nat) : lwV v (pb k) = if k = 1 then 1 else if k = 2 ∨ k = 3 then v 0 else 0 := by
  unfold pb
  by_cases q1 : k = 1
  · rw [if_pos q1, if_pos q1]
    rfl
  · rw [if_neg q1, if_neg q1]
    by_cases q2 : k = 2 ∨ k = 3
    · rw [if_pos q2, if_pos q2]
      rfl
    · rw [if_neg q2, if_neg q2]
      rfl
/-- nine9 noughts -/
def z9 (l : List Int32) : List Int32 := jm_upd (jm_upd (jm_upd (jm_upd (jm_upd (jm_upd (jm_upd (jm_upd (jm_upd l (0 : Int).toNat ((0 : Int32))) (1 : Int).toNat ((0 : Int32))) (2 : Int).toNat ((0 : Int32))) (3 : Int).toNat ((0 : Int32))) (4 : Int).toNat ((0 : Int32))) (5 : Int).toNat ((0 : Int32))) (6 : Int).toNat ((0 : Int32))) (7 : Int).toNat ((0 : Int32))) (8 : Int).toNat ((0 : Int32))
theorem z9_at {l : List Int32} : ∀ j : Nat, j ≤ 8 → (z9 l).getD j 0 = 0 := fun j hj => by
  unfold z9
  rw [jm_upd_at, jm_upd_at, jm_upd_at, jm_upd_at, jm_upd_at, jm_upd_at, jm_upd_at, jm_upd_at, jm_upd_at]
  revert j
  exact nine9 rfl rfl rfl rfl rfl rfl rfl rfl rfl
theorem rX_n {T : tX} {F : Nat → sy_d} (h : rXl T F) : ix F 31 (sy_i F 11).toInt.toNat = T.1.length ∧ ix F 35 (sy_i F 11).toInt.toNat = T.2.1.length ∧ ix F 39 (sy_i F 11).toInt.toNat = T.2.2.1 ∧ ix F 40 (sy_i F 11).toInt.toNat = T.2.2.2.1 ∧ ix F 41 (sy_i F 11).toInt.toNat = T.2.2.2.2.1 := by
  obtain ⟨t1, t2, t4, t5, t7, -⟩ := h
  have t1 := t1.1
  have t2 := t2.1
  rw [fl_s, fl_ix (by decide)] at t1 t2 t4 t5 t7
  exact ⟨t1, t2, t4, t5, t7⟩
theorem gD {l : List t3} {f : Nat} (h : f < l.length) : l[f]? = some (l.getD f (0, 0, 0)) := by
  rw [List.getD_eq_getElem?_getD, List.getElem?_eq_getElem h]
  rfl
theorem rX_f {T : tX} {F : Nat → sy_d} (h : rXl T F) {f : Nat} (hf : f < T.1.length) : ix F 32 (7 * (sy_i F 11).toInt.toNat + f) = (tF T f).1 ∧ ix F 33 (7 * (sy_i F 11).toInt.toNat + f) = (tF T f).2.1 ∧ ix F 34 (7 * (sy_i F 11).toInt.toNat + f) = (tF T f).2.2 := by
  have t := h.1.2 f (tF T f) (gD hf)
  rw [fl_s, fl_ix (by decide), fl_ix (by decide), fl_ix (by decide)] at t
  exact t
theorem rX_b {T : tX} {F : Nat → sy_d} (h : rXl T F) {f : Nat} (hf : f < T.2.1.length) : ix F 36 (4 * (sy_i F 11).toInt.toNat + f) = (tB T f).1 ∧ ix F 37 (4 * (sy_i F 11).toInt.toNat + f) = (tB T f).2.1 ∧ ix F 38 (4 * (sy_i F 11).toInt.toNat + f) = (tB T f).2.2 := by
  have t := h.2.1.2 f (tB T f) (gD hf)
  rw [fl_s, fl_ix (by decide), fl_ix (by decide), fl_ix (by decide)] at t
  exact t
/-- the reference has the text T -/
def cR (T : tX) (F : Nat → sy_d) : Prop := iv_in F iv_B4 ∧ rXl T F ∧ wT T
theorem cR_q {T : tX} {F F1 : Nat → sy_d} {W : List Nat} (h : cR T F) (q : qR W F F1) (hW : ∀ a ∈ W, (a < 31 ∨ 50 < a) ∧ a ≠ 11) : cR T F1 := by
  have n11 : 11 ∉ W := fun z => (hW 11 z).2 rfl
  refine ⟨q.1, rXl_eq h.2.1 (nz_fi (q.2 11 (by decide) n11)) (fun a h1 h2 => qq_a q (by omega) (fun z => ?_)), h.2.2⟩
  have := (hW a z).1
  omega
section WB
variable {Ls : Nat} {xs : Nat → Int32} {T : tX} (F : Nat → sy_d) (X1 X2 : List jm_c)
theorem wb_V (hC : cR T F) (h l : Int32) : jm_T Ls xs 5 jm_M181 [.ref 1000, .int h, .int l] (sy_dh F X1 X2 (iv_H 4)) 0 0 (pI 4 X1 X2 (fun x F' => qR [17, 52, 53] F F' ∧ x.toInt = windT T h l)) := by
  refine R_T [h, l] [.inl (.ref 1000), .inr (.inl 69), .inr (.inl 70)] jm_ok181 (by decide) rfl (fun F0 k0 ki => ?_)
  have i69 : sy_i F0 69 = h := ki 0
  have i70 : sy_i F0 70 = l := ki 1
  refine ywb_0 (by decide) F0 X1 X2 (hd_iveq hC.1 k0) ?_
  intro F1 hb g a52
  have q1 : qR [17, 52, 53] F F1 := qq_src (qq_mk hb g (by decide)) k0
  have c1 := cR_q hC q1 (by decide)
  rw [i69, i70] at a52
  have a52 : sy_ai F1 52 = jm_upd (jm_upd (z9 (sy_ai F0 52)) (2 : Int).toNat (h)) (8 : Int).toNat (l) := a52
  have kz : ∀ j : Nat, j ≤ 8 → v52 F1 j = if j = (8 : Int).toNat then l else if j = (2 : Int).toNat then h else 0 := fun j hj => by
    show (sy_ai F1 52).getD j 0 = _
    rw [a52, jm_upd_at, jm_upd_at, z9_at j hj]
  have hv : ∀ j : Nat, j ≤ 8 → v52 F1 j = mkv 0 (vrs 0 0 h 0 0 0 0 0 l) j := nine9 (by rw [kz _ (by decide), mkv_f (by decide)]; rfl) (by rw [kz _ (by decide), mkv_f (by decide)]; rfl) (by rw [kz _ (by decide), mkv_t (by decide)]; rfl) (by rw [kz _ (by decide), mkv_f (by decide)]; rfl) (by rw [kz _ (by decide), mkv_f (by decide)]; rfl) (by rw [kz _ (by decide), mkv_f (by decide)]; rfl) (by rw [kz _ (by decide), mkv_f (by decide)]; rfl) (by rw [kz _ (by decide), mkv_f (by decide)]; rfl) (by rw [kz _ (by decide), mkv_t (by decide)]; rfl)
  refine hd_calI (R := fun x F' => qR [17, 53] F1 F' ∧ x.toInt = lwT T 0 (vrs 0 0 h 0 0 0 0 0 l)) (nh := 69) (nv := 69) (s := 4) (s1 := 4) (d1 := 4) (M1 := jm_M179) (As := [.inl (.ref 1000), .inl (.int 0), .inl (.int 0), .inl (.int 0), .inl (.int 9)]) (rest := []) jm_ok181 rfl rfl (by decide) (by decide +kernel) (ak_V F1 X1 X2 hb c1.2.1 c1.2.2 (by decide) (by decide) hv (by decide) (by decide) (fun _ => by rw [pb_V]; rfl)) (fun F3 F' x hR p1 p2 p3 => ?_)
  have q3 := qq_trans q1 (qR_dst (qq_up (W' := [17, 52, 53]) hR.1 (by decide)) p1)
  refine ywb_15 (by decide) F3 X1 X2 q3.1 ?_
  intro F4 hb4 g4
  exact ⟨_, F4, rfl, rfl, qq_on q3 hb4 g4 (by decide), by rw [zz_i p3]; exact hR.2⟩
theorem wo_V (hC : cR T F) (f r y h l : Int32) (hf : 0 ≤ f.toInt ∧ f.toInt < T.1.length) : jm_T Ls xs 5 jm_M183 [.ref 1000, .int f, .int r, .int y, .int h, .int l] (sy_dh F X1 X2 (iv_H 4)) 0 0 (pI 4 X1 X2 (fun x F' => qR [17, 52, 53] F F' ∧ x.toInt = worthT T f.toInt.toNat r y h l)) := by
  refine R_T [f, r, y, h, l] [.inl (.ref 1000), .inr (.inl 69), .inr (.inl 70), .inr (.inl 71), .inr (.inl 72), .inr (.inl 73)] jm_ok183 (by decide) rfl (fun F0 k0 ki => ?_)
  have i69 : sy_i F0 69 = f := ki 0
  have i70 : sy_i F0 70 = r := ki 1
  have i71 : sy_i F0 71 = y := ki 2
  have i72 : sy_i F0 72 = h := ki 3
  have i73 : sy_i F0 73 = l := ki 4
  have c11 := nz_bx hC.1 (k := 11) (lo := 0) (hi := 1) rfl
  have e11 : (sy_i F0 11).toInt = (sy_i F 11).toInt := nz_fi (k0 11 (by decide))
  have hfi : (sy_i F0 69).toInt = f.toInt := congrArg Int32.toInt i69
  have hn : f.toInt.toNat < T.1.length := by omega
  have l7 := hC.2.2.1.1
  obtain ⟨t1, t2, -⟩ := rX_f hC.2.1 hn
  have ei : (7 * (sy_i F0 11).toInt + (sy_i F0 69).toInt).toNat = 7 * (sy_i F 11).toInt.toNat + f.toInt.toNat := by omega
  have eh : (sy_ai F0 33).getD (7 * (sy_i F0 11).toInt + (sy_i F0 69).toInt).toNat 0 = Int32.ofInt (tF T f.toInt.toNat).2.1 := by
    rw [ei, nz_fa (k0 33 (by decide))]
    exact (ofi t2).symm
  have ex : (sy_ai F0 32).getD (7 * (sy_i F0 11).toInt + (sy_i F0 69).toInt).toNat 0 = Int32.ofInt (tF T f.toInt.toNat).1 := by
    rw [ei, nz_fa (k0 32 (by decide))]
    exact (ofi t1).symm
  refine ywo_0 (by decide) F0 X1 X2 (hd_iveq hC.1 k0) (by omega) ?_
  intro F1 hb g a52 e69 j69
  have q1 : qR [17, 52, 53] F F1 := qq_src (qq_mk hb g (by decide)) k0
  have c1 := cR_q hC q1 (by decide)
  rw [i72, i73, i70, i71, eh, ex] at a52
  rw [i70] at j69
  have a52 : sy_ai F1 52 = jm_upd (jm_upd (jm_upd (jm_upd (jm_upd (jm_upd (z9 (sy_ai F0 52)) (2 : Int).toNat (h)) (8 : Int).toNat (l)) (0 : Int).toNat (r)) (1 : Int).toNat (Int32.ofInt (tF T f.toInt.toNat).2.1)) (4 : Int).toNat (Int32.ofInt (tF T f.toInt.toNat).1)) (7 : Int).toNat (y) := a52
  have kz : ∀ j : Nat, j ≤ 8 → v52 F1 j = if j = (7 : Int).toNat then y else if j = (4 : Int).toNat then Int32.ofInt (tF T f.toInt.toNat).1 else if j = (1 : Int).toNat then Int32.ofInt (tF T f.toInt.toNat).2.1 else if j = (0 : Int).toNat then r else if j = (8 : Int).toNat then l else if j = (2 : Int).toNat then h else 0 := fun j hj => by
    show (sy_ai F1 52).getD j 0 = _
    rw [a52, jm_upd_at, jm_upd_at, jm_upd_at, jm_upd_at, jm_upd_at, jm_upd_at, z9_at j hj]
  have hv : ∀ j : Nat, j ≤ 8 → v52 F1 j = mkv 3 (vrs r (Int32.ofInt (tF T f.toInt.toNat).2.1) h 0 (Int32.ofInt (tF T f.toInt.toNat).1) 0 0 y l) j := nine9 (by rw [kz _ (by decide), mkv_t (by decide)]; rfl) (by rw [kz _ (by decide), mkv_t (by decide)]; rfl) (by rw [kz _ (by decide), mkv_t (by decide)]; rfl) (by rw [kz _ (by decide), mkv_f (by decide)]; rfl) (by rw [kz _ (by decide), mkv_t (by decide)]; rfl) (by rw [kz _ (by decide), mkv_f (by decide)]; rfl) (by rw [kz _ (by decide), mkv_f (by decide)]; rfl) (by rw [kz _ (by decide), mkv_t (by decide)]; rfl) (by rw [kz _ (by decide), mkv_t (by decide)]; rfl)
  refine hd_calI (R := fun x F' => qR [17, 53] F1 F' ∧ x.toInt = lwT T 3 (vrs r (Int32.ofInt (tF T f.toInt.toNat).2.1) h 0 (Int32.ofInt (tF T f.toInt.toNat).1) 0 0 y l)) (nh := 69) (nv := 69) (s := 4) (s1 := 4) (d1 := 4) (M1 := jm_M179) (As := [.inl (.ref 1000), .inl (.int 3), .inr (.inl 69), .inl (.int 0), .inl (.int 99)]) (rest := []) jm_ok183 rfl rfl (by decide) (by decide +kernel) (ak_V F1 X1 X2 hb c1.2.1 c1.2.2 (by decide) (by decide) hv (by decide) (by decide) (fun _ => by rw [pb_V, j69]; rw [mkv_t (by decide)]; rfl)) (fun F3 F' x hR p1 p2 p3 => ?_)
  have q3 := qq_trans q1 (qR_dst (qq_up (W' := [17, 52, 53]) hR.1 (by decide)) p1)
  refine ywo_27 (by decide) F3 X1 X2 q3.1 ?_
  intro F4 hb4 g4
  exact ⟨_, F4, rfl, rfl, qq_on q3 hb4 g4 (by decide), by rw [zz_i p3]; exact hR.2⟩
theorem bo_V (hC : cR T F) (f r h l : Int32) (hf : 0 ≤ f.toInt ∧ f.toInt < T.1.length) : jm_T Ls xs 5 jm_M184 [.ref 1000, .int f, .int r, .int h, .int l] (sy_dh F X1 X2 (iv_H 4)) 0 0 (pI 4 X1 X2 (fun x F' => qR [17, 52, 53] F F' ∧ x.toInt = bncT T f.toInt.toNat r h l)) := by
  refine R_T [f, r, h, l] [.inl (.ref 1000), .inr (.inl 69), .inr (.inl 70), .inr (.inl 71), .inr (.inl 72)] jm_ok184 (by decide) rfl (fun F0 k0 ki => ?_)
  have i69 : sy_i F0 69 = f := ki 0
  have i70 : sy_i F0 70 = r := ki 1
  have i71 : sy_i F0 71 = h := ki 2
  have i72 : sy_i F0 72 = l := ki 3
  have c11 := nz_bx hC.1 (k := 11) (lo := 0) (hi := 1) rfl
  have e11 : (sy_i F0 11).toInt = (sy_i F 11).toInt := nz_fi (k0 11 (by decide))
  have hfi : (sy_i F0 69).toInt = f.toInt := congrArg Int32.toInt i69
  have hn : f.toInt.toNat < T.1.length := by omega
  have l7 := hC.2.2.1.1
  obtain ⟨t1, t2, -⟩ := rX_f hC.2.1 hn
  have ei : (7 * (sy_i F0 11).toInt + (sy_i F0 69).toInt).toNat = 7 * (sy_i F 11).toInt.toNat + f.toInt.toNat := by omega
  have eh : (sy_ai F0 33).getD (7 * (sy_i F0 11).toInt + (sy_i F0 69).toInt).toNat 0 = Int32.ofInt (tF T f.toInt.toNat).2.1 := by
    rw [ei, nz_fa (k0 33 (by decide))]
    exact (ofi t2).symm
  have ex : (sy_ai F0 32).getD (7 * (sy_i F0 11).toInt + (sy_i F0 69).toInt).toNat 0 = Int32.ofInt (tF T f.toInt.toNat).1 := by
    rw [ei, nz_fa (k0 32 (by decide))]
    exact (ofi t1).symm
  refine ybo_0 (by decide) F0 X1 X2 (hd_iveq hC.1 k0) (by omega) ?_
  intro F1 hb g a52
  have q1 : qR [17, 52, 53] F F1 := qq_src (qq_mk hb g (by decide)) k0
  have c1 := cR_q hC q1 (by decide)
  rw [i71, i72, i70, eh, ex] at a52
  have a52 : sy_ai F1 52 = jm_upd (jm_upd (jm_upd (jm_upd (jm_upd (z9 (sy_ai F0 52)) (2 : Int).toNat (h)) (8 : Int).toNat (l)) (0 : Int).toNat (r)) (1 : Int).toNat (Int32.ofInt (tF T f.toInt.toNat).2.1)) (4 : Int).toNat (Int32.ofInt (tF T f.toInt.toNat).1) := a52
  have kz : ∀ j : Nat, j ≤ 8 → v52 F1 j = if j = (4 : Int).toNat then Int32.ofInt (tF T f.toInt.toNat).1 else if j = (1 : Int).toNat then Int32.ofInt (tF T f.toInt.toNat).2.1 else if j = (0 : Int).toNat then r else if j = (8 : Int).toNat then l else if j = (2 : Int).toNat then h else 0 := fun j hj => by
    show (sy_ai F1 52).getD j 0 = _
    rw [a52, jm_upd_at, jm_upd_at, jm_upd_at, jm_upd_at, jm_upd_at, z9_at j hj]
  have hv : ∀ j : Nat, j ≤ 8 → v52 F1 j = mkv 4 (vrs r (Int32.ofInt (tF T f.toInt.toNat).2.1) h 0 (Int32.ofInt (tF T f.toInt.toNat).1) 0 0 0 l) j := nine9 (by rw [kz _ (by decide), mkv_t (by decide)]; rfl) (by rw [kz _ (by decide), mkv_t (by decide)]; rfl) (by rw [kz _ (by decide), mkv_t (by decide)]; rfl) (by rw [kz _ (by decide), mkv_f (by decide)]; rfl) (by rw [kz _ (by decide), mkv_t (by decide)]; rfl) (by rw [kz _ (by decide), mkv_f (by decide)]; rfl) (by rw [kz _ (by decide), mkv_f (by decide)]; rfl) (by rw [kz _ (by decide), mkv_f (by decide)]; rfl) (by rw [kz _ (by decide), mkv_t (by decide)]; rfl)
  refine hd_calI (R := fun x F' => qR [17, 53] F1 F' ∧ x.toInt = lwT T 4 (vrs r (Int32.ofInt (tF T f.toInt.toNat).2.1) h 0 (Int32.ofInt (tF T f.toInt.toNat).1) 0 0 0 l)) (nh := 69) (nv := 69) (s := 4) (s1 := 4) (d1 := 4) (M1 := jm_M179) (As := [.inl (.ref 1000), .inl (.int 4), .inl (.int 0), .inl (.int (-9)), .inl (.int 9)]) (rest := []) jm_ok184 rfl rfl (by decide) (by decide +kernel) (ak_V F1 X1 X2 hb c1.2.1 c1.2.2 (by decide) (by decide) hv (by decide) (by decide) (fun _ => by rw [pb_V]; rfl)) (fun F3 F' x hR p1 p2 p3 => ?_)
  have q3 := qq_trans q1 (qR_dst (qq_up (W' := [17, 52, 53]) hR.1 (by decide)) p1)
  refine ybo_19 (by decide) F3 X1 X2 q3.1 ?_
  intro F4 hb4 g4
  exact ⟨_, F4, rfl, rfl, qq_on q3 hb4 g4 (by decide), by rw [zz_i p3]; exact hR.2⟩
theorem hf_V (hC : cR T F) (f r s p w h l : Int32) (hf : 0 ≤ f.toInt ∧ f.toInt < T.1.length) : jm_T Ls xs 5 jm_M185 [.ref 1000, .int 2, .int f, .int r, .int s, .int p, .int w, .int h, .int l] (sy_dh F X1 X2 (iv_H 4)) 0 0 (pI 4 X1 X2 (fun x F' => qR [17, 52, 53] F F' ∧ x.toInt = fallT T f.toInt.toNat r s p w h l)) := by
  refine R_T [2, f, r, s, p, w, h, l] [.inl (.ref 1000), .inr (.inl 69), .inr (.inl 70), .inr (.inl 71), .inr (.inl 72), .inr (.inl 73), .inr (.inl 74), .inr (.inl 75), .inr (.inl 76)] jm_ok185 (by decide) rfl (fun F0 k0 ki => ?_)
  have i69 : sy_i F0 69 = 2 := ki 0
  have i70 : sy_i F0 70 = f := ki 1
  have i71 : sy_i F0 71 = r := ki 2
  have i72 : sy_i F0 72 = s := ki 3
  have i73 : sy_i F0 73 = p := ki 4
  have i74 : sy_i F0 74 = w := ki 5
  have i75 : sy_i F0 75 = h := ki 6
  have i76 : sy_i F0 76 = l := ki 7
  have z69 : (sy_i F0 69).toInt = 2 := by rw [i69]; decide
  have c11 := nz_bx hC.1 (k := 11) (lo := 0) (hi := 1) rfl
  have e11 : (sy_i F0 11).toInt = (sy_i F 11).toInt := nz_fi (k0 11 (by decide))
  have hfi : (sy_i F0 70).toInt = f.toInt := congrArg Int32.toInt i70
  have hn : f.toInt.toNat < T.1.length := by omega
  have l7 := hC.2.2.1.1
  obtain ⟨t1, t2, -⟩ := rX_f hC.2.1 hn
  have ei : (7 * (sy_i F0 11).toInt + (sy_i F0 70).toInt).toNat = 7 * (sy_i F 11).toInt.toNat + f.toInt.toNat := by omega
  have eh : (sy_ai F0 33).getD (7 * (sy_i F0 11).toInt + (sy_i F0 70).toInt).toNat 0 = Int32.ofInt (tF T f.toInt.toNat).2.1 := by
    rw [ei, nz_fa (k0 33 (by decide))]
    exact (ofi t2).symm
  have ex : (sy_ai F0 32).getD (7 * (sy_i F0 11).toInt + (sy_i F0 70).toInt).toNat 0 = Int32.ofInt (tF T f.toInt.toNat).1 := by
    rw [ei, nz_fa (k0 32 (by decide))]
    exact (ofi t1).symm
  refine yhb_0 (by decide) F0 X1 X2 (hd_iveq hC.1 k0) (by omega) ?_ ?_
  · intro c0
    exact absurd z69 c0
  · intro c0 F1 hb g a52 e69 j69
    have q1 : qR [17, 52, 53] F F1 := qq_src (qq_mk hb g (by decide)) k0
    have c1 := cR_q hC q1 (by decide)
    rw [i75, i76, i71, eh, ex, i74, i72, i73] at a52
    rw [i71] at j69
    have a52 : sy_ai F1 52 = jm_upd (jm_upd (jm_upd (jm_upd (jm_upd (jm_upd (jm_upd (jm_upd (z9 (sy_ai F0 52)) (2 : Int).toNat (h)) (8 : Int).toNat (l)) (0 : Int).toNat (r)) (1 : Int).toNat (Int32.ofInt (tF T f.toInt.toNat).2.1)) (4 : Int).toNat (Int32.ofInt (tF T f.toInt.toNat).1)) (3 : Int).toNat (w)) (5 : Int).toNat (s)) (6 : Int).toNat (p) := a52
    have kz : ∀ j : Nat, j ≤ 8 → v52 F1 j = if j = (6 : Int).toNat then p else if j = (5 : Int).toNat then s else if j = (3 : Int).toNat then w else if j = (4 : Int).toNat then Int32.ofInt (tF T f.toInt.toNat).1 else if j = (1 : Int).toNat then Int32.ofInt (tF T f.toInt.toNat).2.1 else if j = (0 : Int).toNat then r else if j = (8 : Int).toNat then l else if j = (2 : Int).toNat then h else 0 := fun j hj => by
      show (sy_ai F1 52).getD j 0 = _
      rw [a52, jm_upd_at, jm_upd_at, jm_upd_at, jm_upd_at, jm_upd_at, jm_upd_at, jm_upd_at, jm_upd_at, z9_at j hj]
    have hv : ∀ j : Nat, j ≤ 8 → v52 F1 j = mkv 2 (vrs r (Int32.ofInt (tF T f.toInt.toNat).2.1) h w (Int32.ofInt (tF T f.toInt.toNat).1) s p 0 l) j := nine9 (by rw [kz _ (by decide), mkv_t (by decide)]; rfl) (by rw [kz _ (by decide), mkv_t (by decide)]; rfl) (by rw [kz _ (by decide), mkv_t (by decide)]; rfl) (by rw [kz _ (by decide), mkv_t (by decide)]; rfl) (by rw [kz _ (by decide), mkv_t (by decide)]; rfl) (by rw [kz _ (by decide), mkv_t (by decide)]; rfl) (by rw [kz _ (by decide), mkv_t (by decide)]; rfl) (by rw [kz _ (by decide), mkv_f (by decide)]; rfl) (by rw [kz _ (by decide), mkv_t (by decide)]; rfl)
    refine hd_calI (R := fun x F' => qR [17, 53] F1 F' ∧ x.toInt = lwT T 2 (vrs r (Int32.ofInt (tF T f.toInt.toNat).2.1) h w (Int32.ofInt (tF T f.toInt.toNat).1) s p 0 l)) (nh := 69) (nv := 69) (s := 4) (s1 := 4) (d1 := 4) (M1 := jm_M179) (As := [.inl (.ref 1000), .inl (.int 2), .inr (.inl 69), .inl (.int 0), .inl (.int 100)]) (rest := []) jm_ok185 rfl rfl (by decide) (by decide +kernel) (ak_V F1 X1 X2 hb c1.2.1 c1.2.2 (by decide) (by decide) hv (by decide) (by decide) (fun _ => by rw [pb_V, j69]; rw [mkv_t (by decide)]; rfl)) (fun F3 F' x hR p1 p2 p3 => ?_)
    have q3 := qq_trans q1 (qR_dst (qq_up (W' := [17, 52, 53]) hR.1 (by decide)) p1)
    refine yhb_49 (by decide) F3 X1 X2 q3.1 ?_
    intro F4 hb4 g4 e69' j69'
    have q4' := qq_on q3 hb4 g4 (by decide)
    refine yhb_62 (by decide) F4 X1 X2 hb4 ?_
    intro F5 hb5 g5
    exact ⟨_, F5, rfl, rfl, qq_on q4' hb5 g5 (by decide), by rw [e69', zz_i p3]; exact hR.2⟩
theorem hr_V (hC : cR T F) (f r s p w h l : Int32) (hf : 0 ≤ f.toInt ∧ f.toInt < T.1.length) : jm_T Ls xs 5 jm_M185 [.ref 1000, .int 1, .int f, .int r, .int s, .int p, .int w, .int h, .int l] (sy_dh F X1 X2 (iv_H 4)) 0 0 (pI 4 X1 X2 (fun x F' => qR [17, 52, 53] F F' ∧ x.toInt = ripeT T f.toInt.toNat r s p w h l)) := by
  refine R_T [1, f, r, s, p, w, h, l] [.inl (.ref 1000), .inr (.inl 69), .inr (.inl 70), .inr (.inl 71), .inr (.inl 72), .inr (.inl 73), .inr (.inl 74), .inr (.inl 75), .inr (.inl 76)] jm_ok185 (by decide) rfl (fun F0 k0 ki => ?_)
  have i69 : sy_i F0 69 = 1 := ki 0
  have i70 : sy_i F0 70 = f := ki 1
  have i71 : sy_i F0 71 = r := ki 2
  have i72 : sy_i F0 72 = s := ki 3
  have i73 : sy_i F0 73 = p := ki 4
  have i74 : sy_i F0 74 = w := ki 5
  have i75 : sy_i F0 75 = h := ki 6
  have i76 : sy_i F0 76 = l := ki 7
  have z69 : (sy_i F0 69).toInt = 1 := by rw [i69]; decide
  have c11 := nz_bx hC.1 (k := 11) (lo := 0) (hi := 1) rfl
  have e11 : (sy_i F0 11).toInt = (sy_i F 11).toInt := nz_fi (k0 11 (by decide))
  have hfi : (sy_i F0 70).toInt = f.toInt := congrArg Int32.toInt i70
  have hn : f.toInt.toNat < T.1.length := by omega
  have l7 := hC.2.2.1.1
  obtain ⟨t1, t2, -⟩ := rX_f hC.2.1 hn
  have ei : (7 * (sy_i F0 11).toInt + (sy_i F0 70).toInt).toNat = 7 * (sy_i F 11).toInt.toNat + f.toInt.toNat := by omega
  have eh : (sy_ai F0 33).getD (7 * (sy_i F0 11).toInt + (sy_i F0 70).toInt).toNat 0 = Int32.ofInt (tF T f.toInt.toNat).2.1 := by
    rw [ei, nz_fa (k0 33 (by decide))]
    exact (ofi t2).symm
  have ex : (sy_ai F0 32).getD (7 * (sy_i F0 11).toInt + (sy_i F0 70).toInt).toNat 0 = Int32.ofInt (tF T f.toInt.toNat).1 := by
    rw [ei, nz_fa (k0 32 (by decide))]
    exact (ofi t1).symm
  refine yhb_0 (by decide) F0 X1 X2 (hd_iveq hC.1 k0) (by omega) ?_ ?_
  · intro c0 F1 hb g a52
    have q1 : qR [17, 52, 53] F F1 := qq_src (qq_mk hb g (by decide)) k0
    have c1 := cR_q hC q1 (by decide)
    rw [i75, i76, i71, eh, ex, i74, i72, i73] at a52
    have a52 : sy_ai F1 52 = jm_upd (jm_upd (jm_upd (jm_upd (jm_upd (jm_upd (jm_upd (jm_upd (z9 (sy_ai F0 52)) (2 : Int).toNat (h)) (8 : Int).toNat (l)) (0 : Int).toNat (r)) (1 : Int).toNat (Int32.ofInt (tF T f.toInt.toNat).2.1)) (4 : Int).toNat (Int32.ofInt (tF T f.toInt.toNat).1)) (3 : Int).toNat (w)) (5 : Int).toNat (s)) (6 : Int).toNat (p) := a52
    have kz : ∀ j : Nat, j ≤ 8 → v52 F1 j = if j = (6 : Int).toNat then p else if j = (5 : Int).toNat then s else if j = (3 : Int).toNat then w else if j = (4 : Int).toNat then Int32.ofInt (tF T f.toInt.toNat).1 else if j = (1 : Int).toNat then Int32.ofInt (tF T f.toInt.toNat).2.1 else if j = (0 : Int).toNat then r else if j = (8 : Int).toNat then l else if j = (2 : Int).toNat then h else 0 := fun j hj => by
      show (sy_ai F1 52).getD j 0 = _
      rw [a52, jm_upd_at, jm_upd_at, jm_upd_at, jm_upd_at, jm_upd_at, jm_upd_at, jm_upd_at, jm_upd_at, z9_at j hj]
    have hv : ∀ j : Nat, j ≤ 8 → v52 F1 j = mkv 1 (vrs r (Int32.ofInt (tF T f.toInt.toNat).2.1) h w (Int32.ofInt (tF T f.toInt.toNat).1) s p 0 l) j := nine9 (by rw [kz _ (by decide), mkv_t (by decide)]; rfl) (by rw [kz _ (by decide), mkv_t (by decide)]; rfl) (by rw [kz _ (by decide), mkv_t (by decide)]; rfl) (by rw [kz _ (by decide), mkv_t (by decide)]; rfl) (by rw [kz _ (by decide), mkv_t (by decide)]; rfl) (by rw [kz _ (by decide), mkv_t (by decide)]; rfl) (by rw [kz _ (by decide), mkv_t (by decide)]; rfl) (by rw [kz _ (by decide), mkv_f (by decide)]; rfl) (by rw [kz _ (by decide), mkv_t (by decide)]; rfl)
    refine hd_calI (R := fun x F' => qR [17, 53] F1 F' ∧ x.toInt = lwT T 1 (vrs r (Int32.ofInt (tF T f.toInt.toNat).2.1) h w (Int32.ofInt (tF T f.toInt.toNat).1) s p 0 l)) (nh := 69) (nv := 69) (s := 4) (s1 := 4) (d1 := 4) (M1 := jm_M179) (As := [.inl (.ref 1000), .inl (.int 1), .inl (.int 1), .inl (.int (-9)), .inl (.int 9)]) (rest := []) jm_ok185 rfl rfl (by decide) (by decide +kernel) (ak_V F1 X1 X2 hb c1.2.1 c1.2.2 (by decide) (by decide) hv (by decide) (by decide) (fun _ => by rw [pb_V]; rfl)) (fun F3 F' x hR p1 p2 p3 => ?_)
    have q3 := qq_trans q1 (qR_dst (qq_up (W' := [17, 52, 53]) hR.1 (by decide)) p1)
    refine yhb_62 (by decide) F3 X1 X2 q3.1 ?_
    intro F5 hb5 g5
    exact ⟨_, F5, rfl, rfl, qq_on q3 hb5 g5 (by decide), by rw [zz_i p3]; exact hR.2⟩
  · intro c0
    omega
end WB
end
