/-! ===== what a law's branches are worth, v: the vars ===== -/
def opv (o : Int) (a b : Int32) : Int32 := if o = 2 then a + b else if o = 3 then a - b else if o = 4 then a * b else a / b
def evR (v : Nat → Int32) : List rO → List Int32 → Option (List Int32)
  | [], S => some S
  | o :: r, S => if o.1 = 0 then evR v r (Int32.ofInt o.2 :: S) else if o.1 = 1 then evR v r (v o.2.toNat :: S) else match S with
    | b :: a :: S' => if o.1 = 5 ∧ b = 0 then none else evR v r (opv o.1 a b :: S')
    | _ => none
theorem evR_0 {v : Nat → Int32} {o : rO} {r : List rO} {S : List Int32} (h : o.1 = 0) : evR v (o :: r) S = evR v r (Int32.ofInt o.2 :: S) := by
  show (if _ then _ else _) = _
  rw [if_pos h]
theorem evR_1 {v : Nat → Int32} {o : rO} {r : List rO} {S : List Int32} (h : o.1 = 1) : evR v (o :: r) S = evR v r (v o.2.toNat :: S) := by
  show (if _ then _ else _) = _
  rw [if_neg (by omega), if_pos h]
theorem evR_2 {v : Nat → Int32} {o : rO} {r : List rO} {a b : Int32} {S : List Int32} (h : 2 ≤ o.1) : evR v (o :: r) (b :: a :: S) = if o.1 = 5 ∧ b = 0 then none else evR v r (opv o.1 a b :: S) := by
  show (if _ then _ else _) = _
  rw [if_neg (by omega), if_neg (by omega)]
def exV (v : Nat → Int32) (O : List rO) : Option Int32 := match evR v O [] with
  | some [x] => some x
  | _ => none
def lwV (v : Nat → Int32) : List bRT → Int32
  | [] => 0
  | (none, w) :: _ => (exV v w).getD 0
  | (some (u, q), w) :: r => match exV v u, exV v q with
    | some a, some b => if a.toInt < b.toInt then (exV v w).getD 0 else lwV v r
    | _, _ => 0
section LW
variable {v : Nat → Int32} {u q w : List rO} {r : List bRT} {a b : Int32}
theorem lwV_n : lwV v ((none, w) :: r) = (exV v w).getD 0 := rfl
theorem lwV_s (h1 : exV v u = some a) (h2 : exV v q = some b) : lwV v ((some (u, q), w) :: r) = if a.toInt < b.toInt then (exV v w).getD 0 else lwV v r := by
  show (match exV v u, exV v q with | some a, some b => (if a.toInt < b.toInt then (exV v w).getD 0 else lwV v r) | _, _ => (0 : Int32)) = _
  rw [h1, h2]
theorem lwV_0 (h : exV v u = none ∨ exV v q = none) : lwV v ((some (u, q), w) :: r) = 0 := by
  show (match exV v u, exV v q with | some a, some b => (if a.toInt < b.toInt then (exV v w).getD 0 else lwV v r) | _, _ => (0 : Int32)) = 0
  cases h1 : exV v u with
  | none => rfl
  | some a =>
    rcases h with h | h
    · rw [h1] at h
      cases h
    · rw [h]
end LW
/-- never from an empty pile, nor above 15 -/
def wfR : List rO → Nat → Nat → Prop
  | [], d, e => d = e
  | o :: r, d, e => ((0 ≤ o.1 ∧ o.1 ≤ 5) ∧ (o.1 = 0 → 0 ≤ o.2) ∧ (o.1 = 1 → 0 ≤ o.2 ∧ o.2 ≤ 8)) ∧ (o.1 < 2 → d < 15 ∧ wfR r (d + 1) e) ∧ (2 ≤ o.1 → 2 ≤ d ∧ wfR r (d - 1) e)
theorem wfR_app : ∀ {p q : List rO} {d c e : Nat}, wfR p d c → wfR q c e → wfR (p ++ q) d e
  | [], q, d, c, e, h, h2 => by
    have h : d = c := h
    subst h
    exact h2
  | o :: p, q, d, c, e, h, h2 => ⟨h.1, fun z => ⟨(h.2.1 z).1, wfR_app (h.2.1 z).2 h2⟩, fun z => ⟨(h.2.2 z).1, wfR_app (h.2.2 z).2 h2⟩⟩
theorem evR_wf (v : Nat → Int32) : ∀ (p : List rO) (S B : List Int32) (e : Nat), wfR p S.length e → (evR v p S = none ∧ evR v p (S ++ B) = none) ∨ ∃ S' : List Int32, S'.length = e ∧ evR v p S = some S' ∧ evR v p (S ++ B) = some (S' ++ B)
  | [], S, B, e, h => Or.inr ⟨S, h, rfl, rfl⟩
  | o :: r, S, B, e, h => by
    obtain ⟨⟨h0, -, -⟩, h2, h3⟩ := h
    by_cases q0 : o.1 = 0
    · rw [evR_0 q0, evR_0 q0]
      exact evR_wf v r (_ :: S) B e (h2 (by omega)).2
    · by_cases q1 : o.1 = 1
      · rw [evR_1 q1, evR_1 q1]
        exact evR_wf v r (_ :: S) B e (h2 (by omega)).2
      · obtain ⟨h4, h5⟩ := h3 (by omega)
        match S, h4, h5 with
        | [], h4, _ => exact absurd h4 (by simp)
        | [_], h4, _ => exact absurd h4 (by simp)
        | b :: a :: S, _, h5 =>
          have e1 := evR_2 (v := v) (r := r) (a := a) (b := b) (S := S) (o := o) (by omega)
          have e2 := evR_2 (v := v) (r := r) (a := a) (b := b) (S := S ++ B) (o := o) (by omega)
          show (evR v (o :: r) (b :: a :: S) = none ∧ evR v (o :: r) (b :: a :: (S ++ B)) = none) ∨ ∃ S' : List Int32, S'.length = e ∧ evR v (o :: r) (b :: a :: S) = some S' ∧ evR v (o :: r) (b :: a :: (S ++ B)) = some (S' ++ B)
          rw [e1, e2]
          by_cases z : o.1 = 5 ∧ b = 0
          · rw [if_pos z, if_pos z]
            exact Or.inl ⟨rfl, rfl⟩
          · rw [if_neg z, if_neg z]
            exact evR_wf v r (opv o.1 a b :: S) B e h5
theorem exV_b {v : Nat → Int32} {O : List rO} (h : wfR O 0 1) (B : List Int32) : (evR v O B = none ∧ exV v O = none) ∨ ∃ x : Int32, evR v O B = some (x :: B) ∧ exV v O = some x := by
  rcases evR_wf v O [] B 1 h with ⟨h1, h2⟩ | ⟨S', h0, h1, h2⟩
  · refine Or.inl ⟨h2, ?_⟩
    unfold exV
    rw [h1]
  · match S', h0 with
    | [x], _ =>
      refine Or.inr ⟨x, h2, ?_⟩
      unfold exV
      rw [h1]
    | [], h0 => exact absurd h0 (by simp)
    | _ :: _ :: _, h0 => exact absurd h0 (by simp)
/-! ===== what is put is well put ===== -/
def nwp : List Int → Nat
  | [] => 0
  | w :: W => if w = 6 then nwp W else nwp W + 1
def sgw : List Int → Nat
  | [] => 0
  | w :: W => if w = 6 then 0 else sgw W + 1
def shw : List Int → Prop
  | [] => True
  | w :: W => shw W ∧ (w = 6 ∨ ((w = 8 ∨ w = 9) ∧ sgw W = 0) ∨ ((w = 10 ∨ w = 15) ∧ sgw W ≤ 1))
theorem nwp_6 {W : List Int} : nwp (6 :: W) = nwp W := by
  show (if (6 : Int) = 6 then _ else _) = _
  rw [if_pos rfl]
theorem nwp_o {w : Int} {W : List Int} (h : w ≠ 6) : nwp (w :: W) = nwp W + 1 := by
  show (if _ then _ else _) = _
  rw [if_neg h]
theorem opn_6 {W : List Int} : opn (6 :: W) = opn W + 1 := by
  show (if (6 : Int) = 6 then _ else _) = _
  rw [if_pos rfl]
theorem opn_o {w : Int} {W : List Int} (h : w ≠ 6) : opn (w :: W) = opn W := by
  show (if _ then _ else _) = _
  rw [if_neg h]
theorem shw_sgw : ∀ {W : List Int}, shw W → sgw W ≤ 2
  | [], _ => by decide
  | w :: W, h => by
    show (if w = 6 then 0 else sgw W + 1) ≤ 2
    rcases h.2 with z | z | z
    · rw [if_pos z]
      decide
    · split <;> omega
    · split <;> omega
theorem shw_nwp : ∀ {W : List Int}, shw W → nwp W ≤ 2 * opn W + sgw W
  | [], _ => by decide
  | w :: W, h => by
    have ih := shw_nwp h.1
    have hs := shw_sgw h.1
    show (if w = 6 then nwp W else nwp W + 1) ≤ 2 * (if w = 6 then opn W + 1 else opn W) + (if w = 6 then 0 else sgw W + 1)
    by_cases q : w = 6
    · simp only [if_pos q]
      omega
    · simp only [if_neg q]
      omega
theorem coS_st {b : Bool} {w : Int} {W : List Int} (q : w = 6 ∨ (b = true ∧ (w = 8 ∨ w = 9))) : coS b (w :: W) = (w :: W, []) := by
  show (if _ then _ else _) = _
  rw [if_pos q]
theorem coS_go {b : Bool} {w : Int} {W : List Int} (q : ¬ (w = 6 ∨ (b = true ∧ (w = 8 ∨ w = 9)))) : coS b (w :: W) = ((coS b W).1, (opc w, 0) :: (coS b W).2) := by
  show (if _ then _ else _) = _
  rw [if_neg q]
theorem opc_in (w : Int) : 2 ≤ opc w ∧ opc w ≤ 5 := by
  unfold opc
  (repeat' split) <;> decide
theorem coS_wf (b : Bool) : ∀ W : List Int, wfR (coS b W).2 (nwp W + 1) (nwp (coS b W).1 + 1)
  | [] => rfl
  | w :: W => by
    by_cases q : w = 6 ∨ (b = true ∧ (w = 8 ∨ w = 9))
    · rw [coS_st q]
      exact rfl
    · rw [coS_go q, nwp_o (fun z => q (Or.inl z))]
      have ho := opc_in w
      refine ⟨⟨⟨by show 0 ≤ opc w; omega, ho.2⟩, fun z => ?_, fun z => ?_⟩, fun z => ?_, fun _ => ⟨by omega, coS_wf b W⟩⟩
      · have z : opc w = 0 := z
        omega
      · have z : opc w = 1 := z
        omega
      · have z : opc w < 2 := z
        omega
theorem coS_shp (b : Bool) : ∀ W : List Int, shw W → shw (coS b W).1
  | [], _ => trivial
  | w :: W, h => by
    by_cases q : w = 6 ∨ (b = true ∧ (w = 8 ∨ w = 9))
    · rw [coS_st q]
      exact h
    · rw [coS_go q]
      exact coS_shp b W h.1
theorem coS_sg1 : ∀ W : List Int, shw W → sgw (coS true W).1 ≤ 1
  | [], _ => by decide
  | w :: W, h => by
    by_cases q : w = 6 ∨ (true = true ∧ (w = 8 ∨ w = 9))
    · rw [coS_st q]
      show (if w = 6 then 0 else sgw W + 1) ≤ 1
      rcases h.2 with z | z | z
      · rw [if_pos z]
        decide
      · split <;> omega
      · exact absurd q (by omega)
    · rw [coS_go q]
      exact coS_sg1 W h.1
theorem coS_sg0 : ∀ W : List Int, sgw (coS false W).1 = 0
  | [] => rfl
  | w :: W => by
    by_cases q : w = 6 ∨ (false = true ∧ (w = 8 ∨ w = 9))
    · rw [coS_st q]
      show (if w = 6 then 0 else sgw W + 1) = 0
      rcases q with z | z
      · rw [if_pos z]
      · exact absurd z.1 (by decide)
    · rw [coS_go q]
      exact coS_sg0 W
theorem coS_tl : ∀ W : List Int, 0 < opn W → shw W → nwp (coS false W).1.tail = nwp (coS false W).1 ∧ shw (coS false W).1.tail
  | [], h, _ => absurd h (by decide)
  | w :: W, h, hs => by
    by_cases q : w = 6
    · rw [coS_st (Or.inl q)]
      subst q
      exact ⟨nwp_6.symm, hs.1⟩
    · rw [coS_go (by intro z; rcases z with z | z; exact q z; exact absurd z.1 (by decide))]
      exact coS_tl W (by rw [opn_o q] at h; exact h) hs.1
theorem coS_nil : ∀ W : List Int, opn W = 0 → (coS false W).1 = []
  | [], _ => rfl
  | w :: W, h => by
    by_cases q : w = 6
    · subst q
      rw [opn_6] at h
      omega
    · rw [coS_go (by intro z; rcases z with z | z; exact q z; exact absurd z.1 (by decide))]
      exact coS_nil W (by rw [opn_o q] at h; exact h)
theorem cM_wf {K V : Nat → Int} (hV : ∀ t, 0 ≤ V t) : ∀ (n t : Nat) (W : List Int) (m : Nat) (O : List rO) (p : Nat × List rO), n = 401 - t → t ≤ 400 → m ≤ 1 → shw W → opn W ≤ 6 → cM K V n t W m O = .inr p → p.1 ≤ 400 ∧ ∃ r, p.2 = O ++ r ∧ wfR r (nwp W + m) 1
  | 0, t, W, m, O, p, hn, ht, _, _, _, _ => absurd hn (by omega)
  | n + 1, t, W, m, O, p, hn, ht, hm, hs, ho, h => by
    have hnp := shw_nwp hs
    have hsg := shw_sgw hs
    unfold cM at h
    by_cases hm0 : m = 0
    · subst hm0
      rw [if_pos rfl] at h
      by_cases h6 : K t = 6
      · rw [if_pos h6] at h
        by_cases h7 : opn W = 6
        · rw [if_pos h7] at h
          cases h
        · rw [if_neg h7] at h
          by_cases h4 : t = 400
          · rw [if_pos h4] at h
            cases h
          · rw [if_neg h4] at h
            obtain ⟨p1, r, e1, e2⟩ := cM_wf hV n (t + 1) (6 :: W) 0 O p (by omega) (by omega) (by omega) ⟨hs, Or.inl rfl⟩ (by rw [opn_6]; omega) h
            rw [nwp_6] at e2
            exact ⟨p1, r, e1, e2⟩
      · rw [if_neg h6] at h
        by_cases h2 : K t = 2
        · rw [if_pos h2] at h
          by_cases h4 : t = 400
          · rw [if_pos h4] at h
            cases h
          · rw [if_neg h4] at h
            obtain ⟨p1, r, e1, e2⟩ := cM_wf hV n (t + 1) W 1 _ p (by omega) (by omega) (by omega) hs ho h
            refine ⟨p1, (0, V t) :: r, by rw [e1, List.append_assoc]; rfl, ⟨⟨(by decide : (0 : Int) ≤ 0), (by decide : (0 : Int) ≤ 5)⟩, fun _ => hV t, fun z => absurd z (by decide : ¬ (0 : Int) = 1)⟩, fun _ => ⟨by omega, e2⟩, fun z => absurd z (by decide : ¬ (2 : Int) ≤ 0)⟩
        · rw [if_neg h2] at h
          by_cases h3 : 34 ≤ K t ∧ K t ≤ 42
          · rw [if_pos h3] at h
            by_cases h4 : t = 400
            · rw [if_pos h4] at h
              cases h
            · rw [if_neg h4] at h
              obtain ⟨p1, r, e1, e2⟩ := cM_wf hV n (t + 1) W 1 _ p (by omega) (by omega) (by omega) hs ho h
              refine ⟨p1, (1, K t - 34) :: r, by rw [e1, List.append_assoc]; rfl, ⟨⟨(by decide : (0 : Int) ≤ 1), (by decide : (1 : Int) ≤ 5)⟩, fun z => absurd z (by decide : ¬ (1 : Int) = 0), fun _ => ⟨by show 0 ≤ K t - 34; omega, by show K t - 34 ≤ 8; omega⟩⟩, fun _ => ⟨by omega, e2⟩, fun z => absurd z (by decide : ¬ (2 : Int) ≤ 1)⟩
          · rw [if_neg h3] at h
            cases h
    · have hm1 : m = 1 := by omega
      subst hm1
      rw [if_neg hm0] at h
      by_cases h7 : K t = 7 ∧ 0 < opn W
      · rw [if_pos h7] at h
        by_cases h4 : t = 400
        · rw [if_pos h4] at h
          cases h
        · rw [if_neg h4] at h
          obtain ⟨y1, y2⟩ := coS_tl W h7.2 hs
          obtain ⟨p1, r, e1, e2⟩ := cM_wf hV n (t + 1) _ 1 _ p (by omega) (by omega) (by omega) y2 (by rw [opn_tail W h7.2]; omega) h
          rw [y1] at e2
          exact ⟨p1, (coS false W).2 ++ r, by rw [e1, List.append_assoc], wfR_app (coS_wf false W) e2⟩
      · rw [if_neg h7] at h
        by_cases hb : K t = 8 ∨ K t = 9 ∨ K t = 10 ∨ K t = 15
        · rw [if_pos hb] at h
          by_cases h4 : t = 400
          · rw [if_pos h4] at h
            cases h
          · rw [if_neg h4] at h
            have k6 : K t ≠ 6 := by omega
            have hsp : shw (K t :: (coS (decide (K t = 10 ∨ K t = 15)) W).1) := by
              refine ⟨coS_shp _ W hs, ?_⟩
              by_cases z : K t = 10 ∨ K t = 15
              · rw [decide_eq_true z]
                exact Or.inr (Or.inr ⟨z, coS_sg1 W hs⟩)
              · rw [decide_eq_false z]
                exact Or.inr (Or.inl ⟨by omega, coS_sg0 W⟩)
            obtain ⟨p1, r, e1, e2⟩ := cM_wf hV n (t + 1) _ 0 _ p (by omega) (by omega) (by omega) hsp (by rw [opn_o k6, coS_opn]; exact ho) h
            rw [nwp_o k6] at e2
            exact ⟨p1, (coS (decide (K t = 10 ∨ K t = 15)) W).2 ++ r, by rw [e1, List.append_assoc], wfR_app (coS_wf _ W) e2⟩
        · rw [if_neg hb] at h
          by_cases h8 : 0 < opn W
          · rw [if_pos h8] at h
            cases h
          · rw [if_neg h8] at h
            have h := Sum.inr.inj h
            subst h
            refine ⟨ht, (coS false W).2, rfl, ?_⟩
            have y := coS_wf false W
            rw [coS_nil W (by omega)] at y
            exact y
theorem cX_wf {K V : Nat → Int} (hV : ∀ t, 0 ≤ V t) {t : Nat} {p : Nat × List rO} (ht : t ≤ 400) (h : cX K V t [] 0 [] = .inr p) : p.1 ≤ 400 ∧ wfR p.2 0 1 := by
  obtain ⟨p1, r, e1, e2⟩ := cM_wf hV (401 - t) t [] 0 [] p rfl ht (by decide) trivial (by decide) h
  rw [List.nil_append] at e1
  rw [e1]
  exact ⟨p1, e2⟩
def wfB (b : bRT) : Prop := wfR b.2 0 1 ∧ ∀ u q, b.1 = some (u, q) → wfR u 0 1 ∧ wfR q 0 1
def hasN : List bRT → Prop
  | [] => False
  | (none, _) :: _ => True
  | (some _, _) :: r => hasN r
def wfL (l : List bRT) : Prop := hasN l ∧ ∀ b ∈ l, wfB b
theorem hasN_app (w : List rO) : ∀ l : List bRT, hasN (l ++ [(none, w)])
  | [] => trivial
  | (none, _) :: _ => trivial
  | (some _, _) :: r => hasN_app w r
theorem sGi {t t' : Nat} (ht : t ≤ 400) (h : sG t = .inr t') : t' = t + 1 ∧ t' ≤ 400 := by
  unfold sG at h
  by_cases q : t = 400
  · rw [if_pos q] at h
    cases h
  · rw [if_neg q] at h
    have h := Sum.inr.inj h
    omega
theorem sMi {K : Nat → Int} {k : Int} {t t' : Nat} (ht : t ≤ 400) (h : sM K k t = .inr t') : K t = k ∧ t' = t + 1 ∧ t' ≤ 400 := by
  unfold sM at h
  by_cases q : K t = k
  · rw [if_pos q] at h
    exact ⟨q, sGi ht h⟩
  · rw [if_neg q] at h
    cases h
theorem sBi {A B : Type} {r : sE ⊕ A} {f : A → sE ⊕ B} {b : B} (h : sB r f = .inr b) : ∃ a, r = .inr a ∧ f a = .inr b := by
  cases r with
  | inl e => cases h
  | inr a => exact ⟨a, rfl, h⟩
section ZW
variable {K V : Nat → Int}
theorem zLast_wf (hV : ∀ t, 0 ≤ V t) {acc : List bRT} {t : Nat} {p : Nat × List bRT} (ht : t ≤ 400) (ha : ∀ b ∈ acc, wfB b) (h : zLast K V acc t = .inr p) : p.1 ≤ 400 ∧ wfL p.2 := by
  obtain ⟨q, h1, h2⟩ := sBi h
  obtain ⟨u, h3, h4⟩ := sBi h2
  have hq := cX_wf hV ht h1
  have h4 := Sum.inr.inj h4
  subst h4
  refine ⟨(sMi hq.1 h3).2.2, hasN_app _ _, fun b hb => ?_⟩
  rcases List.mem_append.mp hb with z | z
  · exact ha b z
  · have z : b = (none, q.2) := List.mem_singleton.mp z
    subst z
    exact ⟨hq.2, fun _ _ z => by cases z⟩
theorem zI_wf (hV : ∀ t, 0 ≤ V t) : ∀ (n : Nat) (acc : List bRT) (t : Nat) (p : Nat × List bRT), t ≤ 400 → (∀ b ∈ acc, wfB b) → zI K V n acc t = .inr p → p.1 ≤ 400 ∧ wfL p.2
  | 0, acc, t, p, ht, ha, h => by
    by_cases q : K t = 31
    · rw [z_if0 K V q] at h
      cases h
    · rw [z_no K V q] at h
      exact zLast_wf hV ht ha h
  | n + 1, acc, t, p, ht, ha, h => by
    by_cases q : K t = 31
    · rw [z_if K V q] at h
      obtain ⟨t1, g1, h⟩ := sBi h
      obtain ⟨u, g2, h⟩ := sBi h
      obtain ⟨t3, g3, h⟩ := sBi h
      obtain ⟨w, g4, h⟩ := sBi h
      obtain ⟨t5, g5, h⟩ := sBi h
      obtain ⟨x, g6, h⟩ := sBi h
      obtain ⟨t7, g7, h⟩ := sBi h
      have c2 := cX_wf hV (sGi ht g1).2 g2
      have c4 := cX_wf hV (sMi c2.1 g3).2.2 g4
      have c6 := cX_wf hV (sMi c4.1 g5).2.2 g6
      refine zI_wf hV n _ t7 p (sMi c6.1 g7).2.2 (fun b hb => ?_) h
      rcases List.mem_append.mp hb with z | z
      · exact ha b z
      · have z : b = (some (u.2, w.2), x.2) := List.mem_singleton.mp z
        subst z
        refine ⟨c6.2, fun a b z => ?_⟩
        have z := Option.some.inj z
        have z1 : u.2 = a := congrArg Prod.fst z
        have z2 : w.2 = b := congrArg Prod.snd z
        rw [← z1, ← z2]
        exact ⟨c2.2, c4.2⟩
    · rw [z_no K V q] at h
      exact zLast_wf hV ht ha h
theorem zLw_wf (hV : ∀ t, 0 ≤ V t) {t : Nat} {p : Nat × List bRT} (ht : t ≤ 400) (h : zLw K V t = .inr p) : p.1 ≤ 400 ∧ wfL p.2 := by
  obtain ⟨u, h1, h2⟩ := sBi h
  exact zI_wf hV 4 [] u p (sMi ht h1).2.2 (fun b hb => absurd hb List.not_mem_nil) h2
end ZW
/-! ===== a text without a fault ===== -/
def bF3 (v : t3) : Prop := (0 ≤ v.1 ∧ v.1 ≤ 9) ∧ (1 ≤ v.2.1 ∧ v.2.1 ≤ 9) ∧ (0 ≤ v.2.2 ∧ v.2.2 ≤ 99)
def bB3 (v : t3) : Prop := (0 ≤ v.1 ∧ v.1 ≤ 9) ∧ (0 ≤ v.2.1 ∧ v.2.1 ≤ 3) ∧ (0 ≤ v.2.2 ∧ v.2.2 ≤ 999)
def bT (T : tX) : Prop := (∀ v ∈ T.1, bF3 v) ∧ (∀ v ∈ T.2.1, bB3 v) ∧ (0 ≤ T.2.2.1 ∧ T.2.2.1 ≤ 99) ∧ (0 ≤ T.2.2.2.1 ∧ T.2.2.2.1 ≤ 99) ∧ (0 ≤ T.2.2.2.2.1 ∧ T.2.2.2.2.1 ≤ 9999)
def lT (T : tX) : Prop := T.1.length ≤ 7 ∧ T.2.1.length ≤ 4 ∧ ∀ k bs, T.2.2.2.2.2 k = some bs → wfL bs
def wT (T : tX) : Prop := lT T ∧ bT T
theorem wT_0 : wT T0 := ⟨⟨by decide, by decide, fun k bs h => by cases h⟩, fun v h => absurd h List.not_mem_nil, fun v h => absurd h List.not_mem_nil, ⟨by decide, by decide⟩, ⟨by decide, by decide⟩, ⟨by decide, by decide⟩⟩
section WT
variable {K V : Nat → Int} {N : Nat → Int64}
theorem sNi {lo hi : Int} {q q' : Nat × sE} (ht : q.1 ≤ 400) (h : sN K V lo hi q = .inr q') : q'.1 = q.1 + 1 ∧ q'.1 ≤ 400 ∧ (q'.2.1 = 0 → q.2.1 = 0 ∧ lo ≤ V q.1 ∧ V q.1 ≤ hi) := by
  obtain ⟨t, h1, h2⟩ := sBi h
  obtain ⟨a1, a2, a3⟩ := sMi ht h1
  have h2 := Sum.inr.inj h2
  subst h2
  refine ⟨a2, a3, fun z => ?_⟩
  have z : (sW q.2 (V q.1 < lo ∨ hi < V q.1) 5 q.1).1 = 0 := z
  unfold sW at z
  by_cases y : (V q.1 < lo ∨ hi < V q.1) ∧ q.2.1 = 0
  · rw [if_pos y] at z
    exact absurd z (by decide : ¬ (5 : Int) = 0)
  · rw [if_neg y] at z
    omega
theorem sNmi {q : Nat × List Int64 × sE} {q' : Nat × sE} (ht : q.1 ≤ 400) (h : sNm K N q = .inr q') : q'.1 = q.1 + 1 ∧ q'.1 ≤ 400 ∧ (q'.2.1 = 0 → q.2.2.1 = 0) := by
  obtain ⟨t, h1, h2⟩ := sBi h
  obtain ⟨a1, a2, a3⟩ := sMi ht h1
  have h2 := Sum.inr.inj h2
  subst h2
  refine ⟨a2, a3, fun z => ?_⟩
  have z : (sW q.2.2 (N q.1 ∈ q.2.1) 3 q.1).1 = 0 := z
  unfold sW at z
  by_cases y : N q.1 ∈ q.2.1 ∧ q.2.2.1 = 0
  · rw [if_pos y] at z
    exact absurd z (by decide : ¬ (3 : Int) = 0)
  · rw [if_neg y] at z
    exact z
theorem sTi {a b c : Int × Int} {q : Nat × List Int64 × sE} {q' : Nat × sE} (ht : q.1 ≤ 400) (h : sTell K V N a b c q = .inr q') : q'.1 ≤ 400 ∧ (q'.2.1 = 0 → q.2.2.1 = 0 ∧ (a.1 ≤ V (q.1 + 1) ∧ V (q.1 + 1) ≤ a.2) ∧ (b.1 ≤ V (q.1 + 2) ∧ V (q.1 + 2) ≤ b.2) ∧ (c.1 ≤ V (q.1 + 3) ∧ V (q.1 + 3) ≤ c.2)) := by
  obtain ⟨q1, h1, h⟩ := sBi h
  obtain ⟨q2, h2, h⟩ := sBi h
  obtain ⟨q3, h3, h⟩ := sBi h
  obtain ⟨qR, h4, h⟩ := sBi h
  obtain ⟨t, h5, h⟩ := sBi h
  have h := Sum.inr.inj h
  subst h
  obtain ⟨a1, a2, a3⟩ := sNmi ht h1
  obtain ⟨b1, b2, b3⟩ := sNi a2 h2
  obtain ⟨c1, c2, c3⟩ := sNi b2 h3
  obtain ⟨d1, d2, d3⟩ := sNi c2 h4
  refine ⟨(sMi d2 h5).2.2, fun z => ?_⟩
  have d3 := d3 z
  have c3 := c3 d3.1
  have b3 := b3 c3.1
  rw [a1] at b3 b1
  rw [b1] at c3 c1
  rw [c1] at d3
  exact ⟨a3 b3.1, b3.2, c3.2, d3.2⟩
theorem sSti {hi : Int} {t : Nat} {w : sE} {q' : Nat × sE} (ht : t ≤ 400) (h : sSt K V hi t w = .inr q') : q'.1 ≤ 400 ∧ (q'.2.1 = 0 → w.1 = 0 ∧ 0 ≤ V (t + 1) ∧ V (t + 1) ≤ hi) := by
  obtain ⟨t1, h1, h⟩ := sBi h
  obtain ⟨q2, h2, h⟩ := sBi h
  obtain ⟨t3, h3, h⟩ := sBi h
  have h := Sum.inr.inj h
  subst h
  obtain ⟨a1, a2⟩ := sGi ht h1
  subst a1
  obtain ⟨b1, b2, b3⟩ := sNi a2 h2
  exact ⟨(sMi b2 h3).2.2, b3⟩
/-- what holds of a text so far -/
def tI (x : sT) (T : tX) : Prop := x.1 ≤ 400 ∧ (x.2.1 = T.1.length ∧ x.2.2.1 = T.2.1.length) ∧ lT T ∧ (x.2.2.2.2.1 = 0 → bT T)
theorem tI_one (hV : ∀ t, 0 ≤ V t) {x y : sT} {T : tX} (h : tI x T) (ho : sOne K V N x = .inr y) : tI y (tU K V x.1 T) := by
  obtain ⟨h1, ⟨h2, h3⟩, ⟨h4, h5, h6⟩, h7⟩ := h
  unfold sOne at ho
  by_cases k1 : K x.1 = 20
  · rw [if_pos k1] at ho
    rw [tU_f k1]
    unfold sFruit at ho
    by_cases z : x.2.1 = 7
    · rw [if_pos z] at ho
      cases ho
    · rw [if_neg z] at ho
      obtain ⟨t, g1, ho⟩ := sBi ho
      obtain ⟨q, g2, ho⟩ := sBi ho
      have ho := Sum.inr.inj ho
      subst ho
      obtain ⟨a1, a2⟩ := sGi h1 g1
      subst a1
      obtain ⟨b1, b2⟩ := sTi a2 g2
      have hl : (T.1 ++ [(V (x.1 + 2), V (x.1 + 3), V (x.1 + 4))]).length = T.1.length + 1 := by rw [List.length_append]; rfl
      refine ⟨b1, ⟨by show x.2.1 + 1 = _; rw [hl, h2], h3⟩, ⟨by show (T.1 ++ [_]).length ≤ 7; rw [hl]; omega, h5, h6⟩, fun z => ?_⟩
      obtain ⟨c1, c2, c3, c4⟩ := b2 z
      obtain ⟨d1, d2⟩ := h7 c1
      refine ⟨fun v hv => ?_, d2⟩
      rcases List.mem_append.mp hv with e | e
      · exact d1 v e
      · have e : v = _ := List.mem_singleton.mp e
        subst e
        exact ⟨c2, c3, c4⟩
  · rw [if_neg k1] at ho
    by_cases k2 : K x.1 = 21
    · rw [if_pos k2] at ho
      rw [tU_b k2]
      unfold sBuyer at ho
      by_cases z : x.2.2.1 = 4
      · rw [if_pos z] at ho
        cases ho
      · rw [if_neg z] at ho
        obtain ⟨t, g1, ho⟩ := sBi ho
        obtain ⟨q, g2, ho⟩ := sBi ho
        have ho := Sum.inr.inj ho
        subst ho
        obtain ⟨a1, a2⟩ := sGi h1 g1
        subst a1
        obtain ⟨b1, b2⟩ := sTi a2 g2
        have hl : (T.2.1 ++ [(V (x.1 + 2), V (x.1 + 3), V (x.1 + 4))]).length = T.2.1.length + 1 := by rw [List.length_append]; rfl
        refine ⟨b1, ⟨h2, by show x.2.2.1 + 1 = _; rw [hl, h3]⟩, ⟨h4, by show (T.2.1 ++ [_]).length ≤ 4; rw [hl]; omega, h6⟩, fun z => ?_⟩
        obtain ⟨c1, c2, c3, c4⟩ := b2 z
        obtain ⟨d1, d2, d3⟩ := h7 c1
        refine ⟨d1, fun v hv => ?_, d3⟩
        rcases List.mem_append.mp hv with e | e
        · exact d2 v e
        · have e : v = _ := List.mem_singleton.mp e
          subst e
          exact ⟨c2, c3, c4⟩
    · rw [if_neg k2] at ho
      have hset : ∀ hi : Int, sSet K V hi x = .inr y → y.1 ≤ 400 ∧ (y.2.1 = x.2.1 ∧ y.2.2.1 = x.2.2.1) ∧ (y.2.2.2.2.1 = 0 → x.2.2.2.2.1 = 0 ∧ 0 ≤ V (x.1 + 1) ∧ V (x.1 + 1) ≤ hi) := fun hi ho => by
        obtain ⟨q, g2, ho⟩ := sBi ho
        have ho := Sum.inr.inj ho
        subst ho
        obtain ⟨b1, b2⟩ := sSti h1 g2
        exact ⟨b1, ⟨rfl, rfl⟩, b2⟩
      by_cases k3 : K x.1 = 28 ∨ K x.1 = 29
      · rw [if_pos k3] at ho
        obtain ⟨b1, ⟨b2, b3⟩, b4⟩ := hset 99 ho
        by_cases k4 : K x.1 = 28
        · rw [tU_1 k4]
          refine ⟨b1, ⟨b2.trans h2, b3.trans h3⟩, ⟨h4, h5, h6⟩, fun z => ?_⟩
          obtain ⟨c1, c2⟩ := b4 z
          obtain ⟨d1, d2, d3, d4, d5⟩ := h7 c1
          exact ⟨d1, d2, c2, d4, d5⟩
        · rw [tU_2 (by omega)]
          refine ⟨b1, ⟨b2.trans h2, b3.trans h3⟩, ⟨h4, h5, h6⟩, fun z => ?_⟩
          obtain ⟨c1, c2⟩ := b4 z
          obtain ⟨d1, d2, d3, d4, d5⟩ := h7 c1
          exact ⟨d1, d2, d3, c2, d5⟩
      · rw [if_neg k3] at ho
        by_cases k5 : K x.1 = 30
        · rw [if_pos k5] at ho
          obtain ⟨b1, ⟨b2, b3⟩, b4⟩ := hset 9999 ho
          rw [tU_3 k5]
          refine ⟨b1, ⟨b2.trans h2, b3.trans h3⟩, ⟨h4, h5, h6⟩, fun z => ?_⟩
          obtain ⟨c1, c2⟩ := b4 z
          obtain ⟨d1, d2, d3, d4, d5⟩ := h7 c1
          exact ⟨d1, d2, d3, d4, c2⟩
        · rw [if_neg k5] at ho
          by_cases k6 : 22 ≤ K x.1 ∧ K x.1 ≤ 27
          · rw [if_pos k6] at ho
            rw [tU_l k6]
            obtain ⟨t, g1, ho⟩ := sBi ho
            obtain ⟨u, g2, ho⟩ := sBi ho
            have ho := Sum.inr.inj ho
            subst ho
            obtain ⟨a1, a2⟩ := sGi h1 g1
            subst a1
            have g3 : prj (zLw K V (x.1 + 1)) = .inr u := (prj_Lw K V (x.1 + 1)).trans g2
            obtain ⟨p, g4, g5⟩ := sBi g3
            have g5 := Sum.inr.inj g5
            have hw := zLw_wf hV a2 g4
            refine ⟨by rw [← g5]; exact hw.1, ⟨h2, h3⟩, ⟨h4, h5, fun k bs hk => ?_⟩, h7⟩
            have hk : (if (k : Int) = K x.1 - 22 then some (lwC (zLw K V (x.1 + 1))) else T.2.2.2.2.2 k) = some bs := hk
            by_cases y : (k : Int) = K x.1 - 22
            · rw [if_pos y, g4] at hk
              have hk : p.2 = bs := Option.some.inj hk
              rw [← hk]
              exact hw.2
            · rw [if_neg y] at hk
              exact h6 k bs hk
          · rw [if_neg k6] at ho
            cases ho
theorem tI_run (hV : ∀ t, 0 ≤ V t) : ∀ (n : Nat) (x : sT) (T : tX) (p : sT × tX), tI x T → zRun K V N n x T = .inr p → tI p.1 p.2
  | 0, x, T, p, h, e => by
    have e := Sum.inr.inj e
    subst e
    exact h
  | n + 1, x, T, p, h, e => by
    unfold zRun at e
    by_cases q : K x.1 = 0
    · rw [if_pos q] at e
      have e := Sum.inr.inj e
      subst e
      exact h
    · rw [if_neg q] at e
      obtain ⟨y, e1, e2⟩ := sBi e
      exact tI_run hV n y _ p (tI_one hV h e1) e2
end WT
theorem uRf_all (p : Int → Bool) (b : Nat → Int) : ∀ (k i j : Nat), i ≤ j → j < uRf p b k i → p (b j) = true
  | 0, i, j, h1, h2 => by
    have h2 : j < i := h2
    omega
  | k + 1, i, j, h1, h2 => by
    unfold uRf at h2
    by_cases q : p (b i) = true
    · rw [if_pos q] at h2
      by_cases e : i = j
      · rw [← e]
        exact q
      · exact uRf_all p b k (i + 1) j (by omega) h2
    · rw [if_neg q] at h2
      omega
theorem cV_0 (b : Nat → Int) (n t : Nat) : 0 ≤ cV b n t := by
  unfold cV
  refine (dG _ (fun j hj => ?_)).1
  exact uRf_all uD b (n - uP b n t) (uP b n t) _ (by omega) (by unfold uR at hj; omega)
/-- a text read without a fault is well put -/
theorem rdT_wf {b : Nat → Int} {n : Nat} (h : (rdA b n).1 = 0) : wT (rdT b n) := by
  unfold rdA at h
  rw [← prT_Run _ _ _ 401 (0, 0, 0, [], (0, 0)) T0] at h
  unfold rdT
  have hi := fun p => tI_run (cV_0 b n) 401 (0, 0, 0, [], (0, 0)) T0 p (K := cK b n (fun k => wls.getD k 0)) (N := cN b n) ⟨by decide, ⟨rfl, rfl⟩, wT_0.1, fun _ => wT_0.2⟩
  have he := okE_Run (cK b n (fun k => wls.getD k 0)) (cV b n) (cN b n) 401 (0, 0, 0, [], (0, 0)) T0
  generalize zRun (cK b n (fun k => wls.getD k 0)) (cV b n) (cN b n) 401 (0, 0, 0, [], (0, 0)) T0 = r at *
  cases r with
  | inl e => exact absurd h (he e rfl)
  | inr p =>
    obtain ⟨-, -, h1, h2⟩ := hi p rfl
    refine ⟨h1, h2 ?_⟩
    have h : (if p.1.2.2.2.2.1 = 0 then ((0 : Int), (-1 : Int)) else (p.1.2.2.2.2.1, cP b n p.1.2.2.2.2.2)).1 = 0 := h
    by_cases q : p.1.2.2.2.2.1 = 0
    · exact q
    · rw [if_neg q] at h
      exact absurd h q
/-- the law's value: its branches over the vars that are told for it, held -/
def mkv (k : Int) (v : Nat → Int32) : Nat → Int32 := fun j => if tvs k j = true then v j else 0
def hdz (lo hi : Int) (x : Int) : Int := if x < lo then lo else if hi < x then hi else x
def lLo (k : Nat) : Int := if k = 1 ∨ k = 4 then -9 else 0
def lHi (k : Nat) : Int := if k = 2 ∨ k = 5 then 100 else if k = 3 then 99 else 9
noncomputable def lwR (T : tX) (k : Nat) (v : Nat → Int32) : Int32 := lwV (mkv k v) ((T.2.2.2.2.2 k).getD (pb k))
noncomputable def lwT (T : tX) (k : Nat) (v : Nat → Int32) : Int := hdz (lLo k) (lHi k) (lwR T k v).toInt
theorem wfL_pb (k : Nat) : wfL (pb k) := by
  unfold pb
  refine ⟨trivial, fun b hb => ?_⟩
  have hb := List.mem_singleton.mp hb
  subst hb
  refine ⟨?_, fun _ _ z => by cases z⟩
  show wfR [_] 0 1
  by_cases q1 : k = 1
  · simp only [if_pos q1]
    exact ⟨⟨⟨by decide, by decide⟩, fun _ => by decide, fun z => absurd z (by decide)⟩, fun _ => ⟨by decide, rfl⟩, fun z => absurd z (by decide)⟩
  · by_cases q2 : k = 2 ∨ k = 3
    · simp only [if_neg q1, if_pos q2]
      exact ⟨⟨⟨by decide, by decide⟩, fun z => absurd z (by decide), fun _ => by decide⟩, fun _ => ⟨by decide, rfl⟩, fun z => absurd z (by decide)⟩
    · simp only [if_neg q1, if_neg q2]
      exact ⟨⟨⟨by decide, by decide⟩, fun _ => by decide, fun z => absurd z (by decide)⟩, fun _ => ⟨by decide, rfl⟩, fun z => absurd z (by decide)⟩
theorem wfL_T {T : tX} (h : wT T) (k : Nat) : wfL ((T.2.2.2.2.2 k).getD (pb k)) := by
  cases e : T.2.2.2.2.2 k with
  | none => exact wfL_pb k
  | some bs => exact h.1.2.2 k bs e
theorem hdz_in {lo hi x : Int} (h : lo ≤ hi) : lo ≤ hdz lo hi x ∧ hdz lo hi x ≤ hi := by
  unfold hdz
  split
  · omega
  · split <;> omega
theorem lwT_in (T : tX) (k : Nat) (v : Nat → Int32) : lLo k ≤ lwT T k v ∧ lwT T k v ≤ lHi k := hdz_in (by unfold lLo lHi; (repeat' split) <;> omega)
