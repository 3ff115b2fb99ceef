/-! ===== what a text's reading looks at: no token behind the first that ends it ===== -/
/-- two answers the same, and no token behind L in them -/
noncomputable def cg {A : Type} (L : Nat) (g : A → Prop) (r r' : sE ⊕ A) : Prop := r = r' ∧ match r with
  | .inl e => e.2 ≤ L
  | .inr a => g a
theorem cg_l {A : Type} {L : Nat} {g : A → Prop} {e : sE} (h : e.2 ≤ L) : cg L g (.inl e) (.inl e) := ⟨rfl, h⟩
theorem cg_r {A : Type} {L : Nat} {g : A → Prop} {a : A} (h : g a) : cg L g (.inr a) (.inr a) := ⟨rfl, h⟩
theorem cg_B {A B : Type} {L : Nat} {g : A → Prop} {g' : B → Prop} {r r' : sE ⊕ A} {f f' : A → sE ⊕ B} (h : cg L g r r') (k : ∀ a, g a → cg L g' (f a) (f' a)) : cg L g' (sB r f) (sB r' f') := by
  obtain ⟨h1, h2⟩ := h
  subst h1
  cases r with
  | inl e => exact cg_l h2
  | inr a => exact k a h2
noncomputable def cH (K K' V V' : Nat → Int) (N N' : Nat → Int64) (L : Nat) : Prop := (∀ j, j ≤ L → K j = K' j) ∧ (K L = 0 ∨ K L = 3 ∨ L = 400) ∧ (∀ j, j ≤ L → K j = 2 → V j = V' j) ∧ (∀ j, j ≤ L → K j = 1 → N j = N' j)
section CG
variable {K K' V V' : Nat → Int} {N N' : Nat → Int64} {L : Nat}
abbrev cgT (L : Nat) (t : Nat) : Prop := t ≤ L
abbrev cgQ (L : Nat) (q : Nat × sE) : Prop := q.1 ≤ L ∧ q.2.2 ≤ L
abbrev cgX (L : Nat) (x : sT) : Prop := x.1 ≤ L ∧ x.2.2.2.2.2 ≤ L
theorem cg_n (H : cH K K' V V' N N' L) {t : Nat} (h : t ≤ L) (h0 : K t ≠ 0) (h3 : K t ≠ 3) (h4 : ¬ t = 400) : t + 1 ≤ L := by
  have h1 := H.2.1
  by_cases q : t = L
  · subst q
    omega
  · omega
theorem cg_G (H : cH K K' V V' N N' L) {t : Nat} (h : t ≤ L) (h0 : K t ≠ 0) (h3 : K t ≠ 3) : cg L (cgT L) (sG t) (sG t) := by
  unfold sG
  split
  · exact cg_l h
  · rename_i q
    exact cg_r (cg_n H h h0 h3 q)
theorem cg_M (H : cH K K' V V' N N' L) {t : Nat} (h : t ≤ L) {k : Int} (k0 : k ≠ 0) (k3 : k ≠ 3) : cg L (cgT L) (sM K k t) (sM K' k t) := by
  unfold sM
  rw [← H.1 t h]
  split
  · rename_i q
    exact cg_G H h (by omega) (by omega)
  · exact cg_l h
theorem cg_eM (H : cH K K' V V' N N' L) : ∀ (n t d m : Nat), t ≤ L → cg L (cgT L) (eM K n t d m) (eM K' n t d m)
  | 0, t, d, m, h => cg_r h
  | n + 1, t, d, m, h => by
    unfold eM
    rw [← H.1 t h]
    repeat' split
    all_goals first
      | exact cg_l h
      | exact cg_r h
      | exact cg_eM H n _ _ _ (cg_n H h (by omega) (by omega) (by assumption))
theorem cg_X (H : cH K K' V V' N N' L) {t d m : Nat} (h : t ≤ L) : cg L (cgT L) (eX K t d m) (eX K' t d m) := cg_eM H _ _ _ _ h
theorem cg_W {w : sE} {b b' : Prop} [Decidable b] [Decidable b'] {k : Int} {t : Nat} (h : w.2 ≤ L) (ht : t ≤ L) (hb : b ↔ b') : sW w b k t = sW w b' k t ∧ (sW w b k t).2 ≤ L := by
  unfold sW
  constructor
  · simp only [hb]
  · split
    · exact ht
    · exact h
theorem cg_N (H : cH K K' V V' N N' L) {lo hi : Int} {q : Nat × sE} (h : cgQ L q) : cg L (cgQ L) (sN K V lo hi q) (sN K' V' lo hi q) := by
  unfold sN
  by_cases e : K q.1 = 2
  · refine cg_B (cg_M H h.1 (by decide) (by decide)) (fun a ha => ?_)
    have hv := H.2.2.1 q.1 h.1 e
    rw [← hv]
    exact cg_r ⟨ha, (cg_W h.2 h.1 Iff.rfl).2⟩
  · unfold sM
    rw [← H.1 _ h.1, if_neg e]
    exact cg_l h.1
theorem cg_Nm (H : cH K K' V V' N N' L) {q : Nat × List Int64 × sE} (h : q.1 ≤ L) (h2 : q.2.2.2 ≤ L) : cg L (cgQ L) (sNm K N q) (sNm K' N' q) := by
  unfold sNm
  by_cases e : K q.1 = 1
  · refine cg_B (cg_M H h (by decide) (by decide)) (fun a ha => ?_)
    have hv := H.2.2.2 q.1 h e
    rw [← hv]
    exact cg_r ⟨ha, (cg_W h2 h Iff.rfl).2⟩
  · unfold sM
    rw [← H.1 _ h, if_neg e]
    exact cg_l h
theorem cg_Tell (H : cH K K' V V' N N' L) {a b c : Int × Int} {q : Nat × List Int64 × sE} (h : q.1 ≤ L) (h2 : q.2.2.2 ≤ L) : cg L (cgQ L) (sTell K V N a b c q) (sTell K' V' N' a b c q) := by
  unfold sTell
  refine cg_B (cg_Nm H h h2) (fun q1 h1 => cg_B (cg_N H h1) (fun q2 h2 => cg_B (cg_N H h2) (fun q3 h3 => cg_B (cg_N H h3) (fun q4 h4 => cg_B (cg_M H h4.1 (by decide) (by decide)) (fun t ht => cg_r ⟨ht, h4.2⟩)))))
theorem cg_Tn {K K' V V' : Nat → Int} {N N' : Nat → Int64} {L : Nat} (H : cH K K' V V' N N' L) {a b c : Int × Int} {q : Nat × List Int64 × sE} (h : q.1 ≤ L) (h2 : q.2.2.2 ≤ L) {B : Type} {g : B → Prop} {f f' : Nat × sE → sE ⊕ B} (k : ∀ z, cgQ L z → (K q.1 = 1 → N q.1 = N' q.1) → K q.1 = 1 → cg L g (f z) (f' z)) : cg L g (sB (sTell K V N a b c q) f) (sB (sTell K' V' N' a b c q) f') := by
  by_cases e : K q.1 = 1
  · exact cg_B (cg_Tell H h h2) (fun z hz => k z hz (H.2.2.2 q.1 h) e)
  · unfold sTell sNm sM
    rw [← H.1 _ h, if_neg e]
    exact cg_l h
theorem cg_Fruit (H : cH K K' V V' N N' L) {x : sT} (h : cgX L x) (h0 : K x.1 ≠ 0) (h3 : K x.1 ≠ 3) : cg L (cgX L) (sFruit K V N x) (sFruit K' V' N' x) := by
  unfold sFruit
  split
  · exact cg_l h.1
  · refine cg_B (cg_G H h.1 h0 h3) (fun t ht => cg_Tn H (q := (t, x.2.2.2.1, x.2.2.2.2)) ht h.2 (fun z hz e1 e2 => ?_))
    have e := e1 e2
    have e : N t = N' t := e
    rw [← e]
    exact cg_r hz
theorem cg_Buyer (H : cH K K' V V' N N' L) {x : sT} (h : cgX L x) (h0 : K x.1 ≠ 0) (h3 : K x.1 ≠ 3) : cg L (cgX L) (sBuyer K V N x) (sBuyer K' V' N' x) := by
  unfold sBuyer
  split
  · exact cg_l h.1
  · refine cg_B (cg_G H h.1 h0 h3) (fun t ht => cg_Tn H (q := (t, x.2.2.2.1, x.2.2.2.2)) ht h.2 (fun z hz e1 e2 => ?_))
    have e := e1 e2
    have e : N t = N' t := e
    rw [← e]
    exact cg_r hz
theorem cg_St (H : cH K K' V V' N N' L) {hi : Int} {t : Nat} {w : sE} (h : t ≤ L) (hw : w.2 ≤ L) (h0 : K t ≠ 0) (h3 : K t ≠ 3) : cg L (cgQ L) (sSt K V hi t w) (sSt K' V' hi t w) := by
  unfold sSt
  exact cg_B (cg_G H h h0 h3) (fun t ht => cg_B (cg_N H ⟨ht, hw⟩) (fun q hq => cg_B (cg_M H hq.1 (by decide) (by decide)) (fun t ht => cg_r ⟨ht, hq.2⟩)))
theorem cg_Set (H : cH K K' V V' N N' L) {hi : Int} {x : sT} (h : cgX L x) (h0 : K x.1 ≠ 0) (h3 : K x.1 ≠ 3) : cg L (cgX L) (sSet K V hi x) (sSet K' V' hi x) := by
  unfold sSet
  exact cg_B (cg_St H h.1 h.2 h0 h3) (fun q hq => cg_r hq)
theorem cg_If (H : cH K K' V V' N N' L) {t : Nat} (h : t ≤ L) (h0 : K t ≠ 0) (h3 : K t ≠ 3) : cg L (cgT L) (sIf K t) (sIf K' t) := by
  unfold sIf
  exact cg_B (cg_G H h h0 h3) (fun t ht => cg_B (cg_X H ht) (fun t ht => cg_B (cg_M H ht (by decide) (by decide)) (fun t ht => cg_B (cg_X H ht) (fun t ht => cg_B (cg_M H ht (by decide) (by decide)) (fun t ht => cg_B (cg_X H ht) (fun t ht => cg_M H ht (by decide) (by decide)))))))
theorem cg_Ifs (H : cH K K' V V' N N' L) : ∀ (n t : Nat), t ≤ L → cg L (cgT L) (sIfs K n t) (sIfs K' n t)
  | 0, t, h => by
    unfold sIfs
    rw [← H.1 t h]
    split
    · exact cg_l h
    · exact cg_r h
  | n + 1, t, h => by
    unfold sIfs
    rw [← H.1 t h]
    split
    · exact cg_B (cg_If H h (by omega) (by omega)) (fun t ht => cg_Ifs H n t ht)
    · exact cg_r h
theorem cg_Law (H : cH K K' V V' N N' L) {x : sT} (h : cgX L x) (h0 : K x.1 ≠ 0) (h3 : K x.1 ≠ 3) : cg L (cgX L) (sLaw K x) (sLaw K' x) := by
  unfold sLaw sLw sLast
  exact cg_B (cg_G H h.1 h0 h3) (fun t ht => cg_B (cg_B (cg_M H ht (by decide) (by decide)) (fun t ht => cg_B (cg_Ifs H 4 t ht) (fun t ht => cg_B (cg_X H ht) (fun t ht => cg_M H ht (by decide) (by decide))))) (fun t ht => cg_r ⟨ht, h.2⟩))
theorem cg_One (H : cH K K' V V' N N' L) {x : sT} (h : cgX L x) : cg L (cgX L) (sOne K V N x) (sOne K' V' N' x) := by
  unfold sOne
  rw [← H.1 _ h.1]
  split
  · exact cg_Fruit H h (by omega) (by omega)
  · split
    · exact cg_Buyer H h (by omega) (by omega)
    · split
      · exact cg_Set H h (by omega) (by omega)
      · split
        · exact cg_Set H h (by omega) (by omega)
        · split
          · exact cg_Law H h (by omega) (by omega)
          · exact cg_l h.1
theorem cg_Run (H : cH K K' V V' N N' L) : ∀ (n : Nat) (x : sT), cgX L x → cg L (cgX L) (sRun K V N n x) (sRun K' V' N' n x)
  | 0, x, h => cg_r h
  | n + 1, x, h => by
    unfold sRun
    rw [← H.1 _ h.1]
    split
    · exact cg_r h
    · exact cg_B (cg_One H h) (fun x hx => cg_Run H n x hx)
/-- what is answered is the same -/
theorem cg_End (H : cH K K' V V' N N' L) {P P' : Nat → Int} (hP : ∀ j, j ≤ L → P j = P' j) : sEnd P (sRun K V N 401 (0, 0, 0, [], (0, 0))) = sEnd P' (sRun K' V' N' 401 (0, 0, 0, [], (0, 0))) := by
  have h := cg_Run H 401 (0, 0, 0, [], (0, 0)) ⟨Nat.zero_le _, Nat.zero_le _⟩
  obtain ⟨h1, h2⟩ := h
  rw [← h1]
  revert h2
  cases sRun K V N 401 (0, 0, 0, [], (0, 0)) with
  | inl e =>
    intro h2
    have h2 : e.2 ≤ L := h2
    show (e.1, P e.2) = (e.1, P' e.2)
    rw [hP _ h2]
  | inr x =>
    intro h2
    have h2 : cgX L x := h2
    show (if x.2.2.2.2.1 = 0 then ((0 : Int), (-1 : Int)) else (x.2.2.2.2.1, P x.2.2.2.2.2)) = (if x.2.2.2.2.1 = 0 then ((0 : Int), (-1 : Int)) else (x.2.2.2.2.1, P' x.2.2.2.2.2))
    rw [hP _ h2.2]
end CG
