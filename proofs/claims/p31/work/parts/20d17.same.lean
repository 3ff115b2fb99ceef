section
/-! ===== what a text's reading looks at: no token behind the first that ends it ===== -/
/-- two answers the same, and no token behind L in them -/
noncomputable def cg {A : Type} (L : Nat) (g : A → Prop) (r r' : sE ⊕ A) : Prop := r = r' ∧ match r with
  | .inl e => e.2 ≤ L
  | .inr a => g a
theorem cg_l {A : Type} {L : Nat} {g : A → Prop} {e : sE} (h : e.2 ≤ L) : cg L g (.inl e) (.inl e) := ⟨rfl, h⟩
theorem cg_r {A : Type} {L : Nat} {g : A → Prop} {a : A} (h : g a) : cg L g (.inr a) (.inr a) := ⟨rfl, h⟩
theorem cg_B {A B : Type} {L : Nat} {g : A → Prop} {g' : B → Prop} {r r' : sE ⊕ A} {f f' : A → sE ⊕ B} (h : cg L g r r') (k : ∀ a, g a → cg L g' (f a) (f' a)) : cg L g' (sB r f) (sB r' f') := by
  obtain ⟨h1, h2⟩ := h
  subst h1
  cases r with
  | inl e => exact cg_l h2
  | inr a => exact k a h2
noncomputable def cH (K K' V V' : Nat → Int) (N N' : Nat → Int64) (L : Nat) : Prop := (∀ j, j ≤ L → K j = K' j) ∧ (K L = 0 ∨ K L = 3 ∨ L = 400) ∧ (∀ j, j ≤ L → K j = 2 → V j = V' j) ∧ (∀ j, j ≤ L → K j = 1 → N j = N' j)
section CG
variable {K K' V V' : Nat → Int} {N N' : Nat → Int64} {L : Nat}
abbrev cgT (L : Nat) (t : Nat) : Prop := t ≤ L
abbrev cgQ (L : Nat) (q : Nat × sE) : Prop := q.1 ≤ L ∧ q.2.2 ≤ L
abbrev cgX (L : Nat) (x : sT) : Prop := x.1 ≤ L ∧ x.2.2.2.2.2 ≤ L
theorem cg_n (H : cH K K' V V' N N' L) {t : Nat} (h : t ≤ L) (h0 : K t ≠ 0) (h3 : K t ≠ 3) (h4 : ¬ t = 400) : t + 1 ≤ L := by
  have h1 := H.2.1
  by_cases q : t = L
  · subst q
    omega
  · omega
theorem cg_G (H : cH K K' V V' N N' L) {t : Nat} (h : t ≤ L) (h0 : K t ≠ 0) (h3 : K t ≠ 3) : cg L (cgT L) (sG t) (sG t) := by
  unfold sG
  split
  · exact cg_l h
  · rename_i q
    exact cg_r (cg_n H h h0 h3 q)
theorem cg_M (H : cH K K' V V' N N' L) {t : Nat} (h : t ≤ L) {k : Int} (k0 : k ≠ 0) (k3 : k ≠ 3) : cg L (cgT L) (sM K k t) (sM K' k t) := by
  unfold sM
  rw [← H.1 t h]
  split
  · rename_i q
    exact cg_G H h (by omega) (by omega)
  · exact cg_l h
theorem cg_eM (H : cH K K' V V' N N' L) : ∀ (n t d m : Nat), t ≤ L → cg L (cgT L) (eM K n t d m) (eM K' n t d m)
  | 0, t, d, m, h => cg_r h
  | n + 1, t, d, m, h => by
    unfold eM
    rw [← H.1 t h]
    repeat' split
    all_goals first
      | exact cg_l h
      | exact cg_r h
      | exact cg_eM H n _ _ _ (cg_n H h (by omega) (by omega) (by assumption))
theorem cg_X (H : cH K K' V V' N N' L) {t d m : Nat} (h : t ≤ L) : cg L (cgT L) (eX K t d m) (eX K' t d m) := cg_eM H _ _ _ _ h
theorem cg_W {w : sE} {b b' : Prop} [Decidable b] [Decidable b'] {k : Int} {t : Nat} (h : w.2 ≤ L) (ht : t ≤ L) (hb : b ↔ b') : sW w b k t = sW w b' k t ∧ (sW w b k t).2 ≤ L := by
  unfold sW
  constructor
  · simp only [hb]
  · split
    · exact ht
    · exact h
theorem cg_N (H : cH K K' V V' N N' L) {lo hi : Int} {q : Nat × sE} (h : cgQ L q) : cg L (cgQ L) (sN K V lo hi q) (sN K' V' lo hi q) := by
  unfold sN
  by_cases e : K q.1 = 2
  · refine cg_B (cg_M H h.1 (by decide) (by decide)) (fun a ha => ?_)
    have hv := H.2.2.1 q.1 h.1 e
    rw [← hv]
    exact cg_r ⟨ha, (cg_W h.2 h.1 Iff.rfl).2⟩
  · unfold sM
    rw [← H.1 _ h.1, if_neg e]
    exact cg_l h.1
theorem cg_Nm (H : cH K K' V V' N N' L) {q : Nat × List Int64 × sE} (h : q.1 ≤ L) (h2 : q.2.2.2 ≤ L) : cg L (cgQ L) (sNm K N q) (sNm K' N' q) := by
  unfold sNm
  by_cases e : K q.1 = 1
  · refine cg_B (cg_M H h (by decide) (by decide)) (fun a ha => ?_)
    have hv := H.2.2.2 q.1 h e
    rw [← hv]
    exact cg_r ⟨ha, (cg_W h2 h Iff.rfl).2⟩
  · unfold sM
    rw [← H.1 _ h, if_neg e]
    exact cg_l h
theorem cg_Tell (H : cH K K' V V' N N' L) {a b c : Int × Int} {q : Nat × List Int64 × sE} (h : q.1 ≤ L) (h2 : q.2.2.2 ≤ L) : cg L (cgQ L) (sTell K V N a b c q) (sTell K' V' N' a b c q) := by
  unfold sTell
  refine cg_B (cg_Nm H h h2) (fun q1 h1 => cg_B (cg_N H h1) (fun q2 h2 => cg_B (cg_N H h2) (fun q3 h3 => cg_B (cg_N H h3) (fun q4 h4 => cg_B (cg_M H h4.1 (by decide) (by decide)) (fun t ht => cg_r ⟨ht, h4.2⟩)))))
theorem cg_Tn {K K' V V' : Nat → Int} {N N' : Nat → Int64} {L : Nat} (H : cH K K' V V' N N' L) {a b c : Int × Int} {q : Nat × List Int64 × sE} (h : q.1 ≤ L) (h2 : q.2.2.2 ≤ L) {B : Type} {g : B → Prop} {f f' : Nat × sE → sE ⊕ B} (k : ∀ z, cgQ L z → (K q.1 = 1 → N q.1 = N' q.1) → K q.1 = 1 → cg L g (f z) (f' z)) : cg L g (sB (sTell K V N a b c q) f) (sB (sTell K' V' N' a b c q) f') := by
  by_cases e : K q.1 = 1
  · exact cg_B (cg_Tell H h h2) (fun z hz => k z hz (H.2.2.2 q.1 h) e)
  · unfold sTell sNm sM
    rw [← H.1 _ h, if_neg e]
    exact cg_l h
theorem cg_Fruit (H : cH K K' V V' N N' L) {x : sT} (h : cgX L x) (h0 : K x.1 ≠ 0) (h3 : K x.1 ≠ 3) : cg L (cgX L) (sFruit K V N x) (sFruit K' V' N' x) := by
  unfold sFruit
  split
  · exact cg_l h.1
  · refine cg_B (cg_G H h.1 h0 h3) (fun t ht => cg_Tn H (q := (t, x.2.2.2.1, x.2.2.2.2)) ht h.2 (fun z hz e1 e2 => ?_))
    have e := e1 e2
    have e : N t = N' t := e
    rw [← e]
    exact cg_r hz
theorem cg_Buyer (H : cH K K' V V' N N' L) {x : sT} (h : cgX L x) (h0 : K x.1 ≠ 0) (h3 : K x.1 ≠ 3) : cg L (cgX L) (sBuyer K V N x) (sBuyer K' V' N' x) := by
  unfold sBuyer
  split
  · exact cg_l h.1
  · refine cg_B (cg_G H h.1 h0 h3) (fun t ht => cg_Tn H (q := (t, x.2.2.2.1, x.2.2.2.2)) ht h.2 (fun z hz e1 e2 => ?_))
    have e := e1 e2
    have e : N t = N' t := e
    rw [← e]
    exact cg_r hz
theorem cg_St (H : cH K K' V V' N N' L) {hi : Int} {t : Nat} {w : sE} (h : t ≤ L) (hw : w.2 ≤ L) (h0 : K t ≠ 0) (h3 : K t ≠ 3) : cg L (cgQ L) (sSt K V hi t w) (sSt K' V' hi t w) := by
  unfold sSt
  exact cg_B (cg_G H h h0 h3) (fun t ht => cg_B (cg_N H ⟨ht, hw⟩) (fun q hq => cg_B (cg_M H hq.1 (by decide) (by decide)) (fun t ht => cg_r ⟨ht, hq.2⟩)))
theorem cg_Set (H : cH K K' V V' N N' L) {hi : Int} {x : sT} (h : cgX L x) (h0 : K x.1 ≠ 0) (h3 : K x.1 ≠ 3) : cg L (cgX L) (sSet K V hi x) (sSet K' V' hi x) := by
  unfold sSet
  exact cg_B (cg_St H h.1 h.2 h0 h3) (fun q hq => cg_r hq)
theorem cg_If (H : cH K K' V V' N N' L) {t : Nat} (h : t ≤ L) (h0 : K t ≠ 0) (h3 : K t ≠ 3) : cg L (cgT L) (sIf K t) (sIf K' t) := by
  unfold sIf
  exact cg_B (cg_G H h h0 h3) (fun t ht => cg_B (cg_X H ht) (fun t ht => cg_B (cg_M H ht (by decide) (by decide)) (fun t ht => cg_B (cg_X H ht) (fun t ht => cg_B (cg_M H ht (by decide) (by decide)) (fun t ht => cg_B (cg_X H ht) (fun t ht => cg_M H ht (by decide) (by decide)))))))
theorem cg_Ifs (H : cH K K' V V' N N' L) : ∀ (n t : Nat), t ≤ L → cg L (cgT L) (sIfs K n t) (sIfs K' n t)
  | 0, t, h => by
    unfold sIfs
    rw [← H.1 t h]
    split
    · exact cg_l h
    · exact cg_r h
  | n + 1, t, h => by
    unfold sIfs
    rw [← H.1 t h]
    split
    · exact cg_B (cg_If H h (by omega) (by omega)) (fun t ht => cg_Ifs H n t ht)
    · exact cg_r h
theorem cg_Law (H : cH K K' V V' N N' L) {x : sT} (h : cgX L x) (h0 : K x.1 ≠ 0) (h3 : K x.1 ≠ 3) : cg L (cgX L) (sLaw K x) (sLaw K' x) := by
  unfold sLaw sLw sLast
  exact cg_B (cg_G H h.1 h0 h3) (fun t ht => cg_B (cg_B (cg_M H ht (by decide) (by decide)) (fun t ht => cg_B (cg_Ifs H 4 t ht) (fun t ht => cg_B (cg_X H ht) (fun t ht => cg_M H ht (by decide) (by decide))))) (fun t ht => cg_r ⟨ht, h.2⟩))
theorem cg_One (H : cH K K' V V' N N' L) {x : sT} (h : cgX L x) : cg L (cgX L) (sOne K V N x) (sOne K' V' N' x) := by
  unfold sOne
  rw [← H.1 _ h.1]
  split
  · exact cg_Fruit H h (by omega) (by omega)
  · split
    · exact cg_Buyer H h (by omega) (by omega)
    · split
      · exact cg_Set H h (by omega) (by omega)
      · split
        · exact cg_Set H h (by omega) (by omega)
        · split
          · exact cg_Law H h (by omega) (by omega)
          · exact cg_l h.1
theorem cg_Run (H : cH K K' V V' N N' L) : ∀ (n : Nat) (x : sT), cgX L x → cg L (cgX L) (sRun K V N n x) (sRun K' V' N' n x)
  | 0, x, h => cg_r h
  | n + 1, x, h => by
    unfold sRun
    rw [← H.1 _ h.1]
    split
    · exact cg_r h
    · exact cg_B (cg_One H h) (fun x hx => cg_Run H n x hx)
/-- what is answered is the same -/
theorem cg_End (H : cH K K' V V' N N' L) {P P' : Nat → Int} (hP : ∀ j, j ≤ L → P j = P' j) : sEnd P (sRun K V N 401 (0, 0, 0, [], (0, 0))) = sEnd P' (sRun K' V' N' 401 (0, 0, 0, [], (0, 0))) := by
  have h := cg_Run H 401 (0, 0, 0, [], (0, 0)) ⟨Nat.zero_le _, Nat.zero_le _⟩
  obtain ⟨h1, h2⟩ := h
  rw [← h1]
  revert h2
  cases sRun K V N 401 (0, 0, 0, [], (0, 0)) with
  | inl e =>
    intro h2
    have h2 : e.2 ≤ L := h2
    show (e.1, P e.2) = (e.1, P' e.2)
    rw [hP _ h2]
  | inr x =>
    intro h2
    have h2 : cgX L x := h2
    show (if x.2.2.2.2.1 = 0 then ((0 : Int), (-1 : Int)) else (x.2.2.2.2.1, P x.2.2.2.2.2)) = (if x.2.2.2.2.1 = 0 then ((0 : Int), (-1 : Int)) else (x.2.2.2.2.1, P' x.2.2.2.2.2))
    rw [hP _ h2.2]
end CG
end
section
/-! ===== the class parses: names and lemmas ===== -/
theorem nz_in0 {F F1 : Nat → sy_d} (hB : iv_in F iv_B0) (chg : List Nat) (g : ∀ j, j < 82 → j ∉ chg → F1 j = F j) (h : ∀ k ∈ chg, ∀ t : iv_t, iv_B0[k]? = some t → iv_has (F1 k) t) : iv_in F1 iv_B0 := hd_in1 hB (fun j t hj => by
  by_cases q : j ∈ chg
  · exact Or.inr (h j q t hj)
  · exact Or.inl (g j (List.getElem?_eq_some_iff.mp hj).1 q))
/-- the class tells kinds otherwise than the reference -/
def km (c : Int) : Int := if 0 ≤ c ∧ c ≤ 22 then c + 20 else if c = 23 then 1 else if c = 24 then 2 else if c = 26 then 0 else if c = 59 then 4 else if c = 61 then 5 else if c = 40 then 6 else if c = 41 then 7 else if c = 43 then 8 else if c = 45 then 9 else if c = 42 then 10 else if c = 60 then 13 else if c = 47 then 15 else 3
theorem km_r {c : Int} (h0 : 0 ≤ c) (h1 : c ≤ 22) : km c = c + 20 := by unfold km; rw [if_pos ⟨h0, h1⟩]
/-- back again -/
def kmi (k : Int) : Int := if 20 ≤ k then k - 20 else if k = 1 then 23 else if k = 2 then 24 else if k = 0 then 26 else if k = 4 then 59 else if k = 5 then 61 else if k = 6 then 40 else if k = 7 then 41 else if k = 8 then 43 else if k = 9 then 45 else if k = 10 then 42 else if k = 13 then 60 else if k = 15 then 47 else 0
theorem km_inv (c : Int) : km c = 3 ∨ kmi (km c) = c := by
  by_cases h : 0 ≤ c ∧ c ≤ 22
  · right
    rw [km_r h.1 h.2]
    unfold kmi
    rw [if_pos (by omega)]
    omega
  by_cases h0 : c = 23
  · subst h0
    exact Or.inr (by decide)
  by_cases h1 : c = 24
  · subst h1
    exact Or.inr (by decide)
  by_cases h2 : c = 26
  · subst h2
    exact Or.inr (by decide)
  by_cases h3 : c = 59
  · subst h3
    exact Or.inr (by decide)
  by_cases h4 : c = 61
  · subst h4
    exact Or.inr (by decide)
  by_cases h5 : c = 40
  · subst h5
    exact Or.inr (by decide)
  by_cases h6 : c = 41
  · subst h6
    exact Or.inr (by decide)
  by_cases h7 : c = 43
  · subst h7
    exact Or.inr (by decide)
  by_cases h8 : c = 45
  · subst h8
    exact Or.inr (by decide)
  by_cases h9 : c = 42
  · subst h9
    exact Or.inr (by decide)
  by_cases h10 : c = 60
  · subst h10
    exact Or.inr (by decide)
  by_cases h11 : c = 47
  · subst h11
    exact Or.inr (by decide)
  left
  unfold km
  rw [if_neg h, if_neg h0, if_neg h1, if_neg h2, if_neg h3, if_neg h4, if_neg h5, if_neg h6, if_neg h7, if_neg h8, if_neg h9, if_neg h10, if_neg h11]
theorem km_iff {k v : Int} (h3 : k ≠ 3) (h1 : kmi k = v) (h2 : km v = k) {c : Int} : km c = k ↔ c = v := ⟨fun h => by
  rcases km_inv c with z | z
  · exact absurd (h.symm.trans z) h3
  · rw [h] at z
    exact z.symm.trans h1, fun h => by rw [h]; exact h2⟩
theorem km_w {c k : Int} (h0 : 20 ≤ k) (h1 : k ≤ 42) : km c = k ↔ c = k - 20 := km_iff (by omega) (by unfold kmi; rw [if_pos h0]) (by rw [km_r (by omega) (by omega)]; omega)
theorem km_1 {c : Int} : km c = 1 ↔ c = 23 := km_iff (by decide) (by decide) (by decide)
theorem km_2 {c : Int} : km c = 2 ↔ c = 24 := km_iff (by decide) (by decide) (by decide)
theorem km_0 {c : Int} : km c = 0 ↔ c = 26 := km_iff (by decide) (by decide) (by decide)
theorem km_4 {c : Int} : km c = 4 ↔ c = 59 := km_iff (by decide) (by decide) (by decide)
theorem km_5 {c : Int} : km c = 5 ↔ c = 61 := km_iff (by decide) (by decide) (by decide)
theorem km_6 {c : Int} : km c = 6 ↔ c = 40 := km_iff (by decide) (by decide) (by decide)
theorem km_7 {c : Int} : km c = 7 ↔ c = 41 := km_iff (by decide) (by decide) (by decide)
theorem km_8 {c : Int} : km c = 8 ↔ c = 43 := km_iff (by decide) (by decide) (by decide)
theorem km_9 {c : Int} : km c = 9 ↔ c = 45 := km_iff (by decide) (by decide) (by decide)
theorem km_10 {c : Int} : km c = 10 ↔ c = 42 := km_iff (by decide) (by decide) (by decide)
theorem km_13 {c : Int} : km c = 13 ↔ c = 60 := km_iff (by decide) (by decide) (by decide)
theorem km_15 {c : Int} : km c = 15 ↔ c = 47 := km_iff (by decide) (by decide) (by decide)
theorem km_v {c : Int} : (34 ≤ km c ∧ km c ≤ 42) ↔ (14 ≤ c ∧ c ≤ 22) := by
  constructor
  · rintro ⟨h1, h2⟩
    rcases km_inv c with z | z
    · omega
    · unfold kmi at z
      rw [if_pos (by omega)] at z
      omega
  · rintro ⟨h1, h2⟩
    rw [km_r (by omega) (by omega)]
    omega
noncomputable def kg (F : Nat → sy_d) (n : Nat) : Int := km ((sy_ai F 39).getD n 0).toInt
noncomputable def pg (F : Nat → sy_d) (n : Nat) : Int := ((sy_ai F 40).getD n 0).toInt
noncomputable def vg (F : Nat → sy_d) (n : Nat) : Int := ((sy_al F 41).getD n 0).toInt32.toInt
noncomputable def ng (F : Nat → sy_d) (n : Nat) : Int64 := (sy_al F 41).getD n 0
noncomputable def tg (F : Nat → sy_d) : Nat := (sy_i F 33).toInt.toNat
theorem kg_eq {F F1 : Nat → sy_d} (h : F1 39 = F 39) : kg F1 = kg F := by funext n; unfold kg; rw [nz_fa h]
theorem pg_eq {F F1 : Nat → sy_d} (h : F1 40 = F 40) : pg F1 = pg F := by funext n; unfold pg; rw [nz_fa h]
theorem vg_eq {F F1 : Nat → sy_d} (h : F1 41 = F 41) : vg F1 = vg F := by funext n; unfold vg; rw [nz_fl h]
theorem ng_eq {F F1 : Nat → sy_d} (h : F1 41 = F 41) : ng F1 = ng F := by funext n; unfold ng; rw [nz_fl h]
theorem tg_eq {F F1 : Nat → sy_d} (h : (sy_i F1 33).toInt = (sy_i F 33).toInt) : tg F1 = tg F := by unfold tg; rw [h]
theorem tg_s {F F1 : Nat → sy_d} (h0 : 0 ≤ (sy_i F 33).toInt) (h : (sy_i F1 33).toInt = (sy_i F 33).toInt + 1) : tg F1 = tg F + 1 := by unfold tg; omega
/-- what stays, and the bounds -/
abbrev gc (W : List Nat) (F F' : Nat → sy_d) : Prop := iv_in F' iv_B0 ∧ ∀ j, j < 82 → j ∉ W → F' j = F j
theorem gc.i {W : List Nat} {F F' : Nat → sy_d} (h : gc W F F') {k : Nat} (hk : k < 82) (hn : k ∉ W) : (sy_i F' k).toInt = (sy_i F k).toInt := nz_fi (h.2 k hk hn)
theorem gc.trans {W W1 : List Nat} {F F' F2 : Nat → sy_d} (h : gc W F F') (h2 : gc W1 F' F2) (hs : ∀ x ∈ W1, x ∈ W) : gc W F F2 := ⟨h2.1, fun j hj hn => (h2.2 j hj (fun q => hn (hs _ q))).trans (h.2 j hj hn)⟩
theorem gc.mono {W W1 : List Nat} {F F' : Nat → sy_d} (h : gc W1 F F') (hs : ∀ x ∈ W1, x ∈ W) : gc W F F' := ⟨h.1, fun j hj hn => h.2 j hj (fun q => hn (hs _ q))⟩
theorem gc_mk {W C : List Nat} {F F1 : Nat → sy_d} (hb : iv_in F1 iv_B0) (g : ∀ j, j < 82 → j ∉ C → F1 j = F j) (hs : ∀ x ∈ C, x ∈ W) : gc W F F1 := ⟨hb, fun j hj hn => g j hj (fun q => hn (hs _ q))⟩
theorem hd_iveq0 {F F1 : Nat → sy_d} (hB : iv_in F iv_B0) (g : ∀ j, j < 82 → F1 j = F j) : iv_in F1 iv_B0 := hd_in1 hB (fun j t hj => Or.inl (g j (List.getElem?_eq_some_iff.mp hj).1))
theorem gc.dst {W : List Nat} {F F' F2 : Nat → sy_d} (h : gc W F F') (e : ∀ q, q < 82 → F2 q = F' q) : gc W F F2 := ⟨hd_iveq0 h.1 e, fun j hj hn => (e j hj).trans (h.2 j hj hn)⟩
theorem gc.src {W : List Nat} {F F' F0 : Nat → sy_d} (h : gc W F0 F') (e : ∀ q, q < 82 → F0 q = F q) : gc W F F' := ⟨h.1, fun j hj hn => (h.2 j hj hn).trans (e j hj)⟩
/-- a truth value answered, as r tells -/
noncomputable def ac {A : Type} (r : sE ⊕ A) (J : A → (Nat → sy_d) → Prop) (x : Int32) (F' : Nat → sy_d) : Prop := (x = 0 ∧ r = .inl ((sy_i F' 34).toInt, tg F')) ∨ (x = 1 ∧ ∃ a, r = .inr a ∧ J a F')
theorem ac_er {A : Type} {r : sE ⊕ A} {J : A → (Nat → sy_d) → Prop} {F' : Nat → sy_d} {k : Int} {t : Nat} (hr : r = .inl (k, t)) (h : (sy_i F' 34).toInt = k) (ht : tg F' = t) : ac r J 0 F' := Or.inl ⟨rfl, by rw [h, ht]; exact hr⟩
theorem ac_ok {A : Type} {r : sE ⊕ A} {J : A → (Nat → sy_d) → Prop} {F' : Nat → sy_d} {a : A} (hr : r = .inr a) (hJ : J a F') : ac r J 1 F' := Or.inr ⟨rfl, a, hr, hJ⟩
theorem ac_dst {A : Type} {r : sE ⊕ A} {J J' : A → (Nat → sy_d) → Prop} {x : Int32} {F' F2 : Nat → sy_d} (h : ac r J x F') (h34 : (sy_i F2 34).toInt = (sy_i F' 34).toInt) (h33 : (sy_i F2 33).toInt = (sy_i F' 33).toInt) (hJ : ∀ a, J a F' → J' a F2) : ac r J' x F2 := by
  rcases h with ⟨a, b⟩ | ⟨a, c, b, d⟩
  · exact Or.inl ⟨a, by rw [h34, tg_eq h33]; exact b⟩
  · exact Or.inr ⟨a, c, b, hJ c d⟩
theorem nx_T {Ls : Nat} {xs : Nat → Int32} {d : Nat} {M : jm_M} {Q : Option Value → jm_h → Prop} {s : Nat} {ad : Nat} (hs : s < 4) (F : Nat → sy_d) (X1 X2 : List jm_c) {A : List sy_v} {as : List Int32} (hok : jm_ok jm_YN M) (hl : (sy_e1 A).length ≤ jm_mx M) (hA : A.map (sy_dv (nx 82 F as)) = .ref ad :: as.map .int)
    (h : hd_W Ls xs d M Q (0, sy_dL (nx 82 F as) (sy_ent (jm_mx M) A), [], sy_dh (nx 82 F as) X1 X2 (iv_H s), 0, 0)) : jm_T Ls xs d M (.ref ad :: as.map .int) (sy_dh F X1 X2 (iv_H s)) 0 0 Q := by
  have e : sy_dh F X1 X2 (iv_H s) = sy_dh (nx 82 F as) X1 X2 (iv_H s) := by
    rw [dh_x F X1 X2 hs, dh_x (nx 82 F as) X1 X2 hs, dh_nx hs nx_lt]
  rw [e, ← hA]
  exact hd_T hok hl h
end
section
/-! ===== the class parses, way by way (shape 0) ===== -/
theorem k0ta_0_p0 {Ls : Nat} {xs : Nat → Int32} {d : Nat} {Q : Option Value → jm_h → Prop} (hd : 3 ≤ d) (F : Nat → sy_d) (X1 X2 : List jm_c) (hB : iv_in F iv_B0)
    (h0 : 0 ≤ (sy_i F 33).toInt)
    (h1 : (sy_i F 33).toInt ≤ 400)
    (h2 : 0 ≤ (sy_i F 33).toInt ∧ (sy_i F 33).toInt < 401)
    (h3 : ((sy_ai F 39).getD (sy_i F 33).toNatClampNeg 0).toInt = (sy_i F 82).toInt)
    (h4 : (sy_i F 33).toInt < 400)
    (k : ∀ F1 : Nat → sy_d, (∀ j, j < 82 → j ≠ 33 → F1 j = F j) → F1 33 = .inl (.int ((sy_i F 33) + ((1 : Int32)))) → Q (some (.int ((1 : Int32)))) (sy_dh F1 X1 X2 (iv_H 0))) :
    hd_W Ls xs d jm_M43 Q (0, sy_dL F [some (.inl (.ref 30)), some (.inr (.inl 82))], sy_dS F [], sy_dh F X1 X2 (iv_H 0), 0, 0) := by
  refine hd_ret (s := 0) (nv := 83) (v := some (.inl (.int 1))) (uh := hd_ov (iv_id 0 iv_B0) [(33, .inl (.inr (.inl 84)))]) (f := true) (sp := []) (d0 := 2) (O := [false, false, true, true]) (T := [(30, [.inr (.inl 33)], [.inr (.inl 39)]), (0, [.inr (.inl 33), .inl (.int 1)], [])]) (P := [(3, .inr (.inl 33), .inl (.int 0)), (3, .inl (.int 400), .inr (.inl 33)), (6, .inr (.inl 33), .inl (.ref 401)), (0, .inr (.inl 83), .inr (.inl 82)), (2, .inr (.inl 33), .inl (.int 400))]) jm_ok43 (by decide +kernel) (by decide +kernel) hd F X1 X2 (fun F' hF hs => ?_)
  have b33 := hd_b (F := F) (F' := F') (k := 33) (hF 33 (by decide))
  have a39 := hd_ba (F := F) (F' := F') (k := 39) (hF 39 (by decide))
  have t83 : sy_dv F' (.inr (.inl 83)) = .int ((sy_ai F 39).getD (sy_i F 33).toNatClampNeg 0) := hd_rd (hs 0 _ rfl) b33 a39
  have b82 := hd_b (F := F) (F' := F') (k := 82) (hF 82 (by decide))
  have t84 : sy_dv F' (.inr (.inl 84)) = .int ((sy_i F 33) + ((1 : Int32))) := hd_o (hs 1 _ rfl) b33 rfl rfl
  have hB' : iv_in F' iv_B0 := iv_in_eq hB (fun j hj => hF j (Nat.lt_of_lt_of_le hj (by decide +kernel)))
  refine ⟨List.forall_mem_cons.mpr ⟨hd_p3 b33 rfl (by have hc : ((0) : Int32).toInt = 0 := (by decide); omega), List.forall_mem_cons.mpr ⟨hd_p3 rfl b33 (by have hc : ((400) : Int32).toInt = 400 := (by decide); omega), List.forall_mem_cons.mpr ⟨hd_pb b33 (by first | exact h2 | exact h2), List.forall_mem_cons.mpr ⟨hd_p0 t83 b82 h3, List.forall_mem_cons.mpr ⟨hd_p2 b33 rfl (by have hc : ((400) : Int32).toInt = 400 := (by decide); omega), fun _ h => absurd h List.not_mem_nil⟩⟩⟩⟩⟩, ?_⟩
  refine k _ ?_ ?_
  · exact fun j hj hn => (hd_keep hB' (Nat.lt_of_lt_of_le hj (by decide +kernel)) (by simp; omega)).trans (hF j (Nat.lt_of_lt_of_le hj (by decide)))
  · exact hd_gi (x := .inr (.inl 84)) (by decide +kernel) t84
theorem k0ta_0_p1 {Ls : Nat} {xs : Nat → Int32} {d : Nat} {Q : Option Value → jm_h → Prop} (hd : 3 ≤ d) (F : Nat → sy_d) (X1 X2 : List jm_c) (hB : iv_in F iv_B0)
    (h0 : 0 ≤ (sy_i F 33).toInt)
    (h1 : (sy_i F 33).toInt ≤ 400)
    (h2 : 0 ≤ (sy_i F 33).toInt ∧ (sy_i F 33).toInt < 401)
    (h3 : ((sy_ai F 39).getD (sy_i F 33).toNatClampNeg 0).toInt = (sy_i F 82).toInt)
    (h4 : 400 ≤ (sy_i F 33).toInt)
    (k : ∀ F1 : Nat → sy_d, (∀ j, j < 82 → j ≠ 34 → F1 j = F j) → F1 34 = .inl (.int ((2 : Int32))) → Q (some (.int ((0 : Int32)))) (sy_dh F1 X1 X2 (iv_H 0))) :
    hd_W Ls xs d jm_M43 Q (0, sy_dL F [some (.inl (.ref 30)), some (.inr (.inl 82))], sy_dS F [], sy_dh F X1 X2 (iv_H 0), 0, 0) := by
  refine hd_ret (s := 0) (nv := 83) (v := some (.inl (.int 0))) (uh := hd_ov (iv_id 0 iv_B0) [(34, .inl (.inl (.int 2)))]) (f := true) (sp := []) (d0 := 2) (O := [false, false, true, false]) (T := [(30, [.inr (.inl 33)], [.inr (.inl 39)])]) (P := [(3, .inr (.inl 33), .inl (.int 0)), (3, .inl (.int 400), .inr (.inl 33)), (6, .inr (.inl 33), .inl (.ref 401)), (0, .inr (.inl 83), .inr (.inl 82)), (3, .inr (.inl 33), .inl (.int 400))]) jm_ok43 (by decide +kernel) (by decide +kernel) hd F X1 X2 (fun F' hF hs => ?_)
  have b33 := hd_b (F := F) (F' := F') (k := 33) (hF 33 (by decide))
  have a39 := hd_ba (F := F) (F' := F') (k := 39) (hF 39 (by decide))
  have t83 : sy_dv F' (.inr (.inl 83)) = .int ((sy_ai F 39).getD (sy_i F 33).toNatClampNeg 0) := hd_rd (hs 0 _ rfl) b33 a39
  have b82 := hd_b (F := F) (F' := F') (k := 82) (hF 82 (by decide))
  have hB' : iv_in F' iv_B0 := iv_in_eq hB (fun j hj => hF j (Nat.lt_of_lt_of_le hj (by decide +kernel)))
  refine ⟨List.forall_mem_cons.mpr ⟨hd_p3 b33 rfl (by have hc : ((0) : Int32).toInt = 0 := (by decide); omega), List.forall_mem_cons.mpr ⟨hd_p3 rfl b33 (by have hc : ((400) : Int32).toInt = 400 := (by decide); omega), List.forall_mem_cons.mpr ⟨hd_pb b33 (by first | exact h2 | exact h2), List.forall_mem_cons.mpr ⟨hd_p0 t83 b82 h3, List.forall_mem_cons.mpr ⟨hd_p3 b33 rfl (by have hc : ((400) : Int32).toInt = 400 := (by decide); omega), fun _ h => absurd h List.not_mem_nil⟩⟩⟩⟩⟩, ?_⟩
  refine k _ ?_ ?_
  · exact fun j hj hn => (hd_keep hB' (Nat.lt_of_lt_of_le hj (by decide +kernel)) (by simp; omega)).trans (hF j (Nat.lt_of_lt_of_le hj (by decide)))
  · exact hd_gi (x := .inl (.int 2)) (by decide +kernel) rfl
theorem k0ta_0_p2 {Ls : Nat} {xs : Nat → Int32} {d : Nat} {Q : Option Value → jm_h → Prop} (hd : 3 ≤ d) (F : Nat → sy_d) (X1 X2 : List jm_c) (hB : iv_in F iv_B0)
    (h0 : 0 ≤ (sy_i F 33).toInt)
    (h1 : (sy_i F 33).toInt ≤ 400)
    (h2 : 0 ≤ (sy_i F 33).toInt ∧ (sy_i F 33).toInt < 401)
    (h3 : ((sy_ai F 39).getD (sy_i F 33).toNatClampNeg 0).toInt ≠ (sy_i F 82).toInt)
    (k : ∀ F1 : Nat → sy_d, (∀ j, j < 82 → j ≠ 34 → F1 j = F j) → F1 34 = .inl (.int ((1 : Int32))) → Q (some (.int ((0 : Int32)))) (sy_dh F1 X1 X2 (iv_H 0))) :
    hd_W Ls xs d jm_M43 Q (0, sy_dL F [some (.inl (.ref 30)), some (.inr (.inl 82))], sy_dS F [], sy_dh F X1 X2 (iv_H 0), 0, 0) := by
  refine hd_ret (s := 0) (nv := 83) (v := some (.inl (.int 0))) (uh := hd_ov (iv_id 0 iv_B0) [(34, .inl (.inl (.int 1)))]) (f := true) (sp := []) (d0 := 2) (O := [false, false, false]) (T := [(30, [.inr (.inl 33)], [.inr (.inl 39)])]) (P := [(3, .inr (.inl 33), .inl (.int 0)), (3, .inl (.int 400), .inr (.inl 33)), (6, .inr (.inl 33), .inl (.ref 401)), (1, .inr (.inl 83), .inr (.inl 82))]) jm_ok43 (by decide +kernel) (by decide +kernel) hd F X1 X2 (fun F' hF hs => ?_)
  have b33 := hd_b (F := F) (F' := F') (k := 33) (hF 33 (by decide))
  have a39 := hd_ba (F := F) (F' := F') (k := 39) (hF 39 (by decide))
  have t83 : sy_dv F' (.inr (.inl 83)) = .int ((sy_ai F 39).getD (sy_i F 33).toNatClampNeg 0) := hd_rd (hs 0 _ rfl) b33 a39
  have b82 := hd_b (F := F) (F' := F') (k := 82) (hF 82 (by decide))
  have hB' : iv_in F' iv_B0 := iv_in_eq hB (fun j hj => hF j (Nat.lt_of_lt_of_le hj (by decide +kernel)))
  refine ⟨List.forall_mem_cons.mpr ⟨hd_p3 b33 rfl (by have hc : ((0) : Int32).toInt = 0 := (by decide); omega), List.forall_mem_cons.mpr ⟨hd_p3 rfl b33 (by have hc : ((400) : Int32).toInt = 400 := (by decide); omega), List.forall_mem_cons.mpr ⟨hd_pb b33 (by first | exact h2 | exact h2), List.forall_mem_cons.mpr ⟨hd_p1 t83 b82 h3, fun _ h => absurd h List.not_mem_nil⟩⟩⟩⟩, ?_⟩
  refine k _ ?_ ?_
  · exact fun j hj hn => (hd_keep hB' (Nat.lt_of_lt_of_le hj (by decide +kernel)) (by simp; omega)).trans (hF j (Nat.lt_of_lt_of_le hj (by decide)))
  · exact hd_gi (x := .inl (.int 1)) (by decide +kernel) rfl
theorem k0ta_0 {Ls : Nat} {xs : Nat → Int32} {d : Nat} {Q : Option Value → jm_h → Prop} (hd : 3 ≤ d) (F : Nat → sy_d) (X1 X2 : List jm_c) (hB : iv_in F iv_B0)
    (k0 : 0 ≤ (sy_i F 33).toInt → (sy_i F 33).toInt ≤ 400 → ((sy_ai F 39).getD ((sy_i F 33).toInt).toNat 0).toInt = (sy_i F 82).toInt → (sy_i F 33).toInt < 400 → ∀ F1 : Nat → sy_d, iv_in F1 iv_B0 → (∀ j, j < 82 → j ∉ ([33] : List Nat) → F1 j = F j) → (sy_i F1 33).toInt = ((sy_i F 33).toInt + 1) → (sy_i F1 34).toInt = (sy_i F 34).toInt → (sy_i F1 36).toInt = (sy_i F 36).toInt → (sy_i F1 37).toInt = (sy_i F 37).toInt → (sy_i F1 38).toInt = (sy_i F 38).toInt → sy_ai F1 39 = sy_ai F 39 → sy_ai F1 40 = sy_ai F 40 → Q (some (.int ((1 : Int32)))) (sy_dh F1 X1 X2 (iv_H 0)))
    (k1 : 0 ≤ (sy_i F 33).toInt → (sy_i F 33).toInt ≤ 400 → ((sy_ai F 39).getD ((sy_i F 33).toInt).toNat 0).toInt = (sy_i F 82).toInt → 400 ≤ (sy_i F 33).toInt → ∀ F1 : Nat → sy_d, iv_in F1 iv_B0 → (∀ j, j < 82 → j ∉ ([34] : List Nat) → F1 j = F j) → (sy_i F1 33).toInt = (sy_i F 33).toInt → (sy_i F1 34).toInt = 2 → (sy_i F1 36).toInt = (sy_i F 36).toInt → (sy_i F1 37).toInt = (sy_i F 37).toInt → (sy_i F1 38).toInt = (sy_i F 38).toInt → sy_ai F1 39 = sy_ai F 39 → sy_ai F1 40 = sy_ai F 40 → Q (some (.int ((0 : Int32)))) (sy_dh F1 X1 X2 (iv_H 0)))
    (k2 : 0 ≤ (sy_i F 33).toInt → (sy_i F 33).toInt ≤ 400 → ((sy_ai F 39).getD ((sy_i F 33).toInt).toNat 0).toInt ≠ (sy_i F 82).toInt → ∀ F1 : Nat → sy_d, iv_in F1 iv_B0 → (∀ j, j < 82 → j ∉ ([34] : List Nat) → F1 j = F j) → (sy_i F1 33).toInt = (sy_i F 33).toInt → (sy_i F1 34).toInt = 1 → (sy_i F1 36).toInt = (sy_i F 36).toInt → (sy_i F1 37).toInt = (sy_i F 37).toInt → (sy_i F1 38).toInt = (sy_i F 38).toInt → sy_ai F1 39 = sy_ai F 39 → sy_ai F1 40 = sy_ai F 40 → Q (some (.int ((0 : Int32)))) (sy_dh F1 X1 X2 (iv_H 0))) :
    hd_W Ls xs d jm_M43 Q (0, sy_dL F [some (.inl (.ref 30)), some (.inr (.inl 82))], sy_dS F [], sy_dh F X1 X2 (iv_H 0), 0, 0) := by
  by_cases g0 : (sy_i F 33).toInt < 0
  · have c33 := nz_bx hB (k := 33) (lo := 0) (hi := 400) rfl
    exfalso
    omega
  replace g0 : 0 ≤ (sy_i F 33).toInt := by omega
  by_cases g1 : 400 < (sy_i F 33).toInt
  · have c33 := nz_bx hB (k := 33) (lo := 0) (hi := 400) rfl
    exfalso
    omega
  replace g1 : (sy_i F 33).toInt ≤ 400 := by omega
  by_cases g2 : ((sy_ai F 39).getD ((sy_i F 33).toInt).toNat 0).toInt = (sy_i F 82).toInt
  · by_cases g3 : (sy_i F 33).toInt < 400
    · have c33 := nz_bx hB (k := 33) (lo := 0) (hi := 400) rfl
      have q83 : (sy_ai F 39).getD (sy_i F 33).toNatClampNeg 0 = (sy_ai F 39).getD ((sy_i F 33).toInt).toNat 0 := by simp only [nz_c]
      have n83 : ((sy_ai F 39).getD (sy_i F 33).toNatClampNeg 0).toInt = ((sy_ai F 39).getD ((sy_i F 33).toInt).toNat 0).toInt := congrArg Int32.toInt q83
      have n84 : ((sy_i F 33) + ((1 : Int32))).toInt = ((sy_i F 33).toInt + 1) := nz_add (rfl : (sy_i F 33).toInt = (sy_i F 33).toInt) (by decide : ((1 : Int32)).toInt = 1) (by omega) (by omega)
      exact k0ta_0_p0 hd F X1 X2 hB (by first | exact g0 | (simp only [nz_c]; exact g0)) (by first | exact g1 | (simp only [nz_c]; exact g1)) (by first | exact ⟨by omega, by omega⟩ | (simp only [nz_c]; exact ⟨by omega, by omega⟩)) (by first | exact g2 | (simp only [nz_c]; exact g2) | (rw [n83]; exact g2)) (by first | exact g3 | (simp only [nz_c]; exact g3)) (fun F1 g e33 => k0 g0 g1 g2 g3 F1 (nz_in0 hB [33] (fun j hj hn => g j hj (by simp only [List.mem_cons, List.not_mem_nil, or_false, not_or] at hn; omega)) (List.forall_mem_cons.mpr ⟨fun t ht => (Option.some.inj ht) ▸ (nz_hi e33 n84 (by omega) (by omega)), List.forall_mem_nil _⟩)) (fun j hj hn => g j hj (by simp only [List.mem_cons, List.not_mem_nil, or_false, not_or] at hn; omega)) ((congrArg Int32.toInt (zz_i e33)).trans n84) (nz_fi (g 34 (by decide) (by decide))) (nz_fi (g 36 (by decide) (by decide))) (nz_fi (g 37 (by decide) (by decide))) (nz_fi (g 38 (by decide) (by decide))) (nz_fa (g 39 (by decide) (by decide))) (nz_fa (g 40 (by decide) (by decide))))
    replace g3 : 400 ≤ (sy_i F 33).toInt := by omega
    have c33 := nz_bx hB (k := 33) (lo := 0) (hi := 400) rfl
    have q83 : (sy_ai F 39).getD (sy_i F 33).toNatClampNeg 0 = (sy_ai F 39).getD ((sy_i F 33).toInt).toNat 0 := by simp only [nz_c]
    have n83 : ((sy_ai F 39).getD (sy_i F 33).toNatClampNeg 0).toInt = ((sy_ai F 39).getD ((sy_i F 33).toInt).toNat 0).toInt := congrArg Int32.toInt q83
    exact k0ta_0_p1 hd F X1 X2 hB (by first | exact g0 | (simp only [nz_c]; exact g0)) (by first | exact g1 | (simp only [nz_c]; exact g1)) (by first | exact ⟨by omega, by omega⟩ | (simp only [nz_c]; exact ⟨by omega, by omega⟩)) (by first | exact g2 | (simp only [nz_c]; exact g2) | (rw [n83]; exact g2)) (by first | exact g3 | (simp only [nz_c]; exact g3)) (fun F1 g e34 => k1 g0 g1 g2 g3 F1 (nz_in0 hB [34] (fun j hj hn => g j hj (by simp only [List.mem_cons, List.not_mem_nil, or_false, not_or] at hn; omega)) (List.forall_mem_cons.mpr ⟨fun t ht => (Option.some.inj ht) ▸ (nz_hz e34), List.forall_mem_nil _⟩)) (fun j hj hn => g j hj (by simp only [List.mem_cons, List.not_mem_nil, or_false, not_or] at hn; omega)) (nz_fi (g 33 (by decide) (by decide))) ((congrArg Int32.toInt (zz_i e34)).trans (by decide : ((2 : Int32)).toInt = 2)) (nz_fi (g 36 (by decide) (by decide))) (nz_fi (g 37 (by decide) (by decide))) (nz_fi (g 38 (by decide) (by decide))) (nz_fa (g 39 (by decide) (by decide))) (nz_fa (g 40 (by decide) (by decide))))
  replace g2 : ((sy_ai F 39).getD ((sy_i F 33).toInt).toNat 0).toInt ≠ (sy_i F 82).toInt := by omega
  have c33 := nz_bx hB (k := 33) (lo := 0) (hi := 400) rfl
  have q83 : (sy_ai F 39).getD (sy_i F 33).toNatClampNeg 0 = (sy_ai F 39).getD ((sy_i F 33).toInt).toNat 0 := by simp only [nz_c]
  have n83 : ((sy_ai F 39).getD (sy_i F 33).toNatClampNeg 0).toInt = ((sy_ai F 39).getD ((sy_i F 33).toInt).toNat 0).toInt := congrArg Int32.toInt q83
  exact k0ta_0_p2 hd F X1 X2 hB (by first | exact g0 | (simp only [nz_c]; exact g0)) (by first | exact g1 | (simp only [nz_c]; exact g1)) (by first | exact ⟨by omega, by omega⟩ | (simp only [nz_c]; exact ⟨by omega, by omega⟩)) (by first | exact g2 | (simp only [nz_c]; exact g2) | (rw [n83]; exact g2)) (fun F1 g e34 => k2 g0 g1 g2 F1 (nz_in0 hB [34] (fun j hj hn => g j hj (by simp only [List.mem_cons, List.not_mem_nil, or_false, not_or] at hn; omega)) (List.forall_mem_cons.mpr ⟨fun t ht => (Option.some.inj ht) ▸ (nz_hz e34), List.forall_mem_nil _⟩)) (fun j hj hn => g j hj (by simp only [List.mem_cons, List.not_mem_nil, or_false, not_or] at hn; omega)) (nz_fi (g 33 (by decide) (by decide))) ((congrArg Int32.toInt (zz_i e34)).trans (by decide : ((1 : Int32)).toInt = 1)) (nz_fi (g 36 (by decide) (by decide))) (nz_fi (g 37 (by decide) (by decide))) (nz_fi (g 38 (by decide) (by decide))) (nz_fa (g 39 (by decide) (by decide))) (nz_fa (g 40 (by decide) (by decide))))
theorem k0tn_0_p0 {Ls : Nat} {xs : Nat → Int32} {d : Nat} {Q : Option Value → jm_h → Prop} (hd : 4 ≤ d) (F : Nat → sy_d) (X1 X2 : List jm_c) (hB : iv_in F iv_B0)
    (h0 : 0 ≤ (sy_i F 33).toInt)
    (h1 : (sy_i F 33).toInt ≤ 400)
    (h2 : 0 ≤ (sy_i F 33).toInt ∧ (sy_i F 33).toInt < 401)
    (h3 : ((sy_ai F 39).getD (sy_i F 33).toNatClampNeg 0).toInt = 24)
    (h4 : (sy_i F 33).toInt < 400)
    (h5 : 0 ≤ (((sy_i F 33) + ((1 : Int32))) - ((1 : Int32))).toInt)
    (h6 : (((sy_i F 33) + ((1 : Int32))) - ((1 : Int32))).toInt ≤ 400)
    (h7 : 0 ≤ (((sy_i F 33) + ((1 : Int32))) - ((1 : Int32))).toInt ∧ (((sy_i F 33) + ((1 : Int32))) - ((1 : Int32))).toInt < 401)
    (h8 : (((sy_al F 41).getD (((sy_i F 33) + ((1 : Int32))) - ((1 : Int32))).toNatClampNeg 0).toInt32).toInt < (sy_i F 83).toInt)
    (h9 : (sy_i F 36).toInt ≠ 0)
    (h10 : 0 ≤ (sy_i F 82).toInt)
    (h11 : (sy_i F 82).toInt ≤ 2)
    (h12 : 0 ≤ (sy_i F 82).toInt ∧ (sy_i F 82).toInt < 3)
    (k : ∀ F1 : Nat → sy_d, (∀ j, j < 82 → j ≠ 33 ∧ j ≠ 44 → F1 j = F j) → F1 33 = .inl (.int ((sy_i F 33) + ((1 : Int32)))) → F1 44 = .inr (.inl (jm_upd (sy_ai F 44) (sy_i F 82).toNatClampNeg (((sy_al F 41).getD (((sy_i F 33) + ((1 : Int32))) - ((1 : Int32))).toNatClampNeg 0).toInt32))) → Q (some (.int ((1 : Int32)))) (sy_dh F1 X1 X2 (iv_H 0))) :
    hd_W Ls xs d jm_M42 Q (0, sy_dL F [some (.inl (.ref 30)), some (.inr (.inl 82)), some (.inr (.inl 83)), some (.inr (.inl 84)), none], sy_dS F [], sy_dh F X1 X2 (iv_H 0), 0, 0) := by
  refine hd_ret (s := 0) (nv := 85) (v := some (.inl (.int 1))) (uh := hd_ov (iv_id 0 iv_B0) [(33, .inl (.inr (.inl 86))), (44, .inr (.inr (.inl 90)))]) (f := true) (sp := []) (d0 := 3) (O := [false, false, true, true, false, false, true, true, false, false]) (T := [(30, [.inr (.inl 33)], [.inr (.inl 39)]), (0, [.inr (.inl 33), .inl (.int 1)], []), (1, [.inr (.inl 86), .inl (.int 1)], []), (30, [.inr (.inl 87)], [.inr (.inr 41)]), (25, [.inr (.inr 88)], []), (40, [.inr (.inl 82), .inr (.inl 89)], [.inr (.inl 44)])]) (P := [(3, .inr (.inl 33), .inl (.int 0)), (3, .inl (.int 400), .inr (.inl 33)), (6, .inr (.inl 33), .inl (.ref 401)), (0, .inr (.inl 85), .inl (.int 24)), (2, .inr (.inl 33), .inl (.int 400)), (3, .inr (.inl 87), .inl (.int 0)), (3, .inl (.int 400), .inr (.inl 87)), (6, .inr (.inl 87), .inl (.ref 401)), (2, .inr (.inl 89), .inr (.inl 83)), (1, .inr (.inl 36), .inl (.int 0)), (3, .inr (.inl 82), .inl (.int 0)), (3, .inl (.int 2), .inr (.inl 82)), (6, .inr (.inl 82), .inl (.ref 3))]) jm_ok42 (by decide +kernel) (by decide +kernel) hd F X1 X2 (fun F' hF hs => ?_)
  have b33 := hd_b (F := F) (F' := F') (k := 33) (hF 33 (by decide))
  have a39 := hd_ba (F := F) (F' := F') (k := 39) (hF 39 (by decide))
  have t85 : sy_dv F' (.inr (.inl 85)) = .int ((sy_ai F 39).getD (sy_i F 33).toNatClampNeg 0) := hd_rd (hs 0 _ rfl) b33 a39
  have t86 : sy_dv F' (.inr (.inl 86)) = .int ((sy_i F 33) + ((1 : Int32))) := hd_o (hs 1 _ rfl) b33 rfl rfl
  have t87 : sy_dv F' (.inr (.inl 87)) = .int (((sy_i F 33) + ((1 : Int32))) - ((1 : Int32))) := hd_o (hs 2 _ rfl) t86 rfl rfl
  have a41 := hd_bA (F := F) (F' := F') (k := 41) (hF 41 (by decide))
  have t88 : sy_dv F' (.inr (.inr 88)) = .long ((sy_al F 41).getD (((sy_i F 33) + ((1 : Int32))) - ((1 : Int32))).toNatClampNeg 0) := hd_rL (hs 3 _ rfl) t87 a41
  have t89 : sy_dv F' (.inr (.inl 89)) = .int (((sy_al F 41).getD (((sy_i F 33) + ((1 : Int32))) - ((1 : Int32))).toNatClampNeg 0).toInt32) := hd_uI (hs 4 _ rfl) t88
  have b83 := hd_b (F := F) (F' := F') (k := 83) (hF 83 (by decide))
  have b36 := hd_b (F := F) (F' := F') (k := 36) (hF 36 (by decide))
  have b82 := hd_b (F := F) (F' := F') (k := 82) (hF 82 (by decide))
  have a44 := hd_ba (F := F) (F' := F') (k := 44) (hF 44 (by decide))
  have t90 : sy_da F' (.inr (.inl 90)) = .inl (jm_upd (sy_ai F 44) (sy_i F 82).toNatClampNeg (((sy_al F 41).getD (((sy_i F 33) + ((1 : Int32))) - ((1 : Int32))).toNatClampNeg 0).toInt32)) := hd_up (hs 5 _ rfl) b82 t89 a44
  have hB' : iv_in F' iv_B0 := iv_in_eq hB (fun j hj => hF j (Nat.lt_of_lt_of_le hj (by decide +kernel)))
  refine ⟨List.forall_mem_cons.mpr ⟨hd_p3 b33 rfl (by have hc : ((0) : Int32).toInt = 0 := (by decide); omega), List.forall_mem_cons.mpr ⟨hd_p3 rfl b33 (by have hc : ((400) : Int32).toInt = 400 := (by decide); omega), List.forall_mem_cons.mpr ⟨hd_pb b33 (by first | exact h2 | exact h2), List.forall_mem_cons.mpr ⟨hd_p0 t85 rfl (by have hc : ((24) : Int32).toInt = 24 := (by decide); omega), List.forall_mem_cons.mpr ⟨hd_p2 b33 rfl (by have hc : ((400) : Int32).toInt = 400 := (by decide); omega), List.forall_mem_cons.mpr ⟨hd_p3 t87 rfl (by have hc : ((0) : Int32).toInt = 0 := (by decide); omega), List.forall_mem_cons.mpr ⟨hd_p3 rfl t87 (by have hc : ((400) : Int32).toInt = 400 := (by decide); omega), List.forall_mem_cons.mpr ⟨hd_pb t87 (by first | exact h7 | exact h7), List.forall_mem_cons.mpr ⟨hd_p2 t89 b83 h8, List.forall_mem_cons.mpr ⟨hd_p1 b36 rfl (by have hc : ((0) : Int32).toInt = 0 := (by decide); omega), List.forall_mem_cons.mpr ⟨hd_p3 b82 rfl (by have hc : ((0) : Int32).toInt = 0 := (by decide); omega), List.forall_mem_cons.mpr ⟨hd_p3 rfl b82 (by have hc : ((2) : Int32).toInt = 2 := (by decide); omega), List.forall_mem_cons.mpr ⟨hd_pb b82 (by first | exact h12 | exact h12), fun _ h => absurd h List.not_mem_nil⟩⟩⟩⟩⟩⟩⟩⟩⟩⟩⟩⟩⟩, ?_⟩
  refine k _ ?_ ?_ ?_
  · exact fun j hj hn => (hd_keep hB' (Nat.lt_of_lt_of_le hj (by decide +kernel)) (by simp; omega)).trans (hF j (Nat.lt_of_lt_of_le hj (by decide)))
  · exact hd_gi (x := .inr (.inl 86)) (by decide +kernel) t86
  · exact hd_ga (a := .inr (.inl 90)) (by decide +kernel) t90
theorem k0tn_0_p1 {Ls : Nat} {xs : Nat → Int32} {d : Nat} {Q : Option Value → jm_h → Prop} (hd : 4 ≤ d) (F : Nat → sy_d) (X1 X2 : List jm_c) (hB : iv_in F iv_B0)
    (h0 : 0 ≤ (sy_i F 33).toInt)
    (h1 : (sy_i F 33).toInt ≤ 400)
    (h2 : 0 ≤ (sy_i F 33).toInt ∧ (sy_i F 33).toInt < 401)
    (h3 : ((sy_ai F 39).getD (sy_i F 33).toNatClampNeg 0).toInt = 24)
    (h4 : (sy_i F 33).toInt < 400)
    (h5 : 0 ≤ (((sy_i F 33) + ((1 : Int32))) - ((1 : Int32))).toInt)
    (h6 : (((sy_i F 33) + ((1 : Int32))) - ((1 : Int32))).toInt ≤ 400)
    (h7 : 0 ≤ (((sy_i F 33) + ((1 : Int32))) - ((1 : Int32))).toInt ∧ (((sy_i F 33) + ((1 : Int32))) - ((1 : Int32))).toInt < 401)
    (h8 : (((sy_al F 41).getD (((sy_i F 33) + ((1 : Int32))) - ((1 : Int32))).toNatClampNeg 0).toInt32).toInt < (sy_i F 83).toInt)
    (h9 : (sy_i F 36).toInt = 0)
    (h10 : 0 ≤ (((sy_i F 33) + ((1 : Int32))) - ((1 : Int32))).toInt)
    (h11 : (((sy_i F 33) + ((1 : Int32))) - ((1 : Int32))).toInt ≤ 400)
    (h12 : 0 ≤ (((sy_i F 33) + ((1 : Int32))) - ((1 : Int32))).toInt ∧ (((sy_i F 33) + ((1 : Int32))) - ((1 : Int32))).toInt < 401)
    (h13 : 0 ≤ (sy_i F 82).toInt)
    (h14 : (sy_i F 82).toInt ≤ 2)
    (h15 : 0 ≤ (sy_i F 82).toInt ∧ (sy_i F 82).toInt < 3)
    (k : ∀ F1 : Nat → sy_d, (∀ j, j < 82 → j ≠ 33 ∧ j ≠ 36 ∧ j ≠ 37 ∧ j ≠ 44 → F1 j = F j) → F1 33 = .inl (.int ((sy_i F 33) + ((1 : Int32)))) → F1 36 = .inl (.int ((5 : Int32))) → F1 37 = .inl (.int ((sy_ai F 40).getD (((sy_i F 33) + ((1 : Int32))) - ((1 : Int32))).toNatClampNeg 0)) → F1 44 = .inr (.inl (jm_upd (sy_ai F 44) (sy_i F 82).toNatClampNeg (((sy_al F 41).getD (((sy_i F 33) + ((1 : Int32))) - ((1 : Int32))).toNatClampNeg 0).toInt32))) → Q (some (.int ((1 : Int32)))) (sy_dh F1 X1 X2 (iv_H 0))) :
    hd_W Ls xs d jm_M42 Q (0, sy_dL F [some (.inl (.ref 30)), some (.inr (.inl 82)), some (.inr (.inl 83)), some (.inr (.inl 84)), none], sy_dS F [], sy_dh F X1 X2 (iv_H 0), 0, 0) := by
  refine hd_ret (s := 0) (nv := 85) (v := some (.inl (.int 1))) (uh := hd_ov (iv_id 0 iv_B0) [(33, .inl (.inr (.inl 86))), (36, .inl (.inl (.int 5))), (37, .inl (.inr (.inl 91))), (44, .inr (.inr (.inl 92)))]) (f := true) (sp := []) (d0 := 3) (O := [false, false, true, true, false, false, true, false, false, false, false, false]) (T := [(30, [.inr (.inl 33)], [.inr (.inl 39)]), (0, [.inr (.inl 33), .inl (.int 1)], []), (1, [.inr (.inl 86), .inl (.int 1)], []), (30, [.inr (.inl 87)], [.inr (.inr 41)]), (25, [.inr (.inr 88)], []), (1, [.inr (.inl 86), .inl (.int 1)], []), (30, [.inr (.inl 90)], [.inr (.inl 40)]), (40, [.inr (.inl 82), .inr (.inl 89)], [.inr (.inl 44)])]) (P := [(3, .inr (.inl 33), .inl (.int 0)), (3, .inl (.int 400), .inr (.inl 33)), (6, .inr (.inl 33), .inl (.ref 401)), (0, .inr (.inl 85), .inl (.int 24)), (2, .inr (.inl 33), .inl (.int 400)), (3, .inr (.inl 87), .inl (.int 0)), (3, .inl (.int 400), .inr (.inl 87)), (6, .inr (.inl 87), .inl (.ref 401)), (2, .inr (.inl 89), .inr (.inl 83)), (0, .inr (.inl 36), .inl (.int 0)), (3, .inr (.inl 90), .inl (.int 0)), (3, .inl (.int 400), .inr (.inl 90)), (6, .inr (.inl 90), .inl (.ref 401)), (3, .inr (.inl 82), .inl (.int 0)), (3, .inl (.int 2), .inr (.inl 82)), (6, .inr (.inl 82), .inl (.ref 3))]) jm_ok42 (by decide +kernel) (by decide +kernel) hd F X1 X2 (fun F' hF hs => ?_)
  have b33 := hd_b (F := F) (F' := F') (k := 33) (hF 33 (by decide))
  have a39 := hd_ba (F := F) (F' := F') (k := 39) (hF 39 (by decide))
  have t85 : sy_dv F' (.inr (.inl 85)) = .int ((sy_ai F 39).getD (sy_i F 33).toNatClampNeg 0) := hd_rd (hs 0 _ rfl) b33 a39
  have t86 : sy_dv F' (.inr (.inl 86)) = .int ((sy_i F 33) + ((1 : Int32))) := hd_o (hs 1 _ rfl) b33 rfl rfl
  have t87 : sy_dv F' (.inr (.inl 87)) = .int (((sy_i F 33) + ((1 : Int32))) - ((1 : Int32))) := hd_o (hs 2 _ rfl) t86 rfl rfl
  have a41 := hd_bA (F := F) (F' := F') (k := 41) (hF 41 (by decide))
  have t88 : sy_dv F' (.inr (.inr 88)) = .long ((sy_al F 41).getD (((sy_i F 33) + ((1 : Int32))) - ((1 : Int32))).toNatClampNeg 0) := hd_rL (hs 3 _ rfl) t87 a41
  have t89 : sy_dv F' (.inr (.inl 89)) = .int (((sy_al F 41).getD (((sy_i F 33) + ((1 : Int32))) - ((1 : Int32))).toNatClampNeg 0).toInt32) := hd_uI (hs 4 _ rfl) t88
  have b83 := hd_b (F := F) (F' := F') (k := 83) (hF 83 (by decide))
  have b36 := hd_b (F := F) (F' := F') (k := 36) (hF 36 (by decide))
  have t90 : sy_dv F' (.inr (.inl 90)) = .int (((sy_i F 33) + ((1 : Int32))) - ((1 : Int32))) := hd_o (hs 5 _ rfl) t86 rfl rfl
  have b82 := hd_b (F := F) (F' := F') (k := 82) (hF 82 (by decide))
  have a40 := hd_ba (F := F) (F' := F') (k := 40) (hF 40 (by decide))
  have t91 : sy_dv F' (.inr (.inl 91)) = .int ((sy_ai F 40).getD (((sy_i F 33) + ((1 : Int32))) - ((1 : Int32))).toNatClampNeg 0) := hd_rd (hs 6 _ rfl) t90 a40
  have a44 := hd_ba (F := F) (F' := F') (k := 44) (hF 44 (by decide))
  have t92 : sy_da F' (.inr (.inl 92)) = .inl (jm_upd (sy_ai F 44) (sy_i F 82).toNatClampNeg (((sy_al F 41).getD (((sy_i F 33) + ((1 : Int32))) - ((1 : Int32))).toNatClampNeg 0).toInt32)) := hd_up (hs 7 _ rfl) b82 t89 a44
  have hB' : iv_in F' iv_B0 := iv_in_eq hB (fun j hj => hF j (Nat.lt_of_lt_of_le hj (by decide +kernel)))
  refine ⟨List.forall_mem_cons.mpr ⟨hd_p3 b33 rfl (by have hc : ((0) : Int32).toInt = 0 := (by decide); omega), List.forall_mem_cons.mpr ⟨hd_p3 rfl b33 (by have hc : ((400) : Int32).toInt = 400 := (by decide); omega), List.forall_mem_cons.mpr ⟨hd_pb b33 (by first | exact h2 | exact h2), List.forall_mem_cons.mpr ⟨hd_p0 t85 rfl (by have hc : ((24) : Int32).toInt = 24 := (by decide); omega), List.forall_mem_cons.mpr ⟨hd_p2 b33 rfl (by have hc : ((400) : Int32).toInt = 400 := (by decide); omega), List.forall_mem_cons.mpr ⟨hd_p3 t87 rfl (by have hc : ((0) : Int32).toInt = 0 := (by decide); omega), List.forall_mem_cons.mpr ⟨hd_p3 rfl t87 (by have hc : ((400) : Int32).toInt = 400 := (by decide); omega), List.forall_mem_cons.mpr ⟨hd_pb t87 (by first | exact h7 | exact h7), List.forall_mem_cons.mpr ⟨hd_p2 t89 b83 h8, List.forall_mem_cons.mpr ⟨hd_p0 b36 rfl (by have hc : ((0) : Int32).toInt = 0 := (by decide); omega), List.forall_mem_cons.mpr ⟨hd_p3 t90 rfl (by have hc : ((0) : Int32).toInt = 0 := (by decide); omega), List.forall_mem_cons.mpr ⟨hd_p3 rfl t90 (by have hc : ((400) : Int32).toInt = 400 := (by decide); omega), List.forall_mem_cons.mpr ⟨hd_pb t90 (by first | exact h12 | exact h12), List.forall_mem_cons.mpr ⟨hd_p3 b82 rfl (by have hc : ((0) : Int32).toInt = 0 := (by decide); omega), List.forall_mem_cons.mpr ⟨hd_p3 rfl b82 (by have hc : ((2) : Int32).toInt = 2 := (by decide); omega), List.forall_mem_cons.mpr ⟨hd_pb b82 (by first | exact h15 | exact h15), fun _ h => absurd h List.not_mem_nil⟩⟩⟩⟩⟩⟩⟩⟩⟩⟩⟩⟩⟩⟩⟩⟩, ?_⟩
  refine k _ ?_ ?_ ?_ ?_ ?_
  · exact fun j hj hn => (hd_keep hB' (Nat.lt_of_lt_of_le hj (by decide +kernel)) (by simp; omega)).trans (hF j (Nat.lt_of_lt_of_le hj (by decide)))
  · exact hd_gi (x := .inr (.inl 86)) (by decide +kernel) t86
  · exact hd_gi (x := .inl (.int 5)) (by decide +kernel) rfl
  · exact hd_gi (x := .inr (.inl 91)) (by decide +kernel) t91
  · exact hd_ga (a := .inr (.inl 92)) (by decide +kernel) t92
theorem k0tn_0_p2 {Ls : Nat} {xs : Nat → Int32} {d : Nat} {Q : Option Value → jm_h → Prop} (hd : 4 ≤ d) (F : Nat → sy_d) (X1 X2 : List jm_c) (hB : iv_in F iv_B0)
    (h0 : 0 ≤ (sy_i F 33).toInt)
    (h1 : (sy_i F 33).toInt ≤ 400)
    (h2 : 0 ≤ (sy_i F 33).toInt ∧ (sy_i F 33).toInt < 401)
    (h3 : ((sy_ai F 39).getD (sy_i F 33).toNatClampNeg 0).toInt = 24)
    (h4 : (sy_i F 33).toInt < 400)
    (h5 : 0 ≤ (((sy_i F 33) + ((1 : Int32))) - ((1 : Int32))).toInt)
    (h6 : (((sy_i F 33) + ((1 : Int32))) - ((1 : Int32))).toInt ≤ 400)
    (h7 : 0 ≤ (((sy_i F 33) + ((1 : Int32))) - ((1 : Int32))).toInt ∧ (((sy_i F 33) + ((1 : Int32))) - ((1 : Int32))).toInt < 401)
    (h8 : (sy_i F 83).toInt ≤ (((sy_al F 41).getD (((sy_i F 33) + ((1 : Int32))) - ((1 : Int32))).toNatClampNeg 0).toInt32).toInt)
    (h9 : (sy_i F 84).toInt < (((sy_al F 41).getD (((sy_i F 33) + ((1 : Int32))) - ((1 : Int32))).toNatClampNeg 0).toInt32).toInt)
    (h10 : (sy_i F 36).toInt ≠ 0)
    (h11 : 0 ≤ (sy_i F 82).toInt)
    (h12 : (sy_i F 82).toInt ≤ 2)
    (h13 : 0 ≤ (sy_i F 82).toInt ∧ (sy_i F 82).toInt < 3)
    (k : ∀ F1 : Nat → sy_d, (∀ j, j < 82 → j ≠ 33 ∧ j ≠ 44 → F1 j = F j) → F1 33 = .inl (.int ((sy_i F 33) + ((1 : Int32)))) → F1 44 = .inr (.inl (jm_upd (sy_ai F 44) (sy_i F 82).toNatClampNeg (((sy_al F 41).getD (((sy_i F 33) + ((1 : Int32))) - ((1 : Int32))).toNatClampNeg 0).toInt32))) → Q (some (.int ((1 : Int32)))) (sy_dh F1 X1 X2 (iv_H 0))) :
    hd_W Ls xs d jm_M42 Q (0, sy_dL F [some (.inl (.ref 30)), some (.inr (.inl 82)), some (.inr (.inl 83)), some (.inr (.inl 84)), none], sy_dS F [], sy_dh F X1 X2 (iv_H 0), 0, 0) := by
  refine hd_ret (s := 0) (nv := 85) (v := some (.inl (.int 1))) (uh := hd_ov (iv_id 0 iv_B0) [(33, .inl (.inr (.inl 86))), (44, .inr (.inr (.inl 90)))]) (f := true) (sp := []) (d0 := 3) (O := [false, false, true, true, false, false, false, true, true, false, false]) (T := [(30, [.inr (.inl 33)], [.inr (.inl 39)]), (0, [.inr (.inl 33), .inl (.int 1)], []), (1, [.inr (.inl 86), .inl (.int 1)], []), (30, [.inr (.inl 87)], [.inr (.inr 41)]), (25, [.inr (.inr 88)], []), (40, [.inr (.inl 82), .inr (.inl 89)], [.inr (.inl 44)])]) (P := [(3, .inr (.inl 33), .inl (.int 0)), (3, .inl (.int 400), .inr (.inl 33)), (6, .inr (.inl 33), .inl (.ref 401)), (0, .inr (.inl 85), .inl (.int 24)), (2, .inr (.inl 33), .inl (.int 400)), (3, .inr (.inl 87), .inl (.int 0)), (3, .inl (.int 400), .inr (.inl 87)), (6, .inr (.inl 87), .inl (.ref 401)), (3, .inr (.inl 89), .inr (.inl 83)), (2, .inr (.inl 84), .inr (.inl 89)), (1, .inr (.inl 36), .inl (.int 0)), (3, .inr (.inl 82), .inl (.int 0)), (3, .inl (.int 2), .inr (.inl 82)), (6, .inr (.inl 82), .inl (.ref 3))]) jm_ok42 (by decide +kernel) (by decide +kernel) hd F X1 X2 (fun F' hF hs => ?_)
  have b33 := hd_b (F := F) (F' := F') (k := 33) (hF 33 (by decide))
  have a39 := hd_ba (F := F) (F' := F') (k := 39) (hF 39 (by decide))
  have t85 : sy_dv F' (.inr (.inl 85)) = .int ((sy_ai F 39).getD (sy_i F 33).toNatClampNeg 0) := hd_rd (hs 0 _ rfl) b33 a39
  have t86 : sy_dv F' (.inr (.inl 86)) = .int ((sy_i F 33) + ((1 : Int32))) := hd_o (hs 1 _ rfl) b33 rfl rfl
  have t87 : sy_dv F' (.inr (.inl 87)) = .int (((sy_i F 33) + ((1 : Int32))) - ((1 : Int32))) := hd_o (hs 2 _ rfl) t86 rfl rfl
  have a41 := hd_bA (F := F) (F' := F') (k := 41) (hF 41 (by decide))
  have t88 : sy_dv F' (.inr (.inr 88)) = .long ((sy_al F 41).getD (((sy_i F 33) + ((1 : Int32))) - ((1 : Int32))).toNatClampNeg 0) := hd_rL (hs 3 _ rfl) t87 a41
  have t89 : sy_dv F' (.inr (.inl 89)) = .int (((sy_al F 41).getD (((sy_i F 33) + ((1 : Int32))) - ((1 : Int32))).toNatClampNeg 0).toInt32) := hd_uI (hs 4 _ rfl) t88
  have b83 := hd_b (F := F) (F' := F') (k := 83) (hF 83 (by decide))
  have b84 := hd_b (F := F) (F' := F') (k := 84) (hF 84 (by decide))
  have b36 := hd_b (F := F) (F' := F') (k := 36) (hF 36 (by decide))
  have b82 := hd_b (F := F) (F' := F') (k := 82) (hF 82 (by decide))
  have a44 := hd_ba (F := F) (F' := F') (k := 44) (hF 44 (by decide))
  have t90 : sy_da F' (.inr (.inl 90)) = .inl (jm_upd (sy_ai F 44) (sy_i F 82).toNatClampNeg (((sy_al F 41).getD (((sy_i F 33) + ((1 : Int32))) - ((1 : Int32))).toNatClampNeg 0).toInt32)) := hd_up (hs 5 _ rfl) b82 t89 a44
  have hB' : iv_in F' iv_B0 := iv_in_eq hB (fun j hj => hF j (Nat.lt_of_lt_of_le hj (by decide +kernel)))
  refine ⟨List.forall_mem_cons.mpr ⟨hd_p3 b33 rfl (by have hc : ((0) : Int32).toInt = 0 := (by decide); omega), List.forall_mem_cons.mpr ⟨hd_p3 rfl b33 (by have hc : ((400) : Int32).toInt = 400 := (by decide); omega), List.forall_mem_cons.mpr ⟨hd_pb b33 (by first | exact h2 | exact h2), List.forall_mem_cons.mpr ⟨hd_p0 t85 rfl (by have hc : ((24) : Int32).toInt = 24 := (by decide); omega), List.forall_mem_cons.mpr ⟨hd_p2 b33 rfl (by have hc : ((400) : Int32).toInt = 400 := (by decide); omega), List.forall_mem_cons.mpr ⟨hd_p3 t87 rfl (by have hc : ((0) : Int32).toInt = 0 := (by decide); omega), List.forall_mem_cons.mpr ⟨hd_p3 rfl t87 (by have hc : ((400) : Int32).toInt = 400 := (by decide); omega), List.forall_mem_cons.mpr ⟨hd_pb t87 (by first | exact h7 | exact h7), List.forall_mem_cons.mpr ⟨hd_p3 t89 b83 h8, List.forall_mem_cons.mpr ⟨hd_p2 b84 t89 h9, List.forall_mem_cons.mpr ⟨hd_p1 b36 rfl (by have hc : ((0) : Int32).toInt = 0 := (by decide); omega), List.forall_mem_cons.mpr ⟨hd_p3 b82 rfl (by have hc : ((0) : Int32).toInt = 0 := (by decide); omega), List.forall_mem_cons.mpr ⟨hd_p3 rfl b82 (by have hc : ((2) : Int32).toInt = 2 := (by decide); omega), List.forall_mem_cons.mpr ⟨hd_pb b82 (by first | exact h13 | exact h13), fun _ h => absurd h List.not_mem_nil⟩⟩⟩⟩⟩⟩⟩⟩⟩⟩⟩⟩⟩⟩, ?_⟩
  refine k _ ?_ ?_ ?_
  · exact fun j hj hn => (hd_keep hB' (Nat.lt_of_lt_of_le hj (by decide +kernel)) (by simp; omega)).trans (hF j (Nat.lt_of_lt_of_le hj (by decide)))
  · exact hd_gi (x := .inr (.inl 86)) (by decide +kernel) t86
  · exact hd_ga (a := .inr (.inl 90)) (by decide +kernel) t90
theorem k0tn_0_p3 {Ls : Nat} {xs : Nat → Int32} {d : Nat} {Q : Option Value → jm_h → Prop} (hd : 4 ≤ d) (F : Nat → sy_d) (X1 X2 : List jm_c) (hB : iv_in F iv_B0)
    (h0 : 0 ≤ (sy_i F 33).toInt)
    (h1 : (sy_i F 33).toInt ≤ 400)
    (h2 : 0 ≤ (sy_i F 33).toInt ∧ (sy_i F 33).toInt < 401)
    (h3 : ((sy_ai F 39).getD (sy_i F 33).toNatClampNeg 0).toInt = 24)
    (h4 : (sy_i F 33).toInt < 400)
    (h5 : 0 ≤ (((sy_i F 33) + ((1 : Int32))) - ((1 : Int32))).toInt)
    (h6 : (((sy_i F 33) + ((1 : Int32))) - ((1 : Int32))).toInt ≤ 400)
    (h7 : 0 ≤ (((sy_i F 33) + ((1 : Int32))) - ((1 : Int32))).toInt ∧ (((sy_i F 33) + ((1 : Int32))) - ((1 : Int32))).toInt < 401)
    (h8 : (sy_i F 83).toInt ≤ (((sy_al F 41).getD (((sy_i F 33) + ((1 : Int32))) - ((1 : Int32))).toNatClampNeg 0).toInt32).toInt)
    (h9 : (sy_i F 84).toInt < (((sy_al F 41).getD (((sy_i F 33) + ((1 : Int32))) - ((1 : Int32))).toNatClampNeg 0).toInt32).toInt)
    (h10 : (sy_i F 36).toInt = 0)
    (h11 : 0 ≤ (((sy_i F 33) + ((1 : Int32))) - ((1 : Int32))).toInt)
    (h12 : (((sy_i F 33) + ((1 : Int32))) - ((1 : Int32))).toInt ≤ 400)
    (h13 : 0 ≤ (((sy_i F 33) + ((1 : Int32))) - ((1 : Int32))).toInt ∧ (((sy_i F 33) + ((1 : Int32))) - ((1 : Int32))).toInt < 401)
    (h14 : 0 ≤ (sy_i F 82).toInt)
    (h15 : (sy_i F 82).toInt ≤ 2)
    (h16 : 0 ≤ (sy_i F 82).toInt ∧ (sy_i F 82).toInt < 3)
    (k : ∀ F1 : Nat → sy_d, (∀ j, j < 82 → j ≠ 33 ∧ j ≠ 36 ∧ j ≠ 37 ∧ j ≠ 44 → F1 j = F j) → F1 33 = .inl (.int ((sy_i F 33) + ((1 : Int32)))) → F1 36 = .inl (.int ((5 : Int32))) → F1 37 = .inl (.int ((sy_ai F 40).getD (((sy_i F 33) + ((1 : Int32))) - ((1 : Int32))).toNatClampNeg 0)) → F1 44 = .inr (.inl (jm_upd (sy_ai F 44) (sy_i F 82).toNatClampNeg (((sy_al F 41).getD (((sy_i F 33) + ((1 : Int32))) - ((1 : Int32))).toNatClampNeg 0).toInt32))) → Q (some (.int ((1 : Int32)))) (sy_dh F1 X1 X2 (iv_H 0))) :
    hd_W Ls xs d jm_M42 Q (0, sy_dL F [some (.inl (.ref 30)), some (.inr (.inl 82)), some (.inr (.inl 83)), some (.inr (.inl 84)), none], sy_dS F [], sy_dh F X1 X2 (iv_H 0), 0, 0) := by
  refine hd_ret (s := 0) (nv := 85) (v := some (.inl (.int 1))) (uh := hd_ov (iv_id 0 iv_B0) [(33, .inl (.inr (.inl 86))), (36, .inl (.inl (.int 5))), (37, .inl (.inr (.inl 91))), (44, .inr (.inr (.inl 92)))]) (f := true) (sp := []) (d0 := 3) (O := [false, false, true, true, false, false, false, true, false, false, false, false, false]) (T := [(30, [.inr (.inl 33)], [.inr (.inl 39)]), (0, [.inr (.inl 33), .inl (.int 1)], []), (1, [.inr (.inl 86), .inl (.int 1)], []), (30, [.inr (.inl 87)], [.inr (.inr 41)]), (25, [.inr (.inr 88)], []), (1, [.inr (.inl 86), .inl (.int 1)], []), (30, [.inr (.inl 90)], [.inr (.inl 40)]), (40, [.inr (.inl 82), .inr (.inl 89)], [.inr (.inl 44)])]) (P := [(3, .inr (.inl 33), .inl (.int 0)), (3, .inl (.int 400), .inr (.inl 33)), (6, .inr (.inl 33), .inl (.ref 401)), (0, .inr (.inl 85), .inl (.int 24)), (2, .inr (.inl 33), .inl (.int 400)), (3, .inr (.inl 87), .inl (.int 0)), (3, .inl (.int 400), .inr (.inl 87)), (6, .inr (.inl 87), .inl (.ref 401)), (3, .inr (.inl 89), .inr (.inl 83)), (2, .inr (.inl 84), .inr (.inl 89)), (0, .inr (.inl 36), .inl (.int 0)), (3, .inr (.inl 90), .inl (.int 0)), (3, .inl (.int 400), .inr (.inl 90)), (6, .inr (.inl 90), .inl (.ref 401)), (3, .inr (.inl 82), .inl (.int 0)), (3, .inl (.int 2), .inr (.inl 82)), (6, .inr (.inl 82), .inl (.ref 3))]) jm_ok42 (by decide +kernel) (by decide +kernel) hd F X1 X2 (fun F' hF hs => ?_)
  have b33 := hd_b (F := F) (F' := F') (k := 33) (hF 33 (by decide))
  have a39 := hd_ba (F := F) (F' := F') (k := 39) (hF 39 (by decide))
  have t85 : sy_dv F' (.inr (.inl 85)) = .int ((sy_ai F 39).getD (sy_i F 33).toNatClampNeg 0) := hd_rd (hs 0 _ rfl) b33 a39
  have t86 : sy_dv F' (.inr (.inl 86)) = .int ((sy_i F 33) + ((1 : Int32))) := hd_o (hs 1 _ rfl) b33 rfl rfl
  have t87 : sy_dv F' (.inr (.inl 87)) = .int (((sy_i F 33) + ((1 : Int32))) - ((1 : Int32))) := hd_o (hs 2 _ rfl) t86 rfl rfl
  have a41 := hd_bA (F := F) (F' := F') (k := 41) (hF 41 (by decide))
  have t88 : sy_dv F' (.inr (.inr 88)) = .long ((sy_al F 41).getD (((sy_i F 33) + ((1 : Int32))) - ((1 : Int32))).toNatClampNeg 0) := hd_rL (hs 3 _ rfl) t87 a41
  have t89 : sy_dv F' (.inr (.inl 89)) = .int (((sy_al F 41).getD (((sy_i F 33) + ((1 : Int32))) - ((1 : Int32))).toNatClampNeg 0).toInt32) := hd_uI (hs 4 _ rfl) t88
  have b83 := hd_b (F := F) (F' := F') (k := 83) (hF 83 (by decide))
  have b84 := hd_b (F := F) (F' := F') (k := 84) (hF 84 (by decide))
  have b36 := hd_b (F := F) (F' := F') (k := 36) (hF 36 (by decide))
  have t90 : sy_dv F' (.inr (.inl 90)) = .int (((sy_i F 33) + ((1 : Int32))) - ((1 : Int32))) := hd_o (hs 5 _ rfl) t86 rfl rfl
  have b82 := hd_b (F := F) (F' := F') (k := 82) (hF 82 (by decide))
  have a40 := hd_ba (F := F) (F' := F') (k := 40) (hF 40 (by decide))
  have t91 : sy_dv F' (.inr (.inl 91)) = .int ((sy_ai F 40).getD (((sy_i F 33) + ((1 : Int32))) - ((1 : Int32))).toNatClampNeg 0) := hd_rd (hs 6 _ rfl) t90 a40
  have a44 := hd_ba (F := F) (F' := F') (k := 44) (hF 44 (by decide))
  have t92 : sy_da F' (.inr (.inl 92)) = .inl (jm_upd (sy_ai F 44) (sy_i F 82).toNatClampNeg (((sy_al F 41).getD (((sy_i F 33) + ((1 : Int32))) - ((1 : Int32))).toNatClampNeg 0).toInt32)) := hd_up (hs 7 _ rfl) b82 t89 a44
  have hB' : iv_in F' iv_B0 := iv_in_eq hB (fun j hj => hF j (Nat.lt_of_lt_of_le hj (by decide +kernel)))
  refine ⟨List.forall_mem_cons.mpr ⟨hd_p3 b33 rfl (by have hc : ((0) : Int32).toInt = 0 := (by decide); omega), List.forall_mem_cons.mpr ⟨hd_p3 rfl b33 (by have hc : ((400) : Int32).toInt = 400 := (by decide); omega), List.forall_mem_cons.mpr ⟨hd_pb b33 (by first | exact h2 | exact h2), List.forall_mem_cons.mpr ⟨hd_p0 t85 rfl (by have hc : ((24) : Int32).toInt = 24 := (by decide); omega), List.forall_mem_cons.mpr ⟨hd_p2 b33 rfl (by have hc : ((400) : Int32).toInt = 400 := (by decide); omega), List.forall_mem_cons.mpr ⟨hd_p3 t87 rfl (by have hc : ((0) : Int32).toInt = 0 := (by decide); omega), List.forall_mem_cons.mpr ⟨hd_p3 rfl t87 (by have hc : ((400) : Int32).toInt = 400 := (by decide); omega), List.forall_mem_cons.mpr ⟨hd_pb t87 (by first | exact h7 | exact h7), List.forall_mem_cons.mpr ⟨hd_p3 t89 b83 h8, List.forall_mem_cons.mpr ⟨hd_p2 b84 t89 h9, List.forall_mem_cons.mpr ⟨hd_p0 b36 rfl (by have hc : ((0) : Int32).toInt = 0 := (by decide); omega), List.forall_mem_cons.mpr ⟨hd_p3 t90 rfl (by have hc : ((0) : Int32).toInt = 0 := (by decide); omega), List.forall_mem_cons.mpr ⟨hd_p3 rfl t90 (by have hc : ((400) : Int32).toInt = 400 := (by decide); omega), List.forall_mem_cons.mpr ⟨hd_pb t90 (by first | exact h13 | exact h13), List.forall_mem_cons.mpr ⟨hd_p3 b82 rfl (by have hc : ((0) : Int32).toInt = 0 := (by decide); omega), List.forall_mem_cons.mpr ⟨hd_p3 rfl b82 (by have hc : ((2) : Int32).toInt = 2 := (by decide); omega), List.forall_mem_cons.mpr ⟨hd_pb b82 (by first | exact h16 | exact h16), fun _ h => absurd h List.not_mem_nil⟩⟩⟩⟩⟩⟩⟩⟩⟩⟩⟩⟩⟩⟩⟩⟩⟩, ?_⟩
  refine k _ ?_ ?_ ?_ ?_ ?_
  · exact fun j hj hn => (hd_keep hB' (Nat.lt_of_lt_of_le hj (by decide +kernel)) (by simp; omega)).trans (hF j (Nat.lt_of_lt_of_le hj (by decide)))
  · exact hd_gi (x := .inr (.inl 86)) (by decide +kernel) t86
  · exact hd_gi (x := .inl (.int 5)) (by decide +kernel) rfl
  · exact hd_gi (x := .inr (.inl 91)) (by decide +kernel) t91
  · exact hd_ga (a := .inr (.inl 92)) (by decide +kernel) t92
theorem k0tn_0_p4 {Ls : Nat} {xs : Nat → Int32} {d : Nat} {Q : Option Value → jm_h → Prop} (hd : 4 ≤ d) (F : Nat → sy_d) (X1 X2 : List jm_c) (hB : iv_in F iv_B0)
    (h0 : 0 ≤ (sy_i F 33).toInt)
    (h1 : (sy_i F 33).toInt ≤ 400)
    (h2 : 0 ≤ (sy_i F 33).toInt ∧ (sy_i F 33).toInt < 401)
    (h3 : ((sy_ai F 39).getD (sy_i F 33).toNatClampNeg 0).toInt = 24)
    (h4 : (sy_i F 33).toInt < 400)
    (h5 : 0 ≤ (((sy_i F 33) + ((1 : Int32))) - ((1 : Int32))).toInt)
    (h6 : (((sy_i F 33) + ((1 : Int32))) - ((1 : Int32))).toInt ≤ 400)
    (h7 : 0 ≤ (((sy_i F 33) + ((1 : Int32))) - ((1 : Int32))).toInt ∧ (((sy_i F 33) + ((1 : Int32))) - ((1 : Int32))).toInt < 401)
    (h8 : (sy_i F 83).toInt ≤ (((sy_al F 41).getD (((sy_i F 33) + ((1 : Int32))) - ((1 : Int32))).toNatClampNeg 0).toInt32).toInt)
    (h9 : (((sy_al F 41).getD (((sy_i F 33) + ((1 : Int32))) - ((1 : Int32))).toNatClampNeg 0).toInt32).toInt ≤ (sy_i F 84).toInt)
    (h10 : 0 ≤ (sy_i F 82).toInt)
    (h11 : (sy_i F 82).toInt ≤ 2)
    (h12 : 0 ≤ (sy_i F 82).toInt ∧ (sy_i F 82).toInt < 3)
    (k : ∀ F1 : Nat → sy_d, (∀ j, j < 82 → j ≠ 33 ∧ j ≠ 44 → F1 j = F j) → F1 33 = .inl (.int ((sy_i F 33) + ((1 : Int32)))) → F1 44 = .inr (.inl (jm_upd (sy_ai F 44) (sy_i F 82).toNatClampNeg (((sy_al F 41).getD (((sy_i F 33) + ((1 : Int32))) - ((1 : Int32))).toNatClampNeg 0).toInt32))) → Q (some (.int ((1 : Int32)))) (sy_dh F1 X1 X2 (iv_H 0))) :
    hd_W Ls xs d jm_M42 Q (0, sy_dL F [some (.inl (.ref 30)), some (.inr (.inl 82)), some (.inr (.inl 83)), some (.inr (.inl 84)), none], sy_dS F [], sy_dh F X1 X2 (iv_H 0), 0, 0) := by
  refine hd_ret (s := 0) (nv := 85) (v := some (.inl (.int 1))) (uh := hd_ov (iv_id 0 iv_B0) [(33, .inl (.inr (.inl 86))), (44, .inr (.inr (.inl 90)))]) (f := true) (sp := []) (d0 := 3) (O := [false, false, true, true, false, false, false, false, false, false]) (T := [(30, [.inr (.inl 33)], [.inr (.inl 39)]), (0, [.inr (.inl 33), .inl (.int 1)], []), (1, [.inr (.inl 86), .inl (.int 1)], []), (30, [.inr (.inl 87)], [.inr (.inr 41)]), (25, [.inr (.inr 88)], []), (40, [.inr (.inl 82), .inr (.inl 89)], [.inr (.inl 44)])]) (P := [(3, .inr (.inl 33), .inl (.int 0)), (3, .inl (.int 400), .inr (.inl 33)), (6, .inr (.inl 33), .inl (.ref 401)), (0, .inr (.inl 85), .inl (.int 24)), (2, .inr (.inl 33), .inl (.int 400)), (3, .inr (.inl 87), .inl (.int 0)), (3, .inl (.int 400), .inr (.inl 87)), (6, .inr (.inl 87), .inl (.ref 401)), (3, .inr (.inl 89), .inr (.inl 83)), (3, .inr (.inl 84), .inr (.inl 89)), (3, .inr (.inl 82), .inl (.int 0)), (3, .inl (.int 2), .inr (.inl 82)), (6, .inr (.inl 82), .inl (.ref 3))]) jm_ok42 (by decide +kernel) (by decide +kernel) hd F X1 X2 (fun F' hF hs => ?_)
  have b33 := hd_b (F := F) (F' := F') (k := 33) (hF 33 (by decide))
  have a39 := hd_ba (F := F) (F' := F') (k := 39) (hF 39 (by decide))
  have t85 : sy_dv F' (.inr (.inl 85)) = .int ((sy_ai F 39).getD (sy_i F 33).toNatClampNeg 0) := hd_rd (hs 0 _ rfl) b33 a39
  have t86 : sy_dv F' (.inr (.inl 86)) = .int ((sy_i F 33) + ((1 : Int32))) := hd_o (hs 1 _ rfl) b33 rfl rfl
  have t87 : sy_dv F' (.inr (.inl 87)) = .int (((sy_i F 33) + ((1 : Int32))) - ((1 : Int32))) := hd_o (hs 2 _ rfl) t86 rfl rfl
  have a41 := hd_bA (F := F) (F' := F') (k := 41) (hF 41 (by decide))
  have t88 : sy_dv F' (.inr (.inr 88)) = .long ((sy_al F 41).getD (((sy_i F 33) + ((1 : Int32))) - ((1 : Int32))).toNatClampNeg 0) := hd_rL (hs 3 _ rfl) t87 a41
  have t89 : sy_dv F' (.inr (.inl 89)) = .int (((sy_al F 41).getD (((sy_i F 33) + ((1 : Int32))) - ((1 : Int32))).toNatClampNeg 0).toInt32) := hd_uI (hs 4 _ rfl) t88
  have b83 := hd_b (F := F) (F' := F') (k := 83) (hF 83 (by decide))
  have b84 := hd_b (F := F) (F' := F') (k := 84) (hF 84 (by decide))
  have b82 := hd_b (F := F) (F' := F') (k := 82) (hF 82 (by decide))
  have a44 := hd_ba (F := F) (F' := F') (k := 44) (hF 44 (by decide))
  have t90 : sy_da F' (.inr (.inl 90)) = .inl (jm_upd (sy_ai F 44) (sy_i F 82).toNatClampNeg (((sy_al F 41).getD (((sy_i F 33) + ((1 : Int32))) - ((1 : Int32))).toNatClampNeg 0).toInt32)) := hd_up (hs 5 _ rfl) b82 t89 a44
  have hB' : iv_in F' iv_B0 := iv_in_eq hB (fun j hj => hF j (Nat.lt_of_lt_of_le hj (by decide +kernel)))
  refine ⟨List.forall_mem_cons.mpr ⟨hd_p3 b33 rfl (by have hc : ((0) : Int32).toInt = 0 := (by decide); omega), List.forall_mem_cons.mpr ⟨hd_p3 rfl b33 (by have hc : ((400) : Int32).toInt = 400 := (by decide); omega), List.forall_mem_cons.mpr ⟨hd_pb b33 (by first | exact h2 | exact h2), List.forall_mem_cons.mpr ⟨hd_p0 t85 rfl (by have hc : ((24) : Int32).toInt = 24 := (by decide); omega), List.forall_mem_cons.mpr ⟨hd_p2 b33 rfl (by have hc : ((400) : Int32).toInt = 400 := (by decide); omega), List.forall_mem_cons.mpr ⟨hd_p3 t87 rfl (by have hc : ((0) : Int32).toInt = 0 := (by decide); omega), List.forall_mem_cons.mpr ⟨hd_p3 rfl t87 (by have hc : ((400) : Int32).toInt = 400 := (by decide); omega), List.forall_mem_cons.mpr ⟨hd_pb t87 (by first | exact h7 | exact h7), List.forall_mem_cons.mpr ⟨hd_p3 t89 b83 h8, List.forall_mem_cons.mpr ⟨hd_p3 b84 t89 h9, List.forall_mem_cons.mpr ⟨hd_p3 b82 rfl (by have hc : ((0) : Int32).toInt = 0 := (by decide); omega), List.forall_mem_cons.mpr ⟨hd_p3 rfl b82 (by have hc : ((2) : Int32).toInt = 2 := (by decide); omega), List.forall_mem_cons.mpr ⟨hd_pb b82 (by first | exact h12 | exact h12), fun _ h => absurd h List.not_mem_nil⟩⟩⟩⟩⟩⟩⟩⟩⟩⟩⟩⟩⟩, ?_⟩
  refine k _ ?_ ?_ ?_
  · exact fun j hj hn => (hd_keep hB' (Nat.lt_of_lt_of_le hj (by decide +kernel)) (by simp; omega)).trans (hF j (Nat.lt_of_lt_of_le hj (by decide)))
  · exact hd_gi (x := .inr (.inl 86)) (by decide +kernel) t86
  · exact hd_ga (a := .inr (.inl 90)) (by decide +kernel) t90
theorem k0tn_0_p5 {Ls : Nat} {xs : Nat → Int32} {d : Nat} {Q : Option Value → jm_h → Prop} (hd : 4 ≤ d) (F : Nat → sy_d) (X1 X2 : List jm_c) (hB : iv_in F iv_B0)
    (h0 : 0 ≤ (sy_i F 33).toInt)
    (h1 : (sy_i F 33).toInt ≤ 400)
    (h2 : 0 ≤ (sy_i F 33).toInt ∧ (sy_i F 33).toInt < 401)
    (h3 : ((sy_ai F 39).getD (sy_i F 33).toNatClampNeg 0).toInt = 24)
    (h4 : 400 ≤ (sy_i F 33).toInt)
    (k : ∀ F1 : Nat → sy_d, (∀ j, j < 82 → j ≠ 34 → F1 j = F j) → F1 34 = .inl (.int ((2 : Int32))) → Q (some (.int ((0 : Int32)))) (sy_dh F1 X1 X2 (iv_H 0))) :
    hd_W Ls xs d jm_M42 Q (0, sy_dL F [some (.inl (.ref 30)), some (.inr (.inl 82)), some (.inr (.inl 83)), some (.inr (.inl 84)), none], sy_dS F [], sy_dh F X1 X2 (iv_H 0), 0, 0) := by
  refine hd_ret (s := 0) (nv := 85) (v := some (.inl (.int 0))) (uh := hd_ov (iv_id 0 iv_B0) [(34, .inl (.inl (.int 2)))]) (f := true) (sp := []) (d0 := 3) (O := [false, false, true, false]) (T := [(30, [.inr (.inl 33)], [.inr (.inl 39)])]) (P := [(3, .inr (.inl 33), .inl (.int 0)), (3, .inl (.int 400), .inr (.inl 33)), (6, .inr (.inl 33), .inl (.ref 401)), (0, .inr (.inl 85), .inl (.int 24)), (3, .inr (.inl 33), .inl (.int 400))]) jm_ok42 (by decide +kernel) (by decide +kernel) hd F X1 X2 (fun F' hF hs => ?_)
  have b33 := hd_b (F := F) (F' := F') (k := 33) (hF 33 (by decide))
  have a39 := hd_ba (F := F) (F' := F') (k := 39) (hF 39 (by decide))
  have t85 : sy_dv F' (.inr (.inl 85)) = .int ((sy_ai F 39).getD (sy_i F 33).toNatClampNeg 0) := hd_rd (hs 0 _ rfl) b33 a39
  have hB' : iv_in F' iv_B0 := iv_in_eq hB (fun j hj => hF j (Nat.lt_of_lt_of_le hj (by decide +kernel)))
  refine ⟨List.forall_mem_cons.mpr ⟨hd_p3 b33 rfl (by have hc : ((0) : Int32).toInt = 0 := (by decide); omega), List.forall_mem_cons.mpr ⟨hd_p3 rfl b33 (by have hc : ((400) : Int32).toInt = 400 := (by decide); omega), List.forall_mem_cons.mpr ⟨hd_pb b33 (by first | exact h2 | exact h2), List.forall_mem_cons.mpr ⟨hd_p0 t85 rfl (by have hc : ((24) : Int32).toInt = 24 := (by decide); omega), List.forall_mem_cons.mpr ⟨hd_p3 b33 rfl (by have hc : ((400) : Int32).toInt = 400 := (by decide); omega), fun _ h => absurd h List.not_mem_nil⟩⟩⟩⟩⟩, ?_⟩
  refine k _ ?_ ?_
  · exact fun j hj hn => (hd_keep hB' (Nat.lt_of_lt_of_le hj (by decide +kernel)) (by simp; omega)).trans (hF j (Nat.lt_of_lt_of_le hj (by decide)))
  · exact hd_gi (x := .inl (.int 2)) (by decide +kernel) rfl
theorem k0tn_0_p6 {Ls : Nat} {xs : Nat → Int32} {d : Nat} {Q : Option Value → jm_h → Prop} (hd : 4 ≤ d) (F : Nat → sy_d) (X1 X2 : List jm_c) (hB : iv_in F iv_B0)
    (h0 : 0 ≤ (sy_i F 33).toInt)
    (h1 : (sy_i F 33).toInt ≤ 400)
    (h2 : 0 ≤ (sy_i F 33).toInt ∧ (sy_i F 33).toInt < 401)
    (h3 : ((sy_ai F 39).getD (sy_i F 33).toNatClampNeg 0).toInt ≠ 24)
    (k : ∀ F1 : Nat → sy_d, (∀ j, j < 82 → j ≠ 34 → F1 j = F j) → F1 34 = .inl (.int ((1 : Int32))) → Q (some (.int ((0 : Int32)))) (sy_dh F1 X1 X2 (iv_H 0))) :
    hd_W Ls xs d jm_M42 Q (0, sy_dL F [some (.inl (.ref 30)), some (.inr (.inl 82)), some (.inr (.inl 83)), some (.inr (.inl 84)), none], sy_dS F [], sy_dh F X1 X2 (iv_H 0), 0, 0) := by
  refine hd_ret (s := 0) (nv := 85) (v := some (.inl (.int 0))) (uh := hd_ov (iv_id 0 iv_B0) [(34, .inl (.inl (.int 1)))]) (f := true) (sp := []) (d0 := 3) (O := [false, false, false]) (T := [(30, [.inr (.inl 33)], [.inr (.inl 39)])]) (P := [(3, .inr (.inl 33), .inl (.int 0)), (3, .inl (.int 400), .inr (.inl 33)), (6, .inr (.inl 33), .inl (.ref 401)), (1, .inr (.inl 85), .inl (.int 24))]) jm_ok42 (by decide +kernel) (by decide +kernel) hd F X1 X2 (fun F' hF hs => ?_)
  have b33 := hd_b (F := F) (F' := F') (k := 33) (hF 33 (by decide))
  have a39 := hd_ba (F := F) (F' := F') (k := 39) (hF 39 (by decide))
  have t85 : sy_dv F' (.inr (.inl 85)) = .int ((sy_ai F 39).getD (sy_i F 33).toNatClampNeg 0) := hd_rd (hs 0 _ rfl) b33 a39
  have hB' : iv_in F' iv_B0 := iv_in_eq hB (fun j hj => hF j (Nat.lt_of_lt_of_le hj (by decide +kernel)))
  refine ⟨List.forall_mem_cons.mpr ⟨hd_p3 b33 rfl (by have hc : ((0) : Int32).toInt = 0 := (by decide); omega), List.forall_mem_cons.mpr ⟨hd_p3 rfl b33 (by have hc : ((400) : Int32).toInt = 400 := (by decide); omega), List.forall_mem_cons.mpr ⟨hd_pb b33 (by first | exact h2 | exact h2), List.forall_mem_cons.mpr ⟨hd_p1 t85 rfl (by have hc : ((24) : Int32).toInt = 24 := (by decide); omega), fun _ h => absurd h List.not_mem_nil⟩⟩⟩⟩, ?_⟩
  refine k _ ?_ ?_
  · exact fun j hj hn => (hd_keep hB' (Nat.lt_of_lt_of_le hj (by decide +kernel)) (by simp; omega)).trans (hF j (Nat.lt_of_lt_of_le hj (by decide)))
  · exact hd_gi (x := .inl (.int 1)) (by decide +kernel) rfl
theorem k0tm_0_p0 {Ls : Nat} {xs : Nat → Int32} {d : Nat} {Q : Option Value → jm_h → Prop} (hd : 4 ≤ d) (F : Nat → sy_d) (X1 X2 : List jm_c) (hB : iv_in F iv_B0)
    (h0 : 0 ≤ (sy_i F 33).toInt)
    (h1 : (sy_i F 33).toInt ≤ 400)
    (h2 : 0 ≤ (sy_i F 33).toInt ∧ (sy_i F 33).toInt < 401)
    (h3 : ((sy_ai F 39).getD (sy_i F 33).toNatClampNeg 0).toInt = 23)
    (h4 : (sy_i F 33).toInt < 400)
    (h5 : 0 ≤ (((sy_i F 33) + ((1 : Int32))) - ((1 : Int32))).toInt)
    (h6 : (((sy_i F 33) + ((1 : Int32))) - ((1 : Int32))).toInt ≤ 400)
    (h7 : 0 ≤ (((sy_i F 33) + ((1 : Int32))) - ((1 : Int32))).toInt ∧ (((sy_i F 33) + ((1 : Int32))) - ((1 : Int32))).toInt < 401)
    (k : ∀ F1 : Nat → sy_d, (∀ j, j < 82 → j ≠ 33 → F1 j = F j) → F1 33 = .inl (.int ((sy_i F 33) + ((1 : Int32)))) → F1 82 = .inl (.long ((sy_al F 41).getD (((sy_i F 33) + ((1 : Int32))) - ((1 : Int32))).toNatClampNeg 0)) → F1 83 = .inl (.int ((0 : Int32))) → hd_W Ls xs d jm_M41 Q (27, sy_dL F1 [some (.inl (.ref 30)), some (.inr (.inr 82)), none, some (.inr (.inl 83))], sy_dS F1 [], sy_dh F1 X1 X2 (iv_H 0), 0, 0)) :
    hd_W Ls xs d jm_M41 Q (0, sy_dL F [some (.inl (.ref 30)), none, none, none], sy_dS F [], sy_dh F X1 X2 (iv_H 0), 0, 0) := by
  refine hd_run (s := 0) (nv := 82) (pc := 27) (L := [some (.inl (.ref 30)), some (.inr (.inr 82)), none, some (.inr (.inl 83))]) (S := []) (uh := hd_ov (iv_id 0 iv_B0) [(33, .inl (.inr (.inl 83)))]) (ul := [.inl (.inr (.inr 85)), .inl (.inl (.int 0))]) (f := true) (sp := [27]) (d0 := 3) (O := [false, false, true, true, false, false]) (T := [(30, [.inr (.inl 33)], [.inr (.inl 39)]), (0, [.inr (.inl 33), .inl (.int 1)], []), (1, [.inr (.inl 83), .inl (.int 1)], []), (30, [.inr (.inl 84)], [.inr (.inr 41)])]) (P := [(3, .inr (.inl 33), .inl (.int 0)), (3, .inl (.int 400), .inr (.inl 33)), (6, .inr (.inl 33), .inl (.ref 401)), (0, .inr (.inl 82), .inl (.int 23)), (2, .inr (.inl 33), .inl (.int 400)), (3, .inr (.inl 84), .inl (.int 0)), (3, .inl (.int 400), .inr (.inl 84)), (6, .inr (.inl 84), .inl (.ref 401))]) jm_ok41 (by decide +kernel) (by decide +kernel) hd F X1 X2 (fun F' hF hs => ?_)
  have b33 := hd_b (F := F) (F' := F') (k := 33) (hF 33 (by decide))
  have a39 := hd_ba (F := F) (F' := F') (k := 39) (hF 39 (by decide))
  have t82 : sy_dv F' (.inr (.inl 82)) = .int ((sy_ai F 39).getD (sy_i F 33).toNatClampNeg 0) := hd_rd (hs 0 _ rfl) b33 a39
  have t83 : sy_dv F' (.inr (.inl 83)) = .int ((sy_i F 33) + ((1 : Int32))) := hd_o (hs 1 _ rfl) b33 rfl rfl
  have t84 : sy_dv F' (.inr (.inl 84)) = .int (((sy_i F 33) + ((1 : Int32))) - ((1 : Int32))) := hd_o (hs 2 _ rfl) t83 rfl rfl
  have a41 := hd_bA (F := F) (F' := F') (k := 41) (hF 41 (by decide))
  have t85 : sy_dv F' (.inr (.inr 85)) = .long ((sy_al F 41).getD (((sy_i F 33) + ((1 : Int32))) - ((1 : Int32))).toNatClampNeg 0) := hd_rL (hs 3 _ rfl) t84 a41
  have hB' : iv_in F' iv_B0 := iv_in_eq hB (fun j hj => hF j (Nat.lt_of_lt_of_le hj (by decide +kernel)))
  refine ⟨List.forall_mem_cons.mpr ⟨hd_p3 b33 rfl (by have hc : ((0) : Int32).toInt = 0 := (by decide); omega), List.forall_mem_cons.mpr ⟨hd_p3 rfl b33 (by have hc : ((400) : Int32).toInt = 400 := (by decide); omega), List.forall_mem_cons.mpr ⟨hd_pb b33 (by first | exact h2 | exact h2), List.forall_mem_cons.mpr ⟨hd_p0 t82 rfl (by have hc : ((23) : Int32).toInt = 23 := (by decide); omega), List.forall_mem_cons.mpr ⟨hd_p2 b33 rfl (by have hc : ((400) : Int32).toInt = 400 := (by decide); omega), List.forall_mem_cons.mpr ⟨hd_p3 t84 rfl (by have hc : ((0) : Int32).toInt = 0 := (by decide); omega), List.forall_mem_cons.mpr ⟨hd_p3 rfl t84 (by have hc : ((400) : Int32).toInt = 400 := (by decide); omega), List.forall_mem_cons.mpr ⟨hd_pb t84 (by first | exact h7 | exact h7), fun _ h => absurd h List.not_mem_nil⟩⟩⟩⟩⟩⟩⟩⟩, ?_⟩
  refine k _ ?_ ?_ ?_ ?_
  · exact fun j hj hn => (hd_keep hB' (Nat.lt_of_lt_of_le hj (by decide +kernel)) (by simp; omega)).trans (hF j (Nat.lt_of_lt_of_le hj (by decide)))
  · exact hd_gi (x := .inr (.inl 83)) (by decide +kernel) t83
  · exact hd_gl (x := .inr (.inr 85)) (by decide +kernel) t85
  · exact hd_gi (x := .inl (.int 0)) (by decide +kernel) rfl
theorem k0tm_0_p1 {Ls : Nat} {xs : Nat → Int32} {d : Nat} {Q : Option Value → jm_h → Prop} (hd : 4 ≤ d) (F : Nat → sy_d) (X1 X2 : List jm_c) (hB : iv_in F iv_B0)
    (h0 : 0 ≤ (sy_i F 33).toInt)
    (h1 : (sy_i F 33).toInt ≤ 400)
    (h2 : 0 ≤ (sy_i F 33).toInt ∧ (sy_i F 33).toInt < 401)
    (h3 : ((sy_ai F 39).getD (sy_i F 33).toNatClampNeg 0).toInt = 23)
    (h4 : 400 ≤ (sy_i F 33).toInt)
    (k : ∀ F1 : Nat → sy_d, (∀ j, j < 82 → j ≠ 34 → F1 j = F j) → F1 34 = .inl (.int ((2 : Int32))) → Q (some (.int ((0 : Int32)))) (sy_dh F1 X1 X2 (iv_H 0))) :
    hd_W Ls xs d jm_M41 Q (0, sy_dL F [some (.inl (.ref 30)), none, none, none], sy_dS F [], sy_dh F X1 X2 (iv_H 0), 0, 0) := by
  refine hd_ret (s := 0) (nv := 82) (v := some (.inl (.int 0))) (uh := hd_ov (iv_id 0 iv_B0) [(34, .inl (.inl (.int 2)))]) (f := true) (sp := [27]) (d0 := 3) (O := [false, false, true, false]) (T := [(30, [.inr (.inl 33)], [.inr (.inl 39)])]) (P := [(3, .inr (.inl 33), .inl (.int 0)), (3, .inl (.int 400), .inr (.inl 33)), (6, .inr (.inl 33), .inl (.ref 401)), (0, .inr (.inl 82), .inl (.int 23)), (3, .inr (.inl 33), .inl (.int 400))]) jm_ok41 (by decide +kernel) (by decide +kernel) hd F X1 X2 (fun F' hF hs => ?_)
  have b33 := hd_b (F := F) (F' := F') (k := 33) (hF 33 (by decide))
  have a39 := hd_ba (F := F) (F' := F') (k := 39) (hF 39 (by decide))
  have t82 : sy_dv F' (.inr (.inl 82)) = .int ((sy_ai F 39).getD (sy_i F 33).toNatClampNeg 0) := hd_rd (hs 0 _ rfl) b33 a39
  have hB' : iv_in F' iv_B0 := iv_in_eq hB (fun j hj => hF j (Nat.lt_of_lt_of_le hj (by decide +kernel)))
  refine ⟨List.forall_mem_cons.mpr ⟨hd_p3 b33 rfl (by have hc : ((0) : Int32).toInt = 0 := (by decide); omega), List.forall_mem_cons.mpr ⟨hd_p3 rfl b33 (by have hc : ((400) : Int32).toInt = 400 := (by decide); omega), List.forall_mem_cons.mpr ⟨hd_pb b33 (by first | exact h2 | exact h2), List.forall_mem_cons.mpr ⟨hd_p0 t82 rfl (by have hc : ((23) : Int32).toInt = 23 := (by decide); omega), List.forall_mem_cons.mpr ⟨hd_p3 b33 rfl (by have hc : ((400) : Int32).toInt = 400 := (by decide); omega), fun _ h => absurd h List.not_mem_nil⟩⟩⟩⟩⟩, ?_⟩
  refine k _ ?_ ?_
  · exact fun j hj hn => (hd_keep hB' (Nat.lt_of_lt_of_le hj (by decide +kernel)) (by simp; omega)).trans (hF j (Nat.lt_of_lt_of_le hj (by decide)))
  · exact hd_gi (x := .inl (.int 2)) (by decide +kernel) rfl
theorem k0tm_0_p2 {Ls : Nat} {xs : Nat → Int32} {d : Nat} {Q : Option Value → jm_h → Prop} (hd : 4 ≤ d) (F : Nat → sy_d) (X1 X2 : List jm_c) (hB : iv_in F iv_B0)
    (h0 : 0 ≤ (sy_i F 33).toInt)
    (h1 : (sy_i F 33).toInt ≤ 400)
    (h2 : 0 ≤ (sy_i F 33).toInt ∧ (sy_i F 33).toInt < 401)
    (h3 : ((sy_ai F 39).getD (sy_i F 33).toNatClampNeg 0).toInt ≠ 23)
    (k : ∀ F1 : Nat → sy_d, (∀ j, j < 82 → j ≠ 34 → F1 j = F j) → F1 34 = .inl (.int ((1 : Int32))) → Q (some (.int ((0 : Int32)))) (sy_dh F1 X1 X2 (iv_H 0))) :
    hd_W Ls xs d jm_M41 Q (0, sy_dL F [some (.inl (.ref 30)), none, none, none], sy_dS F [], sy_dh F X1 X2 (iv_H 0), 0, 0) := by
  refine hd_ret (s := 0) (nv := 82) (v := some (.inl (.int 0))) (uh := hd_ov (iv_id 0 iv_B0) [(34, .inl (.inl (.int 1)))]) (f := true) (sp := [27]) (d0 := 3) (O := [false, false, false]) (T := [(30, [.inr (.inl 33)], [.inr (.inl 39)])]) (P := [(3, .inr (.inl 33), .inl (.int 0)), (3, .inl (.int 400), .inr (.inl 33)), (6, .inr (.inl 33), .inl (.ref 401)), (1, .inr (.inl 82), .inl (.int 23))]) jm_ok41 (by decide +kernel) (by decide +kernel) hd F X1 X2 (fun F' hF hs => ?_)
  have b33 := hd_b (F := F) (F' := F') (k := 33) (hF 33 (by decide))
  have a39 := hd_ba (F := F) (F' := F') (k := 39) (hF 39 (by decide))
  have t82 : sy_dv F' (.inr (.inl 82)) = .int ((sy_ai F 39).getD (sy_i F 33).toNatClampNeg 0) := hd_rd (hs 0 _ rfl) b33 a39
  have hB' : iv_in F' iv_B0 := iv_in_eq hB (fun j hj => hF j (Nat.lt_of_lt_of_le hj (by decide +kernel)))
  refine ⟨List.forall_mem_cons.mpr ⟨hd_p3 b33 rfl (by have hc : ((0) : Int32).toInt = 0 := (by decide); omega), List.forall_mem_cons.mpr ⟨hd_p3 rfl b33 (by have hc : ((400) : Int32).toInt = 400 := (by decide); omega), List.forall_mem_cons.mpr ⟨hd_pb b33 (by first | exact h2 | exact h2), List.forall_mem_cons.mpr ⟨hd_p1 t82 rfl (by have hc : ((23) : Int32).toInt = 23 := (by decide); omega), fun _ h => absurd h List.not_mem_nil⟩⟩⟩⟩, ?_⟩
  refine k _ ?_ ?_
  · exact fun j hj hn => (hd_keep hB' (Nat.lt_of_lt_of_le hj (by decide +kernel)) (by simp; omega)).trans (hF j (Nat.lt_of_lt_of_le hj (by decide)))
  · exact hd_gi (x := .inl (.int 1)) (by decide +kernel) rfl
theorem k0tm_0 {Ls : Nat} {xs : Nat → Int32} {d : Nat} {Q : Option Value → jm_h → Prop} (hd : 4 ≤ d) (F : Nat → sy_d) (X1 X2 : List jm_c) (hB : iv_in F iv_B0)
    (k0 : 0 ≤ (sy_i F 33).toInt → (sy_i F 33).toInt ≤ 400 → ((sy_ai F 39).getD ((sy_i F 33).toInt).toNat 0).toInt = 23 → (sy_i F 33).toInt < 400 → 0 ≤ (((sy_i F 33).toInt + 1) - 1) → (((sy_i F 33).toInt + 1) - 1) ≤ 400 → ∀ F1 : Nat → sy_d, iv_in F1 iv_B0 → (∀ j, j < 82 → j ∉ ([33] : List Nat) → F1 j = F j) → (sy_i F1 33).toInt = ((sy_i F 33).toInt + 1) → (sy_i F1 34).toInt = (sy_i F 34).toInt → (sy_i F1 36).toInt = (sy_i F 36).toInt → (sy_i F1 37).toInt = (sy_i F 37).toInt → (sy_i F1 38).toInt = (sy_i F 38).toInt → sy_ai F1 39 = sy_ai F 39 → sy_ai F1 40 = sy_ai F 40 → sy_al F1 43 = sy_al F 43 → sy_l F1 82 = (sy_al F 41).getD ((((sy_i F 33).toInt + 1) - 1)).toNat 0 → (sy_i F1 83).toInt = 0 → hd_W Ls xs d jm_M41 Q (27, sy_dL F1 [some (.inl (.ref 30)), some (.inr (.inr 82)), none, some (.inr (.inl 83))], sy_dS F1 [], sy_dh F1 X1 X2 (iv_H 0), 0, 0))
    (k1 : 0 ≤ (sy_i F 33).toInt → (sy_i F 33).toInt ≤ 400 → ((sy_ai F 39).getD ((sy_i F 33).toInt).toNat 0).toInt = 23 → 400 ≤ (sy_i F 33).toInt → ∀ F1 : Nat → sy_d, iv_in F1 iv_B0 → (∀ j, j < 82 → j ∉ ([34] : List Nat) → F1 j = F j) → (sy_i F1 33).toInt = (sy_i F 33).toInt → (sy_i F1 34).toInt = 2 → (sy_i F1 36).toInt = (sy_i F 36).toInt → (sy_i F1 37).toInt = (sy_i F 37).toInt → (sy_i F1 38).toInt = (sy_i F 38).toInt → sy_ai F1 39 = sy_ai F 39 → sy_ai F1 40 = sy_ai F 40 → sy_al F1 43 = sy_al F 43 → Q (some (.int ((0 : Int32)))) (sy_dh F1 X1 X2 (iv_H 0)))
    (k2 : 0 ≤ (sy_i F 33).toInt → (sy_i F 33).toInt ≤ 400 → ((sy_ai F 39).getD ((sy_i F 33).toInt).toNat 0).toInt ≠ 23 → ∀ F1 : Nat → sy_d, iv_in F1 iv_B0 → (∀ j, j < 82 → j ∉ ([34] : List Nat) → F1 j = F j) → (sy_i F1 33).toInt = (sy_i F 33).toInt → (sy_i F1 34).toInt = 1 → (sy_i F1 36).toInt = (sy_i F 36).toInt → (sy_i F1 37).toInt = (sy_i F 37).toInt → (sy_i F1 38).toInt = (sy_i F 38).toInt → sy_ai F1 39 = sy_ai F 39 → sy_ai F1 40 = sy_ai F 40 → sy_al F1 43 = sy_al F 43 → Q (some (.int ((0 : Int32)))) (sy_dh F1 X1 X2 (iv_H 0))) :
    hd_W Ls xs d jm_M41 Q (0, sy_dL F [some (.inl (.ref 30)), none, none, none], sy_dS F [], sy_dh F X1 X2 (iv_H 0), 0, 0) := by
  by_cases g0 : (sy_i F 33).toInt < 0
  · have c33 := nz_bx hB (k := 33) (lo := 0) (hi := 400) rfl
    exfalso
    omega
  replace g0 : 0 ≤ (sy_i F 33).toInt := by omega
  by_cases g1 : 400 < (sy_i F 33).toInt
  · have c33 := nz_bx hB (k := 33) (lo := 0) (hi := 400) rfl
    exfalso
    omega
  replace g1 : (sy_i F 33).toInt ≤ 400 := by omega
  by_cases g2 : ((sy_ai F 39).getD ((sy_i F 33).toInt).toNat 0).toInt = 23
  · by_cases g3 : (sy_i F 33).toInt < 400
    · by_cases g4 : (((sy_i F 33).toInt + 1) - 1) < 0
      · have c33 := nz_bx hB (k := 33) (lo := 0) (hi := 400) rfl
        have q82 : (sy_ai F 39).getD (sy_i F 33).toNatClampNeg 0 = (sy_ai F 39).getD ((sy_i F 33).toInt).toNat 0 := by simp only [nz_c]
        have n82 : ((sy_ai F 39).getD (sy_i F 33).toNatClampNeg 0).toInt = ((sy_ai F 39).getD ((sy_i F 33).toInt).toNat 0).toInt := congrArg Int32.toInt q82
        have n83 : ((sy_i F 33) + ((1 : Int32))).toInt = ((sy_i F 33).toInt + 1) := nz_add (rfl : (sy_i F 33).toInt = (sy_i F 33).toInt) (by decide : ((1 : Int32)).toInt = 1) (by omega) (by omega)
        have n84 : (((sy_i F 33) + ((1 : Int32))) - ((1 : Int32))).toInt = (((sy_i F 33).toInt + 1) - 1) := nz_sub n83 (by decide : ((1 : Int32)).toInt = 1) (by omega) (by omega)
        exfalso
        omega
      replace g4 : 0 ≤ (((sy_i F 33).toInt + 1) - 1) := by omega
      by_cases g5 : 400 < (((sy_i F 33).toInt + 1) - 1)
      · have c33 := nz_bx hB (k := 33) (lo := 0) (hi := 400) rfl
        have q82 : (sy_ai F 39).getD (sy_i F 33).toNatClampNeg 0 = (sy_ai F 39).getD ((sy_i F 33).toInt).toNat 0 := by simp only [nz_c]
        have n82 : ((sy_ai F 39).getD (sy_i F 33).toNatClampNeg 0).toInt = ((sy_ai F 39).getD ((sy_i F 33).toInt).toNat 0).toInt := congrArg Int32.toInt q82
        have n83 : ((sy_i F 33) + ((1 : Int32))).toInt = ((sy_i F 33).toInt + 1) := nz_add (rfl : (sy_i F 33).toInt = (sy_i F 33).toInt) (by decide : ((1 : Int32)).toInt = 1) (by omega) (by omega)
        have n84 : (((sy_i F 33) + ((1 : Int32))) - ((1 : Int32))).toInt = (((sy_i F 33).toInt + 1) - 1) := nz_sub n83 (by decide : ((1 : Int32)).toInt = 1) (by omega) (by omega)
        exfalso
        omega
      replace g5 : (((sy_i F 33).toInt + 1) - 1) ≤ 400 := by omega
      have c33 := nz_bx hB (k := 33) (lo := 0) (hi := 400) rfl
      have q82 : (sy_ai F 39).getD (sy_i F 33).toNatClampNeg 0 = (sy_ai F 39).getD ((sy_i F 33).toInt).toNat 0 := by simp only [nz_c]
      have n82 : ((sy_ai F 39).getD (sy_i F 33).toNatClampNeg 0).toInt = ((sy_ai F 39).getD ((sy_i F 33).toInt).toNat 0).toInt := congrArg Int32.toInt q82
      have n83 : ((sy_i F 33) + ((1 : Int32))).toInt = ((sy_i F 33).toInt + 1) := nz_add (rfl : (sy_i F 33).toInt = (sy_i F 33).toInt) (by decide : ((1 : Int32)).toInt = 1) (by omega) (by omega)
      have n84 : (((sy_i F 33) + ((1 : Int32))) - ((1 : Int32))).toInt = (((sy_i F 33).toInt + 1) - 1) := nz_sub n83 (by decide : ((1 : Int32)).toInt = 1) (by omega) (by omega)
      have q85 : (sy_al F 41).getD (((sy_i F 33) + ((1 : Int32))) - ((1 : Int32))).toNatClampNeg 0 = (sy_al F 41).getD ((((sy_i F 33).toInt + 1) - 1)).toNat 0 := by simp only [nz_c, n83, n84, (by decide : ((1 : Int32)).toInt = 1)]
      exact k0tm_0_p0 hd F X1 X2 hB (by first | exact g0 | (simp only [nz_c]; exact g0)) (by first | exact g1 | (simp only [nz_c]; exact g1)) (by first | exact ⟨by omega, by omega⟩ | (simp only [nz_c]; exact ⟨by omega, by omega⟩)) (by first | exact g2 | (simp only [nz_c]; exact g2) | (rw [n82]; exact g2)) (by first | exact g3 | (simp only [nz_c]; exact g3)) (by first | exact g4 | (simp only [nz_c, n83, n84]; exact g4) | (rw [n84]; exact g4)) (by first | exact g5 | (simp only [nz_c, n83, n84]; exact g5) | (rw [n84]; exact g5)) (by first | exact ⟨by omega, by omega⟩ | (simp only [nz_c, n83, n84]; exact ⟨by omega, by omega⟩) | (rw [n84]; exact ⟨by omega, by omega⟩)) (fun F1 g e33 e82 e83 => k0 g0 g1 g2 g3 g4 g5 F1 (nz_in0 hB [33] (fun j hj hn => g j hj (by simp only [List.mem_cons, List.not_mem_nil, or_false, not_or] at hn; omega)) (List.forall_mem_cons.mpr ⟨fun t ht => (Option.some.inj ht) ▸ (nz_hi e33 n83 (by omega) (by omega)), List.forall_mem_nil _⟩)) (fun j hj hn => g j hj (by simp only [List.mem_cons, List.not_mem_nil, or_false, not_or] at hn; omega)) ((congrArg Int32.toInt (zz_i e33)).trans n83) (nz_fi (g 34 (by decide) (by decide))) (nz_fi (g 36 (by decide) (by decide))) (nz_fi (g 37 (by decide) (by decide))) (nz_fi (g 38 (by decide) (by decide))) (nz_fa (g 39 (by decide) (by decide))) (nz_fa (g 40 (by decide) (by decide))) (nz_fl (g 43 (by decide) (by decide))) ((zz_l e82).trans q85) ((congrArg Int32.toInt (zz_i e83)).trans (by decide : ((0 : Int32)).toInt = 0)))
    replace g3 : 400 ≤ (sy_i F 33).toInt := by omega
    have c33 := nz_bx hB (k := 33) (lo := 0) (hi := 400) rfl
    have q82 : (sy_ai F 39).getD (sy_i F 33).toNatClampNeg 0 = (sy_ai F 39).getD ((sy_i F 33).toInt).toNat 0 := by simp only [nz_c]
    have n82 : ((sy_ai F 39).getD (sy_i F 33).toNatClampNeg 0).toInt = ((sy_ai F 39).getD ((sy_i F 33).toInt).toNat 0).toInt := congrArg Int32.toInt q82
    exact k0tm_0_p1 hd F X1 X2 hB (by first | exact g0 | (simp only [nz_c]; exact g0)) (by first | exact g1 | (simp only [nz_c]; exact g1)) (by first | exact ⟨by omega, by omega⟩ | (simp only [nz_c]; exact ⟨by omega, by omega⟩)) (by first | exact g2 | (simp only [nz_c]; exact g2) | (rw [n82]; exact g2)) (by first | exact g3 | (simp only [nz_c]; exact g3)) (fun F1 g e34 => k1 g0 g1 g2 g3 F1 (nz_in0 hB [34] (fun j hj hn => g j hj (by simp only [List.mem_cons, List.not_mem_nil, or_false, not_or] at hn; omega)) (List.forall_mem_cons.mpr ⟨fun t ht => (Option.some.inj ht) ▸ (nz_hz e34), List.forall_mem_nil _⟩)) (fun j hj hn => g j hj (by simp only [List.mem_cons, List.not_mem_nil, or_false, not_or] at hn; omega)) (nz_fi (g 33 (by decide) (by decide))) ((congrArg Int32.toInt (zz_i e34)).trans (by decide : ((2 : Int32)).toInt = 2)) (nz_fi (g 36 (by decide) (by decide))) (nz_fi (g 37 (by decide) (by decide))) (nz_fi (g 38 (by decide) (by decide))) (nz_fa (g 39 (by decide) (by decide))) (nz_fa (g 40 (by decide) (by decide))) (nz_fl (g 43 (by decide) (by decide))))
  replace g2 : ((sy_ai F 39).getD ((sy_i F 33).toInt).toNat 0).toInt ≠ 23 := by omega
  have c33 := nz_bx hB (k := 33) (lo := 0) (hi := 400) rfl
  have q82 : (sy_ai F 39).getD (sy_i F 33).toNatClampNeg 0 = (sy_ai F 39).getD ((sy_i F 33).toInt).toNat 0 := by simp only [nz_c]
  have n82 : ((sy_ai F 39).getD (sy_i F 33).toNatClampNeg 0).toInt = ((sy_ai F 39).getD ((sy_i F 33).toInt).toNat 0).toInt := congrArg Int32.toInt q82
  exact k0tm_0_p2 hd F X1 X2 hB (by first | exact g0 | (simp only [nz_c]; exact g0)) (by first | exact g1 | (simp only [nz_c]; exact g1)) (by first | exact ⟨by omega, by omega⟩ | (simp only [nz_c]; exact ⟨by omega, by omega⟩)) (by first | exact g2 | (simp only [nz_c]; exact g2) | (rw [n82]; exact g2)) (fun F1 g e34 => k2 g0 g1 g2 F1 (nz_in0 hB [34] (fun j hj hn => g j hj (by simp only [List.mem_cons, List.not_mem_nil, or_false, not_or] at hn; omega)) (List.forall_mem_cons.mpr ⟨fun t ht => (Option.some.inj ht) ▸ (nz_hz e34), List.forall_mem_nil _⟩)) (fun j hj hn => g j hj (by simp only [List.mem_cons, List.not_mem_nil, or_false, not_or] at hn; omega)) (nz_fi (g 33 (by decide) (by decide))) ((congrArg Int32.toInt (zz_i e34)).trans (by decide : ((1 : Int32)).toInt = 1)) (nz_fi (g 36 (by decide) (by decide))) (nz_fi (g 37 (by decide) (by decide))) (nz_fi (g 38 (by decide) (by decide))) (nz_fa (g 39 (by decide) (by decide))) (nz_fa (g 40 (by decide) (by decide))) (nz_fl (g 43 (by decide) (by decide))))
theorem k0tm_27_p0 {Ls : Nat} {xs : Nat → Int32} {d : Nat} {Q : Option Value → jm_h → Prop} (hd : 4 ≤ d) (F : Nat → sy_d) (X1 X2 : List jm_c) (hB : iv_in F iv_B0)
    (h0 : (sy_i F 38).toInt ≤ (sy_i F 83).toInt)
    (h1 : 11 ≤ (sy_i F 38).toInt)
    (k : ∀ F1 : Nat → sy_d, (∀ j, j < 82 → True → F1 j = F j) → Q (some (.int ((1 : Int32)))) (sy_dh F1 X1 X2 (iv_H 0))) :
    hd_W Ls xs d jm_M41 Q (27, sy_dL F [some (.inl (.ref 30)), some (.inr (.inr 82)), none, some (.inr (.inl 83))], sy_dS F [], sy_dh F X1 X2 (iv_H 0), 0, 0) := by
  refine hd_ret (s := 0) (nv := 84) (v := some (.inl (.int 1))) (uh := hd_ov (iv_id 0 iv_B0) []) (f := true) (sp := [27]) (d0 := 3) (O := [true, true]) (T := []) (P := [(4, .inr (.inl 38), .inr (.inl 83)), (4, .inl (.int 11), .inr (.inl 38))]) jm_ok41 (by decide +kernel) (by decide +kernel) hd F X1 X2 (fun F' hF hs => ?_)
  have b38 := hd_b (F := F) (F' := F') (k := 38) (hF 38 (by decide))
  have b83 := hd_b (F := F) (F' := F') (k := 83) (hF 83 (by decide))
  have hB' : iv_in F' iv_B0 := iv_in_eq hB (fun j hj => hF j (Nat.lt_of_lt_of_le hj (by decide +kernel)))
  refine ⟨List.forall_mem_cons.mpr ⟨hd_p4 b38 b83 h0, List.forall_mem_cons.mpr ⟨hd_p4 rfl b38 (by have hc : ((11) : Int32).toInt = 11 := (by decide); omega), fun _ h => absurd h List.not_mem_nil⟩⟩, ?_⟩
  refine k _ ?_
  · exact fun j hj _ => (hd_keep hB' (Nat.lt_of_lt_of_le hj (by decide +kernel)) (by simp)).trans (hF j (Nat.lt_of_lt_of_le hj (by decide)))
theorem k0tm_27_p1 {Ls : Nat} {xs : Nat → Int32} {d : Nat} {Q : Option Value → jm_h → Prop} (hd : 4 ≤ d) (F : Nat → sy_d) (X1 X2 : List jm_c) (hB : iv_in F iv_B0)
    (h0 : (sy_i F 38).toInt ≤ (sy_i F 83).toInt)
    (h1 : (sy_i F 38).toInt < 11)
    (h2 : 0 ≤ (sy_i F 38).toInt ∧ (sy_i F 38).toInt < 11)
    (k : ∀ F1 : Nat → sy_d, (∀ j, j < 82 → j ≠ 38 ∧ j ≠ 43 → F1 j = F j) → F1 38 = .inl (.int ((sy_i F 38) + ((1 : Int32)))) → F1 43 = .inr (.inr (jm_updL (sy_al F 43) (sy_i F 38).toNatClampNeg (sy_l F 82))) → Q (some (.int ((1 : Int32)))) (sy_dh F1 X1 X2 (iv_H 0))) :
    hd_W Ls xs d jm_M41 Q (27, sy_dL F [some (.inl (.ref 30)), some (.inr (.inr 82)), none, some (.inr (.inl 83))], sy_dS F [], sy_dh F X1 X2 (iv_H 0), 0, 0) := by
  refine hd_ret (s := 0) (nv := 84) (v := some (.inl (.int 1))) (uh := hd_ov (iv_id 0 iv_B0) [(38, .inl (.inr (.inl 85))), (43, .inr (.inr (.inr 84)))]) (f := true) (sp := [27]) (d0 := 3) (O := [true, false]) (T := [(40, [.inr (.inl 38), .inr (.inr 82)], [.inr (.inr 43)]), (0, [.inr (.inl 38), .inl (.int 1)], [])]) (P := [(4, .inr (.inl 38), .inr (.inl 83)), (5, .inl (.int 11), .inr (.inl 38)), (6, .inr (.inl 38), .inl (.ref 11))]) jm_ok41 (by decide +kernel) (by decide +kernel) hd F X1 X2 (fun F' hF hs => ?_)
  have b38 := hd_b (F := F) (F' := F') (k := 38) (hF 38 (by decide))
  have b83 := hd_b (F := F) (F' := F') (k := 83) (hF 83 (by decide))
  have t85 : sy_dv F' (.inr (.inl 85)) = .int ((sy_i F 38) + ((1 : Int32))) := hd_o (hs 1 _ rfl) b38 rfl rfl
  have b82 := hd_bl (F := F) (F' := F') (k := 82) (hF 82 (by decide))
  have a43 := hd_bA (F := F) (F' := F') (k := 43) (hF 43 (by decide))
  have t84 : sy_da F' (.inr (.inr 84)) = .inr (jm_updL (sy_al F 43) (sy_i F 38).toNatClampNeg (sy_l F 82)) := hd_uA (hs 0 _ rfl) b38 b82 a43
  have hB' : iv_in F' iv_B0 := iv_in_eq hB (fun j hj => hF j (Nat.lt_of_lt_of_le hj (by decide +kernel)))
  refine ⟨List.forall_mem_cons.mpr ⟨hd_p4 b38 b83 h0, List.forall_mem_cons.mpr ⟨hd_p5 rfl b38 (by have hc : ((11) : Int32).toInt = 11 := (by decide); omega), List.forall_mem_cons.mpr ⟨hd_pb b38 (by first | exact h2 | exact h2), fun _ h => absurd h List.not_mem_nil⟩⟩⟩, ?_⟩
  refine k _ ?_ ?_ ?_
  · exact fun j hj hn => (hd_keep hB' (Nat.lt_of_lt_of_le hj (by decide +kernel)) (by simp; omega)).trans (hF j (Nat.lt_of_lt_of_le hj (by decide)))
  · exact hd_gi (x := .inr (.inl 85)) (by decide +kernel) t85
  · exact hd_gA (a := .inr (.inr 84)) (by decide +kernel) t84
theorem k0tm_27_p2 {Ls : Nat} {xs : Nat → Int32} {d : Nat} {Q : Option Value → jm_h → Prop} (hd : 4 ≤ d) (F : Nat → sy_d) (X1 X2 : List jm_c) (hB : iv_in F iv_B0)
    (h0 : (sy_i F 83).toInt < (sy_i F 38).toInt)
    (h1 : 0 ≤ (sy_i F 83).toInt ∧ (sy_i F 83).toInt < 11)
    (h2 : (lg_cmp ((sy_al F 43).getD (sy_i F 83).toNatClampNeg 0) (sy_l F 82)).toInt ≠ 0)
    (k : ∀ F1 : Nat → sy_d, (∀ j, j < 82 → True → F1 j = F j) → F1 82 = .inl (.long (sy_l F 82)) → F1 83 = .inl (.int ((sy_i F 83) + ((1 : Int32)))) → hd_W Ls xs d jm_M41 Q (27, sy_dL F1 [some (.inl (.ref 30)), some (.inr (.inr 82)), none, some (.inr (.inl 83))], sy_dS F1 [], sy_dh F1 X1 X2 (iv_H 0), 0, 0)) :
    hd_W Ls xs d jm_M41 Q (27, sy_dL F [some (.inl (.ref 30)), some (.inr (.inr 82)), none, some (.inr (.inl 83))], sy_dS F [], sy_dh F X1 X2 (iv_H 0), 0, 0) := by
  refine hd_run (s := 0) (nv := 84) (pc := 27) (L := [some (.inl (.ref 30)), some (.inr (.inr 82)), none, some (.inr (.inl 83))]) (S := []) (uh := hd_ov (iv_id 0 iv_B0) []) (ul := [.inl (.inr (.inr 82)), .inl (.inr (.inl 86))]) (f := true) (sp := [27]) (d0 := 3) (O := [false, true]) (T := [(30, [.inr (.inl 83)], [.inr (.inr 43)]), (17, [.inr (.inr 84), .inr (.inr 82)], []), (0, [.inr (.inl 83), .inl (.int 1)], [])]) (P := [(5, .inr (.inl 38), .inr (.inl 83)), (6, .inr (.inl 83), .inl (.ref 11)), (1, .inr (.inl 85), .inl (.int 0))]) jm_ok41 (by decide +kernel) (by decide +kernel) hd F X1 X2 (fun F' hF hs => ?_)
  have b38 := hd_b (F := F) (F' := F') (k := 38) (hF 38 (by decide))
  have b83 := hd_b (F := F) (F' := F') (k := 83) (hF 83 (by decide))
  have a43 := hd_bA (F := F) (F' := F') (k := 43) (hF 43 (by decide))
  have t84 : sy_dv F' (.inr (.inr 84)) = .long ((sy_al F 43).getD (sy_i F 83).toNatClampNeg 0) := hd_rL (hs 0 _ rfl) b83 a43
  have b82 := hd_bl (F := F) (F' := F') (k := 82) (hF 82 (by decide))
  have t85 : sy_dv F' (.inr (.inl 85)) = .int (lg_cmp ((sy_al F 43).getD (sy_i F 83).toNatClampNeg 0) (sy_l F 82)) := hd_oc (hs 1 _ rfl) t84 b82 rfl
  have t86 : sy_dv F' (.inr (.inl 86)) = .int ((sy_i F 83) + ((1 : Int32))) := hd_o (hs 2 _ rfl) b83 rfl rfl
  have hB' : iv_in F' iv_B0 := iv_in_eq hB (fun j hj => hF j (Nat.lt_of_lt_of_le hj (by decide +kernel)))
  refine ⟨List.forall_mem_cons.mpr ⟨hd_p5 b38 b83 h0, List.forall_mem_cons.mpr ⟨hd_pb b83 (by first | exact h1 | exact h1), List.forall_mem_cons.mpr ⟨hd_p1 t85 rfl (by have hc : ((0) : Int32).toInt = 0 := (by decide); omega), fun _ h => absurd h List.not_mem_nil⟩⟩⟩, ?_⟩
  refine k _ ?_ ?_ ?_
  · exact fun j hj _ => (hd_keep hB' (Nat.lt_of_lt_of_le hj (by decide +kernel)) (by simp)).trans (hF j (Nat.lt_of_lt_of_le hj (by decide)))
  · exact hd_gl (x := .inr (.inr 82)) (by decide +kernel) b82
  · exact hd_gi (x := .inr (.inl 86)) (by decide +kernel) t86
theorem k0tm_27_p3 {Ls : Nat} {xs : Nat → Int32} {d : Nat} {Q : Option Value → jm_h → Prop} (hd : 4 ≤ d) (F : Nat → sy_d) (X1 X2 : List jm_c) (hB : iv_in F iv_B0)
    (h0 : (sy_i F 83).toInt < (sy_i F 38).toInt)
    (h1 : 0 ≤ (sy_i F 83).toInt ∧ (sy_i F 83).toInt < 11)
    (h2 : (lg_cmp ((sy_al F 43).getD (sy_i F 83).toNatClampNeg 0) (sy_l F 82)).toInt = 0)
    (h3 : (sy_i F 36).toInt ≠ 0)
    (k : ∀ F1 : Nat → sy_d, (∀ j, j < 82 → True → F1 j = F j) → Q (some (.int ((1 : Int32)))) (sy_dh F1 X1 X2 (iv_H 0))) :
    hd_W Ls xs d jm_M41 Q (27, sy_dL F [some (.inl (.ref 30)), some (.inr (.inr 82)), none, some (.inr (.inl 83))], sy_dS F [], sy_dh F X1 X2 (iv_H 0), 0, 0) := by
  refine hd_ret (s := 0) (nv := 84) (v := some (.inl (.int 1))) (uh := hd_ov (iv_id 0 iv_B0) []) (f := true) (sp := [27]) (d0 := 3) (O := [false, false, true]) (T := [(30, [.inr (.inl 83)], [.inr (.inr 43)]), (17, [.inr (.inr 84), .inr (.inr 82)], [])]) (P := [(5, .inr (.inl 38), .inr (.inl 83)), (6, .inr (.inl 83), .inl (.ref 11)), (0, .inr (.inl 85), .inl (.int 0)), (1, .inr (.inl 36), .inl (.int 0))]) jm_ok41 (by decide +kernel) (by decide +kernel) hd F X1 X2 (fun F' hF hs => ?_)
  have b38 := hd_b (F := F) (F' := F') (k := 38) (hF 38 (by decide))
  have b83 := hd_b (F := F) (F' := F') (k := 83) (hF 83 (by decide))
  have a43 := hd_bA (F := F) (F' := F') (k := 43) (hF 43 (by decide))
  have t84 : sy_dv F' (.inr (.inr 84)) = .long ((sy_al F 43).getD (sy_i F 83).toNatClampNeg 0) := hd_rL (hs 0 _ rfl) b83 a43
  have b82 := hd_bl (F := F) (F' := F') (k := 82) (hF 82 (by decide))
  have t85 : sy_dv F' (.inr (.inl 85)) = .int (lg_cmp ((sy_al F 43).getD (sy_i F 83).toNatClampNeg 0) (sy_l F 82)) := hd_oc (hs 1 _ rfl) t84 b82 rfl
  have b36 := hd_b (F := F) (F' := F') (k := 36) (hF 36 (by decide))
  have hB' : iv_in F' iv_B0 := iv_in_eq hB (fun j hj => hF j (Nat.lt_of_lt_of_le hj (by decide +kernel)))
  refine ⟨List.forall_mem_cons.mpr ⟨hd_p5 b38 b83 h0, List.forall_mem_cons.mpr ⟨hd_pb b83 (by first | exact h1 | exact h1), List.forall_mem_cons.mpr ⟨hd_p0 t85 rfl (by have hc : ((0) : Int32).toInt = 0 := (by decide); omega), List.forall_mem_cons.mpr ⟨hd_p1 b36 rfl (by have hc : ((0) : Int32).toInt = 0 := (by decide); omega), fun _ h => absurd h List.not_mem_nil⟩⟩⟩⟩, ?_⟩
  refine k _ ?_
  · exact fun j hj _ => (hd_keep hB' (Nat.lt_of_lt_of_le hj (by decide +kernel)) (by simp)).trans (hF j (Nat.lt_of_lt_of_le hj (by decide)))
theorem k0tm_27_p4 {Ls : Nat} {xs : Nat → Int32} {d : Nat} {Q : Option Value → jm_h → Prop} (hd : 4 ≤ d) (F : Nat → sy_d) (X1 X2 : List jm_c) (hB : iv_in F iv_B0)
    (h0 : (sy_i F 83).toInt < (sy_i F 38).toInt)
    (h1 : 0 ≤ (sy_i F 83).toInt ∧ (sy_i F 83).toInt < 11)
    (h2 : (lg_cmp ((sy_al F 43).getD (sy_i F 83).toNatClampNeg 0) (sy_l F 82)).toInt = 0)
    (h3 : (sy_i F 36).toInt = 0)
    (h4 : ((sy_i F 33) - ((1 : Int32))).toInt < 0)
    (k : ∀ F1 : Nat → sy_d, (∀ j, j < 82 → j ≠ 36 ∧ j ≠ 37 → F1 j = F j) → F1 36 = .inl (.int ((3 : Int32))) → F1 37 = .inl (.int ((0 : Int32))) → Q (some (.int ((1 : Int32)))) (sy_dh F1 X1 X2 (iv_H 0))) :
    hd_W Ls xs d jm_M41 Q (27, sy_dL F [some (.inl (.ref 30)), some (.inr (.inr 82)), none, some (.inr (.inl 83))], sy_dS F [], sy_dh F X1 X2 (iv_H 0), 0, 0) := by
  refine hd_ret (s := 0) (nv := 84) (v := some (.inl (.int 1))) (uh := hd_ov (iv_id 0 iv_B0) [(36, .inl (.inl (.int 3))), (37, .inl (.inl (.int 0)))]) (f := true) (sp := [27]) (d0 := 3) (O := [false, false, false, true]) (T := [(30, [.inr (.inl 83)], [.inr (.inr 43)]), (17, [.inr (.inr 84), .inr (.inr 82)], []), (1, [.inr (.inl 33), .inl (.int 1)], [])]) (P := [(5, .inr (.inl 38), .inr (.inl 83)), (6, .inr (.inl 83), .inl (.ref 11)), (0, .inr (.inl 85), .inl (.int 0)), (0, .inr (.inl 36), .inl (.int 0)), (2, .inr (.inl 86), .inl (.int 0))]) jm_ok41 (by decide +kernel) (by decide +kernel) hd F X1 X2 (fun F' hF hs => ?_)
  have b38 := hd_b (F := F) (F' := F') (k := 38) (hF 38 (by decide))
  have b83 := hd_b (F := F) (F' := F') (k := 83) (hF 83 (by decide))
  have a43 := hd_bA (F := F) (F' := F') (k := 43) (hF 43 (by decide))
  have t84 : sy_dv F' (.inr (.inr 84)) = .long ((sy_al F 43).getD (sy_i F 83).toNatClampNeg 0) := hd_rL (hs 0 _ rfl) b83 a43
  have b82 := hd_bl (F := F) (F' := F') (k := 82) (hF 82 (by decide))
  have t85 : sy_dv F' (.inr (.inl 85)) = .int (lg_cmp ((sy_al F 43).getD (sy_i F 83).toNatClampNeg 0) (sy_l F 82)) := hd_oc (hs 1 _ rfl) t84 b82 rfl
  have b36 := hd_b (F := F) (F' := F') (k := 36) (hF 36 (by decide))
  have b33 := hd_b (F := F) (F' := F') (k := 33) (hF 33 (by decide))
  have t86 : sy_dv F' (.inr (.inl 86)) = .int ((sy_i F 33) - ((1 : Int32))) := hd_o (hs 2 _ rfl) b33 rfl rfl
  have hB' : iv_in F' iv_B0 := iv_in_eq hB (fun j hj => hF j (Nat.lt_of_lt_of_le hj (by decide +kernel)))
  refine ⟨List.forall_mem_cons.mpr ⟨hd_p5 b38 b83 h0, List.forall_mem_cons.mpr ⟨hd_pb b83 (by first | exact h1 | exact h1), List.forall_mem_cons.mpr ⟨hd_p0 t85 rfl (by have hc : ((0) : Int32).toInt = 0 := (by decide); omega), List.forall_mem_cons.mpr ⟨hd_p0 b36 rfl (by have hc : ((0) : Int32).toInt = 0 := (by decide); omega), List.forall_mem_cons.mpr ⟨hd_p2 t86 rfl (by have hc : ((0) : Int32).toInt = 0 := (by decide); omega), fun _ h => absurd h List.not_mem_nil⟩⟩⟩⟩⟩, ?_⟩
  refine k _ ?_ ?_ ?_
  · exact fun j hj hn => (hd_keep hB' (Nat.lt_of_lt_of_le hj (by decide +kernel)) (by simp; omega)).trans (hF j (Nat.lt_of_lt_of_le hj (by decide)))
  · exact hd_gi (x := .inl (.int 3)) (by decide +kernel) rfl
  · exact hd_gi (x := .inl (.int 0)) (by decide +kernel) rfl
theorem k0tm_27_p5 {Ls : Nat} {xs : Nat → Int32} {d : Nat} {Q : Option Value → jm_h → Prop} (hd : 4 ≤ d) (F : Nat → sy_d) (X1 X2 : List jm_c) (hB : iv_in F iv_B0)
    (h0 : (sy_i F 83).toInt < (sy_i F 38).toInt)
    (h1 : 0 ≤ (sy_i F 83).toInt ∧ (sy_i F 83).toInt < 11)
    (h2 : (lg_cmp ((sy_al F 43).getD (sy_i F 83).toNatClampNeg 0) (sy_l F 82)).toInt = 0)
    (h3 : (sy_i F 36).toInt = 0)
    (h4 : 0 ≤ ((sy_i F 33) - ((1 : Int32))).toInt)
    (h5 : ((sy_i F 33) - ((1 : Int32))).toInt ≤ 400)
    (h6 : 0 ≤ ((sy_i F 33) - ((1 : Int32))).toInt ∧ ((sy_i F 33) - ((1 : Int32))).toInt < 401)
    (k : ∀ F1 : Nat → sy_d, (∀ j, j < 82 → j ≠ 36 ∧ j ≠ 37 → F1 j = F j) → F1 36 = .inl (.int ((3 : Int32))) → F1 37 = .inl (.int ((sy_ai F 40).getD ((sy_i F 33) - ((1 : Int32))).toNatClampNeg 0)) → Q (some (.int ((1 : Int32)))) (sy_dh F1 X1 X2 (iv_H 0))) :
    hd_W Ls xs d jm_M41 Q (27, sy_dL F [some (.inl (.ref 30)), some (.inr (.inr 82)), none, some (.inr (.inl 83))], sy_dS F [], sy_dh F X1 X2 (iv_H 0), 0, 0) := by
  refine hd_ret (s := 0) (nv := 84) (v := some (.inl (.int 1))) (uh := hd_ov (iv_id 0 iv_B0) [(36, .inl (.inl (.int 3))), (37, .inl (.inr (.inl 87)))]) (f := true) (sp := [27]) (d0 := 3) (O := [false, false, false, false, false]) (T := [(30, [.inr (.inl 83)], [.inr (.inr 43)]), (17, [.inr (.inr 84), .inr (.inr 82)], []), (1, [.inr (.inl 33), .inl (.int 1)], []), (30, [.inr (.inl 86)], [.inr (.inl 40)])]) (P := [(5, .inr (.inl 38), .inr (.inl 83)), (6, .inr (.inl 83), .inl (.ref 11)), (0, .inr (.inl 85), .inl (.int 0)), (0, .inr (.inl 36), .inl (.int 0)), (3, .inr (.inl 86), .inl (.int 0)), (3, .inl (.int 400), .inr (.inl 86)), (6, .inr (.inl 86), .inl (.ref 401))]) jm_ok41 (by decide +kernel) (by decide +kernel) hd F X1 X2 (fun F' hF hs => ?_)
  have b38 := hd_b (F := F) (F' := F') (k := 38) (hF 38 (by decide))
  have b83 := hd_b (F := F) (F' := F') (k := 83) (hF 83 (by decide))
  have a43 := hd_bA (F := F) (F' := F') (k := 43) (hF 43 (by decide))
  have t84 : sy_dv F' (.inr (.inr 84)) = .long ((sy_al F 43).getD (sy_i F 83).toNatClampNeg 0) := hd_rL (hs 0 _ rfl) b83 a43
  have b82 := hd_bl (F := F) (F' := F') (k := 82) (hF 82 (by decide))
  have t85 : sy_dv F' (.inr (.inl 85)) = .int (lg_cmp ((sy_al F 43).getD (sy_i F 83).toNatClampNeg 0) (sy_l F 82)) := hd_oc (hs 1 _ rfl) t84 b82 rfl
  have b36 := hd_b (F := F) (F' := F') (k := 36) (hF 36 (by decide))
  have b33 := hd_b (F := F) (F' := F') (k := 33) (hF 33 (by decide))
  have t86 : sy_dv F' (.inr (.inl 86)) = .int ((sy_i F 33) - ((1 : Int32))) := hd_o (hs 2 _ rfl) b33 rfl rfl
  have a40 := hd_ba (F := F) (F' := F') (k := 40) (hF 40 (by decide))
  have t87 : sy_dv F' (.inr (.inl 87)) = .int ((sy_ai F 40).getD ((sy_i F 33) - ((1 : Int32))).toNatClampNeg 0) := hd_rd (hs 3 _ rfl) t86 a40
  have hB' : iv_in F' iv_B0 := iv_in_eq hB (fun j hj => hF j (Nat.lt_of_lt_of_le hj (by decide +kernel)))
  refine ⟨List.forall_mem_cons.mpr ⟨hd_p5 b38 b83 h0, List.forall_mem_cons.mpr ⟨hd_pb b83 (by first | exact h1 | exact h1), List.forall_mem_cons.mpr ⟨hd_p0 t85 rfl (by have hc : ((0) : Int32).toInt = 0 := (by decide); omega), List.forall_mem_cons.mpr ⟨hd_p0 b36 rfl (by have hc : ((0) : Int32).toInt = 0 := (by decide); omega), List.forall_mem_cons.mpr ⟨hd_p3 t86 rfl (by have hc : ((0) : Int32).toInt = 0 := (by decide); omega), List.forall_mem_cons.mpr ⟨hd_p3 rfl t86 (by have hc : ((400) : Int32).toInt = 400 := (by decide); omega), List.forall_mem_cons.mpr ⟨hd_pb t86 (by first | exact h6 | exact h6), fun _ h => absurd h List.not_mem_nil⟩⟩⟩⟩⟩⟩⟩, ?_⟩
  refine k _ ?_ ?_ ?_
  · exact fun j hj hn => (hd_keep hB' (Nat.lt_of_lt_of_le hj (by decide +kernel)) (by simp; omega)).trans (hF j (Nat.lt_of_lt_of_le hj (by decide)))
  · exact hd_gi (x := .inl (.int 3)) (by decide +kernel) rfl
  · exact hd_gi (x := .inr (.inl 87)) (by decide +kernel) t87
theorem k0tm_27 {Ls : Nat} {xs : Nat → Int32} {d : Nat} {Q : Option Value → jm_h → Prop} (hd : 4 ≤ d) (F : Nat → sy_d) (X1 X2 : List jm_c) (hB : iv_in F iv_B0)
    (a83 : 0 ≤ (sy_i F 83).toInt ∧ (sy_i F 83).toInt ≤ 11)
    (k0 : (sy_i F 38).toInt ≤ (sy_i F 83).toInt → 11 ≤ (sy_i F 38).toInt → ∀ F1 : Nat → sy_d, iv_in F1 iv_B0 → (∀ j, j < 82 → j ∉ ([] : List Nat) → F1 j = F j) → (sy_i F1 33).toInt = (sy_i F 33).toInt → (sy_i F1 34).toInt = (sy_i F 34).toInt → (sy_i F1 36).toInt = (sy_i F 36).toInt → (sy_i F1 37).toInt = (sy_i F 37).toInt → (sy_i F1 38).toInt = (sy_i F 38).toInt → sy_ai F1 39 = sy_ai F 39 → sy_ai F1 40 = sy_ai F 40 → sy_al F1 43 = sy_al F 43 → Q (some (.int ((1 : Int32)))) (sy_dh F1 X1 X2 (iv_H 0)))
    (k1 : (sy_i F 38).toInt ≤ (sy_i F 83).toInt → (sy_i F 38).toInt < 11 → ∀ F1 : Nat → sy_d, iv_in F1 iv_B0 → (∀ j, j < 82 → j ∉ ([38, 43] : List Nat) → F1 j = F j) → (sy_i F1 33).toInt = (sy_i F 33).toInt → (sy_i F1 34).toInt = (sy_i F 34).toInt → (sy_i F1 36).toInt = (sy_i F 36).toInt → (sy_i F1 37).toInt = (sy_i F 37).toInt → (sy_i F1 38).toInt = ((sy_i F 38).toInt + 1) → sy_ai F1 39 = sy_ai F 39 → sy_ai F1 40 = sy_ai F 40 → sy_al F1 43 = jm_updL (sy_al F 43) ((sy_i F 38).toInt).toNat (sy_l F 82) → Q (some (.int ((1 : Int32)))) (sy_dh F1 X1 X2 (iv_H 0)))
    (k2 : (sy_i F 83).toInt < (sy_i F 38).toInt → (lg_cmp ((sy_al F 43).getD ((sy_i F 83).toInt).toNat 0) (sy_l F 82)).toInt ≠ 0 → ∀ F1 : Nat → sy_d, iv_in F1 iv_B0 → (∀ j, j < 82 → j ∉ ([] : List Nat) → F1 j = F j) → (sy_i F1 33).toInt = (sy_i F 33).toInt → (sy_i F1 34).toInt = (sy_i F 34).toInt → (sy_i F1 36).toInt = (sy_i F 36).toInt → (sy_i F1 37).toInt = (sy_i F 37).toInt → (sy_i F1 38).toInt = (sy_i F 38).toInt → sy_ai F1 39 = sy_ai F 39 → sy_ai F1 40 = sy_ai F 40 → sy_al F1 43 = sy_al F 43 → sy_l F1 82 = sy_l F 82 → (sy_i F1 83).toInt = ((sy_i F 83).toInt + 1) → hd_W Ls xs d jm_M41 Q (27, sy_dL F1 [some (.inl (.ref 30)), some (.inr (.inr 82)), none, some (.inr (.inl 83))], sy_dS F1 [], sy_dh F1 X1 X2 (iv_H 0), 0, 0))
    (k3 : (sy_i F 83).toInt < (sy_i F 38).toInt → (lg_cmp ((sy_al F 43).getD ((sy_i F 83).toInt).toNat 0) (sy_l F 82)).toInt = 0 → (sy_i F 36).toInt ≠ 0 → ∀ F1 : Nat → sy_d, iv_in F1 iv_B0 → (∀ j, j < 82 → j ∉ ([] : List Nat) → F1 j = F j) → (sy_i F1 33).toInt = (sy_i F 33).toInt → (sy_i F1 34).toInt = (sy_i F 34).toInt → (sy_i F1 36).toInt = (sy_i F 36).toInt → (sy_i F1 37).toInt = (sy_i F 37).toInt → (sy_i F1 38).toInt = (sy_i F 38).toInt → sy_ai F1 39 = sy_ai F 39 → sy_ai F1 40 = sy_ai F 40 → sy_al F1 43 = sy_al F 43 → Q (some (.int ((1 : Int32)))) (sy_dh F1 X1 X2 (iv_H 0)))
    (k4 : (sy_i F 83).toInt < (sy_i F 38).toInt → (lg_cmp ((sy_al F 43).getD ((sy_i F 83).toInt).toNat 0) (sy_l F 82)).toInt = 0 → (sy_i F 36).toInt = 0 → ((sy_i F 33).toInt - 1) < 0 → ∀ F1 : Nat → sy_d, iv_in F1 iv_B0 → (∀ j, j < 82 → j ∉ ([36, 37] : List Nat) → F1 j = F j) → (sy_i F1 33).toInt = (sy_i F 33).toInt → (sy_i F1 34).toInt = (sy_i F 34).toInt → (sy_i F1 36).toInt = 3 → (sy_i F1 37).toInt = 0 → (sy_i F1 38).toInt = (sy_i F 38).toInt → sy_ai F1 39 = sy_ai F 39 → sy_ai F1 40 = sy_ai F 40 → sy_al F1 43 = sy_al F 43 → Q (some (.int ((1 : Int32)))) (sy_dh F1 X1 X2 (iv_H 0)))
    (k5 : (sy_i F 83).toInt < (sy_i F 38).toInt → (lg_cmp ((sy_al F 43).getD ((sy_i F 83).toInt).toNat 0) (sy_l F 82)).toInt = 0 → (sy_i F 36).toInt = 0 → 0 ≤ ((sy_i F 33).toInt - 1) → ((sy_i F 33).toInt - 1) ≤ 400 → ∀ F1 : Nat → sy_d, iv_in F1 iv_B0 → (∀ j, j < 82 → j ∉ ([36, 37] : List Nat) → F1 j = F j) → (sy_i F1 33).toInt = (sy_i F 33).toInt → (sy_i F1 34).toInt = (sy_i F 34).toInt → (sy_i F1 36).toInt = 3 → (sy_i F1 37).toInt = ((sy_ai F 40).getD (((sy_i F 33).toInt - 1)).toNat 0).toInt → (sy_i F1 38).toInt = (sy_i F 38).toInt → sy_ai F1 39 = sy_ai F 39 → sy_ai F1 40 = sy_ai F 40 → sy_al F1 43 = sy_al F 43 → Q (some (.int ((1 : Int32)))) (sy_dh F1 X1 X2 (iv_H 0))) :
    hd_W Ls xs d jm_M41 Q (27, sy_dL F [some (.inl (.ref 30)), some (.inr (.inr 82)), none, some (.inr (.inl 83))], sy_dS F [], sy_dh F X1 X2 (iv_H 0), 0, 0) := by
  by_cases g0 : (sy_i F 38).toInt ≤ (sy_i F 83).toInt
  · by_cases g1 : 11 ≤ (sy_i F 38).toInt
    · have c38 := nz_bx hB (k := 38) (lo := 0) (hi := 11) rfl
      exact k0tm_27_p0 hd F X1 X2 hB (by first | exact g0 | (simp only [nz_c]; exact g0)) (by first | exact g1 | (simp only [nz_c]; exact g1)) (fun F1 g  => k0 g0 g1 F1 (nz_in0 hB [] (fun j hj hn => g j hj (by simp only [List.mem_cons, List.not_mem_nil, or_false, not_or] at hn; exact trivial)) (List.forall_mem_nil _)) (fun j hj hn => g j hj (by simp only [List.mem_cons, List.not_mem_nil, or_false, not_or] at hn; exact trivial)) (nz_fi (g 33 (by decide) (by decide))) (nz_fi (g 34 (by decide) (by decide))) (nz_fi (g 36 (by decide) (by decide))) (nz_fi (g 37 (by decide) (by decide))) (nz_fi (g 38 (by decide) (by decide))) (nz_fa (g 39 (by decide) (by decide))) (nz_fa (g 40 (by decide) (by decide))) (nz_fl (g 43 (by decide) (by decide))))
    replace g1 : (sy_i F 38).toInt < 11 := by omega
    have c38 := nz_bx hB (k := 38) (lo := 0) (hi := 11) rfl
    have n85 : ((sy_i F 38) + ((1 : Int32))).toInt = ((sy_i F 38).toInt + 1) := nz_add (rfl : (sy_i F 38).toInt = (sy_i F 38).toInt) (by decide : ((1 : Int32)).toInt = 1) (by omega) (by omega)
    have w84 : jm_updL (sy_al F 43) (sy_i F 38).toNatClampNeg (sy_l F 82) = jm_updL (sy_al F 43) ((sy_i F 38).toInt).toNat (sy_l F 82) := by simp only [nz_c]
    exact k0tm_27_p1 hd F X1 X2 hB (by first | exact g0 | (simp only [nz_c]; exact g0)) (by first | exact g1 | (simp only [nz_c]; exact g1)) (by first | exact ⟨by omega, by omega⟩ | (simp only [nz_c]; exact ⟨by omega, by omega⟩)) (fun F1 g e38 e43 => k1 g0 g1 F1 (nz_in0 hB [38, 43] (fun j hj hn => g j hj (by simp only [List.mem_cons, List.not_mem_nil, or_false, not_or] at hn; omega)) (List.forall_mem_cons.mpr ⟨fun t ht => (Option.some.inj ht) ▸ (nz_hi e38 n85 (by omega) (by omega)), List.forall_mem_cons.mpr ⟨fun t ht => (Option.some.inj ht) ▸ (nz_hz3 e43), List.forall_mem_nil _⟩⟩)) (fun j hj hn => g j hj (by simp only [List.mem_cons, List.not_mem_nil, or_false, not_or] at hn; omega)) (nz_fi (g 33 (by decide) (by decide))) (nz_fi (g 34 (by decide) (by decide))) (nz_fi (g 36 (by decide) (by decide))) (nz_fi (g 37 (by decide) (by decide))) ((congrArg Int32.toInt (zz_i e38)).trans n85) (nz_fa (g 39 (by decide) (by decide))) (nz_fa (g 40 (by decide) (by decide))) ((zz_al e43).trans w84))
  replace g0 : (sy_i F 83).toInt < (sy_i F 38).toInt := by omega
  by_cases g1 : (lg_cmp ((sy_al F 43).getD ((sy_i F 83).toInt).toNat 0) (sy_l F 82)).toInt ≠ 0
  · have c38 := nz_bx hB (k := 38) (lo := 0) (hi := 11) rfl
    have q85 : lg_cmp ((sy_al F 43).getD (sy_i F 83).toNatClampNeg 0) (sy_l F 82) = lg_cmp ((sy_al F 43).getD ((sy_i F 83).toInt).toNat 0) (sy_l F 82) := by simp only [nz_c]
    have n85 : (lg_cmp ((sy_al F 43).getD (sy_i F 83).toNatClampNeg 0) (sy_l F 82)).toInt = (lg_cmp ((sy_al F 43).getD ((sy_i F 83).toInt).toNat 0) (sy_l F 82)).toInt := congrArg Int32.toInt q85
    have n86 : ((sy_i F 83) + ((1 : Int32))).toInt = ((sy_i F 83).toInt + 1) := nz_add (rfl : (sy_i F 83).toInt = (sy_i F 83).toInt) (by decide : ((1 : Int32)).toInt = 1) (by omega) (by omega)
    exact k0tm_27_p2 hd F X1 X2 hB (by first | exact g0 | (simp only [nz_c]; exact g0)) (by first | exact ⟨by omega, by omega⟩ | (simp only [nz_c]; exact ⟨by omega, by omega⟩)) (by first | exact g1 | (simp only [nz_c]; exact g1) | (rw [n85]; exact g1)) (fun F1 g e82 e83 => k2 g0 g1 F1 (nz_in0 hB [] (fun j hj hn => g j hj (by simp only [List.mem_cons, List.not_mem_nil, or_false, not_or] at hn; exact trivial)) (List.forall_mem_nil _)) (fun j hj hn => g j hj (by simp only [List.mem_cons, List.not_mem_nil, or_false, not_or] at hn; exact trivial)) (nz_fi (g 33 (by decide) (by decide))) (nz_fi (g 34 (by decide) (by decide))) (nz_fi (g 36 (by decide) (by decide))) (nz_fi (g 37 (by decide) (by decide))) (nz_fi (g 38 (by decide) (by decide))) (nz_fa (g 39 (by decide) (by decide))) (nz_fa (g 40 (by decide) (by decide))) (nz_fl (g 43 (by decide) (by decide))) ((zz_l e82).trans (rfl : sy_l F 82 = sy_l F 82)) ((congrArg Int32.toInt (zz_i e83)).trans n86))
  replace g1 : (lg_cmp ((sy_al F 43).getD ((sy_i F 83).toInt).toNat 0) (sy_l F 82)).toInt = 0 := by omega
  by_cases g2 : (sy_i F 36).toInt ≠ 0
  · have c38 := nz_bx hB (k := 38) (lo := 0) (hi := 11) rfl
    have q85 : lg_cmp ((sy_al F 43).getD (sy_i F 83).toNatClampNeg 0) (sy_l F 82) = lg_cmp ((sy_al F 43).getD ((sy_i F 83).toInt).toNat 0) (sy_l F 82) := by simp only [nz_c]
    have n85 : (lg_cmp ((sy_al F 43).getD (sy_i F 83).toNatClampNeg 0) (sy_l F 82)).toInt = (lg_cmp ((sy_al F 43).getD ((sy_i F 83).toInt).toNat 0) (sy_l F 82)).toInt := congrArg Int32.toInt q85
    exact k0tm_27_p3 hd F X1 X2 hB (by first | exact g0 | (simp only [nz_c]; exact g0)) (by first | exact ⟨by omega, by omega⟩ | (simp only [nz_c]; exact ⟨by omega, by omega⟩)) (by first | exact g1 | (simp only [nz_c]; exact g1) | (rw [n85]; exact g1)) (by first | exact g2 | (simp only [nz_c]; exact g2)) (fun F1 g  => k3 g0 g1 g2 F1 (nz_in0 hB [] (fun j hj hn => g j hj (by simp only [List.mem_cons, List.not_mem_nil, or_false, not_or] at hn; exact trivial)) (List.forall_mem_nil _)) (fun j hj hn => g j hj (by simp only [List.mem_cons, List.not_mem_nil, or_false, not_or] at hn; exact trivial)) (nz_fi (g 33 (by decide) (by decide))) (nz_fi (g 34 (by decide) (by decide))) (nz_fi (g 36 (by decide) (by decide))) (nz_fi (g 37 (by decide) (by decide))) (nz_fi (g 38 (by decide) (by decide))) (nz_fa (g 39 (by decide) (by decide))) (nz_fa (g 40 (by decide) (by decide))) (nz_fl (g 43 (by decide) (by decide))))
  replace g2 : (sy_i F 36).toInt = 0 := by omega
  by_cases g3 : ((sy_i F 33).toInt - 1) < 0
  · have c38 := nz_bx hB (k := 38) (lo := 0) (hi := 11) rfl
    have q85 : lg_cmp ((sy_al F 43).getD (sy_i F 83).toNatClampNeg 0) (sy_l F 82) = lg_cmp ((sy_al F 43).getD ((sy_i F 83).toInt).toNat 0) (sy_l F 82) := by simp only [nz_c]
    have n85 : (lg_cmp ((sy_al F 43).getD (sy_i F 83).toNatClampNeg 0) (sy_l F 82)).toInt = (lg_cmp ((sy_al F 43).getD ((sy_i F 83).toInt).toNat 0) (sy_l F 82)).toInt := congrArg Int32.toInt q85
    have c33 := nz_bx hB (k := 33) (lo := 0) (hi := 400) rfl
    have n86 : ((sy_i F 33) - ((1 : Int32))).toInt = ((sy_i F 33).toInt - 1) := nz_sub (rfl : (sy_i F 33).toInt = (sy_i F 33).toInt) (by decide : ((1 : Int32)).toInt = 1) (by omega) (by omega)
    exact k0tm_27_p4 hd F X1 X2 hB (by first | exact g0 | (simp only [nz_c]; exact g0)) (by first | exact ⟨by omega, by omega⟩ | (simp only [nz_c]; exact ⟨by omega, by omega⟩)) (by first | exact g1 | (simp only [nz_c]; exact g1) | (rw [n85]; exact g1)) (by first | exact g2 | (simp only [nz_c]; exact g2)) (by first | exact g3 | (simp only [nz_c, n86]; exact g3) | (rw [n86]; exact g3)) (fun F1 g e36 e37 => k4 g0 g1 g2 g3 F1 (nz_in0 hB [36, 37] (fun j hj hn => g j hj (by simp only [List.mem_cons, List.not_mem_nil, or_false, not_or] at hn; omega)) (List.forall_mem_cons.mpr ⟨fun t ht => (Option.some.inj ht) ▸ (nz_hz e36), List.forall_mem_cons.mpr ⟨fun t ht => (Option.some.inj ht) ▸ (nz_hz e37), List.forall_mem_nil _⟩⟩)) (fun j hj hn => g j hj (by simp only [List.mem_cons, List.not_mem_nil, or_false, not_or] at hn; omega)) (nz_fi (g 33 (by decide) (by decide))) (nz_fi (g 34 (by decide) (by decide))) ((congrArg Int32.toInt (zz_i e36)).trans (by decide : ((3 : Int32)).toInt = 3)) ((congrArg Int32.toInt (zz_i e37)).trans (by decide : ((0 : Int32)).toInt = 0)) (nz_fi (g 38 (by decide) (by decide))) (nz_fa (g 39 (by decide) (by decide))) (nz_fa (g 40 (by decide) (by decide))) (nz_fl (g 43 (by decide) (by decide))))
  replace g3 : 0 ≤ ((sy_i F 33).toInt - 1) := by omega
  by_cases g4 : 400 < ((sy_i F 33).toInt - 1)
  · have c38 := nz_bx hB (k := 38) (lo := 0) (hi := 11) rfl
    have q85 : lg_cmp ((sy_al F 43).getD (sy_i F 83).toNatClampNeg 0) (sy_l F 82) = lg_cmp ((sy_al F 43).getD ((sy_i F 83).toInt).toNat 0) (sy_l F 82) := by simp only [nz_c]
    have n85 : (lg_cmp ((sy_al F 43).getD (sy_i F 83).toNatClampNeg 0) (sy_l F 82)).toInt = (lg_cmp ((sy_al F 43).getD ((sy_i F 83).toInt).toNat 0) (sy_l F 82)).toInt := congrArg Int32.toInt q85
    have c33 := nz_bx hB (k := 33) (lo := 0) (hi := 400) rfl
    have n86 : ((sy_i F 33) - ((1 : Int32))).toInt = ((sy_i F 33).toInt - 1) := nz_sub (rfl : (sy_i F 33).toInt = (sy_i F 33).toInt) (by decide : ((1 : Int32)).toInt = 1) (by omega) (by omega)
    exfalso
    omega
  replace g4 : ((sy_i F 33).toInt - 1) ≤ 400 := by omega
  have c38 := nz_bx hB (k := 38) (lo := 0) (hi := 11) rfl
  have q85 : lg_cmp ((sy_al F 43).getD (sy_i F 83).toNatClampNeg 0) (sy_l F 82) = lg_cmp ((sy_al F 43).getD ((sy_i F 83).toInt).toNat 0) (sy_l F 82) := by simp only [nz_c]
  have n85 : (lg_cmp ((sy_al F 43).getD (sy_i F 83).toNatClampNeg 0) (sy_l F 82)).toInt = (lg_cmp ((sy_al F 43).getD ((sy_i F 83).toInt).toNat 0) (sy_l F 82)).toInt := congrArg Int32.toInt q85
  have c33 := nz_bx hB (k := 33) (lo := 0) (hi := 400) rfl
  have n86 : ((sy_i F 33) - ((1 : Int32))).toInt = ((sy_i F 33).toInt - 1) := nz_sub (rfl : (sy_i F 33).toInt = (sy_i F 33).toInt) (by decide : ((1 : Int32)).toInt = 1) (by omega) (by omega)
  have q87 : (sy_ai F 40).getD ((sy_i F 33) - ((1 : Int32))).toNatClampNeg 0 = (sy_ai F 40).getD (((sy_i F 33).toInt - 1)).toNat 0 := by simp only [nz_c, n86, (by decide : ((1 : Int32)).toInt = 1)]
  have n87 : ((sy_ai F 40).getD ((sy_i F 33) - ((1 : Int32))).toNatClampNeg 0).toInt = ((sy_ai F 40).getD (((sy_i F 33).toInt - 1)).toNat 0).toInt := congrArg Int32.toInt q87
  exact k0tm_27_p5 hd F X1 X2 hB (by first | exact g0 | (simp only [nz_c]; exact g0)) (by first | exact ⟨by omega, by omega⟩ | (simp only [nz_c]; exact ⟨by omega, by omega⟩)) (by first | exact g1 | (simp only [nz_c]; exact g1) | (rw [n85]; exact g1)) (by first | exact g2 | (simp only [nz_c]; exact g2)) (by first | exact g3 | (simp only [nz_c, n86]; exact g3) | (rw [n86]; exact g3)) (by first | exact g4 | (simp only [nz_c, n86]; exact g4) | (rw [n86]; exact g4)) (by first | exact ⟨by omega, by omega⟩ | (simp only [nz_c, n86]; exact ⟨by omega, by omega⟩) | (rw [n86]; exact ⟨by omega, by omega⟩)) (fun F1 g e36 e37 => k5 g0 g1 g2 g3 g4 F1 (nz_in0 hB [36, 37] (fun j hj hn => g j hj (by simp only [List.mem_cons, List.not_mem_nil, or_false, not_or] at hn; omega)) (List.forall_mem_cons.mpr ⟨fun t ht => (Option.some.inj ht) ▸ (nz_hz e36), List.forall_mem_cons.mpr ⟨fun t ht => (Option.some.inj ht) ▸ (nz_hz e37), List.forall_mem_nil _⟩⟩)) (fun j hj hn => g j hj (by simp only [List.mem_cons, List.not_mem_nil, or_false, not_or] at hn; omega)) (nz_fi (g 33 (by decide) (by decide))) (nz_fi (g 34 (by decide) (by decide))) ((congrArg Int32.toInt (zz_i e36)).trans (by decide : ((3 : Int32)).toInt = 3)) ((congrArg Int32.toInt (zz_i e37)).trans n87) (nz_fi (g 38 (by decide) (by decide))) (nz_fa (g 39 (by decide) (by decide))) (nz_fa (g 40 (by decide) (by decide))) (nz_fl (g 43 (by decide) (by decide))))
end
section
/-! ===== the class parses, way by way (shape 3) ===== -/
theorem k3ta_0_p0 {Ls : Nat} {xs : Nat → Int32} {d : Nat} {Q : Option Value → jm_h → Prop} (hd : 3 ≤ d) (F : Nat → sy_d) (X1 X2 : List jm_c) (hB : iv_in F iv_B0)
    (h0 : 0 ≤ (sy_i F 33).toInt)
    (h1 : (sy_i F 33).toInt ≤ 400)
    (h2 : 0 ≤ (sy_i F 33).toInt ∧ (sy_i F 33).toInt < 401)
    (h3 : ((sy_ai F 39).getD (sy_i F 33).toNatClampNeg 0).toInt = (sy_i F 82).toInt)
    (h4 : (sy_i F 33).toInt < 400)
    (k : ∀ F1 : Nat → sy_d, (∀ j, j < 82 → j ≠ 33 → F1 j = F j) → F1 33 = .inl (.int ((sy_i F 33) + ((1 : Int32)))) → Q (some (.int ((1 : Int32)))) (sy_dh F1 X1 X2 (iv_H 3))) :
    hd_W Ls xs d jm_M43 Q (0, sy_dL F [some (.inl (.ref 30)), some (.inr (.inl 82))], sy_dS F [], sy_dh F X1 X2 (iv_H 3), 0, 0) := by
  refine hd_ret (s := 3) (nv := 83) (v := some (.inl (.int 1))) (uh := hd_ov (iv_id 0 iv_B0) [(33, .inl (.inr (.inl 84)))]) (f := true) (sp := []) (d0 := 2) (O := [false, false, true, true]) (T := [(30, [.inr (.inl 33)], [.inr (.inl 39)]), (0, [.inr (.inl 33), .inl (.int 1)], [])]) (P := [(3, .inr (.inl 33), .inl (.int 0)), (3, .inl (.int 400), .inr (.inl 33)), (6, .inr (.inl 33), .inl (.ref 401)), (0, .inr (.inl 83), .inr (.inl 82)), (2, .inr (.inl 33), .inl (.int 400))]) jm_ok43 (by decide +kernel) (by decide +kernel) hd F X1 X2 (fun F' hF hs => ?_)
  have b33 := hd_b (F := F) (F' := F') (k := 33) (hF 33 (by decide))
  have a39 := hd_ba (F := F) (F' := F') (k := 39) (hF 39 (by decide))
  have t83 : sy_dv F' (.inr (.inl 83)) = .int ((sy_ai F 39).getD (sy_i F 33).toNatClampNeg 0) := hd_rd (hs 0 _ rfl) b33 a39
  have b82 := hd_b (F := F) (F' := F') (k := 82) (hF 82 (by decide))
  have t84 : sy_dv F' (.inr (.inl 84)) = .int ((sy_i F 33) + ((1 : Int32))) := hd_o (hs 1 _ rfl) b33 rfl rfl
  have hB' : iv_in F' iv_B0 := iv_in_eq hB (fun j hj => hF j (Nat.lt_of_lt_of_le hj (by decide +kernel)))
  refine ⟨List.forall_mem_cons.mpr ⟨hd_p3 b33 rfl (by have hc : ((0) : Int32).toInt = 0 := (by decide); omega), List.forall_mem_cons.mpr ⟨hd_p3 rfl b33 (by have hc : ((400) : Int32).toInt = 400 := (by decide); omega), List.forall_mem_cons.mpr ⟨hd_pb b33 (by first | exact h2 | exact h2), List.forall_mem_cons.mpr ⟨hd_p0 t83 b82 h3, List.forall_mem_cons.mpr ⟨hd_p2 b33 rfl (by have hc : ((400) : Int32).toInt = 400 := (by decide); omega), fun _ h => absurd h List.not_mem_nil⟩⟩⟩⟩⟩, ?_⟩
  refine k _ ?_ ?_
  · exact fun j hj hn => (hd_keep hB' (Nat.lt_of_lt_of_le hj (by decide +kernel)) (by simp; omega)).trans (hF j (Nat.lt_of_lt_of_le hj (by decide)))
  · exact hd_gi (x := .inr (.inl 84)) (by decide +kernel) t84
theorem k3ta_0_p1 {Ls : Nat} {xs : Nat → Int32} {d : Nat} {Q : Option Value → jm_h → Prop} (hd : 3 ≤ d) (F : Nat → sy_d) (X1 X2 : List jm_c) (hB : iv_in F iv_B0)
    (h0 : 0 ≤ (sy_i F 33).toInt)
    (h1 : (sy_i F 33).toInt ≤ 400)
    (h2 : 0 ≤ (sy_i F 33).toInt ∧ (sy_i F 33).toInt < 401)
    (h3 : ((sy_ai F 39).getD (sy_i F 33).toNatClampNeg 0).toInt = (sy_i F 82).toInt)
    (h4 : 400 ≤ (sy_i F 33).toInt)
    (k : ∀ F1 : Nat → sy_d, (∀ j, j < 82 → j ≠ 34 → F1 j = F j) → F1 34 = .inl (.int ((2 : Int32))) → Q (some (.int ((0 : Int32)))) (sy_dh F1 X1 X2 (iv_H 3))) :
    hd_W Ls xs d jm_M43 Q (0, sy_dL F [some (.inl (.ref 30)), some (.inr (.inl 82))], sy_dS F [], sy_dh F X1 X2 (iv_H 3), 0, 0) := by
  refine hd_ret (s := 3) (nv := 83) (v := some (.inl (.int 0))) (uh := hd_ov (iv_id 0 iv_B0) [(34, .inl (.inl (.int 2)))]) (f := true) (sp := []) (d0 := 2) (O := [false, false, true, false]) (T := [(30, [.inr (.inl 33)], [.inr (.inl 39)])]) (P := [(3, .inr (.inl 33), .inl (.int 0)), (3, .inl (.int 400), .inr (.inl 33)), (6, .inr (.inl 33), .inl (.ref 401)), (0, .inr (.inl 83), .inr (.inl 82)), (3, .inr (.inl 33), .inl (.int 400))]) jm_ok43 (by decide +kernel) (by decide +kernel) hd F X1 X2 (fun F' hF hs => ?_)
  have b33 := hd_b (F := F) (F' := F') (k := 33) (hF 33 (by decide))
  have a39 := hd_ba (F := F) (F' := F') (k := 39) (hF 39 (by decide))
  have t83 : sy_dv F' (.inr (.inl 83)) = .int ((sy_ai F 39).getD (sy_i F 33).toNatClampNeg 0) := hd_rd (hs 0 _ rfl) b33 a39
  have b82 := hd_b (F := F) (F' := F') (k := 82) (hF 82 (by decide))
  have hB' : iv_in F' iv_B0 := iv_in_eq hB (fun j hj => hF j (Nat.lt_of_lt_of_le hj (by decide +kernel)))
  refine ⟨List.forall_mem_cons.mpr ⟨hd_p3 b33 rfl (by have hc : ((0) : Int32).toInt = 0 := (by decide); omega), List.forall_mem_cons.mpr ⟨hd_p3 rfl b33 (by have hc : ((400) : Int32).toInt = 400 := (by decide); omega), List.forall_mem_cons.mpr ⟨hd_pb b33 (by first | exact h2 | exact h2), List.forall_mem_cons.mpr ⟨hd_p0 t83 b82 h3, List.forall_mem_cons.mpr ⟨hd_p3 b33 rfl (by have hc : ((400) : Int32).toInt = 400 := (by decide); omega), fun _ h => absurd h List.not_mem_nil⟩⟩⟩⟩⟩, ?_⟩
  refine k _ ?_ ?_
  · exact fun j hj hn => (hd_keep hB' (Nat.lt_of_lt_of_le hj (by decide +kernel)) (by simp; omega)).trans (hF j (Nat.lt_of_lt_of_le hj (by decide)))
  · exact hd_gi (x := .inl (.int 2)) (by decide +kernel) rfl
theorem k3ta_0_p2 {Ls : Nat} {xs : Nat → Int32} {d : Nat} {Q : Option Value → jm_h → Prop} (hd : 3 ≤ d) (F : Nat → sy_d) (X1 X2 : List jm_c) (hB : iv_in F iv_B0)
    (h0 : 0 ≤ (sy_i F 33).toInt)
    (h1 : (sy_i F 33).toInt ≤ 400)
    (h2 : 0 ≤ (sy_i F 33).toInt ∧ (sy_i F 33).toInt < 401)
    (h3 : ((sy_ai F 39).getD (sy_i F 33).toNatClampNeg 0).toInt ≠ (sy_i F 82).toInt)
    (k : ∀ F1 : Nat → sy_d, (∀ j, j < 82 → j ≠ 34 → F1 j = F j) → F1 34 = .inl (.int ((1 : Int32))) → Q (some (.int ((0 : Int32)))) (sy_dh F1 X1 X2 (iv_H 3))) :
    hd_W Ls xs d jm_M43 Q (0, sy_dL F [some (.inl (.ref 30)), some (.inr (.inl 82))], sy_dS F [], sy_dh F X1 X2 (iv_H 3), 0, 0) := by
  refine hd_ret (s := 3) (nv := 83) (v := some (.inl (.int 0))) (uh := hd_ov (iv_id 0 iv_B0) [(34, .inl (.inl (.int 1)))]) (f := true) (sp := []) (d0 := 2) (O := [false, false, false]) (T := [(30, [.inr (.inl 33)], [.inr (.inl 39)])]) (P := [(3, .inr (.inl 33), .inl (.int 0)), (3, .inl (.int 400), .inr (.inl 33)), (6, .inr (.inl 33), .inl (.ref 401)), (1, .inr (.inl 83), .inr (.inl 82))]) jm_ok43 (by decide +kernel) (by decide +kernel) hd F X1 X2 (fun F' hF hs => ?_)
  have b33 := hd_b (F := F) (F' := F') (k := 33) (hF 33 (by decide))
  have a39 := hd_ba (F := F) (F' := F') (k := 39) (hF 39 (by decide))
  have t83 : sy_dv F' (.inr (.inl 83)) = .int ((sy_ai F 39).getD (sy_i F 33).toNatClampNeg 0) := hd_rd (hs 0 _ rfl) b33 a39
  have b82 := hd_b (F := F) (F' := F') (k := 82) (hF 82 (by decide))
  have hB' : iv_in F' iv_B0 := iv_in_eq hB (fun j hj => hF j (Nat.lt_of_lt_of_le hj (by decide +kernel)))
  refine ⟨List.forall_mem_cons.mpr ⟨hd_p3 b33 rfl (by have hc : ((0) : Int32).toInt = 0 := (by decide); omega), List.forall_mem_cons.mpr ⟨hd_p3 rfl b33 (by have hc : ((400) : Int32).toInt = 400 := (by decide); omega), List.forall_mem_cons.mpr ⟨hd_pb b33 (by first | exact h2 | exact h2), List.forall_mem_cons.mpr ⟨hd_p1 t83 b82 h3, fun _ h => absurd h List.not_mem_nil⟩⟩⟩⟩, ?_⟩
  refine k _ ?_ ?_
  · exact fun j hj hn => (hd_keep hB' (Nat.lt_of_lt_of_le hj (by decide +kernel)) (by simp; omega)).trans (hF j (Nat.lt_of_lt_of_le hj (by decide)))
  · exact hd_gi (x := .inl (.int 1)) (by decide +kernel) rfl
theorem k3ta_0 {Ls : Nat} {xs : Nat → Int32} {d : Nat} {Q : Option Value → jm_h → Prop} (hd : 3 ≤ d) (F : Nat → sy_d) (X1 X2 : List jm_c) (hB : iv_in F iv_B0)
    (k0 : 0 ≤ (sy_i F 33).toInt → (sy_i F 33).toInt ≤ 400 → ((sy_ai F 39).getD ((sy_i F 33).toInt).toNat 0).toInt = (sy_i F 82).toInt → (sy_i F 33).toInt < 400 → ∀ F1 : Nat → sy_d, iv_in F1 iv_B0 → (∀ j, j < 82 → j ∉ ([33] : List Nat) → F1 j = F j) → (sy_i F1 33).toInt = ((sy_i F 33).toInt + 1) → (sy_i F1 34).toInt = (sy_i F 34).toInt → (sy_i F1 36).toInt = (sy_i F 36).toInt → (sy_i F1 37).toInt = (sy_i F 37).toInt → (sy_i F1 38).toInt = (sy_i F 38).toInt → sy_ai F1 39 = sy_ai F 39 → sy_ai F1 40 = sy_ai F 40 → Q (some (.int ((1 : Int32)))) (sy_dh F1 X1 X2 (iv_H 3)))
    (k1 : 0 ≤ (sy_i F 33).toInt → (sy_i F 33).toInt ≤ 400 → ((sy_ai F 39).getD ((sy_i F 33).toInt).toNat 0).toInt = (sy_i F 82).toInt → 400 ≤ (sy_i F 33).toInt → ∀ F1 : Nat → sy_d, iv_in F1 iv_B0 → (∀ j, j < 82 → j ∉ ([34] : List Nat) → F1 j = F j) → (sy_i F1 33).toInt = (sy_i F 33).toInt → (sy_i F1 34).toInt = 2 → (sy_i F1 36).toInt = (sy_i F 36).toInt → (sy_i F1 37).toInt = (sy_i F 37).toInt → (sy_i F1 38).toInt = (sy_i F 38).toInt → sy_ai F1 39 = sy_ai F 39 → sy_ai F1 40 = sy_ai F 40 → Q (some (.int ((0 : Int32)))) (sy_dh F1 X1 X2 (iv_H 3)))
    (k2 : 0 ≤ (sy_i F 33).toInt → (sy_i F 33).toInt ≤ 400 → ((sy_ai F 39).getD ((sy_i F 33).toInt).toNat 0).toInt ≠ (sy_i F 82).toInt → ∀ F1 : Nat → sy_d, iv_in F1 iv_B0 → (∀ j, j < 82 → j ∉ ([34] : List Nat) → F1 j = F j) → (sy_i F1 33).toInt = (sy_i F 33).toInt → (sy_i F1 34).toInt = 1 → (sy_i F1 36).toInt = (sy_i F 36).toInt → (sy_i F1 37).toInt = (sy_i F 37).toInt → (sy_i F1 38).toInt = (sy_i F 38).toInt → sy_ai F1 39 = sy_ai F 39 → sy_ai F1 40 = sy_ai F 40 → Q (some (.int ((0 : Int32)))) (sy_dh F1 X1 X2 (iv_H 3))) :
    hd_W Ls xs d jm_M43 Q (0, sy_dL F [some (.inl (.ref 30)), some (.inr (.inl 82))], sy_dS F [], sy_dh F X1 X2 (iv_H 3), 0, 0) := by
  by_cases g0 : (sy_i F 33).toInt < 0
  · have c33 := nz_bx hB (k := 33) (lo := 0) (hi := 400) rfl
    exfalso
    omega
  replace g0 : 0 ≤ (sy_i F 33).toInt := by omega
  by_cases g1 : 400 < (sy_i F 33).toInt
  · have c33 := nz_bx hB (k := 33) (lo := 0) (hi := 400) rfl
    exfalso
    omega
  replace g1 : (sy_i F 33).toInt ≤ 400 := by omega
  by_cases g2 : ((sy_ai F 39).getD ((sy_i F 33).toInt).toNat 0).toInt = (sy_i F 82).toInt
  · by_cases g3 : (sy_i F 33).toInt < 400
    · have c33 := nz_bx hB (k := 33) (lo := 0) (hi := 400) rfl
      have q83 : (sy_ai F 39).getD (sy_i F 33).toNatClampNeg 0 = (sy_ai F 39).getD ((sy_i F 33).toInt).toNat 0 := by simp only [nz_c]
      have n83 : ((sy_ai F 39).getD (sy_i F 33).toNatClampNeg 0).toInt = ((sy_ai F 39).getD ((sy_i F 33).toInt).toNat 0).toInt := congrArg Int32.toInt q83
      have n84 : ((sy_i F 33) + ((1 : Int32))).toInt = ((sy_i F 33).toInt + 1) := nz_add (rfl : (sy_i F 33).toInt = (sy_i F 33).toInt) (by decide : ((1 : Int32)).toInt = 1) (by omega) (by omega)
      exact k3ta_0_p0 hd F X1 X2 hB (by first | exact g0 | (simp only [nz_c]; exact g0)) (by first | exact g1 | (simp only [nz_c]; exact g1)) (by first | exact ⟨by omega, by omega⟩ | (simp only [nz_c]; exact ⟨by omega, by omega⟩)) (by first | exact g2 | (simp only [nz_c]; exact g2) | (rw [n83]; exact g2)) (by first | exact g3 | (simp only [nz_c]; exact g3)) (fun F1 g e33 => k0 g0 g1 g2 g3 F1 (nz_in0 hB [33] (fun j hj hn => g j hj (by simp only [List.mem_cons, List.not_mem_nil, or_false, not_or] at hn; omega)) (List.forall_mem_cons.mpr ⟨fun t ht => (Option.some.inj ht) ▸ (nz_hi e33 n84 (by omega) (by omega)), List.forall_mem_nil _⟩)) (fun j hj hn => g j hj (by simp only [List.mem_cons, List.not_mem_nil, or_false, not_or] at hn; omega)) ((congrArg Int32.toInt (zz_i e33)).trans n84) (nz_fi (g 34 (by decide) (by decide))) (nz_fi (g 36 (by decide) (by decide))) (nz_fi (g 37 (by decide) (by decide))) (nz_fi (g 38 (by decide) (by decide))) (nz_fa (g 39 (by decide) (by decide))) (nz_fa (g 40 (by decide) (by decide))))
    replace g3 : 400 ≤ (sy_i F 33).toInt := by omega
    have c33 := nz_bx hB (k := 33) (lo := 0) (hi := 400) rfl
    have q83 : (sy_ai F 39).getD (sy_i F 33).toNatClampNeg 0 = (sy_ai F 39).getD ((sy_i F 33).toInt).toNat 0 := by simp only [nz_c]
    have n83 : ((sy_ai F 39).getD (sy_i F 33).toNatClampNeg 0).toInt = ((sy_ai F 39).getD ((sy_i F 33).toInt).toNat 0).toInt := congrArg Int32.toInt q83
    exact k3ta_0_p1 hd F X1 X2 hB (by first | exact g0 | (simp only [nz_c]; exact g0)) (by first | exact g1 | (simp only [nz_c]; exact g1)) (by first | exact ⟨by omega, by omega⟩ | (simp only [nz_c]; exact ⟨by omega, by omega⟩)) (by first | exact g2 | (simp only [nz_c]; exact g2) | (rw [n83]; exact g2)) (by first | exact g3 | (simp only [nz_c]; exact g3)) (fun F1 g e34 => k1 g0 g1 g2 g3 F1 (nz_in0 hB [34] (fun j hj hn => g j hj (by simp only [List.mem_cons, List.not_mem_nil, or_false, not_or] at hn; omega)) (List.forall_mem_cons.mpr ⟨fun t ht => (Option.some.inj ht) ▸ (nz_hz e34), List.forall_mem_nil _⟩)) (fun j hj hn => g j hj (by simp only [List.mem_cons, List.not_mem_nil, or_false, not_or] at hn; omega)) (nz_fi (g 33 (by decide) (by decide))) ((congrArg Int32.toInt (zz_i e34)).trans (by decide : ((2 : Int32)).toInt = 2)) (nz_fi (g 36 (by decide) (by decide))) (nz_fi (g 37 (by decide) (by decide))) (nz_fi (g 38 (by decide) (by decide))) (nz_fa (g 39 (by decide) (by decide))) (nz_fa (g 40 (by decide) (by decide))))
  replace g2 : ((sy_ai F 39).getD ((sy_i F 33).toInt).toNat 0).toInt ≠ (sy_i F 82).toInt := by omega
  have c33 := nz_bx hB (k := 33) (lo := 0) (hi := 400) rfl
  have q83 : (sy_ai F 39).getD (sy_i F 33).toNatClampNeg 0 = (sy_ai F 39).getD ((sy_i F 33).toInt).toNat 0 := by simp only [nz_c]
  have n83 : ((sy_ai F 39).getD (sy_i F 33).toNatClampNeg 0).toInt = ((sy_ai F 39).getD ((sy_i F 33).toInt).toNat 0).toInt := congrArg Int32.toInt q83
  exact k3ta_0_p2 hd F X1 X2 hB (by first | exact g0 | (simp only [nz_c]; exact g0)) (by first | exact g1 | (simp only [nz_c]; exact g1)) (by first | exact ⟨by omega, by omega⟩ | (simp only [nz_c]; exact ⟨by omega, by omega⟩)) (by first | exact g2 | (simp only [nz_c]; exact g2) | (rw [n83]; exact g2)) (fun F1 g e34 => k2 g0 g1 g2 F1 (nz_in0 hB [34] (fun j hj hn => g j hj (by simp only [List.mem_cons, List.not_mem_nil, or_false, not_or] at hn; omega)) (List.forall_mem_cons.mpr ⟨fun t ht => (Option.some.inj ht) ▸ (nz_hz e34), List.forall_mem_nil _⟩)) (fun j hj hn => g j hj (by simp only [List.mem_cons, List.not_mem_nil, or_false, not_or] at hn; omega)) (nz_fi (g 33 (by decide) (by decide))) ((congrArg Int32.toInt (zz_i e34)).trans (by decide : ((1 : Int32)).toInt = 1)) (nz_fi (g 36 (by decide) (by decide))) (nz_fi (g 37 (by decide) (by decide))) (nz_fi (g 38 (by decide) (by decide))) (nz_fa (g 39 (by decide) (by decide))) (nz_fa (g 40 (by decide) (by decide))))
theorem k3tn_0_p0 {Ls : Nat} {xs : Nat → Int32} {d : Nat} {Q : Option Value → jm_h → Prop} (hd : 4 ≤ d) (F : Nat → sy_d) (X1 X2 : List jm_c) (hB : iv_in F iv_B0)
    (h0 : 0 ≤ (sy_i F 33).toInt)
    (h1 : (sy_i F 33).toInt ≤ 400)
    (h2 : 0 ≤ (sy_i F 33).toInt ∧ (sy_i F 33).toInt < 401)
    (h3 : ((sy_ai F 39).getD (sy_i F 33).toNatClampNeg 0).toInt = 24)
    (h4 : (sy_i F 33).toInt < 400)
    (h5 : 0 ≤ (((sy_i F 33) + ((1 : Int32))) - ((1 : Int32))).toInt)
    (h6 : (((sy_i F 33) + ((1 : Int32))) - ((1 : Int32))).toInt ≤ 400)
    (h7 : 0 ≤ (((sy_i F 33) + ((1 : Int32))) - ((1 : Int32))).toInt ∧ (((sy_i F 33) + ((1 : Int32))) - ((1 : Int32))).toInt < 401)
    (h8 : (((sy_al F 41).getD (((sy_i F 33) + ((1 : Int32))) - ((1 : Int32))).toNatClampNeg 0).toInt32).toInt < (sy_i F 83).toInt)
    (h9 : (sy_i F 36).toInt ≠ 0)
    (h10 : 0 ≤ (sy_i F 82).toInt)
    (h11 : (sy_i F 82).toInt ≤ 2)
    (h12 : 0 ≤ (sy_i F 82).toInt ∧ (sy_i F 82).toInt < 3)
    (k : ∀ F1 : Nat → sy_d, (∀ j, j < 82 → j ≠ 33 ∧ j ≠ 44 → F1 j = F j) → F1 33 = .inl (.int ((sy_i F 33) + ((1 : Int32)))) → F1 44 = .inr (.inl (jm_upd (sy_ai F 44) (sy_i F 82).toNatClampNeg (((sy_al F 41).getD (((sy_i F 33) + ((1 : Int32))) - ((1 : Int32))).toNatClampNeg 0).toInt32))) → Q (some (.int ((1 : Int32)))) (sy_dh F1 X1 X2 (iv_H 3))) :
    hd_W Ls xs d jm_M42 Q (0, sy_dL F [some (.inl (.ref 30)), some (.inr (.inl 82)), some (.inr (.inl 83)), some (.inr (.inl 84)), none], sy_dS F [], sy_dh F X1 X2 (iv_H 3), 0, 0) := by
  refine hd_ret (s := 3) (nv := 85) (v := some (.inl (.int 1))) (uh := hd_ov (iv_id 0 iv_B0) [(33, .inl (.inr (.inl 86))), (44, .inr (.inr (.inl 90)))]) (f := true) (sp := []) (d0 := 3) (O := [false, false, true, true, false, false, true, true, false, false]) (T := [(30, [.inr (.inl 33)], [.inr (.inl 39)]), (0, [.inr (.inl 33), .inl (.int 1)], []), (1, [.inr (.inl 86), .inl (.int 1)], []), (30, [.inr (.inl 87)], [.inr (.inr 41)]), (25, [.inr (.inr 88)], []), (40, [.inr (.inl 82), .inr (.inl 89)], [.inr (.inl 44)])]) (P := [(3, .inr (.inl 33), .inl (.int 0)), (3, .inl (.int 400), .inr (.inl 33)), (6, .inr (.inl 33), .inl (.ref 401)), (0, .inr (.inl 85), .inl (.int 24)), (2, .inr (.inl 33), .inl (.int 400)), (3, .inr (.inl 87), .inl (.int 0)), (3, .inl (.int 400), .inr (.inl 87)), (6, .inr (.inl 87), .inl (.ref 401)), (2, .inr (.inl 89), .inr (.inl 83)), (1, .inr (.inl 36), .inl (.int 0)), (3, .inr (.inl 82), .inl (.int 0)), (3, .inl (.int 2), .inr (.inl 82)), (6, .inr (.inl 82), .inl (.ref 3))]) jm_ok42 (by decide +kernel) (by decide +kernel) hd F X1 X2 (fun F' hF hs => ?_)
  have b33 := hd_b (F := F) (F' := F') (k := 33) (hF 33 (by decide))
  have a39 := hd_ba (F := F) (F' := F') (k := 39) (hF 39 (by decide))
  have t85 : sy_dv F' (.inr (.inl 85)) = .int ((sy_ai F 39).getD (sy_i F 33).toNatClampNeg 0) := hd_rd (hs 0 _ rfl) b33 a39
  have t86 : sy_dv F' (.inr (.inl 86)) = .int ((sy_i F 33) + ((1 : Int32))) := hd_o (hs 1 _ rfl) b33 rfl rfl
  have t87 : sy_dv F' (.inr (.inl 87)) = .int (((sy_i F 33) + ((1 : Int32))) - ((1 : Int32))) := hd_o (hs 2 _ rfl) t86 rfl rfl
  have a41 := hd_bA (F := F) (F' := F') (k := 41) (hF 41 (by decide))
  have t88 : sy_dv F' (.inr (.inr 88)) = .long ((sy_al F 41).getD (((sy_i F 33) + ((1 : Int32))) - ((1 : Int32))).toNatClampNeg 0) := hd_rL (hs 3 _ rfl) t87 a41
  have t89 : sy_dv F' (.inr (.inl 89)) = .int (((sy_al F 41).getD (((sy_i F 33) + ((1 : Int32))) - ((1 : Int32))).toNatClampNeg 0).toInt32) := hd_uI (hs 4 _ rfl) t88
  have b83 := hd_b (F := F) (F' := F') (k := 83) (hF 83 (by decide))
  have b36 := hd_b (F := F) (F' := F') (k := 36) (hF 36 (by decide))
  have b82 := hd_b (F := F) (F' := F') (k := 82) (hF 82 (by decide))
  have a44 := hd_ba (F := F) (F' := F') (k := 44) (hF 44 (by decide))
  have t90 : sy_da F' (.inr (.inl 90)) = .inl (jm_upd (sy_ai F 44) (sy_i F 82).toNatClampNeg (((sy_al F 41).getD (((sy_i F 33) + ((1 : Int32))) - ((1 : Int32))).toNatClampNeg 0).toInt32)) := hd_up (hs 5 _ rfl) b82 t89 a44
  have hB' : iv_in F' iv_B0 := iv_in_eq hB (fun j hj => hF j (Nat.lt_of_lt_of_le hj (by decide +kernel)))
  refine ⟨List.forall_mem_cons.mpr ⟨hd_p3 b33 rfl (by have hc : ((0) : Int32).toInt = 0 := (by decide); omega), List.forall_mem_cons.mpr ⟨hd_p3 rfl b33 (by have hc : ((400) : Int32).toInt = 400 := (by decide); omega), List.forall_mem_cons.mpr ⟨hd_pb b33 (by first | exact h2 | exact h2), List.forall_mem_cons.mpr ⟨hd_p0 t85 rfl (by have hc : ((24) : Int32).toInt = 24 := (by decide); omega), List.forall_mem_cons.mpr ⟨hd_p2 b33 rfl (by have hc : ((400) : Int32).toInt = 400 := (by decide); omega), List.forall_mem_cons.mpr ⟨hd_p3 t87 rfl (by have hc : ((0) : Int32).toInt = 0 := (by decide); omega), List.forall_mem_cons.mpr ⟨hd_p3 rfl t87 (by have hc : ((400) : Int32).toInt = 400 := (by decide); omega), List.forall_mem_cons.mpr ⟨hd_pb t87 (by first | exact h7 | exact h7), List.forall_mem_cons.mpr ⟨hd_p2 t89 b83 h8, List.forall_mem_cons.mpr ⟨hd_p1 b36 rfl (by have hc : ((0) : Int32).toInt = 0 := (by decide); omega), List.forall_mem_cons.mpr ⟨hd_p3 b82 rfl (by have hc : ((0) : Int32).toInt = 0 := (by decide); omega), List.forall_mem_cons.mpr ⟨hd_p3 rfl b82 (by have hc : ((2) : Int32).toInt = 2 := (by decide); omega), List.forall_mem_cons.mpr ⟨hd_pb b82 (by first | exact h12 | exact h12), fun _ h => absurd h List.not_mem_nil⟩⟩⟩⟩⟩⟩⟩⟩⟩⟩⟩⟩⟩, ?_⟩
  refine k _ ?_ ?_ ?_
  · exact fun j hj hn => (hd_keep hB' (Nat.lt_of_lt_of_le hj (by decide +kernel)) (by simp; omega)).trans (hF j (Nat.lt_of_lt_of_le hj (by decide)))
  · exact hd_gi (x := .inr (.inl 86)) (by decide +kernel) t86
  · exact hd_ga (a := .inr (.inl 90)) (by decide +kernel) t90
theorem k3tn_0_p1 {Ls : Nat} {xs : Nat → Int32} {d : Nat} {Q : Option Value → jm_h → Prop} (hd : 4 ≤ d) (F : Nat → sy_d) (X1 X2 : List jm_c) (hB : iv_in F iv_B0)
    (h0 : 0 ≤ (sy_i F 33).toInt)
    (h1 : (sy_i F 33).toInt ≤ 400)
    (h2 : 0 ≤ (sy_i F 33).toInt ∧ (sy_i F 33).toInt < 401)
    (h3 : ((sy_ai F 39).getD (sy_i F 33).toNatClampNeg 0).toInt = 24)
    (h4 : (sy_i F 33).toInt < 400)
    (h5 : 0 ≤ (((sy_i F 33) + ((1 : Int32))) - ((1 : Int32))).toInt)
    (h6 : (((sy_i F 33) + ((1 : Int32))) - ((1 : Int32))).toInt ≤ 400)
    (h7 : 0 ≤ (((sy_i F 33) + ((1 : Int32))) - ((1 : Int32))).toInt ∧ (((sy_i F 33) + ((1 : Int32))) - ((1 : Int32))).toInt < 401)
    (h8 : (((sy_al F 41).getD (((sy_i F 33) + ((1 : Int32))) - ((1 : Int32))).toNatClampNeg 0).toInt32).toInt < (sy_i F 83).toInt)
    (h9 : (sy_i F 36).toInt = 0)
    (h10 : 0 ≤ (((sy_i F 33) + ((1 : Int32))) - ((1 : Int32))).toInt)
    (h11 : (((sy_i F 33) + ((1 : Int32))) - ((1 : Int32))).toInt ≤ 400)
    (h12 : 0 ≤ (((sy_i F 33) + ((1 : Int32))) - ((1 : Int32))).toInt ∧ (((sy_i F 33) + ((1 : Int32))) - ((1 : Int32))).toInt < 401)
    (h13 : 0 ≤ (sy_i F 82).toInt)
    (h14 : (sy_i F 82).toInt ≤ 2)
    (h15 : 0 ≤ (sy_i F 82).toInt ∧ (sy_i F 82).toInt < 3)
    (k : ∀ F1 : Nat → sy_d, (∀ j, j < 82 → j ≠ 33 ∧ j ≠ 36 ∧ j ≠ 37 ∧ j ≠ 44 → F1 j = F j) → F1 33 = .inl (.int ((sy_i F 33) + ((1 : Int32)))) → F1 36 = .inl (.int ((5 : Int32))) → F1 37 = .inl (.int ((sy_ai F 40).getD (((sy_i F 33) + ((1 : Int32))) - ((1 : Int32))).toNatClampNeg 0)) → F1 44 = .inr (.inl (jm_upd (sy_ai F 44) (sy_i F 82).toNatClampNeg (((sy_al F 41).getD (((sy_i F 33) + ((1 : Int32))) - ((1 : Int32))).toNatClampNeg 0).toInt32))) → Q (some (.int ((1 : Int32)))) (sy_dh F1 X1 X2 (iv_H 3))) :
    hd_W Ls xs d jm_M42 Q (0, sy_dL F [some (.inl (.ref 30)), some (.inr (.inl 82)), some (.inr (.inl 83)), some (.inr (.inl 84)), none], sy_dS F [], sy_dh F X1 X2 (iv_H 3), 0, 0) := by
  refine hd_ret (s := 3) (nv := 85) (v := some (.inl (.int 1))) (uh := hd_ov (iv_id 0 iv_B0) [(33, .inl (.inr (.inl 86))), (36, .inl (.inl (.int 5))), (37, .inl (.inr (.inl 91))), (44, .inr (.inr (.inl 92)))]) (f := true) (sp := []) (d0 := 3) (O := [false, false, true, true, false, false, true, false, false, false, false, false]) (T := [(30, [.inr (.inl 33)], [.inr (.inl 39)]), (0, [.inr (.inl 33), .inl (.int 1)], []), (1, [.inr (.inl 86), .inl (.int 1)], []), (30, [.inr (.inl 87)], [.inr (.inr 41)]), (25, [.inr (.inr 88)], []), (1, [.inr (.inl 86), .inl (.int 1)], []), (30, [.inr (.inl 90)], [.inr (.inl 40)]), (40, [.inr (.inl 82), .inr (.inl 89)], [.inr (.inl 44)])]) (P := [(3, .inr (.inl 33), .inl (.int 0)), (3, .inl (.int 400), .inr (.inl 33)), (6, .inr (.inl 33), .inl (.ref 401)), (0, .inr (.inl 85), .inl (.int 24)), (2, .inr (.inl 33), .inl (.int 400)), (3, .inr (.inl 87), .inl (.int 0)), (3, .inl (.int 400), .inr (.inl 87)), (6, .inr (.inl 87), .inl (.ref 401)), (2, .inr (.inl 89), .inr (.inl 83)), (0, .inr (.inl 36), .inl (.int 0)), (3, .inr (.inl 90), .inl (.int 0)), (3, .inl (.int 400), .inr (.inl 90)), (6, .inr (.inl 90), .inl (.ref 401)), (3, .inr (.inl 82), .inl (.int 0)), (3, .inl (.int 2), .inr (.inl 82)), (6, .inr (.inl 82), .inl (.ref 3))]) jm_ok42 (by decide +kernel) (by decide +kernel) hd F X1 X2 (fun F' hF hs => ?_)
  have b33 := hd_b (F := F) (F' := F') (k := 33) (hF 33 (by decide))
  have a39 := hd_ba (F := F) (F' := F') (k := 39) (hF 39 (by decide))
  have t85 : sy_dv F' (.inr (.inl 85)) = .int ((sy_ai F 39).getD (sy_i F 33).toNatClampNeg 0) := hd_rd (hs 0 _ rfl) b33 a39
  have t86 : sy_dv F' (.inr (.inl 86)) = .int ((sy_i F 33) + ((1 : Int32))) := hd_o (hs 1 _ rfl) b33 rfl rfl
  have t87 : sy_dv F' (.inr (.inl 87)) = .int (((sy_i F 33) + ((1 : Int32))) - ((1 : Int32))) := hd_o (hs 2 _ rfl) t86 rfl rfl
  have a41 := hd_bA (F := F) (F' := F') (k := 41) (hF 41 (by decide))
  have t88 : sy_dv F' (.inr (.inr 88)) = .long ((sy_al F 41).getD (((sy_i F 33) + ((1 : Int32))) - ((1 : Int32))).toNatClampNeg 0) := hd_rL (hs 3 _ rfl) t87 a41
  have t89 : sy_dv F' (.inr (.inl 89)) = .int (((sy_al F 41).getD (((sy_i F 33) + ((1 : Int32))) - ((1 : Int32))).toNatClampNeg 0).toInt32) := hd_uI (hs 4 _ rfl) t88
  have b83 := hd_b (F := F) (F' := F') (k := 83) (hF 83 (by decide))
  have b36 := hd_b (F := F) (F' := F') (k := 36) (hF 36 (by decide))
  have t90 : sy_dv F' (.inr (.inl 90)) = .int (((sy_i F 33) + ((1 : Int32))) - ((1 : Int32))) := hd_o (hs 5 _ rfl) t86 rfl rfl
  have b82 := hd_b (F := F) (F' := F') (k := 82) (hF 82 (by decide))
  have a40 := hd_ba (F := F) (F' := F') (k := 40) (hF 40 (by decide))
  have t91 : sy_dv F' (.inr (.inl 91)) = .int ((sy_ai F 40).getD (((sy_i F 33) + ((1 : Int32))) - ((1 : Int32))).toNatClampNeg 0) := hd_rd (hs 6 _ rfl) t90 a40
  have a44 := hd_ba (F := F) (F' := F') (k := 44) (hF 44 (by decide))
  have t92 : sy_da F' (.inr (.inl 92)) = .inl (jm_upd (sy_ai F 44) (sy_i F 82).toNatClampNeg (((sy_al F 41).getD (((sy_i F 33) + ((1 : Int32))) - ((1 : Int32))).toNatClampNeg 0).toInt32)) := hd_up (hs 7 _ rfl) b82 t89 a44
  have hB' : iv_in F' iv_B0 := iv_in_eq hB (fun j hj => hF j (Nat.lt_of_lt_of_le hj (by decide +kernel)))
  refine ⟨List.forall_mem_cons.mpr ⟨hd_p3 b33 rfl (by have hc : ((0) : Int32).toInt = 0 := (by decide); omega), List.forall_mem_cons.mpr ⟨hd_p3 rfl b33 (by have hc : ((400) : Int32).toInt = 400 := (by decide); omega), List.forall_mem_cons.mpr ⟨hd_pb b33 (by first | exact h2 | exact h2), List.forall_mem_cons.mpr ⟨hd_p0 t85 rfl (by have hc : ((24) : Int32).toInt = 24 := (by decide); omega), List.forall_mem_cons.mpr ⟨hd_p2 b33 rfl (by have hc : ((400) : Int32).toInt = 400 := (by decide); omega), List.forall_mem_cons.mpr ⟨hd_p3 t87 rfl (by have hc : ((0) : Int32).toInt = 0 := (by decide); omega), List.forall_mem_cons.mpr ⟨hd_p3 rfl t87 (by have hc : ((400) : Int32).toInt = 400 := (by decide); omega), List.forall_mem_cons.mpr ⟨hd_pb t87 (by first | exact h7 | exact h7), List.forall_mem_cons.mpr ⟨hd_p2 t89 b83 h8, List.forall_mem_cons.mpr ⟨hd_p0 b36 rfl (by have hc : ((0) : Int32).toInt = 0 := (by decide); omega), List.forall_mem_cons.mpr ⟨hd_p3 t90 rfl (by have hc : ((0) : Int32).toInt = 0 := (by decide); omega), List.forall_mem_cons.mpr ⟨hd_p3 rfl t90 (by have hc : ((400) : Int32).toInt = 400 := (by decide); omega), List.forall_mem_cons.mpr ⟨hd_pb t90 (by first | exact h12 | exact h12), List.forall_mem_cons.mpr ⟨hd_p3 b82 rfl (by have hc : ((0) : Int32).toInt = 0 := (by decide); omega), List.forall_mem_cons.mpr ⟨hd_p3 rfl b82 (by have hc : ((2) : Int32).toInt = 2 := (by decide); omega), List.forall_mem_cons.mpr ⟨hd_pb b82 (by first | exact h15 | exact h15), fun _ h => absurd h List.not_mem_nil⟩⟩⟩⟩⟩⟩⟩⟩⟩⟩⟩⟩⟩⟩⟩⟩, ?_⟩
  refine k _ ?_ ?_ ?_ ?_ ?_
  · exact fun j hj hn => (hd_keep hB' (Nat.lt_of_lt_of_le hj (by decide +kernel)) (by simp; omega)).trans (hF j (Nat.lt_of_lt_of_le hj (by decide)))
  · exact hd_gi (x := .inr (.inl 86)) (by decide +kernel) t86
  · exact hd_gi (x := .inl (.int 5)) (by decide +kernel) rfl
  · exact hd_gi (x := .inr (.inl 91)) (by decide +kernel) t91
  · exact hd_ga (a := .inr (.inl 92)) (by decide +kernel) t92
theorem k3tn_0_p2 {Ls : Nat} {xs : Nat → Int32} {d : Nat} {Q : Option Value → jm_h → Prop} (hd : 4 ≤ d) (F : Nat → sy_d) (X1 X2 : List jm_c) (hB : iv_in F iv_B0)
    (h0 : 0 ≤ (sy_i F 33).toInt)
    (h1 : (sy_i F 33).toInt ≤ 400)
    (h2 : 0 ≤ (sy_i F 33).toInt ∧ (sy_i F 33).toInt < 401)
    (h3 : ((sy_ai F 39).getD (sy_i F 33).toNatClampNeg 0).toInt = 24)
    (h4 : (sy_i F 33).toInt < 400)
    (h5 : 0 ≤ (((sy_i F 33) + ((1 : Int32))) - ((1 : Int32))).toInt)
    (h6 : (((sy_i F 33) + ((1 : Int32))) - ((1 : Int32))).toInt ≤ 400)
    (h7 : 0 ≤ (((sy_i F 33) + ((1 : Int32))) - ((1 : Int32))).toInt ∧ (((sy_i F 33) + ((1 : Int32))) - ((1 : Int32))).toInt < 401)
    (h8 : (sy_i F 83).toInt ≤ (((sy_al F 41).getD (((sy_i F 33) + ((1 : Int32))) - ((1 : Int32))).toNatClampNeg 0).toInt32).toInt)
    (h9 : (sy_i F 84).toInt < (((sy_al F 41).getD (((sy_i F 33) + ((1 : Int32))) - ((1 : Int32))).toNatClampNeg 0).toInt32).toInt)
    (h10 : (sy_i F 36).toInt ≠ 0)
    (h11 : 0 ≤ (sy_i F 82).toInt)
    (h12 : (sy_i F 82).toInt ≤ 2)
    (h13 : 0 ≤ (sy_i F 82).toInt ∧ (sy_i F 82).toInt < 3)
    (k : ∀ F1 : Nat → sy_d, (∀ j, j < 82 → j ≠ 33 ∧ j ≠ 44 → F1 j = F j) → F1 33 = .inl (.int ((sy_i F 33) + ((1 : Int32)))) → F1 44 = .inr (.inl (jm_upd (sy_ai F 44) (sy_i F 82).toNatClampNeg (((sy_al F 41).getD (((sy_i F 33) + ((1 : Int32))) - ((1 : Int32))).toNatClampNeg 0).toInt32))) → Q (some (.int ((1 : Int32)))) (sy_dh F1 X1 X2 (iv_H 3))) :
    hd_W Ls xs d jm_M42 Q (0, sy_dL F [some (.inl (.ref 30)), some (.inr (.inl 82)), some (.inr (.inl 83)), some (.inr (.inl 84)), none], sy_dS F [], sy_dh F X1 X2 (iv_H 3), 0, 0) := by
  refine hd_ret (s := 3) (nv := 85) (v := some (.inl (.int 1))) (uh := hd_ov (iv_id 0 iv_B0) [(33, .inl (.inr (.inl 86))), (44, .inr (.inr (.inl 90)))]) (f := true) (sp := []) (d0 := 3) (O := [false, false, true, true, false, false, false, true, true, false, false]) (T := [(30, [.inr (.inl 33)], [.inr (.inl 39)]), (0, [.inr (.inl 33), .inl (.int 1)], []), (1, [.inr (.inl 86), .inl (.int 1)], []), (30, [.inr (.inl 87)], [.inr (.inr 41)]), (25, [.inr (.inr 88)], []), (40, [.inr (.inl 82), .inr (.inl 89)], [.inr (.inl 44)])]) (P := [(3, .inr (.inl 33), .inl (.int 0)), (3, .inl (.int 400), .inr (.inl 33)), (6, .inr (.inl 33), .inl (.ref 401)), (0, .inr (.inl 85), .inl (.int 24)), (2, .inr (.inl 33), .inl (.int 400)), (3, .inr (.inl 87), .inl (.int 0)), (3, .inl (.int 400), .inr (.inl 87)), (6, .inr (.inl 87), .inl (.ref 401)), (3, .inr (.inl 89), .inr (.inl 83)), (2, .inr (.inl 84), .inr (.inl 89)), (1, .inr (.inl 36), .inl (.int 0)), (3, .inr (.inl 82), .inl (.int 0)), (3, .inl (.int 2), .inr (.inl 82)), (6, .inr (.inl 82), .inl (.ref 3))]) jm_ok42 (by decide +kernel) (by decide +kernel) hd F X1 X2 (fun F' hF hs => ?_)
  have b33 := hd_b (F := F) (F' := F') (k := 33) (hF 33 (by decide))
  have a39 := hd_ba (F := F) (F' := F') (k := 39) (hF 39 (by decide))
  have t85 : sy_dv F' (.inr (.inl 85)) = .int ((sy_ai F 39).getD (sy_i F 33).toNatClampNeg 0) := hd_rd (hs 0 _ rfl) b33 a39
  have t86 : sy_dv F' (.inr (.inl 86)) = .int ((sy_i F 33) + ((1 : Int32))) := hd_o (hs 1 _ rfl) b33 rfl rfl
  have t87 : sy_dv F' (.inr (.inl 87)) = .int (((sy_i F 33) + ((1 : Int32))) - ((1 : Int32))) := hd_o (hs 2 _ rfl) t86 rfl rfl
  have a41 := hd_bA (F := F) (F' := F') (k := 41) (hF 41 (by decide))
  have t88 : sy_dv F' (.inr (.inr 88)) = .long ((sy_al F 41).getD (((sy_i F 33) + ((1 : Int32))) - ((1 : Int32))).toNatClampNeg 0) := hd_rL (hs 3 _ rfl) t87 a41
  have t89 : sy_dv F' (.inr (.inl 89)) = .int (((sy_al F 41).getD (((sy_i F 33) + ((1 : Int32))) - ((1 : Int32))).toNatClampNeg 0).toInt32) := hd_uI (hs 4 _ rfl) t88
  have b83 := hd_b (F := F) (F' := F') (k := 83) (hF 83 (by decide))
  have b84 := hd_b (F := F) (F' := F') (k := 84) (hF 84 (by decide))
  have b36 := hd_b (F := F) (F' := F') (k := 36) (hF 36 (by decide))
  have b82 := hd_b (F := F) (F' := F') (k := 82) (hF 82 (by decide))
  have a44 := hd_ba (F := F) (F' := F') (k := 44) (hF 44 (by decide))
  have t90 : sy_da F' (.inr (.inl 90)) = .inl (jm_upd (sy_ai F 44) (sy_i F 82).toNatClampNeg (((sy_al F 41).getD (((sy_i F 33) + ((1 : Int32))) - ((1 : Int32))).toNatClampNeg 0).toInt32)) := hd_up (hs 5 _ rfl) b82 t89 a44
  have hB' : iv_in F' iv_B0 := iv_in_eq hB (fun j hj => hF j (Nat.lt_of_lt_of_le hj (by decide +kernel)))
  refine ⟨List.forall_mem_cons.mpr ⟨hd_p3 b33 rfl (by have hc : ((0) : Int32).toInt = 0 := (by decide); omega), List.forall_mem_cons.mpr ⟨hd_p3 rfl b33 (by have hc : ((400) : Int32).toInt = 400 := (by decide); omega), List.forall_mem_cons.mpr ⟨hd_pb b33 (by first | exact h2 | exact h2), List.forall_mem_cons.mpr ⟨hd_p0 t85 rfl (by have hc : ((24) : Int32).toInt = 24 := (by decide); omega), List.forall_mem_cons.mpr ⟨hd_p2 b33 rfl (by have hc : ((400) : Int32).toInt = 400 := (by decide); omega), List.forall_mem_cons.mpr ⟨hd_p3 t87 rfl (by have hc : ((0) : Int32).toInt = 0 := (by decide); omega), List.forall_mem_cons.mpr ⟨hd_p3 rfl t87 (by have hc : ((400) : Int32).toInt = 400 := (by decide); omega), List.forall_mem_cons.mpr ⟨hd_pb t87 (by first | exact h7 | exact h7), List.forall_mem_cons.mpr ⟨hd_p3 t89 b83 h8, List.forall_mem_cons.mpr ⟨hd_p2 b84 t89 h9, List.forall_mem_cons.mpr ⟨hd_p1 b36 rfl (by have hc : ((0) : Int32).toInt = 0 := (by decide); omega), List.forall_mem_cons.mpr ⟨hd_p3 b82 rfl (by have hc : ((0) : Int32).toInt = 0 := (by decide); omega), List.forall_mem_cons.mpr ⟨hd_p3 rfl b82 (by have hc : ((2) : Int32).toInt = 2 := (by decide); omega), List.forall_mem_cons.mpr ⟨hd_pb b82 (by first | exact h13 | exact h13), fun _ h => absurd h List.not_mem_nil⟩⟩⟩⟩⟩⟩⟩⟩⟩⟩⟩⟩⟩⟩, ?_⟩
  refine k _ ?_ ?_ ?_
  · exact fun j hj hn => (hd_keep hB' (Nat.lt_of_lt_of_le hj (by decide +kernel)) (by simp; omega)).trans (hF j (Nat.lt_of_lt_of_le hj (by decide)))
  · exact hd_gi (x := .inr (.inl 86)) (by decide +kernel) t86
  · exact hd_ga (a := .inr (.inl 90)) (by decide +kernel) t90
theorem k3tn_0_p3 {Ls : Nat} {xs : Nat → Int32} {d : Nat} {Q : Option Value → jm_h → Prop} (hd : 4 ≤ d) (F : Nat → sy_d) (X1 X2 : List jm_c) (hB : iv_in F iv_B0)
    (h0 : 0 ≤ (sy_i F 33).toInt)
    (h1 : (sy_i F 33).toInt ≤ 400)
    (h2 : 0 ≤ (sy_i F 33).toInt ∧ (sy_i F 33).toInt < 401)
    (h3 : ((sy_ai F 39).getD (sy_i F 33).toNatClampNeg 0).toInt = 24)
    (h4 : (sy_i F 33).toInt < 400)
    (h5 : 0 ≤ (((sy_i F 33) + ((1 : Int32))) - ((1 : Int32))).toInt)
    (h6 : (((sy_i F 33) + ((1 : Int32))) - ((1 : Int32))).toInt ≤ 400)
    (h7 : 0 ≤ (((sy_i F 33) + ((1 : Int32))) - ((1 : Int32))).toInt ∧ (((sy_i F 33) + ((1 : Int32))) - ((1 : Int32))).toInt < 401)
    (h8 : (sy_i F 83).toInt ≤ (((sy_al F 41).getD (((sy_i F 33) + ((1 : Int32))) - ((1 : Int32))).toNatClampNeg 0).toInt32).toInt)
    (h9 : (sy_i F 84).toInt < (((sy_al F 41).getD (((sy_i F 33) + ((1 : Int32))) - ((1 : Int32))).toNatClampNeg 0).toInt32).toInt)
    (h10 : (sy_i F 36).toInt = 0)
    (h11 : 0 ≤ (((sy_i F 33) + ((1 : Int32))) - ((1 : Int32))).toInt)
    (h12 : (((sy_i F 33) + ((1 : Int32))) - ((1 : Int32))).toInt ≤ 400)
    (h13 : 0 ≤ (((sy_i F 33) + ((1 : Int32))) - ((1 : Int32))).toInt ∧ (((sy_i F 33) + ((1 : Int32))) - ((1 : Int32))).toInt < 401)
    (h14 : 0 ≤ (sy_i F 82).toInt)
    (h15 : (sy_i F 82).toInt ≤ 2)
    (h16 : 0 ≤ (sy_i F 82).toInt ∧ (sy_i F 82).toInt < 3)
    (k : ∀ F1 : Nat → sy_d, (∀ j, j < 82 → j ≠ 33 ∧ j ≠ 36 ∧ j ≠ 37 ∧ j ≠ 44 → F1 j = F j) → F1 33 = .inl (.int ((sy_i F 33) + ((1 : Int32)))) → F1 36 = .inl (.int ((5 : Int32))) → F1 37 = .inl (.int ((sy_ai F 40).getD (((sy_i F 33) + ((1 : Int32))) - ((1 : Int32))).toNatClampNeg 0)) → F1 44 = .inr (.inl (jm_upd (sy_ai F 44) (sy_i F 82).toNatClampNeg (((sy_al F 41).getD (((sy_i F 33) + ((1 : Int32))) - ((1 : Int32))).toNatClampNeg 0).toInt32))) → Q (some (.int ((1 : Int32)))) (sy_dh F1 X1 X2 (iv_H 3))) :
    hd_W Ls xs d jm_M42 Q (0, sy_dL F [some (.inl (.ref 30)), some (.inr (.inl 82)), some (.inr (.inl 83)), some (.inr (.inl 84)), none], sy_dS F [], sy_dh F X1 X2 (iv_H 3), 0, 0) := by
  refine hd_ret (s := 3) (nv := 85) (v := some (.inl (.int 1))) (uh := hd_ov (iv_id 0 iv_B0) [(33, .inl (.inr (.inl 86))), (36, .inl (.inl (.int 5))), (37, .inl (.inr (.inl 91))), (44, .inr (.inr (.inl 92)))]) (f := true) (sp := []) (d0 := 3) (O := [false, false, true, true, false, false, false, true, false, false, false, false, false]) (T := [(30, [.inr (.inl 33)], [.inr (.inl 39)]), (0, [.inr (.inl 33), .inl (.int 1)], []), (1, [.inr (.inl 86), .inl (.int 1)], []), (30, [.inr (.inl 87)], [.inr (.inr 41)]), (25, [.inr (.inr 88)], []), (1, [.inr (.inl 86), .inl (.int 1)], []), (30, [.inr (.inl 90)], [.inr (.inl 40)]), (40, [.inr (.inl 82), .inr (.inl 89)], [.inr (.inl 44)])]) (P := [(3, .inr (.inl 33), .inl (.int 0)), (3, .inl (.int 400), .inr (.inl 33)), (6, .inr (.inl 33), .inl (.ref 401)), (0, .inr (.inl 85), .inl (.int 24)), (2, .inr (.inl 33), .inl (.int 400)), (3, .inr (.inl 87), .inl (.int 0)), (3, .inl (.int 400), .inr (.inl 87)), (6, .inr (.inl 87), .inl (.ref 401)), (3, .inr (.inl 89), .inr (.inl 83)), (2, .inr (.inl 84), .inr (.inl 89)), (0, .inr (.inl 36), .inl (.int 0)), (3, .inr (.inl 90), .inl (.int 0)), (3, .inl (.int 400), .inr (.inl 90)), (6, .inr (.inl 90), .inl (.ref 401)), (3, .inr (.inl 82), .inl (.int 0)), (3, .inl (.int 2), .inr (.inl 82)), (6, .inr (.inl 82), .inl (.ref 3))]) jm_ok42 (by decide +kernel) (by decide +kernel) hd F X1 X2 (fun F' hF hs => ?_)
  have b33 := hd_b (F := F) (F' := F') (k := 33) (hF 33 (by decide))
  have a39 := hd_ba (F := F) (F' := F') (k := 39) (hF 39 (by decide))
  have t85 : sy_dv F' (.inr (.inl 85)) = .int ((sy_ai F 39).getD (sy_i F 33).toNatClampNeg 0) := hd_rd (hs 0 _ rfl) b33 a39
  have t86 : sy_dv F' (.inr (.inl 86)) = .int ((sy_i F 33) + ((1 : Int32))) := hd_o (hs 1 _ rfl) b33 rfl rfl
  have t87 : sy_dv F' (.inr (.inl 87)) = .int (((sy_i F 33) + ((1 : Int32))) - ((1 : Int32))) := hd_o (hs 2 _ rfl) t86 rfl rfl
  have a41 := hd_bA (F := F) (F' := F') (k := 41) (hF 41 (by decide))
  have t88 : sy_dv F' (.inr (.inr 88)) = .long ((sy_al F 41).getD (((sy_i F 33) + ((1 : Int32))) - ((1 : Int32))).toNatClampNeg 0) := hd_rL (hs 3 _ rfl) t87 a41
  have t89 : sy_dv F' (.inr (.inl 89)) = .int (((sy_al F 41).getD (((sy_i F 33) + ((1 : Int32))) - ((1 : Int32))).toNatClampNeg 0).toInt32) := hd_uI (hs 4 _ rfl) t88
  have b83 := hd_b (F := F) (F' := F') (k := 83) (hF 83 (by decide))
  have b84 := hd_b (F := F) (F' := F') (k := 84) (hF 84 (by decide))
  have b36 := hd_b (F := F) (F' := F') (k := 36) (hF 36 (by decide))
  have t90 : sy_dv F' (.inr (.inl 90)) = .int (((sy_i F 33) + ((1 : Int32))) - ((1 : Int32))) := hd_o (hs 5 _ rfl) t86 rfl rfl
  have b82 := hd_b (F := F) (F' := F') (k := 82) (hF 82 (by decide))
  have a40 := hd_ba (F := F) (F' := F') (k := 40) (hF 40 (by decide))
  have t91 : sy_dv F' (.inr (.inl 91)) = .int ((sy_ai F 40).getD (((sy_i F 33) + ((1 : Int32))) - ((1 : Int32))).toNatClampNeg 0) := hd_rd (hs 6 _ rfl) t90 a40
  have a44 := hd_ba (F := F) (F' := F') (k := 44) (hF 44 (by decide))
  have t92 : sy_da F' (.inr (.inl 92)) = .inl (jm_upd (sy_ai F 44) (sy_i F 82).toNatClampNeg (((sy_al F 41).getD (((sy_i F 33) + ((1 : Int32))) - ((1 : Int32))).toNatClampNeg 0).toInt32)) := hd_up (hs 7 _ rfl) b82 t89 a44
  have hB' : iv_in F' iv_B0 := iv_in_eq hB (fun j hj => hF j (Nat.lt_of_lt_of_le hj (by decide +kernel)))
  refine ⟨List.forall_mem_cons.mpr ⟨hd_p3 b33 rfl (by have hc : ((0) : Int32).toInt = 0 := (by decide); omega), List.forall_mem_cons.mpr ⟨hd_p3 rfl b33 (by have hc : ((400) : Int32).toInt = 400 := (by decide); omega), List.forall_mem_cons.mpr ⟨hd_pb b33 (by first | exact h2 | exact h2), List.forall_mem_cons.mpr ⟨hd_p0 t85 rfl (by have hc : ((24) : Int32).toInt = 24 := (by decide); omega), List.forall_mem_cons.mpr ⟨hd_p2 b33 rfl (by have hc : ((400) : Int32).toInt = 400 := (by decide); omega), List.forall_mem_cons.mpr ⟨hd_p3 t87 rfl (by have hc : ((0) : Int32).toInt = 0 := (by decide); omega), List.forall_mem_cons.mpr ⟨hd_p3 rfl t87 (by have hc : ((400) : Int32).toInt = 400 := (by decide); omega), List.forall_mem_cons.mpr ⟨hd_pb t87 (by first | exact h7 | exact h7), List.forall_mem_cons.mpr ⟨hd_p3 t89 b83 h8, List.forall_mem_cons.mpr ⟨hd_p2 b84 t89 h9, List.forall_mem_cons.mpr ⟨hd_p0 b36 rfl (by have hc : ((0) : Int32).toInt = 0 := (by decide); omega), List.forall_mem_cons.mpr ⟨hd_p3 t90 rfl (by have hc : ((0) : Int32).toInt = 0 := (by decide); omega), List.forall_mem_cons.mpr ⟨hd_p3 rfl t90 (by have hc : ((400) : Int32).toInt = 400 := (by decide); omega), List.forall_mem_cons.mpr ⟨hd_pb t90 (by first | exact h13 | exact h13), List.forall_mem_cons.mpr ⟨hd_p3 b82 rfl (by have hc : ((0) : Int32).toInt = 0 := (by decide); omega), List.forall_mem_cons.mpr ⟨hd_p3 rfl b82 (by have hc : ((2) : Int32).toInt = 2 := (by decide); omega), List.forall_mem_cons.mpr ⟨hd_pb b82 (by first | exact h16 | exact h16), fun _ h => absurd h List.not_mem_nil⟩⟩⟩⟩⟩⟩⟩⟩⟩⟩⟩⟩⟩⟩⟩⟩⟩, ?_⟩
  refine k _ ?_ ?_ ?_ ?_ ?_
  · exact fun j hj hn => (hd_keep hB' (Nat.lt_of_lt_of_le hj (by decide +kernel)) (by simp; omega)).trans (hF j (Nat.lt_of_lt_of_le hj (by decide)))
  · exact hd_gi (x := .inr (.inl 86)) (by decide +kernel) t86
  · exact hd_gi (x := .inl (.int 5)) (by decide +kernel) rfl
  · exact hd_gi (x := .inr (.inl 91)) (by decide +kernel) t91
  · exact hd_ga (a := .inr (.inl 92)) (by decide +kernel) t92
theorem k3tn_0_p4 {Ls : Nat} {xs : Nat → Int32} {d : Nat} {Q : Option Value → jm_h → Prop} (hd : 4 ≤ d) (F : Nat → sy_d) (X1 X2 : List jm_c) (hB : iv_in F iv_B0)
    (h0 : 0 ≤ (sy_i F 33).toInt)
    (h1 : (sy_i F 33).toInt ≤ 400)
    (h2 : 0 ≤ (sy_i F 33).toInt ∧ (sy_i F 33).toInt < 401)
    (h3 : ((sy_ai F 39).getD (sy_i F 33).toNatClampNeg 0).toInt = 24)
    (h4 : (sy_i F 33).toInt < 400)
    (h5 : 0 ≤ (((sy_i F 33) + ((1 : Int32))) - ((1 : Int32))).toInt)
    (h6 : (((sy_i F 33) + ((1 : Int32))) - ((1 : Int32))).toInt ≤ 400)
    (h7 : 0 ≤ (((sy_i F 33) + ((1 : Int32))) - ((1 : Int32))).toInt ∧ (((sy_i F 33) + ((1 : Int32))) - ((1 : Int32))).toInt < 401)
    (h8 : (sy_i F 83).toInt ≤ (((sy_al F 41).getD (((sy_i F 33) + ((1 : Int32))) - ((1 : Int32))).toNatClampNeg 0).toInt32).toInt)
    (h9 : (((sy_al F 41).getD (((sy_i F 33) + ((1 : Int32))) - ((1 : Int32))).toNatClampNeg 0).toInt32).toInt ≤ (sy_i F 84).toInt)
    (h10 : 0 ≤ (sy_i F 82).toInt)
    (h11 : (sy_i F 82).toInt ≤ 2)
    (h12 : 0 ≤ (sy_i F 82).toInt ∧ (sy_i F 82).toInt < 3)
    (k : ∀ F1 : Nat → sy_d, (∀ j, j < 82 → j ≠ 33 ∧ j ≠ 44 → F1 j = F j) → F1 33 = .inl (.int ((sy_i F 33) + ((1 : Int32)))) → F1 44 = .inr (.inl (jm_upd (sy_ai F 44) (sy_i F 82).toNatClampNeg (((sy_al F 41).getD (((sy_i F 33) + ((1 : Int32))) - ((1 : Int32))).toNatClampNeg 0).toInt32))) → Q (some (.int ((1 : Int32)))) (sy_dh F1 X1 X2 (iv_H 3))) :
    hd_W Ls xs d jm_M42 Q (0, sy_dL F [some (.inl (.ref 30)), some (.inr (.inl 82)), some (.inr (.inl 83)), some (.inr (.inl 84)), none], sy_dS F [], sy_dh F X1 X2 (iv_H 3), 0, 0) := by
  refine hd_ret (s := 3) (nv := 85) (v := some (.inl (.int 1))) (uh := hd_ov (iv_id 0 iv_B0) [(33, .inl (.inr (.inl 86))), (44, .inr (.inr (.inl 90)))]) (f := true) (sp := []) (d0 := 3) (O := [false, false, true, true, false, false, false, false, false, false]) (T := [(30, [.inr (.inl 33)], [.inr (.inl 39)]), (0, [.inr (.inl 33), .inl (.int 1)], []), (1, [.inr (.inl 86), .inl (.int 1)], []), (30, [.inr (.inl 87)], [.inr (.inr 41)]), (25, [.inr (.inr 88)], []), (40, [.inr (.inl 82), .inr (.inl 89)], [.inr (.inl 44)])]) (P := [(3, .inr (.inl 33), .inl (.int 0)), (3, .inl (.int 400), .inr (.inl 33)), (6, .inr (.inl 33), .inl (.ref 401)), (0, .inr (.inl 85), .inl (.int 24)), (2, .inr (.inl 33), .inl (.int 400)), (3, .inr (.inl 87), .inl (.int 0)), (3, .inl (.int 400), .inr (.inl 87)), (6, .inr (.inl 87), .inl (.ref 401)), (3, .inr (.inl 89), .inr (.inl 83)), (3, .inr (.inl 84), .inr (.inl 89)), (3, .inr (.inl 82), .inl (.int 0)), (3, .inl (.int 2), .inr (.inl 82)), (6, .inr (.inl 82), .inl (.ref 3))]) jm_ok42 (by decide +kernel) (by decide +kernel) hd F X1 X2 (fun F' hF hs => ?_)
  have b33 := hd_b (F := F) (F' := F') (k := 33) (hF 33 (by decide))
  have a39 := hd_ba (F := F) (F' := F') (k := 39) (hF 39 (by decide))
  have t85 : sy_dv F' (.inr (.inl 85)) = .int ((sy_ai F 39).getD (sy_i F 33).toNatClampNeg 0) := hd_rd (hs 0 _ rfl) b33 a39
  have t86 : sy_dv F' (.inr (.inl 86)) = .int ((sy_i F 33) + ((1 : Int32))) := hd_o (hs 1 _ rfl) b33 rfl rfl
  have t87 : sy_dv F' (.inr (.inl 87)) = .int (((sy_i F 33) + ((1 : Int32))) - ((1 : Int32))) := hd_o (hs 2 _ rfl) t86 rfl rfl
  have a41 := hd_bA (F := F) (F' := F') (k := 41) (hF 41 (by decide))
  have t88 : sy_dv F' (.inr (.inr 88)) = .long ((sy_al F 41).getD (((sy_i F 33) + ((1 : Int32))) - ((1 : Int32))).toNatClampNeg 0) := hd_rL (hs 3 _ rfl) t87 a41
  have t89 : sy_dv F' (.inr (.inl 89)) = .int (((sy_al F 41).getD (((sy_i F 33) + ((1 : Int32))) - ((1 : Int32))).toNatClampNeg 0).toInt32) := hd_uI (hs 4 _ rfl) t88
  have b83 := hd_b (F := F) (F' := F') (k := 83) (hF 83 (by decide))
  have b84 := hd_b (F := F) (F' := F') (k := 84) (hF 84 (by decide))
  have b82 := hd_b (F := F) (F' := F') (k := 82) (hF 82 (by decide))
  have a44 := hd_ba (F := F) (F' := F') (k := 44) (hF 44 (by decide))
  have t90 : sy_da F' (.inr (.inl 90)) = .inl (jm_upd (sy_ai F 44) (sy_i F 82).toNatClampNeg (((sy_al F 41).getD (((sy_i F 33) + ((1 : Int32))) - ((1 : Int32))).toNatClampNeg 0).toInt32)) := hd_up (hs 5 _ rfl) b82 t89 a44
  have hB' : iv_in F' iv_B0 := iv_in_eq hB (fun j hj => hF j (Nat.lt_of_lt_of_le hj (by decide +kernel)))
  refine ⟨List.forall_mem_cons.mpr ⟨hd_p3 b33 rfl (by have hc : ((0) : Int32).toInt = 0 := (by decide); omega), List.forall_mem_cons.mpr ⟨hd_p3 rfl b33 (by have hc : ((400) : Int32).toInt = 400 := (by decide); omega), List.forall_mem_cons.mpr ⟨hd_pb b33 (by first | exact h2 | exact h2), List.forall_mem_cons.mpr ⟨hd_p0 t85 rfl (by have hc : ((24) : Int32).toInt = 24 := (by decide); omega), List.forall_mem_cons.mpr ⟨hd_p2 b33 rfl (by have hc : ((400) : Int32).toInt = 400 := (by decide); omega), List.forall_mem_cons.mpr ⟨hd_p3 t87 rfl (by have hc : ((0) : Int32).toInt = 0 := (by decide); omega), List.forall_mem_cons.mpr ⟨hd_p3 rfl t87 (by have hc : ((400) : Int32).toInt = 400 := (by decide); omega), List.forall_mem_cons.mpr ⟨hd_pb t87 (by first | exact h7 | exact h7), List.forall_mem_cons.mpr ⟨hd_p3 t89 b83 h8, List.forall_mem_cons.mpr ⟨hd_p3 b84 t89 h9, List.forall_mem_cons.mpr ⟨hd_p3 b82 rfl (by have hc : ((0) : Int32).toInt = 0 := (by decide); omega), List.forall_mem_cons.mpr ⟨hd_p3 rfl b82 (by have hc : ((2) : Int32).toInt = 2 := (by decide); omega), List.forall_mem_cons.mpr ⟨hd_pb b82 (by first | exact h12 | exact h12), fun _ h => absurd h List.not_mem_nil⟩⟩⟩⟩⟩⟩⟩⟩⟩⟩⟩⟩⟩, ?_⟩
  refine k _ ?_ ?_ ?_
  · exact fun j hj hn => (hd_keep hB' (Nat.lt_of_lt_of_le hj (by decide +kernel)) (by simp; omega)).trans (hF j (Nat.lt_of_lt_of_le hj (by decide)))
  · exact hd_gi (x := .inr (.inl 86)) (by decide +kernel) t86
  · exact hd_ga (a := .inr (.inl 90)) (by decide +kernel) t90
theorem k3tn_0_p5 {Ls : Nat} {xs : Nat → Int32} {d : Nat} {Q : Option Value → jm_h → Prop} (hd : 4 ≤ d) (F : Nat → sy_d) (X1 X2 : List jm_c) (hB : iv_in F iv_B0)
    (h0 : 0 ≤ (sy_i F 33).toInt)
    (h1 : (sy_i F 33).toInt ≤ 400)
    (h2 : 0 ≤ (sy_i F 33).toInt ∧ (sy_i F 33).toInt < 401)
    (h3 : ((sy_ai F 39).getD (sy_i F 33).toNatClampNeg 0).toInt = 24)
    (h4 : 400 ≤ (sy_i F 33).toInt)
    (k : ∀ F1 : Nat → sy_d, (∀ j, j < 82 → j ≠ 34 → F1 j = F j) → F1 34 = .inl (.int ((2 : Int32))) → Q (some (.int ((0 : Int32)))) (sy_dh F1 X1 X2 (iv_H 3))) :
    hd_W Ls xs d jm_M42 Q (0, sy_dL F [some (.inl (.ref 30)), some (.inr (.inl 82)), some (.inr (.inl 83)), some (.inr (.inl 84)), none], sy_dS F [], sy_dh F X1 X2 (iv_H 3), 0, 0) := by
  refine hd_ret (s := 3) (nv := 85) (v := some (.inl (.int 0))) (uh := hd_ov (iv_id 0 iv_B0) [(34, .inl (.inl (.int 2)))]) (f := true) (sp := []) (d0 := 3) (O := [false, false, true, false]) (T := [(30, [.inr (.inl 33)], [.inr (.inl 39)])]) (P := [(3, .inr (.inl 33), .inl (.int 0)), (3, .inl (.int 400), .inr (.inl 33)), (6, .inr (.inl 33), .inl (.ref 401)), (0, .inr (.inl 85), .inl (.int 24)), (3, .inr (.inl 33), .inl (.int 400))]) jm_ok42 (by decide +kernel) (by decide +kernel) hd F X1 X2 (fun F' hF hs => ?_)
  have b33 := hd_b (F := F) (F' := F') (k := 33) (hF 33 (by decide))
  have a39 := hd_ba (F := F) (F' := F') (k := 39) (hF 39 (by decide))
  have t85 : sy_dv F' (.inr (.inl 85)) = .int ((sy_ai F 39).getD (sy_i F 33).toNatClampNeg 0) := hd_rd (hs 0 _ rfl) b33 a39
  have hB' : iv_in F' iv_B0 := iv_in_eq hB (fun j hj => hF j (Nat.lt_of_lt_of_le hj (by decide +kernel)))
  refine ⟨List.forall_mem_cons.mpr ⟨hd_p3 b33 rfl (by have hc : ((0) : Int32).toInt = 0 := (by decide); omega), List.forall_mem_cons.mpr ⟨hd_p3 rfl b33 (by have hc : ((400) : Int32).toInt = 400 := (by decide); omega), List.forall_mem_cons.mpr ⟨hd_pb b33 (by first | exact h2 | exact h2), List.forall_mem_cons.mpr ⟨hd_p0 t85 rfl (by have hc : ((24) : Int32).toInt = 24 := (by decide); omega), List.forall_mem_cons.mpr ⟨hd_p3 b33 rfl (by have hc : ((400) : Int32).toInt = 400 := (by decide); omega), fun _ h => absurd h List.not_mem_nil⟩⟩⟩⟩⟩, ?_⟩
  refine k _ ?_ ?_
  · exact fun j hj hn => (hd_keep hB' (Nat.lt_of_lt_of_le hj (by decide +kernel)) (by simp; omega)).trans (hF j (Nat.lt_of_lt_of_le hj (by decide)))
  · exact hd_gi (x := .inl (.int 2)) (by decide +kernel) rfl
theorem k3tn_0_p6 {Ls : Nat} {xs : Nat → Int32} {d : Nat} {Q : Option Value → jm_h → Prop} (hd : 4 ≤ d) (F : Nat → sy_d) (X1 X2 : List jm_c) (hB : iv_in F iv_B0)
    (h0 : 0 ≤ (sy_i F 33).toInt)
    (h1 : (sy_i F 33).toInt ≤ 400)
    (h2 : 0 ≤ (sy_i F 33).toInt ∧ (sy_i F 33).toInt < 401)
    (h3 : ((sy_ai F 39).getD (sy_i F 33).toNatClampNeg 0).toInt ≠ 24)
    (k : ∀ F1 : Nat → sy_d, (∀ j, j < 82 → j ≠ 34 → F1 j = F j) → F1 34 = .inl (.int ((1 : Int32))) → Q (some (.int ((0 : Int32)))) (sy_dh F1 X1 X2 (iv_H 3))) :
    hd_W Ls xs d jm_M42 Q (0, sy_dL F [some (.inl (.ref 30)), some (.inr (.inl 82)), some (.inr (.inl 83)), some (.inr (.inl 84)), none], sy_dS F [], sy_dh F X1 X2 (iv_H 3), 0, 0) := by
  refine hd_ret (s := 3) (nv := 85) (v := some (.inl (.int 0))) (uh := hd_ov (iv_id 0 iv_B0) [(34, .inl (.inl (.int 1)))]) (f := true) (sp := []) (d0 := 3) (O := [false, false, false]) (T := [(30, [.inr (.inl 33)], [.inr (.inl 39)])]) (P := [(3, .inr (.inl 33), .inl (.int 0)), (3, .inl (.int 400), .inr (.inl 33)), (6, .inr (.inl 33), .inl (.ref 401)), (1, .inr (.inl 85), .inl (.int 24))]) jm_ok42 (by decide +kernel) (by decide +kernel) hd F X1 X2 (fun F' hF hs => ?_)
  have b33 := hd_b (F := F) (F' := F') (k := 33) (hF 33 (by decide))
  have a39 := hd_ba (F := F) (F' := F') (k := 39) (hF 39 (by decide))
  have t85 : sy_dv F' (.inr (.inl 85)) = .int ((sy_ai F 39).getD (sy_i F 33).toNatClampNeg 0) := hd_rd (hs 0 _ rfl) b33 a39
  have hB' : iv_in F' iv_B0 := iv_in_eq hB (fun j hj => hF j (Nat.lt_of_lt_of_le hj (by decide +kernel)))
  refine ⟨List.forall_mem_cons.mpr ⟨hd_p3 b33 rfl (by have hc : ((0) : Int32).toInt = 0 := (by decide); omega), List.forall_mem_cons.mpr ⟨hd_p3 rfl b33 (by have hc : ((400) : Int32).toInt = 400 := (by decide); omega), List.forall_mem_cons.mpr ⟨hd_pb b33 (by first | exact h2 | exact h2), List.forall_mem_cons.mpr ⟨hd_p1 t85 rfl (by have hc : ((24) : Int32).toInt = 24 := (by decide); omega), fun _ h => absurd h List.not_mem_nil⟩⟩⟩⟩, ?_⟩
  refine k _ ?_ ?_
  · exact fun j hj hn => (hd_keep hB' (Nat.lt_of_lt_of_le hj (by decide +kernel)) (by simp; omega)).trans (hF j (Nat.lt_of_lt_of_le hj (by decide)))
  · exact hd_gi (x := .inl (.int 1)) (by decide +kernel) rfl
theorem k3tm_0_p0 {Ls : Nat} {xs : Nat → Int32} {d : Nat} {Q : Option Value → jm_h → Prop} (hd : 4 ≤ d) (F : Nat → sy_d) (X1 X2 : List jm_c) (hB : iv_in F iv_B0)
    (h0 : 0 ≤ (sy_i F 33).toInt)
    (h1 : (sy_i F 33).toInt ≤ 400)
    (h2 : 0 ≤ (sy_i F 33).toInt ∧ (sy_i F 33).toInt < 401)
    (h3 : ((sy_ai F 39).getD (sy_i F 33).toNatClampNeg 0).toInt = 23)
    (h4 : (sy_i F 33).toInt < 400)
    (h5 : 0 ≤ (((sy_i F 33) + ((1 : Int32))) - ((1 : Int32))).toInt)
    (h6 : (((sy_i F 33) + ((1 : Int32))) - ((1 : Int32))).toInt ≤ 400)
    (h7 : 0 ≤ (((sy_i F 33) + ((1 : Int32))) - ((1 : Int32))).toInt ∧ (((sy_i F 33) + ((1 : Int32))) - ((1 : Int32))).toInt < 401)
    (k : ∀ F1 : Nat → sy_d, (∀ j, j < 82 → j ≠ 33 → F1 j = F j) → F1 33 = .inl (.int ((sy_i F 33) + ((1 : Int32)))) → F1 82 = .inl (.long ((sy_al F 41).getD (((sy_i F 33) + ((1 : Int32))) - ((1 : Int32))).toNatClampNeg 0)) → F1 83 = .inl (.int ((0 : Int32))) → hd_W Ls xs d jm_M41 Q (27, sy_dL F1 [some (.inl (.ref 30)), some (.inr (.inr 82)), none, some (.inr (.inl 83))], sy_dS F1 [], sy_dh F1 X1 X2 (iv_H 3), 0, 0)) :
    hd_W Ls xs d jm_M41 Q (0, sy_dL F [some (.inl (.ref 30)), none, none, none], sy_dS F [], sy_dh F X1 X2 (iv_H 3), 0, 0) := by
  refine hd_run (s := 3) (nv := 82) (pc := 27) (L := [some (.inl (.ref 30)), some (.inr (.inr 82)), none, some (.inr (.inl 83))]) (S := []) (uh := hd_ov (iv_id 0 iv_B0) [(33, .inl (.inr (.inl 83)))]) (ul := [.inl (.inr (.inr 85)), .inl (.inl (.int 0))]) (f := true) (sp := [27]) (d0 := 3) (O := [false, false, true, true, false, false]) (T := [(30, [.inr (.inl 33)], [.inr (.inl 39)]), (0, [.inr (.inl 33), .inl (.int 1)], []), (1, [.inr (.inl 83), .inl (.int 1)], []), (30, [.inr (.inl 84)], [.inr (.inr 41)])]) (P := [(3, .inr (.inl 33), .inl (.int 0)), (3, .inl (.int 400), .inr (.inl 33)), (6, .inr (.inl 33), .inl (.ref 401)), (0, .inr (.inl 82), .inl (.int 23)), (2, .inr (.inl 33), .inl (.int 400)), (3, .inr (.inl 84), .inl (.int 0)), (3, .inl (.int 400), .inr (.inl 84)), (6, .inr (.inl 84), .inl (.ref 401))]) jm_ok41 (by decide +kernel) (by decide +kernel) hd F X1 X2 (fun F' hF hs => ?_)
  have b33 := hd_b (F := F) (F' := F') (k := 33) (hF 33 (by decide))
  have a39 := hd_ba (F := F) (F' := F') (k := 39) (hF 39 (by decide))
  have t82 : sy_dv F' (.inr (.inl 82)) = .int ((sy_ai F 39).getD (sy_i F 33).toNatClampNeg 0) := hd_rd (hs 0 _ rfl) b33 a39
  have t83 : sy_dv F' (.inr (.inl 83)) = .int ((sy_i F 33) + ((1 : Int32))) := hd_o (hs 1 _ rfl) b33 rfl rfl
  have t84 : sy_dv F' (.inr (.inl 84)) = .int (((sy_i F 33) + ((1 : Int32))) - ((1 : Int32))) := hd_o (hs 2 _ rfl) t83 rfl rfl
  have a41 := hd_bA (F := F) (F' := F') (k := 41) (hF 41 (by decide))
  have t85 : sy_dv F' (.inr (.inr 85)) = .long ((sy_al F 41).getD (((sy_i F 33) + ((1 : Int32))) - ((1 : Int32))).toNatClampNeg 0) := hd_rL (hs 3 _ rfl) t84 a41
  have hB' : iv_in F' iv_B0 := iv_in_eq hB (fun j hj => hF j (Nat.lt_of_lt_of_le hj (by decide +kernel)))
  refine ⟨List.forall_mem_cons.mpr ⟨hd_p3 b33 rfl (by have hc : ((0) : Int32).toInt = 0 := (by decide); omega), List.forall_mem_cons.mpr ⟨hd_p3 rfl b33 (by have hc : ((400) : Int32).toInt = 400 := (by decide); omega), List.forall_mem_cons.mpr ⟨hd_pb b33 (by first | exact h2 | exact h2), List.forall_mem_cons.mpr ⟨hd_p0 t82 rfl (by have hc : ((23) : Int32).toInt = 23 := (by decide); omega), List.forall_mem_cons.mpr ⟨hd_p2 b33 rfl (by have hc : ((400) : Int32).toInt = 400 := (by decide); omega), List.forall_mem_cons.mpr ⟨hd_p3 t84 rfl (by have hc : ((0) : Int32).toInt = 0 := (by decide); omega), List.forall_mem_cons.mpr ⟨hd_p3 rfl t84 (by have hc : ((400) : Int32).toInt = 400 := (by decide); omega), List.forall_mem_cons.mpr ⟨hd_pb t84 (by first | exact h7 | exact h7), fun _ h => absurd h List.not_mem_nil⟩⟩⟩⟩⟩⟩⟩⟩, ?_⟩
  refine k _ ?_ ?_ ?_ ?_
  · exact fun j hj hn => (hd_keep hB' (Nat.lt_of_lt_of_le hj (by decide +kernel)) (by simp; omega)).trans (hF j (Nat.lt_of_lt_of_le hj (by decide)))
  · exact hd_gi (x := .inr (.inl 83)) (by decide +kernel) t83
  · exact hd_gl (x := .inr (.inr 85)) (by decide +kernel) t85
  · exact hd_gi (x := .inl (.int 0)) (by decide +kernel) rfl
theorem k3tm_0_p1 {Ls : Nat} {xs : Nat → Int32} {d : Nat} {Q : Option Value → jm_h → Prop} (hd : 4 ≤ d) (F : Nat → sy_d) (X1 X2 : List jm_c) (hB : iv_in F iv_B0)
    (h0 : 0 ≤ (sy_i F 33).toInt)
    (h1 : (sy_i F 33).toInt ≤ 400)
    (h2 : 0 ≤ (sy_i F 33).toInt ∧ (sy_i F 33).toInt < 401)
    (h3 : ((sy_ai F 39).getD (sy_i F 33).toNatClampNeg 0).toInt = 23)
    (h4 : 400 ≤ (sy_i F 33).toInt)
    (k : ∀ F1 : Nat → sy_d, (∀ j, j < 82 → j ≠ 34 → F1 j = F j) → F1 34 = .inl (.int ((2 : Int32))) → Q (some (.int ((0 : Int32)))) (sy_dh F1 X1 X2 (iv_H 3))) :
    hd_W Ls xs d jm_M41 Q (0, sy_dL F [some (.inl (.ref 30)), none, none, none], sy_dS F [], sy_dh F X1 X2 (iv_H 3), 0, 0) := by
  refine hd_ret (s := 3) (nv := 82) (v := some (.inl (.int 0))) (uh := hd_ov (iv_id 0 iv_B0) [(34, .inl (.inl (.int 2)))]) (f := true) (sp := [27]) (d0 := 3) (O := [false, false, true, false]) (T := [(30, [.inr (.inl 33)], [.inr (.inl 39)])]) (P := [(3, .inr (.inl 33), .inl (.int 0)), (3, .inl (.int 400), .inr (.inl 33)), (6, .inr (.inl 33), .inl (.ref 401)), (0, .inr (.inl 82), .inl (.int 23)), (3, .inr (.inl 33), .inl (.int 400))]) jm_ok41 (by decide +kernel) (by decide +kernel) hd F X1 X2 (fun F' hF hs => ?_)
  have b33 := hd_b (F := F) (F' := F') (k := 33) (hF 33 (by decide))
  have a39 := hd_ba (F := F) (F' := F') (k := 39) (hF 39 (by decide))
  have t82 : sy_dv F' (.inr (.inl 82)) = .int ((sy_ai F 39).getD (sy_i F 33).toNatClampNeg 0) := hd_rd (hs 0 _ rfl) b33 a39
  have hB' : iv_in F' iv_B0 := iv_in_eq hB (fun j hj => hF j (Nat.lt_of_lt_of_le hj (by decide +kernel)))
  refine ⟨List.forall_mem_cons.mpr ⟨hd_p3 b33 rfl (by have hc : ((0) : Int32).toInt = 0 := (by decide); omega), List.forall_mem_cons.mpr ⟨hd_p3 rfl b33 (by have hc : ((400) : Int32).toInt = 400 := (by decide); omega), List.forall_mem_cons.mpr ⟨hd_pb b33 (by first | exact h2 | exact h2), List.forall_mem_cons.mpr ⟨hd_p0 t82 rfl (by have hc : ((23) : Int32).toInt = 23 := (by decide); omega), List.forall_mem_cons.mpr ⟨hd_p3 b33 rfl (by have hc : ((400) : Int32).toInt = 400 := (by decide); omega), fun _ h => absurd h List.not_mem_nil⟩⟩⟩⟩⟩, ?_⟩
  refine k _ ?_ ?_
  · exact fun j hj hn => (hd_keep hB' (Nat.lt_of_lt_of_le hj (by decide +kernel)) (by simp; omega)).trans (hF j (Nat.lt_of_lt_of_le hj (by decide)))
  · exact hd_gi (x := .inl (.int 2)) (by decide +kernel) rfl
theorem k3tm_0_p2 {Ls : Nat} {xs : Nat → Int32} {d : Nat} {Q : Option Value → jm_h → Prop} (hd : 4 ≤ d) (F : Nat → sy_d) (X1 X2 : List jm_c) (hB : iv_in F iv_B0)
    (h0 : 0 ≤ (sy_i F 33).toInt)
    (h1 : (sy_i F 33).toInt ≤ 400)
    (h2 : 0 ≤ (sy_i F 33).toInt ∧ (sy_i F 33).toInt < 401)
    (h3 : ((sy_ai F 39).getD (sy_i F 33).toNatClampNeg 0).toInt ≠ 23)
    (k : ∀ F1 : Nat → sy_d, (∀ j, j < 82 → j ≠ 34 → F1 j = F j) → F1 34 = .inl (.int ((1 : Int32))) → Q (some (.int ((0 : Int32)))) (sy_dh F1 X1 X2 (iv_H 3))) :
    hd_W Ls xs d jm_M41 Q (0, sy_dL F [some (.inl (.ref 30)), none, none, none], sy_dS F [], sy_dh F X1 X2 (iv_H 3), 0, 0) := by
  refine hd_ret (s := 3) (nv := 82) (v := some (.inl (.int 0))) (uh := hd_ov (iv_id 0 iv_B0) [(34, .inl (.inl (.int 1)))]) (f := true) (sp := [27]) (d0 := 3) (O := [false, false, false]) (T := [(30, [.inr (.inl 33)], [.inr (.inl 39)])]) (P := [(3, .inr (.inl 33), .inl (.int 0)), (3, .inl (.int 400), .inr (.inl 33)), (6, .inr (.inl 33), .inl (.ref 401)), (1, .inr (.inl 82), .inl (.int 23))]) jm_ok41 (by decide +kernel) (by decide +kernel) hd F X1 X2 (fun F' hF hs => ?_)
  have b33 := hd_b (F := F) (F' := F') (k := 33) (hF 33 (by decide))
  have a39 := hd_ba (F := F) (F' := F') (k := 39) (hF 39 (by decide))
  have t82 : sy_dv F' (.inr (.inl 82)) = .int ((sy_ai F 39).getD (sy_i F 33).toNatClampNeg 0) := hd_rd (hs 0 _ rfl) b33 a39
  have hB' : iv_in F' iv_B0 := iv_in_eq hB (fun j hj => hF j (Nat.lt_of_lt_of_le hj (by decide +kernel)))
  refine ⟨List.forall_mem_cons.mpr ⟨hd_p3 b33 rfl (by have hc : ((0) : Int32).toInt = 0 := (by decide); omega), List.forall_mem_cons.mpr ⟨hd_p3 rfl b33 (by have hc : ((400) : Int32).toInt = 400 := (by decide); omega), List.forall_mem_cons.mpr ⟨hd_pb b33 (by first | exact h2 | exact h2), List.forall_mem_cons.mpr ⟨hd_p1 t82 rfl (by have hc : ((23) : Int32).toInt = 23 := (by decide); omega), fun _ h => absurd h List.not_mem_nil⟩⟩⟩⟩, ?_⟩
  refine k _ ?_ ?_
  · exact fun j hj hn => (hd_keep hB' (Nat.lt_of_lt_of_le hj (by decide +kernel)) (by simp; omega)).trans (hF j (Nat.lt_of_lt_of_le hj (by decide)))
  · exact hd_gi (x := .inl (.int 1)) (by decide +kernel) rfl
theorem k3tm_0 {Ls : Nat} {xs : Nat → Int32} {d : Nat} {Q : Option Value → jm_h → Prop} (hd : 4 ≤ d) (F : Nat → sy_d) (X1 X2 : List jm_c) (hB : iv_in F iv_B0)
    (k0 : 0 ≤ (sy_i F 33).toInt → (sy_i F 33).toInt ≤ 400 → ((sy_ai F 39).getD ((sy_i F 33).toInt).toNat 0).toInt = 23 → (sy_i F 33).toInt < 400 → 0 ≤ (((sy_i F 33).toInt + 1) - 1) → (((sy_i F 33).toInt + 1) - 1) ≤ 400 → ∀ F1 : Nat → sy_d, iv_in F1 iv_B0 → (∀ j, j < 82 → j ∉ ([33] : List Nat) → F1 j = F j) → (sy_i F1 33).toInt = ((sy_i F 33).toInt + 1) → (sy_i F1 34).toInt = (sy_i F 34).toInt → (sy_i F1 36).toInt = (sy_i F 36).toInt → (sy_i F1 37).toInt = (sy_i F 37).toInt → (sy_i F1 38).toInt = (sy_i F 38).toInt → sy_ai F1 39 = sy_ai F 39 → sy_ai F1 40 = sy_ai F 40 → sy_al F1 43 = sy_al F 43 → sy_l F1 82 = (sy_al F 41).getD ((((sy_i F 33).toInt + 1) - 1)).toNat 0 → (sy_i F1 83).toInt = 0 → hd_W Ls xs d jm_M41 Q (27, sy_dL F1 [some (.inl (.ref 30)), some (.inr (.inr 82)), none, some (.inr (.inl 83))], sy_dS F1 [], sy_dh F1 X1 X2 (iv_H 3), 0, 0))
    (k1 : 0 ≤ (sy_i F 33).toInt → (sy_i F 33).toInt ≤ 400 → ((sy_ai F 39).getD ((sy_i F 33).toInt).toNat 0).toInt = 23 → 400 ≤ (sy_i F 33).toInt → ∀ F1 : Nat → sy_d, iv_in F1 iv_B0 → (∀ j, j < 82 → j ∉ ([34] : List Nat) → F1 j = F j) → (sy_i F1 33).toInt = (sy_i F 33).toInt → (sy_i F1 34).toInt = 2 → (sy_i F1 36).toInt = (sy_i F 36).toInt → (sy_i F1 37).toInt = (sy_i F 37).toInt → (sy_i F1 38).toInt = (sy_i F 38).toInt → sy_ai F1 39 = sy_ai F 39 → sy_ai F1 40 = sy_ai F 40 → sy_al F1 43 = sy_al F 43 → Q (some (.int ((0 : Int32)))) (sy_dh F1 X1 X2 (iv_H 3)))
    (k2 : 0 ≤ (sy_i F 33).toInt → (sy_i F 33).toInt ≤ 400 → ((sy_ai F 39).getD ((sy_i F 33).toInt).toNat 0).toInt ≠ 23 → ∀ F1 : Nat → sy_d, iv_in F1 iv_B0 → (∀ j, j < 82 → j ∉ ([34] : List Nat) → F1 j = F j) → (sy_i F1 33).toInt = (sy_i F 33).toInt → (sy_i F1 34).toInt = 1 → (sy_i F1 36).toInt = (sy_i F 36).toInt → (sy_i F1 37).toInt = (sy_i F 37).toInt → (sy_i F1 38).toInt = (sy_i F 38).toInt → sy_ai F1 39 = sy_ai F 39 → sy_ai F1 40 = sy_ai F 40 → sy_al F1 43 = sy_al F 43 → Q (some (.int ((0 : Int32)))) (sy_dh F1 X1 X2 (iv_H 3))) :
    hd_W Ls xs d jm_M41 Q (0, sy_dL F [some (.inl (.ref 30)), none, none, none], sy_dS F [], sy_dh F X1 X2 (iv_H 3), 0, 0) := by
  by_cases g0 : (sy_i F 33).toInt < 0
  · have c33 := nz_bx hB (k := 33) (lo := 0) (hi := 400) rfl
    exfalso
    omega
  replace g0 : 0 ≤ (sy_i F 33).toInt := by omega
  by_cases g1 : 400 < (sy_i F 33).toInt
  · have c33 := nz_bx hB (k := 33) (lo := 0) (hi := 400) rfl
    exfalso
    omega
  replace g1 : (sy_i F 33).toInt ≤ 400 := by omega
  by_cases g2 : ((sy_ai F 39).getD ((sy_i F 33).toInt).toNat 0).toInt = 23
  · by_cases g3 : (sy_i F 33).toInt < 400
    · by_cases g4 : (((sy_i F 33).toInt + 1) - 1) < 0
      · have c33 := nz_bx hB (k := 33) (lo := 0) (hi := 400) rfl
        have q82 : (sy_ai F 39).getD (sy_i F 33).toNatClampNeg 0 = (sy_ai F 39).getD ((sy_i F 33).toInt).toNat 0 := by simp only [nz_c]
        have n82 : ((sy_ai F 39).getD (sy_i F 33).toNatClampNeg 0).toInt = ((sy_ai F 39).getD ((sy_i F 33).toInt).toNat 0).toInt := congrArg Int32.toInt q82
        have n83 : ((sy_i F 33) + ((1 : Int32))).toInt = ((sy_i F 33).toInt + 1) := nz_add (rfl : (sy_i F 33).toInt = (sy_i F 33).toInt) (by decide : ((1 : Int32)).toInt = 1) (by omega) (by omega)
        have n84 : (((sy_i F 33) + ((1 : Int32))) - ((1 : Int32))).toInt = (((sy_i F 33).toInt + 1) - 1) := nz_sub n83 (by decide : ((1 : Int32)).toInt = 1) (by omega) (by omega)
        exfalso
        omega
      replace g4 : 0 ≤ (((sy_i F 33).toInt + 1) - 1) := by omega
      by_cases g5 : 400 < (((sy_i F 33).toInt + 1) - 1)
      · have c33 := nz_bx hB (k := 33) (lo := 0) (hi := 400) rfl
        have q82 : (sy_ai F 39).getD (sy_i F 33).toNatClampNeg 0 = (sy_ai F 39).getD ((sy_i F 33).toInt).toNat 0 := by simp only [nz_c]
        have n82 : ((sy_ai F 39).getD (sy_i F 33).toNatClampNeg 0).toInt = ((sy_ai F 39).getD ((sy_i F 33).toInt).toNat 0).toInt := congrArg Int32.toInt q82
        have n83 : ((sy_i F 33) + ((1 : Int32))).toInt = ((sy_i F 33).toInt + 1) := nz_add (rfl : (sy_i F 33).toInt = (sy_i F 33).toInt) (by decide : ((1 : Int32)).toInt = 1) (by omega) (by omega)
        have n84 : (((sy_i F 33) + ((1 : Int32))) - ((1 : Int32))).toInt = (((sy_i F 33).toInt + 1) - 1) := nz_sub n83 (by decide : ((1 : Int32)).toInt = 1) (by omega) (by omega)
        exfalso
        omega
      replace g5 : (((sy_i F 33).toInt + 1) - 1) ≤ 400 := by omega
      have c33 := nz_bx hB (k := 33) (lo := 0) (hi := 400) rfl
      have q82 : (sy_ai F 39).getD (sy_i F 33).toNatClampNeg 0 = (sy_ai F 39).getD ((sy_i F 33).toInt).toNat 0 := by simp only [nz_c]
      have n82 : ((sy_ai F 39).getD (sy_i F 33).toNatClampNeg 0).toInt = ((sy_ai F 39).getD ((sy_i F 33).toInt).toNat 0).toInt := congrArg Int32.toInt q82
      have n83 : ((sy_i F 33) + ((1 : Int32))).toInt = ((sy_i F 33).toInt + 1) := nz_add (rfl : (sy_i F 33).toInt = (sy_i F 33).toInt) (by decide : ((1 : Int32)).toInt = 1) (by omega) (by omega)
      have n84 : (((sy_i F 33) + ((1 : Int32))) - ((1 : Int32))).toInt = (((sy_i F 33).toInt + 1) - 1) := nz_sub n83 (by decide : ((1 : Int32)).toInt = 1) (by omega) (by omega)
      have q85 : (sy_al F 41).getD (((sy_i F 33) + ((1 : Int32))) - ((1 : Int32))).toNatClampNeg 0 = (sy_al F 41).getD ((((sy_i F 33).toInt + 1) - 1)).toNat 0 := by simp only [nz_c, n83, n84, (by decide : ((1 : Int32)).toInt = 1)]
      exact k3tm_0_p0 hd F X1 X2 hB (by first | exact g0 | (simp only [nz_c]; exact g0)) (by first | exact g1 | (simp only [nz_c]; exact g1)) (by first | exact ⟨by omega, by omega⟩ | (simp only [nz_c]; exact ⟨by omega, by omega⟩)) (by first | exact g2 | (simp only [nz_c]; exact g2) | (rw [n82]; exact g2)) (by first | exact g3 | (simp only [nz_c]; exact g3)) (by first | exact g4 | (simp only [nz_c, n83, n84]; exact g4) | (rw [n84]; exact g4)) (by first | exact g5 | (simp only [nz_c, n83, n84]; exact g5) | (rw [n84]; exact g5)) (by first | exact ⟨by omega, by omega⟩ | (simp only [nz_c, n83, n84]; exact ⟨by omega, by omega⟩) | (rw [n84]; exact ⟨by omega, by omega⟩)) (fun F1 g e33 e82 e83 => k0 g0 g1 g2 g3 g4 g5 F1 (nz_in0 hB [33] (fun j hj hn => g j hj (by simp only [List.mem_cons, List.not_mem_nil, or_false, not_or] at hn; omega)) (List.forall_mem_cons.mpr ⟨fun t ht => (Option.some.inj ht) ▸ (nz_hi e33 n83 (by omega) (by omega)), List.forall_mem_nil _⟩)) (fun j hj hn => g j hj (by simp only [List.mem_cons, List.not_mem_nil, or_false, not_or] at hn; omega)) ((congrArg Int32.toInt (zz_i e33)).trans n83) (nz_fi (g 34 (by decide) (by decide))) (nz_fi (g 36 (by decide) (by decide))) (nz_fi (g 37 (by decide) (by decide))) (nz_fi (g 38 (by decide) (by decide))) (nz_fa (g 39 (by decide) (by decide))) (nz_fa (g 40 (by decide) (by decide))) (nz_fl (g 43 (by decide) (by decide))) ((zz_l e82).trans q85) ((congrArg Int32.toInt (zz_i e83)).trans (by decide : ((0 : Int32)).toInt = 0)))
    replace g3 : 400 ≤ (sy_i F 33).toInt := by omega
    have c33 := nz_bx hB (k := 33) (lo := 0) (hi := 400) rfl
    have q82 : (sy_ai F 39).getD (sy_i F 33).toNatClampNeg 0 = (sy_ai F 39).getD ((sy_i F 33).toInt).toNat 0 := by simp only [nz_c]
    have n82 : ((sy_ai F 39).getD (sy_i F 33).toNatClampNeg 0).toInt = ((sy_ai F 39).getD ((sy_i F 33).toInt).toNat 0).toInt := congrArg Int32.toInt q82
    exact k3tm_0_p1 hd F X1 X2 hB (by first | exact g0 | (simp only [nz_c]; exact g0)) (by first | exact g1 | (simp only [nz_c]; exact g1)) (by first | exact ⟨by omega, by omega⟩ | (simp only [nz_c]; exact ⟨by omega, by omega⟩)) (by first | exact g2 | (simp only [nz_c]; exact g2) | (rw [n82]; exact g2)) (by first | exact g3 | (simp only [nz_c]; exact g3)) (fun F1 g e34 => k1 g0 g1 g2 g3 F1 (nz_in0 hB [34] (fun j hj hn => g j hj (by simp only [List.mem_cons, List.not_mem_nil, or_false, not_or] at hn; omega)) (List.forall_mem_cons.mpr ⟨fun t ht => (Option.some.inj ht) ▸ (nz_hz e34), List.forall_mem_nil _⟩)) (fun j hj hn => g j hj (by simp only [List.mem_cons, List.not_mem_nil, or_false, not_or] at hn; omega)) (nz_fi (g 33 (by decide) (by decide))) ((congrArg Int32.toInt (zz_i e34)).trans (by decide : ((2 : Int32)).toInt = 2)) (nz_fi (g 36 (by decide) (by decide))) (nz_fi (g 37 (by decide) (by decide))) (nz_fi (g 38 (by decide) (by decide))) (nz_fa (g 39 (by decide) (by decide))) (nz_fa (g 40 (by decide) (by decide))) (nz_fl (g 43 (by decide) (by decide))))
  replace g2 : ((sy_ai F 39).getD ((sy_i F 33).toInt).toNat 0).toInt ≠ 23 := by omega
  have c33 := nz_bx hB (k := 33) (lo := 0) (hi := 400) rfl
  have q82 : (sy_ai F 39).getD (sy_i F 33).toNatClampNeg 0 = (sy_ai F 39).getD ((sy_i F 33).toInt).toNat 0 := by simp only [nz_c]
  have n82 : ((sy_ai F 39).getD (sy_i F 33).toNatClampNeg 0).toInt = ((sy_ai F 39).getD ((sy_i F 33).toInt).toNat 0).toInt := congrArg Int32.toInt q82
  exact k3tm_0_p2 hd F X1 X2 hB (by first | exact g0 | (simp only [nz_c]; exact g0)) (by first | exact g1 | (simp only [nz_c]; exact g1)) (by first | exact ⟨by omega, by omega⟩ | (simp only [nz_c]; exact ⟨by omega, by omega⟩)) (by first | exact g2 | (simp only [nz_c]; exact g2) | (rw [n82]; exact g2)) (fun F1 g e34 => k2 g0 g1 g2 F1 (nz_in0 hB [34] (fun j hj hn => g j hj (by simp only [List.mem_cons, List.not_mem_nil, or_false, not_or] at hn; omega)) (List.forall_mem_cons.mpr ⟨fun t ht => (Option.some.inj ht) ▸ (nz_hz e34), List.forall_mem_nil _⟩)) (fun j hj hn => g j hj (by simp only [List.mem_cons, List.not_mem_nil, or_false, not_or] at hn; omega)) (nz_fi (g 33 (by decide) (by decide))) ((congrArg Int32.toInt (zz_i e34)).trans (by decide : ((1 : Int32)).toInt = 1)) (nz_fi (g 36 (by decide) (by decide))) (nz_fi (g 37 (by decide) (by decide))) (nz_fi (g 38 (by decide) (by decide))) (nz_fa (g 39 (by decide) (by decide))) (nz_fa (g 40 (by decide) (by decide))) (nz_fl (g 43 (by decide) (by decide))))
theorem k3tm_27_p0 {Ls : Nat} {xs : Nat → Int32} {d : Nat} {Q : Option Value → jm_h → Prop} (hd : 4 ≤ d) (F : Nat → sy_d) (X1 X2 : List jm_c) (hB : iv_in F iv_B0)
    (h0 : (sy_i F 38).toInt ≤ (sy_i F 83).toInt)
    (h1 : 11 ≤ (sy_i F 38).toInt)
    (k : ∀ F1 : Nat → sy_d, (∀ j, j < 82 → True → F1 j = F j) → Q (some (.int ((1 : Int32)))) (sy_dh F1 X1 X2 (iv_H 3))) :
    hd_W Ls xs d jm_M41 Q (27, sy_dL F [some (.inl (.ref 30)), some (.inr (.inr 82)), none, some (.inr (.inl 83))], sy_dS F [], sy_dh F X1 X2 (iv_H 3), 0, 0) := by
  refine hd_ret (s := 3) (nv := 84) (v := some (.inl (.int 1))) (uh := hd_ov (iv_id 0 iv_B0) []) (f := true) (sp := [27]) (d0 := 3) (O := [true, true]) (T := []) (P := [(4, .inr (.inl 38), .inr (.inl 83)), (4, .inl (.int 11), .inr (.inl 38))]) jm_ok41 (by decide +kernel) (by decide +kernel) hd F X1 X2 (fun F' hF hs => ?_)
  have b38 := hd_b (F := F) (F' := F') (k := 38) (hF 38 (by decide))
  have b83 := hd_b (F := F) (F' := F') (k := 83) (hF 83 (by decide))
  have hB' : iv_in F' iv_B0 := iv_in_eq hB (fun j hj => hF j (Nat.lt_of_lt_of_le hj (by decide +kernel)))
  refine ⟨List.forall_mem_cons.mpr ⟨hd_p4 b38 b83 h0, List.forall_mem_cons.mpr ⟨hd_p4 rfl b38 (by have hc : ((11) : Int32).toInt = 11 := (by decide); omega), fun _ h => absurd h List.not_mem_nil⟩⟩, ?_⟩
  refine k _ ?_
  · exact fun j hj _ => (hd_keep hB' (Nat.lt_of_lt_of_le hj (by decide +kernel)) (by simp)).trans (hF j (Nat.lt_of_lt_of_le hj (by decide)))
theorem k3tm_27_p1 {Ls : Nat} {xs : Nat → Int32} {d : Nat} {Q : Option Value → jm_h → Prop} (hd : 4 ≤ d) (F : Nat → sy_d) (X1 X2 : List jm_c) (hB : iv_in F iv_B0)
    (h0 : (sy_i F 38).toInt ≤ (sy_i F 83).toInt)
    (h1 : (sy_i F 38).toInt < 11)
    (h2 : 0 ≤ (sy_i F 38).toInt ∧ (sy_i F 38).toInt < 11)
    (k : ∀ F1 : Nat → sy_d, (∀ j, j < 82 → j ≠ 38 ∧ j ≠ 43 → F1 j = F j) → F1 38 = .inl (.int ((sy_i F 38) + ((1 : Int32)))) → F1 43 = .inr (.inr (jm_updL (sy_al F 43) (sy_i F 38).toNatClampNeg (sy_l F 82))) → Q (some (.int ((1 : Int32)))) (sy_dh F1 X1 X2 (iv_H 3))) :
    hd_W Ls xs d jm_M41 Q (27, sy_dL F [some (.inl (.ref 30)), some (.inr (.inr 82)), none, some (.inr (.inl 83))], sy_dS F [], sy_dh F X1 X2 (iv_H 3), 0, 0) := by
  refine hd_ret (s := 3) (nv := 84) (v := some (.inl (.int 1))) (uh := hd_ov (iv_id 0 iv_B0) [(38, .inl (.inr (.inl 85))), (43, .inr (.inr (.inr 84)))]) (f := true) (sp := [27]) (d0 := 3) (O := [true, false]) (T := [(40, [.inr (.inl 38), .inr (.inr 82)], [.inr (.inr 43)]), (0, [.inr (.inl 38), .inl (.int 1)], [])]) (P := [(4, .inr (.inl 38), .inr (.inl 83)), (5, .inl (.int 11), .inr (.inl 38)), (6, .inr (.inl 38), .inl (.ref 11))]) jm_ok41 (by decide +kernel) (by decide +kernel) hd F X1 X2 (fun F' hF hs => ?_)
  have b38 := hd_b (F := F) (F' := F') (k := 38) (hF 38 (by decide))
  have b83 := hd_b (F := F) (F' := F') (k := 83) (hF 83 (by decide))
  have t85 : sy_dv F' (.inr (.inl 85)) = .int ((sy_i F 38) + ((1 : Int32))) := hd_o (hs 1 _ rfl) b38 rfl rfl
  have b82 := hd_bl (F := F) (F' := F') (k := 82) (hF 82 (by decide))
  have a43 := hd_bA (F := F) (F' := F') (k := 43) (hF 43 (by decide))
  have t84 : sy_da F' (.inr (.inr 84)) = .inr (jm_updL (sy_al F 43) (sy_i F 38).toNatClampNeg (sy_l F 82)) := hd_uA (hs 0 _ rfl) b38 b82 a43
  have hB' : iv_in F' iv_B0 := iv_in_eq hB (fun j hj => hF j (Nat.lt_of_lt_of_le hj (by decide +kernel)))
  refine ⟨List.forall_mem_cons.mpr ⟨hd_p4 b38 b83 h0, List.forall_mem_cons.mpr ⟨hd_p5 rfl b38 (by have hc : ((11) : Int32).toInt = 11 := (by decide); omega), List.forall_mem_cons.mpr ⟨hd_pb b38 (by first | exact h2 | exact h2), fun _ h => absurd h List.not_mem_nil⟩⟩⟩, ?_⟩
  refine k _ ?_ ?_ ?_
  · exact fun j hj hn => (hd_keep hB' (Nat.lt_of_lt_of_le hj (by decide +kernel)) (by simp; omega)).trans (hF j (Nat.lt_of_lt_of_le hj (by decide)))
  · exact hd_gi (x := .inr (.inl 85)) (by decide +kernel) t85
  · exact hd_gA (a := .inr (.inr 84)) (by decide +kernel) t84
theorem k3tm_27_p2 {Ls : Nat} {xs : Nat → Int32} {d : Nat} {Q : Option Value → jm_h → Prop} (hd : 4 ≤ d) (F : Nat → sy_d) (X1 X2 : List jm_c) (hB : iv_in F iv_B0)
    (h0 : (sy_i F 83).toInt < (sy_i F 38).toInt)
    (h1 : 0 ≤ (sy_i F 83).toInt ∧ (sy_i F 83).toInt < 11)
    (h2 : (lg_cmp ((sy_al F 43).getD (sy_i F 83).toNatClampNeg 0) (sy_l F 82)).toInt ≠ 0)
    (k : ∀ F1 : Nat → sy_d, (∀ j, j < 82 → True → F1 j = F j) → F1 82 = .inl (.long (sy_l F 82)) → F1 83 = .inl (.int ((sy_i F 83) + ((1 : Int32)))) → hd_W Ls xs d jm_M41 Q (27, sy_dL F1 [some (.inl (.ref 30)), some (.inr (.inr 82)), none, some (.inr (.inl 83))], sy_dS F1 [], sy_dh F1 X1 X2 (iv_H 3), 0, 0)) :
    hd_W Ls xs d jm_M41 Q (27, sy_dL F [some (.inl (.ref 30)), some (.inr (.inr 82)), none, some (.inr (.inl 83))], sy_dS F [], sy_dh F X1 X2 (iv_H 3), 0, 0) := by
  refine hd_run (s := 3) (nv := 84) (pc := 27) (L := [some (.inl (.ref 30)), some (.inr (.inr 82)), none, some (.inr (.inl 83))]) (S := []) (uh := hd_ov (iv_id 0 iv_B0) []) (ul := [.inl (.inr (.inr 82)), .inl (.inr (.inl 86))]) (f := true) (sp := [27]) (d0 := 3) (O := [false, true]) (T := [(30, [.inr (.inl 83)], [.inr (.inr 43)]), (17, [.inr (.inr 84), .inr (.inr 82)], []), (0, [.inr (.inl 83), .inl (.int 1)], [])]) (P := [(5, .inr (.inl 38), .inr (.inl 83)), (6, .inr (.inl 83), .inl (.ref 11)), (1, .inr (.inl 85), .inl (.int 0))]) jm_ok41 (by decide +kernel) (by decide +kernel) hd F X1 X2 (fun F' hF hs => ?_)
  have b38 := hd_b (F := F) (F' := F') (k := 38) (hF 38 (by decide))
  have b83 := hd_b (F := F) (F' := F') (k := 83) (hF 83 (by decide))
  have a43 := hd_bA (F := F) (F' := F') (k := 43) (hF 43 (by decide))
  have t84 : sy_dv F' (.inr (.inr 84)) = .long ((sy_al F 43).getD (sy_i F 83).toNatClampNeg 0) := hd_rL (hs 0 _ rfl) b83 a43
  have b82 := hd_bl (F := F) (F' := F') (k := 82) (hF 82 (by decide))
  have t85 : sy_dv F' (.inr (.inl 85)) = .int (lg_cmp ((sy_al F 43).getD (sy_i F 83).toNatClampNeg 0) (sy_l F 82)) := hd_oc (hs 1 _ rfl) t84 b82 rfl
  have t86 : sy_dv F' (.inr (.inl 86)) = .int ((sy_i F 83) + ((1 : Int32))) := hd_o (hs 2 _ rfl) b83 rfl rfl
  have hB' : iv_in F' iv_B0 := iv_in_eq hB (fun j hj => hF j (Nat.lt_of_lt_of_le hj (by decide +kernel)))
  refine ⟨List.forall_mem_cons.mpr ⟨hd_p5 b38 b83 h0, List.forall_mem_cons.mpr ⟨hd_pb b83 (by first | exact h1 | exact h1), List.forall_mem_cons.mpr ⟨hd_p1 t85 rfl (by have hc : ((0) : Int32).toInt = 0 := (by decide); omega), fun _ h => absurd h List.not_mem_nil⟩⟩⟩, ?_⟩
  refine k _ ?_ ?_ ?_
  · exact fun j hj _ => (hd_keep hB' (Nat.lt_of_lt_of_le hj (by decide +kernel)) (by simp)).trans (hF j (Nat.lt_of_lt_of_le hj (by decide)))
  · exact hd_gl (x := .inr (.inr 82)) (by decide +kernel) b82
  · exact hd_gi (x := .inr (.inl 86)) (by decide +kernel) t86
theorem k3tm_27_p3 {Ls : Nat} {xs : Nat → Int32} {d : Nat} {Q : Option Value → jm_h → Prop} (hd : 4 ≤ d) (F : Nat → sy_d) (X1 X2 : List jm_c) (hB : iv_in F iv_B0)
    (h0 : (sy_i F 83).toInt < (sy_i F 38).toInt)
    (h1 : 0 ≤ (sy_i F 83).toInt ∧ (sy_i F 83).toInt < 11)
    (h2 : (lg_cmp ((sy_al F 43).getD (sy_i F 83).toNatClampNeg 0) (sy_l F 82)).toInt = 0)
    (h3 : (sy_i F 36).toInt ≠ 0)
    (k : ∀ F1 : Nat → sy_d, (∀ j, j < 82 → True → F1 j = F j) → Q (some (.int ((1 : Int32)))) (sy_dh F1 X1 X2 (iv_H 3))) :
    hd_W Ls xs d jm_M41 Q (27, sy_dL F [some (.inl (.ref 30)), some (.inr (.inr 82)), none, some (.inr (.inl 83))], sy_dS F [], sy_dh F X1 X2 (iv_H 3), 0, 0) := by
  refine hd_ret (s := 3) (nv := 84) (v := some (.inl (.int 1))) (uh := hd_ov (iv_id 0 iv_B0) []) (f := true) (sp := [27]) (d0 := 3) (O := [false, false, true]) (T := [(30, [.inr (.inl 83)], [.inr (.inr 43)]), (17, [.inr (.inr 84), .inr (.inr 82)], [])]) (P := [(5, .inr (.inl 38), .inr (.inl 83)), (6, .inr (.inl 83), .inl (.ref 11)), (0, .inr (.inl 85), .inl (.int 0)), (1, .inr (.inl 36), .inl (.int 0))]) jm_ok41 (by decide +kernel) (by decide +kernel) hd F X1 X2 (fun F' hF hs => ?_)
  have b38 := hd_b (F := F) (F' := F') (k := 38) (hF 38 (by decide))
  have b83 := hd_b (F := F) (F' := F') (k := 83) (hF 83 (by decide))
  have a43 := hd_bA (F := F) (F' := F') (k := 43) (hF 43 (by decide))
  have t84 : sy_dv F' (.inr (.inr 84)) = .long ((sy_al F 43).getD (sy_i F 83).toNatClampNeg 0) := hd_rL (hs 0 _ rfl) b83 a43
  have b82 := hd_bl (F := F) (F' := F') (k := 82) (hF 82 (by decide))
  have t85 : sy_dv F' (.inr (.inl 85)) = .int (lg_cmp ((sy_al F 43).getD (sy_i F 83).toNatClampNeg 0) (sy_l F 82)) := hd_oc (hs 1 _ rfl) t84 b82 rfl
  have b36 := hd_b (F := F) (F' := F') (k := 36) (hF 36 (by decide))
  have hB' : iv_in F' iv_B0 := iv_in_eq hB (fun j hj => hF j (Nat.lt_of_lt_of_le hj (by decide +kernel)))
  refine ⟨List.forall_mem_cons.mpr ⟨hd_p5 b38 b83 h0, List.forall_mem_cons.mpr ⟨hd_pb b83 (by first | exact h1 | exact h1), List.forall_mem_cons.mpr ⟨hd_p0 t85 rfl (by have hc : ((0) : Int32).toInt = 0 := (by decide); omega), List.forall_mem_cons.mpr ⟨hd_p1 b36 rfl (by have hc : ((0) : Int32).toInt = 0 := (by decide); omega), fun _ h => absurd h List.not_mem_nil⟩⟩⟩⟩, ?_⟩
  refine k _ ?_
  · exact fun j hj _ => (hd_keep hB' (Nat.lt_of_lt_of_le hj (by decide +kernel)) (by simp)).trans (hF j (Nat.lt_of_lt_of_le hj (by decide)))
theorem k3tm_27_p4 {Ls : Nat} {xs : Nat → Int32} {d : Nat} {Q : Option Value → jm_h → Prop} (hd : 4 ≤ d) (F : Nat → sy_d) (X1 X2 : List jm_c) (hB : iv_in F iv_B0)
    (h0 : (sy_i F 83).toInt < (sy_i F 38).toInt)
    (h1 : 0 ≤ (sy_i F 83).toInt ∧ (sy_i F 83).toInt < 11)
    (h2 : (lg_cmp ((sy_al F 43).getD (sy_i F 83).toNatClampNeg 0) (sy_l F 82)).toInt = 0)
    (h3 : (sy_i F 36).toInt = 0)
    (h4 : ((sy_i F 33) - ((1 : Int32))).toInt < 0)
    (k : ∀ F1 : Nat → sy_d, (∀ j, j < 82 → j ≠ 36 ∧ j ≠ 37 → F1 j = F j) → F1 36 = .inl (.int ((3 : Int32))) → F1 37 = .inl (.int ((0 : Int32))) → Q (some (.int ((1 : Int32)))) (sy_dh F1 X1 X2 (iv_H 3))) :
    hd_W Ls xs d jm_M41 Q (27, sy_dL F [some (.inl (.ref 30)), some (.inr (.inr 82)), none, some (.inr (.inl 83))], sy_dS F [], sy_dh F X1 X2 (iv_H 3), 0, 0) := by
  refine hd_ret (s := 3) (nv := 84) (v := some (.inl (.int 1))) (uh := hd_ov (iv_id 0 iv_B0) [(36, .inl (.inl (.int 3))), (37, .inl (.inl (.int 0)))]) (f := true) (sp := [27]) (d0 := 3) (O := [false, false, false, true]) (T := [(30, [.inr (.inl 83)], [.inr (.inr 43)]), (17, [.inr (.inr 84), .inr (.inr 82)], []), (1, [.inr (.inl 33), .inl (.int 1)], [])]) (P := [(5, .inr (.inl 38), .inr (.inl 83)), (6, .inr (.inl 83), .inl (.ref 11)), (0, .inr (.inl 85), .inl (.int 0)), (0, .inr (.inl 36), .inl (.int 0)), (2, .inr (.inl 86), .inl (.int 0))]) jm_ok41 (by decide +kernel) (by decide +kernel) hd F X1 X2 (fun F' hF hs => ?_)
  have b38 := hd_b (F := F) (F' := F') (k := 38) (hF 38 (by decide))
  have b83 := hd_b (F := F) (F' := F') (k := 83) (hF 83 (by decide))
  have a43 := hd_bA (F := F) (F' := F') (k := 43) (hF 43 (by decide))
  have t84 : sy_dv F' (.inr (.inr 84)) = .long ((sy_al F 43).getD (sy_i F 83).toNatClampNeg 0) := hd_rL (hs 0 _ rfl) b83 a43
  have b82 := hd_bl (F := F) (F' := F') (k := 82) (hF 82 (by decide))
  have t85 : sy_dv F' (.inr (.inl 85)) = .int (lg_cmp ((sy_al F 43).getD (sy_i F 83).toNatClampNeg 0) (sy_l F 82)) := hd_oc (hs 1 _ rfl) t84 b82 rfl
  have b36 := hd_b (F := F) (F' := F') (k := 36) (hF 36 (by decide))
  have b33 := hd_b (F := F) (F' := F') (k := 33) (hF 33 (by decide))
  have t86 : sy_dv F' (.inr (.inl 86)) = .int ((sy_i F 33) - ((1 : Int32))) := hd_o (hs 2 _ rfl) b33 rfl rfl
  have hB' : iv_in F' iv_B0 := iv_in_eq hB (fun j hj => hF j (Nat.lt_of_lt_of_le hj (by decide +kernel)))
  refine ⟨List.forall_mem_cons.mpr ⟨hd_p5 b38 b83 h0, List.forall_mem_cons.mpr ⟨hd_pb b83 (by first | exact h1 | exact h1), List.forall_mem_cons.mpr ⟨hd_p0 t85 rfl (by have hc : ((0) : Int32).toInt = 0 := (by decide); omega), List.forall_mem_cons.mpr ⟨hd_p0 b36 rfl (by have hc : ((0) : Int32).toInt = 0 := (by decide); omega), List.forall_mem_cons.mpr ⟨hd_p2 t86 rfl (by have hc : ((0) : Int32).toInt = 0 := (by decide); omega), fun _ h => absurd h List.not_mem_nil⟩⟩⟩⟩⟩, ?_⟩
  refine k _ ?_ ?_ ?_
  · exact fun j hj hn => (hd_keep hB' (Nat.lt_of_lt_of_le hj (by decide +kernel)) (by simp; omega)).trans (hF j (Nat.lt_of_lt_of_le hj (by decide)))
  · exact hd_gi (x := .inl (.int 3)) (by decide +kernel) rfl
  · exact hd_gi (x := .inl (.int 0)) (by decide +kernel) rfl
theorem k3tm_27_p5 {Ls : Nat} {xs : Nat → Int32} {d : Nat} {Q : Option Value → jm_h → Prop} (hd : 4 ≤ d) (F : Nat → sy_d) (X1 X2 : List jm_c) (hB : iv_in F iv_B0)
    (h0 : (sy_i F 83).toInt < (sy_i F 38).toInt)
    (h1 : 0 ≤ (sy_i F 83).toInt ∧ (sy_i F 83).toInt < 11)
    (h2 : (lg_cmp ((sy_al F 43).getD (sy_i F 83).toNatClampNeg 0) (sy_l F 82)).toInt = 0)
    (h3 : (sy_i F 36).toInt = 0)
    (h4 : 0 ≤ ((sy_i F 33) - ((1 : Int32))).toInt)
    (h5 : ((sy_i F 33) - ((1 : Int32))).toInt ≤ 400)
    (h6 : 0 ≤ ((sy_i F 33) - ((1 : Int32))).toInt ∧ ((sy_i F 33) - ((1 : Int32))).toInt < 401)
    (k : ∀ F1 : Nat → sy_d, (∀ j, j < 82 → j ≠ 36 ∧ j ≠ 37 → F1 j = F j) → F1 36 = .inl (.int ((3 : Int32))) → F1 37 = .inl (.int ((sy_ai F 40).getD ((sy_i F 33) - ((1 : Int32))).toNatClampNeg 0)) → Q (some (.int ((1 : Int32)))) (sy_dh F1 X1 X2 (iv_H 3))) :
    hd_W Ls xs d jm_M41 Q (27, sy_dL F [some (.inl (.ref 30)), some (.inr (.inr 82)), none, some (.inr (.inl 83))], sy_dS F [], sy_dh F X1 X2 (iv_H 3), 0, 0) := by
  refine hd_ret (s := 3) (nv := 84) (v := some (.inl (.int 1))) (uh := hd_ov (iv_id 0 iv_B0) [(36, .inl (.inl (.int 3))), (37, .inl (.inr (.inl 87)))]) (f := true) (sp := [27]) (d0 := 3) (O := [false, false, false, false, false]) (T := [(30, [.inr (.inl 83)], [.inr (.inr 43)]), (17, [.inr (.inr 84), .inr (.inr 82)], []), (1, [.inr (.inl 33), .inl (.int 1)], []), (30, [.inr (.inl 86)], [.inr (.inl 40)])]) (P := [(5, .inr (.inl 38), .inr (.inl 83)), (6, .inr (.inl 83), .inl (.ref 11)), (0, .inr (.inl 85), .inl (.int 0)), (0, .inr (.inl 36), .inl (.int 0)), (3, .inr (.inl 86), .inl (.int 0)), (3, .inl (.int 400), .inr (.inl 86)), (6, .inr (.inl 86), .inl (.ref 401))]) jm_ok41 (by decide +kernel) (by decide +kernel) hd F X1 X2 (fun F' hF hs => ?_)
  have b38 := hd_b (F := F) (F' := F') (k := 38) (hF 38 (by decide))
  have b83 := hd_b (F := F) (F' := F') (k := 83) (hF 83 (by decide))
  have a43 := hd_bA (F := F) (F' := F') (k := 43) (hF 43 (by decide))
  have t84 : sy_dv F' (.inr (.inr 84)) = .long ((sy_al F 43).getD (sy_i F 83).toNatClampNeg 0) := hd_rL (hs 0 _ rfl) b83 a43
  have b82 := hd_bl (F := F) (F' := F') (k := 82) (hF 82 (by decide))
  have t85 : sy_dv F' (.inr (.inl 85)) = .int (lg_cmp ((sy_al F 43).getD (sy_i F 83).toNatClampNeg 0) (sy_l F 82)) := hd_oc (hs 1 _ rfl) t84 b82 rfl
  have b36 := hd_b (F := F) (F' := F') (k := 36) (hF 36 (by decide))
  have b33 := hd_b (F := F) (F' := F') (k := 33) (hF 33 (by decide))
  have t86 : sy_dv F' (.inr (.inl 86)) = .int ((sy_i F 33) - ((1 : Int32))) := hd_o (hs 2 _ rfl) b33 rfl rfl
  have a40 := hd_ba (F := F) (F' := F') (k := 40) (hF 40 (by decide))
  have t87 : sy_dv F' (.inr (.inl 87)) = .int ((sy_ai F 40).getD ((sy_i F 33) - ((1 : Int32))).toNatClampNeg 0) := hd_rd (hs 3 _ rfl) t86 a40
  have hB' : iv_in F' iv_B0 := iv_in_eq hB (fun j hj => hF j (Nat.lt_of_lt_of_le hj (by decide +kernel)))
  refine ⟨List.forall_mem_cons.mpr ⟨hd_p5 b38 b83 h0, List.forall_mem_cons.mpr ⟨hd_pb b83 (by first | exact h1 | exact h1), List.forall_mem_cons.mpr ⟨hd_p0 t85 rfl (by have hc : ((0) : Int32).toInt = 0 := (by decide); omega), List.forall_mem_cons.mpr ⟨hd_p0 b36 rfl (by have hc : ((0) : Int32).toInt = 0 := (by decide); omega), List.forall_mem_cons.mpr ⟨hd_p3 t86 rfl (by have hc : ((0) : Int32).toInt = 0 := (by decide); omega), List.forall_mem_cons.mpr ⟨hd_p3 rfl t86 (by have hc : ((400) : Int32).toInt = 400 := (by decide); omega), List.forall_mem_cons.mpr ⟨hd_pb t86 (by first | exact h6 | exact h6), fun _ h => absurd h List.not_mem_nil⟩⟩⟩⟩⟩⟩⟩, ?_⟩
  refine k _ ?_ ?_ ?_
  · exact fun j hj hn => (hd_keep hB' (Nat.lt_of_lt_of_le hj (by decide +kernel)) (by simp; omega)).trans (hF j (Nat.lt_of_lt_of_le hj (by decide)))
  · exact hd_gi (x := .inl (.int 3)) (by decide +kernel) rfl
  · exact hd_gi (x := .inr (.inl 87)) (by decide +kernel) t87
theorem k3tm_27 {Ls : Nat} {xs : Nat → Int32} {d : Nat} {Q : Option Value → jm_h → Prop} (hd : 4 ≤ d) (F : Nat → sy_d) (X1 X2 : List jm_c) (hB : iv_in F iv_B0)
    (a83 : 0 ≤ (sy_i F 83).toInt ∧ (sy_i F 83).toInt ≤ 11)
    (k0 : (sy_i F 38).toInt ≤ (sy_i F 83).toInt → 11 ≤ (sy_i F 38).toInt → ∀ F1 : Nat → sy_d, iv_in F1 iv_B0 → (∀ j, j < 82 → j ∉ ([] : List Nat) → F1 j = F j) → (sy_i F1 33).toInt = (sy_i F 33).toInt → (sy_i F1 34).toInt = (sy_i F 34).toInt → (sy_i F1 36).toInt = (sy_i F 36).toInt → (sy_i F1 37).toInt = (sy_i F 37).toInt → (sy_i F1 38).toInt = (sy_i F 38).toInt → sy_ai F1 39 = sy_ai F 39 → sy_ai F1 40 = sy_ai F 40 → sy_al F1 43 = sy_al F 43 → Q (some (.int ((1 : Int32)))) (sy_dh F1 X1 X2 (iv_H 3)))
    (k1 : (sy_i F 38).toInt ≤ (sy_i F 83).toInt → (sy_i F 38).toInt < 11 → ∀ F1 : Nat → sy_d, iv_in F1 iv_B0 → (∀ j, j < 82 → j ∉ ([38, 43] : List Nat) → F1 j = F j) → (sy_i F1 33).toInt = (sy_i F 33).toInt → (sy_i F1 34).toInt = (sy_i F 34).toInt → (sy_i F1 36).toInt = (sy_i F 36).toInt → (sy_i F1 37).toInt = (sy_i F 37).toInt → (sy_i F1 38).toInt = ((sy_i F 38).toInt + 1) → sy_ai F1 39 = sy_ai F 39 → sy_ai F1 40 = sy_ai F 40 → sy_al F1 43 = jm_updL (sy_al F 43) ((sy_i F 38).toInt).toNat (sy_l F 82) → Q (some (.int ((1 : Int32)))) (sy_dh F1 X1 X2 (iv_H 3)))
    (k2 : (sy_i F 83).toInt < (sy_i F 38).toInt → (lg_cmp ((sy_al F 43).getD ((sy_i F 83).toInt).toNat 0) (sy_l F 82)).toInt ≠ 0 → ∀ F1 : Nat → sy_d, iv_in F1 iv_B0 → (∀ j, j < 82 → j ∉ ([] : List Nat) → F1 j = F j) → (sy_i F1 33).toInt = (sy_i F 33).toInt → (sy_i F1 34).toInt = (sy_i F 34).toInt → (sy_i F1 36).toInt = (sy_i F 36).toInt → (sy_i F1 37).toInt = (sy_i F 37).toInt → (sy_i F1 38).toInt = (sy_i F 38).toInt → sy_ai F1 39 = sy_ai F 39 → sy_ai F1 40 = sy_ai F 40 → sy_al F1 43 = sy_al F 43 → sy_l F1 82 = sy_l F 82 → (sy_i F1 83).toInt = ((sy_i F 83).toInt + 1) → hd_W Ls xs d jm_M41 Q (27, sy_dL F1 [some (.inl (.ref 30)), some (.inr (.inr 82)), none, some (.inr (.inl 83))], sy_dS F1 [], sy_dh F1 X1 X2 (iv_H 3), 0, 0))
    (k3 : (sy_i F 83).toInt < (sy_i F 38).toInt → (lg_cmp ((sy_al F 43).getD ((sy_i F 83).toInt).toNat 0) (sy_l F 82)).toInt = 0 → (sy_i F 36).toInt ≠ 0 → ∀ F1 : Nat → sy_d, iv_in F1 iv_B0 → (∀ j, j < 82 → j ∉ ([] : List Nat) → F1 j = F j) → (sy_i F1 33).toInt = (sy_i F 33).toInt → (sy_i F1 34).toInt = (sy_i F 34).toInt → (sy_i F1 36).toInt = (sy_i F 36).toInt → (sy_i F1 37).toInt = (sy_i F 37).toInt → (sy_i F1 38).toInt = (sy_i F 38).toInt → sy_ai F1 39 = sy_ai F 39 → sy_ai F1 40 = sy_ai F 40 → sy_al F1 43 = sy_al F 43 → Q (some (.int ((1 : Int32)))) (sy_dh F1 X1 X2 (iv_H 3)))
    (k4 : (sy_i F 83).toInt < (sy_i F 38).toInt → (lg_cmp ((sy_al F 43).getD ((sy_i F 83).toInt).toNat 0) (sy_l F 82)).toInt = 0 → (sy_i F 36).toInt = 0 → ((sy_i F 33).toInt - 1) < 0 → ∀ F1 : Nat → sy_d, iv_in F1 iv_B0 → (∀ j, j < 82 → j ∉ ([36, 37] : List Nat) → F1 j = F j) → (sy_i F1 33).toInt = (sy_i F 33).toInt → (sy_i F1 34).toInt = (sy_i F 34).toInt → (sy_i F1 36).toInt = 3 → (sy_i F1 37).toInt = 0 → (sy_i F1 38).toInt = (sy_i F 38).toInt → sy_ai F1 39 = sy_ai F 39 → sy_ai F1 40 = sy_ai F 40 → sy_al F1 43 = sy_al F 43 → Q (some (.int ((1 : Int32)))) (sy_dh F1 X1 X2 (iv_H 3)))
    (k5 : (sy_i F 83).toInt < (sy_i F 38).toInt → (lg_cmp ((sy_al F 43).getD ((sy_i F 83).toInt).toNat 0) (sy_l F 82)).toInt = 0 → (sy_i F 36).toInt = 0 → 0 ≤ ((sy_i F 33).toInt - 1) → ((sy_i F 33).toInt - 1) ≤ 400 → ∀ F1 : Nat → sy_d, iv_in F1 iv_B0 → (∀ j, j < 82 → j ∉ ([36, 37] : List Nat) → F1 j = F j) → (sy_i F1 33).toInt = (sy_i F 33).toInt → (sy_i F1 34).toInt = (sy_i F 34).toInt → (sy_i F1 36).toInt = 3 → (sy_i F1 37).toInt = ((sy_ai F 40).getD (((sy_i F 33).toInt - 1)).toNat 0).toInt → (sy_i F1 38).toInt = (sy_i F 38).toInt → sy_ai F1 39 = sy_ai F 39 → sy_ai F1 40 = sy_ai F 40 → sy_al F1 43 = sy_al F 43 → Q (some (.int ((1 : Int32)))) (sy_dh F1 X1 X2 (iv_H 3))) :
    hd_W Ls xs d jm_M41 Q (27, sy_dL F [some (.inl (.ref 30)), some (.inr (.inr 82)), none, some (.inr (.inl 83))], sy_dS F [], sy_dh F X1 X2 (iv_H 3), 0, 0) := by
  by_cases g0 : (sy_i F 38).toInt ≤ (sy_i F 83).toInt
  · by_cases g1 : 11 ≤ (sy_i F 38).toInt
    · have c38 := nz_bx hB (k := 38) (lo := 0) (hi := 11) rfl
      exact k3tm_27_p0 hd F X1 X2 hB (by first | exact g0 | (simp only [nz_c]; exact g0)) (by first | exact g1 | (simp only [nz_c]; exact g1)) (fun F1 g  => k0 g0 g1 F1 (nz_in0 hB [] (fun j hj hn => g j hj (by simp only [List.mem_cons, List.not_mem_nil, or_false, not_or] at hn; exact trivial)) (List.forall_mem_nil _)) (fun j hj hn => g j hj (by simp only [List.mem_cons, List.not_mem_nil, or_false, not_or] at hn; exact trivial)) (nz_fi (g 33 (by decide) (by decide))) (nz_fi (g 34 (by decide) (by decide))) (nz_fi (g 36 (by decide) (by decide))) (nz_fi (g 37 (by decide) (by decide))) (nz_fi (g 38 (by decide) (by decide))) (nz_fa (g 39 (by decide) (by decide))) (nz_fa (g 40 (by decide) (by decide))) (nz_fl (g 43 (by decide) (by decide))))
    replace g1 : (sy_i F 38).toInt < 11 := by omega
    have c38 := nz_bx hB (k := 38) (lo := 0) (hi := 11) rfl
    have n85 : ((sy_i F 38) + ((1 : Int32))).toInt = ((sy_i F 38).toInt + 1) := nz_add (rfl : (sy_i F 38).toInt = (sy_i F 38).toInt) (by decide : ((1 : Int32)).toInt = 1) (by omega) (by omega)
    have w84 : jm_updL (sy_al F 43) (sy_i F 38).toNatClampNeg (sy_l F 82) = jm_updL (sy_al F 43) ((sy_i F 38).toInt).toNat (sy_l F 82) := by simp only [nz_c]
    exact k3tm_27_p1 hd F X1 X2 hB (by first | exact g0 | (simp only [nz_c]; exact g0)) (by first | exact g1 | (simp only [nz_c]; exact g1)) (by first | exact ⟨by omega, by omega⟩ | (simp only [nz_c]; exact ⟨by omega, by omega⟩)) (fun F1 g e38 e43 => k1 g0 g1 F1 (nz_in0 hB [38, 43] (fun j hj hn => g j hj (by simp only [List.mem_cons, List.not_mem_nil, or_false, not_or] at hn; omega)) (List.forall_mem_cons.mpr ⟨fun t ht => (Option.some.inj ht) ▸ (nz_hi e38 n85 (by omega) (by omega)), List.forall_mem_cons.mpr ⟨fun t ht => (Option.some.inj ht) ▸ (nz_hz3 e43), List.forall_mem_nil _⟩⟩)) (fun j hj hn => g j hj (by simp only [List.mem_cons, List.not_mem_nil, or_false, not_or] at hn; omega)) (nz_fi (g 33 (by decide) (by decide))) (nz_fi (g 34 (by decide) (by decide))) (nz_fi (g 36 (by decide) (by decide))) (nz_fi (g 37 (by decide) (by decide))) ((congrArg Int32.toInt (zz_i e38)).trans n85) (nz_fa (g 39 (by decide) (by decide))) (nz_fa (g 40 (by decide) (by decide))) ((zz_al e43).trans w84))
  replace g0 : (sy_i F 83).toInt < (sy_i F 38).toInt := by omega
  by_cases g1 : (lg_cmp ((sy_al F 43).getD ((sy_i F 83).toInt).toNat 0) (sy_l F 82)).toInt ≠ 0
  · have c38 := nz_bx hB (k := 38) (lo := 0) (hi := 11) rfl
    have q85 : lg_cmp ((sy_al F 43).getD (sy_i F 83).toNatClampNeg 0) (sy_l F 82) = lg_cmp ((sy_al F 43).getD ((sy_i F 83).toInt).toNat 0) (sy_l F 82) := by simp only [nz_c]
    have n85 : (lg_cmp ((sy_al F 43).getD (sy_i F 83).toNatClampNeg 0) (sy_l F 82)).toInt = (lg_cmp ((sy_al F 43).getD ((sy_i F 83).toInt).toNat 0) (sy_l F 82)).toInt := congrArg Int32.toInt q85
    have n86 : ((sy_i F 83) + ((1 : Int32))).toInt = ((sy_i F 83).toInt + 1) := nz_add (rfl : (sy_i F 83).toInt = (sy_i F 83).toInt) (by decide : ((1 : Int32)).toInt = 1) (by omega) (by omega)
    exact k3tm_27_p2 hd F X1 X2 hB (by first | exact g0 | (simp only [nz_c]; exact g0)) (by first | exact ⟨by omega, by omega⟩ | (simp only [nz_c]; exact ⟨by omega, by omega⟩)) (by first | exact g1 | (simp only [nz_c]; exact g1) | (rw [n85]; exact g1)) (fun F1 g e82 e83 => k2 g0 g1 F1 (nz_in0 hB [] (fun j hj hn => g j hj (by simp only [List.mem_cons, List.not_mem_nil, or_false, not_or] at hn; exact trivial)) (List.forall_mem_nil _)) (fun j hj hn => g j hj (by simp only [List.mem_cons, List.not_mem_nil, or_false, not_or] at hn; exact trivial)) (nz_fi (g 33 (by decide) (by decide))) (nz_fi (g 34 (by decide) (by decide))) (nz_fi (g 36 (by decide) (by decide))) (nz_fi (g 37 (by decide) (by decide))) (nz_fi (g 38 (by decide) (by decide))) (nz_fa (g 39 (by decide) (by decide))) (nz_fa (g 40 (by decide) (by decide))) (nz_fl (g 43 (by decide) (by decide))) ((zz_l e82).trans (rfl : sy_l F 82 = sy_l F 82)) ((congrArg Int32.toInt (zz_i e83)).trans n86))
  replace g1 : (lg_cmp ((sy_al F 43).getD ((sy_i F 83).toInt).toNat 0) (sy_l F 82)).toInt = 0 := by omega
  by_cases g2 : (sy_i F 36).toInt ≠ 0
  · have c38 := nz_bx hB (k := 38) (lo := 0) (hi := 11) rfl
    have q85 : lg_cmp ((sy_al F 43).getD (sy_i F 83).toNatClampNeg 0) (sy_l F 82) = lg_cmp ((sy_al F 43).getD ((sy_i F 83).toInt).toNat 0) (sy_l F 82) := by simp only [nz_c]
    have n85 : (lg_cmp ((sy_al F 43).getD (sy_i F 83).toNatClampNeg 0) (sy_l F 82)).toInt = (lg_cmp ((sy_al F 43).getD ((sy_i F 83).toInt).toNat 0) (sy_l F 82)).toInt := congrArg Int32.toInt q85
    exact k3tm_27_p3 hd F X1 X2 hB (by first | exact g0 | (simp only [nz_c]; exact g0)) (by first | exact ⟨by omega, by omega⟩ | (simp only [nz_c]; exact ⟨by omega, by omega⟩)) (by first | exact g1 | (simp only [nz_c]; exact g1) | (rw [n85]; exact g1)) (by first | exact g2 | (simp only [nz_c]; exact g2)) (fun F1 g  => k3 g0 g1 g2 F1 (nz_in0 hB [] (fun j hj hn => g j hj (by simp only [List.mem_cons, List.not_mem_nil, or_false, not_or] at hn; exact trivial)) (List.forall_mem_nil _)) (fun j hj hn => g j hj (by simp only [List.mem_cons, List.not_mem_nil, or_false, not_or] at hn; exact trivial)) (nz_fi (g 33 (by decide) (by decide))) (nz_fi (g 34 (by decide) (by decide))) (nz_fi (g 36 (by decide) (by decide))) (nz_fi (g 37 (by decide) (by decide))) (nz_fi (g 38 (by decide) (by decide))) (nz_fa (g 39 (by decide) (by decide))) (nz_fa (g 40 (by decide) (by decide))) (nz_fl (g 43 (by decide) (by decide))))
  replace g2 : (sy_i F 36).toInt = 0 := by omega
  by_cases g3 : ((sy_i F 33).toInt - 1) < 0
  · have c38 := nz_bx hB (k := 38) (lo := 0) (hi := 11) rfl
    have q85 : lg_cmp ((sy_al F 43).getD (sy_i F 83).toNatClampNeg 0) (sy_l F 82) = lg_cmp ((sy_al F 43).getD ((sy_i F 83).toInt).toNat 0) (sy_l F 82) := by simp only [nz_c]
    have n85 : (lg_cmp ((sy_al F 43).getD (sy_i F 83).toNatClampNeg 0) (sy_l F 82)).toInt = (lg_cmp ((sy_al F 43).getD ((sy_i F 83).toInt).toNat 0) (sy_l F 82)).toInt := congrArg Int32.toInt q85
    have c33 := nz_bx hB (k := 33) (lo := 0) (hi := 400) rfl
    have n86 : ((sy_i F 33) - ((1 : Int32))).toInt = ((sy_i F 33).toInt - 1) := nz_sub (rfl : (sy_i F 33).toInt = (sy_i F 33).toInt) (by decide : ((1 : Int32)).toInt = 1) (by omega) (by omega)
    exact k3tm_27_p4 hd F X1 X2 hB (by first | exact g0 | (simp only [nz_c]; exact g0)) (by first | exact ⟨by omega, by omega⟩ | (simp only [nz_c]; exact ⟨by omega, by omega⟩)) (by first | exact g1 | (simp only [nz_c]; exact g1) | (rw [n85]; exact g1)) (by first | exact g2 | (simp only [nz_c]; exact g2)) (by first | exact g3 | (simp only [nz_c, n86]; exact g3) | (rw [n86]; exact g3)) (fun F1 g e36 e37 => k4 g0 g1 g2 g3 F1 (nz_in0 hB [36, 37] (fun j hj hn => g j hj (by simp only [List.mem_cons, List.not_mem_nil, or_false, not_or] at hn; omega)) (List.forall_mem_cons.mpr ⟨fun t ht => (Option.some.inj ht) ▸ (nz_hz e36), List.forall_mem_cons.mpr ⟨fun t ht => (Option.some.inj ht) ▸ (nz_hz e37), List.forall_mem_nil _⟩⟩)) (fun j hj hn => g j hj (by simp only [List.mem_cons, List.not_mem_nil, or_false, not_or] at hn; omega)) (nz_fi (g 33 (by decide) (by decide))) (nz_fi (g 34 (by decide) (by decide))) ((congrArg Int32.toInt (zz_i e36)).trans (by decide : ((3 : Int32)).toInt = 3)) ((congrArg Int32.toInt (zz_i e37)).trans (by decide : ((0 : Int32)).toInt = 0)) (nz_fi (g 38 (by decide) (by decide))) (nz_fa (g 39 (by decide) (by decide))) (nz_fa (g 40 (by decide) (by decide))) (nz_fl (g 43 (by decide) (by decide))))
  replace g3 : 0 ≤ ((sy_i F 33).toInt - 1) := by omega
  by_cases g4 : 400 < ((sy_i F 33).toInt - 1)
  · have c38 := nz_bx hB (k := 38) (lo := 0) (hi := 11) rfl
    have q85 : lg_cmp ((sy_al F 43).getD (sy_i F 83).toNatClampNeg 0) (sy_l F 82) = lg_cmp ((sy_al F 43).getD ((sy_i F 83).toInt).toNat 0) (sy_l F 82) := by simp only [nz_c]
    have n85 : (lg_cmp ((sy_al F 43).getD (sy_i F 83).toNatClampNeg 0) (sy_l F 82)).toInt = (lg_cmp ((sy_al F 43).getD ((sy_i F 83).toInt).toNat 0) (sy_l F 82)).toInt := congrArg Int32.toInt q85
    have c33 := nz_bx hB (k := 33) (lo := 0) (hi := 400) rfl
    have n86 : ((sy_i F 33) - ((1 : Int32))).toInt = ((sy_i F 33).toInt - 1) := nz_sub (rfl : (sy_i F 33).toInt = (sy_i F 33).toInt) (by decide : ((1 : Int32)).toInt = 1) (by omega) (by omega)
    exfalso
    omega
  replace g4 : ((sy_i F 33).toInt - 1) ≤ 400 := by omega
  have c38 := nz_bx hB (k := 38) (lo := 0) (hi := 11) rfl
  have q85 : lg_cmp ((sy_al F 43).getD (sy_i F 83).toNatClampNeg 0) (sy_l F 82) = lg_cmp ((sy_al F 43).getD ((sy_i F 83).toInt).toNat 0) (sy_l F 82) := by simp only [nz_c]
  have n85 : (lg_cmp ((sy_al F 43).getD (sy_i F 83).toNatClampNeg 0) (sy_l F 82)).toInt = (lg_cmp ((sy_al F 43).getD ((sy_i F 83).toInt).toNat 0) (sy_l F 82)).toInt := congrArg Int32.toInt q85
  have c33 := nz_bx hB (k := 33) (lo := 0) (hi := 400) rfl
  have n86 : ((sy_i F 33) - ((1 : Int32))).toInt = ((sy_i F 33).toInt - 1) := nz_sub (rfl : (sy_i F 33).toInt = (sy_i F 33).toInt) (by decide : ((1 : Int32)).toInt = 1) (by omega) (by omega)
  have q87 : (sy_ai F 40).getD ((sy_i F 33) - ((1 : Int32))).toNatClampNeg 0 = (sy_ai F 40).getD (((sy_i F 33).toInt - 1)).toNat 0 := by simp only [nz_c, n86, (by decide : ((1 : Int32)).toInt = 1)]
  have n87 : ((sy_ai F 40).getD ((sy_i F 33) - ((1 : Int32))).toNatClampNeg 0).toInt = ((sy_ai F 40).getD (((sy_i F 33).toInt - 1)).toNat 0).toInt := congrArg Int32.toInt q87
  exact k3tm_27_p5 hd F X1 X2 hB (by first | exact g0 | (simp only [nz_c]; exact g0)) (by first | exact ⟨by omega, by omega⟩ | (simp only [nz_c]; exact ⟨by omega, by omega⟩)) (by first | exact g1 | (simp only [nz_c]; exact g1) | (rw [n85]; exact g1)) (by first | exact g2 | (simp only [nz_c]; exact g2)) (by first | exact g3 | (simp only [nz_c, n86]; exact g3) | (rw [n86]; exact g3)) (by first | exact g4 | (simp only [nz_c, n86]; exact g4) | (rw [n86]; exact g4)) (by first | exact ⟨by omega, by omega⟩ | (simp only [nz_c, n86]; exact ⟨by omega, by omega⟩) | (rw [n86]; exact ⟨by omega, by omega⟩)) (fun F1 g e36 e37 => k5 g0 g1 g2 g3 g4 F1 (nz_in0 hB [36, 37] (fun j hj hn => g j hj (by simp only [List.mem_cons, List.not_mem_nil, or_false, not_or] at hn; omega)) (List.forall_mem_cons.mpr ⟨fun t ht => (Option.some.inj ht) ▸ (nz_hz e36), List.forall_mem_cons.mpr ⟨fun t ht => (Option.some.inj ht) ▸ (nz_hz e37), List.forall_mem_nil _⟩⟩)) (fun j hj hn => g j hj (by simp only [List.mem_cons, List.not_mem_nil, or_false, not_or] at hn; omega)) (nz_fi (g 33 (by decide) (by decide))) (nz_fi (g 34 (by decide) (by decide))) ((congrArg Int32.toInt (zz_i e36)).trans (by decide : ((3 : Int32)).toInt = 3)) ((congrArg Int32.toInt (zz_i e37)).trans n87) (nz_fi (g 38 (by decide) (by decide))) (nz_fa (g 39 (by decide) (by decide))) (nz_fa (g 40 (by decide) (by decide))) (nz_fl (g 43 (by decide) (by decide))))
end
section
/-! ===== the class parses: small methods ===== -/
noncomputable def wc (P : Nat → Int) (w : sE) (F : Nat → sy_d) : Prop := (sy_i F 36).toInt = w.1 ∧ 0 ≤ w.1 ∧ (w.1 ≠ 0 → (sy_i F 37).toInt = P w.2) ∧ (w.1 = 0 → (sy_i F 37).toInt = -1)
theorem wc_eq {P : Nat → Int} {w : sE} {F F1 : Nat → sy_d} (h : wc P w F) (h6 : (sy_i F1 36).toInt = (sy_i F 36).toInt) (h7 : (sy_i F1 37).toInt = (sy_i F 37).toInt) : wc P w F1 := by
  unfold wc
  rw [h6, h7]
  exact h
theorem wc_s {P : Nat → Int} {F F1 : Nat → sy_d} {w : sE} {b : Prop} [Decidable b] {k : Int} {tok : Nat} (hk : 0 < k) (h : wc P w F) (c : (b ∧ (sy_i F 36).toInt = 0 ∧ (sy_i F1 36).toInt = k ∧ (sy_i F1 37).toInt = P tok) ∨ ((¬ b ∨ (sy_i F 36).toInt ≠ 0) ∧ (sy_i F1 36).toInt = (sy_i F 36).toInt ∧ (sy_i F1 37).toInt = (sy_i F 37).toInt)) : wc P (sW w b k tok) F1 := by
  have h1 := h.1
  unfold sW
  rcases c with ⟨c1, c2, c3, c4⟩ | ⟨c1, c2, c3⟩
  · rw [if_pos ⟨c1, by omega⟩]
    exact ⟨c3, (show 0 ≤ k by omega), fun _ => c4, fun q => absurd q (show k ≠ 0 by omega)⟩
  · rw [if_neg (fun q => by
      rcases c1 with c1 | c1
      · exact c1 q.1
      · have := q.2
        omega)]
    exact wc_eq h c2 c3
noncomputable def taR (k : Int) (x : Int32) (F F' : Nat → sy_d) : Prop := gc [33, 34] F F' ∧ ((∀ c, km c = km k → c = k) → ac (sM (kg F) (km k) (tg F)) (fun t F' => tg F' = t) x F')
noncomputable def tnR (lo hi : Int) (x : Int32) (F F' : Nat → sy_d) : Prop := gc [33, 34, 36, 37, 44] F F' ∧ ∀ w : sE, wc (pg F) w F → ac (sN (kg F) (vg F) lo hi (tg F, w)) (fun q F' => tg F' = q.1 ∧ wc (pg F) q.2 F') x F'
noncomputable def mlc (F : Nat → sy_d) (n : Nat) : List Int64 := (List.range n).map (fun i => (sy_al F 43).getD i 0)
noncomputable def ncr (nm : List Int64) (F : Nat → sy_d) : Prop := ∀ y, y ∈ nm ↔ y ∈ mlc F (sy_i F 38).toInt.toNat
theorem mlc_s {F : Nat → sy_d} {n : Nat} {x : Int64} : x ∈ mlc F (n + 1) ↔ x ∈ mlc F n ∨ x = (sy_al F 43).getD n 0 := by
  unfold mlc
  rw [List.range_succ, List.map_append, List.mem_append]
  simp
theorem mlc_eq {F F1 : Nat → sy_d} (h : F1 43 = F 43) (n : Nat) : mlc F1 n = mlc F n := by
  unfold mlc
  rw [nz_fl h]
theorem ncr_eq {nm : List Int64} {F F1 : Nat → sy_d} (h : ncr nm F) (h43 : F1 43 = F 43) (h38 : (sy_i F1 38).toInt = (sy_i F 38).toInt) : ncr nm F1 := by
  unfold ncr
  rw [mlc_eq h43, h38]
  exact h
noncomputable def tmR (x : Int32) (F F' : Nat → sy_d) : Prop := gc [33, 34, 36, 37, 38, 43] F F' ∧ (sy_i F' 38).toInt ≤ (sy_i F 38).toInt + 1 ∧ ∀ (w : sE) (nm : List Int64), wc (pg F) w F → ncr nm F → ac (sNm (kg F) (ng F) (tg F, nm, w)) (fun q F' => tg F' = q.1 ∧ wc (pg F) q.2 F' ∧ ncr (nm ++ [ng F (tg F)]) F') x F'
theorem taR_src {k : Int} {x : Int32} {F F0 F' : Nat → sy_d} (h : taR k x F0 F') (e : ∀ q, q < 82 → F0 q = F q) : taR k x F F' := by
  obtain ⟨h1, h2⟩ := h
  rw [kg_eq (e 39 (by decide)), tg_eq (nz_fi (e 33 (by decide)))] at h2
  exact ⟨h1.src e, h2⟩
theorem taR_dst {k : Int} {x : Int32} {F F' F2 : Nat → sy_d} (h : taR k x F F') (e : ∀ q, q < 82 → F2 q = F' q) : taR k x F F2 := by
  have i33 := nz_fi (e 33 (by decide))
  exact ⟨h.1.dst e, fun z => ac_dst (h.2 z) (nz_fi (e 34 (by decide))) i33 (fun a j => by rw [tg_eq i33]; exact j)⟩
theorem tnR_src {lo hi : Int} {x : Int32} {F F0 F' : Nat → sy_d} (h : tnR lo hi x F0 F') (e : ∀ q, q < 82 → F0 q = F q) : tnR lo hi x F F' := by
  obtain ⟨h1, h2⟩ := h
  rw [kg_eq (e 39 (by decide)), pg_eq (e 40 (by decide)), vg_eq (e 41 (by decide)), tg_eq (nz_fi (e 33 (by decide)))] at h2
  exact ⟨h1.src e, fun w hw => h2 w (wc_eq hw (nz_fi (e 36 (by decide))) (nz_fi (e 37 (by decide))))⟩
theorem tnR_dst {lo hi : Int} {x : Int32} {F F' F2 : Nat → sy_d} (h : tnR lo hi x F F') (e : ∀ q, q < 82 → F2 q = F' q) : tnR lo hi x F F2 := by
  have i33 := nz_fi (e 33 (by decide))
  exact ⟨h.1.dst e, fun w z => ac_dst (h.2 w z) (nz_fi (e 34 (by decide))) i33 (fun a j => ⟨by rw [tg_eq i33]; exact j.1, wc_eq j.2 (nz_fi (e 36 (by decide))) (nz_fi (e 37 (by decide)))⟩)⟩
theorem tmR_dst {x : Int32} {F F' F2 : Nat → sy_d} (h : tmR x F F') (e : ∀ q, q < 82 → F2 q = F' q) : tmR x F F2 := by
  have i33 := nz_fi (e 33 (by decide))
  have i38 := nz_fi (e 38 (by decide))
  exact ⟨h.1.dst e, by rw [i38]; exact h.2.1, fun w nm z y => ac_dst (h.2.2 w nm z y) (nz_fi (e 34 (by decide))) i33 (fun a j => ⟨by rw [tg_eq i33]; exact j.1, wc_eq j.2.1 (nz_fi (e 36 (by decide))) (nz_fi (e 37 (by decide))), ncr_eq j.2.2 (e 43 (by decide)) i38⟩)⟩
theorem k0tm_in {nm : List Int64} (F0 F F1 : Nat → sy_d) (hm : ncr nm F0) {i : Nat} (e : (sy_al F 43).getD i 0 = sy_l F 82) (h82 : sy_l F 82 = ng F0 (tg F0)) (x43 : sy_al F 43 = sy_al F0 43) (hi : i < (sy_i F0 38).toInt.toNat) (h38 : (sy_i F 38).toInt = (sy_i F0 38).toInt) (l43 : sy_al F1 43 = sy_al F 43) (h38' : (sy_i F1 38).toInt = (sy_i F0 38).toInt) (y : Int64) : y ∈ nm ++ [ng F0 (tg F0)] ↔ y ∈ mlc F1 (sy_i F1 38).toInt.toNat := by
  have e2 : mlc F1 (sy_i F1 38).toInt.toNat = mlc F0 (sy_i F0 38).toInt.toNat := by
    unfold mlc
    rw [l43, x43, h38']
  rw [e2, List.mem_append, hm y]
  refine ⟨fun z => z.elim id (fun z => ?_), Or.inl⟩
  have z : y = ng F0 (tg F0) := List.mem_singleton.mp z
  rw [z, ← h82, ← e, x43]
  unfold mlc
  rw [List.mem_map]
  exact ⟨i, List.mem_range.mpr hi, rfl⟩
section C0
variable {Ls : Nat} {xs : Nat → Int32} (F : Nat → sy_d) (X1 X2 : List jm_c)
theorem k0ta_T (hB : iv_in F iv_B0) (a : Int32) : jm_T Ls xs 3 jm_M43 [.ref 30, .int a] (sy_dh F X1 X2 (iv_H 0)) 0 0 (fun v G => ∃ (x : Int32) (F' : Nat → sy_d), v = some (.int x) ∧ G = sy_dh F' X1 X2 (iv_H 0) ∧ taR a.toInt x F F') := by
  refine nx_T (s := 0) (by decide) F X1 X2 (as := [a]) (A := [.inl (.ref 30), .inr (.inl 82)]) jm_ok43 (by decide) rfl ?_
  obtain ⟨F0, hF0⟩ : ∃ F0, F0 = nx 82 F [a] := ⟨_, rfl⟩
  rw [← hF0]
  have k0 : ∀ q, q < 82 → F0 q = F q := by rw [hF0]; exact nx_lt
  have i82 : sy_i F0 82 = a := by rw [hF0]; rfl
  have hB0 := hd_iveq0 hB k0
  have c33 := nz_bx hB0 (k := 33) (lo := 0) (hi := 400) rfl
  have et : (tg F0 : Int) = (sy_i F0 33).toInt := by unfold tg; omega
  have eK : kg F0 (tg F0) = km ((sy_ai F0 39).getD (sy_i F0 33).toInt.toNat 0).toInt := rfl
  refine k0ta_0 (by decide) F0 X1 X2 hB0 ?_ ?_ ?_
  all_goals
    intros
    rename_i F1 hb g e33 e34 e36 e37 e38 a39 a40
    refine ⟨_, F1, rfl, rfl, taR_src ⟨gc_mk hb g (by decide), fun hk => ?_⟩ k0⟩
    rw [← i82] at hk ⊢
  all_goals first
    | exact ac_ok (a := tg F0 + 1) (sM_ok (by rw [eK]; congr 1) (by omega)) (tg_s c33.1 e33)
    | exact ac_er (k := 2) (t := tg F0) (sM_4 (by rw [eK]; congr 1) (by omega)) e34 (tg_eq e33)
    | exact ac_er (k := 1) (t := tg F0) (sM_no (fun z => by
        rw [eK] at z
        have := hk _ z
        omega)) e34 (tg_eq e33)
theorem k0tm_loop (F0 : Nat → sy_d) (hB0 : iv_in F0 iv_B0) (hn : (sy_i F0 38).toInt ≤ 10) (hk : kg F0 (tg F0) = 1) (h4 : tg F0 < 400) : ∀ (n : Nat) (F : Nat → sy_d), gc [33] F0 F → (sy_i F 33).toInt = (sy_i F0 33).toInt + 1 → sy_l F 82 = ng F0 (tg F0) → 0 ≤ (sy_i F 83).toInt → (sy_i F 83).toInt ≤ (sy_i F0 38).toInt → ng F0 (tg F0) ∉ mlc F0 (sy_i F 83).toInt.toNat → 11 - (sy_i F 83).toInt < n →
    hd_W Ls xs 4 jm_M41 (fun v G => ∃ (x : Int32) (F' : Nat → sy_d), v = some (.int x) ∧ G = sy_dh F' X1 X2 (iv_H 0) ∧ tmR x F0 F') (27, sy_dL F [some (.inl (.ref 30)), some (.inr (.inr 82)), none, some (.inr (.inl 83))], sy_dS F [], sy_dh F X1 X2 (iv_H 0), 0, 0)
  | 0, F, _, _, _, h1, h2, _, h3 => absurd h3 (by omega)
  | n + 1, F, hG, h33, h82, h1, h2, hnm, h3 => by
    have c33 := nz_bx hB0 (k := 33) (lo := 0) (hi := 400) rfl
    have c38 := nz_bx hB0 (k := 38) (lo := 0) (hi := 11) rfl
    have i34 := hG.i (k := 34) (by decide) (by decide)
    have i36 := hG.i (k := 36) (by decide) (by decide)
    have i37 := hG.i (k := 37) (by decide) (by decide)
    have i38 := hG.i (k := 38) (by decide) (by decide)
    have x40 : sy_ai F 40 = sy_ai F0 40 := nz_fa (hG.2 40 (by decide) (by decide))
    have x43 : sy_al F 43 = sy_al F0 43 := nz_fl (hG.2 43 (by decide) (by decide))
    have et : tg F = tg F0 + 1 := tg_s c33.1 h33
    have e1 : ((sy_i F 33).toInt - 1).toNat = tg F0 := by unfold tg; omega
    have eP : pg F0 (tg F0) = ((sy_ai F 40).getD ((sy_i F 33).toInt - 1).toNat 0).toInt := by rw [e1, x40]; rfl
    have ek : ((sy_i F 83).toInt + 1).toNat = (sy_i F 83).toInt.toNat + 1 := by omega
    refine k0tm_27 (by decide) F X1 X2 hG.1 (by omega) ?_ ?_ ?_ ?_ ?_ ?_
    · intros; exfalso; omega
    · intro q1 q2 F1 hb g e33 e34 e36 e37 e38 a39 a40 l43
      refine ⟨_, F1, rfl, rfl, (hG.mono (by decide)).trans (gc_mk (W := [33, 34, 36, 37, 38, 43]) hb g (by decide)) (fun _ q => q), by omega, fun w nm hw hm => ac_ok (sNm_ok hk h4) ⟨by rw [tg_eq e33]; exact et, wc_s (by decide) hw (Or.inr ⟨Or.inl (fun z => hnm ?_), by omega, by omega⟩), fun y => ?_⟩⟩
      · have := (hm _).mp z
        rwa [show (sy_i F 83).toInt.toNat = (sy_i F0 38).toInt.toNat by omega]
      · rw [List.mem_append, show (sy_i F1 38).toInt.toNat = (sy_i F0 38).toInt.toNat + 1 by omega, mlc_s, l43, i38, jm_updL_at, if_pos rfl, h82, hm y]
        have eq : ∀ y, y ∈ mlc F1 (sy_i F0 38).toInt.toNat ↔ y ∈ mlc F0 (sy_i F0 38).toInt.toNat := fun y => by
          have : mlc F1 (sy_i F0 38).toInt.toNat = mlc F0 (sy_i F0 38).toInt.toNat := by
            unfold mlc
            refine List.map_congr_left (fun i hi => ?_)
            have := List.mem_range.mp hi
            rw [l43, jm_updL_at, if_neg (by omega), x43]
          rw [this]
        rw [eq y]
        simp
    · intro q1 q2 F1 hb g e33 e34 e36 e37 e38 a39 a40 l43 l82 e83
      refine k0tm_loop F0 hB0 hn hk h4 n F1 (hG.trans (gc_mk (W := [33]) hb g (by decide)) (fun _ q => q)) (by omega) (l82.trans h82) (by omega) (by omega) ?_ (by omega)
      rw [e83, ek, mlc_s]
      rintro (z | z)
      · exact hnm z
      · exact q2 ((lg_eq _ _).mpr (by rw [h82, z, x43]))
    · intro q1 q2 q3 F1 hb g e33 e34 e36 e37 e38 a39 a40 l43
      refine ⟨_, F1, rfl, rfl, (hG.mono (by decide)).trans (gc_mk (W := [33, 34, 36, 37, 38, 43]) hb g (by decide)) (fun _ q => q), by omega, fun w nm hw hm => ac_ok (sNm_ok hk h4) ⟨by rw [tg_eq e33]; exact et, wc_s (by decide) hw (Or.inr ⟨Or.inr (by omega), by omega, by omega⟩), fun y => ?_⟩⟩
      exact k0tm_in F0 F F1 hm ((lg_eq _ _).mp q2) h82 x43 (by omega) (by omega) l43 (by omega) y
    · intros; exfalso; omega
    · intro q1 q2 q3 q4 q5 F1 hb g e33 e34 e36 e37 e38 a39 a40 l43
      have hin : ∀ nm, ncr nm F0 → ng F0 (tg F0) ∈ nm := fun nm hm => (hm _).mpr (by
        have e := (lg_eq _ _).mp q2
        rw [h82, x43] at e
        unfold mlc
        rw [List.mem_map]
        exact ⟨(sy_i F 83).toInt.toNat, List.mem_range.mpr (by omega), e⟩)
      refine ⟨_, F1, rfl, rfl, (hG.mono (by decide)).trans (gc_mk (W := [33, 34, 36, 37, 38, 43]) hb g (by decide)) (fun _ q => q), by omega, fun w nm hw hm => ac_ok (sNm_ok hk h4) ⟨by rw [tg_eq e33]; exact et, wc_s (by decide) hw (Or.inl ⟨hin nm hm, by omega, e36, e37.trans eP.symm⟩), fun y => ?_⟩⟩
      exact k0tm_in F0 F F1 hm ((lg_eq _ _).mp q2) h82 x43 (by omega) (by omega) l43 (by omega) y
theorem k0tm_T (hB : iv_in F iv_B0) (hn : (sy_i F 38).toInt ≤ 10) : jm_T Ls xs 4 jm_M41 [.ref 30] (sy_dh F X1 X2 (iv_H 0)) 0 0 (fun v G => ∃ (x : Int32) (F' : Nat → sy_d), v = some (.int x) ∧ G = sy_dh F' X1 X2 (iv_H 0) ∧ tmR x F F') := by
  have c33 := nz_bx hB (k := 33) (lo := 0) (hi := 400) rfl
  have c38 := nz_bx hB (k := 38) (lo := 0) (hi := 11) rfl
  have et : (tg F : Int) = (sy_i F 33).toInt := by unfold tg; omega
  have eK : kg F (tg F) = 1 ↔ ((sy_ai F 39).getD (sy_i F 33).toInt.toNat 0).toInt = 23 := km_1
  have e1 : ((sy_i F 33).toInt + 1 - 1).toNat = tg F := by unfold tg; omega
  refine hd_T (As := [.inl (.ref 30)]) jm_ok41 (by decide) (k0tm_0 (by decide) F X1 X2 hB ?_ ?_ ?_)
  all_goals try rw [e1]
  all_goals intros
  all_goals first
    | (rename_i F1 hb g e33 e34 e36 e37 e38 a39 a40 l43
       exact ⟨_, F1, rfl, rfl, gc_mk hb g (by decide), by omega, fun w nm hw hm => ac_er (k := 1) (t := tg F) (sNm_no (by omega)) e34 (tg_eq e33)⟩)
    | (rename_i F1 hb g e33 e34 e36 e37 e38 a39 a40 l43
       exact ⟨_, F1, rfl, rfl, gc_mk hb g (by decide), by omega, fun w nm hw hm => ac_er (k := 2) (t := tg F) (sNm_4 (by omega) (by omega)) e34 (tg_eq e33)⟩)
    | (rename_i F1 hb g e33 e34 e36 e37 e38 a39 a40 l43 l82 e83
       exact k0tm_loop X1 X2 F hB hn (by omega) (by omega) 12 F1 (gc_mk hb g (by decide)) e33 l82 (by omega) (by omega) (by rw [e83]; simp [mlc]) (by omega))
end C0
theorem k3tm_in {nm : List Int64} (F0 F F1 : Nat → sy_d) (hm : ncr nm F0) {i : Nat} (e : (sy_al F 43).getD i 0 = sy_l F 82) (h82 : sy_l F 82 = ng F0 (tg F0)) (x43 : sy_al F 43 = sy_al F0 43) (hi : i < (sy_i F0 38).toInt.toNat) (h38 : (sy_i F 38).toInt = (sy_i F0 38).toInt) (l43 : sy_al F1 43 = sy_al F 43) (h38' : (sy_i F1 38).toInt = (sy_i F0 38).toInt) (y : Int64) : y ∈ nm ++ [ng F0 (tg F0)] ↔ y ∈ mlc F1 (sy_i F1 38).toInt.toNat := by
  have e2 : mlc F1 (sy_i F1 38).toInt.toNat = mlc F0 (sy_i F0 38).toInt.toNat := by
    unfold mlc
    rw [l43, x43, h38']
  rw [e2, List.mem_append, hm y]
  refine ⟨fun z => z.elim id (fun z => ?_), Or.inl⟩
  have z : y = ng F0 (tg F0) := List.mem_singleton.mp z
  rw [z, ← h82, ← e, x43]
  unfold mlc
  rw [List.mem_map]
  exact ⟨i, List.mem_range.mpr hi, rfl⟩
section C3
variable {Ls : Nat} {xs : Nat → Int32} (F : Nat → sy_d) (X1 X2 : List jm_c)
theorem k3ta_T (hB : iv_in F iv_B0) (a : Int32) : jm_T Ls xs 3 jm_M43 [.ref 30, .int a] (sy_dh F X1 X2 (iv_H 3)) 0 0 (fun v G => ∃ (x : Int32) (F' : Nat → sy_d), v = some (.int x) ∧ G = sy_dh F' X1 X2 (iv_H 3) ∧ taR a.toInt x F F') := by
  refine nx_T (s := 3) (by decide) F X1 X2 (as := [a]) (A := [.inl (.ref 30), .inr (.inl 82)]) jm_ok43 (by decide) rfl ?_
  obtain ⟨F0, hF0⟩ : ∃ F0, F0 = nx 82 F [a] := ⟨_, rfl⟩
  rw [← hF0]
  have k0 : ∀ q, q < 82 → F0 q = F q := by rw [hF0]; exact nx_lt
  have i82 : sy_i F0 82 = a := by rw [hF0]; rfl
  have hB0 := hd_iveq0 hB k0
  have c33 := nz_bx hB0 (k := 33) (lo := 0) (hi := 400) rfl
  have et : (tg F0 : Int) = (sy_i F0 33).toInt := by unfold tg; omega
  have eK : kg F0 (tg F0) = km ((sy_ai F0 39).getD (sy_i F0 33).toInt.toNat 0).toInt := rfl
  refine k3ta_0 (by decide) F0 X1 X2 hB0 ?_ ?_ ?_
  all_goals
    intros
    rename_i F1 hb g e33 e34 e36 e37 e38 a39 a40
    refine ⟨_, F1, rfl, rfl, taR_src ⟨gc_mk hb g (by decide), fun hk => ?_⟩ k0⟩
    rw [← i82] at hk ⊢
  all_goals first
    | exact ac_ok (a := tg F0 + 1) (sM_ok (by rw [eK]; congr 1) (by omega)) (tg_s c33.1 e33)
    | exact ac_er (k := 2) (t := tg F0) (sM_4 (by rw [eK]; congr 1) (by omega)) e34 (tg_eq e33)
    | exact ac_er (k := 1) (t := tg F0) (sM_no (fun z => by
        rw [eK] at z
        have := hk _ z
        omega)) e34 (tg_eq e33)
theorem k3tm_loop (F0 : Nat → sy_d) (hB0 : iv_in F0 iv_B0) (hn : (sy_i F0 38).toInt ≤ 10) (hk : kg F0 (tg F0) = 1) (h4 : tg F0 < 400) : ∀ (n : Nat) (F : Nat → sy_d), gc [33] F0 F → (sy_i F 33).toInt = (sy_i F0 33).toInt + 1 → sy_l F 82 = ng F0 (tg F0) → 0 ≤ (sy_i F 83).toInt → (sy_i F 83).toInt ≤ (sy_i F0 38).toInt → ng F0 (tg F0) ∉ mlc F0 (sy_i F 83).toInt.toNat → 11 - (sy_i F 83).toInt < n →
    hd_W Ls xs 4 jm_M41 (fun v G => ∃ (x : Int32) (F' : Nat → sy_d), v = some (.int x) ∧ G = sy_dh F' X1 X2 (iv_H 3) ∧ tmR x F0 F') (27, sy_dL F [some (.inl (.ref 30)), some (.inr (.inr 82)), none, some (.inr (.inl 83))], sy_dS F [], sy_dh F X1 X2 (iv_H 3), 0, 0)
  | 0, F, _, _, _, h1, h2, _, h3 => absurd h3 (by omega)
  | n + 1, F, hG, h33, h82, h1, h2, hnm, h3 => by
    have c33 := nz_bx hB0 (k := 33) (lo := 0) (hi := 400) rfl
    have c38 := nz_bx hB0 (k := 38) (lo := 0) (hi := 11) rfl
    have i34 := hG.i (k := 34) (by decide) (by decide)
    have i36 := hG.i (k := 36) (by decide) (by decide)
    have i37 := hG.i (k := 37) (by decide) (by decide)
    have i38 := hG.i (k := 38) (by decide) (by decide)
    have x40 : sy_ai F 40 = sy_ai F0 40 := nz_fa (hG.2 40 (by decide) (by decide))
    have x43 : sy_al F 43 = sy_al F0 43 := nz_fl (hG.2 43 (by decide) (by decide))
    have et : tg F = tg F0 + 1 := tg_s c33.1 h33
    have e1 : ((sy_i F 33).toInt - 1).toNat = tg F0 := by unfold tg; omega
    have eP : pg F0 (tg F0) = ((sy_ai F 40).getD ((sy_i F 33).toInt - 1).toNat 0).toInt := by rw [e1, x40]; rfl
    have ek : ((sy_i F 83).toInt + 1).toNat = (sy_i F 83).toInt.toNat + 1 := by omega
    refine k3tm_27 (by decide) F X1 X2 hG.1 (by omega) ?_ ?_ ?_ ?_ ?_ ?_
    · intros; exfalso; omega
    · intro q1 q2 F1 hb g e33 e34 e36 e37 e38 a39 a40 l43
      refine ⟨_, F1, rfl, rfl, (hG.mono (by decide)).trans (gc_mk (W := [33, 34, 36, 37, 38, 43]) hb g (by decide)) (fun _ q => q), by omega, fun w nm hw hm => ac_ok (sNm_ok hk h4) ⟨by rw [tg_eq e33]; exact et, wc_s (by decide) hw (Or.inr ⟨Or.inl (fun z => hnm ?_), by omega, by omega⟩), fun y => ?_⟩⟩
      · have := (hm _).mp z
        rwa [show (sy_i F 83).toInt.toNat = (sy_i F0 38).toInt.toNat by omega]
      · rw [List.mem_append, show (sy_i F1 38).toInt.toNat = (sy_i F0 38).toInt.toNat + 1 by omega, mlc_s, l43, i38, jm_updL_at, if_pos rfl, h82, hm y]
        have eq : ∀ y, y ∈ mlc F1 (sy_i F0 38).toInt.toNat ↔ y ∈ mlc F0 (sy_i F0 38).toInt.toNat := fun y => by
          have : mlc F1 (sy_i F0 38).toInt.toNat = mlc F0 (sy_i F0 38).toInt.toNat := by
            unfold mlc
            refine List.map_congr_left (fun i hi => ?_)
            have := List.mem_range.mp hi
            rw [l43, jm_updL_at, if_neg (by omega), x43]
          rw [this]
        rw [eq y]
        simp
    · intro q1 q2 F1 hb g e33 e34 e36 e37 e38 a39 a40 l43 l82 e83
      refine k3tm_loop F0 hB0 hn hk h4 n F1 (hG.trans (gc_mk (W := [33]) hb g (by decide)) (fun _ q => q)) (by omega) (l82.trans h82) (by omega) (by omega) ?_ (by omega)
      rw [e83, ek, mlc_s]
      rintro (z | z)
      · exact hnm z
      · exact q2 ((lg_eq _ _).mpr (by rw [h82, z, x43]))
    · intro q1 q2 q3 F1 hb g e33 e34 e36 e37 e38 a39 a40 l43
      refine ⟨_, F1, rfl, rfl, (hG.mono (by decide)).trans (gc_mk (W := [33, 34, 36, 37, 38, 43]) hb g (by decide)) (fun _ q => q), by omega, fun w nm hw hm => ac_ok (sNm_ok hk h4) ⟨by rw [tg_eq e33]; exact et, wc_s (by decide) hw (Or.inr ⟨Or.inr (by omega), by omega, by omega⟩), fun y => ?_⟩⟩
      exact k3tm_in F0 F F1 hm ((lg_eq _ _).mp q2) h82 x43 (by omega) (by omega) l43 (by omega) y
    · intros; exfalso; omega
    · intro q1 q2 q3 q4 q5 F1 hb g e33 e34 e36 e37 e38 a39 a40 l43
      have hin : ∀ nm, ncr nm F0 → ng F0 (tg F0) ∈ nm := fun nm hm => (hm _).mpr (by
        have e := (lg_eq _ _).mp q2
        rw [h82, x43] at e
        unfold mlc
        rw [List.mem_map]
        exact ⟨(sy_i F 83).toInt.toNat, List.mem_range.mpr (by omega), e⟩)
      refine ⟨_, F1, rfl, rfl, (hG.mono (by decide)).trans (gc_mk (W := [33, 34, 36, 37, 38, 43]) hb g (by decide)) (fun _ q => q), by omega, fun w nm hw hm => ac_ok (sNm_ok hk h4) ⟨by rw [tg_eq e33]; exact et, wc_s (by decide) hw (Or.inl ⟨hin nm hm, by omega, e36, e37.trans eP.symm⟩), fun y => ?_⟩⟩
      exact k3tm_in F0 F F1 hm ((lg_eq _ _).mp q2) h82 x43 (by omega) (by omega) l43 (by omega) y
theorem k3tm_T (hB : iv_in F iv_B0) (hn : (sy_i F 38).toInt ≤ 10) : jm_T Ls xs 4 jm_M41 [.ref 30] (sy_dh F X1 X2 (iv_H 3)) 0 0 (fun v G => ∃ (x : Int32) (F' : Nat → sy_d), v = some (.int x) ∧ G = sy_dh F' X1 X2 (iv_H 3) ∧ tmR x F F') := by
  have c33 := nz_bx hB (k := 33) (lo := 0) (hi := 400) rfl
  have c38 := nz_bx hB (k := 38) (lo := 0) (hi := 11) rfl
  have et : (tg F : Int) = (sy_i F 33).toInt := by unfold tg; omega
  have eK : kg F (tg F) = 1 ↔ ((sy_ai F 39).getD (sy_i F 33).toInt.toNat 0).toInt = 23 := km_1
  have e1 : ((sy_i F 33).toInt + 1 - 1).toNat = tg F := by unfold tg; omega
  refine hd_T (As := [.inl (.ref 30)]) jm_ok41 (by decide) (k3tm_0 (by decide) F X1 X2 hB ?_ ?_ ?_)
  all_goals try rw [e1]
  all_goals intros
  all_goals first
    | (rename_i F1 hb g e33 e34 e36 e37 e38 a39 a40 l43
       exact ⟨_, F1, rfl, rfl, gc_mk hb g (by decide), by omega, fun w nm hw hm => ac_er (k := 1) (t := tg F) (sNm_no (by omega)) e34 (tg_eq e33)⟩)
    | (rename_i F1 hb g e33 e34 e36 e37 e38 a39 a40 l43
       exact ⟨_, F1, rfl, rfl, gc_mk hb g (by decide), by omega, fun w nm hw hm => ac_er (k := 2) (t := tg F) (sNm_4 (by omega) (by omega)) e34 (tg_eq e33)⟩)
    | (rename_i F1 hb g e33 e34 e36 e37 e38 a39 a40 l43 l82 e83
       exact k3tm_loop X1 X2 F hB hn (by omega) (by omega) 12 F1 (gc_mk hb g (by decide)) e33 l82 (by omega) (by omega) (by rw [e83]; simp [mlc]) (by omega))
end C3
end
