/-! ===== what an hour changes ===== -/
theorem sellS_o {g : gS} {f : Nat} {b : Int} {c : Int32} {a i : Nat} (h : a ≠ 2 ∧ a ≠ 3 ∨ i ≠ f) (h8 : a ≠ 8) : sellS g f b c a i = g a i := by
  unfold sellS
  rw [upS_o (Or.inl h8), upS_o (by omega), upS_o (by omega)]
theorem sellS_2 {g : gS} {f : Nat} {b : Int} {c : Int32} : sellS g f b c 2 f = 2 := by
  unfold sellS
  rw [upS_o (Or.inl (by decide)), upS_o (Or.inl (by decide)), upS_s]
theorem lieS_o {T : tX} {g : gS} {f : Nat} {c : Int32} {a i : Nat} (h : (a ≠ 2 ∧ a ≠ 3 ∧ a ≠ 4) ∨ i ≠ f) (h8 : a ≠ 8) : lieS T g f c a i = g a i := by
  unfold lieS
  split
  · exact sellS_o (by omega) h8
  · split
    · rw [upS_o (by omega), upS_o (by omega)]
    · rw [upS_o (by omega)]
theorem fallS_o {T : tX} {g : gS} {f : Nat} {c : Int32} {bn : Int} {a i : Nat} (h : (a ≠ 0 ∧ a ≠ 2 ∧ a ≠ 3) ∨ i ≠ f) (h8 : a ≠ 8) : fallS T g f c bn a i = g a i := by
  unfold fallS
  split
  · exact sellS_o (by omega) h8
  · rw [upS_o (by omega), upS_o (by omega)]
/-- how it is behind it -/
theorem lieS_2 {T : tX} {g : gS} {f : Nat} {c : Int32} (h : (g 2 f).toInt = 1) : (0 ≤ fsS g (g 0 f) c.toInt (nbS T) → (lieS T g f c 2 f).toInt = 2) ∧ (fsS g (g 0 f) c.toInt (nbS T) < 0 → (lieS T g f c 2 f).toInt = 3 ∨ (lieS T g f c 2 f).toInt = 1) := by
  refine ⟨fun q => ?_, fun q => ?_⟩
  · unfold lieS
    rw [if_pos q, sellS_2]
    decide
  · unfold lieS
    rw [if_neg (by omega)]
    by_cases z : T.2.2.2.1 < (g 4 f + 1).toInt
    · rw [if_pos z, upS_s]
      left
      decide
    · rw [if_neg z, upS_o (Or.inl (by decide))]
      exact Or.inr h
theorem fallS_2 {T : tX} {g : gS} {f : Nat} {c : Int32} {bn : Int} : (0 ≤ (nrS T g (tF T f).1 c.toInt (nbS T)).1 → (fallS T g f c bn 2 f).toInt = 2) ∧ ((nrS T g (tF T f).1 c.toInt (nbS T)).1 < 0 → (fallS T g f c bn 2 f).toInt = 1) := by
  refine ⟨fun q => ?_, fun q => ?_⟩
  · unfold fallS
    rw [if_pos q, sellS_2]
    decide
  · unfold fallS
    rw [if_neg (by omega), upS_o (Or.inl (by decide)), upS_s]
    decide
theorem nm_lie {T : tX} {g : gS} {f : Nat} {c : Int32} {n : Nat} (hf : f < n) (h : (g 2 f).toInt = 1) : (0 ≤ fsS g (g 0 f) c.toInt (nbS T) → nmS (lieS T g f c) 2 n = nmS g 2 n + 1) ∧ (fsS g (g 0 f) c.toInt (nbS T) < 0 → nmS (lieS T g f c) 2 n = nmS g 2 n) := by
  obtain ⟨h1, h2⟩ := lieS_2 (T := T) (c := c) h
  have ho : ∀ i, i ≠ f → lieS T g f c 2 i = g 2 i := fun i hi => lieS_o (Or.inr hi) (by decide)
  refine ⟨fun q => nm_up n hf (by omega) (h1 q) ho, fun q => ?_⟩
  have key : ∀ m : Nat, nmS (lieS T g f c) 2 m = nmS g 2 m := fun m => by
    induction m with
    | zero => rfl
    | succ m ih =>
      unfold nmS
      by_cases z : m = f
      · subst z
        have := h2 q
        rw [if_neg (by omega), if_neg (by omega), ih]
      · rw [ho m z, ih]
  exact key n
theorem nm_fall {T : tX} {g : gS} {f : Nat} {c : Int32} {bn : Int} {n : Nat} (hf : f < n) (h : (g 2 f).toInt = 0) : (0 ≤ (nrS T g (tF T f).1 c.toInt (nbS T)).1 → nmS (fallS T g f c bn) 2 n = nmS g 2 n + 1) ∧ ((nrS T g (tF T f).1 c.toInt (nbS T)).1 < 0 → nmS (fallS T g f c bn) 2 n = nmS g 2 n) := by
  obtain ⟨h1, h2⟩ := fallS_2 (T := T) (g := g) (f := f) (c := c) (bn := bn)
  have ho : ∀ i, i ≠ f → fallS T g f c bn 2 i = g 2 i := fun i hi => fallS_o (Or.inr hi) (by decide)
  refine ⟨fun q => nm_up n hf (by omega) (h1 q) ho, fun q => ?_⟩
  have key : ∀ m : Nat, nmS (fallS T g f c bn) 2 m = nmS g 2 m := fun m => by
    induction m with
    | zero => rfl
    | succ m ih =>
      unfold nmS
      by_cases z : m = f
      · subst z
        have := h2 q
        rw [if_neg (by omega), if_neg (by omega), ih]
      · rw [ho m z, ih]
  exact key n
theorem p1_s {T : tX} {g : gS} : ∀ (n a i : Nat), n ≤ i → a < 7 → p1S T g n a i = g a i
  | 0, a, i, _, _ => rfl
  | n + 1, a, i, h, ha => by
    unfold p1S
    split
    · rw [lieS_o (Or.inr (by omega)) (by omega)]
      exact p1_s n a i (by omega) ha
    · exact p1_s n a i (by omega) ha
/-- what the first pass never changes -/
theorem p1_k {T : tX} {g : gS} : ∀ (n a i : Nat), (a ≠ 2 ∧ a ≠ 3 ∧ a ≠ 4 ∧ a ≠ 8) → p1S T g n a i = g a i
  | 0, a, i, _ => rfl
  | n + 1, a, i, h => by
    unfold p1S
    split
    · rw [lieS_o (Or.inl (by omega)) (by omega)]
      exact p1_k n a i h
    · exact p1_k n a i h
/-- what hangs stays as it is, what does not never hangs again -/
theorem p1_h {T : tX} {g : gS} : ∀ (n i : Nat), ((p1S T g n 2 i).toInt = 0 ↔ (g 2 i).toInt = 0) ∧ ((g 2 i).toInt = 0 → p1S T g n 3 i = g 3 i ∧ p1S T g n 4 i = g 4 i) ∧ ((0 ≤ (g 2 i).toInt ∧ (g 2 i).toInt ≤ 3) → 0 ≤ (p1S T g n 2 i).toInt ∧ (p1S T g n 2 i).toInt ≤ 3)
  | 0, i => ⟨Iff.rfl, fun _ => ⟨rfl, rfl⟩, fun h => h⟩
  | n + 1, i => by
    have ih := p1_h (T := T) (g := g) n i
    unfold p1S
    by_cases q : (p1S T g n 2 n).toInt = 1
    · rw [if_pos q]
      by_cases z : i = n
      · subst z
        obtain ⟨h1, h2⟩ := lieS_2 (T := T) (g := p1S T g i) (f := i) (c := Int32.ofInt (woS T g i)) q
        have h3 : (lieS T (p1S T g i) i (Int32.ofInt (woS T g i)) 2 i).toInt = 2 ∨ (lieS T (p1S T g i) i (Int32.ofInt (woS T g i)) 2 i).toInt = 3 ∨ (lieS T (p1S T g i) i (Int32.ofInt (woS T g i)) 2 i).toInt = 1 := by
          by_cases y : 0 ≤ fsS (p1S T g i) (p1S T g i 0 i) (Int32.ofInt (woS T g i)).toInt (nbS T)
          · exact Or.inl (h1 y)
          · exact Or.inr (h2 (by omega))
        have hne : ¬ (g 2 i).toInt = 0 := fun y => by
          have := ih.1.mpr y
          omega
        exact ⟨⟨fun y => by omega, fun y => absurd y hne⟩, fun y => absurd y hne, fun _ => by omega⟩
      · rw [lieS_o (Or.inr z) (by decide), lieS_o (Or.inr z) (by decide), lieS_o (Or.inr z) (by decide)]
        exact ih
    · rw [if_neg q]
      exact ih
section P2
variable {T : tX} {sd : Int32} {g : gS}
theorem stS_o {g' : gS} {n a i : Nat} (h : i ≠ n ∨ (a ≠ 0 ∧ a ≠ 1 ∧ a ≠ 2 ∧ a ≠ 3)) (h8 : a ≠ 8) : stS T sd g g' n a i = g' a i := by
  unfold stS
  split
  · split
    · exact fallS_o (by omega) h8
    · exact upS_o (by omega)
  · rfl
theorem p2_s : ∀ (n a i : Nat), n ≤ i → a < 7 → p2S T sd g n a i = p1S T g (nfS T) a i
  | 0, a, i, _, _ => rfl
  | n + 1, a, i, h, ha => by
    show stS T sd g (p2S T sd g n) n a i = _
    rw [stS_o (Or.inl (by omega)) (by omega)]
    exact p2_s n a i (by omega) ha
theorem p2_k : ∀ (n a i : Nat), (a = 5 ∨ a = 6 ∨ a = 7 ∨ a = 9) → p2S T sd g n a i = g a i
  | 0, a, i, h => p1_k _ _ _ (by omega)
  | n + 1, a, i, h => by
    show stS T sd g (p2S T sd g n) n a i = _
    rw [stS_o (Or.inr (by omega)) (by omega)]
    exact p2_k n a i h
theorem p2_h : ∀ (n i : Nat), (((p2S T sd g n 2 i).toInt = 0 → (g 2 i).toInt = 0 ∧ p2S T sd g n 0 i = g 0 i ∧ p2S T sd g n 4 i = g 4 i) ∧ ((0 ≤ (g 2 i).toInt ∧ (g 2 i).toInt ≤ 3) → 0 ≤ (p2S T sd g n 2 i).toInt ∧ (p2S T sd g n 2 i).toInt ≤ 3))
  | 0, i => by
    obtain ⟨h1, h2, h3⟩ := p1_h (T := T) (g := g) (nfS T) i
    exact ⟨fun z => ⟨h1.mp z, p1_k _ _ _ (by omega), (h2 (h1.mp z)).2⟩, h3⟩
  | n + 1, i => by
    obtain ⟨h1, h2⟩ := p2_h n i
    show ((stS T sd g (p2S T sd g n) n 2 i).toInt = 0 → (g 2 i).toInt = 0 ∧ stS T sd g (p2S T sd g n) n 0 i = g 0 i ∧ stS T sd g (p2S T sd g n) n 4 i = g 4 i) ∧ ((0 ≤ (g 2 i).toInt ∧ (g 2 i).toInt ≤ 3) → 0 ≤ (stS T sd g (p2S T sd g n) n 2 i).toInt ∧ (stS T sd g (p2S T sd g n) n 2 i).toInt ≤ 3)
    by_cases z : i = n
    · subst z
      unfold stS
      by_cases q : (g 2 i).toInt = 0
      · rw [if_pos q]
        by_cases y : (lotS sd ((16 : Int32) * g 9 0 + Int32.ofInt i)).toInt < flS T g i
        · rw [if_pos y]
          obtain ⟨f1, f2⟩ := fallS_2 (T := T) (g := p2S T sd g i) (f := i) (c := Int32.ofInt (woS T g i)) (bn := bnS T g i)
          have h3 : (fallS T (p2S T sd g i) i (Int32.ofInt (woS T g i)) (bnS T g i) 2 i).toInt = 2 ∨ (fallS T (p2S T sd g i) i (Int32.ofInt (woS T g i)) (bnS T g i) 2 i).toInt = 1 := by
            by_cases w : 0 ≤ (nrS T (p2S T sd g i) (tF T i).1 (Int32.ofInt (woS T g i)).toInt (nbS T)).1
            · exact Or.inl (f1 w)
            · exact Or.inr (f2 (by omega))
          exact ⟨fun w => by omega, fun _ => by omega⟩
        · rw [if_neg y, upS_o (Or.inl (by decide)), upS_o (Or.inl (by decide)), upS_o (Or.inl (by decide))]
          exact ⟨h1, h2⟩
      · rw [if_neg q]
        exact ⟨h1, h2⟩
    · rw [stS_o (Or.inl z) (by decide), stS_o (Or.inl z) (by decide), stS_o (Or.inl z) (by decide)]
      exact ⟨h1, h2⟩
theorem hourS_o {a i : Nat} (h6 : a ≠ 6) (h9 : a ≠ 9 ∨ i ≠ 0) : hourS T sd g a i = p2S T sd g (nfS T) a i := by
  unfold hourS zsS
  rw [upS_o h9]
  exact if_neg h6
theorem okS_hour (h : okS T g) : okS T (hourS T sd g) := by
  obtain ⟨h1, h2, h3, h4⟩ := h
  refine ⟨fun b hb => ?_, fun f hf z => ?_, fun f hf => ?_, ?_⟩
  · rw [hourS_o (by decide) (Or.inl (by decide)), p2_k _ _ _ (by omega)]
    exact h1 b hb
  · rw [hourS_o (by decide) (Or.inl (by decide))] at z
    obtain ⟨y1, y2, y3⟩ := (p2_h (nfS T) f).1 z
    rw [hourS_o (by decide) (Or.inl (by decide)), hourS_o (by decide) (Or.inl (by decide)), y2, y3]
    exact h2 f hf y1
  · rw [hourS_o (by decide) (Or.inl (by decide))]
    exact (p2_h (nfS T) f).2 (h3 f hf)
  · rw [hourS_o (by decide) (Or.inr (by decide)), hourS_o (by decide) (Or.inr (by decide)), p2_k _ _ _ (by omega), p2_k _ _ _ (by omega)]
    exact h4
theorem okS_hrs (h : okS T g) : ∀ n : Nat, okS T (hrsS T sd g n)
  | 0 => h
  | n + 1 => okS_hour (okS_hrs h n)
end P2
/-- none of the first n is shaken -/
def znS (n : Nat) (g : gS) : gS := fun a i => if a = 6 ∧ i < n then 0 else g a i
theorem znS_o {n : Nat} {g : gS} {a i : Nat} (h : a ≠ 6 ∨ n ≤ i) : znS n g a i = g a i := if_neg (by omega)
theorem znS_0 (g : gS) : znS 0 g = g := by
  funext a i
  exact znS_o (Or.inr (Nat.zero_le _))
theorem znS_up {n : Nat} {g : gS} {a i : Nat} {v : Int32} (h : a ≠ 6) : upS (znS n g) a i v = znS n (upS g a i v) := by
  funext a' i'
  by_cases q : a' = a ∧ i' = i
  · obtain ⟨q1, q2⟩ := q
    subst q1
    subst q2
    rw [upS_s, znS_o (Or.inl h), upS_s]
  · have q' : a' ≠ a ∨ i' ≠ i := by omega
    rw [upS_o q']
    unfold znS
    by_cases z : a' = 6 ∧ i' < n
    · rw [if_pos z, if_pos z]
    · rw [if_neg z, if_neg z, upS_o q']
theorem nr_cg {T : tX} {g g' : gS} {x c : Int} (h7 : ∀ i, g 7 i = g' 7 i) (h8 : ∀ i, g 8 i = g' 8 i) : ∀ n : Nat, nrS T g x c n = nrS T g' x c n
  | 0 => rfl
  | n + 1 => by
    unfold nrS
    rw [nr_cg h7 h8 n, h7 n, h8 n]
theorem znS_fall {T : tX} {n : Nat} {g : gS} {f : Nat} {c : Int32} {bn : Int} : fallS T (znS n g) f c bn = znS n (fallS T g f c bn) := by
  have e := nr_cg (T := T) (g := znS n g) (g' := g) (x := (tF T f).1) (c := c.toInt) (fun i => znS_o (Or.inl (by decide))) (fun i => znS_o (Or.inl (by decide))) (nbS T)
  unfold fallS
  rw [e]
  split
  · unfold sellS
    rw [znS_up (by decide), znS_up (by decide), znS_up (by decide), znS_o (Or.inl (by decide))]
  · rw [znS_up (by decide), znS_up (by decide)]
theorem gL_sm {nf nb : Nat} {l : List Int32} {g : gS} (hf : nf ≤ 7) (hb : nb ≤ 4) (h : gL nf nb l g) {a i n : Nat} {v : Int32} (hv : vlS nf nb a i) (hn : n = ra a + i) (e : v = g a i) : gL nf nb (jm_upd l n v) g := by
  have := gL_up (v := v) hf hb h hv hn
  intro a' i' h'
  rw [this a' i' h']
  by_cases q : a' = a ∧ i' = i
  · obtain ⟨q1, q2⟩ := q
    subst q1
    subst q2
    rw [upS_s, e]
  · rw [upS_o (by omega)]
