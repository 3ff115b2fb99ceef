/-! ===== all that goes on, as numbers: 0 x, 1 ripe, 2 how, 3 owner, 4 lain, 5 propped, 6 shaken, 7 where a buyer stands, 8 its coins, 9 hour, shakes, found, fines ===== -/
abbrev gS : Type := Nat → Nat → Int32
def upS (g : gS) (a i : Nat) (v : Int32) : gS := fun a' i' => if a' = a ∧ i' = i then v else g a' i'
theorem upS_s {g : gS} {a i : Nat} {v : Int32} : upS g a i v a i = v := if_pos ⟨rfl, rfl⟩
theorem upS_o {g : gS} {a i a' i' : Nat} {v : Int32} (h : a' ≠ a ∨ i' ≠ i) : upS g a i v a' i' = g a' i' := if_neg (fun z => by rcases h with h | h; exact h z.1; exact h z.2)
def ra : Nat → Nat
  | 0 => 0
  | 1 => 7
  | 2 => 14
  | 3 => 21
  | 4 => 28
  | 5 => 35
  | 6 => 42
  | 7 => 49
  | 8 => 53
  | _ => 57
def wdS (a : Nat) : Nat := if a < 7 then 7 else 4
/-- which numbers count: nf fruits, nb buyers -/
def vlS (nf nb a i : Nat) : Prop := (a < 7 ∧ i < nf) ∨ ((a = 7 ∨ a = 8) ∧ i < nb) ∨ (a = 9 ∧ i < 4)
theorem ra_inj : ∀ a : Fin 10, ∀ i : Fin 7, ∀ a' : Fin 10, ∀ i' : Fin 7, i.val < wdS a.val → i'.val < wdS a'.val → ra a.val + i.val = ra a'.val + i'.val → a = a' ∧ i = i' := by decide +kernel
theorem vl_in {nf nb a i : Nat} (hf : nf ≤ 7) (hb : nb ≤ 4) (h : vlS nf nb a i) : a < 10 ∧ i < 7 ∧ i < wdS a := by
  unfold wdS
  rcases h with h | h | h
  · rw [if_pos h.1]
    omega
  · rw [if_neg (by omega)]
    omega
  · rw [if_neg (by omega)]
    omega
theorem vl_ne {nf nb a i a' i' : Nat} (hf : nf ≤ 7) (hb : nb ≤ 4) (h : vlS nf nb a i) (h' : vlS nf nb a' i') (e : ra a' + i' = ra a + i) : a' = a ∧ i' = i := by
  obtain ⟨h1, h2, h3⟩ := vl_in hf hb h
  obtain ⟨h4, h5, h6⟩ := vl_in hf hb h'
  have q := ra_inj ⟨a', h4⟩ ⟨i', h5⟩ ⟨a, h1⟩ ⟨i, h2⟩ h6 h3 e
  exact ⟨congrArg Fin.val q.1, congrArg Fin.val q.2⟩
theorem vl_61 {nf nb a i : Nat} (hf : nf ≤ 7) (hb : nb ≤ 4) (h : vlS nf nb a i) : ra a + i < 61 := by
  have key : ∀ a : Fin 10, ∀ i : Fin 7, i.val < wdS a.val → ra a.val + i.val < 61 := by decide +kernel
  obtain ⟨h1, h2, h3⟩ := vl_in hf hb h
  exact key ⟨a, h1⟩ ⟨i, h2⟩ h3
/-- a row of the reference holds g -/
def gL (nf nb : Nat) (l : List Int32) (g : gS) : Prop := ∀ a i, vlS nf nb a i → l.getD (ra a + i) 0 = g a i
theorem gL_up {nf nb : Nat} {l : List Int32} {g : gS} (hf : nf ≤ 7) (hb : nb ≤ 4) (h : gL nf nb l g) {a i n : Nat} {v : Int32} (hv : vlS nf nb a i) (hn : n = ra a + i) : gL nf nb (jm_upd l n v) (upS g a i v) := by
  intro a' i' h'
  rw [jm_upd_at]
  by_cases q : ra a' + i' = n
  · obtain ⟨e1, e2⟩ := vl_ne hf hb hv h' (q.trans hn)
    subst e1
    subst e2
    rw [if_pos q, upS_s]
  · rw [if_neg q, upS_o ?_]
    · exact h a' i' h'
    · by_cases z : a' = a
      · right
        intro w
        subst z
        subst w
        exact q hn.symm
      · exact Or.inl z
theorem gL_eq {nf nb : Nat} {l l' : List Int32} {g : gS} (hf : nf ≤ 7) (hb : nb ≤ 4) (h : gL nf nb l g) (e : ∀ j, j < 61 → l'.getD j 0 = l.getD j 0) : gL nf nb l' g := fun a i hv => by
  rw [e _ (vl_61 hf hb hv)]
  exact h a i hv
def nfS (T : tX) : Nat := T.1.length
def nbS (T : tX) : Nat := T.2.1.length
theorem vF {nf nb a i : Nat} (ha : a < 7) (h : i < nf) : vlS nf nb a i := Or.inl ⟨ha, h⟩
theorem vB {nf nb a i : Nat} (ha : a = 7 ∨ a = 8) (h : i < nb) : vlS nf nb a i := Or.inr (Or.inl ⟨ha, h⟩)
theorem vH {nf nb i : Nat} (h : i < 4) : vlS nf nb 9 i := Or.inr (Or.inr ⟨rfl, h⟩)
/-! ===== which fruit is so, as bits; how much ===== -/
def mkS (g : gS) (w : Int) : Nat → Int32
  | 0 => 0
  | n + 1 => if (g 2 n).toInt = w then mkS g w n ||| ((1 : Int32) <<< (Int32.ofInt n &&& 31)) else mkS g w n
/-- how many of the seven bits -/
def ppS (x : Int32) : Int32 := (((((((0 : Int32) + ((x >>> ((0 : Int32) &&& 31)) &&& (1 : Int32))) + ((x >>> ((1 : Int32) &&& 31)) &&& (1 : Int32))) + ((x >>> ((2 : Int32) &&& 31)) &&& (1 : Int32))) + ((x >>> ((3 : Int32) &&& 31)) &&& (1 : Int32))) + ((x >>> ((4 : Int32) &&& 31)) &&& (1 : Int32))) + ((x >>> ((5 : Int32) &&& 31)) &&& (1 : Int32))) + ((x >>> ((6 : Int32) &&& 31)) &&& (1 : Int32))
theorem mk_bit : ∀ n : Fin 7, ∀ m : Fin 128, (Int32.ofNat m.val ||| ((1 : Int32) <<< (Int32.ofInt (n.val : Int) &&& 31))) = Int32.ofNat (m.val ||| 2 ^ n.val) := by decide +kernel
theorem mkS_in (g : gS) (w : Int) : ∀ n : Nat, n ≤ 7 → ∃ m : Nat, m < 2 ^ n ∧ mkS g w n = Int32.ofNat m
  | 0, _ => ⟨0, by decide, rfl⟩
  | n + 1, h => by
    obtain ⟨m, h1, h2⟩ := mkS_in g w n (by omega)
    have p7 : 2 ^ n ≤ 2 ^ 7 := Nat.pow_le_pow_right (by decide) (by omega)
    have p8 : 2 ^ (n + 1) = 2 * 2 ^ n := by rw [Nat.pow_succ]; omega
    unfold mkS
    by_cases q : (g 2 n).toInt = w
    · rw [if_pos q, h2]
      refine ⟨m ||| 2 ^ n, Nat.or_lt_two_pow (by omega) (by rw [p8]; have := Nat.two_pow_pos n; omega), ?_⟩
      exact mk_bit ⟨n, by omega⟩ ⟨m, by omega⟩
    · rw [if_neg q]
      exact ⟨m, by omega, h2⟩
/-- how much hangs -/
def lfS (T : tX) (g : gS) : Int32 := ppS (mkS g 0 (nfS T))
/-! ===== who catches, who buys ===== -/
def nrS (T : tX) (g : gS) (x c : Int) : Nat → Int × Int
  | 0 => (-2, 4)
  | n + 1 => if (((g 7 n).toInt - x).natAbs : Int) ≤ (tB T n).2.1 ∧ (((g 7 n).toInt - x).natAbs : Int) < (nrS T g x c n).2 ∧ c ≤ (g 8 n).toInt then ((n : Int), (((g 7 n).toInt - x).natAbs : Int)) else nrS T g x c n
def fsS (g : gS) (x : Int32) (c : Int) : Nat → Int
  | 0 => -2
  | n + 1 => if 0 ≤ fsS g x c n then fsS g x c n else if (g 7 n) = x ∧ c ≤ (g 8 n).toInt then (n : Int) else -2
theorem fs_in (g : gS) (x : Int32) (c : Int) : ∀ n : Nat, fsS g x c n = -2 ∨ (0 ≤ fsS g x c n ∧ fsS g x c n < n)
  | 0 => Or.inl rfl
  | n + 1 => by
    have ih := fs_in g x c n
    unfold fsS
    by_cases q : 0 ≤ fsS g x c n
    · rw [if_pos q]
      right
      omega
    · rw [if_neg q]
      by_cases z : (g 7 n) = x ∧ c ≤ (g 8 n).toInt
      · rw [if_pos z]
        right
        omega
      · rw [if_neg z]
        exact Or.inl rfl
theorem fs_st {g : gS} {x : Int32} {c : Int} {n : Nat} (h : 0 ≤ fsS g x c n) : ∀ m : Nat, fsS g x c (n + m) = fsS g x c n
  | 0 => rfl
  | m + 1 => by
    have ih := fs_st h m
    show (if 0 ≤ fsS g x c (n + m) then fsS g x c (n + m) else _) = _
    rw [ih, if_pos h]
theorem nr_in (T : tX) (g : gS) (x c : Int) : ∀ n : Nat, (nrS T g x c n = (-2, 4)) ∨ (0 ≤ (nrS T g x c n).1 ∧ (nrS T g x c n).1 < n ∧ (nrS T g x c n).2 = (((g 7 (nrS T g x c n).1.toNat).toInt - x).natAbs : Int))
  | 0 => Or.inl rfl
  | n + 1 => by
    have ih := nr_in T g x c n
    unfold nrS
    by_cases q : (((g 7 n).toInt - x).natAbs : Int) ≤ (tB T n).2.1 ∧ (((g 7 n).toInt - x).natAbs : Int) < (nrS T g x c n).2 ∧ c ≤ (g 8 n).toInt
    · rw [if_pos q]
      right
      refine ⟨?_, ?_, ?_⟩
      · show (0 : Int) ≤ (n : Int)
        omega
      · show ((n : Int)) < ((n + 1 : Nat) : Int)
        omega
      · show _ = (((g 7 ((n : Int)).toNat).toInt - x).natAbs : Int)
        rw [Int.toNat_natCast]
    · rw [if_neg q]
      rcases ih with h | ⟨h1, h2, h3⟩
      · exact Or.inl h
      · exact Or.inr ⟨h1, by omega, h3⟩
/-! ===== an hour ===== -/
def sellS (g : gS) (f : Nat) (b : Int) (c : Int32) : gS := upS (upS (upS g 2 f 2) 3 f (Int32.ofInt b)) 8 b.toNat (g 8 b.toNat - c)
def lieS (T : tX) (g : gS) (f : Nat) (c : Int32) : gS :=
  if 0 ≤ fsS g (g 0 f) c.toInt (nbS T) then sellS g f (fsS g (g 0 f) c.toInt (nbS T)) c
  else if T.2.2.2.1 < (g 4 f + 1).toInt then upS (upS g 4 f (g 4 f + 1)) 2 f 3 else upS g 4 f (g 4 f + 1)
def fallS (T : tX) (g : gS) (f : Nat) (c : Int32) (bn : Int) : gS :=
  if 0 ≤ (nrS T g (tF T f).1 c.toInt (nbS T)).1 then sellS g f (nrS T g (tF T f).1 c.toInt (nbS T)).1 c
  else upS (upS g 2 f 1) 0 f (Int32.ofInt (hdz 0 9 (Int32.ofInt (tF T f).1 + Int32.ofInt bn).toInt))
def mixS (h v : Int32) : Int32 := ((h ^^^ v) * (1103515245 : Int32) + (12345 : Int32)) ^^^ ((((h ^^^ v) * (1103515245 : Int32) + (12345 : Int32)).toUInt32 >>> (((15 : Int32)).toUInt32 &&& Int32.toUInt32 31)).toInt32)
def lotS (sd w : Int32) : Int32 := ((((mixS (mixS sd 101) w)).toUInt32 >>> (((1 : Int32)).toUInt32 &&& Int32.toUInt32 31)).toInt32) - ((((mixS (mixS sd 101) w)).toUInt32 >>> (((1 : Int32)).toUInt32 &&& Int32.toUInt32 31)).toInt32) / (100 : Int32) * (100 : Int32)
noncomputable def wiS (T : tX) (g : gS) : Int := windT T (g 9 0) (lfS T g)
noncomputable def woS (T : tX) (g : gS) (f : Nat) : Int := worthT T f (g 1 f) (g 4 f) (g 9 0) (lfS T g)
noncomputable def flS (T : tX) (g : gS) (f : Nat) : Int := fallT T f (g 1 f) (g 6 f) (g 5 f) (Int32.ofInt (wiS T g)) (g 9 0) (lfS T g)
noncomputable def rpS (T : tX) (g : gS) (f : Nat) : Int := ripeT T f (g 1 f) (g 6 f) (g 5 f) (Int32.ofInt (wiS T g)) (g 9 0) (lfS T g)
noncomputable def bnS (T : tX) (g : gS) (f : Nat) : Int := bncT T f (g 1 f) (g 9 0) (lfS T g)
noncomputable def nowS (T : tX) (sd : Int32) (g : gS) (f : Nat) : Prop := (lotS sd ((16 : Int32) * g 9 0 + Int32.ofInt f)).toInt < flS T g f
noncomputable def p1S (T : tX) (g : gS) : Nat → gS
  | 0 => g
  | n + 1 => if (p1S T g n 2 n).toInt = 1 then lieS T (p1S T g n) n (Int32.ofInt (woS T g n)) else p1S T g n
noncomputable def stS (T : tX) (sd : Int32) (g0 g : gS) (n : Nat) : gS := if (g0 2 n).toInt = 0 then (if (lotS sd ((16 : Int32) * g0 9 0 + Int32.ofInt n)).toInt < flS T g0 n then fallS T g n (Int32.ofInt (woS T g0 n)) (bnS T g0 n) else upS g 1 n (Int32.ofInt (hdz 0 99 (g0 1 n + Int32.ofInt (rpS T g0 n)).toInt))) else g
noncomputable def p2S (T : tX) (sd : Int32) (g0 : gS) : Nat → gS
  | 0 => p1S T g0 (nfS T)
  | n + 1 => stS T sd g0 (p2S T sd g0 n) n
/-- none is shaken -/
def zsS (g : gS) : gS := fun a i => if a = 6 then 0 else g a i
noncomputable def hourS (T : tX) (sd : Int32) (g : gS) : gS := upS (zsS (p2S T sd g (nfS T))) 9 0 (g 9 0 + 1)
noncomputable def hrsS (T : tX) (sd : Int32) (g : gS) : Nat → gS
  | 0 => g
  | n + 1 => hourS T sd (hrsS T sd g n)
/-- what holds of all that goes on -/
def okS (T : tX) (g : gS) : Prop := (∀ b, b < nbS T → 0 ≤ (g 7 b).toInt ∧ (g 7 b).toInt ≤ 9) ∧ (∀ f, f < nfS T → (g 2 f).toInt = 0 → g 4 f = 0 ∧ g 0 f = Int32.ofInt (tF T f).1) ∧ (∀ f, f < nfS T → 0 ≤ (g 2 f).toInt ∧ (g 2 f).toInt ≤ 3) ∧ g 9 3 = g 9 2 * Int32.ofInt T.2.2.1
/-! ===== how much is so ===== -/
def nmS (g : gS) (w : Int) : Nat → Nat
  | 0 => 0
  | n + 1 => if (g 2 n).toInt = w then nmS g w n + 1 else nmS g w n
theorem mkS_cg {g g' : gS} {w : Int} : ∀ n : Nat, (∀ i, i < n → g 2 i = g' 2 i) → mkS g w n = mkS g' w n
  | 0, _ => rfl
  | n + 1, h => by
    unfold mkS
    rw [h n (by omega), mkS_cg n (fun i hi => h i (by omega))]
theorem nm_cg {g g' : gS} {w : Int} : ∀ n : Nat, (∀ i, i < n → g 2 i = g' 2 i) → nmS g w n = nmS g' w n
  | 0, _ => rfl
  | n + 1, h => by
    unfold nmS
    rw [h n (by omega), nm_cg n (fun i hi => h i (by omega))]
/-- one more is so -/
theorem nm_up {g g' : gS} {w : Int} {f : Nat} : ∀ n : Nat, f < n → (g 2 f).toInt ≠ w → (g' 2 f).toInt = w → (∀ i, i ≠ f → g' 2 i = g 2 i) → nmS g' w n = nmS g w n + 1
  | 0, h, _, _, _ => absurd h (by omega)
  | n + 1, h, h1, h2, h3 => by
    unfold nmS
    by_cases q : f = n
    · subst q
      rw [if_pos h2, if_neg h1, nm_cg (g := g') (g' := g) f (fun i hi => h3 i (by omega))]
    · rw [h3 n (by omega), nm_up n (by omega) h1 h2 h3]
      split <;> omega
