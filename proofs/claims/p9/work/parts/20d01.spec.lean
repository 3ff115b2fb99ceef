/-! ===== how a text is read, token by token: K the kinds, V the numbers, N the names ===== -/
abbrev sE : Type := Int × Nat
/-- an expression, from the token t, d brackets begun; m = 0: a number or a var comes, 1: behind one -/
noncomputable def eM (K : Nat → Int) : Nat → Nat → Nat → Nat → sE ⊕ Nat
  | 0, t, _, _ => .inr t
  | n + 1, t, d, m => if m = 0 then
      (if K t = 6 then (if d = 6 then .inl (2, t) else if t = 400 then .inl (2, t) else eM K n (t + 1) (d + 1) 0)
      else if K t = 2 ∨ (34 ≤ K t ∧ K t ≤ 42) then (if t = 400 then .inl (2, t) else eM K n (t + 1) d 1) else .inl (1, t))
    else
      (if K t = 7 ∧ 0 < d then (if t = 400 then .inl (2, t) else eM K n (t + 1) (d - 1) 1)
      else if K t = 8 ∨ K t = 9 ∨ K t = 10 ∨ K t = 15 then (if t = 400 then .inl (2, t) else eM K n (t + 1) d 0)
      else if 0 < d then .inl (1, t) else .inr t)
noncomputable def eX (K : Nat → Int) (t d m : Nat) : sE ⊕ Nat := eM K (401 - t) t d m
section EQ
variable {K : Nat → Int} {t d : Nat}
theorem eX_eq (ht : t ≤ 400) (m : Nat) : eX K t d m = if m = 0 then
      (if K t = 6 then (if d = 6 then .inl (2, t) else if t = 400 then .inl (2, t) else eX K (t + 1) (d + 1) 0)
      else if K t = 2 ∨ (34 ≤ K t ∧ K t ≤ 42) then (if t = 400 then .inl (2, t) else eX K (t + 1) d 1) else .inl (1, t))
    else
      (if K t = 7 ∧ 0 < d then (if t = 400 then .inl (2, t) else eX K (t + 1) (d - 1) 1)
      else if K t = 8 ∨ K t = 9 ∨ K t = 10 ∨ K t = 15 then (if t = 400 then .inl (2, t) else eX K (t + 1) d 0)
      else if 0 < d then .inl (1, t) else .inr t) := by
  unfold eX
  rw [show 401 - t = (401 - (t + 1)) + 1 by omega]
  rfl
theorem eX_o6 (ht : t ≤ 400) (h : K t = 6) (h2 : d = 6 ∨ t = 400) : eX K t d 0 = .inl (2, t) := by
  rw [eX_eq ht, if_pos rfl, if_pos h]
  by_cases q : d = 6
  · rw [if_pos q]
  · rw [if_neg q, if_pos (by omega)]
theorem eX_o (ht : t < 400) (h : K t = 6) (h2 : d ≠ 6) : eX K t d 0 = eX K (t + 1) (d + 1) 0 := by
  rw [eX_eq (by omega), if_pos rfl, if_pos h, if_neg h2, if_neg (by omega)]
theorem eX_u (ht : t < 400) (h : K t = 2 ∨ (34 ≤ K t ∧ K t ≤ 42)) : eX K t d 0 = eX K (t + 1) d 1 := by
  rw [eX_eq (by omega), if_pos rfl, if_neg (by omega), if_pos h, if_neg (by omega)]
theorem eX_u4 (ht : t = 400) (h : K t = 2 ∨ (34 ≤ K t ∧ K t ≤ 42)) : eX K t d 0 = .inl (2, t) := by
  rw [eX_eq (by omega), if_pos rfl, if_neg (by omega), if_pos h, if_pos ht]
theorem eX_u1 (ht : t ≤ 400) (h : K t ≠ 6) (h1 : K t ≠ 2) (h2 : K t < 34 ∨ 42 < K t) : eX K t d 0 = .inl (1, t) := by
  rw [eX_eq ht, if_pos rfl, if_neg h, if_neg (by omega)]
theorem eX_c (ht : t < 400) (h : K t = 7) (h2 : 0 < d) : eX K t d 1 = eX K (t + 1) (d - 1) 1 := by
  rw [eX_eq (by omega), if_neg (by decide), if_pos ⟨h, h2⟩, if_neg (by omega)]
theorem eX_c4 (ht : t = 400) (h : K t = 7) (h2 : 0 < d) : eX K t d 1 = .inl (2, t) := by
  rw [eX_eq (by omega), if_neg (by decide), if_pos ⟨h, h2⟩, if_pos ht]
theorem eX_b (ht : t < 400) (h : K t = 8 ∨ K t = 9 ∨ K t = 10 ∨ K t = 15) : eX K t d 1 = eX K (t + 1) d 0 := by
  rw [eX_eq (by omega), if_neg (by decide), if_neg (by omega), if_pos h, if_neg (by omega)]
theorem eX_b4 (ht : t = 400) (h : K t = 8 ∨ K t = 9 ∨ K t = 10 ∨ K t = 15) : eX K t d 1 = .inl (2, t) := by
  rw [eX_eq (by omega), if_neg (by decide), if_neg (by omega), if_pos h, if_pos ht]
theorem eX_e1 (ht : t ≤ 400) (h7 : K t ≠ 7) (h : ¬ (K t = 8 ∨ K t = 9 ∨ K t = 10 ∨ K t = 15)) (h2 : 0 < d) : eX K t d 1 = .inl (1, t) := by
  rw [eX_eq ht, if_neg (by decide), if_neg (by omega), if_neg h, if_pos h2]
theorem eX_e0 (ht : t ≤ 400) (h : ¬ (K t = 8 ∨ K t = 9 ∨ K t = 10 ∨ K t = 15)) : eX K t 0 1 = .inr t := by
  rw [eX_eq ht, if_neg (by decide), if_neg (by omega), if_neg h, if_neg (by omega)]
end EQ
/-- one after the other -/
noncomputable def sB {A B : Type} (r : sE ⊕ A) (f : A → sE ⊕ B) : sE ⊕ B := match r with
  | .inl e => .inl e
  | .inr a => f a
noncomputable def sG (t : Nat) : sE ⊕ Nat := if t = 400 then .inl (2, t) else .inr (t + 1)
noncomputable def sM (K : Nat → Int) (k : Int) (t : Nat) : sE ⊕ Nat := if K t = k then sG t else .inl (1, t)
/-- the first fault of a name or number so far: its number (0: none), its token -/
noncomputable def sW (w : sE) (b : Prop) [Decidable b] (k : Int) (t : Nat) : sE := if b ∧ w.1 = 0 then (k, t) else w
noncomputable def sN (K V : Nat → Int) (lo hi : Int) (q : Nat × sE) : sE ⊕ (Nat × sE) := sB (sM K 2 q.1) fun t => .inr (t, sW q.2 (V q.1 < lo ∨ hi < V q.1) 5 q.1)
/-- a text so far: the token, fruits, buyers, names, the fault of a name or number -/
abbrev sT : Type := Nat × Nat × Nat × List Int64 × sE
noncomputable def sNm (K : Nat → Int) (N : Nat → Int64) (q : Nat × List Int64 × sE) : sE ⊕ (Nat × sE) := sB (sM K 1 q.1) fun t => .inr (t, sW q.2.2 (N q.1 ∈ q.2.1) 3 q.1)
noncomputable def sTell (K V : Nat → Int) (N : Nat → Int64) (a b c : Int × Int) (q : Nat × List Int64 × sE) : sE ⊕ (Nat × sE) := sB (sNm K N q) fun q => sB (sN K V a.1 a.2 q) fun q => sB (sN K V b.1 b.2 q) fun q => sB (sN K V c.1 c.2 q) fun q => sB (sM K 4 q.1) fun t => .inr (t, q.2)
noncomputable def sFruit (K V : Nat → Int) (N : Nat → Int64) (x : sT) : sE ⊕ sT := if x.2.1 = 7 then .inl (2, x.1) else sB (sG x.1) fun t => sB (sTell K V N (0, 9) (1, 9) (0, 99) (t, x.2.2.2.1, x.2.2.2.2)) fun q => .inr (q.1, x.2.1 + 1, x.2.2.1, x.2.2.2.1 ++ [N t], q.2)
noncomputable def sBuyer (K V : Nat → Int) (N : Nat → Int64) (x : sT) : sE ⊕ sT := if x.2.2.1 = 4 then .inl (2, x.1) else sB (sG x.1) fun t => sB (sTell K V N (0, 9) (0, 3) (0, 999) (t, x.2.2.2.1, x.2.2.2.2)) fun q => .inr (q.1, x.2.1, x.2.2.1 + 1, x.2.2.2.1 ++ [N t], q.2)
noncomputable def sSt (K V : Nat → Int) (hi : Int) (t : Nat) (w : sE) : sE ⊕ (Nat × sE) := sB (sG t) fun t => sB (sN K V 0 hi (t, w)) fun q => sB (sM K 4 q.1) fun t => .inr (t, q.2)
noncomputable def sSet (K V : Nat → Int) (hi : Int) (x : sT) : sE ⊕ sT := sB (sSt K V hi x.1 x.2.2.2.2) fun q => .inr (q.1, x.2.1, x.2.2.1, x.2.2.2.1, q.2)
theorem sB_a {A B C : Type} (r : sE ⊕ A) (f : A → sE ⊕ B) (g : B → sE ⊕ C) : sB (sB r f) g = sB r (fun a => sB (f a) g) := by
  cases r <;> rfl
noncomputable def sIf (K : Nat → Int) (t : Nat) : sE ⊕ Nat := sB (sG t) fun t => sB (eX K t 0 0) fun t => sB (sM K 13 t) fun t => sB (eX K t 0 0) fun t => sB (sM K 32 t) fun t => sB (eX K t 0 0) fun t => sM K 33 t
noncomputable def sIfs (K : Nat → Int) : Nat → Nat → sE ⊕ Nat
  | 0, t => if K t = 31 then .inl (2, t) else .inr t
  | n + 1, t => if K t = 31 then sB (sIf K t) (sIfs K n) else .inr t
noncomputable def sLast (K : Nat → Int) (t : Nat) : sE ⊕ Nat := sB (eX K t 0 0) (sM K 4)
noncomputable def sLw (K : Nat → Int) (t : Nat) : sE ⊕ Nat := sB (sM K 5 t) fun t => sB (sIfs K 4 t) (sLast K)
noncomputable def sLaw (K : Nat → Int) (x : sT) : sE ⊕ sT := sB (sG x.1) fun t => sB (sLw K t) fun t => .inr (t, x.2)
noncomputable def sOne (K V : Nat → Int) (N : Nat → Int64) (x : sT) : sE ⊕ sT :=
  if K x.1 = 20 then sFruit K V N x else if K x.1 = 21 then sBuyer K V N x else if K x.1 = 28 ∨ K x.1 = 29 then sSet K V 99 x else if K x.1 = 30 then sSet K V 9999 x
  else if 22 ≤ K x.1 ∧ K x.1 ≤ 27 then sLaw K x else .inl (1, x.1)
noncomputable def sRun (K V : Nat → Int) (N : Nat → Int64) : Nat → sT → sE ⊕ sT
  | 0, x => .inr x
  | n + 1, x => if K x.1 = 0 then .inr x else sB (sOne K V N x) (sRun K V N n)
theorem eM_le {K : Nat → Int} {L : Nat} (hL : K L = 0 ∨ L = 400) (hL4 : L ≤ 400) : ∀ (n t d m t' : Nat), t ≤ L → eM K n t d m = .inr t' → t' ≤ L
  | 0, t, d, m, t', h, e => by
    have e : (.inr t : sE ⊕ Nat) = .inr t' := e
    cases e
    exact h
  | n + 1, t, d, m, t', h, e => by
    have nx : K t ≠ 0 → ¬ t = 400 → t + 1 ≤ L := fun a b => by
      by_cases q : t = L
      · rcases hL with z | z
        · rw [q] at a; exact absurd z a
        · omega
      · omega
    unfold eM at e
    split at e
    · split at e
      · rename_i hk
        split at e
        · cases e
        · split at e
          · cases e
          · rename_i z; exact eM_le hL hL4 n _ _ _ _ (nx (by rw [hk]; decide) z) e
      · split at e
        · rename_i hk
          split at e
          · cases e
          · rename_i z; exact eM_le hL hL4 n _ _ _ _ (nx (by omega) z) e
        · cases e
    · split at e
      · rename_i hk
        split at e
        · cases e
        · rename_i z; exact eM_le hL hL4 n _ _ _ _ (nx (by rw [hk.1]; decide) z) e
      · split at e
        · rename_i hk
          split at e
          · cases e
          · rename_i z; exact eM_le hL hL4 n _ _ _ _ (nx (by omega) z) e
        · split at e
          · cases e
          · cases e
            exact h
theorem eX_le {K : Nat → Int} {L t d m t' : Nat} (hL : K L = 0 ∨ L = 400) (hL4 : L ≤ 400) (h : t ≤ L) (e : eX K t d m = .inr t') : t' ≤ L := eM_le hL hL4 _ _ _ _ _ h e
