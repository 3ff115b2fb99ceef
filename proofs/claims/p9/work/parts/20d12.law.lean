/-! ===== terms and laws: what they tell ===== -/
noncomputable def try_R (F F' : Nat → sy_d) : Prop := tr_R F F' ∧ fx (er F) F F' ∧ ((sy_i F' 6).toInt = 0 → er F = .inr (tn F'))
section TRY
variable {Ls : Nat} {xs : Nat → Int32} (X1 X2 : List jm_c) (F : Nat → sy_d)
end TRY
section CC
variable (K : Nat → Int)
noncomputable def c6 (n t : Nat) : sE ⊕ Nat := sB (sM K 33 t) fun t => sB (sIfs K n t) (sLast K)
noncomputable def c5 (n t : Nat) : sE ⊕ Nat := sB (eX K t 0 0) (c6 K n)
noncomputable def c4 (n t : Nat) : sE ⊕ Nat := sB (sM K 32 t) (c5 K n)
noncomputable def c3 (n t : Nat) : sE ⊕ Nat := sB (eX K t 0 0) (c4 K n)
noncomputable def c2 (n t : Nat) : sE ⊕ Nat := sB (sM K 13 t) (c3 K n)
noncomputable def c1 (n t : Nat) : sE ⊕ Nat := sB (eX K t 0 0) (c2 K n)
theorem c_if {n t : Nat} (h : K t = 31) : sB (sIfs K (n + 1) t) (sLast K) = sB (sG t) (c1 K n) := by
  show sB (if K t = 31 then sB (sIf K t) (sIfs K n) else .inr t) (sLast K) = _
  rw [if_pos h, sB_a]
  unfold sIf c1 c2 c3 c4 c5 c6
  simp only [sB_a]
theorem c_if0 {t : Nat} (h : K t = 31) : sB (sIfs K 0 t) (sLast K) = .inl (2, t) := by
  show sB (if K t = 31 then .inl (2, t) else .inr t) (sLast K) = _
  rw [if_pos h]
  rfl
theorem c_no {n t : Nat} (h : K t ≠ 31) : sB (sIfs K n t) (sLast K) = sLast K t := by
  cases n with
  | zero =>
    show sB (if K t = 31 then .inl (2, t) else .inr t) (sLast K) = _
    rw [if_neg h]
    rfl
  | succ n =>
    show sB (if K t = 31 then sB (sIf K t) (sIfs K n) else .inr t) (sLast K) = _
    rw [if_neg h]
    rfl
end CC
noncomputable def lr (F0 : Nat → sy_d) : sE ⊕ Nat := sLw (kf F0) (tn F0)
noncomputable def tly_R (k : Int) (F0 F' : Nat → sy_d) : Prop := tl_R k F0 F' ∧ fx (lr F0) F0 F' ∧ ((sy_i F' 6).toInt = 0 → lr F0 = .inr (tn F'))
noncomputable def tly_Q (k : Int) (F0 : Nat → sy_d) (X1 X2 : List jm_c) (v : Option Value) (G : jm_h) : Prop := ∃ F' : Nat → sy_d, v = none ∧ G = sy_dh F' X1 X2 (iv_H 4) ∧ tly_R k F0 F'
/-- a piece of the way in between: what it tells goes on -/
theorem fx_bind {A B : Type} {r0 : sE ⊕ B} {r : sE ⊕ A} {f : A → sE ⊕ B} {F0 F F3 : Nat → sy_d} (hf : fx r0 F0 F) (h : fx r F F3) (hP : pf F = pf F0) (hu : (sy_i F 6).toInt = 0 → (sy_i F0 6).toInt = 0) (heq : (sy_i F 6).toInt = 0 → r0 = sB r f) : fx r0 F0 F3 := by
  by_cases q : (sy_i F 6).toInt = 0
  · refine ⟨fun _ b => ?_, fun a => absurd (hu q) a⟩
    obtain ⟨tok, t1, t2⟩ := h.1 q b
    exact ⟨tok, by rw [heq q, t1]; rfl, by rw [t2, hP]⟩
  · obtain ⟨e6, e7⟩ := h.2 q
    exact fx_same hf e6 e7
section TLY
variable {Ls : Nat} {xs : Nat → Int32} (X1 X2 : List jm_c) (F0 : Nat → sy_d) (k : Int)
/-- the loop's head, with n ifs left -/
noncomputable def ty12 (Ls : Nat) (xs : Nat → Int32) (n : Nat) : Prop := ∀ F : Nat → sy_d, lc 100 F0 F → fx (lr F0) F0 F → ((sy_i F 6).toInt = 0 → li 2 F0 F) → ((sy_i F 6).toInt = 0 → lr F0 = sB (sIfs (kf F0) n (tn F)) (sLast (kf F0))) → (sy_i F 69).toInt = k → (sy_i F 70).toInt = (sy_i F0 14).toInt → (sy_i F 71).toInt = 4 - n →
    hd_W Ls xs 6 jm_M160 (tly_Q k F0 X1 X2) (12, sy_dL F [some (.inl (.ref 1000)), some (.inr (.inl 69)), some (.inr (.inl 70)), some (.inr (.inl 71))], sy_dS F [], sy_dh F X1 X2 (iv_H 4), 0, 0)
end TLY
