/-! ===== an expression is read, and where it goes wrong ===== -/
noncomputable def kf (F : Nat → sy_d) (n : Nat) : Int := ((sy_ai F 25).getD n 0).toInt
noncomputable def pf (F : Nat → sy_d) (n : Nat) : Int := ((sy_ai F 26).getD n 0).toInt
noncomputable def tn (F : Nat → sy_d) : Nat := (sy_i F 4).toInt.toNat
/-- a fault is the one that the token's machine r tells; one that was there stays -/
noncomputable def fx {A : Type} (r : sE ⊕ A) (F0 F : Nat → sy_d) : Prop := ((sy_i F0 6).toInt = 0 → (sy_i F 6).toInt ≠ 0 → ∃ tok, r = .inl ((sy_i F 6).toInt, tok) ∧ (sy_i F 7).toInt = pf F0 tok) ∧ ((sy_i F0 6).toInt ≠ 0 → (sy_i F 6).toInt = (sy_i F0 6).toInt ∧ (sy_i F 7).toInt = (sy_i F0 7).toInt)
theorem fx_ok {A : Type} {r : sE ⊕ A} {F0 F : Nat → sy_d} (h0 : (sy_i F0 6).toInt = 0) (h : (sy_i F 6).toInt = 0) : fx r F0 F := ⟨fun _ q => absurd h q, fun q => absurd h0 q⟩
theorem fx_mk {A : Type} {r : sE ⊕ A} {F0 F : Nat → sy_d} {f : Int} {tok : Nat} (h0 : (sy_i F0 6).toInt = 0) (hr : r = .inl (f, tok)) (h6 : (sy_i F 6).toInt = f) (h7 : (sy_i F 7).toInt = pf F0 tok) : fx r F0 F := ⟨fun _ _ => ⟨tok, by rw [h6]; exact hr, h7⟩, fun q => absurd h0 q⟩
theorem fx_same {A : Type} {r : sE ⊕ A} {F0 F F1 : Nat → sy_d} (h : fx r F0 F) (h6 : (sy_i F1 6).toInt = (sy_i F 6).toInt) (h7 : (sy_i F1 7).toInt = (sy_i F 7).toInt) : fx r F0 F1 := ⟨fun a b => by rw [h6, h7]; exact h.1 a (by rw [← h6]; exact b), fun a => by rw [h6, h7]; exact h.2 a⟩
noncomputable def er (F0 : Nat → sy_d) : sE ⊕ Nat := eX (kf F0) (tn F0) 0 0
noncomputable def yc (F0 F : Nat → sy_d) : Prop := xc F0 F ∧ fx (er F0) F0 F
noncomputable def yi (k : Nat) (F0 F : Nat → sy_d) : Prop := xi k F0 F ∧ er F0 = eX (kf F0) (tn F) (sy_i F 5).toInt.toNat k
noncomputable def yr (F0 F' : Nat → sy_d) : Prop := xr F0 F' ∧ fx (er F0) F0 F' ∧ ((sy_i F' 6).toInt = 0 → er F0 = .inr (tn F'))
noncomputable def ey_Q (F0 : Nat → sy_d) (X1 X2 : List jm_c) (v : Option Value) (G : jm_h) : Prop := ∃ F' : Nat → sy_d, v = none ∧ G = sy_dh F' X1 X2 (iv_H 4) ∧ yr F0 F'
theorem tn_eq {F F1 : Nat → sy_d} (h : (sy_i F1 4).toInt = (sy_i F 4).toInt) : tn F1 = tn F := by unfold tn; rw [h]
theorem tn_s {F F1 : Nat → sy_d} (h0 : 0 ≤ (sy_i F 4).toInt) (h : (sy_i F1 4).toInt = (sy_i F 4).toInt + 1) : tn F1 = tn F + 1 := by unfold tn; omega
section EY
variable {Ls : Nat} {xs : Nat → Int32} (X1 X2 : List jm_c) (F0 : Nat → sy_d)
noncomputable def y96 (Ls : Nat) (xs : Nat → Int32) (n : Nat) : Prop := ∀ F : Nat → sy_d, yc F0 F → yi 1 F0 F → (sy_i F 69).toInt = 0 → 400 - (sy_i F 4).toInt < n →
    hd_W Ls xs 4 jm_M164 (ey_Q F0 X1 X2) (96, sy_dL F [some (.inl (.ref 1000)), some (.inr (.inl 69)), some (.inl (.int 1))], sy_dS F [], sy_dh F X1 X2 (iv_H 4), 0, 0)
noncomputable def y23 (Ls : Nat) (xs : Nat → Int32) (n : Nat) : Prop := ∀ F : Nat → sy_d, yc F0 F → yi 0 F0 F → (sy_i F 69).toInt = 0 → 400 - (sy_i F 4).toInt < n →
    hd_W Ls xs 4 jm_M164 (ey_Q F0 X1 X2) (23, sy_dL F [some (.inl (.ref 1000)), some (.inr (.inl 69)), some (.inl (.int 1))], sy_dS F [], sy_dh F X1 X2 (iv_H 4), 0, 0)
noncomputable def y12 (Ls : Nat) (xs : Nat → Int32) (n : Nat) : Prop := ∀ F : Nat → sy_d, yc F0 F → yi 0 F0 F → (sy_i F 69).toInt = 0 → 400 - (sy_i F 4).toInt < n →
    hd_W Ls xs 4 jm_M164 (ey_Q F0 X1 X2) (12, sy_dL F [some (.inl (.ref 1000)), some (.inr (.inl 69)), some (.inl (.int 1))], sy_dS F [], sy_dh F X1 X2 (iv_H 4), 0, 0)
end EY
