/-! ===== the class parses fruit and buyers ===== -/
section NN
variable (K V : Nat → Int) (b c : Int × Int) (f : Nat × sE → sE ⊕ sT)
noncomputable def n4 (q : Nat × sE) : sE ⊕ sT := sB (sM K 4 q.1) fun t => f (t, q.2)
noncomputable def n3 (q : Nat × sE) : sE ⊕ sT := sB (sN K V c.1 c.2 q) (n4 K f)
noncomputable def n2 (q : Nat × sE) : sE ⊕ sT := sB (sN K V b.1 b.2 q) (n3 K V c f)
noncomputable def n1 (a : Int × Int) (q : Nat × sE) : sE ⊕ sT := sB (sN K V a.1 a.2 q) (n2 K V b c f)
theorem n_eq (N : Nat → Int64) (a : Int × Int) (q : Nat × List Int64 × sE) : sB (sTell K V N a b c q) f = sB (sNm K N q) (n1 K V b c f a) := by
  unfold sTell n1 n2 n3 n4
  simp only [sB_a]
  rfl
end NN
noncomputable def rcl (P : Nat → Int) (FR BU : Nat) (x : sT) (F : Nat → sy_d) : Prop := tg F = x.1 ∧ (sy_i F FR).toInt = x.2.1 ∧ (sy_i F BU).toInt = x.2.2.1 ∧ ncr x.2.2.2.1 F ∧ wc P x.2.2.2.2 F ∧ (sy_i F 38).toInt ≤ x.2.1 + x.2.2.1
noncomputable def WN : List Nat := [33, 34, 36, 37, 38, 43, 44]
theorem x01' {x : Int32} {A : Type} {r : sE ⊕ A} {J : A → (Nat → sy_d) → Prop} {F' : Nat → sy_d} (h : ac r J x F') : (x.toInt = 0 → r = .inl ((sy_i F' 34).toInt, tg F')) ∧ (x.toInt ≠ 0 → ∃ a, r = .inr a ∧ J a F') := x01 h
noncomputable def k0pf_W : List Nat := [33, 34, 36, 37, 38, 43, 44, 18, 24, 25, 26]
section Sk0pf
variable {Ls : Nat} {xs : Nat → Int32} (X1 X2 : List jm_c) (F0 : Nat → sy_d) (r0 : sE ⊕ sT) (fr bu : Nat) (nm : List Int64)
end Sk0pf
noncomputable def k0pb_W : List Nat := [33, 34, 36, 37, 38, 43, 44, 19, 28, 29, 30]
section Sk0pb
variable {Ls : Nat} {xs : Nat → Int32} (X1 X2 : List jm_c) (F0 : Nat → sy_d) (r0 : sE ⊕ sT) (fr bu : Nat) (nm : List Int64)
end Sk0pb
noncomputable def k3pf_W : List Nat := [33, 34, 36, 37, 38, 43, 44, 3, 9, 10, 11]
section Sk3pf
variable {Ls : Nat} {xs : Nat → Int32} (X1 X2 : List jm_c) (F0 : Nat → sy_d) (r0 : sE ⊕ sT) (fr bu : Nat) (nm : List Int64)
end Sk3pf
noncomputable def k3pb_W : List Nat := [33, 34, 36, 37, 38, 43, 44, 4, 13, 14, 15]
section Sk3pb
variable {Ls : Nat} {xs : Nat → Int32} (X1 X2 : List jm_c) (F0 : Nat → sy_d) (r0 : sE ⊕ sT) (fr bu : Nat) (nm : List Int64)
end Sk3pb
