/-! ===== the reference reads: what it answers ===== -/
noncomputable def sEnd (P : Nat → Int) (r : sE ⊕ sT) : Int × Int := match r with
  | .inl e => (e.1, P e.2)
  | .inr x => if x.2.2.2.2.1 = 0 then (0, -1) else (x.2.2.2.2.1, P x.2.2.2.2.2)
noncomputable def ry_Q (X1 X2 : List jm_c) (a : Int × Int) (T21 T67 T29 : sy_d) (v : Option Value) (G : jm_h) : Prop := ∃ (x : Int32) (F' : Nat → sy_d), v = some (.int x) ∧ G = sy_dh F' X1 X2 (iv_H 4) ∧ iv_in F' iv_B4 ∧ jm_rpn F' ∧ (sy_i F' 1).toInt = 0 ∧ x.toInt = a.1 ∧ (sy_i F' 10).toInt = a.2 ∧ (a.1 = 0 → (sy_i F' 21).toInt = 0 ∧ ∀ j, j < 3 → (sy_ai F' 67).getD j 0 = 0) ∧ (a.1 ≠ 0 → F' 21 = T21 ∧ F' 67 = T67) ∧ F' 29 = T29
section RY
variable {Ls : Nat} {xs : Nat → Int32} (X1 X2 : List jm_c) (T21 T67 T29 : sy_d)
/-- at the loop's head -/
noncomputable def rI (K V : Nat → Int) (N : Nat → Int64) (P : Nat → Int) (L : Nat) (rr : sE ⊕ sT) (F : Nat → sy_d) : Prop := (kf F = K ∧ vf F = V ∧ nf F = N ∧ pf F = P) ∧ pm P K L ∧ ((sy_i F 6).toInt = 0 → ∃ (n : Nat) (x : sT), 401 ≤ n + tn F ∧ rt P L x F ∧ rr = sRun K V N n x) ∧ ((sy_i F 6).toInt ≠ 0 → ∃ tok, rr = .inl ((sy_i F 6).toInt, tok) ∧ (sy_i F 7).toInt = P tok)
end RY
