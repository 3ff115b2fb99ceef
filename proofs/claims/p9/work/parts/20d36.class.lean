/-! ===== the class parses a text ===== -/
theorem plr_eq {K : Nat → Int} (x : sT) : sLaw K x = sB (plr K x.1) (fun t => .inr (t, x.2)) := by
  unfold sLaw plr
  rw [sB_a]
noncomputable def rrI (K V : Nat → Int) (N : Nat → Int64) (P : Nat → Int) (FR BU : Nat) (rr : sE ⊕ sT) (good n : Int) (F : Nat → sy_d) : Prop := (good ≠ 0 → ∃ x, rcl P FR BU x F ∧ rr = sRun K V N (401 - n).toNat x) ∧ (good = 0 → rr = .inl ((sy_i F 34).toInt, tg F))
theorem rcl_eq {P : Nat → Int} {FR BU : Nat} {x : sT} {F F1 : Nat → sy_d} (h : rcl P FR BU x F) (e33 : (sy_i F1 33).toInt = (sy_i F 33).toInt) (e36 : (sy_i F1 36).toInt = (sy_i F 36).toInt) (e37 : (sy_i F1 37).toInt = (sy_i F 37).toInt) (e38 : (sy_i F1 38).toInt = (sy_i F 38).toInt) (eF : (sy_i F1 FR).toInt = (sy_i F FR).toInt) (eB : (sy_i F1 BU).toInt = (sy_i F BU).toInt) (e43 : F1 43 = F 43) : rcl P FR BU x F1 := by
  obtain ⟨a, b, c, d, e, f⟩ := h
  exact ⟨by rw [tg_eq e33]; exact a, by rw [eF]; exact b, by rw [eB]; exact c, ncr_eq d e43 e38, wc_eq e e36 e37, by rw [e38]; exact f⟩
theorem ac_sub {A : Type} {r : sE ⊕ A} {J J' : A → (Nat → sy_d) → Prop} {x : Int32} {F' F2 : Nat → sy_d} (h : ac r J x F') (e : ∀ q, q < 82 → F2 q = F' q) (hJ : ∀ a, J a F' → J' a F2) : ac r J' x F2 := ac_dst h (nz_fi (e 34 (by decide))) (nz_fi (e 33 (by decide))) hJ
noncomputable def k0_WP : List Nat := [18, 19, 20, 21, 22, 23, 24, 25, 26, 27, 28, 29, 30, 31, 32, 33, 34, 36, 37, 38, 43, 44]
section Pk0
variable {Ls : Nat} {xs : Nat → Int32} (X1 X2 : List jm_c) (F0 : Nat → sy_d) (rr : sE ⊕ sT)
end Pk0
noncomputable def k3_WP : List Nat := [3, 4, 5, 6, 7, 8, 9, 10, 11, 12, 13, 14, 15, 16, 17, 33, 34, 36, 37, 38, 43, 44]
section Pk3
variable {Ls : Nat} {xs : Nat → Int32} (X1 X2 : List jm_c) (F0 : Nat → sy_d) (rr : sE ⊕ sT)
end Pk3
