/-! ===== the class parses expressions ===== -/
noncomputable def pR (W : List Nat) (E : Int → Prop) (d : Nat) (x : Int32) (F F' : Nat → sy_d) : Prop := gc W F F' ∧ tg F ≤ tg F' ∧ ((x = 0 ∧ eX (kg F) (tg F) d 0 = .inl ((sy_i F' 34).toInt, tg F')) ∨ (x = 1 ∧ eX (kg F) (tg F) d 0 = eX (kg F) (tg F') d 1 ∧ tg F < tg F' ∧ ¬ E (kg F (tg F'))))
theorem pR_src {W : List Nat} {E : Int → Prop} {d : Nat} {x : Int32} {F F0 F' : Nat → sy_d} (h : pR W E d x F0 F') (e : ∀ q, q < 82 → F0 q = F q) : pR W E d x F F' := by
  obtain ⟨h1, h2⟩ := h
  rw [kg_eq (e 39 (by decide)), tg_eq (nz_fi (e 33 (by decide)))] at h2
  exact ⟨h1.src e, h2.1, h2.2⟩
theorem pR_dst {W : List Nat} {E : Int → Prop} {d : Nat} {x : Int32} {F F' F2 : Nat → sy_d} (h : pR W E d x F F') (e : ∀ q, q < 82 → F2 q = F' q) : pR W E d x F F2 := by
  have i33 := nz_fi (e 33 (by decide))
  refine ⟨h.1.dst e, ?_⟩
  rw [nz_fi (e 34 (by decide)), tg_eq i33]
  exact h.2
def E0 : Int → Prop := fun _ => False
def E1 : Int → Prop := fun k => k = 10 ∨ k = 15
def E2 : Int → Prop := fun k => k = 8 ∨ k = 9 ∨ k = 10 ∨ k = 15
theorem jx_i32 {F : Nat → sy_d} (hJ : jx_ok F) {j : Nat} (h : ((sy_ai F 39).getD j 0).toInt = 24) : 0 ≤ (((sy_al F 41).getD j 0).toInt32).toInt ∧ (((sy_al F 41).getD j 0).toInt32).toInt ≤ 9999 := by
  obtain ⟨a, b⟩ := hJ j (Int32.toInt_inj.mp (by rw [h]; decide))
  rw [Int64.toInt_toInt32]
  have : ((sy_al F 41).getD j 0).toInt.bmod (2 ^ 32) = ((sy_al F 41).getD j 0).toInt := Int.bmod_eq_of_le (by omega) (by omega)
  rw [this]
  exact ⟨a, b⟩
noncomputable def k0_W : List Nat := [33, 34, 23, 32]
section P0
variable {Ls : Nat} {xs : Nat → Int32} (X1 X2 : List jm_c)
noncomputable def k0uT (Ls : Nat) (xs : Nat → Int32) (X1 X2 : List jm_c) (m : Nat) : Prop := ∀ (F : Nat → sy_d) (a b : Int32), iv_in F iv_B0 → jx_ok F → 0 ≤ a.toInt → a.toInt ≤ 5 → b.toInt = 6 - m → jm_T Ls xs (4 + 3 * m) jm_M40 [.ref 30, .int a, .int b] (sy_dh F X1 X2 (iv_H 0)) 0 0 (fun v G => ∃ (x : Int32) (F' : Nat → sy_d), v = some (.int x) ∧ G = sy_dh F' X1 X2 (iv_H 0) ∧ pR k0_W E0 b.toInt.toNat x F F')
noncomputable def k0pT (Ls : Nat) (xs : Nat → Int32) (X1 X2 : List jm_c) (m : Nat) : Prop := ∀ (F : Nat → sy_d) (a b : Int32), iv_in F iv_B0 → jx_ok F → 0 ≤ a.toInt → a.toInt ≤ 5 → b.toInt = 6 - m → jm_T Ls xs (5 + 3 * m) jm_M39 [.ref 30, .int a, .int b] (sy_dh F X1 X2 (iv_H 0)) 0 0 (fun v G => ∃ (x : Int32) (F' : Nat → sy_d), v = some (.int x) ∧ G = sy_dh F' X1 X2 (iv_H 0) ∧ pR k0_W E1 b.toInt.toNat x F F')
noncomputable def k0sT (Ls : Nat) (xs : Nat → Int32) (X1 X2 : List jm_c) (m : Nat) : Prop := ∀ (F : Nat → sy_d) (a b : Int32), iv_in F iv_B0 → jx_ok F → 0 ≤ a.toInt → a.toInt ≤ 5 → b.toInt = 6 - m → jm_T Ls xs (6 + 3 * m) jm_M38 [.ref 30, .int a, .int b] (sy_dh F X1 X2 (iv_H 0)) 0 0 (fun v G => ∃ (x : Int32) (F' : Nat → sy_d), v = some (.int x) ∧ G = sy_dh F' X1 X2 (iv_H 0) ∧ pR k0_W E2 b.toInt.toNat x F F')
/-- at the loop's head -/
noncomputable def k0ppI (F0 F : Nat → sy_d) (d : Nat) : Prop := gc k0_W F0 F ∧ (sy_i F 82).toInt = (sy_i F0 82).toInt ∧ (sy_i F 83).toInt = (sy_i F0 83).toInt ∧ (sy_i F 85).toInt = ((sy_ai F 39).getD (sy_i F 33).toInt.toNat 0).toInt ∧ 0 ≤ (sy_i F 86).toInt ∧ ((sy_i F 84 = 0 ∧ (sy_i F 86).toInt + tg F0 ≤ tg F ∧ eX (kg F0) (tg F0) d 0 = .inl ((sy_i F 34).toInt, tg F)) ∨ (sy_i F 84 = 1 ∧ (sy_i F 86).toInt + 1 + tg F0 ≤ tg F ∧ eX (kg F0) (tg F0) d 0 = eX (kg F0) (tg F) d 1 ∧ ¬ E0 (kg F0 (tg F))))
/-- at the loop's head -/
noncomputable def k0psI (F0 F : Nat → sy_d) (d : Nat) : Prop := gc k0_W F0 F ∧ (sy_i F 82).toInt = (sy_i F0 82).toInt ∧ (sy_i F 83).toInt = (sy_i F0 83).toInt ∧ (sy_i F 85).toInt = ((sy_ai F 39).getD (sy_i F 33).toInt.toNat 0).toInt ∧ 0 ≤ (sy_i F 86).toInt ∧ ((sy_i F 84 = 0 ∧ (sy_i F 86).toInt + tg F0 ≤ tg F ∧ eX (kg F0) (tg F0) d 0 = .inl ((sy_i F 34).toInt, tg F)) ∨ (sy_i F 84 = 1 ∧ (sy_i F 86).toInt + 1 + tg F0 ≤ tg F ∧ eX (kg F0) (tg F0) d 0 = eX (kg F0) (tg F) d 1 ∧ ¬ E1 (kg F0 (tg F))))
end P0
noncomputable def k3_W : List Nat := [33, 34, 8, 17]
section P3
variable {Ls : Nat} {xs : Nat → Int32} (X1 X2 : List jm_c)
noncomputable def k3uT (Ls : Nat) (xs : Nat → Int32) (X1 X2 : List jm_c) (m : Nat) : Prop := ∀ (F : Nat → sy_d) (a b : Int32), iv_in F iv_B0 → jx_ok F → 0 ≤ a.toInt → a.toInt ≤ 5 → b.toInt = 6 - m → jm_T Ls xs (4 + 3 * m) jm_M40 [.ref 30, .int a, .int b] (sy_dh F X1 X2 (iv_H 3)) 0 0 (fun v G => ∃ (x : Int32) (F' : Nat → sy_d), v = some (.int x) ∧ G = sy_dh F' X1 X2 (iv_H 3) ∧ pR k3_W E0 b.toInt.toNat x F F')
noncomputable def k3pT (Ls : Nat) (xs : Nat → Int32) (X1 X2 : List jm_c) (m : Nat) : Prop := ∀ (F : Nat → sy_d) (a b : Int32), iv_in F iv_B0 → jx_ok F → 0 ≤ a.toInt → a.toInt ≤ 5 → b.toInt = 6 - m → jm_T Ls xs (5 + 3 * m) jm_M39 [.ref 30, .int a, .int b] (sy_dh F X1 X2 (iv_H 3)) 0 0 (fun v G => ∃ (x : Int32) (F' : Nat → sy_d), v = some (.int x) ∧ G = sy_dh F' X1 X2 (iv_H 3) ∧ pR k3_W E1 b.toInt.toNat x F F')
noncomputable def k3sT (Ls : Nat) (xs : Nat → Int32) (X1 X2 : List jm_c) (m : Nat) : Prop := ∀ (F : Nat → sy_d) (a b : Int32), iv_in F iv_B0 → jx_ok F → 0 ≤ a.toInt → a.toInt ≤ 5 → b.toInt = 6 - m → jm_T Ls xs (6 + 3 * m) jm_M38 [.ref 30, .int a, .int b] (sy_dh F X1 X2 (iv_H 3)) 0 0 (fun v G => ∃ (x : Int32) (F' : Nat → sy_d), v = some (.int x) ∧ G = sy_dh F' X1 X2 (iv_H 3) ∧ pR k3_W E2 b.toInt.toNat x F F')
/-- at the loop's head -/
noncomputable def k3ppI (F0 F : Nat → sy_d) (d : Nat) : Prop := gc k3_W F0 F ∧ (sy_i F 82).toInt = (sy_i F0 82).toInt ∧ (sy_i F 83).toInt = (sy_i F0 83).toInt ∧ (sy_i F 85).toInt = ((sy_ai F 39).getD (sy_i F 33).toInt.toNat 0).toInt ∧ 0 ≤ (sy_i F 86).toInt ∧ ((sy_i F 84 = 0 ∧ (sy_i F 86).toInt + tg F0 ≤ tg F ∧ eX (kg F0) (tg F0) d 0 = .inl ((sy_i F 34).toInt, tg F)) ∨ (sy_i F 84 = 1 ∧ (sy_i F 86).toInt + 1 + tg F0 ≤ tg F ∧ eX (kg F0) (tg F0) d 0 = eX (kg F0) (tg F) d 1 ∧ ¬ E0 (kg F0 (tg F))))
/-- at the loop's head -/
noncomputable def k3psI (F0 F : Nat → sy_d) (d : Nat) : Prop := gc k3_W F0 F ∧ (sy_i F 82).toInt = (sy_i F0 82).toInt ∧ (sy_i F 83).toInt = (sy_i F0 83).toInt ∧ (sy_i F 85).toInt = ((sy_ai F 39).getD (sy_i F 33).toInt.toNat 0).toInt ∧ 0 ≤ (sy_i F 86).toInt ∧ ((sy_i F 84 = 0 ∧ (sy_i F 86).toInt + tg F0 ≤ tg F ∧ eX (kg F0) (tg F0) d 0 = .inl ((sy_i F 34).toInt, tg F)) ∨ (sy_i F 84 = 1 ∧ (sy_i F 86).toInt + 1 + tg F0 ≤ tg F ∧ eX (kg F0) (tg F0) d 0 = eX (kg F0) (tg F) d 1 ∧ ¬ E1 (kg F0 (tg F))))
end P3
