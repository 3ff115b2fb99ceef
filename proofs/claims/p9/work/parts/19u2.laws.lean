/-! ===== terms and laws are read ===== -/
theorem rp_go_eq {code cint code' cint' : List Int32} : ∀ (n c d : Nat), (∀ i, c ≤ i → i < c + n → code'.getD i 0 = code.getD i 0 ∧ cint'.getD i 0 = cint.getD i 0) → rp_go code cint n c d → rp_go code' cint' n c d
  | 0, _, _, _, _ => trivial
  | n + 1, c, d, e, h => by
    obtain ⟨e1, e2⟩ := e c (Nat.le_refl _) (by omega)
    unfold rp_go at h ⊢
    rw [e1, e2]
    exact ⟨fun q => ⟨(h.1 q).1, rp_go_eq n (c + 1) (d + 1) (fun i h1 h2 => e i (by omega) (by omega)) (h.1 q).2⟩, fun q => ⟨(h.2 q).1, rp_go_eq n (c + 1) (d - 1) (fun i h1 h2 => e i (by omega) (by omega)) (h.2 q).2⟩⟩
noncomputable def rs (sd : Nat) (nc : Int) (code cint : List Int32) (x y : Int) : Prop := (420 * sd : Int) ≤ x ∧ y ≤ nc ∧ y ≤ x + 400 ∧ rp_go code cint (y - x).toNat x.toNat 0
theorem rs_keep {sd : Nat} {nc nc' : Int} {code cint code' cint' : List Int32} {x y : Int} (h : rs sd nc code cint x y) (e : ∀ i : Nat, (420 * sd : Int) ≤ i → (i : Int) < nc → code'.getD i 0 = code.getD i 0 ∧ cint'.getD i 0 = cint.getD i 0) (l : nc ≤ nc') : rs sd nc' code' cint' x y := by
  obtain ⟨h1, h2, h3, h4⟩ := h
  refine ⟨h1, by omega, h3, rp_go_eq _ _ _ (fun i a b => e i (by omega) (by omega)) h4⟩
theorem rp_sg_rs {sd : Nat} {nc : Int} {code cint : List Int32} {x y : Int32} : rp_sg sd nc code cint x y ↔ rs sd nc code cint x.toInt y.toInt := Iff.rfl
/-- the five rows of a branch are the same -/
noncomputable def s5 (F F' : Nat → sy_d) (b : Nat) : Prop := (sy_ai F' 44).getD b 0 = (sy_ai F 44).getD b 0 ∧ (sy_ai F' 45).getD b 0 = (sy_ai F 45).getD b 0 ∧ (sy_ai F' 46).getD b 0 = (sy_ai F 46).getD b 0 ∧ (sy_ai F' 47).getD b 0 = (sy_ai F 47).getD b 0 ∧ (sy_ai F' 48).getD b 0 = (sy_ai F 48).getD b 0
theorem s5_trans {F F1 F2 : Nat → sy_d} {b : Nat} (h : s5 F F1 b) (h2 : s5 F1 F2 b) : s5 F F2 b := ⟨h2.1.trans h.1, h2.2.1.trans h.2.1, h2.2.2.1.trans h.2.2.1, h2.2.2.2.1.trans h.2.2.2.1, h2.2.2.2.2.trans h.2.2.2.2⟩
theorem s5_same {F F1 : Nat → sy_d} (a44 : sy_ai F1 44 = sy_ai F 44) (a45 : sy_ai F1 45 = sy_ai F 45) (a46 : sy_ai F1 46 = sy_ai F 46) (a47 : sy_ai F1 47 = sy_ai F 47) (a48 : sy_ai F1 48 = sy_ai F 48) (b : Nat) : s5 F F1 b := by
  unfold s5
  rw [a44, a45, a46, a47, a48]
  exact ⟨rfl, rfl, rfl, rfl, rfl⟩
theorem rp_br_keep {F F' : Nat → sy_d} {sd b : Nat} {nc nc' : Int} (h : rp_br F sd nc b) (e5 : s5 F F' b) (e : ∀ i : Nat, (420 * sd : Int) ≤ i → (i : Int) < nc → (sy_ai F' 49).getD i 0 = (sy_ai F 49).getD i 0 ∧ (sy_ai F' 50).getD i 0 = (sy_ai F 50).getD i 0) (l : nc ≤ nc') : rp_br F' sd nc' b := by
  obtain ⟨e44, e45, e46, e47, e48⟩ := e5
  unfold rp_br
  rw [e44, e45, e46, e47, e48]
  exact ⟨fun q => ⟨rs_keep (h.1 q).1 e l, rs_keep (h.1 q).2 e l⟩, rs_keep h.2 e l⟩
theorem rp_S_keep {F F' : Nat → sy_d} {sd : Nat} {nb nc nb' nc' : Int} (h : rp_S F sd nb nc) (el : ∀ k, k < 6 → (sy_ai F' 42).getD (6 * sd + k) 0 = (sy_ai F 42).getD (6 * sd + k) 0 ∧ (sy_ai F' 43).getD (6 * sd + k) 0 = (sy_ai F 43).getD (6 * sd + k) 0) (e5 : ∀ b : Nat, (130 * sd : Int) ≤ b → (b : Int) < nb → s5 F F' b) (e : ∀ i : Nat, (420 * sd : Int) ≤ i → (i : Int) < nc → (sy_ai F' 49).getD i 0 = (sy_ai F 49).getD i 0 ∧ (sy_ai F' 50).getD i 0 = (sy_ai F 50).getD i 0) (l1 : nb ≤ nb') (l2 : nc ≤ nc') : rp_S F' sd nb' nc' := by
  intro k b hk h1 h2
  rw [(el k hk).1] at h1
  rw [(el k hk).2] at h2
  obtain ⟨a, c⟩ := h k b hk h1 h2
  exact ⟨⟨a.1, by omega⟩, rp_br_keep c (e5 b a.1 a.2) e l2⟩
/-- the branches that lay there before, and those behind, stay -/
noncomputable def kb (F F' : Nat → sy_d) : Prop := ∀ b : Nat, ((b : Int) < (sy_i F 14).toInt ∨ (sy_i F' 14).toInt < b) → s5 F F' b
theorem kb_step {F0 F F1 : Nat → sy_d} (h : kb F0 F) (hs : ∀ b : Nat, (b : Int) ≠ (sy_i F 14).toInt → s5 F F1 b) (l0 : (sy_i F0 14).toInt ≤ (sy_i F 14).toInt) (l : (sy_i F 14).toInt ≤ (sy_i F1 14).toInt) : kb F0 F1 := fun b q => s5_trans (h b (by omega)) (hs b (by omega))
noncomputable def WT : List Nat := [4, 5, 6, 7, 14, 15, 16, 47, 48, 49, 50, 51]
noncomputable def tr_R (F F' : Nat → sy_d) : Prop := gr WT F F' ∧ kp F F' ∧ (∀ b : Nat, (b : Int) ≠ (sy_i F 14).toInt → s5 F F' b) ∧ (sy_i F' 14).toInt = (sy_i F 14).toInt + 1 ∧ (sy_i F 15).toInt ≤ (sy_i F' 15).toInt ∧ (sy_i F' 15).toInt ≤ 420 * (sy_i F 12).toInt + (sy_i F' 4).toInt + 1 ∧
  ((sy_i F' 6).toInt = 0 → (sy_i F 4).toInt + 1 ≤ (sy_i F' 4).toInt ∧ (sy_i F' 5).toInt = 0 ∧ (sy_i F' 15).toInt ≤ 420 * (sy_i F 12).toInt + (sy_i F' 4).toInt ∧ ((sy_ai F' 47).getD (sy_i F 14).toInt.toNat 0).toInt = (sy_i F 15).toInt ∧ ((sy_ai F' 48).getD (sy_i F 14).toInt.toNat 0).toInt = (sy_i F' 15).toInt ∧ rp_go (sy_ai F' 49) (sy_ai F' 50) ((sy_i F' 15).toInt - (sy_i F 15).toInt).toNat (sy_i F 15).toInt.toNat 0)
theorem tr_Rdst {F F' F2 : Nat → sy_d} (h : tr_R F F') (e : ∀ q, q < 69 → F2 q = F' q) : tr_R F F2 := by
  obtain ⟨h1, h2, h3, h4, h5, h6, h7⟩ := h
  have i4 := nz_fi (e 4 (by decide))
  have i5 := nz_fi (e 5 (by decide))
  have i6 := nz_fi (e 6 (by decide))
  have i14 := nz_fi (e 14 (by decide))
  have i15 := nz_fi (e 15 (by decide))
  have a49 := nz_fa (e 49 (by decide))
  have a50 := nz_fa (e 50 (by decide))
  have a47 := nz_fa (e 47 (by decide))
  have a48 := nz_fa (e 48 (by decide))
  refine ⟨h1.dst e, ?_, fun b hb => s5_trans (h3 b hb) (s5_same (nz_fa (e 44 (by decide))) (nz_fa (e 45 (by decide))) (nz_fa (e 46 (by decide))) a47 a48 b), by rw [i14]; exact h4, by rw [i15]; exact h5, by rw [i15, i4]; exact h6, by rw [i4, i5, i6, i15, a47, a48, a49, a50]; exact h7⟩
  unfold kp
  rw [i15, a49, a50]
  exact h2
section TR
variable {Ls : Nat} {xs : Nat → Int32} (X1 X2 : List jm_c) (F : Nat → sy_d)
end TR
