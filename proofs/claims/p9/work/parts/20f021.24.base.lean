/-! ===== the class's ground as numbers ===== -/
def ca : Nat → Nat
  | 0 => 9
  | 1 => 3
  | 2 => 4
  | 3 => 5
  | 4 => 6
  | 5 => 7
  | 6 => 8
  | 7 => 10
  | _ => 11
/-- the ground whose cells begin at o holds g -/
def gC (o nf nb : Nat) (F : Nat → sy_d) (g : gS) : Prop := (∀ a i, a ≤ 8 → vlS nf nb a i → (sy_ai F (o + ca a)).getD i 0 = g a i) ∧ ∀ i, i < 3 → sy_i F (o + i) = g 9 i
theorem ca_in : ∀ a : Nat, 3 ≤ ca a ∧ ca a < 12
  | 0 => by decide
  | 1 => by decide
  | 2 => by decide
  | 3 => by decide
  | 4 => by decide
  | 5 => by decide
  | 6 => by decide
  | 7 => by decide
  | n + 8 => (by decide : 3 ≤ 11 ∧ 11 < 12)
theorem ca_inj : ∀ a : Nat, a ≤ 8 → ∀ a' : Nat, a' ≤ 8 → ca a = ca a' → a = a' := by decide +kernel
theorem gC_eq {o nf nb : Nat} {F F1 : Nat → sy_d} {g : gS} (h : gC o nf nb F g) (e : ∀ j, o ≤ j → j < o + 12 → F1 j = F j) : gC o nf nb F1 g := by
  refine ⟨fun a i ha hv => ?_, fun i hi => ?_⟩
  · have := ca_in a
    rw [nz_fa (e (o + ca a) (by omega) (by omega))]
    exact h.1 a i ha hv
  · rw [eI (e (o + i) (by omega) (by omega))]
    exact h.2 i hi
theorem gC_up {o nf nb : Nat} {F F1 : Nat → sy_d} {g : gS} (h : gC o nf nb F g) {a i n : Nat} {v : Int32} (ha : a ≤ 8) (hn : n = i) (hA : sy_ai F1 (o + ca a) = jm_upd (sy_ai F (o + ca a)) n v) (e : ∀ j, o ≤ j → j < o + 12 → j ≠ o + ca a → F1 j = F j) : gC o nf nb F1 (upS g a i v) := by
  subst hn
  refine ⟨fun a' i' ha' hv => ?_, fun i' hi => ?_⟩
  · by_cases q : a' = a
    · subst q
      rw [hA, jm_upd_at]
      by_cases z : i' = n
      · rw [if_pos z, z, upS_s]
      · rw [if_neg z, upS_o (Or.inr z)]
        exact h.1 a' i' ha' hv
    · have := ca_in a'
      rw [upS_o (Or.inl q), nz_fa (e (o + ca a') (by omega) (by omega) (fun z => q (ca_inj a' ha' a ha (by omega))))]
      exact h.1 a' i' ha' hv
  · have := ca_in a
    rw [upS_o (Or.inl (by omega)), eI (e (o + i') (by omega) (by omega) (by omega))]
    exact h.2 i' hi
theorem gC_n {o nf nb : Nat} {F F1 : Nat → sy_d} {g : gS} (h : gC o nf nb F g) {i : Nat} {v : Int32} (hi3 : i < 3) (hA : sy_i F1 (o + i) = v) (e : ∀ j, o ≤ j → j < o + 12 → j ≠ o + i → F1 j = F j) : gC o nf nb F1 (upS g 9 i v) := by
  refine ⟨fun a' i' ha' hv => ?_, fun i' hi => ?_⟩
  · have := ca_in a'
    rw [upS_o (Or.inl (by omega)), nz_fa (e (o + ca a') (by omega) (by omega) (by omega))]
    exact h.1 a' i' ha' hv
  · by_cases z : i' = i
    · rw [z, hA, upS_s]
    · rw [upS_o (Or.inr z), eI (e (o + i') (by omega) (by omega) (by omega))]
      exact h.2 i' hi
/-- the class has the text T, its cells from b on -/
def xC (b : Nat) (T : tX) (F : Nat → sy_d) : Prop := iv_in F iv_B0 ∧ rXc b T F ∧ wT T ∧ (sy_i F (b + 5)).toInt ≤ 412
theorem rXc_e9 {b : Nat} {T : tX} {F F1 : Nat → sy_d} (h : rXc b T F) (e : ∀ j, b ≤ j → j < b + 15 → j ≠ b + 9 → F1 j = F j) : rXc b T F1 := by
  obtain ⟨h1, h2, h3, h4, h5, h6⟩ := h
  refine ⟨r3c_eq h1 (e _ (by omega) (by omega) (by omega)) (e _ (by omega) (by omega) (by omega)) (e _ (by omega) (by omega) (by omega)) (e _ (by omega) (by omega) (by omega)), r3c_eq h2 (e _ (by omega) (by omega) (by omega)) (e _ (by omega) (by omega) (by omega)) (e _ (by omega) (by omega) (by omega)) (e _ (by omega) (by omega) (by omega)), by rw [nz_fi (e (b + 2) (by omega) (by omega) (by omega))]; exact h3, by rw [nz_fi (e (b + 3) (by omega) (by omega) (by omega))]; exact h4, by rw [nz_fi (e (b + 4) (by omega) (by omega) (by omega))]; exact h5, fun k hk => rLc_eq (h6 k hk) (ix_c (e _ (by omega) (by omega) (by omega)) k) (Int.le_of_eq (nz_fi (e _ (by omega) (by omega) (by omega))).symm) (fun i _ => by rw [nz_fa (e (b + 14) (by omega) (by omega) (by omega))])⟩
theorem xC_q {b : Nat} {T : tX} {F F1 : Nat → sy_d} {W : List Nat} (hb : b + 15 ≤ 82) (h : xC b T F) (q : qC W F F1) (hW : ∀ a ∈ W, a < b ∨ b + 14 < a ∨ a = b + 9) : xC b T F1 := by
  have e : ∀ j, b ≤ j → j < b + 15 → j ≠ b + 9 → F1 j = F j := fun j h1 h2 h3 => q.2 j (by omega) (fun z => by have := hW j z; omega)
  exact ⟨q.1, rXc_e9 h.2.1 e, h.2.2.1, by rw [nz_fi (e (b + 5) (by omega) (by omega) (by omega))]; exact h.2.2.2⟩
theorem xX_f {b : Nat} {T : tX} {F : Nat → sy_d} (h : xC b T F) {f : Nat} (hf : f < nfS T) : (sy_ai F (b + 6)).getD f 0 = Int32.ofInt (tF T f).1 ∧ (sy_ai F (b + 7)).getD f 0 = Int32.ofInt (tF T f).2.1 ∧ (sy_ai F (b + 8)).getD f 0 = Int32.ofInt (tF T f).2.2 := by
  obtain ⟨h1, h2, h3⟩ := h.2.1.1.2 f (tF T f) (gD hf)
  exact ⟨(ofi h1).symm, (ofi h2).symm, (ofi h3).symm⟩
theorem xX_b {b : Nat} {T : tX} {F : Nat → sy_d} (h : xC b T F) {f : Nat} (hf : f < nbS T) : (sy_ai F (b + 10)).getD f 0 = Int32.ofInt (tB T f).1 ∧ ((sy_ai F (b + 11)).getD f 0).toInt = (tB T f).2.1 ∧ (sy_ai F (b + 12)).getD f 0 = Int32.ofInt (tB T f).2.2 := by
  obtain ⟨h1, h2, h3⟩ := h.2.1.2.1.2 f (tB T f) (gD hf)
  exact ⟨(ofi h1).symm, h2, (ofi h3).symm⟩
theorem bB_of {T : tX} (hT : wT T) {n : Nat} (hn : n < nbS T) : bB3 (tB T n) := hT.2.2.1 (tB T n) (by unfold tB; rw [List.getD_eq_getElem?_getD, List.getElem?_eq_getElem (show n < T.2.1.length from hn)]; exact List.getElem_mem _)
theorem bF_of {T : tX} (hT : wT T) {n : Nat} (hn : n < nfS T) : bF3 (tF T n) := hT.2.1 (tF T n) (by unfold tF; rw [List.getD_eq_getElem?_getD, List.getElem?_eq_getElem (show n < T.1.length from hn)]; exact List.getElem_mem _)
/-- the JDK's count of bits -/
def bcS (x : Int32) : Int32 := (((((((x - ((((x).toUInt32 >>> ((((1 : Int32))).toUInt32 &&& Int32.toUInt32 31)).toInt32) &&& ((1431655765 : Int32)))) &&& ((858993459 : Int32))) + (((((x - ((((x).toUInt32 >>> ((((1 : Int32))).toUInt32 &&& Int32.toUInt32 31)).toInt32) &&& ((1431655765 : Int32))))).toUInt32 >>> ((((2 : Int32))).toUInt32 &&& Int32.toUInt32 31)).toInt32) &&& ((858993459 : Int32)))) + ((((((x - ((((x).toUInt32 >>> ((((1 : Int32))).toUInt32 &&& Int32.toUInt32 31)).toInt32) &&& ((1431655765 : Int32)))) &&& ((858993459 : Int32))) + (((((x - ((((x).toUInt32 >>> ((((1 : Int32))).toUInt32 &&& Int32.toUInt32 31)).toInt32) &&& ((1431655765 : Int32))))).toUInt32 >>> ((((2 : Int32))).toUInt32 &&& Int32.toUInt32 31)).toInt32) &&& ((858993459 : Int32))))).toUInt32 >>> ((((4 : Int32))).toUInt32 &&& Int32.toUInt32 31)).toInt32)) &&& ((252645135 : Int32))) + ((((((((x - ((((x).toUInt32 >>> ((((1 : Int32))).toUInt32 &&& Int32.toUInt32 31)).toInt32) &&& ((1431655765 : Int32)))) &&& ((858993459 : Int32))) + (((((x - ((((x).toUInt32 >>> ((((1 : Int32))).toUInt32 &&& Int32.toUInt32 31)).toInt32) &&& ((1431655765 : Int32))))).toUInt32 >>> ((((2 : Int32))).toUInt32 &&& Int32.toUInt32 31)).toInt32) &&& ((858993459 : Int32)))) + ((((((x - ((((x).toUInt32 >>> ((((1 : Int32))).toUInt32 &&& Int32.toUInt32 31)).toInt32) &&& ((1431655765 : Int32)))) &&& ((858993459 : Int32))) + (((((x - ((((x).toUInt32 >>> ((((1 : Int32))).toUInt32 &&& Int32.toUInt32 31)).toInt32) &&& ((1431655765 : Int32))))).toUInt32 >>> ((((2 : Int32))).toUInt32 &&& Int32.toUInt32 31)).toInt32) &&& ((858993459 : Int32))))).toUInt32 >>> ((((4 : Int32))).toUInt32 &&& Int32.toUInt32 31)).toInt32)) &&& ((252645135 : Int32)))).toUInt32 >>> ((((8 : Int32))).toUInt32 &&& Int32.toUInt32 31)).toInt32)) + (((((((((x - ((((x).toUInt32 >>> ((((1 : Int32))).toUInt32 &&& Int32.toUInt32 31)).toInt32) &&& ((1431655765 : Int32)))) &&& ((858993459 : Int32))) + (((((x - ((((x).toUInt32 >>> ((((1 : Int32))).toUInt32 &&& Int32.toUInt32 31)).toInt32) &&& ((1431655765 : Int32))))).toUInt32 >>> ((((2 : Int32))).toUInt32 &&& Int32.toUInt32 31)).toInt32) &&& ((858993459 : Int32)))) + ((((((x - ((((x).toUInt32 >>> ((((1 : Int32))).toUInt32 &&& Int32.toUInt32 31)).toInt32) &&& ((1431655765 : Int32)))) &&& ((858993459 : Int32))) + (((((x - ((((x).toUInt32 >>> ((((1 : Int32))).toUInt32 &&& Int32.toUInt32 31)).toInt32) &&& ((1431655765 : Int32))))).toUInt32 >>> ((((2 : Int32))).toUInt32 &&& Int32.toUInt32 31)).toInt32) &&& ((858993459 : Int32))))).toUInt32 >>> ((((4 : Int32))).toUInt32 &&& Int32.toUInt32 31)).toInt32)) &&& ((252645135 : Int32))) + ((((((((x - ((((x).toUInt32 >>> ((((1 : Int32))).toUInt32 &&& Int32.toUInt32 31)).toInt32) &&& ((1431655765 : Int32)))) &&& ((858993459 : Int32))) + (((((x - ((((x).toUInt32 >>> ((((1 : Int32))).toUInt32 &&& Int32.toUInt32 31)).toInt32) &&& ((1431655765 : Int32))))).toUInt32 >>> ((((2 : Int32))).toUInt32 &&& Int32.toUInt32 31)).toInt32) &&& ((858993459 : Int32)))) + ((((((x - ((((x).toUInt32 >>> ((((1 : Int32))).toUInt32 &&& Int32.toUInt32 31)).toInt32) &&& ((1431655765 : Int32)))) &&& ((858993459 : Int32))) + (((((x - ((((x).toUInt32 >>> ((((1 : Int32))).toUInt32 &&& Int32.toUInt32 31)).toInt32) &&& ((1431655765 : Int32))))).toUInt32 >>> ((((2 : Int32))).toUInt32 &&& Int32.toUInt32 31)).toInt32) &&& ((858993459 : Int32))))).toUInt32 >>> ((((4 : Int32))).toUInt32 &&& Int32.toUInt32 31)).toInt32)) &&& ((252645135 : Int32)))).toUInt32 >>> ((((8 : Int32))).toUInt32 &&& Int32.toUInt32 31)).toInt32))).toUInt32 >>> ((((16 : Int32))).toUInt32 &&& Int32.toUInt32 31)).toInt32)) &&& ((63 : Int32))
theorem bc_pp : ∀ m : Fin 128, bcS (Int32.ofNat m.val) = ppS (Int32.ofNat m.val) := by decide +kernel
theorem bc_mk {T : tX} (hT : wT T) (g : gS) (w : Int) : bcS (mkS g w (nfS T)) = ppS (mkS g w (nfS T)) := by
  have l7 : nfS T ≤ 7 := hT.1.1
  obtain ⟨m, h1, h2⟩ := mkS_in g w (nfS T) l7
  have p7 : 2 ^ nfS T ≤ 2 ^ 7 := Nat.pow_le_pow_right (by decide) l7
  rw [h2]
  exact bc_pp ⟨m, by omega⟩
