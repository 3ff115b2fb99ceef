/-! ===== a ground saved ===== -/
theorem cpy_ix {f g : List Int32} {sp dp n j : Nat} : (jm_cpy f g sp dp n).getD j 0 = if dp ≤ j ∧ j < dp + n then f.getD (sp + (j - dp)) 0 else g.getD j 0 := by
  have e := congrFun (jm_cpy_eq f g sp dp n) j
  rw [← e]
  unfold va_cpy
  by_cases q : dp ≤ j ∧ j < dp + n
  · simp [q]
  · simp [q]
theorem rmB {x c : Int32} {a k : Int} (hx : x.toInt = a) (hc : c.toInt = k) (h0 : 0 ≤ a) (hk : 0 < k) : 0 ≤ (x - x / c * c).toInt ∧ (x - x / c * c).toInt ≤ k - 1 := by
  rw [iv_rem, hx, hc]
  have := Int.tmod_lt_of_pos a hk
  exact ⟨Int.tmod_nonneg _ h0, by omega⟩
section U7
variable {l : List Int32} {n j : Nat} {a0 a1 a2 a3 a4 a5 a6 : Int32}
theorem up7_o (h : j < n ∨ n + 7 ≤ j) : (jm_upd (jm_upd (jm_upd (jm_upd (jm_upd (jm_upd (jm_upd l n a0) (n + 1) a1) (n + 2) a2) (n + 3) a3) (n + 4) a4) (n + 5) a5) (n + 6) a6).getD j 0 = l.getD j 0 := by
  rw [jm_upd_at, if_neg (by omega), jm_upd_at, if_neg (by omega), jm_upd_at, if_neg (by omega), jm_upd_at, if_neg (by omega), jm_upd_at, if_neg (by omega), jm_upd_at, if_neg (by omega), jm_upd_at, if_neg (by omega)]
theorem up7_i (w : Nat → Int32) {q : Nat} (h : q < 7) : (jm_upd (jm_upd (jm_upd (jm_upd (jm_upd (jm_upd (jm_upd l n (w 0)) (n + 1) (w 1)) (n + 2) (w 2)) (n + 3) (w 3)) (n + 4) (w 4)) (n + 5) (w 5)) (n + 6) (w 6)).getD (n + q) 0 = w q := by
  rw [jm_upd_at]
  by_cases z : q = 6
  · rw [if_pos (by omega), z]
  rw [if_neg (by omega), jm_upd_at]
  by_cases z : q = 5
  · rw [if_pos (by omega), z]
  rw [if_neg (by omega), jm_upd_at]
  by_cases z : q = 4
  · rw [if_pos (by omega), z]
  rw [if_neg (by omega), jm_upd_at]
  by_cases z : q = 3
  · rw [if_pos (by omega), z]
  rw [if_neg (by omega), jm_upd_at]
  by_cases z : q = 2
  · rw [if_pos (by omega), z]
  rw [if_neg (by omega), jm_upd_at]
  by_cases z : q = 1
  · rw [if_pos (by omega), z]
  rw [if_neg (by omega), jm_upd_at, if_pos (by omega), show q = 0 by omega]
end U7
/-- from p on the list holds the ground whose cells begin at o -/
def svR (l : List Int32) (p : Nat) (F : Nat → sy_d) (o : Nat) : Prop := (∀ q i, q < 7 → i < 7 → l.getD (p + 3 + 7 * i + q) 0 = (sy_ai F (o + 3 + q)).getD i 0) ∧ (∀ i, i < 4 → l.getD (p + 52 + i) 0 = (sy_ai F (o + 10)).getD i 0 ∧ l.getD (p + 56 + i) 0 = (sy_ai F (o + 11)).getD i 0) ∧ ∀ i, i < 3 → l.getD (p + i) 0 = sy_i F (o + i)
/-- from p on the list holds g -/
def svC (nf nb : Nat) (l : List Int32) (p : Nat) (g : gS) : Prop := (∀ a i, a < 7 → i < nf → l.getD (p + 7 * i + ca a) 0 = g a i) ∧ (∀ i, i < nb → l.getD (p + 52 + i) 0 = g 7 i ∧ l.getD (p + 56 + i) 0 = g 8 i) ∧ ∀ i, i < 3 → l.getD (p + i) 0 = g 9 i
theorem ca_7 : ∀ a : Nat, a < 7 → 3 ≤ ca a ∧ ca a < 10 := by decide +kernel
theorem svC_of {nf nb o p : Nat} {l : List Int32} {F : Nat → sy_d} {g : gS} (hf : nf ≤ 7) (hb : nb ≤ 4) (h : svR l p F o) (hg : gC o nf nb F g) : svC nf nb l p g := by
  refine ⟨fun a i ha hi => ?_, fun i hi => ⟨?_, ?_⟩, fun i hi => ?_⟩
  · have c := ca_7 a ha
    rw [show p + 7 * i + ca a = p + 3 + 7 * i + (ca a - 3) by omega, h.1 _ i (by omega) (by omega), show o + 3 + (ca a - 3) = o + ca a by omega]
    exact hg.1 a i (by omega) (Or.inl ⟨ha, hi⟩)
  · rw [(h.2.1 i (by omega)).1]
    exact hg.1 7 i (by omega) (Or.inr (Or.inl ⟨Or.inl rfl, hi⟩))
  · rw [(h.2.1 i (by omega)).2]
    exact hg.1 8 i (by omega) (Or.inr (Or.inl ⟨Or.inr rfl, hi⟩))
  · rw [h.2.2 i hi]
    exact hg.2 i hi
theorem gC_of {nf nb o p : Nat} {l : List Int32} {F : Nat → sy_d} {g : gS} (hf : nf ≤ 7) (hb : nb ≤ 4) (h : svR l p F o) (hs : svC nf nb l p g) : gC o nf nb F g := by
  refine ⟨fun a i ha hv => ?_, fun i hi => ?_⟩
  · by_cases z : a < 7
    · have hi : i < nf := by rcases hv with h | h | h <;> omega
      have c := ca_7 a z
      rw [show o + ca a = o + 3 + (ca a - 3) by omega, ← h.1 (ca a - 3) i (by omega) (by omega), show p + 3 + 7 * i + (ca a - 3) = p + 7 * i + ca a by omega]
      exact hs.1 a i z hi
    · have hi : i < nb := by rcases hv with h | h | h <;> omega
      by_cases z7 : a = 7
      · subst z7
        rw [show o + ca 7 = o + 10 from rfl, ← (h.2.1 i (by omega)).1]
        exact (hs.2.1 i hi).1
      · have z8 : a = 8 := by omega
        subst z8
        rw [show o + ca 8 = o + 11 from rfl, ← (h.2.1 i (by omega)).2]
        exact (hs.2.1 i hi).2
  · rw [← h.2.2 i hi]
    exact hs.2.2 i hi
theorem svC_eq {nf nb p : Nat} {l l' : List Int32} {g : gS} (hf : nf ≤ 7) (hb : nb ≤ 4) (h : svC nf nb l p g) (e : ∀ j, p ≤ j → j < p + 60 → l'.getD j 0 = l.getD j 0) : svC nf nb l' p g := by
  refine ⟨fun a i ha hi => ?_, fun i hi => ⟨?_, ?_⟩, fun i hi => ?_⟩
  · have c := ca_7 a ha
    rw [e _ (by omega) (by omega)]
    exact h.1 a i ha hi
  · rw [e _ (by omega) (by omega)]
    exact (h.2.1 i hi).1
  · rw [e _ (by omega) (by omega)]
    exact (h.2.1 i hi).2
  · rw [e _ (by omega) (by omega)]
    exact h.2.2 i hi
