/-! ===== what was before ===== -/
theorem rm40 {x : Int32} {n : Nat} (h : x.toInt = n) : (x - x / 40 * 40).toInt = ((n % 40 : Nat) : Int) := by
  rw [iv_rem, h, (by decide : (40 : Int32).toInt = ((40 : Nat) : Int))]
  exact (Int.ofNat_tmod n 40).symm
theorem rm60 {x : Int32} {n : Nat} (h : x.toInt = n) : ((x - x / 40 * 40) * 60).toInt = ((n % 40 * 60 : Nat) : Int) := by
  rw [nz_mul (rm40 h) (by decide : (60 : Int32).toInt = 60) (by omega) (by omega)]
  omega
/-- the grounds before, the newest first -/
def trK (nf nb : Nat) (l : List Int32) (o : Nat) : List gS → Prop
  | [] => True
  | g :: U => svC nf nb l ((o + U.length) % 40 * 60) g ∧ trK nf nb l o U
def trC (nf nb : Nat) (F : Nat → sy_d) (U : List gS) : Prop := ∃ o : Nat, o < 40 ∧ U.length ≤ 40 ∧ (sy_i F 74).toInt = o ∧ (sy_i F 75).toInt = U.length ∧ trK nf nb (sy_ai F 76) o U
/-- one more is kept; of forty the oldest goes -/
def rmS (g : gS) (U : List gS) : List gS := g :: (if U.length = 40 then U.dropLast else U)
theorem trK_eq {nf nb o : Nat} {l l' : List Int32} (hf : nf ≤ 7) (hb : nb ≤ 4) : ∀ U : List gS, (∀ k, k < U.length → ∀ j, (o + k) % 40 * 60 ≤ j → j < (o + k) % 40 * 60 + 60 → l'.getD j 0 = l.getD j 0) → trK nf nb l o U → trK nf nb l' o U
  | [], _, _ => trivial
  | g :: U, e, h => ⟨svC_eq hf hb h.1 (e U.length (by simp)), trK_eq hf hb U (fun k hk => e k (by simp; omega)) h.2⟩
theorem trK_dr {nf nb o : Nat} {l : List Int32} : ∀ U : List gS, trK nf nb l o U → trK nf nb l ((o + 1) % 40) U.dropLast
  | [], _ => trivial
  | [g], _ => trivial
  | g :: g' :: U, h => by
    refine ⟨?_, trK_dr (g' :: U) h.2⟩
    have e : (((o + 1) % 40 + (g' :: U).dropLast.length) % 40) = (o + (g' :: U).length) % 40 := by
      rw [List.length_dropLast]
      simp only [List.length_cons]
      omega
    show svC nf nb l (((o + 1) % 40 + (g' :: U).dropLast.length) % 40 * 60) g
    rw [e]
    exact h.1
theorem trC_eq {nf nb : Nat} {F F1 : Nat → sy_d} {U : List gS} (h : trC nf nb F U) (e4 : F1 74 = F 74) (e5 : F1 75 = F 75) (e6 : F1 76 = F 76) : trC nf nb F1 U := by
  obtain ⟨o, h1, h2, h3, h4, h5⟩ := h
  exact ⟨o, h1, h2, by rw [nz_fi e4]; exact h3, by rw [nz_fi e5]; exact h4, by rw [nz_fa e6]; exact h5⟩
