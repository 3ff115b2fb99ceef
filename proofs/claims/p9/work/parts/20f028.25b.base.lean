/-! ===== a text begins ===== -/
def begS (T : tX) : gS := fun a i => if a = 0 then Int32.ofInt (tF T i).1 else if a = 1 then Int32.ofInt (tF T i).2.2 else if a = 3 then -2 else if a = 7 then Int32.ofInt (tB T i).1 else if a = 8 then Int32.ofInt (tB T i).2.2 else 0
noncomputable def rsS (T : tX) (f : Nat) : Int32 := Int32.ofInt (hdz 0 9 (Int32.ofInt (tF T f).1 + Int32.ofInt (bncT T f (Int32.ofInt (tF T f).2.2) 0 (Int32.ofInt (nfS T)))).toInt)
theorem oi32 {z : Int} (h1 : -2147483648 ≤ z) (h2 : z ≤ 2147483647) : (Int32.ofInt z).toInt = z := Int32.toInt_ofInt_of_le (by omega) (by omega)
theorem okS_beg {T : tX} (hT : wT T) : okS T (begS T) := by
  refine ⟨fun b hb => ?_, fun f hf _ => ⟨rfl, rfl⟩, fun f hf => (by show 0 ≤ (0 : Int32).toInt ∧ (0 : Int32).toInt ≤ 3; decide), ?_⟩
  · have h := bB_of hT hb
    show 0 ≤ (Int32.ofInt (tB T b).1).toInt ∧ (Int32.ofInt (tB T b).1).toInt ≤ 9
    have h1 := h.1
    rw [oi32 (by omega) (by omega)]
    exact h1
  · show (0 : Int32) = 0 * Int32.ofInt T.2.2.1
    rw [Int32.zero_mul]
theorem cpy_at {f g : List Int32} {n j : Nat} : (jm_cpy f g (0 : Int).toNat (0 : Int).toNat n).getD j 0 = if j < n then f.getD j 0 else g.getD j 0 := by
  have e := congrFun (jm_cpy_eq f g 0 0 n) j
  show (jm_cpy f g 0 0 n).getD j 0 = _
  rw [← e]
  unfold va_cpy
  by_cases q : j < n
  · rw [if_pos q, if_pos ⟨Nat.zero_le _, by omega⟩, Nat.zero_add, Nat.sub_zero]
  · rw [if_neg q, if_neg (fun z => q (by omega))]
theorem fil7 {l : List Int32} {v : Int32} {i : Nat} (h : i < 7) : (jm_upd (jm_upd (jm_upd (jm_upd (jm_upd (jm_upd (jm_upd l (0 : Int).toNat v) (1 : Int).toNat v) (2 : Int).toNat v) (3 : Int).toNat v) (4 : Int).toNat v) (5 : Int).toNat v) (6 : Int).toNat v).getD i 0 = v := by
  rw [jm_upd_at, jm_upd_at, jm_upd_at, jm_upd_at, jm_upd_at, jm_upd_at, jm_upd_at]
  match i, h with
  | 0, _ => rfl
  | 1, _ => rfl
  | 2, _ => rfl
  | 3, _ => rfl
  | 4, _ => rfl
  | 5, _ => rfl
  | 6, _ => rfl
theorem vF7 {nf nb a i : Nat} (hf : nf ≤ 7) (ha : a < 7) (h : vlS nf nb a i) : i < 7 ∧ i < nf := by
  rcases h with h | h | h <;> omega
theorem vB4 {nf nb a i : Nat} (hb : nb ≤ 4) (ha : a = 7 ∨ a = 8) (h : vlS nf nb a i) : i < 4 ∧ i < nb := by
  rcases h with h | h | h <;> omega
/-- where each would lie, as the text tells -/
def rstC (b : Nat) (T : tX) (F : Nat → sy_d) : Prop := ∀ f, f < nfS T → (sy_ai F (b + 9)).getD f 0 = rsS T f
