/-! ===== behind the constructors the bounds hold ===== -/
def jv_0 : List sy_d := [.inl (.int 0), .inl (.int (-1)), .inr (.inl []), .inl (.int 0), .inl (.int 0), .inl (.int 10), .inl (.int 6), .inl (.int 0), .inl (.int 12), .inr (.inl []), .inr (.inl []), .inr (.inl []), .inr (.inl []), .inr (.inl []), .inr (.inl []), .inr (.inl []), .inr (.inl [0, 2, 4, 6, 8, 10]), .inr (.inl [0, (-14), 1, (-14), (-1), (-14), (-1), (-14), 0, (-14), 0, (-14)]), .inl (.int 0), .inl (.int 0), .inl (.int 10), .inl (.int 6), .inl (.int 0), .inl (.int 12), .inr (.inl []), .inr (.inl []), .inr (.inl []), .inr (.inl []), .inr (.inl []), .inr (.inl []), .inr (.inl []), .inr (.inl [0, 2, 4, 6, 8, 10]), .inr (.inl [0, (-14), 1, (-14), (-1), (-14), (-1), (-14), 0, (-14), 0, (-14)]), .inl (.int 0), .inl (.int 0), .inl (.int (-1)), .inl (.int 0), .inl (.int (-1)), .inl (.int 0), .inr (.inl []), .inr (.inl []), .inr (.inr []), .inr (.inr [3558512, 1494603, 459652, 263382265, 3217420, 12532058, 1001512747, 3499582, 125042, 5948362, 377761, 249, 399641, 107681, 361292, 164222, 168984, 1310653, 16308991, 276908612, 6465306496, 8800, 240023]), .inr (.inr []), .inr (.inl []), .inr (.inl [0, 0, 0, 0, 0, 0, 0, 0, 0]), .inr (.inl [0]), .inr (.inl []), .inr (.inl []), .inr (.inr []), .inl (.int 0), .inl (.int 0), .inl (.int 0), .inr (.inl [0, 0, 0, 0, 0, 0, 0]), .inr (.inl [0, 0, 0, 0, 0, 0, 0]), .inr (.inl [(-2), (-2), (-2), (-2), (-2), (-2), (-2)]), .inr (.inl [0, 0, 0, 0, 0, 0, 0]), .inr (.inl [0, 0, 0, 0, 0, 0, 0]), .inr (.inl [0, 0, 0, 0, 0, 0, 0]), .inr (.inl [0, 0, 0, 0, 0, 0, 0]), .inr (.inl [0, 0, 0, 0]), .inr (.inl [0, 0, 0, 0]), .inl (.int 0), .inl (.int 0), .inl (.int 0), .inr (.inl []), .inr (.inl []), .inr (.inl []), .inr (.inl []), .inr (.inl []), .inr (.inl []), .inr (.inl []), .inr (.inl []), .inr (.inl []), .inl (.int 0), .inl (.int 0), .inr (.inl []), .inr (.inl [0, 0, 0, 0, 0, 0, 0, 0, 0, 0, 0, 0, 0, 0, 0, 0, 0, 0, 0, 0, 0, 0, 0, 0, 0, 0, 0, 0, 0, 0, 0, 0, 0, 0, 0, 0, 0, 0, 0, 0, 0, 0, 0, 0, 0, 0, 0, 0, 0, 0, 0, 0, 0, 0, 0, 0, 0, 0, 0, 0, 0, 0, 0, 0, 0, 0, 0, 0, 0, 0, 0, 0, 0, 0, 0, 0, 0, 0, 0, 0, 0, 0, 0, 0, 0, 0, 0, 0, 0, 0, 0, 0, 0, 0, 0, 0, 0, 0, 0, 0, 0, 0, 0, 0, 0, 0, 0, 0, 0, 0, 0, 0, 0, 0, 0, 0, 0, 0, 0, 0, 0, 0, 0, 0, 0, 0, 0, 0, 0, 0, 0, 0, 0, 0, 0, 0, 0, 0, 0, 0, 0, 0, 0, 0, 0, 0, 0, 0, 0, 0, 0, 0, 0, 0, 0, 0, 0, 0, 0, 0, 0, 0, 0, 0, 0, 0, 0, 0, 0, 0, 0, 0, 0, 0, 0, 0, 0, 0, 0, 0]), .inr (.inl [0, 0, 0]), .inl (.int 0), .inr (.inl []), .inr (.inl [])]
def jv_4 : List sy_d := [.inl (.int 0), .inl (.int 0), .inl (.int 0), .inl (.int 0), .inl (.int 0), .inl (.int 0), .inl (.int 0), .inl (.int 0), .inl (.int 0), .inl (.int 0), .inl (.int (-1)), .inl (.int 0), .inl (.int 0), .inl (.int 0), .inl (.int 0), .inl (.int 0), .inl (.int 0), .inl (.int 0), .inl (.int 0), .inl (.int 0), .inl (.int 0), .inl (.int 0), .inl (.int 0), .inr (.inl []), .inr (.inl []), .inr (.inl []), .inr (.inl []), .inr (.inl []), .inr (.inr []), .inr (.inr [3558512, 1494603, 459652, 263382265, 3217420, 12532058, 1001512747, 3499582, 125042, 5948362, 377761, 249, 399641, 107681, 361292, 164222, 168984, 1310653, 16308991, 276908612, 6465306496, 8800, 240023]), .inr (.inr []), .inr (.inl [0]), .inr (.inl []), .inr (.inl []), .inr (.inl []), .inr (.inl [0]), .inr (.inl []), .inr (.inl []), .inr (.inl []), .inr (.inl [10]), .inr (.inl [6]), .inr (.inl [0]), .inr (.inl [0, 0, 0, 0, 0, 0]), .inr (.inl [0, 0, 0, 0, 0, 0]), .inr (.inl []), .inr (.inl []), .inr (.inl []), .inr (.inl []), .inr (.inl []), .inr (.inl []), .inr (.inl []), .inr (.inl []), .inr (.inl []), .inr (.inl []), .inr (.inl [0, 0, 0, 0, 0, 0, 0, 0, 0, 0, 0, 0, 0, 0, 0, 0, 0, 0, 0, 0, 0, (-2), (-2), (-2), (-2), (-2), (-2), (-2), 0, 0, 0, 0, 0, 0, 0, 0, 0, 0, 0, 0, 0, 0, 0, 0, 0, 0, 0, 0, 0, 0, 0, 0, 0, 0, 0, 0, 0, 0, 0, 0, 0]), .inr (.inl [0, 0, 0, 0, 0, 0, 0, 0, 0, 0, 0, 0, 0, 0, 0, 0, 0, 0, 0, 0, 0, (-2), (-2), (-2), (-2), (-2), (-2), (-2), 0, 0, 0, 0, 0, 0, 0, 0, 0, 0, 0, 0, 0, 0, 0, 0, 0, 0, 0, 0, 0, 0, 0, 0, 0, 0, 0, 0, 0, 0, 0, 0, 0]), .inr (.inl []), .inr (.inl []), .inr (.inl []), .inr (.inl []), .inr (.inl []), .inr (.inl []), .inr (.inl []), .inr (.inl []), .inr (.inl []), .inr (.inl []), .inr (.inl []), .inr (.inl []), .inr (.inl [])]
def jv_b (d : sy_d) (t : iv_t) : Bool := match d with
  | .inl (.int x) => decide (t.1 = 0) && decide (t.2.1 ≤ x.toInt) && decide (x.toInt ≤ t.2.2)
  | .inl (.long x) => decide (t.1 = 1) && decide (t.2.1 ≤ x.toInt) && decide (x.toInt ≤ t.2.2)
  | .inr (.inl l) => decide (t.1 = 2) && decide (t.2.1 ≤ 0) && decide (0 ≤ t.2.2) && l.all (fun x => decide (t.2.1 ≤ x.toInt) && decide (x.toInt ≤ t.2.2))
  | .inr (.inr l) => decide (t.1 = 3) && decide (t.2.1 ≤ 0) && decide (0 ≤ t.2.2) && l.all (fun x => decide (t.2.1 ≤ x.toInt) && decide (x.toInt ≤ t.2.2))
  | _ => false
theorem jv_bok {d : sy_d} {t : iv_t} (h : jv_b d t = true) : iv_has d t := by
  unfold jv_b at h
  split at h
  · simp only [Bool.and_eq_true, decide_eq_true_eq] at h
    exact ⟨h.1.1, h.1.2, h.2⟩
  · simp only [Bool.and_eq_true, decide_eq_true_eq] at h
    exact ⟨h.1.1, h.1.2, h.2⟩
  · rename_i l
    simp only [Bool.and_eq_true, decide_eq_true_eq, List.all_eq_true] at h
    obtain ⟨⟨⟨h1, h2⟩, h3⟩, h4⟩ := h
    refine ⟨h1, fun j => ?_⟩
    by_cases q : j < l.length
    · have e : l.getD j 0 = l[j] := by simp [List.getD, q]
      rw [e]
      exact h4 _ (List.getElem_mem q)
    · have e : l.getD j 0 = 0 := by simp [List.getD, Nat.not_lt.mp q]
      have z : (0 : Int32).toInt = 0 := by decide
      rw [e, z]
      exact ⟨h2, h3⟩
  · rename_i l
    simp only [Bool.and_eq_true, decide_eq_true_eq, List.all_eq_true] at h
    obtain ⟨⟨⟨h1, h2⟩, h3⟩, h4⟩ := h
    refine ⟨h1, fun j => ?_⟩
    by_cases q : j < l.length
    · have e : l.getD j 0 = l[j] := by simp [List.getD, q]
      rw [e]
      exact h4 _ (List.getElem_mem q)
    · have e : l.getD j 0 = 0 := by simp [List.getD, Nat.not_lt.mp q]
      have z : (0 : Int64).toInt = 0 := by decide
      rw [e, z]
      exact ⟨h2, h3⟩
  · cases h
def jv_f (l : List sy_d) (k : Nat) : sy_d := l.getD k (.inl (.int 0))
theorem jv_in {l : List sy_d} {B : List iv_t} {n : Nat} (hn : B.length = n) (h : (List.range n).all (fun k => match B[k]? with | some t => jv_b (jv_f l k) t | none => false) = true) : iv_in (jv_f l) B := by
  intro k t hk
  have hl : k < n := by
    rw [← hn]
    exact (List.getElem?_eq_some_iff.mp hk).1
  have := List.all_eq_true.mp h k (List.mem_range.mpr hl)
  rw [hk] at this
  exact jv_bok this
/-- the text, the ground of a new object -/
theorem xc_0 : xC 3 T0 (jv_f jv_0) := by
  refine ⟨jv_in (n := 82) rfl (by decide +kernel), ⟨⟨by decide +kernel, fun i v hv => absurd hv (by simp [T0])⟩, ⟨by decide +kernel, fun i v hv => absurd hv (by simp [T0])⟩, by decide +kernel, by decide +kernel, by decide +kernel, fun k hk => ?_⟩, wT_0, by decide +kernel⟩
  match k, hk with
  | 0, _ => exact ⟨by decide +kernel, by decide +kernel, by decide +kernel⟩
  | 1, _ => exact ⟨by decide +kernel, by decide +kernel, by decide +kernel⟩
  | 2, _ => exact ⟨by decide +kernel, by decide +kernel, by decide +kernel⟩
  | 3, _ => exact ⟨by decide +kernel, by decide +kernel, by decide +kernel⟩
  | 4, _ => exact ⟨by decide +kernel, by decide +kernel, by decide +kernel⟩
  | 5, _ => exact ⟨by decide +kernel, by decide +kernel, by decide +kernel⟩
  | n + 6, h => exact absurd h (by omega)
theorem rx_0 : rXl T0 (jv_f jv_4) := by
  refine ⟨⟨by decide +kernel, fun i v hv => absurd hv (by simp [T0])⟩, ⟨by decide +kernel, fun i v hv => absurd hv (by simp [T0])⟩, by decide +kernel, by decide +kernel, by decide +kernel, fun k hk => ?_⟩
  match k, hk with
  | 0, _ => exact (by decide +kernel : ix (fl (jv_f jv_4)) 42 (6 * sdf (fl (jv_f jv_4)) + 0) = ix (fl (jv_f jv_4)) 43 (6 * sdf (fl (jv_f jv_4)) + 0))
  | 1, _ => exact (by decide +kernel : ix (fl (jv_f jv_4)) 42 (6 * sdf (fl (jv_f jv_4)) + 1) = ix (fl (jv_f jv_4)) 43 (6 * sdf (fl (jv_f jv_4)) + 1))
  | 2, _ => exact (by decide +kernel : ix (fl (jv_f jv_4)) 42 (6 * sdf (fl (jv_f jv_4)) + 2) = ix (fl (jv_f jv_4)) 43 (6 * sdf (fl (jv_f jv_4)) + 2))
  | 3, _ => exact (by decide +kernel : ix (fl (jv_f jv_4)) 42 (6 * sdf (fl (jv_f jv_4)) + 3) = ix (fl (jv_f jv_4)) 43 (6 * sdf (fl (jv_f jv_4)) + 3))
  | 4, _ => exact (by decide +kernel : ix (fl (jv_f jv_4)) 42 (6 * sdf (fl (jv_f jv_4)) + 4) = ix (fl (jv_f jv_4)) 43 (6 * sdf (fl (jv_f jv_4)) + 4))
  | 5, _ => exact (by decide +kernel : ix (fl (jv_f jv_4)) 42 (6 * sdf (fl (jv_f jv_4)) + 5) = ix (fl (jv_f jv_4)) 43 (6 * sdf (fl (jv_f jv_4)) + 5))
  | n + 6, h => exact absurd h (by omega)
theorem gl_0 {l : List Int32} (h : ∀ i, i < 4 → l.getD (57 + i) 0 = 0) : gL (nfS T0) (nbS T0) l (begS T0) := by
  intro a i hv
  rcases hv with ⟨h1, h2⟩ | ⟨h1, h2⟩ | ⟨h1, h2⟩
  · exact absurd h2 (by show ¬ i < 0; omega)
  · exact absurd h2 (by show ¬ i < 0; omega)
  · subst h1
    exact h i h2
theorem oz_0 : oz (jm_H1, jm_H2) := by
  refine ⟨0, jv_f jv_0, jv_f jv_4, (ox (jv_f jv_0), T0, begS T0, [], fun _ => begS T0, fun _ => (0, 0)), by decide, rfl, ⟨⟨fun j h => ?_, rfl, rfl⟩, xc_0, ⟨fun a i ha hv => ?_, fun i hi => ?_⟩, ⟨0, by decide, by decide, by decide +kernel, by decide +kernel, trivial⟩, fun k hk hz => absurd ?_ hz, fun i hi => absurd hi ?_, fun f hf => absurd hf (by show ¬ f < 0; omega)⟩, ⟨⟨fun k b hk h1 h2 => ?_, rfl, ?_⟩, ⟨jv_in (n := 69) rfl (by decide +kernel), rx_0, wT_0⟩, gl_0 (fun i hi => ?_), ⟨by decide +kernel, by decide, trivial⟩, fun k hk hz => absurd ?_ hz, fun i hi => absurd hi ?_⟩, ⟨okG_beg wT_0, fun u hu => absurd hu List.not_mem_nil, fun k hk hz => okG_beg wT_0⟩⟩
  · exact absurd h (by
      show ¬ (([] : List Int32).getD j 0 = 24)
      rw [List.getD_nil]
      decide)
  · rcases hv with ⟨h1, h2⟩ | ⟨h1, h2⟩ | ⟨h1, h2⟩
    · exact absurd h2 (by show ¬ i < 0; omega)
    · exact absurd h2 (by show ¬ i < 0; omega)
    · exact absurd ha (by omega)
  · match i, hi with
    | 0, _ => rfl
    | 1, _ => rfl
    | 2, _ => rfl
    | n + 3, h => exact absurd h (by omega)
  · match k, hk with
    | 0, _ => decide +kernel
    | 1, _ => decide +kernel
    | 2, _ => decide +kernel
    | n + 3, h => exact absurd h (by omega)
  · have e : (sy_i (jv_f jv_0) 79).toInt = 0 := by decide +kernel
    show ¬ (i : Int) < (sy_i (jv_f jv_0) 79).toInt
    omega
  · have e : ((sy_ai (jv_f jv_4) 43).getD (6 * (sy_i (jv_f jv_4) 11).toNatClampNeg + k) 0) = 0 := by
      show ([0, 0, 0, 0, 0, 0] : List Int32).getD (6 * 0 + k) 0 = 0
      match k, hk with
      | 0, _ => rfl
      | 1, _ => rfl
      | 2, _ => rfl
      | 3, _ => rfl
      | 4, _ => rfl
      | 5, _ => rfl
      | n + 6, h => exact absurd h (by omega)
    rw [e] at h2
    have z : (0 : Int32).toInt = 0 := by decide
    rw [z] at h2
    omega
  · show om (jv_f jv_4) = ox (jv_f jv_0)
    unfold ox om
    rw [show (sy_i (jv_f jv_0) 0).toInt.toNat = 0 from rfl, show (sy_i (jv_f jv_4) 1).toInt.toNat = 0 from rfl, ub_z, ub_z, hl_z (l := sy_ai (jv_f jv_0) 78) (fun j hj => by
      match j, hj with
      | 0, _ => rfl
      | 1, _ => rfl
      | 2, _ => rfl
      | n + 3, h => exact absurd h (by omega)), hl_z (l := sy_ai (jv_f jv_4) 67) (fun j hj => by
      match j, hj with
      | 0, _ => rfl
      | 1, _ => rfl
      | 2, _ => rfl
      | n + 3, h => exact absurd h (by omega))]
    rfl
  · match i, hi with
    | 0, _ => decide +kernel
    | 1, _ => decide +kernel
    | 2, _ => decide +kernel
    | 3, _ => decide +kernel
    | n + 4, h => exact absurd h (by omega)
  · match k, hk with
    | 0, _ => decide +kernel
    | 1, _ => decide +kernel
    | 2, _ => decide +kernel
    | n + 3, h => exact absurd h (by omega)
  · have e : (sy_i (jv_f jv_0) 79).toInt = 0 := by decide +kernel
    show ¬ (i : Int) < (sy_i (jv_f jv_0) 79).toInt
    omega
