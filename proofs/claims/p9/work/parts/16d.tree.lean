/-! ===== a tree of cases: each number takes one way through it ===== -/
abbrev iv_q : Type := (sy_p × Nat) ⊕ (List Bool ⊕ List sy_e)
noncomputable def iv_lcp : List sy_e → List sy_e → List sy_e
  | a :: r, b :: t => bif sy_be a b then a :: iv_lcp r t else []
  | _, _ => []
theorem iv_lcp_ok : ∀ (a b : List sy_e), (∃ r, a = iv_lcp a b ++ r) ∧ (∃ r, b = iv_lcp a b ++ r)
  | [], b => ⟨⟨[], by simp [iv_lcp]⟩, ⟨b, by simp [iv_lcp]⟩⟩
  | a :: r, [] => ⟨⟨a :: r, by simp [iv_lcp]⟩, ⟨[], by simp [iv_lcp]⟩⟩
  | a :: r, b :: t => by
    rw [iv_lcp]
    cases h : sy_be a b with
    | true =>
      have e := sy_be_ok h
      subst e
      obtain ⟨⟨x, hx⟩, ⟨y, hy⟩⟩ := iv_lcp_ok r t
      refine ⟨⟨x, ?_⟩, ⟨y, ?_⟩⟩
      · show a :: r = a :: (iv_lcp r t ++ x)
        rw [← hx]
      · show a :: t = a :: (iv_lcp r t ++ y)
        rw [← hy]
    | false => exact ⟨⟨a :: r, rfl⟩, ⟨b :: t, rfl⟩⟩
noncomputable def iv_neg (p : sy_p) : sy_p := (if p.1 = 0 then 1 else if p.1 = 1 then 0 else if p.1 = 2 then 3 else if p.1 = 3 then 2 else if p.1 = 4 then 5 else 4, p.2)
noncomputable def iv_pt (p : sy_p) : Bool := decide (p.1 ≤ 5) && decide (sy_ty p.2.1 = 0) && decide (sy_ty p.2.2 = 0)
theorem iv_neg_ok {F : Nat → sy_d} {p : sy_p} (h : iv_pt p = true) : sy_ps F p ∨ sy_ps F (iv_neg p) := by
  obtain ⟨k, x, y⟩ := p
  simp only [iv_pt, Bool.and_eq_true] at h
  obtain ⟨⟨h1, h2⟩, h3⟩ := h
  have h1 := of_decide_eq_true h1
  obtain ⟨a, ha⟩ := sy_ty0 (F := F) (of_decide_eq_true h2)
  obtain ⟨b, hb⟩ := sy_ty0 (F := F) (of_decide_eq_true h3)
  simp only [sy_ps, iv_neg, ha, hb]
  have hk : k = 0 ∨ k = 1 ∨ k = 2 ∨ k = 3 ∨ k = 4 ∨ k = 5 := by omega
  rcases hk with rfl | rfl | rfl | rfl | rfl | rfl
  · exact Decidable.em (a = b)
  · exact (Decidable.em (a = b)).symm
  · exact Decidable.em (a < b)
  · exact (Decidable.em (a < b)).symm
  · exact Decidable.em (a ≤ b)
  · exact (Decidable.em (a ≤ b)).symm
noncomputable def iv_tr (nv : Nat) (lf : List sy_p → List Bool → Option (List sy_e)) (ab : List sy_p → List sy_e → Bool) : Nat → List iv_q → List sy_p → Option (List iv_q × List sy_e)
  | 0, _, _ => none
  | _ + 1, [], _ => none
  | n + 1, .inl (p, m) :: r, A => if m = 1 then (match iv_tr nv lf ab n r (p :: A) with
      | some (r1, T1) => bif iv_pt p && sy_pw (nv + T1.length) p && ab (iv_neg p :: A) T1 then some (r1, T1) else none
      | none => none)
    else if m = 2 then (match iv_tr nv lf ab n r (iv_neg p :: A) with
      | some (r1, T1) => bif iv_pt p && sy_pw (nv + T1.length) p && ab (p :: A) T1 then some (r1, T1) else none
      | none => none)
    else (match iv_tr nv lf ab n r (p :: A) with
    | some (r1, T1) => (match iv_tr nv lf ab n r1 (iv_neg p :: A) with
      | some (r2, T2) => bif iv_pt p && sy_pw (nv + (iv_lcp T1 T2).length) p then some (r2, iv_lcp T1 T2) else none
      | none => none)
    | none => none)
  | _ + 1, .inr (.inl O) :: r, A => (match lf A O with
    | some T => bif sy_wf nv T then some (r, T) else none
    | none => none)
  | _ + 1, .inr (.inr T) :: r, A => bif sy_wf nv T && ab A T then some (r, T) else none
theorem sy_wf_app : ∀ {T r : List sy_e} {b : Nat}, sy_wf b (T ++ r) = true → sy_wf b T = true
  | [], r, b, _ => rfl
  | e :: T, r, b, h => by
    rw [List.cons_append, sy_wf, Bool.and_eq_true] at h
    rw [sy_wf, Bool.and_eq_true]
    exact ⟨h.1, sy_wf_app h.2⟩
theorem sy_wf_at : ∀ {T : List sy_e} {b k : Nat} {e : sy_e}, sy_wf b T = true → T[k]? = some e → e.2.1.all (sy_vw (b + k)) = true ∧ e.2.2.all (sy_aw (b + k)) = true
  | [], b, k, e, _, h => by simp at h
  | a :: T, b, 0, e, hw, h => by
    simp at h
    subst h
    rw [sy_wf, Bool.and_eq_true, Bool.and_eq_true] at hw
    exact hw.1
  | a :: T, b, k + 1, e, hw, h => by
    rw [sy_wf, Bool.and_eq_true, Bool.and_eq_true] at hw
    have := sy_wf_at hw.2 (k := k) (e := e) (by simpa using h)
    rwa [show b + 1 + k = b + (k + 1) by omega] at this
theorem iv_extend {nv : Nat} {T0 r : List sy_e} {F : Nat → sy_d} (hw : sy_wf nv (T0 ++ r) = true) (hs : sy_sat F nv T0) : ∃ F' : Nat → sy_d, (∀ k, k < nv + T0.length → F' k = F k) ∧ sy_sat F' nv (T0 ++ r) := by
  obtain ⟨F', h1, h2⟩ := sy_ex F hw
  refine ⟨F', ?_, h2⟩
  have key : ∀ n k, k < n → k < T0.length → F' (nv + k) = F (nv + k) := by
    intro n
    induction n with
    | zero => intro k hk; omega
    | succ n ih =>
      intro k hk hl
      have e1 : T0[k]? = some T0[k] := List.getElem?_eq_getElem hl
      have e2 : (T0 ++ r)[k]? = some T0[k] := by rw [List.getElem?_append_left hl]; exact e1
      rw [h2 k _ e2, hs k _ e1]
      obtain ⟨w1, w2⟩ := sy_wf_at hw e2
      refine sy_sem_congr w1 w2 (fun j hj => ?_)
      by_cases hj2 : j < nv
      · exact h1 j hj2
      · have := ih (j - nv) (by omega) (by omega)
        rwa [show nv + (j - nv) = j by omega] at this
  intro k hk
  by_cases h : k < nv
  · exact h1 k h
  · have := key (k - nv + 1) (k - nv) (by omega) (by omega)
    rwa [show nv + (k - nv) = k by omega] at this
theorem sy_vw_mono {b b' : Nat} {x : sy_v} (hb : b ≤ b') (h : sy_vw b x = true) : sy_vw b' x = true := by
  unfold sy_vw at h ⊢
  split at h
  · rfl
  · exact Nat.ble_eq_true_of_le (Nat.le_trans (Nat.le_of_ble_eq_true h) hb)
  · exact Nat.ble_eq_true_of_le (Nat.le_trans (Nat.le_of_ble_eq_true h) hb)
theorem sy_pw_mono {b b' : Nat} {p : sy_p} (hb : b ≤ b') (h : sy_pw b p = true) : sy_pw b' p = true := by
  unfold sy_pw at h ⊢
  rw [Bool.and_eq_true] at h ⊢
  exact ⟨sy_vw_mono hb h.1, sy_vw_mono hb h.2⟩
set_option maxHeartbeats 2000000 in
theorem iv_tr_ok {nv : Nat} {lf : List sy_p → List Bool → Option (List sy_e)} {ab : List sy_p → List sy_e → Bool} : ∀ (n : Nat) (its : List iv_q) (A : List sy_p) (rest : List iv_q) (Tc : List sy_e), iv_tr nv lf ab n its A = some (rest, Tc) →
    sy_wf nv Tc = true ∧ ∀ (F : Nat → sy_d) (T0 r : List sy_e), Tc = T0 ++ r → sy_sat F nv T0 → (∀ p ∈ A, sy_ps F p ∧ sy_pw (nv + T0.length) p = true) →
      ∃ (F' : Nat → sy_d) (A' : List sy_p) (T' : List sy_e), (∀ k, k < nv + T0.length → F' k = F k) ∧ sy_sat F' nv T' ∧ (∀ p ∈ A', sy_ps F' p) ∧ ((∃ O, lf A' O = some T') ∨ ab A' T' = true) := by
  intro n
  induction n with
  | zero => intro its A rest Tc h; simp [iv_tr] at h
  | succ n ih =>
    intro its A rest Tc h
    match its with
    | [] => simp [iv_tr] at h
    | .inl (p, m) :: r =>
      rw [iv_tr] at h
      by_cases hm1 : m = 1
      · rw [if_pos hm1] at h
        split at h
        · rename_i r1 T1 h1
          cases hb : (iv_pt p && sy_pw (nv + T1.length) p && ab (iv_neg p :: A) T1) with
          | false => rw [hb] at h; cases h
          | true =>
            rw [hb] at h
            cases h
            simp only [Bool.and_eq_true] at hb
            obtain ⟨w1, k1⟩ := ih _ _ _ _ h1
            refine ⟨w1, fun F T0 r0 he hs hA => ?_⟩
            obtain ⟨F1, f1, s1⟩ := iv_extend (by rw [← he]; exact w1) hs
            rw [← he] at s1
            have hle : T0.length ≤ Tc.length := by rw [he, List.length_append]; omega
            have hA1 : ∀ q ∈ A, sy_ps F1 q ∧ sy_pw (nv + Tc.length) q = true := fun q hq => ⟨sy_pw_ok (hA q hq).2 f1 (hA q hq).1, sy_pw_mono (by omega) (hA q hq).2⟩
            rcases iv_neg_ok (F := F1) hb.1.1 with hp | hp
            · obtain ⟨F', A', T', g1, g2, g3, g4⟩ := k1 F1 Tc [] (List.append_nil _).symm s1 (List.forall_mem_cons.mpr ⟨⟨hp, hb.1.2⟩, hA1⟩)
              exact ⟨F', A', T', fun k hk => by rw [g1 k (by omega), f1 k hk], g2, g3, g4⟩
            · exact ⟨F1, iv_neg p :: A, Tc, f1, s1, List.forall_mem_cons.mpr ⟨hp, fun q hq => (hA1 q hq).1⟩, Or.inr hb.2⟩
        · cases h
      rw [if_neg hm1] at h
      by_cases hm2 : m = 2
      · rw [if_pos hm2] at h
        split at h
        · rename_i r1 T1 h1
          cases hb : (iv_pt p && sy_pw (nv + T1.length) p && ab (p :: A) T1) with
          | false => rw [hb] at h; cases h
          | true =>
            rw [hb] at h
            cases h
            simp only [Bool.and_eq_true] at hb
            obtain ⟨w1, k1⟩ := ih _ _ _ _ h1
            refine ⟨w1, fun F T0 r0 he hs hA => ?_⟩
            obtain ⟨F1, f1, s1⟩ := iv_extend (by rw [← he]; exact w1) hs
            rw [← he] at s1
            have hle : T0.length ≤ Tc.length := by rw [he, List.length_append]; omega
            have hA1 : ∀ q ∈ A, sy_ps F1 q ∧ sy_pw (nv + Tc.length) q = true := fun q hq => ⟨sy_pw_ok (hA q hq).2 f1 (hA q hq).1, sy_pw_mono (by omega) (hA q hq).2⟩
            rcases iv_neg_ok (F := F1) hb.1.1 with hp | hp
            · exact ⟨F1, p :: A, Tc, f1, s1, List.forall_mem_cons.mpr ⟨hp, fun q hq => (hA1 q hq).1⟩, Or.inr hb.2⟩
            · obtain ⟨F', A', T', g1, g2, g3, g4⟩ := k1 F1 Tc [] (List.append_nil _).symm s1 (List.forall_mem_cons.mpr ⟨⟨hp, hb.1.2⟩, hA1⟩)
              exact ⟨F', A', T', fun k hk => by rw [g1 k (by omega), f1 k hk], g2, g3, g4⟩
        · cases h
      rw [if_neg hm2] at h
      split at h
      · rename_i r1 T1 h1
        split at h
        · rename_i r2 T2 h2
          cases hb : (iv_pt p && sy_pw (nv + (iv_lcp T1 T2).length) p) with
          | false => rw [hb] at h; cases h
          | true =>
            rw [hb] at h
            cases h
            rw [Bool.and_eq_true] at hb
            obtain ⟨w1, k1⟩ := ih _ _ _ _ h1
            obtain ⟨w2, k2⟩ := ih _ _ _ _ h2
            obtain ⟨⟨x1, e1⟩, ⟨x2, e2⟩⟩ := iv_lcp_ok T1 T2
            have hw : sy_wf nv (iv_lcp T1 T2) = true := sy_wf_app (r := x1) (by rw [← e1]; exact w1)
            refine ⟨hw, fun F T0 r0 he hs hA => ?_⟩
            obtain ⟨F1, f1, s1⟩ := iv_extend (by rw [← he]; exact hw) hs
            rw [← he] at s1
            have hle : T0.length ≤ (iv_lcp T1 T2).length := by rw [he, List.length_append]; omega
            have hA1 : ∀ q ∈ A, sy_ps F1 q ∧ sy_pw (nv + (iv_lcp T1 T2).length) q = true := fun q hq => ⟨sy_pw_ok (hA q hq).2 f1 (hA q hq).1, sy_pw_mono (by omega) (hA q hq).2⟩
            have go : ∃ (F' : Nat → sy_d) (A' : List sy_p) (T' : List sy_e), (∀ k, k < nv + (iv_lcp T1 T2).length → F' k = F1 k) ∧ sy_sat F' nv T' ∧ (∀ p ∈ A', sy_ps F' p) ∧ ((∃ O, lf A' O = some T') ∨ ab A' T' = true) := by
              rcases iv_neg_ok (F := F1) hb.1 with hp | hp
              · exact k1 F1 _ x1 e1 s1 (List.forall_mem_cons.mpr ⟨⟨hp, hb.2⟩, hA1⟩)
              · exact k2 F1 _ x2 e2 s1 (List.forall_mem_cons.mpr ⟨⟨hp, hb.2⟩, hA1⟩)
            obtain ⟨F', A', T', g1, g2, g3, g4⟩ := go
            exact ⟨F', A', T', fun k hk => by rw [g1 k (by omega), f1 k hk], g2, g3, g4⟩
        · cases h
      · cases h
    | .inr (.inl O) :: r =>
      rw [iv_tr] at h
      split at h
      · rename_i T hT
        cases hb : sy_wf nv T with
        | false => rw [hb] at h; cases h
        | true =>
          rw [hb] at h
          cases h
          refine ⟨hb, fun F T0 r0 he hs hA => ?_⟩
          obtain ⟨F1, f1, s1⟩ := iv_extend (by rw [← he]; exact hb) hs
          rw [← he] at s1
          exact ⟨F1, A, Tc, f1, s1, fun p hp => sy_pw_ok (hA p hp).2 f1 (hA p hp).1, Or.inl ⟨O, hT⟩⟩
      · cases h
    | .inr (.inr T) :: r =>
      rw [iv_tr] at h
      cases hb : (sy_wf nv T && ab A T) with
      | false => rw [hb] at h; cases h
      | true =>
        rw [hb] at h
        cases h
        rw [Bool.and_eq_true] at hb
        refine ⟨hb.1, fun F T0 r0 he hs hA => ?_⟩
        obtain ⟨F1, f1, s1⟩ := iv_extend (by rw [← he]; exact hb.1) hs
        rw [← he] at s1
        exact ⟨F1, A, Tc, f1, s1, fun p hp => sy_pw_ok (hA p hp).2 f1 (hA p hp).1, Or.inr hb.2⟩
