/-! ===== bounds along a run: equations widen the list, assumptions narrow it ===== -/
noncomputable def iv_ext (g : List sy_e → sy_e → Option iv_t) (T0 : List sy_e) : List sy_e → List iv_t → Option (List iv_t)
  | [], E => some E
  | e :: r, E => match g T0 e with
    | some t => fz_t t fun t => fz_s (E ++ [t]) fun E => iv_ext g T0 r E
    | none => match iv_e E e with
      | some t => fz_t t fun t => fz_s (E ++ [t]) fun E => iv_ext g T0 r E
      | none => none
theorem iv_snoc {F : Nat → sy_d} {E : List iv_t} {t : iv_t} (hE : iv_in F E) (h : iv_has (F E.length) t) : iv_in F (E ++ [t]) := by
  intro k u hk
  by_cases hl : k < E.length
  · rw [List.getElem?_append_left hl] at hk
    exact hE k u hk
  · rw [List.getElem?_append_right (by omega)] at hk
    have : k - E.length = 0 := by
      by_cases h0 : k - E.length = 0
      · exact h0
      · rw [List.getElem?_eq_none (by simp; omega)] at hk
        cases hk
    rw [this] at hk
    simp at hk
    subst hk
    have e : k = E.length := by omega
    rw [e]
    exact h
theorem iv_ext_ok {F : Nat → sy_d} {g : List sy_e → sy_e → Option iv_t} {T0 : List sy_e} (hg : ∀ e t, g T0 e = some t → iv_has (sy_sem F e) t) : ∀ {T : List sy_e} {E E1 : List iv_t}, iv_in F E → (∀ (k : Nat) (e : sy_e), T[k]? = some e → F (E.length + k) = sy_sem F e) → iv_ext g T0 T E = some E1 → iv_in F E1
  | [], E, E1, hE, _, h => by
    simp only [iv_ext] at h
    cases h
    exact hE
  | e :: r, E, E1, hE, hs, h => by
    have h0 := hs 0 e rfl
    rw [Nat.add_zero] at h0
    have go : ∀ t, iv_has (sy_sem F e) t → iv_ext g T0 r (E ++ [t]) = some E1 → iv_in F E1 := by
      intro t ht h
      refine iv_ext_ok hg (iv_snoc hE (by rw [h0]; exact ht)) (fun k e' hk => ?_) h
      have := hs (k + 1) e' (by simpa using hk)
      rw [List.length_append, List.length_singleton, ← this]
      congr 1
      omega
    simp only [iv_ext, fz_t_eq, fz_s_eq] at h
    split at h
    · rename_i t ht
      exact go t (hg e t ht) h
    · split at h
      · rename_i t ht
        exact go t (iv_e_ok hE ht) h
      · cases h
/-- a number's bounds, narrowed -/
noncomputable def iv_set (E : List iv_t) (x : sy_v) (a b : Int) : List iv_t := match x with
  | .inr (.inl k) => (match E[k]? with
    | some (0, c, d) => fz_t (0, iv_mx a c, iv_mn b d) fun t => fz_s (E.set k t) fun E => E
    | _ => E)
  | _ => E
theorem iv_put {F : Nat → sy_d} {E : List iv_t} {k : Nat} {t : iv_t} (hE : iv_in F E) (h : iv_has (F k) t) : iv_in F (E.set k t) := by
  intro j u hj
  rw [List.getElem?_set] at hj
  split at hj
  · rename_i e
    subst e
    split at hj
    · cases hj; exact h
    · cases hj
  · exact hE j u hj
theorem iv_set_ok {F : Nat → sy_d} {E : List iv_t} {x : sy_v} {a b : Int} {v : Int32} (hE : iv_in F E) (hx : sy_dv F x = .int v) (h1 : a ≤ v.toInt) (h2 : v.toInt ≤ b) : iv_in F (iv_set E x a b) := by
  unfold iv_set
  split
  · rename_i k
    split
    · rename_i c d hk
      rw [fz_t_eq, fz_s_eq]
      refine iv_put hE ?_
      obtain ⟨w, e1, w1, w2⟩ := iv_h0 (hE k _ hk)
      have e2 : sy_dv F (.inr (.inl k)) = .int w := by simp only [sy_dv, sy_i, e1]
      rw [e2] at hx
      cases hx
      rw [e1]
      refine ⟨rfl, ?_, ?_⟩
      · exact iv_mx3 (by omega) (by omega)
      · exact iv_mn3 (by omega) (by omega)
    · exact hE
  · exact hE
/-- an assumption narrows both sides -/
noncomputable def iv_rf (E : List iv_t) (p : sy_p) : List iv_t := match iv_i E p.2.1, iv_i E p.2.2 with
  | some (a, b), some (c, d) =>
    if p.1 = 0 then iv_set (iv_set E p.2.1 c d) p.2.2 a b
    else if p.1 = 1 then (if c = d then (if a = c then iv_set E p.2.1 (a + 1) b else if b = c then iv_set E p.2.1 a (b - 1) else E)
      else if a = b then (if c = a then iv_set E p.2.2 (c + 1) d else if d = a then iv_set E p.2.2 c (d - 1) else E) else E)
    else if p.1 = 2 then iv_set (iv_set E p.2.1 a (d - 1)) p.2.2 (a + 1) d
    else if p.1 = 3 then iv_set (iv_set E p.2.1 c b) p.2.2 c b
    else if p.1 = 4 then iv_set (iv_set E p.2.1 a d) p.2.2 a d
    else if p.1 = 5 then iv_set (iv_set E p.2.1 (c + 1) b) p.2.2 c (b - 1)
    else E
  | _, _ => E
theorem iv_ne {x y : Int32} (h : ¬ x = y) : x.toInt ≠ y.toInt := fun e => h (Int32.toInt_inj.mp e)
theorem iv_rf_ok {F : Nat → sy_d} {E : List iv_t} {p : sy_p} (hE : iv_in F E) (hp : sy_ps F p) : iv_in F (iv_rf E p) := by
  unfold iv_rf
  split
  · rename_i a b c d hx hy
    obtain ⟨v, e1, v1, v2⟩ := iv_i_ok hE hx
    obtain ⟨w, e2, w1, w2⟩ := iv_i_ok hE hy
    unfold sy_ps at hp
    rw [e1, e2] at hp
    dsimp only at hp
    split
    · rename_i h0
      rw [if_pos h0] at hp
      subst hp
      exact iv_set_ok (iv_set_ok hE e1 w1 w2) e2 v1 v2
    rename_i h0
    rw [if_neg h0] at hp
    split
    · rename_i h1
      rw [if_pos h1] at hp
      have hn := iv_ne hp
      split
      · split
        · exact iv_set_ok hE e1 (by omega) v2
        · split
          · exact iv_set_ok hE e1 v1 (by omega)
          · exact hE
      · split
        · split
          · exact iv_set_ok hE e2 (by omega) w2
          · split
            · exact iv_set_ok hE e2 w1 (by omega)
            · exact hE
        · exact hE
    rename_i h1
    rw [if_neg h1] at hp
    split
    · rename_i h2
      rw [if_pos h2] at hp
      have := Int32.lt_iff_toInt_lt.mp hp
      exact iv_set_ok (iv_set_ok hE e1 v1 (by omega)) e2 (by omega) w2
    rename_i h2
    rw [if_neg h2] at hp
    split
    · rename_i h3
      rw [if_pos h3] at hp
      have := mt Int32.lt_iff_toInt_lt.mpr hp
      exact iv_set_ok (iv_set_ok hE e1 (by omega) v2) e2 w1 (by omega)
    rename_i h3
    rw [if_neg h3] at hp
    split
    · rename_i h4
      rw [if_pos h4] at hp
      have := Int32.le_iff_toInt_le.mp hp
      exact iv_set_ok (iv_set_ok hE e1 v1 (by omega)) e2 (by omega) w2
    rename_i h4
    rw [if_neg h4] at hp
    split
    · rename_i h5
      rw [if_pos h5] at hp
      have := mt Int32.le_iff_toInt_le.mpr hp
      exact iv_set_ok (iv_set_ok hE e1 (by omega) v2) e2 w1 (by omega)
    · exact hE
  · exact hE
noncomputable def iv_rfs : List sy_p → List iv_t → List iv_t
  | [], E => E
  | p :: r, E => iv_rfs r (iv_rf E p)
theorem iv_rfs_ok {F : Nat → sy_d} : ∀ {A : List sy_p} {E : List iv_t}, iv_in F E → (∀ p ∈ A, sy_ps F p) → iv_in F (iv_rfs A E)
  | [], E, hE, _ => hE
  | p :: r, E, hE, hp => by
    rw [iv_rfs]
    exact iv_rfs_ok (iv_rf_ok hE (hp p List.mem_cons_self)) (fun q hq => hp q (List.mem_cons_of_mem _ hq))
/-- back through sums and differences -/
noncomputable def iv_b1 (k : Nat) (e : sy_e) (E : List iv_t) : List iv_t := match e.2.1, e.2.2 with
  | [x, y], [] => (match iv_i E x, iv_i E y, iv_k E k 0 with
    | some (a, b), some (c, d), some (l, h) =>
      if e.1 = 0 ∧ -2147483648 ≤ a + c ∧ b + d ≤ 2147483647 then iv_set (iv_set E x (l - d) (h - c)) y (l - b) (h - a)
      else if e.1 = 1 ∧ -2147483648 ≤ a - d ∧ b - c ≤ 2147483647 then iv_set (iv_set E x (l + c) (h + d)) y (a - h) (b - l)
      else E
    | _, _, _ => E)
  | _, _ => E
theorem iv_b1_ok {F : Nat → sy_d} {k : Nat} {e : sy_e} {E : List iv_t} (hE : iv_in F E) (hs : F k = sy_sem F e) : iv_in F (iv_b1 k e E) := by
  obtain ⟨op, vs, as⟩ := e
  unfold iv_b1
  dsimp only
  split
  · rename_i x y
    split
    · rename_i a b c d l h hx hy hk
      obtain ⟨v, e1, v1, v2⟩ := iv_i_ok hE hx
      obtain ⟨w, e2, w1, w2⟩ := iv_i_ok hE hy
      obtain ⟨z, e3, z1, z2⟩ := iv_h0 (iv_k_ok hE hk)
      have hsem : sy_sem F (op, [x, y], []) = .inl (sy_o2 op (sy_dv F x) (sy_dv F y)) := rfl
      rw [hsem, e1, e2, e3] at hs
      split
      · rename_i hc
        have h0 : sy_o2 op (.int v) (.int w) = .int (v + w) := by rw [hc.1]; rfl
        rw [h0] at hs
        cases hs
        have := Jvm.Kit.i32_add (x := v) (y := w) (by omega) (by omega)
        exact iv_set_ok (iv_set_ok hE e1 (by omega) (by omega)) e2 (by omega) (by omega)
      · split
        · rename_i hc
          have h0 : sy_o2 op (.int v) (.int w) = .int (v - w) := by rw [hc.1]; rfl
          rw [h0] at hs
          cases hs
          have := Jvm.Kit.i32_sub (x := v) (y := w) (by omega) (by omega)
          exact iv_set_ok (iv_set_ok hE e1 (by omega) (by omega)) e2 (by omega) (by omega)
        · exact hE
    · exact hE
  · exact hE
noncomputable def iv_bk : List sy_e → Nat → List iv_t → List iv_t
  | [], _, E => E
  | e :: r, k, E => iv_b1 k e (iv_bk r (k + 1) E)
theorem iv_bk_ok {F : Nat → sy_d} : ∀ {T : List sy_e} {k : Nat} {E : List iv_t}, iv_in F E → (∀ (j : Nat) (e : sy_e), T[j]? = some e → F (k + j) = sy_sem F e) → iv_in F (iv_bk T k E)
  | [], _, _, hE, _ => hE
  | e :: r, k, E, hE, hs => by
    refine iv_b1_ok (iv_bk_ok hE (fun j e' hj => ?_)) (hs 0 e rfl)
    have := hs (j + 1) e' (by simpa using hj)
    rw [← this]
    congr 1
    omega
/-- forward once more -/
noncomputable def iv_f1 (k : Nat) (e : sy_e) (E : List iv_t) : List iv_t := match iv_e E e, E[k]? with
  | some (c1, a, b), some (c2, c, d) => if c1 = c2 then fz_t (c1, iv_mx a c, iv_mn b d) fun t => fz_s (E.set k t) fun E => E else E
  | _, _ => E
theorem iv_meet {d : sy_d} {c : Nat} {a b a' b' : Int} (h1 : iv_has d (c, a, b)) (h2 : iv_has d (c, a', b')) : iv_has d (c, iv_mx a a', iv_mn b b') := by
  unfold iv_has at h1
  split at h1
  · exact ⟨h1.1, iv_mx3 h1.2.1 h2.2.1, iv_mn3 h1.2.2 h2.2.2⟩
  · exact ⟨h1.1, iv_mx3 h1.2.1 h2.2.1, iv_mn3 h1.2.2 h2.2.2⟩
  · exact ⟨h1.1, fun j => ⟨iv_mx3 (h1.2 j).1 (h2.2 j).1, iv_mn3 (h1.2 j).2 (h2.2 j).2⟩⟩
  · exact ⟨h1.1, fun j => ⟨iv_mx3 (h1.2 j).1 (h2.2 j).1, iv_mn3 (h1.2 j).2 (h2.2 j).2⟩⟩
  · exact h1.elim
theorem iv_f1_ok {F : Nat → sy_d} {k : Nat} {e : sy_e} {E : List iv_t} (hE : iv_in F E) (hs : F k = sy_sem F e) : iv_in F (iv_f1 k e E) := by
  unfold iv_f1
  split
  · rename_i c1 a b c2 c d he hk
    split
    · rename_i h12
      subst h12
      rw [fz_t_eq, fz_s_eq]
      refine iv_put hE (iv_meet ?_ (hE k _ hk))
      rw [hs]
      exact iv_e_ok hE he
    · exact hE
  · exact hE
noncomputable def iv_fw : List sy_e → Nat → List iv_t → List iv_t
  | [], _, E => E
  | e :: r, k, E => iv_fw r (k + 1) (iv_f1 k e E)
theorem iv_fw_ok {F : Nat → sy_d} : ∀ {T : List sy_e} {k : Nat} {E : List iv_t}, iv_in F E → (∀ (j : Nat) (e : sy_e), T[j]? = some e → F (k + j) = sy_sem F e) → iv_in F (iv_fw T k E)
  | [], _, _, hE, _ => hE
  | e :: r, k, E, hE, hs => by
    rw [iv_fw]
    refine iv_fw_ok (iv_f1_ok hE (hs 0 e rfl)) (fun j e' hj => ?_)
    have := hs (j + 1) e' (by simpa using hj)
    rw [← this]
    congr 1
    omega
/-- what is read twice is the same -/
noncomputable def iv_fd (e : sy_e) : List sy_e → Nat → Option Nat
  | [], _ => none
  | a :: r, k => bif Nat.beq a.1 30 && sy_be a e then some k else iv_fd e r (k + 1)
theorem iv_fd_ok {e : sy_e} : ∀ {T : List sy_e} {k j : Nat}, iv_fd e T k = some j → k ≤ j ∧ T[j - k]? = some e
  | [], k, j, h => by simp [iv_fd] at h
  | a :: r, k, j, h => by
    rw [iv_fd] at h
    cases hb : (Nat.beq a.1 30 && sy_be a e) with
    | true =>
      rw [hb] at h
      cases h
      rw [Bool.and_eq_true] at hb
      have := sy_be_ok hb.2
      subst this
      exact ⟨Nat.le_refl _, by simp⟩
    | false =>
      rw [hb] at h
      obtain ⟨h1, h2⟩ := iv_fd_ok (T := r) (k := k + 1) h
      refine ⟨by omega, ?_⟩
      rw [show j - k = (j - (k + 1)) + 1 by omega]
      simpa using h2
noncomputable def iv_c1 (T : List sy_e) (nv k : Nat) (e : sy_e) (E : List iv_t) : List iv_t := bif Nat.beq e.1 30 then (match iv_fd e T 0 with
  | some j => (match E[nv + j]?, E[k]? with
    | some (0, a, b), some (0, c, d) => fz_t (0, iv_mx a c, iv_mn b d) fun t => fz_s ((E.set k t).set (nv + j) t) fun E => E
    | _, _ => E)
  | none => E) else E
theorem iv_c1_ok {F : Nat → sy_d} {T : List sy_e} {nv k : Nat} {e : sy_e} {E : List iv_t} (hE : iv_in F E) (hs : sy_sat F nv T) (hk : F k = sy_sem F e) : iv_in F (iv_c1 T nv k e E) := by
  unfold iv_c1
  cases Nat.beq e.1 30 with
  | false => exact hE
  | true =>
    dsimp only [cond]
    split
    · rename_i j hj
      obtain ⟨-, hj2⟩ := iv_fd_ok hj
      rw [Nat.sub_zero] at hj2
      have e1 := hs j e hj2
      split
      · rename_i a b c d h1 h2
        obtain ⟨v, q1, v1, v2⟩ := iv_h0 (hE _ _ h1)
        obtain ⟨w, q2, w1, w2⟩ := iv_h0 (hE _ _ h2)
        have q3 := q1
        rw [e1, ← hk, q2] at q1
        cases q1
        have key : iv_has (.inl (.int v)) (0, iv_mx a c, iv_mn b d) := by
          refine ⟨rfl, ?_, ?_⟩
          · exact iv_mx3 (by omega) (by omega)
          · exact iv_mn3 (by omega) (by omega)
        rw [fz_t_eq, fz_s_eq]
        exact iv_put (iv_put hE (by rw [q2]; exact key)) (by rw [q3]; exact key)
      · exact hE
    · exact hE
noncomputable def iv_cg (T0 : List sy_e) (nv : Nat) : List sy_e → Nat → List iv_t → List iv_t
  | [], _, E => E
  | e :: r, k, E => iv_cg T0 nv r (k + 1) (iv_c1 T0 nv k e E)
theorem iv_cg_ok {F : Nat → sy_d} {T0 : List sy_e} {nv : Nat} (h0 : sy_sat F nv T0) : ∀ {T : List sy_e} {k : Nat} {E : List iv_t}, iv_in F E → (∀ (j : Nat) (e : sy_e), T[j]? = some e → F (k + j) = sy_sem F e) → iv_in F (iv_cg T0 nv T k E)
  | [], _, _, hE, _ => hE
  | e :: r, k, E, hE, hs => by
    rw [iv_cg]
    refine iv_cg_ok h0 (iv_c1_ok hE h0 (hs 0 e rfl)) (fun j e' hj => ?_)
    have := hs (j + 1) e' (by simpa using hj)
    rw [← this]
    congr 1
    omega
/-- all bounds of a run -/
noncomputable def iv_env (g : List sy_e → sy_e → Option iv_t) (nv : Nat) (T : List sy_e) (A : List sy_p) (E : List iv_t) : Option (List iv_t) := bif Nat.beq E.length nv then (match iv_ext g T T (iv_rfs A E) with
  | some E2 => some (iv_rfs A (iv_cg T nv T nv (iv_rfs A (iv_fw T nv (iv_bk T nv (iv_rfs A E2))))))
  | none => none) else none
theorem iv_set_len (E : List iv_t) (x : sy_v) (a b : Int) : (iv_set E x a b).length = E.length := by
  unfold iv_set
  repeat' split
  all_goals simp only [fz_t_eq, fz_s_eq, List.length_set]
theorem iv_rf_len (E : List iv_t) (p : sy_p) : (iv_rf E p).length = E.length := by
  unfold iv_rf
  repeat' split
  all_goals simp only [iv_set_len]
theorem iv_rfs_len : ∀ (A : List sy_p) (E : List iv_t), (iv_rfs A E).length = E.length
  | [], _ => rfl
  | p :: r, E => by rw [iv_rfs, iv_rfs_len r, iv_rf_len]
theorem iv_env_ok {F : Nat → sy_d} {g : List sy_e → sy_e → Option iv_t} {nv : Nat} {T : List sy_e} {A : List sy_p} {E E1 : List iv_t} (hE : iv_in F E) (hs : sy_sat F nv T) (hA : ∀ p ∈ A, sy_ps F p) (hg : ∀ e t, g T e = some t → iv_has (sy_sem F e) t) (h : iv_env g nv T A E = some E1) : iv_in F E1 := by
  unfold iv_env at h
  cases hl : Nat.beq E.length nv with
  | false => rw [hl] at h; cases h
  | true =>
    rw [hl] at h
    have hl := Nat.eq_of_beq_eq_true hl
    dsimp only [cond] at h
    split at h
    · rename_i E2 h2
      cases h
      have a1 : iv_in F E2 := iv_ext_ok hg (iv_rfs_ok hE hA) (fun k e hk => by rw [iv_rfs_len, hl]; exact hs k e hk) h2
      exact iv_rfs_ok (iv_cg_ok hs (iv_rfs_ok (iv_fw_ok (iv_bk_ok (iv_rfs_ok a1 hA) hs) hs) hA) hs) hA
    · cases h
/-- what the bounds show -/
noncomputable def iv_pp (E : List iv_t) (p : sy_p) : Bool := match p.2.2 with
  | .inl (.ref N) => (match iv_i E p.2.1 with
    | some (a, b) => decide (0 ≤ a) && decide (b < N)
    | none => false)
  | y => (match iv_i E p.2.1, iv_i E y with
    | some (a, b), some (c, d) =>
      if p.1 = 0 then decide (a = b ∧ c = d ∧ a = c) else if p.1 = 1 then decide (b < c ∨ d < a) else if p.1 = 2 then decide (b < c) else if p.1 = 3 then decide (d ≤ a)
      else if p.1 = 4 then decide (b ≤ c) else if p.1 = 5 then decide (d < a) else decide (0 ≤ a ∧ b ≤ 1)
    | _, _ => (match iv_l E p.2.1, iv_l E y with
      | some (a, b), some (c, d) => decide (p.1 = 1 ∧ (b < c ∨ d < a))
      | _, _ => false))
theorem iv_pp_ok {F : Nat → sy_d} {E : List iv_t} {p : sy_p} (hE : iv_in F E) (h : iv_pp E p = true) : sy_ps F p := by
  obtain ⟨k, x, y⟩ := p
  unfold iv_pp at h
  dsimp only at h
  split at h
  · rename_i N
    split at h
    · rename_i a b hx
      obtain ⟨v, e1, v1, v2⟩ := iv_i_ok hE hx
      rw [Bool.and_eq_true] at h
      have h1 := of_decide_eq_true h.1
      have h2 := of_decide_eq_true h.2
      unfold sy_ps
      dsimp only
      rw [e1]
      show jm_out v N = false
      unfold jm_out
      rw [Bool.or_eq_false_iff]
      constructor
      · exact decide_eq_false (fun q => by
          have := Int32.lt_iff_toInt_lt.mp q
          have hz : (0 : Int32).toInt = 0 := by decide
          omega)
      · refine decide_eq_false (fun q => ?_)
        have : (v.toNatClampNeg : Int) = v.toInt := by
          have : v.toNatClampNeg = v.toInt.toNat := rfl
          rw [this]
          omega
        omega
    · cases h
  · split at h
    · rename_i a b c d hx hy
      obtain ⟨v, e1, v1, v2⟩ := iv_i_ok hE hx
      obtain ⟨w, e2, w1, w2⟩ := iv_i_ok hE hy
      unfold sy_ps
      dsimp only
      rw [e1, e2]
      dsimp only
      split
      · rename_i h0
        rw [if_pos h0] at h
        have := of_decide_eq_true h
        exact Int32.toInt_inj.mp (by omega)
      rename_i h0
      rw [if_neg h0] at h
      split
      · rename_i h1
        rw [if_pos h1] at h
        have := of_decide_eq_true h
        intro q
        rw [q] at v1 v2
        omega
      rename_i h1
      rw [if_neg h1] at h
      split
      · rename_i h2
        rw [if_pos h2] at h
        have := of_decide_eq_true h
        exact Int32.lt_iff_toInt_lt.mpr (by omega)
      rename_i h2
      rw [if_neg h2] at h
      split
      · rename_i h3
        rw [if_pos h3] at h
        have := of_decide_eq_true h
        exact fun q => by have := Int32.lt_iff_toInt_lt.mp q; omega
      rename_i h3
      rw [if_neg h3] at h
      split
      · rename_i h4
        rw [if_pos h4] at h
        have := of_decide_eq_true h
        exact Int32.le_iff_toInt_le.mpr (by omega)
      rename_i h4
      rw [if_neg h4] at h
      split
      · rename_i h5
        rw [if_pos h5] at h
        have := of_decide_eq_true h
        exact fun q => by have := Int32.le_iff_toInt_le.mp q; omega
      rename_i h5
      rw [if_neg h5] at h
      have := of_decide_eq_true h
      have hz : (0 : Int32).toInt = 0 := by decide
      have ho : (1 : Int32).toInt = 1 := by decide
      by_cases hv : v.toInt = 0
      · exact Or.inl (Int32.toInt_inj.mp (by omega))
      · exact Or.inr (Int32.toInt_inj.mp (by omega))
    · split at h
      · rename_i a b c d hx hy
        obtain ⟨v, e1, v1, v2⟩ := iv_l_ok hE hx
        obtain ⟨w, e2, w1, w2⟩ := iv_l_ok hE hy
        have h1 := of_decide_eq_true h
        unfold sy_ps
        dsimp only
        rw [e1, e2]
        dsimp only
        rw [if_pos h1.1]
        intro q
        rw [q] at v1 v2
        omega
      · cases h
/-- no numbers are so -/
noncomputable def iv_no (E : List iv_t) : Bool := E.any fun t => !iv_le t.2.1 t.2.2
theorem iv_no_ok {F : Nat → sy_d} {E : List iv_t} (hE : iv_in F E) (h : iv_no E = true) : False := by
  unfold iv_no at h
  rw [List.any_eq_true] at h
  obtain ⟨t, ht, h1⟩ := h
  obtain ⟨k, hk⟩ := List.getElem?_of_mem ht
  have h2 := hE k t hk
  have h3 : t.2.2 < t.2.1 := iv_nle_of (by simpa using h1)
  unfold iv_has at h2
  split at h2
  · omega
  · omega
  · have := h2.2 0
    omega
  · have := h2.2 0
    omega
  · exact h2
