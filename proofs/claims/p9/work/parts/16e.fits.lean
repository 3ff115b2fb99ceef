/-! ===== the end of a run fits a place: what its symbols stand for, their bounds, what stayed as it was, what grows less ===== -/
noncomputable def zz_uv (x y : sy_v) : sy_u := match x with
  | .inl _ => []
  | .inr _ => [.inl y]
noncomputable def zz_ua (x y : sy_a) : sy_u := match x with
  | .inl _ => []
  | .inr _ => [.inr y]
noncomputable def zz_us : List sy_v → List sy_v → sy_u
  | a :: r, b :: t => zz_uv a b ++ zz_us r t
  | _, _ => []
noncomputable def zz_pr : List (Option sy_v) → List (Option sy_v) → List (sy_v × sy_v)
  | some a :: r, some b :: t => (a, b) :: zz_pr r t
  | _ :: r, _ :: t => zz_pr r t
  | _, _ => []
noncomputable def zz_vp : Nat → List (sy_v × sy_v) → sy_u
  | _, [] => []
  | n, (.inl _, _) :: r => zz_vp n r
  | n, (.inr (.inl k), y) :: r => bif Nat.beq k n then .inl y :: zz_vp (n + 1) r else zz_vp n r
  | n, (.inr (.inr k), y) :: r => bif Nat.beq k n then .inl y :: zz_vp (n + 1) r else zz_vp n r
noncomputable def zz_uc (x y : sy_c) : sy_u := match x, y with
  | .inl (_, _, a), .inl (_, _, b) => zz_ua a b
  | .inr (_, f), .inr (_, g) => zz_us f g
  | _, _ => []
noncomputable def zz_ug : List sy_c → List sy_c → sy_u
  | a :: r, b :: t => zz_uc a b ++ zz_ug r t
  | _, _ => []
noncomputable def zz_uh (x y : sy_h) : sy_u := (match x.1, y.1 with
  | .inl a, .inl b => zz_ug a b
  | _, _ => []) ++ (match x.2, y.2 with
  | .inl a, .inl b => zz_ug a b
  | _, _ => [])
noncomputable def iv_du (E : List iv_t) (x : sy_v ⊕ sy_a) : Option iv_t := match x with
  | .inl v => (match iv_i E v with
    | some (a, b) => some (0, a, b)
    | none => (match iv_l E v with
      | some (a, b) => some (1, a, b)
      | none => none))
  | .inr v => (match iv_ai E v with
    | some (a, b) => some (2, a, b)
    | none => (match iv_al E v with
      | some (a, b) => some (3, a, b)
      | none => none))
noncomputable def iv_dd (F : Nat → sy_d) (x : sy_v ⊕ sy_a) : sy_d := match x with
  | .inl v => .inl (sy_dv F v)
  | .inr a => .inr (sy_da F a)
theorem iv_du_ok {F : Nat → sy_d} {E : List iv_t} {x : sy_v ⊕ sy_a} {t : iv_t} (hE : iv_in F E) (h : iv_du E x = some t) : iv_has (iv_dd F x) t := by
  unfold iv_du at h
  split at h
  · rename_i v
    split at h
    · rename_i a b hv
      cases h
      obtain ⟨w, e, w1⟩ := iv_i_ok hE hv
      show iv_has (.inl (sy_dv F v)) _
      rw [e]
      exact ⟨rfl, w1⟩
    · split at h
      · rename_i a b hv
        cases h
        obtain ⟨w, e, w1⟩ := iv_l_ok hE hv
        show iv_has (.inl (sy_dv F v)) _
        rw [e]
        exact ⟨rfl, w1⟩
      · cases h
  · rename_i v
    split at h
    · rename_i a b hv
      cases h
      obtain ⟨w, e, w1⟩ := iv_ai_ok hE hv
      show iv_has (.inr (sy_da F v)) _
      rw [e]
      exact ⟨rfl, w1⟩
    · split at h
      · rename_i a b hv
        cases h
        obtain ⟨w, e, w1⟩ := iv_al_ok hE hv
        show iv_has (.inr (sy_da F v)) _
        rw [e]
        exact ⟨rfl, w1⟩
      · cases h
noncomputable def iv_sub (t t' : iv_t) : Bool := Nat.beq t.1 t'.1 && iv_le t'.2.1 t.2.1 && iv_le t.2.2 t'.2.2
theorem iv_sub_ok {d : sy_d} {t t' : iv_t} (h : iv_sub t t' = true) (hd : iv_has d t) : iv_has d t' := by
  obtain ⟨c, a, b⟩ := t
  obtain ⟨c', a', b'⟩ := t'
  simp only [iv_sub, Bool.and_eq_true] at h
  have e : c = c' := Nat.eq_of_beq_eq_true h.1.1
  subst e
  exact iv_wide hd (iv_le_of h.1.2) (iv_le_of h.2)
noncomputable def iv_f0 (E : List iv_t) (x : sy_v ⊕ sy_a) (t : iv_t) : Bool := match iv_du E x with
  | some t1 => iv_sub t1 t
  | none => false
theorem iv_f0_ok {F : Nat → sy_d} {E : List iv_t} {x : sy_v ⊕ sy_a} {t : iv_t} (hE : iv_in F E) (h : iv_f0 E x t = true) : iv_has (iv_dd F x) t := by
  unfold iv_f0 at h
  split at h
  · rename_i t1 h1
    exact iv_sub_ok h (iv_du_ok hE h1)
  · cases h
noncomputable def iv_fits (E : List iv_t) : sy_u → List iv_t → Bool
  | x :: r, t :: q => iv_f0 E x t && iv_fits E r q
  | [], [] => true
  | _, _ => false
theorem iv_fits_at {F : Nat → sy_d} {E : List iv_t} (hE : iv_in F E) : ∀ {u : sy_u} {E' : List iv_t}, iv_fits E u E' = true → ∀ (k : Nat) (t : iv_t), E'[k]? = some t → ∃ x, u[k]? = some x ∧ iv_has (iv_dd F x) t
  | [], [], _, k, t, h => by simp at h
  | x :: r, t0 :: q, hf, 0, t, h => by
    rw [iv_fits, Bool.and_eq_true] at hf
    simp at h
    subst h
    exact ⟨x, rfl, iv_f0_ok hE hf.1⟩
  | x :: r, t0 :: q, hf, k + 1, t, h => by
    rw [iv_fits, Bool.and_eq_true] at hf
    obtain ⟨y, h1, h2⟩ := iv_fits_at hE hf.2 k t (by simpa using h)
    exact ⟨y, by simpa using h1, h2⟩
  | [], t0 :: q, hf, k, t, h => by cases hf
  | x :: r, [], hf, k, t, h => by cases hf
theorem iv_cm_at {F : Nat → sy_d} {u : sy_u} {k : Nat} {x : sy_v ⊕ sy_a} (h : u[k]? = some x) : sy_cm F u k = iv_dd F x := by
  unfold sy_cm
  rw [h]
  cases x <;> rfl
theorem iv_fits_ok {F : Nat → sy_d} {E : List iv_t} {u : sy_u} {E' : List iv_t} (hE : iv_in F E) (h : iv_fits E u E' = true) : iv_in (sy_cm F u) E' := by
  intro k t hk
  obtain ⟨x, h1, h2⟩ := iv_fits_at hE h k t hk
  rw [iv_cm_at h1]
  exact h2
/-- a cell's symbol that stands for itself -/
noncomputable def iv_sm (E : List iv_t) (k : Nat) (x : sy_v ⊕ sy_a) : Bool := match x with
  | .inl (.inr (.inl j)) => Nat.beq j k && (iv_k E k 0).isSome
  | .inl (.inr (.inr j)) => Nat.beq j k && (iv_k E k 1).isSome
  | .inr (.inr (.inl j)) => Nat.beq j k && (iv_k E k 2).isSome
  | .inr (.inr (.inr j)) => Nat.beq j k && (iv_k E k 3).isSome
  | _ => false
theorem iv_sm_ok {F : Nat → sy_d} {E : List iv_t} {k : Nat} {x : sy_v ⊕ sy_a} (hE : iv_in F E) (h : iv_sm E k x = true) : iv_dd F x = F k := by
  unfold iv_sm at h
  split at h
  · rename_i j
    rw [Bool.and_eq_true] at h
    have e : j = k := Nat.eq_of_beq_eq_true h.1
    subst e
    obtain ⟨⟨a, b⟩, hk⟩ := Option.isSome_iff_exists.mp h.2
    obtain ⟨v, hv, -⟩ := iv_h0 (iv_k_ok hE hk)
    rw [hv]
    simp only [iv_dd, sy_dv, sy_i, hv]
  · rename_i j
    rw [Bool.and_eq_true] at h
    have e : j = k := Nat.eq_of_beq_eq_true h.1
    subst e
    obtain ⟨⟨a, b⟩, hk⟩ := Option.isSome_iff_exists.mp h.2
    obtain ⟨v, hv, -⟩ := iv_h1 (iv_k_ok hE hk)
    rw [hv]
    simp only [iv_dd, sy_dv, sy_l, hv]
  · rename_i j
    rw [Bool.and_eq_true] at h
    have e : j = k := Nat.eq_of_beq_eq_true h.1
    subst e
    obtain ⟨⟨a, b⟩, hk⟩ := Option.isSome_iff_exists.mp h.2
    obtain ⟨v, hv, -⟩ := iv_h2 (iv_k_ok hE hk)
    rw [hv]
    simp only [iv_dd, sy_da, sy_ai, hv]
  · rename_i j
    rw [Bool.and_eq_true] at h
    have e : j = k := Nat.eq_of_beq_eq_true h.1
    subst e
    obtain ⟨⟨a, b⟩, hk⟩ := Option.isSome_iff_exists.mp h.2
    obtain ⟨v, hv, -⟩ := iv_h3 (iv_k_ok hE hk)
    rw [hv]
    simp only [iv_dd, sy_da, sy_al, hv]
  · cases h
noncomputable def iv_frm (Wr : List Nat) (E : List iv_t) : Nat → Nat → sy_u → Bool
  | _, 0, _ => true
  | k, n + 1, x :: r => (Wr.contains k || iv_sm E k x) && iv_frm Wr E (k + 1) n r
  | _, _ + 1, [] => false
theorem iv_frm_at {F : Nat → sy_d} {E : List iv_t} {Wr : List Nat} (hE : iv_in F E) : ∀ {n k : Nat} {u : sy_u}, iv_frm Wr E k n u = true → ∀ j, j < n → Wr.contains (k + j) = false → ∃ x, u[j]? = some x ∧ iv_dd F x = F (k + j)
  | 0, k, u, _, j, hj, _ => by omega
  | n + 1, k, [], h, j, hj, _ => by cases h
  | n + 1, k, x :: r, h, 0, hj, hw => by
    rw [iv_frm, Bool.and_eq_true] at h
    rw [Nat.add_zero] at hw ⊢
    rw [hw, Bool.false_or] at h
    exact ⟨x, rfl, iv_sm_ok hE h.1⟩
  | n + 1, k, x :: r, h, j + 1, hj, hw => by
    rw [iv_frm, Bool.and_eq_true] at h
    obtain ⟨y, h1, h2⟩ := iv_frm_at hE h.2 j (by omega) (by rw [← hw]; congr 1; omega)
    exact ⟨y, by simpa using h1, by rw [h2]; congr 1; omega⟩
theorem iv_frm_ok {F : Nat → sy_d} {E : List iv_t} {Wr : List Nat} {n : Nat} {u : sy_u} (hE : iv_in F E) (h : iv_frm Wr E 0 n u = true) (k : Nat) (hk : k < n) (hw : Wr.contains k = false) : sy_cm F u k = F k := by
  obtain ⟨x, h1, h2⟩ := iv_frm_at hE h k hk (by rw [Nat.zero_add]; exact hw)
  rw [iv_cm_at h1, h2, Nat.zero_add]
/-! what grows less: a sum of numbers -/
abbrev iv_rk : Type := Int × List (Int × Nat)
noncomputable def iv_sv (F : Nat → sy_d) : List (Int × Nat) → Int
  | [] => 0
  | q :: r => q.1 * (sy_i F q.2).toInt + iv_sv F r
noncomputable def iv_rv (F : Nat → sy_d) (r : iv_rk) : Int := r.1 + iv_sv F r.2
noncomputable def iv_lo (E : List iv_t) : List (Int × Nat) → Option Int
  | [] => some 0
  | q :: r => (match iv_k E q.2 0, iv_lo E r with
    | some (a, b), some n => some ((if 0 ≤ q.1 then q.1 * a else q.1 * b) + n)
    | _, _ => none)
noncomputable def iv_hi (E : List iv_t) : List (Int × Nat) → Option Int
  | [] => some 0
  | q :: r => (match iv_k E q.2 0, iv_hi E r with
    | some (a, b), some n => some ((if 0 ≤ q.1 then q.1 * b else q.1 * a) + n)
    | _, _ => none)
theorem iv_lo_ok {F : Nat → sy_d} {E : List iv_t} (hE : iv_in F E) : ∀ {l : List (Int × Nat)} {n : Int}, iv_lo E l = some n → n ≤ iv_sv F l
  | [], n, h => by simp only [iv_lo] at h; cases h; exact Int.le_refl _
  | q :: r, n, h => by
    rw [iv_lo] at h
    split at h
    · rename_i a b m hk hm
      cases h
      obtain ⟨v, hv, v1, v2⟩ := iv_h0 (iv_k_ok hE hk)
      have ih := iv_lo_ok hE hm
      rw [iv_sv]
      have e : sy_i F q.2 = v := by simp only [sy_i, hv]
      rw [e]
      have : (if 0 ≤ q.1 then q.1 * a else q.1 * b) ≤ q.1 * v.toInt := by
        split
        · rename_i h0
          exact Int.mul_le_mul_of_nonneg_left v1 h0
        · rename_i h0
          exact Int.mul_le_mul_of_nonpos_left (by omega) v2
      omega
    · cases h
theorem iv_hi_ok {F : Nat → sy_d} {E : List iv_t} (hE : iv_in F E) : ∀ {l : List (Int × Nat)} {n : Int}, iv_hi E l = some n → iv_sv F l ≤ n
  | [], n, h => by simp only [iv_hi] at h; cases h; exact Int.le_refl _
  | q :: r, n, h => by
    rw [iv_hi] at h
    split at h
    · rename_i a b m hk hm
      cases h
      obtain ⟨v, hv, v1, v2⟩ := iv_h0 (iv_k_ok hE hk)
      have ih := iv_hi_ok hE hm
      rw [iv_sv]
      have e : sy_i F q.2 = v := by simp only [sy_i, hv]
      rw [e]
      have : q.1 * v.toInt ≤ (if 0 ≤ q.1 then q.1 * b else q.1 * a) := by
        split
        · rename_i h0
          exact Int.mul_le_mul_of_nonneg_left v2 h0
        · rename_i h0
          exact Int.mul_le_mul_of_nonpos_left (by omega) v1
      omega
    · cases h
theorem iv_sv_app (F : Nat → sy_d) : ∀ (l m : List (Int × Nat)), iv_sv F (l ++ m) = iv_sv F l + iv_sv F m
  | [], m => by simp [iv_sv]
  | q :: r, m => by rw [List.cons_append, iv_sv, iv_sv, iv_sv_app F r m]; omega
noncomputable def iv_scl (w : Int) (l : List (Int × Nat)) : List (Int × Nat) := l.map fun q => (w * q.1, q.2)
theorem iv_sv_scl (F : Nat → sy_d) (w : Int) : ∀ l : List (Int × Nat), iv_sv F (iv_scl w l) = w * iv_sv F l
  | [] => by simp [iv_sv, iv_scl]
  | q :: r => by
    have ih := iv_sv_scl F w r
    simp only [iv_scl, List.map_cons, iv_sv] at ih ⊢
    rw [ih, Int.mul_add, Int.mul_assoc]
noncomputable def iv_add1 (q : Int × Nat) : List (Int × Nat) → List (Int × Nat)
  | [] => [q]
  | p :: r => bif Nat.beq p.2 q.2 then (p.1 + q.1, p.2) :: r else p :: iv_add1 q r
theorem iv_sv_add1 (F : Nat → sy_d) (q : Int × Nat) : ∀ l : List (Int × Nat), iv_sv F (iv_add1 q l) = q.1 * (sy_i F q.2).toInt + iv_sv F l
  | [] => rfl
  | p :: r => by
    rw [iv_add1]
    cases h : Nat.beq p.2 q.2 with
    | true =>
      have e := Nat.eq_of_beq_eq_true h
      dsimp only [cond]
      rw [iv_sv, iv_sv]
      dsimp only
      rw [← e, Int.add_mul]
      omega
    | false =>
      dsimp only [cond]
      rw [iv_sv, iv_sv, iv_sv_add1 F q r]
      omega
noncomputable def iv_nrm : List (Int × Nat) → List (Int × Nat)
  | [] => []
  | q :: r => iv_add1 q (iv_nrm r)
theorem iv_sv_nrm (F : Nat → sy_d) : ∀ l : List (Int × Nat), iv_sv F (iv_nrm l) = iv_sv F l
  | [] => rfl
  | q :: r => by rw [iv_nrm, iv_sv_add1, iv_sv_nrm F r, iv_sv]
/-- a number as a sum of others -/
noncomputable def iv_lin (nv : Nat) (T : List sy_e) (E : List iv_t) : Nat → sy_v → Option (Int × List (Int × Nat))
  | _, .inl (.int v) => some (v.toInt, [])
  | 0, .inr (.inl k) => some (0, [(1, k)])
  | n + 1, .inr (.inl k) => bif Nat.blt k nv then some (0, [(1, k)]) else (match T[k - nv]? with
    | some (op, [x, y], []) => (match iv_i E x, iv_i E y, iv_lin nv T E n x, iv_lin nv T E n y with
      | some (a, b), some (c, d), some (p, l), some (q, m) =>
        if op = 0 ∧ -2147483648 ≤ a + c ∧ b + d ≤ 2147483647 then some (p + q, l ++ m)
        else if op = 1 ∧ -2147483648 ≤ a - d ∧ b - c ≤ 2147483647 then some (p - q, l ++ iv_scl (-1) m)
        else some (0, [(1, k)])
      | _, _, _, _ => some (0, [(1, k)]))
    | _ => some (0, [(1, k)]))
  | _, _ => none
theorem iv_one (F : Nat → sy_d) (k : Nat) : (sy_i F k).toInt = 0 + iv_sv F [(1, k)] := by simp [iv_sv]
theorem iv_lin_ok {F : Nat → sy_d} {nv : Nat} {T : List sy_e} {E : List iv_t} (hE : iv_in F E) (hs : sy_sat F nv T) : ∀ (n : Nat) (x : sy_v) (p : Int) (l : List (Int × Nat)), iv_lin nv T E n x = some (p, l) → ∃ v, sy_dv F x = .int v ∧ v.toInt = p + iv_sv F l := by
  intro n
  induction n with
  | zero =>
    intro x p l h
    unfold iv_lin at h
    split at h
    · cases h; exact ⟨_, rfl, by simp [iv_sv]⟩
    · cases h; exact ⟨_, rfl, iv_one F _⟩
    · exfalso; omega
    · cases h
  | succ n ih =>
    intro x p l h
    unfold iv_lin at h
    split at h
    · cases h; exact ⟨_, rfl, by simp [iv_sv]⟩
    · exfalso; omega
    · rename_i n' k hn
      cases hn
      cases hb : Nat.blt k nv with
      | true => rw [hb] at h; cases h; exact ⟨_, rfl, iv_one F _⟩
      | false =>
        rw [hb] at h
        dsimp only [cond] at h
        have hge : nv ≤ k := by
          have : ¬ k + 1 ≤ nv := fun q => by
            have := Nat.ble_eq_true_of_le q
            rw [Nat.blt] at hb
            rw [this] at hb
            cases hb
          omega
        split at h
        · rename_i op x y hT
          split at h
          · rename_i a b c d p1 l1 q1 m1 hx hy hlx hly
            obtain ⟨v, e1, v1, v2⟩ := iv_i_ok hE hx
            obtain ⟨w, e2, w1, w2⟩ := iv_i_ok hE hy
            obtain ⟨v', e3, v3⟩ := ih x p1 l1 hlx
            obtain ⟨w', e4, w3⟩ := ih y q1 m1 hly
            rw [e1] at e3
            cases e3
            rw [e2] at e4
            cases e4
            have hF := hs (k - nv) _ hT
            rw [show nv + (k - nv) = k by omega] at hF
            have hsem : sy_sem F (op, [x, y], []) = .inl (sy_o2 op (sy_dv F x) (sy_dv F y)) := rfl
            rw [hsem, e1, e2] at hF
            split at h
            · rename_i hc
              cases h
              have h0 : sy_o2 op (.int v) (.int w) = .int (v + w) := by rw [hc.1]; rfl
              rw [h0] at hF
              refine ⟨v + w, by simp only [sy_dv, sy_i, hF], ?_⟩
              rw [Jvm.Kit.i32_add (by omega) (by omega), iv_sv_app]
              omega
            · split at h
              · rename_i hc
                cases h
                have h0 : sy_o2 op (.int v) (.int w) = .int (v - w) := by rw [hc.1]; rfl
                rw [h0] at hF
                refine ⟨v - w, by simp only [sy_dv, sy_i, hF], ?_⟩
                rw [Jvm.Kit.i32_sub (by omega) (by omega), iv_sv_app, iv_sv_scl]
                omega
              · cases h; exact ⟨_, rfl, iv_one F _⟩
          · cases h; exact ⟨_, rfl, iv_one F _⟩
        · cases h; exact ⟨_, rfl, iv_one F _⟩
    · cases h
/-- a sum at a place, in the numbers of the run that led there -/
noncomputable def iv_tl (nv : Nat) (T : List sy_e) (E : List iv_t) (u : sy_u) : List (Int × Nat) → Option iv_rk
  | [] => some (0, [])
  | q :: r => (match u[q.2]? with
    | some (.inl v) => (match iv_lin nv T E 20 v, iv_tl nv T E u r with
      | some (p, l), some (p1, l1) => some (q.1 * p + p1, iv_scl q.1 l ++ l1)
      | _, _ => none)
    | _ => none)
theorem iv_tl_ok {F : Nat → sy_d} {nv : Nat} {T : List sy_e} {E : List iv_t} {u : sy_u} (hE : iv_in F E) (hs : sy_sat F nv T) : ∀ {m : List (Int × Nat)} {p : Int} {l : List (Int × Nat)}, iv_tl nv T E u m = some (p, l) → iv_sv (sy_cm F u) m = p + iv_sv F l
  | [], p, l, h => by simp only [iv_tl] at h; cases h; simp [iv_sv]
  | q :: r, p, l, h => by
    rw [iv_tl] at h
    split at h
    · rename_i v hv
      split at h
      · rename_i p0 l0 p1 l1 h0 h1
        cases h
        have ih := iv_tl_ok hE hs h1
        obtain ⟨w, e1, w1⟩ := iv_lin_ok hE hs 20 v p0 l0 h0
        rw [iv_sv, ih, iv_sv_app, iv_sv_scl]
        have hk : sy_i (sy_cm F u) q.2 = w := by
          simp only [sy_i, iv_cm_at hv, iv_dd, e1]
        rw [hk, w1, Int.mul_add]
        omega
      · cases h
    · cases h
noncomputable def iv_dec (nv : Nat) (T : List sy_e) (E : List iv_t) (u : sy_u) (rk rk' : iv_rk) : Bool := match iv_tl nv T E u rk'.2 with
  | some (p, l) => (match iv_hi E (iv_nrm (l ++ iv_scl (-1) rk.2)) with
    | some n => decide (rk'.1 + p - rk.1 + n ≤ -1)
    | none => false)
  | none => false
theorem iv_dec_ok {F : Nat → sy_d} {nv : Nat} {T : List sy_e} {E : List iv_t} {u : sy_u} {rk rk' : iv_rk} (hE : iv_in F E) (hs : sy_sat F nv T) (h : iv_dec nv T E u rk rk' = true) : iv_rv (sy_cm F u) rk' < iv_rv F rk := by
  unfold iv_dec at h
  split at h
  · rename_i p l h1
    split at h
    · rename_i n h2
      have h3 := of_decide_eq_true h
      have a1 := iv_tl_ok hE hs h1
      have a2 := iv_hi_ok hE h2
      rw [iv_sv_nrm, iv_sv_app, iv_sv_scl] at a2
      unfold iv_rv
      rw [a1]
      omega
    · cases h
  · cases h
