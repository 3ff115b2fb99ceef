/-! ===== the heap, with symbols ===== -/
def sy_gt (G : sy_h) (k : Nat) : Option sy_c := if k < 8 then none else if k < 1000 then (match G.1 with
    | .inl l => l[k - 8]?
    | .inr _ => none) else (match G.2 with
    | .inl l => l[k - 1000]?
    | .inr _ => none)
def sy_sg (g : sy_g) (i : Nat) (c : sy_c) : sy_g := match g with
  | .inl l => .inl (l.set i c)
  | .inr u => .inr u
def sy_st (G : sy_h) (k : Nat) (c : sy_c) : sy_h := if k < 1000 then (sy_sg G.1 (k - 8) c, G.2) else (G.1, sy_sg G.2 (k - 1000) c)
theorem sy_gt_ok {F : Nat → sy_d} {X1 X2 : List jm_c} {G : sy_h} {k : Nat} {c : sy_c} (h : sy_gt G k = some c) : jm_g (sy_dh F X1 X2 G) k = some (sy_dc F c) := by
  unfold sy_gt at h
  unfold jm_g
  split at h
  · cases h
  · rename_i h8
    rw [if_neg h8]
    split at h
    · rename_i h9
      rw [if_pos h9]
      split at h
      · rename_i l hl
        simp only [sy_dh, sy_dg, hl, List.getElem?_map, h, Option.map_some]
      · cases h
    · rename_i h9
      rw [if_neg h9]
      split at h
      · rename_i l hl
        simp only [sy_dh, sy_dg, hl, List.getElem?_map, h, Option.map_some]
      · cases h
theorem sy_st_ok {F : Nat → sy_d} {X1 X2 : List jm_c} {G : sy_h} {k : Nat} {c0 c : sy_c} (h : sy_gt G k = some c0) : jm_s (sy_dh F X1 X2 G) k (sy_dc F c) = sy_dh F X1 X2 (sy_st G k c) := by
  unfold sy_gt at h
  unfold jm_s sy_st
  split at h
  · cases h
  · split at h
    · rename_i h9
      rw [if_pos h9, if_pos h9]
      split at h
      · rename_i l hl
        simp only [sy_dh, sy_dg, hl, sy_sg, List.map_set]
      · cases h
    · rename_i h9
      rw [if_neg h9, if_neg h9]
      split at h
      · rename_i l hl
        simp only [sy_dh, sy_dg, hl, sy_sg, List.map_set]
      · cases h
/-- arrays of ints, of longs -/
def sy_ak (a : sy_a) : Nat := match a with
  | .inl (.inl _) => 0
  | .inl (.inr _) => 1
  | .inr (.inl _) => 0
  | .inr (.inr _) => 1
theorem sy_ak0 {F : Nat → sy_d} {a : sy_a} (h : sy_ak a = 0) : ∃ l, sy_da F a = .inl l := by
  unfold sy_ak at h
  split at h <;> first | exact ⟨_, rfl⟩ | (exfalso; omega)
theorem sy_ak1 {F : Nat → sy_d} {a : sy_a} (h : sy_ak a = 1) : ∃ l, sy_da F a = .inr l := by
  unfold sy_ak at h
  split at h <;> first | exact ⟨_, rfl⟩ | (exfalso; omega)
theorem sy_ak01 (a : sy_a) : sy_ak a = 0 ∨ sy_ak a = 1 := by
  unfold sy_ak
  split <;> simp
/-- what an array of which the writes are known holds at a place -/
def sy_rs (nv : Nat) (T : List sy_e) : Nat → sy_a → Nat → Option sy_v
  | 0, _, _ => none
  | n + 1, a, i => match a with
    | .inl (.inl l) => some (.inl (.int (l.getD i 0)))
    | .inl (.inr l) => some (.inl (.long (l.getD i 0)))
    | .inr (.inl k) => if nv ≤ k then (match T[k - nv]? with
      | some (_, [.inl (.int j), x], [b]) => if sy_ak b = 0 ∧ sy_ty x = 0 then (if j.toNatClampNeg = i then some x else sy_rs nv T n b i) else none
      | _ => none) else none
    | .inr (.inr k) => if nv ≤ k then (match T[k - nv]? with
      | some (_, [.inl (.int j), x], [b]) => if sy_ak b = 1 ∧ sy_ty x = 1 then (if j.toNatClampNeg = i then some x else sy_rs nv T n b i) else none
      | _ => none) else none
theorem sy_rs_ok {F : Nat → sy_d} {nv : Nat} {T : List sy_e} (hs : sy_sat F nv T) : ∀ (n : Nat) (a : sy_a) (i : Nat) (x : sy_v) (v : Int32), sy_rs nv T n a i = some x → v.toNatClampNeg = i → sy_rd (sy_da F a) (.int v) = sy_dv F x := by
  intro n
  induction n with
  | zero => intro a i x v h; cases h
  | succ n ih =>
    intro a i x v h hv
    unfold sy_rs at h
    split at h
    · cases h
      subst hv
      rfl
    · cases h
      subst hv
      rfl
    · rename_i k
      split at h
      · rename_i hk
        split at h
        · rename_i op j y b hT
          split at h
          · rename_i hc
            have he := hs (k - nv) _ hT
            rw [show nv + (k - nv) = k by omega] at he
            obtain ⟨lb, hlb⟩ := sy_ak0 (F := F) hc.1
            obtain ⟨z, hz⟩ := sy_ty0 (F := F) hc.2
            have hF : sy_ai F k = jm_upd lb j.toNatClampNeg z := by
              simp [sy_ai, he, sy_sem, hlb, hz, sy_dvl, sy_up]
            have hL : sy_rd (sy_da F (.inr (.inl k))) (.int v) = .int ((jm_upd lb j.toNatClampNeg z).getD v.toNatClampNeg 0) := by
              simp only [sy_da, sy_rd, hF]
            rw [hL, jm_upd_at]
            split at h
            · rename_i hji
              cases h
              rw [if_pos (by rw [hv, hji]), hz]
            · rename_i hji
              rw [if_neg (by rw [hv]; exact fun e => hji e.symm)]
              have := ih b i x v h hv
              rw [hlb] at this
              exact this
          · cases h
        · cases h
      · cases h
    · rename_i k
      split at h
      · rename_i hk
        split at h
        · rename_i op j y b hT
          split at h
          · rename_i hc
            have he := hs (k - nv) _ hT
            rw [show nv + (k - nv) = k by omega] at he
            obtain ⟨lb, hlb⟩ := sy_ak1 (F := F) hc.1
            obtain ⟨z, hz⟩ := sy_ty1 (F := F) hc.2
            have hF : sy_al F k = jm_updL lb j.toNatClampNeg z := by
              simp [sy_al, he, sy_sem, hlb, hz, sy_dvl, sy_up]
            have hL : sy_rd (sy_da F (.inr (.inr k))) (.int v) = .long ((jm_updL lb j.toNatClampNeg z).getD v.toNatClampNeg 0) := by
              simp only [sy_da, sy_rd, hF]
            rw [hL, jm_updL_at]
            split at h
            · rename_i hji
              cases h
              rw [if_pos (by rw [hv, hji]), hz]
            · rename_i hji
              rw [if_neg (by rw [hv]; exact fun e => hji e.symm)]
              have := ih b i x v h hv
              rw [hlb] at this
              exact this
          · cases h
        · cases h
      · cases h
/-- a place read -/
def sy_re (nv : Nat) (a : sy_a) (i : sy_v) (T : List sy_e) : sy_v × List sy_e :=
  match (match i with
    | .inl (.int v) => sy_rs nv T 100 a v.toNatClampNeg
    | _ => none) with
  | some x => (x, T)
  | none => (if sy_ak a = 0 then .inr (.inl (nv + T.length)) else .inr (.inr (nv + T.length)), T ++ [(30, [i], [a])])
theorem sy_re_pre {nv : Nat} {a : sy_a} {i z : sy_v} {T T1 : List sy_e} (h : sy_re nv a i T = (z, T1)) : ∃ r, T1 = T ++ r := by
  unfold sy_re at h
  split at h <;> cases h
  · exact ⟨[], (List.append_nil _).symm⟩
  · exact ⟨_, rfl⟩
theorem sy_re_ok {F : Nat → sy_d} {nv : Nat} {a : sy_a} {i z : sy_v} {T T1 r : List sy_e} {v : Int32} (h : sy_re nv a i T = (z, T1)) (hs : sy_sat F nv (T1 ++ r)) (hi : sy_dv F i = .int v) : sy_dv F z = sy_rd (sy_da F a) (.int v) := by
  unfold sy_re at h
  split at h
  · rename_i x hx
    cases h
    split at hx
    · rename_i w
      cases hi
      exact (sy_rs_ok (sy_sat_pre hs) 100 a _ z v hx rfl).symm
    · cases hx
  · cases h
    rcases sy_ak01 a with e | e
    · obtain ⟨l, hl⟩ := sy_ak0 (F := F) e
      have := sy_new (ty := sy_ak a) (v := sy_rd (sy_da F a) (.int v)) hs (by simp [sy_sem, hi]) (Or.inl ⟨e, _, by rw [hl]; rfl⟩)
      exact this
    · obtain ⟨l, hl⟩ := sy_ak1 (F := F) e
      have := sy_new (ty := sy_ak a) (v := sy_rd (sy_da F a) (.int v)) hs (by simp [sy_sem, hi]) (Or.inr ⟨by omega, _, by rw [hl]; rfl⟩)
      exact this
/-- a place written -/
def sy_wr (nv : Nat) (a : sy_a) (i x : sy_v) (T : List sy_e) : sy_a × List sy_e := match a, i, x with
  | .inl l, .inl v, .inl w => (.inl (sy_up l v w), T)
  | _, _, _ => (if sy_ak a = 0 then .inr (.inl (nv + T.length)) else .inr (.inr (nv + T.length)), T ++ [(40, [i, x], [a])])
theorem sy_wr_pre {nv : Nat} {a b : sy_a} {i x : sy_v} {T T1 : List sy_e} (h : sy_wr nv a i x T = (b, T1)) : ∃ r, T1 = T ++ r := by
  unfold sy_wr at h
  split at h <;> cases h
  · exact ⟨[], (List.append_nil _).symm⟩
  · exact ⟨_, rfl⟩
theorem sy_wr_ok {F : Nat → sy_d} {nv : Nat} {a b : sy_a} {i x : sy_v} {T T1 r : List sy_e} (h : sy_wr nv a i x T = (b, T1)) (hs : sy_sat F nv (T1 ++ r)) : sy_da F b = sy_up (sy_da F a) (sy_dv F i) (sy_dv F x) := by
  unfold sy_wr at h
  split at h
  · cases h; rfl
  · cases h
    have he := sy_sat_last hs
    have hsem : sy_sem F (40, [i, x], [a]) = .inr (sy_up (sy_da F a) (sy_dv F i) (sy_dv F x)) := rfl
    rw [hsem] at he
    rcases sy_ak01 a with e | e
    · obtain ⟨l, hl⟩ := sy_ak0 (F := F) e
      rw [if_pos e]
      have h2 : ∃ l2, sy_up (sy_da F a) (sy_dv F i) (sy_dv F x) = .inl l2 := by
        rw [hl]
        unfold sy_up
        split <;> first | exact ⟨_, rfl⟩ | (rename_i h3 _ _; cases h3) | (rename_i h3; cases h3)
      obtain ⟨l2, h2⟩ := h2
      rw [h2] at he ⊢
      simp [sy_da, sy_ai, he]
    · obtain ⟨l, hl⟩ := sy_ak1 (F := F) e
      rw [if_neg (by omega)]
      have h2 : ∃ l2, sy_up (sy_da F a) (sy_dv F i) (sy_dv F x) = .inr l2 := by
        rw [hl]
        unfold sy_up
        split <;> first | exact ⟨_, rfl⟩ | (rename_i h3 _ _; cases h3) | (rename_i h3; cases h3)
      obtain ⟨l2, h2⟩ := h2
      rw [h2] at he ⊢
      simp [sy_da, sy_al, he]
/-- an index within -/
def sy_bd (i : sy_v) (N : Nat) (P : List sy_p) : Option (List sy_p) := match i with
  | .inl (.int v) => bif jm_out v N then none else some P
  | .inr (.inl k) => some (P ++ [(6, .inr (.inl k), .inl (.ref N))])
  | _ => none
theorem sy_bd_ok {i : sy_v} {N : Nat} {P P1 : List sy_p} (h : sy_bd i N P = some P1) : (∃ r, P1 = P ++ r) ∧ ∀ F : Nat → sy_d, (∀ p ∈ P1, sy_ps F p) → ∃ v, sy_dv F i = .int v ∧ jm_out v N = false := by
  unfold sy_bd at h
  split at h
  · rename_i v
    cases ho : jm_out v N with
    | true => rw [ho] at h; cases h
    | false =>
      rw [ho] at h
      cases h
      exact ⟨⟨[], (List.append_nil _).symm⟩, fun F _ => ⟨v, rfl, ho⟩⟩
  · rename_i k
    cases h
    exact ⟨⟨_, rfl⟩, fun F hp => ⟨sy_i F k, rfl, hp _ (List.mem_append_right _ List.mem_cons_self)⟩⟩
  · cases h
/-- a value that a field of a type may hold -/
def sy_pv (tc : Nat) (v : sy_v) (P : List sy_p) : Option (List sy_p) := match v with
  | .inl w => bif jm_pv tc w then some P else none
  | .inr (.inl k) => if tc = 0 then some P else if tc = 1 then some (P ++ [(6, .inr (.inl k), .inl (.int 0))]) else none
  | .inr (.inr _) => if tc = 2 then some P else none
theorem sy_pv_ok {tc : Nat} {v : sy_v} {P P1 : List sy_p} (h : sy_pv tc v P = some P1) : (∃ r, P1 = P ++ r) ∧ ∀ F : Nat → sy_d, (∀ p ∈ P1, sy_ps F p) → jm_pv tc (sy_dv F v) = true := by
  unfold sy_pv at h
  split at h
  · rename_i w
    cases ho : jm_pv tc w with
    | false => rw [ho] at h; cases h
    | true =>
      rw [ho] at h
      cases h
      exact ⟨⟨[], (List.append_nil _).symm⟩, fun F _ => ho⟩
  · rename_i k
    split at h
    · rename_i h0
      cases h
      exact ⟨⟨[], (List.append_nil _).symm⟩, fun F _ => by simp [sy_dv, jm_pv, h0]⟩
    · split at h
      · rename_i h1
        cases h
        refine ⟨⟨_, rfl⟩, fun F hp => ?_⟩
        have h2 : sy_i F k = 0 ∨ sy_i F k = 1 := hp _ (List.mem_append_right _ List.mem_cons_self)
        simp only [sy_dv, jm_pv, h1]
        rcases h2 with e | e <;> rw [e] <;> decide
      · cases h
  · split at h
    · rename_i h2
      cases h
      exact ⟨⟨[], (List.append_nil _).symm⟩, fun F _ => by simp [sy_dv, jm_pv, h2]⟩
    · cases h
