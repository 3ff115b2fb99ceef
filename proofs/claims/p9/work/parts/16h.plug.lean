/-! ===== what stays true beside the bounds ===== -/
theorem zz_ai {F : Nat → sy_d} {k : Nat} {l : List Int32} (h : F k = .inr (.inl l)) : sy_ai F k = l := by
  unfold sy_ai
  rw [h]
theorem zz_al {F : Nat → sy_d} {k : Nat} {l : List Int64} (h : F k = .inr (.inr l)) : sy_al F k = l := by
  unfold sy_al
  rw [h]
theorem zz_i {F : Nat → sy_d} {k : Nat} {v : Int32} (h : F k = .inl (.int v)) : sy_i F k = v := by
  unfold sy_i
  rw [h]
theorem zz_l {F : Nat → sy_d} {k : Nat} {v : Int64} (h : F k = .inl (.long v)) : sy_l F k = v := by
  unfold sy_l
  rw [h]
/-- of the class: a token that is a number has at most four digits -/
noncomputable def jx_ok (F : Nat → sy_d) : Prop := ∀ j : Nat, (sy_ai F 39).getD j 0 = 24 → 0 ≤ ((sy_al F 41).getD j 0).toInt ∧ ((sy_al F 41).getD j 0).toInt ≤ 9999
/-- of the reference: a law's code never takes from an empty pile -/
noncomputable def rp_go (code cint : List Int32) : Nat → Nat → Nat → Prop
  | 0, _, _ => True
  | n + 1, c, d => ((code.getD c 0).toInt < 2 → ((code.getD c 0).toInt = 1 → 0 ≤ (cint.getD c 0).toInt ∧ (cint.getD c 0).toInt ≤ 8) ∧ rp_go code cint n (c + 1) (d + 1)) ∧ (2 ≤ (code.getD c 0).toInt → 2 ≤ d ∧ rp_go code cint n (c + 1) (d - 1))
noncomputable def rp_seg (code cint : List Int32) (x y : Int32) : Prop := y.toInt ≤ x.toInt + 400 ∧ rp_go code cint (y.toInt - x.toInt).toNat x.toInt.toNat 0
/-- codes from x to y, of the side sd, below nc -/
noncomputable def rp_sg (sd : Nat) (nc : Int) (code cint : List Int32) (x y : Int32) : Prop := (420 * sd : Int) ≤ x.toInt ∧ y.toInt ≤ nc ∧ rp_seg code cint x y
noncomputable def rp_br (F : Nat → sy_d) (sd : Nat) (nc : Int) (b : Nat) : Prop :=
  ((sy_ai F 44).getD b 0 = 1 → rp_sg sd nc (sy_ai F 49) (sy_ai F 50) ((sy_ai F 45).getD b 0) ((sy_ai F 46).getD b 0) ∧ rp_sg sd nc (sy_ai F 49) (sy_ai F 50) ((sy_ai F 46).getD b 0) ((sy_ai F 47).getD b 0)) ∧
  rp_sg sd nc (sy_ai F 49) (sy_ai F 50) ((sy_ai F 47).getD b 0) ((sy_ai F 48).getD b 0)
noncomputable def rp_S (F : Nat → sy_d) (sd : Nat) (nb nc : Int) : Prop := ∀ k b : Nat, k < 6 → ((sy_ai F 42).getD (6 * sd + k) 0).toInt ≤ b → (b : Int) < ((sy_ai F 43).getD (6 * sd + k) 0).toInt →
  ((130 * sd : Int) ≤ b ∧ (b : Int) < nb) ∧ rp_br F sd nc b
noncomputable def jm_rpn (F : Nat → sy_d) : Prop := rp_S F (sy_i F 11).toNatClampNeg (130 * (sy_i F 11).toNatClampNeg + 130) (420 * (sy_i F 11).toNatClampNeg + 420)
theorem jm_rpn_at {F : Nat → sy_d} (h : jm_rpn F) {k b : Nat} (hk : k < 6) (h1 : ((sy_ai F 42).getD (6 * (sy_i F 11).toNatClampNeg + k) 0).toInt ≤ b) (h2 : (b : Int) < ((sy_ai F 43).getD (6 * (sy_i F 11).toNatClampNeg + k) 0).toInt) :
    ((sy_ai F 44).getD b 0 = 1 → rp_seg (sy_ai F 49) (sy_ai F 50) ((sy_ai F 45).getD b 0) ((sy_ai F 46).getD b 0) ∧ rp_seg (sy_ai F 49) (sy_ai F 50) ((sy_ai F 46).getD b 0) ((sy_ai F 47).getD b 0)) ∧
    rp_seg (sy_ai F 49) (sy_ai F 50) ((sy_ai F 47).getD b 0) ((sy_ai F 48).getD b 0) := by
  obtain ⟨-, a, b⟩ := h k b hk h1 h2
  exact ⟨fun q => ⟨(a q).1.2.2, (a q).2.2.2⟩, b.2.2⟩
noncomputable def jj_fp : List Nat := [11, 42, 43, 44, 45, 46, 47, 48, 49, 50]
noncomputable def jj (s : Nat) (F : Nat → sy_d) : Prop := if s = 4 then jm_rpn F else jx_ok F
theorem jm_rpn_eq {F F' : Nat → sy_d} (h : ∀ q ∈ jj_fp, F' q = F q) (hj : jm_rpn F) : jm_rpn F' := by
  have e : ∀ q ∈ jj_fp, sy_ai F' q = sy_ai F q ∧ sy_i F' q = sy_i F q := fun q hq => ⟨by simp only [sy_ai, h q hq], by simp only [sy_i, h q hq]⟩
  unfold jm_rpn rp_S rp_br
  rw [(e 42 (by decide)).1, (e 43 (by decide)).1, (e 44 (by decide)).1, (e 45 (by decide)).1, (e 46 (by decide)).1, (e 47 (by decide)).1, (e 48 (by decide)).1, (e 49 (by decide)).1, (e 50 (by decide)).1, (e 11 (by decide)).2]
  exact hj
theorem jx_ok_eq {F F' : Nat → sy_d} (h1 : F' 39 = F 39) (h2 : F' 41 = F 41) (hj : jx_ok F) : jx_ok F' := by
  unfold jx_ok
  have e1 : sy_ai F' 39 = sy_ai F 39 := by simp only [sy_ai, h1]
  have e2 : sy_al F' 41 = sy_al F 41 := by simp only [sy_al, h2]
  rw [e1, e2]
  exact hj
noncomputable def jx_a (i : sy_v) (nv : Nat) (T : List sy_e) (p : sy_p) : Bool := match p with
  | (0, .inr (.inl s), .inl (.int c)) => decide (c = 24) && Nat.ble nv s && (match (T[s - nv]? : Option sy_e) with
    | some (30, [i'], [.inr (.inl k)]) => Nat.beq k 39 && sy_bv i i'
    | _ => false)
  | _ => false
noncomputable def jx_r (nv : Nat) (A : List sy_p) (T : List sy_e) (e : sy_e) : Option iv_t := match e with
  | (30, [.inr (.inl i)], [.inr (.inr k)]) => bif Nat.beq k 41 && A.any (jx_a (.inr (.inl i)) nv T) then some (1, 0, 9999) else none
  | _ => none
noncomputable def jx_w (nv : Nat) (T : List sy_e) (E : List iv_t) (u : sy_u) : Bool := match (u[39]? : Option (sy_v ⊕ sy_a)) with
  | some (.inr (.inr (.inl s))) => Nat.ble nv s && (match (T[s - nv]? : Option sy_e) with
    | some (40, [.inr (.inl i), v], [.inr (.inl k)]) => Nat.beq k 39 && (match iv_i E v, iv_i E (.inr (.inl i)) with
      | some (a, b), some _ => decide (b < 24) || decide (24 < a)
      | _, _ => false) && (match (u[41]? : Option (sy_v ⊕ sy_a)) with
      | some (.inr (.inr (.inr s2))) => (Nat.beq s2 41 && iv_sm E 41 (.inr (.inr (.inr s2)))) || (Nat.ble nv s2 && (match (T[s2 - nv]? : Option sy_e) with
        | some (40, [.inr (.inl i2), w], [.inr (.inr k2)]) => Nat.beq k2 41 && Nat.beq i2 i && (match iv_l E w with
          | some _ => true
          | none => false)
        | _ => false))
      | _ => false)
    | _ => false)
  | _ => false
noncomputable def jj_pl : iv_pl := (fun s nv A T e => if s = 4 then none else jx_r nv A T e, fun s t nv T E u => if s = 4 then Nat.beq t 4 && iv_fpc E u jj_fp else !Nat.beq t 4 && (iv_fpc E u [39, 41] || jx_w nv T E u))
theorem jx_r_ok {nv : Nat} {A : List sy_p} {T : List sy_e} {F : Nat → sy_d} {E : List iv_t} {e : sy_e} {t : iv_t} (hs : sy_sat F nv T) (hA : ∀ p ∈ A, sy_ps F p) (hj : jx_ok F) (h : jx_r nv A T e = some t) : iv_has (sy_sem F e) t := by
  unfold jx_r at h
  split at h
  · rename_i i k
    cases hb : (Nat.beq k 41 && A.any (jx_a (.inr (.inl i)) nv T)) with
    | false => rw [hb] at h; cases h
    | true =>
      rw [hb] at h
      cases h
      rw [Bool.and_eq_true] at hb
      have hk : k = 41 := Nat.eq_of_beq_eq_true hb.1
      subst hk
      obtain ⟨p, hp, hp2⟩ := List.any_eq_true.mp hb.2
      have hps := hA p hp
      unfold jx_a at hp2
      split at hp2
      · rename_i s c
        simp only [Bool.and_eq_true] at hp2
        obtain ⟨⟨hc, hle⟩, hT⟩ := hp2
        have hc := of_decide_eq_true hc
        subst hc
        have hle := Nat.le_of_ble_eq_true hle
        split at hT
        · rename_i i' k' hTs
          rw [Bool.and_eq_true] at hT
          have hk : k' = 39 := Nat.eq_of_beq_eq_true hT.1
          subst hk
          have e1 := sy_bv_ok hT.2
          subst e1
          have hF := hs (s - nv) _ hTs
          rw [show nv + (s - nv) = s by omega] at hF
          have h24 : sy_i F s = 24 := hps
          have hv : sy_i F s = (sy_ai F 39).getD (sy_i F i).toNatClampNeg 0 := by
            simp only [sy_i] at hF ⊢
            rw [hF]
            rfl
          rw [h24] at hv
          have := hj _ hv.symm
          exact ⟨rfl, this.1, this.2⟩
        · cases hT
      · cases hp2
  · cases h
theorem jx_w_ok {nv : Nat} {T : List sy_e} {F : Nat → sy_d} {E : List iv_t} {u : sy_u} (hE : iv_in F E) (hs : sy_sat F nv T) (hj : jx_ok F) (h : jx_w nv T E u = true) : jx_ok (sy_cm F u) := by
  unfold jx_w at h
  split at h
  · rename_i s hu
    rw [Bool.and_eq_true] at h
    have hle := Nat.le_of_ble_eq_true h.1
    have h := h.2
    split at h
    · rename_i i v k hT
      simp only [Bool.and_eq_true] at h
      obtain ⟨⟨hk, hv⟩, h41⟩ := h
      have hk : k = 39 := Nat.eq_of_beq_eq_true hk
      subst hk
      split at hv
      · rename_i a b q hva hia
        obtain ⟨x, ex, x1, x2⟩ := iv_i_ok hE hva
        have hF := hs (s - nv) _ hT
        rw [show nv + (s - nv) = s by omega] at hF
        have e39 : sy_ai (sy_cm F u) 39 = jm_upd (sy_ai F 39) (sy_i F i).toNatClampNeg x := by
          have hFs : F s = .inr (.inl (jm_upd (sy_ai F 39) (sy_i F i).toNatClampNeg x)) := by
            rw [hF]
            show (.inr (sy_up (.inl (sy_ai F 39)) (.int (sy_i F i)) (sy_dv F v)) : sy_d) = _
            rw [ex]
            rfl
          refine zz_ai ?_
          rw [iv_cm_at hu]
          show (.inr (.inl (sy_ai F s)) : sy_d) = _
          rw [zz_ai hFs]
        have hx : ¬ x = 24 := by
          intro hx
          rw [hx] at x1 x2
          have h24 : (24 : Int32).toInt = 24 := by decide
          rw [h24] at x1 x2
          rw [Bool.or_eq_true] at hv
          rcases hv with hv | hv
          · have := of_decide_eq_true hv; omega
          · have := of_decide_eq_true hv; omega
        have e41 : ∀ j, ¬ j = (sy_i F i).toNatClampNeg → (sy_al (sy_cm F u) 41).getD j 0 = (sy_al F 41).getD j 0 := by
          intro j hne
          split at h41
          · rename_i s2 hu2
            rw [Bool.or_eq_true] at h41
            rcases h41 with h41 | h41
            · rw [Bool.and_eq_true] at h41
              have := iv_sm_ok hE h41.2
              have hcm := iv_cm_at (F := F) hu2
              rw [this] at hcm
              simp only [sy_al, hcm]
            · rw [Bool.and_eq_true] at h41
              have hle2 := Nat.le_of_ble_eq_true h41.1
              have h41 := h41.2
              split at h41
              · rename_i i2 w k2 hT2
                simp only [Bool.and_eq_true] at h41
                obtain ⟨⟨hk2, hi2⟩, hw⟩ := h41
                have hk2 : k2 = 41 := Nat.eq_of_beq_eq_true hk2
                subst hk2
                have hi2 : i2 = i := Nat.eq_of_beq_eq_true hi2
                subst hi2
                split at hw
                · rename_i q2 hl
                  obtain ⟨y, ey, -⟩ := iv_l_ok hE hl
                  have hF2 := hs (s2 - nv) _ hT2
                  rw [show nv + (s2 - nv) = s2 by omega] at hF2
                  have hFs : F s2 = .inr (.inr (jm_updL (sy_al F 41) (sy_i F i2).toNatClampNeg y)) := by
                    rw [hF2]
                    show (.inr (sy_up (.inr (sy_al F 41)) (.int (sy_i F i2)) (sy_dv F w)) : sy_d) = _
                    rw [ey]
                    rfl
                  have e : sy_al (sy_cm F u) 41 = jm_updL (sy_al F 41) (sy_i F i2).toNatClampNeg y := by
                    refine zz_al ?_
                    rw [iv_cm_at hu2]
                    show (.inr (.inr (sy_al F s2)) : sy_d) = _
                    rw [zz_al hFs]
                  rw [e, jm_updL_at, if_neg hne]
                · cases hw
              · cases h41
          · cases h41
        intro j h24
        rw [e39, jm_upd_at] at h24
        split at h24
        · exact absurd h24 hx
        · rename_i hne
          rw [e41 j hne]
          exact hj j h24
      · cases hv
    · cases h
  · cases h
theorem jj_plok : iv_plok jj jj_pl := by
  refine ⟨fun s F F' h hj => ?_, fun s nv A T F E hE hl hs hA hj e t h => ?_, fun s t nv T E u F hE hs hj h => ?_⟩
  · unfold jj at hj ⊢
    split
    · rename_i h4
      rw [if_pos h4] at hj
      subst h4
      exact jm_rpn_eq (fun q hq => h q (by revert q; decide)) hj
    · rename_i h4
      rw [if_neg h4] at hj
      exact jx_ok_eq (h 39 (jx_lt h4).1) (h 41 (jx_lt h4).2) hj
  · unfold jj at hj
    simp only [jj_pl] at h
    split at h
    · cases h
    · rename_i h4
      rw [if_neg h4] at hj
      exact jx_r_ok (E := E) hs hA hj h
  · unfold jj at hj ⊢
    simp only [jj_pl] at h
    split at h
    · rename_i h4
      rw [if_pos h4] at hj
      rw [Bool.and_eq_true] at h
      rw [if_pos (Nat.eq_of_beq_eq_true h.1)]
      exact jm_rpn_eq (iv_fpc_ok hE h.2) hj
    · rename_i h4
      rw [if_neg h4] at hj
      rw [Bool.and_eq_true, Bool.or_eq_true] at h
      have ht : ¬ t = 4 := fun e => by rw [e] at h; simp at h
      rw [if_neg ht]
      rcases h.2 with h | h
      · exact jx_ok_eq (iv_fpc_ok hE h 39 (by decide)) (iv_fpc_ok hE h 41 (by decide)) hj
      · exact jx_w_ok hE hs hj h
