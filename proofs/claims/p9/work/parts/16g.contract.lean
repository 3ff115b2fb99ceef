/-! ===== contracts within bounds, and how a method is held to one ===== -/
abbrev iv_c : Type := Nat × Nat × List (Option sy_v) × List sy_v × List iv_t × iv_rk × Option Nat × List iv_q
abbrev iv_ct : Type := Nat × List sy_v × Nat × List Nat × List iv_t × List Nat × List iv_t × Option iv_t × Nat
noncomputable def ic_s (k : iv_c) : Nat := k.1
noncomputable def ic_pc (k : iv_c) : Nat := k.2.1
noncomputable def ic_L (k : iv_c) : List (Option sy_v) := k.2.2.1
noncomputable def ic_S (k : iv_c) : List sy_v := k.2.2.2.1
noncomputable def ic_E (k : iv_c) : List iv_t := k.2.2.2.2.1
noncomputable def ic_r (k : iv_c) : iv_rk := k.2.2.2.2.2.1
noncomputable def ic_k (k : iv_c) : Option Nat := k.2.2.2.2.2.2.1
noncomputable def ic_q (k : iv_c) : List iv_q := k.2.2.2.2.2.2.2
noncomputable def ct_m (c : iv_ct) : Nat := c.1
noncomputable def ct_A (c : iv_ct) : List sy_v := c.2.1
noncomputable def ct_s (c : iv_ct) : Nat := c.2.2.1
noncomputable def ct_t (c : iv_ct) : List Nat := c.2.2.2.1
noncomputable def ct_t1 (c : iv_ct) : Nat := (ct_t c).headD 0
noncomputable def ct_E (c : iv_ct) : List iv_t := c.2.2.2.2.1
noncomputable def ct_W (c : iv_ct) : List Nat := c.2.2.2.2.2.1
noncomputable def ct_F (c : iv_ct) : List iv_t := c.2.2.2.2.2.2.1
noncomputable def ct_r (c : iv_ct) : Option iv_t := c.2.2.2.2.2.2.2.1
noncomputable def ct_d (c : iv_ct) : Nat := c.2.2.2.2.2.2.2.2
noncomputable def iv_ro (v : Option Value) (r : Option iv_t) : Prop := match v, r with
  | none, none => True
  | some v, some t => iv_has (.inl v) t
  | _, _ => False
noncomputable def ct_P (JJ : Nat → (Nat → sy_d) → Prop) (c : iv_ct) (F : Nat → sy_d) (X1 X2 : List jm_c) : Option Value → jm_h → Prop := fun v G =>
  ∃ (t : Nat) (F' : Nat → sy_d), t ∈ ct_t c ∧ G = sy_dh F' X1 X2 (iv_H t) ∧ (∀ k, k < iv_nh (ct_s c) → (ct_W c).contains k = false → F' k = F k) ∧ iv_in F' (ct_F c) ∧ iv_ro v (ct_r c) ∧ JJ t F'
/-- the method is held to the contract -/
noncomputable def ct_ok (JJ : Nat → (Nat → sy_d) → Prop) (c : iv_ct) : Prop := ∀ (M : jm_M), jm_TB[ct_m c]? = some M → ∀ (Ls : Nat) (xs : Nat → Int32) (F : Nat → sy_d) (X1 X2 : List jm_c), iv_in F (ct_E c) → JJ (ct_s c) F →
  jm_T Ls xs (ct_d c) M ((ct_A c).map (sy_dv F)) (sy_dh F X1 X2 (iv_H (ct_s c))) 0 0 (ct_P JJ c F X1 X2)
noncomputable def iv_fpc (E : List iv_t) (u : sy_u) (l : List Nat) : Bool := l.all fun q => match u[q]? with
  | some x => iv_sm E q x
  | none => false
theorem iv_fpc_ok {F : Nat → sy_d} {E : List iv_t} {u : sy_u} {l : List Nat} (hE : iv_in F E) (h : iv_fpc E u l = true) : ∀ q ∈ l, sy_cm F u q = F q := by
  intro q hq
  have h1 := List.all_eq_true.mp h q hq
  split at h1
  · rename_i x hx
    rw [iv_cm_at hx]
    exact iv_sm_ok hE h1
  · cases h1
/-- what stays true beside the bounds: a plug for reading, a plug for what a run leaves -/
abbrev iv_pl : Type := (Nat → Nat → List sy_p → List sy_e → sy_e → Option iv_t) × (Nat → Nat → Nat → List sy_e → List iv_t → sy_u → Bool)
noncomputable def iv_plok (JJ : Nat → (Nat → sy_d) → Prop) (g : iv_pl) : Prop :=
  (∀ s F F', (∀ q, q < iv_nh s → F' q = F q) → JJ s F → JJ s F') ∧
  (∀ s nv A T F E, iv_in F E → E.length = nv → sy_sat F nv T → (∀ p ∈ A, sy_ps F p) → JJ s F → ∀ e t, g.1 s nv A T e = some t → iv_has (sy_sem F e) t) ∧
  (∀ s t nv T E u F, iv_in F E → sy_sat F nv T → JJ s F → g.2 s t nv T E u = true → JJ t (sy_cm F u))
noncomputable def iv_at (g : iv_pl) (s : Nat) (c : iv_ct) (nv : Nat) (rk : Option iv_rk) (T : List sy_e) (E1 : List iv_t) (k : iv_c) (L1 : List (Option sy_v)) (S1 : List sy_v) (uh ul : sy_u) : Bool :=
  Nat.beq uh.length (iv_nh (ct_s c)) && g.2 s (ic_s k) nv T E1 (uh ++ ul) && sy_bl (zz_mo (iv_nh (ct_s c)) ul) (ic_L k) L1 && sy_bl (zz_mv (iv_nh (ct_s c)) ul) (ic_S k) S1 && iv_ff (ct_W c) E1 0 E1 uh (ic_E k) && iv_fits E1 ul ((ic_E k).drop uh.length) && (match rk with
    | some r => iv_dec nv T E1 (uh ++ ul) r (ic_r k)
    | none => true)
noncomputable def iv_rr (E : List iv_t) (v : Option sy_v) (r : Option iv_t) : Bool := match v, r with
  | none, none => true
  | some v, some t => iv_f0 E (.inl v) t
  | _, _ => false
theorem iv_rr_ok {F : Nat → sy_d} {E : List iv_t} {v : Option sy_v} {r : Option iv_t} (hE : iv_in F E) (h : iv_rr E v r = true) : iv_ro (v.map (sy_dv F)) r := by
  unfold iv_rr at h
  split at h
  · exact trivial
  · exact iv_f0_ok hE h
  · cases h
noncomputable def iv_rt (g : iv_pl) (s : Nat) (c : iv_ct) (nv : Nat) (T : List sy_e) (t : Nat) (E1 : List iv_t) (v : Option sy_v) (uh : sy_u) : Bool :=
  Nat.beq uh.length (iv_nh (ct_s c)) && g.2 s t nv T E1 (uh ++ []) && iv_ff (ct_W c) E1 0 E1 uh (ct_F c) && iv_fits E1 [] ((ct_F c).drop uh.length) && iv_rr E1 v (ct_r c)
noncomputable def iv_end (g : iv_pl) (s : Nat) (c : iv_ct) (cuts : List iv_c) (nv : Nat) (rk : Option iv_rk) (T : List sy_e) (E1 : List iv_t) (w : zz_r) : Bool := match w with
  | .inl (pc1, L1, S1, G1) => cuts.any fun k => Nat.beq (ic_pc k) pc1 && (match zz_mh (iv_H (ic_s k)) G1 with
    | some uh => iv_at g s c nv rk T E1 k L1 S1 uh (zz_vp (iv_nh (ct_s c)) (zz_pr (ic_L k) L1 ++ (ic_S k).zip S1))
    | none => false)
  | .inr (v, G1) => (ct_t c).any fun t => (match zz_mh (iv_H t) G1 with
    | some uh => iv_rt g s c nv T t E1 v uh
    | none => false)
noncomputable def iv_lf (g : iv_pl) (c : iv_ct) (cuts : List iv_c) (M : jm_M) (nv : Nat) (f : Bool) (s pc : Nat) (L : List (Option sy_v)) (S : List sy_v) (E : List iv_t) (rk : Option iv_rk) (A : List sy_p) (O : List Bool) : Option (List sy_e) :=
  match zz_go jm_TB nv (cuts.map ic_pc) [] 3000 (ct_d c - 1) M f pc L S (iv_H s) ([], [], O) with
  | some (w, T, P, _) => (match iv_env (g.1 s nv A) nv T A E with
    | some E1 => bif P.all (fun p => A.any (sy_bp p) || iv_pp E1 p) && iv_end g s c cuts nv rk T E1 w then some T else none
    | none => none)
  | none => none
noncomputable def iv_ab (g : iv_pl) (s nv : Nat) (E : List iv_t) (A : List sy_p) (T : List sy_e) : Bool := match iv_env (g.1 s nv A) nv T A E with
  | some E1 => iv_no E1
  | none => false
noncomputable def iv_st0 (g : iv_pl) (c : iv_ct) (cuts : List iv_c) (M : jm_M) (nv : Nat) (f : Bool) (s pc : Nat) (L : List (Option sy_v)) (S : List sy_v) (E : List iv_t) (rk : Option iv_rk) (its : List iv_q) : Bool :=
  Nat.beq E.length nv && (Nat.ble 1 (ct_d c) && Nat.ble (iv_nh (ct_s c)) nv && Nat.ble (iv_nh s) nv) && sy_sw nv L S (iv_H s) && (match rk with
    | some r => r.2.all fun q => Nat.blt q.2 nv
    | none => true) && (match iv_tr nv (iv_lf g c cuts M nv f s pc L S E rk) (iv_ab g s nv E) 4000 its [] with
    | some ([], _) => true
    | _ => false)
noncomputable def iv_st (g : iv_pl) (c : iv_ct) (cuts : List iv_c) (M : jm_M) (nv : Nat) (f : Bool) (s pc : Nat) (L : List (Option sy_v)) (S : List sy_v) (E : List iv_t) (rk : Option iv_rk) (its : List iv_q) : Bool :=
  fz_n nv fun nv => fz_n pc fun pc => fz_L L fun L => fz_k S fun S => fz_E E fun E => iv_st0 g c cuts M nv f s pc L S E rk its
theorem iv_in_eq {F F' : Nat → sy_d} {E : List iv_t} (hE : iv_in F E) (h : ∀ k, k < E.length → F' k = F k) : iv_in F' E := by
  intro k t hk
  rw [h k (List.getElem?_eq_some_iff.mp hk).1]
  exact hE k t hk
theorem iv_sv_eq {F F' : Nat → sy_d} : ∀ {l : List (Int × Nat)}, (∀ q ∈ l, F' q.2 = F q.2) → iv_sv F' l = iv_sv F l
  | [], _ => rfl
  | q :: r, h => by
    rw [iv_sv, iv_sv, iv_sv_eq (fun z hz => h z (List.mem_cons_of_mem _ hz)), sy_i, h q List.mem_cons_self]
    rfl
set_option maxHeartbeats 4000000 in
theorem iv_st_ok {JJ : Nat → (Nat → sy_d) → Prop} {g : iv_pl} (hg : iv_plok JJ g) {c : iv_ct} {cuts : List iv_c} {M : jm_M} {nv : Nat} {f : Bool} {s pc : Nat} {L : List (Option sy_v)} {S : List sy_v} {E : List iv_t} {rk : Option iv_rk} {its : List iv_q} {Ls : Nat} {xs : Nat → Int32} (htc : jm_tck jm_YN M 0 (jm_tb M) = true) (h : iv_st g c cuts M nv f s pc L S E rk its = true) {F F0 : Nat → sy_d} (hE : iv_in F E) (hJ : JJ s F) (hfr : ∀ k, k < iv_nh (ct_s c) → (ct_W c).contains k = false → F k = F0 k) (X1 X2 : List jm_c)
    {p : Program} {l : Launch} {e : Env} {ss : State} {m : MethodId} {args : Array Value} {below : List Frame} {meth : Method} {cc : Code} {D : va_G} {h0 : Nat} {ex : Nat → Nat} {ka : Nat → ClassId} {G0 : jm_h} {Post : Option Value → jm_h → Prop} (C0 : jm_C p ss m args meth cc D h0 ex ka Ls xs M (jm_len G0))
    (hK : ∀ k ∈ cuts, ∀ F' : Nat → sy_d, JJ (ic_s k) F' → iv_in F' (ic_E k) → (∀ j, j < iv_nh (ct_s c) → (ct_W c).contains j = false → F' j = F0 j) → (∀ r, rk = some r → iv_rv F' (ic_r k) < iv_rv F r) → jm_W p l e (jm_room (ct_d c) 0 0) ss m args below meth cc D h0 ex ka M (jm_len G0) (MQ below (jm_Qc D h0 ex ka 0 G0 Post) args ss 0 0 (fun q => h0 ≤ q)) (ic_pc k, sy_dL F' (ic_L k), sy_dS F' (ic_S k), sy_dh F' X1 X2 (iv_H (ic_s k)), 0, 0))
    (hP : ∀ (v : Option Value) (F' : Nat → sy_d) (t : Nat), JJ t F' → t ∈ ct_t c → iv_in F' (ct_F c) → (∀ j, j < iv_nh (ct_s c) → (ct_W c).contains j = false → F' j = F0 j) → iv_ro v (ct_r c) → Post v (sy_dh F' X1 X2 (iv_H t))) :
    jm_W p l e (jm_room (ct_d c) 0 0) ss m args below meth cc D h0 ex ka M (jm_len G0) (MQ below (jm_Qc D h0 ex ka 0 G0 Post) args ss 0 0 (fun q => h0 ≤ q)) (pc, sy_dL F L, sy_dS F S, sy_dh F X1 X2 (iv_H s), 0, 0) := by
  unfold iv_st at h
  rw [fz_n_eq, fz_n_eq, fz_L_eq, fz_k_eq, fz_E_eq] at h
  unfold iv_st0 at h
  simp only [Bool.and_eq_true] at h
  obtain ⟨⟨⟨⟨hl, ⟨hd, hnh⟩, hsn⟩, hsw⟩, hrs⟩, ht⟩ := h
  have hsn := Nat.le_of_ble_eq_true hsn
  have hl := Nat.eq_of_beq_eq_true hl
  have hnh := Nat.le_of_ble_eq_true hnh
  have hd := Nat.le_of_ble_eq_true hd
  split at ht
  · rename_i Tc htr
    obtain ⟨-, key⟩ := iv_tr_ok _ _ _ _ _ htr
    obtain ⟨F', A, T, f1, f2, f3, f4⟩ := key F [] Tc rfl (fun k e hk => by simp at hk) (fun _ hq => absurd hq List.not_mem_nil)
    rw [List.length_nil, Nat.add_zero] at f1
    have hE' : iv_in F' E := iv_in_eq hE (fun k hk => f1 k (by omega))
    have hJ' : JJ s F' := hg.1 s F F' (fun q hq => f1 q (by have := hsn; omega)) hJ
    rcases f4 with ⟨O, hO⟩ | hab
    · unfold iv_lf at hO
      split at hO
      · rename_i w T1 P O1 hgo
        split at hO
        · rename_i E1 hE1
          cases hb : (P.all (fun p => A.any (sy_bp p) || iv_pp E1 p) && iv_end g s c cuts nv rk T1 E1 w) with
          | false => rw [hb] at hO; cases hO
          | true =>
            rw [hb] at hO
            cases hO
            rw [Bool.and_eq_true] at hb
            have hE2 : iv_in F' E1 := iv_env_ok hE' f2 f3 (hg.2.1 s nv A _ F' E hE' hl f2 f3 hJ') hE1
            have hPs : ∀ p ∈ P, sy_ps F' p := by
              intro p hp
              have := List.all_eq_true.mp hb.1 p hp
              rw [Bool.or_eq_true] at this
              rcases this with q | q
              · obtain ⟨p', hp', he⟩ := List.any_eq_true.mp q
                rw [sy_bp_ok he]
                exact f3 p' hp'
              · exact iv_pp_ok hE2 q
            obtain ⟨-, -, a3⟩ := zz_go_ok (Ls := Ls) (xs := xs) jm_TBok jm_hYN 3000 (ct_d c - 1) _ _ M f pc L S _ _ w _ htc hgo
            obtain ⟨e1, e2, e3⟩ := sy_sw_ok (X1 := X1) (X2 := X2) hsw f1
            rw [← e1, ← e2, ← e3]
            refine a3 F' X1 X2 [] (by rw [List.append_nil]; exact f2) hPs C0 (by omega) ?_
            have hend := hb.2
            unfold iv_end at hend
            split at hend
            · rename_i pc1 L1 S1 G1
              obtain ⟨k, hk, hk2⟩ := List.any_eq_true.mp hend
              rw [Bool.and_eq_true] at hk2
              have hpc := Nat.eq_of_beq_eq_true hk2.1
              have hat := hk2.2
              split at hat
              · rename_i uh hmh
                generalize zz_vp (iv_nh (ct_s c)) (zz_pr (ic_L k) L1 ++ (ic_S k).zip S1) = ul at hat
                unfold iv_at at hat
                simp only [Bool.and_eq_true] at hat
                obtain ⟨⟨⟨⟨⟨⟨b1, b0⟩, b2⟩, b3⟩, b4⟩, b5⟩, b6⟩ := hat
                have b1 := Nat.eq_of_beq_eq_true b1
                obtain ⟨q1, q2⟩ := iv_both hE2 b4 b5
                show jm_W p l e _ ss m args below meth cc D h0 ex ka M _ _ (pc1, sy_dL F' L1, sy_dS F' S1, sy_dh F' X1 X2 G1, 0, 0)
                refine jm_W_weak (sy_mo_ok (F := F') (sy_bl_mono (fun a b h => zz_mo_ok b1 h) b2)) ?_
                have eS : sy_dS (sy_cm F' (uh ++ ul)) (ic_S k) = sy_dS F' S1 := sy_bl_map (fun _ _ h => sy_mv_ok h) (sy_bl_mono (fun a b h => zz_mv_ok b1 h) b3)
                rw [← eS, ← zz_mh_ok hmh F' X1 X2 ul, ← hpc]
                refine hK k hk _ (hg.2.2 s _ nv _ E1 _ F' hE2 f2 hJ' b0) q1 (fun j hj hw => ?_) (fun r hr => ?_)
                · rw [q2 j (by omega) hw, f1 j (by omega)]
                  exact hfr j hj hw
                · subst hr
                  have h1 := iv_dec_ok hE2 f2 b6
                  have h2 : iv_rv F' r = iv_rv F r := by
                    unfold iv_rv
                    rw [iv_sv_eq (fun q hq => f1 q.2 (Nat.le_of_ble_eq_true (List.all_eq_true.mp hrs q hq)))]
                  rw [← h2]
                  exact h1
              · cases hat
            · rename_i v G1
              obtain ⟨t, ht2, hend⟩ := List.any_eq_true.mp hend
              split at hend
              · rename_i uh hmh
                unfold iv_rt at hend
                simp only [Bool.and_eq_true] at hend
                obtain ⟨⟨⟨⟨b1, b0⟩, b4⟩, b5⟩, b6⟩ := hend
                have b1 := Nat.eq_of_beq_eq_true b1
                obtain ⟨q1, q2⟩ := iv_both hE2 b4 b5
                show Post (v.map (sy_dv F')) (sy_dh F' X1 X2 G1)
                rw [← zz_mh_ok hmh F' X1 X2 []]
                refine hP _ _ t (hg.2.2 s t nv _ E1 _ F' hE2 f2 hJ' b0) ht2 q1 (fun j hj hw => ?_) (iv_rr_ok hE2 b6)
                rw [q2 j (by omega) hw, f1 j (by omega)]
                exact hfr j hj hw
              · cases hend
        · cases hO
      · cases hO
    · unfold iv_ab at hab
      split at hab
      · rename_i E1 hE1
        exact (iv_no_ok (iv_env_ok hE' f2 f3 (hg.2.1 s nv A _ F' E hE' hl f2 f3 hJ') hE1) hab).elim
      · cases hab
  · cases ht
/-! a call by a contract -/
noncomputable def iv_id : Nat → List iv_t → sy_u
  | _, [] => []
  | k, t :: r => (bif Nat.beq t.1 0 then .inl (.inr (.inl k)) else bif Nat.beq t.1 1 then .inl (.inr (.inr k)) else bif Nat.beq t.1 2 then .inr (.inr (.inl k)) else .inr (.inr (.inr k))) :: iv_id (k + 1) r
theorem iv_id_at : ∀ {E : List iv_t} {n k : Nat} {t : iv_t}, E[k]? = some t → (iv_id n E)[k]? = some (bif Nat.beq t.1 0 then .inl (.inr (.inl (n + k))) else bif Nat.beq t.1 1 then .inl (.inr (.inr (n + k))) else bif Nat.beq t.1 2 then .inr (.inr (.inl (n + k))) else .inr (.inr (.inr (n + k))))
  | [], n, k, t, h => by simp at h
  | a :: r, n, 0, t, h => by
    simp at h
    subst h
    rfl
  | a :: r, n, k + 1, t, h => by
    have := iv_id_at (E := r) (n := n + 1) (k := k) (t := t) (by simpa using h)
    rw [show n + 1 + k = n + (k + 1) by omega] at this
    simpa [iv_id] using this
theorem iv_id_len : ∀ (E : List iv_t) (n : Nat), (iv_id n E).length = E.length
  | [], _ => rfl
  | a :: r, n => by rw [iv_id, List.length_cons, List.length_cons, iv_id_len r]
theorem iv_id_ok {F : Nat → sy_d} {E : List iv_t} {nh q : Nat} {ua : sy_u} (hE : iv_in F E) (hn : nh ≤ E.length) (hq : q < nh) : sy_cm F (iv_id 0 (E.take nh) ++ ua) q = F q := by
  have hl : q < E.length := by omega
  have h1 : E[q]? = some E[q] := List.getElem?_eq_getElem hl
  have h2 : (E.take nh)[q]? = some E[q] := by rw [List.getElem?_take, if_pos hq]; exact h1
  have h3 := iv_id_at (n := 0) h2
  have h4 := hE q _ h1
  rw [Nat.zero_add] at h3
  have h5 : (iv_id 0 (E.take nh) ++ ua)[q]? = (iv_id 0 (E.take nh))[q]? := List.getElem?_append_left (by rw [iv_id_len, List.length_take]; omega)
  rw [h3] at h5
  generalize E[q] = t at h4 h5
  obtain ⟨c, a, b⟩ := t
  have hc : c = 0 ∨ c = 1 ∨ c = 2 ∨ c = 3 := by
    unfold iv_has at h4
    split at h4
    · exact Or.inl h4.1
    · exact Or.inr (Or.inl h4.1)
    · exact Or.inr (Or.inr (Or.inl h4.1))
    · exact Or.inr (Or.inr (Or.inr h4.1))
    · exact h4.elim
  rcases hc with rfl | rfl | rfl | rfl
  · rw [iv_cm_at h5]
    exact iv_self_ok h4 (show (Nat.beq q q && Nat.beq 0 0) = true by rw [Nat.beq_refl]; rfl)
  · rw [iv_cm_at h5]
    exact iv_self_ok h4 (show (Nat.beq q q && Nat.beq 1 1) = true by rw [Nat.beq_refl]; rfl)
  · rw [iv_cm_at h5]
    exact iv_self_ok h4 (show (Nat.beq q q && Nat.beq 2 2) = true by rw [Nat.beq_refl]; rfl)
  · rw [iv_cm_at h5]
    exact iv_self_ok h4 (show (Nat.beq q q && Nat.beq 3 3) = true by rw [Nat.beq_refl]; rfl)
noncomputable def iv_subs : Nat → List iv_t → List iv_t → Bool
  | 0, _, _ => true
  | n + 1, a :: r, b :: t => iv_sub a b && iv_subs n r t
  | _ + 1, _, _ => false
theorem iv_subs_ok : ∀ {n j : Nat} {E E' : List iv_t} {t : iv_t}, iv_subs n E E' = true → j < n → E'[j]? = some t → ∃ e, E[j]? = some e ∧ iv_sub e t = true
  | 0, j, E, E', t, _, hj, _ => by omega
  | n + 1, j, [], E', t, h, _, _ => by cases h
  | n + 1, j, a :: r, [], t, h, _, _ => by cases h
  | n + 1, 0, a :: r, b :: q, t, h, _, ht => by
    rw [iv_subs, Bool.and_eq_true] at h
    simp at ht
    subst ht
    exact ⟨a, rfl, h.1⟩
  | n + 1, j + 1, a :: r, b :: q, t, h, hj, ht => by
    rw [iv_subs, Bool.and_eq_true] at h
    obtain ⟨e, h1, h2⟩ := iv_subs_ok (j := j) (t := t) h.2 (by omega) (by simpa using ht)
    exact ⟨e, by simpa using h1, h2⟩
noncomputable def iv_mg (W : List Nat) : Nat → Nat → List iv_t → List iv_t → List iv_t
  | _, 0, _, _ => []
  | k, n + 1, a :: r, b :: t => (bif W.contains k then b else a) :: iv_mg W (k + 1) n r t
  | _, _ + 1, _, _ => []
theorem iv_mg_at {W : List Nat} : ∀ {n k j : Nat} {E E' : List iv_t} {t : iv_t}, (iv_mg W k n E E')[j]? = some t → j < n ∧ ((W.contains (k + j) = true ∧ E'[j]? = some t) ∨ (W.contains (k + j) = false ∧ E[j]? = some t))
  | 0, k, j, E, E', t, h => by simp [iv_mg] at h
  | n + 1, k, j, [], E', t, h => by simp [iv_mg] at h
  | n + 1, k, j, a :: r, [], t, h => by simp [iv_mg] at h
  | n + 1, k, 0, a :: r, b :: q, t, h => by
    rw [iv_mg] at h
    simp only [List.getElem?_cons_zero, Option.some.injEq] at h
    refine ⟨by omega, ?_⟩
    rw [Nat.add_zero]
    cases hw : W.contains k with
    | true => rw [hw] at h; exact Or.inl ⟨rfl, by simpa using h⟩
    | false => rw [hw] at h; exact Or.inr ⟨rfl, by simpa using h⟩
  | n + 1, k, j + 1, a :: r, b :: q, t, h => by
    rw [iv_mg] at h
    obtain ⟨h1, h2⟩ := iv_mg_at (n := n) (k := k + 1) (j := j) (by simpa using h)
    refine ⟨by omega, ?_⟩
    rw [show k + (j + 1) = k + 1 + j by omega]
    simpa using h2
noncomputable def iv_hv (nh : Nat) (x : sy_v) : Bool := match x with
  | .inl _ => true
  | .inr (.inl k) => Nat.ble nh k
  | .inr (.inr k) => Nat.ble nh k
noncomputable def iv_ho (nh : Nat) (x : Option sy_v) : Bool := match x with
  | some x => iv_hv nh x
  | none => true
theorem iv_hv_ok {nh nv : Nat} {x : sy_v} {F F' : Nat → sy_d} (h : iv_hv nh x = true) (hw : sy_vw nv x = true) (hF : ∀ k, nh ≤ k → k < nv → F' k = F k) : sy_dv F' x = sy_dv F x := by
  unfold iv_hv at h
  split at h
  · rfl
  · simp only [sy_dv, sy_i, hF _ (Nat.le_of_ble_eq_true h) (Nat.le_of_ble_eq_true hw)]
  · simp only [sy_dv, sy_l, hF _ (Nat.le_of_ble_eq_true h) (Nat.le_of_ble_eq_true hw)]
noncomputable def iv_rs (nv : Nat) (r : Option iv_t) : List sy_v := match r with
  | some (0, _, _) => [.inr (.inl nv)]
  | some (1, _, _) => [.inr (.inr nv)]
  | _ => []
noncomputable def iv_E2 (nh : Nat) (d : iv_ct) (E : List iv_t) : List iv_t := iv_mg (ct_W d) 0 nh E (ct_F d) ++ (E.drop nh ++ (ct_r d).toList)
noncomputable def iv_ca (c d : iv_ct) (k : iv_c) (As rest : List sy_v) (ua : sy_u) : Bool :=
  (Nat.beq (ct_s d) (ic_s k) && Nat.beq (iv_nh (ct_s d)) (iv_nh (ct_s c)) && Nat.beq (iv_nh (ct_t1 d)) (iv_nh (ct_s c)) && Nat.ble (ct_d d + 1) (ct_d c)) && (sy_bl (zz_mv (iv_nh (ct_s c)) ua) (ct_A d) As && iv_subs (iv_nh (ct_s c)) (ic_E k) (ct_E d) && iv_fits (ic_E k) ua ((ct_E d).drop (iv_nh (ct_s c))) && (sy_gw (iv_nh (ct_s c)) (iv_H (ic_s k)).1 && sy_gw (iv_nh (ct_s c)) (iv_H (ic_s k)).2)) &&
  ((ct_W d).all (fun q => (ct_W c).contains q) && (ic_L k).all (iv_ho (iv_nh (ct_s c))) && rest.all (iv_hv (iv_nh (ct_s c))) && (ic_L k).all (sy_ow (ic_E k).length) && rest.all (sy_vw (ic_E k).length)) &&
  ((ic_r k).2.all (fun q => Nat.blt q.2 (ic_E k).length && (Nat.ble (iv_nh (ct_s c)) q.2 || !(ct_W d).contains q.2)) && Nat.ble (iv_nh (ct_s c)) (ic_E k).length && Nat.beq (iv_mg (ct_W d) 0 (iv_nh (ct_s c)) (ic_E k) (ct_F d)).length (iv_nh (ct_s c)) && (sy_gw (iv_nh (ct_s c)) (iv_H (ct_t1 d)).1 && sy_gw (iv_nh (ct_s c)) (iv_H (ct_t1 d)).2 && (ct_t d).all (fun t => Nat.beq t (ct_t1 d))))
noncomputable def iv_cl (g : iv_pl) (cs : List iv_ct) (c : iv_ct) (cuts : List iv_c) (M : jm_M) (k : iv_c) (j : Nat) : Bool := match zz_in M (ic_pc k), cs[j]? with
  | some i, some d => (match zz_c2 jm_TB i (iv_H (ic_s k)) (ic_S k) with
    | some (_, As, rest) => Nat.beq (ct_m d) i.2.2.1 && iv_ca c d k As rest (zz_us (ct_A d) As) &&
      iv_st g c cuts M ((ic_E k).length + (ct_r d).toList.length) false (ct_t1 d) (ic_pc k + 3) (ic_L k) (iv_rs (ic_E k).length (ct_r d) ++ rest) (iv_E2 (iv_nh (ct_s c)) d (ic_E k)) (some (ic_r k)) (ic_q k)
    | none => false)
  | _, _ => false
theorem iv_cf_tb {e : jm_I} {G : sy_h} {S As rest : List sy_v} {M1 : jm_M} (hcf : sy_cf jm_TB e G S = some (M1, As, rest)) : jm_TB[e.2.2.1]? = some M1 := by
  unfold sy_cf at hcf
  split at hcf
  · split at hcf
    · split at hcf
      · rename_i hq
        split at hcf
        · cases hcf; exact hq
        · cases hcf
      · cases hcf
    · cases hcf
  · split at hcf
    · split at hcf
      · rename_i hq
        split at hcf
        · split at hcf
          · split at hcf
            · cases hcf; exact hq
            · cases hcf
          · cases hcf
        · cases hcf
      · cases hcf
    · cases hcf
  · cases hcf
theorem iv_has_v {v : Value} {t : iv_t} (h : iv_has (.inl v) t) : (t.1 = 0 ∧ ∃ x, v = .int x) ∨ (t.1 = 1 ∧ ∃ x, v = .long x) := by
  unfold iv_has at h
  split at h
  · rename_i x he
    cases he
    exact Or.inl ⟨h.1, x, rfl⟩
  · rename_i x he
    cases he
    exact Or.inr ⟨h.1, x, rfl⟩
  · rename_i he; cases he
  · rename_i he; cases he
  · exact h.elim
set_option maxHeartbeats 8000000 in
theorem iv_cl_ok {JJ : Nat → (Nat → sy_d) → Prop} {g : iv_pl} (hg : iv_plok JJ g) {cs : List iv_ct} (hcs : ∀ d ∈ cs, ct_ok JJ d) {c : iv_ct} {cuts : List iv_c} {M : jm_M} {k : iv_c} {j : Nat} {Ls : Nat} {xs : Nat → Int32} (htc : jm_tck jm_YN M 0 (jm_tb M) = true) (h : iv_cl g cs c cuts M k j = true) {F F0 : Nat → sy_d} (hE : iv_in F (ic_E k)) (hfr : ∀ k, k < iv_nh (ct_s c) → (ct_W c).contains k = false → F k = F0 k) (hJ : JJ (ic_s k) F) (X1 X2 : List jm_c)
    {p : Program} {l : Launch} {e : Env} {ss : State} {m : MethodId} {args : Array Value} {below : List Frame} {meth : Method} {cc : Code} {D : va_G} {h0 : Nat} {ex : Nat → Nat} {ka : Nat → ClassId} {G0 : jm_h} {Post : Option Value → jm_h → Prop} (C0 : jm_C p ss m args meth cc D h0 ex ka Ls xs M (jm_len G0))
    (hK : ∀ k' ∈ cuts, ∀ F' : Nat → sy_d, JJ (ic_s k') F' → iv_in F' (ic_E k') → (∀ j, j < iv_nh (ct_s c) → (ct_W c).contains j = false → F' j = F0 j) → iv_rv F' (ic_r k') < iv_rv F (ic_r k) → jm_W p l e (jm_room (ct_d c) 0 0) ss m args below meth cc D h0 ex ka M (jm_len G0) (MQ below (jm_Qc D h0 ex ka 0 G0 Post) args ss 0 0 (fun q => h0 ≤ q)) (ic_pc k', sy_dL F' (ic_L k'), sy_dS F' (ic_S k'), sy_dh F' X1 X2 (iv_H (ic_s k')), 0, 0))
    (hP : ∀ (v : Option Value) (F' : Nat → sy_d) (t : Nat), JJ t F' → t ∈ ct_t c → iv_in F' (ct_F c) → (∀ j, j < iv_nh (ct_s c) → (ct_W c).contains j = false → F' j = F0 j) → iv_ro v (ct_r c) → Post v (sy_dh F' X1 X2 (iv_H t))) :
    jm_W p l e (jm_room (ct_d c) 0 0) ss m args below meth cc D h0 ex ka M (jm_len G0) (MQ below (jm_Qc D h0 ex ka 0 G0 Post) args ss 0 0 (fun q => h0 ≤ q)) (ic_pc k, sy_dL F (ic_L k), sy_dS F (ic_S k), sy_dh F X1 X2 (iv_H (ic_s k)), 0, 0) := by
  unfold iv_cl at h
  simp only [zz_in_eq, zz_c2_eq] at h
  split at h
  · rename_i i d hi hd
    split at h
    · rename_i M1 As rest hcf
      simp only [Bool.and_eq_true] at h
      obtain ⟨⟨hm, hca⟩, hst⟩ := h
      have hm := Nat.eq_of_beq_eq_true hm
      generalize zz_us (ct_A d) As = ua at hca
      unfold iv_ca at hca
      simp only [Bool.and_eq_true] at hca
      obtain ⟨⟨⟨⟨⟨⟨a1, a2⟩, a4⟩, a3⟩, ⟨⟨b1, b2⟩, b3⟩, b4⟩, ⟨⟨⟨c1, c2⟩, c3⟩, c4⟩, c5⟩, ⟨⟨⟨d1, d2⟩, d3⟩, d4⟩⟩ := hca
      have a1 := Nat.eq_of_beq_eq_true a1
      have a2 := Nat.eq_of_beq_eq_true a2
      have a3 := Nat.le_of_ble_eq_true a3
      have a4 := Nat.eq_of_beq_eq_true a4
      have d2 := Nat.le_of_ble_eq_true d2
      have d3 := Nat.eq_of_beq_eq_true d3
      have hTB1 := sy_c2_at hcf
      rw [← hm] at hTB1
      obtain ⟨u, hu⟩ : ∃ u, u = iv_id 0 ((ic_E k).take (iv_nh (ct_s c))) ++ ua := ⟨_, rfl⟩
      have hul : (iv_id 0 ((ic_E k).take (iv_nh (ct_s c)))).length = iv_nh (ct_s c) := by rw [iv_id_len, List.length_take]; omega
      have hFc : ∀ q, q < iv_nh (ct_s c) → sy_cm F u q = F q := fun q hq => by rw [hu]; exact iv_id_ok hE d2 hq
      have eA : (ct_A d).map (sy_dv (sy_cm F u)) = As.map (sy_dv F) := by
        rw [hu]
        exact sy_bl_map (fun _ _ h => sy_mv_ok h) (sy_bl_mono (fun a b h => zz_mv_ok hul h) b1)
      have eH : sy_dh (sy_cm F u) X1 X2 (iv_H (ic_s k)) = sy_dh F X1 X2 (iv_H (ic_s k)) := by simp only [sy_dh, sy_gw_ok b4.1 hFc, sy_gw_ok b4.2 hFc]
      have hEd : iv_in (sy_cm F u) (ct_E d) := by
        intro q t hq
        by_cases hqn : q < iv_nh (ct_s c)
        · rw [hFc q hqn]
          obtain ⟨e', h1, h2⟩ := iv_subs_ok b2 hqn hq
          exact iv_sub_ok h2 (hE q e' h1)
        · obtain ⟨x, h1, h2⟩ := iv_fits_at hE b3 (q - iv_nh (ct_s c)) t (by rw [List.getElem?_drop, show iv_nh (ct_s c) + (q - iv_nh (ct_s c)) = q by omega]; exact hq)
          rw [iv_cm_at (x := x) (by rw [hu, List.getElem?_append_right (by omega), hul]; exact h1)]
          exact h2
      have hT := hcs d (List.mem_of_getElem? hd) M1 hTB1 Ls xs (sy_cm F u) X1 X2 hEd (by rw [a1]; exact hg.1 _ F _ (fun q hq => hFc q (by rw [← a2, a1]; exact hq)) hJ)
      rw [eA, a1, eH] at hT
      refine sy_call_ok jm_TBok jm_hYN C0 (jm_in_ck htc hi) hcf F X1 X2 hT (show ct_d d + 1 ≤ ct_d c by omega) (show 64 * ct_d d + 64 ≤ 64 * ct_d c by omega) (Nat.zero_le _) (Nat.zero_le _) (fun v G1 hq hlen => ?_)
      obtain ⟨t, F', ht, rfl, g1, g2, g3, g4⟩ := hq
      have ht : t = ct_t1 d := Nat.eq_of_beq_eq_true (List.all_eq_true.mp d4.2 t ht)
      subst ht
      have hsub : ∀ q, (ct_W c).contains q = false → (ct_W d).contains q = false := by
        intro q hq
        cases hz : (ct_W d).contains q with
        | false => rfl
        | true =>
          have := List.all_eq_true.mp c1 q (List.contains_iff_mem.mp hz)
          rw [hq] at this
          cases this
      have hF' : ∀ q, q < iv_nh (ct_s c) → (ct_W d).contains q = false → F' q = F q := fun q hq hw => by
        rw [g1 q (by rw [a2]; exact hq) hw]
        exact hFc q hq
      obtain ⟨F2, hF2⟩ : ∃ F2 : Nat → sy_d, F2 = fun q => if q < iv_nh (ct_s c) then F' q else if q < (ic_E k).length then F q else .inl (v.getD .null) := ⟨_, rfl⟩
      have p1 : ∀ q, q < iv_nh (ct_s c) → F2 q = F' q := fun q hq => by rw [hF2]; exact if_pos hq
      have p2 : ∀ q, iv_nh (ct_s c) ≤ q → q < (ic_E k).length → F2 q = F q := fun q hq hq2 => by
        rw [hF2]
        dsimp only
        rw [if_neg (by omega), if_pos hq2]
      have p3 : F2 (ic_E k).length = .inl (v.getD .null) := by
        rw [hF2]
        dsimp only
        rw [if_neg (by omega), if_neg (by omega)]
      have eL : sy_dL F2 (ic_L k) = sy_dL F (ic_L k) := by
        refine List.map_congr_left (fun o ho => ?_)
        have q1 := List.all_eq_true.mp c2 o ho
        have q2 := List.all_eq_true.mp c4 o ho
        cases o with
        | none => rfl
        | some x => rw [Option.map_some, Option.map_some, iv_hv_ok q1 q2 p2]
      have eR : rest.map (sy_dv F2) = rest.map (sy_dv F) := List.map_congr_left (fun x hx => iv_hv_ok (List.all_eq_true.mp c3 x hx) (List.all_eq_true.mp c5 x hx) p2)
      have eV : (iv_rs (ic_E k).length (ct_r d)).map (sy_dv F2) = v.toList := by
        unfold iv_ro at g3
        split at g3
        · rename_i hr
          rw [hr]
          rfl
        · rename_i v0 t hr
          rw [hr]
          obtain ⟨t1, t2, t3⟩ := t
          have p3 : F2 (ic_E k).length = .inl v0 := p3
          rcases iv_has_v g3 with ⟨e0, x, rfl⟩ | ⟨e0, x, rfl⟩
          · have e0 : t1 = 0 := e0
            subst e0
            show [Value.int (sy_i F2 (ic_E k).length)] = _
            simp only [sy_i, p3, Option.toList_some]
          · have e0 : t1 = 1 := e0
            subst e0
            show [Value.long (sy_l F2 (ic_E k).length)] = _
            simp only [sy_l, p3, Option.toList_some]
        · exact g3.elim
      have eG : sy_dh F2 X1 X2 (iv_H (ct_t1 d)) = sy_dh F' X1 X2 (iv_H (ct_t1 d)) := by simp only [sy_dh, sy_gw_ok d4.1.1 p1, sy_gw_ok d4.1.2 p1]
      have hE2 : iv_in F2 (iv_E2 (iv_nh (ct_s c)) d (ic_E k)) := by
        intro q t hq
        unfold iv_E2 at hq
        by_cases hqn : q < iv_nh (ct_s c)
        · rw [List.getElem?_append_left (by rw [d3]; exact hqn)] at hq
          rw [p1 q hqn]
          obtain ⟨-, hq2⟩ := iv_mg_at hq
          rw [Nat.zero_add] at hq2
          rcases hq2 with ⟨_, w2⟩ | ⟨w1, w2⟩
          · exact g2 q t w2
          · rw [hF' q hqn w1]
            exact hE q t w2
        · rw [List.getElem?_append_right (by rw [d3]; omega), d3] at hq
          by_cases hqv : q < (ic_E k).length
          · rw [List.getElem?_append_left (by rw [List.length_drop]; omega), List.getElem?_drop] at hq
            rw [p2 q (by omega) hqv]
            refine hE q t ?_
            rw [← hq]
            congr 1
            omega
          · rw [List.getElem?_append_right (by rw [List.length_drop]; omega)] at hq
            unfold iv_ro at g3
            split at g3
            · rename_i hr
              rw [hr] at hq
              simp at hq
            · rename_i v0 t0 hr
              rw [hr, List.length_drop] at hq
              have hq0 : q - iv_nh (ct_s c) - ((ic_E k).length - iv_nh (ct_s c)) = 0 := by
                by_cases hz : q - iv_nh (ct_s c) - ((ic_E k).length - iv_nh (ct_s c)) = 0
                · exact hz
                · rw [List.getElem?_eq_none (by simp; omega)] at hq
                  cases hq
              rw [hq0] at hq
              simp at hq
              subst hq
              have : q = (ic_E k).length := by omega
              rw [this, p3]
              exact g3
            · exact g3.elim
      have hgo := iv_st_ok (Ls := Ls) (xs := xs) (F := F2) (F0 := F0) hg htc hst hE2 (hg.1 _ F' F2 (fun q hq => p1 q (by rw [← a4]; exact hq)) g4) (fun q hq hw => by rw [p1 q hq, hF' q hq (hsub q hw)]; exact hfr q hq hw) X1 X2 (l := l) (e := e) (below := below) C0 (fun k' hk' F'' e0 e1 e2 e3 => hK k' hk' F'' e0 e1 e2 (by
        have := e3 _ rfl
        have e4 : iv_rv F2 (ic_r k) = iv_rv F (ic_r k) := by
          unfold iv_rv
          rw [iv_sv_eq (fun q hq => ?_)]
          have hq2 := List.all_eq_true.mp d1 q hq
          rw [Bool.and_eq_true] at hq2
          have hlt : q.2 < (ic_E k).length := Nat.le_of_ble_eq_true hq2.1
          by_cases hqn : q.2 < iv_nh (ct_s c)
          · rw [p1 _ hqn]
            refine hF' _ hqn ?_
            have hq3 := hq2.2
            rw [Bool.or_eq_true] at hq3
            rcases hq3 with hz | hz
            · exact absurd (Nat.le_of_ble_eq_true hz) (by omega)
            · simpa using hz
          · exact p2 _ (by omega) hlt
        rw [e4] at this
        exact this)) hP
      have eS : sy_dS F2 (iv_rs (ic_E k).length (ct_r d) ++ rest) = v.toList ++ rest.map (sy_dv F) := by
        unfold sy_dS
        rw [List.map_append, eV, eR]
      rw [eL, eS, eG] at hgo
      exact hgo
    · cases h
  · cases h
/-- a method's places, all of them -/
noncomputable def iv_pos (k : iv_c) : Bool := match iv_lo (ic_E k) (ic_r k).2 with
  | some n => decide (0 ≤ (ic_r k).1 + n)
  | none => false
noncomputable def iv_chk (g : iv_pl) (cs : List iv_ct) (c : iv_ct) (M : jm_M) (cuts : List iv_c) (its : List iv_q) : Bool :=
  Nat.ble (sy_e1 (ct_A c)).length (jm_mx M) && iv_st g c cuts M (ct_E c).length true (ct_s c) 0 (sy_ent (jm_mx M) (ct_A c)) [] (ct_E c) none its &&
  cuts.all (fun k => iv_pos k && (match ic_k k with
    | none => iv_st g c cuts M (ic_E k).length true (ic_s k) (ic_pc k) (ic_L k) (ic_S k) (ic_E k) (some (ic_r k)) (ic_q k)
    | some j => iv_cl g cs c cuts M k j))
set_option maxHeartbeats 4000000 in
theorem iv_sound {JJ : Nat → (Nat → sy_d) → Prop} {g : iv_pl} (hg : iv_plok JJ g) {cs : List iv_ct} (hcs : ∀ d ∈ cs, ct_ok JJ d) {c : iv_ct} {M : jm_M} {cuts : List iv_c} {its : List iv_q} (hM : jm_TB[ct_m c]? = some M) (h : iv_chk g cs c M cuts its = true) : ct_ok JJ c := by
  intro M' hM' Ls xs F0 X1 X2 hE hJ0
  rw [hM] at hM'
  cases hM'
  unfold iv_chk at h
  simp only [Bool.and_eq_true] at h
  obtain ⟨⟨hA, hst⟩, hcut⟩ := h
  have hA := Nat.le_of_ble_eq_true hA
  have hok := jm_TBok _ _ hM
  have htc := hok.2.2.2.2.2.2.2.2.2
  refine jm_T_intro hok (by rw [sy_e1_ok]; simpa [sy_dL] using hA) (fun p l e s m args below meth cc D h0 ex ka C1 => ?_)
  rw [sy_ent_ok]
  have hP : ∀ (v : Option Value) (F' : Nat → sy_d) (t : Nat), JJ t F' → t ∈ ct_t c → iv_in F' (ct_F c) → (∀ j, j < iv_nh (ct_s c) → (ct_W c).contains j = false → F' j = F0 j) → iv_ro v (ct_r c) → ct_P JJ c F0 X1 X2 v (sy_dh F' X1 X2 (iv_H t)) := fun v F' t hJ ht h1 h2 h3 => ⟨t, F', ht, rfl, h2, h1, h3, hJ⟩
  have key : ∀ (N : Nat) (k : iv_c), k ∈ cuts → ∀ F' : Nat → sy_d, JJ (ic_s k) F' → iv_in F' (ic_E k) → (∀ j, j < iv_nh (ct_s c) → (ct_W c).contains j = false → F' j = F0 j) → iv_rv F' (ic_r k) < N →
      jm_W p l e (jm_room (ct_d c) 0 0) s m args below meth cc D h0 ex ka M (jm_len (sy_dh F0 X1 X2 (iv_H (ct_s c)))) (MQ below (jm_Qc D h0 ex ka 0 (sy_dh F0 X1 X2 (iv_H (ct_s c))) (ct_P JJ c F0 X1 X2)) args s 0 0 (fun q => h0 ≤ q)) (ic_pc k, sy_dL F' (ic_L k), sy_dS F' (ic_S k), sy_dh F' X1 X2 (iv_H (ic_s k)), 0, 0) := by
    intro N
    induction N with
    | zero =>
      intro k hk F' hJ h1 h2 h3
      exfalso
      have hc := List.all_eq_true.mp hcut k hk
      simp only [Bool.and_eq_true] at hc
      have hp := hc.1
      unfold iv_pos at hp
      split at hp
      · rename_i n hn
        have := iv_lo_ok h1 hn
        have hp := of_decide_eq_true hp
        unfold iv_rv at h3
        omega
      · cases hp
    | succ N ih =>
      intro k hk F' hJ h1 h2 h3
      have hc := List.all_eq_true.mp hcut k hk
      simp only [Bool.and_eq_true] at hc
      obtain ⟨-, hc⟩ := hc
      split at hc
      · exact iv_st_ok hg htc hc h1 hJ h2 X1 X2 C1 (fun k' hk' F'' e0 e1 e2 e3 => ih k' hk' F'' e0 e1 e2 (by have := e3 _ rfl; omega)) hP
      · exact iv_cl_ok hg hcs htc hc h1 h2 hJ X1 X2 C1 (fun k' hk' F'' e0 e1 e2 e3 => ih k' hk' F'' e0 e1 e2 (by omega)) hP
  refine iv_st_ok hg htc hst hE hJ0 (fun _ _ _ => rfl) X1 X2 C1 (fun k hk F' e0 e1 e2 _ => key ((iv_rv F' (ic_r k)).toNat + 1) k hk F' e0 e1 e2 (by omega)) hP
