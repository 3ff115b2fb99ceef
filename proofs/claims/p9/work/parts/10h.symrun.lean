/-! ===== runs with symbols: to the method's end, or to a place ===== -/
def sy_e1 : List sy_v → List (Option sy_v)
  | [] => []
  | v :: r => if sy_cat v = 2 then some v :: none :: sy_e1 r else some v :: sy_e1 r
def sy_ent (mx : Nat) (As : List sy_v) : List (Option sy_v) := sy_e1 As ++ List.replicate (mx - (sy_e1 As).length) none
theorem sy_e1_ok (F : Nat → sy_d) : ∀ As : List sy_v, jm_e1 (As.map (sy_dv F)) = sy_dL F (sy_e1 As)
  | [] => rfl
  | v :: r => by
    rw [List.map_cons, jm_e1, sy_e1, sy_cat_ok, sy_e1_ok F r]
    split <;> rfl
theorem sy_ent_ok (F : Nat → sy_d) (mx : Nat) (As : List sy_v) : jm_ent mx (As.map (sy_dv F)) = sy_dL F (sy_ent mx As) := by
  unfold jm_ent sy_ent
  rw [sy_e1_ok]
  unfold sy_dL
  simp
def sy_rf (M : jm_M) (e : jm_I) (S : List sy_v) (P : List sy_p) : Option (Option sy_v × List sy_p) := if e.2.1 = 1 then (match e.1, S with
  | .ireturn, [v] => if sy_ty v = 0 then (match jm_rt M with
    | some .int => some (some v, P)
    | some ty => (match v with
      | .inl w => if narrow ty w = w then some (some v, P) else none
      | _ => if ty = .boolean then some (some v, P ++ [(6, v, .inl (.int 0))]) else none)
    | none => none) else none
  | .lreturn, [v] => if sy_ty v = 1 then (match jm_rt M with
    | some .long => some (some v, P)
    | _ => none) else none
  | .return_, [] => (match jm_rt M with
    | none => some (none, P)
    | _ => none)
  | _, _ => none) else none
set_option maxHeartbeats 4000000 in
theorem sy_rf_ok {M : jm_M} {e : jm_I} {S : List sy_v} {P P1 : List sy_p} {v : Option sy_v} (h : sy_rf M e S P = some (v, P1)) : (∃ r, P1 = P ++ r) ∧ ∀ F : Nat → sy_d, (∀ p ∈ P1, sy_ps F p) → jm_rf M e (sy_dS F S) = some (v.map (sy_dv F)) := by
  obtain ⟨ins, n, la, lb, po⟩ := e
  unfold sy_rf at h
  dsimp only at h
  split at h
  · rename_i hn
    subst hn
    split at h
    · rename_i v0
      split at h
      · rename_i ht
        split at h
        · rename_i hr
          cases h
          refine ⟨⟨[], (List.append_nil _).symm⟩, fun F _ => ?_⟩
          obtain ⟨a, ha⟩ := sy_ty0 (F := F) ht
          simp only [jm_rf, sy_dS, List.map_cons, List.map_nil, ha, hr, if_pos, Option.map_some]
        · rename_i ty hne hr
          split at h
          · rename_i w
            split at h
            · rename_i hw
              cases h
              refine ⟨⟨[], (List.append_nil _).symm⟩, fun F _ => ?_⟩
              obtain ⟨a, ha⟩ := sy_ty0 (F := F) ht
              have hwa : w = .int a := ha
              subst hwa
              simp only [jm_rf, sy_dS, List.map_cons, List.map_nil, sy_dvl, hr, if_pos, hw, Option.map_some]
            · cases h
          · split at h
            · rename_i hb
              cases h
              refine ⟨⟨_, rfl⟩, fun F hp => ?_⟩
              obtain ⟨a, ha⟩ := sy_ty0 (F := F) ht
              have h1 := hp _ (List.mem_append_right _ List.mem_cons_self)
              have h2 : a = 0 ∨ a = 1 := by
                unfold sy_ps at h1
                simp only [ha, sy_dvl] at h1
                simpa using h1
              subst hb
              have hnar : narrow .boolean (.int a) = .int a := by rcases h2 with e | e <;> subst e <;> rfl
              simp only [jm_rf, sy_dS, List.map_cons, List.map_nil, ha, hr, if_pos, Option.map_some]
              rw [if_pos hnar]
            · cases h
        · cases h
      · cases h
    · rename_i v0
      split at h
      · rename_i ht
        split at h
        · rename_i hr
          cases h
          refine ⟨⟨[], (List.append_nil _).symm⟩, fun F _ => ?_⟩
          obtain ⟨a, ha⟩ := sy_ty1 (F := F) ht
          simp only [jm_rf, sy_dS, List.map_cons, List.map_nil, ha, hr, if_pos, Option.map_some]
        · cases h
      · cases h
    · split at h
      · rename_i hr
        cases h
        refine ⟨⟨[], (List.append_nil _).symm⟩, fun F _ => ?_⟩
        simp only [jm_rf, sy_dS, List.map_nil, hr, if_pos, Option.map_none]
      · cases h
    · cases h
  · cases h
def sy_rok (G : sy_h) (M1 : jm_M) (b : Nat) : Bool := if jm_rc M1 = 100 then decide (b = 4) else (match sy_gt G b with
  | some (.inr (ci, _)) => decide (ci = jm_rc M1)
  | _ => false)
def sy_cf (TB : List jm_M) (e : jm_I) (G : sy_h) (S : List sy_v) : Option (jm_M × List sy_v × List sy_v) := match e.1 with
  | .invokestatic _ => if e.2.1 = 3 ∧ e.2.2.2.1 < 2 then (match TB[e.2.2.1]? with
    | some M1 => if jm_kd M1 = 0 ∧ jm_na M1 ≤ S.length ∧ ((S.drop (jm_na M1)).map sy_cat).sum ≤ 8 then some (M1, (S.take (jm_na M1)).reverse, S.drop (jm_na M1)) else none
    | none => none) else none
  | .invokevirtual _ => if e.2.1 = 3 ∧ e.2.2.2.1 < 2 then (match TB[e.2.2.1]? with
    | some M1 => if jm_kd M1 = 1 ∧ jm_na M1 ≤ S.length then (match S.drop (jm_na M1) with
      | .inl (.ref b) :: r => if (r.map sy_cat).sum ≤ 8 ∧ sy_rok G M1 b = true then some (M1, .inl (.ref b) :: (S.take (jm_na M1)).reverse, r) else none
      | _ => none) else none
    | none => none) else none
  | _ => none
theorem sy_cs_ok (F : Nat → sy_d) (r : List sy_v) : jm_cs (r.map (sy_dv F)) = (r.map sy_cat).sum := by
  unfold jm_cs
  rw [List.map_map]
  congr 1
  exact List.map_congr_left (fun w _ => sy_cat_ok F w)
theorem sy_rok_ok {F : Nat → sy_d} {X1 X2 : List jm_c} {G : sy_h} {M1 : jm_M} {b : Nat} (h : sy_rok G M1 b = true) : jm_rok (sy_dh F X1 X2 G) M1 b = true := by
  unfold sy_rok at h
  unfold jm_rok
  split at h
  · rename_i h1
    rw [if_pos h1]
    exact h
  · rename_i h1
    rw [if_neg h1]
    split at h
    · rename_i ci fs hg
      rw [sy_gt_ok hg]
      exact h
    · cases h
set_option maxHeartbeats 4000000 in
theorem sy_cf_ok {TB : List jm_M} {e : jm_I} {G : sy_h} {S As rest : List sy_v} {M1 : jm_M} (h : sy_cf TB e G S = some (M1, As, rest)) (F : Nat → sy_d) (X1 X2 : List jm_c) : jm_cf TB e (sy_dh F X1 X2 G) (sy_dS F S) = some (M1, As.map (sy_dv F), rest.map (sy_dv F)) := by
  obtain ⟨ins, n, la, lb, po⟩ := e
  unfold sy_cf at h
  dsimp only at h
  split at h
  · split at h
    · rename_i hn
      split at h
      · rename_i M2 hM
        split at h
        · rename_i hc
          cases h
          have hcond : jm_kd M1 = 0 ∧ jm_na M1 ≤ (sy_dS F S).length ∧ jm_cs ((sy_dS F S).drop (jm_na M1)) ≤ 8 := by
            refine ⟨hc.1, by simpa [sy_dS] using hc.2.1, ?_⟩
            rw [sy_dS, ← List.map_drop, sy_cs_ok]
            exact hc.2.2
          simp only [jm_cf, if_pos hn, hM, if_pos hcond]
          simp only [sy_dS, List.map_reverse, List.map_take, List.map_drop]
        · cases h
      · cases h
    · cases h
  · split at h
    · rename_i hn
      split at h
      · rename_i M2 hM
        split at h
        · rename_i hc
          split at h
          · rename_i b r hd
            split at h
            · rename_i hc2
              cases h
              have hcond : jm_kd M1 = 1 ∧ jm_na M1 ≤ (sy_dS F S).length := ⟨hc.1, by simpa [sy_dS] using hc.2⟩
              have hd2 : (sy_dS F S).drop (jm_na M1) = .ref b :: rest.map (sy_dv F) := by
                rw [sy_dS, ← List.map_drop, hd]
                rfl
              have hcond2 : jm_cs (rest.map (sy_dv F)) ≤ 8 ∧ jm_rok (sy_dh F X1 X2 G) M1 b = true := ⟨by rw [sy_cs_ok]; exact hc2.1, sy_rok_ok hc2.2⟩
              simp only [jm_cf, if_pos hn, hM, if_pos hcond, hd2, if_pos hcond2]
              simp only [sy_dS, List.map_cons, List.map_reverse, List.map_take, sy_dvl]
            · cases h
          · cases h
        · cases h
      · cases h
    · cases h
  · cases h
/-- a run to the method's end -/
def sy_ev (TB : List jm_M) (nv : Nat) : Nat → Nat → jm_M → Nat → List (Option sy_v) → List sy_v → sy_h → sy_x → Option (Option sy_v × sy_h × sy_x)
  | 0, _, _, _, _, _, _, _ => none
  | n + 1, d, M, pc, L, S, G, x => match jm_in M pc with
    | none => none
    | some e => match sy_step nv M e pc L S G (0, 0) x with
      | some ((pc', L', S', G', _), x') => sy_ev TB nv n d M pc' L' S' G' x'
      | none => match sy_rf M e S x.2.1 with
        | some (v, P1) => some (v, G, x.1, P1, x.2.2)
        | none => match d with
          | 0 => none
          | d' + 1 => match sy_cf TB e G S with
            | some (M1, As, rest) => if (sy_e1 As).length ≤ jm_mx M1 then (match sy_ev TB nv n d' M1 0 (sy_ent (jm_mx M1) As) [] G x with
              | some (v, G1, x1) => sy_ev TB nv n d M (pc + 3) L (v.toList ++ rest) G1 x1
              | none => none) else none
            | none => none
theorem sy_q {nv : Nat} {M : jm_M} {e : jm_I} {pc : Nat} {L : List (Option sy_v)} {S : List sy_v} {G : sy_h} {q : Nat × Nat} {x y : sy_x} {st : sy_St} (h : sy_step nv M e pc L S G q x = some (st, y)) : st.2.2.2.2 = q := by
  obtain ⟨k1, k2, k3⟩ := sy_step_ok (M := M) (Ls := 0) (xs := fun _ => 0) (bc := 0) (bs := 0) h
  unfold sy_step at h
  have tac1 : ∀ {r : sy_St}, sy_1 (jm_mx M) e.1 e.2.1 pc L S G q = some r → r.2.2.2.2 = q := by
    intro r h
    unfold sy_1 at h
    repeat' split at h
    all_goals first | (cases h; rfl) | cases h
  have tac4 : ∀ {r : sy_St × sy_x}, sy_4 nv e pc L S G q x = some r → r.1.2.2.2.2 = q := by
    intro r h
    unfold sy_4 at h
    repeat' split at h
    all_goals first | (cases h; rfl) | cases h
  have tac2 : ∀ {r : sy_St × sy_x}, sy_2 nv e.1 e.2.1 pc L S G q x = some r → r.1.2.2.2.2 = q := by
    intro r h
    unfold sy_2 at h
    repeat' split at h
    all_goals first | (cases h; rfl) | cases h
  have tac3 : ∀ {r : sy_St × sy_x}, sy_3 e.1 e.2.1 pc L S G q x = some r → r.1.2.2.2.2 = q := by
    intro r h
    unfold sy_3 at h
    repeat' split at h
    all_goals first | (cases h; rfl) | cases h
  have tac5 : ∀ {r : sy_St × sy_x}, sy_5 nv (jm_mx M) e pc L S G q x = some r → r.1.2.2.2.2 = q := by
    intro r h
    unfold sy_5 at h
    repeat' split at h
    all_goals first | (cases h; rfl) | cases h | (unfold cond at h; split at h <;> first | (cases h; rfl) | cases h)
  split at h
  · rename_i r h1; cases h; exact tac1 h1
  · split at h
    · rename_i r h1; cases h; exact tac4 h1
    · split at h
      · rename_i r h1; cases h; exact tac2 h1
      · split at h
        · rename_i r h1; cases h; exact tac3 h1
        · exact tac5 h
set_option maxHeartbeats 4000000 in
theorem sy_ev_ok {TB : List jm_M} {YN : List MethodName} {nv : Nat} {Ls : Nat} {xs : Nat → Int32} (hTB : ∀ (k : Nat) (M' : jm_M), TB[k]? = some M' → jm_ok YN M') (hYN : YN = TB.map jm_y) :
    ∀ (n d : Nat) (M : jm_M) (pc : Nat) (L : List (Option sy_v)) (S : List sy_v) (G : sy_h) (x : sy_x) (v : Option sy_v) (G1 : sy_h) (y : sy_x), jm_tck YN M 0 (jm_tb M) = true → sy_ev TB nv n d M pc L S G x = some (v, G1, y) →
      (∃ r, y.1 = x.1 ++ r) ∧ (∃ r, y.2.1 = x.2.1 ++ r) ∧ ∀ (F : Nat → sy_d) (X1 X2 : List jm_c) (r : List sy_e), sy_sat F nv (y.1 ++ r) → (∀ p ∈ y.2.1, sy_ps F p) →
      ∀ {p : Program} {l : Launch} {e : Env} {s : State} {m : MethodId} {args : Array Value} {below : List Frame} {meth : Method} {c : Code} {D : va_G} {h0 : Nat} {ex : Nat → Nat} {ka : Nat → ClassId} {G0 : jm_h} {Post : Option Value → jm_h → Prop}, jm_C p s m args meth c D h0 ex ka Ls xs M (jm_len G0) → Post (v.map (sy_dv F)) (sy_dh F X1 X2 G1) →
      jm_W p l e (jm_room (d + 1) 0 0) s m args below meth c D h0 ex ka M (jm_len G0) (MQ below (jm_Qc D h0 ex ka 0 G0 Post) args s 0 0 (fun q => h0 ≤ q)) (pc, sy_dL F L, sy_dS F S, sy_dh F X1 X2 G, 0, 0) := by
  intro n
  induction n with
  | zero => intro d M pc L S G x v G1 y _ h; cases h
  | succ n ih =>
    intro d M pc L S G x v G1 y htc h
    rw [sy_ev] at h
    split at h
    · cases h
    · rename_i i hi
      have hc := jm_in_ck htc hi
      split at h
      · rename_i pc' L' S' G' q' x' hst
        have hq : q' = (0, 0) := sy_q hst
        subst hq
        obtain ⟨⟨r1, a1⟩, ⟨r2, a2⟩, a3⟩ := sy_step_ok (M := M) (Ls := Ls) (xs := xs) (bc := 0) (bs := 0) hst
        obtain ⟨⟨r3, b1⟩, ⟨r4, b2⟩, b3⟩ := ih d M pc' L' S' G' x' v G1 y htc h
        refine ⟨⟨r1 ++ r3, by rw [b1, a1, List.append_assoc]⟩, ⟨r2 ++ r4, by rw [b2, a2, List.append_assoc]⟩, ?_⟩
        intro F X1 X2 r hs hp p l e s m args below meth c D h0 ex ka G0 Post C0 hP
        refine jm_step_ok C0 (Nat.le_refl 0) (Nat.le_refl 0) (show 1 ≤ d + 1 by omega) (show 64 ≤ 64 * (d + 1) by omega) hc (a3 F X1 X2 (r3 ++ r) ?_ (fun z hz => hp z (by rw [b2]; exact List.mem_append_left _ hz))) (b3 F X1 X2 r hs hp C0 hP)
        rw [← List.append_assoc, ← b1]
        exact hs
      · split at h
        · rename_i w P1 hw
          cases h
          obtain ⟨k1, k2⟩ := sy_rf_ok hw
          refine ⟨⟨[], (List.append_nil _).symm⟩, k1, ?_⟩
          intro F X1 X2 r hs hp p l e s m args below meth c D h0 ex ka G0 Post C0 hP
          exact jm_ret_ok C0 hc (k2 F hp) rfl (Nat.le_refl 0) hP
        · split at h
          · cases h
          · rename_i d'
            split at h
            · rename_i M1 As rest hcf
              split at h
              · rename_i hA
                split at h
                · rename_i w G2 x1 hev
                  have hM1 : jm_ok YN M1 := by
                    unfold sy_cf at hcf
                    have gen : ∀ {k : Nat} {X : jm_M}, TB[k]? = some X → jm_ok YN X := fun h => hTB _ _ h
                    split at hcf
                    · split at hcf
                      · split at hcf
                        · rename_i hq
                          split at hcf
                          · cases hcf; exact gen hq
                          · cases hcf
                        · cases hcf
                      · cases hcf
                    · split at hcf
                      · split at hcf
                        · rename_i hq
                          split at hcf
                          · split at hcf
                            · split at hcf
                              · cases hcf; exact gen hq
                              · cases hcf
                            · cases hcf
                          · cases hcf
                        · cases hcf
                      · cases hcf
                    · cases hcf
                  obtain ⟨⟨r1, a1⟩, ⟨r2, a2⟩, a3⟩ := ih d' M1 0 _ [] G x w G2 x1 hM1.2.2.2.2.2.2.2.2.2 hev
                  obtain ⟨⟨r3, b1⟩, ⟨r4, b2⟩, b3⟩ := ih (d' + 1) M (pc + 3) L _ G2 x1 v G1 y htc h
                  refine ⟨⟨r1 ++ r3, by rw [b1, a1, List.append_assoc]⟩, ⟨r2 ++ r4, by rw [b2, a2, List.append_assoc]⟩, ?_⟩
                  intro F X1 X2 r hs hp p l e s m args below meth c D h0 ex ka G0 Post C0 hP
                  have hs1 : sy_sat F nv (x1.1 ++ (r3 ++ r)) := by
                    rw [← List.append_assoc, ← b1]
                    exact hs
                  have hp1 : ∀ z ∈ x1.2.1, sy_ps F z := fun z hz => hp z (by rw [b2]; exact List.mem_append_left _ hz)
                  have hT : jm_T Ls xs (d' + 1) M1 (As.map (sy_dv F)) (sy_dh F X1 X2 G) 0 0 (fun v G => v = w.map (sy_dv F) ∧ G = sy_dh F X1 X2 G2) := by
                    refine jm_T_intro hM1 (by rw [sy_e1_ok]; simpa [sy_dL] using hA) (fun p l e s m args below meth c D h0 ex ka C1 => ?_)
                    rw [sy_ent_ok]
                    exact a3 F X1 X2 _ hs1 hp1 C1 ⟨rfl, rfl⟩
                  refine jm_call_ok hTB hYN C0 hc (sy_cf_ok hcf F X1 X2) hT (show d' + 1 + 1 ≤ d' + 1 + 1 by omega) (show 64 * (d' + 1) + 64 ≤ 64 * (d' + 1 + 1) by omega) (Nat.le_refl 0) (Nat.le_refl 0) (fun v1 G3 hq hlen3 => ?_)
                  obtain ⟨rfl, rfl⟩ := hq
                  have hb := b3 F X1 X2 r hs hp (l := l) (e := e) (below := below) C0 hP
                  have he : sy_dS F (w.toList ++ rest) = (w.map (sy_dv F)).toList ++ rest.map (sy_dv F) := by cases w <;> simp [sy_dS]
                  rw [he] at hb
                  exact hb
                · cases h
              · cases h
            · cases h
