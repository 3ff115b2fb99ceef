/-! ===== the constructors, by a run without the script ===== -/
def jm_g0 (e : jm_I) (S : List Value) : Bool := match e.1 with
  | .iaload => (match S with
    | .int _ :: .ref a :: _ => Nat.blt 0 a
    | _ => true)
  | .baload => (match S with
    | .int _ :: .ref a :: _ => Nat.blt 0 a
    | _ => true)
  | .arraylength => (match S with
    | .ref a :: _ => Nat.blt 0 a
    | _ => true)
  | _ => true
theorem jm_ea_any {Ls Ls' : Nat} {xs xs' : Nat → Int32} {a : Nat} (h : Nat.blt 0 a = true) : jm_ea Ls xs a = jm_ea Ls' xs' a := by
  have : a ≠ 0 := by
    have := Nat.le_of_ble_eq_true h
    omega
  simp only [jm_ea, if_neg this]
set_option maxHeartbeats 4000000 in
theorem jm_d2_any {M : jm_M} {Ls Ls' : Nat} {xs xs' : Nat → Int32} {bc bs pc : Nat} {e : jm_I} {L : List (Option Value)} {S : List Value} {G : jm_h} {q : Nat × Nat} (h : jm_g0 e S = true) : jm_d2 M Ls xs bc bs e pc L S G q = jm_d2 M Ls' xs' bc bs e pc L S G q := by
  obtain ⟨ins, n, la, lb, po⟩ := e
  unfold jm_g0 at h
  dsimp only at h
  split at h
  · split at h
    · simp only [jm_d2, jm_ea_any (Ls := Ls) (Ls' := Ls') (xs := xs) (xs' := xs') h]
    · rename_i hS
      unfold jm_d2
      dsimp only
      by_cases hn : n = 1
      · rw [if_pos hn, if_pos hn]
        split
        · exact absurd rfl (hS _ _ _)
        · rfl
      · rw [if_neg hn, if_neg hn]
  · split at h
    · simp only [jm_d2, jm_ea_any (Ls := Ls) (Ls' := Ls') (xs := xs) (xs' := xs') h]
    · rename_i hS
      unfold jm_d2
      dsimp only
      by_cases hn : n = 1
      · rw [if_pos hn, if_pos hn]
        split
        · exact absurd rfl (hS _ _ _)
        · rfl
      · rw [if_neg hn, if_neg hn]
  · split at h
    · simp only [jm_d2, jm_ea_any (Ls := Ls) (Ls' := Ls') (xs := xs) (xs' := xs') h]
    · rename_i hS
      unfold jm_d2
      dsimp only
      by_cases hn : n = 1
      · rw [if_pos hn, if_pos hn]
        split
        · exact absurd rfl (hS _ _)
        · rfl
      · rw [if_neg hn, if_neg hn]
  · rename_i h1 h2 h3
    unfold jm_d2
    dsimp only
    split
    · exact absurd rfl h1
    · exact absurd rfl h2
    all_goals first | rfl | exact absurd rfl h3 | skip
theorem jm_step_any {M : jm_M} {Ls Ls' : Nat} {xs xs' : Nat → Int32} {bc bs pc : Nat} {e : jm_I} {L : List (Option Value)} {S : List Value} {G : jm_h} {q : Nat × Nat} (h : jm_g0 e S = true) : jm_step M Ls xs bc bs e pc L S G q = jm_step M Ls' xs' bc bs e pc L S G q := by
  unfold jm_step
  rw [jm_d2_any (Ls := Ls) (Ls' := Ls') (xs := xs) (xs' := xs') h]
/-- a run that doesn't look at the script -/
def jm_ev0 (TB : List jm_M) (BG : List (Nat × Nat)) : Nat → Nat → jm_M → Nat → Nat → Nat → List (Option Value) → List Value → jm_h → Nat → Nat → Option (Option Value × jm_h × Nat × Nat)
  | 0, _, _, _, _, _, _, _, _, _, _ => none
  | n + 1, d, M, bc, bs, pc, L, S, G, cn, sn => match jm_in M pc with
    | none => none
    | some e => if jm_g0 e S = true then (match jm_step M 0 (fun _ => 0) bc bs e pc L S G (cn, sn) with
      | some (pc', L', S', G', cn', sn') => jm_ev0 TB BG n d M bc bs pc' L' S' G' cn' sn'
      | none => match jm_rf M e S with
        | some v => some (v, G, cn, sn)
        | none => match d with
          | 0 => none
          | d' + 1 => match jm_cf TB e G S, BG[e.2.2.1]? with
            | some (M1, As, rest), some (mc, ms) => if (jm_e1 As).length ≤ jm_mx M1 ∧ cn + mc ≤ bc ∧ sn + ms ≤ bs then (match jm_ev0 TB BG n d' M1 mc ms 0 (jm_ent (jm_mx M1) As) [] G 0 0 with
              | some (v, G1, c1, s1) => if c1 = mc ∧ s1 ≤ ms then jm_ev0 TB BG n d M bc bs (pc + 3) L (v.toList ++ rest) G1 (cn + mc) (sn + ms) else none
              | none => none) else none
            | _, _ => none) else none
set_option maxHeartbeats 4000000 in
theorem jm_ev0_any {TB : List jm_M} {BG : List (Nat × Nat)} {Ls : Nat} {xs : Nat → Int32} : ∀ (n d : Nat) (M : jm_M) (bc bs pc : Nat) (L : List (Option Value)) (S : List Value) (G : jm_h) (cn sn : Nat) (r : Option Value × jm_h × Nat × Nat), jm_ev0 TB BG n d M bc bs pc L S G cn sn = some r → jm_ev TB BG Ls xs n d M bc bs pc L S G cn sn = some r := by
  intro n
  induction n with
  | zero => intro d M bc bs pc L S G cn sn r h; cases h
  | succ n ih =>
    intro d M bc bs pc L S G cn sn r h
    rw [jm_ev0] at h
    rw [jm_ev]
    split at h
    · cases h
    · rename_i e hi
      simp only [hi]
      split at h
      · rename_i hg
        rw [jm_step_any (Ls := 0) (Ls' := Ls) (xs := fun _ => 0) (xs' := xs) hg] at h
        split at h
        · rename_i hst
          simp only [hst]
          exact ih _ _ _ _ _ _ _ _ _ _ _ h
        · rename_i hst
          simp only [hst]
          split at h
          · rename_i hrf
            simp only [hrf]
            exact h
          · rename_i hrf
            simp only [hrf]
            split at h
            · cases h
            · split at h
              · rename_i hcf hbg
                simp only [hcf, hbg]
                split at h
                · rename_i hcond
                  rw [if_pos hcond]
                  split at h
                  · rename_i hev
                    simp only [ih _ _ _ _ _ _ _ _ _ _ _ hev]
                    split at h
                    · rename_i h2
                      rw [if_pos h2]
                      exact ih _ _ _ _ _ _ _ _ _ _ _ h
                    · cases h
                  · cases h
                · cases h
              · cases h
      · cases h
def jm_bc (a b : jm_c) : Bool := match a, b with
  | .inl (k, n, .inl l), .inl (k', n', .inl l') => Nat.beq k k' && Nat.beq n n' && sy_bl (fun x y => decide (x = y)) l l'
  | .inl (k, n, .inr l), .inl (k', n', .inr l') => Nat.beq k k' && Nat.beq n n' && sy_bl (fun x y => decide (x = y)) l l'
  | .inr (c, fs), .inr (c', fs') => Nat.beq c c' && sy_bl (fun x y => decide (x = y)) fs fs'
  | _, _ => false
theorem jm_bc_ok {a b : jm_c} (h : jm_bc a b = true) : a = b := by
  unfold jm_bc at h
  split at h
  · simp only [Bool.and_eq_true] at h
    rw [Nat.eq_of_beq_eq_true h.1.1, Nat.eq_of_beq_eq_true h.1.2, sy_bl_ok (fun h => of_decide_eq_true h) h.2]
  · simp only [Bool.and_eq_true] at h
    rw [Nat.eq_of_beq_eq_true h.1.1, Nat.eq_of_beq_eq_true h.1.2, sy_bl_ok (fun h => of_decide_eq_true h) h.2]
  · simp only [Bool.and_eq_true] at h
    rw [Nat.eq_of_beq_eq_true h.1, sy_bl_ok (fun h => of_decide_eq_true h) h.2]
  · cases h
def jm_bev (o : Option (Option Value × jm_h × Nat × Nat)) (H : jm_h) (c s : Nat) : Bool := match o with
  | some (none, G, c1, s1) => sy_bl jm_bc G.1 H.1 && sy_bl jm_bc G.2 H.2 && Nat.beq c1 c && Nat.ble s1 s
  | _ => false
theorem jm_bev_ok {o : Option (Option Value × jm_h × Nat × Nat)} {H : jm_h} {c s : Nat} (h : jm_bev o H c s = true) : ∃ s1, o = some (none, H, c, s1) ∧ s1 ≤ s := by
  unfold jm_bev at h
  split at h
  · rename_i G c1 s1
    simp only [Bool.and_eq_true] at h
    obtain ⟨⟨⟨h1, h2⟩, h3⟩, h4⟩ := h
    have e1 := sy_bl_ok jm_bc_ok h1
    have e2 := sy_bl_ok jm_bc_ok h2
    have e3 := Nat.eq_of_beq_eq_true h3
    obtain ⟨G1, G2⟩ := G
    obtain ⟨H1, H2⟩ := H
    dsimp only at e1 e2
    subst e1 e2 e3
    exact ⟨s1, rfl, Nat.le_of_ble_eq_true h4⟩
  · cases h
theorem jm_ev0_T {BG : List (Nat × Nat)} {n d mc ms : Nat} {M : jm_M} {As : List Value} {G H : jm_h} {Ls : Nat} {xs : Nat → Int32} (hM : jm_ok jm_YN M) (hA : (jm_e1 As).length ≤ jm_mx M) (h : jm_bev (jm_ev0 jm_TB BG n d M mc ms 0 (jm_ent (jm_mx M) As) [] G 0 0) H mc ms = true) : jm_T Ls xs (d + 1) M As G mc ms (fun v G1 => v = none ∧ G1 = H) := by
  obtain ⟨s1, h1, hs⟩ := jm_bev_ok h
  refine jm_T_intro hM hA (fun p l e s m args below meth c D h0 ex ka C1 => ?_)
  exact jm_ev_ok jm_TBok jm_hYN n d M mc ms 0 _ [] G 0 0 none H mc s1 hM.2.2.2.2.2.2.2.2.2 (jm_ev0_any _ _ _ _ _ _ _ _ _ _ _ _ h1) C1 rfl hs ⟨rfl, rfl⟩
def jm_BG : List (Nat × Nat) := [(0, 0), (0, 0), (0, 0), (0, 0), (0, 0), (0, 0), (9, 57), (0, 0), (0, 0), (0, 0), (0, 0), (0, 0), (0, 0), (0, 0), (0, 0), (0, 0), (2, 41), (0, 0), (0, 0), (0, 0), (0, 0), (0, 0), (0, 0), (0, 0), (3, 15), (0, 0), (0, 0), (0, 0), (0, 0), (0, 0), (7, 1244), (0, 0), (0, 0), (0, 0), (0, 0), (0, 0), (0, 0), (0, 0), (0, 0), (0, 0), (0, 0), (0, 0), (0, 0), (0, 0), (0, 0), (0, 0), (9, 558), (0, 0), (0, 0), (0, 0), (0, 0), (0, 0), (0, 0), (0, 0), (4, 1226), (0, 0), (0, 0), (0, 0), (0, 0), (0, 0), (0, 0), (0, 0), (0, 0), (0, 0), (0, 0), (0, 0), (0, 0), (0, 0), (2, 14), (0, 0), (0, 0), (0, 0), (0, 0), (0, 0), (0, 0), (0, 0), (1, 2400), (0, 0), (0, 0), (0, 0), (64, 7204), (0, 0), (0, 0), (0, 0), (0, 0), (0, 0), (0, 0), (0, 0), (0, 0), (0, 0), (0, 0), (0, 0), (0, 0), (0, 0), (0, 0), (0, 0), (0, 0), (0, 0), (0, 0), (0, 0), (0, 0), (0, 0), (0, 0), (0, 0), (0, 0), (0, 0), (0, 0), (0, 0), (0, 0), (0, 0), (0, 0), (0, 0), (0, 0), (0, 0), (0, 0), (0, 0), (0, 0), (0, 0), (0, 0), (0, 0), (0, 0), (0, 0), (0, 0), (0, 0), (0, 0), (0, 0), (0, 0), (0, 0), (0, 0), (0, 0), (0, 0), (0, 0), (46, 20000), (0, 0), (0, 0), (0, 0), (0, 0), (0, 0), (0, 0), (0, 0), (0, 0), (0, 0), (0, 0), (0, 0), (0, 0), (0, 0), (0, 0), (0, 0), (0, 0), (0, 0), (0, 0), (0, 0), (0, 0), (0, 0), (0, 0), (0, 0), (0, 0), (0, 0), (0, 0), (0, 0), (0, 0), (0, 0), (0, 0), (0, 0), (0, 0), (0, 0), (0, 0), (0, 0), (0, 0), (0, 0), (0, 0), (0, 0), (0, 0), (0, 0), (0, 0), (0, 0), (0, 0), (0, 0), (0, 0), (0, 0), (0, 0), (0, 0), (0, 0), (0, 0), (0, 0), (0, 0), (0, 0), (0, 0), (0, 0), (0, 0), (0, 0), (0, 0), (0, 0), (0, 0), (0, 0), (0, 0), (0, 0), (0, 0), (0, 0), (0, 0), (0, 0), (0, 0), (0, 0), (0, 0), (0, 0), (0, 0), (0, 0), (0, 0), (0, 0), (0, 0), (0, 0), (0, 0), (0, 0), (0, 0), (0, 0), (0, 0), (0, 0), (0, 0), (0, 0), (0, 0), (0, 0), (0, 0), (0, 0), (0, 0), (0, 0), (0, 0), (0, 0), (0, 0), (0, 0), (0, 0), (0, 0), (0, 0), (0, 0), (0, 0), (0, 0), (0, 0), (0, 0), (0, 0), (0, 0), (0, 0), (0, 0), (0, 0), (0, 0), (0, 0), (0, 0), (0, 0), (0, 0), (0, 0), (0, 0), (0, 0), (0, 0), (0, 0), (0, 0), (0, 0), (0, 0), (0, 0), (0, 0), (0, 0), (0, 0), (0, 0)]
