/-! ===== runs with symbols to a place of the method, or to a call ===== -/
def sy_go (TB : List jm_M) (nv : Nat) (sp sm : List Nat) : Nat → Nat → jm_M → Bool → Nat → List (Option sy_v) → List sy_v → sy_h → sy_x → Option ((Nat × List (Option sy_v) × List sy_v × sy_h) × sy_x)
  | 0, _, _, _, _, _, _, _, _ => none
  | n + 1, d, M, f, pc, L, S, G, x => bif !f && sp.contains pc then some ((pc, L, S, G), x) else match jm_in M pc with
    | none => none
    | some e => match sy_step nv M e pc L S G (0, 0) x with
      | some ((pc', L', S', G', _), x') => sy_go TB nv sp sm n d M false pc' L' S' G' x'
      | none => match d with
          | 0 => none
          | d' + 1 => match sy_cf TB e G S with
            | some (M1, As, rest) => bif sm.contains e.2.2.1 then some ((pc, L, S, G), x) else if (sy_e1 As).length ≤ jm_mx M1 then (match sy_ev TB nv n d' M1 0 (sy_ent (jm_mx M1) As) [] G x with
              | some (v, G1, x1) => sy_go TB nv sp sm n d M false (pc + 3) L (v.toList ++ rest) G1 x1
              | none => none) else none
            | none => none
theorem sy_cf_tb {TB : List jm_M} {YN : List MethodName} (hTB : ∀ (k : Nat) (M' : jm_M), TB[k]? = some M' → jm_ok YN M') {e : jm_I} {G : sy_h} {S As rest : List sy_v} {M1 : jm_M} (hcf : sy_cf TB e G S = some (M1, As, rest)) : jm_ok YN M1 := by
  unfold sy_cf at hcf
  have gen : ∀ {k : Nat} {X : jm_M}, TB[k]? = some X → jm_ok YN X := fun h => hTB _ _ h
  split at hcf
  · split at hcf
    · split at hcf
      · rename_i hq
        split at hcf
        · cases hcf; exact gen hq
        · cases hcf
      · cases hcf
    · cases hcf
  · split at hcf
    · split at hcf
      · rename_i hq
        split at hcf
        · split at hcf
          · split at hcf
            · cases hcf; exact gen hq
            · cases hcf
          · cases hcf
        · cases hcf
      · cases hcf
    · cases hcf
  · cases hcf
set_option maxHeartbeats 4000000 in
theorem sy_go_ok {TB : List jm_M} {YN : List MethodName} {nv : Nat} {sp sm : List Nat} {Ls : Nat} {xs : Nat → Int32} (hTB : ∀ (k : Nat) (M' : jm_M), TB[k]? = some M' → jm_ok YN M') (hYN : YN = TB.map jm_y) :
    ∀ (n d : Nat) (M : jm_M) (f : Bool) (pc : Nat) (L : List (Option sy_v)) (S : List sy_v) (G : sy_h) (x : sy_x) (pc1 : Nat) (L1 : List (Option sy_v)) (S1 : List sy_v) (G1 : sy_h) (y : sy_x), jm_tck YN M 0 (jm_tb M) = true → sy_go TB nv sp sm n d M f pc L S G x = some ((pc1, L1, S1, G1), y) →
      (∃ r, y.1 = x.1 ++ r) ∧ (∃ r, y.2.1 = x.2.1 ++ r) ∧ ∀ (F : Nat → sy_d) (X1 X2 : List jm_c) (r : List sy_e), sy_sat F nv (y.1 ++ r) → (∀ p ∈ y.2.1, sy_ps F p) →
      ∀ {p : Program} {l : Launch} {e : Env} {R : Room} {s : State} {m : MethodId} {args : Array Value} {below : List Frame} {meth : Method} {c : Code} {D : va_G} {h0 : Nat} {ex : Nat → Nat} {ka : Nat → ClassId} {n0 : Nat} {Q : State → Prop}, jm_C p s m args meth c D h0 ex ka Ls xs M n0 → d + 1 ≤ R.frames → 64 * (d + 1) ≤ R.locals →
      jm_W p l e R s m args below meth c D h0 ex ka M n0 Q (pc1, sy_dL F L1, sy_dS F S1, sy_dh F X1 X2 G1, 0, 0) →
      jm_W p l e R s m args below meth c D h0 ex ka M n0 Q (pc, sy_dL F L, sy_dS F S, sy_dh F X1 X2 G, 0, 0) := by
  intro n
  induction n with
  | zero => intro d M f pc L S G x pc1 L1 S1 G1 y _ h; cases h
  | succ n ih =>
    intro d M f pc L S G x pc1 L1 S1 G1 y htc h
    rw [sy_go] at h
    cases hf : (!f && sp.contains pc) with
    | true =>
      rw [hf] at h
      cases h
      exact ⟨⟨[], (List.append_nil _).symm⟩, ⟨[], (List.append_nil _).symm⟩, fun F X1 X2 r hs hp p l e R s m args below meth c D h0 ex ka n0 Q C0 hfr hlo k => k⟩
    | false =>
      rw [hf] at h
      dsimp only [cond] at h
      split at h
      · cases h
      · rename_i i hi
        have hc := jm_in_ck htc hi
        split at h
        · rename_i pc' L' S' G' q' x' hst
          have hq : q' = (0, 0) := sy_q hst
          subst hq
          obtain ⟨⟨r1, a1⟩, ⟨r2, a2⟩, a3⟩ := sy_step_ok (M := M) (Ls := Ls) (xs := xs) (bc := 0) (bs := 0) hst
          obtain ⟨⟨r3, b1⟩, ⟨r4, b2⟩, b3⟩ := ih d M false pc' L' S' G' x' pc1 L1 S1 G1 y htc h
          refine ⟨⟨r1 ++ r3, by rw [b1, a1, List.append_assoc]⟩, ⟨r2 ++ r4, by rw [b2, a2, List.append_assoc]⟩, ?_⟩
          intro F X1 X2 r hs hp p l e R s m args below meth c D h0 ex ka n0 Q C0 hfr hlo k
          refine jm_step_ok C0 (Nat.zero_le _) (Nat.zero_le _) (by omega) (by omega) hc (a3 F X1 X2 (r3 ++ r) ?_ (fun z hz => hp z (by rw [b2]; exact List.mem_append_left _ hz))) (b3 F X1 X2 r hs hp C0 hfr hlo k)
          rw [← List.append_assoc, ← b1]
          exact hs
        · split at h
          · cases h
          · rename_i d'
            split at h
            · rename_i M1 As rest hcf
              cases hsm : sm.contains i.2.2.1 with
              | true =>
                rw [hsm] at h
                cases h
                exact ⟨⟨[], (List.append_nil _).symm⟩, ⟨[], (List.append_nil _).symm⟩, fun F X1 X2 r hs hp p l e R s m args below meth c D h0 ex ka n0 Q C0 hfr hlo k => k⟩
              | false =>
                rw [hsm] at h
                dsimp only [cond] at h
                split at h
                · rename_i hA
                  split at h
                  · rename_i w G2 x1 hev
                    have hM1 : jm_ok YN M1 := sy_cf_tb hTB hcf
                    obtain ⟨⟨r1, a1⟩, ⟨r2, a2⟩, a3⟩ := sy_ev_ok (Ls := Ls) (xs := xs) hTB hYN n d' M1 0 _ [] G x w G2 x1 hM1.2.2.2.2.2.2.2.2.2 hev
                    obtain ⟨⟨r3, b1⟩, ⟨r4, b2⟩, b3⟩ := ih (d' + 1) M false (pc + 3) L _ G2 x1 pc1 L1 S1 G1 y htc h
                    refine ⟨⟨r1 ++ r3, by rw [b1, a1, List.append_assoc]⟩, ⟨r2 ++ r4, by rw [b2, a2, List.append_assoc]⟩, ?_⟩
                    intro F X1 X2 r hs hp p l e R s m args below meth c D h0 ex ka n0 Q C0 hfr hlo k
                    have hs1 : sy_sat F nv (x1.1 ++ (r3 ++ r)) := by
                      rw [← List.append_assoc, ← b1]
                      exact hs
                    have hp1 : ∀ z ∈ x1.2.1, sy_ps F z := fun z hz => hp z (by rw [b2]; exact List.mem_append_left _ hz)
                    have hT : jm_T Ls xs (d' + 1) M1 (As.map (sy_dv F)) (sy_dh F X1 X2 G) 0 0 (fun v G => v = w.map (sy_dv F) ∧ G = sy_dh F X1 X2 G2) := by
                      refine jm_T_intro hM1 (by rw [sy_e1_ok]; simpa [sy_dL] using hA) (fun p l e s m args below meth c D h0 ex ka C1 => ?_)
                      rw [sy_ent_ok]
                      exact a3 F X1 X2 _ hs1 hp1 C1 ⟨rfl, rfl⟩
                    refine jm_call_ok hTB hYN C0 hc (sy_cf_ok hcf F X1 X2) hT (by omega) (by omega) (Nat.zero_le _) (Nat.zero_le _) (fun v1 G3 hq hlen3 => ?_)
                    obtain ⟨rfl, rfl⟩ := hq
                    have hb := b3 F X1 X2 r hs hp (l := l) (e := e) (below := below) C0 hfr hlo k
                    have he : sy_dS F (w.toList ++ rest) = (w.map (sy_dv F)).toList ++ rest.map (sy_dv F) := by cases w <;> simp [sy_dS]
                    rw [he] at hb
                    exact hb
                  · cases h
                · cases h
            · cases h
/-- a contract out of a run -/
theorem sy_T {TB : List jm_M} {YN : List MethodName} {nv n d : Nat} {M : jm_M} {As : List sy_v} {G G1 : sy_h} {O O1 : List Bool} {T : List sy_e} {P : List sy_p} {v : Option sy_v} {Ls : Nat} {xs : Nat → Int32} (hTB : ∀ (k : Nat) (M' : jm_M), TB[k]? = some M' → jm_ok YN M') (hYN : YN = TB.map jm_y) (hM : jm_ok YN M) (hA : (sy_e1 As).length ≤ jm_mx M)
    (h : sy_ev TB nv n d M 0 (sy_ent (jm_mx M) As) [] G ([], [], O) = some (v, G1, T, P, O1)) (F : Nat → sy_d) (X1 X2 : List jm_c) (hs : sy_sat F nv T) (hp : ∀ p ∈ P, sy_ps F p) :
    jm_T Ls xs (d + 1) M (As.map (sy_dv F)) (sy_dh F X1 X2 G) 0 0 (fun w G' => w = v.map (sy_dv F) ∧ G' = sy_dh F X1 X2 G1) := by
  obtain ⟨-, -, a3⟩ := sy_ev_ok (Ls := Ls) (xs := xs) hTB hYN n d M 0 _ [] G _ v G1 _ hM.2.2.2.2.2.2.2.2.2 h
  refine jm_T_intro hM (by rw [sy_e1_ok]; simpa [sy_dL] using hA) (fun p l e s m args below meth c D h0 ex ka C1 => ?_)
  rw [sy_ent_ok]
  exact a3 F X1 X2 [] (by rw [List.append_nil]; exact hs) hp C1 ⟨rfl, rfl⟩
