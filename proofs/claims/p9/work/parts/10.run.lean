/-! ===== Object's constructor, arraycopy; the whole step; runs ===== -/
def jm_cpy (f g : List Int32) (sp dp n : Nat) : List Int32 := (List.range (Nat.max (dp + n) g.length)).map fun k => bif Nat.ble dp k && Nat.ble (k + 1) (dp + n) then f.getD (sp + (k - dp)) 0 else g.getD k 0
theorem jm_cpy_eq (f g : List Int32) (sp dp n : Nat) : va_cpy (fun j => f.getD j 0) (fun j => g.getD j 0) sp dp n = fun j => (jm_cpy f g sp dp n).getD j 0 := by
  funext k
  unfold va_cpy jm_cpy
  rw [List.getD_eq_getElem?_getD, List.getElem?_map]
  by_cases hk : k < Nat.max (dp + n) g.length
  · rw [List.getElem?_range hk]
    show _ = (bif Nat.ble dp k && Nat.ble (k + 1) (dp + n) then f.getD (sp + (k - dp)) 0 else g.getD k 0)
    cases hb : Nat.ble dp k && Nat.ble (k + 1) (dp + n) with
    | true =>
      rw [Bool.and_eq_true] at hb
      have h1 := Nat.le_of_ble_eq_true hb.1
      have h2 := Nat.le_of_ble_eq_true hb.2
      rw [if_pos ⟨h1, by omega⟩]
      rfl
    | false =>
      rw [if_neg]
      · rfl
      · rintro ⟨h1, h2⟩
        rw [Nat.ble_eq_true_of_le h1, Nat.ble_eq_true_of_le (show k + 1 ≤ dp + n by omega)] at hb
        cases hb
  · have hm : dp + n ≤ k ∧ g.length ≤ k := by
      have := Nat.not_lt.mp hk
      exact ⟨Nat.le_trans (Nat.le_max_left _ _) this, Nat.le_trans (Nat.le_max_right _ _) this⟩
    rw [List.getElem?_eq_none (by simpa using Nat.not_lt.mp hk), if_neg (by omega)]
    show g.getD k 0 = 0
    rw [List.getD_eq_getElem?_getD, List.getElem?_eq_none hm.2]
    rfl
def jm_d3 (e : jm_I) (pc : Nat) (L : List (Option Value)) (S : List Value) (G : jm_h) (q : Nat × Nat) : Option jm_St := match e.1 with
  | .invokespecial _ => if e.2.1 = 3 ∧ e.2.2.2.1 = 2 then (match S with
    | .ref a :: r => if jm_cs r ≤ 8 ∧ 8 ≤ a then some (pc + 3, L, r, G, q) else none
    | _ => none) else none
  | .invokestatic _ => if e.2.1 = 3 ∧ e.2.2.2.1 = 2 then (match S with
    | .int n :: .int dp :: .ref a1 :: .int sp :: .ref a0 :: r => (match jm_g G a0, jm_g G a1 with
      | some (.inl (k0, n0, .inl f)), some (.inl (k1, n1, .inl g)) => if (k0 = 0 ∧ k1 = 0) ∧ (¬ sp < 0 ∧ ¬ dp < 0 ∧ ¬ n < 0) ∧ (sp.toNatClampNeg + n.toNatClampNeg ≤ n0 ∧ dp.toNatClampNeg + n.toNatClampNeg ≤ n1) ∧ jm_cs r ≤ 8 then some (pc + 3, L, r, jm_s G a1 (.inl (0, n1, .inl (jm_cpy f g sp.toNatClampNeg dp.toNatClampNeg n.toNatClampNeg))), q) else none
      | _, _ => none)
    | _ => none) else none
  | _ => none
theorem jm_wcopy : Cond.native arraycopyName ∈ jm_tbl ∧ Cond.static arraycopyName ∈ jm_tbl ∧ Cond.initialized "java/lang/System" ∈ jm_tbl := ⟨jm_tbl_mem (by decide +kernel) (by decide +kernel), jm_tbl_mem (by decide +kernel) (by decide +kernel), jm_tbl_mem (by decide +kernel) (by decide +kernel)⟩
theorem jm_winit : Cond.instanceMethod objectInit ∈ jm_tbl ∧ Cond.code objectInit ⟨#[0xb1]⟩ 1 none ∈ jm_tbl := ⟨jm_tbl_mem (by decide +kernel) (by decide +kernel), jm_tbl_mem (List.mem_of_getElem? (i := 120) rfl) rfl⟩
def jm_step (M : jm_M) (Ls : Nat) (xs : Nat → Int32) (bc bs : Nat) (e : jm_I) (pc : Nat) (L : List (Option Value)) (S : List Value) (G : jm_h) (q : Nat × Nat) : Option jm_St :=
  match jm_a1 e.1 e.2.1 pc L S G q with
  | some r => some r
  | none => match jm_d1 e pc L S G q with
    | some r => some r
    | none => match jm_b1 e.1 e.2.1 pc L S G q with
      | some r => some r
      | none => match jm_c1 e.1 e.2.1 pc L S G q with
        | some r => some r
        | none => match jm_a2 (jm_mx M) e.1 e.2.1 pc L S G q with
          | some r => some r
          | none => match jm_d2 M Ls xs bc bs e pc L S G q with
            | some r => some r
            | none => match jm_b2 e.1 e.2.1 pc L S G q with
              | some r => some r
              | none => jm_d3 e pc L S G q
section JM10
variable {p : Program} {l : Launch} {e : Env} {R : Room} {s : State} {m : MethodId} {args : Array Value} {below : List Frame} {meth : Method} {c : Code} {D : va_G} {h0 : Nat} {ex : Nat → Nat} {ka : Nat → ClassId} {Ls : Nat} {xs : Nat → Int32} {M : jm_M} {n0 : Nat} {Q : State → Prop} {i : jm_I} {pc : Nat} {L : List (Option Value)} {S : List Value} {G : jm_h} {cn sn : Nat} {st : jm_St} {YN : List MethodName} {TB : List jm_M}
set_option maxHeartbeats 4000000 in
theorem jm_d3_ok (C0 : jm_C p s m args meth c D h0 ex ka Ls xs M n0) (hfr : 1 ≤ R.frames) (hlo : 64 ≤ R.locals) (hc : jm_ck YN M pc i = true) (h : jm_d3 i pc L S G (cn, sn) = some st) (k : jm_W p l e R s m args below meth c D h0 ex ka M n0 Q st) : jm_W p l e R s m args below meth c D h0 ex ka M n0 Q (pc, L, S, G, cn, sn) := by
  have hd := jm_ck_dec hc
  obtain ⟨hx, hb, hml, hown, hts, hrt, hlk, hnm, hK, hz, hX⟩ := C0
  obtain ⟨ins, n, la, lb, po⟩ := i
  unfold jm_ck at hc
  rw [Bool.and_eq_true] at hc
  obtain ⟨-, hc⟩ := hc
  intro hlen H locs ls hR hS hl
  change jm_len G = n0 + cn at hlen
  change jm_R D h0 ex ka G H at hR
  change jm_L h0 ex ls (jm_mx M) L at hl
  unfold jm_d3 at h
  dsimp only at hd hc h
  split at h
  · split at h
    · rename_i hn
      obtain ⟨hn, hlb⟩ := hn
      subst hn
      split at h
      · rename_i a r
        split at h
        · rename_i hcs
          obtain ⟨hcs, ha8⟩ := hcs
          cases h
          dsimp only at hc
          rw [if_pos hlb] at hc
          show W p l e R s m args below meth c H locs cn sn Q (F0 m pc ls (jm_cv h0 ex (.ref a) :: r.map (jm_cv h0 ex)))
          rw [jm_cvr (fun e => by subst e; exact absurd ha8 (by decide))]
          have hroom := lv_room (m := m) (pc := pc) (ls := ls) (rest := .ref (jm_ad h0 ex a) :: r.map (jm_cv h0 ex)) (st := r.map (jm_cv h0 ex)) (by rw [jm_cs_cv]; exact hcs)
          exact W.objInit hx hb hown (hts _ (jm_at_mem hc)) (hts _ jm_winit.1) (hts _ jm_winit.2) rfl (by rw [hml]; exact hl.1) rfl hd hfr (by omega) (k hlen H locs ls hR hS hl)
        · cases h
      · cases h
    · cases h
  · split at h
    · rename_i hn
      obtain ⟨hn, hlb⟩ := hn
      subst hn
      split at h
      · rename_i nn dp a1 sp a0 r
        split at h
        · rename_i k0 m0 f k1 m1 g hg0 hg1
          split at h
          · rename_i hcond
            obtain ⟨⟨hk0, hk1⟩, ⟨b1, b2, b3⟩, ⟨b4, b5⟩, hcs⟩ := hcond
            subst hk0
            subst hk1
            cases h
            dsimp only at hc
            rw [if_pos hlb] at hc
            show W p l e R s m args below meth c H locs cn sn Q (F0 m pc ls (.int nn :: .int dp :: jm_cv h0 ex (.ref a1) :: .int sp :: jm_cv h0 ex (.ref a0) :: r.map (jm_cv h0 ex)))
            rw [jm_ref hg0, jm_ref hg1]
            refine va_copyi hx hb (by rw [hml]; exact hl.1.symm) hown (hts _ (jm_at_mem hc)) (hts _ jm_wcopy.1) (hts _ jm_wcopy.2.1) (hts _ jm_wcopy.2.2) hK hR.2 (jm_D h0 ex ka G) hS (jm_fi a0) (jm_fi a1) 0 0 (jm_at_w hR hg0) (jm_at_w hR hg1) rfl rfl rfl b1 b2 b3 b4 b5 (fun _ _ => rfl) hfr ?_ hd (fun H1 locs1 hP1 _ hS1 => ?_)
            · rw [jm_cs_cv]
              have : nativeFrameWords "java/lang/System" "arraycopy" 5 = 7 := by decide
              omega
            · rw [jm_cpy_eq] at hP1
              exact k (by rw [jm_s_len]; exact hlen) H1 locs1 ls (jm_R_set (d1 := .inl (0, m1, .inl (jm_cpy f g sp.toNatClampNeg dp.toNatClampNeg nn.toNatClampNeg))) hR hg1 hP1) hS1 hl
          · cases h
        · cases h
      · cases h
    · cases h
  · cases h
theorem jm_step_ok {bc bs : Nat} (C0 : jm_C p s m args meth c D h0 ex ka Ls xs M n0) (hbc : bc ≤ R.cells) (hbs : bs ≤ R.slots) (hfr : 1 ≤ R.frames) (hlo : 64 ≤ R.locals) (hc : jm_ck YN M pc i = true) (h : jm_step M Ls xs bc bs i pc L S G (cn, sn) = some st) (k : jm_W p l e R s m args below meth c D h0 ex ka M n0 Q st) : jm_W p l e R s m args below meth c D h0 ex ka M n0 Q (pc, L, S, G, cn, sn) := by
  have hd := jm_ck_dec hc
  unfold jm_step at h
  split at h
  · rename_i h1
    cases h
    exact jm_a1_ok C0 hd h1 k
  · split at h
    · rename_i h1
      cases h
      exact jm_d1_ok C0 hc h1 k
    · split at h
      · rename_i h1
        cases h
        exact jm_b1_ok C0 hd h1 k
      · split at h
        · rename_i h1
          cases h
          exact jm_c1_ok C0 hd h1 k
        · split at h
          · rename_i h1
            cases h
            exact jm_a2_ok C0 hd h1 k
          · split at h
            · rename_i h1
              cases h
              exact jm_d2_ok C0 hbc hbs hc h1 k
            · split at h
              · rename_i h1
                cases h
                exact jm_b2_ok C0 hd h1 k
              · exact jm_d3_ok C0 hfr hlo hc h k
end JM10
/-- a run from a state to the method's end: answer, cells, how many were made -/
def jm_ev (TB : List jm_M) (BG : List (Nat × Nat)) (Ls : Nat) (xs : Nat → Int32) : Nat → Nat → jm_M → Nat → Nat → Nat → List (Option Value) → List Value → jm_h → Nat → Nat → Option (Option Value × jm_h × Nat × Nat)
  | 0, _, _, _, _, _, _, _, _, _, _ => none
  | n + 1, d, M, bc, bs, pc, L, S, G, cn, sn => match jm_in M pc with
    | none => none
    | some e => match jm_step M Ls xs bc bs e pc L S G (cn, sn) with
      | some (pc', L', S', G', cn', sn') => jm_ev TB BG Ls xs n d M bc bs pc' L' S' G' cn' sn'
      | none => match jm_rf M e S with
        | some v => some (v, G, cn, sn)
        | none => match d with
          | 0 => none
          | d' + 1 => match jm_cf TB e G S, BG[e.2.2.1]? with
            | some (M1, As, rest), some (mc, ms) => if (jm_e1 As).length ≤ jm_mx M1 ∧ cn + mc ≤ bc ∧ sn + ms ≤ bs then (match jm_ev TB BG Ls xs n d' M1 mc ms 0 (jm_ent (jm_mx M1) As) [] G 0 0 with
              | some (v, G1, c1, s1) => if c1 = mc ∧ s1 ≤ ms then jm_ev TB BG Ls xs n d M bc bs (pc + 3) L (v.toList ++ rest) G1 (cn + mc) (sn + ms) else none
              | none => none) else none
            | _, _ => none
set_option maxHeartbeats 4000000 in
theorem jm_ev_ok {TB : List jm_M} {YN : List MethodName} {BG : List (Nat × Nat)} {Ls : Nat} {xs : Nat → Int32} (hTB : ∀ (k : Nat) (M' : jm_M), TB[k]? = some M' → jm_ok YN M') (hYN : YN = TB.map jm_y) :
    ∀ (n d : Nat) (M : jm_M) (bc bs pc : Nat) (L : List (Option Value)) (S : List Value) (G : jm_h) (cn sn : Nat) (v : Option Value) (G1 : jm_h) (c1 s1 : Nat), jm_tck YN M 0 (jm_tb M) = true → jm_ev TB BG Ls xs n d M bc bs pc L S G cn sn = some (v, G1, c1, s1) →
      ∀ {p : Program} {l : Launch} {e : Env} {s : State} {m : MethodId} {args : Array Value} {below : List Frame} {meth : Method} {c : Code} {D : va_G} {h0 : Nat} {ex : Nat → Nat} {ka : Nat → ClassId} {G0 : jm_h} {Post : Option Value → jm_h → Prop}, jm_C p s m args meth c D h0 ex ka Ls xs M (jm_len G0) → c1 = bc → s1 ≤ bs → Post v G1 →
      jm_W p l e (jm_room (d + 1) bc bs) s m args below meth c D h0 ex ka M (jm_len G0) (MQ below (jm_Qc D h0 ex ka bc G0 Post) args s bc bs (fun q => h0 ≤ q)) (pc, L, S, G, cn, sn) := by
  intro n
  induction n with
  | zero => intro d M bc bs pc L S G cn sn v G1 c1 s1 _ h; cases h
  | succ n ih =>
    intro d M bc bs pc L S G cn sn v G1 c1 s1 htc h p l e s m args below meth c D h0 ex ka G0 Post C0 hc1 hs1 hP
    rw [jm_ev] at h
    split at h
    · cases h
    · rename_i i hi
      have hc := jm_in_ck htc hi
      split at h
      · rename_i pc' L' S' G' cn' sn' hst
        exact jm_step_ok C0 (Nat.le_refl _) (Nat.le_refl _) (show 1 ≤ d + 1 by omega) (show 64 ≤ 64 * (d + 1) by omega) hc hst (ih d M bc bs pc' L' S' G' cn' sn' v G1 c1 s1 htc h C0 hc1 hs1 hP)
      · split at h
        · rename_i w hw
          cases h
          exact jm_ret_ok C0 hc hw hc1 hs1 hP
        · split at h
          · cases h
          · rename_i d'
            split at h
            · rename_i M1 As rest mc ms hcf hbg
              split at h
              · rename_i hcond
                obtain ⟨hA, hm1, hm2⟩ := hcond
                split at h
                · rename_i w G2 c2 s2 hev
                  split at h
                  · rename_i hcond2
                    obtain ⟨rfl, hs2⟩ := hcond2
                    have hM1 : jm_ok YN M1 := by
                      unfold jm_cf at hcf
                      have gen : ∀ {k : Nat} {X : jm_M}, TB[k]? = some X → jm_ok YN X := fun h => hTB _ _ h
                      split at hcf
                      · split at hcf
                        · split at hcf
                          · rename_i hq
                            split at hcf
                            · cases hcf; exact gen hq
                            · cases hcf
                          · cases hcf
                        · cases hcf
                      · split at hcf
                        · split at hcf
                          · rename_i hq
                            split at hcf
                            · split at hcf
                              · split at hcf
                                · cases hcf; exact gen hq
                                · cases hcf
                              · cases hcf
                            · cases hcf
                          · cases hcf
                        · cases hcf
                      · split at hcf
                        · split at hcf
                          · rename_i hq
                            split at hcf
                            · split at hcf
                              · split at hcf
                                · cases hcf; exact gen hq
                                · cases hcf
                              · cases hcf
                            · cases hcf
                          · cases hcf
                        · cases hcf
                      · cases hcf
                    have hT : jm_T Ls xs (d' + 1) M1 As G c2 ms (fun v G => v = w ∧ G = G2) := by
                      refine jm_T_intro hM1 hA (fun p l e s m args below meth c D h0 ex ka C1 => ?_)
                      exact ih d' M1 c2 ms 0 _ [] G 0 0 w G2 c2 s2 hM1.2.2.2.2.2.2.2.2.2 hev C1 rfl hs2 ⟨rfl, rfl⟩
                    refine jm_call_ok hTB hYN C0 hc hcf hT (show d' + 1 + 1 ≤ d' + 1 + 1 by omega) (show 64 * (d' + 1) + 64 ≤ 64 * (d' + 1 + 1) by omega) hm1 hm2 (fun v1 G3 hq hlen3 => ?_)
                    obtain ⟨rfl, rfl⟩ := hq
                    exact ih (d' + 1) M bc bs (pc + 3) L _ _ _ _ v G1 c1 s1 htc h C0 hc1 hs1 hP
                  · cases h
                · cases h
              · cases h
            · cases h
