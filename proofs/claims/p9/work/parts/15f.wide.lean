/-! ===== a call with up to twelve words below its arguments ===== -/
def jm_cw (TB : List jm_M) (e : jm_I) (G : jm_h) (S : List Value) : Option (jm_M × List Value × List Value) := match e.1 with
  | .invokevirtual _ => if e.2.1 = 3 ∧ e.2.2.2.1 = 0 then (match TB[e.2.2.1]? with
    | some M1 => if jm_kd M1 = 1 ∧ jm_na M1 ≤ S.length ∧ jm_mx M1 ≤ 40 then (match S.drop (jm_na M1) with
      | .ref b :: r => if jm_cs r ≤ 12 ∧ jm_rok G M1 b = true then some (M1, .ref b :: (S.take (jm_na M1)).reverse, r) else none
      | _ => none) else none
    | none => none) else none
  | _ => none
section WD
variable {p : Program} {l : Launch} {e : Env} {R : Room} {s : State} {m : MethodId} {args : Array Value} {below : List Frame} {meth : Method} {c : Code} {H : Heap} {locs : List Loc} {cells slots : Nat}
variable {y : MethodName} {bytes cc : ByteArray} {maxL nL mc ms n index : Nat} {ret : Option FieldType} {ws : List Cond} {rm : Room} {Pc : Array Value → State → Prop} {Qc : Array Value → State → Outcome → State → Prop} {free : Addr → Prop} {Ts : List Cond} {own C : String} {b : Addr} {As rest : List Value} {g : JFrame}
theorem wd_run (S : CallFix p m c cc nL s args Ts own) (hM : Met l y ws rm Pc Qc mc ms free) (cw : CallW R s args own C index y bytes maxL ret ws rm mc ms n) (hlo2 : 12 + (maxL + 11) + rm.locals ≤ R.locals) (hp : PreV s H C b Pc As)
    (hg : g.method = m) (hn : As.length = n) (hsize : g.locals.size = nL) (hstack : g.stack = As.reverse ++ .ref b :: rest) (hW : 2 * g.monitorRoom + (rest.map fun v => v.category).sum ≤ 12) (hdg : decode cc g.pc = .ok (.invokevirtual index, 3)) (hf : cells + mc ≤ R.cells ∧ slots + ms ≤ R.slots) :
    va_Run p l e R s m args below meth c H locs cells slots mc ms g rest (Qc (Value.ref b :: As).toArray) (free) := by
  have hK : Back l R p e below s args y 3 12 (PreOf R mc ms Pc) (PostOf Qc mc ms free) := by
    obtain ⟨⟨hrc, hrs, hfr, -, hws, hcw, -, hini, -⟩, -⟩ := cw
    exact back_of (bytes := bytes) (maxL := maxL) (ret := ret) hM hp.1 hrc hrs hfr hlo2 hws hcw (fun a' U hW => word_at hW (Or.inl (by first | rfl | simp [Cond.onTables, Cond.keeps, Cond.steady])) hini)
  obtain ⟨⟨-, -, -, -, -, -, hcode, -, hy, hlen, hl⟩, hin, hse⟩ := cw
  obtain ⟨hx, hb, hml, ho, -⟩ := S
  obtain ⟨-, ⟨cellB, hcB, hoB, hclB⟩, hPc⟩ := hp
  intro T hT X
  obtain ⟨v, vm₁, ⟨U', l2, c2, s2⟩, hW₁, X', ⟨g', mk, t, L, e1, e2, hq, h1, hL, h2, h3⟩, st⟩ := callV X hx (C := C) (bytes := bytes) (maxL := maxL) (ret := ret) ho hl hin hse hcode hy hK (by rw [hT]; exact hcB) hoB hclB hg (hsize.trans hml.symm) (argsL := As) (rest := rest) (fun sig h => hn.trans (hlen sig h)) hstack hW (by rw [hb]; exact hdg)
    (fun vm₁ hW₁ => ⟨hf.1, hf.2, hPc (T.setVm vm₁) hT hW₁⟩)
  dsimp only [Pt.U, Pt.locs, Pt.cells, Pt.slots] at X' e1 e2 h1 h2 h3 st
  subst h1; subst h2; subst h3
  exact ⟨v, (T.setVm vm₁).calling g' mk (Value.ref b :: As).toArray, t, U', L, hT, X', hL, e1, e2, hq, st⟩
end WD
theorem wd_room {m : MethodId} {pc : Nat} {ls : Array Slot} {rest st : List Value} (h : (st.map fun v => v.category).sum ≤ 12) : 2 * (F0 m pc ls rest).monitorRoom + (st.map fun v => v.category).sum ≤ 12 := by
  show 2 * 0 + _ ≤ 12
  omega
section WC
variable {p : Program} {l : Launch} {e : Env} {R : Room} {s : State} {m : MethodId} {args : Array Value} {below : List Frame} {meth : Method} {c : Code} {D : va_G} {h0 : Nat} {ex : Nat → Nat} {ka : Nat → ClassId} {Ls : Nat} {xs : Nat → Int32} {M : jm_M} {n0 : Nat} {Q : State → Prop} {i : jm_I} {pc : Nat} {L : List (Option Value)} {S : List Value} {G : jm_h} {cn sn : Nat} {st : jm_St} {YN : List MethodName} {TB : List jm_M}
set_option maxHeartbeats 4000000 in
theorem jm_wide_ok {d mc ms : Nat} {M1 : jm_M} {As rest : List Value} {Post : Option Value → jm_h → Prop} (hTB : ∀ (k : Nat) (M' : jm_M), TB[k]? = some M' → jm_ok YN M') (hYN : YN = TB.map jm_y) (C0 : jm_C p s m args meth c D h0 ex ka Ls xs M n0) (hc : jm_ck YN M pc i = true) (h : jm_cw TB i G S = some (M1, As, rest))
    (hT : jm_T Ls xs d M1 As G mc ms Post) (hfr : d + 1 ≤ R.frames) (hlo : 64 * d + 64 ≤ R.locals) (hcc : cn + mc ≤ R.cells) (hss : sn + ms ≤ R.slots)
    (k : ∀ (v : Option Value) (G1 : jm_h), Post v G1 → jm_len G1 = jm_len G + mc → jm_W p l e R s m args below meth c D h0 ex ka M n0 Q (pc + 3, L, v.toList ++ rest, G1, cn + mc, sn + ms)) : jm_W p l e R s m args below meth c D h0 ex ka M n0 Q (pc, L, S, G, cn, sn) := by
  have hd := jm_ck_dec hc
  obtain ⟨hx, hb, hml, hown, hts, hrt, hlk, hnm, hK, hz, hX⟩ := C0
  obtain ⟨ins, n, la, lb, po⟩ := i
  unfold jm_ck at hc
  rw [Bool.and_eq_true] at hc
  obtain ⟨-, hc⟩ := hc
  intro hlen H locs ls hR hS hl
  change jm_len G = n0 + cn at hlen
  change jm_R D h0 ex ka G H at hR
  change jm_L h0 ex ls (jm_mx M) L at hl
  show W p l e R s m args below meth c H locs cn sn Q (F0 m pc ls (S.map (jm_cv h0 ex)))
  refine jm_size hz hlen hR hS (fun hsz => ?_)
  have hPre : ∀ U : State, U.heap = H → s.WarmedH U.vm → jm_Pc D h0 ex ka Ls xs As G (As.map (jm_cv h0 ex)).toArray U := fun U hU hW => ⟨rfl, by rw [hU]; exact hsz, by rw [hU]; exact hR, va_K.moved hW.alike hK, jm_X_to hX hS hU hW⟩
  have fix : CallFix p m c (jm_b M) (jm_mx M) s args jm_tbl (jm_y M).cls := ⟨hx, hb, hml, hown, hts⟩
  have key : ∀ (M2 : jm_M), TB[la]? = some M2 → YN[la]? = some (jm_y M2) ∧ jm_ok YN M2 := fun M2 h2 => ⟨by rw [hYN, List.getElem?_map, h2]; rfl, hTB _ _ h2⟩
  have base : ∀ (M2 : jm_M) (idx : Nat), jm_ok YN M2 → (Cond.methodLink (jm_y M).cls idx (jm_y M2)).before args s = true → CallB R s args (jm_y M).cls idx (jm_y M2) (jm_b M2) (jm_mx M2) (jm_rt M2) (Cond.code (jm_y M2) (jm_b M2) (jm_mx M2) (jm_rt M2) :: jm_tbl) (jm_room d mc ms) mc ms (jm_na M2) := by
    intro M2 idx ok hlink
    obtain ⟨o1, o2, o3, o4, o5, o6, -⟩ := ok
    exact callB_of (jm_na M2) hts (jm_goodIn M2 o1) rfl rfl rfl (hts _ o2) hlink ⟨o4.1, o4.2, o5⟩ ⟨hfr, by show 8 + (jm_mx M2 + 11) + 64 * d ≤ R.locals; omega⟩
  unfold jm_cw at h
  dsimp only at hd h hc
  split at h
  · split at h
    · rename_i hn
      obtain ⟨hn, hlb⟩ := hn
      subst hn
      split at h
      · rename_i M2 hM2
        split at h
        · rename_i hcond
          obtain ⟨hkd, hna, hmx⟩ := hcond
          split at h
          · rename_i b r hdrop
            split at h
            · rename_i hcond2
              obtain ⟨hcs, hrok⟩ := hcond2
              cases h
              obtain ⟨hy, hok⟩ := key _ hM2
              dsimp only at hc
              rw [hy] at hc
              dsimp only at hc
              obtain ⟨w1, w2, w3⟩ := hok.2.2.2.2.2.2.2.1 hkd
              have hb6 : ¬ b = 6 := by
                unfold jm_rok at hrok
                split at hrok
                · have h4 := of_decide_eq_true hrok
                  exact fun e => by rw [h4] at e; exact absurd e (by decide)
                · split at hrok
                  · rename_i hg
                    have h8 := jm_g_ge hg
                    exact fun e => by rw [e] at h8; exact absurd h8 (by decide)
                  · cases hrok
              have hstk : S.map (jm_cv h0 ex) = (((S.take (jm_na M1)).reverse).map (jm_cv h0 ex)).reverse ++ .ref (jm_ad h0 ex b) :: rest.map (jm_cv h0 ex) := by
                rw [← List.map_reverse, List.reverse_reverse, show Value.ref (jm_ad h0 ex b) = jm_cv h0 ex (.ref b) from (jm_cvr hb6).symm, ← List.map_cons, ← hdrop, ← List.map_append, List.take_append_drop]
              have hlenA : (((S.take (jm_na M1)).reverse).map (jm_cv h0 ex)).length = jm_na M1 := by simp; omega
              have hPre' : ∀ U : State, U.heap = H → s.WarmedH U.vm → jm_Pc D h0 ex ka Ls xs (.ref b :: (S.take (jm_na M1)).reverse) G (Value.ref (jm_ad h0 ex b) :: ((S.take (jm_na M1)).reverse).map (jm_cv h0 ex)).toArray U := by
                rw [← jm_cvr (h0 := h0) (ex := ex) hb6]
                exact hPre
              have hrecv : ∃ cellB : Cell, H[jm_ad h0 ex b]? = some cellB ∧ cellB.vm.isStatics = false ∧ s.vm.findClass (jm_y M1).cls = some cellB.cls := by
                unfold jm_rok at hrok
                by_cases h100 : jm_rc M1 = 100
                · rw [if_pos h100] at hrok
                  have hb4 := of_decide_eq_true hrok
                  subst hb4
                  rcases w3 with ⟨-, w3⟩ | w3
                  · obtain ⟨cell, c1, c2, c3, -⟩ := (hX.2.2.2.2.2.1.1).kept hS.2.1
                    exact ⟨cell, c1, c2, by rw [w3]; exact c3⟩
                  · rw [h100] at w3
                    simp [vwCl] at w3
                · rw [if_neg h100] at hrok
                  split at hrok
                  · rename_i ci fs hg
                    have hci := of_decide_eq_true hrok
                    rcases w3 with ⟨w3, -⟩ | w3
                    · exact absurd w3 h100
                    · cases hq : vwCl[jm_rc M1]? with
                      | none => rw [hq] at w3; cases w3
                      | some q =>
                        rw [hq] at w3
                        have w3 : q.1 = (jm_y M1).cls := Option.some.inj w3
                        have := va_recv (ci := ci) (q0 := jm_fi b) hK hR.2 (by rw [hci]; exact hq) (jm_at_w hR hg)
                        rw [jm_g_ad hg, ← w3]
                        exact this
                  · cases hrok
              have h1 : ¬ lb = 1 := by omega
              rw [if_neg h1] at hc
              exact jm_cont (wd_run (C := (jm_y M1).cls) (b := jm_ad h0 ex b) (g := F0 m pc ls (S.map (jm_cv h0 ex))) (As := ((S.take (jm_na M1)).reverse).map (jm_cv h0 ex)) (rest := rest.map (jm_cv h0 ex)) fix (hT l D h0 ex ka) ⟨base M1 _ hok (hts _ (jm_at_mem hc)), hts _ w1, hts _ w2⟩ (by show 12 + (jm_mx M1 + 11) + 64 * d ≤ R.locals; omega) ⟨jm_Pc_blind, hrecv, hPre'⟩ rfl hlenA hl.1 hstk (wd_room (by rw [jm_cs_cv]; exact hcs)) hd ⟨hcc, hss⟩) hS hl hlen k
            · cases h
          · cases h
        · cases h
      · cases h
    · cases h
  · cases h
end WC
def sy_cwd (TB : List jm_M) (e : jm_I) (G : sy_h) (S : List sy_v) : Option (jm_M × List sy_v × List sy_v) := match e.1 with
  | .invokevirtual _ => if e.2.1 = 3 ∧ e.2.2.2.1 = 0 then (match TB[e.2.2.1]? with
    | some M1 => if jm_kd M1 = 1 ∧ jm_na M1 ≤ S.length ∧ jm_mx M1 ≤ 40 then (match S.drop (jm_na M1) with
      | .inl (.ref b) :: r => if (r.map sy_cat).sum ≤ 12 ∧ sy_rok G M1 b = true then some (M1, .inl (.ref b) :: (S.take (jm_na M1)).reverse, r) else none
      | _ => none) else none
    | none => none) else none
  | _ => none
def sy_c2 (TB : List jm_M) (e : jm_I) (G : sy_h) (S : List sy_v) : Option (jm_M × List sy_v × List sy_v) := match sy_cf TB e G S with
  | some r => some r
  | none => sy_cwd TB e G S
noncomputable def zz_cwd (TB : List jm_M) (e : jm_I) (G : sy_h) (S : List sy_v) : Option (jm_M × List sy_v × List sy_v) := match e.1 with
  | .invokevirtual _ => if e.2.1 = 3 ∧ e.2.2.2.1 = 0 then (match fz_at TB e.2.2.1 with
    | some M1 => if jm_kd M1 = 1 ∧ jm_na M1 ≤ S.length ∧ jm_mx M1 ≤ 40 then (match S.drop (jm_na M1) with
      | .inl (.ref b) :: r => if (r.map sy_cat).sum ≤ 12 ∧ zz_rok G M1 b = true then some (M1, .inl (.ref b) :: (S.take (jm_na M1)).reverse, r) else none
      | _ => none) else none
    | none => none) else none
  | _ => none
noncomputable def zz_c2 (TB : List jm_M) (e : jm_I) (G : sy_h) (S : List sy_v) : Option (jm_M × List sy_v × List sy_v) := match zz_cf TB e G S with
  | some r => some r
  | none => zz_cwd TB e G S
theorem zz_cwd_eq (TB : List jm_M) (e : jm_I) (G : sy_h) (S : List sy_v) : zz_cwd TB e G S = sy_cwd TB e G S := by
  unfold zz_cwd sy_cwd
  simp only [fz_at_eq, zz_rok_eq]
theorem zz_c2_eq (TB : List jm_M) (e : jm_I) (G : sy_h) (S : List sy_v) : zz_c2 TB e G S = sy_c2 TB e G S := by
  unfold zz_c2 sy_c2
  rw [zz_cwd_eq, zz_cf_eq]
theorem sy_cf_at {TB : List jm_M} {e : jm_I} {G : sy_h} {S As rest : List sy_v} {M1 : jm_M} (hcf : sy_cf TB e G S = some (M1, As, rest)) : TB[e.2.2.1]? = some M1 := by
  unfold sy_cf at hcf
  split at hcf
  · split at hcf
    · split at hcf
      · rename_i hq
        split at hcf
        · cases hcf; exact hq
        · cases hcf
      · cases hcf
    · cases hcf
  · split at hcf
    · split at hcf
      · rename_i hq
        split at hcf
        · split at hcf
          · split at hcf
            · cases hcf; exact hq
            · cases hcf
          · cases hcf
        · cases hcf
      · cases hcf
    · cases hcf
  · cases hcf
theorem sy_cwd_at {TB : List jm_M} {e : jm_I} {G : sy_h} {S As rest : List sy_v} {M1 : jm_M} (hcf : sy_cwd TB e G S = some (M1, As, rest)) : TB[e.2.2.1]? = some M1 := by
  unfold sy_cwd at hcf
  split at hcf
  · split at hcf
    · split at hcf
      · rename_i hq
        split at hcf
        · split at hcf
          · split at hcf
            · cases hcf; exact hq
            · cases hcf
          · cases hcf
        · cases hcf
      · cases hcf
    · cases hcf
  · cases hcf
theorem sy_c2_or {TB : List jm_M} {e : jm_I} {G : sy_h} {S : List sy_v} {r : jm_M × List sy_v × List sy_v} (h : sy_c2 TB e G S = some r) : sy_cf TB e G S = some r ∨ sy_cwd TB e G S = some r := by
  unfold sy_c2 at h
  split at h
  · rename_i r' h1
    cases h
    exact Or.inl h1
  · exact Or.inr h
theorem sy_c2_at {TB : List jm_M} {e : jm_I} {G : sy_h} {S As rest : List sy_v} {M1 : jm_M} (hcf : sy_c2 TB e G S = some (M1, As, rest)) : TB[e.2.2.1]? = some M1 := by
  rcases sy_c2_or hcf with h | h
  · exact sy_cf_at h
  · exact sy_cwd_at h
theorem sy_cwd_ok {TB : List jm_M} {e : jm_I} {G : sy_h} {S As rest : List sy_v} {M1 : jm_M} (h : sy_cwd TB e G S = some (M1, As, rest)) (F : Nat → sy_d) (X1 X2 : List jm_c) : jm_cw TB e (sy_dh F X1 X2 G) (sy_dS F S) = some (M1, As.map (sy_dv F), rest.map (sy_dv F)) := by
  obtain ⟨ins, n, la, lb, po⟩ := e
  unfold sy_cwd at h
  dsimp only at h
  split at h
  · split at h
    · rename_i hn
      split at h
      · rename_i M2 hM
        split at h
        · rename_i hc
          split at h
          · rename_i b r hd
            split at h
            · rename_i hc2
              cases h
              have hcond : jm_kd M1 = 1 ∧ jm_na M1 ≤ (sy_dS F S).length ∧ jm_mx M1 ≤ 40 := ⟨hc.1, by simpa [sy_dS] using hc.2.1, hc.2.2⟩
              have hd2 : (sy_dS F S).drop (jm_na M1) = .ref b :: rest.map (sy_dv F) := by
                rw [sy_dS, ← List.map_drop, hd]
                rfl
              have hcond2 : jm_cs (rest.map (sy_dv F)) ≤ 12 ∧ jm_rok (sy_dh F X1 X2 G) M1 b = true := ⟨by rw [sy_cs_ok]; exact hc2.1, sy_rok_ok hc2.2⟩
              simp only [jm_cw, if_pos hn, hM, if_pos hcond, hd2, if_pos hcond2]
              simp only [sy_dS, List.map_cons, List.map_reverse, List.map_take, sy_dvl]
            · cases h
          · cases h
        · cases h
      · cases h
    · cases h
  · cases h
section WE
variable {p : Program} {l : Launch} {e : Env} {R : Room} {s : State} {m : MethodId} {args : Array Value} {below : List Frame} {meth : Method} {c : Code} {D : va_G} {h0 : Nat} {ex : Nat → Nat} {ka : Nat → ClassId} {Ls : Nat} {xs : Nat → Int32} {M : jm_M} {n0 : Nat} {Q : State → Prop} {i : jm_I} {pc : Nat} {cn sn : Nat} {YN : List MethodName} {TB : List jm_M}
theorem sy_call_ok {d mc ms : Nat} {M1 : jm_M} {L : List (Option Value)} {S As rest : List sy_v} {G : sy_h} {Post : Option Value → jm_h → Prop} (hTB : ∀ (k : Nat) (M' : jm_M), TB[k]? = some M' → jm_ok YN M') (hYN : YN = TB.map jm_y) (C0 : jm_C p s m args meth c D h0 ex ka Ls xs M n0) (hc : jm_ck YN M pc i = true) (h : sy_c2 TB i G S = some (M1, As, rest)) (F : Nat → sy_d) (X1 X2 : List jm_c)
    (hT : jm_T Ls xs d M1 (As.map (sy_dv F)) (sy_dh F X1 X2 G) mc ms Post) (hfr : d + 1 ≤ R.frames) (hlo : 64 * d + 64 ≤ R.locals) (hcc : cn + mc ≤ R.cells) (hss : sn + ms ≤ R.slots)
    (k : ∀ (v : Option Value) (G1 : jm_h), Post v G1 → jm_len G1 = jm_len (sy_dh F X1 X2 G) + mc → jm_W p l e R s m args below meth c D h0 ex ka M n0 Q (pc + 3, L, v.toList ++ rest.map (sy_dv F), G1, cn + mc, sn + ms)) : jm_W p l e R s m args below meth c D h0 ex ka M n0 Q (pc, L, sy_dS F S, sy_dh F X1 X2 G, cn, sn) := by
  rcases sy_c2_or h with h | h
  · exact jm_call_ok hTB hYN C0 hc (sy_cf_ok h F X1 X2) hT hfr hlo hcc hss k
  · exact jm_wide_ok hTB hYN C0 hc (sy_cwd_ok h F X1 X2) hT hfr hlo hcc hss k
end WE
