/-! ===== calls ===== -/
/-- a call: the callee, its arguments (a receiver first), what stays on the stack -/
def jm_sp (n : Nat) (S : List Value) : List Value × List Value := ((S.take n).reverse, S.drop n)
def jm_cs (r : List Value) : Nat := (r.map fun v => v.category).sum
def jm_rok (G : jm_h) (M1 : jm_M) (b : Nat) : Bool := if jm_rc M1 = 100 then decide (b = 4) else (match jm_g G b with
  | some (.inr (ci, _)) => decide (ci = jm_rc M1)
  | _ => false)
def jm_cf (TB : List jm_M) (e : jm_I) (G : jm_h) (S : List Value) : Option (jm_M × List Value × List Value) := match e.1 with
  | .invokestatic _ => if e.2.1 = 3 ∧ e.2.2.2.1 < 2 then (match TB[e.2.2.1]? with
    | some M1 => if jm_kd M1 = 0 ∧ jm_na M1 ≤ S.length ∧ jm_cs (S.drop (jm_na M1)) ≤ 8 then some (M1, (S.take (jm_na M1)).reverse, S.drop (jm_na M1)) else none
    | none => none) else none
  | .invokevirtual _ => if e.2.1 = 3 ∧ e.2.2.2.1 < 2 then (match TB[e.2.2.1]? with
    | some M1 => if jm_kd M1 = 1 ∧ jm_na M1 ≤ S.length then (match S.drop (jm_na M1) with
      | .ref b :: r => if jm_cs r ≤ 8 ∧ jm_rok G M1 b = true then some (M1, .ref b :: (S.take (jm_na M1)).reverse, r) else none
      | _ => none) else none
    | none => none) else none
  | .invokespecial _ => if e.2.1 = 3 ∧ e.2.2.2.1 < 2 then (match TB[e.2.2.1]? with
    | some M1 => if jm_kd M1 = 2 ∧ jm_na M1 ≤ S.length then (match S.drop (jm_na M1) with
      | .ref b :: r => if jm_cs r ≤ 8 ∧ 8 ≤ b then some (M1, .ref b :: (S.take (jm_na M1)).reverse, r) else none
      | _ => none) else none
    | none => none) else none
  | _ => none
theorem jm_cs_cv (h0 : Nat) (ex : Nat → Nat) (r : List Value) : ((r.map (jm_cv h0 ex)).map fun v => v.category).sum = jm_cs r := by
  unfold jm_cs
  congr 1
  rw [List.map_map]
  apply List.map_congr_left
  intro v _
  exact jm_cv_cat h0 ex v
theorem jm_Pc_blind {D : va_G} {h0 : Nat} {ex : Nat → Nat} {ka : Nat → ClassId} {Ls : Nat} {xs : Nat → Int32} {As : List Value} {G : jm_h} : FrameBlind (jm_Pc D h0 ex ka Ls xs As G) := by
  intro a U g mk h
  obtain ⟨h1, h2, h3, h4, h5⟩ := h
  exact ⟨h1, h2, h3, va_K.moved (u := U) (U := U.calling g mk a) (Vm.Alike.refl U.vm) h4, jm_X_call h5⟩
theorem jm_goodIn (M1 : jm_M) (h : Cond.code (jm_y M1) (jm_b M1) (jm_mx M1) (jm_rt M1) ∈ jm_tbl) : GoodIn jm_tbl (Cond.code (jm_y M1) (jm_b M1) (jm_mx M1) (jm_rt M1) :: jm_tbl) := by
  intro w hw
  rcases List.mem_cons.mp hw with rfl | hw
  · exact ⟨h, jm_tbl_good h⟩
  · exact ⟨hw, jm_tbl_good hw⟩
section JM9
variable {p : Program} {l : Launch} {e : Env} {R : Room} {s : State} {m : MethodId} {args : Array Value} {below : List Frame} {meth : Method} {c : Code} {D : va_G} {h0 : Nat} {ex : Nat → Nat} {ka : Nat → ClassId} {Ls : Nat} {xs : Nat → Int32} {M : jm_M} {n0 : Nat} {Q : State → Prop} {i : jm_I} {pc : Nat} {L : List (Option Value)} {S : List Value} {G : jm_h} {cn sn : Nat} {st : jm_St} {YN : List MethodName} {TB : List jm_M}
/-- behind a call -/
theorem jm_cont {H : Heap} {locs : List Loc} {ls : Array Slot} {mc ms : Nat} {st0 rest : List Value} {a : Array Value} {Post : Option Value → jm_h → Prop}
    (hr : va_Run p l e R s m args below meth c H locs cn sn mc ms (F0 m pc ls st0) (rest.map (jm_cv h0 ex)) (jm_Qc D h0 ex ka mc G Post a) (fun q => h0 ≤ q)) (hS : va_S (fun q => h0 ≤ q) s.heap H locs) (hl : jm_L h0 ex ls (jm_mx M) L) (hlen : jm_len G = n0 + cn)
    (k : ∀ (v : Option Value) (G1 : jm_h), Post v G1 → jm_len G1 = jm_len G + mc → jm_W p l e R s m args below meth c D h0 ex ka M n0 Q (pc + 3, L, v.toList ++ rest, G1, cn + mc, sn + ms)) : W p l e R s m args below meth c H locs cn sn Q (F0 m pc ls st0) := by
  intro T hT X
  obtain ⟨v, st₀, t, T', L', e0, X', hL, e1, e2, ⟨⟨v1, G1, hP, hlen1, ho, hR1⟩, hz, hk⟩, go⟩ := hr T hT X
  cases ho
  rw [e0] at hz hk
  have hS1 : va_S (fun q => h0 ≤ q) s.heap T'.heap (locs ++ L') := by
    rw [e1]
    refine ⟨Nat.le_trans hS.1 hz, fun q h1 h2 => (hk q (Nat.lt_of_lt_of_le h1 hS.1) h2).trans (hS.2.1 q h1 h2), fun q hq => ?_⟩
    rcases List.mem_append.mp hq with h | h
    · exact hS.2.2 q h
    · exact hL q h
  obtain ⟨t2, a1, b1⟩ := k v1 G1 hP hlen1 (show jm_len G1 = n0 + (cn + mc) by omega) T'.heap (locs ++ L') ls (by rw [e1]; exact hR1) hS1 hl T' rfl X'
  refine ⟨t2, go t2 ?_, b1⟩
  have : (v1.toList ++ rest).map (jm_cv h0 ex) = (v1.map (jm_cv h0 ex)).toList ++ rest.map (jm_cv h0 ex) := by cases v1 <;> simp
  dsimp only at a1
  rw [this] at a1
  exact a1
set_option maxHeartbeats 8000000 in
theorem jm_call_ok {d mc ms : Nat} {M1 : jm_M} {As rest : List Value} {Post : Option Value → jm_h → Prop} (hTB : ∀ (k : Nat) (M' : jm_M), TB[k]? = some M' → jm_ok YN M') (hYN : YN = TB.map jm_y) (C0 : jm_C p s m args meth c D h0 ex ka Ls xs M n0) (hc : jm_ck YN M pc i = true) (h : jm_cf TB i G S = some (M1, As, rest))
    (hT : jm_T Ls xs d M1 As G mc ms Post) (hfr : d + 1 ≤ R.frames) (hlo : 64 * d + 64 ≤ R.locals) (hcc : cn + mc ≤ R.cells) (hss : sn + ms ≤ R.slots)
    (k : ∀ (v : Option Value) (G1 : jm_h), Post v G1 → jm_len G1 = jm_len G + mc → jm_W p l e R s m args below meth c D h0 ex ka M n0 Q (pc + 3, L, v.toList ++ rest, G1, cn + mc, sn + ms)) : jm_W p l e R s m args below meth c D h0 ex ka M n0 Q (pc, L, S, G, cn, sn) := by
  have hd := jm_ck_dec hc
  obtain ⟨hx, hb, hml, hown, hts, hrt, hlk, hnm, hK, hz, hX⟩ := C0
  obtain ⟨ins, n, la, lb, po⟩ := i
  unfold jm_ck at hc
  rw [Bool.and_eq_true] at hc
  obtain ⟨-, hc⟩ := hc
  intro hlen H locs ls hR hS hl
  change jm_len G = n0 + cn at hlen
  change jm_R D h0 ex ka G H at hR
  change jm_L h0 ex ls (jm_mx M) L at hl
  show W p l e R s m args below meth c H locs cn sn Q (F0 m pc ls (S.map (jm_cv h0 ex)))
  refine jm_size hz hlen hR hS (fun hsz => ?_)
  have hPre : ∀ U : State, U.heap = H → s.WarmedH U.vm → jm_Pc D h0 ex ka Ls xs As G (As.map (jm_cv h0 ex)).toArray U := fun U hU hW => ⟨rfl, by rw [hU]; exact hsz, by rw [hU]; exact hR, va_K.moved hW.alike hK, jm_X_to hX hS hU hW⟩
  have fix : CallFix p m c (jm_b M) (jm_mx M) s args jm_tbl (jm_y M).cls := ⟨hx, hb, hml, hown, hts⟩
  have key : ∀ (M2 : jm_M), TB[la]? = some M2 → YN[la]? = some (jm_y M2) ∧ jm_ok YN M2 := fun M2 h2 => ⟨by rw [hYN, List.getElem?_map, h2]; rfl, hTB _ _ h2⟩
  have base : ∀ (M2 : jm_M) (idx : Nat), jm_ok YN M2 → (Cond.methodLink (jm_y M).cls idx (jm_y M2)).before args s = true → CallB R s args (jm_y M).cls idx (jm_y M2) (jm_b M2) (jm_mx M2) (jm_rt M2) (Cond.code (jm_y M2) (jm_b M2) (jm_mx M2) (jm_rt M2) :: jm_tbl) (jm_room d mc ms) mc ms (jm_na M2) := by
    intro M2 idx ok hlink
    obtain ⟨o1, o2, o3, o4, o5, o6, -⟩ := ok
    exact callB_of (jm_na M2) hts (jm_goodIn M2 o1) rfl rfl rfl (hts _ o2) hlink ⟨o4.1, o4.2, o5⟩ ⟨hfr, by show 8 + (jm_mx M2 + 11) + 64 * d ≤ R.locals; omega⟩
  have nest : ∀ (M2 : jm_M) (idx : Nat), jm_ok YN M2 → (Cond.methodLinkNest (jm_y M).cls idx (jm_y M2) "FallMarket").before args s = true → va_CN R s args (jm_y M).cls idx (jm_y M2) "FallMarket" (jm_b M2) (jm_mx M2) (jm_rt M2) (Cond.code (jm_y M2) (jm_b M2) (jm_mx M2) (jm_rt M2) :: jm_tbl) (jm_room d mc ms) mc ms (jm_na M2) := by
    intro M2 idx ok hlink
    obtain ⟨o1, o2, o3, o4, o5, o6, -⟩ := ok
    refine ⟨⟨rfl, rfl, hfr, by show 8 + (jm_mx M2 + 11) + 64 * d ≤ R.locals; omega, pay_in hts (jm_goodIn M2 o1), List.mem_cons_self⟩, hts _ o1, hts _ o2, o4, fun sig hsig => ?_, hlink⟩
    rw [hsig] at o5
    exact (Option.some.inj o5).symm
  unfold jm_cf at h
  dsimp only at hd h hc
  split at h
  · split at h
    · rename_i hn
      obtain ⟨hn, hlb⟩ := hn
      subst hn
      split at h
      · rename_i M2 hM2
        split at h
        · rename_i hcond
          obtain ⟨hkd, hna, hcs⟩ := hcond
          cases h
          obtain ⟨hy, hok⟩ := key _ hM2
          dsimp only at hc
          have hlb2 : ¬ lb = 2 := by omega
          rw [if_neg hlb2, hy] at hc
          dsimp only at hc
          have hstk : S.map (jm_cv h0 ex) = (((S.take (jm_na M1)).reverse).map (jm_cv h0 ex)).reverse ++ (S.drop (jm_na M1)).map (jm_cv h0 ex) := by rw [← List.map_reverse, List.reverse_reverse, ← List.map_append, List.take_append_drop]
          have hlenA : (((S.take (jm_na M1)).reverse).map (jm_cv h0 ex)).length = jm_na M1 := by simp; omega
          by_cases h1 : lb = 1
          · rw [if_pos h1] at hc
            exact jm_cont (va_runSN (g := F0 m pc ls (S.map (jm_cv h0 ex))) (As := ((S.take (jm_na M1)).reverse).map (jm_cv h0 ex)) (rest := (S.drop (jm_na M1)).map (jm_cv h0 ex)) fix (hT l D h0 ex ka) ⟨nest M1 _ hok (jm_atn_use hc hX.2.2.2.2.2.2.2.2), hts _ (hok.2.2.2.2.2.2.1 hkd), trivial⟩ ⟨jm_Pc_blind, hPre⟩ rfl hlenA hl.1 hstk (lv_room (by rw [jm_cs_cv]; exact hcs)) hd ⟨hcc, hss⟩) hS hl hlen k
          · rw [if_neg h1] at hc
            exact jm_cont (va_runS (g := F0 m pc ls (S.map (jm_cv h0 ex))) (As := ((S.take (jm_na M1)).reverse).map (jm_cv h0 ex)) (rest := (S.drop (jm_na M1)).map (jm_cv h0 ex)) fix (hT l D h0 ex ka) ⟨base M1 _ hok (hts _ (jm_at_mem hc)), hts _ (hok.2.2.2.2.2.2.1 hkd)⟩ ⟨jm_Pc_blind, hPre⟩ rfl hlenA hl.1 hstk (lv_room (by rw [jm_cs_cv]; exact hcs)) hd ⟨hcc, hss⟩) hS hl hlen k
        · cases h
      · cases h
    · cases h
  · split at h
    · rename_i hn
      obtain ⟨hn, hlb⟩ := hn
      subst hn
      split at h
      · rename_i M2 hM2
        split at h
        · rename_i hcond
          obtain ⟨hkd, hna⟩ := hcond
          split at h
          · rename_i b r hdrop
            split at h
            · rename_i hcond2
              obtain ⟨hcs, hrok⟩ := hcond2
              cases h
              obtain ⟨hy, hok⟩ := key _ hM2
              dsimp only at hc
              rw [hy] at hc
              dsimp only at hc
              obtain ⟨w1, w2, w3⟩ := hok.2.2.2.2.2.2.2.1 hkd
              have hb6 : ¬ b = 6 := by
                unfold jm_rok at hrok
                split at hrok
                · have h4 := of_decide_eq_true hrok
                  exact fun e => by rw [h4] at e; exact absurd e (by decide)
                · split at hrok
                  · rename_i hg
                    have h8 := jm_g_ge hg
                    exact fun e => by rw [e] at h8; exact absurd h8 (by decide)
                  · cases hrok
              have hstk : S.map (jm_cv h0 ex) = (((S.take (jm_na M1)).reverse).map (jm_cv h0 ex)).reverse ++ .ref (jm_ad h0 ex b) :: rest.map (jm_cv h0 ex) := by
                rw [← List.map_reverse, List.reverse_reverse, show Value.ref (jm_ad h0 ex b) = jm_cv h0 ex (.ref b) from (jm_cvr hb6).symm, ← List.map_cons, ← hdrop, ← List.map_append, List.take_append_drop]
              have hlenA : (((S.take (jm_na M1)).reverse).map (jm_cv h0 ex)).length = jm_na M1 := by simp; omega
              have hPre' : ∀ U : State, U.heap = H → s.WarmedH U.vm → jm_Pc D h0 ex ka Ls xs (.ref b :: (S.take (jm_na M1)).reverse) G (Value.ref (jm_ad h0 ex b) :: ((S.take (jm_na M1)).reverse).map (jm_cv h0 ex)).toArray U := by
                rw [← jm_cvr (h0 := h0) (ex := ex) hb6]
                exact hPre
              have hrecv : ∃ cellB : Cell, H[jm_ad h0 ex b]? = some cellB ∧ cellB.vm.isStatics = false ∧ s.vm.findClass (jm_y M1).cls = some cellB.cls := by
                unfold jm_rok at hrok
                by_cases h100 : jm_rc M1 = 100
                · rw [if_pos h100] at hrok
                  have hb4 := of_decide_eq_true hrok
                  subst hb4
                  rcases w3 with ⟨-, w3⟩ | w3
                  · obtain ⟨cell, c1, c2, c3, -⟩ := (hX.2.2.2.2.2.1.1).kept hS.2.1
                    exact ⟨cell, c1, c2, by rw [w3]; exact c3⟩
                  · rw [h100] at w3
                    simp [vwCl] at w3
                · rw [if_neg h100] at hrok
                  split at hrok
                  · rename_i ci fs hg
                    have hci := of_decide_eq_true hrok
                    rcases w3 with ⟨w3, -⟩ | w3
                    · exact absurd w3 h100
                    · cases hq : vwCl[jm_rc M1]? with
                      | none => rw [hq] at w3; cases w3
                      | some q =>
                        rw [hq] at w3
                        have w3 : q.1 = (jm_y M1).cls := Option.some.inj w3
                        have := va_recv (ci := ci) (q0 := jm_fi b) hK hR.2 (by rw [hci]; exact hq) (jm_at_w hR hg)
                        rw [jm_g_ad hg, ← w3]
                        exact this
                  · cases hrok
              by_cases h1 : lb = 1
              · rw [if_pos h1] at hc
                exact jm_cont (va_runVN (C := (jm_y M1).cls) (b := jm_ad h0 ex b) (g := F0 m pc ls (S.map (jm_cv h0 ex))) (As := ((S.take (jm_na M1)).reverse).map (jm_cv h0 ex)) (rest := rest.map (jm_cv h0 ex)) fix (hT l D h0 ex ka) ⟨nest M1 _ hok (jm_atn_use hc hX.2.2.2.2.2.2.2.2), hts _ w1, hts _ w2⟩ ⟨jm_Pc_blind, hrecv, hPre'⟩ rfl hlenA hl.1 hstk (lv_room (by rw [jm_cs_cv]; exact hcs)) hd ⟨hcc, hss⟩) hS hl hlen k
              · rw [if_neg h1] at hc
                exact jm_cont (va_runV (C := (jm_y M1).cls) (b := jm_ad h0 ex b) (g := F0 m pc ls (S.map (jm_cv h0 ex))) (As := ((S.take (jm_na M1)).reverse).map (jm_cv h0 ex)) (rest := rest.map (jm_cv h0 ex)) fix (hT l D h0 ex ka) ⟨base M1 _ hok (hts _ (jm_at_mem hc)), hts _ w1, hts _ w2⟩ ⟨jm_Pc_blind, hrecv, hPre'⟩ rfl hlenA hl.1 hstk (lv_room (by rw [jm_cs_cv]; exact hcs)) hd ⟨hcc, hss⟩) hS hl hlen k
            · cases h
          · cases h
        · cases h
      · cases h
    · cases h
  · split at h
    · rename_i hn
      obtain ⟨hn, hlb⟩ := hn
      subst hn
      split at h
      · rename_i M2 hM2
        split at h
        · rename_i hcond
          obtain ⟨hkd, hna⟩ := hcond
          split at h
          · rename_i b r hdrop
            split at h
            · rename_i hcs
              obtain ⟨hcs, hb8⟩ := hcs
              cases h
              have hb6 : ¬ b = 6 := fun e => by subst e; exact absurd hb8 (by decide)
              obtain ⟨hy, hok⟩ := key _ hM2
              dsimp only at hc
              have hlb2 : ¬ lb = 2 := by omega
              rw [if_neg hlb2, hy] at hc
              dsimp only at hc
              obtain ⟨w1, w2, w3⟩ := hok.2.2.2.2.2.2.2.2.1 hkd
              have hstk : S.map (jm_cv h0 ex) = (((S.take (jm_na M1)).reverse).map (jm_cv h0 ex)).reverse ++ .ref (jm_ad h0 ex b) :: rest.map (jm_cv h0 ex) := by
                rw [← List.map_reverse, List.reverse_reverse, show Value.ref (jm_ad h0 ex b) = jm_cv h0 ex (.ref b) from (jm_cvr hb6).symm, ← List.map_cons, ← hdrop, ← List.map_append, List.take_append_drop]
              have hlenA : (((S.take (jm_na M1)).reverse).map (jm_cv h0 ex)).length = jm_na M1 := by simp; omega
              have hPre' : ∀ U : State, U.heap = H → s.WarmedH U.vm → jm_Pc D h0 ex ka Ls xs (.ref b :: (S.take (jm_na M1)).reverse) G (Value.ref (jm_ad h0 ex b) :: ((S.take (jm_na M1)).reverse).map (jm_cv h0 ex)).toArray U := by
                rw [← jm_cvr (h0 := h0) (ex := ex) hb6]
                exact hPre
              by_cases h1 : lb = 1
              · rw [if_pos h1] at hc
                have hb := nest M1 _ hok (jm_atn_use hc hX.2.2.2.2.2.2.2.2)
                have hM := hT l D h0 ex ka
                rw [w3] at hb hM
                exact jm_cont (va_runIN (b := jm_ad h0 ex b) (g := F0 m pc ls (S.map (jm_cv h0 ex))) (As := ((S.take (jm_na M1)).reverse).map (jm_cv h0 ex)) (rest := rest.map (jm_cv h0 ex)) fix hM ⟨hb, w2, hts _ w1⟩ ⟨jm_Pc_blind, hPre'⟩ rfl hlenA hl.1 hstk (lv_room (by rw [jm_cs_cv]; exact hcs)) hd ⟨hcc, hss⟩) hS hl hlen k
              · rw [if_neg h1] at hc
                have hb := base M1 _ hok (hts _ (jm_at_mem hc))
                have hM := hT l D h0 ex ka
                rw [w3] at hb hM
                exact jm_cont (va_runI (b := jm_ad h0 ex b) (g := F0 m pc ls (S.map (jm_cv h0 ex))) (As := ((S.take (jm_na M1)).reverse).map (jm_cv h0 ex)) (rest := rest.map (jm_cv h0 ex)) fix hM ⟨hb, w2, hts _ w1⟩ ⟨jm_Pc_blind, hPre'⟩ rfl hlenA hl.1 hstk (lv_room (by rw [jm_cs_cv]; exact hcs)) hd ⟨hcc, hss⟩) hS hl hlen k
            · cases h
          · cases h
        · cases h
      · cases h
    · cases h
  · cases h
end JM9
