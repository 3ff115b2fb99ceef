/-! ===== the heap's steps are followed ===== -/
section JM6
variable {p : Program} {l : Launch} {e : Env} {R : Room} {s : State} {m : MethodId} {args : Array Value} {below : List Frame} {meth : Method} {c : Code} {D : va_G} {h0 : Nat} {ex : Nat → Nat} {ka : Nat → ClassId} {Ls : Nat} {xs : Nat → Int32} {M : jm_M} {n0 : Nat} {Q : State → Prop} {i : jm_I} {pc : Nat} {L : List (Option Value)} {S : List Value} {G : jm_h} {cn sn : Nat} {st : jm_St} {YN : List MethodName}
theorem jm_ref {a : Nat} {d : jm_c} (h : jm_g G a = some d) : jm_cv h0 ex (.ref a) = .ref (h0 + jm_fi a) := by
  have := jm_g_ge h
  rw [jm_cvr (by omega), jm_g_ad h]
theorem jm_at_w {H : Heap} (hR : jm_R D h0 ex ka G H) {a : Nat} {d : jm_c} (h : jm_g G a = some d) : (jm_w h0 ex ka G)[jm_fi a]? = some (h0 + jm_fi a, jm_ce h0 ex ka d) := jm_w_at (jm_g_at hR.1 h)
theorem jm_R_set {H H1 : Heap} (hR : jm_R D h0 ex ka G H) {a : Nat} {d d1 : jm_c} (h : jm_g G a = some d) (h1 : va_P D vwCl ((jm_w h0 ex ka G).set (jm_fi a) (h0 + jm_fi a, jm_ce h0 ex ka d1)) H1) : jm_R D h0 ex ka (jm_s G a d1) H1 := by
  refine ⟨jm_s_ok hR.1 a d1, ?_⟩
  rw [← jm_w_set hR.1 h]
  exact h1
set_option maxHeartbeats 4000000 in
theorem jm_d1_ok (C0 : jm_C p s m args meth c D h0 ex ka Ls xs M n0) (hc : jm_ck YN M pc i = true) (h : jm_d1 i pc L S G (cn, sn) = some st) (k : jm_W p l e R s m args below meth c D h0 ex ka M n0 Q st) : jm_W p l e R s m args below meth c D h0 ex ka M n0 Q (pc, L, S, G, cn, sn) := by
  have hd := jm_ck_dec hc
  obtain ⟨hx, hb, hml, hown, hts, hrt, hlk, hnm, hK, hz, hX⟩ := C0
  obtain ⟨ins, n, la, lb, po⟩ := i
  unfold jm_ck at hc
  rw [Bool.and_eq_true] at hc
  obtain ⟨-, hc⟩ := hc
  intro hlen H locs ls hR hS hl
  unfold jm_d1 at h
  dsimp only at hd hc h
  split at h
  · split at h
    · rename_i hn
      subst hn
      split at h
      · rename_i a r
        dsimp only at hc
        split at h
        · rename_i h100
          rw [if_pos h100] at hc
          split at h
          · rename_i ha
            subst ha
            cases h
            by_cases hb0 : lb = 0
            · rw [if_pos hb0] at hc k
              exact vk_getf hx hb hX.2.2.2.2.2.1.2.1 hS hown (hts _ (jm_at_mem hc)) (fun _ h => h) hd (k hlen H locs ls hR hS hl)
            · rw [if_neg hb0] at hc k
              exact vk_getf hx hb hX.2.2.2.2.2.1.2.2.1 hS hown (hts _ (jm_at_mem hc)) (fun _ h => h) hd (k hlen H locs ls hR hS hl)
          · cases h
        · rename_i h100
          rw [if_neg h100] at hc
          split at h
          · rename_i ci fs hg
            split at h
            · rename_i hci
              subst hci
              split at h
              · rename_i v hv
                cases h
                split at hc
                · rename_i q hq
                  obtain ⟨C, T, N⟩ := q
                  rw [Bool.and_eq_true] at hc
                  obtain ⟨hk, hw⟩ := hc
                  show W p l e R s m args below meth c H locs cn sn Q (F0 m pc ls (jm_cv h0 ex (.ref a) :: r.map (jm_cv h0 ex)))
                  rw [jm_ref hg]
                  exact va_get hx hb hts (jm_cls hq).1 hown hK hR.2 (jm_fi a) (jm_at_w hR hg) hq lb (of_decide_eq_true hk) (hts _ (jm_at_mem hw)) (fun _ h => h) (by rw [List.getElem?_map, hv]; rfl) hd (k hlen H locs ls hR hS hl)
                · cases hc
              · cases h
            · cases h
          · cases h
      · cases h
    · cases h
  · split at h
    · rename_i hn
      subst hn
      split at h
      · rename_i v a r
        split at h
        · rename_i ci fs hg
          split at h
          · rename_i hcc
            obtain ⟨hci, hl1, hpv⟩ := hcc
            subst hci
            cases h
            dsimp only at hc
            split at hc
            · rename_i q ty hq hty
              obtain ⟨C, T, N⟩ := q
              simp only [Bool.and_eq_true] at hc
              obtain ⟨⟨⟨hk, htc⟩, hfin⟩, hw⟩ := hc
              have hk := of_decide_eq_true hk
              have htc := of_decide_eq_true htc
              obtain ⟨hin, ty', hty', hd1, hnames⟩ := jm_cls hq
              have : ty' = ty := Option.some.inj (hty'.symm.trans hty)
              subst this
              rw [← htc] at hpv
              obtain ⟨hn1, hf1⟩ := jm_pv_ok (h0 := h0) (ex := ex) hpv
              show W p l e R s m args below meth c H locs cn sn Q (F0 m pc ls (jm_cv h0 ex v :: jm_cv h0 ex (.ref a) :: r.map (jm_cv h0 ex)))
              rw [jm_ref hg]
              have hfs : (fs.map (jm_cv h0 ex)).set (lb % 1000) (jm_cv h0 ex v) = (fs.set (lb % 1000) v).map (jm_cv h0 ex) := List.map_set.symm
              have fin : ∀ (H1 : Heap) (locs1 : List Loc), va_P D vwCl ((jm_w h0 ex ka G).set (jm_fi a) (h0 + jm_fi a, .inr (ci, (fs.map (jm_cv h0 ex)).set (lb % 1000) (jm_cv h0 ex v)))) H1 → va_S (fun q => h0 ≤ q) s.heap H1 locs1 → W p l e R s m args below meth c H1 locs1 cn sn Q (F0 m (pc + 3) ls (r.map (jm_cv h0 ex))) := by
                intro H1 locs1 hP1 hS1
                rw [hfs] at hP1
                exact k (by rw [jm_s_len]; exact hlen) H1 locs1 ls (jm_R_set (d1 := .inr (ci, fs.set (lb % 1000) v)) hR hg hP1) hS1 hl
              by_cases h10 : lb / 10000 = 0
              · rw [if_pos h10] at hfin
                exact va_put hx hb hts hin ty' hd1 hnames hown hK hR.2 (jm_D h0 ex ka G) hS (jm_fi a) (jm_at_w hR hg) hq (lb % 1000) hk (hts _ (jm_at_mem hw)) (fun _ h => h) (by simpa using hfin) (hd1 _ hk) hn1 hf1 (by simpa using hl1) hd (fun H1 locs1 hP1 _ hS1 => fin H1 locs1 hP1 hS1)
              · rw [if_neg h10] at hfin
                simp only [Bool.and_eq_true] at hfin
                obtain ⟨⟨hf2, hini⟩, hdec⟩ := hfin
                exact va_putF hx hb hts hin ty' hd1 hnames hown hK hR.2 (jm_D h0 ex ka G) hS (jm_fi a) (jm_at_w hR hg) hq (lb % 1000) hk (hts _ (jm_at_mem hw)) (fun _ h => h) hf2 (by rw [hnm]; exact of_decide_eq_true hini) (of_decide_eq_true hdec) (hd1 _ hk) hn1 hf1 (by simpa using hl1) hd (fun H1 locs1 hP1 _ hS1 => fin H1 locs1 hP1 hS1)
            · cases hc
          · cases h
        · cases h
      · cases h
    · cases h
  · split at h
    · rename_i hn
      subst hn
      dsimp only at hc
      split at h
      · rename_i h3
        rw [if_pos h3] at hc
        cases h
        exact va_gets hx hb hX.2.2.2.2.1 hS hown (hts _ (jm_at_mem hc)) (fun _ h => h) hd (k hlen H locs ls hR hS hl)
      · rename_i h3
        rw [if_neg h3] at hc
        split at h
        · rename_i h4
          rw [if_pos h4] at hc
          cases h
          refine va_gets hx hb hX.2.2.2.2.2.2.2.1 hS hown (hts _ (jm_at_mem hc)) (fun _ h => h) hd (W.eq ?_ (k hlen H locs ls hR hS hl))
          show F0 m (pc + 3) ls ((if ex 7 = 0 then .null else .ref (ex 6)) :: S.map (jm_cv h0 ex)) = F0 m (pc + 3) ls (jm_cv h0 ex (.ref 6) :: S.map (jm_cv h0 ex))
          congr 2
          unfold jm_cv jm_ad
          by_cases h7 : ex 7 = 0
          · simp [h7]
          · simp [h7]
        · rename_i h4
          rw [if_neg h4] at hc
          split at h
          · rename_i hlt
            cases h
            rcases (show la = 0 ∨ la = 1 ∨ la = 2 by omega) with rfl | rfl | rfl
            · exact va_getsN hx hb hX.2.1.1 hS hown (jm_atn_use hc hX.2.2.2.2.2.2.2.2) (fun _ h => h) hd (k hlen H locs ls hR hS hl)
            · exact va_getsN hx hb hX.2.2.1.1 hS hown (jm_atn_use hc hX.2.2.2.2.2.2.2.2) (fun _ h => h) hd (k hlen H locs ls hR hS hl)
            · exact va_getsN hx hb hX.2.2.2.1.1 hS hown (jm_atn_use hc hX.2.2.2.2.2.2.2.2) (fun _ h => h) hd (k hlen H locs ls hR hS hl)
          · cases h
    · cases h
  · split at h
    · rename_i hn
      subst hn
      cases h
      dsimp only at hc
      by_cases hb0 : lb = 0
      · rw [if_pos hb0] at hc k
        exact lv_ldc hx hb hown (hts _ (jm_at_mem hc)) hd (k hlen H locs ls hR hS hl)
      · rw [if_neg hb0] at hc k
        rw [Bool.and_eq_true] at hc
        have h25 := of_decide_eq_true hc.2
        subst h25
        exact va_ldcS hx hb (by rw [← of_decide_eq_true hc.1]; exact hown) hX.2.2.2.2.2.2.1 hd (k hlen H locs ls hR hS hl)
    · cases h
  · split at h
    · rename_i hn
      subst hn
      cases h
      dsimp only at hc
      exact lv_ldcw hx hb hown (hts _ (jm_at_mem hc)) hd (k hlen H locs ls hR hS hl)
    · cases h
  · split at h
    · rename_i hn
      subst hn
      cases h
      dsimp only at hc
      exact lv_ldc2 hx hb hown (hts _ (jm_at_mem hc)) hd (k hlen H locs ls hR hS hl)
    · cases h
  · cases h
end JM6
