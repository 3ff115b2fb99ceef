/-! ===== arrays, and what is made: followed ===== -/
theorem wnX0 : Cond.instantiable RX0 1 ∈ jm_tbl ∧ Cond.initialized RX0 ∈ jm_tbl := ⟨jm_tbl_mem (by decide +kernel) (by decide +kernel), jm_tbl_mem (by decide +kernel) (by decide +kernel)⟩
theorem wnX1 : Cond.instantiable RX1 12 ∈ jm_tbl ∧ Cond.initialized RX1 ∈ jm_tbl := ⟨jm_tbl_mem (by decide +kernel) (by decide +kernel), jm_tbl_mem (by decide +kernel) (by decide +kernel)⟩
theorem wnX2 : Cond.instantiable RX2 2 ∈ jm_tbl ∧ Cond.initialized RX2 ∈ jm_tbl := ⟨jm_tbl_mem (by decide +kernel) (by decide +kernel), jm_tbl_mem (by decide +kernel) (by decide +kernel)⟩
theorem wnX3 : Cond.instantiable RX3 4 ∈ jm_tbl ∧ Cond.initialized RX3 ∈ jm_tbl := ⟨jm_tbl_mem (by decide +kernel) (by decide +kernel), jm_tbl_mem (by decide +kernel) (by decide +kernel)⟩
theorem wnX4 : Cond.instantiable RX4 10 ∈ jm_tbl ∧ Cond.initialized RX4 ∈ jm_tbl := ⟨jm_tbl_mem (by decide +kernel) (by decide +kernel), jm_tbl_mem (by decide +kernel) (by decide +kernel)⟩
theorem wnX5 : Cond.instantiable RX5 15 ∈ jm_tbl ∧ Cond.initialized RX5 ∈ jm_tbl := ⟨jm_tbl_mem (by decide +kernel) (by decide +kernel), jm_tbl_mem (by decide +kernel) (by decide +kernel)⟩
theorem wnX6 : Cond.instantiable RX6 4 ∈ jm_tbl ∧ Cond.initialized RX6 ∈ jm_tbl := ⟨jm_tbl_mem (by decide +kernel) (by decide +kernel), jm_tbl_mem (by decide +kernel) (by decide +kernel)⟩
theorem wnX7 : Cond.instantiable RX7 3 ∈ jm_tbl ∧ Cond.initialized RX7 ∈ jm_tbl := ⟨jm_tbl_mem (by decide +kernel) (by decide +kernel), jm_tbl_mem (by decide +kernel) (by decide +kernel)⟩
theorem wnX8 : Cond.instantiable RX8 3 ∈ jm_tbl ∧ Cond.initialized RX8 ∈ jm_tbl := ⟨jm_tbl_mem (by decide +kernel) (by decide +kernel), jm_tbl_mem (by decide +kernel) (by decide +kernel)⟩
theorem wnX9 : Cond.instantiable RX9 15 ∈ jm_tbl ∧ Cond.initialized RX9 ∈ jm_tbl := ⟨jm_tbl_mem (by decide +kernel) (by decide +kernel), jm_tbl_mem (by decide +kernel) (by decide +kernel)⟩
theorem wnX10 : Cond.instantiable RX10 69 ∈ jm_tbl ∧ Cond.initialized RX10 ∈ jm_tbl := ⟨jm_tbl_mem (by decide +kernel) (by decide +kernel), jm_tbl_mem (by decide +kernel) (by decide +kernel)⟩
theorem jm_cls2 {ci N : Nat} {C : String} {T : u_T} (h : vwCl[ci]? = some (C, T, N)) : Cond.instantiable C N ∈ jm_tbl ∧ Cond.initialized C ∈ jm_tbl := by
  match ci, h with
  | 0, h => cases h; exact wnX0
  | 1, h => cases h; exact wnX1
  | 2, h => cases h; exact wnX2
  | 3, h => cases h; exact wnX3
  | 4, h => cases h; exact wnX4
  | 5, h => cases h; exact wnX5
  | 6, h => cases h; exact wnX6
  | 7, h => cases h; exact wnX7
  | 8, h => cases h; exact wnX8
  | 9, h => cases h; exact wnX9
  | 10, h => cases h; exact wnX10
  | n + 11, h => simp [vwCl] at h
theorem jm_acl : Cond.arrayClass .int ∈ jm_tbl ∧ Cond.arrayClass .byte ∈ jm_tbl ∧ Cond.arrayClass .boolean ∈ jm_tbl ∧ Cond.arrayClass .long ∈ jm_tbl := ⟨jm_tbl_mem (by decide +kernel) (by decide +kernel), jm_tbl_mem (by decide +kernel) (by decide +kernel), jm_tbl_mem (by decide +kernel) (by decide +kernel), jm_tbl_mem (by decide +kernel) (by decide +kernel)⟩
theorem jm_ak_ty {t : ArrayType} (h : jm_ak t < 4) : newarray.typeOf t = jm_ty (jm_ak t) ∧ Cond.arrayClass (newarray.typeOf t) ∈ jm_tbl ∧ componentBytes (newarray.typeOf t) ≤ 8 := by
  cases t <;> first | (exfalso; simp [jm_ak] at h; done) | exact ⟨rfl, jm_acl.1, by decide⟩ | exact ⟨rfl, jm_acl.2.1, by decide⟩ | exact ⟨rfl, jm_acl.2.2.1, by decide⟩ | exact ⟨rfl, jm_acl.2.2.2, by decide⟩
theorem jm_ty_at {ka : Nat → ClassId} {kd : Nat} (h : kd < 4) : (jm_tys ka)[kd]? = some (ka kd, jm_ty kd) := by
  rcases (show kd = 0 ∨ kd = 1 ∨ kd = 2 ∨ kd = 3 by omega) with rfl | rfl | rfl | rfl <;> rfl
theorem jm_kind {ka : Nat → ClassId} {D : va_G} {s : State} (hK : va_K D vwCl (jm_tys ka) s) {kd : Nat} (h : kd < 4) : s.vm.findClass ("[" ++ (jm_ty kd).toString) = some (ka kd) := by
  have h1 := (hK.2 kd _ (jm_ty_at h)).2
  rcases (show kd = 0 ∨ kd = 1 ∨ kd = 2 ∨ kd = 3 by omega) with rfl | rfl | rfl | rfl <;> exact h1
theorem jm_a0_cell {h0 : Nat} {ex : Nat → Nat} {ka : Nat → ClassId} {kd n : Nat} (h : kd < 4) : ∃ a : vp_A, jm_ce h0 ex ka (jm_a0 kd n) = .inl (ka kd, a) ∧ vp_cell (ka kd) a = arrV (ka kd) n (fun _ => defaultValue (jm_ty kd)) := by
  rcases (show kd = 0 ∨ kd = 1 ∨ kd = 2 ∨ kd = 3 by omega) with rfl | rfl | rfl | rfl
  · exact ⟨(n, .inl (fun _ => 0)), rfl, rfl⟩
  · exact ⟨(n, .inl (fun _ => 0)), rfl, rfl⟩
  · exact ⟨(n, .inl (fun _ => 0)), rfl, rfl⟩
  · exact ⟨(n, .inr (.inl (fun _ => 0))), rfl, rfl⟩
theorem jm_df_at {ci N : Nat} {C : String} {T : u_T} {ty : Nat → FieldType} (hq : vwCl[ci]? = some (C, T, N)) (hty : jm_tyt[ci]? = some ty) (h0 : Nat) (ex : Nat → Nat) (j : Nat) (hj : j < N) : defaultValue (ty j) = vp_V ((jm_df ci).map (jm_cv h0 ex)) j := by
  have h1 : jm_df ci = (List.range N).map fun k => defaultValue (ty k) := by simp [jm_df, hq, hty]
  have h2 : ∀ t : FieldType, jm_cv h0 ex (defaultValue t) = defaultValue t := by intro t; cases t <;> rfl
  simp [vp_V, h1, List.getD_eq_getElem?_getD, List.getElem?_map, List.getElem?_range hj, h2]
section JM7
variable {p : Program} {l : Launch} {e : Env} {R : Room} {s : State} {m : MethodId} {args : Array Value} {below : List Frame} {meth : Method} {c : Code} {D : va_G} {h0 : Nat} {ex : Nat → Nat} {ka : Nat → ClassId} {Ls : Nat} {xs : Nat → Int32} {M : jm_M} {n0 : Nat} {Q : State → Prop} {i : jm_I} {pc : Nat} {L : List (Option Value)} {S : List Value} {G : jm_h} {cn sn : Nat} {st : jm_St} {YN : List MethodName}
/-- how many cells there are is known: as many as lay there, and those that were made -/
theorem jm_size {H : Heap} {locs : List Loc} {g : JFrame} (hz : s.heap.size = h0 + n0) (hlen : jm_len G = n0 + cn) (hR : jm_R D h0 ex ka G H) (hS : va_S (fun q => h0 ≤ q) s.heap H locs) (k : H.size = h0 + jm_len G → W p l e R s m args below meth c H locs cn sn Q g) : W p l e R s m args below meth c H locs cn sn Q g := by
  intro T hT X
  have h1 := X.heapSize
  have h2 := jm_R_low hR (by have := hS.1; omega)
  rw [hT] at h1
  exact k (by omega) T hT X
theorem jm_R_new {H H1 : Heap} {sg k : Nat} {d : jm_c} {G1 : jm_h} (hR : jm_R D h0 ex ka G H) (hn : jm_new sg G d = some (k, G1)) (hsz : H.size = h0 + jm_len G) (o1 : ∀ q, q < h0 + jm_len G → H1[q]? = H[q]?) (h1 : va_at D vwCl (h0 + jm_len G, jm_ce h0 ex ka d) H1) : jm_R D h0 ex ka G1 H1 := by
  obtain ⟨a1, a2, a3, a4⟩ := jm_new_al hR.1 hn
  refine ⟨a2, ?_⟩
  rw [jm_w_new a1]
  refine (hR.2.kept fun j q hq => ?_).app fun j q hq => ?_
  · exact o1 _ (by rw [← hsz]; exact (hR.2 j q hq).lt)
  · have hz : j < 1 := (List.getElem?_eq_some_iff.mp hq).1
    rw [show j = 0 by omega] at hq
    cases hq
    exact h1
theorem jm_S_new {H H1 : Heap} {locs : List Loc} (hS : va_S (fun q => h0 ≤ q) s.heap H locs) (hsz : H.size = h0 + jm_len G) (z1 : H1.size = h0 + jm_len G + 1) (o1 : ∀ q, q < h0 + jm_len G → H1[q]? = H[q]?) : va_S (fun q => h0 ≤ q) s.heap H1 locs :=
  ⟨Nat.le_trans hS.1 (by omega), fun x h1 h2 => (o1 x (by rw [← hsz]; exact Nat.lt_of_lt_of_le h1 hS.1)).trans (hS.2.1 x h1 h2), hS.2.2⟩
set_option maxHeartbeats 8000000 in
theorem jm_d2_ok {bc bs : Nat} (C0 : jm_C p s m args meth c D h0 ex ka Ls xs M n0) (hbc : bc ≤ R.cells) (hbs : bs ≤ R.slots) (hc : jm_ck YN M pc i = true) (h : jm_d2 M Ls xs bc bs i pc L S G (cn, sn) = some st) (k : jm_W p l e R s m args below meth c D h0 ex ka M n0 Q st) : jm_W p l e R s m args below meth c D h0 ex ka M n0 Q (pc, L, S, G, cn, sn) := by
  have hd := jm_ck_dec hc
  obtain ⟨hx, hb, hml, hown, hts, hrt, hlk, hnm, hK, hz, hX⟩ := C0
  obtain ⟨ins, n, la, lb, po⟩ := i
  unfold jm_ck at hc
  rw [Bool.and_eq_true] at hc
  obtain ⟨-, hc⟩ := hc
  intro hlen H locs ls hR hS hl
  change jm_len G = n0 + cn at hlen
  change jm_R D h0 ex ka G H at hR
  change jm_L h0 ex ls (jm_mx M) L at hl
  unfold jm_d2 at h
  dsimp only at hd hc h
  split at h
  · split at h
    · rename_i hn
      subst hn
      split at h
      · rename_i j a r
        split at h
        · rename_i ha8
          split at h
          · rename_i kd N f hea
            split at h
            · rename_i hkd
              subst hkd
              cases hout : jm_out j N with
              | true => rw [hout] at h; cases h
              | false =>
                rw [hout] at h
                cases h
                have hin := jm_out_in hout
                unfold jm_ea at hea
                split at hea
                · rename_i h0'
                  subst h0'
                  cases hea
                  exact va_sld hx hb hX.1.1 hX.1.2.1 hX.1.2.2 hS hin hd (k hlen H locs ls hR hS hl)
                · split at hea
                  · rename_i h0'
                    subst h0'
                    cases hea
                    exact va_ti hx hb hX.2.1.2 hS hin rfl hd (k hlen H locs ls hR hS hl)
                  · split at hea
                    · rename_i h0'
                      subst h0'
                      cases hea
                      exact va_ti hx hb hX.2.2.1.2 hS hin rfl hd (k hlen H locs ls hR hS hl)
                    · split at hea
                      · rename_i h0'
                        subst h0'
                        cases hea
                        exact va_ti hx hb hX.2.2.2.1.2 hS hin rfl hd (k hlen H locs ls hR hS hl)
                      · split at hea <;> cases hea
            · cases h
          · cases h
        · split at h
          · rename_i kd N f hg
            split at h
            · rename_i hkd
              subst hkd
              cases hout : jm_out j N with
              | true => rw [hout] at h; cases h
              | false =>
                rw [hout] at h
                cases h
                show W p l e R s m args below meth c H locs cn sn Q (F0 m pc ls (.int j :: jm_cv h0 ex (.ref a) :: r.map (jm_cv h0 ex)))
                rw [jm_ref hg]
                exact va_iald hx hb hK hR.2 (jm_fi a) 0 (jm_at_w hR hg) rfl (jm_out_in hout) hd (k hlen H locs ls hR hS hl)
            · cases h
          · cases h
      · cases h
    · cases h
  · split at h
    · rename_i hn
      subst hn
      split at h
      · rename_i j a r
        split at h
        · rename_i ha8
          split at h
          · rename_i kd N f hea
            split at h
            · rename_i hkd
              subst hkd
              cases hout : jm_out j N with
              | true => rw [hout] at h; cases h
              | false =>
                rw [hout] at h
                cases h
                have hin := jm_out_in hout
                unfold jm_ea at hea
                split at hea
                · cases hea
                · split at hea
                  · cases hea
                  · split at hea
                    · cases hea
                    · split at hea
                      · cases hea
                      · split at hea
                        · rename_i h0'
                          subst h0'
                          cases hea
                          exact va_tb hx hb hX.2.2.2.2.2.1.2.2.2 hS hin rfl hd (k hlen H locs ls hR hS hl)
                        · cases hea
            · cases h
          · cases h
        · split at h
          · rename_i kd N f hg
            split at h
            · rename_i hkd
              cases hout : jm_out j N with
              | true => rw [hout] at h; cases h
              | false =>
                rw [hout] at h
                cases h
                show W p l e R s m args below meth c H locs cn sn Q (F0 m pc ls (.int j :: jm_cv h0 ex (.ref a) :: r.map (jm_cv h0 ex)))
                rw [jm_ref hg]
                rcases hkd with rfl | rfl
                · exact va_bald hx hb hK hR.2 (jm_fi a) 1 (jm_at_w hR hg) rfl (jm_out_in hout) hd (k hlen H locs ls hR hS hl)
                · exact va_zald hx hb hK hR.2 (jm_fi a) 2 (jm_at_w hR hg) rfl (jm_out_in hout) hd (k hlen H locs ls hR hS hl)
            · cases h
          · cases h
      · cases h
    · cases h
  · split at h
    · rename_i hn
      subst hn
      split at h
      · rename_i j a r
        split at h
        · rename_i kd N f hg
          split at h
          · rename_i hkd
            subst hkd
            cases hout : jm_out j N with
            | true => rw [hout] at h; cases h
            | false =>
              rw [hout] at h
              cases h
              show W p l e R s m args below meth c H locs cn sn Q (F0 m pc ls (.int j :: jm_cv h0 ex (.ref a) :: r.map (jm_cv h0 ex)))
              rw [jm_ref hg]
              exact va_lald hx hb hK hR.2 (jm_fi a) 3 (jm_at_w hR hg) rfl (jm_out_in hout) hd (k hlen H locs ls hR hS hl)
          · cases h
        · cases h
      · cases h
    · cases h
  · split at h
    · rename_i hn
      subst hn
      split at h
      · rename_i x j a r
        split at h
        · rename_i kd N f hg
          split at h
          · rename_i hkd
            subst hkd
            cases hout : jm_out j N with
            | true => rw [hout] at h; cases h
            | false =>
              rw [hout] at h
              cases h
              show W p l e R s m args below meth c H locs cn sn Q (F0 m pc ls (.int x :: .int j :: jm_cv h0 ex (.ref a) :: r.map (jm_cv h0 ex)))
              rw [jm_ref hg]
              refine va_iast hx hb hK hR.2 (jm_D h0 ex ka G) hS (jm_fi a) 0 (jm_at_w hR hg) rfl (jm_out_in hout) hd (fun H1 locs1 hP1 _ hS1 => ?_)
              rw [jm_upd_eq] at hP1
              exact k (by rw [jm_s_len]; exact hlen) H1 locs1 ls (jm_R_set (d1 := .inl (0, N, .inl (jm_upd f j.toNatClampNeg x))) hR hg hP1) hS1 hl
          · cases h
        · cases h
      · cases h
    · cases h
  · split at h
    · rename_i hn
      subst hn
      split at h
      · rename_i x j a r
        split at h
        · rename_i kd N f hg
          split at h
          · rename_i hkd
            subst hkd
            cases hout : jm_out j N with
            | true => rw [hout] at h; cases h
            | false =>
              rw [hout] at h
              cases h
              show W p l e R s m args below meth c H locs cn sn Q (F0 m pc ls (.int x :: .int j :: jm_cv h0 ex (.ref a) :: r.map (jm_cv h0 ex)))
              rw [jm_ref hg]
              refine va_bast hx hb hK hR.2 (jm_D h0 ex ka G) hS (jm_fi a) 1 (jm_at_w hR hg) rfl (jm_out_in hout) hd (fun H1 locs1 hP1 _ hS1 => ?_)
              rw [jm_upd_eq, vp_nar_byte] at hP1
              exact k (by rw [jm_s_len]; exact hlen) H1 locs1 ls (jm_R_set (d1 := .inl (1, N, .inl (jm_upd f j.toNatClampNeg x.toInt8.toInt32))) hR hg hP1) hS1 hl
          · split at h
            · rename_i hkd
              subst hkd
              cases hout : jm_out j N with
              | true => rw [hout] at h; cases h
              | false =>
                rw [hout] at h
                cases h
                show W p l e R s m args below meth c H locs cn sn Q (F0 m pc ls (.int x :: .int j :: jm_cv h0 ex (.ref a) :: r.map (jm_cv h0 ex)))
                rw [jm_ref hg]
                refine va_zast hx hb hK hR.2 (jm_D h0 ex ka G) hS (jm_fi a) 2 (jm_at_w hR hg) rfl (jm_out_in hout) hd (fun H1 locs1 hP1 _ hS1 => ?_)
                rw [jm_upd_eq] at hP1
                exact k (by rw [jm_s_len]; exact hlen) H1 locs1 ls (jm_R_set (d1 := .inl (2, N, .inl (jm_upd f j.toNatClampNeg (vp_nar .boolean x)))) hR hg hP1) hS1 hl
            · cases h
        · cases h
      · cases h
    · cases h
  · split at h
    · rename_i hn
      subst hn
      split at h
      · rename_i x j a r
        split at h
        · rename_i kd N f hg
          split at h
          · rename_i hkd
            subst hkd
            cases hout : jm_out j N with
            | true => rw [hout] at h; cases h
            | false =>
              rw [hout] at h
              cases h
              show W p l e R s m args below meth c H locs cn sn Q (F0 m pc ls (.long x :: .int j :: jm_cv h0 ex (.ref a) :: r.map (jm_cv h0 ex)))
              rw [jm_ref hg]
              refine va_last hx hb hK hR.2 (jm_D h0 ex ka G) hS (jm_fi a) 3 (jm_at_w hR hg) rfl (jm_out_in hout) hd (fun H1 locs1 hP1 _ hS1 => ?_)
              rw [jm_updL_eq] at hP1
              exact k (by rw [jm_s_len]; exact hlen) H1 locs1 ls (jm_R_set (d1 := .inl (3, N, .inr (jm_updL f j.toNatClampNeg x))) hR hg hP1) hS1 hl
          · cases h
        · cases h
      · cases h
    · cases h
  · split at h
    · rename_i hn
      subst hn
      split at h
      · rename_i a r
        split at h
        · rename_i ha8
          split at h
          · rename_i kd N f hea
            cases h
            unfold jm_ea at hea
            split at hea
            · rename_i h0'
              subst h0'
              cases hea
              exact va_slen hx hb hX.1.1 hX.1.2.1 hX.1.2.2 hS hd (k hlen H locs ls hR hS hl)
            · split at hea
              · rename_i h0'
                subst h0'
                cases hea
                exact va_tlen hx hb hX.2.1.2 hS rfl hd (k hlen H locs ls hR hS hl)
              · split at hea
                · rename_i h0'
                  subst h0'
                  cases hea
                  exact va_tlen hx hb hX.2.2.1.2 hS rfl hd (k hlen H locs ls hR hS hl)
                · split at hea
                  · rename_i h0'
                    subst h0'
                    cases hea
                    exact va_tlen hx hb hX.2.2.2.1.2 hS rfl hd (k hlen H locs ls hR hS hl)
                  · split at hea
                    · rename_i h0'
                      subst h0'
                      cases hea
                      exact va_tlen hx hb hX.2.2.2.2.2.1.2.2.2 hS rfl hd (k hlen H locs ls hR hS hl)
                    · cases hea
          · cases h
        · split at h
          · rename_i kd N y hg
            split at h
            · rename_i hkd
              cases h
              show W p l e R s m args below meth c H locs cn sn Q (F0 m pc ls (jm_cv h0 ex (.ref a) :: r.map (jm_cv h0 ex)))
              rw [jm_ref hg]
              obtain ⟨y', hy'⟩ : ∃ y', jm_ce h0 ex ka (.inl (kd, N, y)) = .inl (ka kd, N, y') := by
                cases y with
                | inl f => exact ⟨_, rfl⟩
                | inr f => exact ⟨_, rfl⟩
              have he : (jm_w h0 ex ka G)[jm_fi a]? = some (h0 + jm_fi a, .inl (ka kd, N, y')) := by rw [jm_at_w hR hg, hy']
              exact va_alen hx hb hK hR.2 (jm_fi a) kd he (jm_ty_at hkd) rfl hd (k hlen H locs ls hR hS hl)
            · cases h
          · cases h
      · cases h
    · cases h
  · split at h
    · rename_i hn
      subst hn
      split at h
      · rename_i d hq
        obtain ⟨C, T, N⟩ := d
        split at h
        · rename_i hroom
          split at h
          · rename_i kk G1 hnew
            cases h
            rw [hq] at hc
            dsimp only at hc hroom
            show W p l e R s m args below meth c H locs cn sn Q (F0 m pc ls (S.map (jm_cv h0 ex)))
            obtain ⟨a1, a2, a3, a4⟩ := jm_new_al hR.1 hnew
            obtain ⟨hin, ty, hty, hd1, -⟩ := jm_cls hq
            have hKn := hK.1 la _ hq
            refine jm_size hz hlen hR hS (fun hsz => ?_)
            refine W.newcK hx hb hown (hts _ (jm_at_mem hc)) (hts _ (jm_cls2 hq).1) (hts _ (jm_cls2 hq).2) rfl hd (by omega) (by omega) hKn.2.1 hsz (fun H1 kC hkC e1 z1 o1 => ?_)
            refine W.eq ?_ (k (show jm_len G1 = n0 + (cn + 1) by rw [jm_new_len hR.1 hnew]; omega) H1 locs ls (jm_R_new hR hnew hsz o1 ⟨_, hq, (u_born ty hts hin hKn hkC e1 hd1).to (jm_df_at hq hty h0 ex)⟩) (jm_S_new hS hsz z1 o1) hl)
            show F0 m (pc + 3) ls (.ref (h0 + jm_len G) :: S.map (jm_cv h0 ex)) = F0 m (pc + 3) ls (jm_cv h0 ex (.ref kk) :: S.map (jm_cv h0 ex))
            rw [jm_cvr (by omega), jm_ad, if_neg (by omega), a4]
          · cases h
        · cases h
      · cases h
    · cases h
  · split at h
    · rename_i t hn
      subst hn
      split at h
      · rename_i nn r
        split at h
        · rename_i hroom
          obtain ⟨hk4, hneg, hbig, hr1, hr2⟩ := hroom
          split at h
          · rename_i kk G1 hnew
            cases h
            have hr1 : cn + 1 ≤ bc := hr1
            have hr2 : sn + nn.toNatClampNeg ≤ bs := hr2
            show W p l e R s m args below meth c H locs cn sn Q (F0 m pc ls (.int nn :: r.map (jm_cv h0 ex)))
            obtain ⟨a1, a2, a3, a4⟩ := jm_new_al hR.1 hnew
            obtain ⟨hty, harr, hcb⟩ := jm_ak_ty hk4
            refine jm_size hz hlen hR hS (fun hsz => ?_)
            refine va_newaK hx hb (hts _ harr) rfl hd rfl hneg rfl (Nat.le_trans (Nat.mul_le_mul_left _ hcb) hbig) (by omega) (by omega) hsz (fun H1 cA e1 z1 o1 hAr hNm => ?_)
            have hcA : cA = ka (jm_ak t) := by
              have h1 := jm_kind hK hk4
              rw [← hty] at h1
              exact Option.some.inj (hNm.symm.trans h1)
            subst hcA
            obtain ⟨av, hav, hcell⟩ := jm_a0_cell (h0 := h0) (ex := ex) (ka := ka) (n := nn.toNatClampNeg) hk4
            refine W.eq ?_ (k (show jm_len G1 = n0 + (cn + 1) by rw [jm_new_len hR.1 hnew]; omega) H1 locs ls (jm_R_new hR hnew hsz o1 (by rw [hav]; show H1[h0 + jm_len G]? = some (vp_cell _ _); rw [hcell, ← hty]; exact e1)) (jm_S_new hS hsz z1 o1) hl)
            show F0 m (pc + 2) ls (.ref (h0 + jm_len G) :: r.map (jm_cv h0 ex)) = F0 m (pc + 2) ls (jm_cv h0 ex (.ref kk) :: r.map (jm_cv h0 ex))
            rw [jm_cvr (by omega), jm_ad, if_neg (by omega), a4]
          · cases h
        · cases h
      · cases h
    · cases h
  · cases h
end JM7
