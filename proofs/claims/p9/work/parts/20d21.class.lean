/-! ===== the class parses: small methods ===== -/
noncomputable def wc (P : Nat → Int) (w : sE) (F : Nat → sy_d) : Prop := (sy_i F 36).toInt = w.1 ∧ 0 ≤ w.1 ∧ (w.1 ≠ 0 → (sy_i F 37).toInt = P w.2) ∧ (w.1 = 0 → (sy_i F 37).toInt = -1)
theorem wc_eq {P : Nat → Int} {w : sE} {F F1 : Nat → sy_d} (h : wc P w F) (h6 : (sy_i F1 36).toInt = (sy_i F 36).toInt) (h7 : (sy_i F1 37).toInt = (sy_i F 37).toInt) : wc P w F1 := by
  unfold wc
  rw [h6, h7]
  exact h
theorem wc_s {P : Nat → Int} {F F1 : Nat → sy_d} {w : sE} {b : Prop} [Decidable b] {k : Int} {tok : Nat} (hk : 0 < k) (h : wc P w F) (c : (b ∧ (sy_i F 36).toInt = 0 ∧ (sy_i F1 36).toInt = k ∧ (sy_i F1 37).toInt = P tok) ∨ ((¬ b ∨ (sy_i F 36).toInt ≠ 0) ∧ (sy_i F1 36).toInt = (sy_i F 36).toInt ∧ (sy_i F1 37).toInt = (sy_i F 37).toInt)) : wc P (sW w b k tok) F1 := by
  have h1 := h.1
  unfold sW
  rcases c with ⟨c1, c2, c3, c4⟩ | ⟨c1, c2, c3⟩
  · rw [if_pos ⟨c1, by omega⟩]
    exact ⟨c3, (show 0 ≤ k by omega), fun _ => c4, fun q => absurd q (show k ≠ 0 by omega)⟩
  · rw [if_neg (fun q => by
      rcases c1 with c1 | c1
      · exact c1 q.1
      · have := q.2
        omega)]
    exact wc_eq h c2 c3
noncomputable def taR (k : Int) (x : Int32) (F F' : Nat → sy_d) : Prop := gc [33, 34] F F' ∧ ((∀ c, km c = km k → c = k) → ac (sM (kg F) (km k) (tg F)) (fun t F' => tg F' = t) x F')
noncomputable def tnR (lo hi : Int) (x : Int32) (F F' : Nat → sy_d) : Prop := gc [33, 34, 36, 37, 44] F F' ∧ ∀ w : sE, wc (pg F) w F → ac (sN (kg F) (vg F) lo hi (tg F, w)) (fun q F' => tg F' = q.1 ∧ wc (pg F) q.2 F') x F'
noncomputable def mlc (F : Nat → sy_d) (n : Nat) : List Int64 := (List.range n).map (fun i => (sy_al F 43).getD i 0)
noncomputable def ncr (nm : List Int64) (F : Nat → sy_d) : Prop := ∀ y, y ∈ nm ↔ y ∈ mlc F (sy_i F 38).toInt.toNat
theorem mlc_s {F : Nat → sy_d} {n : Nat} {x : Int64} : x ∈ mlc F (n + 1) ↔ x ∈ mlc F n ∨ x = (sy_al F 43).getD n 0 := by
  unfold mlc
  rw [List.range_succ, List.map_append, List.mem_append]
  simp
theorem mlc_eq {F F1 : Nat → sy_d} (h : F1 43 = F 43) (n : Nat) : mlc F1 n = mlc F n := by
  unfold mlc
  rw [nz_fl h]
theorem ncr_eq {nm : List Int64} {F F1 : Nat → sy_d} (h : ncr nm F) (h43 : F1 43 = F 43) (h38 : (sy_i F1 38).toInt = (sy_i F 38).toInt) : ncr nm F1 := by
  unfold ncr
  rw [mlc_eq h43, h38]
  exact h
noncomputable def tmR (x : Int32) (F F' : Nat → sy_d) : Prop := gc [33, 34, 36, 37, 38, 43] F F' ∧ (sy_i F' 38).toInt ≤ (sy_i F 38).toInt + 1 ∧ ∀ (w : sE) (nm : List Int64), wc (pg F) w F → ncr nm F → ac (sNm (kg F) (ng F) (tg F, nm, w)) (fun q F' => tg F' = q.1 ∧ wc (pg F) q.2 F' ∧ ncr (nm ++ [ng F (tg F)]) F') x F'
theorem taR_src {k : Int} {x : Int32} {F F0 F' : Nat → sy_d} (h : taR k x F0 F') (e : ∀ q, q < 82 → F0 q = F q) : taR k x F F' := by
  obtain ⟨h1, h2⟩ := h
  rw [kg_eq (e 39 (by decide)), tg_eq (nz_fi (e 33 (by decide)))] at h2
  exact ⟨h1.src e, h2⟩
theorem taR_dst {k : Int} {x : Int32} {F F' F2 : Nat → sy_d} (h : taR k x F F') (e : ∀ q, q < 82 → F2 q = F' q) : taR k x F F2 := by
  have i33 := nz_fi (e 33 (by decide))
  exact ⟨h.1.dst e, fun z => ac_dst (h.2 z) (nz_fi (e 34 (by decide))) i33 (fun a j => by rw [tg_eq i33]; exact j)⟩
theorem tnR_src {lo hi : Int} {x : Int32} {F F0 F' : Nat → sy_d} (h : tnR lo hi x F0 F') (e : ∀ q, q < 82 → F0 q = F q) : tnR lo hi x F F' := by
  obtain ⟨h1, h2⟩ := h
  rw [kg_eq (e 39 (by decide)), pg_eq (e 40 (by decide)), vg_eq (e 41 (by decide)), tg_eq (nz_fi (e 33 (by decide)))] at h2
  exact ⟨h1.src e, fun w hw => h2 w (wc_eq hw (nz_fi (e 36 (by decide))) (nz_fi (e 37 (by decide))))⟩
theorem tnR_dst {lo hi : Int} {x : Int32} {F F' F2 : Nat → sy_d} (h : tnR lo hi x F F') (e : ∀ q, q < 82 → F2 q = F' q) : tnR lo hi x F F2 := by
  have i33 := nz_fi (e 33 (by decide))
  exact ⟨h.1.dst e, fun w z => ac_dst (h.2 w z) (nz_fi (e 34 (by decide))) i33 (fun a j => ⟨by rw [tg_eq i33]; exact j.1, wc_eq j.2 (nz_fi (e 36 (by decide))) (nz_fi (e 37 (by decide)))⟩)⟩
theorem tmR_dst {x : Int32} {F F' F2 : Nat → sy_d} (h : tmR x F F') (e : ∀ q, q < 82 → F2 q = F' q) : tmR x F F2 := by
  have i33 := nz_fi (e 33 (by decide))
  have i38 := nz_fi (e 38 (by decide))
  exact ⟨h.1.dst e, by rw [i38]; exact h.2.1, fun w nm z y => ac_dst (h.2.2 w nm z y) (nz_fi (e 34 (by decide))) i33 (fun a j => ⟨by rw [tg_eq i33]; exact j.1, wc_eq j.2.1 (nz_fi (e 36 (by decide))) (nz_fi (e 37 (by decide))), ncr_eq j.2.2 (e 43 (by decide)) i38⟩)⟩
theorem k0tm_in {nm : List Int64} (F0 F F1 : Nat → sy_d) (hm : ncr nm F0) {i : Nat} (e : (sy_al F 43).getD i 0 = sy_l F 82) (h82 : sy_l F 82 = ng F0 (tg F0)) (x43 : sy_al F 43 = sy_al F0 43) (hi : i < (sy_i F0 38).toInt.toNat) (h38 : (sy_i F 38).toInt = (sy_i F0 38).toInt) (l43 : sy_al F1 43 = sy_al F 43) (h38' : (sy_i F1 38).toInt = (sy_i F0 38).toInt) (y : Int64) : y ∈ nm ++ [ng F0 (tg F0)] ↔ y ∈ mlc F1 (sy_i F1 38).toInt.toNat := by
  have e2 : mlc F1 (sy_i F1 38).toInt.toNat = mlc F0 (sy_i F0 38).toInt.toNat := by
    unfold mlc
    rw [l43, x43, h38']
  rw [e2, List.mem_append, hm y]
  refine ⟨fun z => z.elim id (fun z => ?_), Or.inl⟩
  have z : y = ng F0 (tg F0) := List.mem_singleton.mp z
  rw [z, ← h82, ← e, x43]
  unfold mlc
  rw [List.mem_map]
  exact ⟨i, List.mem_range.mpr hi, rfl⟩
section C0
variable {Ls : Nat} {xs : Nat → Int32} (F : Nat → sy_d) (X1 X2 : List jm_c)
theorem k0ta_T (hB : iv_in F iv_B0) (a : Int32) : jm_T Ls xs 3 jm_M43 [.ref 30, .int a] (sy_dh F X1 X2 (iv_H 0)) 0 0 (fun v G => ∃ (x : Int32) (F' : Nat → sy_d), v = some (.int x) ∧ G = sy_dh F' X1 X2 (iv_H 0) ∧ taR a.toInt x F F') := by
  refine nx_T (s := 0) (by decide) F X1 X2 (as := [a]) (A := [.inl (.ref 30), .inr (.inl 82)]) jm_ok43 (by decide) rfl ?_
  obtain ⟨F0, hF0⟩ : ∃ F0, F0 = nx 82 F [a] := ⟨_, rfl⟩
  rw [← hF0]
  have k0 : ∀ q, q < 82 → F0 q = F q := by rw [hF0]; exact nx_lt
  have i82 : sy_i F0 82 = a := by rw [hF0]; rfl
  have hB0 := hd_iveq0 hB k0
  have c33 := nz_bx hB0 (k := 33) (lo := 0) (hi := 400) rfl
  have et : (tg F0 : Int) = (sy_i F0 33).toInt := by unfold tg; omega
  have eK : kg F0 (tg F0) = km ((sy_ai F0 39).getD (sy_i F0 33).toInt.toNat 0).toInt := rfl
  refine k0ta_0 (by decide) F0 X1 X2 hB0 ?_ ?_ ?_
  all_goals
    intros
    rename_i F1 hb g e33 e34 e36 e37 e38 a39 a40
    refine ⟨_, F1, rfl, rfl, taR_src ⟨gc_mk hb g (by decide), fun hk => ?_⟩ k0⟩
    rw [← i82] at hk ⊢
  all_goals first
    | exact ac_ok (a := tg F0 + 1) (sM_ok (by rw [eK]; congr 1) (by omega)) (tg_s c33.1 e33)
    | exact ac_er (k := 2) (t := tg F0) (sM_4 (by rw [eK]; congr 1) (by omega)) e34 (tg_eq e33)
    | exact ac_er (k := 1) (t := tg F0) (sM_no (fun z => by
        rw [eK] at z
        have := hk _ z
        omega)) e34 (tg_eq e33)
theorem k0tm_loop (F0 : Nat → sy_d) (hB0 : iv_in F0 iv_B0) (hn : (sy_i F0 38).toInt ≤ 10) (hk : kg F0 (tg F0) = 1) (h4 : tg F0 < 400) : ∀ (n : Nat) (F : Nat → sy_d), gc [33] F0 F → (sy_i F 33).toInt = (sy_i F0 33).toInt + 1 → sy_l F 82 = ng F0 (tg F0) → 0 ≤ (sy_i F 83).toInt → (sy_i F 83).toInt ≤ (sy_i F0 38).toInt → ng F0 (tg F0) ∉ mlc F0 (sy_i F 83).toInt.toNat → 11 - (sy_i F 83).toInt < n →
    hd_W Ls xs 4 jm_M41 (fun v G => ∃ (x : Int32) (F' : Nat → sy_d), v = some (.int x) ∧ G = sy_dh F' X1 X2 (iv_H 0) ∧ tmR x F0 F') (27, sy_dL F [some (.inl (.ref 30)), some (.inr (.inr 82)), none, some (.inr (.inl 83))], sy_dS F [], sy_dh F X1 X2 (iv_H 0), 0, 0)
  | 0, F, _, _, _, h1, h2, _, h3 => absurd h3 (by omega)
  | n + 1, F, hG, h33, h82, h1, h2, hnm, h3 => by
    have c33 := nz_bx hB0 (k := 33) (lo := 0) (hi := 400) rfl
    have c38 := nz_bx hB0 (k := 38) (lo := 0) (hi := 11) rfl
    have i34 := hG.i (k := 34) (by decide) (by decide)
    have i36 := hG.i (k := 36) (by decide) (by decide)
    have i37 := hG.i (k := 37) (by decide) (by decide)
    have i38 := hG.i (k := 38) (by decide) (by decide)
    have x40 : sy_ai F 40 = sy_ai F0 40 := nz_fa (hG.2 40 (by decide) (by decide))
    have x43 : sy_al F 43 = sy_al F0 43 := nz_fl (hG.2 43 (by decide) (by decide))
    have et : tg F = tg F0 + 1 := tg_s c33.1 h33
    have e1 : ((sy_i F 33).toInt - 1).toNat = tg F0 := by unfold tg; omega
    have eP : pg F0 (tg F0) = ((sy_ai F 40).getD ((sy_i F 33).toInt - 1).toNat 0).toInt := by rw [e1, x40]; rfl
    have ek : ((sy_i F 83).toInt + 1).toNat = (sy_i F 83).toInt.toNat + 1 := by omega
    refine k0tm_27 (by decide) F X1 X2 hG.1 (by omega) ?_ ?_ ?_ ?_ ?_ ?_
    · intros; exfalso; omega
    · intro q1 q2 F1 hb g e33 e34 e36 e37 e38 a39 a40 l43
      refine ⟨_, F1, rfl, rfl, (hG.mono (by decide)).trans (gc_mk (W := [33, 34, 36, 37, 38, 43]) hb g (by decide)) (fun _ q => q), by omega, fun w nm hw hm => ac_ok (sNm_ok hk h4) ⟨by rw [tg_eq e33]; exact et, wc_s (by decide) hw (Or.inr ⟨Or.inl (fun z => hnm ?_), by omega, by omega⟩), fun y => ?_⟩⟩
      · have := (hm _).mp z
        rwa [show (sy_i F 83).toInt.toNat = (sy_i F0 38).toInt.toNat by omega]
      · rw [List.mem_append, show (sy_i F1 38).toInt.toNat = (sy_i F0 38).toInt.toNat + 1 by omega, mlc_s, l43, i38, jm_updL_at, if_pos rfl, h82, hm y]
        have eq : ∀ y, y ∈ mlc F1 (sy_i F0 38).toInt.toNat ↔ y ∈ mlc F0 (sy_i F0 38).toInt.toNat := fun y => by
          have : mlc F1 (sy_i F0 38).toInt.toNat = mlc F0 (sy_i F0 38).toInt.toNat := by
            unfold mlc
            refine List.map_congr_left (fun i hi => ?_)
            have := List.mem_range.mp hi
            rw [l43, jm_updL_at, if_neg (by omega), x43]
          rw [this]
        rw [eq y]
        simp
    · intro q1 q2 F1 hb g e33 e34 e36 e37 e38 a39 a40 l43 l82 e83
      refine k0tm_loop F0 hB0 hn hk h4 n F1 (hG.trans (gc_mk (W := [33]) hb g (by decide)) (fun _ q => q)) (by omega) (l82.trans h82) (by omega) (by omega) ?_ (by omega)
      rw [e83, ek, mlc_s]
      rintro (z | z)
      · exact hnm z
      · exact q2 ((lg_eq _ _).mpr (by rw [h82, z, x43]))
    · intro q1 q2 q3 F1 hb g e33 e34 e36 e37 e38 a39 a40 l43
      refine ⟨_, F1, rfl, rfl, (hG.mono (by decide)).trans (gc_mk (W := [33, 34, 36, 37, 38, 43]) hb g (by decide)) (fun _ q => q), by omega, fun w nm hw hm => ac_ok (sNm_ok hk h4) ⟨by rw [tg_eq e33]; exact et, wc_s (by decide) hw (Or.inr ⟨Or.inr (by omega), by omega, by omega⟩), fun y => ?_⟩⟩
      exact k0tm_in F0 F F1 hm ((lg_eq _ _).mp q2) h82 x43 (by omega) (by omega) l43 (by omega) y
    · intros; exfalso; omega
    · intro q1 q2 q3 q4 q5 F1 hb g e33 e34 e36 e37 e38 a39 a40 l43
      have hin : ∀ nm, ncr nm F0 → ng F0 (tg F0) ∈ nm := fun nm hm => (hm _).mpr (by
        have e := (lg_eq _ _).mp q2
        rw [h82, x43] at e
        unfold mlc
        rw [List.mem_map]
        exact ⟨(sy_i F 83).toInt.toNat, List.mem_range.mpr (by omega), e⟩)
      refine ⟨_, F1, rfl, rfl, (hG.mono (by decide)).trans (gc_mk (W := [33, 34, 36, 37, 38, 43]) hb g (by decide)) (fun _ q => q), by omega, fun w nm hw hm => ac_ok (sNm_ok hk h4) ⟨by rw [tg_eq e33]; exact et, wc_s (by decide) hw (Or.inl ⟨hin nm hm, by omega, e36, e37.trans eP.symm⟩), fun y => ?_⟩⟩
      exact k0tm_in F0 F F1 hm ((lg_eq _ _).mp q2) h82 x43 (by omega) (by omega) l43 (by omega) y
theorem k0tm_T (hB : iv_in F iv_B0) (hn : (sy_i F 38).toInt ≤ 10) : jm_T Ls xs 4 jm_M41 [.ref 30] (sy_dh F X1 X2 (iv_H 0)) 0 0 (fun v G => ∃ (x : Int32) (F' : Nat → sy_d), v = some (.int x) ∧ G = sy_dh F' X1 X2 (iv_H 0) ∧ tmR x F F') := by
  have c33 := nz_bx hB (k := 33) (lo := 0) (hi := 400) rfl
  have c38 := nz_bx hB (k := 38) (lo := 0) (hi := 11) rfl
  have et : (tg F : Int) = (sy_i F 33).toInt := by unfold tg; omega
  have eK : kg F (tg F) = 1 ↔ ((sy_ai F 39).getD (sy_i F 33).toInt.toNat 0).toInt = 23 := km_1
  have e1 : ((sy_i F 33).toInt + 1 - 1).toNat = tg F := by unfold tg; omega
  refine hd_T (As := [.inl (.ref 30)]) jm_ok41 (by decide) (k0tm_0 (by decide) F X1 X2 hB ?_ ?_ ?_)
  all_goals try rw [e1]
  all_goals intros
  all_goals first
    | (rename_i F1 hb g e33 e34 e36 e37 e38 a39 a40 l43
       exact ⟨_, F1, rfl, rfl, gc_mk hb g (by decide), by omega, fun w nm hw hm => ac_er (k := 1) (t := tg F) (sNm_no (by omega)) e34 (tg_eq e33)⟩)
    | (rename_i F1 hb g e33 e34 e36 e37 e38 a39 a40 l43
       exact ⟨_, F1, rfl, rfl, gc_mk hb g (by decide), by omega, fun w nm hw hm => ac_er (k := 2) (t := tg F) (sNm_4 (by omega) (by omega)) e34 (tg_eq e33)⟩)
    | (rename_i F1 hb g e33 e34 e36 e37 e38 a39 a40 l43 l82 e83
       exact k0tm_loop X1 X2 F hB hn (by omega) (by omega) 12 F1 (gc_mk hb g (by decide)) e33 l82 (by omega) (by omega) (by rw [e83]; simp [mlc]) (by omega))
end C0
theorem k3tm_in {nm : List Int64} (F0 F F1 : Nat → sy_d) (hm : ncr nm F0) {i : Nat} (e : (sy_al F 43).getD i 0 = sy_l F 82) (h82 : sy_l F 82 = ng F0 (tg F0)) (x43 : sy_al F 43 = sy_al F0 43) (hi : i < (sy_i F0 38).toInt.toNat) (h38 : (sy_i F 38).toInt = (sy_i F0 38).toInt) (l43 : sy_al F1 43 = sy_al F 43) (h38' : (sy_i F1 38).toInt = (sy_i F0 38).toInt) (y : Int64) : y ∈ nm ++ [ng F0 (tg F0)] ↔ y ∈ mlc F1 (sy_i F1 38).toInt.toNat := by
  have e2 : mlc F1 (sy_i F1 38).toInt.toNat = mlc F0 (sy_i F0 38).toInt.toNat := by
    unfold mlc
    rw [l43, x43, h38']
  rw [e2, List.mem_append, hm y]
  refine ⟨fun z => z.elim id (fun z => ?_), Or.inl⟩
  have z : y = ng F0 (tg F0) := List.mem_singleton.mp z
  rw [z, ← h82, ← e, x43]
  unfold mlc
  rw [List.mem_map]
  exact ⟨i, List.mem_range.mpr hi, rfl⟩
section C3
variable {Ls : Nat} {xs : Nat → Int32} (F : Nat → sy_d) (X1 X2 : List jm_c)
theorem k3ta_T (hB : iv_in F iv_B0) (a : Int32) : jm_T Ls xs 3 jm_M43 [.ref 30, .int a] (sy_dh F X1 X2 (iv_H 3)) 0 0 (fun v G => ∃ (x : Int32) (F' : Nat → sy_d), v = some (.int x) ∧ G = sy_dh F' X1 X2 (iv_H 3) ∧ taR a.toInt x F F') := by
  refine nx_T (s := 3) (by decide) F X1 X2 (as := [a]) (A := [.inl (.ref 30), .inr (.inl 82)]) jm_ok43 (by decide) rfl ?_
  obtain ⟨F0, hF0⟩ : ∃ F0, F0 = nx 82 F [a] := ⟨_, rfl⟩
  rw [← hF0]
  have k0 : ∀ q, q < 82 → F0 q = F q := by rw [hF0]; exact nx_lt
  have i82 : sy_i F0 82 = a := by rw [hF0]; rfl
  have hB0 := hd_iveq0 hB k0
  have c33 := nz_bx hB0 (k := 33) (lo := 0) (hi := 400) rfl
  have et : (tg F0 : Int) = (sy_i F0 33).toInt := by unfold tg; omega
  have eK : kg F0 (tg F0) = km ((sy_ai F0 39).getD (sy_i F0 33).toInt.toNat 0).toInt := rfl
  refine k3ta_0 (by decide) F0 X1 X2 hB0 ?_ ?_ ?_
  all_goals
    intros
    rename_i F1 hb g e33 e34 e36 e37 e38 a39 a40
    refine ⟨_, F1, rfl, rfl, taR_src ⟨gc_mk hb g (by decide), fun hk => ?_⟩ k0⟩
    rw [← i82] at hk ⊢
  all_goals first
    | exact ac_ok (a := tg F0 + 1) (sM_ok (by rw [eK]; congr 1) (by omega)) (tg_s c33.1 e33)
    | exact ac_er (k := 2) (t := tg F0) (sM_4 (by rw [eK]; congr 1) (by omega)) e34 (tg_eq e33)
    | exact ac_er (k := 1) (t := tg F0) (sM_no (fun z => by
        rw [eK] at z
        have := hk _ z
        omega)) e34 (tg_eq e33)
theorem k3tm_loop (F0 : Nat → sy_d) (hB0 : iv_in F0 iv_B0) (hn : (sy_i F0 38).toInt ≤ 10) (hk : kg F0 (tg F0) = 1) (h4 : tg F0 < 400) : ∀ (n : Nat) (F : Nat → sy_d), gc [33] F0 F → (sy_i F 33).toInt = (sy_i F0 33).toInt + 1 → sy_l F 82 = ng F0 (tg F0) → 0 ≤ (sy_i F 83).toInt → (sy_i F 83).toInt ≤ (sy_i F0 38).toInt → ng F0 (tg F0) ∉ mlc F0 (sy_i F 83).toInt.toNat → 11 - (sy_i F 83).toInt < n →
    hd_W Ls xs 4 jm_M41 (fun v G => ∃ (x : Int32) (F' : Nat → sy_d), v = some (.int x) ∧ G = sy_dh F' X1 X2 (iv_H 3) ∧ tmR x F0 F') (27, sy_dL F [some (.inl (.ref 30)), some (.inr (.inr 82)), none, some (.inr (.inl 83))], sy_dS F [], sy_dh F X1 X2 (iv_H 3), 0, 0)
  | 0, F, _, _, _, h1, h2, _, h3 => absurd h3 (by omega)
  | n + 1, F, hG, h33, h82, h1, h2, hnm, h3 => by
    have c33 := nz_bx hB0 (k := 33) (lo := 0) (hi := 400) rfl
    have c38 := nz_bx hB0 (k := 38) (lo := 0) (hi := 11) rfl
    have i34 := hG.i (k := 34) (by decide) (by decide)
    have i36 := hG.i (k := 36) (by decide) (by decide)
    have i37 := hG.i (k := 37) (by decide) (by decide)
    have i38 := hG.i (k := 38) (by decide) (by decide)
    have x40 : sy_ai F 40 = sy_ai F0 40 := nz_fa (hG.2 40 (by decide) (by decide))
    have x43 : sy_al F 43 = sy_al F0 43 := nz_fl (hG.2 43 (by decide) (by decide))
    have et : tg F = tg F0 + 1 := tg_s c33.1 h33
    have e1 : ((sy_i F 33).toInt - 1).toNat = tg F0 := by unfold tg; omega
    have eP : pg F0 (tg F0) = ((sy_ai F 40).getD ((sy_i F 33).toInt - 1).toNat 0).toInt := by rw [e1, x40]; rfl
    have ek : ((sy_i F 83).toInt + 1).toNat = (sy_i F 83).toInt.toNat + 1 := by omega
    refine k3tm_27 (by decide) F X1 X2 hG.1 (by omega) ?_ ?_ ?_ ?_ ?_ ?_
    · intros; exfalso; omega
    · intro q1 q2 F1 hb g e33 e34 e36 e37 e38 a39 a40 l43
      refine ⟨_, F1, rfl, rfl, (hG.mono (by decide)).trans (gc_mk (W := [33, 34, 36, 37, 38, 43]) hb g (by decide)) (fun _ q => q), by omega, fun w nm hw hm => ac_ok (sNm_ok hk h4) ⟨by rw [tg_eq e33]; exact et, wc_s (by decide) hw (Or.inr ⟨Or.inl (fun z => hnm ?_), by omega, by omega⟩), fun y => ?_⟩⟩
      · have := (hm _).mp z
        rwa [show (sy_i F 83).toInt.toNat = (sy_i F0 38).toInt.toNat by omega]
      · rw [List.mem_append, show (sy_i F1 38).toInt.toNat = (sy_i F0 38).toInt.toNat + 1 by omega, mlc_s, l43, i38, jm_updL_at, if_pos rfl, h82, hm y]
        have eq : ∀ y, y ∈ mlc F1 (sy_i F0 38).toInt.toNat ↔ y ∈ mlc F0 (sy_i F0 38).toInt.toNat := fun y => by
          have : mlc F1 (sy_i F0 38).toInt.toNat = mlc F0 (sy_i F0 38).toInt.toNat := by
            unfold mlc
            refine List.map_congr_left (fun i hi => ?_)
            have := List.mem_range.mp hi
            rw [l43, jm_updL_at, if_neg (by omega), x43]
          rw [this]
        rw [eq y]
        simp
    · intro q1 q2 F1 hb g e33 e34 e36 e37 e38 a39 a40 l43 l82 e83
      refine k3tm_loop F0 hB0 hn hk h4 n F1 (hG.trans (gc_mk (W := [33]) hb g (by decide)) (fun _ q => q)) (by omega) (l82.trans h82) (by omega) (by omega) ?_ (by omega)
      rw [e83, ek, mlc_s]
      rintro (z | z)
      · exact hnm z
      · exact q2 ((lg_eq _ _).mpr (by rw [h82, z, x43]))
    · intro q1 q2 q3 F1 hb g e33 e34 e36 e37 e38 a39 a40 l43
      refine ⟨_, F1, rfl, rfl, (hG.mono (by decide)).trans (gc_mk (W := [33, 34, 36, 37, 38, 43]) hb g (by decide)) (fun _ q => q), by omega, fun w nm hw hm => ac_ok (sNm_ok hk h4) ⟨by rw [tg_eq e33]; exact et, wc_s (by decide) hw (Or.inr ⟨Or.inr (by omega), by omega, by omega⟩), fun y => ?_⟩⟩
      exact k3tm_in F0 F F1 hm ((lg_eq _ _).mp q2) h82 x43 (by omega) (by omega) l43 (by omega) y
    · intros; exfalso; omega
    · intro q1 q2 q3 q4 q5 F1 hb g e33 e34 e36 e37 e38 a39 a40 l43
      have hin : ∀ nm, ncr nm F0 → ng F0 (tg F0) ∈ nm := fun nm hm => (hm _).mpr (by
        have e := (lg_eq _ _).mp q2
        rw [h82, x43] at e
        unfold mlc
        rw [List.mem_map]
        exact ⟨(sy_i F 83).toInt.toNat, List.mem_range.mpr (by omega), e⟩)
      refine ⟨_, F1, rfl, rfl, (hG.mono (by decide)).trans (gc_mk (W := [33, 34, 36, 37, 38, 43]) hb g (by decide)) (fun _ q => q), by omega, fun w nm hw hm => ac_ok (sNm_ok hk h4) ⟨by rw [tg_eq e33]; exact et, wc_s (by decide) hw (Or.inl ⟨hin nm hm, by omega, e36, e37.trans eP.symm⟩), fun y => ?_⟩⟩
      exact k3tm_in F0 F F1 hm ((lg_eq _ _).mp q2) h82 x43 (by omega) (by omega) l43 (by omega) y
theorem k3tm_T (hB : iv_in F iv_B0) (hn : (sy_i F 38).toInt ≤ 10) : jm_T Ls xs 4 jm_M41 [.ref 30] (sy_dh F X1 X2 (iv_H 3)) 0 0 (fun v G => ∃ (x : Int32) (F' : Nat → sy_d), v = some (.int x) ∧ G = sy_dh F' X1 X2 (iv_H 3) ∧ tmR x F F') := by
  have c33 := nz_bx hB (k := 33) (lo := 0) (hi := 400) rfl
  have c38 := nz_bx hB (k := 38) (lo := 0) (hi := 11) rfl
  have et : (tg F : Int) = (sy_i F 33).toInt := by unfold tg; omega
  have eK : kg F (tg F) = 1 ↔ ((sy_ai F 39).getD (sy_i F 33).toInt.toNat 0).toInt = 23 := km_1
  have e1 : ((sy_i F 33).toInt + 1 - 1).toNat = tg F := by unfold tg; omega
  refine hd_T (As := [.inl (.ref 30)]) jm_ok41 (by decide) (k3tm_0 (by decide) F X1 X2 hB ?_ ?_ ?_)
  all_goals try rw [e1]
  all_goals intros
  all_goals first
    | (rename_i F1 hb g e33 e34 e36 e37 e38 a39 a40 l43
       exact ⟨_, F1, rfl, rfl, gc_mk hb g (by decide), by omega, fun w nm hw hm => ac_er (k := 1) (t := tg F) (sNm_no (by omega)) e34 (tg_eq e33)⟩)
    | (rename_i F1 hb g e33 e34 e36 e37 e38 a39 a40 l43
       exact ⟨_, F1, rfl, rfl, gc_mk hb g (by decide), by omega, fun w nm hw hm => ac_er (k := 2) (t := tg F) (sNm_4 (by omega) (by omega)) e34 (tg_eq e33)⟩)
    | (rename_i F1 hb g e33 e34 e36 e37 e38 a39 a40 l43 l82 e83
       exact k3tm_loop X1 X2 F hB hn (by omega) (by omega) 12 F1 (gc_mk hb g (by decide)) e33 l82 (by omega) (by omega) (by rw [e83]; simp [mlc]) (by omega))
end C3
