/-! ===== a setting told, with its number ===== -/
section TIZ
variable {Ls : Nat} {xs : Nat → Int32} (F : Nat → sy_d) (X1 X2 : List jm_c)
theorem tiz_T (hB : iv_in F iv_B4) (b : Int32) : jm_T Ls xs 4 jm_M153 [.ref 1000, .int 0, .int b] (sy_dh F X1 X2 (iv_H 4)) 0 0 (fun v G => ∃ (x : Int32) (F' : Nat → sy_d), v = some (.int x) ∧ G = sy_dh F' X1 X2 (iv_H 4) ∧ iR b.toInt F F' ∧ ((sy_i F' 6).toInt = 0 → x.toInt = vf F (tn F + 1))) := by
  refine nz_T2 jm_ok153 (by decide) (fun F0 k0 h69 h70 => hd_W_mono (Q := fun v G => ∃ (x : Int32) (F' : Nat → sy_d), v = some (.int x) ∧ G = sy_dh F' X1 X2 (iv_H 4) ∧ iR b.toInt F0 F' ∧ ((sy_i F' 6).toInt = 0 → x.toInt = vf F0 (tn F0 + 1))) ?_ (by
    rintro v G ⟨x, F', rfl, rfl, hR, hv⟩
    rw [vf_eq (k0 27 (by decide)), tn_eq (nz_fi (k0 4 (by decide)))] at hv
    exact ⟨x, F', rfl, rfl, iR_src hR k0, hv⟩))
  have hB0 := hd_iveq hB k0
  have c4 := nz_bx hB0 (k := 4) (lo := 0) (hi := 400) rfl
  have c6 := nz_bx hB0 (k := 6) (lo := 0) (hi := 2) rfl
  have eP : pf F0 (tn F0) = ((sy_ai F0 26).getD (sy_i F0 4).toInt.toNat 0).toInt := rfl
  have et : (tn F0 : Int) = (sy_i F0 4).toInt := by unfold tn; omega
  have z0 : (0 : Int32).toInt = 0 := by decide
  have step : ∀ F1 : Nat → sy_d, gr W1 F0 F1 → nop F0 F1 → (sy_i F1 69).toInt = b.toInt → (sy_i F1 70).toInt = 0 → (∀ (L : Nat) (w : sE), pm (pf F0) (kf F0) L → tn F0 ≤ L → kf F0 (tn F0) ≠ 0 → wr (pf F0) w F0 → an (pf F0) (sG (tn F0)) (jw (pf F0) L w) F0 F1) → ((sy_i F1 6).toInt = 0 → tn F1 = tn F0 + 1) → hd_W Ls xs 4 jm_M153 (fun v G => ∃ (x : Int32) (F' : Nat → sy_d), v = some (.int x) ∧ G = sy_dh F' X1 X2 (iv_H 4) ∧ iR b.toInt F0 F' ∧ ((sy_i F' 6).toInt = 0 → x.toInt = vf F0 (tn F0 + 1))) (7, sy_dL F1 [some (.inl (.ref 1000)), none, none, none], sy_dS F1 [.inr (.inl 69), .inr (.inl 70), .inl (.ref 1000)], sy_dh F1 X1 X2 (iv_H 4), 0, 0) := by
    intro F1 hG hN q69 q70 hA hT
    refine hd_calI (R := fun x F' => bR (sy_i F1 70).toInt (sy_i F1 69).toInt F1 F' ∧ ((sy_i F' 6).toInt = 0 → x.toInt = vf F1 (tn F1))) (nh := 69) (nv := 71) (s := 4) (s1 := 4) (d1 := 3) (M1 := jm_M157) (As := [.inl (.ref 1000), .inr (.inl 70), .inr (.inl 69)]) (rest := []) jm_ok153 rfl rfl (by decide) (by decide +kernel) (byv_T F1 X1 X2 hG.b _ _) (fun F3 F' x hR0 p1 _ p3 => ?_)
    obtain ⟨hR, hx⟩ := hR0
    have i6 := nz_fi (p1 6 (by decide))
    have hR3 := bR_dst hR p1
    rw [q69, q70] at hR3
    obtain ⟨b1, b2, b3⟩ := id hR3
    rw [kf_eq (hG.f 25 (by decide) (by decide)), pf_eq (hG.f 26 (by decide) (by decide)), vf_eq (hG.f 27 (by decide) (by decide))] at b3
    have g3 := hG.trans b1 (by decide)
    have d4 := nz_bx g3.b (k := 4) (lo := 0) (hi := 400) rfl
    have x25 := g3.a (k := 25) (by decide) (by decide)
    have x26 := g3.a (k := 26) (by decide) (by decide)
    have eK3 : kf F0 (tn F3) = ((sy_ai F3 25).getD (sy_i F3 4).toInt.toNat 0).toInt := by rw [x25]; rfl
    have eP3 : pf F0 (tn F3) = ((sy_ai F3 26).getD (sy_i F3 4).toInt.toNat 0).toInt := by rw [x26]; rfl
    have et3 : (tn F3 : Int) = (sy_i F3 4).toInt := by unfold tn; omega
    have t1 := g3.t
    have chain : ∀ (F4 : Nat → sy_d), nop F3 F4 → (∀ (L : Nat) (q : Nat × sE), pm (pf F0) (kf F0) L → jq (pf F0) L q F3 → (sy_i F3 6).toInt = 0 → an (pf F0) (sB (sM (kf F0) 4 q.1) fun t => .inr (t, q.2)) (jq (pf F0) L) F3 F4) → nop F0 F4 ∧ ∀ (L : Nat) (w : sE), pm (pf F0) (kf F0) L → tn F0 ≤ L → kf F0 (tn F0) ≠ 0 → wr (pf F0) w F0 → an (pf F0) (sSt (kf F0) (vf F0) b.toInt (tn F0) w) (jq (pf F0) L) F0 F4 := by
      intro F4 n4 h4
      refine ⟨nop_trans (nop_trans hN b2) n4, fun L w hm hL hk hw => ?_⟩
      refine an_bind (hA L w hm hL hk hw) (nop_trans b2 n4) (fun _ t ht => ?_)
      obtain ⟨t1, t2, t3⟩ := ht
      subst t1
      exact an_bind (b3 L w hm t2 t3) n4 (fun h6 q hq => h4 L q hm hq h6)
    refine tiy_10 (by decide) F3 X1 X2 g3.b ?_ ?_ ?_ ?_
    all_goals
      intros
      rename_i F4 hb4 g4 e4 e6 e7 e8 e9 e13 a25 a26 a27
      obtain ⟨f1, f2⟩ := chain F4 (by
        first
          | exact nop_same e6 e7
          | exact fun z => absurd z (by omega)) (fun L q hm hq h6 => by
        obtain ⟨q1, q2⟩ := q
        obtain ⟨y1, y2, y3⟩ := hq
        have y1 : tn F3 = q1 := y1
        subst y1
        show an _ (sB (sM (kf F0) 4 (tn F3)) fun t => .inr (t, q2)) _ _ _
        first
          | exact absurd h6 (by omega)
          | exact an_er (k := 1) (tok := tn F3) (by rw [sM_no (by omega)]; rfl) e6 (by decide) (e7.trans eP3.symm)
          | exact an_er (k := 2) (tok := tn F3) (by rw [sM_4 (by omega) (by omega)]; rfl) e6 (by decide) (e7.trans eP3.symm)
          | exact an_ok (a := (tn F3 + 1, q2)) (by rw [sM_ok (by omega) (by omega)]; rfl) (by omega) ⟨tn_s d4.1 e4, pm_nx hm y2 (by omega) (by omega), wr_eq y3 (by rw [tn_s d4.1 e4]; omega) e8 e9⟩)
      refine ⟨_, F4, rfl, rfl, ⟨g3.trans (gr_mk (W := W1) hb4 g4 (by decide) (by omega) (by omega)) (by decide), f1, by omega, f2⟩, fun z => ?_⟩
      rw [zz_i p3, hx (by omega), vf_eq (hG.f 27 (by decide) (by decide)), hT (b1.u (by omega))]
  refine tiy_0 (by decide) F0 X1 X2 hB0 ?_ ?_ ?_
  all_goals
    intros
    rename_i F1 hb g e4 e6 e7 e8 e9 e13 a25 a26 a27 e69 e70
    refine step F1 (gr_mk (W := W1) hb g (by decide) (by omega) (by omega)) ?_ (by rw [e69, h70]) (by rw [e70, h69]; exact z0) (fun L w hm hL hk hw => ?_) (fun z => ?_)
  all_goals first
    | exact absurd z (by omega)
    | exact tn_s c4.1 e4
    | exact nop_same e6 e7
    | exact fun z => absurd z (by omega)
    | exact an_no (by omega)
    | exact an_er (k := 2) (tok := tn F0) (sG_4 (by omega)) e6 (by decide) (e7.trans eP.symm)
    | exact fun z0 => an_ok (F := F0) (a := tn F0 + 1) (sG_ok (by omega)) (by omega) ⟨tn_s c4.1 e4, pm_nx hm hL hk (by omega), wr_eq hw (by rw [tn_s c4.1 e4]; omega) e8 e9⟩ z0
end TIZ
