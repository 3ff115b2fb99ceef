/-! ===== a method begins ===== -/
theorem R_T {Ls : Nat} {xs : Nat → Int32} {d : Nat} {M : jm_M} {Q : Option Value → jm_h → Prop} {F : Nat → sy_d} {X1 X2 : List jm_c} (as : List Int32) (A : List sy_v) {vs : List Value} (hok : jm_ok jm_YN M) (hl : (sy_e1 A).length ≤ jm_mx M) (hA : A.map (sy_dv (nx 69 F as)) = vs)
    (h : ∀ F0 : Nat → sy_d, (∀ j, j < 69 → F0 j = F j) → (∀ i, sy_i F0 (69 + i) = as.getD i 0) → hd_W Ls xs d M Q (0, sy_dL F0 (sy_ent (jm_mx M) A), [], sy_dh F0 X1 X2 (iv_H 4), 0, 0)) : jm_T Ls xs d M vs (sy_dh F X1 X2 (iv_H 4)) 0 0 Q := by
  rw [nz_eH X1 X2 (nx_lt (F := F) (as := as)), ← hA]
  exact hd_T hok hl (h _ nx_lt (fun i => zz_i (nx_at i)))
theorem C_T {Ls : Nat} {xs : Nat → Int32} {d : Nat} {M : jm_M} {Q : Option Value → jm_h → Prop} {F : Nat → sy_d} {X1 X2 : List jm_c} {s : Nat} (hs : s < 4) (as : List Int32) (A : List sy_v) {vs : List Value} (hok : jm_ok jm_YN M) (hl : (sy_e1 A).length ≤ jm_mx M) (hA : A.map (sy_dv (nx 82 F as)) = vs)
    (h : ∀ F0 : Nat → sy_d, (∀ j, j < 82 → F0 j = F j) → (∀ i, sy_i F0 (82 + i) = as.getD i 0) → hd_W Ls xs d M Q (0, sy_dL F0 (sy_ent (jm_mx M) A), [], sy_dh F0 X1 X2 (iv_H s), 0, 0)) : jm_T Ls xs d M vs (sy_dh F X1 X2 (iv_H s)) 0 0 Q := by
  have e : sy_dh F X1 X2 (iv_H s) = sy_dh (nx 82 F as) X1 X2 (iv_H s) := by
    rw [dh_x F X1 X2 hs, dh_x (nx 82 F as) X1 X2 hs, dh_nx hs nx_lt]
  rw [e, ← hA]
  exact hd_T hok hl (h _ nx_lt (fun i => zz_i (nx_at i)))
/-! ===== the vars, and what the laws tell ===== -/
def vrs (ripe high hour blows across shaken propped lay left : Int32) : Nat → Int32
  | 0 => ripe
  | 1 => high
  | 2 => hour
  | 3 => blows
  | 4 => across
  | 5 => shaken
  | 6 => propped
  | 7 => lay
  | 8 => left
  | _ => 0
def tF (T : tX) (f : Nat) : t3 := T.1.getD f (0, 0, 0)
def tB (T : tX) (b : Nat) : t3 := T.2.1.getD b (0, 0, 0)
noncomputable def windT (T : tX) (hour left : Int32) : Int := lwT T 0 (vrs 0 0 hour 0 0 0 0 0 left)
noncomputable def ripeT (T : tX) (f : Nat) (ripe shaken propped blows hour left : Int32) : Int := lwT T 1 (vrs ripe (Int32.ofInt (tF T f).2.1) hour blows (Int32.ofInt (tF T f).1) shaken propped 0 left)
noncomputable def fallT (T : tX) (f : Nat) (ripe shaken propped blows hour left : Int32) : Int := lwT T 2 (vrs ripe (Int32.ofInt (tF T f).2.1) hour blows (Int32.ofInt (tF T f).1) shaken propped 0 left)
noncomputable def worthT (T : tX) (f : Nat) (ripe lay hour left : Int32) : Int := lwT T 3 (vrs ripe (Int32.ofInt (tF T f).2.1) hour 0 (Int32.ofInt (tF T f).1) 0 0 lay left)
noncomputable def bncT (T : tX) (f : Nat) (ripe hour left : Int32) : Int := lwT T 4 (vrs ripe (Int32.ofInt (tF T f).2.1) hour 0 (Int32.ofInt (tF T f).1) 0 0 0 left)
noncomputable def foundT (T : tX) (shaken blows hour left : Int32) : Int := lwT T 5 (vrs 0 0 hour blows 0 shaken 0 0 left)
theorem nine9 {p : Nat → Prop} (h0 : p 0) (h1 : p 1) (h2 : p 2) (h3 : p 3) (h4 : p 4) (h5 : p 5) (h6 : p 6) (h7 : p 7) (h8 : p 8) : ∀ j, j ≤ 8 → p j
  | 0, _ => h0
  | 1, _ => h1
  | 2, _ => h2
  | 3, _ => h3
  | 4, _ => h4
  | 5, _ => h5
  | 6, _ => h6
  | 7, _ => h7
  | 8, _ => h8
  | n + 9, h => absurd h (by omega)
theorem lwR_cg {T : tX} (hT : wT T) {k : Nat} {v v' : Nat → Int32} (h : ∀ j : Nat, j ≤ 8 → tvs k j = true → v j = v' j) : lwR T k v = lwR T k v' := by
  unfold lwR
  refine lwV_cg (fun j hj => ?_) _ (wfL_T hT k).2
  unfold mkv
  by_cases q : tvs k j = true
  · rw [if_pos q, if_pos q]
    exact h j hj q
  · rw [if_neg q, if_neg q]
theorem lwT_cg {T : tX} (hT : wT T) {k : Nat} {v v' : Nat → Int32} (h : ∀ j : Nat, j ≤ 8 → tvs k j = true → v j = v' j) : lwT T k v = lwT T k v' := by
  unfold lwT
  rw [lwR_cg hT h]
theorem bq_fl (F : Nat → sy_d) (b : Nat) : bq (fl F) b = bq F b := by
  unfold bq ix cut_
  rw [fl_a (by decide), fl_a (by decide), fl_a (by decide), fl_a (by decide), fl_a (by decide), fl_a (by decide), fl_a (by decide)]
theorem bL_fl (F : Nat → sy_d) (b : Nat) : ∀ n : Nat, bL (fl F) b n = bL F b n
  | 0 => rfl
  | n + 1 => by
    show bL (fl F) b n ++ [_] = bL F b n ++ [_]
    rw [bL_fl F b n, bq_fl]
theorem rX_law {T : tX} {F : Nat → sy_d} (h : rXl T F) {k : Nat} (hk : k < 6) : (T.2.2.2.2.2 k = none → ix F 42 (6 * (sy_i F 11).toInt.toNat + k) = ix F 43 (6 * (sy_i F 11).toInt.toNat + k)) ∧ ∀ l, T.2.2.2.2.2 k = some l → ix F 42 (6 * (sy_i F 11).toInt.toNat + k) ≤ ix F 43 (6 * (sy_i F 11).toInt.toNat + k) ∧ bL F (ix F 42 (6 * (sy_i F 11).toInt.toNat + k)).toNat (ix F 43 (6 * (sy_i F 11).toInt.toNat + k) - ix F 42 (6 * (sy_i F 11).toInt.toNat + k)).toNat = l := by
  have h6 := h.2.2.2.2.2 k hk
  constructor
  · intro q
    rw [q] at h6
    have h6 : ix (fl F) 42 (6 * sdf (fl F) + k) = ix (fl F) 43 (6 * sdf (fl F) + k) := h6
    rw [fl_s, fl_ix (by decide), fl_ix (by decide)] at h6
    exact h6
  · intro l q
    rw [q] at h6
    have h6 : ix (fl F) 42 (6 * sdf (fl F) + k) ≤ ix (fl F) 43 (6 * sdf (fl F) + k) ∧ bL (fl F) (ix (fl F) 42 (6 * sdf (fl F) + k)).toNat (ix (fl F) 43 (6 * sdf (fl F) + k) - ix (fl F) 42 (6 * sdf (fl F) + k)).toNat = l := h6
    rw [fl_s, fl_ix (by decide), fl_ix (by decide), bL_fl] at h6
    exact h6
theorem bL_len {F : Nat → sy_d} {b : Nat} : ∀ n : Nat, (bL F b n).length = n
  | 0 => rfl
  | n + 1 => by
    show (bL F b n ++ [_]).length = n + 1
    rw [List.length_append, bL_len n]
    rfl
section AV
variable {Ls : Nat} {xs : Nat → Int32} (F : Nat → sy_d) (X1 X2 : List jm_c)
theorem lw_V (hB : iv_in F iv_B4) {a : Int32} (ha : 0 ≤ a.toInt ∧ a.toInt ≤ 11) {l : List bRT} (h1 : ix F 42 a.toInt.toNat ≤ ix F 43 a.toInt.toNat) (h2 : bL F (ix F 42 a.toInt.toNat).toNat (ix F 43 a.toInt.toNat - ix F 42 a.toInt.toNat).toNat = l) (hw : ∀ b ∈ l, wfB b) : jm_T Ls xs 2 jm_M180 [.ref 1000, .int a] (sy_dh F X1 X2 (iv_H 4)) 0 0 (pI 4 X1 X2 (fun x F' => qR [17, 53] F F' ∧ x = lwV (v52 F) l)) := by
  refine R_T [a] [.inl (.ref 1000), .inr (.inl 69)] jm_ok180 (by decide) rfl (fun F0 k0 ki => ?_)
  have i69 : sy_i F0 69 = a := ki 0
  have b42 := nz_ba hB (k := 42) (lo := 0) (hi := 260) rfl a.toInt.toNat
  have b42 : 0 ≤ ix F 42 a.toInt.toNat ∧ ix F 42 a.toInt.toNat ≤ 260 := b42
  refine ylt_0 (by decide) F0 X1 X2 (hd_iveq hB k0) (by rw [i69]; omega) ?_
  intro F1 hb g e17 j17 e69 j69 e70 j70
  rw [i69] at e69 e70
  have e70 : (sy_i F1 70).toInt = ix F 42 a.toInt.toNat := by rw [e70, nz_fa (k0 42 (by decide))]; rfl
  have hl : l.length = (ix F 43 a.toInt.toNat - ix F 42 a.toInt.toNat).toNat := by rw [← h2]; exact bL_len _
  refine lv_L F X1 X2 hB (A := a.toInt) ha l F1 (qq_src (qq_mk hb g (by decide)) k0) e17 e69 (by omega) (by omega) ?_ hw
  rw [e70, hl]
  exact h2
theorem ak_V {T : tX} (hB : iv_in F iv_B4) (hX : rXl T F) (hT : wT T) {k : Nat} (hk : k < 6) {c p lo hi : Int32} {v : Nat → Int32} (hc : c.toInt = k) (hv : ∀ j, j ≤ 8 → v52 F j = mkv k v j) (hlo : lo.toInt = lLo k) (hhi : hi.toInt = lHi k) (hp : T.2.2.2.2.2 k = none → p = lwV (mkv k v) (pb k)) :
    jm_T Ls xs 4 jm_M179 [.ref 1000, .int c, .int p, .int lo, .int hi] (sy_dh F X1 X2 (iv_H 4)) 0 0 (pI 4 X1 X2 (fun x F' => qR [17, 53] F F' ∧ x.toInt = lwT T k v)) := by
  refine R_T [c, p, lo, hi] [.inl (.ref 1000), .inr (.inl 69), .inr (.inl 70), .inr (.inl 71), .inr (.inl 72)] jm_ok179 (by decide) rfl (fun F0 k0 ki => ?_)
  have i69 : sy_i F0 69 = c := ki 0
  have i70 : sy_i F0 70 = p := ki 1
  have i71 : sy_i F0 71 = lo := ki 2
  have i72 : sy_i F0 72 = hi := ki 3
  have c11 := nz_bx hB (k := 11) (lo := 0) (hi := 1) rfl
  have e11 : (sy_i F0 11).toInt = (sy_i F 11).toInt := nz_fi (k0 11 (by decide))
  have e69c : (sy_i F0 69).toInt = k := by rw [i69]; exact hc
  have a42 : sy_ai F0 42 = sy_ai F 42 := nz_fa (k0 42 (by decide))
  have a43 : sy_ai F0 43 = sy_ai F 43 := nz_fa (k0 43 (by decide))
  obtain ⟨A, hA⟩ : ∃ A : Nat, A = 6 * (sy_i F 11).toInt.toNat + k := ⟨_, rfl⟩
  have eA : (6 * (sy_i F0 11).toInt + (sy_i F0 69).toInt).toNat = A := by rw [i69, hc, e11, hA]; omega
  obtain ⟨x1, x2⟩ := rX_law hX hk
  rw [← hA] at x1 x2
  have hlh : lLo k ≤ lHi k := by unfold lLo lHi; (repeat' split) <;> omega
  have f42 : ((sy_ai F0 42).getD (6 * (sy_i F0 11).toInt + (sy_i F0 69).toInt).toNat 0).toInt = ix F 42 A := by rw [eA, a42]; rfl
  have f43 : ((sy_ai F0 43).getD (6 * (sy_i F0 11).toInt + (sy_i F0 69).toInt).toNat 0).toInt = ix F 43 A := by rw [eA, a43]; rfl
  have ew : ∀ x : Int32, x = lwV (v52 F) ((T.2.2.2.2.2 k).getD (pb k)) → hdz (lLo k) (lHi k) x.toInt = lwT T k v := fun x h => by
    unfold lwT lwR
    rw [h, lwV_cg hv _ (wfL_T hT k).2]
  have nn : ix F 43 A ≤ ix F 42 A → hdz (lLo k) (lHi k) p.toInt = lwT T k v := fun q => by
    cases e : T.2.2.2.2.2 k with
    | none =>
      refine ew p ?_
      rw [e, hp e]
      exact (lwV_cg hv _ (wfL_pb k).2).symm
    | some l =>
      obtain ⟨y1, y2⟩ := x2 l e
      have hl : l.length = (ix F 43 A - ix F 42 A).toNat := by rw [← y2]; exact bL_len _
      have hw := (hT.1.2.2 k l e).1
      match l, hl, hw with
      | [], _, hw => exact absurd hw (by intro z; exact z)
      | _ :: _, hl, _ =>
        simp only [List.length_cons] at hl
        omega
  refine yak_0 (by decide) F0 X1 X2 (hd_iveq hB k0) (by rw [i69]; omega) ?_ ?_ ?_ ?_
  · intro c0 c1 c2 F1 hb g
    refine ⟨_, F1, rfl, rfl, qq_src (qq_mk hb g (by decide)) k0, ?_⟩
    rw [f42, f43] at c0
    rw [← nn c0, i70]
    rw [i71, i70] at c1
    rw [i70, i72] at c2
    unfold hdz
    rw [if_neg (by omega), if_neg (by omega)]
  · intro c0 c1 c2 F1 hb g
    refine ⟨_, F1, rfl, rfl, qq_src (qq_mk hb g (by decide)) k0, ?_⟩
    rw [f42, f43] at c0
    rw [← nn c0, i72]
    rw [i71, i70] at c1
    rw [i70, i72] at c2
    unfold hdz
    rw [if_neg (by omega), if_pos (by omega)]
    exact hhi
  · intro c0 c1 F1 hb g
    refine ⟨_, F1, rfl, rfl, qq_src (qq_mk hb g (by decide)) k0, ?_⟩
    rw [f42, f43] at c0
    rw [← nn c0, i71]
    rw [i71, i70] at c1
    unfold hdz
    rw [if_pos (by omega)]
    exact hlo
  · intro c0 F1 hb g e69 j69 e70 j70 e71 j71
    rw [f42, f43] at c0
    have hs : ∃ l, T.2.2.2.2.2 k = some l := by
      cases e : T.2.2.2.2.2 k with
      | none =>
        have := x1 e
        omega
      | some l => exact ⟨l, rfl⟩
    obtain ⟨l, hl⟩ := hs
    obtain ⟨y1, y2⟩ := x2 l hl
    have q1 : qR [] F F1 := qq_src (qq_mk hb g (by decide)) k0
    have eA1 : (sy_i F1 71).toInt.toNat = A := by rw [e71]; exact eA
    have g42 : ix F1 42 (sy_i F1 71).toInt.toNat = ix F 42 A := by unfold ix; rw [eA1, qq_a q1 (by decide) (by decide)]
    have g43 : ix F1 43 (sy_i F1 71).toInt.toNat = ix F 43 A := by unfold ix; rw [eA1, qq_a q1 (by decide) (by decide)]
    refine hd_calI (R := fun x F' => qR [17, 53] F1 F' ∧ x = lwV (v52 F1) l) (nh := 69) (nv := 71) (s := 4) (s1 := 4) (d1 := 2) (M1 := jm_M180) (As := [.inl (.ref 1000), .inr (.inl 71)]) (rest := []) jm_ok179 rfl rfl (by decide) (by decide +kernel) (lw_V F1 X1 X2 hb (by omega) (by rw [g42, g43]; exact y1) ?_ (hT.1.2.2 k l hl).2) (fun F3 F' x hR p1 p2 p3 => ?_)
    · rw [g42, g43, ← y2]
      exact bL_kp _ (fun b _ _ => by
        unfold bq ix cut_
        rw [qq_a q1 (j := 44) (by decide) (by decide), qq_a q1 (j := 45) (by decide) (by decide), qq_a q1 (j := 46) (by decide) (by decide), qq_a q1 (j := 47) (by decide) (by decide), qq_a q1 (j := 48) (by decide) (by decide), qq_a q1 (j := 49) (by decide) (by decide), qq_a q1 (j := 50) (by decide) (by decide)])
    · obtain ⟨r1, r2⟩ := hR
      have q3 : qR [17, 53] F F3 := qq_trans (qq_up q1 (by decide)) (qR_dst r1 p1)
      have k69 : (sy_i F3 69).toInt = lLo k := by rw [nz_fi (p2 69 (by decide) (by decide)), e69, i71]; exact hlo
      have k70 : (sy_i F3 70).toInt = lHi k := by rw [nz_fi (p2 70 (by decide) (by decide)), e70, i72]; exact hhi
      have k71 : sy_i F3 71 = x := zz_i p3
      have ev : v52 F1 = v52 F := v52_F (qq_a q1 (by decide) (by decide))
      have hx : hdz (lLo k) (lHi k) x.toInt = lwT T k v := ew x (by rw [r2, ev, hl]; rfl)
      refine yak_37 (by decide) F3 X1 X2 q3.1 ?_ ?_ ?_
      · intro c1 c2 F4 hb4 g4
        refine ⟨_, F4, rfl, rfl, qq_on q3 hb4 g4 (by decide), ?_⟩
        rw [← hx, k71]
        rw [k71, k69] at c1
        rw [k71, k70] at c2
        unfold hdz
        rw [if_neg (by omega), if_neg (by omega)]
      · intro c1 c2 F4 hb4 g4
        refine ⟨_, F4, rfl, rfl, qq_on q3 hb4 g4 (by decide), ?_⟩
        rw [← hx, k70]
        rw [k71, k69] at c1
        rw [k71, k70] at c2
        unfold hdz
        rw [if_neg (by omega), if_pos (by omega)]
      · intro c1 F4 hb4 g4
        refine ⟨_, F4, rfl, rfl, qq_on q3 hb4 g4 (by decide), ?_⟩
        rw [← hx, k69]
        rw [k71, k69] at c1
        unfold hdz
        rw [if_pos (by omega)]
end AV
