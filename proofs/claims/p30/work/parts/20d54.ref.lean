/-! ===== the reference: what each call makes of what is seen ===== -/
noncomputable def nm (F d : Nat → sy_d) : Nat → sy_d := fun j => if j < 69 then F j else d (j - 69)
theorem nm_lt {F d : Nat → sy_d} : ∀ j, j < 69 → nm F d j = F j := fun j h => by
  unfold nm
  rw [if_pos h]
theorem nm_T {Ls : Nat} {xs : Nat → Int32} {d : Nat} {M : jm_M} {Q : Option Value → jm_h → Prop} (F dd : Nat → sy_d) (X1 X2 : List jm_c) {A : List sy_v} {vs : List Value} (hok : jm_ok jm_YN M) (hl : (sy_e1 A).length ≤ jm_mx M) (hA : A.map (sy_dv (nm F dd)) = vs)
    (h : hd_W Ls xs d M Q (0, sy_dL (nm F dd) (sy_ent (jm_mx M) A), [], sy_dh (nm F dd) X1 X2 (iv_H 4), 0, 0)) : jm_T Ls xs d M vs (sy_dh F X1 X2 (iv_H 4)) 0 0 Q := by
  rw [nz_eH X1 X2 (nm_lt (F := F) (d := dd)), ← hA]
  exact hd_T hok hl h
theorem om_nm {F dd : Nat → sy_d} : om (nm F dd) = om F := om_eq (nm_lt 1 (by decide)) (nm_lt 10 (by decide)) (nm_lt 23 (by decide)) (nm_lt 67 (by decide)) (nm_lt 21 (by decide))
theorem om_mk {F : Nat → sy_d} {a c d : Int} {b e : Nat → Int} (h1 : (sy_i F 1).toInt = a) (h2 : ub (sy_ai F 23) a.toNat = b) (h3 : (sy_i F 10).toInt = c) (h4 : (sy_i F 21).toInt = d) (h5 : hl3 (sy_ai F 67) = e) : om F = (a, b, c, d, e) := by
  subst h1; subst h2; subst h3; subst h4; subst h5
  rfl
theorem om_fin {F1 : Nat → sy_d} {X1 : List jm_c} {V : Int32 → Prop} {x : sg} {r : Int32} (hb : iv_in F1 iv_B4) (hJ : jm_rpn F1) (hw : sy_al F1 29 = wls) (hV : V r) (ho : om F1 = x) : (∃ r' : Int32, some (Value.int r) = some (.int r') ∧ V r') ∧ ov2 X1 x (sy_dh F1 X1 [] (iv_H 4)) := ⟨⟨r, rfl, hV⟩, F1, rfl, hb, hJ, hw, ho⟩
theorem rp_g {F F1 : Nat → sy_d} {W : List Nat} (hJ : jm_rpn F) (g : ∀ j, j < 69 → j ∉ W → F1 j = F j) (hW : ∀ q ∈ jj_fp, q ∉ W) : jm_rpn F1 := jm_rpn_eq (fun q hq => g q (by revert q; decide) (hW q hq)) hJ
section OM
variable {Ls : Nat} {xs : Nat → Int32}
theorem om_place : omT Ls xs jm_M151 [] (fun x r => r.toInt = x.2.2.1) (fun x => x) := by
  refine ⟨1, by decide, fun F X1 hB hJ hw => ?_⟩
  rw [← dh_m F X1 [], ← om_nm (F := F) (dd := fun _ => .inl (.int 0))]
  refine nm_T F (fun _ => .inl (.int 0)) X1 [] (A := [.inl (.ref 1000)]) jm_ok151 (by decide) rfl ?_
  refine rpl_0 (by decide) _ X1 [] (hd_iveq hB nm_lt) ?_
  intro F1 hb g e1 e10 e21 a23 a67
  have hJ0 : jm_rpn (nm F (fun _ => .inl (.int 0))) := jm_rpn_eq (fun q hq => nm_lt q (by revert q; decide)) hJ
  exact om_fin hb (rp_g hJ0 g (by decide)) ((nz_fl ((g 29 (by decide) (by decide)).trans (nm_lt 29 (by decide)))).trans hw) rfl (om_eq (g 1 (by decide) (by decide)) (g 10 (by decide) (by decide)) (g 23 (by decide) (by decide)) (g 67 (by decide) (by decide)) (g 21 (by decide) (by decide)))
theorem om_back (a : Int32) : omT Ls xs jm_M135 [.int a] (fun x r => r.toInt = a_back a x) (s_back a) := by
  refine ⟨1, by decide, fun F X1 hB hJ hw => ?_⟩
  obtain ⟨F0, hF0⟩ : ∃ F0, F0 = nm F (fun _ => .inl (.int a)) := ⟨_, rfl⟩
  have k0 : ∀ j, j < 69 → F0 j = F j := fun j hj => by rw [hF0]; exact nm_lt j hj
  have hJ0 : jm_rpn F0 := jm_rpn_eq (fun q hq => k0 q (by revert q; decide)) hJ
  have e69 : (sy_i F0 69).toInt = a.toInt := by rw [hF0]; rfl
  have c1 := nz_bx (hd_iveq hB k0) (k := 1) (lo := 0) (hi := 2000) rfl
  have hw0 : sy_al F0 29 = wls := (nz_fl (k0 29 (by decide))).trans hw
  rw [← dh_m F X1 [], ← om_nm (F := F) (dd := fun _ => .inl (.int a)), ← hF0]
  refine nm_T F (fun _ => .inl (.int a)) X1 [] (A := [.inl (.ref 1000), .inr (.inl 69)]) jm_ok135 (by decide) rfl ?_
  rw [← hF0]
  have same : ∀ F1 : Nat → sy_d, a.toInt < 0 ∨ (sy_i F0 1).toInt < a.toInt → iv_in F1 iv_B4 → (∀ j, j < 69 → j ∉ ([] : List Nat) → F1 j = F0 j) → (∃ r' : Int32, some (Value.int (-1)) = some (.int r') ∧ r'.toInt = a_back a (om F0)) ∧ ov2 X1 (s_back a (om F0)) (sy_dh F1 X1 [] (iv_H 4)) := fun F1 q hb g => by
    refine om_fin hb (rp_g hJ0 g (by decide)) ((nz_fl (g 29 (by decide) (by decide))).trans hw0) ?_ ?_
    · try dsimp only
      unfold a_back
      rw [if_pos (show a.toInt < 0 ∨ (om F0).1 < a.toInt from q)]
      decide
    · unfold s_back
      rw [if_pos (show a.toInt < 0 ∨ (om F0).1 < a.toInt from q)]
      exact om_eq (g 1 (by decide) (by decide)) (g 10 (by decide) (by decide)) (g 23 (by decide) (by decide)) (g 67 (by decide) (by decide)) (g 21 (by decide) (by decide))
  refine rbk_0 (by decide) F0 X1 [] (hd_iveq hB k0) ?_ ?_ ?_ ?_
  · intros; omega
  · intro q1 F1 hb g e1 e10 e21 a23 a67
    exact same F1 (Or.inl (by omega)) hb g
  · intro q1 q2 F1 hb g e1 e10 e21 a23 a67
    have hn : ¬ (a.toInt < 0 ∨ (om F0).1 < a.toInt) := show ¬ (a.toInt < 0 ∨ (sy_i F0 1).toInt < a.toInt) by omega
    refine om_fin hb (rp_g hJ0 g (by decide)) ((nz_fl (g 29 (by decide) (by decide))).trans hw0) ?_ ?_
    · try dsimp only
      unfold a_back
      rw [if_neg hn, nz_sub rfl rfl (by omega) (by omega), e69]
      rfl
    · unfold s_back
      rw [if_neg hn]
      refine om_mk (by rw [e1, e69]; try rfl) ?_ e10 e21 (by rw [a67]; try rfl)
      rw [a23, ub_cut (n := (sy_i F0 1).toInt.toNat) (show ((om F0).1 - a.toInt).toNat ≤ _ from (show ((sy_i F0 1).toInt - a.toInt).toNat ≤ (sy_i F0 1).toInt.toNat by omega))]
      rfl
  · intro q1 q2 F1 hb g e1 e10 e21 a23 a67
    exact same F1 (Or.inr (by omega)) hb g
theorem om_forget : omT Ls xs jm_M229 [] (fun x r => r.toInt = x.2.2.2.1) s_forget := by
  refine ⟨1, by decide, fun F X1 hB hJ hw => ?_⟩
  rw [← dh_m F X1 [], ← om_nm (F := F) (dd := fun _ => .inl (.int 0))]
  refine nm_T F (fun _ => .inl (.int 0)) X1 [] (A := [.inl (.ref 1000)]) jm_ok229 (by decide) rfl ?_
  refine rfo_0 (by decide) _ X1 [] (hd_iveq hB nm_lt) ?_
  intro F1 hb g e1 e10 e21 a23 a67
  have hJ0 : jm_rpn (nm F (fun _ => .inl (.int 0))) := jm_rpn_eq (fun q hq => nm_lt q (by revert q; decide)) hJ
  refine om_fin hb (rp_g hJ0 g (by decide)) ((nz_fl ((g 29 (by decide) (by decide)).trans (nm_lt 29 (by decide)))).trans hw) rfl ?_
  exact om_mk e1 (by rw [a23]; try rfl) e10 e21 (by rw [a67]; try rfl)
theorem om_tell (a b : Int32) : omT Ls xs jm_M228 [.int a, .int b] (fun x r => r.toInt = a_tell a b x) (s_tell a b) := by
  refine ⟨2, by decide, fun F X1 hB hJ hw => ?_⟩
  obtain ⟨F0, hF0⟩ : ∃ F0, F0 = nm F (fun j => .inl (.int (if j = 0 then a else b))) := ⟨_, rfl⟩
  have k0 : ∀ j, j < 69 → F0 j = F j := fun j hj => by rw [hF0]; exact nm_lt j hj
  have hJ0 : jm_rpn F0 := jm_rpn_eq (fun q hq => k0 q (by revert q; decide)) hJ
  have e69 : (sy_i F0 69).toInt = a.toInt := by rw [hF0]; rfl
  have e70 : (sy_i F0 70).toInt = b.toInt := by rw [hF0]; rfl
  have c21 := nz_bx (hd_iveq hB k0) (k := 21) (lo := 0) (hi := 7) rfl
  have hw0 : sy_al F0 29 = wls := (nz_fl (k0 29 (by decide))).trans hw
  rw [← dh_m F X1 [], ← om_nm (F := F) (dd := fun j => .inl (.int (if j = 0 then a else b))), ← hF0]
  refine nm_T F (fun j => .inl (.int (if j = 0 then a else b))) X1 [] (A := [.inl (.ref 1000), .inr (.inl 69), .inr (.inl 70)]) jm_ok228 (by decide) rfl ?_
  rw [← hF0]
  have same : ∀ F1 : Nat → sy_d, ¬ ((1 ≤ a.toInt ∧ a.toInt ≤ 9) ∧ (0 ≤ b.toInt ∧ b.toInt ≤ 9) ∧ (sy_i F0 21).toInt < 7) → iv_in F1 iv_B4 → (∀ j, j < 69 → j ∉ ([] : List Nat) → F1 j = F0 j) → (∃ r' : Int32, some (Value.int (-1)) = some (.int r') ∧ r'.toInt = a_tell a b (om F0)) ∧ ov2 X1 (s_tell a b (om F0)) (sy_dh F1 X1 [] (iv_H 4)) := fun F1 q hb g => by
    have q : ¬ ((1 ≤ a.toInt ∧ a.toInt ≤ 9) ∧ (0 ≤ b.toInt ∧ b.toInt ≤ 9) ∧ (om F0).2.2.2.1 < 7) := q
    refine om_fin hb (rp_g hJ0 g (by decide)) ((nz_fl (g 29 (by decide) (by decide))).trans hw0) ?_ ?_
    · try dsimp only
      unfold a_tell
      rw [if_neg q]
      decide
    · unfold s_tell
      rw [if_neg q]
      exact om_eq (g 1 (by decide) (by decide)) (g 10 (by decide) (by decide)) (g 23 (by decide) (by decide)) (g 67 (by decide) (by decide)) (g 21 (by decide) (by decide))
  refine rtl_0 (by decide) F0 X1 [] (hd_iveq hB k0) ?_ ?_ ?_ ?_ ?_ ?_
  · intro q1 F1 hb g e1 e10 e21 a23 a67
    exact same F1 (by omega) hb g
  · intro q1 q2 F1 hb g e1 e10 e21 a23 a67
    exact same F1 (by omega) hb g
  · intro q1 q2 q3 F1 hb g e1 e10 e21 a23 a67
    exact same F1 (by omega) hb g
  · intro q1 q2 q3 q4 F1 hb g e1 e10 e21 a23 a67
    exact same F1 (by omega) hb g
  · intro q1 q2 q3 q4 q5 F1 hb g e1 e10 e21 a23 a67
    exact same F1 (by omega) hb g
  · intro q1 q2 q3 q4 q5 F1 hb g e1 e10 e21 a23 a67
    have q : (1 ≤ a.toInt ∧ a.toInt ≤ 9) ∧ (0 ≤ b.toInt ∧ b.toInt ≤ 9) ∧ (sy_i F0 21).toInt < 7 := by omega
    have q' : (1 ≤ a.toInt ∧ a.toInt ≤ 9) ∧ (0 ≤ b.toInt ∧ b.toInt ≤ 9) ∧ (om F0).2.2.2.1 < 7 := q
    have o1 : (1 : Int32).toInt = 1 := by decide
    refine om_fin hb (rp_g hJ0 g (by decide)) ((nz_fl (g 29 (by decide) (by decide))).trans hw0) ?_ ?_
    · try dsimp only
      unfold a_tell
      rw [if_pos q', nz_sub (nz_add rfl o1 (by omega) (by omega)) o1 (by omega) (by omega)]
      show _ = (sy_i F0 21).toInt
      omega
    · unfold s_tell
      rw [if_pos q']
      exact om_mk e1 (by rw [a23]; try rfl) e10 e21 (by rw [a67]; try rfl)
theorem rho_L (F0 : Nat → sy_d) {Q : Option Value → jm_h → Prop} (X1 : List jm_c) (K : ∀ F1 : Nat → sy_d, iv_in F1 iv_B4 → (∀ j, j < 69 → j ∉ ([68] : List Nat) → F1 j = F0 j) → Q (some (.int 1)) (sy_dh F1 X1 [] (iv_H 4))) : ∀ (m : Nat) (F : Nat → sy_d), 61 - (sy_i F 70).toInt < m → iv_in F iv_B4 → (∀ j, j < 69 → j ∉ ([68] : List Nat) → F j = F0 j) → 0 ≤ (sy_i F 69).toInt ∧ (sy_i F 69).toInt ≤ 2 → 0 ≤ (sy_i F 70).toInt ∧ (sy_i F 70).toInt ≤ 61 →
    hd_W Ls xs 2 jm_M236 Q (20, sy_dL F [some (.inl (.ref 1000)), some (.inr (.inl 69)), some (.inr (.inl 70))], sy_dS F [], sy_dh F X1 [] (iv_H 4), 0, 0) := by
  intro m
  induction m with
  | zero => intro F hm hB hF h1 h2; omega
  | succ m ih =>
    intro F hm hB hF h1 h2
    refine rho_20 (by decide) F X1 [] hB h1 h2 ?_ ?_
    · intro q1 F1 hb g e1 e10 e21 a23 a67
      exact K F1 hb (fun j hj hn => (g j hj (by simp)).trans (hF j hj hn))
    · intro q1 F1 hb g e1 e10 e21 a23 a67 f69 f70
      exact ih F1 (by omega) hb (fun j hj hn => (g j hj hn).trans (hF j hj hn)) (by omega) (by omega)
theorem om_hold (a : Int32) : omT Ls xs jm_M236 [.int a] (fun x r => r.toInt = a_hold a x) (s_hold a) := by
  refine ⟨2, by decide, fun F X1 hB hJ hw => ?_⟩
  obtain ⟨F0, hF0⟩ : ∃ F0, F0 = nm F (fun _ => .inl (.int a)) := ⟨_, rfl⟩
  have k0 : ∀ j, j < 69 → F0 j = F j := fun j hj => by rw [hF0]; exact nm_lt j hj
  have hJ0 : jm_rpn F0 := jm_rpn_eq (fun q hq => k0 q (by revert q; decide)) hJ
  have e69 : (sy_i F0 69).toInt = a.toInt := by rw [hF0]; rfl
  have hw0 : sy_al F0 29 = wls := (nz_fl (k0 29 (by decide))).trans hw
  rw [← dh_m F X1 [], ← om_nm (F := F) (dd := fun _ => .inl (.int a)), ← hF0]
  refine nm_T F (fun _ => .inl (.int a)) X1 [] (A := [.inl (.ref 1000), .inr (.inl 69)]) jm_ok236 (by decide) rfl ?_
  rw [← hF0]
  have same : ∀ F1 : Nat → sy_d, ¬ (0 ≤ a.toInt ∧ a.toInt ≤ 2) → iv_in F1 iv_B4 → (∀ j, j < 69 → j ∉ ([] : List Nat) → F1 j = F0 j) → (∃ r' : Int32, some (Value.int 0) = some (.int r') ∧ r'.toInt = a_hold a (om F0)) ∧ ov2 X1 (s_hold a (om F0)) (sy_dh F1 X1 [] (iv_H 4)) := fun F1 q hb g => by
    refine om_fin hb (rp_g hJ0 g (by decide)) ((nz_fl (g 29 (by decide) (by decide))).trans hw0) ?_ ?_
    · try dsimp only
      unfold a_hold
      rw [if_neg q]
      decide
    · unfold s_hold
      rw [if_neg q]
      exact om_eq (g 1 (by decide) (by decide)) (g 10 (by decide) (by decide)) (g 23 (by decide) (by decide)) (g 67 (by decide) (by decide)) (g 21 (by decide) (by decide))
  refine rho_0 (by decide) F0 X1 [] (hd_iveq hB k0) ?_ ?_ ?_
  · intro q1 F1 hb g e1 e10 e21 a23 a67
    exact same F1 (by omega) hb g
  · intro q1 q2 F1 hb g e1 e10 e21 a23 a67
    exact same F1 (by omega) hb g
  · intro q1 q2 F1 hb g e1 e10 e21 a23 a67 f69 f70
    refine rho_L F1 X1 (fun F2 hb2 g2 => ?_) 62 F1 (by omega) hb (fun j hj _ => rfl) (by omega) (by omega)
    have hJ1 := rp_g hJ0 g (by decide)
    refine om_fin hb2 (rp_g hJ1 g2 (by decide)) ((nz_fl ((g2 29 (by decide) (by decide)).trans (g 29 (by decide) (by decide)))).trans hw0) ?_ ?_
    · try dsimp only
      unfold a_hold
      rw [if_pos (by omega)]
      decide
    · unfold s_hold
      rw [if_pos (by omega), om_eq (F := F1) (g2 1 (by decide) (by decide)) (g2 10 (by decide) (by decide)) (g2 23 (by decide) (by decide)) (g2 67 (by decide) (by decide)) (g2 21 (by decide) (by decide))]
      refine om_mk e1 (by rw [a23]; try rfl) e10 e21 ?_
      rw [a67, hl_u (by omega), e69]
      rfl
theorem rre_L (F0 : Nat → sy_d) {Q : Option Value → jm_h → Prop} (X1 : List jm_c) (K : ∀ F1 : Nat → sy_d, iv_in F1 iv_B4 → (∀ j, j < 69 → j ∉ ([20, 54] : List Nat) → F1 j = F0 j) → Q (some (.int 1)) (sy_dh F1 X1 [] (iv_H 4))) : ∀ (m : Nat) (F : Nat → sy_d), 61 - (sy_i F 70).toInt < m → iv_in F iv_B4 → (∀ j, j < 69 → j ∉ ([20, 54] : List Nat) → F j = F0 j) → 0 ≤ (sy_i F 69).toInt ∧ (sy_i F 69).toInt ≤ 2 → 0 ≤ (sy_i F 70).toInt ∧ (sy_i F 70).toInt ≤ 61 →
    hd_W Ls xs 2 jm_M237 Q (22, sy_dL F [some (.inl (.ref 1000)), some (.inr (.inl 69)), some (.inr (.inl 70))], sy_dS F [], sy_dh F X1 [] (iv_H 4), 0, 0) := by
  intro m
  induction m with
  | zero => intro F hm hB hF h1 h2; omega
  | succ m ih =>
    intro F hm hB hF h1 h2
    refine rre_22 (by decide) F X1 [] hB h1 h2 ?_ ?_
    · intro q1 F1 hb g e1 e10 e21 a23 a67
      exact K F1 hb (fun j hj hn => (g j hj (fun q => hn (by revert q; simp; omega))).trans (hF j hj hn))
    · intro q1 F1 hb g e1 e10 e21 a23 a67 f69 f70
      exact ih F1 (by omega) hb (fun j hj hn => (g j hj (fun q => hn (by revert q; simp; omega))).trans (hF j hj hn)) (by omega) (by omega)
theorem om_restore (a : Int32) : omT Ls xs jm_M237 [.int a] (fun x r => r.toInt = a_rest a x) (fun x => x) := by
  refine ⟨2, by decide, fun F X1 hB hJ hw => ?_⟩
  obtain ⟨F0, hF0⟩ : ∃ F0, F0 = nm F (fun _ => .inl (.int a)) := ⟨_, rfl⟩
  have k0 : ∀ j, j < 69 → F0 j = F j := fun j hj => by rw [hF0]; exact nm_lt j hj
  have hJ0 : jm_rpn F0 := jm_rpn_eq (fun q hq => k0 q (by revert q; decide)) hJ
  have e69 : (sy_i F0 69).toInt = a.toInt := by rw [hF0]; rfl
  have hw0 : sy_al F0 29 = wls := (nz_fl (k0 29 (by decide))).trans hw
  rw [← dh_m F X1 [], ← om_nm (F := F) (dd := fun _ => .inl (.int a)), ← hF0]
  refine nm_T F (fun _ => .inl (.int a)) X1 [] (A := [.inl (.ref 1000), .inr (.inl 69)]) jm_ok237 (by decide) rfl ?_
  rw [← hF0]
  have hh : 0 ≤ a.toInt ∧ a.toInt ≤ 2 → (om F0).2.2.2.2 a.toInt.toNat = ((sy_ai F0 67).getD (sy_i F0 69).toInt.toNat 0).toInt := fun q => by
    show hl3 (sy_ai F0 67) a.toInt.toNat = _
    unfold hl3
    rw [if_pos (by omega), e69]
  have same : ∀ F1 : Nat → sy_d, ¬ ((0 ≤ a.toInt ∧ a.toInt ≤ 2) ∧ (om F0).2.2.2.2 a.toInt.toNat ≠ 0) → iv_in F1 iv_B4 → (∀ j, j < 69 → j ∉ ([] : List Nat) → F1 j = F0 j) → (∃ r' : Int32, some (Value.int 0) = some (.int r') ∧ r'.toInt = a_rest a (om F0)) ∧ ov2 X1 (om F0) (sy_dh F1 X1 [] (iv_H 4)) := fun F1 q hb g => by
    refine om_fin hb (rp_g hJ0 g (by decide)) ((nz_fl (g 29 (by decide) (by decide))).trans hw0) ?_ ?_
    · try dsimp only
      try dsimp only
      unfold a_rest
      rw [if_neg q]
      decide
    · exact om_eq (g 1 (by decide) (by decide)) (g 10 (by decide) (by decide)) (g 23 (by decide) (by decide)) (g 67 (by decide) (by decide)) (g 21 (by decide) (by decide))
  refine rre_0 (by decide) F0 X1 [] (hd_iveq hB k0) ?_ ?_ ?_ ?_
  · intro q1 F1 hb g e1 e10 e21 a23 a67
    exact same F1 (fun z => by omega) hb g
  · intro q1 q2 F1 hb g e1 e10 e21 a23 a67
    exact same F1 (fun z => by omega) hb g
  · intro q1 q2 q3 F1 hb g e1 e10 e21 a23 a67 f69 f70
    refine rre_L F1 X1 (fun F2 hb2 g2 => ?_) 62 F1 (by omega) hb (fun j hj _ => rfl) (by omega) (by omega)
    have hJ1 := rp_g hJ0 g (by decide)
    refine om_fin hb2 (rp_g hJ1 g2 (by decide)) ((nz_fl ((g2 29 (by decide) (by decide)).trans (g 29 (by decide) (by decide)))).trans hw0) ?_ ?_
    · try dsimp only
      try dsimp only
      unfold a_rest
      rw [if_pos ⟨by omega, by rw [hh (by omega)]; exact q3⟩]
      decide
    · rw [om_eq (F := F1) (g2 1 (by decide) (by decide)) (g2 10 (by decide) (by decide)) (g2 23 (by decide) (by decide)) (g2 67 (by decide) (by decide)) (g2 21 (by decide) (by decide))]
      exact om_eq (g 1 (by decide) (by decide)) (g 10 (by decide) (by decide)) (g 23 (by decide) (by decide)) (g 67 (by decide) (by decide)) (g 21 (by decide) (by decide))
  · intro q1 q2 q3 F1 hb g e1 e10 e21 a23 a67
    exact same F1 (fun z => z.2 (by rw [hh z.1]; exact q3)) hb g
/-- five ints fed -/
noncomputable def fR (F0 F : Nat → sy_d) (t : Nat) (b : Nat → Int) : Prop := iv_in F iv_B4 ∧ (∀ j, j < 69 → j ∉ ([1, 23] : List Nat) → F j = F0 j) ∧ (sy_i F 1).toInt = t ∧ ub (sy_ai F 23) t = b
theorem fR_eq {F0 F F1 : Nat → sy_d} {t : Nat} {b : Nat → Int} (h : fR F0 F t b) (g : ∀ j, j < 69 → F1 j = F j) : fR F0 F1 t b := ⟨hd_iveq h.1 g, fun j hj hn => (g j hj).trans (h.2.1 j hj hn), (nz_fi (g 1 (by decide))).trans h.2.2.1, by rw [nz_fa (g 23 (by decide))]; exact h.2.2.2⟩
theorem rap_T (X1 X2 : List jm_c) (F0 F : Nat → sy_d) {t : Nat} {b : Nat → Int} (h : fR F0 F t b) (ht : t ≤ 1996) (a : Int32) : jm_T Ls xs 1 jm_M134 [.ref 1000, .int a] (sy_dh F X1 X2 (iv_H 4)) 0 0 (fun v G => ∃ F' : Nat → sy_d, v = none ∧ G = sy_dh F' X1 X2 (iv_H 4) ∧ fR F0 F' (t + 4) (apB b t a)) := by
  refine nz_T1 jm_ok134 (by decide) (fun F2 k0 i69 => ?_)
  have h2 := fR_eq h k0
  obtain ⟨c1, c2, c3, c4⟩ := h2
  subst i69
  refine rap_0 (by decide) F2 X1 X2 c1 ?_ ?_ ?_ ?_ ?_ ?_
  iterate 5 omega
  intro F1 hb g e1 a23
  refine ⟨F1, rfl, rfl, hb, fun j hj hn => (g j hj hn).trans (c2 j hj hn), by omega, ?_⟩
  rw [a23, ← c4]
  exact ap_ub (by omega) (by omega) (by omega) (by omega) rfl ((b8 _).trans (sr24 _)) ((b8 _).trans (sr16 _)) ((b8 _).trans (sr8 _)) ((b8 _).trans (sr0 _))
theorem om_feed (a b c d e : Int32) : omT Ls xs jm_M133 [.int a, .int b, .int c, .int d, .int e] (fun x r => r.toInt = a_feed x) (s_feed a b c d e) := by
  refine ⟨2, by decide, fun F X1 hB hJ hw => ?_⟩
  obtain ⟨F0, hF0⟩ : ∃ F0, F0 = nm F (fun j => .inl (.int (if j = 0 then a else if j = 1 then b else if j = 2 then c else if j = 3 then d else e))) := ⟨_, rfl⟩
  have k0 : ∀ j, j < 69 → F0 j = F j := fun j hj => by rw [hF0]; exact nm_lt j hj
  have hJ0 : jm_rpn F0 := jm_rpn_eq (fun q hq => k0 q (by revert q; decide)) hJ
  have i69 : sy_i F0 69 = a := by rw [hF0]; rfl
  have i70 : sy_i F0 70 = b := by rw [hF0]; rfl
  have i71 : sy_i F0 71 = c := by rw [hF0]; rfl
  have i72 : sy_i F0 72 = d := by rw [hF0]; rfl
  have i73 : sy_i F0 73 = e := by rw [hF0]; rfl
  have hB0 := hd_iveq hB k0
  have c1 := nz_bx hB0 (k := 1) (lo := 0) (hi := 2000) rfl
  have hw0 : sy_al F0 29 = wls := (nz_fl (k0 29 (by decide))).trans hw
  rw [← dh_m F X1 [], ← om_nm (F := F) (dd := fun j => .inl (.int (if j = 0 then a else if j = 1 then b else if j = 2 then c else if j = 3 then d else e))), ← hF0]
  refine nm_T F (fun j => .inl (.int (if j = 0 then a else if j = 1 then b else if j = 2 then c else if j = 3 then d else e))) X1 [] (A := [.inl (.ref 1000), .inr (.inl 69), .inr (.inl 70), .inr (.inl 71), .inr (.inl 72), .inr (.inl 73)]) jm_ok133 (by decide) rfl ?_
  rw [← hF0]
  refine rfd_0 (by decide) F0 X1 [] hB0 ?_ ?_
  · intro q F1 hb g e1 e10 e21 a23 a67 f69 f70 f71 f72 f73
    have hn : ¬ 2000 < (om F0).1 + 20 := show ¬ 2000 < (sy_i F0 1).toInt + 20 by omega
    obtain ⟨t, ht⟩ : ∃ t : Nat, t = (sy_i F0 1).toInt.toNat := ⟨_, rfl⟩
    have h1 : fR F0 F1 t (ub (sy_ai F0 23) t) := ⟨hb, fun j hj hn => g j hj (by simp), by omega, by rw [a23]⟩
    have v0 : sy_i F1 69 = sy_i F0 69 := Int32.toInt_inj.mp f69
    have v1 : sy_i F1 70 = sy_i F0 70 := Int32.toInt_inj.mp f70
    have v2 : sy_i F1 71 = sy_i F0 71 := Int32.toInt_inj.mp f71
    have v3 : sy_i F1 72 = sy_i F0 72 := Int32.toInt_inj.mp f72
    have v4 : sy_i F1 73 = sy_i F0 73 := Int32.toInt_inj.mp f73
    refine hd_calV (R := fun F' => fR F0 F' (t + 4) (apB (ub (sy_ai F0 23) t) (t) (sy_i F0 69))) (nh := 69) (nv := 74) (s := 4) (s1 := 4) (d1 := 1) (M1 := jm_M134) (As := [.inl (.ref 1000), .inr (.inl 69)]) (rest := []) jm_ok133 rfl rfl (by decide) (by decide +kernel) (by rw [← v0]; exact rap_T X1 [] F0 F1 h1 (by omega) _) (fun G0 H0 hR0 p0 r0 => ?_)
    have h0a := fR_eq hR0 p0
    have w0_1 : sy_i G0 70 = sy_i F0 70 := (show sy_i G0 70 = sy_i F1 70 by unfold sy_i; rw [r0 70 (by decide) (by decide)]).trans v1
    have w0_2 : sy_i G0 71 = sy_i F0 71 := (show sy_i G0 71 = sy_i F1 71 by unfold sy_i; rw [r0 71 (by decide) (by decide)]).trans v2
    have w0_3 : sy_i G0 72 = sy_i F0 72 := (show sy_i G0 72 = sy_i F1 72 by unfold sy_i; rw [r0 72 (by decide) (by decide)]).trans v3
    have w0_4 : sy_i G0 73 = sy_i F0 73 := (show sy_i G0 73 = sy_i F1 73 by unfold sy_i; rw [r0 73 (by decide) (by decide)]).trans v4
    refine rfd_20 (by decide) G0 X1 [] h0a.1 ?_
    intro K0 kb0 kg0 z0_e1 z0_e10 z0_e21 z0_a23 z0_a67 y0_0 y0_1 y0_2 y0_3 y0_4
    have h0b := fR_eq h0a (fun j hj => kg0 j hj (by simp))
    have u0_1 : sy_i K0 70 = sy_i F0 70 := (Int32.toInt_inj.mp y0_1).trans w0_1
    have u0_2 : sy_i K0 71 = sy_i F0 71 := (Int32.toInt_inj.mp y0_2).trans w0_2
    have u0_3 : sy_i K0 72 = sy_i F0 72 := (Int32.toInt_inj.mp y0_3).trans w0_3
    have u0_4 : sy_i K0 73 = sy_i F0 73 := (Int32.toInt_inj.mp y0_4).trans w0_4
    refine hd_calV (R := fun F' => fR F0 F' (t + 4 + 4) (apB (apB (ub (sy_ai F0 23) t) (t) (sy_i F0 69)) (t + 4) (sy_i F0 70))) (nh := 69) (nv := 74) (s := 4) (s1 := 4) (d1 := 1) (M1 := jm_M134) (As := [.inl (.ref 1000), .inr (.inl 70)]) (rest := []) jm_ok133 rfl rfl (by decide) (by decide +kernel) (by rw [← u0_1]; exact rap_T X1 [] F0 K0 h0b (by omega) _) (fun G1 H1 hR1 p1 r1 => ?_)
    have h1a := fR_eq hR1 p1
    have w1_2 : sy_i G1 71 = sy_i F0 71 := (show sy_i G1 71 = sy_i K0 71 by unfold sy_i; rw [r1 71 (by decide) (by decide)]).trans u0_2
    have w1_3 : sy_i G1 72 = sy_i F0 72 := (show sy_i G1 72 = sy_i K0 72 by unfold sy_i; rw [r1 72 (by decide) (by decide)]).trans u0_3
    have w1_4 : sy_i G1 73 = sy_i F0 73 := (show sy_i G1 73 = sy_i K0 73 by unfold sy_i; rw [r1 73 (by decide) (by decide)]).trans u0_4
    refine rfd_25 (by decide) G1 X1 [] h1a.1 ?_
    intro K1 kb1 kg1 z1_e1 z1_e10 z1_e21 z1_a23 z1_a67 y1_0 y1_1 y1_2 y1_3 y1_4
    have h1b := fR_eq h1a (fun j hj => kg1 j hj (by simp))
    have u1_2 : sy_i K1 71 = sy_i F0 71 := (Int32.toInt_inj.mp y1_2).trans w1_2
    have u1_3 : sy_i K1 72 = sy_i F0 72 := (Int32.toInt_inj.mp y1_3).trans w1_3
    have u1_4 : sy_i K1 73 = sy_i F0 73 := (Int32.toInt_inj.mp y1_4).trans w1_4
    refine hd_calV (R := fun F' => fR F0 F' (t + 4 + 4 + 4) (apB (apB (apB (ub (sy_ai F0 23) t) (t) (sy_i F0 69)) (t + 4) (sy_i F0 70)) (t + 4 + 4) (sy_i F0 71))) (nh := 69) (nv := 74) (s := 4) (s1 := 4) (d1 := 1) (M1 := jm_M134) (As := [.inl (.ref 1000), .inr (.inl 71)]) (rest := []) jm_ok133 rfl rfl (by decide) (by decide +kernel) (by rw [← u1_2]; exact rap_T X1 [] F0 K1 h1b (by omega) _) (fun G2 H2 hR2 p2 r2 => ?_)
    have h2a := fR_eq hR2 p2
    have w2_3 : sy_i G2 72 = sy_i F0 72 := (show sy_i G2 72 = sy_i K1 72 by unfold sy_i; rw [r2 72 (by decide) (by decide)]).trans u1_3
    have w2_4 : sy_i G2 73 = sy_i F0 73 := (show sy_i G2 73 = sy_i K1 73 by unfold sy_i; rw [r2 73 (by decide) (by decide)]).trans u1_4
    refine rfd_30 (by decide) G2 X1 [] h2a.1 ?_
    intro K2 kb2 kg2 z2_e1 z2_e10 z2_e21 z2_a23 z2_a67 y2_0 y2_1 y2_2 y2_3 y2_4
    have h2b := fR_eq h2a (fun j hj => kg2 j hj (by simp))
    have u2_3 : sy_i K2 72 = sy_i F0 72 := (Int32.toInt_inj.mp y2_3).trans w2_3
    have u2_4 : sy_i K2 73 = sy_i F0 73 := (Int32.toInt_inj.mp y2_4).trans w2_4
    refine hd_calV (R := fun F' => fR F0 F' (t + 4 + 4 + 4 + 4) (apB (apB (apB (apB (ub (sy_ai F0 23) t) (t) (sy_i F0 69)) (t + 4) (sy_i F0 70)) (t + 4 + 4) (sy_i F0 71)) (t + 4 + 4 + 4) (sy_i F0 72))) (nh := 69) (nv := 74) (s := 4) (s1 := 4) (d1 := 1) (M1 := jm_M134) (As := [.inl (.ref 1000), .inr (.inl 72)]) (rest := []) jm_ok133 rfl rfl (by decide) (by decide +kernel) (by rw [← u2_3]; exact rap_T X1 [] F0 K2 h2b (by omega) _) (fun G3 H3 hR3 p3 r3 => ?_)
    have h3a := fR_eq hR3 p3
    have w3_4 : sy_i G3 73 = sy_i F0 73 := (show sy_i G3 73 = sy_i K2 73 by unfold sy_i; rw [r3 73 (by decide) (by decide)]).trans u2_4
    refine rfd_36 (by decide) G3 X1 [] h3a.1 ?_
    intro K3 kb3 kg3 z3_e1 z3_e10 z3_e21 z3_a23 z3_a67 y3_0 y3_1 y3_2 y3_3 y3_4
    have h3b := fR_eq h3a (fun j hj => kg3 j hj (by simp))
    have u3_4 : sy_i K3 73 = sy_i F0 73 := (Int32.toInt_inj.mp y3_4).trans w3_4
    refine hd_calV (R := fun F' => fR F0 F' (t + 4 + 4 + 4 + 4 + 4) (apB (apB (apB (apB (apB (ub (sy_ai F0 23) t) (t) (sy_i F0 69)) (t + 4) (sy_i F0 70)) (t + 4 + 4) (sy_i F0 71)) (t + 4 + 4 + 4) (sy_i F0 72)) (t + 4 + 4 + 4 + 4) (sy_i F0 73))) (nh := 69) (nv := 74) (s := 4) (s1 := 4) (d1 := 1) (M1 := jm_M134) (As := [.inl (.ref 1000), .inr (.inl 73)]) (rest := []) jm_ok133 rfl rfl (by decide) (by decide +kernel) (by rw [← u3_4]; exact rap_T X1 [] F0 K3 h3b (by omega) _) (fun G4 H4 hR4 p4 r4 => ?_)
    have h4a := fR_eq hR4 p4
    refine rfd_42 (by decide) G4 X1 [] h4a.1 ?_
    intro F9 kb kg z_e1 z_e10 z_e21 z_a23 z_a67
    have h6 := h4a
    have q5 := fR_eq h4a (fun j hj => kg j hj (by simp))
    refine om_fin q5.1 (rp_g hJ0 q5.2.1 (by decide)) ((nz_fl (q5.2.1 29 (by decide) (by decide))).trans hw0) ?_ ?_
    · try dsimp only
      unfold a_feed
      rw [if_neg hn]
      show _ = (sy_i F0 1).toInt + 20
      have := q5.2.2.1
      have := h6.2.2.1
      omega
    · unfold s_feed
      rw [if_neg hn]
      refine om_mk (show _ = (sy_i F0 1).toInt + 20 by have := q5.2.2.1; omega) ?_ (nz_fi (q5.2.1 10 (by decide) (by decide))) (nz_fi (q5.2.1 21 (by decide) (by decide))) (by rw [nz_fa (q5.2.1 67 (by decide) (by decide))]; try rfl)
      rw [show ((om F0).1 + 20).toNat = t + 4 + 4 + 4 + 4 + 4 from (show ((sy_i F0 1).toInt + 20).toNat = t + 4 + 4 + 4 + 4 + 4 by omega), q5.2.2.2, ht, i69, i70, i71, i72, i73]
      rfl
  · intro q F1 hb g e1 e10 e21 a23 a67
    have hn : 2000 < (om F0).1 + 20 := show 2000 < (sy_i F0 1).toInt + 20 by omega
    refine om_fin hb (rp_g hJ0 g (by decide)) ((nz_fl (g 29 (by decide) (by decide))).trans hw0) ?_ ?_
    · try dsimp only
      unfold a_feed
      rw [if_pos hn]
      decide
    · unfold s_feed
      rw [if_pos hn]
      exact om_eq (g 1 (by decide) (by decide)) (g 10 (by decide) (by decide)) (g 23 (by decide) (by decide)) (g 67 (by decide) (by decide)) (g 21 (by decide) (by decide))
/-- the text is read -/
theorem rt_42 (X1 : List jm_c) (F0 F : Nat → sy_d) (hJ0 : jm_rpn F0) (hw : sy_al F0 29 = wls) {t : Nat} (hB : iv_in F iv_B4) (hF : ∀ j, j < 69 → j ∉ ([1, 2, 24] : List Nat) → F j = F0 j) (h1 : (sy_i F 1).toInt = 0) (h2 : (sy_i F 2).toInt = t) (h24 : ub (sy_ai F 24) t = ub (sy_ai F0 23) t) :
    hd_W Ls xs 8 jm_M150 (ry_Q X1 [] (rdA (ub (sy_ai F0 23) t) t) (F0 21) (F0 67) (F0 29)) (42, sy_dL F [some (.inl (.ref 1000)), none], sy_dS F [.inl (.ref 1000)], sy_dh F X1 [] (iv_H 4), 0, 0) := by
  refine hd_calV (R := fun F' => iv_in F' iv_B4 ∧ (∀ j, j < 69 → j ∉ WU → F' j = F j) ∧ ∃ L : Nat, L ≤ 400 ∧ (∀ j, j ≤ L → tf_ F F' j) ∧ (∀ j, j < L → kf F' j ≠ 0) ∧ (kf F' L = 0 ∨ L = 400)) (nh := 69) (nv := 69) (s := 4) (s1 := 4) (d1 := 5) (M1 := jm_M142) (As := [.inl (.ref 1000)]) (rest := []) jm_ok150 rfl rfl (by decide) (by decide +kernel) (rc_T X1 [] hB) (fun F3 F' hR p1 _ => ?_)
  obtain ⟨r1, r2, L, r3, r4, r5, r6⟩ := hR
  have gg : ∀ j, j < 69 → j ∉ WU → j ∉ ([1, 2, 24] : List Nat) → F3 j = F0 j := fun j hj h1 h2 => (p1 j hj).trans ((r2 j hj h1).trans (hF j hj h2))
  have hz : zf F = t := by unfold zf; rw [h2]; rfl
  have hbf : bf F = ub (sy_ai F0 23) t := by unfold bf; rw [hz, h24]
  have hwf : wf F = fun k => wls.getD k 0 := by
    funext k
    unfold wf
    rw [nz_fl (hF 29 (by decide) (by decide)), hw]
  have e1 := kf_eq (p1 25 (by decide))
  have e2 := pf_eq (p1 26 (by decide))
  have e3 := vf_eq (p1 27 (by decide))
  have e4 := nf_eq (p1 28 (by decide))
  have tt : ∀ j, j ≤ L → tk (ub (sy_ai F0 23) t) t (wf F) (kf F3) (pf F3) (vf F3) (nf F3) j := fun j hj => by
    have := r4 j hj
    unfold tf_ at this
    rw [e1, e2, e3, e4]
    rw [hbf, hz] at this
    exact this
  rw [← e1] at r5 r6
  have hA := rd_same hwf tt (by rcases r6 with z | z; exact Or.inl z; exact Or.inr (Or.inr z))
  rw [← hA, ← gg 21 (by decide) (by decide) (by decide), ← gg 67 (by decide) (by decide) (by decide), ← gg 29 (by decide) (by decide) (by decide)]
  exact ry_45 X1 [] F3 (hd_iveq r1 p1) (jm_rpn_eq (fun q hq => gg q (by revert q; decide) (by revert q; decide) (by revert q; decide)) hJ0) (by rw [nz_fi (p1 1 (by decide)), nz_fi (r2 1 (by decide) (by decide))]; exact h1) L ⟨tk_pm tt r5, r6, r3⟩
theorem rt_L (X1 : List jm_c) (F0 : Nat → sy_d) (hB0 : iv_in F0 iv_B4) (hJ0 : jm_rpn F0) (hw : sy_al F0 29 = wls) {t : Nat} (ht : t ≤ 2000) : ∀ (m : Nat) (F : Nat → sy_d) (k : Nat), t - k < m → k ≤ t → iv_in F iv_B4 → (∀ j, j < 69 → j ∉ ([2, 24] : List Nat) → F j = F0 j) → (sy_i F 2).toInt = t → (sy_i F 69).toInt = k → (∀ j, j < k → (sy_ai F 24).getD j 0 = (sy_ai F0 23).getD j 0) →
    hd_W Ls xs 8 jm_M150 (ry_Q X1 [] (rdA (ub (sy_ai F0 23) t) t) (F0 21) (F0 67) (F0 29)) (10, sy_dL F [some (.inl (.ref 1000)), some (.inr (.inl 69))], sy_dS F [], sy_dh F X1 [] (iv_H 4), 0, 0) := by
  intro m
  induction m with
  | zero => intro F k hm; omega
  | succ m ih =>
    intro F k hm hk hB hF h2 h69 hc
    refine rt_10 (by decide) F X1 [] hB ?_ ?_ ?_
    · omega
    · intro q F1 hb g e1 e2 a23 a24
      refine rt_42 X1 F0 F1 hJ0 hw hb (fun j hj hn => ?_) e1 (by omega) ?_
      · exact (g j hj (fun q => hn (by revert q; simp; omega))).trans (hF j hj (fun q => hn (by revert q; simp; omega)))
      · funext i
        unfold ub
        rw [a24]
        split
        · rw [hc i (by omega)]
        · rfl
    · intro q F1 hb g e1 e2 a23 a24 f69
      refine ih F1 (k + 1) (by omega) (by omega) hb (fun j hj hn => ?_) (by omega) (by omega) (fun j hj => ?_)
      · exact (g j hj (fun q => hn (by revert q; simp; omega))).trans (hF j hj hn)
      · rw [a24, jm_upd_at, h69, Int.toNat_natCast]
        split
        · rename_i z
          rw [nz_fa (hF 23 (by decide) (by decide)), z]
          exact b8i _ (nz_ba hB0 (k := 23) (lo := -128) (hi := 127) rfl _)
        · exact hc j (by omega)
theorem om_read : omT Ls xs jm_M150 [] (fun x r => r.toInt = a_read x) s_read := by
  refine ⟨8, by decide, fun F X1 hB hJ hw => ?_⟩
  rw [← dh_m F X1 []]
  have c1 := nz_bx hB (k := 1) (lo := 0) (hi := 2000) rfl
  refine jm_T_mono (P1 := ry_Q X1 [] (rdA (ub (sy_ai F 23) (sy_i F 1).toInt.toNat) (sy_i F 1).toInt.toNat) (F 21) (F 67) (F 29)) (nz_T0 jm_ok150 (by decide) (rt_0 (by decide) F X1 [] hB ?_)) ?_
  · intro F1 hb g e1 e2 a23 a24 f69
    exact rt_L X1 F hB hJ hw (t := (sy_i F 1).toInt.toNat) (by omega) 2001 F1 0 (by omega) (by omega) hb (fun j hj hn => g j hj (fun q => hn (by revert q; simp; omega))) (by omega) (by omega) (fun j hj => absurd hj (Nat.not_lt_zero _))
  · rintro v G ⟨x, F', rfl, rfl, h1, h2, h3, h4, h5, h6, h7, h8⟩
    refine om_fin h1 h2 ((nz_fl h8).trans hw) h4 ?_
    unfold s_read
    by_cases q : (rdA (om F).2.1 (om F).1.toNat).1 = 0
    · rw [if_pos q]
      obtain ⟨y1, y2⟩ := h6 q
      exact om_mk h3 ub_z h5 y1 (hl_z y2)
    · rw [if_neg q]
      obtain ⟨y1, y2⟩ := h7 q
      exact om_mk h3 ub_z h5 (nz_fi y1) (by rw [nz_fa y2]; try rfl)
end OM
