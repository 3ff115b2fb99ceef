section
/-! ===== by hand: runs from place to place, with what the numbers are ===== -/
/-- from a state the method comes to its end, with an answer and cells that Q says -/
def hd_W (Ls : Nat) (xs : Nat → Int32) (d : Nat) (M : jm_M) (Q : Option Value → jm_h → Prop) (st : jm_St) : Prop :=
  ∀ ⦃p : Program⦄ ⦃l : Launch⦄ ⦃e : Env⦄ ⦃ss : State⦄ ⦃m : MethodId⦄ ⦃args : Array Value⦄ ⦃below : List Frame⦄ ⦃meth : Method⦄ ⦃cc : Code⦄ ⦃D : va_G⦄ ⦃h0 : Nat⦄ ⦃ex : Nat → Nat⦄ ⦃ka : Nat → ClassId⦄ ⦃G0 : jm_h⦄ ⦃Post : Option Value → jm_h → Prop⦄, jm_C p ss m args meth cc D h0 ex ka Ls xs M (jm_len G0) → (∀ v G1, Q v G1 → Post v G1) →
    jm_W p l e (jm_room d 0 0) ss m args below meth cc D h0 ex ka M (jm_len G0) (MQ below (jm_Qc D h0 ex ka 0 G0 Post) args ss 0 0 (fun q => h0 ≤ q)) st
/-- a stronger end serves a weaker one -/
theorem jm_T_mono {Ls : Nat} {xs : Nat → Int32} {d : Nat} {M : jm_M} {As : List Value} {G : jm_h} {mc ms : Nat} {P1 P2 : Option Value → jm_h → Prop} (hT : jm_T Ls xs d M As G mc ms P1) (h : ∀ v G1, P1 v G1 → P2 v G1) : jm_T Ls xs d M As G mc ms P2 := by
  intro l D h0 ex ka
  have h3 := hT l D h0 ex ka
  exact fun p e ha hc hk s m args below hf happ hP hK => by
    obtain ⟨n, o, a1, a2, a3, ⟨⟨w, G2, hp, hl, ho, hR⟩, hfr⟩, a5⟩ := h3 p e ha hc hk s m args below hf happ hP hK
    exact ⟨n, o, a1, a2, a3, ⟨⟨_, _, h _ _ hp, hl, ho, hR⟩, hfr⟩, a5⟩
theorem hd_T {Ls : Nat} {xs : Nat → Int32} {d : Nat} {M : jm_M} {As : List sy_v} {Q : Option Value → jm_h → Prop} {F : Nat → sy_d} {G : jm_h} (hok : jm_ok jm_YN M) (hA : (sy_e1 As).length ≤ jm_mx M) (h : hd_W Ls xs d M Q (0, sy_dL F (sy_ent (jm_mx M) As), [], G, 0, 0)) : jm_T Ls xs d M (As.map (sy_dv F)) G 0 0 Q := by
  refine jm_T_intro hok (by rw [sy_e1_ok]; simpa [sy_dL] using hA) (fun p l e s m args below meth cc D h0 ex ka C1 => ?_)
  rw [sy_ent_ok]
  exact h C1 (fun _ _ h => h)
theorem hd_call {Ls : Nat} {xs : Nat → Int32} {d d1 : Nat} {M M1 : jm_M} {Q P1 : Option Value → jm_h → Prop} {pc : Nat} {i : jm_I} {L : List (Option sy_v)} {S As rest : List sy_v} {G : sy_h} {F : Nat → sy_d} {X1 X2 : List jm_c} (hM : jm_ok jm_YN M) (hi : jm_in M pc = some i) (hcf : sy_cf jm_TB i G S = some (M1, As, rest)) (hT : jm_T Ls xs d1 M1 (As.map (sy_dv F)) (sy_dh F X1 X2 G) 0 0 P1) (hd : d1 + 1 ≤ d)
    (k : ∀ v G1, P1 v G1 → hd_W Ls xs d M Q (pc + 3, sy_dL F L, v.toList ++ sy_dS F rest, G1, 0, 0)) : hd_W Ls xs d M Q (pc, sy_dL F L, sy_dS F S, sy_dh F X1 X2 G, 0, 0) := by
  intro p l e ss m args below meth cc D h0 ex ka G0 Post C0 hP
  exact jm_call_ok jm_TBok jm_hYN C0 (jm_in_ck hM.2.2.2.2.2.2.2.2.2 hi) (sy_cf_ok hcf F X1 X2) hT (show d1 + 1 ≤ d from hd) (show 64 * d1 + 64 ≤ 64 * d by omega) (Nat.zero_le _) (Nat.zero_le _) (fun v G1 h1 _ => k v G1 h1 C0 hP)
noncomputable def hd_ov (u : sy_u) : List (Nat × (sy_v ⊕ sy_a)) → sy_u
  | [] => u
  | q :: r => (hd_ov u r).set q.1 q.2
noncomputable def hd_bu (a b : sy_v ⊕ sy_a) : Bool := match a, b with
  | .inl x, .inl y => sy_bv x y
  | .inr x, .inr y => sy_ba x y
  | _, _ => false
theorem hd_bu_ok {a b : sy_v ⊕ sy_a} (h : hd_bu a b = true) : a = b := by
  unfold hd_bu at h
  split at h
  · rw [sy_bv_ok h]
  · rw [sy_ba_ok h]
  · cases h
noncomputable def hd_at (o : Option (zz_r × sy_x)) (pc s : Nat) (L : List (Option sy_v)) (S : List sy_v) (uh ul : sy_u) (T : List sy_e) (P : List sy_p) : Bool := match o with
  | some (.inl (pc1, L1, S1, G1), T1, P1, _) => Nat.beq pc1 pc && Nat.beq uh.length (iv_nh s) && (match zz_mh (iv_H s) G1 with
    | some u1 => sy_bl hd_bu u1 uh
    | none => false) && sy_bl (zz_mo (iv_nh s) ul) L L1 && sy_bl (zz_mv (iv_nh s) ul) S S1 && sy_bl sy_be T1 T && sy_bl sy_bp P1 P
  | _ => false
noncomputable def hd_fin (o : Option (zz_r × sy_x)) (s : Nat) (v : Option sy_v) (uh : sy_u) (T : List sy_e) (P : List sy_p) : Bool := match o with
  | some (.inr (v1, G1), T1, P1, _) => (match v1, v with
    | none, none => true
    | some a, some b => sy_bv a b
    | _, _ => false) && (match zz_mh (iv_H s) G1 with
    | some u1 => sy_bl hd_bu u1 uh
    | none => false) && sy_bl sy_be T1 T && sy_bl sy_bp P1 P
  | _ => false
section HD
variable {Ls : Nat} {xs : Nat → Int32} {d : Nat} {M : jm_M} {Q : Option Value → jm_h → Prop} {nv d0 pc0 s0 pc s : Nat} {sp : List Nat} {f : Bool} {L0 L : List (Option sy_v)} {S0 S : List sy_v} {O : List Bool} {uh ul : sy_u} {T : List sy_e} {P : List sy_p} {v : Option sy_v}
theorem hd_run (hM : jm_ok jm_YN M) (h : hd_at (zz_go jm_TB nv sp [] 3000 d0 M f pc0 L0 S0 (iv_H s0) ([], [], O)) pc s L S uh ul T P = true) (hw : (sy_wf nv T && sy_sw nv L0 S0 (iv_H s0)) = true) (hd : d0 + 1 ≤ d) (F : Nat → sy_d) (X1 X2 : List jm_c)
    (k : ∀ F' : Nat → sy_d, (∀ j, j < nv → F' j = F j) → sy_sat F' nv T → (∀ p ∈ P, sy_ps F' p) ∧ hd_W Ls xs d M Q (pc, sy_dL (sy_cm F' (uh ++ ul)) L, sy_dS (sy_cm F' (uh ++ ul)) S, sy_dh (sy_cm F' (uh ++ ul)) X1 X2 (iv_H s), 0, 0)) :
    hd_W Ls xs d M Q (pc0, sy_dL F L0, sy_dS F S0, sy_dh F X1 X2 (iv_H s0), 0, 0) := by
  rw [Bool.and_eq_true] at hw
  obtain ⟨F', hF, hs⟩ := sy_ex F hw.1
  obtain ⟨hp, hk⟩ := k F' hF hs
  unfold hd_at at h
  split at h
  · rename_i pc1 L1 S1 G1 T1 P1 O1 hgo
    simp only [Bool.and_eq_true] at h
    obtain ⟨⟨⟨⟨⟨⟨h1, h2⟩, h3⟩, h4⟩, h5⟩, h6⟩, h7⟩ := h
    have e1 := Nat.eq_of_beq_eq_true h1
    have e2 := Nat.eq_of_beq_eq_true h2
    have e6 := sy_bl_ok sy_be_ok h6
    have e7 := sy_bl_ok sy_bp_ok h7
    subst e1
    subst e6
    subst e7
    split at h3
    · rename_i u1 hmh
      have e3 := sy_bl_ok hd_bu_ok h3
      subst e3
      intro p l e ss m args below meth cc D h0 ex ka G0 Post C0 hP
      obtain ⟨-, -, a3⟩ := zz_go_ok (Ls := Ls) (xs := xs) jm_TBok jm_hYN 3000 d0 sp [] M f pc0 L0 S0 _ _ _ _ hM.2.2.2.2.2.2.2.2.2 hgo
      obtain ⟨q1, q2, q3⟩ := sy_sw_ok (X1 := X1) (X2 := X2) hw.2 hF
      rw [← q1, ← q2, ← q3]
      refine a3 F' X1 X2 [] (by rw [List.append_nil]; exact hs) hp C0 hd ?_
      show jm_W p l e _ ss m args below meth cc D h0 ex ka M _ _ (pc1, sy_dL F' L1, sy_dS F' S1, sy_dh F' X1 X2 G1, 0, 0)
      refine jm_W_weak (sy_mo_ok (F := F') (sy_bl_mono (fun a b h => zz_mo_ok e2 h) h4)) ?_
      have eS : sy_dS (sy_cm F' (u1 ++ ul)) S = sy_dS F' S1 := sy_bl_map (fun _ _ h => sy_mv_ok h) (sy_bl_mono (fun a b h => zz_mv_ok e2 h) h5)
      rw [← eS, ← zz_mh_ok hmh F' X1 X2 ul]
      exact hk C0 hP
    · cases h3
  · cases h
theorem hd_ret (hM : jm_ok jm_YN M) (h : hd_fin (zz_go jm_TB nv sp [] 3000 d0 M f pc0 L0 S0 (iv_H s0) ([], [], O)) s v uh T P = true) (hw : (sy_wf nv T && sy_sw nv L0 S0 (iv_H s0)) = true) (hd : d0 + 1 ≤ d) (F : Nat → sy_d) (X1 X2 : List jm_c)
    (k : ∀ F' : Nat → sy_d, (∀ j, j < nv → F' j = F j) → sy_sat F' nv T → (∀ p ∈ P, sy_ps F' p) ∧ Q (v.map (sy_dv F')) (sy_dh (sy_cm F' (uh ++ [])) X1 X2 (iv_H s))) :
    hd_W Ls xs d M Q (pc0, sy_dL F L0, sy_dS F S0, sy_dh F X1 X2 (iv_H s0), 0, 0) := by
  rw [Bool.and_eq_true] at hw
  obtain ⟨F', hF, hs⟩ := sy_ex F hw.1
  obtain ⟨hp, hk⟩ := k F' hF hs
  unfold hd_fin at h
  split at h
  · rename_i v1 G1 T1 P1 O1 hgo
    simp only [Bool.and_eq_true] at h
    obtain ⟨⟨⟨h1, h3⟩, h6⟩, h7⟩ := h
    have e6 := sy_bl_ok sy_be_ok h6
    have e7 := sy_bl_ok sy_bp_ok h7
    subst e6
    subst e7
    have ev : v1 = v := by
      split at h1
      · rfl
      · rw [sy_bv_ok h1]
      · cases h1
    subst ev
    split at h3
    · rename_i u1 hmh
      have e3 := sy_bl_ok hd_bu_ok h3
      subst e3
      intro p l e ss m args below meth cc D h0 ex ka G0 Post C0 hP
      obtain ⟨-, -, a3⟩ := zz_go_ok (Ls := Ls) (xs := xs) jm_TBok jm_hYN 3000 d0 sp [] M f pc0 L0 S0 _ _ _ _ hM.2.2.2.2.2.2.2.2.2 hgo
      obtain ⟨q1, q2, q3⟩ := sy_sw_ok (X1 := X1) (X2 := X2) hw.2 hF
      rw [← q1, ← q2, ← q3]
      refine a3 F' X1 X2 [] (by rw [List.append_nil]; exact hs) hp C0 hd ?_
      show Post (v1.map (sy_dv F')) (sy_dh F' X1 X2 G1)
      rw [← zz_mh_ok hmh F' X1 X2 []]
      exact hP _ _ hk
    · cases h3
  · cases h
end HD
/-! what the numbers of a run are -/
section HN
variable {F F' : Nat → sy_d} {k op : Nat} {x y i z : sy_v} {a b : sy_a} {X Y Z I : Int32} {U V W : Int64} {l m : List Int32} {ll : List Int64}
theorem hd_b (h : F' k = F k) : sy_dv F' (.inr (.inl k)) = .int (sy_i F k) := by simp only [sy_dv, sy_i, h]
theorem hd_bl (h : F' k = F k) : sy_dv F' (.inr (.inr k)) = .long (sy_l F k) := by simp only [sy_dv, sy_l, h]
theorem hd_ba (h : F' k = F k) : sy_da F' (.inr (.inl k)) = .inl (sy_ai F k) := by simp only [sy_da, sy_ai, h]
theorem hd_bA (h : F' k = F k) : sy_da F' (.inr (.inr k)) = .inr (sy_al F k) := by simp only [sy_da, sy_al, h]
theorem hd_o (h : F k = sy_sem F (op, [x, y], [])) (hx : sy_dv F x = .int X) (hy : sy_dv F y = .int Y) (hz : sy_o2 op (.int X) (.int Y) = .int Z) : sy_dv F (.inr (.inl k)) = .int Z := by
  have e : F k = .inl (sy_o2 op (sy_dv F x) (sy_dv F y)) := h
  rw [hx, hy, hz] at e
  simp only [sy_dv, sy_i, e]
theorem hd_oL (h : F k = sy_sem F (op, [x, y], [])) (hx : sy_dv F x = .long U) (hy : sy_dv F y = .long V) (hz : sy_o2 op (.long U) (.long V) = .long W) : sy_dv F (.inr (.inr k)) = .long W := by
  have e : F k = .inl (sy_o2 op (sy_dv F x) (sy_dv F y)) := h
  rw [hx, hy, hz] at e
  simp only [sy_dv, sy_l, e]
theorem hd_oc (h : F k = sy_sem F (op, [x, y], [])) (hx : sy_dv F x = .long U) (hy : sy_dv F y = .long V) (hz : sy_o2 op (.long U) (.long V) = .int Z) : sy_dv F (.inr (.inl k)) = .int Z := by
  have e : F k = .inl (sy_o2 op (sy_dv F x) (sy_dv F y)) := h
  rw [hx, hy, hz] at e
  simp only [sy_dv, sy_i, e]
theorem hd_u (h : F k = sy_sem F (op, [x], [])) (hx : sy_dv F x = .int X) (hz : sy_o1 op (.int X) = .int Z) : sy_dv F (.inr (.inl k)) = .int Z := by
  have e : F k = .inl (sy_o1 op (sy_dv F x)) := h
  rw [hx, hz] at e
  simp only [sy_dv, sy_i, e]
theorem hd_uL (h : F k = sy_sem F (op, [x], [])) (hx : sy_dv F x = .int X) (hz : sy_o1 op (.int X) = .long W) : sy_dv F (.inr (.inr k)) = .long W := by
  have e : F k = .inl (sy_o1 op (sy_dv F x)) := h
  rw [hx, hz] at e
  simp only [sy_dv, sy_l, e]
theorem hd_uI (h : F k = sy_sem F (op, [x], [])) (hx : sy_dv F x = .long U) : sy_dv F (.inr (.inl k)) = .int U.toInt32 := by
  have e : F k = .inl (sy_o1 op (sy_dv F x)) := h
  rw [hx] at e
  have e2 : F k = .inl (.int U.toInt32) := e
  simp only [sy_dv, sy_i, e2]
theorem hd_rd (h : F k = sy_sem F (op, [i], [a])) (hi : sy_dv F i = .int I) (ha : sy_da F a = .inl l) : sy_dv F (.inr (.inl k)) = .int (l.getD I.toNatClampNeg 0) := by
  have e : F k = .inl (sy_rd (sy_da F a) (sy_dv F i)) := h
  rw [hi, ha] at e
  have e2 : F k = .inl (.int (l.getD I.toNatClampNeg 0)) := e
  simp only [sy_dv, sy_i, e2]
theorem hd_rL (h : F k = sy_sem F (op, [i], [a])) (hi : sy_dv F i = .int I) (ha : sy_da F a = .inr ll) : sy_dv F (.inr (.inr k)) = .long (ll.getD I.toNatClampNeg 0) := by
  have e : F k = .inl (sy_rd (sy_da F a) (sy_dv F i)) := h
  rw [hi, ha] at e
  have e2 : F k = .inl (.long (ll.getD I.toNatClampNeg 0)) := e
  simp only [sy_dv, sy_l, e2]
theorem hd_up (h : F k = sy_sem F (op, [i, x], [a])) (hi : sy_dv F i = .int I) (hx : sy_dv F x = .int X) (ha : sy_da F a = .inl l) : sy_da F (.inr (.inl k)) = .inl (jm_upd l I.toNatClampNeg X) := by
  have e : F k = .inr (sy_up (sy_da F a) (sy_dv F i) (sy_dv F x)) := h
  rw [hi, hx, ha] at e
  have e2 : F k = .inr (.inl (jm_upd l I.toNatClampNeg X)) := e
  simp only [sy_da, sy_ai, e2]
theorem hd_uA (h : F k = sy_sem F (op, [i, x], [a])) (hi : sy_dv F i = .int I) (hx : sy_dv F x = .long U) (ha : sy_da F a = .inr ll) : sy_da F (.inr (.inr k)) = .inr (jm_updL ll I.toNatClampNeg U) := by
  have e : F k = .inr (sy_up (sy_da F a) (sy_dv F i) (sy_dv F x)) := h
  rw [hi, hx, ha] at e
  have e2 : F k = .inr (.inr (jm_updL ll I.toNatClampNeg U)) := e
  simp only [sy_da, sy_al, e2]
theorem hd_p0 (hx : sy_dv F x = .int X) (hy : sy_dv F y = .int Y) (h : X.toInt = Y.toInt) : sy_ps F (0, x, y) := by
  unfold sy_ps
  dsimp only
  rw [hx, hy]
  exact Int32.toInt_inj.mp h
theorem hd_p1 (hx : sy_dv F x = .int X) (hy : sy_dv F y = .int Y) (h : X.toInt ≠ Y.toInt) : sy_ps F (1, x, y) := by
  unfold sy_ps
  dsimp only
  rw [hx, hy]
  exact fun e => h (by rw [e])
theorem hd_p2 (hx : sy_dv F x = .int X) (hy : sy_dv F y = .int Y) (h : X.toInt < Y.toInt) : sy_ps F (2, x, y) := by
  unfold sy_ps
  dsimp only
  rw [hx, hy]
  exact Int32.lt_iff_toInt_lt.mpr h
theorem hd_p3 (hx : sy_dv F x = .int X) (hy : sy_dv F y = .int Y) (h : Y.toInt ≤ X.toInt) : sy_ps F (3, x, y) := by
  unfold sy_ps
  dsimp only
  rw [hx, hy]
  exact fun q => by have := Int32.lt_iff_toInt_lt.mp q; omega
theorem hd_p4 (hx : sy_dv F x = .int X) (hy : sy_dv F y = .int Y) (h : X.toInt ≤ Y.toInt) : sy_ps F (4, x, y) := by
  unfold sy_ps
  dsimp only
  rw [hx, hy]
  exact Int32.le_iff_toInt_le.mpr h
theorem hd_p5 (hx : sy_dv F x = .int X) (hy : sy_dv F y = .int Y) (h : Y.toInt < X.toInt) : sy_ps F (5, x, y) := by
  unfold sy_ps
  dsimp only
  rw [hx, hy]
  exact fun q => by have := Int32.le_iff_toInt_le.mp q; omega
theorem hd_p6 (hx : sy_dv F x = .int X) (h : X.toInt = 0 ∨ X.toInt = 1) : sy_ps F (6, x, .inl (.int 0)) := by
  unfold sy_ps
  dsimp only
  rw [hx]
  have hz : (0 : Int32).toInt = 0 := by decide
  have ho : (1 : Int32).toInt = 1 := by decide
  rcases h with h | h
  · exact Or.inl (Int32.toInt_inj.mp (by omega))
  · exact Or.inr (Int32.toInt_inj.mp (by omega))
theorem hd_pb {N : Nat} (hx : sy_dv F x = .int X) (h : 0 ≤ X.toInt ∧ X.toInt < N) : sy_ps F (6, x, .inl (.ref N)) := by
  unfold sy_ps
  dsimp only
  rw [hx]
  show jm_out X N = false
  unfold jm_out
  rw [Bool.or_eq_false_iff]
  constructor
  · exact decide_eq_false (fun q => by
      have := Int32.lt_iff_toInt_lt.mp q
      have hz : (0 : Int32).toInt = 0 := by decide
      omega)
  · refine decide_eq_false (fun q => ?_)
    have : (X.toNatClampNeg : Int) = X.toInt := by
      have : X.toNatClampNeg = X.toInt.toNat := rfl
      rw [this]
      omega
    omega
theorem hd_pL (hx : sy_dv F x = .long U) (hy : sy_dv F y = .long V) (h : U.toInt ≠ V.toInt) : sy_ps F (1, x, y) := by
  unfold sy_ps
  dsimp only
  rw [hx, hy]
  exact fun e => h (by rw [e])
end HN
theorem hd_nat {X : Int32} (h : 0 ≤ X.toInt) : (X.toNatClampNeg : Int) = X.toInt := by
  have : X.toNatClampNeg = X.toInt.toNat := rfl
  rw [this]
  omega
/-- a symbol of a place: what it stands for -/
noncomputable def hd_gt (u : sy_u) (k : Nat) (x : sy_v ⊕ sy_a) : Bool := match fz_at u k with
  | some y => hd_bu y x
  | none => false
theorem hd_get {F : Nat → sy_d} {u : sy_u} {k : Nat} {x : sy_v ⊕ sy_a} (h : hd_gt u k x = true) : sy_cm F u k = iv_dd F x := by
  unfold hd_gt at h
  rw [fz_at_eq] at h
  split at h
  · rename_i y hy
    rw [iv_cm_at hy, hd_bu_ok h]
  · cases h
theorem hd_gi {F : Nat → sy_d} {u : sy_u} {k : Nat} {x : sy_v} {X : Int32} (h : hd_gt u k (.inl x) = true) (hx : sy_dv F x = .int X) : sy_cm F u k = .inl (.int X) := by
  rw [hd_get h]
  show (.inl (sy_dv F x) : sy_d) = _
  rw [hx]
theorem hd_gl {F : Nat → sy_d} {u : sy_u} {k : Nat} {x : sy_v} {X : Int64} (h : hd_gt u k (.inl x) = true) (hx : sy_dv F x = .long X) : sy_cm F u k = .inl (.long X) := by
  rw [hd_get h]
  show (.inl (sy_dv F x) : sy_d) = _
  rw [hx]
theorem hd_ga {F : Nat → sy_d} {u : sy_u} {k : Nat} {a : sy_a} {l : List Int32} (h : hd_gt u k (.inr a) = true) (ha : sy_da F a = .inl l) : sy_cm F u k = .inr (.inl l) := by
  rw [hd_get h]
  show (.inr (sy_da F a) : sy_d) = _
  rw [ha]
theorem hd_gA {F : Nat → sy_d} {u : sy_u} {k : Nat} {a : sy_a} {l : List Int64} (h : hd_gt u k (.inr a) = true) (ha : sy_da F a = .inr l) : sy_cm F u k = .inr (.inr l) := by
  rw [hd_get h]
  show (.inr (sy_da F a) : sy_d) = _
  rw [ha]
theorem hd_ov_at {u : sy_u} : ∀ {o : List (Nat × (sy_v ⊕ sy_a))} {j : Nat}, (∀ q ∈ o, q.1 ≠ j) → (hd_ov u o)[j]? = u[j]?
  | [], j, _ => rfl
  | q :: r, j, h => by
    rw [hd_ov, List.getElem?_set_ne (h q List.mem_cons_self)]
    exact hd_ov_at (fun z hz => h z (List.mem_cons_of_mem _ hz))
theorem hd_ov_len {u : sy_u} : ∀ {o : List (Nat × (sy_v ⊕ sy_a))}, (hd_ov u o).length = u.length
  | [] => rfl
  | q :: r => by rw [hd_ov, List.length_set, hd_ov_len]
theorem hd_keep {F : Nat → sy_d} {E : List iv_t} {o : List (Nat × (sy_v ⊕ sy_a))} {ul : sy_u} {j : Nat} (hE : iv_in F E) (hj : j < E.length) (ho : ∀ q ∈ o, q.1 ≠ j) : sy_cm F (hd_ov (iv_id 0 E) o ++ ul) j = F j := by
  have h1 := iv_id_ok (nh := E.length) (ua := ul) hE (Nat.le_refl _) hj
  rw [List.take_length] at h1
  rw [← h1]
  unfold sy_cm
  rw [List.getElem?_append_left (by rw [hd_ov_len, iv_id_len]; exact hj), List.getElem?_append_left (by rw [iv_id_len]; exact hj), hd_ov_at ho]
/-! calls by hand: behind a call the cells are those of the contract, the numbers of the caller stay -/
theorem hd_mrgL {nh nv : Nat} {F F2 : Nat → sy_d} {L : List (Option sy_v)} (h1 : L.all (iv_ho nh) = true) (h2 : L.all (sy_ow nv) = true) (hF : ∀ q, nh ≤ q → q < nv → F2 q = F q) : sy_dL F2 L = sy_dL F L := by
  refine List.map_congr_left (fun o ho => ?_)
  have q1 := List.all_eq_true.mp h1 o ho
  have q2 := List.all_eq_true.mp h2 o ho
  cases o with
  | none => rfl
  | some x => rw [Option.map_some, Option.map_some, iv_hv_ok q1 q2 hF]
theorem hd_mrgS {nh nv : Nat} {F F2 : Nat → sy_d} {r : List sy_v} (h1 : r.all (iv_hv nh) = true) (h2 : r.all (sy_vw nv) = true) (hF : ∀ q, nh ≤ q → q < nv → F2 q = F q) : r.map (sy_dv F2) = r.map (sy_dv F) := List.map_congr_left (fun x hx => iv_hv_ok (List.all_eq_true.mp h1 x hx) (List.all_eq_true.mp h2 x hx) hF)
noncomputable def hd_sc (nh nv s : Nat) (L : List (Option sy_v)) (r : List sy_v) : Bool := sy_gw nh (iv_H s).1 && sy_gw nh (iv_H s).2 && L.all (iv_ho nh) && L.all (sy_ow nv) && r.all (iv_hv nh) && r.all (sy_vw nv) && Nat.ble nh nv
section HC
variable {Ls : Nat} {xs : Nat → Int32} {d d1 : Nat} {M M1 : jm_M} {Q : Option Value → jm_h → Prop} {pc nh nv s s1 : Nat} {i : jm_I} {L : List (Option sy_v)} {S As rest : List sy_v} {F : Nat → sy_d} {X1 X2 : List jm_c}
/-- a call that answers an int -/
theorem hd_calI {R : Int32 → (Nat → sy_d) → Prop} (hM : jm_ok jm_YN M) (hi : jm_in M pc = some i) (hcf : sy_cf jm_TB i (iv_H s) S = some (M1, As, rest)) (hd : d1 + 1 ≤ d) (hsc : hd_sc nh nv s1 L rest = true)
    (hT : jm_T Ls xs d1 M1 (As.map (sy_dv F)) (sy_dh F X1 X2 (iv_H s)) 0 0 (fun v G => ∃ (x : Int32) (F' : Nat → sy_d), v = some (.int x) ∧ G = sy_dh F' X1 X2 (iv_H s1) ∧ R x F'))
    (k : ∀ (F2 F' : Nat → sy_d) (x : Int32), R x F' → (∀ q, q < nh → F2 q = F' q) → (∀ q, nh ≤ q → q < nv → F2 q = F q) → F2 nv = .inl (.int x) → hd_W Ls xs d M Q (pc + 3, sy_dL F2 L, sy_dS F2 (.inr (.inl nv) :: rest), sy_dh F2 X1 X2 (iv_H s1), 0, 0)) :
    hd_W Ls xs d M Q (pc, sy_dL F L, sy_dS F S, sy_dh F X1 X2 (iv_H s), 0, 0) := by
  refine hd_call hM hi hcf hT hd (fun v G1 hv => ?_)
  obtain ⟨x, F', rfl, rfl, hR⟩ := hv
  simp only [hd_sc, Bool.and_eq_true] at hsc
  obtain ⟨⟨⟨⟨⟨⟨g1, g2⟩, l1⟩, l2⟩, r1⟩, r2⟩, hn⟩ := hsc
  have hn := Nat.le_of_ble_eq_true hn
  obtain ⟨F2, hF2⟩ : ∃ F2 : Nat → sy_d, F2 = fun q => if q < nh then F' q else if q < nv then F q else .inl (.int x) := ⟨_, rfl⟩
  have p1 : ∀ q, q < nh → F2 q = F' q := fun q hq => by rw [hF2]; exact if_pos hq
  have p2 : ∀ q, nh ≤ q → q < nv → F2 q = F q := fun q hq hq2 => by
    rw [hF2]
    dsimp only
    rw [if_neg (by omega), if_pos hq2]
  have p3 : F2 nv = .inl (.int x) := by
    rw [hF2]
    dsimp only
    rw [if_neg (by omega), if_neg (by omega)]
  have hk := k F2 F' x hR p1 p2 p3
  have e1 : sy_dh F2 X1 X2 (iv_H s1) = sy_dh F' X1 X2 (iv_H s1) := by simp only [sy_dh, sy_gw_ok g1 p1, sy_gw_ok g2 p1]
  have e2 : sy_dS F2 (.inr (.inl nv) :: rest) = (some (Value.int x)).toList ++ sy_dS F rest := by
    show Value.int (sy_i F2 nv) :: rest.map (sy_dv F2) = _
    rw [hd_mrgS r1 r2 p2, zz_i p3]
    rfl
  rw [hd_mrgL l1 l2 p2, e1, e2] at hk
  exact hk
/-- a call that answers nothing -/
theorem hd_calV {R : (Nat → sy_d) → Prop} (hM : jm_ok jm_YN M) (hi : jm_in M pc = some i) (hcf : sy_cf jm_TB i (iv_H s) S = some (M1, As, rest)) (hd : d1 + 1 ≤ d) (hsc : hd_sc nh nv s1 L rest = true)
    (hT : jm_T Ls xs d1 M1 (As.map (sy_dv F)) (sy_dh F X1 X2 (iv_H s)) 0 0 (fun v G => ∃ F' : Nat → sy_d, v = none ∧ G = sy_dh F' X1 X2 (iv_H s1) ∧ R F'))
    (k : ∀ F2 F' : Nat → sy_d, R F' → (∀ q, q < nh → F2 q = F' q) → (∀ q, nh ≤ q → q < nv → F2 q = F q) → hd_W Ls xs d M Q (pc + 3, sy_dL F2 L, sy_dS F2 rest, sy_dh F2 X1 X2 (iv_H s1), 0, 0)) :
    hd_W Ls xs d M Q (pc, sy_dL F L, sy_dS F S, sy_dh F X1 X2 (iv_H s), 0, 0) := by
  refine hd_call hM hi hcf hT hd (fun v G1 hv => ?_)
  obtain ⟨F', rfl, rfl, hR⟩ := hv
  simp only [hd_sc, Bool.and_eq_true] at hsc
  obtain ⟨⟨⟨⟨⟨⟨g1, g2⟩, l1⟩, l2⟩, r1⟩, r2⟩, hn⟩ := hsc
  obtain ⟨F2, hF2⟩ : ∃ F2 : Nat → sy_d, F2 = fun q => if q < nh then F' q else F q := ⟨_, rfl⟩
  have p1 : ∀ q, q < nh → F2 q = F' q := fun q hq => by rw [hF2]; exact if_pos hq
  have p2 : ∀ q, nh ≤ q → q < nv → F2 q = F q := fun q hq hq2 => by
    rw [hF2]
    exact if_neg (by omega)
  have hk := k F2 F' hR p1 p2
  have e1 : sy_dh F2 X1 X2 (iv_H s1) = sy_dh F' X1 X2 (iv_H s1) := by simp only [sy_dh, sy_gw_ok g1 p1, sy_gw_ok g2 p1]
  have e2 : sy_dS F2 rest = (none : Option Value).toList ++ sy_dS F rest := by
    show rest.map (sy_dv F2) = _
    rw [hd_mrgS r1 r2 p2]
    rfl
  rw [hd_mrgL l1 l2 p2, e1, e2] at hk
  exact hk
end HC
end
section
/-! ===== the reference: a common divisor ===== -/
theorem cm_0_0 {Ls : Nat} {xs : Nat → Int32} {d : Nat} {Q : Option Value → jm_h → Prop} (hd : 1 ≤ d) (F : Nat → sy_d) (X1 X2 : List jm_c) (hB : iv_in F iv_B4)
    (k : ∀ F1 : Nat → sy_d, (∀ j, j < 69 → True → F1 j = F j) → F1 69 = .inl (.long (sy_l F 69)) → F1 70 = .inl (.long (sy_l F 70)) → hd_W Ls xs d jm_M210 Q (6, sy_dL F1 [none, none, none, none, some (.inr (.inr 69)), none, some (.inr (.inr 70)), none, none, none], sy_dS F1 [], sy_dh F1 X1 X2 (iv_H 4), 0, 0)) :
    hd_W Ls xs d jm_M210 Q (0, sy_dL F [some (.inr (.inr 69)), none, some (.inr (.inr 70)), none, none, none, none, none, none, none], sy_dS F [], sy_dh F X1 X2 (iv_H 4), 0, 0) := by
  refine hd_run (s := 4) (nv := 71) (pc := 6) (L := [none, none, none, none, some (.inr (.inr 69)), none, some (.inr (.inr 70)), none, none, none]) (S := []) (uh := hd_ov (iv_id 0 iv_B4) []) (ul := [.inl (.inr (.inr 69)), .inl (.inr (.inr 70))]) (f := true) (sp := [6]) (d0 := 0) (O := []) (T := []) (P := []) jm_ok210 (by decide +kernel) (by decide +kernel) hd F X1 X2 (fun F' hF hs => ?_)
  have b69 := hd_bl (F := F) (F' := F') (k := 69) (hF 69 (by decide))
  have b70 := hd_bl (F := F) (F' := F') (k := 70) (hF 70 (by decide))
  have hB' : iv_in F' iv_B4 := iv_in_eq hB (fun j hj => hF j (Nat.lt_of_lt_of_le hj (by decide +kernel)))
  refine ⟨fun _ h => absurd h List.not_mem_nil, ?_⟩
  refine k _ ?_ ?_ ?_
  · exact fun j hj _ => (hd_keep hB' (Nat.lt_of_lt_of_le hj (by decide +kernel)) (by simp)).trans (hF j (Nat.lt_of_lt_of_le hj (by decide)))
  · exact hd_gl (x := .inr (.inr 69)) (by decide +kernel) b69
  · exact hd_gl (x := .inr (.inr 70)) (by decide +kernel) b70
theorem cm_6_0 {Ls : Nat} {xs : Nat → Int32} {d : Nat} {Q : Option Value → jm_h → Prop} (hd : 1 ≤ d) (F : Nat → sy_d) (X1 X2 : List jm_c) (hB : iv_in F iv_B4)
    (h0 : (lg_cmp (sy_l F 70) ((0 : Int64))).toInt = 0)
    (k : ∀ F1 : Nat → sy_d, (∀ j, j < 69 → True → F1 j = F j) → Q (some (.long (sy_l F 69))) (sy_dh F1 X1 X2 (iv_H 4))) :
    hd_W Ls xs d jm_M210 Q (6, sy_dL F [none, none, none, none, some (.inr (.inr 69)), none, some (.inr (.inr 70)), none, none, none], sy_dS F [], sy_dh F X1 X2 (iv_H 4), 0, 0) := by
  refine hd_ret (s := 4) (nv := 71) (v := some (.inr (.inr 69))) (uh := hd_ov (iv_id 0 iv_B4) []) (f := true) (sp := [6]) (d0 := 0) (O := [true]) (T := [(17, [.inr (.inr 70), .inl (.long 0)], [])]) (P := [(0, .inr (.inl 71), .inl (.int 0))]) jm_ok210 (by decide +kernel) (by decide +kernel) hd F X1 X2 (fun F' hF hs => ?_)
  have b70 := hd_bl (F := F) (F' := F') (k := 70) (hF 70 (by decide))
  have t71 : sy_dv F' (.inr (.inl 71)) = .int (lg_cmp (sy_l F 70) ((0 : Int64))) := hd_oc (hs 0 _ rfl) b70 rfl rfl
  have b69 := hd_bl (F := F) (F' := F') (k := 69) (hF 69 (by decide))
  have hB' : iv_in F' iv_B4 := iv_in_eq hB (fun j hj => hF j (Nat.lt_of_lt_of_le hj (by decide +kernel)))
  have hk := k (sy_cm F' (hd_ov (iv_id 0 iv_B4) [] ++ [])) (fun j hj _ => (hd_keep hB' (Nat.lt_of_lt_of_le hj (by decide +kernel)) (by simp)).trans (hF j (Nat.lt_of_lt_of_le hj (by decide))))
  refine ⟨List.forall_mem_cons.mpr ⟨hd_p0 t71 rfl (by have hc : ((0) : Int32).toInt = 0 := (by decide); omega), fun _ h => absurd h List.not_mem_nil⟩, ?_⟩
  show Q (some (sy_dv F' (.inr (.inr 69)))) _
  rw [b69]
  exact hk
theorem cm_6_1 {Ls : Nat} {xs : Nat → Int32} {d : Nat} {Q : Option Value → jm_h → Prop} (hd : 1 ≤ d) (F : Nat → sy_d) (X1 X2 : List jm_c) (hB : iv_in F iv_B4)
    (h0 : (lg_cmp (sy_l F 70) ((0 : Int64))).toInt ≠ 0)
    (h1 : (sy_l F 70).toInt ≠ 0)
    (k : ∀ F1 : Nat → sy_d, (∀ j, j < 69 → True → F1 j = F j) → F1 69 = .inl (.long (sy_l F 70)) → F1 70 = .inl (.long ((sy_l F 69) - (sy_l F 69) / (sy_l F 70) * (sy_l F 70))) → hd_W Ls xs d jm_M210 Q (6, sy_dL F1 [none, none, none, none, some (.inr (.inr 69)), none, some (.inr (.inr 70)), none, none, none], sy_dS F1 [], sy_dh F1 X1 X2 (iv_H 4), 0, 0)) :
    hd_W Ls xs d jm_M210 Q (6, sy_dL F [none, none, none, none, some (.inr (.inr 69)), none, some (.inr (.inr 70)), none, none, none], sy_dS F [], sy_dh F X1 X2 (iv_H 4), 0, 0) := by
  refine hd_run (s := 4) (nv := 71) (pc := 6) (L := [none, none, none, none, some (.inr (.inr 69)), none, some (.inr (.inr 70)), none, none, none]) (S := []) (uh := hd_ov (iv_id 0 iv_B4) []) (ul := [.inl (.inr (.inr 70)), .inl (.inr (.inr 72))]) (f := true) (sp := [6]) (d0 := 0) (O := [false]) (T := [(17, [.inr (.inr 70), .inl (.long 0)], []), (16, [.inr (.inr 69), .inr (.inr 70)], [])]) (P := [(1, .inr (.inl 71), .inl (.int 0)), (1, .inr (.inr 70), .inl (.long 0))]) jm_ok210 (by decide +kernel) (by decide +kernel) hd F X1 X2 (fun F' hF hs => ?_)
  have b70 := hd_bl (F := F) (F' := F') (k := 70) (hF 70 (by decide))
  have t71 : sy_dv F' (.inr (.inl 71)) = .int (lg_cmp (sy_l F 70) ((0 : Int64))) := hd_oc (hs 0 _ rfl) b70 rfl rfl
  have b69 := hd_bl (F := F) (F' := F') (k := 69) (hF 69 (by decide))
  have t72 : sy_dv F' (.inr (.inr 72)) = .long ((sy_l F 69) - (sy_l F 69) / (sy_l F 70) * (sy_l F 70)) := hd_oL (hs 1 _ rfl) b69 b70 rfl
  have hB' : iv_in F' iv_B4 := iv_in_eq hB (fun j hj => hF j (Nat.lt_of_lt_of_le hj (by decide +kernel)))
  refine ⟨List.forall_mem_cons.mpr ⟨hd_p1 t71 rfl (by have hc : ((0) : Int32).toInt = 0 := (by decide); omega), List.forall_mem_cons.mpr ⟨hd_pL b70 rfl (by have hc : (0 : Int64).toInt = 0 := (by decide); rw [hc]; exact h1), fun _ h => absurd h List.not_mem_nil⟩⟩, ?_⟩
  refine k _ ?_ ?_ ?_
  · exact fun j hj _ => (hd_keep hB' (Nat.lt_of_lt_of_le hj (by decide +kernel)) (by simp)).trans (hF j (Nat.lt_of_lt_of_le hj (by decide)))
  · exact hd_gl (x := .inr (.inr 70)) (by decide +kernel) b70
  · exact hd_gl (x := .inr (.inr 72)) (by decide +kernel) t72
theorem hd_in1 {F F' : Nat → sy_d} {E : List iv_t} (hE : iv_in F E) (h : ∀ (j : Nat) (t : iv_t), E[j]? = some t → F' j = F j ∨ iv_has (F' j) t) : iv_in F' E := by
  intro j t hj
  rcases h j t hj with e | e
  · rw [e]; exact hE j t hj
  · exact e
theorem cm_lt (x : Int64) : (lg_cmp x 0).toInt = 0 ↔ x.toInt = 0 := by
  have hz : (0 : Int64).toInt = 0 := by decide
  unfold lg_cmp
  split
  · rename_i h
    have := Int64.lt_iff_toInt_lt.mp h
    rw [hz] at this
    exact ⟨fun q => absurd q (by decide), fun q => by omega⟩
  · split
    · rename_i h
      rw [h]
      exact ⟨fun _ => hz, fun _ => by decide⟩
    · rename_i h
      exact ⟨fun q => absurd q (by decide), fun q => absurd (Int64.toInt_inj.mp (by rw [q, hz])) h⟩
theorem cm_loop {Ls : Nat} {xs : Nat → Int32} (F : Nat → sy_d) (X1 X2 : List jm_c) : ∀ (n : Nat) (F1 : Nat → sy_d), iv_in F1 iv_B4 → (∀ j, j < 69 → F1 j = F j) → 0 ≤ (sy_l F1 69).toInt → 0 ≤ (sy_l F1 70).toInt → (sy_l F1 70).toInt < n → 1 ≤ (sy_l F1 69).toInt + (sy_l F1 70).toInt →
    hd_W Ls xs 1 jm_M210 (fun v G => ∃ (x : Int64) (F' : Nat → sy_d), v = some (.long x) ∧ 1 ≤ x.toInt ∧ G = sy_dh F' X1 X2 (iv_H 4) ∧ iv_in F' iv_B4 ∧ ∀ j, j < 69 → F' j = F j) (6, sy_dL F1 [none, none, none, none, some (.inr (.inr 69)), none, some (.inr (.inr 70)), none, none, none], sy_dS F1 [], sy_dh F1 X1 X2 (iv_H 4), 0, 0) := by
  intro n
  induction n with
  | zero => intro F1 _ _ _ h0 h1; omega
  | succ n ih =>
    intro F1 hB hf hx hy hn hs
    by_cases h0 : (sy_l F1 70).toInt = 0
    · refine cm_6_0 (Nat.le_refl _) F1 X1 X2 hB ((cm_lt _).mpr h0) (fun F2 h2 => ⟨_, F2, rfl, by omega, rfl, hd_in1 hB (fun j t hj => Or.inl (h2 j (List.getElem?_eq_some_iff.mp hj).1 trivial)), fun j hj => by rw [h2 j hj trivial, hf j hj]⟩)
    · have hr := Jvm.Kit.i64_rem_nonneg (x := sy_l F1 69) (y := sy_l F1 70) hx
      have h1 := Int.emod_nonneg (sy_l F1 69).toInt (b := (sy_l F1 70).toInt) h0
      have h2 := Int.emod_lt_of_pos (sy_l F1 69).toInt (b := (sy_l F1 70).toInt) (by omega)
      refine cm_6_1 (Nat.le_refl _) F1 X1 X2 hB (fun q => h0 ((cm_lt _).mp q)) h0 (fun F2 g1 g2 g3 => ?_)
      have e1 := zz_l g2
      have e2 := zz_l g3
      refine ih F2 (hd_in1 hB (fun j t hj => Or.inl (g1 j (List.getElem?_eq_some_iff.mp hj).1 trivial))) (fun j hj => by rw [g1 j hj trivial, hf j hj]) ?_ ?_ ?_ ?_
      · rw [e1]; omega
      · rw [e2, hr]; exact h1
      · rw [e2, hr]; omega
      · rw [e1, e2, hr]; omega
theorem ok_4_210 : ct_ok jj k_4_210 := by
  intro M hM Ls xs F X1 X2 hE hJ
  have hM : jm_TB[210]? = some M := hM
  have e : jm_TB[210]? = some jm_M210 := rfl
  rw [e] at hM
  cases hM
  have hE : iv_in F (iv_B4 ++ [(1, 0, 100000000), (1, 1, 100000000)]) := hE
  have hB : iv_in F iv_B4 := fun k t hk => hE k t (by rw [List.getElem?_append_left (List.getElem?_eq_some_iff.mp hk).1]; exact hk)
  obtain ⟨u, hu, u1, u2⟩ := iv_h1 (hE 69 (1, 0, 100000000) rfl)
  obtain ⟨w, hw, w1, w2⟩ := iv_h1 (hE 70 (1, 1, 100000000) rfl)
  refine jm_T_mono (P1 := fun v G => ∃ (x : Int64) (F' : Nat → sy_d), v = some (.long x) ∧ 1 ≤ x.toInt ∧ G = sy_dh F' X1 X2 (iv_H 4) ∧ iv_in F' iv_B4 ∧ ∀ j, j < 69 → F' j = F j) (hd_T (As := [.inr (.inr 69), .inr (.inr 70)]) jm_ok210 (by decide) (cm_0_0 (Nat.le_refl _) F X1 X2 hB (fun F1 g1 g2 g3 => ?_))) ?_
  · have e1 := zz_l g2
    have e2 := zz_l g3
    rw [zz_l hu] at e1
    rw [zz_l hw] at e2
    refine cm_loop F X1 X2 ((sy_l F1 70).toInt.toNat + 1) F1 (hd_in1 hB (fun j t hj => Or.inl (g1 j (List.getElem?_eq_some_iff.mp hj).1 trivial))) (fun j hj => g1 j hj trivial) ?_ ?_ ?_ ?_
    · rw [e1]; exact u1
    · rw [e2]; omega
    · rw [e2]; omega
    · rw [e1, e2]; omega
  · rintro v G ⟨x, F', rfl, hx, rfl, hB', hf⟩
    refine ⟨4, F', by decide, rfl, fun j hj _ => hf j hj, hB', ⟨rfl, hx, (iv_fullL x).2⟩, ?_⟩
    exact jj_plok.1 4 F F' (fun q hq => hf q hq) hJ
end
section
/-! ===== the reference: a term of a law, way by way ===== -/
theorem te_0_0 {Ls : Nat} {xs : Nat → Int32} {d : Nat} {Q : Option Value → jm_h → Prop} (hd : 1 ≤ d) (F : Nat → sy_d) (X1 X2 : List jm_c) (hB : iv_in F iv_B4)
    (k : ∀ F1 : Nat → sy_d, (∀ j, j < 69 → True → F1 j = F j) → F1 69 = .inl (.int (sy_i F 70)) → F1 70 = .inl (.int ((0 : Int32))) → F1 71 = .inl (.int (sy_i F 69)) → hd_W Ls xs d jm_M166 Q (5, sy_dL F1 [some (.inl (.ref 1000)), none, some (.inr (.inl 69)), some (.inr (.inl 70)), some (.inr (.inl 71)), none, none, none], sy_dS F1 [], sy_dh F1 X1 X2 (iv_H 4), 0, 0)) :
    hd_W Ls xs d jm_M166 Q (0, sy_dL F [some (.inl (.ref 1000)), some (.inr (.inl 69)), some (.inr (.inl 70)), none, none, none, none, none], sy_dS F [], sy_dh F X1 X2 (iv_H 4), 0, 0) := by
  refine hd_run (s := 4) (nv := 71) (pc := 5) (L := [some (.inl (.ref 1000)), none, some (.inr (.inl 69)), some (.inr (.inl 70)), some (.inr (.inl 71)), none, none, none]) (S := []) (uh := hd_ov (iv_id 0 iv_B4) []) (ul := [.inl (.inr (.inl 70)), .inl (.inl (.int 0)), .inl (.inr (.inl 69))]) (f := true) (sp := [5]) (d0 := 0) (O := []) (T := []) (P := []) jm_ok166 (by decide +kernel) (by decide +kernel) hd F X1 X2 (fun F' hF hs => ?_)
  have b70 := hd_b (F := F) (F' := F') (k := 70) (hF 70 (by decide))
  have b69 := hd_b (F := F) (F' := F') (k := 69) (hF 69 (by decide))
  have hB' : iv_in F' iv_B4 := iv_in_eq hB (fun j hj => hF j (Nat.lt_of_lt_of_le hj (by decide +kernel)))
  refine ⟨fun _ h => absurd h List.not_mem_nil, ?_⟩
  refine k _ ?_ ?_ ?_ ?_
  · exact fun j hj _ => (hd_keep hB' (Nat.lt_of_lt_of_le hj (by decide +kernel)) (by simp)).trans (hF j (Nat.lt_of_lt_of_le hj (by decide)))
  · exact hd_gi (x := .inr (.inl 70)) (by decide +kernel) b70
  · exact hd_gi (x := .inl (.int 0)) (by decide +kernel) rfl
  · exact hd_gi (x := .inr (.inl 69)) (by decide +kernel) b69
theorem te_5_0 {Ls : Nat} {xs : Nat → Int32} {d : Nat} {Q : Option Value → jm_h → Prop} (hd : 1 ≤ d) (F : Nat → sy_d) (X1 X2 : List jm_c) (hB : iv_in F iv_B4)
    (h0 : (sy_i F 69).toInt ≤ (sy_i F 71).toInt)
    (k : ∀ F1 : Nat → sy_d, (∀ j, j < 69 → True → F1 j = F j) → Q (some (.int ((sy_ai F 53).getD ((0 : Int32)).toNatClampNeg 0))) (sy_dh F1 X1 X2 (iv_H 4))) :
    hd_W Ls xs d jm_M166 Q (5, sy_dL F [some (.inl (.ref 1000)), none, some (.inr (.inl 69)), some (.inr (.inl 70)), some (.inr (.inl 71)), none, none, none], sy_dS F [], sy_dh F X1 X2 (iv_H 4), 0, 0) := by
  refine hd_ret (s := 4) (nv := 72) (v := some (.inr (.inl 72))) (uh := hd_ov (iv_id 0 iv_B4) []) (f := true) (sp := [5]) (d0 := 0) (O := [true]) (T := [(30, [.inl (.int 0)], [.inr (.inl 53)])]) (P := [(4, .inr (.inl 69), .inr (.inl 71))]) jm_ok166 (by decide +kernel) (by decide +kernel) hd F X1 X2 (fun F' hF hs => ?_)
  have b69 := hd_b (F := F) (F' := F') (k := 69) (hF 69 (by decide))
  have b71 := hd_b (F := F) (F' := F') (k := 71) (hF 71 (by decide))
  have a53 := hd_ba (F := F) (F' := F') (k := 53) (hF 53 (by decide))
  have t72 : sy_dv F' (.inr (.inl 72)) = .int ((sy_ai F 53).getD ((0 : Int32)).toNatClampNeg 0) := hd_rd (hs 0 _ rfl) rfl a53
  have hB' : iv_in F' iv_B4 := iv_in_eq hB (fun j hj => hF j (Nat.lt_of_lt_of_le hj (by decide +kernel)))
  have hk := k (sy_cm F' (hd_ov (iv_id 0 iv_B4) [] ++ [])) (fun j hj _ => (hd_keep hB' (Nat.lt_of_lt_of_le hj (by decide +kernel)) (by simp)).trans (hF j (Nat.lt_of_lt_of_le hj (by decide))))
  refine ⟨List.forall_mem_cons.mpr ⟨hd_p4 b69 b71 h0, fun _ h => absurd h List.not_mem_nil⟩, ?_⟩
  show Q (some (sy_dv F' (.inr (.inl 72)))) _
  rw [t72]
  exact hk
theorem te_5_1 {Ls : Nat} {xs : Nat → Int32} {d : Nat} {Q : Option Value → jm_h → Prop} (hd : 1 ≤ d) (F : Nat → sy_d) (X1 X2 : List jm_c) (hB : iv_in F iv_B4)
    (h0 : (sy_i F 71).toInt < (sy_i F 69).toInt)
    (h1 : 0 ≤ (sy_i F 71).toInt ∧ (sy_i F 71).toInt < 840)
    (h2 : 2 ≤ ((sy_ai F 49).getD (sy_i F 71).toNatClampNeg 0).toInt)
    (h3 : 0 ≤ (((sy_i F 70) + (((-1) : Int32))) - ((1 : Int32))).toInt ∧ (((sy_i F 70) + (((-1) : Int32))) - ((1 : Int32))).toInt < 400)
    (h4 : 0 ≤ ((sy_i F 70) + (((-1) : Int32))).toInt ∧ ((sy_i F 70) + (((-1) : Int32))).toInt < 400)
    (h5 : ((sy_ai F 49).getD (sy_i F 71).toNatClampNeg 0).toInt ≠ 5)
    (h6 : ((sy_ai F 49).getD (sy_i F 71).toNatClampNeg 0).toInt ≠ 2)
    (h7 : ((sy_ai F 49).getD (sy_i F 71).toNatClampNeg 0).toInt ≠ 3)
    (h8 : ((sy_ai F 49).getD (sy_i F 71).toNatClampNeg 0).toInt = 4)
    (h9 : 0 ≤ (((sy_i F 70) + (((-1) : Int32))) - ((1 : Int32))).toInt ∧ (((sy_i F 70) + (((-1) : Int32))) - ((1 : Int32))).toInt < 400)
    (k : ∀ F1 : Nat → sy_d, (∀ j, j < 69 → j ≠ 53 → F1 j = F j) → F1 53 = .inr (.inl (jm_upd (sy_ai F 53) (((sy_i F 70) + (((-1) : Int32))) - ((1 : Int32))).toNatClampNeg (((sy_ai F 53).getD (((sy_i F 70) + (((-1) : Int32))) - ((1 : Int32))).toNatClampNeg 0) * ((sy_ai F 53).getD ((sy_i F 70) + (((-1) : Int32))).toNatClampNeg 0)))) → F1 69 = .inl (.int (sy_i F 69)) → F1 70 = .inl (.int ((sy_i F 70) + (((-1) : Int32)))) → F1 71 = .inl (.int ((sy_i F 71) + ((1 : Int32)))) → hd_W Ls xs d jm_M166 Q (5, sy_dL F1 [some (.inl (.ref 1000)), none, some (.inr (.inl 69)), some (.inr (.inl 70)), some (.inr (.inl 71)), none, none, none], sy_dS F1 [], sy_dh F1 X1 X2 (iv_H 4), 0, 0)) :
    hd_W Ls xs d jm_M166 Q (5, sy_dL F [some (.inl (.ref 1000)), none, some (.inr (.inl 69)), some (.inr (.inl 70)), some (.inr (.inl 71)), none, none, none], sy_dS F [], sy_dh F X1 X2 (iv_H 4), 0, 0) := by
  refine hd_run (s := 4) (nv := 72) (pc := 5) (L := [some (.inl (.ref 1000)), none, some (.inr (.inl 69)), some (.inr (.inl 70)), some (.inr (.inl 71)), none, none, none]) (S := []) (uh := hd_ov (iv_id 0 iv_B4) [(53, .inr (.inr (.inl 79)))]) (ul := [.inl (.inr (.inl 69)), .inl (.inr (.inl 73)), .inl (.inr (.inl 80))]) (f := true) (sp := [5]) (d0 := 0) (O := [false, true, true, true, true, false]) (T := [(30, [.inr (.inl 71)], [.inr (.inl 49)]), (0, [.inr (.inl 70), .inl (.int (-1))], []), (1, [.inr (.inl 73), .inl (.int 1)], []), (30, [.inr (.inl 74)], [.inr (.inl 53)]), (30, [.inr (.inl 73)], [.inr (.inl 53)]), (1, [.inr (.inl 73), .inl (.int 1)], []), (2, [.inr (.inl 75), .inr (.inl 76)], []), (40, [.inr (.inl 77), .inr (.inl 78)], [.inr (.inl 53)]), (0, [.inr (.inl 71), .inl (.int 1)], [])]) (P := [(5, .inr (.inl 69), .inr (.inl 71)), (6, .inr (.inl 71), .inl (.ref 840)), (4, .inl (.int 2), .inr (.inl 72)), (6, .inr (.inl 74), .inl (.ref 400)), (6, .inr (.inl 73), .inl (.ref 400)), (1, .inr (.inl 72), .inl (.int 5)), (1, .inr (.inl 72), .inl (.int 2)), (1, .inr (.inl 72), .inl (.int 3)), (0, .inr (.inl 72), .inl (.int 4)), (6, .inr (.inl 77), .inl (.ref 400))]) jm_ok166 (by decide +kernel) (by decide +kernel) hd F X1 X2 (fun F' hF hs => ?_)
  have b69 := hd_b (F := F) (F' := F') (k := 69) (hF 69 (by decide))
  have b71 := hd_b (F := F) (F' := F') (k := 71) (hF 71 (by decide))
  have a49 := hd_ba (F := F) (F' := F') (k := 49) (hF 49 (by decide))
  have t72 : sy_dv F' (.inr (.inl 72)) = .int ((sy_ai F 49).getD (sy_i F 71).toNatClampNeg 0) := hd_rd (hs 0 _ rfl) b71 a49
  have b70 := hd_b (F := F) (F' := F') (k := 70) (hF 70 (by decide))
  have t73 : sy_dv F' (.inr (.inl 73)) = .int ((sy_i F 70) + (((-1) : Int32))) := hd_o (hs 1 _ rfl) b70 rfl rfl
  have t74 : sy_dv F' (.inr (.inl 74)) = .int (((sy_i F 70) + (((-1) : Int32))) - ((1 : Int32))) := hd_o (hs 2 _ rfl) t73 rfl rfl
  have t77 : sy_dv F' (.inr (.inl 77)) = .int (((sy_i F 70) + (((-1) : Int32))) - ((1 : Int32))) := hd_o (hs 5 _ rfl) t73 rfl rfl
  have a53 := hd_ba (F := F) (F' := F') (k := 53) (hF 53 (by decide))
  have t75 : sy_dv F' (.inr (.inl 75)) = .int ((sy_ai F 53).getD (((sy_i F 70) + (((-1) : Int32))) - ((1 : Int32))).toNatClampNeg 0) := hd_rd (hs 3 _ rfl) t74 a53
  have t76 : sy_dv F' (.inr (.inl 76)) = .int ((sy_ai F 53).getD ((sy_i F 70) + (((-1) : Int32))).toNatClampNeg 0) := hd_rd (hs 4 _ rfl) t73 a53
  have t78 : sy_dv F' (.inr (.inl 78)) = .int (((sy_ai F 53).getD (((sy_i F 70) + (((-1) : Int32))) - ((1 : Int32))).toNatClampNeg 0) * ((sy_ai F 53).getD ((sy_i F 70) + (((-1) : Int32))).toNatClampNeg 0)) := hd_o (hs 6 _ rfl) t75 t76 rfl
  have t79 : sy_da F' (.inr (.inl 79)) = .inl (jm_upd (sy_ai F 53) (((sy_i F 70) + (((-1) : Int32))) - ((1 : Int32))).toNatClampNeg (((sy_ai F 53).getD (((sy_i F 70) + (((-1) : Int32))) - ((1 : Int32))).toNatClampNeg 0) * ((sy_ai F 53).getD ((sy_i F 70) + (((-1) : Int32))).toNatClampNeg 0))) := hd_up (hs 7 _ rfl) t77 t78 a53
  have t80 : sy_dv F' (.inr (.inl 80)) = .int ((sy_i F 71) + ((1 : Int32))) := hd_o (hs 8 _ rfl) b71 rfl rfl
  have hB' : iv_in F' iv_B4 := iv_in_eq hB (fun j hj => hF j (Nat.lt_of_lt_of_le hj (by decide +kernel)))
  refine ⟨List.forall_mem_cons.mpr ⟨hd_p5 b69 b71 h0, List.forall_mem_cons.mpr ⟨hd_pb b71 (by first | exact h1 | exact h1), List.forall_mem_cons.mpr ⟨hd_p4 rfl t72 (by have hc : ((2) : Int32).toInt = 2 := (by decide); omega), List.forall_mem_cons.mpr ⟨hd_pb t74 (by first | exact h3 | exact h3), List.forall_mem_cons.mpr ⟨hd_pb t73 (by first | exact h4 | exact h4), List.forall_mem_cons.mpr ⟨hd_p1 t72 rfl (by have hc : ((5) : Int32).toInt = 5 := (by decide); omega), List.forall_mem_cons.mpr ⟨hd_p1 t72 rfl (by have hc : ((2) : Int32).toInt = 2 := (by decide); omega), List.forall_mem_cons.mpr ⟨hd_p1 t72 rfl (by have hc : ((3) : Int32).toInt = 3 := (by decide); omega), List.forall_mem_cons.mpr ⟨hd_p0 t72 rfl (by have hc : ((4) : Int32).toInt = 4 := (by decide); omega), List.forall_mem_cons.mpr ⟨hd_pb t77 (by first | exact h9 | exact h9), fun _ h => absurd h List.not_mem_nil⟩⟩⟩⟩⟩⟩⟩⟩⟩⟩, ?_⟩
  refine k _ ?_ ?_ ?_ ?_ ?_
  · exact fun j hj hn => (hd_keep hB' (Nat.lt_of_lt_of_le hj (by decide +kernel)) (by simp; omega)).trans (hF j (Nat.lt_of_lt_of_le hj (by decide)))
  · exact hd_ga (a := .inr (.inl 79)) (by decide +kernel) t79
  · exact hd_gi (x := .inr (.inl 69)) (by decide +kernel) b69
  · exact hd_gi (x := .inr (.inl 73)) (by decide +kernel) t73
  · exact hd_gi (x := .inr (.inl 80)) (by decide +kernel) t80
theorem te_5_2 {Ls : Nat} {xs : Nat → Int32} {d : Nat} {Q : Option Value → jm_h → Prop} (hd : 1 ≤ d) (F : Nat → sy_d) (X1 X2 : List jm_c) (hB : iv_in F iv_B4)
    (h0 : (sy_i F 71).toInt < (sy_i F 69).toInt)
    (h1 : 0 ≤ (sy_i F 71).toInt ∧ (sy_i F 71).toInt < 840)
    (h2 : 2 ≤ ((sy_ai F 49).getD (sy_i F 71).toNatClampNeg 0).toInt)
    (h3 : 0 ≤ (((sy_i F 70) + (((-1) : Int32))) - ((1 : Int32))).toInt ∧ (((sy_i F 70) + (((-1) : Int32))) - ((1 : Int32))).toInt < 400)
    (h4 : 0 ≤ ((sy_i F 70) + (((-1) : Int32))).toInt ∧ ((sy_i F 70) + (((-1) : Int32))).toInt < 400)
    (h5 : ((sy_ai F 49).getD (sy_i F 71).toNatClampNeg 0).toInt ≠ 5)
    (h6 : ((sy_ai F 49).getD (sy_i F 71).toNatClampNeg 0).toInt ≠ 2)
    (h7 : ((sy_ai F 49).getD (sy_i F 71).toNatClampNeg 0).toInt = 3)
    (h8 : 0 ≤ (((sy_i F 70) + (((-1) : Int32))) - ((1 : Int32))).toInt ∧ (((sy_i F 70) + (((-1) : Int32))) - ((1 : Int32))).toInt < 400)
    (k : ∀ F1 : Nat → sy_d, (∀ j, j < 69 → j ≠ 53 → F1 j = F j) → F1 53 = .inr (.inl (jm_upd (sy_ai F 53) (((sy_i F 70) + (((-1) : Int32))) - ((1 : Int32))).toNatClampNeg (((sy_ai F 53).getD (((sy_i F 70) + (((-1) : Int32))) - ((1 : Int32))).toNatClampNeg 0) - ((sy_ai F 53).getD ((sy_i F 70) + (((-1) : Int32))).toNatClampNeg 0)))) → F1 69 = .inl (.int (sy_i F 69)) → F1 70 = .inl (.int ((sy_i F 70) + (((-1) : Int32)))) → F1 71 = .inl (.int ((sy_i F 71) + ((1 : Int32)))) → hd_W Ls xs d jm_M166 Q (5, sy_dL F1 [some (.inl (.ref 1000)), none, some (.inr (.inl 69)), some (.inr (.inl 70)), some (.inr (.inl 71)), none, none, none], sy_dS F1 [], sy_dh F1 X1 X2 (iv_H 4), 0, 0)) :
    hd_W Ls xs d jm_M166 Q (5, sy_dL F [some (.inl (.ref 1000)), none, some (.inr (.inl 69)), some (.inr (.inl 70)), some (.inr (.inl 71)), none, none, none], sy_dS F [], sy_dh F X1 X2 (iv_H 4), 0, 0) := by
  refine hd_run (s := 4) (nv := 72) (pc := 5) (L := [some (.inl (.ref 1000)), none, some (.inr (.inl 69)), some (.inr (.inl 70)), some (.inr (.inl 71)), none, none, none]) (S := []) (uh := hd_ov (iv_id 0 iv_B4) [(53, .inr (.inr (.inl 79)))]) (ul := [.inl (.inr (.inl 69)), .inl (.inr (.inl 73)), .inl (.inr (.inl 80))]) (f := true) (sp := [5]) (d0 := 0) (O := [false, true, true, true, false]) (T := [(30, [.inr (.inl 71)], [.inr (.inl 49)]), (0, [.inr (.inl 70), .inl (.int (-1))], []), (1, [.inr (.inl 73), .inl (.int 1)], []), (30, [.inr (.inl 74)], [.inr (.inl 53)]), (30, [.inr (.inl 73)], [.inr (.inl 53)]), (1, [.inr (.inl 73), .inl (.int 1)], []), (1, [.inr (.inl 75), .inr (.inl 76)], []), (40, [.inr (.inl 77), .inr (.inl 78)], [.inr (.inl 53)]), (0, [.inr (.inl 71), .inl (.int 1)], [])]) (P := [(5, .inr (.inl 69), .inr (.inl 71)), (6, .inr (.inl 71), .inl (.ref 840)), (4, .inl (.int 2), .inr (.inl 72)), (6, .inr (.inl 74), .inl (.ref 400)), (6, .inr (.inl 73), .inl (.ref 400)), (1, .inr (.inl 72), .inl (.int 5)), (1, .inr (.inl 72), .inl (.int 2)), (0, .inr (.inl 72), .inl (.int 3)), (6, .inr (.inl 77), .inl (.ref 400))]) jm_ok166 (by decide +kernel) (by decide +kernel) hd F X1 X2 (fun F' hF hs => ?_)
  have b69 := hd_b (F := F) (F' := F') (k := 69) (hF 69 (by decide))
  have b71 := hd_b (F := F) (F' := F') (k := 71) (hF 71 (by decide))
  have a49 := hd_ba (F := F) (F' := F') (k := 49) (hF 49 (by decide))
  have t72 : sy_dv F' (.inr (.inl 72)) = .int ((sy_ai F 49).getD (sy_i F 71).toNatClampNeg 0) := hd_rd (hs 0 _ rfl) b71 a49
  have b70 := hd_b (F := F) (F' := F') (k := 70) (hF 70 (by decide))
  have t73 : sy_dv F' (.inr (.inl 73)) = .int ((sy_i F 70) + (((-1) : Int32))) := hd_o (hs 1 _ rfl) b70 rfl rfl
  have t74 : sy_dv F' (.inr (.inl 74)) = .int (((sy_i F 70) + (((-1) : Int32))) - ((1 : Int32))) := hd_o (hs 2 _ rfl) t73 rfl rfl
  have t77 : sy_dv F' (.inr (.inl 77)) = .int (((sy_i F 70) + (((-1) : Int32))) - ((1 : Int32))) := hd_o (hs 5 _ rfl) t73 rfl rfl
  have a53 := hd_ba (F := F) (F' := F') (k := 53) (hF 53 (by decide))
  have t75 : sy_dv F' (.inr (.inl 75)) = .int ((sy_ai F 53).getD (((sy_i F 70) + (((-1) : Int32))) - ((1 : Int32))).toNatClampNeg 0) := hd_rd (hs 3 _ rfl) t74 a53
  have t76 : sy_dv F' (.inr (.inl 76)) = .int ((sy_ai F 53).getD ((sy_i F 70) + (((-1) : Int32))).toNatClampNeg 0) := hd_rd (hs 4 _ rfl) t73 a53
  have t78 : sy_dv F' (.inr (.inl 78)) = .int (((sy_ai F 53).getD (((sy_i F 70) + (((-1) : Int32))) - ((1 : Int32))).toNatClampNeg 0) - ((sy_ai F 53).getD ((sy_i F 70) + (((-1) : Int32))).toNatClampNeg 0)) := hd_o (hs 6 _ rfl) t75 t76 rfl
  have t79 : sy_da F' (.inr (.inl 79)) = .inl (jm_upd (sy_ai F 53) (((sy_i F 70) + (((-1) : Int32))) - ((1 : Int32))).toNatClampNeg (((sy_ai F 53).getD (((sy_i F 70) + (((-1) : Int32))) - ((1 : Int32))).toNatClampNeg 0) - ((sy_ai F 53).getD ((sy_i F 70) + (((-1) : Int32))).toNatClampNeg 0))) := hd_up (hs 7 _ rfl) t77 t78 a53
  have t80 : sy_dv F' (.inr (.inl 80)) = .int ((sy_i F 71) + ((1 : Int32))) := hd_o (hs 8 _ rfl) b71 rfl rfl
  have hB' : iv_in F' iv_B4 := iv_in_eq hB (fun j hj => hF j (Nat.lt_of_lt_of_le hj (by decide +kernel)))
  refine ⟨List.forall_mem_cons.mpr ⟨hd_p5 b69 b71 h0, List.forall_mem_cons.mpr ⟨hd_pb b71 (by first | exact h1 | exact h1), List.forall_mem_cons.mpr ⟨hd_p4 rfl t72 (by have hc : ((2) : Int32).toInt = 2 := (by decide); omega), List.forall_mem_cons.mpr ⟨hd_pb t74 (by first | exact h3 | exact h3), List.forall_mem_cons.mpr ⟨hd_pb t73 (by first | exact h4 | exact h4), List.forall_mem_cons.mpr ⟨hd_p1 t72 rfl (by have hc : ((5) : Int32).toInt = 5 := (by decide); omega), List.forall_mem_cons.mpr ⟨hd_p1 t72 rfl (by have hc : ((2) : Int32).toInt = 2 := (by decide); omega), List.forall_mem_cons.mpr ⟨hd_p0 t72 rfl (by have hc : ((3) : Int32).toInt = 3 := (by decide); omega), List.forall_mem_cons.mpr ⟨hd_pb t77 (by first | exact h8 | exact h8), fun _ h => absurd h List.not_mem_nil⟩⟩⟩⟩⟩⟩⟩⟩⟩, ?_⟩
  refine k _ ?_ ?_ ?_ ?_ ?_
  · exact fun j hj hn => (hd_keep hB' (Nat.lt_of_lt_of_le hj (by decide +kernel)) (by simp; omega)).trans (hF j (Nat.lt_of_lt_of_le hj (by decide)))
  · exact hd_ga (a := .inr (.inl 79)) (by decide +kernel) t79
  · exact hd_gi (x := .inr (.inl 69)) (by decide +kernel) b69
  · exact hd_gi (x := .inr (.inl 73)) (by decide +kernel) t73
  · exact hd_gi (x := .inr (.inl 80)) (by decide +kernel) t80
theorem te_5_3 {Ls : Nat} {xs : Nat → Int32} {d : Nat} {Q : Option Value → jm_h → Prop} (hd : 1 ≤ d) (F : Nat → sy_d) (X1 X2 : List jm_c) (hB : iv_in F iv_B4)
    (h0 : (sy_i F 71).toInt < (sy_i F 69).toInt)
    (h1 : 0 ≤ (sy_i F 71).toInt ∧ (sy_i F 71).toInt < 840)
    (h2 : 2 ≤ ((sy_ai F 49).getD (sy_i F 71).toNatClampNeg 0).toInt)
    (h3 : 0 ≤ (((sy_i F 70) + (((-1) : Int32))) - ((1 : Int32))).toInt ∧ (((sy_i F 70) + (((-1) : Int32))) - ((1 : Int32))).toInt < 400)
    (h4 : 0 ≤ ((sy_i F 70) + (((-1) : Int32))).toInt ∧ ((sy_i F 70) + (((-1) : Int32))).toInt < 400)
    (h5 : ((sy_ai F 49).getD (sy_i F 71).toNatClampNeg 0).toInt ≠ 5)
    (h6 : ((sy_ai F 49).getD (sy_i F 71).toNatClampNeg 0).toInt = 2)
    (h7 : 0 ≤ (((sy_i F 70) + (((-1) : Int32))) - ((1 : Int32))).toInt ∧ (((sy_i F 70) + (((-1) : Int32))) - ((1 : Int32))).toInt < 400)
    (k : ∀ F1 : Nat → sy_d, (∀ j, j < 69 → j ≠ 53 → F1 j = F j) → F1 53 = .inr (.inl (jm_upd (sy_ai F 53) (((sy_i F 70) + (((-1) : Int32))) - ((1 : Int32))).toNatClampNeg (((sy_ai F 53).getD (((sy_i F 70) + (((-1) : Int32))) - ((1 : Int32))).toNatClampNeg 0) + ((sy_ai F 53).getD ((sy_i F 70) + (((-1) : Int32))).toNatClampNeg 0)))) → F1 69 = .inl (.int (sy_i F 69)) → F1 70 = .inl (.int ((sy_i F 70) + (((-1) : Int32)))) → F1 71 = .inl (.int ((sy_i F 71) + ((1 : Int32)))) → hd_W Ls xs d jm_M166 Q (5, sy_dL F1 [some (.inl (.ref 1000)), none, some (.inr (.inl 69)), some (.inr (.inl 70)), some (.inr (.inl 71)), none, none, none], sy_dS F1 [], sy_dh F1 X1 X2 (iv_H 4), 0, 0)) :
    hd_W Ls xs d jm_M166 Q (5, sy_dL F [some (.inl (.ref 1000)), none, some (.inr (.inl 69)), some (.inr (.inl 70)), some (.inr (.inl 71)), none, none, none], sy_dS F [], sy_dh F X1 X2 (iv_H 4), 0, 0) := by
  refine hd_run (s := 4) (nv := 72) (pc := 5) (L := [some (.inl (.ref 1000)), none, some (.inr (.inl 69)), some (.inr (.inl 70)), some (.inr (.inl 71)), none, none, none]) (S := []) (uh := hd_ov (iv_id 0 iv_B4) [(53, .inr (.inr (.inl 79)))]) (ul := [.inl (.inr (.inl 69)), .inl (.inr (.inl 73)), .inl (.inr (.inl 80))]) (f := true) (sp := [5]) (d0 := 0) (O := [false, true, true, false]) (T := [(30, [.inr (.inl 71)], [.inr (.inl 49)]), (0, [.inr (.inl 70), .inl (.int (-1))], []), (1, [.inr (.inl 73), .inl (.int 1)], []), (30, [.inr (.inl 74)], [.inr (.inl 53)]), (30, [.inr (.inl 73)], [.inr (.inl 53)]), (1, [.inr (.inl 73), .inl (.int 1)], []), (0, [.inr (.inl 75), .inr (.inl 76)], []), (40, [.inr (.inl 77), .inr (.inl 78)], [.inr (.inl 53)]), (0, [.inr (.inl 71), .inl (.int 1)], [])]) (P := [(5, .inr (.inl 69), .inr (.inl 71)), (6, .inr (.inl 71), .inl (.ref 840)), (4, .inl (.int 2), .inr (.inl 72)), (6, .inr (.inl 74), .inl (.ref 400)), (6, .inr (.inl 73), .inl (.ref 400)), (1, .inr (.inl 72), .inl (.int 5)), (0, .inr (.inl 72), .inl (.int 2)), (6, .inr (.inl 77), .inl (.ref 400))]) jm_ok166 (by decide +kernel) (by decide +kernel) hd F X1 X2 (fun F' hF hs => ?_)
  have b69 := hd_b (F := F) (F' := F') (k := 69) (hF 69 (by decide))
  have b71 := hd_b (F := F) (F' := F') (k := 71) (hF 71 (by decide))
  have a49 := hd_ba (F := F) (F' := F') (k := 49) (hF 49 (by decide))
  have t72 : sy_dv F' (.inr (.inl 72)) = .int ((sy_ai F 49).getD (sy_i F 71).toNatClampNeg 0) := hd_rd (hs 0 _ rfl) b71 a49
  have b70 := hd_b (F := F) (F' := F') (k := 70) (hF 70 (by decide))
  have t73 : sy_dv F' (.inr (.inl 73)) = .int ((sy_i F 70) + (((-1) : Int32))) := hd_o (hs 1 _ rfl) b70 rfl rfl
  have t74 : sy_dv F' (.inr (.inl 74)) = .int (((sy_i F 70) + (((-1) : Int32))) - ((1 : Int32))) := hd_o (hs 2 _ rfl) t73 rfl rfl
  have t77 : sy_dv F' (.inr (.inl 77)) = .int (((sy_i F 70) + (((-1) : Int32))) - ((1 : Int32))) := hd_o (hs 5 _ rfl) t73 rfl rfl
  have a53 := hd_ba (F := F) (F' := F') (k := 53) (hF 53 (by decide))
  have t75 : sy_dv F' (.inr (.inl 75)) = .int ((sy_ai F 53).getD (((sy_i F 70) + (((-1) : Int32))) - ((1 : Int32))).toNatClampNeg 0) := hd_rd (hs 3 _ rfl) t74 a53
  have t76 : sy_dv F' (.inr (.inl 76)) = .int ((sy_ai F 53).getD ((sy_i F 70) + (((-1) : Int32))).toNatClampNeg 0) := hd_rd (hs 4 _ rfl) t73 a53
  have t78 : sy_dv F' (.inr (.inl 78)) = .int (((sy_ai F 53).getD (((sy_i F 70) + (((-1) : Int32))) - ((1 : Int32))).toNatClampNeg 0) + ((sy_ai F 53).getD ((sy_i F 70) + (((-1) : Int32))).toNatClampNeg 0)) := hd_o (hs 6 _ rfl) t75 t76 rfl
  have t79 : sy_da F' (.inr (.inl 79)) = .inl (jm_upd (sy_ai F 53) (((sy_i F 70) + (((-1) : Int32))) - ((1 : Int32))).toNatClampNeg (((sy_ai F 53).getD (((sy_i F 70) + (((-1) : Int32))) - ((1 : Int32))).toNatClampNeg 0) + ((sy_ai F 53).getD ((sy_i F 70) + (((-1) : Int32))).toNatClampNeg 0))) := hd_up (hs 7 _ rfl) t77 t78 a53
  have t80 : sy_dv F' (.inr (.inl 80)) = .int ((sy_i F 71) + ((1 : Int32))) := hd_o (hs 8 _ rfl) b71 rfl rfl
  have hB' : iv_in F' iv_B4 := iv_in_eq hB (fun j hj => hF j (Nat.lt_of_lt_of_le hj (by decide +kernel)))
  refine ⟨List.forall_mem_cons.mpr ⟨hd_p5 b69 b71 h0, List.forall_mem_cons.mpr ⟨hd_pb b71 (by first | exact h1 | exact h1), List.forall_mem_cons.mpr ⟨hd_p4 rfl t72 (by have hc : ((2) : Int32).toInt = 2 := (by decide); omega), List.forall_mem_cons.mpr ⟨hd_pb t74 (by first | exact h3 | exact h3), List.forall_mem_cons.mpr ⟨hd_pb t73 (by first | exact h4 | exact h4), List.forall_mem_cons.mpr ⟨hd_p1 t72 rfl (by have hc : ((5) : Int32).toInt = 5 := (by decide); omega), List.forall_mem_cons.mpr ⟨hd_p0 t72 rfl (by have hc : ((2) : Int32).toInt = 2 := (by decide); omega), List.forall_mem_cons.mpr ⟨hd_pb t77 (by first | exact h7 | exact h7), fun _ h => absurd h List.not_mem_nil⟩⟩⟩⟩⟩⟩⟩⟩, ?_⟩
  refine k _ ?_ ?_ ?_ ?_ ?_
  · exact fun j hj hn => (hd_keep hB' (Nat.lt_of_lt_of_le hj (by decide +kernel)) (by simp; omega)).trans (hF j (Nat.lt_of_lt_of_le hj (by decide)))
  · exact hd_ga (a := .inr (.inl 79)) (by decide +kernel) t79
  · exact hd_gi (x := .inr (.inl 69)) (by decide +kernel) b69
  · exact hd_gi (x := .inr (.inl 73)) (by decide +kernel) t73
  · exact hd_gi (x := .inr (.inl 80)) (by decide +kernel) t80
theorem te_5_4 {Ls : Nat} {xs : Nat → Int32} {d : Nat} {Q : Option Value → jm_h → Prop} (hd : 1 ≤ d) (F : Nat → sy_d) (X1 X2 : List jm_c) (hB : iv_in F iv_B4)
    (h0 : (sy_i F 71).toInt < (sy_i F 69).toInt)
    (h1 : 0 ≤ (sy_i F 71).toInt ∧ (sy_i F 71).toInt < 840)
    (h2 : 2 ≤ ((sy_ai F 49).getD (sy_i F 71).toNatClampNeg 0).toInt)
    (h3 : 0 ≤ (((sy_i F 70) + (((-1) : Int32))) - ((1 : Int32))).toInt ∧ (((sy_i F 70) + (((-1) : Int32))) - ((1 : Int32))).toInt < 400)
    (h4 : 0 ≤ ((sy_i F 70) + (((-1) : Int32))).toInt ∧ ((sy_i F 70) + (((-1) : Int32))).toInt < 400)
    (h5 : ((sy_ai F 49).getD (sy_i F 71).toNatClampNeg 0).toInt = 5)
    (h6 : ((sy_ai F 53).getD ((sy_i F 70) + (((-1) : Int32))).toNatClampNeg 0).toInt ≠ 0)
    (h7 : ((sy_ai F 49).getD (sy_i F 71).toNatClampNeg 0).toInt ≠ 2)
    (h8 : ((sy_ai F 49).getD (sy_i F 71).toNatClampNeg 0).toInt ≠ 3)
    (h9 : ((sy_ai F 49).getD (sy_i F 71).toNatClampNeg 0).toInt ≠ 4)
    (h10 : ((sy_ai F 53).getD ((sy_i F 70) + (((-1) : Int32))).toNatClampNeg 0).toInt ≠ 0)
    (h11 : 0 ≤ (((sy_i F 70) + (((-1) : Int32))) - ((1 : Int32))).toInt ∧ (((sy_i F 70) + (((-1) : Int32))) - ((1 : Int32))).toInt < 400)
    (k : ∀ F1 : Nat → sy_d, (∀ j, j < 69 → j ≠ 53 → F1 j = F j) → F1 53 = .inr (.inl (jm_upd (sy_ai F 53) (((sy_i F 70) + (((-1) : Int32))) - ((1 : Int32))).toNatClampNeg (((sy_ai F 53).getD (((sy_i F 70) + (((-1) : Int32))) - ((1 : Int32))).toNatClampNeg 0) / ((sy_ai F 53).getD ((sy_i F 70) + (((-1) : Int32))).toNatClampNeg 0)))) → F1 69 = .inl (.int (sy_i F 69)) → F1 70 = .inl (.int ((sy_i F 70) + (((-1) : Int32)))) → F1 71 = .inl (.int ((sy_i F 71) + ((1 : Int32)))) → hd_W Ls xs d jm_M166 Q (5, sy_dL F1 [some (.inl (.ref 1000)), none, some (.inr (.inl 69)), some (.inr (.inl 70)), some (.inr (.inl 71)), none, none, none], sy_dS F1 [], sy_dh F1 X1 X2 (iv_H 4), 0, 0)) :
    hd_W Ls xs d jm_M166 Q (5, sy_dL F [some (.inl (.ref 1000)), none, some (.inr (.inl 69)), some (.inr (.inl 70)), some (.inr (.inl 71)), none, none, none], sy_dS F [], sy_dh F X1 X2 (iv_H 4), 0, 0) := by
  refine hd_run (s := 4) (nv := 72) (pc := 5) (L := [some (.inl (.ref 1000)), none, some (.inr (.inl 69)), some (.inr (.inl 70)), some (.inr (.inl 71)), none, none, none]) (S := []) (uh := hd_ov (iv_id 0 iv_B4) [(53, .inr (.inr (.inl 79)))]) (ul := [.inl (.inr (.inl 69)), .inl (.inr (.inl 73)), .inl (.inr (.inl 80))]) (f := true) (sp := [5]) (d0 := 0) (O := [false, true, false, true, true, true, true]) (T := [(30, [.inr (.inl 71)], [.inr (.inl 49)]), (0, [.inr (.inl 70), .inl (.int (-1))], []), (1, [.inr (.inl 73), .inl (.int 1)], []), (30, [.inr (.inl 74)], [.inr (.inl 53)]), (30, [.inr (.inl 73)], [.inr (.inl 53)]), (1, [.inr (.inl 73), .inl (.int 1)], []), (9, [.inr (.inl 75), .inr (.inl 76)], []), (40, [.inr (.inl 77), .inr (.inl 78)], [.inr (.inl 53)]), (0, [.inr (.inl 71), .inl (.int 1)], [])]) (P := [(5, .inr (.inl 69), .inr (.inl 71)), (6, .inr (.inl 71), .inl (.ref 840)), (4, .inl (.int 2), .inr (.inl 72)), (6, .inr (.inl 74), .inl (.ref 400)), (6, .inr (.inl 73), .inl (.ref 400)), (0, .inr (.inl 72), .inl (.int 5)), (1, .inr (.inl 76), .inl (.int 0)), (1, .inr (.inl 72), .inl (.int 2)), (1, .inr (.inl 72), .inl (.int 3)), (1, .inr (.inl 72), .inl (.int 4)), (1, .inr (.inl 76), .inl (.int 0)), (6, .inr (.inl 77), .inl (.ref 400))]) jm_ok166 (by decide +kernel) (by decide +kernel) hd F X1 X2 (fun F' hF hs => ?_)
  have b69 := hd_b (F := F) (F' := F') (k := 69) (hF 69 (by decide))
  have b71 := hd_b (F := F) (F' := F') (k := 71) (hF 71 (by decide))
  have a49 := hd_ba (F := F) (F' := F') (k := 49) (hF 49 (by decide))
  have t72 : sy_dv F' (.inr (.inl 72)) = .int ((sy_ai F 49).getD (sy_i F 71).toNatClampNeg 0) := hd_rd (hs 0 _ rfl) b71 a49
  have b70 := hd_b (F := F) (F' := F') (k := 70) (hF 70 (by decide))
  have t73 : sy_dv F' (.inr (.inl 73)) = .int ((sy_i F 70) + (((-1) : Int32))) := hd_o (hs 1 _ rfl) b70 rfl rfl
  have t74 : sy_dv F' (.inr (.inl 74)) = .int (((sy_i F 70) + (((-1) : Int32))) - ((1 : Int32))) := hd_o (hs 2 _ rfl) t73 rfl rfl
  have a53 := hd_ba (F := F) (F' := F') (k := 53) (hF 53 (by decide))
  have t76 : sy_dv F' (.inr (.inl 76)) = .int ((sy_ai F 53).getD ((sy_i F 70) + (((-1) : Int32))).toNatClampNeg 0) := hd_rd (hs 4 _ rfl) t73 a53
  have t77 : sy_dv F' (.inr (.inl 77)) = .int (((sy_i F 70) + (((-1) : Int32))) - ((1 : Int32))) := hd_o (hs 5 _ rfl) t73 rfl rfl
  have t75 : sy_dv F' (.inr (.inl 75)) = .int ((sy_ai F 53).getD (((sy_i F 70) + (((-1) : Int32))) - ((1 : Int32))).toNatClampNeg 0) := hd_rd (hs 3 _ rfl) t74 a53
  have t78 : sy_dv F' (.inr (.inl 78)) = .int (((sy_ai F 53).getD (((sy_i F 70) + (((-1) : Int32))) - ((1 : Int32))).toNatClampNeg 0) / ((sy_ai F 53).getD ((sy_i F 70) + (((-1) : Int32))).toNatClampNeg 0)) := hd_o (hs 6 _ rfl) t75 t76 rfl
  have t79 : sy_da F' (.inr (.inl 79)) = .inl (jm_upd (sy_ai F 53) (((sy_i F 70) + (((-1) : Int32))) - ((1 : Int32))).toNatClampNeg (((sy_ai F 53).getD (((sy_i F 70) + (((-1) : Int32))) - ((1 : Int32))).toNatClampNeg 0) / ((sy_ai F 53).getD ((sy_i F 70) + (((-1) : Int32))).toNatClampNeg 0))) := hd_up (hs 7 _ rfl) t77 t78 a53
  have t80 : sy_dv F' (.inr (.inl 80)) = .int ((sy_i F 71) + ((1 : Int32))) := hd_o (hs 8 _ rfl) b71 rfl rfl
  have hB' : iv_in F' iv_B4 := iv_in_eq hB (fun j hj => hF j (Nat.lt_of_lt_of_le hj (by decide +kernel)))
  refine ⟨List.forall_mem_cons.mpr ⟨hd_p5 b69 b71 h0, List.forall_mem_cons.mpr ⟨hd_pb b71 (by first | exact h1 | exact h1), List.forall_mem_cons.mpr ⟨hd_p4 rfl t72 (by have hc : ((2) : Int32).toInt = 2 := (by decide); omega), List.forall_mem_cons.mpr ⟨hd_pb t74 (by first | exact h3 | exact h3), List.forall_mem_cons.mpr ⟨hd_pb t73 (by first | exact h4 | exact h4), List.forall_mem_cons.mpr ⟨hd_p0 t72 rfl (by have hc : ((5) : Int32).toInt = 5 := (by decide); omega), List.forall_mem_cons.mpr ⟨hd_p1 t76 rfl (by have hc : ((0) : Int32).toInt = 0 := (by decide); omega), List.forall_mem_cons.mpr ⟨hd_p1 t72 rfl (by have hc : ((2) : Int32).toInt = 2 := (by decide); omega), List.forall_mem_cons.mpr ⟨hd_p1 t72 rfl (by have hc : ((3) : Int32).toInt = 3 := (by decide); omega), List.forall_mem_cons.mpr ⟨hd_p1 t72 rfl (by have hc : ((4) : Int32).toInt = 4 := (by decide); omega), List.forall_mem_cons.mpr ⟨hd_p1 t76 rfl (by have hc : ((0) : Int32).toInt = 0 := (by decide); omega), List.forall_mem_cons.mpr ⟨hd_pb t77 (by first | exact h11 | exact h11), fun _ h => absurd h List.not_mem_nil⟩⟩⟩⟩⟩⟩⟩⟩⟩⟩⟩⟩, ?_⟩
  refine k _ ?_ ?_ ?_ ?_ ?_
  · exact fun j hj hn => (hd_keep hB' (Nat.lt_of_lt_of_le hj (by decide +kernel)) (by simp; omega)).trans (hF j (Nat.lt_of_lt_of_le hj (by decide)))
  · exact hd_ga (a := .inr (.inl 79)) (by decide +kernel) t79
  · exact hd_gi (x := .inr (.inl 69)) (by decide +kernel) b69
  · exact hd_gi (x := .inr (.inl 73)) (by decide +kernel) t73
  · exact hd_gi (x := .inr (.inl 80)) (by decide +kernel) t80
theorem te_5_5 {Ls : Nat} {xs : Nat → Int32} {d : Nat} {Q : Option Value → jm_h → Prop} (hd : 1 ≤ d) (F : Nat → sy_d) (X1 X2 : List jm_c) (hB : iv_in F iv_B4)
    (h0 : (sy_i F 71).toInt < (sy_i F 69).toInt)
    (h1 : 0 ≤ (sy_i F 71).toInt ∧ (sy_i F 71).toInt < 840)
    (h2 : 2 ≤ ((sy_ai F 49).getD (sy_i F 71).toNatClampNeg 0).toInt)
    (h3 : 0 ≤ (((sy_i F 70) + (((-1) : Int32))) - ((1 : Int32))).toInt ∧ (((sy_i F 70) + (((-1) : Int32))) - ((1 : Int32))).toInt < 400)
    (h4 : 0 ≤ ((sy_i F 70) + (((-1) : Int32))).toInt ∧ ((sy_i F 70) + (((-1) : Int32))).toInt < 400)
    (h5 : ((sy_ai F 49).getD (sy_i F 71).toNatClampNeg 0).toInt = 5)
    (h6 : ((sy_ai F 53).getD ((sy_i F 70) + (((-1) : Int32))).toNatClampNeg 0).toInt = 0)
    (k : ∀ F1 : Nat → sy_d, (∀ j, j < 69 → j ≠ 17 → F1 j = F j) → F1 17 = .inl (.int ((1 : Int32))) → Q (some (.int ((0 : Int32)))) (sy_dh F1 X1 X2 (iv_H 4))) :
    hd_W Ls xs d jm_M166 Q (5, sy_dL F [some (.inl (.ref 1000)), none, some (.inr (.inl 69)), some (.inr (.inl 70)), some (.inr (.inl 71)), none, none, none], sy_dS F [], sy_dh F X1 X2 (iv_H 4), 0, 0) := by
  refine hd_ret (s := 4) (nv := 72) (v := some (.inl (.int 0))) (uh := hd_ov (iv_id 0 iv_B4) [(17, .inl (.inl (.int 1)))]) (f := true) (sp := [5]) (d0 := 0) (O := [false, true, false, false]) (T := [(30, [.inr (.inl 71)], [.inr (.inl 49)]), (0, [.inr (.inl 70), .inl (.int (-1))], []), (1, [.inr (.inl 73), .inl (.int 1)], []), (30, [.inr (.inl 74)], [.inr (.inl 53)]), (30, [.inr (.inl 73)], [.inr (.inl 53)])]) (P := [(5, .inr (.inl 69), .inr (.inl 71)), (6, .inr (.inl 71), .inl (.ref 840)), (4, .inl (.int 2), .inr (.inl 72)), (6, .inr (.inl 74), .inl (.ref 400)), (6, .inr (.inl 73), .inl (.ref 400)), (0, .inr (.inl 72), .inl (.int 5)), (0, .inr (.inl 76), .inl (.int 0))]) jm_ok166 (by decide +kernel) (by decide +kernel) hd F X1 X2 (fun F' hF hs => ?_)
  have b69 := hd_b (F := F) (F' := F') (k := 69) (hF 69 (by decide))
  have b71 := hd_b (F := F) (F' := F') (k := 71) (hF 71 (by decide))
  have a49 := hd_ba (F := F) (F' := F') (k := 49) (hF 49 (by decide))
  have t72 : sy_dv F' (.inr (.inl 72)) = .int ((sy_ai F 49).getD (sy_i F 71).toNatClampNeg 0) := hd_rd (hs 0 _ rfl) b71 a49
  have b70 := hd_b (F := F) (F' := F') (k := 70) (hF 70 (by decide))
  have t73 : sy_dv F' (.inr (.inl 73)) = .int ((sy_i F 70) + (((-1) : Int32))) := hd_o (hs 1 _ rfl) b70 rfl rfl
  have t74 : sy_dv F' (.inr (.inl 74)) = .int (((sy_i F 70) + (((-1) : Int32))) - ((1 : Int32))) := hd_o (hs 2 _ rfl) t73 rfl rfl
  have a53 := hd_ba (F := F) (F' := F') (k := 53) (hF 53 (by decide))
  have t76 : sy_dv F' (.inr (.inl 76)) = .int ((sy_ai F 53).getD ((sy_i F 70) + (((-1) : Int32))).toNatClampNeg 0) := hd_rd (hs 4 _ rfl) t73 a53
  have hB' : iv_in F' iv_B4 := iv_in_eq hB (fun j hj => hF j (Nat.lt_of_lt_of_le hj (by decide +kernel)))
  refine ⟨List.forall_mem_cons.mpr ⟨hd_p5 b69 b71 h0, List.forall_mem_cons.mpr ⟨hd_pb b71 (by first | exact h1 | exact h1), List.forall_mem_cons.mpr ⟨hd_p4 rfl t72 (by have hc : ((2) : Int32).toInt = 2 := (by decide); omega), List.forall_mem_cons.mpr ⟨hd_pb t74 (by first | exact h3 | exact h3), List.forall_mem_cons.mpr ⟨hd_pb t73 (by first | exact h4 | exact h4), List.forall_mem_cons.mpr ⟨hd_p0 t72 rfl (by have hc : ((5) : Int32).toInt = 5 := (by decide); omega), List.forall_mem_cons.mpr ⟨hd_p0 t76 rfl (by have hc : ((0) : Int32).toInt = 0 := (by decide); omega), fun _ h => absurd h List.not_mem_nil⟩⟩⟩⟩⟩⟩⟩, ?_⟩
  refine k _ ?_ ?_
  · exact fun j hj hn => (hd_keep hB' (Nat.lt_of_lt_of_le hj (by decide +kernel)) (by simp; omega)).trans (hF j (Nat.lt_of_lt_of_le hj (by decide)))
  · exact hd_gi (x := .inl (.int 1)) (by decide +kernel) rfl
theorem te_5_6 {Ls : Nat} {xs : Nat → Int32} {d : Nat} {Q : Option Value → jm_h → Prop} (hd : 1 ≤ d) (F : Nat → sy_d) (X1 X2 : List jm_c) (hB : iv_in F iv_B4)
    (h0 : (sy_i F 71).toInt < (sy_i F 69).toInt)
    (h1 : 0 ≤ (sy_i F 71).toInt ∧ (sy_i F 71).toInt < 840)
    (h2 : ((sy_ai F 49).getD (sy_i F 71).toNatClampNeg 0).toInt < 2)
    (h3 : ((sy_ai F 49).getD (sy_i F 71).toNatClampNeg 0).toInt ≠ 0)
    (h4 : 0 ≤ (sy_i F 71).toInt ∧ (sy_i F 71).toInt < 840)
    (h5 : 0 ≤ ((sy_ai F 50).getD (sy_i F 71).toNatClampNeg 0).toInt ∧ ((sy_ai F 50).getD (sy_i F 71).toNatClampNeg 0).toInt < 9)
    (h6 : 0 ≤ (sy_i F 70).toInt ∧ (sy_i F 70).toInt < 400)
    (k : ∀ F1 : Nat → sy_d, (∀ j, j < 69 → j ≠ 53 → F1 j = F j) → F1 53 = .inr (.inl (jm_upd (sy_ai F 53) (sy_i F 70).toNatClampNeg ((sy_ai F 52).getD ((sy_ai F 50).getD (sy_i F 71).toNatClampNeg 0).toNatClampNeg 0))) → F1 69 = .inl (.int (sy_i F 69)) → F1 70 = .inl (.int ((sy_i F 70) + ((1 : Int32)))) → F1 71 = .inl (.int ((sy_i F 71) + ((1 : Int32)))) → hd_W Ls xs d jm_M166 Q (5, sy_dL F1 [some (.inl (.ref 1000)), none, some (.inr (.inl 69)), some (.inr (.inl 70)), some (.inr (.inl 71)), none, none, none], sy_dS F1 [], sy_dh F1 X1 X2 (iv_H 4), 0, 0)) :
    hd_W Ls xs d jm_M166 Q (5, sy_dL F [some (.inl (.ref 1000)), none, some (.inr (.inl 69)), some (.inr (.inl 70)), some (.inr (.inl 71)), none, none, none], sy_dS F [], sy_dh F X1 X2 (iv_H 4), 0, 0) := by
  refine hd_run (s := 4) (nv := 72) (pc := 5) (L := [some (.inl (.ref 1000)), none, some (.inr (.inl 69)), some (.inr (.inl 70)), some (.inr (.inl 71)), none, none, none]) (S := []) (uh := hd_ov (iv_id 0 iv_B4) [(53, .inr (.inr (.inl 75)))]) (ul := [.inl (.inr (.inl 69)), .inl (.inr (.inl 76)), .inl (.inr (.inl 77))]) (f := true) (sp := [5]) (d0 := 0) (O := [false, false, true]) (T := [(30, [.inr (.inl 71)], [.inr (.inl 49)]), (30, [.inr (.inl 71)], [.inr (.inl 50)]), (30, [.inr (.inl 73)], [.inr (.inl 52)]), (40, [.inr (.inl 70), .inr (.inl 74)], [.inr (.inl 53)]), (0, [.inr (.inl 70), .inl (.int 1)], []), (0, [.inr (.inl 71), .inl (.int 1)], [])]) (P := [(5, .inr (.inl 69), .inr (.inl 71)), (6, .inr (.inl 71), .inl (.ref 840)), (5, .inl (.int 2), .inr (.inl 72)), (1, .inr (.inl 72), .inl (.int 0)), (6, .inr (.inl 71), .inl (.ref 840)), (6, .inr (.inl 73), .inl (.ref 9)), (6, .inr (.inl 70), .inl (.ref 400))]) jm_ok166 (by decide +kernel) (by decide +kernel) hd F X1 X2 (fun F' hF hs => ?_)
  have b69 := hd_b (F := F) (F' := F') (k := 69) (hF 69 (by decide))
  have b71 := hd_b (F := F) (F' := F') (k := 71) (hF 71 (by decide))
  have a49 := hd_ba (F := F) (F' := F') (k := 49) (hF 49 (by decide))
  have t72 : sy_dv F' (.inr (.inl 72)) = .int ((sy_ai F 49).getD (sy_i F 71).toNatClampNeg 0) := hd_rd (hs 0 _ rfl) b71 a49
  have a50 := hd_ba (F := F) (F' := F') (k := 50) (hF 50 (by decide))
  have t73 : sy_dv F' (.inr (.inl 73)) = .int ((sy_ai F 50).getD (sy_i F 71).toNatClampNeg 0) := hd_rd (hs 1 _ rfl) b71 a50
  have b70 := hd_b (F := F) (F' := F') (k := 70) (hF 70 (by decide))
  have a52 := hd_ba (F := F) (F' := F') (k := 52) (hF 52 (by decide))
  have t74 : sy_dv F' (.inr (.inl 74)) = .int ((sy_ai F 52).getD ((sy_ai F 50).getD (sy_i F 71).toNatClampNeg 0).toNatClampNeg 0) := hd_rd (hs 2 _ rfl) t73 a52
  have a53 := hd_ba (F := F) (F' := F') (k := 53) (hF 53 (by decide))
  have t75 : sy_da F' (.inr (.inl 75)) = .inl (jm_upd (sy_ai F 53) (sy_i F 70).toNatClampNeg ((sy_ai F 52).getD ((sy_ai F 50).getD (sy_i F 71).toNatClampNeg 0).toNatClampNeg 0)) := hd_up (hs 3 _ rfl) b70 t74 a53
  have t76 : sy_dv F' (.inr (.inl 76)) = .int ((sy_i F 70) + ((1 : Int32))) := hd_o (hs 4 _ rfl) b70 rfl rfl
  have t77 : sy_dv F' (.inr (.inl 77)) = .int ((sy_i F 71) + ((1 : Int32))) := hd_o (hs 5 _ rfl) b71 rfl rfl
  have hB' : iv_in F' iv_B4 := iv_in_eq hB (fun j hj => hF j (Nat.lt_of_lt_of_le hj (by decide +kernel)))
  refine ⟨List.forall_mem_cons.mpr ⟨hd_p5 b69 b71 h0, List.forall_mem_cons.mpr ⟨hd_pb b71 (by first | exact h1 | exact h1), List.forall_mem_cons.mpr ⟨hd_p5 rfl t72 (by have hc : ((2) : Int32).toInt = 2 := (by decide); omega), List.forall_mem_cons.mpr ⟨hd_p1 t72 rfl (by have hc : ((0) : Int32).toInt = 0 := (by decide); omega), List.forall_mem_cons.mpr ⟨hd_pb b71 (by first | exact h4 | exact h4), List.forall_mem_cons.mpr ⟨hd_pb t73 (by first | exact h5 | exact h5), List.forall_mem_cons.mpr ⟨hd_pb b70 (by first | exact h6 | exact h6), fun _ h => absurd h List.not_mem_nil⟩⟩⟩⟩⟩⟩⟩, ?_⟩
  refine k _ ?_ ?_ ?_ ?_ ?_
  · exact fun j hj hn => (hd_keep hB' (Nat.lt_of_lt_of_le hj (by decide +kernel)) (by simp; omega)).trans (hF j (Nat.lt_of_lt_of_le hj (by decide)))
  · exact hd_ga (a := .inr (.inl 75)) (by decide +kernel) t75
  · exact hd_gi (x := .inr (.inl 69)) (by decide +kernel) b69
  · exact hd_gi (x := .inr (.inl 76)) (by decide +kernel) t76
  · exact hd_gi (x := .inr (.inl 77)) (by decide +kernel) t77
theorem te_5_7 {Ls : Nat} {xs : Nat → Int32} {d : Nat} {Q : Option Value → jm_h → Prop} (hd : 1 ≤ d) (F : Nat → sy_d) (X1 X2 : List jm_c) (hB : iv_in F iv_B4)
    (h0 : (sy_i F 71).toInt < (sy_i F 69).toInt)
    (h1 : 0 ≤ (sy_i F 71).toInt ∧ (sy_i F 71).toInt < 840)
    (h2 : ((sy_ai F 49).getD (sy_i F 71).toNatClampNeg 0).toInt < 2)
    (h3 : ((sy_ai F 49).getD (sy_i F 71).toNatClampNeg 0).toInt = 0)
    (h4 : 0 ≤ (sy_i F 71).toInt ∧ (sy_i F 71).toInt < 840)
    (h5 : 0 ≤ (sy_i F 70).toInt ∧ (sy_i F 70).toInt < 400)
    (k : ∀ F1 : Nat → sy_d, (∀ j, j < 69 → j ≠ 53 → F1 j = F j) → F1 53 = .inr (.inl (jm_upd (sy_ai F 53) (sy_i F 70).toNatClampNeg ((sy_ai F 50).getD (sy_i F 71).toNatClampNeg 0))) → F1 69 = .inl (.int (sy_i F 69)) → F1 70 = .inl (.int ((sy_i F 70) + ((1 : Int32)))) → F1 71 = .inl (.int ((sy_i F 71) + ((1 : Int32)))) → hd_W Ls xs d jm_M166 Q (5, sy_dL F1 [some (.inl (.ref 1000)), none, some (.inr (.inl 69)), some (.inr (.inl 70)), some (.inr (.inl 71)), none, none, none], sy_dS F1 [], sy_dh F1 X1 X2 (iv_H 4), 0, 0)) :
    hd_W Ls xs d jm_M166 Q (5, sy_dL F [some (.inl (.ref 1000)), none, some (.inr (.inl 69)), some (.inr (.inl 70)), some (.inr (.inl 71)), none, none, none], sy_dS F [], sy_dh F X1 X2 (iv_H 4), 0, 0) := by
  refine hd_run (s := 4) (nv := 72) (pc := 5) (L := [some (.inl (.ref 1000)), none, some (.inr (.inl 69)), some (.inr (.inl 70)), some (.inr (.inl 71)), none, none, none]) (S := []) (uh := hd_ov (iv_id 0 iv_B4) [(53, .inr (.inr (.inl 74)))]) (ul := [.inl (.inr (.inl 69)), .inl (.inr (.inl 75)), .inl (.inr (.inl 76))]) (f := true) (sp := [5]) (d0 := 0) (O := [false, false, false]) (T := [(30, [.inr (.inl 71)], [.inr (.inl 49)]), (30, [.inr (.inl 71)], [.inr (.inl 50)]), (40, [.inr (.inl 70), .inr (.inl 73)], [.inr (.inl 53)]), (0, [.inr (.inl 70), .inl (.int 1)], []), (0, [.inr (.inl 71), .inl (.int 1)], [])]) (P := [(5, .inr (.inl 69), .inr (.inl 71)), (6, .inr (.inl 71), .inl (.ref 840)), (5, .inl (.int 2), .inr (.inl 72)), (0, .inr (.inl 72), .inl (.int 0)), (6, .inr (.inl 71), .inl (.ref 840)), (6, .inr (.inl 70), .inl (.ref 400))]) jm_ok166 (by decide +kernel) (by decide +kernel) hd F X1 X2 (fun F' hF hs => ?_)
  have b69 := hd_b (F := F) (F' := F') (k := 69) (hF 69 (by decide))
  have b71 := hd_b (F := F) (F' := F') (k := 71) (hF 71 (by decide))
  have a49 := hd_ba (F := F) (F' := F') (k := 49) (hF 49 (by decide))
  have t72 : sy_dv F' (.inr (.inl 72)) = .int ((sy_ai F 49).getD (sy_i F 71).toNatClampNeg 0) := hd_rd (hs 0 _ rfl) b71 a49
  have b70 := hd_b (F := F) (F' := F') (k := 70) (hF 70 (by decide))
  have a50 := hd_ba (F := F) (F' := F') (k := 50) (hF 50 (by decide))
  have t73 : sy_dv F' (.inr (.inl 73)) = .int ((sy_ai F 50).getD (sy_i F 71).toNatClampNeg 0) := hd_rd (hs 1 _ rfl) b71 a50
  have a53 := hd_ba (F := F) (F' := F') (k := 53) (hF 53 (by decide))
  have t74 : sy_da F' (.inr (.inl 74)) = .inl (jm_upd (sy_ai F 53) (sy_i F 70).toNatClampNeg ((sy_ai F 50).getD (sy_i F 71).toNatClampNeg 0)) := hd_up (hs 2 _ rfl) b70 t73 a53
  have t75 : sy_dv F' (.inr (.inl 75)) = .int ((sy_i F 70) + ((1 : Int32))) := hd_o (hs 3 _ rfl) b70 rfl rfl
  have t76 : sy_dv F' (.inr (.inl 76)) = .int ((sy_i F 71) + ((1 : Int32))) := hd_o (hs 4 _ rfl) b71 rfl rfl
  have hB' : iv_in F' iv_B4 := iv_in_eq hB (fun j hj => hF j (Nat.lt_of_lt_of_le hj (by decide +kernel)))
  refine ⟨List.forall_mem_cons.mpr ⟨hd_p5 b69 b71 h0, List.forall_mem_cons.mpr ⟨hd_pb b71 (by first | exact h1 | exact h1), List.forall_mem_cons.mpr ⟨hd_p5 rfl t72 (by have hc : ((2) : Int32).toInt = 2 := (by decide); omega), List.forall_mem_cons.mpr ⟨hd_p0 t72 rfl (by have hc : ((0) : Int32).toInt = 0 := (by decide); omega), List.forall_mem_cons.mpr ⟨hd_pb b71 (by first | exact h4 | exact h4), List.forall_mem_cons.mpr ⟨hd_pb b70 (by first | exact h5 | exact h5), fun _ h => absurd h List.not_mem_nil⟩⟩⟩⟩⟩⟩, ?_⟩
  refine k _ ?_ ?_ ?_ ?_ ?_
  · exact fun j hj hn => (hd_keep hB' (Nat.lt_of_lt_of_le hj (by decide +kernel)) (by simp; omega)).trans (hF j (Nat.lt_of_lt_of_le hj (by decide)))
  · exact hd_ga (a := .inr (.inl 74)) (by decide +kernel) t74
  · exact hd_gi (x := .inr (.inl 69)) (by decide +kernel) b69
  · exact hd_gi (x := .inr (.inl 75)) (by decide +kernel) t75
  · exact hd_gi (x := .inr (.inl 76)) (by decide +kernel) t76
end
section
/-! ===== the reference: a term of a law ===== -/
theorem hd_sub1 {X : Int32} (h : 1 ≤ X.toInt) : (X + (-1 : Int32)).toInt = X.toInt - 1 := by
  have e : (-1 : Int32).toInt = -1 := by decide
  have h2 := iv_full X
  rw [Jvm.Kit.i32_add (by rw [e]; omega) (by rw [e]; omega), e]
  omega
theorem hd_dec1 {X : Int32} (h : 1 ≤ X.toInt) : (X - (1 : Int32)).toInt = X.toInt - 1 := by
  have e : (1 : Int32).toInt = 1 := by decide
  have h2 := iv_full X
  rw [Jvm.Kit.i32_sub (by rw [e]; omega) (by rw [e]; omega), e]
theorem hd_inc1 {X : Int32} (h : 0 ≤ X.toInt) (h1 : X.toInt ≤ 1000000) : (X + (1 : Int32)).toInt = X.toInt + 1 := by
  have e : (1 : Int32).toInt = 1 := by decide
  rw [Jvm.Kit.i32_add (by rw [e]; omega) (by rw [e]; omega), e]
theorem hd_ny {X : Int32} {n : Nat} (h : X.toInt = n) : X.toNatClampNeg = n := by
  have : X.toNatClampNeg = X.toInt.toNat := rfl
  rw [this, h]
  omega
def te_Q (F : Nat → sy_d) (X1 X2 : List jm_c) : Option Value → jm_h → Prop := fun v G => ∃ (x : Int32) (F' : Nat → sy_d), v = some (.int x) ∧ G = sy_dh F' X1 X2 (iv_H 4) ∧ (iv_in F' iv_B4 ∧ ∀ j, j < 69 → j ≠ 17 → j ≠ 53 → F' j = F j)
theorem te_pile {F F1 : Nat → sy_d} {l : List Int32} (hB : iv_in F iv_B4) (g1 : ∀ j, j < 69 → j ≠ 53 → F1 j = F j) (g2 : F1 53 = .inr (.inl l)) : iv_in F1 iv_B4 := hd_in1 hB (fun j t hj => by
  by_cases h : j = 53
  · subst h
    right
    have ht : t = iz2 := (Option.some.inj hj).symm
    rw [g2, ht]
    exact ⟨rfl, fun j => iv_full _⟩
  · exact Or.inl (g1 j (List.getElem?_eq_some_iff.mp hj).1 h))
theorem te_brk {F F1 : Nat → sy_d} (hB : iv_in F iv_B4) (g1 : ∀ j, j < 69 → j ≠ 17 → F1 j = F j) (g2 : F1 17 = .inl (.int 1)) : iv_in F1 iv_B4 := hd_in1 hB (fun j t hj => by
  by_cases h : j = 17
  · subst h
    right
    have ht : t = (0, 0, 1) := (Option.some.inj hj).symm
    rw [g2, ht]
    exact ⟨rfl, by decide, by decide⟩
  · exact Or.inl (g1 j (List.getElem?_eq_some_iff.mp hj).1 h))
theorem te_i0 {X Y Z : Int32} {n : Nat} (h1 : Y.toInt = X.toInt - 1) (h2 : Z.toInt = Y.toInt - 1) (h : 2 ≤ X.toInt) (h3 : X.toInt + ((n + 1 : Nat) : Int) ≤ 400) : (0 ≤ Z.toInt ∧ Z.toInt < 400) ∧ (0 ≤ Y.toInt ∧ Y.toInt < 400) ∧ Y.toNatClampNeg = X.toNatClampNeg - 1 ∧ Y.toInt + n ≤ 400 := by
  have a : X.toNatClampNeg = X.toInt.toNat := rfl
  have b : Y.toNatClampNeg = Y.toInt.toNat := rfl
  rw [a, b]
  omega
theorem te_i {X : Int32} {n : Nat} (h : 2 ≤ X.toInt) (h3 : X.toInt + ((n + 1 : Nat) : Int) ≤ 400) : (0 ≤ (X + (-1 : Int32) - (1 : Int32)).toInt ∧ (X + (-1 : Int32) - (1 : Int32)).toInt < 400) ∧ (0 ≤ (X + (-1 : Int32)).toInt ∧ (X + (-1 : Int32)).toInt < 400) ∧ (X + (-1 : Int32)).toNatClampNeg = X.toNatClampNeg - 1 ∧ (X + (-1 : Int32)).toInt + n ≤ 400 := by
  have d1 := hd_sub1 (X := X) (Int.le_trans (by decide) h)
  have d2 := hd_dec1 (X := X + (-1 : Int32)) (by rw [d1]; exact Int.le_sub_right_of_add_le h)
  exact te_i0 d1 d2 h h3
set_option maxHeartbeats 4000000 in
theorem te_loop {Ls : Nat} {xs : Nat → Int32} (F : Nat → sy_d) (X1 X2 : List jm_c) : ∀ (n : Nat) (F1 : Nat → sy_d), iv_in F1 iv_B4 → (∀ j, j < 69 → j ≠ 17 → j ≠ 53 → F1 j = F j) → ((sy_i F1 69).toInt - (sy_i F1 71).toInt).toNat = n → rp_go (sy_ai F 49) (sy_ai F 50) n (sy_i F1 71).toNatClampNeg (sy_i F1 70).toNatClampNeg → 0 ≤ (sy_i F1 70).toInt → (sy_i F1 70).toInt + n ≤ 400 → 0 ≤ (sy_i F1 71).toInt → (sy_i F1 69).toInt ≤ 840 →
    hd_W Ls xs 1 jm_M166 (te_Q F X1 X2) (5, sy_dL F1 [some (.inl (.ref 1000)), none, some (.inr (.inl 69)), some (.inr (.inl 70)), some (.inr (.inl 71)), none, none, none], sy_dS F1 [], sy_dh F1 X1 X2 (iv_H 4), 0, 0) := by
  intro n
  induction n with
  | zero =>
    intro F1 hB hf hn _ _ _ _ _
    exact te_5_0 (Nat.le_refl _) F1 X1 X2 hB (by omega) (fun F2 g1 => ⟨_, F2, rfl, rfl, hd_in1 hB (fun j t hj => Or.inl (g1 j (List.getElem?_eq_some_iff.mp hj).1 trivial)), fun j hj h1 h2 => by rw [g1 j hj trivial, hf j hj h1 h2]⟩)
  | succ n ih =>
    intro F1 hB hf hn hr ht0 ht1 hc0 hto
    have hlt : (sy_i F1 71).toInt < (sy_i F1 69).toInt := by omega
    have e49 : sy_ai F1 49 = sy_ai F 49 := by unfold sy_ai; rw [hf 49 (by decide) (by decide) (by decide)]
    have e50 : sy_ai F1 50 = sy_ai F 50 := by unfold sy_ai; rw [hf 50 (by decide) (by decide) (by decide)]
    obtain ⟨cl, hcl, hcb⟩ := iv_h2 (hB 49 (2, 0, 5) rfl)
    have hk := hcb (sy_i F1 71).toNatClampNeg
    rw [← zz_ai hcl] at hk
    obtain ⟨r1, r2⟩ := hr
    rw [← e49, ← e50] at r1
    rw [← e49] at r2
    have htN := hd_nat ht0
    have hcN := hd_nat hc0
    have inc := hd_inc1 hc0 (by omega)
    -- from a place on
    have go : ∀ F2 : Nat → sy_d, iv_in F2 iv_B4 → (∀ j, j < 69 → j ≠ 53 → F2 j = F1 j) → F2 69 = .inl (.int (sy_i F1 69)) → F2 71 = .inl (.int (sy_i F1 71 + (1 : Int32))) → ∀ tp : Int32, F2 70 = .inl (.int tp) → rp_go (sy_ai F 49) (sy_ai F 50) n ((sy_i F1 71).toNatClampNeg + 1) tp.toNatClampNeg → 0 ≤ tp.toInt → tp.toInt + n ≤ 400 →
        hd_W Ls xs 1 jm_M166 (te_Q F X1 X2) (5, sy_dL F2 [some (.inl (.ref 1000)), none, some (.inr (.inl 69)), some (.inr (.inl 70)), some (.inr (.inl 71)), none, none, none], sy_dS F2 [], sy_dh F2 X1 X2 (iv_H 4), 0, 0) := by
      intro F2 b1 b2 b3 b4 tp b5 b6 b7 b8
      have q3 := zz_i b3
      have q4 := zz_i b4
      have q5 := zz_i b5
      refine ih F2 b1 (fun j hj h1 h2 => by rw [b2 j hj h2, hf j hj h1 h2]) ?_ ?_ ?_ ?_ ?_ ?_
      · rw [q3, q4, inc]; omega
      · rw [q4, q5, hd_ny (n := (sy_i F1 71).toNatClampNeg + 1) (by rw [inc]; omega)]; exact b6
      · rw [q5]; exact b7
      · rw [q5]; exact b8
      · rw [q4, inc]; omega
      · rw [q3]; exact hto
    by_cases hk2 : ((sy_ai F1 49).getD (sy_i F1 71).toNatClampNeg 0).toInt < 2
    · obtain ⟨s1, s2⟩ := r1 hk2
      rw [e49, e50] at s2
      have tinc := hd_inc1 ht0 (by omega)
      have s3 : rp_go (sy_ai F 49) (sy_ai F 50) n ((sy_i F1 71).toNatClampNeg + 1) (sy_i F1 70 + (1 : Int32)).toNatClampNeg := by
        rw [hd_ny (X := sy_i F1 70 + (1 : Int32)) (n := (sy_i F1 70).toNatClampNeg + 1) (by rw [tinc]; omega)]
        exact s2
      by_cases hk0 : ((sy_ai F1 49).getD (sy_i F1 71).toNatClampNeg 0).toInt = 0
      · refine te_5_7 (Nat.le_refl _) F1 X1 X2 hB hlt ⟨hc0, by omega⟩ hk2 hk0 ⟨hc0, by omega⟩ ⟨ht0, by omega⟩ (fun F2 g1 g2 g3 g4 g5 => ?_)
        exact go F2 (te_pile hB g1 g2) g1 g3 g5 _ g4 s3 (by rw [tinc]; omega) (by rw [tinc]; omega)
      · have h8 := s1 (by omega)
        refine te_5_6 (Nat.le_refl _) F1 X1 X2 hB hlt ⟨hc0, by omega⟩ hk2 hk0 ⟨hc0, by omega⟩ ⟨h8.1, by omega⟩ ⟨ht0, by omega⟩ (fun F2 g1 g2 g3 g4 g5 => ?_)
        exact go F2 (te_pile hB g1 g2) g1 g3 g5 _ g4 s3 (by rw [tinc]; omega) (by rw [tinc]; omega)
    · have hk2 : 2 ≤ ((sy_ai F1 49).getD (sy_i F1 71).toNatClampNeg 0).toInt := by omega
      obtain ⟨s1, s2⟩ := r2 hk2
      rw [e49] at s2
      have hcc : 0 ≤ (sy_i F1 71).toInt ∧ (sy_i F1 71).toInt < 840 := ⟨hc0, by omega⟩
      have h4 : ((sy_ai F1 49).getD (sy_i F1 71).toNatClampNeg 0).toInt ≠ 5 → ((sy_ai F1 49).getD (sy_i F1 71).toNatClampNeg 0).toInt ≠ 2 → ((sy_ai F1 49).getD (sy_i F1 71).toNatClampNeg 0).toInt ≠ 3 → ((sy_ai F1 49).getD (sy_i F1 71).toNatClampNeg 0).toInt = 4 := by
        intro a b c
        omega
      obtain ⟨i1, i2, d3, d4⟩ := te_i (X := sy_i F1 70) (n := n) (by omega) (by omega)
      rw [← d3] at s2
      have fin : ∀ F2 : Nat → sy_d, (∀ j, j < 69 → j ≠ 53 → F2 j = F1 j) → ∀ l : List Int32, F2 53 = .inr (.inl l) → F2 69 = .inl (.int (sy_i F1 69)) → F2 70 = .inl (.int (sy_i F1 70 + (-1 : Int32))) → F2 71 = .inl (.int (sy_i F1 71 + (1 : Int32))) → hd_W Ls xs 1 jm_M166 (te_Q F X1 X2) (5, sy_dL F2 [some (.inl (.ref 1000)), none, some (.inr (.inl 69)), some (.inr (.inl 70)), some (.inr (.inl 71)), none, none, none], sy_dS F2 [], sy_dh F2 X1 X2 (iv_H 4), 0, 0) := fun F2 g1 l g2 g3 g4 g5 => go F2 (te_pile hB g1 g2) g1 g3 g5 _ g4 s2 i2.1 d4
      by_cases h5 : ((sy_ai F1 49).getD (sy_i F1 71).toNatClampNeg 0).toInt = 5
      · by_cases h0 : ((sy_ai F1 53).getD (sy_i F1 70 + (-1 : Int32)).toNatClampNeg 0).toInt = 0
        · refine te_5_5 (Nat.le_refl _) F1 X1 X2 hB hlt hcc hk2 i1 i2 h5 h0 (fun F2 g1 g2 => ⟨_, F2, rfl, rfl, te_brk hB g1 g2, fun j hj h1 h2 => by rw [g1 j hj h1, hf j hj h1 h2]⟩)
        · exact te_5_4 (Nat.le_refl _) F1 X1 X2 hB hlt hcc hk2 i1 i2 h5 h0 (by rw [h5]; decide) (by rw [h5]; decide) (by rw [h5]; decide) h0 i1 (fun F2 g1 g2 g3 g4 g5 => fin F2 g1 _ g2 g3 g4 g5)
      · by_cases h2 : ((sy_ai F1 49).getD (sy_i F1 71).toNatClampNeg 0).toInt = 2
        · exact te_5_3 (Nat.le_refl _) F1 X1 X2 hB hlt hcc hk2 i1 i2 h5 h2 i1 (fun F2 g1 g2 g3 g4 g5 => fin F2 g1 _ g2 g3 g4 g5)
        · by_cases h3 : ((sy_ai F1 49).getD (sy_i F1 71).toNatClampNeg 0).toInt = 3
          · exact te_5_2 (Nat.le_refl _) F1 X1 X2 hB hlt hcc hk2 i1 i2 h5 h2 h3 i1 (fun F2 g1 g2 g3 g4 g5 => fin F2 g1 _ g2 g3 g4 g5)
          · exact te_5_1 (Nat.le_refl _) F1 X1 X2 hB hlt hcc hk2 i1 i2 h5 h2 h3 (h4 h5 h2 h3) i1 (fun F2 g1 g2 g3 g4 g5 => fin F2 g1 _ g2 g3 g4 g5)
/-- a term of a law, from code that never takes from an empty pile -/
theorem te_T {Ls : Nat} {xs : Nat → Int32} (F : Nat → sy_d) (X1 X2 : List jm_c) (hB : iv_in F iv_B4) {x y : sy_v} {X Y : Int32} (hx : sy_dv F x = .int X) (hy : sy_dv F y = .int Y) (h0 : 0 ≤ X.toInt) (h1 : Y.toInt ≤ 840) (hs : rp_seg (sy_ai F 49) (sy_ai F 50) X Y) :
    jm_T Ls xs 1 jm_M166 ([.inl (.ref 1000), x, y].map (sy_dv F)) (sy_dh F X1 X2 (iv_H 4)) 0 0 (te_Q F X1 X2) := by
  obtain ⟨F0, hF0⟩ : ∃ F0 : Nat → sy_d, F0 = fun j => if j = 69 then .inl (.int X) else if j = 70 then .inl (.int Y) else F j := ⟨_, rfl⟩
  have k0 : ∀ j, j < 69 → F0 j = F j := fun j hj => by
    rw [hF0]
    dsimp only
    rw [if_neg (by omega), if_neg (by omega)]
  have k1 : F0 69 = .inl (.int X) := by rw [hF0]; rfl
  have k2 : F0 70 = .inl (.int Y) := by rw [hF0]; rfl
  have hB0 : iv_in F0 iv_B4 := iv_in_eq hB (fun j hj => k0 j hj)
  have eA : ([.inl (.ref 1000), x, y] : List sy_v).map (sy_dv F) = ([.inl (.ref 1000), .inr (.inl 69), .inr (.inl 70)] : List sy_v).map (sy_dv F0) := by
    show [Value.ref 1000, sy_dv F x, sy_dv F y] = [Value.ref 1000, .int (sy_i F0 69), .int (sy_i F0 70)]
    rw [hx, hy, zz_i k1, zz_i k2]
  have eH : sy_dh F X1 X2 (iv_H 4) = sy_dh F0 X1 X2 (iv_H 4) := by
    have g1 : sy_gw 69 (iv_H 4).1 = true := by decide +kernel
    have g2 : sy_gw 69 (iv_H 4).2 = true := by decide +kernel
    simp only [sy_dh, sy_gw_ok g1 k0, sy_gw_ok g2 k0]
  rw [eA, eH]
  refine hd_T (As := [.inl (.ref 1000), .inr (.inl 69), .inr (.inl 70)]) jm_ok166 (by decide) (te_0_0 (Nat.le_refl _) F0 X1 X2 hB0 (fun F1 g1 g2 g3 g4 => ?_))
  have q2 := zz_i g2
  have q3 := zz_i g3
  have q4 := zz_i g4
  rw [zz_i k2] at q2
  rw [zz_i k1] at q4
  have z : (0 : Int32).toInt = 0 := by decide
  have zn : (0 : Int32).toNatClampNeg = 0 := by decide
  refine te_loop F X1 X2 ((Y.toInt - X.toInt).toNat) F1 (hd_in1 hB0 (fun j t hj => Or.inl (g1 j (List.getElem?_eq_some_iff.mp hj).1 trivial))) (fun j hj _ _ => by rw [g1 j hj trivial, k0 j hj]) ?_ ?_ ?_ ?_ ?_ ?_
  · rw [q2, q4]
  · rw [q3, q4, zn, show X.toNatClampNeg = X.toInt.toNat from rfl]; exact hs.2
  · rw [q3, z]; exact Int.le_refl _
  · rw [q3, z]; have := hs.1; omega
  · rw [q4]; exact h0
  · rw [q2]; exact h1
end
section
/-! ===== the reference: what a law tells, way by way ===== -/
theorem lt_0_0 {Ls : Nat} {xs : Nat → Int32} {d : Nat} {Q : Option Value → jm_h → Prop} (hd : 1 ≤ d) (F : Nat → sy_d) (X1 X2 : List jm_c) (hB : iv_in F iv_B4)
    (h0 : 0 ≤ (sy_i F 69).toInt ∧ (sy_i F 69).toInt < 12)
    (k : ∀ F1 : Nat → sy_d, (∀ j, j < 69 → j ≠ 17 → F1 j = F j) → F1 17 = .inl (.int ((0 : Int32))) → F1 69 = .inl (.int (sy_i F 69)) → F1 70 = .inl (.int ((sy_ai F 42).getD (sy_i F 69).toNatClampNeg 0)) → hd_W Ls xs d jm_M180 Q (12, sy_dL F1 [some (.inl (.ref 1000)), some (.inr (.inl 69)), some (.inr (.inl 70)), none, none], sy_dS F1 [], sy_dh F1 X1 X2 (iv_H 4), 0, 0)) :
    hd_W Ls xs d jm_M180 Q (0, sy_dL F [some (.inl (.ref 1000)), some (.inr (.inl 69)), none, none, none], sy_dS F [], sy_dh F X1 X2 (iv_H 4), 0, 0) := by
  refine hd_run (s := 4) (nv := 70) (pc := 12) (L := [some (.inl (.ref 1000)), some (.inr (.inl 69)), some (.inr (.inl 70)), none, none]) (S := []) (uh := hd_ov (iv_id 0 iv_B4) [(17, .inl (.inl (.int 0)))]) (ul := [.inl (.inr (.inl 69)), .inl (.inr (.inl 70))]) (f := true) (sp := [12, 44, 61, 97]) (d0 := 0) (O := []) (T := [(30, [.inr (.inl 69)], [.inr (.inl 42)])]) (P := [(6, .inr (.inl 69), .inl (.ref 12))]) jm_ok180 (by decide +kernel) (by decide +kernel) hd F X1 X2 (fun F' hF hs => ?_)
  have b69 := hd_b (F := F) (F' := F') (k := 69) (hF 69 (by decide))
  have a42 := hd_ba (F := F) (F' := F') (k := 42) (hF 42 (by decide))
  have t70 : sy_dv F' (.inr (.inl 70)) = .int ((sy_ai F 42).getD (sy_i F 69).toNatClampNeg 0) := hd_rd (hs 0 _ rfl) b69 a42
  have hB' : iv_in F' iv_B4 := iv_in_eq hB (fun j hj => hF j (Nat.lt_of_lt_of_le hj (by decide +kernel)))
  refine ⟨List.forall_mem_cons.mpr ⟨hd_pb b69 (by first | exact h0 | exact h0), fun _ h => absurd h List.not_mem_nil⟩, ?_⟩
  refine k _ ?_ ?_ ?_ ?_
  · exact fun j hj hn => (hd_keep hB' (Nat.lt_of_lt_of_le hj (by decide +kernel)) (by simp; omega)).trans (hF j (Nat.lt_of_lt_of_le hj (by decide)))
  · exact hd_gi (x := .inl (.int 0)) (by decide +kernel) rfl
  · exact hd_gi (x := .inr (.inl 69)) (by decide +kernel) b69
  · exact hd_gi (x := .inr (.inl 70)) (by decide +kernel) t70
theorem lt_12_0 {Ls : Nat} {xs : Nat → Int32} {d : Nat} {Q : Option Value → jm_h → Prop} (hd : 1 ≤ d) (F : Nat → sy_d) (X1 X2 : List jm_c) (hB : iv_in F iv_B4)
    (h0 : 0 ≤ (sy_i F 69).toInt ∧ (sy_i F 69).toInt < 12)
    (h1 : ((sy_ai F 43).getD (sy_i F 69).toNatClampNeg 0).toInt ≤ (sy_i F 70).toInt)
    (k : ∀ F1 : Nat → sy_d, (∀ j, j < 69 → True → F1 j = F j) → Q (some (.int ((0 : Int32)))) (sy_dh F1 X1 X2 (iv_H 4))) :
    hd_W Ls xs d jm_M180 Q (12, sy_dL F [some (.inl (.ref 1000)), some (.inr (.inl 69)), some (.inr (.inl 70)), none, none], sy_dS F [], sy_dh F X1 X2 (iv_H 4), 0, 0) := by
  refine hd_ret (s := 4) (nv := 71) (v := some (.inl (.int 0))) (uh := hd_ov (iv_id 0 iv_B4) []) (f := true) (sp := [12, 44, 61, 97]) (d0 := 0) (O := [true]) (T := [(30, [.inr (.inl 69)], [.inr (.inl 43)])]) (P := [(6, .inr (.inl 69), .inl (.ref 12)), (4, .inr (.inl 71), .inr (.inl 70))]) jm_ok180 (by decide +kernel) (by decide +kernel) hd F X1 X2 (fun F' hF hs => ?_)
  have b69 := hd_b (F := F) (F' := F') (k := 69) (hF 69 (by decide))
  have a43 := hd_ba (F := F) (F' := F') (k := 43) (hF 43 (by decide))
  have t71 : sy_dv F' (.inr (.inl 71)) = .int ((sy_ai F 43).getD (sy_i F 69).toNatClampNeg 0) := hd_rd (hs 0 _ rfl) b69 a43
  have b70 := hd_b (F := F) (F' := F') (k := 70) (hF 70 (by decide))
  have hB' : iv_in F' iv_B4 := iv_in_eq hB (fun j hj => hF j (Nat.lt_of_lt_of_le hj (by decide +kernel)))
  refine ⟨List.forall_mem_cons.mpr ⟨hd_pb b69 (by first | exact h0 | exact h0), List.forall_mem_cons.mpr ⟨hd_p4 t71 b70 h1, fun _ h => absurd h List.not_mem_nil⟩⟩, ?_⟩
  refine k _ ?_
  · exact fun j hj _ => (hd_keep hB' (Nat.lt_of_lt_of_le hj (by decide +kernel)) (by simp)).trans (hF j (Nat.lt_of_lt_of_le hj (by decide)))
theorem lt_12_1 {Ls : Nat} {xs : Nat → Int32} {d : Nat} {Q : Option Value → jm_h → Prop} (hd : 1 ≤ d) (F : Nat → sy_d) (X1 X2 : List jm_c) (hB : iv_in F iv_B4)
    (h0 : 0 ≤ (sy_i F 69).toInt ∧ (sy_i F 69).toInt < 12)
    (h1 : (sy_i F 70).toInt < ((sy_ai F 43).getD (sy_i F 69).toNatClampNeg 0).toInt)
    (h2 : 0 ≤ (sy_i F 70).toInt ∧ (sy_i F 70).toInt < 260)
    (h3 : ((sy_ai F 44).getD (sy_i F 70).toNatClampNeg 0).toInt = 0)
    (h4 : 0 ≤ (sy_i F 70).toInt ∧ (sy_i F 70).toInt < 260)
    (h5 : 0 ≤ (sy_i F 70).toInt ∧ (sy_i F 70).toInt < 260)
    (k : ∀ F1 : Nat → sy_d, (∀ j, j < 69 → True → F1 j = F j) → F1 69 = .inl (.int (sy_i F 69)) → F1 70 = .inl (.int (sy_i F 70)) → F1 71 = .inl (.int ((sy_ai F 48).getD (sy_i F 70).toNatClampNeg 0)) → F1 72 = .inl (.int ((sy_ai F 47).getD (sy_i F 70).toNatClampNeg 0)) → hd_W Ls xs d jm_M180 Q (97, sy_dL F1 [some (.inl (.ref 1000)), some (.inr (.inl 69)), some (.inr (.inl 70)), none, none], sy_dS F1 [.inr (.inl 71), .inr (.inl 72), .inl (.ref 1000)], sy_dh F1 X1 X2 (iv_H 4), 0, 0)) :
    hd_W Ls xs d jm_M180 Q (12, sy_dL F [some (.inl (.ref 1000)), some (.inr (.inl 69)), some (.inr (.inl 70)), none, none], sy_dS F [], sy_dh F X1 X2 (iv_H 4), 0, 0) := by
  refine hd_run (s := 4) (nv := 71) (pc := 97) (L := [some (.inl (.ref 1000)), some (.inr (.inl 69)), some (.inr (.inl 70)), none, none]) (S := [.inr (.inl 71), .inr (.inl 72), .inl (.ref 1000)]) (uh := hd_ov (iv_id 0 iv_B4) []) (ul := [.inl (.inr (.inl 69)), .inl (.inr (.inl 70)), .inl (.inr (.inl 74)), .inl (.inr (.inl 73))]) (f := true) (sp := [12, 44, 61, 97]) (d0 := 0) (O := [false, true]) (T := [(30, [.inr (.inl 69)], [.inr (.inl 43)]), (30, [.inr (.inl 70)], [.inr (.inl 44)]), (30, [.inr (.inl 70)], [.inr (.inl 47)]), (30, [.inr (.inl 70)], [.inr (.inl 48)])]) (P := [(6, .inr (.inl 69), .inl (.ref 12)), (5, .inr (.inl 71), .inr (.inl 70)), (6, .inr (.inl 70), .inl (.ref 260)), (0, .inr (.inl 72), .inl (.int 0)), (6, .inr (.inl 70), .inl (.ref 260)), (6, .inr (.inl 70), .inl (.ref 260))]) jm_ok180 (by decide +kernel) (by decide +kernel) hd F X1 X2 (fun F' hF hs => ?_)
  have b69 := hd_b (F := F) (F' := F') (k := 69) (hF 69 (by decide))
  have a43 := hd_ba (F := F) (F' := F') (k := 43) (hF 43 (by decide))
  have t71 : sy_dv F' (.inr (.inl 71)) = .int ((sy_ai F 43).getD (sy_i F 69).toNatClampNeg 0) := hd_rd (hs 0 _ rfl) b69 a43
  have b70 := hd_b (F := F) (F' := F') (k := 70) (hF 70 (by decide))
  have a44 := hd_ba (F := F) (F' := F') (k := 44) (hF 44 (by decide))
  have t72 : sy_dv F' (.inr (.inl 72)) = .int ((sy_ai F 44).getD (sy_i F 70).toNatClampNeg 0) := hd_rd (hs 1 _ rfl) b70 a44
  have a48 := hd_ba (F := F) (F' := F') (k := 48) (hF 48 (by decide))
  have t74 : sy_dv F' (.inr (.inl 74)) = .int ((sy_ai F 48).getD (sy_i F 70).toNatClampNeg 0) := hd_rd (hs 3 _ rfl) b70 a48
  have a47 := hd_ba (F := F) (F' := F') (k := 47) (hF 47 (by decide))
  have t73 : sy_dv F' (.inr (.inl 73)) = .int ((sy_ai F 47).getD (sy_i F 70).toNatClampNeg 0) := hd_rd (hs 2 _ rfl) b70 a47
  have hB' : iv_in F' iv_B4 := iv_in_eq hB (fun j hj => hF j (Nat.lt_of_lt_of_le hj (by decide +kernel)))
  refine ⟨List.forall_mem_cons.mpr ⟨hd_pb b69 (by first | exact h0 | exact h0), List.forall_mem_cons.mpr ⟨hd_p5 t71 b70 h1, List.forall_mem_cons.mpr ⟨hd_pb b70 (by first | exact h2 | exact h2), List.forall_mem_cons.mpr ⟨hd_p0 t72 rfl (by have hc : ((0) : Int32).toInt = 0 := (by decide); omega), List.forall_mem_cons.mpr ⟨hd_pb b70 (by first | exact h4 | exact h4), List.forall_mem_cons.mpr ⟨hd_pb b70 (by first | exact h5 | exact h5), fun _ h => absurd h List.not_mem_nil⟩⟩⟩⟩⟩⟩, ?_⟩
  refine k _ ?_ ?_ ?_ ?_ ?_
  · exact fun j hj _ => (hd_keep hB' (Nat.lt_of_lt_of_le hj (by decide +kernel)) (by simp)).trans (hF j (Nat.lt_of_lt_of_le hj (by decide)))
  · exact hd_gi (x := .inr (.inl 69)) (by decide +kernel) b69
  · exact hd_gi (x := .inr (.inl 70)) (by decide +kernel) b70
  · exact hd_gi (x := .inr (.inl 74)) (by decide +kernel) t74
  · exact hd_gi (x := .inr (.inl 73)) (by decide +kernel) t73
theorem lt_12_2 {Ls : Nat} {xs : Nat → Int32} {d : Nat} {Q : Option Value → jm_h → Prop} (hd : 1 ≤ d) (F : Nat → sy_d) (X1 X2 : List jm_c) (hB : iv_in F iv_B4)
    (h0 : 0 ≤ (sy_i F 69).toInt ∧ (sy_i F 69).toInt < 12)
    (h1 : (sy_i F 70).toInt < ((sy_ai F 43).getD (sy_i F 69).toNatClampNeg 0).toInt)
    (h2 : 0 ≤ (sy_i F 70).toInt ∧ (sy_i F 70).toInt < 260)
    (h3 : ((sy_ai F 44).getD (sy_i F 70).toNatClampNeg 0).toInt ≠ 0)
    (h4 : 0 ≤ (sy_i F 70).toInt ∧ (sy_i F 70).toInt < 260)
    (h5 : 0 ≤ (sy_i F 70).toInt ∧ (sy_i F 70).toInt < 260)
    (k : ∀ F1 : Nat → sy_d, (∀ j, j < 69 → True → F1 j = F j) → F1 69 = .inl (.int (sy_i F 69)) → F1 70 = .inl (.int (sy_i F 70)) → F1 71 = .inl (.int ((sy_ai F 46).getD (sy_i F 70).toNatClampNeg 0)) → F1 72 = .inl (.int ((sy_ai F 45).getD (sy_i F 70).toNatClampNeg 0)) → hd_W Ls xs d jm_M180 Q (44, sy_dL F1 [some (.inl (.ref 1000)), some (.inr (.inl 69)), some (.inr (.inl 70)), none, none], sy_dS F1 [.inr (.inl 71), .inr (.inl 72), .inl (.ref 1000)], sy_dh F1 X1 X2 (iv_H 4), 0, 0)) :
    hd_W Ls xs d jm_M180 Q (12, sy_dL F [some (.inl (.ref 1000)), some (.inr (.inl 69)), some (.inr (.inl 70)), none, none], sy_dS F [], sy_dh F X1 X2 (iv_H 4), 0, 0) := by
  refine hd_run (s := 4) (nv := 71) (pc := 44) (L := [some (.inl (.ref 1000)), some (.inr (.inl 69)), some (.inr (.inl 70)), none, none]) (S := [.inr (.inl 71), .inr (.inl 72), .inl (.ref 1000)]) (uh := hd_ov (iv_id 0 iv_B4) []) (ul := [.inl (.inr (.inl 69)), .inl (.inr (.inl 70)), .inl (.inr (.inl 74)), .inl (.inr (.inl 73))]) (f := true) (sp := [12, 44, 61, 97]) (d0 := 0) (O := [false, false]) (T := [(30, [.inr (.inl 69)], [.inr (.inl 43)]), (30, [.inr (.inl 70)], [.inr (.inl 44)]), (30, [.inr (.inl 70)], [.inr (.inl 45)]), (30, [.inr (.inl 70)], [.inr (.inl 46)])]) (P := [(6, .inr (.inl 69), .inl (.ref 12)), (5, .inr (.inl 71), .inr (.inl 70)), (6, .inr (.inl 70), .inl (.ref 260)), (1, .inr (.inl 72), .inl (.int 0)), (6, .inr (.inl 70), .inl (.ref 260)), (6, .inr (.inl 70), .inl (.ref 260))]) jm_ok180 (by decide +kernel) (by decide +kernel) hd F X1 X2 (fun F' hF hs => ?_)
  have b69 := hd_b (F := F) (F' := F') (k := 69) (hF 69 (by decide))
  have a43 := hd_ba (F := F) (F' := F') (k := 43) (hF 43 (by decide))
  have t71 : sy_dv F' (.inr (.inl 71)) = .int ((sy_ai F 43).getD (sy_i F 69).toNatClampNeg 0) := hd_rd (hs 0 _ rfl) b69 a43
  have b70 := hd_b (F := F) (F' := F') (k := 70) (hF 70 (by decide))
  have a44 := hd_ba (F := F) (F' := F') (k := 44) (hF 44 (by decide))
  have t72 : sy_dv F' (.inr (.inl 72)) = .int ((sy_ai F 44).getD (sy_i F 70).toNatClampNeg 0) := hd_rd (hs 1 _ rfl) b70 a44
  have a46 := hd_ba (F := F) (F' := F') (k := 46) (hF 46 (by decide))
  have t74 : sy_dv F' (.inr (.inl 74)) = .int ((sy_ai F 46).getD (sy_i F 70).toNatClampNeg 0) := hd_rd (hs 3 _ rfl) b70 a46
  have a45 := hd_ba (F := F) (F' := F') (k := 45) (hF 45 (by decide))
  have t73 : sy_dv F' (.inr (.inl 73)) = .int ((sy_ai F 45).getD (sy_i F 70).toNatClampNeg 0) := hd_rd (hs 2 _ rfl) b70 a45
  have hB' : iv_in F' iv_B4 := iv_in_eq hB (fun j hj => hF j (Nat.lt_of_lt_of_le hj (by decide +kernel)))
  refine ⟨List.forall_mem_cons.mpr ⟨hd_pb b69 (by first | exact h0 | exact h0), List.forall_mem_cons.mpr ⟨hd_p5 t71 b70 h1, List.forall_mem_cons.mpr ⟨hd_pb b70 (by first | exact h2 | exact h2), List.forall_mem_cons.mpr ⟨hd_p1 t72 rfl (by have hc : ((0) : Int32).toInt = 0 := (by decide); omega), List.forall_mem_cons.mpr ⟨hd_pb b70 (by first | exact h4 | exact h4), List.forall_mem_cons.mpr ⟨hd_pb b70 (by first | exact h5 | exact h5), fun _ h => absurd h List.not_mem_nil⟩⟩⟩⟩⟩⟩, ?_⟩
  refine k _ ?_ ?_ ?_ ?_ ?_
  · exact fun j hj _ => (hd_keep hB' (Nat.lt_of_lt_of_le hj (by decide +kernel)) (by simp)).trans (hF j (Nat.lt_of_lt_of_le hj (by decide)))
  · exact hd_gi (x := .inr (.inl 69)) (by decide +kernel) b69
  · exact hd_gi (x := .inr (.inl 70)) (by decide +kernel) b70
  · exact hd_gi (x := .inr (.inl 74)) (by decide +kernel) t74
  · exact hd_gi (x := .inr (.inl 73)) (by decide +kernel) t73
theorem lt_47_0 {Ls : Nat} {xs : Nat → Int32} {d : Nat} {Q : Option Value → jm_h → Prop} (hd : 1 ≤ d) (F : Nat → sy_d) (X1 X2 : List jm_c) (hB : iv_in F iv_B4)
    (h0 : 0 ≤ (sy_i F 70).toInt ∧ (sy_i F 70).toInt < 260)
    (h1 : 0 ≤ (sy_i F 70).toInt ∧ (sy_i F 70).toInt < 260)
    (k : ∀ F1 : Nat → sy_d, (∀ j, j < 69 → True → F1 j = F j) → F1 69 = .inl (.int (sy_i F 69)) → F1 70 = .inl (.int (sy_i F 70)) → F1 71 = .inl (.int (sy_i F 73)) → F1 72 = .inl (.int ((sy_ai F 47).getD (sy_i F 70).toNatClampNeg 0)) → F1 73 = .inl (.int ((sy_ai F 46).getD (sy_i F 70).toNatClampNeg 0)) → hd_W Ls xs d jm_M180 Q (61, sy_dL F1 [some (.inl (.ref 1000)), some (.inr (.inl 69)), some (.inr (.inl 70)), some (.inr (.inl 71)), none], sy_dS F1 [.inr (.inl 72), .inr (.inl 73), .inl (.ref 1000)], sy_dh F1 X1 X2 (iv_H 4), 0, 0)) :
    hd_W Ls xs d jm_M180 Q (47, sy_dL F [some (.inl (.ref 1000)), some (.inr (.inl 69)), some (.inr (.inl 70)), none, none], sy_dS F [.inr (.inl 73)], sy_dh F X1 X2 (iv_H 4), 0, 0) := by
  refine hd_run (s := 4) (nv := 74) (pc := 61) (L := [some (.inl (.ref 1000)), some (.inr (.inl 69)), some (.inr (.inl 70)), some (.inr (.inl 71)), none]) (S := [.inr (.inl 72), .inr (.inl 73), .inl (.ref 1000)]) (uh := hd_ov (iv_id 0 iv_B4) []) (ul := [.inl (.inr (.inl 69)), .inl (.inr (.inl 70)), .inl (.inr (.inl 73)), .inl (.inr (.inl 75)), .inl (.inr (.inl 74))]) (f := false) (sp := [12, 44, 61, 97]) (d0 := 0) (O := []) (T := [(30, [.inr (.inl 70)], [.inr (.inl 46)]), (30, [.inr (.inl 70)], [.inr (.inl 47)])]) (P := [(6, .inr (.inl 70), .inl (.ref 260)), (6, .inr (.inl 70), .inl (.ref 260))]) jm_ok180 (by decide +kernel) (by decide +kernel) hd F X1 X2 (fun F' hF hs => ?_)
  have b70 := hd_b (F := F) (F' := F') (k := 70) (hF 70 (by decide))
  have b69 := hd_b (F := F) (F' := F') (k := 69) (hF 69 (by decide))
  have b73 := hd_b (F := F) (F' := F') (k := 73) (hF 73 (by decide))
  have a47 := hd_ba (F := F) (F' := F') (k := 47) (hF 47 (by decide))
  have t75 : sy_dv F' (.inr (.inl 75)) = .int ((sy_ai F 47).getD (sy_i F 70).toNatClampNeg 0) := hd_rd (hs 1 _ rfl) b70 a47
  have a46 := hd_ba (F := F) (F' := F') (k := 46) (hF 46 (by decide))
  have t74 : sy_dv F' (.inr (.inl 74)) = .int ((sy_ai F 46).getD (sy_i F 70).toNatClampNeg 0) := hd_rd (hs 0 _ rfl) b70 a46
  have hB' : iv_in F' iv_B4 := iv_in_eq hB (fun j hj => hF j (Nat.lt_of_lt_of_le hj (by decide +kernel)))
  refine ⟨List.forall_mem_cons.mpr ⟨hd_pb b70 (by first | exact h0 | exact h0), List.forall_mem_cons.mpr ⟨hd_pb b70 (by first | exact h1 | exact h1), fun _ h => absurd h List.not_mem_nil⟩⟩, ?_⟩
  refine k _ ?_ ?_ ?_ ?_ ?_ ?_
  · exact fun j hj _ => (hd_keep hB' (Nat.lt_of_lt_of_le hj (by decide +kernel)) (by simp)).trans (hF j (Nat.lt_of_lt_of_le hj (by decide)))
  · exact hd_gi (x := .inr (.inl 69)) (by decide +kernel) b69
  · exact hd_gi (x := .inr (.inl 70)) (by decide +kernel) b70
  · exact hd_gi (x := .inr (.inl 73)) (by decide +kernel) b73
  · exact hd_gi (x := .inr (.inl 75)) (by decide +kernel) t75
  · exact hd_gi (x := .inr (.inl 74)) (by decide +kernel) t74
theorem lt_64_0 {Ls : Nat} {xs : Nat → Int32} {d : Nat} {Q : Option Value → jm_h → Prop} (hd : 1 ≤ d) (F : Nat → sy_d) (X1 X2 : List jm_c) (hB : iv_in F iv_B4)
    (h0 : (sy_i F 17).toInt = 0)
    (h1 : (sy_i F 71).toInt < (sy_i F 74).toInt)
    (h2 : 0 ≤ (sy_i F 70).toInt ∧ (sy_i F 70).toInt < 260)
    (h3 : 0 ≤ (sy_i F 70).toInt ∧ (sy_i F 70).toInt < 260)
    (k : ∀ F1 : Nat → sy_d, (∀ j, j < 69 → True → F1 j = F j) → F1 69 = .inl (.int (sy_i F 69)) → F1 70 = .inl (.int (sy_i F 70)) → F1 71 = .inl (.int ((sy_ai F 48).getD (sy_i F 70).toNatClampNeg 0)) → F1 72 = .inl (.int ((sy_ai F 47).getD (sy_i F 70).toNatClampNeg 0)) → hd_W Ls xs d jm_M180 Q (97, sy_dL F1 [some (.inl (.ref 1000)), some (.inr (.inl 69)), some (.inr (.inl 70)), none, none], sy_dS F1 [.inr (.inl 71), .inr (.inl 72), .inl (.ref 1000)], sy_dh F1 X1 X2 (iv_H 4), 0, 0)) :
    hd_W Ls xs d jm_M180 Q (64, sy_dL F [some (.inl (.ref 1000)), some (.inr (.inl 69)), some (.inr (.inl 70)), some (.inr (.inl 71)), none], sy_dS F [.inr (.inl 74)], sy_dh F X1 X2 (iv_H 4), 0, 0) := by
  refine hd_run (s := 4) (nv := 75) (pc := 97) (L := [some (.inl (.ref 1000)), some (.inr (.inl 69)), some (.inr (.inl 70)), none, none]) (S := [.inr (.inl 71), .inr (.inl 72), .inl (.ref 1000)]) (uh := hd_ov (iv_id 0 iv_B4) []) (ul := [.inl (.inr (.inl 69)), .inl (.inr (.inl 70)), .inl (.inr (.inl 76)), .inl (.inr (.inl 75))]) (f := false) (sp := [12, 44, 61, 97]) (d0 := 0) (O := [true, true]) (T := [(30, [.inr (.inl 70)], [.inr (.inl 47)]), (30, [.inr (.inl 70)], [.inr (.inl 48)])]) (P := [(0, .inr (.inl 17), .inl (.int 0)), (2, .inr (.inl 71), .inr (.inl 74)), (6, .inr (.inl 70), .inl (.ref 260)), (6, .inr (.inl 70), .inl (.ref 260))]) jm_ok180 (by decide +kernel) (by decide +kernel) hd F X1 X2 (fun F' hF hs => ?_)
  have b17 := hd_b (F := F) (F' := F') (k := 17) (hF 17 (by decide))
  have b71 := hd_b (F := F) (F' := F') (k := 71) (hF 71 (by decide))
  have b74 := hd_b (F := F) (F' := F') (k := 74) (hF 74 (by decide))
  have b70 := hd_b (F := F) (F' := F') (k := 70) (hF 70 (by decide))
  have b69 := hd_b (F := F) (F' := F') (k := 69) (hF 69 (by decide))
  have a48 := hd_ba (F := F) (F' := F') (k := 48) (hF 48 (by decide))
  have t76 : sy_dv F' (.inr (.inl 76)) = .int ((sy_ai F 48).getD (sy_i F 70).toNatClampNeg 0) := hd_rd (hs 1 _ rfl) b70 a48
  have a47 := hd_ba (F := F) (F' := F') (k := 47) (hF 47 (by decide))
  have t75 : sy_dv F' (.inr (.inl 75)) = .int ((sy_ai F 47).getD (sy_i F 70).toNatClampNeg 0) := hd_rd (hs 0 _ rfl) b70 a47
  have hB' : iv_in F' iv_B4 := iv_in_eq hB (fun j hj => hF j (Nat.lt_of_lt_of_le hj (by decide +kernel)))
  refine ⟨List.forall_mem_cons.mpr ⟨hd_p0 b17 rfl (by have hc : ((0) : Int32).toInt = 0 := (by decide); omega), List.forall_mem_cons.mpr ⟨hd_p2 b71 b74 h1, List.forall_mem_cons.mpr ⟨hd_pb b70 (by first | exact h2 | exact h2), List.forall_mem_cons.mpr ⟨hd_pb b70 (by first | exact h3 | exact h3), fun _ h => absurd h List.not_mem_nil⟩⟩⟩⟩, ?_⟩
  refine k _ ?_ ?_ ?_ ?_ ?_
  · exact fun j hj _ => (hd_keep hB' (Nat.lt_of_lt_of_le hj (by decide +kernel)) (by simp)).trans (hF j (Nat.lt_of_lt_of_le hj (by decide)))
  · exact hd_gi (x := .inr (.inl 69)) (by decide +kernel) b69
  · exact hd_gi (x := .inr (.inl 70)) (by decide +kernel) b70
  · exact hd_gi (x := .inr (.inl 76)) (by decide +kernel) t76
  · exact hd_gi (x := .inr (.inl 75)) (by decide +kernel) t75
theorem lt_64_1 {Ls : Nat} {xs : Nat → Int32} {d : Nat} {Q : Option Value → jm_h → Prop} (hd : 1 ≤ d) (F : Nat → sy_d) (X1 X2 : List jm_c) (hB : iv_in F iv_B4)
    (h0 : (sy_i F 17).toInt = 0)
    (h1 : (sy_i F 74).toInt ≤ (sy_i F 71).toInt)
    (k : ∀ F1 : Nat → sy_d, (∀ j, j < 69 → True → F1 j = F j) → F1 69 = .inl (.int (sy_i F 69)) → F1 70 = .inl (.int ((sy_i F 70) + ((1 : Int32)))) → hd_W Ls xs d jm_M180 Q (12, sy_dL F1 [some (.inl (.ref 1000)), some (.inr (.inl 69)), some (.inr (.inl 70)), none, none], sy_dS F1 [], sy_dh F1 X1 X2 (iv_H 4), 0, 0)) :
    hd_W Ls xs d jm_M180 Q (64, sy_dL F [some (.inl (.ref 1000)), some (.inr (.inl 69)), some (.inr (.inl 70)), some (.inr (.inl 71)), none], sy_dS F [.inr (.inl 74)], sy_dh F X1 X2 (iv_H 4), 0, 0) := by
  refine hd_run (s := 4) (nv := 75) (pc := 12) (L := [some (.inl (.ref 1000)), some (.inr (.inl 69)), some (.inr (.inl 70)), none, none]) (S := []) (uh := hd_ov (iv_id 0 iv_B4) []) (ul := [.inl (.inr (.inl 69)), .inl (.inr (.inl 75))]) (f := false) (sp := [12, 44, 61, 97]) (d0 := 0) (O := [true, false]) (T := [(0, [.inr (.inl 70), .inl (.int 1)], [])]) (P := [(0, .inr (.inl 17), .inl (.int 0)), (3, .inr (.inl 71), .inr (.inl 74))]) jm_ok180 (by decide +kernel) (by decide +kernel) hd F X1 X2 (fun F' hF hs => ?_)
  have b17 := hd_b (F := F) (F' := F') (k := 17) (hF 17 (by decide))
  have b71 := hd_b (F := F) (F' := F') (k := 71) (hF 71 (by decide))
  have b74 := hd_b (F := F) (F' := F') (k := 74) (hF 74 (by decide))
  have b69 := hd_b (F := F) (F' := F') (k := 69) (hF 69 (by decide))
  have b70 := hd_b (F := F) (F' := F') (k := 70) (hF 70 (by decide))
  have t75 : sy_dv F' (.inr (.inl 75)) = .int ((sy_i F 70) + ((1 : Int32))) := hd_o (hs 0 _ rfl) b70 rfl rfl
  have hB' : iv_in F' iv_B4 := iv_in_eq hB (fun j hj => hF j (Nat.lt_of_lt_of_le hj (by decide +kernel)))
  refine ⟨List.forall_mem_cons.mpr ⟨hd_p0 b17 rfl (by have hc : ((0) : Int32).toInt = 0 := (by decide); omega), List.forall_mem_cons.mpr ⟨hd_p3 b71 b74 h1, fun _ h => absurd h List.not_mem_nil⟩⟩, ?_⟩
  refine k _ ?_ ?_ ?_
  · exact fun j hj _ => (hd_keep hB' (Nat.lt_of_lt_of_le hj (by decide +kernel)) (by simp)).trans (hF j (Nat.lt_of_lt_of_le hj (by decide)))
  · exact hd_gi (x := .inr (.inl 69)) (by decide +kernel) b69
  · exact hd_gi (x := .inr (.inl 75)) (by decide +kernel) t75
theorem lt_64_2 {Ls : Nat} {xs : Nat → Int32} {d : Nat} {Q : Option Value → jm_h → Prop} (hd : 1 ≤ d) (F : Nat → sy_d) (X1 X2 : List jm_c) (hB : iv_in F iv_B4)
    (h0 : (sy_i F 17).toInt ≠ 0)
    (k : ∀ F1 : Nat → sy_d, (∀ j, j < 69 → True → F1 j = F j) → Q (some (.int ((0 : Int32)))) (sy_dh F1 X1 X2 (iv_H 4))) :
    hd_W Ls xs d jm_M180 Q (64, sy_dL F [some (.inl (.ref 1000)), some (.inr (.inl 69)), some (.inr (.inl 70)), some (.inr (.inl 71)), none], sy_dS F [.inr (.inl 74)], sy_dh F X1 X2 (iv_H 4), 0, 0) := by
  refine hd_ret (s := 4) (nv := 75) (v := some (.inl (.int 0))) (uh := hd_ov (iv_id 0 iv_B4) []) (f := false) (sp := [12, 44, 61, 97]) (d0 := 0) (O := [false]) (T := []) (P := [(1, .inr (.inl 17), .inl (.int 0))]) jm_ok180 (by decide +kernel) (by decide +kernel) hd F X1 X2 (fun F' hF hs => ?_)
  have b17 := hd_b (F := F) (F' := F') (k := 17) (hF 17 (by decide))
  have hB' : iv_in F' iv_B4 := iv_in_eq hB (fun j hj => hF j (Nat.lt_of_lt_of_le hj (by decide +kernel)))
  refine ⟨List.forall_mem_cons.mpr ⟨hd_p1 b17 rfl (by have hc : ((0) : Int32).toInt = 0 := (by decide); omega), fun _ h => absurd h List.not_mem_nil⟩, ?_⟩
  refine k _ ?_
  · exact fun j hj _ => (hd_keep hB' (Nat.lt_of_lt_of_le hj (by decide +kernel)) (by simp)).trans (hF j (Nat.lt_of_lt_of_le hj (by decide)))
theorem lt_100_0 {Ls : Nat} {xs : Nat → Int32} {d : Nat} {Q : Option Value → jm_h → Prop} (hd : 1 ≤ d) (F : Nat → sy_d) (X1 X2 : List jm_c) (hB : iv_in F iv_B4)
    (h0 : (sy_i F 17).toInt = 0)
    (k : ∀ F1 : Nat → sy_d, (∀ j, j < 69 → True → F1 j = F j) → Q (some (.int (sy_i F 73))) (sy_dh F1 X1 X2 (iv_H 4))) :
    hd_W Ls xs d jm_M180 Q (100, sy_dL F [some (.inl (.ref 1000)), some (.inr (.inl 69)), some (.inr (.inl 70)), none, none], sy_dS F [.inr (.inl 73)], sy_dh F X1 X2 (iv_H 4), 0, 0) := by
  refine hd_ret (s := 4) (nv := 74) (v := some (.inr (.inl 73))) (uh := hd_ov (iv_id 0 iv_B4) []) (f := false) (sp := [12, 44, 61, 97]) (d0 := 0) (O := [true]) (T := []) (P := [(0, .inr (.inl 17), .inl (.int 0))]) jm_ok180 (by decide +kernel) (by decide +kernel) hd F X1 X2 (fun F' hF hs => ?_)
  have b17 := hd_b (F := F) (F' := F') (k := 17) (hF 17 (by decide))
  have b73 := hd_b (F := F) (F' := F') (k := 73) (hF 73 (by decide))
  have hB' : iv_in F' iv_B4 := iv_in_eq hB (fun j hj => hF j (Nat.lt_of_lt_of_le hj (by decide +kernel)))
  have hk := k (sy_cm F' (hd_ov (iv_id 0 iv_B4) [] ++ [])) (fun j hj _ => (hd_keep hB' (Nat.lt_of_lt_of_le hj (by decide +kernel)) (by simp)).trans (hF j (Nat.lt_of_lt_of_le hj (by decide))))
  refine ⟨List.forall_mem_cons.mpr ⟨hd_p0 b17 rfl (by have hc : ((0) : Int32).toInt = 0 := (by decide); omega), fun _ h => absurd h List.not_mem_nil⟩, ?_⟩
  show Q (some (sy_dv F' (.inr (.inl 73)))) _
  rw [b73]
  exact hk
theorem lt_100_1 {Ls : Nat} {xs : Nat → Int32} {d : Nat} {Q : Option Value → jm_h → Prop} (hd : 1 ≤ d) (F : Nat → sy_d) (X1 X2 : List jm_c) (hB : iv_in F iv_B4)
    (h0 : (sy_i F 17).toInt ≠ 0)
    (k : ∀ F1 : Nat → sy_d, (∀ j, j < 69 → True → F1 j = F j) → Q (some (.int ((0 : Int32)))) (sy_dh F1 X1 X2 (iv_H 4))) :
    hd_W Ls xs d jm_M180 Q (100, sy_dL F [some (.inl (.ref 1000)), some (.inr (.inl 69)), some (.inr (.inl 70)), none, none], sy_dS F [.inr (.inl 73)], sy_dh F X1 X2 (iv_H 4), 0, 0) := by
  refine hd_ret (s := 4) (nv := 74) (v := some (.inl (.int 0))) (uh := hd_ov (iv_id 0 iv_B4) []) (f := false) (sp := [12, 44, 61, 97]) (d0 := 0) (O := [false]) (T := []) (P := [(1, .inr (.inl 17), .inl (.int 0))]) jm_ok180 (by decide +kernel) (by decide +kernel) hd F X1 X2 (fun F' hF hs => ?_)
  have b17 := hd_b (F := F) (F' := F') (k := 17) (hF 17 (by decide))
  have hB' : iv_in F' iv_B4 := iv_in_eq hB (fun j hj => hF j (Nat.lt_of_lt_of_le hj (by decide +kernel)))
  refine ⟨List.forall_mem_cons.mpr ⟨hd_p1 b17 rfl (by have hc : ((0) : Int32).toInt = 0 := (by decide); omega), fun _ h => absurd h List.not_mem_nil⟩, ?_⟩
  refine k _ ?_
  · exact fun j hj _ => (hd_keep hB' (Nat.lt_of_lt_of_le hj (by decide +kernel)) (by simp)).trans (hF j (Nat.lt_of_lt_of_le hj (by decide)))
theorem ak_0_0 {Ls : Nat} {xs : Nat → Int32} {d : Nat} {Q : Option Value → jm_h → Prop} (hd : 2 ≤ d) (F : Nat → sy_d) (X1 X2 : List jm_c) (hB : iv_in F iv_B4)
    (h0 : 0 ≤ ((((6 : Int32)) * (sy_i F 11)) + (sy_i F 69)).toInt ∧ ((((6 : Int32)) * (sy_i F 11)) + (sy_i F 69)).toInt < 12)
    (h1 : 0 ≤ ((((6 : Int32)) * (sy_i F 11)) + (sy_i F 69)).toInt ∧ ((((6 : Int32)) * (sy_i F 11)) + (sy_i F 69)).toInt < 12)
    (h2 : ((sy_ai F 43).getD ((((6 : Int32)) * (sy_i F 11)) + (sy_i F 69)).toNatClampNeg 0).toInt ≤ ((sy_ai F 42).getD ((((6 : Int32)) * (sy_i F 11)) + (sy_i F 69)).toNatClampNeg 0).toInt)
    (h3 : (sy_i F 71).toInt ≤ (sy_i F 70).toInt)
    (h4 : (sy_i F 70).toInt ≤ (sy_i F 72).toInt)
    (k : ∀ F1 : Nat → sy_d, (∀ j, j < 69 → True → F1 j = F j) → Q (some (.int (sy_i F 70))) (sy_dh F1 X1 X2 (iv_H 4))) :
    hd_W Ls xs d jm_M179 Q (0, sy_dL F [some (.inl (.ref 1000)), some (.inr (.inl 69)), some (.inr (.inl 70)), some (.inr (.inl 71)), some (.inr (.inl 72)), none, none], sy_dS F [], sy_dh F X1 X2 (iv_H 4), 0, 0) := by
  refine hd_ret (s := 4) (nv := 73) (v := some (.inr (.inl 70))) (uh := hd_ov (iv_id 0 iv_B4) []) (f := true) (sp := [34]) (d0 := 1) (O := [true, true, true]) (T := [(2, [.inl (.int 6), .inr (.inl 11)], []), (0, [.inr (.inl 73), .inr (.inl 69)], []), (30, [.inr (.inl 74)], [.inr (.inl 42)]), (30, [.inr (.inl 74)], [.inr (.inl 43)])]) (P := [(6, .inr (.inl 74), .inl (.ref 12)), (6, .inr (.inl 74), .inl (.ref 12)), (4, .inr (.inl 76), .inr (.inl 75)), (4, .inr (.inl 71), .inr (.inl 70)), (4, .inr (.inl 70), .inr (.inl 72))]) jm_ok179 (by decide +kernel) (by decide +kernel) hd F X1 X2 (fun F' hF hs => ?_)
  have b11 := hd_b (F := F) (F' := F') (k := 11) (hF 11 (by decide))
  have t73 : sy_dv F' (.inr (.inl 73)) = .int (((6 : Int32)) * (sy_i F 11)) := hd_o (hs 0 _ rfl) rfl b11 rfl
  have b69 := hd_b (F := F) (F' := F') (k := 69) (hF 69 (by decide))
  have t74 : sy_dv F' (.inr (.inl 74)) = .int ((((6 : Int32)) * (sy_i F 11)) + (sy_i F 69)) := hd_o (hs 1 _ rfl) t73 b69 rfl
  have a43 := hd_ba (F := F) (F' := F') (k := 43) (hF 43 (by decide))
  have t76 : sy_dv F' (.inr (.inl 76)) = .int ((sy_ai F 43).getD ((((6 : Int32)) * (sy_i F 11)) + (sy_i F 69)).toNatClampNeg 0) := hd_rd (hs 3 _ rfl) t74 a43
  have a42 := hd_ba (F := F) (F' := F') (k := 42) (hF 42 (by decide))
  have t75 : sy_dv F' (.inr (.inl 75)) = .int ((sy_ai F 42).getD ((((6 : Int32)) * (sy_i F 11)) + (sy_i F 69)).toNatClampNeg 0) := hd_rd (hs 2 _ rfl) t74 a42
  have b71 := hd_b (F := F) (F' := F') (k := 71) (hF 71 (by decide))
  have b70 := hd_b (F := F) (F' := F') (k := 70) (hF 70 (by decide))
  have b72 := hd_b (F := F) (F' := F') (k := 72) (hF 72 (by decide))
  have hB' : iv_in F' iv_B4 := iv_in_eq hB (fun j hj => hF j (Nat.lt_of_lt_of_le hj (by decide +kernel)))
  have hk := k (sy_cm F' (hd_ov (iv_id 0 iv_B4) [] ++ [])) (fun j hj _ => (hd_keep hB' (Nat.lt_of_lt_of_le hj (by decide +kernel)) (by simp)).trans (hF j (Nat.lt_of_lt_of_le hj (by decide))))
  refine ⟨List.forall_mem_cons.mpr ⟨hd_pb t74 (by first | exact h0 | exact h0), List.forall_mem_cons.mpr ⟨hd_pb t74 (by first | exact h1 | exact h1), List.forall_mem_cons.mpr ⟨hd_p4 t76 t75 h2, List.forall_mem_cons.mpr ⟨hd_p4 b71 b70 h3, List.forall_mem_cons.mpr ⟨hd_p4 b70 b72 h4, fun _ h => absurd h List.not_mem_nil⟩⟩⟩⟩⟩, ?_⟩
  show Q (some (sy_dv F' (.inr (.inl 70)))) _
  rw [b70]
  exact hk
theorem ak_0_1 {Ls : Nat} {xs : Nat → Int32} {d : Nat} {Q : Option Value → jm_h → Prop} (hd : 2 ≤ d) (F : Nat → sy_d) (X1 X2 : List jm_c) (hB : iv_in F iv_B4)
    (h0 : 0 ≤ ((((6 : Int32)) * (sy_i F 11)) + (sy_i F 69)).toInt ∧ ((((6 : Int32)) * (sy_i F 11)) + (sy_i F 69)).toInt < 12)
    (h1 : 0 ≤ ((((6 : Int32)) * (sy_i F 11)) + (sy_i F 69)).toInt ∧ ((((6 : Int32)) * (sy_i F 11)) + (sy_i F 69)).toInt < 12)
    (h2 : ((sy_ai F 43).getD ((((6 : Int32)) * (sy_i F 11)) + (sy_i F 69)).toNatClampNeg 0).toInt ≤ ((sy_ai F 42).getD ((((6 : Int32)) * (sy_i F 11)) + (sy_i F 69)).toNatClampNeg 0).toInt)
    (h3 : (sy_i F 71).toInt ≤ (sy_i F 70).toInt)
    (h4 : (sy_i F 72).toInt < (sy_i F 70).toInt)
    (k : ∀ F1 : Nat → sy_d, (∀ j, j < 69 → True → F1 j = F j) → Q (some (.int (sy_i F 72))) (sy_dh F1 X1 X2 (iv_H 4))) :
    hd_W Ls xs d jm_M179 Q (0, sy_dL F [some (.inl (.ref 1000)), some (.inr (.inl 69)), some (.inr (.inl 70)), some (.inr (.inl 71)), some (.inr (.inl 72)), none, none], sy_dS F [], sy_dh F X1 X2 (iv_H 4), 0, 0) := by
  refine hd_ret (s := 4) (nv := 73) (v := some (.inr (.inl 72))) (uh := hd_ov (iv_id 0 iv_B4) []) (f := true) (sp := [34]) (d0 := 1) (O := [true, true, false]) (T := [(2, [.inl (.int 6), .inr (.inl 11)], []), (0, [.inr (.inl 73), .inr (.inl 69)], []), (30, [.inr (.inl 74)], [.inr (.inl 42)]), (30, [.inr (.inl 74)], [.inr (.inl 43)])]) (P := [(6, .inr (.inl 74), .inl (.ref 12)), (6, .inr (.inl 74), .inl (.ref 12)), (4, .inr (.inl 76), .inr (.inl 75)), (4, .inr (.inl 71), .inr (.inl 70)), (5, .inr (.inl 70), .inr (.inl 72))]) jm_ok179 (by decide +kernel) (by decide +kernel) hd F X1 X2 (fun F' hF hs => ?_)
  have b11 := hd_b (F := F) (F' := F') (k := 11) (hF 11 (by decide))
  have t73 : sy_dv F' (.inr (.inl 73)) = .int (((6 : Int32)) * (sy_i F 11)) := hd_o (hs 0 _ rfl) rfl b11 rfl
  have b69 := hd_b (F := F) (F' := F') (k := 69) (hF 69 (by decide))
  have t74 : sy_dv F' (.inr (.inl 74)) = .int ((((6 : Int32)) * (sy_i F 11)) + (sy_i F 69)) := hd_o (hs 1 _ rfl) t73 b69 rfl
  have a43 := hd_ba (F := F) (F' := F') (k := 43) (hF 43 (by decide))
  have t76 : sy_dv F' (.inr (.inl 76)) = .int ((sy_ai F 43).getD ((((6 : Int32)) * (sy_i F 11)) + (sy_i F 69)).toNatClampNeg 0) := hd_rd (hs 3 _ rfl) t74 a43
  have a42 := hd_ba (F := F) (F' := F') (k := 42) (hF 42 (by decide))
  have t75 : sy_dv F' (.inr (.inl 75)) = .int ((sy_ai F 42).getD ((((6 : Int32)) * (sy_i F 11)) + (sy_i F 69)).toNatClampNeg 0) := hd_rd (hs 2 _ rfl) t74 a42
  have b71 := hd_b (F := F) (F' := F') (k := 71) (hF 71 (by decide))
  have b70 := hd_b (F := F) (F' := F') (k := 70) (hF 70 (by decide))
  have b72 := hd_b (F := F) (F' := F') (k := 72) (hF 72 (by decide))
  have hB' : iv_in F' iv_B4 := iv_in_eq hB (fun j hj => hF j (Nat.lt_of_lt_of_le hj (by decide +kernel)))
  have hk := k (sy_cm F' (hd_ov (iv_id 0 iv_B4) [] ++ [])) (fun j hj _ => (hd_keep hB' (Nat.lt_of_lt_of_le hj (by decide +kernel)) (by simp)).trans (hF j (Nat.lt_of_lt_of_le hj (by decide))))
  refine ⟨List.forall_mem_cons.mpr ⟨hd_pb t74 (by first | exact h0 | exact h0), List.forall_mem_cons.mpr ⟨hd_pb t74 (by first | exact h1 | exact h1), List.forall_mem_cons.mpr ⟨hd_p4 t76 t75 h2, List.forall_mem_cons.mpr ⟨hd_p4 b71 b70 h3, List.forall_mem_cons.mpr ⟨hd_p5 b70 b72 h4, fun _ h => absurd h List.not_mem_nil⟩⟩⟩⟩⟩, ?_⟩
  show Q (some (sy_dv F' (.inr (.inl 72)))) _
  rw [b72]
  exact hk
theorem ak_0_2 {Ls : Nat} {xs : Nat → Int32} {d : Nat} {Q : Option Value → jm_h → Prop} (hd : 2 ≤ d) (F : Nat → sy_d) (X1 X2 : List jm_c) (hB : iv_in F iv_B4)
    (h0 : 0 ≤ ((((6 : Int32)) * (sy_i F 11)) + (sy_i F 69)).toInt ∧ ((((6 : Int32)) * (sy_i F 11)) + (sy_i F 69)).toInt < 12)
    (h1 : 0 ≤ ((((6 : Int32)) * (sy_i F 11)) + (sy_i F 69)).toInt ∧ ((((6 : Int32)) * (sy_i F 11)) + (sy_i F 69)).toInt < 12)
    (h2 : ((sy_ai F 43).getD ((((6 : Int32)) * (sy_i F 11)) + (sy_i F 69)).toNatClampNeg 0).toInt ≤ ((sy_ai F 42).getD ((((6 : Int32)) * (sy_i F 11)) + (sy_i F 69)).toNatClampNeg 0).toInt)
    (h3 : (sy_i F 70).toInt < (sy_i F 71).toInt)
    (k : ∀ F1 : Nat → sy_d, (∀ j, j < 69 → True → F1 j = F j) → Q (some (.int (sy_i F 71))) (sy_dh F1 X1 X2 (iv_H 4))) :
    hd_W Ls xs d jm_M179 Q (0, sy_dL F [some (.inl (.ref 1000)), some (.inr (.inl 69)), some (.inr (.inl 70)), some (.inr (.inl 71)), some (.inr (.inl 72)), none, none], sy_dS F [], sy_dh F X1 X2 (iv_H 4), 0, 0) := by
  refine hd_ret (s := 4) (nv := 73) (v := some (.inr (.inl 71))) (uh := hd_ov (iv_id 0 iv_B4) []) (f := true) (sp := [34]) (d0 := 1) (O := [true, false]) (T := [(2, [.inl (.int 6), .inr (.inl 11)], []), (0, [.inr (.inl 73), .inr (.inl 69)], []), (30, [.inr (.inl 74)], [.inr (.inl 42)]), (30, [.inr (.inl 74)], [.inr (.inl 43)])]) (P := [(6, .inr (.inl 74), .inl (.ref 12)), (6, .inr (.inl 74), .inl (.ref 12)), (4, .inr (.inl 76), .inr (.inl 75)), (5, .inr (.inl 71), .inr (.inl 70))]) jm_ok179 (by decide +kernel) (by decide +kernel) hd F X1 X2 (fun F' hF hs => ?_)
  have b11 := hd_b (F := F) (F' := F') (k := 11) (hF 11 (by decide))
  have t73 : sy_dv F' (.inr (.inl 73)) = .int (((6 : Int32)) * (sy_i F 11)) := hd_o (hs 0 _ rfl) rfl b11 rfl
  have b69 := hd_b (F := F) (F' := F') (k := 69) (hF 69 (by decide))
  have t74 : sy_dv F' (.inr (.inl 74)) = .int ((((6 : Int32)) * (sy_i F 11)) + (sy_i F 69)) := hd_o (hs 1 _ rfl) t73 b69 rfl
  have a43 := hd_ba (F := F) (F' := F') (k := 43) (hF 43 (by decide))
  have t76 : sy_dv F' (.inr (.inl 76)) = .int ((sy_ai F 43).getD ((((6 : Int32)) * (sy_i F 11)) + (sy_i F 69)).toNatClampNeg 0) := hd_rd (hs 3 _ rfl) t74 a43
  have a42 := hd_ba (F := F) (F' := F') (k := 42) (hF 42 (by decide))
  have t75 : sy_dv F' (.inr (.inl 75)) = .int ((sy_ai F 42).getD ((((6 : Int32)) * (sy_i F 11)) + (sy_i F 69)).toNatClampNeg 0) := hd_rd (hs 2 _ rfl) t74 a42
  have b71 := hd_b (F := F) (F' := F') (k := 71) (hF 71 (by decide))
  have b70 := hd_b (F := F) (F' := F') (k := 70) (hF 70 (by decide))
  have hB' : iv_in F' iv_B4 := iv_in_eq hB (fun j hj => hF j (Nat.lt_of_lt_of_le hj (by decide +kernel)))
  have hk := k (sy_cm F' (hd_ov (iv_id 0 iv_B4) [] ++ [])) (fun j hj _ => (hd_keep hB' (Nat.lt_of_lt_of_le hj (by decide +kernel)) (by simp)).trans (hF j (Nat.lt_of_lt_of_le hj (by decide))))
  refine ⟨List.forall_mem_cons.mpr ⟨hd_pb t74 (by first | exact h0 | exact h0), List.forall_mem_cons.mpr ⟨hd_pb t74 (by first | exact h1 | exact h1), List.forall_mem_cons.mpr ⟨hd_p4 t76 t75 h2, List.forall_mem_cons.mpr ⟨hd_p5 b71 b70 h3, fun _ h => absurd h List.not_mem_nil⟩⟩⟩⟩, ?_⟩
  show Q (some (sy_dv F' (.inr (.inl 71)))) _
  rw [b71]
  exact hk
theorem ak_0_3 {Ls : Nat} {xs : Nat → Int32} {d : Nat} {Q : Option Value → jm_h → Prop} (hd : 2 ≤ d) (F : Nat → sy_d) (X1 X2 : List jm_c) (hB : iv_in F iv_B4)
    (h0 : 0 ≤ ((((6 : Int32)) * (sy_i F 11)) + (sy_i F 69)).toInt ∧ ((((6 : Int32)) * (sy_i F 11)) + (sy_i F 69)).toInt < 12)
    (h1 : 0 ≤ ((((6 : Int32)) * (sy_i F 11)) + (sy_i F 69)).toInt ∧ ((((6 : Int32)) * (sy_i F 11)) + (sy_i F 69)).toInt < 12)
    (h2 : ((sy_ai F 42).getD ((((6 : Int32)) * (sy_i F 11)) + (sy_i F 69)).toNatClampNeg 0).toInt < ((sy_ai F 43).getD ((((6 : Int32)) * (sy_i F 11)) + (sy_i F 69)).toNatClampNeg 0).toInt)
    (k : ∀ F1 : Nat → sy_d, (∀ j, j < 69 → True → F1 j = F j) → F1 69 = .inl (.int (sy_i F 71)) → F1 70 = .inl (.int (sy_i F 72)) → F1 71 = .inl (.int ((((6 : Int32)) * (sy_i F 11)) + (sy_i F 69))) → hd_W Ls xs d jm_M179 Q (34, sy_dL F1 [some (.inl (.ref 1000)), none, none, some (.inr (.inl 69)), some (.inr (.inl 70)), none, none], sy_dS F1 [.inr (.inl 71), .inl (.ref 1000)], sy_dh F1 X1 X2 (iv_H 4), 0, 0)) :
    hd_W Ls xs d jm_M179 Q (0, sy_dL F [some (.inl (.ref 1000)), some (.inr (.inl 69)), some (.inr (.inl 70)), some (.inr (.inl 71)), some (.inr (.inl 72)), none, none], sy_dS F [], sy_dh F X1 X2 (iv_H 4), 0, 0) := by
  refine hd_run (s := 4) (nv := 73) (pc := 34) (L := [some (.inl (.ref 1000)), none, none, some (.inr (.inl 69)), some (.inr (.inl 70)), none, none]) (S := [.inr (.inl 71), .inl (.ref 1000)]) (uh := hd_ov (iv_id 0 iv_B4) []) (ul := [.inl (.inr (.inl 71)), .inl (.inr (.inl 72)), .inl (.inr (.inl 74))]) (f := true) (sp := [34]) (d0 := 1) (O := [false]) (T := [(2, [.inl (.int 6), .inr (.inl 11)], []), (0, [.inr (.inl 73), .inr (.inl 69)], []), (30, [.inr (.inl 74)], [.inr (.inl 42)]), (30, [.inr (.inl 74)], [.inr (.inl 43)])]) (P := [(6, .inr (.inl 74), .inl (.ref 12)), (6, .inr (.inl 74), .inl (.ref 12)), (5, .inr (.inl 76), .inr (.inl 75))]) jm_ok179 (by decide +kernel) (by decide +kernel) hd F X1 X2 (fun F' hF hs => ?_)
  have b11 := hd_b (F := F) (F' := F') (k := 11) (hF 11 (by decide))
  have t73 : sy_dv F' (.inr (.inl 73)) = .int (((6 : Int32)) * (sy_i F 11)) := hd_o (hs 0 _ rfl) rfl b11 rfl
  have b69 := hd_b (F := F) (F' := F') (k := 69) (hF 69 (by decide))
  have t74 : sy_dv F' (.inr (.inl 74)) = .int ((((6 : Int32)) * (sy_i F 11)) + (sy_i F 69)) := hd_o (hs 1 _ rfl) t73 b69 rfl
  have a43 := hd_ba (F := F) (F' := F') (k := 43) (hF 43 (by decide))
  have t76 : sy_dv F' (.inr (.inl 76)) = .int ((sy_ai F 43).getD ((((6 : Int32)) * (sy_i F 11)) + (sy_i F 69)).toNatClampNeg 0) := hd_rd (hs 3 _ rfl) t74 a43
  have a42 := hd_ba (F := F) (F' := F') (k := 42) (hF 42 (by decide))
  have t75 : sy_dv F' (.inr (.inl 75)) = .int ((sy_ai F 42).getD ((((6 : Int32)) * (sy_i F 11)) + (sy_i F 69)).toNatClampNeg 0) := hd_rd (hs 2 _ rfl) t74 a42
  have b71 := hd_b (F := F) (F' := F') (k := 71) (hF 71 (by decide))
  have b72 := hd_b (F := F) (F' := F') (k := 72) (hF 72 (by decide))
  have hB' : iv_in F' iv_B4 := iv_in_eq hB (fun j hj => hF j (Nat.lt_of_lt_of_le hj (by decide +kernel)))
  refine ⟨List.forall_mem_cons.mpr ⟨hd_pb t74 (by first | exact h0 | exact h0), List.forall_mem_cons.mpr ⟨hd_pb t74 (by first | exact h1 | exact h1), List.forall_mem_cons.mpr ⟨hd_p5 t76 t75 h2, fun _ h => absurd h List.not_mem_nil⟩⟩⟩, ?_⟩
  refine k _ ?_ ?_ ?_ ?_
  · exact fun j hj _ => (hd_keep hB' (Nat.lt_of_lt_of_le hj (by decide +kernel)) (by simp)).trans (hF j (Nat.lt_of_lt_of_le hj (by decide)))
  · exact hd_gi (x := .inr (.inl 71)) (by decide +kernel) b71
  · exact hd_gi (x := .inr (.inl 72)) (by decide +kernel) b72
  · exact hd_gi (x := .inr (.inl 74)) (by decide +kernel) t74
theorem ak_37_0 {Ls : Nat} {xs : Nat → Int32} {d : Nat} {Q : Option Value → jm_h → Prop} (hd : 2 ≤ d) (F : Nat → sy_d) (X1 X2 : List jm_c) (hB : iv_in F iv_B4)
    (h0 : (sy_i F 69).toInt ≤ (sy_i F 72).toInt)
    (h1 : (sy_i F 72).toInt ≤ (sy_i F 70).toInt)
    (k : ∀ F1 : Nat → sy_d, (∀ j, j < 69 → True → F1 j = F j) → Q (some (.int (sy_i F 72))) (sy_dh F1 X1 X2 (iv_H 4))) :
    hd_W Ls xs d jm_M179 Q (37, sy_dL F [some (.inl (.ref 1000)), none, none, some (.inr (.inl 69)), some (.inr (.inl 70)), none, none], sy_dS F [.inr (.inl 72)], sy_dh F X1 X2 (iv_H 4), 0, 0) := by
  refine hd_ret (s := 4) (nv := 73) (v := some (.inr (.inl 72))) (uh := hd_ov (iv_id 0 iv_B4) []) (f := false) (sp := [34]) (d0 := 1) (O := [true, true]) (T := []) (P := [(4, .inr (.inl 69), .inr (.inl 72)), (4, .inr (.inl 72), .inr (.inl 70))]) jm_ok179 (by decide +kernel) (by decide +kernel) hd F X1 X2 (fun F' hF hs => ?_)
  have b69 := hd_b (F := F) (F' := F') (k := 69) (hF 69 (by decide))
  have b72 := hd_b (F := F) (F' := F') (k := 72) (hF 72 (by decide))
  have b70 := hd_b (F := F) (F' := F') (k := 70) (hF 70 (by decide))
  have hB' : iv_in F' iv_B4 := iv_in_eq hB (fun j hj => hF j (Nat.lt_of_lt_of_le hj (by decide +kernel)))
  have hk := k (sy_cm F' (hd_ov (iv_id 0 iv_B4) [] ++ [])) (fun j hj _ => (hd_keep hB' (Nat.lt_of_lt_of_le hj (by decide +kernel)) (by simp)).trans (hF j (Nat.lt_of_lt_of_le hj (by decide))))
  refine ⟨List.forall_mem_cons.mpr ⟨hd_p4 b69 b72 h0, List.forall_mem_cons.mpr ⟨hd_p4 b72 b70 h1, fun _ h => absurd h List.not_mem_nil⟩⟩, ?_⟩
  show Q (some (sy_dv F' (.inr (.inl 72)))) _
  rw [b72]
  exact hk
theorem ak_37_1 {Ls : Nat} {xs : Nat → Int32} {d : Nat} {Q : Option Value → jm_h → Prop} (hd : 2 ≤ d) (F : Nat → sy_d) (X1 X2 : List jm_c) (hB : iv_in F iv_B4)
    (h0 : (sy_i F 69).toInt ≤ (sy_i F 72).toInt)
    (h1 : (sy_i F 70).toInt < (sy_i F 72).toInt)
    (k : ∀ F1 : Nat → sy_d, (∀ j, j < 69 → True → F1 j = F j) → Q (some (.int (sy_i F 70))) (sy_dh F1 X1 X2 (iv_H 4))) :
    hd_W Ls xs d jm_M179 Q (37, sy_dL F [some (.inl (.ref 1000)), none, none, some (.inr (.inl 69)), some (.inr (.inl 70)), none, none], sy_dS F [.inr (.inl 72)], sy_dh F X1 X2 (iv_H 4), 0, 0) := by
  refine hd_ret (s := 4) (nv := 73) (v := some (.inr (.inl 70))) (uh := hd_ov (iv_id 0 iv_B4) []) (f := false) (sp := [34]) (d0 := 1) (O := [true, false]) (T := []) (P := [(4, .inr (.inl 69), .inr (.inl 72)), (5, .inr (.inl 72), .inr (.inl 70))]) jm_ok179 (by decide +kernel) (by decide +kernel) hd F X1 X2 (fun F' hF hs => ?_)
  have b69 := hd_b (F := F) (F' := F') (k := 69) (hF 69 (by decide))
  have b72 := hd_b (F := F) (F' := F') (k := 72) (hF 72 (by decide))
  have b70 := hd_b (F := F) (F' := F') (k := 70) (hF 70 (by decide))
  have hB' : iv_in F' iv_B4 := iv_in_eq hB (fun j hj => hF j (Nat.lt_of_lt_of_le hj (by decide +kernel)))
  have hk := k (sy_cm F' (hd_ov (iv_id 0 iv_B4) [] ++ [])) (fun j hj _ => (hd_keep hB' (Nat.lt_of_lt_of_le hj (by decide +kernel)) (by simp)).trans (hF j (Nat.lt_of_lt_of_le hj (by decide))))
  refine ⟨List.forall_mem_cons.mpr ⟨hd_p4 b69 b72 h0, List.forall_mem_cons.mpr ⟨hd_p5 b72 b70 h1, fun _ h => absurd h List.not_mem_nil⟩⟩, ?_⟩
  show Q (some (sy_dv F' (.inr (.inl 70)))) _
  rw [b70]
  exact hk
theorem ak_37_2 {Ls : Nat} {xs : Nat → Int32} {d : Nat} {Q : Option Value → jm_h → Prop} (hd : 2 ≤ d) (F : Nat → sy_d) (X1 X2 : List jm_c) (hB : iv_in F iv_B4)
    (h0 : (sy_i F 72).toInt < (sy_i F 69).toInt)
    (k : ∀ F1 : Nat → sy_d, (∀ j, j < 69 → True → F1 j = F j) → Q (some (.int (sy_i F 69))) (sy_dh F1 X1 X2 (iv_H 4))) :
    hd_W Ls xs d jm_M179 Q (37, sy_dL F [some (.inl (.ref 1000)), none, none, some (.inr (.inl 69)), some (.inr (.inl 70)), none, none], sy_dS F [.inr (.inl 72)], sy_dh F X1 X2 (iv_H 4), 0, 0) := by
  refine hd_ret (s := 4) (nv := 73) (v := some (.inr (.inl 69))) (uh := hd_ov (iv_id 0 iv_B4) []) (f := false) (sp := [34]) (d0 := 1) (O := [false]) (T := []) (P := [(5, .inr (.inl 69), .inr (.inl 72))]) jm_ok179 (by decide +kernel) (by decide +kernel) hd F X1 X2 (fun F' hF hs => ?_)
  have b69 := hd_b (F := F) (F' := F') (k := 69) (hF 69 (by decide))
  have b72 := hd_b (F := F) (F' := F') (k := 72) (hF 72 (by decide))
  have hB' : iv_in F' iv_B4 := iv_in_eq hB (fun j hj => hF j (Nat.lt_of_lt_of_le hj (by decide +kernel)))
  have hk := k (sy_cm F' (hd_ov (iv_id 0 iv_B4) [] ++ [])) (fun j hj _ => (hd_keep hB' (Nat.lt_of_lt_of_le hj (by decide +kernel)) (by simp)).trans (hF j (Nat.lt_of_lt_of_le hj (by decide))))
  refine ⟨List.forall_mem_cons.mpr ⟨hd_p5 b69 b72 h0, fun _ h => absurd h List.not_mem_nil⟩, ?_⟩
  show Q (some (sy_dv F' (.inr (.inl 69)))) _
  rw [b69]
  exact hk
end
section
/-! ===== the reference: what a law tells, and asking it ===== -/
theorem hd_iveq {F F1 : Nat → sy_d} (hB : iv_in F iv_B4) (g : ∀ j, j < 69 → F1 j = F j) : iv_in F1 iv_B4 := hd_in1 hB (fun j t hj => Or.inl (g j (List.getElem?_eq_some_iff.mp hj).1))
theorem hd_dvi {F : Nat → sy_d} {k : Nat} {X : Int32} (h : F k = .inl (.int X)) : sy_dv F (.inr (.inl k)) = .int X := by
  show Value.int (sy_i F k) = _
  rw [zz_i h]
section LT
variable {Ls : Nat} {xs : Nat → Int32} (F : Nat → sy_d) (X1 X2 : List jm_c)
theorem lt_97 (F1 : Nat → sy_d) (hB : iv_in F1 iv_B4) (hf : ∀ j, j < 69 → j ≠ 17 → j ≠ 53 → F1 j = F j) {X Y : Int32} (hy : F1 71 = .inl (.int Y)) (hx : F1 72 = .inl (.int X)) (h0 : 0 ≤ X.toInt) (h1 : Y.toInt ≤ 840) (hs : rp_seg (sy_ai F 49) (sy_ai F 50) X Y) :
    hd_W Ls xs 2 jm_M180 (te_Q F X1 X2) (97, sy_dL F1 [some (.inl (.ref 1000)), some (.inr (.inl 69)), some (.inr (.inl 70)), none, none], sy_dS F1 [.inr (.inl 71), .inr (.inl 72), .inl (.ref 1000)], sy_dh F1 X1 X2 (iv_H 4), 0, 0) := by
  have e49 : sy_ai F1 49 = sy_ai F 49 := by unfold sy_ai; rw [hf 49 (by decide) (by decide) (by decide)]
  have e50 : sy_ai F1 50 = sy_ai F 50 := by unfold sy_ai; rw [hf 50 (by decide) (by decide) (by decide)]
  refine hd_calI (R := fun _ F' => iv_in F' iv_B4 ∧ ∀ j, j < 69 → j ≠ 17 → j ≠ 53 → F' j = F1 j) (nh := 69) (nv := 73) (s := 4) (s1 := 4) (d1 := 1) (M1 := jm_M166) (As := [.inl (.ref 1000), .inr (.inl 72), .inr (.inl 71)]) (rest := []) jm_ok180 rfl rfl (by decide) (by decide +kernel) (te_T F1 X1 X2 hB (hd_dvi hx) (hd_dvi hy) h0 h1 (by rw [e49, e50]; exact hs)) (fun F2 F' x hR p1 p2 p3 => ?_)
  obtain ⟨hB', hf'⟩ := hR
  have hB2 : iv_in F2 iv_B4 := hd_iveq hB' p1
  by_cases hb : (sy_i F2 17).toInt = 0
  · exact lt_100_0 (by decide) F2 X1 X2 hB2 hb (fun F3 g1 => ⟨_, F3, rfl, rfl, hd_iveq hB2 (fun j hj => g1 j hj trivial), fun j hj a b => by rw [g1 j hj trivial, p1 j hj, hf' j hj a b, hf j hj a b]⟩)
  · exact lt_100_1 (by decide) F2 X1 X2 hB2 hb (fun F3 g1 => ⟨_, F3, rfl, rfl, hd_iveq hB2 (fun j hj => g1 j hj trivial), fun j hj a b => by rw [g1 j hj trivial, p1 j hj, hf' j hj a b, hf j hj a b]⟩)
set_option maxHeartbeats 4000000 in
theorem lt_loop (hBF : iv_in F iv_B4) (hJ : jm_rpn F) {kk : Nat} (hkk : kk < 6) (hat : (sy_i F 69).toNatClampNeg = 6 * (sy_i F 11).toNatClampNeg + kk) (h12 : 0 ≤ (sy_i F 69).toInt ∧ (sy_i F 69).toInt < 12) : ∀ (n : Nat) (F1 : Nat → sy_d), iv_in F1 iv_B4 → (∀ j, j < 69 → j ≠ 17 → j ≠ 53 → F1 j = F j) → sy_i F1 69 = sy_i F 69 → ((sy_ai F 42).getD (sy_i F 69).toNatClampNeg 0).toInt ≤ (sy_i F1 70).toInt → (((sy_ai F 43).getD (sy_i F 69).toNatClampNeg 0).toInt - (sy_i F1 70).toInt).toNat = n →
    hd_W Ls xs 2 jm_M180 (te_Q F X1 X2) (12, sy_dL F1 [some (.inl (.ref 1000)), some (.inr (.inl 69)), some (.inr (.inl 70)), none, none], sy_dS F1 [], sy_dh F1 X1 X2 (iv_H 4), 0, 0) := by
  obtain ⟨l42, q42, b42⟩ := iv_h2 (hBF 42 (2, 0, 260) rfl)
  obtain ⟨l43, q43, b43⟩ := iv_h2 (hBF 43 (2, 0, 260) rfl)
  have b42 := b42 (sy_i F 69).toNatClampNeg
  have b43 := b43 (sy_i F 69).toNatClampNeg
  rw [← zz_ai q42] at b42
  rw [← zz_ai q43] at b43
  intro n
  induction n with
  | zero =>
    intro F1 hB hf e69 h1 h2
    have e43 : sy_ai F1 43 = sy_ai F 43 := by unfold sy_ai; rw [hf 43 (by decide) (by decide) (by decide)]
    exact lt_12_0 (by decide) F1 X1 X2 hB (by rw [e69]; exact h12) (by rw [e69, e43]; omega) (fun F2 g1 => ⟨_, F2, rfl, rfl, hd_iveq hB (fun j hj => g1 j hj trivial), fun j hj a b => by rw [g1 j hj trivial, hf j hj a b]⟩)
  | succ n ih =>
    intro F1 hB hf e69 h1 h2
    have ea : ∀ j, j < 69 → j ≠ 17 → j ≠ 53 → sy_ai F1 j = sy_ai F j := fun j hj a b => by unfold sy_ai; rw [hf j hj a b]
    have hb0 : 0 ≤ (sy_i F1 70).toInt ∧ (sy_i F1 70).toInt < 260 := by omega
    have hbN := hd_nat hb0.1
    have hlt : (sy_i F1 70).toInt < ((sy_ai F 43).getD (sy_i F 69).toNatClampNeg 0).toInt := by omega
    have hinc := hd_inc1 hb0.1 (by omega)
    obtain ⟨j1, j2⟩ := jm_rpn_at hJ (k := kk) (b := (sy_i F1 70).toNatClampNeg) hkk (by rw [← hat, hbN]; exact h1) (by rw [← hat, hbN]; exact hlt)
    obtain ⟨l44, q44, b44⟩ := iv_h2 (hBF 44 (2, 0, 1) rfl)
    obtain ⟨l45, q45, b45⟩ := iv_h2 (hBF 45 (2, 0, 840) rfl)
    obtain ⟨l46, q46, b46⟩ := iv_h2 (hBF 46 (2, 0, 840) rfl)
    obtain ⟨l47, q47, b47⟩ := iv_h2 (hBF 47 (2, 0, 840) rfl)
    obtain ⟨l48, q48, b48⟩ := iv_h2 (hBF 48 (2, 0, 840) rfl)
    have b44 := b44 (sy_i F1 70).toNatClampNeg
    have b45 := b45 (sy_i F1 70).toNatClampNeg
    have b46 := b46 (sy_i F1 70).toNatClampNeg
    have b47 := b47 (sy_i F1 70).toNatClampNeg
    have b48 := b48 (sy_i F1 70).toNatClampNeg
    rw [← zz_ai q44] at b44
    rw [← zz_ai q45] at b45
    rw [← zz_ai q46] at b46
    rw [← zz_ai q47] at b47
    rw [← zz_ai q48] at b48
    have o1 : 0 ≤ (sy_i F1 69).toInt ∧ (sy_i F1 69).toInt < 12 := by rw [e69]; exact h12
    have o2 : (sy_i F1 70).toInt < ((sy_ai F1 43).getD (sy_i F1 69).toNatClampNeg 0).toInt := by rw [e69, ea 43 (by decide) (by decide) (by decide)]; exact hlt
    by_cases ht : ((sy_ai F1 44).getD (sy_i F1 70).toNatClampNeg 0).toInt = 0
    · refine lt_12_1 (by decide) F1 X1 X2 hB o1 o2 hb0 ht hb0 hb0 (fun F2 g1 g2 g3 g4 g5 => ?_)
      rw [ea 48 (by decide) (by decide) (by decide)] at g4
      rw [ea 47 (by decide) (by decide) (by decide)] at g5
      exact lt_97 F X1 X2 F2 (hd_iveq hB (fun j hj => g1 j hj trivial)) (fun j hj a b => by rw [g1 j hj trivial, hf j hj a b]) g4 g5 b47.1 b48.2 j2
    · have ht1 : (sy_ai F 44).getD (sy_i F1 70).toNatClampNeg 0 = 1 := by
        rw [ea 44 (by decide) (by decide) (by decide)] at ht
        refine Int32.toInt_inj.mp ?_
        have : (1 : Int32).toInt = 1 := by decide
        rw [this]
        omega
      obtain ⟨s1, s2⟩ := j1 ht1
      refine lt_12_2 (by decide) F1 X1 X2 hB o1 o2 hb0 ht hb0 hb0 (fun F2 g1 g2 g3 g4 g5 => ?_)
      rw [ea 46 (by decide) (by decide) (by decide)] at g4
      rw [ea 45 (by decide) (by decide) (by decide)] at g5
      have f2 : ∀ j, j < 69 → j ≠ 17 → j ≠ 53 → F2 j = F j := fun j hj a b => by rw [g1 j hj trivial, hf j hj a b]
      have hB2 : iv_in F2 iv_B4 := hd_iveq hB (fun j hj => g1 j hj trivial)
      have c49 : sy_ai F2 49 = sy_ai F 49 := by unfold sy_ai; rw [f2 49 (by decide) (by decide) (by decide)]
      have c50 : sy_ai F2 50 = sy_ai F 50 := by unfold sy_ai; rw [f2 50 (by decide) (by decide) (by decide)]
      refine hd_calI (R := fun _ F' => iv_in F' iv_B4 ∧ ∀ j, j < 69 → j ≠ 17 → j ≠ 53 → F' j = F2 j) (nh := 69) (nv := 73) (s := 4) (s1 := 4) (d1 := 1) (M1 := jm_M166) (As := [.inl (.ref 1000), .inr (.inl 72), .inr (.inl 71)]) (rest := []) jm_ok180 rfl rfl (by decide) (by decide +kernel) (te_T F2 X1 X2 hB2 (hd_dvi g5) (hd_dvi g4) b45.1 b46.2 (by rw [c49, c50]; exact s1)) (fun F3 F' x hR p1 p2 p3 => ?_)
      obtain ⟨hB', hf'⟩ := hR
      have f3 : ∀ j, j < 69 → j ≠ 17 → j ≠ 53 → F3 j = F j := fun j hj a b => by rw [p1 j hj, hf' j hj a b, f2 j hj a b]
      have hB3 : iv_in F3 iv_B4 := hd_iveq hB' p1
      have i70 : sy_i F3 70 = sy_i F1 70 := by
        have : F3 70 = F2 70 := p2 70 (by decide) (by decide)
        exact zz_i (this.trans g3)
      have i69 : sy_i F3 69 = sy_i F1 69 := by
        have : F3 69 = F2 69 := p2 69 (by decide) (by decide)
        exact zz_i (this.trans g2)
      refine lt_47_0 (by decide) F3 X1 X2 hB3 (by rw [i70]; exact hb0) (by rw [i70]; exact hb0) (fun F4 k1 k2 k3 k4 k5 k6 => ?_)
      have f4 : ∀ j, j < 69 → j ≠ 17 → j ≠ 53 → F4 j = F j := fun j hj a b => by rw [k1 j hj trivial, f3 j hj a b]
      have hB4 : iv_in F4 iv_B4 := hd_iveq hB3 (fun j hj => k1 j hj trivial)
      have d49 : sy_ai F4 49 = sy_ai F 49 := by unfold sy_ai; rw [f4 49 (by decide) (by decide) (by decide)]
      have d50 : sy_ai F4 50 = sy_ai F 50 := by unfold sy_ai; rw [f4 50 (by decide) (by decide) (by decide)]
      have d47 : sy_ai F3 47 = sy_ai F 47 := by unfold sy_ai; rw [f3 47 (by decide) (by decide) (by decide)]
      have d46 : sy_ai F3 46 = sy_ai F 46 := by unfold sy_ai; rw [f3 46 (by decide) (by decide) (by decide)]
      rw [d47, i70] at k5
      rw [d46, i70] at k6
      refine hd_calI (R := fun _ F' => iv_in F' iv_B4 ∧ ∀ j, j < 69 → j ≠ 17 → j ≠ 53 → F' j = F4 j) (nh := 69) (nv := 74) (s := 4) (s1 := 4) (d1 := 1) (M1 := jm_M166) (As := [.inl (.ref 1000), .inr (.inl 73), .inr (.inl 72)]) (rest := []) jm_ok180 rfl rfl (by decide) (by decide +kernel) (te_T F4 X1 X2 hB4 (hd_dvi k6) (hd_dvi k5) b46.1 b47.2 (by rw [d49, d50]; exact s2)) (fun F5 F6 y hR2 r1 r2 r3 => ?_)
      obtain ⟨hB6, hf6⟩ := hR2
      have f5 : ∀ j, j < 69 → j ≠ 17 → j ≠ 53 → F5 j = F j := fun j hj a b => by rw [r1 j hj, hf6 j hj a b, f4 j hj a b]
      have hB5 : iv_in F5 iv_B4 := hd_iveq hB6 r1
      have m70 : sy_i F5 70 = sy_i F1 70 := by
        have : F5 70 = F4 70 := r2 70 (by decide) (by decide)
        rw [zz_i (this.trans k3)]
        exact i70
      have m69 : sy_i F5 69 = sy_i F1 69 := by
        have : F5 69 = F4 69 := r2 69 (by decide) (by decide)
        rw [zz_i (this.trans k2)]
        exact i69
      by_cases hbr : (sy_i F5 17).toInt = 0
      · by_cases huv : (sy_i F5 71).toInt < (sy_i F5 74).toInt
        · refine lt_64_0 (by decide) F5 X1 X2 hB5 hbr huv (by rw [m70]; exact hb0) (by rw [m70]; exact hb0) (fun F7 w1 w2 w3 w4 w5 => ?_)
          have e48 : sy_ai F5 48 = sy_ai F 48 := by unfold sy_ai; rw [f5 48 (by decide) (by decide) (by decide)]
          have e47 : sy_ai F5 47 = sy_ai F 47 := by unfold sy_ai; rw [f5 47 (by decide) (by decide) (by decide)]
          rw [e48, m70] at w4
          rw [e47, m70] at w5
          exact lt_97 F X1 X2 F7 (hd_iveq hB5 (fun j hj => w1 j hj trivial)) (fun j hj a b => by rw [w1 j hj trivial, f5 j hj a b]) w4 w5 b47.1 b48.2 j2
        · refine lt_64_1 (by decide) F5 X1 X2 hB5 hbr (Int.not_lt.mp huv) (fun F7 w1 w2 w3 => ?_)
          have n70 := zz_i w3
          have n69 := zz_i w2
          rw [m70] at n70
          rw [m69] at n69
          refine ih F7 (hd_iveq hB5 (fun j hj => w1 j hj trivial)) (fun j hj a b => by rw [w1 j hj trivial, f5 j hj a b]) (by rw [n69, e69]) ?_ ?_
          · rw [n70, hinc]; omega
          · rw [n70, hinc]; omega
      · exact lt_64_2 (by decide) F5 X1 X2 hB5 hbr (fun F7 w1 => ⟨_, F7, rfl, rfl, hd_iveq hB5 (fun j hj => w1 j hj trivial), fun j hj a b => by rw [w1 j hj trivial, f5 j hj a b]⟩)
end LT
end
section
/-! ===== the reference: asking a law ===== -/
theorem ak_mul {L : Int32} (h0 : 0 ≤ L.toInt) (h1 : L.toInt ≤ 1) : ((6 : Int32) * L).toInt = 6 * L.toInt := by
  have e : (6 : Int32).toInt = 6 := by decide
  rw [Jvm.Kit.i32_mul (by rw [e]; omega) (by rw [e]; omega), e]
theorem ak_add {A K : Int32} (h0 : 0 ≤ A.toInt) (h1 : A.toInt ≤ 6) (h2 : 0 ≤ K.toInt) (h3 : K.toInt ≤ 5) : (A + K).toInt = A.toInt + K.toInt := Jvm.Kit.i32_add (by omega) (by omega)
theorem ak_at0 {A K L : Int32} (e : A.toInt = 6 * L.toInt) (h0 : 0 ≤ L.toInt) (h1 : L.toInt ≤ 1) (h2 : 0 ≤ K.toInt) (h3 : K.toInt ≤ 5) : (0 ≤ (A + K).toInt ∧ (A + K).toInt < 12) ∧ (A + K).toNatClampNeg = 6 * L.toNatClampNeg + K.toNatClampNeg ∧ K.toNatClampNeg < 6 := by
  have e2 := ak_add (A := A) (K := K) (by omega) (by omega) h2 h3
  have a : (A + K).toNatClampNeg = (A + K).toInt.toNat := rfl
  have b : L.toNatClampNeg = L.toInt.toNat := rfl
  have c : K.toNatClampNeg = K.toInt.toNat := rfl
  rw [a, b, c, e2]
  omega
theorem ak_at {K L : Int32} (h0 : 0 ≤ L.toInt) (h1 : L.toInt ≤ 1) (h2 : 0 ≤ K.toInt) (h3 : K.toInt ≤ 5) : (0 ≤ ((6 : Int32) * L + K).toInt ∧ ((6 : Int32) * L + K).toInt < 12) ∧ ((6 : Int32) * L + K).toNatClampNeg = 6 * L.toNatClampNeg + K.toNatClampNeg ∧ K.toNatClampNeg < 6 := ak_at0 (ak_mul h0 h1) h0 h1 h2 h3
section AK
variable {Ls : Nat} {xs : Nat → Int32} (F : Nat → sy_d) (X1 X2 : List jm_c)
theorem lt_T (hB : iv_in F iv_B4) (hJ : jm_rpn F) {x : sy_v} {X : Int32} (hx : sy_dv F x = .int X) {kk : Nat} (hkk : kk < 6) (hat : X.toNatClampNeg = 6 * (sy_i F 11).toNatClampNeg + kk) (h12 : 0 ≤ X.toInt ∧ X.toInt < 12) :
    jm_T Ls xs 2 jm_M180 ([.inl (.ref 1000), x].map (sy_dv F)) (sy_dh F X1 X2 (iv_H 4)) 0 0 (te_Q F X1 X2) := by
  obtain ⟨F0, hF0⟩ : ∃ F0 : Nat → sy_d, F0 = fun j => if j = 69 then .inl (.int X) else F j := ⟨_, rfl⟩
  have k0 : ∀ j, j < 69 → F0 j = F j := fun j hj => by
    rw [hF0]
    dsimp only
    rw [if_neg (by omega)]
  have k1 : F0 69 = .inl (.int X) := by rw [hF0]; rfl
  have hB0 : iv_in F0 iv_B4 := hd_iveq hB k0
  have hJ0 : jm_rpn F0 := jm_rpn_eq (fun q hq => k0 q (by revert q; decide)) hJ
  have e11 : sy_i F0 11 = sy_i F 11 := by unfold sy_i; rw [k0 11 (by decide)]
  have i69 : sy_i F0 69 = X := zz_i k1
  have eA : ([.inl (.ref 1000), x] : List sy_v).map (sy_dv F) = ([.inl (.ref 1000), .inr (.inl 69)] : List sy_v).map (sy_dv F0) := by
    show [Value.ref 1000, sy_dv F x] = [Value.ref 1000, .int (sy_i F0 69)]
    rw [hx, i69]
  have eH : sy_dh F X1 X2 (iv_H 4) = sy_dh F0 X1 X2 (iv_H 4) := by
    have g1 : sy_gw 69 (iv_H 4).1 = true := by decide +kernel
    have g2 : sy_gw 69 (iv_H 4).2 = true := by decide +kernel
    simp only [sy_dh, sy_gw_ok g1 k0, sy_gw_ok g2 k0]
  rw [eA, eH]
  refine jm_T_mono (P1 := te_Q F0 X1 X2) (hd_T (As := [.inl (.ref 1000), .inr (.inl 69)]) jm_ok180 (by decide) (lt_0_0 (by decide) F0 X1 X2 hB0 (by rw [i69]; exact h12) (fun F1 g1 g2 g3 g4 => ?_))) ?_
  · have hB1 : iv_in F1 iv_B4 := hd_in1 hB0 (fun j t hj => by
      by_cases h : j = 17
      · subst h
        right
        have ht : t = (0, 0, 1) := (Option.some.inj hj).symm
        rw [g2, ht]
        exact ⟨rfl, by decide, by decide⟩
      · exact Or.inl (g1 j (List.getElem?_eq_some_iff.mp hj).1 h))
    have m69 := zz_i g3
    have m70 := zz_i g4
    refine lt_loop F0 X1 X2 hB0 hJ0 hkk (by rw [i69, e11]; exact hat) (by rw [i69]; exact h12) _ F1 hB1 (fun j hj a _ => g1 j hj a) m69 ?_ rfl
    rw [m70]
    exact Int.le_refl _
  · rintro v G ⟨y, F', rfl, rfl, hB', hf⟩
    exact ⟨y, F', rfl, rfl, hB', fun j hj a b => by rw [hf j hj a b, k0 j hj]⟩
theorem ak_T (hB : iv_in F iv_B4) (hJ : jm_rpn F) (h1 : 0 ≤ (sy_i F 69).toInt) (h2 : (sy_i F 69).toInt ≤ 5) (h3 : (sy_i F 71).toInt ≤ (sy_i F 72).toInt) :
    jm_T Ls xs 4 jm_M179 (([.inl (.ref 1000), .inr (.inl 69), .inr (.inl 70), .inr (.inl 71), .inr (.inl 72)] : List sy_v).map (sy_dv F)) (sy_dh F X1 X2 (iv_H 4)) 0 0 (fun v G => ∃ (x : Int32) (F' : Nat → sy_d), v = some (.int x) ∧ G = sy_dh F' X1 X2 (iv_H 4) ∧ (iv_in F' iv_B4 ∧ ∀ j, j < 69 → j ≠ 17 → j ≠ 53 → F' j = F j) ∧ (sy_i F 71).toInt ≤ x.toInt ∧ x.toInt ≤ (sy_i F 72).toInt) := by
  obtain ⟨L, hL, l1, l2⟩ := iv_h0 (hB 11 (0, 0, 1) rfl)
  have eL := zz_i hL
  obtain ⟨a1, a2, a3⟩ := ak_at (K := sy_i F 69) (L := sy_i F 11) (by rw [eL]; exact l1) (by rw [eL]; exact l2) h1 h2
  refine hd_T (As := [.inl (.ref 1000), .inr (.inl 69), .inr (.inl 70), .inr (.inl 71), .inr (.inl 72)]) jm_ok179 (by decide) ?_
  by_cases hlt : ((sy_ai F 42).getD ((6 : Int32) * (sy_i F 11) + (sy_i F 69)).toNatClampNeg 0).toInt < ((sy_ai F 43).getD ((6 : Int32) * (sy_i F 11) + (sy_i F 69)).toNatClampNeg 0).toInt
  · refine ak_0_3 (by decide) F X1 X2 hB a1 a1 hlt (fun F1 g1 g2 g3 g4 => ?_)
    have hB1 : iv_in F1 iv_B4 := hd_iveq hB (fun j hj => g1 j hj trivial)
    have hJ1 : jm_rpn F1 := jm_rpn_eq (fun q hq => g1 q (by revert q; decide) trivial) hJ
    have e11 : sy_i F1 11 = sy_i F 11 := by unfold sy_i; rw [g1 11 (by decide) trivial]
    refine hd_calI (R := fun _ F' => iv_in F' iv_B4 ∧ ∀ j, j < 69 → j ≠ 17 → j ≠ 53 → F' j = F1 j) (nh := 69) (nv := 72) (s := 4) (s1 := 4) (d1 := 2) (M1 := jm_M180) (As := [.inl (.ref 1000), .inr (.inl 71)]) (rest := []) jm_ok179 rfl rfl (by decide) (by decide +kernel) (lt_T F1 X1 X2 hB1 hJ1 (hd_dvi g4) a3 (by rw [e11]; exact a2) a1) (fun F2 F' x hR p1 p2 p3 => ?_)
    obtain ⟨hB', hf'⟩ := hR
    have hB2 : iv_in F2 iv_B4 := hd_iveq hB' p1
    have i69 : sy_i F2 69 = sy_i F 71 := zz_i ((p2 69 (by decide) (by decide)).trans g2)
    have i70 : sy_i F2 70 = sy_i F 72 := zz_i ((p2 70 (by decide) (by decide)).trans g3)
    have fr : ∀ F3 : Nat → sy_d, (∀ j, j < 69 → True → F3 j = F2 j) → iv_in F3 iv_B4 ∧ ∀ j, j < 69 → j ≠ 17 → j ≠ 53 → F3 j = F j := fun F3 w => ⟨hd_iveq hB2 (fun j hj => w j hj trivial), fun j hj a b => by rw [w j hj trivial, p1 j hj, hf' j hj a b, g1 j hj trivial]⟩
    by_cases c1 : (sy_i F2 72).toInt < (sy_i F2 69).toInt
    · refine ak_37_2 (by decide) F2 X1 X2 hB2 c1 (fun F3 w => ⟨_, F3, rfl, rfl, fr F3 w, ?_, ?_⟩)
      · rw [i69]; exact Int.le_refl _
      · rw [i69]; exact h3
    · by_cases c2 : (sy_i F2 70).toInt < (sy_i F2 72).toInt
      · refine ak_37_1 (by decide) F2 X1 X2 hB2 (Int.not_lt.mp c1) c2 (fun F3 w => ⟨_, F3, rfl, rfl, fr F3 w, ?_, ?_⟩)
        · rw [i70]; exact h3
        · rw [i70]; exact Int.le_refl _
      · refine ak_37_0 (by decide) F2 X1 X2 hB2 (Int.not_lt.mp c1) (Int.not_lt.mp c2) (fun F3 w => ⟨_, F3, rfl, rfl, fr F3 w, ?_, ?_⟩)
        · rw [← i69]; exact Int.not_lt.mp c1
        · rw [← i70]; exact Int.not_lt.mp c2
  · have hle := Int.not_lt.mp hlt
    have fr : ∀ F3 : Nat → sy_d, (∀ j, j < 69 → True → F3 j = F j) → iv_in F3 iv_B4 ∧ ∀ j, j < 69 → j ≠ 17 → j ≠ 53 → F3 j = F j := fun F3 w => ⟨hd_iveq hB (fun j hj => w j hj trivial), fun j hj a b => w j hj trivial⟩
    by_cases c1 : (sy_i F 70).toInt < (sy_i F 71).toInt
    · exact ak_0_2 (by decide) F X1 X2 hB a1 a1 hle c1 (fun F3 w => ⟨_, F3, rfl, rfl, fr F3 w, Int.le_refl _, h3⟩)
    · by_cases c2 : (sy_i F 72).toInt < (sy_i F 70).toInt
      · exact ak_0_1 (by decide) F X1 X2 hB a1 a1 hle (Int.not_lt.mp c1) c2 (fun F3 w => ⟨_, F3, rfl, rfl, fr F3 w, h3, Int.le_refl _⟩)
      · exact ak_0_0 (by decide) F X1 X2 hB a1 a1 hle (Int.not_lt.mp c1) (Int.not_lt.mp c2) (fun F3 w => ⟨_, F3, rfl, rfl, fr F3 w, Int.not_lt.mp c1, Int.not_lt.mp c2⟩)
end AK
theorem ak_ct (kl kh pl ph lo hi : Int) (h0 : 0 ≤ kl) (h1 : kh ≤ 5) (h2 : lo ≤ hi) : ct_ok jj (179, [.inl (.ref 1000), .inr (.inl 69), .inr (.inl 70), .inr (.inl 71), .inr (.inl 72)], 4, [4], iv_B4 ++ [(0, kl, kh), (0, pl, ph), (0, lo, lo), (0, hi, hi)], [17, 53], iv_B4, some (0, lo, hi), 4) := by
  intro M hM Ls xs F X1 X2 hE hJ
  have hM : jm_TB[179]? = some M := hM
  have e : jm_TB[179]? = some jm_M179 := rfl
  rw [e] at hM
  cases hM
  have hE : iv_in F (iv_B4 ++ [(0, kl, kh), (0, pl, ph), (0, lo, lo), (0, hi, hi)]) := hE
  have hB : iv_in F iv_B4 := fun k t hk => hE k t (by rw [List.getElem?_append_left (List.getElem?_eq_some_iff.mp hk).1]; exact hk)
  have hJ : jm_rpn F := hJ
  obtain ⟨x, hx, x1, x2⟩ := iv_h0 (hE 69 (0, kl, kh) rfl)
  obtain ⟨y, hy, y1, y2⟩ := iv_h0 (hE 71 (0, lo, lo) rfl)
  obtain ⟨z, hz, z1, z2⟩ := iv_h0 (hE 72 (0, hi, hi) rfl)
  have ex := zz_i hx
  have ey := zz_i hy
  have ez := zz_i hz
  refine jm_T_mono (ak_T F X1 X2 hB hJ (by rw [ex]; omega) (by rw [ex]; omega) (by rw [ey, ez]; omega)) ?_
  rintro v G ⟨w, F', rfl, rfl, ⟨hB', hf⟩, w1, w2⟩
  rw [ey] at w1
  rw [ez] at w2
  refine ⟨4, F', List.mem_cons_self, rfl, fun j hj hw => ?_, hB', ⟨rfl, ?_, ?_⟩, ?_⟩
  · have hw : ([17, 53] : List Nat).contains j = false := hw
    have hn : j ≠ 17 ∧ j ≠ 53 := by
      constructor
      · intro q; subst q; exact absurd hw (by decide)
      · intro q; subst q; exact absurd hw (by decide)
    exact hf j hj hn.1 hn.2
  · show lo ≤ _
    omega
  · show _ ≤ hi
    omega
  · exact jm_rpn_eq (fun q hq => hf q (by revert q; decide) (by revert q; decide) (by revert q; decide)) hJ
theorem ok_4_179_v0_9 : ct_ok jj k_4_179_v0_9 := ak_ct 0 0 0 0 0 9 (by decide) (by decide) (by decide)
theorem ok_4_179_v0_100 : ct_ok jj k_4_179_v0_100 := ak_ct 2 5 (-2147483648) 2147483647 0 100 (by decide) (by decide) (by decide)
theorem ok_4_179_vm9_9 : ct_ok jj k_4_179_vm9_9 := ak_ct 1 4 0 1 (-9) 9 (by decide) (by decide) (by decide)
theorem ok_4_179_v0_99 : ct_ok jj k_4_179_v0_99 := ak_ct 3 3 (-2147483648) 2147483647 0 99 (by decide) (by decide) (by decide)
end
section
/-! ===== the class: a number is cut out ===== -/
theorem cn_num {N : Int64} {T : Int32} (h0 : 0 ≤ N.toInt) (h1 : N.toInt ≤ 100000) (h2 : 48 ≤ T.toInt) (h3 : T.toInt ≤ 57) : (N * (10 : Int64) + (T - (48 : Int32)).toInt64).toInt = N.toInt * 10 + (T.toInt - 48) := by
  have e10 : (10 : Int64).toInt = 10 := by decide
  have e48 : (48 : Int32).toInt = 48 := by decide
  have m : (N * (10 : Int64)).toInt = N.toInt * 10 := by rw [Jvm.Kit.i64_mul (by rw [e10]; omega) (by rw [e10]; omega), e10]
  have d : (T - (48 : Int32)).toInt = T.toInt - 48 := by rw [Jvm.Kit.i32_sub (by rw [e48]; omega) (by rw [e48]; omega), e48]
  have d2 : (T - (48 : Int32)).toInt64.toInt = T.toInt - 48 := by rw [Jvm.Kit.i64_of_i32, d]
  rw [Jvm.Kit.i64_add (by rw [m, d2]; omega) (by rw [m, d2]; omega), m, d2]
def cn_C (q : Int) (N : Int64) : Prop := ∀ m : Nat, q = m → m ≤ 4 → 0 ≤ N.toInt ∧ N.toInt + 1 ≤ 10 ^ m
def cn_Q (s : Nat) (F : Nat → sy_d) (X1 X2 : List jm_c) : Option Value → jm_h → Prop := fun v G => ∃ (x : Int32) (F' : Nat → sy_d), v = some (.int x) ∧ G = sy_dh F' X1 X2 (iv_H s) ∧ (iv_in F' iv_B0 ∧ (∀ j, j < 82 → j ≠ 39 ∧ j ≠ 41 → F' j = F j) ∧ jx_ok F') ∧ 0 ≤ x.toInt ∧ x.toInt ≤ 2000
end
section
/-! ===== the class: the kind of a word ===== -/
def jt (_ : Nat) (_ : Nat → sy_d) : Prop := True
noncomputable def jt_pl : iv_pl := (fun _ _ _ _ _ => none, fun _ _ _ _ _ _ => true)
noncomputable def kt_0_62_31 : iv_ct := (62, [.inl (.ref 31), .inr (.inr 82)], 0, [0], iv_B0 ++ [iz1], [], iv_B0, some (0, 0, 23), 1)
noncomputable def kt_1_62_31 : iv_ct := (62, [.inl (.ref 31), .inr (.inr 82)], 1, [1], iv_B0 ++ [iz1], [], iv_B0, some (0, 0, 23), 1)
noncomputable def kt_2_62_31 : iv_ct := (62, [.inl (.ref 31), .inr (.inr 82)], 2, [2], iv_B0 ++ [iz1], [], iv_B0, some (0, 0, 23), 1)
noncomputable def kt_3_62_31 : iv_ct := (62, [.inl (.ref 31), .inr (.inr 82)], 3, [3], iv_B0 ++ [iz1], [], iv_B0, some (0, 0, 23), 1)
end
section
/-! ===== back: what it answers ===== -/
/-- the bytes behind, the answer -/
def bk_t (t a : Int32) : Int32 := if a.toInt < 0 ∨ t.toInt < a.toInt then t else t - a
def bk_v (t a : Int32) : Int32 := if a.toInt < 0 ∨ t.toInt < a.toInt then -1 else t - a
end
section
/-! ===== feed: what it answers ===== -/
def fd_t (t : Int32) : Int32 := if 2000 < t.toInt + 20 then t else t + 20
def fd_v (t : Int32) : Int32 := if 2000 < t.toInt + 20 then -1 else t + 20
end
