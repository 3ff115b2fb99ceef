/-! ===== by hand: runs from place to place, with what the numbers are ===== -/
/-- from a state the method comes to its end, with an answer and cells that Q says -/
def hd_W (Ls : Nat) (xs : Nat → Int32) (d : Nat) (M : jm_M) (Q : Option Value → jm_h → Prop) (st : jm_St) : Prop :=
  ∀ ⦃p : Program⦄ ⦃l : Launch⦄ ⦃e : Env⦄ ⦃ss : State⦄ ⦃m : MethodId⦄ ⦃args : Array Value⦄ ⦃below : List Frame⦄ ⦃meth : Method⦄ ⦃cc : Code⦄ ⦃D : va_G⦄ ⦃h0 : Nat⦄ ⦃ex : Nat → Nat⦄ ⦃ka : Nat → ClassId⦄ ⦃G0 : jm_h⦄ ⦃Post : Option Value → jm_h → Prop⦄, jm_C p ss m args meth cc D h0 ex ka Ls xs M (jm_len G0) → (∀ v G1, Q v G1 → Post v G1) →
    jm_W p l e (jm_room d 0 0) ss m args below meth cc D h0 ex ka M (jm_len G0) (MQ below (jm_Qc D h0 ex ka 0 G0 Post) args ss 0 0 (fun q => h0 ≤ q)) st
/-- a stronger end serves a weaker one -/
theorem jm_T_mono {Ls : Nat} {xs : Nat → Int32} {d : Nat} {M : jm_M} {As : List Value} {G : jm_h} {mc ms : Nat} {P1 P2 : Option Value → jm_h → Prop} (hT : jm_T Ls xs d M As G mc ms P1) (h : ∀ v G1, P1 v G1 → P2 v G1) : jm_T Ls xs d M As G mc ms P2 := by
  intro l D h0 ex ka
  have h3 := hT l D h0 ex ka
  exact fun p e ha hc hk s m args below hf happ hP hK => by
    obtain ⟨n, o, a1, a2, a3, ⟨⟨w, G2, hp, hl, ho, hR⟩, hfr⟩, a5⟩ := h3 p e ha hc hk s m args below hf happ hP hK
    exact ⟨n, o, a1, a2, a3, ⟨⟨_, _, h _ _ hp, hl, ho, hR⟩, hfr⟩, a5⟩
theorem hd_T {Ls : Nat} {xs : Nat → Int32} {d : Nat} {M : jm_M} {As : List sy_v} {Q : Option Value → jm_h → Prop} {F : Nat → sy_d} {G : jm_h} (hok : jm_ok jm_YN M) (hA : (sy_e1 As).length ≤ jm_mx M) (h : hd_W Ls xs d M Q (0, sy_dL F (sy_ent (jm_mx M) As), [], G, 0, 0)) : jm_T Ls xs d M (As.map (sy_dv F)) G 0 0 Q := by
  refine jm_T_intro hok (by rw [sy_e1_ok]; simpa [sy_dL] using hA) (fun p l e s m args below meth cc D h0 ex ka C1 => ?_)
  rw [sy_ent_ok]
  exact h C1 (fun _ _ h => h)
theorem hd_call {Ls : Nat} {xs : Nat → Int32} {d d1 : Nat} {M M1 : jm_M} {Q P1 : Option Value → jm_h → Prop} {pc : Nat} {i : jm_I} {L : List (Option sy_v)} {S As rest : List sy_v} {G : sy_h} {F : Nat → sy_d} {X1 X2 : List jm_c} (hM : jm_ok jm_YN M) (hi : jm_in M pc = some i) (hcf : sy_cf jm_TB i G S = some (M1, As, rest)) (hT : jm_T Ls xs d1 M1 (As.map (sy_dv F)) (sy_dh F X1 X2 G) 0 0 P1) (hd : d1 + 1 ≤ d)
    (k : ∀ v G1, P1 v G1 → hd_W Ls xs d M Q (pc + 3, sy_dL F L, v.toList ++ sy_dS F rest, G1, 0, 0)) : hd_W Ls xs d M Q (pc, sy_dL F L, sy_dS F S, sy_dh F X1 X2 G, 0, 0) := by
  intro p l e ss m args below meth cc D h0 ex ka G0 Post C0 hP
  exact jm_call_ok jm_TBok jm_hYN C0 (jm_in_ck hM.2.2.2.2.2.2.2.2.2 hi) (sy_cf_ok hcf F X1 X2) hT (show d1 + 1 ≤ d from hd) (show 64 * d1 + 64 ≤ 64 * d by omega) (Nat.zero_le _) (Nat.zero_le _) (fun v G1 h1 _ => k v G1 h1 C0 hP)
noncomputable def hd_ov (u : sy_u) : List (Nat × (sy_v ⊕ sy_a)) → sy_u
  | [] => u
  | q :: r => (hd_ov u r).set q.1 q.2
noncomputable def hd_bu (a b : sy_v ⊕ sy_a) : Bool := match a, b with
  | .inl x, .inl y => sy_bv x y
  | .inr x, .inr y => sy_ba x y
  | _, _ => false
theorem hd_bu_ok {a b : sy_v ⊕ sy_a} (h : hd_bu a b = true) : a = b := by
  unfold hd_bu at h
  split at h
  · rw [sy_bv_ok h]
  · rw [sy_ba_ok h]
  · cases h
noncomputable def hd_at (o : Option (zz_r × sy_x)) (pc s : Nat) (L : List (Option sy_v)) (S : List sy_v) (uh ul : sy_u) (T : List sy_e) (P : List sy_p) : Bool := match o with
  | some (.inl (pc1, L1, S1, G1), T1, P1, _) => Nat.beq pc1 pc && Nat.beq uh.length (iv_nh s) && (match zz_mh (iv_H s) G1 with
    | some u1 => sy_bl hd_bu u1 uh
    | none => false) && sy_bl (zz_mo (iv_nh s) ul) L L1 && sy_bl (zz_mv (iv_nh s) ul) S S1 && sy_bl sy_be T1 T && sy_bl sy_bp P1 P
  | _ => false
noncomputable def hd_fin (o : Option (zz_r × sy_x)) (s : Nat) (v : Option sy_v) (uh : sy_u) (T : List sy_e) (P : List sy_p) : Bool := match o with
  | some (.inr (v1, G1), T1, P1, _) => (match v1, v with
    | none, none => true
    | some a, some b => sy_bv a b
    | _, _ => false) && (match zz_mh (iv_H s) G1 with
    | some u1 => sy_bl hd_bu u1 uh
    | none => false) && sy_bl sy_be T1 T && sy_bl sy_bp P1 P
  | _ => false
section HD
variable {Ls : Nat} {xs : Nat → Int32} {d : Nat} {M : jm_M} {Q : Option Value → jm_h → Prop} {nv d0 pc0 s0 pc s : Nat} {sp : List Nat} {f : Bool} {L0 L : List (Option sy_v)} {S0 S : List sy_v} {O : List Bool} {uh ul : sy_u} {T : List sy_e} {P : List sy_p} {v : Option sy_v}
theorem hd_run (hM : jm_ok jm_YN M) (h : hd_at (zz_go jm_TB nv sp [] 3000 d0 M f pc0 L0 S0 (iv_H s0) ([], [], O)) pc s L S uh ul T P = true) (hw : (sy_wf nv T && sy_sw nv L0 S0 (iv_H s0)) = true) (hd : d0 + 1 ≤ d) (F : Nat → sy_d) (X1 X2 : List jm_c)
    (k : ∀ F' : Nat → sy_d, (∀ j, j < nv → F' j = F j) → sy_sat F' nv T → (∀ p ∈ P, sy_ps F' p) ∧ hd_W Ls xs d M Q (pc, sy_dL (sy_cm F' (uh ++ ul)) L, sy_dS (sy_cm F' (uh ++ ul)) S, sy_dh (sy_cm F' (uh ++ ul)) X1 X2 (iv_H s), 0, 0)) :
    hd_W Ls xs d M Q (pc0, sy_dL F L0, sy_dS F S0, sy_dh F X1 X2 (iv_H s0), 0, 0) := by
  rw [Bool.and_eq_true] at hw
  obtain ⟨F', hF, hs⟩ := sy_ex F hw.1
  obtain ⟨hp, hk⟩ := k F' hF hs
  unfold hd_at at h
  split at h
  · rename_i pc1 L1 S1 G1 T1 P1 O1 hgo
    simp only [Bool.and_eq_true] at h
    obtain ⟨⟨⟨⟨⟨⟨h1, h2⟩, h3⟩, h4⟩, h5⟩, h6⟩, h7⟩ := h
    have e1 := Nat.eq_of_beq_eq_true h1
    have e2 := Nat.eq_of_beq_eq_true h2
    have e6 := sy_bl_ok sy_be_ok h6
    have e7 := sy_bl_ok sy_bp_ok h7
    subst e1
    subst e6
    subst e7
    split at h3
    · rename_i u1 hmh
      have e3 := sy_bl_ok hd_bu_ok h3
      subst e3
      intro p l e ss m args below meth cc D h0 ex ka G0 Post C0 hP
      obtain ⟨-, -, a3⟩ := zz_go_ok (Ls := Ls) (xs := xs) jm_TBok jm_hYN 3000 d0 sp [] M f pc0 L0 S0 _ _ _ _ hM.2.2.2.2.2.2.2.2.2 hgo
      obtain ⟨q1, q2, q3⟩ := sy_sw_ok (X1 := X1) (X2 := X2) hw.2 hF
      rw [← q1, ← q2, ← q3]
      refine a3 F' X1 X2 [] (by rw [List.append_nil]; exact hs) hp C0 hd ?_
      show jm_W p l e _ ss m args below meth cc D h0 ex ka M _ _ (pc1, sy_dL F' L1, sy_dS F' S1, sy_dh F' X1 X2 G1, 0, 0)
      refine jm_W_weak (sy_mo_ok (F := F') (sy_bl_mono (fun a b h => zz_mo_ok e2 h) h4)) ?_
      have eS : sy_dS (sy_cm F' (u1 ++ ul)) S = sy_dS F' S1 := sy_bl_map (fun _ _ h => sy_mv_ok h) (sy_bl_mono (fun a b h => zz_mv_ok e2 h) h5)
      rw [← eS, ← zz_mh_ok hmh F' X1 X2 ul]
      exact hk C0 hP
    · cases h3
  · cases h
theorem hd_ret (hM : jm_ok jm_YN M) (h : hd_fin (zz_go jm_TB nv sp [] 3000 d0 M f pc0 L0 S0 (iv_H s0) ([], [], O)) s v uh T P = true) (hw : (sy_wf nv T && sy_sw nv L0 S0 (iv_H s0)) = true) (hd : d0 + 1 ≤ d) (F : Nat → sy_d) (X1 X2 : List jm_c)
    (k : ∀ F' : Nat → sy_d, (∀ j, j < nv → F' j = F j) → sy_sat F' nv T → (∀ p ∈ P, sy_ps F' p) ∧ Q (v.map (sy_dv F')) (sy_dh (sy_cm F' (uh ++ [])) X1 X2 (iv_H s))) :
    hd_W Ls xs d M Q (pc0, sy_dL F L0, sy_dS F S0, sy_dh F X1 X2 (iv_H s0), 0, 0) := by
  rw [Bool.and_eq_true] at hw
  obtain ⟨F', hF, hs⟩ := sy_ex F hw.1
  obtain ⟨hp, hk⟩ := k F' hF hs
  unfold hd_fin at h
  split at h
  · rename_i v1 G1 T1 P1 O1 hgo
    simp only [Bool.and_eq_true] at h
    obtain ⟨⟨⟨h1, h3⟩, h6⟩, h7⟩ := h
    have e6 := sy_bl_ok sy_be_ok h6
    have e7 := sy_bl_ok sy_bp_ok h7
    subst e6
    subst e7
    have ev : v1 = v := by
      split at h1
      · rfl
      · rw [sy_bv_ok h1]
      · cases h1
    subst ev
    split at h3
    · rename_i u1 hmh
      have e3 := sy_bl_ok hd_bu_ok h3
      subst e3
      intro p l e ss m args below meth cc D h0 ex ka G0 Post C0 hP
      obtain ⟨-, -, a3⟩ := zz_go_ok (Ls := Ls) (xs := xs) jm_TBok jm_hYN 3000 d0 sp [] M f pc0 L0 S0 _ _ _ _ hM.2.2.2.2.2.2.2.2.2 hgo
      obtain ⟨q1, q2, q3⟩ := sy_sw_ok (X1 := X1) (X2 := X2) hw.2 hF
      rw [← q1, ← q2, ← q3]
      refine a3 F' X1 X2 [] (by rw [List.append_nil]; exact hs) hp C0 hd ?_
      show Post (v1.map (sy_dv F')) (sy_dh F' X1 X2 G1)
      rw [← zz_mh_ok hmh F' X1 X2 []]
      exact hP _ _ hk
    · cases h3
  · cases h
end HD
/-! what the numbers of a run are -/
section HN
variable {F F' : Nat → sy_d} {k op : Nat} {x y i z : sy_v} {a b : sy_a} {X Y Z I : Int32} {U V W : Int64} {l m : List Int32} {ll : List Int64}
theorem hd_b (h : F' k = F k) : sy_dv F' (.inr (.inl k)) = .int (sy_i F k) := by simp only [sy_dv, sy_i, h]
theorem hd_bl (h : F' k = F k) : sy_dv F' (.inr (.inr k)) = .long (sy_l F k) := by simp only [sy_dv, sy_l, h]
theorem hd_ba (h : F' k = F k) : sy_da F' (.inr (.inl k)) = .inl (sy_ai F k) := by simp only [sy_da, sy_ai, h]
theorem hd_bA (h : F' k = F k) : sy_da F' (.inr (.inr k)) = .inr (sy_al F k) := by simp only [sy_da, sy_al, h]
theorem hd_o (h : F k = sy_sem F (op, [x, y], [])) (hx : sy_dv F x = .int X) (hy : sy_dv F y = .int Y) (hz : sy_o2 op (.int X) (.int Y) = .int Z) : sy_dv F (.inr (.inl k)) = .int Z := by
  have e : F k = .inl (sy_o2 op (sy_dv F x) (sy_dv F y)) := h
  rw [hx, hy, hz] at e
  simp only [sy_dv, sy_i, e]
theorem hd_oL (h : F k = sy_sem F (op, [x, y], [])) (hx : sy_dv F x = .long U) (hy : sy_dv F y = .long V) (hz : sy_o2 op (.long U) (.long V) = .long W) : sy_dv F (.inr (.inr k)) = .long W := by
  have e : F k = .inl (sy_o2 op (sy_dv F x) (sy_dv F y)) := h
  rw [hx, hy, hz] at e
  simp only [sy_dv, sy_l, e]
theorem hd_oc (h : F k = sy_sem F (op, [x, y], [])) (hx : sy_dv F x = .long U) (hy : sy_dv F y = .long V) (hz : sy_o2 op (.long U) (.long V) = .int Z) : sy_dv F (.inr (.inl k)) = .int Z := by
  have e : F k = .inl (sy_o2 op (sy_dv F x) (sy_dv F y)) := h
  rw [hx, hy, hz] at e
  simp only [sy_dv, sy_i, e]
theorem hd_u (h : F k = sy_sem F (op, [x], [])) (hx : sy_dv F x = .int X) (hz : sy_o1 op (.int X) = .int Z) : sy_dv F (.inr (.inl k)) = .int Z := by
  have e : F k = .inl (sy_o1 op (sy_dv F x)) := h
  rw [hx, hz] at e
  simp only [sy_dv, sy_i, e]
theorem hd_uL (h : F k = sy_sem F (op, [x], [])) (hx : sy_dv F x = .int X) (hz : sy_o1 op (.int X) = .long W) : sy_dv F (.inr (.inr k)) = .long W := by
  have e : F k = .inl (sy_o1 op (sy_dv F x)) := h
  rw [hx, hz] at e
  simp only [sy_dv, sy_l, e]
theorem hd_uI (h : F k = sy_sem F (op, [x], [])) (hx : sy_dv F x = .long U) : sy_dv F (.inr (.inl k)) = .int U.toInt32 := by
  have e : F k = .inl (sy_o1 op (sy_dv F x)) := h
  rw [hx] at e
  have e2 : F k = .inl (.int U.toInt32) := e
  simp only [sy_dv, sy_i, e2]
theorem hd_rd (h : F k = sy_sem F (op, [i], [a])) (hi : sy_dv F i = .int I) (ha : sy_da F a = .inl l) : sy_dv F (.inr (.inl k)) = .int (l.getD I.toNatClampNeg 0) := by
  have e : F k = .inl (sy_rd (sy_da F a) (sy_dv F i)) := h
  rw [hi, ha] at e
  have e2 : F k = .inl (.int (l.getD I.toNatClampNeg 0)) := e
  simp only [sy_dv, sy_i, e2]
theorem hd_rL (h : F k = sy_sem F (op, [i], [a])) (hi : sy_dv F i = .int I) (ha : sy_da F a = .inr ll) : sy_dv F (.inr (.inr k)) = .long (ll.getD I.toNatClampNeg 0) := by
  have e : F k = .inl (sy_rd (sy_da F a) (sy_dv F i)) := h
  rw [hi, ha] at e
  have e2 : F k = .inl (.long (ll.getD I.toNatClampNeg 0)) := e
  simp only [sy_dv, sy_l, e2]
theorem hd_up (h : F k = sy_sem F (op, [i, x], [a])) (hi : sy_dv F i = .int I) (hx : sy_dv F x = .int X) (ha : sy_da F a = .inl l) : sy_da F (.inr (.inl k)) = .inl (jm_upd l I.toNatClampNeg X) := by
  have e : F k = .inr (sy_up (sy_da F a) (sy_dv F i) (sy_dv F x)) := h
  rw [hi, hx, ha] at e
  have e2 : F k = .inr (.inl (jm_upd l I.toNatClampNeg X)) := e
  simp only [sy_da, sy_ai, e2]
theorem hd_uA (h : F k = sy_sem F (op, [i, x], [a])) (hi : sy_dv F i = .int I) (hx : sy_dv F x = .long U) (ha : sy_da F a = .inr ll) : sy_da F (.inr (.inr k)) = .inr (jm_updL ll I.toNatClampNeg U) := by
  have e : F k = .inr (sy_up (sy_da F a) (sy_dv F i) (sy_dv F x)) := h
  rw [hi, hx, ha] at e
  have e2 : F k = .inr (.inr (jm_updL ll I.toNatClampNeg U)) := e
  simp only [sy_da, sy_al, e2]
theorem hd_p0 (hx : sy_dv F x = .int X) (hy : sy_dv F y = .int Y) (h : X.toInt = Y.toInt) : sy_ps F (0, x, y) := by
  unfold sy_ps
  dsimp only
  rw [hx, hy]
  exact Int32.toInt_inj.mp h
theorem hd_p1 (hx : sy_dv F x = .int X) (hy : sy_dv F y = .int Y) (h : X.toInt ≠ Y.toInt) : sy_ps F (1, x, y) := by
  unfold sy_ps
  dsimp only
  rw [hx, hy]
  exact fun e => h (by rw [e])
theorem hd_p2 (hx : sy_dv F x = .int X) (hy : sy_dv F y = .int Y) (h : X.toInt < Y.toInt) : sy_ps F (2, x, y) := by
  unfold sy_ps
  dsimp only
  rw [hx, hy]
  exact Int32.lt_iff_toInt_lt.mpr h
theorem hd_p3 (hx : sy_dv F x = .int X) (hy : sy_dv F y = .int Y) (h : Y.toInt ≤ X.toInt) : sy_ps F (3, x, y) := by
  unfold sy_ps
  dsimp only
  rw [hx, hy]
  exact fun q => by have := Int32.lt_iff_toInt_lt.mp q; omega
theorem hd_p4 (hx : sy_dv F x = .int X) (hy : sy_dv F y = .int Y) (h : X.toInt ≤ Y.toInt) : sy_ps F (4, x, y) := by
  unfold sy_ps
  dsimp only
  rw [hx, hy]
  exact Int32.le_iff_toInt_le.mpr h
theorem hd_p5 (hx : sy_dv F x = .int X) (hy : sy_dv F y = .int Y) (h : Y.toInt < X.toInt) : sy_ps F (5, x, y) := by
  unfold sy_ps
  dsimp only
  rw [hx, hy]
  exact fun q => by have := Int32.le_iff_toInt_le.mp q; omega
theorem hd_p6 (hx : sy_dv F x = .int X) (h : X.toInt = 0 ∨ X.toInt = 1) : sy_ps F (6, x, .inl (.int 0)) := by
  unfold sy_ps
  dsimp only
  rw [hx]
  have hz : (0 : Int32).toInt = 0 := by decide
  have ho : (1 : Int32).toInt = 1 := by decide
  rcases h with h | h
  · exact Or.inl (Int32.toInt_inj.mp (by omega))
  · exact Or.inr (Int32.toInt_inj.mp (by omega))
theorem hd_pb {N : Nat} (hx : sy_dv F x = .int X) (h : 0 ≤ X.toInt ∧ X.toInt < N) : sy_ps F (6, x, .inl (.ref N)) := by
  unfold sy_ps
  dsimp only
  rw [hx]
  show jm_out X N = false
  unfold jm_out
  rw [Bool.or_eq_false_iff]
  constructor
  · exact decide_eq_false (fun q => by
      have := Int32.lt_iff_toInt_lt.mp q
      have hz : (0 : Int32).toInt = 0 := by decide
      omega)
  · refine decide_eq_false (fun q => ?_)
    have : (X.toNatClampNeg : Int) = X.toInt := by
      have : X.toNatClampNeg = X.toInt.toNat := rfl
      rw [this]
      omega
    omega
theorem hd_pL (hx : sy_dv F x = .long U) (hy : sy_dv F y = .long V) (h : U.toInt ≠ V.toInt) : sy_ps F (1, x, y) := by
  unfold sy_ps
  dsimp only
  rw [hx, hy]
  exact fun e => h (by rw [e])
end HN
theorem hd_nat {X : Int32} (h : 0 ≤ X.toInt) : (X.toNatClampNeg : Int) = X.toInt := by
  have : X.toNatClampNeg = X.toInt.toNat := rfl
  rw [this]
  omega
/-- a symbol of a place: what it stands for -/
noncomputable def hd_gt (u : sy_u) (k : Nat) (x : sy_v ⊕ sy_a) : Bool := match fz_at u k with
  | some y => hd_bu y x
  | none => false
theorem hd_get {F : Nat → sy_d} {u : sy_u} {k : Nat} {x : sy_v ⊕ sy_a} (h : hd_gt u k x = true) : sy_cm F u k = iv_dd F x := by
  unfold hd_gt at h
  rw [fz_at_eq] at h
  split at h
  · rename_i y hy
    rw [iv_cm_at hy, hd_bu_ok h]
  · cases h
theorem hd_gi {F : Nat → sy_d} {u : sy_u} {k : Nat} {x : sy_v} {X : Int32} (h : hd_gt u k (.inl x) = true) (hx : sy_dv F x = .int X) : sy_cm F u k = .inl (.int X) := by
  rw [hd_get h]
  show (.inl (sy_dv F x) : sy_d) = _
  rw [hx]
theorem hd_gl {F : Nat → sy_d} {u : sy_u} {k : Nat} {x : sy_v} {X : Int64} (h : hd_gt u k (.inl x) = true) (hx : sy_dv F x = .long X) : sy_cm F u k = .inl (.long X) := by
  rw [hd_get h]
  show (.inl (sy_dv F x) : sy_d) = _
  rw [hx]
theorem hd_ga {F : Nat → sy_d} {u : sy_u} {k : Nat} {a : sy_a} {l : List Int32} (h : hd_gt u k (.inr a) = true) (ha : sy_da F a = .inl l) : sy_cm F u k = .inr (.inl l) := by
  rw [hd_get h]
  show (.inr (sy_da F a) : sy_d) = _
  rw [ha]
theorem hd_gA {F : Nat → sy_d} {u : sy_u} {k : Nat} {a : sy_a} {l : List Int64} (h : hd_gt u k (.inr a) = true) (ha : sy_da F a = .inr l) : sy_cm F u k = .inr (.inr l) := by
  rw [hd_get h]
  show (.inr (sy_da F a) : sy_d) = _
  rw [ha]
theorem hd_ov_at {u : sy_u} : ∀ {o : List (Nat × (sy_v ⊕ sy_a))} {j : Nat}, (∀ q ∈ o, q.1 ≠ j) → (hd_ov u o)[j]? = u[j]?
  | [], j, _ => rfl
  | q :: r, j, h => by
    rw [hd_ov, List.getElem?_set_ne (h q List.mem_cons_self)]
    exact hd_ov_at (fun z hz => h z (List.mem_cons_of_mem _ hz))
theorem hd_ov_len {u : sy_u} : ∀ {o : List (Nat × (sy_v ⊕ sy_a))}, (hd_ov u o).length = u.length
  | [] => rfl
  | q :: r => by rw [hd_ov, List.length_set, hd_ov_len]
theorem hd_keep {F : Nat → sy_d} {E : List iv_t} {o : List (Nat × (sy_v ⊕ sy_a))} {ul : sy_u} {j : Nat} (hE : iv_in F E) (hj : j < E.length) (ho : ∀ q ∈ o, q.1 ≠ j) : sy_cm F (hd_ov (iv_id 0 E) o ++ ul) j = F j := by
  have h1 := iv_id_ok (nh := E.length) (ua := ul) hE (Nat.le_refl _) hj
  rw [List.take_length] at h1
  rw [← h1]
  unfold sy_cm
  rw [List.getElem?_append_left (by rw [hd_ov_len, iv_id_len]; exact hj), List.getElem?_append_left (by rw [iv_id_len]; exact hj), hd_ov_at ho]
/-! calls by hand: behind a call the cells are those of the contract, the numbers of the caller stay -/
theorem hd_mrgL {nh nv : Nat} {F F2 : Nat → sy_d} {L : List (Option sy_v)} (h1 : L.all (iv_ho nh) = true) (h2 : L.all (sy_ow nv) = true) (hF : ∀ q, nh ≤ q → q < nv → F2 q = F q) : sy_dL F2 L = sy_dL F L := by
  refine List.map_congr_left (fun o ho => ?_)
  have q1 := List.all_eq_true.mp h1 o ho
  have q2 := List.all_eq_true.mp h2 o ho
  cases o with
  | none => rfl
  | some x => rw [Option.map_some, Option.map_some, iv_hv_ok q1 q2 hF]
theorem hd_mrgS {nh nv : Nat} {F F2 : Nat → sy_d} {r : List sy_v} (h1 : r.all (iv_hv nh) = true) (h2 : r.all (sy_vw nv) = true) (hF : ∀ q, nh ≤ q → q < nv → F2 q = F q) : r.map (sy_dv F2) = r.map (sy_dv F) := List.map_congr_left (fun x hx => iv_hv_ok (List.all_eq_true.mp h1 x hx) (List.all_eq_true.mp h2 x hx) hF)
noncomputable def hd_sc (nh nv s : Nat) (L : List (Option sy_v)) (r : List sy_v) : Bool := sy_gw nh (iv_H s).1 && sy_gw nh (iv_H s).2 && L.all (iv_ho nh) && L.all (sy_ow nv) && r.all (iv_hv nh) && r.all (sy_vw nv) && Nat.ble nh nv
section HC
variable {Ls : Nat} {xs : Nat → Int32} {d d1 : Nat} {M M1 : jm_M} {Q : Option Value → jm_h → Prop} {pc nh nv s s1 : Nat} {i : jm_I} {L : List (Option sy_v)} {S As rest : List sy_v} {F : Nat → sy_d} {X1 X2 : List jm_c}
/-- a call that answers an int -/
theorem hd_calI {R : Int32 → (Nat → sy_d) → Prop} (hM : jm_ok jm_YN M) (hi : jm_in M pc = some i) (hcf : sy_cf jm_TB i (iv_H s) S = some (M1, As, rest)) (hd : d1 + 1 ≤ d) (hsc : hd_sc nh nv s1 L rest = true)
    (hT : jm_T Ls xs d1 M1 (As.map (sy_dv F)) (sy_dh F X1 X2 (iv_H s)) 0 0 (fun v G => ∃ (x : Int32) (F' : Nat → sy_d), v = some (.int x) ∧ G = sy_dh F' X1 X2 (iv_H s1) ∧ R x F'))
    (k : ∀ (F2 F' : Nat → sy_d) (x : Int32), R x F' → (∀ q, q < nh → F2 q = F' q) → (∀ q, nh ≤ q → q < nv → F2 q = F q) → F2 nv = .inl (.int x) → hd_W Ls xs d M Q (pc + 3, sy_dL F2 L, sy_dS F2 (.inr (.inl nv) :: rest), sy_dh F2 X1 X2 (iv_H s1), 0, 0)) :
    hd_W Ls xs d M Q (pc, sy_dL F L, sy_dS F S, sy_dh F X1 X2 (iv_H s), 0, 0) := by
  refine hd_call hM hi hcf hT hd (fun v G1 hv => ?_)
  obtain ⟨x, F', rfl, rfl, hR⟩ := hv
  simp only [hd_sc, Bool.and_eq_true] at hsc
  obtain ⟨⟨⟨⟨⟨⟨g1, g2⟩, l1⟩, l2⟩, r1⟩, r2⟩, hn⟩ := hsc
  have hn := Nat.le_of_ble_eq_true hn
  obtain ⟨F2, hF2⟩ : ∃ F2 : Nat → sy_d, F2 = fun q => if q < nh then F' q else if q < nv then F q else .inl (.int x) := ⟨_, rfl⟩
  have p1 : ∀ q, q < nh → F2 q = F' q := fun q hq => by rw [hF2]; exact if_pos hq
  have p2 : ∀ q, nh ≤ q → q < nv → F2 q = F q := fun q hq hq2 => by
    rw [hF2]
    dsimp only
    rw [if_neg (by omega), if_pos hq2]
  have p3 : F2 nv = .inl (.int x) := by
    rw [hF2]
    dsimp only
    rw [if_neg (by omega), if_neg (by omega)]
  have hk := k F2 F' x hR p1 p2 p3
  have e1 : sy_dh F2 X1 X2 (iv_H s1) = sy_dh F' X1 X2 (iv_H s1) := by simp only [sy_dh, sy_gw_ok g1 p1, sy_gw_ok g2 p1]
  have e2 : sy_dS F2 (.inr (.inl nv) :: rest) = (some (Value.int x)).toList ++ sy_dS F rest := by
    show Value.int (sy_i F2 nv) :: rest.map (sy_dv F2) = _
    rw [hd_mrgS r1 r2 p2, zz_i p3]
    rfl
  rw [hd_mrgL l1 l2 p2, e1, e2] at hk
  exact hk
/-- a call that answers nothing -/
theorem hd_calV {R : (Nat → sy_d) → Prop} (hM : jm_ok jm_YN M) (hi : jm_in M pc = some i) (hcf : sy_cf jm_TB i (iv_H s) S = some (M1, As, rest)) (hd : d1 + 1 ≤ d) (hsc : hd_sc nh nv s1 L rest = true)
    (hT : jm_T Ls xs d1 M1 (As.map (sy_dv F)) (sy_dh F X1 X2 (iv_H s)) 0 0 (fun v G => ∃ F' : Nat → sy_d, v = none ∧ G = sy_dh F' X1 X2 (iv_H s1) ∧ R F'))
    (k : ∀ F2 F' : Nat → sy_d, R F' → (∀ q, q < nh → F2 q = F' q) → (∀ q, nh ≤ q → q < nv → F2 q = F q) → hd_W Ls xs d M Q (pc + 3, sy_dL F2 L, sy_dS F2 rest, sy_dh F2 X1 X2 (iv_H s1), 0, 0)) :
    hd_W Ls xs d M Q (pc, sy_dL F L, sy_dS F S, sy_dh F X1 X2 (iv_H s), 0, 0) := by
  refine hd_call hM hi hcf hT hd (fun v G1 hv => ?_)
  obtain ⟨F', rfl, rfl, hR⟩ := hv
  simp only [hd_sc, Bool.and_eq_true] at hsc
  obtain ⟨⟨⟨⟨⟨⟨g1, g2⟩, l1⟩, l2⟩, r1⟩, r2⟩, hn⟩ := hsc
  obtain ⟨F2, hF2⟩ : ∃ F2 : Nat → sy_d, F2 = fun q => if q < nh then F' q else F q := ⟨_, rfl⟩
  have p1 : ∀ q, q < nh → F2 q = F' q := fun q hq => by rw [hF2]; exact if_pos hq
  have p2 : ∀ q, nh ≤ q → q < nv → F2 q = F q := fun q hq hq2 => by
    rw [hF2]
    exact if_neg (by omega)
  have hk := k F2 F' hR p1 p2
  have e1 : sy_dh F2 X1 X2 (iv_H s1) = sy_dh F' X1 X2 (iv_H s1) := by simp only [sy_dh, sy_gw_ok g1 p1, sy_gw_ok g2 p1]
  have e2 : sy_dS F2 rest = (none : Option Value).toList ++ sy_dS F rest := by
    show rest.map (sy_dv F2) = _
    rw [hd_mrgS r1 r2 p2]
    rfl
  rw [hd_mrgL l1 l2 p2, e1, e2] at hk
  exact hk
end HC
