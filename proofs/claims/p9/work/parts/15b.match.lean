/-! ===== a state with symbols stands for another: for loops ===== -/
abbrev sy_u : Type := List (sy_v ⊕ sy_a)
/-- what the symbols of a pattern stand for -/
def sy_cm (F : Nat → sy_d) (u : sy_u) : Nat → sy_d := fun k => match u[k]? with
  | some (.inl v) => .inl (sy_dv F v)
  | some (.inr a) => .inr (sy_da F a)
  | none => .inl .null
def sy_mv (u : sy_u) (x y : sy_v) : Bool := match x with
  | .inl v => sy_bv (.inl v) y
  | .inr (.inl k) => (match u[k]? with
    | some (.inl z) => sy_bv z y && decide (sy_ty y = 0)
    | _ => false)
  | .inr (.inr k) => (match u[k]? with
    | some (.inl z) => sy_bv z y && decide (sy_ty y = 1)
    | _ => false)
theorem sy_mv_ok {F : Nat → sy_d} {u : sy_u} {x y : sy_v} (h : sy_mv u x y = true) : sy_dv (sy_cm F u) x = sy_dv F y := by
  unfold sy_mv at h
  split at h
  · rw [← sy_bv_ok h]; rfl
  · rename_i k
    split at h
    · rename_i z hz
      rw [Bool.and_eq_true] at h
      obtain ⟨a, ha⟩ := sy_ty0 (F := F) (of_decide_eq_true h.2)
      have e := sy_bv_ok h.1
      subst e
      have hk : sy_cm F u k = .inl (sy_dv F z) := by simp only [sy_cm, hz]
      rw [ha] at hk ⊢
      show Value.int (sy_i (sy_cm F u) k) = _
      simp only [sy_i, hk]
    · cases h
  · rename_i k
    split at h
    · rename_i z hz
      rw [Bool.and_eq_true] at h
      obtain ⟨a, ha⟩ := sy_ty1 (F := F) (of_decide_eq_true h.2)
      have e := sy_bv_ok h.1
      subst e
      have hk : sy_cm F u k = .inl (sy_dv F z) := by simp only [sy_cm, hz]
      rw [ha] at hk ⊢
      show Value.long (sy_l (sy_cm F u) k) = _
      simp only [sy_l, hk]
    · cases h
def sy_ma (u : sy_u) (x y : sy_a) : Bool := match x with
  | .inl v => sy_ba (.inl v) y
  | .inr (.inl k) => (match u[k]? with
    | some (.inr z) => sy_ba z y && decide (sy_ak y = 0)
    | _ => false)
  | .inr (.inr k) => (match u[k]? with
    | some (.inr z) => sy_ba z y && decide (sy_ak y = 1)
    | _ => false)
theorem sy_ma_ok {F : Nat → sy_d} {u : sy_u} {x y : sy_a} (h : sy_ma u x y = true) : sy_da (sy_cm F u) x = sy_da F y := by
  unfold sy_ma at h
  split at h
  · rw [← sy_ba_ok h]; rfl
  · rename_i k
    split at h
    · rename_i z hz
      rw [Bool.and_eq_true] at h
      obtain ⟨a, ha⟩ := sy_ak0 (F := F) (of_decide_eq_true h.2)
      have e := sy_ba_ok h.1
      subst e
      have hk : sy_cm F u k = .inr (sy_da F z) := by simp only [sy_cm, hz]
      rw [ha] at hk ⊢
      show Sum.inl (sy_ai (sy_cm F u) k) = _
      simp only [sy_ai, hk]
    · cases h
  · rename_i k
    split at h
    · rename_i z hz
      rw [Bool.and_eq_true] at h
      obtain ⟨a, ha⟩ := sy_ak1 (F := F) (of_decide_eq_true h.2)
      have e := sy_ba_ok h.1
      subst e
      have hk : sy_cm F u k = .inr (sy_da F z) := by simp only [sy_cm, hz]
      rw [ha] at hk ⊢
      show Sum.inr (sy_al (sy_cm F u) k) = _
      simp only [sy_al, hk]
    · cases h
theorem sy_bl_map {α β : Type} {f : α → α → Bool} {g g' : α → β} (hf : ∀ (a b : α), f a b = true → g a = g' b) : ∀ {l m : List α}, sy_bl f l m = true → l.map g = m.map g'
  | [], [], _ => rfl
  | a :: r, b :: t, h => by
    rw [sy_bl, Bool.and_eq_true] at h
    rw [List.map_cons, List.map_cons, hf _ _ h.1, sy_bl_map hf h.2]
  | [], b :: t, h => by cases h
  | a :: r, [], h => by cases h
def sy_mc (u : sy_u) (x y : sy_c) : Bool := match x, y with
  | .inl (k, n, a), .inl (k', n', a') => decide (k = k') && decide (n = n') && sy_ma u a a'
  | .inr (ci, fs), .inr (ci', fs') => decide (ci = ci') && sy_bl (sy_mv u) fs fs'
  | _, _ => false
theorem sy_mc_ok {F : Nat → sy_d} {u : sy_u} {x y : sy_c} (h : sy_mc u x y = true) : sy_dc (sy_cm F u) x = sy_dc F y := by
  unfold sy_mc at h
  split at h
  · simp only [Bool.and_eq_true] at h
    obtain ⟨⟨h1, h2⟩, h3⟩ := h
    simp only [sy_dc, of_decide_eq_true h1, of_decide_eq_true h2, sy_ma_ok (F := F) h3]
  · simp only [Bool.and_eq_true] at h
    simp only [sy_dc, of_decide_eq_true h.1, sy_bl_map (g := sy_dv (sy_cm F u)) (g' := sy_dv F) (fun _ _ h => sy_mv_ok h) h.2]
  · cases h
def sy_mg (u : sy_u) (x y : sy_g) : Bool := match x, y with
  | .inl l, .inl m => sy_bl (sy_mc u) l m
  | .inr _, .inr _ => true
  | _, _ => false
theorem sy_mg_ok {F : Nat → sy_d} {X : List jm_c} {u : sy_u} {x y : sy_g} (h : sy_mg u x y = true) : sy_dg (sy_cm F u) X x = sy_dg F X y := by
  unfold sy_mg at h
  split at h
  · exact sy_bl_map (fun _ _ h => sy_mc_ok h) h
  · rfl
  · cases h
def sy_mo (u : sy_u) (x y : Option sy_v) : Bool := match x, y with
  | some a, some b => sy_mv u a b
  | none, _ => true
  | _, _ => false
def sy_mh (u : sy_u) (x y : sy_h) : Bool := sy_mg u x.1 y.1 && sy_mg u x.2 y.2
theorem sy_mh_ok {F : Nat → sy_d} {X1 X2 : List jm_c} {u : sy_u} {x y : sy_h} (h : sy_mh u x y = true) : sy_dh (sy_cm F u) X1 X2 x = sy_dh F X1 X2 y := by
  unfold sy_mh at h
  rw [Bool.and_eq_true] at h
  simp only [sy_dh, sy_mg_ok (F := F) h.1, sy_mg_ok (F := F) h.2]
def sy_mL (u : sy_u) (x y : List (Option sy_v)) : Bool := sy_bl (sy_mo u) x y
def sy_mos (u : sy_u) (x y : Option sy_v) : Bool := match x, y with
  | some a, some b => sy_mv u a b
  | none, none => true
  | _, _ => false
theorem sy_mos_ok {F : Nat → sy_d} {u : sy_u} {x y : Option sy_v} (h : sy_mos u x y = true) : x.map (sy_dv (sy_cm F u)) = y.map (sy_dv F) := by
  unfold sy_mos at h
  split at h
  · rw [Option.map_some, Option.map_some, sy_mv_ok h]
  · rfl
  · cases h
theorem sy_mo_ok {F : Nat → sy_d} {u : sy_u} : ∀ {L L1 : List (Option sy_v)}, sy_bl (sy_mo u) L L1 = true → ∀ (j : Nat) (v : Value), (sy_dL (sy_cm F u) L)[j]? = some (some v) → (sy_dL F L1)[j]? = some (some v)
  | [], [], _, j, v, h => by simp [sy_dL] at h
  | a :: r, b :: t, h0, j, v, h => by
    rw [sy_bl, Bool.and_eq_true] at h0
    cases j with
    | zero =>
      simp only [sy_dL, List.map_cons, List.getElem?_cons_zero, Option.some.injEq] at h ⊢
      have h1 := h0.1
      unfold sy_mo at h1
      split at h1
      · rename_i x y
        rw [Option.map_some] at h ⊢
        rw [← sy_mv_ok (F := F) h1]
        exact h
      · cases h
      · cases h1
    | succ j =>
      have := sy_mo_ok (F := F) h0.2 j v (by simpa [sy_dL] using h)
      simpa [sy_dL] using this
  | [], b :: t, h0, j, v, h => by cases h0
  | a :: r, [], h0, j, v, h => by cases h0
theorem jm_W_weak {p : Program} {l : Launch} {e : Env} {R : Room} {s : State} {m : MethodId} {args : Array Value} {below : List Frame} {meth : Method} {c : Code} {D : va_G} {h0 : Nat} {ex : Nat → Nat} {ka : Nat → ClassId} {M : jm_M} {n0 : Nat} {Q : State → Prop} {pc : Nat} {L L1 : List (Option Value)} {S : List Value} {G : jm_h} {cn sn : Nat} (h : ∀ (j : Nat) (v : Value), L[j]? = some (some v) → L1[j]? = some (some v)) (k : jm_W p l e R s m args below meth c D h0 ex ka M n0 Q (pc, L, S, G, cn, sn)) : jm_W p l e R s m args below meth c D h0 ex ka M n0 Q (pc, L1, S, G, cn, sn) := by
  intro hlen H locs ls hR hS hl
  refine k hlen H locs ls hR hS ⟨hl.1, hl.2.1, fun q hq => hl.2.2 q ?_⟩
  obtain ⟨j, v, h1, rfl⟩ := jm_lv_mem.mp hq
  exact jm_lv_mem.mpr ⟨j, v, h j v h1, rfl⟩
/-- a run from a state to a place stands so -/
def sy_at (o : Option ((Nat × List (Option sy_v) × List sy_v × sy_h) × sy_x)) (pc : Nat) (L : List (Option sy_v)) (S : List sy_v) (G : sy_h) (u : sy_u) (T : List sy_e) (P : List sy_p) : Bool := match o with
  | some ((pc1, L1, S1, G1), T1, P1, _) => decide (pc1 = pc) && sy_bl (sy_mo u) L L1 && sy_bl (sy_mv u) S S1 && sy_mh u G G1 && sy_bl sy_be T1 T && sy_bl sy_bp P1 P
  | none => false
theorem sy_at_ok {YN : List MethodName} {TB : List jm_M} {nv : Nat} {sp sm : List Nat} {n d : Nat} {M : jm_M} {f : Bool} {pc0 : Nat} {L0 : List (Option sy_v)} {S0 : List sy_v} {G0 : sy_h} {O : List Bool} {pc : Nat} {L : List (Option sy_v)} {S : List sy_v} {G : sy_h} {u : sy_u} {T : List sy_e} {P : List sy_p} {Ls : Nat} {xs : Nat → Int32}
    (hTB : ∀ (k : Nat) (M' : jm_M), TB[k]? = some M' → jm_ok YN M') (hYN : YN = TB.map jm_y) (htc : jm_tck YN M 0 (jm_tb M) = true) (h : sy_at (sy_go TB nv sp sm n d M f pc0 L0 S0 G0 ([], [], O)) pc L S G u T P = true) (F : Nat → sy_d) (X1 X2 : List jm_c) (hs : sy_sat F nv T) (hp : ∀ p ∈ P, sy_ps F p)
    {p : Program} {l : Launch} {e : Env} {R : Room} {s : State} {m : MethodId} {args : Array Value} {below : List Frame} {meth : Method} {c : Code} {D : va_G} {h0 : Nat} {ex : Nat → Nat} {ka : Nat → ClassId} {n0 : Nat} {Q : State → Prop} (C0 : jm_C p s m args meth c D h0 ex ka Ls xs M n0) (hfr : d + 1 ≤ R.frames) (hlo : 64 * (d + 1) ≤ R.locals)
    (k : jm_W p l e R s m args below meth c D h0 ex ka M n0 Q (pc, sy_dL (sy_cm F u) L, sy_dS (sy_cm F u) S, sy_dh (sy_cm F u) X1 X2 G, 0, 0)) :
    jm_W p l e R s m args below meth c D h0 ex ka M n0 Q (pc0, sy_dL F L0, sy_dS F S0, sy_dh F X1 X2 G0, 0, 0) := by
  unfold sy_at at h
  split at h
  · rename_i pc1 L1 S1 G1 T1 P1 O1 hgo
    simp only [Bool.and_eq_true] at h
    obtain ⟨⟨⟨⟨⟨h1, h2⟩, h3⟩, h4⟩, h5⟩, h6⟩ := h
    have e1 := of_decide_eq_true h1
    have e5 := sy_bl_ok sy_be_ok h5
    have e6 := sy_bl_ok sy_bp_ok h6
    subst e1
    subst e5
    subst e6
    obtain ⟨-, -, a3⟩ := sy_go_ok (Ls := Ls) (xs := xs) hTB hYN n d M f pc0 L0 S0 G0 _ pc1 L1 S1 G1 _ htc hgo
    refine a3 F X1 X2 [] (by rw [List.append_nil]; exact hs) hp C0 hfr hlo ?_
    refine jm_W_weak (sy_mo_ok (F := F) h2) ?_
    have eS : sy_dS (sy_cm F u) S = sy_dS F S1 := sy_bl_map (fun _ _ h => sy_mv_ok h) h3
    rw [← eS, ← sy_mh_ok (F := F) (X1 := X1) (X2 := X2) h4]
    exact k
  · cases h
/-- a run from a state to the method's end: what the cells stand for behind it -/
def sy_fin (o : Option (Option sy_v × sy_h × sy_x)) (v : Option sy_v) (G : sy_h) (u : sy_u) (T : List sy_e) (P : List sy_p) : Bool := match o with
  | some (w, G1, T1, P1, _) => sy_mos u v w && sy_mh u G G1 && sy_bl sy_be T1 T && sy_bl sy_bp P1 P
  | none => false
theorem sy_fin_ok {YN : List MethodName} {TB : List jm_M} {nv : Nat} {n d : Nat} {M : jm_M} {pc0 : Nat} {L0 : List (Option sy_v)} {S0 : List sy_v} {G0 : sy_h} {O : List Bool} {v : Option sy_v} {G : sy_h} {u : sy_u} {T : List sy_e} {P : List sy_p} {Ls : Nat} {xs : Nat → Int32}
    (hTB : ∀ (k : Nat) (M' : jm_M), TB[k]? = some M' → jm_ok YN M') (hYN : YN = TB.map jm_y) (htc : jm_tck YN M 0 (jm_tb M) = true) (h : sy_fin (sy_ev TB nv n d M pc0 L0 S0 G0 ([], [], O)) v G u T P = true) (F : Nat → sy_d) (X1 X2 : List jm_c) (hs : sy_sat F nv T) (hp : ∀ p ∈ P, sy_ps F p)
    {p : Program} {l : Launch} {e : Env} {s : State} {m : MethodId} {args : Array Value} {below : List Frame} {meth : Method} {c : Code} {D : va_G} {h0 : Nat} {ex : Nat → Nat} {ka : Nat → ClassId} {H0 : jm_h} {Post : Option Value → jm_h → Prop} (C0 : jm_C p s m args meth c D h0 ex ka Ls xs M (jm_len H0)) (hP : Post (v.map (sy_dv (sy_cm F u))) (sy_dh (sy_cm F u) X1 X2 G)) :
    jm_W p l e (jm_room (d + 1) 0 0) s m args below meth c D h0 ex ka M (jm_len H0) (MQ below (jm_Qc D h0 ex ka 0 H0 Post) args s 0 0 (fun q => h0 ≤ q)) (pc0, sy_dL F L0, sy_dS F S0, sy_dh F X1 X2 G0, 0, 0) := by
  unfold sy_fin at h
  split at h
  · rename_i w G1 T1 P1 O1 hev
    simp only [Bool.and_eq_true] at h
    obtain ⟨⟨⟨h1, h2⟩, h3⟩, h4⟩ := h
    have e3 := sy_bl_ok sy_be_ok h3
    have e4 := sy_bl_ok sy_bp_ok h4
    subst e3
    subst e4
    obtain ⟨-, -, a3⟩ := sy_ev_ok (Ls := Ls) (xs := xs) hTB hYN n d M pc0 L0 S0 G0 _ w G1 _ htc hev
    refine a3 F X1 X2 [] (by rw [List.append_nil]; exact hs) hp C0 ?_
    rw [← sy_mos_ok (F := F) h1, ← sy_mh_ok (F := F) (X1 := X1) (X2 := X2) h2]
    exact hP
  · cases h
