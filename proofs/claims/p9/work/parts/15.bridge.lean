/-! ===== known cells as cells with symbols; numbers for the equations of a run ===== -/
def sy_lift (c : jm_c) : sy_c := match c with
  | .inl (k, n, l) => .inl (k, n, .inl l)
  | .inr (ci, fs) => .inr (ci, fs.map .inl)
theorem sy_lift_ok (F : Nat → sy_d) (c : jm_c) : sy_dc F (sy_lift c) = c := by
  unfold sy_lift
  split
  · rfl
  · simp only [sy_dc, List.map_map]
    congr 2
    exact List.map_id'' (fun v => rfl) _
theorem sy_lifts (F : Nat → sy_d) (l : List jm_c) : (l.map sy_lift).map (sy_dc F) = l := by
  rw [List.map_map]
  exact List.map_id'' (fun c => sy_lift_ok F c) l
def sy_vw (b : Nat) (x : sy_v) : Bool := match x with
  | .inl _ => true
  | .inr (.inl k) => Nat.blt k b
  | .inr (.inr k) => Nat.blt k b
def sy_aw (b : Nat) (a : sy_a) : Bool := match a with
  | .inl _ => true
  | .inr (.inl k) => Nat.blt k b
  | .inr (.inr k) => Nat.blt k b
def sy_wf : Nat → List sy_e → Bool
  | _, [] => true
  | b, e :: r => e.2.1.all (sy_vw b) && e.2.2.all (sy_aw b) && sy_wf (b + 1) r
theorem sy_vw_ok {b : Nat} {x : sy_v} {F F' : Nat → sy_d} (h : sy_vw b x = true) (hF : ∀ k, k < b → F k = F' k) : sy_dv F x = sy_dv F' x := by
  unfold sy_vw at h
  split at h
  · rfl
  · simp only [sy_dv, sy_i, hF _ (Nat.le_of_ble_eq_true h)]
  · simp only [sy_dv, sy_l, hF _ (Nat.le_of_ble_eq_true h)]
theorem sy_aw_ok {b : Nat} {a : sy_a} {F F' : Nat → sy_d} (h : sy_aw b a = true) (hF : ∀ k, k < b → F k = F' k) : sy_da F a = sy_da F' a := by
  unfold sy_aw at h
  split at h
  · rfl
  · simp only [sy_da, sy_ai, hF _ (Nat.le_of_ble_eq_true h)]
  · simp only [sy_da, sy_al, hF _ (Nat.le_of_ble_eq_true h)]
theorem sy_sem_congr {b : Nat} {e : sy_e} {F F' : Nat → sy_d} (h1 : e.2.1.all (sy_vw b) = true) (h2 : e.2.2.all (sy_aw b) = true) (hF : ∀ k, k < b → F k = F' k) : sy_sem F e = sy_sem F' e := by
  obtain ⟨op, vs, as⟩ := e
  have hv : ∀ x ∈ vs, sy_dv F x = sy_dv F' x := fun x hx => sy_vw_ok (List.all_eq_true.mp h1 x hx) hF
  have ha : ∀ a ∈ as, sy_da F a = sy_da F' a := fun a ha => sy_aw_ok (List.all_eq_true.mp h2 a ha) hF
  unfold sy_sem
  dsimp only
  split
  · rw [hv _ List.mem_cons_self, hv _ (List.mem_cons_of_mem _ List.mem_cons_self)]
  · rw [hv _ List.mem_cons_self]
  · rw [hv _ List.mem_cons_self, ha _ List.mem_cons_self]
  · rw [hv _ List.mem_cons_self, hv _ (List.mem_cons_of_mem _ List.mem_cons_self), ha _ List.mem_cons_self]
  · rw [hv _ List.mem_cons_self, hv _ (List.mem_cons_of_mem _ List.mem_cons_self), hv _ (List.mem_cons_of_mem _ (List.mem_cons_of_mem _ List.mem_cons_self)), ha _ List.mem_cons_self, ha _ (List.mem_cons_of_mem _ List.mem_cons_self)]
  · rfl
theorem sy_ex0 : ∀ (T : List sy_e) (b : Nat) (F0 : Nat → sy_d), sy_wf b T = true → ∃ F : Nat → sy_d, (∀ k, k < b → F k = F0 k) ∧ ∀ (k : Nat) (e : sy_e), T[k]? = some e → F (b + k) = sy_sem F e
  | [], b, F0, _ => ⟨F0, fun _ _ => rfl, fun k e h => by simp at h⟩
  | e :: r, b, F0, h => by
    simp only [sy_wf, Bool.and_eq_true] at h
    obtain ⟨⟨h1, h2⟩, h3⟩ := h
    obtain ⟨F, hF, hs⟩ := sy_ex0 r (b + 1) (fun k => if k = b then sy_sem F0 e else F0 k) h3
    have hF0 : ∀ k, k < b → F k = F0 k := fun k hk => by
      rw [hF k (by omega)]
      exact if_neg (by omega)
    refine ⟨F, hF0, fun k e' hk => ?_⟩
    cases k with
    | zero =>
      simp at hk
      subst hk
      rw [Nat.add_zero, hF b (by omega)]
      show (if b = b then sy_sem F0 e else F0 b) = _
      rw [if_pos rfl]
      exact (sy_sem_congr h1 h2 hF0).symm
    | succ k =>
      have := hs k e' (by simpa using hk)
      rwa [show b + 1 + k = b + (k + 1) by omega] at this
theorem sy_ex {T : List sy_e} {nv : Nat} (F0 : Nat → sy_d) (h : sy_wf nv T = true) : ∃ F : Nat → sy_d, (∀ k, k < nv → F k = F0 k) ∧ sy_sat F nv T := sy_ex0 T nv F0 h
def sy_pw (b : Nat) (p : sy_p) : Bool := sy_vw b p.2.1 && sy_vw b p.2.2
theorem sy_pw_ok {b : Nat} {p : sy_p} {F F' : Nat → sy_d} (h : sy_pw b p = true) (hF : ∀ k, k < b → F k = F' k) (hp : sy_ps F' p) : sy_ps F p := by
  unfold sy_pw at h
  rw [Bool.and_eq_true] at h
  unfold sy_ps at hp ⊢
  rw [sy_vw_ok h.1 hF, sy_vw_ok h.2 hF]
  exact hp
theorem sy_vs_ok {b : Nat} {As : List sy_v} {F F' : Nat → sy_d} (h : As.all (sy_vw b) = true) (hF : ∀ k, k < b → F k = F' k) : As.map (sy_dv F) = As.map (sy_dv F') := List.map_congr_left (fun x hx => sy_vw_ok (List.all_eq_true.mp h x hx) hF)
/-- two things with symbols are the same -/
def sy_bv (a b : sy_v) : Bool := match a, b with
  | .inl x, .inl y => decide (x = y)
  | .inr (.inl i), .inr (.inl j) => decide (i = j)
  | .inr (.inr i), .inr (.inr j) => decide (i = j)
  | _, _ => false
theorem sy_bv_ok {a b : sy_v} (h : sy_bv a b = true) : a = b := by
  unfold sy_bv at h
  split at h
  · rw [of_decide_eq_true h]
  · rw [of_decide_eq_true h]
  · rw [of_decide_eq_true h]
  · cases h
def sy_ba (a b : sy_a) : Bool := match a, b with
  | .inl (.inl x), .inl (.inl y) => decide (x = y)
  | .inl (.inr x), .inl (.inr y) => decide (x = y)
  | .inr (.inl i), .inr (.inl j) => decide (i = j)
  | .inr (.inr i), .inr (.inr j) => decide (i = j)
  | _, _ => false
theorem sy_ba_ok {a b : sy_a} (h : sy_ba a b = true) : a = b := by
  unfold sy_ba at h
  split at h
  · rw [of_decide_eq_true h]
  · rw [of_decide_eq_true h]
  · rw [of_decide_eq_true h]
  · rw [of_decide_eq_true h]
  · cases h
def sy_bl {α : Type} (f : α → α → Bool) : List α → List α → Bool
  | [], [] => true
  | a :: r, b :: t => f a b && sy_bl f r t
  | _, _ => false
theorem sy_bl_ok {α : Type} {f : α → α → Bool} (hf : ∀ {a b : α}, f a b = true → a = b) : ∀ {l m : List α}, sy_bl f l m = true → l = m
  | [], [], _ => rfl
  | a :: r, b :: t, h => by
    rw [sy_bl, Bool.and_eq_true] at h
    rw [hf h.1, sy_bl_ok hf h.2]
  | [], b :: t, h => by cases h
  | a :: r, [], h => by cases h
def sy_be (a b : sy_e) : Bool := decide (a.1 = b.1) && sy_bl sy_bv a.2.1 b.2.1 && sy_bl sy_ba a.2.2 b.2.2
theorem sy_be_ok {a b : sy_e} (h : sy_be a b = true) : a = b := by
  obtain ⟨a1, a2, a3⟩ := a
  obtain ⟨b1, b2, b3⟩ := b
  simp only [sy_be, Bool.and_eq_true] at h
  obtain ⟨⟨h1, h2⟩, h3⟩ := h
  rw [of_decide_eq_true h1, sy_bl_ok sy_bv_ok h2, sy_bl_ok sy_ba_ok h3]
def sy_bp (a b : sy_p) : Bool := decide (a.1 = b.1) && sy_bv a.2.1 b.2.1 && sy_bv a.2.2 b.2.2
theorem sy_bp_ok {a b : sy_p} (h : sy_bp a b = true) : a = b := by
  obtain ⟨a1, a2, a3⟩ := a
  obtain ⟨b1, b2, b3⟩ := b
  simp only [sy_bp, Bool.and_eq_true] at h
  obtain ⟨⟨h1, h2⟩, h3⟩ := h
  rw [of_decide_eq_true h1, sy_bv_ok h2, sy_bv_ok h3]
/-- a run ends so: the answer; whether the reference's cells stayed out of it; equations, assumptions -/
def sy_is (o : Option (Option sy_v × sy_h × sy_x)) (v : sy_v) (two : Bool) (T : List sy_e) (P : List sy_p) : Bool := match o with
  | some (some w, G, T1, P1, _) => sy_bv w v && (match G.2 with
    | .inr _ => true
    | .inl _ => !two) && sy_bl sy_be T1 T && sy_bl sy_bp P1 P
  | _ => false
theorem sy_is_ok {o : Option (Option sy_v × sy_h × sy_x)} {v : sy_v} {two : Bool} {T : List sy_e} {P : List sy_p} (h : sy_is o v two T P = true) : ∃ (G : sy_h) (O : List Bool), o = some (some v, G, T, P, O) ∧ (two = true → ∃ u, G.2 = .inr u) := by
  unfold sy_is at h
  split at h
  · rename_i w G T1 P1 O1
    simp only [Bool.and_eq_true] at h
    obtain ⟨⟨⟨h1, h2⟩, h3⟩, h4⟩ := h
    rw [sy_bv_ok h1, sy_bl_ok sy_be_ok h3, sy_bl_ok sy_bp_ok h4]
    refine ⟨G, O1, rfl, fun ht => ?_⟩
    split at h2
    · exact ⟨_, by assumption⟩
    · rw [ht] at h2; cases h2
  · cases h
def sy_int (l : List Int32) : Nat → sy_d := fun k => .inl (.int (l.getD k 0))
/-- the class on cells H, from a run -/
theorem sy_cX {H : List jm_c} {nv n : Nat} {kX : jm_M} {As : List sy_v} {O : List Bool} {T : List sy_e} {P : List sy_p} {r : Int32} {Ls : Nat} {xs : Nat → Int32} (F0 : Nat → sy_d) (X2 : List jm_c) (hM : jm_ok jm_YN kX) (hA : (sy_e1 (.inl (.ref 8) :: As)).length ≤ jm_mx kX)
    (h : sy_is (sy_ev jm_TB nv n 19 kX 0 (sy_ent (jm_mx kX) (.inl (.ref 8) :: As)) [] (.inl (H.map sy_lift), .inr ()) ([], [], O)) (.inl (.int r)) true T P = true) (hw : (sy_wf nv T && As.all (sy_vw nv) && P.all (sy_pw nv)) = true) (hp : ∀ p ∈ P, sy_ps F0 p) :
    jm_T Ls xs 20 kX (.ref 8 :: As.map (sy_dv F0)) (H, X2) 0 0 (fun w G => w = some (.int r) ∧ G.2 = X2) := by
  rw [Bool.and_eq_true, Bool.and_eq_true] at hw
  obtain ⟨⟨hw1, hw2⟩, hw3⟩ := hw
  obtain ⟨F, hF, hs⟩ := sy_ex F0 hw1
  obtain ⟨G1, O1, h1, hb⟩ := sy_is_ok h
  have hT := sy_T (Ls := Ls) (xs := xs) jm_TBok jm_hYN hM hA h1 F [] X2 hs (fun p hp1 => sy_pw_ok (List.all_eq_true.mp hw3 p hp1) hF (hp p hp1))
  rw [List.map_cons, sy_vs_ok hw2 hF] at hT
  have hG : sy_dh F [] X2 (.inl (H.map sy_lift), .inr ()) = (H, X2) := by simp only [sy_dh, sy_dg, sy_lifts]
  rw [hG] at hT
  intro l D h0 ex ka
  have h3 := hT l D h0 ex ka
  have hpost : ∀ (a : Array Value) (st : State) (o : Outcome) (t : State), jm_Qc D h0 ex ka 0 (H, X2) (fun w G' => w = Option.map (sy_dv F) (some (.inl (.int r))) ∧ G' = sy_dh F [] X2 G1) a st o t → jm_Qc D h0 ex ka 0 (H, X2) (fun w G => w = some (.int r) ∧ G.2 = X2) a st o t := by
    rintro a st o t ⟨⟨w, G2, ⟨rfl, rfl⟩, hl, ho, hR⟩, hf⟩
    refine ⟨⟨_, _, ⟨rfl, ?_⟩, hl, ho, hR⟩, hf⟩
    obtain ⟨u, hu⟩ := hb rfl
    simp only [sy_dh, sy_dg, hu]
  exact fun p e ha hc hk s m args below hf happ hP hK => by
    obtain ⟨n, o, a1, a2, a3, a4, a5⟩ := h3 p e ha hc hk s m args below hf happ hP hK
    exact ⟨n, o, a1, a2, a3, hpost _ _ _ _ a4, a5⟩
/-- the reference on cells H, from a run -/
theorem sy_cM {H : List jm_c} {nv n : Nat} {kM : jm_M} {As : List sy_v} {O : List Bool} {T : List sy_e} {P : List sy_p} {r : Int32} {Ls : Nat} {xs : Nat → Int32} (F0 : Nat → sy_d) (hM : jm_ok jm_YN kM) (hA : (sy_e1 (.inl (.ref 1000) :: As)).length ≤ jm_mx kM)
    (h : sy_is (sy_ev jm_TB nv n 19 kM 0 (sy_ent (jm_mx kM) (.inl (.ref 1000) :: As)) [] (.inr (), .inl (H.map sy_lift)) ([], [], O)) (.inl (.int r)) false T P = true) (hw : (sy_wf nv T && As.all (sy_vw nv) && P.all (sy_pw nv)) = true) (hp : ∀ p ∈ P, sy_ps F0 p) :
    ∀ G1 : jm_h, G1.2 = H → jm_T Ls xs 20 kM (.ref 1000 :: As.map (sy_dv F0)) G1 0 0 (fun w _ => w = some (.int r) ∧ True) := by
  rintro ⟨X1, _⟩ rfl
  rw [Bool.and_eq_true, Bool.and_eq_true] at hw
  obtain ⟨⟨hw1, hw2⟩, hw3⟩ := hw
  obtain ⟨F, hF, hs⟩ := sy_ex F0 hw1
  obtain ⟨G1, O1, h1, hb⟩ := sy_is_ok h
  rename_i H
  have hT := sy_T (Ls := Ls) (xs := xs) jm_TBok jm_hYN hM hA h1 F X1 [] hs (fun p hp1 => sy_pw_ok (List.all_eq_true.mp hw3 p hp1) hF (hp p hp1))
  rw [List.map_cons, sy_vs_ok hw2 hF] at hT
  have hG : sy_dh F X1 [] (.inr (), .inl (H.map sy_lift)) = (X1, H) := by simp only [sy_dh, sy_dg, sy_lifts]
  rw [hG] at hT
  intro l D h0 ex ka
  have h3 := hT l D h0 ex ka
  exact fun p e ha hc hk s m args below hf happ hP hK => by
    obtain ⟨n, o, a1, a2, a3, ⟨⟨w, G2, ⟨rfl, rfl⟩, hl, ho, hR⟩, hfr⟩, a5⟩ := h3 p e ha hc hk s m args below hf happ hP hK
    exact ⟨n, o, a1, a2, a3, ⟨⟨_, _, ⟨rfl, trivial⟩, hl, ho, hR⟩, hfr⟩, a5⟩
