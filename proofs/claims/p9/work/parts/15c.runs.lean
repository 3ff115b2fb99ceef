/-! ===== runs from states whose symbols are given ===== -/
def sy_cw (b : Nat) (c : sy_c) : Bool := match c with
  | .inl (_, _, a) => sy_aw b a
  | .inr (_, fs) => fs.all (sy_vw b)
def sy_gw (b : Nat) (g : sy_g) : Bool := match g with
  | .inl l => l.all (sy_cw b)
  | .inr _ => true
def sy_ow (b : Nat) (o : Option sy_v) : Bool := match o with
  | some x => sy_vw b x
  | none => true
def sy_sw (b : Nat) (L : List (Option sy_v)) (S : List sy_v) (G : sy_h) : Bool := L.all (sy_ow b) && S.all (sy_vw b) && sy_gw b G.1 && sy_gw b G.2
theorem sy_cw_ok {b : Nat} {c : sy_c} {F F' : Nat → sy_d} (h : sy_cw b c = true) (hF : ∀ k, k < b → F k = F' k) : sy_dc F c = sy_dc F' c := by
  unfold sy_cw at h
  split at h
  · simp only [sy_dc, sy_aw_ok h hF]
  · simp only [sy_dc, sy_vs_ok h hF]
theorem sy_gw_ok {b : Nat} {g : sy_g} {X : List jm_c} {F F' : Nat → sy_d} (h : sy_gw b g = true) (hF : ∀ k, k < b → F k = F' k) : sy_dg F X g = sy_dg F' X g := by
  unfold sy_gw at h
  split at h
  · exact List.map_congr_left (fun c hc => sy_cw_ok (List.all_eq_true.mp h c hc) hF)
  · rfl
theorem sy_sw_ok {b : Nat} {L : List (Option sy_v)} {S : List sy_v} {G : sy_h} {X1 X2 : List jm_c} {F F' : Nat → sy_d} (h : sy_sw b L S G = true) (hF : ∀ k, k < b → F k = F' k) : sy_dL F L = sy_dL F' L ∧ sy_dS F S = sy_dS F' S ∧ sy_dh F X1 X2 G = sy_dh F' X1 X2 G := by
  simp only [sy_sw, Bool.and_eq_true] at h
  obtain ⟨⟨⟨h1, h2⟩, h3⟩, h4⟩ := h
  refine ⟨List.map_congr_left (fun o ho => ?_), sy_vs_ok h2 hF, ?_⟩
  · have h5 := List.all_eq_true.mp h1 o ho
    unfold sy_ow at h5
    split at h5
    · rw [Option.map_some, Option.map_some, sy_vw_ok h5 hF]
    · rfl
  · simp only [sy_dh, sy_gw_ok h3 hF, sy_gw_ok h4 hF]
theorem sy_at_ex {nv : Nat} {sp sm : List Nat} {n d : Nat} {M : jm_M} {f : Bool} {pc0 : Nat} {L0 : List (Option sy_v)} {S0 : List sy_v} {G0 : sy_h} {O : List Bool} {pc : Nat} {L : List (Option sy_v)} {S : List sy_v} {G : sy_h} {u : sy_u} {T : List sy_e} {P : List sy_p} {Ls : Nat} {xs : Nat → Int32}
    (hM : jm_ok jm_YN M) (h : sy_at (sy_go jm_TB nv sp sm n d M f pc0 L0 S0 G0 ([], [], O)) pc L S G u T P = true) (hw : (sy_wf nv T && sy_sw nv L0 S0 G0) = true) (F : Nat → sy_d) (X1 X2 : List jm_c) (hp : ∀ F' : Nat → sy_d, (∀ k, k < nv → F' k = F k) → sy_sat F' nv T → ∀ p ∈ P, sy_ps F' p)
    {p : Program} {l : Launch} {e : Env} {R : Room} {s : State} {m : MethodId} {args : Array Value} {below : List Frame} {meth : Method} {c : Code} {D : va_G} {h0 : Nat} {ex : Nat → Nat} {ka : Nat → ClassId} {n0 : Nat} {Q : State → Prop} (C0 : jm_C p s m args meth c D h0 ex ka Ls xs M n0) (hfr : d + 1 ≤ R.frames) (hlo : 64 * (d + 1) ≤ R.locals)
    (k : ∀ F' : Nat → sy_d, (∀ k, k < nv → F' k = F k) → sy_sat F' nv T → jm_W p l e R s m args below meth c D h0 ex ka M n0 Q (pc, sy_dL (sy_cm F' u) L, sy_dS (sy_cm F' u) S, sy_dh (sy_cm F' u) X1 X2 G, 0, 0)) :
    jm_W p l e R s m args below meth c D h0 ex ka M n0 Q (pc0, sy_dL F L0, sy_dS F S0, sy_dh F X1 X2 G0, 0, 0) := by
  rw [Bool.and_eq_true] at hw
  obtain ⟨F', hF, hs⟩ := sy_ex F hw.1
  obtain ⟨e1, e2, e3⟩ := sy_sw_ok (X1 := X1) (X2 := X2) hw.2 hF
  rw [← e1, ← e2, ← e3]
  exact sy_at_ok jm_TBok jm_hYN hM.2.2.2.2.2.2.2.2.2 h F' X1 X2 hs (hp F' hF hs) C0 hfr hlo (k F' hF hs)
theorem sy_fin_ex {nv : Nat} {n d : Nat} {M : jm_M} {pc0 : Nat} {L0 : List (Option sy_v)} {S0 : List sy_v} {G0 : sy_h} {O : List Bool} {v : Option sy_v} {G : sy_h} {u : sy_u} {T : List sy_e} {P : List sy_p} {Ls : Nat} {xs : Nat → Int32}
    (hM : jm_ok jm_YN M) (h : sy_fin (sy_ev jm_TB nv n d M pc0 L0 S0 G0 ([], [], O)) v G u T P = true) (hw : (sy_wf nv T && sy_sw nv L0 S0 G0) = true) (F : Nat → sy_d) (X1 X2 : List jm_c) (hp : ∀ F' : Nat → sy_d, (∀ k, k < nv → F' k = F k) → sy_sat F' nv T → ∀ p ∈ P, sy_ps F' p)
    {p : Program} {l : Launch} {e : Env} {s : State} {m : MethodId} {args : Array Value} {below : List Frame} {meth : Method} {c : Code} {D : va_G} {h0 : Nat} {ex : Nat → Nat} {ka : Nat → ClassId} {H0 : jm_h} {Post : Option Value → jm_h → Prop} (C0 : jm_C p s m args meth c D h0 ex ka Ls xs M (jm_len H0)) (hP : ∀ F' : Nat → sy_d, (∀ k, k < nv → F' k = F k) → sy_sat F' nv T → Post (v.map (sy_dv (sy_cm F' u))) (sy_dh (sy_cm F' u) X1 X2 G)) :
    jm_W p l e (jm_room (d + 1) 0 0) s m args below meth c D h0 ex ka M (jm_len H0) (MQ below (jm_Qc D h0 ex ka 0 H0 Post) args s 0 0 (fun q => h0 ≤ q)) (pc0, sy_dL F L0, sy_dS F S0, sy_dh F X1 X2 G0, 0, 0) := by
  rw [Bool.and_eq_true] at hw
  obtain ⟨F', hF, hs⟩ := sy_ex F hw.1
  obtain ⟨e1, e2, e3⟩ := sy_sw_ok (X1 := X1) (X2 := X2) hw.2 hF
  rw [← e1, ← e2, ← e3]
  exact sy_fin_ok jm_TBok jm_hYN hM.2.2.2.2.2.2.2.2.2 h F' X1 X2 hs (hp F' hF hs) C0 (hP F' hF hs)
/-- a call to a method whose contract is known, at a state with symbols -/
theorem sy_call {nv d d1 : Nat} {M M1 : jm_M} {pc : Nat} {L : List (Option sy_v)} {S As rest : List sy_v} {G : sy_h} {i : jm_I} {Ls : Nat} {xs : Nat → Int32} {Post : Option Value → jm_h → Prop} (hM : jm_ok jm_YN M) (hi : jm_in M pc = some i) (hcf : sy_cf jm_TB i G S = some (M1, As, rest)) (F : Nat → sy_d) (X1 X2 : List jm_c)
    {p : Program} {l : Launch} {e : Env} {R : Room} {s : State} {m : MethodId} {args : Array Value} {below : List Frame} {meth : Method} {c : Code} {D : va_G} {h0 : Nat} {ex : Nat → Nat} {ka : Nat → ClassId} {n0 : Nat} {Q : State → Prop} (C0 : jm_C p s m args meth c D h0 ex ka Ls xs M n0) (hT : jm_T Ls xs d1 M1 (As.map (sy_dv F)) (sy_dh F X1 X2 G) 0 0 Post) (hfr : d1 + 1 ≤ R.frames) (hlo : 64 * d1 + 64 ≤ R.locals)
    (k : ∀ (v : Option Value) (G1 : jm_h), Post v G1 → jm_len G1 = jm_len (sy_dh F X1 X2 G) → jm_W p l e R s m args below meth c D h0 ex ka M n0 Q (pc + 3, sy_dL F L, v.toList ++ sy_dS F rest, G1, 0, 0)) :
    jm_W p l e R s m args below meth c D h0 ex ka M n0 Q (pc, sy_dL F L, sy_dS F S, sy_dh F X1 X2 G, 0, 0) :=
  jm_call_ok jm_TBok jm_hYN C0 (jm_in_ck hM.2.2.2.2.2.2.2.2.2 hi) (sy_cf_ok hcf F X1 X2) hT hfr hlo (Nat.zero_le _) (Nat.zero_le _) k
