section
/-! ===== calls with more left on the stack ===== -/
theorem hd_call2 {Ls : Nat} {xs : Nat → Int32} {d d1 : Nat} {M M1 : jm_M} {Q P1 : Option Value → jm_h → Prop} {pc : Nat} {i : jm_I} {L : List (Option sy_v)} {S As rest : List sy_v} {G : sy_h} {F : Nat → sy_d} {X1 X2 : List jm_c} (hM : jm_ok jm_YN M) (hi : jm_in M pc = some i) (hcf : sy_c2 jm_TB i G S = some (M1, As, rest)) (hT : jm_T Ls xs d1 M1 (As.map (sy_dv F)) (sy_dh F X1 X2 G) 0 0 P1) (hd : d1 + 1 ≤ d)
    (k : ∀ v G1, P1 v G1 → hd_W Ls xs d M Q (pc + 3, sy_dL F L, v.toList ++ sy_dS F rest, G1, 0, 0)) : hd_W Ls xs d M Q (pc, sy_dL F L, sy_dS F S, sy_dh F X1 X2 G, 0, 0) := by
  intro p l e ss m args below meth cc D h0 ex ka G0 Post C0 hP
  exact sy_call_ok jm_TBok jm_hYN C0 (jm_in_ck hM.2.2.2.2.2.2.2.2.2 hi) hcf F X1 X2 hT (show d1 + 1 ≤ d from hd) (show 64 * d1 + 64 ≤ 64 * d by omega) (Nat.zero_le _) (Nat.zero_le _) (fun v G1 h1 _ => k v G1 h1 C0 hP)
theorem hd_calI2 {Ls : Nat} {xs : Nat → Int32} {d d1 : Nat} {M M1 : jm_M} {Q : Option Value → jm_h → Prop} {pc nh nv s s1 : Nat} {i : jm_I} {L : List (Option sy_v)} {S As rest : List sy_v} {F : Nat → sy_d} {X1 X2 : List jm_c} {R : Int32 → (Nat → sy_d) → Prop} (hM : jm_ok jm_YN M) (hi : jm_in M pc = some i) (hcf : sy_c2 jm_TB i (iv_H s) S = some (M1, As, rest)) (hd : d1 + 1 ≤ d) (hsc : hd_sc nh nv s1 L rest = true)
    (hT : jm_T Ls xs d1 M1 (As.map (sy_dv F)) (sy_dh F X1 X2 (iv_H s)) 0 0 (fun v G => ∃ (x : Int32) (F' : Nat → sy_d), v = some (.int x) ∧ G = sy_dh F' X1 X2 (iv_H s1) ∧ R x F'))
    (k : ∀ (F2 F' : Nat → sy_d) (x : Int32), R x F' → (∀ q, q < nh → F2 q = F' q) → (∀ q, nh ≤ q → q < nv → F2 q = F q) → F2 nv = .inl (.int x) → hd_W Ls xs d M Q (pc + 3, sy_dL F2 L, sy_dS F2 (.inr (.inl nv) :: rest), sy_dh F2 X1 X2 (iv_H s1), 0, 0)) :
    hd_W Ls xs d M Q (pc, sy_dL F L, sy_dS F S, sy_dh F X1 X2 (iv_H s), 0, 0) := by
  refine hd_call2 hM hi hcf hT hd (fun v G1 hv => ?_)
  obtain ⟨x, F', rfl, rfl, hR⟩ := hv
  simp only [hd_sc, Bool.and_eq_true] at hsc
  obtain ⟨⟨⟨⟨⟨⟨g1, g2⟩, l1⟩, l2⟩, r1⟩, r2⟩, hn⟩ := hsc
  have hn := Nat.le_of_ble_eq_true hn
  obtain ⟨F2, hF2⟩ : ∃ F2 : Nat → sy_d, F2 = fun q => if q < nh then F' q else if q < nv then F q else .inl (.int x) := ⟨_, rfl⟩
  have p1 : ∀ q, q < nh → F2 q = F' q := fun q hq => by rw [hF2]; exact if_pos hq
  have p2 : ∀ q, nh ≤ q → q < nv → F2 q = F q := fun q hq hq2 => by
    rw [hF2]
    dsimp only
    rw [if_neg (by omega), if_pos hq2]
  have p3 : F2 nv = .inl (.int x) := by
    rw [hF2]
    dsimp only
    rw [if_neg (by omega), if_neg (by omega)]
  have hk := k F2 F' x hR p1 p2 p3
  have e1 : sy_dh F2 X1 X2 (iv_H s1) = sy_dh F' X1 X2 (iv_H s1) := by simp only [sy_dh, sy_gw_ok g1 p1, sy_gw_ok g2 p1]
  have e2 : sy_dS F2 (.inr (.inl nv) :: rest) = (some (Value.int x)).toList ++ sy_dS F rest := by
    show Value.int (sy_i F2 nv) :: rest.map (sy_dv F2) = _
    rw [hd_mrgS r1 r2 p2, zz_i p3]
    rfl
  rw [hd_mrgL l1 l2 p2, e1, e2] at hk
  exact hk
/-! ===== the outlook: hour by hour, how ripe, how likely it falls, what it would be worth ===== -/
noncomputable def shJ (g : gS) (f j : Nat) : Int32 := if j = 0 then g 6 f else 0
noncomputable def hrJ (g : gS) (j : Nat) : Int32 := g 9 0 + Int32.ofInt (j : Int)
noncomputable def wiJ (T : tX) (g : gS) (j : Nat) : Int32 := Int32.ofInt (windT T (hrJ g j) (lfS T g))
noncomputable def olR (T : tX) (g : gS) (f : Nat) (p : Int32) : Nat → Int32
  | 0 => g 1 f
  | j + 1 => Int32.ofInt (hdz 0 99 (olR T g f p j + Int32.ofInt (ripeT T f (olR T g f p j) (shJ g f j) p (wiJ T g j) (hrJ g j) (lfS T g))).toInt)
noncomputable def olC (T : tX) (g : gS) (f : Nat) (p : Int32) (j : Nat) : Int := fallT T f (olR T g f p j) (shJ g f j) p (wiJ T g j) (hrJ g j) (lfS T g)
noncomputable def olX (T : tX) (g : gS) (f : Nat) (p : Int32) (j : Nat) : Int := worthT T f (olR T g f p j) 0 (hrJ g j) (lfS T g)
theorem olC_in (T : tX) (g : gS) (f : Nat) (p : Int32) (j : Nat) : 0 ≤ olC T g f p j ∧ olC T g f p j ≤ 100 := lwT_in T 2 _
theorem olX_in (T : tX) (g : gS) (f : Nat) (p : Int32) (j : Nat) : 0 ≤ olX T g f p j ∧ olX T g f p j ≤ 99 := lwT_in T 3 _
theorem hdz_m {x : Int} (h : 0 ≤ x) (h2 : x ≤ 99) : hdz 0 99 x = x := by
  unfold hdz
  rw [if_neg (by omega), if_neg (by omega)]
theorem hdz_l {x : Int} (h : x ≤ 0) : hdz 0 99 x = 0 := by
  unfold hdz
  by_cases q : x < 0
  · rw [if_pos q]
  · rw [if_neg q, if_neg (by omega)]
    omega
theorem hdz_h {x : Int} (h : 99 ≤ x) : hdz 0 99 x = 99 := by
  unfold hdz
  rw [if_neg (by omega)]
  by_cases q : 99 < x
  · rw [if_pos q]
  · rw [if_neg q]
    omega
/-- the vars of a fruit in the outlook -/
def oV (T : tX) (g : gS) (f : Nat) (p : Int32) (j : Nat) (F : Nat → sy_d) : Prop := v45 F 0 = olR T g f p j ∧ v45 F 1 = Int32.ofInt (tF T f).2.1 ∧ v45 F 2 = hrJ g j ∧ v45 F 3 = wiJ T g j ∧ v45 F 4 = Int32.ofInt (tF T f).1 ∧ v45 F 5 = shJ g f j ∧ v45 F 6 = p ∧ v45 F 7 = 0 ∧ v45 F 8 = lfS T g
section OV
variable {T : tX} {g : gS} {f : Nat} {p : Int32} {j : Nat} {F F1 : Nat → sy_d}
theorem oV_e (h : oV T g f p j F) (e : sy_ai F1 45 = sy_ai F 45) : oV T g f p j F1 := by
  unfold oV v45
  rw [e]
  exact h
theorem oV_2 (hT : wT T) (h : oV T g f p j F) : lwT T 2 (v45 F) = olC T g f p j := lwT_cg hT (nine9 (fun _ => h.1) (fun _ => h.2.1) (fun _ => h.2.2.1) (fun _ => h.2.2.2.1) (fun _ => h.2.2.2.2.1) (fun _ => h.2.2.2.2.2.1) (fun _ => h.2.2.2.2.2.2.1) (fun t => absurd t (by decide)) (fun _ => h.2.2.2.2.2.2.2.2))
theorem oV_1 (hT : wT T) (h : oV T g f p j F) : lwT T 1 (v45 F) = ripeT T f (olR T g f p j) (shJ g f j) p (wiJ T g j) (hrJ g j) (lfS T g) := lwT_cg hT (nine9 (fun _ => h.1) (fun _ => h.2.1) (fun _ => h.2.2.1) (fun _ => h.2.2.2.1) (fun _ => h.2.2.2.2.1) (fun _ => h.2.2.2.2.2.1) (fun _ => h.2.2.2.2.2.2.1) (fun t => absurd t (by decide)) (fun _ => h.2.2.2.2.2.2.2.2))
theorem oV_3 (hT : wT T) (h : oV T g f p j F) : lwT T 3 (v45 F) = olX T g f p j := lwT_cg hT (nine9 (fun _ => h.1) (fun _ => h.2.1) (fun _ => h.2.2.1) (fun t => absurd t (by decide)) (fun _ => h.2.2.2.2.1) (fun t => absurd t (by decide)) (fun t => absurd t (by decide)) (fun _ => h.2.2.2.2.2.2.2.1) (fun _ => h.2.2.2.2.2.2.2.2))
theorem oV_set {a b c d e h r s q : Int32} (hA : sy_ai F1 45 = jm_upd (jm_upd (jm_upd (jm_upd (jm_upd (jm_upd (jm_upd (jm_upd (jm_upd (sy_ai F 45) (0 : Int).toNat a) (1 : Int).toNat b) (4 : Int).toNat c) (5 : Int).toNat d) (6 : Int).toNat e) (7 : Int).toNat h) (0 : Int).toNat r) (5 : Int).toNat s) (6 : Int).toNat q) (eb : b = Int32.ofInt (tF T f).2.1) (ec : c = Int32.ofInt (tF T f).1) (eh : h = 0) (er : r = olR T g f p j) (es : s = shJ g f j) (eq : q = p) (h2 : v45 F 2 = hrJ g j) (h8 : v45 F 8 = lfS T g) (h3 : v45 F 3 = wiJ T g j) : oV T g f p j F1 := by
  have key : ∀ j : Nat, v45 F1 j = if j = (6 : Int).toNat then q else if j = (5 : Int).toNat then s else if j = (0 : Int).toNat then r else if j = (7 : Int).toNat then h else if j = (6 : Int).toNat then e else if j = (5 : Int).toNat then d else if j = (4 : Int).toNat then c else if j = (1 : Int).toNat then b else if j = (0 : Int).toNat then a else v45 F j := fun j => by
    show (sy_ai F1 45).getD j 0 = _
    rw [hA, jm_upd_at, jm_upd_at, jm_upd_at, jm_upd_at, jm_upd_at, jm_upd_at, jm_upd_at, jm_upd_at, jm_upd_at]
    rfl
  refine ⟨?_, ?_, ?_, ?_, ?_, ?_, ?_, ?_, ?_⟩
  · rw [key]; exact er
  · rw [key]; exact eb
  · rw [key]; exact h2
  · rw [key]; exact h3
  · rw [key]; exact ec
  · rw [key]; exact es
  · rw [key]; exact eq
  · rw [key]; exact eh
  · rw [key]; exact h8
end OV
/-- what stands in the two rows up to n -/
def olA (T : tX) (g : gS) (f : Nat) (p : Int32) (a b : List Int32) (n : Nat) : Prop := ∀ j, j < n → a.getD j 0 = Int32.ofInt (olC T g f p j) ∧ b.getD j 0 = Int32.ofInt (olX T g f p j)
theorem olA_up {T : tX} {g : gS} {f : Nat} {p : Int32} {a b : List Int32} {n k : Nat} {x y : Int32} (h : olA T g f p a b n) (hk : k = n) (hx : x.toInt = olC T g f p n) (hy : y.toInt = olX T g f p n) : olA T g f p (jm_upd a k x) (jm_upd b k y) (n + 1) := fun j hj => by
  subst hk
  rw [jm_upd_at, jm_upd_at]
  by_cases q : j = k
  · subst q
    rw [if_pos rfl, if_pos rfl]
    exact ⟨(ofi hx).symm, (ofi hy).symm⟩
  · rw [if_neg q, if_neg q]
    exact h j (by omega)
section OL0
variable {Ls : Nat} {xs : Nat → Int32} {T : tX} {g : gS} (F : Nat → sy_d) (X1 X2 : List jm_c)
theorem j0ol_L (hC : xC 3 T F) (hG : gC 50 (nfS T) (nbS T) F g) {f d p : Int32} (hf : 0 ≤ f.toInt ∧ f.toInt < nfS T) (hl : g 4 f.toInt.toNat = 0) {D : Nat} (hd : d.toInt = D) (hD : D ≤ 4) : ∀ (m : Nat) (F1 : Nat → sy_d) (n : Nat), n + m = D → qC [45, 46, 47, 48] F F1 → sy_i F1 82 = f → sy_i F1 83 = d → sy_i F1 84 = p → sy_i F1 85 = lfS T g → sy_i F1 86 = olR T g f.toInt.toNat p n → (sy_i F1 87).toInt = n → olA T g f.toInt.toNat p (sy_ai F1 47) (sy_ai F1 48) n →
    hd_W Ls xs 6 jm_M25 (pV 0 X1 X2 (fun F' => qC [45, 46, 47, 48] F F' ∧ olA T g f.toInt.toNat p (sy_ai F' 47) (sy_ai F' 48) D)) (22, sy_dL F1 [some (.inl (.ref 42)), some (.inl (.ref 10)), some (.inl (.ref 46)), some (.inr (.inl 82)), some (.inr (.inl 83)), some (.inr (.inl 84)), some (.inr (.inl 85)), some (.inr (.inl 86)), some (.inr (.inl 87))], sy_dS F1 [], sy_dh F1 X1 X2 (iv_H 0), 0, 0) := by
  have l7 : nfS T ≤ 7 := hC.2.2.1.1.1
  have hn7 : f.toInt.toNat < nfS T := by omega
  intro m
  induction m with
  | zero =>
    intro F1 n hm hq i82 i83 i84 i85 i86 e87 hA
    have z83 : (sy_i F1 83).toInt = D := (congrArg Int32.toInt i83).trans hd
    refine j0ol_22 (by decide) F1 X1 X2 hq.1 (by omega) (by omega) ?_ ?_ ?_
    · intro c0 F2 hb gg
      refine ⟨F2, rfl, rfl, qq_on hq hb gg (by decide), ?_⟩
      rw [nz_fa (gg 47 (by decide) (by decide)), nz_fa (gg 48 (by decide) (by decide)), show D = n by omega]
      exact hA
    · intros
      omega
    · intros
      omega
  | succ m ih =>
    intro F1 n hm hq i82 i83 i84 i85 i86 e87 hA
    have z83 : (sy_i F1 83).toInt = D := (congrArg Int32.toInt i83).trans hd
    refine j0ol_22 (by decide) F1 X1 X2 hq.1 (by omega) (by omega) ?_ ?_ ?_
    · intros
      omega
    · intros
      omega
    · intro c0 c1 F2 hb gg f82 j82 f83 j83 f84 j84 f85 j85 f86 j86 f87 j87 f88 j88 f89 j89
      have q2 : qC [45, 46, 47, 48] F F2 := qq_on hq hb gg (by decide)
      have c2 := xC_q (by decide) hC q2 (by decide)
      have h88 : sy_i F2 88 = hrJ g n := by
        rw [j88, qq_i hq (j := 50) (by decide) (by decide), show sy_i F 50 = g 9 0 from hG.2 0 (by decide), ← ofi e87]
        rfl
      have h89 : sy_i F2 89 = lfS T g := j89.trans i85
      refine hd_calV (R := fun F' => qC [45, 46] F2 F' ∧ v45 F' 2 = sy_i F2 88 ∧ v45 F' 8 = sy_i F2 89 ∧ v45 F' 3 = Int32.ofInt (windT T (sy_i F2 88) (sy_i F2 89))) (nh := 82) (nv := 88) (s := 0) (s1 := 0) (d1 := 5) (M1 := jm_M17) (As := [.inl (.ref 38), .inl (.ref 10), .inr (.inl 88), .inr (.inl 89)]) (rest := []) jm_ok25 rfl rfl (by decide) (by decide +kernel) (j0sh_V F2 X1 X2 c2 _ _) (fun F3 F' hR p1 p2 => ?_)
      obtain ⟨r1, r2, r3, r4⟩ := hR
      rw [h88] at r2 r4
      rw [h89] at r3 r4
      have r1' : qC [45, 46] F2 F3 := qC_dst r1 p1
      have e45 : v45 F3 = v45 F' := by unfold v45; rw [nz_fa (p1 45 (by decide))]
      have q3 : qC [45, 46, 47, 48] F F3 := qq_trans q2 (qq_up r1' (by decide))
      have c3 := xC_q (by decide) hC q3 (by decide)
      have g3 : gC 50 (nfS T) (nbS T) F3 g := gC_eq hG (fun j h1 h2 => q3.2 j (by omega) (by simp; omega))
      have k82 : sy_i F3 82 = f := (eI (p2 82 (by decide) (by decide))).trans (j82.trans i82)
      have k83 : sy_i F3 83 = d := (eI (p2 83 (by decide) (by decide))).trans (j83.trans i83)
      have k84 : sy_i F3 84 = p := (eI (p2 84 (by decide) (by decide))).trans (j84.trans i84)
      have k85 : sy_i F3 85 = lfS T g := (eI (p2 85 (by decide) (by decide))).trans (j85.trans i85)
      have k86 : sy_i F3 86 = olR T g f.toInt.toNat p n := (eI (p2 86 (by decide) (by decide))).trans (j86.trans i86)
      have k87 : (sy_i F3 87).toInt = n := by rw [nz_fi (p2 87 (by decide) (by decide)), f87]; exact e87
      have hx := xX_f c3 hn7
      have fin : ∀ F4 : Nat → sy_d, iv_in F4 iv_B0 → (∀ j, j < 82 → j ∉ ([45] : List Nat) → F4 j = F3 j) → oV T g f.toInt.toNat p n F4 → sy_i F4 82 = sy_i F3 82 → sy_i F4 83 = sy_i F3 83 → sy_i F4 84 = sy_i F3 84 → sy_i F4 85 = sy_i F3 85 → sy_i F4 86 = sy_i F3 86 → sy_i F4 87 = sy_i F3 87 → (sy_i F4 88).toInt = (sy_i F3 87).toInt →
          hd_W Ls xs 6 jm_M25 (pV 0 X1 X2 (fun F' => qC [45, 46, 47, 48] F F' ∧ olA T g f.toInt.toNat p (sy_ai F' 47) (sy_ai F' 48) D)) (121, sy_dL F4 [some (.inl (.ref 42)), some (.inl (.ref 10)), some (.inl (.ref 46)), some (.inr (.inl 82)), some (.inr (.inl 83)), some (.inr (.inl 84)), some (.inr (.inl 85)), some (.inr (.inl 86)), some (.inr (.inl 87))], sy_dS F4 [.inl (.int 2), .inl (.ref 10), .inl (.ref 38), .inr (.inl 88), .inl (.ref 43)], sy_dh F4 X1 X2 (iv_H 0), 0, 0) := by
        intro F4 hb4 g4 hV m82 m83 m84 m85 m86 m87 h88'
        have q4 : qC [45, 46, 47, 48] F F4 := qq_on q3 hb4 g4 (by decide)
        have c4 := xC_q (by decide) hC q4 (by decide)
        refine hd_calI (R := fun x F' => qC [46] F4 F' ∧ x.toInt = lwT T 2 (v45 F4)) (nh := 82) (nv := 89) (s := 0) (s1 := 0) (d1 := 4) (M1 := jm_M21) (As := [.inl (.ref 38), .inl (.ref 10), .inl (.int 2)]) (rest := [.inr (.inl 88), .inl (.ref 43)]) jm_ok25 rfl rfl (by decide) (by decide +kernel) (j0tl_V F4 X1 X2 c4 (by decide) (by decide)) (fun F5 F6 x hR5 u1 u2 u3 => ?_)
        obtain ⟨s1, s2⟩ := hR5
        rw [oV_2 hC.2.2.1 hV] at s2
        have s1' : qC [46] F4 F5 := qC_dst s1 u1
        have q5 : qC [45, 46, 47, 48] F F5 := qq_trans q4 (qq_up s1' (by decide))
        have hV5 := oV_e hV (qq_a s1' (by decide) (by decide))
        have a88 : (sy_i F5 88).toInt = n := by rw [nz_fi (u2 88 (by decide) (by decide)), h88']; exact k87
        have a87 : (sy_i F5 87).toInt = n := by rw [nz_fi (u2 87 (by decide) (by decide)), m87]; exact k87
        have a89 : (sy_i F5 89).toInt = olC T g f.toInt.toNat p n := by rw [zz_i u3]; exact s2
        have cin := olC_in T g f.toInt.toNat p n
        refine j0ol_124 (by decide) F5 X1 X2 q5.1 (by omega) (by omega) ?_
        intro F7 hb7 g7 a47 b82 v82 b83 v83 b84 v84 b85 v85 b86 v86 b87 v87 b88 v88
        have q57 : qC [47] F5 F7 := qq_mk hb7 g7 (by decide)
        have q7 : qC [45, 46, 47, 48] F F7 := qq_trans q5 (qq_up q57 (by decide))
        have c7 := xC_q (by decide) hC q7 (by decide)
        have hV7 := oV_e hV5 (qq_a q57 (by decide) (by decide))
        refine hd_calI (R := fun x F' => qC [46] F7 F' ∧ x.toInt = lwT T 3 (v45 F7)) (nh := 82) (nv := 89) (s := 0) (s1 := 0) (d1 := 4) (M1 := jm_M21) (As := [.inl (.ref 38), .inl (.ref 10), .inl (.int 3)]) (rest := [.inr (.inl 88), .inl (.ref 44)]) jm_ok25 rfl rfl (by decide) (by decide +kernel) (j0tl_V F7 X1 X2 c7 (by decide) (by decide)) (fun F8 F9 y hR8 w1 w2 w3 => ?_)
        obtain ⟨t1, t2⟩ := hR8
        rw [oV_3 hC.2.2.1 hV7] at t2
        have t1' : qC [46] F7 F8 := qC_dst t1 w1
        have q8 : qC [45, 46, 47, 48] F F8 := qq_trans q7 (qq_up t1' (by decide))
        have hV8 := oV_e hV7 (qq_a t1' (by decide) (by decide))
        have d88 : (sy_i F8 88).toInt = n := by rw [nz_fi (w2 88 (by decide) (by decide)), b88]; exact a87
        have d89 : (sy_i F8 89).toInt = olX T g f.toInt.toNat p n := by rw [zz_i w3]; exact t2
        have xin := olX_in T g f.toInt.toNat p n
        refine j0ol_140 (by decide) F8 X1 X2 q8.1 (by omega) ?_
        intro FA hbA gA a48 o82 x82 o83 x83 o84 x84 o85 x85 o86 x86 o87 x87 o88 x88
        have q8A : qC [48] F8 FA := qq_mk hbA gA (by decide)
        have qA : qC [45, 46, 47, 48] F FA := qq_trans q8 (qq_up q8A (by decide))
        have cA := xC_q (by decide) hC qA (by decide)
        have hVA := oV_e hV8 (qq_a q8A (by decide) (by decide))
        have all : ∀ j, 82 ≤ j → j < 88 → sy_i F8 j = sy_i F7 j := fun j h1 h2 => eI (w2 j h1 (by omega))
        have all5 : ∀ j, 82 ≤ j → j < 88 → sy_i F5 j = sy_i F4 j := fun j h1 h2 => eI (u2 j h1 (by omega))
        have n82 : sy_i FA 82 = f := x82.trans ((all 82 (by decide) (by decide)).trans (v82.trans ((all5 82 (by decide) (by decide)).trans (m82.trans k82))))
        have n83 : sy_i FA 83 = d := x83.trans ((all 83 (by decide) (by decide)).trans (v83.trans ((all5 83 (by decide) (by decide)).trans (m83.trans k83))))
        have n84 : sy_i FA 84 = p := x84.trans ((all 84 (by decide) (by decide)).trans (v84.trans ((all5 84 (by decide) (by decide)).trans (m84.trans k84))))
        have n85 : sy_i FA 85 = lfS T g := x85.trans ((all 85 (by decide) (by decide)).trans (v85.trans ((all5 85 (by decide) (by decide)).trans (m85.trans k85))))
        have n86 : sy_i F8 86 = olR T g f.toInt.toNat p n := (all 86 (by decide) (by decide)).trans (v86.trans ((all5 86 (by decide) (by decide)).trans (m86.trans k86)))
        have n87 : (sy_i FA 87).toInt = n := by rw [o87, all 87 (by decide) (by decide), b87]; exact a87
        have n88 : sy_i FA 88 = olR T g f.toInt.toNat p n := x88.trans n86
        have b47 : sy_ai FA 47 = jm_upd (sy_ai F1 47) n (sy_i F5 89) := by
          rw [nz_fa (gA 47 (by decide) (by decide)), qq_a t1' (j := 47) (by decide) (by decide), a47, show (sy_i F5 88).toInt.toNat = n by omega, qq_a s1' (j := 47) (by decide) (by decide), nz_fa (g4 47 (by decide) (by decide)), qq_a r1' (j := 47) (by decide) (by decide), nz_fa (gg 47 (by decide) (by decide))]
        have b48 : sy_ai FA 48 = jm_upd (sy_ai F1 48) n (sy_i F8 89) := by
          rw [a48, show (sy_i F8 88).toInt.toNat = n by omega, qq_a t1' (j := 48) (by decide) (by decide), nz_fa (g7 48 (by decide) (by decide)), qq_a s1' (j := 48) (by decide) (by decide), nz_fa (g4 48 (by decide) (by decide)), qq_a r1' (j := 48) (by decide) (by decide), nz_fa (gg 48 (by decide) (by decide))]
        have hAA : olA T g f.toInt.toNat p (sy_ai FA 47) (sy_ai FA 48) (n + 1) := by
          rw [b47, b48]
          exact olA_up hA rfl a89 d89
        refine hd_calI (R := fun x F' => qC [46] FA F' ∧ x.toInt = lwT T 1 (v45 FA)) (nh := 82) (nv := 89) (s := 0) (s1 := 0) (d1 := 4) (M1 := jm_M21) (As := [.inl (.ref 38), .inl (.ref 10), .inl (.int 1)]) (rest := [.inr (.inl 88)]) jm_ok25 rfl rfl (by decide) (by decide +kernel) (j0tl_V FA X1 X2 cA (by decide) (by decide)) (fun FB FC z hRB y1 y2 y3 => ?_)
        obtain ⟨z1, z2⟩ := hRB
        rw [oV_1 hC.2.2.1 hVA] at z2
        have z1' : qC [46] FA FB := qC_dst z1 y1
        have qB : qC [45, 46, 47, 48] F FB := qq_trans qA (qq_up z1' (by decide))
        have hAB : olA T g f.toInt.toNat p (sy_ai FB 47) (sy_ai FB 48) (n + 1) := by
          rw [qq_a z1' (j := 47) (by decide) (by decide), qq_a z1' (j := 48) (by decide) (by decide)]
          exact hAA
        have l82 : sy_i FB 82 = f := (eI (y2 82 (by decide) (by decide))).trans n82
        have l83 : sy_i FB 83 = d := (eI (y2 83 (by decide) (by decide))).trans n83
        have l84 : sy_i FB 84 = p := (eI (y2 84 (by decide) (by decide))).trans n84
        have l85 : sy_i FB 85 = lfS T g := (eI (y2 85 (by decide) (by decide))).trans n85
        have l87 : (sy_i FB 87).toInt = n := by rw [nz_fi (y2 87 (by decide) (by decide))]; exact n87
        have l88 : sy_i FB 88 = olR T g f.toInt.toNat p n := (eI (y2 88 (by decide) (by decide))).trans n88
        have l89 : sy_i FB 89 = Int32.ofInt (ripeT T f.toInt.toNat (olR T g f.toInt.toNat p n) (shJ g f.toInt.toNat n) p (wiJ T g n) (hrJ g n) (lfS T g)) := by
          rw [zz_i y3]
          exact (ofi z2).symm
        have nx : ∀ v : Int32, v = Int32.ofInt (hdz 0 99 (sy_i FB 88 + sy_i FB 89).toInt) → v = olR T g f.toInt.toNat p (n + 1) := fun v e => by
          rw [e, l88, l89]
          rfl
        refine j0ol_152 (by decide) FB X1 X2 qB.1 (by omega) ?_ ?_ ?_
        · intro x0 x1 FD hbD gD a1 b1 a2 b2 a3 b3 a4 b4 a5 b5 a6 b6
          refine ih FD (n + 1) (by omega) (qq_on qB hbD gD (by decide)) (b1.trans l82) (b2.trans l83) (b3.trans l84) (b4.trans l85) (nx _ ?_) (by omega) ?_
          · rw [hdz_m (by omega) (by omega), b5]
            exact (ofi rfl).symm
          · rw [nz_fa (gD 47 (by decide) (by decide)), nz_fa (gD 48 (by decide) (by decide))]
            exact hAB
        · intro x0 x1 FD hbD gD a1 b1 a2 b2 a3 b3 a4 b4 a5 b5 a6 b6
          refine ih FD (n + 1) (by omega) (qq_on qB hbD gD (by decide)) (b1.trans l82) (b2.trans l83) (b3.trans l84) (b4.trans l85) (nx _ ?_) (by omega) ?_
          · rw [hdz_l (by omega), b5]
            rfl
          · rw [nz_fa (gD 47 (by decide) (by decide)), nz_fa (gD 48 (by decide) (by decide))]
            exact hAB
        · intro x0 FD hbD gD a1 b1 a2 b2 a3 b3 a4 b4 a5 b5 a6 b6
          refine ih FD (n + 1) (by omega) (qq_on qB hbD gD (by decide)) (b1.trans l82) (b2.trans l83) (b3.trans l84) (b4.trans l85) (nx _ ?_) (by omega) ?_
          · rw [hdz_h (by omega), b5]
            rfl
          · rw [nz_fa (gD 47 (by decide) (by decide)), nz_fa (gD 48 (by decide) (by decide))]
            exact hAB
      refine j0ol_52 (by decide) F3 X1 X2 q3.1 (by rw [k82]; omega) (by omega) ?_ ?_
      · intro d0 F4 hb4 g4 a45 b82 m82 b83 m83 b84 m84 b85 m85 b86 m86 b87 m87 b88 m88
        rw [k82] at a45
        exact fin F4 hb4 g4 (oV_set a45 hx.2.1 hx.1 ((g3.1 4 _ (by decide) (vF (by decide) hn7)).trans hl) k86 (by unfold shJ; rw [if_neg (by omega)]) k84 (by rw [e45]; exact r2) (by rw [e45]; exact r3) (by rw [e45]; exact r4)) m82 m83 m84 m85 m86 m87 b88
      · intro d0 F4 hb4 g4 a45 b82 m82 b83 m83 b84 m84 b85 m85 b86 m86 b87 m87 b88 m88
        rw [k82] at a45
        exact fin F4 hb4 g4 (oV_set a45 hx.2.1 hx.1 ((g3.1 4 _ (by decide) (vF (by decide) hn7)).trans hl) k86 (by unfold shJ; rw [if_pos (by omega)]; exact g3.1 6 _ (by decide) (vF (by decide) hn7)) k84 (by rw [e45]; exact r2) (by rw [e45]; exact r3) (by rw [e45]; exact r4)) m82 m83 m84 m85 m86 m87 b88
theorem j0ol_V (hC : xC 3 T F) (hG : gC 50 (nfS T) (nbS T) F g) (f d p : Int32) (hf : 0 ≤ f.toInt ∧ f.toInt < nfS T) (hl : g 4 f.toInt.toNat = 0) (hd : 0 ≤ d.toInt ∧ d.toInt ≤ 4) : jm_T Ls xs 6 jm_M25 [.ref 42, .ref 10, .ref 46, .int f, .int d, .int p] (sy_dh F X1 X2 (iv_H 0)) 0 0 (pV 0 X1 X2 (fun F' => qC [45, 46, 47, 48] F F' ∧ olA T g f.toInt.toNat p (sy_ai F' 47) (sy_ai F' 48) d.toInt.toNat)) := by
  have l7 : nfS T ≤ 7 := hC.2.2.1.1.1
  have enf : (sy_i F 3).toInt = (nfS T : Int) := hC.2.1.1.1
  refine C_T (by decide) [f, d, p] [.inl (.ref 42), .inl (.ref 10), .inl (.ref 46), .inr (.inl 82), .inr (.inl 83), .inr (.inl 84)] jm_ok25 (by decide) rfl (fun F0 k0 ki => ?_)
  have i82 : sy_i F0 82 = f := ki 0
  have i83 : sy_i F0 83 = d := ki 1
  have i84 : sy_i F0 84 = p := ki 2
  refine j0ol_0 (by decide) F0 X1 X2 (hd_iveq0 hC.1 k0) ?_
  intro F1 hb gg f82 j82 f83 j83 f84 j84 f85 j85
  have q1 : qC [] F F1 := qq_src (qq_mk hb gg (by decide)) k0
  have c1 := xC_q (by decide) hC q1 (by decide)
  have g1 : gC 50 (nfS T) (nbS T) F1 g := gC_eq hG (fun j h1 h2 => q1.2 j (by omega) (by simp))
  refine hd_calI (R := fun x F' => qC [] F1 F' ∧ x = ppS (mkS g (0 : Int32).toInt (nfS T))) (nh := 82) (nv := 85) (s := 0) (s1 := 0) (d1 := 2) (M1 := jm_M12) (As := [.inl (.ref 46), .inl (.int 0), .inr (.inl 85)]) (rest := []) jm_ok25 rfl rfl (by decide) (by decide +kernel) (j0nhm_V F1 X1 X2 c1 g1 0 _ (by rw [f85, nz_fi (k0 3 (by decide))]; exact enf)) (fun F3 F' x hR p1 p2 p3 => ?_)
  obtain ⟨r1, r2⟩ := hR
  have q3 : qC [] F F3 := qq_trans q1 (qC_dst r1 p1)
  have k82 : sy_i F3 82 = f := (eI (p2 82 (by decide) (by decide))).trans (j82.trans i82)
  have k83 : sy_i F3 83 = d := (eI (p2 83 (by decide) (by decide))).trans (j83.trans i83)
  have k84 : sy_i F3 84 = p := (eI (p2 84 (by decide) (by decide))).trans (j84.trans i84)
  have k85 : sy_i F3 85 = lfS T g := (zz_i p3).trans r2
  refine j0ol_9 (by decide) F3 X1 X2 q3.1 (by rw [k82]; omega) ?_
  intro F4 hb4 g4 h82 m82 h83 m83 h84 m84 h85 m85 h86 m86 h87 m87
  have r53 : sy_i F4 86 = g 1 f.toInt.toNat := by
    rw [m86, k82, qq_a q3 (j := 53) (by decide) (by decide)]
    exact hG.1 1 _ (by decide) (vF (by decide) (by omega))
  exact j0ol_L F X1 X2 hC hG hf hl (d := d) (p := p) (D := d.toInt.toNat) (by omega) (by omega) d.toInt.toNat F4 0 (by omega) (qq_on (qq_up q3 (by decide)) hb4 g4 (by decide)) (m82.trans k82) (m83.trans k83) (m84.trans k84) (m85.trans k85) r53 h87 (fun j h => absurd h (by omega))
end OL0
section OL1
variable {Ls : Nat} {xs : Nat → Int32} {T : tX} {g : gS} (F : Nat → sy_d) (X1 X2 : List jm_c)
theorem j1ol_L (hC : xC 3 T F) (hG : gC 50 (nfS T) (nbS T) F g) {f d p : Int32} (hf : 0 ≤ f.toInt ∧ f.toInt < nfS T) (hl : g 4 f.toInt.toNat = 0) {D : Nat} (hd : d.toInt = D) (hD : D ≤ 4) : ∀ (m : Nat) (F1 : Nat → sy_d) (n : Nat), n + m = D → qC [45, 46, 47, 48] F F1 → sy_i F1 82 = f → sy_i F1 83 = d → sy_i F1 84 = p → sy_i F1 85 = lfS T g → sy_i F1 86 = olR T g f.toInt.toNat p n → (sy_i F1 87).toInt = n → olA T g f.toInt.toNat p (sy_ai F1 47) (sy_ai F1 48) n →
    hd_W Ls xs 6 jm_M25 (pV 1 X1 X2 (fun F' => qC [45, 46, 47, 48] F F' ∧ olA T g f.toInt.toNat p (sy_ai F' 47) (sy_ai F' 48) D)) (22, sy_dL F1 [some (.inl (.ref 42)), some (.inl (.ref 10)), some (.inl (.ref 46)), some (.inr (.inl 82)), some (.inr (.inl 83)), some (.inr (.inl 84)), some (.inr (.inl 85)), some (.inr (.inl 86)), some (.inr (.inl 87))], sy_dS F1 [], sy_dh F1 X1 X2 (iv_H 1), 0, 0) := by
  have l7 : nfS T ≤ 7 := hC.2.2.1.1.1
  have hn7 : f.toInt.toNat < nfS T := by omega
  intro m
  induction m with
  | zero =>
    intro F1 n hm hq i82 i83 i84 i85 i86 e87 hA
    have z83 : (sy_i F1 83).toInt = D := (congrArg Int32.toInt i83).trans hd
    refine j1ol_22 (by decide) F1 X1 X2 hq.1 (by omega) (by omega) ?_ ?_ ?_
    · intro c0 F2 hb gg
      refine ⟨F2, rfl, rfl, qq_on hq hb gg (by decide), ?_⟩
      rw [nz_fa (gg 47 (by decide) (by decide)), nz_fa (gg 48 (by decide) (by decide)), show D = n by omega]
      exact hA
    · intros
      omega
    · intros
      omega
  | succ m ih =>
    intro F1 n hm hq i82 i83 i84 i85 i86 e87 hA
    have z83 : (sy_i F1 83).toInt = D := (congrArg Int32.toInt i83).trans hd
    refine j1ol_22 (by decide) F1 X1 X2 hq.1 (by omega) (by omega) ?_ ?_ ?_
    · intros
      omega
    · intros
      omega
    · intro c0 c1 F2 hb gg f82 j82 f83 j83 f84 j84 f85 j85 f86 j86 f87 j87 f88 j88 f89 j89
      have q2 : qC [45, 46, 47, 48] F F2 := qq_on hq hb gg (by decide)
      have c2 := xC_q (by decide) hC q2 (by decide)
      have h88 : sy_i F2 88 = hrJ g n := by
        rw [j88, qq_i hq (j := 50) (by decide) (by decide), show sy_i F 50 = g 9 0 from hG.2 0 (by decide), ← ofi e87]
        rfl
      have h89 : sy_i F2 89 = lfS T g := j89.trans i85
      refine hd_calV (R := fun F' => qC [45, 46] F2 F' ∧ v45 F' 2 = sy_i F2 88 ∧ v45 F' 8 = sy_i F2 89 ∧ v45 F' 3 = Int32.ofInt (windT T (sy_i F2 88) (sy_i F2 89))) (nh := 82) (nv := 88) (s := 1) (s1 := 1) (d1 := 5) (M1 := jm_M17) (As := [.inl (.ref 38), .inl (.ref 10), .inr (.inl 88), .inr (.inl 89)]) (rest := []) jm_ok25 rfl rfl (by decide) (by decide +kernel) (j1sh_V F2 X1 X2 c2 _ _) (fun F3 F' hR p1 p2 => ?_)
      obtain ⟨r1, r2, r3, r4⟩ := hR
      rw [h88] at r2 r4
      rw [h89] at r3 r4
      have r1' : qC [45, 46] F2 F3 := qC_dst r1 p1
      have e45 : v45 F3 = v45 F' := by unfold v45; rw [nz_fa (p1 45 (by decide))]
      have q3 : qC [45, 46, 47, 48] F F3 := qq_trans q2 (qq_up r1' (by decide))
      have c3 := xC_q (by decide) hC q3 (by decide)
      have g3 : gC 50 (nfS T) (nbS T) F3 g := gC_eq hG (fun j h1 h2 => q3.2 j (by omega) (by simp; omega))
      have k82 : sy_i F3 82 = f := (eI (p2 82 (by decide) (by decide))).trans (j82.trans i82)
      have k83 : sy_i F3 83 = d := (eI (p2 83 (by decide) (by decide))).trans (j83.trans i83)
      have k84 : sy_i F3 84 = p := (eI (p2 84 (by decide) (by decide))).trans (j84.trans i84)
      have k85 : sy_i F3 85 = lfS T g := (eI (p2 85 (by decide) (by decide))).trans (j85.trans i85)
      have k86 : sy_i F3 86 = olR T g f.toInt.toNat p n := (eI (p2 86 (by decide) (by decide))).trans (j86.trans i86)
      have k87 : (sy_i F3 87).toInt = n := by rw [nz_fi (p2 87 (by decide) (by decide)), f87]; exact e87
      have hx := xX_f c3 hn7
      have fin : ∀ F4 : Nat → sy_d, iv_in F4 iv_B0 → (∀ j, j < 82 → j ∉ ([45] : List Nat) → F4 j = F3 j) → oV T g f.toInt.toNat p n F4 → sy_i F4 82 = sy_i F3 82 → sy_i F4 83 = sy_i F3 83 → sy_i F4 84 = sy_i F3 84 → sy_i F4 85 = sy_i F3 85 → sy_i F4 86 = sy_i F3 86 → sy_i F4 87 = sy_i F3 87 → (sy_i F4 88).toInt = (sy_i F3 87).toInt →
          hd_W Ls xs 6 jm_M25 (pV 1 X1 X2 (fun F' => qC [45, 46, 47, 48] F F' ∧ olA T g f.toInt.toNat p (sy_ai F' 47) (sy_ai F' 48) D)) (121, sy_dL F4 [some (.inl (.ref 42)), some (.inl (.ref 10)), some (.inl (.ref 46)), some (.inr (.inl 82)), some (.inr (.inl 83)), some (.inr (.inl 84)), some (.inr (.inl 85)), some (.inr (.inl 86)), some (.inr (.inl 87))], sy_dS F4 [.inl (.int 2), .inl (.ref 10), .inl (.ref 38), .inr (.inl 88), .inl (.ref 43)], sy_dh F4 X1 X2 (iv_H 1), 0, 0) := by
        intro F4 hb4 g4 hV m82 m83 m84 m85 m86 m87 h88'
        have q4 : qC [45, 46, 47, 48] F F4 := qq_on q3 hb4 g4 (by decide)
        have c4 := xC_q (by decide) hC q4 (by decide)
        refine hd_calI (R := fun x F' => qC [46] F4 F' ∧ x.toInt = lwT T 2 (v45 F4)) (nh := 82) (nv := 89) (s := 1) (s1 := 1) (d1 := 4) (M1 := jm_M21) (As := [.inl (.ref 38), .inl (.ref 10), .inl (.int 2)]) (rest := [.inr (.inl 88), .inl (.ref 43)]) jm_ok25 rfl rfl (by decide) (by decide +kernel) (j1tl_V F4 X1 X2 c4 (by decide) (by decide)) (fun F5 F6 x hR5 u1 u2 u3 => ?_)
        obtain ⟨s1, s2⟩ := hR5
        rw [oV_2 hC.2.2.1 hV] at s2
        have s1' : qC [46] F4 F5 := qC_dst s1 u1
        have q5 : qC [45, 46, 47, 48] F F5 := qq_trans q4 (qq_up s1' (by decide))
        have hV5 := oV_e hV (qq_a s1' (by decide) (by decide))
        have a88 : (sy_i F5 88).toInt = n := by rw [nz_fi (u2 88 (by decide) (by decide)), h88']; exact k87
        have a87 : (sy_i F5 87).toInt = n := by rw [nz_fi (u2 87 (by decide) (by decide)), m87]; exact k87
        have a89 : (sy_i F5 89).toInt = olC T g f.toInt.toNat p n := by rw [zz_i u3]; exact s2
        have cin := olC_in T g f.toInt.toNat p n
        refine j1ol_124 (by decide) F5 X1 X2 q5.1 (by omega) (by omega) ?_
        intro F7 hb7 g7 a47 b82 v82 b83 v83 b84 v84 b85 v85 b86 v86 b87 v87 b88 v88
        have q57 : qC [47] F5 F7 := qq_mk hb7 g7 (by decide)
        have q7 : qC [45, 46, 47, 48] F F7 := qq_trans q5 (qq_up q57 (by decide))
        have c7 := xC_q (by decide) hC q7 (by decide)
        have hV7 := oV_e hV5 (qq_a q57 (by decide) (by decide))
        refine hd_calI (R := fun x F' => qC [46] F7 F' ∧ x.toInt = lwT T 3 (v45 F7)) (nh := 82) (nv := 89) (s := 1) (s1 := 1) (d1 := 4) (M1 := jm_M21) (As := [.inl (.ref 38), .inl (.ref 10), .inl (.int 3)]) (rest := [.inr (.inl 88), .inl (.ref 44)]) jm_ok25 rfl rfl (by decide) (by decide +kernel) (j1tl_V F7 X1 X2 c7 (by decide) (by decide)) (fun F8 F9 y hR8 w1 w2 w3 => ?_)
        obtain ⟨t1, t2⟩ := hR8
        rw [oV_3 hC.2.2.1 hV7] at t2
        have t1' : qC [46] F7 F8 := qC_dst t1 w1
        have q8 : qC [45, 46, 47, 48] F F8 := qq_trans q7 (qq_up t1' (by decide))
        have hV8 := oV_e hV7 (qq_a t1' (by decide) (by decide))
        have d88 : (sy_i F8 88).toInt = n := by rw [nz_fi (w2 88 (by decide) (by decide)), b88]; exact a87
        have d89 : (sy_i F8 89).toInt = olX T g f.toInt.toNat p n := by rw [zz_i w3]; exact t2
        have xin := olX_in T g f.toInt.toNat p n
        refine j1ol_140 (by decide) F8 X1 X2 q8.1 (by omega) ?_
        intro FA hbA gA a48 o82 x82 o83 x83 o84 x84 o85 x85 o86 x86 o87 x87 o88 x88
        have q8A : qC [48] F8 FA := qq_mk hbA gA (by decide)
        have qA : qC [45, 46, 47, 48] F FA := qq_trans q8 (qq_up q8A (by decide))
        have cA := xC_q (by decide) hC qA (by decide)
        have hVA := oV_e hV8 (qq_a q8A (by decide) (by decide))
        have all : ∀ j, 82 ≤ j → j < 88 → sy_i F8 j = sy_i F7 j := fun j h1 h2 => eI (w2 j h1 (by omega))
        have all5 : ∀ j, 82 ≤ j → j < 88 → sy_i F5 j = sy_i F4 j := fun j h1 h2 => eI (u2 j h1 (by omega))
        have n82 : sy_i FA 82 = f := x82.trans ((all 82 (by decide) (by decide)).trans (v82.trans ((all5 82 (by decide) (by decide)).trans (m82.trans k82))))
        have n83 : sy_i FA 83 = d := x83.trans ((all 83 (by decide) (by decide)).trans (v83.trans ((all5 83 (by decide) (by decide)).trans (m83.trans k83))))
        have n84 : sy_i FA 84 = p := x84.trans ((all 84 (by decide) (by decide)).trans (v84.trans ((all5 84 (by decide) (by decide)).trans (m84.trans k84))))
        have n85 : sy_i FA 85 = lfS T g := x85.trans ((all 85 (by decide) (by decide)).trans (v85.trans ((all5 85 (by decide) (by decide)).trans (m85.trans k85))))
        have n86 : sy_i F8 86 = olR T g f.toInt.toNat p n := (all 86 (by decide) (by decide)).trans (v86.trans ((all5 86 (by decide) (by decide)).trans (m86.trans k86)))
        have n87 : (sy_i FA 87).toInt = n := by rw [o87, all 87 (by decide) (by decide), b87]; exact a87
        have n88 : sy_i FA 88 = olR T g f.toInt.toNat p n := x88.trans n86
        have b47 : sy_ai FA 47 = jm_upd (sy_ai F1 47) n (sy_i F5 89) := by
          rw [nz_fa (gA 47 (by decide) (by decide)), qq_a t1' (j := 47) (by decide) (by decide), a47, show (sy_i F5 88).toInt.toNat = n by omega, qq_a s1' (j := 47) (by decide) (by decide), nz_fa (g4 47 (by decide) (by decide)), qq_a r1' (j := 47) (by decide) (by decide), nz_fa (gg 47 (by decide) (by decide))]
        have b48 : sy_ai FA 48 = jm_upd (sy_ai F1 48) n (sy_i F8 89) := by
          rw [a48, show (sy_i F8 88).toInt.toNat = n by omega, qq_a t1' (j := 48) (by decide) (by decide), nz_fa (g7 48 (by decide) (by decide)), qq_a s1' (j := 48) (by decide) (by decide), nz_fa (g4 48 (by decide) (by decide)), qq_a r1' (j := 48) (by decide) (by decide), nz_fa (gg 48 (by decide) (by decide))]
        have hAA : olA T g f.toInt.toNat p (sy_ai FA 47) (sy_ai FA 48) (n + 1) := by
          rw [b47, b48]
          exact olA_up hA rfl a89 d89
        refine hd_calI (R := fun x F' => qC [46] FA F' ∧ x.toInt = lwT T 1 (v45 FA)) (nh := 82) (nv := 89) (s := 1) (s1 := 1) (d1 := 4) (M1 := jm_M21) (As := [.inl (.ref 38), .inl (.ref 10), .inl (.int 1)]) (rest := [.inr (.inl 88)]) jm_ok25 rfl rfl (by decide) (by decide +kernel) (j1tl_V FA X1 X2 cA (by decide) (by decide)) (fun FB FC z hRB y1 y2 y3 => ?_)
        obtain ⟨z1, z2⟩ := hRB
        rw [oV_1 hC.2.2.1 hVA] at z2
        have z1' : qC [46] FA FB := qC_dst z1 y1
        have qB : qC [45, 46, 47, 48] F FB := qq_trans qA (qq_up z1' (by decide))
        have hAB : olA T g f.toInt.toNat p (sy_ai FB 47) (sy_ai FB 48) (n + 1) := by
          rw [qq_a z1' (j := 47) (by decide) (by decide), qq_a z1' (j := 48) (by decide) (by decide)]
          exact hAA
        have l82 : sy_i FB 82 = f := (eI (y2 82 (by decide) (by decide))).trans n82
        have l83 : sy_i FB 83 = d := (eI (y2 83 (by decide) (by decide))).trans n83
        have l84 : sy_i FB 84 = p := (eI (y2 84 (by decide) (by decide))).trans n84
        have l85 : sy_i FB 85 = lfS T g := (eI (y2 85 (by decide) (by decide))).trans n85
        have l87 : (sy_i FB 87).toInt = n := by rw [nz_fi (y2 87 (by decide) (by decide))]; exact n87
        have l88 : sy_i FB 88 = olR T g f.toInt.toNat p n := (eI (y2 88 (by decide) (by decide))).trans n88
        have l89 : sy_i FB 89 = Int32.ofInt (ripeT T f.toInt.toNat (olR T g f.toInt.toNat p n) (shJ g f.toInt.toNat n) p (wiJ T g n) (hrJ g n) (lfS T g)) := by
          rw [zz_i y3]
          exact (ofi z2).symm
        have nx : ∀ v : Int32, v = Int32.ofInt (hdz 0 99 (sy_i FB 88 + sy_i FB 89).toInt) → v = olR T g f.toInt.toNat p (n + 1) := fun v e => by
          rw [e, l88, l89]
          rfl
        refine j1ol_152 (by decide) FB X1 X2 qB.1 (by omega) ?_ ?_ ?_
        · intro x0 x1 FD hbD gD a1 b1 a2 b2 a3 b3 a4 b4 a5 b5 a6 b6
          refine ih FD (n + 1) (by omega) (qq_on qB hbD gD (by decide)) (b1.trans l82) (b2.trans l83) (b3.trans l84) (b4.trans l85) (nx _ ?_) (by omega) ?_
          · rw [hdz_m (by omega) (by omega), b5]
            exact (ofi rfl).symm
          · rw [nz_fa (gD 47 (by decide) (by decide)), nz_fa (gD 48 (by decide) (by decide))]
            exact hAB
        · intro x0 x1 FD hbD gD a1 b1 a2 b2 a3 b3 a4 b4 a5 b5 a6 b6
          refine ih FD (n + 1) (by omega) (qq_on qB hbD gD (by decide)) (b1.trans l82) (b2.trans l83) (b3.trans l84) (b4.trans l85) (nx _ ?_) (by omega) ?_
          · rw [hdz_l (by omega), b5]
            rfl
          · rw [nz_fa (gD 47 (by decide) (by decide)), nz_fa (gD 48 (by decide) (by decide))]
            exact hAB
        · intro x0 FD hbD gD a1 b1 a2 b2 a3 b3 a4 b4 a5 b5 a6 b6
          refine ih FD (n + 1) (by omega) (qq_on qB hbD gD (by decide)) (b1.trans l82) (b2.trans l83) (b3.trans l84) (b4.trans l85) (nx _ ?_) (by omega) ?_
          · rw [hdz_h (by omega), b5]
            rfl
          · rw [nz_fa (gD 47 (by decide) (by decide)), nz_fa (gD 48 (by decide) (by decide))]
            exact hAB
      refine j1ol_52 (by decide) F3 X1 X2 q3.1 (by rw [k82]; omega) (by omega) ?_ ?_
      · intro d0 F4 hb4 g4 a45 b82 m82 b83 m83 b84 m84 b85 m85 b86 m86 b87 m87 b88 m88
        rw [k82] at a45
        exact fin F4 hb4 g4 (oV_set a45 hx.2.1 hx.1 ((g3.1 4 _ (by decide) (vF (by decide) hn7)).trans hl) k86 (by unfold shJ; rw [if_neg (by omega)]) k84 (by rw [e45]; exact r2) (by rw [e45]; exact r3) (by rw [e45]; exact r4)) m82 m83 m84 m85 m86 m87 b88
      · intro d0 F4 hb4 g4 a45 b82 m82 b83 m83 b84 m84 b85 m85 b86 m86 b87 m87 b88 m88
        rw [k82] at a45
        exact fin F4 hb4 g4 (oV_set a45 hx.2.1 hx.1 ((g3.1 4 _ (by decide) (vF (by decide) hn7)).trans hl) k86 (by unfold shJ; rw [if_pos (by omega)]; exact g3.1 6 _ (by decide) (vF (by decide) hn7)) k84 (by rw [e45]; exact r2) (by rw [e45]; exact r3) (by rw [e45]; exact r4)) m82 m83 m84 m85 m86 m87 b88
theorem j1ol_V (hC : xC 3 T F) (hG : gC 50 (nfS T) (nbS T) F g) (f d p : Int32) (hf : 0 ≤ f.toInt ∧ f.toInt < nfS T) (hl : g 4 f.toInt.toNat = 0) (hd : 0 ≤ d.toInt ∧ d.toInt ≤ 4) : jm_T Ls xs 6 jm_M25 [.ref 42, .ref 10, .ref 46, .int f, .int d, .int p] (sy_dh F X1 X2 (iv_H 1)) 0 0 (pV 1 X1 X2 (fun F' => qC [45, 46, 47, 48] F F' ∧ olA T g f.toInt.toNat p (sy_ai F' 47) (sy_ai F' 48) d.toInt.toNat)) := by
  have l7 : nfS T ≤ 7 := hC.2.2.1.1.1
  have enf : (sy_i F 3).toInt = (nfS T : Int) := hC.2.1.1.1
  refine C_T (by decide) [f, d, p] [.inl (.ref 42), .inl (.ref 10), .inl (.ref 46), .inr (.inl 82), .inr (.inl 83), .inr (.inl 84)] jm_ok25 (by decide) rfl (fun F0 k0 ki => ?_)
  have i82 : sy_i F0 82 = f := ki 0
  have i83 : sy_i F0 83 = d := ki 1
  have i84 : sy_i F0 84 = p := ki 2
  refine j1ol_0 (by decide) F0 X1 X2 (hd_iveq0 hC.1 k0) ?_
  intro F1 hb gg f82 j82 f83 j83 f84 j84 f85 j85
  have q1 : qC [] F F1 := qq_src (qq_mk hb gg (by decide)) k0
  have c1 := xC_q (by decide) hC q1 (by decide)
  have g1 : gC 50 (nfS T) (nbS T) F1 g := gC_eq hG (fun j h1 h2 => q1.2 j (by omega) (by simp))
  refine hd_calI (R := fun x F' => qC [] F1 F' ∧ x = ppS (mkS g (0 : Int32).toInt (nfS T))) (nh := 82) (nv := 85) (s := 1) (s1 := 1) (d1 := 2) (M1 := jm_M12) (As := [.inl (.ref 46), .inl (.int 0), .inr (.inl 85)]) (rest := []) jm_ok25 rfl rfl (by decide) (by decide +kernel) (j1nhm_V F1 X1 X2 c1 g1 0 _ (by rw [f85, nz_fi (k0 3 (by decide))]; exact enf)) (fun F3 F' x hR p1 p2 p3 => ?_)
  obtain ⟨r1, r2⟩ := hR
  have q3 : qC [] F F3 := qq_trans q1 (qC_dst r1 p1)
  have k82 : sy_i F3 82 = f := (eI (p2 82 (by decide) (by decide))).trans (j82.trans i82)
  have k83 : sy_i F3 83 = d := (eI (p2 83 (by decide) (by decide))).trans (j83.trans i83)
  have k84 : sy_i F3 84 = p := (eI (p2 84 (by decide) (by decide))).trans (j84.trans i84)
  have k85 : sy_i F3 85 = lfS T g := (zz_i p3).trans r2
  refine j1ol_9 (by decide) F3 X1 X2 q3.1 (by rw [k82]; omega) ?_
  intro F4 hb4 g4 h82 m82 h83 m83 h84 m84 h85 m85 h86 m86 h87 m87
  have r53 : sy_i F4 86 = g 1 f.toInt.toNat := by
    rw [m86, k82, qq_a q3 (j := 53) (by decide) (by decide)]
    exact hG.1 1 _ (by decide) (vF (by decide) (by omega))
  exact j1ol_L F X1 X2 hC hG hf hl (d := d) (p := p) (D := d.toInt.toNat) (by omega) (by omega) d.toInt.toNat F4 0 (by omega) (qq_on (qq_up q3 (by decide)) hb4 g4 (by decide)) (m82.trans k82) (m83.trans k83) (m84.trans k84) (m85.trans k85) r53 h87 (fun j h => absurd h (by omega))
end OL1
section OL2
variable {Ls : Nat} {xs : Nat → Int32} {T : tX} {g : gS} (F : Nat → sy_d) (X1 X2 : List jm_c)
theorem j2ol_L (hC : xC 18 T F) (hG : gC 50 (nfS T) (nbS T) F g) {f d p : Int32} (hf : 0 ≤ f.toInt ∧ f.toInt < nfS T) (hl : g 4 f.toInt.toNat = 0) {D : Nat} (hd : d.toInt = D) (hD : D ≤ 4) : ∀ (m : Nat) (F1 : Nat → sy_d) (n : Nat), n + m = D → qC [45, 46, 47, 48] F F1 → sy_i F1 82 = f → sy_i F1 83 = d → sy_i F1 84 = p → sy_i F1 85 = lfS T g → sy_i F1 86 = olR T g f.toInt.toNat p n → (sy_i F1 87).toInt = n → olA T g f.toInt.toNat p (sy_ai F1 47) (sy_ai F1 48) n →
    hd_W Ls xs 6 jm_M25 (pV 2 X1 X2 (fun F' => qC [45, 46, 47, 48] F F' ∧ olA T g f.toInt.toNat p (sy_ai F' 47) (sy_ai F' 48) D)) (22, sy_dL F1 [some (.inl (.ref 42)), some (.inl (.ref 20)), some (.inl (.ref 46)), some (.inr (.inl 82)), some (.inr (.inl 83)), some (.inr (.inl 84)), some (.inr (.inl 85)), some (.inr (.inl 86)), some (.inr (.inl 87))], sy_dS F1 [], sy_dh F1 X1 X2 (iv_H 2), 0, 0) := by
  have l7 : nfS T ≤ 7 := hC.2.2.1.1.1
  have hn7 : f.toInt.toNat < nfS T := by omega
  intro m
  induction m with
  | zero =>
    intro F1 n hm hq i82 i83 i84 i85 i86 e87 hA
    have z83 : (sy_i F1 83).toInt = D := (congrArg Int32.toInt i83).trans hd
    refine j2ol_22 (by decide) F1 X1 X2 hq.1 (by omega) (by omega) ?_ ?_ ?_
    · intro c0 F2 hb gg
      refine ⟨F2, rfl, rfl, qq_on hq hb gg (by decide), ?_⟩
      rw [nz_fa (gg 47 (by decide) (by decide)), nz_fa (gg 48 (by decide) (by decide)), show D = n by omega]
      exact hA
    · intros
      omega
    · intros
      omega
  | succ m ih =>
    intro F1 n hm hq i82 i83 i84 i85 i86 e87 hA
    have z83 : (sy_i F1 83).toInt = D := (congrArg Int32.toInt i83).trans hd
    refine j2ol_22 (by decide) F1 X1 X2 hq.1 (by omega) (by omega) ?_ ?_ ?_
    · intros
      omega
    · intros
      omega
    · intro c0 c1 F2 hb gg f82 j82 f83 j83 f84 j84 f85 j85 f86 j86 f87 j87 f88 j88 f89 j89
      have q2 : qC [45, 46, 47, 48] F F2 := qq_on hq hb gg (by decide)
      have c2 := xC_q (by decide) hC q2 (by decide)
      have h88 : sy_i F2 88 = hrJ g n := by
        rw [j88, qq_i hq (j := 50) (by decide) (by decide), show sy_i F 50 = g 9 0 from hG.2 0 (by decide), ← ofi e87]
        rfl
      have h89 : sy_i F2 89 = lfS T g := j89.trans i85
      refine hd_calV (R := fun F' => qC [45, 46] F2 F' ∧ v45 F' 2 = sy_i F2 88 ∧ v45 F' 8 = sy_i F2 89 ∧ v45 F' 3 = Int32.ofInt (windT T (sy_i F2 88) (sy_i F2 89))) (nh := 82) (nv := 88) (s := 2) (s1 := 2) (d1 := 5) (M1 := jm_M17) (As := [.inl (.ref 38), .inl (.ref 20), .inr (.inl 88), .inr (.inl 89)]) (rest := []) jm_ok25 rfl rfl (by decide) (by decide +kernel) (j2sh_V F2 X1 X2 c2 _ _) (fun F3 F' hR p1 p2 => ?_)
      obtain ⟨r1, r2, r3, r4⟩ := hR
      rw [h88] at r2 r4
      rw [h89] at r3 r4
      have r1' : qC [45, 46] F2 F3 := qC_dst r1 p1
      have e45 : v45 F3 = v45 F' := by unfold v45; rw [nz_fa (p1 45 (by decide))]
      have q3 : qC [45, 46, 47, 48] F F3 := qq_trans q2 (qq_up r1' (by decide))
      have c3 := xC_q (by decide) hC q3 (by decide)
      have g3 : gC 50 (nfS T) (nbS T) F3 g := gC_eq hG (fun j h1 h2 => q3.2 j (by omega) (by simp; omega))
      have k82 : sy_i F3 82 = f := (eI (p2 82 (by decide) (by decide))).trans (j82.trans i82)
      have k83 : sy_i F3 83 = d := (eI (p2 83 (by decide) (by decide))).trans (j83.trans i83)
      have k84 : sy_i F3 84 = p := (eI (p2 84 (by decide) (by decide))).trans (j84.trans i84)
      have k85 : sy_i F3 85 = lfS T g := (eI (p2 85 (by decide) (by decide))).trans (j85.trans i85)
      have k86 : sy_i F3 86 = olR T g f.toInt.toNat p n := (eI (p2 86 (by decide) (by decide))).trans (j86.trans i86)
      have k87 : (sy_i F3 87).toInt = n := by rw [nz_fi (p2 87 (by decide) (by decide)), f87]; exact e87
      have hx := xX_f c3 hn7
      have fin : ∀ F4 : Nat → sy_d, iv_in F4 iv_B0 → (∀ j, j < 82 → j ∉ ([45] : List Nat) → F4 j = F3 j) → oV T g f.toInt.toNat p n F4 → sy_i F4 82 = sy_i F3 82 → sy_i F4 83 = sy_i F3 83 → sy_i F4 84 = sy_i F3 84 → sy_i F4 85 = sy_i F3 85 → sy_i F4 86 = sy_i F3 86 → sy_i F4 87 = sy_i F3 87 → (sy_i F4 88).toInt = (sy_i F3 87).toInt →
          hd_W Ls xs 6 jm_M25 (pV 2 X1 X2 (fun F' => qC [45, 46, 47, 48] F F' ∧ olA T g f.toInt.toNat p (sy_ai F' 47) (sy_ai F' 48) D)) (121, sy_dL F4 [some (.inl (.ref 42)), some (.inl (.ref 20)), some (.inl (.ref 46)), some (.inr (.inl 82)), some (.inr (.inl 83)), some (.inr (.inl 84)), some (.inr (.inl 85)), some (.inr (.inl 86)), some (.inr (.inl 87))], sy_dS F4 [.inl (.int 2), .inl (.ref 20), .inl (.ref 38), .inr (.inl 88), .inl (.ref 43)], sy_dh F4 X1 X2 (iv_H 2), 0, 0) := by
        intro F4 hb4 g4 hV m82 m83 m84 m85 m86 m87 h88'
        have q4 : qC [45, 46, 47, 48] F F4 := qq_on q3 hb4 g4 (by decide)
        have c4 := xC_q (by decide) hC q4 (by decide)
        refine hd_calI (R := fun x F' => qC [46] F4 F' ∧ x.toInt = lwT T 2 (v45 F4)) (nh := 82) (nv := 89) (s := 2) (s1 := 2) (d1 := 4) (M1 := jm_M21) (As := [.inl (.ref 38), .inl (.ref 20), .inl (.int 2)]) (rest := [.inr (.inl 88), .inl (.ref 43)]) jm_ok25 rfl rfl (by decide) (by decide +kernel) (j2tl_V F4 X1 X2 c4 (by decide) (by decide)) (fun F5 F6 x hR5 u1 u2 u3 => ?_)
        obtain ⟨s1, s2⟩ := hR5
        rw [oV_2 hC.2.2.1 hV] at s2
        have s1' : qC [46] F4 F5 := qC_dst s1 u1
        have q5 : qC [45, 46, 47, 48] F F5 := qq_trans q4 (qq_up s1' (by decide))
        have hV5 := oV_e hV (qq_a s1' (by decide) (by decide))
        have a88 : (sy_i F5 88).toInt = n := by rw [nz_fi (u2 88 (by decide) (by decide)), h88']; exact k87
        have a87 : (sy_i F5 87).toInt = n := by rw [nz_fi (u2 87 (by decide) (by decide)), m87]; exact k87
        have a89 : (sy_i F5 89).toInt = olC T g f.toInt.toNat p n := by rw [zz_i u3]; exact s2
        have cin := olC_in T g f.toInt.toNat p n
        refine j2ol_124 (by decide) F5 X1 X2 q5.1 (by omega) (by omega) ?_
        intro F7 hb7 g7 a47 b82 v82 b83 v83 b84 v84 b85 v85 b86 v86 b87 v87 b88 v88
        have q57 : qC [47] F5 F7 := qq_mk hb7 g7 (by decide)
        have q7 : qC [45, 46, 47, 48] F F7 := qq_trans q5 (qq_up q57 (by decide))
        have c7 := xC_q (by decide) hC q7 (by decide)
        have hV7 := oV_e hV5 (qq_a q57 (by decide) (by decide))
        refine hd_calI (R := fun x F' => qC [46] F7 F' ∧ x.toInt = lwT T 3 (v45 F7)) (nh := 82) (nv := 89) (s := 2) (s1 := 2) (d1 := 4) (M1 := jm_M21) (As := [.inl (.ref 38), .inl (.ref 20), .inl (.int 3)]) (rest := [.inr (.inl 88), .inl (.ref 44)]) jm_ok25 rfl rfl (by decide) (by decide +kernel) (j2tl_V F7 X1 X2 c7 (by decide) (by decide)) (fun F8 F9 y hR8 w1 w2 w3 => ?_)
        obtain ⟨t1, t2⟩ := hR8
        rw [oV_3 hC.2.2.1 hV7] at t2
        have t1' : qC [46] F7 F8 := qC_dst t1 w1
        have q8 : qC [45, 46, 47, 48] F F8 := qq_trans q7 (qq_up t1' (by decide))
        have hV8 := oV_e hV7 (qq_a t1' (by decide) (by decide))
        have d88 : (sy_i F8 88).toInt = n := by rw [nz_fi (w2 88 (by decide) (by decide)), b88]; exact a87
        have d89 : (sy_i F8 89).toInt = olX T g f.toInt.toNat p n := by rw [zz_i w3]; exact t2
        have xin := olX_in T g f.toInt.toNat p n
        refine j2ol_140 (by decide) F8 X1 X2 q8.1 (by omega) ?_
        intro FA hbA gA a48 o82 x82 o83 x83 o84 x84 o85 x85 o86 x86 o87 x87 o88 x88
        have q8A : qC [48] F8 FA := qq_mk hbA gA (by decide)
        have qA : qC [45, 46, 47, 48] F FA := qq_trans q8 (qq_up q8A (by decide))
        have cA := xC_q (by decide) hC qA (by decide)
        have hVA := oV_e hV8 (qq_a q8A (by decide) (by decide))
        have all : ∀ j, 82 ≤ j → j < 88 → sy_i F8 j = sy_i F7 j := fun j h1 h2 => eI (w2 j h1 (by omega))
        have all5 : ∀ j, 82 ≤ j → j < 88 → sy_i F5 j = sy_i F4 j := fun j h1 h2 => eI (u2 j h1 (by omega))
        have n82 : sy_i FA 82 = f := x82.trans ((all 82 (by decide) (by decide)).trans (v82.trans ((all5 82 (by decide) (by decide)).trans (m82.trans k82))))
        have n83 : sy_i FA 83 = d := x83.trans ((all 83 (by decide) (by decide)).trans (v83.trans ((all5 83 (by decide) (by decide)).trans (m83.trans k83))))
        have n84 : sy_i FA 84 = p := x84.trans ((all 84 (by decide) (by decide)).trans (v84.trans ((all5 84 (by decide) (by decide)).trans (m84.trans k84))))
        have n85 : sy_i FA 85 = lfS T g := x85.trans ((all 85 (by decide) (by decide)).trans (v85.trans ((all5 85 (by decide) (by decide)).trans (m85.trans k85))))
        have n86 : sy_i F8 86 = olR T g f.toInt.toNat p n := (all 86 (by decide) (by decide)).trans (v86.trans ((all5 86 (by decide) (by decide)).trans (m86.trans k86)))
        have n87 : (sy_i FA 87).toInt = n := by rw [o87, all 87 (by decide) (by decide), b87]; exact a87
        have n88 : sy_i FA 88 = olR T g f.toInt.toNat p n := x88.trans n86
        have b47 : sy_ai FA 47 = jm_upd (sy_ai F1 47) n (sy_i F5 89) := by
          rw [nz_fa (gA 47 (by decide) (by decide)), qq_a t1' (j := 47) (by decide) (by decide), a47, show (sy_i F5 88).toInt.toNat = n by omega, qq_a s1' (j := 47) (by decide) (by decide), nz_fa (g4 47 (by decide) (by decide)), qq_a r1' (j := 47) (by decide) (by decide), nz_fa (gg 47 (by decide) (by decide))]
        have b48 : sy_ai FA 48 = jm_upd (sy_ai F1 48) n (sy_i F8 89) := by
          rw [a48, show (sy_i F8 88).toInt.toNat = n by omega, qq_a t1' (j := 48) (by decide) (by decide), nz_fa (g7 48 (by decide) (by decide)), qq_a s1' (j := 48) (by decide) (by decide), nz_fa (g4 48 (by decide) (by decide)), qq_a r1' (j := 48) (by decide) (by decide), nz_fa (gg 48 (by decide) (by decide))]
        have hAA : olA T g f.toInt.toNat p (sy_ai FA 47) (sy_ai FA 48) (n + 1) := by
          rw [b47, b48]
          exact olA_up hA rfl a89 d89
        refine hd_calI (R := fun x F' => qC [46] FA F' ∧ x.toInt = lwT T 1 (v45 FA)) (nh := 82) (nv := 89) (s := 2) (s1 := 2) (d1 := 4) (M1 := jm_M21) (As := [.inl (.ref 38), .inl (.ref 20), .inl (.int 1)]) (rest := [.inr (.inl 88)]) jm_ok25 rfl rfl (by decide) (by decide +kernel) (j2tl_V FA X1 X2 cA (by decide) (by decide)) (fun FB FC z hRB y1 y2 y3 => ?_)
        obtain ⟨z1, z2⟩ := hRB
        rw [oV_1 hC.2.2.1 hVA] at z2
        have z1' : qC [46] FA FB := qC_dst z1 y1
        have qB : qC [45, 46, 47, 48] F FB := qq_trans qA (qq_up z1' (by decide))
        have hAB : olA T g f.toInt.toNat p (sy_ai FB 47) (sy_ai FB 48) (n + 1) := by
          rw [qq_a z1' (j := 47) (by decide) (by decide), qq_a z1' (j := 48) (by decide) (by decide)]
          exact hAA
        have l82 : sy_i FB 82 = f := (eI (y2 82 (by decide) (by decide))).trans n82
        have l83 : sy_i FB 83 = d := (eI (y2 83 (by decide) (by decide))).trans n83
        have l84 : sy_i FB 84 = p := (eI (y2 84 (by decide) (by decide))).trans n84
        have l85 : sy_i FB 85 = lfS T g := (eI (y2 85 (by decide) (by decide))).trans n85
        have l87 : (sy_i FB 87).toInt = n := by rw [nz_fi (y2 87 (by decide) (by decide))]; exact n87
        have l88 : sy_i FB 88 = olR T g f.toInt.toNat p n := (eI (y2 88 (by decide) (by decide))).trans n88
        have l89 : sy_i FB 89 = Int32.ofInt (ripeT T f.toInt.toNat (olR T g f.toInt.toNat p n) (shJ g f.toInt.toNat n) p (wiJ T g n) (hrJ g n) (lfS T g)) := by
          rw [zz_i y3]
          exact (ofi z2).symm
        have nx : ∀ v : Int32, v = Int32.ofInt (hdz 0 99 (sy_i FB 88 + sy_i FB 89).toInt) → v = olR T g f.toInt.toNat p (n + 1) := fun v e => by
          rw [e, l88, l89]
          rfl
        refine j2ol_152 (by decide) FB X1 X2 qB.1 (by omega) ?_ ?_ ?_
        · intro x0 x1 FD hbD gD a1 b1 a2 b2 a3 b3 a4 b4 a5 b5 a6 b6
          refine ih FD (n + 1) (by omega) (qq_on qB hbD gD (by decide)) (b1.trans l82) (b2.trans l83) (b3.trans l84) (b4.trans l85) (nx _ ?_) (by omega) ?_
          · rw [hdz_m (by omega) (by omega), b5]
            exact (ofi rfl).symm
          · rw [nz_fa (gD 47 (by decide) (by decide)), nz_fa (gD 48 (by decide) (by decide))]
            exact hAB
        · intro x0 x1 FD hbD gD a1 b1 a2 b2 a3 b3 a4 b4 a5 b5 a6 b6
          refine ih FD (n + 1) (by omega) (qq_on qB hbD gD (by decide)) (b1.trans l82) (b2.trans l83) (b3.trans l84) (b4.trans l85) (nx _ ?_) (by omega) ?_
          · rw [hdz_l (by omega), b5]
            rfl
          · rw [nz_fa (gD 47 (by decide) (by decide)), nz_fa (gD 48 (by decide) (by decide))]
            exact hAB
        · intro x0 FD hbD gD a1 b1 a2 b2 a3 b3 a4 b4 a5 b5 a6 b6
          refine ih FD (n + 1) (by omega) (qq_on qB hbD gD (by decide)) (b1.trans l82) (b2.trans l83) (b3.trans l84) (b4.trans l85) (nx _ ?_) (by omega) ?_
          · rw [hdz_h (by omega), b5]
            rfl
          · rw [nz_fa (gD 47 (by decide) (by decide)), nz_fa (gD 48 (by decide) (by decide))]
            exact hAB
      refine j2ol_52 (by decide) F3 X1 X2 q3.1 (by rw [k82]; omega) (by omega) ?_ ?_
      · intro d0 F4 hb4 g4 a45 b82 m82 b83 m83 b84 m84 b85 m85 b86 m86 b87 m87 b88 m88
        rw [k82] at a45
        exact fin F4 hb4 g4 (oV_set a45 hx.2.1 hx.1 ((g3.1 4 _ (by decide) (vF (by decide) hn7)).trans hl) k86 (by unfold shJ; rw [if_neg (by omega)]) k84 (by rw [e45]; exact r2) (by rw [e45]; exact r3) (by rw [e45]; exact r4)) m82 m83 m84 m85 m86 m87 b88
      · intro d0 F4 hb4 g4 a45 b82 m82 b83 m83 b84 m84 b85 m85 b86 m86 b87 m87 b88 m88
        rw [k82] at a45
        exact fin F4 hb4 g4 (oV_set a45 hx.2.1 hx.1 ((g3.1 4 _ (by decide) (vF (by decide) hn7)).trans hl) k86 (by unfold shJ; rw [if_pos (by omega)]; exact g3.1 6 _ (by decide) (vF (by decide) hn7)) k84 (by rw [e45]; exact r2) (by rw [e45]; exact r3) (by rw [e45]; exact r4)) m82 m83 m84 m85 m86 m87 b88
theorem j2ol_V (hC : xC 18 T F) (hG : gC 50 (nfS T) (nbS T) F g) (f d p : Int32) (hf : 0 ≤ f.toInt ∧ f.toInt < nfS T) (hl : g 4 f.toInt.toNat = 0) (hd : 0 ≤ d.toInt ∧ d.toInt ≤ 4) : jm_T Ls xs 6 jm_M25 [.ref 42, .ref 20, .ref 46, .int f, .int d, .int p] (sy_dh F X1 X2 (iv_H 2)) 0 0 (pV 2 X1 X2 (fun F' => qC [45, 46, 47, 48] F F' ∧ olA T g f.toInt.toNat p (sy_ai F' 47) (sy_ai F' 48) d.toInt.toNat)) := by
  have l7 : nfS T ≤ 7 := hC.2.2.1.1.1
  have enf : (sy_i F 18).toInt = (nfS T : Int) := hC.2.1.1.1
  refine C_T (by decide) [f, d, p] [.inl (.ref 42), .inl (.ref 20), .inl (.ref 46), .inr (.inl 82), .inr (.inl 83), .inr (.inl 84)] jm_ok25 (by decide) rfl (fun F0 k0 ki => ?_)
  have i82 : sy_i F0 82 = f := ki 0
  have i83 : sy_i F0 83 = d := ki 1
  have i84 : sy_i F0 84 = p := ki 2
  refine j2ol_0 (by decide) F0 X1 X2 (hd_iveq0 hC.1 k0) ?_
  intro F1 hb gg f82 j82 f83 j83 f84 j84 f85 j85
  have q1 : qC [] F F1 := qq_src (qq_mk hb gg (by decide)) k0
  have c1 := xC_q (by decide) hC q1 (by decide)
  have g1 : gC 50 (nfS T) (nbS T) F1 g := gC_eq hG (fun j h1 h2 => q1.2 j (by omega) (by simp))
  refine hd_calI (R := fun x F' => qC [] F1 F' ∧ x = ppS (mkS g (0 : Int32).toInt (nfS T))) (nh := 82) (nv := 85) (s := 2) (s1 := 2) (d1 := 2) (M1 := jm_M12) (As := [.inl (.ref 46), .inl (.int 0), .inr (.inl 85)]) (rest := []) jm_ok25 rfl rfl (by decide) (by decide +kernel) (j2nhm_V F1 X1 X2 c1 g1 0 _ (by rw [f85, nz_fi (k0 18 (by decide))]; exact enf)) (fun F3 F' x hR p1 p2 p3 => ?_)
  obtain ⟨r1, r2⟩ := hR
  have q3 : qC [] F F3 := qq_trans q1 (qC_dst r1 p1)
  have k82 : sy_i F3 82 = f := (eI (p2 82 (by decide) (by decide))).trans (j82.trans i82)
  have k83 : sy_i F3 83 = d := (eI (p2 83 (by decide) (by decide))).trans (j83.trans i83)
  have k84 : sy_i F3 84 = p := (eI (p2 84 (by decide) (by decide))).trans (j84.trans i84)
  have k85 : sy_i F3 85 = lfS T g := (zz_i p3).trans r2
  refine j2ol_9 (by decide) F3 X1 X2 q3.1 (by rw [k82]; omega) ?_
  intro F4 hb4 g4 h82 m82 h83 m83 h84 m84 h85 m85 h86 m86 h87 m87
  have r53 : sy_i F4 86 = g 1 f.toInt.toNat := by
    rw [m86, k82, qq_a q3 (j := 53) (by decide) (by decide)]
    exact hG.1 1 _ (by decide) (vF (by decide) (by omega))
  exact j2ol_L F X1 X2 hC hG hf hl (d := d) (p := p) (D := d.toInt.toNat) (by omega) (by omega) d.toInt.toNat F4 0 (by omega) (qq_on (qq_up q3 (by decide)) hb4 g4 (by decide)) (m82.trans k82) (m83.trans k83) (m84.trans k84) (m85.trans k85) r53 h87 (fun j h => absurd h (by omega))
end OL2
section OL3
variable {Ls : Nat} {xs : Nat → Int32} {T : tX} {g : gS} (F : Nat → sy_d) (X1 X2 : List jm_c)
theorem j3ol_L (hC : xC 18 T F) (hG : gC 50 (nfS T) (nbS T) F g) {f d p : Int32} (hf : 0 ≤ f.toInt ∧ f.toInt < nfS T) (hl : g 4 f.toInt.toNat = 0) {D : Nat} (hd : d.toInt = D) (hD : D ≤ 4) : ∀ (m : Nat) (F1 : Nat → sy_d) (n : Nat), n + m = D → qC [45, 46, 47, 48] F F1 → sy_i F1 82 = f → sy_i F1 83 = d → sy_i F1 84 = p → sy_i F1 85 = lfS T g → sy_i F1 86 = olR T g f.toInt.toNat p n → (sy_i F1 87).toInt = n → olA T g f.toInt.toNat p (sy_ai F1 47) (sy_ai F1 48) n →
    hd_W Ls xs 6 jm_M25 (pV 3 X1 X2 (fun F' => qC [45, 46, 47, 48] F F' ∧ olA T g f.toInt.toNat p (sy_ai F' 47) (sy_ai F' 48) D)) (22, sy_dL F1 [some (.inl (.ref 42)), some (.inl (.ref 20)), some (.inl (.ref 46)), some (.inr (.inl 82)), some (.inr (.inl 83)), some (.inr (.inl 84)), some (.inr (.inl 85)), some (.inr (.inl 86)), some (.inr (.inl 87))], sy_dS F1 [], sy_dh F1 X1 X2 (iv_H 3), 0, 0) := by
  have l7 : nfS T ≤ 7 := hC.2.2.1.1.1
  have hn7 : f.toInt.toNat < nfS T := by omega
  intro m
  induction m with
  | zero =>
    intro F1 n hm hq i82 i83 i84 i85 i86 e87 hA
    have z83 : (sy_i F1 83).toInt = D := (congrArg Int32.toInt i83).trans hd
    refine j3ol_22 (by decide) F1 X1 X2 hq.1 (by omega) (by omega) ?_ ?_ ?_
    · intro c0 F2 hb gg
      refine ⟨F2, rfl, rfl, qq_on hq hb gg (by decide), ?_⟩
      rw [nz_fa (gg 47 (by decide) (by decide)), nz_fa (gg 48 (by decide) (by decide)), show D = n by omega]
      exact hA
    · intros
      omega
    · intros
      omega
  | succ m ih =>
    intro F1 n hm hq i82 i83 i84 i85 i86 e87 hA
    have z83 : (sy_i F1 83).toInt = D := (congrArg Int32.toInt i83).trans hd
    refine j3ol_22 (by decide) F1 X1 X2 hq.1 (by omega) (by omega) ?_ ?_ ?_
    · intros
      omega
    · intros
      omega
    · intro c0 c1 F2 hb gg f82 j82 f83 j83 f84 j84 f85 j85 f86 j86 f87 j87 f88 j88 f89 j89
      have q2 : qC [45, 46, 47, 48] F F2 := qq_on hq hb gg (by decide)
      have c2 := xC_q (by decide) hC q2 (by decide)
      have h88 : sy_i F2 88 = hrJ g n := by
        rw [j88, qq_i hq (j := 50) (by decide) (by decide), show sy_i F 50 = g 9 0 from hG.2 0 (by decide), ← ofi e87]
        rfl
      have h89 : sy_i F2 89 = lfS T g := j89.trans i85
      refine hd_calV (R := fun F' => qC [45, 46] F2 F' ∧ v45 F' 2 = sy_i F2 88 ∧ v45 F' 8 = sy_i F2 89 ∧ v45 F' 3 = Int32.ofInt (windT T (sy_i F2 88) (sy_i F2 89))) (nh := 82) (nv := 88) (s := 3) (s1 := 3) (d1 := 5) (M1 := jm_M17) (As := [.inl (.ref 38), .inl (.ref 20), .inr (.inl 88), .inr (.inl 89)]) (rest := []) jm_ok25 rfl rfl (by decide) (by decide +kernel) (j3sh_V F2 X1 X2 c2 _ _) (fun F3 F' hR p1 p2 => ?_)
      obtain ⟨r1, r2, r3, r4⟩ := hR
      rw [h88] at r2 r4
      rw [h89] at r3 r4
      have r1' : qC [45, 46] F2 F3 := qC_dst r1 p1
      have e45 : v45 F3 = v45 F' := by unfold v45; rw [nz_fa (p1 45 (by decide))]
      have q3 : qC [45, 46, 47, 48] F F3 := qq_trans q2 (qq_up r1' (by decide))
      have c3 := xC_q (by decide) hC q3 (by decide)
      have g3 : gC 50 (nfS T) (nbS T) F3 g := gC_eq hG (fun j h1 h2 => q3.2 j (by omega) (by simp; omega))
      have k82 : sy_i F3 82 = f := (eI (p2 82 (by decide) (by decide))).trans (j82.trans i82)
      have k83 : sy_i F3 83 = d := (eI (p2 83 (by decide) (by decide))).trans (j83.trans i83)
      have k84 : sy_i F3 84 = p := (eI (p2 84 (by decide) (by decide))).trans (j84.trans i84)
      have k85 : sy_i F3 85 = lfS T g := (eI (p2 85 (by decide) (by decide))).trans (j85.trans i85)
      have k86 : sy_i F3 86 = olR T g f.toInt.toNat p n := (eI (p2 86 (by decide) (by decide))).trans (j86.trans i86)
      have k87 : (sy_i F3 87).toInt = n := by rw [nz_fi (p2 87 (by decide) (by decide)), f87]; exact e87
      have hx := xX_f c3 hn7
      have fin : ∀ F4 : Nat → sy_d, iv_in F4 iv_B0 → (∀ j, j < 82 → j ∉ ([45] : List Nat) → F4 j = F3 j) → oV T g f.toInt.toNat p n F4 → sy_i F4 82 = sy_i F3 82 → sy_i F4 83 = sy_i F3 83 → sy_i F4 84 = sy_i F3 84 → sy_i F4 85 = sy_i F3 85 → sy_i F4 86 = sy_i F3 86 → sy_i F4 87 = sy_i F3 87 → (sy_i F4 88).toInt = (sy_i F3 87).toInt →
          hd_W Ls xs 6 jm_M25 (pV 3 X1 X2 (fun F' => qC [45, 46, 47, 48] F F' ∧ olA T g f.toInt.toNat p (sy_ai F' 47) (sy_ai F' 48) D)) (121, sy_dL F4 [some (.inl (.ref 42)), some (.inl (.ref 20)), some (.inl (.ref 46)), some (.inr (.inl 82)), some (.inr (.inl 83)), some (.inr (.inl 84)), some (.inr (.inl 85)), some (.inr (.inl 86)), some (.inr (.inl 87))], sy_dS F4 [.inl (.int 2), .inl (.ref 20), .inl (.ref 38), .inr (.inl 88), .inl (.ref 43)], sy_dh F4 X1 X2 (iv_H 3), 0, 0) := by
        intro F4 hb4 g4 hV m82 m83 m84 m85 m86 m87 h88'
        have q4 : qC [45, 46, 47, 48] F F4 := qq_on q3 hb4 g4 (by decide)
        have c4 := xC_q (by decide) hC q4 (by decide)
        refine hd_calI (R := fun x F' => qC [46] F4 F' ∧ x.toInt = lwT T 2 (v45 F4)) (nh := 82) (nv := 89) (s := 3) (s1 := 3) (d1 := 4) (M1 := jm_M21) (As := [.inl (.ref 38), .inl (.ref 20), .inl (.int 2)]) (rest := [.inr (.inl 88), .inl (.ref 43)]) jm_ok25 rfl rfl (by decide) (by decide +kernel) (j3tl_V F4 X1 X2 c4 (by decide) (by decide)) (fun F5 F6 x hR5 u1 u2 u3 => ?_)
        obtain ⟨s1, s2⟩ := hR5
        rw [oV_2 hC.2.2.1 hV] at s2
        have s1' : qC [46] F4 F5 := qC_dst s1 u1
        have q5 : qC [45, 46, 47, 48] F F5 := qq_trans q4 (qq_up s1' (by decide))
        have hV5 := oV_e hV (qq_a s1' (by decide) (by decide))
        have a88 : (sy_i F5 88).toInt = n := by rw [nz_fi (u2 88 (by decide) (by decide)), h88']; exact k87
        have a87 : (sy_i F5 87).toInt = n := by rw [nz_fi (u2 87 (by decide) (by decide)), m87]; exact k87
        have a89 : (sy_i F5 89).toInt = olC T g f.toInt.toNat p n := by rw [zz_i u3]; exact s2
        have cin := olC_in T g f.toInt.toNat p n
        refine j3ol_124 (by decide) F5 X1 X2 q5.1 (by omega) (by omega) ?_
        intro F7 hb7 g7 a47 b82 v82 b83 v83 b84 v84 b85 v85 b86 v86 b87 v87 b88 v88
        have q57 : qC [47] F5 F7 := qq_mk hb7 g7 (by decide)
        have q7 : qC [45, 46, 47, 48] F F7 := qq_trans q5 (qq_up q57 (by decide))
        have c7 := xC_q (by decide) hC q7 (by decide)
        have hV7 := oV_e hV5 (qq_a q57 (by decide) (by decide))
        refine hd_calI (R := fun x F' => qC [46] F7 F' ∧ x.toInt = lwT T 3 (v45 F7)) (nh := 82) (nv := 89) (s := 3) (s1 := 3) (d1 := 4) (M1 := jm_M21) (As := [.inl (.ref 38), .inl (.ref 20), .inl (.int 3)]) (rest := [.inr (.inl 88), .inl (.ref 44)]) jm_ok25 rfl rfl (by decide) (by decide +kernel) (j3tl_V F7 X1 X2 c7 (by decide) (by decide)) (fun F8 F9 y hR8 w1 w2 w3 => ?_)
        obtain ⟨t1, t2⟩ := hR8
        rw [oV_3 hC.2.2.1 hV7] at t2
        have t1' : qC [46] F7 F8 := qC_dst t1 w1
        have q8 : qC [45, 46, 47, 48] F F8 := qq_trans q7 (qq_up t1' (by decide))
        have hV8 := oV_e hV7 (qq_a t1' (by decide) (by decide))
        have d88 : (sy_i F8 88).toInt = n := by rw [nz_fi (w2 88 (by decide) (by decide)), b88]; exact a87
        have d89 : (sy_i F8 89).toInt = olX T g f.toInt.toNat p n := by rw [zz_i w3]; exact t2
        have xin := olX_in T g f.toInt.toNat p n
        refine j3ol_140 (by decide) F8 X1 X2 q8.1 (by omega) ?_
        intro FA hbA gA a48 o82 x82 o83 x83 o84 x84 o85 x85 o86 x86 o87 x87 o88 x88
        have q8A : qC [48] F8 FA := qq_mk hbA gA (by decide)
        have qA : qC [45, 46, 47, 48] F FA := qq_trans q8 (qq_up q8A (by decide))
        have cA := xC_q (by decide) hC qA (by decide)
        have hVA := oV_e hV8 (qq_a q8A (by decide) (by decide))
        have all : ∀ j, 82 ≤ j → j < 88 → sy_i F8 j = sy_i F7 j := fun j h1 h2 => eI (w2 j h1 (by omega))
        have all5 : ∀ j, 82 ≤ j → j < 88 → sy_i F5 j = sy_i F4 j := fun j h1 h2 => eI (u2 j h1 (by omega))
        have n82 : sy_i FA 82 = f := x82.trans ((all 82 (by decide) (by decide)).trans (v82.trans ((all5 82 (by decide) (by decide)).trans (m82.trans k82))))
        have n83 : sy_i FA 83 = d := x83.trans ((all 83 (by decide) (by decide)).trans (v83.trans ((all5 83 (by decide) (by decide)).trans (m83.trans k83))))
        have n84 : sy_i FA 84 = p := x84.trans ((all 84 (by decide) (by decide)).trans (v84.trans ((all5 84 (by decide) (by decide)).trans (m84.trans k84))))
        have n85 : sy_i FA 85 = lfS T g := x85.trans ((all 85 (by decide) (by decide)).trans (v85.trans ((all5 85 (by decide) (by decide)).trans (m85.trans k85))))
        have n86 : sy_i F8 86 = olR T g f.toInt.toNat p n := (all 86 (by decide) (by decide)).trans (v86.trans ((all5 86 (by decide) (by decide)).trans (m86.trans k86)))
        have n87 : (sy_i FA 87).toInt = n := by rw [o87, all 87 (by decide) (by decide), b87]; exact a87
        have n88 : sy_i FA 88 = olR T g f.toInt.toNat p n := x88.trans n86
        have b47 : sy_ai FA 47 = jm_upd (sy_ai F1 47) n (sy_i F5 89) := by
          rw [nz_fa (gA 47 (by decide) (by decide)), qq_a t1' (j := 47) (by decide) (by decide), a47, show (sy_i F5 88).toInt.toNat = n by omega, qq_a s1' (j := 47) (by decide) (by decide), nz_fa (g4 47 (by decide) (by decide)), qq_a r1' (j := 47) (by decide) (by decide), nz_fa (gg 47 (by decide) (by decide))]
        have b48 : sy_ai FA 48 = jm_upd (sy_ai F1 48) n (sy_i F8 89) := by
          rw [a48, show (sy_i F8 88).toInt.toNat = n by omega, qq_a t1' (j := 48) (by decide) (by decide), nz_fa (g7 48 (by decide) (by decide)), qq_a s1' (j := 48) (by decide) (by decide), nz_fa (g4 48 (by decide) (by decide)), qq_a r1' (j := 48) (by decide) (by decide), nz_fa (gg 48 (by decide) (by decide))]
        have hAA : olA T g f.toInt.toNat p (sy_ai FA 47) (sy_ai FA 48) (n + 1) := by
          rw [b47, b48]
          exact olA_up hA rfl a89 d89
        refine hd_calI (R := fun x F' => qC [46] FA F' ∧ x.toInt = lwT T 1 (v45 FA)) (nh := 82) (nv := 89) (s := 3) (s1 := 3) (d1 := 4) (M1 := jm_M21) (As := [.inl (.ref 38), .inl (.ref 20), .inl (.int 1)]) (rest := [.inr (.inl 88)]) jm_ok25 rfl rfl (by decide) (by decide +kernel) (j3tl_V FA X1 X2 cA (by decide) (by decide)) (fun FB FC z hRB y1 y2 y3 => ?_)
        obtain ⟨z1, z2⟩ := hRB
        rw [oV_1 hC.2.2.1 hVA] at z2
        have z1' : qC [46] FA FB := qC_dst z1 y1
        have qB : qC [45, 46, 47, 48] F FB := qq_trans qA (qq_up z1' (by decide))
        have hAB : olA T g f.toInt.toNat p (sy_ai FB 47) (sy_ai FB 48) (n + 1) := by
          rw [qq_a z1' (j := 47) (by decide) (by decide), qq_a z1' (j := 48) (by decide) (by decide)]
          exact hAA
        have l82 : sy_i FB 82 = f := (eI (y2 82 (by decide) (by decide))).trans n82
        have l83 : sy_i FB 83 = d := (eI (y2 83 (by decide) (by decide))).trans n83
        have l84 : sy_i FB 84 = p := (eI (y2 84 (by decide) (by decide))).trans n84
        have l85 : sy_i FB 85 = lfS T g := (eI (y2 85 (by decide) (by decide))).trans n85
        have l87 : (sy_i FB 87).toInt = n := by rw [nz_fi (y2 87 (by decide) (by decide))]; exact n87
        have l88 : sy_i FB 88 = olR T g f.toInt.toNat p n := (eI (y2 88 (by decide) (by decide))).trans n88
        have l89 : sy_i FB 89 = Int32.ofInt (ripeT T f.toInt.toNat (olR T g f.toInt.toNat p n) (shJ g f.toInt.toNat n) p (wiJ T g n) (hrJ g n) (lfS T g)) := by
          rw [zz_i y3]
          exact (ofi z2).symm
        have nx : ∀ v : Int32, v = Int32.ofInt (hdz 0 99 (sy_i FB 88 + sy_i FB 89).toInt) → v = olR T g f.toInt.toNat p (n + 1) := fun v e => by
          rw [e, l88, l89]
          rfl
        refine j3ol_152 (by decide) FB X1 X2 qB.1 (by omega) ?_ ?_ ?_
        · intro x0 x1 FD hbD gD a1 b1 a2 b2 a3 b3 a4 b4 a5 b5 a6 b6
          refine ih FD (n + 1) (by omega) (qq_on qB hbD gD (by decide)) (b1.trans l82) (b2.trans l83) (b3.trans l84) (b4.trans l85) (nx _ ?_) (by omega) ?_
          · rw [hdz_m (by omega) (by omega), b5]
            exact (ofi rfl).symm
          · rw [nz_fa (gD 47 (by decide) (by decide)), nz_fa (gD 48 (by decide) (by decide))]
            exact hAB
        · intro x0 x1 FD hbD gD a1 b1 a2 b2 a3 b3 a4 b4 a5 b5 a6 b6
          refine ih FD (n + 1) (by omega) (qq_on qB hbD gD (by decide)) (b1.trans l82) (b2.trans l83) (b3.trans l84) (b4.trans l85) (nx _ ?_) (by omega) ?_
          · rw [hdz_l (by omega), b5]
            rfl
          · rw [nz_fa (gD 47 (by decide) (by decide)), nz_fa (gD 48 (by decide) (by decide))]
            exact hAB
        · intro x0 FD hbD gD a1 b1 a2 b2 a3 b3 a4 b4 a5 b5 a6 b6
          refine ih FD (n + 1) (by omega) (qq_on qB hbD gD (by decide)) (b1.trans l82) (b2.trans l83) (b3.trans l84) (b4.trans l85) (nx _ ?_) (by omega) ?_
          · rw [hdz_h (by omega), b5]
            rfl
          · rw [nz_fa (gD 47 (by decide) (by decide)), nz_fa (gD 48 (by decide) (by decide))]
            exact hAB
      refine j3ol_52 (by decide) F3 X1 X2 q3.1 (by rw [k82]; omega) (by omega) ?_ ?_
      · intro d0 F4 hb4 g4 a45 b82 m82 b83 m83 b84 m84 b85 m85 b86 m86 b87 m87 b88 m88
        rw [k82] at a45
        exact fin F4 hb4 g4 (oV_set a45 hx.2.1 hx.1 ((g3.1 4 _ (by decide) (vF (by decide) hn7)).trans hl) k86 (by unfold shJ; rw [if_neg (by omega)]) k84 (by rw [e45]; exact r2) (by rw [e45]; exact r3) (by rw [e45]; exact r4)) m82 m83 m84 m85 m86 m87 b88
      · intro d0 F4 hb4 g4 a45 b82 m82 b83 m83 b84 m84 b85 m85 b86 m86 b87 m87 b88 m88
        rw [k82] at a45
        exact fin F4 hb4 g4 (oV_set a45 hx.2.1 hx.1 ((g3.1 4 _ (by decide) (vF (by decide) hn7)).trans hl) k86 (by unfold shJ; rw [if_pos (by omega)]; exact g3.1 6 _ (by decide) (vF (by decide) hn7)) k84 (by rw [e45]; exact r2) (by rw [e45]; exact r3) (by rw [e45]; exact r4)) m82 m83 m84 m85 m86 m87 b88
theorem j3ol_V (hC : xC 18 T F) (hG : gC 50 (nfS T) (nbS T) F g) (f d p : Int32) (hf : 0 ≤ f.toInt ∧ f.toInt < nfS T) (hl : g 4 f.toInt.toNat = 0) (hd : 0 ≤ d.toInt ∧ d.toInt ≤ 4) : jm_T Ls xs 6 jm_M25 [.ref 42, .ref 20, .ref 46, .int f, .int d, .int p] (sy_dh F X1 X2 (iv_H 3)) 0 0 (pV 3 X1 X2 (fun F' => qC [45, 46, 47, 48] F F' ∧ olA T g f.toInt.toNat p (sy_ai F' 47) (sy_ai F' 48) d.toInt.toNat)) := by
  have l7 : nfS T ≤ 7 := hC.2.2.1.1.1
  have enf : (sy_i F 18).toInt = (nfS T : Int) := hC.2.1.1.1
  refine C_T (by decide) [f, d, p] [.inl (.ref 42), .inl (.ref 20), .inl (.ref 46), .inr (.inl 82), .inr (.inl 83), .inr (.inl 84)] jm_ok25 (by decide) rfl (fun F0 k0 ki => ?_)
  have i82 : sy_i F0 82 = f := ki 0
  have i83 : sy_i F0 83 = d := ki 1
  have i84 : sy_i F0 84 = p := ki 2
  refine j3ol_0 (by decide) F0 X1 X2 (hd_iveq0 hC.1 k0) ?_
  intro F1 hb gg f82 j82 f83 j83 f84 j84 f85 j85
  have q1 : qC [] F F1 := qq_src (qq_mk hb gg (by decide)) k0
  have c1 := xC_q (by decide) hC q1 (by decide)
  have g1 : gC 50 (nfS T) (nbS T) F1 g := gC_eq hG (fun j h1 h2 => q1.2 j (by omega) (by simp))
  refine hd_calI (R := fun x F' => qC [] F1 F' ∧ x = ppS (mkS g (0 : Int32).toInt (nfS T))) (nh := 82) (nv := 85) (s := 3) (s1 := 3) (d1 := 2) (M1 := jm_M12) (As := [.inl (.ref 46), .inl (.int 0), .inr (.inl 85)]) (rest := []) jm_ok25 rfl rfl (by decide) (by decide +kernel) (j3nhm_V F1 X1 X2 c1 g1 0 _ (by rw [f85, nz_fi (k0 18 (by decide))]; exact enf)) (fun F3 F' x hR p1 p2 p3 => ?_)
  obtain ⟨r1, r2⟩ := hR
  have q3 : qC [] F F3 := qq_trans q1 (qC_dst r1 p1)
  have k82 : sy_i F3 82 = f := (eI (p2 82 (by decide) (by decide))).trans (j82.trans i82)
  have k83 : sy_i F3 83 = d := (eI (p2 83 (by decide) (by decide))).trans (j83.trans i83)
  have k84 : sy_i F3 84 = p := (eI (p2 84 (by decide) (by decide))).trans (j84.trans i84)
  have k85 : sy_i F3 85 = lfS T g := (zz_i p3).trans r2
  refine j3ol_9 (by decide) F3 X1 X2 q3.1 (by rw [k82]; omega) ?_
  intro F4 hb4 g4 h82 m82 h83 m83 h84 m84 h85 m85 h86 m86 h87 m87
  have r53 : sy_i F4 86 = g 1 f.toInt.toNat := by
    rw [m86, k82, qq_a q3 (j := 53) (by decide) (by decide)]
    exact hG.1 1 _ (by decide) (vF (by decide) (by omega))
  exact j3ol_L F X1 X2 hC hG hf hl (d := d) (p := p) (D := d.toInt.toNat) (by omega) (by omega) d.toInt.toNat F4 0 (by omega) (qq_on (qq_up q3 (by decide)) hb4 g4 (by decide)) (m82.trans k82) (m83.trans k83) (m84.trans k84) (m85.trans k85) r53 h87 (fun j h => absurd h (by omega))
end OL3
section OLR
variable {Ls : Nat} {xs : Nat → Int32} {T : tX} {g : gS} (F : Nat → sy_d) (X1 X2 : List jm_c)
theorem rol_L (hC : cR T F) (hw0 : gRow T F g) {f d p : Int32} (hf : 0 ≤ f.toInt ∧ f.toInt < nfS T) {D : Nat} (hd : d.toInt = D) (hD : D ≤ 4) : ∀ (m : Nat) (F1 : Nat → sy_d) (n : Nat), n + m = D → qR [17, 52, 53, 61, 62] F F1 → sy_i F1 69 = f → sy_i F1 70 = d → sy_i F1 71 = p → sy_i F1 72 = olR T g f.toInt.toNat p n → (sy_i F1 73).toInt = n → olA T g f.toInt.toNat p (sy_ai F1 61) (sy_ai F1 62) n →
    hd_W Ls xs 6 jm_M206 (pV 4 X1 X2 (fun F' => qR [17, 52, 53, 61, 62] F F' ∧ olA T g f.toInt.toNat p (sy_ai F' 61) (sy_ai F' 62) D)) (14, sy_dL F1 [some (.inl (.ref 1000)), some (.inr (.inl 69)), some (.inr (.inl 70)), some (.inr (.inl 71)), some (.inr (.inl 72)), some (.inr (.inl 73)), none, none, none], sy_dS F1 [], sy_dh F1 X1 X2 (iv_H 4), 0, 0) := by
  have l7 : nfS T ≤ 7 := hC.2.2.1.1
  have hn7 : f.toInt.toNat < nfS T := by omega
  intro m
  induction m with
  | zero =>
    intro F1 n hm hq i69 i70 i71 i72 e73 hA
    have z69 : (sy_i F1 69).toInt = f.toInt := congrArg Int32.toInt i69
    have z70 : (sy_i F1 70).toInt = D := (congrArg Int32.toInt i70).trans hd
    refine zol_14 (by decide) F1 X1 X2 hq.1 (by omega) (by omega) (by omega) ?_ ?_ ?_
    · intro c0 F2 hb gg
      refine ⟨F2, rfl, rfl, qq_on hq hb gg (by decide), ?_⟩
      rw [nz_fa (gg 61 (by decide) (by decide)), nz_fa (gg 62 (by decide) (by decide)), show D = n by omega]
      exact hA
    · intros
      omega
    · intros
      omega
  | succ m ih =>
    intro F1 n hm hq i69 i70 i71 i72 e73 hA
    have z69 : (sy_i F1 69).toInt = f.toInt := congrArg Int32.toInt i69
    have z70 : (sy_i F1 70).toInt = D := (congrArg Int32.toInt i70).trans hd
    have w1 : gRow T F1 g := gRow_e hw0 (qq_a hq (by decide) (by decide))
    have r57 : (sy_ai F1 55).getD (57 : Int).toNat 0 = g 9 0 := w1 9 0 (vH (by decide))
    have r42 : (sy_ai F1 55).getD (42 + (sy_i F1 69).toInt).toNat 0 = g 6 f.toInt.toNat := by
      rw [show (42 + (sy_i F1 69).toInt).toNat = ra 6 + f.toInt.toNat by show _ = 42 + _; omega]
      exact w1 6 _ (vF (by decide) hn7)
    have hrn : g 9 0 + sy_i F1 73 = hrJ g n := by
      rw [← ofi e73]
      rfl
    have fin : ∀ F2 : Nat → sy_d, iv_in F2 iv_B4 → (∀ j, j < 69 → j ∉ ([] : List Nat) → F2 j = F1 j) → sy_i F2 69 = f → sy_i F2 70 = d → sy_i F2 71 = p → sy_i F2 72 = olR T g f.toInt.toNat p n → (sy_i F2 73).toInt = n → sy_i F2 74 = hrJ g n → sy_i F2 75 = shJ g f.toInt.toNat n → sy_i F2 76 = hrJ g n →
        hd_W Ls xs 6 jm_M206 (pV 4 X1 X2 (fun F' => qR [17, 52, 53, 61, 62] F F' ∧ olA T g f.toInt.toNat p (sy_ai F' 61) (sy_ai F' 62) D)) (56, sy_dL F2 [some (.inl (.ref 1000)), some (.inr (.inl 69)), some (.inr (.inl 70)), some (.inr (.inl 71)), some (.inr (.inl 72)), some (.inr (.inl 73)), some (.inr (.inl 74)), some (.inr (.inl 75)), none], sy_dS F2 [.inl (.ref 1000), .inr (.inl 76), .inl (.ref 1000)], sy_dh F2 X1 X2 (iv_H 4), 0, 0) := by
      intro F2 hb gg j69 j70 j71 j72 f73 j74 j75 j76
      have q12 : qR [] F1 F2 := ⟨hb, fun j h1 h2 => gg j h1 h2⟩
      have q2 : qR [17, 52, 53, 61, 62] F F2 := qq_trans hq (qq_up q12 (by decide))
      have w2 : gRow T F2 g := gRow_e w1 (qq_a q12 (by decide) (by decide))
      refine hd_calI (R := fun x F' => qR [] F2 F' ∧ x = lfS T g) (nh := 69) (nv := 77) (s := 4) (s1 := 4) (d1 := 2) (M1 := jm_M196) (As := [.inl (.ref 1000)]) (rest := [.inr (.inl 76), .inl (.ref 1000)]) jm_ok206 rfl rfl (by decide) (by decide +kernel) (ln_V F2 X1 X2 (cR_q hC q2 (by decide)) w2) (fun F3 F' x hR p1 p2 p3 => ?_)
      obtain ⟨r1, r2⟩ := hR
      have r1' : qR [] F2 F3 := qR_dst r1 p1
      have q3 : qR [17, 52, 53, 61, 62] F F3 := qq_trans q2 (qq_up r1' (by decide))
      have all3 : ∀ j, 69 ≤ j → j < 77 → sy_i F3 j = sy_i F2 j := fun j h1 h2 => eI (p2 j h1 h2)
      have k76 : sy_i F3 76 = hrJ g n := (all3 76 (by decide) (by decide)).trans j76
      have k77 : sy_i F3 77 = lfS T g := (zz_i p3).trans r2
      refine hd_calI (R := fun x F' => qR [17, 52, 53] F3 F' ∧ x.toInt = windT T (sy_i F3 76) (sy_i F3 77)) (nh := 69) (nv := 76) (s := 4) (s1 := 4) (d1 := 5) (M1 := jm_M181) (As := [.inl (.ref 1000), .inr (.inl 76), .inr (.inl 77)]) (rest := []) jm_ok206 rfl rfl (by decide) (by decide +kernel) (wb_V F3 X1 X2 (cR_q hC q3 (by decide)) _ _) (fun F5 F6 y hR5 u1 u2 u3 => ?_)
      obtain ⟨s1, s2⟩ := hR5
      rw [k76, k77] at s2
      have s1' : qR [17, 52, 53] F3 F5 := qR_dst s1 u1
      have q5 : qR [17, 52, 53, 61, 62] F F5 := qq_trans q3 (qq_up s1' (by decide))
      have w5 : gRow T F5 g := gRow_e (gRow_e w2 (qq_a r1' (by decide) (by decide))) (qq_a s1' (by decide) (by decide))
      have all5 : ∀ j, 69 ≤ j → j < 76 → sy_i F5 j = sy_i F2 j := fun j h1 h2 => (eI (u2 j h1 h2)).trans (all3 j h1 (by omega))
      have a76 : sy_i F5 76 = wiJ T g n := (zz_i u3).trans (ofi s2).symm
      refine zol_62 (by decide) F5 X1 X2 q5.1 ?_
      intro F7 hb7 g7 b69 v69 b70 v70 b71 v71 b72 v72 b73 v73 b74 v74 b75 v75 b76 v76 b77 v77 b78 v78 b79 v79 b80 v80 b81 v81 b82 v82 b83 v83
      have q57 : qR [] F5 F7 := qq_mk hb7 g7 (by decide)
      have q7 : qR [17, 52, 53, 61, 62] F F7 := qq_trans q5 (qq_up q57 (by decide))
      have w7 : gRow T F7 g := gRow_e w5 (qq_a q57 (by decide) (by decide))
      have c69 : sy_i F7 69 = f := v69.trans ((all5 69 (by decide) (by decide)).trans j69)
      have c70 : sy_i F7 70 = d := v70.trans ((all5 70 (by decide) (by decide)).trans j70)
      have c71 : sy_i F7 71 = p := v71.trans ((all5 71 (by decide) (by decide)).trans j71)
      have c72 : sy_i F7 72 = olR T g f.toInt.toNat p n := v72.trans ((all5 72 (by decide) (by decide)).trans j72)
      have c73 : (sy_i F7 73).toInt = n := by rw [b73, all5 73 (by decide) (by decide)]; exact f73
      have c74 : sy_i F7 74 = hrJ g n := v74.trans ((all5 74 (by decide) (by decide)).trans j74)
      have c75 : sy_i F7 75 = shJ g f.toInt.toNat n := v75.trans ((all5 75 (by decide) (by decide)).trans j75)
      have c76 : sy_i F7 76 = wiJ T g n := v76.trans a76
      have c77 : (sy_i F7 77).toInt = n := by rw [b77, all5 73 (by decide) (by decide)]; exact f73
      have c78 : sy_i F7 78 = f := v78.trans ((all5 69 (by decide) (by decide)).trans j69)
      have c79 : sy_i F7 79 = olR T g f.toInt.toNat p n := v79.trans ((all5 72 (by decide) (by decide)).trans j72)
      have c80 : sy_i F7 80 = shJ g f.toInt.toNat n := v80.trans ((all5 75 (by decide) (by decide)).trans j75)
      have c81 : sy_i F7 81 = p := v81.trans ((all5 71 (by decide) (by decide)).trans j71)
      have c82 : sy_i F7 82 = wiJ T g n := v82.trans a76
      have c83 : sy_i F7 83 = hrJ g n := v83.trans ((all5 74 (by decide) (by decide)).trans j74)
      refine hd_calI2 (R := fun x F' => qR [] F7 F' ∧ x = lfS T g) (nh := 69) (nv := 84) (s := 4) (s1 := 4) (d1 := 2) (M1 := jm_M196) (As := [.inl (.ref 1000)]) (rest := [.inr (.inl 83), .inr (.inl 82), .inr (.inl 81), .inr (.inl 80), .inr (.inl 79), .inr (.inl 78), .inl (.int 2), .inl (.ref 1000), .inr (.inl 77), .inl (.ref 1039)]) jm_ok206 rfl rfl (by decide) (by decide +kernel) (ln_V F7 X1 X2 (cR_q hC q7 (by decide)) w7) (fun F8 F9 x2 hR8 w1' w2' w3' => ?_)
      obtain ⟨t1, t2⟩ := hR8
      have t1' : qR [] F7 F8 := qR_dst t1 w1'
      have q8 : qR [17, 52, 53, 61, 62] F F8 := qq_trans q7 (qq_up t1' (by decide))
      have w8 : gRow T F8 g := gRow_e w7 (qq_a t1' (by decide) (by decide))
      have all8 : ∀ j, 69 ≤ j → j < 84 → sy_i F8 j = sy_i F7 j := fun j h1 h2 => eI (w2' j h1 h2)
      have d84 : sy_i F8 84 = lfS T g := (zz_i w3').trans t2
      refine hd_calI (R := fun x F' => qR [17, 52, 53] F8 F' ∧ x.toInt = fallT T (sy_i F8 78).toInt.toNat (sy_i F8 79) (sy_i F8 80) (sy_i F8 81) (sy_i F8 82) (sy_i F8 83) (sy_i F8 84)) (nh := 69) (nv := 78) (s := 4) (s1 := 4) (d1 := 5) (M1 := jm_M185) (As := [.inl (.ref 1000), .inl (.int 2), .inr (.inl 78), .inr (.inl 79), .inr (.inl 80), .inr (.inl 81), .inr (.inl 82), .inr (.inl 83), .inr (.inl 84)]) (rest := [.inr (.inl 77), .inl (.ref 1039)]) jm_ok206 rfl rfl (by decide) (by decide +kernel) (hf_V F8 X1 X2 (cR_q hC q8 (by decide)) _ _ _ _ _ _ _ (by rw [all8 78 (by decide) (by decide), c78]; exact hf)) (fun FA FB z hRA y1 y2 y3 => ?_)
      obtain ⟨z1, z2⟩ := hRA
      rw [all8 78 (by decide) (by decide), all8 79 (by decide) (by decide), all8 80 (by decide) (by decide), all8 81 (by decide) (by decide), all8 82 (by decide) (by decide), all8 83 (by decide) (by decide), c78, c79, c80, c81, c82, c83, d84] at z2
      have z2 : z.toInt = olC T g f.toInt.toNat p n := z2
      have z1' : qR [17, 52, 53] F8 FA := qR_dst z1 y1
      have qA : qR [17, 52, 53, 61, 62] F FA := qq_trans q8 (qq_up z1' (by decide))
      have wA : gRow T FA g := gRow_e w8 (qq_a z1' (by decide) (by decide))
      have allA : ∀ j, 69 ≤ j → j < 78 → sy_i FA j = sy_i F7 j := fun j h1 h2 => (eI (y2 j h1 h2)).trans (all8 j h1 (by omega))
      have aA78 : (sy_i FA 78).toInt = olC T g f.toInt.toNat p n := by rw [zz_i y3]; exact z2
      have aA77 : (sy_i FA 77).toInt = n := by rw [allA 77 (by decide) (by decide)]; exact c77
      have aA73 : (sy_i FA 73).toInt = n := by rw [allA 73 (by decide) (by decide)]; exact c73
      have cin := olC_in T g f.toInt.toNat p n
      refine zol_89 (by decide) FA X1 X2 qA.1 (by omega) (by omega) ⟨by omega, by omega⟩ ?_
      intro FC hbC gC' a61 o69 x69 o70 x70 o71 x71 o72 x72 o73 x73 o74 x74 o75 x75 o76 x76 o77 x77 o78 x78 o79 x79 o80 x80
      have qAC : qR [61] FA FC := qq_mk hbC gC' (by decide)
      have qC' : qR [17, 52, 53, 61, 62] F FC := qq_trans qA (qq_up qAC (by decide))
      have wC : gRow T FC g := gRow_e wA (qq_a qAC (by decide) (by decide))
      have e69 : sy_i FC 69 = f := x69.trans ((allA 69 (by decide) (by decide)).trans c69)
      have e70 : sy_i FC 70 = d := x70.trans ((allA 70 (by decide) (by decide)).trans c70)
      have e71 : sy_i FC 71 = p := x71.trans ((allA 71 (by decide) (by decide)).trans c71)
      have e72 : sy_i FC 72 = olR T g f.toInt.toNat p n := x72.trans ((allA 72 (by decide) (by decide)).trans c72)
      have e73' : (sy_i FC 73).toInt = n := by rw [o73]; exact aA73
      have e74 : sy_i FC 74 = hrJ g n := x74.trans ((allA 74 (by decide) (by decide)).trans c74)
      have e75 : sy_i FC 75 = shJ g f.toInt.toNat n := x75.trans ((allA 75 (by decide) (by decide)).trans c75)
      have e76 : sy_i FC 76 = wiJ T g n := x76.trans ((allA 76 (by decide) (by decide)).trans c76)
      have e77 : (sy_i FC 77).toInt = n := by rw [o77]; exact aA73
      have e78 : sy_i FC 78 = f := x78.trans ((allA 69 (by decide) (by decide)).trans c69)
      have e79 : sy_i FC 79 = olR T g f.toInt.toNat p n := x79.trans ((allA 72 (by decide) (by decide)).trans c72)
      have e80 : sy_i FC 80 = hrJ g n := x80.trans ((allA 74 (by decide) (by decide)).trans c74)
      refine hd_calI (R := fun x F' => qR [] FC F' ∧ x = lfS T g) (nh := 69) (nv := 81) (s := 4) (s1 := 4) (d1 := 2) (M1 := jm_M196) (As := [.inl (.ref 1000)]) (rest := [.inr (.inl 80), .inl (.int 0), .inr (.inl 79), .inr (.inl 78), .inl (.ref 1000), .inr (.inl 77), .inl (.ref 1040)]) jm_ok206 rfl rfl (by decide) (by decide +kernel) (ln_V FC X1 X2 (cR_q hC qC' (by decide)) wC) (fun FD FE x3 hRD m1 m2 m3 => ?_)
      obtain ⟨n1, n2⟩ := hRD
      have n1' : qR [] FC FD := qR_dst n1 m1
      have qD : qR [17, 52, 53, 61, 62] F FD := qq_trans qC' (qq_up n1' (by decide))
      have allD : ∀ j, 69 ≤ j → j < 81 → sy_i FD j = sy_i FC j := fun j h1 h2 => eI (m2 j h1 h2)
      have f81 : sy_i FD 81 = lfS T g := (zz_i m3).trans n2
      refine hd_calI (R := fun x F' => qR [17, 52, 53] FD F' ∧ x.toInt = worthT T (sy_i FD 78).toInt.toNat (sy_i FD 79) 0 (sy_i FD 80) (sy_i FD 81)) (nh := 69) (nv := 78) (s := 4) (s1 := 4) (d1 := 5) (M1 := jm_M183) (As := [.inl (.ref 1000), .inr (.inl 78), .inr (.inl 79), .inl (.int 0), .inr (.inl 80), .inr (.inl 81)]) (rest := [.inr (.inl 77), .inl (.ref 1040)]) jm_ok206 rfl rfl (by decide) (by decide +kernel) (wo_V FD X1 X2 (cR_q hC qD (by decide)) _ _ _ _ _ (by rw [allD 78 (by decide) (by decide), e78]; exact hf)) (fun FG FH x4 hRG h1 h2 h3 => ?_)
      obtain ⟨i1, i2⟩ := hRG
      rw [allD 78 (by decide) (by decide), allD 79 (by decide) (by decide), allD 80 (by decide) (by decide), e78, e79, e80, f81] at i2
      have i2 : x4.toInt = olX T g f.toInt.toNat p n := i2
      have i1' : qR [17, 52, 53] FD FG := qR_dst i1 h1
      have qG : qR [17, 52, 53, 61, 62] F FG := qq_trans qD (qq_up i1' (by decide))
      have allG : ∀ j, 69 ≤ j → j < 78 → sy_i FG j = sy_i FC j := fun j h1' h2' => (eI (h2 j h1' h2')).trans (allD j h1' (by omega))
      have aG78 : (sy_i FG 78).toInt = olX T g f.toInt.toNat p n := by rw [zz_i h3]; exact i2
      have aG77 : (sy_i FG 77).toInt = n := by rw [allG 77 (by decide) (by decide)]; exact e77
      have xin := olX_in T g f.toInt.toNat p n
      refine zol_110 (by decide) FG X1 X2 qG.1 (by omega) ?_
      intro FI hbI gI a62 o69 x69 o70 x70 o71 x71 o72 x72 o73 x73 o74 x74 o75 x75 o76 x76 o77 x77 o78 x78 o79 x79 o80 x80 o81 x81 o82 x82 o83 x83
      have qGI : qR [62] FG FI := qq_mk hbI gI (by decide)
      have qI : qR [17, 52, 53, 61, 62] F FI := qq_trans qG (qq_up qGI (by decide))
      have wI : gRow T FI g := gRow_e (gRow_e (gRow_e wC (qq_a n1' (by decide) (by decide))) (qq_a i1' (by decide) (by decide))) (qq_a qGI (by decide) (by decide))
      have k69 : sy_i FI 69 = f := x69.trans ((allG 69 (by decide) (by decide)).trans e69)
      have k70 : sy_i FI 70 = d := x70.trans ((allG 70 (by decide) (by decide)).trans e70)
      have k71 : sy_i FI 71 = p := x71.trans ((allG 71 (by decide) (by decide)).trans e71)
      have k73 : (sy_i FI 73).toInt = n := by rw [o73, allG 73 (by decide) (by decide)]; exact e73'
      have k77' : sy_i FI 77 = olR T g f.toInt.toNat p n := x77.trans ((allG 72 (by decide) (by decide)).trans e72)
      have k78 : sy_i FI 78 = f := x78.trans ((allG 69 (by decide) (by decide)).trans e69)
      have k79 : sy_i FI 79 = olR T g f.toInt.toNat p n := x79.trans ((allG 72 (by decide) (by decide)).trans e72)
      have k80 : sy_i FI 80 = shJ g f.toInt.toNat n := x80.trans ((allG 75 (by decide) (by decide)).trans e75)
      have k81 : sy_i FI 81 = p := x81.trans ((allG 71 (by decide) (by decide)).trans e71)
      have k82 : sy_i FI 82 = wiJ T g n := x82.trans ((allG 76 (by decide) (by decide)).trans e76)
      have k83 : sy_i FI 83 = hrJ g n := x83.trans ((allG 74 (by decide) (by decide)).trans e74)
      have b61 : sy_ai FI 61 = jm_upd (sy_ai F1 61) n (sy_i FA 78) := by
        rw [nz_fa (gI 61 (by decide) (by decide)), qq_a i1' (j := 61) (by decide) (by decide), qq_a n1' (j := 61) (by decide) (by decide), a61, show (sy_i FA 77).toInt.toNat = n by omega, qq_a z1' (j := 61) (by decide) (by decide), qq_a t1' (j := 61) (by decide) (by decide), qq_a q57 (j := 61) (by decide) (by decide), qq_a s1' (j := 61) (by decide) (by decide), qq_a r1' (j := 61) (by decide) (by decide), qq_a q12 (j := 61) (by decide) (by decide)]
      have b62 : sy_ai FI 62 = jm_upd (sy_ai F1 62) n (sy_i FG 78) := by
        rw [a62, show (sy_i FG 77).toInt.toNat = n by omega, qq_a i1' (j := 62) (by decide) (by decide), qq_a n1' (j := 62) (by decide) (by decide), qq_a qAC (j := 62) (by decide) (by decide), qq_a z1' (j := 62) (by decide) (by decide), qq_a t1' (j := 62) (by decide) (by decide), qq_a q57 (j := 62) (by decide) (by decide), qq_a s1' (j := 62) (by decide) (by decide), qq_a r1' (j := 62) (by decide) (by decide), qq_a q12 (j := 62) (by decide) (by decide)]
      have hAI : olA T g f.toInt.toNat p (sy_ai FI 61) (sy_ai FI 62) (n + 1) := by
        rw [b61, b62]
        exact olA_up hA rfl aA78 aG78
      refine hd_calI2 (R := fun x F' => qR [] FI F' ∧ x = lfS T g) (nh := 69) (nv := 84) (s := 4) (s1 := 4) (d1 := 2) (M1 := jm_M196) (As := [.inl (.ref 1000)]) (rest := [.inr (.inl 83), .inr (.inl 82), .inr (.inl 81), .inr (.inl 80), .inr (.inl 79), .inr (.inl 78), .inl (.int 1), .inl (.ref 1000), .inr (.inl 77)]) jm_ok206 rfl rfl (by decide) (by decide +kernel) (ln_V FI X1 X2 (cR_q hC qI (by decide)) wI) (fun FJ FK x5 hRJ j1 j2 j3 => ?_)
      obtain ⟨l1, l2⟩ := hRJ
      have l1' : qR [] FI FJ := qR_dst l1 j1
      have qJ : qR [17, 52, 53, 61, 62] F FJ := qq_trans qI (qq_up l1' (by decide))
      have allJ : ∀ j, 69 ≤ j → j < 84 → sy_i FJ j = sy_i FI j := fun j h1' h2' => eI (j2 j h1' h2')
      have g84 : sy_i FJ 84 = lfS T g := (zz_i j3).trans l2
      refine hd_calI (R := fun x F' => qR [17, 52, 53] FJ F' ∧ x.toInt = ripeT T (sy_i FJ 78).toInt.toNat (sy_i FJ 79) (sy_i FJ 80) (sy_i FJ 81) (sy_i FJ 82) (sy_i FJ 83) (sy_i FJ 84)) (nh := 69) (nv := 78) (s := 4) (s1 := 4) (d1 := 5) (M1 := jm_M185) (As := [.inl (.ref 1000), .inl (.int 1), .inr (.inl 78), .inr (.inl 79), .inr (.inl 80), .inr (.inl 81), .inr (.inl 82), .inr (.inl 83), .inr (.inl 84)]) (rest := [.inr (.inl 77)]) jm_ok206 rfl rfl (by decide) (by decide +kernel) (hr_V FJ X1 X2 (cR_q hC qJ (by decide)) _ _ _ _ _ _ _ (by rw [allJ 78 (by decide) (by decide), k78]; exact hf)) (fun FL FM x6 hRL m1 m2 m3 => ?_)
      obtain ⟨o1, o2⟩ := hRL
      rw [allJ 78 (by decide) (by decide), allJ 79 (by decide) (by decide), allJ 80 (by decide) (by decide), allJ 81 (by decide) (by decide), allJ 82 (by decide) (by decide), allJ 83 (by decide) (by decide), k78, k79, k80, k81, k82, k83, g84] at o2
      have o1' : qR [17, 52, 53] FJ FL := qR_dst o1 m1
      have qL : qR [17, 52, 53, 61, 62] F FL := qq_trans qJ (qq_up o1' (by decide))
      have allL : ∀ j, 69 ≤ j → j < 78 → sy_i FL j = sy_i FI j := fun j h1' h2' => (eI (m2 j h1' h2')).trans (allJ j h1' (by omega))
      have hAL : olA T g f.toInt.toNat p (sy_ai FL 61) (sy_ai FL 62) (n + 1) := by
        rw [qq_a o1' (j := 61) (by decide) (by decide), qq_a o1' (j := 62) (by decide) (by decide), qq_a l1' (j := 61) (by decide) (by decide), qq_a l1' (j := 62) (by decide) (by decide)]
        exact hAI
      have n77 : sy_i FL 77 = olR T g f.toInt.toNat p n := (allL 77 (by decide) (by decide)).trans k77'
      have n78 : sy_i FL 78 = Int32.ofInt (ripeT T f.toInt.toNat (olR T g f.toInt.toNat p n) (shJ g f.toInt.toNat n) p (wiJ T g n) (hrJ g n) (lfS T g)) := by
        rw [zz_i m3]
        exact (ofi o2).symm
      have l69 : sy_i FL 69 = f := (allL 69 (by decide) (by decide)).trans k69
      have l70 : sy_i FL 70 = d := (allL 70 (by decide) (by decide)).trans k70
      have l71 : sy_i FL 71 = p := (allL 71 (by decide) (by decide)).trans k71
      have l73 : (sy_i FL 73).toInt = n := by rw [allL 73 (by decide) (by decide)]; exact k73
      have nx : ∀ v : Int32, v = Int32.ofInt (hdz 0 99 (sy_i FL 77 + sy_i FL 78).toInt) → v = olR T g f.toInt.toNat p (n + 1) := fun v e => by
        rw [e, n77, n78]
        rfl
      refine zol_132 (by decide) FL X1 X2 qL.1 (by omega) ?_ ?_ ?_
      · intro x0 x1 FN hbN gN a1 b1 a2 b2 a3 b3 a4 b4 a5 b5
        refine ih FN (n + 1) (by omega) (qq_on qL hbN gN (by decide)) (b1.trans l69) (b2.trans l70) (b3.trans l71) (nx _ ?_) (by omega) ?_
        · rw [hdz_m (by omega) (by omega), b4]
          exact (ofi rfl).symm
        · rw [nz_fa (gN 61 (by decide) (by decide)), nz_fa (gN 62 (by decide) (by decide))]
          exact hAL
      · intro x0 x1 FN hbN gN a1 b1 a2 b2 a3 b3 a4 b4 a5 b5
        refine ih FN (n + 1) (by omega) (qq_on qL hbN gN (by decide)) (b1.trans l69) (b2.trans l70) (b3.trans l71) (nx _ ?_) (by omega) ?_
        · rw [hdz_h (by omega), b4]
          rfl
        · rw [nz_fa (gN 61 (by decide) (by decide)), nz_fa (gN 62 (by decide) (by decide))]
          exact hAL
      · intro x0 FN hbN gN a1 b1 a2 b2 a3 b3 a4 b4 a5 b5
        refine ih FN (n + 1) (by omega) (qq_on qL hbN gN (by decide)) (b1.trans l69) (b2.trans l70) (b3.trans l71) (nx _ ?_) (by omega) ?_
        · rw [hdz_l (by omega), b4]
          rfl
        · rw [nz_fa (gN 61 (by decide) (by decide)), nz_fa (gN 62 (by decide) (by decide))]
          exact hAL
    refine zol_14 (by decide) F1 X1 X2 hq.1 (by omega) (by omega) (by omega) ?_ ?_ ?_
    · intros
      omega
    · intro c0 c1 F2 hb gg f69 j69 f70 j70 f71 j71 f72 j72 f73 j73 f74 j74 f75 j75 f76 j76
      rw [r57, hrn] at j74 j76
      exact fin F2 hb gg (j69.trans i69) (j70.trans i70) (j71.trans i71) (j72.trans i72) (f73.trans e73) j74 (j75.trans (by unfold shJ; rw [if_neg (by omega)])) j76
    · intro c0 c1 F2 hb gg f69 j69 f70 j70 f71 j71 f72 j72 f73 j73 f74 j74 f75 j75 f76 j76
      rw [r57, hrn] at j74 j76
      rw [r42] at j75
      exact fin F2 hb gg (j69.trans i69) (j70.trans i70) (j71.trans i71) (j72.trans i72) (f73.trans e73) j74 (j75.trans (by unfold shJ; rw [if_pos (by omega)])) j76
theorem rol_V (hC : cR T F) (hw0 : gRow T F g) (f d p : Int32) (hf : 0 ≤ f.toInt ∧ f.toInt < nfS T) (hd : 0 ≤ d.toInt ∧ d.toInt ≤ 4) : jm_T Ls xs 6 jm_M206 [.ref 1000, .int f, .int d, .int p] (sy_dh F X1 X2 (iv_H 4)) 0 0 (pV 4 X1 X2 (fun F' => qR [17, 52, 53, 61, 62] F F' ∧ olA T g f.toInt.toNat p (sy_ai F' 61) (sy_ai F' 62) d.toInt.toNat)) := by
  have l7 : nfS T ≤ 7 := hC.2.2.1.1
  refine R_T [f, d, p] [.inl (.ref 1000), .inr (.inl 69), .inr (.inl 70), .inr (.inl 71)] jm_ok206 (by decide) rfl (fun F0 k0 ki => ?_)
  have i69 : sy_i F0 69 = f := ki 0
  have i70 : sy_i F0 70 = d := ki 1
  have i71 : sy_i F0 71 = p := ki 2
  have z69 : (sy_i F0 69).toInt = f.toInt := congrArg Int32.toInt i69
  refine zol_0 (by decide) F0 X1 X2 (hd_iveq hC.1 k0) (by omega) ?_
  intro F1 hb gg f69 j69 f70 j70 f71 j71 f72 j72 f73 j73
  have q1 : qR [] F F1 := qq_src (qq_mk hb gg (by decide)) k0
  have r7 : sy_i F1 72 = g 1 f.toInt.toNat := by
    rw [j72, nz_fa (k0 55 (by decide)), show (7 + (sy_i F0 69).toInt).toNat = ra 1 + f.toInt.toNat by show _ = 7 + _; omega]
    exact hw0 1 _ (vF (by decide) (by omega))
  exact rol_L F X1 X2 hC hw0 hf (d := d) (p := p) (D := d.toInt.toNat) (by omega) (by omega) d.toInt.toNat F1 0 (by omega) (qq_up q1 (by decide)) (j69.trans i69) (j70.trans i70) (j71.trans i71) r7 f73 (fun j h => absurd h (by omega))
end OLR
end
section
/-! ===== calls that answer a long ===== -/
section HJ
variable {Ls : Nat} {xs : Nat → Int32} {d d1 : Nat} {M M1 : jm_M} {Q : Option Value → jm_h → Prop} {pc nh nv s s1 : Nat} {i : jm_I} {L : List (Option sy_v)} {S As rest : List sy_v} {F : Nat → sy_d} {X1 X2 : List jm_c}
theorem hd_calJ {R : Int64 → (Nat → sy_d) → Prop} (hM : jm_ok jm_YN M) (hi : jm_in M pc = some i) (hcf : sy_cf jm_TB i (iv_H s) S = some (M1, As, rest)) (hd : d1 + 1 ≤ d) (hsc : hd_sc nh nv s1 L rest = true)
    (hT : jm_T Ls xs d1 M1 (As.map (sy_dv F)) (sy_dh F X1 X2 (iv_H s)) 0 0 (fun v G => ∃ (x : Int64) (F' : Nat → sy_d), v = some (.long x) ∧ G = sy_dh F' X1 X2 (iv_H s1) ∧ R x F'))
    (k : ∀ (F2 F' : Nat → sy_d) (x : Int64), R x F' → (∀ q, q < nh → F2 q = F' q) → (∀ q, nh ≤ q → q < nv → F2 q = F q) → F2 nv = .inl (.long x) → hd_W Ls xs d M Q (pc + 3, sy_dL F2 L, sy_dS F2 (.inr (.inr nv) :: rest), sy_dh F2 X1 X2 (iv_H s1), 0, 0)) :
    hd_W Ls xs d M Q (pc, sy_dL F L, sy_dS F S, sy_dh F X1 X2 (iv_H s), 0, 0) := by
  refine hd_call hM hi hcf hT hd (fun v G1 hv => ?_)
  obtain ⟨x, F', rfl, rfl, hR⟩ := hv
  simp only [hd_sc, Bool.and_eq_true] at hsc
  obtain ⟨⟨⟨⟨⟨⟨g1, g2⟩, l1⟩, l2⟩, r1⟩, r2⟩, hn⟩ := hsc
  have hn := Nat.le_of_ble_eq_true hn
  obtain ⟨F2, hF2⟩ : ∃ F2 : Nat → sy_d, F2 = fun q => if q < nh then F' q else if q < nv then F q else .inl (.long x) := ⟨_, rfl⟩
  have p1 : ∀ q, q < nh → F2 q = F' q := fun q hq => by rw [hF2]; exact if_pos hq
  have p2 : ∀ q, nh ≤ q → q < nv → F2 q = F q := fun q hq hq2 => by
    rw [hF2]
    dsimp only
    rw [if_neg (by omega), if_pos hq2]
  have p3 : F2 nv = .inl (.long x) := by
    rw [hF2]
    dsimp only
    rw [if_neg (by omega), if_neg (by omega)]
  have hk := k F2 F' x hR p1 p2 p3
  have e1 : sy_dh F2 X1 X2 (iv_H s1) = sy_dh F' X1 X2 (iv_H s1) := by simp only [sy_dh, sy_gw_ok g1 p1, sy_gw_ok g2 p1]
  have e2 : sy_dS F2 (.inr (.inr nv) :: rest) = (some (Value.long x)).toList ++ sy_dS F rest := by
    show Value.long (sy_l F2 nv) :: rest.map (sy_dv F2) = _
    rw [hd_mrgS r1 r2 p2, zz_l p3]
    rfl
  rw [hd_mrgL l1 l2 p2, e1, e2] at hk
  exact hk
end HJ
theorem eL {F F1 : Nat → sy_d} {k : Nat} (h : F1 k = F k) : sy_l F1 k = sy_l F k := by unfold sy_l; rw [h]
/-- out of 100 ^ n hundredths -/
noncomputable def dv64 (x : Int64) : Nat → Int64
  | 0 => x
  | 1 => x / 100
  | 2 => x / 10000
  | _ => x / 1000000
/-! ===== the odds ===== -/
noncomputable def lt64 (T : tX) (g : gS) (f : Nat) (p : Int32) : Nat → Int64
  | 0 => 1
  | n + 1 => lt64 T g f p n * ((100 : Int32) - Int32.ofInt (olC T g f p n)).toInt64
/-- that it falls in hour n from now, in 100 ^ (n + 1) -/
noncomputable def od64 (T : tX) (g : gS) (f : Nat) (p : Int32) (n : Nat) : Int64 := lt64 T g f p n * (Int32.ofInt (olC T g f p n)).toInt64
section OD0
variable {Ls : Nat} {xs : Nat → Int32} {T : tX} {g : gS} (F : Nat → sy_d) (X1 X2 : List jm_c)
end OD0
section OD1
variable {Ls : Nat} {xs : Nat → Int32} {T : tX} {g : gS} (F : Nat → sy_d) (X1 X2 : List jm_c)
end OD1
section OD2
variable {Ls : Nat} {xs : Nat → Int32} {T : tX} {g : gS} (F : Nat → sy_d) (X1 X2 : List jm_c)
end OD2
section OD3
variable {Ls : Nat} {xs : Nat → Int32} {T : tX} {g : gS} (F : Nat → sy_d) (X1 X2 : List jm_c)
end OD3
section ODR
variable {Ls : Nat} {xs : Nat → Int32} {T : tX} {g : gS} (F : Nat → sy_d) (X1 X2 : List jm_c)
end ODR
end
section
/-! ===== hangsOn, way by way ===== -/
theorem j0gd_0_p0 {Ls : Nat} {xs : Nat → Int32} {d : Nat} {Q : Option Value → jm_h → Prop} (hd : 1 ≤ d) (F : Nat → sy_d) (X1 X2 : List jm_c) (hB : iv_in F iv_B0)
    (k : ∀ F1 : Nat → sy_d, (∀ j, j < 82 → True → F1 j = F j) → F1 82 = .inl (.int (sy_i F 82)) → F1 83 = .inl (.int (sy_i F 83)) → F1 84 = .inl (.int ((0 : Int32))) → hd_W Ls xs d jm_M131 Q (7, sy_dL F1 [none, none, some (.inr (.inl 82)), some (.inr (.inl 83)), some (.inr (.inl 84)), none], sy_dS F1 [], sy_dh F1 X1 X2 (iv_H 0), 0, 0)) :
    hd_W Ls xs d jm_M131 Q (0, sy_dL F [some (.inr (.inl 82)), some (.inr (.inl 83)), none, none, none, none], sy_dS F [], sy_dh F X1 X2 (iv_H 0), 0, 0) := by
  refine hd_run (s := 0) (nv := 84) (pc := 7) (L := [none, none, some (.inr (.inl 82)), some (.inr (.inl 83)), some (.inr (.inl 84)), none]) (S := []) (uh := hd_ov (iv_id 0 iv_B0) []) (ul := [.inl (.inr (.inl 82)), .inl (.inr (.inl 83)), .inl (.inl (.int 0))]) (f := true) (sp := [7]) (d0 := 0) (O := []) (T := []) (P := []) jm_ok131 (by decide +kernel) (by decide +kernel) hd F X1 X2 (fun F' hF hs => ?_)
  have b82 := hd_b (F := F) (F' := F') (k := 82) (hF 82 (by decide))
  have b83 := hd_b (F := F) (F' := F') (k := 83) (hF 83 (by decide))
  have hB' : iv_in F' iv_B0 := iv_in_eq hB (fun j hj => hF j (Nat.lt_of_lt_of_le hj (by decide +kernel)))
  refine ⟨fun _ h => absurd h List.not_mem_nil, ?_⟩
  refine k _ ?_ ?_ ?_ ?_
  · exact fun j hj _ => (hd_keep hB' (Nat.lt_of_lt_of_le hj (by decide +kernel)) (by simp)).trans (hF j (Nat.lt_of_lt_of_le hj (by decide)))
  · exact hd_gi (x := .inr (.inl 82)) (by decide +kernel) b82
  · exact hd_gi (x := .inr (.inl 83)) (by decide +kernel) b83
  · exact hd_gi (x := .inl (.int 0)) (by decide +kernel) rfl
theorem j0gd_0 {Ls : Nat} {xs : Nat → Int32} {d : Nat} {Q : Option Value → jm_h → Prop} (hd : 1 ≤ d) (F : Nat → sy_d) (X1 X2 : List jm_c) (hB : iv_in F iv_B0)
    (a82 : 0 ≤ (sy_i F 82).toInt ∧ (sy_i F 82).toInt ≤ 100000000)
    (a83 : 0 ≤ (sy_i F 83).toInt ∧ (sy_i F 83).toInt ≤ 100000000)
    (k0 : ∀ F1 : Nat → sy_d, iv_in F1 iv_B0 → (∀ j, j < 82 → j ∉ ([] : List Nat) → F1 j = F j) → (sy_i F1 82).toInt = (sy_i F 82).toInt → sy_i F1 82 = sy_i F 82 → (sy_i F1 83).toInt = (sy_i F 83).toInt → sy_i F1 83 = sy_i F 83 → (sy_i F1 84).toInt = 0 → sy_i F1 84 = (0 : Int32) → hd_W Ls xs d jm_M131 Q (7, sy_dL F1 [none, none, some (.inr (.inl 82)), some (.inr (.inl 83)), some (.inr (.inl 84)), none], sy_dS F1 [], sy_dh F1 X1 X2 (iv_H 0), 0, 0)) :
    hd_W Ls xs d jm_M131 Q (0, sy_dL F [some (.inr (.inl 82)), some (.inr (.inl 83)), none, none, none, none], sy_dS F [], sy_dh F X1 X2 (iv_H 0), 0, 0) := by
  exact j0gd_0_p0 hd F X1 X2 hB  (fun F1 g e82 e83 e84 => k0 F1 (nz_in0 hB [] (fun j hj hn => g j hj (by simp only [List.mem_cons, List.not_mem_nil, or_false, not_or] at hn; exact trivial)) (List.forall_mem_nil _)) (fun j hj hn => g j hj (by simp only [List.mem_cons, List.not_mem_nil, or_false, not_or] at hn; exact trivial)) ((congrArg Int32.toInt (zz_i e82)).trans (rfl : (sy_i F 82).toInt = (sy_i F 82).toInt)) ((zz_i e82).trans (rfl : sy_i F 82 = sy_i F 82)) ((congrArg Int32.toInt (zz_i e83)).trans (rfl : (sy_i F 83).toInt = (sy_i F 83).toInt)) ((zz_i e83).trans (rfl : sy_i F 83 = sy_i F 83)) ((congrArg Int32.toInt (zz_i e84)).trans (by decide : ((0 : Int32)).toInt = 0)) ((zz_i e84).trans (rfl : (0 : Int32) = (0 : Int32))))
theorem j0gd_7_p0 {Ls : Nat} {xs : Nat → Int32} {d : Nat} {Q : Option Value → jm_h → Prop} (hd : 1 ≤ d) (F : Nat → sy_d) (X1 X2 : List jm_c) (hB : iv_in F iv_B0)
    (h0 : 64 ≤ (sy_i F 84).toInt)
    (k : ∀ F1 : Nat → sy_d, (∀ j, j < 82 → True → F1 j = F j) → Q (some (.int (sy_i F 82))) (sy_dh F1 X1 X2 (iv_H 0))) :
    hd_W Ls xs d jm_M131 Q (7, sy_dL F [none, none, some (.inr (.inl 82)), some (.inr (.inl 83)), some (.inr (.inl 84)), none], sy_dS F [], sy_dh F X1 X2 (iv_H 0), 0, 0) := by
  refine hd_ret (s := 0) (nv := 85) (v := some (.inr (.inl 82))) (uh := hd_ov (iv_id 0 iv_B0) []) (f := true) (sp := [7]) (d0 := 0) (O := [true]) (T := []) (P := [(4, .inl (.int 64), .inr (.inl 84))]) jm_ok131 (by decide +kernel) (by decide +kernel) hd F X1 X2 (fun F' hF hs => ?_)
  have b84 := hd_b (F := F) (F' := F') (k := 84) (hF 84 (by decide))
  have b82 := hd_b (F := F) (F' := F') (k := 82) (hF 82 (by decide))
  have hB' : iv_in F' iv_B0 := iv_in_eq hB (fun j hj => hF j (Nat.lt_of_lt_of_le hj (by decide +kernel)))
  have hk := k (sy_cm F' (hd_ov (iv_id 0 iv_B0) [] ++ [])) (fun j hj _ => (hd_keep hB' (Nat.lt_of_lt_of_le hj (by decide +kernel)) (by simp)).trans (hF j (Nat.lt_of_lt_of_le hj (by decide))))
  refine ⟨List.forall_mem_cons.mpr ⟨hd_p4 rfl b84 (by have hc : ((64) : Int32).toInt = 64 := (by decide); omega), fun _ h => absurd h List.not_mem_nil⟩, ?_⟩
  show Q (some (sy_dv F' (.inr (.inl 82)))) _
  rw [b82]
  exact hk
theorem j0gd_7_p1 {Ls : Nat} {xs : Nat → Int32} {d : Nat} {Q : Option Value → jm_h → Prop} (hd : 1 ≤ d) (F : Nat → sy_d) (X1 X2 : List jm_c) (hB : iv_in F iv_B0)
    (h0 : (sy_i F 84).toInt < 64)
    (h1 : (sy_i F 83).toInt = 0)
    (k : ∀ F1 : Nat → sy_d, (∀ j, j < 82 → True → F1 j = F j) → Q (some (.int (sy_i F 82))) (sy_dh F1 X1 X2 (iv_H 0))) :
    hd_W Ls xs d jm_M131 Q (7, sy_dL F [none, none, some (.inr (.inl 82)), some (.inr (.inl 83)), some (.inr (.inl 84)), none], sy_dS F [], sy_dh F X1 X2 (iv_H 0), 0, 0) := by
  refine hd_ret (s := 0) (nv := 85) (v := some (.inr (.inl 82))) (uh := hd_ov (iv_id 0 iv_B0) []) (f := true) (sp := [7]) (d0 := 0) (O := [false, true]) (T := []) (P := [(5, .inl (.int 64), .inr (.inl 84)), (0, .inr (.inl 83), .inl (.int 0))]) jm_ok131 (by decide +kernel) (by decide +kernel) hd F X1 X2 (fun F' hF hs => ?_)
  have b84 := hd_b (F := F) (F' := F') (k := 84) (hF 84 (by decide))
  have b83 := hd_b (F := F) (F' := F') (k := 83) (hF 83 (by decide))
  have b82 := hd_b (F := F) (F' := F') (k := 82) (hF 82 (by decide))
  have hB' : iv_in F' iv_B0 := iv_in_eq hB (fun j hj => hF j (Nat.lt_of_lt_of_le hj (by decide +kernel)))
  have hk := k (sy_cm F' (hd_ov (iv_id 0 iv_B0) [] ++ [])) (fun j hj _ => (hd_keep hB' (Nat.lt_of_lt_of_le hj (by decide +kernel)) (by simp)).trans (hF j (Nat.lt_of_lt_of_le hj (by decide))))
  refine ⟨List.forall_mem_cons.mpr ⟨hd_p5 rfl b84 (by have hc : ((64) : Int32).toInt = 64 := (by decide); omega), List.forall_mem_cons.mpr ⟨hd_p0 b83 rfl (by have hc : ((0) : Int32).toInt = 0 := (by decide); omega), fun _ h => absurd h List.not_mem_nil⟩⟩, ?_⟩
  show Q (some (sy_dv F' (.inr (.inl 82)))) _
  rw [b82]
  exact hk
theorem j0gd_7_p2 {Ls : Nat} {xs : Nat → Int32} {d : Nat} {Q : Option Value → jm_h → Prop} (hd : 1 ≤ d) (F : Nat → sy_d) (X1 X2 : List jm_c) (hB : iv_in F iv_B0)
    (h0 : (sy_i F 84).toInt < 64)
    (h1 : (sy_i F 83).toInt ≠ 0)
    (h2 : (sy_i F 83).toInt ≠ 0)
    (k : ∀ F1 : Nat → sy_d, (∀ j, j < 82 → True → F1 j = F j) → F1 82 = .inl (.int (sy_i F 83)) → F1 83 = .inl (.int ((sy_i F 82) - (sy_i F 82) / (sy_i F 83) * (sy_i F 83))) → F1 84 = .inl (.int ((sy_i F 84) + ((1 : Int32)))) → hd_W Ls xs d jm_M131 Q (7, sy_dL F1 [none, none, some (.inr (.inl 82)), some (.inr (.inl 83)), some (.inr (.inl 84)), none], sy_dS F1 [], sy_dh F1 X1 X2 (iv_H 0), 0, 0)) :
    hd_W Ls xs d jm_M131 Q (7, sy_dL F [none, none, some (.inr (.inl 82)), some (.inr (.inl 83)), some (.inr (.inl 84)), none], sy_dS F [], sy_dh F X1 X2 (iv_H 0), 0, 0) := by
  refine hd_run (s := 0) (nv := 85) (pc := 7) (L := [none, none, some (.inr (.inl 82)), some (.inr (.inl 83)), some (.inr (.inl 84)), none]) (S := []) (uh := hd_ov (iv_id 0 iv_B0) []) (ul := [.inl (.inr (.inl 83)), .inl (.inr (.inl 85)), .inl (.inr (.inl 86))]) (f := true) (sp := [7]) (d0 := 0) (O := [false, false]) (T := [(10, [.inr (.inl 82), .inr (.inl 83)], []), (0, [.inr (.inl 84), .inl (.int 1)], [])]) (P := [(5, .inl (.int 64), .inr (.inl 84)), (1, .inr (.inl 83), .inl (.int 0)), (1, .inr (.inl 83), .inl (.int 0))]) jm_ok131 (by decide +kernel) (by decide +kernel) hd F X1 X2 (fun F' hF hs => ?_)
  have b84 := hd_b (F := F) (F' := F') (k := 84) (hF 84 (by decide))
  have b83 := hd_b (F := F) (F' := F') (k := 83) (hF 83 (by decide))
  have b82 := hd_b (F := F) (F' := F') (k := 82) (hF 82 (by decide))
  have t85 : sy_dv F' (.inr (.inl 85)) = .int ((sy_i F 82) - (sy_i F 82) / (sy_i F 83) * (sy_i F 83)) := hd_o (hs 0 _ rfl) b82 b83 rfl
  have t86 : sy_dv F' (.inr (.inl 86)) = .int ((sy_i F 84) + ((1 : Int32))) := hd_o (hs 1 _ rfl) b84 rfl rfl
  have hB' : iv_in F' iv_B0 := iv_in_eq hB (fun j hj => hF j (Nat.lt_of_lt_of_le hj (by decide +kernel)))
  refine ⟨List.forall_mem_cons.mpr ⟨hd_p5 rfl b84 (by have hc : ((64) : Int32).toInt = 64 := (by decide); omega), List.forall_mem_cons.mpr ⟨hd_p1 b83 rfl (by have hc : ((0) : Int32).toInt = 0 := (by decide); omega), List.forall_mem_cons.mpr ⟨hd_p1 b83 rfl (by have hc : ((0) : Int32).toInt = 0 := (by decide); omega), fun _ h => absurd h List.not_mem_nil⟩⟩⟩, ?_⟩
  refine k _ ?_ ?_ ?_ ?_
  · exact fun j hj _ => (hd_keep hB' (Nat.lt_of_lt_of_le hj (by decide +kernel)) (by simp)).trans (hF j (Nat.lt_of_lt_of_le hj (by decide)))
  · exact hd_gi (x := .inr (.inl 83)) (by decide +kernel) b83
  · exact hd_gi (x := .inr (.inl 85)) (by decide +kernel) t85
  · exact hd_gi (x := .inr (.inl 86)) (by decide +kernel) t86
theorem j0gd_7 {Ls : Nat} {xs : Nat → Int32} {d : Nat} {Q : Option Value → jm_h → Prop} (hd : 1 ≤ d) (F : Nat → sy_d) (X1 X2 : List jm_c) (hB : iv_in F iv_B0)
    (a82 : 0 ≤ (sy_i F 82).toInt ∧ (sy_i F 82).toInt ≤ 100000000)
    (a83 : 0 ≤ (sy_i F 83).toInt ∧ (sy_i F 83).toInt ≤ 100000000)
    (a84 : 0 ≤ (sy_i F 84).toInt ∧ (sy_i F 84).toInt ≤ 64)
    (k0 : 64 ≤ (sy_i F 84).toInt → ∀ F1 : Nat → sy_d, iv_in F1 iv_B0 → (∀ j, j < 82 → j ∉ ([] : List Nat) → F1 j = F j) → Q (some (.int (sy_i F 82))) (sy_dh F1 X1 X2 (iv_H 0)))
    (k1 : (sy_i F 84).toInt < 64 → (sy_i F 83).toInt = 0 → ∀ F1 : Nat → sy_d, iv_in F1 iv_B0 → (∀ j, j < 82 → j ∉ ([] : List Nat) → F1 j = F j) → Q (some (.int (sy_i F 82))) (sy_dh F1 X1 X2 (iv_H 0)))
    (k2 : (sy_i F 84).toInt < 64 → (sy_i F 83).toInt ≠ 0 → ∀ F1 : Nat → sy_d, iv_in F1 iv_B0 → (∀ j, j < 82 → j ∉ ([] : List Nat) → F1 j = F j) → (sy_i F1 82).toInt = (sy_i F 83).toInt → sy_i F1 82 = sy_i F 83 → (sy_i F1 83).toInt = ((sy_i F 82) - (sy_i F 82) / (sy_i F 83) * (sy_i F 83)).toInt → sy_i F1 83 = (sy_i F 82) - (sy_i F 82) / (sy_i F 83) * (sy_i F 83) → (sy_i F1 84).toInt = ((sy_i F 84).toInt + 1) → sy_i F1 84 = (sy_i F 84) + ((1 : Int32)) → hd_W Ls xs d jm_M131 Q (7, sy_dL F1 [none, none, some (.inr (.inl 82)), some (.inr (.inl 83)), some (.inr (.inl 84)), none], sy_dS F1 [], sy_dh F1 X1 X2 (iv_H 0), 0, 0)) :
    hd_W Ls xs d jm_M131 Q (7, sy_dL F [none, none, some (.inr (.inl 82)), some (.inr (.inl 83)), some (.inr (.inl 84)), none], sy_dS F [], sy_dh F X1 X2 (iv_H 0), 0, 0) := by
  by_cases g0 : 64 ≤ (sy_i F 84).toInt
  · exact j0gd_7_p0 hd F X1 X2 hB (by first | exact g0 | (simp only [nz_c]; exact g0)) (fun F1 g  => by rw [(rfl : sy_i F 82 = sy_i F 82)]; exact k0 g0 F1 (nz_in0 hB [] (fun j hj hn => g j hj (by simp only [List.mem_cons, List.not_mem_nil, or_false, not_or] at hn; exact trivial)) (List.forall_mem_nil _)) (fun j hj hn => g j hj (by simp only [List.mem_cons, List.not_mem_nil, or_false, not_or] at hn; exact trivial)) )
  replace g0 : (sy_i F 84).toInt < 64 := by omega
  by_cases g1 : (sy_i F 83).toInt = 0
  · exact j0gd_7_p1 hd F X1 X2 hB (by first | exact g0 | (simp only [nz_c]; exact g0)) (by first | exact g1 | (simp only [nz_c]; exact g1)) (fun F1 g  => by rw [(rfl : sy_i F 82 = sy_i F 82)]; exact k1 g0 g1 F1 (nz_in0 hB [] (fun j hj hn => g j hj (by simp only [List.mem_cons, List.not_mem_nil, or_false, not_or] at hn; exact trivial)) (List.forall_mem_nil _)) (fun j hj hn => g j hj (by simp only [List.mem_cons, List.not_mem_nil, or_false, not_or] at hn; exact trivial)) )
  replace g1 : (sy_i F 83).toInt ≠ 0 := by omega
  have n85 : nzI ((sy_i F 82) - (sy_i F 82) / (sy_i F 83) * (sy_i F 83)) (((sy_i F 82) - (sy_i F 82) / (sy_i F 83) * (sy_i F 83)).toInt) := congrArg Int32.toInt (rfl : (sy_i F 82) - (sy_i F 82) / (sy_i F 83) * (sy_i F 83) = (sy_i F 82) - (sy_i F 82) / (sy_i F 83) * (sy_i F 83))
  have n86 : nzI ((sy_i F 84) + ((1 : Int32))) (((sy_i F 84).toInt + 1)) := nz_add (rfl : (sy_i F 84).toInt = (sy_i F 84).toInt) (by decide : ((1 : Int32)).toInt = 1) (by omega) (by omega)
  exact j0gd_7_p2 hd F X1 X2 hB (by first | exact g0 | (simp only [nz_c]; exact g0)) (by first | exact g1 | (simp only [nz_c]; exact g1)) (by first | exact g1 | (simp only [nz_c]; exact g1)) (fun F1 g e82 e83 e84 => k2 g0 g1 F1 (nz_in0 hB [] (fun j hj hn => g j hj (by simp only [List.mem_cons, List.not_mem_nil, or_false, not_or] at hn; exact trivial)) (List.forall_mem_nil _)) (fun j hj hn => g j hj (by simp only [List.mem_cons, List.not_mem_nil, or_false, not_or] at hn; exact trivial)) ((congrArg Int32.toInt (zz_i e82)).trans (rfl : (sy_i F 83).toInt = (sy_i F 83).toInt)) ((zz_i e82).trans (rfl : sy_i F 83 = sy_i F 83)) ((congrArg Int32.toInt (zz_i e83)).trans (nzE n85)) ((zz_i e83).trans (rfl : (sy_i F 82) - (sy_i F 82) / (sy_i F 83) * (sy_i F 83) = (sy_i F 82) - (sy_i F 82) / (sy_i F 83) * (sy_i F 83))) ((congrArg Int32.toInt (zz_i e84)).trans (nzE n86)) ((zz_i e84).trans (rfl : (sy_i F 84) + ((1 : Int32)) = (sy_i F 84) + ((1 : Int32)))))
theorem j0hg_0_p0 {Ls : Nat} {xs : Nat → Int32} {d : Nat} {Q : Option Value → jm_h → Prop} (hd : 2 ≤ d) (F : Nat → sy_d) (X1 X2 : List jm_c) (hB : iv_in F iv_B0)
    (h0 : (sy_i F 82).toInt < 0)
    (k : ∀ F1 : Nat → sy_d, (∀ j, j < 82 → True → F1 j = F j) → Q (some (.int (((-1) : Int32)))) (sy_dh F1 X1 X2 (iv_H 0))) :
    hd_W Ls xs d jm_M93 Q (0, sy_dL F [some (.inl (.ref 8)), some (.inr (.inl 82)), some (.inr (.inl 83)), some (.inr (.inl 84)), none, none, none], sy_dS F [], sy_dh F X1 X2 (iv_H 0), 0, 0) := by
  refine hd_ret (s := 0) (nv := 85) (v := some (.inl (.int (-1)))) (uh := hd_ov (iv_id 0 iv_B0) []) (f := true) (sp := [57]) (d0 := 1) (O := [true]) (T := []) (P := [(2, .inr (.inl 82), .inl (.int 0))]) jm_ok93 (by decide +kernel) (by decide +kernel) hd F X1 X2 (fun F' hF hs => ?_)
  have b82 := hd_b (F := F) (F' := F') (k := 82) (hF 82 (by decide))
  have hB' : iv_in F' iv_B0 := iv_in_eq hB (fun j hj => hF j (Nat.lt_of_lt_of_le hj (by decide +kernel)))
  refine ⟨List.forall_mem_cons.mpr ⟨hd_p2 b82 rfl (by have hc : ((0) : Int32).toInt = 0 := (by decide); omega), fun _ h => absurd h List.not_mem_nil⟩, ?_⟩
  refine k _ ?_
  · exact fun j hj _ => (hd_keep hB' (Nat.lt_of_lt_of_le hj (by decide +kernel)) (by simp)).trans (hF j (Nat.lt_of_lt_of_le hj (by decide)))
theorem j0hg_0_p1 {Ls : Nat} {xs : Nat → Int32} {d : Nat} {Q : Option Value → jm_h → Prop} (hd : 2 ≤ d) (F : Nat → sy_d) (X1 X2 : List jm_c) (hB : iv_in F iv_B0)
    (h0 : 0 ≤ (sy_i F 82).toInt)
    (h1 : (sy_i F 3).toInt ≤ (sy_i F 82).toInt)
    (k : ∀ F1 : Nat → sy_d, (∀ j, j < 82 → True → F1 j = F j) → Q (some (.int (((-1) : Int32)))) (sy_dh F1 X1 X2 (iv_H 0))) :
    hd_W Ls xs d jm_M93 Q (0, sy_dL F [some (.inl (.ref 8)), some (.inr (.inl 82)), some (.inr (.inl 83)), some (.inr (.inl 84)), none, none, none], sy_dS F [], sy_dh F X1 X2 (iv_H 0), 0, 0) := by
  refine hd_ret (s := 0) (nv := 85) (v := some (.inl (.int (-1)))) (uh := hd_ov (iv_id 0 iv_B0) []) (f := true) (sp := [57]) (d0 := 1) (O := [false, true]) (T := []) (P := [(3, .inr (.inl 82), .inl (.int 0)), (4, .inr (.inl 3), .inr (.inl 82))]) jm_ok93 (by decide +kernel) (by decide +kernel) hd F X1 X2 (fun F' hF hs => ?_)
  have b82 := hd_b (F := F) (F' := F') (k := 82) (hF 82 (by decide))
  have b3 := hd_b (F := F) (F' := F') (k := 3) (hF 3 (by decide))
  have hB' : iv_in F' iv_B0 := iv_in_eq hB (fun j hj => hF j (Nat.lt_of_lt_of_le hj (by decide +kernel)))
  refine ⟨List.forall_mem_cons.mpr ⟨hd_p3 b82 rfl (by have hc : ((0) : Int32).toInt = 0 := (by decide); omega), List.forall_mem_cons.mpr ⟨hd_p4 b3 b82 h1, fun _ h => absurd h List.not_mem_nil⟩⟩, ?_⟩
  refine k _ ?_
  · exact fun j hj _ => (hd_keep hB' (Nat.lt_of_lt_of_le hj (by decide +kernel)) (by simp)).trans (hF j (Nat.lt_of_lt_of_le hj (by decide)))
theorem j0hg_0_p2 {Ls : Nat} {xs : Nat → Int32} {d : Nat} {Q : Option Value → jm_h → Prop} (hd : 2 ≤ d) (F : Nat → sy_d) (X1 X2 : List jm_c) (hB : iv_in F iv_B0)
    (h0 : 0 ≤ (sy_i F 82).toInt)
    (h1 : (sy_i F 82).toInt < (sy_i F 3).toInt)
    (h2 : (sy_i F 83).toInt < 1)
    (k : ∀ F1 : Nat → sy_d, (∀ j, j < 82 → True → F1 j = F j) → Q (some (.int (((-1) : Int32)))) (sy_dh F1 X1 X2 (iv_H 0))) :
    hd_W Ls xs d jm_M93 Q (0, sy_dL F [some (.inl (.ref 8)), some (.inr (.inl 82)), some (.inr (.inl 83)), some (.inr (.inl 84)), none, none, none], sy_dS F [], sy_dh F X1 X2 (iv_H 0), 0, 0) := by
  refine hd_ret (s := 0) (nv := 85) (v := some (.inl (.int (-1)))) (uh := hd_ov (iv_id 0 iv_B0) []) (f := true) (sp := [57]) (d0 := 1) (O := [false, false, true]) (T := []) (P := [(3, .inr (.inl 82), .inl (.int 0)), (5, .inr (.inl 3), .inr (.inl 82)), (2, .inr (.inl 83), .inl (.int 1))]) jm_ok93 (by decide +kernel) (by decide +kernel) hd F X1 X2 (fun F' hF hs => ?_)
  have b82 := hd_b (F := F) (F' := F') (k := 82) (hF 82 (by decide))
  have b3 := hd_b (F := F) (F' := F') (k := 3) (hF 3 (by decide))
  have b83 := hd_b (F := F) (F' := F') (k := 83) (hF 83 (by decide))
  have hB' : iv_in F' iv_B0 := iv_in_eq hB (fun j hj => hF j (Nat.lt_of_lt_of_le hj (by decide +kernel)))
  refine ⟨List.forall_mem_cons.mpr ⟨hd_p3 b82 rfl (by have hc : ((0) : Int32).toInt = 0 := (by decide); omega), List.forall_mem_cons.mpr ⟨hd_p5 b3 b82 h1, List.forall_mem_cons.mpr ⟨hd_p2 b83 rfl (by have hc : ((1) : Int32).toInt = 1 := (by decide); omega), fun _ h => absurd h List.not_mem_nil⟩⟩⟩, ?_⟩
  refine k _ ?_
  · exact fun j hj _ => (hd_keep hB' (Nat.lt_of_lt_of_le hj (by decide +kernel)) (by simp)).trans (hF j (Nat.lt_of_lt_of_le hj (by decide)))
theorem j0hg_0_p3 {Ls : Nat} {xs : Nat → Int32} {d : Nat} {Q : Option Value → jm_h → Prop} (hd : 2 ≤ d) (F : Nat → sy_d) (X1 X2 : List jm_c) (hB : iv_in F iv_B0)
    (h0 : 0 ≤ (sy_i F 82).toInt)
    (h1 : (sy_i F 82).toInt < (sy_i F 3).toInt)
    (h2 : 1 ≤ (sy_i F 83).toInt)
    (h3 : 4 < (sy_i F 83).toInt)
    (k : ∀ F1 : Nat → sy_d, (∀ j, j < 82 → True → F1 j = F j) → Q (some (.int (((-1) : Int32)))) (sy_dh F1 X1 X2 (iv_H 0))) :
    hd_W Ls xs d jm_M93 Q (0, sy_dL F [some (.inl (.ref 8)), some (.inr (.inl 82)), some (.inr (.inl 83)), some (.inr (.inl 84)), none, none, none], sy_dS F [], sy_dh F X1 X2 (iv_H 0), 0, 0) := by
  refine hd_ret (s := 0) (nv := 85) (v := some (.inl (.int (-1)))) (uh := hd_ov (iv_id 0 iv_B0) []) (f := true) (sp := [57]) (d0 := 1) (O := [false, false, false, true]) (T := []) (P := [(3, .inr (.inl 82), .inl (.int 0)), (5, .inr (.inl 3), .inr (.inl 82)), (3, .inr (.inl 83), .inl (.int 1)), (2, .inl (.int 4), .inr (.inl 83))]) jm_ok93 (by decide +kernel) (by decide +kernel) hd F X1 X2 (fun F' hF hs => ?_)
  have b82 := hd_b (F := F) (F' := F') (k := 82) (hF 82 (by decide))
  have b3 := hd_b (F := F) (F' := F') (k := 3) (hF 3 (by decide))
  have b83 := hd_b (F := F) (F' := F') (k := 83) (hF 83 (by decide))
  have hB' : iv_in F' iv_B0 := iv_in_eq hB (fun j hj => hF j (Nat.lt_of_lt_of_le hj (by decide +kernel)))
  refine ⟨List.forall_mem_cons.mpr ⟨hd_p3 b82 rfl (by have hc : ((0) : Int32).toInt = 0 := (by decide); omega), List.forall_mem_cons.mpr ⟨hd_p5 b3 b82 h1, List.forall_mem_cons.mpr ⟨hd_p3 b83 rfl (by have hc : ((1) : Int32).toInt = 1 := (by decide); omega), List.forall_mem_cons.mpr ⟨hd_p2 rfl b83 (by have hc : ((4) : Int32).toInt = 4 := (by decide); omega), fun _ h => absurd h List.not_mem_nil⟩⟩⟩⟩, ?_⟩
  refine k _ ?_
  · exact fun j hj _ => (hd_keep hB' (Nat.lt_of_lt_of_le hj (by decide +kernel)) (by simp)).trans (hF j (Nat.lt_of_lt_of_le hj (by decide)))
theorem j0hg_0_p4 {Ls : Nat} {xs : Nat → Int32} {d : Nat} {Q : Option Value → jm_h → Prop} (hd : 2 ≤ d) (F : Nat → sy_d) (X1 X2 : List jm_c) (hB : iv_in F iv_B0)
    (h0 : 0 ≤ (sy_i F 82).toInt)
    (h1 : (sy_i F 82).toInt < (sy_i F 3).toInt)
    (h2 : 1 ≤ (sy_i F 83).toInt)
    (h3 : (sy_i F 83).toInt ≤ 4)
    (h4 : 0 ≤ (sy_i F 82).toInt ∧ (sy_i F 82).toInt < 7)
    (h5 : ((sy_ai F 54).getD (sy_i F 82).toNatClampNeg 0).toInt = 0)
    (h6 : 0 ≤ (sy_i F 82).toInt ∧ (sy_i F 82).toInt < 7)
    (k : ∀ F1 : Nat → sy_d, (∀ j, j < 82 → True → F1 j = F j) → F1 82 = .inl (.int (sy_i F 82)) → F1 83 = .inl (.int (sy_i F 83)) → F1 84 = .inl (.int (sy_i F 84)) → F1 85 = .inl (.int (sy_i F 82)) → F1 86 = .inl (.int (sy_i F 83)) → F1 87 = .inl (.int ((sy_ai F 57).getD (sy_i F 82).toNatClampNeg 0)) → hd_W Ls xs d jm_M93 Q (57, sy_dL F1 [some (.inl (.ref 8)), some (.inr (.inl 82)), some (.inr (.inl 83)), some (.inr (.inl 84)), none, none, none], sy_dS F1 [.inr (.inl 87), .inr (.inl 86), .inr (.inl 85), .inl (.ref 46), .inl (.ref 10), .inl (.ref 42)], sy_dh F1 X1 X2 (iv_H 0), 0, 0)) :
    hd_W Ls xs d jm_M93 Q (0, sy_dL F [some (.inl (.ref 8)), some (.inr (.inl 82)), some (.inr (.inl 83)), some (.inr (.inl 84)), none, none, none], sy_dS F [], sy_dh F X1 X2 (iv_H 0), 0, 0) := by
  refine hd_run (s := 0) (nv := 85) (pc := 57) (L := [some (.inl (.ref 8)), some (.inr (.inl 82)), some (.inr (.inl 83)), some (.inr (.inl 84)), none, none, none]) (S := [.inr (.inl 87), .inr (.inl 86), .inr (.inl 85), .inl (.ref 46), .inl (.ref 10), .inl (.ref 42)]) (uh := hd_ov (iv_id 0 iv_B0) []) (ul := [.inl (.inr (.inl 82)), .inl (.inr (.inl 83)), .inl (.inr (.inl 84)), .inl (.inr (.inl 82)), .inl (.inr (.inl 83)), .inl (.inr (.inl 86))]) (f := true) (sp := [57]) (d0 := 1) (O := [false, false, false, false, true]) (T := [(30, [.inr (.inl 82)], [.inr (.inl 54)]), (30, [.inr (.inl 82)], [.inr (.inl 57)])]) (P := [(3, .inr (.inl 82), .inl (.int 0)), (5, .inr (.inl 3), .inr (.inl 82)), (3, .inr (.inl 83), .inl (.int 1)), (3, .inl (.int 4), .inr (.inl 83)), (6, .inr (.inl 82), .inl (.ref 7)), (0, .inr (.inl 85), .inl (.int 0)), (6, .inr (.inl 82), .inl (.ref 7))]) jm_ok93 (by decide +kernel) (by decide +kernel) hd F X1 X2 (fun F' hF hs => ?_)
  have b82 := hd_b (F := F) (F' := F') (k := 82) (hF 82 (by decide))
  have b3 := hd_b (F := F) (F' := F') (k := 3) (hF 3 (by decide))
  have b83 := hd_b (F := F) (F' := F') (k := 83) (hF 83 (by decide))
  have a54 := hd_ba (F := F) (F' := F') (k := 54) (hF 54 (by decide))
  have t85 : sy_dv F' (.inr (.inl 85)) = .int ((sy_ai F 54).getD (sy_i F 82).toNatClampNeg 0) := hd_rd (hs 0 _ rfl) b82 a54
  have b84 := hd_b (F := F) (F' := F') (k := 84) (hF 84 (by decide))
  have a57 := hd_ba (F := F) (F' := F') (k := 57) (hF 57 (by decide))
  have t86 : sy_dv F' (.inr (.inl 86)) = .int ((sy_ai F 57).getD (sy_i F 82).toNatClampNeg 0) := hd_rd (hs 1 _ rfl) b82 a57
  have hB' : iv_in F' iv_B0 := iv_in_eq hB (fun j hj => hF j (Nat.lt_of_lt_of_le hj (by decide +kernel)))
  refine ⟨List.forall_mem_cons.mpr ⟨hd_p3 b82 rfl (by have hc : ((0) : Int32).toInt = 0 := (by decide); omega), List.forall_mem_cons.mpr ⟨hd_p5 b3 b82 h1, List.forall_mem_cons.mpr ⟨hd_p3 b83 rfl (by have hc : ((1) : Int32).toInt = 1 := (by decide); omega), List.forall_mem_cons.mpr ⟨hd_p3 rfl b83 (by have hc : ((4) : Int32).toInt = 4 := (by decide); omega), List.forall_mem_cons.mpr ⟨hd_pb b82 (by first | exact h4 | exact h4), List.forall_mem_cons.mpr ⟨hd_p0 t85 rfl (by have hc : ((0) : Int32).toInt = 0 := (by decide); omega), List.forall_mem_cons.mpr ⟨hd_pb b82 (by first | exact h6 | exact h6), fun _ h => absurd h List.not_mem_nil⟩⟩⟩⟩⟩⟩⟩, ?_⟩
  refine k _ ?_ ?_ ?_ ?_ ?_ ?_ ?_
  · exact fun j hj _ => (hd_keep hB' (Nat.lt_of_lt_of_le hj (by decide +kernel)) (by simp)).trans (hF j (Nat.lt_of_lt_of_le hj (by decide)))
  · exact hd_gi (x := .inr (.inl 82)) (by decide +kernel) b82
  · exact hd_gi (x := .inr (.inl 83)) (by decide +kernel) b83
  · exact hd_gi (x := .inr (.inl 84)) (by decide +kernel) b84
  · exact hd_gi (x := .inr (.inl 82)) (by decide +kernel) b82
  · exact hd_gi (x := .inr (.inl 83)) (by decide +kernel) b83
  · exact hd_gi (x := .inr (.inl 86)) (by decide +kernel) t86
theorem j0hg_0_p5 {Ls : Nat} {xs : Nat → Int32} {d : Nat} {Q : Option Value → jm_h → Prop} (hd : 2 ≤ d) (F : Nat → sy_d) (X1 X2 : List jm_c) (hB : iv_in F iv_B0)
    (h0 : 0 ≤ (sy_i F 82).toInt)
    (h1 : (sy_i F 82).toInt < (sy_i F 3).toInt)
    (h2 : 1 ≤ (sy_i F 83).toInt)
    (h3 : (sy_i F 83).toInt ≤ 4)
    (h4 : 0 ≤ (sy_i F 82).toInt ∧ (sy_i F 82).toInt < 7)
    (h5 : ((sy_ai F 54).getD (sy_i F 82).toNatClampNeg 0).toInt ≠ 0)
    (k : ∀ F1 : Nat → sy_d, (∀ j, j < 82 → True → F1 j = F j) → Q (some (.int (((-2) : Int32)))) (sy_dh F1 X1 X2 (iv_H 0))) :
    hd_W Ls xs d jm_M93 Q (0, sy_dL F [some (.inl (.ref 8)), some (.inr (.inl 82)), some (.inr (.inl 83)), some (.inr (.inl 84)), none, none, none], sy_dS F [], sy_dh F X1 X2 (iv_H 0), 0, 0) := by
  refine hd_ret (s := 0) (nv := 85) (v := some (.inl (.int (-2)))) (uh := hd_ov (iv_id 0 iv_B0) []) (f := true) (sp := [57]) (d0 := 1) (O := [false, false, false, false, false]) (T := [(30, [.inr (.inl 82)], [.inr (.inl 54)])]) (P := [(3, .inr (.inl 82), .inl (.int 0)), (5, .inr (.inl 3), .inr (.inl 82)), (3, .inr (.inl 83), .inl (.int 1)), (3, .inl (.int 4), .inr (.inl 83)), (6, .inr (.inl 82), .inl (.ref 7)), (1, .inr (.inl 85), .inl (.int 0))]) jm_ok93 (by decide +kernel) (by decide +kernel) hd F X1 X2 (fun F' hF hs => ?_)
  have b82 := hd_b (F := F) (F' := F') (k := 82) (hF 82 (by decide))
  have b3 := hd_b (F := F) (F' := F') (k := 3) (hF 3 (by decide))
  have b83 := hd_b (F := F) (F' := F') (k := 83) (hF 83 (by decide))
  have a54 := hd_ba (F := F) (F' := F') (k := 54) (hF 54 (by decide))
  have t85 : sy_dv F' (.inr (.inl 85)) = .int ((sy_ai F 54).getD (sy_i F 82).toNatClampNeg 0) := hd_rd (hs 0 _ rfl) b82 a54
  have hB' : iv_in F' iv_B0 := iv_in_eq hB (fun j hj => hF j (Nat.lt_of_lt_of_le hj (by decide +kernel)))
  refine ⟨List.forall_mem_cons.mpr ⟨hd_p3 b82 rfl (by have hc : ((0) : Int32).toInt = 0 := (by decide); omega), List.forall_mem_cons.mpr ⟨hd_p5 b3 b82 h1, List.forall_mem_cons.mpr ⟨hd_p3 b83 rfl (by have hc : ((1) : Int32).toInt = 1 := (by decide); omega), List.forall_mem_cons.mpr ⟨hd_p3 rfl b83 (by have hc : ((4) : Int32).toInt = 4 := (by decide); omega), List.forall_mem_cons.mpr ⟨hd_pb b82 (by first | exact h4 | exact h4), List.forall_mem_cons.mpr ⟨hd_p1 t85 rfl (by have hc : ((0) : Int32).toInt = 0 := (by decide); omega), fun _ h => absurd h List.not_mem_nil⟩⟩⟩⟩⟩⟩, ?_⟩
  refine k _ ?_
  · exact fun j hj _ => (hd_keep hB' (Nat.lt_of_lt_of_le hj (by decide +kernel)) (by simp)).trans (hF j (Nat.lt_of_lt_of_le hj (by decide)))
theorem j0hg_0 {Ls : Nat} {xs : Nat → Int32} {d : Nat} {Q : Option Value → jm_h → Prop} (hd : 2 ≤ d) (F : Nat → sy_d) (X1 X2 : List jm_c) (hB : iv_in F iv_B0)
    (k0 : (sy_i F 82).toInt < 0 → ∀ F1 : Nat → sy_d, iv_in F1 iv_B0 → (∀ j, j < 82 → j ∉ ([] : List Nat) → F1 j = F j) → Q (some (.int (((-1) : Int32)))) (sy_dh F1 X1 X2 (iv_H 0)))
    (k1 : 0 ≤ (sy_i F 82).toInt → (sy_i F 3).toInt ≤ (sy_i F 82).toInt → ∀ F1 : Nat → sy_d, iv_in F1 iv_B0 → (∀ j, j < 82 → j ∉ ([] : List Nat) → F1 j = F j) → Q (some (.int (((-1) : Int32)))) (sy_dh F1 X1 X2 (iv_H 0)))
    (k2 : 0 ≤ (sy_i F 82).toInt → (sy_i F 82).toInt < (sy_i F 3).toInt → (sy_i F 83).toInt < 1 → ∀ F1 : Nat → sy_d, iv_in F1 iv_B0 → (∀ j, j < 82 → j ∉ ([] : List Nat) → F1 j = F j) → Q (some (.int (((-1) : Int32)))) (sy_dh F1 X1 X2 (iv_H 0)))
    (k3 : 0 ≤ (sy_i F 82).toInt → (sy_i F 82).toInt < (sy_i F 3).toInt → 1 ≤ (sy_i F 83).toInt → 4 < (sy_i F 83).toInt → ∀ F1 : Nat → sy_d, iv_in F1 iv_B0 → (∀ j, j < 82 → j ∉ ([] : List Nat) → F1 j = F j) → Q (some (.int (((-1) : Int32)))) (sy_dh F1 X1 X2 (iv_H 0)))
    (k4 : 0 ≤ (sy_i F 82).toInt → (sy_i F 82).toInt < (sy_i F 3).toInt → 1 ≤ (sy_i F 83).toInt → (sy_i F 83).toInt ≤ 4 → ((sy_ai F 54).getD ((sy_i F 82).toInt).toNat 0).toInt = 0 → ∀ F1 : Nat → sy_d, iv_in F1 iv_B0 → (∀ j, j < 82 → j ∉ ([] : List Nat) → F1 j = F j) → (sy_i F1 82).toInt = (sy_i F 82).toInt → sy_i F1 82 = sy_i F 82 → (sy_i F1 83).toInt = (sy_i F 83).toInt → sy_i F1 83 = sy_i F 83 → (sy_i F1 84).toInt = (sy_i F 84).toInt → sy_i F1 84 = sy_i F 84 → (sy_i F1 85).toInt = (sy_i F 82).toInt → sy_i F1 85 = sy_i F 82 → (sy_i F1 86).toInt = (sy_i F 83).toInt → sy_i F1 86 = sy_i F 83 → (sy_i F1 87).toInt = ((sy_ai F 57).getD ((sy_i F 82).toInt).toNat 0).toInt → sy_i F1 87 = (sy_ai F 57).getD ((sy_i F 82).toInt).toNat 0 → hd_W Ls xs d jm_M93 Q (57, sy_dL F1 [some (.inl (.ref 8)), some (.inr (.inl 82)), some (.inr (.inl 83)), some (.inr (.inl 84)), none, none, none], sy_dS F1 [.inr (.inl 87), .inr (.inl 86), .inr (.inl 85), .inl (.ref 46), .inl (.ref 10), .inl (.ref 42)], sy_dh F1 X1 X2 (iv_H 0), 0, 0))
    (k5 : 0 ≤ (sy_i F 82).toInt → (sy_i F 82).toInt < (sy_i F 3).toInt → 1 ≤ (sy_i F 83).toInt → (sy_i F 83).toInt ≤ 4 → ((sy_ai F 54).getD ((sy_i F 82).toInt).toNat 0).toInt ≠ 0 → ∀ F1 : Nat → sy_d, iv_in F1 iv_B0 → (∀ j, j < 82 → j ∉ ([] : List Nat) → F1 j = F j) → Q (some (.int (((-2) : Int32)))) (sy_dh F1 X1 X2 (iv_H 0))) :
    hd_W Ls xs d jm_M93 Q (0, sy_dL F [some (.inl (.ref 8)), some (.inr (.inl 82)), some (.inr (.inl 83)), some (.inr (.inl 84)), none, none, none], sy_dS F [], sy_dh F X1 X2 (iv_H 0), 0, 0) := by
  by_cases g0 : (sy_i F 82).toInt < 0
  · exact j0hg_0_p0 hd F X1 X2 hB (by first | exact g0 | (simp only [nz_c]; exact g0)) (fun F1 g  => k0 g0 F1 (nz_in0 hB [] (fun j hj hn => g j hj (by simp only [List.mem_cons, List.not_mem_nil, or_false, not_or] at hn; exact trivial)) (List.forall_mem_nil _)) (fun j hj hn => g j hj (by simp only [List.mem_cons, List.not_mem_nil, or_false, not_or] at hn; exact trivial)) )
  replace g0 : 0 ≤ (sy_i F 82).toInt := by omega
  by_cases g1 : (sy_i F 3).toInt ≤ (sy_i F 82).toInt
  · have c3 := nz_bx hB (k := 3) (lo := 0) (hi := 7) rfl
    exact j0hg_0_p1 hd F X1 X2 hB (by first | exact g0 | (simp only [nz_c]; exact g0)) (by first | exact g1 | (simp only [nz_c]; exact g1)) (fun F1 g  => k1 g0 g1 F1 (nz_in0 hB [] (fun j hj hn => g j hj (by simp only [List.mem_cons, List.not_mem_nil, or_false, not_or] at hn; exact trivial)) (List.forall_mem_nil _)) (fun j hj hn => g j hj (by simp only [List.mem_cons, List.not_mem_nil, or_false, not_or] at hn; exact trivial)) )
  replace g1 : (sy_i F 82).toInt < (sy_i F 3).toInt := by omega
  by_cases g2 : (sy_i F 83).toInt < 1
  · have c3 := nz_bx hB (k := 3) (lo := 0) (hi := 7) rfl
    exact j0hg_0_p2 hd F X1 X2 hB (by first | exact g0 | (simp only [nz_c]; exact g0)) (by first | exact g1 | (simp only [nz_c]; exact g1)) (by first | exact g2 | (simp only [nz_c]; exact g2)) (fun F1 g  => k2 g0 g1 g2 F1 (nz_in0 hB [] (fun j hj hn => g j hj (by simp only [List.mem_cons, List.not_mem_nil, or_false, not_or] at hn; exact trivial)) (List.forall_mem_nil _)) (fun j hj hn => g j hj (by simp only [List.mem_cons, List.not_mem_nil, or_false, not_or] at hn; exact trivial)) )
  replace g2 : 1 ≤ (sy_i F 83).toInt := by omega
  by_cases g3 : 4 < (sy_i F 83).toInt
  · have c3 := nz_bx hB (k := 3) (lo := 0) (hi := 7) rfl
    exact j0hg_0_p3 hd F X1 X2 hB (by first | exact g0 | (simp only [nz_c]; exact g0)) (by first | exact g1 | (simp only [nz_c]; exact g1)) (by first | exact g2 | (simp only [nz_c]; exact g2)) (by first | exact g3 | (simp only [nz_c]; exact g3)) (fun F1 g  => k3 g0 g1 g2 g3 F1 (nz_in0 hB [] (fun j hj hn => g j hj (by simp only [List.mem_cons, List.not_mem_nil, or_false, not_or] at hn; exact trivial)) (List.forall_mem_nil _)) (fun j hj hn => g j hj (by simp only [List.mem_cons, List.not_mem_nil, or_false, not_or] at hn; exact trivial)) )
  replace g3 : (sy_i F 83).toInt ≤ 4 := by omega
  by_cases g4 : ((sy_ai F 54).getD ((sy_i F 82).toInt).toNat 0).toInt = 0
  · have c3 := nz_bx hB (k := 3) (lo := 0) (hi := 7) rfl
    have q85 : (sy_ai F 54).getD (sy_i F 82).toNatClampNeg 0 = (sy_ai F 54).getD ((sy_i F 82).toInt).toNat 0 := by simp only [nz_c]
    have n85 : nzI ((sy_ai F 54).getD (sy_i F 82).toNatClampNeg 0) (((sy_ai F 54).getD ((sy_i F 82).toInt).toNat 0).toInt) := congrArg Int32.toInt q85
    have q86 : (sy_ai F 57).getD (sy_i F 82).toNatClampNeg 0 = (sy_ai F 57).getD ((sy_i F 82).toInt).toNat 0 := by simp only [nz_c]
    have n86 : nzI ((sy_ai F 57).getD (sy_i F 82).toNatClampNeg 0) (((sy_ai F 57).getD ((sy_i F 82).toInt).toNat 0).toInt) := congrArg Int32.toInt q86
    exact j0hg_0_p4 hd F X1 X2 hB (by first | exact g0 | (simp only [nz_c]; exact g0)) (by first | exact g1 | (simp only [nz_c]; exact g1)) (by first | exact g2 | (simp only [nz_c]; exact g2)) (by first | exact g3 | (simp only [nz_c]; exact g3)) (by first | exact ⟨by omega, by omega⟩ | (simp only [nz_c]; exact ⟨by omega, by omega⟩)) (by first | exact g4 | (simp only [nz_c]; exact g4) | (rw [(nzE n85)]; exact g4)) (by first | exact ⟨by omega, by omega⟩ | (simp only [nz_c]; exact ⟨by omega, by omega⟩)) (fun F1 g e82 e83 e84 e85 e86 e87 => k4 g0 g1 g2 g3 g4 F1 (nz_in0 hB [] (fun j hj hn => g j hj (by simp only [List.mem_cons, List.not_mem_nil, or_false, not_or] at hn; exact trivial)) (List.forall_mem_nil _)) (fun j hj hn => g j hj (by simp only [List.mem_cons, List.not_mem_nil, or_false, not_or] at hn; exact trivial)) ((congrArg Int32.toInt (zz_i e82)).trans (rfl : (sy_i F 82).toInt = (sy_i F 82).toInt)) ((zz_i e82).trans (rfl : sy_i F 82 = sy_i F 82)) ((congrArg Int32.toInt (zz_i e83)).trans (rfl : (sy_i F 83).toInt = (sy_i F 83).toInt)) ((zz_i e83).trans (rfl : sy_i F 83 = sy_i F 83)) ((congrArg Int32.toInt (zz_i e84)).trans (rfl : (sy_i F 84).toInt = (sy_i F 84).toInt)) ((zz_i e84).trans (rfl : sy_i F 84 = sy_i F 84)) ((congrArg Int32.toInt (zz_i e85)).trans (rfl : (sy_i F 82).toInt = (sy_i F 82).toInt)) ((zz_i e85).trans (rfl : sy_i F 82 = sy_i F 82)) ((congrArg Int32.toInt (zz_i e86)).trans (rfl : (sy_i F 83).toInt = (sy_i F 83).toInt)) ((zz_i e86).trans (rfl : sy_i F 83 = sy_i F 83)) ((congrArg Int32.toInt (zz_i e87)).trans (nzE n86)) ((zz_i e87).trans q86))
  replace g4 : ((sy_ai F 54).getD ((sy_i F 82).toInt).toNat 0).toInt ≠ 0 := by omega
  have c3 := nz_bx hB (k := 3) (lo := 0) (hi := 7) rfl
  have q85 : (sy_ai F 54).getD (sy_i F 82).toNatClampNeg 0 = (sy_ai F 54).getD ((sy_i F 82).toInt).toNat 0 := by simp only [nz_c]
  have n85 : nzI ((sy_ai F 54).getD (sy_i F 82).toNatClampNeg 0) (((sy_ai F 54).getD ((sy_i F 82).toInt).toNat 0).toInt) := congrArg Int32.toInt q85
  exact j0hg_0_p5 hd F X1 X2 hB (by first | exact g0 | (simp only [nz_c]; exact g0)) (by first | exact g1 | (simp only [nz_c]; exact g1)) (by first | exact g2 | (simp only [nz_c]; exact g2)) (by first | exact g3 | (simp only [nz_c]; exact g3)) (by first | exact ⟨by omega, by omega⟩ | (simp only [nz_c]; exact ⟨by omega, by omega⟩)) (by first | exact g4 | (simp only [nz_c]; exact g4) | (rw [(nzE n85)]; exact g4)) (fun F1 g  => k5 g0 g1 g2 g3 g4 F1 (nz_in0 hB [] (fun j hj hn => g j hj (by simp only [List.mem_cons, List.not_mem_nil, or_false, not_or] at hn; exact trivial)) (List.forall_mem_nil _)) (fun j hj hn => g j hj (by simp only [List.mem_cons, List.not_mem_nil, or_false, not_or] at hn; exact trivial)) )
theorem j0hg_60_p0 {Ls : Nat} {xs : Nat → Int32} {d : Nat} {Q : Option Value → jm_h → Prop} (hd : 1 ≤ d) (F : Nat → sy_d) (X1 X2 : List jm_c) (hB : iv_in F iv_B0)
    (k : ∀ F1 : Nat → sy_d, (∀ j, j < 82 → True → F1 j = F j) → F1 82 = .inl (.int (sy_i F 83)) → F1 83 = .inl (.int (sy_i F 84)) → F1 84 = .inl (.int ((1 : Int32))) → F1 85 = .inl (.int ((1 : Int32))) → F1 86 = .inl (.int ((0 : Int32))) → hd_W Ls xs d jm_M93 Q (69, sy_dL F1 [some (.inl (.ref 8)), none, some (.inr (.inl 82)), some (.inr (.inl 83)), some (.inr (.inl 84)), some (.inr (.inl 85)), some (.inr (.inl 86))], sy_dS F1 [], sy_dh F1 X1 X2 (iv_H 0), 0, 0)) :
    hd_W Ls xs d jm_M93 Q (60, sy_dL F [some (.inl (.ref 8)), some (.inr (.inl 82)), some (.inr (.inl 83)), some (.inr (.inl 84)), none, none, none], sy_dS F [], sy_dh F X1 X2 (iv_H 0), 0, 0) := by
  refine hd_run (s := 0) (nv := 85) (pc := 69) (L := [some (.inl (.ref 8)), none, some (.inr (.inl 82)), some (.inr (.inl 83)), some (.inr (.inl 84)), some (.inr (.inl 85)), some (.inr (.inl 86))]) (S := []) (uh := hd_ov (iv_id 0 iv_B0) []) (ul := [.inl (.inr (.inl 83)), .inl (.inr (.inl 84)), .inl (.inl (.int 1)), .inl (.inl (.int 1)), .inl (.inl (.int 0))]) (f := false) (sp := [69]) (d0 := 0) (O := []) (T := []) (P := []) jm_ok93 (by decide +kernel) (by decide +kernel) hd F X1 X2 (fun F' hF hs => ?_)
  have b83 := hd_b (F := F) (F' := F') (k := 83) (hF 83 (by decide))
  have b84 := hd_b (F := F) (F' := F') (k := 84) (hF 84 (by decide))
  have hB' : iv_in F' iv_B0 := iv_in_eq hB (fun j hj => hF j (Nat.lt_of_lt_of_le hj (by decide +kernel)))
  refine ⟨fun _ h => absurd h List.not_mem_nil, ?_⟩
  refine k _ ?_ ?_ ?_ ?_ ?_ ?_
  · exact fun j hj _ => (hd_keep hB' (Nat.lt_of_lt_of_le hj (by decide +kernel)) (by simp)).trans (hF j (Nat.lt_of_lt_of_le hj (by decide)))
  · exact hd_gi (x := .inr (.inl 83)) (by decide +kernel) b83
  · exact hd_gi (x := .inr (.inl 84)) (by decide +kernel) b84
  · exact hd_gi (x := .inl (.int 1)) (by decide +kernel) rfl
  · exact hd_gi (x := .inl (.int 1)) (by decide +kernel) rfl
  · exact hd_gi (x := .inl (.int 0)) (by decide +kernel) rfl
theorem j0hg_60 {Ls : Nat} {xs : Nat → Int32} {d : Nat} {Q : Option Value → jm_h → Prop} (hd : 1 ≤ d) (F : Nat → sy_d) (X1 X2 : List jm_c) (hB : iv_in F iv_B0)
    (k0 : ∀ F1 : Nat → sy_d, iv_in F1 iv_B0 → (∀ j, j < 82 → j ∉ ([] : List Nat) → F1 j = F j) → (sy_i F1 82).toInt = (sy_i F 83).toInt → sy_i F1 82 = sy_i F 83 → (sy_i F1 83).toInt = (sy_i F 84).toInt → sy_i F1 83 = sy_i F 84 → (sy_i F1 84).toInt = 1 → sy_i F1 84 = (1 : Int32) → (sy_i F1 85).toInt = 1 → sy_i F1 85 = (1 : Int32) → (sy_i F1 86).toInt = 0 → sy_i F1 86 = (0 : Int32) → hd_W Ls xs d jm_M93 Q (69, sy_dL F1 [some (.inl (.ref 8)), none, some (.inr (.inl 82)), some (.inr (.inl 83)), some (.inr (.inl 84)), some (.inr (.inl 85)), some (.inr (.inl 86))], sy_dS F1 [], sy_dh F1 X1 X2 (iv_H 0), 0, 0)) :
    hd_W Ls xs d jm_M93 Q (60, sy_dL F [some (.inl (.ref 8)), some (.inr (.inl 82)), some (.inr (.inl 83)), some (.inr (.inl 84)), none, none, none], sy_dS F [], sy_dh F X1 X2 (iv_H 0), 0, 0) := by
  exact j0hg_60_p0 hd F X1 X2 hB  (fun F1 g e82 e83 e84 e85 e86 => k0 F1 (nz_in0 hB [] (fun j hj hn => g j hj (by simp only [List.mem_cons, List.not_mem_nil, or_false, not_or] at hn; exact trivial)) (List.forall_mem_nil _)) (fun j hj hn => g j hj (by simp only [List.mem_cons, List.not_mem_nil, or_false, not_or] at hn; exact trivial)) ((congrArg Int32.toInt (zz_i e82)).trans (rfl : (sy_i F 83).toInt = (sy_i F 83).toInt)) ((zz_i e82).trans (rfl : sy_i F 83 = sy_i F 83)) ((congrArg Int32.toInt (zz_i e83)).trans (rfl : (sy_i F 84).toInt = (sy_i F 84).toInt)) ((zz_i e83).trans (rfl : sy_i F 84 = sy_i F 84)) ((congrArg Int32.toInt (zz_i e84)).trans (by decide : ((1 : Int32)).toInt = 1)) ((zz_i e84).trans (rfl : (1 : Int32) = (1 : Int32))) ((congrArg Int32.toInt (zz_i e85)).trans (by decide : ((1 : Int32)).toInt = 1)) ((zz_i e85).trans (rfl : (1 : Int32) = (1 : Int32))) ((congrArg Int32.toInt (zz_i e86)).trans (by decide : ((0 : Int32)).toInt = 0)) ((zz_i e86).trans (rfl : (0 : Int32) = (0 : Int32))))
theorem j0hg_69_p0 {Ls : Nat} {xs : Nat → Int32} {d : Nat} {Q : Option Value → jm_h → Prop} (hd : 1 ≤ d) (F : Nat → sy_d) (X1 X2 : List jm_c) (hB : iv_in F iv_B0)
    (h0 : (sy_i F 82).toInt ≤ (sy_i F 86).toInt)
    (k : ∀ F1 : Nat → sy_d, (∀ j, j < 82 → True → F1 j = F j) → F1 82 = .inl (.int (sy_i F 83)) → F1 83 = .inl (.int (sy_i F 84)) → F1 84 = .inl (.int (sy_i F 85)) → F1 85 = .inl (.int (sy_i F 84)) → F1 86 = .inl (.int (sy_i F 85)) → hd_W Ls xs d jm_M93 Q (110, sy_dL F1 [some (.inl (.ref 8)), none, none, some (.inr (.inl 82)), some (.inr (.inl 83)), some (.inr (.inl 84)), none], sy_dS F1 [.inr (.inl 86), .inr (.inl 85)], sy_dh F1 X1 X2 (iv_H 0), 0, 0)) :
    hd_W Ls xs d jm_M93 Q (69, sy_dL F [some (.inl (.ref 8)), none, some (.inr (.inl 82)), some (.inr (.inl 83)), some (.inr (.inl 84)), some (.inr (.inl 85)), some (.inr (.inl 86))], sy_dS F [], sy_dh F X1 X2 (iv_H 0), 0, 0) := by
  refine hd_run (s := 0) (nv := 87) (pc := 110) (L := [some (.inl (.ref 8)), none, none, some (.inr (.inl 82)), some (.inr (.inl 83)), some (.inr (.inl 84)), none]) (S := [.inr (.inl 86), .inr (.inl 85)]) (uh := hd_ov (iv_id 0 iv_B0) []) (ul := [.inl (.inr (.inl 83)), .inl (.inr (.inl 84)), .inl (.inr (.inl 85)), .inl (.inr (.inl 84)), .inl (.inr (.inl 85))]) (f := true) (sp := [69, 110]) (d0 := 0) (O := [true]) (T := []) (P := [(4, .inr (.inl 82), .inr (.inl 86))]) jm_ok93 (by decide +kernel) (by decide +kernel) hd F X1 X2 (fun F' hF hs => ?_)
  have b82 := hd_b (F := F) (F' := F') (k := 82) (hF 82 (by decide))
  have b86 := hd_b (F := F) (F' := F') (k := 86) (hF 86 (by decide))
  have b83 := hd_b (F := F) (F' := F') (k := 83) (hF 83 (by decide))
  have b84 := hd_b (F := F) (F' := F') (k := 84) (hF 84 (by decide))
  have b85 := hd_b (F := F) (F' := F') (k := 85) (hF 85 (by decide))
  have hB' : iv_in F' iv_B0 := iv_in_eq hB (fun j hj => hF j (Nat.lt_of_lt_of_le hj (by decide +kernel)))
  refine ⟨List.forall_mem_cons.mpr ⟨hd_p4 b82 b86 h0, fun _ h => absurd h List.not_mem_nil⟩, ?_⟩
  refine k _ ?_ ?_ ?_ ?_ ?_ ?_
  · exact fun j hj _ => (hd_keep hB' (Nat.lt_of_lt_of_le hj (by decide +kernel)) (by simp)).trans (hF j (Nat.lt_of_lt_of_le hj (by decide)))
  · exact hd_gi (x := .inr (.inl 83)) (by decide +kernel) b83
  · exact hd_gi (x := .inr (.inl 84)) (by decide +kernel) b84
  · exact hd_gi (x := .inr (.inl 85)) (by decide +kernel) b85
  · exact hd_gi (x := .inr (.inl 84)) (by decide +kernel) b84
  · exact hd_gi (x := .inr (.inl 85)) (by decide +kernel) b85
theorem j0hg_69_p1 {Ls : Nat} {xs : Nat → Int32} {d : Nat} {Q : Option Value → jm_h → Prop} (hd : 1 ≤ d) (F : Nat → sy_d) (X1 X2 : List jm_c) (hB : iv_in F iv_B0)
    (h0 : (sy_i F 86).toInt < (sy_i F 82).toInt)
    (h1 : 0 ≤ (sy_i F 86).toInt ∧ (sy_i F 86).toInt < 4)
    (k : ∀ F1 : Nat → sy_d, (∀ j, j < 82 → True → F1 j = F j) → F1 82 = .inl (.int (sy_i F 82)) → F1 83 = .inl (.int (sy_i F 83)) → F1 84 = .inl (.int ((sy_i F 84) * (((100 : Int32)) - ((sy_ai F 47).getD (sy_i F 86).toNatClampNeg 0)))) → F1 85 = .inl (.int ((sy_i F 85) * ((100 : Int32)))) → F1 86 = .inl (.int ((sy_i F 86) + ((1 : Int32)))) → hd_W Ls xs d jm_M93 Q (69, sy_dL F1 [some (.inl (.ref 8)), none, some (.inr (.inl 82)), some (.inr (.inl 83)), some (.inr (.inl 84)), some (.inr (.inl 85)), some (.inr (.inl 86))], sy_dS F1 [], sy_dh F1 X1 X2 (iv_H 0), 0, 0)) :
    hd_W Ls xs d jm_M93 Q (69, sy_dL F [some (.inl (.ref 8)), none, some (.inr (.inl 82)), some (.inr (.inl 83)), some (.inr (.inl 84)), some (.inr (.inl 85)), some (.inr (.inl 86))], sy_dS F [], sy_dh F X1 X2 (iv_H 0), 0, 0) := by
  refine hd_run (s := 0) (nv := 87) (pc := 69) (L := [some (.inl (.ref 8)), none, some (.inr (.inl 82)), some (.inr (.inl 83)), some (.inr (.inl 84)), some (.inr (.inl 85)), some (.inr (.inl 86))]) (S := []) (uh := hd_ov (iv_id 0 iv_B0) []) (ul := [.inl (.inr (.inl 82)), .inl (.inr (.inl 83)), .inl (.inr (.inl 89)), .inl (.inr (.inl 90)), .inl (.inr (.inl 91))]) (f := true) (sp := [69, 110]) (d0 := 0) (O := [false]) (T := [(30, [.inr (.inl 86)], [.inr (.inl 47)]), (1, [.inl (.int 100), .inr (.inl 87)], []), (2, [.inr (.inl 84), .inr (.inl 88)], []), (2, [.inr (.inl 85), .inl (.int 100)], []), (0, [.inr (.inl 86), .inl (.int 1)], [])]) (P := [(5, .inr (.inl 82), .inr (.inl 86)), (6, .inr (.inl 86), .inl (.ref 4))]) jm_ok93 (by decide +kernel) (by decide +kernel) hd F X1 X2 (fun F' hF hs => ?_)
  have b82 := hd_b (F := F) (F' := F') (k := 82) (hF 82 (by decide))
  have b86 := hd_b (F := F) (F' := F') (k := 86) (hF 86 (by decide))
  have b83 := hd_b (F := F) (F' := F') (k := 83) (hF 83 (by decide))
  have b84 := hd_b (F := F) (F' := F') (k := 84) (hF 84 (by decide))
  have a47 := hd_ba (F := F) (F' := F') (k := 47) (hF 47 (by decide))
  have t87 : sy_dv F' (.inr (.inl 87)) = .int ((sy_ai F 47).getD (sy_i F 86).toNatClampNeg 0) := hd_rd (hs 0 _ rfl) b86 a47
  have t88 : sy_dv F' (.inr (.inl 88)) = .int (((100 : Int32)) - ((sy_ai F 47).getD (sy_i F 86).toNatClampNeg 0)) := hd_o (hs 1 _ rfl) rfl t87 rfl
  have t89 : sy_dv F' (.inr (.inl 89)) = .int ((sy_i F 84) * (((100 : Int32)) - ((sy_ai F 47).getD (sy_i F 86).toNatClampNeg 0))) := hd_o (hs 2 _ rfl) b84 t88 rfl
  have b85 := hd_b (F := F) (F' := F') (k := 85) (hF 85 (by decide))
  have t90 : sy_dv F' (.inr (.inl 90)) = .int ((sy_i F 85) * ((100 : Int32))) := hd_o (hs 3 _ rfl) b85 rfl rfl
  have t91 : sy_dv F' (.inr (.inl 91)) = .int ((sy_i F 86) + ((1 : Int32))) := hd_o (hs 4 _ rfl) b86 rfl rfl
  have hB' : iv_in F' iv_B0 := iv_in_eq hB (fun j hj => hF j (Nat.lt_of_lt_of_le hj (by decide +kernel)))
  refine ⟨List.forall_mem_cons.mpr ⟨hd_p5 b82 b86 h0, List.forall_mem_cons.mpr ⟨hd_pb b86 (by first | exact h1 | exact h1), fun _ h => absurd h List.not_mem_nil⟩⟩, ?_⟩
  refine k _ ?_ ?_ ?_ ?_ ?_ ?_
  · exact fun j hj _ => (hd_keep hB' (Nat.lt_of_lt_of_le hj (by decide +kernel)) (by simp)).trans (hF j (Nat.lt_of_lt_of_le hj (by decide)))
  · exact hd_gi (x := .inr (.inl 82)) (by decide +kernel) b82
  · exact hd_gi (x := .inr (.inl 83)) (by decide +kernel) b83
  · exact hd_gi (x := .inr (.inl 89)) (by decide +kernel) t89
  · exact hd_gi (x := .inr (.inl 90)) (by decide +kernel) t90
  · exact hd_gi (x := .inr (.inl 91)) (by decide +kernel) t91
theorem j0hg_69 {Ls : Nat} {xs : Nat → Int32} {d : Nat} {Q : Option Value → jm_h → Prop} (hd : 1 ≤ d) (F : Nat → sy_d) (X1 X2 : List jm_c) (hB : iv_in F iv_B0)
    (a82 : 1 ≤ (sy_i F 82).toInt ∧ (sy_i F 82).toInt ≤ 4)
    (a86 : 0 ≤ (sy_i F 86).toInt ∧ (sy_i F 86).toInt ≤ 4)
    (k0 : (sy_i F 82).toInt ≤ (sy_i F 86).toInt → ∀ F1 : Nat → sy_d, iv_in F1 iv_B0 → (∀ j, j < 82 → j ∉ ([] : List Nat) → F1 j = F j) → (sy_i F1 82).toInt = (sy_i F 83).toInt → sy_i F1 82 = sy_i F 83 → (sy_i F1 83).toInt = (sy_i F 84).toInt → sy_i F1 83 = sy_i F 84 → (sy_i F1 84).toInt = (sy_i F 85).toInt → sy_i F1 84 = sy_i F 85 → (sy_i F1 85).toInt = (sy_i F 84).toInt → sy_i F1 85 = sy_i F 84 → (sy_i F1 86).toInt = (sy_i F 85).toInt → sy_i F1 86 = sy_i F 85 → hd_W Ls xs d jm_M93 Q (110, sy_dL F1 [some (.inl (.ref 8)), none, none, some (.inr (.inl 82)), some (.inr (.inl 83)), some (.inr (.inl 84)), none], sy_dS F1 [.inr (.inl 86), .inr (.inl 85)], sy_dh F1 X1 X2 (iv_H 0), 0, 0))
    (k1 : (sy_i F 86).toInt < (sy_i F 82).toInt → ∀ F1 : Nat → sy_d, iv_in F1 iv_B0 → (∀ j, j < 82 → j ∉ ([] : List Nat) → F1 j = F j) → (sy_i F1 82).toInt = (sy_i F 82).toInt → sy_i F1 82 = sy_i F 82 → (sy_i F1 83).toInt = (sy_i F 83).toInt → sy_i F1 83 = sy_i F 83 → (sy_i F1 84).toInt = ((sy_i F 84) * (((100 : Int32)) - ((sy_ai F 47).getD ((sy_i F 86).toInt).toNat 0))).toInt → sy_i F1 84 = (sy_i F 84) * (((100 : Int32)) - ((sy_ai F 47).getD ((sy_i F 86).toInt).toNat 0)) → (sy_i F1 85).toInt = ((sy_i F 85) * ((100 : Int32))).toInt → sy_i F1 85 = (sy_i F 85) * ((100 : Int32)) → (sy_i F1 86).toInt = ((sy_i F 86).toInt + 1) → sy_i F1 86 = (sy_i F 86) + ((1 : Int32)) → hd_W Ls xs d jm_M93 Q (69, sy_dL F1 [some (.inl (.ref 8)), none, some (.inr (.inl 82)), some (.inr (.inl 83)), some (.inr (.inl 84)), some (.inr (.inl 85)), some (.inr (.inl 86))], sy_dS F1 [], sy_dh F1 X1 X2 (iv_H 0), 0, 0)) :
    hd_W Ls xs d jm_M93 Q (69, sy_dL F [some (.inl (.ref 8)), none, some (.inr (.inl 82)), some (.inr (.inl 83)), some (.inr (.inl 84)), some (.inr (.inl 85)), some (.inr (.inl 86))], sy_dS F [], sy_dh F X1 X2 (iv_H 0), 0, 0) := by
  by_cases g0 : (sy_i F 82).toInt ≤ (sy_i F 86).toInt
  · exact j0hg_69_p0 hd F X1 X2 hB (by first | exact g0 | (simp only [nz_c]; exact g0)) (fun F1 g e82 e83 e84 e85 e86 => k0 g0 F1 (nz_in0 hB [] (fun j hj hn => g j hj (by simp only [List.mem_cons, List.not_mem_nil, or_false, not_or] at hn; exact trivial)) (List.forall_mem_nil _)) (fun j hj hn => g j hj (by simp only [List.mem_cons, List.not_mem_nil, or_false, not_or] at hn; exact trivial)) ((congrArg Int32.toInt (zz_i e82)).trans (rfl : (sy_i F 83).toInt = (sy_i F 83).toInt)) ((zz_i e82).trans (rfl : sy_i F 83 = sy_i F 83)) ((congrArg Int32.toInt (zz_i e83)).trans (rfl : (sy_i F 84).toInt = (sy_i F 84).toInt)) ((zz_i e83).trans (rfl : sy_i F 84 = sy_i F 84)) ((congrArg Int32.toInt (zz_i e84)).trans (rfl : (sy_i F 85).toInt = (sy_i F 85).toInt)) ((zz_i e84).trans (rfl : sy_i F 85 = sy_i F 85)) ((congrArg Int32.toInt (zz_i e85)).trans (rfl : (sy_i F 84).toInt = (sy_i F 84).toInt)) ((zz_i e85).trans (rfl : sy_i F 84 = sy_i F 84)) ((congrArg Int32.toInt (zz_i e86)).trans (rfl : (sy_i F 85).toInt = (sy_i F 85).toInt)) ((zz_i e86).trans (rfl : sy_i F 85 = sy_i F 85)))
  replace g0 : (sy_i F 86).toInt < (sy_i F 82).toInt := by omega
  have q89 : (sy_i F 84) * (((100 : Int32)) - ((sy_ai F 47).getD (sy_i F 86).toNatClampNeg 0)) = (sy_i F 84) * (((100 : Int32)) - ((sy_ai F 47).getD ((sy_i F 86).toInt).toNat 0)) := by simp only [nz_c, (by decide : ((100 : Int32)).toInt = 100)]
  have n89 : nzI ((sy_i F 84) * (((100 : Int32)) - ((sy_ai F 47).getD (sy_i F 86).toNatClampNeg 0))) (((sy_i F 84) * (((100 : Int32)) - ((sy_ai F 47).getD ((sy_i F 86).toInt).toNat 0))).toInt) := congrArg Int32.toInt q89
  have n90 : nzI ((sy_i F 85) * ((100 : Int32))) (((sy_i F 85) * ((100 : Int32))).toInt) := congrArg Int32.toInt (rfl : (sy_i F 85) * ((100 : Int32)) = (sy_i F 85) * ((100 : Int32)))
  have n91 : nzI ((sy_i F 86) + ((1 : Int32))) (((sy_i F 86).toInt + 1)) := nz_add (rfl : (sy_i F 86).toInt = (sy_i F 86).toInt) (by decide : ((1 : Int32)).toInt = 1) (by omega) (by omega)
  exact j0hg_69_p1 hd F X1 X2 hB (by first | exact g0 | (simp only [nz_c]; exact g0)) (by first | exact ⟨by omega, by omega⟩ | (simp only [nz_c]; exact ⟨by omega, by omega⟩)) (fun F1 g e82 e83 e84 e85 e86 => k1 g0 F1 (nz_in0 hB [] (fun j hj hn => g j hj (by simp only [List.mem_cons, List.not_mem_nil, or_false, not_or] at hn; exact trivial)) (List.forall_mem_nil _)) (fun j hj hn => g j hj (by simp only [List.mem_cons, List.not_mem_nil, or_false, not_or] at hn; exact trivial)) ((congrArg Int32.toInt (zz_i e82)).trans (rfl : (sy_i F 82).toInt = (sy_i F 82).toInt)) ((zz_i e82).trans (rfl : sy_i F 82 = sy_i F 82)) ((congrArg Int32.toInt (zz_i e83)).trans (rfl : (sy_i F 83).toInt = (sy_i F 83).toInt)) ((zz_i e83).trans (rfl : sy_i F 83 = sy_i F 83)) ((congrArg Int32.toInt (zz_i e84)).trans (nzE n89)) ((zz_i e84).trans q89) ((congrArg Int32.toInt (zz_i e85)).trans (nzE n90)) ((zz_i e85).trans (rfl : (sy_i F 85) * ((100 : Int32)) = (sy_i F 85) * ((100 : Int32)))) ((congrArg Int32.toInt (zz_i e86)).trans (nzE n91)) ((zz_i e86).trans (rfl : (sy_i F 86) + ((1 : Int32)) = (sy_i F 86) + ((1 : Int32)))))
theorem j0hg_113_p0 {Ls : Nat} {xs : Nat → Int32} {d : Nat} {Q : Option Value → jm_h → Prop} (hd : 1 ≤ d) (F : Nat → sy_d) (X1 X2 : List jm_c) (hB : iv_in F iv_B0)
    (h0 : (sy_i F 85).toInt ≠ 0)
    (h1 : (sy_i F 82).toInt = 0)
    (h2 : (sy_i F 85).toInt ≠ 0)
    (k : ∀ F1 : Nat → sy_d, (∀ j, j < 82 → True → F1 j = F j) → Q (some (.int ((sy_i F 83) / (sy_i F 85)))) (sy_dh F1 X1 X2 (iv_H 0))) :
    hd_W Ls xs d jm_M93 Q (113, sy_dL F [some (.inl (.ref 8)), none, none, some (.inr (.inl 82)), some (.inr (.inl 83)), some (.inr (.inl 84)), none], sy_dS F [.inr (.inl 85)], sy_dh F X1 X2 (iv_H 0), 0, 0) := by
  refine hd_ret (s := 0) (nv := 86) (v := some (.inr (.inl 86))) (uh := hd_ov (iv_id 0 iv_B0) []) (f := false) (sp := []) (d0 := 0) (O := [true, true]) (T := [(9, [.inr (.inl 83), .inr (.inl 85)], [])]) (P := [(1, .inr (.inl 85), .inl (.int 0)), (0, .inr (.inl 82), .inl (.int 0)), (1, .inr (.inl 85), .inl (.int 0))]) jm_ok93 (by decide +kernel) (by decide +kernel) hd F X1 X2 (fun F' hF hs => ?_)
  have b85 := hd_b (F := F) (F' := F') (k := 85) (hF 85 (by decide))
  have b82 := hd_b (F := F) (F' := F') (k := 82) (hF 82 (by decide))
  have b83 := hd_b (F := F) (F' := F') (k := 83) (hF 83 (by decide))
  have t86 : sy_dv F' (.inr (.inl 86)) = .int ((sy_i F 83) / (sy_i F 85)) := hd_o (hs 0 _ rfl) b83 b85 rfl
  have hB' : iv_in F' iv_B0 := iv_in_eq hB (fun j hj => hF j (Nat.lt_of_lt_of_le hj (by decide +kernel)))
  have hk := k (sy_cm F' (hd_ov (iv_id 0 iv_B0) [] ++ [])) (fun j hj _ => (hd_keep hB' (Nat.lt_of_lt_of_le hj (by decide +kernel)) (by simp)).trans (hF j (Nat.lt_of_lt_of_le hj (by decide))))
  refine ⟨List.forall_mem_cons.mpr ⟨hd_p1 b85 rfl (by have hc : ((0) : Int32).toInt = 0 := (by decide); omega), List.forall_mem_cons.mpr ⟨hd_p0 b82 rfl (by have hc : ((0) : Int32).toInt = 0 := (by decide); omega), List.forall_mem_cons.mpr ⟨hd_p1 b85 rfl (by have hc : ((0) : Int32).toInt = 0 := (by decide); omega), fun _ h => absurd h List.not_mem_nil⟩⟩⟩, ?_⟩
  show Q (some (sy_dv F' (.inr (.inl 86)))) _
  rw [t86]
  exact hk
theorem j0hg_113_p1 {Ls : Nat} {xs : Nat → Int32} {d : Nat} {Q : Option Value → jm_h → Prop} (hd : 1 ≤ d) (F : Nat → sy_d) (X1 X2 : List jm_c) (hB : iv_in F iv_B0)
    (h0 : (sy_i F 85).toInt ≠ 0)
    (h1 : (sy_i F 82).toInt ≠ 0)
    (h2 : (sy_i F 85).toInt ≠ 0)
    (k : ∀ F1 : Nat → sy_d, (∀ j, j < 82 → True → F1 j = F j) → Q (some (.int ((sy_i F 84) / (sy_i F 85)))) (sy_dh F1 X1 X2 (iv_H 0))) :
    hd_W Ls xs d jm_M93 Q (113, sy_dL F [some (.inl (.ref 8)), none, none, some (.inr (.inl 82)), some (.inr (.inl 83)), some (.inr (.inl 84)), none], sy_dS F [.inr (.inl 85)], sy_dh F X1 X2 (iv_H 0), 0, 0) := by
  refine hd_ret (s := 0) (nv := 86) (v := some (.inr (.inl 86))) (uh := hd_ov (iv_id 0 iv_B0) []) (f := false) (sp := []) (d0 := 0) (O := [true, false]) (T := [(9, [.inr (.inl 84), .inr (.inl 85)], [])]) (P := [(1, .inr (.inl 85), .inl (.int 0)), (1, .inr (.inl 82), .inl (.int 0)), (1, .inr (.inl 85), .inl (.int 0))]) jm_ok93 (by decide +kernel) (by decide +kernel) hd F X1 X2 (fun F' hF hs => ?_)
  have b85 := hd_b (F := F) (F' := F') (k := 85) (hF 85 (by decide))
  have b82 := hd_b (F := F) (F' := F') (k := 82) (hF 82 (by decide))
  have b84 := hd_b (F := F) (F' := F') (k := 84) (hF 84 (by decide))
  have t86 : sy_dv F' (.inr (.inl 86)) = .int ((sy_i F 84) / (sy_i F 85)) := hd_o (hs 0 _ rfl) b84 b85 rfl
  have hB' : iv_in F' iv_B0 := iv_in_eq hB (fun j hj => hF j (Nat.lt_of_lt_of_le hj (by decide +kernel)))
  have hk := k (sy_cm F' (hd_ov (iv_id 0 iv_B0) [] ++ [])) (fun j hj _ => (hd_keep hB' (Nat.lt_of_lt_of_le hj (by decide +kernel)) (by simp)).trans (hF j (Nat.lt_of_lt_of_le hj (by decide))))
  refine ⟨List.forall_mem_cons.mpr ⟨hd_p1 b85 rfl (by have hc : ((0) : Int32).toInt = 0 := (by decide); omega), List.forall_mem_cons.mpr ⟨hd_p1 b82 rfl (by have hc : ((0) : Int32).toInt = 0 := (by decide); omega), List.forall_mem_cons.mpr ⟨hd_p1 b85 rfl (by have hc : ((0) : Int32).toInt = 0 := (by decide); omega), fun _ h => absurd h List.not_mem_nil⟩⟩⟩, ?_⟩
  show Q (some (sy_dv F' (.inr (.inl 86)))) _
  rw [t86]
  exact hk
theorem j0hg_113 {Ls : Nat} {xs : Nat → Int32} {d : Nat} {Q : Option Value → jm_h → Prop} (hd : 1 ≤ d) (F : Nat → sy_d) (X1 X2 : List jm_c) (hB : iv_in F iv_B0)
    (a83 : 0 ≤ (sy_i F 83).toInt ∧ (sy_i F 83).toInt ≤ 100000000)
    (a84 : 1 ≤ (sy_i F 84).toInt ∧ (sy_i F 84).toInt ≤ 100000000)
    (a85 : 1 ≤ (sy_i F 85).toInt ∧ (sy_i F 85).toInt ≤ 100000000)
    (k0 : (sy_i F 85).toInt ≠ 0 → (sy_i F 82).toInt = 0 → ∀ F1 : Nat → sy_d, iv_in F1 iv_B0 → (∀ j, j < 82 → j ∉ ([] : List Nat) → F1 j = F j) → Q (some (.int ((sy_i F 83) / (sy_i F 85)))) (sy_dh F1 X1 X2 (iv_H 0)))
    (k1 : (sy_i F 85).toInt ≠ 0 → (sy_i F 82).toInt ≠ 0 → ∀ F1 : Nat → sy_d, iv_in F1 iv_B0 → (∀ j, j < 82 → j ∉ ([] : List Nat) → F1 j = F j) → Q (some (.int ((sy_i F 84) / (sy_i F 85)))) (sy_dh F1 X1 X2 (iv_H 0))) :
    hd_W Ls xs d jm_M93 Q (113, sy_dL F [some (.inl (.ref 8)), none, none, some (.inr (.inl 82)), some (.inr (.inl 83)), some (.inr (.inl 84)), none], sy_dS F [.inr (.inl 85)], sy_dh F X1 X2 (iv_H 0), 0, 0) := by
  by_cases g0 : (sy_i F 85).toInt ≠ 0
  · by_cases g1 : (sy_i F 82).toInt = 0
    · exact j0hg_113_p0 hd F X1 X2 hB (by first | exact g0 | (simp only [nz_c]; exact g0)) (by first | exact g1 | (simp only [nz_c]; exact g1)) (by first | exact g0 | (simp only [nz_c]; exact g0)) (fun F1 g  => by rw [(rfl : (sy_i F 83) / (sy_i F 85) = (sy_i F 83) / (sy_i F 85))]; exact k0 g0 g1 F1 (nz_in0 hB [] (fun j hj hn => g j hj (by simp only [List.mem_cons, List.not_mem_nil, or_false, not_or] at hn; exact trivial)) (List.forall_mem_nil _)) (fun j hj hn => g j hj (by simp only [List.mem_cons, List.not_mem_nil, or_false, not_or] at hn; exact trivial)) )
    replace g1 : (sy_i F 82).toInt ≠ 0 := by omega
    exact j0hg_113_p1 hd F X1 X2 hB (by first | exact g0 | (simp only [nz_c]; exact g0)) (by first | exact g1 | (simp only [nz_c]; exact g1)) (by first | exact g0 | (simp only [nz_c]; exact g0)) (fun F1 g  => by rw [(rfl : (sy_i F 84) / (sy_i F 85) = (sy_i F 84) / (sy_i F 85))]; exact k1 g0 g1 F1 (nz_in0 hB [] (fun j hj hn => g j hj (by simp only [List.mem_cons, List.not_mem_nil, or_false, not_or] at hn; exact trivial)) (List.forall_mem_nil _)) (fun j hj hn => g j hj (by simp only [List.mem_cons, List.not_mem_nil, or_false, not_or] at hn; exact trivial)) )
  replace g0 : (sy_i F 85).toInt = 0 := by omega
  exfalso
  omega
theorem j1gd_0_p0 {Ls : Nat} {xs : Nat → Int32} {d : Nat} {Q : Option Value → jm_h → Prop} (hd : 1 ≤ d) (F : Nat → sy_d) (X1 X2 : List jm_c) (hB : iv_in F iv_B0)
    (k : ∀ F1 : Nat → sy_d, (∀ j, j < 82 → True → F1 j = F j) → F1 82 = .inl (.int (sy_i F 82)) → F1 83 = .inl (.int (sy_i F 83)) → F1 84 = .inl (.int ((0 : Int32))) → hd_W Ls xs d jm_M131 Q (7, sy_dL F1 [none, none, some (.inr (.inl 82)), some (.inr (.inl 83)), some (.inr (.inl 84)), none], sy_dS F1 [], sy_dh F1 X1 X2 (iv_H 1), 0, 0)) :
    hd_W Ls xs d jm_M131 Q (0, sy_dL F [some (.inr (.inl 82)), some (.inr (.inl 83)), none, none, none, none], sy_dS F [], sy_dh F X1 X2 (iv_H 1), 0, 0) := by
  refine hd_run (s := 1) (nv := 84) (pc := 7) (L := [none, none, some (.inr (.inl 82)), some (.inr (.inl 83)), some (.inr (.inl 84)), none]) (S := []) (uh := hd_ov (iv_id 0 iv_B0) []) (ul := [.inl (.inr (.inl 82)), .inl (.inr (.inl 83)), .inl (.inl (.int 0))]) (f := true) (sp := [7]) (d0 := 0) (O := []) (T := []) (P := []) jm_ok131 (by decide +kernel) (by decide +kernel) hd F X1 X2 (fun F' hF hs => ?_)
  have b82 := hd_b (F := F) (F' := F') (k := 82) (hF 82 (by decide))
  have b83 := hd_b (F := F) (F' := F') (k := 83) (hF 83 (by decide))
  have hB' : iv_in F' iv_B0 := iv_in_eq hB (fun j hj => hF j (Nat.lt_of_lt_of_le hj (by decide +kernel)))
  refine ⟨fun _ h => absurd h List.not_mem_nil, ?_⟩
  refine k _ ?_ ?_ ?_ ?_
  · exact fun j hj _ => (hd_keep hB' (Nat.lt_of_lt_of_le hj (by decide +kernel)) (by simp)).trans (hF j (Nat.lt_of_lt_of_le hj (by decide)))
  · exact hd_gi (x := .inr (.inl 82)) (by decide +kernel) b82
  · exact hd_gi (x := .inr (.inl 83)) (by decide +kernel) b83
  · exact hd_gi (x := .inl (.int 0)) (by decide +kernel) rfl
theorem j1gd_0 {Ls : Nat} {xs : Nat → Int32} {d : Nat} {Q : Option Value → jm_h → Prop} (hd : 1 ≤ d) (F : Nat → sy_d) (X1 X2 : List jm_c) (hB : iv_in F iv_B0)
    (a82 : 0 ≤ (sy_i F 82).toInt ∧ (sy_i F 82).toInt ≤ 100000000)
    (a83 : 0 ≤ (sy_i F 83).toInt ∧ (sy_i F 83).toInt ≤ 100000000)
    (k0 : ∀ F1 : Nat → sy_d, iv_in F1 iv_B0 → (∀ j, j < 82 → j ∉ ([] : List Nat) → F1 j = F j) → (sy_i F1 82).toInt = (sy_i F 82).toInt → sy_i F1 82 = sy_i F 82 → (sy_i F1 83).toInt = (sy_i F 83).toInt → sy_i F1 83 = sy_i F 83 → (sy_i F1 84).toInt = 0 → sy_i F1 84 = (0 : Int32) → hd_W Ls xs d jm_M131 Q (7, sy_dL F1 [none, none, some (.inr (.inl 82)), some (.inr (.inl 83)), some (.inr (.inl 84)), none], sy_dS F1 [], sy_dh F1 X1 X2 (iv_H 1), 0, 0)) :
    hd_W Ls xs d jm_M131 Q (0, sy_dL F [some (.inr (.inl 82)), some (.inr (.inl 83)), none, none, none, none], sy_dS F [], sy_dh F X1 X2 (iv_H 1), 0, 0) := by
  exact j1gd_0_p0 hd F X1 X2 hB  (fun F1 g e82 e83 e84 => k0 F1 (nz_in0 hB [] (fun j hj hn => g j hj (by simp only [List.mem_cons, List.not_mem_nil, or_false, not_or] at hn; exact trivial)) (List.forall_mem_nil _)) (fun j hj hn => g j hj (by simp only [List.mem_cons, List.not_mem_nil, or_false, not_or] at hn; exact trivial)) ((congrArg Int32.toInt (zz_i e82)).trans (rfl : (sy_i F 82).toInt = (sy_i F 82).toInt)) ((zz_i e82).trans (rfl : sy_i F 82 = sy_i F 82)) ((congrArg Int32.toInt (zz_i e83)).trans (rfl : (sy_i F 83).toInt = (sy_i F 83).toInt)) ((zz_i e83).trans (rfl : sy_i F 83 = sy_i F 83)) ((congrArg Int32.toInt (zz_i e84)).trans (by decide : ((0 : Int32)).toInt = 0)) ((zz_i e84).trans (rfl : (0 : Int32) = (0 : Int32))))
theorem j1gd_7_p0 {Ls : Nat} {xs : Nat → Int32} {d : Nat} {Q : Option Value → jm_h → Prop} (hd : 1 ≤ d) (F : Nat → sy_d) (X1 X2 : List jm_c) (hB : iv_in F iv_B0)
    (h0 : 64 ≤ (sy_i F 84).toInt)
    (k : ∀ F1 : Nat → sy_d, (∀ j, j < 82 → True → F1 j = F j) → Q (some (.int (sy_i F 82))) (sy_dh F1 X1 X2 (iv_H 1))) :
    hd_W Ls xs d jm_M131 Q (7, sy_dL F [none, none, some (.inr (.inl 82)), some (.inr (.inl 83)), some (.inr (.inl 84)), none], sy_dS F [], sy_dh F X1 X2 (iv_H 1), 0, 0) := by
  refine hd_ret (s := 1) (nv := 85) (v := some (.inr (.inl 82))) (uh := hd_ov (iv_id 0 iv_B0) []) (f := true) (sp := [7]) (d0 := 0) (O := [true]) (T := []) (P := [(4, .inl (.int 64), .inr (.inl 84))]) jm_ok131 (by decide +kernel) (by decide +kernel) hd F X1 X2 (fun F' hF hs => ?_)
  have b84 := hd_b (F := F) (F' := F') (k := 84) (hF 84 (by decide))
  have b82 := hd_b (F := F) (F' := F') (k := 82) (hF 82 (by decide))
  have hB' : iv_in F' iv_B0 := iv_in_eq hB (fun j hj => hF j (Nat.lt_of_lt_of_le hj (by decide +kernel)))
  have hk := k (sy_cm F' (hd_ov (iv_id 0 iv_B0) [] ++ [])) (fun j hj _ => (hd_keep hB' (Nat.lt_of_lt_of_le hj (by decide +kernel)) (by simp)).trans (hF j (Nat.lt_of_lt_of_le hj (by decide))))
  refine ⟨List.forall_mem_cons.mpr ⟨hd_p4 rfl b84 (by have hc : ((64) : Int32).toInt = 64 := (by decide); omega), fun _ h => absurd h List.not_mem_nil⟩, ?_⟩
  show Q (some (sy_dv F' (.inr (.inl 82)))) _
  rw [b82]
  exact hk
theorem j1gd_7_p1 {Ls : Nat} {xs : Nat → Int32} {d : Nat} {Q : Option Value → jm_h → Prop} (hd : 1 ≤ d) (F : Nat → sy_d) (X1 X2 : List jm_c) (hB : iv_in F iv_B0)
    (h0 : (sy_i F 84).toInt < 64)
    (h1 : (sy_i F 83).toInt = 0)
    (k : ∀ F1 : Nat → sy_d, (∀ j, j < 82 → True → F1 j = F j) → Q (some (.int (sy_i F 82))) (sy_dh F1 X1 X2 (iv_H 1))) :
    hd_W Ls xs d jm_M131 Q (7, sy_dL F [none, none, some (.inr (.inl 82)), some (.inr (.inl 83)), some (.inr (.inl 84)), none], sy_dS F [], sy_dh F X1 X2 (iv_H 1), 0, 0) := by
  refine hd_ret (s := 1) (nv := 85) (v := some (.inr (.inl 82))) (uh := hd_ov (iv_id 0 iv_B0) []) (f := true) (sp := [7]) (d0 := 0) (O := [false, true]) (T := []) (P := [(5, .inl (.int 64), .inr (.inl 84)), (0, .inr (.inl 83), .inl (.int 0))]) jm_ok131 (by decide +kernel) (by decide +kernel) hd F X1 X2 (fun F' hF hs => ?_)
  have b84 := hd_b (F := F) (F' := F') (k := 84) (hF 84 (by decide))
  have b83 := hd_b (F := F) (F' := F') (k := 83) (hF 83 (by decide))
  have b82 := hd_b (F := F) (F' := F') (k := 82) (hF 82 (by decide))
  have hB' : iv_in F' iv_B0 := iv_in_eq hB (fun j hj => hF j (Nat.lt_of_lt_of_le hj (by decide +kernel)))
  have hk := k (sy_cm F' (hd_ov (iv_id 0 iv_B0) [] ++ [])) (fun j hj _ => (hd_keep hB' (Nat.lt_of_lt_of_le hj (by decide +kernel)) (by simp)).trans (hF j (Nat.lt_of_lt_of_le hj (by decide))))
  refine ⟨List.forall_mem_cons.mpr ⟨hd_p5 rfl b84 (by have hc : ((64) : Int32).toInt = 64 := (by decide); omega), List.forall_mem_cons.mpr ⟨hd_p0 b83 rfl (by have hc : ((0) : Int32).toInt = 0 := (by decide); omega), fun _ h => absurd h List.not_mem_nil⟩⟩, ?_⟩
  show Q (some (sy_dv F' (.inr (.inl 82)))) _
  rw [b82]
  exact hk
theorem j1gd_7_p2 {Ls : Nat} {xs : Nat → Int32} {d : Nat} {Q : Option Value → jm_h → Prop} (hd : 1 ≤ d) (F : Nat → sy_d) (X1 X2 : List jm_c) (hB : iv_in F iv_B0)
    (h0 : (sy_i F 84).toInt < 64)
    (h1 : (sy_i F 83).toInt ≠ 0)
    (h2 : (sy_i F 83).toInt ≠ 0)
    (k : ∀ F1 : Nat → sy_d, (∀ j, j < 82 → True → F1 j = F j) → F1 82 = .inl (.int (sy_i F 83)) → F1 83 = .inl (.int ((sy_i F 82) - (sy_i F 82) / (sy_i F 83) * (sy_i F 83))) → F1 84 = .inl (.int ((sy_i F 84) + ((1 : Int32)))) → hd_W Ls xs d jm_M131 Q (7, sy_dL F1 [none, none, some (.inr (.inl 82)), some (.inr (.inl 83)), some (.inr (.inl 84)), none], sy_dS F1 [], sy_dh F1 X1 X2 (iv_H 1), 0, 0)) :
    hd_W Ls xs d jm_M131 Q (7, sy_dL F [none, none, some (.inr (.inl 82)), some (.inr (.inl 83)), some (.inr (.inl 84)), none], sy_dS F [], sy_dh F X1 X2 (iv_H 1), 0, 0) := by
  refine hd_run (s := 1) (nv := 85) (pc := 7) (L := [none, none, some (.inr (.inl 82)), some (.inr (.inl 83)), some (.inr (.inl 84)), none]) (S := []) (uh := hd_ov (iv_id 0 iv_B0) []) (ul := [.inl (.inr (.inl 83)), .inl (.inr (.inl 85)), .inl (.inr (.inl 86))]) (f := true) (sp := [7]) (d0 := 0) (O := [false, false]) (T := [(10, [.inr (.inl 82), .inr (.inl 83)], []), (0, [.inr (.inl 84), .inl (.int 1)], [])]) (P := [(5, .inl (.int 64), .inr (.inl 84)), (1, .inr (.inl 83), .inl (.int 0)), (1, .inr (.inl 83), .inl (.int 0))]) jm_ok131 (by decide +kernel) (by decide +kernel) hd F X1 X2 (fun F' hF hs => ?_)
  have b84 := hd_b (F := F) (F' := F') (k := 84) (hF 84 (by decide))
  have b83 := hd_b (F := F) (F' := F') (k := 83) (hF 83 (by decide))
  have b82 := hd_b (F := F) (F' := F') (k := 82) (hF 82 (by decide))
  have t85 : sy_dv F' (.inr (.inl 85)) = .int ((sy_i F 82) - (sy_i F 82) / (sy_i F 83) * (sy_i F 83)) := hd_o (hs 0 _ rfl) b82 b83 rfl
  have t86 : sy_dv F' (.inr (.inl 86)) = .int ((sy_i F 84) + ((1 : Int32))) := hd_o (hs 1 _ rfl) b84 rfl rfl
  have hB' : iv_in F' iv_B0 := iv_in_eq hB (fun j hj => hF j (Nat.lt_of_lt_of_le hj (by decide +kernel)))
  refine ⟨List.forall_mem_cons.mpr ⟨hd_p5 rfl b84 (by have hc : ((64) : Int32).toInt = 64 := (by decide); omega), List.forall_mem_cons.mpr ⟨hd_p1 b83 rfl (by have hc : ((0) : Int32).toInt = 0 := (by decide); omega), List.forall_mem_cons.mpr ⟨hd_p1 b83 rfl (by have hc : ((0) : Int32).toInt = 0 := (by decide); omega), fun _ h => absurd h List.not_mem_nil⟩⟩⟩, ?_⟩
  refine k _ ?_ ?_ ?_ ?_
  · exact fun j hj _ => (hd_keep hB' (Nat.lt_of_lt_of_le hj (by decide +kernel)) (by simp)).trans (hF j (Nat.lt_of_lt_of_le hj (by decide)))
  · exact hd_gi (x := .inr (.inl 83)) (by decide +kernel) b83
  · exact hd_gi (x := .inr (.inl 85)) (by decide +kernel) t85
  · exact hd_gi (x := .inr (.inl 86)) (by decide +kernel) t86
theorem j1gd_7 {Ls : Nat} {xs : Nat → Int32} {d : Nat} {Q : Option Value → jm_h → Prop} (hd : 1 ≤ d) (F : Nat → sy_d) (X1 X2 : List jm_c) (hB : iv_in F iv_B0)
    (a82 : 0 ≤ (sy_i F 82).toInt ∧ (sy_i F 82).toInt ≤ 100000000)
    (a83 : 0 ≤ (sy_i F 83).toInt ∧ (sy_i F 83).toInt ≤ 100000000)
    (a84 : 0 ≤ (sy_i F 84).toInt ∧ (sy_i F 84).toInt ≤ 64)
    (k0 : 64 ≤ (sy_i F 84).toInt → ∀ F1 : Nat → sy_d, iv_in F1 iv_B0 → (∀ j, j < 82 → j ∉ ([] : List Nat) → F1 j = F j) → Q (some (.int (sy_i F 82))) (sy_dh F1 X1 X2 (iv_H 1)))
    (k1 : (sy_i F 84).toInt < 64 → (sy_i F 83).toInt = 0 → ∀ F1 : Nat → sy_d, iv_in F1 iv_B0 → (∀ j, j < 82 → j ∉ ([] : List Nat) → F1 j = F j) → Q (some (.int (sy_i F 82))) (sy_dh F1 X1 X2 (iv_H 1)))
    (k2 : (sy_i F 84).toInt < 64 → (sy_i F 83).toInt ≠ 0 → ∀ F1 : Nat → sy_d, iv_in F1 iv_B0 → (∀ j, j < 82 → j ∉ ([] : List Nat) → F1 j = F j) → (sy_i F1 82).toInt = (sy_i F 83).toInt → sy_i F1 82 = sy_i F 83 → (sy_i F1 83).toInt = ((sy_i F 82) - (sy_i F 82) / (sy_i F 83) * (sy_i F 83)).toInt → sy_i F1 83 = (sy_i F 82) - (sy_i F 82) / (sy_i F 83) * (sy_i F 83) → (sy_i F1 84).toInt = ((sy_i F 84).toInt + 1) → sy_i F1 84 = (sy_i F 84) + ((1 : Int32)) → hd_W Ls xs d jm_M131 Q (7, sy_dL F1 [none, none, some (.inr (.inl 82)), some (.inr (.inl 83)), some (.inr (.inl 84)), none], sy_dS F1 [], sy_dh F1 X1 X2 (iv_H 1), 0, 0)) :
    hd_W Ls xs d jm_M131 Q (7, sy_dL F [none, none, some (.inr (.inl 82)), some (.inr (.inl 83)), some (.inr (.inl 84)), none], sy_dS F [], sy_dh F X1 X2 (iv_H 1), 0, 0) := by
  by_cases g0 : 64 ≤ (sy_i F 84).toInt
  · exact j1gd_7_p0 hd F X1 X2 hB (by first | exact g0 | (simp only [nz_c]; exact g0)) (fun F1 g  => by rw [(rfl : sy_i F 82 = sy_i F 82)]; exact k0 g0 F1 (nz_in0 hB [] (fun j hj hn => g j hj (by simp only [List.mem_cons, List.not_mem_nil, or_false, not_or] at hn; exact trivial)) (List.forall_mem_nil _)) (fun j hj hn => g j hj (by simp only [List.mem_cons, List.not_mem_nil, or_false, not_or] at hn; exact trivial)) )
  replace g0 : (sy_i F 84).toInt < 64 := by omega
  by_cases g1 : (sy_i F 83).toInt = 0
  · exact j1gd_7_p1 hd F X1 X2 hB (by first | exact g0 | (simp only [nz_c]; exact g0)) (by first | exact g1 | (simp only [nz_c]; exact g1)) (fun F1 g  => by rw [(rfl : sy_i F 82 = sy_i F 82)]; exact k1 g0 g1 F1 (nz_in0 hB [] (fun j hj hn => g j hj (by simp only [List.mem_cons, List.not_mem_nil, or_false, not_or] at hn; exact trivial)) (List.forall_mem_nil _)) (fun j hj hn => g j hj (by simp only [List.mem_cons, List.not_mem_nil, or_false, not_or] at hn; exact trivial)) )
  replace g1 : (sy_i F 83).toInt ≠ 0 := by omega
  have n85 : nzI ((sy_i F 82) - (sy_i F 82) / (sy_i F 83) * (sy_i F 83)) (((sy_i F 82) - (sy_i F 82) / (sy_i F 83) * (sy_i F 83)).toInt) := congrArg Int32.toInt (rfl : (sy_i F 82) - (sy_i F 82) / (sy_i F 83) * (sy_i F 83) = (sy_i F 82) - (sy_i F 82) / (sy_i F 83) * (sy_i F 83))
  have n86 : nzI ((sy_i F 84) + ((1 : Int32))) (((sy_i F 84).toInt + 1)) := nz_add (rfl : (sy_i F 84).toInt = (sy_i F 84).toInt) (by decide : ((1 : Int32)).toInt = 1) (by omega) (by omega)
  exact j1gd_7_p2 hd F X1 X2 hB (by first | exact g0 | (simp only [nz_c]; exact g0)) (by first | exact g1 | (simp only [nz_c]; exact g1)) (by first | exact g1 | (simp only [nz_c]; exact g1)) (fun F1 g e82 e83 e84 => k2 g0 g1 F1 (nz_in0 hB [] (fun j hj hn => g j hj (by simp only [List.mem_cons, List.not_mem_nil, or_false, not_or] at hn; exact trivial)) (List.forall_mem_nil _)) (fun j hj hn => g j hj (by simp only [List.mem_cons, List.not_mem_nil, or_false, not_or] at hn; exact trivial)) ((congrArg Int32.toInt (zz_i e82)).trans (rfl : (sy_i F 83).toInt = (sy_i F 83).toInt)) ((zz_i e82).trans (rfl : sy_i F 83 = sy_i F 83)) ((congrArg Int32.toInt (zz_i e83)).trans (nzE n85)) ((zz_i e83).trans (rfl : (sy_i F 82) - (sy_i F 82) / (sy_i F 83) * (sy_i F 83) = (sy_i F 82) - (sy_i F 82) / (sy_i F 83) * (sy_i F 83))) ((congrArg Int32.toInt (zz_i e84)).trans (nzE n86)) ((zz_i e84).trans (rfl : (sy_i F 84) + ((1 : Int32)) = (sy_i F 84) + ((1 : Int32)))))
theorem j1hg_0_p0 {Ls : Nat} {xs : Nat → Int32} {d : Nat} {Q : Option Value → jm_h → Prop} (hd : 2 ≤ d) (F : Nat → sy_d) (X1 X2 : List jm_c) (hB : iv_in F iv_B0)
    (h0 : (sy_i F 82).toInt < 0)
    (k : ∀ F1 : Nat → sy_d, (∀ j, j < 82 → True → F1 j = F j) → Q (some (.int (((-1) : Int32)))) (sy_dh F1 X1 X2 (iv_H 1))) :
    hd_W Ls xs d jm_M93 Q (0, sy_dL F [some (.inl (.ref 8)), some (.inr (.inl 82)), some (.inr (.inl 83)), some (.inr (.inl 84)), none, none, none], sy_dS F [], sy_dh F X1 X2 (iv_H 1), 0, 0) := by
  refine hd_ret (s := 1) (nv := 85) (v := some (.inl (.int (-1)))) (uh := hd_ov (iv_id 0 iv_B0) []) (f := true) (sp := [57]) (d0 := 1) (O := [true]) (T := []) (P := [(2, .inr (.inl 82), .inl (.int 0))]) jm_ok93 (by decide +kernel) (by decide +kernel) hd F X1 X2 (fun F' hF hs => ?_)
  have b82 := hd_b (F := F) (F' := F') (k := 82) (hF 82 (by decide))
  have hB' : iv_in F' iv_B0 := iv_in_eq hB (fun j hj => hF j (Nat.lt_of_lt_of_le hj (by decide +kernel)))
  refine ⟨List.forall_mem_cons.mpr ⟨hd_p2 b82 rfl (by have hc : ((0) : Int32).toInt = 0 := (by decide); omega), fun _ h => absurd h List.not_mem_nil⟩, ?_⟩
  refine k _ ?_
  · exact fun j hj _ => (hd_keep hB' (Nat.lt_of_lt_of_le hj (by decide +kernel)) (by simp)).trans (hF j (Nat.lt_of_lt_of_le hj (by decide)))
theorem j1hg_0_p1 {Ls : Nat} {xs : Nat → Int32} {d : Nat} {Q : Option Value → jm_h → Prop} (hd : 2 ≤ d) (F : Nat → sy_d) (X1 X2 : List jm_c) (hB : iv_in F iv_B0)
    (h0 : 0 ≤ (sy_i F 82).toInt)
    (h1 : (sy_i F 3).toInt ≤ (sy_i F 82).toInt)
    (k : ∀ F1 : Nat → sy_d, (∀ j, j < 82 → True → F1 j = F j) → Q (some (.int (((-1) : Int32)))) (sy_dh F1 X1 X2 (iv_H 1))) :
    hd_W Ls xs d jm_M93 Q (0, sy_dL F [some (.inl (.ref 8)), some (.inr (.inl 82)), some (.inr (.inl 83)), some (.inr (.inl 84)), none, none, none], sy_dS F [], sy_dh F X1 X2 (iv_H 1), 0, 0) := by
  refine hd_ret (s := 1) (nv := 85) (v := some (.inl (.int (-1)))) (uh := hd_ov (iv_id 0 iv_B0) []) (f := true) (sp := [57]) (d0 := 1) (O := [false, true]) (T := []) (P := [(3, .inr (.inl 82), .inl (.int 0)), (4, .inr (.inl 3), .inr (.inl 82))]) jm_ok93 (by decide +kernel) (by decide +kernel) hd F X1 X2 (fun F' hF hs => ?_)
  have b82 := hd_b (F := F) (F' := F') (k := 82) (hF 82 (by decide))
  have b3 := hd_b (F := F) (F' := F') (k := 3) (hF 3 (by decide))
  have hB' : iv_in F' iv_B0 := iv_in_eq hB (fun j hj => hF j (Nat.lt_of_lt_of_le hj (by decide +kernel)))
  refine ⟨List.forall_mem_cons.mpr ⟨hd_p3 b82 rfl (by have hc : ((0) : Int32).toInt = 0 := (by decide); omega), List.forall_mem_cons.mpr ⟨hd_p4 b3 b82 h1, fun _ h => absurd h List.not_mem_nil⟩⟩, ?_⟩
  refine k _ ?_
  · exact fun j hj _ => (hd_keep hB' (Nat.lt_of_lt_of_le hj (by decide +kernel)) (by simp)).trans (hF j (Nat.lt_of_lt_of_le hj (by decide)))
theorem j1hg_0_p2 {Ls : Nat} {xs : Nat → Int32} {d : Nat} {Q : Option Value → jm_h → Prop} (hd : 2 ≤ d) (F : Nat → sy_d) (X1 X2 : List jm_c) (hB : iv_in F iv_B0)
    (h0 : 0 ≤ (sy_i F 82).toInt)
    (h1 : (sy_i F 82).toInt < (sy_i F 3).toInt)
    (h2 : (sy_i F 83).toInt < 1)
    (k : ∀ F1 : Nat → sy_d, (∀ j, j < 82 → True → F1 j = F j) → Q (some (.int (((-1) : Int32)))) (sy_dh F1 X1 X2 (iv_H 1))) :
    hd_W Ls xs d jm_M93 Q (0, sy_dL F [some (.inl (.ref 8)), some (.inr (.inl 82)), some (.inr (.inl 83)), some (.inr (.inl 84)), none, none, none], sy_dS F [], sy_dh F X1 X2 (iv_H 1), 0, 0) := by
  refine hd_ret (s := 1) (nv := 85) (v := some (.inl (.int (-1)))) (uh := hd_ov (iv_id 0 iv_B0) []) (f := true) (sp := [57]) (d0 := 1) (O := [false, false, true]) (T := []) (P := [(3, .inr (.inl 82), .inl (.int 0)), (5, .inr (.inl 3), .inr (.inl 82)), (2, .inr (.inl 83), .inl (.int 1))]) jm_ok93 (by decide +kernel) (by decide +kernel) hd F X1 X2 (fun F' hF hs => ?_)
  have b82 := hd_b (F := F) (F' := F') (k := 82) (hF 82 (by decide))
  have b3 := hd_b (F := F) (F' := F') (k := 3) (hF 3 (by decide))
  have b83 := hd_b (F := F) (F' := F') (k := 83) (hF 83 (by decide))
  have hB' : iv_in F' iv_B0 := iv_in_eq hB (fun j hj => hF j (Nat.lt_of_lt_of_le hj (by decide +kernel)))
  refine ⟨List.forall_mem_cons.mpr ⟨hd_p3 b82 rfl (by have hc : ((0) : Int32).toInt = 0 := (by decide); omega), List.forall_mem_cons.mpr ⟨hd_p5 b3 b82 h1, List.forall_mem_cons.mpr ⟨hd_p2 b83 rfl (by have hc : ((1) : Int32).toInt = 1 := (by decide); omega), fun _ h => absurd h List.not_mem_nil⟩⟩⟩, ?_⟩
  refine k _ ?_
  · exact fun j hj _ => (hd_keep hB' (Nat.lt_of_lt_of_le hj (by decide +kernel)) (by simp)).trans (hF j (Nat.lt_of_lt_of_le hj (by decide)))
theorem j1hg_0_p3 {Ls : Nat} {xs : Nat → Int32} {d : Nat} {Q : Option Value → jm_h → Prop} (hd : 2 ≤ d) (F : Nat → sy_d) (X1 X2 : List jm_c) (hB : iv_in F iv_B0)
    (h0 : 0 ≤ (sy_i F 82).toInt)
    (h1 : (sy_i F 82).toInt < (sy_i F 3).toInt)
    (h2 : 1 ≤ (sy_i F 83).toInt)
    (h3 : 4 < (sy_i F 83).toInt)
    (k : ∀ F1 : Nat → sy_d, (∀ j, j < 82 → True → F1 j = F j) → Q (some (.int (((-1) : Int32)))) (sy_dh F1 X1 X2 (iv_H 1))) :
    hd_W Ls xs d jm_M93 Q (0, sy_dL F [some (.inl (.ref 8)), some (.inr (.inl 82)), some (.inr (.inl 83)), some (.inr (.inl 84)), none, none, none], sy_dS F [], sy_dh F X1 X2 (iv_H 1), 0, 0) := by
  refine hd_ret (s := 1) (nv := 85) (v := some (.inl (.int (-1)))) (uh := hd_ov (iv_id 0 iv_B0) []) (f := true) (sp := [57]) (d0 := 1) (O := [false, false, false, true]) (T := []) (P := [(3, .inr (.inl 82), .inl (.int 0)), (5, .inr (.inl 3), .inr (.inl 82)), (3, .inr (.inl 83), .inl (.int 1)), (2, .inl (.int 4), .inr (.inl 83))]) jm_ok93 (by decide +kernel) (by decide +kernel) hd F X1 X2 (fun F' hF hs => ?_)
  have b82 := hd_b (F := F) (F' := F') (k := 82) (hF 82 (by decide))
  have b3 := hd_b (F := F) (F' := F') (k := 3) (hF 3 (by decide))
  have b83 := hd_b (F := F) (F' := F') (k := 83) (hF 83 (by decide))
  have hB' : iv_in F' iv_B0 := iv_in_eq hB (fun j hj => hF j (Nat.lt_of_lt_of_le hj (by decide +kernel)))
  refine ⟨List.forall_mem_cons.mpr ⟨hd_p3 b82 rfl (by have hc : ((0) : Int32).toInt = 0 := (by decide); omega), List.forall_mem_cons.mpr ⟨hd_p5 b3 b82 h1, List.forall_mem_cons.mpr ⟨hd_p3 b83 rfl (by have hc : ((1) : Int32).toInt = 1 := (by decide); omega), List.forall_mem_cons.mpr ⟨hd_p2 rfl b83 (by have hc : ((4) : Int32).toInt = 4 := (by decide); omega), fun _ h => absurd h List.not_mem_nil⟩⟩⟩⟩, ?_⟩
  refine k _ ?_
  · exact fun j hj _ => (hd_keep hB' (Nat.lt_of_lt_of_le hj (by decide +kernel)) (by simp)).trans (hF j (Nat.lt_of_lt_of_le hj (by decide)))
theorem j1hg_0_p4 {Ls : Nat} {xs : Nat → Int32} {d : Nat} {Q : Option Value → jm_h → Prop} (hd : 2 ≤ d) (F : Nat → sy_d) (X1 X2 : List jm_c) (hB : iv_in F iv_B0)
    (h0 : 0 ≤ (sy_i F 82).toInt)
    (h1 : (sy_i F 82).toInt < (sy_i F 3).toInt)
    (h2 : 1 ≤ (sy_i F 83).toInt)
    (h3 : (sy_i F 83).toInt ≤ 4)
    (h4 : 0 ≤ (sy_i F 82).toInt ∧ (sy_i F 82).toInt < 7)
    (h5 : ((sy_ai F 54).getD (sy_i F 82).toNatClampNeg 0).toInt = 0)
    (h6 : 0 ≤ (sy_i F 82).toInt ∧ (sy_i F 82).toInt < 7)
    (k : ∀ F1 : Nat → sy_d, (∀ j, j < 82 → True → F1 j = F j) → F1 82 = .inl (.int (sy_i F 82)) → F1 83 = .inl (.int (sy_i F 83)) → F1 84 = .inl (.int (sy_i F 84)) → F1 85 = .inl (.int (sy_i F 82)) → F1 86 = .inl (.int (sy_i F 83)) → F1 87 = .inl (.int ((sy_ai F 57).getD (sy_i F 82).toNatClampNeg 0)) → hd_W Ls xs d jm_M93 Q (57, sy_dL F1 [some (.inl (.ref 8)), some (.inr (.inl 82)), some (.inr (.inl 83)), some (.inr (.inl 84)), none, none, none], sy_dS F1 [.inr (.inl 87), .inr (.inl 86), .inr (.inl 85), .inl (.ref 46), .inl (.ref 10), .inl (.ref 42)], sy_dh F1 X1 X2 (iv_H 1), 0, 0)) :
    hd_W Ls xs d jm_M93 Q (0, sy_dL F [some (.inl (.ref 8)), some (.inr (.inl 82)), some (.inr (.inl 83)), some (.inr (.inl 84)), none, none, none], sy_dS F [], sy_dh F X1 X2 (iv_H 1), 0, 0) := by
  refine hd_run (s := 1) (nv := 85) (pc := 57) (L := [some (.inl (.ref 8)), some (.inr (.inl 82)), some (.inr (.inl 83)), some (.inr (.inl 84)), none, none, none]) (S := [.inr (.inl 87), .inr (.inl 86), .inr (.inl 85), .inl (.ref 46), .inl (.ref 10), .inl (.ref 42)]) (uh := hd_ov (iv_id 0 iv_B0) []) (ul := [.inl (.inr (.inl 82)), .inl (.inr (.inl 83)), .inl (.inr (.inl 84)), .inl (.inr (.inl 82)), .inl (.inr (.inl 83)), .inl (.inr (.inl 86))]) (f := true) (sp := [57]) (d0 := 1) (O := [false, false, false, false, true]) (T := [(30, [.inr (.inl 82)], [.inr (.inl 54)]), (30, [.inr (.inl 82)], [.inr (.inl 57)])]) (P := [(3, .inr (.inl 82), .inl (.int 0)), (5, .inr (.inl 3), .inr (.inl 82)), (3, .inr (.inl 83), .inl (.int 1)), (3, .inl (.int 4), .inr (.inl 83)), (6, .inr (.inl 82), .inl (.ref 7)), (0, .inr (.inl 85), .inl (.int 0)), (6, .inr (.inl 82), .inl (.ref 7))]) jm_ok93 (by decide +kernel) (by decide +kernel) hd F X1 X2 (fun F' hF hs => ?_)
  have b82 := hd_b (F := F) (F' := F') (k := 82) (hF 82 (by decide))
  have b3 := hd_b (F := F) (F' := F') (k := 3) (hF 3 (by decide))
  have b83 := hd_b (F := F) (F' := F') (k := 83) (hF 83 (by decide))
  have a54 := hd_ba (F := F) (F' := F') (k := 54) (hF 54 (by decide))
  have t85 : sy_dv F' (.inr (.inl 85)) = .int ((sy_ai F 54).getD (sy_i F 82).toNatClampNeg 0) := hd_rd (hs 0 _ rfl) b82 a54
  have b84 := hd_b (F := F) (F' := F') (k := 84) (hF 84 (by decide))
  have a57 := hd_ba (F := F) (F' := F') (k := 57) (hF 57 (by decide))
  have t86 : sy_dv F' (.inr (.inl 86)) = .int ((sy_ai F 57).getD (sy_i F 82).toNatClampNeg 0) := hd_rd (hs 1 _ rfl) b82 a57
  have hB' : iv_in F' iv_B0 := iv_in_eq hB (fun j hj => hF j (Nat.lt_of_lt_of_le hj (by decide +kernel)))
  refine ⟨List.forall_mem_cons.mpr ⟨hd_p3 b82 rfl (by have hc : ((0) : Int32).toInt = 0 := (by decide); omega), List.forall_mem_cons.mpr ⟨hd_p5 b3 b82 h1, List.forall_mem_cons.mpr ⟨hd_p3 b83 rfl (by have hc : ((1) : Int32).toInt = 1 := (by decide); omega), List.forall_mem_cons.mpr ⟨hd_p3 rfl b83 (by have hc : ((4) : Int32).toInt = 4 := (by decide); omega), List.forall_mem_cons.mpr ⟨hd_pb b82 (by first | exact h4 | exact h4), List.forall_mem_cons.mpr ⟨hd_p0 t85 rfl (by have hc : ((0) : Int32).toInt = 0 := (by decide); omega), List.forall_mem_cons.mpr ⟨hd_pb b82 (by first | exact h6 | exact h6), fun _ h => absurd h List.not_mem_nil⟩⟩⟩⟩⟩⟩⟩, ?_⟩
  refine k _ ?_ ?_ ?_ ?_ ?_ ?_ ?_
  · exact fun j hj _ => (hd_keep hB' (Nat.lt_of_lt_of_le hj (by decide +kernel)) (by simp)).trans (hF j (Nat.lt_of_lt_of_le hj (by decide)))
  · exact hd_gi (x := .inr (.inl 82)) (by decide +kernel) b82
  · exact hd_gi (x := .inr (.inl 83)) (by decide +kernel) b83
  · exact hd_gi (x := .inr (.inl 84)) (by decide +kernel) b84
  · exact hd_gi (x := .inr (.inl 82)) (by decide +kernel) b82
  · exact hd_gi (x := .inr (.inl 83)) (by decide +kernel) b83
  · exact hd_gi (x := .inr (.inl 86)) (by decide +kernel) t86
theorem j1hg_0_p5 {Ls : Nat} {xs : Nat → Int32} {d : Nat} {Q : Option Value → jm_h → Prop} (hd : 2 ≤ d) (F : Nat → sy_d) (X1 X2 : List jm_c) (hB : iv_in F iv_B0)
    (h0 : 0 ≤ (sy_i F 82).toInt)
    (h1 : (sy_i F 82).toInt < (sy_i F 3).toInt)
    (h2 : 1 ≤ (sy_i F 83).toInt)
    (h3 : (sy_i F 83).toInt ≤ 4)
    (h4 : 0 ≤ (sy_i F 82).toInt ∧ (sy_i F 82).toInt < 7)
    (h5 : ((sy_ai F 54).getD (sy_i F 82).toNatClampNeg 0).toInt ≠ 0)
    (k : ∀ F1 : Nat → sy_d, (∀ j, j < 82 → True → F1 j = F j) → Q (some (.int (((-2) : Int32)))) (sy_dh F1 X1 X2 (iv_H 1))) :
    hd_W Ls xs d jm_M93 Q (0, sy_dL F [some (.inl (.ref 8)), some (.inr (.inl 82)), some (.inr (.inl 83)), some (.inr (.inl 84)), none, none, none], sy_dS F [], sy_dh F X1 X2 (iv_H 1), 0, 0) := by
  refine hd_ret (s := 1) (nv := 85) (v := some (.inl (.int (-2)))) (uh := hd_ov (iv_id 0 iv_B0) []) (f := true) (sp := [57]) (d0 := 1) (O := [false, false, false, false, false]) (T := [(30, [.inr (.inl 82)], [.inr (.inl 54)])]) (P := [(3, .inr (.inl 82), .inl (.int 0)), (5, .inr (.inl 3), .inr (.inl 82)), (3, .inr (.inl 83), .inl (.int 1)), (3, .inl (.int 4), .inr (.inl 83)), (6, .inr (.inl 82), .inl (.ref 7)), (1, .inr (.inl 85), .inl (.int 0))]) jm_ok93 (by decide +kernel) (by decide +kernel) hd F X1 X2 (fun F' hF hs => ?_)
  have b82 := hd_b (F := F) (F' := F') (k := 82) (hF 82 (by decide))
  have b3 := hd_b (F := F) (F' := F') (k := 3) (hF 3 (by decide))
  have b83 := hd_b (F := F) (F' := F') (k := 83) (hF 83 (by decide))
  have a54 := hd_ba (F := F) (F' := F') (k := 54) (hF 54 (by decide))
  have t85 : sy_dv F' (.inr (.inl 85)) = .int ((sy_ai F 54).getD (sy_i F 82).toNatClampNeg 0) := hd_rd (hs 0 _ rfl) b82 a54
  have hB' : iv_in F' iv_B0 := iv_in_eq hB (fun j hj => hF j (Nat.lt_of_lt_of_le hj (by decide +kernel)))
  refine ⟨List.forall_mem_cons.mpr ⟨hd_p3 b82 rfl (by have hc : ((0) : Int32).toInt = 0 := (by decide); omega), List.forall_mem_cons.mpr ⟨hd_p5 b3 b82 h1, List.forall_mem_cons.mpr ⟨hd_p3 b83 rfl (by have hc : ((1) : Int32).toInt = 1 := (by decide); omega), List.forall_mem_cons.mpr ⟨hd_p3 rfl b83 (by have hc : ((4) : Int32).toInt = 4 := (by decide); omega), List.forall_mem_cons.mpr ⟨hd_pb b82 (by first | exact h4 | exact h4), List.forall_mem_cons.mpr ⟨hd_p1 t85 rfl (by have hc : ((0) : Int32).toInt = 0 := (by decide); omega), fun _ h => absurd h List.not_mem_nil⟩⟩⟩⟩⟩⟩, ?_⟩
  refine k _ ?_
  · exact fun j hj _ => (hd_keep hB' (Nat.lt_of_lt_of_le hj (by decide +kernel)) (by simp)).trans (hF j (Nat.lt_of_lt_of_le hj (by decide)))
theorem j1hg_0 {Ls : Nat} {xs : Nat → Int32} {d : Nat} {Q : Option Value → jm_h → Prop} (hd : 2 ≤ d) (F : Nat → sy_d) (X1 X2 : List jm_c) (hB : iv_in F iv_B0)
    (k0 : (sy_i F 82).toInt < 0 → ∀ F1 : Nat → sy_d, iv_in F1 iv_B0 → (∀ j, j < 82 → j ∉ ([] : List Nat) → F1 j = F j) → Q (some (.int (((-1) : Int32)))) (sy_dh F1 X1 X2 (iv_H 1)))
    (k1 : 0 ≤ (sy_i F 82).toInt → (sy_i F 3).toInt ≤ (sy_i F 82).toInt → ∀ F1 : Nat → sy_d, iv_in F1 iv_B0 → (∀ j, j < 82 → j ∉ ([] : List Nat) → F1 j = F j) → Q (some (.int (((-1) : Int32)))) (sy_dh F1 X1 X2 (iv_H 1)))
    (k2 : 0 ≤ (sy_i F 82).toInt → (sy_i F 82).toInt < (sy_i F 3).toInt → (sy_i F 83).toInt < 1 → ∀ F1 : Nat → sy_d, iv_in F1 iv_B0 → (∀ j, j < 82 → j ∉ ([] : List Nat) → F1 j = F j) → Q (some (.int (((-1) : Int32)))) (sy_dh F1 X1 X2 (iv_H 1)))
    (k3 : 0 ≤ (sy_i F 82).toInt → (sy_i F 82).toInt < (sy_i F 3).toInt → 1 ≤ (sy_i F 83).toInt → 4 < (sy_i F 83).toInt → ∀ F1 : Nat → sy_d, iv_in F1 iv_B0 → (∀ j, j < 82 → j ∉ ([] : List Nat) → F1 j = F j) → Q (some (.int (((-1) : Int32)))) (sy_dh F1 X1 X2 (iv_H 1)))
    (k4 : 0 ≤ (sy_i F 82).toInt → (sy_i F 82).toInt < (sy_i F 3).toInt → 1 ≤ (sy_i F 83).toInt → (sy_i F 83).toInt ≤ 4 → ((sy_ai F 54).getD ((sy_i F 82).toInt).toNat 0).toInt = 0 → ∀ F1 : Nat → sy_d, iv_in F1 iv_B0 → (∀ j, j < 82 → j ∉ ([] : List Nat) → F1 j = F j) → (sy_i F1 82).toInt = (sy_i F 82).toInt → sy_i F1 82 = sy_i F 82 → (sy_i F1 83).toInt = (sy_i F 83).toInt → sy_i F1 83 = sy_i F 83 → (sy_i F1 84).toInt = (sy_i F 84).toInt → sy_i F1 84 = sy_i F 84 → (sy_i F1 85).toInt = (sy_i F 82).toInt → sy_i F1 85 = sy_i F 82 → (sy_i F1 86).toInt = (sy_i F 83).toInt → sy_i F1 86 = sy_i F 83 → (sy_i F1 87).toInt = ((sy_ai F 57).getD ((sy_i F 82).toInt).toNat 0).toInt → sy_i F1 87 = (sy_ai F 57).getD ((sy_i F 82).toInt).toNat 0 → hd_W Ls xs d jm_M93 Q (57, sy_dL F1 [some (.inl (.ref 8)), some (.inr (.inl 82)), some (.inr (.inl 83)), some (.inr (.inl 84)), none, none, none], sy_dS F1 [.inr (.inl 87), .inr (.inl 86), .inr (.inl 85), .inl (.ref 46), .inl (.ref 10), .inl (.ref 42)], sy_dh F1 X1 X2 (iv_H 1), 0, 0))
    (k5 : 0 ≤ (sy_i F 82).toInt → (sy_i F 82).toInt < (sy_i F 3).toInt → 1 ≤ (sy_i F 83).toInt → (sy_i F 83).toInt ≤ 4 → ((sy_ai F 54).getD ((sy_i F 82).toInt).toNat 0).toInt ≠ 0 → ∀ F1 : Nat → sy_d, iv_in F1 iv_B0 → (∀ j, j < 82 → j ∉ ([] : List Nat) → F1 j = F j) → Q (some (.int (((-2) : Int32)))) (sy_dh F1 X1 X2 (iv_H 1))) :
    hd_W Ls xs d jm_M93 Q (0, sy_dL F [some (.inl (.ref 8)), some (.inr (.inl 82)), some (.inr (.inl 83)), some (.inr (.inl 84)), none, none, none], sy_dS F [], sy_dh F X1 X2 (iv_H 1), 0, 0) := by
  by_cases g0 : (sy_i F 82).toInt < 0
  · exact j1hg_0_p0 hd F X1 X2 hB (by first | exact g0 | (simp only [nz_c]; exact g0)) (fun F1 g  => k0 g0 F1 (nz_in0 hB [] (fun j hj hn => g j hj (by simp only [List.mem_cons, List.not_mem_nil, or_false, not_or] at hn; exact trivial)) (List.forall_mem_nil _)) (fun j hj hn => g j hj (by simp only [List.mem_cons, List.not_mem_nil, or_false, not_or] at hn; exact trivial)) )
  replace g0 : 0 ≤ (sy_i F 82).toInt := by omega
  by_cases g1 : (sy_i F 3).toInt ≤ (sy_i F 82).toInt
  · have c3 := nz_bx hB (k := 3) (lo := 0) (hi := 7) rfl
    exact j1hg_0_p1 hd F X1 X2 hB (by first | exact g0 | (simp only [nz_c]; exact g0)) (by first | exact g1 | (simp only [nz_c]; exact g1)) (fun F1 g  => k1 g0 g1 F1 (nz_in0 hB [] (fun j hj hn => g j hj (by simp only [List.mem_cons, List.not_mem_nil, or_false, not_or] at hn; exact trivial)) (List.forall_mem_nil _)) (fun j hj hn => g j hj (by simp only [List.mem_cons, List.not_mem_nil, or_false, not_or] at hn; exact trivial)) )
  replace g1 : (sy_i F 82).toInt < (sy_i F 3).toInt := by omega
  by_cases g2 : (sy_i F 83).toInt < 1
  · have c3 := nz_bx hB (k := 3) (lo := 0) (hi := 7) rfl
    exact j1hg_0_p2 hd F X1 X2 hB (by first | exact g0 | (simp only [nz_c]; exact g0)) (by first | exact g1 | (simp only [nz_c]; exact g1)) (by first | exact g2 | (simp only [nz_c]; exact g2)) (fun F1 g  => k2 g0 g1 g2 F1 (nz_in0 hB [] (fun j hj hn => g j hj (by simp only [List.mem_cons, List.not_mem_nil, or_false, not_or] at hn; exact trivial)) (List.forall_mem_nil _)) (fun j hj hn => g j hj (by simp only [List.mem_cons, List.not_mem_nil, or_false, not_or] at hn; exact trivial)) )
  replace g2 : 1 ≤ (sy_i F 83).toInt := by omega
  by_cases g3 : 4 < (sy_i F 83).toInt
  · have c3 := nz_bx hB (k := 3) (lo := 0) (hi := 7) rfl
    exact j1hg_0_p3 hd F X1 X2 hB (by first | exact g0 | (simp only [nz_c]; exact g0)) (by first | exact g1 | (simp only [nz_c]; exact g1)) (by first | exact g2 | (simp only [nz_c]; exact g2)) (by first | exact g3 | (simp only [nz_c]; exact g3)) (fun F1 g  => k3 g0 g1 g2 g3 F1 (nz_in0 hB [] (fun j hj hn => g j hj (by simp only [List.mem_cons, List.not_mem_nil, or_false, not_or] at hn; exact trivial)) (List.forall_mem_nil _)) (fun j hj hn => g j hj (by simp only [List.mem_cons, List.not_mem_nil, or_false, not_or] at hn; exact trivial)) )
  replace g3 : (sy_i F 83).toInt ≤ 4 := by omega
  by_cases g4 : ((sy_ai F 54).getD ((sy_i F 82).toInt).toNat 0).toInt = 0
  · have c3 := nz_bx hB (k := 3) (lo := 0) (hi := 7) rfl
    have q85 : (sy_ai F 54).getD (sy_i F 82).toNatClampNeg 0 = (sy_ai F 54).getD ((sy_i F 82).toInt).toNat 0 := by simp only [nz_c]
    have n85 : nzI ((sy_ai F 54).getD (sy_i F 82).toNatClampNeg 0) (((sy_ai F 54).getD ((sy_i F 82).toInt).toNat 0).toInt) := congrArg Int32.toInt q85
    have q86 : (sy_ai F 57).getD (sy_i F 82).toNatClampNeg 0 = (sy_ai F 57).getD ((sy_i F 82).toInt).toNat 0 := by simp only [nz_c]
    have n86 : nzI ((sy_ai F 57).getD (sy_i F 82).toNatClampNeg 0) (((sy_ai F 57).getD ((sy_i F 82).toInt).toNat 0).toInt) := congrArg Int32.toInt q86
    exact j1hg_0_p4 hd F X1 X2 hB (by first | exact g0 | (simp only [nz_c]; exact g0)) (by first | exact g1 | (simp only [nz_c]; exact g1)) (by first | exact g2 | (simp only [nz_c]; exact g2)) (by first | exact g3 | (simp only [nz_c]; exact g3)) (by first | exact ⟨by omega, by omega⟩ | (simp only [nz_c]; exact ⟨by omega, by omega⟩)) (by first | exact g4 | (simp only [nz_c]; exact g4) | (rw [(nzE n85)]; exact g4)) (by first | exact ⟨by omega, by omega⟩ | (simp only [nz_c]; exact ⟨by omega, by omega⟩)) (fun F1 g e82 e83 e84 e85 e86 e87 => k4 g0 g1 g2 g3 g4 F1 (nz_in0 hB [] (fun j hj hn => g j hj (by simp only [List.mem_cons, List.not_mem_nil, or_false, not_or] at hn; exact trivial)) (List.forall_mem_nil _)) (fun j hj hn => g j hj (by simp only [List.mem_cons, List.not_mem_nil, or_false, not_or] at hn; exact trivial)) ((congrArg Int32.toInt (zz_i e82)).trans (rfl : (sy_i F 82).toInt = (sy_i F 82).toInt)) ((zz_i e82).trans (rfl : sy_i F 82 = sy_i F 82)) ((congrArg Int32.toInt (zz_i e83)).trans (rfl : (sy_i F 83).toInt = (sy_i F 83).toInt)) ((zz_i e83).trans (rfl : sy_i F 83 = sy_i F 83)) ((congrArg Int32.toInt (zz_i e84)).trans (rfl : (sy_i F 84).toInt = (sy_i F 84).toInt)) ((zz_i e84).trans (rfl : sy_i F 84 = sy_i F 84)) ((congrArg Int32.toInt (zz_i e85)).trans (rfl : (sy_i F 82).toInt = (sy_i F 82).toInt)) ((zz_i e85).trans (rfl : sy_i F 82 = sy_i F 82)) ((congrArg Int32.toInt (zz_i e86)).trans (rfl : (sy_i F 83).toInt = (sy_i F 83).toInt)) ((zz_i e86).trans (rfl : sy_i F 83 = sy_i F 83)) ((congrArg Int32.toInt (zz_i e87)).trans (nzE n86)) ((zz_i e87).trans q86))
  replace g4 : ((sy_ai F 54).getD ((sy_i F 82).toInt).toNat 0).toInt ≠ 0 := by omega
  have c3 := nz_bx hB (k := 3) (lo := 0) (hi := 7) rfl
  have q85 : (sy_ai F 54).getD (sy_i F 82).toNatClampNeg 0 = (sy_ai F 54).getD ((sy_i F 82).toInt).toNat 0 := by simp only [nz_c]
  have n85 : nzI ((sy_ai F 54).getD (sy_i F 82).toNatClampNeg 0) (((sy_ai F 54).getD ((sy_i F 82).toInt).toNat 0).toInt) := congrArg Int32.toInt q85
  exact j1hg_0_p5 hd F X1 X2 hB (by first | exact g0 | (simp only [nz_c]; exact g0)) (by first | exact g1 | (simp only [nz_c]; exact g1)) (by first | exact g2 | (simp only [nz_c]; exact g2)) (by first | exact g3 | (simp only [nz_c]; exact g3)) (by first | exact ⟨by omega, by omega⟩ | (simp only [nz_c]; exact ⟨by omega, by omega⟩)) (by first | exact g4 | (simp only [nz_c]; exact g4) | (rw [(nzE n85)]; exact g4)) (fun F1 g  => k5 g0 g1 g2 g3 g4 F1 (nz_in0 hB [] (fun j hj hn => g j hj (by simp only [List.mem_cons, List.not_mem_nil, or_false, not_or] at hn; exact trivial)) (List.forall_mem_nil _)) (fun j hj hn => g j hj (by simp only [List.mem_cons, List.not_mem_nil, or_false, not_or] at hn; exact trivial)) )
theorem j1hg_60_p0 {Ls : Nat} {xs : Nat → Int32} {d : Nat} {Q : Option Value → jm_h → Prop} (hd : 1 ≤ d) (F : Nat → sy_d) (X1 X2 : List jm_c) (hB : iv_in F iv_B0)
    (k : ∀ F1 : Nat → sy_d, (∀ j, j < 82 → True → F1 j = F j) → F1 82 = .inl (.int (sy_i F 83)) → F1 83 = .inl (.int (sy_i F 84)) → F1 84 = .inl (.int ((1 : Int32))) → F1 85 = .inl (.int ((1 : Int32))) → F1 86 = .inl (.int ((0 : Int32))) → hd_W Ls xs d jm_M93 Q (69, sy_dL F1 [some (.inl (.ref 8)), none, some (.inr (.inl 82)), some (.inr (.inl 83)), some (.inr (.inl 84)), some (.inr (.inl 85)), some (.inr (.inl 86))], sy_dS F1 [], sy_dh F1 X1 X2 (iv_H 1), 0, 0)) :
    hd_W Ls xs d jm_M93 Q (60, sy_dL F [some (.inl (.ref 8)), some (.inr (.inl 82)), some (.inr (.inl 83)), some (.inr (.inl 84)), none, none, none], sy_dS F [], sy_dh F X1 X2 (iv_H 1), 0, 0) := by
  refine hd_run (s := 1) (nv := 85) (pc := 69) (L := [some (.inl (.ref 8)), none, some (.inr (.inl 82)), some (.inr (.inl 83)), some (.inr (.inl 84)), some (.inr (.inl 85)), some (.inr (.inl 86))]) (S := []) (uh := hd_ov (iv_id 0 iv_B0) []) (ul := [.inl (.inr (.inl 83)), .inl (.inr (.inl 84)), .inl (.inl (.int 1)), .inl (.inl (.int 1)), .inl (.inl (.int 0))]) (f := false) (sp := [69]) (d0 := 0) (O := []) (T := []) (P := []) jm_ok93 (by decide +kernel) (by decide +kernel) hd F X1 X2 (fun F' hF hs => ?_)
  have b83 := hd_b (F := F) (F' := F') (k := 83) (hF 83 (by decide))
  have b84 := hd_b (F := F) (F' := F') (k := 84) (hF 84 (by decide))
  have hB' : iv_in F' iv_B0 := iv_in_eq hB (fun j hj => hF j (Nat.lt_of_lt_of_le hj (by decide +kernel)))
  refine ⟨fun _ h => absurd h List.not_mem_nil, ?_⟩
  refine k _ ?_ ?_ ?_ ?_ ?_ ?_
  · exact fun j hj _ => (hd_keep hB' (Nat.lt_of_lt_of_le hj (by decide +kernel)) (by simp)).trans (hF j (Nat.lt_of_lt_of_le hj (by decide)))
  · exact hd_gi (x := .inr (.inl 83)) (by decide +kernel) b83
  · exact hd_gi (x := .inr (.inl 84)) (by decide +kernel) b84
  · exact hd_gi (x := .inl (.int 1)) (by decide +kernel) rfl
  · exact hd_gi (x := .inl (.int 1)) (by decide +kernel) rfl
  · exact hd_gi (x := .inl (.int 0)) (by decide +kernel) rfl
theorem j1hg_60 {Ls : Nat} {xs : Nat → Int32} {d : Nat} {Q : Option Value → jm_h → Prop} (hd : 1 ≤ d) (F : Nat → sy_d) (X1 X2 : List jm_c) (hB : iv_in F iv_B0)
    (k0 : ∀ F1 : Nat → sy_d, iv_in F1 iv_B0 → (∀ j, j < 82 → j ∉ ([] : List Nat) → F1 j = F j) → (sy_i F1 82).toInt = (sy_i F 83).toInt → sy_i F1 82 = sy_i F 83 → (sy_i F1 83).toInt = (sy_i F 84).toInt → sy_i F1 83 = sy_i F 84 → (sy_i F1 84).toInt = 1 → sy_i F1 84 = (1 : Int32) → (sy_i F1 85).toInt = 1 → sy_i F1 85 = (1 : Int32) → (sy_i F1 86).toInt = 0 → sy_i F1 86 = (0 : Int32) → hd_W Ls xs d jm_M93 Q (69, sy_dL F1 [some (.inl (.ref 8)), none, some (.inr (.inl 82)), some (.inr (.inl 83)), some (.inr (.inl 84)), some (.inr (.inl 85)), some (.inr (.inl 86))], sy_dS F1 [], sy_dh F1 X1 X2 (iv_H 1), 0, 0)) :
    hd_W Ls xs d jm_M93 Q (60, sy_dL F [some (.inl (.ref 8)), some (.inr (.inl 82)), some (.inr (.inl 83)), some (.inr (.inl 84)), none, none, none], sy_dS F [], sy_dh F X1 X2 (iv_H 1), 0, 0) := by
  exact j1hg_60_p0 hd F X1 X2 hB  (fun F1 g e82 e83 e84 e85 e86 => k0 F1 (nz_in0 hB [] (fun j hj hn => g j hj (by simp only [List.mem_cons, List.not_mem_nil, or_false, not_or] at hn; exact trivial)) (List.forall_mem_nil _)) (fun j hj hn => g j hj (by simp only [List.mem_cons, List.not_mem_nil, or_false, not_or] at hn; exact trivial)) ((congrArg Int32.toInt (zz_i e82)).trans (rfl : (sy_i F 83).toInt = (sy_i F 83).toInt)) ((zz_i e82).trans (rfl : sy_i F 83 = sy_i F 83)) ((congrArg Int32.toInt (zz_i e83)).trans (rfl : (sy_i F 84).toInt = (sy_i F 84).toInt)) ((zz_i e83).trans (rfl : sy_i F 84 = sy_i F 84)) ((congrArg Int32.toInt (zz_i e84)).trans (by decide : ((1 : Int32)).toInt = 1)) ((zz_i e84).trans (rfl : (1 : Int32) = (1 : Int32))) ((congrArg Int32.toInt (zz_i e85)).trans (by decide : ((1 : Int32)).toInt = 1)) ((zz_i e85).trans (rfl : (1 : Int32) = (1 : Int32))) ((congrArg Int32.toInt (zz_i e86)).trans (by decide : ((0 : Int32)).toInt = 0)) ((zz_i e86).trans (rfl : (0 : Int32) = (0 : Int32))))
theorem j1hg_69_p0 {Ls : Nat} {xs : Nat → Int32} {d : Nat} {Q : Option Value → jm_h → Prop} (hd : 1 ≤ d) (F : Nat → sy_d) (X1 X2 : List jm_c) (hB : iv_in F iv_B0)
    (h0 : (sy_i F 82).toInt ≤ (sy_i F 86).toInt)
    (k : ∀ F1 : Nat → sy_d, (∀ j, j < 82 → True → F1 j = F j) → F1 82 = .inl (.int (sy_i F 83)) → F1 83 = .inl (.int (sy_i F 84)) → F1 84 = .inl (.int (sy_i F 85)) → F1 85 = .inl (.int (sy_i F 84)) → F1 86 = .inl (.int (sy_i F 85)) → hd_W Ls xs d jm_M93 Q (110, sy_dL F1 [some (.inl (.ref 8)), none, none, some (.inr (.inl 82)), some (.inr (.inl 83)), some (.inr (.inl 84)), none], sy_dS F1 [.inr (.inl 86), .inr (.inl 85)], sy_dh F1 X1 X2 (iv_H 1), 0, 0)) :
    hd_W Ls xs d jm_M93 Q (69, sy_dL F [some (.inl (.ref 8)), none, some (.inr (.inl 82)), some (.inr (.inl 83)), some (.inr (.inl 84)), some (.inr (.inl 85)), some (.inr (.inl 86))], sy_dS F [], sy_dh F X1 X2 (iv_H 1), 0, 0) := by
  refine hd_run (s := 1) (nv := 87) (pc := 110) (L := [some (.inl (.ref 8)), none, none, some (.inr (.inl 82)), some (.inr (.inl 83)), some (.inr (.inl 84)), none]) (S := [.inr (.inl 86), .inr (.inl 85)]) (uh := hd_ov (iv_id 0 iv_B0) []) (ul := [.inl (.inr (.inl 83)), .inl (.inr (.inl 84)), .inl (.inr (.inl 85)), .inl (.inr (.inl 84)), .inl (.inr (.inl 85))]) (f := true) (sp := [69, 110]) (d0 := 0) (O := [true]) (T := []) (P := [(4, .inr (.inl 82), .inr (.inl 86))]) jm_ok93 (by decide +kernel) (by decide +kernel) hd F X1 X2 (fun F' hF hs => ?_)
  have b82 := hd_b (F := F) (F' := F') (k := 82) (hF 82 (by decide))
  have b86 := hd_b (F := F) (F' := F') (k := 86) (hF 86 (by decide))
  have b83 := hd_b (F := F) (F' := F') (k := 83) (hF 83 (by decide))
  have b84 := hd_b (F := F) (F' := F') (k := 84) (hF 84 (by decide))
  have b85 := hd_b (F := F) (F' := F') (k := 85) (hF 85 (by decide))
  have hB' : iv_in F' iv_B0 := iv_in_eq hB (fun j hj => hF j (Nat.lt_of_lt_of_le hj (by decide +kernel)))
  refine ⟨List.forall_mem_cons.mpr ⟨hd_p4 b82 b86 h0, fun _ h => absurd h List.not_mem_nil⟩, ?_⟩
  refine k _ ?_ ?_ ?_ ?_ ?_ ?_
  · exact fun j hj _ => (hd_keep hB' (Nat.lt_of_lt_of_le hj (by decide +kernel)) (by simp)).trans (hF j (Nat.lt_of_lt_of_le hj (by decide)))
  · exact hd_gi (x := .inr (.inl 83)) (by decide +kernel) b83
  · exact hd_gi (x := .inr (.inl 84)) (by decide +kernel) b84
  · exact hd_gi (x := .inr (.inl 85)) (by decide +kernel) b85
  · exact hd_gi (x := .inr (.inl 84)) (by decide +kernel) b84
  · exact hd_gi (x := .inr (.inl 85)) (by decide +kernel) b85
theorem j1hg_69_p1 {Ls : Nat} {xs : Nat → Int32} {d : Nat} {Q : Option Value → jm_h → Prop} (hd : 1 ≤ d) (F : Nat → sy_d) (X1 X2 : List jm_c) (hB : iv_in F iv_B0)
    (h0 : (sy_i F 86).toInt < (sy_i F 82).toInt)
    (h1 : 0 ≤ (sy_i F 86).toInt ∧ (sy_i F 86).toInt < 4)
    (k : ∀ F1 : Nat → sy_d, (∀ j, j < 82 → True → F1 j = F j) → F1 82 = .inl (.int (sy_i F 82)) → F1 83 = .inl (.int (sy_i F 83)) → F1 84 = .inl (.int ((sy_i F 84) * (((100 : Int32)) - ((sy_ai F 47).getD (sy_i F 86).toNatClampNeg 0)))) → F1 85 = .inl (.int ((sy_i F 85) * ((100 : Int32)))) → F1 86 = .inl (.int ((sy_i F 86) + ((1 : Int32)))) → hd_W Ls xs d jm_M93 Q (69, sy_dL F1 [some (.inl (.ref 8)), none, some (.inr (.inl 82)), some (.inr (.inl 83)), some (.inr (.inl 84)), some (.inr (.inl 85)), some (.inr (.inl 86))], sy_dS F1 [], sy_dh F1 X1 X2 (iv_H 1), 0, 0)) :
    hd_W Ls xs d jm_M93 Q (69, sy_dL F [some (.inl (.ref 8)), none, some (.inr (.inl 82)), some (.inr (.inl 83)), some (.inr (.inl 84)), some (.inr (.inl 85)), some (.inr (.inl 86))], sy_dS F [], sy_dh F X1 X2 (iv_H 1), 0, 0) := by
  refine hd_run (s := 1) (nv := 87) (pc := 69) (L := [some (.inl (.ref 8)), none, some (.inr (.inl 82)), some (.inr (.inl 83)), some (.inr (.inl 84)), some (.inr (.inl 85)), some (.inr (.inl 86))]) (S := []) (uh := hd_ov (iv_id 0 iv_B0) []) (ul := [.inl (.inr (.inl 82)), .inl (.inr (.inl 83)), .inl (.inr (.inl 89)), .inl (.inr (.inl 90)), .inl (.inr (.inl 91))]) (f := true) (sp := [69, 110]) (d0 := 0) (O := [false]) (T := [(30, [.inr (.inl 86)], [.inr (.inl 47)]), (1, [.inl (.int 100), .inr (.inl 87)], []), (2, [.inr (.inl 84), .inr (.inl 88)], []), (2, [.inr (.inl 85), .inl (.int 100)], []), (0, [.inr (.inl 86), .inl (.int 1)], [])]) (P := [(5, .inr (.inl 82), .inr (.inl 86)), (6, .inr (.inl 86), .inl (.ref 4))]) jm_ok93 (by decide +kernel) (by decide +kernel) hd F X1 X2 (fun F' hF hs => ?_)
  have b82 := hd_b (F := F) (F' := F') (k := 82) (hF 82 (by decide))
  have b86 := hd_b (F := F) (F' := F') (k := 86) (hF 86 (by decide))
  have b83 := hd_b (F := F) (F' := F') (k := 83) (hF 83 (by decide))
  have b84 := hd_b (F := F) (F' := F') (k := 84) (hF 84 (by decide))
  have a47 := hd_ba (F := F) (F' := F') (k := 47) (hF 47 (by decide))
  have t87 : sy_dv F' (.inr (.inl 87)) = .int ((sy_ai F 47).getD (sy_i F 86).toNatClampNeg 0) := hd_rd (hs 0 _ rfl) b86 a47
  have t88 : sy_dv F' (.inr (.inl 88)) = .int (((100 : Int32)) - ((sy_ai F 47).getD (sy_i F 86).toNatClampNeg 0)) := hd_o (hs 1 _ rfl) rfl t87 rfl
  have t89 : sy_dv F' (.inr (.inl 89)) = .int ((sy_i F 84) * (((100 : Int32)) - ((sy_ai F 47).getD (sy_i F 86).toNatClampNeg 0))) := hd_o (hs 2 _ rfl) b84 t88 rfl
  have b85 := hd_b (F := F) (F' := F') (k := 85) (hF 85 (by decide))
  have t90 : sy_dv F' (.inr (.inl 90)) = .int ((sy_i F 85) * ((100 : Int32))) := hd_o (hs 3 _ rfl) b85 rfl rfl
  have t91 : sy_dv F' (.inr (.inl 91)) = .int ((sy_i F 86) + ((1 : Int32))) := hd_o (hs 4 _ rfl) b86 rfl rfl
  have hB' : iv_in F' iv_B0 := iv_in_eq hB (fun j hj => hF j (Nat.lt_of_lt_of_le hj (by decide +kernel)))
  refine ⟨List.forall_mem_cons.mpr ⟨hd_p5 b82 b86 h0, List.forall_mem_cons.mpr ⟨hd_pb b86 (by first | exact h1 | exact h1), fun _ h => absurd h List.not_mem_nil⟩⟩, ?_⟩
  refine k _ ?_ ?_ ?_ ?_ ?_ ?_
  · exact fun j hj _ => (hd_keep hB' (Nat.lt_of_lt_of_le hj (by decide +kernel)) (by simp)).trans (hF j (Nat.lt_of_lt_of_le hj (by decide)))
  · exact hd_gi (x := .inr (.inl 82)) (by decide +kernel) b82
  · exact hd_gi (x := .inr (.inl 83)) (by decide +kernel) b83
  · exact hd_gi (x := .inr (.inl 89)) (by decide +kernel) t89
  · exact hd_gi (x := .inr (.inl 90)) (by decide +kernel) t90
  · exact hd_gi (x := .inr (.inl 91)) (by decide +kernel) t91
theorem j1hg_69 {Ls : Nat} {xs : Nat → Int32} {d : Nat} {Q : Option Value → jm_h → Prop} (hd : 1 ≤ d) (F : Nat → sy_d) (X1 X2 : List jm_c) (hB : iv_in F iv_B0)
    (a82 : 1 ≤ (sy_i F 82).toInt ∧ (sy_i F 82).toInt ≤ 4)
    (a86 : 0 ≤ (sy_i F 86).toInt ∧ (sy_i F 86).toInt ≤ 4)
    (k0 : (sy_i F 82).toInt ≤ (sy_i F 86).toInt → ∀ F1 : Nat → sy_d, iv_in F1 iv_B0 → (∀ j, j < 82 → j ∉ ([] : List Nat) → F1 j = F j) → (sy_i F1 82).toInt = (sy_i F 83).toInt → sy_i F1 82 = sy_i F 83 → (sy_i F1 83).toInt = (sy_i F 84).toInt → sy_i F1 83 = sy_i F 84 → (sy_i F1 84).toInt = (sy_i F 85).toInt → sy_i F1 84 = sy_i F 85 → (sy_i F1 85).toInt = (sy_i F 84).toInt → sy_i F1 85 = sy_i F 84 → (sy_i F1 86).toInt = (sy_i F 85).toInt → sy_i F1 86 = sy_i F 85 → hd_W Ls xs d jm_M93 Q (110, sy_dL F1 [some (.inl (.ref 8)), none, none, some (.inr (.inl 82)), some (.inr (.inl 83)), some (.inr (.inl 84)), none], sy_dS F1 [.inr (.inl 86), .inr (.inl 85)], sy_dh F1 X1 X2 (iv_H 1), 0, 0))
    (k1 : (sy_i F 86).toInt < (sy_i F 82).toInt → ∀ F1 : Nat → sy_d, iv_in F1 iv_B0 → (∀ j, j < 82 → j ∉ ([] : List Nat) → F1 j = F j) → (sy_i F1 82).toInt = (sy_i F 82).toInt → sy_i F1 82 = sy_i F 82 → (sy_i F1 83).toInt = (sy_i F 83).toInt → sy_i F1 83 = sy_i F 83 → (sy_i F1 84).toInt = ((sy_i F 84) * (((100 : Int32)) - ((sy_ai F 47).getD ((sy_i F 86).toInt).toNat 0))).toInt → sy_i F1 84 = (sy_i F 84) * (((100 : Int32)) - ((sy_ai F 47).getD ((sy_i F 86).toInt).toNat 0)) → (sy_i F1 85).toInt = ((sy_i F 85) * ((100 : Int32))).toInt → sy_i F1 85 = (sy_i F 85) * ((100 : Int32)) → (sy_i F1 86).toInt = ((sy_i F 86).toInt + 1) → sy_i F1 86 = (sy_i F 86) + ((1 : Int32)) → hd_W Ls xs d jm_M93 Q (69, sy_dL F1 [some (.inl (.ref 8)), none, some (.inr (.inl 82)), some (.inr (.inl 83)), some (.inr (.inl 84)), some (.inr (.inl 85)), some (.inr (.inl 86))], sy_dS F1 [], sy_dh F1 X1 X2 (iv_H 1), 0, 0)) :
    hd_W Ls xs d jm_M93 Q (69, sy_dL F [some (.inl (.ref 8)), none, some (.inr (.inl 82)), some (.inr (.inl 83)), some (.inr (.inl 84)), some (.inr (.inl 85)), some (.inr (.inl 86))], sy_dS F [], sy_dh F X1 X2 (iv_H 1), 0, 0) := by
  by_cases g0 : (sy_i F 82).toInt ≤ (sy_i F 86).toInt
  · exact j1hg_69_p0 hd F X1 X2 hB (by first | exact g0 | (simp only [nz_c]; exact g0)) (fun F1 g e82 e83 e84 e85 e86 => k0 g0 F1 (nz_in0 hB [] (fun j hj hn => g j hj (by simp only [List.mem_cons, List.not_mem_nil, or_false, not_or] at hn; exact trivial)) (List.forall_mem_nil _)) (fun j hj hn => g j hj (by simp only [List.mem_cons, List.not_mem_nil, or_false, not_or] at hn; exact trivial)) ((congrArg Int32.toInt (zz_i e82)).trans (rfl : (sy_i F 83).toInt = (sy_i F 83).toInt)) ((zz_i e82).trans (rfl : sy_i F 83 = sy_i F 83)) ((congrArg Int32.toInt (zz_i e83)).trans (rfl : (sy_i F 84).toInt = (sy_i F 84).toInt)) ((zz_i e83).trans (rfl : sy_i F 84 = sy_i F 84)) ((congrArg Int32.toInt (zz_i e84)).trans (rfl : (sy_i F 85).toInt = (sy_i F 85).toInt)) ((zz_i e84).trans (rfl : sy_i F 85 = sy_i F 85)) ((congrArg Int32.toInt (zz_i e85)).trans (rfl : (sy_i F 84).toInt = (sy_i F 84).toInt)) ((zz_i e85).trans (rfl : sy_i F 84 = sy_i F 84)) ((congrArg Int32.toInt (zz_i e86)).trans (rfl : (sy_i F 85).toInt = (sy_i F 85).toInt)) ((zz_i e86).trans (rfl : sy_i F 85 = sy_i F 85)))
  replace g0 : (sy_i F 86).toInt < (sy_i F 82).toInt := by omega
  have q89 : (sy_i F 84) * (((100 : Int32)) - ((sy_ai F 47).getD (sy_i F 86).toNatClampNeg 0)) = (sy_i F 84) * (((100 : Int32)) - ((sy_ai F 47).getD ((sy_i F 86).toInt).toNat 0)) := by simp only [nz_c, (by decide : ((100 : Int32)).toInt = 100)]
  have n89 : nzI ((sy_i F 84) * (((100 : Int32)) - ((sy_ai F 47).getD (sy_i F 86).toNatClampNeg 0))) (((sy_i F 84) * (((100 : Int32)) - ((sy_ai F 47).getD ((sy_i F 86).toInt).toNat 0))).toInt) := congrArg Int32.toInt q89
  have n90 : nzI ((sy_i F 85) * ((100 : Int32))) (((sy_i F 85) * ((100 : Int32))).toInt) := congrArg Int32.toInt (rfl : (sy_i F 85) * ((100 : Int32)) = (sy_i F 85) * ((100 : Int32)))
  have n91 : nzI ((sy_i F 86) + ((1 : Int32))) (((sy_i F 86).toInt + 1)) := nz_add (rfl : (sy_i F 86).toInt = (sy_i F 86).toInt) (by decide : ((1 : Int32)).toInt = 1) (by omega) (by omega)
  exact j1hg_69_p1 hd F X1 X2 hB (by first | exact g0 | (simp only [nz_c]; exact g0)) (by first | exact ⟨by omega, by omega⟩ | (simp only [nz_c]; exact ⟨by omega, by omega⟩)) (fun F1 g e82 e83 e84 e85 e86 => k1 g0 F1 (nz_in0 hB [] (fun j hj hn => g j hj (by simp only [List.mem_cons, List.not_mem_nil, or_false, not_or] at hn; exact trivial)) (List.forall_mem_nil _)) (fun j hj hn => g j hj (by simp only [List.mem_cons, List.not_mem_nil, or_false, not_or] at hn; exact trivial)) ((congrArg Int32.toInt (zz_i e82)).trans (rfl : (sy_i F 82).toInt = (sy_i F 82).toInt)) ((zz_i e82).trans (rfl : sy_i F 82 = sy_i F 82)) ((congrArg Int32.toInt (zz_i e83)).trans (rfl : (sy_i F 83).toInt = (sy_i F 83).toInt)) ((zz_i e83).trans (rfl : sy_i F 83 = sy_i F 83)) ((congrArg Int32.toInt (zz_i e84)).trans (nzE n89)) ((zz_i e84).trans q89) ((congrArg Int32.toInt (zz_i e85)).trans (nzE n90)) ((zz_i e85).trans (rfl : (sy_i F 85) * ((100 : Int32)) = (sy_i F 85) * ((100 : Int32)))) ((congrArg Int32.toInt (zz_i e86)).trans (nzE n91)) ((zz_i e86).trans (rfl : (sy_i F 86) + ((1 : Int32)) = (sy_i F 86) + ((1 : Int32)))))
theorem j1hg_113_p0 {Ls : Nat} {xs : Nat → Int32} {d : Nat} {Q : Option Value → jm_h → Prop} (hd : 1 ≤ d) (F : Nat → sy_d) (X1 X2 : List jm_c) (hB : iv_in F iv_B0)
    (h0 : (sy_i F 85).toInt ≠ 0)
    (h1 : (sy_i F 82).toInt = 0)
    (h2 : (sy_i F 85).toInt ≠ 0)
    (k : ∀ F1 : Nat → sy_d, (∀ j, j < 82 → True → F1 j = F j) → Q (some (.int ((sy_i F 83) / (sy_i F 85)))) (sy_dh F1 X1 X2 (iv_H 1))) :
    hd_W Ls xs d jm_M93 Q (113, sy_dL F [some (.inl (.ref 8)), none, none, some (.inr (.inl 82)), some (.inr (.inl 83)), some (.inr (.inl 84)), none], sy_dS F [.inr (.inl 85)], sy_dh F X1 X2 (iv_H 1), 0, 0) := by
  refine hd_ret (s := 1) (nv := 86) (v := some (.inr (.inl 86))) (uh := hd_ov (iv_id 0 iv_B0) []) (f := false) (sp := []) (d0 := 0) (O := [true, true]) (T := [(9, [.inr (.inl 83), .inr (.inl 85)], [])]) (P := [(1, .inr (.inl 85), .inl (.int 0)), (0, .inr (.inl 82), .inl (.int 0)), (1, .inr (.inl 85), .inl (.int 0))]) jm_ok93 (by decide +kernel) (by decide +kernel) hd F X1 X2 (fun F' hF hs => ?_)
  have b85 := hd_b (F := F) (F' := F') (k := 85) (hF 85 (by decide))
  have b82 := hd_b (F := F) (F' := F') (k := 82) (hF 82 (by decide))
  have b83 := hd_b (F := F) (F' := F') (k := 83) (hF 83 (by decide))
  have t86 : sy_dv F' (.inr (.inl 86)) = .int ((sy_i F 83) / (sy_i F 85)) := hd_o (hs 0 _ rfl) b83 b85 rfl
  have hB' : iv_in F' iv_B0 := iv_in_eq hB (fun j hj => hF j (Nat.lt_of_lt_of_le hj (by decide +kernel)))
  have hk := k (sy_cm F' (hd_ov (iv_id 0 iv_B0) [] ++ [])) (fun j hj _ => (hd_keep hB' (Nat.lt_of_lt_of_le hj (by decide +kernel)) (by simp)).trans (hF j (Nat.lt_of_lt_of_le hj (by decide))))
  refine ⟨List.forall_mem_cons.mpr ⟨hd_p1 b85 rfl (by have hc : ((0) : Int32).toInt = 0 := (by decide); omega), List.forall_mem_cons.mpr ⟨hd_p0 b82 rfl (by have hc : ((0) : Int32).toInt = 0 := (by decide); omega), List.forall_mem_cons.mpr ⟨hd_p1 b85 rfl (by have hc : ((0) : Int32).toInt = 0 := (by decide); omega), fun _ h => absurd h List.not_mem_nil⟩⟩⟩, ?_⟩
  show Q (some (sy_dv F' (.inr (.inl 86)))) _
  rw [t86]
  exact hk
theorem j1hg_113_p1 {Ls : Nat} {xs : Nat → Int32} {d : Nat} {Q : Option Value → jm_h → Prop} (hd : 1 ≤ d) (F : Nat → sy_d) (X1 X2 : List jm_c) (hB : iv_in F iv_B0)
    (h0 : (sy_i F 85).toInt ≠ 0)
    (h1 : (sy_i F 82).toInt ≠ 0)
    (h2 : (sy_i F 85).toInt ≠ 0)
    (k : ∀ F1 : Nat → sy_d, (∀ j, j < 82 → True → F1 j = F j) → Q (some (.int ((sy_i F 84) / (sy_i F 85)))) (sy_dh F1 X1 X2 (iv_H 1))) :
    hd_W Ls xs d jm_M93 Q (113, sy_dL F [some (.inl (.ref 8)), none, none, some (.inr (.inl 82)), some (.inr (.inl 83)), some (.inr (.inl 84)), none], sy_dS F [.inr (.inl 85)], sy_dh F X1 X2 (iv_H 1), 0, 0) := by
  refine hd_ret (s := 1) (nv := 86) (v := some (.inr (.inl 86))) (uh := hd_ov (iv_id 0 iv_B0) []) (f := false) (sp := []) (d0 := 0) (O := [true, false]) (T := [(9, [.inr (.inl 84), .inr (.inl 85)], [])]) (P := [(1, .inr (.inl 85), .inl (.int 0)), (1, .inr (.inl 82), .inl (.int 0)), (1, .inr (.inl 85), .inl (.int 0))]) jm_ok93 (by decide +kernel) (by decide +kernel) hd F X1 X2 (fun F' hF hs => ?_)
  have b85 := hd_b (F := F) (F' := F') (k := 85) (hF 85 (by decide))
  have b82 := hd_b (F := F) (F' := F') (k := 82) (hF 82 (by decide))
  have b84 := hd_b (F := F) (F' := F') (k := 84) (hF 84 (by decide))
  have t86 : sy_dv F' (.inr (.inl 86)) = .int ((sy_i F 84) / (sy_i F 85)) := hd_o (hs 0 _ rfl) b84 b85 rfl
  have hB' : iv_in F' iv_B0 := iv_in_eq hB (fun j hj => hF j (Nat.lt_of_lt_of_le hj (by decide +kernel)))
  have hk := k (sy_cm F' (hd_ov (iv_id 0 iv_B0) [] ++ [])) (fun j hj _ => (hd_keep hB' (Nat.lt_of_lt_of_le hj (by decide +kernel)) (by simp)).trans (hF j (Nat.lt_of_lt_of_le hj (by decide))))
  refine ⟨List.forall_mem_cons.mpr ⟨hd_p1 b85 rfl (by have hc : ((0) : Int32).toInt = 0 := (by decide); omega), List.forall_mem_cons.mpr ⟨hd_p1 b82 rfl (by have hc : ((0) : Int32).toInt = 0 := (by decide); omega), List.forall_mem_cons.mpr ⟨hd_p1 b85 rfl (by have hc : ((0) : Int32).toInt = 0 := (by decide); omega), fun _ h => absurd h List.not_mem_nil⟩⟩⟩, ?_⟩
  show Q (some (sy_dv F' (.inr (.inl 86)))) _
  rw [t86]
  exact hk
theorem j1hg_113 {Ls : Nat} {xs : Nat → Int32} {d : Nat} {Q : Option Value → jm_h → Prop} (hd : 1 ≤ d) (F : Nat → sy_d) (X1 X2 : List jm_c) (hB : iv_in F iv_B0)
    (a83 : 0 ≤ (sy_i F 83).toInt ∧ (sy_i F 83).toInt ≤ 100000000)
    (a84 : 1 ≤ (sy_i F 84).toInt ∧ (sy_i F 84).toInt ≤ 100000000)
    (a85 : 1 ≤ (sy_i F 85).toInt ∧ (sy_i F 85).toInt ≤ 100000000)
    (k0 : (sy_i F 85).toInt ≠ 0 → (sy_i F 82).toInt = 0 → ∀ F1 : Nat → sy_d, iv_in F1 iv_B0 → (∀ j, j < 82 → j ∉ ([] : List Nat) → F1 j = F j) → Q (some (.int ((sy_i F 83) / (sy_i F 85)))) (sy_dh F1 X1 X2 (iv_H 1)))
    (k1 : (sy_i F 85).toInt ≠ 0 → (sy_i F 82).toInt ≠ 0 → ∀ F1 : Nat → sy_d, iv_in F1 iv_B0 → (∀ j, j < 82 → j ∉ ([] : List Nat) → F1 j = F j) → Q (some (.int ((sy_i F 84) / (sy_i F 85)))) (sy_dh F1 X1 X2 (iv_H 1))) :
    hd_W Ls xs d jm_M93 Q (113, sy_dL F [some (.inl (.ref 8)), none, none, some (.inr (.inl 82)), some (.inr (.inl 83)), some (.inr (.inl 84)), none], sy_dS F [.inr (.inl 85)], sy_dh F X1 X2 (iv_H 1), 0, 0) := by
  by_cases g0 : (sy_i F 85).toInt ≠ 0
  · by_cases g1 : (sy_i F 82).toInt = 0
    · exact j1hg_113_p0 hd F X1 X2 hB (by first | exact g0 | (simp only [nz_c]; exact g0)) (by first | exact g1 | (simp only [nz_c]; exact g1)) (by first | exact g0 | (simp only [nz_c]; exact g0)) (fun F1 g  => by rw [(rfl : (sy_i F 83) / (sy_i F 85) = (sy_i F 83) / (sy_i F 85))]; exact k0 g0 g1 F1 (nz_in0 hB [] (fun j hj hn => g j hj (by simp only [List.mem_cons, List.not_mem_nil, or_false, not_or] at hn; exact trivial)) (List.forall_mem_nil _)) (fun j hj hn => g j hj (by simp only [List.mem_cons, List.not_mem_nil, or_false, not_or] at hn; exact trivial)) )
    replace g1 : (sy_i F 82).toInt ≠ 0 := by omega
    exact j1hg_113_p1 hd F X1 X2 hB (by first | exact g0 | (simp only [nz_c]; exact g0)) (by first | exact g1 | (simp only [nz_c]; exact g1)) (by first | exact g0 | (simp only [nz_c]; exact g0)) (fun F1 g  => by rw [(rfl : (sy_i F 84) / (sy_i F 85) = (sy_i F 84) / (sy_i F 85))]; exact k1 g0 g1 F1 (nz_in0 hB [] (fun j hj hn => g j hj (by simp only [List.mem_cons, List.not_mem_nil, or_false, not_or] at hn; exact trivial)) (List.forall_mem_nil _)) (fun j hj hn => g j hj (by simp only [List.mem_cons, List.not_mem_nil, or_false, not_or] at hn; exact trivial)) )
  replace g0 : (sy_i F 85).toInt = 0 := by omega
  exfalso
  omega
theorem j2gd_0_p0 {Ls : Nat} {xs : Nat → Int32} {d : Nat} {Q : Option Value → jm_h → Prop} (hd : 1 ≤ d) (F : Nat → sy_d) (X1 X2 : List jm_c) (hB : iv_in F iv_B0)
    (k : ∀ F1 : Nat → sy_d, (∀ j, j < 82 → True → F1 j = F j) → F1 82 = .inl (.int (sy_i F 82)) → F1 83 = .inl (.int (sy_i F 83)) → F1 84 = .inl (.int ((0 : Int32))) → hd_W Ls xs d jm_M131 Q (7, sy_dL F1 [none, none, some (.inr (.inl 82)), some (.inr (.inl 83)), some (.inr (.inl 84)), none], sy_dS F1 [], sy_dh F1 X1 X2 (iv_H 2), 0, 0)) :
    hd_W Ls xs d jm_M131 Q (0, sy_dL F [some (.inr (.inl 82)), some (.inr (.inl 83)), none, none, none, none], sy_dS F [], sy_dh F X1 X2 (iv_H 2), 0, 0) := by
  refine hd_run (s := 2) (nv := 84) (pc := 7) (L := [none, none, some (.inr (.inl 82)), some (.inr (.inl 83)), some (.inr (.inl 84)), none]) (S := []) (uh := hd_ov (iv_id 0 iv_B0) []) (ul := [.inl (.inr (.inl 82)), .inl (.inr (.inl 83)), .inl (.inl (.int 0))]) (f := true) (sp := [7]) (d0 := 0) (O := []) (T := []) (P := []) jm_ok131 (by decide +kernel) (by decide +kernel) hd F X1 X2 (fun F' hF hs => ?_)
  have b82 := hd_b (F := F) (F' := F') (k := 82) (hF 82 (by decide))
  have b83 := hd_b (F := F) (F' := F') (k := 83) (hF 83 (by decide))
  have hB' : iv_in F' iv_B0 := iv_in_eq hB (fun j hj => hF j (Nat.lt_of_lt_of_le hj (by decide +kernel)))
  refine ⟨fun _ h => absurd h List.not_mem_nil, ?_⟩
  refine k _ ?_ ?_ ?_ ?_
  · exact fun j hj _ => (hd_keep hB' (Nat.lt_of_lt_of_le hj (by decide +kernel)) (by simp)).trans (hF j (Nat.lt_of_lt_of_le hj (by decide)))
  · exact hd_gi (x := .inr (.inl 82)) (by decide +kernel) b82
  · exact hd_gi (x := .inr (.inl 83)) (by decide +kernel) b83
  · exact hd_gi (x := .inl (.int 0)) (by decide +kernel) rfl
theorem j2gd_0 {Ls : Nat} {xs : Nat → Int32} {d : Nat} {Q : Option Value → jm_h → Prop} (hd : 1 ≤ d) (F : Nat → sy_d) (X1 X2 : List jm_c) (hB : iv_in F iv_B0)
    (a82 : 0 ≤ (sy_i F 82).toInt ∧ (sy_i F 82).toInt ≤ 100000000)
    (a83 : 0 ≤ (sy_i F 83).toInt ∧ (sy_i F 83).toInt ≤ 100000000)
    (k0 : ∀ F1 : Nat → sy_d, iv_in F1 iv_B0 → (∀ j, j < 82 → j ∉ ([] : List Nat) → F1 j = F j) → (sy_i F1 82).toInt = (sy_i F 82).toInt → sy_i F1 82 = sy_i F 82 → (sy_i F1 83).toInt = (sy_i F 83).toInt → sy_i F1 83 = sy_i F 83 → (sy_i F1 84).toInt = 0 → sy_i F1 84 = (0 : Int32) → hd_W Ls xs d jm_M131 Q (7, sy_dL F1 [none, none, some (.inr (.inl 82)), some (.inr (.inl 83)), some (.inr (.inl 84)), none], sy_dS F1 [], sy_dh F1 X1 X2 (iv_H 2), 0, 0)) :
    hd_W Ls xs d jm_M131 Q (0, sy_dL F [some (.inr (.inl 82)), some (.inr (.inl 83)), none, none, none, none], sy_dS F [], sy_dh F X1 X2 (iv_H 2), 0, 0) := by
  exact j2gd_0_p0 hd F X1 X2 hB  (fun F1 g e82 e83 e84 => k0 F1 (nz_in0 hB [] (fun j hj hn => g j hj (by simp only [List.mem_cons, List.not_mem_nil, or_false, not_or] at hn; exact trivial)) (List.forall_mem_nil _)) (fun j hj hn => g j hj (by simp only [List.mem_cons, List.not_mem_nil, or_false, not_or] at hn; exact trivial)) ((congrArg Int32.toInt (zz_i e82)).trans (rfl : (sy_i F 82).toInt = (sy_i F 82).toInt)) ((zz_i e82).trans (rfl : sy_i F 82 = sy_i F 82)) ((congrArg Int32.toInt (zz_i e83)).trans (rfl : (sy_i F 83).toInt = (sy_i F 83).toInt)) ((zz_i e83).trans (rfl : sy_i F 83 = sy_i F 83)) ((congrArg Int32.toInt (zz_i e84)).trans (by decide : ((0 : Int32)).toInt = 0)) ((zz_i e84).trans (rfl : (0 : Int32) = (0 : Int32))))
theorem j2gd_7_p0 {Ls : Nat} {xs : Nat → Int32} {d : Nat} {Q : Option Value → jm_h → Prop} (hd : 1 ≤ d) (F : Nat → sy_d) (X1 X2 : List jm_c) (hB : iv_in F iv_B0)
    (h0 : 64 ≤ (sy_i F 84).toInt)
    (k : ∀ F1 : Nat → sy_d, (∀ j, j < 82 → True → F1 j = F j) → Q (some (.int (sy_i F 82))) (sy_dh F1 X1 X2 (iv_H 2))) :
    hd_W Ls xs d jm_M131 Q (7, sy_dL F [none, none, some (.inr (.inl 82)), some (.inr (.inl 83)), some (.inr (.inl 84)), none], sy_dS F [], sy_dh F X1 X2 (iv_H 2), 0, 0) := by
  refine hd_ret (s := 2) (nv := 85) (v := some (.inr (.inl 82))) (uh := hd_ov (iv_id 0 iv_B0) []) (f := true) (sp := [7]) (d0 := 0) (O := [true]) (T := []) (P := [(4, .inl (.int 64), .inr (.inl 84))]) jm_ok131 (by decide +kernel) (by decide +kernel) hd F X1 X2 (fun F' hF hs => ?_)
  have b84 := hd_b (F := F) (F' := F') (k := 84) (hF 84 (by decide))
  have b82 := hd_b (F := F) (F' := F') (k := 82) (hF 82 (by decide))
  have hB' : iv_in F' iv_B0 := iv_in_eq hB (fun j hj => hF j (Nat.lt_of_lt_of_le hj (by decide +kernel)))
  have hk := k (sy_cm F' (hd_ov (iv_id 0 iv_B0) [] ++ [])) (fun j hj _ => (hd_keep hB' (Nat.lt_of_lt_of_le hj (by decide +kernel)) (by simp)).trans (hF j (Nat.lt_of_lt_of_le hj (by decide))))
  refine ⟨List.forall_mem_cons.mpr ⟨hd_p4 rfl b84 (by have hc : ((64) : Int32).toInt = 64 := (by decide); omega), fun _ h => absurd h List.not_mem_nil⟩, ?_⟩
  show Q (some (sy_dv F' (.inr (.inl 82)))) _
  rw [b82]
  exact hk
theorem j2gd_7_p1 {Ls : Nat} {xs : Nat → Int32} {d : Nat} {Q : Option Value → jm_h → Prop} (hd : 1 ≤ d) (F : Nat → sy_d) (X1 X2 : List jm_c) (hB : iv_in F iv_B0)
    (h0 : (sy_i F 84).toInt < 64)
    (h1 : (sy_i F 83).toInt = 0)
    (k : ∀ F1 : Nat → sy_d, (∀ j, j < 82 → True → F1 j = F j) → Q (some (.int (sy_i F 82))) (sy_dh F1 X1 X2 (iv_H 2))) :
    hd_W Ls xs d jm_M131 Q (7, sy_dL F [none, none, some (.inr (.inl 82)), some (.inr (.inl 83)), some (.inr (.inl 84)), none], sy_dS F [], sy_dh F X1 X2 (iv_H 2), 0, 0) := by
  refine hd_ret (s := 2) (nv := 85) (v := some (.inr (.inl 82))) (uh := hd_ov (iv_id 0 iv_B0) []) (f := true) (sp := [7]) (d0 := 0) (O := [false, true]) (T := []) (P := [(5, .inl (.int 64), .inr (.inl 84)), (0, .inr (.inl 83), .inl (.int 0))]) jm_ok131 (by decide +kernel) (by decide +kernel) hd F X1 X2 (fun F' hF hs => ?_)
  have b84 := hd_b (F := F) (F' := F') (k := 84) (hF 84 (by decide))
  have b83 := hd_b (F := F) (F' := F') (k := 83) (hF 83 (by decide))
  have b82 := hd_b (F := F) (F' := F') (k := 82) (hF 82 (by decide))
  have hB' : iv_in F' iv_B0 := iv_in_eq hB (fun j hj => hF j (Nat.lt_of_lt_of_le hj (by decide +kernel)))
  have hk := k (sy_cm F' (hd_ov (iv_id 0 iv_B0) [] ++ [])) (fun j hj _ => (hd_keep hB' (Nat.lt_of_lt_of_le hj (by decide +kernel)) (by simp)).trans (hF j (Nat.lt_of_lt_of_le hj (by decide))))
  refine ⟨List.forall_mem_cons.mpr ⟨hd_p5 rfl b84 (by have hc : ((64) : Int32).toInt = 64 := (by decide); omega), List.forall_mem_cons.mpr ⟨hd_p0 b83 rfl (by have hc : ((0) : Int32).toInt = 0 := (by decide); omega), fun _ h => absurd h List.not_mem_nil⟩⟩, ?_⟩
  show Q (some (sy_dv F' (.inr (.inl 82)))) _
  rw [b82]
  exact hk
theorem j2gd_7_p2 {Ls : Nat} {xs : Nat → Int32} {d : Nat} {Q : Option Value → jm_h → Prop} (hd : 1 ≤ d) (F : Nat → sy_d) (X1 X2 : List jm_c) (hB : iv_in F iv_B0)
    (h0 : (sy_i F 84).toInt < 64)
    (h1 : (sy_i F 83).toInt ≠ 0)
    (h2 : (sy_i F 83).toInt ≠ 0)
    (k : ∀ F1 : Nat → sy_d, (∀ j, j < 82 → True → F1 j = F j) → F1 82 = .inl (.int (sy_i F 83)) → F1 83 = .inl (.int ((sy_i F 82) - (sy_i F 82) / (sy_i F 83) * (sy_i F 83))) → F1 84 = .inl (.int ((sy_i F 84) + ((1 : Int32)))) → hd_W Ls xs d jm_M131 Q (7, sy_dL F1 [none, none, some (.inr (.inl 82)), some (.inr (.inl 83)), some (.inr (.inl 84)), none], sy_dS F1 [], sy_dh F1 X1 X2 (iv_H 2), 0, 0)) :
    hd_W Ls xs d jm_M131 Q (7, sy_dL F [none, none, some (.inr (.inl 82)), some (.inr (.inl 83)), some (.inr (.inl 84)), none], sy_dS F [], sy_dh F X1 X2 (iv_H 2), 0, 0) := by
  refine hd_run (s := 2) (nv := 85) (pc := 7) (L := [none, none, some (.inr (.inl 82)), some (.inr (.inl 83)), some (.inr (.inl 84)), none]) (S := []) (uh := hd_ov (iv_id 0 iv_B0) []) (ul := [.inl (.inr (.inl 83)), .inl (.inr (.inl 85)), .inl (.inr (.inl 86))]) (f := true) (sp := [7]) (d0 := 0) (O := [false, false]) (T := [(10, [.inr (.inl 82), .inr (.inl 83)], []), (0, [.inr (.inl 84), .inl (.int 1)], [])]) (P := [(5, .inl (.int 64), .inr (.inl 84)), (1, .inr (.inl 83), .inl (.int 0)), (1, .inr (.inl 83), .inl (.int 0))]) jm_ok131 (by decide +kernel) (by decide +kernel) hd F X1 X2 (fun F' hF hs => ?_)
  have b84 := hd_b (F := F) (F' := F') (k := 84) (hF 84 (by decide))
  have b83 := hd_b (F := F) (F' := F') (k := 83) (hF 83 (by decide))
  have b82 := hd_b (F := F) (F' := F') (k := 82) (hF 82 (by decide))
  have t85 : sy_dv F' (.inr (.inl 85)) = .int ((sy_i F 82) - (sy_i F 82) / (sy_i F 83) * (sy_i F 83)) := hd_o (hs 0 _ rfl) b82 b83 rfl
  have t86 : sy_dv F' (.inr (.inl 86)) = .int ((sy_i F 84) + ((1 : Int32))) := hd_o (hs 1 _ rfl) b84 rfl rfl
  have hB' : iv_in F' iv_B0 := iv_in_eq hB (fun j hj => hF j (Nat.lt_of_lt_of_le hj (by decide +kernel)))
  refine ⟨List.forall_mem_cons.mpr ⟨hd_p5 rfl b84 (by have hc : ((64) : Int32).toInt = 64 := (by decide); omega), List.forall_mem_cons.mpr ⟨hd_p1 b83 rfl (by have hc : ((0) : Int32).toInt = 0 := (by decide); omega), List.forall_mem_cons.mpr ⟨hd_p1 b83 rfl (by have hc : ((0) : Int32).toInt = 0 := (by decide); omega), fun _ h => absurd h List.not_mem_nil⟩⟩⟩, ?_⟩
  refine k _ ?_ ?_ ?_ ?_
  · exact fun j hj _ => (hd_keep hB' (Nat.lt_of_lt_of_le hj (by decide +kernel)) (by simp)).trans (hF j (Nat.lt_of_lt_of_le hj (by decide)))
  · exact hd_gi (x := .inr (.inl 83)) (by decide +kernel) b83
  · exact hd_gi (x := .inr (.inl 85)) (by decide +kernel) t85
  · exact hd_gi (x := .inr (.inl 86)) (by decide +kernel) t86
theorem j2gd_7 {Ls : Nat} {xs : Nat → Int32} {d : Nat} {Q : Option Value → jm_h → Prop} (hd : 1 ≤ d) (F : Nat → sy_d) (X1 X2 : List jm_c) (hB : iv_in F iv_B0)
    (a82 : 0 ≤ (sy_i F 82).toInt ∧ (sy_i F 82).toInt ≤ 100000000)
    (a83 : 0 ≤ (sy_i F 83).toInt ∧ (sy_i F 83).toInt ≤ 100000000)
    (a84 : 0 ≤ (sy_i F 84).toInt ∧ (sy_i F 84).toInt ≤ 64)
    (k0 : 64 ≤ (sy_i F 84).toInt → ∀ F1 : Nat → sy_d, iv_in F1 iv_B0 → (∀ j, j < 82 → j ∉ ([] : List Nat) → F1 j = F j) → Q (some (.int (sy_i F 82))) (sy_dh F1 X1 X2 (iv_H 2)))
    (k1 : (sy_i F 84).toInt < 64 → (sy_i F 83).toInt = 0 → ∀ F1 : Nat → sy_d, iv_in F1 iv_B0 → (∀ j, j < 82 → j ∉ ([] : List Nat) → F1 j = F j) → Q (some (.int (sy_i F 82))) (sy_dh F1 X1 X2 (iv_H 2)))
    (k2 : (sy_i F 84).toInt < 64 → (sy_i F 83).toInt ≠ 0 → ∀ F1 : Nat → sy_d, iv_in F1 iv_B0 → (∀ j, j < 82 → j ∉ ([] : List Nat) → F1 j = F j) → (sy_i F1 82).toInt = (sy_i F 83).toInt → sy_i F1 82 = sy_i F 83 → (sy_i F1 83).toInt = ((sy_i F 82) - (sy_i F 82) / (sy_i F 83) * (sy_i F 83)).toInt → sy_i F1 83 = (sy_i F 82) - (sy_i F 82) / (sy_i F 83) * (sy_i F 83) → (sy_i F1 84).toInt = ((sy_i F 84).toInt + 1) → sy_i F1 84 = (sy_i F 84) + ((1 : Int32)) → hd_W Ls xs d jm_M131 Q (7, sy_dL F1 [none, none, some (.inr (.inl 82)), some (.inr (.inl 83)), some (.inr (.inl 84)), none], sy_dS F1 [], sy_dh F1 X1 X2 (iv_H 2), 0, 0)) :
    hd_W Ls xs d jm_M131 Q (7, sy_dL F [none, none, some (.inr (.inl 82)), some (.inr (.inl 83)), some (.inr (.inl 84)), none], sy_dS F [], sy_dh F X1 X2 (iv_H 2), 0, 0) := by
  by_cases g0 : 64 ≤ (sy_i F 84).toInt
  · exact j2gd_7_p0 hd F X1 X2 hB (by first | exact g0 | (simp only [nz_c]; exact g0)) (fun F1 g  => by rw [(rfl : sy_i F 82 = sy_i F 82)]; exact k0 g0 F1 (nz_in0 hB [] (fun j hj hn => g j hj (by simp only [List.mem_cons, List.not_mem_nil, or_false, not_or] at hn; exact trivial)) (List.forall_mem_nil _)) (fun j hj hn => g j hj (by simp only [List.mem_cons, List.not_mem_nil, or_false, not_or] at hn; exact trivial)) )
  replace g0 : (sy_i F 84).toInt < 64 := by omega
  by_cases g1 : (sy_i F 83).toInt = 0
  · exact j2gd_7_p1 hd F X1 X2 hB (by first | exact g0 | (simp only [nz_c]; exact g0)) (by first | exact g1 | (simp only [nz_c]; exact g1)) (fun F1 g  => by rw [(rfl : sy_i F 82 = sy_i F 82)]; exact k1 g0 g1 F1 (nz_in0 hB [] (fun j hj hn => g j hj (by simp only [List.mem_cons, List.not_mem_nil, or_false, not_or] at hn; exact trivial)) (List.forall_mem_nil _)) (fun j hj hn => g j hj (by simp only [List.mem_cons, List.not_mem_nil, or_false, not_or] at hn; exact trivial)) )
  replace g1 : (sy_i F 83).toInt ≠ 0 := by omega
  have n85 : nzI ((sy_i F 82) - (sy_i F 82) / (sy_i F 83) * (sy_i F 83)) (((sy_i F 82) - (sy_i F 82) / (sy_i F 83) * (sy_i F 83)).toInt) := congrArg Int32.toInt (rfl : (sy_i F 82) - (sy_i F 82) / (sy_i F 83) * (sy_i F 83) = (sy_i F 82) - (sy_i F 82) / (sy_i F 83) * (sy_i F 83))
  have n86 : nzI ((sy_i F 84) + ((1 : Int32))) (((sy_i F 84).toInt + 1)) := nz_add (rfl : (sy_i F 84).toInt = (sy_i F 84).toInt) (by decide : ((1 : Int32)).toInt = 1) (by omega) (by omega)
  exact j2gd_7_p2 hd F X1 X2 hB (by first | exact g0 | (simp only [nz_c]; exact g0)) (by first | exact g1 | (simp only [nz_c]; exact g1)) (by first | exact g1 | (simp only [nz_c]; exact g1)) (fun F1 g e82 e83 e84 => k2 g0 g1 F1 (nz_in0 hB [] (fun j hj hn => g j hj (by simp only [List.mem_cons, List.not_mem_nil, or_false, not_or] at hn; exact trivial)) (List.forall_mem_nil _)) (fun j hj hn => g j hj (by simp only [List.mem_cons, List.not_mem_nil, or_false, not_or] at hn; exact trivial)) ((congrArg Int32.toInt (zz_i e82)).trans (rfl : (sy_i F 83).toInt = (sy_i F 83).toInt)) ((zz_i e82).trans (rfl : sy_i F 83 = sy_i F 83)) ((congrArg Int32.toInt (zz_i e83)).trans (nzE n85)) ((zz_i e83).trans (rfl : (sy_i F 82) - (sy_i F 82) / (sy_i F 83) * (sy_i F 83) = (sy_i F 82) - (sy_i F 82) / (sy_i F 83) * (sy_i F 83))) ((congrArg Int32.toInt (zz_i e84)).trans (nzE n86)) ((zz_i e84).trans (rfl : (sy_i F 84) + ((1 : Int32)) = (sy_i F 84) + ((1 : Int32)))))
theorem j2hg_0_p0 {Ls : Nat} {xs : Nat → Int32} {d : Nat} {Q : Option Value → jm_h → Prop} (hd : 2 ≤ d) (F : Nat → sy_d) (X1 X2 : List jm_c) (hB : iv_in F iv_B0)
    (h0 : (sy_i F 82).toInt < 0)
    (k : ∀ F1 : Nat → sy_d, (∀ j, j < 82 → True → F1 j = F j) → Q (some (.int (((-1) : Int32)))) (sy_dh F1 X1 X2 (iv_H 2))) :
    hd_W Ls xs d jm_M93 Q (0, sy_dL F [some (.inl (.ref 8)), some (.inr (.inl 82)), some (.inr (.inl 83)), some (.inr (.inl 84)), none, none, none], sy_dS F [], sy_dh F X1 X2 (iv_H 2), 0, 0) := by
  refine hd_ret (s := 2) (nv := 85) (v := some (.inl (.int (-1)))) (uh := hd_ov (iv_id 0 iv_B0) []) (f := true) (sp := [57]) (d0 := 1) (O := [true]) (T := []) (P := [(2, .inr (.inl 82), .inl (.int 0))]) jm_ok93 (by decide +kernel) (by decide +kernel) hd F X1 X2 (fun F' hF hs => ?_)
  have b82 := hd_b (F := F) (F' := F') (k := 82) (hF 82 (by decide))
  have hB' : iv_in F' iv_B0 := iv_in_eq hB (fun j hj => hF j (Nat.lt_of_lt_of_le hj (by decide +kernel)))
  refine ⟨List.forall_mem_cons.mpr ⟨hd_p2 b82 rfl (by have hc : ((0) : Int32).toInt = 0 := (by decide); omega), fun _ h => absurd h List.not_mem_nil⟩, ?_⟩
  refine k _ ?_
  · exact fun j hj _ => (hd_keep hB' (Nat.lt_of_lt_of_le hj (by decide +kernel)) (by simp)).trans (hF j (Nat.lt_of_lt_of_le hj (by decide)))
theorem j2hg_0_p1 {Ls : Nat} {xs : Nat → Int32} {d : Nat} {Q : Option Value → jm_h → Prop} (hd : 2 ≤ d) (F : Nat → sy_d) (X1 X2 : List jm_c) (hB : iv_in F iv_B0)
    (h0 : 0 ≤ (sy_i F 82).toInt)
    (h1 : (sy_i F 18).toInt ≤ (sy_i F 82).toInt)
    (k : ∀ F1 : Nat → sy_d, (∀ j, j < 82 → True → F1 j = F j) → Q (some (.int (((-1) : Int32)))) (sy_dh F1 X1 X2 (iv_H 2))) :
    hd_W Ls xs d jm_M93 Q (0, sy_dL F [some (.inl (.ref 8)), some (.inr (.inl 82)), some (.inr (.inl 83)), some (.inr (.inl 84)), none, none, none], sy_dS F [], sy_dh F X1 X2 (iv_H 2), 0, 0) := by
  refine hd_ret (s := 2) (nv := 85) (v := some (.inl (.int (-1)))) (uh := hd_ov (iv_id 0 iv_B0) []) (f := true) (sp := [57]) (d0 := 1) (O := [false, true]) (T := []) (P := [(3, .inr (.inl 82), .inl (.int 0)), (4, .inr (.inl 18), .inr (.inl 82))]) jm_ok93 (by decide +kernel) (by decide +kernel) hd F X1 X2 (fun F' hF hs => ?_)
  have b82 := hd_b (F := F) (F' := F') (k := 82) (hF 82 (by decide))
  have b18 := hd_b (F := F) (F' := F') (k := 18) (hF 18 (by decide))
  have hB' : iv_in F' iv_B0 := iv_in_eq hB (fun j hj => hF j (Nat.lt_of_lt_of_le hj (by decide +kernel)))
  refine ⟨List.forall_mem_cons.mpr ⟨hd_p3 b82 rfl (by have hc : ((0) : Int32).toInt = 0 := (by decide); omega), List.forall_mem_cons.mpr ⟨hd_p4 b18 b82 h1, fun _ h => absurd h List.not_mem_nil⟩⟩, ?_⟩
  refine k _ ?_
  · exact fun j hj _ => (hd_keep hB' (Nat.lt_of_lt_of_le hj (by decide +kernel)) (by simp)).trans (hF j (Nat.lt_of_lt_of_le hj (by decide)))
theorem j2hg_0_p2 {Ls : Nat} {xs : Nat → Int32} {d : Nat} {Q : Option Value → jm_h → Prop} (hd : 2 ≤ d) (F : Nat → sy_d) (X1 X2 : List jm_c) (hB : iv_in F iv_B0)
    (h0 : 0 ≤ (sy_i F 82).toInt)
    (h1 : (sy_i F 82).toInt < (sy_i F 18).toInt)
    (h2 : (sy_i F 83).toInt < 1)
    (k : ∀ F1 : Nat → sy_d, (∀ j, j < 82 → True → F1 j = F j) → Q (some (.int (((-1) : Int32)))) (sy_dh F1 X1 X2 (iv_H 2))) :
    hd_W Ls xs d jm_M93 Q (0, sy_dL F [some (.inl (.ref 8)), some (.inr (.inl 82)), some (.inr (.inl 83)), some (.inr (.inl 84)), none, none, none], sy_dS F [], sy_dh F X1 X2 (iv_H 2), 0, 0) := by
  refine hd_ret (s := 2) (nv := 85) (v := some (.inl (.int (-1)))) (uh := hd_ov (iv_id 0 iv_B0) []) (f := true) (sp := [57]) (d0 := 1) (O := [false, false, true]) (T := []) (P := [(3, .inr (.inl 82), .inl (.int 0)), (5, .inr (.inl 18), .inr (.inl 82)), (2, .inr (.inl 83), .inl (.int 1))]) jm_ok93 (by decide +kernel) (by decide +kernel) hd F X1 X2 (fun F' hF hs => ?_)
  have b82 := hd_b (F := F) (F' := F') (k := 82) (hF 82 (by decide))
  have b18 := hd_b (F := F) (F' := F') (k := 18) (hF 18 (by decide))
  have b83 := hd_b (F := F) (F' := F') (k := 83) (hF 83 (by decide))
  have hB' : iv_in F' iv_B0 := iv_in_eq hB (fun j hj => hF j (Nat.lt_of_lt_of_le hj (by decide +kernel)))
  refine ⟨List.forall_mem_cons.mpr ⟨hd_p3 b82 rfl (by have hc : ((0) : Int32).toInt = 0 := (by decide); omega), List.forall_mem_cons.mpr ⟨hd_p5 b18 b82 h1, List.forall_mem_cons.mpr ⟨hd_p2 b83 rfl (by have hc : ((1) : Int32).toInt = 1 := (by decide); omega), fun _ h => absurd h List.not_mem_nil⟩⟩⟩, ?_⟩
  refine k _ ?_
  · exact fun j hj _ => (hd_keep hB' (Nat.lt_of_lt_of_le hj (by decide +kernel)) (by simp)).trans (hF j (Nat.lt_of_lt_of_le hj (by decide)))
theorem j2hg_0_p3 {Ls : Nat} {xs : Nat → Int32} {d : Nat} {Q : Option Value → jm_h → Prop} (hd : 2 ≤ d) (F : Nat → sy_d) (X1 X2 : List jm_c) (hB : iv_in F iv_B0)
    (h0 : 0 ≤ (sy_i F 82).toInt)
    (h1 : (sy_i F 82).toInt < (sy_i F 18).toInt)
    (h2 : 1 ≤ (sy_i F 83).toInt)
    (h3 : 4 < (sy_i F 83).toInt)
    (k : ∀ F1 : Nat → sy_d, (∀ j, j < 82 → True → F1 j = F j) → Q (some (.int (((-1) : Int32)))) (sy_dh F1 X1 X2 (iv_H 2))) :
    hd_W Ls xs d jm_M93 Q (0, sy_dL F [some (.inl (.ref 8)), some (.inr (.inl 82)), some (.inr (.inl 83)), some (.inr (.inl 84)), none, none, none], sy_dS F [], sy_dh F X1 X2 (iv_H 2), 0, 0) := by
  refine hd_ret (s := 2) (nv := 85) (v := some (.inl (.int (-1)))) (uh := hd_ov (iv_id 0 iv_B0) []) (f := true) (sp := [57]) (d0 := 1) (O := [false, false, false, true]) (T := []) (P := [(3, .inr (.inl 82), .inl (.int 0)), (5, .inr (.inl 18), .inr (.inl 82)), (3, .inr (.inl 83), .inl (.int 1)), (2, .inl (.int 4), .inr (.inl 83))]) jm_ok93 (by decide +kernel) (by decide +kernel) hd F X1 X2 (fun F' hF hs => ?_)
  have b82 := hd_b (F := F) (F' := F') (k := 82) (hF 82 (by decide))
  have b18 := hd_b (F := F) (F' := F') (k := 18) (hF 18 (by decide))
  have b83 := hd_b (F := F) (F' := F') (k := 83) (hF 83 (by decide))
  have hB' : iv_in F' iv_B0 := iv_in_eq hB (fun j hj => hF j (Nat.lt_of_lt_of_le hj (by decide +kernel)))
  refine ⟨List.forall_mem_cons.mpr ⟨hd_p3 b82 rfl (by have hc : ((0) : Int32).toInt = 0 := (by decide); omega), List.forall_mem_cons.mpr ⟨hd_p5 b18 b82 h1, List.forall_mem_cons.mpr ⟨hd_p3 b83 rfl (by have hc : ((1) : Int32).toInt = 1 := (by decide); omega), List.forall_mem_cons.mpr ⟨hd_p2 rfl b83 (by have hc : ((4) : Int32).toInt = 4 := (by decide); omega), fun _ h => absurd h List.not_mem_nil⟩⟩⟩⟩, ?_⟩
  refine k _ ?_
  · exact fun j hj _ => (hd_keep hB' (Nat.lt_of_lt_of_le hj (by decide +kernel)) (by simp)).trans (hF j (Nat.lt_of_lt_of_le hj (by decide)))
theorem j2hg_0_p4 {Ls : Nat} {xs : Nat → Int32} {d : Nat} {Q : Option Value → jm_h → Prop} (hd : 2 ≤ d) (F : Nat → sy_d) (X1 X2 : List jm_c) (hB : iv_in F iv_B0)
    (h0 : 0 ≤ (sy_i F 82).toInt)
    (h1 : (sy_i F 82).toInt < (sy_i F 18).toInt)
    (h2 : 1 ≤ (sy_i F 83).toInt)
    (h3 : (sy_i F 83).toInt ≤ 4)
    (h4 : 0 ≤ (sy_i F 82).toInt ∧ (sy_i F 82).toInt < 7)
    (h5 : ((sy_ai F 54).getD (sy_i F 82).toNatClampNeg 0).toInt = 0)
    (h6 : 0 ≤ (sy_i F 82).toInt ∧ (sy_i F 82).toInt < 7)
    (k : ∀ F1 : Nat → sy_d, (∀ j, j < 82 → True → F1 j = F j) → F1 82 = .inl (.int (sy_i F 82)) → F1 83 = .inl (.int (sy_i F 83)) → F1 84 = .inl (.int (sy_i F 84)) → F1 85 = .inl (.int (sy_i F 82)) → F1 86 = .inl (.int (sy_i F 83)) → F1 87 = .inl (.int ((sy_ai F 57).getD (sy_i F 82).toNatClampNeg 0)) → hd_W Ls xs d jm_M93 Q (57, sy_dL F1 [some (.inl (.ref 8)), some (.inr (.inl 82)), some (.inr (.inl 83)), some (.inr (.inl 84)), none, none, none], sy_dS F1 [.inr (.inl 87), .inr (.inl 86), .inr (.inl 85), .inl (.ref 46), .inl (.ref 20), .inl (.ref 42)], sy_dh F1 X1 X2 (iv_H 2), 0, 0)) :
    hd_W Ls xs d jm_M93 Q (0, sy_dL F [some (.inl (.ref 8)), some (.inr (.inl 82)), some (.inr (.inl 83)), some (.inr (.inl 84)), none, none, none], sy_dS F [], sy_dh F X1 X2 (iv_H 2), 0, 0) := by
  refine hd_run (s := 2) (nv := 85) (pc := 57) (L := [some (.inl (.ref 8)), some (.inr (.inl 82)), some (.inr (.inl 83)), some (.inr (.inl 84)), none, none, none]) (S := [.inr (.inl 87), .inr (.inl 86), .inr (.inl 85), .inl (.ref 46), .inl (.ref 20), .inl (.ref 42)]) (uh := hd_ov (iv_id 0 iv_B0) []) (ul := [.inl (.inr (.inl 82)), .inl (.inr (.inl 83)), .inl (.inr (.inl 84)), .inl (.inr (.inl 82)), .inl (.inr (.inl 83)), .inl (.inr (.inl 86))]) (f := true) (sp := [57]) (d0 := 1) (O := [false, false, false, false, true]) (T := [(30, [.inr (.inl 82)], [.inr (.inl 54)]), (30, [.inr (.inl 82)], [.inr (.inl 57)])]) (P := [(3, .inr (.inl 82), .inl (.int 0)), (5, .inr (.inl 18), .inr (.inl 82)), (3, .inr (.inl 83), .inl (.int 1)), (3, .inl (.int 4), .inr (.inl 83)), (6, .inr (.inl 82), .inl (.ref 7)), (0, .inr (.inl 85), .inl (.int 0)), (6, .inr (.inl 82), .inl (.ref 7))]) jm_ok93 (by decide +kernel) (by decide +kernel) hd F X1 X2 (fun F' hF hs => ?_)
  have b82 := hd_b (F := F) (F' := F') (k := 82) (hF 82 (by decide))
  have b18 := hd_b (F := F) (F' := F') (k := 18) (hF 18 (by decide))
  have b83 := hd_b (F := F) (F' := F') (k := 83) (hF 83 (by decide))
  have a54 := hd_ba (F := F) (F' := F') (k := 54) (hF 54 (by decide))
  have t85 : sy_dv F' (.inr (.inl 85)) = .int ((sy_ai F 54).getD (sy_i F 82).toNatClampNeg 0) := hd_rd (hs 0 _ rfl) b82 a54
  have b84 := hd_b (F := F) (F' := F') (k := 84) (hF 84 (by decide))
  have a57 := hd_ba (F := F) (F' := F') (k := 57) (hF 57 (by decide))
  have t86 : sy_dv F' (.inr (.inl 86)) = .int ((sy_ai F 57).getD (sy_i F 82).toNatClampNeg 0) := hd_rd (hs 1 _ rfl) b82 a57
  have hB' : iv_in F' iv_B0 := iv_in_eq hB (fun j hj => hF j (Nat.lt_of_lt_of_le hj (by decide +kernel)))
  refine ⟨List.forall_mem_cons.mpr ⟨hd_p3 b82 rfl (by have hc : ((0) : Int32).toInt = 0 := (by decide); omega), List.forall_mem_cons.mpr ⟨hd_p5 b18 b82 h1, List.forall_mem_cons.mpr ⟨hd_p3 b83 rfl (by have hc : ((1) : Int32).toInt = 1 := (by decide); omega), List.forall_mem_cons.mpr ⟨hd_p3 rfl b83 (by have hc : ((4) : Int32).toInt = 4 := (by decide); omega), List.forall_mem_cons.mpr ⟨hd_pb b82 (by first | exact h4 | exact h4), List.forall_mem_cons.mpr ⟨hd_p0 t85 rfl (by have hc : ((0) : Int32).toInt = 0 := (by decide); omega), List.forall_mem_cons.mpr ⟨hd_pb b82 (by first | exact h6 | exact h6), fun _ h => absurd h List.not_mem_nil⟩⟩⟩⟩⟩⟩⟩, ?_⟩
  refine k _ ?_ ?_ ?_ ?_ ?_ ?_ ?_
  · exact fun j hj _ => (hd_keep hB' (Nat.lt_of_lt_of_le hj (by decide +kernel)) (by simp)).trans (hF j (Nat.lt_of_lt_of_le hj (by decide)))
  · exact hd_gi (x := .inr (.inl 82)) (by decide +kernel) b82
  · exact hd_gi (x := .inr (.inl 83)) (by decide +kernel) b83
  · exact hd_gi (x := .inr (.inl 84)) (by decide +kernel) b84
  · exact hd_gi (x := .inr (.inl 82)) (by decide +kernel) b82
  · exact hd_gi (x := .inr (.inl 83)) (by decide +kernel) b83
  · exact hd_gi (x := .inr (.inl 86)) (by decide +kernel) t86
theorem j2hg_0_p5 {Ls : Nat} {xs : Nat → Int32} {d : Nat} {Q : Option Value → jm_h → Prop} (hd : 2 ≤ d) (F : Nat → sy_d) (X1 X2 : List jm_c) (hB : iv_in F iv_B0)
    (h0 : 0 ≤ (sy_i F 82).toInt)
    (h1 : (sy_i F 82).toInt < (sy_i F 18).toInt)
    (h2 : 1 ≤ (sy_i F 83).toInt)
    (h3 : (sy_i F 83).toInt ≤ 4)
    (h4 : 0 ≤ (sy_i F 82).toInt ∧ (sy_i F 82).toInt < 7)
    (h5 : ((sy_ai F 54).getD (sy_i F 82).toNatClampNeg 0).toInt ≠ 0)
    (k : ∀ F1 : Nat → sy_d, (∀ j, j < 82 → True → F1 j = F j) → Q (some (.int (((-2) : Int32)))) (sy_dh F1 X1 X2 (iv_H 2))) :
    hd_W Ls xs d jm_M93 Q (0, sy_dL F [some (.inl (.ref 8)), some (.inr (.inl 82)), some (.inr (.inl 83)), some (.inr (.inl 84)), none, none, none], sy_dS F [], sy_dh F X1 X2 (iv_H 2), 0, 0) := by
  refine hd_ret (s := 2) (nv := 85) (v := some (.inl (.int (-2)))) (uh := hd_ov (iv_id 0 iv_B0) []) (f := true) (sp := [57]) (d0 := 1) (O := [false, false, false, false, false]) (T := [(30, [.inr (.inl 82)], [.inr (.inl 54)])]) (P := [(3, .inr (.inl 82), .inl (.int 0)), (5, .inr (.inl 18), .inr (.inl 82)), (3, .inr (.inl 83), .inl (.int 1)), (3, .inl (.int 4), .inr (.inl 83)), (6, .inr (.inl 82), .inl (.ref 7)), (1, .inr (.inl 85), .inl (.int 0))]) jm_ok93 (by decide +kernel) (by decide +kernel) hd F X1 X2 (fun F' hF hs => ?_)
  have b82 := hd_b (F := F) (F' := F') (k := 82) (hF 82 (by decide))
  have b18 := hd_b (F := F) (F' := F') (k := 18) (hF 18 (by decide))
  have b83 := hd_b (F := F) (F' := F') (k := 83) (hF 83 (by decide))
  have a54 := hd_ba (F := F) (F' := F') (k := 54) (hF 54 (by decide))
  have t85 : sy_dv F' (.inr (.inl 85)) = .int ((sy_ai F 54).getD (sy_i F 82).toNatClampNeg 0) := hd_rd (hs 0 _ rfl) b82 a54
  have hB' : iv_in F' iv_B0 := iv_in_eq hB (fun j hj => hF j (Nat.lt_of_lt_of_le hj (by decide +kernel)))
  refine ⟨List.forall_mem_cons.mpr ⟨hd_p3 b82 rfl (by have hc : ((0) : Int32).toInt = 0 := (by decide); omega), List.forall_mem_cons.mpr ⟨hd_p5 b18 b82 h1, List.forall_mem_cons.mpr ⟨hd_p3 b83 rfl (by have hc : ((1) : Int32).toInt = 1 := (by decide); omega), List.forall_mem_cons.mpr ⟨hd_p3 rfl b83 (by have hc : ((4) : Int32).toInt = 4 := (by decide); omega), List.forall_mem_cons.mpr ⟨hd_pb b82 (by first | exact h4 | exact h4), List.forall_mem_cons.mpr ⟨hd_p1 t85 rfl (by have hc : ((0) : Int32).toInt = 0 := (by decide); omega), fun _ h => absurd h List.not_mem_nil⟩⟩⟩⟩⟩⟩, ?_⟩
  refine k _ ?_
  · exact fun j hj _ => (hd_keep hB' (Nat.lt_of_lt_of_le hj (by decide +kernel)) (by simp)).trans (hF j (Nat.lt_of_lt_of_le hj (by decide)))
theorem j2hg_0 {Ls : Nat} {xs : Nat → Int32} {d : Nat} {Q : Option Value → jm_h → Prop} (hd : 2 ≤ d) (F : Nat → sy_d) (X1 X2 : List jm_c) (hB : iv_in F iv_B0)
    (k0 : (sy_i F 82).toInt < 0 → ∀ F1 : Nat → sy_d, iv_in F1 iv_B0 → (∀ j, j < 82 → j ∉ ([] : List Nat) → F1 j = F j) → Q (some (.int (((-1) : Int32)))) (sy_dh F1 X1 X2 (iv_H 2)))
    (k1 : 0 ≤ (sy_i F 82).toInt → (sy_i F 18).toInt ≤ (sy_i F 82).toInt → ∀ F1 : Nat → sy_d, iv_in F1 iv_B0 → (∀ j, j < 82 → j ∉ ([] : List Nat) → F1 j = F j) → Q (some (.int (((-1) : Int32)))) (sy_dh F1 X1 X2 (iv_H 2)))
    (k2 : 0 ≤ (sy_i F 82).toInt → (sy_i F 82).toInt < (sy_i F 18).toInt → (sy_i F 83).toInt < 1 → ∀ F1 : Nat → sy_d, iv_in F1 iv_B0 → (∀ j, j < 82 → j ∉ ([] : List Nat) → F1 j = F j) → Q (some (.int (((-1) : Int32)))) (sy_dh F1 X1 X2 (iv_H 2)))
    (k3 : 0 ≤ (sy_i F 82).toInt → (sy_i F 82).toInt < (sy_i F 18).toInt → 1 ≤ (sy_i F 83).toInt → 4 < (sy_i F 83).toInt → ∀ F1 : Nat → sy_d, iv_in F1 iv_B0 → (∀ j, j < 82 → j ∉ ([] : List Nat) → F1 j = F j) → Q (some (.int (((-1) : Int32)))) (sy_dh F1 X1 X2 (iv_H 2)))
    (k4 : 0 ≤ (sy_i F 82).toInt → (sy_i F 82).toInt < (sy_i F 18).toInt → 1 ≤ (sy_i F 83).toInt → (sy_i F 83).toInt ≤ 4 → ((sy_ai F 54).getD ((sy_i F 82).toInt).toNat 0).toInt = 0 → ∀ F1 : Nat → sy_d, iv_in F1 iv_B0 → (∀ j, j < 82 → j ∉ ([] : List Nat) → F1 j = F j) → (sy_i F1 82).toInt = (sy_i F 82).toInt → sy_i F1 82 = sy_i F 82 → (sy_i F1 83).toInt = (sy_i F 83).toInt → sy_i F1 83 = sy_i F 83 → (sy_i F1 84).toInt = (sy_i F 84).toInt → sy_i F1 84 = sy_i F 84 → (sy_i F1 85).toInt = (sy_i F 82).toInt → sy_i F1 85 = sy_i F 82 → (sy_i F1 86).toInt = (sy_i F 83).toInt → sy_i F1 86 = sy_i F 83 → (sy_i F1 87).toInt = ((sy_ai F 57).getD ((sy_i F 82).toInt).toNat 0).toInt → sy_i F1 87 = (sy_ai F 57).getD ((sy_i F 82).toInt).toNat 0 → hd_W Ls xs d jm_M93 Q (57, sy_dL F1 [some (.inl (.ref 8)), some (.inr (.inl 82)), some (.inr (.inl 83)), some (.inr (.inl 84)), none, none, none], sy_dS F1 [.inr (.inl 87), .inr (.inl 86), .inr (.inl 85), .inl (.ref 46), .inl (.ref 20), .inl (.ref 42)], sy_dh F1 X1 X2 (iv_H 2), 0, 0))
    (k5 : 0 ≤ (sy_i F 82).toInt → (sy_i F 82).toInt < (sy_i F 18).toInt → 1 ≤ (sy_i F 83).toInt → (sy_i F 83).toInt ≤ 4 → ((sy_ai F 54).getD ((sy_i F 82).toInt).toNat 0).toInt ≠ 0 → ∀ F1 : Nat → sy_d, iv_in F1 iv_B0 → (∀ j, j < 82 → j ∉ ([] : List Nat) → F1 j = F j) → Q (some (.int (((-2) : Int32)))) (sy_dh F1 X1 X2 (iv_H 2))) :
    hd_W Ls xs d jm_M93 Q (0, sy_dL F [some (.inl (.ref 8)), some (.inr (.inl 82)), some (.inr (.inl 83)), some (.inr (.inl 84)), none, none, none], sy_dS F [], sy_dh F X1 X2 (iv_H 2), 0, 0) := by
  by_cases g0 : (sy_i F 82).toInt < 0
  · exact j2hg_0_p0 hd F X1 X2 hB (by first | exact g0 | (simp only [nz_c]; exact g0)) (fun F1 g  => k0 g0 F1 (nz_in0 hB [] (fun j hj hn => g j hj (by simp only [List.mem_cons, List.not_mem_nil, or_false, not_or] at hn; exact trivial)) (List.forall_mem_nil _)) (fun j hj hn => g j hj (by simp only [List.mem_cons, List.not_mem_nil, or_false, not_or] at hn; exact trivial)) )
  replace g0 : 0 ≤ (sy_i F 82).toInt := by omega
  by_cases g1 : (sy_i F 18).toInt ≤ (sy_i F 82).toInt
  · have c18 := nz_bx hB (k := 18) (lo := 0) (hi := 7) rfl
    exact j2hg_0_p1 hd F X1 X2 hB (by first | exact g0 | (simp only [nz_c]; exact g0)) (by first | exact g1 | (simp only [nz_c]; exact g1)) (fun F1 g  => k1 g0 g1 F1 (nz_in0 hB [] (fun j hj hn => g j hj (by simp only [List.mem_cons, List.not_mem_nil, or_false, not_or] at hn; exact trivial)) (List.forall_mem_nil _)) (fun j hj hn => g j hj (by simp only [List.mem_cons, List.not_mem_nil, or_false, not_or] at hn; exact trivial)) )
  replace g1 : (sy_i F 82).toInt < (sy_i F 18).toInt := by omega
  by_cases g2 : (sy_i F 83).toInt < 1
  · have c18 := nz_bx hB (k := 18) (lo := 0) (hi := 7) rfl
    exact j2hg_0_p2 hd F X1 X2 hB (by first | exact g0 | (simp only [nz_c]; exact g0)) (by first | exact g1 | (simp only [nz_c]; exact g1)) (by first | exact g2 | (simp only [nz_c]; exact g2)) (fun F1 g  => k2 g0 g1 g2 F1 (nz_in0 hB [] (fun j hj hn => g j hj (by simp only [List.mem_cons, List.not_mem_nil, or_false, not_or] at hn; exact trivial)) (List.forall_mem_nil _)) (fun j hj hn => g j hj (by simp only [List.mem_cons, List.not_mem_nil, or_false, not_or] at hn; exact trivial)) )
  replace g2 : 1 ≤ (sy_i F 83).toInt := by omega
  by_cases g3 : 4 < (sy_i F 83).toInt
  · have c18 := nz_bx hB (k := 18) (lo := 0) (hi := 7) rfl
    exact j2hg_0_p3 hd F X1 X2 hB (by first | exact g0 | (simp only [nz_c]; exact g0)) (by first | exact g1 | (simp only [nz_c]; exact g1)) (by first | exact g2 | (simp only [nz_c]; exact g2)) (by first | exact g3 | (simp only [nz_c]; exact g3)) (fun F1 g  => k3 g0 g1 g2 g3 F1 (nz_in0 hB [] (fun j hj hn => g j hj (by simp only [List.mem_cons, List.not_mem_nil, or_false, not_or] at hn; exact trivial)) (List.forall_mem_nil _)) (fun j hj hn => g j hj (by simp only [List.mem_cons, List.not_mem_nil, or_false, not_or] at hn; exact trivial)) )
  replace g3 : (sy_i F 83).toInt ≤ 4 := by omega
  by_cases g4 : ((sy_ai F 54).getD ((sy_i F 82).toInt).toNat 0).toInt = 0
  · have c18 := nz_bx hB (k := 18) (lo := 0) (hi := 7) rfl
    have q85 : (sy_ai F 54).getD (sy_i F 82).toNatClampNeg 0 = (sy_ai F 54).getD ((sy_i F 82).toInt).toNat 0 := by simp only [nz_c]
    have n85 : nzI ((sy_ai F 54).getD (sy_i F 82).toNatClampNeg 0) (((sy_ai F 54).getD ((sy_i F 82).toInt).toNat 0).toInt) := congrArg Int32.toInt q85
    have q86 : (sy_ai F 57).getD (sy_i F 82).toNatClampNeg 0 = (sy_ai F 57).getD ((sy_i F 82).toInt).toNat 0 := by simp only [nz_c]
    have n86 : nzI ((sy_ai F 57).getD (sy_i F 82).toNatClampNeg 0) (((sy_ai F 57).getD ((sy_i F 82).toInt).toNat 0).toInt) := congrArg Int32.toInt q86
    exact j2hg_0_p4 hd F X1 X2 hB (by first | exact g0 | (simp only [nz_c]; exact g0)) (by first | exact g1 | (simp only [nz_c]; exact g1)) (by first | exact g2 | (simp only [nz_c]; exact g2)) (by first | exact g3 | (simp only [nz_c]; exact g3)) (by first | exact ⟨by omega, by omega⟩ | (simp only [nz_c]; exact ⟨by omega, by omega⟩)) (by first | exact g4 | (simp only [nz_c]; exact g4) | (rw [(nzE n85)]; exact g4)) (by first | exact ⟨by omega, by omega⟩ | (simp only [nz_c]; exact ⟨by omega, by omega⟩)) (fun F1 g e82 e83 e84 e85 e86 e87 => k4 g0 g1 g2 g3 g4 F1 (nz_in0 hB [] (fun j hj hn => g j hj (by simp only [List.mem_cons, List.not_mem_nil, or_false, not_or] at hn; exact trivial)) (List.forall_mem_nil _)) (fun j hj hn => g j hj (by simp only [List.mem_cons, List.not_mem_nil, or_false, not_or] at hn; exact trivial)) ((congrArg Int32.toInt (zz_i e82)).trans (rfl : (sy_i F 82).toInt = (sy_i F 82).toInt)) ((zz_i e82).trans (rfl : sy_i F 82 = sy_i F 82)) ((congrArg Int32.toInt (zz_i e83)).trans (rfl : (sy_i F 83).toInt = (sy_i F 83).toInt)) ((zz_i e83).trans (rfl : sy_i F 83 = sy_i F 83)) ((congrArg Int32.toInt (zz_i e84)).trans (rfl : (sy_i F 84).toInt = (sy_i F 84).toInt)) ((zz_i e84).trans (rfl : sy_i F 84 = sy_i F 84)) ((congrArg Int32.toInt (zz_i e85)).trans (rfl : (sy_i F 82).toInt = (sy_i F 82).toInt)) ((zz_i e85).trans (rfl : sy_i F 82 = sy_i F 82)) ((congrArg Int32.toInt (zz_i e86)).trans (rfl : (sy_i F 83).toInt = (sy_i F 83).toInt)) ((zz_i e86).trans (rfl : sy_i F 83 = sy_i F 83)) ((congrArg Int32.toInt (zz_i e87)).trans (nzE n86)) ((zz_i e87).trans q86))
  replace g4 : ((sy_ai F 54).getD ((sy_i F 82).toInt).toNat 0).toInt ≠ 0 := by omega
  have c18 := nz_bx hB (k := 18) (lo := 0) (hi := 7) rfl
  have q85 : (sy_ai F 54).getD (sy_i F 82).toNatClampNeg 0 = (sy_ai F 54).getD ((sy_i F 82).toInt).toNat 0 := by simp only [nz_c]
  have n85 : nzI ((sy_ai F 54).getD (sy_i F 82).toNatClampNeg 0) (((sy_ai F 54).getD ((sy_i F 82).toInt).toNat 0).toInt) := congrArg Int32.toInt q85
  exact j2hg_0_p5 hd F X1 X2 hB (by first | exact g0 | (simp only [nz_c]; exact g0)) (by first | exact g1 | (simp only [nz_c]; exact g1)) (by first | exact g2 | (simp only [nz_c]; exact g2)) (by first | exact g3 | (simp only [nz_c]; exact g3)) (by first | exact ⟨by omega, by omega⟩ | (simp only [nz_c]; exact ⟨by omega, by omega⟩)) (by first | exact g4 | (simp only [nz_c]; exact g4) | (rw [(nzE n85)]; exact g4)) (fun F1 g  => k5 g0 g1 g2 g3 g4 F1 (nz_in0 hB [] (fun j hj hn => g j hj (by simp only [List.mem_cons, List.not_mem_nil, or_false, not_or] at hn; exact trivial)) (List.forall_mem_nil _)) (fun j hj hn => g j hj (by simp only [List.mem_cons, List.not_mem_nil, or_false, not_or] at hn; exact trivial)) )
theorem j2hg_60_p0 {Ls : Nat} {xs : Nat → Int32} {d : Nat} {Q : Option Value → jm_h → Prop} (hd : 1 ≤ d) (F : Nat → sy_d) (X1 X2 : List jm_c) (hB : iv_in F iv_B0)
    (k : ∀ F1 : Nat → sy_d, (∀ j, j < 82 → True → F1 j = F j) → F1 82 = .inl (.int (sy_i F 83)) → F1 83 = .inl (.int (sy_i F 84)) → F1 84 = .inl (.int ((1 : Int32))) → F1 85 = .inl (.int ((1 : Int32))) → F1 86 = .inl (.int ((0 : Int32))) → hd_W Ls xs d jm_M93 Q (69, sy_dL F1 [some (.inl (.ref 8)), none, some (.inr (.inl 82)), some (.inr (.inl 83)), some (.inr (.inl 84)), some (.inr (.inl 85)), some (.inr (.inl 86))], sy_dS F1 [], sy_dh F1 X1 X2 (iv_H 2), 0, 0)) :
    hd_W Ls xs d jm_M93 Q (60, sy_dL F [some (.inl (.ref 8)), some (.inr (.inl 82)), some (.inr (.inl 83)), some (.inr (.inl 84)), none, none, none], sy_dS F [], sy_dh F X1 X2 (iv_H 2), 0, 0) := by
  refine hd_run (s := 2) (nv := 85) (pc := 69) (L := [some (.inl (.ref 8)), none, some (.inr (.inl 82)), some (.inr (.inl 83)), some (.inr (.inl 84)), some (.inr (.inl 85)), some (.inr (.inl 86))]) (S := []) (uh := hd_ov (iv_id 0 iv_B0) []) (ul := [.inl (.inr (.inl 83)), .inl (.inr (.inl 84)), .inl (.inl (.int 1)), .inl (.inl (.int 1)), .inl (.inl (.int 0))]) (f := false) (sp := [69]) (d0 := 0) (O := []) (T := []) (P := []) jm_ok93 (by decide +kernel) (by decide +kernel) hd F X1 X2 (fun F' hF hs => ?_)
  have b83 := hd_b (F := F) (F' := F') (k := 83) (hF 83 (by decide))
  have b84 := hd_b (F := F) (F' := F') (k := 84) (hF 84 (by decide))
  have hB' : iv_in F' iv_B0 := iv_in_eq hB (fun j hj => hF j (Nat.lt_of_lt_of_le hj (by decide +kernel)))
  refine ⟨fun _ h => absurd h List.not_mem_nil, ?_⟩
  refine k _ ?_ ?_ ?_ ?_ ?_ ?_
  · exact fun j hj _ => (hd_keep hB' (Nat.lt_of_lt_of_le hj (by decide +kernel)) (by simp)).trans (hF j (Nat.lt_of_lt_of_le hj (by decide)))
  · exact hd_gi (x := .inr (.inl 83)) (by decide +kernel) b83
  · exact hd_gi (x := .inr (.inl 84)) (by decide +kernel) b84
  · exact hd_gi (x := .inl (.int 1)) (by decide +kernel) rfl
  · exact hd_gi (x := .inl (.int 1)) (by decide +kernel) rfl
  · exact hd_gi (x := .inl (.int 0)) (by decide +kernel) rfl
theorem j2hg_60 {Ls : Nat} {xs : Nat → Int32} {d : Nat} {Q : Option Value → jm_h → Prop} (hd : 1 ≤ d) (F : Nat → sy_d) (X1 X2 : List jm_c) (hB : iv_in F iv_B0)
    (k0 : ∀ F1 : Nat → sy_d, iv_in F1 iv_B0 → (∀ j, j < 82 → j ∉ ([] : List Nat) → F1 j = F j) → (sy_i F1 82).toInt = (sy_i F 83).toInt → sy_i F1 82 = sy_i F 83 → (sy_i F1 83).toInt = (sy_i F 84).toInt → sy_i F1 83 = sy_i F 84 → (sy_i F1 84).toInt = 1 → sy_i F1 84 = (1 : Int32) → (sy_i F1 85).toInt = 1 → sy_i F1 85 = (1 : Int32) → (sy_i F1 86).toInt = 0 → sy_i F1 86 = (0 : Int32) → hd_W Ls xs d jm_M93 Q (69, sy_dL F1 [some (.inl (.ref 8)), none, some (.inr (.inl 82)), some (.inr (.inl 83)), some (.inr (.inl 84)), some (.inr (.inl 85)), some (.inr (.inl 86))], sy_dS F1 [], sy_dh F1 X1 X2 (iv_H 2), 0, 0)) :
    hd_W Ls xs d jm_M93 Q (60, sy_dL F [some (.inl (.ref 8)), some (.inr (.inl 82)), some (.inr (.inl 83)), some (.inr (.inl 84)), none, none, none], sy_dS F [], sy_dh F X1 X2 (iv_H 2), 0, 0) := by
  exact j2hg_60_p0 hd F X1 X2 hB  (fun F1 g e82 e83 e84 e85 e86 => k0 F1 (nz_in0 hB [] (fun j hj hn => g j hj (by simp only [List.mem_cons, List.not_mem_nil, or_false, not_or] at hn; exact trivial)) (List.forall_mem_nil _)) (fun j hj hn => g j hj (by simp only [List.mem_cons, List.not_mem_nil, or_false, not_or] at hn; exact trivial)) ((congrArg Int32.toInt (zz_i e82)).trans (rfl : (sy_i F 83).toInt = (sy_i F 83).toInt)) ((zz_i e82).trans (rfl : sy_i F 83 = sy_i F 83)) ((congrArg Int32.toInt (zz_i e83)).trans (rfl : (sy_i F 84).toInt = (sy_i F 84).toInt)) ((zz_i e83).trans (rfl : sy_i F 84 = sy_i F 84)) ((congrArg Int32.toInt (zz_i e84)).trans (by decide : ((1 : Int32)).toInt = 1)) ((zz_i e84).trans (rfl : (1 : Int32) = (1 : Int32))) ((congrArg Int32.toInt (zz_i e85)).trans (by decide : ((1 : Int32)).toInt = 1)) ((zz_i e85).trans (rfl : (1 : Int32) = (1 : Int32))) ((congrArg Int32.toInt (zz_i e86)).trans (by decide : ((0 : Int32)).toInt = 0)) ((zz_i e86).trans (rfl : (0 : Int32) = (0 : Int32))))
theorem j2hg_69_p0 {Ls : Nat} {xs : Nat → Int32} {d : Nat} {Q : Option Value → jm_h → Prop} (hd : 1 ≤ d) (F : Nat → sy_d) (X1 X2 : List jm_c) (hB : iv_in F iv_B0)
    (h0 : (sy_i F 82).toInt ≤ (sy_i F 86).toInt)
    (k : ∀ F1 : Nat → sy_d, (∀ j, j < 82 → True → F1 j = F j) → F1 82 = .inl (.int (sy_i F 83)) → F1 83 = .inl (.int (sy_i F 84)) → F1 84 = .inl (.int (sy_i F 85)) → F1 85 = .inl (.int (sy_i F 84)) → F1 86 = .inl (.int (sy_i F 85)) → hd_W Ls xs d jm_M93 Q (110, sy_dL F1 [some (.inl (.ref 8)), none, none, some (.inr (.inl 82)), some (.inr (.inl 83)), some (.inr (.inl 84)), none], sy_dS F1 [.inr (.inl 86), .inr (.inl 85)], sy_dh F1 X1 X2 (iv_H 2), 0, 0)) :
    hd_W Ls xs d jm_M93 Q (69, sy_dL F [some (.inl (.ref 8)), none, some (.inr (.inl 82)), some (.inr (.inl 83)), some (.inr (.inl 84)), some (.inr (.inl 85)), some (.inr (.inl 86))], sy_dS F [], sy_dh F X1 X2 (iv_H 2), 0, 0) := by
  refine hd_run (s := 2) (nv := 87) (pc := 110) (L := [some (.inl (.ref 8)), none, none, some (.inr (.inl 82)), some (.inr (.inl 83)), some (.inr (.inl 84)), none]) (S := [.inr (.inl 86), .inr (.inl 85)]) (uh := hd_ov (iv_id 0 iv_B0) []) (ul := [.inl (.inr (.inl 83)), .inl (.inr (.inl 84)), .inl (.inr (.inl 85)), .inl (.inr (.inl 84)), .inl (.inr (.inl 85))]) (f := true) (sp := [69, 110]) (d0 := 0) (O := [true]) (T := []) (P := [(4, .inr (.inl 82), .inr (.inl 86))]) jm_ok93 (by decide +kernel) (by decide +kernel) hd F X1 X2 (fun F' hF hs => ?_)
  have b82 := hd_b (F := F) (F' := F') (k := 82) (hF 82 (by decide))
  have b86 := hd_b (F := F) (F' := F') (k := 86) (hF 86 (by decide))
  have b83 := hd_b (F := F) (F' := F') (k := 83) (hF 83 (by decide))
  have b84 := hd_b (F := F) (F' := F') (k := 84) (hF 84 (by decide))
  have b85 := hd_b (F := F) (F' := F') (k := 85) (hF 85 (by decide))
  have hB' : iv_in F' iv_B0 := iv_in_eq hB (fun j hj => hF j (Nat.lt_of_lt_of_le hj (by decide +kernel)))
  refine ⟨List.forall_mem_cons.mpr ⟨hd_p4 b82 b86 h0, fun _ h => absurd h List.not_mem_nil⟩, ?_⟩
  refine k _ ?_ ?_ ?_ ?_ ?_ ?_
  · exact fun j hj _ => (hd_keep hB' (Nat.lt_of_lt_of_le hj (by decide +kernel)) (by simp)).trans (hF j (Nat.lt_of_lt_of_le hj (by decide)))
  · exact hd_gi (x := .inr (.inl 83)) (by decide +kernel) b83
  · exact hd_gi (x := .inr (.inl 84)) (by decide +kernel) b84
  · exact hd_gi (x := .inr (.inl 85)) (by decide +kernel) b85
  · exact hd_gi (x := .inr (.inl 84)) (by decide +kernel) b84
  · exact hd_gi (x := .inr (.inl 85)) (by decide +kernel) b85
theorem j2hg_69_p1 {Ls : Nat} {xs : Nat → Int32} {d : Nat} {Q : Option Value → jm_h → Prop} (hd : 1 ≤ d) (F : Nat → sy_d) (X1 X2 : List jm_c) (hB : iv_in F iv_B0)
    (h0 : (sy_i F 86).toInt < (sy_i F 82).toInt)
    (h1 : 0 ≤ (sy_i F 86).toInt ∧ (sy_i F 86).toInt < 4)
    (k : ∀ F1 : Nat → sy_d, (∀ j, j < 82 → True → F1 j = F j) → F1 82 = .inl (.int (sy_i F 82)) → F1 83 = .inl (.int (sy_i F 83)) → F1 84 = .inl (.int ((sy_i F 84) * (((100 : Int32)) - ((sy_ai F 47).getD (sy_i F 86).toNatClampNeg 0)))) → F1 85 = .inl (.int ((sy_i F 85) * ((100 : Int32)))) → F1 86 = .inl (.int ((sy_i F 86) + ((1 : Int32)))) → hd_W Ls xs d jm_M93 Q (69, sy_dL F1 [some (.inl (.ref 8)), none, some (.inr (.inl 82)), some (.inr (.inl 83)), some (.inr (.inl 84)), some (.inr (.inl 85)), some (.inr (.inl 86))], sy_dS F1 [], sy_dh F1 X1 X2 (iv_H 2), 0, 0)) :
    hd_W Ls xs d jm_M93 Q (69, sy_dL F [some (.inl (.ref 8)), none, some (.inr (.inl 82)), some (.inr (.inl 83)), some (.inr (.inl 84)), some (.inr (.inl 85)), some (.inr (.inl 86))], sy_dS F [], sy_dh F X1 X2 (iv_H 2), 0, 0) := by
  refine hd_run (s := 2) (nv := 87) (pc := 69) (L := [some (.inl (.ref 8)), none, some (.inr (.inl 82)), some (.inr (.inl 83)), some (.inr (.inl 84)), some (.inr (.inl 85)), some (.inr (.inl 86))]) (S := []) (uh := hd_ov (iv_id 0 iv_B0) []) (ul := [.inl (.inr (.inl 82)), .inl (.inr (.inl 83)), .inl (.inr (.inl 89)), .inl (.inr (.inl 90)), .inl (.inr (.inl 91))]) (f := true) (sp := [69, 110]) (d0 := 0) (O := [false]) (T := [(30, [.inr (.inl 86)], [.inr (.inl 47)]), (1, [.inl (.int 100), .inr (.inl 87)], []), (2, [.inr (.inl 84), .inr (.inl 88)], []), (2, [.inr (.inl 85), .inl (.int 100)], []), (0, [.inr (.inl 86), .inl (.int 1)], [])]) (P := [(5, .inr (.inl 82), .inr (.inl 86)), (6, .inr (.inl 86), .inl (.ref 4))]) jm_ok93 (by decide +kernel) (by decide +kernel) hd F X1 X2 (fun F' hF hs => ?_)
  have b82 := hd_b (F := F) (F' := F') (k := 82) (hF 82 (by decide))
  have b86 := hd_b (F := F) (F' := F') (k := 86) (hF 86 (by decide))
  have b83 := hd_b (F := F) (F' := F') (k := 83) (hF 83 (by decide))
  have b84 := hd_b (F := F) (F' := F') (k := 84) (hF 84 (by decide))
  have a47 := hd_ba (F := F) (F' := F') (k := 47) (hF 47 (by decide))
  have t87 : sy_dv F' (.inr (.inl 87)) = .int ((sy_ai F 47).getD (sy_i F 86).toNatClampNeg 0) := hd_rd (hs 0 _ rfl) b86 a47
  have t88 : sy_dv F' (.inr (.inl 88)) = .int (((100 : Int32)) - ((sy_ai F 47).getD (sy_i F 86).toNatClampNeg 0)) := hd_o (hs 1 _ rfl) rfl t87 rfl
  have t89 : sy_dv F' (.inr (.inl 89)) = .int ((sy_i F 84) * (((100 : Int32)) - ((sy_ai F 47).getD (sy_i F 86).toNatClampNeg 0))) := hd_o (hs 2 _ rfl) b84 t88 rfl
  have b85 := hd_b (F := F) (F' := F') (k := 85) (hF 85 (by decide))
  have t90 : sy_dv F' (.inr (.inl 90)) = .int ((sy_i F 85) * ((100 : Int32))) := hd_o (hs 3 _ rfl) b85 rfl rfl
  have t91 : sy_dv F' (.inr (.inl 91)) = .int ((sy_i F 86) + ((1 : Int32))) := hd_o (hs 4 _ rfl) b86 rfl rfl
  have hB' : iv_in F' iv_B0 := iv_in_eq hB (fun j hj => hF j (Nat.lt_of_lt_of_le hj (by decide +kernel)))
  refine ⟨List.forall_mem_cons.mpr ⟨hd_p5 b82 b86 h0, List.forall_mem_cons.mpr ⟨hd_pb b86 (by first | exact h1 | exact h1), fun _ h => absurd h List.not_mem_nil⟩⟩, ?_⟩
  refine k _ ?_ ?_ ?_ ?_ ?_ ?_
  · exact fun j hj _ => (hd_keep hB' (Nat.lt_of_lt_of_le hj (by decide +kernel)) (by simp)).trans (hF j (Nat.lt_of_lt_of_le hj (by decide)))
  · exact hd_gi (x := .inr (.inl 82)) (by decide +kernel) b82
  · exact hd_gi (x := .inr (.inl 83)) (by decide +kernel) b83
  · exact hd_gi (x := .inr (.inl 89)) (by decide +kernel) t89
  · exact hd_gi (x := .inr (.inl 90)) (by decide +kernel) t90
  · exact hd_gi (x := .inr (.inl 91)) (by decide +kernel) t91
theorem j2hg_69 {Ls : Nat} {xs : Nat → Int32} {d : Nat} {Q : Option Value → jm_h → Prop} (hd : 1 ≤ d) (F : Nat → sy_d) (X1 X2 : List jm_c) (hB : iv_in F iv_B0)
    (a82 : 1 ≤ (sy_i F 82).toInt ∧ (sy_i F 82).toInt ≤ 4)
    (a86 : 0 ≤ (sy_i F 86).toInt ∧ (sy_i F 86).toInt ≤ 4)
    (k0 : (sy_i F 82).toInt ≤ (sy_i F 86).toInt → ∀ F1 : Nat → sy_d, iv_in F1 iv_B0 → (∀ j, j < 82 → j ∉ ([] : List Nat) → F1 j = F j) → (sy_i F1 82).toInt = (sy_i F 83).toInt → sy_i F1 82 = sy_i F 83 → (sy_i F1 83).toInt = (sy_i F 84).toInt → sy_i F1 83 = sy_i F 84 → (sy_i F1 84).toInt = (sy_i F 85).toInt → sy_i F1 84 = sy_i F 85 → (sy_i F1 85).toInt = (sy_i F 84).toInt → sy_i F1 85 = sy_i F 84 → (sy_i F1 86).toInt = (sy_i F 85).toInt → sy_i F1 86 = sy_i F 85 → hd_W Ls xs d jm_M93 Q (110, sy_dL F1 [some (.inl (.ref 8)), none, none, some (.inr (.inl 82)), some (.inr (.inl 83)), some (.inr (.inl 84)), none], sy_dS F1 [.inr (.inl 86), .inr (.inl 85)], sy_dh F1 X1 X2 (iv_H 2), 0, 0))
    (k1 : (sy_i F 86).toInt < (sy_i F 82).toInt → ∀ F1 : Nat → sy_d, iv_in F1 iv_B0 → (∀ j, j < 82 → j ∉ ([] : List Nat) → F1 j = F j) → (sy_i F1 82).toInt = (sy_i F 82).toInt → sy_i F1 82 = sy_i F 82 → (sy_i F1 83).toInt = (sy_i F 83).toInt → sy_i F1 83 = sy_i F 83 → (sy_i F1 84).toInt = ((sy_i F 84) * (((100 : Int32)) - ((sy_ai F 47).getD ((sy_i F 86).toInt).toNat 0))).toInt → sy_i F1 84 = (sy_i F 84) * (((100 : Int32)) - ((sy_ai F 47).getD ((sy_i F 86).toInt).toNat 0)) → (sy_i F1 85).toInt = ((sy_i F 85) * ((100 : Int32))).toInt → sy_i F1 85 = (sy_i F 85) * ((100 : Int32)) → (sy_i F1 86).toInt = ((sy_i F 86).toInt + 1) → sy_i F1 86 = (sy_i F 86) + ((1 : Int32)) → hd_W Ls xs d jm_M93 Q (69, sy_dL F1 [some (.inl (.ref 8)), none, some (.inr (.inl 82)), some (.inr (.inl 83)), some (.inr (.inl 84)), some (.inr (.inl 85)), some (.inr (.inl 86))], sy_dS F1 [], sy_dh F1 X1 X2 (iv_H 2), 0, 0)) :
    hd_W Ls xs d jm_M93 Q (69, sy_dL F [some (.inl (.ref 8)), none, some (.inr (.inl 82)), some (.inr (.inl 83)), some (.inr (.inl 84)), some (.inr (.inl 85)), some (.inr (.inl 86))], sy_dS F [], sy_dh F X1 X2 (iv_H 2), 0, 0) := by
  by_cases g0 : (sy_i F 82).toInt ≤ (sy_i F 86).toInt
  · exact j2hg_69_p0 hd F X1 X2 hB (by first | exact g0 | (simp only [nz_c]; exact g0)) (fun F1 g e82 e83 e84 e85 e86 => k0 g0 F1 (nz_in0 hB [] (fun j hj hn => g j hj (by simp only [List.mem_cons, List.not_mem_nil, or_false, not_or] at hn; exact trivial)) (List.forall_mem_nil _)) (fun j hj hn => g j hj (by simp only [List.mem_cons, List.not_mem_nil, or_false, not_or] at hn; exact trivial)) ((congrArg Int32.toInt (zz_i e82)).trans (rfl : (sy_i F 83).toInt = (sy_i F 83).toInt)) ((zz_i e82).trans (rfl : sy_i F 83 = sy_i F 83)) ((congrArg Int32.toInt (zz_i e83)).trans (rfl : (sy_i F 84).toInt = (sy_i F 84).toInt)) ((zz_i e83).trans (rfl : sy_i F 84 = sy_i F 84)) ((congrArg Int32.toInt (zz_i e84)).trans (rfl : (sy_i F 85).toInt = (sy_i F 85).toInt)) ((zz_i e84).trans (rfl : sy_i F 85 = sy_i F 85)) ((congrArg Int32.toInt (zz_i e85)).trans (rfl : (sy_i F 84).toInt = (sy_i F 84).toInt)) ((zz_i e85).trans (rfl : sy_i F 84 = sy_i F 84)) ((congrArg Int32.toInt (zz_i e86)).trans (rfl : (sy_i F 85).toInt = (sy_i F 85).toInt)) ((zz_i e86).trans (rfl : sy_i F 85 = sy_i F 85)))
  replace g0 : (sy_i F 86).toInt < (sy_i F 82).toInt := by omega
  have q89 : (sy_i F 84) * (((100 : Int32)) - ((sy_ai F 47).getD (sy_i F 86).toNatClampNeg 0)) = (sy_i F 84) * (((100 : Int32)) - ((sy_ai F 47).getD ((sy_i F 86).toInt).toNat 0)) := by simp only [nz_c, (by decide : ((100 : Int32)).toInt = 100)]
  have n89 : nzI ((sy_i F 84) * (((100 : Int32)) - ((sy_ai F 47).getD (sy_i F 86).toNatClampNeg 0))) (((sy_i F 84) * (((100 : Int32)) - ((sy_ai F 47).getD ((sy_i F 86).toInt).toNat 0))).toInt) := congrArg Int32.toInt q89
  have n90 : nzI ((sy_i F 85) * ((100 : Int32))) (((sy_i F 85) * ((100 : Int32))).toInt) := congrArg Int32.toInt (rfl : (sy_i F 85) * ((100 : Int32)) = (sy_i F 85) * ((100 : Int32)))
  have n91 : nzI ((sy_i F 86) + ((1 : Int32))) (((sy_i F 86).toInt + 1)) := nz_add (rfl : (sy_i F 86).toInt = (sy_i F 86).toInt) (by decide : ((1 : Int32)).toInt = 1) (by omega) (by omega)
  exact j2hg_69_p1 hd F X1 X2 hB (by first | exact g0 | (simp only [nz_c]; exact g0)) (by first | exact ⟨by omega, by omega⟩ | (simp only [nz_c]; exact ⟨by omega, by omega⟩)) (fun F1 g e82 e83 e84 e85 e86 => k1 g0 F1 (nz_in0 hB [] (fun j hj hn => g j hj (by simp only [List.mem_cons, List.not_mem_nil, or_false, not_or] at hn; exact trivial)) (List.forall_mem_nil _)) (fun j hj hn => g j hj (by simp only [List.mem_cons, List.not_mem_nil, or_false, not_or] at hn; exact trivial)) ((congrArg Int32.toInt (zz_i e82)).trans (rfl : (sy_i F 82).toInt = (sy_i F 82).toInt)) ((zz_i e82).trans (rfl : sy_i F 82 = sy_i F 82)) ((congrArg Int32.toInt (zz_i e83)).trans (rfl : (sy_i F 83).toInt = (sy_i F 83).toInt)) ((zz_i e83).trans (rfl : sy_i F 83 = sy_i F 83)) ((congrArg Int32.toInt (zz_i e84)).trans (nzE n89)) ((zz_i e84).trans q89) ((congrArg Int32.toInt (zz_i e85)).trans (nzE n90)) ((zz_i e85).trans (rfl : (sy_i F 85) * ((100 : Int32)) = (sy_i F 85) * ((100 : Int32)))) ((congrArg Int32.toInt (zz_i e86)).trans (nzE n91)) ((zz_i e86).trans (rfl : (sy_i F 86) + ((1 : Int32)) = (sy_i F 86) + ((1 : Int32)))))
theorem j2hg_113_p0 {Ls : Nat} {xs : Nat → Int32} {d : Nat} {Q : Option Value → jm_h → Prop} (hd : 1 ≤ d) (F : Nat → sy_d) (X1 X2 : List jm_c) (hB : iv_in F iv_B0)
    (h0 : (sy_i F 85).toInt ≠ 0)
    (h1 : (sy_i F 82).toInt = 0)
    (h2 : (sy_i F 85).toInt ≠ 0)
    (k : ∀ F1 : Nat → sy_d, (∀ j, j < 82 → True → F1 j = F j) → Q (some (.int ((sy_i F 83) / (sy_i F 85)))) (sy_dh F1 X1 X2 (iv_H 2))) :
    hd_W Ls xs d jm_M93 Q (113, sy_dL F [some (.inl (.ref 8)), none, none, some (.inr (.inl 82)), some (.inr (.inl 83)), some (.inr (.inl 84)), none], sy_dS F [.inr (.inl 85)], sy_dh F X1 X2 (iv_H 2), 0, 0) := by
  refine hd_ret (s := 2) (nv := 86) (v := some (.inr (.inl 86))) (uh := hd_ov (iv_id 0 iv_B0) []) (f := false) (sp := []) (d0 := 0) (O := [true, true]) (T := [(9, [.inr (.inl 83), .inr (.inl 85)], [])]) (P := [(1, .inr (.inl 85), .inl (.int 0)), (0, .inr (.inl 82), .inl (.int 0)), (1, .inr (.inl 85), .inl (.int 0))]) jm_ok93 (by decide +kernel) (by decide +kernel) hd F X1 X2 (fun F' hF hs => ?_)
  have b85 := hd_b (F := F) (F' := F') (k := 85) (hF 85 (by decide))
  have b82 := hd_b (F := F) (F' := F') (k := 82) (hF 82 (by decide))
  have b83 := hd_b (F := F) (F' := F') (k := 83) (hF 83 (by decide))
  have t86 : sy_dv F' (.inr (.inl 86)) = .int ((sy_i F 83) / (sy_i F 85)) := hd_o (hs 0 _ rfl) b83 b85 rfl
  have hB' : iv_in F' iv_B0 := iv_in_eq hB (fun j hj => hF j (Nat.lt_of_lt_of_le hj (by decide +kernel)))
  have hk := k (sy_cm F' (hd_ov (iv_id 0 iv_B0) [] ++ [])) (fun j hj _ => (hd_keep hB' (Nat.lt_of_lt_of_le hj (by decide +kernel)) (by simp)).trans (hF j (Nat.lt_of_lt_of_le hj (by decide))))
  refine ⟨List.forall_mem_cons.mpr ⟨hd_p1 b85 rfl (by have hc : ((0) : Int32).toInt = 0 := (by decide); omega), List.forall_mem_cons.mpr ⟨hd_p0 b82 rfl (by have hc : ((0) : Int32).toInt = 0 := (by decide); omega), List.forall_mem_cons.mpr ⟨hd_p1 b85 rfl (by have hc : ((0) : Int32).toInt = 0 := (by decide); omega), fun _ h => absurd h List.not_mem_nil⟩⟩⟩, ?_⟩
  show Q (some (sy_dv F' (.inr (.inl 86)))) _
  rw [t86]
  exact hk
theorem j2hg_113_p1 {Ls : Nat} {xs : Nat → Int32} {d : Nat} {Q : Option Value → jm_h → Prop} (hd : 1 ≤ d) (F : Nat → sy_d) (X1 X2 : List jm_c) (hB : iv_in F iv_B0)
    (h0 : (sy_i F 85).toInt ≠ 0)
    (h1 : (sy_i F 82).toInt ≠ 0)
    (h2 : (sy_i F 85).toInt ≠ 0)
    (k : ∀ F1 : Nat → sy_d, (∀ j, j < 82 → True → F1 j = F j) → Q (some (.int ((sy_i F 84) / (sy_i F 85)))) (sy_dh F1 X1 X2 (iv_H 2))) :
    hd_W Ls xs d jm_M93 Q (113, sy_dL F [some (.inl (.ref 8)), none, none, some (.inr (.inl 82)), some (.inr (.inl 83)), some (.inr (.inl 84)), none], sy_dS F [.inr (.inl 85)], sy_dh F X1 X2 (iv_H 2), 0, 0) := by
  refine hd_ret (s := 2) (nv := 86) (v := some (.inr (.inl 86))) (uh := hd_ov (iv_id 0 iv_B0) []) (f := false) (sp := []) (d0 := 0) (O := [true, false]) (T := [(9, [.inr (.inl 84), .inr (.inl 85)], [])]) (P := [(1, .inr (.inl 85), .inl (.int 0)), (1, .inr (.inl 82), .inl (.int 0)), (1, .inr (.inl 85), .inl (.int 0))]) jm_ok93 (by decide +kernel) (by decide +kernel) hd F X1 X2 (fun F' hF hs => ?_)
  have b85 := hd_b (F := F) (F' := F') (k := 85) (hF 85 (by decide))
  have b82 := hd_b (F := F) (F' := F') (k := 82) (hF 82 (by decide))
  have b84 := hd_b (F := F) (F' := F') (k := 84) (hF 84 (by decide))
  have t86 : sy_dv F' (.inr (.inl 86)) = .int ((sy_i F 84) / (sy_i F 85)) := hd_o (hs 0 _ rfl) b84 b85 rfl
  have hB' : iv_in F' iv_B0 := iv_in_eq hB (fun j hj => hF j (Nat.lt_of_lt_of_le hj (by decide +kernel)))
  have hk := k (sy_cm F' (hd_ov (iv_id 0 iv_B0) [] ++ [])) (fun j hj _ => (hd_keep hB' (Nat.lt_of_lt_of_le hj (by decide +kernel)) (by simp)).trans (hF j (Nat.lt_of_lt_of_le hj (by decide))))
  refine ⟨List.forall_mem_cons.mpr ⟨hd_p1 b85 rfl (by have hc : ((0) : Int32).toInt = 0 := (by decide); omega), List.forall_mem_cons.mpr ⟨hd_p1 b82 rfl (by have hc : ((0) : Int32).toInt = 0 := (by decide); omega), List.forall_mem_cons.mpr ⟨hd_p1 b85 rfl (by have hc : ((0) : Int32).toInt = 0 := (by decide); omega), fun _ h => absurd h List.not_mem_nil⟩⟩⟩, ?_⟩
  show Q (some (sy_dv F' (.inr (.inl 86)))) _
  rw [t86]
  exact hk
theorem j2hg_113 {Ls : Nat} {xs : Nat → Int32} {d : Nat} {Q : Option Value → jm_h → Prop} (hd : 1 ≤ d) (F : Nat → sy_d) (X1 X2 : List jm_c) (hB : iv_in F iv_B0)
    (a83 : 0 ≤ (sy_i F 83).toInt ∧ (sy_i F 83).toInt ≤ 100000000)
    (a84 : 1 ≤ (sy_i F 84).toInt ∧ (sy_i F 84).toInt ≤ 100000000)
    (a85 : 1 ≤ (sy_i F 85).toInt ∧ (sy_i F 85).toInt ≤ 100000000)
    (k0 : (sy_i F 85).toInt ≠ 0 → (sy_i F 82).toInt = 0 → ∀ F1 : Nat → sy_d, iv_in F1 iv_B0 → (∀ j, j < 82 → j ∉ ([] : List Nat) → F1 j = F j) → Q (some (.int ((sy_i F 83) / (sy_i F 85)))) (sy_dh F1 X1 X2 (iv_H 2)))
    (k1 : (sy_i F 85).toInt ≠ 0 → (sy_i F 82).toInt ≠ 0 → ∀ F1 : Nat → sy_d, iv_in F1 iv_B0 → (∀ j, j < 82 → j ∉ ([] : List Nat) → F1 j = F j) → Q (some (.int ((sy_i F 84) / (sy_i F 85)))) (sy_dh F1 X1 X2 (iv_H 2))) :
    hd_W Ls xs d jm_M93 Q (113, sy_dL F [some (.inl (.ref 8)), none, none, some (.inr (.inl 82)), some (.inr (.inl 83)), some (.inr (.inl 84)), none], sy_dS F [.inr (.inl 85)], sy_dh F X1 X2 (iv_H 2), 0, 0) := by
  by_cases g0 : (sy_i F 85).toInt ≠ 0
  · by_cases g1 : (sy_i F 82).toInt = 0
    · exact j2hg_113_p0 hd F X1 X2 hB (by first | exact g0 | (simp only [nz_c]; exact g0)) (by first | exact g1 | (simp only [nz_c]; exact g1)) (by first | exact g0 | (simp only [nz_c]; exact g0)) (fun F1 g  => by rw [(rfl : (sy_i F 83) / (sy_i F 85) = (sy_i F 83) / (sy_i F 85))]; exact k0 g0 g1 F1 (nz_in0 hB [] (fun j hj hn => g j hj (by simp only [List.mem_cons, List.not_mem_nil, or_false, not_or] at hn; exact trivial)) (List.forall_mem_nil _)) (fun j hj hn => g j hj (by simp only [List.mem_cons, List.not_mem_nil, or_false, not_or] at hn; exact trivial)) )
    replace g1 : (sy_i F 82).toInt ≠ 0 := by omega
    exact j2hg_113_p1 hd F X1 X2 hB (by first | exact g0 | (simp only [nz_c]; exact g0)) (by first | exact g1 | (simp only [nz_c]; exact g1)) (by first | exact g0 | (simp only [nz_c]; exact g0)) (fun F1 g  => by rw [(rfl : (sy_i F 84) / (sy_i F 85) = (sy_i F 84) / (sy_i F 85))]; exact k1 g0 g1 F1 (nz_in0 hB [] (fun j hj hn => g j hj (by simp only [List.mem_cons, List.not_mem_nil, or_false, not_or] at hn; exact trivial)) (List.forall_mem_nil _)) (fun j hj hn => g j hj (by simp only [List.mem_cons, List.not_mem_nil, or_false, not_or] at hn; exact trivial)) )
  replace g0 : (sy_i F 85).toInt = 0 := by omega
  exfalso
  omega
theorem j3gd_0_p0 {Ls : Nat} {xs : Nat → Int32} {d : Nat} {Q : Option Value → jm_h → Prop} (hd : 1 ≤ d) (F : Nat → sy_d) (X1 X2 : List jm_c) (hB : iv_in F iv_B0)
    (k : ∀ F1 : Nat → sy_d, (∀ j, j < 82 → True → F1 j = F j) → F1 82 = .inl (.int (sy_i F 82)) → F1 83 = .inl (.int (sy_i F 83)) → F1 84 = .inl (.int ((0 : Int32))) → hd_W Ls xs d jm_M131 Q (7, sy_dL F1 [none, none, some (.inr (.inl 82)), some (.inr (.inl 83)), some (.inr (.inl 84)), none], sy_dS F1 [], sy_dh F1 X1 X2 (iv_H 3), 0, 0)) :
    hd_W Ls xs d jm_M131 Q (0, sy_dL F [some (.inr (.inl 82)), some (.inr (.inl 83)), none, none, none, none], sy_dS F [], sy_dh F X1 X2 (iv_H 3), 0, 0) := by
  refine hd_run (s := 3) (nv := 84) (pc := 7) (L := [none, none, some (.inr (.inl 82)), some (.inr (.inl 83)), some (.inr (.inl 84)), none]) (S := []) (uh := hd_ov (iv_id 0 iv_B0) []) (ul := [.inl (.inr (.inl 82)), .inl (.inr (.inl 83)), .inl (.inl (.int 0))]) (f := true) (sp := [7]) (d0 := 0) (O := []) (T := []) (P := []) jm_ok131 (by decide +kernel) (by decide +kernel) hd F X1 X2 (fun F' hF hs => ?_)
  have b82 := hd_b (F := F) (F' := F') (k := 82) (hF 82 (by decide))
  have b83 := hd_b (F := F) (F' := F') (k := 83) (hF 83 (by decide))
  have hB' : iv_in F' iv_B0 := iv_in_eq hB (fun j hj => hF j (Nat.lt_of_lt_of_le hj (by decide +kernel)))
  refine ⟨fun _ h => absurd h List.not_mem_nil, ?_⟩
  refine k _ ?_ ?_ ?_ ?_
  · exact fun j hj _ => (hd_keep hB' (Nat.lt_of_lt_of_le hj (by decide +kernel)) (by simp)).trans (hF j (Nat.lt_of_lt_of_le hj (by decide)))
  · exact hd_gi (x := .inr (.inl 82)) (by decide +kernel) b82
  · exact hd_gi (x := .inr (.inl 83)) (by decide +kernel) b83
  · exact hd_gi (x := .inl (.int 0)) (by decide +kernel) rfl
theorem j3gd_0 {Ls : Nat} {xs : Nat → Int32} {d : Nat} {Q : Option Value → jm_h → Prop} (hd : 1 ≤ d) (F : Nat → sy_d) (X1 X2 : List jm_c) (hB : iv_in F iv_B0)
    (a82 : 0 ≤ (sy_i F 82).toInt ∧ (sy_i F 82).toInt ≤ 100000000)
    (a83 : 0 ≤ (sy_i F 83).toInt ∧ (sy_i F 83).toInt ≤ 100000000)
    (k0 : ∀ F1 : Nat → sy_d, iv_in F1 iv_B0 → (∀ j, j < 82 → j ∉ ([] : List Nat) → F1 j = F j) → (sy_i F1 82).toInt = (sy_i F 82).toInt → sy_i F1 82 = sy_i F 82 → (sy_i F1 83).toInt = (sy_i F 83).toInt → sy_i F1 83 = sy_i F 83 → (sy_i F1 84).toInt = 0 → sy_i F1 84 = (0 : Int32) → hd_W Ls xs d jm_M131 Q (7, sy_dL F1 [none, none, some (.inr (.inl 82)), some (.inr (.inl 83)), some (.inr (.inl 84)), none], sy_dS F1 [], sy_dh F1 X1 X2 (iv_H 3), 0, 0)) :
    hd_W Ls xs d jm_M131 Q (0, sy_dL F [some (.inr (.inl 82)), some (.inr (.inl 83)), none, none, none, none], sy_dS F [], sy_dh F X1 X2 (iv_H 3), 0, 0) := by
  exact j3gd_0_p0 hd F X1 X2 hB  (fun F1 g e82 e83 e84 => k0 F1 (nz_in0 hB [] (fun j hj hn => g j hj (by simp only [List.mem_cons, List.not_mem_nil, or_false, not_or] at hn; exact trivial)) (List.forall_mem_nil _)) (fun j hj hn => g j hj (by simp only [List.mem_cons, List.not_mem_nil, or_false, not_or] at hn; exact trivial)) ((congrArg Int32.toInt (zz_i e82)).trans (rfl : (sy_i F 82).toInt = (sy_i F 82).toInt)) ((zz_i e82).trans (rfl : sy_i F 82 = sy_i F 82)) ((congrArg Int32.toInt (zz_i e83)).trans (rfl : (sy_i F 83).toInt = (sy_i F 83).toInt)) ((zz_i e83).trans (rfl : sy_i F 83 = sy_i F 83)) ((congrArg Int32.toInt (zz_i e84)).trans (by decide : ((0 : Int32)).toInt = 0)) ((zz_i e84).trans (rfl : (0 : Int32) = (0 : Int32))))
theorem j3gd_7_p0 {Ls : Nat} {xs : Nat → Int32} {d : Nat} {Q : Option Value → jm_h → Prop} (hd : 1 ≤ d) (F : Nat → sy_d) (X1 X2 : List jm_c) (hB : iv_in F iv_B0)
    (h0 : 64 ≤ (sy_i F 84).toInt)
    (k : ∀ F1 : Nat → sy_d, (∀ j, j < 82 → True → F1 j = F j) → Q (some (.int (sy_i F 82))) (sy_dh F1 X1 X2 (iv_H 3))) :
    hd_W Ls xs d jm_M131 Q (7, sy_dL F [none, none, some (.inr (.inl 82)), some (.inr (.inl 83)), some (.inr (.inl 84)), none], sy_dS F [], sy_dh F X1 X2 (iv_H 3), 0, 0) := by
  refine hd_ret (s := 3) (nv := 85) (v := some (.inr (.inl 82))) (uh := hd_ov (iv_id 0 iv_B0) []) (f := true) (sp := [7]) (d0 := 0) (O := [true]) (T := []) (P := [(4, .inl (.int 64), .inr (.inl 84))]) jm_ok131 (by decide +kernel) (by decide +kernel) hd F X1 X2 (fun F' hF hs => ?_)
  have b84 := hd_b (F := F) (F' := F') (k := 84) (hF 84 (by decide))
  have b82 := hd_b (F := F) (F' := F') (k := 82) (hF 82 (by decide))
  have hB' : iv_in F' iv_B0 := iv_in_eq hB (fun j hj => hF j (Nat.lt_of_lt_of_le hj (by decide +kernel)))
  have hk := k (sy_cm F' (hd_ov (iv_id 0 iv_B0) [] ++ [])) (fun j hj _ => (hd_keep hB' (Nat.lt_of_lt_of_le hj (by decide +kernel)) (by simp)).trans (hF j (Nat.lt_of_lt_of_le hj (by decide))))
  refine ⟨List.forall_mem_cons.mpr ⟨hd_p4 rfl b84 (by have hc : ((64) : Int32).toInt = 64 := (by decide); omega), fun _ h => absurd h List.not_mem_nil⟩, ?_⟩
  show Q (some (sy_dv F' (.inr (.inl 82)))) _
  rw [b82]
  exact hk
theorem j3gd_7_p1 {Ls : Nat} {xs : Nat → Int32} {d : Nat} {Q : Option Value → jm_h → Prop} (hd : 1 ≤ d) (F : Nat → sy_d) (X1 X2 : List jm_c) (hB : iv_in F iv_B0)
    (h0 : (sy_i F 84).toInt < 64)
    (h1 : (sy_i F 83).toInt = 0)
    (k : ∀ F1 : Nat → sy_d, (∀ j, j < 82 → True → F1 j = F j) → Q (some (.int (sy_i F 82))) (sy_dh F1 X1 X2 (iv_H 3))) :
    hd_W Ls xs d jm_M131 Q (7, sy_dL F [none, none, some (.inr (.inl 82)), some (.inr (.inl 83)), some (.inr (.inl 84)), none], sy_dS F [], sy_dh F X1 X2 (iv_H 3), 0, 0) := by
  refine hd_ret (s := 3) (nv := 85) (v := some (.inr (.inl 82))) (uh := hd_ov (iv_id 0 iv_B0) []) (f := true) (sp := [7]) (d0 := 0) (O := [false, true]) (T := []) (P := [(5, .inl (.int 64), .inr (.inl 84)), (0, .inr (.inl 83), .inl (.int 0))]) jm_ok131 (by decide +kernel) (by decide +kernel) hd F X1 X2 (fun F' hF hs => ?_)
  have b84 := hd_b (F := F) (F' := F') (k := 84) (hF 84 (by decide))
  have b83 := hd_b (F := F) (F' := F') (k := 83) (hF 83 (by decide))
  have b82 := hd_b (F := F) (F' := F') (k := 82) (hF 82 (by decide))
  have hB' : iv_in F' iv_B0 := iv_in_eq hB (fun j hj => hF j (Nat.lt_of_lt_of_le hj (by decide +kernel)))
  have hk := k (sy_cm F' (hd_ov (iv_id 0 iv_B0) [] ++ [])) (fun j hj _ => (hd_keep hB' (Nat.lt_of_lt_of_le hj (by decide +kernel)) (by simp)).trans (hF j (Nat.lt_of_lt_of_le hj (by decide))))
  refine ⟨List.forall_mem_cons.mpr ⟨hd_p5 rfl b84 (by have hc : ((64) : Int32).toInt = 64 := (by decide); omega), List.forall_mem_cons.mpr ⟨hd_p0 b83 rfl (by have hc : ((0) : Int32).toInt = 0 := (by decide); omega), fun _ h => absurd h List.not_mem_nil⟩⟩, ?_⟩
  show Q (some (sy_dv F' (.inr (.inl 82)))) _
  rw [b82]
  exact hk
theorem j3gd_7_p2 {Ls : Nat} {xs : Nat → Int32} {d : Nat} {Q : Option Value → jm_h → Prop} (hd : 1 ≤ d) (F : Nat → sy_d) (X1 X2 : List jm_c) (hB : iv_in F iv_B0)
    (h0 : (sy_i F 84).toInt < 64)
    (h1 : (sy_i F 83).toInt ≠ 0)
    (h2 : (sy_i F 83).toInt ≠ 0)
    (k : ∀ F1 : Nat → sy_d, (∀ j, j < 82 → True → F1 j = F j) → F1 82 = .inl (.int (sy_i F 83)) → F1 83 = .inl (.int ((sy_i F 82) - (sy_i F 82) / (sy_i F 83) * (sy_i F 83))) → F1 84 = .inl (.int ((sy_i F 84) + ((1 : Int32)))) → hd_W Ls xs d jm_M131 Q (7, sy_dL F1 [none, none, some (.inr (.inl 82)), some (.inr (.inl 83)), some (.inr (.inl 84)), none], sy_dS F1 [], sy_dh F1 X1 X2 (iv_H 3), 0, 0)) :
    hd_W Ls xs d jm_M131 Q (7, sy_dL F [none, none, some (.inr (.inl 82)), some (.inr (.inl 83)), some (.inr (.inl 84)), none], sy_dS F [], sy_dh F X1 X2 (iv_H 3), 0, 0) := by
  refine hd_run (s := 3) (nv := 85) (pc := 7) (L := [none, none, some (.inr (.inl 82)), some (.inr (.inl 83)), some (.inr (.inl 84)), none]) (S := []) (uh := hd_ov (iv_id 0 iv_B0) []) (ul := [.inl (.inr (.inl 83)), .inl (.inr (.inl 85)), .inl (.inr (.inl 86))]) (f := true) (sp := [7]) (d0 := 0) (O := [false, false]) (T := [(10, [.inr (.inl 82), .inr (.inl 83)], []), (0, [.inr (.inl 84), .inl (.int 1)], [])]) (P := [(5, .inl (.int 64), .inr (.inl 84)), (1, .inr (.inl 83), .inl (.int 0)), (1, .inr (.inl 83), .inl (.int 0))]) jm_ok131 (by decide +kernel) (by decide +kernel) hd F X1 X2 (fun F' hF hs => ?_)
  have b84 := hd_b (F := F) (F' := F') (k := 84) (hF 84 (by decide))
  have b83 := hd_b (F := F) (F' := F') (k := 83) (hF 83 (by decide))
  have b82 := hd_b (F := F) (F' := F') (k := 82) (hF 82 (by decide))
  have t85 : sy_dv F' (.inr (.inl 85)) = .int ((sy_i F 82) - (sy_i F 82) / (sy_i F 83) * (sy_i F 83)) := hd_o (hs 0 _ rfl) b82 b83 rfl
  have t86 : sy_dv F' (.inr (.inl 86)) = .int ((sy_i F 84) + ((1 : Int32))) := hd_o (hs 1 _ rfl) b84 rfl rfl
  have hB' : iv_in F' iv_B0 := iv_in_eq hB (fun j hj => hF j (Nat.lt_of_lt_of_le hj (by decide +kernel)))
  refine ⟨List.forall_mem_cons.mpr ⟨hd_p5 rfl b84 (by have hc : ((64) : Int32).toInt = 64 := (by decide); omega), List.forall_mem_cons.mpr ⟨hd_p1 b83 rfl (by have hc : ((0) : Int32).toInt = 0 := (by decide); omega), List.forall_mem_cons.mpr ⟨hd_p1 b83 rfl (by have hc : ((0) : Int32).toInt = 0 := (by decide); omega), fun _ h => absurd h List.not_mem_nil⟩⟩⟩, ?_⟩
  refine k _ ?_ ?_ ?_ ?_
  · exact fun j hj _ => (hd_keep hB' (Nat.lt_of_lt_of_le hj (by decide +kernel)) (by simp)).trans (hF j (Nat.lt_of_lt_of_le hj (by decide)))
  · exact hd_gi (x := .inr (.inl 83)) (by decide +kernel) b83
  · exact hd_gi (x := .inr (.inl 85)) (by decide +kernel) t85
  · exact hd_gi (x := .inr (.inl 86)) (by decide +kernel) t86
theorem j3gd_7 {Ls : Nat} {xs : Nat → Int32} {d : Nat} {Q : Option Value → jm_h → Prop} (hd : 1 ≤ d) (F : Nat → sy_d) (X1 X2 : List jm_c) (hB : iv_in F iv_B0)
    (a82 : 0 ≤ (sy_i F 82).toInt ∧ (sy_i F 82).toInt ≤ 100000000)
    (a83 : 0 ≤ (sy_i F 83).toInt ∧ (sy_i F 83).toInt ≤ 100000000)
    (a84 : 0 ≤ (sy_i F 84).toInt ∧ (sy_i F 84).toInt ≤ 64)
    (k0 : 64 ≤ (sy_i F 84).toInt → ∀ F1 : Nat → sy_d, iv_in F1 iv_B0 → (∀ j, j < 82 → j ∉ ([] : List Nat) → F1 j = F j) → Q (some (.int (sy_i F 82))) (sy_dh F1 X1 X2 (iv_H 3)))
    (k1 : (sy_i F 84).toInt < 64 → (sy_i F 83).toInt = 0 → ∀ F1 : Nat → sy_d, iv_in F1 iv_B0 → (∀ j, j < 82 → j ∉ ([] : List Nat) → F1 j = F j) → Q (some (.int (sy_i F 82))) (sy_dh F1 X1 X2 (iv_H 3)))
    (k2 : (sy_i F 84).toInt < 64 → (sy_i F 83).toInt ≠ 0 → ∀ F1 : Nat → sy_d, iv_in F1 iv_B0 → (∀ j, j < 82 → j ∉ ([] : List Nat) → F1 j = F j) → (sy_i F1 82).toInt = (sy_i F 83).toInt → sy_i F1 82 = sy_i F 83 → (sy_i F1 83).toInt = ((sy_i F 82) - (sy_i F 82) / (sy_i F 83) * (sy_i F 83)).toInt → sy_i F1 83 = (sy_i F 82) - (sy_i F 82) / (sy_i F 83) * (sy_i F 83) → (sy_i F1 84).toInt = ((sy_i F 84).toInt + 1) → sy_i F1 84 = (sy_i F 84) + ((1 : Int32)) → hd_W Ls xs d jm_M131 Q (7, sy_dL F1 [none, none, some (.inr (.inl 82)), some (.inr (.inl 83)), some (.inr (.inl 84)), none], sy_dS F1 [], sy_dh F1 X1 X2 (iv_H 3), 0, 0)) :
    hd_W Ls xs d jm_M131 Q (7, sy_dL F [none, none, some (.inr (.inl 82)), some (.inr (.inl 83)), some (.inr (.inl 84)), none], sy_dS F [], sy_dh F X1 X2 (iv_H 3), 0, 0) := by
  by_cases g0 : 64 ≤ (sy_i F 84).toInt
  · exact j3gd_7_p0 hd F X1 X2 hB (by first | exact g0 | (simp only [nz_c]; exact g0)) (fun F1 g  => by rw [(rfl : sy_i F 82 = sy_i F 82)]; exact k0 g0 F1 (nz_in0 hB [] (fun j hj hn => g j hj (by simp only [List.mem_cons, List.not_mem_nil, or_false, not_or] at hn; exact trivial)) (List.forall_mem_nil _)) (fun j hj hn => g j hj (by simp only [List.mem_cons, List.not_mem_nil, or_false, not_or] at hn; exact trivial)) )
  replace g0 : (sy_i F 84).toInt < 64 := by omega
  by_cases g1 : (sy_i F 83).toInt = 0
  · exact j3gd_7_p1 hd F X1 X2 hB (by first | exact g0 | (simp only [nz_c]; exact g0)) (by first | exact g1 | (simp only [nz_c]; exact g1)) (fun F1 g  => by rw [(rfl : sy_i F 82 = sy_i F 82)]; exact k1 g0 g1 F1 (nz_in0 hB [] (fun j hj hn => g j hj (by simp only [List.mem_cons, List.not_mem_nil, or_false, not_or] at hn; exact trivial)) (List.forall_mem_nil _)) (fun j hj hn => g j hj (by simp only [List.mem_cons, List.not_mem_nil, or_false, not_or] at hn; exact trivial)) )
  replace g1 : (sy_i F 83).toInt ≠ 0 := by omega
  have n85 : nzI ((sy_i F 82) - (sy_i F 82) / (sy_i F 83) * (sy_i F 83)) (((sy_i F 82) - (sy_i F 82) / (sy_i F 83) * (sy_i F 83)).toInt) := congrArg Int32.toInt (rfl : (sy_i F 82) - (sy_i F 82) / (sy_i F 83) * (sy_i F 83) = (sy_i F 82) - (sy_i F 82) / (sy_i F 83) * (sy_i F 83))
  have n86 : nzI ((sy_i F 84) + ((1 : Int32))) (((sy_i F 84).toInt + 1)) := nz_add (rfl : (sy_i F 84).toInt = (sy_i F 84).toInt) (by decide : ((1 : Int32)).toInt = 1) (by omega) (by omega)
  exact j3gd_7_p2 hd F X1 X2 hB (by first | exact g0 | (simp only [nz_c]; exact g0)) (by first | exact g1 | (simp only [nz_c]; exact g1)) (by first | exact g1 | (simp only [nz_c]; exact g1)) (fun F1 g e82 e83 e84 => k2 g0 g1 F1 (nz_in0 hB [] (fun j hj hn => g j hj (by simp only [List.mem_cons, List.not_mem_nil, or_false, not_or] at hn; exact trivial)) (List.forall_mem_nil _)) (fun j hj hn => g j hj (by simp only [List.mem_cons, List.not_mem_nil, or_false, not_or] at hn; exact trivial)) ((congrArg Int32.toInt (zz_i e82)).trans (rfl : (sy_i F 83).toInt = (sy_i F 83).toInt)) ((zz_i e82).trans (rfl : sy_i F 83 = sy_i F 83)) ((congrArg Int32.toInt (zz_i e83)).trans (nzE n85)) ((zz_i e83).trans (rfl : (sy_i F 82) - (sy_i F 82) / (sy_i F 83) * (sy_i F 83) = (sy_i F 82) - (sy_i F 82) / (sy_i F 83) * (sy_i F 83))) ((congrArg Int32.toInt (zz_i e84)).trans (nzE n86)) ((zz_i e84).trans (rfl : (sy_i F 84) + ((1 : Int32)) = (sy_i F 84) + ((1 : Int32)))))
theorem j3hg_0_p0 {Ls : Nat} {xs : Nat → Int32} {d : Nat} {Q : Option Value → jm_h → Prop} (hd : 2 ≤ d) (F : Nat → sy_d) (X1 X2 : List jm_c) (hB : iv_in F iv_B0)
    (h0 : (sy_i F 82).toInt < 0)
    (k : ∀ F1 : Nat → sy_d, (∀ j, j < 82 → True → F1 j = F j) → Q (some (.int (((-1) : Int32)))) (sy_dh F1 X1 X2 (iv_H 3))) :
    hd_W Ls xs d jm_M93 Q (0, sy_dL F [some (.inl (.ref 8)), some (.inr (.inl 82)), some (.inr (.inl 83)), some (.inr (.inl 84)), none, none, none], sy_dS F [], sy_dh F X1 X2 (iv_H 3), 0, 0) := by
  refine hd_ret (s := 3) (nv := 85) (v := some (.inl (.int (-1)))) (uh := hd_ov (iv_id 0 iv_B0) []) (f := true) (sp := [57]) (d0 := 1) (O := [true]) (T := []) (P := [(2, .inr (.inl 82), .inl (.int 0))]) jm_ok93 (by decide +kernel) (by decide +kernel) hd F X1 X2 (fun F' hF hs => ?_)
  have b82 := hd_b (F := F) (F' := F') (k := 82) (hF 82 (by decide))
  have hB' : iv_in F' iv_B0 := iv_in_eq hB (fun j hj => hF j (Nat.lt_of_lt_of_le hj (by decide +kernel)))
  refine ⟨List.forall_mem_cons.mpr ⟨hd_p2 b82 rfl (by have hc : ((0) : Int32).toInt = 0 := (by decide); omega), fun _ h => absurd h List.not_mem_nil⟩, ?_⟩
  refine k _ ?_
  · exact fun j hj _ => (hd_keep hB' (Nat.lt_of_lt_of_le hj (by decide +kernel)) (by simp)).trans (hF j (Nat.lt_of_lt_of_le hj (by decide)))
theorem j3hg_0_p1 {Ls : Nat} {xs : Nat → Int32} {d : Nat} {Q : Option Value → jm_h → Prop} (hd : 2 ≤ d) (F : Nat → sy_d) (X1 X2 : List jm_c) (hB : iv_in F iv_B0)
    (h0 : 0 ≤ (sy_i F 82).toInt)
    (h1 : (sy_i F 18).toInt ≤ (sy_i F 82).toInt)
    (k : ∀ F1 : Nat → sy_d, (∀ j, j < 82 → True → F1 j = F j) → Q (some (.int (((-1) : Int32)))) (sy_dh F1 X1 X2 (iv_H 3))) :
    hd_W Ls xs d jm_M93 Q (0, sy_dL F [some (.inl (.ref 8)), some (.inr (.inl 82)), some (.inr (.inl 83)), some (.inr (.inl 84)), none, none, none], sy_dS F [], sy_dh F X1 X2 (iv_H 3), 0, 0) := by
  refine hd_ret (s := 3) (nv := 85) (v := some (.inl (.int (-1)))) (uh := hd_ov (iv_id 0 iv_B0) []) (f := true) (sp := [57]) (d0 := 1) (O := [false, true]) (T := []) (P := [(3, .inr (.inl 82), .inl (.int 0)), (4, .inr (.inl 18), .inr (.inl 82))]) jm_ok93 (by decide +kernel) (by decide +kernel) hd F X1 X2 (fun F' hF hs => ?_)
  have b82 := hd_b (F := F) (F' := F') (k := 82) (hF 82 (by decide))
  have b18 := hd_b (F := F) (F' := F') (k := 18) (hF 18 (by decide))
  have hB' : iv_in F' iv_B0 := iv_in_eq hB (fun j hj => hF j (Nat.lt_of_lt_of_le hj (by decide +kernel)))
  refine ⟨List.forall_mem_cons.mpr ⟨hd_p3 b82 rfl (by have hc : ((0) : Int32).toInt = 0 := (by decide); omega), List.forall_mem_cons.mpr ⟨hd_p4 b18 b82 h1, fun _ h => absurd h List.not_mem_nil⟩⟩, ?_⟩
  refine k _ ?_
  · exact fun j hj _ => (hd_keep hB' (Nat.lt_of_lt_of_le hj (by decide +kernel)) (by simp)).trans (hF j (Nat.lt_of_lt_of_le hj (by decide)))
theorem j3hg_0_p2 {Ls : Nat} {xs : Nat → Int32} {d : Nat} {Q : Option Value → jm_h → Prop} (hd : 2 ≤ d) (F : Nat → sy_d) (X1 X2 : List jm_c) (hB : iv_in F iv_B0)
    (h0 : 0 ≤ (sy_i F 82).toInt)
    (h1 : (sy_i F 82).toInt < (sy_i F 18).toInt)
    (h2 : (sy_i F 83).toInt < 1)
    (k : ∀ F1 : Nat → sy_d, (∀ j, j < 82 → True → F1 j = F j) → Q (some (.int (((-1) : Int32)))) (sy_dh F1 X1 X2 (iv_H 3))) :
    hd_W Ls xs d jm_M93 Q (0, sy_dL F [some (.inl (.ref 8)), some (.inr (.inl 82)), some (.inr (.inl 83)), some (.inr (.inl 84)), none, none, none], sy_dS F [], sy_dh F X1 X2 (iv_H 3), 0, 0) := by
  refine hd_ret (s := 3) (nv := 85) (v := some (.inl (.int (-1)))) (uh := hd_ov (iv_id 0 iv_B0) []) (f := true) (sp := [57]) (d0 := 1) (O := [false, false, true]) (T := []) (P := [(3, .inr (.inl 82), .inl (.int 0)), (5, .inr (.inl 18), .inr (.inl 82)), (2, .inr (.inl 83), .inl (.int 1))]) jm_ok93 (by decide +kernel) (by decide +kernel) hd F X1 X2 (fun F' hF hs => ?_)
  have b82 := hd_b (F := F) (F' := F') (k := 82) (hF 82 (by decide))
  have b18 := hd_b (F := F) (F' := F') (k := 18) (hF 18 (by decide))
  have b83 := hd_b (F := F) (F' := F') (k := 83) (hF 83 (by decide))
  have hB' : iv_in F' iv_B0 := iv_in_eq hB (fun j hj => hF j (Nat.lt_of_lt_of_le hj (by decide +kernel)))
  refine ⟨List.forall_mem_cons.mpr ⟨hd_p3 b82 rfl (by have hc : ((0) : Int32).toInt = 0 := (by decide); omega), List.forall_mem_cons.mpr ⟨hd_p5 b18 b82 h1, List.forall_mem_cons.mpr ⟨hd_p2 b83 rfl (by have hc : ((1) : Int32).toInt = 1 := (by decide); omega), fun _ h => absurd h List.not_mem_nil⟩⟩⟩, ?_⟩
  refine k _ ?_
  · exact fun j hj _ => (hd_keep hB' (Nat.lt_of_lt_of_le hj (by decide +kernel)) (by simp)).trans (hF j (Nat.lt_of_lt_of_le hj (by decide)))
theorem j3hg_0_p3 {Ls : Nat} {xs : Nat → Int32} {d : Nat} {Q : Option Value → jm_h → Prop} (hd : 2 ≤ d) (F : Nat → sy_d) (X1 X2 : List jm_c) (hB : iv_in F iv_B0)
    (h0 : 0 ≤ (sy_i F 82).toInt)
    (h1 : (sy_i F 82).toInt < (sy_i F 18).toInt)
    (h2 : 1 ≤ (sy_i F 83).toInt)
    (h3 : 4 < (sy_i F 83).toInt)
    (k : ∀ F1 : Nat → sy_d, (∀ j, j < 82 → True → F1 j = F j) → Q (some (.int (((-1) : Int32)))) (sy_dh F1 X1 X2 (iv_H 3))) :
    hd_W Ls xs d jm_M93 Q (0, sy_dL F [some (.inl (.ref 8)), some (.inr (.inl 82)), some (.inr (.inl 83)), some (.inr (.inl 84)), none, none, none], sy_dS F [], sy_dh F X1 X2 (iv_H 3), 0, 0) := by
  refine hd_ret (s := 3) (nv := 85) (v := some (.inl (.int (-1)))) (uh := hd_ov (iv_id 0 iv_B0) []) (f := true) (sp := [57]) (d0 := 1) (O := [false, false, false, true]) (T := []) (P := [(3, .inr (.inl 82), .inl (.int 0)), (5, .inr (.inl 18), .inr (.inl 82)), (3, .inr (.inl 83), .inl (.int 1)), (2, .inl (.int 4), .inr (.inl 83))]) jm_ok93 (by decide +kernel) (by decide +kernel) hd F X1 X2 (fun F' hF hs => ?_)
  have b82 := hd_b (F := F) (F' := F') (k := 82) (hF 82 (by decide))
  have b18 := hd_b (F := F) (F' := F') (k := 18) (hF 18 (by decide))
  have b83 := hd_b (F := F) (F' := F') (k := 83) (hF 83 (by decide))
  have hB' : iv_in F' iv_B0 := iv_in_eq hB (fun j hj => hF j (Nat.lt_of_lt_of_le hj (by decide +kernel)))
  refine ⟨List.forall_mem_cons.mpr ⟨hd_p3 b82 rfl (by have hc : ((0) : Int32).toInt = 0 := (by decide); omega), List.forall_mem_cons.mpr ⟨hd_p5 b18 b82 h1, List.forall_mem_cons.mpr ⟨hd_p3 b83 rfl (by have hc : ((1) : Int32).toInt = 1 := (by decide); omega), List.forall_mem_cons.mpr ⟨hd_p2 rfl b83 (by have hc : ((4) : Int32).toInt = 4 := (by decide); omega), fun _ h => absurd h List.not_mem_nil⟩⟩⟩⟩, ?_⟩
  refine k _ ?_
  · exact fun j hj _ => (hd_keep hB' (Nat.lt_of_lt_of_le hj (by decide +kernel)) (by simp)).trans (hF j (Nat.lt_of_lt_of_le hj (by decide)))
theorem j3hg_0_p4 {Ls : Nat} {xs : Nat → Int32} {d : Nat} {Q : Option Value → jm_h → Prop} (hd : 2 ≤ d) (F : Nat → sy_d) (X1 X2 : List jm_c) (hB : iv_in F iv_B0)
    (h0 : 0 ≤ (sy_i F 82).toInt)
    (h1 : (sy_i F 82).toInt < (sy_i F 18).toInt)
    (h2 : 1 ≤ (sy_i F 83).toInt)
    (h3 : (sy_i F 83).toInt ≤ 4)
    (h4 : 0 ≤ (sy_i F 82).toInt ∧ (sy_i F 82).toInt < 7)
    (h5 : ((sy_ai F 54).getD (sy_i F 82).toNatClampNeg 0).toInt = 0)
    (h6 : 0 ≤ (sy_i F 82).toInt ∧ (sy_i F 82).toInt < 7)
    (k : ∀ F1 : Nat → sy_d, (∀ j, j < 82 → True → F1 j = F j) → F1 82 = .inl (.int (sy_i F 82)) → F1 83 = .inl (.int (sy_i F 83)) → F1 84 = .inl (.int (sy_i F 84)) → F1 85 = .inl (.int (sy_i F 82)) → F1 86 = .inl (.int (sy_i F 83)) → F1 87 = .inl (.int ((sy_ai F 57).getD (sy_i F 82).toNatClampNeg 0)) → hd_W Ls xs d jm_M93 Q (57, sy_dL F1 [some (.inl (.ref 8)), some (.inr (.inl 82)), some (.inr (.inl 83)), some (.inr (.inl 84)), none, none, none], sy_dS F1 [.inr (.inl 87), .inr (.inl 86), .inr (.inl 85), .inl (.ref 46), .inl (.ref 20), .inl (.ref 42)], sy_dh F1 X1 X2 (iv_H 3), 0, 0)) :
    hd_W Ls xs d jm_M93 Q (0, sy_dL F [some (.inl (.ref 8)), some (.inr (.inl 82)), some (.inr (.inl 83)), some (.inr (.inl 84)), none, none, none], sy_dS F [], sy_dh F X1 X2 (iv_H 3), 0, 0) := by
  refine hd_run (s := 3) (nv := 85) (pc := 57) (L := [some (.inl (.ref 8)), some (.inr (.inl 82)), some (.inr (.inl 83)), some (.inr (.inl 84)), none, none, none]) (S := [.inr (.inl 87), .inr (.inl 86), .inr (.inl 85), .inl (.ref 46), .inl (.ref 20), .inl (.ref 42)]) (uh := hd_ov (iv_id 0 iv_B0) []) (ul := [.inl (.inr (.inl 82)), .inl (.inr (.inl 83)), .inl (.inr (.inl 84)), .inl (.inr (.inl 82)), .inl (.inr (.inl 83)), .inl (.inr (.inl 86))]) (f := true) (sp := [57]) (d0 := 1) (O := [false, false, false, false, true]) (T := [(30, [.inr (.inl 82)], [.inr (.inl 54)]), (30, [.inr (.inl 82)], [.inr (.inl 57)])]) (P := [(3, .inr (.inl 82), .inl (.int 0)), (5, .inr (.inl 18), .inr (.inl 82)), (3, .inr (.inl 83), .inl (.int 1)), (3, .inl (.int 4), .inr (.inl 83)), (6, .inr (.inl 82), .inl (.ref 7)), (0, .inr (.inl 85), .inl (.int 0)), (6, .inr (.inl 82), .inl (.ref 7))]) jm_ok93 (by decide +kernel) (by decide +kernel) hd F X1 X2 (fun F' hF hs => ?_)
  have b82 := hd_b (F := F) (F' := F') (k := 82) (hF 82 (by decide))
  have b18 := hd_b (F := F) (F' := F') (k := 18) (hF 18 (by decide))
  have b83 := hd_b (F := F) (F' := F') (k := 83) (hF 83 (by decide))
  have a54 := hd_ba (F := F) (F' := F') (k := 54) (hF 54 (by decide))
  have t85 : sy_dv F' (.inr (.inl 85)) = .int ((sy_ai F 54).getD (sy_i F 82).toNatClampNeg 0) := hd_rd (hs 0 _ rfl) b82 a54
  have b84 := hd_b (F := F) (F' := F') (k := 84) (hF 84 (by decide))
  have a57 := hd_ba (F := F) (F' := F') (k := 57) (hF 57 (by decide))
  have t86 : sy_dv F' (.inr (.inl 86)) = .int ((sy_ai F 57).getD (sy_i F 82).toNatClampNeg 0) := hd_rd (hs 1 _ rfl) b82 a57
  have hB' : iv_in F' iv_B0 := iv_in_eq hB (fun j hj => hF j (Nat.lt_of_lt_of_le hj (by decide +kernel)))
  refine ⟨List.forall_mem_cons.mpr ⟨hd_p3 b82 rfl (by have hc : ((0) : Int32).toInt = 0 := (by decide); omega), List.forall_mem_cons.mpr ⟨hd_p5 b18 b82 h1, List.forall_mem_cons.mpr ⟨hd_p3 b83 rfl (by have hc : ((1) : Int32).toInt = 1 := (by decide); omega), List.forall_mem_cons.mpr ⟨hd_p3 rfl b83 (by have hc : ((4) : Int32).toInt = 4 := (by decide); omega), List.forall_mem_cons.mpr ⟨hd_pb b82 (by first | exact h4 | exact h4), List.forall_mem_cons.mpr ⟨hd_p0 t85 rfl (by have hc : ((0) : Int32).toInt = 0 := (by decide); omega), List.forall_mem_cons.mpr ⟨hd_pb b82 (by first | exact h6 | exact h6), fun _ h => absurd h List.not_mem_nil⟩⟩⟩⟩⟩⟩⟩, ?_⟩
  refine k _ ?_ ?_ ?_ ?_ ?_ ?_ ?_
  · exact fun j hj _ => (hd_keep hB' (Nat.lt_of_lt_of_le hj (by decide +kernel)) (by simp)).trans (hF j (Nat.lt_of_lt_of_le hj (by decide)))
  · exact hd_gi (x := .inr (.inl 82)) (by decide +kernel) b82
  · exact hd_gi (x := .inr (.inl 83)) (by decide +kernel) b83
  · exact hd_gi (x := .inr (.inl 84)) (by decide +kernel) b84
  · exact hd_gi (x := .inr (.inl 82)) (by decide +kernel) b82
  · exact hd_gi (x := .inr (.inl 83)) (by decide +kernel) b83
  · exact hd_gi (x := .inr (.inl 86)) (by decide +kernel) t86
theorem j3hg_0_p5 {Ls : Nat} {xs : Nat → Int32} {d : Nat} {Q : Option Value → jm_h → Prop} (hd : 2 ≤ d) (F : Nat → sy_d) (X1 X2 : List jm_c) (hB : iv_in F iv_B0)
    (h0 : 0 ≤ (sy_i F 82).toInt)
    (h1 : (sy_i F 82).toInt < (sy_i F 18).toInt)
    (h2 : 1 ≤ (sy_i F 83).toInt)
    (h3 : (sy_i F 83).toInt ≤ 4)
    (h4 : 0 ≤ (sy_i F 82).toInt ∧ (sy_i F 82).toInt < 7)
    (h5 : ((sy_ai F 54).getD (sy_i F 82).toNatClampNeg 0).toInt ≠ 0)
    (k : ∀ F1 : Nat → sy_d, (∀ j, j < 82 → True → F1 j = F j) → Q (some (.int (((-2) : Int32)))) (sy_dh F1 X1 X2 (iv_H 3))) :
    hd_W Ls xs d jm_M93 Q (0, sy_dL F [some (.inl (.ref 8)), some (.inr (.inl 82)), some (.inr (.inl 83)), some (.inr (.inl 84)), none, none, none], sy_dS F [], sy_dh F X1 X2 (iv_H 3), 0, 0) := by
  refine hd_ret (s := 3) (nv := 85) (v := some (.inl (.int (-2)))) (uh := hd_ov (iv_id 0 iv_B0) []) (f := true) (sp := [57]) (d0 := 1) (O := [false, false, false, false, false]) (T := [(30, [.inr (.inl 82)], [.inr (.inl 54)])]) (P := [(3, .inr (.inl 82), .inl (.int 0)), (5, .inr (.inl 18), .inr (.inl 82)), (3, .inr (.inl 83), .inl (.int 1)), (3, .inl (.int 4), .inr (.inl 83)), (6, .inr (.inl 82), .inl (.ref 7)), (1, .inr (.inl 85), .inl (.int 0))]) jm_ok93 (by decide +kernel) (by decide +kernel) hd F X1 X2 (fun F' hF hs => ?_)
  have b82 := hd_b (F := F) (F' := F') (k := 82) (hF 82 (by decide))
  have b18 := hd_b (F := F) (F' := F') (k := 18) (hF 18 (by decide))
  have b83 := hd_b (F := F) (F' := F') (k := 83) (hF 83 (by decide))
  have a54 := hd_ba (F := F) (F' := F') (k := 54) (hF 54 (by decide))
  have t85 : sy_dv F' (.inr (.inl 85)) = .int ((sy_ai F 54).getD (sy_i F 82).toNatClampNeg 0) := hd_rd (hs 0 _ rfl) b82 a54
  have hB' : iv_in F' iv_B0 := iv_in_eq hB (fun j hj => hF j (Nat.lt_of_lt_of_le hj (by decide +kernel)))
  refine ⟨List.forall_mem_cons.mpr ⟨hd_p3 b82 rfl (by have hc : ((0) : Int32).toInt = 0 := (by decide); omega), List.forall_mem_cons.mpr ⟨hd_p5 b18 b82 h1, List.forall_mem_cons.mpr ⟨hd_p3 b83 rfl (by have hc : ((1) : Int32).toInt = 1 := (by decide); omega), List.forall_mem_cons.mpr ⟨hd_p3 rfl b83 (by have hc : ((4) : Int32).toInt = 4 := (by decide); omega), List.forall_mem_cons.mpr ⟨hd_pb b82 (by first | exact h4 | exact h4), List.forall_mem_cons.mpr ⟨hd_p1 t85 rfl (by have hc : ((0) : Int32).toInt = 0 := (by decide); omega), fun _ h => absurd h List.not_mem_nil⟩⟩⟩⟩⟩⟩, ?_⟩
  refine k _ ?_
  · exact fun j hj _ => (hd_keep hB' (Nat.lt_of_lt_of_le hj (by decide +kernel)) (by simp)).trans (hF j (Nat.lt_of_lt_of_le hj (by decide)))
theorem j3hg_0 {Ls : Nat} {xs : Nat → Int32} {d : Nat} {Q : Option Value → jm_h → Prop} (hd : 2 ≤ d) (F : Nat → sy_d) (X1 X2 : List jm_c) (hB : iv_in F iv_B0)
    (k0 : (sy_i F 82).toInt < 0 → ∀ F1 : Nat → sy_d, iv_in F1 iv_B0 → (∀ j, j < 82 → j ∉ ([] : List Nat) → F1 j = F j) → Q (some (.int (((-1) : Int32)))) (sy_dh F1 X1 X2 (iv_H 3)))
    (k1 : 0 ≤ (sy_i F 82).toInt → (sy_i F 18).toInt ≤ (sy_i F 82).toInt → ∀ F1 : Nat → sy_d, iv_in F1 iv_B0 → (∀ j, j < 82 → j ∉ ([] : List Nat) → F1 j = F j) → Q (some (.int (((-1) : Int32)))) (sy_dh F1 X1 X2 (iv_H 3)))
    (k2 : 0 ≤ (sy_i F 82).toInt → (sy_i F 82).toInt < (sy_i F 18).toInt → (sy_i F 83).toInt < 1 → ∀ F1 : Nat → sy_d, iv_in F1 iv_B0 → (∀ j, j < 82 → j ∉ ([] : List Nat) → F1 j = F j) → Q (some (.int (((-1) : Int32)))) (sy_dh F1 X1 X2 (iv_H 3)))
    (k3 : 0 ≤ (sy_i F 82).toInt → (sy_i F 82).toInt < (sy_i F 18).toInt → 1 ≤ (sy_i F 83).toInt → 4 < (sy_i F 83).toInt → ∀ F1 : Nat → sy_d, iv_in F1 iv_B0 → (∀ j, j < 82 → j ∉ ([] : List Nat) → F1 j = F j) → Q (some (.int (((-1) : Int32)))) (sy_dh F1 X1 X2 (iv_H 3)))
    (k4 : 0 ≤ (sy_i F 82).toInt → (sy_i F 82).toInt < (sy_i F 18).toInt → 1 ≤ (sy_i F 83).toInt → (sy_i F 83).toInt ≤ 4 → ((sy_ai F 54).getD ((sy_i F 82).toInt).toNat 0).toInt = 0 → ∀ F1 : Nat → sy_d, iv_in F1 iv_B0 → (∀ j, j < 82 → j ∉ ([] : List Nat) → F1 j = F j) → (sy_i F1 82).toInt = (sy_i F 82).toInt → sy_i F1 82 = sy_i F 82 → (sy_i F1 83).toInt = (sy_i F 83).toInt → sy_i F1 83 = sy_i F 83 → (sy_i F1 84).toInt = (sy_i F 84).toInt → sy_i F1 84 = sy_i F 84 → (sy_i F1 85).toInt = (sy_i F 82).toInt → sy_i F1 85 = sy_i F 82 → (sy_i F1 86).toInt = (sy_i F 83).toInt → sy_i F1 86 = sy_i F 83 → (sy_i F1 87).toInt = ((sy_ai F 57).getD ((sy_i F 82).toInt).toNat 0).toInt → sy_i F1 87 = (sy_ai F 57).getD ((sy_i F 82).toInt).toNat 0 → hd_W Ls xs d jm_M93 Q (57, sy_dL F1 [some (.inl (.ref 8)), some (.inr (.inl 82)), some (.inr (.inl 83)), some (.inr (.inl 84)), none, none, none], sy_dS F1 [.inr (.inl 87), .inr (.inl 86), .inr (.inl 85), .inl (.ref 46), .inl (.ref 20), .inl (.ref 42)], sy_dh F1 X1 X2 (iv_H 3), 0, 0))
    (k5 : 0 ≤ (sy_i F 82).toInt → (sy_i F 82).toInt < (sy_i F 18).toInt → 1 ≤ (sy_i F 83).toInt → (sy_i F 83).toInt ≤ 4 → ((sy_ai F 54).getD ((sy_i F 82).toInt).toNat 0).toInt ≠ 0 → ∀ F1 : Nat → sy_d, iv_in F1 iv_B0 → (∀ j, j < 82 → j ∉ ([] : List Nat) → F1 j = F j) → Q (some (.int (((-2) : Int32)))) (sy_dh F1 X1 X2 (iv_H 3))) :
    hd_W Ls xs d jm_M93 Q (0, sy_dL F [some (.inl (.ref 8)), some (.inr (.inl 82)), some (.inr (.inl 83)), some (.inr (.inl 84)), none, none, none], sy_dS F [], sy_dh F X1 X2 (iv_H 3), 0, 0) := by
  by_cases g0 : (sy_i F 82).toInt < 0
  · exact j3hg_0_p0 hd F X1 X2 hB (by first | exact g0 | (simp only [nz_c]; exact g0)) (fun F1 g  => k0 g0 F1 (nz_in0 hB [] (fun j hj hn => g j hj (by simp only [List.mem_cons, List.not_mem_nil, or_false, not_or] at hn; exact trivial)) (List.forall_mem_nil _)) (fun j hj hn => g j hj (by simp only [List.mem_cons, List.not_mem_nil, or_false, not_or] at hn; exact trivial)) )
  replace g0 : 0 ≤ (sy_i F 82).toInt := by omega
  by_cases g1 : (sy_i F 18).toInt ≤ (sy_i F 82).toInt
  · have c18 := nz_bx hB (k := 18) (lo := 0) (hi := 7) rfl
    exact j3hg_0_p1 hd F X1 X2 hB (by first | exact g0 | (simp only [nz_c]; exact g0)) (by first | exact g1 | (simp only [nz_c]; exact g1)) (fun F1 g  => k1 g0 g1 F1 (nz_in0 hB [] (fun j hj hn => g j hj (by simp only [List.mem_cons, List.not_mem_nil, or_false, not_or] at hn; exact trivial)) (List.forall_mem_nil _)) (fun j hj hn => g j hj (by simp only [List.mem_cons, List.not_mem_nil, or_false, not_or] at hn; exact trivial)) )
  replace g1 : (sy_i F 82).toInt < (sy_i F 18).toInt := by omega
  by_cases g2 : (sy_i F 83).toInt < 1
  · have c18 := nz_bx hB (k := 18) (lo := 0) (hi := 7) rfl
    exact j3hg_0_p2 hd F X1 X2 hB (by first | exact g0 | (simp only [nz_c]; exact g0)) (by first | exact g1 | (simp only [nz_c]; exact g1)) (by first | exact g2 | (simp only [nz_c]; exact g2)) (fun F1 g  => k2 g0 g1 g2 F1 (nz_in0 hB [] (fun j hj hn => g j hj (by simp only [List.mem_cons, List.not_mem_nil, or_false, not_or] at hn; exact trivial)) (List.forall_mem_nil _)) (fun j hj hn => g j hj (by simp only [List.mem_cons, List.not_mem_nil, or_false, not_or] at hn; exact trivial)) )
  replace g2 : 1 ≤ (sy_i F 83).toInt := by omega
  by_cases g3 : 4 < (sy_i F 83).toInt
  · have c18 := nz_bx hB (k := 18) (lo := 0) (hi := 7) rfl
    exact j3hg_0_p3 hd F X1 X2 hB (by first | exact g0 | (simp only [nz_c]; exact g0)) (by first | exact g1 | (simp only [nz_c]; exact g1)) (by first | exact g2 | (simp only [nz_c]; exact g2)) (by first | exact g3 | (simp only [nz_c]; exact g3)) (fun F1 g  => k3 g0 g1 g2 g3 F1 (nz_in0 hB [] (fun j hj hn => g j hj (by simp only [List.mem_cons, List.not_mem_nil, or_false, not_or] at hn; exact trivial)) (List.forall_mem_nil _)) (fun j hj hn => g j hj (by simp only [List.mem_cons, List.not_mem_nil, or_false, not_or] at hn; exact trivial)) )
  replace g3 : (sy_i F 83).toInt ≤ 4 := by omega
  by_cases g4 : ((sy_ai F 54).getD ((sy_i F 82).toInt).toNat 0).toInt = 0
  · have c18 := nz_bx hB (k := 18) (lo := 0) (hi := 7) rfl
    have q85 : (sy_ai F 54).getD (sy_i F 82).toNatClampNeg 0 = (sy_ai F 54).getD ((sy_i F 82).toInt).toNat 0 := by simp only [nz_c]
    have n85 : nzI ((sy_ai F 54).getD (sy_i F 82).toNatClampNeg 0) (((sy_ai F 54).getD ((sy_i F 82).toInt).toNat 0).toInt) := congrArg Int32.toInt q85
    have q86 : (sy_ai F 57).getD (sy_i F 82).toNatClampNeg 0 = (sy_ai F 57).getD ((sy_i F 82).toInt).toNat 0 := by simp only [nz_c]
    have n86 : nzI ((sy_ai F 57).getD (sy_i F 82).toNatClampNeg 0) (((sy_ai F 57).getD ((sy_i F 82).toInt).toNat 0).toInt) := congrArg Int32.toInt q86
    exact j3hg_0_p4 hd F X1 X2 hB (by first | exact g0 | (simp only [nz_c]; exact g0)) (by first | exact g1 | (simp only [nz_c]; exact g1)) (by first | exact g2 | (simp only [nz_c]; exact g2)) (by first | exact g3 | (simp only [nz_c]; exact g3)) (by first | exact ⟨by omega, by omega⟩ | (simp only [nz_c]; exact ⟨by omega, by omega⟩)) (by first | exact g4 | (simp only [nz_c]; exact g4) | (rw [(nzE n85)]; exact g4)) (by first | exact ⟨by omega, by omega⟩ | (simp only [nz_c]; exact ⟨by omega, by omega⟩)) (fun F1 g e82 e83 e84 e85 e86 e87 => k4 g0 g1 g2 g3 g4 F1 (nz_in0 hB [] (fun j hj hn => g j hj (by simp only [List.mem_cons, List.not_mem_nil, or_false, not_or] at hn; exact trivial)) (List.forall_mem_nil _)) (fun j hj hn => g j hj (by simp only [List.mem_cons, List.not_mem_nil, or_false, not_or] at hn; exact trivial)) ((congrArg Int32.toInt (zz_i e82)).trans (rfl : (sy_i F 82).toInt = (sy_i F 82).toInt)) ((zz_i e82).trans (rfl : sy_i F 82 = sy_i F 82)) ((congrArg Int32.toInt (zz_i e83)).trans (rfl : (sy_i F 83).toInt = (sy_i F 83).toInt)) ((zz_i e83).trans (rfl : sy_i F 83 = sy_i F 83)) ((congrArg Int32.toInt (zz_i e84)).trans (rfl : (sy_i F 84).toInt = (sy_i F 84).toInt)) ((zz_i e84).trans (rfl : sy_i F 84 = sy_i F 84)) ((congrArg Int32.toInt (zz_i e85)).trans (rfl : (sy_i F 82).toInt = (sy_i F 82).toInt)) ((zz_i e85).trans (rfl : sy_i F 82 = sy_i F 82)) ((congrArg Int32.toInt (zz_i e86)).trans (rfl : (sy_i F 83).toInt = (sy_i F 83).toInt)) ((zz_i e86).trans (rfl : sy_i F 83 = sy_i F 83)) ((congrArg Int32.toInt (zz_i e87)).trans (nzE n86)) ((zz_i e87).trans q86))
  replace g4 : ((sy_ai F 54).getD ((sy_i F 82).toInt).toNat 0).toInt ≠ 0 := by omega
  have c18 := nz_bx hB (k := 18) (lo := 0) (hi := 7) rfl
  have q85 : (sy_ai F 54).getD (sy_i F 82).toNatClampNeg 0 = (sy_ai F 54).getD ((sy_i F 82).toInt).toNat 0 := by simp only [nz_c]
  have n85 : nzI ((sy_ai F 54).getD (sy_i F 82).toNatClampNeg 0) (((sy_ai F 54).getD ((sy_i F 82).toInt).toNat 0).toInt) := congrArg Int32.toInt q85
  exact j3hg_0_p5 hd F X1 X2 hB (by first | exact g0 | (simp only [nz_c]; exact g0)) (by first | exact g1 | (simp only [nz_c]; exact g1)) (by first | exact g2 | (simp only [nz_c]; exact g2)) (by first | exact g3 | (simp only [nz_c]; exact g3)) (by first | exact ⟨by omega, by omega⟩ | (simp only [nz_c]; exact ⟨by omega, by omega⟩)) (by first | exact g4 | (simp only [nz_c]; exact g4) | (rw [(nzE n85)]; exact g4)) (fun F1 g  => k5 g0 g1 g2 g3 g4 F1 (nz_in0 hB [] (fun j hj hn => g j hj (by simp only [List.mem_cons, List.not_mem_nil, or_false, not_or] at hn; exact trivial)) (List.forall_mem_nil _)) (fun j hj hn => g j hj (by simp only [List.mem_cons, List.not_mem_nil, or_false, not_or] at hn; exact trivial)) )
theorem j3hg_60_p0 {Ls : Nat} {xs : Nat → Int32} {d : Nat} {Q : Option Value → jm_h → Prop} (hd : 1 ≤ d) (F : Nat → sy_d) (X1 X2 : List jm_c) (hB : iv_in F iv_B0)
    (k : ∀ F1 : Nat → sy_d, (∀ j, j < 82 → True → F1 j = F j) → F1 82 = .inl (.int (sy_i F 83)) → F1 83 = .inl (.int (sy_i F 84)) → F1 84 = .inl (.int ((1 : Int32))) → F1 85 = .inl (.int ((1 : Int32))) → F1 86 = .inl (.int ((0 : Int32))) → hd_W Ls xs d jm_M93 Q (69, sy_dL F1 [some (.inl (.ref 8)), none, some (.inr (.inl 82)), some (.inr (.inl 83)), some (.inr (.inl 84)), some (.inr (.inl 85)), some (.inr (.inl 86))], sy_dS F1 [], sy_dh F1 X1 X2 (iv_H 3), 0, 0)) :
    hd_W Ls xs d jm_M93 Q (60, sy_dL F [some (.inl (.ref 8)), some (.inr (.inl 82)), some (.inr (.inl 83)), some (.inr (.inl 84)), none, none, none], sy_dS F [], sy_dh F X1 X2 (iv_H 3), 0, 0) := by
  refine hd_run (s := 3) (nv := 85) (pc := 69) (L := [some (.inl (.ref 8)), none, some (.inr (.inl 82)), some (.inr (.inl 83)), some (.inr (.inl 84)), some (.inr (.inl 85)), some (.inr (.inl 86))]) (S := []) (uh := hd_ov (iv_id 0 iv_B0) []) (ul := [.inl (.inr (.inl 83)), .inl (.inr (.inl 84)), .inl (.inl (.int 1)), .inl (.inl (.int 1)), .inl (.inl (.int 0))]) (f := false) (sp := [69]) (d0 := 0) (O := []) (T := []) (P := []) jm_ok93 (by decide +kernel) (by decide +kernel) hd F X1 X2 (fun F' hF hs => ?_)
  have b83 := hd_b (F := F) (F' := F') (k := 83) (hF 83 (by decide))
  have b84 := hd_b (F := F) (F' := F') (k := 84) (hF 84 (by decide))
  have hB' : iv_in F' iv_B0 := iv_in_eq hB (fun j hj => hF j (Nat.lt_of_lt_of_le hj (by decide +kernel)))
  refine ⟨fun _ h => absurd h List.not_mem_nil, ?_⟩
  refine k _ ?_ ?_ ?_ ?_ ?_ ?_
  · exact fun j hj _ => (hd_keep hB' (Nat.lt_of_lt_of_le hj (by decide +kernel)) (by simp)).trans (hF j (Nat.lt_of_lt_of_le hj (by decide)))
  · exact hd_gi (x := .inr (.inl 83)) (by decide +kernel) b83
  · exact hd_gi (x := .inr (.inl 84)) (by decide +kernel) b84
  · exact hd_gi (x := .inl (.int 1)) (by decide +kernel) rfl
  · exact hd_gi (x := .inl (.int 1)) (by decide +kernel) rfl
  · exact hd_gi (x := .inl (.int 0)) (by decide +kernel) rfl
theorem j3hg_60 {Ls : Nat} {xs : Nat → Int32} {d : Nat} {Q : Option Value → jm_h → Prop} (hd : 1 ≤ d) (F : Nat → sy_d) (X1 X2 : List jm_c) (hB : iv_in F iv_B0)
    (k0 : ∀ F1 : Nat → sy_d, iv_in F1 iv_B0 → (∀ j, j < 82 → j ∉ ([] : List Nat) → F1 j = F j) → (sy_i F1 82).toInt = (sy_i F 83).toInt → sy_i F1 82 = sy_i F 83 → (sy_i F1 83).toInt = (sy_i F 84).toInt → sy_i F1 83 = sy_i F 84 → (sy_i F1 84).toInt = 1 → sy_i F1 84 = (1 : Int32) → (sy_i F1 85).toInt = 1 → sy_i F1 85 = (1 : Int32) → (sy_i F1 86).toInt = 0 → sy_i F1 86 = (0 : Int32) → hd_W Ls xs d jm_M93 Q (69, sy_dL F1 [some (.inl (.ref 8)), none, some (.inr (.inl 82)), some (.inr (.inl 83)), some (.inr (.inl 84)), some (.inr (.inl 85)), some (.inr (.inl 86))], sy_dS F1 [], sy_dh F1 X1 X2 (iv_H 3), 0, 0)) :
    hd_W Ls xs d jm_M93 Q (60, sy_dL F [some (.inl (.ref 8)), some (.inr (.inl 82)), some (.inr (.inl 83)), some (.inr (.inl 84)), none, none, none], sy_dS F [], sy_dh F X1 X2 (iv_H 3), 0, 0) := by
  exact j3hg_60_p0 hd F X1 X2 hB  (fun F1 g e82 e83 e84 e85 e86 => k0 F1 (nz_in0 hB [] (fun j hj hn => g j hj (by simp only [List.mem_cons, List.not_mem_nil, or_false, not_or] at hn; exact trivial)) (List.forall_mem_nil _)) (fun j hj hn => g j hj (by simp only [List.mem_cons, List.not_mem_nil, or_false, not_or] at hn; exact trivial)) ((congrArg Int32.toInt (zz_i e82)).trans (rfl : (sy_i F 83).toInt = (sy_i F 83).toInt)) ((zz_i e82).trans (rfl : sy_i F 83 = sy_i F 83)) ((congrArg Int32.toInt (zz_i e83)).trans (rfl : (sy_i F 84).toInt = (sy_i F 84).toInt)) ((zz_i e83).trans (rfl : sy_i F 84 = sy_i F 84)) ((congrArg Int32.toInt (zz_i e84)).trans (by decide : ((1 : Int32)).toInt = 1)) ((zz_i e84).trans (rfl : (1 : Int32) = (1 : Int32))) ((congrArg Int32.toInt (zz_i e85)).trans (by decide : ((1 : Int32)).toInt = 1)) ((zz_i e85).trans (rfl : (1 : Int32) = (1 : Int32))) ((congrArg Int32.toInt (zz_i e86)).trans (by decide : ((0 : Int32)).toInt = 0)) ((zz_i e86).trans (rfl : (0 : Int32) = (0 : Int32))))
theorem j3hg_69_p0 {Ls : Nat} {xs : Nat → Int32} {d : Nat} {Q : Option Value → jm_h → Prop} (hd : 1 ≤ d) (F : Nat → sy_d) (X1 X2 : List jm_c) (hB : iv_in F iv_B0)
    (h0 : (sy_i F 82).toInt ≤ (sy_i F 86).toInt)
    (k : ∀ F1 : Nat → sy_d, (∀ j, j < 82 → True → F1 j = F j) → F1 82 = .inl (.int (sy_i F 83)) → F1 83 = .inl (.int (sy_i F 84)) → F1 84 = .inl (.int (sy_i F 85)) → F1 85 = .inl (.int (sy_i F 84)) → F1 86 = .inl (.int (sy_i F 85)) → hd_W Ls xs d jm_M93 Q (110, sy_dL F1 [some (.inl (.ref 8)), none, none, some (.inr (.inl 82)), some (.inr (.inl 83)), some (.inr (.inl 84)), none], sy_dS F1 [.inr (.inl 86), .inr (.inl 85)], sy_dh F1 X1 X2 (iv_H 3), 0, 0)) :
    hd_W Ls xs d jm_M93 Q (69, sy_dL F [some (.inl (.ref 8)), none, some (.inr (.inl 82)), some (.inr (.inl 83)), some (.inr (.inl 84)), some (.inr (.inl 85)), some (.inr (.inl 86))], sy_dS F [], sy_dh F X1 X2 (iv_H 3), 0, 0) := by
  refine hd_run (s := 3) (nv := 87) (pc := 110) (L := [some (.inl (.ref 8)), none, none, some (.inr (.inl 82)), some (.inr (.inl 83)), some (.inr (.inl 84)), none]) (S := [.inr (.inl 86), .inr (.inl 85)]) (uh := hd_ov (iv_id 0 iv_B0) []) (ul := [.inl (.inr (.inl 83)), .inl (.inr (.inl 84)), .inl (.inr (.inl 85)), .inl (.inr (.inl 84)), .inl (.inr (.inl 85))]) (f := true) (sp := [69, 110]) (d0 := 0) (O := [true]) (T := []) (P := [(4, .inr (.inl 82), .inr (.inl 86))]) jm_ok93 (by decide +kernel) (by decide +kernel) hd F X1 X2 (fun F' hF hs => ?_)
  have b82 := hd_b (F := F) (F' := F') (k := 82) (hF 82 (by decide))
  have b86 := hd_b (F := F) (F' := F') (k := 86) (hF 86 (by decide))
  have b83 := hd_b (F := F) (F' := F') (k := 83) (hF 83 (by decide))
  have b84 := hd_b (F := F) (F' := F') (k := 84) (hF 84 (by decide))
  have b85 := hd_b (F := F) (F' := F') (k := 85) (hF 85 (by decide))
  have hB' : iv_in F' iv_B0 := iv_in_eq hB (fun j hj => hF j (Nat.lt_of_lt_of_le hj (by decide +kernel)))
  refine ⟨List.forall_mem_cons.mpr ⟨hd_p4 b82 b86 h0, fun _ h => absurd h List.not_mem_nil⟩, ?_⟩
  refine k _ ?_ ?_ ?_ ?_ ?_ ?_
  · exact fun j hj _ => (hd_keep hB' (Nat.lt_of_lt_of_le hj (by decide +kernel)) (by simp)).trans (hF j (Nat.lt_of_lt_of_le hj (by decide)))
  · exact hd_gi (x := .inr (.inl 83)) (by decide +kernel) b83
  · exact hd_gi (x := .inr (.inl 84)) (by decide +kernel) b84
  · exact hd_gi (x := .inr (.inl 85)) (by decide +kernel) b85
  · exact hd_gi (x := .inr (.inl 84)) (by decide +kernel) b84
  · exact hd_gi (x := .inr (.inl 85)) (by decide +kernel) b85
theorem j3hg_69_p1 {Ls : Nat} {xs : Nat → Int32} {d : Nat} {Q : Option Value → jm_h → Prop} (hd : 1 ≤ d) (F : Nat → sy_d) (X1 X2 : List jm_c) (hB : iv_in F iv_B0)
    (h0 : (sy_i F 86).toInt < (sy_i F 82).toInt)
    (h1 : 0 ≤ (sy_i F 86).toInt ∧ (sy_i F 86).toInt < 4)
    (k : ∀ F1 : Nat → sy_d, (∀ j, j < 82 → True → F1 j = F j) → F1 82 = .inl (.int (sy_i F 82)) → F1 83 = .inl (.int (sy_i F 83)) → F1 84 = .inl (.int ((sy_i F 84) * (((100 : Int32)) - ((sy_ai F 47).getD (sy_i F 86).toNatClampNeg 0)))) → F1 85 = .inl (.int ((sy_i F 85) * ((100 : Int32)))) → F1 86 = .inl (.int ((sy_i F 86) + ((1 : Int32)))) → hd_W Ls xs d jm_M93 Q (69, sy_dL F1 [some (.inl (.ref 8)), none, some (.inr (.inl 82)), some (.inr (.inl 83)), some (.inr (.inl 84)), some (.inr (.inl 85)), some (.inr (.inl 86))], sy_dS F1 [], sy_dh F1 X1 X2 (iv_H 3), 0, 0)) :
    hd_W Ls xs d jm_M93 Q (69, sy_dL F [some (.inl (.ref 8)), none, some (.inr (.inl 82)), some (.inr (.inl 83)), some (.inr (.inl 84)), some (.inr (.inl 85)), some (.inr (.inl 86))], sy_dS F [], sy_dh F X1 X2 (iv_H 3), 0, 0) := by
  refine hd_run (s := 3) (nv := 87) (pc := 69) (L := [some (.inl (.ref 8)), none, some (.inr (.inl 82)), some (.inr (.inl 83)), some (.inr (.inl 84)), some (.inr (.inl 85)), some (.inr (.inl 86))]) (S := []) (uh := hd_ov (iv_id 0 iv_B0) []) (ul := [.inl (.inr (.inl 82)), .inl (.inr (.inl 83)), .inl (.inr (.inl 89)), .inl (.inr (.inl 90)), .inl (.inr (.inl 91))]) (f := true) (sp := [69, 110]) (d0 := 0) (O := [false]) (T := [(30, [.inr (.inl 86)], [.inr (.inl 47)]), (1, [.inl (.int 100), .inr (.inl 87)], []), (2, [.inr (.inl 84), .inr (.inl 88)], []), (2, [.inr (.inl 85), .inl (.int 100)], []), (0, [.inr (.inl 86), .inl (.int 1)], [])]) (P := [(5, .inr (.inl 82), .inr (.inl 86)), (6, .inr (.inl 86), .inl (.ref 4))]) jm_ok93 (by decide +kernel) (by decide +kernel) hd F X1 X2 (fun F' hF hs => ?_)
  have b82 := hd_b (F := F) (F' := F') (k := 82) (hF 82 (by decide))
  have b86 := hd_b (F := F) (F' := F') (k := 86) (hF 86 (by decide))
  have b83 := hd_b (F := F) (F' := F') (k := 83) (hF 83 (by decide))
  have b84 := hd_b (F := F) (F' := F') (k := 84) (hF 84 (by decide))
  have a47 := hd_ba (F := F) (F' := F') (k := 47) (hF 47 (by decide))
  have t87 : sy_dv F' (.inr (.inl 87)) = .int ((sy_ai F 47).getD (sy_i F 86).toNatClampNeg 0) := hd_rd (hs 0 _ rfl) b86 a47
  have t88 : sy_dv F' (.inr (.inl 88)) = .int (((100 : Int32)) - ((sy_ai F 47).getD (sy_i F 86).toNatClampNeg 0)) := hd_o (hs 1 _ rfl) rfl t87 rfl
  have t89 : sy_dv F' (.inr (.inl 89)) = .int ((sy_i F 84) * (((100 : Int32)) - ((sy_ai F 47).getD (sy_i F 86).toNatClampNeg 0))) := hd_o (hs 2 _ rfl) b84 t88 rfl
  have b85 := hd_b (F := F) (F' := F') (k := 85) (hF 85 (by decide))
  have t90 : sy_dv F' (.inr (.inl 90)) = .int ((sy_i F 85) * ((100 : Int32))) := hd_o (hs 3 _ rfl) b85 rfl rfl
  have t91 : sy_dv F' (.inr (.inl 91)) = .int ((sy_i F 86) + ((1 : Int32))) := hd_o (hs 4 _ rfl) b86 rfl rfl
  have hB' : iv_in F' iv_B0 := iv_in_eq hB (fun j hj => hF j (Nat.lt_of_lt_of_le hj (by decide +kernel)))
  refine ⟨List.forall_mem_cons.mpr ⟨hd_p5 b82 b86 h0, List.forall_mem_cons.mpr ⟨hd_pb b86 (by first | exact h1 | exact h1), fun _ h => absurd h List.not_mem_nil⟩⟩, ?_⟩
  refine k _ ?_ ?_ ?_ ?_ ?_ ?_
  · exact fun j hj _ => (hd_keep hB' (Nat.lt_of_lt_of_le hj (by decide +kernel)) (by simp)).trans (hF j (Nat.lt_of_lt_of_le hj (by decide)))
  · exact hd_gi (x := .inr (.inl 82)) (by decide +kernel) b82
  · exact hd_gi (x := .inr (.inl 83)) (by decide +kernel) b83
  · exact hd_gi (x := .inr (.inl 89)) (by decide +kernel) t89
  · exact hd_gi (x := .inr (.inl 90)) (by decide +kernel) t90
  · exact hd_gi (x := .inr (.inl 91)) (by decide +kernel) t91
theorem j3hg_69 {Ls : Nat} {xs : Nat → Int32} {d : Nat} {Q : Option Value → jm_h → Prop} (hd : 1 ≤ d) (F : Nat → sy_d) (X1 X2 : List jm_c) (hB : iv_in F iv_B0)
    (a82 : 1 ≤ (sy_i F 82).toInt ∧ (sy_i F 82).toInt ≤ 4)
    (a86 : 0 ≤ (sy_i F 86).toInt ∧ (sy_i F 86).toInt ≤ 4)
    (k0 : (sy_i F 82).toInt ≤ (sy_i F 86).toInt → ∀ F1 : Nat → sy_d, iv_in F1 iv_B0 → (∀ j, j < 82 → j ∉ ([] : List Nat) → F1 j = F j) → (sy_i F1 82).toInt = (sy_i F 83).toInt → sy_i F1 82 = sy_i F 83 → (sy_i F1 83).toInt = (sy_i F 84).toInt → sy_i F1 83 = sy_i F 84 → (sy_i F1 84).toInt = (sy_i F 85).toInt → sy_i F1 84 = sy_i F 85 → (sy_i F1 85).toInt = (sy_i F 84).toInt → sy_i F1 85 = sy_i F 84 → (sy_i F1 86).toInt = (sy_i F 85).toInt → sy_i F1 86 = sy_i F 85 → hd_W Ls xs d jm_M93 Q (110, sy_dL F1 [some (.inl (.ref 8)), none, none, some (.inr (.inl 82)), some (.inr (.inl 83)), some (.inr (.inl 84)), none], sy_dS F1 [.inr (.inl 86), .inr (.inl 85)], sy_dh F1 X1 X2 (iv_H 3), 0, 0))
    (k1 : (sy_i F 86).toInt < (sy_i F 82).toInt → ∀ F1 : Nat → sy_d, iv_in F1 iv_B0 → (∀ j, j < 82 → j ∉ ([] : List Nat) → F1 j = F j) → (sy_i F1 82).toInt = (sy_i F 82).toInt → sy_i F1 82 = sy_i F 82 → (sy_i F1 83).toInt = (sy_i F 83).toInt → sy_i F1 83 = sy_i F 83 → (sy_i F1 84).toInt = ((sy_i F 84) * (((100 : Int32)) - ((sy_ai F 47).getD ((sy_i F 86).toInt).toNat 0))).toInt → sy_i F1 84 = (sy_i F 84) * (((100 : Int32)) - ((sy_ai F 47).getD ((sy_i F 86).toInt).toNat 0)) → (sy_i F1 85).toInt = ((sy_i F 85) * ((100 : Int32))).toInt → sy_i F1 85 = (sy_i F 85) * ((100 : Int32)) → (sy_i F1 86).toInt = ((sy_i F 86).toInt + 1) → sy_i F1 86 = (sy_i F 86) + ((1 : Int32)) → hd_W Ls xs d jm_M93 Q (69, sy_dL F1 [some (.inl (.ref 8)), none, some (.inr (.inl 82)), some (.inr (.inl 83)), some (.inr (.inl 84)), some (.inr (.inl 85)), some (.inr (.inl 86))], sy_dS F1 [], sy_dh F1 X1 X2 (iv_H 3), 0, 0)) :
    hd_W Ls xs d jm_M93 Q (69, sy_dL F [some (.inl (.ref 8)), none, some (.inr (.inl 82)), some (.inr (.inl 83)), some (.inr (.inl 84)), some (.inr (.inl 85)), some (.inr (.inl 86))], sy_dS F [], sy_dh F X1 X2 (iv_H 3), 0, 0) := by
  by_cases g0 : (sy_i F 82).toInt ≤ (sy_i F 86).toInt
  · exact j3hg_69_p0 hd F X1 X2 hB (by first | exact g0 | (simp only [nz_c]; exact g0)) (fun F1 g e82 e83 e84 e85 e86 => k0 g0 F1 (nz_in0 hB [] (fun j hj hn => g j hj (by simp only [List.mem_cons, List.not_mem_nil, or_false, not_or] at hn; exact trivial)) (List.forall_mem_nil _)) (fun j hj hn => g j hj (by simp only [List.mem_cons, List.not_mem_nil, or_false, not_or] at hn; exact trivial)) ((congrArg Int32.toInt (zz_i e82)).trans (rfl : (sy_i F 83).toInt = (sy_i F 83).toInt)) ((zz_i e82).trans (rfl : sy_i F 83 = sy_i F 83)) ((congrArg Int32.toInt (zz_i e83)).trans (rfl : (sy_i F 84).toInt = (sy_i F 84).toInt)) ((zz_i e83).trans (rfl : sy_i F 84 = sy_i F 84)) ((congrArg Int32.toInt (zz_i e84)).trans (rfl : (sy_i F 85).toInt = (sy_i F 85).toInt)) ((zz_i e84).trans (rfl : sy_i F 85 = sy_i F 85)) ((congrArg Int32.toInt (zz_i e85)).trans (rfl : (sy_i F 84).toInt = (sy_i F 84).toInt)) ((zz_i e85).trans (rfl : sy_i F 84 = sy_i F 84)) ((congrArg Int32.toInt (zz_i e86)).trans (rfl : (sy_i F 85).toInt = (sy_i F 85).toInt)) ((zz_i e86).trans (rfl : sy_i F 85 = sy_i F 85)))
  replace g0 : (sy_i F 86).toInt < (sy_i F 82).toInt := by omega
  have q89 : (sy_i F 84) * (((100 : Int32)) - ((sy_ai F 47).getD (sy_i F 86).toNatClampNeg 0)) = (sy_i F 84) * (((100 : Int32)) - ((sy_ai F 47).getD ((sy_i F 86).toInt).toNat 0)) := by simp only [nz_c, (by decide : ((100 : Int32)).toInt = 100)]
  have n89 : nzI ((sy_i F 84) * (((100 : Int32)) - ((sy_ai F 47).getD (sy_i F 86).toNatClampNeg 0))) (((sy_i F 84) * (((100 : Int32)) - ((sy_ai F 47).getD ((sy_i F 86).toInt).toNat 0))).toInt) := congrArg Int32.toInt q89
  have n90 : nzI ((sy_i F 85) * ((100 : Int32))) (((sy_i F 85) * ((100 : Int32))).toInt) := congrArg Int32.toInt (rfl : (sy_i F 85) * ((100 : Int32)) = (sy_i F 85) * ((100 : Int32)))
  have n91 : nzI ((sy_i F 86) + ((1 : Int32))) (((sy_i F 86).toInt + 1)) := nz_add (rfl : (sy_i F 86).toInt = (sy_i F 86).toInt) (by decide : ((1 : Int32)).toInt = 1) (by omega) (by omega)
  exact j3hg_69_p1 hd F X1 X2 hB (by first | exact g0 | (simp only [nz_c]; exact g0)) (by first | exact ⟨by omega, by omega⟩ | (simp only [nz_c]; exact ⟨by omega, by omega⟩)) (fun F1 g e82 e83 e84 e85 e86 => k1 g0 F1 (nz_in0 hB [] (fun j hj hn => g j hj (by simp only [List.mem_cons, List.not_mem_nil, or_false, not_or] at hn; exact trivial)) (List.forall_mem_nil _)) (fun j hj hn => g j hj (by simp only [List.mem_cons, List.not_mem_nil, or_false, not_or] at hn; exact trivial)) ((congrArg Int32.toInt (zz_i e82)).trans (rfl : (sy_i F 82).toInt = (sy_i F 82).toInt)) ((zz_i e82).trans (rfl : sy_i F 82 = sy_i F 82)) ((congrArg Int32.toInt (zz_i e83)).trans (rfl : (sy_i F 83).toInt = (sy_i F 83).toInt)) ((zz_i e83).trans (rfl : sy_i F 83 = sy_i F 83)) ((congrArg Int32.toInt (zz_i e84)).trans (nzE n89)) ((zz_i e84).trans q89) ((congrArg Int32.toInt (zz_i e85)).trans (nzE n90)) ((zz_i e85).trans (rfl : (sy_i F 85) * ((100 : Int32)) = (sy_i F 85) * ((100 : Int32)))) ((congrArg Int32.toInt (zz_i e86)).trans (nzE n91)) ((zz_i e86).trans (rfl : (sy_i F 86) + ((1 : Int32)) = (sy_i F 86) + ((1 : Int32)))))
theorem j3hg_113_p0 {Ls : Nat} {xs : Nat → Int32} {d : Nat} {Q : Option Value → jm_h → Prop} (hd : 1 ≤ d) (F : Nat → sy_d) (X1 X2 : List jm_c) (hB : iv_in F iv_B0)
    (h0 : (sy_i F 85).toInt ≠ 0)
    (h1 : (sy_i F 82).toInt = 0)
    (h2 : (sy_i F 85).toInt ≠ 0)
    (k : ∀ F1 : Nat → sy_d, (∀ j, j < 82 → True → F1 j = F j) → Q (some (.int ((sy_i F 83) / (sy_i F 85)))) (sy_dh F1 X1 X2 (iv_H 3))) :
    hd_W Ls xs d jm_M93 Q (113, sy_dL F [some (.inl (.ref 8)), none, none, some (.inr (.inl 82)), some (.inr (.inl 83)), some (.inr (.inl 84)), none], sy_dS F [.inr (.inl 85)], sy_dh F X1 X2 (iv_H 3), 0, 0) := by
  refine hd_ret (s := 3) (nv := 86) (v := some (.inr (.inl 86))) (uh := hd_ov (iv_id 0 iv_B0) []) (f := false) (sp := []) (d0 := 0) (O := [true, true]) (T := [(9, [.inr (.inl 83), .inr (.inl 85)], [])]) (P := [(1, .inr (.inl 85), .inl (.int 0)), (0, .inr (.inl 82), .inl (.int 0)), (1, .inr (.inl 85), .inl (.int 0))]) jm_ok93 (by decide +kernel) (by decide +kernel) hd F X1 X2 (fun F' hF hs => ?_)
  have b85 := hd_b (F := F) (F' := F') (k := 85) (hF 85 (by decide))
  have b82 := hd_b (F := F) (F' := F') (k := 82) (hF 82 (by decide))
  have b83 := hd_b (F := F) (F' := F') (k := 83) (hF 83 (by decide))
  have t86 : sy_dv F' (.inr (.inl 86)) = .int ((sy_i F 83) / (sy_i F 85)) := hd_o (hs 0 _ rfl) b83 b85 rfl
  have hB' : iv_in F' iv_B0 := iv_in_eq hB (fun j hj => hF j (Nat.lt_of_lt_of_le hj (by decide +kernel)))
  have hk := k (sy_cm F' (hd_ov (iv_id 0 iv_B0) [] ++ [])) (fun j hj _ => (hd_keep hB' (Nat.lt_of_lt_of_le hj (by decide +kernel)) (by simp)).trans (hF j (Nat.lt_of_lt_of_le hj (by decide))))
  refine ⟨List.forall_mem_cons.mpr ⟨hd_p1 b85 rfl (by have hc : ((0) : Int32).toInt = 0 := (by decide); omega), List.forall_mem_cons.mpr ⟨hd_p0 b82 rfl (by have hc : ((0) : Int32).toInt = 0 := (by decide); omega), List.forall_mem_cons.mpr ⟨hd_p1 b85 rfl (by have hc : ((0) : Int32).toInt = 0 := (by decide); omega), fun _ h => absurd h List.not_mem_nil⟩⟩⟩, ?_⟩
  show Q (some (sy_dv F' (.inr (.inl 86)))) _
  rw [t86]
  exact hk
theorem j3hg_113_p1 {Ls : Nat} {xs : Nat → Int32} {d : Nat} {Q : Option Value → jm_h → Prop} (hd : 1 ≤ d) (F : Nat → sy_d) (X1 X2 : List jm_c) (hB : iv_in F iv_B0)
    (h0 : (sy_i F 85).toInt ≠ 0)
    (h1 : (sy_i F 82).toInt ≠ 0)
    (h2 : (sy_i F 85).toInt ≠ 0)
    (k : ∀ F1 : Nat → sy_d, (∀ j, j < 82 → True → F1 j = F j) → Q (some (.int ((sy_i F 84) / (sy_i F 85)))) (sy_dh F1 X1 X2 (iv_H 3))) :
    hd_W Ls xs d jm_M93 Q (113, sy_dL F [some (.inl (.ref 8)), none, none, some (.inr (.inl 82)), some (.inr (.inl 83)), some (.inr (.inl 84)), none], sy_dS F [.inr (.inl 85)], sy_dh F X1 X2 (iv_H 3), 0, 0) := by
  refine hd_ret (s := 3) (nv := 86) (v := some (.inr (.inl 86))) (uh := hd_ov (iv_id 0 iv_B0) []) (f := false) (sp := []) (d0 := 0) (O := [true, false]) (T := [(9, [.inr (.inl 84), .inr (.inl 85)], [])]) (P := [(1, .inr (.inl 85), .inl (.int 0)), (1, .inr (.inl 82), .inl (.int 0)), (1, .inr (.inl 85), .inl (.int 0))]) jm_ok93 (by decide +kernel) (by decide +kernel) hd F X1 X2 (fun F' hF hs => ?_)
  have b85 := hd_b (F := F) (F' := F') (k := 85) (hF 85 (by decide))
  have b82 := hd_b (F := F) (F' := F') (k := 82) (hF 82 (by decide))
  have b84 := hd_b (F := F) (F' := F') (k := 84) (hF 84 (by decide))
  have t86 : sy_dv F' (.inr (.inl 86)) = .int ((sy_i F 84) / (sy_i F 85)) := hd_o (hs 0 _ rfl) b84 b85 rfl
  have hB' : iv_in F' iv_B0 := iv_in_eq hB (fun j hj => hF j (Nat.lt_of_lt_of_le hj (by decide +kernel)))
  have hk := k (sy_cm F' (hd_ov (iv_id 0 iv_B0) [] ++ [])) (fun j hj _ => (hd_keep hB' (Nat.lt_of_lt_of_le hj (by decide +kernel)) (by simp)).trans (hF j (Nat.lt_of_lt_of_le hj (by decide))))
  refine ⟨List.forall_mem_cons.mpr ⟨hd_p1 b85 rfl (by have hc : ((0) : Int32).toInt = 0 := (by decide); omega), List.forall_mem_cons.mpr ⟨hd_p1 b82 rfl (by have hc : ((0) : Int32).toInt = 0 := (by decide); omega), List.forall_mem_cons.mpr ⟨hd_p1 b85 rfl (by have hc : ((0) : Int32).toInt = 0 := (by decide); omega), fun _ h => absurd h List.not_mem_nil⟩⟩⟩, ?_⟩
  show Q (some (sy_dv F' (.inr (.inl 86)))) _
  rw [t86]
  exact hk
theorem j3hg_113 {Ls : Nat} {xs : Nat → Int32} {d : Nat} {Q : Option Value → jm_h → Prop} (hd : 1 ≤ d) (F : Nat → sy_d) (X1 X2 : List jm_c) (hB : iv_in F iv_B0)
    (a83 : 0 ≤ (sy_i F 83).toInt ∧ (sy_i F 83).toInt ≤ 100000000)
    (a84 : 1 ≤ (sy_i F 84).toInt ∧ (sy_i F 84).toInt ≤ 100000000)
    (a85 : 1 ≤ (sy_i F 85).toInt ∧ (sy_i F 85).toInt ≤ 100000000)
    (k0 : (sy_i F 85).toInt ≠ 0 → (sy_i F 82).toInt = 0 → ∀ F1 : Nat → sy_d, iv_in F1 iv_B0 → (∀ j, j < 82 → j ∉ ([] : List Nat) → F1 j = F j) → Q (some (.int ((sy_i F 83) / (sy_i F 85)))) (sy_dh F1 X1 X2 (iv_H 3)))
    (k1 : (sy_i F 85).toInt ≠ 0 → (sy_i F 82).toInt ≠ 0 → ∀ F1 : Nat → sy_d, iv_in F1 iv_B0 → (∀ j, j < 82 → j ∉ ([] : List Nat) → F1 j = F j) → Q (some (.int ((sy_i F 84) / (sy_i F 85)))) (sy_dh F1 X1 X2 (iv_H 3))) :
    hd_W Ls xs d jm_M93 Q (113, sy_dL F [some (.inl (.ref 8)), none, none, some (.inr (.inl 82)), some (.inr (.inl 83)), some (.inr (.inl 84)), none], sy_dS F [.inr (.inl 85)], sy_dh F X1 X2 (iv_H 3), 0, 0) := by
  by_cases g0 : (sy_i F 85).toInt ≠ 0
  · by_cases g1 : (sy_i F 82).toInt = 0
    · exact j3hg_113_p0 hd F X1 X2 hB (by first | exact g0 | (simp only [nz_c]; exact g0)) (by first | exact g1 | (simp only [nz_c]; exact g1)) (by first | exact g0 | (simp only [nz_c]; exact g0)) (fun F1 g  => by rw [(rfl : (sy_i F 83) / (sy_i F 85) = (sy_i F 83) / (sy_i F 85))]; exact k0 g0 g1 F1 (nz_in0 hB [] (fun j hj hn => g j hj (by simp only [List.mem_cons, List.not_mem_nil, or_false, not_or] at hn; exact trivial)) (List.forall_mem_nil _)) (fun j hj hn => g j hj (by simp only [List.mem_cons, List.not_mem_nil, or_false, not_or] at hn; exact trivial)) )
    replace g1 : (sy_i F 82).toInt ≠ 0 := by omega
    exact j3hg_113_p1 hd F X1 X2 hB (by first | exact g0 | (simp only [nz_c]; exact g0)) (by first | exact g1 | (simp only [nz_c]; exact g1)) (by first | exact g0 | (simp only [nz_c]; exact g0)) (fun F1 g  => by rw [(rfl : (sy_i F 84) / (sy_i F 85) = (sy_i F 84) / (sy_i F 85))]; exact k1 g0 g1 F1 (nz_in0 hB [] (fun j hj hn => g j hj (by simp only [List.mem_cons, List.not_mem_nil, or_false, not_or] at hn; exact trivial)) (List.forall_mem_nil _)) (fun j hj hn => g j hj (by simp only [List.mem_cons, List.not_mem_nil, or_false, not_or] at hn; exact trivial)) )
  replace g0 : (sy_i F 85).toInt = 0 := by omega
  exfalso
  omega
theorem zgd_0_p0 {Ls : Nat} {xs : Nat → Int32} {d : Nat} {Q : Option Value → jm_h → Prop} (hd : 1 ≤ d) (F : Nat → sy_d) (X1 X2 : List jm_c) (hB : iv_in F iv_B4)
    (k : ∀ F1 : Nat → sy_d, (∀ j, j < 69 → True → F1 j = F j) → F1 69 = .inl (.long (sy_l F 69)) → F1 70 = .inl (.long (sy_l F 70)) → hd_W Ls xs d jm_M210 Q (6, sy_dL F1 [none, none, none, none, some (.inr (.inr 69)), none, some (.inr (.inr 70)), none, none, none], sy_dS F1 [], sy_dh F1 X1 X2 (iv_H 4), 0, 0)) :
    hd_W Ls xs d jm_M210 Q (0, sy_dL F [some (.inr (.inr 69)), none, some (.inr (.inr 70)), none, none, none, none, none, none, none], sy_dS F [], sy_dh F X1 X2 (iv_H 4), 0, 0) := by
  refine hd_run (s := 4) (nv := 71) (pc := 6) (L := [none, none, none, none, some (.inr (.inr 69)), none, some (.inr (.inr 70)), none, none, none]) (S := []) (uh := hd_ov (iv_id 0 iv_B4) []) (ul := [.inl (.inr (.inr 69)), .inl (.inr (.inr 70))]) (f := true) (sp := [6]) (d0 := 0) (O := []) (T := []) (P := []) jm_ok210 (by decide +kernel) (by decide +kernel) hd F X1 X2 (fun F' hF hs => ?_)
  have b69 := hd_bl (F := F) (F' := F') (k := 69) (hF 69 (by decide))
  have b70 := hd_bl (F := F) (F' := F') (k := 70) (hF 70 (by decide))
  have hB' : iv_in F' iv_B4 := iv_in_eq hB (fun j hj => hF j (Nat.lt_of_lt_of_le hj (by decide +kernel)))
  refine ⟨fun _ h => absurd h List.not_mem_nil, ?_⟩
  refine k _ ?_ ?_ ?_
  · exact fun j hj _ => (hd_keep hB' (Nat.lt_of_lt_of_le hj (by decide +kernel)) (by simp)).trans (hF j (Nat.lt_of_lt_of_le hj (by decide)))
  · exact hd_gl (x := .inr (.inr 69)) (by decide +kernel) b69
  · exact hd_gl (x := .inr (.inr 70)) (by decide +kernel) b70
theorem zgd_0 {Ls : Nat} {xs : Nat → Int32} {d : Nat} {Q : Option Value → jm_h → Prop} (hd : 1 ≤ d) (F : Nat → sy_d) (X1 X2 : List jm_c) (hB : iv_in F iv_B4)
    (k0 : ∀ F1 : Nat → sy_d, iv_in F1 iv_B4 → (∀ j, j < 69 → j ∉ ([] : List Nat) → F1 j = F j) → sy_l F1 69 = sy_l F 69 → sy_l F1 70 = sy_l F 70 → hd_W Ls xs d jm_M210 Q (6, sy_dL F1 [none, none, none, none, some (.inr (.inr 69)), none, some (.inr (.inr 70)), none, none, none], sy_dS F1 [], sy_dh F1 X1 X2 (iv_H 4), 0, 0)) :
    hd_W Ls xs d jm_M210 Q (0, sy_dL F [some (.inr (.inr 69)), none, some (.inr (.inr 70)), none, none, none, none, none, none, none], sy_dS F [], sy_dh F X1 X2 (iv_H 4), 0, 0) := by
  exact zgd_0_p0 hd F X1 X2 hB  (fun F1 g e69 e70 => k0 F1 (nz_in hB [] (fun j hj hn => g j hj (by simp only [List.mem_cons, List.not_mem_nil, or_false, not_or] at hn; exact trivial)) (List.forall_mem_nil _)) (fun j hj hn => g j hj (by simp only [List.mem_cons, List.not_mem_nil, or_false, not_or] at hn; exact trivial)) ((zz_l e69).trans (rfl : sy_l F 69 = sy_l F 69)) ((zz_l e70).trans (rfl : sy_l F 70 = sy_l F 70)))
theorem zgd_6_p0 {Ls : Nat} {xs : Nat → Int32} {d : Nat} {Q : Option Value → jm_h → Prop} (hd : 1 ≤ d) (F : Nat → sy_d) (X1 X2 : List jm_c) (hB : iv_in F iv_B4)
    (h0 : (lg_cmp (sy_l F 70) ((0 : Int64))).toInt = 0)
    (k : ∀ F1 : Nat → sy_d, (∀ j, j < 69 → True → F1 j = F j) → Q (some (.long (sy_l F 69))) (sy_dh F1 X1 X2 (iv_H 4))) :
    hd_W Ls xs d jm_M210 Q (6, sy_dL F [none, none, none, none, some (.inr (.inr 69)), none, some (.inr (.inr 70)), none, none, none], sy_dS F [], sy_dh F X1 X2 (iv_H 4), 0, 0) := by
  refine hd_ret (s := 4) (nv := 71) (v := some (.inr (.inr 69))) (uh := hd_ov (iv_id 0 iv_B4) []) (f := true) (sp := [6]) (d0 := 0) (O := [true]) (T := [(17, [.inr (.inr 70), .inl (.long 0)], [])]) (P := [(0, .inr (.inl 71), .inl (.int 0))]) jm_ok210 (by decide +kernel) (by decide +kernel) hd F X1 X2 (fun F' hF hs => ?_)
  have b70 := hd_bl (F := F) (F' := F') (k := 70) (hF 70 (by decide))
  have t71 : sy_dv F' (.inr (.inl 71)) = .int (lg_cmp (sy_l F 70) ((0 : Int64))) := hd_oc (hs 0 _ rfl) b70 rfl rfl
  have b69 := hd_bl (F := F) (F' := F') (k := 69) (hF 69 (by decide))
  have hB' : iv_in F' iv_B4 := iv_in_eq hB (fun j hj => hF j (Nat.lt_of_lt_of_le hj (by decide +kernel)))
  have hk := k (sy_cm F' (hd_ov (iv_id 0 iv_B4) [] ++ [])) (fun j hj _ => (hd_keep hB' (Nat.lt_of_lt_of_le hj (by decide +kernel)) (by simp)).trans (hF j (Nat.lt_of_lt_of_le hj (by decide))))
  refine ⟨List.forall_mem_cons.mpr ⟨hd_p0 t71 rfl (by have hc : ((0) : Int32).toInt = 0 := (by decide); omega), fun _ h => absurd h List.not_mem_nil⟩, ?_⟩
  show Q (some (sy_dv F' (.inr (.inr 69)))) _
  rw [b69]
  exact hk
theorem zgd_6_p1 {Ls : Nat} {xs : Nat → Int32} {d : Nat} {Q : Option Value → jm_h → Prop} (hd : 1 ≤ d) (F : Nat → sy_d) (X1 X2 : List jm_c) (hB : iv_in F iv_B4)
    (h0 : (lg_cmp (sy_l F 70) ((0 : Int64))).toInt ≠ 0)
    (h1 : (sy_l F 70).toInt ≠ 0)
    (k : ∀ F1 : Nat → sy_d, (∀ j, j < 69 → True → F1 j = F j) → F1 69 = .inl (.long (sy_l F 70)) → F1 70 = .inl (.long ((sy_l F 69) - (sy_l F 69) / (sy_l F 70) * (sy_l F 70))) → hd_W Ls xs d jm_M210 Q (6, sy_dL F1 [none, none, none, none, some (.inr (.inr 69)), none, some (.inr (.inr 70)), none, none, none], sy_dS F1 [], sy_dh F1 X1 X2 (iv_H 4), 0, 0)) :
    hd_W Ls xs d jm_M210 Q (6, sy_dL F [none, none, none, none, some (.inr (.inr 69)), none, some (.inr (.inr 70)), none, none, none], sy_dS F [], sy_dh F X1 X2 (iv_H 4), 0, 0) := by
  refine hd_run (s := 4) (nv := 71) (pc := 6) (L := [none, none, none, none, some (.inr (.inr 69)), none, some (.inr (.inr 70)), none, none, none]) (S := []) (uh := hd_ov (iv_id 0 iv_B4) []) (ul := [.inl (.inr (.inr 70)), .inl (.inr (.inr 72))]) (f := true) (sp := [6]) (d0 := 0) (O := [false]) (T := [(17, [.inr (.inr 70), .inl (.long 0)], []), (16, [.inr (.inr 69), .inr (.inr 70)], [])]) (P := [(1, .inr (.inl 71), .inl (.int 0)), (1, .inr (.inr 70), .inl (.long 0))]) jm_ok210 (by decide +kernel) (by decide +kernel) hd F X1 X2 (fun F' hF hs => ?_)
  have b70 := hd_bl (F := F) (F' := F') (k := 70) (hF 70 (by decide))
  have t71 : sy_dv F' (.inr (.inl 71)) = .int (lg_cmp (sy_l F 70) ((0 : Int64))) := hd_oc (hs 0 _ rfl) b70 rfl rfl
  have b69 := hd_bl (F := F) (F' := F') (k := 69) (hF 69 (by decide))
  have t72 : sy_dv F' (.inr (.inr 72)) = .long ((sy_l F 69) - (sy_l F 69) / (sy_l F 70) * (sy_l F 70)) := hd_oL (hs 1 _ rfl) b69 b70 rfl
  have hB' : iv_in F' iv_B4 := iv_in_eq hB (fun j hj => hF j (Nat.lt_of_lt_of_le hj (by decide +kernel)))
  refine ⟨List.forall_mem_cons.mpr ⟨hd_p1 t71 rfl (by have hc : ((0) : Int32).toInt = 0 := (by decide); omega), List.forall_mem_cons.mpr ⟨hd_pL b70 rfl (by have hc : (0 : Int64).toInt = 0 := (by decide); rw [hc]; exact h1), fun _ h => absurd h List.not_mem_nil⟩⟩, ?_⟩
  refine k _ ?_ ?_ ?_
  · exact fun j hj _ => (hd_keep hB' (Nat.lt_of_lt_of_le hj (by decide +kernel)) (by simp)).trans (hF j (Nat.lt_of_lt_of_le hj (by decide)))
  · exact hd_gl (x := .inr (.inr 70)) (by decide +kernel) b70
  · exact hd_gl (x := .inr (.inr 72)) (by decide +kernel) t72
theorem zgd_6 {Ls : Nat} {xs : Nat → Int32} {d : Nat} {Q : Option Value → jm_h → Prop} (hd : 1 ≤ d) (F : Nat → sy_d) (X1 X2 : List jm_c) (hB : iv_in F iv_B4)
    (o0 : (lg_cmp (sy_l F 70) ((0 : Int64))).toInt ≠ 0 → ((sy_l F 70).toInt ≠ 0))
    (k0 : (lg_cmp (sy_l F 70) ((0 : Int64))).toInt = 0 → ∀ F1 : Nat → sy_d, iv_in F1 iv_B4 → (∀ j, j < 69 → j ∉ ([] : List Nat) → F1 j = F j) → Q (some (.long (sy_l F 69))) (sy_dh F1 X1 X2 (iv_H 4)))
    (k1 : (lg_cmp (sy_l F 70) ((0 : Int64))).toInt ≠ 0 → ∀ F1 : Nat → sy_d, iv_in F1 iv_B4 → (∀ j, j < 69 → j ∉ ([] : List Nat) → F1 j = F j) → sy_l F1 69 = sy_l F 70 → sy_l F1 70 = (sy_l F 69) - (sy_l F 69) / (sy_l F 70) * (sy_l F 70) → hd_W Ls xs d jm_M210 Q (6, sy_dL F1 [none, none, none, none, some (.inr (.inr 69)), none, some (.inr (.inr 70)), none, none, none], sy_dS F1 [], sy_dh F1 X1 X2 (iv_H 4), 0, 0)) :
    hd_W Ls xs d jm_M210 Q (6, sy_dL F [none, none, none, none, some (.inr (.inr 69)), none, some (.inr (.inr 70)), none, none, none], sy_dS F [], sy_dh F X1 X2 (iv_H 4), 0, 0) := by
  by_cases g0 : (lg_cmp (sy_l F 70) ((0 : Int64))).toInt = 0
  · have n71 : nzI (lg_cmp (sy_l F 70) ((0 : Int64))) ((lg_cmp (sy_l F 70) ((0 : Int64))).toInt) := congrArg Int32.toInt (rfl : lg_cmp (sy_l F 70) ((0 : Int64)) = lg_cmp (sy_l F 70) ((0 : Int64)))
    exact zgd_6_p0 hd F X1 X2 hB (by first | exact g0 | (simp only [nz_c]; exact g0) | (rw [(nzE n71)]; exact g0)) (fun F1 g  => by rw [(rfl : sy_l F 69 = sy_l F 69)]; exact k0 g0 F1 (nz_in hB [] (fun j hj hn => g j hj (by simp only [List.mem_cons, List.not_mem_nil, or_false, not_or] at hn; exact trivial)) (List.forall_mem_nil _)) (fun j hj hn => g j hj (by simp only [List.mem_cons, List.not_mem_nil, or_false, not_or] at hn; exact trivial)) )
  replace g0 : (lg_cmp (sy_l F 70) ((0 : Int64))).toInt ≠ 0 := by omega
  have n71 : nzI (lg_cmp (sy_l F 70) ((0 : Int64))) ((lg_cmp (sy_l F 70) ((0 : Int64))).toInt) := congrArg Int32.toInt (rfl : lg_cmp (sy_l F 70) ((0 : Int64)) = lg_cmp (sy_l F 70) ((0 : Int64)))
  exact zgd_6_p1 hd F X1 X2 hB (by first | exact g0 | (simp only [nz_c]; exact g0) | (rw [(nzE n71)]; exact g0)) (by exact (o0 g0)) (fun F1 g e69 e70 => k1 g0 F1 (nz_in hB [] (fun j hj hn => g j hj (by simp only [List.mem_cons, List.not_mem_nil, or_false, not_or] at hn; exact trivial)) (List.forall_mem_nil _)) (fun j hj hn => g j hj (by simp only [List.mem_cons, List.not_mem_nil, or_false, not_or] at hn; exact trivial)) ((zz_l e69).trans (rfl : sy_l F 70 = sy_l F 70)) ((zz_l e70).trans (rfl : (sy_l F 69) - (sy_l F 69) / (sy_l F 70) * (sy_l F 70) = (sy_l F 69) - (sy_l F 69) / (sy_l F 70) * (sy_l F 70))))
theorem zhg_0_p0 {Ls : Nat} {xs : Nat → Int32} {d : Nat} {Q : Option Value → jm_h → Prop} (hd : 3 ≤ d) (F : Nat → sy_d) (X1 X2 : List jm_c) (hB : iv_in F iv_B4)
    (h0 : 0 ≤ (sy_i F 11).toInt ∧ (sy_i F 11).toInt < 2)
    (h1 : (sy_i F 69).toInt < 0)
    (k : ∀ F1 : Nat → sy_d, (∀ j, j < 69 → True → F1 j = F j) → Q (some (.int (((-1) : Int32)))) (sy_dh F1 X1 X2 (iv_H 4))) :
    hd_W Ls xs d jm_M211 Q (0, sy_dL F [some (.inl (.ref 1000)), some (.inr (.inl 69)), some (.inr (.inl 70)), some (.inr (.inl 71)), none, none, none, none, none], sy_dS F [], sy_dh F X1 X2 (iv_H 4), 0, 0) := by
  refine hd_ret (s := 4) (nv := 72) (v := some (.inl (.int (-1)))) (uh := hd_ov (iv_id 0 iv_B4) []) (f := true) (sp := [34]) (d0 := 2) (O := [true]) (T := [(30, [.inr (.inl 11)], [.inr (.inl 31)]), (1, [.inr (.inl 72), .inl (.int 1)], [])]) (P := [(6, .inr (.inl 11), .inl (.ref 2)), (2, .inr (.inl 69), .inl (.int 0))]) jm_ok211 (by decide +kernel) (by decide +kernel) hd F X1 X2 (fun F' hF hs => ?_)
  have b11 := hd_b (F := F) (F' := F') (k := 11) (hF 11 (by decide))
  have b69 := hd_b (F := F) (F' := F') (k := 69) (hF 69 (by decide))
  have hB' : iv_in F' iv_B4 := iv_in_eq hB (fun j hj => hF j (Nat.lt_of_lt_of_le hj (by decide +kernel)))
  refine ⟨List.forall_mem_cons.mpr ⟨hd_pb b11 (by first | exact h0 | exact h0), List.forall_mem_cons.mpr ⟨hd_p2 b69 rfl (by have hc : ((0) : Int32).toInt = 0 := (by decide); omega), fun _ h => absurd h List.not_mem_nil⟩⟩, ?_⟩
  refine k _ ?_
  · exact fun j hj _ => (hd_keep hB' (Nat.lt_of_lt_of_le hj (by decide +kernel)) (by simp)).trans (hF j (Nat.lt_of_lt_of_le hj (by decide)))
theorem zhg_0_p1 {Ls : Nat} {xs : Nat → Int32} {d : Nat} {Q : Option Value → jm_h → Prop} (hd : 3 ≤ d) (F : Nat → sy_d) (X1 X2 : List jm_c) (hB : iv_in F iv_B4)
    (h0 : 0 ≤ (sy_i F 11).toInt ∧ (sy_i F 11).toInt < 2)
    (h1 : 0 ≤ (sy_i F 69).toInt)
    (h2 : (((sy_ai F 31).getD (sy_i F 11).toNatClampNeg 0) - ((1 : Int32))).toInt < (sy_i F 69).toInt)
    (k : ∀ F1 : Nat → sy_d, (∀ j, j < 69 → True → F1 j = F j) → Q (some (.int (((-1) : Int32)))) (sy_dh F1 X1 X2 (iv_H 4))) :
    hd_W Ls xs d jm_M211 Q (0, sy_dL F [some (.inl (.ref 1000)), some (.inr (.inl 69)), some (.inr (.inl 70)), some (.inr (.inl 71)), none, none, none, none, none], sy_dS F [], sy_dh F X1 X2 (iv_H 4), 0, 0) := by
  refine hd_ret (s := 4) (nv := 72) (v := some (.inl (.int (-1)))) (uh := hd_ov (iv_id 0 iv_B4) []) (f := true) (sp := [34]) (d0 := 2) (O := [false, true]) (T := [(30, [.inr (.inl 11)], [.inr (.inl 31)]), (1, [.inr (.inl 72), .inl (.int 1)], [])]) (P := [(6, .inr (.inl 11), .inl (.ref 2)), (3, .inr (.inl 69), .inl (.int 0)), (2, .inr (.inl 73), .inr (.inl 69))]) jm_ok211 (by decide +kernel) (by decide +kernel) hd F X1 X2 (fun F' hF hs => ?_)
  have b11 := hd_b (F := F) (F' := F') (k := 11) (hF 11 (by decide))
  have b69 := hd_b (F := F) (F' := F') (k := 69) (hF 69 (by decide))
  have a31 := hd_ba (F := F) (F' := F') (k := 31) (hF 31 (by decide))
  have t72 : sy_dv F' (.inr (.inl 72)) = .int ((sy_ai F 31).getD (sy_i F 11).toNatClampNeg 0) := hd_rd (hs 0 _ rfl) b11 a31
  have t73 : sy_dv F' (.inr (.inl 73)) = .int (((sy_ai F 31).getD (sy_i F 11).toNatClampNeg 0) - ((1 : Int32))) := hd_o (hs 1 _ rfl) t72 rfl rfl
  have hB' : iv_in F' iv_B4 := iv_in_eq hB (fun j hj => hF j (Nat.lt_of_lt_of_le hj (by decide +kernel)))
  refine ⟨List.forall_mem_cons.mpr ⟨hd_pb b11 (by first | exact h0 | exact h0), List.forall_mem_cons.mpr ⟨hd_p3 b69 rfl (by have hc : ((0) : Int32).toInt = 0 := (by decide); omega), List.forall_mem_cons.mpr ⟨hd_p2 t73 b69 h2, fun _ h => absurd h List.not_mem_nil⟩⟩⟩, ?_⟩
  refine k _ ?_
  · exact fun j hj _ => (hd_keep hB' (Nat.lt_of_lt_of_le hj (by decide +kernel)) (by simp)).trans (hF j (Nat.lt_of_lt_of_le hj (by decide)))
theorem zhg_0_p2 {Ls : Nat} {xs : Nat → Int32} {d : Nat} {Q : Option Value → jm_h → Prop} (hd : 3 ≤ d) (F : Nat → sy_d) (X1 X2 : List jm_c) (hB : iv_in F iv_B4)
    (h0 : 0 ≤ (sy_i F 11).toInt ∧ (sy_i F 11).toInt < 2)
    (h1 : 0 ≤ (sy_i F 69).toInt)
    (h2 : (sy_i F 69).toInt ≤ (((sy_ai F 31).getD (sy_i F 11).toNatClampNeg 0) - ((1 : Int32))).toInt)
    (h3 : (sy_i F 70).toInt < 1)
    (k : ∀ F1 : Nat → sy_d, (∀ j, j < 69 → True → F1 j = F j) → Q (some (.int (((-1) : Int32)))) (sy_dh F1 X1 X2 (iv_H 4))) :
    hd_W Ls xs d jm_M211 Q (0, sy_dL F [some (.inl (.ref 1000)), some (.inr (.inl 69)), some (.inr (.inl 70)), some (.inr (.inl 71)), none, none, none, none, none], sy_dS F [], sy_dh F X1 X2 (iv_H 4), 0, 0) := by
  refine hd_ret (s := 4) (nv := 72) (v := some (.inl (.int (-1)))) (uh := hd_ov (iv_id 0 iv_B4) []) (f := true) (sp := [34]) (d0 := 2) (O := [false, false, true]) (T := [(30, [.inr (.inl 11)], [.inr (.inl 31)]), (1, [.inr (.inl 72), .inl (.int 1)], [])]) (P := [(6, .inr (.inl 11), .inl (.ref 2)), (3, .inr (.inl 69), .inl (.int 0)), (3, .inr (.inl 73), .inr (.inl 69)), (2, .inr (.inl 70), .inl (.int 1))]) jm_ok211 (by decide +kernel) (by decide +kernel) hd F X1 X2 (fun F' hF hs => ?_)
  have b11 := hd_b (F := F) (F' := F') (k := 11) (hF 11 (by decide))
  have b69 := hd_b (F := F) (F' := F') (k := 69) (hF 69 (by decide))
  have a31 := hd_ba (F := F) (F' := F') (k := 31) (hF 31 (by decide))
  have t72 : sy_dv F' (.inr (.inl 72)) = .int ((sy_ai F 31).getD (sy_i F 11).toNatClampNeg 0) := hd_rd (hs 0 _ rfl) b11 a31
  have t73 : sy_dv F' (.inr (.inl 73)) = .int (((sy_ai F 31).getD (sy_i F 11).toNatClampNeg 0) - ((1 : Int32))) := hd_o (hs 1 _ rfl) t72 rfl rfl
  have b70 := hd_b (F := F) (F' := F') (k := 70) (hF 70 (by decide))
  have hB' : iv_in F' iv_B4 := iv_in_eq hB (fun j hj => hF j (Nat.lt_of_lt_of_le hj (by decide +kernel)))
  refine ⟨List.forall_mem_cons.mpr ⟨hd_pb b11 (by first | exact h0 | exact h0), List.forall_mem_cons.mpr ⟨hd_p3 b69 rfl (by have hc : ((0) : Int32).toInt = 0 := (by decide); omega), List.forall_mem_cons.mpr ⟨hd_p3 t73 b69 h2, List.forall_mem_cons.mpr ⟨hd_p2 b70 rfl (by have hc : ((1) : Int32).toInt = 1 := (by decide); omega), fun _ h => absurd h List.not_mem_nil⟩⟩⟩⟩, ?_⟩
  refine k _ ?_
  · exact fun j hj _ => (hd_keep hB' (Nat.lt_of_lt_of_le hj (by decide +kernel)) (by simp)).trans (hF j (Nat.lt_of_lt_of_le hj (by decide)))
theorem zhg_0_p3 {Ls : Nat} {xs : Nat → Int32} {d : Nat} {Q : Option Value → jm_h → Prop} (hd : 3 ≤ d) (F : Nat → sy_d) (X1 X2 : List jm_c) (hB : iv_in F iv_B4)
    (h0 : 0 ≤ (sy_i F 11).toInt ∧ (sy_i F 11).toInt < 2)
    (h1 : 0 ≤ (sy_i F 69).toInt)
    (h2 : (sy_i F 69).toInt ≤ (((sy_ai F 31).getD (sy_i F 11).toNatClampNeg 0) - ((1 : Int32))).toInt)
    (h3 : 1 ≤ (sy_i F 70).toInt)
    (h4 : 4 < (sy_i F 70).toInt)
    (k : ∀ F1 : Nat → sy_d, (∀ j, j < 69 → True → F1 j = F j) → Q (some (.int (((-1) : Int32)))) (sy_dh F1 X1 X2 (iv_H 4))) :
    hd_W Ls xs d jm_M211 Q (0, sy_dL F [some (.inl (.ref 1000)), some (.inr (.inl 69)), some (.inr (.inl 70)), some (.inr (.inl 71)), none, none, none, none, none], sy_dS F [], sy_dh F X1 X2 (iv_H 4), 0, 0) := by
  refine hd_ret (s := 4) (nv := 72) (v := some (.inl (.int (-1)))) (uh := hd_ov (iv_id 0 iv_B4) []) (f := true) (sp := [34]) (d0 := 2) (O := [false, false, false, true]) (T := [(30, [.inr (.inl 11)], [.inr (.inl 31)]), (1, [.inr (.inl 72), .inl (.int 1)], [])]) (P := [(6, .inr (.inl 11), .inl (.ref 2)), (3, .inr (.inl 69), .inl (.int 0)), (3, .inr (.inl 73), .inr (.inl 69)), (3, .inr (.inl 70), .inl (.int 1)), (2, .inl (.int 4), .inr (.inl 70))]) jm_ok211 (by decide +kernel) (by decide +kernel) hd F X1 X2 (fun F' hF hs => ?_)
  have b11 := hd_b (F := F) (F' := F') (k := 11) (hF 11 (by decide))
  have b69 := hd_b (F := F) (F' := F') (k := 69) (hF 69 (by decide))
  have a31 := hd_ba (F := F) (F' := F') (k := 31) (hF 31 (by decide))
  have t72 : sy_dv F' (.inr (.inl 72)) = .int ((sy_ai F 31).getD (sy_i F 11).toNatClampNeg 0) := hd_rd (hs 0 _ rfl) b11 a31
  have t73 : sy_dv F' (.inr (.inl 73)) = .int (((sy_ai F 31).getD (sy_i F 11).toNatClampNeg 0) - ((1 : Int32))) := hd_o (hs 1 _ rfl) t72 rfl rfl
  have b70 := hd_b (F := F) (F' := F') (k := 70) (hF 70 (by decide))
  have hB' : iv_in F' iv_B4 := iv_in_eq hB (fun j hj => hF j (Nat.lt_of_lt_of_le hj (by decide +kernel)))
  refine ⟨List.forall_mem_cons.mpr ⟨hd_pb b11 (by first | exact h0 | exact h0), List.forall_mem_cons.mpr ⟨hd_p3 b69 rfl (by have hc : ((0) : Int32).toInt = 0 := (by decide); omega), List.forall_mem_cons.mpr ⟨hd_p3 t73 b69 h2, List.forall_mem_cons.mpr ⟨hd_p3 b70 rfl (by have hc : ((1) : Int32).toInt = 1 := (by decide); omega), List.forall_mem_cons.mpr ⟨hd_p2 rfl b70 (by have hc : ((4) : Int32).toInt = 4 := (by decide); omega), fun _ h => absurd h List.not_mem_nil⟩⟩⟩⟩⟩, ?_⟩
  refine k _ ?_
  · exact fun j hj _ => (hd_keep hB' (Nat.lt_of_lt_of_le hj (by decide +kernel)) (by simp)).trans (hF j (Nat.lt_of_lt_of_le hj (by decide)))
theorem zhg_0_p4 {Ls : Nat} {xs : Nat → Int32} {d : Nat} {Q : Option Value → jm_h → Prop} (hd : 3 ≤ d) (F : Nat → sy_d) (X1 X2 : List jm_c) (hB : iv_in F iv_B4)
    (h0 : 0 ≤ (sy_i F 11).toInt ∧ (sy_i F 11).toInt < 2)
    (h1 : 0 ≤ (sy_i F 69).toInt)
    (h2 : (sy_i F 69).toInt ≤ (((sy_ai F 31).getD (sy_i F 11).toNatClampNeg 0) - ((1 : Int32))).toInt)
    (h3 : 1 ≤ (sy_i F 70).toInt)
    (h4 : (sy_i F 70).toInt ≤ 4)
    (h5 : 0 ≤ (((14 : Int32)) + (sy_i F 69)).toInt ∧ (((14 : Int32)) + (sy_i F 69)).toInt < 61)
    (h6 : ((sy_ai F 54).getD (((14 : Int32)) + (sy_i F 69)).toNatClampNeg 0).toInt = 0)
    (k : ∀ F1 : Nat → sy_d, (∀ j, j < 69 → True → F1 j = F j) → F1 69 = .inl (.int (sy_i F 69)) → F1 70 = .inl (.int (sy_i F 70)) → F1 71 = .inl (.int (sy_i F 71)) → hd_W Ls xs d jm_M211 Q (34, sy_dL F1 [some (.inl (.ref 1000)), some (.inr (.inl 69)), some (.inr (.inl 70)), some (.inr (.inl 71)), none, none, none, none, none], sy_dS F1 [.inl (.ref 1000)], sy_dh F1 X1 X2 (iv_H 4), 0, 0)) :
    hd_W Ls xs d jm_M211 Q (0, sy_dL F [some (.inl (.ref 1000)), some (.inr (.inl 69)), some (.inr (.inl 70)), some (.inr (.inl 71)), none, none, none, none, none], sy_dS F [], sy_dh F X1 X2 (iv_H 4), 0, 0) := by
  refine hd_run (s := 4) (nv := 72) (pc := 34) (L := [some (.inl (.ref 1000)), some (.inr (.inl 69)), some (.inr (.inl 70)), some (.inr (.inl 71)), none, none, none, none, none]) (S := [.inl (.ref 1000)]) (uh := hd_ov (iv_id 0 iv_B4) []) (ul := [.inl (.inr (.inl 69)), .inl (.inr (.inl 70)), .inl (.inr (.inl 71))]) (f := true) (sp := [34]) (d0 := 2) (O := [false, false, false, false, true]) (T := [(30, [.inr (.inl 11)], [.inr (.inl 31)]), (1, [.inr (.inl 72), .inl (.int 1)], []), (0, [.inl (.int 14), .inr (.inl 69)], []), (30, [.inr (.inl 74)], [.inr (.inl 54)])]) (P := [(6, .inr (.inl 11), .inl (.ref 2)), (3, .inr (.inl 69), .inl (.int 0)), (3, .inr (.inl 73), .inr (.inl 69)), (3, .inr (.inl 70), .inl (.int 1)), (3, .inl (.int 4), .inr (.inl 70)), (6, .inr (.inl 74), .inl (.ref 61)), (0, .inr (.inl 75), .inl (.int 0))]) jm_ok211 (by decide +kernel) (by decide +kernel) hd F X1 X2 (fun F' hF hs => ?_)
  have b11 := hd_b (F := F) (F' := F') (k := 11) (hF 11 (by decide))
  have b69 := hd_b (F := F) (F' := F') (k := 69) (hF 69 (by decide))
  have a31 := hd_ba (F := F) (F' := F') (k := 31) (hF 31 (by decide))
  have t72 : sy_dv F' (.inr (.inl 72)) = .int ((sy_ai F 31).getD (sy_i F 11).toNatClampNeg 0) := hd_rd (hs 0 _ rfl) b11 a31
  have t73 : sy_dv F' (.inr (.inl 73)) = .int (((sy_ai F 31).getD (sy_i F 11).toNatClampNeg 0) - ((1 : Int32))) := hd_o (hs 1 _ rfl) t72 rfl rfl
  have b70 := hd_b (F := F) (F' := F') (k := 70) (hF 70 (by decide))
  have t74 : sy_dv F' (.inr (.inl 74)) = .int (((14 : Int32)) + (sy_i F 69)) := hd_o (hs 2 _ rfl) rfl b69 rfl
  have a54 := hd_ba (F := F) (F' := F') (k := 54) (hF 54 (by decide))
  have t75 : sy_dv F' (.inr (.inl 75)) = .int ((sy_ai F 54).getD (((14 : Int32)) + (sy_i F 69)).toNatClampNeg 0) := hd_rd (hs 3 _ rfl) t74 a54
  have b71 := hd_b (F := F) (F' := F') (k := 71) (hF 71 (by decide))
  have hB' : iv_in F' iv_B4 := iv_in_eq hB (fun j hj => hF j (Nat.lt_of_lt_of_le hj (by decide +kernel)))
  refine ⟨List.forall_mem_cons.mpr ⟨hd_pb b11 (by first | exact h0 | exact h0), List.forall_mem_cons.mpr ⟨hd_p3 b69 rfl (by have hc : ((0) : Int32).toInt = 0 := (by decide); omega), List.forall_mem_cons.mpr ⟨hd_p3 t73 b69 h2, List.forall_mem_cons.mpr ⟨hd_p3 b70 rfl (by have hc : ((1) : Int32).toInt = 1 := (by decide); omega), List.forall_mem_cons.mpr ⟨hd_p3 rfl b70 (by have hc : ((4) : Int32).toInt = 4 := (by decide); omega), List.forall_mem_cons.mpr ⟨hd_pb t74 (by first | exact h5 | exact h5), List.forall_mem_cons.mpr ⟨hd_p0 t75 rfl (by have hc : ((0) : Int32).toInt = 0 := (by decide); omega), fun _ h => absurd h List.not_mem_nil⟩⟩⟩⟩⟩⟩⟩, ?_⟩
  refine k _ ?_ ?_ ?_ ?_
  · exact fun j hj _ => (hd_keep hB' (Nat.lt_of_lt_of_le hj (by decide +kernel)) (by simp)).trans (hF j (Nat.lt_of_lt_of_le hj (by decide)))
  · exact hd_gi (x := .inr (.inl 69)) (by decide +kernel) b69
  · exact hd_gi (x := .inr (.inl 70)) (by decide +kernel) b70
  · exact hd_gi (x := .inr (.inl 71)) (by decide +kernel) b71
theorem zhg_0_p5 {Ls : Nat} {xs : Nat → Int32} {d : Nat} {Q : Option Value → jm_h → Prop} (hd : 3 ≤ d) (F : Nat → sy_d) (X1 X2 : List jm_c) (hB : iv_in F iv_B4)
    (h0 : 0 ≤ (sy_i F 11).toInt ∧ (sy_i F 11).toInt < 2)
    (h1 : 0 ≤ (sy_i F 69).toInt)
    (h2 : (sy_i F 69).toInt ≤ (((sy_ai F 31).getD (sy_i F 11).toNatClampNeg 0) - ((1 : Int32))).toInt)
    (h3 : 1 ≤ (sy_i F 70).toInt)
    (h4 : (sy_i F 70).toInt ≤ 4)
    (h5 : 0 ≤ (((14 : Int32)) + (sy_i F 69)).toInt ∧ (((14 : Int32)) + (sy_i F 69)).toInt < 61)
    (h6 : ((sy_ai F 54).getD (((14 : Int32)) + (sy_i F 69)).toNatClampNeg 0).toInt ≠ 0)
    (k : ∀ F1 : Nat → sy_d, (∀ j, j < 69 → True → F1 j = F j) → Q (some (.int (((-2) : Int32)))) (sy_dh F1 X1 X2 (iv_H 4))) :
    hd_W Ls xs d jm_M211 Q (0, sy_dL F [some (.inl (.ref 1000)), some (.inr (.inl 69)), some (.inr (.inl 70)), some (.inr (.inl 71)), none, none, none, none, none], sy_dS F [], sy_dh F X1 X2 (iv_H 4), 0, 0) := by
  refine hd_ret (s := 4) (nv := 72) (v := some (.inl (.int (-2)))) (uh := hd_ov (iv_id 0 iv_B4) []) (f := true) (sp := [34]) (d0 := 2) (O := [false, false, false, false, false]) (T := [(30, [.inr (.inl 11)], [.inr (.inl 31)]), (1, [.inr (.inl 72), .inl (.int 1)], []), (0, [.inl (.int 14), .inr (.inl 69)], []), (30, [.inr (.inl 74)], [.inr (.inl 54)])]) (P := [(6, .inr (.inl 11), .inl (.ref 2)), (3, .inr (.inl 69), .inl (.int 0)), (3, .inr (.inl 73), .inr (.inl 69)), (3, .inr (.inl 70), .inl (.int 1)), (3, .inl (.int 4), .inr (.inl 70)), (6, .inr (.inl 74), .inl (.ref 61)), (1, .inr (.inl 75), .inl (.int 0))]) jm_ok211 (by decide +kernel) (by decide +kernel) hd F X1 X2 (fun F' hF hs => ?_)
  have b11 := hd_b (F := F) (F' := F') (k := 11) (hF 11 (by decide))
  have b69 := hd_b (F := F) (F' := F') (k := 69) (hF 69 (by decide))
  have a31 := hd_ba (F := F) (F' := F') (k := 31) (hF 31 (by decide))
  have t72 : sy_dv F' (.inr (.inl 72)) = .int ((sy_ai F 31).getD (sy_i F 11).toNatClampNeg 0) := hd_rd (hs 0 _ rfl) b11 a31
  have t73 : sy_dv F' (.inr (.inl 73)) = .int (((sy_ai F 31).getD (sy_i F 11).toNatClampNeg 0) - ((1 : Int32))) := hd_o (hs 1 _ rfl) t72 rfl rfl
  have b70 := hd_b (F := F) (F' := F') (k := 70) (hF 70 (by decide))
  have t74 : sy_dv F' (.inr (.inl 74)) = .int (((14 : Int32)) + (sy_i F 69)) := hd_o (hs 2 _ rfl) rfl b69 rfl
  have a54 := hd_ba (F := F) (F' := F') (k := 54) (hF 54 (by decide))
  have t75 : sy_dv F' (.inr (.inl 75)) = .int ((sy_ai F 54).getD (((14 : Int32)) + (sy_i F 69)).toNatClampNeg 0) := hd_rd (hs 3 _ rfl) t74 a54
  have hB' : iv_in F' iv_B4 := iv_in_eq hB (fun j hj => hF j (Nat.lt_of_lt_of_le hj (by decide +kernel)))
  refine ⟨List.forall_mem_cons.mpr ⟨hd_pb b11 (by first | exact h0 | exact h0), List.forall_mem_cons.mpr ⟨hd_p3 b69 rfl (by have hc : ((0) : Int32).toInt = 0 := (by decide); omega), List.forall_mem_cons.mpr ⟨hd_p3 t73 b69 h2, List.forall_mem_cons.mpr ⟨hd_p3 b70 rfl (by have hc : ((1) : Int32).toInt = 1 := (by decide); omega), List.forall_mem_cons.mpr ⟨hd_p3 rfl b70 (by have hc : ((4) : Int32).toInt = 4 := (by decide); omega), List.forall_mem_cons.mpr ⟨hd_pb t74 (by first | exact h5 | exact h5), List.forall_mem_cons.mpr ⟨hd_p1 t75 rfl (by have hc : ((0) : Int32).toInt = 0 := (by decide); omega), fun _ h => absurd h List.not_mem_nil⟩⟩⟩⟩⟩⟩⟩, ?_⟩
  refine k _ ?_
  · exact fun j hj _ => (hd_keep hB' (Nat.lt_of_lt_of_le hj (by decide +kernel)) (by simp)).trans (hF j (Nat.lt_of_lt_of_le hj (by decide)))
theorem zhg_0 {Ls : Nat} {xs : Nat → Int32} {d : Nat} {Q : Option Value → jm_h → Prop} (hd : 3 ≤ d) (F : Nat → sy_d) (X1 X2 : List jm_c) (hB : iv_in F iv_B4)
    (k0 : (sy_i F 69).toInt < 0 → ∀ F1 : Nat → sy_d, iv_in F1 iv_B4 → (∀ j, j < 69 → j ∉ ([] : List Nat) → F1 j = F j) → Q (some (.int (((-1) : Int32)))) (sy_dh F1 X1 X2 (iv_H 4)))
    (k1 : 0 ≤ (sy_i F 69).toInt → (((sy_ai F 31).getD ((sy_i F 11).toInt).toNat 0).toInt - 1) < (sy_i F 69).toInt → ∀ F1 : Nat → sy_d, iv_in F1 iv_B4 → (∀ j, j < 69 → j ∉ ([] : List Nat) → F1 j = F j) → Q (some (.int (((-1) : Int32)))) (sy_dh F1 X1 X2 (iv_H 4)))
    (k2 : 0 ≤ (sy_i F 69).toInt → (sy_i F 69).toInt ≤ (((sy_ai F 31).getD ((sy_i F 11).toInt).toNat 0).toInt - 1) → (sy_i F 70).toInt < 1 → ∀ F1 : Nat → sy_d, iv_in F1 iv_B4 → (∀ j, j < 69 → j ∉ ([] : List Nat) → F1 j = F j) → Q (some (.int (((-1) : Int32)))) (sy_dh F1 X1 X2 (iv_H 4)))
    (k3 : 0 ≤ (sy_i F 69).toInt → (sy_i F 69).toInt ≤ (((sy_ai F 31).getD ((sy_i F 11).toInt).toNat 0).toInt - 1) → 1 ≤ (sy_i F 70).toInt → 4 < (sy_i F 70).toInt → ∀ F1 : Nat → sy_d, iv_in F1 iv_B4 → (∀ j, j < 69 → j ∉ ([] : List Nat) → F1 j = F j) → Q (some (.int (((-1) : Int32)))) (sy_dh F1 X1 X2 (iv_H 4)))
    (k4 : 0 ≤ (sy_i F 69).toInt → (sy_i F 69).toInt ≤ (((sy_ai F 31).getD ((sy_i F 11).toInt).toNat 0).toInt - 1) → 1 ≤ (sy_i F 70).toInt → (sy_i F 70).toInt ≤ 4 → ((sy_ai F 54).getD ((14 + (sy_i F 69).toInt)).toNat 0).toInt = 0 → ∀ F1 : Nat → sy_d, iv_in F1 iv_B4 → (∀ j, j < 69 → j ∉ ([] : List Nat) → F1 j = F j) → (sy_i F1 69).toInt = (sy_i F 69).toInt → sy_i F1 69 = sy_i F 69 → (sy_i F1 70).toInt = (sy_i F 70).toInt → sy_i F1 70 = sy_i F 70 → (sy_i F1 71).toInt = (sy_i F 71).toInt → sy_i F1 71 = sy_i F 71 → hd_W Ls xs d jm_M211 Q (34, sy_dL F1 [some (.inl (.ref 1000)), some (.inr (.inl 69)), some (.inr (.inl 70)), some (.inr (.inl 71)), none, none, none, none, none], sy_dS F1 [.inl (.ref 1000)], sy_dh F1 X1 X2 (iv_H 4), 0, 0))
    (k5 : 0 ≤ (sy_i F 69).toInt → (sy_i F 69).toInt ≤ (((sy_ai F 31).getD ((sy_i F 11).toInt).toNat 0).toInt - 1) → 1 ≤ (sy_i F 70).toInt → (sy_i F 70).toInt ≤ 4 → ((sy_ai F 54).getD ((14 + (sy_i F 69).toInt)).toNat 0).toInt ≠ 0 → ∀ F1 : Nat → sy_d, iv_in F1 iv_B4 → (∀ j, j < 69 → j ∉ ([] : List Nat) → F1 j = F j) → Q (some (.int (((-2) : Int32)))) (sy_dh F1 X1 X2 (iv_H 4))) :
    hd_W Ls xs d jm_M211 Q (0, sy_dL F [some (.inl (.ref 1000)), some (.inr (.inl 69)), some (.inr (.inl 70)), some (.inr (.inl 71)), none, none, none, none, none], sy_dS F [], sy_dh F X1 X2 (iv_H 4), 0, 0) := by
  by_cases g0 : (sy_i F 69).toInt < 0
  · have c11 := nz_bx hB (k := 11) (lo := 0) (hi := 1) rfl
    exact zhg_0_p0 hd F X1 X2 hB (by first | exact ⟨by omega, by omega⟩ | (simp only [nz_c]; exact ⟨by omega, by omega⟩)) (by first | exact g0 | (simp only [nz_c]; exact g0)) (fun F1 g  => k0 g0 F1 (nz_in hB [] (fun j hj hn => g j hj (by simp only [List.mem_cons, List.not_mem_nil, or_false, not_or] at hn; exact trivial)) (List.forall_mem_nil _)) (fun j hj hn => g j hj (by simp only [List.mem_cons, List.not_mem_nil, or_false, not_or] at hn; exact trivial)) )
  replace g0 : 0 ≤ (sy_i F 69).toInt := by omega
  by_cases g1 : (((sy_ai F 31).getD ((sy_i F 11).toInt).toNat 0).toInt - 1) < (sy_i F 69).toInt
  · have c11 := nz_bx hB (k := 11) (lo := 0) (hi := 1) rfl
    have q72 : (sy_ai F 31).getD (sy_i F 11).toNatClampNeg 0 = (sy_ai F 31).getD ((sy_i F 11).toInt).toNat 0 := by simp only [nz_c]
    have n72 : nzI ((sy_ai F 31).getD (sy_i F 11).toNatClampNeg 0) (((sy_ai F 31).getD ((sy_i F 11).toInt).toNat 0).toInt) := congrArg Int32.toInt q72
    have r72 := nz_ba hB (k := 31) (lo := 0) (hi := 7) rfl ((sy_i F 11).toInt).toNat
    have n73 : nzI (((sy_ai F 31).getD (sy_i F 11).toNatClampNeg 0) - ((1 : Int32))) ((((sy_ai F 31).getD ((sy_i F 11).toInt).toNat 0).toInt - 1)) := nz_sub (nzE n72) (by decide : ((1 : Int32)).toInt = 1) (by omega) (by omega)
    have q73 : ((sy_ai F 31).getD (sy_i F 11).toNatClampNeg 0) - ((1 : Int32)) = ((sy_ai F 31).getD ((sy_i F 11).toInt).toNat 0) - ((1 : Int32)) := by simp only [nz_c, (nzE n73), (by decide : ((1 : Int32)).toInt = 1)]
    have m73 : nzI (((sy_ai F 31).getD ((sy_i F 11).toInt).toNat 0) - ((1 : Int32))) ((((sy_ai F 31).getD ((sy_i F 11).toInt).toNat 0).toInt - 1)) := (congrArg Int32.toInt q73.symm).trans (nzE n73)
    exact zhg_0_p1 hd F X1 X2 hB (by first | exact ⟨by omega, by omega⟩ | (simp only [nz_c]; exact ⟨by omega, by omega⟩)) (by first | exact g0 | (simp only [nz_c]; exact g0)) (by first | (simp only [nz_c, (nzE n73), (nzE m73)]; exact g1) | exact g1 | (rw [(nzE n73)]; exact g1)) (fun F1 g  => k1 g0 g1 F1 (nz_in hB [] (fun j hj hn => g j hj (by simp only [List.mem_cons, List.not_mem_nil, or_false, not_or] at hn; exact trivial)) (List.forall_mem_nil _)) (fun j hj hn => g j hj (by simp only [List.mem_cons, List.not_mem_nil, or_false, not_or] at hn; exact trivial)) )
  replace g1 : (sy_i F 69).toInt ≤ (((sy_ai F 31).getD ((sy_i F 11).toInt).toNat 0).toInt - 1) := by omega
  by_cases g2 : (sy_i F 70).toInt < 1
  · have c11 := nz_bx hB (k := 11) (lo := 0) (hi := 1) rfl
    have q72 : (sy_ai F 31).getD (sy_i F 11).toNatClampNeg 0 = (sy_ai F 31).getD ((sy_i F 11).toInt).toNat 0 := by simp only [nz_c]
    have n72 : nzI ((sy_ai F 31).getD (sy_i F 11).toNatClampNeg 0) (((sy_ai F 31).getD ((sy_i F 11).toInt).toNat 0).toInt) := congrArg Int32.toInt q72
    have r72 := nz_ba hB (k := 31) (lo := 0) (hi := 7) rfl ((sy_i F 11).toInt).toNat
    have n73 : nzI (((sy_ai F 31).getD (sy_i F 11).toNatClampNeg 0) - ((1 : Int32))) ((((sy_ai F 31).getD ((sy_i F 11).toInt).toNat 0).toInt - 1)) := nz_sub (nzE n72) (by decide : ((1 : Int32)).toInt = 1) (by omega) (by omega)
    have q73 : ((sy_ai F 31).getD (sy_i F 11).toNatClampNeg 0) - ((1 : Int32)) = ((sy_ai F 31).getD ((sy_i F 11).toInt).toNat 0) - ((1 : Int32)) := by simp only [nz_c, (nzE n73), (by decide : ((1 : Int32)).toInt = 1)]
    have m73 : nzI (((sy_ai F 31).getD ((sy_i F 11).toInt).toNat 0) - ((1 : Int32))) ((((sy_ai F 31).getD ((sy_i F 11).toInt).toNat 0).toInt - 1)) := (congrArg Int32.toInt q73.symm).trans (nzE n73)
    exact zhg_0_p2 hd F X1 X2 hB (by first | exact ⟨by omega, by omega⟩ | (simp only [nz_c]; exact ⟨by omega, by omega⟩)) (by first | exact g0 | (simp only [nz_c]; exact g0)) (by first | (simp only [nz_c, (nzE n73), (nzE m73)]; exact g1) | exact g1 | (rw [(nzE n73)]; exact g1)) (by first | exact g2 | (simp only [nz_c]; exact g2)) (fun F1 g  => k2 g0 g1 g2 F1 (nz_in hB [] (fun j hj hn => g j hj (by simp only [List.mem_cons, List.not_mem_nil, or_false, not_or] at hn; exact trivial)) (List.forall_mem_nil _)) (fun j hj hn => g j hj (by simp only [List.mem_cons, List.not_mem_nil, or_false, not_or] at hn; exact trivial)) )
  replace g2 : 1 ≤ (sy_i F 70).toInt := by omega
  by_cases g3 : 4 < (sy_i F 70).toInt
  · have c11 := nz_bx hB (k := 11) (lo := 0) (hi := 1) rfl
    have q72 : (sy_ai F 31).getD (sy_i F 11).toNatClampNeg 0 = (sy_ai F 31).getD ((sy_i F 11).toInt).toNat 0 := by simp only [nz_c]
    have n72 : nzI ((sy_ai F 31).getD (sy_i F 11).toNatClampNeg 0) (((sy_ai F 31).getD ((sy_i F 11).toInt).toNat 0).toInt) := congrArg Int32.toInt q72
    have r72 := nz_ba hB (k := 31) (lo := 0) (hi := 7) rfl ((sy_i F 11).toInt).toNat
    have n73 : nzI (((sy_ai F 31).getD (sy_i F 11).toNatClampNeg 0) - ((1 : Int32))) ((((sy_ai F 31).getD ((sy_i F 11).toInt).toNat 0).toInt - 1)) := nz_sub (nzE n72) (by decide : ((1 : Int32)).toInt = 1) (by omega) (by omega)
    have q73 : ((sy_ai F 31).getD (sy_i F 11).toNatClampNeg 0) - ((1 : Int32)) = ((sy_ai F 31).getD ((sy_i F 11).toInt).toNat 0) - ((1 : Int32)) := by simp only [nz_c, (nzE n73), (by decide : ((1 : Int32)).toInt = 1)]
    have m73 : nzI (((sy_ai F 31).getD ((sy_i F 11).toInt).toNat 0) - ((1 : Int32))) ((((sy_ai F 31).getD ((sy_i F 11).toInt).toNat 0).toInt - 1)) := (congrArg Int32.toInt q73.symm).trans (nzE n73)
    exact zhg_0_p3 hd F X1 X2 hB (by first | exact ⟨by omega, by omega⟩ | (simp only [nz_c]; exact ⟨by omega, by omega⟩)) (by first | exact g0 | (simp only [nz_c]; exact g0)) (by first | (simp only [nz_c, (nzE n73), (nzE m73)]; exact g1) | exact g1 | (rw [(nzE n73)]; exact g1)) (by first | exact g2 | (simp only [nz_c]; exact g2)) (by first | exact g3 | (simp only [nz_c]; exact g3)) (fun F1 g  => k3 g0 g1 g2 g3 F1 (nz_in hB [] (fun j hj hn => g j hj (by simp only [List.mem_cons, List.not_mem_nil, or_false, not_or] at hn; exact trivial)) (List.forall_mem_nil _)) (fun j hj hn => g j hj (by simp only [List.mem_cons, List.not_mem_nil, or_false, not_or] at hn; exact trivial)) )
  replace g3 : (sy_i F 70).toInt ≤ 4 := by omega
  by_cases g4 : ((sy_ai F 54).getD ((14 + (sy_i F 69).toInt)).toNat 0).toInt = 0
  · have c11 := nz_bx hB (k := 11) (lo := 0) (hi := 1) rfl
    have q72 : (sy_ai F 31).getD (sy_i F 11).toNatClampNeg 0 = (sy_ai F 31).getD ((sy_i F 11).toInt).toNat 0 := by simp only [nz_c]
    have n72 : nzI ((sy_ai F 31).getD (sy_i F 11).toNatClampNeg 0) (((sy_ai F 31).getD ((sy_i F 11).toInt).toNat 0).toInt) := congrArg Int32.toInt q72
    have r72 := nz_ba hB (k := 31) (lo := 0) (hi := 7) rfl ((sy_i F 11).toInt).toNat
    have n73 : nzI (((sy_ai F 31).getD (sy_i F 11).toNatClampNeg 0) - ((1 : Int32))) ((((sy_ai F 31).getD ((sy_i F 11).toInt).toNat 0).toInt - 1)) := nz_sub (nzE n72) (by decide : ((1 : Int32)).toInt = 1) (by omega) (by omega)
    have n74 : nzI (((14 : Int32)) + (sy_i F 69)) ((14 + (sy_i F 69).toInt)) := nz_add (by decide : ((14 : Int32)).toInt = 14) (rfl : (sy_i F 69).toInt = (sy_i F 69).toInt) (by omega) (by omega)
    have q75 : (sy_ai F 54).getD (((14 : Int32)) + (sy_i F 69)).toNatClampNeg 0 = (sy_ai F 54).getD ((14 + (sy_i F 69).toInt)).toNat 0 := by simp only [nz_c, (nzE n74), (by decide : ((14 : Int32)).toInt = 14)]
    have n75 : nzI ((sy_ai F 54).getD (((14 : Int32)) + (sy_i F 69)).toNatClampNeg 0) (((sy_ai F 54).getD ((14 + (sy_i F 69).toInt)).toNat 0).toInt) := congrArg Int32.toInt q75
    have q73 : ((sy_ai F 31).getD (sy_i F 11).toNatClampNeg 0) - ((1 : Int32)) = ((sy_ai F 31).getD ((sy_i F 11).toInt).toNat 0) - ((1 : Int32)) := by simp only [nz_c, (nzE n73), (by decide : ((1 : Int32)).toInt = 1)]
    have m73 : nzI (((sy_ai F 31).getD ((sy_i F 11).toInt).toNat 0) - ((1 : Int32))) ((((sy_ai F 31).getD ((sy_i F 11).toInt).toNat 0).toInt - 1)) := (congrArg Int32.toInt q73.symm).trans (nzE n73)
    exact zhg_0_p4 hd F X1 X2 hB (by first | exact ⟨by omega, by omega⟩ | (simp only [nz_c]; exact ⟨by omega, by omega⟩)) (by first | exact g0 | (simp only [nz_c]; exact g0)) (by first | (simp only [nz_c, (nzE n73), (nzE m73)]; exact g1) | exact g1 | (rw [(nzE n73)]; exact g1)) (by first | exact g2 | (simp only [nz_c]; exact g2)) (by first | exact g3 | (simp only [nz_c]; exact g3)) (by first | (simp only [nz_c, (nzE n74)]; exact ⟨by omega, by omega⟩) | exact ⟨by omega, by omega⟩ | (rw [(nzE n74)]; exact ⟨by omega, by omega⟩)) (by first | (simp only [nz_c, (nzE n74)]; exact g4) | exact g4 | (rw [(nzE n75)]; exact g4)) (fun F1 g e69 e70 e71 => k4 g0 g1 g2 g3 g4 F1 (nz_in hB [] (fun j hj hn => g j hj (by simp only [List.mem_cons, List.not_mem_nil, or_false, not_or] at hn; exact trivial)) (List.forall_mem_nil _)) (fun j hj hn => g j hj (by simp only [List.mem_cons, List.not_mem_nil, or_false, not_or] at hn; exact trivial)) ((congrArg Int32.toInt (zz_i e69)).trans (rfl : (sy_i F 69).toInt = (sy_i F 69).toInt)) ((zz_i e69).trans (rfl : sy_i F 69 = sy_i F 69)) ((congrArg Int32.toInt (zz_i e70)).trans (rfl : (sy_i F 70).toInt = (sy_i F 70).toInt)) ((zz_i e70).trans (rfl : sy_i F 70 = sy_i F 70)) ((congrArg Int32.toInt (zz_i e71)).trans (rfl : (sy_i F 71).toInt = (sy_i F 71).toInt)) ((zz_i e71).trans (rfl : sy_i F 71 = sy_i F 71)))
  replace g4 : ((sy_ai F 54).getD ((14 + (sy_i F 69).toInt)).toNat 0).toInt ≠ 0 := by omega
  have c11 := nz_bx hB (k := 11) (lo := 0) (hi := 1) rfl
  have q72 : (sy_ai F 31).getD (sy_i F 11).toNatClampNeg 0 = (sy_ai F 31).getD ((sy_i F 11).toInt).toNat 0 := by simp only [nz_c]
  have n72 : nzI ((sy_ai F 31).getD (sy_i F 11).toNatClampNeg 0) (((sy_ai F 31).getD ((sy_i F 11).toInt).toNat 0).toInt) := congrArg Int32.toInt q72
  have r72 := nz_ba hB (k := 31) (lo := 0) (hi := 7) rfl ((sy_i F 11).toInt).toNat
  have n73 : nzI (((sy_ai F 31).getD (sy_i F 11).toNatClampNeg 0) - ((1 : Int32))) ((((sy_ai F 31).getD ((sy_i F 11).toInt).toNat 0).toInt - 1)) := nz_sub (nzE n72) (by decide : ((1 : Int32)).toInt = 1) (by omega) (by omega)
  have n74 : nzI (((14 : Int32)) + (sy_i F 69)) ((14 + (sy_i F 69).toInt)) := nz_add (by decide : ((14 : Int32)).toInt = 14) (rfl : (sy_i F 69).toInt = (sy_i F 69).toInt) (by omega) (by omega)
  have q75 : (sy_ai F 54).getD (((14 : Int32)) + (sy_i F 69)).toNatClampNeg 0 = (sy_ai F 54).getD ((14 + (sy_i F 69).toInt)).toNat 0 := by simp only [nz_c, (nzE n74), (by decide : ((14 : Int32)).toInt = 14)]
  have n75 : nzI ((sy_ai F 54).getD (((14 : Int32)) + (sy_i F 69)).toNatClampNeg 0) (((sy_ai F 54).getD ((14 + (sy_i F 69).toInt)).toNat 0).toInt) := congrArg Int32.toInt q75
  have q73 : ((sy_ai F 31).getD (sy_i F 11).toNatClampNeg 0) - ((1 : Int32)) = ((sy_ai F 31).getD ((sy_i F 11).toInt).toNat 0) - ((1 : Int32)) := by simp only [nz_c, (nzE n73), (by decide : ((1 : Int32)).toInt = 1)]
  have m73 : nzI (((sy_ai F 31).getD ((sy_i F 11).toInt).toNat 0) - ((1 : Int32))) ((((sy_ai F 31).getD ((sy_i F 11).toInt).toNat 0).toInt - 1)) := (congrArg Int32.toInt q73.symm).trans (nzE n73)
  exact zhg_0_p5 hd F X1 X2 hB (by first | exact ⟨by omega, by omega⟩ | (simp only [nz_c]; exact ⟨by omega, by omega⟩)) (by first | exact g0 | (simp only [nz_c]; exact g0)) (by first | (simp only [nz_c, (nzE n73), (nzE m73)]; exact g1) | exact g1 | (rw [(nzE n73)]; exact g1)) (by first | exact g2 | (simp only [nz_c]; exact g2)) (by first | exact g3 | (simp only [nz_c]; exact g3)) (by first | (simp only [nz_c, (nzE n74)]; exact ⟨by omega, by omega⟩) | exact ⟨by omega, by omega⟩ | (rw [(nzE n74)]; exact ⟨by omega, by omega⟩)) (by first | (simp only [nz_c, (nzE n74)]; exact g4) | exact g4 | (rw [(nzE n75)]; exact g4)) (fun F1 g  => k5 g0 g1 g2 g3 g4 F1 (nz_in hB [] (fun j hj hn => g j hj (by simp only [List.mem_cons, List.not_mem_nil, or_false, not_or] at hn; exact trivial)) (List.forall_mem_nil _)) (fun j hj hn => g j hj (by simp only [List.mem_cons, List.not_mem_nil, or_false, not_or] at hn; exact trivial)) )
theorem zhg_37_p0 {Ls : Nat} {xs : Nat → Int32} {d : Nat} {Q : Option Value → jm_h → Prop} (hd : 1 ≤ d) (F : Nat → sy_d) (X1 X2 : List jm_c) (hB : iv_in F iv_B4)
    (h0 : 0 ≤ (((35 : Int32)) + (sy_i F 69)).toInt ∧ (((35 : Int32)) + (sy_i F 69)).toInt < 61)
    (k : ∀ F1 : Nat → sy_d, (∀ j, j < 69 → True → F1 j = F j) → F1 69 = .inl (.int (sy_i F 69)) → F1 70 = .inl (.int (sy_i F 70)) → F1 71 = .inl (.int (sy_i F 71)) → F1 72 = .inl (.int (sy_i F 69)) → F1 73 = .inl (.int (sy_i F 70)) → F1 74 = .inl (.int ((sy_ai F 55).getD (((35 : Int32)) + (sy_i F 69)).toNatClampNeg 0)) → hd_W Ls xs d jm_M211 Q (49, sy_dL F1 [some (.inl (.ref 1000)), some (.inr (.inl 69)), some (.inr (.inl 70)), some (.inr (.inl 71)), none, none, none, none, none], sy_dS F1 [.inr (.inl 74), .inr (.inl 73), .inr (.inl 72), .inl (.ref 1000)], sy_dh F1 X1 X2 (iv_H 4), 0, 0)) :
    hd_W Ls xs d jm_M211 Q (37, sy_dL F [some (.inl (.ref 1000)), some (.inr (.inl 69)), some (.inr (.inl 70)), some (.inr (.inl 71)), none, none, none, none, none], sy_dS F [], sy_dh F X1 X2 (iv_H 4), 0, 0) := by
  refine hd_run (s := 4) (nv := 72) (pc := 49) (L := [some (.inl (.ref 1000)), some (.inr (.inl 69)), some (.inr (.inl 70)), some (.inr (.inl 71)), none, none, none, none, none]) (S := [.inr (.inl 74), .inr (.inl 73), .inr (.inl 72), .inl (.ref 1000)]) (uh := hd_ov (iv_id 0 iv_B4) []) (ul := [.inl (.inr (.inl 69)), .inl (.inr (.inl 70)), .inl (.inr (.inl 71)), .inl (.inr (.inl 69)), .inl (.inr (.inl 70)), .inl (.inr (.inl 73))]) (f := false) (sp := [49]) (d0 := 0) (O := []) (T := [(0, [.inl (.int 35), .inr (.inl 69)], []), (30, [.inr (.inl 72)], [.inr (.inl 55)])]) (P := [(6, .inr (.inl 72), .inl (.ref 61))]) jm_ok211 (by decide +kernel) (by decide +kernel) hd F X1 X2 (fun F' hF hs => ?_)
  have b69 := hd_b (F := F) (F' := F') (k := 69) (hF 69 (by decide))
  have t72 : sy_dv F' (.inr (.inl 72)) = .int (((35 : Int32)) + (sy_i F 69)) := hd_o (hs 0 _ rfl) rfl b69 rfl
  have b70 := hd_b (F := F) (F' := F') (k := 70) (hF 70 (by decide))
  have b71 := hd_b (F := F) (F' := F') (k := 71) (hF 71 (by decide))
  have a55 := hd_ba (F := F) (F' := F') (k := 55) (hF 55 (by decide))
  have t73 : sy_dv F' (.inr (.inl 73)) = .int ((sy_ai F 55).getD (((35 : Int32)) + (sy_i F 69)).toNatClampNeg 0) := hd_rd (hs 1 _ rfl) t72 a55
  have hB' : iv_in F' iv_B4 := iv_in_eq hB (fun j hj => hF j (Nat.lt_of_lt_of_le hj (by decide +kernel)))
  refine ⟨List.forall_mem_cons.mpr ⟨hd_pb t72 (by first | exact h0 | exact h0), fun _ h => absurd h List.not_mem_nil⟩, ?_⟩
  refine k _ ?_ ?_ ?_ ?_ ?_ ?_ ?_
  · exact fun j hj _ => (hd_keep hB' (Nat.lt_of_lt_of_le hj (by decide +kernel)) (by simp)).trans (hF j (Nat.lt_of_lt_of_le hj (by decide)))
  · exact hd_gi (x := .inr (.inl 69)) (by decide +kernel) b69
  · exact hd_gi (x := .inr (.inl 70)) (by decide +kernel) b70
  · exact hd_gi (x := .inr (.inl 71)) (by decide +kernel) b71
  · exact hd_gi (x := .inr (.inl 69)) (by decide +kernel) b69
  · exact hd_gi (x := .inr (.inl 70)) (by decide +kernel) b70
  · exact hd_gi (x := .inr (.inl 73)) (by decide +kernel) t73
theorem zhg_37 {Ls : Nat} {xs : Nat → Int32} {d : Nat} {Q : Option Value → jm_h → Prop} (hd : 1 ≤ d) (F : Nat → sy_d) (X1 X2 : List jm_c) (hB : iv_in F iv_B4)
    (a69 : 0 ≤ (sy_i F 69).toInt ∧ (sy_i F 69).toInt ≤ 6)
    (k0 : ∀ F1 : Nat → sy_d, iv_in F1 iv_B4 → (∀ j, j < 69 → j ∉ ([] : List Nat) → F1 j = F j) → (sy_i F1 69).toInt = (sy_i F 69).toInt → sy_i F1 69 = sy_i F 69 → (sy_i F1 70).toInt = (sy_i F 70).toInt → sy_i F1 70 = sy_i F 70 → (sy_i F1 71).toInt = (sy_i F 71).toInt → sy_i F1 71 = sy_i F 71 → (sy_i F1 72).toInt = (sy_i F 69).toInt → sy_i F1 72 = sy_i F 69 → (sy_i F1 73).toInt = (sy_i F 70).toInt → sy_i F1 73 = sy_i F 70 → (sy_i F1 74).toInt = ((sy_ai F 55).getD ((35 + (sy_i F 69).toInt)).toNat 0).toInt → sy_i F1 74 = (sy_ai F 55).getD ((35 + (sy_i F 69).toInt)).toNat 0 → hd_W Ls xs d jm_M211 Q (49, sy_dL F1 [some (.inl (.ref 1000)), some (.inr (.inl 69)), some (.inr (.inl 70)), some (.inr (.inl 71)), none, none, none, none, none], sy_dS F1 [.inr (.inl 74), .inr (.inl 73), .inr (.inl 72), .inl (.ref 1000)], sy_dh F1 X1 X2 (iv_H 4), 0, 0)) :
    hd_W Ls xs d jm_M211 Q (37, sy_dL F [some (.inl (.ref 1000)), some (.inr (.inl 69)), some (.inr (.inl 70)), some (.inr (.inl 71)), none, none, none, none, none], sy_dS F [], sy_dh F X1 X2 (iv_H 4), 0, 0) := by
  have n72 : nzI (((35 : Int32)) + (sy_i F 69)) ((35 + (sy_i F 69).toInt)) := nz_add (by decide : ((35 : Int32)).toInt = 35) (rfl : (sy_i F 69).toInt = (sy_i F 69).toInt) (by omega) (by omega)
  have q73 : (sy_ai F 55).getD (((35 : Int32)) + (sy_i F 69)).toNatClampNeg 0 = (sy_ai F 55).getD ((35 + (sy_i F 69).toInt)).toNat 0 := by simp only [nz_c, (nzE n72), (by decide : ((35 : Int32)).toInt = 35)]
  have n73 : nzI ((sy_ai F 55).getD (((35 : Int32)) + (sy_i F 69)).toNatClampNeg 0) (((sy_ai F 55).getD ((35 + (sy_i F 69).toInt)).toNat 0).toInt) := congrArg Int32.toInt q73
  exact zhg_37_p0 hd F X1 X2 hB (by first | (simp only [nz_c, (nzE n72)]; exact ⟨by omega, by omega⟩) | exact ⟨by omega, by omega⟩ | (rw [(nzE n72)]; exact ⟨by omega, by omega⟩)) (fun F1 g e69 e70 e71 e72 e73 e74 => k0 F1 (nz_in hB [] (fun j hj hn => g j hj (by simp only [List.mem_cons, List.not_mem_nil, or_false, not_or] at hn; exact trivial)) (List.forall_mem_nil _)) (fun j hj hn => g j hj (by simp only [List.mem_cons, List.not_mem_nil, or_false, not_or] at hn; exact trivial)) ((congrArg Int32.toInt (zz_i e69)).trans (rfl : (sy_i F 69).toInt = (sy_i F 69).toInt)) ((zz_i e69).trans (rfl : sy_i F 69 = sy_i F 69)) ((congrArg Int32.toInt (zz_i e70)).trans (rfl : (sy_i F 70).toInt = (sy_i F 70).toInt)) ((zz_i e70).trans (rfl : sy_i F 70 = sy_i F 70)) ((congrArg Int32.toInt (zz_i e71)).trans (rfl : (sy_i F 71).toInt = (sy_i F 71).toInt)) ((zz_i e71).trans (rfl : sy_i F 71 = sy_i F 71)) ((congrArg Int32.toInt (zz_i e72)).trans (rfl : (sy_i F 69).toInt = (sy_i F 69).toInt)) ((zz_i e72).trans (rfl : sy_i F 69 = sy_i F 69)) ((congrArg Int32.toInt (zz_i e73)).trans (rfl : (sy_i F 70).toInt = (sy_i F 70).toInt)) ((zz_i e73).trans (rfl : sy_i F 70 = sy_i F 70)) ((congrArg Int32.toInt (zz_i e74)).trans (nzE n73)) ((zz_i e74).trans q73))
theorem zhg_52_p0 {Ls : Nat} {xs : Nat → Int32} {d : Nat} {Q : Option Value → jm_h → Prop} (hd : 1 ≤ d) (F : Nat → sy_d) (X1 X2 : List jm_c) (hB : iv_in F iv_B4)
    (k : ∀ F1 : Nat → sy_d, (∀ j, j < 69 → True → F1 j = F j) → F1 69 = .inl (.int (sy_i F 70)) → F1 70 = .inl (.int (sy_i F 71)) → F1 71 = .inl (.long ((1 : Int64))) → F1 72 = .inl (.int ((0 : Int32))) → hd_W Ls xs d jm_M211 Q (58, sy_dL F1 [some (.inl (.ref 1000)), none, some (.inr (.inl 69)), some (.inr (.inl 70)), some (.inr (.inr 71)), none, some (.inr (.inl 72)), none, none], sy_dS F1 [], sy_dh F1 X1 X2 (iv_H 4), 0, 0)) :
    hd_W Ls xs d jm_M211 Q (52, sy_dL F [some (.inl (.ref 1000)), some (.inr (.inl 69)), some (.inr (.inl 70)), some (.inr (.inl 71)), none, none, none, none, none], sy_dS F [], sy_dh F X1 X2 (iv_H 4), 0, 0) := by
  refine hd_run (s := 4) (nv := 72) (pc := 58) (L := [some (.inl (.ref 1000)), none, some (.inr (.inl 69)), some (.inr (.inl 70)), some (.inr (.inr 71)), none, some (.inr (.inl 72)), none, none]) (S := []) (uh := hd_ov (iv_id 0 iv_B4) []) (ul := [.inl (.inr (.inl 70)), .inl (.inr (.inl 71)), .inl (.inl (.long 1)), .inl (.inl (.int 0))]) (f := false) (sp := [58]) (d0 := 0) (O := []) (T := []) (P := []) jm_ok211 (by decide +kernel) (by decide +kernel) hd F X1 X2 (fun F' hF hs => ?_)
  have b70 := hd_b (F := F) (F' := F') (k := 70) (hF 70 (by decide))
  have b71 := hd_b (F := F) (F' := F') (k := 71) (hF 71 (by decide))
  have hB' : iv_in F' iv_B4 := iv_in_eq hB (fun j hj => hF j (Nat.lt_of_lt_of_le hj (by decide +kernel)))
  refine ⟨fun _ h => absurd h List.not_mem_nil, ?_⟩
  refine k _ ?_ ?_ ?_ ?_ ?_
  · exact fun j hj _ => (hd_keep hB' (Nat.lt_of_lt_of_le hj (by decide +kernel)) (by simp)).trans (hF j (Nat.lt_of_lt_of_le hj (by decide)))
  · exact hd_gi (x := .inr (.inl 70)) (by decide +kernel) b70
  · exact hd_gi (x := .inr (.inl 71)) (by decide +kernel) b71
  · exact hd_gl (x := .inl (.long 1)) (by decide +kernel) rfl
  · exact hd_gi (x := .inl (.int 0)) (by decide +kernel) rfl
theorem zhg_52 {Ls : Nat} {xs : Nat → Int32} {d : Nat} {Q : Option Value → jm_h → Prop} (hd : 1 ≤ d) (F : Nat → sy_d) (X1 X2 : List jm_c) (hB : iv_in F iv_B4)
    (k0 : ∀ F1 : Nat → sy_d, iv_in F1 iv_B4 → (∀ j, j < 69 → j ∉ ([] : List Nat) → F1 j = F j) → (sy_i F1 69).toInt = (sy_i F 70).toInt → sy_i F1 69 = sy_i F 70 → (sy_i F1 70).toInt = (sy_i F 71).toInt → sy_i F1 70 = sy_i F 71 → sy_l F1 71 = (1 : Int64) → (sy_i F1 72).toInt = 0 → sy_i F1 72 = (0 : Int32) → hd_W Ls xs d jm_M211 Q (58, sy_dL F1 [some (.inl (.ref 1000)), none, some (.inr (.inl 69)), some (.inr (.inl 70)), some (.inr (.inr 71)), none, some (.inr (.inl 72)), none, none], sy_dS F1 [], sy_dh F1 X1 X2 (iv_H 4), 0, 0)) :
    hd_W Ls xs d jm_M211 Q (52, sy_dL F [some (.inl (.ref 1000)), some (.inr (.inl 69)), some (.inr (.inl 70)), some (.inr (.inl 71)), none, none, none, none, none], sy_dS F [], sy_dh F X1 X2 (iv_H 4), 0, 0) := by
  exact zhg_52_p0 hd F X1 X2 hB  (fun F1 g e69 e70 e71 e72 => k0 F1 (nz_in hB [] (fun j hj hn => g j hj (by simp only [List.mem_cons, List.not_mem_nil, or_false, not_or] at hn; exact trivial)) (List.forall_mem_nil _)) (fun j hj hn => g j hj (by simp only [List.mem_cons, List.not_mem_nil, or_false, not_or] at hn; exact trivial)) ((congrArg Int32.toInt (zz_i e69)).trans (rfl : (sy_i F 70).toInt = (sy_i F 70).toInt)) ((zz_i e69).trans (rfl : sy_i F 70 = sy_i F 70)) ((congrArg Int32.toInt (zz_i e70)).trans (rfl : (sy_i F 71).toInt = (sy_i F 71).toInt)) ((zz_i e70).trans (rfl : sy_i F 71 = sy_i F 71)) ((zz_l e71).trans (rfl : (1 : Int64) = (1 : Int64))) ((congrArg Int32.toInt (zz_i e72)).trans (by decide : ((0 : Int32)).toInt = 0)) ((zz_i e72).trans (rfl : (0 : Int32) = (0 : Int32))))
theorem zhg_58_p0 {Ls : Nat} {xs : Nat → Int32} {d : Nat} {Q : Option Value → jm_h → Prop} (hd : 2 ≤ d) (F : Nat → sy_d) (X1 X2 : List jm_c) (hB : iv_in F iv_B4)
    (h0 : (sy_i F 69).toInt ≤ (sy_i F 72).toInt)
    (h1 : 0 < (sy_i F 69).toInt)
    (h2 : (sy_i F 69).toInt ≤ 1)
    (k : ∀ F1 : Nat → sy_d, (∀ j, j < 69 → True → F1 j = F j) → F1 69 = .inl (.int (sy_i F 69)) → F1 70 = .inl (.int (sy_i F 70)) → F1 71 = .inl (.long (sy_l F 71)) → F1 72 = .inl (.long (sy_l F 71)) → F1 73 = .inl (.long ((100 : Int64))) → hd_W Ls xs d jm_M211 Q (92, sy_dL F1 [some (.inl (.ref 1000)), none, some (.inr (.inl 69)), some (.inr (.inl 70)), some (.inr (.inr 71)), none, none, none, none], sy_dS F1 [.inr (.inr 73), .inr (.inr 72)], sy_dh F1 X1 X2 (iv_H 4), 0, 0)) :
    hd_W Ls xs d jm_M211 Q (58, sy_dL F [some (.inl (.ref 1000)), none, some (.inr (.inl 69)), some (.inr (.inl 70)), some (.inr (.inr 71)), none, some (.inr (.inl 72)), none, none], sy_dS F [], sy_dh F X1 X2 (iv_H 4), 0, 0) := by
  refine hd_run (s := 4) (nv := 73) (pc := 92) (L := [some (.inl (.ref 1000)), none, some (.inr (.inl 69)), some (.inr (.inl 70)), some (.inr (.inr 71)), none, none, none, none]) (S := [.inr (.inr 73), .inr (.inr 72)]) (uh := hd_ov (iv_id 0 iv_B4) []) (ul := [.inl (.inr (.inl 69)), .inl (.inr (.inl 70)), .inl (.inr (.inr 71)), .inl (.inr (.inr 71)), .inl (.inl (.long 100))]) (f := true) (sp := [58, 92]) (d0 := 1) (O := [true, false, true]) (T := []) (P := [(4, .inr (.inl 69), .inr (.inl 72)), (5, .inr (.inl 69), .inl (.int 0)), (4, .inr (.inl 69), .inl (.int 1))]) jm_ok211 (by decide +kernel) (by decide +kernel) hd F X1 X2 (fun F' hF hs => ?_)
  have b69 := hd_b (F := F) (F' := F') (k := 69) (hF 69 (by decide))
  have b72 := hd_b (F := F) (F' := F') (k := 72) (hF 72 (by decide))
  have b70 := hd_b (F := F) (F' := F') (k := 70) (hF 70 (by decide))
  have b71 := hd_bl (F := F) (F' := F') (k := 71) (hF 71 (by decide))
  have hB' : iv_in F' iv_B4 := iv_in_eq hB (fun j hj => hF j (Nat.lt_of_lt_of_le hj (by decide +kernel)))
  refine ⟨List.forall_mem_cons.mpr ⟨hd_p4 b69 b72 h0, List.forall_mem_cons.mpr ⟨hd_p5 b69 rfl (by have hc : ((0) : Int32).toInt = 0 := (by decide); omega), List.forall_mem_cons.mpr ⟨hd_p4 b69 rfl (by have hc : ((1) : Int32).toInt = 1 := (by decide); omega), fun _ h => absurd h List.not_mem_nil⟩⟩⟩, ?_⟩
  refine k _ ?_ ?_ ?_ ?_ ?_ ?_
  · exact fun j hj _ => (hd_keep hB' (Nat.lt_of_lt_of_le hj (by decide +kernel)) (by simp)).trans (hF j (Nat.lt_of_lt_of_le hj (by decide)))
  · exact hd_gi (x := .inr (.inl 69)) (by decide +kernel) b69
  · exact hd_gi (x := .inr (.inl 70)) (by decide +kernel) b70
  · exact hd_gl (x := .inr (.inr 71)) (by decide +kernel) b71
  · exact hd_gl (x := .inr (.inr 71)) (by decide +kernel) b71
  · exact hd_gl (x := .inl (.long 100)) (by decide +kernel) rfl
theorem zhg_58_p1 {Ls : Nat} {xs : Nat → Int32} {d : Nat} {Q : Option Value → jm_h → Prop} (hd : 2 ≤ d) (F : Nat → sy_d) (X1 X2 : List jm_c) (hB : iv_in F iv_B4)
    (h0 : (sy_i F 69).toInt ≤ (sy_i F 72).toInt)
    (h1 : 0 < (sy_i F 69).toInt)
    (h2 : 1 < (sy_i F 69).toInt)
    (h3 : (sy_i F 69).toInt ≤ 2)
    (k : ∀ F1 : Nat → sy_d, (∀ j, j < 69 → True → F1 j = F j) → F1 69 = .inl (.int (sy_i F 69)) → F1 70 = .inl (.int (sy_i F 70)) → F1 71 = .inl (.long (sy_l F 71)) → F1 72 = .inl (.long (sy_l F 71)) → F1 73 = .inl (.long ((10000 : Int64))) → hd_W Ls xs d jm_M211 Q (92, sy_dL F1 [some (.inl (.ref 1000)), none, some (.inr (.inl 69)), some (.inr (.inl 70)), some (.inr (.inr 71)), none, none, none, none], sy_dS F1 [.inr (.inr 73), .inr (.inr 72)], sy_dh F1 X1 X2 (iv_H 4), 0, 0)) :
    hd_W Ls xs d jm_M211 Q (58, sy_dL F [some (.inl (.ref 1000)), none, some (.inr (.inl 69)), some (.inr (.inl 70)), some (.inr (.inr 71)), none, some (.inr (.inl 72)), none, none], sy_dS F [], sy_dh F X1 X2 (iv_H 4), 0, 0) := by
  refine hd_run (s := 4) (nv := 73) (pc := 92) (L := [some (.inl (.ref 1000)), none, some (.inr (.inl 69)), some (.inr (.inl 70)), some (.inr (.inr 71)), none, none, none, none]) (S := [.inr (.inr 73), .inr (.inr 72)]) (uh := hd_ov (iv_id 0 iv_B4) []) (ul := [.inl (.inr (.inl 69)), .inl (.inr (.inl 70)), .inl (.inr (.inr 71)), .inl (.inr (.inr 71)), .inl (.inl (.long 10000))]) (f := true) (sp := [58, 92]) (d0 := 1) (O := [true, false, false, true]) (T := []) (P := [(4, .inr (.inl 69), .inr (.inl 72)), (5, .inr (.inl 69), .inl (.int 0)), (5, .inr (.inl 69), .inl (.int 1)), (4, .inr (.inl 69), .inl (.int 2))]) jm_ok211 (by decide +kernel) (by decide +kernel) hd F X1 X2 (fun F' hF hs => ?_)
  have b69 := hd_b (F := F) (F' := F') (k := 69) (hF 69 (by decide))
  have b72 := hd_b (F := F) (F' := F') (k := 72) (hF 72 (by decide))
  have b70 := hd_b (F := F) (F' := F') (k := 70) (hF 70 (by decide))
  have b71 := hd_bl (F := F) (F' := F') (k := 71) (hF 71 (by decide))
  have hB' : iv_in F' iv_B4 := iv_in_eq hB (fun j hj => hF j (Nat.lt_of_lt_of_le hj (by decide +kernel)))
  refine ⟨List.forall_mem_cons.mpr ⟨hd_p4 b69 b72 h0, List.forall_mem_cons.mpr ⟨hd_p5 b69 rfl (by have hc : ((0) : Int32).toInt = 0 := (by decide); omega), List.forall_mem_cons.mpr ⟨hd_p5 b69 rfl (by have hc : ((1) : Int32).toInt = 1 := (by decide); omega), List.forall_mem_cons.mpr ⟨hd_p4 b69 rfl (by have hc : ((2) : Int32).toInt = 2 := (by decide); omega), fun _ h => absurd h List.not_mem_nil⟩⟩⟩⟩, ?_⟩
  refine k _ ?_ ?_ ?_ ?_ ?_ ?_
  · exact fun j hj _ => (hd_keep hB' (Nat.lt_of_lt_of_le hj (by decide +kernel)) (by simp)).trans (hF j (Nat.lt_of_lt_of_le hj (by decide)))
  · exact hd_gi (x := .inr (.inl 69)) (by decide +kernel) b69
  · exact hd_gi (x := .inr (.inl 70)) (by decide +kernel) b70
  · exact hd_gl (x := .inr (.inr 71)) (by decide +kernel) b71
  · exact hd_gl (x := .inr (.inr 71)) (by decide +kernel) b71
  · exact hd_gl (x := .inl (.long 10000)) (by decide +kernel) rfl
theorem zhg_58_p2 {Ls : Nat} {xs : Nat → Int32} {d : Nat} {Q : Option Value → jm_h → Prop} (hd : 2 ≤ d) (F : Nat → sy_d) (X1 X2 : List jm_c) (hB : iv_in F iv_B4)
    (h0 : (sy_i F 69).toInt ≤ (sy_i F 72).toInt)
    (h1 : 0 < (sy_i F 69).toInt)
    (h2 : 1 < (sy_i F 69).toInt)
    (h3 : 2 < (sy_i F 69).toInt)
    (h4 : (sy_i F 69).toInt ≤ 3)
    (k : ∀ F1 : Nat → sy_d, (∀ j, j < 69 → True → F1 j = F j) → F1 69 = .inl (.int (sy_i F 69)) → F1 70 = .inl (.int (sy_i F 70)) → F1 71 = .inl (.long (sy_l F 71)) → F1 72 = .inl (.long (sy_l F 71)) → F1 73 = .inl (.long ((1000000 : Int64))) → hd_W Ls xs d jm_M211 Q (92, sy_dL F1 [some (.inl (.ref 1000)), none, some (.inr (.inl 69)), some (.inr (.inl 70)), some (.inr (.inr 71)), none, none, none, none], sy_dS F1 [.inr (.inr 73), .inr (.inr 72)], sy_dh F1 X1 X2 (iv_H 4), 0, 0)) :
    hd_W Ls xs d jm_M211 Q (58, sy_dL F [some (.inl (.ref 1000)), none, some (.inr (.inl 69)), some (.inr (.inl 70)), some (.inr (.inr 71)), none, some (.inr (.inl 72)), none, none], sy_dS F [], sy_dh F X1 X2 (iv_H 4), 0, 0) := by
  refine hd_run (s := 4) (nv := 73) (pc := 92) (L := [some (.inl (.ref 1000)), none, some (.inr (.inl 69)), some (.inr (.inl 70)), some (.inr (.inr 71)), none, none, none, none]) (S := [.inr (.inr 73), .inr (.inr 72)]) (uh := hd_ov (iv_id 0 iv_B4) []) (ul := [.inl (.inr (.inl 69)), .inl (.inr (.inl 70)), .inl (.inr (.inr 71)), .inl (.inr (.inr 71)), .inl (.inl (.long 1000000))]) (f := true) (sp := [58, 92]) (d0 := 1) (O := [true, false, false, false, true]) (T := []) (P := [(4, .inr (.inl 69), .inr (.inl 72)), (5, .inr (.inl 69), .inl (.int 0)), (5, .inr (.inl 69), .inl (.int 1)), (5, .inr (.inl 69), .inl (.int 2)), (4, .inr (.inl 69), .inl (.int 3))]) jm_ok211 (by decide +kernel) (by decide +kernel) hd F X1 X2 (fun F' hF hs => ?_)
  have b69 := hd_b (F := F) (F' := F') (k := 69) (hF 69 (by decide))
  have b72 := hd_b (F := F) (F' := F') (k := 72) (hF 72 (by decide))
  have b70 := hd_b (F := F) (F' := F') (k := 70) (hF 70 (by decide))
  have b71 := hd_bl (F := F) (F' := F') (k := 71) (hF 71 (by decide))
  have hB' : iv_in F' iv_B4 := iv_in_eq hB (fun j hj => hF j (Nat.lt_of_lt_of_le hj (by decide +kernel)))
  refine ⟨List.forall_mem_cons.mpr ⟨hd_p4 b69 b72 h0, List.forall_mem_cons.mpr ⟨hd_p5 b69 rfl (by have hc : ((0) : Int32).toInt = 0 := (by decide); omega), List.forall_mem_cons.mpr ⟨hd_p5 b69 rfl (by have hc : ((1) : Int32).toInt = 1 := (by decide); omega), List.forall_mem_cons.mpr ⟨hd_p5 b69 rfl (by have hc : ((2) : Int32).toInt = 2 := (by decide); omega), List.forall_mem_cons.mpr ⟨hd_p4 b69 rfl (by have hc : ((3) : Int32).toInt = 3 := (by decide); omega), fun _ h => absurd h List.not_mem_nil⟩⟩⟩⟩⟩, ?_⟩
  refine k _ ?_ ?_ ?_ ?_ ?_ ?_
  · exact fun j hj _ => (hd_keep hB' (Nat.lt_of_lt_of_le hj (by decide +kernel)) (by simp)).trans (hF j (Nat.lt_of_lt_of_le hj (by decide)))
  · exact hd_gi (x := .inr (.inl 69)) (by decide +kernel) b69
  · exact hd_gi (x := .inr (.inl 70)) (by decide +kernel) b70
  · exact hd_gl (x := .inr (.inr 71)) (by decide +kernel) b71
  · exact hd_gl (x := .inr (.inr 71)) (by decide +kernel) b71
  · exact hd_gl (x := .inl (.long 1000000)) (by decide +kernel) rfl
theorem zhg_58_p3 {Ls : Nat} {xs : Nat → Int32} {d : Nat} {Q : Option Value → jm_h → Prop} (hd : 2 ≤ d) (F : Nat → sy_d) (X1 X2 : List jm_c) (hB : iv_in F iv_B4)
    (h0 : (sy_i F 69).toInt ≤ (sy_i F 72).toInt)
    (h1 : 0 < (sy_i F 69).toInt)
    (h2 : 1 < (sy_i F 69).toInt)
    (h3 : 2 < (sy_i F 69).toInt)
    (h4 : 3 < (sy_i F 69).toInt)
    (h5 : (sy_i F 69).toInt ≤ 4)
    (k : ∀ F1 : Nat → sy_d, (∀ j, j < 69 → True → F1 j = F j) → F1 69 = .inl (.int (sy_i F 69)) → F1 70 = .inl (.int (sy_i F 70)) → F1 71 = .inl (.long (sy_l F 71)) → F1 72 = .inl (.long (sy_l F 71)) → F1 73 = .inl (.long ((100000000 : Int64))) → hd_W Ls xs d jm_M211 Q (92, sy_dL F1 [some (.inl (.ref 1000)), none, some (.inr (.inl 69)), some (.inr (.inl 70)), some (.inr (.inr 71)), none, none, none, none], sy_dS F1 [.inr (.inr 73), .inr (.inr 72)], sy_dh F1 X1 X2 (iv_H 4), 0, 0)) :
    hd_W Ls xs d jm_M211 Q (58, sy_dL F [some (.inl (.ref 1000)), none, some (.inr (.inl 69)), some (.inr (.inl 70)), some (.inr (.inr 71)), none, some (.inr (.inl 72)), none, none], sy_dS F [], sy_dh F X1 X2 (iv_H 4), 0, 0) := by
  refine hd_run (s := 4) (nv := 73) (pc := 92) (L := [some (.inl (.ref 1000)), none, some (.inr (.inl 69)), some (.inr (.inl 70)), some (.inr (.inr 71)), none, none, none, none]) (S := [.inr (.inr 73), .inr (.inr 72)]) (uh := hd_ov (iv_id 0 iv_B4) []) (ul := [.inl (.inr (.inl 69)), .inl (.inr (.inl 70)), .inl (.inr (.inr 71)), .inl (.inr (.inr 71)), .inl (.inl (.long 100000000))]) (f := true) (sp := [58, 92]) (d0 := 1) (O := [true, false, false, false, false, true]) (T := []) (P := [(4, .inr (.inl 69), .inr (.inl 72)), (5, .inr (.inl 69), .inl (.int 0)), (5, .inr (.inl 69), .inl (.int 1)), (5, .inr (.inl 69), .inl (.int 2)), (5, .inr (.inl 69), .inl (.int 3)), (4, .inr (.inl 69), .inl (.int 4))]) jm_ok211 (by decide +kernel) (by decide +kernel) hd F X1 X2 (fun F' hF hs => ?_)
  have b69 := hd_b (F := F) (F' := F') (k := 69) (hF 69 (by decide))
  have b72 := hd_b (F := F) (F' := F') (k := 72) (hF 72 (by decide))
  have b70 := hd_b (F := F) (F' := F') (k := 70) (hF 70 (by decide))
  have b71 := hd_bl (F := F) (F' := F') (k := 71) (hF 71 (by decide))
  have hB' : iv_in F' iv_B4 := iv_in_eq hB (fun j hj => hF j (Nat.lt_of_lt_of_le hj (by decide +kernel)))
  refine ⟨List.forall_mem_cons.mpr ⟨hd_p4 b69 b72 h0, List.forall_mem_cons.mpr ⟨hd_p5 b69 rfl (by have hc : ((0) : Int32).toInt = 0 := (by decide); omega), List.forall_mem_cons.mpr ⟨hd_p5 b69 rfl (by have hc : ((1) : Int32).toInt = 1 := (by decide); omega), List.forall_mem_cons.mpr ⟨hd_p5 b69 rfl (by have hc : ((2) : Int32).toInt = 2 := (by decide); omega), List.forall_mem_cons.mpr ⟨hd_p5 b69 rfl (by have hc : ((3) : Int32).toInt = 3 := (by decide); omega), List.forall_mem_cons.mpr ⟨hd_p4 b69 rfl (by have hc : ((4) : Int32).toInt = 4 := (by decide); omega), fun _ h => absurd h List.not_mem_nil⟩⟩⟩⟩⟩⟩, ?_⟩
  refine k _ ?_ ?_ ?_ ?_ ?_ ?_
  · exact fun j hj _ => (hd_keep hB' (Nat.lt_of_lt_of_le hj (by decide +kernel)) (by simp)).trans (hF j (Nat.lt_of_lt_of_le hj (by decide)))
  · exact hd_gi (x := .inr (.inl 69)) (by decide +kernel) b69
  · exact hd_gi (x := .inr (.inl 70)) (by decide +kernel) b70
  · exact hd_gl (x := .inr (.inr 71)) (by decide +kernel) b71
  · exact hd_gl (x := .inr (.inr 71)) (by decide +kernel) b71
  · exact hd_gl (x := .inl (.long 100000000)) (by decide +kernel) rfl
theorem zhg_58_p4 {Ls : Nat} {xs : Nat → Int32} {d : Nat} {Q : Option Value → jm_h → Prop} (hd : 2 ≤ d) (F : Nat → sy_d) (X1 X2 : List jm_c) (hB : iv_in F iv_B4)
    (h0 : (sy_i F 72).toInt < (sy_i F 69).toInt)
    (h1 : 0 ≤ (sy_i F 72).toInt ∧ (sy_i F 72).toInt < 4)
    (k : ∀ F1 : Nat → sy_d, (∀ j, j < 69 → True → F1 j = F j) → F1 69 = .inl (.int (sy_i F 69)) → F1 70 = .inl (.int (sy_i F 70)) → F1 71 = .inl (.long ((sy_l F 71) * ((((100 : Int32)) - ((sy_ai F 61).getD (sy_i F 72).toNatClampNeg 0)).toInt64))) → F1 72 = .inl (.int ((sy_i F 72) + ((1 : Int32)))) → hd_W Ls xs d jm_M211 Q (58, sy_dL F1 [some (.inl (.ref 1000)), none, some (.inr (.inl 69)), some (.inr (.inl 70)), some (.inr (.inr 71)), none, some (.inr (.inl 72)), none, none], sy_dS F1 [], sy_dh F1 X1 X2 (iv_H 4), 0, 0)) :
    hd_W Ls xs d jm_M211 Q (58, sy_dL F [some (.inl (.ref 1000)), none, some (.inr (.inl 69)), some (.inr (.inl 70)), some (.inr (.inr 71)), none, some (.inr (.inl 72)), none, none], sy_dS F [], sy_dh F X1 X2 (iv_H 4), 0, 0) := by
  refine hd_run (s := 4) (nv := 73) (pc := 58) (L := [some (.inl (.ref 1000)), none, some (.inr (.inl 69)), some (.inr (.inl 70)), some (.inr (.inr 71)), none, some (.inr (.inl 72)), none, none]) (S := []) (uh := hd_ov (iv_id 0 iv_B4) []) (ul := [.inl (.inr (.inl 69)), .inl (.inr (.inl 70)), .inl (.inr (.inr 76)), .inl (.inr (.inl 77))]) (f := true) (sp := [58, 92]) (d0 := 1) (O := [false]) (T := [(30, [.inr (.inl 72)], [.inr (.inl 61)]), (1, [.inl (.int 100), .inr (.inl 73)], []), (21, [.inr (.inl 74)], []), (14, [.inr (.inr 71), .inr (.inr 75)], []), (0, [.inr (.inl 72), .inl (.int 1)], [])]) (P := [(5, .inr (.inl 69), .inr (.inl 72)), (6, .inr (.inl 72), .inl (.ref 4))]) jm_ok211 (by decide +kernel) (by decide +kernel) hd F X1 X2 (fun F' hF hs => ?_)
  have b69 := hd_b (F := F) (F' := F') (k := 69) (hF 69 (by decide))
  have b72 := hd_b (F := F) (F' := F') (k := 72) (hF 72 (by decide))
  have b70 := hd_b (F := F) (F' := F') (k := 70) (hF 70 (by decide))
  have b71 := hd_bl (F := F) (F' := F') (k := 71) (hF 71 (by decide))
  have a61 := hd_ba (F := F) (F' := F') (k := 61) (hF 61 (by decide))
  have t73 : sy_dv F' (.inr (.inl 73)) = .int ((sy_ai F 61).getD (sy_i F 72).toNatClampNeg 0) := hd_rd (hs 0 _ rfl) b72 a61
  have t74 : sy_dv F' (.inr (.inl 74)) = .int (((100 : Int32)) - ((sy_ai F 61).getD (sy_i F 72).toNatClampNeg 0)) := hd_o (hs 1 _ rfl) rfl t73 rfl
  have t75 : sy_dv F' (.inr (.inr 75)) = .long ((((100 : Int32)) - ((sy_ai F 61).getD (sy_i F 72).toNatClampNeg 0)).toInt64) := hd_uL (hs 2 _ rfl) t74 rfl
  have t76 : sy_dv F' (.inr (.inr 76)) = .long ((sy_l F 71) * ((((100 : Int32)) - ((sy_ai F 61).getD (sy_i F 72).toNatClampNeg 0)).toInt64)) := hd_oL (hs 3 _ rfl) b71 t75 rfl
  have t77 : sy_dv F' (.inr (.inl 77)) = .int ((sy_i F 72) + ((1 : Int32))) := hd_o (hs 4 _ rfl) b72 rfl rfl
  have hB' : iv_in F' iv_B4 := iv_in_eq hB (fun j hj => hF j (Nat.lt_of_lt_of_le hj (by decide +kernel)))
  refine ⟨List.forall_mem_cons.mpr ⟨hd_p5 b69 b72 h0, List.forall_mem_cons.mpr ⟨hd_pb b72 (by first | exact h1 | exact h1), fun _ h => absurd h List.not_mem_nil⟩⟩, ?_⟩
  refine k _ ?_ ?_ ?_ ?_ ?_
  · exact fun j hj _ => (hd_keep hB' (Nat.lt_of_lt_of_le hj (by decide +kernel)) (by simp)).trans (hF j (Nat.lt_of_lt_of_le hj (by decide)))
  · exact hd_gi (x := .inr (.inl 69)) (by decide +kernel) b69
  · exact hd_gi (x := .inr (.inl 70)) (by decide +kernel) b70
  · exact hd_gl (x := .inr (.inr 76)) (by decide +kernel) t76
  · exact hd_gi (x := .inr (.inl 77)) (by decide +kernel) t77
theorem zhg_58 {Ls : Nat} {xs : Nat → Int32} {d : Nat} {Q : Option Value → jm_h → Prop} (hd : 2 ≤ d) (F : Nat → sy_d) (X1 X2 : List jm_c) (hB : iv_in F iv_B4)
    (a69 : 1 ≤ (sy_i F 69).toInt ∧ (sy_i F 69).toInt ≤ 4)
    (a72 : 0 ≤ (sy_i F 72).toInt ∧ (sy_i F 72).toInt ≤ 4)
    (k0 : (sy_i F 69).toInt ≤ (sy_i F 72).toInt → 0 < (sy_i F 69).toInt → (sy_i F 69).toInt ≤ 1 → ∀ F1 : Nat → sy_d, iv_in F1 iv_B4 → (∀ j, j < 69 → j ∉ ([] : List Nat) → F1 j = F j) → (sy_i F1 69).toInt = (sy_i F 69).toInt → sy_i F1 69 = sy_i F 69 → (sy_i F1 70).toInt = (sy_i F 70).toInt → sy_i F1 70 = sy_i F 70 → sy_l F1 71 = sy_l F 71 → sy_l F1 72 = sy_l F 71 → sy_l F1 73 = (100 : Int64) → hd_W Ls xs d jm_M211 Q (92, sy_dL F1 [some (.inl (.ref 1000)), none, some (.inr (.inl 69)), some (.inr (.inl 70)), some (.inr (.inr 71)), none, none, none, none], sy_dS F1 [.inr (.inr 73), .inr (.inr 72)], sy_dh F1 X1 X2 (iv_H 4), 0, 0))
    (k1 : (sy_i F 69).toInt ≤ (sy_i F 72).toInt → 0 < (sy_i F 69).toInt → 1 < (sy_i F 69).toInt → (sy_i F 69).toInt ≤ 2 → ∀ F1 : Nat → sy_d, iv_in F1 iv_B4 → (∀ j, j < 69 → j ∉ ([] : List Nat) → F1 j = F j) → (sy_i F1 69).toInt = (sy_i F 69).toInt → sy_i F1 69 = sy_i F 69 → (sy_i F1 70).toInt = (sy_i F 70).toInt → sy_i F1 70 = sy_i F 70 → sy_l F1 71 = sy_l F 71 → sy_l F1 72 = sy_l F 71 → sy_l F1 73 = (10000 : Int64) → hd_W Ls xs d jm_M211 Q (92, sy_dL F1 [some (.inl (.ref 1000)), none, some (.inr (.inl 69)), some (.inr (.inl 70)), some (.inr (.inr 71)), none, none, none, none], sy_dS F1 [.inr (.inr 73), .inr (.inr 72)], sy_dh F1 X1 X2 (iv_H 4), 0, 0))
    (k2 : (sy_i F 69).toInt ≤ (sy_i F 72).toInt → 0 < (sy_i F 69).toInt → 1 < (sy_i F 69).toInt → 2 < (sy_i F 69).toInt → (sy_i F 69).toInt ≤ 3 → ∀ F1 : Nat → sy_d, iv_in F1 iv_B4 → (∀ j, j < 69 → j ∉ ([] : List Nat) → F1 j = F j) → (sy_i F1 69).toInt = (sy_i F 69).toInt → sy_i F1 69 = sy_i F 69 → (sy_i F1 70).toInt = (sy_i F 70).toInt → sy_i F1 70 = sy_i F 70 → sy_l F1 71 = sy_l F 71 → sy_l F1 72 = sy_l F 71 → sy_l F1 73 = (1000000 : Int64) → hd_W Ls xs d jm_M211 Q (92, sy_dL F1 [some (.inl (.ref 1000)), none, some (.inr (.inl 69)), some (.inr (.inl 70)), some (.inr (.inr 71)), none, none, none, none], sy_dS F1 [.inr (.inr 73), .inr (.inr 72)], sy_dh F1 X1 X2 (iv_H 4), 0, 0))
    (k3 : (sy_i F 69).toInt ≤ (sy_i F 72).toInt → 0 < (sy_i F 69).toInt → 1 < (sy_i F 69).toInt → 2 < (sy_i F 69).toInt → 3 < (sy_i F 69).toInt → (sy_i F 69).toInt ≤ 4 → ∀ F1 : Nat → sy_d, iv_in F1 iv_B4 → (∀ j, j < 69 → j ∉ ([] : List Nat) → F1 j = F j) → (sy_i F1 69).toInt = (sy_i F 69).toInt → sy_i F1 69 = sy_i F 69 → (sy_i F1 70).toInt = (sy_i F 70).toInt → sy_i F1 70 = sy_i F 70 → sy_l F1 71 = sy_l F 71 → sy_l F1 72 = sy_l F 71 → sy_l F1 73 = (100000000 : Int64) → hd_W Ls xs d jm_M211 Q (92, sy_dL F1 [some (.inl (.ref 1000)), none, some (.inr (.inl 69)), some (.inr (.inl 70)), some (.inr (.inr 71)), none, none, none, none], sy_dS F1 [.inr (.inr 73), .inr (.inr 72)], sy_dh F1 X1 X2 (iv_H 4), 0, 0))
    (k4 : (sy_i F 72).toInt < (sy_i F 69).toInt → ∀ F1 : Nat → sy_d, iv_in F1 iv_B4 → (∀ j, j < 69 → j ∉ ([] : List Nat) → F1 j = F j) → (sy_i F1 69).toInt = (sy_i F 69).toInt → sy_i F1 69 = sy_i F 69 → (sy_i F1 70).toInt = (sy_i F 70).toInt → sy_i F1 70 = sy_i F 70 → sy_l F1 71 = (sy_l F 71) * ((((100 : Int32)) - ((sy_ai F 61).getD ((sy_i F 72).toInt).toNat 0)).toInt64) → (sy_i F1 72).toInt = ((sy_i F 72).toInt + 1) → sy_i F1 72 = (sy_i F 72) + ((1 : Int32)) → hd_W Ls xs d jm_M211 Q (58, sy_dL F1 [some (.inl (.ref 1000)), none, some (.inr (.inl 69)), some (.inr (.inl 70)), some (.inr (.inr 71)), none, some (.inr (.inl 72)), none, none], sy_dS F1 [], sy_dh F1 X1 X2 (iv_H 4), 0, 0)) :
    hd_W Ls xs d jm_M211 Q (58, sy_dL F [some (.inl (.ref 1000)), none, some (.inr (.inl 69)), some (.inr (.inl 70)), some (.inr (.inr 71)), none, some (.inr (.inl 72)), none, none], sy_dS F [], sy_dh F X1 X2 (iv_H 4), 0, 0) := by
  by_cases g0 : (sy_i F 69).toInt ≤ (sy_i F 72).toInt
  · by_cases g1 : (sy_i F 69).toInt ≤ 0
    · exfalso
      omega
    replace g1 : 0 < (sy_i F 69).toInt := by omega
    by_cases g2 : (sy_i F 69).toInt ≤ 1
    · exact zhg_58_p0 hd F X1 X2 hB (by first | exact g0 | (simp only [nz_c]; exact g0)) (by first | exact g1 | (simp only [nz_c]; exact g1)) (by first | exact g2 | (simp only [nz_c]; exact g2)) (fun F1 g e69 e70 e71 e72 e73 => k0 g0 g1 g2 F1 (nz_in hB [] (fun j hj hn => g j hj (by simp only [List.mem_cons, List.not_mem_nil, or_false, not_or] at hn; exact trivial)) (List.forall_mem_nil _)) (fun j hj hn => g j hj (by simp only [List.mem_cons, List.not_mem_nil, or_false, not_or] at hn; exact trivial)) ((congrArg Int32.toInt (zz_i e69)).trans (rfl : (sy_i F 69).toInt = (sy_i F 69).toInt)) ((zz_i e69).trans (rfl : sy_i F 69 = sy_i F 69)) ((congrArg Int32.toInt (zz_i e70)).trans (rfl : (sy_i F 70).toInt = (sy_i F 70).toInt)) ((zz_i e70).trans (rfl : sy_i F 70 = sy_i F 70)) ((zz_l e71).trans (rfl : sy_l F 71 = sy_l F 71)) ((zz_l e72).trans (rfl : sy_l F 71 = sy_l F 71)) ((zz_l e73).trans (rfl : (100 : Int64) = (100 : Int64))))
    replace g2 : 1 < (sy_i F 69).toInt := by omega
    by_cases g3 : (sy_i F 69).toInt ≤ 2
    · exact zhg_58_p1 hd F X1 X2 hB (by first | exact g0 | (simp only [nz_c]; exact g0)) (by first | exact g1 | (simp only [nz_c]; exact g1)) (by first | exact g2 | (simp only [nz_c]; exact g2)) (by first | exact g3 | (simp only [nz_c]; exact g3)) (fun F1 g e69 e70 e71 e72 e73 => k1 g0 g1 g2 g3 F1 (nz_in hB [] (fun j hj hn => g j hj (by simp only [List.mem_cons, List.not_mem_nil, or_false, not_or] at hn; exact trivial)) (List.forall_mem_nil _)) (fun j hj hn => g j hj (by simp only [List.mem_cons, List.not_mem_nil, or_false, not_or] at hn; exact trivial)) ((congrArg Int32.toInt (zz_i e69)).trans (rfl : (sy_i F 69).toInt = (sy_i F 69).toInt)) ((zz_i e69).trans (rfl : sy_i F 69 = sy_i F 69)) ((congrArg Int32.toInt (zz_i e70)).trans (rfl : (sy_i F 70).toInt = (sy_i F 70).toInt)) ((zz_i e70).trans (rfl : sy_i F 70 = sy_i F 70)) ((zz_l e71).trans (rfl : sy_l F 71 = sy_l F 71)) ((zz_l e72).trans (rfl : sy_l F 71 = sy_l F 71)) ((zz_l e73).trans (rfl : (10000 : Int64) = (10000 : Int64))))
    replace g3 : 2 < (sy_i F 69).toInt := by omega
    by_cases g4 : (sy_i F 69).toInt ≤ 3
    · exact zhg_58_p2 hd F X1 X2 hB (by first | exact g0 | (simp only [nz_c]; exact g0)) (by first | exact g1 | (simp only [nz_c]; exact g1)) (by first | exact g2 | (simp only [nz_c]; exact g2)) (by first | exact g3 | (simp only [nz_c]; exact g3)) (by first | exact g4 | (simp only [nz_c]; exact g4)) (fun F1 g e69 e70 e71 e72 e73 => k2 g0 g1 g2 g3 g4 F1 (nz_in hB [] (fun j hj hn => g j hj (by simp only [List.mem_cons, List.not_mem_nil, or_false, not_or] at hn; exact trivial)) (List.forall_mem_nil _)) (fun j hj hn => g j hj (by simp only [List.mem_cons, List.not_mem_nil, or_false, not_or] at hn; exact trivial)) ((congrArg Int32.toInt (zz_i e69)).trans (rfl : (sy_i F 69).toInt = (sy_i F 69).toInt)) ((zz_i e69).trans (rfl : sy_i F 69 = sy_i F 69)) ((congrArg Int32.toInt (zz_i e70)).trans (rfl : (sy_i F 70).toInt = (sy_i F 70).toInt)) ((zz_i e70).trans (rfl : sy_i F 70 = sy_i F 70)) ((zz_l e71).trans (rfl : sy_l F 71 = sy_l F 71)) ((zz_l e72).trans (rfl : sy_l F 71 = sy_l F 71)) ((zz_l e73).trans (rfl : (1000000 : Int64) = (1000000 : Int64))))
    replace g4 : 3 < (sy_i F 69).toInt := by omega
    by_cases g5 : (sy_i F 69).toInt ≤ 4
    · exact zhg_58_p3 hd F X1 X2 hB (by first | exact g0 | (simp only [nz_c]; exact g0)) (by first | exact g1 | (simp only [nz_c]; exact g1)) (by first | exact g2 | (simp only [nz_c]; exact g2)) (by first | exact g3 | (simp only [nz_c]; exact g3)) (by first | exact g4 | (simp only [nz_c]; exact g4)) (by first | exact g5 | (simp only [nz_c]; exact g5)) (fun F1 g e69 e70 e71 e72 e73 => k3 g0 g1 g2 g3 g4 g5 F1 (nz_in hB [] (fun j hj hn => g j hj (by simp only [List.mem_cons, List.not_mem_nil, or_false, not_or] at hn; exact trivial)) (List.forall_mem_nil _)) (fun j hj hn => g j hj (by simp only [List.mem_cons, List.not_mem_nil, or_false, not_or] at hn; exact trivial)) ((congrArg Int32.toInt (zz_i e69)).trans (rfl : (sy_i F 69).toInt = (sy_i F 69).toInt)) ((zz_i e69).trans (rfl : sy_i F 69 = sy_i F 69)) ((congrArg Int32.toInt (zz_i e70)).trans (rfl : (sy_i F 70).toInt = (sy_i F 70).toInt)) ((zz_i e70).trans (rfl : sy_i F 70 = sy_i F 70)) ((zz_l e71).trans (rfl : sy_l F 71 = sy_l F 71)) ((zz_l e72).trans (rfl : sy_l F 71 = sy_l F 71)) ((zz_l e73).trans (rfl : (100000000 : Int64) = (100000000 : Int64))))
    replace g5 : 4 < (sy_i F 69).toInt := by omega
    exfalso
    omega
  replace g0 : (sy_i F 72).toInt < (sy_i F 69).toInt := by omega
  have q73 : (sy_ai F 61).getD (sy_i F 72).toNatClampNeg 0 = (sy_ai F 61).getD ((sy_i F 72).toInt).toNat 0 := by simp only [nz_c]
  have n73 : nzI ((sy_ai F 61).getD (sy_i F 72).toNatClampNeg 0) (((sy_ai F 61).getD ((sy_i F 72).toInt).toNat 0).toInt) := congrArg Int32.toInt q73
  have r73 := nz_ba hB (k := 61) (lo := 0) (hi := 100) rfl ((sy_i F 72).toInt).toNat
  have n74 : nzI (((100 : Int32)) - ((sy_ai F 61).getD (sy_i F 72).toNatClampNeg 0)) ((100 - ((sy_ai F 61).getD ((sy_i F 72).toInt).toNat 0).toInt)) := nz_sub (by decide : ((100 : Int32)).toInt = 100) (nzE n73) (by omega) (by omega)
  have q74 : ((100 : Int32)) - ((sy_ai F 61).getD (sy_i F 72).toNatClampNeg 0) = ((100 : Int32)) - ((sy_ai F 61).getD ((sy_i F 72).toInt).toNat 0) := by simp only [nz_c, (nzE n74), (by decide : ((100 : Int32)).toInt = 100)]
  have m74 : nzI (((100 : Int32)) - ((sy_ai F 61).getD ((sy_i F 72).toInt).toNat 0)) ((100 - ((sy_ai F 61).getD ((sy_i F 72).toInt).toNat 0).toInt)) := (congrArg Int32.toInt q74.symm).trans (nzE n74)
  have q76 : (sy_l F 71) * ((((100 : Int32)) - ((sy_ai F 61).getD (sy_i F 72).toNatClampNeg 0)).toInt64) = (sy_l F 71) * ((((100 : Int32)) - ((sy_ai F 61).getD ((sy_i F 72).toInt).toNat 0)).toInt64) := by simp only [nz_c, (nzE n74), (nzE m74), (by decide : ((100 : Int32)).toInt = 100)]
  have n77 : nzI ((sy_i F 72) + ((1 : Int32))) (((sy_i F 72).toInt + 1)) := nz_add (rfl : (sy_i F 72).toInt = (sy_i F 72).toInt) (by decide : ((1 : Int32)).toInt = 1) (by omega) (by omega)
  exact zhg_58_p4 hd F X1 X2 hB (by first | exact g0 | (simp only [nz_c]; exact g0)) (by first | exact ⟨by omega, by omega⟩ | (simp only [nz_c]; exact ⟨by omega, by omega⟩)) (fun F1 g e69 e70 e71 e72 => k4 g0 F1 (nz_in hB [] (fun j hj hn => g j hj (by simp only [List.mem_cons, List.not_mem_nil, or_false, not_or] at hn; exact trivial)) (List.forall_mem_nil _)) (fun j hj hn => g j hj (by simp only [List.mem_cons, List.not_mem_nil, or_false, not_or] at hn; exact trivial)) ((congrArg Int32.toInt (zz_i e69)).trans (rfl : (sy_i F 69).toInt = (sy_i F 69).toInt)) ((zz_i e69).trans (rfl : sy_i F 69 = sy_i F 69)) ((congrArg Int32.toInt (zz_i e70)).trans (rfl : (sy_i F 70).toInt = (sy_i F 70).toInt)) ((zz_i e70).trans (rfl : sy_i F 70 = sy_i F 70)) ((zz_l e71).trans q76) ((congrArg Int32.toInt (zz_i e72)).trans (nzE n77)) ((zz_i e72).trans (rfl : (sy_i F 72) + ((1 : Int32)) = (sy_i F 72) + ((1 : Int32)))))
theorem zhg_95_p0 {Ls : Nat} {xs : Nat → Int32} {d : Nat} {Q : Option Value → jm_h → Prop} (hd : 2 ≤ d) (F : Nat → sy_d) (X1 X2 : List jm_c) (hB : iv_in F iv_B4)
    (h0 : (sy_i F 70).toInt = 0)
    (h1 : (sy_l F 72).toInt ≠ 0)
    (k : ∀ F1 : Nat → sy_d, (∀ j, j < 69 → True → F1 j = F j) → Q (some (.int (((sy_l F 71) / (sy_l F 72)).toInt32))) (sy_dh F1 X1 X2 (iv_H 4))) :
    hd_W Ls xs d jm_M211 Q (95, sy_dL F [some (.inl (.ref 1000)), none, some (.inr (.inl 69)), some (.inr (.inl 70)), some (.inr (.inr 71)), none, none, none, none], sy_dS F [.inr (.inr 72)], sy_dh F X1 X2 (iv_H 4), 0, 0) := by
  refine hd_ret (s := 4) (nv := 73) (v := some (.inr (.inl 74))) (uh := hd_ov (iv_id 0 iv_B4) []) (f := false) (sp := []) (d0 := 1) (O := [true]) (T := [(15, [.inr (.inr 71), .inr (.inr 72)], []), (25, [.inr (.inr 73)], [])]) (P := [(0, .inr (.inl 70), .inl (.int 0)), (1, .inr (.inr 72), .inl (.long 0))]) jm_ok211 (by decide +kernel) (by decide +kernel) hd F X1 X2 (fun F' hF hs => ?_)
  have b70 := hd_b (F := F) (F' := F') (k := 70) (hF 70 (by decide))
  have b72 := hd_bl (F := F) (F' := F') (k := 72) (hF 72 (by decide))
  have b71 := hd_bl (F := F) (F' := F') (k := 71) (hF 71 (by decide))
  have t73 : sy_dv F' (.inr (.inr 73)) = .long ((sy_l F 71) / (sy_l F 72)) := hd_oL (hs 0 _ rfl) b71 b72 rfl
  have t74 : sy_dv F' (.inr (.inl 74)) = .int (((sy_l F 71) / (sy_l F 72)).toInt32) := hd_uI (hs 1 _ rfl) t73
  have hB' : iv_in F' iv_B4 := iv_in_eq hB (fun j hj => hF j (Nat.lt_of_lt_of_le hj (by decide +kernel)))
  have hk := k (sy_cm F' (hd_ov (iv_id 0 iv_B4) [] ++ [])) (fun j hj _ => (hd_keep hB' (Nat.lt_of_lt_of_le hj (by decide +kernel)) (by simp)).trans (hF j (Nat.lt_of_lt_of_le hj (by decide))))
  refine ⟨List.forall_mem_cons.mpr ⟨hd_p0 b70 rfl (by have hc : ((0) : Int32).toInt = 0 := (by decide); omega), List.forall_mem_cons.mpr ⟨hd_pL b72 rfl (by have hc : (0 : Int64).toInt = 0 := (by decide); rw [hc]; exact h1), fun _ h => absurd h List.not_mem_nil⟩⟩, ?_⟩
  show Q (some (sy_dv F' (.inr (.inl 74)))) _
  rw [t74]
  exact hk
theorem zhg_95_p1 {Ls : Nat} {xs : Nat → Int32} {d : Nat} {Q : Option Value → jm_h → Prop} (hd : 2 ≤ d) (F : Nat → sy_d) (X1 X2 : List jm_c) (hB : iv_in F iv_B4)
    (h0 : (sy_i F 70).toInt ≠ 0)
    (h1 : 0 < (sy_i F 69).toInt)
    (h2 : (sy_i F 69).toInt ≤ 1)
    (h3 : (sy_l F 72).toInt ≠ 0)
    (k : ∀ F1 : Nat → sy_d, (∀ j, j < 69 → True → F1 j = F j) → Q (some (.int ((((100 : Int64)) / (sy_l F 72)).toInt32))) (sy_dh F1 X1 X2 (iv_H 4))) :
    hd_W Ls xs d jm_M211 Q (95, sy_dL F [some (.inl (.ref 1000)), none, some (.inr (.inl 69)), some (.inr (.inl 70)), some (.inr (.inr 71)), none, none, none, none], sy_dS F [.inr (.inr 72)], sy_dh F X1 X2 (iv_H 4), 0, 0) := by
  refine hd_ret (s := 4) (nv := 73) (v := some (.inr (.inl 74))) (uh := hd_ov (iv_id 0 iv_B4) []) (f := false) (sp := []) (d0 := 1) (O := [false, false, true]) (T := [(15, [.inl (.long 100), .inr (.inr 72)], []), (25, [.inr (.inr 73)], [])]) (P := [(1, .inr (.inl 70), .inl (.int 0)), (5, .inr (.inl 69), .inl (.int 0)), (4, .inr (.inl 69), .inl (.int 1)), (1, .inr (.inr 72), .inl (.long 0))]) jm_ok211 (by decide +kernel) (by decide +kernel) hd F X1 X2 (fun F' hF hs => ?_)
  have b70 := hd_b (F := F) (F' := F') (k := 70) (hF 70 (by decide))
  have b69 := hd_b (F := F) (F' := F') (k := 69) (hF 69 (by decide))
  have b72 := hd_bl (F := F) (F' := F') (k := 72) (hF 72 (by decide))
  have t73 : sy_dv F' (.inr (.inr 73)) = .long (((100 : Int64)) / (sy_l F 72)) := hd_oL (hs 0 _ rfl) rfl b72 rfl
  have t74 : sy_dv F' (.inr (.inl 74)) = .int ((((100 : Int64)) / (sy_l F 72)).toInt32) := hd_uI (hs 1 _ rfl) t73
  have hB' : iv_in F' iv_B4 := iv_in_eq hB (fun j hj => hF j (Nat.lt_of_lt_of_le hj (by decide +kernel)))
  have hk := k (sy_cm F' (hd_ov (iv_id 0 iv_B4) [] ++ [])) (fun j hj _ => (hd_keep hB' (Nat.lt_of_lt_of_le hj (by decide +kernel)) (by simp)).trans (hF j (Nat.lt_of_lt_of_le hj (by decide))))
  refine ⟨List.forall_mem_cons.mpr ⟨hd_p1 b70 rfl (by have hc : ((0) : Int32).toInt = 0 := (by decide); omega), List.forall_mem_cons.mpr ⟨hd_p5 b69 rfl (by have hc : ((0) : Int32).toInt = 0 := (by decide); omega), List.forall_mem_cons.mpr ⟨hd_p4 b69 rfl (by have hc : ((1) : Int32).toInt = 1 := (by decide); omega), List.forall_mem_cons.mpr ⟨hd_pL b72 rfl (by have hc : (0 : Int64).toInt = 0 := (by decide); rw [hc]; exact h3), fun _ h => absurd h List.not_mem_nil⟩⟩⟩⟩, ?_⟩
  show Q (some (sy_dv F' (.inr (.inl 74)))) _
  rw [t74]
  exact hk
theorem zhg_95_p2 {Ls : Nat} {xs : Nat → Int32} {d : Nat} {Q : Option Value → jm_h → Prop} (hd : 2 ≤ d) (F : Nat → sy_d) (X1 X2 : List jm_c) (hB : iv_in F iv_B4)
    (h0 : (sy_i F 70).toInt ≠ 0)
    (h1 : 0 < (sy_i F 69).toInt)
    (h2 : 1 < (sy_i F 69).toInt)
    (h3 : (sy_i F 69).toInt ≤ 2)
    (h4 : (sy_l F 72).toInt ≠ 0)
    (k : ∀ F1 : Nat → sy_d, (∀ j, j < 69 → True → F1 j = F j) → Q (some (.int ((((10000 : Int64)) / (sy_l F 72)).toInt32))) (sy_dh F1 X1 X2 (iv_H 4))) :
    hd_W Ls xs d jm_M211 Q (95, sy_dL F [some (.inl (.ref 1000)), none, some (.inr (.inl 69)), some (.inr (.inl 70)), some (.inr (.inr 71)), none, none, none, none], sy_dS F [.inr (.inr 72)], sy_dh F X1 X2 (iv_H 4), 0, 0) := by
  refine hd_ret (s := 4) (nv := 73) (v := some (.inr (.inl 74))) (uh := hd_ov (iv_id 0 iv_B4) []) (f := false) (sp := []) (d0 := 1) (O := [false, false, false, true]) (T := [(15, [.inl (.long 10000), .inr (.inr 72)], []), (25, [.inr (.inr 73)], [])]) (P := [(1, .inr (.inl 70), .inl (.int 0)), (5, .inr (.inl 69), .inl (.int 0)), (5, .inr (.inl 69), .inl (.int 1)), (4, .inr (.inl 69), .inl (.int 2)), (1, .inr (.inr 72), .inl (.long 0))]) jm_ok211 (by decide +kernel) (by decide +kernel) hd F X1 X2 (fun F' hF hs => ?_)
  have b70 := hd_b (F := F) (F' := F') (k := 70) (hF 70 (by decide))
  have b69 := hd_b (F := F) (F' := F') (k := 69) (hF 69 (by decide))
  have b72 := hd_bl (F := F) (F' := F') (k := 72) (hF 72 (by decide))
  have t73 : sy_dv F' (.inr (.inr 73)) = .long (((10000 : Int64)) / (sy_l F 72)) := hd_oL (hs 0 _ rfl) rfl b72 rfl
  have t74 : sy_dv F' (.inr (.inl 74)) = .int ((((10000 : Int64)) / (sy_l F 72)).toInt32) := hd_uI (hs 1 _ rfl) t73
  have hB' : iv_in F' iv_B4 := iv_in_eq hB (fun j hj => hF j (Nat.lt_of_lt_of_le hj (by decide +kernel)))
  have hk := k (sy_cm F' (hd_ov (iv_id 0 iv_B4) [] ++ [])) (fun j hj _ => (hd_keep hB' (Nat.lt_of_lt_of_le hj (by decide +kernel)) (by simp)).trans (hF j (Nat.lt_of_lt_of_le hj (by decide))))
  refine ⟨List.forall_mem_cons.mpr ⟨hd_p1 b70 rfl (by have hc : ((0) : Int32).toInt = 0 := (by decide); omega), List.forall_mem_cons.mpr ⟨hd_p5 b69 rfl (by have hc : ((0) : Int32).toInt = 0 := (by decide); omega), List.forall_mem_cons.mpr ⟨hd_p5 b69 rfl (by have hc : ((1) : Int32).toInt = 1 := (by decide); omega), List.forall_mem_cons.mpr ⟨hd_p4 b69 rfl (by have hc : ((2) : Int32).toInt = 2 := (by decide); omega), List.forall_mem_cons.mpr ⟨hd_pL b72 rfl (by have hc : (0 : Int64).toInt = 0 := (by decide); rw [hc]; exact h4), fun _ h => absurd h List.not_mem_nil⟩⟩⟩⟩⟩, ?_⟩
  show Q (some (sy_dv F' (.inr (.inl 74)))) _
  rw [t74]
  exact hk
theorem zhg_95_p3 {Ls : Nat} {xs : Nat → Int32} {d : Nat} {Q : Option Value → jm_h → Prop} (hd : 2 ≤ d) (F : Nat → sy_d) (X1 X2 : List jm_c) (hB : iv_in F iv_B4)
    (h0 : (sy_i F 70).toInt ≠ 0)
    (h1 : 0 < (sy_i F 69).toInt)
    (h2 : 1 < (sy_i F 69).toInt)
    (h3 : 2 < (sy_i F 69).toInt)
    (h4 : (sy_i F 69).toInt ≤ 3)
    (h5 : (sy_l F 72).toInt ≠ 0)
    (k : ∀ F1 : Nat → sy_d, (∀ j, j < 69 → True → F1 j = F j) → Q (some (.int ((((1000000 : Int64)) / (sy_l F 72)).toInt32))) (sy_dh F1 X1 X2 (iv_H 4))) :
    hd_W Ls xs d jm_M211 Q (95, sy_dL F [some (.inl (.ref 1000)), none, some (.inr (.inl 69)), some (.inr (.inl 70)), some (.inr (.inr 71)), none, none, none, none], sy_dS F [.inr (.inr 72)], sy_dh F X1 X2 (iv_H 4), 0, 0) := by
  refine hd_ret (s := 4) (nv := 73) (v := some (.inr (.inl 74))) (uh := hd_ov (iv_id 0 iv_B4) []) (f := false) (sp := []) (d0 := 1) (O := [false, false, false, false, true]) (T := [(15, [.inl (.long 1000000), .inr (.inr 72)], []), (25, [.inr (.inr 73)], [])]) (P := [(1, .inr (.inl 70), .inl (.int 0)), (5, .inr (.inl 69), .inl (.int 0)), (5, .inr (.inl 69), .inl (.int 1)), (5, .inr (.inl 69), .inl (.int 2)), (4, .inr (.inl 69), .inl (.int 3)), (1, .inr (.inr 72), .inl (.long 0))]) jm_ok211 (by decide +kernel) (by decide +kernel) hd F X1 X2 (fun F' hF hs => ?_)
  have b70 := hd_b (F := F) (F' := F') (k := 70) (hF 70 (by decide))
  have b69 := hd_b (F := F) (F' := F') (k := 69) (hF 69 (by decide))
  have b72 := hd_bl (F := F) (F' := F') (k := 72) (hF 72 (by decide))
  have t73 : sy_dv F' (.inr (.inr 73)) = .long (((1000000 : Int64)) / (sy_l F 72)) := hd_oL (hs 0 _ rfl) rfl b72 rfl
  have t74 : sy_dv F' (.inr (.inl 74)) = .int ((((1000000 : Int64)) / (sy_l F 72)).toInt32) := hd_uI (hs 1 _ rfl) t73
  have hB' : iv_in F' iv_B4 := iv_in_eq hB (fun j hj => hF j (Nat.lt_of_lt_of_le hj (by decide +kernel)))
  have hk := k (sy_cm F' (hd_ov (iv_id 0 iv_B4) [] ++ [])) (fun j hj _ => (hd_keep hB' (Nat.lt_of_lt_of_le hj (by decide +kernel)) (by simp)).trans (hF j (Nat.lt_of_lt_of_le hj (by decide))))
  refine ⟨List.forall_mem_cons.mpr ⟨hd_p1 b70 rfl (by have hc : ((0) : Int32).toInt = 0 := (by decide); omega), List.forall_mem_cons.mpr ⟨hd_p5 b69 rfl (by have hc : ((0) : Int32).toInt = 0 := (by decide); omega), List.forall_mem_cons.mpr ⟨hd_p5 b69 rfl (by have hc : ((1) : Int32).toInt = 1 := (by decide); omega), List.forall_mem_cons.mpr ⟨hd_p5 b69 rfl (by have hc : ((2) : Int32).toInt = 2 := (by decide); omega), List.forall_mem_cons.mpr ⟨hd_p4 b69 rfl (by have hc : ((3) : Int32).toInt = 3 := (by decide); omega), List.forall_mem_cons.mpr ⟨hd_pL b72 rfl (by have hc : (0 : Int64).toInt = 0 := (by decide); rw [hc]; exact h5), fun _ h => absurd h List.not_mem_nil⟩⟩⟩⟩⟩⟩, ?_⟩
  show Q (some (sy_dv F' (.inr (.inl 74)))) _
  rw [t74]
  exact hk
theorem zhg_95_p4 {Ls : Nat} {xs : Nat → Int32} {d : Nat} {Q : Option Value → jm_h → Prop} (hd : 2 ≤ d) (F : Nat → sy_d) (X1 X2 : List jm_c) (hB : iv_in F iv_B4)
    (h0 : (sy_i F 70).toInt ≠ 0)
    (h1 : 0 < (sy_i F 69).toInt)
    (h2 : 1 < (sy_i F 69).toInt)
    (h3 : 2 < (sy_i F 69).toInt)
    (h4 : 3 < (sy_i F 69).toInt)
    (h5 : (sy_i F 69).toInt ≤ 4)
    (h6 : (sy_l F 72).toInt ≠ 0)
    (k : ∀ F1 : Nat → sy_d, (∀ j, j < 69 → True → F1 j = F j) → Q (some (.int ((((100000000 : Int64)) / (sy_l F 72)).toInt32))) (sy_dh F1 X1 X2 (iv_H 4))) :
    hd_W Ls xs d jm_M211 Q (95, sy_dL F [some (.inl (.ref 1000)), none, some (.inr (.inl 69)), some (.inr (.inl 70)), some (.inr (.inr 71)), none, none, none, none], sy_dS F [.inr (.inr 72)], sy_dh F X1 X2 (iv_H 4), 0, 0) := by
  refine hd_ret (s := 4) (nv := 73) (v := some (.inr (.inl 74))) (uh := hd_ov (iv_id 0 iv_B4) []) (f := false) (sp := []) (d0 := 1) (O := [false, false, false, false, false, true]) (T := [(15, [.inl (.long 100000000), .inr (.inr 72)], []), (25, [.inr (.inr 73)], [])]) (P := [(1, .inr (.inl 70), .inl (.int 0)), (5, .inr (.inl 69), .inl (.int 0)), (5, .inr (.inl 69), .inl (.int 1)), (5, .inr (.inl 69), .inl (.int 2)), (5, .inr (.inl 69), .inl (.int 3)), (4, .inr (.inl 69), .inl (.int 4)), (1, .inr (.inr 72), .inl (.long 0))]) jm_ok211 (by decide +kernel) (by decide +kernel) hd F X1 X2 (fun F' hF hs => ?_)
  have b70 := hd_b (F := F) (F' := F') (k := 70) (hF 70 (by decide))
  have b69 := hd_b (F := F) (F' := F') (k := 69) (hF 69 (by decide))
  have b72 := hd_bl (F := F) (F' := F') (k := 72) (hF 72 (by decide))
  have t73 : sy_dv F' (.inr (.inr 73)) = .long (((100000000 : Int64)) / (sy_l F 72)) := hd_oL (hs 0 _ rfl) rfl b72 rfl
  have t74 : sy_dv F' (.inr (.inl 74)) = .int ((((100000000 : Int64)) / (sy_l F 72)).toInt32) := hd_uI (hs 1 _ rfl) t73
  have hB' : iv_in F' iv_B4 := iv_in_eq hB (fun j hj => hF j (Nat.lt_of_lt_of_le hj (by decide +kernel)))
  have hk := k (sy_cm F' (hd_ov (iv_id 0 iv_B4) [] ++ [])) (fun j hj _ => (hd_keep hB' (Nat.lt_of_lt_of_le hj (by decide +kernel)) (by simp)).trans (hF j (Nat.lt_of_lt_of_le hj (by decide))))
  refine ⟨List.forall_mem_cons.mpr ⟨hd_p1 b70 rfl (by have hc : ((0) : Int32).toInt = 0 := (by decide); omega), List.forall_mem_cons.mpr ⟨hd_p5 b69 rfl (by have hc : ((0) : Int32).toInt = 0 := (by decide); omega), List.forall_mem_cons.mpr ⟨hd_p5 b69 rfl (by have hc : ((1) : Int32).toInt = 1 := (by decide); omega), List.forall_mem_cons.mpr ⟨hd_p5 b69 rfl (by have hc : ((2) : Int32).toInt = 2 := (by decide); omega), List.forall_mem_cons.mpr ⟨hd_p5 b69 rfl (by have hc : ((3) : Int32).toInt = 3 := (by decide); omega), List.forall_mem_cons.mpr ⟨hd_p4 b69 rfl (by have hc : ((4) : Int32).toInt = 4 := (by decide); omega), List.forall_mem_cons.mpr ⟨hd_pL b72 rfl (by have hc : (0 : Int64).toInt = 0 := (by decide); rw [hc]; exact h6), fun _ h => absurd h List.not_mem_nil⟩⟩⟩⟩⟩⟩⟩, ?_⟩
  show Q (some (sy_dv F' (.inr (.inl 74)))) _
  rw [t74]
  exact hk
theorem zhg_95 {Ls : Nat} {xs : Nat → Int32} {d : Nat} {Q : Option Value → jm_h → Prop} (hd : 2 ≤ d) (F : Nat → sy_d) (X1 X2 : List jm_c) (hB : iv_in F iv_B4)
    (a69 : 1 ≤ (sy_i F 69).toInt ∧ (sy_i F 69).toInt ≤ 4)
    (o0 : (sy_i F 70).toInt = 0 → ((sy_l F 72).toInt ≠ 0))
    (o1 : (sy_i F 70).toInt ≠ 0 → 0 < (sy_i F 69).toInt → (sy_i F 69).toInt ≤ 1 → ((sy_l F 72).toInt ≠ 0))
    (o2 : (sy_i F 70).toInt ≠ 0 → 0 < (sy_i F 69).toInt → 1 < (sy_i F 69).toInt → (sy_i F 69).toInt ≤ 2 → ((sy_l F 72).toInt ≠ 0))
    (o3 : (sy_i F 70).toInt ≠ 0 → 0 < (sy_i F 69).toInt → 1 < (sy_i F 69).toInt → 2 < (sy_i F 69).toInt → (sy_i F 69).toInt ≤ 3 → ((sy_l F 72).toInt ≠ 0))
    (o4 : (sy_i F 70).toInt ≠ 0 → 0 < (sy_i F 69).toInt → 1 < (sy_i F 69).toInt → 2 < (sy_i F 69).toInt → 3 < (sy_i F 69).toInt → (sy_i F 69).toInt ≤ 4 → ((sy_l F 72).toInt ≠ 0))
    (k0 : (sy_i F 70).toInt = 0 → ∀ F1 : Nat → sy_d, iv_in F1 iv_B4 → (∀ j, j < 69 → j ∉ ([] : List Nat) → F1 j = F j) → Q (some (.int (((sy_l F 71) / (sy_l F 72)).toInt32))) (sy_dh F1 X1 X2 (iv_H 4)))
    (k1 : (sy_i F 70).toInt ≠ 0 → 0 < (sy_i F 69).toInt → (sy_i F 69).toInt ≤ 1 → ∀ F1 : Nat → sy_d, iv_in F1 iv_B4 → (∀ j, j < 69 → j ∉ ([] : List Nat) → F1 j = F j) → Q (some (.int ((((100 : Int64)) / (sy_l F 72)).toInt32))) (sy_dh F1 X1 X2 (iv_H 4)))
    (k2 : (sy_i F 70).toInt ≠ 0 → 0 < (sy_i F 69).toInt → 1 < (sy_i F 69).toInt → (sy_i F 69).toInt ≤ 2 → ∀ F1 : Nat → sy_d, iv_in F1 iv_B4 → (∀ j, j < 69 → j ∉ ([] : List Nat) → F1 j = F j) → Q (some (.int ((((10000 : Int64)) / (sy_l F 72)).toInt32))) (sy_dh F1 X1 X2 (iv_H 4)))
    (k3 : (sy_i F 70).toInt ≠ 0 → 0 < (sy_i F 69).toInt → 1 < (sy_i F 69).toInt → 2 < (sy_i F 69).toInt → (sy_i F 69).toInt ≤ 3 → ∀ F1 : Nat → sy_d, iv_in F1 iv_B4 → (∀ j, j < 69 → j ∉ ([] : List Nat) → F1 j = F j) → Q (some (.int ((((1000000 : Int64)) / (sy_l F 72)).toInt32))) (sy_dh F1 X1 X2 (iv_H 4)))
    (k4 : (sy_i F 70).toInt ≠ 0 → 0 < (sy_i F 69).toInt → 1 < (sy_i F 69).toInt → 2 < (sy_i F 69).toInt → 3 < (sy_i F 69).toInt → (sy_i F 69).toInt ≤ 4 → ∀ F1 : Nat → sy_d, iv_in F1 iv_B4 → (∀ j, j < 69 → j ∉ ([] : List Nat) → F1 j = F j) → Q (some (.int ((((100000000 : Int64)) / (sy_l F 72)).toInt32))) (sy_dh F1 X1 X2 (iv_H 4))) :
    hd_W Ls xs d jm_M211 Q (95, sy_dL F [some (.inl (.ref 1000)), none, some (.inr (.inl 69)), some (.inr (.inl 70)), some (.inr (.inr 71)), none, none, none, none], sy_dS F [.inr (.inr 72)], sy_dh F X1 X2 (iv_H 4), 0, 0) := by
  by_cases g0 : (sy_i F 70).toInt = 0
  · exact zhg_95_p0 hd F X1 X2 hB (by first | exact g0 | (simp only [nz_c]; exact g0)) (by exact (o0 g0)) (fun F1 g  => by rw [(rfl : ((sy_l F 71) / (sy_l F 72)).toInt32 = ((sy_l F 71) / (sy_l F 72)).toInt32)]; exact k0 g0 F1 (nz_in hB [] (fun j hj hn => g j hj (by simp only [List.mem_cons, List.not_mem_nil, or_false, not_or] at hn; exact trivial)) (List.forall_mem_nil _)) (fun j hj hn => g j hj (by simp only [List.mem_cons, List.not_mem_nil, or_false, not_or] at hn; exact trivial)) )
  replace g0 : (sy_i F 70).toInt ≠ 0 := by omega
  by_cases g1 : (sy_i F 69).toInt ≤ 0
  · exfalso
    omega
  replace g1 : 0 < (sy_i F 69).toInt := by omega
  by_cases g2 : (sy_i F 69).toInt ≤ 1
  · exact zhg_95_p1 hd F X1 X2 hB (by first | exact g0 | (simp only [nz_c]; exact g0)) (by first | exact g1 | (simp only [nz_c]; exact g1)) (by first | exact g2 | (simp only [nz_c]; exact g2)) (by exact (o1 g0 g1 g2)) (fun F1 g  => by rw [(rfl : (((100 : Int64)) / (sy_l F 72)).toInt32 = (((100 : Int64)) / (sy_l F 72)).toInt32)]; exact k1 g0 g1 g2 F1 (nz_in hB [] (fun j hj hn => g j hj (by simp only [List.mem_cons, List.not_mem_nil, or_false, not_or] at hn; exact trivial)) (List.forall_mem_nil _)) (fun j hj hn => g j hj (by simp only [List.mem_cons, List.not_mem_nil, or_false, not_or] at hn; exact trivial)) )
  replace g2 : 1 < (sy_i F 69).toInt := by omega
  by_cases g3 : (sy_i F 69).toInt ≤ 2
  · exact zhg_95_p2 hd F X1 X2 hB (by first | exact g0 | (simp only [nz_c]; exact g0)) (by first | exact g1 | (simp only [nz_c]; exact g1)) (by first | exact g2 | (simp only [nz_c]; exact g2)) (by first | exact g3 | (simp only [nz_c]; exact g3)) (by exact (o2 g0 g1 g2 g3)) (fun F1 g  => by rw [(rfl : (((10000 : Int64)) / (sy_l F 72)).toInt32 = (((10000 : Int64)) / (sy_l F 72)).toInt32)]; exact k2 g0 g1 g2 g3 F1 (nz_in hB [] (fun j hj hn => g j hj (by simp only [List.mem_cons, List.not_mem_nil, or_false, not_or] at hn; exact trivial)) (List.forall_mem_nil _)) (fun j hj hn => g j hj (by simp only [List.mem_cons, List.not_mem_nil, or_false, not_or] at hn; exact trivial)) )
  replace g3 : 2 < (sy_i F 69).toInt := by omega
  by_cases g4 : (sy_i F 69).toInt ≤ 3
  · exact zhg_95_p3 hd F X1 X2 hB (by first | exact g0 | (simp only [nz_c]; exact g0)) (by first | exact g1 | (simp only [nz_c]; exact g1)) (by first | exact g2 | (simp only [nz_c]; exact g2)) (by first | exact g3 | (simp only [nz_c]; exact g3)) (by first | exact g4 | (simp only [nz_c]; exact g4)) (by exact (o3 g0 g1 g2 g3 g4)) (fun F1 g  => by rw [(rfl : (((1000000 : Int64)) / (sy_l F 72)).toInt32 = (((1000000 : Int64)) / (sy_l F 72)).toInt32)]; exact k3 g0 g1 g2 g3 g4 F1 (nz_in hB [] (fun j hj hn => g j hj (by simp only [List.mem_cons, List.not_mem_nil, or_false, not_or] at hn; exact trivial)) (List.forall_mem_nil _)) (fun j hj hn => g j hj (by simp only [List.mem_cons, List.not_mem_nil, or_false, not_or] at hn; exact trivial)) )
  replace g4 : 3 < (sy_i F 69).toInt := by omega
  by_cases g5 : (sy_i F 69).toInt ≤ 4
  · exact zhg_95_p4 hd F X1 X2 hB (by first | exact g0 | (simp only [nz_c]; exact g0)) (by first | exact g1 | (simp only [nz_c]; exact g1)) (by first | exact g2 | (simp only [nz_c]; exact g2)) (by first | exact g3 | (simp only [nz_c]; exact g3)) (by first | exact g4 | (simp only [nz_c]; exact g4)) (by first | exact g5 | (simp only [nz_c]; exact g5)) (by exact (o4 g0 g1 g2 g3 g4 g5)) (fun F1 g  => by rw [(rfl : (((100000000 : Int64)) / (sy_l F 72)).toInt32 = (((100000000 : Int64)) / (sy_l F 72)).toInt32)]; exact k4 g0 g1 g2 g3 g4 g5 F1 (nz_in hB [] (fun j hj hn => g j hj (by simp only [List.mem_cons, List.not_mem_nil, or_false, not_or] at hn; exact trivial)) (List.forall_mem_nil _)) (fun j hj hn => g j hj (by simp only [List.mem_cons, List.not_mem_nil, or_false, not_or] at hn; exact trivial)) )
  replace g5 : 4 < (sy_i F 69).toInt := by omega
  exfalso
  omega
end
section
/-! ===== hangsOn ===== -/
noncomputable def ltI (T : tX) (g : gS) (f : Nat) (p : Int32) : Nat → Int
  | 0 => 1
  | n + 1 => ltI T g f p n * (100 - olC T g f p n)
def hdI : Nat → Int
  | 0 => 1
  | n + 1 => hdI n * 100
theorem hdI_in : ∀ n : Nat, n ≤ 4 → 1 ≤ hdI n ∧ hdI n ≤ 100000000
  | 0, _ => by decide
  | 1, _ => by decide
  | 2, _ => by decide
  | 3, _ => by decide
  | 4, _ => by decide
  | n + 5, h => absurd h (by omega)
theorem ltI_in (T : tX) (g : gS) (f : Nat) (p : Int32) : ∀ n : Nat, n ≤ 4 → 0 ≤ ltI T g f p n ∧ ltI T g f p n ≤ hdI n
  | 0, _ => (by decide : (0 : Int) ≤ 1 ∧ (1 : Int) ≤ 1)
  | n + 1, h => by
    obtain ⟨h1, h2⟩ := ltI_in T g f p n (by omega)
    obtain ⟨c1, c2⟩ := olC_in T g f p n
    have d := hdI_in n (by omega)
    exact ⟨Int.mul_nonneg h1 (by omega), Int.mul_le_mul h2 (by omega) (by omega) (by omega)⟩
theorem gc_s (a b : Nat) : Nat.gcd a b = Nat.gcd b (a % b) := by
  rw [Nat.gcd_comm a b, Nat.gcd_rec b a, Nat.gcd_comm]
theorem md_s {b r : Nat} (h0 : 0 < r) (h : r ≤ b) : b % r + r ≤ b := by
  have e := Nat.mod_add_div b r
  have k : r * 1 ≤ r * (b / r) := Nat.mul_le_mul_left r (Nat.div_pos h h0)
  omega
noncomputable def hgV (T : tX) (g : gS) (f : Nat) (n : Nat) (top : Int32) : Int := (if top.toInt = 0 then ltI T g f (g 5 f) n else hdI n) / ((Nat.gcd (ltI T g f (g 5 f) n).toNat (hdI n).toNat : Nat) : Int)
noncomputable def hgA (T : tX) (g : gS) (f n top : Int32) : Int32 := ifP ((0 ≤ f.toInt ∧ f.toInt < nfS T) ∧ 1 ≤ n.toInt ∧ n.toInt ≤ 4) (ifP ((g 2 f.toInt.toNat).toInt = 0) (Int32.ofInt (hgV T g f.toInt.toNat n.toInt.toNat top)) (-2)) (-1)
theorem hgA_y {T : tX} {g : gS} {f n top : Int32} (h : (0 ≤ f.toInt ∧ f.toInt < nfS T) ∧ 1 ≤ n.toInt ∧ n.toInt ≤ 4) (h2 : (g 2 f.toInt.toNat).toInt = 0) : hgA T g f n top = Int32.ofInt (hgV T g f.toInt.toNat n.toInt.toNat top) := (ifP_y h).trans (ifP_y h2)
theorem hgA_2 {T : tX} {g : gS} {f n top : Int32} (h : (0 ≤ f.toInt ∧ f.toInt < nfS T) ∧ 1 ≤ n.toInt ∧ n.toInt ≤ 4) (h2 : ¬ (g 2 f.toInt.toNat).toInt = 0) : hgA T g f n top = -2 := (ifP_y h).trans (ifP_n h2)
theorem hgA_n {T : tX} {g : gS} {f n top : Int32} (h : ¬ ((0 ≤ f.toInt ∧ f.toInt < nfS T) ∧ 1 ≤ n.toInt ∧ n.toInt ≤ 4)) : hgA T g f n top = -1 := ifP_n h
noncomputable def a_hangs (f n top : Int32) (σ : fG) : Int32 := hgA σ.2.1 σ.2.2.1 f n top
theorem dv32 {x y : Int32} {a b : Int} (hx : x.toInt = a) (hy : y.toInt = b) (h0 : 0 ≤ a) (h1 : 0 < b) : (x / y).toInt = a / b := by
  rw [Jvm.Kit.i32_div (fun z => by omega), hx, hy, Int.tdiv_eq_ediv_of_nonneg h0]
theorem dvL {x y : Int64} {a b : Int} (hx : x.toInt = a) (hy : y.toInt = b) (h0 : 0 ≤ a) (ha : a ≤ 100000000) (h1 : 0 < b) : (x / y).toInt32.toInt = a / b := by
  have e : (x / y).toInt = a / b := by
    rw [Jvm.Kit.i64_div (fun z => by omega), hx, hy, Int.tdiv_eq_ediv_of_nonneg h0]
  have l : 0 ≤ a / b := Int.ediv_nonneg h0 (by omega)
  have u : a / b ≤ a := Int.ediv_le_self b h0
  rw [Jvm.Kit.i32_of_i64 (by omega) (by omega), e]
theorem R_TJ {Ls : Nat} {xs : Nat → Int32} {d : Nat} {M : jm_M} {Q : Option Value → jm_h → Prop} {F : Nat → sy_d} {X1 X2 : List jm_c} (x y : Int64) (hok : jm_ok jm_YN M) (hl : (sy_e1 [.inr (.inr 69), .inr (.inr 70)]).length ≤ jm_mx M)
    (h : ∀ F0 : Nat → sy_d, (∀ j, j < 69 → F0 j = F j) → sy_l F0 69 = x → sy_l F0 70 = y → hd_W Ls xs d M Q (0, sy_dL F0 (sy_ent (jm_mx M) [.inr (.inr 69), .inr (.inr 70)]), [], sy_dh F0 X1 X2 (iv_H 4), 0, 0)) : jm_T Ls xs d M [.long x, .long y] (sy_dh F X1 X2 (iv_H 4)) 0 0 Q := by
  obtain ⟨F0, hF0⟩ : ∃ F0 : Nat → sy_d, F0 = fun j => if j = 69 then .inl (.long x) else if j = 70 then .inl (.long y) else F j := ⟨_, rfl⟩
  have e : ∀ j, j < 69 → F0 j = F j := fun j hj => by
    rw [hF0]
    dsimp only
    rw [if_neg (by omega), if_neg (by omega)]
  have e1 : F0 69 = .inl (.long x) := by rw [hF0]; rfl
  have e2 : F0 70 = .inl (.long y) := by rw [hF0]; rfl
  have hA : ([.inr (.inr 69), .inr (.inr 70)] : List sy_v).map (sy_dv F0) = [.long x, .long y] := by
    show [Value.long (sy_l F0 69), Value.long (sy_l F0 70)] = _
    rw [zz_l e1, zz_l e2]
  rw [nz_eH X1 X2 e, ← hA]
  exact hd_T hok hl (h F0 e (zz_l e1) (zz_l e2))
section HG0
variable {Ls : Nat} {xs : Nat → Int32} {T : tX} {g : gS} (F : Nat → sy_d) (X1 X2 : List jm_c)
theorem j0gd_L : ∀ (k : Nat) (F1 : Nat → sy_d) (a b i : Nat), i + 2 * k ≤ 64 → b < 2 ^ k → a ≤ 100000000 → b ≤ 100000000 → qC [] F F1 → (sy_i F1 82).toInt = a → (sy_i F1 83).toInt = b → (sy_i F1 84).toInt = i →
    hd_W Ls xs 1 jm_M131 (pI 0 X1 X2 (fun x F' => x.toInt = (Nat.gcd a b : Nat) ∧ qC [] F F')) (7, sy_dL F1 [none, none, some (.inr (.inl 82)), some (.inr (.inl 83)), some (.inr (.inl 84)), none], sy_dS F1 [], sy_dh F1 X1 X2 (iv_H 0), 0, 0)
  | 0, F1, a, b, i, hk, hb, ha, hb8, hq, e82, e83, e84 => by
    have b0 : b = 0 := by omega
    subst b0
    refine j0gd_7 (by decide) F1 X1 X2 hq.1 (by omega) (by omega) (by omega) ?_ ?_ ?_
    · intro c0 F2 hb2 gg
      exact ⟨_, F2, rfl, rfl, by rw [Nat.gcd_zero_right]; exact e82, qq_on hq hb2 gg (by decide)⟩
    · intro c0 c1 F2 hb2 gg
      exact ⟨_, F2, rfl, rfl, by rw [Nat.gcd_zero_right]; exact e82, qq_on hq hb2 gg (by decide)⟩
    · intros
      omega
  | k + 1, F1, a, b, i, hk, hb, ha, hb8, hq, e82, e83, e84 => by
    refine j0gd_7 (by decide) F1 X1 X2 hq.1 (by omega) (by omega) (by omega) ?_ ?_ ?_
    · intros
      omega
    · intro c0 c1 F2 hb2 gg
      have b0 : b = 0 := by omega
      subst b0
      exact ⟨_, F2, rfl, rfl, by rw [Nat.gcd_zero_right]; exact e82, qq_on hq hb2 gg (by decide)⟩
    · intro c0 c1 F2 hb2 gg f82 j82 f83 j83 f84 j84
      have bp : 0 < b := by omega
      have q2 : qC [] F F2 := qq_on hq hb2 gg (by decide)
      have r1 : (sy_i F2 83).toInt = ((a % b : Nat) : Int) := by
        rw [f83, iv_rem, e82, e83, Int.tmod_eq_emod_of_nonneg (by omega)]
        rfl
      have lr : a % b < b := Nat.mod_lt _ bp
      rw [gc_s a b]
      refine j0gd_7 (by decide) F2 X1 X2 q2.1 (by omega) (by omega) (by omega) ?_ ?_ ?_
      · intros
        omega
      · intro d0 d1 F3 hb3 g3
        have r0 : a % b = 0 := by omega
        exact ⟨_, F3, rfl, rfl, by rw [r0, Nat.gcd_zero_right]; omega, qq_on q2 hb3 g3 (by decide)⟩
      · intro d0 d1 F3 hb3 g3 h82 m82 h83 m83 h84 m84
        have rp : 0 < a % b := by omega
        have q3 : qC [] F F3 := qq_on q2 hb3 g3 (by decide)
        have r2 : (sy_i F3 83).toInt = ((b % (a % b) : Nat) : Int) := by
          rw [h83, iv_rem, f82, e83, r1, Int.tmod_eq_emod_of_nonneg (by omega)]
          rfl
        have l2 : b % (a % b) < a % b := Nat.mod_lt _ rp
        have l3 := md_s rp (Nat.le_of_lt lr)
        have p2 : 2 ^ (k + 1) = 2 ^ k * 2 := Nat.pow_succ 2 k
        rw [gc_s b (a % b)]
        exact j0gd_L k F3 (a % b) (b % (a % b)) (i + 2) (by omega) (by omega) (by omega) (by omega) q3 (by rw [h82]; exact r1) r2 (by omega)
theorem j0gd_V (hB : iv_in F iv_B0) (x y : Int32) {a b : Nat} (hx : x.toInt = a) (hy : y.toInt = b) (ha : a ≤ 100000000) (hb : b ≤ 100000000) : jm_T Ls xs 1 jm_M131 [.int x, .int y] (sy_dh F X1 X2 (iv_H 0)) 0 0 (pI 0 X1 X2 (fun z F' => z.toInt = (Nat.gcd a b : Nat) ∧ qC [] F F')) := by
  refine C_T (by decide) [x, y] [.inr (.inl 82), .inr (.inl 83)] jm_ok131 (by decide) rfl (fun F0 k0 ki => ?_)
  have i82 : sy_i F0 82 = x := ki 0
  have i83 : sy_i F0 83 = y := ki 1
  have z82 : (sy_i F0 82).toInt = a := (congrArg Int32.toInt i82).trans hx
  have z83 : (sy_i F0 83).toInt = b := (congrArg Int32.toInt i83).trans hy
  refine j0gd_0 (by decide) F0 X1 X2 (hd_iveq0 hB k0) (by omega) (by omega) ?_
  intro F1 hb1 gg f82 j82 f83 j83 f84 j84
  exact j0gd_L F X1 X2 27 F1 a b 0 (by decide) (Nat.lt_of_le_of_lt hb (by decide)) ha hb (qq_src (qq_mk hb1 gg (by decide)) k0) (by omega) (by omega) (by omega)
theorem j0hg_L (hC : xC 3 T F) {f : Nat} {top : Int32} {D : Nat} (hD : 1 ≤ D ∧ D ≤ 4) (hA : olA T g f (g 5 f) (sy_ai F 47) (sy_ai F 48) D) : ∀ (m : Nat) (F1 : Nat → sy_d) (n : Nat), n + m = D → qC [] F F1 → (sy_i F1 82).toInt = D → sy_i F1 83 = top → (sy_i F1 84).toInt = ltI T g f (g 5 f) n → (sy_i F1 85).toInt = hdI n → (sy_i F1 86).toInt = n →
    hd_W Ls xs 7 jm_M93 (pI 0 X1 X2 (fun x F' => x = Int32.ofInt (hgV T g f D top) ∧ qC [] F F')) (69, sy_dL F1 [some (.inl (.ref 8)), none, some (.inr (.inl 82)), some (.inr (.inl 83)), some (.inr (.inl 84)), some (.inr (.inl 85)), some (.inr (.inl 86))], sy_dS F1 [], sy_dh F1 X1 X2 (iv_H 0), 0, 0) := by
  intro m
  induction m with
  | zero =>
    intro F1 n hm hq e82 i83 e84 e85 e86
    have en : n = D := by omega
    subst en
    have dn := hdI_in n (by omega)
    have ln := ltI_in T g f (g 5 f) n (by omega)
    refine j0hg_69 (by decide) F1 X1 X2 hq.1 (by omega) (by omega) ?_ ?_
    · intro c0 F2 hb2 gg f82 j82 f83 j83 f84 j84 f85 j85 f86 j86
      have q2 : qC [] F F2 := qq_on hq hb2 gg (by decide)
      refine hd_calI (R := fun x F' => x.toInt = (Nat.gcd (ltI T g f (g 5 f) n).toNat (hdI n).toNat : Nat) ∧ qC [] F2 F') (nh := 82) (nv := 85) (s := 0) (s1 := 0) (d1 := 1) (M1 := jm_M131) (As := [.inr (.inl 85), .inr (.inl 86)]) (rest := []) jm_ok93 rfl rfl (by decide) (by decide +kernel) (j0gd_V F2 X1 X2 hb2 _ _ (by omega) (by omega) (by omega) (by omega)) (fun F3 F' x hR p1 p2 p3 => ?_)
      obtain ⟨r1, r2⟩ := hR
      have q3 : qC [] F F3 := qq_trans q2 (qC_dst r2 p1)
      have gp : 0 < Nat.gcd (ltI T g f (g 5 f) n).toNat (hdI n).toNat := Nat.gcd_pos_of_pos_right _ (by omega)
      have gu : Nat.gcd (ltI T g f (g 5 f) n).toNat (hdI n).toNat ≤ (hdI n).toNat := Nat.gcd_le_right _ (by omega)
      have k82 : (sy_i F3 82).toInt = top.toInt := by rw [nz_fi (p2 82 (by decide) (by decide)), f82, i83]
      have k83 : (sy_i F3 83).toInt = ltI T g f (g 5 f) n := by rw [nz_fi (p2 83 (by decide) (by decide)), f83]; exact e84
      have k84 : (sy_i F3 84).toInt = hdI n := by rw [nz_fi (p2 84 (by decide) (by decide)), f84]; exact e85
      have k85 : (sy_i F3 85).toInt = ((Nat.gcd (ltI T g f (g 5 f) n).toNat (hdI n).toNat : Nat) : Int) := by rw [zz_i p3]; exact r1
      refine j0hg_113 (by decide) F3 X1 X2 q3.1 (by omega) (by omega) (by omega) ?_ ?_
      · intro d0 d1 F4 hb4 g4
        refine ⟨_, F4, rfl, rfl, ?_, qq_on q3 hb4 g4 (by decide)⟩
        unfold hgV
        rw [if_pos (by omega)]
        exact (ofi (dv32 k83 k85 (by omega) (by omega))).symm
      · intro d0 d1 F4 hb4 g4
        refine ⟨_, F4, rfl, rfl, ?_, qq_on q3 hb4 g4 (by decide)⟩
        unfold hgV
        rw [if_neg (by omega)]
        exact (ofi (dv32 k84 k85 (by omega) (by omega))).symm
    · intros
      omega
  | succ m ih =>
    intro F1 n hm hq e82 i83 e84 e85 e86
    have dn := hdI_in n (by omega)
    have ln := ltI_in T g f (g 5 f) n (by omega)
    have dn1 := hdI_in (n + 1) (by omega)
    have ln1 := ltI_in T g f (g 5 f) (n + 1) (by omega)
    have cin := olC_in T g f (g 5 f) n
    refine j0hg_69 (by decide) F1 X1 X2 hq.1 (by omega) (by omega) ?_ ?_
    · intros
      omega
    · intro c0 F2 hb2 gg f82 j82 f83 j83 f84 j84 f85 j85 f86 j86
      have r47 : (sy_ai F1 47).getD (sy_i F1 86).toInt.toNat 0 = Int32.ofInt (olC T g f (g 5 f) n) := by
        rw [show (sy_i F1 86).toInt.toNat = n by omega, qq_a hq (j := 47) (by decide) (by decide)]
        exact (hA n (by omega)).1
      rw [r47] at f84
      have ec : ((100 : Int32) - Int32.ofInt (olC T g f (g 5 f) n)).toInt = 100 - olC T g f (g 5 f) n := by
        have e1 : (Int32.ofInt (olC T g f (g 5 f) n)).toInt = olC T g f (g 5 f) n := oi32 (by omega) (by omega)
        have e2 : (100 : Int32).toInt = 100 := by decide
        rw [Jvm.Kit.i32_sub (by omega) (by omega), e1, e2]
      refine ih F2 (n + 1) (by omega) (qq_on hq hb2 gg (by decide)) (by omega) (j83.trans i83) ?_ ?_ (by omega)
      · rw [f84]
        exact nz_mul e84 ec (show -2147483648 ≤ ltI T g f (g 5 f) (n + 1) by omega) (show ltI T g f (g 5 f) (n + 1) ≤ 2147483647 by omega)
      · rw [f85]
        exact nz_mul e85 (by decide : (100 : Int32).toInt = 100) (show -2147483648 ≤ hdI (n + 1) by omega) (show hdI (n + 1) ≤ 2147483647 by omega)
theorem j0hg_V (hC : xC 3 T F) (hG : gC 50 (nfS T) (nbS T) F g) (hO : okS T g) (f n top : Int32) : jm_T Ls xs 7 jm_M93 [.ref 8, .int f, .int n, .int top] (sy_dh F X1 X2 (iv_H 0)) 0 0 (pI 0 X1 X2 (fun x F' => x = hgA T g f n top ∧ qC [45, 46, 47, 48] F F')) := by
  have l7 : nfS T ≤ 7 := hC.2.2.1.1.1
  have enf : (sy_i F 3).toInt = (nfS T : Int) := hC.2.1.1.1
  refine C_T (by decide) [f, n, top] [.inl (.ref 8), .inr (.inl 82), .inr (.inl 83), .inr (.inl 84)] jm_ok93 (by decide) rfl (fun F0 k0 ki => ?_)
  have i82 : sy_i F0 82 = f := ki 0
  have i83 : sy_i F0 83 = n := ki 1
  have i84 : sy_i F0 84 = top := ki 2
  have z82 : (sy_i F0 82).toInt = f.toInt := congrArg Int32.toInt i82
  have z83 : (sy_i F0 83).toInt = n.toInt := congrArg Int32.toInt i83
  have enf0 : (sy_i F0 3).toInt = (nfS T : Int) := by rw [nz_fi (k0 3 (by decide))]; exact enf
  have rd : 0 ≤ f.toInt → f.toInt < nfS T → (sy_ai F0 54).getD (sy_i F0 82).toInt.toNat 0 = g 2 f.toInt.toNat := fun h1 h2 => by
    rw [nz_fa (k0 54 (by decide)), z82]
    exact hG.1 2 _ (by decide) (vF (by decide) (by omega))
  have bad : ∀ F1 : Nat → sy_d, iv_in F1 iv_B0 → (∀ j, j < 82 → j ∉ ([] : List Nat) → F1 j = F0 j) → ¬ ((0 ≤ f.toInt ∧ f.toInt < nfS T) ∧ 1 ≤ n.toInt ∧ n.toInt ≤ 4) → pI 0 X1 X2 (fun x F' => x = hgA T g f n top ∧ qC [45, 46, 47, 48] F F') (some (.int (-1 : Int32))) (sy_dh F1 X1 X2 (iv_H 0)) := fun F1 hb gg h => ⟨_, F1, rfl, rfl, by rw [hgA_n h], qq_src (qq_mk hb gg (by decide)) k0⟩
  refine j0hg_0 (by decide) F0 X1 X2 (hd_iveq0 hC.1 k0) ?_ ?_ ?_ ?_ ?_ ?_
  · intro c0 F1 hb gg
    exact bad F1 hb gg (by omega)
  · intro c0 c1 F1 hb gg
    exact bad F1 hb gg (by omega)
  · intro c0 c1 c2 F1 hb gg
    exact bad F1 hb gg (by omega)
  · intro c0 c1 c2 c3 F1 hb gg
    exact bad F1 hb gg (by omega)
  · intro c0 c1 c2 c3 c4 F1 hb gg f82 j82 f83 j83 f84 j84 f85 j85 f86 j86 f87 j87
    rw [rd (by omega) (by omega)] at c4
    have hf : 0 ≤ f.toInt ∧ f.toInt < nfS T := ⟨by omega, by omega⟩
    have hn : f.toInt.toNat < nfS T := by omega
    have hl : g 4 f.toInt.toNat = 0 := (hO.2.1 _ hn c4).1
    rw [hgA_y ⟨hf, by omega, by omega⟩ c4]
    have q1 : qC [] F F1 := qq_src (qq_mk hb gg (by decide)) k0
    have c1' := xC_q (by decide) hC q1 (by decide)
    have g1 : gC 50 (nfS T) (nbS T) F1 g := gC_eq hG (fun j h1 h2 => q1.2 j (by omega) (by simp))
    have k85 : sy_i F1 85 = f := j85.trans i82
    have k86 : sy_i F1 86 = n := j86.trans i83
    have k87 : sy_i F1 87 = g 5 f.toInt.toNat := by
      rw [j87, nz_fa (k0 57 (by decide)), z82]
      exact hG.1 5 _ (by decide) (vF (by decide) hn)
    refine hd_calV (R := fun F' => qC [45, 46, 47, 48] F1 F' ∧ olA T g (sy_i F1 85).toInt.toNat (sy_i F1 87) (sy_ai F' 47) (sy_ai F' 48) (sy_i F1 86).toInt.toNat) (nh := 82) (nv := 85) (s := 0) (s1 := 0) (d1 := 6) (M1 := jm_M25) (As := [.inl (.ref 42), .inl (.ref 10), .inl (.ref 46), .inr (.inl 85), .inr (.inl 86), .inr (.inl 87)]) (rest := []) jm_ok93 rfl rfl (by decide) (by decide +kernel) (j0ol_V F1 X1 X2 c1' g1 _ _ _ (by rw [k85]; exact hf) (by rw [k85]; exact hl) (by rw [k86]; omega)) (fun F3 F' hR p1 p2 => ?_)
    obtain ⟨r1, r2⟩ := hR
    rw [k85, k86, k87] at r2
    have q3 : qC [45, 46, 47, 48] F F3 := qq_trans (qq_up q1 (by decide)) (qC_dst r1 p1)
    have A3 : olA T g f.toInt.toNat (g 5 f.toInt.toNat) (sy_ai F3 47) (sy_ai F3 48) n.toInt.toNat := by
      rw [nz_fa (p1 47 (by decide)), nz_fa (p1 48 (by decide))]
      exact r2
    have k83 : sy_i F3 83 = n := (eI (p2 83 (by decide) (by decide))).trans (j83.trans i83)
    have k84 : sy_i F3 84 = top := (eI (p2 84 (by decide) (by decide))).trans (j84.trans i84)
    refine j0hg_60 (by decide) F3 X1 X2 q3.1 ?_
    intro F4 hb4 g4 h82 m82 h83 m83 h84 m84 h85 m85 h86 m86
    refine hd_mono (j0hg_L F3 X1 X2 (xC_q (by decide) hC q3 (by decide)) (D := n.toInt.toNat) (top := top) (by omega) A3 n.toInt.toNat F4 0 (by omega) (qq_mk hb4 g4 (by decide)) (by rw [h82, k83]; omega) (m83.trans k84) h84 h85 h86) ?_
    rintro v G ⟨x, F5, e1, e2, e3, e4⟩
    exact ⟨x, F5, e1, e2, e3, qq_trans q3 (qq_up e4 (by decide))⟩
  · intro c0 c1 c2 c3 c4 F1 hb gg
    rw [rd (by omega) (by omega)] at c4
    exact ⟨_, F1, rfl, rfl, by rw [hgA_2 ⟨⟨by omega, by omega⟩, by omega, by omega⟩ c4], qq_src (qq_mk hb gg (by decide)) k0⟩
end HG0
section HG1
variable {Ls : Nat} {xs : Nat → Int32} {T : tX} {g : gS} (F : Nat → sy_d) (X1 X2 : List jm_c)
theorem j1gd_L : ∀ (k : Nat) (F1 : Nat → sy_d) (a b i : Nat), i + 2 * k ≤ 64 → b < 2 ^ k → a ≤ 100000000 → b ≤ 100000000 → qC [] F F1 → (sy_i F1 82).toInt = a → (sy_i F1 83).toInt = b → (sy_i F1 84).toInt = i →
    hd_W Ls xs 1 jm_M131 (pI 1 X1 X2 (fun x F' => x.toInt = (Nat.gcd a b : Nat) ∧ qC [] F F')) (7, sy_dL F1 [none, none, some (.inr (.inl 82)), some (.inr (.inl 83)), some (.inr (.inl 84)), none], sy_dS F1 [], sy_dh F1 X1 X2 (iv_H 1), 0, 0)
  | 0, F1, a, b, i, hk, hb, ha, hb8, hq, e82, e83, e84 => by
    have b0 : b = 0 := by omega
    subst b0
    refine j1gd_7 (by decide) F1 X1 X2 hq.1 (by omega) (by omega) (by omega) ?_ ?_ ?_
    · intro c0 F2 hb2 gg
      exact ⟨_, F2, rfl, rfl, by rw [Nat.gcd_zero_right]; exact e82, qq_on hq hb2 gg (by decide)⟩
    · intro c0 c1 F2 hb2 gg
      exact ⟨_, F2, rfl, rfl, by rw [Nat.gcd_zero_right]; exact e82, qq_on hq hb2 gg (by decide)⟩
    · intros
      omega
  | k + 1, F1, a, b, i, hk, hb, ha, hb8, hq, e82, e83, e84 => by
    refine j1gd_7 (by decide) F1 X1 X2 hq.1 (by omega) (by omega) (by omega) ?_ ?_ ?_
    · intros
      omega
    · intro c0 c1 F2 hb2 gg
      have b0 : b = 0 := by omega
      subst b0
      exact ⟨_, F2, rfl, rfl, by rw [Nat.gcd_zero_right]; exact e82, qq_on hq hb2 gg (by decide)⟩
    · intro c0 c1 F2 hb2 gg f82 j82 f83 j83 f84 j84
      have bp : 0 < b := by omega
      have q2 : qC [] F F2 := qq_on hq hb2 gg (by decide)
      have r1 : (sy_i F2 83).toInt = ((a % b : Nat) : Int) := by
        rw [f83, iv_rem, e82, e83, Int.tmod_eq_emod_of_nonneg (by omega)]
        rfl
      have lr : a % b < b := Nat.mod_lt _ bp
      rw [gc_s a b]
      refine j1gd_7 (by decide) F2 X1 X2 q2.1 (by omega) (by omega) (by omega) ?_ ?_ ?_
      · intros
        omega
      · intro d0 d1 F3 hb3 g3
        have r0 : a % b = 0 := by omega
        exact ⟨_, F3, rfl, rfl, by rw [r0, Nat.gcd_zero_right]; omega, qq_on q2 hb3 g3 (by decide)⟩
      · intro d0 d1 F3 hb3 g3 h82 m82 h83 m83 h84 m84
        have rp : 0 < a % b := by omega
        have q3 : qC [] F F3 := qq_on q2 hb3 g3 (by decide)
        have r2 : (sy_i F3 83).toInt = ((b % (a % b) : Nat) : Int) := by
          rw [h83, iv_rem, f82, e83, r1, Int.tmod_eq_emod_of_nonneg (by omega)]
          rfl
        have l2 : b % (a % b) < a % b := Nat.mod_lt _ rp
        have l3 := md_s rp (Nat.le_of_lt lr)
        have p2 : 2 ^ (k + 1) = 2 ^ k * 2 := Nat.pow_succ 2 k
        rw [gc_s b (a % b)]
        exact j1gd_L k F3 (a % b) (b % (a % b)) (i + 2) (by omega) (by omega) (by omega) (by omega) q3 (by rw [h82]; exact r1) r2 (by omega)
theorem j1gd_V (hB : iv_in F iv_B0) (x y : Int32) {a b : Nat} (hx : x.toInt = a) (hy : y.toInt = b) (ha : a ≤ 100000000) (hb : b ≤ 100000000) : jm_T Ls xs 1 jm_M131 [.int x, .int y] (sy_dh F X1 X2 (iv_H 1)) 0 0 (pI 1 X1 X2 (fun z F' => z.toInt = (Nat.gcd a b : Nat) ∧ qC [] F F')) := by
  refine C_T (by decide) [x, y] [.inr (.inl 82), .inr (.inl 83)] jm_ok131 (by decide) rfl (fun F0 k0 ki => ?_)
  have i82 : sy_i F0 82 = x := ki 0
  have i83 : sy_i F0 83 = y := ki 1
  have z82 : (sy_i F0 82).toInt = a := (congrArg Int32.toInt i82).trans hx
  have z83 : (sy_i F0 83).toInt = b := (congrArg Int32.toInt i83).trans hy
  refine j1gd_0 (by decide) F0 X1 X2 (hd_iveq0 hB k0) (by omega) (by omega) ?_
  intro F1 hb1 gg f82 j82 f83 j83 f84 j84
  exact j1gd_L F X1 X2 27 F1 a b 0 (by decide) (Nat.lt_of_le_of_lt hb (by decide)) ha hb (qq_src (qq_mk hb1 gg (by decide)) k0) (by omega) (by omega) (by omega)
theorem j1hg_L (hC : xC 3 T F) {f : Nat} {top : Int32} {D : Nat} (hD : 1 ≤ D ∧ D ≤ 4) (hA : olA T g f (g 5 f) (sy_ai F 47) (sy_ai F 48) D) : ∀ (m : Nat) (F1 : Nat → sy_d) (n : Nat), n + m = D → qC [] F F1 → (sy_i F1 82).toInt = D → sy_i F1 83 = top → (sy_i F1 84).toInt = ltI T g f (g 5 f) n → (sy_i F1 85).toInt = hdI n → (sy_i F1 86).toInt = n →
    hd_W Ls xs 7 jm_M93 (pI 1 X1 X2 (fun x F' => x = Int32.ofInt (hgV T g f D top) ∧ qC [] F F')) (69, sy_dL F1 [some (.inl (.ref 8)), none, some (.inr (.inl 82)), some (.inr (.inl 83)), some (.inr (.inl 84)), some (.inr (.inl 85)), some (.inr (.inl 86))], sy_dS F1 [], sy_dh F1 X1 X2 (iv_H 1), 0, 0) := by
  intro m
  induction m with
  | zero =>
    intro F1 n hm hq e82 i83 e84 e85 e86
    have en : n = D := by omega
    subst en
    have dn := hdI_in n (by omega)
    have ln := ltI_in T g f (g 5 f) n (by omega)
    refine j1hg_69 (by decide) F1 X1 X2 hq.1 (by omega) (by omega) ?_ ?_
    · intro c0 F2 hb2 gg f82 j82 f83 j83 f84 j84 f85 j85 f86 j86
      have q2 : qC [] F F2 := qq_on hq hb2 gg (by decide)
      refine hd_calI (R := fun x F' => x.toInt = (Nat.gcd (ltI T g f (g 5 f) n).toNat (hdI n).toNat : Nat) ∧ qC [] F2 F') (nh := 82) (nv := 85) (s := 1) (s1 := 1) (d1 := 1) (M1 := jm_M131) (As := [.inr (.inl 85), .inr (.inl 86)]) (rest := []) jm_ok93 rfl rfl (by decide) (by decide +kernel) (j1gd_V F2 X1 X2 hb2 _ _ (by omega) (by omega) (by omega) (by omega)) (fun F3 F' x hR p1 p2 p3 => ?_)
      obtain ⟨r1, r2⟩ := hR
      have q3 : qC [] F F3 := qq_trans q2 (qC_dst r2 p1)
      have gp : 0 < Nat.gcd (ltI T g f (g 5 f) n).toNat (hdI n).toNat := Nat.gcd_pos_of_pos_right _ (by omega)
      have gu : Nat.gcd (ltI T g f (g 5 f) n).toNat (hdI n).toNat ≤ (hdI n).toNat := Nat.gcd_le_right _ (by omega)
      have k82 : (sy_i F3 82).toInt = top.toInt := by rw [nz_fi (p2 82 (by decide) (by decide)), f82, i83]
      have k83 : (sy_i F3 83).toInt = ltI T g f (g 5 f) n := by rw [nz_fi (p2 83 (by decide) (by decide)), f83]; exact e84
      have k84 : (sy_i F3 84).toInt = hdI n := by rw [nz_fi (p2 84 (by decide) (by decide)), f84]; exact e85
      have k85 : (sy_i F3 85).toInt = ((Nat.gcd (ltI T g f (g 5 f) n).toNat (hdI n).toNat : Nat) : Int) := by rw [zz_i p3]; exact r1
      refine j1hg_113 (by decide) F3 X1 X2 q3.1 (by omega) (by omega) (by omega) ?_ ?_
      · intro d0 d1 F4 hb4 g4
        refine ⟨_, F4, rfl, rfl, ?_, qq_on q3 hb4 g4 (by decide)⟩
        unfold hgV
        rw [if_pos (by omega)]
        exact (ofi (dv32 k83 k85 (by omega) (by omega))).symm
      · intro d0 d1 F4 hb4 g4
        refine ⟨_, F4, rfl, rfl, ?_, qq_on q3 hb4 g4 (by decide)⟩
        unfold hgV
        rw [if_neg (by omega)]
        exact (ofi (dv32 k84 k85 (by omega) (by omega))).symm
    · intros
      omega
  | succ m ih =>
    intro F1 n hm hq e82 i83 e84 e85 e86
    have dn := hdI_in n (by omega)
    have ln := ltI_in T g f (g 5 f) n (by omega)
    have dn1 := hdI_in (n + 1) (by omega)
    have ln1 := ltI_in T g f (g 5 f) (n + 1) (by omega)
    have cin := olC_in T g f (g 5 f) n
    refine j1hg_69 (by decide) F1 X1 X2 hq.1 (by omega) (by omega) ?_ ?_
    · intros
      omega
    · intro c0 F2 hb2 gg f82 j82 f83 j83 f84 j84 f85 j85 f86 j86
      have r47 : (sy_ai F1 47).getD (sy_i F1 86).toInt.toNat 0 = Int32.ofInt (olC T g f (g 5 f) n) := by
        rw [show (sy_i F1 86).toInt.toNat = n by omega, qq_a hq (j := 47) (by decide) (by decide)]
        exact (hA n (by omega)).1
      rw [r47] at f84
      have ec : ((100 : Int32) - Int32.ofInt (olC T g f (g 5 f) n)).toInt = 100 - olC T g f (g 5 f) n := by
        have e1 : (Int32.ofInt (olC T g f (g 5 f) n)).toInt = olC T g f (g 5 f) n := oi32 (by omega) (by omega)
        have e2 : (100 : Int32).toInt = 100 := by decide
        rw [Jvm.Kit.i32_sub (by omega) (by omega), e1, e2]
      refine ih F2 (n + 1) (by omega) (qq_on hq hb2 gg (by decide)) (by omega) (j83.trans i83) ?_ ?_ (by omega)
      · rw [f84]
        exact nz_mul e84 ec (show -2147483648 ≤ ltI T g f (g 5 f) (n + 1) by omega) (show ltI T g f (g 5 f) (n + 1) ≤ 2147483647 by omega)
      · rw [f85]
        exact nz_mul e85 (by decide : (100 : Int32).toInt = 100) (show -2147483648 ≤ hdI (n + 1) by omega) (show hdI (n + 1) ≤ 2147483647 by omega)
theorem j1hg_V (hC : xC 3 T F) (hG : gC 50 (nfS T) (nbS T) F g) (hO : okS T g) (f n top : Int32) : jm_T Ls xs 7 jm_M93 [.ref 8, .int f, .int n, .int top] (sy_dh F X1 X2 (iv_H 1)) 0 0 (pI 1 X1 X2 (fun x F' => x = hgA T g f n top ∧ qC [45, 46, 47, 48] F F')) := by
  have l7 : nfS T ≤ 7 := hC.2.2.1.1.1
  have enf : (sy_i F 3).toInt = (nfS T : Int) := hC.2.1.1.1
  refine C_T (by decide) [f, n, top] [.inl (.ref 8), .inr (.inl 82), .inr (.inl 83), .inr (.inl 84)] jm_ok93 (by decide) rfl (fun F0 k0 ki => ?_)
  have i82 : sy_i F0 82 = f := ki 0
  have i83 : sy_i F0 83 = n := ki 1
  have i84 : sy_i F0 84 = top := ki 2
  have z82 : (sy_i F0 82).toInt = f.toInt := congrArg Int32.toInt i82
  have z83 : (sy_i F0 83).toInt = n.toInt := congrArg Int32.toInt i83
  have enf0 : (sy_i F0 3).toInt = (nfS T : Int) := by rw [nz_fi (k0 3 (by decide))]; exact enf
  have rd : 0 ≤ f.toInt → f.toInt < nfS T → (sy_ai F0 54).getD (sy_i F0 82).toInt.toNat 0 = g 2 f.toInt.toNat := fun h1 h2 => by
    rw [nz_fa (k0 54 (by decide)), z82]
    exact hG.1 2 _ (by decide) (vF (by decide) (by omega))
  have bad : ∀ F1 : Nat → sy_d, iv_in F1 iv_B0 → (∀ j, j < 82 → j ∉ ([] : List Nat) → F1 j = F0 j) → ¬ ((0 ≤ f.toInt ∧ f.toInt < nfS T) ∧ 1 ≤ n.toInt ∧ n.toInt ≤ 4) → pI 1 X1 X2 (fun x F' => x = hgA T g f n top ∧ qC [45, 46, 47, 48] F F') (some (.int (-1 : Int32))) (sy_dh F1 X1 X2 (iv_H 1)) := fun F1 hb gg h => ⟨_, F1, rfl, rfl, by rw [hgA_n h], qq_src (qq_mk hb gg (by decide)) k0⟩
  refine j1hg_0 (by decide) F0 X1 X2 (hd_iveq0 hC.1 k0) ?_ ?_ ?_ ?_ ?_ ?_
  · intro c0 F1 hb gg
    exact bad F1 hb gg (by omega)
  · intro c0 c1 F1 hb gg
    exact bad F1 hb gg (by omega)
  · intro c0 c1 c2 F1 hb gg
    exact bad F1 hb gg (by omega)
  · intro c0 c1 c2 c3 F1 hb gg
    exact bad F1 hb gg (by omega)
  · intro c0 c1 c2 c3 c4 F1 hb gg f82 j82 f83 j83 f84 j84 f85 j85 f86 j86 f87 j87
    rw [rd (by omega) (by omega)] at c4
    have hf : 0 ≤ f.toInt ∧ f.toInt < nfS T := ⟨by omega, by omega⟩
    have hn : f.toInt.toNat < nfS T := by omega
    have hl : g 4 f.toInt.toNat = 0 := (hO.2.1 _ hn c4).1
    rw [hgA_y ⟨hf, by omega, by omega⟩ c4]
    have q1 : qC [] F F1 := qq_src (qq_mk hb gg (by decide)) k0
    have c1' := xC_q (by decide) hC q1 (by decide)
    have g1 : gC 50 (nfS T) (nbS T) F1 g := gC_eq hG (fun j h1 h2 => q1.2 j (by omega) (by simp))
    have k85 : sy_i F1 85 = f := j85.trans i82
    have k86 : sy_i F1 86 = n := j86.trans i83
    have k87 : sy_i F1 87 = g 5 f.toInt.toNat := by
      rw [j87, nz_fa (k0 57 (by decide)), z82]
      exact hG.1 5 _ (by decide) (vF (by decide) hn)
    refine hd_calV (R := fun F' => qC [45, 46, 47, 48] F1 F' ∧ olA T g (sy_i F1 85).toInt.toNat (sy_i F1 87) (sy_ai F' 47) (sy_ai F' 48) (sy_i F1 86).toInt.toNat) (nh := 82) (nv := 85) (s := 1) (s1 := 1) (d1 := 6) (M1 := jm_M25) (As := [.inl (.ref 42), .inl (.ref 10), .inl (.ref 46), .inr (.inl 85), .inr (.inl 86), .inr (.inl 87)]) (rest := []) jm_ok93 rfl rfl (by decide) (by decide +kernel) (j1ol_V F1 X1 X2 c1' g1 _ _ _ (by rw [k85]; exact hf) (by rw [k85]; exact hl) (by rw [k86]; omega)) (fun F3 F' hR p1 p2 => ?_)
    obtain ⟨r1, r2⟩ := hR
    rw [k85, k86, k87] at r2
    have q3 : qC [45, 46, 47, 48] F F3 := qq_trans (qq_up q1 (by decide)) (qC_dst r1 p1)
    have A3 : olA T g f.toInt.toNat (g 5 f.toInt.toNat) (sy_ai F3 47) (sy_ai F3 48) n.toInt.toNat := by
      rw [nz_fa (p1 47 (by decide)), nz_fa (p1 48 (by decide))]
      exact r2
    have k83 : sy_i F3 83 = n := (eI (p2 83 (by decide) (by decide))).trans (j83.trans i83)
    have k84 : sy_i F3 84 = top := (eI (p2 84 (by decide) (by decide))).trans (j84.trans i84)
    refine j1hg_60 (by decide) F3 X1 X2 q3.1 ?_
    intro F4 hb4 g4 h82 m82 h83 m83 h84 m84 h85 m85 h86 m86
    refine hd_mono (j1hg_L F3 X1 X2 (xC_q (by decide) hC q3 (by decide)) (D := n.toInt.toNat) (top := top) (by omega) A3 n.toInt.toNat F4 0 (by omega) (qq_mk hb4 g4 (by decide)) (by rw [h82, k83]; omega) (m83.trans k84) h84 h85 h86) ?_
    rintro v G ⟨x, F5, e1, e2, e3, e4⟩
    exact ⟨x, F5, e1, e2, e3, qq_trans q3 (qq_up e4 (by decide))⟩
  · intro c0 c1 c2 c3 c4 F1 hb gg
    rw [rd (by omega) (by omega)] at c4
    exact ⟨_, F1, rfl, rfl, by rw [hgA_2 ⟨⟨by omega, by omega⟩, by omega, by omega⟩ c4], qq_src (qq_mk hb gg (by decide)) k0⟩
end HG1
section HG2
variable {Ls : Nat} {xs : Nat → Int32} {T : tX} {g : gS} (F : Nat → sy_d) (X1 X2 : List jm_c)
theorem j2gd_L : ∀ (k : Nat) (F1 : Nat → sy_d) (a b i : Nat), i + 2 * k ≤ 64 → b < 2 ^ k → a ≤ 100000000 → b ≤ 100000000 → qC [] F F1 → (sy_i F1 82).toInt = a → (sy_i F1 83).toInt = b → (sy_i F1 84).toInt = i →
    hd_W Ls xs 1 jm_M131 (pI 2 X1 X2 (fun x F' => x.toInt = (Nat.gcd a b : Nat) ∧ qC [] F F')) (7, sy_dL F1 [none, none, some (.inr (.inl 82)), some (.inr (.inl 83)), some (.inr (.inl 84)), none], sy_dS F1 [], sy_dh F1 X1 X2 (iv_H 2), 0, 0)
  | 0, F1, a, b, i, hk, hb, ha, hb8, hq, e82, e83, e84 => by
    have b0 : b = 0 := by omega
    subst b0
    refine j2gd_7 (by decide) F1 X1 X2 hq.1 (by omega) (by omega) (by omega) ?_ ?_ ?_
    · intro c0 F2 hb2 gg
      exact ⟨_, F2, rfl, rfl, by rw [Nat.gcd_zero_right]; exact e82, qq_on hq hb2 gg (by decide)⟩
    · intro c0 c1 F2 hb2 gg
      exact ⟨_, F2, rfl, rfl, by rw [Nat.gcd_zero_right]; exact e82, qq_on hq hb2 gg (by decide)⟩
    · intros
      omega
  | k + 1, F1, a, b, i, hk, hb, ha, hb8, hq, e82, e83, e84 => by
    refine j2gd_7 (by decide) F1 X1 X2 hq.1 (by omega) (by omega) (by omega) ?_ ?_ ?_
    · intros
      omega
    · intro c0 c1 F2 hb2 gg
      have b0 : b = 0 := by omega
      subst b0
      exact ⟨_, F2, rfl, rfl, by rw [Nat.gcd_zero_right]; exact e82, qq_on hq hb2 gg (by decide)⟩
    · intro c0 c1 F2 hb2 gg f82 j82 f83 j83 f84 j84
      have bp : 0 < b := by omega
      have q2 : qC [] F F2 := qq_on hq hb2 gg (by decide)
      have r1 : (sy_i F2 83).toInt = ((a % b : Nat) : Int) := by
        rw [f83, iv_rem, e82, e83, Int.tmod_eq_emod_of_nonneg (by omega)]
        rfl
      have lr : a % b < b := Nat.mod_lt _ bp
      rw [gc_s a b]
      refine j2gd_7 (by decide) F2 X1 X2 q2.1 (by omega) (by omega) (by omega) ?_ ?_ ?_
      · intros
        omega
      · intro d0 d1 F3 hb3 g3
        have r0 : a % b = 0 := by omega
        exact ⟨_, F3, rfl, rfl, by rw [r0, Nat.gcd_zero_right]; omega, qq_on q2 hb3 g3 (by decide)⟩
      · intro d0 d1 F3 hb3 g3 h82 m82 h83 m83 h84 m84
        have rp : 0 < a % b := by omega
        have q3 : qC [] F F3 := qq_on q2 hb3 g3 (by decide)
        have r2 : (sy_i F3 83).toInt = ((b % (a % b) : Nat) : Int) := by
          rw [h83, iv_rem, f82, e83, r1, Int.tmod_eq_emod_of_nonneg (by omega)]
          rfl
        have l2 : b % (a % b) < a % b := Nat.mod_lt _ rp
        have l3 := md_s rp (Nat.le_of_lt lr)
        have p2 : 2 ^ (k + 1) = 2 ^ k * 2 := Nat.pow_succ 2 k
        rw [gc_s b (a % b)]
        exact j2gd_L k F3 (a % b) (b % (a % b)) (i + 2) (by omega) (by omega) (by omega) (by omega) q3 (by rw [h82]; exact r1) r2 (by omega)
theorem j2gd_V (hB : iv_in F iv_B0) (x y : Int32) {a b : Nat} (hx : x.toInt = a) (hy : y.toInt = b) (ha : a ≤ 100000000) (hb : b ≤ 100000000) : jm_T Ls xs 1 jm_M131 [.int x, .int y] (sy_dh F X1 X2 (iv_H 2)) 0 0 (pI 2 X1 X2 (fun z F' => z.toInt = (Nat.gcd a b : Nat) ∧ qC [] F F')) := by
  refine C_T (by decide) [x, y] [.inr (.inl 82), .inr (.inl 83)] jm_ok131 (by decide) rfl (fun F0 k0 ki => ?_)
  have i82 : sy_i F0 82 = x := ki 0
  have i83 : sy_i F0 83 = y := ki 1
  have z82 : (sy_i F0 82).toInt = a := (congrArg Int32.toInt i82).trans hx
  have z83 : (sy_i F0 83).toInt = b := (congrArg Int32.toInt i83).trans hy
  refine j2gd_0 (by decide) F0 X1 X2 (hd_iveq0 hB k0) (by omega) (by omega) ?_
  intro F1 hb1 gg f82 j82 f83 j83 f84 j84
  exact j2gd_L F X1 X2 27 F1 a b 0 (by decide) (Nat.lt_of_le_of_lt hb (by decide)) ha hb (qq_src (qq_mk hb1 gg (by decide)) k0) (by omega) (by omega) (by omega)
theorem j2hg_L (hC : xC 18 T F) {f : Nat} {top : Int32} {D : Nat} (hD : 1 ≤ D ∧ D ≤ 4) (hA : olA T g f (g 5 f) (sy_ai F 47) (sy_ai F 48) D) : ∀ (m : Nat) (F1 : Nat → sy_d) (n : Nat), n + m = D → qC [] F F1 → (sy_i F1 82).toInt = D → sy_i F1 83 = top → (sy_i F1 84).toInt = ltI T g f (g 5 f) n → (sy_i F1 85).toInt = hdI n → (sy_i F1 86).toInt = n →
    hd_W Ls xs 7 jm_M93 (pI 2 X1 X2 (fun x F' => x = Int32.ofInt (hgV T g f D top) ∧ qC [] F F')) (69, sy_dL F1 [some (.inl (.ref 8)), none, some (.inr (.inl 82)), some (.inr (.inl 83)), some (.inr (.inl 84)), some (.inr (.inl 85)), some (.inr (.inl 86))], sy_dS F1 [], sy_dh F1 X1 X2 (iv_H 2), 0, 0) := by
  intro m
  induction m with
  | zero =>
    intro F1 n hm hq e82 i83 e84 e85 e86
    have en : n = D := by omega
    subst en
    have dn := hdI_in n (by omega)
    have ln := ltI_in T g f (g 5 f) n (by omega)
    refine j2hg_69 (by decide) F1 X1 X2 hq.1 (by omega) (by omega) ?_ ?_
    · intro c0 F2 hb2 gg f82 j82 f83 j83 f84 j84 f85 j85 f86 j86
      have q2 : qC [] F F2 := qq_on hq hb2 gg (by decide)
      refine hd_calI (R := fun x F' => x.toInt = (Nat.gcd (ltI T g f (g 5 f) n).toNat (hdI n).toNat : Nat) ∧ qC [] F2 F') (nh := 82) (nv := 85) (s := 2) (s1 := 2) (d1 := 1) (M1 := jm_M131) (As := [.inr (.inl 85), .inr (.inl 86)]) (rest := []) jm_ok93 rfl rfl (by decide) (by decide +kernel) (j2gd_V F2 X1 X2 hb2 _ _ (by omega) (by omega) (by omega) (by omega)) (fun F3 F' x hR p1 p2 p3 => ?_)
      obtain ⟨r1, r2⟩ := hR
      have q3 : qC [] F F3 := qq_trans q2 (qC_dst r2 p1)
      have gp : 0 < Nat.gcd (ltI T g f (g 5 f) n).toNat (hdI n).toNat := Nat.gcd_pos_of_pos_right _ (by omega)
      have gu : Nat.gcd (ltI T g f (g 5 f) n).toNat (hdI n).toNat ≤ (hdI n).toNat := Nat.gcd_le_right _ (by omega)
      have k82 : (sy_i F3 82).toInt = top.toInt := by rw [nz_fi (p2 82 (by decide) (by decide)), f82, i83]
      have k83 : (sy_i F3 83).toInt = ltI T g f (g 5 f) n := by rw [nz_fi (p2 83 (by decide) (by decide)), f83]; exact e84
      have k84 : (sy_i F3 84).toInt = hdI n := by rw [nz_fi (p2 84 (by decide) (by decide)), f84]; exact e85
      have k85 : (sy_i F3 85).toInt = ((Nat.gcd (ltI T g f (g 5 f) n).toNat (hdI n).toNat : Nat) : Int) := by rw [zz_i p3]; exact r1
      refine j2hg_113 (by decide) F3 X1 X2 q3.1 (by omega) (by omega) (by omega) ?_ ?_
      · intro d0 d1 F4 hb4 g4
        refine ⟨_, F4, rfl, rfl, ?_, qq_on q3 hb4 g4 (by decide)⟩
        unfold hgV
        rw [if_pos (by omega)]
        exact (ofi (dv32 k83 k85 (by omega) (by omega))).symm
      · intro d0 d1 F4 hb4 g4
        refine ⟨_, F4, rfl, rfl, ?_, qq_on q3 hb4 g4 (by decide)⟩
        unfold hgV
        rw [if_neg (by omega)]
        exact (ofi (dv32 k84 k85 (by omega) (by omega))).symm
    · intros
      omega
  | succ m ih =>
    intro F1 n hm hq e82 i83 e84 e85 e86
    have dn := hdI_in n (by omega)
    have ln := ltI_in T g f (g 5 f) n (by omega)
    have dn1 := hdI_in (n + 1) (by omega)
    have ln1 := ltI_in T g f (g 5 f) (n + 1) (by omega)
    have cin := olC_in T g f (g 5 f) n
    refine j2hg_69 (by decide) F1 X1 X2 hq.1 (by omega) (by omega) ?_ ?_
    · intros
      omega
    · intro c0 F2 hb2 gg f82 j82 f83 j83 f84 j84 f85 j85 f86 j86
      have r47 : (sy_ai F1 47).getD (sy_i F1 86).toInt.toNat 0 = Int32.ofInt (olC T g f (g 5 f) n) := by
        rw [show (sy_i F1 86).toInt.toNat = n by omega, qq_a hq (j := 47) (by decide) (by decide)]
        exact (hA n (by omega)).1
      rw [r47] at f84
      have ec : ((100 : Int32) - Int32.ofInt (olC T g f (g 5 f) n)).toInt = 100 - olC T g f (g 5 f) n := by
        have e1 : (Int32.ofInt (olC T g f (g 5 f) n)).toInt = olC T g f (g 5 f) n := oi32 (by omega) (by omega)
        have e2 : (100 : Int32).toInt = 100 := by decide
        rw [Jvm.Kit.i32_sub (by omega) (by omega), e1, e2]
      refine ih F2 (n + 1) (by omega) (qq_on hq hb2 gg (by decide)) (by omega) (j83.trans i83) ?_ ?_ (by omega)
      · rw [f84]
        exact nz_mul e84 ec (show -2147483648 ≤ ltI T g f (g 5 f) (n + 1) by omega) (show ltI T g f (g 5 f) (n + 1) ≤ 2147483647 by omega)
      · rw [f85]
        exact nz_mul e85 (by decide : (100 : Int32).toInt = 100) (show -2147483648 ≤ hdI (n + 1) by omega) (show hdI (n + 1) ≤ 2147483647 by omega)
theorem j2hg_V (hC : xC 18 T F) (hG : gC 50 (nfS T) (nbS T) F g) (hO : okS T g) (f n top : Int32) : jm_T Ls xs 7 jm_M93 [.ref 8, .int f, .int n, .int top] (sy_dh F X1 X2 (iv_H 2)) 0 0 (pI 2 X1 X2 (fun x F' => x = hgA T g f n top ∧ qC [45, 46, 47, 48] F F')) := by
  have l7 : nfS T ≤ 7 := hC.2.2.1.1.1
  have enf : (sy_i F 18).toInt = (nfS T : Int) := hC.2.1.1.1
  refine C_T (by decide) [f, n, top] [.inl (.ref 8), .inr (.inl 82), .inr (.inl 83), .inr (.inl 84)] jm_ok93 (by decide) rfl (fun F0 k0 ki => ?_)
  have i82 : sy_i F0 82 = f := ki 0
  have i83 : sy_i F0 83 = n := ki 1
  have i84 : sy_i F0 84 = top := ki 2
  have z82 : (sy_i F0 82).toInt = f.toInt := congrArg Int32.toInt i82
  have z83 : (sy_i F0 83).toInt = n.toInt := congrArg Int32.toInt i83
  have enf0 : (sy_i F0 18).toInt = (nfS T : Int) := by rw [nz_fi (k0 18 (by decide))]; exact enf
  have rd : 0 ≤ f.toInt → f.toInt < nfS T → (sy_ai F0 54).getD (sy_i F0 82).toInt.toNat 0 = g 2 f.toInt.toNat := fun h1 h2 => by
    rw [nz_fa (k0 54 (by decide)), z82]
    exact hG.1 2 _ (by decide) (vF (by decide) (by omega))
  have bad : ∀ F1 : Nat → sy_d, iv_in F1 iv_B0 → (∀ j, j < 82 → j ∉ ([] : List Nat) → F1 j = F0 j) → ¬ ((0 ≤ f.toInt ∧ f.toInt < nfS T) ∧ 1 ≤ n.toInt ∧ n.toInt ≤ 4) → pI 2 X1 X2 (fun x F' => x = hgA T g f n top ∧ qC [45, 46, 47, 48] F F') (some (.int (-1 : Int32))) (sy_dh F1 X1 X2 (iv_H 2)) := fun F1 hb gg h => ⟨_, F1, rfl, rfl, by rw [hgA_n h], qq_src (qq_mk hb gg (by decide)) k0⟩
  refine j2hg_0 (by decide) F0 X1 X2 (hd_iveq0 hC.1 k0) ?_ ?_ ?_ ?_ ?_ ?_
  · intro c0 F1 hb gg
    exact bad F1 hb gg (by omega)
  · intro c0 c1 F1 hb gg
    exact bad F1 hb gg (by omega)
  · intro c0 c1 c2 F1 hb gg
    exact bad F1 hb gg (by omega)
  · intro c0 c1 c2 c3 F1 hb gg
    exact bad F1 hb gg (by omega)
  · intro c0 c1 c2 c3 c4 F1 hb gg f82 j82 f83 j83 f84 j84 f85 j85 f86 j86 f87 j87
    rw [rd (by omega) (by omega)] at c4
    have hf : 0 ≤ f.toInt ∧ f.toInt < nfS T := ⟨by omega, by omega⟩
    have hn : f.toInt.toNat < nfS T := by omega
    have hl : g 4 f.toInt.toNat = 0 := (hO.2.1 _ hn c4).1
    rw [hgA_y ⟨hf, by omega, by omega⟩ c4]
    have q1 : qC [] F F1 := qq_src (qq_mk hb gg (by decide)) k0
    have c1' := xC_q (by decide) hC q1 (by decide)
    have g1 : gC 50 (nfS T) (nbS T) F1 g := gC_eq hG (fun j h1 h2 => q1.2 j (by omega) (by simp))
    have k85 : sy_i F1 85 = f := j85.trans i82
    have k86 : sy_i F1 86 = n := j86.trans i83
    have k87 : sy_i F1 87 = g 5 f.toInt.toNat := by
      rw [j87, nz_fa (k0 57 (by decide)), z82]
      exact hG.1 5 _ (by decide) (vF (by decide) hn)
    refine hd_calV (R := fun F' => qC [45, 46, 47, 48] F1 F' ∧ olA T g (sy_i F1 85).toInt.toNat (sy_i F1 87) (sy_ai F' 47) (sy_ai F' 48) (sy_i F1 86).toInt.toNat) (nh := 82) (nv := 85) (s := 2) (s1 := 2) (d1 := 6) (M1 := jm_M25) (As := [.inl (.ref 42), .inl (.ref 20), .inl (.ref 46), .inr (.inl 85), .inr (.inl 86), .inr (.inl 87)]) (rest := []) jm_ok93 rfl rfl (by decide) (by decide +kernel) (j2ol_V F1 X1 X2 c1' g1 _ _ _ (by rw [k85]; exact hf) (by rw [k85]; exact hl) (by rw [k86]; omega)) (fun F3 F' hR p1 p2 => ?_)
    obtain ⟨r1, r2⟩ := hR
    rw [k85, k86, k87] at r2
    have q3 : qC [45, 46, 47, 48] F F3 := qq_trans (qq_up q1 (by decide)) (qC_dst r1 p1)
    have A3 : olA T g f.toInt.toNat (g 5 f.toInt.toNat) (sy_ai F3 47) (sy_ai F3 48) n.toInt.toNat := by
      rw [nz_fa (p1 47 (by decide)), nz_fa (p1 48 (by decide))]
      exact r2
    have k83 : sy_i F3 83 = n := (eI (p2 83 (by decide) (by decide))).trans (j83.trans i83)
    have k84 : sy_i F3 84 = top := (eI (p2 84 (by decide) (by decide))).trans (j84.trans i84)
    refine j2hg_60 (by decide) F3 X1 X2 q3.1 ?_
    intro F4 hb4 g4 h82 m82 h83 m83 h84 m84 h85 m85 h86 m86
    refine hd_mono (j2hg_L F3 X1 X2 (xC_q (by decide) hC q3 (by decide)) (D := n.toInt.toNat) (top := top) (by omega) A3 n.toInt.toNat F4 0 (by omega) (qq_mk hb4 g4 (by decide)) (by rw [h82, k83]; omega) (m83.trans k84) h84 h85 h86) ?_
    rintro v G ⟨x, F5, e1, e2, e3, e4⟩
    exact ⟨x, F5, e1, e2, e3, qq_trans q3 (qq_up e4 (by decide))⟩
  · intro c0 c1 c2 c3 c4 F1 hb gg
    rw [rd (by omega) (by omega)] at c4
    exact ⟨_, F1, rfl, rfl, by rw [hgA_2 ⟨⟨by omega, by omega⟩, by omega, by omega⟩ c4], qq_src (qq_mk hb gg (by decide)) k0⟩
end HG2
section HG3
variable {Ls : Nat} {xs : Nat → Int32} {T : tX} {g : gS} (F : Nat → sy_d) (X1 X2 : List jm_c)
theorem j3gd_L : ∀ (k : Nat) (F1 : Nat → sy_d) (a b i : Nat), i + 2 * k ≤ 64 → b < 2 ^ k → a ≤ 100000000 → b ≤ 100000000 → qC [] F F1 → (sy_i F1 82).toInt = a → (sy_i F1 83).toInt = b → (sy_i F1 84).toInt = i →
    hd_W Ls xs 1 jm_M131 (pI 3 X1 X2 (fun x F' => x.toInt = (Nat.gcd a b : Nat) ∧ qC [] F F')) (7, sy_dL F1 [none, none, some (.inr (.inl 82)), some (.inr (.inl 83)), some (.inr (.inl 84)), none], sy_dS F1 [], sy_dh F1 X1 X2 (iv_H 3), 0, 0)
  | 0, F1, a, b, i, hk, hb, ha, hb8, hq, e82, e83, e84 => by
    have b0 : b = 0 := by omega
    subst b0
    refine j3gd_7 (by decide) F1 X1 X2 hq.1 (by omega) (by omega) (by omega) ?_ ?_ ?_
    · intro c0 F2 hb2 gg
      exact ⟨_, F2, rfl, rfl, by rw [Nat.gcd_zero_right]; exact e82, qq_on hq hb2 gg (by decide)⟩
    · intro c0 c1 F2 hb2 gg
      exact ⟨_, F2, rfl, rfl, by rw [Nat.gcd_zero_right]; exact e82, qq_on hq hb2 gg (by decide)⟩
    · intros
      omega
  | k + 1, F1, a, b, i, hk, hb, ha, hb8, hq, e82, e83, e84 => by
    refine j3gd_7 (by decide) F1 X1 X2 hq.1 (by omega) (by omega) (by omega) ?_ ?_ ?_
    · intros
      omega
    · intro c0 c1 F2 hb2 gg
      have b0 : b = 0 := by omega
      subst b0
      exact ⟨_, F2, rfl, rfl, by rw [Nat.gcd_zero_right]; exact e82, qq_on hq hb2 gg (by decide)⟩
    · intro c0 c1 F2 hb2 gg f82 j82 f83 j83 f84 j84
      have bp : 0 < b := by omega
      have q2 : qC [] F F2 := qq_on hq hb2 gg (by decide)
      have r1 : (sy_i F2 83).toInt = ((a % b : Nat) : Int) := by
        rw [f83, iv_rem, e82, e83, Int.tmod_eq_emod_of_nonneg (by omega)]
        rfl
      have lr : a % b < b := Nat.mod_lt _ bp
      rw [gc_s a b]
      refine j3gd_7 (by decide) F2 X1 X2 q2.1 (by omega) (by omega) (by omega) ?_ ?_ ?_
      · intros
        omega
      · intro d0 d1 F3 hb3 g3
        have r0 : a % b = 0 := by omega
        exact ⟨_, F3, rfl, rfl, by rw [r0, Nat.gcd_zero_right]; omega, qq_on q2 hb3 g3 (by decide)⟩
      · intro d0 d1 F3 hb3 g3 h82 m82 h83 m83 h84 m84
        have rp : 0 < a % b := by omega
        have q3 : qC [] F F3 := qq_on q2 hb3 g3 (by decide)
        have r2 : (sy_i F3 83).toInt = ((b % (a % b) : Nat) : Int) := by
          rw [h83, iv_rem, f82, e83, r1, Int.tmod_eq_emod_of_nonneg (by omega)]
          rfl
        have l2 : b % (a % b) < a % b := Nat.mod_lt _ rp
        have l3 := md_s rp (Nat.le_of_lt lr)
        have p2 : 2 ^ (k + 1) = 2 ^ k * 2 := Nat.pow_succ 2 k
        rw [gc_s b (a % b)]
        exact j3gd_L k F3 (a % b) (b % (a % b)) (i + 2) (by omega) (by omega) (by omega) (by omega) q3 (by rw [h82]; exact r1) r2 (by omega)
theorem j3gd_V (hB : iv_in F iv_B0) (x y : Int32) {a b : Nat} (hx : x.toInt = a) (hy : y.toInt = b) (ha : a ≤ 100000000) (hb : b ≤ 100000000) : jm_T Ls xs 1 jm_M131 [.int x, .int y] (sy_dh F X1 X2 (iv_H 3)) 0 0 (pI 3 X1 X2 (fun z F' => z.toInt = (Nat.gcd a b : Nat) ∧ qC [] F F')) := by
  refine C_T (by decide) [x, y] [.inr (.inl 82), .inr (.inl 83)] jm_ok131 (by decide) rfl (fun F0 k0 ki => ?_)
  have i82 : sy_i F0 82 = x := ki 0
  have i83 : sy_i F0 83 = y := ki 1
  have z82 : (sy_i F0 82).toInt = a := (congrArg Int32.toInt i82).trans hx
  have z83 : (sy_i F0 83).toInt = b := (congrArg Int32.toInt i83).trans hy
  refine j3gd_0 (by decide) F0 X1 X2 (hd_iveq0 hB k0) (by omega) (by omega) ?_
  intro F1 hb1 gg f82 j82 f83 j83 f84 j84
  exact j3gd_L F X1 X2 27 F1 a b 0 (by decide) (Nat.lt_of_le_of_lt hb (by decide)) ha hb (qq_src (qq_mk hb1 gg (by decide)) k0) (by omega) (by omega) (by omega)
theorem j3hg_L (hC : xC 18 T F) {f : Nat} {top : Int32} {D : Nat} (hD : 1 ≤ D ∧ D ≤ 4) (hA : olA T g f (g 5 f) (sy_ai F 47) (sy_ai F 48) D) : ∀ (m : Nat) (F1 : Nat → sy_d) (n : Nat), n + m = D → qC [] F F1 → (sy_i F1 82).toInt = D → sy_i F1 83 = top → (sy_i F1 84).toInt = ltI T g f (g 5 f) n → (sy_i F1 85).toInt = hdI n → (sy_i F1 86).toInt = n →
    hd_W Ls xs 7 jm_M93 (pI 3 X1 X2 (fun x F' => x = Int32.ofInt (hgV T g f D top) ∧ qC [] F F')) (69, sy_dL F1 [some (.inl (.ref 8)), none, some (.inr (.inl 82)), some (.inr (.inl 83)), some (.inr (.inl 84)), some (.inr (.inl 85)), some (.inr (.inl 86))], sy_dS F1 [], sy_dh F1 X1 X2 (iv_H 3), 0, 0) := by
  intro m
  induction m with
  | zero =>
    intro F1 n hm hq e82 i83 e84 e85 e86
    have en : n = D := by omega
    subst en
    have dn := hdI_in n (by omega)
    have ln := ltI_in T g f (g 5 f) n (by omega)
    refine j3hg_69 (by decide) F1 X1 X2 hq.1 (by omega) (by omega) ?_ ?_
    · intro c0 F2 hb2 gg f82 j82 f83 j83 f84 j84 f85 j85 f86 j86
      have q2 : qC [] F F2 := qq_on hq hb2 gg (by decide)
      refine hd_calI (R := fun x F' => x.toInt = (Nat.gcd (ltI T g f (g 5 f) n).toNat (hdI n).toNat : Nat) ∧ qC [] F2 F') (nh := 82) (nv := 85) (s := 3) (s1 := 3) (d1 := 1) (M1 := jm_M131) (As := [.inr (.inl 85), .inr (.inl 86)]) (rest := []) jm_ok93 rfl rfl (by decide) (by decide +kernel) (j3gd_V F2 X1 X2 hb2 _ _ (by omega) (by omega) (by omega) (by omega)) (fun F3 F' x hR p1 p2 p3 => ?_)
      obtain ⟨r1, r2⟩ := hR
      have q3 : qC [] F F3 := qq_trans q2 (qC_dst r2 p1)
      have gp : 0 < Nat.gcd (ltI T g f (g 5 f) n).toNat (hdI n).toNat := Nat.gcd_pos_of_pos_right _ (by omega)
      have gu : Nat.gcd (ltI T g f (g 5 f) n).toNat (hdI n).toNat ≤ (hdI n).toNat := Nat.gcd_le_right _ (by omega)
      have k82 : (sy_i F3 82).toInt = top.toInt := by rw [nz_fi (p2 82 (by decide) (by decide)), f82, i83]
      have k83 : (sy_i F3 83).toInt = ltI T g f (g 5 f) n := by rw [nz_fi (p2 83 (by decide) (by decide)), f83]; exact e84
      have k84 : (sy_i F3 84).toInt = hdI n := by rw [nz_fi (p2 84 (by decide) (by decide)), f84]; exact e85
      have k85 : (sy_i F3 85).toInt = ((Nat.gcd (ltI T g f (g 5 f) n).toNat (hdI n).toNat : Nat) : Int) := by rw [zz_i p3]; exact r1
      refine j3hg_113 (by decide) F3 X1 X2 q3.1 (by omega) (by omega) (by omega) ?_ ?_
      · intro d0 d1 F4 hb4 g4
        refine ⟨_, F4, rfl, rfl, ?_, qq_on q3 hb4 g4 (by decide)⟩
        unfold hgV
        rw [if_pos (by omega)]
        exact (ofi (dv32 k83 k85 (by omega) (by omega))).symm
      · intro d0 d1 F4 hb4 g4
        refine ⟨_, F4, rfl, rfl, ?_, qq_on q3 hb4 g4 (by decide)⟩
        unfold hgV
        rw [if_neg (by omega)]
        exact (ofi (dv32 k84 k85 (by omega) (by omega))).symm
    · intros
      omega
  | succ m ih =>
    intro F1 n hm hq e82 i83 e84 e85 e86
    have dn := hdI_in n (by omega)
    have ln := ltI_in T g f (g 5 f) n (by omega)
    have dn1 := hdI_in (n + 1) (by omega)
    have ln1 := ltI_in T g f (g 5 f) (n + 1) (by omega)
    have cin := olC_in T g f (g 5 f) n
    refine j3hg_69 (by decide) F1 X1 X2 hq.1 (by omega) (by omega) ?_ ?_
    · intros
      omega
    · intro c0 F2 hb2 gg f82 j82 f83 j83 f84 j84 f85 j85 f86 j86
      have r47 : (sy_ai F1 47).getD (sy_i F1 86).toInt.toNat 0 = Int32.ofInt (olC T g f (g 5 f) n) := by
        rw [show (sy_i F1 86).toInt.toNat = n by omega, qq_a hq (j := 47) (by decide) (by decide)]
        exact (hA n (by omega)).1
      rw [r47] at f84
      have ec : ((100 : Int32) - Int32.ofInt (olC T g f (g 5 f) n)).toInt = 100 - olC T g f (g 5 f) n := by
        have e1 : (Int32.ofInt (olC T g f (g 5 f) n)).toInt = olC T g f (g 5 f) n := oi32 (by omega) (by omega)
        have e2 : (100 : Int32).toInt = 100 := by decide
        rw [Jvm.Kit.i32_sub (by omega) (by omega), e1, e2]
      refine ih F2 (n + 1) (by omega) (qq_on hq hb2 gg (by decide)) (by omega) (j83.trans i83) ?_ ?_ (by omega)
      · rw [f84]
        exact nz_mul e84 ec (show -2147483648 ≤ ltI T g f (g 5 f) (n + 1) by omega) (show ltI T g f (g 5 f) (n + 1) ≤ 2147483647 by omega)
      · rw [f85]
        exact nz_mul e85 (by decide : (100 : Int32).toInt = 100) (show -2147483648 ≤ hdI (n + 1) by omega) (show hdI (n + 1) ≤ 2147483647 by omega)
theorem j3hg_V (hC : xC 18 T F) (hG : gC 50 (nfS T) (nbS T) F g) (hO : okS T g) (f n top : Int32) : jm_T Ls xs 7 jm_M93 [.ref 8, .int f, .int n, .int top] (sy_dh F X1 X2 (iv_H 3)) 0 0 (pI 3 X1 X2 (fun x F' => x = hgA T g f n top ∧ qC [45, 46, 47, 48] F F')) := by
  have l7 : nfS T ≤ 7 := hC.2.2.1.1.1
  have enf : (sy_i F 18).toInt = (nfS T : Int) := hC.2.1.1.1
  refine C_T (by decide) [f, n, top] [.inl (.ref 8), .inr (.inl 82), .inr (.inl 83), .inr (.inl 84)] jm_ok93 (by decide) rfl (fun F0 k0 ki => ?_)
  have i82 : sy_i F0 82 = f := ki 0
  have i83 : sy_i F0 83 = n := ki 1
  have i84 : sy_i F0 84 = top := ki 2
  have z82 : (sy_i F0 82).toInt = f.toInt := congrArg Int32.toInt i82
  have z83 : (sy_i F0 83).toInt = n.toInt := congrArg Int32.toInt i83
  have enf0 : (sy_i F0 18).toInt = (nfS T : Int) := by rw [nz_fi (k0 18 (by decide))]; exact enf
  have rd : 0 ≤ f.toInt → f.toInt < nfS T → (sy_ai F0 54).getD (sy_i F0 82).toInt.toNat 0 = g 2 f.toInt.toNat := fun h1 h2 => by
    rw [nz_fa (k0 54 (by decide)), z82]
    exact hG.1 2 _ (by decide) (vF (by decide) (by omega))
  have bad : ∀ F1 : Nat → sy_d, iv_in F1 iv_B0 → (∀ j, j < 82 → j ∉ ([] : List Nat) → F1 j = F0 j) → ¬ ((0 ≤ f.toInt ∧ f.toInt < nfS T) ∧ 1 ≤ n.toInt ∧ n.toInt ≤ 4) → pI 3 X1 X2 (fun x F' => x = hgA T g f n top ∧ qC [45, 46, 47, 48] F F') (some (.int (-1 : Int32))) (sy_dh F1 X1 X2 (iv_H 3)) := fun F1 hb gg h => ⟨_, F1, rfl, rfl, by rw [hgA_n h], qq_src (qq_mk hb gg (by decide)) k0⟩
  refine j3hg_0 (by decide) F0 X1 X2 (hd_iveq0 hC.1 k0) ?_ ?_ ?_ ?_ ?_ ?_
  · intro c0 F1 hb gg
    exact bad F1 hb gg (by omega)
  · intro c0 c1 F1 hb gg
    exact bad F1 hb gg (by omega)
  · intro c0 c1 c2 F1 hb gg
    exact bad F1 hb gg (by omega)
  · intro c0 c1 c2 c3 F1 hb gg
    exact bad F1 hb gg (by omega)
  · intro c0 c1 c2 c3 c4 F1 hb gg f82 j82 f83 j83 f84 j84 f85 j85 f86 j86 f87 j87
    rw [rd (by omega) (by omega)] at c4
    have hf : 0 ≤ f.toInt ∧ f.toInt < nfS T := ⟨by omega, by omega⟩
    have hn : f.toInt.toNat < nfS T := by omega
    have hl : g 4 f.toInt.toNat = 0 := (hO.2.1 _ hn c4).1
    rw [hgA_y ⟨hf, by omega, by omega⟩ c4]
    have q1 : qC [] F F1 := qq_src (qq_mk hb gg (by decide)) k0
    have c1' := xC_q (by decide) hC q1 (by decide)
    have g1 : gC 50 (nfS T) (nbS T) F1 g := gC_eq hG (fun j h1 h2 => q1.2 j (by omega) (by simp))
    have k85 : sy_i F1 85 = f := j85.trans i82
    have k86 : sy_i F1 86 = n := j86.trans i83
    have k87 : sy_i F1 87 = g 5 f.toInt.toNat := by
      rw [j87, nz_fa (k0 57 (by decide)), z82]
      exact hG.1 5 _ (by decide) (vF (by decide) hn)
    refine hd_calV (R := fun F' => qC [45, 46, 47, 48] F1 F' ∧ olA T g (sy_i F1 85).toInt.toNat (sy_i F1 87) (sy_ai F' 47) (sy_ai F' 48) (sy_i F1 86).toInt.toNat) (nh := 82) (nv := 85) (s := 3) (s1 := 3) (d1 := 6) (M1 := jm_M25) (As := [.inl (.ref 42), .inl (.ref 20), .inl (.ref 46), .inr (.inl 85), .inr (.inl 86), .inr (.inl 87)]) (rest := []) jm_ok93 rfl rfl (by decide) (by decide +kernel) (j3ol_V F1 X1 X2 c1' g1 _ _ _ (by rw [k85]; exact hf) (by rw [k85]; exact hl) (by rw [k86]; omega)) (fun F3 F' hR p1 p2 => ?_)
    obtain ⟨r1, r2⟩ := hR
    rw [k85, k86, k87] at r2
    have q3 : qC [45, 46, 47, 48] F F3 := qq_trans (qq_up q1 (by decide)) (qC_dst r1 p1)
    have A3 : olA T g f.toInt.toNat (g 5 f.toInt.toNat) (sy_ai F3 47) (sy_ai F3 48) n.toInt.toNat := by
      rw [nz_fa (p1 47 (by decide)), nz_fa (p1 48 (by decide))]
      exact r2
    have k83 : sy_i F3 83 = n := (eI (p2 83 (by decide) (by decide))).trans (j83.trans i83)
    have k84 : sy_i F3 84 = top := (eI (p2 84 (by decide) (by decide))).trans (j84.trans i84)
    refine j3hg_60 (by decide) F3 X1 X2 q3.1 ?_
    intro F4 hb4 g4 h82 m82 h83 m83 h84 m84 h85 m85 h86 m86
    refine hd_mono (j3hg_L F3 X1 X2 (xC_q (by decide) hC q3 (by decide)) (D := n.toInt.toNat) (top := top) (by omega) A3 n.toInt.toNat F4 0 (by omega) (qq_mk hb4 g4 (by decide)) (by rw [h82, k83]; omega) (m83.trans k84) h84 h85 h86) ?_
    rintro v G ⟨x, F5, e1, e2, e3, e4⟩
    exact ⟨x, F5, e1, e2, e3, qq_trans q3 (qq_up e4 (by decide))⟩
  · intro c0 c1 c2 c3 c4 F1 hb gg
    rw [rd (by omega) (by omega)] at c4
    exact ⟨_, F1, rfl, rfl, by rw [hgA_2 ⟨⟨by omega, by omega⟩, by omega, by omega⟩ c4], qq_src (qq_mk hb gg (by decide)) k0⟩
end HG3
section HGR
variable {Ls : Nat} {xs : Nat → Int32} {T : tX} {g : gS} (F : Nat → sy_d) (X1 X2 : List jm_c)
theorem rgd_L : ∀ (N : Nat) (F1 : Nat → sy_d) (a b : Nat), b < N → a ≤ 100000000 → b ≤ 100000000 → qR [] F F1 → (sy_l F1 69).toInt = a → (sy_l F1 70).toInt = b →
    hd_W Ls xs 1 jm_M210 (pL 4 X1 X2 (fun x F' => x.toInt = (Nat.gcd a b : Nat) ∧ qR [] F F')) (6, sy_dL F1 [none, none, none, none, some (.inr (.inr 69)), none, some (.inr (.inr 70)), none, none, none], sy_dS F1 [], sy_dh F1 X1 X2 (iv_H 4), 0, 0)
  | 0, F1, a, b, h, _, _, _, _, _ => absurd h (by omega)
  | N + 1, F1, a, b, h, ha, hb, hq, e69, e70 => by
    refine zgd_6 (by decide) F1 X1 X2 hq.1 (fun z w => z ((cm_lt _).mpr w)) ?_ ?_
    · intro c0 F2 hb2 gg
      have b0 := (cm_lt _).mp c0
      have b0 : b = 0 := by omega
      subst b0
      exact ⟨_, F2, rfl, rfl, by rw [Nat.gcd_zero_right]; exact e69, qq_on hq hb2 gg (by decide)⟩
    · intro c0 F2 hb2 gg l69 l70
      have bp : 0 < b := Nat.pos_of_ne_zero (fun z => c0 ((cm_lt _).mpr (by rw [e70, z]; rfl)))
      have lr : a % b < b := Nat.mod_lt _ bp
      rw [gc_s a b]
      refine rgd_L N F2 b (a % b) (by omega) hb (by omega) (qq_on hq hb2 gg (by decide)) (by rw [l69]; exact e70) ?_
      rw [l70, Jvm.Kit.i64_rem_nonneg (by omega), e69, e70]
      rfl
theorem rgd_V (hB : iv_in F iv_B4) (x y : Int64) {a b : Nat} (hx : x.toInt = a) (hy : y.toInt = b) (ha : a ≤ 100000000) (hb : b ≤ 100000000) : jm_T Ls xs 1 jm_M210 [.long x, .long y] (sy_dh F X1 X2 (iv_H 4)) 0 0 (pL 4 X1 X2 (fun z F' => z.toInt = (Nat.gcd a b : Nat) ∧ qR [] F F')) := by
  refine R_TJ x y jm_ok210 (by decide) (fun F0 k0 i69 i70 => ?_)
  refine zgd_0 (by decide) F0 X1 X2 (hd_iveq hB k0) ?_
  intro F1 hb1 gg l69 l70
  exact rgd_L F X1 X2 (b + 1) F1 a b (Nat.lt_succ_self b) ha hb (qq_src (qq_mk hb1 gg (by decide)) k0) (by rw [l69, i69]; exact hx) (by rw [l70, i70]; exact hy)
theorem rhg_L {f : Nat} {top : Int32} {D : Nat} (hD : 1 ≤ D ∧ D ≤ 4) (hA : olA T g f (g 5 f) (sy_ai F 61) (sy_ai F 62) D) : ∀ (m : Nat) (F1 : Nat → sy_d) (n : Nat), n + m = D → qR [] F F1 → (sy_i F1 69).toInt = D → sy_i F1 70 = top → (sy_l F1 71).toInt = ltI T g f (g 5 f) n → (sy_i F1 72).toInt = n →
    hd_W Ls xs 7 jm_M211 (pI 4 X1 X2 (fun x F' => x = Int32.ofInt (hgV T g f D top) ∧ qR [] F F')) (58, sy_dL F1 [some (.inl (.ref 1000)), none, some (.inr (.inl 69)), some (.inr (.inl 70)), some (.inr (.inr 71)), none, some (.inr (.inl 72)), none, none], sy_dS F1 [], sy_dh F1 X1 X2 (iv_H 4), 0, 0) := by
  intro m
  induction m with
  | zero =>
    intro F1 n hm hq e69 i70 e71 e72
    have en : n = D := by omega
    subst en
    have dn := hdI_in n (by omega)
    have ln := ltI_in T g f (g 5 f) n (by omega)
    have fin : ∀ F2 : Nat → sy_d, qR [] F F2 → (sy_i F2 69).toInt = n → sy_i F2 70 = top → (sy_l F2 72).toInt = ltI T g f (g 5 f) n → (sy_l F2 73).toInt = hdI n → (sy_l F2 71).toInt = ltI T g f (g 5 f) n →
        hd_W Ls xs 7 jm_M211 (pI 4 X1 X2 (fun x F' => x = Int32.ofInt (hgV T g f n top) ∧ qR [] F F')) (92, sy_dL F2 [some (.inl (.ref 1000)), none, some (.inr (.inl 69)), some (.inr (.inl 70)), some (.inr (.inr 71)), none, none, none, none], sy_dS F2 [.inr (.inr 73), .inr (.inr 72)], sy_dh F2 X1 X2 (iv_H 4), 0, 0) := by
      intro F2 q2 m69 m70 m72 m73 m71
      refine hd_calJ (R := fun x F' => x.toInt = (Nat.gcd (ltI T g f (g 5 f) n).toNat (hdI n).toNat : Nat) ∧ qR [] F2 F') (nh := 69) (nv := 72) (s := 4) (s1 := 4) (d1 := 1) (M1 := jm_M210) (As := [.inr (.inr 72), .inr (.inr 73)]) (rest := []) jm_ok211 rfl rfl (by decide) (by decide +kernel) (rgd_V F2 X1 X2 q2.1 _ _ (by omega) (by omega) (by omega) (by omega)) (fun F3 F' x hR p1 p2 p3 => ?_)
      obtain ⟨r1, r2⟩ := hR
      have q3 : qR [] F F3 := qq_trans q2 (qR_dst r2 p1)
      have gp : 0 < Nat.gcd (ltI T g f (g 5 f) n).toNat (hdI n).toNat := Nat.gcd_pos_of_pos_right _ (by omega)
      have gu : Nat.gcd (ltI T g f (g 5 f) n).toNat (hdI n).toNat ≤ (hdI n).toNat := Nat.gcd_le_right _ (by omega)
      have k69 : (sy_i F3 69).toInt = n := by rw [nz_fi (p2 69 (by decide) (by decide))]; exact m69
      have k70 : (sy_i F3 70).toInt = top.toInt := by rw [nz_fi (p2 70 (by decide) (by decide)), m70]
      have k71 : (sy_l F3 71).toInt = ltI T g f (g 5 f) n := by rw [eL (p2 71 (by decide) (by decide))]; exact m71
      have k72 : (sy_l F3 72).toInt = ((Nat.gcd (ltI T g f (g 5 f) n).toNat (hdI n).toNat : Nat) : Int) := by rw [zz_l p3]; exact r1
      have tp : ∀ (c : Int64), c.toInt = hdI n → top.toInt ≠ 0 → (c / sy_l F3 72).toInt32 = Int32.ofInt (hgV T g f n top) := fun c hc ht => by
        unfold hgV
        rw [if_neg ht]
        exact (ofi (dvL hc k72 (by omega) (by omega) (by omega))).symm
      refine zhg_95 (by decide) F3 X1 X2 q3.1 (by omega) (by intros; omega) (by intros; omega) (by intros; omega) (by intros; omega) (by intros; omega) ?_ ?_ ?_ ?_ ?_
      · intro d0 F4 hb4 g4
        refine ⟨_, F4, rfl, rfl, ?_, qq_on q3 hb4 g4 (by decide)⟩
        unfold hgV
        rw [if_pos (by omega)]
        exact (ofi (dvL k71 k72 (by omega) (by omega) (by omega))).symm
      · intro d0 d1 d2 F4 hb4 g4
        exact ⟨_, F4, rfl, rfl, tp _ (by rw [show n = 1 by omega]; decide) (by omega), qq_on q3 hb4 g4 (by decide)⟩
      · intro d0 d1 d2 d3 F4 hb4 g4
        exact ⟨_, F4, rfl, rfl, tp _ (by rw [show n = 2 by omega]; decide) (by omega), qq_on q3 hb4 g4 (by decide)⟩
      · intro d0 d1 d2 d3 d4 F4 hb4 g4
        exact ⟨_, F4, rfl, rfl, tp _ (by rw [show n = 3 by omega]; decide) (by omega), qq_on q3 hb4 g4 (by decide)⟩
      · intro d0 d1 d2 d3 d4 d5 F4 hb4 g4
        exact ⟨_, F4, rfl, rfl, tp _ (by rw [show n = 4 by omega]; decide) (by omega), qq_on q3 hb4 g4 (by decide)⟩
    refine zhg_58 (by decide) F1 X1 X2 hq.1 (by omega) (by omega) ?_ ?_ ?_ ?_ ?_
    · intro c0 c1 c2 F2 hb2 gg f69 j69 f70 j70 l71 l72 l73
      exact fin F2 (qq_on hq hb2 gg (by decide)) (by omega) (j70.trans i70) (by rw [l72]; exact e71) (by rw [l73, show n = 1 by omega]; decide) (by rw [l71]; exact e71)
    · intro c0 c1 c2 c3 F2 hb2 gg f69 j69 f70 j70 l71 l72 l73
      exact fin F2 (qq_on hq hb2 gg (by decide)) (by omega) (j70.trans i70) (by rw [l72]; exact e71) (by rw [l73, show n = 2 by omega]; decide) (by rw [l71]; exact e71)
    · intro c0 c1 c2 c3 c4 F2 hb2 gg f69 j69 f70 j70 l71 l72 l73
      exact fin F2 (qq_on hq hb2 gg (by decide)) (by omega) (j70.trans i70) (by rw [l72]; exact e71) (by rw [l73, show n = 3 by omega]; decide) (by rw [l71]; exact e71)
    · intro c0 c1 c2 c3 c4 c5 F2 hb2 gg f69 j69 f70 j70 l71 l72 l73
      exact fin F2 (qq_on hq hb2 gg (by decide)) (by omega) (j70.trans i70) (by rw [l72]; exact e71) (by rw [l73, show n = 4 by omega]; decide) (by rw [l71]; exact e71)
    · intros
      omega
  | succ m ih =>
    intro F1 n hm hq e69 i70 e71 e72
    have ln1 := ltI_in T g f (g 5 f) (n + 1) (by omega)
    have dn1 := hdI_in (n + 1) (by omega)
    have cin := olC_in T g f (g 5 f) n
    refine zhg_58 (by decide) F1 X1 X2 hq.1 (by omega) (by omega) ?_ ?_ ?_ ?_ ?_
    · intros
      omega
    · intros
      omega
    · intros
      omega
    · intros
      omega
    · intro c0 F2 hb2 gg f69 j69 f70 j70 l71 f72 j72
      have r61 : (sy_ai F1 61).getD (sy_i F1 72).toInt.toNat 0 = Int32.ofInt (olC T g f (g 5 f) n) := by
        rw [show (sy_i F1 72).toInt.toNat = n by omega, qq_a hq (j := 61) (by decide) (by decide)]
        exact (hA n (by omega)).1
      rw [r61] at l71
      have ec : (((100 : Int32) - Int32.ofInt (olC T g f (g 5 f) n)).toInt64).toInt = 100 - olC T g f (g 5 f) n := by
        have e1 : (Int32.ofInt (olC T g f (g 5 f) n)).toInt = olC T g f (g 5 f) n := oi32 (by omega) (by omega)
        have e2 : (100 : Int32).toInt = 100 := by decide
        rw [Jvm.Kit.i64_of_i32, Jvm.Kit.i32_sub (by omega) (by omega), e1, e2]
      refine ih F2 (n + 1) (by omega) (qq_on hq hb2 gg (by decide)) (by omega) (j70.trans i70) ?_ (by omega)
      have key : (sy_l F1 71).toInt * (((100 : Int32) - Int32.ofInt (olC T g f (g 5 f) n)).toInt64).toInt = ltI T g f (g 5 f) (n + 1) := by
        rw [e71, ec]
        rfl
      rw [l71, Jvm.Kit.i64_mul (by omega) (by omega), key]
theorem rhg_V (hC : cR T F) (hN : gNw T F g) (f n top : Int32) : jm_T Ls xs 7 jm_M211 [.ref 1000, .int f, .int n, .int top] (sy_dh F X1 X2 (iv_H 4)) 0 0 (pI 4 X1 X2 (fun x F' => x = hgA T g f n top ∧ qR [17, 18, 52, 53, 55, 61, 62] F F')) := by
  have l7 : nfS T ≤ 7 := hC.2.2.1.1
  refine R_T [f, n, top] [.inl (.ref 1000), .inr (.inl 69), .inr (.inl 70), .inr (.inl 71)] jm_ok211 (by decide) rfl (fun F0 k0 ki => ?_)
  have i69 : sy_i F0 69 = f := ki 0
  have i70 : sy_i F0 70 = n := ki 1
  have i71 : sy_i F0 71 = top := ki 2
  have z69 : (sy_i F0 69).toInt = f.toInt := congrArg Int32.toInt i69
  have z70 : (sy_i F0 70).toInt = n.toInt := congrArg Int32.toInt i70
  have en : ((sy_ai F0 31).getD (sy_i F0 11).toInt.toNat 0).toInt = (nfS T : Int) := by rw [nz_fa (k0 31 (by decide)), nz_fi (k0 11 (by decide))]; exact (rX_n hC.2.1).1
  have rd : 0 ≤ f.toInt → f.toInt < nfS T → (sy_ai F0 54).getD (14 + (sy_i F0 69).toInt).toNat 0 = g 2 f.toInt.toNat := fun h1 h2 => by
    rw [nz_fa (k0 54 (by decide)), show (14 + (sy_i F0 69).toInt).toNat = ra 2 + f.toInt.toNat by show _ = 14 + _; omega]
    exact hN 2 _ (vF (by decide) (by omega))
  have bad : ∀ F1 : Nat → sy_d, iv_in F1 iv_B4 → (∀ j, j < 69 → j ∉ ([] : List Nat) → F1 j = F0 j) → ¬ ((0 ≤ f.toInt ∧ f.toInt < nfS T) ∧ 1 ≤ n.toInt ∧ n.toInt ≤ 4) → pI 4 X1 X2 (fun x F' => x = hgA T g f n top ∧ qR [17, 18, 52, 53, 55, 61, 62] F F') (some (.int (-1 : Int32))) (sy_dh F1 X1 X2 (iv_H 4)) := fun F1 hb gg h => ⟨_, F1, rfl, rfl, by rw [hgA_n h], qq_src (qq_mk hb gg (by decide)) k0⟩
  refine zhg_0 (by decide) F0 X1 X2 (hd_iveq hC.1 k0) ?_ ?_ ?_ ?_ ?_ ?_
  · intro c0 F1 hb gg
    exact bad F1 hb gg (by omega)
  · intro c0 c1 F1 hb gg
    exact bad F1 hb gg (by omega)
  · intro c0 c1 c2 F1 hb gg
    exact bad F1 hb gg (by omega)
  · intro c0 c1 c2 c3 F1 hb gg
    exact bad F1 hb gg (by omega)
  · intro c0 c1 c2 c3 c4 F1 hb gg f69 j69 f70 j70 f71 j71
    rw [rd (by omega) (by omega)] at c4
    have hf : 0 ≤ f.toInt ∧ f.toInt < nfS T := ⟨by omega, by omega⟩
    have hn : f.toInt.toNat < nfS T := by omega
    rw [hgA_y ⟨hf, by omega, by omega⟩ c4]
    have q1 : qR [] F F1 := qq_src (qq_mk hb gg (by decide)) k0
    refine hd_calV (R := fun F' => qR [18, 55] F1 F' ∧ (∀ j, j < 61 → (sy_ai F' 55).getD j 0 = (sy_ai F1 54).getD j 0) ∧ sy_i F' 18 = Int32.ofInt T.2.2.2.2.1) (nh := 69) (nv := 72) (s := 4) (s1 := 4) (d1 := 1) (M1 := jm_M173) (As := [.inl (.ref 1000)]) (rest := []) jm_ok211 rfl rfl (by decide) (by decide +kernel) (cp_V F1 X1 X2 (cR_q hC q1 (by decide))) (fun F3 F' hR p1 p2 => ?_)
    obtain ⟨r1, r2, r3⟩ := hR
    have q3 : qR [18, 55] F F3 := qq_trans (qq_up q1 (by decide)) (qR_dst r1 p1)
    have w3 : gRow T F3 g := gRow_c F hC hN (fun j hj => by rw [nz_fa (p1 55 (by decide)), r2 j hj, qq_a q1 (by decide) (by decide)])
    have k69 : sy_i F3 69 = f := (eI (p2 69 (by decide) (by decide))).trans (j69.trans i69)
    have k70 : sy_i F3 70 = n := (eI (p2 70 (by decide) (by decide))).trans (j70.trans i70)
    have k71 : sy_i F3 71 = top := (eI (p2 71 (by decide) (by decide))).trans (j71.trans i71)
    refine zhg_37 (by decide) F3 X1 X2 q3.1 (by rw [k69]; omega) ?_
    intro F4 hb4 g4 h69 m69 h70 m70 h71 m71 h72 m72 h73 m73 h74 m74
    have q34 : qR [] F3 F4 := qq_mk hb4 g4 (by decide)
    have q4 : qR [18, 55] F F4 := qq_trans q3 (qq_up q34 (by decide))
    have w4 := gRow_e w3 (qq_a q34 (by decide) (by decide))
    have n72 : sy_i F4 72 = f := m72.trans k69
    have n73 : sy_i F4 73 = n := m73.trans k70
    have n74 : sy_i F4 74 = g 5 f.toInt.toNat := by
      rw [m74, k69, show (35 + f.toInt).toNat = ra 5 + f.toInt.toNat by show _ = 35 + _; omega]
      exact w3 5 _ (vF (by decide) hn)
    refine hd_calV (R := fun F' => qR [17, 52, 53, 61, 62] F4 F' ∧ olA T g (sy_i F4 72).toInt.toNat (sy_i F4 74) (sy_ai F' 61) (sy_ai F' 62) (sy_i F4 73).toInt.toNat) (nh := 69) (nv := 72) (s := 4) (s1 := 4) (d1 := 6) (M1 := jm_M206) (As := [.inl (.ref 1000), .inr (.inl 72), .inr (.inl 73), .inr (.inl 74)]) (rest := []) jm_ok211 rfl rfl (by decide) (by decide +kernel) (rol_V F4 X1 X2 (cR_q hC q4 (by decide)) w4 _ _ _ (by rw [n72]; exact hf) (by rw [n73]; omega)) (fun F5 F6 hR5 u1 u2 => ?_)
    obtain ⟨s1, s2⟩ := hR5
    rw [n72, n73, n74] at s2
    have q5 : qR [17, 18, 52, 53, 55, 61, 62] F F5 := qq_trans (qq_up q4 (by decide)) (qq_up (qR_dst s1 u1) (by decide))
    have A5 : olA T g f.toInt.toNat (g 5 f.toInt.toNat) (sy_ai F5 61) (sy_ai F5 62) n.toInt.toNat := by
      rw [nz_fa (u1 61 (by decide)), nz_fa (u1 62 (by decide))]
      exact s2
    have a70 : sy_i F5 70 = n := (eI (u2 70 (by decide) (by decide))).trans (m70.trans k70)
    have a71 : sy_i F5 71 = top := (eI (u2 71 (by decide) (by decide))).trans (m71.trans k71)
    refine zhg_52 (by decide) F5 X1 X2 q5.1 ?_
    intro F7 hb7 g7 b69 v69 b70 v70 l71 b72 v72
    refine hd_mono (rhg_L F5 X1 X2 (D := n.toInt.toNat) (top := top) (by omega) A5 n.toInt.toNat F7 0 (by omega) (qq_mk hb7 g7 (by decide)) (by rw [b69, a70]; omega) (v70.trans a71) (by rw [l71]; exact (by decide : (1 : Int64).toInt = 1)) b72) ?_
    rintro v G ⟨x, F8, e1, e2, e3, e4⟩
    exact ⟨x, F8, e1, e2, e3, qq_trans q5 (qq_up e4 (by decide))⟩
  · intro c0 c1 c2 c3 c4 F1 hb gg
    rw [rd (by omega) (by omega)] at c4
    exact ⟨_, F1, rfl, rfl, by rw [hgA_2 ⟨⟨by omega, by omega⟩, by omega, by omega⟩ c4], qq_src (qq_mk hb gg (by decide)) k0⟩
end HGR
section ZZ93
variable {Ls : Nat} {xs : Nat → Int32}
theorem x_93 (a : Int32) (b : Int32) (c : Int32) : xzT Ls xs jm_M93 [.int (a), .int (b), .int (if c = 0 then 0 else 1)] (fun σ r => r = a_hangs a b (if c = 0 then 0 else 1) σ) (fun σ => σ) := by
  intro s F X2 σ hs hZ hO
  match s, hs, hZ with
  | 0, _, hZ => exact xz_pI (σ := σ) (V := fun σ r => r = a_hangs a b (if c = 0 then 0 else 1) σ) (f := fun σ => σ) (by decide) (by decide) (j0hg_V F [] X2 hZ.2.1 hZ.2.2.1 hO.1.1 a b _) (fun x F' hP => ⟨hP.1, xZ_q hZ hP.2 (by decide)⟩)
  | 1, _, hZ => exact xz_pI (σ := σ) (V := fun σ r => r = a_hangs a b (if c = 0 then 0 else 1) σ) (f := fun σ => σ) (by decide) (by decide) (j1hg_V F [] X2 hZ.2.1 hZ.2.2.1 hO.1.1 a b _) (fun x F' hP => ⟨hP.1, xZ_q hZ hP.2 (by decide)⟩)
  | 2, _, hZ => exact xz_pI (σ := σ) (V := fun σ r => r = a_hangs a b (if c = 0 then 0 else 1) σ) (f := fun σ => σ) (by decide) (by decide) (j2hg_V F [] X2 hZ.2.1 hZ.2.2.1 hO.1.1 a b _) (fun x F' hP => ⟨hP.1, xZ_q hZ hP.2 (by decide)⟩)
  | 3, _, hZ => exact xz_pI (σ := σ) (V := fun σ r => r = a_hangs a b (if c = 0 then 0 else 1) σ) (f := fun σ => σ) (by decide) (by decide) (j3hg_V F [] X2 hZ.2.1 hZ.2.2.1 hO.1.1 a b _) (fun x F' hP => ⟨hP.1, xZ_q hZ hP.2 (by decide)⟩)
  | n + 4, h, _ => exact absurd h (by omega)
theorem m_211 (a : Int32) (b : Int32) (c : Int32) : mzT Ls xs jm_M211 [.int (a), .int (b), .int (if c = 0 then 0 else 1)] (fun σ r => r = a_hangs a b (if c = 0 then 0 else 1) σ) (fun σ => σ) := ⟨7, by decide, fun F X1 σ hZ hO => mz_pI (σ := σ) (V := fun σ r => r = a_hangs a b (if c = 0 then 0 else 1) σ) (f := fun σ => σ) (rhg_V F X1 [] hZ.2.1 hZ.2.2.1 a b _) (fun x F' hP => ⟨hP.1, mZ_q hZ hP.2 (by decide)⟩)⟩
end ZZ93
end
