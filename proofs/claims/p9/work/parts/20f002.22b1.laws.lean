/-! ===== what stays behind a call ===== -/
noncomputable def qq (n : Nat) (B : List iv_t) (W : List Nat) (F F' : Nat → sy_d) : Prop := iv_in F' B ∧ ∀ j, j < n → j ∉ W → F' j = F j
noncomputable abbrev qR (W : List Nat) (F F' : Nat → sy_d) : Prop := qq 69 iv_B4 W F F'
noncomputable abbrev qC (W : List Nat) (F F' : Nat → sy_d) : Prop := qq 82 iv_B0 W F F'
section QQ
variable {n : Nat} {B : List iv_t} {W W' : List Nat} {F F1 F2 : Nat → sy_d}
theorem qq_trans (h : qq n B W F F1) (h2 : qq n B W F1 F2) : qq n B W F F2 := ⟨h2.1, fun j hj hn => (h2.2 j hj hn).trans (h.2 j hj hn)⟩
theorem qq_up (h : qq n B W F F1) (hW : ∀ q ∈ W, q ∈ W') : qq n B W' F F1 := ⟨h.1, fun j hj hn => h.2 j hj (fun z => hn (hW j z))⟩
theorem qq_mk (hb : iv_in F1 B) (g : ∀ j, j < n → j ∉ W → F1 j = F j) (hW : ∀ q ∈ W, q ∈ W') : qq n B W' F F1 := ⟨hb, fun j hj hn => g j hj (fun z => hn (hW j z))⟩
/-- a way on from what was kept -/
theorem qq_on (h : qq n B W' F F1) (hb : iv_in F2 B) (g : ∀ j, j < n → j ∉ W → F2 j = F1 j) (hW : ∀ q ∈ W, q ∈ W') : qq n B W' F F2 := qq_trans h (qq_mk hb g hW)
theorem qq_src (h : qq n B W F1 F2) (e : ∀ j, j < n → F1 j = F j) : qq n B W F F2 := ⟨h.1, fun j hj hn => (h.2 j hj hn).trans (e j hj)⟩
theorem qR_dst (h : qR W F F1) (e : ∀ j, j < 69 → F2 j = F1 j) : qR W F F2 := ⟨hd_iveq h.1 e, fun j hj hn => (e j hj).trans (h.2 j hj hn)⟩
theorem qC_dst (h : qC W F F1) (e : ∀ j, j < 82 → F2 j = F1 j) : qC W F F2 := ⟨hd_iveq0 h.1 e, fun j hj hn => (e j hj).trans (h.2 j hj hn)⟩
theorem qq_i (h : qq n B W F F1) {j : Nat} (hj : j < n) (hn : j ∉ W) : sy_i F1 j = sy_i F j := by unfold sy_i; rw [h.2 j hj hn]
theorem qq_a (h : qq n B W F F1) {j : Nat} (hj : j < n) (hn : j ∉ W) : sy_ai F1 j = sy_ai F j := nz_fa (h.2 j hj hn)
theorem qq_l (h : qq n B W F F1) {j : Nat} (hj : j < n) (hn : j ∉ W) : sy_al F1 j = sy_al F j := nz_fl (h.2 j hj hn)
end QQ
theorem eI {F F1 : Nat → sy_d} {k : Nat} (h : F1 k = F k) : sy_i F1 k = sy_i F k := by unfold sy_i; rw [h]
/-- an int is answered -/
noncomputable def pI (s : Nat) (X1 X2 : List jm_c) (P : Int32 → (Nat → sy_d) → Prop) : Option Value → jm_h → Prop := fun v G => ∃ (x : Int32) (F' : Nat → sy_d), v = some (.int x) ∧ G = sy_dh F' X1 X2 (iv_H s) ∧ P x F'
noncomputable def pV (s : Nat) (X1 X2 : List jm_c) (P : (Nat → sy_d) → Prop) : Option Value → jm_h → Prop := fun v G => ∃ F' : Nat → sy_d, v = none ∧ G = sy_dh F' X1 X2 (iv_H s) ∧ P F'
noncomputable def pL (s : Nat) (X1 X2 : List jm_c) (P : Int64 → (Nat → sy_d) → Prop) : Option Value → jm_h → Prop := fun v G => ∃ (x : Int64) (F' : Nat → sy_d), v = some (.long x) ∧ G = sy_dh F' X1 X2 (iv_H s) ∧ P x F'
theorem i0z {x : Int32} : x = 0 ↔ x.toInt = 0 := ⟨fun h => by rw [h]; decide, fun h => Int32.toInt_inj.mp (by rw [h]; decide)⟩
theorem i1z {x : Int32} : x = 1 ↔ x.toInt = 1 := ⟨fun h => by rw [h]; decide, fun h => Int32.toInt_inj.mp (by rw [h]; decide)⟩
theorem ofi {x : Int32} {z : Int} (h : x.toInt = z) : Int32.ofInt z = x := by rw [← h]; exact Int32.ofInt_toInt x
/-! ===== a pile ===== -/
def stq (l : List Int32) : List Int32 → Prop
  | [] => True
  | x :: S => l.getD S.length 0 = x ∧ stq l S
theorem stq_up {l : List Int32} {n : Nat} {x : Int32} : ∀ {S : List Int32}, S.length ≤ n → stq l S → stq (jm_upd l n x) S
  | [], _, _ => trivial
  | y :: S, h, hs => by
    have h : S.length + 1 ≤ n := h
    refine ⟨?_, stq_up (by omega) hs.2⟩
    rw [jm_upd_at, if_neg (by omega)]
    exact hs.1
theorem stq_put {l : List Int32} {n : Nat} {x : Int32} {S : List Int32} (h : n = S.length) (hs : stq l S) : stq (jm_upd l n x) (x :: S) := ⟨by rw [jm_upd_at, if_pos h.symm], stq_up (by omega) hs⟩
theorem clf_cons {code cint : List Int32} : ∀ (n c : Nat), clf code cint c (n + 1) = ((code.getD c 0).toInt, (cint.getD c 0).toInt) :: clf code cint (c + 1) n
  | 0, c => rfl
  | n + 1, c => by
    show clf code cint c (n + 1) ++ [_] = _ :: (clf code cint (c + 1) n ++ [_])
    rw [clf_cons n c, show c + 1 + n = c + (n + 1) by omega]
    rfl
theorem bL_cons {F : Nat → sy_d} : ∀ (n b : Nat), bL F b (n + 1) = bq F b :: bL F (b + 1) n
  | 0, b => rfl
  | n + 1, b => by
    show bL F b (n + 1) ++ [_] = _ :: (bL F (b + 1) n ++ [_])
    rw [bL_cons n b, show b + 1 + n = b + (n + 1) by omega]
    rfl
theorem evR_cg {v v' : Nat → Int32} (h : ∀ j, j ≤ 8 → v j = v' j) : ∀ (p : List rO) (S : List Int32) (d e : Nat), wfR p d e → evR v p S = evR v' p S
  | [], S, d, e, _ => rfl
  | o :: r, S, d, e, hw => by
    obtain ⟨⟨h0, h1, h2⟩, h3, h4⟩ := hw
    by_cases q0 : o.1 = 0
    · rw [evR_0 q0, evR_0 q0]
      exact evR_cg h r _ _ e (h3 (by omega)).2
    · by_cases q1 : o.1 = 1
      · rw [evR_1 q1, evR_1 q1, h o.2.toNat (by have := h2 q1; omega)]
        exact evR_cg h r _ _ e (h3 (by omega)).2
      · match S with
        | [] =>
          show (if _ then _ else _) = (if _ then _ else _)
          rw [if_neg q0, if_neg q0, if_neg q1, if_neg q1]
        | [_] =>
          show (if _ then _ else _) = (if _ then _ else _)
          rw [if_neg q0, if_neg q0, if_neg q1, if_neg q1]
        | b :: a :: S =>
          rw [evR_2 (by omega), evR_2 (by omega), evR_cg h r _ _ e (h4 (by omega)).2]
theorem exV_cg {v v' : Nat → Int32} (h : ∀ j, j ≤ 8 → v j = v' j) {p : List rO} {d e : Nat} (hw : wfR p d e) : exV v p = exV v' p := by
  unfold exV
  rw [evR_cg h p [] d e hw]
theorem lwV_cg {v v' : Nat → Int32} (h : ∀ j, j ≤ 8 → v j = v' j) : ∀ l : List bRT, (∀ b ∈ l, wfB b) → lwV v l = lwV v' l
  | [], _ => rfl
  | (none, w) :: r, hw => by
    have e := exV_cg h (hw _ (List.mem_cons_self)).1
    show (exV v w).getD 0 = (exV v' w).getD 0
    rw [e]
  | (some (u, q), w) :: r, hw => by
    obtain ⟨w1, w2⟩ := hw _ (List.mem_cons_self)
    obtain ⟨w3, w4⟩ := w2 u q rfl
    have ih := lwV_cg h r (fun b hb => hw b (List.mem_cons_of_mem _ hb))
    show (match exV v u, exV v q with | some a, some b => (if a.toInt < b.toInt then (exV v w).getD 0 else lwV v r) | _, _ => (0 : Int32)) = (match exV v' u, exV v' q with | some a, some b => (if a.toInt < b.toInt then (exV v' w).getD 0 else lwV v' r) | _, _ => (0 : Int32))
    rw [exV_cg h w1, exV_cg h w3, exV_cg h w4, ih]
/-! ===== the reference: a term ===== -/
noncomputable def v52 (F : Nat → sy_d) : Nat → Int32 := fun j => (sy_ai F 52).getD j 0
noncomputable def teP (F : Nat → sy_d) (O : List rO) (x : Int32) (F' : Nat → sy_d) : Prop := qR [17, 53] F F' ∧ (exV (v52 F) O = none → (sy_i F' 17).toInt = 1) ∧ ∀ y, exV (v52 F) O = some y → x = y ∧ F' 17 = F 17
section TE
variable {Ls : Nat} {xs : Nat → Int32} (F : Nat → sy_d) (X1 X2 : List jm_c)
theorem two2 {A : Type} : ∀ {S : List A}, 2 ≤ S.length → ∃ y x S', S = y :: x :: S'
  | [], h => absurd h (by simp)
  | [_], h => absurd h (by simp)
  | y :: x :: S, _ => ⟨y, x, S, rfl⟩
theorem te_L {O : List rO} {b : Int} (hbb : b ≤ 840) : ∀ (r : List rO) (S : List Int32) (F1 : Nat → sy_d), qR [53] F F1 → (sy_i F1 69).toInt = b → (sy_i F1 70).toInt = S.length → 0 ≤ (sy_i F1 71).toInt → (sy_i F1 71).toInt + r.length = b → clf (sy_ai F 49) (sy_ai F 50) (sy_i F1 71).toInt.toNat r.length = r → stq (sy_ai F1 53) S → S.length ≤ 15 → wfR r S.length 1 → (∀ T, evR (v52 F) r S = some T → exV (v52 F) O = (match T with | [x] => some x | _ => none)) → (evR (v52 F) r S = none → exV (v52 F) O = none) →
    hd_W Ls xs 1 jm_M166 (pI 4 X1 X2 (teP F O)) (5, sy_dL F1 [some (.inl (.ref 1000)), none, some (.inr (.inl 69)), some (.inr (.inl 70)), some (.inr (.inl 71)), none, none, none], sy_dS F1 [], sy_dh F1 X1 X2 (iv_H 4), 0, 0)
  | [], S, F1, hq, e69, e70, h0, h1, hc, hs, hS, hw, hv, hn => by
    have h1 : (sy_i F1 71).toInt + (0 : Nat) = b := h1
    match S, hw, hs, hv, e70 with
    | [x], _, hs, hv, e70 =>
      have e70 : (sy_i F1 70).toInt = 1 := e70
      have hv : exV (v52 F) O = some x := hv [x] rfl
      have hs : (sy_ai F1 53).getD 0 0 = x := hs.1
      refine yte_5 (by decide) F1 X1 X2 hq.1 (by omega) (by omega) (by omega) ?_ ?_ ?_ ?_ ?_ ?_ ?_ ?_ ?_ ?_ ?_ ?_ ?_ ?_ ?_ ?_ ?_
      rotate_left 9
      · intro c0 F2 hb g
        refine ⟨_, F2, rfl, rfl, qq_on (qq_up hq (by decide)) hb g (by decide), fun z => (by rw [hv] at z; cases z), fun y hy => ⟨?_, ?_⟩⟩
        · rw [hv] at hy
          rw [← Option.some.inj hy]
          exact hs
        · exact (g 17 (by decide) (by decide)).trans (hq.2 17 (by decide) (by decide))
      all_goals
        intros
        omega
    | [], hw, _, _, _ => exact absurd (show (0 : Nat) = 1 from hw) (by decide)
    | _ :: _ :: _, hw, _, _, _ =>
      have hw : _ + 1 + 1 = 1 := hw
      omega
  | o :: r, S, F1, hq, e69, e70, h0, h1, hc, hs, hS, hw, hv, hn => by
    have hl : (o :: r).length = r.length + 1 := rfl
    rw [hl] at hc h1
    rw [clf_cons] at hc
    have ho := (List.cons.inj hc).1
    have hr := (List.cons.inj hc).2
    have o1 : ((sy_ai F1 49).getD (sy_i F1 71).toInt.toNat 0).toInt = o.1 := by rw [qq_a hq (by decide) (by decide), ← ho]
    have o2 : ((sy_ai F1 50).getD (sy_i F1 71).toInt.toNat 0).toInt = o.2 := by rw [qq_a hq (by decide) (by decide), ← ho]
    obtain ⟨⟨w0, w1, w2⟩, w3, w4⟩ := hw
    have two : 2 ≤ o.1 → 2 ≤ S.length := fun z => (w4 z).1
    have nx : (sy_i F1 71).toInt.toNat + 1 = ((sy_i F1 71).toInt + 1).toNat := by omega
    refine yte_5 (by decide) F1 X1 X2 hq.1 (by omega) (by omega) (by omega) ?_ ?_ ?_ ?_ ?_ ?_ ?_ ?_ ?_ ?_ ?_ ?_ ?_ ?_ ?_ ?_ ?_
    iterate 6
      intros
      first | omega | (have := two (by omega); omega)
    · intro c0 c1 c2
      have := w2 (by omega)
      omega
    · intros; omega
    · intros; omega
    · intros; omega
    · intro c0 c1 c2 c3 c4 c5 F2 hb g a53 e69' i69 e70' i70 e71' i71
      obtain ⟨y, x, S, rfl⟩ := two2 (two (by omega))
      simp only [List.length_cons] at e70 hS
      have n1 : ((sy_i F1 70).toInt + (-1 : Int) - 1).toNat = S.length := by omega
      have n2 : ((sy_i F1 70).toInt + (-1 : Int)).toNat = S.length + 1 := by omega
      have hy : (sy_ai F1 53).getD (S.length + 1) 0 = y := hs.1
      have hx : (sy_ai F1 53).getD S.length 0 = x := hs.2.1
      rw [n1, n2, hy, hx] at a53
      have ev := evR_2 (v := v52 F) (r := r) (a := x) (b := y) (S := S) (o := o) (by omega)
      rw [if_neg (by omega)] at ev
      have eo : opv o.1 x y = x * y := by
        unfold opv
        rw [if_neg (by omega), if_neg (by omega), if_pos (by omega)]
      rw [eo] at ev
      rw [ev] at hv hn
      exact te_L hbb r ((x * y) :: S) F2 (qq_on hq hb g (by decide)) (by omega) (by show _ = ((S.length + 1 : Nat) : Int); omega) (by omega) (by omega) (by rw [e71', ← nx]; exact hr) (by rw [a53]; exact stq_put rfl hs.2.2) (by simp only [List.length_cons]; omega) (w4 (by omega)).2 hv hn
    · intro c0 c1 c2 c3 c4 F2 hb g a53 e69' i69 e70' i70 e71' i71
      obtain ⟨y, x, S, rfl⟩ := two2 (two (by omega))
      simp only [List.length_cons] at e70 hS
      have n1 : ((sy_i F1 70).toInt + (-1 : Int) - 1).toNat = S.length := by omega
      have n2 : ((sy_i F1 70).toInt + (-1 : Int)).toNat = S.length + 1 := by omega
      have hy : (sy_ai F1 53).getD (S.length + 1) 0 = y := hs.1
      have hx : (sy_ai F1 53).getD S.length 0 = x := hs.2.1
      rw [n1, n2, hy, hx] at a53
      have ev := evR_2 (v := v52 F) (r := r) (a := x) (b := y) (S := S) (o := o) (by omega)
      rw [if_neg (by omega)] at ev
      have eo : opv o.1 x y = x - y := by
        unfold opv
        rw [if_neg (by omega), if_pos (by omega)]
      rw [eo] at ev
      rw [ev] at hv hn
      exact te_L hbb r ((x - y) :: S) F2 (qq_on hq hb g (by decide)) (by omega) (by show _ = ((S.length + 1 : Nat) : Int); omega) (by omega) (by omega) (by rw [e71', ← nx]; exact hr) (by rw [a53]; exact stq_put rfl hs.2.2) (by simp only [List.length_cons]; omega) (w4 (by omega)).2 hv hn
    · intro c0 c1 c2 c3 F2 hb g a53 e69' i69 e70' i70 e71' i71
      obtain ⟨y, x, S, rfl⟩ := two2 (two (by omega))
      simp only [List.length_cons] at e70 hS
      have n1 : ((sy_i F1 70).toInt + (-1 : Int) - 1).toNat = S.length := by omega
      have n2 : ((sy_i F1 70).toInt + (-1 : Int)).toNat = S.length + 1 := by omega
      have hy : (sy_ai F1 53).getD (S.length + 1) 0 = y := hs.1
      have hx : (sy_ai F1 53).getD S.length 0 = x := hs.2.1
      rw [n1, n2, hy, hx] at a53
      have ev := evR_2 (v := v52 F) (r := r) (a := x) (b := y) (S := S) (o := o) (by omega)
      rw [if_neg (by omega)] at ev
      have eo : opv o.1 x y = x + y := by
        unfold opv
        rw [if_pos (by omega)]
      rw [eo] at ev
      rw [ev] at hv hn
      exact te_L hbb r ((x + y) :: S) F2 (qq_on hq hb g (by decide)) (by omega) (by show _ = ((S.length + 1 : Nat) : Int); omega) (by omega) (by omega) (by rw [e71', ← nx]; exact hr) (by rw [a53]; exact stq_put rfl hs.2.2) (by simp only [List.length_cons]; omega) (w4 (by omega)).2 hv hn
    · intro c0 c1 c2 c3 c4 c5 c6 F2 hb g a53 e69' i69 e70' i70 e71' i71
      obtain ⟨y, x, S, rfl⟩ := two2 (two (by omega))
      simp only [List.length_cons] at e70 hS
      have n1 : ((sy_i F1 70).toInt + (-1 : Int) - 1).toNat = S.length := by omega
      have n2 : ((sy_i F1 70).toInt + (-1 : Int)).toNat = S.length + 1 := by omega
      have hy : (sy_ai F1 53).getD (S.length + 1) 0 = y := hs.1
      have hx : (sy_ai F1 53).getD S.length 0 = x := hs.2.1
      rw [n2, hy] at c3
      rw [n1, n2, hy, hx] at a53
      have ev := evR_2 (v := v52 F) (r := r) (a := x) (b := y) (S := S) (o := o) (by omega)
      rw [if_neg (fun z => c3 (i0z.mp z.2))] at ev
      have eo : opv o.1 x y = x / y := by
        unfold opv
        rw [if_neg (by omega), if_neg (by omega), if_neg (by omega)]
      rw [eo] at ev
      rw [ev] at hv hn
      exact te_L hbb r ((x / y) :: S) F2 (qq_on hq hb g (by decide)) (by omega) (by show _ = ((S.length + 1 : Nat) : Int); omega) (by omega) (by omega) (by rw [e71', ← nx]; exact hr) (by rw [a53]; exact stq_put rfl hs.2.2) (by simp only [List.length_cons]; omega) (w4 (by omega)).2 hv hn
    · intro c0 c1 c2 c3 F2 hb g e17 i17
      obtain ⟨y, x, S, rfl⟩ := two2 (two (by omega))
      simp only [List.length_cons] at e70 hS
      have n2 : ((sy_i F1 70).toInt + (-1 : Int)).toNat = S.length + 1 := by omega
      have hy : (sy_ai F1 53).getD (S.length + 1) 0 = y := hs.1
      rw [n2, hy] at c3
      have ev := evR_2 (v := v52 F) (r := r) (a := x) (b := y) (S := S) (o := o) (by omega)
      rw [if_pos ⟨by omega, i0z.mpr c3⟩] at ev
      have hn := hn ev
      exact ⟨_, F2, rfl, rfl, qq_on (qq_up hq (by decide)) hb g (by decide), fun _ => e17, fun y hy => (by rw [hn] at hy; cases hy)⟩
    · intro c0 c1 c2 F2 hb g a53 e69' i69 e70' i70 e71' i71
      have k1 : o.1 = 1 := by omega
      have hw3 := w3 (by omega)
      have ev := evR_1 (v := v52 F) (r := r) (S := S) k1
      rw [ev] at hv hn
      rw [o2, qq_a hq (j := 52) (by decide) (by decide)] at a53
      exact te_L hbb r (v52 F o.2.toNat :: S) F2 (qq_on hq hb g (by decide)) (by omega) (by show _ = ((S.length + 1 : Nat) : Int); omega) (by omega) (by omega) (by rw [e71', ← nx]; exact hr) (by rw [a53]; exact stq_put (by omega) hs) (by simp only [List.length_cons]; omega) hw3.2 hv hn
    · intro c0 c1 c2 F2 hb g a53 e69' i69 e70' i70 e71' i71
      have k1 : o.1 = 0 := by omega
      have hw3 := w3 (by omega)
      have ev := evR_0 (v := v52 F) (r := r) (S := S) k1
      rw [ofi o2] at ev
      rw [ev] at hv hn
      exact te_L hbb r (_ :: S) F2 (qq_on hq hb g (by decide)) (by omega) (by show _ = ((S.length + 1 : Nat) : Int); omega) (by omega) (by omega) (by rw [e71', ← nx]; exact hr) (by rw [a53]; exact stq_put (by omega) hs) (by simp only [List.length_cons]; omega) hw3.2 hv hn
theorem te_V (hB : iv_in F iv_B4) {a b : Int32} (h0 : 0 ≤ a.toInt) (hb : b.toInt ≤ 840) {O : List rO} (hO : cut_ F a.toInt b.toInt = O) (hw : wfR O 0 1) : jm_T Ls xs 1 jm_M166 [.ref 1000, .int a, .int b] (sy_dh F X1 X2 (iv_H 4)) 0 0 (pI 4 X1 X2 (teP F O)) := by
  obtain ⟨F0, hF0⟩ : ∃ F0, F0 = nm F (fun j => .inl (.int (if j = 0 then a else b))) := ⟨_, rfl⟩
  have k0 : ∀ j, j < 69 → F0 j = F j := fun j hj => by rw [hF0]; exact nm_lt j hj
  have i69 : sy_i F0 69 = a := by rw [hF0]; rfl
  have i70 : sy_i F0 70 = b := by rw [hF0]; rfl
  refine nm_T F (fun j => .inl (.int (if j = 0 then a else b))) X1 X2 (A := [.inl (.ref 1000), .inr (.inl 69), .inr (.inl 70)]) jm_ok166 (by decide) rfl ?_
  rw [← hF0]
  refine yte_0 (by decide) F0 X1 X2 (hd_iveq hB k0) ?_
  intro F1 hb1 g e69 j69 e70 j70 e71 j71
  have hl : O.length = (b.toInt - a.toInt).toNat := by
    rw [← hO]
    unfold cut_
    have len : ∀ n : Nat, (clf (sy_ai F 49) (sy_ai F 50) a.toInt.toNat n).length = n := fun n => by
      induction n with
      | zero => rfl
      | succ n ih =>
        show (clf _ _ _ n ++ [_]).length = n + 1
        rw [List.length_append, ih]
        rfl
    exact len _
  have hne : O ≠ [] := fun z => by
    rw [z] at hw
    exact absurd (show (0 : Nat) = 1 from hw) (by decide)
  have hpos : 0 < O.length := List.length_pos_iff.mpr hne
  rw [i69] at e71
  rw [i70] at e69
  refine te_L F X1 X2 hb O [] F1 (qq_src (qq_mk hb1 g (by decide)) k0) e69 e70 (by omega) (by omega) ?_ trivial (by decide) hw (fun T hT => ?_) (fun hn => ?_)
  · rw [e71, hl]
    exact hO
  · unfold exV
    rw [hT]
    cases T with
    | nil => rfl
    | cons x S => cases S <;> rfl
  · unfold exV
    rw [hn]
end TE
/-! ===== the reference: a law ===== -/
theorem cut_F {F F1 : Nat → sy_d} {x y : Int} (h49 : sy_ai F1 49 = sy_ai F 49) (h50 : sy_ai F1 50 = sy_ai F 50) : cut_ F1 x y = cut_ F x y := by
  unfold cut_
  rw [h49, h50]
theorem v52_F {F F1 : Nat → sy_d} (h : sy_ai F1 52 = sy_ai F 52) : v52 F1 = v52 F := by
  unfold v52
  rw [h]
section LT
variable {Ls : Nat} {xs : Nat → Int32} (F : Nat → sy_d) (X1 X2 : List jm_c)
theorem lv_97 {w : List rO} (F1 : Nat → sy_d) (hq : qR [17, 53] F F1) (h17 : (sy_i F1 17).toInt = 0) (h0 : 0 ≤ (sy_i F1 71).toInt) (h8 : (sy_i F1 72).toInt ≤ 840) (hw : wfR w 0 1) (hc : cut_ F (sy_i F1 71).toInt (sy_i F1 72).toInt = w) : hd_W Ls xs 2 jm_M180 (pI 4 X1 X2 (fun x F' => qR [17, 53] F F' ∧ x = (exV (v52 F) w).getD 0)) (97, sy_dL F1 [some (.inl (.ref 1000)), some (.inr (.inl 69)), some (.inr (.inl 70)), none, none], sy_dS F1 [.inr (.inl 72), .inr (.inl 71), .inl (.ref 1000)], sy_dh F1 X1 X2 (iv_H 4), 0, 0) := by
  have hc1 : cut_ F1 (sy_i F1 71).toInt (sy_i F1 72).toInt = w := (cut_F (qq_a hq (by decide) (by decide)) (qq_a hq (by decide) (by decide))).trans hc
  have ev : v52 F1 = v52 F := v52_F (qq_a hq (by decide) (by decide))
  refine hd_calI (R := teP F1 w) (nh := 69) (nv := 71) (s := 4) (s1 := 4) (d1 := 1) (M1 := jm_M166) (As := [.inl (.ref 1000), .inr (.inl 71), .inr (.inl 72)]) (rest := []) jm_ok180 rfl rfl (by decide) (by decide +kernel) (te_V F1 X1 X2 hq.1 h0 h8 hc1 hw) (fun F3 F' x hR p1 p2 p3 => ?_)
  obtain ⟨r1, r2, r3⟩ := hR
  rw [ev] at r2 r3
  have q3 := qq_trans hq (qR_dst r1 p1)
  have i17 : (sy_i F3 17).toInt = (sy_i F' 17).toInt := nz_fi (p1 17 (by decide))
  have i71 : sy_i F3 71 = x := zz_i p3
  refine ylt_100 (by decide) F3 X1 X2 q3.1 ?_ ?_
  · intro c0 F4 hb g
    refine ⟨_, F4, rfl, rfl, qq_on q3 hb g (by decide), ?_⟩
    cases he : exV (v52 F) w with
    | none =>
      have := r2 he
      omega
    | some y =>
      rw [i71]
      exact (r3 y he).1
  · intro c0 F4 hb g
    refine ⟨_, F4, rfl, rfl, qq_on q3 hb g (by decide), ?_⟩
    cases he : exV (v52 F) w with
    | none => rfl
    | some y =>
      have := nz_fi (r3 y he).2
      omega
theorem lv_L (hB : iv_in F iv_B4) {A : Int} (hA : 0 ≤ A ∧ A ≤ 11) : ∀ (l : List bRT) (F1 : Nat → sy_d), qR [17, 53] F F1 → (sy_i F1 17).toInt = 0 → (sy_i F1 69).toInt = A → 0 ≤ (sy_i F1 70).toInt → (sy_i F1 70).toInt + l.length = ix F 43 A.toNat → bL F (sy_i F1 70).toInt.toNat l.length = l → (∀ b ∈ l, wfB b) →
    hd_W Ls xs 2 jm_M180 (pI 4 X1 X2 (fun x F' => qR [17, 53] F F' ∧ x = lwV (v52 F) l)) (12, sy_dL F1 [some (.inl (.ref 1000)), some (.inr (.inl 69)), some (.inr (.inl 70)), none, none], sy_dS F1 [], sy_dh F1 X1 X2 (iv_H 4), 0, 0)
  | [], F1, hq, h17, e69, h0, hl, _, _ => by
    have b43 := nz_ba hB (k := 43) (lo := 0) (hi := 260) rfl A.toNat
    have hl : (sy_i F1 70).toInt + ((0 : Nat) : Int) = ((sy_ai F 43).getD A.toNat 0).toInt := hl
    have e43 : ((sy_ai F1 43).getD (sy_i F1 69).toInt.toNat 0).toInt = ((sy_ai F 43).getD A.toNat 0).toInt := by rw [e69, qq_a hq (by decide) (by decide)]
    refine ylt_12 (by decide) F1 X1 X2 hq.1 (by omega) (by omega) ?_ ?_ ?_
    · intro c0 F2 hb g
      exact ⟨_, F2, rfl, rfl, qq_on hq hb g (by decide), rfl⟩
    · intros
      omega
    · intros
      omega
  | br :: r, F1, hq, h17, e69, h0, hl, hbl, hw => by
    have b43 := nz_ba hB (k := 43) (lo := 0) (hi := 260) rfl A.toNat
    have hll : (br :: r).length = r.length + 1 := rfl
    rw [hll] at hl hbl
    have hl : (sy_i F1 70).toInt + ((r.length + 1 : Nat) : Int) = ((sy_ai F 43).getD A.toNat 0).toInt := hl
    rw [bL_cons] at hbl
    have hbr := (List.cons.inj hbl).1
    have hr := (List.cons.inj hbl).2
    have e43 : ((sy_ai F1 43).getD (sy_i F1 69).toInt.toNat 0).toInt = ((sy_ai F 43).getD A.toNat 0).toInt := by rw [e69, qq_a hq (by decide) (by decide)]
    have e44 : ((sy_ai F1 44).getD (sy_i F1 70).toInt.toNat 0) = (sy_ai F 44).getD (sy_i F1 70).toInt.toNat 0 := by rw [qq_a hq (by decide) (by decide)]
    have e45 : ((sy_ai F1 45).getD (sy_i F1 70).toInt.toNat 0).toInt = ix F 45 (sy_i F1 70).toInt.toNat := by rw [qq_a hq (by decide) (by decide)]; rfl
    have e46 : ((sy_ai F1 46).getD (sy_i F1 70).toInt.toNat 0).toInt = ix F 46 (sy_i F1 70).toInt.toNat := by rw [qq_a hq (by decide) (by decide)]; rfl
    have e47 : ((sy_ai F1 47).getD (sy_i F1 70).toInt.toNat 0).toInt = ix F 47 (sy_i F1 70).toInt.toNat := by rw [qq_a hq (by decide) (by decide)]; rfl
    have e48 : ((sy_ai F1 48).getD (sy_i F1 70).toInt.toNat 0).toInt = ix F 48 (sy_i F1 70).toInt.toNat := by rw [qq_a hq (by decide) (by decide)]; rfl
    have b44 := nz_ba hB (k := 44) (lo := 0) (hi := 1) rfl (sy_i F1 70).toInt.toNat
    have b45 := nz_ba hB (k := 45) (lo := 0) (hi := 840) rfl (sy_i F1 70).toInt.toNat
    have b46 := nz_ba hB (k := 46) (lo := 0) (hi := 840) rfl (sy_i F1 70).toInt.toNat
    have b47 := nz_ba hB (k := 47) (lo := 0) (hi := 840) rfl (sy_i F1 70).toInt.toNat
    have b48 := nz_ba hB (k := 48) (lo := 0) (hi := 840) rfl (sy_i F1 70).toInt.toNat
    have b45 : 0 ≤ ix F 45 (sy_i F1 70).toInt.toNat ∧ ix F 45 (sy_i F1 70).toInt.toNat ≤ 840 := b45
    have b46 : 0 ≤ ix F 46 (sy_i F1 70).toInt.toNat ∧ ix F 46 (sy_i F1 70).toInt.toNat ≤ 840 := b46
    have b47 : 0 ≤ ix F 47 (sy_i F1 70).toInt.toNat ∧ ix F 47 (sy_i F1 70).toInt.toNat ≤ 840 := b47
    have b48 : 0 ≤ ix F 48 (sy_i F1 70).toInt.toNat ∧ ix F 48 (sy_i F1 70).toInt.toNat ≤ 840 := b48
    obtain ⟨ww, wt⟩ := hw br List.mem_cons_self
    have hwr : ∀ b ∈ r, wfB b := fun b hb => hw b (List.mem_cons_of_mem _ hb)
    rw [← hbr] at ww wt ⊢
    refine ylt_12 (by decide) F1 X1 X2 hq.1 (by omega) (by omega) ?_ ?_ ?_
    · intros
      omega
    · intro c0 c1 F2 hb g e69' i69 e70' i70 e71 i71 e72 i72
      have hn : ¬ ((sy_ai F 44).getD (sy_i F1 70).toInt.toNat 0 = 1) := fun z => by
        rw [e44, z] at c1
        exact absurd c1 (by decide)
      refine hd_W_mono (lv_97 F X1 X2 (w := cut_ F (ix F 47 (sy_i F1 70).toInt.toNat) (ix F 48 (sy_i F1 70).toInt.toNat)) F2 (qq_on hq hb g (by decide)) ?_ (by omega) (by omega) ww (by rw [e71, e72, e47, e48])) ?_
      · rw [nz_fi (g 17 (by decide) (by decide))]
        exact h17
      · rintro v G ⟨x, F', rfl, rfl, h1, h2⟩
        refine ⟨x, F', rfl, rfl, h1, ?_⟩
        rw [h2]
        unfold bq
        rw [if_neg hn]
        rfl
    · intro c0 c1 F2 hb g e69' i69 e70' i70 e71 i71 e72 i72
      have hn : (sy_ai F 44).getD (sy_i F1 70).toInt.toNat 0 = 1 := i1z.mpr (by rw [e44] at c1; omega)
      have q2 := qq_on (W' := [17, 53]) hq hb g (by decide)
      obtain ⟨B, hBd⟩ : ∃ B : Nat, B = (sy_i F1 70).toInt.toNat := ⟨_, rfl⟩
      rw [← hBd] at e45 e46 e47 e48 b45 b46 b47 b48 ww wt hr hn e71 e72
      have ebq : bq F B = (some (cut_ F (ix F 45 B) (ix F 46 B), cut_ F (ix F 46 B) (ix F 47 B)), cut_ F (ix F 47 B) (ix F 48 B)) := by
        unfold bq
        rw [if_pos hn]
      rw [← hBd, ebq]
      rw [ebq] at ww wt
      obtain ⟨wu, wq⟩ := wt _ _ rfl
      have ev2 : v52 F2 = v52 F := v52_F (qq_a q2 (by decide) (by decide))
      refine hd_calI (R := teP F2 (cut_ F (ix F 45 B) (ix F 46 B))) (nh := 69) (nv := 71) (s := 4) (s1 := 4) (d1 := 1) (M1 := jm_M166) (As := [.inl (.ref 1000), .inr (.inl 71), .inr (.inl 72)]) (rest := []) jm_ok180 rfl rfl (by decide) (by decide +kernel) (te_V F2 X1 X2 q2.1 (by omega) (by omega) (by rw [e71, e72, e45, e46]; exact cut_F (qq_a q2 (by decide) (by decide)) (qq_a q2 (by decide) (by decide))) wu) (fun F3 F' x hR p1 p2 p3 => ?_)
      obtain ⟨r1, r2, r3⟩ := hR
      rw [ev2] at r2 r3
      have q3 := qq_trans q2 (qR_dst r1 p1)
      have i17 : (sy_i F3 17).toInt = (sy_i F' 17).toInt := nz_fi (p1 17 (by decide))
      have i17b : (sy_i F2 17).toInt = 0 := by rw [nz_fi (g 17 (by decide) (by decide))]; exact h17
      have j71 : sy_i F3 71 = x := zz_i p3
      have j70 : (sy_i F3 70).toInt = (sy_i F1 70).toInt := by rw [nz_fi (p2 70 (by decide) (by decide))]; exact e70'
      have j69 : (sy_i F3 69).toInt = A := by rw [nz_fi (p2 69 (by decide) (by decide)), e69']; exact e69
      have f46 : ((sy_ai F3 46).getD (sy_i F3 70).toInt.toNat 0).toInt = ix F 46 B := by rw [qq_a q3 (by decide) (by decide), j70, hBd]; rfl
      have f47 : ((sy_ai F3 47).getD (sy_i F3 70).toInt.toNat 0).toInt = ix F 47 B := by rw [qq_a q3 (by decide) (by decide), j70, hBd]; rfl
      refine ylt_47 (by decide) F3 X1 X2 q3.1 (by omega) ?_
      intro F4 hb4 g4 e69'' i69' e70'' i70' e71' i71' e72' i72' e73' i73'
      have q4' := qq_on (W' := [17, 53]) q3 hb4 g4 (by decide)
      have ev4 : v52 F4 = v52 F := v52_F (qq_a q4' (by decide) (by decide))
      refine hd_calI (R := teP F4 (cut_ F (ix F 46 B) (ix F 47 B))) (nh := 69) (nv := 72) (s := 4) (s1 := 4) (d1 := 1) (M1 := jm_M166) (As := [.inl (.ref 1000), .inr (.inl 72), .inr (.inl 73)]) (rest := []) jm_ok180 rfl rfl (by decide) (by decide +kernel) (te_V F4 X1 X2 q4'.1 (by omega) (by omega) (by rw [e72', e73', f46, f47]; exact cut_F (qq_a q4' (by decide) (by decide)) (qq_a q4' (by decide) (by decide))) wq) (fun F5 F6 y hR2 r1' r2' r3' => ?_)
      obtain ⟨s1, s2, s3⟩ := hR2
      rw [ev4] at s2 s3
      have q5 := qq_trans q4' (qR_dst s1 r1')
      have k17 : (sy_i F5 17).toInt = (sy_i F6 17).toInt := nz_fi (r1' 17 (by decide))
      have l17 : (sy_i F4 17).toInt = (sy_i F3 17).toInt := nz_fi (g4 17 (by decide) (by decide))
      have k72 : sy_i F5 72 = y := zz_i r3'
      have k71 : sy_i F5 71 = x := by rw [eI (r2' 71 (by decide) (by decide)), i71']; exact j71
      have k70 : (sy_i F5 70).toInt = (sy_i F1 70).toInt := by rw [nz_fi (r2' 70 (by decide) (by decide)), e70'']; exact j70
      have k69 : (sy_i F5 69).toInt = A := by rw [nz_fi (r2' 69 (by decide) (by decide)), e69'']; exact j69
      have g47 : ((sy_ai F5 47).getD (sy_i F5 70).toInt.toNat 0).toInt = ix F 47 B := by rw [qq_a q5 (by decide) (by decide), k70, hBd]; rfl
      have g48 : ((sy_ai F5 48).getD (sy_i F5 70).toInt.toNat 0).toInt = ix F 48 B := by rw [qq_a q5 (by decide) (by decide), k70, hBd]; rfl
      have h17i : (sy_i F5 17).toInt = 0 → ∃ a b, exV (v52 F) (cut_ F (ix F 45 B) (ix F 46 B)) = some a ∧ exV (v52 F) (cut_ F (ix F 46 B) (ix F 47 B)) = some b ∧ x = a ∧ y = b := fun z => by
        cases hq2 : exV (v52 F) (cut_ F (ix F 46 B) (ix F 47 B)) with
        | none =>
          have := s2 hq2
          omega
        | some b =>
          obtain ⟨y1, y2⟩ := s3 b hq2
          have y2 := nz_fi y2
          cases hu : exV (v52 F) (cut_ F (ix F 45 B) (ix F 46 B)) with
          | none =>
            have := r2 hu
            omega
          | some a => exact ⟨a, b, rfl, rfl, (r3 a hu).1, y1⟩
      have h17n : (sy_i F5 17).toInt ≠ 0 → exV (v52 F) (cut_ F (ix F 45 B) (ix F 46 B)) = none ∨ exV (v52 F) (cut_ F (ix F 46 B) (ix F 47 B)) = none := fun z => by
        cases hu : exV (v52 F) (cut_ F (ix F 45 B) (ix F 46 B)) with
        | none => exact Or.inl rfl
        | some a =>
          cases hq2 : exV (v52 F) (cut_ F (ix F 46 B) (ix F 47 B)) with
          | none => exact Or.inr rfl
          | some b =>
            have y1 := nz_fi (r3 a hu).2
            have y2 := nz_fi (s3 b hq2).2
            exact absurd (show (sy_i F5 17).toInt = 0 by omega) z
      refine ylt_64 (by decide) F5 X1 X2 q5.1 (by omega) ?_ ?_ ?_
      · intro c2 c3 F7 hb7 g7 e69a i69a e70a i70a e71a i71a e72a i72a
        obtain ⟨a, b, ha, hb', hxa, hyb⟩ := h17i c2
        refine hd_W_mono (lv_97 F X1 X2 (w := cut_ F (ix F 47 B) (ix F 48 B)) F7 (qq_on q5 hb7 g7 (by decide)) ?_ (by omega) (by omega) ww (by rw [e71a, e72a, g47, g48])) ?_
        · rw [nz_fi (g7 17 (by decide) (by decide))]
          exact c2
        · rintro v G ⟨x', F', rfl, rfl, h1, h2⟩
          refine ⟨x', F', rfl, rfl, h1, ?_⟩
          have hab : a.toInt < b.toInt := by rw [← hxa, ← hyb, ← k71, ← k72]; exact c3
          rw [h2, lwV_s ha hb', if_pos hab]
      · intro c2 c3 F7 hb7 g7 e69a i69a e70a i70a
        obtain ⟨a, b, ha, hb', hxa, hyb⟩ := h17i c2
        refine hd_W_mono (lv_L hB hA r F7 (qq_on q5 hb7 g7 (by decide)) ?_ (by omega) (by omega) ?_ ?_ hwr) ?_
        · rw [nz_fi (g7 17 (by decide) (by decide))]
          exact c2
        · show _ = ((sy_ai F 43).getD A.toNat 0).toInt
          omega
        · rw [e70a, k70, show ((sy_i F1 70).toInt + 1).toNat = B + 1 by omega]
          exact hr
        · rintro v G ⟨x', F', rfl, rfl, h1, h2⟩
          refine ⟨x', F', rfl, rfl, h1, ?_⟩
          have hab : ¬ a.toInt < b.toInt := by rw [← hxa, ← hyb, ← k71, ← k72]; omega
          rw [h2, lwV_s ha hb', if_neg hab]
      · intro c2 F7 hb7 g7
        exact ⟨_, F7, rfl, rfl, qq_on q5 hb7 g7 (by decide), (lwV_0 (h17n c2)).symm⟩
end LT
