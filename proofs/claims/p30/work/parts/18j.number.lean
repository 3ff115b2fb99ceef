/-! ===== the class: a number is cut out ===== -/
theorem cn_sub {A B : Int32} (h0 : 0 ≤ A.toInt) (h1 : A.toInt ≤ 2000) (h2 : 0 ≤ B.toInt) (h3 : B.toInt ≤ 2000) : (A - B).toInt = A.toInt - B.toInt := Jvm.Kit.i32_sub (by omega) (by omega)
theorem cn_num {N : Int64} {T : Int32} (h0 : 0 ≤ N.toInt) (h1 : N.toInt ≤ 100000) (h2 : 48 ≤ T.toInt) (h3 : T.toInt ≤ 57) : (N * (10 : Int64) + (T - (48 : Int32)).toInt64).toInt = N.toInt * 10 + (T.toInt - 48) := by
  have e10 : (10 : Int64).toInt = 10 := by decide
  have e48 : (48 : Int32).toInt = 48 := by decide
  have m : (N * (10 : Int64)).toInt = N.toInt * 10 := by rw [Jvm.Kit.i64_mul (by rw [e10]; omega) (by rw [e10]; omega), e10]
  have d : (T - (48 : Int32)).toInt = T.toInt - 48 := by rw [Jvm.Kit.i32_sub (by rw [e48]; omega) (by rw [e48]; omega), e48]
  have d2 : (T - (48 : Int32)).toInt64.toInt = T.toInt - 48 := by rw [Jvm.Kit.i64_of_i32, d]
  rw [Jvm.Kit.i64_add (by rw [m, d2]; omega) (by rw [m, d2]; omega), m, d2]
def cn_C (q : Int) (N : Int64) : Prop := ∀ m : Nat, q = m → m ≤ 4 → 0 ≤ N.toInt ∧ N.toInt + 1 ≤ 10 ^ m
theorem cn_pow {m : Nat} (h : m ≤ 3) : (10 : Int) ^ m ≤ 1000 := by
  have : m = 0 ∨ m = 1 ∨ m = 2 ∨ m = 3 := by omega
  rcases this with rfl | rfl | rfl | rfl <;> decide
theorem cn_pow4 {m : Nat} (h : m ≤ 4) : (10 : Int) ^ m ≤ 10000 := by
  have : m = 0 ∨ m = 1 ∨ m = 2 ∨ m = 3 ∨ m = 4 := by omega
  rcases this with rfl | rfl | rfl | rfl | rfl <;> decide
theorem cn_step {q : Int} {N : Int64} {T : Int32} (h0 : 0 ≤ q) (h : cn_C q N) (h2 : 48 ≤ T.toInt) (h3 : T.toInt ≤ 57) : cn_C (q + 1) (N * (10 : Int64) + (T - (48 : Int32)).toInt64) := by
  intro m hm h4
  obtain ⟨m', rfl⟩ : ∃ m', m = m' + 1 := ⟨m - 1, by omega⟩
  obtain ⟨a, b⟩ := h m' (by omega) (by omega)
  have p := cn_pow (m := m') (by omega)
  rw [cn_num a (by omega) h2 h3, Int.pow_succ]
  omega
theorem jx_upd {F F1 : Nat → sy_d} {n : Nat} {v : Int32} {w : Int64} (hj : jx_ok F) (g1 : F1 39 = .inr (.inl (jm_upd (sy_ai F 39) n v))) (g2 : F1 41 = .inr (.inr (jm_updL (sy_al F 41) n w))) (h : v = 24 → 0 ≤ w.toInt ∧ w.toInt ≤ 9999) : jx_ok F1 := by
  intro j hv
  rw [zz_ai g1, jm_upd_at] at hv
  rw [zz_al g2, jm_updL_at]
  split at hv
  · rename_i e
    rw [if_pos e]
    exact h hv
  · rename_i e
    rw [if_neg e]
    exact hj j hv
theorem cn_B {F F1 : Nat → sy_d} {l : List Int32} {m : List Int64} (hB : iv_in F iv_B0) (g : ∀ j, j < 82 → j ≠ 39 ∧ j ≠ 41 → F1 j = F j) (g1 : F1 39 = .inr (.inl l)) (g2 : F1 41 = .inr (.inr m)) : iv_in F1 iv_B0 := hd_in1 hB (fun j t hj => by
  by_cases h : j = 39
  · subst h
    right
    have ht : t = iz2 := (Option.some.inj hj).symm
    rw [g1, ht]
    exact ⟨rfl, fun j => iv_full _⟩
  · by_cases h' : j = 41
    · subst h'
      right
      have ht : t = iz3 := (Option.some.inj hj).symm
      rw [g2, ht]
      exact ⟨rfl, fun j => iv_fullL _⟩
    · exact Or.inl (g j (List.getElem?_eq_some_iff.mp hj).1 ⟨h, h'⟩))
def cn_Q (s : Nat) (F : Nat → sy_d) (X1 X2 : List jm_c) : Option Value → jm_h → Prop := fun v G => ∃ (x : Int32) (F' : Nat → sy_d), v = some (.int x) ∧ G = sy_dh F' X1 X2 (iv_H s) ∧ (iv_in F' iv_B0 ∧ (∀ j, j < 82 → j ≠ 39 ∧ j ≠ 41 → F' j = F j) ∧ jx_ok F') ∧ 0 ≤ x.toInt ∧ x.toInt ≤ 2000
theorem cn_end {s : Nat} {F F1 F2 : Nat → sy_d} {X1 X2 : List jm_c} {n : Nat} {v A B : Int32} {w : Int64} (hB : iv_in F1 iv_B0) (hf : ∀ j, j < 82 → F1 j = F j) (hj : jx_ok F1) (g : ∀ j, j < 82 → j ≠ 39 ∧ j ≠ 41 → F2 j = F1 j) (g1 : F2 39 = .inr (.inl (jm_upd (sy_ai F1 39) n v))) (g2 : F2 41 = .inr (.inr (jm_updL (sy_al F1 41) n w))) (h : v = 24 → (A - B).toInt ≤ 4) (ha : 0 ≤ A.toInt ∧ A.toInt ≤ 2000) (hb : 0 ≤ B.toInt ∧ B.toInt ≤ A.toInt) (hc : cn_C (A.toInt - B.toInt) w) : cn_Q s F X1 X2 (some (.int A)) (sy_dh F2 X1 X2 (iv_H s)) := by
  refine ⟨A, F2, rfl, rfl, ⟨cn_B hB g g1 g2, fun j hj h => by rw [g j hj h, hf j hj], jx_upd hj g1 g2 (fun h24 => ?_)⟩, ha.1, ha.2⟩
  have h4 := h h24
  rw [cn_sub ha.1 ha.2 hb.1 (by omega)] at h4
  obtain ⟨a, b⟩ := hc (A.toInt - B.toInt).toNat (by omega) (by omega)
  have p := cn_pow4 (m := (A.toInt - B.toInt).toNat) (by omega)
  omega
theorem cn0_loop {Ls : Nat} {xs : Nat → Int32} (F : Nat → sy_d) (X1 X2 : List jm_c) : ∀ (n : Nat) (F1 : Nat → sy_d), iv_in F1 iv_B0 → (∀ j, j < 82 → F1 j = F j) → jx_ok F1 → (0 ≤ (sy_i F1 82).toInt ∧ (sy_i F1 82).toInt < 401) → (0 ≤ (sy_i F1 83).toInt ∧ (sy_i F1 83).toInt ≤ (sy_i F1 85).toInt) → (sy_i F1 84).toInt ≤ 2000 → (0 ≤ (sy_i F1 85).toInt ∧ (sy_i F1 85).toInt ≤ 2000) → cn_C ((sy_i F1 85).toInt - (sy_i F1 83).toInt) (sy_l F1 86) → (2000 - (sy_i F1 85).toInt).toNat = n →
    hd_W Ls xs 2 jm_M61 (cn_Q 0 F X1 X2) (6, sy_dL F1 [some (.inl (.ref 31)), some (.inr (.inl 82)), some (.inl (.ref 9)), some (.inr (.inl 83)), some (.inr (.inl 84)), some (.inr (.inl 85)), some (.inr (.inr 86)), none], sy_dS F1 [], sy_dh F1 X1 X2 (iv_H 0), 0, 0) := by
  intro n
  induction n with
  | zero =>
    intro F1 hB hf hj hn hs he ha hc hm
    by_cases h4 : ((sy_i F1 85) - (sy_i F1 83)).toInt ≤ 4
    · exact cn0_6_0 (by decide) F1 X1 X2 hB (by omega) hn h4 hn (fun F2 g g1 g2 => cn_end hB hf hj g g1 g2 (fun _ => h4) ha hs hc)
    · exact cn0_6_1 (by decide) F1 X1 X2 hB (by omega) hn (Int.not_le.mp h4) hn (fun F2 g g1 g2 => cn_end hB hf hj g g1 g2 (fun q => absurd q (by decide)) ha hs hc)
  | succ n ih =>
    intro F1 hB hf hj hn hs he ha hc hm
    by_cases hlt : (sy_i F1 85).toInt < (sy_i F1 84).toInt
    · have h2000 : 0 ≤ (sy_i F1 85).toInt ∧ (sy_i F1 85).toInt < 2000 := ⟨ha.1, by omega⟩
      by_cases h48 : ((sy_ai F1 2).getD (sy_i F1 85).toNatClampNeg 0).toInt < 48
      · by_cases h4 : ((sy_i F1 85) - (sy_i F1 83)).toInt ≤ 4
        · exact cn0_6_2 (by decide) F1 X1 X2 hB hlt h2000 h48 hn h4 hn (fun F2 g g1 g2 => cn_end hB hf hj g g1 g2 (fun _ => h4) ha hs hc)
        · exact cn0_6_3 (by decide) F1 X1 X2 hB hlt h2000 h48 hn (Int.not_le.mp h4) hn (fun F2 g g1 g2 => cn_end hB hf hj g g1 g2 (fun q => absurd q (by decide)) ha hs hc)
      · by_cases h57 : 57 < ((sy_ai F1 2).getD (sy_i F1 85).toNatClampNeg 0).toInt
        · by_cases h4 : ((sy_i F1 85) - (sy_i F1 83)).toInt ≤ 4
          · exact cn0_6_4 (by decide) F1 X1 X2 hB hlt h2000 (Int.not_lt.mp h48) h57 hn h4 hn (fun F2 g g1 g2 => cn_end hB hf hj g g1 g2 (fun _ => h4) ha hs hc)
          · exact cn0_6_5 (by decide) F1 X1 X2 hB hlt h2000 (Int.not_lt.mp h48) h57 hn (Int.not_le.mp h4) hn (fun F2 g g1 g2 => cn_end hB hf hj g g1 g2 (fun q => absurd q (by decide)) ha hs hc)
        · have hinc := hd_inc1 ha.1 (by omega)
          have hst := cn_step (q := (sy_i F1 85).toInt - (sy_i F1 83).toInt) (by omega) hc (Int.not_lt.mp h48) (Int.not_lt.mp h57)
          refine cn0_6_6 (by decide) F1 X1 X2 hB hlt h2000 (Int.not_lt.mp h48) (Int.not_lt.mp h57) h2000 (fun F2 g g2 g3 g4 g5 g6 => ?_)
          have e2 := zz_i g2
          have e3 := zz_i g3
          have e4 := zz_i g4
          have e5 := zz_i g5
          have e6 := zz_l g6
          refine ih F2 (hd_in1 hB (fun j t hj => Or.inl (g j (List.getElem?_eq_some_iff.mp hj).1 trivial))) (fun j hj => by rw [g j hj trivial, hf j hj]) (jx_ok_eq (g 39 (by decide) trivial) (g 41 (by decide) trivial) hj) (by rw [e2]; exact hn) ?_ (by rw [e4]; exact he) ?_ ?_ ?_
          · rw [e3, e5, hinc]; omega
          · rw [e5, hinc]; omega
          · rw [e3, e5, e6, hinc]
            rw [show (sy_i F1 85).toInt + 1 - (sy_i F1 83).toInt = (sy_i F1 85).toInt - (sy_i F1 83).toInt + 1 by omega]
            exact hst
          · rw [e5, hinc]; omega
    · by_cases h4 : ((sy_i F1 85) - (sy_i F1 83)).toInt ≤ 4
      · exact cn0_6_0 (by decide) F1 X1 X2 hB (Int.not_lt.mp hlt) hn h4 hn (fun F2 g g1 g2 => cn_end hB hf hj g g1 g2 (fun _ => h4) ha hs hc)
      · exact cn0_6_1 (by decide) F1 X1 X2 hB (Int.not_lt.mp hlt) hn (Int.not_le.mp h4) hn (fun F2 g g1 g2 => cn_end hB hf hj g g1 g2 (fun q => absurd q (by decide)) ha hs hc)
theorem ok_0_61_31_9 : ct_ok jj k_0_61_31_9 := by
  intro M hM Ls xs F X1 X2 hE hJ
  have hM : jm_TB[61]? = some M := hM
  have e : jm_TB[61]? = some jm_M61 := rfl
  rw [e] at hM
  cases hM
  have hE : iv_in F (iv_B0 ++ [(0, 0, 400), (0, 0, 1999), (0, 1, 2000)]) := hE
  have hB : iv_in F iv_B0 := fun k t hk => hE k t (by rw [List.getElem?_append_left (List.getElem?_eq_some_iff.mp hk).1]; exact hk)
  have hJ : jx_ok F := hJ
  obtain ⟨x, hx, x1, x2⟩ := iv_h0 (hE 82 (0, 0, 400) rfl)
  obtain ⟨y, hy, y1, y2⟩ := iv_h0 (hE 83 (0, 0, 1999) rfl)
  obtain ⟨z, hz, z1, z2⟩ := iv_h0 (hE 84 (0, 1, 2000) rfl)
  have ex := zz_i hx
  have ey := zz_i hy
  have ez := zz_i hz
  have z0 : (0 : Int64).toInt = 0 := by decide
  refine jm_T_mono (P1 := cn_Q 0 F X1 X2) (hd_T (As := [.inl (.ref 31), .inr (.inl 82), .inl (.ref 9), .inr (.inl 83), .inr (.inl 84)]) jm_ok61 (by decide) (cn0_0_0 (by decide) F X1 X2 hB (fun F1 g g2 g3 g4 g5 g6 => ?_))) ?_
  · have e2 := zz_i g2
    have e3 := zz_i g3
    have e4 := zz_i g4
    have e5 := zz_i g5
    have e6 := zz_l g6
    rw [ex] at e2
    rw [ey] at e3 e5
    rw [ez] at e4
    refine cn0_loop F X1 X2 _ F1 (hd_in1 hB (fun j t hj => Or.inl (g j (List.getElem?_eq_some_iff.mp hj).1 trivial))) (fun j hj => g j hj trivial) (jx_ok_eq (g 39 (by decide) trivial) (g 41 (by decide) trivial) hJ) (by rw [e2]; omega) (by rw [e3, e5]; omega) (by rw [e4]; omega) (by rw [e5]; omega) ?_ rfl
    rw [e3, e5, e6]
    intro m hm _
    have : m = 0 := by omega
    subst this
    rw [z0]
    decide
  · rintro v G ⟨w, F', rfl, rfl, ⟨hB', hf, hj⟩, w1, w2⟩
    refine ⟨0, F', List.mem_cons_self, rfl, fun j hj hw => ?_, hB', ⟨rfl, w1, w2⟩, hj⟩
    have hw : ([39, 41] : List Nat).contains j = false := hw
    refine hf j hj ⟨?_, ?_⟩
    · intro q; subst q; exact absurd hw (by decide)
    · intro q; subst q; exact absurd hw (by decide)
theorem cn1_loop {Ls : Nat} {xs : Nat → Int32} (F : Nat → sy_d) (X1 X2 : List jm_c) : ∀ (n : Nat) (F1 : Nat → sy_d), iv_in F1 iv_B0 → (∀ j, j < 82 → F1 j = F j) → jx_ok F1 → (0 ≤ (sy_i F1 82).toInt ∧ (sy_i F1 82).toInt < 401) → (0 ≤ (sy_i F1 83).toInt ∧ (sy_i F1 83).toInt ≤ (sy_i F1 85).toInt) → (sy_i F1 84).toInt ≤ 2000 → (0 ≤ (sy_i F1 85).toInt ∧ (sy_i F1 85).toInt ≤ 2000) → cn_C ((sy_i F1 85).toInt - (sy_i F1 83).toInt) (sy_l F1 86) → (2000 - (sy_i F1 85).toInt).toNat = n →
    hd_W Ls xs 2 jm_M61 (cn_Q 1 F X1 X2) (6, sy_dL F1 [some (.inl (.ref 31)), some (.inr (.inl 82)), some (.inl (.ref 9)), some (.inr (.inl 83)), some (.inr (.inl 84)), some (.inr (.inl 85)), some (.inr (.inr 86)), none], sy_dS F1 [], sy_dh F1 X1 X2 (iv_H 1), 0, 0) := by
  intro n
  induction n with
  | zero =>
    intro F1 hB hf hj hn hs he ha hc hm
    by_cases h4 : ((sy_i F1 85) - (sy_i F1 83)).toInt ≤ 4
    · exact cn1_6_0 (by decide) F1 X1 X2 hB (by omega) hn h4 hn (fun F2 g g1 g2 => cn_end hB hf hj g g1 g2 (fun _ => h4) ha hs hc)
    · exact cn1_6_1 (by decide) F1 X1 X2 hB (by omega) hn (Int.not_le.mp h4) hn (fun F2 g g1 g2 => cn_end hB hf hj g g1 g2 (fun q => absurd q (by decide)) ha hs hc)
  | succ n ih =>
    intro F1 hB hf hj hn hs he ha hc hm
    by_cases hlt : (sy_i F1 85).toInt < (sy_i F1 84).toInt
    · have h2000 : 0 ≤ (sy_i F1 85).toInt ∧ (sy_i F1 85).toInt < 2000 := ⟨ha.1, by omega⟩
      by_cases h48 : ((sy_ai F1 2).getD (sy_i F1 85).toNatClampNeg 0).toInt < 48
      · by_cases h4 : ((sy_i F1 85) - (sy_i F1 83)).toInt ≤ 4
        · exact cn1_6_2 (by decide) F1 X1 X2 hB hlt h2000 h48 hn h4 hn (fun F2 g g1 g2 => cn_end hB hf hj g g1 g2 (fun _ => h4) ha hs hc)
        · exact cn1_6_3 (by decide) F1 X1 X2 hB hlt h2000 h48 hn (Int.not_le.mp h4) hn (fun F2 g g1 g2 => cn_end hB hf hj g g1 g2 (fun q => absurd q (by decide)) ha hs hc)
      · by_cases h57 : 57 < ((sy_ai F1 2).getD (sy_i F1 85).toNatClampNeg 0).toInt
        · by_cases h4 : ((sy_i F1 85) - (sy_i F1 83)).toInt ≤ 4
          · exact cn1_6_4 (by decide) F1 X1 X2 hB hlt h2000 (Int.not_lt.mp h48) h57 hn h4 hn (fun F2 g g1 g2 => cn_end hB hf hj g g1 g2 (fun _ => h4) ha hs hc)
          · exact cn1_6_5 (by decide) F1 X1 X2 hB hlt h2000 (Int.not_lt.mp h48) h57 hn (Int.not_le.mp h4) hn (fun F2 g g1 g2 => cn_end hB hf hj g g1 g2 (fun q => absurd q (by decide)) ha hs hc)
        · have hinc := hd_inc1 ha.1 (by omega)
          have hst := cn_step (q := (sy_i F1 85).toInt - (sy_i F1 83).toInt) (by omega) hc (Int.not_lt.mp h48) (Int.not_lt.mp h57)
          refine cn1_6_6 (by decide) F1 X1 X2 hB hlt h2000 (Int.not_lt.mp h48) (Int.not_lt.mp h57) h2000 (fun F2 g g2 g3 g4 g5 g6 => ?_)
          have e2 := zz_i g2
          have e3 := zz_i g3
          have e4 := zz_i g4
          have e5 := zz_i g5
          have e6 := zz_l g6
          refine ih F2 (hd_in1 hB (fun j t hj => Or.inl (g j (List.getElem?_eq_some_iff.mp hj).1 trivial))) (fun j hj => by rw [g j hj trivial, hf j hj]) (jx_ok_eq (g 39 (by decide) trivial) (g 41 (by decide) trivial) hj) (by rw [e2]; exact hn) ?_ (by rw [e4]; exact he) ?_ ?_ ?_
          · rw [e3, e5, hinc]; omega
          · rw [e5, hinc]; omega
          · rw [e3, e5, e6, hinc]
            rw [show (sy_i F1 85).toInt + 1 - (sy_i F1 83).toInt = (sy_i F1 85).toInt - (sy_i F1 83).toInt + 1 by omega]
            exact hst
          · rw [e5, hinc]; omega
    · by_cases h4 : ((sy_i F1 85) - (sy_i F1 83)).toInt ≤ 4
      · exact cn1_6_0 (by decide) F1 X1 X2 hB (Int.not_lt.mp hlt) hn h4 hn (fun F2 g g1 g2 => cn_end hB hf hj g g1 g2 (fun _ => h4) ha hs hc)
      · exact cn1_6_1 (by decide) F1 X1 X2 hB (Int.not_lt.mp hlt) hn (Int.not_le.mp h4) hn (fun F2 g g1 g2 => cn_end hB hf hj g g1 g2 (fun q => absurd q (by decide)) ha hs hc)
theorem ok_1_61_31_9 : ct_ok jj k_1_61_31_9 := by
  intro M hM Ls xs F X1 X2 hE hJ
  have hM : jm_TB[61]? = some M := hM
  have e : jm_TB[61]? = some jm_M61 := rfl
  rw [e] at hM
  cases hM
  have hE : iv_in F (iv_B0 ++ [(0, 0, 400), (0, 0, 1999), (0, 1, 2000)]) := hE
  have hB : iv_in F iv_B0 := fun k t hk => hE k t (by rw [List.getElem?_append_left (List.getElem?_eq_some_iff.mp hk).1]; exact hk)
  have hJ : jx_ok F := hJ
  obtain ⟨x, hx, x1, x2⟩ := iv_h0 (hE 82 (0, 0, 400) rfl)
  obtain ⟨y, hy, y1, y2⟩ := iv_h0 (hE 83 (0, 0, 1999) rfl)
  obtain ⟨z, hz, z1, z2⟩ := iv_h0 (hE 84 (0, 1, 2000) rfl)
  have ex := zz_i hx
  have ey := zz_i hy
  have ez := zz_i hz
  have z0 : (0 : Int64).toInt = 0 := by decide
  refine jm_T_mono (P1 := cn_Q 1 F X1 X2) (hd_T (As := [.inl (.ref 31), .inr (.inl 82), .inl (.ref 9), .inr (.inl 83), .inr (.inl 84)]) jm_ok61 (by decide) (cn1_0_0 (by decide) F X1 X2 hB (fun F1 g g2 g3 g4 g5 g6 => ?_))) ?_
  · have e2 := zz_i g2
    have e3 := zz_i g3
    have e4 := zz_i g4
    have e5 := zz_i g5
    have e6 := zz_l g6
    rw [ex] at e2
    rw [ey] at e3 e5
    rw [ez] at e4
    refine cn1_loop F X1 X2 _ F1 (hd_in1 hB (fun j t hj => Or.inl (g j (List.getElem?_eq_some_iff.mp hj).1 trivial))) (fun j hj => g j hj trivial) (jx_ok_eq (g 39 (by decide) trivial) (g 41 (by decide) trivial) hJ) (by rw [e2]; omega) (by rw [e3, e5]; omega) (by rw [e4]; omega) (by rw [e5]; omega) ?_ rfl
    rw [e3, e5, e6]
    intro m hm _
    have : m = 0 := by omega
    subst this
    rw [z0]
    decide
  · rintro v G ⟨w, F', rfl, rfl, ⟨hB', hf, hj⟩, w1, w2⟩
    refine ⟨1, F', List.mem_cons_self, rfl, fun j hj hw => ?_, hB', ⟨rfl, w1, w2⟩, hj⟩
    have hw : ([39, 41] : List Nat).contains j = false := hw
    refine hf j hj ⟨?_, ?_⟩
    · intro q; subst q; exact absurd hw (by decide)
    · intro q; subst q; exact absurd hw (by decide)
theorem cn2_loop {Ls : Nat} {xs : Nat → Int32} (F : Nat → sy_d) (X1 X2 : List jm_c) : ∀ (n : Nat) (F1 : Nat → sy_d), iv_in F1 iv_B0 → (∀ j, j < 82 → F1 j = F j) → jx_ok F1 → (0 ≤ (sy_i F1 82).toInt ∧ (sy_i F1 82).toInt < 401) → (0 ≤ (sy_i F1 83).toInt ∧ (sy_i F1 83).toInt ≤ (sy_i F1 85).toInt) → (sy_i F1 84).toInt ≤ 2000 → (0 ≤ (sy_i F1 85).toInt ∧ (sy_i F1 85).toInt ≤ 2000) → cn_C ((sy_i F1 85).toInt - (sy_i F1 83).toInt) (sy_l F1 86) → (2000 - (sy_i F1 85).toInt).toNat = n →
    hd_W Ls xs 2 jm_M61 (cn_Q 2 F X1 X2) (6, sy_dL F1 [some (.inl (.ref 31)), some (.inr (.inl 82)), some (.inl (.ref 9)), some (.inr (.inl 83)), some (.inr (.inl 84)), some (.inr (.inl 85)), some (.inr (.inr 86)), none], sy_dS F1 [], sy_dh F1 X1 X2 (iv_H 2), 0, 0) := by
  intro n
  induction n with
  | zero =>
    intro F1 hB hf hj hn hs he ha hc hm
    by_cases h4 : ((sy_i F1 85) - (sy_i F1 83)).toInt ≤ 4
    · exact cn2_6_0 (by decide) F1 X1 X2 hB (by omega) hn h4 hn (fun F2 g g1 g2 => cn_end hB hf hj g g1 g2 (fun _ => h4) ha hs hc)
    · exact cn2_6_1 (by decide) F1 X1 X2 hB (by omega) hn (Int.not_le.mp h4) hn (fun F2 g g1 g2 => cn_end hB hf hj g g1 g2 (fun q => absurd q (by decide)) ha hs hc)
  | succ n ih =>
    intro F1 hB hf hj hn hs he ha hc hm
    by_cases hlt : (sy_i F1 85).toInt < (sy_i F1 84).toInt
    · have h2000 : 0 ≤ (sy_i F1 85).toInt ∧ (sy_i F1 85).toInt < 2000 := ⟨ha.1, by omega⟩
      by_cases h48 : ((sy_ai F1 2).getD (sy_i F1 85).toNatClampNeg 0).toInt < 48
      · by_cases h4 : ((sy_i F1 85) - (sy_i F1 83)).toInt ≤ 4
        · exact cn2_6_2 (by decide) F1 X1 X2 hB hlt h2000 h48 hn h4 hn (fun F2 g g1 g2 => cn_end hB hf hj g g1 g2 (fun _ => h4) ha hs hc)
        · exact cn2_6_3 (by decide) F1 X1 X2 hB hlt h2000 h48 hn (Int.not_le.mp h4) hn (fun F2 g g1 g2 => cn_end hB hf hj g g1 g2 (fun q => absurd q (by decide)) ha hs hc)
      · by_cases h57 : 57 < ((sy_ai F1 2).getD (sy_i F1 85).toNatClampNeg 0).toInt
        · by_cases h4 : ((sy_i F1 85) - (sy_i F1 83)).toInt ≤ 4
          · exact cn2_6_4 (by decide) F1 X1 X2 hB hlt h2000 (Int.not_lt.mp h48) h57 hn h4 hn (fun F2 g g1 g2 => cn_end hB hf hj g g1 g2 (fun _ => h4) ha hs hc)
          · exact cn2_6_5 (by decide) F1 X1 X2 hB hlt h2000 (Int.not_lt.mp h48) h57 hn (Int.not_le.mp h4) hn (fun F2 g g1 g2 => cn_end hB hf hj g g1 g2 (fun q => absurd q (by decide)) ha hs hc)
        · have hinc := hd_inc1 ha.1 (by omega)
          have hst := cn_step (q := (sy_i F1 85).toInt - (sy_i F1 83).toInt) (by omega) hc (Int.not_lt.mp h48) (Int.not_lt.mp h57)
          refine cn2_6_6 (by decide) F1 X1 X2 hB hlt h2000 (Int.not_lt.mp h48) (Int.not_lt.mp h57) h2000 (fun F2 g g2 g3 g4 g5 g6 => ?_)
          have e2 := zz_i g2
          have e3 := zz_i g3
          have e4 := zz_i g4
          have e5 := zz_i g5
          have e6 := zz_l g6
          refine ih F2 (hd_in1 hB (fun j t hj => Or.inl (g j (List.getElem?_eq_some_iff.mp hj).1 trivial))) (fun j hj => by rw [g j hj trivial, hf j hj]) (jx_ok_eq (g 39 (by decide) trivial) (g 41 (by decide) trivial) hj) (by rw [e2]; exact hn) ?_ (by rw [e4]; exact he) ?_ ?_ ?_
          · rw [e3, e5, hinc]; omega
          · rw [e5, hinc]; omega
          · rw [e3, e5, e6, hinc]
            rw [show (sy_i F1 85).toInt + 1 - (sy_i F1 83).toInt = (sy_i F1 85).toInt - (sy_i F1 83).toInt + 1 by omega]
            exact hst
          · rw [e5, hinc]; omega
    · by_cases h4 : ((sy_i F1 85) - (sy_i F1 83)).toInt ≤ 4
      · exact cn2_6_0 (by decide) F1 X1 X2 hB (Int.not_lt.mp hlt) hn h4 hn (fun F2 g g1 g2 => cn_end hB hf hj g g1 g2 (fun _ => h4) ha hs hc)
      · exact cn2_6_1 (by decide) F1 X1 X2 hB (Int.not_lt.mp hlt) hn (Int.not_le.mp h4) hn (fun F2 g g1 g2 => cn_end hB hf hj g g1 g2 (fun q => absurd q (by decide)) ha hs hc)
theorem ok_2_61_31_9 : ct_ok jj k_2_61_31_9 := by
  intro M hM Ls xs F X1 X2 hE hJ
  have hM : jm_TB[61]? = some M := hM
  have e : jm_TB[61]? = some jm_M61 := rfl
  rw [e] at hM
  cases hM
  have hE : iv_in F (iv_B0 ++ [(0, 0, 400), (0, 0, 1999), (0, 1, 2000)]) := hE
  have hB : iv_in F iv_B0 := fun k t hk => hE k t (by rw [List.getElem?_append_left (List.getElem?_eq_some_iff.mp hk).1]; exact hk)
  have hJ : jx_ok F := hJ
  obtain ⟨x, hx, x1, x2⟩ := iv_h0 (hE 82 (0, 0, 400) rfl)
  obtain ⟨y, hy, y1, y2⟩ := iv_h0 (hE 83 (0, 0, 1999) rfl)
  obtain ⟨z, hz, z1, z2⟩ := iv_h0 (hE 84 (0, 1, 2000) rfl)
  have ex := zz_i hx
  have ey := zz_i hy
  have ez := zz_i hz
  have z0 : (0 : Int64).toInt = 0 := by decide
  refine jm_T_mono (P1 := cn_Q 2 F X1 X2) (hd_T (As := [.inl (.ref 31), .inr (.inl 82), .inl (.ref 9), .inr (.inl 83), .inr (.inl 84)]) jm_ok61 (by decide) (cn2_0_0 (by decide) F X1 X2 hB (fun F1 g g2 g3 g4 g5 g6 => ?_))) ?_
  · have e2 := zz_i g2
    have e3 := zz_i g3
    have e4 := zz_i g4
    have e5 := zz_i g5
    have e6 := zz_l g6
    rw [ex] at e2
    rw [ey] at e3 e5
    rw [ez] at e4
    refine cn2_loop F X1 X2 _ F1 (hd_in1 hB (fun j t hj => Or.inl (g j (List.getElem?_eq_some_iff.mp hj).1 trivial))) (fun j hj => g j hj trivial) (jx_ok_eq (g 39 (by decide) trivial) (g 41 (by decide) trivial) hJ) (by rw [e2]; omega) (by rw [e3, e5]; omega) (by rw [e4]; omega) (by rw [e5]; omega) ?_ rfl
    rw [e3, e5, e6]
    intro m hm _
    have : m = 0 := by omega
    subst this
    rw [z0]
    decide
  · rintro v G ⟨w, F', rfl, rfl, ⟨hB', hf, hj⟩, w1, w2⟩
    refine ⟨2, F', List.mem_cons_self, rfl, fun j hj hw => ?_, hB', ⟨rfl, w1, w2⟩, hj⟩
    have hw : ([39, 41] : List Nat).contains j = false := hw
    refine hf j hj ⟨?_, ?_⟩
    · intro q; subst q; exact absurd hw (by decide)
    · intro q; subst q; exact absurd hw (by decide)
theorem cn3_loop {Ls : Nat} {xs : Nat → Int32} (F : Nat → sy_d) (X1 X2 : List jm_c) : ∀ (n : Nat) (F1 : Nat → sy_d), iv_in F1 iv_B0 → (∀ j, j < 82 → F1 j = F j) → jx_ok F1 → (0 ≤ (sy_i F1 82).toInt ∧ (sy_i F1 82).toInt < 401) → (0 ≤ (sy_i F1 83).toInt ∧ (sy_i F1 83).toInt ≤ (sy_i F1 85).toInt) → (sy_i F1 84).toInt ≤ 2000 → (0 ≤ (sy_i F1 85).toInt ∧ (sy_i F1 85).toInt ≤ 2000) → cn_C ((sy_i F1 85).toInt - (sy_i F1 83).toInt) (sy_l F1 86) → (2000 - (sy_i F1 85).toInt).toNat = n →
    hd_W Ls xs 2 jm_M61 (cn_Q 3 F X1 X2) (6, sy_dL F1 [some (.inl (.ref 31)), some (.inr (.inl 82)), some (.inl (.ref 9)), some (.inr (.inl 83)), some (.inr (.inl 84)), some (.inr (.inl 85)), some (.inr (.inr 86)), none], sy_dS F1 [], sy_dh F1 X1 X2 (iv_H 3), 0, 0) := by
  intro n
  induction n with
  | zero =>
    intro F1 hB hf hj hn hs he ha hc hm
    by_cases h4 : ((sy_i F1 85) - (sy_i F1 83)).toInt ≤ 4
    · exact cn3_6_0 (by decide) F1 X1 X2 hB (by omega) hn h4 hn (fun F2 g g1 g2 => cn_end hB hf hj g g1 g2 (fun _ => h4) ha hs hc)
    · exact cn3_6_1 (by decide) F1 X1 X2 hB (by omega) hn (Int.not_le.mp h4) hn (fun F2 g g1 g2 => cn_end hB hf hj g g1 g2 (fun q => absurd q (by decide)) ha hs hc)
  | succ n ih =>
    intro F1 hB hf hj hn hs he ha hc hm
    by_cases hlt : (sy_i F1 85).toInt < (sy_i F1 84).toInt
    · have h2000 : 0 ≤ (sy_i F1 85).toInt ∧ (sy_i F1 85).toInt < 2000 := ⟨ha.1, by omega⟩
      by_cases h48 : ((sy_ai F1 2).getD (sy_i F1 85).toNatClampNeg 0).toInt < 48
      · by_cases h4 : ((sy_i F1 85) - (sy_i F1 83)).toInt ≤ 4
        · exact cn3_6_2 (by decide) F1 X1 X2 hB hlt h2000 h48 hn h4 hn (fun F2 g g1 g2 => cn_end hB hf hj g g1 g2 (fun _ => h4) ha hs hc)
        · exact cn3_6_3 (by decide) F1 X1 X2 hB hlt h2000 h48 hn (Int.not_le.mp h4) hn (fun F2 g g1 g2 => cn_end hB hf hj g g1 g2 (fun q => absurd q (by decide)) ha hs hc)
      · by_cases h57 : 57 < ((sy_ai F1 2).getD (sy_i F1 85).toNatClampNeg 0).toInt
        · by_cases h4 : ((sy_i F1 85) - (sy_i F1 83)).toInt ≤ 4
          · exact cn3_6_4 (by decide) F1 X1 X2 hB hlt h2000 (Int.not_lt.mp h48) h57 hn h4 hn (fun F2 g g1 g2 => cn_end hB hf hj g g1 g2 (fun _ => h4) ha hs hc)
          · exact cn3_6_5 (by decide) F1 X1 X2 hB hlt h2000 (Int.not_lt.mp h48) h57 hn (Int.not_le.mp h4) hn (fun F2 g g1 g2 => cn_end hB hf hj g g1 g2 (fun q => absurd q (by decide)) ha hs hc)
        · have hinc := hd_inc1 ha.1 (by omega)
          have hst := cn_step (q := (sy_i F1 85).toInt - (sy_i F1 83).toInt) (by omega) hc (Int.not_lt.mp h48) (Int.not_lt.mp h57)
          refine cn3_6_6 (by decide) F1 X1 X2 hB hlt h2000 (Int.not_lt.mp h48) (Int.not_lt.mp h57) h2000 (fun F2 g g2 g3 g4 g5 g6 => ?_)
          have e2 := zz_i g2
          have e3 := zz_i g3
          have e4 := zz_i g4
          have e5 := zz_i g5
          have e6 := zz_l g6
          refine ih F2 (hd_in1 hB (fun j t hj => Or.inl (g j (List.getElem?_eq_some_iff.mp hj).1 trivial))) (fun j hj => by rw [g j hj trivial, hf j hj]) (jx_ok_eq (g 39 (by decide) trivial) (g 41 (by decide) trivial) hj) (by rw [e2]; exact hn) ?_ (by rw [e4]; exact he) ?_ ?_ ?_
          · rw [e3, e5, hinc]; omega
          · rw [e5, hinc]; omega
          · rw [e3, e5, e6, hinc]
            rw [show (sy_i F1 85).toInt + 1 - (sy_i F1 83).toInt = (sy_i F1 85).toInt - (sy_i F1 83).toInt + 1 by omega]
            exact hst
          · rw [e5, hinc]; omega
    · by_cases h4 : ((sy_i F1 85) - (sy_i F1 83)).toInt ≤ 4
      · exact cn3_6_0 (by decide) F1 X1 X2 hB (Int.not_lt.mp hlt) hn h4 hn (fun F2 g g1 g2 => cn_end hB hf hj g g1 g2 (fun _ => h4) ha hs hc)
      · exact cn3_6_1 (by decide) F1 X1 X2 hB (Int.not_lt.mp hlt) hn (Int.not_le.mp h4) hn (fun F2 g g1 g2 => cn_end hB hf hj g g1 g2 (fun q => absurd q (by decide)) ha hs hc)
theorem ok_3_61_31_9 : ct_ok jj k_3_61_31_9 := by
  intro M hM Ls xs F X1 X2 hE hJ
  have hM : jm_TB[61]? = some M := hM
  have e : jm_TB[61]? = some jm_M61 := rfl
  rw [e] at hM
  cases hM
  have hE : iv_in F (iv_B0 ++ [(0, 0, 400), (0, 0, 1999), (0, 1, 2000)]) := hE
  have hB : iv_in F iv_B0 := fun k t hk => hE k t (by rw [List.getElem?_append_left (List.getElem?_eq_some_iff.mp hk).1]; exact hk)
  have hJ : jx_ok F := hJ
  obtain ⟨x, hx, x1, x2⟩ := iv_h0 (hE 82 (0, 0, 400) rfl)
  obtain ⟨y, hy, y1, y2⟩ := iv_h0 (hE 83 (0, 0, 1999) rfl)
  obtain ⟨z, hz, z1, z2⟩ := iv_h0 (hE 84 (0, 1, 2000) rfl)
  have ex := zz_i hx
  have ey := zz_i hy
  have ez := zz_i hz
  have z0 : (0 : Int64).toInt = 0 := by decide
  refine jm_T_mono (P1 := cn_Q 3 F X1 X2) (hd_T (As := [.inl (.ref 31), .inr (.inl 82), .inl (.ref 9), .inr (.inl 83), .inr (.inl 84)]) jm_ok61 (by decide) (cn3_0_0 (by decide) F X1 X2 hB (fun F1 g g2 g3 g4 g5 g6 => ?_))) ?_
  · have e2 := zz_i g2
    have e3 := zz_i g3
    have e4 := zz_i g4
    have e5 := zz_i g5
    have e6 := zz_l g6
    rw [ex] at e2
    rw [ey] at e3 e5
    rw [ez] at e4
    refine cn3_loop F X1 X2 _ F1 (hd_in1 hB (fun j t hj => Or.inl (g j (List.getElem?_eq_some_iff.mp hj).1 trivial))) (fun j hj => g j hj trivial) (jx_ok_eq (g 39 (by decide) trivial) (g 41 (by decide) trivial) hJ) (by rw [e2]; omega) (by rw [e3, e5]; omega) (by rw [e4]; omega) (by rw [e5]; omega) ?_ rfl
    rw [e3, e5, e6]
    intro m hm _
    have : m = 0 := by omega
    subst this
    rw [z0]
    decide
  · rintro v G ⟨w, F', rfl, rfl, ⟨hB', hf, hj⟩, w1, w2⟩
    refine ⟨3, F', List.mem_cons_self, rfl, fun j hj hw => ?_, hB', ⟨rfl, w1, w2⟩, hj⟩
    have hw : ([39, 41] : List Nat).contains j = false := hw
    refine hf j hj ⟨?_, ?_⟩
    · intro q; subst q; exact absurd hw (by decide)
    · intro q; subst q; exact absurd hw (by decide)
