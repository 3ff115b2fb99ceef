/-! ===== numbers over Int, for the trees of ways ===== -/
theorem nz_c (X : Int32) : X.toNatClampNeg = X.toInt.toNat := rfl
theorem nz_add {A B : Int32} {a b : Int} (ha : A.toInt = a) (hb : B.toInt = b) (h1 : -2147483648 ≤ a + b) (h2 : a + b ≤ 2147483647) : (A + B).toInt = a + b := by
  subst ha; subst hb
  exact Jvm.Kit.i32_add (by omega) (by omega)
theorem nz_sub {A B : Int32} {a b : Int} (ha : A.toInt = a) (hb : B.toInt = b) (h1 : -2147483648 ≤ a - b) (h2 : a - b ≤ 2147483647) : (A - B).toInt = a - b := by
  subst ha; subst hb
  exact Jvm.Kit.i32_sub (by omega) (by omega)
theorem nz_mul {A B : Int32} {a b : Int} (ha : A.toInt = a) (hb : B.toInt = b) (h1 : -2147483648 ≤ a * b) (h2 : a * b ≤ 2147483647) : (A * B).toInt = a * b := by
  subst ha; subst hb
  exact Jvm.Kit.i32_mul (by omega) (by omega)
theorem nz_bx {F : Nat → sy_d} {E : List iv_t} {k : Nat} {lo hi : Int} (hB : iv_in F E) (h : E[k]? = some (0, lo, hi)) : lo ≤ (sy_i F k).toInt ∧ (sy_i F k).toInt ≤ hi := by
  obtain ⟨v, hv, a, b⟩ := iv_h0 (hB k _ h)
  rw [zz_i hv]
  exact ⟨a, b⟩
theorem nz_ba {F : Nat → sy_d} {E : List iv_t} {k : Nat} {lo hi : Int} (hB : iv_in F E) (h : E[k]? = some (2, lo, hi)) (j : Nat) : lo ≤ ((sy_ai F k).getD j 0).toInt ∧ ((sy_ai F k).getD j 0).toInt ≤ hi := by
  obtain ⟨l, hl, a⟩ := iv_h2 (hB k _ h)
  rw [zz_ai hl]
  exact a j
theorem nz_fi {F F1 : Nat → sy_d} {k : Nat} (h : F1 k = F k) : (sy_i F1 k).toInt = (sy_i F k).toInt := by simp only [sy_i, h]
theorem nz_fa {F F1 : Nat → sy_d} {k : Nat} (h : F1 k = F k) : sy_ai F1 k = sy_ai F k := by simp only [sy_ai, h]
theorem nz_mn (X : Int32) : -2147483648 ≤ X.toInt ∧ X.toInt ≤ 2147483647 := by
  have a := Int32.minValue_le_toInt X
  have b := Int32.toInt_le X
  constructor
  · exact a
  · exact b
theorem nz_hz {d : sy_d} {X : Int32} (e : d = .inl (.int X)) : iv_has d iz0 := by
  subst e
  exact ⟨rfl, (nz_mn X).1, (nz_mn X).2⟩
theorem nz_hi {d : sy_d} {X : Int32} {x lo hi : Int} (e : d = .inl (.int X)) (n : X.toInt = x) (h1 : lo ≤ x) (h2 : x ≤ hi) : iv_has d (0, lo, hi) := by
  subst e
  subst n
  exact ⟨rfl, h1, h2⟩
theorem nz_hz2 {d : sy_d} {l : List Int32} (e : d = .inr (.inl l)) : iv_has d iz2 := by
  subst e
  exact ⟨rfl, fun j => nz_mn _⟩
theorem nz_hz3 {d : sy_d} {l : List Int64} (e : d = .inr (.inr l)) : iv_has d iz3 := by
  subst e
  exact ⟨rfl, fun j => ⟨Int64.minValue_le_toInt _, Int64.toInt_le _⟩⟩
theorem nz_hA {d : sy_d} {l : List Int32} {lo hi : Int} (e : d = .inr (.inl l)) (h : ∀ j : Nat, lo ≤ (l.getD j 0).toInt ∧ (l.getD j 0).toInt ≤ hi) : iv_has d (2, lo, hi) := by
  subst e
  exact ⟨rfl, h⟩
theorem nz_in {F F1 : Nat → sy_d} (hB : iv_in F iv_B4) (chg : List Nat) (g : ∀ j, j < 69 → j ∉ chg → F1 j = F j) (h : ∀ k ∈ chg, ∀ t : iv_t, iv_B4[k]? = some t → iv_has (F1 k) t) : iv_in F1 iv_B4 := hd_in1 hB (fun j t hj => by
  by_cases q : j ∈ chg
  · exact Or.inr (h j q t hj)
  · exact Or.inl (g j (List.getElem?_eq_some_iff.mp hj).1 q))
theorem nz_up {l : List Int32} {i : Nat} {X : Int32} {x lo hi : Int} (h0 : ∀ j : Nat, lo ≤ (l.getD j 0).toInt ∧ (l.getD j 0).toInt ≤ hi) (n : X.toInt = x) (h1 : lo ≤ x) (h2 : x ≤ hi) (j : Nat) : lo ≤ ((jm_upd l i X).getD j 0).toInt ∧ ((jm_upd l i X).getD j 0).toInt ≤ hi := by
  rw [jm_upd_at]
  split
  · omega
  · exact h0 j
/-- what stays but for W; the bounds; the place in the text only goes on; a fault stays -/
abbrev gr (W : List Nat) (F F' : Nat → sy_d) : Prop := iv_in F' iv_B4 ∧ (∀ j, j < 69 → j ∉ W → F' j = F j) ∧ (sy_i F 4).toInt ≤ (sy_i F' 4).toInt ∧ ((sy_i F' 6).toInt = 0 → (sy_i F 6).toInt = 0)
theorem gr.b {W : List Nat} {F F' : Nat → sy_d} (h : gr W F F') : iv_in F' iv_B4 := h.1
theorem gr.f {W : List Nat} {F F' : Nat → sy_d} (h : gr W F F') : ∀ j, j < 69 → j ∉ W → F' j = F j := h.2.1
theorem gr.t {W : List Nat} {F F' : Nat → sy_d} (h : gr W F F') : (sy_i F 4).toInt ≤ (sy_i F' 4).toInt := h.2.2.1
theorem gr.u {W : List Nat} {F F' : Nat → sy_d} (h : gr W F F') : (sy_i F' 6).toInt = 0 → (sy_i F 6).toInt = 0 := h.2.2.2
theorem gr.dst {W : List Nat} {F F' F2 : Nat → sy_d} (h : gr W F F') (e : ∀ q, q < 69 → F2 q = F' q) : gr W F F2 := by
  have i4 := nz_fi (e 4 (by decide))
  have i6 := nz_fi (e 6 (by decide))
  exact ⟨hd_iveq h.b e, fun j hj hn => (e j hj).trans (h.f j hj hn), by rw [i4]; exact h.t, by rw [i6]; exact h.u⟩
theorem gr.src {W : List Nat} {F F' F0 : Nat → sy_d} (h : gr W F0 F') (e : ∀ q, q < 69 → F0 q = F q) : gr W F F' := by
  have i4 := nz_fi (e 4 (by decide))
  have i6 := nz_fi (e 6 (by decide))
  exact ⟨h.b, fun j hj hn => (h.f j hj hn).trans (e j hj), by rw [← i4]; exact h.t, by rw [← i6]; exact h.u⟩
theorem gr.trans {W W1 : List Nat} {F F' F2 : Nat → sy_d} (h : gr W F F') (h2 : gr W1 F' F2) (hs : ∀ x ∈ W1, x ∈ W) : gr W F F2 := by
  refine ⟨h2.b, fun j hj hn => (h2.f j hj (fun q => hn (hs _ q))).trans (h.f j hj hn), ?_, fun q => h.u (h2.u q)⟩
  have a := h.t
  have b := h2.t
  omega
theorem gr.mono {W W1 : List Nat} {F F' : Nat → sy_d} (h : gr W1 F F') (hs : ∀ x ∈ W1, x ∈ W) : gr W F F' := ⟨h.b, fun j hj hn => h.f j hj (fun q => hn (hs _ q)), h.t, h.u⟩
theorem gr.i {W : List Nat} {F F' : Nat → sy_d} (h : gr W F F') {k : Nat} (hk : k < 69) (hn : k ∉ W) : (sy_i F' k).toInt = (sy_i F k).toInt := nz_fi (h.f k hk hn)
theorem gr.a {W : List Nat} {F F' : Nat → sy_d} (h : gr W F F') {k : Nat} (hk : k < 69) (hn : k ∉ W) : sy_ai F' k = sy_ai F k := nz_fa (h.f k hk hn)
theorem gr_mk {W C : List Nat} {F F1 : Nat → sy_d} (hb : iv_in F1 iv_B4) (g : ∀ j, j < 69 → j ∉ C → F1 j = F j) (hs : ∀ x ∈ C, x ∈ W) (t : (sy_i F 4).toInt ≤ (sy_i F1 4).toInt) (u : (sy_i F1 6).toInt = 0 → (sy_i F 6).toInt = 0) : gr W F F1 := ⟨hb, fun j hj hn => g j hj (fun q => hn (hs _ q)), t, u⟩
theorem nz_eH {F F0 : Nat → sy_d} (X1 X2 : List jm_c) (k0 : ∀ j, j < 69 → F0 j = F j) : sy_dh F X1 X2 (iv_H 4) = sy_dh F0 X1 X2 (iv_H 4) := by
  have g1 : sy_gw 69 (iv_H 4).1 = true := by decide +kernel
  have g2 : sy_gw 69 (iv_H 4).2 = true := by decide +kernel
  simp only [sy_dh, sy_gw_ok g1 k0, sy_gw_ok g2 k0]
theorem nz_T1 {Ls : Nat} {xs : Nat → Int32} {d : Nat} {M : jm_M} {Q : Option Value → jm_h → Prop} {F : Nat → sy_d} {X1 X2 : List jm_c} {a : Int32} (hok : jm_ok jm_YN M) (hA : (sy_e1 [.inl (.ref 1000), .inr (.inl 69)]).length ≤ jm_mx M)
    (h : ∀ F0 : Nat → sy_d, (∀ j, j < 69 → F0 j = F j) → sy_i F0 69 = a → hd_W Ls xs d M Q (0, sy_dL F0 (sy_ent (jm_mx M) [.inl (.ref 1000), .inr (.inl 69)]), [], sy_dh F0 X1 X2 (iv_H 4), 0, 0)) :
    jm_T Ls xs d M [.ref 1000, .int a] (sy_dh F X1 X2 (iv_H 4)) 0 0 Q := by
  obtain ⟨F0, hF0⟩ : ∃ F0 : Nat → sy_d, F0 = fun j => if j = 69 then .inl (.int a) else F j := ⟨_, rfl⟩
  have k0 : ∀ j, j < 69 → F0 j = F j := fun j hj => by
    rw [hF0]
    dsimp only
    rw [if_neg (by omega)]
  have k1 : F0 69 = .inl (.int a) := by rw [hF0]; rfl
  have i69 : sy_i F0 69 = a := zz_i k1
  have eA : ([.ref 1000, .int a] : List Value) = ([.inl (.ref 1000), .inr (.inl 69)] : List sy_v).map (sy_dv F0) := by
    show _ = [Value.ref 1000, .int (sy_i F0 69)]
    rw [i69]
  rw [eA, nz_eH X1 X2 k0]
  exact hd_T hok hA (h F0 k0 i69)
theorem nz_T2 {Ls : Nat} {xs : Nat → Int32} {d : Nat} {M : jm_M} {Q : Option Value → jm_h → Prop} {F : Nat → sy_d} {X1 X2 : List jm_c} {a b : Int32} (hok : jm_ok jm_YN M) (hA : (sy_e1 [.inl (.ref 1000), .inr (.inl 69), .inr (.inl 70)]).length ≤ jm_mx M)
    (h : ∀ F0 : Nat → sy_d, (∀ j, j < 69 → F0 j = F j) → sy_i F0 69 = a → sy_i F0 70 = b → hd_W Ls xs d M Q (0, sy_dL F0 (sy_ent (jm_mx M) [.inl (.ref 1000), .inr (.inl 69), .inr (.inl 70)]), [], sy_dh F0 X1 X2 (iv_H 4), 0, 0)) :
    jm_T Ls xs d M [.ref 1000, .int a, .int b] (sy_dh F X1 X2 (iv_H 4)) 0 0 Q := by
  obtain ⟨F0, hF0⟩ : ∃ F0 : Nat → sy_d, F0 = fun j => if j = 69 then .inl (.int a) else if j = 70 then .inl (.int b) else F j := ⟨_, rfl⟩
  have k0 : ∀ j, j < 69 → F0 j = F j := fun j hj => by
    rw [hF0]
    dsimp only
    rw [if_neg (by omega), if_neg (by omega)]
  have k1 : F0 69 = .inl (.int a) := by rw [hF0]; rfl
  have k2 : F0 70 = .inl (.int b) := by rw [hF0]; rfl
  have i69 : sy_i F0 69 = a := zz_i k1
  have i70 : sy_i F0 70 = b := zz_i k2
  have eA : ([.ref 1000, .int a, .int b] : List Value) = ([.inl (.ref 1000), .inr (.inl 69), .inr (.inl 70)] : List sy_v).map (sy_dv F0) := by
    show _ = [Value.ref 1000, .int (sy_i F0 69), .int (sy_i F0 70)]
    rw [i69, i70]
  rw [eA, nz_eH X1 X2 k0]
  exact hd_T hok hA (h F0 k0 i69 i70)
theorem nz_T0 {Ls : Nat} {xs : Nat → Int32} {d : Nat} {M : jm_M} {Q : Option Value → jm_h → Prop} {F : Nat → sy_d} {X1 X2 : List jm_c} (hok : jm_ok jm_YN M) (hA : (sy_e1 [.inl (.ref 1000)]).length ≤ jm_mx M)
    (h : hd_W Ls xs d M Q (0, sy_dL F (sy_ent (jm_mx M) [.inl (.ref 1000)]), [], sy_dh F X1 X2 (iv_H 4), 0, 0)) :
    jm_T Ls xs d M [.ref 1000] (sy_dh F X1 X2 (iv_H 4)) 0 0 Q := hd_T (As := [.inl (.ref 1000)]) hok hA h
theorem nz_b8 (X : Int32) : -128 ≤ (X.toInt8.toInt32).toInt ∧ (X.toInt8.toInt32).toInt ≤ 127 := by
  have a := Int8.minValue_le_toInt X.toInt8
  have b := Int8.toInt_le X.toInt8
  rw [Int8.toInt_toInt32]
  exact ⟨a, b⟩
