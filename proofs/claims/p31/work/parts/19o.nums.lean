section
/-! ===== numbers over Int, for the trees of ways ===== -/
theorem nz_c (X : Int32) : X.toNatClampNeg = X.toInt.toNat := rfl
theorem nz_add {A B : Int32} {a b : Int} (ha : A.toInt = a) (hb : B.toInt = b) (h1 : -2147483648 ≤ a + b) (h2 : a + b ≤ 2147483647) : (A + B).toInt = a + b := by
  subst ha; subst hb
  exact Jvm.Kit.i32_add (by omega) (by omega)
theorem nz_sub {A B : Int32} {a b : Int} (ha : A.toInt = a) (hb : B.toInt = b) (h1 : -2147483648 ≤ a - b) (h2 : a - b ≤ 2147483647) : (A - B).toInt = a - b := by
  subst ha; subst hb
  exact Jvm.Kit.i32_sub (by omega) (by omega)
theorem nz_mul {A B : Int32} {a b : Int} (ha : A.toInt = a) (hb : B.toInt = b) (h1 : -2147483648 ≤ a * b) (h2 : a * b ≤ 2147483647) : (A * B).toInt = a * b := by
  subst ha; subst hb
  exact Jvm.Kit.i32_mul (by omega) (by omega)
theorem nz_bx {F : Nat → sy_d} {E : List iv_t} {k : Nat} {lo hi : Int} (hB : iv_in F E) (h : E[k]? = some (0, lo, hi)) : lo ≤ (sy_i F k).toInt ∧ (sy_i F k).toInt ≤ hi := by
  obtain ⟨v, hv, a, b⟩ := iv_h0 (hB k _ h)
  rw [zz_i hv]
  exact ⟨a, b⟩
theorem nz_ba {F : Nat → sy_d} {E : List iv_t} {k : Nat} {lo hi : Int} (hB : iv_in F E) (h : E[k]? = some (2, lo, hi)) (j : Nat) : lo ≤ ((sy_ai F k).getD j 0).toInt ∧ ((sy_ai F k).getD j 0).toInt ≤ hi := by
  obtain ⟨l, hl, a⟩ := iv_h2 (hB k _ h)
  rw [zz_ai hl]
  exact a j
theorem nz_fi {F F1 : Nat → sy_d} {k : Nat} (h : F1 k = F k) : (sy_i F1 k).toInt = (sy_i F k).toInt := by simp only [sy_i, h]
theorem nz_fa {F F1 : Nat → sy_d} {k : Nat} (h : F1 k = F k) : sy_ai F1 k = sy_ai F k := by simp only [sy_ai, h]
theorem nz_mn (X : Int32) : -2147483648 ≤ X.toInt ∧ X.toInt ≤ 2147483647 := by
  have a := Int32.minValue_le_toInt X
  have b := Int32.toInt_le X
  constructor
  · exact a
  · exact b
theorem nz_hz {d : sy_d} {X : Int32} (e : d = .inl (.int X)) : iv_has d iz0 := by
  subst e
  exact ⟨rfl, (nz_mn X).1, (nz_mn X).2⟩
theorem nz_hi {d : sy_d} {X : Int32} {x lo hi : Int} (e : d = .inl (.int X)) (n : X.toInt = x) (h1 : lo ≤ x) (h2 : x ≤ hi) : iv_has d (0, lo, hi) := by
  subst e
  subst n
  exact ⟨rfl, h1, h2⟩
theorem nz_hz2 {d : sy_d} {l : List Int32} (e : d = .inr (.inl l)) : iv_has d iz2 := by
  subst e
  exact ⟨rfl, fun j => nz_mn _⟩
theorem nz_hz3 {d : sy_d} {l : List Int64} (e : d = .inr (.inr l)) : iv_has d iz3 := by
  subst e
  exact ⟨rfl, fun j => ⟨Int64.minValue_le_toInt _, Int64.toInt_le _⟩⟩
theorem nz_hA {d : sy_d} {l : List Int32} {lo hi : Int} (e : d = .inr (.inl l)) (h : ∀ j : Nat, lo ≤ (l.getD j 0).toInt ∧ (l.getD j 0).toInt ≤ hi) : iv_has d (2, lo, hi) := by
  subst e
  exact ⟨rfl, h⟩
theorem nz_in {F F1 : Nat → sy_d} (hB : iv_in F iv_B4) (chg : List Nat) (g : ∀ j, j < 69 → j ∉ chg → F1 j = F j) (h : ∀ k ∈ chg, ∀ t : iv_t, iv_B4[k]? = some t → iv_has (F1 k) t) : iv_in F1 iv_B4 := hd_in1 hB (fun j t hj => by
  by_cases q : j ∈ chg
  · exact Or.inr (h j q t hj)
  · exact Or.inl (g j (List.getElem?_eq_some_iff.mp hj).1 q))
theorem nz_up {l : List Int32} {i : Nat} {X : Int32} {x lo hi : Int} (h0 : ∀ j : Nat, lo ≤ (l.getD j 0).toInt ∧ (l.getD j 0).toInt ≤ hi) (n : X.toInt = x) (h1 : lo ≤ x) (h2 : x ≤ hi) (j : Nat) : lo ≤ ((jm_upd l i X).getD j 0).toInt ∧ ((jm_upd l i X).getD j 0).toInt ≤ hi := by
  rw [jm_upd_at]
  split
  · omega
  · exact h0 j
/-- what stays but for W; the bounds; the place in the text only goes on; a fault stays -/
abbrev gr (W : List Nat) (F F' : Nat → sy_d) : Prop := iv_in F' iv_B4 ∧ (∀ j, j < 69 → j ∉ W → F' j = F j) ∧ (sy_i F 4).toInt ≤ (sy_i F' 4).toInt ∧ ((sy_i F' 6).toInt = 0 → (sy_i F 6).toInt = 0)
theorem gr.b {W : List Nat} {F F' : Nat → sy_d} (h : gr W F F') : iv_in F' iv_B4 := h.1
theorem gr.f {W : List Nat} {F F' : Nat → sy_d} (h : gr W F F') : ∀ j, j < 69 → j ∉ W → F' j = F j := h.2.1
theorem gr.t {W : List Nat} {F F' : Nat → sy_d} (h : gr W F F') : (sy_i F 4).toInt ≤ (sy_i F' 4).toInt := h.2.2.1
theorem gr.u {W : List Nat} {F F' : Nat → sy_d} (h : gr W F F') : (sy_i F' 6).toInt = 0 → (sy_i F 6).toInt = 0 := h.2.2.2
theorem gr.dst {W : List Nat} {F F' F2 : Nat → sy_d} (h : gr W F F') (e : ∀ q, q < 69 → F2 q = F' q) : gr W F F2 := by
  have i4 := nz_fi (e 4 (by decide))
  have i6 := nz_fi (e 6 (by decide))
  exact ⟨hd_iveq h.b e, fun j hj hn => (e j hj).trans (h.f j hj hn), by rw [i4]; exact h.t, by rw [i6]; exact h.u⟩
theorem gr.src {W : List Nat} {F F' F0 : Nat → sy_d} (h : gr W F0 F') (e : ∀ q, q < 69 → F0 q = F q) : gr W F F' := by
  have i4 := nz_fi (e 4 (by decide))
  have i6 := nz_fi (e 6 (by decide))
  exact ⟨h.b, fun j hj hn => (h.f j hj hn).trans (e j hj), by rw [← i4]; exact h.t, by rw [← i6]; exact h.u⟩
theorem gr.trans {W W1 : List Nat} {F F' F2 : Nat → sy_d} (h : gr W F F') (h2 : gr W1 F' F2) (hs : ∀ x ∈ W1, x ∈ W) : gr W F F2 := by
  refine ⟨h2.b, fun j hj hn => (h2.f j hj (fun q => hn (hs _ q))).trans (h.f j hj hn), ?_, fun q => h.u (h2.u q)⟩
  have a := h.t
  have b := h2.t
  omega
theorem gr.mono {W W1 : List Nat} {F F' : Nat → sy_d} (h : gr W1 F F') (hs : ∀ x ∈ W1, x ∈ W) : gr W F F' := ⟨h.b, fun j hj hn => h.f j hj (fun q => hn (hs _ q)), h.t, h.u⟩
theorem gr.i {W : List Nat} {F F' : Nat → sy_d} (h : gr W F F') {k : Nat} (hk : k < 69) (hn : k ∉ W) : (sy_i F' k).toInt = (sy_i F k).toInt := nz_fi (h.f k hk hn)
theorem gr.a {W : List Nat} {F F' : Nat → sy_d} (h : gr W F F') {k : Nat} (hk : k < 69) (hn : k ∉ W) : sy_ai F' k = sy_ai F k := nz_fa (h.f k hk hn)
theorem gr_mk {W C : List Nat} {F F1 : Nat → sy_d} (hb : iv_in F1 iv_B4) (g : ∀ j, j < 69 → j ∉ C → F1 j = F j) (hs : ∀ x ∈ C, x ∈ W) (t : (sy_i F 4).toInt ≤ (sy_i F1 4).toInt) (u : (sy_i F1 6).toInt = 0 → (sy_i F 6).toInt = 0) : gr W F F1 := ⟨hb, fun j hj hn => g j hj (fun q => hn (hs _ q)), t, u⟩
theorem nz_eH {F F0 : Nat → sy_d} (X1 X2 : List jm_c) (k0 : ∀ j, j < 69 → F0 j = F j) : sy_dh F X1 X2 (iv_H 4) = sy_dh F0 X1 X2 (iv_H 4) := by
  have g1 : sy_gw 69 (iv_H 4).1 = true := by decide +kernel
  have g2 : sy_gw 69 (iv_H 4).2 = true := by decide +kernel
  simp only [sy_dh, sy_gw_ok g1 k0, sy_gw_ok g2 k0]
theorem nz_T1 {Ls : Nat} {xs : Nat → Int32} {d : Nat} {M : jm_M} {Q : Option Value → jm_h → Prop} {F : Nat → sy_d} {X1 X2 : List jm_c} {a : Int32} (hok : jm_ok jm_YN M) (hA : (sy_e1 [.inl (.ref 1000), .inr (.inl 69)]).length ≤ jm_mx M)
    (h : ∀ F0 : Nat → sy_d, (∀ j, j < 69 → F0 j = F j) → sy_i F0 69 = a → hd_W Ls xs d M Q (0, sy_dL F0 (sy_ent (jm_mx M) [.inl (.ref 1000), .inr (.inl 69)]), [], sy_dh F0 X1 X2 (iv_H 4), 0, 0)) :
    jm_T Ls xs d M [.ref 1000, .int a] (sy_dh F X1 X2 (iv_H 4)) 0 0 Q := by
  obtain ⟨F0, hF0⟩ : ∃ F0 : Nat → sy_d, F0 = fun j => if j = 69 then .inl (.int a) else F j := ⟨_, rfl⟩
  have k0 : ∀ j, j < 69 → F0 j = F j := fun j hj => by
    rw [hF0]
    dsimp only
    rw [if_neg (by omega)]
  have k1 : F0 69 = .inl (.int a) := by rw [hF0]; rfl
  have i69 : sy_i F0 69 = a := zz_i k1
  have eA : ([.ref 1000, .int a] : List Value) = ([.inl (.ref 1000), .inr (.inl 69)] : List sy_v).map (sy_dv F0) := by
    show _ = [Value.ref 1000, .int (sy_i F0 69)]
    rw [i69]
  rw [eA, nz_eH X1 X2 k0]
  exact hd_T hok hA (h F0 k0 i69)
theorem nz_T2 {Ls : Nat} {xs : Nat → Int32} {d : Nat} {M : jm_M} {Q : Option Value → jm_h → Prop} {F : Nat → sy_d} {X1 X2 : List jm_c} {a b : Int32} (hok : jm_ok jm_YN M) (hA : (sy_e1 [.inl (.ref 1000), .inr (.inl 69), .inr (.inl 70)]).length ≤ jm_mx M)
    (h : ∀ F0 : Nat → sy_d, (∀ j, j < 69 → F0 j = F j) → sy_i F0 69 = a → sy_i F0 70 = b → hd_W Ls xs d M Q (0, sy_dL F0 (sy_ent (jm_mx M) [.inl (.ref 1000), .inr (.inl 69), .inr (.inl 70)]), [], sy_dh F0 X1 X2 (iv_H 4), 0, 0)) :
    jm_T Ls xs d M [.ref 1000, .int a, .int b] (sy_dh F X1 X2 (iv_H 4)) 0 0 Q := by
  obtain ⟨F0, hF0⟩ : ∃ F0 : Nat → sy_d, F0 = fun j => if j = 69 then .inl (.int a) else if j = 70 then .inl (.int b) else F j := ⟨_, rfl⟩
  have k0 : ∀ j, j < 69 → F0 j = F j := fun j hj => by
    rw [hF0]
    dsimp only
    rw [if_neg (by omega), if_neg (by omega)]
  have k1 : F0 69 = .inl (.int a) := by rw [hF0]; rfl
  have k2 : F0 70 = .inl (.int b) := by rw [hF0]; rfl
  have i69 : sy_i F0 69 = a := zz_i k1
  have i70 : sy_i F0 70 = b := zz_i k2
  have eA : ([.ref 1000, .int a, .int b] : List Value) = ([.inl (.ref 1000), .inr (.inl 69), .inr (.inl 70)] : List sy_v).map (sy_dv F0) := by
    show _ = [Value.ref 1000, .int (sy_i F0 69), .int (sy_i F0 70)]
    rw [i69, i70]
  rw [eA, nz_eH X1 X2 k0]
  exact hd_T hok hA (h F0 k0 i69 i70)
theorem nz_T0 {Ls : Nat} {xs : Nat → Int32} {d : Nat} {M : jm_M} {Q : Option Value → jm_h → Prop} {F : Nat → sy_d} {X1 X2 : List jm_c} (hok : jm_ok jm_YN M) (hA : (sy_e1 [.inl (.ref 1000)]).length ≤ jm_mx M)
    (h : hd_W Ls xs d M Q (0, sy_dL F (sy_ent (jm_mx M) [.inl (.ref 1000)]), [], sy_dh F X1 X2 (iv_H 4), 0, 0)) :
    jm_T Ls xs d M [.ref 1000] (sy_dh F X1 X2 (iv_H 4)) 0 0 Q := hd_T (As := [.inl (.ref 1000)]) hok hA h
theorem nz_b8 (X : Int32) : -128 ≤ (X.toInt8.toInt32).toInt ∧ (X.toInt8.toInt32).toInt ≤ 127 := by
  have a := Int8.minValue_le_toInt X.toInt8
  have b := Int8.toInt_le X.toInt8
  rw [Int8.toInt_toInt32]
  exact ⟨a, b⟩
end
section
/-! ===== the reference reads a text: small methods, way by way ===== -/
theorem bo_0_p0 {Ls : Nat} {xs : Nat → Int32} {d : Nat} {Q : Option Value → jm_h → Prop} (hd : 3 ≤ d) (F : Nat → sy_d) (X1 X2 : List jm_c) (hB : iv_in F iv_B4)
    (h0 : 0 < (sy_i F 6).toInt)
    (h1 : 0 < (sy_i F 6).toInt)
    (k : ∀ F1 : Nat → sy_d, (∀ j, j < 69 → True → F1 j = F j) → Q (some (.int (sy_i F 69))) (sy_dh F1 X1 X2 (iv_H 4))) :
    hd_W Ls xs d jm_M157 Q (0, sy_dL F [some (.inl (.ref 1000)), some (.inr (.inl 69)), some (.inr (.inl 70)), none], sy_dS F [], sy_dh F X1 X2 (iv_H 4), 0, 0) := by
  refine hd_ret (s := 4) (nv := 71) (v := some (.inr (.inl 69))) (uh := hd_ov (iv_id 0 iv_B4) []) (f := true) (sp := []) (d0 := 2) (O := [true, false]) (T := []) (P := [(2, .inl (.int 0), .inr (.inl 6)), (5, .inr (.inl 6), .inl (.int 0))]) jm_ok157 (by decide +kernel) (by decide +kernel) hd F X1 X2 (fun F' hF hs => ?_)
  have b6 := hd_b (F := F) (F' := F') (k := 6) (hF 6 (by decide))
  have b69 := hd_b (F := F) (F' := F') (k := 69) (hF 69 (by decide))
  have hB' : iv_in F' iv_B4 := iv_in_eq hB (fun j hj => hF j (Nat.lt_of_lt_of_le hj (by decide +kernel)))
  have hk := k (sy_cm F' (hd_ov (iv_id 0 iv_B4) [] ++ [])) (fun j hj _ => (hd_keep hB' (Nat.lt_of_lt_of_le hj (by decide +kernel)) (by simp)).trans (hF j (Nat.lt_of_lt_of_le hj (by decide))))
  refine ⟨List.forall_mem_cons.mpr ⟨hd_p2 rfl b6 (by have hc : ((0) : Int32).toInt = 0 := (by decide); omega), List.forall_mem_cons.mpr ⟨hd_p5 b6 rfl (by have hc : ((0) : Int32).toInt = 0 := (by decide); omega), fun _ h => absurd h List.not_mem_nil⟩⟩, ?_⟩
  show Q (some (sy_dv F' (.inr (.inl 69)))) _
  rw [b69]
  exact hk
theorem bo_0_p1 {Ls : Nat} {xs : Nat → Int32} {d : Nat} {Q : Option Value → jm_h → Prop} (hd : 3 ≤ d) (F : Nat → sy_d) (X1 X2 : List jm_c) (hB : iv_in F iv_B4)
    (h0 : (sy_i F 6).toInt ≤ 0)
    (h1 : (sy_i F 6).toInt = 0)
    (h2 : 0 ≤ (sy_i F 4).toInt ∧ (sy_i F 4).toInt < 403)
    (h3 : ((sy_ai F 25).getD (sy_i F 4).toNatClampNeg 0).toInt ≠ 2)
    (h4 : (sy_i F 6).toInt ≤ 0)
    (h5 : 0 ≤ (sy_i F 4).toInt ∧ (sy_i F 4).toInt < 403)
    (k : ∀ F1 : Nat → sy_d, (∀ j, j < 69 → j ≠ 6 ∧ j ≠ 7 → F1 j = F j) → F1 6 = .inl (.int ((1 : Int32))) → F1 7 = .inl (.int ((sy_ai F 26).getD (sy_i F 4).toNatClampNeg 0)) → Q (some (.int (sy_i F 69))) (sy_dh F1 X1 X2 (iv_H 4))) :
    hd_W Ls xs d jm_M157 Q (0, sy_dL F [some (.inl (.ref 1000)), some (.inr (.inl 69)), some (.inr (.inl 70)), none], sy_dS F [], sy_dh F X1 X2 (iv_H 4), 0, 0) := by
  refine hd_ret (s := 4) (nv := 71) (v := some (.inr (.inl 69))) (uh := hd_ov (iv_id 0 iv_B4) [(6, .inl (.inl (.int 1))), (7, .inl (.inr (.inl 72)))]) (f := true) (sp := []) (d0 := 2) (O := [false, false, true, true]) (T := [(30, [.inr (.inl 4)], [.inr (.inl 25)]), (30, [.inr (.inl 4)], [.inr (.inl 26)])]) (P := [(3, .inl (.int 0), .inr (.inl 6)), (0, .inr (.inl 6), .inl (.int 0)), (6, .inr (.inl 4), .inl (.ref 403)), (1, .inr (.inl 71), .inl (.int 2)), (4, .inr (.inl 6), .inl (.int 0)), (6, .inr (.inl 4), .inl (.ref 403))]) jm_ok157 (by decide +kernel) (by decide +kernel) hd F X1 X2 (fun F' hF hs => ?_)
  have b6 := hd_b (F := F) (F' := F') (k := 6) (hF 6 (by decide))
  have b4 := hd_b (F := F) (F' := F') (k := 4) (hF 4 (by decide))
  have a25 := hd_ba (F := F) (F' := F') (k := 25) (hF 25 (by decide))
  have t71 : sy_dv F' (.inr (.inl 71)) = .int ((sy_ai F 25).getD (sy_i F 4).toNatClampNeg 0) := hd_rd (hs 0 _ rfl) b4 a25
  have a26 := hd_ba (F := F) (F' := F') (k := 26) (hF 26 (by decide))
  have t72 : sy_dv F' (.inr (.inl 72)) = .int ((sy_ai F 26).getD (sy_i F 4).toNatClampNeg 0) := hd_rd (hs 1 _ rfl) b4 a26
  have b69 := hd_b (F := F) (F' := F') (k := 69) (hF 69 (by decide))
  have hB' : iv_in F' iv_B4 := iv_in_eq hB (fun j hj => hF j (Nat.lt_of_lt_of_le hj (by decide +kernel)))
  have hk := k (sy_cm F' (hd_ov (iv_id 0 iv_B4) [(6, .inl (.inl (.int 1))), (7, .inl (.inr (.inl 72)))] ++ [])) (fun j hj hn => (hd_keep hB' (Nat.lt_of_lt_of_le hj (by decide +kernel)) (by simp; omega)).trans (hF j (Nat.lt_of_lt_of_le hj (by decide)))) (hd_gi (x := .inl (.int 1)) (by decide +kernel) rfl) (hd_gi (x := .inr (.inl 72)) (by decide +kernel) t72)
  refine ⟨List.forall_mem_cons.mpr ⟨hd_p3 rfl b6 (by have hc : ((0) : Int32).toInt = 0 := (by decide); omega), List.forall_mem_cons.mpr ⟨hd_p0 b6 rfl (by have hc : ((0) : Int32).toInt = 0 := (by decide); omega), List.forall_mem_cons.mpr ⟨hd_pb b4 (by first | exact h2 | exact h2), List.forall_mem_cons.mpr ⟨hd_p1 t71 rfl (by have hc : ((2) : Int32).toInt = 2 := (by decide); omega), List.forall_mem_cons.mpr ⟨hd_p4 b6 rfl (by have hc : ((0) : Int32).toInt = 0 := (by decide); omega), List.forall_mem_cons.mpr ⟨hd_pb b4 (by first | exact h5 | exact h5), fun _ h => absurd h List.not_mem_nil⟩⟩⟩⟩⟩⟩, ?_⟩
  show Q (some (sy_dv F' (.inr (.inl 69)))) _
  rw [b69]
  exact hk
theorem bo_0_p2 {Ls : Nat} {xs : Nat → Int32} {d : Nat} {Q : Option Value → jm_h → Prop} (hd : 3 ≤ d) (F : Nat → sy_d) (X1 X2 : List jm_c) (hB : iv_in F iv_B4)
    (h0 : (sy_i F 6).toInt ≤ 0)
    (h1 : (sy_i F 6).toInt = 0)
    (h2 : 0 ≤ (sy_i F 4).toInt ∧ (sy_i F 4).toInt < 403)
    (h3 : ((sy_ai F 25).getD (sy_i F 4).toNatClampNeg 0).toInt = 2)
    (h4 : 0 ≤ (sy_i F 4).toInt ∧ (sy_i F 4).toInt < 403)
    (h5 : ((sy_ai F 27).getD (sy_i F 4).toNatClampNeg 0).toInt < (sy_i F 69).toInt)
    (h6 : 0 ≤ (sy_i F 4).toInt ∧ (sy_i F 4).toInt < 403)
    (h7 : (sy_i F 6).toInt ≤ 0)
    (h8 : (sy_i F 8).toInt = 0)
    (h9 : (sy_i F 4).toInt ≠ 400)
    (k : ∀ F1 : Nat → sy_d, (∀ j, j < 69 → j ≠ 4 ∧ j ≠ 8 ∧ j ≠ 9 → F1 j = F j) → F1 4 = .inl (.int ((sy_i F 4) + ((1 : Int32)))) → F1 8 = .inl (.int ((5 : Int32))) → F1 9 = .inl (.int ((sy_ai F 26).getD (sy_i F 4).toNatClampNeg 0)) → Q (some (.int ((sy_ai F 27).getD (sy_i F 4).toNatClampNeg 0))) (sy_dh F1 X1 X2 (iv_H 4))) :
    hd_W Ls xs d jm_M157 Q (0, sy_dL F [some (.inl (.ref 1000)), some (.inr (.inl 69)), some (.inr (.inl 70)), none], sy_dS F [], sy_dh F X1 X2 (iv_H 4), 0, 0) := by
  refine hd_ret (s := 4) (nv := 71) (v := some (.inr (.inl 72))) (uh := hd_ov (iv_id 0 iv_B4) [(4, .inl (.inr (.inl 74))), (8, .inl (.inl (.int 5))), (9, .inl (.inr (.inl 73)))]) (f := true) (sp := []) (d0 := 2) (O := [false, false, false, true, false, true, true]) (T := [(30, [.inr (.inl 4)], [.inr (.inl 25)]), (30, [.inr (.inl 4)], [.inr (.inl 27)]), (30, [.inr (.inl 4)], [.inr (.inl 26)]), (0, [.inr (.inl 4), .inl (.int 1)], [])]) (P := [(3, .inl (.int 0), .inr (.inl 6)), (0, .inr (.inl 6), .inl (.int 0)), (6, .inr (.inl 4), .inl (.ref 403)), (0, .inr (.inl 71), .inl (.int 2)), (6, .inr (.inl 4), .inl (.ref 403)), (2, .inr (.inl 72), .inr (.inl 69)), (6, .inr (.inl 4), .inl (.ref 403)), (3, .inl (.int 0), .inr (.inl 6)), (0, .inr (.inl 8), .inl (.int 0)), (1, .inr (.inl 4), .inl (.int 400))]) jm_ok157 (by decide +kernel) (by decide +kernel) hd F X1 X2 (fun F' hF hs => ?_)
  have b6 := hd_b (F := F) (F' := F') (k := 6) (hF 6 (by decide))
  have b4 := hd_b (F := F) (F' := F') (k := 4) (hF 4 (by decide))
  have a25 := hd_ba (F := F) (F' := F') (k := 25) (hF 25 (by decide))
  have t71 : sy_dv F' (.inr (.inl 71)) = .int ((sy_ai F 25).getD (sy_i F 4).toNatClampNeg 0) := hd_rd (hs 0 _ rfl) b4 a25
  have a27 := hd_ba (F := F) (F' := F') (k := 27) (hF 27 (by decide))
  have t72 : sy_dv F' (.inr (.inl 72)) = .int ((sy_ai F 27).getD (sy_i F 4).toNatClampNeg 0) := hd_rd (hs 1 _ rfl) b4 a27
  have b69 := hd_b (F := F) (F' := F') (k := 69) (hF 69 (by decide))
  have b8 := hd_b (F := F) (F' := F') (k := 8) (hF 8 (by decide))
  have t74 : sy_dv F' (.inr (.inl 74)) = .int ((sy_i F 4) + ((1 : Int32))) := hd_o (hs 3 _ rfl) b4 rfl rfl
  have a26 := hd_ba (F := F) (F' := F') (k := 26) (hF 26 (by decide))
  have t73 : sy_dv F' (.inr (.inl 73)) = .int ((sy_ai F 26).getD (sy_i F 4).toNatClampNeg 0) := hd_rd (hs 2 _ rfl) b4 a26
  have hB' : iv_in F' iv_B4 := iv_in_eq hB (fun j hj => hF j (Nat.lt_of_lt_of_le hj (by decide +kernel)))
  have hk := k (sy_cm F' (hd_ov (iv_id 0 iv_B4) [(4, .inl (.inr (.inl 74))), (8, .inl (.inl (.int 5))), (9, .inl (.inr (.inl 73)))] ++ [])) (fun j hj hn => (hd_keep hB' (Nat.lt_of_lt_of_le hj (by decide +kernel)) (by simp; omega)).trans (hF j (Nat.lt_of_lt_of_le hj (by decide)))) (hd_gi (x := .inr (.inl 74)) (by decide +kernel) t74) (hd_gi (x := .inl (.int 5)) (by decide +kernel) rfl) (hd_gi (x := .inr (.inl 73)) (by decide +kernel) t73)
  refine ⟨List.forall_mem_cons.mpr ⟨hd_p3 rfl b6 (by have hc : ((0) : Int32).toInt = 0 := (by decide); omega), List.forall_mem_cons.mpr ⟨hd_p0 b6 rfl (by have hc : ((0) : Int32).toInt = 0 := (by decide); omega), List.forall_mem_cons.mpr ⟨hd_pb b4 (by first | exact h2 | exact h2), List.forall_mem_cons.mpr ⟨hd_p0 t71 rfl (by have hc : ((2) : Int32).toInt = 2 := (by decide); omega), List.forall_mem_cons.mpr ⟨hd_pb b4 (by first | exact h4 | exact h4), List.forall_mem_cons.mpr ⟨hd_p2 t72 b69 h5, List.forall_mem_cons.mpr ⟨hd_pb b4 (by first | exact h6 | exact h6), List.forall_mem_cons.mpr ⟨hd_p3 rfl b6 (by have hc : ((0) : Int32).toInt = 0 := (by decide); omega), List.forall_mem_cons.mpr ⟨hd_p0 b8 rfl (by have hc : ((0) : Int32).toInt = 0 := (by decide); omega), List.forall_mem_cons.mpr ⟨hd_p1 b4 rfl (by have hc : ((400) : Int32).toInt = 400 := (by decide); omega), fun _ h => absurd h List.not_mem_nil⟩⟩⟩⟩⟩⟩⟩⟩⟩⟩, ?_⟩
  show Q (some (sy_dv F' (.inr (.inl 72)))) _
  rw [t72]
  exact hk
theorem bo_0_p3 {Ls : Nat} {xs : Nat → Int32} {d : Nat} {Q : Option Value → jm_h → Prop} (hd : 3 ≤ d) (F : Nat → sy_d) (X1 X2 : List jm_c) (hB : iv_in F iv_B4)
    (h0 : (sy_i F 6).toInt ≤ 0)
    (h1 : (sy_i F 6).toInt = 0)
    (h2 : 0 ≤ (sy_i F 4).toInt ∧ (sy_i F 4).toInt < 403)
    (h3 : ((sy_ai F 25).getD (sy_i F 4).toNatClampNeg 0).toInt = 2)
    (h4 : 0 ≤ (sy_i F 4).toInt ∧ (sy_i F 4).toInt < 403)
    (h5 : ((sy_ai F 27).getD (sy_i F 4).toNatClampNeg 0).toInt < (sy_i F 69).toInt)
    (h6 : 0 ≤ (sy_i F 4).toInt ∧ (sy_i F 4).toInt < 403)
    (h7 : (sy_i F 6).toInt ≤ 0)
    (h8 : (sy_i F 8).toInt = 0)
    (h9 : (sy_i F 4).toInt = 400)
    (h10 : (sy_i F 6).toInt ≤ 0)
    (h11 : 0 ≤ (sy_i F 4).toInt ∧ (sy_i F 4).toInt < 403)
    (k : ∀ F1 : Nat → sy_d, (∀ j, j < 69 → j ≠ 6 ∧ j ≠ 7 ∧ j ≠ 8 ∧ j ≠ 9 → F1 j = F j) → F1 6 = .inl (.int ((2 : Int32))) → F1 7 = .inl (.int ((sy_ai F 26).getD (sy_i F 4).toNatClampNeg 0)) → F1 8 = .inl (.int ((5 : Int32))) → F1 9 = .inl (.int ((sy_ai F 26).getD (sy_i F 4).toNatClampNeg 0)) → Q (some (.int ((sy_ai F 27).getD (sy_i F 4).toNatClampNeg 0))) (sy_dh F1 X1 X2 (iv_H 4))) :
    hd_W Ls xs d jm_M157 Q (0, sy_dL F [some (.inl (.ref 1000)), some (.inr (.inl 69)), some (.inr (.inl 70)), none], sy_dS F [], sy_dh F X1 X2 (iv_H 4), 0, 0) := by
  refine hd_ret (s := 4) (nv := 71) (v := some (.inr (.inl 72))) (uh := hd_ov (iv_id 0 iv_B4) [(6, .inl (.inl (.int 2))), (7, .inl (.inr (.inl 74))), (8, .inl (.inl (.int 5))), (9, .inl (.inr (.inl 73)))]) (f := true) (sp := []) (d0 := 2) (O := [false, false, false, true, false, true, false, true]) (T := [(30, [.inr (.inl 4)], [.inr (.inl 25)]), (30, [.inr (.inl 4)], [.inr (.inl 27)]), (30, [.inr (.inl 4)], [.inr (.inl 26)]), (30, [.inr (.inl 4)], [.inr (.inl 26)])]) (P := [(3, .inl (.int 0), .inr (.inl 6)), (0, .inr (.inl 6), .inl (.int 0)), (6, .inr (.inl 4), .inl (.ref 403)), (0, .inr (.inl 71), .inl (.int 2)), (6, .inr (.inl 4), .inl (.ref 403)), (2, .inr (.inl 72), .inr (.inl 69)), (6, .inr (.inl 4), .inl (.ref 403)), (3, .inl (.int 0), .inr (.inl 6)), (0, .inr (.inl 8), .inl (.int 0)), (0, .inr (.inl 4), .inl (.int 400)), (4, .inr (.inl 6), .inl (.int 0)), (6, .inr (.inl 4), .inl (.ref 403))]) jm_ok157 (by decide +kernel) (by decide +kernel) hd F X1 X2 (fun F' hF hs => ?_)
  have b6 := hd_b (F := F) (F' := F') (k := 6) (hF 6 (by decide))
  have b4 := hd_b (F := F) (F' := F') (k := 4) (hF 4 (by decide))
  have a25 := hd_ba (F := F) (F' := F') (k := 25) (hF 25 (by decide))
  have t71 : sy_dv F' (.inr (.inl 71)) = .int ((sy_ai F 25).getD (sy_i F 4).toNatClampNeg 0) := hd_rd (hs 0 _ rfl) b4 a25
  have a27 := hd_ba (F := F) (F' := F') (k := 27) (hF 27 (by decide))
  have t72 : sy_dv F' (.inr (.inl 72)) = .int ((sy_ai F 27).getD (sy_i F 4).toNatClampNeg 0) := hd_rd (hs 1 _ rfl) b4 a27
  have b69 := hd_b (F := F) (F' := F') (k := 69) (hF 69 (by decide))
  have b8 := hd_b (F := F) (F' := F') (k := 8) (hF 8 (by decide))
  have a26 := hd_ba (F := F) (F' := F') (k := 26) (hF 26 (by decide))
  have t74 : sy_dv F' (.inr (.inl 74)) = .int ((sy_ai F 26).getD (sy_i F 4).toNatClampNeg 0) := hd_rd (hs 3 _ rfl) b4 a26
  have t73 : sy_dv F' (.inr (.inl 73)) = .int ((sy_ai F 26).getD (sy_i F 4).toNatClampNeg 0) := hd_rd (hs 2 _ rfl) b4 a26
  have hB' : iv_in F' iv_B4 := iv_in_eq hB (fun j hj => hF j (Nat.lt_of_lt_of_le hj (by decide +kernel)))
  have hk := k (sy_cm F' (hd_ov (iv_id 0 iv_B4) [(6, .inl (.inl (.int 2))), (7, .inl (.inr (.inl 74))), (8, .inl (.inl (.int 5))), (9, .inl (.inr (.inl 73)))] ++ [])) (fun j hj hn => (hd_keep hB' (Nat.lt_of_lt_of_le hj (by decide +kernel)) (by simp; omega)).trans (hF j (Nat.lt_of_lt_of_le hj (by decide)))) (hd_gi (x := .inl (.int 2)) (by decide +kernel) rfl) (hd_gi (x := .inr (.inl 74)) (by decide +kernel) t74) (hd_gi (x := .inl (.int 5)) (by decide +kernel) rfl) (hd_gi (x := .inr (.inl 73)) (by decide +kernel) t73)
  refine ⟨List.forall_mem_cons.mpr ⟨hd_p3 rfl b6 (by have hc : ((0) : Int32).toInt = 0 := (by decide); omega), List.forall_mem_cons.mpr ⟨hd_p0 b6 rfl (by have hc : ((0) : Int32).toInt = 0 := (by decide); omega), List.forall_mem_cons.mpr ⟨hd_pb b4 (by first | exact h2 | exact h2), List.forall_mem_cons.mpr ⟨hd_p0 t71 rfl (by have hc : ((2) : Int32).toInt = 2 := (by decide); omega), List.forall_mem_cons.mpr ⟨hd_pb b4 (by first | exact h4 | exact h4), List.forall_mem_cons.mpr ⟨hd_p2 t72 b69 h5, List.forall_mem_cons.mpr ⟨hd_pb b4 (by first | exact h6 | exact h6), List.forall_mem_cons.mpr ⟨hd_p3 rfl b6 (by have hc : ((0) : Int32).toInt = 0 := (by decide); omega), List.forall_mem_cons.mpr ⟨hd_p0 b8 rfl (by have hc : ((0) : Int32).toInt = 0 := (by decide); omega), List.forall_mem_cons.mpr ⟨hd_p0 b4 rfl (by have hc : ((400) : Int32).toInt = 400 := (by decide); omega), List.forall_mem_cons.mpr ⟨hd_p4 b6 rfl (by have hc : ((0) : Int32).toInt = 0 := (by decide); omega), List.forall_mem_cons.mpr ⟨hd_pb b4 (by first | exact h11 | exact h11), fun _ h => absurd h List.not_mem_nil⟩⟩⟩⟩⟩⟩⟩⟩⟩⟩⟩⟩, ?_⟩
  show Q (some (sy_dv F' (.inr (.inl 72)))) _
  rw [t72]
  exact hk
theorem bo_0_p4 {Ls : Nat} {xs : Nat → Int32} {d : Nat} {Q : Option Value → jm_h → Prop} (hd : 3 ≤ d) (F : Nat → sy_d) (X1 X2 : List jm_c) (hB : iv_in F iv_B4)
    (h0 : (sy_i F 6).toInt ≤ 0)
    (h1 : (sy_i F 6).toInt = 0)
    (h2 : 0 ≤ (sy_i F 4).toInt ∧ (sy_i F 4).toInt < 403)
    (h3 : ((sy_ai F 25).getD (sy_i F 4).toNatClampNeg 0).toInt = 2)
    (h4 : 0 ≤ (sy_i F 4).toInt ∧ (sy_i F 4).toInt < 403)
    (h5 : ((sy_ai F 27).getD (sy_i F 4).toNatClampNeg 0).toInt < (sy_i F 69).toInt)
    (h6 : 0 ≤ (sy_i F 4).toInt ∧ (sy_i F 4).toInt < 403)
    (h7 : (sy_i F 6).toInt ≤ 0)
    (h8 : (sy_i F 8).toInt ≠ 0)
    (h9 : (sy_i F 9).toInt < ((sy_ai F 26).getD (sy_i F 4).toNatClampNeg 0).toInt)
    (h10 : (sy_i F 4).toInt ≠ 400)
    (k : ∀ F1 : Nat → sy_d, (∀ j, j < 69 → j ≠ 4 → F1 j = F j) → F1 4 = .inl (.int ((sy_i F 4) + ((1 : Int32)))) → Q (some (.int ((sy_ai F 27).getD (sy_i F 4).toNatClampNeg 0))) (sy_dh F1 X1 X2 (iv_H 4))) :
    hd_W Ls xs d jm_M157 Q (0, sy_dL F [some (.inl (.ref 1000)), some (.inr (.inl 69)), some (.inr (.inl 70)), none], sy_dS F [], sy_dh F X1 X2 (iv_H 4), 0, 0) := by
  refine hd_ret (s := 4) (nv := 71) (v := some (.inr (.inl 72))) (uh := hd_ov (iv_id 0 iv_B4) [(4, .inl (.inr (.inl 74)))]) (f := true) (sp := []) (d0 := 2) (O := [false, false, false, true, false, false, true, true]) (T := [(30, [.inr (.inl 4)], [.inr (.inl 25)]), (30, [.inr (.inl 4)], [.inr (.inl 27)]), (30, [.inr (.inl 4)], [.inr (.inl 26)]), (0, [.inr (.inl 4), .inl (.int 1)], [])]) (P := [(3, .inl (.int 0), .inr (.inl 6)), (0, .inr (.inl 6), .inl (.int 0)), (6, .inr (.inl 4), .inl (.ref 403)), (0, .inr (.inl 71), .inl (.int 2)), (6, .inr (.inl 4), .inl (.ref 403)), (2, .inr (.inl 72), .inr (.inl 69)), (6, .inr (.inl 4), .inl (.ref 403)), (3, .inl (.int 0), .inr (.inl 6)), (1, .inr (.inl 8), .inl (.int 0)), (2, .inr (.inl 9), .inr (.inl 73)), (1, .inr (.inl 4), .inl (.int 400))]) jm_ok157 (by decide +kernel) (by decide +kernel) hd F X1 X2 (fun F' hF hs => ?_)
  have b6 := hd_b (F := F) (F' := F') (k := 6) (hF 6 (by decide))
  have b4 := hd_b (F := F) (F' := F') (k := 4) (hF 4 (by decide))
  have a25 := hd_ba (F := F) (F' := F') (k := 25) (hF 25 (by decide))
  have t71 : sy_dv F' (.inr (.inl 71)) = .int ((sy_ai F 25).getD (sy_i F 4).toNatClampNeg 0) := hd_rd (hs 0 _ rfl) b4 a25
  have a27 := hd_ba (F := F) (F' := F') (k := 27) (hF 27 (by decide))
  have t72 : sy_dv F' (.inr (.inl 72)) = .int ((sy_ai F 27).getD (sy_i F 4).toNatClampNeg 0) := hd_rd (hs 1 _ rfl) b4 a27
  have b69 := hd_b (F := F) (F' := F') (k := 69) (hF 69 (by decide))
  have b8 := hd_b (F := F) (F' := F') (k := 8) (hF 8 (by decide))
  have b9 := hd_b (F := F) (F' := F') (k := 9) (hF 9 (by decide))
  have a26 := hd_ba (F := F) (F' := F') (k := 26) (hF 26 (by decide))
  have t73 : sy_dv F' (.inr (.inl 73)) = .int ((sy_ai F 26).getD (sy_i F 4).toNatClampNeg 0) := hd_rd (hs 2 _ rfl) b4 a26
  have t74 : sy_dv F' (.inr (.inl 74)) = .int ((sy_i F 4) + ((1 : Int32))) := hd_o (hs 3 _ rfl) b4 rfl rfl
  have hB' : iv_in F' iv_B4 := iv_in_eq hB (fun j hj => hF j (Nat.lt_of_lt_of_le hj (by decide +kernel)))
  have hk := k (sy_cm F' (hd_ov (iv_id 0 iv_B4) [(4, .inl (.inr (.inl 74)))] ++ [])) (fun j hj hn => (hd_keep hB' (Nat.lt_of_lt_of_le hj (by decide +kernel)) (by simp; omega)).trans (hF j (Nat.lt_of_lt_of_le hj (by decide)))) (hd_gi (x := .inr (.inl 74)) (by decide +kernel) t74)
  refine ⟨List.forall_mem_cons.mpr ⟨hd_p3 rfl b6 (by have hc : ((0) : Int32).toInt = 0 := (by decide); omega), List.forall_mem_cons.mpr ⟨hd_p0 b6 rfl (by have hc : ((0) : Int32).toInt = 0 := (by decide); omega), List.forall_mem_cons.mpr ⟨hd_pb b4 (by first | exact h2 | exact h2), List.forall_mem_cons.mpr ⟨hd_p0 t71 rfl (by have hc : ((2) : Int32).toInt = 2 := (by decide); omega), List.forall_mem_cons.mpr ⟨hd_pb b4 (by first | exact h4 | exact h4), List.forall_mem_cons.mpr ⟨hd_p2 t72 b69 h5, List.forall_mem_cons.mpr ⟨hd_pb b4 (by first | exact h6 | exact h6), List.forall_mem_cons.mpr ⟨hd_p3 rfl b6 (by have hc : ((0) : Int32).toInt = 0 := (by decide); omega), List.forall_mem_cons.mpr ⟨hd_p1 b8 rfl (by have hc : ((0) : Int32).toInt = 0 := (by decide); omega), List.forall_mem_cons.mpr ⟨hd_p2 b9 t73 h9, List.forall_mem_cons.mpr ⟨hd_p1 b4 rfl (by have hc : ((400) : Int32).toInt = 400 := (by decide); omega), fun _ h => absurd h List.not_mem_nil⟩⟩⟩⟩⟩⟩⟩⟩⟩⟩⟩, ?_⟩
  show Q (some (sy_dv F' (.inr (.inl 72)))) _
  rw [t72]
  exact hk
theorem bo_0_p5 {Ls : Nat} {xs : Nat → Int32} {d : Nat} {Q : Option Value → jm_h → Prop} (hd : 3 ≤ d) (F : Nat → sy_d) (X1 X2 : List jm_c) (hB : iv_in F iv_B4)
    (h0 : (sy_i F 6).toInt ≤ 0)
    (h1 : (sy_i F 6).toInt = 0)
    (h2 : 0 ≤ (sy_i F 4).toInt ∧ (sy_i F 4).toInt < 403)
    (h3 : ((sy_ai F 25).getD (sy_i F 4).toNatClampNeg 0).toInt = 2)
    (h4 : 0 ≤ (sy_i F 4).toInt ∧ (sy_i F 4).toInt < 403)
    (h5 : ((sy_ai F 27).getD (sy_i F 4).toNatClampNeg 0).toInt < (sy_i F 69).toInt)
    (h6 : 0 ≤ (sy_i F 4).toInt ∧ (sy_i F 4).toInt < 403)
    (h7 : (sy_i F 6).toInt ≤ 0)
    (h8 : (sy_i F 8).toInt ≠ 0)
    (h9 : (sy_i F 9).toInt < ((sy_ai F 26).getD (sy_i F 4).toNatClampNeg 0).toInt)
    (h10 : (sy_i F 4).toInt = 400)
    (h11 : (sy_i F 6).toInt ≤ 0)
    (h12 : 0 ≤ (sy_i F 4).toInt ∧ (sy_i F 4).toInt < 403)
    (k : ∀ F1 : Nat → sy_d, (∀ j, j < 69 → j ≠ 6 ∧ j ≠ 7 → F1 j = F j) → F1 6 = .inl (.int ((2 : Int32))) → F1 7 = .inl (.int ((sy_ai F 26).getD (sy_i F 4).toNatClampNeg 0)) → Q (some (.int ((sy_ai F 27).getD (sy_i F 4).toNatClampNeg 0))) (sy_dh F1 X1 X2 (iv_H 4))) :
    hd_W Ls xs d jm_M157 Q (0, sy_dL F [some (.inl (.ref 1000)), some (.inr (.inl 69)), some (.inr (.inl 70)), none], sy_dS F [], sy_dh F X1 X2 (iv_H 4), 0, 0) := by
  refine hd_ret (s := 4) (nv := 71) (v := some (.inr (.inl 72))) (uh := hd_ov (iv_id 0 iv_B4) [(6, .inl (.inl (.int 2))), (7, .inl (.inr (.inl 74)))]) (f := true) (sp := []) (d0 := 2) (O := [false, false, false, true, false, false, true, false, true]) (T := [(30, [.inr (.inl 4)], [.inr (.inl 25)]), (30, [.inr (.inl 4)], [.inr (.inl 27)]), (30, [.inr (.inl 4)], [.inr (.inl 26)]), (30, [.inr (.inl 4)], [.inr (.inl 26)])]) (P := [(3, .inl (.int 0), .inr (.inl 6)), (0, .inr (.inl 6), .inl (.int 0)), (6, .inr (.inl 4), .inl (.ref 403)), (0, .inr (.inl 71), .inl (.int 2)), (6, .inr (.inl 4), .inl (.ref 403)), (2, .inr (.inl 72), .inr (.inl 69)), (6, .inr (.inl 4), .inl (.ref 403)), (3, .inl (.int 0), .inr (.inl 6)), (1, .inr (.inl 8), .inl (.int 0)), (2, .inr (.inl 9), .inr (.inl 73)), (0, .inr (.inl 4), .inl (.int 400)), (4, .inr (.inl 6), .inl (.int 0)), (6, .inr (.inl 4), .inl (.ref 403))]) jm_ok157 (by decide +kernel) (by decide +kernel) hd F X1 X2 (fun F' hF hs => ?_)
  have b6 := hd_b (F := F) (F' := F') (k := 6) (hF 6 (by decide))
  have b4 := hd_b (F := F) (F' := F') (k := 4) (hF 4 (by decide))
  have a25 := hd_ba (F := F) (F' := F') (k := 25) (hF 25 (by decide))
  have t71 : sy_dv F' (.inr (.inl 71)) = .int ((sy_ai F 25).getD (sy_i F 4).toNatClampNeg 0) := hd_rd (hs 0 _ rfl) b4 a25
  have a27 := hd_ba (F := F) (F' := F') (k := 27) (hF 27 (by decide))
  have t72 : sy_dv F' (.inr (.inl 72)) = .int ((sy_ai F 27).getD (sy_i F 4).toNatClampNeg 0) := hd_rd (hs 1 _ rfl) b4 a27
  have b69 := hd_b (F := F) (F' := F') (k := 69) (hF 69 (by decide))
  have b8 := hd_b (F := F) (F' := F') (k := 8) (hF 8 (by decide))
  have b9 := hd_b (F := F) (F' := F') (k := 9) (hF 9 (by decide))
  have a26 := hd_ba (F := F) (F' := F') (k := 26) (hF 26 (by decide))
  have t73 : sy_dv F' (.inr (.inl 73)) = .int ((sy_ai F 26).getD (sy_i F 4).toNatClampNeg 0) := hd_rd (hs 2 _ rfl) b4 a26
  have t74 : sy_dv F' (.inr (.inl 74)) = .int ((sy_ai F 26).getD (sy_i F 4).toNatClampNeg 0) := hd_rd (hs 3 _ rfl) b4 a26
  have hB' : iv_in F' iv_B4 := iv_in_eq hB (fun j hj => hF j (Nat.lt_of_lt_of_le hj (by decide +kernel)))
  have hk := k (sy_cm F' (hd_ov (iv_id 0 iv_B4) [(6, .inl (.inl (.int 2))), (7, .inl (.inr (.inl 74)))] ++ [])) (fun j hj hn => (hd_keep hB' (Nat.lt_of_lt_of_le hj (by decide +kernel)) (by simp; omega)).trans (hF j (Nat.lt_of_lt_of_le hj (by decide)))) (hd_gi (x := .inl (.int 2)) (by decide +kernel) rfl) (hd_gi (x := .inr (.inl 74)) (by decide +kernel) t74)
  refine ⟨List.forall_mem_cons.mpr ⟨hd_p3 rfl b6 (by have hc : ((0) : Int32).toInt = 0 := (by decide); omega), List.forall_mem_cons.mpr ⟨hd_p0 b6 rfl (by have hc : ((0) : Int32).toInt = 0 := (by decide); omega), List.forall_mem_cons.mpr ⟨hd_pb b4 (by first | exact h2 | exact h2), List.forall_mem_cons.mpr ⟨hd_p0 t71 rfl (by have hc : ((2) : Int32).toInt = 2 := (by decide); omega), List.forall_mem_cons.mpr ⟨hd_pb b4 (by first | exact h4 | exact h4), List.forall_mem_cons.mpr ⟨hd_p2 t72 b69 h5, List.forall_mem_cons.mpr ⟨hd_pb b4 (by first | exact h6 | exact h6), List.forall_mem_cons.mpr ⟨hd_p3 rfl b6 (by have hc : ((0) : Int32).toInt = 0 := (by decide); omega), List.forall_mem_cons.mpr ⟨hd_p1 b8 rfl (by have hc : ((0) : Int32).toInt = 0 := (by decide); omega), List.forall_mem_cons.mpr ⟨hd_p2 b9 t73 h9, List.forall_mem_cons.mpr ⟨hd_p0 b4 rfl (by have hc : ((400) : Int32).toInt = 400 := (by decide); omega), List.forall_mem_cons.mpr ⟨hd_p4 b6 rfl (by have hc : ((0) : Int32).toInt = 0 := (by decide); omega), List.forall_mem_cons.mpr ⟨hd_pb b4 (by first | exact h12 | exact h12), fun _ h => absurd h List.not_mem_nil⟩⟩⟩⟩⟩⟩⟩⟩⟩⟩⟩⟩⟩, ?_⟩
  show Q (some (sy_dv F' (.inr (.inl 72)))) _
  rw [t72]
  exact hk
theorem bo_0_p6 {Ls : Nat} {xs : Nat → Int32} {d : Nat} {Q : Option Value → jm_h → Prop} (hd : 3 ≤ d) (F : Nat → sy_d) (X1 X2 : List jm_c) (hB : iv_in F iv_B4)
    (h0 : (sy_i F 6).toInt ≤ 0)
    (h1 : (sy_i F 6).toInt = 0)
    (h2 : 0 ≤ (sy_i F 4).toInt ∧ (sy_i F 4).toInt < 403)
    (h3 : ((sy_ai F 25).getD (sy_i F 4).toNatClampNeg 0).toInt = 2)
    (h4 : 0 ≤ (sy_i F 4).toInt ∧ (sy_i F 4).toInt < 403)
    (h5 : ((sy_ai F 27).getD (sy_i F 4).toNatClampNeg 0).toInt < (sy_i F 69).toInt)
    (h6 : 0 ≤ (sy_i F 4).toInt ∧ (sy_i F 4).toInt < 403)
    (h7 : (sy_i F 6).toInt ≤ 0)
    (h8 : (sy_i F 8).toInt ≠ 0)
    (h9 : ((sy_ai F 26).getD (sy_i F 4).toNatClampNeg 0).toInt ≤ (sy_i F 9).toInt)
    (h10 : ((sy_ai F 26).getD (sy_i F 4).toNatClampNeg 0).toInt ≠ (sy_i F 9).toInt)
    (h11 : (sy_i F 4).toInt ≠ 400)
    (k : ∀ F1 : Nat → sy_d, (∀ j, j < 69 → j ≠ 4 ∧ j ≠ 8 ∧ j ≠ 9 → F1 j = F j) → F1 4 = .inl (.int ((sy_i F 4) + ((1 : Int32)))) → F1 8 = .inl (.int ((5 : Int32))) → F1 9 = .inl (.int ((sy_ai F 26).getD (sy_i F 4).toNatClampNeg 0)) → Q (some (.int ((sy_ai F 27).getD (sy_i F 4).toNatClampNeg 0))) (sy_dh F1 X1 X2 (iv_H 4))) :
    hd_W Ls xs d jm_M157 Q (0, sy_dL F [some (.inl (.ref 1000)), some (.inr (.inl 69)), some (.inr (.inl 70)), none], sy_dS F [], sy_dh F X1 X2 (iv_H 4), 0, 0) := by
  refine hd_ret (s := 4) (nv := 71) (v := some (.inr (.inl 72))) (uh := hd_ov (iv_id 0 iv_B4) [(4, .inl (.inr (.inl 74))), (8, .inl (.inl (.int 5))), (9, .inl (.inr (.inl 73)))]) (f := true) (sp := []) (d0 := 2) (O := [false, false, false, true, false, false, false, true, true]) (T := [(30, [.inr (.inl 4)], [.inr (.inl 25)]), (30, [.inr (.inl 4)], [.inr (.inl 27)]), (30, [.inr (.inl 4)], [.inr (.inl 26)]), (0, [.inr (.inl 4), .inl (.int 1)], [])]) (P := [(3, .inl (.int 0), .inr (.inl 6)), (0, .inr (.inl 6), .inl (.int 0)), (6, .inr (.inl 4), .inl (.ref 403)), (0, .inr (.inl 71), .inl (.int 2)), (6, .inr (.inl 4), .inl (.ref 403)), (2, .inr (.inl 72), .inr (.inl 69)), (6, .inr (.inl 4), .inl (.ref 403)), (3, .inl (.int 0), .inr (.inl 6)), (1, .inr (.inl 8), .inl (.int 0)), (3, .inr (.inl 9), .inr (.inl 73)), (1, .inr (.inl 73), .inr (.inl 9)), (1, .inr (.inl 4), .inl (.int 400))]) jm_ok157 (by decide +kernel) (by decide +kernel) hd F X1 X2 (fun F' hF hs => ?_)
  have b6 := hd_b (F := F) (F' := F') (k := 6) (hF 6 (by decide))
  have b4 := hd_b (F := F) (F' := F') (k := 4) (hF 4 (by decide))
  have a25 := hd_ba (F := F) (F' := F') (k := 25) (hF 25 (by decide))
  have t71 : sy_dv F' (.inr (.inl 71)) = .int ((sy_ai F 25).getD (sy_i F 4).toNatClampNeg 0) := hd_rd (hs 0 _ rfl) b4 a25
  have a27 := hd_ba (F := F) (F' := F') (k := 27) (hF 27 (by decide))
  have t72 : sy_dv F' (.inr (.inl 72)) = .int ((sy_ai F 27).getD (sy_i F 4).toNatClampNeg 0) := hd_rd (hs 1 _ rfl) b4 a27
  have b69 := hd_b (F := F) (F' := F') (k := 69) (hF 69 (by decide))
  have b8 := hd_b (F := F) (F' := F') (k := 8) (hF 8 (by decide))
  have b9 := hd_b (F := F) (F' := F') (k := 9) (hF 9 (by decide))
  have a26 := hd_ba (F := F) (F' := F') (k := 26) (hF 26 (by decide))
  have t73 : sy_dv F' (.inr (.inl 73)) = .int ((sy_ai F 26).getD (sy_i F 4).toNatClampNeg 0) := hd_rd (hs 2 _ rfl) b4 a26
  have t74 : sy_dv F' (.inr (.inl 74)) = .int ((sy_i F 4) + ((1 : Int32))) := hd_o (hs 3 _ rfl) b4 rfl rfl
  have hB' : iv_in F' iv_B4 := iv_in_eq hB (fun j hj => hF j (Nat.lt_of_lt_of_le hj (by decide +kernel)))
  have hk := k (sy_cm F' (hd_ov (iv_id 0 iv_B4) [(4, .inl (.inr (.inl 74))), (8, .inl (.inl (.int 5))), (9, .inl (.inr (.inl 73)))] ++ [])) (fun j hj hn => (hd_keep hB' (Nat.lt_of_lt_of_le hj (by decide +kernel)) (by simp; omega)).trans (hF j (Nat.lt_of_lt_of_le hj (by decide)))) (hd_gi (x := .inr (.inl 74)) (by decide +kernel) t74) (hd_gi (x := .inl (.int 5)) (by decide +kernel) rfl) (hd_gi (x := .inr (.inl 73)) (by decide +kernel) t73)
  refine ⟨List.forall_mem_cons.mpr ⟨hd_p3 rfl b6 (by have hc : ((0) : Int32).toInt = 0 := (by decide); omega), List.forall_mem_cons.mpr ⟨hd_p0 b6 rfl (by have hc : ((0) : Int32).toInt = 0 := (by decide); omega), List.forall_mem_cons.mpr ⟨hd_pb b4 (by first | exact h2 | exact h2), List.forall_mem_cons.mpr ⟨hd_p0 t71 rfl (by have hc : ((2) : Int32).toInt = 2 := (by decide); omega), List.forall_mem_cons.mpr ⟨hd_pb b4 (by first | exact h4 | exact h4), List.forall_mem_cons.mpr ⟨hd_p2 t72 b69 h5, List.forall_mem_cons.mpr ⟨hd_pb b4 (by first | exact h6 | exact h6), List.forall_mem_cons.mpr ⟨hd_p3 rfl b6 (by have hc : ((0) : Int32).toInt = 0 := (by decide); omega), List.forall_mem_cons.mpr ⟨hd_p1 b8 rfl (by have hc : ((0) : Int32).toInt = 0 := (by decide); omega), List.forall_mem_cons.mpr ⟨hd_p3 b9 t73 h9, List.forall_mem_cons.mpr ⟨hd_p1 t73 b9 h10, List.forall_mem_cons.mpr ⟨hd_p1 b4 rfl (by have hc : ((400) : Int32).toInt = 400 := (by decide); omega), fun _ h => absurd h List.not_mem_nil⟩⟩⟩⟩⟩⟩⟩⟩⟩⟩⟩⟩, ?_⟩
  show Q (some (sy_dv F' (.inr (.inl 72)))) _
  rw [t72]
  exact hk
theorem bo_0_p7 {Ls : Nat} {xs : Nat → Int32} {d : Nat} {Q : Option Value → jm_h → Prop} (hd : 3 ≤ d) (F : Nat → sy_d) (X1 X2 : List jm_c) (hB : iv_in F iv_B4)
    (h0 : (sy_i F 6).toInt ≤ 0)
    (h1 : (sy_i F 6).toInt = 0)
    (h2 : 0 ≤ (sy_i F 4).toInt ∧ (sy_i F 4).toInt < 403)
    (h3 : ((sy_ai F 25).getD (sy_i F 4).toNatClampNeg 0).toInt = 2)
    (h4 : 0 ≤ (sy_i F 4).toInt ∧ (sy_i F 4).toInt < 403)
    (h5 : ((sy_ai F 27).getD (sy_i F 4).toNatClampNeg 0).toInt < (sy_i F 69).toInt)
    (h6 : 0 ≤ (sy_i F 4).toInt ∧ (sy_i F 4).toInt < 403)
    (h7 : (sy_i F 6).toInt ≤ 0)
    (h8 : (sy_i F 8).toInt ≠ 0)
    (h9 : ((sy_ai F 26).getD (sy_i F 4).toNatClampNeg 0).toInt ≤ (sy_i F 9).toInt)
    (h10 : ((sy_ai F 26).getD (sy_i F 4).toNatClampNeg 0).toInt ≠ (sy_i F 9).toInt)
    (h11 : (sy_i F 4).toInt = 400)
    (h12 : (sy_i F 6).toInt ≤ 0)
    (h13 : 0 ≤ (sy_i F 4).toInt ∧ (sy_i F 4).toInt < 403)
    (k : ∀ F1 : Nat → sy_d, (∀ j, j < 69 → j ≠ 6 ∧ j ≠ 7 ∧ j ≠ 8 ∧ j ≠ 9 → F1 j = F j) → F1 6 = .inl (.int ((2 : Int32))) → F1 7 = .inl (.int ((sy_ai F 26).getD (sy_i F 4).toNatClampNeg 0)) → F1 8 = .inl (.int ((5 : Int32))) → F1 9 = .inl (.int ((sy_ai F 26).getD (sy_i F 4).toNatClampNeg 0)) → Q (some (.int ((sy_ai F 27).getD (sy_i F 4).toNatClampNeg 0))) (sy_dh F1 X1 X2 (iv_H 4))) :
    hd_W Ls xs d jm_M157 Q (0, sy_dL F [some (.inl (.ref 1000)), some (.inr (.inl 69)), some (.inr (.inl 70)), none], sy_dS F [], sy_dh F X1 X2 (iv_H 4), 0, 0) := by
  refine hd_ret (s := 4) (nv := 71) (v := some (.inr (.inl 72))) (uh := hd_ov (iv_id 0 iv_B4) [(6, .inl (.inl (.int 2))), (7, .inl (.inr (.inl 74))), (8, .inl (.inl (.int 5))), (9, .inl (.inr (.inl 73)))]) (f := true) (sp := []) (d0 := 2) (O := [false, false, false, true, false, false, false, true, false, true]) (T := [(30, [.inr (.inl 4)], [.inr (.inl 25)]), (30, [.inr (.inl 4)], [.inr (.inl 27)]), (30, [.inr (.inl 4)], [.inr (.inl 26)]), (30, [.inr (.inl 4)], [.inr (.inl 26)])]) (P := [(3, .inl (.int 0), .inr (.inl 6)), (0, .inr (.inl 6), .inl (.int 0)), (6, .inr (.inl 4), .inl (.ref 403)), (0, .inr (.inl 71), .inl (.int 2)), (6, .inr (.inl 4), .inl (.ref 403)), (2, .inr (.inl 72), .inr (.inl 69)), (6, .inr (.inl 4), .inl (.ref 403)), (3, .inl (.int 0), .inr (.inl 6)), (1, .inr (.inl 8), .inl (.int 0)), (3, .inr (.inl 9), .inr (.inl 73)), (1, .inr (.inl 73), .inr (.inl 9)), (0, .inr (.inl 4), .inl (.int 400)), (4, .inr (.inl 6), .inl (.int 0)), (6, .inr (.inl 4), .inl (.ref 403))]) jm_ok157 (by decide +kernel) (by decide +kernel) hd F X1 X2 (fun F' hF hs => ?_)
  have b6 := hd_b (F := F) (F' := F') (k := 6) (hF 6 (by decide))
  have b4 := hd_b (F := F) (F' := F') (k := 4) (hF 4 (by decide))
  have a25 := hd_ba (F := F) (F' := F') (k := 25) (hF 25 (by decide))
  have t71 : sy_dv F' (.inr (.inl 71)) = .int ((sy_ai F 25).getD (sy_i F 4).toNatClampNeg 0) := hd_rd (hs 0 _ rfl) b4 a25
  have a27 := hd_ba (F := F) (F' := F') (k := 27) (hF 27 (by decide))
  have t72 : sy_dv F' (.inr (.inl 72)) = .int ((sy_ai F 27).getD (sy_i F 4).toNatClampNeg 0) := hd_rd (hs 1 _ rfl) b4 a27
  have b69 := hd_b (F := F) (F' := F') (k := 69) (hF 69 (by decide))
  have b8 := hd_b (F := F) (F' := F') (k := 8) (hF 8 (by decide))
  have b9 := hd_b (F := F) (F' := F') (k := 9) (hF 9 (by decide))
  have a26 := hd_ba (F := F) (F' := F') (k := 26) (hF 26 (by decide))
  have t73 : sy_dv F' (.inr (.inl 73)) = .int ((sy_ai F 26).getD (sy_i F 4).toNatClampNeg 0) := hd_rd (hs 2 _ rfl) b4 a26
  have t74 : sy_dv F' (.inr (.inl 74)) = .int ((sy_ai F 26).getD (sy_i F 4).toNatClampNeg 0) := hd_rd (hs 3 _ rfl) b4 a26
  have hB' : iv_in F' iv_B4 := iv_in_eq hB (fun j hj => hF j (Nat.lt_of_lt_of_le hj (by decide +kernel)))
  have hk := k (sy_cm F' (hd_ov (iv_id 0 iv_B4) [(6, .inl (.inl (.int 2))), (7, .inl (.inr (.inl 74))), (8, .inl (.inl (.int 5))), (9, .inl (.inr (.inl 73)))] ++ [])) (fun j hj hn => (hd_keep hB' (Nat.lt_of_lt_of_le hj (by decide +kernel)) (by simp; omega)).trans (hF j (Nat.lt_of_lt_of_le hj (by decide)))) (hd_gi (x := .inl (.int 2)) (by decide +kernel) rfl) (hd_gi (x := .inr (.inl 74)) (by decide +kernel) t74) (hd_gi (x := .inl (.int 5)) (by decide +kernel) rfl) (hd_gi (x := .inr (.inl 73)) (by decide +kernel) t73)
  refine ⟨List.forall_mem_cons.mpr ⟨hd_p3 rfl b6 (by have hc : ((0) : Int32).toInt = 0 := (by decide); omega), List.forall_mem_cons.mpr ⟨hd_p0 b6 rfl (by have hc : ((0) : Int32).toInt = 0 := (by decide); omega), List.forall_mem_cons.mpr ⟨hd_pb b4 (by first | exact h2 | exact h2), List.forall_mem_cons.mpr ⟨hd_p0 t71 rfl (by have hc : ((2) : Int32).toInt = 2 := (by decide); omega), List.forall_mem_cons.mpr ⟨hd_pb b4 (by first | exact h4 | exact h4), List.forall_mem_cons.mpr ⟨hd_p2 t72 b69 h5, List.forall_mem_cons.mpr ⟨hd_pb b4 (by first | exact h6 | exact h6), List.forall_mem_cons.mpr ⟨hd_p3 rfl b6 (by have hc : ((0) : Int32).toInt = 0 := (by decide); omega), List.forall_mem_cons.mpr ⟨hd_p1 b8 rfl (by have hc : ((0) : Int32).toInt = 0 := (by decide); omega), List.forall_mem_cons.mpr ⟨hd_p3 b9 t73 h9, List.forall_mem_cons.mpr ⟨hd_p1 t73 b9 h10, List.forall_mem_cons.mpr ⟨hd_p0 b4 rfl (by have hc : ((400) : Int32).toInt = 400 := (by decide); omega), List.forall_mem_cons.mpr ⟨hd_p4 b6 rfl (by have hc : ((0) : Int32).toInt = 0 := (by decide); omega), List.forall_mem_cons.mpr ⟨hd_pb b4 (by first | exact h13 | exact h13), fun _ h => absurd h List.not_mem_nil⟩⟩⟩⟩⟩⟩⟩⟩⟩⟩⟩⟩⟩⟩, ?_⟩
  show Q (some (sy_dv F' (.inr (.inl 72)))) _
  rw [t72]
  exact hk
theorem bo_0_p8 {Ls : Nat} {xs : Nat → Int32} {d : Nat} {Q : Option Value → jm_h → Prop} (hd : 3 ≤ d) (F : Nat → sy_d) (X1 X2 : List jm_c) (hB : iv_in F iv_B4)
    (h0 : (sy_i F 6).toInt ≤ 0)
    (h1 : (sy_i F 6).toInt = 0)
    (h2 : 0 ≤ (sy_i F 4).toInt ∧ (sy_i F 4).toInt < 403)
    (h3 : ((sy_ai F 25).getD (sy_i F 4).toNatClampNeg 0).toInt = 2)
    (h4 : 0 ≤ (sy_i F 4).toInt ∧ (sy_i F 4).toInt < 403)
    (h5 : ((sy_ai F 27).getD (sy_i F 4).toNatClampNeg 0).toInt < (sy_i F 69).toInt)
    (h6 : 0 ≤ (sy_i F 4).toInt ∧ (sy_i F 4).toInt < 403)
    (h7 : (sy_i F 6).toInt ≤ 0)
    (h8 : (sy_i F 8).toInt ≠ 0)
    (h9 : ((sy_ai F 26).getD (sy_i F 4).toNatClampNeg 0).toInt ≤ (sy_i F 9).toInt)
    (h10 : ((sy_ai F 26).getD (sy_i F 4).toNatClampNeg 0).toInt = (sy_i F 9).toInt)
    (h11 : 5 < (sy_i F 8).toInt)
    (h12 : (sy_i F 4).toInt ≠ 400)
    (k : ∀ F1 : Nat → sy_d, (∀ j, j < 69 → j ≠ 4 ∧ j ≠ 8 ∧ j ≠ 9 → F1 j = F j) → F1 4 = .inl (.int ((sy_i F 4) + ((1 : Int32)))) → F1 8 = .inl (.int ((5 : Int32))) → F1 9 = .inl (.int ((sy_ai F 26).getD (sy_i F 4).toNatClampNeg 0)) → Q (some (.int ((sy_ai F 27).getD (sy_i F 4).toNatClampNeg 0))) (sy_dh F1 X1 X2 (iv_H 4))) :
    hd_W Ls xs d jm_M157 Q (0, sy_dL F [some (.inl (.ref 1000)), some (.inr (.inl 69)), some (.inr (.inl 70)), none], sy_dS F [], sy_dh F X1 X2 (iv_H 4), 0, 0) := by
  refine hd_ret (s := 4) (nv := 71) (v := some (.inr (.inl 72))) (uh := hd_ov (iv_id 0 iv_B4) [(4, .inl (.inr (.inl 74))), (8, .inl (.inl (.int 5))), (9, .inl (.inr (.inl 73)))]) (f := true) (sp := []) (d0 := 2) (O := [false, false, false, true, false, false, false, false, true, true]) (T := [(30, [.inr (.inl 4)], [.inr (.inl 25)]), (30, [.inr (.inl 4)], [.inr (.inl 27)]), (30, [.inr (.inl 4)], [.inr (.inl 26)]), (0, [.inr (.inl 4), .inl (.int 1)], [])]) (P := [(3, .inl (.int 0), .inr (.inl 6)), (0, .inr (.inl 6), .inl (.int 0)), (6, .inr (.inl 4), .inl (.ref 403)), (0, .inr (.inl 71), .inl (.int 2)), (6, .inr (.inl 4), .inl (.ref 403)), (2, .inr (.inl 72), .inr (.inl 69)), (6, .inr (.inl 4), .inl (.ref 403)), (3, .inl (.int 0), .inr (.inl 6)), (1, .inr (.inl 8), .inl (.int 0)), (3, .inr (.inl 9), .inr (.inl 73)), (0, .inr (.inl 73), .inr (.inl 9)), (2, .inl (.int 5), .inr (.inl 8)), (1, .inr (.inl 4), .inl (.int 400))]) jm_ok157 (by decide +kernel) (by decide +kernel) hd F X1 X2 (fun F' hF hs => ?_)
  have b6 := hd_b (F := F) (F' := F') (k := 6) (hF 6 (by decide))
  have b4 := hd_b (F := F) (F' := F') (k := 4) (hF 4 (by decide))
  have a25 := hd_ba (F := F) (F' := F') (k := 25) (hF 25 (by decide))
  have t71 : sy_dv F' (.inr (.inl 71)) = .int ((sy_ai F 25).getD (sy_i F 4).toNatClampNeg 0) := hd_rd (hs 0 _ rfl) b4 a25
  have a27 := hd_ba (F := F) (F' := F') (k := 27) (hF 27 (by decide))
  have t72 : sy_dv F' (.inr (.inl 72)) = .int ((sy_ai F 27).getD (sy_i F 4).toNatClampNeg 0) := hd_rd (hs 1 _ rfl) b4 a27
  have b69 := hd_b (F := F) (F' := F') (k := 69) (hF 69 (by decide))
  have b8 := hd_b (F := F) (F' := F') (k := 8) (hF 8 (by decide))
  have b9 := hd_b (F := F) (F' := F') (k := 9) (hF 9 (by decide))
  have a26 := hd_ba (F := F) (F' := F') (k := 26) (hF 26 (by decide))
  have t73 : sy_dv F' (.inr (.inl 73)) = .int ((sy_ai F 26).getD (sy_i F 4).toNatClampNeg 0) := hd_rd (hs 2 _ rfl) b4 a26
  have t74 : sy_dv F' (.inr (.inl 74)) = .int ((sy_i F 4) + ((1 : Int32))) := hd_o (hs 3 _ rfl) b4 rfl rfl
  have hB' : iv_in F' iv_B4 := iv_in_eq hB (fun j hj => hF j (Nat.lt_of_lt_of_le hj (by decide +kernel)))
  have hk := k (sy_cm F' (hd_ov (iv_id 0 iv_B4) [(4, .inl (.inr (.inl 74))), (8, .inl (.inl (.int 5))), (9, .inl (.inr (.inl 73)))] ++ [])) (fun j hj hn => (hd_keep hB' (Nat.lt_of_lt_of_le hj (by decide +kernel)) (by simp; omega)).trans (hF j (Nat.lt_of_lt_of_le hj (by decide)))) (hd_gi (x := .inr (.inl 74)) (by decide +kernel) t74) (hd_gi (x := .inl (.int 5)) (by decide +kernel) rfl) (hd_gi (x := .inr (.inl 73)) (by decide +kernel) t73)
  refine ⟨List.forall_mem_cons.mpr ⟨hd_p3 rfl b6 (by have hc : ((0) : Int32).toInt = 0 := (by decide); omega), List.forall_mem_cons.mpr ⟨hd_p0 b6 rfl (by have hc : ((0) : Int32).toInt = 0 := (by decide); omega), List.forall_mem_cons.mpr ⟨hd_pb b4 (by first | exact h2 | exact h2), List.forall_mem_cons.mpr ⟨hd_p0 t71 rfl (by have hc : ((2) : Int32).toInt = 2 := (by decide); omega), List.forall_mem_cons.mpr ⟨hd_pb b4 (by first | exact h4 | exact h4), List.forall_mem_cons.mpr ⟨hd_p2 t72 b69 h5, List.forall_mem_cons.mpr ⟨hd_pb b4 (by first | exact h6 | exact h6), List.forall_mem_cons.mpr ⟨hd_p3 rfl b6 (by have hc : ((0) : Int32).toInt = 0 := (by decide); omega), List.forall_mem_cons.mpr ⟨hd_p1 b8 rfl (by have hc : ((0) : Int32).toInt = 0 := (by decide); omega), List.forall_mem_cons.mpr ⟨hd_p3 b9 t73 h9, List.forall_mem_cons.mpr ⟨hd_p0 t73 b9 h10, List.forall_mem_cons.mpr ⟨hd_p2 rfl b8 (by have hc : ((5) : Int32).toInt = 5 := (by decide); omega), List.forall_mem_cons.mpr ⟨hd_p1 b4 rfl (by have hc : ((400) : Int32).toInt = 400 := (by decide); omega), fun _ h => absurd h List.not_mem_nil⟩⟩⟩⟩⟩⟩⟩⟩⟩⟩⟩⟩⟩, ?_⟩
  show Q (some (sy_dv F' (.inr (.inl 72)))) _
  rw [t72]
  exact hk
theorem bo_0_p9 {Ls : Nat} {xs : Nat → Int32} {d : Nat} {Q : Option Value → jm_h → Prop} (hd : 3 ≤ d) (F : Nat → sy_d) (X1 X2 : List jm_c) (hB : iv_in F iv_B4)
    (h0 : (sy_i F 6).toInt ≤ 0)
    (h1 : (sy_i F 6).toInt = 0)
    (h2 : 0 ≤ (sy_i F 4).toInt ∧ (sy_i F 4).toInt < 403)
    (h3 : ((sy_ai F 25).getD (sy_i F 4).toNatClampNeg 0).toInt = 2)
    (h4 : 0 ≤ (sy_i F 4).toInt ∧ (sy_i F 4).toInt < 403)
    (h5 : ((sy_ai F 27).getD (sy_i F 4).toNatClampNeg 0).toInt < (sy_i F 69).toInt)
    (h6 : 0 ≤ (sy_i F 4).toInt ∧ (sy_i F 4).toInt < 403)
    (h7 : (sy_i F 6).toInt ≤ 0)
    (h8 : (sy_i F 8).toInt ≠ 0)
    (h9 : ((sy_ai F 26).getD (sy_i F 4).toNatClampNeg 0).toInt ≤ (sy_i F 9).toInt)
    (h10 : ((sy_ai F 26).getD (sy_i F 4).toNatClampNeg 0).toInt = (sy_i F 9).toInt)
    (h11 : 5 < (sy_i F 8).toInt)
    (h12 : (sy_i F 4).toInt = 400)
    (h13 : (sy_i F 6).toInt ≤ 0)
    (h14 : 0 ≤ (sy_i F 4).toInt ∧ (sy_i F 4).toInt < 403)
    (k : ∀ F1 : Nat → sy_d, (∀ j, j < 69 → j ≠ 6 ∧ j ≠ 7 ∧ j ≠ 8 ∧ j ≠ 9 → F1 j = F j) → F1 6 = .inl (.int ((2 : Int32))) → F1 7 = .inl (.int ((sy_ai F 26).getD (sy_i F 4).toNatClampNeg 0)) → F1 8 = .inl (.int ((5 : Int32))) → F1 9 = .inl (.int ((sy_ai F 26).getD (sy_i F 4).toNatClampNeg 0)) → Q (some (.int ((sy_ai F 27).getD (sy_i F 4).toNatClampNeg 0))) (sy_dh F1 X1 X2 (iv_H 4))) :
    hd_W Ls xs d jm_M157 Q (0, sy_dL F [some (.inl (.ref 1000)), some (.inr (.inl 69)), some (.inr (.inl 70)), none], sy_dS F [], sy_dh F X1 X2 (iv_H 4), 0, 0) := by
  refine hd_ret (s := 4) (nv := 71) (v := some (.inr (.inl 72))) (uh := hd_ov (iv_id 0 iv_B4) [(6, .inl (.inl (.int 2))), (7, .inl (.inr (.inl 74))), (8, .inl (.inl (.int 5))), (9, .inl (.inr (.inl 73)))]) (f := true) (sp := []) (d0 := 2) (O := [false, false, false, true, false, false, false, false, true, false, true]) (T := [(30, [.inr (.inl 4)], [.inr (.inl 25)]), (30, [.inr (.inl 4)], [.inr (.inl 27)]), (30, [.inr (.inl 4)], [.inr (.inl 26)]), (30, [.inr (.inl 4)], [.inr (.inl 26)])]) (P := [(3, .inl (.int 0), .inr (.inl 6)), (0, .inr (.inl 6), .inl (.int 0)), (6, .inr (.inl 4), .inl (.ref 403)), (0, .inr (.inl 71), .inl (.int 2)), (6, .inr (.inl 4), .inl (.ref 403)), (2, .inr (.inl 72), .inr (.inl 69)), (6, .inr (.inl 4), .inl (.ref 403)), (3, .inl (.int 0), .inr (.inl 6)), (1, .inr (.inl 8), .inl (.int 0)), (3, .inr (.inl 9), .inr (.inl 73)), (0, .inr (.inl 73), .inr (.inl 9)), (2, .inl (.int 5), .inr (.inl 8)), (0, .inr (.inl 4), .inl (.int 400)), (4, .inr (.inl 6), .inl (.int 0)), (6, .inr (.inl 4), .inl (.ref 403))]) jm_ok157 (by decide +kernel) (by decide +kernel) hd F X1 X2 (fun F' hF hs => ?_)
  have b6 := hd_b (F := F) (F' := F') (k := 6) (hF 6 (by decide))
  have b4 := hd_b (F := F) (F' := F') (k := 4) (hF 4 (by decide))
  have a25 := hd_ba (F := F) (F' := F') (k := 25) (hF 25 (by decide))
  have t71 : sy_dv F' (.inr (.inl 71)) = .int ((sy_ai F 25).getD (sy_i F 4).toNatClampNeg 0) := hd_rd (hs 0 _ rfl) b4 a25
  have a27 := hd_ba (F := F) (F' := F') (k := 27) (hF 27 (by decide))
  have t72 : sy_dv F' (.inr (.inl 72)) = .int ((sy_ai F 27).getD (sy_i F 4).toNatClampNeg 0) := hd_rd (hs 1 _ rfl) b4 a27
  have b69 := hd_b (F := F) (F' := F') (k := 69) (hF 69 (by decide))
  have b8 := hd_b (F := F) (F' := F') (k := 8) (hF 8 (by decide))
  have b9 := hd_b (F := F) (F' := F') (k := 9) (hF 9 (by decide))
  have a26 := hd_ba (F := F) (F' := F') (k := 26) (hF 26 (by decide))
  have t73 : sy_dv F' (.inr (.inl 73)) = .int ((sy_ai F 26).getD (sy_i F 4).toNatClampNeg 0) := hd_rd (hs 2 _ rfl) b4 a26
  have t74 : sy_dv F' (.inr (.inl 74)) = .int ((sy_ai F 26).getD (sy_i F 4).toNatClampNeg 0) := hd_rd (hs 3 _ rfl) b4 a26
  have hB' : iv_in F' iv_B4 := iv_in_eq hB (fun j hj => hF j (Nat.lt_of_lt_of_le hj (by decide +kernel)))
  have hk := k (sy_cm F' (hd_ov (iv_id 0 iv_B4) [(6, .inl (.inl (.int 2))), (7, .inl (.inr (.inl 74))), (8, .inl (.inl (.int 5))), (9, .inl (.inr (.inl 73)))] ++ [])) (fun j hj hn => (hd_keep hB' (Nat.lt_of_lt_of_le hj (by decide +kernel)) (by simp; omega)).trans (hF j (Nat.lt_of_lt_of_le hj (by decide)))) (hd_gi (x := .inl (.int 2)) (by decide +kernel) rfl) (hd_gi (x := .inr (.inl 74)) (by decide +kernel) t74) (hd_gi (x := .inl (.int 5)) (by decide +kernel) rfl) (hd_gi (x := .inr (.inl 73)) (by decide +kernel) t73)
  refine ⟨List.forall_mem_cons.mpr ⟨hd_p3 rfl b6 (by have hc : ((0) : Int32).toInt = 0 := (by decide); omega), List.forall_mem_cons.mpr ⟨hd_p0 b6 rfl (by have hc : ((0) : Int32).toInt = 0 := (by decide); omega), List.forall_mem_cons.mpr ⟨hd_pb b4 (by first | exact h2 | exact h2), List.forall_mem_cons.mpr ⟨hd_p0 t71 rfl (by have hc : ((2) : Int32).toInt = 2 := (by decide); omega), List.forall_mem_cons.mpr ⟨hd_pb b4 (by first | exact h4 | exact h4), List.forall_mem_cons.mpr ⟨hd_p2 t72 b69 h5, List.forall_mem_cons.mpr ⟨hd_pb b4 (by first | exact h6 | exact h6), List.forall_mem_cons.mpr ⟨hd_p3 rfl b6 (by have hc : ((0) : Int32).toInt = 0 := (by decide); omega), List.forall_mem_cons.mpr ⟨hd_p1 b8 rfl (by have hc : ((0) : Int32).toInt = 0 := (by decide); omega), List.forall_mem_cons.mpr ⟨hd_p3 b9 t73 h9, List.forall_mem_cons.mpr ⟨hd_p0 t73 b9 h10, List.forall_mem_cons.mpr ⟨hd_p2 rfl b8 (by have hc : ((5) : Int32).toInt = 5 := (by decide); omega), List.forall_mem_cons.mpr ⟨hd_p0 b4 rfl (by have hc : ((400) : Int32).toInt = 400 := (by decide); omega), List.forall_mem_cons.mpr ⟨hd_p4 b6 rfl (by have hc : ((0) : Int32).toInt = 0 := (by decide); omega), List.forall_mem_cons.mpr ⟨hd_pb b4 (by first | exact h14 | exact h14), fun _ h => absurd h List.not_mem_nil⟩⟩⟩⟩⟩⟩⟩⟩⟩⟩⟩⟩⟩⟩⟩, ?_⟩
  show Q (some (sy_dv F' (.inr (.inl 72)))) _
  rw [t72]
  exact hk
theorem bo_0_p10 {Ls : Nat} {xs : Nat → Int32} {d : Nat} {Q : Option Value → jm_h → Prop} (hd : 3 ≤ d) (F : Nat → sy_d) (X1 X2 : List jm_c) (hB : iv_in F iv_B4)
    (h0 : (sy_i F 6).toInt ≤ 0)
    (h1 : (sy_i F 6).toInt = 0)
    (h2 : 0 ≤ (sy_i F 4).toInt ∧ (sy_i F 4).toInt < 403)
    (h3 : ((sy_ai F 25).getD (sy_i F 4).toNatClampNeg 0).toInt = 2)
    (h4 : 0 ≤ (sy_i F 4).toInt ∧ (sy_i F 4).toInt < 403)
    (h5 : ((sy_ai F 27).getD (sy_i F 4).toNatClampNeg 0).toInt < (sy_i F 69).toInt)
    (h6 : 0 ≤ (sy_i F 4).toInt ∧ (sy_i F 4).toInt < 403)
    (h7 : (sy_i F 6).toInt ≤ 0)
    (h8 : (sy_i F 8).toInt ≠ 0)
    (h9 : ((sy_ai F 26).getD (sy_i F 4).toNatClampNeg 0).toInt ≤ (sy_i F 9).toInt)
    (h10 : ((sy_ai F 26).getD (sy_i F 4).toNatClampNeg 0).toInt = (sy_i F 9).toInt)
    (h11 : (sy_i F 8).toInt ≤ 5)
    (h12 : (sy_i F 4).toInt ≠ 400)
    (k : ∀ F1 : Nat → sy_d, (∀ j, j < 69 → j ≠ 4 → F1 j = F j) → F1 4 = .inl (.int ((sy_i F 4) + ((1 : Int32)))) → Q (some (.int ((sy_ai F 27).getD (sy_i F 4).toNatClampNeg 0))) (sy_dh F1 X1 X2 (iv_H 4))) :
    hd_W Ls xs d jm_M157 Q (0, sy_dL F [some (.inl (.ref 1000)), some (.inr (.inl 69)), some (.inr (.inl 70)), none], sy_dS F [], sy_dh F X1 X2 (iv_H 4), 0, 0) := by
  refine hd_ret (s := 4) (nv := 71) (v := some (.inr (.inl 72))) (uh := hd_ov (iv_id 0 iv_B4) [(4, .inl (.inr (.inl 74)))]) (f := true) (sp := []) (d0 := 2) (O := [false, false, false, true, false, false, false, false, false, true]) (T := [(30, [.inr (.inl 4)], [.inr (.inl 25)]), (30, [.inr (.inl 4)], [.inr (.inl 27)]), (30, [.inr (.inl 4)], [.inr (.inl 26)]), (0, [.inr (.inl 4), .inl (.int 1)], [])]) (P := [(3, .inl (.int 0), .inr (.inl 6)), (0, .inr (.inl 6), .inl (.int 0)), (6, .inr (.inl 4), .inl (.ref 403)), (0, .inr (.inl 71), .inl (.int 2)), (6, .inr (.inl 4), .inl (.ref 403)), (2, .inr (.inl 72), .inr (.inl 69)), (6, .inr (.inl 4), .inl (.ref 403)), (3, .inl (.int 0), .inr (.inl 6)), (1, .inr (.inl 8), .inl (.int 0)), (3, .inr (.inl 9), .inr (.inl 73)), (0, .inr (.inl 73), .inr (.inl 9)), (3, .inl (.int 5), .inr (.inl 8)), (1, .inr (.inl 4), .inl (.int 400))]) jm_ok157 (by decide +kernel) (by decide +kernel) hd F X1 X2 (fun F' hF hs => ?_)
  have b6 := hd_b (F := F) (F' := F') (k := 6) (hF 6 (by decide))
  have b4 := hd_b (F := F) (F' := F') (k := 4) (hF 4 (by decide))
  have a25 := hd_ba (F := F) (F' := F') (k := 25) (hF 25 (by decide))
  have t71 : sy_dv F' (.inr (.inl 71)) = .int ((sy_ai F 25).getD (sy_i F 4).toNatClampNeg 0) := hd_rd (hs 0 _ rfl) b4 a25
  have a27 := hd_ba (F := F) (F' := F') (k := 27) (hF 27 (by decide))
  have t72 : sy_dv F' (.inr (.inl 72)) = .int ((sy_ai F 27).getD (sy_i F 4).toNatClampNeg 0) := hd_rd (hs 1 _ rfl) b4 a27
  have b69 := hd_b (F := F) (F' := F') (k := 69) (hF 69 (by decide))
  have b8 := hd_b (F := F) (F' := F') (k := 8) (hF 8 (by decide))
  have b9 := hd_b (F := F) (F' := F') (k := 9) (hF 9 (by decide))
  have a26 := hd_ba (F := F) (F' := F') (k := 26) (hF 26 (by decide))
  have t73 : sy_dv F' (.inr (.inl 73)) = .int ((sy_ai F 26).getD (sy_i F 4).toNatClampNeg 0) := hd_rd (hs 2 _ rfl) b4 a26
  have t74 : sy_dv F' (.inr (.inl 74)) = .int ((sy_i F 4) + ((1 : Int32))) := hd_o (hs 3 _ rfl) b4 rfl rfl
  have hB' : iv_in F' iv_B4 := iv_in_eq hB (fun j hj => hF j (Nat.lt_of_lt_of_le hj (by decide +kernel)))
  have hk := k (sy_cm F' (hd_ov (iv_id 0 iv_B4) [(4, .inl (.inr (.inl 74)))] ++ [])) (fun j hj hn => (hd_keep hB' (Nat.lt_of_lt_of_le hj (by decide +kernel)) (by simp; omega)).trans (hF j (Nat.lt_of_lt_of_le hj (by decide)))) (hd_gi (x := .inr (.inl 74)) (by decide +kernel) t74)
  refine ⟨List.forall_mem_cons.mpr ⟨hd_p3 rfl b6 (by have hc : ((0) : Int32).toInt = 0 := (by decide); omega), List.forall_mem_cons.mpr ⟨hd_p0 b6 rfl (by have hc : ((0) : Int32).toInt = 0 := (by decide); omega), List.forall_mem_cons.mpr ⟨hd_pb b4 (by first | exact h2 | exact h2), List.forall_mem_cons.mpr ⟨hd_p0 t71 rfl (by have hc : ((2) : Int32).toInt = 2 := (by decide); omega), List.forall_mem_cons.mpr ⟨hd_pb b4 (by first | exact h4 | exact h4), List.forall_mem_cons.mpr ⟨hd_p2 t72 b69 h5, List.forall_mem_cons.mpr ⟨hd_pb b4 (by first | exact h6 | exact h6), List.forall_mem_cons.mpr ⟨hd_p3 rfl b6 (by have hc : ((0) : Int32).toInt = 0 := (by decide); omega), List.forall_mem_cons.mpr ⟨hd_p1 b8 rfl (by have hc : ((0) : Int32).toInt = 0 := (by decide); omega), List.forall_mem_cons.mpr ⟨hd_p3 b9 t73 h9, List.forall_mem_cons.mpr ⟨hd_p0 t73 b9 h10, List.forall_mem_cons.mpr ⟨hd_p3 rfl b8 (by have hc : ((5) : Int32).toInt = 5 := (by decide); omega), List.forall_mem_cons.mpr ⟨hd_p1 b4 rfl (by have hc : ((400) : Int32).toInt = 400 := (by decide); omega), fun _ h => absurd h List.not_mem_nil⟩⟩⟩⟩⟩⟩⟩⟩⟩⟩⟩⟩⟩, ?_⟩
  show Q (some (sy_dv F' (.inr (.inl 72)))) _
  rw [t72]
  exact hk
theorem bo_0_p11 {Ls : Nat} {xs : Nat → Int32} {d : Nat} {Q : Option Value → jm_h → Prop} (hd : 3 ≤ d) (F : Nat → sy_d) (X1 X2 : List jm_c) (hB : iv_in F iv_B4)
    (h0 : (sy_i F 6).toInt ≤ 0)
    (h1 : (sy_i F 6).toInt = 0)
    (h2 : 0 ≤ (sy_i F 4).toInt ∧ (sy_i F 4).toInt < 403)
    (h3 : ((sy_ai F 25).getD (sy_i F 4).toNatClampNeg 0).toInt = 2)
    (h4 : 0 ≤ (sy_i F 4).toInt ∧ (sy_i F 4).toInt < 403)
    (h5 : ((sy_ai F 27).getD (sy_i F 4).toNatClampNeg 0).toInt < (sy_i F 69).toInt)
    (h6 : 0 ≤ (sy_i F 4).toInt ∧ (sy_i F 4).toInt < 403)
    (h7 : (sy_i F 6).toInt ≤ 0)
    (h8 : (sy_i F 8).toInt ≠ 0)
    (h9 : ((sy_ai F 26).getD (sy_i F 4).toNatClampNeg 0).toInt ≤ (sy_i F 9).toInt)
    (h10 : ((sy_ai F 26).getD (sy_i F 4).toNatClampNeg 0).toInt = (sy_i F 9).toInt)
    (h11 : (sy_i F 8).toInt ≤ 5)
    (h12 : (sy_i F 4).toInt = 400)
    (h13 : (sy_i F 6).toInt ≤ 0)
    (h14 : 0 ≤ (sy_i F 4).toInt ∧ (sy_i F 4).toInt < 403)
    (k : ∀ F1 : Nat → sy_d, (∀ j, j < 69 → j ≠ 6 ∧ j ≠ 7 → F1 j = F j) → F1 6 = .inl (.int ((2 : Int32))) → F1 7 = .inl (.int ((sy_ai F 26).getD (sy_i F 4).toNatClampNeg 0)) → Q (some (.int ((sy_ai F 27).getD (sy_i F 4).toNatClampNeg 0))) (sy_dh F1 X1 X2 (iv_H 4))) :
    hd_W Ls xs d jm_M157 Q (0, sy_dL F [some (.inl (.ref 1000)), some (.inr (.inl 69)), some (.inr (.inl 70)), none], sy_dS F [], sy_dh F X1 X2 (iv_H 4), 0, 0) := by
  refine hd_ret (s := 4) (nv := 71) (v := some (.inr (.inl 72))) (uh := hd_ov (iv_id 0 iv_B4) [(6, .inl (.inl (.int 2))), (7, .inl (.inr (.inl 74)))]) (f := true) (sp := []) (d0 := 2) (O := [false, false, false, true, false, false, false, false, false, false, true]) (T := [(30, [.inr (.inl 4)], [.inr (.inl 25)]), (30, [.inr (.inl 4)], [.inr (.inl 27)]), (30, [.inr (.inl 4)], [.inr (.inl 26)]), (30, [.inr (.inl 4)], [.inr (.inl 26)])]) (P := [(3, .inl (.int 0), .inr (.inl 6)), (0, .inr (.inl 6), .inl (.int 0)), (6, .inr (.inl 4), .inl (.ref 403)), (0, .inr (.inl 71), .inl (.int 2)), (6, .inr (.inl 4), .inl (.ref 403)), (2, .inr (.inl 72), .inr (.inl 69)), (6, .inr (.inl 4), .inl (.ref 403)), (3, .inl (.int 0), .inr (.inl 6)), (1, .inr (.inl 8), .inl (.int 0)), (3, .inr (.inl 9), .inr (.inl 73)), (0, .inr (.inl 73), .inr (.inl 9)), (3, .inl (.int 5), .inr (.inl 8)), (0, .inr (.inl 4), .inl (.int 400)), (4, .inr (.inl 6), .inl (.int 0)), (6, .inr (.inl 4), .inl (.ref 403))]) jm_ok157 (by decide +kernel) (by decide +kernel) hd F X1 X2 (fun F' hF hs => ?_)
  have b6 := hd_b (F := F) (F' := F') (k := 6) (hF 6 (by decide))
  have b4 := hd_b (F := F) (F' := F') (k := 4) (hF 4 (by decide))
  have a25 := hd_ba (F := F) (F' := F') (k := 25) (hF 25 (by decide))
  have t71 : sy_dv F' (.inr (.inl 71)) = .int ((sy_ai F 25).getD (sy_i F 4).toNatClampNeg 0) := hd_rd (hs 0 _ rfl) b4 a25
  have a27 := hd_ba (F := F) (F' := F') (k := 27) (hF 27 (by decide))
  have t72 : sy_dv F' (.inr (.inl 72)) = .int ((sy_ai F 27).getD (sy_i F 4).toNatClampNeg 0) := hd_rd (hs 1 _ rfl) b4 a27
  have b69 := hd_b (F := F) (F' := F') (k := 69) (hF 69 (by decide))
  have b8 := hd_b (F := F) (F' := F') (k := 8) (hF 8 (by decide))
  have b9 := hd_b (F := F) (F' := F') (k := 9) (hF 9 (by decide))
  have a26 := hd_ba (F := F) (F' := F') (k := 26) (hF 26 (by decide))
  have t73 : sy_dv F' (.inr (.inl 73)) = .int ((sy_ai F 26).getD (sy_i F 4).toNatClampNeg 0) := hd_rd (hs 2 _ rfl) b4 a26
  have t74 : sy_dv F' (.inr (.inl 74)) = .int ((sy_ai F 26).getD (sy_i F 4).toNatClampNeg 0) := hd_rd (hs 3 _ rfl) b4 a26
  have hB' : iv_in F' iv_B4 := iv_in_eq hB (fun j hj => hF j (Nat.lt_of_lt_of_le hj (by decide +kernel)))
  have hk := k (sy_cm F' (hd_ov (iv_id 0 iv_B4) [(6, .inl (.inl (.int 2))), (7, .inl (.inr (.inl 74)))] ++ [])) (fun j hj hn => (hd_keep hB' (Nat.lt_of_lt_of_le hj (by decide +kernel)) (by simp; omega)).trans (hF j (Nat.lt_of_lt_of_le hj (by decide)))) (hd_gi (x := .inl (.int 2)) (by decide +kernel) rfl) (hd_gi (x := .inr (.inl 74)) (by decide +kernel) t74)
  refine ⟨List.forall_mem_cons.mpr ⟨hd_p3 rfl b6 (by have hc : ((0) : Int32).toInt = 0 := (by decide); omega), List.forall_mem_cons.mpr ⟨hd_p0 b6 rfl (by have hc : ((0) : Int32).toInt = 0 := (by decide); omega), List.forall_mem_cons.mpr ⟨hd_pb b4 (by first | exact h2 | exact h2), List.forall_mem_cons.mpr ⟨hd_p0 t71 rfl (by have hc : ((2) : Int32).toInt = 2 := (by decide); omega), List.forall_mem_cons.mpr ⟨hd_pb b4 (by first | exact h4 | exact h4), List.forall_mem_cons.mpr ⟨hd_p2 t72 b69 h5, List.forall_mem_cons.mpr ⟨hd_pb b4 (by first | exact h6 | exact h6), List.forall_mem_cons.mpr ⟨hd_p3 rfl b6 (by have hc : ((0) : Int32).toInt = 0 := (by decide); omega), List.forall_mem_cons.mpr ⟨hd_p1 b8 rfl (by have hc : ((0) : Int32).toInt = 0 := (by decide); omega), List.forall_mem_cons.mpr ⟨hd_p3 b9 t73 h9, List.forall_mem_cons.mpr ⟨hd_p0 t73 b9 h10, List.forall_mem_cons.mpr ⟨hd_p3 rfl b8 (by have hc : ((5) : Int32).toInt = 5 := (by decide); omega), List.forall_mem_cons.mpr ⟨hd_p0 b4 rfl (by have hc : ((400) : Int32).toInt = 400 := (by decide); omega), List.forall_mem_cons.mpr ⟨hd_p4 b6 rfl (by have hc : ((0) : Int32).toInt = 0 := (by decide); omega), List.forall_mem_cons.mpr ⟨hd_pb b4 (by first | exact h14 | exact h14), fun _ h => absurd h List.not_mem_nil⟩⟩⟩⟩⟩⟩⟩⟩⟩⟩⟩⟩⟩⟩⟩, ?_⟩
  show Q (some (sy_dv F' (.inr (.inl 72)))) _
  rw [t72]
  exact hk
theorem bo_0_p12 {Ls : Nat} {xs : Nat → Int32} {d : Nat} {Q : Option Value → jm_h → Prop} (hd : 3 ≤ d) (F : Nat → sy_d) (X1 X2 : List jm_c) (hB : iv_in F iv_B4)
    (h0 : (sy_i F 6).toInt ≤ 0)
    (h1 : (sy_i F 6).toInt = 0)
    (h2 : 0 ≤ (sy_i F 4).toInt ∧ (sy_i F 4).toInt < 403)
    (h3 : ((sy_ai F 25).getD (sy_i F 4).toNatClampNeg 0).toInt = 2)
    (h4 : 0 ≤ (sy_i F 4).toInt ∧ (sy_i F 4).toInt < 403)
    (h5 : (sy_i F 69).toInt ≤ ((sy_ai F 27).getD (sy_i F 4).toNatClampNeg 0).toInt)
    (h6 : ((sy_ai F 27).getD (sy_i F 4).toNatClampNeg 0).toInt ≤ (sy_i F 70).toInt)
    (h7 : (sy_i F 4).toInt ≠ 400)
    (k : ∀ F1 : Nat → sy_d, (∀ j, j < 69 → j ≠ 4 → F1 j = F j) → F1 4 = .inl (.int ((sy_i F 4) + ((1 : Int32)))) → Q (some (.int ((sy_ai F 27).getD (sy_i F 4).toNatClampNeg 0))) (sy_dh F1 X1 X2 (iv_H 4))) :
    hd_W Ls xs d jm_M157 Q (0, sy_dL F [some (.inl (.ref 1000)), some (.inr (.inl 69)), some (.inr (.inl 70)), none], sy_dS F [], sy_dh F X1 X2 (iv_H 4), 0, 0) := by
  refine hd_ret (s := 4) (nv := 71) (v := some (.inr (.inl 72))) (uh := hd_ov (iv_id 0 iv_B4) [(4, .inl (.inr (.inl 73)))]) (f := true) (sp := []) (d0 := 2) (O := [false, false, false, false, true, true]) (T := [(30, [.inr (.inl 4)], [.inr (.inl 25)]), (30, [.inr (.inl 4)], [.inr (.inl 27)]), (0, [.inr (.inl 4), .inl (.int 1)], [])]) (P := [(3, .inl (.int 0), .inr (.inl 6)), (0, .inr (.inl 6), .inl (.int 0)), (6, .inr (.inl 4), .inl (.ref 403)), (0, .inr (.inl 71), .inl (.int 2)), (6, .inr (.inl 4), .inl (.ref 403)), (3, .inr (.inl 72), .inr (.inl 69)), (4, .inr (.inl 72), .inr (.inl 70)), (1, .inr (.inl 4), .inl (.int 400))]) jm_ok157 (by decide +kernel) (by decide +kernel) hd F X1 X2 (fun F' hF hs => ?_)
  have b6 := hd_b (F := F) (F' := F') (k := 6) (hF 6 (by decide))
  have b4 := hd_b (F := F) (F' := F') (k := 4) (hF 4 (by decide))
  have a25 := hd_ba (F := F) (F' := F') (k := 25) (hF 25 (by decide))
  have t71 : sy_dv F' (.inr (.inl 71)) = .int ((sy_ai F 25).getD (sy_i F 4).toNatClampNeg 0) := hd_rd (hs 0 _ rfl) b4 a25
  have a27 := hd_ba (F := F) (F' := F') (k := 27) (hF 27 (by decide))
  have t72 : sy_dv F' (.inr (.inl 72)) = .int ((sy_ai F 27).getD (sy_i F 4).toNatClampNeg 0) := hd_rd (hs 1 _ rfl) b4 a27
  have b69 := hd_b (F := F) (F' := F') (k := 69) (hF 69 (by decide))
  have b70 := hd_b (F := F) (F' := F') (k := 70) (hF 70 (by decide))
  have t73 : sy_dv F' (.inr (.inl 73)) = .int ((sy_i F 4) + ((1 : Int32))) := hd_o (hs 2 _ rfl) b4 rfl rfl
  have hB' : iv_in F' iv_B4 := iv_in_eq hB (fun j hj => hF j (Nat.lt_of_lt_of_le hj (by decide +kernel)))
  have hk := k (sy_cm F' (hd_ov (iv_id 0 iv_B4) [(4, .inl (.inr (.inl 73)))] ++ [])) (fun j hj hn => (hd_keep hB' (Nat.lt_of_lt_of_le hj (by decide +kernel)) (by simp; omega)).trans (hF j (Nat.lt_of_lt_of_le hj (by decide)))) (hd_gi (x := .inr (.inl 73)) (by decide +kernel) t73)
  refine ⟨List.forall_mem_cons.mpr ⟨hd_p3 rfl b6 (by have hc : ((0) : Int32).toInt = 0 := (by decide); omega), List.forall_mem_cons.mpr ⟨hd_p0 b6 rfl (by have hc : ((0) : Int32).toInt = 0 := (by decide); omega), List.forall_mem_cons.mpr ⟨hd_pb b4 (by first | exact h2 | exact h2), List.forall_mem_cons.mpr ⟨hd_p0 t71 rfl (by have hc : ((2) : Int32).toInt = 2 := (by decide); omega), List.forall_mem_cons.mpr ⟨hd_pb b4 (by first | exact h4 | exact h4), List.forall_mem_cons.mpr ⟨hd_p3 t72 b69 h5, List.forall_mem_cons.mpr ⟨hd_p4 t72 b70 h6, List.forall_mem_cons.mpr ⟨hd_p1 b4 rfl (by have hc : ((400) : Int32).toInt = 400 := (by decide); omega), fun _ h => absurd h List.not_mem_nil⟩⟩⟩⟩⟩⟩⟩⟩, ?_⟩
  show Q (some (sy_dv F' (.inr (.inl 72)))) _
  rw [t72]
  exact hk
theorem bo_0_p13 {Ls : Nat} {xs : Nat → Int32} {d : Nat} {Q : Option Value → jm_h → Prop} (hd : 3 ≤ d) (F : Nat → sy_d) (X1 X2 : List jm_c) (hB : iv_in F iv_B4)
    (h0 : (sy_i F 6).toInt ≤ 0)
    (h1 : (sy_i F 6).toInt = 0)
    (h2 : 0 ≤ (sy_i F 4).toInt ∧ (sy_i F 4).toInt < 403)
    (h3 : ((sy_ai F 25).getD (sy_i F 4).toNatClampNeg 0).toInt = 2)
    (h4 : 0 ≤ (sy_i F 4).toInt ∧ (sy_i F 4).toInt < 403)
    (h5 : (sy_i F 69).toInt ≤ ((sy_ai F 27).getD (sy_i F 4).toNatClampNeg 0).toInt)
    (h6 : ((sy_ai F 27).getD (sy_i F 4).toNatClampNeg 0).toInt ≤ (sy_i F 70).toInt)
    (h7 : (sy_i F 4).toInt = 400)
    (h8 : (sy_i F 6).toInt ≤ 0)
    (h9 : 0 ≤ (sy_i F 4).toInt ∧ (sy_i F 4).toInt < 403)
    (k : ∀ F1 : Nat → sy_d, (∀ j, j < 69 → j ≠ 6 ∧ j ≠ 7 → F1 j = F j) → F1 6 = .inl (.int ((2 : Int32))) → F1 7 = .inl (.int ((sy_ai F 26).getD (sy_i F 4).toNatClampNeg 0)) → Q (some (.int ((sy_ai F 27).getD (sy_i F 4).toNatClampNeg 0))) (sy_dh F1 X1 X2 (iv_H 4))) :
    hd_W Ls xs d jm_M157 Q (0, sy_dL F [some (.inl (.ref 1000)), some (.inr (.inl 69)), some (.inr (.inl 70)), none], sy_dS F [], sy_dh F X1 X2 (iv_H 4), 0, 0) := by
  refine hd_ret (s := 4) (nv := 71) (v := some (.inr (.inl 72))) (uh := hd_ov (iv_id 0 iv_B4) [(6, .inl (.inl (.int 2))), (7, .inl (.inr (.inl 73)))]) (f := true) (sp := []) (d0 := 2) (O := [false, false, false, false, true, false, true]) (T := [(30, [.inr (.inl 4)], [.inr (.inl 25)]), (30, [.inr (.inl 4)], [.inr (.inl 27)]), (30, [.inr (.inl 4)], [.inr (.inl 26)])]) (P := [(3, .inl (.int 0), .inr (.inl 6)), (0, .inr (.inl 6), .inl (.int 0)), (6, .inr (.inl 4), .inl (.ref 403)), (0, .inr (.inl 71), .inl (.int 2)), (6, .inr (.inl 4), .inl (.ref 403)), (3, .inr (.inl 72), .inr (.inl 69)), (4, .inr (.inl 72), .inr (.inl 70)), (0, .inr (.inl 4), .inl (.int 400)), (4, .inr (.inl 6), .inl (.int 0)), (6, .inr (.inl 4), .inl (.ref 403))]) jm_ok157 (by decide +kernel) (by decide +kernel) hd F X1 X2 (fun F' hF hs => ?_)
  have b6 := hd_b (F := F) (F' := F') (k := 6) (hF 6 (by decide))
  have b4 := hd_b (F := F) (F' := F') (k := 4) (hF 4 (by decide))
  have a25 := hd_ba (F := F) (F' := F') (k := 25) (hF 25 (by decide))
  have t71 : sy_dv F' (.inr (.inl 71)) = .int ((sy_ai F 25).getD (sy_i F 4).toNatClampNeg 0) := hd_rd (hs 0 _ rfl) b4 a25
  have a27 := hd_ba (F := F) (F' := F') (k := 27) (hF 27 (by decide))
  have t72 : sy_dv F' (.inr (.inl 72)) = .int ((sy_ai F 27).getD (sy_i F 4).toNatClampNeg 0) := hd_rd (hs 1 _ rfl) b4 a27
  have b69 := hd_b (F := F) (F' := F') (k := 69) (hF 69 (by decide))
  have b70 := hd_b (F := F) (F' := F') (k := 70) (hF 70 (by decide))
  have a26 := hd_ba (F := F) (F' := F') (k := 26) (hF 26 (by decide))
  have t73 : sy_dv F' (.inr (.inl 73)) = .int ((sy_ai F 26).getD (sy_i F 4).toNatClampNeg 0) := hd_rd (hs 2 _ rfl) b4 a26
  have hB' : iv_in F' iv_B4 := iv_in_eq hB (fun j hj => hF j (Nat.lt_of_lt_of_le hj (by decide +kernel)))
  have hk := k (sy_cm F' (hd_ov (iv_id 0 iv_B4) [(6, .inl (.inl (.int 2))), (7, .inl (.inr (.inl 73)))] ++ [])) (fun j hj hn => (hd_keep hB' (Nat.lt_of_lt_of_le hj (by decide +kernel)) (by simp; omega)).trans (hF j (Nat.lt_of_lt_of_le hj (by decide)))) (hd_gi (x := .inl (.int 2)) (by decide +kernel) rfl) (hd_gi (x := .inr (.inl 73)) (by decide +kernel) t73)
  refine ⟨List.forall_mem_cons.mpr ⟨hd_p3 rfl b6 (by have hc : ((0) : Int32).toInt = 0 := (by decide); omega), List.forall_mem_cons.mpr ⟨hd_p0 b6 rfl (by have hc : ((0) : Int32).toInt = 0 := (by decide); omega), List.forall_mem_cons.mpr ⟨hd_pb b4 (by first | exact h2 | exact h2), List.forall_mem_cons.mpr ⟨hd_p0 t71 rfl (by have hc : ((2) : Int32).toInt = 2 := (by decide); omega), List.forall_mem_cons.mpr ⟨hd_pb b4 (by first | exact h4 | exact h4), List.forall_mem_cons.mpr ⟨hd_p3 t72 b69 h5, List.forall_mem_cons.mpr ⟨hd_p4 t72 b70 h6, List.forall_mem_cons.mpr ⟨hd_p0 b4 rfl (by have hc : ((400) : Int32).toInt = 400 := (by decide); omega), List.forall_mem_cons.mpr ⟨hd_p4 b6 rfl (by have hc : ((0) : Int32).toInt = 0 := (by decide); omega), List.forall_mem_cons.mpr ⟨hd_pb b4 (by first | exact h9 | exact h9), fun _ h => absurd h List.not_mem_nil⟩⟩⟩⟩⟩⟩⟩⟩⟩⟩, ?_⟩
  show Q (some (sy_dv F' (.inr (.inl 72)))) _
  rw [t72]
  exact hk
theorem bo_0_p14 {Ls : Nat} {xs : Nat → Int32} {d : Nat} {Q : Option Value → jm_h → Prop} (hd : 3 ≤ d) (F : Nat → sy_d) (X1 X2 : List jm_c) (hB : iv_in F iv_B4)
    (h0 : (sy_i F 6).toInt ≤ 0)
    (h1 : (sy_i F 6).toInt = 0)
    (h2 : 0 ≤ (sy_i F 4).toInt ∧ (sy_i F 4).toInt < 403)
    (h3 : ((sy_ai F 25).getD (sy_i F 4).toNatClampNeg 0).toInt = 2)
    (h4 : 0 ≤ (sy_i F 4).toInt ∧ (sy_i F 4).toInt < 403)
    (h5 : (sy_i F 69).toInt ≤ ((sy_ai F 27).getD (sy_i F 4).toNatClampNeg 0).toInt)
    (h6 : (sy_i F 70).toInt < ((sy_ai F 27).getD (sy_i F 4).toNatClampNeg 0).toInt)
    (h7 : 0 ≤ (sy_i F 4).toInt ∧ (sy_i F 4).toInt < 403)
    (h8 : (sy_i F 6).toInt ≤ 0)
    (h9 : (sy_i F 8).toInt = 0)
    (h10 : (sy_i F 4).toInt ≠ 400)
    (k : ∀ F1 : Nat → sy_d, (∀ j, j < 69 → j ≠ 4 ∧ j ≠ 8 ∧ j ≠ 9 → F1 j = F j) → F1 4 = .inl (.int ((sy_i F 4) + ((1 : Int32)))) → F1 8 = .inl (.int ((5 : Int32))) → F1 9 = .inl (.int ((sy_ai F 26).getD (sy_i F 4).toNatClampNeg 0)) → Q (some (.int ((sy_ai F 27).getD (sy_i F 4).toNatClampNeg 0))) (sy_dh F1 X1 X2 (iv_H 4))) :
    hd_W Ls xs d jm_M157 Q (0, sy_dL F [some (.inl (.ref 1000)), some (.inr (.inl 69)), some (.inr (.inl 70)), none], sy_dS F [], sy_dh F X1 X2 (iv_H 4), 0, 0) := by
  refine hd_ret (s := 4) (nv := 71) (v := some (.inr (.inl 72))) (uh := hd_ov (iv_id 0 iv_B4) [(4, .inl (.inr (.inl 74))), (8, .inl (.inl (.int 5))), (9, .inl (.inr (.inl 73)))]) (f := true) (sp := []) (d0 := 2) (O := [false, false, false, false, false, false, true, true]) (T := [(30, [.inr (.inl 4)], [.inr (.inl 25)]), (30, [.inr (.inl 4)], [.inr (.inl 27)]), (30, [.inr (.inl 4)], [.inr (.inl 26)]), (0, [.inr (.inl 4), .inl (.int 1)], [])]) (P := [(3, .inl (.int 0), .inr (.inl 6)), (0, .inr (.inl 6), .inl (.int 0)), (6, .inr (.inl 4), .inl (.ref 403)), (0, .inr (.inl 71), .inl (.int 2)), (6, .inr (.inl 4), .inl (.ref 403)), (3, .inr (.inl 72), .inr (.inl 69)), (5, .inr (.inl 72), .inr (.inl 70)), (6, .inr (.inl 4), .inl (.ref 403)), (3, .inl (.int 0), .inr (.inl 6)), (0, .inr (.inl 8), .inl (.int 0)), (1, .inr (.inl 4), .inl (.int 400))]) jm_ok157 (by decide +kernel) (by decide +kernel) hd F X1 X2 (fun F' hF hs => ?_)
  have b6 := hd_b (F := F) (F' := F') (k := 6) (hF 6 (by decide))
  have b4 := hd_b (F := F) (F' := F') (k := 4) (hF 4 (by decide))
  have a25 := hd_ba (F := F) (F' := F') (k := 25) (hF 25 (by decide))
  have t71 : sy_dv F' (.inr (.inl 71)) = .int ((sy_ai F 25).getD (sy_i F 4).toNatClampNeg 0) := hd_rd (hs 0 _ rfl) b4 a25
  have a27 := hd_ba (F := F) (F' := F') (k := 27) (hF 27 (by decide))
  have t72 : sy_dv F' (.inr (.inl 72)) = .int ((sy_ai F 27).getD (sy_i F 4).toNatClampNeg 0) := hd_rd (hs 1 _ rfl) b4 a27
  have b69 := hd_b (F := F) (F' := F') (k := 69) (hF 69 (by decide))
  have b70 := hd_b (F := F) (F' := F') (k := 70) (hF 70 (by decide))
  have b8 := hd_b (F := F) (F' := F') (k := 8) (hF 8 (by decide))
  have t74 : sy_dv F' (.inr (.inl 74)) = .int ((sy_i F 4) + ((1 : Int32))) := hd_o (hs 3 _ rfl) b4 rfl rfl
  have a26 := hd_ba (F := F) (F' := F') (k := 26) (hF 26 (by decide))
  have t73 : sy_dv F' (.inr (.inl 73)) = .int ((sy_ai F 26).getD (sy_i F 4).toNatClampNeg 0) := hd_rd (hs 2 _ rfl) b4 a26
  have hB' : iv_in F' iv_B4 := iv_in_eq hB (fun j hj => hF j (Nat.lt_of_lt_of_le hj (by decide +kernel)))
  have hk := k (sy_cm F' (hd_ov (iv_id 0 iv_B4) [(4, .inl (.inr (.inl 74))), (8, .inl (.inl (.int 5))), (9, .inl (.inr (.inl 73)))] ++ [])) (fun j hj hn => (hd_keep hB' (Nat.lt_of_lt_of_le hj (by decide +kernel)) (by simp; omega)).trans (hF j (Nat.lt_of_lt_of_le hj (by decide)))) (hd_gi (x := .inr (.inl 74)) (by decide +kernel) t74) (hd_gi (x := .inl (.int 5)) (by decide +kernel) rfl) (hd_gi (x := .inr (.inl 73)) (by decide +kernel) t73)
  refine ⟨List.forall_mem_cons.mpr ⟨hd_p3 rfl b6 (by have hc : ((0) : Int32).toInt = 0 := (by decide); omega), List.forall_mem_cons.mpr ⟨hd_p0 b6 rfl (by have hc : ((0) : Int32).toInt = 0 := (by decide); omega), List.forall_mem_cons.mpr ⟨hd_pb b4 (by first | exact h2 | exact h2), List.forall_mem_cons.mpr ⟨hd_p0 t71 rfl (by have hc : ((2) : Int32).toInt = 2 := (by decide); omega), List.forall_mem_cons.mpr ⟨hd_pb b4 (by first | exact h4 | exact h4), List.forall_mem_cons.mpr ⟨hd_p3 t72 b69 h5, List.forall_mem_cons.mpr ⟨hd_p5 t72 b70 h6, List.forall_mem_cons.mpr ⟨hd_pb b4 (by first | exact h7 | exact h7), List.forall_mem_cons.mpr ⟨hd_p3 rfl b6 (by have hc : ((0) : Int32).toInt = 0 := (by decide); omega), List.forall_mem_cons.mpr ⟨hd_p0 b8 rfl (by have hc : ((0) : Int32).toInt = 0 := (by decide); omega), List.forall_mem_cons.mpr ⟨hd_p1 b4 rfl (by have hc : ((400) : Int32).toInt = 400 := (by decide); omega), fun _ h => absurd h List.not_mem_nil⟩⟩⟩⟩⟩⟩⟩⟩⟩⟩⟩, ?_⟩
  show Q (some (sy_dv F' (.inr (.inl 72)))) _
  rw [t72]
  exact hk
theorem bo_0_p15 {Ls : Nat} {xs : Nat → Int32} {d : Nat} {Q : Option Value → jm_h → Prop} (hd : 3 ≤ d) (F : Nat → sy_d) (X1 X2 : List jm_c) (hB : iv_in F iv_B4)
    (h0 : (sy_i F 6).toInt ≤ 0)
    (h1 : (sy_i F 6).toInt = 0)
    (h2 : 0 ≤ (sy_i F 4).toInt ∧ (sy_i F 4).toInt < 403)
    (h3 : ((sy_ai F 25).getD (sy_i F 4).toNatClampNeg 0).toInt = 2)
    (h4 : 0 ≤ (sy_i F 4).toInt ∧ (sy_i F 4).toInt < 403)
    (h5 : (sy_i F 69).toInt ≤ ((sy_ai F 27).getD (sy_i F 4).toNatClampNeg 0).toInt)
    (h6 : (sy_i F 70).toInt < ((sy_ai F 27).getD (sy_i F 4).toNatClampNeg 0).toInt)
    (h7 : 0 ≤ (sy_i F 4).toInt ∧ (sy_i F 4).toInt < 403)
    (h8 : (sy_i F 6).toInt ≤ 0)
    (h9 : (sy_i F 8).toInt = 0)
    (h10 : (sy_i F 4).toInt = 400)
    (h11 : (sy_i F 6).toInt ≤ 0)
    (h12 : 0 ≤ (sy_i F 4).toInt ∧ (sy_i F 4).toInt < 403)
    (k : ∀ F1 : Nat → sy_d, (∀ j, j < 69 → j ≠ 6 ∧ j ≠ 7 ∧ j ≠ 8 ∧ j ≠ 9 → F1 j = F j) → F1 6 = .inl (.int ((2 : Int32))) → F1 7 = .inl (.int ((sy_ai F 26).getD (sy_i F 4).toNatClampNeg 0)) → F1 8 = .inl (.int ((5 : Int32))) → F1 9 = .inl (.int ((sy_ai F 26).getD (sy_i F 4).toNatClampNeg 0)) → Q (some (.int ((sy_ai F 27).getD (sy_i F 4).toNatClampNeg 0))) (sy_dh F1 X1 X2 (iv_H 4))) :
    hd_W Ls xs d jm_M157 Q (0, sy_dL F [some (.inl (.ref 1000)), some (.inr (.inl 69)), some (.inr (.inl 70)), none], sy_dS F [], sy_dh F X1 X2 (iv_H 4), 0, 0) := by
  refine hd_ret (s := 4) (nv := 71) (v := some (.inr (.inl 72))) (uh := hd_ov (iv_id 0 iv_B4) [(6, .inl (.inl (.int 2))), (7, .inl (.inr (.inl 74))), (8, .inl (.inl (.int 5))), (9, .inl (.inr (.inl 73)))]) (f := true) (sp := []) (d0 := 2) (O := [false, false, false, false, false, false, true, false, true]) (T := [(30, [.inr (.inl 4)], [.inr (.inl 25)]), (30, [.inr (.inl 4)], [.inr (.inl 27)]), (30, [.inr (.inl 4)], [.inr (.inl 26)]), (30, [.inr (.inl 4)], [.inr (.inl 26)])]) (P := [(3, .inl (.int 0), .inr (.inl 6)), (0, .inr (.inl 6), .inl (.int 0)), (6, .inr (.inl 4), .inl (.ref 403)), (0, .inr (.inl 71), .inl (.int 2)), (6, .inr (.inl 4), .inl (.ref 403)), (3, .inr (.inl 72), .inr (.inl 69)), (5, .inr (.inl 72), .inr (.inl 70)), (6, .inr (.inl 4), .inl (.ref 403)), (3, .inl (.int 0), .inr (.inl 6)), (0, .inr (.inl 8), .inl (.int 0)), (0, .inr (.inl 4), .inl (.int 400)), (4, .inr (.inl 6), .inl (.int 0)), (6, .inr (.inl 4), .inl (.ref 403))]) jm_ok157 (by decide +kernel) (by decide +kernel) hd F X1 X2 (fun F' hF hs => ?_)
  have b6 := hd_b (F := F) (F' := F') (k := 6) (hF 6 (by decide))
  have b4 := hd_b (F := F) (F' := F') (k := 4) (hF 4 (by decide))
  have a25 := hd_ba (F := F) (F' := F') (k := 25) (hF 25 (by decide))
  have t71 : sy_dv F' (.inr (.inl 71)) = .int ((sy_ai F 25).getD (sy_i F 4).toNatClampNeg 0) := hd_rd (hs 0 _ rfl) b4 a25
  have a27 := hd_ba (F := F) (F' := F') (k := 27) (hF 27 (by decide))
  have t72 : sy_dv F' (.inr (.inl 72)) = .int ((sy_ai F 27).getD (sy_i F 4).toNatClampNeg 0) := hd_rd (hs 1 _ rfl) b4 a27
  have b69 := hd_b (F := F) (F' := F') (k := 69) (hF 69 (by decide))
  have b70 := hd_b (F := F) (F' := F') (k := 70) (hF 70 (by decide))
  have b8 := hd_b (F := F) (F' := F') (k := 8) (hF 8 (by decide))
  have a26 := hd_ba (F := F) (F' := F') (k := 26) (hF 26 (by decide))
  have t74 : sy_dv F' (.inr (.inl 74)) = .int ((sy_ai F 26).getD (sy_i F 4).toNatClampNeg 0) := hd_rd (hs 3 _ rfl) b4 a26
  have t73 : sy_dv F' (.inr (.inl 73)) = .int ((sy_ai F 26).getD (sy_i F 4).toNatClampNeg 0) := hd_rd (hs 2 _ rfl) b4 a26
  have hB' : iv_in F' iv_B4 := iv_in_eq hB (fun j hj => hF j (Nat.lt_of_lt_of_le hj (by decide +kernel)))
  have hk := k (sy_cm F' (hd_ov (iv_id 0 iv_B4) [(6, .inl (.inl (.int 2))), (7, .inl (.inr (.inl 74))), (8, .inl (.inl (.int 5))), (9, .inl (.inr (.inl 73)))] ++ [])) (fun j hj hn => (hd_keep hB' (Nat.lt_of_lt_of_le hj (by decide +kernel)) (by simp; omega)).trans (hF j (Nat.lt_of_lt_of_le hj (by decide)))) (hd_gi (x := .inl (.int 2)) (by decide +kernel) rfl) (hd_gi (x := .inr (.inl 74)) (by decide +kernel) t74) (hd_gi (x := .inl (.int 5)) (by decide +kernel) rfl) (hd_gi (x := .inr (.inl 73)) (by decide +kernel) t73)
  refine ⟨List.forall_mem_cons.mpr ⟨hd_p3 rfl b6 (by have hc : ((0) : Int32).toInt = 0 := (by decide); omega), List.forall_mem_cons.mpr ⟨hd_p0 b6 rfl (by have hc : ((0) : Int32).toInt = 0 := (by decide); omega), List.forall_mem_cons.mpr ⟨hd_pb b4 (by first | exact h2 | exact h2), List.forall_mem_cons.mpr ⟨hd_p0 t71 rfl (by have hc : ((2) : Int32).toInt = 2 := (by decide); omega), List.forall_mem_cons.mpr ⟨hd_pb b4 (by first | exact h4 | exact h4), List.forall_mem_cons.mpr ⟨hd_p3 t72 b69 h5, List.forall_mem_cons.mpr ⟨hd_p5 t72 b70 h6, List.forall_mem_cons.mpr ⟨hd_pb b4 (by first | exact h7 | exact h7), List.forall_mem_cons.mpr ⟨hd_p3 rfl b6 (by have hc : ((0) : Int32).toInt = 0 := (by decide); omega), List.forall_mem_cons.mpr ⟨hd_p0 b8 rfl (by have hc : ((0) : Int32).toInt = 0 := (by decide); omega), List.forall_mem_cons.mpr ⟨hd_p0 b4 rfl (by have hc : ((400) : Int32).toInt = 400 := (by decide); omega), List.forall_mem_cons.mpr ⟨hd_p4 b6 rfl (by have hc : ((0) : Int32).toInt = 0 := (by decide); omega), List.forall_mem_cons.mpr ⟨hd_pb b4 (by first | exact h12 | exact h12), fun _ h => absurd h List.not_mem_nil⟩⟩⟩⟩⟩⟩⟩⟩⟩⟩⟩⟩⟩, ?_⟩
  show Q (some (sy_dv F' (.inr (.inl 72)))) _
  rw [t72]
  exact hk
theorem bo_0_p16 {Ls : Nat} {xs : Nat → Int32} {d : Nat} {Q : Option Value → jm_h → Prop} (hd : 3 ≤ d) (F : Nat → sy_d) (X1 X2 : List jm_c) (hB : iv_in F iv_B4)
    (h0 : (sy_i F 6).toInt ≤ 0)
    (h1 : (sy_i F 6).toInt = 0)
    (h2 : 0 ≤ (sy_i F 4).toInt ∧ (sy_i F 4).toInt < 403)
    (h3 : ((sy_ai F 25).getD (sy_i F 4).toNatClampNeg 0).toInt = 2)
    (h4 : 0 ≤ (sy_i F 4).toInt ∧ (sy_i F 4).toInt < 403)
    (h5 : (sy_i F 69).toInt ≤ ((sy_ai F 27).getD (sy_i F 4).toNatClampNeg 0).toInt)
    (h6 : (sy_i F 70).toInt < ((sy_ai F 27).getD (sy_i F 4).toNatClampNeg 0).toInt)
    (h7 : 0 ≤ (sy_i F 4).toInt ∧ (sy_i F 4).toInt < 403)
    (h8 : (sy_i F 6).toInt ≤ 0)
    (h9 : (sy_i F 8).toInt ≠ 0)
    (h10 : (sy_i F 9).toInt < ((sy_ai F 26).getD (sy_i F 4).toNatClampNeg 0).toInt)
    (h11 : (sy_i F 4).toInt ≠ 400)
    (k : ∀ F1 : Nat → sy_d, (∀ j, j < 69 → j ≠ 4 → F1 j = F j) → F1 4 = .inl (.int ((sy_i F 4) + ((1 : Int32)))) → Q (some (.int ((sy_ai F 27).getD (sy_i F 4).toNatClampNeg 0))) (sy_dh F1 X1 X2 (iv_H 4))) :
    hd_W Ls xs d jm_M157 Q (0, sy_dL F [some (.inl (.ref 1000)), some (.inr (.inl 69)), some (.inr (.inl 70)), none], sy_dS F [], sy_dh F X1 X2 (iv_H 4), 0, 0) := by
  refine hd_ret (s := 4) (nv := 71) (v := some (.inr (.inl 72))) (uh := hd_ov (iv_id 0 iv_B4) [(4, .inl (.inr (.inl 74)))]) (f := true) (sp := []) (d0 := 2) (O := [false, false, false, false, false, false, false, true, true]) (T := [(30, [.inr (.inl 4)], [.inr (.inl 25)]), (30, [.inr (.inl 4)], [.inr (.inl 27)]), (30, [.inr (.inl 4)], [.inr (.inl 26)]), (0, [.inr (.inl 4), .inl (.int 1)], [])]) (P := [(3, .inl (.int 0), .inr (.inl 6)), (0, .inr (.inl 6), .inl (.int 0)), (6, .inr (.inl 4), .inl (.ref 403)), (0, .inr (.inl 71), .inl (.int 2)), (6, .inr (.inl 4), .inl (.ref 403)), (3, .inr (.inl 72), .inr (.inl 69)), (5, .inr (.inl 72), .inr (.inl 70)), (6, .inr (.inl 4), .inl (.ref 403)), (3, .inl (.int 0), .inr (.inl 6)), (1, .inr (.inl 8), .inl (.int 0)), (2, .inr (.inl 9), .inr (.inl 73)), (1, .inr (.inl 4), .inl (.int 400))]) jm_ok157 (by decide +kernel) (by decide +kernel) hd F X1 X2 (fun F' hF hs => ?_)
  have b6 := hd_b (F := F) (F' := F') (k := 6) (hF 6 (by decide))
  have b4 := hd_b (F := F) (F' := F') (k := 4) (hF 4 (by decide))
  have a25 := hd_ba (F := F) (F' := F') (k := 25) (hF 25 (by decide))
  have t71 : sy_dv F' (.inr (.inl 71)) = .int ((sy_ai F 25).getD (sy_i F 4).toNatClampNeg 0) := hd_rd (hs 0 _ rfl) b4 a25
  have a27 := hd_ba (F := F) (F' := F') (k := 27) (hF 27 (by decide))
  have t72 : sy_dv F' (.inr (.inl 72)) = .int ((sy_ai F 27).getD (sy_i F 4).toNatClampNeg 0) := hd_rd (hs 1 _ rfl) b4 a27
  have b69 := hd_b (F := F) (F' := F') (k := 69) (hF 69 (by decide))
  have b70 := hd_b (F := F) (F' := F') (k := 70) (hF 70 (by decide))
  have b8 := hd_b (F := F) (F' := F') (k := 8) (hF 8 (by decide))
  have b9 := hd_b (F := F) (F' := F') (k := 9) (hF 9 (by decide))
  have a26 := hd_ba (F := F) (F' := F') (k := 26) (hF 26 (by decide))
  have t73 : sy_dv F' (.inr (.inl 73)) = .int ((sy_ai F 26).getD (sy_i F 4).toNatClampNeg 0) := hd_rd (hs 2 _ rfl) b4 a26
  have t74 : sy_dv F' (.inr (.inl 74)) = .int ((sy_i F 4) + ((1 : Int32))) := hd_o (hs 3 _ rfl) b4 rfl rfl
  have hB' : iv_in F' iv_B4 := iv_in_eq hB (fun j hj => hF j (Nat.lt_of_lt_of_le hj (by decide +kernel)))
  have hk := k (sy_cm F' (hd_ov (iv_id 0 iv_B4) [(4, .inl (.inr (.inl 74)))] ++ [])) (fun j hj hn => (hd_keep hB' (Nat.lt_of_lt_of_le hj (by decide +kernel)) (by simp; omega)).trans (hF j (Nat.lt_of_lt_of_le hj (by decide)))) (hd_gi (x := .inr (.inl 74)) (by decide +kernel) t74)
  refine ⟨List.forall_mem_cons.mpr ⟨hd_p3 rfl b6 (by have hc : ((0) : Int32).toInt = 0 := (by decide); omega), List.forall_mem_cons.mpr ⟨hd_p0 b6 rfl (by have hc : ((0) : Int32).toInt = 0 := (by decide); omega), List.forall_mem_cons.mpr ⟨hd_pb b4 (by first | exact h2 | exact h2), List.forall_mem_cons.mpr ⟨hd_p0 t71 rfl (by have hc : ((2) : Int32).toInt = 2 := (by decide); omega), List.forall_mem_cons.mpr ⟨hd_pb b4 (by first | exact h4 | exact h4), List.forall_mem_cons.mpr ⟨hd_p3 t72 b69 h5, List.forall_mem_cons.mpr ⟨hd_p5 t72 b70 h6, List.forall_mem_cons.mpr ⟨hd_pb b4 (by first | exact h7 | exact h7), List.forall_mem_cons.mpr ⟨hd_p3 rfl b6 (by have hc : ((0) : Int32).toInt = 0 := (by decide); omega), List.forall_mem_cons.mpr ⟨hd_p1 b8 rfl (by have hc : ((0) : Int32).toInt = 0 := (by decide); omega), List.forall_mem_cons.mpr ⟨hd_p2 b9 t73 h10, List.forall_mem_cons.mpr ⟨hd_p1 b4 rfl (by have hc : ((400) : Int32).toInt = 400 := (by decide); omega), fun _ h => absurd h List.not_mem_nil⟩⟩⟩⟩⟩⟩⟩⟩⟩⟩⟩⟩, ?_⟩
  show Q (some (sy_dv F' (.inr (.inl 72)))) _
  rw [t72]
  exact hk
theorem bo_0_p17 {Ls : Nat} {xs : Nat → Int32} {d : Nat} {Q : Option Value → jm_h → Prop} (hd : 3 ≤ d) (F : Nat → sy_d) (X1 X2 : List jm_c) (hB : iv_in F iv_B4)
    (h0 : (sy_i F 6).toInt ≤ 0)
    (h1 : (sy_i F 6).toInt = 0)
    (h2 : 0 ≤ (sy_i F 4).toInt ∧ (sy_i F 4).toInt < 403)
    (h3 : ((sy_ai F 25).getD (sy_i F 4).toNatClampNeg 0).toInt = 2)
    (h4 : 0 ≤ (sy_i F 4).toInt ∧ (sy_i F 4).toInt < 403)
    (h5 : (sy_i F 69).toInt ≤ ((sy_ai F 27).getD (sy_i F 4).toNatClampNeg 0).toInt)
    (h6 : (sy_i F 70).toInt < ((sy_ai F 27).getD (sy_i F 4).toNatClampNeg 0).toInt)
    (h7 : 0 ≤ (sy_i F 4).toInt ∧ (sy_i F 4).toInt < 403)
    (h8 : (sy_i F 6).toInt ≤ 0)
    (h9 : (sy_i F 8).toInt ≠ 0)
    (h10 : (sy_i F 9).toInt < ((sy_ai F 26).getD (sy_i F 4).toNatClampNeg 0).toInt)
    (h11 : (sy_i F 4).toInt = 400)
    (h12 : (sy_i F 6).toInt ≤ 0)
    (h13 : 0 ≤ (sy_i F 4).toInt ∧ (sy_i F 4).toInt < 403)
    (k : ∀ F1 : Nat → sy_d, (∀ j, j < 69 → j ≠ 6 ∧ j ≠ 7 → F1 j = F j) → F1 6 = .inl (.int ((2 : Int32))) → F1 7 = .inl (.int ((sy_ai F 26).getD (sy_i F 4).toNatClampNeg 0)) → Q (some (.int ((sy_ai F 27).getD (sy_i F 4).toNatClampNeg 0))) (sy_dh F1 X1 X2 (iv_H 4))) :
    hd_W Ls xs d jm_M157 Q (0, sy_dL F [some (.inl (.ref 1000)), some (.inr (.inl 69)), some (.inr (.inl 70)), none], sy_dS F [], sy_dh F X1 X2 (iv_H 4), 0, 0) := by
  refine hd_ret (s := 4) (nv := 71) (v := some (.inr (.inl 72))) (uh := hd_ov (iv_id 0 iv_B4) [(6, .inl (.inl (.int 2))), (7, .inl (.inr (.inl 74)))]) (f := true) (sp := []) (d0 := 2) (O := [false, false, false, false, false, false, false, true, false, true]) (T := [(30, [.inr (.inl 4)], [.inr (.inl 25)]), (30, [.inr (.inl 4)], [.inr (.inl 27)]), (30, [.inr (.inl 4)], [.inr (.inl 26)]), (30, [.inr (.inl 4)], [.inr (.inl 26)])]) (P := [(3, .inl (.int 0), .inr (.inl 6)), (0, .inr (.inl 6), .inl (.int 0)), (6, .inr (.inl 4), .inl (.ref 403)), (0, .inr (.inl 71), .inl (.int 2)), (6, .inr (.inl 4), .inl (.ref 403)), (3, .inr (.inl 72), .inr (.inl 69)), (5, .inr (.inl 72), .inr (.inl 70)), (6, .inr (.inl 4), .inl (.ref 403)), (3, .inl (.int 0), .inr (.inl 6)), (1, .inr (.inl 8), .inl (.int 0)), (2, .inr (.inl 9), .inr (.inl 73)), (0, .inr (.inl 4), .inl (.int 400)), (4, .inr (.inl 6), .inl (.int 0)), (6, .inr (.inl 4), .inl (.ref 403))]) jm_ok157 (by decide +kernel) (by decide +kernel) hd F X1 X2 (fun F' hF hs => ?_)
  have b6 := hd_b (F := F) (F' := F') (k := 6) (hF 6 (by decide))
  have b4 := hd_b (F := F) (F' := F') (k := 4) (hF 4 (by decide))
  have a25 := hd_ba (F := F) (F' := F') (k := 25) (hF 25 (by decide))
  have t71 : sy_dv F' (.inr (.inl 71)) = .int ((sy_ai F 25).getD (sy_i F 4).toNatClampNeg 0) := hd_rd (hs 0 _ rfl) b4 a25
  have a27 := hd_ba (F := F) (F' := F') (k := 27) (hF 27 (by decide))
  have t72 : sy_dv F' (.inr (.inl 72)) = .int ((sy_ai F 27).getD (sy_i F 4).toNatClampNeg 0) := hd_rd (hs 1 _ rfl) b4 a27
  have b69 := hd_b (F := F) (F' := F') (k := 69) (hF 69 (by decide))
  have b70 := hd_b (F := F) (F' := F') (k := 70) (hF 70 (by decide))
  have b8 := hd_b (F := F) (F' := F') (k := 8) (hF 8 (by decide))
  have b9 := hd_b (F := F) (F' := F') (k := 9) (hF 9 (by decide))
  have a26 := hd_ba (F := F) (F' := F') (k := 26) (hF 26 (by decide))
  have t73 : sy_dv F' (.inr (.inl 73)) = .int ((sy_ai F 26).getD (sy_i F 4).toNatClampNeg 0) := hd_rd (hs 2 _ rfl) b4 a26
  have t74 : sy_dv F' (.inr (.inl 74)) = .int ((sy_ai F 26).getD (sy_i F 4).toNatClampNeg 0) := hd_rd (hs 3 _ rfl) b4 a26
  have hB' : iv_in F' iv_B4 := iv_in_eq hB (fun j hj => hF j (Nat.lt_of_lt_of_le hj (by decide +kernel)))
  have hk := k (sy_cm F' (hd_ov (iv_id 0 iv_B4) [(6, .inl (.inl (.int 2))), (7, .inl (.inr (.inl 74)))] ++ [])) (fun j hj hn => (hd_keep hB' (Nat.lt_of_lt_of_le hj (by decide +kernel)) (by simp; omega)).trans (hF j (Nat.lt_of_lt_of_le hj (by decide)))) (hd_gi (x := .inl (.int 2)) (by decide +kernel) rfl) (hd_gi (x := .inr (.inl 74)) (by decide +kernel) t74)
  refine ⟨List.forall_mem_cons.mpr ⟨hd_p3 rfl b6 (by have hc : ((0) : Int32).toInt = 0 := (by decide); omega), List.forall_mem_cons.mpr ⟨hd_p0 b6 rfl (by have hc : ((0) : Int32).toInt = 0 := (by decide); omega), List.forall_mem_cons.mpr ⟨hd_pb b4 (by first | exact h2 | exact h2), List.forall_mem_cons.mpr ⟨hd_p0 t71 rfl (by have hc : ((2) : Int32).toInt = 2 := (by decide); omega), List.forall_mem_cons.mpr ⟨hd_pb b4 (by first | exact h4 | exact h4), List.forall_mem_cons.mpr ⟨hd_p3 t72 b69 h5, List.forall_mem_cons.mpr ⟨hd_p5 t72 b70 h6, List.forall_mem_cons.mpr ⟨hd_pb b4 (by first | exact h7 | exact h7), List.forall_mem_cons.mpr ⟨hd_p3 rfl b6 (by have hc : ((0) : Int32).toInt = 0 := (by decide); omega), List.forall_mem_cons.mpr ⟨hd_p1 b8 rfl (by have hc : ((0) : Int32).toInt = 0 := (by decide); omega), List.forall_mem_cons.mpr ⟨hd_p2 b9 t73 h10, List.forall_mem_cons.mpr ⟨hd_p0 b4 rfl (by have hc : ((400) : Int32).toInt = 400 := (by decide); omega), List.forall_mem_cons.mpr ⟨hd_p4 b6 rfl (by have hc : ((0) : Int32).toInt = 0 := (by decide); omega), List.forall_mem_cons.mpr ⟨hd_pb b4 (by first | exact h13 | exact h13), fun _ h => absurd h List.not_mem_nil⟩⟩⟩⟩⟩⟩⟩⟩⟩⟩⟩⟩⟩⟩, ?_⟩
  show Q (some (sy_dv F' (.inr (.inl 72)))) _
  rw [t72]
  exact hk
theorem bo_0_p18 {Ls : Nat} {xs : Nat → Int32} {d : Nat} {Q : Option Value → jm_h → Prop} (hd : 3 ≤ d) (F : Nat → sy_d) (X1 X2 : List jm_c) (hB : iv_in F iv_B4)
    (h0 : (sy_i F 6).toInt ≤ 0)
    (h1 : (sy_i F 6).toInt = 0)
    (h2 : 0 ≤ (sy_i F 4).toInt ∧ (sy_i F 4).toInt < 403)
    (h3 : ((sy_ai F 25).getD (sy_i F 4).toNatClampNeg 0).toInt = 2)
    (h4 : 0 ≤ (sy_i F 4).toInt ∧ (sy_i F 4).toInt < 403)
    (h5 : (sy_i F 69).toInt ≤ ((sy_ai F 27).getD (sy_i F 4).toNatClampNeg 0).toInt)
    (h6 : (sy_i F 70).toInt < ((sy_ai F 27).getD (sy_i F 4).toNatClampNeg 0).toInt)
    (h7 : 0 ≤ (sy_i F 4).toInt ∧ (sy_i F 4).toInt < 403)
    (h8 : (sy_i F 6).toInt ≤ 0)
    (h9 : (sy_i F 8).toInt ≠ 0)
    (h10 : ((sy_ai F 26).getD (sy_i F 4).toNatClampNeg 0).toInt ≤ (sy_i F 9).toInt)
    (h11 : ((sy_ai F 26).getD (sy_i F 4).toNatClampNeg 0).toInt ≠ (sy_i F 9).toInt)
    (h12 : (sy_i F 4).toInt ≠ 400)
    (k : ∀ F1 : Nat → sy_d, (∀ j, j < 69 → j ≠ 4 ∧ j ≠ 8 ∧ j ≠ 9 → F1 j = F j) → F1 4 = .inl (.int ((sy_i F 4) + ((1 : Int32)))) → F1 8 = .inl (.int ((5 : Int32))) → F1 9 = .inl (.int ((sy_ai F 26).getD (sy_i F 4).toNatClampNeg 0)) → Q (some (.int ((sy_ai F 27).getD (sy_i F 4).toNatClampNeg 0))) (sy_dh F1 X1 X2 (iv_H 4))) :
    hd_W Ls xs d jm_M157 Q (0, sy_dL F [some (.inl (.ref 1000)), some (.inr (.inl 69)), some (.inr (.inl 70)), none], sy_dS F [], sy_dh F X1 X2 (iv_H 4), 0, 0) := by
  refine hd_ret (s := 4) (nv := 71) (v := some (.inr (.inl 72))) (uh := hd_ov (iv_id 0 iv_B4) [(4, .inl (.inr (.inl 74))), (8, .inl (.inl (.int 5))), (9, .inl (.inr (.inl 73)))]) (f := true) (sp := []) (d0 := 2) (O := [false, false, false, false, false, false, false, false, true, true]) (T := [(30, [.inr (.inl 4)], [.inr (.inl 25)]), (30, [.inr (.inl 4)], [.inr (.inl 27)]), (30, [.inr (.inl 4)], [.inr (.inl 26)]), (0, [.inr (.inl 4), .inl (.int 1)], [])]) (P := [(3, .inl (.int 0), .inr (.inl 6)), (0, .inr (.inl 6), .inl (.int 0)), (6, .inr (.inl 4), .inl (.ref 403)), (0, .inr (.inl 71), .inl (.int 2)), (6, .inr (.inl 4), .inl (.ref 403)), (3, .inr (.inl 72), .inr (.inl 69)), (5, .inr (.inl 72), .inr (.inl 70)), (6, .inr (.inl 4), .inl (.ref 403)), (3, .inl (.int 0), .inr (.inl 6)), (1, .inr (.inl 8), .inl (.int 0)), (3, .inr (.inl 9), .inr (.inl 73)), (1, .inr (.inl 73), .inr (.inl 9)), (1, .inr (.inl 4), .inl (.int 400))]) jm_ok157 (by decide +kernel) (by decide +kernel) hd F X1 X2 (fun F' hF hs => ?_)
  have b6 := hd_b (F := F) (F' := F') (k := 6) (hF 6 (by decide))
  have b4 := hd_b (F := F) (F' := F') (k := 4) (hF 4 (by decide))
  have a25 := hd_ba (F := F) (F' := F') (k := 25) (hF 25 (by decide))
  have t71 : sy_dv F' (.inr (.inl 71)) = .int ((sy_ai F 25).getD (sy_i F 4).toNatClampNeg 0) := hd_rd (hs 0 _ rfl) b4 a25
  have a27 := hd_ba (F := F) (F' := F') (k := 27) (hF 27 (by decide))
  have t72 : sy_dv F' (.inr (.inl 72)) = .int ((sy_ai F 27).getD (sy_i F 4).toNatClampNeg 0) := hd_rd (hs 1 _ rfl) b4 a27
  have b69 := hd_b (F := F) (F' := F') (k := 69) (hF 69 (by decide))
  have b70 := hd_b (F := F) (F' := F') (k := 70) (hF 70 (by decide))
  have b8 := hd_b (F := F) (F' := F') (k := 8) (hF 8 (by decide))
  have b9 := hd_b (F := F) (F' := F') (k := 9) (hF 9 (by decide))
  have a26 := hd_ba (F := F) (F' := F') (k := 26) (hF 26 (by decide))
  have t73 : sy_dv F' (.inr (.inl 73)) = .int ((sy_ai F 26).getD (sy_i F 4).toNatClampNeg 0) := hd_rd (hs 2 _ rfl) b4 a26
  have t74 : sy_dv F' (.inr (.inl 74)) = .int ((sy_i F 4) + ((1 : Int32))) := hd_o (hs 3 _ rfl) b4 rfl rfl
  have hB' : iv_in F' iv_B4 := iv_in_eq hB (fun j hj => hF j (Nat.lt_of_lt_of_le hj (by decide +kernel)))
  have hk := k (sy_cm F' (hd_ov (iv_id 0 iv_B4) [(4, .inl (.inr (.inl 74))), (8, .inl (.inl (.int 5))), (9, .inl (.inr (.inl 73)))] ++ [])) (fun j hj hn => (hd_keep hB' (Nat.lt_of_lt_of_le hj (by decide +kernel)) (by simp; omega)).trans (hF j (Nat.lt_of_lt_of_le hj (by decide)))) (hd_gi (x := .inr (.inl 74)) (by decide +kernel) t74) (hd_gi (x := .inl (.int 5)) (by decide +kernel) rfl) (hd_gi (x := .inr (.inl 73)) (by decide +kernel) t73)
  refine ⟨List.forall_mem_cons.mpr ⟨hd_p3 rfl b6 (by have hc : ((0) : Int32).toInt = 0 := (by decide); omega), List.forall_mem_cons.mpr ⟨hd_p0 b6 rfl (by have hc : ((0) : Int32).toInt = 0 := (by decide); omega), List.forall_mem_cons.mpr ⟨hd_pb b4 (by first | exact h2 | exact h2), List.forall_mem_cons.mpr ⟨hd_p0 t71 rfl (by have hc : ((2) : Int32).toInt = 2 := (by decide); omega), List.forall_mem_cons.mpr ⟨hd_pb b4 (by first | exact h4 | exact h4), List.forall_mem_cons.mpr ⟨hd_p3 t72 b69 h5, List.forall_mem_cons.mpr ⟨hd_p5 t72 b70 h6, List.forall_mem_cons.mpr ⟨hd_pb b4 (by first | exact h7 | exact h7), List.forall_mem_cons.mpr ⟨hd_p3 rfl b6 (by have hc : ((0) : Int32).toInt = 0 := (by decide); omega), List.forall_mem_cons.mpr ⟨hd_p1 b8 rfl (by have hc : ((0) : Int32).toInt = 0 := (by decide); omega), List.forall_mem_cons.mpr ⟨hd_p3 b9 t73 h10, List.forall_mem_cons.mpr ⟨hd_p1 t73 b9 h11, List.forall_mem_cons.mpr ⟨hd_p1 b4 rfl (by have hc : ((400) : Int32).toInt = 400 := (by decide); omega), fun _ h => absurd h List.not_mem_nil⟩⟩⟩⟩⟩⟩⟩⟩⟩⟩⟩⟩⟩, ?_⟩
  show Q (some (sy_dv F' (.inr (.inl 72)))) _
  rw [t72]
  exact hk
theorem bo_0_p19 {Ls : Nat} {xs : Nat → Int32} {d : Nat} {Q : Option Value → jm_h → Prop} (hd : 3 ≤ d) (F : Nat → sy_d) (X1 X2 : List jm_c) (hB : iv_in F iv_B4)
    (h0 : (sy_i F 6).toInt ≤ 0)
    (h1 : (sy_i F 6).toInt = 0)
    (h2 : 0 ≤ (sy_i F 4).toInt ∧ (sy_i F 4).toInt < 403)
    (h3 : ((sy_ai F 25).getD (sy_i F 4).toNatClampNeg 0).toInt = 2)
    (h4 : 0 ≤ (sy_i F 4).toInt ∧ (sy_i F 4).toInt < 403)
    (h5 : (sy_i F 69).toInt ≤ ((sy_ai F 27).getD (sy_i F 4).toNatClampNeg 0).toInt)
    (h6 : (sy_i F 70).toInt < ((sy_ai F 27).getD (sy_i F 4).toNatClampNeg 0).toInt)
    (h7 : 0 ≤ (sy_i F 4).toInt ∧ (sy_i F 4).toInt < 403)
    (h8 : (sy_i F 6).toInt ≤ 0)
    (h9 : (sy_i F 8).toInt ≠ 0)
    (h10 : ((sy_ai F 26).getD (sy_i F 4).toNatClampNeg 0).toInt ≤ (sy_i F 9).toInt)
    (h11 : ((sy_ai F 26).getD (sy_i F 4).toNatClampNeg 0).toInt ≠ (sy_i F 9).toInt)
    (h12 : (sy_i F 4).toInt = 400)
    (h13 : (sy_i F 6).toInt ≤ 0)
    (h14 : 0 ≤ (sy_i F 4).toInt ∧ (sy_i F 4).toInt < 403)
    (k : ∀ F1 : Nat → sy_d, (∀ j, j < 69 → j ≠ 6 ∧ j ≠ 7 ∧ j ≠ 8 ∧ j ≠ 9 → F1 j = F j) → F1 6 = .inl (.int ((2 : Int32))) → F1 7 = .inl (.int ((sy_ai F 26).getD (sy_i F 4).toNatClampNeg 0)) → F1 8 = .inl (.int ((5 : Int32))) → F1 9 = .inl (.int ((sy_ai F 26).getD (sy_i F 4).toNatClampNeg 0)) → Q (some (.int ((sy_ai F 27).getD (sy_i F 4).toNatClampNeg 0))) (sy_dh F1 X1 X2 (iv_H 4))) :
    hd_W Ls xs d jm_M157 Q (0, sy_dL F [some (.inl (.ref 1000)), some (.inr (.inl 69)), some (.inr (.inl 70)), none], sy_dS F [], sy_dh F X1 X2 (iv_H 4), 0, 0) := by
  refine hd_ret (s := 4) (nv := 71) (v := some (.inr (.inl 72))) (uh := hd_ov (iv_id 0 iv_B4) [(6, .inl (.inl (.int 2))), (7, .inl (.inr (.inl 74))), (8, .inl (.inl (.int 5))), (9, .inl (.inr (.inl 73)))]) (f := true) (sp := []) (d0 := 2) (O := [false, false, false, false, false, false, false, false, true, false, true]) (T := [(30, [.inr (.inl 4)], [.inr (.inl 25)]), (30, [.inr (.inl 4)], [.inr (.inl 27)]), (30, [.inr (.inl 4)], [.inr (.inl 26)]), (30, [.inr (.inl 4)], [.inr (.inl 26)])]) (P := [(3, .inl (.int 0), .inr (.inl 6)), (0, .inr (.inl 6), .inl (.int 0)), (6, .inr (.inl 4), .inl (.ref 403)), (0, .inr (.inl 71), .inl (.int 2)), (6, .inr (.inl 4), .inl (.ref 403)), (3, .inr (.inl 72), .inr (.inl 69)), (5, .inr (.inl 72), .inr (.inl 70)), (6, .inr (.inl 4), .inl (.ref 403)), (3, .inl (.int 0), .inr (.inl 6)), (1, .inr (.inl 8), .inl (.int 0)), (3, .inr (.inl 9), .inr (.inl 73)), (1, .inr (.inl 73), .inr (.inl 9)), (0, .inr (.inl 4), .inl (.int 400)), (4, .inr (.inl 6), .inl (.int 0)), (6, .inr (.inl 4), .inl (.ref 403))]) jm_ok157 (by decide +kernel) (by decide +kernel) hd F X1 X2 (fun F' hF hs => ?_)
  have b6 := hd_b (F := F) (F' := F') (k := 6) (hF 6 (by decide))
  have b4 := hd_b (F := F) (F' := F') (k := 4) (hF 4 (by decide))
  have a25 := hd_ba (F := F) (F' := F') (k := 25) (hF 25 (by decide))
  have t71 : sy_dv F' (.inr (.inl 71)) = .int ((sy_ai F 25).getD (sy_i F 4).toNatClampNeg 0) := hd_rd (hs 0 _ rfl) b4 a25
  have a27 := hd_ba (F := F) (F' := F') (k := 27) (hF 27 (by decide))
  have t72 : sy_dv F' (.inr (.inl 72)) = .int ((sy_ai F 27).getD (sy_i F 4).toNatClampNeg 0) := hd_rd (hs 1 _ rfl) b4 a27
  have b69 := hd_b (F := F) (F' := F') (k := 69) (hF 69 (by decide))
  have b70 := hd_b (F := F) (F' := F') (k := 70) (hF 70 (by decide))
  have b8 := hd_b (F := F) (F' := F') (k := 8) (hF 8 (by decide))
  have b9 := hd_b (F := F) (F' := F') (k := 9) (hF 9 (by decide))
  have a26 := hd_ba (F := F) (F' := F') (k := 26) (hF 26 (by decide))
  have t73 : sy_dv F' (.inr (.inl 73)) = .int ((sy_ai F 26).getD (sy_i F 4).toNatClampNeg 0) := hd_rd (hs 2 _ rfl) b4 a26
  have t74 : sy_dv F' (.inr (.inl 74)) = .int ((sy_ai F 26).getD (sy_i F 4).toNatClampNeg 0) := hd_rd (hs 3 _ rfl) b4 a26
  have hB' : iv_in F' iv_B4 := iv_in_eq hB (fun j hj => hF j (Nat.lt_of_lt_of_le hj (by decide +kernel)))
  have hk := k (sy_cm F' (hd_ov (iv_id 0 iv_B4) [(6, .inl (.inl (.int 2))), (7, .inl (.inr (.inl 74))), (8, .inl (.inl (.int 5))), (9, .inl (.inr (.inl 73)))] ++ [])) (fun j hj hn => (hd_keep hB' (Nat.lt_of_lt_of_le hj (by decide +kernel)) (by simp; omega)).trans (hF j (Nat.lt_of_lt_of_le hj (by decide)))) (hd_gi (x := .inl (.int 2)) (by decide +kernel) rfl) (hd_gi (x := .inr (.inl 74)) (by decide +kernel) t74) (hd_gi (x := .inl (.int 5)) (by decide +kernel) rfl) (hd_gi (x := .inr (.inl 73)) (by decide +kernel) t73)
  refine ⟨List.forall_mem_cons.mpr ⟨hd_p3 rfl b6 (by have hc : ((0) : Int32).toInt = 0 := (by decide); omega), List.forall_mem_cons.mpr ⟨hd_p0 b6 rfl (by have hc : ((0) : Int32).toInt = 0 := (by decide); omega), List.forall_mem_cons.mpr ⟨hd_pb b4 (by first | exact h2 | exact h2), List.forall_mem_cons.mpr ⟨hd_p0 t71 rfl (by have hc : ((2) : Int32).toInt = 2 := (by decide); omega), List.forall_mem_cons.mpr ⟨hd_pb b4 (by first | exact h4 | exact h4), List.forall_mem_cons.mpr ⟨hd_p3 t72 b69 h5, List.forall_mem_cons.mpr ⟨hd_p5 t72 b70 h6, List.forall_mem_cons.mpr ⟨hd_pb b4 (by first | exact h7 | exact h7), List.forall_mem_cons.mpr ⟨hd_p3 rfl b6 (by have hc : ((0) : Int32).toInt = 0 := (by decide); omega), List.forall_mem_cons.mpr ⟨hd_p1 b8 rfl (by have hc : ((0) : Int32).toInt = 0 := (by decide); omega), List.forall_mem_cons.mpr ⟨hd_p3 b9 t73 h10, List.forall_mem_cons.mpr ⟨hd_p1 t73 b9 h11, List.forall_mem_cons.mpr ⟨hd_p0 b4 rfl (by have hc : ((400) : Int32).toInt = 400 := (by decide); omega), List.forall_mem_cons.mpr ⟨hd_p4 b6 rfl (by have hc : ((0) : Int32).toInt = 0 := (by decide); omega), List.forall_mem_cons.mpr ⟨hd_pb b4 (by first | exact h14 | exact h14), fun _ h => absurd h List.not_mem_nil⟩⟩⟩⟩⟩⟩⟩⟩⟩⟩⟩⟩⟩⟩⟩, ?_⟩
  show Q (some (sy_dv F' (.inr (.inl 72)))) _
  rw [t72]
  exact hk
theorem bo_0_p20 {Ls : Nat} {xs : Nat → Int32} {d : Nat} {Q : Option Value → jm_h → Prop} (hd : 3 ≤ d) (F : Nat → sy_d) (X1 X2 : List jm_c) (hB : iv_in F iv_B4)
    (h0 : (sy_i F 6).toInt ≤ 0)
    (h1 : (sy_i F 6).toInt = 0)
    (h2 : 0 ≤ (sy_i F 4).toInt ∧ (sy_i F 4).toInt < 403)
    (h3 : ((sy_ai F 25).getD (sy_i F 4).toNatClampNeg 0).toInt = 2)
    (h4 : 0 ≤ (sy_i F 4).toInt ∧ (sy_i F 4).toInt < 403)
    (h5 : (sy_i F 69).toInt ≤ ((sy_ai F 27).getD (sy_i F 4).toNatClampNeg 0).toInt)
    (h6 : (sy_i F 70).toInt < ((sy_ai F 27).getD (sy_i F 4).toNatClampNeg 0).toInt)
    (h7 : 0 ≤ (sy_i F 4).toInt ∧ (sy_i F 4).toInt < 403)
    (h8 : (sy_i F 6).toInt ≤ 0)
    (h9 : (sy_i F 8).toInt ≠ 0)
    (h10 : ((sy_ai F 26).getD (sy_i F 4).toNatClampNeg 0).toInt ≤ (sy_i F 9).toInt)
    (h11 : ((sy_ai F 26).getD (sy_i F 4).toNatClampNeg 0).toInt = (sy_i F 9).toInt)
    (h12 : 5 < (sy_i F 8).toInt)
    (h13 : (sy_i F 4).toInt ≠ 400)
    (k : ∀ F1 : Nat → sy_d, (∀ j, j < 69 → j ≠ 4 ∧ j ≠ 8 ∧ j ≠ 9 → F1 j = F j) → F1 4 = .inl (.int ((sy_i F 4) + ((1 : Int32)))) → F1 8 = .inl (.int ((5 : Int32))) → F1 9 = .inl (.int ((sy_ai F 26).getD (sy_i F 4).toNatClampNeg 0)) → Q (some (.int ((sy_ai F 27).getD (sy_i F 4).toNatClampNeg 0))) (sy_dh F1 X1 X2 (iv_H 4))) :
    hd_W Ls xs d jm_M157 Q (0, sy_dL F [some (.inl (.ref 1000)), some (.inr (.inl 69)), some (.inr (.inl 70)), none], sy_dS F [], sy_dh F X1 X2 (iv_H 4), 0, 0) := by
  refine hd_ret (s := 4) (nv := 71) (v := some (.inr (.inl 72))) (uh := hd_ov (iv_id 0 iv_B4) [(4, .inl (.inr (.inl 74))), (8, .inl (.inl (.int 5))), (9, .inl (.inr (.inl 73)))]) (f := true) (sp := []) (d0 := 2) (O := [false, false, false, false, false, false, false, false, false, true, true]) (T := [(30, [.inr (.inl 4)], [.inr (.inl 25)]), (30, [.inr (.inl 4)], [.inr (.inl 27)]), (30, [.inr (.inl 4)], [.inr (.inl 26)]), (0, [.inr (.inl 4), .inl (.int 1)], [])]) (P := [(3, .inl (.int 0), .inr (.inl 6)), (0, .inr (.inl 6), .inl (.int 0)), (6, .inr (.inl 4), .inl (.ref 403)), (0, .inr (.inl 71), .inl (.int 2)), (6, .inr (.inl 4), .inl (.ref 403)), (3, .inr (.inl 72), .inr (.inl 69)), (5, .inr (.inl 72), .inr (.inl 70)), (6, .inr (.inl 4), .inl (.ref 403)), (3, .inl (.int 0), .inr (.inl 6)), (1, .inr (.inl 8), .inl (.int 0)), (3, .inr (.inl 9), .inr (.inl 73)), (0, .inr (.inl 73), .inr (.inl 9)), (2, .inl (.int 5), .inr (.inl 8)), (1, .inr (.inl 4), .inl (.int 400))]) jm_ok157 (by decide +kernel) (by decide +kernel) hd F X1 X2 (fun F' hF hs => ?_)
  have b6 := hd_b (F := F) (F' := F') (k := 6) (hF 6 (by decide))
  have b4 := hd_b (F := F) (F' := F') (k := 4) (hF 4 (by decide))
  have a25 := hd_ba (F := F) (F' := F') (k := 25) (hF 25 (by decide))
  have t71 : sy_dv F' (.inr (.inl 71)) = .int ((sy_ai F 25).getD (sy_i F 4).toNatClampNeg 0) := hd_rd (hs 0 _ rfl) b4 a25
  have a27 := hd_ba (F := F) (F' := F') (k := 27) (hF 27 (by decide))
  have t72 : sy_dv F' (.inr (.inl 72)) = .int ((sy_ai F 27).getD (sy_i F 4).toNatClampNeg 0) := hd_rd (hs 1 _ rfl) b4 a27
  have b69 := hd_b (F := F) (F' := F') (k := 69) (hF 69 (by decide))
  have b70 := hd_b (F := F) (F' := F') (k := 70) (hF 70 (by decide))
  have b8 := hd_b (F := F) (F' := F') (k := 8) (hF 8 (by decide))
  have b9 := hd_b (F := F) (F' := F') (k := 9) (hF 9 (by decide))
  have a26 := hd_ba (F := F) (F' := F') (k := 26) (hF 26 (by decide))
  have t73 : sy_dv F' (.inr (.inl 73)) = .int ((sy_ai F 26).getD (sy_i F 4).toNatClampNeg 0) := hd_rd (hs 2 _ rfl) b4 a26
  have t74 : sy_dv F' (.inr (.inl 74)) = .int ((sy_i F 4) + ((1 : Int32))) := hd_o (hs 3 _ rfl) b4 rfl rfl
  have hB' : iv_in F' iv_B4 := iv_in_eq hB (fun j hj => hF j (Nat.lt_of_lt_of_le hj (by decide +kernel)))
  have hk := k (sy_cm F' (hd_ov (iv_id 0 iv_B4) [(4, .inl (.inr (.inl 74))), (8, .inl (.inl (.int 5))), (9, .inl (.inr (.inl 73)))] ++ [])) (fun j hj hn => (hd_keep hB' (Nat.lt_of_lt_of_le hj (by decide +kernel)) (by simp; omega)).trans (hF j (Nat.lt_of_lt_of_le hj (by decide)))) (hd_gi (x := .inr (.inl 74)) (by decide +kernel) t74) (hd_gi (x := .inl (.int 5)) (by decide +kernel) rfl) (hd_gi (x := .inr (.inl 73)) (by decide +kernel) t73)
  refine ⟨List.forall_mem_cons.mpr ⟨hd_p3 rfl b6 (by have hc : ((0) : Int32).toInt = 0 := (by decide); omega), List.forall_mem_cons.mpr ⟨hd_p0 b6 rfl (by have hc : ((0) : Int32).toInt = 0 := (by decide); omega), List.forall_mem_cons.mpr ⟨hd_pb b4 (by first | exact h2 | exact h2), List.forall_mem_cons.mpr ⟨hd_p0 t71 rfl (by have hc : ((2) : Int32).toInt = 2 := (by decide); omega), List.forall_mem_cons.mpr ⟨hd_pb b4 (by first | exact h4 | exact h4), List.forall_mem_cons.mpr ⟨hd_p3 t72 b69 h5, List.forall_mem_cons.mpr ⟨hd_p5 t72 b70 h6, List.forall_mem_cons.mpr ⟨hd_pb b4 (by first | exact h7 | exact h7), List.forall_mem_cons.mpr ⟨hd_p3 rfl b6 (by have hc : ((0) : Int32).toInt = 0 := (by decide); omega), List.forall_mem_cons.mpr ⟨hd_p1 b8 rfl (by have hc : ((0) : Int32).toInt = 0 := (by decide); omega), List.forall_mem_cons.mpr ⟨hd_p3 b9 t73 h10, List.forall_mem_cons.mpr ⟨hd_p0 t73 b9 h11, List.forall_mem_cons.mpr ⟨hd_p2 rfl b8 (by have hc : ((5) : Int32).toInt = 5 := (by decide); omega), List.forall_mem_cons.mpr ⟨hd_p1 b4 rfl (by have hc : ((400) : Int32).toInt = 400 := (by decide); omega), fun _ h => absurd h List.not_mem_nil⟩⟩⟩⟩⟩⟩⟩⟩⟩⟩⟩⟩⟩⟩, ?_⟩
  show Q (some (sy_dv F' (.inr (.inl 72)))) _
  rw [t72]
  exact hk
theorem bo_0_p21 {Ls : Nat} {xs : Nat → Int32} {d : Nat} {Q : Option Value → jm_h → Prop} (hd : 3 ≤ d) (F : Nat → sy_d) (X1 X2 : List jm_c) (hB : iv_in F iv_B4)
    (h0 : (sy_i F 6).toInt ≤ 0)
    (h1 : (sy_i F 6).toInt = 0)
    (h2 : 0 ≤ (sy_i F 4).toInt ∧ (sy_i F 4).toInt < 403)
    (h3 : ((sy_ai F 25).getD (sy_i F 4).toNatClampNeg 0).toInt = 2)
    (h4 : 0 ≤ (sy_i F 4).toInt ∧ (sy_i F 4).toInt < 403)
    (h5 : (sy_i F 69).toInt ≤ ((sy_ai F 27).getD (sy_i F 4).toNatClampNeg 0).toInt)
    (h6 : (sy_i F 70).toInt < ((sy_ai F 27).getD (sy_i F 4).toNatClampNeg 0).toInt)
    (h7 : 0 ≤ (sy_i F 4).toInt ∧ (sy_i F 4).toInt < 403)
    (h8 : (sy_i F 6).toInt ≤ 0)
    (h9 : (sy_i F 8).toInt ≠ 0)
    (h10 : ((sy_ai F 26).getD (sy_i F 4).toNatClampNeg 0).toInt ≤ (sy_i F 9).toInt)
    (h11 : ((sy_ai F 26).getD (sy_i F 4).toNatClampNeg 0).toInt = (sy_i F 9).toInt)
    (h12 : 5 < (sy_i F 8).toInt)
    (h13 : (sy_i F 4).toInt = 400)
    (h14 : (sy_i F 6).toInt ≤ 0)
    (h15 : 0 ≤ (sy_i F 4).toInt ∧ (sy_i F 4).toInt < 403)
    (k : ∀ F1 : Nat → sy_d, (∀ j, j < 69 → j ≠ 6 ∧ j ≠ 7 ∧ j ≠ 8 ∧ j ≠ 9 → F1 j = F j) → F1 6 = .inl (.int ((2 : Int32))) → F1 7 = .inl (.int ((sy_ai F 26).getD (sy_i F 4).toNatClampNeg 0)) → F1 8 = .inl (.int ((5 : Int32))) → F1 9 = .inl (.int ((sy_ai F 26).getD (sy_i F 4).toNatClampNeg 0)) → Q (some (.int ((sy_ai F 27).getD (sy_i F 4).toNatClampNeg 0))) (sy_dh F1 X1 X2 (iv_H 4))) :
    hd_W Ls xs d jm_M157 Q (0, sy_dL F [some (.inl (.ref 1000)), some (.inr (.inl 69)), some (.inr (.inl 70)), none], sy_dS F [], sy_dh F X1 X2 (iv_H 4), 0, 0) := by
  refine hd_ret (s := 4) (nv := 71) (v := some (.inr (.inl 72))) (uh := hd_ov (iv_id 0 iv_B4) [(6, .inl (.inl (.int 2))), (7, .inl (.inr (.inl 74))), (8, .inl (.inl (.int 5))), (9, .inl (.inr (.inl 73)))]) (f := true) (sp := []) (d0 := 2) (O := [false, false, false, false, false, false, false, false, false, true, false, true]) (T := [(30, [.inr (.inl 4)], [.inr (.inl 25)]), (30, [.inr (.inl 4)], [.inr (.inl 27)]), (30, [.inr (.inl 4)], [.inr (.inl 26)]), (30, [.inr (.inl 4)], [.inr (.inl 26)])]) (P := [(3, .inl (.int 0), .inr (.inl 6)), (0, .inr (.inl 6), .inl (.int 0)), (6, .inr (.inl 4), .inl (.ref 403)), (0, .inr (.inl 71), .inl (.int 2)), (6, .inr (.inl 4), .inl (.ref 403)), (3, .inr (.inl 72), .inr (.inl 69)), (5, .inr (.inl 72), .inr (.inl 70)), (6, .inr (.inl 4), .inl (.ref 403)), (3, .inl (.int 0), .inr (.inl 6)), (1, .inr (.inl 8), .inl (.int 0)), (3, .inr (.inl 9), .inr (.inl 73)), (0, .inr (.inl 73), .inr (.inl 9)), (2, .inl (.int 5), .inr (.inl 8)), (0, .inr (.inl 4), .inl (.int 400)), (4, .inr (.inl 6), .inl (.int 0)), (6, .inr (.inl 4), .inl (.ref 403))]) jm_ok157 (by decide +kernel) (by decide +kernel) hd F X1 X2 (fun F' hF hs => ?_)
  have b6 := hd_b (F := F) (F' := F') (k := 6) (hF 6 (by decide))
  have b4 := hd_b (F := F) (F' := F') (k := 4) (hF 4 (by decide))
  have a25 := hd_ba (F := F) (F' := F') (k := 25) (hF 25 (by decide))
  have t71 : sy_dv F' (.inr (.inl 71)) = .int ((sy_ai F 25).getD (sy_i F 4).toNatClampNeg 0) := hd_rd (hs 0 _ rfl) b4 a25
  have a27 := hd_ba (F := F) (F' := F') (k := 27) (hF 27 (by decide))
  have t72 : sy_dv F' (.inr (.inl 72)) = .int ((sy_ai F 27).getD (sy_i F 4).toNatClampNeg 0) := hd_rd (hs 1 _ rfl) b4 a27
  have b69 := hd_b (F := F) (F' := F') (k := 69) (hF 69 (by decide))
  have b70 := hd_b (F := F) (F' := F') (k := 70) (hF 70 (by decide))
  have b8 := hd_b (F := F) (F' := F') (k := 8) (hF 8 (by decide))
  have b9 := hd_b (F := F) (F' := F') (k := 9) (hF 9 (by decide))
  have a26 := hd_ba (F := F) (F' := F') (k := 26) (hF 26 (by decide))
  have t73 : sy_dv F' (.inr (.inl 73)) = .int ((sy_ai F 26).getD (sy_i F 4).toNatClampNeg 0) := hd_rd (hs 2 _ rfl) b4 a26
  have t74 : sy_dv F' (.inr (.inl 74)) = .int ((sy_ai F 26).getD (sy_i F 4).toNatClampNeg 0) := hd_rd (hs 3 _ rfl) b4 a26
  have hB' : iv_in F' iv_B4 := iv_in_eq hB (fun j hj => hF j (Nat.lt_of_lt_of_le hj (by decide +kernel)))
  have hk := k (sy_cm F' (hd_ov (iv_id 0 iv_B4) [(6, .inl (.inl (.int 2))), (7, .inl (.inr (.inl 74))), (8, .inl (.inl (.int 5))), (9, .inl (.inr (.inl 73)))] ++ [])) (fun j hj hn => (hd_keep hB' (Nat.lt_of_lt_of_le hj (by decide +kernel)) (by simp; omega)).trans (hF j (Nat.lt_of_lt_of_le hj (by decide)))) (hd_gi (x := .inl (.int 2)) (by decide +kernel) rfl) (hd_gi (x := .inr (.inl 74)) (by decide +kernel) t74) (hd_gi (x := .inl (.int 5)) (by decide +kernel) rfl) (hd_gi (x := .inr (.inl 73)) (by decide +kernel) t73)
  refine ⟨List.forall_mem_cons.mpr ⟨hd_p3 rfl b6 (by have hc : ((0) : Int32).toInt = 0 := (by decide); omega), List.forall_mem_cons.mpr ⟨hd_p0 b6 rfl (by have hc : ((0) : Int32).toInt = 0 := (by decide); omega), List.forall_mem_cons.mpr ⟨hd_pb b4 (by first | exact h2 | exact h2), List.forall_mem_cons.mpr ⟨hd_p0 t71 rfl (by have hc : ((2) : Int32).toInt = 2 := (by decide); omega), List.forall_mem_cons.mpr ⟨hd_pb b4 (by first | exact h4 | exact h4), List.forall_mem_cons.mpr ⟨hd_p3 t72 b69 h5, List.forall_mem_cons.mpr ⟨hd_p5 t72 b70 h6, List.forall_mem_cons.mpr ⟨hd_pb b4 (by first | exact h7 | exact h7), List.forall_mem_cons.mpr ⟨hd_p3 rfl b6 (by have hc : ((0) : Int32).toInt = 0 := (by decide); omega), List.forall_mem_cons.mpr ⟨hd_p1 b8 rfl (by have hc : ((0) : Int32).toInt = 0 := (by decide); omega), List.forall_mem_cons.mpr ⟨hd_p3 b9 t73 h10, List.forall_mem_cons.mpr ⟨hd_p0 t73 b9 h11, List.forall_mem_cons.mpr ⟨hd_p2 rfl b8 (by have hc : ((5) : Int32).toInt = 5 := (by decide); omega), List.forall_mem_cons.mpr ⟨hd_p0 b4 rfl (by have hc : ((400) : Int32).toInt = 400 := (by decide); omega), List.forall_mem_cons.mpr ⟨hd_p4 b6 rfl (by have hc : ((0) : Int32).toInt = 0 := (by decide); omega), List.forall_mem_cons.mpr ⟨hd_pb b4 (by first | exact h15 | exact h15), fun _ h => absurd h List.not_mem_nil⟩⟩⟩⟩⟩⟩⟩⟩⟩⟩⟩⟩⟩⟩⟩⟩, ?_⟩
  show Q (some (sy_dv F' (.inr (.inl 72)))) _
  rw [t72]
  exact hk
theorem bo_0_p22 {Ls : Nat} {xs : Nat → Int32} {d : Nat} {Q : Option Value → jm_h → Prop} (hd : 3 ≤ d) (F : Nat → sy_d) (X1 X2 : List jm_c) (hB : iv_in F iv_B4)
    (h0 : (sy_i F 6).toInt ≤ 0)
    (h1 : (sy_i F 6).toInt = 0)
    (h2 : 0 ≤ (sy_i F 4).toInt ∧ (sy_i F 4).toInt < 403)
    (h3 : ((sy_ai F 25).getD (sy_i F 4).toNatClampNeg 0).toInt = 2)
    (h4 : 0 ≤ (sy_i F 4).toInt ∧ (sy_i F 4).toInt < 403)
    (h5 : (sy_i F 69).toInt ≤ ((sy_ai F 27).getD (sy_i F 4).toNatClampNeg 0).toInt)
    (h6 : (sy_i F 70).toInt < ((sy_ai F 27).getD (sy_i F 4).toNatClampNeg 0).toInt)
    (h7 : 0 ≤ (sy_i F 4).toInt ∧ (sy_i F 4).toInt < 403)
    (h8 : (sy_i F 6).toInt ≤ 0)
    (h9 : (sy_i F 8).toInt ≠ 0)
    (h10 : ((sy_ai F 26).getD (sy_i F 4).toNatClampNeg 0).toInt ≤ (sy_i F 9).toInt)
    (h11 : ((sy_ai F 26).getD (sy_i F 4).toNatClampNeg 0).toInt = (sy_i F 9).toInt)
    (h12 : (sy_i F 8).toInt ≤ 5)
    (h13 : (sy_i F 4).toInt ≠ 400)
    (k : ∀ F1 : Nat → sy_d, (∀ j, j < 69 → j ≠ 4 → F1 j = F j) → F1 4 = .inl (.int ((sy_i F 4) + ((1 : Int32)))) → Q (some (.int ((sy_ai F 27).getD (sy_i F 4).toNatClampNeg 0))) (sy_dh F1 X1 X2 (iv_H 4))) :
    hd_W Ls xs d jm_M157 Q (0, sy_dL F [some (.inl (.ref 1000)), some (.inr (.inl 69)), some (.inr (.inl 70)), none], sy_dS F [], sy_dh F X1 X2 (iv_H 4), 0, 0) := by
  refine hd_ret (s := 4) (nv := 71) (v := some (.inr (.inl 72))) (uh := hd_ov (iv_id 0 iv_B4) [(4, .inl (.inr (.inl 74)))]) (f := true) (sp := []) (d0 := 2) (O := [false, false, false, false, false, false, false, false, false, false, true]) (T := [(30, [.inr (.inl 4)], [.inr (.inl 25)]), (30, [.inr (.inl 4)], [.inr (.inl 27)]), (30, [.inr (.inl 4)], [.inr (.inl 26)]), (0, [.inr (.inl 4), .inl (.int 1)], [])]) (P := [(3, .inl (.int 0), .inr (.inl 6)), (0, .inr (.inl 6), .inl (.int 0)), (6, .inr (.inl 4), .inl (.ref 403)), (0, .inr (.inl 71), .inl (.int 2)), (6, .inr (.inl 4), .inl (.ref 403)), (3, .inr (.inl 72), .inr (.inl 69)), (5, .inr (.inl 72), .inr (.inl 70)), (6, .inr (.inl 4), .inl (.ref 403)), (3, .inl (.int 0), .inr (.inl 6)), (1, .inr (.inl 8), .inl (.int 0)), (3, .inr (.inl 9), .inr (.inl 73)), (0, .inr (.inl 73), .inr (.inl 9)), (3, .inl (.int 5), .inr (.inl 8)), (1, .inr (.inl 4), .inl (.int 400))]) jm_ok157 (by decide +kernel) (by decide +kernel) hd F X1 X2 (fun F' hF hs => ?_)
  have b6 := hd_b (F := F) (F' := F') (k := 6) (hF 6 (by decide))
  have b4 := hd_b (F := F) (F' := F') (k := 4) (hF 4 (by decide))
  have a25 := hd_ba (F := F) (F' := F') (k := 25) (hF 25 (by decide))
  have t71 : sy_dv F' (.inr (.inl 71)) = .int ((sy_ai F 25).getD (sy_i F 4).toNatClampNeg 0) := hd_rd (hs 0 _ rfl) b4 a25
  have a27 := hd_ba (F := F) (F' := F') (k := 27) (hF 27 (by decide))
  have t72 : sy_dv F' (.inr (.inl 72)) = .int ((sy_ai F 27).getD (sy_i F 4).toNatClampNeg 0) := hd_rd (hs 1 _ rfl) b4 a27
  have b69 := hd_b (F := F) (F' := F') (k := 69) (hF 69 (by decide))
  have b70 := hd_b (F := F) (F' := F') (k := 70) (hF 70 (by decide))
  have b8 := hd_b (F := F) (F' := F') (k := 8) (hF 8 (by decide))
  have b9 := hd_b (F := F) (F' := F') (k := 9) (hF 9 (by decide))
  have a26 := hd_ba (F := F) (F' := F') (k := 26) (hF 26 (by decide))
  have t73 : sy_dv F' (.inr (.inl 73)) = .int ((sy_ai F 26).getD (sy_i F 4).toNatClampNeg 0) := hd_rd (hs 2 _ rfl) b4 a26
  have t74 : sy_dv F' (.inr (.inl 74)) = .int ((sy_i F 4) + ((1 : Int32))) := hd_o (hs 3 _ rfl) b4 rfl rfl
  have hB' : iv_in F' iv_B4 := iv_in_eq hB (fun j hj => hF j (Nat.lt_of_lt_of_le hj (by decide +kernel)))
  have hk := k (sy_cm F' (hd_ov (iv_id 0 iv_B4) [(4, .inl (.inr (.inl 74)))] ++ [])) (fun j hj hn => (hd_keep hB' (Nat.lt_of_lt_of_le hj (by decide +kernel)) (by simp; omega)).trans (hF j (Nat.lt_of_lt_of_le hj (by decide)))) (hd_gi (x := .inr (.inl 74)) (by decide +kernel) t74)
  refine ⟨List.forall_mem_cons.mpr ⟨hd_p3 rfl b6 (by have hc : ((0) : Int32).toInt = 0 := (by decide); omega), List.forall_mem_cons.mpr ⟨hd_p0 b6 rfl (by have hc : ((0) : Int32).toInt = 0 := (by decide); omega), List.forall_mem_cons.mpr ⟨hd_pb b4 (by first | exact h2 | exact h2), List.forall_mem_cons.mpr ⟨hd_p0 t71 rfl (by have hc : ((2) : Int32).toInt = 2 := (by decide); omega), List.forall_mem_cons.mpr ⟨hd_pb b4 (by first | exact h4 | exact h4), List.forall_mem_cons.mpr ⟨hd_p3 t72 b69 h5, List.forall_mem_cons.mpr ⟨hd_p5 t72 b70 h6, List.forall_mem_cons.mpr ⟨hd_pb b4 (by first | exact h7 | exact h7), List.forall_mem_cons.mpr ⟨hd_p3 rfl b6 (by have hc : ((0) : Int32).toInt = 0 := (by decide); omega), List.forall_mem_cons.mpr ⟨hd_p1 b8 rfl (by have hc : ((0) : Int32).toInt = 0 := (by decide); omega), List.forall_mem_cons.mpr ⟨hd_p3 b9 t73 h10, List.forall_mem_cons.mpr ⟨hd_p0 t73 b9 h11, List.forall_mem_cons.mpr ⟨hd_p3 rfl b8 (by have hc : ((5) : Int32).toInt = 5 := (by decide); omega), List.forall_mem_cons.mpr ⟨hd_p1 b4 rfl (by have hc : ((400) : Int32).toInt = 400 := (by decide); omega), fun _ h => absurd h List.not_mem_nil⟩⟩⟩⟩⟩⟩⟩⟩⟩⟩⟩⟩⟩⟩, ?_⟩
  show Q (some (sy_dv F' (.inr (.inl 72)))) _
  rw [t72]
  exact hk
theorem bo_0_p23 {Ls : Nat} {xs : Nat → Int32} {d : Nat} {Q : Option Value → jm_h → Prop} (hd : 3 ≤ d) (F : Nat → sy_d) (X1 X2 : List jm_c) (hB : iv_in F iv_B4)
    (h0 : (sy_i F 6).toInt ≤ 0)
    (h1 : (sy_i F 6).toInt = 0)
    (h2 : 0 ≤ (sy_i F 4).toInt ∧ (sy_i F 4).toInt < 403)
    (h3 : ((sy_ai F 25).getD (sy_i F 4).toNatClampNeg 0).toInt = 2)
    (h4 : 0 ≤ (sy_i F 4).toInt ∧ (sy_i F 4).toInt < 403)
    (h5 : (sy_i F 69).toInt ≤ ((sy_ai F 27).getD (sy_i F 4).toNatClampNeg 0).toInt)
    (h6 : (sy_i F 70).toInt < ((sy_ai F 27).getD (sy_i F 4).toNatClampNeg 0).toInt)
    (h7 : 0 ≤ (sy_i F 4).toInt ∧ (sy_i F 4).toInt < 403)
    (h8 : (sy_i F 6).toInt ≤ 0)
    (h9 : (sy_i F 8).toInt ≠ 0)
    (h10 : ((sy_ai F 26).getD (sy_i F 4).toNatClampNeg 0).toInt ≤ (sy_i F 9).toInt)
    (h11 : ((sy_ai F 26).getD (sy_i F 4).toNatClampNeg 0).toInt = (sy_i F 9).toInt)
    (h12 : (sy_i F 8).toInt ≤ 5)
    (h13 : (sy_i F 4).toInt = 400)
    (h14 : (sy_i F 6).toInt ≤ 0)
    (h15 : 0 ≤ (sy_i F 4).toInt ∧ (sy_i F 4).toInt < 403)
    (k : ∀ F1 : Nat → sy_d, (∀ j, j < 69 → j ≠ 6 ∧ j ≠ 7 → F1 j = F j) → F1 6 = .inl (.int ((2 : Int32))) → F1 7 = .inl (.int ((sy_ai F 26).getD (sy_i F 4).toNatClampNeg 0)) → Q (some (.int ((sy_ai F 27).getD (sy_i F 4).toNatClampNeg 0))) (sy_dh F1 X1 X2 (iv_H 4))) :
    hd_W Ls xs d jm_M157 Q (0, sy_dL F [some (.inl (.ref 1000)), some (.inr (.inl 69)), some (.inr (.inl 70)), none], sy_dS F [], sy_dh F X1 X2 (iv_H 4), 0, 0) := by
  refine hd_ret (s := 4) (nv := 71) (v := some (.inr (.inl 72))) (uh := hd_ov (iv_id 0 iv_B4) [(6, .inl (.inl (.int 2))), (7, .inl (.inr (.inl 74)))]) (f := true) (sp := []) (d0 := 2) (O := [false, false, false, false, false, false, false, false, false, false, false, true]) (T := [(30, [.inr (.inl 4)], [.inr (.inl 25)]), (30, [.inr (.inl 4)], [.inr (.inl 27)]), (30, [.inr (.inl 4)], [.inr (.inl 26)]), (30, [.inr (.inl 4)], [.inr (.inl 26)])]) (P := [(3, .inl (.int 0), .inr (.inl 6)), (0, .inr (.inl 6), .inl (.int 0)), (6, .inr (.inl 4), .inl (.ref 403)), (0, .inr (.inl 71), .inl (.int 2)), (6, .inr (.inl 4), .inl (.ref 403)), (3, .inr (.inl 72), .inr (.inl 69)), (5, .inr (.inl 72), .inr (.inl 70)), (6, .inr (.inl 4), .inl (.ref 403)), (3, .inl (.int 0), .inr (.inl 6)), (1, .inr (.inl 8), .inl (.int 0)), (3, .inr (.inl 9), .inr (.inl 73)), (0, .inr (.inl 73), .inr (.inl 9)), (3, .inl (.int 5), .inr (.inl 8)), (0, .inr (.inl 4), .inl (.int 400)), (4, .inr (.inl 6), .inl (.int 0)), (6, .inr (.inl 4), .inl (.ref 403))]) jm_ok157 (by decide +kernel) (by decide +kernel) hd F X1 X2 (fun F' hF hs => ?_)
  have b6 := hd_b (F := F) (F' := F') (k := 6) (hF 6 (by decide))
  have b4 := hd_b (F := F) (F' := F') (k := 4) (hF 4 (by decide))
  have a25 := hd_ba (F := F) (F' := F') (k := 25) (hF 25 (by decide))
  have t71 : sy_dv F' (.inr (.inl 71)) = .int ((sy_ai F 25).getD (sy_i F 4).toNatClampNeg 0) := hd_rd (hs 0 _ rfl) b4 a25
  have a27 := hd_ba (F := F) (F' := F') (k := 27) (hF 27 (by decide))
  have t72 : sy_dv F' (.inr (.inl 72)) = .int ((sy_ai F 27).getD (sy_i F 4).toNatClampNeg 0) := hd_rd (hs 1 _ rfl) b4 a27
  have b69 := hd_b (F := F) (F' := F') (k := 69) (hF 69 (by decide))
  have b70 := hd_b (F := F) (F' := F') (k := 70) (hF 70 (by decide))
  have b8 := hd_b (F := F) (F' := F') (k := 8) (hF 8 (by decide))
  have b9 := hd_b (F := F) (F' := F') (k := 9) (hF 9 (by decide))
  have a26 := hd_ba (F := F) (F' := F') (k := 26) (hF 26 (by decide))
  have t73 : sy_dv F' (.inr (.inl 73)) = .int ((sy_ai F 26).getD (sy_i F 4).toNatClampNeg 0) := hd_rd (hs 2 _ rfl) b4 a26
  have t74 : sy_dv F' (.inr (.inl 74)) = .int ((sy_ai F 26).getD (sy_i F 4).toNatClampNeg 0) := hd_rd (hs 3 _ rfl) b4 a26
  have hB' : iv_in F' iv_B4 := iv_in_eq hB (fun j hj => hF j (Nat.lt_of_lt_of_le hj (by decide +kernel)))
  have hk := k (sy_cm F' (hd_ov (iv_id 0 iv_B4) [(6, .inl (.inl (.int 2))), (7, .inl (.inr (.inl 74)))] ++ [])) (fun j hj hn => (hd_keep hB' (Nat.lt_of_lt_of_le hj (by decide +kernel)) (by simp; omega)).trans (hF j (Nat.lt_of_lt_of_le hj (by decide)))) (hd_gi (x := .inl (.int 2)) (by decide +kernel) rfl) (hd_gi (x := .inr (.inl 74)) (by decide +kernel) t74)
  refine ⟨List.forall_mem_cons.mpr ⟨hd_p3 rfl b6 (by have hc : ((0) : Int32).toInt = 0 := (by decide); omega), List.forall_mem_cons.mpr ⟨hd_p0 b6 rfl (by have hc : ((0) : Int32).toInt = 0 := (by decide); omega), List.forall_mem_cons.mpr ⟨hd_pb b4 (by first | exact h2 | exact h2), List.forall_mem_cons.mpr ⟨hd_p0 t71 rfl (by have hc : ((2) : Int32).toInt = 2 := (by decide); omega), List.forall_mem_cons.mpr ⟨hd_pb b4 (by first | exact h4 | exact h4), List.forall_mem_cons.mpr ⟨hd_p3 t72 b69 h5, List.forall_mem_cons.mpr ⟨hd_p5 t72 b70 h6, List.forall_mem_cons.mpr ⟨hd_pb b4 (by first | exact h7 | exact h7), List.forall_mem_cons.mpr ⟨hd_p3 rfl b6 (by have hc : ((0) : Int32).toInt = 0 := (by decide); omega), List.forall_mem_cons.mpr ⟨hd_p1 b8 rfl (by have hc : ((0) : Int32).toInt = 0 := (by decide); omega), List.forall_mem_cons.mpr ⟨hd_p3 b9 t73 h10, List.forall_mem_cons.mpr ⟨hd_p0 t73 b9 h11, List.forall_mem_cons.mpr ⟨hd_p3 rfl b8 (by have hc : ((5) : Int32).toInt = 5 := (by decide); omega), List.forall_mem_cons.mpr ⟨hd_p0 b4 rfl (by have hc : ((400) : Int32).toInt = 400 := (by decide); omega), List.forall_mem_cons.mpr ⟨hd_p4 b6 rfl (by have hc : ((0) : Int32).toInt = 0 := (by decide); omega), List.forall_mem_cons.mpr ⟨hd_pb b4 (by first | exact h15 | exact h15), fun _ h => absurd h List.not_mem_nil⟩⟩⟩⟩⟩⟩⟩⟩⟩⟩⟩⟩⟩⟩⟩⟩, ?_⟩
  show Q (some (sy_dv F' (.inr (.inl 72)))) _
  rw [t72]
  exact hk
theorem na_0_p0 {Ls : Nat} {xs : Nat → Int32} {d : Nat} {Q : Option Value → jm_h → Prop} (hd : 4 ≤ d) (F : Nat → sy_d) (X1 X2 : List jm_c) (hB : iv_in F iv_B4)
    (h0 : (sy_i F 6).toInt ≠ 0)
    (h1 : 0 < (sy_i F 6).toInt)
    (k : ∀ F1 : Nat → sy_d, (∀ j, j < 69 → True → F1 j = F j) → F1 69 = .inl (.int (sy_i F 4)) → F1 70 = .inl (.int ((0 : Int32))) → hd_W Ls xs d jm_M155 Q (12, sy_dL F1 [some (.inl (.ref 1000)), some (.inr (.inl 69)), some (.inr (.inl 70))], sy_dS F1 [], sy_dh F1 X1 X2 (iv_H 4), 0, 0)) :
    hd_W Ls xs d jm_M155 Q (0, sy_dL F [some (.inl (.ref 1000)), none, none], sy_dS F [], sy_dh F X1 X2 (iv_H 4), 0, 0) := by
  refine hd_run (s := 4) (nv := 69) (pc := 12) (L := [some (.inl (.ref 1000)), some (.inr (.inl 69)), some (.inr (.inl 70))]) (S := []) (uh := hd_ov (iv_id 0 iv_B4) []) (ul := [.inl (.inr (.inl 4)), .inl (.inl (.int 0))]) (f := true) (sp := [12]) (d0 := 3) (O := [true, false]) (T := []) (P := [(1, .inr (.inl 6), .inl (.int 0)), (5, .inr (.inl 6), .inl (.int 0))]) jm_ok155 (by decide +kernel) (by decide +kernel) hd F X1 X2 (fun F' hF hs => ?_)
  have b6 := hd_b (F := F) (F' := F') (k := 6) (hF 6 (by decide))
  have b4 := hd_b (F := F) (F' := F') (k := 4) (hF 4 (by decide))
  have hB' : iv_in F' iv_B4 := iv_in_eq hB (fun j hj => hF j (Nat.lt_of_lt_of_le hj (by decide +kernel)))
  refine ⟨List.forall_mem_cons.mpr ⟨hd_p1 b6 rfl (by have hc : ((0) : Int32).toInt = 0 := (by decide); omega), List.forall_mem_cons.mpr ⟨hd_p5 b6 rfl (by have hc : ((0) : Int32).toInt = 0 := (by decide); omega), fun _ h => absurd h List.not_mem_nil⟩⟩, ?_⟩
  refine k _ ?_ ?_ ?_
  · exact fun j hj _ => (hd_keep hB' (Nat.lt_of_lt_of_le hj (by decide +kernel)) (by simp)).trans (hF j (Nat.lt_of_lt_of_le hj (by decide)))
  · exact hd_gi (x := .inr (.inl 4)) (by decide +kernel) b4
  · exact hd_gi (x := .inl (.int 0)) (by decide +kernel) rfl
theorem na_0_p1 {Ls : Nat} {xs : Nat → Int32} {d : Nat} {Q : Option Value → jm_h → Prop} (hd : 4 ≤ d) (F : Nat → sy_d) (X1 X2 : List jm_c) (hB : iv_in F iv_B4)
    (h0 : (sy_i F 6).toInt = 0)
    (h1 : 0 ≤ (sy_i F 4).toInt ∧ (sy_i F 4).toInt < 403)
    (h2 : ((sy_ai F 25).getD (sy_i F 4).toNatClampNeg 0).toInt ≠ 1)
    (h3 : (sy_i F 6).toInt ≤ 0)
    (h4 : 0 ≤ (sy_i F 4).toInt ∧ (sy_i F 4).toInt < 403)
    (k : ∀ F1 : Nat → sy_d, (∀ j, j < 69 → j ≠ 6 ∧ j ≠ 7 → F1 j = F j) → F1 6 = .inl (.int ((1 : Int32))) → F1 7 = .inl (.int ((sy_ai F 26).getD (sy_i F 4).toNatClampNeg 0)) → F1 69 = .inl (.int (sy_i F 4)) → F1 70 = .inl (.int ((0 : Int32))) → hd_W Ls xs d jm_M155 Q (12, sy_dL F1 [some (.inl (.ref 1000)), some (.inr (.inl 69)), some (.inr (.inl 70))], sy_dS F1 [], sy_dh F1 X1 X2 (iv_H 4), 0, 0)) :
    hd_W Ls xs d jm_M155 Q (0, sy_dL F [some (.inl (.ref 1000)), none, none], sy_dS F [], sy_dh F X1 X2 (iv_H 4), 0, 0) := by
  refine hd_run (s := 4) (nv := 69) (pc := 12) (L := [some (.inl (.ref 1000)), some (.inr (.inl 69)), some (.inr (.inl 70))]) (S := []) (uh := hd_ov (iv_id 0 iv_B4) [(6, .inl (.inl (.int 1))), (7, .inl (.inr (.inl 70)))]) (ul := [.inl (.inr (.inl 4)), .inl (.inl (.int 0))]) (f := true) (sp := [12]) (d0 := 3) (O := [false, true, true]) (T := [(30, [.inr (.inl 4)], [.inr (.inl 25)]), (30, [.inr (.inl 4)], [.inr (.inl 26)])]) (P := [(0, .inr (.inl 6), .inl (.int 0)), (6, .inr (.inl 4), .inl (.ref 403)), (1, .inr (.inl 69), .inl (.int 1)), (4, .inr (.inl 6), .inl (.int 0)), (6, .inr (.inl 4), .inl (.ref 403))]) jm_ok155 (by decide +kernel) (by decide +kernel) hd F X1 X2 (fun F' hF hs => ?_)
  have b6 := hd_b (F := F) (F' := F') (k := 6) (hF 6 (by decide))
  have b4 := hd_b (F := F) (F' := F') (k := 4) (hF 4 (by decide))
  have a25 := hd_ba (F := F) (F' := F') (k := 25) (hF 25 (by decide))
  have t69 : sy_dv F' (.inr (.inl 69)) = .int ((sy_ai F 25).getD (sy_i F 4).toNatClampNeg 0) := hd_rd (hs 0 _ rfl) b4 a25
  have a26 := hd_ba (F := F) (F' := F') (k := 26) (hF 26 (by decide))
  have t70 : sy_dv F' (.inr (.inl 70)) = .int ((sy_ai F 26).getD (sy_i F 4).toNatClampNeg 0) := hd_rd (hs 1 _ rfl) b4 a26
  have hB' : iv_in F' iv_B4 := iv_in_eq hB (fun j hj => hF j (Nat.lt_of_lt_of_le hj (by decide +kernel)))
  refine ⟨List.forall_mem_cons.mpr ⟨hd_p0 b6 rfl (by have hc : ((0) : Int32).toInt = 0 := (by decide); omega), List.forall_mem_cons.mpr ⟨hd_pb b4 (by first | exact h1 | exact h1), List.forall_mem_cons.mpr ⟨hd_p1 t69 rfl (by have hc : ((1) : Int32).toInt = 1 := (by decide); omega), List.forall_mem_cons.mpr ⟨hd_p4 b6 rfl (by have hc : ((0) : Int32).toInt = 0 := (by decide); omega), List.forall_mem_cons.mpr ⟨hd_pb b4 (by first | exact h4 | exact h4), fun _ h => absurd h List.not_mem_nil⟩⟩⟩⟩⟩, ?_⟩
  refine k _ ?_ ?_ ?_ ?_ ?_
  · exact fun j hj hn => (hd_keep hB' (Nat.lt_of_lt_of_le hj (by decide +kernel)) (by simp; omega)).trans (hF j (Nat.lt_of_lt_of_le hj (by decide)))
  · exact hd_gi (x := .inl (.int 1)) (by decide +kernel) rfl
  · exact hd_gi (x := .inr (.inl 70)) (by decide +kernel) t70
  · exact hd_gi (x := .inr (.inl 4)) (by decide +kernel) b4
  · exact hd_gi (x := .inl (.int 0)) (by decide +kernel) rfl
theorem na_0_p2 {Ls : Nat} {xs : Nat → Int32} {d : Nat} {Q : Option Value → jm_h → Prop} (hd : 4 ≤ d) (F : Nat → sy_d) (X1 X2 : List jm_c) (hB : iv_in F iv_B4)
    (h0 : (sy_i F 6).toInt = 0)
    (h1 : 0 ≤ (sy_i F 4).toInt ∧ (sy_i F 4).toInt < 403)
    (h2 : ((sy_ai F 25).getD (sy_i F 4).toNatClampNeg 0).toInt = 1)
    (h3 : (sy_i F 4).toInt ≠ 400)
    (k : ∀ F1 : Nat → sy_d, (∀ j, j < 69 → j ≠ 4 → F1 j = F j) → F1 4 = .inl (.int ((sy_i F 4) + ((1 : Int32)))) → F1 69 = .inl (.int (sy_i F 4)) → F1 70 = .inl (.int ((0 : Int32))) → hd_W Ls xs d jm_M155 Q (12, sy_dL F1 [some (.inl (.ref 1000)), some (.inr (.inl 69)), some (.inr (.inl 70))], sy_dS F1 [], sy_dh F1 X1 X2 (iv_H 4), 0, 0)) :
    hd_W Ls xs d jm_M155 Q (0, sy_dL F [some (.inl (.ref 1000)), none, none], sy_dS F [], sy_dh F X1 X2 (iv_H 4), 0, 0) := by
  refine hd_run (s := 4) (nv := 69) (pc := 12) (L := [some (.inl (.ref 1000)), some (.inr (.inl 69)), some (.inr (.inl 70))]) (S := []) (uh := hd_ov (iv_id 0 iv_B4) [(4, .inl (.inr (.inl 70)))]) (ul := [.inl (.inr (.inl 4)), .inl (.inl (.int 0))]) (f := true) (sp := [12]) (d0 := 3) (O := [false, false, true]) (T := [(30, [.inr (.inl 4)], [.inr (.inl 25)]), (0, [.inr (.inl 4), .inl (.int 1)], [])]) (P := [(0, .inr (.inl 6), .inl (.int 0)), (6, .inr (.inl 4), .inl (.ref 403)), (0, .inr (.inl 69), .inl (.int 1)), (1, .inr (.inl 4), .inl (.int 400))]) jm_ok155 (by decide +kernel) (by decide +kernel) hd F X1 X2 (fun F' hF hs => ?_)
  have b6 := hd_b (F := F) (F' := F') (k := 6) (hF 6 (by decide))
  have b4 := hd_b (F := F) (F' := F') (k := 4) (hF 4 (by decide))
  have a25 := hd_ba (F := F) (F' := F') (k := 25) (hF 25 (by decide))
  have t69 : sy_dv F' (.inr (.inl 69)) = .int ((sy_ai F 25).getD (sy_i F 4).toNatClampNeg 0) := hd_rd (hs 0 _ rfl) b4 a25
  have t70 : sy_dv F' (.inr (.inl 70)) = .int ((sy_i F 4) + ((1 : Int32))) := hd_o (hs 1 _ rfl) b4 rfl rfl
  have hB' : iv_in F' iv_B4 := iv_in_eq hB (fun j hj => hF j (Nat.lt_of_lt_of_le hj (by decide +kernel)))
  refine ⟨List.forall_mem_cons.mpr ⟨hd_p0 b6 rfl (by have hc : ((0) : Int32).toInt = 0 := (by decide); omega), List.forall_mem_cons.mpr ⟨hd_pb b4 (by first | exact h1 | exact h1), List.forall_mem_cons.mpr ⟨hd_p0 t69 rfl (by have hc : ((1) : Int32).toInt = 1 := (by decide); omega), List.forall_mem_cons.mpr ⟨hd_p1 b4 rfl (by have hc : ((400) : Int32).toInt = 400 := (by decide); omega), fun _ h => absurd h List.not_mem_nil⟩⟩⟩⟩, ?_⟩
  refine k _ ?_ ?_ ?_ ?_
  · exact fun j hj hn => (hd_keep hB' (Nat.lt_of_lt_of_le hj (by decide +kernel)) (by simp; omega)).trans (hF j (Nat.lt_of_lt_of_le hj (by decide)))
  · exact hd_gi (x := .inr (.inl 70)) (by decide +kernel) t70
  · exact hd_gi (x := .inr (.inl 4)) (by decide +kernel) b4
  · exact hd_gi (x := .inl (.int 0)) (by decide +kernel) rfl
theorem na_0_p3 {Ls : Nat} {xs : Nat → Int32} {d : Nat} {Q : Option Value → jm_h → Prop} (hd : 4 ≤ d) (F : Nat → sy_d) (X1 X2 : List jm_c) (hB : iv_in F iv_B4)
    (h0 : (sy_i F 6).toInt = 0)
    (h1 : 0 ≤ (sy_i F 4).toInt ∧ (sy_i F 4).toInt < 403)
    (h2 : ((sy_ai F 25).getD (sy_i F 4).toNatClampNeg 0).toInt = 1)
    (h3 : (sy_i F 4).toInt = 400)
    (h4 : (sy_i F 6).toInt ≤ 0)
    (h5 : 0 ≤ (sy_i F 4).toInt ∧ (sy_i F 4).toInt < 403)
    (k : ∀ F1 : Nat → sy_d, (∀ j, j < 69 → j ≠ 6 ∧ j ≠ 7 → F1 j = F j) → F1 6 = .inl (.int ((2 : Int32))) → F1 7 = .inl (.int ((sy_ai F 26).getD (sy_i F 4).toNatClampNeg 0)) → F1 69 = .inl (.int (sy_i F 4)) → F1 70 = .inl (.int ((0 : Int32))) → hd_W Ls xs d jm_M155 Q (12, sy_dL F1 [some (.inl (.ref 1000)), some (.inr (.inl 69)), some (.inr (.inl 70))], sy_dS F1 [], sy_dh F1 X1 X2 (iv_H 4), 0, 0)) :
    hd_W Ls xs d jm_M155 Q (0, sy_dL F [some (.inl (.ref 1000)), none, none], sy_dS F [], sy_dh F X1 X2 (iv_H 4), 0, 0) := by
  refine hd_run (s := 4) (nv := 69) (pc := 12) (L := [some (.inl (.ref 1000)), some (.inr (.inl 69)), some (.inr (.inl 70))]) (S := []) (uh := hd_ov (iv_id 0 iv_B4) [(6, .inl (.inl (.int 2))), (7, .inl (.inr (.inl 70)))]) (ul := [.inl (.inr (.inl 4)), .inl (.inl (.int 0))]) (f := true) (sp := [12]) (d0 := 3) (O := [false, false, false, true]) (T := [(30, [.inr (.inl 4)], [.inr (.inl 25)]), (30, [.inr (.inl 4)], [.inr (.inl 26)])]) (P := [(0, .inr (.inl 6), .inl (.int 0)), (6, .inr (.inl 4), .inl (.ref 403)), (0, .inr (.inl 69), .inl (.int 1)), (0, .inr (.inl 4), .inl (.int 400)), (4, .inr (.inl 6), .inl (.int 0)), (6, .inr (.inl 4), .inl (.ref 403))]) jm_ok155 (by decide +kernel) (by decide +kernel) hd F X1 X2 (fun F' hF hs => ?_)
  have b6 := hd_b (F := F) (F' := F') (k := 6) (hF 6 (by decide))
  have b4 := hd_b (F := F) (F' := F') (k := 4) (hF 4 (by decide))
  have a25 := hd_ba (F := F) (F' := F') (k := 25) (hF 25 (by decide))
  have t69 : sy_dv F' (.inr (.inl 69)) = .int ((sy_ai F 25).getD (sy_i F 4).toNatClampNeg 0) := hd_rd (hs 0 _ rfl) b4 a25
  have a26 := hd_ba (F := F) (F' := F') (k := 26) (hF 26 (by decide))
  have t70 : sy_dv F' (.inr (.inl 70)) = .int ((sy_ai F 26).getD (sy_i F 4).toNatClampNeg 0) := hd_rd (hs 1 _ rfl) b4 a26
  have hB' : iv_in F' iv_B4 := iv_in_eq hB (fun j hj => hF j (Nat.lt_of_lt_of_le hj (by decide +kernel)))
  refine ⟨List.forall_mem_cons.mpr ⟨hd_p0 b6 rfl (by have hc : ((0) : Int32).toInt = 0 := (by decide); omega), List.forall_mem_cons.mpr ⟨hd_pb b4 (by first | exact h1 | exact h1), List.forall_mem_cons.mpr ⟨hd_p0 t69 rfl (by have hc : ((1) : Int32).toInt = 1 := (by decide); omega), List.forall_mem_cons.mpr ⟨hd_p0 b4 rfl (by have hc : ((400) : Int32).toInt = 400 := (by decide); omega), List.forall_mem_cons.mpr ⟨hd_p4 b6 rfl (by have hc : ((0) : Int32).toInt = 0 := (by decide); omega), List.forall_mem_cons.mpr ⟨hd_pb b4 (by first | exact h5 | exact h5), fun _ h => absurd h List.not_mem_nil⟩⟩⟩⟩⟩⟩, ?_⟩
  refine k _ ?_ ?_ ?_ ?_ ?_
  · exact fun j hj hn => (hd_keep hB' (Nat.lt_of_lt_of_le hj (by decide +kernel)) (by simp; omega)).trans (hF j (Nat.lt_of_lt_of_le hj (by decide)))
  · exact hd_gi (x := .inl (.int 2)) (by decide +kernel) rfl
  · exact hd_gi (x := .inr (.inl 70)) (by decide +kernel) t70
  · exact hd_gi (x := .inr (.inl 4)) (by decide +kernel) b4
  · exact hd_gi (x := .inl (.int 0)) (by decide +kernel) rfl
theorem na_12_p0 {Ls : Nat} {xs : Nat → Int32} {d : Nat} {Q : Option Value → jm_h → Prop} (hd : 4 ≤ d) (F : Nat → sy_d) (X1 X2 : List jm_c) (hB : iv_in F iv_B4)
    (h0 : (sy_i F 13).toInt ≤ (sy_i F 70).toInt)
    (k : ∀ F1 : Nat → sy_d, (∀ j, j < 69 → True → F1 j = F j) → Q (some (.int (sy_i F 69))) (sy_dh F1 X1 X2 (iv_H 4))) :
    hd_W Ls xs d jm_M155 Q (12, sy_dL F [some (.inl (.ref 1000)), some (.inr (.inl 69)), some (.inr (.inl 70))], sy_dS F [], sy_dh F X1 X2 (iv_H 4), 0, 0) := by
  refine hd_ret (s := 4) (nv := 71) (v := some (.inr (.inl 69))) (uh := hd_ov (iv_id 0 iv_B4) []) (f := true) (sp := [12]) (d0 := 3) (O := [true]) (T := []) (P := [(4, .inr (.inl 13), .inr (.inl 70))]) jm_ok155 (by decide +kernel) (by decide +kernel) hd F X1 X2 (fun F' hF hs => ?_)
  have b13 := hd_b (F := F) (F' := F') (k := 13) (hF 13 (by decide))
  have b70 := hd_b (F := F) (F' := F') (k := 70) (hF 70 (by decide))
  have b69 := hd_b (F := F) (F' := F') (k := 69) (hF 69 (by decide))
  have hB' : iv_in F' iv_B4 := iv_in_eq hB (fun j hj => hF j (Nat.lt_of_lt_of_le hj (by decide +kernel)))
  have hk := k (sy_cm F' (hd_ov (iv_id 0 iv_B4) [] ++ [])) (fun j hj _ => (hd_keep hB' (Nat.lt_of_lt_of_le hj (by decide +kernel)) (by simp)).trans (hF j (Nat.lt_of_lt_of_le hj (by decide))))
  refine ⟨List.forall_mem_cons.mpr ⟨hd_p4 b13 b70 h0, fun _ h => absurd h List.not_mem_nil⟩, ?_⟩
  show Q (some (sy_dv F' (.inr (.inl 69)))) _
  rw [b69]
  exact hk
theorem na_12_p1 {Ls : Nat} {xs : Nat → Int32} {d : Nat} {Q : Option Value → jm_h → Prop} (hd : 4 ≤ d) (F : Nat → sy_d) (X1 X2 : List jm_c) (hB : iv_in F iv_B4)
    (h0 : (sy_i F 70).toInt < (sy_i F 13).toInt)
    (h1 : (sy_i F 6).toInt ≠ 0)
    (k : ∀ F1 : Nat → sy_d, (∀ j, j < 69 → True → F1 j = F j) → Q (some (.int (sy_i F 69))) (sy_dh F1 X1 X2 (iv_H 4))) :
    hd_W Ls xs d jm_M155 Q (12, sy_dL F [some (.inl (.ref 1000)), some (.inr (.inl 69)), some (.inr (.inl 70))], sy_dS F [], sy_dh F X1 X2 (iv_H 4), 0, 0) := by
  refine hd_ret (s := 4) (nv := 71) (v := some (.inr (.inl 69))) (uh := hd_ov (iv_id 0 iv_B4) []) (f := true) (sp := [12]) (d0 := 3) (O := [false, true]) (T := []) (P := [(5, .inr (.inl 13), .inr (.inl 70)), (1, .inr (.inl 6), .inl (.int 0))]) jm_ok155 (by decide +kernel) (by decide +kernel) hd F X1 X2 (fun F' hF hs => ?_)
  have b13 := hd_b (F := F) (F' := F') (k := 13) (hF 13 (by decide))
  have b70 := hd_b (F := F) (F' := F') (k := 70) (hF 70 (by decide))
  have b6 := hd_b (F := F) (F' := F') (k := 6) (hF 6 (by decide))
  have b69 := hd_b (F := F) (F' := F') (k := 69) (hF 69 (by decide))
  have hB' : iv_in F' iv_B4 := iv_in_eq hB (fun j hj => hF j (Nat.lt_of_lt_of_le hj (by decide +kernel)))
  have hk := k (sy_cm F' (hd_ov (iv_id 0 iv_B4) [] ++ [])) (fun j hj _ => (hd_keep hB' (Nat.lt_of_lt_of_le hj (by decide +kernel)) (by simp)).trans (hF j (Nat.lt_of_lt_of_le hj (by decide))))
  refine ⟨List.forall_mem_cons.mpr ⟨hd_p5 b13 b70 h0, List.forall_mem_cons.mpr ⟨hd_p1 b6 rfl (by have hc : ((0) : Int32).toInt = 0 := (by decide); omega), fun _ h => absurd h List.not_mem_nil⟩⟩, ?_⟩
  show Q (some (sy_dv F' (.inr (.inl 69)))) _
  rw [b69]
  exact hk
theorem na_12_p2 {Ls : Nat} {xs : Nat → Int32} {d : Nat} {Q : Option Value → jm_h → Prop} (hd : 4 ≤ d) (F : Nat → sy_d) (X1 X2 : List jm_c) (hB : iv_in F iv_B4)
    (h0 : (sy_i F 70).toInt < (sy_i F 13).toInt)
    (h1 : (sy_i F 6).toInt = 0)
    (h2 : 0 ≤ (sy_i F 70).toInt ∧ (sy_i F 70).toInt < 11)
    (h3 : 0 ≤ (sy_i F 69).toInt ∧ (sy_i F 69).toInt < 403)
    (h4 : (lg_cmp ((sy_al F 30).getD (sy_i F 70).toNatClampNeg 0) ((sy_al F 28).getD (sy_i F 69).toNatClampNeg 0)).toInt ≠ 0)
    (k : ∀ F1 : Nat → sy_d, (∀ j, j < 69 → True → F1 j = F j) → F1 69 = .inl (.int (sy_i F 69)) → F1 70 = .inl (.int ((sy_i F 70) + ((1 : Int32)))) → hd_W Ls xs d jm_M155 Q (12, sy_dL F1 [some (.inl (.ref 1000)), some (.inr (.inl 69)), some (.inr (.inl 70))], sy_dS F1 [], sy_dh F1 X1 X2 (iv_H 4), 0, 0)) :
    hd_W Ls xs d jm_M155 Q (12, sy_dL F [some (.inl (.ref 1000)), some (.inr (.inl 69)), some (.inr (.inl 70))], sy_dS F [], sy_dh F X1 X2 (iv_H 4), 0, 0) := by
  refine hd_run (s := 4) (nv := 71) (pc := 12) (L := [some (.inl (.ref 1000)), some (.inr (.inl 69)), some (.inr (.inl 70))]) (S := []) (uh := hd_ov (iv_id 0 iv_B4) []) (ul := [.inl (.inr (.inl 69)), .inl (.inr (.inl 74))]) (f := true) (sp := [12]) (d0 := 3) (O := [false, false, true]) (T := [(30, [.inr (.inl 70)], [.inr (.inr 30)]), (30, [.inr (.inl 69)], [.inr (.inr 28)]), (17, [.inr (.inr 71), .inr (.inr 72)], []), (0, [.inr (.inl 70), .inl (.int 1)], [])]) (P := [(5, .inr (.inl 13), .inr (.inl 70)), (0, .inr (.inl 6), .inl (.int 0)), (6, .inr (.inl 70), .inl (.ref 11)), (6, .inr (.inl 69), .inl (.ref 403)), (1, .inr (.inl 73), .inl (.int 0))]) jm_ok155 (by decide +kernel) (by decide +kernel) hd F X1 X2 (fun F' hF hs => ?_)
  have b13 := hd_b (F := F) (F' := F') (k := 13) (hF 13 (by decide))
  have b70 := hd_b (F := F) (F' := F') (k := 70) (hF 70 (by decide))
  have b6 := hd_b (F := F) (F' := F') (k := 6) (hF 6 (by decide))
  have b69 := hd_b (F := F) (F' := F') (k := 69) (hF 69 (by decide))
  have a30 := hd_bA (F := F) (F' := F') (k := 30) (hF 30 (by decide))
  have t71 : sy_dv F' (.inr (.inr 71)) = .long ((sy_al F 30).getD (sy_i F 70).toNatClampNeg 0) := hd_rL (hs 0 _ rfl) b70 a30
  have a28 := hd_bA (F := F) (F' := F') (k := 28) (hF 28 (by decide))
  have t72 : sy_dv F' (.inr (.inr 72)) = .long ((sy_al F 28).getD (sy_i F 69).toNatClampNeg 0) := hd_rL (hs 1 _ rfl) b69 a28
  have t73 : sy_dv F' (.inr (.inl 73)) = .int (lg_cmp ((sy_al F 30).getD (sy_i F 70).toNatClampNeg 0) ((sy_al F 28).getD (sy_i F 69).toNatClampNeg 0)) := hd_oc (hs 2 _ rfl) t71 t72 rfl
  have t74 : sy_dv F' (.inr (.inl 74)) = .int ((sy_i F 70) + ((1 : Int32))) := hd_o (hs 3 _ rfl) b70 rfl rfl
  have hB' : iv_in F' iv_B4 := iv_in_eq hB (fun j hj => hF j (Nat.lt_of_lt_of_le hj (by decide +kernel)))
  refine ⟨List.forall_mem_cons.mpr ⟨hd_p5 b13 b70 h0, List.forall_mem_cons.mpr ⟨hd_p0 b6 rfl (by have hc : ((0) : Int32).toInt = 0 := (by decide); omega), List.forall_mem_cons.mpr ⟨hd_pb b70 (by first | exact h2 | exact h2), List.forall_mem_cons.mpr ⟨hd_pb b69 (by first | exact h3 | exact h3), List.forall_mem_cons.mpr ⟨hd_p1 t73 rfl (by have hc : ((0) : Int32).toInt = 0 := (by decide); omega), fun _ h => absurd h List.not_mem_nil⟩⟩⟩⟩⟩, ?_⟩
  refine k _ ?_ ?_ ?_
  · exact fun j hj _ => (hd_keep hB' (Nat.lt_of_lt_of_le hj (by decide +kernel)) (by simp)).trans (hF j (Nat.lt_of_lt_of_le hj (by decide)))
  · exact hd_gi (x := .inr (.inl 69)) (by decide +kernel) b69
  · exact hd_gi (x := .inr (.inl 74)) (by decide +kernel) t74
theorem na_12_p3 {Ls : Nat} {xs : Nat → Int32} {d : Nat} {Q : Option Value → jm_h → Prop} (hd : 4 ≤ d) (F : Nat → sy_d) (X1 X2 : List jm_c) (hB : iv_in F iv_B4)
    (h0 : (sy_i F 70).toInt < (sy_i F 13).toInt)
    (h1 : (sy_i F 6).toInt = 0)
    (h2 : 0 ≤ (sy_i F 70).toInt ∧ (sy_i F 70).toInt < 11)
    (h3 : 0 ≤ (sy_i F 69).toInt ∧ (sy_i F 69).toInt < 403)
    (h4 : (lg_cmp ((sy_al F 30).getD (sy_i F 70).toNatClampNeg 0) ((sy_al F 28).getD (sy_i F 69).toNatClampNeg 0)).toInt = 0)
    (h5 : 0 ≤ (sy_i F 69).toInt ∧ (sy_i F 69).toInt < 403)
    (h6 : (sy_i F 6).toInt ≤ 0)
    (h7 : (sy_i F 8).toInt = 0)
    (k : ∀ F1 : Nat → sy_d, (∀ j, j < 69 → j ≠ 8 ∧ j ≠ 9 → F1 j = F j) → F1 8 = .inl (.int ((3 : Int32))) → F1 9 = .inl (.int ((sy_ai F 26).getD (sy_i F 69).toNatClampNeg 0)) → F1 69 = .inl (.int (sy_i F 69)) → F1 70 = .inl (.int ((sy_i F 70) + ((1 : Int32)))) → hd_W Ls xs d jm_M155 Q (12, sy_dL F1 [some (.inl (.ref 1000)), some (.inr (.inl 69)), some (.inr (.inl 70))], sy_dS F1 [], sy_dh F1 X1 X2 (iv_H 4), 0, 0)) :
    hd_W Ls xs d jm_M155 Q (12, sy_dL F [some (.inl (.ref 1000)), some (.inr (.inl 69)), some (.inr (.inl 70))], sy_dS F [], sy_dh F X1 X2 (iv_H 4), 0, 0) := by
  refine hd_run (s := 4) (nv := 71) (pc := 12) (L := [some (.inl (.ref 1000)), some (.inr (.inl 69)), some (.inr (.inl 70))]) (S := []) (uh := hd_ov (iv_id 0 iv_B4) [(8, .inl (.inl (.int 3))), (9, .inl (.inr (.inl 74)))]) (ul := [.inl (.inr (.inl 69)), .inl (.inr (.inl 75))]) (f := true) (sp := [12]) (d0 := 3) (O := [false, false, false, false, true]) (T := [(30, [.inr (.inl 70)], [.inr (.inr 30)]), (30, [.inr (.inl 69)], [.inr (.inr 28)]), (17, [.inr (.inr 71), .inr (.inr 72)], []), (30, [.inr (.inl 69)], [.inr (.inl 26)]), (0, [.inr (.inl 70), .inl (.int 1)], [])]) (P := [(5, .inr (.inl 13), .inr (.inl 70)), (0, .inr (.inl 6), .inl (.int 0)), (6, .inr (.inl 70), .inl (.ref 11)), (6, .inr (.inl 69), .inl (.ref 403)), (0, .inr (.inl 73), .inl (.int 0)), (6, .inr (.inl 69), .inl (.ref 403)), (3, .inl (.int 0), .inr (.inl 6)), (0, .inr (.inl 8), .inl (.int 0))]) jm_ok155 (by decide +kernel) (by decide +kernel) hd F X1 X2 (fun F' hF hs => ?_)
  have b13 := hd_b (F := F) (F' := F') (k := 13) (hF 13 (by decide))
  have b70 := hd_b (F := F) (F' := F') (k := 70) (hF 70 (by decide))
  have b6 := hd_b (F := F) (F' := F') (k := 6) (hF 6 (by decide))
  have b69 := hd_b (F := F) (F' := F') (k := 69) (hF 69 (by decide))
  have a30 := hd_bA (F := F) (F' := F') (k := 30) (hF 30 (by decide))
  have t71 : sy_dv F' (.inr (.inr 71)) = .long ((sy_al F 30).getD (sy_i F 70).toNatClampNeg 0) := hd_rL (hs 0 _ rfl) b70 a30
  have a28 := hd_bA (F := F) (F' := F') (k := 28) (hF 28 (by decide))
  have t72 : sy_dv F' (.inr (.inr 72)) = .long ((sy_al F 28).getD (sy_i F 69).toNatClampNeg 0) := hd_rL (hs 1 _ rfl) b69 a28
  have t73 : sy_dv F' (.inr (.inl 73)) = .int (lg_cmp ((sy_al F 30).getD (sy_i F 70).toNatClampNeg 0) ((sy_al F 28).getD (sy_i F 69).toNatClampNeg 0)) := hd_oc (hs 2 _ rfl) t71 t72 rfl
  have b8 := hd_b (F := F) (F' := F') (k := 8) (hF 8 (by decide))
  have a26 := hd_ba (F := F) (F' := F') (k := 26) (hF 26 (by decide))
  have t74 : sy_dv F' (.inr (.inl 74)) = .int ((sy_ai F 26).getD (sy_i F 69).toNatClampNeg 0) := hd_rd (hs 3 _ rfl) b69 a26
  have t75 : sy_dv F' (.inr (.inl 75)) = .int ((sy_i F 70) + ((1 : Int32))) := hd_o (hs 4 _ rfl) b70 rfl rfl
  have hB' : iv_in F' iv_B4 := iv_in_eq hB (fun j hj => hF j (Nat.lt_of_lt_of_le hj (by decide +kernel)))
  refine ⟨List.forall_mem_cons.mpr ⟨hd_p5 b13 b70 h0, List.forall_mem_cons.mpr ⟨hd_p0 b6 rfl (by have hc : ((0) : Int32).toInt = 0 := (by decide); omega), List.forall_mem_cons.mpr ⟨hd_pb b70 (by first | exact h2 | exact h2), List.forall_mem_cons.mpr ⟨hd_pb b69 (by first | exact h3 | exact h3), List.forall_mem_cons.mpr ⟨hd_p0 t73 rfl (by have hc : ((0) : Int32).toInt = 0 := (by decide); omega), List.forall_mem_cons.mpr ⟨hd_pb b69 (by first | exact h5 | exact h5), List.forall_mem_cons.mpr ⟨hd_p3 rfl b6 (by have hc : ((0) : Int32).toInt = 0 := (by decide); omega), List.forall_mem_cons.mpr ⟨hd_p0 b8 rfl (by have hc : ((0) : Int32).toInt = 0 := (by decide); omega), fun _ h => absurd h List.not_mem_nil⟩⟩⟩⟩⟩⟩⟩⟩, ?_⟩
  refine k _ ?_ ?_ ?_ ?_ ?_
  · exact fun j hj hn => (hd_keep hB' (Nat.lt_of_lt_of_le hj (by decide +kernel)) (by simp; omega)).trans (hF j (Nat.lt_of_lt_of_le hj (by decide)))
  · exact hd_gi (x := .inl (.int 3)) (by decide +kernel) rfl
  · exact hd_gi (x := .inr (.inl 74)) (by decide +kernel) t74
  · exact hd_gi (x := .inr (.inl 69)) (by decide +kernel) b69
  · exact hd_gi (x := .inr (.inl 75)) (by decide +kernel) t75
theorem na_12_p4 {Ls : Nat} {xs : Nat → Int32} {d : Nat} {Q : Option Value → jm_h → Prop} (hd : 4 ≤ d) (F : Nat → sy_d) (X1 X2 : List jm_c) (hB : iv_in F iv_B4)
    (h0 : (sy_i F 70).toInt < (sy_i F 13).toInt)
    (h1 : (sy_i F 6).toInt = 0)
    (h2 : 0 ≤ (sy_i F 70).toInt ∧ (sy_i F 70).toInt < 11)
    (h3 : 0 ≤ (sy_i F 69).toInt ∧ (sy_i F 69).toInt < 403)
    (h4 : (lg_cmp ((sy_al F 30).getD (sy_i F 70).toNatClampNeg 0) ((sy_al F 28).getD (sy_i F 69).toNatClampNeg 0)).toInt = 0)
    (h5 : 0 ≤ (sy_i F 69).toInt ∧ (sy_i F 69).toInt < 403)
    (h6 : (sy_i F 6).toInt ≤ 0)
    (h7 : (sy_i F 8).toInt ≠ 0)
    (h8 : (sy_i F 9).toInt < ((sy_ai F 26).getD (sy_i F 69).toNatClampNeg 0).toInt)
    (k : ∀ F1 : Nat → sy_d, (∀ j, j < 69 → True → F1 j = F j) → F1 69 = .inl (.int (sy_i F 69)) → F1 70 = .inl (.int ((sy_i F 70) + ((1 : Int32)))) → hd_W Ls xs d jm_M155 Q (12, sy_dL F1 [some (.inl (.ref 1000)), some (.inr (.inl 69)), some (.inr (.inl 70))], sy_dS F1 [], sy_dh F1 X1 X2 (iv_H 4), 0, 0)) :
    hd_W Ls xs d jm_M155 Q (12, sy_dL F [some (.inl (.ref 1000)), some (.inr (.inl 69)), some (.inr (.inl 70))], sy_dS F [], sy_dh F X1 X2 (iv_H 4), 0, 0) := by
  refine hd_run (s := 4) (nv := 71) (pc := 12) (L := [some (.inl (.ref 1000)), some (.inr (.inl 69)), some (.inr (.inl 70))]) (S := []) (uh := hd_ov (iv_id 0 iv_B4) []) (ul := [.inl (.inr (.inl 69)), .inl (.inr (.inl 75))]) (f := true) (sp := [12]) (d0 := 3) (O := [false, false, false, false, false, true]) (T := [(30, [.inr (.inl 70)], [.inr (.inr 30)]), (30, [.inr (.inl 69)], [.inr (.inr 28)]), (17, [.inr (.inr 71), .inr (.inr 72)], []), (30, [.inr (.inl 69)], [.inr (.inl 26)]), (0, [.inr (.inl 70), .inl (.int 1)], [])]) (P := [(5, .inr (.inl 13), .inr (.inl 70)), (0, .inr (.inl 6), .inl (.int 0)), (6, .inr (.inl 70), .inl (.ref 11)), (6, .inr (.inl 69), .inl (.ref 403)), (0, .inr (.inl 73), .inl (.int 0)), (6, .inr (.inl 69), .inl (.ref 403)), (3, .inl (.int 0), .inr (.inl 6)), (1, .inr (.inl 8), .inl (.int 0)), (2, .inr (.inl 9), .inr (.inl 74))]) jm_ok155 (by decide +kernel) (by decide +kernel) hd F X1 X2 (fun F' hF hs => ?_)
  have b13 := hd_b (F := F) (F' := F') (k := 13) (hF 13 (by decide))
  have b70 := hd_b (F := F) (F' := F') (k := 70) (hF 70 (by decide))
  have b6 := hd_b (F := F) (F' := F') (k := 6) (hF 6 (by decide))
  have b69 := hd_b (F := F) (F' := F') (k := 69) (hF 69 (by decide))
  have a30 := hd_bA (F := F) (F' := F') (k := 30) (hF 30 (by decide))
  have t71 : sy_dv F' (.inr (.inr 71)) = .long ((sy_al F 30).getD (sy_i F 70).toNatClampNeg 0) := hd_rL (hs 0 _ rfl) b70 a30
  have a28 := hd_bA (F := F) (F' := F') (k := 28) (hF 28 (by decide))
  have t72 : sy_dv F' (.inr (.inr 72)) = .long ((sy_al F 28).getD (sy_i F 69).toNatClampNeg 0) := hd_rL (hs 1 _ rfl) b69 a28
  have t73 : sy_dv F' (.inr (.inl 73)) = .int (lg_cmp ((sy_al F 30).getD (sy_i F 70).toNatClampNeg 0) ((sy_al F 28).getD (sy_i F 69).toNatClampNeg 0)) := hd_oc (hs 2 _ rfl) t71 t72 rfl
  have b8 := hd_b (F := F) (F' := F') (k := 8) (hF 8 (by decide))
  have b9 := hd_b (F := F) (F' := F') (k := 9) (hF 9 (by decide))
  have a26 := hd_ba (F := F) (F' := F') (k := 26) (hF 26 (by decide))
  have t74 : sy_dv F' (.inr (.inl 74)) = .int ((sy_ai F 26).getD (sy_i F 69).toNatClampNeg 0) := hd_rd (hs 3 _ rfl) b69 a26
  have t75 : sy_dv F' (.inr (.inl 75)) = .int ((sy_i F 70) + ((1 : Int32))) := hd_o (hs 4 _ rfl) b70 rfl rfl
  have hB' : iv_in F' iv_B4 := iv_in_eq hB (fun j hj => hF j (Nat.lt_of_lt_of_le hj (by decide +kernel)))
  refine ⟨List.forall_mem_cons.mpr ⟨hd_p5 b13 b70 h0, List.forall_mem_cons.mpr ⟨hd_p0 b6 rfl (by have hc : ((0) : Int32).toInt = 0 := (by decide); omega), List.forall_mem_cons.mpr ⟨hd_pb b70 (by first | exact h2 | exact h2), List.forall_mem_cons.mpr ⟨hd_pb b69 (by first | exact h3 | exact h3), List.forall_mem_cons.mpr ⟨hd_p0 t73 rfl (by have hc : ((0) : Int32).toInt = 0 := (by decide); omega), List.forall_mem_cons.mpr ⟨hd_pb b69 (by first | exact h5 | exact h5), List.forall_mem_cons.mpr ⟨hd_p3 rfl b6 (by have hc : ((0) : Int32).toInt = 0 := (by decide); omega), List.forall_mem_cons.mpr ⟨hd_p1 b8 rfl (by have hc : ((0) : Int32).toInt = 0 := (by decide); omega), List.forall_mem_cons.mpr ⟨hd_p2 b9 t74 h8, fun _ h => absurd h List.not_mem_nil⟩⟩⟩⟩⟩⟩⟩⟩⟩, ?_⟩
  refine k _ ?_ ?_ ?_
  · exact fun j hj _ => (hd_keep hB' (Nat.lt_of_lt_of_le hj (by decide +kernel)) (by simp)).trans (hF j (Nat.lt_of_lt_of_le hj (by decide)))
  · exact hd_gi (x := .inr (.inl 69)) (by decide +kernel) b69
  · exact hd_gi (x := .inr (.inl 75)) (by decide +kernel) t75
theorem na_12_p5 {Ls : Nat} {xs : Nat → Int32} {d : Nat} {Q : Option Value → jm_h → Prop} (hd : 4 ≤ d) (F : Nat → sy_d) (X1 X2 : List jm_c) (hB : iv_in F iv_B4)
    (h0 : (sy_i F 70).toInt < (sy_i F 13).toInt)
    (h1 : (sy_i F 6).toInt = 0)
    (h2 : 0 ≤ (sy_i F 70).toInt ∧ (sy_i F 70).toInt < 11)
    (h3 : 0 ≤ (sy_i F 69).toInt ∧ (sy_i F 69).toInt < 403)
    (h4 : (lg_cmp ((sy_al F 30).getD (sy_i F 70).toNatClampNeg 0) ((sy_al F 28).getD (sy_i F 69).toNatClampNeg 0)).toInt = 0)
    (h5 : 0 ≤ (sy_i F 69).toInt ∧ (sy_i F 69).toInt < 403)
    (h6 : (sy_i F 6).toInt ≤ 0)
    (h7 : (sy_i F 8).toInt ≠ 0)
    (h8 : ((sy_ai F 26).getD (sy_i F 69).toNatClampNeg 0).toInt ≤ (sy_i F 9).toInt)
    (h9 : ((sy_ai F 26).getD (sy_i F 69).toNatClampNeg 0).toInt ≠ (sy_i F 9).toInt)
    (k : ∀ F1 : Nat → sy_d, (∀ j, j < 69 → j ≠ 8 ∧ j ≠ 9 → F1 j = F j) → F1 8 = .inl (.int ((3 : Int32))) → F1 9 = .inl (.int ((sy_ai F 26).getD (sy_i F 69).toNatClampNeg 0)) → F1 69 = .inl (.int (sy_i F 69)) → F1 70 = .inl (.int ((sy_i F 70) + ((1 : Int32)))) → hd_W Ls xs d jm_M155 Q (12, sy_dL F1 [some (.inl (.ref 1000)), some (.inr (.inl 69)), some (.inr (.inl 70))], sy_dS F1 [], sy_dh F1 X1 X2 (iv_H 4), 0, 0)) :
    hd_W Ls xs d jm_M155 Q (12, sy_dL F [some (.inl (.ref 1000)), some (.inr (.inl 69)), some (.inr (.inl 70))], sy_dS F [], sy_dh F X1 X2 (iv_H 4), 0, 0) := by
  refine hd_run (s := 4) (nv := 71) (pc := 12) (L := [some (.inl (.ref 1000)), some (.inr (.inl 69)), some (.inr (.inl 70))]) (S := []) (uh := hd_ov (iv_id 0 iv_B4) [(8, .inl (.inl (.int 3))), (9, .inl (.inr (.inl 74)))]) (ul := [.inl (.inr (.inl 69)), .inl (.inr (.inl 75))]) (f := true) (sp := [12]) (d0 := 3) (O := [false, false, false, false, false, false, true]) (T := [(30, [.inr (.inl 70)], [.inr (.inr 30)]), (30, [.inr (.inl 69)], [.inr (.inr 28)]), (17, [.inr (.inr 71), .inr (.inr 72)], []), (30, [.inr (.inl 69)], [.inr (.inl 26)]), (0, [.inr (.inl 70), .inl (.int 1)], [])]) (P := [(5, .inr (.inl 13), .inr (.inl 70)), (0, .inr (.inl 6), .inl (.int 0)), (6, .inr (.inl 70), .inl (.ref 11)), (6, .inr (.inl 69), .inl (.ref 403)), (0, .inr (.inl 73), .inl (.int 0)), (6, .inr (.inl 69), .inl (.ref 403)), (3, .inl (.int 0), .inr (.inl 6)), (1, .inr (.inl 8), .inl (.int 0)), (3, .inr (.inl 9), .inr (.inl 74)), (1, .inr (.inl 74), .inr (.inl 9))]) jm_ok155 (by decide +kernel) (by decide +kernel) hd F X1 X2 (fun F' hF hs => ?_)
  have b13 := hd_b (F := F) (F' := F') (k := 13) (hF 13 (by decide))
  have b70 := hd_b (F := F) (F' := F') (k := 70) (hF 70 (by decide))
  have b6 := hd_b (F := F) (F' := F') (k := 6) (hF 6 (by decide))
  have b69 := hd_b (F := F) (F' := F') (k := 69) (hF 69 (by decide))
  have a30 := hd_bA (F := F) (F' := F') (k := 30) (hF 30 (by decide))
  have t71 : sy_dv F' (.inr (.inr 71)) = .long ((sy_al F 30).getD (sy_i F 70).toNatClampNeg 0) := hd_rL (hs 0 _ rfl) b70 a30
  have a28 := hd_bA (F := F) (F' := F') (k := 28) (hF 28 (by decide))
  have t72 : sy_dv F' (.inr (.inr 72)) = .long ((sy_al F 28).getD (sy_i F 69).toNatClampNeg 0) := hd_rL (hs 1 _ rfl) b69 a28
  have t73 : sy_dv F' (.inr (.inl 73)) = .int (lg_cmp ((sy_al F 30).getD (sy_i F 70).toNatClampNeg 0) ((sy_al F 28).getD (sy_i F 69).toNatClampNeg 0)) := hd_oc (hs 2 _ rfl) t71 t72 rfl
  have b8 := hd_b (F := F) (F' := F') (k := 8) (hF 8 (by decide))
  have b9 := hd_b (F := F) (F' := F') (k := 9) (hF 9 (by decide))
  have a26 := hd_ba (F := F) (F' := F') (k := 26) (hF 26 (by decide))
  have t74 : sy_dv F' (.inr (.inl 74)) = .int ((sy_ai F 26).getD (sy_i F 69).toNatClampNeg 0) := hd_rd (hs 3 _ rfl) b69 a26
  have t75 : sy_dv F' (.inr (.inl 75)) = .int ((sy_i F 70) + ((1 : Int32))) := hd_o (hs 4 _ rfl) b70 rfl rfl
  have hB' : iv_in F' iv_B4 := iv_in_eq hB (fun j hj => hF j (Nat.lt_of_lt_of_le hj (by decide +kernel)))
  refine ⟨List.forall_mem_cons.mpr ⟨hd_p5 b13 b70 h0, List.forall_mem_cons.mpr ⟨hd_p0 b6 rfl (by have hc : ((0) : Int32).toInt = 0 := (by decide); omega), List.forall_mem_cons.mpr ⟨hd_pb b70 (by first | exact h2 | exact h2), List.forall_mem_cons.mpr ⟨hd_pb b69 (by first | exact h3 | exact h3), List.forall_mem_cons.mpr ⟨hd_p0 t73 rfl (by have hc : ((0) : Int32).toInt = 0 := (by decide); omega), List.forall_mem_cons.mpr ⟨hd_pb b69 (by first | exact h5 | exact h5), List.forall_mem_cons.mpr ⟨hd_p3 rfl b6 (by have hc : ((0) : Int32).toInt = 0 := (by decide); omega), List.forall_mem_cons.mpr ⟨hd_p1 b8 rfl (by have hc : ((0) : Int32).toInt = 0 := (by decide); omega), List.forall_mem_cons.mpr ⟨hd_p3 b9 t74 h8, List.forall_mem_cons.mpr ⟨hd_p1 t74 b9 h9, fun _ h => absurd h List.not_mem_nil⟩⟩⟩⟩⟩⟩⟩⟩⟩⟩, ?_⟩
  refine k _ ?_ ?_ ?_ ?_ ?_
  · exact fun j hj hn => (hd_keep hB' (Nat.lt_of_lt_of_le hj (by decide +kernel)) (by simp; omega)).trans (hF j (Nat.lt_of_lt_of_le hj (by decide)))
  · exact hd_gi (x := .inl (.int 3)) (by decide +kernel) rfl
  · exact hd_gi (x := .inr (.inl 74)) (by decide +kernel) t74
  · exact hd_gi (x := .inr (.inl 69)) (by decide +kernel) b69
  · exact hd_gi (x := .inr (.inl 75)) (by decide +kernel) t75
theorem na_12_p6 {Ls : Nat} {xs : Nat → Int32} {d : Nat} {Q : Option Value → jm_h → Prop} (hd : 4 ≤ d) (F : Nat → sy_d) (X1 X2 : List jm_c) (hB : iv_in F iv_B4)
    (h0 : (sy_i F 70).toInt < (sy_i F 13).toInt)
    (h1 : (sy_i F 6).toInt = 0)
    (h2 : 0 ≤ (sy_i F 70).toInt ∧ (sy_i F 70).toInt < 11)
    (h3 : 0 ≤ (sy_i F 69).toInt ∧ (sy_i F 69).toInt < 403)
    (h4 : (lg_cmp ((sy_al F 30).getD (sy_i F 70).toNatClampNeg 0) ((sy_al F 28).getD (sy_i F 69).toNatClampNeg 0)).toInt = 0)
    (h5 : 0 ≤ (sy_i F 69).toInt ∧ (sy_i F 69).toInt < 403)
    (h6 : (sy_i F 6).toInt ≤ 0)
    (h7 : (sy_i F 8).toInt ≠ 0)
    (h8 : ((sy_ai F 26).getD (sy_i F 69).toNatClampNeg 0).toInt ≤ (sy_i F 9).toInt)
    (h9 : ((sy_ai F 26).getD (sy_i F 69).toNatClampNeg 0).toInt = (sy_i F 9).toInt)
    (h10 : 3 < (sy_i F 8).toInt)
    (k : ∀ F1 : Nat → sy_d, (∀ j, j < 69 → j ≠ 8 ∧ j ≠ 9 → F1 j = F j) → F1 8 = .inl (.int ((3 : Int32))) → F1 9 = .inl (.int ((sy_ai F 26).getD (sy_i F 69).toNatClampNeg 0)) → F1 69 = .inl (.int (sy_i F 69)) → F1 70 = .inl (.int ((sy_i F 70) + ((1 : Int32)))) → hd_W Ls xs d jm_M155 Q (12, sy_dL F1 [some (.inl (.ref 1000)), some (.inr (.inl 69)), some (.inr (.inl 70))], sy_dS F1 [], sy_dh F1 X1 X2 (iv_H 4), 0, 0)) :
    hd_W Ls xs d jm_M155 Q (12, sy_dL F [some (.inl (.ref 1000)), some (.inr (.inl 69)), some (.inr (.inl 70))], sy_dS F [], sy_dh F X1 X2 (iv_H 4), 0, 0) := by
  refine hd_run (s := 4) (nv := 71) (pc := 12) (L := [some (.inl (.ref 1000)), some (.inr (.inl 69)), some (.inr (.inl 70))]) (S := []) (uh := hd_ov (iv_id 0 iv_B4) [(8, .inl (.inl (.int 3))), (9, .inl (.inr (.inl 74)))]) (ul := [.inl (.inr (.inl 69)), .inl (.inr (.inl 75))]) (f := true) (sp := [12]) (d0 := 3) (O := [false, false, false, false, false, false, false, true]) (T := [(30, [.inr (.inl 70)], [.inr (.inr 30)]), (30, [.inr (.inl 69)], [.inr (.inr 28)]), (17, [.inr (.inr 71), .inr (.inr 72)], []), (30, [.inr (.inl 69)], [.inr (.inl 26)]), (0, [.inr (.inl 70), .inl (.int 1)], [])]) (P := [(5, .inr (.inl 13), .inr (.inl 70)), (0, .inr (.inl 6), .inl (.int 0)), (6, .inr (.inl 70), .inl (.ref 11)), (6, .inr (.inl 69), .inl (.ref 403)), (0, .inr (.inl 73), .inl (.int 0)), (6, .inr (.inl 69), .inl (.ref 403)), (3, .inl (.int 0), .inr (.inl 6)), (1, .inr (.inl 8), .inl (.int 0)), (3, .inr (.inl 9), .inr (.inl 74)), (0, .inr (.inl 74), .inr (.inl 9)), (2, .inl (.int 3), .inr (.inl 8))]) jm_ok155 (by decide +kernel) (by decide +kernel) hd F X1 X2 (fun F' hF hs => ?_)
  have b13 := hd_b (F := F) (F' := F') (k := 13) (hF 13 (by decide))
  have b70 := hd_b (F := F) (F' := F') (k := 70) (hF 70 (by decide))
  have b6 := hd_b (F := F) (F' := F') (k := 6) (hF 6 (by decide))
  have b69 := hd_b (F := F) (F' := F') (k := 69) (hF 69 (by decide))
  have a30 := hd_bA (F := F) (F' := F') (k := 30) (hF 30 (by decide))
  have t71 : sy_dv F' (.inr (.inr 71)) = .long ((sy_al F 30).getD (sy_i F 70).toNatClampNeg 0) := hd_rL (hs 0 _ rfl) b70 a30
  have a28 := hd_bA (F := F) (F' := F') (k := 28) (hF 28 (by decide))
  have t72 : sy_dv F' (.inr (.inr 72)) = .long ((sy_al F 28).getD (sy_i F 69).toNatClampNeg 0) := hd_rL (hs 1 _ rfl) b69 a28
  have t73 : sy_dv F' (.inr (.inl 73)) = .int (lg_cmp ((sy_al F 30).getD (sy_i F 70).toNatClampNeg 0) ((sy_al F 28).getD (sy_i F 69).toNatClampNeg 0)) := hd_oc (hs 2 _ rfl) t71 t72 rfl
  have b8 := hd_b (F := F) (F' := F') (k := 8) (hF 8 (by decide))
  have b9 := hd_b (F := F) (F' := F') (k := 9) (hF 9 (by decide))
  have a26 := hd_ba (F := F) (F' := F') (k := 26) (hF 26 (by decide))
  have t74 : sy_dv F' (.inr (.inl 74)) = .int ((sy_ai F 26).getD (sy_i F 69).toNatClampNeg 0) := hd_rd (hs 3 _ rfl) b69 a26
  have t75 : sy_dv F' (.inr (.inl 75)) = .int ((sy_i F 70) + ((1 : Int32))) := hd_o (hs 4 _ rfl) b70 rfl rfl
  have hB' : iv_in F' iv_B4 := iv_in_eq hB (fun j hj => hF j (Nat.lt_of_lt_of_le hj (by decide +kernel)))
  refine ⟨List.forall_mem_cons.mpr ⟨hd_p5 b13 b70 h0, List.forall_mem_cons.mpr ⟨hd_p0 b6 rfl (by have hc : ((0) : Int32).toInt = 0 := (by decide); omega), List.forall_mem_cons.mpr ⟨hd_pb b70 (by first | exact h2 | exact h2), List.forall_mem_cons.mpr ⟨hd_pb b69 (by first | exact h3 | exact h3), List.forall_mem_cons.mpr ⟨hd_p0 t73 rfl (by have hc : ((0) : Int32).toInt = 0 := (by decide); omega), List.forall_mem_cons.mpr ⟨hd_pb b69 (by first | exact h5 | exact h5), List.forall_mem_cons.mpr ⟨hd_p3 rfl b6 (by have hc : ((0) : Int32).toInt = 0 := (by decide); omega), List.forall_mem_cons.mpr ⟨hd_p1 b8 rfl (by have hc : ((0) : Int32).toInt = 0 := (by decide); omega), List.forall_mem_cons.mpr ⟨hd_p3 b9 t74 h8, List.forall_mem_cons.mpr ⟨hd_p0 t74 b9 h9, List.forall_mem_cons.mpr ⟨hd_p2 rfl b8 (by have hc : ((3) : Int32).toInt = 3 := (by decide); omega), fun _ h => absurd h List.not_mem_nil⟩⟩⟩⟩⟩⟩⟩⟩⟩⟩⟩, ?_⟩
  refine k _ ?_ ?_ ?_ ?_ ?_
  · exact fun j hj hn => (hd_keep hB' (Nat.lt_of_lt_of_le hj (by decide +kernel)) (by simp; omega)).trans (hF j (Nat.lt_of_lt_of_le hj (by decide)))
  · exact hd_gi (x := .inl (.int 3)) (by decide +kernel) rfl
  · exact hd_gi (x := .inr (.inl 74)) (by decide +kernel) t74
  · exact hd_gi (x := .inr (.inl 69)) (by decide +kernel) b69
  · exact hd_gi (x := .inr (.inl 75)) (by decide +kernel) t75
theorem na_12_p7 {Ls : Nat} {xs : Nat → Int32} {d : Nat} {Q : Option Value → jm_h → Prop} (hd : 4 ≤ d) (F : Nat → sy_d) (X1 X2 : List jm_c) (hB : iv_in F iv_B4)
    (h0 : (sy_i F 70).toInt < (sy_i F 13).toInt)
    (h1 : (sy_i F 6).toInt = 0)
    (h2 : 0 ≤ (sy_i F 70).toInt ∧ (sy_i F 70).toInt < 11)
    (h3 : 0 ≤ (sy_i F 69).toInt ∧ (sy_i F 69).toInt < 403)
    (h4 : (lg_cmp ((sy_al F 30).getD (sy_i F 70).toNatClampNeg 0) ((sy_al F 28).getD (sy_i F 69).toNatClampNeg 0)).toInt = 0)
    (h5 : 0 ≤ (sy_i F 69).toInt ∧ (sy_i F 69).toInt < 403)
    (h6 : (sy_i F 6).toInt ≤ 0)
    (h7 : (sy_i F 8).toInt ≠ 0)
    (h8 : ((sy_ai F 26).getD (sy_i F 69).toNatClampNeg 0).toInt ≤ (sy_i F 9).toInt)
    (h9 : ((sy_ai F 26).getD (sy_i F 69).toNatClampNeg 0).toInt = (sy_i F 9).toInt)
    (h10 : (sy_i F 8).toInt ≤ 3)
    (k : ∀ F1 : Nat → sy_d, (∀ j, j < 69 → True → F1 j = F j) → F1 69 = .inl (.int (sy_i F 69)) → F1 70 = .inl (.int ((sy_i F 70) + ((1 : Int32)))) → hd_W Ls xs d jm_M155 Q (12, sy_dL F1 [some (.inl (.ref 1000)), some (.inr (.inl 69)), some (.inr (.inl 70))], sy_dS F1 [], sy_dh F1 X1 X2 (iv_H 4), 0, 0)) :
    hd_W Ls xs d jm_M155 Q (12, sy_dL F [some (.inl (.ref 1000)), some (.inr (.inl 69)), some (.inr (.inl 70))], sy_dS F [], sy_dh F X1 X2 (iv_H 4), 0, 0) := by
  refine hd_run (s := 4) (nv := 71) (pc := 12) (L := [some (.inl (.ref 1000)), some (.inr (.inl 69)), some (.inr (.inl 70))]) (S := []) (uh := hd_ov (iv_id 0 iv_B4) []) (ul := [.inl (.inr (.inl 69)), .inl (.inr (.inl 75))]) (f := true) (sp := [12]) (d0 := 3) (O := [false, false, false, false, false, false, false, false]) (T := [(30, [.inr (.inl 70)], [.inr (.inr 30)]), (30, [.inr (.inl 69)], [.inr (.inr 28)]), (17, [.inr (.inr 71), .inr (.inr 72)], []), (30, [.inr (.inl 69)], [.inr (.inl 26)]), (0, [.inr (.inl 70), .inl (.int 1)], [])]) (P := [(5, .inr (.inl 13), .inr (.inl 70)), (0, .inr (.inl 6), .inl (.int 0)), (6, .inr (.inl 70), .inl (.ref 11)), (6, .inr (.inl 69), .inl (.ref 403)), (0, .inr (.inl 73), .inl (.int 0)), (6, .inr (.inl 69), .inl (.ref 403)), (3, .inl (.int 0), .inr (.inl 6)), (1, .inr (.inl 8), .inl (.int 0)), (3, .inr (.inl 9), .inr (.inl 74)), (0, .inr (.inl 74), .inr (.inl 9)), (3, .inl (.int 3), .inr (.inl 8))]) jm_ok155 (by decide +kernel) (by decide +kernel) hd F X1 X2 (fun F' hF hs => ?_)
  have b13 := hd_b (F := F) (F' := F') (k := 13) (hF 13 (by decide))
  have b70 := hd_b (F := F) (F' := F') (k := 70) (hF 70 (by decide))
  have b6 := hd_b (F := F) (F' := F') (k := 6) (hF 6 (by decide))
  have b69 := hd_b (F := F) (F' := F') (k := 69) (hF 69 (by decide))
  have a30 := hd_bA (F := F) (F' := F') (k := 30) (hF 30 (by decide))
  have t71 : sy_dv F' (.inr (.inr 71)) = .long ((sy_al F 30).getD (sy_i F 70).toNatClampNeg 0) := hd_rL (hs 0 _ rfl) b70 a30
  have a28 := hd_bA (F := F) (F' := F') (k := 28) (hF 28 (by decide))
  have t72 : sy_dv F' (.inr (.inr 72)) = .long ((sy_al F 28).getD (sy_i F 69).toNatClampNeg 0) := hd_rL (hs 1 _ rfl) b69 a28
  have t73 : sy_dv F' (.inr (.inl 73)) = .int (lg_cmp ((sy_al F 30).getD (sy_i F 70).toNatClampNeg 0) ((sy_al F 28).getD (sy_i F 69).toNatClampNeg 0)) := hd_oc (hs 2 _ rfl) t71 t72 rfl
  have b8 := hd_b (F := F) (F' := F') (k := 8) (hF 8 (by decide))
  have b9 := hd_b (F := F) (F' := F') (k := 9) (hF 9 (by decide))
  have a26 := hd_ba (F := F) (F' := F') (k := 26) (hF 26 (by decide))
  have t74 : sy_dv F' (.inr (.inl 74)) = .int ((sy_ai F 26).getD (sy_i F 69).toNatClampNeg 0) := hd_rd (hs 3 _ rfl) b69 a26
  have t75 : sy_dv F' (.inr (.inl 75)) = .int ((sy_i F 70) + ((1 : Int32))) := hd_o (hs 4 _ rfl) b70 rfl rfl
  have hB' : iv_in F' iv_B4 := iv_in_eq hB (fun j hj => hF j (Nat.lt_of_lt_of_le hj (by decide +kernel)))
  refine ⟨List.forall_mem_cons.mpr ⟨hd_p5 b13 b70 h0, List.forall_mem_cons.mpr ⟨hd_p0 b6 rfl (by have hc : ((0) : Int32).toInt = 0 := (by decide); omega), List.forall_mem_cons.mpr ⟨hd_pb b70 (by first | exact h2 | exact h2), List.forall_mem_cons.mpr ⟨hd_pb b69 (by first | exact h3 | exact h3), List.forall_mem_cons.mpr ⟨hd_p0 t73 rfl (by have hc : ((0) : Int32).toInt = 0 := (by decide); omega), List.forall_mem_cons.mpr ⟨hd_pb b69 (by first | exact h5 | exact h5), List.forall_mem_cons.mpr ⟨hd_p3 rfl b6 (by have hc : ((0) : Int32).toInt = 0 := (by decide); omega), List.forall_mem_cons.mpr ⟨hd_p1 b8 rfl (by have hc : ((0) : Int32).toInt = 0 := (by decide); omega), List.forall_mem_cons.mpr ⟨hd_p3 b9 t74 h8, List.forall_mem_cons.mpr ⟨hd_p0 t74 b9 h9, List.forall_mem_cons.mpr ⟨hd_p3 rfl b8 (by have hc : ((3) : Int32).toInt = 3 := (by decide); omega), fun _ h => absurd h List.not_mem_nil⟩⟩⟩⟩⟩⟩⟩⟩⟩⟩⟩, ?_⟩
  refine k _ ?_ ?_ ?_
  · exact fun j hj _ => (hd_keep hB' (Nat.lt_of_lt_of_le hj (by decide +kernel)) (by simp)).trans (hF j (Nat.lt_of_lt_of_le hj (by decide)))
  · exact hd_gi (x := .inr (.inl 69)) (by decide +kernel) b69
  · exact hd_gi (x := .inr (.inl 75)) (by decide +kernel) t75
theorem en_0_p0 {Ls : Nat} {xs : Nat → Int32} {d : Nat} {Q : Option Value → jm_h → Prop} (hd : 4 ≤ d) (F : Nat → sy_d) (X1 X2 : List jm_c) (hB : iv_in F iv_B4)
    (h0 : (sy_i F 6).toInt ≠ 0)
    (h1 : 0 < (sy_i F 6).toInt)
    (h2 : 0 < (sy_i F 6).toInt)
    (k : ∀ F1 : Nat → sy_d, (∀ j, j < 69 → True → F1 j = F j) → Q (none) (sy_dh F1 X1 X2 (iv_H 4))) :
    hd_W Ls xs d jm_M156 Q (0, sy_dL F [some (.inl (.ref 1000)), some (.inr (.inl 69))], sy_dS F [], sy_dh F X1 X2 (iv_H 4), 0, 0) := by
  refine hd_ret (s := 4) (nv := 70) (v := none) (uh := hd_ov (iv_id 0 iv_B4) []) (f := true) (sp := []) (d0 := 3) (O := [true, false, false]) (T := []) (P := [(1, .inr (.inl 6), .inl (.int 0)), (5, .inr (.inl 6), .inl (.int 0)), (5, .inr (.inl 6), .inl (.int 0))]) jm_ok156 (by decide +kernel) (by decide +kernel) hd F X1 X2 (fun F' hF hs => ?_)
  have b6 := hd_b (F := F) (F' := F') (k := 6) (hF 6 (by decide))
  have hB' : iv_in F' iv_B4 := iv_in_eq hB (fun j hj => hF j (Nat.lt_of_lt_of_le hj (by decide +kernel)))
  refine ⟨List.forall_mem_cons.mpr ⟨hd_p1 b6 rfl (by have hc : ((0) : Int32).toInt = 0 := (by decide); omega), List.forall_mem_cons.mpr ⟨hd_p5 b6 rfl (by have hc : ((0) : Int32).toInt = 0 := (by decide); omega), List.forall_mem_cons.mpr ⟨hd_p5 b6 rfl (by have hc : ((0) : Int32).toInt = 0 := (by decide); omega), fun _ h => absurd h List.not_mem_nil⟩⟩⟩, ?_⟩
  refine k _ ?_
  · exact fun j hj _ => (hd_keep hB' (Nat.lt_of_lt_of_le hj (by decide +kernel)) (by simp)).trans (hF j (Nat.lt_of_lt_of_le hj (by decide)))
theorem en_0_p1 {Ls : Nat} {xs : Nat → Int32} {d : Nat} {Q : Option Value → jm_h → Prop} (hd : 4 ≤ d) (F : Nat → sy_d) (X1 X2 : List jm_c) (hB : iv_in F iv_B4)
    (h0 : (sy_i F 6).toInt = 0)
    (h1 : 0 ≤ (sy_i F 4).toInt ∧ (sy_i F 4).toInt < 403)
    (h2 : ((sy_ai F 25).getD (sy_i F 4).toNatClampNeg 0).toInt ≠ 4)
    (h3 : (sy_i F 6).toInt ≤ 0)
    (h4 : 0 ≤ (sy_i F 4).toInt ∧ (sy_i F 4).toInt < 403)
    (k : ∀ F1 : Nat → sy_d, (∀ j, j < 69 → j ≠ 6 ∧ j ≠ 7 → F1 j = F j) → F1 6 = .inl (.int ((1 : Int32))) → F1 7 = .inl (.int ((sy_ai F 26).getD (sy_i F 4).toNatClampNeg 0)) → Q (none) (sy_dh F1 X1 X2 (iv_H 4))) :
    hd_W Ls xs d jm_M156 Q (0, sy_dL F [some (.inl (.ref 1000)), some (.inr (.inl 69))], sy_dS F [], sy_dh F X1 X2 (iv_H 4), 0, 0) := by
  refine hd_ret (s := 4) (nv := 70) (v := none) (uh := hd_ov (iv_id 0 iv_B4) [(6, .inl (.inl (.int 1))), (7, .inl (.inr (.inl 71)))]) (f := true) (sp := []) (d0 := 3) (O := [false, true, true]) (T := [(30, [.inr (.inl 4)], [.inr (.inl 25)]), (30, [.inr (.inl 4)], [.inr (.inl 26)])]) (P := [(0, .inr (.inl 6), .inl (.int 0)), (6, .inr (.inl 4), .inl (.ref 403)), (1, .inr (.inl 70), .inl (.int 4)), (4, .inr (.inl 6), .inl (.int 0)), (6, .inr (.inl 4), .inl (.ref 403))]) jm_ok156 (by decide +kernel) (by decide +kernel) hd F X1 X2 (fun F' hF hs => ?_)
  have b6 := hd_b (F := F) (F' := F') (k := 6) (hF 6 (by decide))
  have b4 := hd_b (F := F) (F' := F') (k := 4) (hF 4 (by decide))
  have a25 := hd_ba (F := F) (F' := F') (k := 25) (hF 25 (by decide))
  have t70 : sy_dv F' (.inr (.inl 70)) = .int ((sy_ai F 25).getD (sy_i F 4).toNatClampNeg 0) := hd_rd (hs 0 _ rfl) b4 a25
  have a26 := hd_ba (F := F) (F' := F') (k := 26) (hF 26 (by decide))
  have t71 : sy_dv F' (.inr (.inl 71)) = .int ((sy_ai F 26).getD (sy_i F 4).toNatClampNeg 0) := hd_rd (hs 1 _ rfl) b4 a26
  have hB' : iv_in F' iv_B4 := iv_in_eq hB (fun j hj => hF j (Nat.lt_of_lt_of_le hj (by decide +kernel)))
  refine ⟨List.forall_mem_cons.mpr ⟨hd_p0 b6 rfl (by have hc : ((0) : Int32).toInt = 0 := (by decide); omega), List.forall_mem_cons.mpr ⟨hd_pb b4 (by first | exact h1 | exact h1), List.forall_mem_cons.mpr ⟨hd_p1 t70 rfl (by have hc : ((4) : Int32).toInt = 4 := (by decide); omega), List.forall_mem_cons.mpr ⟨hd_p4 b6 rfl (by have hc : ((0) : Int32).toInt = 0 := (by decide); omega), List.forall_mem_cons.mpr ⟨hd_pb b4 (by first | exact h4 | exact h4), fun _ h => absurd h List.not_mem_nil⟩⟩⟩⟩⟩, ?_⟩
  refine k _ ?_ ?_ ?_
  · exact fun j hj hn => (hd_keep hB' (Nat.lt_of_lt_of_le hj (by decide +kernel)) (by simp; omega)).trans (hF j (Nat.lt_of_lt_of_le hj (by decide)))
  · exact hd_gi (x := .inl (.int 1)) (by decide +kernel) rfl
  · exact hd_gi (x := .inr (.inl 71)) (by decide +kernel) t71
theorem en_0_p2 {Ls : Nat} {xs : Nat → Int32} {d : Nat} {Q : Option Value → jm_h → Prop} (hd : 4 ≤ d) (F : Nat → sy_d) (X1 X2 : List jm_c) (hB : iv_in F iv_B4)
    (h0 : (sy_i F 6).toInt = 0)
    (h1 : 0 ≤ (sy_i F 4).toInt ∧ (sy_i F 4).toInt < 403)
    (h2 : ((sy_ai F 25).getD (sy_i F 4).toNatClampNeg 0).toInt = 4)
    (h3 : (sy_i F 4).toInt ≠ 400)
    (h4 : (sy_i F 6).toInt ≤ 0)
    (h5 : 0 ≤ (sy_i F 69).toInt ∧ (sy_i F 69).toInt < 403)
    (h6 : 0 ≤ (sy_i F 13).toInt ∧ (sy_i F 13).toInt < 11)
    (k : ∀ F1 : Nat → sy_d, (∀ j, j < 69 → j ≠ 4 ∧ j ≠ 13 ∧ j ≠ 30 → F1 j = F j) → F1 4 = .inl (.int ((sy_i F 4) + ((1 : Int32)))) → F1 13 = .inl (.int ((sy_i F 13) + ((1 : Int32)))) → F1 30 = .inr (.inr (jm_updL (sy_al F 30) (sy_i F 13).toNatClampNeg ((sy_al F 28).getD (sy_i F 69).toNatClampNeg 0))) → Q (none) (sy_dh F1 X1 X2 (iv_H 4))) :
    hd_W Ls xs d jm_M156 Q (0, sy_dL F [some (.inl (.ref 1000)), some (.inr (.inl 69))], sy_dS F [], sy_dh F X1 X2 (iv_H 4), 0, 0) := by
  refine hd_ret (s := 4) (nv := 70) (v := none) (uh := hd_ov (iv_id 0 iv_B4) [(4, .inl (.inr (.inl 71))), (13, .inl (.inr (.inl 74))), (30, .inr (.inr (.inr 73)))]) (f := true) (sp := []) (d0 := 3) (O := [false, false, true, true]) (T := [(30, [.inr (.inl 4)], [.inr (.inl 25)]), (0, [.inr (.inl 4), .inl (.int 1)], []), (30, [.inr (.inl 69)], [.inr (.inr 28)]), (40, [.inr (.inl 13), .inr (.inr 72)], [.inr (.inr 30)]), (0, [.inr (.inl 13), .inl (.int 1)], [])]) (P := [(0, .inr (.inl 6), .inl (.int 0)), (6, .inr (.inl 4), .inl (.ref 403)), (0, .inr (.inl 70), .inl (.int 4)), (1, .inr (.inl 4), .inl (.int 400)), (4, .inr (.inl 6), .inl (.int 0)), (6, .inr (.inl 69), .inl (.ref 403)), (6, .inr (.inl 13), .inl (.ref 11))]) jm_ok156 (by decide +kernel) (by decide +kernel) hd F X1 X2 (fun F' hF hs => ?_)
  have b6 := hd_b (F := F) (F' := F') (k := 6) (hF 6 (by decide))
  have b4 := hd_b (F := F) (F' := F') (k := 4) (hF 4 (by decide))
  have a25 := hd_ba (F := F) (F' := F') (k := 25) (hF 25 (by decide))
  have t70 : sy_dv F' (.inr (.inl 70)) = .int ((sy_ai F 25).getD (sy_i F 4).toNatClampNeg 0) := hd_rd (hs 0 _ rfl) b4 a25
  have b69 := hd_b (F := F) (F' := F') (k := 69) (hF 69 (by decide))
  have b13 := hd_b (F := F) (F' := F') (k := 13) (hF 13 (by decide))
  have t71 : sy_dv F' (.inr (.inl 71)) = .int ((sy_i F 4) + ((1 : Int32))) := hd_o (hs 1 _ rfl) b4 rfl rfl
  have t74 : sy_dv F' (.inr (.inl 74)) = .int ((sy_i F 13) + ((1 : Int32))) := hd_o (hs 4 _ rfl) b13 rfl rfl
  have a28 := hd_bA (F := F) (F' := F') (k := 28) (hF 28 (by decide))
  have t72 : sy_dv F' (.inr (.inr 72)) = .long ((sy_al F 28).getD (sy_i F 69).toNatClampNeg 0) := hd_rL (hs 2 _ rfl) b69 a28
  have a30 := hd_bA (F := F) (F' := F') (k := 30) (hF 30 (by decide))
  have t73 : sy_da F' (.inr (.inr 73)) = .inr (jm_updL (sy_al F 30) (sy_i F 13).toNatClampNeg ((sy_al F 28).getD (sy_i F 69).toNatClampNeg 0)) := hd_uA (hs 3 _ rfl) b13 t72 a30
  have hB' : iv_in F' iv_B4 := iv_in_eq hB (fun j hj => hF j (Nat.lt_of_lt_of_le hj (by decide +kernel)))
  refine ⟨List.forall_mem_cons.mpr ⟨hd_p0 b6 rfl (by have hc : ((0) : Int32).toInt = 0 := (by decide); omega), List.forall_mem_cons.mpr ⟨hd_pb b4 (by first | exact h1 | exact h1), List.forall_mem_cons.mpr ⟨hd_p0 t70 rfl (by have hc : ((4) : Int32).toInt = 4 := (by decide); omega), List.forall_mem_cons.mpr ⟨hd_p1 b4 rfl (by have hc : ((400) : Int32).toInt = 400 := (by decide); omega), List.forall_mem_cons.mpr ⟨hd_p4 b6 rfl (by have hc : ((0) : Int32).toInt = 0 := (by decide); omega), List.forall_mem_cons.mpr ⟨hd_pb b69 (by first | exact h5 | exact h5), List.forall_mem_cons.mpr ⟨hd_pb b13 (by first | exact h6 | exact h6), fun _ h => absurd h List.not_mem_nil⟩⟩⟩⟩⟩⟩⟩, ?_⟩
  refine k _ ?_ ?_ ?_ ?_
  · exact fun j hj hn => (hd_keep hB' (Nat.lt_of_lt_of_le hj (by decide +kernel)) (by simp; omega)).trans (hF j (Nat.lt_of_lt_of_le hj (by decide)))
  · exact hd_gi (x := .inr (.inl 71)) (by decide +kernel) t71
  · exact hd_gi (x := .inr (.inl 74)) (by decide +kernel) t74
  · exact hd_gA (a := .inr (.inr 73)) (by decide +kernel) t73
theorem en_0_p3 {Ls : Nat} {xs : Nat → Int32} {d : Nat} {Q : Option Value → jm_h → Prop} (hd : 4 ≤ d) (F : Nat → sy_d) (X1 X2 : List jm_c) (hB : iv_in F iv_B4)
    (h0 : (sy_i F 6).toInt = 0)
    (h1 : 0 ≤ (sy_i F 4).toInt ∧ (sy_i F 4).toInt < 403)
    (h2 : ((sy_ai F 25).getD (sy_i F 4).toNatClampNeg 0).toInt = 4)
    (h3 : (sy_i F 4).toInt = 400)
    (h4 : (sy_i F 6).toInt ≤ 0)
    (h5 : 0 ≤ (sy_i F 4).toInt ∧ (sy_i F 4).toInt < 403)
    (k : ∀ F1 : Nat → sy_d, (∀ j, j < 69 → j ≠ 6 ∧ j ≠ 7 → F1 j = F j) → F1 6 = .inl (.int ((2 : Int32))) → F1 7 = .inl (.int ((sy_ai F 26).getD (sy_i F 4).toNatClampNeg 0)) → Q (none) (sy_dh F1 X1 X2 (iv_H 4))) :
    hd_W Ls xs d jm_M156 Q (0, sy_dL F [some (.inl (.ref 1000)), some (.inr (.inl 69))], sy_dS F [], sy_dh F X1 X2 (iv_H 4), 0, 0) := by
  refine hd_ret (s := 4) (nv := 70) (v := none) (uh := hd_ov (iv_id 0 iv_B4) [(6, .inl (.inl (.int 2))), (7, .inl (.inr (.inl 71)))]) (f := true) (sp := []) (d0 := 3) (O := [false, false, false, true]) (T := [(30, [.inr (.inl 4)], [.inr (.inl 25)]), (30, [.inr (.inl 4)], [.inr (.inl 26)])]) (P := [(0, .inr (.inl 6), .inl (.int 0)), (6, .inr (.inl 4), .inl (.ref 403)), (0, .inr (.inl 70), .inl (.int 4)), (0, .inr (.inl 4), .inl (.int 400)), (4, .inr (.inl 6), .inl (.int 0)), (6, .inr (.inl 4), .inl (.ref 403))]) jm_ok156 (by decide +kernel) (by decide +kernel) hd F X1 X2 (fun F' hF hs => ?_)
  have b6 := hd_b (F := F) (F' := F') (k := 6) (hF 6 (by decide))
  have b4 := hd_b (F := F) (F' := F') (k := 4) (hF 4 (by decide))
  have a25 := hd_ba (F := F) (F' := F') (k := 25) (hF 25 (by decide))
  have t70 : sy_dv F' (.inr (.inl 70)) = .int ((sy_ai F 25).getD (sy_i F 4).toNatClampNeg 0) := hd_rd (hs 0 _ rfl) b4 a25
  have a26 := hd_ba (F := F) (F' := F') (k := 26) (hF 26 (by decide))
  have t71 : sy_dv F' (.inr (.inl 71)) = .int ((sy_ai F 26).getD (sy_i F 4).toNatClampNeg 0) := hd_rd (hs 1 _ rfl) b4 a26
  have hB' : iv_in F' iv_B4 := iv_in_eq hB (fun j hj => hF j (Nat.lt_of_lt_of_le hj (by decide +kernel)))
  refine ⟨List.forall_mem_cons.mpr ⟨hd_p0 b6 rfl (by have hc : ((0) : Int32).toInt = 0 := (by decide); omega), List.forall_mem_cons.mpr ⟨hd_pb b4 (by first | exact h1 | exact h1), List.forall_mem_cons.mpr ⟨hd_p0 t70 rfl (by have hc : ((4) : Int32).toInt = 4 := (by decide); omega), List.forall_mem_cons.mpr ⟨hd_p0 b4 rfl (by have hc : ((400) : Int32).toInt = 400 := (by decide); omega), List.forall_mem_cons.mpr ⟨hd_p4 b6 rfl (by have hc : ((0) : Int32).toInt = 0 := (by decide); omega), List.forall_mem_cons.mpr ⟨hd_pb b4 (by first | exact h5 | exact h5), fun _ h => absurd h List.not_mem_nil⟩⟩⟩⟩⟩⟩, ?_⟩
  refine k _ ?_ ?_ ?_
  · exact fun j hj hn => (hd_keep hB' (Nat.lt_of_lt_of_le hj (by decide +kernel)) (by simp; omega)).trans (hF j (Nat.lt_of_lt_of_le hj (by decide)))
  · exact hd_gi (x := .inl (.int 2)) (by decide +kernel) rfl
  · exact hd_gi (x := .inr (.inl 71)) (by decide +kernel) t71
theorem ti_0_p0 {Ls : Nat} {xs : Nat → Int32} {d : Nat} {Q : Option Value → jm_h → Prop} (hd : 4 ≤ d) (F : Nat → sy_d) (X1 X2 : List jm_c) (hB : iv_in F iv_B4)
    (h0 : (sy_i F 4).toInt ≠ 400)
    (k : ∀ F1 : Nat → sy_d, (∀ j, j < 69 → j ≠ 4 → F1 j = F j) → F1 4 = .inl (.int ((sy_i F 4) + ((1 : Int32)))) → F1 69 = .inl (.int (sy_i F 70)) → F1 70 = .inl (.int (sy_i F 69)) → hd_W Ls xs d jm_M153 Q (7, sy_dL F1 [some (.inl (.ref 1000)), none, none, none], sy_dS F1 [.inr (.inl 69), .inr (.inl 70), .inl (.ref 1000)], sy_dh F1 X1 X2 (iv_H 4), 0, 0)) :
    hd_W Ls xs d jm_M153 Q (0, sy_dL F [some (.inl (.ref 1000)), some (.inr (.inl 69)), some (.inr (.inl 70)), none], sy_dS F [], sy_dh F X1 X2 (iv_H 4), 0, 0) := by
  refine hd_run (s := 4) (nv := 71) (pc := 7) (L := [some (.inl (.ref 1000)), none, none, none]) (S := [.inr (.inl 69), .inr (.inl 70), .inl (.ref 1000)]) (uh := hd_ov (iv_id 0 iv_B4) [(4, .inl (.inr (.inl 71)))]) (ul := [.inl (.inr (.inl 70)), .inl (.inr (.inl 69))]) (f := true) (sp := [7]) (d0 := 3) (O := [true]) (T := [(0, [.inr (.inl 4), .inl (.int 1)], [])]) (P := [(1, .inr (.inl 4), .inl (.int 400))]) jm_ok153 (by decide +kernel) (by decide +kernel) hd F X1 X2 (fun F' hF hs => ?_)
  have b4 := hd_b (F := F) (F' := F') (k := 4) (hF 4 (by decide))
  have t71 : sy_dv F' (.inr (.inl 71)) = .int ((sy_i F 4) + ((1 : Int32))) := hd_o (hs 0 _ rfl) b4 rfl rfl
  have b70 := hd_b (F := F) (F' := F') (k := 70) (hF 70 (by decide))
  have b69 := hd_b (F := F) (F' := F') (k := 69) (hF 69 (by decide))
  have hB' : iv_in F' iv_B4 := iv_in_eq hB (fun j hj => hF j (Nat.lt_of_lt_of_le hj (by decide +kernel)))
  refine ⟨List.forall_mem_cons.mpr ⟨hd_p1 b4 rfl (by have hc : ((400) : Int32).toInt = 400 := (by decide); omega), fun _ h => absurd h List.not_mem_nil⟩, ?_⟩
  refine k _ ?_ ?_ ?_ ?_
  · exact fun j hj hn => (hd_keep hB' (Nat.lt_of_lt_of_le hj (by decide +kernel)) (by simp; omega)).trans (hF j (Nat.lt_of_lt_of_le hj (by decide)))
  · exact hd_gi (x := .inr (.inl 71)) (by decide +kernel) t71
  · exact hd_gi (x := .inr (.inl 70)) (by decide +kernel) b70
  · exact hd_gi (x := .inr (.inl 69)) (by decide +kernel) b69
theorem ti_0_p1 {Ls : Nat} {xs : Nat → Int32} {d : Nat} {Q : Option Value → jm_h → Prop} (hd : 4 ≤ d) (F : Nat → sy_d) (X1 X2 : List jm_c) (hB : iv_in F iv_B4)
    (h0 : (sy_i F 4).toInt = 400)
    (h1 : (sy_i F 6).toInt ≤ 0)
    (h2 : 0 ≤ (sy_i F 4).toInt ∧ (sy_i F 4).toInt < 403)
    (k : ∀ F1 : Nat → sy_d, (∀ j, j < 69 → j ≠ 6 ∧ j ≠ 7 → F1 j = F j) → F1 6 = .inl (.int ((2 : Int32))) → F1 7 = .inl (.int ((sy_ai F 26).getD (sy_i F 4).toNatClampNeg 0)) → F1 69 = .inl (.int (sy_i F 70)) → F1 70 = .inl (.int (sy_i F 69)) → hd_W Ls xs d jm_M153 Q (7, sy_dL F1 [some (.inl (.ref 1000)), none, none, none], sy_dS F1 [.inr (.inl 69), .inr (.inl 70), .inl (.ref 1000)], sy_dh F1 X1 X2 (iv_H 4), 0, 0)) :
    hd_W Ls xs d jm_M153 Q (0, sy_dL F [some (.inl (.ref 1000)), some (.inr (.inl 69)), some (.inr (.inl 70)), none], sy_dS F [], sy_dh F X1 X2 (iv_H 4), 0, 0) := by
  refine hd_run (s := 4) (nv := 71) (pc := 7) (L := [some (.inl (.ref 1000)), none, none, none]) (S := [.inr (.inl 69), .inr (.inl 70), .inl (.ref 1000)]) (uh := hd_ov (iv_id 0 iv_B4) [(6, .inl (.inl (.int 2))), (7, .inl (.inr (.inl 71)))]) (ul := [.inl (.inr (.inl 70)), .inl (.inr (.inl 69))]) (f := true) (sp := [7]) (d0 := 3) (O := [false, true]) (T := [(30, [.inr (.inl 4)], [.inr (.inl 26)])]) (P := [(0, .inr (.inl 4), .inl (.int 400)), (4, .inr (.inl 6), .inl (.int 0)), (6, .inr (.inl 4), .inl (.ref 403))]) jm_ok153 (by decide +kernel) (by decide +kernel) hd F X1 X2 (fun F' hF hs => ?_)
  have b4 := hd_b (F := F) (F' := F') (k := 4) (hF 4 (by decide))
  have b6 := hd_b (F := F) (F' := F') (k := 6) (hF 6 (by decide))
  have a26 := hd_ba (F := F) (F' := F') (k := 26) (hF 26 (by decide))
  have t71 : sy_dv F' (.inr (.inl 71)) = .int ((sy_ai F 26).getD (sy_i F 4).toNatClampNeg 0) := hd_rd (hs 0 _ rfl) b4 a26
  have b70 := hd_b (F := F) (F' := F') (k := 70) (hF 70 (by decide))
  have b69 := hd_b (F := F) (F' := F') (k := 69) (hF 69 (by decide))
  have hB' : iv_in F' iv_B4 := iv_in_eq hB (fun j hj => hF j (Nat.lt_of_lt_of_le hj (by decide +kernel)))
  refine ⟨List.forall_mem_cons.mpr ⟨hd_p0 b4 rfl (by have hc : ((400) : Int32).toInt = 400 := (by decide); omega), List.forall_mem_cons.mpr ⟨hd_p4 b6 rfl (by have hc : ((0) : Int32).toInt = 0 := (by decide); omega), List.forall_mem_cons.mpr ⟨hd_pb b4 (by first | exact h2 | exact h2), fun _ h => absurd h List.not_mem_nil⟩⟩⟩, ?_⟩
  refine k _ ?_ ?_ ?_ ?_ ?_
  · exact fun j hj hn => (hd_keep hB' (Nat.lt_of_lt_of_le hj (by decide +kernel)) (by simp; omega)).trans (hF j (Nat.lt_of_lt_of_le hj (by decide)))
  · exact hd_gi (x := .inl (.int 2)) (by decide +kernel) rfl
  · exact hd_gi (x := .inr (.inl 71)) (by decide +kernel) t71
  · exact hd_gi (x := .inr (.inl 70)) (by decide +kernel) b70
  · exact hd_gi (x := .inr (.inl 69)) (by decide +kernel) b69
theorem ti_0_p2 {Ls : Nat} {xs : Nat → Int32} {d : Nat} {Q : Option Value → jm_h → Prop} (hd : 4 ≤ d) (F : Nat → sy_d) (X1 X2 : List jm_c) (hB : iv_in F iv_B4)
    (h0 : (sy_i F 4).toInt = 400)
    (h1 : 0 < (sy_i F 6).toInt)
    (k : ∀ F1 : Nat → sy_d, (∀ j, j < 69 → True → F1 j = F j) → F1 69 = .inl (.int (sy_i F 70)) → F1 70 = .inl (.int (sy_i F 69)) → hd_W Ls xs d jm_M153 Q (7, sy_dL F1 [some (.inl (.ref 1000)), none, none, none], sy_dS F1 [.inr (.inl 69), .inr (.inl 70), .inl (.ref 1000)], sy_dh F1 X1 X2 (iv_H 4), 0, 0)) :
    hd_W Ls xs d jm_M153 Q (0, sy_dL F [some (.inl (.ref 1000)), some (.inr (.inl 69)), some (.inr (.inl 70)), none], sy_dS F [], sy_dh F X1 X2 (iv_H 4), 0, 0) := by
  refine hd_run (s := 4) (nv := 71) (pc := 7) (L := [some (.inl (.ref 1000)), none, none, none]) (S := [.inr (.inl 69), .inr (.inl 70), .inl (.ref 1000)]) (uh := hd_ov (iv_id 0 iv_B4) []) (ul := [.inl (.inr (.inl 70)), .inl (.inr (.inl 69))]) (f := true) (sp := [7]) (d0 := 3) (O := [false, false]) (T := []) (P := [(0, .inr (.inl 4), .inl (.int 400)), (5, .inr (.inl 6), .inl (.int 0))]) jm_ok153 (by decide +kernel) (by decide +kernel) hd F X1 X2 (fun F' hF hs => ?_)
  have b4 := hd_b (F := F) (F' := F') (k := 4) (hF 4 (by decide))
  have b6 := hd_b (F := F) (F' := F') (k := 6) (hF 6 (by decide))
  have b70 := hd_b (F := F) (F' := F') (k := 70) (hF 70 (by decide))
  have b69 := hd_b (F := F) (F' := F') (k := 69) (hF 69 (by decide))
  have hB' : iv_in F' iv_B4 := iv_in_eq hB (fun j hj => hF j (Nat.lt_of_lt_of_le hj (by decide +kernel)))
  refine ⟨List.forall_mem_cons.mpr ⟨hd_p0 b4 rfl (by have hc : ((400) : Int32).toInt = 400 := (by decide); omega), List.forall_mem_cons.mpr ⟨hd_p5 b6 rfl (by have hc : ((0) : Int32).toInt = 0 := (by decide); omega), fun _ h => absurd h List.not_mem_nil⟩⟩, ?_⟩
  refine k _ ?_ ?_ ?_
  · exact fun j hj _ => (hd_keep hB' (Nat.lt_of_lt_of_le hj (by decide +kernel)) (by simp)).trans (hF j (Nat.lt_of_lt_of_le hj (by decide)))
  · exact hd_gi (x := .inr (.inl 70)) (by decide +kernel) b70
  · exact hd_gi (x := .inr (.inl 69)) (by decide +kernel) b69
theorem ti_10_p0 {Ls : Nat} {xs : Nat → Int32} {d : Nat} {Q : Option Value → jm_h → Prop} (hd : 4 ≤ d) (F : Nat → sy_d) (X1 X2 : List jm_c) (hB : iv_in F iv_B4)
    (h0 : (sy_i F 6).toInt ≠ 0)
    (h1 : 0 < (sy_i F 6).toInt)
    (k : ∀ F1 : Nat → sy_d, (∀ j, j < 69 → True → F1 j = F j) → Q (some (.int (sy_i F 71))) (sy_dh F1 X1 X2 (iv_H 4))) :
    hd_W Ls xs d jm_M153 Q (10, sy_dL F [some (.inl (.ref 1000)), none, none, none], sy_dS F [.inr (.inl 71)], sy_dh F X1 X2 (iv_H 4), 0, 0) := by
  refine hd_ret (s := 4) (nv := 72) (v := some (.inr (.inl 71))) (uh := hd_ov (iv_id 0 iv_B4) []) (f := false) (sp := []) (d0 := 3) (O := [true, false]) (T := []) (P := [(1, .inr (.inl 6), .inl (.int 0)), (5, .inr (.inl 6), .inl (.int 0))]) jm_ok153 (by decide +kernel) (by decide +kernel) hd F X1 X2 (fun F' hF hs => ?_)
  have b6 := hd_b (F := F) (F' := F') (k := 6) (hF 6 (by decide))
  have b71 := hd_b (F := F) (F' := F') (k := 71) (hF 71 (by decide))
  have hB' : iv_in F' iv_B4 := iv_in_eq hB (fun j hj => hF j (Nat.lt_of_lt_of_le hj (by decide +kernel)))
  have hk := k (sy_cm F' (hd_ov (iv_id 0 iv_B4) [] ++ [])) (fun j hj _ => (hd_keep hB' (Nat.lt_of_lt_of_le hj (by decide +kernel)) (by simp)).trans (hF j (Nat.lt_of_lt_of_le hj (by decide))))
  refine ⟨List.forall_mem_cons.mpr ⟨hd_p1 b6 rfl (by have hc : ((0) : Int32).toInt = 0 := (by decide); omega), List.forall_mem_cons.mpr ⟨hd_p5 b6 rfl (by have hc : ((0) : Int32).toInt = 0 := (by decide); omega), fun _ h => absurd h List.not_mem_nil⟩⟩, ?_⟩
  show Q (some (sy_dv F' (.inr (.inl 71)))) _
  rw [b71]
  exact hk
theorem ti_10_p1 {Ls : Nat} {xs : Nat → Int32} {d : Nat} {Q : Option Value → jm_h → Prop} (hd : 4 ≤ d) (F : Nat → sy_d) (X1 X2 : List jm_c) (hB : iv_in F iv_B4)
    (h0 : (sy_i F 6).toInt = 0)
    (h1 : 0 ≤ (sy_i F 4).toInt ∧ (sy_i F 4).toInt < 403)
    (h2 : ((sy_ai F 25).getD (sy_i F 4).toNatClampNeg 0).toInt ≠ 4)
    (h3 : (sy_i F 6).toInt ≤ 0)
    (h4 : 0 ≤ (sy_i F 4).toInt ∧ (sy_i F 4).toInt < 403)
    (k : ∀ F1 : Nat → sy_d, (∀ j, j < 69 → j ≠ 6 ∧ j ≠ 7 → F1 j = F j) → F1 6 = .inl (.int ((1 : Int32))) → F1 7 = .inl (.int ((sy_ai F 26).getD (sy_i F 4).toNatClampNeg 0)) → Q (some (.int (sy_i F 71))) (sy_dh F1 X1 X2 (iv_H 4))) :
    hd_W Ls xs d jm_M153 Q (10, sy_dL F [some (.inl (.ref 1000)), none, none, none], sy_dS F [.inr (.inl 71)], sy_dh F X1 X2 (iv_H 4), 0, 0) := by
  refine hd_ret (s := 4) (nv := 72) (v := some (.inr (.inl 71))) (uh := hd_ov (iv_id 0 iv_B4) [(6, .inl (.inl (.int 1))), (7, .inl (.inr (.inl 73)))]) (f := false) (sp := []) (d0 := 3) (O := [false, true, true]) (T := [(30, [.inr (.inl 4)], [.inr (.inl 25)]), (30, [.inr (.inl 4)], [.inr (.inl 26)])]) (P := [(0, .inr (.inl 6), .inl (.int 0)), (6, .inr (.inl 4), .inl (.ref 403)), (1, .inr (.inl 72), .inl (.int 4)), (4, .inr (.inl 6), .inl (.int 0)), (6, .inr (.inl 4), .inl (.ref 403))]) jm_ok153 (by decide +kernel) (by decide +kernel) hd F X1 X2 (fun F' hF hs => ?_)
  have b6 := hd_b (F := F) (F' := F') (k := 6) (hF 6 (by decide))
  have b4 := hd_b (F := F) (F' := F') (k := 4) (hF 4 (by decide))
  have a25 := hd_ba (F := F) (F' := F') (k := 25) (hF 25 (by decide))
  have t72 : sy_dv F' (.inr (.inl 72)) = .int ((sy_ai F 25).getD (sy_i F 4).toNatClampNeg 0) := hd_rd (hs 0 _ rfl) b4 a25
  have a26 := hd_ba (F := F) (F' := F') (k := 26) (hF 26 (by decide))
  have t73 : sy_dv F' (.inr (.inl 73)) = .int ((sy_ai F 26).getD (sy_i F 4).toNatClampNeg 0) := hd_rd (hs 1 _ rfl) b4 a26
  have b71 := hd_b (F := F) (F' := F') (k := 71) (hF 71 (by decide))
  have hB' : iv_in F' iv_B4 := iv_in_eq hB (fun j hj => hF j (Nat.lt_of_lt_of_le hj (by decide +kernel)))
  have hk := k (sy_cm F' (hd_ov (iv_id 0 iv_B4) [(6, .inl (.inl (.int 1))), (7, .inl (.inr (.inl 73)))] ++ [])) (fun j hj hn => (hd_keep hB' (Nat.lt_of_lt_of_le hj (by decide +kernel)) (by simp; omega)).trans (hF j (Nat.lt_of_lt_of_le hj (by decide)))) (hd_gi (x := .inl (.int 1)) (by decide +kernel) rfl) (hd_gi (x := .inr (.inl 73)) (by decide +kernel) t73)
  refine ⟨List.forall_mem_cons.mpr ⟨hd_p0 b6 rfl (by have hc : ((0) : Int32).toInt = 0 := (by decide); omega), List.forall_mem_cons.mpr ⟨hd_pb b4 (by first | exact h1 | exact h1), List.forall_mem_cons.mpr ⟨hd_p1 t72 rfl (by have hc : ((4) : Int32).toInt = 4 := (by decide); omega), List.forall_mem_cons.mpr ⟨hd_p4 b6 rfl (by have hc : ((0) : Int32).toInt = 0 := (by decide); omega), List.forall_mem_cons.mpr ⟨hd_pb b4 (by first | exact h4 | exact h4), fun _ h => absurd h List.not_mem_nil⟩⟩⟩⟩⟩, ?_⟩
  show Q (some (sy_dv F' (.inr (.inl 71)))) _
  rw [b71]
  exact hk
theorem ti_10_p2 {Ls : Nat} {xs : Nat → Int32} {d : Nat} {Q : Option Value → jm_h → Prop} (hd : 4 ≤ d) (F : Nat → sy_d) (X1 X2 : List jm_c) (hB : iv_in F iv_B4)
    (h0 : (sy_i F 6).toInt = 0)
    (h1 : 0 ≤ (sy_i F 4).toInt ∧ (sy_i F 4).toInt < 403)
    (h2 : ((sy_ai F 25).getD (sy_i F 4).toNatClampNeg 0).toInt = 4)
    (h3 : (sy_i F 4).toInt ≠ 400)
    (k : ∀ F1 : Nat → sy_d, (∀ j, j < 69 → j ≠ 4 → F1 j = F j) → F1 4 = .inl (.int ((sy_i F 4) + ((1 : Int32)))) → Q (some (.int (sy_i F 71))) (sy_dh F1 X1 X2 (iv_H 4))) :
    hd_W Ls xs d jm_M153 Q (10, sy_dL F [some (.inl (.ref 1000)), none, none, none], sy_dS F [.inr (.inl 71)], sy_dh F X1 X2 (iv_H 4), 0, 0) := by
  refine hd_ret (s := 4) (nv := 72) (v := some (.inr (.inl 71))) (uh := hd_ov (iv_id 0 iv_B4) [(4, .inl (.inr (.inl 73)))]) (f := false) (sp := []) (d0 := 3) (O := [false, false, true]) (T := [(30, [.inr (.inl 4)], [.inr (.inl 25)]), (0, [.inr (.inl 4), .inl (.int 1)], [])]) (P := [(0, .inr (.inl 6), .inl (.int 0)), (6, .inr (.inl 4), .inl (.ref 403)), (0, .inr (.inl 72), .inl (.int 4)), (1, .inr (.inl 4), .inl (.int 400))]) jm_ok153 (by decide +kernel) (by decide +kernel) hd F X1 X2 (fun F' hF hs => ?_)
  have b6 := hd_b (F := F) (F' := F') (k := 6) (hF 6 (by decide))
  have b4 := hd_b (F := F) (F' := F') (k := 4) (hF 4 (by decide))
  have a25 := hd_ba (F := F) (F' := F') (k := 25) (hF 25 (by decide))
  have t72 : sy_dv F' (.inr (.inl 72)) = .int ((sy_ai F 25).getD (sy_i F 4).toNatClampNeg 0) := hd_rd (hs 0 _ rfl) b4 a25
  have t73 : sy_dv F' (.inr (.inl 73)) = .int ((sy_i F 4) + ((1 : Int32))) := hd_o (hs 1 _ rfl) b4 rfl rfl
  have b71 := hd_b (F := F) (F' := F') (k := 71) (hF 71 (by decide))
  have hB' : iv_in F' iv_B4 := iv_in_eq hB (fun j hj => hF j (Nat.lt_of_lt_of_le hj (by decide +kernel)))
  have hk := k (sy_cm F' (hd_ov (iv_id 0 iv_B4) [(4, .inl (.inr (.inl 73)))] ++ [])) (fun j hj hn => (hd_keep hB' (Nat.lt_of_lt_of_le hj (by decide +kernel)) (by simp; omega)).trans (hF j (Nat.lt_of_lt_of_le hj (by decide)))) (hd_gi (x := .inr (.inl 73)) (by decide +kernel) t73)
  refine ⟨List.forall_mem_cons.mpr ⟨hd_p0 b6 rfl (by have hc : ((0) : Int32).toInt = 0 := (by decide); omega), List.forall_mem_cons.mpr ⟨hd_pb b4 (by first | exact h1 | exact h1), List.forall_mem_cons.mpr ⟨hd_p0 t72 rfl (by have hc : ((4) : Int32).toInt = 4 := (by decide); omega), List.forall_mem_cons.mpr ⟨hd_p1 b4 rfl (by have hc : ((400) : Int32).toInt = 400 := (by decide); omega), fun _ h => absurd h List.not_mem_nil⟩⟩⟩⟩, ?_⟩
  show Q (some (sy_dv F' (.inr (.inl 71)))) _
  rw [b71]
  exact hk
theorem ti_10_p3 {Ls : Nat} {xs : Nat → Int32} {d : Nat} {Q : Option Value → jm_h → Prop} (hd : 4 ≤ d) (F : Nat → sy_d) (X1 X2 : List jm_c) (hB : iv_in F iv_B4)
    (h0 : (sy_i F 6).toInt = 0)
    (h1 : 0 ≤ (sy_i F 4).toInt ∧ (sy_i F 4).toInt < 403)
    (h2 : ((sy_ai F 25).getD (sy_i F 4).toNatClampNeg 0).toInt = 4)
    (h3 : (sy_i F 4).toInt = 400)
    (h4 : (sy_i F 6).toInt ≤ 0)
    (h5 : 0 ≤ (sy_i F 4).toInt ∧ (sy_i F 4).toInt < 403)
    (k : ∀ F1 : Nat → sy_d, (∀ j, j < 69 → j ≠ 6 ∧ j ≠ 7 → F1 j = F j) → F1 6 = .inl (.int ((2 : Int32))) → F1 7 = .inl (.int ((sy_ai F 26).getD (sy_i F 4).toNatClampNeg 0)) → Q (some (.int (sy_i F 71))) (sy_dh F1 X1 X2 (iv_H 4))) :
    hd_W Ls xs d jm_M153 Q (10, sy_dL F [some (.inl (.ref 1000)), none, none, none], sy_dS F [.inr (.inl 71)], sy_dh F X1 X2 (iv_H 4), 0, 0) := by
  refine hd_ret (s := 4) (nv := 72) (v := some (.inr (.inl 71))) (uh := hd_ov (iv_id 0 iv_B4) [(6, .inl (.inl (.int 2))), (7, .inl (.inr (.inl 73)))]) (f := false) (sp := []) (d0 := 3) (O := [false, false, false, true]) (T := [(30, [.inr (.inl 4)], [.inr (.inl 25)]), (30, [.inr (.inl 4)], [.inr (.inl 26)])]) (P := [(0, .inr (.inl 6), .inl (.int 0)), (6, .inr (.inl 4), .inl (.ref 403)), (0, .inr (.inl 72), .inl (.int 4)), (0, .inr (.inl 4), .inl (.int 400)), (4, .inr (.inl 6), .inl (.int 0)), (6, .inr (.inl 4), .inl (.ref 403))]) jm_ok153 (by decide +kernel) (by decide +kernel) hd F X1 X2 (fun F' hF hs => ?_)
  have b6 := hd_b (F := F) (F' := F') (k := 6) (hF 6 (by decide))
  have b4 := hd_b (F := F) (F' := F') (k := 4) (hF 4 (by decide))
  have a25 := hd_ba (F := F) (F' := F') (k := 25) (hF 25 (by decide))
  have t72 : sy_dv F' (.inr (.inl 72)) = .int ((sy_ai F 25).getD (sy_i F 4).toNatClampNeg 0) := hd_rd (hs 0 _ rfl) b4 a25
  have a26 := hd_ba (F := F) (F' := F') (k := 26) (hF 26 (by decide))
  have t73 : sy_dv F' (.inr (.inl 73)) = .int ((sy_ai F 26).getD (sy_i F 4).toNatClampNeg 0) := hd_rd (hs 1 _ rfl) b4 a26
  have b71 := hd_b (F := F) (F' := F') (k := 71) (hF 71 (by decide))
  have hB' : iv_in F' iv_B4 := iv_in_eq hB (fun j hj => hF j (Nat.lt_of_lt_of_le hj (by decide +kernel)))
  have hk := k (sy_cm F' (hd_ov (iv_id 0 iv_B4) [(6, .inl (.inl (.int 2))), (7, .inl (.inr (.inl 73)))] ++ [])) (fun j hj hn => (hd_keep hB' (Nat.lt_of_lt_of_le hj (by decide +kernel)) (by simp; omega)).trans (hF j (Nat.lt_of_lt_of_le hj (by decide)))) (hd_gi (x := .inl (.int 2)) (by decide +kernel) rfl) (hd_gi (x := .inr (.inl 73)) (by decide +kernel) t73)
  refine ⟨List.forall_mem_cons.mpr ⟨hd_p0 b6 rfl (by have hc : ((0) : Int32).toInt = 0 := (by decide); omega), List.forall_mem_cons.mpr ⟨hd_pb b4 (by first | exact h1 | exact h1), List.forall_mem_cons.mpr ⟨hd_p0 t72 rfl (by have hc : ((4) : Int32).toInt = 4 := (by decide); omega), List.forall_mem_cons.mpr ⟨hd_p0 b4 rfl (by have hc : ((400) : Int32).toInt = 400 := (by decide); omega), List.forall_mem_cons.mpr ⟨hd_p4 b6 rfl (by have hc : ((0) : Int32).toInt = 0 := (by decide); omega), List.forall_mem_cons.mpr ⟨hd_pb b4 (by first | exact h5 | exact h5), fun _ h => absurd h List.not_mem_nil⟩⟩⟩⟩⟩⟩, ?_⟩
  show Q (some (sy_dv F' (.inr (.inl 71)))) _
  rw [b71]
  exact hk
end
section
/-! ===== the reference reads a text: small methods ===== -/
noncomputable def W1 : List Nat := [4, 6, 7, 8, 9]
section SM
variable {Ls : Nat} {xs : Nat → Int32} (F : Nat → sy_d) (X1 X2 : List jm_c)
noncomputable def W2 : List Nat := [4, 6, 7, 8, 9, 13, 30]
end SM
end
section
/-! ===== fruit and buyers are told, way by way ===== -/
theorem tf_0_p0 {Ls : Nat} {xs : Nat → Int32} {d : Nat} {Q : Option Value → jm_h → Prop} (hd : 5 ≤ d) (F : Nat → sy_d) (X1 X2 : List jm_c) (hB : iv_in F iv_B4)
    (h0 : 0 ≤ (sy_i F 12).toInt ∧ (sy_i F 12).toInt < 2)
    (k : ∀ F1 : Nat → sy_d, (∀ j, j < 69 → True → F1 j = F j) → F1 69 = .inl (.int ((((7 : Int32)) * (sy_i F 12)) + ((sy_ai F 31).getD (sy_i F 12).toNatClampNeg 0))) → hd_W Ls xs d jm_M158 Q (19, sy_dL F1 [some (.inl (.ref 1000)), some (.inr (.inl 69)), none], sy_dS F1 [.inl (.ref 1000)], sy_dh F1 X1 X2 (iv_H 4), 0, 0)) :
    hd_W Ls xs d jm_M158 Q (0, sy_dL F [some (.inl (.ref 1000)), none, none], sy_dS F [], sy_dh F X1 X2 (iv_H 4), 0, 0) := by
  refine hd_run (s := 4) (nv := 69) (pc := 19) (L := [some (.inl (.ref 1000)), some (.inr (.inl 69)), none]) (S := [.inl (.ref 1000)]) (uh := hd_ov (iv_id 0 iv_B4) []) (ul := [.inl (.inr (.inl 71))]) (f := true) (sp := [19]) (d0 := 4) (O := []) (T := [(2, [.inl (.int 7), .inr (.inl 12)], []), (30, [.inr (.inl 12)], [.inr (.inl 31)]), (0, [.inr (.inl 69), .inr (.inl 70)], [])]) (P := [(6, .inr (.inl 12), .inl (.ref 2))]) jm_ok158 (by decide +kernel) (by decide +kernel) hd F X1 X2 (fun F' hF hs => ?_)
  have b12 := hd_b (F := F) (F' := F') (k := 12) (hF 12 (by decide))
  have t69 : sy_dv F' (.inr (.inl 69)) = .int (((7 : Int32)) * (sy_i F 12)) := hd_o (hs 0 _ rfl) rfl b12 rfl
  have a31 := hd_ba (F := F) (F' := F') (k := 31) (hF 31 (by decide))
  have t70 : sy_dv F' (.inr (.inl 70)) = .int ((sy_ai F 31).getD (sy_i F 12).toNatClampNeg 0) := hd_rd (hs 1 _ rfl) b12 a31
  have t71 : sy_dv F' (.inr (.inl 71)) = .int ((((7 : Int32)) * (sy_i F 12)) + ((sy_ai F 31).getD (sy_i F 12).toNatClampNeg 0)) := hd_o (hs 2 _ rfl) t69 t70 rfl
  have hB' : iv_in F' iv_B4 := iv_in_eq hB (fun j hj => hF j (Nat.lt_of_lt_of_le hj (by decide +kernel)))
  refine ⟨List.forall_mem_cons.mpr ⟨hd_pb b12 (by first | exact h0 | exact h0), fun _ h => absurd h List.not_mem_nil⟩, ?_⟩
  refine k _ ?_ ?_
  · exact fun j hj _ => (hd_keep hB' (Nat.lt_of_lt_of_le hj (by decide +kernel)) (by simp)).trans (hF j (Nat.lt_of_lt_of_le hj (by decide)))
  · exact hd_gi (x := .inr (.inl 71)) (by decide +kernel) t71
theorem tf_22_p0 {Ls : Nat} {xs : Nat → Int32} {d : Nat} {Q : Option Value → jm_h → Prop} (hd : 5 ≤ d) (F : Nat → sy_d) (X1 X2 : List jm_c) (hB : iv_in F iv_B4)
    (k : ∀ F1 : Nat → sy_d, (∀ j, j < 69 → True → F1 j = F j) → F1 69 = .inl (.int (sy_i F 69)) → F1 70 = .inl (.int (sy_i F 70)) → hd_W Ls xs d jm_M158 Q (32, sy_dL F1 [some (.inl (.ref 1000)), some (.inr (.inl 69)), some (.inr (.inl 70))], sy_dS F1 [.inl (.int 9), .inl (.int 0), .inl (.ref 1000), .inr (.inl 69), .inl (.ref 1010)], sy_dh F1 X1 X2 (iv_H 4), 0, 0)) :
    hd_W Ls xs d jm_M158 Q (22, sy_dL F [some (.inl (.ref 1000)), some (.inr (.inl 69)), none], sy_dS F [.inr (.inl 70)], sy_dh F X1 X2 (iv_H 4), 0, 0) := by
  refine hd_run (s := 4) (nv := 71) (pc := 32) (L := [some (.inl (.ref 1000)), some (.inr (.inl 69)), some (.inr (.inl 70))]) (S := [.inl (.int 9), .inl (.int 0), .inl (.ref 1000), .inr (.inl 69), .inl (.ref 1010)]) (uh := hd_ov (iv_id 0 iv_B4) []) (ul := [.inl (.inr (.inl 69)), .inl (.inr (.inl 70))]) (f := false) (sp := [32]) (d0 := 4) (O := []) (T := []) (P := []) jm_ok158 (by decide +kernel) (by decide +kernel) hd F X1 X2 (fun F' hF hs => ?_)
  have b69 := hd_b (F := F) (F' := F') (k := 69) (hF 69 (by decide))
  have b70 := hd_b (F := F) (F' := F') (k := 70) (hF 70 (by decide))
  have hB' : iv_in F' iv_B4 := iv_in_eq hB (fun j hj => hF j (Nat.lt_of_lt_of_le hj (by decide +kernel)))
  refine ⟨fun _ h => absurd h List.not_mem_nil, ?_⟩
  refine k _ ?_ ?_ ?_
  · exact fun j hj _ => (hd_keep hB' (Nat.lt_of_lt_of_le hj (by decide +kernel)) (by simp)).trans (hF j (Nat.lt_of_lt_of_le hj (by decide)))
  · exact hd_gi (x := .inr (.inl 69)) (by decide +kernel) b69
  · exact hd_gi (x := .inr (.inl 70)) (by decide +kernel) b70
theorem tf_35_p0 {Ls : Nat} {xs : Nat → Int32} {d : Nat} {Q : Option Value → jm_h → Prop} (hd : 5 ≤ d) (F : Nat → sy_d) (X1 X2 : List jm_c) (hB : iv_in F iv_B4)
    (h0 : 0 ≤ (sy_i F 69).toInt ∧ (sy_i F 69).toInt < 14)
    (k : ∀ F1 : Nat → sy_d, (∀ j, j < 69 → j ≠ 32 → F1 j = F j) → F1 32 = .inr (.inl (jm_upd (sy_ai F 32) (sy_i F 69).toNatClampNeg (sy_i F 71))) → F1 69 = .inl (.int (sy_i F 69)) → F1 70 = .inl (.int (sy_i F 70)) → hd_W Ls xs d jm_M158 Q (45, sy_dL F1 [some (.inl (.ref 1000)), some (.inr (.inl 69)), some (.inr (.inl 70))], sy_dS F1 [.inl (.int 9), .inl (.int 1), .inl (.ref 1000), .inr (.inl 69), .inl (.ref 1011)], sy_dh F1 X1 X2 (iv_H 4), 0, 0)) :
    hd_W Ls xs d jm_M158 Q (35, sy_dL F [some (.inl (.ref 1000)), some (.inr (.inl 69)), some (.inr (.inl 70))], sy_dS F [.inr (.inl 71), .inr (.inl 69), .inl (.ref 1010)], sy_dh F X1 X2 (iv_H 4), 0, 0) := by
  refine hd_run (s := 4) (nv := 72) (pc := 45) (L := [some (.inl (.ref 1000)), some (.inr (.inl 69)), some (.inr (.inl 70))]) (S := [.inl (.int 9), .inl (.int 1), .inl (.ref 1000), .inr (.inl 69), .inl (.ref 1011)]) (uh := hd_ov (iv_id 0 iv_B4) [(32, .inr (.inr (.inl 72)))]) (ul := [.inl (.inr (.inl 69)), .inl (.inr (.inl 70))]) (f := false) (sp := [45]) (d0 := 4) (O := []) (T := [(40, [.inr (.inl 69), .inr (.inl 71)], [.inr (.inl 32)])]) (P := [(6, .inr (.inl 69), .inl (.ref 14))]) jm_ok158 (by decide +kernel) (by decide +kernel) hd F X1 X2 (fun F' hF hs => ?_)
  have b69 := hd_b (F := F) (F' := F') (k := 69) (hF 69 (by decide))
  have b71 := hd_b (F := F) (F' := F') (k := 71) (hF 71 (by decide))
  have a32 := hd_ba (F := F) (F' := F') (k := 32) (hF 32 (by decide))
  have t72 : sy_da F' (.inr (.inl 72)) = .inl (jm_upd (sy_ai F 32) (sy_i F 69).toNatClampNeg (sy_i F 71)) := hd_up (hs 0 _ rfl) b69 b71 a32
  have b70 := hd_b (F := F) (F' := F') (k := 70) (hF 70 (by decide))
  have hB' : iv_in F' iv_B4 := iv_in_eq hB (fun j hj => hF j (Nat.lt_of_lt_of_le hj (by decide +kernel)))
  refine ⟨List.forall_mem_cons.mpr ⟨hd_pb b69 (by first | exact h0 | exact h0), fun _ h => absurd h List.not_mem_nil⟩, ?_⟩
  refine k _ ?_ ?_ ?_ ?_
  · exact fun j hj hn => (hd_keep hB' (Nat.lt_of_lt_of_le hj (by decide +kernel)) (by simp; omega)).trans (hF j (Nat.lt_of_lt_of_le hj (by decide)))
  · exact hd_ga (a := .inr (.inl 72)) (by decide +kernel) t72
  · exact hd_gi (x := .inr (.inl 69)) (by decide +kernel) b69
  · exact hd_gi (x := .inr (.inl 70)) (by decide +kernel) b70
theorem tf_48_p0 {Ls : Nat} {xs : Nat → Int32} {d : Nat} {Q : Option Value → jm_h → Prop} (hd : 5 ≤ d) (F : Nat → sy_d) (X1 X2 : List jm_c) (hB : iv_in F iv_B4)
    (h0 : 0 ≤ (sy_i F 69).toInt ∧ (sy_i F 69).toInt < 14)
    (k : ∀ F1 : Nat → sy_d, (∀ j, j < 69 → j ≠ 33 → F1 j = F j) → F1 33 = .inr (.inl (jm_upd (sy_ai F 33) (sy_i F 69).toNatClampNeg (sy_i F 71))) → F1 69 = .inl (.int (sy_i F 69)) → F1 70 = .inl (.int (sy_i F 70)) → hd_W Ls xs d jm_M158 Q (58, sy_dL F1 [some (.inl (.ref 1000)), some (.inr (.inl 69)), some (.inr (.inl 70))], sy_dS F1 [.inl (.int 99), .inl (.int 0), .inl (.ref 1000), .inr (.inl 69), .inl (.ref 1012)], sy_dh F1 X1 X2 (iv_H 4), 0, 0)) :
    hd_W Ls xs d jm_M158 Q (48, sy_dL F [some (.inl (.ref 1000)), some (.inr (.inl 69)), some (.inr (.inl 70))], sy_dS F [.inr (.inl 71), .inr (.inl 69), .inl (.ref 1011)], sy_dh F X1 X2 (iv_H 4), 0, 0) := by
  refine hd_run (s := 4) (nv := 72) (pc := 58) (L := [some (.inl (.ref 1000)), some (.inr (.inl 69)), some (.inr (.inl 70))]) (S := [.inl (.int 99), .inl (.int 0), .inl (.ref 1000), .inr (.inl 69), .inl (.ref 1012)]) (uh := hd_ov (iv_id 0 iv_B4) [(33, .inr (.inr (.inl 72)))]) (ul := [.inl (.inr (.inl 69)), .inl (.inr (.inl 70))]) (f := false) (sp := [58]) (d0 := 4) (O := []) (T := [(40, [.inr (.inl 69), .inr (.inl 71)], [.inr (.inl 33)])]) (P := [(6, .inr (.inl 69), .inl (.ref 14))]) jm_ok158 (by decide +kernel) (by decide +kernel) hd F X1 X2 (fun F' hF hs => ?_)
  have b69 := hd_b (F := F) (F' := F') (k := 69) (hF 69 (by decide))
  have b71 := hd_b (F := F) (F' := F') (k := 71) (hF 71 (by decide))
  have a33 := hd_ba (F := F) (F' := F') (k := 33) (hF 33 (by decide))
  have t72 : sy_da F' (.inr (.inl 72)) = .inl (jm_upd (sy_ai F 33) (sy_i F 69).toNatClampNeg (sy_i F 71)) := hd_up (hs 0 _ rfl) b69 b71 a33
  have b70 := hd_b (F := F) (F' := F') (k := 70) (hF 70 (by decide))
  have hB' : iv_in F' iv_B4 := iv_in_eq hB (fun j hj => hF j (Nat.lt_of_lt_of_le hj (by decide +kernel)))
  refine ⟨List.forall_mem_cons.mpr ⟨hd_pb b69 (by first | exact h0 | exact h0), fun _ h => absurd h List.not_mem_nil⟩, ?_⟩
  refine k _ ?_ ?_ ?_ ?_
  · exact fun j hj hn => (hd_keep hB' (Nat.lt_of_lt_of_le hj (by decide +kernel)) (by simp; omega)).trans (hF j (Nat.lt_of_lt_of_le hj (by decide)))
  · exact hd_ga (a := .inr (.inl 72)) (by decide +kernel) t72
  · exact hd_gi (x := .inr (.inl 69)) (by decide +kernel) b69
  · exact hd_gi (x := .inr (.inl 70)) (by decide +kernel) b70
theorem tf_61_p0 {Ls : Nat} {xs : Nat → Int32} {d : Nat} {Q : Option Value → jm_h → Prop} (hd : 5 ≤ d) (F : Nat → sy_d) (X1 X2 : List jm_c) (hB : iv_in F iv_B4)
    (h0 : 0 ≤ (sy_i F 69).toInt ∧ (sy_i F 69).toInt < 14)
    (k : ∀ F1 : Nat → sy_d, (∀ j, j < 69 → j ≠ 34 → F1 j = F j) → F1 34 = .inr (.inl (jm_upd (sy_ai F 34) (sy_i F 69).toNatClampNeg (sy_i F 71))) → F1 69 = .inl (.int (sy_i F 70)) → hd_W Ls xs d jm_M158 Q (64, sy_dL F1 [some (.inl (.ref 1000)), none, none], sy_dS F1 [.inr (.inl 69), .inl (.ref 1000)], sy_dh F1 X1 X2 (iv_H 4), 0, 0)) :
    hd_W Ls xs d jm_M158 Q (61, sy_dL F [some (.inl (.ref 1000)), some (.inr (.inl 69)), some (.inr (.inl 70))], sy_dS F [.inr (.inl 71), .inr (.inl 69), .inl (.ref 1012)], sy_dh F X1 X2 (iv_H 4), 0, 0) := by
  refine hd_run (s := 4) (nv := 72) (pc := 64) (L := [some (.inl (.ref 1000)), none, none]) (S := [.inr (.inl 69), .inl (.ref 1000)]) (uh := hd_ov (iv_id 0 iv_B4) [(34, .inr (.inr (.inl 72)))]) (ul := [.inl (.inr (.inl 70))]) (f := false) (sp := [64]) (d0 := 4) (O := []) (T := [(40, [.inr (.inl 69), .inr (.inl 71)], [.inr (.inl 34)])]) (P := [(6, .inr (.inl 69), .inl (.ref 14))]) jm_ok158 (by decide +kernel) (by decide +kernel) hd F X1 X2 (fun F' hF hs => ?_)
  have b69 := hd_b (F := F) (F' := F') (k := 69) (hF 69 (by decide))
  have b71 := hd_b (F := F) (F' := F') (k := 71) (hF 71 (by decide))
  have a34 := hd_ba (F := F) (F' := F') (k := 34) (hF 34 (by decide))
  have t72 : sy_da F' (.inr (.inl 72)) = .inl (jm_upd (sy_ai F 34) (sy_i F 69).toNatClampNeg (sy_i F 71)) := hd_up (hs 0 _ rfl) b69 b71 a34
  have b70 := hd_b (F := F) (F' := F') (k := 70) (hF 70 (by decide))
  have hB' : iv_in F' iv_B4 := iv_in_eq hB (fun j hj => hF j (Nat.lt_of_lt_of_le hj (by decide +kernel)))
  refine ⟨List.forall_mem_cons.mpr ⟨hd_pb b69 (by first | exact h0 | exact h0), fun _ h => absurd h List.not_mem_nil⟩, ?_⟩
  refine k _ ?_ ?_ ?_
  · exact fun j hj hn => (hd_keep hB' (Nat.lt_of_lt_of_le hj (by decide +kernel)) (by simp; omega)).trans (hF j (Nat.lt_of_lt_of_le hj (by decide)))
  · exact hd_ga (a := .inr (.inl 72)) (by decide +kernel) t72
  · exact hd_gi (x := .inr (.inl 70)) (by decide +kernel) b70
theorem tf_67_p0 {Ls : Nat} {xs : Nat → Int32} {d : Nat} {Q : Option Value → jm_h → Prop} (hd : 5 ≤ d) (F : Nat → sy_d) (X1 X2 : List jm_c) (hB : iv_in F iv_B4)
    (h0 : (sy_i F 6).toInt ≠ 0)
    (k : ∀ F1 : Nat → sy_d, (∀ j, j < 69 → True → F1 j = F j) → Q (none) (sy_dh F1 X1 X2 (iv_H 4))) :
    hd_W Ls xs d jm_M158 Q (67, sy_dL F [some (.inl (.ref 1000)), none, none], sy_dS F [], sy_dh F X1 X2 (iv_H 4), 0, 0) := by
  refine hd_ret (s := 4) (nv := 70) (v := none) (uh := hd_ov (iv_id 0 iv_B4) []) (f := false) (sp := []) (d0 := 4) (O := [true]) (T := []) (P := [(1, .inr (.inl 6), .inl (.int 0))]) jm_ok158 (by decide +kernel) (by decide +kernel) hd F X1 X2 (fun F' hF hs => ?_)
  have b6 := hd_b (F := F) (F' := F') (k := 6) (hF 6 (by decide))
  have hB' : iv_in F' iv_B4 := iv_in_eq hB (fun j hj => hF j (Nat.lt_of_lt_of_le hj (by decide +kernel)))
  refine ⟨List.forall_mem_cons.mpr ⟨hd_p1 b6 rfl (by have hc : ((0) : Int32).toInt = 0 := (by decide); omega), fun _ h => absurd h List.not_mem_nil⟩, ?_⟩
  refine k _ ?_
  · exact fun j hj _ => (hd_keep hB' (Nat.lt_of_lt_of_le hj (by decide +kernel)) (by simp)).trans (hF j (Nat.lt_of_lt_of_le hj (by decide)))
theorem tf_67_p1 {Ls : Nat} {xs : Nat → Int32} {d : Nat} {Q : Option Value → jm_h → Prop} (hd : 5 ≤ d) (F : Nat → sy_d) (X1 X2 : List jm_c) (hB : iv_in F iv_B4)
    (h0 : (sy_i F 6).toInt = 0)
    (h1 : 0 ≤ (sy_i F 12).toInt ∧ (sy_i F 12).toInt < 2)
    (h2 : 0 ≤ (sy_i F 12).toInt ∧ (sy_i F 12).toInt < 2)
    (k : ∀ F1 : Nat → sy_d, (∀ j, j < 69 → j ≠ 31 → F1 j = F j) → F1 31 = .inr (.inl (jm_upd (sy_ai F 31) (sy_i F 12).toNatClampNeg (((sy_ai F 31).getD (sy_i F 12).toNatClampNeg 0) + ((1 : Int32))))) → Q (none) (sy_dh F1 X1 X2 (iv_H 4))) :
    hd_W Ls xs d jm_M158 Q (67, sy_dL F [some (.inl (.ref 1000)), none, none], sy_dS F [], sy_dh F X1 X2 (iv_H 4), 0, 0) := by
  refine hd_ret (s := 4) (nv := 70) (v := none) (uh := hd_ov (iv_id 0 iv_B4) [(31, .inr (.inr (.inl 72)))]) (f := false) (sp := []) (d0 := 4) (O := [false]) (T := [(30, [.inr (.inl 12)], [.inr (.inl 31)]), (0, [.inr (.inl 70), .inl (.int 1)], []), (40, [.inr (.inl 12), .inr (.inl 71)], [.inr (.inl 31)])]) (P := [(0, .inr (.inl 6), .inl (.int 0)), (6, .inr (.inl 12), .inl (.ref 2)), (6, .inr (.inl 12), .inl (.ref 2))]) jm_ok158 (by decide +kernel) (by decide +kernel) hd F X1 X2 (fun F' hF hs => ?_)
  have b6 := hd_b (F := F) (F' := F') (k := 6) (hF 6 (by decide))
  have b12 := hd_b (F := F) (F' := F') (k := 12) (hF 12 (by decide))
  have a31 := hd_ba (F := F) (F' := F') (k := 31) (hF 31 (by decide))
  have t70 : sy_dv F' (.inr (.inl 70)) = .int ((sy_ai F 31).getD (sy_i F 12).toNatClampNeg 0) := hd_rd (hs 0 _ rfl) b12 a31
  have t71 : sy_dv F' (.inr (.inl 71)) = .int (((sy_ai F 31).getD (sy_i F 12).toNatClampNeg 0) + ((1 : Int32))) := hd_o (hs 1 _ rfl) t70 rfl rfl
  have t72 : sy_da F' (.inr (.inl 72)) = .inl (jm_upd (sy_ai F 31) (sy_i F 12).toNatClampNeg (((sy_ai F 31).getD (sy_i F 12).toNatClampNeg 0) + ((1 : Int32)))) := hd_up (hs 2 _ rfl) b12 t71 a31
  have hB' : iv_in F' iv_B4 := iv_in_eq hB (fun j hj => hF j (Nat.lt_of_lt_of_le hj (by decide +kernel)))
  refine ⟨List.forall_mem_cons.mpr ⟨hd_p0 b6 rfl (by have hc : ((0) : Int32).toInt = 0 := (by decide); omega), List.forall_mem_cons.mpr ⟨hd_pb b12 (by first | exact h1 | exact h1), List.forall_mem_cons.mpr ⟨hd_pb b12 (by first | exact h2 | exact h2), fun _ h => absurd h List.not_mem_nil⟩⟩⟩, ?_⟩
  refine k _ ?_ ?_
  · exact fun j hj hn => (hd_keep hB' (Nat.lt_of_lt_of_le hj (by decide +kernel)) (by simp; omega)).trans (hF j (Nat.lt_of_lt_of_le hj (by decide)))
  · exact hd_ga (a := .inr (.inl 72)) (by decide +kernel) t72
theorem tb_0_p0 {Ls : Nat} {xs : Nat → Int32} {d : Nat} {Q : Option Value → jm_h → Prop} (hd : 5 ≤ d) (F : Nat → sy_d) (X1 X2 : List jm_c) (hB : iv_in F iv_B4)
    (h0 : 0 ≤ (sy_i F 12).toInt ∧ (sy_i F 12).toInt < 2)
    (k : ∀ F1 : Nat → sy_d, (∀ j, j < 69 → True → F1 j = F j) → F1 69 = .inl (.int ((((4 : Int32)) * (sy_i F 12)) + ((sy_ai F 35).getD (sy_i F 12).toNatClampNeg 0))) → hd_W Ls xs d jm_M159 Q (18, sy_dL F1 [some (.inl (.ref 1000)), some (.inr (.inl 69)), none], sy_dS F1 [.inl (.ref 1000)], sy_dh F1 X1 X2 (iv_H 4), 0, 0)) :
    hd_W Ls xs d jm_M159 Q (0, sy_dL F [some (.inl (.ref 1000)), none, none], sy_dS F [], sy_dh F X1 X2 (iv_H 4), 0, 0) := by
  refine hd_run (s := 4) (nv := 69) (pc := 18) (L := [some (.inl (.ref 1000)), some (.inr (.inl 69)), none]) (S := [.inl (.ref 1000)]) (uh := hd_ov (iv_id 0 iv_B4) []) (ul := [.inl (.inr (.inl 71))]) (f := true) (sp := [18]) (d0 := 4) (O := []) (T := [(2, [.inl (.int 4), .inr (.inl 12)], []), (30, [.inr (.inl 12)], [.inr (.inl 35)]), (0, [.inr (.inl 69), .inr (.inl 70)], [])]) (P := [(6, .inr (.inl 12), .inl (.ref 2))]) jm_ok159 (by decide +kernel) (by decide +kernel) hd F X1 X2 (fun F' hF hs => ?_)
  have b12 := hd_b (F := F) (F' := F') (k := 12) (hF 12 (by decide))
  have t69 : sy_dv F' (.inr (.inl 69)) = .int (((4 : Int32)) * (sy_i F 12)) := hd_o (hs 0 _ rfl) rfl b12 rfl
  have a35 := hd_ba (F := F) (F' := F') (k := 35) (hF 35 (by decide))
  have t70 : sy_dv F' (.inr (.inl 70)) = .int ((sy_ai F 35).getD (sy_i F 12).toNatClampNeg 0) := hd_rd (hs 1 _ rfl) b12 a35
  have t71 : sy_dv F' (.inr (.inl 71)) = .int ((((4 : Int32)) * (sy_i F 12)) + ((sy_ai F 35).getD (sy_i F 12).toNatClampNeg 0)) := hd_o (hs 2 _ rfl) t69 t70 rfl
  have hB' : iv_in F' iv_B4 := iv_in_eq hB (fun j hj => hF j (Nat.lt_of_lt_of_le hj (by decide +kernel)))
  refine ⟨List.forall_mem_cons.mpr ⟨hd_pb b12 (by first | exact h0 | exact h0), fun _ h => absurd h List.not_mem_nil⟩, ?_⟩
  refine k _ ?_ ?_
  · exact fun j hj _ => (hd_keep hB' (Nat.lt_of_lt_of_le hj (by decide +kernel)) (by simp)).trans (hF j (Nat.lt_of_lt_of_le hj (by decide)))
  · exact hd_gi (x := .inr (.inl 71)) (by decide +kernel) t71
theorem tb_21_p0 {Ls : Nat} {xs : Nat → Int32} {d : Nat} {Q : Option Value → jm_h → Prop} (hd : 5 ≤ d) (F : Nat → sy_d) (X1 X2 : List jm_c) (hB : iv_in F iv_B4)
    (k : ∀ F1 : Nat → sy_d, (∀ j, j < 69 → True → F1 j = F j) → F1 69 = .inl (.int (sy_i F 69)) → F1 70 = .inl (.int (sy_i F 70)) → hd_W Ls xs d jm_M159 Q (31, sy_dL F1 [some (.inl (.ref 1000)), some (.inr (.inl 69)), some (.inr (.inl 70))], sy_dS F1 [.inl (.int 9), .inl (.int 0), .inl (.ref 1000), .inr (.inl 69), .inl (.ref 1014)], sy_dh F1 X1 X2 (iv_H 4), 0, 0)) :
    hd_W Ls xs d jm_M159 Q (21, sy_dL F [some (.inl (.ref 1000)), some (.inr (.inl 69)), none], sy_dS F [.inr (.inl 70)], sy_dh F X1 X2 (iv_H 4), 0, 0) := by
  refine hd_run (s := 4) (nv := 71) (pc := 31) (L := [some (.inl (.ref 1000)), some (.inr (.inl 69)), some (.inr (.inl 70))]) (S := [.inl (.int 9), .inl (.int 0), .inl (.ref 1000), .inr (.inl 69), .inl (.ref 1014)]) (uh := hd_ov (iv_id 0 iv_B4) []) (ul := [.inl (.inr (.inl 69)), .inl (.inr (.inl 70))]) (f := false) (sp := [31]) (d0 := 4) (O := []) (T := []) (P := []) jm_ok159 (by decide +kernel) (by decide +kernel) hd F X1 X2 (fun F' hF hs => ?_)
  have b69 := hd_b (F := F) (F' := F') (k := 69) (hF 69 (by decide))
  have b70 := hd_b (F := F) (F' := F') (k := 70) (hF 70 (by decide))
  have hB' : iv_in F' iv_B4 := iv_in_eq hB (fun j hj => hF j (Nat.lt_of_lt_of_le hj (by decide +kernel)))
  refine ⟨fun _ h => absurd h List.not_mem_nil, ?_⟩
  refine k _ ?_ ?_ ?_
  · exact fun j hj _ => (hd_keep hB' (Nat.lt_of_lt_of_le hj (by decide +kernel)) (by simp)).trans (hF j (Nat.lt_of_lt_of_le hj (by decide)))
  · exact hd_gi (x := .inr (.inl 69)) (by decide +kernel) b69
  · exact hd_gi (x := .inr (.inl 70)) (by decide +kernel) b70
theorem tb_34_p0 {Ls : Nat} {xs : Nat → Int32} {d : Nat} {Q : Option Value → jm_h → Prop} (hd : 5 ≤ d) (F : Nat → sy_d) (X1 X2 : List jm_c) (hB : iv_in F iv_B4)
    (h0 : 0 ≤ (sy_i F 69).toInt ∧ (sy_i F 69).toInt < 8)
    (k : ∀ F1 : Nat → sy_d, (∀ j, j < 69 → j ≠ 36 → F1 j = F j) → F1 36 = .inr (.inl (jm_upd (sy_ai F 36) (sy_i F 69).toNatClampNeg (sy_i F 71))) → F1 69 = .inl (.int (sy_i F 69)) → F1 70 = .inl (.int (sy_i F 70)) → hd_W Ls xs d jm_M159 Q (43, sy_dL F1 [some (.inl (.ref 1000)), some (.inr (.inl 69)), some (.inr (.inl 70))], sy_dS F1 [.inl (.int 3), .inl (.int 0), .inl (.ref 1000), .inr (.inl 69), .inl (.ref 1015)], sy_dh F1 X1 X2 (iv_H 4), 0, 0)) :
    hd_W Ls xs d jm_M159 Q (34, sy_dL F [some (.inl (.ref 1000)), some (.inr (.inl 69)), some (.inr (.inl 70))], sy_dS F [.inr (.inl 71), .inr (.inl 69), .inl (.ref 1014)], sy_dh F X1 X2 (iv_H 4), 0, 0) := by
  refine hd_run (s := 4) (nv := 72) (pc := 43) (L := [some (.inl (.ref 1000)), some (.inr (.inl 69)), some (.inr (.inl 70))]) (S := [.inl (.int 3), .inl (.int 0), .inl (.ref 1000), .inr (.inl 69), .inl (.ref 1015)]) (uh := hd_ov (iv_id 0 iv_B4) [(36, .inr (.inr (.inl 72)))]) (ul := [.inl (.inr (.inl 69)), .inl (.inr (.inl 70))]) (f := false) (sp := [43]) (d0 := 4) (O := []) (T := [(40, [.inr (.inl 69), .inr (.inl 71)], [.inr (.inl 36)])]) (P := [(6, .inr (.inl 69), .inl (.ref 8))]) jm_ok159 (by decide +kernel) (by decide +kernel) hd F X1 X2 (fun F' hF hs => ?_)
  have b69 := hd_b (F := F) (F' := F') (k := 69) (hF 69 (by decide))
  have b71 := hd_b (F := F) (F' := F') (k := 71) (hF 71 (by decide))
  have a36 := hd_ba (F := F) (F' := F') (k := 36) (hF 36 (by decide))
  have t72 : sy_da F' (.inr (.inl 72)) = .inl (jm_upd (sy_ai F 36) (sy_i F 69).toNatClampNeg (sy_i F 71)) := hd_up (hs 0 _ rfl) b69 b71 a36
  have b70 := hd_b (F := F) (F' := F') (k := 70) (hF 70 (by decide))
  have hB' : iv_in F' iv_B4 := iv_in_eq hB (fun j hj => hF j (Nat.lt_of_lt_of_le hj (by decide +kernel)))
  refine ⟨List.forall_mem_cons.mpr ⟨hd_pb b69 (by first | exact h0 | exact h0), fun _ h => absurd h List.not_mem_nil⟩, ?_⟩
  refine k _ ?_ ?_ ?_ ?_
  · exact fun j hj hn => (hd_keep hB' (Nat.lt_of_lt_of_le hj (by decide +kernel)) (by simp; omega)).trans (hF j (Nat.lt_of_lt_of_le hj (by decide)))
  · exact hd_ga (a := .inr (.inl 72)) (by decide +kernel) t72
  · exact hd_gi (x := .inr (.inl 69)) (by decide +kernel) b69
  · exact hd_gi (x := .inr (.inl 70)) (by decide +kernel) b70
theorem tb_46_p0 {Ls : Nat} {xs : Nat → Int32} {d : Nat} {Q : Option Value → jm_h → Prop} (hd : 5 ≤ d) (F : Nat → sy_d) (X1 X2 : List jm_c) (hB : iv_in F iv_B4)
    (h0 : 0 ≤ (sy_i F 69).toInt ∧ (sy_i F 69).toInt < 8)
    (k : ∀ F1 : Nat → sy_d, (∀ j, j < 69 → j ≠ 37 → F1 j = F j) → F1 37 = .inr (.inl (jm_upd (sy_ai F 37) (sy_i F 69).toNatClampNeg (sy_i F 71))) → F1 69 = .inl (.int (sy_i F 69)) → F1 70 = .inl (.int (sy_i F 70)) → hd_W Ls xs d jm_M159 Q (57, sy_dL F1 [some (.inl (.ref 1000)), some (.inr (.inl 69)), some (.inr (.inl 70))], sy_dS F1 [.inl (.int 999), .inl (.int 0), .inl (.ref 1000), .inr (.inl 69), .inl (.ref 1016)], sy_dh F1 X1 X2 (iv_H 4), 0, 0)) :
    hd_W Ls xs d jm_M159 Q (46, sy_dL F [some (.inl (.ref 1000)), some (.inr (.inl 69)), some (.inr (.inl 70))], sy_dS F [.inr (.inl 71), .inr (.inl 69), .inl (.ref 1015)], sy_dh F X1 X2 (iv_H 4), 0, 0) := by
  refine hd_run (s := 4) (nv := 72) (pc := 57) (L := [some (.inl (.ref 1000)), some (.inr (.inl 69)), some (.inr (.inl 70))]) (S := [.inl (.int 999), .inl (.int 0), .inl (.ref 1000), .inr (.inl 69), .inl (.ref 1016)]) (uh := hd_ov (iv_id 0 iv_B4) [(37, .inr (.inr (.inl 72)))]) (ul := [.inl (.inr (.inl 69)), .inl (.inr (.inl 70))]) (f := false) (sp := [57]) (d0 := 4) (O := []) (T := [(40, [.inr (.inl 69), .inr (.inl 71)], [.inr (.inl 37)])]) (P := [(6, .inr (.inl 69), .inl (.ref 8))]) jm_ok159 (by decide +kernel) (by decide +kernel) hd F X1 X2 (fun F' hF hs => ?_)
  have b69 := hd_b (F := F) (F' := F') (k := 69) (hF 69 (by decide))
  have b71 := hd_b (F := F) (F' := F') (k := 71) (hF 71 (by decide))
  have a37 := hd_ba (F := F) (F' := F') (k := 37) (hF 37 (by decide))
  have t72 : sy_da F' (.inr (.inl 72)) = .inl (jm_upd (sy_ai F 37) (sy_i F 69).toNatClampNeg (sy_i F 71)) := hd_up (hs 0 _ rfl) b69 b71 a37
  have b70 := hd_b (F := F) (F' := F') (k := 70) (hF 70 (by decide))
  have hB' : iv_in F' iv_B4 := iv_in_eq hB (fun j hj => hF j (Nat.lt_of_lt_of_le hj (by decide +kernel)))
  refine ⟨List.forall_mem_cons.mpr ⟨hd_pb b69 (by first | exact h0 | exact h0), fun _ h => absurd h List.not_mem_nil⟩, ?_⟩
  refine k _ ?_ ?_ ?_ ?_
  · exact fun j hj hn => (hd_keep hB' (Nat.lt_of_lt_of_le hj (by decide +kernel)) (by simp; omega)).trans (hF j (Nat.lt_of_lt_of_le hj (by decide)))
  · exact hd_ga (a := .inr (.inl 72)) (by decide +kernel) t72
  · exact hd_gi (x := .inr (.inl 69)) (by decide +kernel) b69
  · exact hd_gi (x := .inr (.inl 70)) (by decide +kernel) b70
theorem tb_60_p0 {Ls : Nat} {xs : Nat → Int32} {d : Nat} {Q : Option Value → jm_h → Prop} (hd : 5 ≤ d) (F : Nat → sy_d) (X1 X2 : List jm_c) (hB : iv_in F iv_B4)
    (h0 : 0 ≤ (sy_i F 69).toInt ∧ (sy_i F 69).toInt < 8)
    (k : ∀ F1 : Nat → sy_d, (∀ j, j < 69 → j ≠ 38 → F1 j = F j) → F1 38 = .inr (.inl (jm_upd (sy_ai F 38) (sy_i F 69).toNatClampNeg (sy_i F 71))) → F1 69 = .inl (.int (sy_i F 70)) → hd_W Ls xs d jm_M159 Q (63, sy_dL F1 [some (.inl (.ref 1000)), none, none], sy_dS F1 [.inr (.inl 69), .inl (.ref 1000)], sy_dh F1 X1 X2 (iv_H 4), 0, 0)) :
    hd_W Ls xs d jm_M159 Q (60, sy_dL F [some (.inl (.ref 1000)), some (.inr (.inl 69)), some (.inr (.inl 70))], sy_dS F [.inr (.inl 71), .inr (.inl 69), .inl (.ref 1016)], sy_dh F X1 X2 (iv_H 4), 0, 0) := by
  refine hd_run (s := 4) (nv := 72) (pc := 63) (L := [some (.inl (.ref 1000)), none, none]) (S := [.inr (.inl 69), .inl (.ref 1000)]) (uh := hd_ov (iv_id 0 iv_B4) [(38, .inr (.inr (.inl 72)))]) (ul := [.inl (.inr (.inl 70))]) (f := false) (sp := [63]) (d0 := 4) (O := []) (T := [(40, [.inr (.inl 69), .inr (.inl 71)], [.inr (.inl 38)])]) (P := [(6, .inr (.inl 69), .inl (.ref 8))]) jm_ok159 (by decide +kernel) (by decide +kernel) hd F X1 X2 (fun F' hF hs => ?_)
  have b69 := hd_b (F := F) (F' := F') (k := 69) (hF 69 (by decide))
  have b71 := hd_b (F := F) (F' := F') (k := 71) (hF 71 (by decide))
  have a38 := hd_ba (F := F) (F' := F') (k := 38) (hF 38 (by decide))
  have t72 : sy_da F' (.inr (.inl 72)) = .inl (jm_upd (sy_ai F 38) (sy_i F 69).toNatClampNeg (sy_i F 71)) := hd_up (hs 0 _ rfl) b69 b71 a38
  have b70 := hd_b (F := F) (F' := F') (k := 70) (hF 70 (by decide))
  have hB' : iv_in F' iv_B4 := iv_in_eq hB (fun j hj => hF j (Nat.lt_of_lt_of_le hj (by decide +kernel)))
  refine ⟨List.forall_mem_cons.mpr ⟨hd_pb b69 (by first | exact h0 | exact h0), fun _ h => absurd h List.not_mem_nil⟩, ?_⟩
  refine k _ ?_ ?_ ?_
  · exact fun j hj hn => (hd_keep hB' (Nat.lt_of_lt_of_le hj (by decide +kernel)) (by simp; omega)).trans (hF j (Nat.lt_of_lt_of_le hj (by decide)))
  · exact hd_ga (a := .inr (.inl 72)) (by decide +kernel) t72
  · exact hd_gi (x := .inr (.inl 70)) (by decide +kernel) b70
theorem tb_66_p0 {Ls : Nat} {xs : Nat → Int32} {d : Nat} {Q : Option Value → jm_h → Prop} (hd : 5 ≤ d) (F : Nat → sy_d) (X1 X2 : List jm_c) (hB : iv_in F iv_B4)
    (h0 : (sy_i F 6).toInt ≠ 0)
    (k : ∀ F1 : Nat → sy_d, (∀ j, j < 69 → True → F1 j = F j) → Q (none) (sy_dh F1 X1 X2 (iv_H 4))) :
    hd_W Ls xs d jm_M159 Q (66, sy_dL F [some (.inl (.ref 1000)), none, none], sy_dS F [], sy_dh F X1 X2 (iv_H 4), 0, 0) := by
  refine hd_ret (s := 4) (nv := 70) (v := none) (uh := hd_ov (iv_id 0 iv_B4) []) (f := false) (sp := []) (d0 := 4) (O := [true]) (T := []) (P := [(1, .inr (.inl 6), .inl (.int 0))]) jm_ok159 (by decide +kernel) (by decide +kernel) hd F X1 X2 (fun F' hF hs => ?_)
  have b6 := hd_b (F := F) (F' := F') (k := 6) (hF 6 (by decide))
  have hB' : iv_in F' iv_B4 := iv_in_eq hB (fun j hj => hF j (Nat.lt_of_lt_of_le hj (by decide +kernel)))
  refine ⟨List.forall_mem_cons.mpr ⟨hd_p1 b6 rfl (by have hc : ((0) : Int32).toInt = 0 := (by decide); omega), fun _ h => absurd h List.not_mem_nil⟩, ?_⟩
  refine k _ ?_
  · exact fun j hj _ => (hd_keep hB' (Nat.lt_of_lt_of_le hj (by decide +kernel)) (by simp)).trans (hF j (Nat.lt_of_lt_of_le hj (by decide)))
theorem tb_66_p1 {Ls : Nat} {xs : Nat → Int32} {d : Nat} {Q : Option Value → jm_h → Prop} (hd : 5 ≤ d) (F : Nat → sy_d) (X1 X2 : List jm_c) (hB : iv_in F iv_B4)
    (h0 : (sy_i F 6).toInt = 0)
    (h1 : 0 ≤ (sy_i F 12).toInt ∧ (sy_i F 12).toInt < 2)
    (h2 : 0 ≤ (sy_i F 12).toInt ∧ (sy_i F 12).toInt < 2)
    (k : ∀ F1 : Nat → sy_d, (∀ j, j < 69 → j ≠ 35 → F1 j = F j) → F1 35 = .inr (.inl (jm_upd (sy_ai F 35) (sy_i F 12).toNatClampNeg (((sy_ai F 35).getD (sy_i F 12).toNatClampNeg 0) + ((1 : Int32))))) → Q (none) (sy_dh F1 X1 X2 (iv_H 4))) :
    hd_W Ls xs d jm_M159 Q (66, sy_dL F [some (.inl (.ref 1000)), none, none], sy_dS F [], sy_dh F X1 X2 (iv_H 4), 0, 0) := by
  refine hd_ret (s := 4) (nv := 70) (v := none) (uh := hd_ov (iv_id 0 iv_B4) [(35, .inr (.inr (.inl 72)))]) (f := false) (sp := []) (d0 := 4) (O := [false]) (T := [(30, [.inr (.inl 12)], [.inr (.inl 35)]), (0, [.inr (.inl 70), .inl (.int 1)], []), (40, [.inr (.inl 12), .inr (.inl 71)], [.inr (.inl 35)])]) (P := [(0, .inr (.inl 6), .inl (.int 0)), (6, .inr (.inl 12), .inl (.ref 2)), (6, .inr (.inl 12), .inl (.ref 2))]) jm_ok159 (by decide +kernel) (by decide +kernel) hd F X1 X2 (fun F' hF hs => ?_)
  have b6 := hd_b (F := F) (F' := F') (k := 6) (hF 6 (by decide))
  have b12 := hd_b (F := F) (F' := F') (k := 12) (hF 12 (by decide))
  have a35 := hd_ba (F := F) (F' := F') (k := 35) (hF 35 (by decide))
  have t70 : sy_dv F' (.inr (.inl 70)) = .int ((sy_ai F 35).getD (sy_i F 12).toNatClampNeg 0) := hd_rd (hs 0 _ rfl) b12 a35
  have t71 : sy_dv F' (.inr (.inl 71)) = .int (((sy_ai F 35).getD (sy_i F 12).toNatClampNeg 0) + ((1 : Int32))) := hd_o (hs 1 _ rfl) t70 rfl rfl
  have t72 : sy_da F' (.inr (.inl 72)) = .inl (jm_upd (sy_ai F 35) (sy_i F 12).toNatClampNeg (((sy_ai F 35).getD (sy_i F 12).toNatClampNeg 0) + ((1 : Int32)))) := hd_up (hs 2 _ rfl) b12 t71 a35
  have hB' : iv_in F' iv_B4 := iv_in_eq hB (fun j hj => hF j (Nat.lt_of_lt_of_le hj (by decide +kernel)))
  refine ⟨List.forall_mem_cons.mpr ⟨hd_p0 b6 rfl (by have hc : ((0) : Int32).toInt = 0 := (by decide); omega), List.forall_mem_cons.mpr ⟨hd_pb b12 (by first | exact h1 | exact h1), List.forall_mem_cons.mpr ⟨hd_pb b12 (by first | exact h2 | exact h2), fun _ h => absurd h List.not_mem_nil⟩⟩⟩, ?_⟩
  refine k _ ?_ ?_
  · exact fun j hj hn => (hd_keep hB' (Nat.lt_of_lt_of_le hj (by decide +kernel)) (by simp; omega)).trans (hF j (Nat.lt_of_lt_of_le hj (by decide)))
  · exact hd_ga (a := .inr (.inl 72)) (by decide +kernel) t72
end
section
/-! ===== fruit and buyers are told ===== -/
section TF
variable {Ls : Nat} {xs : Nat → Int32} (F : Nat → sy_d) (X1 X2 : List jm_c)
noncomputable def tf_I : List Nat := [4, 6, 7, 8, 9, 32, 33, 34]
noncomputable def tf_W : List Nat := [4, 6, 7, 8, 9, 13, 30, 31, 32, 33, 34]
noncomputable def tf_Q (F : Nat → sy_d) (X1 X2 : List jm_c) (v : Option Value) (G : jm_h) : Prop := ∃ F' : Nat → sy_d, v = none ∧ G = sy_dh F' X1 X2 (iv_H 4) ∧ gr tf_W F F' ∧ ((sy_i F' 6).toInt = 0 → (sy_i F' 13).toInt = (sy_i F 13).toInt + 1 ∧ ((sy_ai F' 31).getD (sy_i F 12).toInt.toNat 0).toInt = ((sy_ai F 31).getD (sy_i F 12).toInt.toNat 0).toInt + 1)
noncomputable def tb_I : List Nat := [4, 6, 7, 8, 9, 36, 37, 38]
noncomputable def tb_W : List Nat := [4, 6, 7, 8, 9, 13, 30, 35, 36, 37, 38]
noncomputable def tb_Q (F : Nat → sy_d) (X1 X2 : List jm_c) (v : Option Value) (G : jm_h) : Prop := ∃ F' : Nat → sy_d, v = none ∧ G = sy_dh F' X1 X2 (iv_H 4) ∧ gr tb_W F F' ∧ ((sy_i F' 6).toInt = 0 → (sy_i F' 13).toInt = (sy_i F 13).toInt + 1 ∧ ((sy_ai F' 35).getD (sy_i F 12).toInt.toNat 0).toInt = ((sy_ai F 35).getD (sy_i F 12).toInt.toNat 0).toInt + 1)
end TF
end
section
/-! ===== expressions, way by way ===== -/
theorem co_0_p0 {Ls : Nat} {xs : Nat → Int32} {d : Nat} {Q : Option Value → jm_h → Prop} (hd : 2 ≤ d) (F : Nat → sy_d) (X1 X2 : List jm_c) (hB : iv_in F iv_B4)
    (h0 : (sy_i F 16).toInt ≤ 0)
    (k : ∀ F1 : Nat → sy_d, (∀ j, j < 69 → True → F1 j = F j) → Q (none) (sy_dh F1 X1 X2 (iv_H 4))) :
    hd_W Ls xs d jm_M163 Q (0, sy_dL F [some (.inl (.ref 1000)), some (.inr (.inl 69)), none], sy_dS F [], sy_dh F X1 X2 (iv_H 4), 0, 0) := by
  refine hd_ret (s := 4) (nv := 70) (v := none) (uh := hd_ov (iv_id 0 iv_B4) []) (f := true) (sp := [0]) (d0 := 1) (O := [true]) (T := []) (P := [(4, .inr (.inl 16), .inl (.int 0))]) jm_ok163 (by decide +kernel) (by decide +kernel) hd F X1 X2 (fun F' hF hs => ?_)
  have b16 := hd_b (F := F) (F' := F') (k := 16) (hF 16 (by decide))
  have hB' : iv_in F' iv_B4 := iv_in_eq hB (fun j hj => hF j (Nat.lt_of_lt_of_le hj (by decide +kernel)))
  refine ⟨List.forall_mem_cons.mpr ⟨hd_p4 b16 rfl (by have hc : ((0) : Int32).toInt = 0 := (by decide); omega), fun _ h => absurd h List.not_mem_nil⟩, ?_⟩
  refine k _ ?_
  · exact fun j hj _ => (hd_keep hB' (Nat.lt_of_lt_of_le hj (by decide +kernel)) (by simp)).trans (hF j (Nat.lt_of_lt_of_le hj (by decide)))
theorem co_0_p1 {Ls : Nat} {xs : Nat → Int32} {d : Nat} {Q : Option Value → jm_h → Prop} (hd : 2 ≤ d) (F : Nat → sy_d) (X1 X2 : List jm_c) (hB : iv_in F iv_B4)
    (h0 : 0 < (sy_i F 16).toInt)
    (h1 : 0 ≤ ((sy_i F 16) - ((1 : Int32))).toInt ∧ ((sy_i F 16) - ((1 : Int32))).toInt < 64)
    (h2 : ((sy_ai F 51).getD ((sy_i F 16) - ((1 : Int32))).toNatClampNeg 0).toInt = 6)
    (k : ∀ F1 : Nat → sy_d, (∀ j, j < 69 → True → F1 j = F j) → Q (none) (sy_dh F1 X1 X2 (iv_H 4))) :
    hd_W Ls xs d jm_M163 Q (0, sy_dL F [some (.inl (.ref 1000)), some (.inr (.inl 69)), none], sy_dS F [], sy_dh F X1 X2 (iv_H 4), 0, 0) := by
  refine hd_ret (s := 4) (nv := 70) (v := none) (uh := hd_ov (iv_id 0 iv_B4) []) (f := true) (sp := [0]) (d0 := 1) (O := [false, true]) (T := [(1, [.inr (.inl 16), .inl (.int 1)], []), (30, [.inr (.inl 70)], [.inr (.inl 51)])]) (P := [(5, .inr (.inl 16), .inl (.int 0)), (6, .inr (.inl 70), .inl (.ref 64)), (0, .inr (.inl 71), .inl (.int 6))]) jm_ok163 (by decide +kernel) (by decide +kernel) hd F X1 X2 (fun F' hF hs => ?_)
  have b16 := hd_b (F := F) (F' := F') (k := 16) (hF 16 (by decide))
  have t70 : sy_dv F' (.inr (.inl 70)) = .int ((sy_i F 16) - ((1 : Int32))) := hd_o (hs 0 _ rfl) b16 rfl rfl
  have a51 := hd_ba (F := F) (F' := F') (k := 51) (hF 51 (by decide))
  have t71 : sy_dv F' (.inr (.inl 71)) = .int ((sy_ai F 51).getD ((sy_i F 16) - ((1 : Int32))).toNatClampNeg 0) := hd_rd (hs 1 _ rfl) t70 a51
  have hB' : iv_in F' iv_B4 := iv_in_eq hB (fun j hj => hF j (Nat.lt_of_lt_of_le hj (by decide +kernel)))
  refine ⟨List.forall_mem_cons.mpr ⟨hd_p5 b16 rfl (by have hc : ((0) : Int32).toInt = 0 := (by decide); omega), List.forall_mem_cons.mpr ⟨hd_pb t70 (by first | exact h1 | exact h1), List.forall_mem_cons.mpr ⟨hd_p0 t71 rfl (by have hc : ((6) : Int32).toInt = 6 := (by decide); omega), fun _ h => absurd h List.not_mem_nil⟩⟩⟩, ?_⟩
  refine k _ ?_
  · exact fun j hj _ => (hd_keep hB' (Nat.lt_of_lt_of_le hj (by decide +kernel)) (by simp)).trans (hF j (Nat.lt_of_lt_of_le hj (by decide)))
theorem co_0_p2 {Ls : Nat} {xs : Nat → Int32} {d : Nat} {Q : Option Value → jm_h → Prop} (hd : 2 ≤ d) (F : Nat → sy_d) (X1 X2 : List jm_c) (hB : iv_in F iv_B4)
    (h0 : 0 < (sy_i F 16).toInt)
    (h1 : 0 ≤ ((sy_i F 16) - ((1 : Int32))).toInt ∧ ((sy_i F 16) - ((1 : Int32))).toInt < 64)
    (h2 : ((sy_ai F 51).getD ((sy_i F 16) - ((1 : Int32))).toNatClampNeg 0).toInt ≠ 6)
    (h3 : (sy_i F 69).toInt = 0)
    (h4 : ((sy_ai F 51).getD ((sy_i F 16) - ((1 : Int32))).toNatClampNeg 0).toInt ≠ 8)
    (h5 : ((sy_ai F 51).getD ((sy_i F 16) - ((1 : Int32))).toNatClampNeg 0).toInt ≠ 9)
    (h6 : ((sy_ai F 51).getD ((sy_i F 16) - ((1 : Int32))).toNatClampNeg 0).toInt ≠ 10)
    (h7 : 0 ≤ (sy_i F 15).toInt ∧ (sy_i F 15).toInt < 840)
    (h8 : 0 ≤ (sy_i F 15).toInt ∧ (sy_i F 15).toInt < 840)
    (k : ∀ F1 : Nat → sy_d, (∀ j, j < 69 → j ≠ 15 ∧ j ≠ 16 ∧ j ≠ 49 ∧ j ≠ 50 → F1 j = F j) → F1 15 = .inl (.int ((sy_i F 15) + ((1 : Int32)))) → F1 16 = .inl (.int ((sy_i F 16) - ((1 : Int32)))) → F1 49 = .inr (.inl (jm_upd (sy_ai F 49) (sy_i F 15).toNatClampNeg ((5 : Int32)))) → F1 50 = .inr (.inl (jm_upd (sy_ai F 50) (sy_i F 15).toNatClampNeg ((0 : Int32)))) → F1 69 = .inl (.int (sy_i F 69)) → hd_W Ls xs d jm_M163 Q (0, sy_dL F1 [some (.inl (.ref 1000)), some (.inr (.inl 69)), none], sy_dS F1 [], sy_dh F1 X1 X2 (iv_H 4), 0, 0)) :
    hd_W Ls xs d jm_M163 Q (0, sy_dL F [some (.inl (.ref 1000)), some (.inr (.inl 69)), none], sy_dS F [], sy_dh F X1 X2 (iv_H 4), 0, 0) := by
  refine hd_run (s := 4) (nv := 70) (pc := 0) (L := [some (.inl (.ref 1000)), some (.inr (.inl 69)), none]) (S := []) (uh := hd_ov (iv_id 0 iv_B4) [(15, .inl (.inr (.inl 75))), (16, .inl (.inr (.inl 72))), (49, .inr (.inr (.inl 73))), (50, .inr (.inr (.inl 74)))]) (ul := [.inl (.inr (.inl 69))]) (f := true) (sp := [0]) (d0 := 1) (O := [false, false, true, true, true, true]) (T := [(1, [.inr (.inl 16), .inl (.int 1)], []), (30, [.inr (.inl 70)], [.inr (.inl 51)]), (1, [.inr (.inl 16), .inl (.int 1)], []), (40, [.inr (.inl 15), .inl (.int 5)], [.inr (.inl 49)]), (40, [.inr (.inl 15), .inl (.int 0)], [.inr (.inl 50)]), (0, [.inr (.inl 15), .inl (.int 1)], [])]) (P := [(5, .inr (.inl 16), .inl (.int 0)), (6, .inr (.inl 70), .inl (.ref 64)), (1, .inr (.inl 71), .inl (.int 6)), (0, .inr (.inl 69), .inl (.int 0)), (1, .inr (.inl 71), .inl (.int 8)), (1, .inr (.inl 71), .inl (.int 9)), (1, .inr (.inl 71), .inl (.int 10)), (6, .inr (.inl 15), .inl (.ref 840)), (6, .inr (.inl 15), .inl (.ref 840))]) jm_ok163 (by decide +kernel) (by decide +kernel) hd F X1 X2 (fun F' hF hs => ?_)
  have b16 := hd_b (F := F) (F' := F') (k := 16) (hF 16 (by decide))
  have t70 : sy_dv F' (.inr (.inl 70)) = .int ((sy_i F 16) - ((1 : Int32))) := hd_o (hs 0 _ rfl) b16 rfl rfl
  have a51 := hd_ba (F := F) (F' := F') (k := 51) (hF 51 (by decide))
  have t71 : sy_dv F' (.inr (.inl 71)) = .int ((sy_ai F 51).getD ((sy_i F 16) - ((1 : Int32))).toNatClampNeg 0) := hd_rd (hs 1 _ rfl) t70 a51
  have b69 := hd_b (F := F) (F' := F') (k := 69) (hF 69 (by decide))
  have b15 := hd_b (F := F) (F' := F') (k := 15) (hF 15 (by decide))
  have t75 : sy_dv F' (.inr (.inl 75)) = .int ((sy_i F 15) + ((1 : Int32))) := hd_o (hs 5 _ rfl) b15 rfl rfl
  have t72 : sy_dv F' (.inr (.inl 72)) = .int ((sy_i F 16) - ((1 : Int32))) := hd_o (hs 2 _ rfl) b16 rfl rfl
  have a49 := hd_ba (F := F) (F' := F') (k := 49) (hF 49 (by decide))
  have t73 : sy_da F' (.inr (.inl 73)) = .inl (jm_upd (sy_ai F 49) (sy_i F 15).toNatClampNeg ((5 : Int32))) := hd_up (hs 3 _ rfl) b15 rfl a49
  have a50 := hd_ba (F := F) (F' := F') (k := 50) (hF 50 (by decide))
  have t74 : sy_da F' (.inr (.inl 74)) = .inl (jm_upd (sy_ai F 50) (sy_i F 15).toNatClampNeg ((0 : Int32))) := hd_up (hs 4 _ rfl) b15 rfl a50
  have hB' : iv_in F' iv_B4 := iv_in_eq hB (fun j hj => hF j (Nat.lt_of_lt_of_le hj (by decide +kernel)))
  refine ⟨List.forall_mem_cons.mpr ⟨hd_p5 b16 rfl (by have hc : ((0) : Int32).toInt = 0 := (by decide); omega), List.forall_mem_cons.mpr ⟨hd_pb t70 (by first | exact h1 | exact h1), List.forall_mem_cons.mpr ⟨hd_p1 t71 rfl (by have hc : ((6) : Int32).toInt = 6 := (by decide); omega), List.forall_mem_cons.mpr ⟨hd_p0 b69 rfl (by have hc : ((0) : Int32).toInt = 0 := (by decide); omega), List.forall_mem_cons.mpr ⟨hd_p1 t71 rfl (by have hc : ((8) : Int32).toInt = 8 := (by decide); omega), List.forall_mem_cons.mpr ⟨hd_p1 t71 rfl (by have hc : ((9) : Int32).toInt = 9 := (by decide); omega), List.forall_mem_cons.mpr ⟨hd_p1 t71 rfl (by have hc : ((10) : Int32).toInt = 10 := (by decide); omega), List.forall_mem_cons.mpr ⟨hd_pb b15 (by first | exact h7 | exact h7), List.forall_mem_cons.mpr ⟨hd_pb b15 (by first | exact h8 | exact h8), fun _ h => absurd h List.not_mem_nil⟩⟩⟩⟩⟩⟩⟩⟩⟩, ?_⟩
  refine k _ ?_ ?_ ?_ ?_ ?_ ?_
  · exact fun j hj hn => (hd_keep hB' (Nat.lt_of_lt_of_le hj (by decide +kernel)) (by simp; omega)).trans (hF j (Nat.lt_of_lt_of_le hj (by decide)))
  · exact hd_gi (x := .inr (.inl 75)) (by decide +kernel) t75
  · exact hd_gi (x := .inr (.inl 72)) (by decide +kernel) t72
  · exact hd_ga (a := .inr (.inl 73)) (by decide +kernel) t73
  · exact hd_ga (a := .inr (.inl 74)) (by decide +kernel) t74
  · exact hd_gi (x := .inr (.inl 69)) (by decide +kernel) b69
theorem co_0_p3 {Ls : Nat} {xs : Nat → Int32} {d : Nat} {Q : Option Value → jm_h → Prop} (hd : 2 ≤ d) (F : Nat → sy_d) (X1 X2 : List jm_c) (hB : iv_in F iv_B4)
    (h0 : 0 < (sy_i F 16).toInt)
    (h1 : 0 ≤ ((sy_i F 16) - ((1 : Int32))).toInt ∧ ((sy_i F 16) - ((1 : Int32))).toInt < 64)
    (h2 : ((sy_ai F 51).getD ((sy_i F 16) - ((1 : Int32))).toNatClampNeg 0).toInt ≠ 6)
    (h3 : (sy_i F 69).toInt = 0)
    (h4 : ((sy_ai F 51).getD ((sy_i F 16) - ((1 : Int32))).toNatClampNeg 0).toInt ≠ 8)
    (h5 : ((sy_ai F 51).getD ((sy_i F 16) - ((1 : Int32))).toNatClampNeg 0).toInt ≠ 9)
    (h6 : ((sy_ai F 51).getD ((sy_i F 16) - ((1 : Int32))).toNatClampNeg 0).toInt = 10)
    (h7 : 0 ≤ (sy_i F 15).toInt ∧ (sy_i F 15).toInt < 840)
    (h8 : 0 ≤ (sy_i F 15).toInt ∧ (sy_i F 15).toInt < 840)
    (k : ∀ F1 : Nat → sy_d, (∀ j, j < 69 → j ≠ 15 ∧ j ≠ 16 ∧ j ≠ 49 ∧ j ≠ 50 → F1 j = F j) → F1 15 = .inl (.int ((sy_i F 15) + ((1 : Int32)))) → F1 16 = .inl (.int ((sy_i F 16) - ((1 : Int32)))) → F1 49 = .inr (.inl (jm_upd (sy_ai F 49) (sy_i F 15).toNatClampNeg ((4 : Int32)))) → F1 50 = .inr (.inl (jm_upd (sy_ai F 50) (sy_i F 15).toNatClampNeg ((0 : Int32)))) → F1 69 = .inl (.int (sy_i F 69)) → hd_W Ls xs d jm_M163 Q (0, sy_dL F1 [some (.inl (.ref 1000)), some (.inr (.inl 69)), none], sy_dS F1 [], sy_dh F1 X1 X2 (iv_H 4), 0, 0)) :
    hd_W Ls xs d jm_M163 Q (0, sy_dL F [some (.inl (.ref 1000)), some (.inr (.inl 69)), none], sy_dS F [], sy_dh F X1 X2 (iv_H 4), 0, 0) := by
  refine hd_run (s := 4) (nv := 70) (pc := 0) (L := [some (.inl (.ref 1000)), some (.inr (.inl 69)), none]) (S := []) (uh := hd_ov (iv_id 0 iv_B4) [(15, .inl (.inr (.inl 75))), (16, .inl (.inr (.inl 72))), (49, .inr (.inr (.inl 73))), (50, .inr (.inr (.inl 74)))]) (ul := [.inl (.inr (.inl 69))]) (f := true) (sp := [0]) (d0 := 1) (O := [false, false, true, true, true, false]) (T := [(1, [.inr (.inl 16), .inl (.int 1)], []), (30, [.inr (.inl 70)], [.inr (.inl 51)]), (1, [.inr (.inl 16), .inl (.int 1)], []), (40, [.inr (.inl 15), .inl (.int 4)], [.inr (.inl 49)]), (40, [.inr (.inl 15), .inl (.int 0)], [.inr (.inl 50)]), (0, [.inr (.inl 15), .inl (.int 1)], [])]) (P := [(5, .inr (.inl 16), .inl (.int 0)), (6, .inr (.inl 70), .inl (.ref 64)), (1, .inr (.inl 71), .inl (.int 6)), (0, .inr (.inl 69), .inl (.int 0)), (1, .inr (.inl 71), .inl (.int 8)), (1, .inr (.inl 71), .inl (.int 9)), (0, .inr (.inl 71), .inl (.int 10)), (6, .inr (.inl 15), .inl (.ref 840)), (6, .inr (.inl 15), .inl (.ref 840))]) jm_ok163 (by decide +kernel) (by decide +kernel) hd F X1 X2 (fun F' hF hs => ?_)
  have b16 := hd_b (F := F) (F' := F') (k := 16) (hF 16 (by decide))
  have t70 : sy_dv F' (.inr (.inl 70)) = .int ((sy_i F 16) - ((1 : Int32))) := hd_o (hs 0 _ rfl) b16 rfl rfl
  have a51 := hd_ba (F := F) (F' := F') (k := 51) (hF 51 (by decide))
  have t71 : sy_dv F' (.inr (.inl 71)) = .int ((sy_ai F 51).getD ((sy_i F 16) - ((1 : Int32))).toNatClampNeg 0) := hd_rd (hs 1 _ rfl) t70 a51
  have b69 := hd_b (F := F) (F' := F') (k := 69) (hF 69 (by decide))
  have b15 := hd_b (F := F) (F' := F') (k := 15) (hF 15 (by decide))
  have t75 : sy_dv F' (.inr (.inl 75)) = .int ((sy_i F 15) + ((1 : Int32))) := hd_o (hs 5 _ rfl) b15 rfl rfl
  have t72 : sy_dv F' (.inr (.inl 72)) = .int ((sy_i F 16) - ((1 : Int32))) := hd_o (hs 2 _ rfl) b16 rfl rfl
  have a49 := hd_ba (F := F) (F' := F') (k := 49) (hF 49 (by decide))
  have t73 : sy_da F' (.inr (.inl 73)) = .inl (jm_upd (sy_ai F 49) (sy_i F 15).toNatClampNeg ((4 : Int32))) := hd_up (hs 3 _ rfl) b15 rfl a49
  have a50 := hd_ba (F := F) (F' := F') (k := 50) (hF 50 (by decide))
  have t74 : sy_da F' (.inr (.inl 74)) = .inl (jm_upd (sy_ai F 50) (sy_i F 15).toNatClampNeg ((0 : Int32))) := hd_up (hs 4 _ rfl) b15 rfl a50
  have hB' : iv_in F' iv_B4 := iv_in_eq hB (fun j hj => hF j (Nat.lt_of_lt_of_le hj (by decide +kernel)))
  refine ⟨List.forall_mem_cons.mpr ⟨hd_p5 b16 rfl (by have hc : ((0) : Int32).toInt = 0 := (by decide); omega), List.forall_mem_cons.mpr ⟨hd_pb t70 (by first | exact h1 | exact h1), List.forall_mem_cons.mpr ⟨hd_p1 t71 rfl (by have hc : ((6) : Int32).toInt = 6 := (by decide); omega), List.forall_mem_cons.mpr ⟨hd_p0 b69 rfl (by have hc : ((0) : Int32).toInt = 0 := (by decide); omega), List.forall_mem_cons.mpr ⟨hd_p1 t71 rfl (by have hc : ((8) : Int32).toInt = 8 := (by decide); omega), List.forall_mem_cons.mpr ⟨hd_p1 t71 rfl (by have hc : ((9) : Int32).toInt = 9 := (by decide); omega), List.forall_mem_cons.mpr ⟨hd_p0 t71 rfl (by have hc : ((10) : Int32).toInt = 10 := (by decide); omega), List.forall_mem_cons.mpr ⟨hd_pb b15 (by first | exact h7 | exact h7), List.forall_mem_cons.mpr ⟨hd_pb b15 (by first | exact h8 | exact h8), fun _ h => absurd h List.not_mem_nil⟩⟩⟩⟩⟩⟩⟩⟩⟩, ?_⟩
  refine k _ ?_ ?_ ?_ ?_ ?_ ?_
  · exact fun j hj hn => (hd_keep hB' (Nat.lt_of_lt_of_le hj (by decide +kernel)) (by simp; omega)).trans (hF j (Nat.lt_of_lt_of_le hj (by decide)))
  · exact hd_gi (x := .inr (.inl 75)) (by decide +kernel) t75
  · exact hd_gi (x := .inr (.inl 72)) (by decide +kernel) t72
  · exact hd_ga (a := .inr (.inl 73)) (by decide +kernel) t73
  · exact hd_ga (a := .inr (.inl 74)) (by decide +kernel) t74
  · exact hd_gi (x := .inr (.inl 69)) (by decide +kernel) b69
theorem co_0_p4 {Ls : Nat} {xs : Nat → Int32} {d : Nat} {Q : Option Value → jm_h → Prop} (hd : 2 ≤ d) (F : Nat → sy_d) (X1 X2 : List jm_c) (hB : iv_in F iv_B4)
    (h0 : 0 < (sy_i F 16).toInt)
    (h1 : 0 ≤ ((sy_i F 16) - ((1 : Int32))).toInt ∧ ((sy_i F 16) - ((1 : Int32))).toInt < 64)
    (h2 : ((sy_ai F 51).getD ((sy_i F 16) - ((1 : Int32))).toNatClampNeg 0).toInt ≠ 6)
    (h3 : (sy_i F 69).toInt = 0)
    (h4 : ((sy_ai F 51).getD ((sy_i F 16) - ((1 : Int32))).toNatClampNeg 0).toInt ≠ 8)
    (h5 : ((sy_ai F 51).getD ((sy_i F 16) - ((1 : Int32))).toNatClampNeg 0).toInt = 9)
    (h6 : 0 ≤ (sy_i F 15).toInt ∧ (sy_i F 15).toInt < 840)
    (h7 : 0 ≤ (sy_i F 15).toInt ∧ (sy_i F 15).toInt < 840)
    (k : ∀ F1 : Nat → sy_d, (∀ j, j < 69 → j ≠ 15 ∧ j ≠ 16 ∧ j ≠ 49 ∧ j ≠ 50 → F1 j = F j) → F1 15 = .inl (.int ((sy_i F 15) + ((1 : Int32)))) → F1 16 = .inl (.int ((sy_i F 16) - ((1 : Int32)))) → F1 49 = .inr (.inl (jm_upd (sy_ai F 49) (sy_i F 15).toNatClampNeg ((3 : Int32)))) → F1 50 = .inr (.inl (jm_upd (sy_ai F 50) (sy_i F 15).toNatClampNeg ((0 : Int32)))) → F1 69 = .inl (.int (sy_i F 69)) → hd_W Ls xs d jm_M163 Q (0, sy_dL F1 [some (.inl (.ref 1000)), some (.inr (.inl 69)), none], sy_dS F1 [], sy_dh F1 X1 X2 (iv_H 4), 0, 0)) :
    hd_W Ls xs d jm_M163 Q (0, sy_dL F [some (.inl (.ref 1000)), some (.inr (.inl 69)), none], sy_dS F [], sy_dh F X1 X2 (iv_H 4), 0, 0) := by
  refine hd_run (s := 4) (nv := 70) (pc := 0) (L := [some (.inl (.ref 1000)), some (.inr (.inl 69)), none]) (S := []) (uh := hd_ov (iv_id 0 iv_B4) [(15, .inl (.inr (.inl 75))), (16, .inl (.inr (.inl 72))), (49, .inr (.inr (.inl 73))), (50, .inr (.inr (.inl 74)))]) (ul := [.inl (.inr (.inl 69))]) (f := true) (sp := [0]) (d0 := 1) (O := [false, false, true, true, false]) (T := [(1, [.inr (.inl 16), .inl (.int 1)], []), (30, [.inr (.inl 70)], [.inr (.inl 51)]), (1, [.inr (.inl 16), .inl (.int 1)], []), (40, [.inr (.inl 15), .inl (.int 3)], [.inr (.inl 49)]), (40, [.inr (.inl 15), .inl (.int 0)], [.inr (.inl 50)]), (0, [.inr (.inl 15), .inl (.int 1)], [])]) (P := [(5, .inr (.inl 16), .inl (.int 0)), (6, .inr (.inl 70), .inl (.ref 64)), (1, .inr (.inl 71), .inl (.int 6)), (0, .inr (.inl 69), .inl (.int 0)), (1, .inr (.inl 71), .inl (.int 8)), (0, .inr (.inl 71), .inl (.int 9)), (6, .inr (.inl 15), .inl (.ref 840)), (6, .inr (.inl 15), .inl (.ref 840))]) jm_ok163 (by decide +kernel) (by decide +kernel) hd F X1 X2 (fun F' hF hs => ?_)
  have b16 := hd_b (F := F) (F' := F') (k := 16) (hF 16 (by decide))
  have t70 : sy_dv F' (.inr (.inl 70)) = .int ((sy_i F 16) - ((1 : Int32))) := hd_o (hs 0 _ rfl) b16 rfl rfl
  have a51 := hd_ba (F := F) (F' := F') (k := 51) (hF 51 (by decide))
  have t71 : sy_dv F' (.inr (.inl 71)) = .int ((sy_ai F 51).getD ((sy_i F 16) - ((1 : Int32))).toNatClampNeg 0) := hd_rd (hs 1 _ rfl) t70 a51
  have b69 := hd_b (F := F) (F' := F') (k := 69) (hF 69 (by decide))
  have b15 := hd_b (F := F) (F' := F') (k := 15) (hF 15 (by decide))
  have t75 : sy_dv F' (.inr (.inl 75)) = .int ((sy_i F 15) + ((1 : Int32))) := hd_o (hs 5 _ rfl) b15 rfl rfl
  have t72 : sy_dv F' (.inr (.inl 72)) = .int ((sy_i F 16) - ((1 : Int32))) := hd_o (hs 2 _ rfl) b16 rfl rfl
  have a49 := hd_ba (F := F) (F' := F') (k := 49) (hF 49 (by decide))
  have t73 : sy_da F' (.inr (.inl 73)) = .inl (jm_upd (sy_ai F 49) (sy_i F 15).toNatClampNeg ((3 : Int32))) := hd_up (hs 3 _ rfl) b15 rfl a49
  have a50 := hd_ba (F := F) (F' := F') (k := 50) (hF 50 (by decide))
  have t74 : sy_da F' (.inr (.inl 74)) = .inl (jm_upd (sy_ai F 50) (sy_i F 15).toNatClampNeg ((0 : Int32))) := hd_up (hs 4 _ rfl) b15 rfl a50
  have hB' : iv_in F' iv_B4 := iv_in_eq hB (fun j hj => hF j (Nat.lt_of_lt_of_le hj (by decide +kernel)))
  refine ⟨List.forall_mem_cons.mpr ⟨hd_p5 b16 rfl (by have hc : ((0) : Int32).toInt = 0 := (by decide); omega), List.forall_mem_cons.mpr ⟨hd_pb t70 (by first | exact h1 | exact h1), List.forall_mem_cons.mpr ⟨hd_p1 t71 rfl (by have hc : ((6) : Int32).toInt = 6 := (by decide); omega), List.forall_mem_cons.mpr ⟨hd_p0 b69 rfl (by have hc : ((0) : Int32).toInt = 0 := (by decide); omega), List.forall_mem_cons.mpr ⟨hd_p1 t71 rfl (by have hc : ((8) : Int32).toInt = 8 := (by decide); omega), List.forall_mem_cons.mpr ⟨hd_p0 t71 rfl (by have hc : ((9) : Int32).toInt = 9 := (by decide); omega), List.forall_mem_cons.mpr ⟨hd_pb b15 (by first | exact h6 | exact h6), List.forall_mem_cons.mpr ⟨hd_pb b15 (by first | exact h7 | exact h7), fun _ h => absurd h List.not_mem_nil⟩⟩⟩⟩⟩⟩⟩⟩, ?_⟩
  refine k _ ?_ ?_ ?_ ?_ ?_ ?_
  · exact fun j hj hn => (hd_keep hB' (Nat.lt_of_lt_of_le hj (by decide +kernel)) (by simp; omega)).trans (hF j (Nat.lt_of_lt_of_le hj (by decide)))
  · exact hd_gi (x := .inr (.inl 75)) (by decide +kernel) t75
  · exact hd_gi (x := .inr (.inl 72)) (by decide +kernel) t72
  · exact hd_ga (a := .inr (.inl 73)) (by decide +kernel) t73
  · exact hd_ga (a := .inr (.inl 74)) (by decide +kernel) t74
  · exact hd_gi (x := .inr (.inl 69)) (by decide +kernel) b69
theorem co_0_p5 {Ls : Nat} {xs : Nat → Int32} {d : Nat} {Q : Option Value → jm_h → Prop} (hd : 2 ≤ d) (F : Nat → sy_d) (X1 X2 : List jm_c) (hB : iv_in F iv_B4)
    (h0 : 0 < (sy_i F 16).toInt)
    (h1 : 0 ≤ ((sy_i F 16) - ((1 : Int32))).toInt ∧ ((sy_i F 16) - ((1 : Int32))).toInt < 64)
    (h2 : ((sy_ai F 51).getD ((sy_i F 16) - ((1 : Int32))).toNatClampNeg 0).toInt ≠ 6)
    (h3 : (sy_i F 69).toInt = 0)
    (h4 : ((sy_ai F 51).getD ((sy_i F 16) - ((1 : Int32))).toNatClampNeg 0).toInt = 8)
    (h5 : 0 ≤ (sy_i F 15).toInt ∧ (sy_i F 15).toInt < 840)
    (h6 : 0 ≤ (sy_i F 15).toInt ∧ (sy_i F 15).toInt < 840)
    (k : ∀ F1 : Nat → sy_d, (∀ j, j < 69 → j ≠ 15 ∧ j ≠ 16 ∧ j ≠ 49 ∧ j ≠ 50 → F1 j = F j) → F1 15 = .inl (.int ((sy_i F 15) + ((1 : Int32)))) → F1 16 = .inl (.int ((sy_i F 16) - ((1 : Int32)))) → F1 49 = .inr (.inl (jm_upd (sy_ai F 49) (sy_i F 15).toNatClampNeg ((2 : Int32)))) → F1 50 = .inr (.inl (jm_upd (sy_ai F 50) (sy_i F 15).toNatClampNeg ((0 : Int32)))) → F1 69 = .inl (.int (sy_i F 69)) → hd_W Ls xs d jm_M163 Q (0, sy_dL F1 [some (.inl (.ref 1000)), some (.inr (.inl 69)), none], sy_dS F1 [], sy_dh F1 X1 X2 (iv_H 4), 0, 0)) :
    hd_W Ls xs d jm_M163 Q (0, sy_dL F [some (.inl (.ref 1000)), some (.inr (.inl 69)), none], sy_dS F [], sy_dh F X1 X2 (iv_H 4), 0, 0) := by
  refine hd_run (s := 4) (nv := 70) (pc := 0) (L := [some (.inl (.ref 1000)), some (.inr (.inl 69)), none]) (S := []) (uh := hd_ov (iv_id 0 iv_B4) [(15, .inl (.inr (.inl 75))), (16, .inl (.inr (.inl 72))), (49, .inr (.inr (.inl 73))), (50, .inr (.inr (.inl 74)))]) (ul := [.inl (.inr (.inl 69))]) (f := true) (sp := [0]) (d0 := 1) (O := [false, false, true, false]) (T := [(1, [.inr (.inl 16), .inl (.int 1)], []), (30, [.inr (.inl 70)], [.inr (.inl 51)]), (1, [.inr (.inl 16), .inl (.int 1)], []), (40, [.inr (.inl 15), .inl (.int 2)], [.inr (.inl 49)]), (40, [.inr (.inl 15), .inl (.int 0)], [.inr (.inl 50)]), (0, [.inr (.inl 15), .inl (.int 1)], [])]) (P := [(5, .inr (.inl 16), .inl (.int 0)), (6, .inr (.inl 70), .inl (.ref 64)), (1, .inr (.inl 71), .inl (.int 6)), (0, .inr (.inl 69), .inl (.int 0)), (0, .inr (.inl 71), .inl (.int 8)), (6, .inr (.inl 15), .inl (.ref 840)), (6, .inr (.inl 15), .inl (.ref 840))]) jm_ok163 (by decide +kernel) (by decide +kernel) hd F X1 X2 (fun F' hF hs => ?_)
  have b16 := hd_b (F := F) (F' := F') (k := 16) (hF 16 (by decide))
  have t70 : sy_dv F' (.inr (.inl 70)) = .int ((sy_i F 16) - ((1 : Int32))) := hd_o (hs 0 _ rfl) b16 rfl rfl
  have a51 := hd_ba (F := F) (F' := F') (k := 51) (hF 51 (by decide))
  have t71 : sy_dv F' (.inr (.inl 71)) = .int ((sy_ai F 51).getD ((sy_i F 16) - ((1 : Int32))).toNatClampNeg 0) := hd_rd (hs 1 _ rfl) t70 a51
  have b69 := hd_b (F := F) (F' := F') (k := 69) (hF 69 (by decide))
  have b15 := hd_b (F := F) (F' := F') (k := 15) (hF 15 (by decide))
  have t75 : sy_dv F' (.inr (.inl 75)) = .int ((sy_i F 15) + ((1 : Int32))) := hd_o (hs 5 _ rfl) b15 rfl rfl
  have t72 : sy_dv F' (.inr (.inl 72)) = .int ((sy_i F 16) - ((1 : Int32))) := hd_o (hs 2 _ rfl) b16 rfl rfl
  have a49 := hd_ba (F := F) (F' := F') (k := 49) (hF 49 (by decide))
  have t73 : sy_da F' (.inr (.inl 73)) = .inl (jm_upd (sy_ai F 49) (sy_i F 15).toNatClampNeg ((2 : Int32))) := hd_up (hs 3 _ rfl) b15 rfl a49
  have a50 := hd_ba (F := F) (F' := F') (k := 50) (hF 50 (by decide))
  have t74 : sy_da F' (.inr (.inl 74)) = .inl (jm_upd (sy_ai F 50) (sy_i F 15).toNatClampNeg ((0 : Int32))) := hd_up (hs 4 _ rfl) b15 rfl a50
  have hB' : iv_in F' iv_B4 := iv_in_eq hB (fun j hj => hF j (Nat.lt_of_lt_of_le hj (by decide +kernel)))
  refine ⟨List.forall_mem_cons.mpr ⟨hd_p5 b16 rfl (by have hc : ((0) : Int32).toInt = 0 := (by decide); omega), List.forall_mem_cons.mpr ⟨hd_pb t70 (by first | exact h1 | exact h1), List.forall_mem_cons.mpr ⟨hd_p1 t71 rfl (by have hc : ((6) : Int32).toInt = 6 := (by decide); omega), List.forall_mem_cons.mpr ⟨hd_p0 b69 rfl (by have hc : ((0) : Int32).toInt = 0 := (by decide); omega), List.forall_mem_cons.mpr ⟨hd_p0 t71 rfl (by have hc : ((8) : Int32).toInt = 8 := (by decide); omega), List.forall_mem_cons.mpr ⟨hd_pb b15 (by first | exact h5 | exact h5), List.forall_mem_cons.mpr ⟨hd_pb b15 (by first | exact h6 | exact h6), fun _ h => absurd h List.not_mem_nil⟩⟩⟩⟩⟩⟩⟩, ?_⟩
  refine k _ ?_ ?_ ?_ ?_ ?_ ?_
  · exact fun j hj hn => (hd_keep hB' (Nat.lt_of_lt_of_le hj (by decide +kernel)) (by simp; omega)).trans (hF j (Nat.lt_of_lt_of_le hj (by decide)))
  · exact hd_gi (x := .inr (.inl 75)) (by decide +kernel) t75
  · exact hd_gi (x := .inr (.inl 72)) (by decide +kernel) t72
  · exact hd_ga (a := .inr (.inl 73)) (by decide +kernel) t73
  · exact hd_ga (a := .inr (.inl 74)) (by decide +kernel) t74
  · exact hd_gi (x := .inr (.inl 69)) (by decide +kernel) b69
theorem co_0_p6 {Ls : Nat} {xs : Nat → Int32} {d : Nat} {Q : Option Value → jm_h → Prop} (hd : 2 ≤ d) (F : Nat → sy_d) (X1 X2 : List jm_c) (hB : iv_in F iv_B4)
    (h0 : 0 < (sy_i F 16).toInt)
    (h1 : 0 ≤ ((sy_i F 16) - ((1 : Int32))).toInt ∧ ((sy_i F 16) - ((1 : Int32))).toInt < 64)
    (h2 : ((sy_ai F 51).getD ((sy_i F 16) - ((1 : Int32))).toNatClampNeg 0).toInt ≠ 6)
    (h3 : (sy_i F 69).toInt ≠ 0)
    (h4 : ((sy_ai F 51).getD ((sy_i F 16) - ((1 : Int32))).toNatClampNeg 0).toInt = 8)
    (k : ∀ F1 : Nat → sy_d, (∀ j, j < 69 → True → F1 j = F j) → Q (none) (sy_dh F1 X1 X2 (iv_H 4))) :
    hd_W Ls xs d jm_M163 Q (0, sy_dL F [some (.inl (.ref 1000)), some (.inr (.inl 69)), none], sy_dS F [], sy_dh F X1 X2 (iv_H 4), 0, 0) := by
  refine hd_ret (s := 4) (nv := 70) (v := none) (uh := hd_ov (iv_id 0 iv_B4) []) (f := true) (sp := [0]) (d0 := 1) (O := [false, false, false, true]) (T := [(1, [.inr (.inl 16), .inl (.int 1)], []), (30, [.inr (.inl 70)], [.inr (.inl 51)])]) (P := [(5, .inr (.inl 16), .inl (.int 0)), (6, .inr (.inl 70), .inl (.ref 64)), (1, .inr (.inl 71), .inl (.int 6)), (1, .inr (.inl 69), .inl (.int 0)), (0, .inr (.inl 71), .inl (.int 8))]) jm_ok163 (by decide +kernel) (by decide +kernel) hd F X1 X2 (fun F' hF hs => ?_)
  have b16 := hd_b (F := F) (F' := F') (k := 16) (hF 16 (by decide))
  have t70 : sy_dv F' (.inr (.inl 70)) = .int ((sy_i F 16) - ((1 : Int32))) := hd_o (hs 0 _ rfl) b16 rfl rfl
  have a51 := hd_ba (F := F) (F' := F') (k := 51) (hF 51 (by decide))
  have t71 : sy_dv F' (.inr (.inl 71)) = .int ((sy_ai F 51).getD ((sy_i F 16) - ((1 : Int32))).toNatClampNeg 0) := hd_rd (hs 1 _ rfl) t70 a51
  have b69 := hd_b (F := F) (F' := F') (k := 69) (hF 69 (by decide))
  have hB' : iv_in F' iv_B4 := iv_in_eq hB (fun j hj => hF j (Nat.lt_of_lt_of_le hj (by decide +kernel)))
  refine ⟨List.forall_mem_cons.mpr ⟨hd_p5 b16 rfl (by have hc : ((0) : Int32).toInt = 0 := (by decide); omega), List.forall_mem_cons.mpr ⟨hd_pb t70 (by first | exact h1 | exact h1), List.forall_mem_cons.mpr ⟨hd_p1 t71 rfl (by have hc : ((6) : Int32).toInt = 6 := (by decide); omega), List.forall_mem_cons.mpr ⟨hd_p1 b69 rfl (by have hc : ((0) : Int32).toInt = 0 := (by decide); omega), List.forall_mem_cons.mpr ⟨hd_p0 t71 rfl (by have hc : ((8) : Int32).toInt = 8 := (by decide); omega), fun _ h => absurd h List.not_mem_nil⟩⟩⟩⟩⟩, ?_⟩
  refine k _ ?_
  · exact fun j hj _ => (hd_keep hB' (Nat.lt_of_lt_of_le hj (by decide +kernel)) (by simp)).trans (hF j (Nat.lt_of_lt_of_le hj (by decide)))
theorem co_0_p7 {Ls : Nat} {xs : Nat → Int32} {d : Nat} {Q : Option Value → jm_h → Prop} (hd : 2 ≤ d) (F : Nat → sy_d) (X1 X2 : List jm_c) (hB : iv_in F iv_B4)
    (h0 : 0 < (sy_i F 16).toInt)
    (h1 : 0 ≤ ((sy_i F 16) - ((1 : Int32))).toInt ∧ ((sy_i F 16) - ((1 : Int32))).toInt < 64)
    (h2 : ((sy_ai F 51).getD ((sy_i F 16) - ((1 : Int32))).toNatClampNeg 0).toInt ≠ 6)
    (h3 : (sy_i F 69).toInt ≠ 0)
    (h4 : ((sy_ai F 51).getD ((sy_i F 16) - ((1 : Int32))).toNatClampNeg 0).toInt ≠ 8)
    (h5 : ((sy_ai F 51).getD ((sy_i F 16) - ((1 : Int32))).toNatClampNeg 0).toInt ≠ 9)
    (h6 : ((sy_ai F 51).getD ((sy_i F 16) - ((1 : Int32))).toNatClampNeg 0).toInt ≠ 8)
    (h7 : ((sy_ai F 51).getD ((sy_i F 16) - ((1 : Int32))).toNatClampNeg 0).toInt ≠ 9)
    (h8 : ((sy_ai F 51).getD ((sy_i F 16) - ((1 : Int32))).toNatClampNeg 0).toInt ≠ 10)
    (h9 : 0 ≤ (sy_i F 15).toInt ∧ (sy_i F 15).toInt < 840)
    (h10 : 0 ≤ (sy_i F 15).toInt ∧ (sy_i F 15).toInt < 840)
    (k : ∀ F1 : Nat → sy_d, (∀ j, j < 69 → j ≠ 15 ∧ j ≠ 16 ∧ j ≠ 49 ∧ j ≠ 50 → F1 j = F j) → F1 15 = .inl (.int ((sy_i F 15) + ((1 : Int32)))) → F1 16 = .inl (.int ((sy_i F 16) - ((1 : Int32)))) → F1 49 = .inr (.inl (jm_upd (sy_ai F 49) (sy_i F 15).toNatClampNeg ((5 : Int32)))) → F1 50 = .inr (.inl (jm_upd (sy_ai F 50) (sy_i F 15).toNatClampNeg ((0 : Int32)))) → F1 69 = .inl (.int (sy_i F 69)) → hd_W Ls xs d jm_M163 Q (0, sy_dL F1 [some (.inl (.ref 1000)), some (.inr (.inl 69)), none], sy_dS F1 [], sy_dh F1 X1 X2 (iv_H 4), 0, 0)) :
    hd_W Ls xs d jm_M163 Q (0, sy_dL F [some (.inl (.ref 1000)), some (.inr (.inl 69)), none], sy_dS F [], sy_dh F X1 X2 (iv_H 4), 0, 0) := by
  refine hd_run (s := 4) (nv := 70) (pc := 0) (L := [some (.inl (.ref 1000)), some (.inr (.inl 69)), none]) (S := []) (uh := hd_ov (iv_id 0 iv_B4) [(15, .inl (.inr (.inl 75))), (16, .inl (.inr (.inl 72))), (49, .inr (.inr (.inl 73))), (50, .inr (.inr (.inl 74)))]) (ul := [.inl (.inr (.inl 69))]) (f := true) (sp := [0]) (d0 := 1) (O := [false, false, false, false, true, true, true, true]) (T := [(1, [.inr (.inl 16), .inl (.int 1)], []), (30, [.inr (.inl 70)], [.inr (.inl 51)]), (1, [.inr (.inl 16), .inl (.int 1)], []), (40, [.inr (.inl 15), .inl (.int 5)], [.inr (.inl 49)]), (40, [.inr (.inl 15), .inl (.int 0)], [.inr (.inl 50)]), (0, [.inr (.inl 15), .inl (.int 1)], [])]) (P := [(5, .inr (.inl 16), .inl (.int 0)), (6, .inr (.inl 70), .inl (.ref 64)), (1, .inr (.inl 71), .inl (.int 6)), (1, .inr (.inl 69), .inl (.int 0)), (1, .inr (.inl 71), .inl (.int 8)), (1, .inr (.inl 71), .inl (.int 9)), (1, .inr (.inl 71), .inl (.int 8)), (1, .inr (.inl 71), .inl (.int 9)), (1, .inr (.inl 71), .inl (.int 10)), (6, .inr (.inl 15), .inl (.ref 840)), (6, .inr (.inl 15), .inl (.ref 840))]) jm_ok163 (by decide +kernel) (by decide +kernel) hd F X1 X2 (fun F' hF hs => ?_)
  have b16 := hd_b (F := F) (F' := F') (k := 16) (hF 16 (by decide))
  have t70 : sy_dv F' (.inr (.inl 70)) = .int ((sy_i F 16) - ((1 : Int32))) := hd_o (hs 0 _ rfl) b16 rfl rfl
  have a51 := hd_ba (F := F) (F' := F') (k := 51) (hF 51 (by decide))
  have t71 : sy_dv F' (.inr (.inl 71)) = .int ((sy_ai F 51).getD ((sy_i F 16) - ((1 : Int32))).toNatClampNeg 0) := hd_rd (hs 1 _ rfl) t70 a51
  have b69 := hd_b (F := F) (F' := F') (k := 69) (hF 69 (by decide))
  have b15 := hd_b (F := F) (F' := F') (k := 15) (hF 15 (by decide))
  have t75 : sy_dv F' (.inr (.inl 75)) = .int ((sy_i F 15) + ((1 : Int32))) := hd_o (hs 5 _ rfl) b15 rfl rfl
  have t72 : sy_dv F' (.inr (.inl 72)) = .int ((sy_i F 16) - ((1 : Int32))) := hd_o (hs 2 _ rfl) b16 rfl rfl
  have a49 := hd_ba (F := F) (F' := F') (k := 49) (hF 49 (by decide))
  have t73 : sy_da F' (.inr (.inl 73)) = .inl (jm_upd (sy_ai F 49) (sy_i F 15).toNatClampNeg ((5 : Int32))) := hd_up (hs 3 _ rfl) b15 rfl a49
  have a50 := hd_ba (F := F) (F' := F') (k := 50) (hF 50 (by decide))
  have t74 : sy_da F' (.inr (.inl 74)) = .inl (jm_upd (sy_ai F 50) (sy_i F 15).toNatClampNeg ((0 : Int32))) := hd_up (hs 4 _ rfl) b15 rfl a50
  have hB' : iv_in F' iv_B4 := iv_in_eq hB (fun j hj => hF j (Nat.lt_of_lt_of_le hj (by decide +kernel)))
  refine ⟨List.forall_mem_cons.mpr ⟨hd_p5 b16 rfl (by have hc : ((0) : Int32).toInt = 0 := (by decide); omega), List.forall_mem_cons.mpr ⟨hd_pb t70 (by first | exact h1 | exact h1), List.forall_mem_cons.mpr ⟨hd_p1 t71 rfl (by have hc : ((6) : Int32).toInt = 6 := (by decide); omega), List.forall_mem_cons.mpr ⟨hd_p1 b69 rfl (by have hc : ((0) : Int32).toInt = 0 := (by decide); omega), List.forall_mem_cons.mpr ⟨hd_p1 t71 rfl (by have hc : ((8) : Int32).toInt = 8 := (by decide); omega), List.forall_mem_cons.mpr ⟨hd_p1 t71 rfl (by have hc : ((9) : Int32).toInt = 9 := (by decide); omega), List.forall_mem_cons.mpr ⟨hd_p1 t71 rfl (by have hc : ((8) : Int32).toInt = 8 := (by decide); omega), List.forall_mem_cons.mpr ⟨hd_p1 t71 rfl (by have hc : ((9) : Int32).toInt = 9 := (by decide); omega), List.forall_mem_cons.mpr ⟨hd_p1 t71 rfl (by have hc : ((10) : Int32).toInt = 10 := (by decide); omega), List.forall_mem_cons.mpr ⟨hd_pb b15 (by first | exact h9 | exact h9), List.forall_mem_cons.mpr ⟨hd_pb b15 (by first | exact h10 | exact h10), fun _ h => absurd h List.not_mem_nil⟩⟩⟩⟩⟩⟩⟩⟩⟩⟩⟩, ?_⟩
  refine k _ ?_ ?_ ?_ ?_ ?_ ?_
  · exact fun j hj hn => (hd_keep hB' (Nat.lt_of_lt_of_le hj (by decide +kernel)) (by simp; omega)).trans (hF j (Nat.lt_of_lt_of_le hj (by decide)))
  · exact hd_gi (x := .inr (.inl 75)) (by decide +kernel) t75
  · exact hd_gi (x := .inr (.inl 72)) (by decide +kernel) t72
  · exact hd_ga (a := .inr (.inl 73)) (by decide +kernel) t73
  · exact hd_ga (a := .inr (.inl 74)) (by decide +kernel) t74
  · exact hd_gi (x := .inr (.inl 69)) (by decide +kernel) b69
theorem co_0_p8 {Ls : Nat} {xs : Nat → Int32} {d : Nat} {Q : Option Value → jm_h → Prop} (hd : 2 ≤ d) (F : Nat → sy_d) (X1 X2 : List jm_c) (hB : iv_in F iv_B4)
    (h0 : 0 < (sy_i F 16).toInt)
    (h1 : 0 ≤ ((sy_i F 16) - ((1 : Int32))).toInt ∧ ((sy_i F 16) - ((1 : Int32))).toInt < 64)
    (h2 : ((sy_ai F 51).getD ((sy_i F 16) - ((1 : Int32))).toNatClampNeg 0).toInt ≠ 6)
    (h3 : (sy_i F 69).toInt ≠ 0)
    (h4 : ((sy_ai F 51).getD ((sy_i F 16) - ((1 : Int32))).toNatClampNeg 0).toInt ≠ 8)
    (h5 : ((sy_ai F 51).getD ((sy_i F 16) - ((1 : Int32))).toNatClampNeg 0).toInt ≠ 9)
    (h6 : ((sy_ai F 51).getD ((sy_i F 16) - ((1 : Int32))).toNatClampNeg 0).toInt ≠ 8)
    (h7 : ((sy_ai F 51).getD ((sy_i F 16) - ((1 : Int32))).toNatClampNeg 0).toInt ≠ 9)
    (h8 : ((sy_ai F 51).getD ((sy_i F 16) - ((1 : Int32))).toNatClampNeg 0).toInt = 10)
    (h9 : 0 ≤ (sy_i F 15).toInt ∧ (sy_i F 15).toInt < 840)
    (h10 : 0 ≤ (sy_i F 15).toInt ∧ (sy_i F 15).toInt < 840)
    (k : ∀ F1 : Nat → sy_d, (∀ j, j < 69 → j ≠ 15 ∧ j ≠ 16 ∧ j ≠ 49 ∧ j ≠ 50 → F1 j = F j) → F1 15 = .inl (.int ((sy_i F 15) + ((1 : Int32)))) → F1 16 = .inl (.int ((sy_i F 16) - ((1 : Int32)))) → F1 49 = .inr (.inl (jm_upd (sy_ai F 49) (sy_i F 15).toNatClampNeg ((4 : Int32)))) → F1 50 = .inr (.inl (jm_upd (sy_ai F 50) (sy_i F 15).toNatClampNeg ((0 : Int32)))) → F1 69 = .inl (.int (sy_i F 69)) → hd_W Ls xs d jm_M163 Q (0, sy_dL F1 [some (.inl (.ref 1000)), some (.inr (.inl 69)), none], sy_dS F1 [], sy_dh F1 X1 X2 (iv_H 4), 0, 0)) :
    hd_W Ls xs d jm_M163 Q (0, sy_dL F [some (.inl (.ref 1000)), some (.inr (.inl 69)), none], sy_dS F [], sy_dh F X1 X2 (iv_H 4), 0, 0) := by
  refine hd_run (s := 4) (nv := 70) (pc := 0) (L := [some (.inl (.ref 1000)), some (.inr (.inl 69)), none]) (S := []) (uh := hd_ov (iv_id 0 iv_B4) [(15, .inl (.inr (.inl 75))), (16, .inl (.inr (.inl 72))), (49, .inr (.inr (.inl 73))), (50, .inr (.inr (.inl 74)))]) (ul := [.inl (.inr (.inl 69))]) (f := true) (sp := [0]) (d0 := 1) (O := [false, false, false, false, true, true, true, false]) (T := [(1, [.inr (.inl 16), .inl (.int 1)], []), (30, [.inr (.inl 70)], [.inr (.inl 51)]), (1, [.inr (.inl 16), .inl (.int 1)], []), (40, [.inr (.inl 15), .inl (.int 4)], [.inr (.inl 49)]), (40, [.inr (.inl 15), .inl (.int 0)], [.inr (.inl 50)]), (0, [.inr (.inl 15), .inl (.int 1)], [])]) (P := [(5, .inr (.inl 16), .inl (.int 0)), (6, .inr (.inl 70), .inl (.ref 64)), (1, .inr (.inl 71), .inl (.int 6)), (1, .inr (.inl 69), .inl (.int 0)), (1, .inr (.inl 71), .inl (.int 8)), (1, .inr (.inl 71), .inl (.int 9)), (1, .inr (.inl 71), .inl (.int 8)), (1, .inr (.inl 71), .inl (.int 9)), (0, .inr (.inl 71), .inl (.int 10)), (6, .inr (.inl 15), .inl (.ref 840)), (6, .inr (.inl 15), .inl (.ref 840))]) jm_ok163 (by decide +kernel) (by decide +kernel) hd F X1 X2 (fun F' hF hs => ?_)
  have b16 := hd_b (F := F) (F' := F') (k := 16) (hF 16 (by decide))
  have t70 : sy_dv F' (.inr (.inl 70)) = .int ((sy_i F 16) - ((1 : Int32))) := hd_o (hs 0 _ rfl) b16 rfl rfl
  have a51 := hd_ba (F := F) (F' := F') (k := 51) (hF 51 (by decide))
  have t71 : sy_dv F' (.inr (.inl 71)) = .int ((sy_ai F 51).getD ((sy_i F 16) - ((1 : Int32))).toNatClampNeg 0) := hd_rd (hs 1 _ rfl) t70 a51
  have b69 := hd_b (F := F) (F' := F') (k := 69) (hF 69 (by decide))
  have b15 := hd_b (F := F) (F' := F') (k := 15) (hF 15 (by decide))
  have t75 : sy_dv F' (.inr (.inl 75)) = .int ((sy_i F 15) + ((1 : Int32))) := hd_o (hs 5 _ rfl) b15 rfl rfl
  have t72 : sy_dv F' (.inr (.inl 72)) = .int ((sy_i F 16) - ((1 : Int32))) := hd_o (hs 2 _ rfl) b16 rfl rfl
  have a49 := hd_ba (F := F) (F' := F') (k := 49) (hF 49 (by decide))
  have t73 : sy_da F' (.inr (.inl 73)) = .inl (jm_upd (sy_ai F 49) (sy_i F 15).toNatClampNeg ((4 : Int32))) := hd_up (hs 3 _ rfl) b15 rfl a49
  have a50 := hd_ba (F := F) (F' := F') (k := 50) (hF 50 (by decide))
  have t74 : sy_da F' (.inr (.inl 74)) = .inl (jm_upd (sy_ai F 50) (sy_i F 15).toNatClampNeg ((0 : Int32))) := hd_up (hs 4 _ rfl) b15 rfl a50
  have hB' : iv_in F' iv_B4 := iv_in_eq hB (fun j hj => hF j (Nat.lt_of_lt_of_le hj (by decide +kernel)))
  refine ⟨List.forall_mem_cons.mpr ⟨hd_p5 b16 rfl (by have hc : ((0) : Int32).toInt = 0 := (by decide); omega), List.forall_mem_cons.mpr ⟨hd_pb t70 (by first | exact h1 | exact h1), List.forall_mem_cons.mpr ⟨hd_p1 t71 rfl (by have hc : ((6) : Int32).toInt = 6 := (by decide); omega), List.forall_mem_cons.mpr ⟨hd_p1 b69 rfl (by have hc : ((0) : Int32).toInt = 0 := (by decide); omega), List.forall_mem_cons.mpr ⟨hd_p1 t71 rfl (by have hc : ((8) : Int32).toInt = 8 := (by decide); omega), List.forall_mem_cons.mpr ⟨hd_p1 t71 rfl (by have hc : ((9) : Int32).toInt = 9 := (by decide); omega), List.forall_mem_cons.mpr ⟨hd_p1 t71 rfl (by have hc : ((8) : Int32).toInt = 8 := (by decide); omega), List.forall_mem_cons.mpr ⟨hd_p1 t71 rfl (by have hc : ((9) : Int32).toInt = 9 := (by decide); omega), List.forall_mem_cons.mpr ⟨hd_p0 t71 rfl (by have hc : ((10) : Int32).toInt = 10 := (by decide); omega), List.forall_mem_cons.mpr ⟨hd_pb b15 (by first | exact h9 | exact h9), List.forall_mem_cons.mpr ⟨hd_pb b15 (by first | exact h10 | exact h10), fun _ h => absurd h List.not_mem_nil⟩⟩⟩⟩⟩⟩⟩⟩⟩⟩⟩, ?_⟩
  refine k _ ?_ ?_ ?_ ?_ ?_ ?_
  · exact fun j hj hn => (hd_keep hB' (Nat.lt_of_lt_of_le hj (by decide +kernel)) (by simp; omega)).trans (hF j (Nat.lt_of_lt_of_le hj (by decide)))
  · exact hd_gi (x := .inr (.inl 75)) (by decide +kernel) t75
  · exact hd_gi (x := .inr (.inl 72)) (by decide +kernel) t72
  · exact hd_ga (a := .inr (.inl 73)) (by decide +kernel) t73
  · exact hd_ga (a := .inr (.inl 74)) (by decide +kernel) t74
  · exact hd_gi (x := .inr (.inl 69)) (by decide +kernel) b69
theorem co_0_p9 {Ls : Nat} {xs : Nat → Int32} {d : Nat} {Q : Option Value → jm_h → Prop} (hd : 2 ≤ d) (F : Nat → sy_d) (X1 X2 : List jm_c) (hB : iv_in F iv_B4)
    (h0 : 0 < (sy_i F 16).toInt)
    (h1 : 0 ≤ ((sy_i F 16) - ((1 : Int32))).toInt ∧ ((sy_i F 16) - ((1 : Int32))).toInt < 64)
    (h2 : ((sy_ai F 51).getD ((sy_i F 16) - ((1 : Int32))).toNatClampNeg 0).toInt ≠ 6)
    (h3 : (sy_i F 69).toInt ≠ 0)
    (h4 : ((sy_ai F 51).getD ((sy_i F 16) - ((1 : Int32))).toNatClampNeg 0).toInt ≠ 8)
    (h5 : ((sy_ai F 51).getD ((sy_i F 16) - ((1 : Int32))).toNatClampNeg 0).toInt = 9)
    (k : ∀ F1 : Nat → sy_d, (∀ j, j < 69 → True → F1 j = F j) → Q (none) (sy_dh F1 X1 X2 (iv_H 4))) :
    hd_W Ls xs d jm_M163 Q (0, sy_dL F [some (.inl (.ref 1000)), some (.inr (.inl 69)), none], sy_dS F [], sy_dh F X1 X2 (iv_H 4), 0, 0) := by
  refine hd_ret (s := 4) (nv := 70) (v := none) (uh := hd_ov (iv_id 0 iv_B4) []) (f := true) (sp := [0]) (d0 := 1) (O := [false, false, false, false, false]) (T := [(1, [.inr (.inl 16), .inl (.int 1)], []), (30, [.inr (.inl 70)], [.inr (.inl 51)])]) (P := [(5, .inr (.inl 16), .inl (.int 0)), (6, .inr (.inl 70), .inl (.ref 64)), (1, .inr (.inl 71), .inl (.int 6)), (1, .inr (.inl 69), .inl (.int 0)), (1, .inr (.inl 71), .inl (.int 8)), (0, .inr (.inl 71), .inl (.int 9))]) jm_ok163 (by decide +kernel) (by decide +kernel) hd F X1 X2 (fun F' hF hs => ?_)
  have b16 := hd_b (F := F) (F' := F') (k := 16) (hF 16 (by decide))
  have t70 : sy_dv F' (.inr (.inl 70)) = .int ((sy_i F 16) - ((1 : Int32))) := hd_o (hs 0 _ rfl) b16 rfl rfl
  have a51 := hd_ba (F := F) (F' := F') (k := 51) (hF 51 (by decide))
  have t71 : sy_dv F' (.inr (.inl 71)) = .int ((sy_ai F 51).getD ((sy_i F 16) - ((1 : Int32))).toNatClampNeg 0) := hd_rd (hs 1 _ rfl) t70 a51
  have b69 := hd_b (F := F) (F' := F') (k := 69) (hF 69 (by decide))
  have hB' : iv_in F' iv_B4 := iv_in_eq hB (fun j hj => hF j (Nat.lt_of_lt_of_le hj (by decide +kernel)))
  refine ⟨List.forall_mem_cons.mpr ⟨hd_p5 b16 rfl (by have hc : ((0) : Int32).toInt = 0 := (by decide); omega), List.forall_mem_cons.mpr ⟨hd_pb t70 (by first | exact h1 | exact h1), List.forall_mem_cons.mpr ⟨hd_p1 t71 rfl (by have hc : ((6) : Int32).toInt = 6 := (by decide); omega), List.forall_mem_cons.mpr ⟨hd_p1 b69 rfl (by have hc : ((0) : Int32).toInt = 0 := (by decide); omega), List.forall_mem_cons.mpr ⟨hd_p1 t71 rfl (by have hc : ((8) : Int32).toInt = 8 := (by decide); omega), List.forall_mem_cons.mpr ⟨hd_p0 t71 rfl (by have hc : ((9) : Int32).toInt = 9 := (by decide); omega), fun _ h => absurd h List.not_mem_nil⟩⟩⟩⟩⟩⟩, ?_⟩
  refine k _ ?_
  · exact fun j hj _ => (hd_keep hB' (Nat.lt_of_lt_of_le hj (by decide +kernel)) (by simp)).trans (hF j (Nat.lt_of_lt_of_le hj (by decide)))
theorem co_0 {Ls : Nat} {xs : Nat → Int32} {d : Nat} {Q : Option Value → jm_h → Prop} (hd : 2 ≤ d) (F : Nat → sy_d) (X1 X2 : List jm_c) (hB : iv_in F iv_B4)
    (o0 : 0 < (sy_i F 16).toInt → ((sy_ai F 51).getD (((sy_i F 16).toInt - 1)).toNat 0).toInt ≠ 6 → (sy_i F 69).toInt = 0 → ((sy_ai F 51).getD (((sy_i F 16).toInt - 1)).toNat 0).toInt ≠ 8 → ((sy_ai F 51).getD (((sy_i F 16).toInt - 1)).toNat 0).toInt ≠ 9 → ((sy_ai F 51).getD (((sy_i F 16).toInt - 1)).toNat 0).toInt ≠ 10 → (0 ≤ (sy_i F 15).toInt ∧ (sy_i F 15).toInt < 840))
    (o1 : 0 < (sy_i F 16).toInt → ((sy_ai F 51).getD (((sy_i F 16).toInt - 1)).toNat 0).toInt ≠ 6 → (sy_i F 69).toInt = 0 → ((sy_ai F 51).getD (((sy_i F 16).toInt - 1)).toNat 0).toInt ≠ 8 → ((sy_ai F 51).getD (((sy_i F 16).toInt - 1)).toNat 0).toInt ≠ 9 → ((sy_ai F 51).getD (((sy_i F 16).toInt - 1)).toNat 0).toInt = 10 → (0 ≤ (sy_i F 15).toInt ∧ (sy_i F 15).toInt < 840))
    (o2 : 0 < (sy_i F 16).toInt → ((sy_ai F 51).getD (((sy_i F 16).toInt - 1)).toNat 0).toInt ≠ 6 → (sy_i F 69).toInt = 0 → ((sy_ai F 51).getD (((sy_i F 16).toInt - 1)).toNat 0).toInt ≠ 8 → ((sy_ai F 51).getD (((sy_i F 16).toInt - 1)).toNat 0).toInt = 9 → (0 ≤ (sy_i F 15).toInt ∧ (sy_i F 15).toInt < 840))
    (o3 : 0 < (sy_i F 16).toInt → ((sy_ai F 51).getD (((sy_i F 16).toInt - 1)).toNat 0).toInt ≠ 6 → (sy_i F 69).toInt = 0 → ((sy_ai F 51).getD (((sy_i F 16).toInt - 1)).toNat 0).toInt = 8 → (0 ≤ (sy_i F 15).toInt ∧ (sy_i F 15).toInt < 840))
    (o4 : 0 < (sy_i F 16).toInt → ((sy_ai F 51).getD (((sy_i F 16).toInt - 1)).toNat 0).toInt ≠ 6 → (sy_i F 69).toInt ≠ 0 → ((sy_ai F 51).getD (((sy_i F 16).toInt - 1)).toNat 0).toInt ≠ 8 → ((sy_ai F 51).getD (((sy_i F 16).toInt - 1)).toNat 0).toInt ≠ 9 → ((sy_ai F 51).getD (((sy_i F 16).toInt - 1)).toNat 0).toInt ≠ 8 → ((sy_ai F 51).getD (((sy_i F 16).toInt - 1)).toNat 0).toInt ≠ 9 → ((sy_ai F 51).getD (((sy_i F 16).toInt - 1)).toNat 0).toInt ≠ 10 → (0 ≤ (sy_i F 15).toInt ∧ (sy_i F 15).toInt < 840))
    (o5 : 0 < (sy_i F 16).toInt → ((sy_ai F 51).getD (((sy_i F 16).toInt - 1)).toNat 0).toInt ≠ 6 → (sy_i F 69).toInt ≠ 0 → ((sy_ai F 51).getD (((sy_i F 16).toInt - 1)).toNat 0).toInt ≠ 8 → ((sy_ai F 51).getD (((sy_i F 16).toInt - 1)).toNat 0).toInt ≠ 9 → ((sy_ai F 51).getD (((sy_i F 16).toInt - 1)).toNat 0).toInt ≠ 8 → ((sy_ai F 51).getD (((sy_i F 16).toInt - 1)).toNat 0).toInt ≠ 9 → ((sy_ai F 51).getD (((sy_i F 16).toInt - 1)).toNat 0).toInt = 10 → (0 ≤ (sy_i F 15).toInt ∧ (sy_i F 15).toInt < 840))
    (o6 : 0 < (sy_i F 16).toInt → ((sy_ai F 51).getD (((sy_i F 16).toInt - 1)).toNat 0).toInt ≠ 6 → (sy_i F 69).toInt = 0 → ((sy_ai F 51).getD (((sy_i F 16).toInt - 1)).toNat 0).toInt ≠ 8 → ((sy_ai F 51).getD (((sy_i F 16).toInt - 1)).toNat 0).toInt ≠ 9 → ((sy_ai F 51).getD (((sy_i F 16).toInt - 1)).toNat 0).toInt ≠ 10 → (0 ≤ ((sy_i F 15).toInt + 1) ∧ ((sy_i F 15).toInt + 1) ≤ 840))
    (o7 : 0 < (sy_i F 16).toInt → ((sy_ai F 51).getD (((sy_i F 16).toInt - 1)).toNat 0).toInt ≠ 6 → (sy_i F 69).toInt = 0 → ((sy_ai F 51).getD (((sy_i F 16).toInt - 1)).toNat 0).toInt ≠ 8 → ((sy_ai F 51).getD (((sy_i F 16).toInt - 1)).toNat 0).toInt ≠ 9 → ((sy_ai F 51).getD (((sy_i F 16).toInt - 1)).toNat 0).toInt = 10 → (0 ≤ ((sy_i F 15).toInt + 1) ∧ ((sy_i F 15).toInt + 1) ≤ 840))
    (o8 : 0 < (sy_i F 16).toInt → ((sy_ai F 51).getD (((sy_i F 16).toInt - 1)).toNat 0).toInt ≠ 6 → (sy_i F 69).toInt = 0 → ((sy_ai F 51).getD (((sy_i F 16).toInt - 1)).toNat 0).toInt ≠ 8 → ((sy_ai F 51).getD (((sy_i F 16).toInt - 1)).toNat 0).toInt = 9 → (0 ≤ ((sy_i F 15).toInt + 1) ∧ ((sy_i F 15).toInt + 1) ≤ 840))
    (o9 : 0 < (sy_i F 16).toInt → ((sy_ai F 51).getD (((sy_i F 16).toInt - 1)).toNat 0).toInt ≠ 6 → (sy_i F 69).toInt = 0 → ((sy_ai F 51).getD (((sy_i F 16).toInt - 1)).toNat 0).toInt = 8 → (0 ≤ ((sy_i F 15).toInt + 1) ∧ ((sy_i F 15).toInt + 1) ≤ 840))
    (o10 : 0 < (sy_i F 16).toInt → ((sy_ai F 51).getD (((sy_i F 16).toInt - 1)).toNat 0).toInt ≠ 6 → (sy_i F 69).toInt ≠ 0 → ((sy_ai F 51).getD (((sy_i F 16).toInt - 1)).toNat 0).toInt ≠ 8 → ((sy_ai F 51).getD (((sy_i F 16).toInt - 1)).toNat 0).toInt ≠ 9 → ((sy_ai F 51).getD (((sy_i F 16).toInt - 1)).toNat 0).toInt ≠ 8 → ((sy_ai F 51).getD (((sy_i F 16).toInt - 1)).toNat 0).toInt ≠ 9 → ((sy_ai F 51).getD (((sy_i F 16).toInt - 1)).toNat 0).toInt ≠ 10 → (0 ≤ ((sy_i F 15).toInt + 1) ∧ ((sy_i F 15).toInt + 1) ≤ 840))
    (o11 : 0 < (sy_i F 16).toInt → ((sy_ai F 51).getD (((sy_i F 16).toInt - 1)).toNat 0).toInt ≠ 6 → (sy_i F 69).toInt ≠ 0 → ((sy_ai F 51).getD (((sy_i F 16).toInt - 1)).toNat 0).toInt ≠ 8 → ((sy_ai F 51).getD (((sy_i F 16).toInt - 1)).toNat 0).toInt ≠ 9 → ((sy_ai F 51).getD (((sy_i F 16).toInt - 1)).toNat 0).toInt ≠ 8 → ((sy_ai F 51).getD (((sy_i F 16).toInt - 1)).toNat 0).toInt ≠ 9 → ((sy_ai F 51).getD (((sy_i F 16).toInt - 1)).toNat 0).toInt = 10 → (0 ≤ ((sy_i F 15).toInt + 1) ∧ ((sy_i F 15).toInt + 1) ≤ 840))
    (k0 : (sy_i F 16).toInt ≤ 0 → ∀ F1 : Nat → sy_d, iv_in F1 iv_B4 → (∀ j, j < 69 → j ∉ ([] : List Nat) → F1 j = F j) → (sy_i F1 15).toInt = (sy_i F 15).toInt → (sy_i F1 16).toInt = (sy_i F 16).toInt → sy_ai F1 49 = sy_ai F 49 → sy_ai F1 50 = sy_ai F 50 → sy_ai F1 51 = sy_ai F 51 → Q (none) (sy_dh F1 X1 X2 (iv_H 4)))
    (k1 : 0 < (sy_i F 16).toInt → ((sy_ai F 51).getD (((sy_i F 16).toInt - 1)).toNat 0).toInt = 6 → ∀ F1 : Nat → sy_d, iv_in F1 iv_B4 → (∀ j, j < 69 → j ∉ ([] : List Nat) → F1 j = F j) → (sy_i F1 15).toInt = (sy_i F 15).toInt → (sy_i F1 16).toInt = (sy_i F 16).toInt → sy_ai F1 49 = sy_ai F 49 → sy_ai F1 50 = sy_ai F 50 → sy_ai F1 51 = sy_ai F 51 → Q (none) (sy_dh F1 X1 X2 (iv_H 4)))
    (k2 : 0 < (sy_i F 16).toInt → ((sy_ai F 51).getD (((sy_i F 16).toInt - 1)).toNat 0).toInt ≠ 6 → (sy_i F 69).toInt = 0 → ((sy_ai F 51).getD (((sy_i F 16).toInt - 1)).toNat 0).toInt ≠ 8 → ((sy_ai F 51).getD (((sy_i F 16).toInt - 1)).toNat 0).toInt ≠ 9 → ((sy_ai F 51).getD (((sy_i F 16).toInt - 1)).toNat 0).toInt ≠ 10 → ∀ F1 : Nat → sy_d, iv_in F1 iv_B4 → (∀ j, j < 69 → j ∉ ([15, 16, 49, 50] : List Nat) → F1 j = F j) → (sy_i F1 15).toInt = ((sy_i F 15).toInt + 1) → (sy_i F1 16).toInt = ((sy_i F 16).toInt - 1) → sy_ai F1 49 = jm_upd (sy_ai F 49) ((sy_i F 15).toInt).toNat ((5 : Int32)) → sy_ai F1 50 = jm_upd (sy_ai F 50) ((sy_i F 15).toInt).toNat ((0 : Int32)) → sy_ai F1 51 = sy_ai F 51 → (sy_i F1 69).toInt = (sy_i F 69).toInt → hd_W Ls xs d jm_M163 Q (0, sy_dL F1 [some (.inl (.ref 1000)), some (.inr (.inl 69)), none], sy_dS F1 [], sy_dh F1 X1 X2 (iv_H 4), 0, 0))
    (k3 : 0 < (sy_i F 16).toInt → ((sy_ai F 51).getD (((sy_i F 16).toInt - 1)).toNat 0).toInt ≠ 6 → (sy_i F 69).toInt = 0 → ((sy_ai F 51).getD (((sy_i F 16).toInt - 1)).toNat 0).toInt ≠ 8 → ((sy_ai F 51).getD (((sy_i F 16).toInt - 1)).toNat 0).toInt ≠ 9 → ((sy_ai F 51).getD (((sy_i F 16).toInt - 1)).toNat 0).toInt = 10 → ∀ F1 : Nat → sy_d, iv_in F1 iv_B4 → (∀ j, j < 69 → j ∉ ([15, 16, 49, 50] : List Nat) → F1 j = F j) → (sy_i F1 15).toInt = ((sy_i F 15).toInt + 1) → (sy_i F1 16).toInt = ((sy_i F 16).toInt - 1) → sy_ai F1 49 = jm_upd (sy_ai F 49) ((sy_i F 15).toInt).toNat ((4 : Int32)) → sy_ai F1 50 = jm_upd (sy_ai F 50) ((sy_i F 15).toInt).toNat ((0 : Int32)) → sy_ai F1 51 = sy_ai F 51 → (sy_i F1 69).toInt = (sy_i F 69).toInt → hd_W Ls xs d jm_M163 Q (0, sy_dL F1 [some (.inl (.ref 1000)), some (.inr (.inl 69)), none], sy_dS F1 [], sy_dh F1 X1 X2 (iv_H 4), 0, 0))
    (k4 : 0 < (sy_i F 16).toInt → ((sy_ai F 51).getD (((sy_i F 16).toInt - 1)).toNat 0).toInt ≠ 6 → (sy_i F 69).toInt = 0 → ((sy_ai F 51).getD (((sy_i F 16).toInt - 1)).toNat 0).toInt ≠ 8 → ((sy_ai F 51).getD (((sy_i F 16).toInt - 1)).toNat 0).toInt = 9 → ∀ F1 : Nat → sy_d, iv_in F1 iv_B4 → (∀ j, j < 69 → j ∉ ([15, 16, 49, 50] : List Nat) → F1 j = F j) → (sy_i F1 15).toInt = ((sy_i F 15).toInt + 1) → (sy_i F1 16).toInt = ((sy_i F 16).toInt - 1) → sy_ai F1 49 = jm_upd (sy_ai F 49) ((sy_i F 15).toInt).toNat ((3 : Int32)) → sy_ai F1 50 = jm_upd (sy_ai F 50) ((sy_i F 15).toInt).toNat ((0 : Int32)) → sy_ai F1 51 = sy_ai F 51 → (sy_i F1 69).toInt = (sy_i F 69).toInt → hd_W Ls xs d jm_M163 Q (0, sy_dL F1 [some (.inl (.ref 1000)), some (.inr (.inl 69)), none], sy_dS F1 [], sy_dh F1 X1 X2 (iv_H 4), 0, 0))
    (k5 : 0 < (sy_i F 16).toInt → ((sy_ai F 51).getD (((sy_i F 16).toInt - 1)).toNat 0).toInt ≠ 6 → (sy_i F 69).toInt = 0 → ((sy_ai F 51).getD (((sy_i F 16).toInt - 1)).toNat 0).toInt = 8 → ∀ F1 : Nat → sy_d, iv_in F1 iv_B4 → (∀ j, j < 69 → j ∉ ([15, 16, 49, 50] : List Nat) → F1 j = F j) → (sy_i F1 15).toInt = ((sy_i F 15).toInt + 1) → (sy_i F1 16).toInt = ((sy_i F 16).toInt - 1) → sy_ai F1 49 = jm_upd (sy_ai F 49) ((sy_i F 15).toInt).toNat ((2 : Int32)) → sy_ai F1 50 = jm_upd (sy_ai F 50) ((sy_i F 15).toInt).toNat ((0 : Int32)) → sy_ai F1 51 = sy_ai F 51 → (sy_i F1 69).toInt = (sy_i F 69).toInt → hd_W Ls xs d jm_M163 Q (0, sy_dL F1 [some (.inl (.ref 1000)), some (.inr (.inl 69)), none], sy_dS F1 [], sy_dh F1 X1 X2 (iv_H 4), 0, 0))
    (k6 : 0 < (sy_i F 16).toInt → ((sy_ai F 51).getD (((sy_i F 16).toInt - 1)).toNat 0).toInt ≠ 6 → (sy_i F 69).toInt ≠ 0 → ((sy_ai F 51).getD (((sy_i F 16).toInt - 1)).toNat 0).toInt = 8 → ∀ F1 : Nat → sy_d, iv_in F1 iv_B4 → (∀ j, j < 69 → j ∉ ([] : List Nat) → F1 j = F j) → (sy_i F1 15).toInt = (sy_i F 15).toInt → (sy_i F1 16).toInt = (sy_i F 16).toInt → sy_ai F1 49 = sy_ai F 49 → sy_ai F1 50 = sy_ai F 50 → sy_ai F1 51 = sy_ai F 51 → Q (none) (sy_dh F1 X1 X2 (iv_H 4)))
    (k7 : 0 < (sy_i F 16).toInt → ((sy_ai F 51).getD (((sy_i F 16).toInt - 1)).toNat 0).toInt ≠ 6 → (sy_i F 69).toInt ≠ 0 → ((sy_ai F 51).getD (((sy_i F 16).toInt - 1)).toNat 0).toInt ≠ 8 → ((sy_ai F 51).getD (((sy_i F 16).toInt - 1)).toNat 0).toInt ≠ 9 → ((sy_ai F 51).getD (((sy_i F 16).toInt - 1)).toNat 0).toInt ≠ 8 → ((sy_ai F 51).getD (((sy_i F 16).toInt - 1)).toNat 0).toInt ≠ 9 → ((sy_ai F 51).getD (((sy_i F 16).toInt - 1)).toNat 0).toInt ≠ 10 → ∀ F1 : Nat → sy_d, iv_in F1 iv_B4 → (∀ j, j < 69 → j ∉ ([15, 16, 49, 50] : List Nat) → F1 j = F j) → (sy_i F1 15).toInt = ((sy_i F 15).toInt + 1) → (sy_i F1 16).toInt = ((sy_i F 16).toInt - 1) → sy_ai F1 49 = jm_upd (sy_ai F 49) ((sy_i F 15).toInt).toNat ((5 : Int32)) → sy_ai F1 50 = jm_upd (sy_ai F 50) ((sy_i F 15).toInt).toNat ((0 : Int32)) → sy_ai F1 51 = sy_ai F 51 → (sy_i F1 69).toInt = (sy_i F 69).toInt → hd_W Ls xs d jm_M163 Q (0, sy_dL F1 [some (.inl (.ref 1000)), some (.inr (.inl 69)), none], sy_dS F1 [], sy_dh F1 X1 X2 (iv_H 4), 0, 0))
    (k8 : 0 < (sy_i F 16).toInt → ((sy_ai F 51).getD (((sy_i F 16).toInt - 1)).toNat 0).toInt ≠ 6 → (sy_i F 69).toInt ≠ 0 → ((sy_ai F 51).getD (((sy_i F 16).toInt - 1)).toNat 0).toInt ≠ 8 → ((sy_ai F 51).getD (((sy_i F 16).toInt - 1)).toNat 0).toInt ≠ 9 → ((sy_ai F 51).getD (((sy_i F 16).toInt - 1)).toNat 0).toInt ≠ 8 → ((sy_ai F 51).getD (((sy_i F 16).toInt - 1)).toNat 0).toInt ≠ 9 → ((sy_ai F 51).getD (((sy_i F 16).toInt - 1)).toNat 0).toInt = 10 → ∀ F1 : Nat → sy_d, iv_in F1 iv_B4 → (∀ j, j < 69 → j ∉ ([15, 16, 49, 50] : List Nat) → F1 j = F j) → (sy_i F1 15).toInt = ((sy_i F 15).toInt + 1) → (sy_i F1 16).toInt = ((sy_i F 16).toInt - 1) → sy_ai F1 49 = jm_upd (sy_ai F 49) ((sy_i F 15).toInt).toNat ((4 : Int32)) → sy_ai F1 50 = jm_upd (sy_ai F 50) ((sy_i F 15).toInt).toNat ((0 : Int32)) → sy_ai F1 51 = sy_ai F 51 → (sy_i F1 69).toInt = (sy_i F 69).toInt → hd_W Ls xs d jm_M163 Q (0, sy_dL F1 [some (.inl (.ref 1000)), some (.inr (.inl 69)), none], sy_dS F1 [], sy_dh F1 X1 X2 (iv_H 4), 0, 0))
    (k9 : 0 < (sy_i F 16).toInt → ((sy_ai F 51).getD (((sy_i F 16).toInt - 1)).toNat 0).toInt ≠ 6 → (sy_i F 69).toInt ≠ 0 → ((sy_ai F 51).getD (((sy_i F 16).toInt - 1)).toNat 0).toInt ≠ 8 → ((sy_ai F 51).getD (((sy_i F 16).toInt - 1)).toNat 0).toInt = 9 → ∀ F1 : Nat → sy_d, iv_in F1 iv_B4 → (∀ j, j < 69 → j ∉ ([] : List Nat) → F1 j = F j) → (sy_i F1 15).toInt = (sy_i F 15).toInt → (sy_i F1 16).toInt = (sy_i F 16).toInt → sy_ai F1 49 = sy_ai F 49 → sy_ai F1 50 = sy_ai F 50 → sy_ai F1 51 = sy_ai F 51 → Q (none) (sy_dh F1 X1 X2 (iv_H 4))) :
    hd_W Ls xs d jm_M163 Q (0, sy_dL F [some (.inl (.ref 1000)), some (.inr (.inl 69)), none], sy_dS F [], sy_dh F X1 X2 (iv_H 4), 0, 0) := by
  by_cases g0 : (sy_i F 16).toInt ≤ 0
  · have c16 := nz_bx hB (k := 16) (lo := 0) (hi := 64) rfl
    exact co_0_p0 hd F X1 X2 hB (by first | exact g0 | (simp only [nz_c]; exact g0)) (fun F1 g  => k0 g0 F1 (nz_in hB [] (fun j hj hn => g j hj (by simp only [List.mem_cons, List.not_mem_nil, or_false, not_or] at hn; exact trivial)) (List.forall_mem_nil _)) (fun j hj hn => g j hj (by simp only [List.mem_cons, List.not_mem_nil, or_false, not_or] at hn; exact trivial)) (nz_fi (g 15 (by decide) (by decide))) (nz_fi (g 16 (by decide) (by decide))) (nz_fa (g 49 (by decide) (by decide))) (nz_fa (g 50 (by decide) (by decide))) (nz_fa (g 51 (by decide) (by decide))))
  replace g0 : 0 < (sy_i F 16).toInt := by omega
  by_cases g1 : ((sy_ai F 51).getD (((sy_i F 16).toInt - 1)).toNat 0).toInt = 6
  · have c16 := nz_bx hB (k := 16) (lo := 0) (hi := 64) rfl
    have n70 : ((sy_i F 16) - ((1 : Int32))).toInt = ((sy_i F 16).toInt - 1) := nz_sub (rfl : (sy_i F 16).toInt = (sy_i F 16).toInt) (by decide : ((1 : Int32)).toInt = 1) (by omega) (by omega)
    have q71 : (sy_ai F 51).getD ((sy_i F 16) - ((1 : Int32))).toNatClampNeg 0 = (sy_ai F 51).getD (((sy_i F 16).toInt - 1)).toNat 0 := by simp only [nz_c, n70, (by decide : ((1 : Int32)).toInt = 1)]
    have n71 : ((sy_ai F 51).getD ((sy_i F 16) - ((1 : Int32))).toNatClampNeg 0).toInt = ((sy_ai F 51).getD (((sy_i F 16).toInt - 1)).toNat 0).toInt := congrArg Int32.toInt q71
    exact co_0_p1 hd F X1 X2 hB (by first | exact g0 | (simp only [nz_c]; exact g0)) (by first | exact ⟨by omega, by omega⟩ | (simp only [nz_c, n70]; exact ⟨by omega, by omega⟩) | (rw [n70]; exact ⟨by omega, by omega⟩)) (by first | exact g1 | (simp only [nz_c, n70]; exact g1) | (rw [n71]; exact g1)) (fun F1 g  => k1 g0 g1 F1 (nz_in hB [] (fun j hj hn => g j hj (by simp only [List.mem_cons, List.not_mem_nil, or_false, not_or] at hn; exact trivial)) (List.forall_mem_nil _)) (fun j hj hn => g j hj (by simp only [List.mem_cons, List.not_mem_nil, or_false, not_or] at hn; exact trivial)) (nz_fi (g 15 (by decide) (by decide))) (nz_fi (g 16 (by decide) (by decide))) (nz_fa (g 49 (by decide) (by decide))) (nz_fa (g 50 (by decide) (by decide))) (nz_fa (g 51 (by decide) (by decide))))
  replace g1 : ((sy_ai F 51).getD (((sy_i F 16).toInt - 1)).toNat 0).toInt ≠ 6 := by omega
  by_cases g2 : (sy_i F 69).toInt = 0
  · by_cases g3 : ((sy_ai F 51).getD (((sy_i F 16).toInt - 1)).toNat 0).toInt ≠ 8
    · by_cases g4 : ((sy_ai F 51).getD (((sy_i F 16).toInt - 1)).toNat 0).toInt ≠ 9
      · by_cases g5 : ((sy_ai F 51).getD (((sy_i F 16).toInt - 1)).toNat 0).toInt ≠ 10
        · have c16 := nz_bx hB (k := 16) (lo := 0) (hi := 64) rfl
          have n70 : ((sy_i F 16) - ((1 : Int32))).toInt = ((sy_i F 16).toInt - 1) := nz_sub (rfl : (sy_i F 16).toInt = (sy_i F 16).toInt) (by decide : ((1 : Int32)).toInt = 1) (by omega) (by omega)
          have q71 : (sy_ai F 51).getD ((sy_i F 16) - ((1 : Int32))).toNatClampNeg 0 = (sy_ai F 51).getD (((sy_i F 16).toInt - 1)).toNat 0 := by simp only [nz_c, n70, (by decide : ((1 : Int32)).toInt = 1)]
          have n71 : ((sy_ai F 51).getD ((sy_i F 16) - ((1 : Int32))).toNatClampNeg 0).toInt = ((sy_ai F 51).getD (((sy_i F 16).toInt - 1)).toNat 0).toInt := congrArg Int32.toInt q71
          have c15 := nz_bx hB (k := 15) (lo := 0) (hi := 840) rfl
          have n75 : ((sy_i F 15) + ((1 : Int32))).toInt = ((sy_i F 15).toInt + 1) := nz_add (rfl : (sy_i F 15).toInt = (sy_i F 15).toInt) (by decide : ((1 : Int32)).toInt = 1) (by omega) (by omega)
          have n72 : ((sy_i F 16) - ((1 : Int32))).toInt = ((sy_i F 16).toInt - 1) := nz_sub (rfl : (sy_i F 16).toInt = (sy_i F 16).toInt) (by decide : ((1 : Int32)).toInt = 1) (by omega) (by omega)
          have w73 : jm_upd (sy_ai F 49) (sy_i F 15).toNatClampNeg ((5 : Int32)) = jm_upd (sy_ai F 49) ((sy_i F 15).toInt).toNat ((5 : Int32)) := by simp only [nz_c, (by decide : ((5 : Int32)).toInt = 5)]
          have w74 : jm_upd (sy_ai F 50) (sy_i F 15).toNatClampNeg ((0 : Int32)) = jm_upd (sy_ai F 50) ((sy_i F 15).toInt).toNat ((0 : Int32)) := by simp only [nz_c, (by decide : ((0 : Int32)).toInt = 0)]
          exact co_0_p2 hd F X1 X2 hB (by first | exact g0 | (simp only [nz_c]; exact g0)) (by first | exact ⟨by omega, by omega⟩ | (simp only [nz_c, n70]; exact ⟨by omega, by omega⟩) | (rw [n70]; exact ⟨by omega, by omega⟩)) (by first | exact g1 | (simp only [nz_c, n70]; exact g1) | (rw [n71]; exact g1)) (by first | exact g2 | (simp only [nz_c]; exact g2)) (by first | exact g3 | (simp only [nz_c, n70]; exact g3) | (rw [n71]; exact g3)) (by first | exact g4 | (simp only [nz_c, n70]; exact g4) | (rw [n71]; exact g4)) (by first | exact g5 | (simp only [nz_c, n70]; exact g5) | (rw [n71]; exact g5)) (by first | exact (o0 g0 g1 g2 g3 g4 g5) | (simp only [nz_c]; exact (o0 g0 g1 g2 g3 g4 g5))) (by first | exact (o0 g0 g1 g2 g3 g4 g5) | (simp only [nz_c]; exact (o0 g0 g1 g2 g3 g4 g5))) (fun F1 g e15 e16 e49 e50 e69 => k2 g0 g1 g2 g3 g4 g5 F1 (nz_in hB [15, 16, 49, 50] (fun j hj hn => g j hj (by simp only [List.mem_cons, List.not_mem_nil, or_false, not_or] at hn; omega)) (List.forall_mem_cons.mpr ⟨fun t ht => (Option.some.inj ht) ▸ (nz_hi e15 n75 (o6 g0 g1 g2 g3 g4 g5).1 (o6 g0 g1 g2 g3 g4 g5).2), List.forall_mem_cons.mpr ⟨fun t ht => (Option.some.inj ht) ▸ (nz_hi e16 n72 (by omega) (by omega)), List.forall_mem_cons.mpr ⟨fun t ht => (Option.some.inj ht) ▸ (nz_hA e49 (nz_up (nz_ba hB (k := 49) (lo := 0) (hi := 5) rfl) (by decide : ((5 : Int32)).toInt = 5) (by omega) (by omega))), List.forall_mem_cons.mpr ⟨fun t ht => (Option.some.inj ht) ▸ (nz_hz2 e50), List.forall_mem_nil _⟩⟩⟩⟩)) (fun j hj hn => g j hj (by simp only [List.mem_cons, List.not_mem_nil, or_false, not_or] at hn; omega)) ((congrArg Int32.toInt (zz_i e15)).trans n75) ((congrArg Int32.toInt (zz_i e16)).trans n72) ((zz_ai e49).trans w73) ((zz_ai e50).trans w74) (nz_fa (g 51 (by decide) (by decide))) ((congrArg Int32.toInt (zz_i e69)).trans (rfl : (sy_i F 69).toInt = (sy_i F 69).toInt)))
        replace g5 : ((sy_ai F 51).getD (((sy_i F 16).toInt - 1)).toNat 0).toInt = 10 := by omega
        have c16 := nz_bx hB (k := 16) (lo := 0) (hi := 64) rfl
        have n70 : ((sy_i F 16) - ((1 : Int32))).toInt = ((sy_i F 16).toInt - 1) := nz_sub (rfl : (sy_i F 16).toInt = (sy_i F 16).toInt) (by decide : ((1 : Int32)).toInt = 1) (by omega) (by omega)
        have q71 : (sy_ai F 51).getD ((sy_i F 16) - ((1 : Int32))).toNatClampNeg 0 = (sy_ai F 51).getD (((sy_i F 16).toInt - 1)).toNat 0 := by simp only [nz_c, n70, (by decide : ((1 : Int32)).toInt = 1)]
        have n71 : ((sy_ai F 51).getD ((sy_i F 16) - ((1 : Int32))).toNatClampNeg 0).toInt = ((sy_ai F 51).getD (((sy_i F 16).toInt - 1)).toNat 0).toInt := congrArg Int32.toInt q71
        have c15 := nz_bx hB (k := 15) (lo := 0) (hi := 840) rfl
        have n75 : ((sy_i F 15) + ((1 : Int32))).toInt = ((sy_i F 15).toInt + 1) := nz_add (rfl : (sy_i F 15).toInt = (sy_i F 15).toInt) (by decide : ((1 : Int32)).toInt = 1) (by omega) (by omega)
        have n72 : ((sy_i F 16) - ((1 : Int32))).toInt = ((sy_i F 16).toInt - 1) := nz_sub (rfl : (sy_i F 16).toInt = (sy_i F 16).toInt) (by decide : ((1 : Int32)).toInt = 1) (by omega) (by omega)
        have w73 : jm_upd (sy_ai F 49) (sy_i F 15).toNatClampNeg ((4 : Int32)) = jm_upd (sy_ai F 49) ((sy_i F 15).toInt).toNat ((4 : Int32)) := by simp only [nz_c, (by decide : ((4 : Int32)).toInt = 4)]
        have w74 : jm_upd (sy_ai F 50) (sy_i F 15).toNatClampNeg ((0 : Int32)) = jm_upd (sy_ai F 50) ((sy_i F 15).toInt).toNat ((0 : Int32)) := by simp only [nz_c, (by decide : ((0 : Int32)).toInt = 0)]
        exact co_0_p3 hd F X1 X2 hB (by first | exact g0 | (simp only [nz_c]; exact g0)) (by first | exact ⟨by omega, by omega⟩ | (simp only [nz_c, n70]; exact ⟨by omega, by omega⟩) | (rw [n70]; exact ⟨by omega, by omega⟩)) (by first | exact g1 | (simp only [nz_c, n70]; exact g1) | (rw [n71]; exact g1)) (by first | exact g2 | (simp only [nz_c]; exact g2)) (by first | exact g3 | (simp only [nz_c, n70]; exact g3) | (rw [n71]; exact g3)) (by first | exact g4 | (simp only [nz_c, n70]; exact g4) | (rw [n71]; exact g4)) (by first | exact g5 | (simp only [nz_c, n70]; exact g5) | (rw [n71]; exact g5)) (by first | exact (o1 g0 g1 g2 g3 g4 g5) | (simp only [nz_c]; exact (o1 g0 g1 g2 g3 g4 g5))) (by first | exact (o1 g0 g1 g2 g3 g4 g5) | (simp only [nz_c]; exact (o1 g0 g1 g2 g3 g4 g5))) (fun F1 g e15 e16 e49 e50 e69 => k3 g0 g1 g2 g3 g4 g5 F1 (nz_in hB [15, 16, 49, 50] (fun j hj hn => g j hj (by simp only [List.mem_cons, List.not_mem_nil, or_false, not_or] at hn; omega)) (List.forall_mem_cons.mpr ⟨fun t ht => (Option.some.inj ht) ▸ (nz_hi e15 n75 (o7 g0 g1 g2 g3 g4 g5).1 (o7 g0 g1 g2 g3 g4 g5).2), List.forall_mem_cons.mpr ⟨fun t ht => (Option.some.inj ht) ▸ (nz_hi e16 n72 (by omega) (by omega)), List.forall_mem_cons.mpr ⟨fun t ht => (Option.some.inj ht) ▸ (nz_hA e49 (nz_up (nz_ba hB (k := 49) (lo := 0) (hi := 5) rfl) (by decide : ((4 : Int32)).toInt = 4) (by omega) (by omega))), List.forall_mem_cons.mpr ⟨fun t ht => (Option.some.inj ht) ▸ (nz_hz2 e50), List.forall_mem_nil _⟩⟩⟩⟩)) (fun j hj hn => g j hj (by simp only [List.mem_cons, List.not_mem_nil, or_false, not_or] at hn; omega)) ((congrArg Int32.toInt (zz_i e15)).trans n75) ((congrArg Int32.toInt (zz_i e16)).trans n72) ((zz_ai e49).trans w73) ((zz_ai e50).trans w74) (nz_fa (g 51 (by decide) (by decide))) ((congrArg Int32.toInt (zz_i e69)).trans (rfl : (sy_i F 69).toInt = (sy_i F 69).toInt)))
      replace g4 : ((sy_ai F 51).getD (((sy_i F 16).toInt - 1)).toNat 0).toInt = 9 := by omega
      have c16 := nz_bx hB (k := 16) (lo := 0) (hi := 64) rfl
      have n70 : ((sy_i F 16) - ((1 : Int32))).toInt = ((sy_i F 16).toInt - 1) := nz_sub (rfl : (sy_i F 16).toInt = (sy_i F 16).toInt) (by decide : ((1 : Int32)).toInt = 1) (by omega) (by omega)
      have q71 : (sy_ai F 51).getD ((sy_i F 16) - ((1 : Int32))).toNatClampNeg 0 = (sy_ai F 51).getD (((sy_i F 16).toInt - 1)).toNat 0 := by simp only [nz_c, n70, (by decide : ((1 : Int32)).toInt = 1)]
      have n71 : ((sy_ai F 51).getD ((sy_i F 16) - ((1 : Int32))).toNatClampNeg 0).toInt = ((sy_ai F 51).getD (((sy_i F 16).toInt - 1)).toNat 0).toInt := congrArg Int32.toInt q71
      have c15 := nz_bx hB (k := 15) (lo := 0) (hi := 840) rfl
      have n75 : ((sy_i F 15) + ((1 : Int32))).toInt = ((sy_i F 15).toInt + 1) := nz_add (rfl : (sy_i F 15).toInt = (sy_i F 15).toInt) (by decide : ((1 : Int32)).toInt = 1) (by omega) (by omega)
      have n72 : ((sy_i F 16) - ((1 : Int32))).toInt = ((sy_i F 16).toInt - 1) := nz_sub (rfl : (sy_i F 16).toInt = (sy_i F 16).toInt) (by decide : ((1 : Int32)).toInt = 1) (by omega) (by omega)
      have w73 : jm_upd (sy_ai F 49) (sy_i F 15).toNatClampNeg ((3 : Int32)) = jm_upd (sy_ai F 49) ((sy_i F 15).toInt).toNat ((3 : Int32)) := by simp only [nz_c, (by decide : ((3 : Int32)).toInt = 3)]
      have w74 : jm_upd (sy_ai F 50) (sy_i F 15).toNatClampNeg ((0 : Int32)) = jm_upd (sy_ai F 50) ((sy_i F 15).toInt).toNat ((0 : Int32)) := by simp only [nz_c, (by decide : ((0 : Int32)).toInt = 0)]
      exact co_0_p4 hd F X1 X2 hB (by first | exact g0 | (simp only [nz_c]; exact g0)) (by first | exact ⟨by omega, by omega⟩ | (simp only [nz_c, n70]; exact ⟨by omega, by omega⟩) | (rw [n70]; exact ⟨by omega, by omega⟩)) (by first | exact g1 | (simp only [nz_c, n70]; exact g1) | (rw [n71]; exact g1)) (by first | exact g2 | (simp only [nz_c]; exact g2)) (by first | exact g3 | (simp only [nz_c, n70]; exact g3) | (rw [n71]; exact g3)) (by first | exact g4 | (simp only [nz_c, n70]; exact g4) | (rw [n71]; exact g4)) (by first | exact (o2 g0 g1 g2 g3 g4) | (simp only [nz_c]; exact (o2 g0 g1 g2 g3 g4))) (by first | exact (o2 g0 g1 g2 g3 g4) | (simp only [nz_c]; exact (o2 g0 g1 g2 g3 g4))) (fun F1 g e15 e16 e49 e50 e69 => k4 g0 g1 g2 g3 g4 F1 (nz_in hB [15, 16, 49, 50] (fun j hj hn => g j hj (by simp only [List.mem_cons, List.not_mem_nil, or_false, not_or] at hn; omega)) (List.forall_mem_cons.mpr ⟨fun t ht => (Option.some.inj ht) ▸ (nz_hi e15 n75 (o8 g0 g1 g2 g3 g4).1 (o8 g0 g1 g2 g3 g4).2), List.forall_mem_cons.mpr ⟨fun t ht => (Option.some.inj ht) ▸ (nz_hi e16 n72 (by omega) (by omega)), List.forall_mem_cons.mpr ⟨fun t ht => (Option.some.inj ht) ▸ (nz_hA e49 (nz_up (nz_ba hB (k := 49) (lo := 0) (hi := 5) rfl) (by decide : ((3 : Int32)).toInt = 3) (by omega) (by omega))), List.forall_mem_cons.mpr ⟨fun t ht => (Option.some.inj ht) ▸ (nz_hz2 e50), List.forall_mem_nil _⟩⟩⟩⟩)) (fun j hj hn => g j hj (by simp only [List.mem_cons, List.not_mem_nil, or_false, not_or] at hn; omega)) ((congrArg Int32.toInt (zz_i e15)).trans n75) ((congrArg Int32.toInt (zz_i e16)).trans n72) ((zz_ai e49).trans w73) ((zz_ai e50).trans w74) (nz_fa (g 51 (by decide) (by decide))) ((congrArg Int32.toInt (zz_i e69)).trans (rfl : (sy_i F 69).toInt = (sy_i F 69).toInt)))
    replace g3 : ((sy_ai F 51).getD (((sy_i F 16).toInt - 1)).toNat 0).toInt = 8 := by omega
    have c16 := nz_bx hB (k := 16) (lo := 0) (hi := 64) rfl
    have n70 : ((sy_i F 16) - ((1 : Int32))).toInt = ((sy_i F 16).toInt - 1) := nz_sub (rfl : (sy_i F 16).toInt = (sy_i F 16).toInt) (by decide : ((1 : Int32)).toInt = 1) (by omega) (by omega)
    have q71 : (sy_ai F 51).getD ((sy_i F 16) - ((1 : Int32))).toNatClampNeg 0 = (sy_ai F 51).getD (((sy_i F 16).toInt - 1)).toNat 0 := by simp only [nz_c, n70, (by decide : ((1 : Int32)).toInt = 1)]
    have n71 : ((sy_ai F 51).getD ((sy_i F 16) - ((1 : Int32))).toNatClampNeg 0).toInt = ((sy_ai F 51).getD (((sy_i F 16).toInt - 1)).toNat 0).toInt := congrArg Int32.toInt q71
    have c15 := nz_bx hB (k := 15) (lo := 0) (hi := 840) rfl
    have n75 : ((sy_i F 15) + ((1 : Int32))).toInt = ((sy_i F 15).toInt + 1) := nz_add (rfl : (sy_i F 15).toInt = (sy_i F 15).toInt) (by decide : ((1 : Int32)).toInt = 1) (by omega) (by omega)
    have n72 : ((sy_i F 16) - ((1 : Int32))).toInt = ((sy_i F 16).toInt - 1) := nz_sub (rfl : (sy_i F 16).toInt = (sy_i F 16).toInt) (by decide : ((1 : Int32)).toInt = 1) (by omega) (by omega)
    have w73 : jm_upd (sy_ai F 49) (sy_i F 15).toNatClampNeg ((2 : Int32)) = jm_upd (sy_ai F 49) ((sy_i F 15).toInt).toNat ((2 : Int32)) := by simp only [nz_c, (by decide : ((2 : Int32)).toInt = 2)]
    have w74 : jm_upd (sy_ai F 50) (sy_i F 15).toNatClampNeg ((0 : Int32)) = jm_upd (sy_ai F 50) ((sy_i F 15).toInt).toNat ((0 : Int32)) := by simp only [nz_c, (by decide : ((0 : Int32)).toInt = 0)]
    exact co_0_p5 hd F X1 X2 hB (by first | exact g0 | (simp only [nz_c]; exact g0)) (by first | exact ⟨by omega, by omega⟩ | (simp only [nz_c, n70]; exact ⟨by omega, by omega⟩) | (rw [n70]; exact ⟨by omega, by omega⟩)) (by first | exact g1 | (simp only [nz_c, n70]; exact g1) | (rw [n71]; exact g1)) (by first | exact g2 | (simp only [nz_c]; exact g2)) (by first | exact g3 | (simp only [nz_c, n70]; exact g3) | (rw [n71]; exact g3)) (by first | exact (o3 g0 g1 g2 g3) | (simp only [nz_c]; exact (o3 g0 g1 g2 g3))) (by first | exact (o3 g0 g1 g2 g3) | (simp only [nz_c]; exact (o3 g0 g1 g2 g3))) (fun F1 g e15 e16 e49 e50 e69 => k5 g0 g1 g2 g3 F1 (nz_in hB [15, 16, 49, 50] (fun j hj hn => g j hj (by simp only [List.mem_cons, List.not_mem_nil, or_false, not_or] at hn; omega)) (List.forall_mem_cons.mpr ⟨fun t ht => (Option.some.inj ht) ▸ (nz_hi e15 n75 (o9 g0 g1 g2 g3).1 (o9 g0 g1 g2 g3).2), List.forall_mem_cons.mpr ⟨fun t ht => (Option.some.inj ht) ▸ (nz_hi e16 n72 (by omega) (by omega)), List.forall_mem_cons.mpr ⟨fun t ht => (Option.some.inj ht) ▸ (nz_hA e49 (nz_up (nz_ba hB (k := 49) (lo := 0) (hi := 5) rfl) (by decide : ((2 : Int32)).toInt = 2) (by omega) (by omega))), List.forall_mem_cons.mpr ⟨fun t ht => (Option.some.inj ht) ▸ (nz_hz2 e50), List.forall_mem_nil _⟩⟩⟩⟩)) (fun j hj hn => g j hj (by simp only [List.mem_cons, List.not_mem_nil, or_false, not_or] at hn; omega)) ((congrArg Int32.toInt (zz_i e15)).trans n75) ((congrArg Int32.toInt (zz_i e16)).trans n72) ((zz_ai e49).trans w73) ((zz_ai e50).trans w74) (nz_fa (g 51 (by decide) (by decide))) ((congrArg Int32.toInt (zz_i e69)).trans (rfl : (sy_i F 69).toInt = (sy_i F 69).toInt)))
  replace g2 : (sy_i F 69).toInt ≠ 0 := by omega
  by_cases g3 : ((sy_ai F 51).getD (((sy_i F 16).toInt - 1)).toNat 0).toInt = 8
  · have c16 := nz_bx hB (k := 16) (lo := 0) (hi := 64) rfl
    have n70 : ((sy_i F 16) - ((1 : Int32))).toInt = ((sy_i F 16).toInt - 1) := nz_sub (rfl : (sy_i F 16).toInt = (sy_i F 16).toInt) (by decide : ((1 : Int32)).toInt = 1) (by omega) (by omega)
    have q71 : (sy_ai F 51).getD ((sy_i F 16) - ((1 : Int32))).toNatClampNeg 0 = (sy_ai F 51).getD (((sy_i F 16).toInt - 1)).toNat 0 := by simp only [nz_c, n70, (by decide : ((1 : Int32)).toInt = 1)]
    have n71 : ((sy_ai F 51).getD ((sy_i F 16) - ((1 : Int32))).toNatClampNeg 0).toInt = ((sy_ai F 51).getD (((sy_i F 16).toInt - 1)).toNat 0).toInt := congrArg Int32.toInt q71
    exact co_0_p6 hd F X1 X2 hB (by first | exact g0 | (simp only [nz_c]; exact g0)) (by first | exact ⟨by omega, by omega⟩ | (simp only [nz_c, n70]; exact ⟨by omega, by omega⟩) | (rw [n70]; exact ⟨by omega, by omega⟩)) (by first | exact g1 | (simp only [nz_c, n70]; exact g1) | (rw [n71]; exact g1)) (by first | exact g2 | (simp only [nz_c]; exact g2)) (by first | exact g3 | (simp only [nz_c, n70]; exact g3) | (rw [n71]; exact g3)) (fun F1 g  => k6 g0 g1 g2 g3 F1 (nz_in hB [] (fun j hj hn => g j hj (by simp only [List.mem_cons, List.not_mem_nil, or_false, not_or] at hn; exact trivial)) (List.forall_mem_nil _)) (fun j hj hn => g j hj (by simp only [List.mem_cons, List.not_mem_nil, or_false, not_or] at hn; exact trivial)) (nz_fi (g 15 (by decide) (by decide))) (nz_fi (g 16 (by decide) (by decide))) (nz_fa (g 49 (by decide) (by decide))) (nz_fa (g 50 (by decide) (by decide))) (nz_fa (g 51 (by decide) (by decide))))
  replace g3 : ((sy_ai F 51).getD (((sy_i F 16).toInt - 1)).toNat 0).toInt ≠ 8 := by omega
  by_cases g4 : ((sy_ai F 51).getD (((sy_i F 16).toInt - 1)).toNat 0).toInt ≠ 9
  · by_cases g5 : ((sy_ai F 51).getD (((sy_i F 16).toInt - 1)).toNat 0).toInt ≠ 8
    · by_cases g6 : ((sy_ai F 51).getD (((sy_i F 16).toInt - 1)).toNat 0).toInt ≠ 9
      · by_cases g7 : ((sy_ai F 51).getD (((sy_i F 16).toInt - 1)).toNat 0).toInt ≠ 10
        · have c16 := nz_bx hB (k := 16) (lo := 0) (hi := 64) rfl
          have n70 : ((sy_i F 16) - ((1 : Int32))).toInt = ((sy_i F 16).toInt - 1) := nz_sub (rfl : (sy_i F 16).toInt = (sy_i F 16).toInt) (by decide : ((1 : Int32)).toInt = 1) (by omega) (by omega)
          have q71 : (sy_ai F 51).getD ((sy_i F 16) - ((1 : Int32))).toNatClampNeg 0 = (sy_ai F 51).getD (((sy_i F 16).toInt - 1)).toNat 0 := by simp only [nz_c, n70, (by decide : ((1 : Int32)).toInt = 1)]
          have n71 : ((sy_ai F 51).getD ((sy_i F 16) - ((1 : Int32))).toNatClampNeg 0).toInt = ((sy_ai F 51).getD (((sy_i F 16).toInt - 1)).toNat 0).toInt := congrArg Int32.toInt q71
          have c15 := nz_bx hB (k := 15) (lo := 0) (hi := 840) rfl
          have n75 : ((sy_i F 15) + ((1 : Int32))).toInt = ((sy_i F 15).toInt + 1) := nz_add (rfl : (sy_i F 15).toInt = (sy_i F 15).toInt) (by decide : ((1 : Int32)).toInt = 1) (by omega) (by omega)
          have n72 : ((sy_i F 16) - ((1 : Int32))).toInt = ((sy_i F 16).toInt - 1) := nz_sub (rfl : (sy_i F 16).toInt = (sy_i F 16).toInt) (by decide : ((1 : Int32)).toInt = 1) (by omega) (by omega)
          have w73 : jm_upd (sy_ai F 49) (sy_i F 15).toNatClampNeg ((5 : Int32)) = jm_upd (sy_ai F 49) ((sy_i F 15).toInt).toNat ((5 : Int32)) := by simp only [nz_c, (by decide : ((5 : Int32)).toInt = 5)]
          have w74 : jm_upd (sy_ai F 50) (sy_i F 15).toNatClampNeg ((0 : Int32)) = jm_upd (sy_ai F 50) ((sy_i F 15).toInt).toNat ((0 : Int32)) := by simp only [nz_c, (by decide : ((0 : Int32)).toInt = 0)]
          exact co_0_p7 hd F X1 X2 hB (by first | exact g0 | (simp only [nz_c]; exact g0)) (by first | exact ⟨by omega, by omega⟩ | (simp only [nz_c, n70]; exact ⟨by omega, by omega⟩) | (rw [n70]; exact ⟨by omega, by omega⟩)) (by first | exact g1 | (simp only [nz_c, n70]; exact g1) | (rw [n71]; exact g1)) (by first | exact g2 | (simp only [nz_c]; exact g2)) (by first | exact g3 | (simp only [nz_c, n70]; exact g3) | (rw [n71]; exact g3)) (by first | exact g4 | (simp only [nz_c, n70]; exact g4) | (rw [n71]; exact g4)) (by first | exact g5 | (simp only [nz_c, n70]; exact g5) | (rw [n71]; exact g5)) (by first | exact g6 | (simp only [nz_c, n70]; exact g6) | (rw [n71]; exact g6)) (by first | exact g7 | (simp only [nz_c, n70]; exact g7) | (rw [n71]; exact g7)) (by first | exact (o4 g0 g1 g2 g3 g4 g5 g6 g7) | (simp only [nz_c]; exact (o4 g0 g1 g2 g3 g4 g5 g6 g7))) (by first | exact (o4 g0 g1 g2 g3 g4 g5 g6 g7) | (simp only [nz_c]; exact (o4 g0 g1 g2 g3 g4 g5 g6 g7))) (fun F1 g e15 e16 e49 e50 e69 => k7 g0 g1 g2 g3 g4 g5 g6 g7 F1 (nz_in hB [15, 16, 49, 50] (fun j hj hn => g j hj (by simp only [List.mem_cons, List.not_mem_nil, or_false, not_or] at hn; omega)) (List.forall_mem_cons.mpr ⟨fun t ht => (Option.some.inj ht) ▸ (nz_hi e15 n75 (o10 g0 g1 g2 g3 g4 g5 g6 g7).1 (o10 g0 g1 g2 g3 g4 g5 g6 g7).2), List.forall_mem_cons.mpr ⟨fun t ht => (Option.some.inj ht) ▸ (nz_hi e16 n72 (by omega) (by omega)), List.forall_mem_cons.mpr ⟨fun t ht => (Option.some.inj ht) ▸ (nz_hA e49 (nz_up (nz_ba hB (k := 49) (lo := 0) (hi := 5) rfl) (by decide : ((5 : Int32)).toInt = 5) (by omega) (by omega))), List.forall_mem_cons.mpr ⟨fun t ht => (Option.some.inj ht) ▸ (nz_hz2 e50), List.forall_mem_nil _⟩⟩⟩⟩)) (fun j hj hn => g j hj (by simp only [List.mem_cons, List.not_mem_nil, or_false, not_or] at hn; omega)) ((congrArg Int32.toInt (zz_i e15)).trans n75) ((congrArg Int32.toInt (zz_i e16)).trans n72) ((zz_ai e49).trans w73) ((zz_ai e50).trans w74) (nz_fa (g 51 (by decide) (by decide))) ((congrArg Int32.toInt (zz_i e69)).trans (rfl : (sy_i F 69).toInt = (sy_i F 69).toInt)))
        replace g7 : ((sy_ai F 51).getD (((sy_i F 16).toInt - 1)).toNat 0).toInt = 10 := by omega
        have c16 := nz_bx hB (k := 16) (lo := 0) (hi := 64) rfl
        have n70 : ((sy_i F 16) - ((1 : Int32))).toInt = ((sy_i F 16).toInt - 1) := nz_sub (rfl : (sy_i F 16).toInt = (sy_i F 16).toInt) (by decide : ((1 : Int32)).toInt = 1) (by omega) (by omega)
        have q71 : (sy_ai F 51).getD ((sy_i F 16) - ((1 : Int32))).toNatClampNeg 0 = (sy_ai F 51).getD (((sy_i F 16).toInt - 1)).toNat 0 := by simp only [nz_c, n70, (by decide : ((1 : Int32)).toInt = 1)]
        have n71 : ((sy_ai F 51).getD ((sy_i F 16) - ((1 : Int32))).toNatClampNeg 0).toInt = ((sy_ai F 51).getD (((sy_i F 16).toInt - 1)).toNat 0).toInt := congrArg Int32.toInt q71
        have c15 := nz_bx hB (k := 15) (lo := 0) (hi := 840) rfl
        have n75 : ((sy_i F 15) + ((1 : Int32))).toInt = ((sy_i F 15).toInt + 1) := nz_add (rfl : (sy_i F 15).toInt = (sy_i F 15).toInt) (by decide : ((1 : Int32)).toInt = 1) (by omega) (by omega)
        have n72 : ((sy_i F 16) - ((1 : Int32))).toInt = ((sy_i F 16).toInt - 1) := nz_sub (rfl : (sy_i F 16).toInt = (sy_i F 16).toInt) (by decide : ((1 : Int32)).toInt = 1) (by omega) (by omega)
        have w73 : jm_upd (sy_ai F 49) (sy_i F 15).toNatClampNeg ((4 : Int32)) = jm_upd (sy_ai F 49) ((sy_i F 15).toInt).toNat ((4 : Int32)) := by simp only [nz_c, (by decide : ((4 : Int32)).toInt = 4)]
        have w74 : jm_upd (sy_ai F 50) (sy_i F 15).toNatClampNeg ((0 : Int32)) = jm_upd (sy_ai F 50) ((sy_i F 15).toInt).toNat ((0 : Int32)) := by simp only [nz_c, (by decide : ((0 : Int32)).toInt = 0)]
        exact co_0_p8 hd F X1 X2 hB (by first | exact g0 | (simp only [nz_c]; exact g0)) (by first | exact ⟨by omega, by omega⟩ | (simp only [nz_c, n70]; exact ⟨by omega, by omega⟩) | (rw [n70]; exact ⟨by omega, by omega⟩)) (by first | exact g1 | (simp only [nz_c, n70]; exact g1) | (rw [n71]; exact g1)) (by first | exact g2 | (simp only [nz_c]; exact g2)) (by first | exact g3 | (simp only [nz_c, n70]; exact g3) | (rw [n71]; exact g3)) (by first | exact g4 | (simp only [nz_c, n70]; exact g4) | (rw [n71]; exact g4)) (by first | exact g5 | (simp only [nz_c, n70]; exact g5) | (rw [n71]; exact g5)) (by first | exact g6 | (simp only [nz_c, n70]; exact g6) | (rw [n71]; exact g6)) (by first | exact g7 | (simp only [nz_c, n70]; exact g7) | (rw [n71]; exact g7)) (by first | exact (o5 g0 g1 g2 g3 g4 g5 g6 g7) | (simp only [nz_c]; exact (o5 g0 g1 g2 g3 g4 g5 g6 g7))) (by first | exact (o5 g0 g1 g2 g3 g4 g5 g6 g7) | (simp only [nz_c]; exact (o5 g0 g1 g2 g3 g4 g5 g6 g7))) (fun F1 g e15 e16 e49 e50 e69 => k8 g0 g1 g2 g3 g4 g5 g6 g7 F1 (nz_in hB [15, 16, 49, 50] (fun j hj hn => g j hj (by simp only [List.mem_cons, List.not_mem_nil, or_false, not_or] at hn; omega)) (List.forall_mem_cons.mpr ⟨fun t ht => (Option.some.inj ht) ▸ (nz_hi e15 n75 (o11 g0 g1 g2 g3 g4 g5 g6 g7).1 (o11 g0 g1 g2 g3 g4 g5 g6 g7).2), List.forall_mem_cons.mpr ⟨fun t ht => (Option.some.inj ht) ▸ (nz_hi e16 n72 (by omega) (by omega)), List.forall_mem_cons.mpr ⟨fun t ht => (Option.some.inj ht) ▸ (nz_hA e49 (nz_up (nz_ba hB (k := 49) (lo := 0) (hi := 5) rfl) (by decide : ((4 : Int32)).toInt = 4) (by omega) (by omega))), List.forall_mem_cons.mpr ⟨fun t ht => (Option.some.inj ht) ▸ (nz_hz2 e50), List.forall_mem_nil _⟩⟩⟩⟩)) (fun j hj hn => g j hj (by simp only [List.mem_cons, List.not_mem_nil, or_false, not_or] at hn; omega)) ((congrArg Int32.toInt (zz_i e15)).trans n75) ((congrArg Int32.toInt (zz_i e16)).trans n72) ((zz_ai e49).trans w73) ((zz_ai e50).trans w74) (nz_fa (g 51 (by decide) (by decide))) ((congrArg Int32.toInt (zz_i e69)).trans (rfl : (sy_i F 69).toInt = (sy_i F 69).toInt)))
      replace g6 : ((sy_ai F 51).getD (((sy_i F 16).toInt - 1)).toNat 0).toInt = 9 := by omega
      have c16 := nz_bx hB (k := 16) (lo := 0) (hi := 64) rfl
      have n70 : ((sy_i F 16) - ((1 : Int32))).toInt = ((sy_i F 16).toInt - 1) := nz_sub (rfl : (sy_i F 16).toInt = (sy_i F 16).toInt) (by decide : ((1 : Int32)).toInt = 1) (by omega) (by omega)
      have q71 : (sy_ai F 51).getD ((sy_i F 16) - ((1 : Int32))).toNatClampNeg 0 = (sy_ai F 51).getD (((sy_i F 16).toInt - 1)).toNat 0 := by simp only [nz_c, n70, (by decide : ((1 : Int32)).toInt = 1)]
      have n71 : ((sy_ai F 51).getD ((sy_i F 16) - ((1 : Int32))).toNatClampNeg 0).toInt = ((sy_ai F 51).getD (((sy_i F 16).toInt - 1)).toNat 0).toInt := congrArg Int32.toInt q71
      exfalso
      omega
    replace g5 : ((sy_ai F 51).getD (((sy_i F 16).toInt - 1)).toNat 0).toInt = 8 := by omega
    have c16 := nz_bx hB (k := 16) (lo := 0) (hi := 64) rfl
    have n70 : ((sy_i F 16) - ((1 : Int32))).toInt = ((sy_i F 16).toInt - 1) := nz_sub (rfl : (sy_i F 16).toInt = (sy_i F 16).toInt) (by decide : ((1 : Int32)).toInt = 1) (by omega) (by omega)
    have q71 : (sy_ai F 51).getD ((sy_i F 16) - ((1 : Int32))).toNatClampNeg 0 = (sy_ai F 51).getD (((sy_i F 16).toInt - 1)).toNat 0 := by simp only [nz_c, n70, (by decide : ((1 : Int32)).toInt = 1)]
    have n71 : ((sy_ai F 51).getD ((sy_i F 16) - ((1 : Int32))).toNatClampNeg 0).toInt = ((sy_ai F 51).getD (((sy_i F 16).toInt - 1)).toNat 0).toInt := congrArg Int32.toInt q71
    exfalso
    omega
  replace g4 : ((sy_ai F 51).getD (((sy_i F 16).toInt - 1)).toNat 0).toInt = 9 := by omega
  have c16 := nz_bx hB (k := 16) (lo := 0) (hi := 64) rfl
  have n70 : ((sy_i F 16) - ((1 : Int32))).toInt = ((sy_i F 16).toInt - 1) := nz_sub (rfl : (sy_i F 16).toInt = (sy_i F 16).toInt) (by decide : ((1 : Int32)).toInt = 1) (by omega) (by omega)
  have q71 : (sy_ai F 51).getD ((sy_i F 16) - ((1 : Int32))).toNatClampNeg 0 = (sy_ai F 51).getD (((sy_i F 16).toInt - 1)).toNat 0 := by simp only [nz_c, n70, (by decide : ((1 : Int32)).toInt = 1)]
  have n71 : ((sy_ai F 51).getD ((sy_i F 16) - ((1 : Int32))).toNatClampNeg 0).toInt = ((sy_ai F 51).getD (((sy_i F 16).toInt - 1)).toNat 0).toInt := congrArg Int32.toInt q71
  exact co_0_p9 hd F X1 X2 hB (by first | exact g0 | (simp only [nz_c]; exact g0)) (by first | exact ⟨by omega, by omega⟩ | (simp only [nz_c, n70]; exact ⟨by omega, by omega⟩) | (rw [n70]; exact ⟨by omega, by omega⟩)) (by first | exact g1 | (simp only [nz_c, n70]; exact g1) | (rw [n71]; exact g1)) (by first | exact g2 | (simp only [nz_c]; exact g2)) (by first | exact g3 | (simp only [nz_c, n70]; exact g3) | (rw [n71]; exact g3)) (by first | exact g4 | (simp only [nz_c, n70]; exact g4) | (rw [n71]; exact g4)) (fun F1 g  => k9 g0 g1 g2 g3 g4 F1 (nz_in hB [] (fun j hj hn => g j hj (by simp only [List.mem_cons, List.not_mem_nil, or_false, not_or] at hn; exact trivial)) (List.forall_mem_nil _)) (fun j hj hn => g j hj (by simp only [List.mem_cons, List.not_mem_nil, or_false, not_or] at hn; exact trivial)) (nz_fi (g 15 (by decide) (by decide))) (nz_fi (g 16 (by decide) (by decide))) (nz_fa (g 49 (by decide) (by decide))) (nz_fa (g 50 (by decide) (by decide))) (nz_fa (g 51 (by decide) (by decide))))
theorem ex_0_p0 {Ls : Nat} {xs : Nat → Int32} {d : Nat} {Q : Option Value → jm_h → Prop} (hd : 4 ≤ d) (F : Nat → sy_d) (X1 X2 : List jm_c) (hB : iv_in F iv_B4)
    (k : ∀ F1 : Nat → sy_d, (∀ j, j < 69 → j ≠ 16 → F1 j = F j) → F1 16 = .inl (.int ((0 : Int32))) → F1 69 = .inl (.int (sy_i F 5)) → hd_W Ls xs d jm_M164 Q (12, sy_dL F1 [some (.inl (.ref 1000)), some (.inr (.inl 69)), some (.inl (.int 1))], sy_dS F1 [], sy_dh F1 X1 X2 (iv_H 4), 0, 0)) :
    hd_W Ls xs d jm_M164 Q (0, sy_dL F [some (.inl (.ref 1000)), none, none], sy_dS F [], sy_dh F X1 X2 (iv_H 4), 0, 0) := by
  refine hd_run (s := 4) (nv := 69) (pc := 12) (L := [some (.inl (.ref 1000)), some (.inr (.inl 69)), some (.inl (.int 1))]) (S := []) (uh := hd_ov (iv_id 0 iv_B4) [(16, .inl (.inl (.int 0)))]) (ul := [.inl (.inr (.inl 5))]) (f := true) (sp := [12]) (d0 := 3) (O := []) (T := []) (P := []) jm_ok164 (by decide +kernel) (by decide +kernel) hd F X1 X2 (fun F' hF hs => ?_)
  have b5 := hd_b (F := F) (F' := F') (k := 5) (hF 5 (by decide))
  have hB' : iv_in F' iv_B4 := iv_in_eq hB (fun j hj => hF j (Nat.lt_of_lt_of_le hj (by decide +kernel)))
  refine ⟨fun _ h => absurd h List.not_mem_nil, ?_⟩
  refine k _ ?_ ?_ ?_
  · exact fun j hj hn => (hd_keep hB' (Nat.lt_of_lt_of_le hj (by decide +kernel)) (by simp; omega)).trans (hF j (Nat.lt_of_lt_of_le hj (by decide)))
  · exact hd_gi (x := .inl (.int 0)) (by decide +kernel) rfl
  · exact hd_gi (x := .inr (.inl 5)) (by decide +kernel) b5
theorem ex_12_p0 {Ls : Nat} {xs : Nat → Int32} {d : Nat} {Q : Option Value → jm_h → Prop} (hd : 4 ≤ d) (F : Nat → sy_d) (X1 X2 : List jm_c) (hB : iv_in F iv_B4)
    (h0 : (sy_i F 6).toInt ≠ 0)
    (k : ∀ F1 : Nat → sy_d, (∀ j, j < 69 → True → F1 j = F j) → Q (none) (sy_dh F1 X1 X2 (iv_H 4))) :
    hd_W Ls xs d jm_M164 Q (12, sy_dL F [some (.inl (.ref 1000)), some (.inr (.inl 69)), some (.inl (.int 1))], sy_dS F [], sy_dh F X1 X2 (iv_H 4), 0, 0) := by
  refine hd_ret (s := 4) (nv := 70) (v := none) (uh := hd_ov (iv_id 0 iv_B4) []) (f := true) (sp := [23]) (d0 := 3) (O := [true]) (T := []) (P := [(1, .inr (.inl 6), .inl (.int 0))]) jm_ok164 (by decide +kernel) (by decide +kernel) hd F X1 X2 (fun F' hF hs => ?_)
  have b6 := hd_b (F := F) (F' := F') (k := 6) (hF 6 (by decide))
  have hB' : iv_in F' iv_B4 := iv_in_eq hB (fun j hj => hF j (Nat.lt_of_lt_of_le hj (by decide +kernel)))
  refine ⟨List.forall_mem_cons.mpr ⟨hd_p1 b6 rfl (by have hc : ((0) : Int32).toInt = 0 := (by decide); omega), fun _ h => absurd h List.not_mem_nil⟩, ?_⟩
  refine k _ ?_
  · exact fun j hj _ => (hd_keep hB' (Nat.lt_of_lt_of_le hj (by decide +kernel)) (by simp)).trans (hF j (Nat.lt_of_lt_of_le hj (by decide)))
theorem ex_12_p1 {Ls : Nat} {xs : Nat → Int32} {d : Nat} {Q : Option Value → jm_h → Prop} (hd : 4 ≤ d) (F : Nat → sy_d) (X1 X2 : List jm_c) (hB : iv_in F iv_B4)
    (h0 : (sy_i F 6).toInt = 0)
    (k : ∀ F1 : Nat → sy_d, (∀ j, j < 69 → True → F1 j = F j) → F1 69 = .inl (.int (sy_i F 69)) → hd_W Ls xs d jm_M164 Q (23, sy_dL F1 [some (.inl (.ref 1000)), some (.inr (.inl 69)), some (.inl (.int 1))], sy_dS F1 [], sy_dh F1 X1 X2 (iv_H 4), 0, 0)) :
    hd_W Ls xs d jm_M164 Q (12, sy_dL F [some (.inl (.ref 1000)), some (.inr (.inl 69)), some (.inl (.int 1))], sy_dS F [], sy_dh F X1 X2 (iv_H 4), 0, 0) := by
  refine hd_run (s := 4) (nv := 70) (pc := 23) (L := [some (.inl (.ref 1000)), some (.inr (.inl 69)), some (.inl (.int 1))]) (S := []) (uh := hd_ov (iv_id 0 iv_B4) []) (ul := [.inl (.inr (.inl 69))]) (f := true) (sp := [23]) (d0 := 3) (O := [false]) (T := []) (P := [(0, .inr (.inl 6), .inl (.int 0))]) jm_ok164 (by decide +kernel) (by decide +kernel) hd F X1 X2 (fun F' hF hs => ?_)
  have b6 := hd_b (F := F) (F' := F') (k := 6) (hF 6 (by decide))
  have b69 := hd_b (F := F) (F' := F') (k := 69) (hF 69 (by decide))
  have hB' : iv_in F' iv_B4 := iv_in_eq hB (fun j hj => hF j (Nat.lt_of_lt_of_le hj (by decide +kernel)))
  refine ⟨List.forall_mem_cons.mpr ⟨hd_p0 b6 rfl (by have hc : ((0) : Int32).toInt = 0 := (by decide); omega), fun _ h => absurd h List.not_mem_nil⟩, ?_⟩
  refine k _ ?_ ?_
  · exact fun j hj _ => (hd_keep hB' (Nat.lt_of_lt_of_le hj (by decide +kernel)) (by simp)).trans (hF j (Nat.lt_of_lt_of_le hj (by decide)))
  · exact hd_gi (x := .inr (.inl 69)) (by decide +kernel) b69
theorem ex_23_p0 {Ls : Nat} {xs : Nat → Int32} {d : Nat} {Q : Option Value → jm_h → Prop} (hd : 4 ≤ d) (F : Nat → sy_d) (X1 X2 : List jm_c) (hB : iv_in F iv_B4)
    (h0 : (sy_i F 6).toInt ≠ 0)
    (h1 : (sy_i F 6).toInt ≠ 0)
    (h2 : (sy_i F 6).toInt ≠ 0)
    (h3 : 0 < (sy_i F 6).toInt)
    (h4 : 0 < (sy_i F 6).toInt)
    (k : ∀ F1 : Nat → sy_d, (∀ j, j < 69 → True → F1 j = F j) → Q (none) (sy_dh F1 X1 X2 (iv_H 4))) :
    hd_W Ls xs d jm_M164 Q (23, sy_dL F [some (.inl (.ref 1000)), some (.inr (.inl 69)), some (.inl (.int 1))], sy_dS F [], sy_dh F X1 X2 (iv_H 4), 0, 0) := by
  refine hd_ret (s := 4) (nv := 70) (v := none) (uh := hd_ov (iv_id 0 iv_B4) []) (f := true) (sp := [23, 96]) (d0 := 3) (O := [true, true, true, false, false]) (T := []) (P := [(1, .inr (.inl 6), .inl (.int 0)), (1, .inr (.inl 6), .inl (.int 0)), (1, .inr (.inl 6), .inl (.int 0)), (5, .inr (.inl 6), .inl (.int 0)), (5, .inr (.inl 6), .inl (.int 0))]) jm_ok164 (by decide +kernel) (by decide +kernel) hd F X1 X2 (fun F' hF hs => ?_)
  have b6 := hd_b (F := F) (F' := F') (k := 6) (hF 6 (by decide))
  have hB' : iv_in F' iv_B4 := iv_in_eq hB (fun j hj => hF j (Nat.lt_of_lt_of_le hj (by decide +kernel)))
  refine ⟨List.forall_mem_cons.mpr ⟨hd_p1 b6 rfl (by have hc : ((0) : Int32).toInt = 0 := (by decide); omega), List.forall_mem_cons.mpr ⟨hd_p1 b6 rfl (by have hc : ((0) : Int32).toInt = 0 := (by decide); omega), List.forall_mem_cons.mpr ⟨hd_p1 b6 rfl (by have hc : ((0) : Int32).toInt = 0 := (by decide); omega), List.forall_mem_cons.mpr ⟨hd_p5 b6 rfl (by have hc : ((0) : Int32).toInt = 0 := (by decide); omega), List.forall_mem_cons.mpr ⟨hd_p5 b6 rfl (by have hc : ((0) : Int32).toInt = 0 := (by decide); omega), fun _ h => absurd h List.not_mem_nil⟩⟩⟩⟩⟩, ?_⟩
  refine k _ ?_
  · exact fun j hj _ => (hd_keep hB' (Nat.lt_of_lt_of_le hj (by decide +kernel)) (by simp)).trans (hF j (Nat.lt_of_lt_of_le hj (by decide)))
theorem ex_23_p1 {Ls : Nat} {xs : Nat → Int32} {d : Nat} {Q : Option Value → jm_h → Prop} (hd : 4 ≤ d) (F : Nat → sy_d) (X1 X2 : List jm_c) (hB : iv_in F iv_B4)
    (h0 : (sy_i F 6).toInt = 0)
    (h1 : 0 ≤ (sy_i F 4).toInt ∧ (sy_i F 4).toInt < 403)
    (h2 : ((sy_ai F 25).getD (sy_i F 4).toNatClampNeg 0).toInt ≠ 6)
    (h3 : (sy_i F 6).toInt = 0)
    (h4 : 0 ≤ (sy_i F 4).toInt ∧ (sy_i F 4).toInt < 403)
    (h5 : ((sy_ai F 25).getD (sy_i F 4).toNatClampNeg 0).toInt ≠ 2)
    (h6 : (sy_i F 6).toInt = 0)
    (h7 : 0 ≤ (sy_i F 4).toInt ∧ (sy_i F 4).toInt < 403)
    (h8 : ((sy_ai F 25).getD (sy_i F 4).toNatClampNeg 0).toInt < 34)
    (h9 : (sy_i F 6).toInt ≤ 0)
    (h10 : 0 ≤ (sy_i F 4).toInt ∧ (sy_i F 4).toInt < 403)
    (k : ∀ F1 : Nat → sy_d, (∀ j, j < 69 → j ≠ 6 ∧ j ≠ 7 → F1 j = F j) → F1 6 = .inl (.int ((1 : Int32))) → F1 7 = .inl (.int ((sy_ai F 26).getD (sy_i F 4).toNatClampNeg 0)) → Q (none) (sy_dh F1 X1 X2 (iv_H 4))) :
    hd_W Ls xs d jm_M164 Q (23, sy_dL F [some (.inl (.ref 1000)), some (.inr (.inl 69)), some (.inl (.int 1))], sy_dS F [], sy_dh F X1 X2 (iv_H 4), 0, 0) := by
  refine hd_ret (s := 4) (nv := 70) (v := none) (uh := hd_ov (iv_id 0 iv_B4) [(6, .inl (.inl (.int 1))), (7, .inl (.inr (.inl 73)))]) (f := true) (sp := [23, 96]) (d0 := 3) (O := [false, true, false, true, false, true, true]) (T := [(30, [.inr (.inl 4)], [.inr (.inl 25)]), (30, [.inr (.inl 4)], [.inr (.inl 25)]), (30, [.inr (.inl 4)], [.inr (.inl 25)]), (30, [.inr (.inl 4)], [.inr (.inl 26)])]) (P := [(0, .inr (.inl 6), .inl (.int 0)), (6, .inr (.inl 4), .inl (.ref 403)), (1, .inr (.inl 70), .inl (.int 6)), (0, .inr (.inl 6), .inl (.int 0)), (6, .inr (.inl 4), .inl (.ref 403)), (1, .inr (.inl 71), .inl (.int 2)), (0, .inr (.inl 6), .inl (.int 0)), (6, .inr (.inl 4), .inl (.ref 403)), (2, .inr (.inl 72), .inl (.int 34)), (4, .inr (.inl 6), .inl (.int 0)), (6, .inr (.inl 4), .inl (.ref 403))]) jm_ok164 (by decide +kernel) (by decide +kernel) hd F X1 X2 (fun F' hF hs => ?_)
  have b6 := hd_b (F := F) (F' := F') (k := 6) (hF 6 (by decide))
  have b4 := hd_b (F := F) (F' := F') (k := 4) (hF 4 (by decide))
  have a25 := hd_ba (F := F) (F' := F') (k := 25) (hF 25 (by decide))
  have t70 : sy_dv F' (.inr (.inl 70)) = .int ((sy_ai F 25).getD (sy_i F 4).toNatClampNeg 0) := hd_rd (hs 0 _ rfl) b4 a25
  have t71 : sy_dv F' (.inr (.inl 71)) = .int ((sy_ai F 25).getD (sy_i F 4).toNatClampNeg 0) := hd_rd (hs 1 _ rfl) b4 a25
  have t72 : sy_dv F' (.inr (.inl 72)) = .int ((sy_ai F 25).getD (sy_i F 4).toNatClampNeg 0) := hd_rd (hs 2 _ rfl) b4 a25
  have a26 := hd_ba (F := F) (F' := F') (k := 26) (hF 26 (by decide))
  have t73 : sy_dv F' (.inr (.inl 73)) = .int ((sy_ai F 26).getD (sy_i F 4).toNatClampNeg 0) := hd_rd (hs 3 _ rfl) b4 a26
  have hB' : iv_in F' iv_B4 := iv_in_eq hB (fun j hj => hF j (Nat.lt_of_lt_of_le hj (by decide +kernel)))
  refine ⟨List.forall_mem_cons.mpr ⟨hd_p0 b6 rfl (by have hc : ((0) : Int32).toInt = 0 := (by decide); omega), List.forall_mem_cons.mpr ⟨hd_pb b4 (by first | exact h1 | exact h1), List.forall_mem_cons.mpr ⟨hd_p1 t70 rfl (by have hc : ((6) : Int32).toInt = 6 := (by decide); omega), List.forall_mem_cons.mpr ⟨hd_p0 b6 rfl (by have hc : ((0) : Int32).toInt = 0 := (by decide); omega), List.forall_mem_cons.mpr ⟨hd_pb b4 (by first | exact h4 | exact h4), List.forall_mem_cons.mpr ⟨hd_p1 t71 rfl (by have hc : ((2) : Int32).toInt = 2 := (by decide); omega), List.forall_mem_cons.mpr ⟨hd_p0 b6 rfl (by have hc : ((0) : Int32).toInt = 0 := (by decide); omega), List.forall_mem_cons.mpr ⟨hd_pb b4 (by first | exact h7 | exact h7), List.forall_mem_cons.mpr ⟨hd_p2 t72 rfl (by have hc : ((34) : Int32).toInt = 34 := (by decide); omega), List.forall_mem_cons.mpr ⟨hd_p4 b6 rfl (by have hc : ((0) : Int32).toInt = 0 := (by decide); omega), List.forall_mem_cons.mpr ⟨hd_pb b4 (by first | exact h10 | exact h10), fun _ h => absurd h List.not_mem_nil⟩⟩⟩⟩⟩⟩⟩⟩⟩⟩⟩, ?_⟩
  refine k _ ?_ ?_ ?_
  · exact fun j hj hn => (hd_keep hB' (Nat.lt_of_lt_of_le hj (by decide +kernel)) (by simp; omega)).trans (hF j (Nat.lt_of_lt_of_le hj (by decide)))
  · exact hd_gi (x := .inl (.int 1)) (by decide +kernel) rfl
  · exact hd_gi (x := .inr (.inl 73)) (by decide +kernel) t73
theorem ex_23_p2 {Ls : Nat} {xs : Nat → Int32} {d : Nat} {Q : Option Value → jm_h → Prop} (hd : 4 ≤ d) (F : Nat → sy_d) (X1 X2 : List jm_c) (hB : iv_in F iv_B4)
    (h0 : (sy_i F 6).toInt = 0)
    (h1 : 0 ≤ (sy_i F 4).toInt ∧ (sy_i F 4).toInt < 403)
    (h2 : ((sy_ai F 25).getD (sy_i F 4).toNatClampNeg 0).toInt ≠ 6)
    (h3 : (sy_i F 6).toInt = 0)
    (h4 : 0 ≤ (sy_i F 4).toInt ∧ (sy_i F 4).toInt < 403)
    (h5 : ((sy_ai F 25).getD (sy_i F 4).toNatClampNeg 0).toInt ≠ 2)
    (h6 : (sy_i F 6).toInt = 0)
    (h7 : 0 ≤ (sy_i F 4).toInt ∧ (sy_i F 4).toInt < 403)
    (h8 : 34 ≤ ((sy_ai F 25).getD (sy_i F 4).toNatClampNeg 0).toInt)
    (h9 : 0 ≤ (sy_i F 4).toInt ∧ (sy_i F 4).toInt < 403)
    (h10 : ((sy_ai F 25).getD (sy_i F 4).toNatClampNeg 0).toInt ≤ 42)
    (h11 : 0 ≤ (sy_i F 4).toInt ∧ (sy_i F 4).toInt < 403)
    (h12 : 0 ≤ (sy_i F 15).toInt ∧ (sy_i F 15).toInt < 840)
    (h13 : 0 ≤ (sy_i F 15).toInt ∧ (sy_i F 15).toInt < 840)
    (h14 : (sy_i F 4).toInt ≠ 400)
    (h15 : (sy_i F 6).toInt ≤ 0)
    (k : ∀ F1 : Nat → sy_d, (∀ j, j < 69 → j ≠ 4 ∧ j ≠ 15 ∧ j ≠ 49 ∧ j ≠ 50 → F1 j = F j) → F1 4 = .inl (.int ((sy_i F 4) + ((1 : Int32)))) → F1 15 = .inl (.int ((sy_i F 15) + ((1 : Int32)))) → F1 49 = .inr (.inl (jm_upd (sy_ai F 49) (sy_i F 15).toNatClampNeg ((1 : Int32)))) → F1 50 = .inr (.inl (jm_upd (sy_ai F 50) (sy_i F 15).toNatClampNeg (((sy_ai F 25).getD (sy_i F 4).toNatClampNeg 0) - ((34 : Int32))))) → F1 69 = .inl (.int (sy_i F 69)) → hd_W Ls xs d jm_M164 Q (96, sy_dL F1 [some (.inl (.ref 1000)), some (.inr (.inl 69)), some (.inl (.int 1))], sy_dS F1 [], sy_dh F1 X1 X2 (iv_H 4), 0, 0)) :
    hd_W Ls xs d jm_M164 Q (23, sy_dL F [some (.inl (.ref 1000)), some (.inr (.inl 69)), some (.inl (.int 1))], sy_dS F [], sy_dh F X1 X2 (iv_H 4), 0, 0) := by
  refine hd_run (s := 4) (nv := 70) (pc := 96) (L := [some (.inl (.ref 1000)), some (.inr (.inl 69)), some (.inl (.int 1))]) (S := []) (uh := hd_ov (iv_id 0 iv_B4) [(4, .inl (.inr (.inl 79))), (15, .inl (.inr (.inl 78))), (49, .inr (.inr (.inl 76))), (50, .inr (.inr (.inl 77)))]) (ul := [.inl (.inr (.inl 69))]) (f := true) (sp := [23, 96]) (d0 := 3) (O := [false, true, false, true, false, false, false, true, true]) (T := [(30, [.inr (.inl 4)], [.inr (.inl 25)]), (30, [.inr (.inl 4)], [.inr (.inl 25)]), (30, [.inr (.inl 4)], [.inr (.inl 25)]), (30, [.inr (.inl 4)], [.inr (.inl 25)]), (30, [.inr (.inl 4)], [.inr (.inl 25)]), (1, [.inr (.inl 74), .inl (.int 34)], []), (40, [.inr (.inl 15), .inl (.int 1)], [.inr (.inl 49)]), (40, [.inr (.inl 15), .inr (.inl 75)], [.inr (.inl 50)]), (0, [.inr (.inl 15), .inl (.int 1)], []), (0, [.inr (.inl 4), .inl (.int 1)], [])]) (P := [(0, .inr (.inl 6), .inl (.int 0)), (6, .inr (.inl 4), .inl (.ref 403)), (1, .inr (.inl 70), .inl (.int 6)), (0, .inr (.inl 6), .inl (.int 0)), (6, .inr (.inl 4), .inl (.ref 403)), (1, .inr (.inl 71), .inl (.int 2)), (0, .inr (.inl 6), .inl (.int 0)), (6, .inr (.inl 4), .inl (.ref 403)), (3, .inr (.inl 72), .inl (.int 34)), (6, .inr (.inl 4), .inl (.ref 403)), (3, .inl (.int 42), .inr (.inl 73)), (6, .inr (.inl 4), .inl (.ref 403)), (6, .inr (.inl 15), .inl (.ref 840)), (6, .inr (.inl 15), .inl (.ref 840)), (1, .inr (.inl 4), .inl (.int 400)), (4, .inr (.inl 6), .inl (.int 0))]) jm_ok164 (by decide +kernel) (by decide +kernel) hd F X1 X2 (fun F' hF hs => ?_)
  have b6 := hd_b (F := F) (F' := F') (k := 6) (hF 6 (by decide))
  have b4 := hd_b (F := F) (F' := F') (k := 4) (hF 4 (by decide))
  have a25 := hd_ba (F := F) (F' := F') (k := 25) (hF 25 (by decide))
  have t70 : sy_dv F' (.inr (.inl 70)) = .int ((sy_ai F 25).getD (sy_i F 4).toNatClampNeg 0) := hd_rd (hs 0 _ rfl) b4 a25
  have t71 : sy_dv F' (.inr (.inl 71)) = .int ((sy_ai F 25).getD (sy_i F 4).toNatClampNeg 0) := hd_rd (hs 1 _ rfl) b4 a25
  have t72 : sy_dv F' (.inr (.inl 72)) = .int ((sy_ai F 25).getD (sy_i F 4).toNatClampNeg 0) := hd_rd (hs 2 _ rfl) b4 a25
  have t73 : sy_dv F' (.inr (.inl 73)) = .int ((sy_ai F 25).getD (sy_i F 4).toNatClampNeg 0) := hd_rd (hs 3 _ rfl) b4 a25
  have b15 := hd_b (F := F) (F' := F') (k := 15) (hF 15 (by decide))
  have t79 : sy_dv F' (.inr (.inl 79)) = .int ((sy_i F 4) + ((1 : Int32))) := hd_o (hs 9 _ rfl) b4 rfl rfl
  have t78 : sy_dv F' (.inr (.inl 78)) = .int ((sy_i F 15) + ((1 : Int32))) := hd_o (hs 8 _ rfl) b15 rfl rfl
  have a49 := hd_ba (F := F) (F' := F') (k := 49) (hF 49 (by decide))
  have t76 : sy_da F' (.inr (.inl 76)) = .inl (jm_upd (sy_ai F 49) (sy_i F 15).toNatClampNeg ((1 : Int32))) := hd_up (hs 6 _ rfl) b15 rfl a49
  have t74 : sy_dv F' (.inr (.inl 74)) = .int ((sy_ai F 25).getD (sy_i F 4).toNatClampNeg 0) := hd_rd (hs 4 _ rfl) b4 a25
  have t75 : sy_dv F' (.inr (.inl 75)) = .int (((sy_ai F 25).getD (sy_i F 4).toNatClampNeg 0) - ((34 : Int32))) := hd_o (hs 5 _ rfl) t74 rfl rfl
  have a50 := hd_ba (F := F) (F' := F') (k := 50) (hF 50 (by decide))
  have t77 : sy_da F' (.inr (.inl 77)) = .inl (jm_upd (sy_ai F 50) (sy_i F 15).toNatClampNeg (((sy_ai F 25).getD (sy_i F 4).toNatClampNeg 0) - ((34 : Int32)))) := hd_up (hs 7 _ rfl) b15 t75 a50
  have b69 := hd_b (F := F) (F' := F') (k := 69) (hF 69 (by decide))
  have hB' : iv_in F' iv_B4 := iv_in_eq hB (fun j hj => hF j (Nat.lt_of_lt_of_le hj (by decide +kernel)))
  refine ⟨List.forall_mem_cons.mpr ⟨hd_p0 b6 rfl (by have hc : ((0) : Int32).toInt = 0 := (by decide); omega), List.forall_mem_cons.mpr ⟨hd_pb b4 (by first | exact h1 | exact h1), List.forall_mem_cons.mpr ⟨hd_p1 t70 rfl (by have hc : ((6) : Int32).toInt = 6 := (by decide); omega), List.forall_mem_cons.mpr ⟨hd_p0 b6 rfl (by have hc : ((0) : Int32).toInt = 0 := (by decide); omega), List.forall_mem_cons.mpr ⟨hd_pb b4 (by first | exact h4 | exact h4), List.forall_mem_cons.mpr ⟨hd_p1 t71 rfl (by have hc : ((2) : Int32).toInt = 2 := (by decide); omega), List.forall_mem_cons.mpr ⟨hd_p0 b6 rfl (by have hc : ((0) : Int32).toInt = 0 := (by decide); omega), List.forall_mem_cons.mpr ⟨hd_pb b4 (by first | exact h7 | exact h7), List.forall_mem_cons.mpr ⟨hd_p3 t72 rfl (by have hc : ((34) : Int32).toInt = 34 := (by decide); omega), List.forall_mem_cons.mpr ⟨hd_pb b4 (by first | exact h9 | exact h9), List.forall_mem_cons.mpr ⟨hd_p3 rfl t73 (by have hc : ((42) : Int32).toInt = 42 := (by decide); omega), List.forall_mem_cons.mpr ⟨hd_pb b4 (by first | exact h11 | exact h11), List.forall_mem_cons.mpr ⟨hd_pb b15 (by first | exact h12 | exact h12), List.forall_mem_cons.mpr ⟨hd_pb b15 (by first | exact h13 | exact h13), List.forall_mem_cons.mpr ⟨hd_p1 b4 rfl (by have hc : ((400) : Int32).toInt = 400 := (by decide); omega), List.forall_mem_cons.mpr ⟨hd_p4 b6 rfl (by have hc : ((0) : Int32).toInt = 0 := (by decide); omega), fun _ h => absurd h List.not_mem_nil⟩⟩⟩⟩⟩⟩⟩⟩⟩⟩⟩⟩⟩⟩⟩⟩, ?_⟩
  refine k _ ?_ ?_ ?_ ?_ ?_ ?_
  · exact fun j hj hn => (hd_keep hB' (Nat.lt_of_lt_of_le hj (by decide +kernel)) (by simp; omega)).trans (hF j (Nat.lt_of_lt_of_le hj (by decide)))
  · exact hd_gi (x := .inr (.inl 79)) (by decide +kernel) t79
  · exact hd_gi (x := .inr (.inl 78)) (by decide +kernel) t78
  · exact hd_ga (a := .inr (.inl 76)) (by decide +kernel) t76
  · exact hd_ga (a := .inr (.inl 77)) (by decide +kernel) t77
  · exact hd_gi (x := .inr (.inl 69)) (by decide +kernel) b69
theorem ex_23_p3 {Ls : Nat} {xs : Nat → Int32} {d : Nat} {Q : Option Value → jm_h → Prop} (hd : 4 ≤ d) (F : Nat → sy_d) (X1 X2 : List jm_c) (hB : iv_in F iv_B4)
    (h0 : (sy_i F 6).toInt = 0)
    (h1 : 0 ≤ (sy_i F 4).toInt ∧ (sy_i F 4).toInt < 403)
    (h2 : ((sy_ai F 25).getD (sy_i F 4).toNatClampNeg 0).toInt ≠ 6)
    (h3 : (sy_i F 6).toInt = 0)
    (h4 : 0 ≤ (sy_i F 4).toInt ∧ (sy_i F 4).toInt < 403)
    (h5 : ((sy_ai F 25).getD (sy_i F 4).toNatClampNeg 0).toInt ≠ 2)
    (h6 : (sy_i F 6).toInt = 0)
    (h7 : 0 ≤ (sy_i F 4).toInt ∧ (sy_i F 4).toInt < 403)
    (h8 : 34 ≤ ((sy_ai F 25).getD (sy_i F 4).toNatClampNeg 0).toInt)
    (h9 : 0 ≤ (sy_i F 4).toInt ∧ (sy_i F 4).toInt < 403)
    (h10 : ((sy_ai F 25).getD (sy_i F 4).toNatClampNeg 0).toInt ≤ 42)
    (h11 : 0 ≤ (sy_i F 4).toInt ∧ (sy_i F 4).toInt < 403)
    (h12 : 0 ≤ (sy_i F 15).toInt ∧ (sy_i F 15).toInt < 840)
    (h13 : 0 ≤ (sy_i F 15).toInt ∧ (sy_i F 15).toInt < 840)
    (h14 : (sy_i F 4).toInt = 400)
    (h15 : (sy_i F 6).toInt ≤ 0)
    (h16 : 0 ≤ (sy_i F 4).toInt ∧ (sy_i F 4).toInt < 403)
    (k : ∀ F1 : Nat → sy_d, (∀ j, j < 69 → j ≠ 6 ∧ j ≠ 7 ∧ j ≠ 15 ∧ j ≠ 49 ∧ j ≠ 50 → F1 j = F j) → F1 6 = .inl (.int ((2 : Int32))) → F1 7 = .inl (.int ((sy_ai F 26).getD (sy_i F 4).toNatClampNeg 0)) → F1 15 = .inl (.int ((sy_i F 15) + ((1 : Int32)))) → F1 49 = .inr (.inl (jm_upd (sy_ai F 49) (sy_i F 15).toNatClampNeg ((1 : Int32)))) → F1 50 = .inr (.inl (jm_upd (sy_ai F 50) (sy_i F 15).toNatClampNeg (((sy_ai F 25).getD (sy_i F 4).toNatClampNeg 0) - ((34 : Int32))))) → Q (none) (sy_dh F1 X1 X2 (iv_H 4))) :
    hd_W Ls xs d jm_M164 Q (23, sy_dL F [some (.inl (.ref 1000)), some (.inr (.inl 69)), some (.inl (.int 1))], sy_dS F [], sy_dh F X1 X2 (iv_H 4), 0, 0) := by
  refine hd_ret (s := 4) (nv := 70) (v := none) (uh := hd_ov (iv_id 0 iv_B4) [(6, .inl (.inl (.int 2))), (7, .inl (.inr (.inl 79))), (15, .inl (.inr (.inl 78))), (49, .inr (.inr (.inl 76))), (50, .inr (.inr (.inl 77)))]) (f := true) (sp := [23, 96]) (d0 := 3) (O := [false, true, false, true, false, false, false, false, true]) (T := [(30, [.inr (.inl 4)], [.inr (.inl 25)]), (30, [.inr (.inl 4)], [.inr (.inl 25)]), (30, [.inr (.inl 4)], [.inr (.inl 25)]), (30, [.inr (.inl 4)], [.inr (.inl 25)]), (30, [.inr (.inl 4)], [.inr (.inl 25)]), (1, [.inr (.inl 74), .inl (.int 34)], []), (40, [.inr (.inl 15), .inl (.int 1)], [.inr (.inl 49)]), (40, [.inr (.inl 15), .inr (.inl 75)], [.inr (.inl 50)]), (0, [.inr (.inl 15), .inl (.int 1)], []), (30, [.inr (.inl 4)], [.inr (.inl 26)])]) (P := [(0, .inr (.inl 6), .inl (.int 0)), (6, .inr (.inl 4), .inl (.ref 403)), (1, .inr (.inl 70), .inl (.int 6)), (0, .inr (.inl 6), .inl (.int 0)), (6, .inr (.inl 4), .inl (.ref 403)), (1, .inr (.inl 71), .inl (.int 2)), (0, .inr (.inl 6), .inl (.int 0)), (6, .inr (.inl 4), .inl (.ref 403)), (3, .inr (.inl 72), .inl (.int 34)), (6, .inr (.inl 4), .inl (.ref 403)), (3, .inl (.int 42), .inr (.inl 73)), (6, .inr (.inl 4), .inl (.ref 403)), (6, .inr (.inl 15), .inl (.ref 840)), (6, .inr (.inl 15), .inl (.ref 840)), (0, .inr (.inl 4), .inl (.int 400)), (4, .inr (.inl 6), .inl (.int 0)), (6, .inr (.inl 4), .inl (.ref 403))]) jm_ok164 (by decide +kernel) (by decide +kernel) hd F X1 X2 (fun F' hF hs => ?_)
  have b6 := hd_b (F := F) (F' := F') (k := 6) (hF 6 (by decide))
  have b4 := hd_b (F := F) (F' := F') (k := 4) (hF 4 (by decide))
  have a25 := hd_ba (F := F) (F' := F') (k := 25) (hF 25 (by decide))
  have t70 : sy_dv F' (.inr (.inl 70)) = .int ((sy_ai F 25).getD (sy_i F 4).toNatClampNeg 0) := hd_rd (hs 0 _ rfl) b4 a25
  have t71 : sy_dv F' (.inr (.inl 71)) = .int ((sy_ai F 25).getD (sy_i F 4).toNatClampNeg 0) := hd_rd (hs 1 _ rfl) b4 a25
  have t72 : sy_dv F' (.inr (.inl 72)) = .int ((sy_ai F 25).getD (sy_i F 4).toNatClampNeg 0) := hd_rd (hs 2 _ rfl) b4 a25
  have t73 : sy_dv F' (.inr (.inl 73)) = .int ((sy_ai F 25).getD (sy_i F 4).toNatClampNeg 0) := hd_rd (hs 3 _ rfl) b4 a25
  have b15 := hd_b (F := F) (F' := F') (k := 15) (hF 15 (by decide))
  have a26 := hd_ba (F := F) (F' := F') (k := 26) (hF 26 (by decide))
  have t79 : sy_dv F' (.inr (.inl 79)) = .int ((sy_ai F 26).getD (sy_i F 4).toNatClampNeg 0) := hd_rd (hs 9 _ rfl) b4 a26
  have t78 : sy_dv F' (.inr (.inl 78)) = .int ((sy_i F 15) + ((1 : Int32))) := hd_o (hs 8 _ rfl) b15 rfl rfl
  have a49 := hd_ba (F := F) (F' := F') (k := 49) (hF 49 (by decide))
  have t76 : sy_da F' (.inr (.inl 76)) = .inl (jm_upd (sy_ai F 49) (sy_i F 15).toNatClampNeg ((1 : Int32))) := hd_up (hs 6 _ rfl) b15 rfl a49
  have t74 : sy_dv F' (.inr (.inl 74)) = .int ((sy_ai F 25).getD (sy_i F 4).toNatClampNeg 0) := hd_rd (hs 4 _ rfl) b4 a25
  have t75 : sy_dv F' (.inr (.inl 75)) = .int (((sy_ai F 25).getD (sy_i F 4).toNatClampNeg 0) - ((34 : Int32))) := hd_o (hs 5 _ rfl) t74 rfl rfl
  have a50 := hd_ba (F := F) (F' := F') (k := 50) (hF 50 (by decide))
  have t77 : sy_da F' (.inr (.inl 77)) = .inl (jm_upd (sy_ai F 50) (sy_i F 15).toNatClampNeg (((sy_ai F 25).getD (sy_i F 4).toNatClampNeg 0) - ((34 : Int32)))) := hd_up (hs 7 _ rfl) b15 t75 a50
  have hB' : iv_in F' iv_B4 := iv_in_eq hB (fun j hj => hF j (Nat.lt_of_lt_of_le hj (by decide +kernel)))
  refine ⟨List.forall_mem_cons.mpr ⟨hd_p0 b6 rfl (by have hc : ((0) : Int32).toInt = 0 := (by decide); omega), List.forall_mem_cons.mpr ⟨hd_pb b4 (by first | exact h1 | exact h1), List.forall_mem_cons.mpr ⟨hd_p1 t70 rfl (by have hc : ((6) : Int32).toInt = 6 := (by decide); omega), List.forall_mem_cons.mpr ⟨hd_p0 b6 rfl (by have hc : ((0) : Int32).toInt = 0 := (by decide); omega), List.forall_mem_cons.mpr ⟨hd_pb b4 (by first | exact h4 | exact h4), List.forall_mem_cons.mpr ⟨hd_p1 t71 rfl (by have hc : ((2) : Int32).toInt = 2 := (by decide); omega), List.forall_mem_cons.mpr ⟨hd_p0 b6 rfl (by have hc : ((0) : Int32).toInt = 0 := (by decide); omega), List.forall_mem_cons.mpr ⟨hd_pb b4 (by first | exact h7 | exact h7), List.forall_mem_cons.mpr ⟨hd_p3 t72 rfl (by have hc : ((34) : Int32).toInt = 34 := (by decide); omega), List.forall_mem_cons.mpr ⟨hd_pb b4 (by first | exact h9 | exact h9), List.forall_mem_cons.mpr ⟨hd_p3 rfl t73 (by have hc : ((42) : Int32).toInt = 42 := (by decide); omega), List.forall_mem_cons.mpr ⟨hd_pb b4 (by first | exact h11 | exact h11), List.forall_mem_cons.mpr ⟨hd_pb b15 (by first | exact h12 | exact h12), List.forall_mem_cons.mpr ⟨hd_pb b15 (by first | exact h13 | exact h13), List.forall_mem_cons.mpr ⟨hd_p0 b4 rfl (by have hc : ((400) : Int32).toInt = 400 := (by decide); omega), List.forall_mem_cons.mpr ⟨hd_p4 b6 rfl (by have hc : ((0) : Int32).toInt = 0 := (by decide); omega), List.forall_mem_cons.mpr ⟨hd_pb b4 (by first | exact h16 | exact h16), fun _ h => absurd h List.not_mem_nil⟩⟩⟩⟩⟩⟩⟩⟩⟩⟩⟩⟩⟩⟩⟩⟩⟩, ?_⟩
  refine k _ ?_ ?_ ?_ ?_ ?_ ?_
  · exact fun j hj hn => (hd_keep hB' (Nat.lt_of_lt_of_le hj (by decide +kernel)) (by simp; omega)).trans (hF j (Nat.lt_of_lt_of_le hj (by decide)))
  · exact hd_gi (x := .inl (.int 2)) (by decide +kernel) rfl
  · exact hd_gi (x := .inr (.inl 79)) (by decide +kernel) t79
  · exact hd_gi (x := .inr (.inl 78)) (by decide +kernel) t78
  · exact hd_ga (a := .inr (.inl 76)) (by decide +kernel) t76
  · exact hd_ga (a := .inr (.inl 77)) (by decide +kernel) t77
theorem ex_23_p4 {Ls : Nat} {xs : Nat → Int32} {d : Nat} {Q : Option Value → jm_h → Prop} (hd : 4 ≤ d) (F : Nat → sy_d) (X1 X2 : List jm_c) (hB : iv_in F iv_B4)
    (h0 : (sy_i F 6).toInt = 0)
    (h1 : 0 ≤ (sy_i F 4).toInt ∧ (sy_i F 4).toInt < 403)
    (h2 : ((sy_ai F 25).getD (sy_i F 4).toNatClampNeg 0).toInt ≠ 6)
    (h3 : (sy_i F 6).toInt = 0)
    (h4 : 0 ≤ (sy_i F 4).toInt ∧ (sy_i F 4).toInt < 403)
    (h5 : ((sy_ai F 25).getD (sy_i F 4).toNatClampNeg 0).toInt = 2)
    (h6 : 0 ≤ (sy_i F 4).toInt ∧ (sy_i F 4).toInt < 403)
    (h7 : 0 ≤ (sy_i F 15).toInt ∧ (sy_i F 15).toInt < 840)
    (h8 : 0 ≤ (sy_i F 15).toInt ∧ (sy_i F 15).toInt < 840)
    (h9 : (sy_i F 4).toInt ≠ 400)
    (h10 : (sy_i F 6).toInt ≤ 0)
    (k : ∀ F1 : Nat → sy_d, (∀ j, j < 69 → j ≠ 4 ∧ j ≠ 15 ∧ j ≠ 49 ∧ j ≠ 50 → F1 j = F j) → F1 4 = .inl (.int ((sy_i F 4) + ((1 : Int32)))) → F1 15 = .inl (.int ((sy_i F 15) + ((1 : Int32)))) → F1 49 = .inr (.inl (jm_upd (sy_ai F 49) (sy_i F 15).toNatClampNeg ((0 : Int32)))) → F1 50 = .inr (.inl (jm_upd (sy_ai F 50) (sy_i F 15).toNatClampNeg ((sy_ai F 27).getD (sy_i F 4).toNatClampNeg 0))) → F1 69 = .inl (.int (sy_i F 69)) → hd_W Ls xs d jm_M164 Q (96, sy_dL F1 [some (.inl (.ref 1000)), some (.inr (.inl 69)), some (.inl (.int 1))], sy_dS F1 [], sy_dh F1 X1 X2 (iv_H 4), 0, 0)) :
    hd_W Ls xs d jm_M164 Q (23, sy_dL F [some (.inl (.ref 1000)), some (.inr (.inl 69)), some (.inl (.int 1))], sy_dS F [], sy_dh F X1 X2 (iv_H 4), 0, 0) := by
  refine hd_run (s := 4) (nv := 70) (pc := 96) (L := [some (.inl (.ref 1000)), some (.inr (.inl 69)), some (.inl (.int 1))]) (S := []) (uh := hd_ov (iv_id 0 iv_B4) [(4, .inl (.inr (.inl 76))), (15, .inl (.inr (.inl 75))), (49, .inr (.inr (.inl 73))), (50, .inr (.inr (.inl 74)))]) (ul := [.inl (.inr (.inl 69))]) (f := true) (sp := [23, 96]) (d0 := 3) (O := [false, true, false, false, true, true]) (T := [(30, [.inr (.inl 4)], [.inr (.inl 25)]), (30, [.inr (.inl 4)], [.inr (.inl 25)]), (30, [.inr (.inl 4)], [.inr (.inl 27)]), (40, [.inr (.inl 15), .inl (.int 0)], [.inr (.inl 49)]), (40, [.inr (.inl 15), .inr (.inl 72)], [.inr (.inl 50)]), (0, [.inr (.inl 15), .inl (.int 1)], []), (0, [.inr (.inl 4), .inl (.int 1)], [])]) (P := [(0, .inr (.inl 6), .inl (.int 0)), (6, .inr (.inl 4), .inl (.ref 403)), (1, .inr (.inl 70), .inl (.int 6)), (0, .inr (.inl 6), .inl (.int 0)), (6, .inr (.inl 4), .inl (.ref 403)), (0, .inr (.inl 71), .inl (.int 2)), (6, .inr (.inl 4), .inl (.ref 403)), (6, .inr (.inl 15), .inl (.ref 840)), (6, .inr (.inl 15), .inl (.ref 840)), (1, .inr (.inl 4), .inl (.int 400)), (4, .inr (.inl 6), .inl (.int 0))]) jm_ok164 (by decide +kernel) (by decide +kernel) hd F X1 X2 (fun F' hF hs => ?_)
  have b6 := hd_b (F := F) (F' := F') (k := 6) (hF 6 (by decide))
  have b4 := hd_b (F := F) (F' := F') (k := 4) (hF 4 (by decide))
  have a25 := hd_ba (F := F) (F' := F') (k := 25) (hF 25 (by decide))
  have t70 : sy_dv F' (.inr (.inl 70)) = .int ((sy_ai F 25).getD (sy_i F 4).toNatClampNeg 0) := hd_rd (hs 0 _ rfl) b4 a25
  have t71 : sy_dv F' (.inr (.inl 71)) = .int ((sy_ai F 25).getD (sy_i F 4).toNatClampNeg 0) := hd_rd (hs 1 _ rfl) b4 a25
  have b15 := hd_b (F := F) (F' := F') (k := 15) (hF 15 (by decide))
  have t76 : sy_dv F' (.inr (.inl 76)) = .int ((sy_i F 4) + ((1 : Int32))) := hd_o (hs 6 _ rfl) b4 rfl rfl
  have t75 : sy_dv F' (.inr (.inl 75)) = .int ((sy_i F 15) + ((1 : Int32))) := hd_o (hs 5 _ rfl) b15 rfl rfl
  have a49 := hd_ba (F := F) (F' := F') (k := 49) (hF 49 (by decide))
  have t73 : sy_da F' (.inr (.inl 73)) = .inl (jm_upd (sy_ai F 49) (sy_i F 15).toNatClampNeg ((0 : Int32))) := hd_up (hs 3 _ rfl) b15 rfl a49
  have a27 := hd_ba (F := F) (F' := F') (k := 27) (hF 27 (by decide))
  have t72 : sy_dv F' (.inr (.inl 72)) = .int ((sy_ai F 27).getD (sy_i F 4).toNatClampNeg 0) := hd_rd (hs 2 _ rfl) b4 a27
  have a50 := hd_ba (F := F) (F' := F') (k := 50) (hF 50 (by decide))
  have t74 : sy_da F' (.inr (.inl 74)) = .inl (jm_upd (sy_ai F 50) (sy_i F 15).toNatClampNeg ((sy_ai F 27).getD (sy_i F 4).toNatClampNeg 0)) := hd_up (hs 4 _ rfl) b15 t72 a50
  have b69 := hd_b (F := F) (F' := F') (k := 69) (hF 69 (by decide))
  have hB' : iv_in F' iv_B4 := iv_in_eq hB (fun j hj => hF j (Nat.lt_of_lt_of_le hj (by decide +kernel)))
  refine ⟨List.forall_mem_cons.mpr ⟨hd_p0 b6 rfl (by have hc : ((0) : Int32).toInt = 0 := (by decide); omega), List.forall_mem_cons.mpr ⟨hd_pb b4 (by first | exact h1 | exact h1), List.forall_mem_cons.mpr ⟨hd_p1 t70 rfl (by have hc : ((6) : Int32).toInt = 6 := (by decide); omega), List.forall_mem_cons.mpr ⟨hd_p0 b6 rfl (by have hc : ((0) : Int32).toInt = 0 := (by decide); omega), List.forall_mem_cons.mpr ⟨hd_pb b4 (by first | exact h4 | exact h4), List.forall_mem_cons.mpr ⟨hd_p0 t71 rfl (by have hc : ((2) : Int32).toInt = 2 := (by decide); omega), List.forall_mem_cons.mpr ⟨hd_pb b4 (by first | exact h6 | exact h6), List.forall_mem_cons.mpr ⟨hd_pb b15 (by first | exact h7 | exact h7), List.forall_mem_cons.mpr ⟨hd_pb b15 (by first | exact h8 | exact h8), List.forall_mem_cons.mpr ⟨hd_p1 b4 rfl (by have hc : ((400) : Int32).toInt = 400 := (by decide); omega), List.forall_mem_cons.mpr ⟨hd_p4 b6 rfl (by have hc : ((0) : Int32).toInt = 0 := (by decide); omega), fun _ h => absurd h List.not_mem_nil⟩⟩⟩⟩⟩⟩⟩⟩⟩⟩⟩, ?_⟩
  refine k _ ?_ ?_ ?_ ?_ ?_ ?_
  · exact fun j hj hn => (hd_keep hB' (Nat.lt_of_lt_of_le hj (by decide +kernel)) (by simp; omega)).trans (hF j (Nat.lt_of_lt_of_le hj (by decide)))
  · exact hd_gi (x := .inr (.inl 76)) (by decide +kernel) t76
  · exact hd_gi (x := .inr (.inl 75)) (by decide +kernel) t75
  · exact hd_ga (a := .inr (.inl 73)) (by decide +kernel) t73
  · exact hd_ga (a := .inr (.inl 74)) (by decide +kernel) t74
  · exact hd_gi (x := .inr (.inl 69)) (by decide +kernel) b69
theorem ex_23_p5 {Ls : Nat} {xs : Nat → Int32} {d : Nat} {Q : Option Value → jm_h → Prop} (hd : 4 ≤ d) (F : Nat → sy_d) (X1 X2 : List jm_c) (hB : iv_in F iv_B4)
    (h0 : (sy_i F 6).toInt = 0)
    (h1 : 0 ≤ (sy_i F 4).toInt ∧ (sy_i F 4).toInt < 403)
    (h2 : ((sy_ai F 25).getD (sy_i F 4).toNatClampNeg 0).toInt ≠ 6)
    (h3 : (sy_i F 6).toInt = 0)
    (h4 : 0 ≤ (sy_i F 4).toInt ∧ (sy_i F 4).toInt < 403)
    (h5 : ((sy_ai F 25).getD (sy_i F 4).toNatClampNeg 0).toInt = 2)
    (h6 : 0 ≤ (sy_i F 4).toInt ∧ (sy_i F 4).toInt < 403)
    (h7 : 0 ≤ (sy_i F 15).toInt ∧ (sy_i F 15).toInt < 840)
    (h8 : 0 ≤ (sy_i F 15).toInt ∧ (sy_i F 15).toInt < 840)
    (h9 : (sy_i F 4).toInt = 400)
    (h10 : (sy_i F 6).toInt ≤ 0)
    (h11 : 0 ≤ (sy_i F 4).toInt ∧ (sy_i F 4).toInt < 403)
    (k : ∀ F1 : Nat → sy_d, (∀ j, j < 69 → j ≠ 6 ∧ j ≠ 7 ∧ j ≠ 15 ∧ j ≠ 49 ∧ j ≠ 50 → F1 j = F j) → F1 6 = .inl (.int ((2 : Int32))) → F1 7 = .inl (.int ((sy_ai F 26).getD (sy_i F 4).toNatClampNeg 0)) → F1 15 = .inl (.int ((sy_i F 15) + ((1 : Int32)))) → F1 49 = .inr (.inl (jm_upd (sy_ai F 49) (sy_i F 15).toNatClampNeg ((0 : Int32)))) → F1 50 = .inr (.inl (jm_upd (sy_ai F 50) (sy_i F 15).toNatClampNeg ((sy_ai F 27).getD (sy_i F 4).toNatClampNeg 0))) → Q (none) (sy_dh F1 X1 X2 (iv_H 4))) :
    hd_W Ls xs d jm_M164 Q (23, sy_dL F [some (.inl (.ref 1000)), some (.inr (.inl 69)), some (.inl (.int 1))], sy_dS F [], sy_dh F X1 X2 (iv_H 4), 0, 0) := by
  refine hd_ret (s := 4) (nv := 70) (v := none) (uh := hd_ov (iv_id 0 iv_B4) [(6, .inl (.inl (.int 2))), (7, .inl (.inr (.inl 76))), (15, .inl (.inr (.inl 75))), (49, .inr (.inr (.inl 73))), (50, .inr (.inr (.inl 74)))]) (f := true) (sp := [23, 96]) (d0 := 3) (O := [false, true, false, false, false, true]) (T := [(30, [.inr (.inl 4)], [.inr (.inl 25)]), (30, [.inr (.inl 4)], [.inr (.inl 25)]), (30, [.inr (.inl 4)], [.inr (.inl 27)]), (40, [.inr (.inl 15), .inl (.int 0)], [.inr (.inl 49)]), (40, [.inr (.inl 15), .inr (.inl 72)], [.inr (.inl 50)]), (0, [.inr (.inl 15), .inl (.int 1)], []), (30, [.inr (.inl 4)], [.inr (.inl 26)])]) (P := [(0, .inr (.inl 6), .inl (.int 0)), (6, .inr (.inl 4), .inl (.ref 403)), (1, .inr (.inl 70), .inl (.int 6)), (0, .inr (.inl 6), .inl (.int 0)), (6, .inr (.inl 4), .inl (.ref 403)), (0, .inr (.inl 71), .inl (.int 2)), (6, .inr (.inl 4), .inl (.ref 403)), (6, .inr (.inl 15), .inl (.ref 840)), (6, .inr (.inl 15), .inl (.ref 840)), (0, .inr (.inl 4), .inl (.int 400)), (4, .inr (.inl 6), .inl (.int 0)), (6, .inr (.inl 4), .inl (.ref 403))]) jm_ok164 (by decide +kernel) (by decide +kernel) hd F X1 X2 (fun F' hF hs => ?_)
  have b6 := hd_b (F := F) (F' := F') (k := 6) (hF 6 (by decide))
  have b4 := hd_b (F := F) (F' := F') (k := 4) (hF 4 (by decide))
  have a25 := hd_ba (F := F) (F' := F') (k := 25) (hF 25 (by decide))
  have t70 : sy_dv F' (.inr (.inl 70)) = .int ((sy_ai F 25).getD (sy_i F 4).toNatClampNeg 0) := hd_rd (hs 0 _ rfl) b4 a25
  have t71 : sy_dv F' (.inr (.inl 71)) = .int ((sy_ai F 25).getD (sy_i F 4).toNatClampNeg 0) := hd_rd (hs 1 _ rfl) b4 a25
  have b15 := hd_b (F := F) (F' := F') (k := 15) (hF 15 (by decide))
  have a26 := hd_ba (F := F) (F' := F') (k := 26) (hF 26 (by decide))
  have t76 : sy_dv F' (.inr (.inl 76)) = .int ((sy_ai F 26).getD (sy_i F 4).toNatClampNeg 0) := hd_rd (hs 6 _ rfl) b4 a26
  have t75 : sy_dv F' (.inr (.inl 75)) = .int ((sy_i F 15) + ((1 : Int32))) := hd_o (hs 5 _ rfl) b15 rfl rfl
  have a49 := hd_ba (F := F) (F' := F') (k := 49) (hF 49 (by decide))
  have t73 : sy_da F' (.inr (.inl 73)) = .inl (jm_upd (sy_ai F 49) (sy_i F 15).toNatClampNeg ((0 : Int32))) := hd_up (hs 3 _ rfl) b15 rfl a49
  have a27 := hd_ba (F := F) (F' := F') (k := 27) (hF 27 (by decide))
  have t72 : sy_dv F' (.inr (.inl 72)) = .int ((sy_ai F 27).getD (sy_i F 4).toNatClampNeg 0) := hd_rd (hs 2 _ rfl) b4 a27
  have a50 := hd_ba (F := F) (F' := F') (k := 50) (hF 50 (by decide))
  have t74 : sy_da F' (.inr (.inl 74)) = .inl (jm_upd (sy_ai F 50) (sy_i F 15).toNatClampNeg ((sy_ai F 27).getD (sy_i F 4).toNatClampNeg 0)) := hd_up (hs 4 _ rfl) b15 t72 a50
  have hB' : iv_in F' iv_B4 := iv_in_eq hB (fun j hj => hF j (Nat.lt_of_lt_of_le hj (by decide +kernel)))
  refine ⟨List.forall_mem_cons.mpr ⟨hd_p0 b6 rfl (by have hc : ((0) : Int32).toInt = 0 := (by decide); omega), List.forall_mem_cons.mpr ⟨hd_pb b4 (by first | exact h1 | exact h1), List.forall_mem_cons.mpr ⟨hd_p1 t70 rfl (by have hc : ((6) : Int32).toInt = 6 := (by decide); omega), List.forall_mem_cons.mpr ⟨hd_p0 b6 rfl (by have hc : ((0) : Int32).toInt = 0 := (by decide); omega), List.forall_mem_cons.mpr ⟨hd_pb b4 (by first | exact h4 | exact h4), List.forall_mem_cons.mpr ⟨hd_p0 t71 rfl (by have hc : ((2) : Int32).toInt = 2 := (by decide); omega), List.forall_mem_cons.mpr ⟨hd_pb b4 (by first | exact h6 | exact h6), List.forall_mem_cons.mpr ⟨hd_pb b15 (by first | exact h7 | exact h7), List.forall_mem_cons.mpr ⟨hd_pb b15 (by first | exact h8 | exact h8), List.forall_mem_cons.mpr ⟨hd_p0 b4 rfl (by have hc : ((400) : Int32).toInt = 400 := (by decide); omega), List.forall_mem_cons.mpr ⟨hd_p4 b6 rfl (by have hc : ((0) : Int32).toInt = 0 := (by decide); omega), List.forall_mem_cons.mpr ⟨hd_pb b4 (by first | exact h11 | exact h11), fun _ h => absurd h List.not_mem_nil⟩⟩⟩⟩⟩⟩⟩⟩⟩⟩⟩⟩, ?_⟩
  refine k _ ?_ ?_ ?_ ?_ ?_ ?_
  · exact fun j hj hn => (hd_keep hB' (Nat.lt_of_lt_of_le hj (by decide +kernel)) (by simp; omega)).trans (hF j (Nat.lt_of_lt_of_le hj (by decide)))
  · exact hd_gi (x := .inl (.int 2)) (by decide +kernel) rfl
  · exact hd_gi (x := .inr (.inl 76)) (by decide +kernel) t76
  · exact hd_gi (x := .inr (.inl 75)) (by decide +kernel) t75
  · exact hd_ga (a := .inr (.inl 73)) (by decide +kernel) t73
  · exact hd_ga (a := .inr (.inl 74)) (by decide +kernel) t74
theorem ex_23_p6 {Ls : Nat} {xs : Nat → Int32} {d : Nat} {Q : Option Value → jm_h → Prop} (hd : 4 ≤ d) (F : Nat → sy_d) (X1 X2 : List jm_c) (hB : iv_in F iv_B4)
    (h0 : (sy_i F 6).toInt = 0)
    (h1 : 0 ≤ (sy_i F 4).toInt ∧ (sy_i F 4).toInt < 403)
    (h2 : ((sy_ai F 25).getD (sy_i F 4).toNatClampNeg 0).toInt = 6)
    (h3 : (sy_i F 5).toInt ≠ 6)
    (h4 : (sy_i F 4).toInt ≠ 400)
    (h5 : 0 ≤ (sy_i F 16).toInt ∧ (sy_i F 16).toInt < 64)
    (k : ∀ F1 : Nat → sy_d, (∀ j, j < 69 → j ≠ 4 ∧ j ≠ 5 ∧ j ≠ 16 ∧ j ≠ 51 → F1 j = F j) → F1 4 = .inl (.int ((sy_i F 4) + ((1 : Int32)))) → F1 5 = .inl (.int ((sy_i F 5) + ((1 : Int32)))) → F1 16 = .inl (.int ((sy_i F 16) + ((1 : Int32)))) → F1 51 = .inr (.inl (jm_upd (sy_ai F 51) (sy_i F 16).toNatClampNeg ((6 : Int32)))) → F1 69 = .inl (.int (sy_i F 69)) → hd_W Ls xs d jm_M164 Q (23, sy_dL F1 [some (.inl (.ref 1000)), some (.inr (.inl 69)), some (.inl (.int 1))], sy_dS F1 [], sy_dh F1 X1 X2 (iv_H 4), 0, 0)) :
    hd_W Ls xs d jm_M164 Q (23, sy_dL F [some (.inl (.ref 1000)), some (.inr (.inl 69)), some (.inl (.int 1))], sy_dS F [], sy_dh F X1 X2 (iv_H 4), 0, 0) := by
  refine hd_run (s := 4) (nv := 70) (pc := 23) (L := [some (.inl (.ref 1000)), some (.inr (.inl 69)), some (.inl (.int 1))]) (S := []) (uh := hd_ov (iv_id 0 iv_B4) [(4, .inl (.inr (.inl 72))), (5, .inl (.inr (.inl 71))), (16, .inl (.inr (.inl 74))), (51, .inr (.inr (.inl 73)))]) (ul := [.inl (.inr (.inl 69))]) (f := true) (sp := [23, 96]) (d0 := 3) (O := [false, false, true, true]) (T := [(30, [.inr (.inl 4)], [.inr (.inl 25)]), (0, [.inr (.inl 5), .inl (.int 1)], []), (0, [.inr (.inl 4), .inl (.int 1)], []), (40, [.inr (.inl 16), .inl (.int 6)], [.inr (.inl 51)]), (0, [.inr (.inl 16), .inl (.int 1)], [])]) (P := [(0, .inr (.inl 6), .inl (.int 0)), (6, .inr (.inl 4), .inl (.ref 403)), (0, .inr (.inl 70), .inl (.int 6)), (1, .inr (.inl 5), .inl (.int 6)), (1, .inr (.inl 4), .inl (.int 400)), (6, .inr (.inl 16), .inl (.ref 64))]) jm_ok164 (by decide +kernel) (by decide +kernel) hd F X1 X2 (fun F' hF hs => ?_)
  have b6 := hd_b (F := F) (F' := F') (k := 6) (hF 6 (by decide))
  have b4 := hd_b (F := F) (F' := F') (k := 4) (hF 4 (by decide))
  have a25 := hd_ba (F := F) (F' := F') (k := 25) (hF 25 (by decide))
  have t70 : sy_dv F' (.inr (.inl 70)) = .int ((sy_ai F 25).getD (sy_i F 4).toNatClampNeg 0) := hd_rd (hs 0 _ rfl) b4 a25
  have b5 := hd_b (F := F) (F' := F') (k := 5) (hF 5 (by decide))
  have b16 := hd_b (F := F) (F' := F') (k := 16) (hF 16 (by decide))
  have t72 : sy_dv F' (.inr (.inl 72)) = .int ((sy_i F 4) + ((1 : Int32))) := hd_o (hs 2 _ rfl) b4 rfl rfl
  have t71 : sy_dv F' (.inr (.inl 71)) = .int ((sy_i F 5) + ((1 : Int32))) := hd_o (hs 1 _ rfl) b5 rfl rfl
  have t74 : sy_dv F' (.inr (.inl 74)) = .int ((sy_i F 16) + ((1 : Int32))) := hd_o (hs 4 _ rfl) b16 rfl rfl
  have a51 := hd_ba (F := F) (F' := F') (k := 51) (hF 51 (by decide))
  have t73 : sy_da F' (.inr (.inl 73)) = .inl (jm_upd (sy_ai F 51) (sy_i F 16).toNatClampNeg ((6 : Int32))) := hd_up (hs 3 _ rfl) b16 rfl a51
  have b69 := hd_b (F := F) (F' := F') (k := 69) (hF 69 (by decide))
  have hB' : iv_in F' iv_B4 := iv_in_eq hB (fun j hj => hF j (Nat.lt_of_lt_of_le hj (by decide +kernel)))
  refine ⟨List.forall_mem_cons.mpr ⟨hd_p0 b6 rfl (by have hc : ((0) : Int32).toInt = 0 := (by decide); omega), List.forall_mem_cons.mpr ⟨hd_pb b4 (by first | exact h1 | exact h1), List.forall_mem_cons.mpr ⟨hd_p0 t70 rfl (by have hc : ((6) : Int32).toInt = 6 := (by decide); omega), List.forall_mem_cons.mpr ⟨hd_p1 b5 rfl (by have hc : ((6) : Int32).toInt = 6 := (by decide); omega), List.forall_mem_cons.mpr ⟨hd_p1 b4 rfl (by have hc : ((400) : Int32).toInt = 400 := (by decide); omega), List.forall_mem_cons.mpr ⟨hd_pb b16 (by first | exact h5 | exact h5), fun _ h => absurd h List.not_mem_nil⟩⟩⟩⟩⟩⟩, ?_⟩
  refine k _ ?_ ?_ ?_ ?_ ?_ ?_
  · exact fun j hj hn => (hd_keep hB' (Nat.lt_of_lt_of_le hj (by decide +kernel)) (by simp; omega)).trans (hF j (Nat.lt_of_lt_of_le hj (by decide)))
  · exact hd_gi (x := .inr (.inl 72)) (by decide +kernel) t72
  · exact hd_gi (x := .inr (.inl 71)) (by decide +kernel) t71
  · exact hd_gi (x := .inr (.inl 74)) (by decide +kernel) t74
  · exact hd_ga (a := .inr (.inl 73)) (by decide +kernel) t73
  · exact hd_gi (x := .inr (.inl 69)) (by decide +kernel) b69
theorem ex_23_p7 {Ls : Nat} {xs : Nat → Int32} {d : Nat} {Q : Option Value → jm_h → Prop} (hd : 4 ≤ d) (F : Nat → sy_d) (X1 X2 : List jm_c) (hB : iv_in F iv_B4)
    (h0 : (sy_i F 6).toInt = 0)
    (h1 : 0 ≤ (sy_i F 4).toInt ∧ (sy_i F 4).toInt < 403)
    (h2 : ((sy_ai F 25).getD (sy_i F 4).toNatClampNeg 0).toInt = 6)
    (h3 : (sy_i F 5).toInt ≠ 6)
    (h4 : (sy_i F 4).toInt = 400)
    (h5 : (sy_i F 6).toInt ≤ 0)
    (h6 : 0 ≤ (sy_i F 4).toInt ∧ (sy_i F 4).toInt < 403)
    (h7 : 0 ≤ (sy_i F 16).toInt ∧ (sy_i F 16).toInt < 64)
    (k : ∀ F1 : Nat → sy_d, (∀ j, j < 69 → j ≠ 5 ∧ j ≠ 6 ∧ j ≠ 7 ∧ j ≠ 16 ∧ j ≠ 51 → F1 j = F j) → F1 5 = .inl (.int ((sy_i F 5) + ((1 : Int32)))) → F1 6 = .inl (.int ((2 : Int32))) → F1 7 = .inl (.int ((sy_ai F 26).getD (sy_i F 4).toNatClampNeg 0)) → F1 16 = .inl (.int ((sy_i F 16) + ((1 : Int32)))) → F1 51 = .inr (.inl (jm_upd (sy_ai F 51) (sy_i F 16).toNatClampNeg ((6 : Int32)))) → F1 69 = .inl (.int (sy_i F 69)) → hd_W Ls xs d jm_M164 Q (23, sy_dL F1 [some (.inl (.ref 1000)), some (.inr (.inl 69)), some (.inl (.int 1))], sy_dS F1 [], sy_dh F1 X1 X2 (iv_H 4), 0, 0)) :
    hd_W Ls xs d jm_M164 Q (23, sy_dL F [some (.inl (.ref 1000)), some (.inr (.inl 69)), some (.inl (.int 1))], sy_dS F [], sy_dh F X1 X2 (iv_H 4), 0, 0) := by
  refine hd_run (s := 4) (nv := 70) (pc := 23) (L := [some (.inl (.ref 1000)), some (.inr (.inl 69)), some (.inl (.int 1))]) (S := []) (uh := hd_ov (iv_id 0 iv_B4) [(5, .inl (.inr (.inl 71))), (6, .inl (.inl (.int 2))), (7, .inl (.inr (.inl 72))), (16, .inl (.inr (.inl 74))), (51, .inr (.inr (.inl 73)))]) (ul := [.inl (.inr (.inl 69))]) (f := true) (sp := [23, 96]) (d0 := 3) (O := [false, false, true, false, true]) (T := [(30, [.inr (.inl 4)], [.inr (.inl 25)]), (0, [.inr (.inl 5), .inl (.int 1)], []), (30, [.inr (.inl 4)], [.inr (.inl 26)]), (40, [.inr (.inl 16), .inl (.int 6)], [.inr (.inl 51)]), (0, [.inr (.inl 16), .inl (.int 1)], [])]) (P := [(0, .inr (.inl 6), .inl (.int 0)), (6, .inr (.inl 4), .inl (.ref 403)), (0, .inr (.inl 70), .inl (.int 6)), (1, .inr (.inl 5), .inl (.int 6)), (0, .inr (.inl 4), .inl (.int 400)), (4, .inr (.inl 6), .inl (.int 0)), (6, .inr (.inl 4), .inl (.ref 403)), (6, .inr (.inl 16), .inl (.ref 64))]) jm_ok164 (by decide +kernel) (by decide +kernel) hd F X1 X2 (fun F' hF hs => ?_)
  have b6 := hd_b (F := F) (F' := F') (k := 6) (hF 6 (by decide))
  have b4 := hd_b (F := F) (F' := F') (k := 4) (hF 4 (by decide))
  have a25 := hd_ba (F := F) (F' := F') (k := 25) (hF 25 (by decide))
  have t70 : sy_dv F' (.inr (.inl 70)) = .int ((sy_ai F 25).getD (sy_i F 4).toNatClampNeg 0) := hd_rd (hs 0 _ rfl) b4 a25
  have b5 := hd_b (F := F) (F' := F') (k := 5) (hF 5 (by decide))
  have b16 := hd_b (F := F) (F' := F') (k := 16) (hF 16 (by decide))
  have t71 : sy_dv F' (.inr (.inl 71)) = .int ((sy_i F 5) + ((1 : Int32))) := hd_o (hs 1 _ rfl) b5 rfl rfl
  have a26 := hd_ba (F := F) (F' := F') (k := 26) (hF 26 (by decide))
  have t72 : sy_dv F' (.inr (.inl 72)) = .int ((sy_ai F 26).getD (sy_i F 4).toNatClampNeg 0) := hd_rd (hs 2 _ rfl) b4 a26
  have t74 : sy_dv F' (.inr (.inl 74)) = .int ((sy_i F 16) + ((1 : Int32))) := hd_o (hs 4 _ rfl) b16 rfl rfl
  have a51 := hd_ba (F := F) (F' := F') (k := 51) (hF 51 (by decide))
  have t73 : sy_da F' (.inr (.inl 73)) = .inl (jm_upd (sy_ai F 51) (sy_i F 16).toNatClampNeg ((6 : Int32))) := hd_up (hs 3 _ rfl) b16 rfl a51
  have b69 := hd_b (F := F) (F' := F') (k := 69) (hF 69 (by decide))
  have hB' : iv_in F' iv_B4 := iv_in_eq hB (fun j hj => hF j (Nat.lt_of_lt_of_le hj (by decide +kernel)))
  refine ⟨List.forall_mem_cons.mpr ⟨hd_p0 b6 rfl (by have hc : ((0) : Int32).toInt = 0 := (by decide); omega), List.forall_mem_cons.mpr ⟨hd_pb b4 (by first | exact h1 | exact h1), List.forall_mem_cons.mpr ⟨hd_p0 t70 rfl (by have hc : ((6) : Int32).toInt = 6 := (by decide); omega), List.forall_mem_cons.mpr ⟨hd_p1 b5 rfl (by have hc : ((6) : Int32).toInt = 6 := (by decide); omega), List.forall_mem_cons.mpr ⟨hd_p0 b4 rfl (by have hc : ((400) : Int32).toInt = 400 := (by decide); omega), List.forall_mem_cons.mpr ⟨hd_p4 b6 rfl (by have hc : ((0) : Int32).toInt = 0 := (by decide); omega), List.forall_mem_cons.mpr ⟨hd_pb b4 (by first | exact h6 | exact h6), List.forall_mem_cons.mpr ⟨hd_pb b16 (by first | exact h7 | exact h7), fun _ h => absurd h List.not_mem_nil⟩⟩⟩⟩⟩⟩⟩⟩, ?_⟩
  refine k _ ?_ ?_ ?_ ?_ ?_ ?_ ?_
  · exact fun j hj hn => (hd_keep hB' (Nat.lt_of_lt_of_le hj (by decide +kernel)) (by simp; omega)).trans (hF j (Nat.lt_of_lt_of_le hj (by decide)))
  · exact hd_gi (x := .inr (.inl 71)) (by decide +kernel) t71
  · exact hd_gi (x := .inl (.int 2)) (by decide +kernel) rfl
  · exact hd_gi (x := .inr (.inl 72)) (by decide +kernel) t72
  · exact hd_gi (x := .inr (.inl 74)) (by decide +kernel) t74
  · exact hd_ga (a := .inr (.inl 73)) (by decide +kernel) t73
  · exact hd_gi (x := .inr (.inl 69)) (by decide +kernel) b69
theorem ex_23_p8 {Ls : Nat} {xs : Nat → Int32} {d : Nat} {Q : Option Value → jm_h → Prop} (hd : 4 ≤ d) (F : Nat → sy_d) (X1 X2 : List jm_c) (hB : iv_in F iv_B4)
    (h0 : (sy_i F 6).toInt = 0)
    (h1 : 0 ≤ (sy_i F 4).toInt ∧ (sy_i F 4).toInt < 403)
    (h2 : ((sy_ai F 25).getD (sy_i F 4).toNatClampNeg 0).toInt = 6)
    (h3 : (sy_i F 5).toInt = 6)
    (h4 : (sy_i F 6).toInt ≤ 0)
    (h5 : 0 ≤ (sy_i F 4).toInt ∧ (sy_i F 4).toInt < 403)
    (h6 : (sy_i F 4).toInt ≠ 400)
    (h7 : 0 ≤ (sy_i F 16).toInt ∧ (sy_i F 16).toInt < 64)
    (k : ∀ F1 : Nat → sy_d, (∀ j, j < 69 → j ≠ 4 ∧ j ≠ 5 ∧ j ≠ 6 ∧ j ≠ 7 ∧ j ≠ 16 ∧ j ≠ 51 → F1 j = F j) → F1 4 = .inl (.int ((sy_i F 4) + ((1 : Int32)))) → F1 5 = .inl (.int ((sy_i F 5) + ((1 : Int32)))) → F1 6 = .inl (.int ((2 : Int32))) → F1 7 = .inl (.int ((sy_ai F 26).getD (sy_i F 4).toNatClampNeg 0)) → F1 16 = .inl (.int ((sy_i F 16) + ((1 : Int32)))) → F1 51 = .inr (.inl (jm_upd (sy_ai F 51) (sy_i F 16).toNatClampNeg ((6 : Int32)))) → F1 69 = .inl (.int (sy_i F 69)) → hd_W Ls xs d jm_M164 Q (23, sy_dL F1 [some (.inl (.ref 1000)), some (.inr (.inl 69)), some (.inl (.int 1))], sy_dS F1 [], sy_dh F1 X1 X2 (iv_H 4), 0, 0)) :
    hd_W Ls xs d jm_M164 Q (23, sy_dL F [some (.inl (.ref 1000)), some (.inr (.inl 69)), some (.inl (.int 1))], sy_dS F [], sy_dh F X1 X2 (iv_H 4), 0, 0) := by
  refine hd_run (s := 4) (nv := 70) (pc := 23) (L := [some (.inl (.ref 1000)), some (.inr (.inl 69)), some (.inl (.int 1))]) (S := []) (uh := hd_ov (iv_id 0 iv_B4) [(4, .inl (.inr (.inl 73))), (5, .inl (.inr (.inl 72))), (6, .inl (.inl (.int 2))), (7, .inl (.inr (.inl 71))), (16, .inl (.inr (.inl 75))), (51, .inr (.inr (.inl 74)))]) (ul := [.inl (.inr (.inl 69))]) (f := true) (sp := [23, 96]) (d0 := 3) (O := [false, false, false, true, true]) (T := [(30, [.inr (.inl 4)], [.inr (.inl 25)]), (30, [.inr (.inl 4)], [.inr (.inl 26)]), (0, [.inr (.inl 5), .inl (.int 1)], []), (0, [.inr (.inl 4), .inl (.int 1)], []), (40, [.inr (.inl 16), .inl (.int 6)], [.inr (.inl 51)]), (0, [.inr (.inl 16), .inl (.int 1)], [])]) (P := [(0, .inr (.inl 6), .inl (.int 0)), (6, .inr (.inl 4), .inl (.ref 403)), (0, .inr (.inl 70), .inl (.int 6)), (0, .inr (.inl 5), .inl (.int 6)), (4, .inr (.inl 6), .inl (.int 0)), (6, .inr (.inl 4), .inl (.ref 403)), (1, .inr (.inl 4), .inl (.int 400)), (6, .inr (.inl 16), .inl (.ref 64))]) jm_ok164 (by decide +kernel) (by decide +kernel) hd F X1 X2 (fun F' hF hs => ?_)
  have b6 := hd_b (F := F) (F' := F') (k := 6) (hF 6 (by decide))
  have b4 := hd_b (F := F) (F' := F') (k := 4) (hF 4 (by decide))
  have a25 := hd_ba (F := F) (F' := F') (k := 25) (hF 25 (by decide))
  have t70 : sy_dv F' (.inr (.inl 70)) = .int ((sy_ai F 25).getD (sy_i F 4).toNatClampNeg 0) := hd_rd (hs 0 _ rfl) b4 a25
  have b5 := hd_b (F := F) (F' := F') (k := 5) (hF 5 (by decide))
  have b16 := hd_b (F := F) (F' := F') (k := 16) (hF 16 (by decide))
  have t73 : sy_dv F' (.inr (.inl 73)) = .int ((sy_i F 4) + ((1 : Int32))) := hd_o (hs 3 _ rfl) b4 rfl rfl
  have t72 : sy_dv F' (.inr (.inl 72)) = .int ((sy_i F 5) + ((1 : Int32))) := hd_o (hs 2 _ rfl) b5 rfl rfl
  have a26 := hd_ba (F := F) (F' := F') (k := 26) (hF 26 (by decide))
  have t71 : sy_dv F' (.inr (.inl 71)) = .int ((sy_ai F 26).getD (sy_i F 4).toNatClampNeg 0) := hd_rd (hs 1 _ rfl) b4 a26
  have t75 : sy_dv F' (.inr (.inl 75)) = .int ((sy_i F 16) + ((1 : Int32))) := hd_o (hs 5 _ rfl) b16 rfl rfl
  have a51 := hd_ba (F := F) (F' := F') (k := 51) (hF 51 (by decide))
  have t74 : sy_da F' (.inr (.inl 74)) = .inl (jm_upd (sy_ai F 51) (sy_i F 16).toNatClampNeg ((6 : Int32))) := hd_up (hs 4 _ rfl) b16 rfl a51
  have b69 := hd_b (F := F) (F' := F') (k := 69) (hF 69 (by decide))
  have hB' : iv_in F' iv_B4 := iv_in_eq hB (fun j hj => hF j (Nat.lt_of_lt_of_le hj (by decide +kernel)))
  refine ⟨List.forall_mem_cons.mpr ⟨hd_p0 b6 rfl (by have hc : ((0) : Int32).toInt = 0 := (by decide); omega), List.forall_mem_cons.mpr ⟨hd_pb b4 (by first | exact h1 | exact h1), List.forall_mem_cons.mpr ⟨hd_p0 t70 rfl (by have hc : ((6) : Int32).toInt = 6 := (by decide); omega), List.forall_mem_cons.mpr ⟨hd_p0 b5 rfl (by have hc : ((6) : Int32).toInt = 6 := (by decide); omega), List.forall_mem_cons.mpr ⟨hd_p4 b6 rfl (by have hc : ((0) : Int32).toInt = 0 := (by decide); omega), List.forall_mem_cons.mpr ⟨hd_pb b4 (by first | exact h5 | exact h5), List.forall_mem_cons.mpr ⟨hd_p1 b4 rfl (by have hc : ((400) : Int32).toInt = 400 := (by decide); omega), List.forall_mem_cons.mpr ⟨hd_pb b16 (by first | exact h7 | exact h7), fun _ h => absurd h List.not_mem_nil⟩⟩⟩⟩⟩⟩⟩⟩, ?_⟩
  refine k _ ?_ ?_ ?_ ?_ ?_ ?_ ?_ ?_
  · exact fun j hj hn => (hd_keep hB' (Nat.lt_of_lt_of_le hj (by decide +kernel)) (by simp; omega)).trans (hF j (Nat.lt_of_lt_of_le hj (by decide)))
  · exact hd_gi (x := .inr (.inl 73)) (by decide +kernel) t73
  · exact hd_gi (x := .inr (.inl 72)) (by decide +kernel) t72
  · exact hd_gi (x := .inl (.int 2)) (by decide +kernel) rfl
  · exact hd_gi (x := .inr (.inl 71)) (by decide +kernel) t71
  · exact hd_gi (x := .inr (.inl 75)) (by decide +kernel) t75
  · exact hd_ga (a := .inr (.inl 74)) (by decide +kernel) t74
  · exact hd_gi (x := .inr (.inl 69)) (by decide +kernel) b69
theorem ex_23_p9 {Ls : Nat} {xs : Nat → Int32} {d : Nat} {Q : Option Value → jm_h → Prop} (hd : 4 ≤ d) (F : Nat → sy_d) (X1 X2 : List jm_c) (hB : iv_in F iv_B4)
    (h0 : (sy_i F 6).toInt = 0)
    (h1 : 0 ≤ (sy_i F 4).toInt ∧ (sy_i F 4).toInt < 403)
    (h2 : ((sy_ai F 25).getD (sy_i F 4).toNatClampNeg 0).toInt = 6)
    (h3 : (sy_i F 5).toInt = 6)
    (h4 : (sy_i F 6).toInt ≤ 0)
    (h5 : 0 ≤ (sy_i F 4).toInt ∧ (sy_i F 4).toInt < 403)
    (h6 : (sy_i F 4).toInt = 400)
    (h7 : 0 ≤ (sy_i F 16).toInt ∧ (sy_i F 16).toInt < 64)
    (k : ∀ F1 : Nat → sy_d, (∀ j, j < 69 → j ≠ 5 ∧ j ≠ 6 ∧ j ≠ 7 ∧ j ≠ 16 ∧ j ≠ 51 → F1 j = F j) → F1 5 = .inl (.int ((sy_i F 5) + ((1 : Int32)))) → F1 6 = .inl (.int ((2 : Int32))) → F1 7 = .inl (.int ((sy_ai F 26).getD (sy_i F 4).toNatClampNeg 0)) → F1 16 = .inl (.int ((sy_i F 16) + ((1 : Int32)))) → F1 51 = .inr (.inl (jm_upd (sy_ai F 51) (sy_i F 16).toNatClampNeg ((6 : Int32)))) → F1 69 = .inl (.int (sy_i F 69)) → hd_W Ls xs d jm_M164 Q (23, sy_dL F1 [some (.inl (.ref 1000)), some (.inr (.inl 69)), some (.inl (.int 1))], sy_dS F1 [], sy_dh F1 X1 X2 (iv_H 4), 0, 0)) :
    hd_W Ls xs d jm_M164 Q (23, sy_dL F [some (.inl (.ref 1000)), some (.inr (.inl 69)), some (.inl (.int 1))], sy_dS F [], sy_dh F X1 X2 (iv_H 4), 0, 0) := by
  refine hd_run (s := 4) (nv := 70) (pc := 23) (L := [some (.inl (.ref 1000)), some (.inr (.inl 69)), some (.inl (.int 1))]) (S := []) (uh := hd_ov (iv_id 0 iv_B4) [(5, .inl (.inr (.inl 72))), (6, .inl (.inl (.int 2))), (7, .inl (.inr (.inl 71))), (16, .inl (.inr (.inl 74))), (51, .inr (.inr (.inl 73)))]) (ul := [.inl (.inr (.inl 69))]) (f := true) (sp := [23, 96]) (d0 := 3) (O := [false, false, false, true, false]) (T := [(30, [.inr (.inl 4)], [.inr (.inl 25)]), (30, [.inr (.inl 4)], [.inr (.inl 26)]), (0, [.inr (.inl 5), .inl (.int 1)], []), (40, [.inr (.inl 16), .inl (.int 6)], [.inr (.inl 51)]), (0, [.inr (.inl 16), .inl (.int 1)], [])]) (P := [(0, .inr (.inl 6), .inl (.int 0)), (6, .inr (.inl 4), .inl (.ref 403)), (0, .inr (.inl 70), .inl (.int 6)), (0, .inr (.inl 5), .inl (.int 6)), (4, .inr (.inl 6), .inl (.int 0)), (6, .inr (.inl 4), .inl (.ref 403)), (0, .inr (.inl 4), .inl (.int 400)), (6, .inr (.inl 16), .inl (.ref 64))]) jm_ok164 (by decide +kernel) (by decide +kernel) hd F X1 X2 (fun F' hF hs => ?_)
  have b6 := hd_b (F := F) (F' := F') (k := 6) (hF 6 (by decide))
  have b4 := hd_b (F := F) (F' := F') (k := 4) (hF 4 (by decide))
  have a25 := hd_ba (F := F) (F' := F') (k := 25) (hF 25 (by decide))
  have t70 : sy_dv F' (.inr (.inl 70)) = .int ((sy_ai F 25).getD (sy_i F 4).toNatClampNeg 0) := hd_rd (hs 0 _ rfl) b4 a25
  have b5 := hd_b (F := F) (F' := F') (k := 5) (hF 5 (by decide))
  have b16 := hd_b (F := F) (F' := F') (k := 16) (hF 16 (by decide))
  have t72 : sy_dv F' (.inr (.inl 72)) = .int ((sy_i F 5) + ((1 : Int32))) := hd_o (hs 2 _ rfl) b5 rfl rfl
  have a26 := hd_ba (F := F) (F' := F') (k := 26) (hF 26 (by decide))
  have t71 : sy_dv F' (.inr (.inl 71)) = .int ((sy_ai F 26).getD (sy_i F 4).toNatClampNeg 0) := hd_rd (hs 1 _ rfl) b4 a26
  have t74 : sy_dv F' (.inr (.inl 74)) = .int ((sy_i F 16) + ((1 : Int32))) := hd_o (hs 4 _ rfl) b16 rfl rfl
  have a51 := hd_ba (F := F) (F' := F') (k := 51) (hF 51 (by decide))
  have t73 : sy_da F' (.inr (.inl 73)) = .inl (jm_upd (sy_ai F 51) (sy_i F 16).toNatClampNeg ((6 : Int32))) := hd_up (hs 3 _ rfl) b16 rfl a51
  have b69 := hd_b (F := F) (F' := F') (k := 69) (hF 69 (by decide))
  have hB' : iv_in F' iv_B4 := iv_in_eq hB (fun j hj => hF j (Nat.lt_of_lt_of_le hj (by decide +kernel)))
  refine ⟨List.forall_mem_cons.mpr ⟨hd_p0 b6 rfl (by have hc : ((0) : Int32).toInt = 0 := (by decide); omega), List.forall_mem_cons.mpr ⟨hd_pb b4 (by first | exact h1 | exact h1), List.forall_mem_cons.mpr ⟨hd_p0 t70 rfl (by have hc : ((6) : Int32).toInt = 6 := (by decide); omega), List.forall_mem_cons.mpr ⟨hd_p0 b5 rfl (by have hc : ((6) : Int32).toInt = 6 := (by decide); omega), List.forall_mem_cons.mpr ⟨hd_p4 b6 rfl (by have hc : ((0) : Int32).toInt = 0 := (by decide); omega), List.forall_mem_cons.mpr ⟨hd_pb b4 (by first | exact h5 | exact h5), List.forall_mem_cons.mpr ⟨hd_p0 b4 rfl (by have hc : ((400) : Int32).toInt = 400 := (by decide); omega), List.forall_mem_cons.mpr ⟨hd_pb b16 (by first | exact h7 | exact h7), fun _ h => absurd h List.not_mem_nil⟩⟩⟩⟩⟩⟩⟩⟩, ?_⟩
  refine k _ ?_ ?_ ?_ ?_ ?_ ?_ ?_
  · exact fun j hj hn => (hd_keep hB' (Nat.lt_of_lt_of_le hj (by decide +kernel)) (by simp; omega)).trans (hF j (Nat.lt_of_lt_of_le hj (by decide)))
  · exact hd_gi (x := .inr (.inl 72)) (by decide +kernel) t72
  · exact hd_gi (x := .inl (.int 2)) (by decide +kernel) rfl
  · exact hd_gi (x := .inr (.inl 71)) (by decide +kernel) t71
  · exact hd_gi (x := .inr (.inl 74)) (by decide +kernel) t74
  · exact hd_ga (a := .inr (.inl 73)) (by decide +kernel) t73
  · exact hd_gi (x := .inr (.inl 69)) (by decide +kernel) b69
theorem ex_96_p0 {Ls : Nat} {xs : Nat → Int32} {d : Nat} {Q : Option Value → jm_h → Prop} (hd : 4 ≤ d) (F : Nat → sy_d) (X1 X2 : List jm_c) (hB : iv_in F iv_B4)
    (h0 : (sy_i F 6).toInt ≠ 0)
    (h1 : (sy_i F 6).toInt ≠ 0)
    (h2 : (sy_i F 6).toInt ≠ 0)
    (h3 : (sy_i F 6).toInt ≠ 0)
    (h4 : (sy_i F 6).toInt ≠ 0)
    (h5 : (sy_i F 5).toInt ≤ (sy_i F 69).toInt)
    (k : ∀ F1 : Nat → sy_d, (∀ j, j < 69 → True → F1 j = F j) → hd_W Ls xs d jm_M164 Q (206, sy_dL F1 [some (.inl (.ref 1000)), none, none], sy_dS F1 [.inl (.int 0), .inl (.ref 1000)], sy_dh F1 X1 X2 (iv_H 4), 0, 0)) :
    hd_W Ls xs d jm_M164 Q (96, sy_dL F [some (.inl (.ref 1000)), some (.inr (.inl 69)), some (.inl (.int 1))], sy_dS F [], sy_dh F X1 X2 (iv_H 4), 0, 0) := by
  refine hd_run (s := 4) (nv := 70) (pc := 206) (L := [some (.inl (.ref 1000)), none, none]) (S := [.inl (.int 0), .inl (.ref 1000)]) (uh := hd_ov (iv_id 0 iv_B4) []) (ul := []) (f := true) (sp := [115, 206, 234]) (d0 := 3) (O := [true, true, true, true, true, true]) (T := []) (P := [(1, .inr (.inl 6), .inl (.int 0)), (1, .inr (.inl 6), .inl (.int 0)), (1, .inr (.inl 6), .inl (.int 0)), (1, .inr (.inl 6), .inl (.int 0)), (1, .inr (.inl 6), .inl (.int 0)), (4, .inr (.inl 5), .inr (.inl 69))]) jm_ok164 (by decide +kernel) (by decide +kernel) hd F X1 X2 (fun F' hF hs => ?_)
  have b6 := hd_b (F := F) (F' := F') (k := 6) (hF 6 (by decide))
  have b5 := hd_b (F := F) (F' := F') (k := 5) (hF 5 (by decide))
  have b69 := hd_b (F := F) (F' := F') (k := 69) (hF 69 (by decide))
  have hB' : iv_in F' iv_B4 := iv_in_eq hB (fun j hj => hF j (Nat.lt_of_lt_of_le hj (by decide +kernel)))
  refine ⟨List.forall_mem_cons.mpr ⟨hd_p1 b6 rfl (by have hc : ((0) : Int32).toInt = 0 := (by decide); omega), List.forall_mem_cons.mpr ⟨hd_p1 b6 rfl (by have hc : ((0) : Int32).toInt = 0 := (by decide); omega), List.forall_mem_cons.mpr ⟨hd_p1 b6 rfl (by have hc : ((0) : Int32).toInt = 0 := (by decide); omega), List.forall_mem_cons.mpr ⟨hd_p1 b6 rfl (by have hc : ((0) : Int32).toInt = 0 := (by decide); omega), List.forall_mem_cons.mpr ⟨hd_p1 b6 rfl (by have hc : ((0) : Int32).toInt = 0 := (by decide); omega), List.forall_mem_cons.mpr ⟨hd_p4 b5 b69 h5, fun _ h => absurd h List.not_mem_nil⟩⟩⟩⟩⟩⟩, ?_⟩
  refine k _ ?_
  · exact fun j hj _ => (hd_keep hB' (Nat.lt_of_lt_of_le hj (by decide +kernel)) (by simp)).trans (hF j (Nat.lt_of_lt_of_le hj (by decide)))
theorem ex_96_p1 {Ls : Nat} {xs : Nat → Int32} {d : Nat} {Q : Option Value → jm_h → Prop} (hd : 4 ≤ d) (F : Nat → sy_d) (X1 X2 : List jm_c) (hB : iv_in F iv_B4)
    (h0 : (sy_i F 6).toInt ≠ 0)
    (h1 : (sy_i F 6).toInt ≠ 0)
    (h2 : (sy_i F 6).toInt ≠ 0)
    (h3 : (sy_i F 6).toInt ≠ 0)
    (h4 : (sy_i F 6).toInt ≠ 0)
    (h5 : (sy_i F 69).toInt < (sy_i F 5).toInt)
    (h6 : 0 < (sy_i F 6).toInt)
    (k : ∀ F1 : Nat → sy_d, (∀ j, j < 69 → True → F1 j = F j) → hd_W Ls xs d jm_M164 Q (206, sy_dL F1 [some (.inl (.ref 1000)), none, none], sy_dS F1 [.inl (.int 0), .inl (.ref 1000)], sy_dh F1 X1 X2 (iv_H 4), 0, 0)) :
    hd_W Ls xs d jm_M164 Q (96, sy_dL F [some (.inl (.ref 1000)), some (.inr (.inl 69)), some (.inl (.int 1))], sy_dS F [], sy_dh F X1 X2 (iv_H 4), 0, 0) := by
  refine hd_run (s := 4) (nv := 70) (pc := 206) (L := [some (.inl (.ref 1000)), none, none]) (S := [.inl (.int 0), .inl (.ref 1000)]) (uh := hd_ov (iv_id 0 iv_B4) []) (ul := []) (f := true) (sp := [115, 206, 234]) (d0 := 3) (O := [true, true, true, true, true, false, false]) (T := []) (P := [(1, .inr (.inl 6), .inl (.int 0)), (1, .inr (.inl 6), .inl (.int 0)), (1, .inr (.inl 6), .inl (.int 0)), (1, .inr (.inl 6), .inl (.int 0)), (1, .inr (.inl 6), .inl (.int 0)), (5, .inr (.inl 5), .inr (.inl 69)), (5, .inr (.inl 6), .inl (.int 0))]) jm_ok164 (by decide +kernel) (by decide +kernel) hd F X1 X2 (fun F' hF hs => ?_)
  have b6 := hd_b (F := F) (F' := F') (k := 6) (hF 6 (by decide))
  have b5 := hd_b (F := F) (F' := F') (k := 5) (hF 5 (by decide))
  have b69 := hd_b (F := F) (F' := F') (k := 69) (hF 69 (by decide))
  have hB' : iv_in F' iv_B4 := iv_in_eq hB (fun j hj => hF j (Nat.lt_of_lt_of_le hj (by decide +kernel)))
  refine ⟨List.forall_mem_cons.mpr ⟨hd_p1 b6 rfl (by have hc : ((0) : Int32).toInt = 0 := (by decide); omega), List.forall_mem_cons.mpr ⟨hd_p1 b6 rfl (by have hc : ((0) : Int32).toInt = 0 := (by decide); omega), List.forall_mem_cons.mpr ⟨hd_p1 b6 rfl (by have hc : ((0) : Int32).toInt = 0 := (by decide); omega), List.forall_mem_cons.mpr ⟨hd_p1 b6 rfl (by have hc : ((0) : Int32).toInt = 0 := (by decide); omega), List.forall_mem_cons.mpr ⟨hd_p1 b6 rfl (by have hc : ((0) : Int32).toInt = 0 := (by decide); omega), List.forall_mem_cons.mpr ⟨hd_p5 b5 b69 h5, List.forall_mem_cons.mpr ⟨hd_p5 b6 rfl (by have hc : ((0) : Int32).toInt = 0 := (by decide); omega), fun _ h => absurd h List.not_mem_nil⟩⟩⟩⟩⟩⟩⟩, ?_⟩
  refine k _ ?_
  · exact fun j hj _ => (hd_keep hB' (Nat.lt_of_lt_of_le hj (by decide +kernel)) (by simp)).trans (hF j (Nat.lt_of_lt_of_le hj (by decide)))
theorem ex_96_p2 {Ls : Nat} {xs : Nat → Int32} {d : Nat} {Q : Option Value → jm_h → Prop} (hd : 4 ≤ d) (F : Nat → sy_d) (X1 X2 : List jm_c) (hB : iv_in F iv_B4)
    (h0 : (sy_i F 6).toInt = 0)
    (h1 : 0 ≤ (sy_i F 4).toInt ∧ (sy_i F 4).toInt < 403)
    (h2 : ((sy_ai F 25).getD (sy_i F 4).toNatClampNeg 0).toInt ≠ 7)
    (h3 : (sy_i F 6).toInt = 0)
    (h4 : 0 ≤ (sy_i F 4).toInt ∧ (sy_i F 4).toInt < 403)
    (h5 : ((sy_ai F 25).getD (sy_i F 4).toNatClampNeg 0).toInt ≠ 8)
    (h6 : (sy_i F 6).toInt = 0)
    (h7 : 0 ≤ (sy_i F 4).toInt ∧ (sy_i F 4).toInt < 403)
    (h8 : ((sy_ai F 25).getD (sy_i F 4).toNatClampNeg 0).toInt ≠ 9)
    (h9 : (sy_i F 6).toInt = 0)
    (h10 : 0 ≤ (sy_i F 4).toInt ∧ (sy_i F 4).toInt < 403)
    (h11 : ((sy_ai F 25).getD (sy_i F 4).toNatClampNeg 0).toInt ≠ 10)
    (h12 : (sy_i F 6).toInt = 0)
    (h13 : 0 ≤ (sy_i F 4).toInt ∧ (sy_i F 4).toInt < 403)
    (h14 : ((sy_ai F 25).getD (sy_i F 4).toNatClampNeg 0).toInt ≠ 15)
    (h15 : (sy_i F 5).toInt ≤ (sy_i F 69).toInt)
    (k : ∀ F1 : Nat → sy_d, (∀ j, j < 69 → True → F1 j = F j) → hd_W Ls xs d jm_M164 Q (206, sy_dL F1 [some (.inl (.ref 1000)), none, none], sy_dS F1 [.inl (.int 0), .inl (.ref 1000)], sy_dh F1 X1 X2 (iv_H 4), 0, 0)) :
    hd_W Ls xs d jm_M164 Q (96, sy_dL F [some (.inl (.ref 1000)), some (.inr (.inl 69)), some (.inl (.int 1))], sy_dS F [], sy_dh F X1 X2 (iv_H 4), 0, 0) := by
  refine hd_run (s := 4) (nv := 70) (pc := 206) (L := [some (.inl (.ref 1000)), none, none]) (S := [.inl (.int 0), .inl (.ref 1000)]) (uh := hd_ov (iv_id 0 iv_B4) []) (ul := []) (f := true) (sp := [115, 206, 234]) (d0 := 3) (O := [false, true, false, true, false, true, false, true, false, true, true]) (T := [(30, [.inr (.inl 4)], [.inr (.inl 25)]), (30, [.inr (.inl 4)], [.inr (.inl 25)]), (30, [.inr (.inl 4)], [.inr (.inl 25)]), (30, [.inr (.inl 4)], [.inr (.inl 25)]), (30, [.inr (.inl 4)], [.inr (.inl 25)])]) (P := [(0, .inr (.inl 6), .inl (.int 0)), (6, .inr (.inl 4), .inl (.ref 403)), (1, .inr (.inl 70), .inl (.int 7)), (0, .inr (.inl 6), .inl (.int 0)), (6, .inr (.inl 4), .inl (.ref 403)), (1, .inr (.inl 71), .inl (.int 8)), (0, .inr (.inl 6), .inl (.int 0)), (6, .inr (.inl 4), .inl (.ref 403)), (1, .inr (.inl 72), .inl (.int 9)), (0, .inr (.inl 6), .inl (.int 0)), (6, .inr (.inl 4), .inl (.ref 403)), (1, .inr (.inl 73), .inl (.int 10)), (0, .inr (.inl 6), .inl (.int 0)), (6, .inr (.inl 4), .inl (.ref 403)), (1, .inr (.inl 74), .inl (.int 15)), (4, .inr (.inl 5), .inr (.inl 69))]) jm_ok164 (by decide +kernel) (by decide +kernel) hd F X1 X2 (fun F' hF hs => ?_)
  have b6 := hd_b (F := F) (F' := F') (k := 6) (hF 6 (by decide))
  have b4 := hd_b (F := F) (F' := F') (k := 4) (hF 4 (by decide))
  have a25 := hd_ba (F := F) (F' := F') (k := 25) (hF 25 (by decide))
  have t70 : sy_dv F' (.inr (.inl 70)) = .int ((sy_ai F 25).getD (sy_i F 4).toNatClampNeg 0) := hd_rd (hs 0 _ rfl) b4 a25
  have t71 : sy_dv F' (.inr (.inl 71)) = .int ((sy_ai F 25).getD (sy_i F 4).toNatClampNeg 0) := hd_rd (hs 1 _ rfl) b4 a25
  have t72 : sy_dv F' (.inr (.inl 72)) = .int ((sy_ai F 25).getD (sy_i F 4).toNatClampNeg 0) := hd_rd (hs 2 _ rfl) b4 a25
  have t73 : sy_dv F' (.inr (.inl 73)) = .int ((sy_ai F 25).getD (sy_i F 4).toNatClampNeg 0) := hd_rd (hs 3 _ rfl) b4 a25
  have t74 : sy_dv F' (.inr (.inl 74)) = .int ((sy_ai F 25).getD (sy_i F 4).toNatClampNeg 0) := hd_rd (hs 4 _ rfl) b4 a25
  have b5 := hd_b (F := F) (F' := F') (k := 5) (hF 5 (by decide))
  have b69 := hd_b (F := F) (F' := F') (k := 69) (hF 69 (by decide))
  have hB' : iv_in F' iv_B4 := iv_in_eq hB (fun j hj => hF j (Nat.lt_of_lt_of_le hj (by decide +kernel)))
  refine ⟨List.forall_mem_cons.mpr ⟨hd_p0 b6 rfl (by have hc : ((0) : Int32).toInt = 0 := (by decide); omega), List.forall_mem_cons.mpr ⟨hd_pb b4 (by first | exact h1 | exact h1), List.forall_mem_cons.mpr ⟨hd_p1 t70 rfl (by have hc : ((7) : Int32).toInt = 7 := (by decide); omega), List.forall_mem_cons.mpr ⟨hd_p0 b6 rfl (by have hc : ((0) : Int32).toInt = 0 := (by decide); omega), List.forall_mem_cons.mpr ⟨hd_pb b4 (by first | exact h4 | exact h4), List.forall_mem_cons.mpr ⟨hd_p1 t71 rfl (by have hc : ((8) : Int32).toInt = 8 := (by decide); omega), List.forall_mem_cons.mpr ⟨hd_p0 b6 rfl (by have hc : ((0) : Int32).toInt = 0 := (by decide); omega), List.forall_mem_cons.mpr ⟨hd_pb b4 (by first | exact h7 | exact h7), List.forall_mem_cons.mpr ⟨hd_p1 t72 rfl (by have hc : ((9) : Int32).toInt = 9 := (by decide); omega), List.forall_mem_cons.mpr ⟨hd_p0 b6 rfl (by have hc : ((0) : Int32).toInt = 0 := (by decide); omega), List.forall_mem_cons.mpr ⟨hd_pb b4 (by first | exact h10 | exact h10), List.forall_mem_cons.mpr ⟨hd_p1 t73 rfl (by have hc : ((10) : Int32).toInt = 10 := (by decide); omega), List.forall_mem_cons.mpr ⟨hd_p0 b6 rfl (by have hc : ((0) : Int32).toInt = 0 := (by decide); omega), List.forall_mem_cons.mpr ⟨hd_pb b4 (by first | exact h13 | exact h13), List.forall_mem_cons.mpr ⟨hd_p1 t74 rfl (by have hc : ((15) : Int32).toInt = 15 := (by decide); omega), List.forall_mem_cons.mpr ⟨hd_p4 b5 b69 h15, fun _ h => absurd h List.not_mem_nil⟩⟩⟩⟩⟩⟩⟩⟩⟩⟩⟩⟩⟩⟩⟩⟩, ?_⟩
  refine k _ ?_
  · exact fun j hj _ => (hd_keep hB' (Nat.lt_of_lt_of_le hj (by decide +kernel)) (by simp)).trans (hF j (Nat.lt_of_lt_of_le hj (by decide)))
theorem ex_96_p3 {Ls : Nat} {xs : Nat → Int32} {d : Nat} {Q : Option Value → jm_h → Prop} (hd : 4 ≤ d) (F : Nat → sy_d) (X1 X2 : List jm_c) (hB : iv_in F iv_B4)
    (h0 : (sy_i F 6).toInt = 0)
    (h1 : 0 ≤ (sy_i F 4).toInt ∧ (sy_i F 4).toInt < 403)
    (h2 : ((sy_ai F 25).getD (sy_i F 4).toNatClampNeg 0).toInt ≠ 7)
    (h3 : (sy_i F 6).toInt = 0)
    (h4 : 0 ≤ (sy_i F 4).toInt ∧ (sy_i F 4).toInt < 403)
    (h5 : ((sy_ai F 25).getD (sy_i F 4).toNatClampNeg 0).toInt ≠ 8)
    (h6 : (sy_i F 6).toInt = 0)
    (h7 : 0 ≤ (sy_i F 4).toInt ∧ (sy_i F 4).toInt < 403)
    (h8 : ((sy_ai F 25).getD (sy_i F 4).toNatClampNeg 0).toInt ≠ 9)
    (h9 : (sy_i F 6).toInt = 0)
    (h10 : 0 ≤ (sy_i F 4).toInt ∧ (sy_i F 4).toInt < 403)
    (h11 : ((sy_ai F 25).getD (sy_i F 4).toNatClampNeg 0).toInt ≠ 10)
    (h12 : (sy_i F 6).toInt = 0)
    (h13 : 0 ≤ (sy_i F 4).toInt ∧ (sy_i F 4).toInt < 403)
    (h14 : ((sy_ai F 25).getD (sy_i F 4).toNatClampNeg 0).toInt ≠ 15)
    (h15 : (sy_i F 69).toInt < (sy_i F 5).toInt)
    (h16 : (sy_i F 6).toInt ≤ 0)
    (h17 : 0 ≤ (sy_i F 4).toInt ∧ (sy_i F 4).toInt < 403)
    (k : ∀ F1 : Nat → sy_d, (∀ j, j < 69 → j ≠ 6 ∧ j ≠ 7 → F1 j = F j) → F1 6 = .inl (.int ((1 : Int32))) → F1 7 = .inl (.int ((sy_ai F 26).getD (sy_i F 4).toNatClampNeg 0)) → hd_W Ls xs d jm_M164 Q (206, sy_dL F1 [some (.inl (.ref 1000)), none, none], sy_dS F1 [.inl (.int 0), .inl (.ref 1000)], sy_dh F1 X1 X2 (iv_H 4), 0, 0)) :
    hd_W Ls xs d jm_M164 Q (96, sy_dL F [some (.inl (.ref 1000)), some (.inr (.inl 69)), some (.inl (.int 1))], sy_dS F [], sy_dh F X1 X2 (iv_H 4), 0, 0) := by
  refine hd_run (s := 4) (nv := 70) (pc := 206) (L := [some (.inl (.ref 1000)), none, none]) (S := [.inl (.int 0), .inl (.ref 1000)]) (uh := hd_ov (iv_id 0 iv_B4) [(6, .inl (.inl (.int 1))), (7, .inl (.inr (.inl 75)))]) (ul := []) (f := true) (sp := [115, 206, 234]) (d0 := 3) (O := [false, true, false, true, false, true, false, true, false, true, false, true]) (T := [(30, [.inr (.inl 4)], [.inr (.inl 25)]), (30, [.inr (.inl 4)], [.inr (.inl 25)]), (30, [.inr (.inl 4)], [.inr (.inl 25)]), (30, [.inr (.inl 4)], [.inr (.inl 25)]), (30, [.inr (.inl 4)], [.inr (.inl 25)]), (30, [.inr (.inl 4)], [.inr (.inl 26)])]) (P := [(0, .inr (.inl 6), .inl (.int 0)), (6, .inr (.inl 4), .inl (.ref 403)), (1, .inr (.inl 70), .inl (.int 7)), (0, .inr (.inl 6), .inl (.int 0)), (6, .inr (.inl 4), .inl (.ref 403)), (1, .inr (.inl 71), .inl (.int 8)), (0, .inr (.inl 6), .inl (.int 0)), (6, .inr (.inl 4), .inl (.ref 403)), (1, .inr (.inl 72), .inl (.int 9)), (0, .inr (.inl 6), .inl (.int 0)), (6, .inr (.inl 4), .inl (.ref 403)), (1, .inr (.inl 73), .inl (.int 10)), (0, .inr (.inl 6), .inl (.int 0)), (6, .inr (.inl 4), .inl (.ref 403)), (1, .inr (.inl 74), .inl (.int 15)), (5, .inr (.inl 5), .inr (.inl 69)), (4, .inr (.inl 6), .inl (.int 0)), (6, .inr (.inl 4), .inl (.ref 403))]) jm_ok164 (by decide +kernel) (by decide +kernel) hd F X1 X2 (fun F' hF hs => ?_)
  have b6 := hd_b (F := F) (F' := F') (k := 6) (hF 6 (by decide))
  have b4 := hd_b (F := F) (F' := F') (k := 4) (hF 4 (by decide))
  have a25 := hd_ba (F := F) (F' := F') (k := 25) (hF 25 (by decide))
  have t70 : sy_dv F' (.inr (.inl 70)) = .int ((sy_ai F 25).getD (sy_i F 4).toNatClampNeg 0) := hd_rd (hs 0 _ rfl) b4 a25
  have t71 : sy_dv F' (.inr (.inl 71)) = .int ((sy_ai F 25).getD (sy_i F 4).toNatClampNeg 0) := hd_rd (hs 1 _ rfl) b4 a25
  have t72 : sy_dv F' (.inr (.inl 72)) = .int ((sy_ai F 25).getD (sy_i F 4).toNatClampNeg 0) := hd_rd (hs 2 _ rfl) b4 a25
  have t73 : sy_dv F' (.inr (.inl 73)) = .int ((sy_ai F 25).getD (sy_i F 4).toNatClampNeg 0) := hd_rd (hs 3 _ rfl) b4 a25
  have t74 : sy_dv F' (.inr (.inl 74)) = .int ((sy_ai F 25).getD (sy_i F 4).toNatClampNeg 0) := hd_rd (hs 4 _ rfl) b4 a25
  have b5 := hd_b (F := F) (F' := F') (k := 5) (hF 5 (by decide))
  have b69 := hd_b (F := F) (F' := F') (k := 69) (hF 69 (by decide))
  have a26 := hd_ba (F := F) (F' := F') (k := 26) (hF 26 (by decide))
  have t75 : sy_dv F' (.inr (.inl 75)) = .int ((sy_ai F 26).getD (sy_i F 4).toNatClampNeg 0) := hd_rd (hs 5 _ rfl) b4 a26
  have hB' : iv_in F' iv_B4 := iv_in_eq hB (fun j hj => hF j (Nat.lt_of_lt_of_le hj (by decide +kernel)))
  refine ⟨List.forall_mem_cons.mpr ⟨hd_p0 b6 rfl (by have hc : ((0) : Int32).toInt = 0 := (by decide); omega), List.forall_mem_cons.mpr ⟨hd_pb b4 (by first | exact h1 | exact h1), List.forall_mem_cons.mpr ⟨hd_p1 t70 rfl (by have hc : ((7) : Int32).toInt = 7 := (by decide); omega), List.forall_mem_cons.mpr ⟨hd_p0 b6 rfl (by have hc : ((0) : Int32).toInt = 0 := (by decide); omega), List.forall_mem_cons.mpr ⟨hd_pb b4 (by first | exact h4 | exact h4), List.forall_mem_cons.mpr ⟨hd_p1 t71 rfl (by have hc : ((8) : Int32).toInt = 8 := (by decide); omega), List.forall_mem_cons.mpr ⟨hd_p0 b6 rfl (by have hc : ((0) : Int32).toInt = 0 := (by decide); omega), List.forall_mem_cons.mpr ⟨hd_pb b4 (by first | exact h7 | exact h7), List.forall_mem_cons.mpr ⟨hd_p1 t72 rfl (by have hc : ((9) : Int32).toInt = 9 := (by decide); omega), List.forall_mem_cons.mpr ⟨hd_p0 b6 rfl (by have hc : ((0) : Int32).toInt = 0 := (by decide); omega), List.forall_mem_cons.mpr ⟨hd_pb b4 (by first | exact h10 | exact h10), List.forall_mem_cons.mpr ⟨hd_p1 t73 rfl (by have hc : ((10) : Int32).toInt = 10 := (by decide); omega), List.forall_mem_cons.mpr ⟨hd_p0 b6 rfl (by have hc : ((0) : Int32).toInt = 0 := (by decide); omega), List.forall_mem_cons.mpr ⟨hd_pb b4 (by first | exact h13 | exact h13), List.forall_mem_cons.mpr ⟨hd_p1 t74 rfl (by have hc : ((15) : Int32).toInt = 15 := (by decide); omega), List.forall_mem_cons.mpr ⟨hd_p5 b5 b69 h15, List.forall_mem_cons.mpr ⟨hd_p4 b6 rfl (by have hc : ((0) : Int32).toInt = 0 := (by decide); omega), List.forall_mem_cons.mpr ⟨hd_pb b4 (by first | exact h17 | exact h17), fun _ h => absurd h List.not_mem_nil⟩⟩⟩⟩⟩⟩⟩⟩⟩⟩⟩⟩⟩⟩⟩⟩⟩⟩, ?_⟩
  refine k _ ?_ ?_ ?_
  · exact fun j hj hn => (hd_keep hB' (Nat.lt_of_lt_of_le hj (by decide +kernel)) (by simp; omega)).trans (hF j (Nat.lt_of_lt_of_le hj (by decide)))
  · exact hd_gi (x := .inl (.int 1)) (by decide +kernel) rfl
  · exact hd_gi (x := .inr (.inl 75)) (by decide +kernel) t75
theorem ex_96_p4 {Ls : Nat} {xs : Nat → Int32} {d : Nat} {Q : Option Value → jm_h → Prop} (hd : 4 ≤ d) (F : Nat → sy_d) (X1 X2 : List jm_c) (hB : iv_in F iv_B4)
    (h0 : (sy_i F 6).toInt = 0)
    (h1 : 0 ≤ (sy_i F 4).toInt ∧ (sy_i F 4).toInt < 403)
    (h2 : ((sy_ai F 25).getD (sy_i F 4).toNatClampNeg 0).toInt ≠ 7)
    (h3 : (sy_i F 6).toInt = 0)
    (h4 : 0 ≤ (sy_i F 4).toInt ∧ (sy_i F 4).toInt < 403)
    (h5 : ((sy_ai F 25).getD (sy_i F 4).toNatClampNeg 0).toInt ≠ 8)
    (h6 : (sy_i F 6).toInt = 0)
    (h7 : 0 ≤ (sy_i F 4).toInt ∧ (sy_i F 4).toInt < 403)
    (h8 : ((sy_ai F 25).getD (sy_i F 4).toNatClampNeg 0).toInt ≠ 9)
    (h9 : (sy_i F 6).toInt = 0)
    (h10 : 0 ≤ (sy_i F 4).toInt ∧ (sy_i F 4).toInt < 403)
    (h11 : ((sy_ai F 25).getD (sy_i F 4).toNatClampNeg 0).toInt ≠ 10)
    (h12 : (sy_i F 6).toInt = 0)
    (h13 : 0 ≤ (sy_i F 4).toInt ∧ (sy_i F 4).toInt < 403)
    (h14 : ((sy_ai F 25).getD (sy_i F 4).toNatClampNeg 0).toInt = 15)
    (h15 : (sy_i F 6).toInt = 0)
    (h16 : 0 ≤ (sy_i F 4).toInt ∧ (sy_i F 4).toInt < 403)
    (h17 : ((sy_ai F 25).getD (sy_i F 4).toNatClampNeg 0).toInt ≠ 10)
    (h18 : (sy_i F 6).toInt = 0)
    (h19 : 0 ≤ (sy_i F 4).toInt ∧ (sy_i F 4).toInt < 403)
    (h20 : ((sy_ai F 25).getD (sy_i F 4).toNatClampNeg 0).toInt = 15)
    (k : ∀ F1 : Nat → sy_d, (∀ j, j < 69 → True → F1 j = F j) → F1 69 = .inl (.int (sy_i F 69)) → F1 70 = .inl (.int ((1 : Int32))) → hd_W Ls xs d jm_M164 Q (234, sy_dL F1 [some (.inl (.ref 1000)), some (.inr (.inl 69)), some (.inl (.int 1))], sy_dS F1 [.inr (.inl 70), .inl (.ref 1000)], sy_dh F1 X1 X2 (iv_H 4), 0, 0)) :
    hd_W Ls xs d jm_M164 Q (96, sy_dL F [some (.inl (.ref 1000)), some (.inr (.inl 69)), some (.inl (.int 1))], sy_dS F [], sy_dh F X1 X2 (iv_H 4), 0, 0) := by
  refine hd_run (s := 4) (nv := 70) (pc := 234) (L := [some (.inl (.ref 1000)), some (.inr (.inl 69)), some (.inl (.int 1))]) (S := [.inr (.inl 70), .inl (.ref 1000)]) (uh := hd_ov (iv_id 0 iv_B4) []) (ul := [.inl (.inr (.inl 69)), .inl (.inl (.int 1))]) (f := true) (sp := [115, 206, 234]) (d0 := 3) (O := [false, true, false, true, false, true, false, true, false, false, false, true, false, false]) (T := [(30, [.inr (.inl 4)], [.inr (.inl 25)]), (30, [.inr (.inl 4)], [.inr (.inl 25)]), (30, [.inr (.inl 4)], [.inr (.inl 25)]), (30, [.inr (.inl 4)], [.inr (.inl 25)]), (30, [.inr (.inl 4)], [.inr (.inl 25)]), (30, [.inr (.inl 4)], [.inr (.inl 25)]), (30, [.inr (.inl 4)], [.inr (.inl 25)])]) (P := [(0, .inr (.inl 6), .inl (.int 0)), (6, .inr (.inl 4), .inl (.ref 403)), (1, .inr (.inl 70), .inl (.int 7)), (0, .inr (.inl 6), .inl (.int 0)), (6, .inr (.inl 4), .inl (.ref 403)), (1, .inr (.inl 71), .inl (.int 8)), (0, .inr (.inl 6), .inl (.int 0)), (6, .inr (.inl 4), .inl (.ref 403)), (1, .inr (.inl 72), .inl (.int 9)), (0, .inr (.inl 6), .inl (.int 0)), (6, .inr (.inl 4), .inl (.ref 403)), (1, .inr (.inl 73), .inl (.int 10)), (0, .inr (.inl 6), .inl (.int 0)), (6, .inr (.inl 4), .inl (.ref 403)), (0, .inr (.inl 74), .inl (.int 15)), (0, .inr (.inl 6), .inl (.int 0)), (6, .inr (.inl 4), .inl (.ref 403)), (1, .inr (.inl 75), .inl (.int 10)), (0, .inr (.inl 6), .inl (.int 0)), (6, .inr (.inl 4), .inl (.ref 403)), (0, .inr (.inl 76), .inl (.int 15))]) jm_ok164 (by decide +kernel) (by decide +kernel) hd F X1 X2 (fun F' hF hs => ?_)
  have b6 := hd_b (F := F) (F' := F') (k := 6) (hF 6 (by decide))
  have b4 := hd_b (F := F) (F' := F') (k := 4) (hF 4 (by decide))
  have a25 := hd_ba (F := F) (F' := F') (k := 25) (hF 25 (by decide))
  have t70 : sy_dv F' (.inr (.inl 70)) = .int ((sy_ai F 25).getD (sy_i F 4).toNatClampNeg 0) := hd_rd (hs 0 _ rfl) b4 a25
  have t71 : sy_dv F' (.inr (.inl 71)) = .int ((sy_ai F 25).getD (sy_i F 4).toNatClampNeg 0) := hd_rd (hs 1 _ rfl) b4 a25
  have t72 : sy_dv F' (.inr (.inl 72)) = .int ((sy_ai F 25).getD (sy_i F 4).toNatClampNeg 0) := hd_rd (hs 2 _ rfl) b4 a25
  have t73 : sy_dv F' (.inr (.inl 73)) = .int ((sy_ai F 25).getD (sy_i F 4).toNatClampNeg 0) := hd_rd (hs 3 _ rfl) b4 a25
  have t74 : sy_dv F' (.inr (.inl 74)) = .int ((sy_ai F 25).getD (sy_i F 4).toNatClampNeg 0) := hd_rd (hs 4 _ rfl) b4 a25
  have t75 : sy_dv F' (.inr (.inl 75)) = .int ((sy_ai F 25).getD (sy_i F 4).toNatClampNeg 0) := hd_rd (hs 5 _ rfl) b4 a25
  have t76 : sy_dv F' (.inr (.inl 76)) = .int ((sy_ai F 25).getD (sy_i F 4).toNatClampNeg 0) := hd_rd (hs 6 _ rfl) b4 a25
  have b69 := hd_b (F := F) (F' := F') (k := 69) (hF 69 (by decide))
  have hB' : iv_in F' iv_B4 := iv_in_eq hB (fun j hj => hF j (Nat.lt_of_lt_of_le hj (by decide +kernel)))
  refine ⟨List.forall_mem_cons.mpr ⟨hd_p0 b6 rfl (by have hc : ((0) : Int32).toInt = 0 := (by decide); omega), List.forall_mem_cons.mpr ⟨hd_pb b4 (by first | exact h1 | exact h1), List.forall_mem_cons.mpr ⟨hd_p1 t70 rfl (by have hc : ((7) : Int32).toInt = 7 := (by decide); omega), List.forall_mem_cons.mpr ⟨hd_p0 b6 rfl (by have hc : ((0) : Int32).toInt = 0 := (by decide); omega), List.forall_mem_cons.mpr ⟨hd_pb b4 (by first | exact h4 | exact h4), List.forall_mem_cons.mpr ⟨hd_p1 t71 rfl (by have hc : ((8) : Int32).toInt = 8 := (by decide); omega), List.forall_mem_cons.mpr ⟨hd_p0 b6 rfl (by have hc : ((0) : Int32).toInt = 0 := (by decide); omega), List.forall_mem_cons.mpr ⟨hd_pb b4 (by first | exact h7 | exact h7), List.forall_mem_cons.mpr ⟨hd_p1 t72 rfl (by have hc : ((9) : Int32).toInt = 9 := (by decide); omega), List.forall_mem_cons.mpr ⟨hd_p0 b6 rfl (by have hc : ((0) : Int32).toInt = 0 := (by decide); omega), List.forall_mem_cons.mpr ⟨hd_pb b4 (by first | exact h10 | exact h10), List.forall_mem_cons.mpr ⟨hd_p1 t73 rfl (by have hc : ((10) : Int32).toInt = 10 := (by decide); omega), List.forall_mem_cons.mpr ⟨hd_p0 b6 rfl (by have hc : ((0) : Int32).toInt = 0 := (by decide); omega), List.forall_mem_cons.mpr ⟨hd_pb b4 (by first | exact h13 | exact h13), List.forall_mem_cons.mpr ⟨hd_p0 t74 rfl (by have hc : ((15) : Int32).toInt = 15 := (by decide); omega), List.forall_mem_cons.mpr ⟨hd_p0 b6 rfl (by have hc : ((0) : Int32).toInt = 0 := (by decide); omega), List.forall_mem_cons.mpr ⟨hd_pb b4 (by first | exact h16 | exact h16), List.forall_mem_cons.mpr ⟨hd_p1 t75 rfl (by have hc : ((10) : Int32).toInt = 10 := (by decide); omega), List.forall_mem_cons.mpr ⟨hd_p0 b6 rfl (by have hc : ((0) : Int32).toInt = 0 := (by decide); omega), List.forall_mem_cons.mpr ⟨hd_pb b4 (by first | exact h19 | exact h19), List.forall_mem_cons.mpr ⟨hd_p0 t76 rfl (by have hc : ((15) : Int32).toInt = 15 := (by decide); omega), fun _ h => absurd h List.not_mem_nil⟩⟩⟩⟩⟩⟩⟩⟩⟩⟩⟩⟩⟩⟩⟩⟩⟩⟩⟩⟩⟩, ?_⟩
  refine k _ ?_ ?_ ?_
  · exact fun j hj _ => (hd_keep hB' (Nat.lt_of_lt_of_le hj (by decide +kernel)) (by simp)).trans (hF j (Nat.lt_of_lt_of_le hj (by decide)))
  · exact hd_gi (x := .inr (.inl 69)) (by decide +kernel) b69
  · exact hd_gi (x := .inl (.int 1)) (by decide +kernel) rfl
theorem ex_96_p5 {Ls : Nat} {xs : Nat → Int32} {d : Nat} {Q : Option Value → jm_h → Prop} (hd : 4 ≤ d) (F : Nat → sy_d) (X1 X2 : List jm_c) (hB : iv_in F iv_B4)
    (h0 : (sy_i F 6).toInt = 0)
    (h1 : 0 ≤ (sy_i F 4).toInt ∧ (sy_i F 4).toInt < 403)
    (h2 : ((sy_ai F 25).getD (sy_i F 4).toNatClampNeg 0).toInt ≠ 7)
    (h3 : (sy_i F 6).toInt = 0)
    (h4 : 0 ≤ (sy_i F 4).toInt ∧ (sy_i F 4).toInt < 403)
    (h5 : ((sy_ai F 25).getD (sy_i F 4).toNatClampNeg 0).toInt ≠ 8)
    (h6 : (sy_i F 6).toInt = 0)
    (h7 : 0 ≤ (sy_i F 4).toInt ∧ (sy_i F 4).toInt < 403)
    (h8 : ((sy_ai F 25).getD (sy_i F 4).toNatClampNeg 0).toInt ≠ 9)
    (h9 : (sy_i F 6).toInt = 0)
    (h10 : 0 ≤ (sy_i F 4).toInt ∧ (sy_i F 4).toInt < 403)
    (h11 : ((sy_ai F 25).getD (sy_i F 4).toNatClampNeg 0).toInt = 10)
    (h12 : (sy_i F 6).toInt = 0)
    (h13 : 0 ≤ (sy_i F 4).toInt ∧ (sy_i F 4).toInt < 403)
    (h14 : ((sy_ai F 25).getD (sy_i F 4).toNatClampNeg 0).toInt = 10)
    (k : ∀ F1 : Nat → sy_d, (∀ j, j < 69 → True → F1 j = F j) → F1 69 = .inl (.int (sy_i F 69)) → F1 70 = .inl (.int ((1 : Int32))) → hd_W Ls xs d jm_M164 Q (234, sy_dL F1 [some (.inl (.ref 1000)), some (.inr (.inl 69)), some (.inl (.int 1))], sy_dS F1 [.inr (.inl 70), .inl (.ref 1000)], sy_dh F1 X1 X2 (iv_H 4), 0, 0)) :
    hd_W Ls xs d jm_M164 Q (96, sy_dL F [some (.inl (.ref 1000)), some (.inr (.inl 69)), some (.inl (.int 1))], sy_dS F [], sy_dh F X1 X2 (iv_H 4), 0, 0) := by
  refine hd_run (s := 4) (nv := 70) (pc := 234) (L := [some (.inl (.ref 1000)), some (.inr (.inl 69)), some (.inl (.int 1))]) (S := [.inr (.inl 70), .inl (.ref 1000)]) (uh := hd_ov (iv_id 0 iv_B4) []) (ul := [.inl (.inr (.inl 69)), .inl (.inl (.int 1))]) (f := true) (sp := [115, 206, 234]) (d0 := 3) (O := [false, true, false, true, false, true, false, false, false, false]) (T := [(30, [.inr (.inl 4)], [.inr (.inl 25)]), (30, [.inr (.inl 4)], [.inr (.inl 25)]), (30, [.inr (.inl 4)], [.inr (.inl 25)]), (30, [.inr (.inl 4)], [.inr (.inl 25)]), (30, [.inr (.inl 4)], [.inr (.inl 25)])]) (P := [(0, .inr (.inl 6), .inl (.int 0)), (6, .inr (.inl 4), .inl (.ref 403)), (1, .inr (.inl 70), .inl (.int 7)), (0, .inr (.inl 6), .inl (.int 0)), (6, .inr (.inl 4), .inl (.ref 403)), (1, .inr (.inl 71), .inl (.int 8)), (0, .inr (.inl 6), .inl (.int 0)), (6, .inr (.inl 4), .inl (.ref 403)), (1, .inr (.inl 72), .inl (.int 9)), (0, .inr (.inl 6), .inl (.int 0)), (6, .inr (.inl 4), .inl (.ref 403)), (0, .inr (.inl 73), .inl (.int 10)), (0, .inr (.inl 6), .inl (.int 0)), (6, .inr (.inl 4), .inl (.ref 403)), (0, .inr (.inl 74), .inl (.int 10))]) jm_ok164 (by decide +kernel) (by decide +kernel) hd F X1 X2 (fun F' hF hs => ?_)
  have b6 := hd_b (F := F) (F' := F') (k := 6) (hF 6 (by decide))
  have b4 := hd_b (F := F) (F' := F') (k := 4) (hF 4 (by decide))
  have a25 := hd_ba (F := F) (F' := F') (k := 25) (hF 25 (by decide))
  have t70 : sy_dv F' (.inr (.inl 70)) = .int ((sy_ai F 25).getD (sy_i F 4).toNatClampNeg 0) := hd_rd (hs 0 _ rfl) b4 a25
  have t71 : sy_dv F' (.inr (.inl 71)) = .int ((sy_ai F 25).getD (sy_i F 4).toNatClampNeg 0) := hd_rd (hs 1 _ rfl) b4 a25
  have t72 : sy_dv F' (.inr (.inl 72)) = .int ((sy_ai F 25).getD (sy_i F 4).toNatClampNeg 0) := hd_rd (hs 2 _ rfl) b4 a25
  have t73 : sy_dv F' (.inr (.inl 73)) = .int ((sy_ai F 25).getD (sy_i F 4).toNatClampNeg 0) := hd_rd (hs 3 _ rfl) b4 a25
  have t74 : sy_dv F' (.inr (.inl 74)) = .int ((sy_ai F 25).getD (sy_i F 4).toNatClampNeg 0) := hd_rd (hs 4 _ rfl) b4 a25
  have b69 := hd_b (F := F) (F' := F') (k := 69) (hF 69 (by decide))
  have hB' : iv_in F' iv_B4 := iv_in_eq hB (fun j hj => hF j (Nat.lt_of_lt_of_le hj (by decide +kernel)))
  refine ⟨List.forall_mem_cons.mpr ⟨hd_p0 b6 rfl (by have hc : ((0) : Int32).toInt = 0 := (by decide); omega), List.forall_mem_cons.mpr ⟨hd_pb b4 (by first | exact h1 | exact h1), List.forall_mem_cons.mpr ⟨hd_p1 t70 rfl (by have hc : ((7) : Int32).toInt = 7 := (by decide); omega), List.forall_mem_cons.mpr ⟨hd_p0 b6 rfl (by have hc : ((0) : Int32).toInt = 0 := (by decide); omega), List.forall_mem_cons.mpr ⟨hd_pb b4 (by first | exact h4 | exact h4), List.forall_mem_cons.mpr ⟨hd_p1 t71 rfl (by have hc : ((8) : Int32).toInt = 8 := (by decide); omega), List.forall_mem_cons.mpr ⟨hd_p0 b6 rfl (by have hc : ((0) : Int32).toInt = 0 := (by decide); omega), List.forall_mem_cons.mpr ⟨hd_pb b4 (by first | exact h7 | exact h7), List.forall_mem_cons.mpr ⟨hd_p1 t72 rfl (by have hc : ((9) : Int32).toInt = 9 := (by decide); omega), List.forall_mem_cons.mpr ⟨hd_p0 b6 rfl (by have hc : ((0) : Int32).toInt = 0 := (by decide); omega), List.forall_mem_cons.mpr ⟨hd_pb b4 (by first | exact h10 | exact h10), List.forall_mem_cons.mpr ⟨hd_p0 t73 rfl (by have hc : ((10) : Int32).toInt = 10 := (by decide); omega), List.forall_mem_cons.mpr ⟨hd_p0 b6 rfl (by have hc : ((0) : Int32).toInt = 0 := (by decide); omega), List.forall_mem_cons.mpr ⟨hd_pb b4 (by first | exact h13 | exact h13), List.forall_mem_cons.mpr ⟨hd_p0 t74 rfl (by have hc : ((10) : Int32).toInt = 10 := (by decide); omega), fun _ h => absurd h List.not_mem_nil⟩⟩⟩⟩⟩⟩⟩⟩⟩⟩⟩⟩⟩⟩⟩, ?_⟩
  refine k _ ?_ ?_ ?_
  · exact fun j hj _ => (hd_keep hB' (Nat.lt_of_lt_of_le hj (by decide +kernel)) (by simp)).trans (hF j (Nat.lt_of_lt_of_le hj (by decide)))
  · exact hd_gi (x := .inr (.inl 69)) (by decide +kernel) b69
  · exact hd_gi (x := .inl (.int 1)) (by decide +kernel) rfl
theorem ex_96_p6 {Ls : Nat} {xs : Nat → Int32} {d : Nat} {Q : Option Value → jm_h → Prop} (hd : 4 ≤ d) (F : Nat → sy_d) (X1 X2 : List jm_c) (hB : iv_in F iv_B4)
    (h0 : (sy_i F 6).toInt = 0)
    (h1 : 0 ≤ (sy_i F 4).toInt ∧ (sy_i F 4).toInt < 403)
    (h2 : ((sy_ai F 25).getD (sy_i F 4).toNatClampNeg 0).toInt ≠ 7)
    (h3 : (sy_i F 6).toInt = 0)
    (h4 : 0 ≤ (sy_i F 4).toInt ∧ (sy_i F 4).toInt < 403)
    (h5 : ((sy_ai F 25).getD (sy_i F 4).toNatClampNeg 0).toInt ≠ 8)
    (h6 : (sy_i F 6).toInt = 0)
    (h7 : 0 ≤ (sy_i F 4).toInt ∧ (sy_i F 4).toInt < 403)
    (h8 : ((sy_ai F 25).getD (sy_i F 4).toNatClampNeg 0).toInt = 9)
    (h9 : (sy_i F 6).toInt = 0)
    (h10 : 0 ≤ (sy_i F 4).toInt ∧ (sy_i F 4).toInt < 403)
    (h11 : ((sy_ai F 25).getD (sy_i F 4).toNatClampNeg 0).toInt ≠ 10)
    (h12 : (sy_i F 6).toInt = 0)
    (h13 : 0 ≤ (sy_i F 4).toInt ∧ (sy_i F 4).toInt < 403)
    (h14 : ((sy_ai F 25).getD (sy_i F 4).toNatClampNeg 0).toInt ≠ 15)
    (k : ∀ F1 : Nat → sy_d, (∀ j, j < 69 → True → F1 j = F j) → F1 69 = .inl (.int (sy_i F 69)) → F1 70 = .inl (.int ((0 : Int32))) → hd_W Ls xs d jm_M164 Q (234, sy_dL F1 [some (.inl (.ref 1000)), some (.inr (.inl 69)), some (.inl (.int 1))], sy_dS F1 [.inr (.inl 70), .inl (.ref 1000)], sy_dh F1 X1 X2 (iv_H 4), 0, 0)) :
    hd_W Ls xs d jm_M164 Q (96, sy_dL F [some (.inl (.ref 1000)), some (.inr (.inl 69)), some (.inl (.int 1))], sy_dS F [], sy_dh F X1 X2 (iv_H 4), 0, 0) := by
  refine hd_run (s := 4) (nv := 70) (pc := 234) (L := [some (.inl (.ref 1000)), some (.inr (.inl 69)), some (.inl (.int 1))]) (S := [.inr (.inl 70), .inl (.ref 1000)]) (uh := hd_ov (iv_id 0 iv_B4) []) (ul := [.inl (.inr (.inl 69)), .inl (.inl (.int 0))]) (f := true) (sp := [115, 206, 234]) (d0 := 3) (O := [false, true, false, true, false, false, false, true, false, true]) (T := [(30, [.inr (.inl 4)], [.inr (.inl 25)]), (30, [.inr (.inl 4)], [.inr (.inl 25)]), (30, [.inr (.inl 4)], [.inr (.inl 25)]), (30, [.inr (.inl 4)], [.inr (.inl 25)]), (30, [.inr (.inl 4)], [.inr (.inl 25)])]) (P := [(0, .inr (.inl 6), .inl (.int 0)), (6, .inr (.inl 4), .inl (.ref 403)), (1, .inr (.inl 70), .inl (.int 7)), (0, .inr (.inl 6), .inl (.int 0)), (6, .inr (.inl 4), .inl (.ref 403)), (1, .inr (.inl 71), .inl (.int 8)), (0, .inr (.inl 6), .inl (.int 0)), (6, .inr (.inl 4), .inl (.ref 403)), (0, .inr (.inl 72), .inl (.int 9)), (0, .inr (.inl 6), .inl (.int 0)), (6, .inr (.inl 4), .inl (.ref 403)), (1, .inr (.inl 73), .inl (.int 10)), (0, .inr (.inl 6), .inl (.int 0)), (6, .inr (.inl 4), .inl (.ref 403)), (1, .inr (.inl 74), .inl (.int 15))]) jm_ok164 (by decide +kernel) (by decide +kernel) hd F X1 X2 (fun F' hF hs => ?_)
  have b6 := hd_b (F := F) (F' := F') (k := 6) (hF 6 (by decide))
  have b4 := hd_b (F := F) (F' := F') (k := 4) (hF 4 (by decide))
  have a25 := hd_ba (F := F) (F' := F') (k := 25) (hF 25 (by decide))
  have t70 : sy_dv F' (.inr (.inl 70)) = .int ((sy_ai F 25).getD (sy_i F 4).toNatClampNeg 0) := hd_rd (hs 0 _ rfl) b4 a25
  have t71 : sy_dv F' (.inr (.inl 71)) = .int ((sy_ai F 25).getD (sy_i F 4).toNatClampNeg 0) := hd_rd (hs 1 _ rfl) b4 a25
  have t72 : sy_dv F' (.inr (.inl 72)) = .int ((sy_ai F 25).getD (sy_i F 4).toNatClampNeg 0) := hd_rd (hs 2 _ rfl) b4 a25
  have t73 : sy_dv F' (.inr (.inl 73)) = .int ((sy_ai F 25).getD (sy_i F 4).toNatClampNeg 0) := hd_rd (hs 3 _ rfl) b4 a25
  have t74 : sy_dv F' (.inr (.inl 74)) = .int ((sy_ai F 25).getD (sy_i F 4).toNatClampNeg 0) := hd_rd (hs 4 _ rfl) b4 a25
  have b69 := hd_b (F := F) (F' := F') (k := 69) (hF 69 (by decide))
  have hB' : iv_in F' iv_B4 := iv_in_eq hB (fun j hj => hF j (Nat.lt_of_lt_of_le hj (by decide +kernel)))
  refine ⟨List.forall_mem_cons.mpr ⟨hd_p0 b6 rfl (by have hc : ((0) : Int32).toInt = 0 := (by decide); omega), List.forall_mem_cons.mpr ⟨hd_pb b4 (by first | exact h1 | exact h1), List.forall_mem_cons.mpr ⟨hd_p1 t70 rfl (by have hc : ((7) : Int32).toInt = 7 := (by decide); omega), List.forall_mem_cons.mpr ⟨hd_p0 b6 rfl (by have hc : ((0) : Int32).toInt = 0 := (by decide); omega), List.forall_mem_cons.mpr ⟨hd_pb b4 (by first | exact h4 | exact h4), List.forall_mem_cons.mpr ⟨hd_p1 t71 rfl (by have hc : ((8) : Int32).toInt = 8 := (by decide); omega), List.forall_mem_cons.mpr ⟨hd_p0 b6 rfl (by have hc : ((0) : Int32).toInt = 0 := (by decide); omega), List.forall_mem_cons.mpr ⟨hd_pb b4 (by first | exact h7 | exact h7), List.forall_mem_cons.mpr ⟨hd_p0 t72 rfl (by have hc : ((9) : Int32).toInt = 9 := (by decide); omega), List.forall_mem_cons.mpr ⟨hd_p0 b6 rfl (by have hc : ((0) : Int32).toInt = 0 := (by decide); omega), List.forall_mem_cons.mpr ⟨hd_pb b4 (by first | exact h10 | exact h10), List.forall_mem_cons.mpr ⟨hd_p1 t73 rfl (by have hc : ((10) : Int32).toInt = 10 := (by decide); omega), List.forall_mem_cons.mpr ⟨hd_p0 b6 rfl (by have hc : ((0) : Int32).toInt = 0 := (by decide); omega), List.forall_mem_cons.mpr ⟨hd_pb b4 (by first | exact h13 | exact h13), List.forall_mem_cons.mpr ⟨hd_p1 t74 rfl (by have hc : ((15) : Int32).toInt = 15 := (by decide); omega), fun _ h => absurd h List.not_mem_nil⟩⟩⟩⟩⟩⟩⟩⟩⟩⟩⟩⟩⟩⟩⟩, ?_⟩
  refine k _ ?_ ?_ ?_
  · exact fun j hj _ => (hd_keep hB' (Nat.lt_of_lt_of_le hj (by decide +kernel)) (by simp)).trans (hF j (Nat.lt_of_lt_of_le hj (by decide)))
  · exact hd_gi (x := .inr (.inl 69)) (by decide +kernel) b69
  · exact hd_gi (x := .inl (.int 0)) (by decide +kernel) rfl
theorem ex_96_p7 {Ls : Nat} {xs : Nat → Int32} {d : Nat} {Q : Option Value → jm_h → Prop} (hd : 4 ≤ d) (F : Nat → sy_d) (X1 X2 : List jm_c) (hB : iv_in F iv_B4)
    (h0 : (sy_i F 6).toInt = 0)
    (h1 : 0 ≤ (sy_i F 4).toInt ∧ (sy_i F 4).toInt < 403)
    (h2 : ((sy_ai F 25).getD (sy_i F 4).toNatClampNeg 0).toInt ≠ 7)
    (h3 : (sy_i F 6).toInt = 0)
    (h4 : 0 ≤ (sy_i F 4).toInt ∧ (sy_i F 4).toInt < 403)
    (h5 : ((sy_ai F 25).getD (sy_i F 4).toNatClampNeg 0).toInt = 8)
    (h6 : (sy_i F 6).toInt = 0)
    (h7 : 0 ≤ (sy_i F 4).toInt ∧ (sy_i F 4).toInt < 403)
    (h8 : ((sy_ai F 25).getD (sy_i F 4).toNatClampNeg 0).toInt ≠ 10)
    (h9 : (sy_i F 6).toInt = 0)
    (h10 : 0 ≤ (sy_i F 4).toInt ∧ (sy_i F 4).toInt < 403)
    (h11 : ((sy_ai F 25).getD (sy_i F 4).toNatClampNeg 0).toInt ≠ 15)
    (k : ∀ F1 : Nat → sy_d, (∀ j, j < 69 → True → F1 j = F j) → F1 69 = .inl (.int (sy_i F 69)) → F1 70 = .inl (.int ((0 : Int32))) → hd_W Ls xs d jm_M164 Q (234, sy_dL F1 [some (.inl (.ref 1000)), some (.inr (.inl 69)), some (.inl (.int 1))], sy_dS F1 [.inr (.inl 70), .inl (.ref 1000)], sy_dh F1 X1 X2 (iv_H 4), 0, 0)) :
    hd_W Ls xs d jm_M164 Q (96, sy_dL F [some (.inl (.ref 1000)), some (.inr (.inl 69)), some (.inl (.int 1))], sy_dS F [], sy_dh F X1 X2 (iv_H 4), 0, 0) := by
  refine hd_run (s := 4) (nv := 70) (pc := 234) (L := [some (.inl (.ref 1000)), some (.inr (.inl 69)), some (.inl (.int 1))]) (S := [.inr (.inl 70), .inl (.ref 1000)]) (uh := hd_ov (iv_id 0 iv_B4) []) (ul := [.inl (.inr (.inl 69)), .inl (.inl (.int 0))]) (f := true) (sp := [115, 206, 234]) (d0 := 3) (O := [false, true, false, false, false, true, false, true]) (T := [(30, [.inr (.inl 4)], [.inr (.inl 25)]), (30, [.inr (.inl 4)], [.inr (.inl 25)]), (30, [.inr (.inl 4)], [.inr (.inl 25)]), (30, [.inr (.inl 4)], [.inr (.inl 25)])]) (P := [(0, .inr (.inl 6), .inl (.int 0)), (6, .inr (.inl 4), .inl (.ref 403)), (1, .inr (.inl 70), .inl (.int 7)), (0, .inr (.inl 6), .inl (.int 0)), (6, .inr (.inl 4), .inl (.ref 403)), (0, .inr (.inl 71), .inl (.int 8)), (0, .inr (.inl 6), .inl (.int 0)), (6, .inr (.inl 4), .inl (.ref 403)), (1, .inr (.inl 72), .inl (.int 10)), (0, .inr (.inl 6), .inl (.int 0)), (6, .inr (.inl 4), .inl (.ref 403)), (1, .inr (.inl 73), .inl (.int 15))]) jm_ok164 (by decide +kernel) (by decide +kernel) hd F X1 X2 (fun F' hF hs => ?_)
  have b6 := hd_b (F := F) (F' := F') (k := 6) (hF 6 (by decide))
  have b4 := hd_b (F := F) (F' := F') (k := 4) (hF 4 (by decide))
  have a25 := hd_ba (F := F) (F' := F') (k := 25) (hF 25 (by decide))
  have t70 : sy_dv F' (.inr (.inl 70)) = .int ((sy_ai F 25).getD (sy_i F 4).toNatClampNeg 0) := hd_rd (hs 0 _ rfl) b4 a25
  have t71 : sy_dv F' (.inr (.inl 71)) = .int ((sy_ai F 25).getD (sy_i F 4).toNatClampNeg 0) := hd_rd (hs 1 _ rfl) b4 a25
  have t72 : sy_dv F' (.inr (.inl 72)) = .int ((sy_ai F 25).getD (sy_i F 4).toNatClampNeg 0) := hd_rd (hs 2 _ rfl) b4 a25
  have t73 : sy_dv F' (.inr (.inl 73)) = .int ((sy_ai F 25).getD (sy_i F 4).toNatClampNeg 0) := hd_rd (hs 3 _ rfl) b4 a25
  have b69 := hd_b (F := F) (F' := F') (k := 69) (hF 69 (by decide))
  have hB' : iv_in F' iv_B4 := iv_in_eq hB (fun j hj => hF j (Nat.lt_of_lt_of_le hj (by decide +kernel)))
  refine ⟨List.forall_mem_cons.mpr ⟨hd_p0 b6 rfl (by have hc : ((0) : Int32).toInt = 0 := (by decide); omega), List.forall_mem_cons.mpr ⟨hd_pb b4 (by first | exact h1 | exact h1), List.forall_mem_cons.mpr ⟨hd_p1 t70 rfl (by have hc : ((7) : Int32).toInt = 7 := (by decide); omega), List.forall_mem_cons.mpr ⟨hd_p0 b6 rfl (by have hc : ((0) : Int32).toInt = 0 := (by decide); omega), List.forall_mem_cons.mpr ⟨hd_pb b4 (by first | exact h4 | exact h4), List.forall_mem_cons.mpr ⟨hd_p0 t71 rfl (by have hc : ((8) : Int32).toInt = 8 := (by decide); omega), List.forall_mem_cons.mpr ⟨hd_p0 b6 rfl (by have hc : ((0) : Int32).toInt = 0 := (by decide); omega), List.forall_mem_cons.mpr ⟨hd_pb b4 (by first | exact h7 | exact h7), List.forall_mem_cons.mpr ⟨hd_p1 t72 rfl (by have hc : ((10) : Int32).toInt = 10 := (by decide); omega), List.forall_mem_cons.mpr ⟨hd_p0 b6 rfl (by have hc : ((0) : Int32).toInt = 0 := (by decide); omega), List.forall_mem_cons.mpr ⟨hd_pb b4 (by first | exact h10 | exact h10), List.forall_mem_cons.mpr ⟨hd_p1 t73 rfl (by have hc : ((15) : Int32).toInt = 15 := (by decide); omega), fun _ h => absurd h List.not_mem_nil⟩⟩⟩⟩⟩⟩⟩⟩⟩⟩⟩⟩, ?_⟩
  refine k _ ?_ ?_ ?_
  · exact fun j hj _ => (hd_keep hB' (Nat.lt_of_lt_of_le hj (by decide +kernel)) (by simp)).trans (hF j (Nat.lt_of_lt_of_le hj (by decide)))
  · exact hd_gi (x := .inr (.inl 69)) (by decide +kernel) b69
  · exact hd_gi (x := .inl (.int 0)) (by decide +kernel) rfl
theorem ex_96_p8 {Ls : Nat} {xs : Nat → Int32} {d : Nat} {Q : Option Value → jm_h → Prop} (hd : 4 ≤ d) (F : Nat → sy_d) (X1 X2 : List jm_c) (hB : iv_in F iv_B4)
    (h0 : (sy_i F 6).toInt = 0)
    (h1 : 0 ≤ (sy_i F 4).toInt ∧ (sy_i F 4).toInt < 403)
    (h2 : ((sy_ai F 25).getD (sy_i F 4).toNatClampNeg 0).toInt = 7)
    (h3 : (sy_i F 5).toInt ≤ (sy_i F 69).toInt)
    (h4 : (sy_i F 6).toInt = 0)
    (h5 : 0 ≤ (sy_i F 4).toInt ∧ (sy_i F 4).toInt < 403)
    (h6 : ((sy_ai F 25).getD (sy_i F 4).toNatClampNeg 0).toInt ≠ 8)
    (h7 : (sy_i F 6).toInt = 0)
    (h8 : 0 ≤ (sy_i F 4).toInt ∧ (sy_i F 4).toInt < 403)
    (h9 : ((sy_ai F 25).getD (sy_i F 4).toNatClampNeg 0).toInt ≠ 9)
    (h10 : (sy_i F 6).toInt = 0)
    (h11 : 0 ≤ (sy_i F 4).toInt ∧ (sy_i F 4).toInt < 403)
    (h12 : ((sy_ai F 25).getD (sy_i F 4).toNatClampNeg 0).toInt ≠ 10)
    (h13 : (sy_i F 6).toInt = 0)
    (h14 : 0 ≤ (sy_i F 4).toInt ∧ (sy_i F 4).toInt < 403)
    (h15 : ((sy_ai F 25).getD (sy_i F 4).toNatClampNeg 0).toInt ≠ 15)
    (h16 : (sy_i F 5).toInt ≤ (sy_i F 69).toInt)
    (k : ∀ F1 : Nat → sy_d, (∀ j, j < 69 → True → F1 j = F j) → hd_W Ls xs d jm_M164 Q (206, sy_dL F1 [some (.inl (.ref 1000)), none, none], sy_dS F1 [.inl (.int 0), .inl (.ref 1000)], sy_dh F1 X1 X2 (iv_H 4), 0, 0)) :
    hd_W Ls xs d jm_M164 Q (96, sy_dL F [some (.inl (.ref 1000)), some (.inr (.inl 69)), some (.inl (.int 1))], sy_dS F [], sy_dh F X1 X2 (iv_H 4), 0, 0) := by
  refine hd_run (s := 4) (nv := 70) (pc := 206) (L := [some (.inl (.ref 1000)), none, none]) (S := [.inl (.int 0), .inl (.ref 1000)]) (uh := hd_ov (iv_id 0 iv_B4) []) (ul := []) (f := true) (sp := [115, 206, 234]) (d0 := 3) (O := [false, false, true, false, true, false, true, false, true, false, true, true]) (T := [(30, [.inr (.inl 4)], [.inr (.inl 25)]), (30, [.inr (.inl 4)], [.inr (.inl 25)]), (30, [.inr (.inl 4)], [.inr (.inl 25)]), (30, [.inr (.inl 4)], [.inr (.inl 25)]), (30, [.inr (.inl 4)], [.inr (.inl 25)])]) (P := [(0, .inr (.inl 6), .inl (.int 0)), (6, .inr (.inl 4), .inl (.ref 403)), (0, .inr (.inl 70), .inl (.int 7)), (4, .inr (.inl 5), .inr (.inl 69)), (0, .inr (.inl 6), .inl (.int 0)), (6, .inr (.inl 4), .inl (.ref 403)), (1, .inr (.inl 71), .inl (.int 8)), (0, .inr (.inl 6), .inl (.int 0)), (6, .inr (.inl 4), .inl (.ref 403)), (1, .inr (.inl 72), .inl (.int 9)), (0, .inr (.inl 6), .inl (.int 0)), (6, .inr (.inl 4), .inl (.ref 403)), (1, .inr (.inl 73), .inl (.int 10)), (0, .inr (.inl 6), .inl (.int 0)), (6, .inr (.inl 4), .inl (.ref 403)), (1, .inr (.inl 74), .inl (.int 15)), (4, .inr (.inl 5), .inr (.inl 69))]) jm_ok164 (by decide +kernel) (by decide +kernel) hd F X1 X2 (fun F' hF hs => ?_)
  have b6 := hd_b (F := F) (F' := F') (k := 6) (hF 6 (by decide))
  have b4 := hd_b (F := F) (F' := F') (k := 4) (hF 4 (by decide))
  have a25 := hd_ba (F := F) (F' := F') (k := 25) (hF 25 (by decide))
  have t70 : sy_dv F' (.inr (.inl 70)) = .int ((sy_ai F 25).getD (sy_i F 4).toNatClampNeg 0) := hd_rd (hs 0 _ rfl) b4 a25
  have b5 := hd_b (F := F) (F' := F') (k := 5) (hF 5 (by decide))
  have b69 := hd_b (F := F) (F' := F') (k := 69) (hF 69 (by decide))
  have t71 : sy_dv F' (.inr (.inl 71)) = .int ((sy_ai F 25).getD (sy_i F 4).toNatClampNeg 0) := hd_rd (hs 1 _ rfl) b4 a25
  have t72 : sy_dv F' (.inr (.inl 72)) = .int ((sy_ai F 25).getD (sy_i F 4).toNatClampNeg 0) := hd_rd (hs 2 _ rfl) b4 a25
  have t73 : sy_dv F' (.inr (.inl 73)) = .int ((sy_ai F 25).getD (sy_i F 4).toNatClampNeg 0) := hd_rd (hs 3 _ rfl) b4 a25
  have t74 : sy_dv F' (.inr (.inl 74)) = .int ((sy_ai F 25).getD (sy_i F 4).toNatClampNeg 0) := hd_rd (hs 4 _ rfl) b4 a25
  have hB' : iv_in F' iv_B4 := iv_in_eq hB (fun j hj => hF j (Nat.lt_of_lt_of_le hj (by decide +kernel)))
  refine ⟨List.forall_mem_cons.mpr ⟨hd_p0 b6 rfl (by have hc : ((0) : Int32).toInt = 0 := (by decide); omega), List.forall_mem_cons.mpr ⟨hd_pb b4 (by first | exact h1 | exact h1), List.forall_mem_cons.mpr ⟨hd_p0 t70 rfl (by have hc : ((7) : Int32).toInt = 7 := (by decide); omega), List.forall_mem_cons.mpr ⟨hd_p4 b5 b69 h3, List.forall_mem_cons.mpr ⟨hd_p0 b6 rfl (by have hc : ((0) : Int32).toInt = 0 := (by decide); omega), List.forall_mem_cons.mpr ⟨hd_pb b4 (by first | exact h5 | exact h5), List.forall_mem_cons.mpr ⟨hd_p1 t71 rfl (by have hc : ((8) : Int32).toInt = 8 := (by decide); omega), List.forall_mem_cons.mpr ⟨hd_p0 b6 rfl (by have hc : ((0) : Int32).toInt = 0 := (by decide); omega), List.forall_mem_cons.mpr ⟨hd_pb b4 (by first | exact h8 | exact h8), List.forall_mem_cons.mpr ⟨hd_p1 t72 rfl (by have hc : ((9) : Int32).toInt = 9 := (by decide); omega), List.forall_mem_cons.mpr ⟨hd_p0 b6 rfl (by have hc : ((0) : Int32).toInt = 0 := (by decide); omega), List.forall_mem_cons.mpr ⟨hd_pb b4 (by first | exact h11 | exact h11), List.forall_mem_cons.mpr ⟨hd_p1 t73 rfl (by have hc : ((10) : Int32).toInt = 10 := (by decide); omega), List.forall_mem_cons.mpr ⟨hd_p0 b6 rfl (by have hc : ((0) : Int32).toInt = 0 := (by decide); omega), List.forall_mem_cons.mpr ⟨hd_pb b4 (by first | exact h14 | exact h14), List.forall_mem_cons.mpr ⟨hd_p1 t74 rfl (by have hc : ((15) : Int32).toInt = 15 := (by decide); omega), List.forall_mem_cons.mpr ⟨hd_p4 b5 b69 h16, fun _ h => absurd h List.not_mem_nil⟩⟩⟩⟩⟩⟩⟩⟩⟩⟩⟩⟩⟩⟩⟩⟩⟩, ?_⟩
  refine k _ ?_
  · exact fun j hj _ => (hd_keep hB' (Nat.lt_of_lt_of_le hj (by decide +kernel)) (by simp)).trans (hF j (Nat.lt_of_lt_of_le hj (by decide)))
theorem ex_96_p9 {Ls : Nat} {xs : Nat → Int32} {d : Nat} {Q : Option Value → jm_h → Prop} (hd : 4 ≤ d) (F : Nat → sy_d) (X1 X2 : List jm_c) (hB : iv_in F iv_B4)
    (h0 : (sy_i F 6).toInt = 0)
    (h1 : 0 ≤ (sy_i F 4).toInt ∧ (sy_i F 4).toInt < 403)
    (h2 : ((sy_ai F 25).getD (sy_i F 4).toNatClampNeg 0).toInt = 7)
    (h3 : (sy_i F 5).toInt ≤ (sy_i F 69).toInt)
    (h4 : (sy_i F 6).toInt = 0)
    (h5 : 0 ≤ (sy_i F 4).toInt ∧ (sy_i F 4).toInt < 403)
    (h6 : ((sy_ai F 25).getD (sy_i F 4).toNatClampNeg 0).toInt ≠ 8)
    (h7 : (sy_i F 6).toInt = 0)
    (h8 : 0 ≤ (sy_i F 4).toInt ∧ (sy_i F 4).toInt < 403)
    (h9 : ((sy_ai F 25).getD (sy_i F 4).toNatClampNeg 0).toInt ≠ 9)
    (h10 : (sy_i F 6).toInt = 0)
    (h11 : 0 ≤ (sy_i F 4).toInt ∧ (sy_i F 4).toInt < 403)
    (h12 : ((sy_ai F 25).getD (sy_i F 4).toNatClampNeg 0).toInt ≠ 10)
    (h13 : (sy_i F 6).toInt = 0)
    (h14 : 0 ≤ (sy_i F 4).toInt ∧ (sy_i F 4).toInt < 403)
    (h15 : ((sy_ai F 25).getD (sy_i F 4).toNatClampNeg 0).toInt ≠ 15)
    (h16 : (sy_i F 69).toInt < (sy_i F 5).toInt)
    (h17 : (sy_i F 6).toInt ≤ 0)
    (h18 : 0 ≤ (sy_i F 4).toInt ∧ (sy_i F 4).toInt < 403)
    (k : ∀ F1 : Nat → sy_d, (∀ j, j < 69 → j ≠ 6 ∧ j ≠ 7 → F1 j = F j) → F1 6 = .inl (.int ((1 : Int32))) → F1 7 = .inl (.int ((sy_ai F 26).getD (sy_i F 4).toNatClampNeg 0)) → hd_W Ls xs d jm_M164 Q (206, sy_dL F1 [some (.inl (.ref 1000)), none, none], sy_dS F1 [.inl (.int 0), .inl (.ref 1000)], sy_dh F1 X1 X2 (iv_H 4), 0, 0)) :
    hd_W Ls xs d jm_M164 Q (96, sy_dL F [some (.inl (.ref 1000)), some (.inr (.inl 69)), some (.inl (.int 1))], sy_dS F [], sy_dh F X1 X2 (iv_H 4), 0, 0) := by
  refine hd_run (s := 4) (nv := 70) (pc := 206) (L := [some (.inl (.ref 1000)), none, none]) (S := [.inl (.int 0), .inl (.ref 1000)]) (uh := hd_ov (iv_id 0 iv_B4) [(6, .inl (.inl (.int 1))), (7, .inl (.inr (.inl 75)))]) (ul := []) (f := true) (sp := [115, 206, 234]) (d0 := 3) (O := [false, false, true, false, true, false, true, false, true, false, true, false, true]) (T := [(30, [.inr (.inl 4)], [.inr (.inl 25)]), (30, [.inr (.inl 4)], [.inr (.inl 25)]), (30, [.inr (.inl 4)], [.inr (.inl 25)]), (30, [.inr (.inl 4)], [.inr (.inl 25)]), (30, [.inr (.inl 4)], [.inr (.inl 25)]), (30, [.inr (.inl 4)], [.inr (.inl 26)])]) (P := [(0, .inr (.inl 6), .inl (.int 0)), (6, .inr (.inl 4), .inl (.ref 403)), (0, .inr (.inl 70), .inl (.int 7)), (4, .inr (.inl 5), .inr (.inl 69)), (0, .inr (.inl 6), .inl (.int 0)), (6, .inr (.inl 4), .inl (.ref 403)), (1, .inr (.inl 71), .inl (.int 8)), (0, .inr (.inl 6), .inl (.int 0)), (6, .inr (.inl 4), .inl (.ref 403)), (1, .inr (.inl 72), .inl (.int 9)), (0, .inr (.inl 6), .inl (.int 0)), (6, .inr (.inl 4), .inl (.ref 403)), (1, .inr (.inl 73), .inl (.int 10)), (0, .inr (.inl 6), .inl (.int 0)), (6, .inr (.inl 4), .inl (.ref 403)), (1, .inr (.inl 74), .inl (.int 15)), (5, .inr (.inl 5), .inr (.inl 69)), (4, .inr (.inl 6), .inl (.int 0)), (6, .inr (.inl 4), .inl (.ref 403))]) jm_ok164 (by decide +kernel) (by decide +kernel) hd F X1 X2 (fun F' hF hs => ?_)
  have b6 := hd_b (F := F) (F' := F') (k := 6) (hF 6 (by decide))
  have b4 := hd_b (F := F) (F' := F') (k := 4) (hF 4 (by decide))
  have a25 := hd_ba (F := F) (F' := F') (k := 25) (hF 25 (by decide))
  have t70 : sy_dv F' (.inr (.inl 70)) = .int ((sy_ai F 25).getD (sy_i F 4).toNatClampNeg 0) := hd_rd (hs 0 _ rfl) b4 a25
  have b5 := hd_b (F := F) (F' := F') (k := 5) (hF 5 (by decide))
  have b69 := hd_b (F := F) (F' := F') (k := 69) (hF 69 (by decide))
  have t71 : sy_dv F' (.inr (.inl 71)) = .int ((sy_ai F 25).getD (sy_i F 4).toNatClampNeg 0) := hd_rd (hs 1 _ rfl) b4 a25
  have t72 : sy_dv F' (.inr (.inl 72)) = .int ((sy_ai F 25).getD (sy_i F 4).toNatClampNeg 0) := hd_rd (hs 2 _ rfl) b4 a25
  have t73 : sy_dv F' (.inr (.inl 73)) = .int ((sy_ai F 25).getD (sy_i F 4).toNatClampNeg 0) := hd_rd (hs 3 _ rfl) b4 a25
  have t74 : sy_dv F' (.inr (.inl 74)) = .int ((sy_ai F 25).getD (sy_i F 4).toNatClampNeg 0) := hd_rd (hs 4 _ rfl) b4 a25
  have a26 := hd_ba (F := F) (F' := F') (k := 26) (hF 26 (by decide))
  have t75 : sy_dv F' (.inr (.inl 75)) = .int ((sy_ai F 26).getD (sy_i F 4).toNatClampNeg 0) := hd_rd (hs 5 _ rfl) b4 a26
  have hB' : iv_in F' iv_B4 := iv_in_eq hB (fun j hj => hF j (Nat.lt_of_lt_of_le hj (by decide +kernel)))
  refine ⟨List.forall_mem_cons.mpr ⟨hd_p0 b6 rfl (by have hc : ((0) : Int32).toInt = 0 := (by decide); omega), List.forall_mem_cons.mpr ⟨hd_pb b4 (by first | exact h1 | exact h1), List.forall_mem_cons.mpr ⟨hd_p0 t70 rfl (by have hc : ((7) : Int32).toInt = 7 := (by decide); omega), List.forall_mem_cons.mpr ⟨hd_p4 b5 b69 h3, List.forall_mem_cons.mpr ⟨hd_p0 b6 rfl (by have hc : ((0) : Int32).toInt = 0 := (by decide); omega), List.forall_mem_cons.mpr ⟨hd_pb b4 (by first | exact h5 | exact h5), List.forall_mem_cons.mpr ⟨hd_p1 t71 rfl (by have hc : ((8) : Int32).toInt = 8 := (by decide); omega), List.forall_mem_cons.mpr ⟨hd_p0 b6 rfl (by have hc : ((0) : Int32).toInt = 0 := (by decide); omega), List.forall_mem_cons.mpr ⟨hd_pb b4 (by first | exact h8 | exact h8), List.forall_mem_cons.mpr ⟨hd_p1 t72 rfl (by have hc : ((9) : Int32).toInt = 9 := (by decide); omega), List.forall_mem_cons.mpr ⟨hd_p0 b6 rfl (by have hc : ((0) : Int32).toInt = 0 := (by decide); omega), List.forall_mem_cons.mpr ⟨hd_pb b4 (by first | exact h11 | exact h11), List.forall_mem_cons.mpr ⟨hd_p1 t73 rfl (by have hc : ((10) : Int32).toInt = 10 := (by decide); omega), List.forall_mem_cons.mpr ⟨hd_p0 b6 rfl (by have hc : ((0) : Int32).toInt = 0 := (by decide); omega), List.forall_mem_cons.mpr ⟨hd_pb b4 (by first | exact h14 | exact h14), List.forall_mem_cons.mpr ⟨hd_p1 t74 rfl (by have hc : ((15) : Int32).toInt = 15 := (by decide); omega), List.forall_mem_cons.mpr ⟨hd_p5 b5 b69 h16, List.forall_mem_cons.mpr ⟨hd_p4 b6 rfl (by have hc : ((0) : Int32).toInt = 0 := (by decide); omega), List.forall_mem_cons.mpr ⟨hd_pb b4 (by first | exact h18 | exact h18), fun _ h => absurd h List.not_mem_nil⟩⟩⟩⟩⟩⟩⟩⟩⟩⟩⟩⟩⟩⟩⟩⟩⟩⟩⟩, ?_⟩
  refine k _ ?_ ?_ ?_
  · exact fun j hj hn => (hd_keep hB' (Nat.lt_of_lt_of_le hj (by decide +kernel)) (by simp; omega)).trans (hF j (Nat.lt_of_lt_of_le hj (by decide)))
  · exact hd_gi (x := .inl (.int 1)) (by decide +kernel) rfl
  · exact hd_gi (x := .inr (.inl 75)) (by decide +kernel) t75
theorem ex_96_p10 {Ls : Nat} {xs : Nat → Int32} {d : Nat} {Q : Option Value → jm_h → Prop} (hd : 4 ≤ d) (F : Nat → sy_d) (X1 X2 : List jm_c) (hB : iv_in F iv_B4)
    (h0 : (sy_i F 6).toInt = 0)
    (h1 : 0 ≤ (sy_i F 4).toInt ∧ (sy_i F 4).toInt < 403)
    (h2 : ((sy_ai F 25).getD (sy_i F 4).toNatClampNeg 0).toInt = 7)
    (h3 : (sy_i F 69).toInt < (sy_i F 5).toInt)
    (k : ∀ F1 : Nat → sy_d, (∀ j, j < 69 → True → F1 j = F j) → F1 69 = .inl (.int (sy_i F 69)) → hd_W Ls xs d jm_M164 Q (115, sy_dL F1 [some (.inl (.ref 1000)), some (.inr (.inl 69)), some (.inl (.int 1))], sy_dS F1 [.inl (.int 0), .inl (.ref 1000)], sy_dh F1 X1 X2 (iv_H 4), 0, 0)) :
    hd_W Ls xs d jm_M164 Q (96, sy_dL F [some (.inl (.ref 1000)), some (.inr (.inl 69)), some (.inl (.int 1))], sy_dS F [], sy_dh F X1 X2 (iv_H 4), 0, 0) := by
  refine hd_run (s := 4) (nv := 70) (pc := 115) (L := [some (.inl (.ref 1000)), some (.inr (.inl 69)), some (.inl (.int 1))]) (S := [.inl (.int 0), .inl (.ref 1000)]) (uh := hd_ov (iv_id 0 iv_B4) []) (ul := [.inl (.inr (.inl 69))]) (f := true) (sp := [115, 206, 234]) (d0 := 3) (O := [false, false, false]) (T := [(30, [.inr (.inl 4)], [.inr (.inl 25)])]) (P := [(0, .inr (.inl 6), .inl (.int 0)), (6, .inr (.inl 4), .inl (.ref 403)), (0, .inr (.inl 70), .inl (.int 7)), (5, .inr (.inl 5), .inr (.inl 69))]) jm_ok164 (by decide +kernel) (by decide +kernel) hd F X1 X2 (fun F' hF hs => ?_)
  have b6 := hd_b (F := F) (F' := F') (k := 6) (hF 6 (by decide))
  have b4 := hd_b (F := F) (F' := F') (k := 4) (hF 4 (by decide))
  have a25 := hd_ba (F := F) (F' := F') (k := 25) (hF 25 (by decide))
  have t70 : sy_dv F' (.inr (.inl 70)) = .int ((sy_ai F 25).getD (sy_i F 4).toNatClampNeg 0) := hd_rd (hs 0 _ rfl) b4 a25
  have b5 := hd_b (F := F) (F' := F') (k := 5) (hF 5 (by decide))
  have b69 := hd_b (F := F) (F' := F') (k := 69) (hF 69 (by decide))
  have hB' : iv_in F' iv_B4 := iv_in_eq hB (fun j hj => hF j (Nat.lt_of_lt_of_le hj (by decide +kernel)))
  refine ⟨List.forall_mem_cons.mpr ⟨hd_p0 b6 rfl (by have hc : ((0) : Int32).toInt = 0 := (by decide); omega), List.forall_mem_cons.mpr ⟨hd_pb b4 (by first | exact h1 | exact h1), List.forall_mem_cons.mpr ⟨hd_p0 t70 rfl (by have hc : ((7) : Int32).toInt = 7 := (by decide); omega), List.forall_mem_cons.mpr ⟨hd_p5 b5 b69 h3, fun _ h => absurd h List.not_mem_nil⟩⟩⟩⟩, ?_⟩
  refine k _ ?_ ?_
  · exact fun j hj _ => (hd_keep hB' (Nat.lt_of_lt_of_le hj (by decide +kernel)) (by simp)).trans (hF j (Nat.lt_of_lt_of_le hj (by decide)))
  · exact hd_gi (x := .inr (.inl 69)) (by decide +kernel) b69
theorem ex_118_p0 {Ls : Nat} {xs : Nat → Int32} {d : Nat} {Q : Option Value → jm_h → Prop} (hd : 4 ≤ d) (F : Nat → sy_d) (X1 X2 : List jm_c) (hB : iv_in F iv_B4)
    (h0 : (sy_i F 4).toInt ≠ 400)
    (k : ∀ F1 : Nat → sy_d, (∀ j, j < 69 → j ≠ 4 ∧ j ≠ 5 ∧ j ≠ 16 → F1 j = F j) → F1 4 = .inl (.int ((sy_i F 4) + ((1 : Int32)))) → F1 5 = .inl (.int ((sy_i F 5) - ((1 : Int32)))) → F1 16 = .inl (.int ((sy_i F 16) - ((1 : Int32)))) → F1 69 = .inl (.int (sy_i F 69)) → hd_W Ls xs d jm_M164 Q (96, sy_dL F1 [some (.inl (.ref 1000)), some (.inr (.inl 69)), some (.inl (.int 1))], sy_dS F1 [], sy_dh F1 X1 X2 (iv_H 4), 0, 0)) :
    hd_W Ls xs d jm_M164 Q (118, sy_dL F [some (.inl (.ref 1000)), some (.inr (.inl 69)), some (.inl (.int 1))], sy_dS F [], sy_dh F X1 X2 (iv_H 4), 0, 0) := by
  refine hd_run (s := 4) (nv := 70) (pc := 96) (L := [some (.inl (.ref 1000)), some (.inr (.inl 69)), some (.inl (.int 1))]) (S := []) (uh := hd_ov (iv_id 0 iv_B4) [(4, .inl (.inr (.inl 72))), (5, .inl (.inr (.inl 71))), (16, .inl (.inr (.inl 70)))]) (ul := [.inl (.inr (.inl 69))]) (f := false) (sp := [96]) (d0 := 3) (O := [true]) (T := [(1, [.inr (.inl 16), .inl (.int 1)], []), (1, [.inr (.inl 5), .inl (.int 1)], []), (0, [.inr (.inl 4), .inl (.int 1)], [])]) (P := [(1, .inr (.inl 4), .inl (.int 400))]) jm_ok164 (by decide +kernel) (by decide +kernel) hd F X1 X2 (fun F' hF hs => ?_)
  have b4 := hd_b (F := F) (F' := F') (k := 4) (hF 4 (by decide))
  have t72 : sy_dv F' (.inr (.inl 72)) = .int ((sy_i F 4) + ((1 : Int32))) := hd_o (hs 2 _ rfl) b4 rfl rfl
  have b5 := hd_b (F := F) (F' := F') (k := 5) (hF 5 (by decide))
  have t71 : sy_dv F' (.inr (.inl 71)) = .int ((sy_i F 5) - ((1 : Int32))) := hd_o (hs 1 _ rfl) b5 rfl rfl
  have b16 := hd_b (F := F) (F' := F') (k := 16) (hF 16 (by decide))
  have t70 : sy_dv F' (.inr (.inl 70)) = .int ((sy_i F 16) - ((1 : Int32))) := hd_o (hs 0 _ rfl) b16 rfl rfl
  have b69 := hd_b (F := F) (F' := F') (k := 69) (hF 69 (by decide))
  have hB' : iv_in F' iv_B4 := iv_in_eq hB (fun j hj => hF j (Nat.lt_of_lt_of_le hj (by decide +kernel)))
  refine ⟨List.forall_mem_cons.mpr ⟨hd_p1 b4 rfl (by have hc : ((400) : Int32).toInt = 400 := (by decide); omega), fun _ h => absurd h List.not_mem_nil⟩, ?_⟩
  refine k _ ?_ ?_ ?_ ?_ ?_
  · exact fun j hj hn => (hd_keep hB' (Nat.lt_of_lt_of_le hj (by decide +kernel)) (by simp; omega)).trans (hF j (Nat.lt_of_lt_of_le hj (by decide)))
  · exact hd_gi (x := .inr (.inl 72)) (by decide +kernel) t72
  · exact hd_gi (x := .inr (.inl 71)) (by decide +kernel) t71
  · exact hd_gi (x := .inr (.inl 70)) (by decide +kernel) t70
  · exact hd_gi (x := .inr (.inl 69)) (by decide +kernel) b69
theorem ex_118_p1 {Ls : Nat} {xs : Nat → Int32} {d : Nat} {Q : Option Value → jm_h → Prop} (hd : 4 ≤ d) (F : Nat → sy_d) (X1 X2 : List jm_c) (hB : iv_in F iv_B4)
    (h0 : (sy_i F 4).toInt = 400)
    (h1 : (sy_i F 6).toInt ≤ 0)
    (h2 : 0 ≤ (sy_i F 4).toInt ∧ (sy_i F 4).toInt < 403)
    (k : ∀ F1 : Nat → sy_d, (∀ j, j < 69 → j ≠ 5 ∧ j ≠ 6 ∧ j ≠ 7 ∧ j ≠ 16 → F1 j = F j) → F1 5 = .inl (.int ((sy_i F 5) - ((1 : Int32)))) → F1 6 = .inl (.int ((2 : Int32))) → F1 7 = .inl (.int ((sy_ai F 26).getD (sy_i F 4).toNatClampNeg 0)) → F1 16 = .inl (.int ((sy_i F 16) - ((1 : Int32)))) → F1 69 = .inl (.int (sy_i F 69)) → hd_W Ls xs d jm_M164 Q (96, sy_dL F1 [some (.inl (.ref 1000)), some (.inr (.inl 69)), some (.inl (.int 1))], sy_dS F1 [], sy_dh F1 X1 X2 (iv_H 4), 0, 0)) :
    hd_W Ls xs d jm_M164 Q (118, sy_dL F [some (.inl (.ref 1000)), some (.inr (.inl 69)), some (.inl (.int 1))], sy_dS F [], sy_dh F X1 X2 (iv_H 4), 0, 0) := by
  refine hd_run (s := 4) (nv := 70) (pc := 96) (L := [some (.inl (.ref 1000)), some (.inr (.inl 69)), some (.inl (.int 1))]) (S := []) (uh := hd_ov (iv_id 0 iv_B4) [(5, .inl (.inr (.inl 71))), (6, .inl (.inl (.int 2))), (7, .inl (.inr (.inl 72))), (16, .inl (.inr (.inl 70)))]) (ul := [.inl (.inr (.inl 69))]) (f := false) (sp := [96]) (d0 := 3) (O := [false, true]) (T := [(1, [.inr (.inl 16), .inl (.int 1)], []), (1, [.inr (.inl 5), .inl (.int 1)], []), (30, [.inr (.inl 4)], [.inr (.inl 26)])]) (P := [(0, .inr (.inl 4), .inl (.int 400)), (4, .inr (.inl 6), .inl (.int 0)), (6, .inr (.inl 4), .inl (.ref 403))]) jm_ok164 (by decide +kernel) (by decide +kernel) hd F X1 X2 (fun F' hF hs => ?_)
  have b4 := hd_b (F := F) (F' := F') (k := 4) (hF 4 (by decide))
  have b6 := hd_b (F := F) (F' := F') (k := 6) (hF 6 (by decide))
  have b5 := hd_b (F := F) (F' := F') (k := 5) (hF 5 (by decide))
  have t71 : sy_dv F' (.inr (.inl 71)) = .int ((sy_i F 5) - ((1 : Int32))) := hd_o (hs 1 _ rfl) b5 rfl rfl
  have a26 := hd_ba (F := F) (F' := F') (k := 26) (hF 26 (by decide))
  have t72 : sy_dv F' (.inr (.inl 72)) = .int ((sy_ai F 26).getD (sy_i F 4).toNatClampNeg 0) := hd_rd (hs 2 _ rfl) b4 a26
  have b16 := hd_b (F := F) (F' := F') (k := 16) (hF 16 (by decide))
  have t70 : sy_dv F' (.inr (.inl 70)) = .int ((sy_i F 16) - ((1 : Int32))) := hd_o (hs 0 _ rfl) b16 rfl rfl
  have b69 := hd_b (F := F) (F' := F') (k := 69) (hF 69 (by decide))
  have hB' : iv_in F' iv_B4 := iv_in_eq hB (fun j hj => hF j (Nat.lt_of_lt_of_le hj (by decide +kernel)))
  refine ⟨List.forall_mem_cons.mpr ⟨hd_p0 b4 rfl (by have hc : ((400) : Int32).toInt = 400 := (by decide); omega), List.forall_mem_cons.mpr ⟨hd_p4 b6 rfl (by have hc : ((0) : Int32).toInt = 0 := (by decide); omega), List.forall_mem_cons.mpr ⟨hd_pb b4 (by first | exact h2 | exact h2), fun _ h => absurd h List.not_mem_nil⟩⟩⟩, ?_⟩
  refine k _ ?_ ?_ ?_ ?_ ?_ ?_
  · exact fun j hj hn => (hd_keep hB' (Nat.lt_of_lt_of_le hj (by decide +kernel)) (by simp; omega)).trans (hF j (Nat.lt_of_lt_of_le hj (by decide)))
  · exact hd_gi (x := .inr (.inl 71)) (by decide +kernel) t71
  · exact hd_gi (x := .inl (.int 2)) (by decide +kernel) rfl
  · exact hd_gi (x := .inr (.inl 72)) (by decide +kernel) t72
  · exact hd_gi (x := .inr (.inl 70)) (by decide +kernel) t70
  · exact hd_gi (x := .inr (.inl 69)) (by decide +kernel) b69
theorem ex_118_p2 {Ls : Nat} {xs : Nat → Int32} {d : Nat} {Q : Option Value → jm_h → Prop} (hd : 4 ≤ d) (F : Nat → sy_d) (X1 X2 : List jm_c) (hB : iv_in F iv_B4)
    (h0 : (sy_i F 4).toInt = 400)
    (h1 : 0 < (sy_i F 6).toInt)
    (k : ∀ F1 : Nat → sy_d, (∀ j, j < 69 → j ≠ 5 ∧ j ≠ 16 → F1 j = F j) → F1 5 = .inl (.int ((sy_i F 5) - ((1 : Int32)))) → F1 16 = .inl (.int ((sy_i F 16) - ((1 : Int32)))) → F1 69 = .inl (.int (sy_i F 69)) → hd_W Ls xs d jm_M164 Q (96, sy_dL F1 [some (.inl (.ref 1000)), some (.inr (.inl 69)), some (.inl (.int 1))], sy_dS F1 [], sy_dh F1 X1 X2 (iv_H 4), 0, 0)) :
    hd_W Ls xs d jm_M164 Q (118, sy_dL F [some (.inl (.ref 1000)), some (.inr (.inl 69)), some (.inl (.int 1))], sy_dS F [], sy_dh F X1 X2 (iv_H 4), 0, 0) := by
  refine hd_run (s := 4) (nv := 70) (pc := 96) (L := [some (.inl (.ref 1000)), some (.inr (.inl 69)), some (.inl (.int 1))]) (S := []) (uh := hd_ov (iv_id 0 iv_B4) [(5, .inl (.inr (.inl 71))), (16, .inl (.inr (.inl 70)))]) (ul := [.inl (.inr (.inl 69))]) (f := false) (sp := [96]) (d0 := 3) (O := [false, false]) (T := [(1, [.inr (.inl 16), .inl (.int 1)], []), (1, [.inr (.inl 5), .inl (.int 1)], [])]) (P := [(0, .inr (.inl 4), .inl (.int 400)), (5, .inr (.inl 6), .inl (.int 0))]) jm_ok164 (by decide +kernel) (by decide +kernel) hd F X1 X2 (fun F' hF hs => ?_)
  have b4 := hd_b (F := F) (F' := F') (k := 4) (hF 4 (by decide))
  have b6 := hd_b (F := F) (F' := F') (k := 6) (hF 6 (by decide))
  have b5 := hd_b (F := F) (F' := F') (k := 5) (hF 5 (by decide))
  have t71 : sy_dv F' (.inr (.inl 71)) = .int ((sy_i F 5) - ((1 : Int32))) := hd_o (hs 1 _ rfl) b5 rfl rfl
  have b16 := hd_b (F := F) (F' := F') (k := 16) (hF 16 (by decide))
  have t70 : sy_dv F' (.inr (.inl 70)) = .int ((sy_i F 16) - ((1 : Int32))) := hd_o (hs 0 _ rfl) b16 rfl rfl
  have b69 := hd_b (F := F) (F' := F') (k := 69) (hF 69 (by decide))
  have hB' : iv_in F' iv_B4 := iv_in_eq hB (fun j hj => hF j (Nat.lt_of_lt_of_le hj (by decide +kernel)))
  refine ⟨List.forall_mem_cons.mpr ⟨hd_p0 b4 rfl (by have hc : ((400) : Int32).toInt = 400 := (by decide); omega), List.forall_mem_cons.mpr ⟨hd_p5 b6 rfl (by have hc : ((0) : Int32).toInt = 0 := (by decide); omega), fun _ h => absurd h List.not_mem_nil⟩⟩, ?_⟩
  refine k _ ?_ ?_ ?_ ?_
  · exact fun j hj hn => (hd_keep hB' (Nat.lt_of_lt_of_le hj (by decide +kernel)) (by simp; omega)).trans (hF j (Nat.lt_of_lt_of_le hj (by decide)))
  · exact hd_gi (x := .inr (.inl 71)) (by decide +kernel) t71
  · exact hd_gi (x := .inr (.inl 70)) (by decide +kernel) t70
  · exact hd_gi (x := .inr (.inl 69)) (by decide +kernel) b69
theorem ex_209_p0 {Ls : Nat} {xs : Nat → Int32} {d : Nat} {Q : Option Value → jm_h → Prop} (hd : 4 ≤ d) (F : Nat → sy_d) (X1 X2 : List jm_c) (hB : iv_in F iv_B4)
    (k : ∀ F1 : Nat → sy_d, (∀ j, j < 69 → True → F1 j = F j) → Q (none) (sy_dh F1 X1 X2 (iv_H 4))) :
    hd_W Ls xs d jm_M164 Q (209, sy_dL F [some (.inl (.ref 1000)), none, none], sy_dS F [], sy_dh F X1 X2 (iv_H 4), 0, 0) := by
  refine hd_ret (s := 4) (nv := 69) (v := none) (uh := hd_ov (iv_id 0 iv_B4) []) (f := false) (sp := []) (d0 := 3) (O := []) (T := []) (P := []) jm_ok164 (by decide +kernel) (by decide +kernel) hd F X1 X2 (fun F' hF hs => ?_)
  have hB' : iv_in F' iv_B4 := iv_in_eq hB (fun j hj => hF j (Nat.lt_of_lt_of_le hj (by decide +kernel)))
  refine ⟨fun _ h => absurd h List.not_mem_nil, ?_⟩
  refine k _ ?_
  · exact fun j hj _ => (hd_keep hB' (Nat.lt_of_lt_of_le hj (by decide +kernel)) (by simp)).trans (hF j (Nat.lt_of_lt_of_le hj (by decide)))
theorem ex_237_p0 {Ls : Nat} {xs : Nat → Int32} {d : Nat} {Q : Option Value → jm_h → Prop} (hd : 4 ≤ d) (F : Nat → sy_d) (X1 X2 : List jm_c) (hB : iv_in F iv_B4)
    (h0 : 0 ≤ (sy_i F 4).toInt ∧ (sy_i F 4).toInt < 403)
    (h1 : 0 ≤ (sy_i F 16).toInt ∧ (sy_i F 16).toInt < 64)
    (h2 : (sy_i F 4).toInt ≠ 400)
    (k : ∀ F1 : Nat → sy_d, (∀ j, j < 69 → j ≠ 4 ∧ j ≠ 16 ∧ j ≠ 51 → F1 j = F j) → F1 4 = .inl (.int ((sy_i F 4) + ((1 : Int32)))) → F1 16 = .inl (.int ((sy_i F 16) + ((1 : Int32)))) → F1 51 = .inr (.inl (jm_upd (sy_ai F 51) (sy_i F 16).toNatClampNeg ((sy_ai F 25).getD (sy_i F 4).toNatClampNeg 0))) → F1 69 = .inl (.int (sy_i F 69)) → hd_W Ls xs d jm_M164 Q (12, sy_dL F1 [some (.inl (.ref 1000)), some (.inr (.inl 69)), some (.inl (.int 1))], sy_dS F1 [], sy_dh F1 X1 X2 (iv_H 4), 0, 0)) :
    hd_W Ls xs d jm_M164 Q (237, sy_dL F [some (.inl (.ref 1000)), some (.inr (.inl 69)), some (.inl (.int 1))], sy_dS F [], sy_dh F X1 X2 (iv_H 4), 0, 0) := by
  refine hd_run (s := 4) (nv := 71) (pc := 12) (L := [some (.inl (.ref 1000)), some (.inr (.inl 69)), some (.inl (.int 1))]) (S := []) (uh := hd_ov (iv_id 0 iv_B4) [(4, .inl (.inr (.inl 74))), (16, .inl (.inr (.inl 73))), (51, .inr (.inr (.inl 72)))]) (ul := [.inl (.inr (.inl 69))]) (f := false) (sp := [12]) (d0 := 3) (O := [true]) (T := [(30, [.inr (.inl 4)], [.inr (.inl 25)]), (40, [.inr (.inl 16), .inr (.inl 71)], [.inr (.inl 51)]), (0, [.inr (.inl 16), .inl (.int 1)], []), (0, [.inr (.inl 4), .inl (.int 1)], [])]) (P := [(6, .inr (.inl 4), .inl (.ref 403)), (6, .inr (.inl 16), .inl (.ref 64)), (1, .inr (.inl 4), .inl (.int 400))]) jm_ok164 (by decide +kernel) (by decide +kernel) hd F X1 X2 (fun F' hF hs => ?_)
  have b4 := hd_b (F := F) (F' := F') (k := 4) (hF 4 (by decide))
  have b16 := hd_b (F := F) (F' := F') (k := 16) (hF 16 (by decide))
  have t74 : sy_dv F' (.inr (.inl 74)) = .int ((sy_i F 4) + ((1 : Int32))) := hd_o (hs 3 _ rfl) b4 rfl rfl
  have t73 : sy_dv F' (.inr (.inl 73)) = .int ((sy_i F 16) + ((1 : Int32))) := hd_o (hs 2 _ rfl) b16 rfl rfl
  have a25 := hd_ba (F := F) (F' := F') (k := 25) (hF 25 (by decide))
  have t71 : sy_dv F' (.inr (.inl 71)) = .int ((sy_ai F 25).getD (sy_i F 4).toNatClampNeg 0) := hd_rd (hs 0 _ rfl) b4 a25
  have a51 := hd_ba (F := F) (F' := F') (k := 51) (hF 51 (by decide))
  have t72 : sy_da F' (.inr (.inl 72)) = .inl (jm_upd (sy_ai F 51) (sy_i F 16).toNatClampNeg ((sy_ai F 25).getD (sy_i F 4).toNatClampNeg 0)) := hd_up (hs 1 _ rfl) b16 t71 a51
  have b69 := hd_b (F := F) (F' := F') (k := 69) (hF 69 (by decide))
  have hB' : iv_in F' iv_B4 := iv_in_eq hB (fun j hj => hF j (Nat.lt_of_lt_of_le hj (by decide +kernel)))
  refine ⟨List.forall_mem_cons.mpr ⟨hd_pb b4 (by first | exact h0 | exact h0), List.forall_mem_cons.mpr ⟨hd_pb b16 (by first | exact h1 | exact h1), List.forall_mem_cons.mpr ⟨hd_p1 b4 rfl (by have hc : ((400) : Int32).toInt = 400 := (by decide); omega), fun _ h => absurd h List.not_mem_nil⟩⟩⟩, ?_⟩
  refine k _ ?_ ?_ ?_ ?_ ?_
  · exact fun j hj hn => (hd_keep hB' (Nat.lt_of_lt_of_le hj (by decide +kernel)) (by simp; omega)).trans (hF j (Nat.lt_of_lt_of_le hj (by decide)))
  · exact hd_gi (x := .inr (.inl 74)) (by decide +kernel) t74
  · exact hd_gi (x := .inr (.inl 73)) (by decide +kernel) t73
  · exact hd_ga (a := .inr (.inl 72)) (by decide +kernel) t72
  · exact hd_gi (x := .inr (.inl 69)) (by decide +kernel) b69
theorem ex_237_p1 {Ls : Nat} {xs : Nat → Int32} {d : Nat} {Q : Option Value → jm_h → Prop} (hd : 4 ≤ d) (F : Nat → sy_d) (X1 X2 : List jm_c) (hB : iv_in F iv_B4)
    (h0 : 0 ≤ (sy_i F 4).toInt ∧ (sy_i F 4).toInt < 403)
    (h1 : 0 ≤ (sy_i F 16).toInt ∧ (sy_i F 16).toInt < 64)
    (h2 : (sy_i F 4).toInt = 400)
    (h3 : (sy_i F 6).toInt ≤ 0)
    (h4 : 0 ≤ (sy_i F 4).toInt ∧ (sy_i F 4).toInt < 403)
    (k : ∀ F1 : Nat → sy_d, (∀ j, j < 69 → j ≠ 6 ∧ j ≠ 7 ∧ j ≠ 16 ∧ j ≠ 51 → F1 j = F j) → F1 6 = .inl (.int ((2 : Int32))) → F1 7 = .inl (.int ((sy_ai F 26).getD (sy_i F 4).toNatClampNeg 0)) → F1 16 = .inl (.int ((sy_i F 16) + ((1 : Int32)))) → F1 51 = .inr (.inl (jm_upd (sy_ai F 51) (sy_i F 16).toNatClampNeg ((sy_ai F 25).getD (sy_i F 4).toNatClampNeg 0))) → F1 69 = .inl (.int (sy_i F 69)) → hd_W Ls xs d jm_M164 Q (12, sy_dL F1 [some (.inl (.ref 1000)), some (.inr (.inl 69)), some (.inl (.int 1))], sy_dS F1 [], sy_dh F1 X1 X2 (iv_H 4), 0, 0)) :
    hd_W Ls xs d jm_M164 Q (237, sy_dL F [some (.inl (.ref 1000)), some (.inr (.inl 69)), some (.inl (.int 1))], sy_dS F [], sy_dh F X1 X2 (iv_H 4), 0, 0) := by
  refine hd_run (s := 4) (nv := 71) (pc := 12) (L := [some (.inl (.ref 1000)), some (.inr (.inl 69)), some (.inl (.int 1))]) (S := []) (uh := hd_ov (iv_id 0 iv_B4) [(6, .inl (.inl (.int 2))), (7, .inl (.inr (.inl 74))), (16, .inl (.inr (.inl 73))), (51, .inr (.inr (.inl 72)))]) (ul := [.inl (.inr (.inl 69))]) (f := false) (sp := [12]) (d0 := 3) (O := [false, true]) (T := [(30, [.inr (.inl 4)], [.inr (.inl 25)]), (40, [.inr (.inl 16), .inr (.inl 71)], [.inr (.inl 51)]), (0, [.inr (.inl 16), .inl (.int 1)], []), (30, [.inr (.inl 4)], [.inr (.inl 26)])]) (P := [(6, .inr (.inl 4), .inl (.ref 403)), (6, .inr (.inl 16), .inl (.ref 64)), (0, .inr (.inl 4), .inl (.int 400)), (4, .inr (.inl 6), .inl (.int 0)), (6, .inr (.inl 4), .inl (.ref 403))]) jm_ok164 (by decide +kernel) (by decide +kernel) hd F X1 X2 (fun F' hF hs => ?_)
  have b4 := hd_b (F := F) (F' := F') (k := 4) (hF 4 (by decide))
  have b16 := hd_b (F := F) (F' := F') (k := 16) (hF 16 (by decide))
  have b6 := hd_b (F := F) (F' := F') (k := 6) (hF 6 (by decide))
  have a26 := hd_ba (F := F) (F' := F') (k := 26) (hF 26 (by decide))
  have t74 : sy_dv F' (.inr (.inl 74)) = .int ((sy_ai F 26).getD (sy_i F 4).toNatClampNeg 0) := hd_rd (hs 3 _ rfl) b4 a26
  have t73 : sy_dv F' (.inr (.inl 73)) = .int ((sy_i F 16) + ((1 : Int32))) := hd_o (hs 2 _ rfl) b16 rfl rfl
  have a25 := hd_ba (F := F) (F' := F') (k := 25) (hF 25 (by decide))
  have t71 : sy_dv F' (.inr (.inl 71)) = .int ((sy_ai F 25).getD (sy_i F 4).toNatClampNeg 0) := hd_rd (hs 0 _ rfl) b4 a25
  have a51 := hd_ba (F := F) (F' := F') (k := 51) (hF 51 (by decide))
  have t72 : sy_da F' (.inr (.inl 72)) = .inl (jm_upd (sy_ai F 51) (sy_i F 16).toNatClampNeg ((sy_ai F 25).getD (sy_i F 4).toNatClampNeg 0)) := hd_up (hs 1 _ rfl) b16 t71 a51
  have b69 := hd_b (F := F) (F' := F') (k := 69) (hF 69 (by decide))
  have hB' : iv_in F' iv_B4 := iv_in_eq hB (fun j hj => hF j (Nat.lt_of_lt_of_le hj (by decide +kernel)))
  refine ⟨List.forall_mem_cons.mpr ⟨hd_pb b4 (by first | exact h0 | exact h0), List.forall_mem_cons.mpr ⟨hd_pb b16 (by first | exact h1 | exact h1), List.forall_mem_cons.mpr ⟨hd_p0 b4 rfl (by have hc : ((400) : Int32).toInt = 400 := (by decide); omega), List.forall_mem_cons.mpr ⟨hd_p4 b6 rfl (by have hc : ((0) : Int32).toInt = 0 := (by decide); omega), List.forall_mem_cons.mpr ⟨hd_pb b4 (by first | exact h4 | exact h4), fun _ h => absurd h List.not_mem_nil⟩⟩⟩⟩⟩, ?_⟩
  refine k _ ?_ ?_ ?_ ?_ ?_ ?_
  · exact fun j hj hn => (hd_keep hB' (Nat.lt_of_lt_of_le hj (by decide +kernel)) (by simp; omega)).trans (hF j (Nat.lt_of_lt_of_le hj (by decide)))
  · exact hd_gi (x := .inl (.int 2)) (by decide +kernel) rfl
  · exact hd_gi (x := .inr (.inl 74)) (by decide +kernel) t74
  · exact hd_gi (x := .inr (.inl 73)) (by decide +kernel) t73
  · exact hd_ga (a := .inr (.inl 72)) (by decide +kernel) t72
  · exact hd_gi (x := .inr (.inl 69)) (by decide +kernel) b69
theorem ex_237_p2 {Ls : Nat} {xs : Nat → Int32} {d : Nat} {Q : Option Value → jm_h → Prop} (hd : 4 ≤ d) (F : Nat → sy_d) (X1 X2 : List jm_c) (hB : iv_in F iv_B4)
    (h0 : 0 ≤ (sy_i F 4).toInt ∧ (sy_i F 4).toInt < 403)
    (h1 : 0 ≤ (sy_i F 16).toInt ∧ (sy_i F 16).toInt < 64)
    (h2 : (sy_i F 4).toInt = 400)
    (h3 : 0 < (sy_i F 6).toInt)
    (k : ∀ F1 : Nat → sy_d, (∀ j, j < 69 → j ≠ 16 ∧ j ≠ 51 → F1 j = F j) → F1 16 = .inl (.int ((sy_i F 16) + ((1 : Int32)))) → F1 51 = .inr (.inl (jm_upd (sy_ai F 51) (sy_i F 16).toNatClampNeg ((sy_ai F 25).getD (sy_i F 4).toNatClampNeg 0))) → F1 69 = .inl (.int (sy_i F 69)) → hd_W Ls xs d jm_M164 Q (12, sy_dL F1 [some (.inl (.ref 1000)), some (.inr (.inl 69)), some (.inl (.int 1))], sy_dS F1 [], sy_dh F1 X1 X2 (iv_H 4), 0, 0)) :
    hd_W Ls xs d jm_M164 Q (237, sy_dL F [some (.inl (.ref 1000)), some (.inr (.inl 69)), some (.inl (.int 1))], sy_dS F [], sy_dh F X1 X2 (iv_H 4), 0, 0) := by
  refine hd_run (s := 4) (nv := 71) (pc := 12) (L := [some (.inl (.ref 1000)), some (.inr (.inl 69)), some (.inl (.int 1))]) (S := []) (uh := hd_ov (iv_id 0 iv_B4) [(16, .inl (.inr (.inl 73))), (51, .inr (.inr (.inl 72)))]) (ul := [.inl (.inr (.inl 69))]) (f := false) (sp := [12]) (d0 := 3) (O := [false, false]) (T := [(30, [.inr (.inl 4)], [.inr (.inl 25)]), (40, [.inr (.inl 16), .inr (.inl 71)], [.inr (.inl 51)]), (0, [.inr (.inl 16), .inl (.int 1)], [])]) (P := [(6, .inr (.inl 4), .inl (.ref 403)), (6, .inr (.inl 16), .inl (.ref 64)), (0, .inr (.inl 4), .inl (.int 400)), (5, .inr (.inl 6), .inl (.int 0))]) jm_ok164 (by decide +kernel) (by decide +kernel) hd F X1 X2 (fun F' hF hs => ?_)
  have b4 := hd_b (F := F) (F' := F') (k := 4) (hF 4 (by decide))
  have b16 := hd_b (F := F) (F' := F') (k := 16) (hF 16 (by decide))
  have b6 := hd_b (F := F) (F' := F') (k := 6) (hF 6 (by decide))
  have t73 : sy_dv F' (.inr (.inl 73)) = .int ((sy_i F 16) + ((1 : Int32))) := hd_o (hs 2 _ rfl) b16 rfl rfl
  have a25 := hd_ba (F := F) (F' := F') (k := 25) (hF 25 (by decide))
  have t71 : sy_dv F' (.inr (.inl 71)) = .int ((sy_ai F 25).getD (sy_i F 4).toNatClampNeg 0) := hd_rd (hs 0 _ rfl) b4 a25
  have a51 := hd_ba (F := F) (F' := F') (k := 51) (hF 51 (by decide))
  have t72 : sy_da F' (.inr (.inl 72)) = .inl (jm_upd (sy_ai F 51) (sy_i F 16).toNatClampNeg ((sy_ai F 25).getD (sy_i F 4).toNatClampNeg 0)) := hd_up (hs 1 _ rfl) b16 t71 a51
  have b69 := hd_b (F := F) (F' := F') (k := 69) (hF 69 (by decide))
  have hB' : iv_in F' iv_B4 := iv_in_eq hB (fun j hj => hF j (Nat.lt_of_lt_of_le hj (by decide +kernel)))
  refine ⟨List.forall_mem_cons.mpr ⟨hd_pb b4 (by first | exact h0 | exact h0), List.forall_mem_cons.mpr ⟨hd_pb b16 (by first | exact h1 | exact h1), List.forall_mem_cons.mpr ⟨hd_p0 b4 rfl (by have hc : ((400) : Int32).toInt = 400 := (by decide); omega), List.forall_mem_cons.mpr ⟨hd_p5 b6 rfl (by have hc : ((0) : Int32).toInt = 0 := (by decide); omega), fun _ h => absurd h List.not_mem_nil⟩⟩⟩⟩, ?_⟩
  refine k _ ?_ ?_ ?_ ?_
  · exact fun j hj hn => (hd_keep hB' (Nat.lt_of_lt_of_le hj (by decide +kernel)) (by simp; omega)).trans (hF j (Nat.lt_of_lt_of_le hj (by decide)))
  · exact hd_gi (x := .inr (.inl 73)) (by decide +kernel) t73
  · exact hd_ga (a := .inr (.inl 72)) (by decide +kernel) t72
  · exact hd_gi (x := .inr (.inl 69)) (by decide +kernel) b69
end
section
/-! ===== expressions: what waits, and the codes that have come out ===== -/
theorem hd_W_mono {Ls : Nat} {xs : Nat → Int32} {d : Nat} {M : jm_M} {Q Q' : Option Value → jm_h → Prop} {st : jm_St} (h : hd_W Ls xs d M Q st) (hq : ∀ v G, Q v G → Q' v G) : hd_W Ls xs d M Q' st := by
  intro p l e ss m args below meth cc D h0 ex ka G0 Post C0 hP
  exact h C0 (fun v G hv => hP v G (hq v G hv))
noncomputable def ws (w : List Int32) : Nat → Nat → Nat → Nat → Prop
  | 0, g, o, p => g = 0 ∧ o = 0 ∧ p = 0
  | n + 1, g, o, p => ((w.getD n 0).toInt = 6 ∧ g = 0 ∧ ∃ g' o', o = o' + 1 ∧ ws w n g' o' p) ∨ (((w.getD n 0).toInt = 8 ∨ (w.getD n 0).toInt = 9) ∧ g = 1 ∧ ∃ p', p = p' + 1 ∧ ws w n 0 o p') ∨ (((w.getD n 0).toInt = 10 ∨ (w.getD n 0).toInt = 15) ∧ g = 2 ∧ ∃ g' p', g' ≤ 1 ∧ p = p' + 1 ∧ ws w n g' o p')
theorem ws.nil {w : List Int32} : ws w 0 0 0 0 := ⟨rfl, rfl, rfl⟩
theorem ws.opn {w : List Int32} {n g o p : Nat} (h : ws w n g o p) (q : (w.getD n 0).toInt = 6) : ws w (n + 1) 0 (o + 1) p := Or.inl ⟨q, rfl, _, _, rfl, h⟩
theorem ws.pm {w : List Int32} {n o p : Nat} (h : ws w n 0 o p) (q : (w.getD n 0).toInt = 8 ∨ (w.getD n 0).toInt = 9) : ws w (n + 1) 1 o (p + 1) := Or.inr (Or.inl ⟨q, rfl, _, rfl, h⟩)
theorem ws.td {w : List Int32} {n g o p : Nat} (h : ws w n g o p) (hg : g ≤ 1) (q : (w.getD n 0).toInt = 10 ∨ (w.getD n 0).toInt = 15) : ws w (n + 1) 2 o (p + 1) := Or.inr (Or.inr ⟨q, rfl, _, _, hg, rfl, h⟩)
theorem ws_n {w : List Int32} : ∀ {n g o p : Nat}, ws w n g o p → n ≤ 3 * o + g ∧ n = o + p ∧ g ≤ 2
  | 0, g, o, p, h => by
    obtain ⟨rfl, rfl, rfl⟩ := h
    omega
  | n + 1, g, o, p, h => by
    rcases h with ⟨_, rfl, g', o', rfl, h⟩ | ⟨_, rfl, p', rfl, h⟩ | ⟨_, rfl, g', p', hg, rfl, h⟩
    · have := ws_n h
      omega
    · have := ws_n h
      omega
    · have := ws_n h
      omega
theorem ws_eq {w w' : List Int32} : ∀ {n g o p : Nat}, ws w n g o p → (∀ i, i < n → w'.getD i 0 = w.getD i 0) → ws w' n g o p
  | 0, g, o, p, h, _ => h
  | n + 1, g, o, p, h, e => by
    have en := e n (by omega)
    rcases h with ⟨q, rfl, g', o', rfl, h⟩ | ⟨q, rfl, p', rfl, h⟩ | ⟨q, rfl, g', p', hg, rfl, h⟩
    · exact .opn (ws_eq h (fun i hi => e i (by omega))) (by rw [en]; exact q)
    · exact .pm (ws_eq h (fun i hi => e i (by omega))) (by rw [en]; exact q)
    · exact .td (ws_eq h (fun i hi => e i (by omega))) hg (by rw [en]; exact q)
theorem ws_pop {w : List Int32} {m g o p : Nat} (h : ws w (m + 1) g o p) (q : (w.getD m 0).toInt ≠ 6) : ∃ g' p', p = p' + 1 ∧ ws w m g' o p' ∧ g' ≤ 1 := by
  rcases h with ⟨z, _⟩ | ⟨_, rfl, p', rfl, h⟩ | ⟨_, rfl, g', p', hg, rfl, h⟩
  · exact absurd z q
  · exact ⟨_, _, rfl, h, by omega⟩
  · exact ⟨_, _, rfl, h, hg⟩
theorem ws_top6 {w : List Int32} {m g o p : Nat} (h : ws w (m + 1) g o p) (q : (w.getD m 0).toInt = 6) : g = 0 := by
  rcases h with ⟨_, z, _⟩ | ⟨z, _⟩ | ⟨z, _⟩
  · exact z
  · omega
  · omega
theorem ws_topp {w : List Int32} {m g o p : Nat} (h : ws w (m + 1) g o p) (q : (w.getD m 0).toInt = 8 ∨ (w.getD m 0).toInt = 9) : g ≤ 1 := by
  rcases h with ⟨_, z, _⟩ | ⟨_, z, _⟩ | ⟨z, _⟩
  · omega
  · omega
  · omega
theorem ws_zero {w : List Int32} {g o p : Nat} (h : ws w 0 g o p) : g = 0 := h.1
theorem ws_open {w : List Int32} {m o p : Nat} (h : ws w (m + 1) 0 o p) : ∃ g o', o = o' + 1 ∧ ws w m g o' p := by
  rcases h with ⟨_, _, g', o', rfl, h⟩ | ⟨_, z, _⟩ | ⟨_, z, _⟩
  · exact ⟨_, _, rfl, h⟩
  · exact absurd z (by decide)
  · exact absurd z (by decide)
noncomputable def rd (code cint : List Int32) (c : Nat) : Nat → Nat → Prop
  | 0, d => d = 0
  | n + 1, d => (∃ d', d = d' + 1 ∧ rd code cint c n d' ∧ (code.getD (c + n) 0).toInt < 2 ∧ ((code.getD (c + n) 0).toInt = 1 → 0 ≤ (cint.getD (c + n) 0).toInt ∧ (cint.getD (c + n) 0).toInt ≤ 8)) ∨ (∃ d', d = d' + 1 ∧ rd code cint c n (d' + 2) ∧ 2 ≤ (code.getD (c + n) 0).toInt)
theorem rd.nil {code cint : List Int32} {c : Nat} : rd code cint c 0 0 := rfl
theorem rd.val {code cint : List Int32} {c n d : Nat} (h : rd code cint c n d) (a : (code.getD (c + n) 0).toInt < 2) (b : (code.getD (c + n) 0).toInt = 1 → 0 ≤ (cint.getD (c + n) 0).toInt ∧ (cint.getD (c + n) 0).toInt ≤ 8) : rd code cint c (n + 1) (d + 1) := Or.inl ⟨_, rfl, h, a, b⟩
theorem rd.op {code cint : List Int32} {c n d : Nat} (h : rd code cint c n (d + 2)) (a : 2 ≤ (code.getD (c + n) 0).toInt) : rd code cint c (n + 1) (d + 1) := Or.inr ⟨_, rfl, h, a⟩
theorem rd_eq {code cint code' cint' : List Int32} {c : Nat} : ∀ {n d : Nat}, rd code cint c n d → (∀ i, c ≤ i → i < c + n → code'.getD i 0 = code.getD i 0 ∧ cint'.getD i 0 = cint.getD i 0) → rd code' cint' c n d
  | 0, d, h, _ => h
  | n + 1, d, h, e => by
    obtain ⟨e1, e2⟩ := e (c + n) (by omega) (by omega)
    rcases h with ⟨d', rfl, h, a, b⟩ | ⟨d', rfl, h, a⟩
    · exact .val (rd_eq h (fun i h1 h2 => e i h1 (by omega))) (by rw [e1]; exact a) (by rw [e1, e2]; exact b)
    · exact .op (rd_eq h (fun i h1 h2 => e i h1 (by omega))) (by rw [e1]; exact a)
theorem rd_go {code cint : List Int32} {c : Nat} : ∀ {n d : Nat}, rd code cint c n d → ∀ m, rp_go code cint m (c + n) d → rp_go code cint (n + m) c 0
  | 0, d, h, m, q => by
    have h : d = 0 := h
    subst h
    rw [Nat.zero_add]
    exact q
  | n + 1, d, h, m, q => by
    have e : n + 1 + m = n + (m + 1) := by omega
    rw [e]
    rcases h with ⟨d', rfl, h, a, b⟩ | ⟨d', rfl, h, a⟩
    · exact rd_go h (m + 1) ⟨fun _ => ⟨b, q⟩, fun z => absurd z (by omega)⟩
    · exact rd_go h (m + 1) ⟨fun z => absurd z (by omega), fun _ => ⟨by omega, q⟩⟩
/-- the codes that lay there before, and those behind, stay -/
noncomputable def kp (F F' : Nat → sy_d) : Prop := ∀ i : Nat, ((i : Int) < (sy_i F 15).toInt ∨ (sy_i F' 15).toInt ≤ i) → (sy_ai F' 49).getD i 0 = (sy_ai F 49).getD i 0 ∧ (sy_ai F' 50).getD i 0 = (sy_ai F 50).getD i 0
theorem kp_same {F F1 : Nat → sy_d} (a49 : sy_ai F1 49 = sy_ai F 49) (a50 : sy_ai F1 50 = sy_ai F 50) : kp F F1 := fun i _ => by rw [a49, a50]; exact ⟨rfl, rfl⟩
theorem kp_upd {F F1 : Nat → sy_d} {K V : Int32} (h0 : 0 ≤ (sy_i F 15).toInt) (h15 : (sy_i F1 15).toInt = (sy_i F 15).toInt + 1) (a49 : sy_ai F1 49 = jm_upd (sy_ai F 49) (sy_i F 15).toInt.toNat K) (a50 : sy_ai F1 50 = jm_upd (sy_ai F 50) (sy_i F 15).toInt.toNat V) : kp F F1 := fun i h => by
  rw [a49, a50, jm_upd_at, jm_upd_at, if_neg (by omega), if_neg (by omega)]
  exact ⟨rfl, rfl⟩
theorem kp_trans {F F1 F2 : Nat → sy_d} (h : kp F F1) (h2 : kp F1 F2) (l1 : (sy_i F 15).toInt ≤ (sy_i F1 15).toInt) (l2 : (sy_i F1 15).toInt ≤ (sy_i F2 15).toInt) : kp F F2 := fun i q => by
  have a := h i (by omega)
  have b := h2 i (by omega)
  exact ⟨b.1.trans a.1, b.2.trans a.2⟩
noncomputable def WC : List Nat := [15, 16, 49, 50]
noncomputable def co_R (b : Int) (F F' : Nat → sy_d) : Prop := gr WC F F' ∧ (sy_i F 15).toInt ≤ (sy_i F' 15).toInt ∧ (sy_i F' 15).toInt + (sy_i F' 16).toInt = (sy_i F 15).toInt + (sy_i F 16).toInt ∧ kp F F' ∧
  ∀ c g o p : Nat, (c : Int) ≤ (sy_i F 15).toInt → ws (sy_ai F 51) (sy_i F 16).toInt.toNat g o p → rd (sy_ai F 49) (sy_ai F 50) c ((sy_i F 15).toInt - c).toNat (p + 1) → ∃ g' p', ws (sy_ai F 51) (sy_i F' 16).toInt.toNat g' o p' ∧ rd (sy_ai F' 49) (sy_ai F' 50) c ((sy_i F' 15).toInt - c).toNat (p' + 1) ∧ g' ≤ 1 ∧ (b = 0 → g' = 0)
theorem co_Rdst {b : Int} {F F' F2 : Nat → sy_d} (h : co_R b F F') (e : ∀ q, q < 69 → F2 q = F' q) : co_R b F F2 := by
  obtain ⟨h1, h2, h3, h4, h5⟩ := h
  have i15 := nz_fi (e 15 (by decide))
  have i16 := nz_fi (e 16 (by decide))
  have a49 := nz_fa (e 49 (by decide))
  have a50 := nz_fa (e 50 (by decide))
  refine ⟨h1.dst e, by rw [i15]; exact h2, by rw [i15, i16]; exact h3, ?_, ?_⟩
  · unfold kp
    rw [i15, a49, a50]
    exact h4
  · rw [i15, i16, a49, a50]
    exact h5
theorem co_Rsrc {b : Int} {F F' F0 : Nat → sy_d} (h : co_R b F0 F') (e : ∀ q, q < 69 → F0 q = F q) : co_R b F F' := by
  obtain ⟨h1, h2, h3, h4, h5⟩ := h
  have i15 := nz_fi (e 15 (by decide))
  have i16 := nz_fi (e 16 (by decide))
  have a49 := nz_fa (e 49 (by decide))
  have a50 := nz_fa (e 50 (by decide))
  have a51 := nz_fa (e 51 (by decide))
  refine ⟨h1.src e, by rw [← i15]; exact h2, by rw [← i15, ← i16]; exact h3, ?_, ?_⟩
  · unfold kp
    rw [← i15, ← a49, ← a50]
    exact h4
  · rw [← i15, ← i16, ← a49, ← a50, ← a51]
    exact h5
theorem co_end {b : Int} {F F1 : Nat → sy_d} (hG : gr WC F F1) (h15 : (sy_i F1 15).toInt = (sy_i F 15).toInt) (h16 : (sy_i F1 16).toInt = (sy_i F 16).toInt) (a49 : sy_ai F1 49 = sy_ai F 49) (a50 : sy_ai F1 50 = sy_ai F 50)
    (h : ∀ g o p : Nat, ws (sy_ai F 51) (sy_i F 16).toInt.toNat g o p → g ≤ 1 ∧ (b = 0 → g = 0)) : co_R b F F1 := by
  refine ⟨hG, by omega, by omega, kp_same a49 a50, fun c g o p hc hw hr => ⟨g, p, by rw [h16]; exact hw, by rw [h15, a49, a50]; exact hr, h g o p hw⟩⟩
theorem co_step {b : Int} {F F1 F' : Nat → sy_d} {K V : Int32} (hK : 2 ≤ K.toInt) (hG : gr WC F F1) (h15 : (sy_i F1 15).toInt = (sy_i F 15).toInt + 1) (h16 : (sy_i F1 16).toInt = (sy_i F 16).toInt - 1) (a49 : sy_ai F1 49 = jm_upd (sy_ai F 49) (sy_i F 15).toInt.toNat K) (a50 : sy_ai F1 50 = jm_upd (sy_ai F 50) (sy_i F 15).toInt.toNat V) (a51 : sy_ai F1 51 = sy_ai F 51) (hp : 0 < (sy_i F 16).toInt) (h0 : 0 ≤ (sy_i F 15).toInt) (hw : ((sy_ai F 51).getD ((sy_i F 16).toInt - 1).toNat 0).toInt ≠ 6) (h : co_R b F1 F') : co_R b F F' := by
  obtain ⟨g1, g2, g3, g4, g5⟩ := h
  refine ⟨hG.trans g1 (by decide), by omega, by omega, kp_trans (kp_upd h0 h15 a49 a50) g4 (by omega) (by omega), fun c g o p hc hws hr => ?_⟩
  obtain ⟨m, hm⟩ : ∃ m, (sy_i F 16).toInt.toNat = m + 1 := ⟨(sy_i F 16).toInt.toNat - 1, by omega⟩
  have hm1 : ((sy_i F 16).toInt - 1).toNat = m := by omega
  rw [hm1] at hw
  rw [hm] at hws
  obtain ⟨g', p', rfl, hws', hg'⟩ := ws_pop hws hw
  have e16 : (sy_i F1 16).toInt.toNat = m := by omega
  have e15 : ((sy_i F1 15).toInt - c).toNat = ((sy_i F 15).toInt - c).toNat + 1 := by omega
  have ec : c + ((sy_i F 15).toInt - c).toNat = (sy_i F 15).toInt.toNat := by omega
  have r1 : rd (sy_ai F1 49) (sy_ai F1 50) c ((sy_i F 15).toInt - c).toNat (p' + 2) := rd_eq hr (fun i h1 h2 => by
    rw [a49, a50, jm_upd_at, jm_upd_at, if_neg (by omega), if_neg (by omega)]
    exact ⟨rfl, rfl⟩)
  have r2 : rd (sy_ai F1 49) (sy_ai F1 50) c (((sy_i F 15).toInt - c).toNat + 1) (p' + 1) := .op r1 (by
    rw [a49, jm_upd_at, if_pos ec]
    exact hK)
  obtain ⟨g2', p2', z1, z2, z3, z4⟩ := g5 c g' o p' (by omega) (by rw [a51, e16]; exact hws') (by rw [e15]; exact r2)
  exact ⟨g2', p2', by rw [← a51]; exact z1, z2, z3, z4⟩
section CO
variable {Ls : Nat} {xs : Nat → Int32} (X1 X2 : List jm_c)
end CO
end
section
/-! ===== an expression is read ===== -/
noncomputable def WX : List Nat := [4, 5, 6, 7, 15, 16, 49, 50, 51]
noncomputable def xc (F0 F : Nat → sy_d) : Prop := gr WX F0 F ∧ kp F0 F ∧ (sy_i F0 15).toInt ≤ (sy_i F 15).toInt ∧ (sy_i F 15).toInt + (sy_i F 16).toInt ≤ 420 * (sy_i F0 12).toInt + (sy_i F 4).toInt + 1
noncomputable def xi (k : Nat) (F0 F : Nat → sy_d) : Prop := ((sy_i F 6).toInt = 0 ∧ (sy_i F 5).toInt ≤ 6) ∧ (sy_i F 15).toInt + (sy_i F 16).toInt ≤ 420 * (sy_i F0 12).toInt + (sy_i F 4).toInt ∧ (k = 1 → (sy_i F0 4).toInt + 1 ≤ (sy_i F 4).toInt) ∧ ∃ g o p : Nat, ws (sy_ai F 51) (sy_i F 16).toInt.toNat g o p ∧ (o : Int) = (sy_i F 5).toInt ∧ rd (sy_ai F 49) (sy_ai F 50) (sy_i F0 15).toInt.toNat ((sy_i F 15).toInt - (sy_i F0 15).toInt).toNat (p + k)
noncomputable def xr (F0 F' : Nat → sy_d) : Prop := gr WX F0 F' ∧ kp F0 F' ∧ (sy_i F0 15).toInt ≤ (sy_i F' 15).toInt ∧ (sy_i F' 15).toInt ≤ 420 * (sy_i F0 12).toInt + (sy_i F' 4).toInt + 1 ∧
  ((sy_i F' 6).toInt = 0 → (sy_i F0 4).toInt + 1 ≤ (sy_i F' 4).toInt ∧ (sy_i F' 5).toInt = 0 ∧ (sy_i F' 15).toInt ≤ 420 * (sy_i F0 12).toInt + (sy_i F' 4).toInt ∧ rp_go (sy_ai F' 49) (sy_ai F' 50) ((sy_i F' 15).toInt - (sy_i F0 15).toInt).toNat (sy_i F0 15).toInt.toNat 0)
noncomputable def ex_Q (F0 : Nat → sy_d) (X1 X2 : List jm_c) (v : Option Value) (G : jm_h) : Prop := ∃ F' : Nat → sy_d, v = none ∧ G = sy_dh F' X1 X2 (iv_H 4) ∧ xr F0 F'
theorem xr_dst {F F' F2 : Nat → sy_d} (h : xr F F') (e : ∀ q, q < 69 → F2 q = F' q) : xr F F2 := by
  obtain ⟨h1, h2, h3, h4, h5⟩ := h
  have i4 := nz_fi (e 4 (by decide))
  have i5 := nz_fi (e 5 (by decide))
  have i6 := nz_fi (e 6 (by decide))
  have i15 := nz_fi (e 15 (by decide))
  have a49 := nz_fa (e 49 (by decide))
  have a50 := nz_fa (e 50 (by decide))
  refine ⟨h1.dst e, ?_, by rw [i15]; exact h3, by rw [i15, i4]; exact h4, by rw [i4, i5, i6, i15, a49, a50]; exact h5⟩
  unfold kp
  rw [i15, a49, a50]
  exact h2
theorem xc_step {F0 F F1 : Nat → sy_d} {C : List Nat} (h : xc F0 F) (hb : iv_in F1 iv_B4) (g : ∀ j, j < 69 → j ∉ C → F1 j = F j) (hs : ∀ x ∈ C, x ∈ WX) (t : (sy_i F 4).toInt ≤ (sy_i F1 4).toInt) (u : (sy_i F1 6).toInt = 0 → (sy_i F 6).toInt = 0) (k : kp F F1) (l : (sy_i F 15).toInt ≤ (sy_i F1 15).toInt) (m : (sy_i F1 15).toInt + (sy_i F1 16).toInt ≤ 420 * (sy_i F0 12).toInt + (sy_i F1 4).toInt + 1) : xc F0 F1 :=
  ⟨h.1.trans (gr_mk (W := WX) hb g hs t u) (fun _ q => q), kp_trans h.2.1 k h.2.2.1 l, Int.le_trans h.2.2.1 l, m⟩
theorem rd_push {code cint code' cint' : List Int32} {c n d : Nat} {K V : Int32} (h : rd code cint c n d) (e : code' = jm_upd code (c + n) K) (e2 : cint' = jm_upd cint (c + n) V) (hK : K.toInt < 2) (hV : K.toInt = 1 → 0 ≤ V.toInt ∧ V.toInt ≤ 8) : rd code' cint' c (n + 1) (d + 1) := by
  refine .val (rd_eq h (fun i h1 h2 => ?_)) ?_ ?_
  · rw [e, e2, jm_upd_at, jm_upd_at, if_neg (by omega), if_neg (by omega)]
    exact ⟨rfl, rfl⟩
  · rw [e, jm_upd_at, if_pos rfl]
    exact hK
  · rw [e, e2, jm_upd_at, jm_upd_at, if_pos rfl, if_pos rfl]
    exact hV
theorem ws_upd {w : List Int32} {n g o p : Nat} {V : Int32} (h : ws w n g o p) : ws (jm_upd w n V) n g o p := ws_eq h (fun i hi => by rw [jm_upd_at, if_neg (by omega)])
theorem ws_at {w : List Int32} {n : Nat} {V : Int32} : (jm_upd w n V).getD n 0 = V := by rw [jm_upd_at, if_pos rfl]
section EX
variable {Ls : Nat} {xs : Nat → Int32} (X1 X2 : List jm_c) (F0 : Nat → sy_d)
theorem ex_fin {F F' : Nat → sy_d} (hx : xc F0 F) (hc : (sy_i F 6).toInt ≠ 0 ∨ (xi 1 F0 F ∧ (sy_i F 5).toInt = 0)) (h : co_R 0 F F') (h0 : 0 ≤ (sy_i F0 15).toInt) : xr F0 F' := by
  obtain ⟨x1, x2, x3, x4⟩ := hx
  obtain ⟨r1, r2, r3, r4, r5⟩ := h
  have i4 := r1.i (k := 4) (by decide) (by decide)
  have i5 := r1.i (k := 5) (by decide) (by decide)
  have i6 := r1.i (k := 6) (by decide) (by decide)
  have c16 := nz_bx r1.b (k := 16) (lo := 0) (hi := 64) rfl
  refine ⟨x1.trans r1 (by decide), kp_trans x2 r4 x3 r2, by omega, by omega, fun z => ?_⟩
  rcases hc with hc | ⟨⟨y1, y2, y3, g, o, p, y4, y5, y6⟩, y7⟩
  · omega
  · obtain ⟨g', p', z1, z2, -, -⟩ := r5 (sy_i F0 15).toInt.toNat g o p (by omega) y4 (by rw [show ((sy_i F0 15).toInt.toNat : Int) = (sy_i F0 15).toInt by omega]; exact y6)
    rw [show ((sy_i F0 15).toInt.toNat : Int) = (sy_i F0 15).toInt by omega] at z2
    have y3' := y3 rfl
    refine ⟨by omega, by omega, by omega, ?_⟩
    have := rd_go z2 0 trivial
    rwa [Nat.add_zero] at this
theorem ex_stop {F F1 : Nat → sy_d} (hx : xc F0 F1) (hf : (sy_i F1 6).toInt ≠ 0) : xr F0 F1 := by
  have c16 := nz_bx hx.1.b (k := 16) (lo := 0) (hi := 64) rfl
  obtain ⟨x1, x2, x3, x4⟩ := hx
  exact ⟨x1, x2, x3, by omega, fun z => absurd z hf⟩
/-- the three places of the loops, from 400 - n on -/
noncomputable def x96 (Ls : Nat) (xs : Nat → Int32) (n : Nat) : Prop := ∀ F : Nat → sy_d, xc F0 F → xi 1 F0 F → (sy_i F 69).toInt = 0 → 400 - (sy_i F 4).toInt < n →
    hd_W Ls xs 4 jm_M164 (ex_Q F0 X1 X2) (96, sy_dL F [some (.inl (.ref 1000)), some (.inr (.inl 69)), some (.inl (.int 1))], sy_dS F [], sy_dh F X1 X2 (iv_H 4), 0, 0)
noncomputable def x23 (Ls : Nat) (xs : Nat → Int32) (n : Nat) : Prop := ∀ F : Nat → sy_d, xc F0 F → xi 0 F0 F → (sy_i F 69).toInt = 0 → 400 - (sy_i F 4).toInt < n →
    hd_W Ls xs 4 jm_M164 (ex_Q F0 X1 X2) (23, sy_dL F [some (.inl (.ref 1000)), some (.inr (.inl 69)), some (.inl (.int 1))], sy_dS F [], sy_dh F X1 X2 (iv_H 4), 0, 0)
noncomputable def x12 (Ls : Nat) (xs : Nat → Int32) (n : Nat) : Prop := ∀ F : Nat → sy_d, xc F0 F → xi 0 F0 F → (sy_i F 69).toInt = 0 → 400 - (sy_i F 4).toInt < n →
    hd_W Ls xs 4 jm_M164 (ex_Q F0 X1 X2) (12, sy_dL F [some (.inl (.ref 1000)), some (.inr (.inl 69)), some (.inl (.int 1))], sy_dS F [], sy_dh F X1 X2 (iv_H 4), 0, 0)
theorem ex_co {b : Int} {F F' : Nat → sy_d} (h0 : 0 ≤ (sy_i F0 15).toInt) (hx : xc F0 F) (hi : xi 1 F0 F) (h : co_R b F F') : xc F0 F' ∧ (((sy_i F' 6).toInt = 0 ∧ (sy_i F' 5).toInt ≤ 6) ∧ (sy_i F' 15).toInt + (sy_i F' 16).toInt ≤ 420 * (sy_i F0 12).toInt + (sy_i F' 4).toInt ∧ (sy_i F0 4).toInt + 1 ≤ (sy_i F' 4).toInt) ∧ ∃ g o p : Nat, ws (sy_ai F' 51) (sy_i F' 16).toInt.toNat g o p ∧ (o : Int) = (sy_i F' 5).toInt ∧ rd (sy_ai F' 49) (sy_ai F' 50) (sy_i F0 15).toInt.toNat ((sy_i F' 15).toInt - (sy_i F0 15).toInt).toNat (p + 1) ∧ g ≤ 1 ∧ (b = 0 → g = 0) := by
  obtain ⟨x1, x2, x3, x4⟩ := hx
  obtain ⟨r1, r2, r3, r4, r5⟩ := h
  obtain ⟨y1, y2, y3, g, o, p, y4, y5, y6⟩ := hi
  have i4 := r1.i (k := 4) (by decide) (by decide)
  have i5 := r1.i (k := 5) (by decide) (by decide)
  have i6 := r1.i (k := 6) (by decide) (by decide)
  have a51 := r1.a (k := 51) (by decide) (by decide)
  have y3' := y3 rfl
  refine ⟨⟨x1.trans r1 (by decide), kp_trans x2 r4 x3 r2, by omega, by omega⟩, ⟨by omega, by omega, by omega⟩, ?_⟩
  obtain ⟨g', p', z1, z2, z3, z4⟩ := r5 (sy_i F0 15).toInt.toNat g o p (by omega) y4 (by rw [show ((sy_i F0 15).toInt.toNat : Int) = (sy_i F0 15).toInt by omega]; exact y6)
  rw [show ((sy_i F0 15).toInt.toNat : Int) = (sy_i F0 15).toInt by omega] at z2
  exact ⟨g', o, p', by rw [a51]; exact z1, by omega, z2, z3, z4⟩
end EX
end
