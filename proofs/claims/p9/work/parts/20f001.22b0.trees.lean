/-! ===== the reference: terms, laws, what is asked, way by way ===== -/
/-! ===== what an int is, behind a veil ===== -/
def nzI (x : Int32) (z : Int) : Prop := x.toInt = z
theorem nzE {x : Int32} {z : Int} (h : nzI x z) : x.toInt = z := h
def nzIL (x : Int64) (z : Int) : Prop := x.toInt = z
/-! ===== a copied stretch, as a number of a run ===== -/
theorem hd_cp {F : Nat → sy_d} {k op : Nat} {i j n : sy_v} {a b : sy_a} {I J N : Int32} {f g : List Int32} (h : F k = sy_sem F (op, [i, j, n], [a, b])) (hi : sy_dv F i = .int I) (hj : sy_dv F j = .int J) (hn : sy_dv F n = .int N) (ha : sy_da F a = .inl f) (hb : sy_da F b = .inl g) : sy_da F (.inr (.inl k)) = .inl (jm_cpy f g I.toNatClampNeg J.toNatClampNeg N.toNatClampNeg) := by
  have e : F k = .inr (sy_cp (sy_da F a) (sy_da F b) (sy_dv F i) (sy_dv F j) (sy_dv F n)) := h
  rw [hi, hj, hn, ha, hb] at e
  have e2 : F k = .inr (.inl (jm_cpy f g I.toNatClampNeg J.toNatClampNeg N.toNatClampNeg)) := e
  simp only [sy_da, sy_ai, e2]
theorem yte_0_p0 {Ls : Nat} {xs : Nat → Int32} {d : Nat} {Q : Option Value → jm_h → Prop} (hd : 1 ≤ d) (F : Nat → sy_d) (X1 X2 : List jm_c) (hB : iv_in F iv_B4)
    (k : ∀ F1 : Nat → sy_d, (∀ j, j < 69 → True → F1 j = F j) → F1 69 = .inl (.int (sy_i F 70)) → F1 70 = .inl (.int ((0 : Int32))) → F1 71 = .inl (.int (sy_i F 69)) → hd_W Ls xs d jm_M166 Q (5, sy_dL F1 [some (.inl (.ref 1000)), none, some (.inr (.inl 69)), some (.inr (.inl 70)), some (.inr (.inl 71)), none, none, none], sy_dS F1 [], sy_dh F1 X1 X2 (iv_H 4), 0, 0)) :
    hd_W Ls xs d jm_M166 Q (0, sy_dL F [some (.inl (.ref 1000)), some (.inr (.inl 69)), some (.inr (.inl 70)), none, none, none, none, none], sy_dS F [], sy_dh F X1 X2 (iv_H 4), 0, 0) := by
  refine hd_run (s := 4) (nv := 71) (pc := 5) (L := [some (.inl (.ref 1000)), none, some (.inr (.inl 69)), some (.inr (.inl 70)), some (.inr (.inl 71)), none, none, none]) (S := []) (uh := hd_ov (iv_id 0 iv_B4) []) (ul := [.inl (.inr (.inl 70)), .inl (.inl (.int 0)), .inl (.inr (.inl 69))]) (f := true) (sp := [5]) (d0 := 0) (O := []) (T := []) (P := []) jm_ok166 (by decide +kernel) (by decide +kernel) hd F X1 X2 (fun F' hF hs => ?_)
  have b70 := hd_b (F := F) (F' := F') (k := 70) (hF 70 (by decide))
  have b69 := hd_b (F := F) (F' := F') (k := 69) (hF 69 (by decide))
  have hB' : iv_in F' iv_B4 := iv_in_eq hB (fun j hj => hF j (Nat.lt_of_lt_of_le hj (by decide +kernel)))
  refine ⟨fun _ h => absurd h List.not_mem_nil, ?_⟩
  refine k _ ?_ ?_ ?_ ?_
  · exact fun j hj _ => (hd_keep hB' (Nat.lt_of_lt_of_le hj (by decide +kernel)) (by simp)).trans (hF j (by omega))
  · exact hd_gi (x := .inr (.inl 70)) (by decide +kernel) b70
  · exact hd_gi (x := .inl (.int 0)) (by decide +kernel) rfl
  · exact hd_gi (x := .inr (.inl 69)) (by decide +kernel) b69
theorem yte_0 {Ls : Nat} {xs : Nat → Int32} {d : Nat} {Q : Option Value → jm_h → Prop} (hd : 1 ≤ d) (F : Nat → sy_d) (X1 X2 : List jm_c) (hB : iv_in F iv_B4)
    (k0 : ∀ F1 : Nat → sy_d, iv_in F1 iv_B4 → (∀ j, j < 69 → j ∉ ([] : List Nat) → F1 j = F j) → (sy_i F1 69).toInt = (sy_i F 70).toInt → sy_i F1 69 = sy_i F 70 → (sy_i F1 70).toInt = 0 → sy_i F1 70 = (0 : Int32) → (sy_i F1 71).toInt = (sy_i F 69).toInt → sy_i F1 71 = sy_i F 69 → hd_W Ls xs d jm_M166 Q (5, sy_dL F1 [some (.inl (.ref 1000)), none, some (.inr (.inl 69)), some (.inr (.inl 70)), some (.inr (.inl 71)), none, none, none], sy_dS F1 [], sy_dh F1 X1 X2 (iv_H 4), 0, 0)) :
    hd_W Ls xs d jm_M166 Q (0, sy_dL F [some (.inl (.ref 1000)), some (.inr (.inl 69)), some (.inr (.inl 70)), none, none, none, none, none], sy_dS F [], sy_dh F X1 X2 (iv_H 4), 0, 0) := by
  exact yte_0_p0 hd F X1 X2 hB  (fun F1 g e69 e70 e71 => k0 F1 (nz_in hB [] (fun j hj hn => g j hj (by simp only [List.mem_cons, List.not_mem_nil, or_false, not_or] at hn; exact trivial)) (List.forall_mem_nil _)) (fun j hj hn => g j hj (by simp only [List.mem_cons, List.not_mem_nil, or_false, not_or] at hn; exact trivial)) ((congrArg Int32.toInt (zz_i e69)).trans (rfl : (sy_i F 70).toInt = (sy_i F 70).toInt)) ((zz_i e69).trans (rfl : sy_i F 70 = sy_i F 70)) ((congrArg Int32.toInt (zz_i e70)).trans (by decide : ((0 : Int32)).toInt = 0)) ((zz_i e70).trans (rfl : (0 : Int32) = (0 : Int32))) ((congrArg Int32.toInt (zz_i e71)).trans (rfl : (sy_i F 69).toInt = (sy_i F 69).toInt)) ((zz_i e71).trans (rfl : sy_i F 69 = sy_i F 69)))
theorem yte_5_p0 {Ls : Nat} {xs : Nat → Int32} {d : Nat} {Q : Option Value → jm_h → Prop} (hd : 1 ≤ d) (F : Nat → sy_d) (X1 X2 : List jm_c) (hB : iv_in F iv_B4)
    (h0 : (sy_i F 69).toInt ≤ (sy_i F 71).toInt)
    (k : ∀ F1 : Nat → sy_d, (∀ j, j < 69 → True → F1 j = F j) → Q (some (.int ((sy_ai F 53).getD ((0 : Int32)).toNatClampNeg 0))) (sy_dh F1 X1 X2 (iv_H 4))) :
    hd_W Ls xs d jm_M166 Q (5, sy_dL F [some (.inl (.ref 1000)), none, some (.inr (.inl 69)), some (.inr (.inl 70)), some (.inr (.inl 71)), none, none, none], sy_dS F [], sy_dh F X1 X2 (iv_H 4), 0, 0) := by
  refine hd_ret (s := 4) (nv := 72) (v := some (.inr (.inl 72))) (uh := hd_ov (iv_id 0 iv_B4) []) (f := true) (sp := [5]) (d0 := 0) (O := [true]) (T := [(30, [.inl (.int 0)], [.inr (.inl 53)])]) (P := [(4, .inr (.inl 69), .inr (.inl 71))]) jm_ok166 (by decide +kernel) (by decide +kernel) hd F X1 X2 (fun F' hF hs => ?_)
  have b69 := hd_b (F := F) (F' := F') (k := 69) (hF 69 (by decide))
  have b71 := hd_b (F := F) (F' := F') (k := 71) (hF 71 (by decide))
  have a53 := hd_ba (F := F) (F' := F') (k := 53) (hF 53 (by decide))
  have t72 : sy_dv F' (.inr (.inl 72)) = .int ((sy_ai F 53).getD ((0 : Int32)).toNatClampNeg 0) := hd_rd (hs 0 _ rfl) rfl a53
  have hB' : iv_in F' iv_B4 := iv_in_eq hB (fun j hj => hF j (Nat.lt_of_lt_of_le hj (by decide +kernel)))
  have hk := k (sy_cm F' (hd_ov (iv_id 0 iv_B4) [] ++ [])) (fun j hj _ => (hd_keep hB' (Nat.lt_of_lt_of_le hj (by decide +kernel)) (by simp)).trans (hF j (by omega)))
  refine ⟨List.forall_mem_cons.mpr ⟨hd_p4 b69 b71 h0, fun _ h => absurd h List.not_mem_nil⟩, ?_⟩
  show Q (some (sy_dv F' (.inr (.inl 72)))) _
  rw [t72]
  exact hk
theorem yte_5_p1 {Ls : Nat} {xs : Nat → Int32} {d : Nat} {Q : Option Value → jm_h → Prop} (hd : 1 ≤ d) (F : Nat → sy_d) (X1 X2 : List jm_c) (hB : iv_in F iv_B4)
    (h0 : (sy_i F 71).toInt < (sy_i F 69).toInt)
    (h1 : 0 ≤ (sy_i F 71).toInt ∧ (sy_i F 71).toInt < 840)
    (h2 : 2 ≤ ((sy_ai F 49).getD (sy_i F 71).toNatClampNeg 0).toInt)
    (h3 : 0 ≤ (((sy_i F 70) + (((-1) : Int32))) - ((1 : Int32))).toInt ∧ (((sy_i F 70) + (((-1) : Int32))) - ((1 : Int32))).toInt < 400)
    (h4 : 0 ≤ ((sy_i F 70) + (((-1) : Int32))).toInt ∧ ((sy_i F 70) + (((-1) : Int32))).toInt < 400)
    (h5 : ((sy_ai F 49).getD (sy_i F 71).toNatClampNeg 0).toInt ≠ 5)
    (h6 : ((sy_ai F 49).getD (sy_i F 71).toNatClampNeg 0).toInt ≠ 2)
    (h7 : ((sy_ai F 49).getD (sy_i F 71).toNatClampNeg 0).toInt ≠ 3)
    (h8 : ((sy_ai F 49).getD (sy_i F 71).toNatClampNeg 0).toInt = 4)
    (h9 : 0 ≤ (((sy_i F 70) + (((-1) : Int32))) - ((1 : Int32))).toInt ∧ (((sy_i F 70) + (((-1) : Int32))) - ((1 : Int32))).toInt < 400)
    (k : ∀ F1 : Nat → sy_d, (∀ j, j < 69 → j ≠ 53 → F1 j = F j) → F1 53 = .inr (.inl (jm_upd (sy_ai F 53) (((sy_i F 70) + (((-1) : Int32))) - ((1 : Int32))).toNatClampNeg (((sy_ai F 53).getD (((sy_i F 70) + (((-1) : Int32))) - ((1 : Int32))).toNatClampNeg 0) * ((sy_ai F 53).getD ((sy_i F 70) + (((-1) : Int32))).toNatClampNeg 0)))) → F1 69 = .inl (.int (sy_i F 69)) → F1 70 = .inl (.int ((sy_i F 70) + (((-1) : Int32)))) → F1 71 = .inl (.int ((sy_i F 71) + ((1 : Int32)))) → hd_W Ls xs d jm_M166 Q (5, sy_dL F1 [some (.inl (.ref 1000)), none, some (.inr (.inl 69)), some (.inr (.inl 70)), some (.inr (.inl 71)), none, none, none], sy_dS F1 [], sy_dh F1 X1 X2 (iv_H 4), 0, 0)) :
    hd_W Ls xs d jm_M166 Q (5, sy_dL F [some (.inl (.ref 1000)), none, some (.inr (.inl 69)), some (.inr (.inl 70)), some (.inr (.inl 71)), none, none, none], sy_dS F [], sy_dh F X1 X2 (iv_H 4), 0, 0) := by
  refine hd_run (s := 4) (nv := 72) (pc := 5) (L := [some (.inl (.ref 1000)), none, some (.inr (.inl 69)), some (.inr (.inl 70)), some (.inr (.inl 71)), none, none, none]) (S := []) (uh := hd_ov (iv_id 0 iv_B4) [(53, .inr (.inr (.inl 79)))]) (ul := [.inl (.inr (.inl 69)), .inl (.inr (.inl 73)), .inl (.inr (.inl 80))]) (f := true) (sp := [5]) (d0 := 0) (O := [false, true, true, true, true, false]) (T := [(30, [.inr (.inl 71)], [.inr (.inl 49)]), (0, [.inr (.inl 70), .inl (.int (-1))], []), (1, [.inr (.inl 73), .inl (.int 1)], []), (30, [.inr (.inl 74)], [.inr (.inl 53)]), (30, [.inr (.inl 73)], [.inr (.inl 53)]), (1, [.inr (.inl 73), .inl (.int 1)], []), (2, [.inr (.inl 75), .inr (.inl 76)], []), (40, [.inr (.inl 77), .inr (.inl 78)], [.inr (.inl 53)]), (0, [.inr (.inl 71), .inl (.int 1)], [])]) (P := [(5, .inr (.inl 69), .inr (.inl 71)), (6, .inr (.inl 71), .inl (.ref 840)), (4, .inl (.int 2), .inr (.inl 72)), (6, .inr (.inl 74), .inl (.ref 400)), (6, .inr (.inl 73), .inl (.ref 400)), (1, .inr (.inl 72), .inl (.int 5)), (1, .inr (.inl 72), .inl (.int 2)), (1, .inr (.inl 72), .inl (.int 3)), (0, .inr (.inl 72), .inl (.int 4)), (6, .inr (.inl 77), .inl (.ref 400))]) jm_ok166 (by decide +kernel) (by decide +kernel) hd F X1 X2 (fun F' hF hs => ?_)
  have b69 := hd_b (F := F) (F' := F') (k := 69) (hF 69 (by decide))
  have b71 := hd_b (F := F) (F' := F') (k := 71) (hF 71 (by decide))
  have a49 := hd_ba (F := F) (F' := F') (k := 49) (hF 49 (by decide))
  have t72 : sy_dv F' (.inr (.inl 72)) = .int ((sy_ai F 49).getD (sy_i F 71).toNatClampNeg 0) := hd_rd (hs 0 _ rfl) b71 a49
  have b70 := hd_b (F := F) (F' := F') (k := 70) (hF 70 (by decide))
  have t73 : sy_dv F' (.inr (.inl 73)) = .int ((sy_i F 70) + (((-1) : Int32))) := hd_o (hs 1 _ rfl) b70 rfl rfl
  have t74 : sy_dv F' (.inr (.inl 74)) = .int (((sy_i F 70) + (((-1) : Int32))) - ((1 : Int32))) := hd_o (hs 2 _ rfl) t73 rfl rfl
  have t77 : sy_dv F' (.inr (.inl 77)) = .int (((sy_i F 70) + (((-1) : Int32))) - ((1 : Int32))) := hd_o (hs 5 _ rfl) t73 rfl rfl
  have a53 := hd_ba (F := F) (F' := F') (k := 53) (hF 53 (by decide))
  have t75 : sy_dv F' (.inr (.inl 75)) = .int ((sy_ai F 53).getD (((sy_i F 70) + (((-1) : Int32))) - ((1 : Int32))).toNatClampNeg 0) := hd_rd (hs 3 _ rfl) t74 a53
  have t76 : sy_dv F' (.inr (.inl 76)) = .int ((sy_ai F 53).getD ((sy_i F 70) + (((-1) : Int32))).toNatClampNeg 0) := hd_rd (hs 4 _ rfl) t73 a53
  have t78 : sy_dv F' (.inr (.inl 78)) = .int (((sy_ai F 53).getD (((sy_i F 70) + (((-1) : Int32))) - ((1 : Int32))).toNatClampNeg 0) * ((sy_ai F 53).getD ((sy_i F 70) + (((-1) : Int32))).toNatClampNeg 0)) := hd_o (hs 6 _ rfl) t75 t76 rfl
  have t79 : sy_da F' (.inr (.inl 79)) = .inl (jm_upd (sy_ai F 53) (((sy_i F 70) + (((-1) : Int32))) - ((1 : Int32))).toNatClampNeg (((sy_ai F 53).getD (((sy_i F 70) + (((-1) : Int32))) - ((1 : Int32))).toNatClampNeg 0) * ((sy_ai F 53).getD ((sy_i F 70) + (((-1) : Int32))).toNatClampNeg 0))) := hd_up (hs 7 _ rfl) t77 t78 a53
  have t80 : sy_dv F' (.inr (.inl 80)) = .int ((sy_i F 71) + ((1 : Int32))) := hd_o (hs 8 _ rfl) b71 rfl rfl
  have hB' : iv_in F' iv_B4 := iv_in_eq hB (fun j hj => hF j (Nat.lt_of_lt_of_le hj (by decide +kernel)))
  refine ⟨List.forall_mem_cons.mpr ⟨hd_p5 b69 b71 h0, List.forall_mem_cons.mpr ⟨hd_pb b71 (by first | exact h1 | exact h1), List.forall_mem_cons.mpr ⟨hd_p4 rfl t72 (by have hc : ((2) : Int32).toInt = 2 := (by decide); omega), List.forall_mem_cons.mpr ⟨hd_pb t74 (by first | exact h3 | exact h3), List.forall_mem_cons.mpr ⟨hd_pb t73 (by first | exact h4 | exact h4), List.forall_mem_cons.mpr ⟨hd_p1 t72 rfl (by have hc : ((5) : Int32).toInt = 5 := (by decide); omega), List.forall_mem_cons.mpr ⟨hd_p1 t72 rfl (by have hc : ((2) : Int32).toInt = 2 := (by decide); omega), List.forall_mem_cons.mpr ⟨hd_p1 t72 rfl (by have hc : ((3) : Int32).toInt = 3 := (by decide); omega), List.forall_mem_cons.mpr ⟨hd_p0 t72 rfl (by have hc : ((4) : Int32).toInt = 4 := (by decide); omega), List.forall_mem_cons.mpr ⟨hd_pb t77 (by first | exact h9 | exact h9), fun _ h => absurd h List.not_mem_nil⟩⟩⟩⟩⟩⟩⟩⟩⟩⟩, ?_⟩
  refine k _ ?_ ?_ ?_ ?_ ?_
  · exact fun j hj hn => (hd_keep hB' (Nat.lt_of_lt_of_le hj (by decide +kernel)) (by simp; omega)).trans (hF j (by omega))
  · exact hd_ga (a := .inr (.inl 79)) (by decide +kernel) t79
  · exact hd_gi (x := .inr (.inl 69)) (by decide +kernel) b69
  · exact hd_gi (x := .inr (.inl 73)) (by decide +kernel) t73
  · exact hd_gi (x := .inr (.inl 80)) (by decide +kernel) t80
theorem yte_5_p2 {Ls : Nat} {xs : Nat → Int32} {d : Nat} {Q : Option Value → jm_h → Prop} (hd : 1 ≤ d) (F : Nat → sy_d) (X1 X2 : List jm_c) (hB : iv_in F iv_B4)
    (h0 : (sy_i F 71).toInt < (sy_i F 69).toInt)
    (h1 : 0 ≤ (sy_i F 71).toInt ∧ (sy_i F 71).toInt < 840)
    (h2 : 2 ≤ ((sy_ai F 49).getD (sy_i F 71).toNatClampNeg 0).toInt)
    (h3 : 0 ≤ (((sy_i F 70) + (((-1) : Int32))) - ((1 : Int32))).toInt ∧ (((sy_i F 70) + (((-1) : Int32))) - ((1 : Int32))).toInt < 400)
    (h4 : 0 ≤ ((sy_i F 70) + (((-1) : Int32))).toInt ∧ ((sy_i F 70) + (((-1) : Int32))).toInt < 400)
    (h5 : ((sy_ai F 49).getD (sy_i F 71).toNatClampNeg 0).toInt ≠ 5)
    (h6 : ((sy_ai F 49).getD (sy_i F 71).toNatClampNeg 0).toInt ≠ 2)
    (h7 : ((sy_ai F 49).getD (sy_i F 71).toNatClampNeg 0).toInt = 3)
    (h8 : 0 ≤ (((sy_i F 70) + (((-1) : Int32))) - ((1 : Int32))).toInt ∧ (((sy_i F 70) + (((-1) : Int32))) - ((1 : Int32))).toInt < 400)
    (k : ∀ F1 : Nat → sy_d, (∀ j, j < 69 → j ≠ 53 → F1 j = F j) → F1 53 = .inr (.inl (jm_upd (sy_ai F 53) (((sy_i F 70) + (((-1) : Int32))) - ((1 : Int32))).toNatClampNeg (((sy_ai F 53).getD (((sy_i F 70) + (((-1) : Int32))) - ((1 : Int32))).toNatClampNeg 0) - ((sy_ai F 53).getD ((sy_i F 70) + (((-1) : Int32))).toNatClampNeg 0)))) → F1 69 = .inl (.int (sy_i F 69)) → F1 70 = .inl (.int ((sy_i F 70) + (((-1) : Int32)))) → F1 71 = .inl (.int ((sy_i F 71) + ((1 : Int32)))) → hd_W Ls xs d jm_M166 Q (5, sy_dL F1 [some (.inl (.ref 1000)), none, some (.inr (.inl 69)), some (.inr (.inl 70)), some (.inr (.inl 71)), none, none, none], sy_dS F1 [], sy_dh F1 X1 X2 (iv_H 4), 0, 0)) :
    hd_W Ls xs d jm_M166 Q (5, sy_dL F [some (.inl (.ref 1000)), none, some (.inr (.inl 69)), some (.inr (.inl 70)), some (.inr (.inl 71)), none, none, none], sy_dS F [], sy_dh F X1 X2 (iv_H 4), 0, 0) := by
  refine hd_run (s := 4) (nv := 72) (pc := 5) (L := [some (.inl (.ref 1000)), none, some (.inr (.inl 69)), some (.inr (.inl 70)), some (.inr (.inl 71)), none, none, none]) (S := []) (uh := hd_ov (iv_id 0 iv_B4) [(53, .inr (.inr (.inl 79)))]) (ul := [.inl (.inr (.inl 69)), .inl (.inr (.inl 73)), .inl (.inr (.inl 80))]) (f := true) (sp := [5]) (d0 := 0) (O := [false, true, true, true, false]) (T := [(30, [.inr (.inl 71)], [.inr (.inl 49)]), (0, [.inr (.inl 70), .inl (.int (-1))], []), (1, [.inr (.inl 73), .inl (.int 1)], []), (30, [.inr (.inl 74)], [.inr (.inl 53)]), (30, [.inr (.inl 73)], [.inr (.inl 53)]), (1, [.inr (.inl 73), .inl (.int 1)], []), (1, [.inr (.inl 75), .inr (.inl 76)], []), (40, [.inr (.inl 77), .inr (.inl 78)], [.inr (.inl 53)]), (0, [.inr (.inl 71), .inl (.int 1)], [])]) (P := [(5, .inr (.inl 69), .inr (.inl 71)), (6, .inr (.inl 71), .inl (.ref 840)), (4, .inl (.int 2), .inr (.inl 72)), (6, .inr (.inl 74), .inl (.ref 400)), (6, .inr (.inl 73), .inl (.ref 400)), (1, .inr (.inl 72), .inl (.int 5)), (1, .inr (.inl 72), .inl (.int 2)), (0, .inr (.inl 72), .inl (.int 3)), (6, .inr (.inl 77), .inl (.ref 400))]) jm_ok166 (by decide +kernel) (by decide +kernel) hd F X1 X2 (fun F' hF hs => ?_)
  have b69 := hd_b (F := F) (F' := F') (k := 69) (hF 69 (by decide))
  have b71 := hd_b (F := F) (F' := F') (k := 71) (hF 71 (by decide))
  have a49 := hd_ba (F := F) (F' := F') (k := 49) (hF 49 (by decide))
  have t72 : sy_dv F' (.inr (.inl 72)) = .int ((sy_ai F 49).getD (sy_i F 71).toNatClampNeg 0) := hd_rd (hs 0 _ rfl) b71 a49
  have b70 := hd_b (F := F) (F' := F') (k := 70) (hF 70 (by decide))
  have t73 : sy_dv F' (.inr (.inl 73)) = .int ((sy_i F 70) + (((-1) : Int32))) := hd_o (hs 1 _ rfl) b70 rfl rfl
  have t74 : sy_dv F' (.inr (.inl 74)) = .int (((sy_i F 70) + (((-1) : Int32))) - ((1 : Int32))) := hd_o (hs 2 _ rfl) t73 rfl rfl
  have t77 : sy_dv F' (.inr (.inl 77)) = .int (((sy_i F 70) + (((-1) : Int32))) - ((1 : Int32))) := hd_o (hs 5 _ rfl) t73 rfl rfl
  have a53 := hd_ba (F := F) (F' := F') (k := 53) (hF 53 (by decide))
  have t75 : sy_dv F' (.inr (.inl 75)) = .int ((sy_ai F 53).getD (((sy_i F 70) + (((-1) : Int32))) - ((1 : Int32))).toNatClampNeg 0) := hd_rd (hs 3 _ rfl) t74 a53
  have t76 : sy_dv F' (.inr (.inl 76)) = .int ((sy_ai F 53).getD ((sy_i F 70) + (((-1) : Int32))).toNatClampNeg 0) := hd_rd (hs 4 _ rfl) t73 a53
  have t78 : sy_dv F' (.inr (.inl 78)) = .int (((sy_ai F 53).getD (((sy_i F 70) + (((-1) : Int32))) - ((1 : Int32))).toNatClampNeg 0) - ((sy_ai F 53).getD ((sy_i F 70) + (((-1) : Int32))).toNatClampNeg 0)) := hd_o (hs 6 _ rfl) t75 t76 rfl
  have t79 : sy_da F' (.inr (.inl 79)) = .inl (jm_upd (sy_ai F 53) (((sy_i F 70) + (((-1) : Int32))) - ((1 : Int32))).toNatClampNeg (((sy_ai F 53).getD (((sy_i F 70) + (((-1) : Int32))) - ((1 : Int32))).toNatClampNeg 0) - ((sy_ai F 53).getD ((sy_i F 70) + (((-1) : Int32))).toNatClampNeg 0))) := hd_up (hs 7 _ rfl) t77 t78 a53
  have t80 : sy_dv F' (.inr (.inl 80)) = .int ((sy_i F 71) + ((1 : Int32))) := hd_o (hs 8 _ rfl) b71 rfl rfl
  have hB' : iv_in F' iv_B4 := iv_in_eq hB (fun j hj => hF j (Nat.lt_of_lt_of_le hj (by decide +kernel)))
  refine ⟨List.forall_mem_cons.mpr ⟨hd_p5 b69 b71 h0, List.forall_mem_cons.mpr ⟨hd_pb b71 (by first | exact h1 | exact h1), List.forall_mem_cons.mpr ⟨hd_p4 rfl t72 (by have hc : ((2) : Int32).toInt = 2 := (by decide); omega), List.forall_mem_cons.mpr ⟨hd_pb t74 (by first | exact h3 | exact h3), List.forall_mem_cons.mpr ⟨hd_pb t73 (by first | exact h4 | exact h4), List.forall_mem_cons.mpr ⟨hd_p1 t72 rfl (by have hc : ((5) : Int32).toInt = 5 := (by decide); omega), List.forall_mem_cons.mpr ⟨hd_p1 t72 rfl (by have hc : ((2) : Int32).toInt = 2 := (by decide); omega), List.forall_mem_cons.mpr ⟨hd_p0 t72 rfl (by have hc : ((3) : Int32).toInt = 3 := (by decide); omega), List.forall_mem_cons.mpr ⟨hd_pb t77 (by first | exact h8 | exact h8), fun _ h => absurd h List.not_mem_nil⟩⟩⟩⟩⟩⟩⟩⟩⟩, ?_⟩
  refine k _ ?_ ?_ ?_ ?_ ?_
  · exact fun j hj hn => (hd_keep hB' (Nat.lt_of_lt_of_le hj (by decide +kernel)) (by simp; omega)).trans (hF j (by omega))
  · exact hd_ga (a := .inr (.inl 79)) (by decide +kernel) t79
  · exact hd_gi (x := .inr (.inl 69)) (by decide +kernel) b69
  · exact hd_gi (x := .inr (.inl 73)) (by decide +kernel) t73
  · exact hd_gi (x := .inr (.inl 80)) (by decide +kernel) t80
theorem yte_5_p3 {Ls : Nat} {xs : Nat → Int32} {d : Nat} {Q : Option Value → jm_h → Prop} (hd : 1 ≤ d) (F : Nat → sy_d) (X1 X2 : List jm_c) (hB : iv_in F iv_B4)
    (h0 : (sy_i F 71).toInt < (sy_i F 69).toInt)
    (h1 : 0 ≤ (sy_i F 71).toInt ∧ (sy_i F 71).toInt < 840)
    (h2 : 2 ≤ ((sy_ai F 49).getD (sy_i F 71).toNatClampNeg 0).toInt)
    (h3 : 0 ≤ (((sy_i F 70) + (((-1) : Int32))) - ((1 : Int32))).toInt ∧ (((sy_i F 70) + (((-1) : Int32))) - ((1 : Int32))).toInt < 400)
    (h4 : 0 ≤ ((sy_i F 70) + (((-1) : Int32))).toInt ∧ ((sy_i F 70) + (((-1) : Int32))).toInt < 400)
    (h5 : ((sy_ai F 49).getD (sy_i F 71).toNatClampNeg 0).toInt ≠ 5)
    (h6 : ((sy_ai F 49).getD (sy_i F 71).toNatClampNeg 0).toInt = 2)
    (h7 : 0 ≤ (((sy_i F 70) + (((-1) : Int32))) - ((1 : Int32))).toInt ∧ (((sy_i F 70) + (((-1) : Int32))) - ((1 : Int32))).toInt < 400)
    (k : ∀ F1 : Nat → sy_d, (∀ j, j < 69 → j ≠ 53 → F1 j = F j) → F1 53 = .inr (.inl (jm_upd (sy_ai F 53) (((sy_i F 70) + (((-1) : Int32))) - ((1 : Int32))).toNatClampNeg (((sy_ai F 53).getD (((sy_i F 70) + (((-1) : Int32))) - ((1 : Int32))).toNatClampNeg 0) + ((sy_ai F 53).getD ((sy_i F 70) + (((-1) : Int32))).toNatClampNeg 0)))) → F1 69 = .inl (.int (sy_i F 69)) → F1 70 = .inl (.int ((sy_i F 70) + (((-1) : Int32)))) → F1 71 = .inl (.int ((sy_i F 71) + ((1 : Int32)))) → hd_W Ls xs d jm_M166 Q (5, sy_dL F1 [some (.inl (.ref 1000)), none, some (.inr (.inl 69)), some (.inr (.inl 70)), some (.inr (.inl 71)), none, none, none], sy_dS F1 [], sy_dh F1 X1 X2 (iv_H 4), 0, 0)) :
    hd_W Ls xs d jm_M166 Q (5, sy_dL F [some (.inl (.ref 1000)), none, some (.inr (.inl 69)), some (.inr (.inl 70)), some (.inr (.inl 71)), none, none, none], sy_dS F [], sy_dh F X1 X2 (iv_H 4), 0, 0) := by
  refine hd_run (s := 4) (nv := 72) (pc := 5) (L := [some (.inl (.ref 1000)), none, some (.inr (.inl 69)), some (.inr (.inl 70)), some (.inr (.inl 71)), none, none, none]) (S := []) (uh := hd_ov (iv_id 0 iv_B4) [(53, .inr (.inr (.inl 79)))]) (ul := [.inl (.inr (.inl 69)), .inl (.inr (.inl 73)), .inl (.inr (.inl 80))]) (f := true) (sp := [5]) (d0 := 0) (O := [false, true, true, false]) (T := [(30, [.inr (.inl 71)], [.inr (.inl 49)]), (0, [.inr (.inl 70), .inl (.int (-1))], []), (1, [.inr (.inl 73), .inl (.int 1)], []), (30, [.inr (.inl 74)], [.inr (.inl 53)]), (30, [.inr (.inl 73)], [.inr (.inl 53)]), (1, [.inr (.inl 73), .inl (.int 1)], []), (0, [.inr (.inl 75), .inr (.inl 76)], []), (40, [.inr (.inl 77), .inr (.inl 78)], [.inr (.inl 53)]), (0, [.inr (.inl 71), .inl (.int 1)], [])]) (P := [(5, .inr (.inl 69), .inr (.inl 71)), (6, .inr (.inl 71), .inl (.ref 840)), (4, .inl (.int 2), .inr (.inl 72)), (6, .inr (.inl 74), .inl (.ref 400)), (6, .inr (.inl 73), .inl (.ref 400)), (1, .inr (.inl 72), .inl (.int 5)), (0, .inr (.inl 72), .inl (.int 2)), (6, .inr (.inl 77), .inl (.ref 400))]) jm_ok166 (by decide +kernel) (by decide +kernel) hd F X1 X2 (fun F' hF hs => ?_)
  have b69 := hd_b (F := F) (F' := F') (k := 69) (hF 69 (by decide))
  have b71 := hd_b (F := F) (F' := F') (k := 71) (hF 71 (by decide))
  have a49 := hd_ba (F := F) (F' := F') (k := 49) (hF 49 (by decide))
  have t72 : sy_dv F' (.inr (.inl 72)) = .int ((sy_ai F 49).getD (sy_i F 71).toNatClampNeg 0) := hd_rd (hs 0 _ rfl) b71 a49
  have b70 := hd_b (F := F) (F' := F') (k := 70) (hF 70 (by decide))
  have t73 : sy_dv F' (.inr (.inl 73)) = .int ((sy_i F 70) + (((-1) : Int32))) := hd_o (hs 1 _ rfl) b70 rfl rfl
  have t74 : sy_dv F' (.inr (.inl 74)) = .int (((sy_i F 70) + (((-1) : Int32))) - ((1 : Int32))) := hd_o (hs 2 _ rfl) t73 rfl rfl
  have t77 : sy_dv F' (.inr (.inl 77)) = .int (((sy_i F 70) + (((-1) : Int32))) - ((1 : Int32))) := hd_o (hs 5 _ rfl) t73 rfl rfl
  have a53 := hd_ba (F := F) (F' := F') (k := 53) (hF 53 (by decide))
  have t75 : sy_dv F' (.inr (.inl 75)) = .int ((sy_ai F 53).getD (((sy_i F 70) + (((-1) : Int32))) - ((1 : Int32))).toNatClampNeg 0) := hd_rd (hs 3 _ rfl) t74 a53
  have t76 : sy_dv F' (.inr (.inl 76)) = .int ((sy_ai F 53).getD ((sy_i F 70) + (((-1) : Int32))).toNatClampNeg 0) := hd_rd (hs 4 _ rfl) t73 a53
  have t78 : sy_dv F' (.inr (.inl 78)) = .int (((sy_ai F 53).getD (((sy_i F 70) + (((-1) : Int32))) - ((1 : Int32))).toNatClampNeg 0) + ((sy_ai F 53).getD ((sy_i F 70) + (((-1) : Int32))).toNatClampNeg 0)) := hd_o (hs 6 _ rfl) t75 t76 rfl
  have t79 : sy_da F' (.inr (.inl 79)) = .inl (jm_upd (sy_ai F 53) (((sy_i F 70) + (((-1) : Int32))) - ((1 : Int32))).toNatClampNeg (((sy_ai F 53).getD (((sy_i F 70) + (((-1) : Int32))) - ((1 : Int32))).toNatClampNeg 0) + ((sy_ai F 53).getD ((sy_i F 70) + (((-1) : Int32))).toNatClampNeg 0))) := hd_up (hs 7 _ rfl) t77 t78 a53
  have t80 : sy_dv F' (.inr (.inl 80)) = .int ((sy_i F 71) + ((1 : Int32))) := hd_o (hs 8 _ rfl) b71 rfl rfl
  have hB' : iv_in F' iv_B4 := iv_in_eq hB (fun j hj => hF j (Nat.lt_of_lt_of_le hj (by decide +kernel)))
  refine ⟨List.forall_mem_cons.mpr ⟨hd_p5 b69 b71 h0, List.forall_mem_cons.mpr ⟨hd_pb b71 (by first | exact h1 | exact h1), List.forall_mem_cons.mpr ⟨hd_p4 rfl t72 (by have hc : ((2) : Int32).toInt = 2 := (by decide); omega), List.forall_mem_cons.mpr ⟨hd_pb t74 (by first | exact h3 | exact h3), List.forall_mem_cons.mpr ⟨hd_pb t73 (by first | exact h4 | exact h4), List.forall_mem_cons.mpr ⟨hd_p1 t72 rfl (by have hc : ((5) : Int32).toInt = 5 := (by decide); omega), List.forall_mem_cons.mpr ⟨hd_p0 t72 rfl (by have hc : ((2) : Int32).toInt = 2 := (by decide); omega), List.forall_mem_cons.mpr ⟨hd_pb t77 (by first | exact h7 | exact h7), fun _ h => absurd h List.not_mem_nil⟩⟩⟩⟩⟩⟩⟩⟩, ?_⟩
  refine k _ ?_ ?_ ?_ ?_ ?_
  · exact fun j hj hn => (hd_keep hB' (Nat.lt_of_lt_of_le hj (by decide +kernel)) (by simp; omega)).trans (hF j (by omega))
  · exact hd_ga (a := .inr (.inl 79)) (by decide +kernel) t79
  · exact hd_gi (x := .inr (.inl 69)) (by decide +kernel) b69
  · exact hd_gi (x := .inr (.inl 73)) (by decide +kernel) t73
  · exact hd_gi (x := .inr (.inl 80)) (by decide +kernel) t80
theorem yte_5_p4 {Ls : Nat} {xs : Nat → Int32} {d : Nat} {Q : Option Value → jm_h → Prop} (hd : 1 ≤ d) (F : Nat → sy_d) (X1 X2 : List jm_c) (hB : iv_in F iv_B4)
    (h0 : (sy_i F 71).toInt < (sy_i F 69).toInt)
    (h1 : 0 ≤ (sy_i F 71).toInt ∧ (sy_i F 71).toInt < 840)
    (h2 : 2 ≤ ((sy_ai F 49).getD (sy_i F 71).toNatClampNeg 0).toInt)
    (h3 : 0 ≤ (((sy_i F 70) + (((-1) : Int32))) - ((1 : Int32))).toInt ∧ (((sy_i F 70) + (((-1) : Int32))) - ((1 : Int32))).toInt < 400)
    (h4 : 0 ≤ ((sy_i F 70) + (((-1) : Int32))).toInt ∧ ((sy_i F 70) + (((-1) : Int32))).toInt < 400)
    (h5 : ((sy_ai F 49).getD (sy_i F 71).toNatClampNeg 0).toInt = 5)
    (h6 : ((sy_ai F 53).getD ((sy_i F 70) + (((-1) : Int32))).toNatClampNeg 0).toInt ≠ 0)
    (h7 : ((sy_ai F 49).getD (sy_i F 71).toNatClampNeg 0).toInt ≠ 2)
    (h8 : ((sy_ai F 49).getD (sy_i F 71).toNatClampNeg 0).toInt ≠ 3)
    (h9 : ((sy_ai F 49).getD (sy_i F 71).toNatClampNeg 0).toInt ≠ 4)
    (h10 : ((sy_ai F 53).getD ((sy_i F 70) + (((-1) : Int32))).toNatClampNeg 0).toInt ≠ 0)
    (h11 : 0 ≤ (((sy_i F 70) + (((-1) : Int32))) - ((1 : Int32))).toInt ∧ (((sy_i F 70) + (((-1) : Int32))) - ((1 : Int32))).toInt < 400)
    (k : ∀ F1 : Nat → sy_d, (∀ j, j < 69 → j ≠ 53 → F1 j = F j) → F1 53 = .inr (.inl (jm_upd (sy_ai F 53) (((sy_i F 70) + (((-1) : Int32))) - ((1 : Int32))).toNatClampNeg (((sy_ai F 53).getD (((sy_i F 70) + (((-1) : Int32))) - ((1 : Int32))).toNatClampNeg 0) / ((sy_ai F 53).getD ((sy_i F 70) + (((-1) : Int32))).toNatClampNeg 0)))) → F1 69 = .inl (.int (sy_i F 69)) → F1 70 = .inl (.int ((sy_i F 70) + (((-1) : Int32)))) → F1 71 = .inl (.int ((sy_i F 71) + ((1 : Int32)))) → hd_W Ls xs d jm_M166 Q (5, sy_dL F1 [some (.inl (.ref 1000)), none, some (.inr (.inl 69)), some (.inr (.inl 70)), some (.inr (.inl 71)), none, none, none], sy_dS F1 [], sy_dh F1 X1 X2 (iv_H 4), 0, 0)) :
    hd_W Ls xs d jm_M166 Q (5, sy_dL F [some (.inl (.ref 1000)), none, some (.inr (.inl 69)), some (.inr (.inl 70)), some (.inr (.inl 71)), none, none, none], sy_dS F [], sy_dh F X1 X2 (iv_H 4), 0, 0) := by
  refine hd_run (s := 4) (nv := 72) (pc := 5) (L := [some (.inl (.ref 1000)), none, some (.inr (.inl 69)), some (.inr (.inl 70)), some (.inr (.inl 71)), none, none, none]) (S := []) (uh := hd_ov (iv_id 0 iv_B4) [(53, .inr (.inr (.inl 79)))]) (ul := [.inl (.inr (.inl 69)), .inl (.inr (.inl 73)), .inl (.inr (.inl 80))]) (f := true) (sp := [5]) (d0 := 0) (O := [false, true, false, true, true, true, true]) (T := [(30, [.inr (.inl 71)], [.inr (.inl 49)]), (0, [.inr (.inl 70), .inl (.int (-1))], []), (1, [.inr (.inl 73), .inl (.int 1)], []), (30, [.inr (.inl 74)], [.inr (.inl 53)]), (30, [.inr (.inl 73)], [.inr (.inl 53)]), (1, [.inr (.inl 73), .inl (.int 1)], []), (9, [.inr (.inl 75), .inr (.inl 76)], []), (40, [.inr (.inl 77), .inr (.inl 78)], [.inr (.inl 53)]), (0, [.inr (.inl 71), .inl (.int 1)], [])]) (P := [(5, .inr (.inl 69), .inr (.inl 71)), (6, .inr (.inl 71), .inl (.ref 840)), (4, .inl (.int 2), .inr (.inl 72)), (6, .inr (.inl 74), .inl (.ref 400)), (6, .inr (.inl 73), .inl (.ref 400)), (0, .inr (.inl 72), .inl (.int 5)), (1, .inr (.inl 76), .inl (.int 0)), (1, .inr (.inl 72), .inl (.int 2)), (1, .inr (.inl 72), .inl (.int 3)), (1, .inr (.inl 72), .inl (.int 4)), (1, .inr (.inl 76), .inl (.int 0)), (6, .inr (.inl 77), .inl (.ref 400))]) jm_ok166 (by decide +kernel) (by decide +kernel) hd F X1 X2 (fun F' hF hs => ?_)
  have b69 := hd_b (F := F) (F' := F') (k := 69) (hF 69 (by decide))
  have b71 := hd_b (F := F) (F' := F') (k := 71) (hF 71 (by decide))
  have a49 := hd_ba (F := F) (F' := F') (k := 49) (hF 49 (by decide))
  have t72 : sy_dv F' (.inr (.inl 72)) = .int ((sy_ai F 49).getD (sy_i F 71).toNatClampNeg 0) := hd_rd (hs 0 _ rfl) b71 a49
  have b70 := hd_b (F := F) (F' := F') (k := 70) (hF 70 (by decide))
  have t73 : sy_dv F' (.inr (.inl 73)) = .int ((sy_i F 70) + (((-1) : Int32))) := hd_o (hs 1 _ rfl) b70 rfl rfl
  have t74 : sy_dv F' (.inr (.inl 74)) = .int (((sy_i F 70) + (((-1) : Int32))) - ((1 : Int32))) := hd_o (hs 2 _ rfl) t73 rfl rfl
  have a53 := hd_ba (F := F) (F' := F') (k := 53) (hF 53 (by decide))
  have t76 : sy_dv F' (.inr (.inl 76)) = .int ((sy_ai F 53).getD ((sy_i F 70) + (((-1) : Int32))).toNatClampNeg 0) := hd_rd (hs 4 _ rfl) t73 a53
  have t77 : sy_dv F' (.inr (.inl 77)) = .int (((sy_i F 70) + (((-1) : Int32))) - ((1 : Int32))) := hd_o (hs 5 _ rfl) t73 rfl rfl
  have t75 : sy_dv F' (.inr (.inl 75)) = .int ((sy_ai F 53).getD (((sy_i F 70) + (((-1) : Int32))) - ((1 : Int32))).toNatClampNeg 0) := hd_rd (hs 3 _ rfl) t74 a53
  have t78 : sy_dv F' (.inr (.inl 78)) = .int (((sy_ai F 53).getD (((sy_i F 70) + (((-1) : Int32))) - ((1 : Int32))).toNatClampNeg 0) / ((sy_ai F 53).getD ((sy_i F 70) + (((-1) : Int32))).toNatClampNeg 0)) := hd_o (hs 6 _ rfl) t75 t76 rfl
  have t79 : sy_da F' (.inr (.inl 79)) = .inl (jm_upd (sy_ai F 53) (((sy_i F 70) + (((-1) : Int32))) - ((1 : Int32))).toNatClampNeg (((sy_ai F 53).getD (((sy_i F 70) + (((-1) : Int32))) - ((1 : Int32))).toNatClampNeg 0) / ((sy_ai F 53).getD ((sy_i F 70) + (((-1) : Int32))).toNatClampNeg 0))) := hd_up (hs 7 _ rfl) t77 t78 a53
  have t80 : sy_dv F' (.inr (.inl 80)) = .int ((sy_i F 71) + ((1 : Int32))) := hd_o (hs 8 _ rfl) b71 rfl rfl
  have hB' : iv_in F' iv_B4 := iv_in_eq hB (fun j hj => hF j (Nat.lt_of_lt_of_le hj (by decide +kernel)))
  refine ⟨List.forall_mem_cons.mpr ⟨hd_p5 b69 b71 h0, List.forall_mem_cons.mpr ⟨hd_pb b71 (by first | exact h1 | exact h1), List.forall_mem_cons.mpr ⟨hd_p4 rfl t72 (by have hc : ((2) : Int32).toInt = 2 := (by decide); omega), List.forall_mem_cons.mpr ⟨hd_pb t74 (by first | exact h3 | exact h3), List.forall_mem_cons.mpr ⟨hd_pb t73 (by first | exact h4 | exact h4), List.forall_mem_cons.mpr ⟨hd_p0 t72 rfl (by have hc : ((5) : Int32).toInt = 5 := (by decide); omega), List.forall_mem_cons.mpr ⟨hd_p1 t76 rfl (by have hc : ((0) : Int32).toInt = 0 := (by decide); omega), List.forall_mem_cons.mpr ⟨hd_p1 t72 rfl (by have hc : ((2) : Int32).toInt = 2 := (by decide); omega), List.forall_mem_cons.mpr ⟨hd_p1 t72 rfl (by have hc : ((3) : Int32).toInt = 3 := (by decide); omega), List.forall_mem_cons.mpr ⟨hd_p1 t72 rfl (by have hc : ((4) : Int32).toInt = 4 := (by decide); omega), List.forall_mem_cons.mpr ⟨hd_p1 t76 rfl (by have hc : ((0) : Int32).toInt = 0 := (by decide); omega), List.forall_mem_cons.mpr ⟨hd_pb t77 (by first | exact h11 | exact h11), fun _ h => absurd h List.not_mem_nil⟩⟩⟩⟩⟩⟩⟩⟩⟩⟩⟩⟩, ?_⟩
  refine k _ ?_ ?_ ?_ ?_ ?_
  · exact fun j hj hn => (hd_keep hB' (Nat.lt_of_lt_of_le hj (by decide +kernel)) (by simp; omega)).trans (hF j (by omega))
  · exact hd_ga (a := .inr (.inl 79)) (by decide +kernel) t79
  · exact hd_gi (x := .inr (.inl 69)) (by decide +kernel) b69
  · exact hd_gi (x := .inr (.inl 73)) (by decide +kernel) t73
  · exact hd_gi (x := .inr (.inl 80)) (by decide +kernel) t80
theorem yte_5_p5 {Ls : Nat} {xs : Nat → Int32} {d : Nat} {Q : Option Value → jm_h → Prop} (hd : 1 ≤ d) (F : Nat → sy_d) (X1 X2 : List jm_c) (hB : iv_in F iv_B4)
    (h0 : (sy_i F 71).toInt < (sy_i F 69).toInt)
    (h1 : 0 ≤ (sy_i F 71).toInt ∧ (sy_i F 71).toInt < 840)
    (h2 : 2 ≤ ((sy_ai F 49).getD (sy_i F 71).toNatClampNeg 0).toInt)
    (h3 : 0 ≤ (((sy_i F 70) + (((-1) : Int32))) - ((1 : Int32))).toInt ∧ (((sy_i F 70) + (((-1) : Int32))) - ((1 : Int32))).toInt < 400)
    (h4 : 0 ≤ ((sy_i F 70) + (((-1) : Int32))).toInt ∧ ((sy_i F 70) + (((-1) : Int32))).toInt < 400)
    (h5 : ((sy_ai F 49).getD (sy_i F 71).toNatClampNeg 0).toInt = 5)
    (h6 : ((sy_ai F 53).getD ((sy_i F 70) + (((-1) : Int32))).toNatClampNeg 0).toInt = 0)
    (k : ∀ F1 : Nat → sy_d, (∀ j, j < 69 → j ≠ 17 → F1 j = F j) → F1 17 = .inl (.int ((1 : Int32))) → Q (some (.int ((0 : Int32)))) (sy_dh F1 X1 X2 (iv_H 4))) :
    hd_W Ls xs d jm_M166 Q (5, sy_dL F [some (.inl (.ref 1000)), none, some (.inr (.inl 69)), some (.inr (.inl 70)), some (.inr (.inl 71)), none, none, none], sy_dS F [], sy_dh F X1 X2 (iv_H 4), 0, 0) := by
  refine hd_ret (s := 4) (nv := 72) (v := some (.inl (.int 0))) (uh := hd_ov (iv_id 0 iv_B4) [(17, .inl (.inl (.int 1)))]) (f := true) (sp := [5]) (d0 := 0) (O := [false, true, false, false]) (T := [(30, [.inr (.inl 71)], [.inr (.inl 49)]), (0, [.inr (.inl 70), .inl (.int (-1))], []), (1, [.inr (.inl 73), .inl (.int 1)], []), (30, [.inr (.inl 74)], [.inr (.inl 53)]), (30, [.inr (.inl 73)], [.inr (.inl 53)])]) (P := [(5, .inr (.inl 69), .inr (.inl 71)), (6, .inr (.inl 71), .inl (.ref 840)), (4, .inl (.int 2), .inr (.inl 72)), (6, .inr (.inl 74), .inl (.ref 400)), (6, .inr (.inl 73), .inl (.ref 400)), (0, .inr (.inl 72), .inl (.int 5)), (0, .inr (.inl 76), .inl (.int 0))]) jm_ok166 (by decide +kernel) (by decide +kernel) hd F X1 X2 (fun F' hF hs => ?_)
  have b69 := hd_b (F := F) (F' := F') (k := 69) (hF 69 (by decide))
  have b71 := hd_b (F := F) (F' := F') (k := 71) (hF 71 (by decide))
  have a49 := hd_ba (F := F) (F' := F') (k := 49) (hF 49 (by decide))
  have t72 : sy_dv F' (.inr (.inl 72)) = .int ((sy_ai F 49).getD (sy_i F 71).toNatClampNeg 0) := hd_rd (hs 0 _ rfl) b71 a49
  have b70 := hd_b (F := F) (F' := F') (k := 70) (hF 70 (by decide))
  have t73 : sy_dv F' (.inr (.inl 73)) = .int ((sy_i F 70) + (((-1) : Int32))) := hd_o (hs 1 _ rfl) b70 rfl rfl
  have t74 : sy_dv F' (.inr (.inl 74)) = .int (((sy_i F 70) + (((-1) : Int32))) - ((1 : Int32))) := hd_o (hs 2 _ rfl) t73 rfl rfl
  have a53 := hd_ba (F := F) (F' := F') (k := 53) (hF 53 (by decide))
  have t76 : sy_dv F' (.inr (.inl 76)) = .int ((sy_ai F 53).getD ((sy_i F 70) + (((-1) : Int32))).toNatClampNeg 0) := hd_rd (hs 4 _ rfl) t73 a53
  have hB' : iv_in F' iv_B4 := iv_in_eq hB (fun j hj => hF j (Nat.lt_of_lt_of_le hj (by decide +kernel)))
  refine ⟨List.forall_mem_cons.mpr ⟨hd_p5 b69 b71 h0, List.forall_mem_cons.mpr ⟨hd_pb b71 (by first | exact h1 | exact h1), List.forall_mem_cons.mpr ⟨hd_p4 rfl t72 (by have hc : ((2) : Int32).toInt = 2 := (by decide); omega), List.forall_mem_cons.mpr ⟨hd_pb t74 (by first | exact h3 | exact h3), List.forall_mem_cons.mpr ⟨hd_pb t73 (by first | exact h4 | exact h4), List.forall_mem_cons.mpr ⟨hd_p0 t72 rfl (by have hc : ((5) : Int32).toInt = 5 := (by decide); omega), List.forall_mem_cons.mpr ⟨hd_p0 t76 rfl (by have hc : ((0) : Int32).toInt = 0 := (by decide); omega), fun _ h => absurd h List.not_mem_nil⟩⟩⟩⟩⟩⟩⟩, ?_⟩
  refine k _ ?_ ?_
  · exact fun j hj hn => (hd_keep hB' (Nat.lt_of_lt_of_le hj (by decide +kernel)) (by simp; omega)).trans (hF j (by omega))
  · exact hd_gi (x := .inl (.int 1)) (by decide +kernel) rfl
theorem yte_5_p6 {Ls : Nat} {xs : Nat → Int32} {d : Nat} {Q : Option Value → jm_h → Prop} (hd : 1 ≤ d) (F : Nat → sy_d) (X1 X2 : List jm_c) (hB : iv_in F iv_B4)
    (h0 : (sy_i F 71).toInt < (sy_i F 69).toInt)
    (h1 : 0 ≤ (sy_i F 71).toInt ∧ (sy_i F 71).toInt < 840)
    (h2 : ((sy_ai F 49).getD (sy_i F 71).toNatClampNeg 0).toInt < 2)
    (h3 : ((sy_ai F 49).getD (sy_i F 71).toNatClampNeg 0).toInt ≠ 0)
    (h4 : 0 ≤ (sy_i F 71).toInt ∧ (sy_i F 71).toInt < 840)
    (h5 : 0 ≤ ((sy_ai F 50).getD (sy_i F 71).toNatClampNeg 0).toInt ∧ ((sy_ai F 50).getD (sy_i F 71).toNatClampNeg 0).toInt < 9)
    (h6 : 0 ≤ (sy_i F 70).toInt ∧ (sy_i F 70).toInt < 400)
    (k : ∀ F1 : Nat → sy_d, (∀ j, j < 69 → j ≠ 53 → F1 j = F j) → F1 53 = .inr (.inl (jm_upd (sy_ai F 53) (sy_i F 70).toNatClampNeg ((sy_ai F 52).getD ((sy_ai F 50).getD (sy_i F 71).toNatClampNeg 0).toNatClampNeg 0))) → F1 69 = .inl (.int (sy_i F 69)) → F1 70 = .inl (.int ((sy_i F 70) + ((1 : Int32)))) → F1 71 = .inl (.int ((sy_i F 71) + ((1 : Int32)))) → hd_W Ls xs d jm_M166 Q (5, sy_dL F1 [some (.inl (.ref 1000)), none, some (.inr (.inl 69)), some (.inr (.inl 70)), some (.inr (.inl 71)), none, none, none], sy_dS F1 [], sy_dh F1 X1 X2 (iv_H 4), 0, 0)) :
    hd_W Ls xs d jm_M166 Q (5, sy_dL F [some (.inl (.ref 1000)), none, some (.inr (.inl 69)), some (.inr (.inl 70)), some (.inr (.inl 71)), none, none, none], sy_dS F [], sy_dh F X1 X2 (iv_H 4), 0, 0) := by
  refine hd_run (s := 4) (nv := 72) (pc := 5) (L := [some (.inl (.ref 1000)), none, some (.inr (.inl 69)), some (.inr (.inl 70)), some (.inr (.inl 71)), none, none, none]) (S := []) (uh := hd_ov (iv_id 0 iv_B4) [(53, .inr (.inr (.inl 75)))]) (ul := [.inl (.inr (.inl 69)), .inl (.inr (.inl 76)), .inl (.inr (.inl 77))]) (f := true) (sp := [5]) (d0 := 0) (O := [false, false, true]) (T := [(30, [.inr (.inl 71)], [.inr (.inl 49)]), (30, [.inr (.inl 71)], [.inr (.inl 50)]), (30, [.inr (.inl 73)], [.inr (.inl 52)]), (40, [.inr (.inl 70), .inr (.inl 74)], [.inr (.inl 53)]), (0, [.inr (.inl 70), .inl (.int 1)], []), (0, [.inr (.inl 71), .inl (.int 1)], [])]) (P := [(5, .inr (.inl 69), .inr (.inl 71)), (6, .inr (.inl 71), .inl (.ref 840)), (5, .inl (.int 2), .inr (.inl 72)), (1, .inr (.inl 72), .inl (.int 0)), (6, .inr (.inl 71), .inl (.ref 840)), (6, .inr (.inl 73), .inl (.ref 9)), (6, .inr (.inl 70), .inl (.ref 400))]) jm_ok166 (by decide +kernel) (by decide +kernel) hd F X1 X2 (fun F' hF hs => ?_)
  have b69 := hd_b (F := F) (F' := F') (k := 69) (hF 69 (by decide))
  have b71 := hd_b (F := F) (F' := F') (k := 71) (hF 71 (by decide))
  have a49 := hd_ba (F := F) (F' := F') (k := 49) (hF 49 (by decide))
  have t72 : sy_dv F' (.inr (.inl 72)) = .int ((sy_ai F 49).getD (sy_i F 71).toNatClampNeg 0) := hd_rd (hs 0 _ rfl) b71 a49
  have a50 := hd_ba (F := F) (F' := F') (k := 50) (hF 50 (by decide))
  have t73 : sy_dv F' (.inr (.inl 73)) = .int ((sy_ai F 50).getD (sy_i F 71).toNatClampNeg 0) := hd_rd (hs 1 _ rfl) b71 a50
  have b70 := hd_b (F := F) (F' := F') (k := 70) (hF 70 (by decide))
  have a52 := hd_ba (F := F) (F' := F') (k := 52) (hF 52 (by decide))
  have t74 : sy_dv F' (.inr (.inl 74)) = .int ((sy_ai F 52).getD ((sy_ai F 50).getD (sy_i F 71).toNatClampNeg 0).toNatClampNeg 0) := hd_rd (hs 2 _ rfl) t73 a52
  have a53 := hd_ba (F := F) (F' := F') (k := 53) (hF 53 (by decide))
  have t75 : sy_da F' (.inr (.inl 75)) = .inl (jm_upd (sy_ai F 53) (sy_i F 70).toNatClampNeg ((sy_ai F 52).getD ((sy_ai F 50).getD (sy_i F 71).toNatClampNeg 0).toNatClampNeg 0)) := hd_up (hs 3 _ rfl) b70 t74 a53
  have t76 : sy_dv F' (.inr (.inl 76)) = .int ((sy_i F 70) + ((1 : Int32))) := hd_o (hs 4 _ rfl) b70 rfl rfl
  have t77 : sy_dv F' (.inr (.inl 77)) = .int ((sy_i F 71) + ((1 : Int32))) := hd_o (hs 5 _ rfl) b71 rfl rfl
  have hB' : iv_in F' iv_B4 := iv_in_eq hB (fun j hj => hF j (Nat.lt_of_lt_of_le hj (by decide +kernel)))
  refine ⟨List.forall_mem_cons.mpr ⟨hd_p5 b69 b71 h0, List.forall_mem_cons.mpr ⟨hd_pb b71 (by first | exact h1 | exact h1), List.forall_mem_cons.mpr ⟨hd_p5 rfl t72 (by have hc : ((2) : Int32).toInt = 2 := (by decide); omega), List.forall_mem_cons.mpr ⟨hd_p1 t72 rfl (by have hc : ((0) : Int32).toInt = 0 := (by decide); omega), List.forall_mem_cons.mpr ⟨hd_pb b71 (by first | exact h4 | exact h4), List.forall_mem_cons.mpr ⟨hd_pb t73 (by first | exact h5 | exact h5), List.forall_mem_cons.mpr ⟨hd_pb b70 (by first | exact h6 | exact h6), fun _ h => absurd h List.not_mem_nil⟩⟩⟩⟩⟩⟩⟩, ?_⟩
  refine k _ ?_ ?_ ?_ ?_ ?_
  · exact fun j hj hn => (hd_keep hB' (Nat.lt_of_lt_of_le hj (by decide +kernel)) (by simp; omega)).trans (hF j (by omega))
  · exact hd_ga (a := .inr (.inl 75)) (by decide +kernel) t75
  · exact hd_gi (x := .inr (.inl 69)) (by decide +kernel) b69
  · exact hd_gi (x := .inr (.inl 76)) (by decide +kernel) t76
  · exact hd_gi (x := .inr (.inl 77)) (by decide +kernel) t77
theorem yte_5_p7 {Ls : Nat} {xs : Nat → Int32} {d : Nat} {Q : Option Value → jm_h → Prop} (hd : 1 ≤ d) (F : Nat → sy_d) (X1 X2 : List jm_c) (hB : iv_in F iv_B4)
    (h0 : (sy_i F 71).toInt < (sy_i F 69).toInt)
    (h1 : 0 ≤ (sy_i F 71).toInt ∧ (sy_i F 71).toInt < 840)
    (h2 : ((sy_ai F 49).getD (sy_i F 71).toNatClampNeg 0).toInt < 2)
    (h3 : ((sy_ai F 49).getD (sy_i F 71).toNatClampNeg 0).toInt = 0)
    (h4 : 0 ≤ (sy_i F 71).toInt ∧ (sy_i F 71).toInt < 840)
    (h5 : 0 ≤ (sy_i F 70).toInt ∧ (sy_i F 70).toInt < 400)
    (k : ∀ F1 : Nat → sy_d, (∀ j, j < 69 → j ≠ 53 → F1 j = F j) → F1 53 = .inr (.inl (jm_upd (sy_ai F 53) (sy_i F 70).toNatClampNeg ((sy_ai F 50).getD (sy_i F 71).toNatClampNeg 0))) → F1 69 = .inl (.int (sy_i F 69)) → F1 70 = .inl (.int ((sy_i F 70) + ((1 : Int32)))) → F1 71 = .inl (.int ((sy_i F 71) + ((1 : Int32)))) → hd_W Ls xs d jm_M166 Q (5, sy_dL F1 [some (.inl (.ref 1000)), none, some (.inr (.inl 69)), some (.inr (.inl 70)), some (.inr (.inl 71)), none, none, none], sy_dS F1 [], sy_dh F1 X1 X2 (iv_H 4), 0, 0)) :
    hd_W Ls xs d jm_M166 Q (5, sy_dL F [some (.inl (.ref 1000)), none, some (.inr (.inl 69)), some (.inr (.inl 70)), some (.inr (.inl 71)), none, none, none], sy_dS F [], sy_dh F X1 X2 (iv_H 4), 0, 0) := by
  refine hd_run (s := 4) (nv := 72) (pc := 5) (L := [some (.inl (.ref 1000)), none, some (.inr (.inl 69)), some (.inr (.inl 70)), some (.inr (.inl 71)), none, none, none]) (S := []) (uh := hd_ov (iv_id 0 iv_B4) [(53, .inr (.inr (.inl 74)))]) (ul := [.inl (.inr (.inl 69)), .inl (.inr (.inl 75)), .inl (.inr (.inl 76))]) (f := true) (sp := [5]) (d0 := 0) (O := [false, false, false]) (T := [(30, [.inr (.inl 71)], [.inr (.inl 49)]), (30, [.inr (.inl 71)], [.inr (.inl 50)]), (40, [.inr (.inl 70), .inr (.inl 73)], [.inr (.inl 53)]), (0, [.inr (.inl 70), .inl (.int 1)], []), (0, [.inr (.inl 71), .inl (.int 1)], [])]) (P := [(5, .inr (.inl 69), .inr (.inl 71)), (6, .inr (.inl 71), .inl (.ref 840)), (5, .inl (.int 2), .inr (.inl 72)), (0, .inr (.inl 72), .inl (.int 0)), (6, .inr (.inl 71), .inl (.ref 840)), (6, .inr (.inl 70), .inl (.ref 400))]) jm_ok166 (by decide +kernel) (by decide +kernel) hd F X1 X2 (fun F' hF hs => ?_)
  have b69 := hd_b (F := F) (F' := F') (k := 69) (hF 69 (by decide))
  have b71 := hd_b (F := F) (F' := F') (k := 71) (hF 71 (by decide))
  have a49 := hd_ba (F := F) (F' := F') (k := 49) (hF 49 (by decide))
  have t72 : sy_dv F' (.inr (.inl 72)) = .int ((sy_ai F 49).getD (sy_i F 71).toNatClampNeg 0) := hd_rd (hs 0 _ rfl) b71 a49
  have b70 := hd_b (F := F) (F' := F') (k := 70) (hF 70 (by decide))
  have a50 := hd_ba (F := F) (F' := F') (k := 50) (hF 50 (by decide))
  have t73 : sy_dv F' (.inr (.inl 73)) = .int ((sy_ai F 50).getD (sy_i F 71).toNatClampNeg 0) := hd_rd (hs 1 _ rfl) b71 a50
  have a53 := hd_ba (F := F) (F' := F') (k := 53) (hF 53 (by decide))
  have t74 : sy_da F' (.inr (.inl 74)) = .inl (jm_upd (sy_ai F 53) (sy_i F 70).toNatClampNeg ((sy_ai F 50).getD (sy_i F 71).toNatClampNeg 0)) := hd_up (hs 2 _ rfl) b70 t73 a53
  have t75 : sy_dv F' (.inr (.inl 75)) = .int ((sy_i F 70) + ((1 : Int32))) := hd_o (hs 3 _ rfl) b70 rfl rfl
  have t76 : sy_dv F' (.inr (.inl 76)) = .int ((sy_i F 71) + ((1 : Int32))) := hd_o (hs 4 _ rfl) b71 rfl rfl
  have hB' : iv_in F' iv_B4 := iv_in_eq hB (fun j hj => hF j (Nat.lt_of_lt_of_le hj (by decide +kernel)))
  refine ⟨List.forall_mem_cons.mpr ⟨hd_p5 b69 b71 h0, List.forall_mem_cons.mpr ⟨hd_pb b71 (by first | exact h1 | exact h1), List.forall_mem_cons.mpr ⟨hd_p5 rfl t72 (by have hc : ((2) : Int32).toInt = 2 := (by decide); omega), List.forall_mem_cons.mpr ⟨hd_p0 t72 rfl (by have hc : ((0) : Int32).toInt = 0 := (by decide); omega), List.forall_mem_cons.mpr ⟨hd_pb b71 (by first | exact h4 | exact h4), List.forall_mem_cons.mpr ⟨hd_pb b70 (by first | exact h5 | exact h5), fun _ h => absurd h List.not_mem_nil⟩⟩⟩⟩⟩⟩, ?_⟩
  refine k _ ?_ ?_ ?_ ?_ ?_
  · exact fun j hj hn => (hd_keep hB' (Nat.lt_of_lt_of_le hj (by decide +kernel)) (by simp; omega)).trans (hF j (by omega))
  · exact hd_ga (a := .inr (.inl 74)) (by decide +kernel) t74
  · exact hd_gi (x := .inr (.inl 69)) (by decide +kernel) b69
  · exact hd_gi (x := .inr (.inl 75)) (by decide +kernel) t75
  · exact hd_gi (x := .inr (.inl 76)) (by decide +kernel) t76
theorem yte_5 {Ls : Nat} {xs : Nat → Int32} {d : Nat} {Q : Option Value → jm_h → Prop} (hd : 1 ≤ d) (F : Nat → sy_d) (X1 X2 : List jm_c) (hB : iv_in F iv_B4)
    (a69 : 0 ≤ (sy_i F 69).toInt ∧ (sy_i F 69).toInt ≤ 840)
    (a70 : 0 ≤ (sy_i F 70).toInt ∧ (sy_i F 70).toInt ≤ 400)
    (a71 : 0 ≤ (sy_i F 71).toInt ∧ (sy_i F 71).toInt ≤ 840)
    (o0 : (sy_i F 71).toInt < (sy_i F 69).toInt → 2 ≤ ((sy_ai F 49).getD ((sy_i F 71).toInt).toNat 0).toInt → (0 ≤ (((sy_i F 70).toInt + (-1 : Int)) - 1) ∧ (((sy_i F 70).toInt + (-1 : Int)) - 1) < 400))
    (o1 : (sy_i F 71).toInt < (sy_i F 69).toInt → 2 ≤ ((sy_ai F 49).getD ((sy_i F 71).toInt).toNat 0).toInt → (0 ≤ ((sy_i F 70).toInt + (-1 : Int)) ∧ ((sy_i F 70).toInt + (-1 : Int)) < 400))
    (o2 : (sy_i F 71).toInt < (sy_i F 69).toInt → 2 ≤ ((sy_ai F 49).getD ((sy_i F 71).toInt).toNat 0).toInt → ((sy_ai F 49).getD ((sy_i F 71).toInt).toNat 0).toInt ≠ 5 → ((sy_ai F 49).getD ((sy_i F 71).toInt).toNat 0).toInt ≠ 2 → ((sy_ai F 49).getD ((sy_i F 71).toInt).toNat 0).toInt ≠ 3 → ((sy_ai F 49).getD ((sy_i F 71).toInt).toNat 0).toInt = 4 → (0 ≤ (((sy_i F 70).toInt + (-1 : Int)) - 1) ∧ (((sy_i F 70).toInt + (-1 : Int)) - 1) < 400))
    (o3 : (sy_i F 71).toInt < (sy_i F 69).toInt → 2 ≤ ((sy_ai F 49).getD ((sy_i F 71).toInt).toNat 0).toInt → ((sy_ai F 49).getD ((sy_i F 71).toInt).toNat 0).toInt ≠ 5 → ((sy_ai F 49).getD ((sy_i F 71).toInt).toNat 0).toInt ≠ 2 → ((sy_ai F 49).getD ((sy_i F 71).toInt).toNat 0).toInt = 3 → (0 ≤ (((sy_i F 70).toInt + (-1 : Int)) - 1) ∧ (((sy_i F 70).toInt + (-1 : Int)) - 1) < 400))
    (o4 : (sy_i F 71).toInt < (sy_i F 69).toInt → 2 ≤ ((sy_ai F 49).getD ((sy_i F 71).toInt).toNat 0).toInt → ((sy_ai F 49).getD ((sy_i F 71).toInt).toNat 0).toInt ≠ 5 → ((sy_ai F 49).getD ((sy_i F 71).toInt).toNat 0).toInt = 2 → (0 ≤ (((sy_i F 70).toInt + (-1 : Int)) - 1) ∧ (((sy_i F 70).toInt + (-1 : Int)) - 1) < 400))
    (o5 : (sy_i F 71).toInt < (sy_i F 69).toInt → 2 ≤ ((sy_ai F 49).getD ((sy_i F 71).toInt).toNat 0).toInt → ((sy_ai F 49).getD ((sy_i F 71).toInt).toNat 0).toInt = 5 → ((sy_ai F 53).getD (((sy_i F 70).toInt + (-1 : Int))).toNat 0).toInt ≠ 0 → ((sy_ai F 49).getD ((sy_i F 71).toInt).toNat 0).toInt ≠ 2 → ((sy_ai F 49).getD ((sy_i F 71).toInt).toNat 0).toInt ≠ 3 → ((sy_ai F 49).getD ((sy_i F 71).toInt).toNat 0).toInt ≠ 4 → (0 ≤ (((sy_i F 70).toInt + (-1 : Int)) - 1) ∧ (((sy_i F 70).toInt + (-1 : Int)) - 1) < 400))
    (o6 : (sy_i F 71).toInt < (sy_i F 69).toInt → ((sy_ai F 49).getD ((sy_i F 71).toInt).toNat 0).toInt < 2 → ((sy_ai F 49).getD ((sy_i F 71).toInt).toNat 0).toInt ≠ 0 → (0 ≤ ((sy_ai F 50).getD ((sy_i F 71).toInt).toNat 0).toInt ∧ ((sy_ai F 50).getD ((sy_i F 71).toInt).toNat 0).toInt < 9))
    (o7 : (sy_i F 71).toInt < (sy_i F 69).toInt → ((sy_ai F 49).getD ((sy_i F 71).toInt).toNat 0).toInt < 2 → ((sy_ai F 49).getD ((sy_i F 71).toInt).toNat 0).toInt ≠ 0 → (0 ≤ (sy_i F 70).toInt ∧ (sy_i F 70).toInt < 400))
    (o8 : (sy_i F 71).toInt < (sy_i F 69).toInt → ((sy_ai F 49).getD ((sy_i F 71).toInt).toNat 0).toInt < 2 → ((sy_ai F 49).getD ((sy_i F 71).toInt).toNat 0).toInt = 0 → (0 ≤ (sy_i F 70).toInt ∧ (sy_i F 70).toInt < 400))
    (k0 : (sy_i F 69).toInt ≤ (sy_i F 71).toInt → ∀ F1 : Nat → sy_d, iv_in F1 iv_B4 → (∀ j, j < 69 → j ∉ ([] : List Nat) → F1 j = F j) → Q (some (.int ((sy_ai F 53).getD (0 : Int).toNat 0))) (sy_dh F1 X1 X2 (iv_H 4)))
    (k1 : (sy_i F 71).toInt < (sy_i F 69).toInt → 2 ≤ ((sy_ai F 49).getD ((sy_i F 71).toInt).toNat 0).toInt → ((sy_ai F 49).getD ((sy_i F 71).toInt).toNat 0).toInt ≠ 5 → ((sy_ai F 49).getD ((sy_i F 71).toInt).toNat 0).toInt ≠ 2 → ((sy_ai F 49).getD ((sy_i F 71).toInt).toNat 0).toInt ≠ 3 → ((sy_ai F 49).getD ((sy_i F 71).toInt).toNat 0).toInt = 4 → ∀ F1 : Nat → sy_d, iv_in F1 iv_B4 → (∀ j, j < 69 → j ∉ ([53] : List Nat) → F1 j = F j) → sy_ai F1 53 = jm_upd (sy_ai F 53) ((((sy_i F 70).toInt + (-1 : Int)) - 1)).toNat (((sy_ai F 53).getD ((((sy_i F 70).toInt + (-1 : Int)) - 1)).toNat 0) * ((sy_ai F 53).getD (((sy_i F 70).toInt + (-1 : Int))).toNat 0)) → (sy_i F1 69).toInt = (sy_i F 69).toInt → sy_i F1 69 = sy_i F 69 → (sy_i F1 70).toInt = ((sy_i F 70).toInt + (-1 : Int)) → sy_i F1 70 = (sy_i F 70) + (((-1) : Int32)) → (sy_i F1 71).toInt = ((sy_i F 71).toInt + 1) → sy_i F1 71 = (sy_i F 71) + ((1 : Int32)) → hd_W Ls xs d jm_M166 Q (5, sy_dL F1 [some (.inl (.ref 1000)), none, some (.inr (.inl 69)), some (.inr (.inl 70)), some (.inr (.inl 71)), none, none, none], sy_dS F1 [], sy_dh F1 X1 X2 (iv_H 4), 0, 0))
    (k2 : (sy_i F 71).toInt < (sy_i F 69).toInt → 2 ≤ ((sy_ai F 49).getD ((sy_i F 71).toInt).toNat 0).toInt → ((sy_ai F 49).getD ((sy_i F 71).toInt).toNat 0).toInt ≠ 5 → ((sy_ai F 49).getD ((sy_i F 71).toInt).toNat 0).toInt ≠ 2 → ((sy_ai F 49).getD ((sy_i F 71).toInt).toNat 0).toInt = 3 → ∀ F1 : Nat → sy_d, iv_in F1 iv_B4 → (∀ j, j < 69 → j ∉ ([53] : List Nat) → F1 j = F j) → sy_ai F1 53 = jm_upd (sy_ai F 53) ((((sy_i F 70).toInt + (-1 : Int)) - 1)).toNat (((sy_ai F 53).getD ((((sy_i F 70).toInt + (-1 : Int)) - 1)).toNat 0) - ((sy_ai F 53).getD (((sy_i F 70).toInt + (-1 : Int))).toNat 0)) → (sy_i F1 69).toInt = (sy_i F 69).toInt → sy_i F1 69 = sy_i F 69 → (sy_i F1 70).toInt = ((sy_i F 70).toInt + (-1 : Int)) → sy_i F1 70 = (sy_i F 70) + (((-1) : Int32)) → (sy_i F1 71).toInt = ((sy_i F 71).toInt + 1) → sy_i F1 71 = (sy_i F 71) + ((1 : Int32)) → hd_W Ls xs d jm_M166 Q (5, sy_dL F1 [some (.inl (.ref 1000)), none, some (.inr (.inl 69)), some (.inr (.inl 70)), some (.inr (.inl 71)), none, none, none], sy_dS F1 [], sy_dh F1 X1 X2 (iv_H 4), 0, 0))
    (k3 : (sy_i F 71).toInt < (sy_i F 69).toInt → 2 ≤ ((sy_ai F 49).getD ((sy_i F 71).toInt).toNat 0).toInt → ((sy_ai F 49).getD ((sy_i F 71).toInt).toNat 0).toInt ≠ 5 → ((sy_ai F 49).getD ((sy_i F 71).toInt).toNat 0).toInt = 2 → ∀ F1 : Nat → sy_d, iv_in F1 iv_B4 → (∀ j, j < 69 → j ∉ ([53] : List Nat) → F1 j = F j) → sy_ai F1 53 = jm_upd (sy_ai F 53) ((((sy_i F 70).toInt + (-1 : Int)) - 1)).toNat (((sy_ai F 53).getD ((((sy_i F 70).toInt + (-1 : Int)) - 1)).toNat 0) + ((sy_ai F 53).getD (((sy_i F 70).toInt + (-1 : Int))).toNat 0)) → (sy_i F1 69).toInt = (sy_i F 69).toInt → sy_i F1 69 = sy_i F 69 → (sy_i F1 70).toInt = ((sy_i F 70).toInt + (-1 : Int)) → sy_i F1 70 = (sy_i F 70) + (((-1) : Int32)) → (sy_i F1 71).toInt = ((sy_i F 71).toInt + 1) → sy_i F1 71 = (sy_i F 71) + ((1 : Int32)) → hd_W Ls xs d jm_M166 Q (5, sy_dL F1 [some (.inl (.ref 1000)), none, some (.inr (.inl 69)), some (.inr (.inl 70)), some (.inr (.inl 71)), none, none, none], sy_dS F1 [], sy_dh F1 X1 X2 (iv_H 4), 0, 0))
    (k4 : (sy_i F 71).toInt < (sy_i F 69).toInt → 2 ≤ ((sy_ai F 49).getD ((sy_i F 71).toInt).toNat 0).toInt → ((sy_ai F 49).getD ((sy_i F 71).toInt).toNat 0).toInt = 5 → ((sy_ai F 53).getD (((sy_i F 70).toInt + (-1 : Int))).toNat 0).toInt ≠ 0 → ((sy_ai F 49).getD ((sy_i F 71).toInt).toNat 0).toInt ≠ 2 → ((sy_ai F 49).getD ((sy_i F 71).toInt).toNat 0).toInt ≠ 3 → ((sy_ai F 49).getD ((sy_i F 71).toInt).toNat 0).toInt ≠ 4 → ∀ F1 : Nat → sy_d, iv_in F1 iv_B4 → (∀ j, j < 69 → j ∉ ([53] : List Nat) → F1 j = F j) → sy_ai F1 53 = jm_upd (sy_ai F 53) ((((sy_i F 70).toInt + (-1 : Int)) - 1)).toNat (((sy_ai F 53).getD ((((sy_i F 70).toInt + (-1 : Int)) - 1)).toNat 0) / ((sy_ai F 53).getD (((sy_i F 70).toInt + (-1 : Int))).toNat 0)) → (sy_i F1 69).toInt = (sy_i F 69).toInt → sy_i F1 69 = sy_i F 69 → (sy_i F1 70).toInt = ((sy_i F 70).toInt + (-1 : Int)) → sy_i F1 70 = (sy_i F 70) + (((-1) : Int32)) → (sy_i F1 71).toInt = ((sy_i F 71).toInt + 1) → sy_i F1 71 = (sy_i F 71) + ((1 : Int32)) → hd_W Ls xs d jm_M166 Q (5, sy_dL F1 [some (.inl (.ref 1000)), none, some (.inr (.inl 69)), some (.inr (.inl 70)), some (.inr (.inl 71)), none, none, none], sy_dS F1 [], sy_dh F1 X1 X2 (iv_H 4), 0, 0))
    (k5 : (sy_i F 71).toInt < (sy_i F 69).toInt → 2 ≤ ((sy_ai F 49).getD ((sy_i F 71).toInt).toNat 0).toInt → ((sy_ai F 49).getD ((sy_i F 71).toInt).toNat 0).toInt = 5 → ((sy_ai F 53).getD (((sy_i F 70).toInt + (-1 : Int))).toNat 0).toInt = 0 → ∀ F1 : Nat → sy_d, iv_in F1 iv_B4 → (∀ j, j < 69 → j ∉ ([17] : List Nat) → F1 j = F j) → (sy_i F1 17).toInt = 1 → sy_i F1 17 = (1 : Int32) → Q (some (.int ((0 : Int32)))) (sy_dh F1 X1 X2 (iv_H 4)))
    (k6 : (sy_i F 71).toInt < (sy_i F 69).toInt → ((sy_ai F 49).getD ((sy_i F 71).toInt).toNat 0).toInt < 2 → ((sy_ai F 49).getD ((sy_i F 71).toInt).toNat 0).toInt ≠ 0 → ∀ F1 : Nat → sy_d, iv_in F1 iv_B4 → (∀ j, j < 69 → j ∉ ([53] : List Nat) → F1 j = F j) → sy_ai F1 53 = jm_upd (sy_ai F 53) ((sy_i F 70).toInt).toNat ((sy_ai F 52).getD (((sy_ai F 50).getD ((sy_i F 71).toInt).toNat 0).toInt).toNat 0) → (sy_i F1 69).toInt = (sy_i F 69).toInt → sy_i F1 69 = sy_i F 69 → (sy_i F1 70).toInt = ((sy_i F 70).toInt + 1) → sy_i F1 70 = (sy_i F 70) + ((1 : Int32)) → (sy_i F1 71).toInt = ((sy_i F 71).toInt + 1) → sy_i F1 71 = (sy_i F 71) + ((1 : Int32)) → hd_W Ls xs d jm_M166 Q (5, sy_dL F1 [some (.inl (.ref 1000)), none, some (.inr (.inl 69)), some (.inr (.inl 70)), some (.inr (.inl 71)), none, none, none], sy_dS F1 [], sy_dh F1 X1 X2 (iv_H 4), 0, 0))
    (k7 : (sy_i F 71).toInt < (sy_i F 69).toInt → ((sy_ai F 49).getD ((sy_i F 71).toInt).toNat 0).toInt < 2 → ((sy_ai F 49).getD ((sy_i F 71).toInt).toNat 0).toInt = 0 → ∀ F1 : Nat → sy_d, iv_in F1 iv_B4 → (∀ j, j < 69 → j ∉ ([53] : List Nat) → F1 j = F j) → sy_ai F1 53 = jm_upd (sy_ai F 53) ((sy_i F 70).toInt).toNat ((sy_ai F 50).getD ((sy_i F 71).toInt).toNat 0) → (sy_i F1 69).toInt = (sy_i F 69).toInt → sy_i F1 69 = sy_i F 69 → (sy_i F1 70).toInt = ((sy_i F 70).toInt + 1) → sy_i F1 70 = (sy_i F 70) + ((1 : Int32)) → (sy_i F1 71).toInt = ((sy_i F 71).toInt + 1) → sy_i F1 71 = (sy_i F 71) + ((1 : Int32)) → hd_W Ls xs d jm_M166 Q (5, sy_dL F1 [some (.inl (.ref 1000)), none, some (.inr (.inl 69)), some (.inr (.inl 70)), some (.inr (.inl 71)), none, none, none], sy_dS F1 [], sy_dh F1 X1 X2 (iv_H 4), 0, 0)) :
    hd_W Ls xs d jm_M166 Q (5, sy_dL F [some (.inl (.ref 1000)), none, some (.inr (.inl 69)), some (.inr (.inl 70)), some (.inr (.inl 71)), none, none, none], sy_dS F [], sy_dh F X1 X2 (iv_H 4), 0, 0) := by
  by_cases g0 : (sy_i F 69).toInt ≤ (sy_i F 71).toInt
  · have q72 : (sy_ai F 53).getD ((0 : Int32)).toNatClampNeg 0 = (sy_ai F 53).getD (0 : Int).toNat 0 := by simp only [nz_c, (by decide : ((0 : Int32)).toInt = 0)]
    exact yte_5_p0 hd F X1 X2 hB (by first | exact g0 | (simp only [nz_c]; exact g0)) (fun F1 g  => by rw [q72]; exact k0 g0 F1 (nz_in hB [] (fun j hj hn => g j hj (by simp only [List.mem_cons, List.not_mem_nil, or_false, not_or] at hn; exact trivial)) (List.forall_mem_nil _)) (fun j hj hn => g j hj (by simp only [List.mem_cons, List.not_mem_nil, or_false, not_or] at hn; exact trivial)) )
  replace g0 : (sy_i F 71).toInt < (sy_i F 69).toInt := by omega
  by_cases g1 : 2 ≤ ((sy_ai F 49).getD ((sy_i F 71).toInt).toNat 0).toInt
  · by_cases g2 : ((sy_ai F 49).getD ((sy_i F 71).toInt).toNat 0).toInt ≠ 5
    · by_cases g3 : ((sy_ai F 49).getD ((sy_i F 71).toInt).toNat 0).toInt ≠ 2
      · by_cases g4 : ((sy_ai F 49).getD ((sy_i F 71).toInt).toNat 0).toInt ≠ 3
        · by_cases g5 : ((sy_ai F 49).getD ((sy_i F 71).toInt).toNat 0).toInt ≠ 4
          · have q72 : (sy_ai F 49).getD (sy_i F 71).toNatClampNeg 0 = (sy_ai F 49).getD ((sy_i F 71).toInt).toNat 0 := by simp only [nz_c]
            have n72 : nzI ((sy_ai F 49).getD (sy_i F 71).toNatClampNeg 0) (((sy_ai F 49).getD ((sy_i F 71).toInt).toNat 0).toInt) := congrArg Int32.toInt q72
            have r72 := nz_ba hB (k := 49) (lo := 0) (hi := 5) rfl ((sy_i F 71).toInt).toNat
            have n73 : nzI ((sy_i F 70) + (((-1) : Int32))) (((sy_i F 70).toInt + (-1 : Int))) := nz_add (rfl : (sy_i F 70).toInt = (sy_i F 70).toInt) (by decide : (((-1) : Int32)).toInt = (-1 : Int)) (by omega) (by omega)
            have n74 : nzI (((sy_i F 70) + (((-1) : Int32))) - ((1 : Int32))) ((((sy_i F 70).toInt + (-1 : Int)) - 1)) := nz_sub (nzE n73) (by decide : ((1 : Int32)).toInt = 1) (by omega) (by omega)
            exfalso
            omega
          replace g5 : ((sy_ai F 49).getD ((sy_i F 71).toInt).toNat 0).toInt = 4 := by omega
          have q72 : (sy_ai F 49).getD (sy_i F 71).toNatClampNeg 0 = (sy_ai F 49).getD ((sy_i F 71).toInt).toNat 0 := by simp only [nz_c]
          have n72 : nzI ((sy_ai F 49).getD (sy_i F 71).toNatClampNeg 0) (((sy_ai F 49).getD ((sy_i F 71).toInt).toNat 0).toInt) := congrArg Int32.toInt q72
          have r72 := nz_ba hB (k := 49) (lo := 0) (hi := 5) rfl ((sy_i F 71).toInt).toNat
          have n73 : nzI ((sy_i F 70) + (((-1) : Int32))) (((sy_i F 70).toInt + (-1 : Int))) := nz_add (rfl : (sy_i F 70).toInt = (sy_i F 70).toInt) (by decide : (((-1) : Int32)).toInt = (-1 : Int)) (by omega) (by omega)
          have n74 : nzI (((sy_i F 70) + (((-1) : Int32))) - ((1 : Int32))) ((((sy_i F 70).toInt + (-1 : Int)) - 1)) := nz_sub (nzE n73) (by decide : ((1 : Int32)).toInt = 1) (by omega) (by omega)
          have n77 : nzI (((sy_i F 70) + (((-1) : Int32))) - ((1 : Int32))) ((((sy_i F 70).toInt + (-1 : Int)) - 1)) := nz_sub (nzE n73) (by decide : ((1 : Int32)).toInt = 1) (by omega) (by omega)
          have w79 : jm_upd (sy_ai F 53) (((sy_i F 70) + (((-1) : Int32))) - ((1 : Int32))).toNatClampNeg (((sy_ai F 53).getD (((sy_i F 70) + (((-1) : Int32))) - ((1 : Int32))).toNatClampNeg 0) * ((sy_ai F 53).getD ((sy_i F 70) + (((-1) : Int32))).toNatClampNeg 0)) = jm_upd (sy_ai F 53) ((((sy_i F 70).toInt + (-1 : Int)) - 1)).toNat (((sy_ai F 53).getD ((((sy_i F 70).toInt + (-1 : Int)) - 1)).toNat 0) * ((sy_ai F 53).getD (((sy_i F 70).toInt + (-1 : Int))).toNat 0)) := by simp only [nz_c, (nzE n73), (nzE n74), (nzE n77), (by decide : (((-1) : Int32)).toInt = (-1 : Int)), (by decide : ((1 : Int32)).toInt = 1)]
          have n80 : nzI ((sy_i F 71) + ((1 : Int32))) (((sy_i F 71).toInt + 1)) := nz_add (rfl : (sy_i F 71).toInt = (sy_i F 71).toInt) (by decide : ((1 : Int32)).toInt = 1) (by omega) (by omega)
          exact yte_5_p1 hd F X1 X2 hB (by first | exact g0 | (simp only [nz_c]; exact g0)) (by first | exact ⟨by omega, by omega⟩ | (simp only [nz_c]; exact ⟨by omega, by omega⟩)) (by first | exact g1 | (simp only [nz_c]; exact g1) | (rw [(nzE n72)]; exact g1)) (by first | (simp only [nz_c, (nzE n73), (nzE n74)]; exact (o0 g0 g1)) | exact (o0 g0 g1) | (rw [(nzE n74)]; exact (o0 g0 g1))) (by first | (simp only [nz_c, (nzE n73)]; exact (o1 g0 g1)) | exact (o1 g0 g1) | (rw [(nzE n73)]; exact (o1 g0 g1))) (by first | exact g2 | (simp only [nz_c]; exact g2) | (rw [(nzE n72)]; exact g2)) (by first | exact g3 | (simp only [nz_c]; exact g3) | (rw [(nzE n72)]; exact g3)) (by first | exact g4 | (simp only [nz_c]; exact g4) | (rw [(nzE n72)]; exact g4)) (by first | exact g5 | (simp only [nz_c]; exact g5) | (rw [(nzE n72)]; exact g5)) (by first | (simp only [nz_c, (nzE n73), (nzE n77)]; exact (o2 g0 g1 g2 g3 g4 g5)) | exact (o2 g0 g1 g2 g3 g4 g5) | (rw [(nzE n77)]; exact (o2 g0 g1 g2 g3 g4 g5))) (fun F1 g e53 e69 e70 e71 => k1 g0 g1 g2 g3 g4 g5 F1 (nz_in hB [53] (fun j hj hn => g j hj (by simp only [List.mem_cons, List.not_mem_nil, or_false, not_or] at hn; omega)) (List.forall_mem_cons.mpr ⟨fun t ht => (Option.some.inj ht) ▸ (nz_hz2 e53), List.forall_mem_nil _⟩)) (fun j hj hn => g j hj (by simp only [List.mem_cons, List.not_mem_nil, or_false, not_or] at hn; omega)) ((zz_ai e53).trans w79) ((congrArg Int32.toInt (zz_i e69)).trans (rfl : (sy_i F 69).toInt = (sy_i F 69).toInt)) ((zz_i e69).trans (rfl : sy_i F 69 = sy_i F 69)) ((congrArg Int32.toInt (zz_i e70)).trans (nzE n73)) ((zz_i e70).trans (rfl : (sy_i F 70) + (((-1) : Int32)) = (sy_i F 70) + (((-1) : Int32)))) ((congrArg Int32.toInt (zz_i e71)).trans (nzE n80)) ((zz_i e71).trans (rfl : (sy_i F 71) + ((1 : Int32)) = (sy_i F 71) + ((1 : Int32)))))
        replace g4 : ((sy_ai F 49).getD ((sy_i F 71).toInt).toNat 0).toInt = 3 := by omega
        have q72 : (sy_ai F 49).getD (sy_i F 71).toNatClampNeg 0 = (sy_ai F 49).getD ((sy_i F 71).toInt).toNat 0 := by simp only [nz_c]
        have n72 : nzI ((sy_ai F 49).getD (sy_i F 71).toNatClampNeg 0) (((sy_ai F 49).getD ((sy_i F 71).toInt).toNat 0).toInt) := congrArg Int32.toInt q72
        have r72 := nz_ba hB (k := 49) (lo := 0) (hi := 5) rfl ((sy_i F 71).toInt).toNat
        have n73 : nzI ((sy_i F 70) + (((-1) : Int32))) (((sy_i F 70).toInt + (-1 : Int))) := nz_add (rfl : (sy_i F 70).toInt = (sy_i F 70).toInt) (by decide : (((-1) : Int32)).toInt = (-1 : Int)) (by omega) (by omega)
        have n74 : nzI (((sy_i F 70) + (((-1) : Int32))) - ((1 : Int32))) ((((sy_i F 70).toInt + (-1 : Int)) - 1)) := nz_sub (nzE n73) (by decide : ((1 : Int32)).toInt = 1) (by omega) (by omega)
        have n77 : nzI (((sy_i F 70) + (((-1) : Int32))) - ((1 : Int32))) ((((sy_i F 70).toInt + (-1 : Int)) - 1)) := nz_sub (nzE n73) (by decide : ((1 : Int32)).toInt = 1) (by omega) (by omega)
        have w79 : jm_upd (sy_ai F 53) (((sy_i F 70) + (((-1) : Int32))) - ((1 : Int32))).toNatClampNeg (((sy_ai F 53).getD (((sy_i F 70) + (((-1) : Int32))) - ((1 : Int32))).toNatClampNeg 0) - ((sy_ai F 53).getD ((sy_i F 70) + (((-1) : Int32))).toNatClampNeg 0)) = jm_upd (sy_ai F 53) ((((sy_i F 70).toInt + (-1 : Int)) - 1)).toNat (((sy_ai F 53).getD ((((sy_i F 70).toInt + (-1 : Int)) - 1)).toNat 0) - ((sy_ai F 53).getD (((sy_i F 70).toInt + (-1 : Int))).toNat 0)) := by simp only [nz_c, (nzE n73), (nzE n74), (nzE n77), (by decide : (((-1) : Int32)).toInt = (-1 : Int)), (by decide : ((1 : Int32)).toInt = 1)]
        have n80 : nzI ((sy_i F 71) + ((1 : Int32))) (((sy_i F 71).toInt + 1)) := nz_add (rfl : (sy_i F 71).toInt = (sy_i F 71).toInt) (by decide : ((1 : Int32)).toInt = 1) (by omega) (by omega)
        exact yte_5_p2 hd F X1 X2 hB (by first | exact g0 | (simp only [nz_c]; exact g0)) (by first | exact ⟨by omega, by omega⟩ | (simp only [nz_c]; exact ⟨by omega, by omega⟩)) (by first | exact g1 | (simp only [nz_c]; exact g1) | (rw [(nzE n72)]; exact g1)) (by first | (simp only [nz_c, (nzE n73), (nzE n74)]; exact (o0 g0 g1)) | exact (o0 g0 g1) | (rw [(nzE n74)]; exact (o0 g0 g1))) (by first | (simp only [nz_c, (nzE n73)]; exact (o1 g0 g1)) | exact (o1 g0 g1) | (rw [(nzE n73)]; exact (o1 g0 g1))) (by first | exact g2 | (simp only [nz_c]; exact g2) | (rw [(nzE n72)]; exact g2)) (by first | exact g3 | (simp only [nz_c]; exact g3) | (rw [(nzE n72)]; exact g3)) (by first | exact g4 | (simp only [nz_c]; exact g4) | (rw [(nzE n72)]; exact g4)) (by first | (simp only [nz_c, (nzE n73), (nzE n77)]; exact (o3 g0 g1 g2 g3 g4)) | exact (o3 g0 g1 g2 g3 g4) | (rw [(nzE n77)]; exact (o3 g0 g1 g2 g3 g4))) (fun F1 g e53 e69 e70 e71 => k2 g0 g1 g2 g3 g4 F1 (nz_in hB [53] (fun j hj hn => g j hj (by simp only [List.mem_cons, List.not_mem_nil, or_false, not_or] at hn; omega)) (List.forall_mem_cons.mpr ⟨fun t ht => (Option.some.inj ht) ▸ (nz_hz2 e53), List.forall_mem_nil _⟩)) (fun j hj hn => g j hj (by simp only [List.mem_cons, List.not_mem_nil, or_false, not_or] at hn; omega)) ((zz_ai e53).trans w79) ((congrArg Int32.toInt (zz_i e69)).trans (rfl : (sy_i F 69).toInt = (sy_i F 69).toInt)) ((zz_i e69).trans (rfl : sy_i F 69 = sy_i F 69)) ((congrArg Int32.toInt (zz_i e70)).trans (nzE n73)) ((zz_i e70).trans (rfl : (sy_i F 70) + (((-1) : Int32)) = (sy_i F 70) + (((-1) : Int32)))) ((congrArg Int32.toInt (zz_i e71)).trans (nzE n80)) ((zz_i e71).trans (rfl : (sy_i F 71) + ((1 : Int32)) = (sy_i F 71) + ((1 : Int32)))))
      replace g3 : ((sy_ai F 49).getD ((sy_i F 71).toInt).toNat 0).toInt = 2 := by omega
      have q72 : (sy_ai F 49).getD (sy_i F 71).toNatClampNeg 0 = (sy_ai F 49).getD ((sy_i F 71).toInt).toNat 0 := by simp only [nz_c]
      have n72 : nzI ((sy_ai F 49).getD (sy_i F 71).toNatClampNeg 0) (((sy_ai F 49).getD ((sy_i F 71).toInt).toNat 0).toInt) := congrArg Int32.toInt q72
      have r72 := nz_ba hB (k := 49) (lo := 0) (hi := 5) rfl ((sy_i F 71).toInt).toNat
      have n73 : nzI ((sy_i F 70) + (((-1) : Int32))) (((sy_i F 70).toInt + (-1 : Int))) := nz_add (rfl : (sy_i F 70).toInt = (sy_i F 70).toInt) (by decide : (((-1) : Int32)).toInt = (-1 : Int)) (by omega) (by omega)
      have n74 : nzI (((sy_i F 70) + (((-1) : Int32))) - ((1 : Int32))) ((((sy_i F 70).toInt + (-1 : Int)) - 1)) := nz_sub (nzE n73) (by decide : ((1 : Int32)).toInt = 1) (by omega) (by omega)
      have n77 : nzI (((sy_i F 70) + (((-1) : Int32))) - ((1 : Int32))) ((((sy_i F 70).toInt + (-1 : Int)) - 1)) := nz_sub (nzE n73) (by decide : ((1 : Int32)).toInt = 1) (by omega) (by omega)
      have w79 : jm_upd (sy_ai F 53) (((sy_i F 70) + (((-1) : Int32))) - ((1 : Int32))).toNatClampNeg (((sy_ai F 53).getD (((sy_i F 70) + (((-1) : Int32))) - ((1 : Int32))).toNatClampNeg 0) + ((sy_ai F 53).getD ((sy_i F 70) + (((-1) : Int32))).toNatClampNeg 0)) = jm_upd (sy_ai F 53) ((((sy_i F 70).toInt + (-1 : Int)) - 1)).toNat (((sy_ai F 53).getD ((((sy_i F 70).toInt + (-1 : Int)) - 1)).toNat 0) + ((sy_ai F 53).getD (((sy_i F 70).toInt + (-1 : Int))).toNat 0)) := by simp only [nz_c, (nzE n73), (nzE n74), (nzE n77), (by decide : (((-1) : Int32)).toInt = (-1 : Int)), (by decide : ((1 : Int32)).toInt = 1)]
      have n80 : nzI ((sy_i F 71) + ((1 : Int32))) (((sy_i F 71).toInt + 1)) := nz_add (rfl : (sy_i F 71).toInt = (sy_i F 71).toInt) (by decide : ((1 : Int32)).toInt = 1) (by omega) (by omega)
      exact yte_5_p3 hd F X1 X2 hB (by first | exact g0 | (simp only [nz_c]; exact g0)) (by first | exact ⟨by omega, by omega⟩ | (simp only [nz_c]; exact ⟨by omega, by omega⟩)) (by first | exact g1 | (simp only [nz_c]; exact g1) | (rw [(nzE n72)]; exact g1)) (by first | (simp only [nz_c, (nzE n73), (nzE n74)]; exact (o0 g0 g1)) | exact (o0 g0 g1) | (rw [(nzE n74)]; exact (o0 g0 g1))) (by first | (simp only [nz_c, (nzE n73)]; exact (o1 g0 g1)) | exact (o1 g0 g1) | (rw [(nzE n73)]; exact (o1 g0 g1))) (by first | exact g2 | (simp only [nz_c]; exact g2) | (rw [(nzE n72)]; exact g2)) (by first | exact g3 | (simp only [nz_c]; exact g3) | (rw [(nzE n72)]; exact g3)) (by first | (simp only [nz_c, (nzE n73), (nzE n77)]; exact (o4 g0 g1 g2 g3)) | exact (o4 g0 g1 g2 g3) | (rw [(nzE n77)]; exact (o4 g0 g1 g2 g3))) (fun F1 g e53 e69 e70 e71 => k3 g0 g1 g2 g3 F1 (nz_in hB [53] (fun j hj hn => g j hj (by simp only [List.mem_cons, List.not_mem_nil, or_false, not_or] at hn; omega)) (List.forall_mem_cons.mpr ⟨fun t ht => (Option.some.inj ht) ▸ (nz_hz2 e53), List.forall_mem_nil _⟩)) (fun j hj hn => g j hj (by simp only [List.mem_cons, List.not_mem_nil, or_false, not_or] at hn; omega)) ((zz_ai e53).trans w79) ((congrArg Int32.toInt (zz_i e69)).trans (rfl : (sy_i F 69).toInt = (sy_i F 69).toInt)) ((zz_i e69).trans (rfl : sy_i F 69 = sy_i F 69)) ((congrArg Int32.toInt (zz_i e70)).trans (nzE n73)) ((zz_i e70).trans (rfl : (sy_i F 70) + (((-1) : Int32)) = (sy_i F 70) + (((-1) : Int32)))) ((congrArg Int32.toInt (zz_i e71)).trans (nzE n80)) ((zz_i e71).trans (rfl : (sy_i F 71) + ((1 : Int32)) = (sy_i F 71) + ((1 : Int32)))))
    replace g2 : ((sy_ai F 49).getD ((sy_i F 71).toInt).toNat 0).toInt = 5 := by omega
    by_cases g3 : ((sy_ai F 53).getD (((sy_i F 70).toInt + (-1 : Int))).toNat 0).toInt ≠ 0
    · by_cases g4 : ((sy_ai F 49).getD ((sy_i F 71).toInt).toNat 0).toInt ≠ 2
      · by_cases g5 : ((sy_ai F 49).getD ((sy_i F 71).toInt).toNat 0).toInt ≠ 3
        · by_cases g6 : ((sy_ai F 49).getD ((sy_i F 71).toInt).toNat 0).toInt ≠ 4
          · have q72 : (sy_ai F 49).getD (sy_i F 71).toNatClampNeg 0 = (sy_ai F 49).getD ((sy_i F 71).toInt).toNat 0 := by simp only [nz_c]
            have n72 : nzI ((sy_ai F 49).getD (sy_i F 71).toNatClampNeg 0) (((sy_ai F 49).getD ((sy_i F 71).toInt).toNat 0).toInt) := congrArg Int32.toInt q72
            have r72 := nz_ba hB (k := 49) (lo := 0) (hi := 5) rfl ((sy_i F 71).toInt).toNat
            have n73 : nzI ((sy_i F 70) + (((-1) : Int32))) (((sy_i F 70).toInt + (-1 : Int))) := nz_add (rfl : (sy_i F 70).toInt = (sy_i F 70).toInt) (by decide : (((-1) : Int32)).toInt = (-1 : Int)) (by omega) (by omega)
            have n74 : nzI (((sy_i F 70) + (((-1) : Int32))) - ((1 : Int32))) ((((sy_i F 70).toInt + (-1 : Int)) - 1)) := nz_sub (nzE n73) (by decide : ((1 : Int32)).toInt = 1) (by omega) (by omega)
            have q76 : (sy_ai F 53).getD ((sy_i F 70) + (((-1) : Int32))).toNatClampNeg 0 = (sy_ai F 53).getD (((sy_i F 70).toInt + (-1 : Int))).toNat 0 := by simp only [nz_c, (nzE n73), (by decide : (((-1) : Int32)).toInt = (-1 : Int))]
            have n76 : nzI ((sy_ai F 53).getD ((sy_i F 70) + (((-1) : Int32))).toNatClampNeg 0) (((sy_ai F 53).getD (((sy_i F 70).toInt + (-1 : Int))).toNat 0).toInt) := congrArg Int32.toInt q76
            have n77 : nzI (((sy_i F 70) + (((-1) : Int32))) - ((1 : Int32))) ((((sy_i F 70).toInt + (-1 : Int)) - 1)) := nz_sub (nzE n73) (by decide : ((1 : Int32)).toInt = 1) (by omega) (by omega)
            have w79 : jm_upd (sy_ai F 53) (((sy_i F 70) + (((-1) : Int32))) - ((1 : Int32))).toNatClampNeg (((sy_ai F 53).getD (((sy_i F 70) + (((-1) : Int32))) - ((1 : Int32))).toNatClampNeg 0) / ((sy_ai F 53).getD ((sy_i F 70) + (((-1) : Int32))).toNatClampNeg 0)) = jm_upd (sy_ai F 53) ((((sy_i F 70).toInt + (-1 : Int)) - 1)).toNat (((sy_ai F 53).getD ((((sy_i F 70).toInt + (-1 : Int)) - 1)).toNat 0) / ((sy_ai F 53).getD (((sy_i F 70).toInt + (-1 : Int))).toNat 0)) := by simp only [nz_c, (nzE n73), (nzE n74), (nzE n77), (by decide : (((-1) : Int32)).toInt = (-1 : Int)), (by decide : ((1 : Int32)).toInt = 1)]
            have n80 : nzI ((sy_i F 71) + ((1 : Int32))) (((sy_i F 71).toInt + 1)) := nz_add (rfl : (sy_i F 71).toInt = (sy_i F 71).toInt) (by decide : ((1 : Int32)).toInt = 1) (by omega) (by omega)
            exact yte_5_p4 hd F X1 X2 hB (by first | exact g0 | (simp only [nz_c]; exact g0)) (by first | exact ⟨by omega, by omega⟩ | (simp only [nz_c]; exact ⟨by omega, by omega⟩)) (by first | exact g1 | (simp only [nz_c]; exact g1) | (rw [(nzE n72)]; exact g1)) (by first | (simp only [nz_c, (nzE n73), (nzE n74)]; exact (o0 g0 g1)) | exact (o0 g0 g1) | (rw [(nzE n74)]; exact (o0 g0 g1))) (by first | (simp only [nz_c, (nzE n73)]; exact (o1 g0 g1)) | exact (o1 g0 g1) | (rw [(nzE n73)]; exact (o1 g0 g1))) (by first | exact g2 | (simp only [nz_c]; exact g2) | (rw [(nzE n72)]; exact g2)) (by first | (simp only [nz_c, (nzE n73)]; exact g3) | exact g3 | (rw [(nzE n76)]; exact g3)) (by first | exact g4 | (simp only [nz_c]; exact g4) | (rw [(nzE n72)]; exact g4)) (by first | exact g5 | (simp only [nz_c]; exact g5) | (rw [(nzE n72)]; exact g5)) (by first | exact g6 | (simp only [nz_c]; exact g6) | (rw [(nzE n72)]; exact g6)) (by first | (simp only [nz_c, (nzE n73)]; exact g3) | exact g3 | (rw [(nzE n76)]; exact g3)) (by first | (simp only [nz_c, (nzE n73), (nzE n77)]; exact (o5 g0 g1 g2 g3 g4 g5 g6)) | exact (o5 g0 g1 g2 g3 g4 g5 g6) | (rw [(nzE n77)]; exact (o5 g0 g1 g2 g3 g4 g5 g6))) (fun F1 g e53 e69 e70 e71 => k4 g0 g1 g2 g3 g4 g5 g6 F1 (nz_in hB [53] (fun j hj hn => g j hj (by simp only [List.mem_cons, List.not_mem_nil, or_false, not_or] at hn; omega)) (List.forall_mem_cons.mpr ⟨fun t ht => (Option.some.inj ht) ▸ (nz_hz2 e53), List.forall_mem_nil _⟩)) (fun j hj hn => g j hj (by simp only [List.mem_cons, List.not_mem_nil, or_false, not_or] at hn; omega)) ((zz_ai e53).trans w79) ((congrArg Int32.toInt (zz_i e69)).trans (rfl : (sy_i F 69).toInt = (sy_i F 69).toInt)) ((zz_i e69).trans (rfl : sy_i F 69 = sy_i F 69)) ((congrArg Int32.toInt (zz_i e70)).trans (nzE n73)) ((zz_i e70).trans (rfl : (sy_i F 70) + (((-1) : Int32)) = (sy_i F 70) + (((-1) : Int32)))) ((congrArg Int32.toInt (zz_i e71)).trans (nzE n80)) ((zz_i e71).trans (rfl : (sy_i F 71) + ((1 : Int32)) = (sy_i F 71) + ((1 : Int32)))))
          replace g6 : ((sy_ai F 49).getD ((sy_i F 71).toInt).toNat 0).toInt = 4 := by omega
          have q72 : (sy_ai F 49).getD (sy_i F 71).toNatClampNeg 0 = (sy_ai F 49).getD ((sy_i F 71).toInt).toNat 0 := by simp only [nz_c]
          have n72 : nzI ((sy_ai F 49).getD (sy_i F 71).toNatClampNeg 0) (((sy_ai F 49).getD ((sy_i F 71).toInt).toNat 0).toInt) := congrArg Int32.toInt q72
          have r72 := nz_ba hB (k := 49) (lo := 0) (hi := 5) rfl ((sy_i F 71).toInt).toNat
          have n73 : nzI ((sy_i F 70) + (((-1) : Int32))) (((sy_i F 70).toInt + (-1 : Int))) := nz_add (rfl : (sy_i F 70).toInt = (sy_i F 70).toInt) (by decide : (((-1) : Int32)).toInt = (-1 : Int)) (by omega) (by omega)
          have n74 : nzI (((sy_i F 70) + (((-1) : Int32))) - ((1 : Int32))) ((((sy_i F 70).toInt + (-1 : Int)) - 1)) := nz_sub (nzE n73) (by decide : ((1 : Int32)).toInt = 1) (by omega) (by omega)
          have q76 : (sy_ai F 53).getD ((sy_i F 70) + (((-1) : Int32))).toNatClampNeg 0 = (sy_ai F 53).getD (((sy_i F 70).toInt + (-1 : Int))).toNat 0 := by simp only [nz_c, (nzE n73), (by decide : (((-1) : Int32)).toInt = (-1 : Int))]
          have n76 : nzI ((sy_ai F 53).getD ((sy_i F 70) + (((-1) : Int32))).toNatClampNeg 0) (((sy_ai F 53).getD (((sy_i F 70).toInt + (-1 : Int))).toNat 0).toInt) := congrArg Int32.toInt q76
          exfalso
          omega
        replace g5 : ((sy_ai F 49).getD ((sy_i F 71).toInt).toNat 0).toInt = 3 := by omega
        have q72 : (sy_ai F 49).getD (sy_i F 71).toNatClampNeg 0 = (sy_ai F 49).getD ((sy_i F 71).toInt).toNat 0 := by simp only [nz_c]
        have n72 : nzI ((sy_ai F 49).getD (sy_i F 71).toNatClampNeg 0) (((sy_ai F 49).getD ((sy_i F 71).toInt).toNat 0).toInt) := congrArg Int32.toInt q72
        have r72 := nz_ba hB (k := 49) (lo := 0) (hi := 5) rfl ((sy_i F 71).toInt).toNat
        have n73 : nzI ((sy_i F 70) + (((-1) : Int32))) (((sy_i F 70).toInt + (-1 : Int))) := nz_add (rfl : (sy_i F 70).toInt = (sy_i F 70).toInt) (by decide : (((-1) : Int32)).toInt = (-1 : Int)) (by omega) (by omega)
        have n74 : nzI (((sy_i F 70) + (((-1) : Int32))) - ((1 : Int32))) ((((sy_i F 70).toInt + (-1 : Int)) - 1)) := nz_sub (nzE n73) (by decide : ((1 : Int32)).toInt = 1) (by omega) (by omega)
        have q76 : (sy_ai F 53).getD ((sy_i F 70) + (((-1) : Int32))).toNatClampNeg 0 = (sy_ai F 53).getD (((sy_i F 70).toInt + (-1 : Int))).toNat 0 := by simp only [nz_c, (nzE n73), (by decide : (((-1) : Int32)).toInt = (-1 : Int))]
        have n76 : nzI ((sy_ai F 53).getD ((sy_i F 70) + (((-1) : Int32))).toNatClampNeg 0) (((sy_ai F 53).getD (((sy_i F 70).toInt + (-1 : Int))).toNat 0).toInt) := congrArg Int32.toInt q76
        exfalso
        omega
      replace g4 : ((sy_ai F 49).getD ((sy_i F 71).toInt).toNat 0).toInt = 2 := by omega
      have q72 : (sy_ai F 49).getD (sy_i F 71).toNatClampNeg 0 = (sy_ai F 49).getD ((sy_i F 71).toInt).toNat 0 := by simp only [nz_c]
      have n72 : nzI ((sy_ai F 49).getD (sy_i F 71).toNatClampNeg 0) (((sy_ai F 49).getD ((sy_i F 71).toInt).toNat 0).toInt) := congrArg Int32.toInt q72
      have r72 := nz_ba hB (k := 49) (lo := 0) (hi := 5) rfl ((sy_i F 71).toInt).toNat
      have n73 : nzI ((sy_i F 70) + (((-1) : Int32))) (((sy_i F 70).toInt + (-1 : Int))) := nz_add (rfl : (sy_i F 70).toInt = (sy_i F 70).toInt) (by decide : (((-1) : Int32)).toInt = (-1 : Int)) (by omega) (by omega)
      have n74 : nzI (((sy_i F 70) + (((-1) : Int32))) - ((1 : Int32))) ((((sy_i F 70).toInt + (-1 : Int)) - 1)) := nz_sub (nzE n73) (by decide : ((1 : Int32)).toInt = 1) (by omega) (by omega)
      have q76 : (sy_ai F 53).getD ((sy_i F 70) + (((-1) : Int32))).toNatClampNeg 0 = (sy_ai F 53).getD (((sy_i F 70).toInt + (-1 : Int))).toNat 0 := by simp only [nz_c, (nzE n73), (by decide : (((-1) : Int32)).toInt = (-1 : Int))]
      have n76 : nzI ((sy_ai F 53).getD ((sy_i F 70) + (((-1) : Int32))).toNatClampNeg 0) (((sy_ai F 53).getD (((sy_i F 70).toInt + (-1 : Int))).toNat 0).toInt) := congrArg Int32.toInt q76
      exfalso
      omega
    replace g3 : ((sy_ai F 53).getD (((sy_i F 70).toInt + (-1 : Int))).toNat 0).toInt = 0 := by omega
    have q72 : (sy_ai F 49).getD (sy_i F 71).toNatClampNeg 0 = (sy_ai F 49).getD ((sy_i F 71).toInt).toNat 0 := by simp only [nz_c]
    have n72 : nzI ((sy_ai F 49).getD (sy_i F 71).toNatClampNeg 0) (((sy_ai F 49).getD ((sy_i F 71).toInt).toNat 0).toInt) := congrArg Int32.toInt q72
    have r72 := nz_ba hB (k := 49) (lo := 0) (hi := 5) rfl ((sy_i F 71).toInt).toNat
    have n73 : nzI ((sy_i F 70) + (((-1) : Int32))) (((sy_i F 70).toInt + (-1 : Int))) := nz_add (rfl : (sy_i F 70).toInt = (sy_i F 70).toInt) (by decide : (((-1) : Int32)).toInt = (-1 : Int)) (by omega) (by omega)
    have n74 : nzI (((sy_i F 70) + (((-1) : Int32))) - ((1 : Int32))) ((((sy_i F 70).toInt + (-1 : Int)) - 1)) := nz_sub (nzE n73) (by decide : ((1 : Int32)).toInt = 1) (by omega) (by omega)
    have q76 : (sy_ai F 53).getD ((sy_i F 70) + (((-1) : Int32))).toNatClampNeg 0 = (sy_ai F 53).getD (((sy_i F 70).toInt + (-1 : Int))).toNat 0 := by simp only [nz_c, (nzE n73), (by decide : (((-1) : Int32)).toInt = (-1 : Int))]
    have n76 : nzI ((sy_ai F 53).getD ((sy_i F 70) + (((-1) : Int32))).toNatClampNeg 0) (((sy_ai F 53).getD (((sy_i F 70).toInt + (-1 : Int))).toNat 0).toInt) := congrArg Int32.toInt q76
    exact yte_5_p5 hd F X1 X2 hB (by first | exact g0 | (simp only [nz_c]; exact g0)) (by first | exact ⟨by omega, by omega⟩ | (simp only [nz_c]; exact ⟨by omega, by omega⟩)) (by first | exact g1 | (simp only [nz_c]; exact g1) | (rw [(nzE n72)]; exact g1)) (by first | (simp only [nz_c, (nzE n73), (nzE n74)]; exact (o0 g0 g1)) | exact (o0 g0 g1) | (rw [(nzE n74)]; exact (o0 g0 g1))) (by first | (simp only [nz_c, (nzE n73)]; exact (o1 g0 g1)) | exact (o1 g0 g1) | (rw [(nzE n73)]; exact (o1 g0 g1))) (by first | exact g2 | (simp only [nz_c]; exact g2) | (rw [(nzE n72)]; exact g2)) (by first | (simp only [nz_c, (nzE n73)]; exact g3) | exact g3 | (rw [(nzE n76)]; exact g3)) (fun F1 g e17 => k5 g0 g1 g2 g3 F1 (nz_in hB [17] (fun j hj hn => g j hj (by simp only [List.mem_cons, List.not_mem_nil, or_false, not_or] at hn; omega)) (List.forall_mem_cons.mpr ⟨fun t ht => (Option.some.inj ht) ▸ (nz_hi e17 (by decide : ((1 : Int32)).toInt = 1) (by omega) (by omega)), List.forall_mem_nil _⟩)) (fun j hj hn => g j hj (by simp only [List.mem_cons, List.not_mem_nil, or_false, not_or] at hn; omega)) ((congrArg Int32.toInt (zz_i e17)).trans (by decide : ((1 : Int32)).toInt = 1)) ((zz_i e17).trans (rfl : (1 : Int32) = (1 : Int32))))
  replace g1 : ((sy_ai F 49).getD ((sy_i F 71).toInt).toNat 0).toInt < 2 := by omega
  by_cases g2 : ((sy_ai F 49).getD ((sy_i F 71).toInt).toNat 0).toInt ≠ 0
  · have q72 : (sy_ai F 49).getD (sy_i F 71).toNatClampNeg 0 = (sy_ai F 49).getD ((sy_i F 71).toInt).toNat 0 := by simp only [nz_c]
    have n72 : nzI ((sy_ai F 49).getD (sy_i F 71).toNatClampNeg 0) (((sy_ai F 49).getD ((sy_i F 71).toInt).toNat 0).toInt) := congrArg Int32.toInt q72
    have r72 := nz_ba hB (k := 49) (lo := 0) (hi := 5) rfl ((sy_i F 71).toInt).toNat
    have q73 : (sy_ai F 50).getD (sy_i F 71).toNatClampNeg 0 = (sy_ai F 50).getD ((sy_i F 71).toInt).toNat 0 := by simp only [nz_c]
    have n73 : nzI ((sy_ai F 50).getD (sy_i F 71).toNatClampNeg 0) (((sy_ai F 50).getD ((sy_i F 71).toInt).toNat 0).toInt) := congrArg Int32.toInt q73
    have w75 : jm_upd (sy_ai F 53) (sy_i F 70).toNatClampNeg ((sy_ai F 52).getD ((sy_ai F 50).getD (sy_i F 71).toNatClampNeg 0).toNatClampNeg 0) = jm_upd (sy_ai F 53) ((sy_i F 70).toInt).toNat ((sy_ai F 52).getD (((sy_ai F 50).getD ((sy_i F 71).toInt).toNat 0).toInt).toNat 0) := by simp only [nz_c]
    have n76 : nzI ((sy_i F 70) + ((1 : Int32))) (((sy_i F 70).toInt + 1)) := nz_add (rfl : (sy_i F 70).toInt = (sy_i F 70).toInt) (by decide : ((1 : Int32)).toInt = 1) (by omega) (by omega)
    have n77 : nzI ((sy_i F 71) + ((1 : Int32))) (((sy_i F 71).toInt + 1)) := nz_add (rfl : (sy_i F 71).toInt = (sy_i F 71).toInt) (by decide : ((1 : Int32)).toInt = 1) (by omega) (by omega)
    exact yte_5_p6 hd F X1 X2 hB (by first | exact g0 | (simp only [nz_c]; exact g0)) (by first | exact ⟨by omega, by omega⟩ | (simp only [nz_c]; exact ⟨by omega, by omega⟩)) (by first | exact g1 | (simp only [nz_c]; exact g1) | (rw [(nzE n72)]; exact g1)) (by first | exact g2 | (simp only [nz_c]; exact g2) | (rw [(nzE n72)]; exact g2)) (by first | exact ⟨by omega, by omega⟩ | (simp only [nz_c]; exact ⟨by omega, by omega⟩)) (by first | exact (o6 g0 g1 g2) | (simp only [nz_c]; exact (o6 g0 g1 g2)) | (rw [(nzE n73)]; exact (o6 g0 g1 g2))) (by first | exact (o7 g0 g1 g2) | (simp only [nz_c]; exact (o7 g0 g1 g2))) (fun F1 g e53 e69 e70 e71 => k6 g0 g1 g2 F1 (nz_in hB [53] (fun j hj hn => g j hj (by simp only [List.mem_cons, List.not_mem_nil, or_false, not_or] at hn; omega)) (List.forall_mem_cons.mpr ⟨fun t ht => (Option.some.inj ht) ▸ (nz_hz2 e53), List.forall_mem_nil _⟩)) (fun j hj hn => g j hj (by simp only [List.mem_cons, List.not_mem_nil, or_false, not_or] at hn; omega)) ((zz_ai e53).trans w75) ((congrArg Int32.toInt (zz_i e69)).trans (rfl : (sy_i F 69).toInt = (sy_i F 69).toInt)) ((zz_i e69).trans (rfl : sy_i F 69 = sy_i F 69)) ((congrArg Int32.toInt (zz_i e70)).trans (nzE n76)) ((zz_i e70).trans (rfl : (sy_i F 70) + ((1 : Int32)) = (sy_i F 70) + ((1 : Int32)))) ((congrArg Int32.toInt (zz_i e71)).trans (nzE n77)) ((zz_i e71).trans (rfl : (sy_i F 71) + ((1 : Int32)) = (sy_i F 71) + ((1 : Int32)))))
  replace g2 : ((sy_ai F 49).getD ((sy_i F 71).toInt).toNat 0).toInt = 0 := by omega
  have q72 : (sy_ai F 49).getD (sy_i F 71).toNatClampNeg 0 = (sy_ai F 49).getD ((sy_i F 71).toInt).toNat 0 := by simp only [nz_c]
  have n72 : nzI ((sy_ai F 49).getD (sy_i F 71).toNatClampNeg 0) (((sy_ai F 49).getD ((sy_i F 71).toInt).toNat 0).toInt) := congrArg Int32.toInt q72
  have r72 := nz_ba hB (k := 49) (lo := 0) (hi := 5) rfl ((sy_i F 71).toInt).toNat
  have w74 : jm_upd (sy_ai F 53) (sy_i F 70).toNatClampNeg ((sy_ai F 50).getD (sy_i F 71).toNatClampNeg 0) = jm_upd (sy_ai F 53) ((sy_i F 70).toInt).toNat ((sy_ai F 50).getD ((sy_i F 71).toInt).toNat 0) := by simp only [nz_c]
  have n75 : nzI ((sy_i F 70) + ((1 : Int32))) (((sy_i F 70).toInt + 1)) := nz_add (rfl : (sy_i F 70).toInt = (sy_i F 70).toInt) (by decide : ((1 : Int32)).toInt = 1) (by omega) (by omega)
  have n76 : nzI ((sy_i F 71) + ((1 : Int32))) (((sy_i F 71).toInt + 1)) := nz_add (rfl : (sy_i F 71).toInt = (sy_i F 71).toInt) (by decide : ((1 : Int32)).toInt = 1) (by omega) (by omega)
  exact yte_5_p7 hd F X1 X2 hB (by first | exact g0 | (simp only [nz_c]; exact g0)) (by first | exact ⟨by omega, by omega⟩ | (simp only [nz_c]; exact ⟨by omega, by omega⟩)) (by first | exact g1 | (simp only [nz_c]; exact g1) | (rw [(nzE n72)]; exact g1)) (by first | exact g2 | (simp only [nz_c]; exact g2) | (rw [(nzE n72)]; exact g2)) (by first | exact ⟨by omega, by omega⟩ | (simp only [nz_c]; exact ⟨by omega, by omega⟩)) (by first | exact (o8 g0 g1 g2) | (simp only [nz_c]; exact (o8 g0 g1 g2))) (fun F1 g e53 e69 e70 e71 => k7 g0 g1 g2 F1 (nz_in hB [53] (fun j hj hn => g j hj (by simp only [List.mem_cons, List.not_mem_nil, or_false, not_or] at hn; omega)) (List.forall_mem_cons.mpr ⟨fun t ht => (Option.some.inj ht) ▸ (nz_hz2 e53), List.forall_mem_nil _⟩)) (fun j hj hn => g j hj (by simp only [List.mem_cons, List.not_mem_nil, or_false, not_or] at hn; omega)) ((zz_ai e53).trans w74) ((congrArg Int32.toInt (zz_i e69)).trans (rfl : (sy_i F 69).toInt = (sy_i F 69).toInt)) ((zz_i e69).trans (rfl : sy_i F 69 = sy_i F 69)) ((congrArg Int32.toInt (zz_i e70)).trans (nzE n75)) ((zz_i e70).trans (rfl : (sy_i F 70) + ((1 : Int32)) = (sy_i F 70) + ((1 : Int32)))) ((congrArg Int32.toInt (zz_i e71)).trans (nzE n76)) ((zz_i e71).trans (rfl : (sy_i F 71) + ((1 : Int32)) = (sy_i F 71) + ((1 : Int32)))))
theorem ylt_0_p0 {Ls : Nat} {xs : Nat → Int32} {d : Nat} {Q : Option Value → jm_h → Prop} (hd : 1 ≤ d) (F : Nat → sy_d) (X1 X2 : List jm_c) (hB : iv_in F iv_B4)
    (h0 : 0 ≤ (sy_i F 69).toInt ∧ (sy_i F 69).toInt < 12)
    (k : ∀ F1 : Nat → sy_d, (∀ j, j < 69 → j ≠ 17 → F1 j = F j) → F1 17 = .inl (.int ((0 : Int32))) → F1 69 = .inl (.int (sy_i F 69)) → F1 70 = .inl (.int ((sy_ai F 42).getD (sy_i F 69).toNatClampNeg 0)) → hd_W Ls xs d jm_M180 Q (12, sy_dL F1 [some (.inl (.ref 1000)), some (.inr (.inl 69)), some (.inr (.inl 70)), none, none], sy_dS F1 [], sy_dh F1 X1 X2 (iv_H 4), 0, 0)) :
    hd_W Ls xs d jm_M180 Q (0, sy_dL F [some (.inl (.ref 1000)), some (.inr (.inl 69)), none, none, none], sy_dS F [], sy_dh F X1 X2 (iv_H 4), 0, 0) := by
  refine hd_run (s := 4) (nv := 70) (pc := 12) (L := [some (.inl (.ref 1000)), some (.inr (.inl 69)), some (.inr (.inl 70)), none, none]) (S := []) (uh := hd_ov (iv_id 0 iv_B4) [(17, .inl (.inl (.int 0)))]) (ul := [.inl (.inr (.inl 69)), .inl (.inr (.inl 70))]) (f := true) (sp := [12]) (d0 := 0) (O := []) (T := [(30, [.inr (.inl 69)], [.inr (.inl 42)])]) (P := [(6, .inr (.inl 69), .inl (.ref 12))]) jm_ok180 (by decide +kernel) (by decide +kernel) hd F X1 X2 (fun F' hF hs => ?_)
  have b69 := hd_b (F := F) (F' := F') (k := 69) (hF 69 (by decide))
  have a42 := hd_ba (F := F) (F' := F') (k := 42) (hF 42 (by decide))
  have t70 : sy_dv F' (.inr (.inl 70)) = .int ((sy_ai F 42).getD (sy_i F 69).toNatClampNeg 0) := hd_rd (hs 0 _ rfl) b69 a42
  have hB' : iv_in F' iv_B4 := iv_in_eq hB (fun j hj => hF j (Nat.lt_of_lt_of_le hj (by decide +kernel)))
  refine ⟨List.forall_mem_cons.mpr ⟨hd_pb b69 (by first | exact h0 | exact h0), fun _ h => absurd h List.not_mem_nil⟩, ?_⟩
  refine k _ ?_ ?_ ?_ ?_
  · exact fun j hj hn => (hd_keep hB' (Nat.lt_of_lt_of_le hj (by decide +kernel)) (by simp; omega)).trans (hF j (by omega))
  · exact hd_gi (x := .inl (.int 0)) (by decide +kernel) rfl
  · exact hd_gi (x := .inr (.inl 69)) (by decide +kernel) b69
  · exact hd_gi (x := .inr (.inl 70)) (by decide +kernel) t70
theorem ylt_0 {Ls : Nat} {xs : Nat → Int32} {d : Nat} {Q : Option Value → jm_h → Prop} (hd : 1 ≤ d) (F : Nat → sy_d) (X1 X2 : List jm_c) (hB : iv_in F iv_B4)
    (a69 : 0 ≤ (sy_i F 69).toInt ∧ (sy_i F 69).toInt ≤ 11)
    (k0 : ∀ F1 : Nat → sy_d, iv_in F1 iv_B4 → (∀ j, j < 69 → j ∉ ([17] : List Nat) → F1 j = F j) → (sy_i F1 17).toInt = 0 → sy_i F1 17 = (0 : Int32) → (sy_i F1 69).toInt = (sy_i F 69).toInt → sy_i F1 69 = sy_i F 69 → (sy_i F1 70).toInt = ((sy_ai F 42).getD ((sy_i F 69).toInt).toNat 0).toInt → sy_i F1 70 = (sy_ai F 42).getD ((sy_i F 69).toInt).toNat 0 → hd_W Ls xs d jm_M180 Q (12, sy_dL F1 [some (.inl (.ref 1000)), some (.inr (.inl 69)), some (.inr (.inl 70)), none, none], sy_dS F1 [], sy_dh F1 X1 X2 (iv_H 4), 0, 0)) :
    hd_W Ls xs d jm_M180 Q (0, sy_dL F [some (.inl (.ref 1000)), some (.inr (.inl 69)), none, none, none], sy_dS F [], sy_dh F X1 X2 (iv_H 4), 0, 0) := by
  have q70 : (sy_ai F 42).getD (sy_i F 69).toNatClampNeg 0 = (sy_ai F 42).getD ((sy_i F 69).toInt).toNat 0 := by simp only [nz_c]
  have n70 : nzI ((sy_ai F 42).getD (sy_i F 69).toNatClampNeg 0) (((sy_ai F 42).getD ((sy_i F 69).toInt).toNat 0).toInt) := congrArg Int32.toInt q70
  have r70 := nz_ba hB (k := 42) (lo := 0) (hi := 260) rfl ((sy_i F 69).toInt).toNat
  exact ylt_0_p0 hd F X1 X2 hB (by first | exact ⟨by omega, by omega⟩ | (simp only [nz_c]; exact ⟨by omega, by omega⟩)) (fun F1 g e17 e69 e70 => k0 F1 (nz_in hB [17] (fun j hj hn => g j hj (by simp only [List.mem_cons, List.not_mem_nil, or_false, not_or] at hn; omega)) (List.forall_mem_cons.mpr ⟨fun t ht => (Option.some.inj ht) ▸ (nz_hi e17 (by decide : ((0 : Int32)).toInt = 0) (by omega) (by omega)), List.forall_mem_nil _⟩)) (fun j hj hn => g j hj (by simp only [List.mem_cons, List.not_mem_nil, or_false, not_or] at hn; omega)) ((congrArg Int32.toInt (zz_i e17)).trans (by decide : ((0 : Int32)).toInt = 0)) ((zz_i e17).trans (rfl : (0 : Int32) = (0 : Int32))) ((congrArg Int32.toInt (zz_i e69)).trans (rfl : (sy_i F 69).toInt = (sy_i F 69).toInt)) ((zz_i e69).trans (rfl : sy_i F 69 = sy_i F 69)) ((congrArg Int32.toInt (zz_i e70)).trans (nzE n70)) ((zz_i e70).trans q70))
theorem ylt_12_p0 {Ls : Nat} {xs : Nat → Int32} {d : Nat} {Q : Option Value → jm_h → Prop} (hd : 1 ≤ d) (F : Nat → sy_d) (X1 X2 : List jm_c) (hB : iv_in F iv_B4)
    (h0 : 0 ≤ (sy_i F 69).toInt ∧ (sy_i F 69).toInt < 12)
    (h1 : ((sy_ai F 43).getD (sy_i F 69).toNatClampNeg 0).toInt ≤ (sy_i F 70).toInt)
    (k : ∀ F1 : Nat → sy_d, (∀ j, j < 69 → True → F1 j = F j) → Q (some (.int ((0 : Int32)))) (sy_dh F1 X1 X2 (iv_H 4))) :
    hd_W Ls xs d jm_M180 Q (12, sy_dL F [some (.inl (.ref 1000)), some (.inr (.inl 69)), some (.inr (.inl 70)), none, none], sy_dS F [], sy_dh F X1 X2 (iv_H 4), 0, 0) := by
  refine hd_ret (s := 4) (nv := 71) (v := some (.inl (.int 0))) (uh := hd_ov (iv_id 0 iv_B4) []) (f := true) (sp := [44, 97]) (d0 := 0) (O := [true]) (T := [(30, [.inr (.inl 69)], [.inr (.inl 43)])]) (P := [(6, .inr (.inl 69), .inl (.ref 12)), (4, .inr (.inl 71), .inr (.inl 70))]) jm_ok180 (by decide +kernel) (by decide +kernel) hd F X1 X2 (fun F' hF hs => ?_)
  have b69 := hd_b (F := F) (F' := F') (k := 69) (hF 69 (by decide))
  have a43 := hd_ba (F := F) (F' := F') (k := 43) (hF 43 (by decide))
  have t71 : sy_dv F' (.inr (.inl 71)) = .int ((sy_ai F 43).getD (sy_i F 69).toNatClampNeg 0) := hd_rd (hs 0 _ rfl) b69 a43
  have b70 := hd_b (F := F) (F' := F') (k := 70) (hF 70 (by decide))
  have hB' : iv_in F' iv_B4 := iv_in_eq hB (fun j hj => hF j (Nat.lt_of_lt_of_le hj (by decide +kernel)))
  refine ⟨List.forall_mem_cons.mpr ⟨hd_pb b69 (by first | exact h0 | exact h0), List.forall_mem_cons.mpr ⟨hd_p4 t71 b70 h1, fun _ h => absurd h List.not_mem_nil⟩⟩, ?_⟩
  refine k _ ?_
  · exact fun j hj _ => (hd_keep hB' (Nat.lt_of_lt_of_le hj (by decide +kernel)) (by simp)).trans (hF j (by omega))
theorem ylt_12_p1 {Ls : Nat} {xs : Nat → Int32} {d : Nat} {Q : Option Value → jm_h → Prop} (hd : 1 ≤ d) (F : Nat → sy_d) (X1 X2 : List jm_c) (hB : iv_in F iv_B4)
    (h0 : 0 ≤ (sy_i F 69).toInt ∧ (sy_i F 69).toInt < 12)
    (h1 : (sy_i F 70).toInt < ((sy_ai F 43).getD (sy_i F 69).toNatClampNeg 0).toInt)
    (h2 : 0 ≤ (sy_i F 70).toInt ∧ (sy_i F 70).toInt < 260)
    (h3 : ((sy_ai F 44).getD (sy_i F 70).toNatClampNeg 0).toInt = 0)
    (h4 : 0 ≤ (sy_i F 70).toInt ∧ (sy_i F 70).toInt < 260)
    (h5 : 0 ≤ (sy_i F 70).toInt ∧ (sy_i F 70).toInt < 260)
    (k : ∀ F1 : Nat → sy_d, (∀ j, j < 69 → True → F1 j = F j) → F1 69 = .inl (.int (sy_i F 69)) → F1 70 = .inl (.int (sy_i F 70)) → F1 71 = .inl (.int ((sy_ai F 47).getD (sy_i F 70).toNatClampNeg 0)) → F1 72 = .inl (.int ((sy_ai F 48).getD (sy_i F 70).toNatClampNeg 0)) → hd_W Ls xs d jm_M180 Q (97, sy_dL F1 [some (.inl (.ref 1000)), some (.inr (.inl 69)), some (.inr (.inl 70)), none, none], sy_dS F1 [.inr (.inl 72), .inr (.inl 71), .inl (.ref 1000)], sy_dh F1 X1 X2 (iv_H 4), 0, 0)) :
    hd_W Ls xs d jm_M180 Q (12, sy_dL F [some (.inl (.ref 1000)), some (.inr (.inl 69)), some (.inr (.inl 70)), none, none], sy_dS F [], sy_dh F X1 X2 (iv_H 4), 0, 0) := by
  refine hd_run (s := 4) (nv := 71) (pc := 97) (L := [some (.inl (.ref 1000)), some (.inr (.inl 69)), some (.inr (.inl 70)), none, none]) (S := [.inr (.inl 72), .inr (.inl 71), .inl (.ref 1000)]) (uh := hd_ov (iv_id 0 iv_B4) []) (ul := [.inl (.inr (.inl 69)), .inl (.inr (.inl 70)), .inl (.inr (.inl 73)), .inl (.inr (.inl 74))]) (f := true) (sp := [44, 97]) (d0 := 0) (O := [false, true]) (T := [(30, [.inr (.inl 69)], [.inr (.inl 43)]), (30, [.inr (.inl 70)], [.inr (.inl 44)]), (30, [.inr (.inl 70)], [.inr (.inl 47)]), (30, [.inr (.inl 70)], [.inr (.inl 48)])]) (P := [(6, .inr (.inl 69), .inl (.ref 12)), (5, .inr (.inl 71), .inr (.inl 70)), (6, .inr (.inl 70), .inl (.ref 260)), (0, .inr (.inl 72), .inl (.int 0)), (6, .inr (.inl 70), .inl (.ref 260)), (6, .inr (.inl 70), .inl (.ref 260))]) jm_ok180 (by decide +kernel) (by decide +kernel) hd F X1 X2 (fun F' hF hs => ?_)
  have b69 := hd_b (F := F) (F' := F') (k := 69) (hF 69 (by decide))
  have a43 := hd_ba (F := F) (F' := F') (k := 43) (hF 43 (by decide))
  have t71 : sy_dv F' (.inr (.inl 71)) = .int ((sy_ai F 43).getD (sy_i F 69).toNatClampNeg 0) := hd_rd (hs 0 _ rfl) b69 a43
  have b70 := hd_b (F := F) (F' := F') (k := 70) (hF 70 (by decide))
  have a44 := hd_ba (F := F) (F' := F') (k := 44) (hF 44 (by decide))
  have t72 : sy_dv F' (.inr (.inl 72)) = .int ((sy_ai F 44).getD (sy_i F 70).toNatClampNeg 0) := hd_rd (hs 1 _ rfl) b70 a44
  have a47 := hd_ba (F := F) (F' := F') (k := 47) (hF 47 (by decide))
  have t73 : sy_dv F' (.inr (.inl 73)) = .int ((sy_ai F 47).getD (sy_i F 70).toNatClampNeg 0) := hd_rd (hs 2 _ rfl) b70 a47
  have a48 := hd_ba (F := F) (F' := F') (k := 48) (hF 48 (by decide))
  have t74 : sy_dv F' (.inr (.inl 74)) = .int ((sy_ai F 48).getD (sy_i F 70).toNatClampNeg 0) := hd_rd (hs 3 _ rfl) b70 a48
  have hB' : iv_in F' iv_B4 := iv_in_eq hB (fun j hj => hF j (Nat.lt_of_lt_of_le hj (by decide +kernel)))
  refine ⟨List.forall_mem_cons.mpr ⟨hd_pb b69 (by first | exact h0 | exact h0), List.forall_mem_cons.mpr ⟨hd_p5 t71 b70 h1, List.forall_mem_cons.mpr ⟨hd_pb b70 (by first | exact h2 | exact h2), List.forall_mem_cons.mpr ⟨hd_p0 t72 rfl (by have hc : ((0) : Int32).toInt = 0 := (by decide); omega), List.forall_mem_cons.mpr ⟨hd_pb b70 (by first | exact h4 | exact h4), List.forall_mem_cons.mpr ⟨hd_pb b70 (by first | exact h5 | exact h5), fun _ h => absurd h List.not_mem_nil⟩⟩⟩⟩⟩⟩, ?_⟩
  refine k _ ?_ ?_ ?_ ?_ ?_
  · exact fun j hj _ => (hd_keep hB' (Nat.lt_of_lt_of_le hj (by decide +kernel)) (by simp)).trans (hF j (by omega))
  · exact hd_gi (x := .inr (.inl 69)) (by decide +kernel) b69
  · exact hd_gi (x := .inr (.inl 70)) (by decide +kernel) b70
  · exact hd_gi (x := .inr (.inl 73)) (by decide +kernel) t73
  · exact hd_gi (x := .inr (.inl 74)) (by decide +kernel) t74
theorem ylt_12_p2 {Ls : Nat} {xs : Nat → Int32} {d : Nat} {Q : Option Value → jm_h → Prop} (hd : 1 ≤ d) (F : Nat → sy_d) (X1 X2 : List jm_c) (hB : iv_in F iv_B4)
    (h0 : 0 ≤ (sy_i F 69).toInt ∧ (sy_i F 69).toInt < 12)
    (h1 : (sy_i F 70).toInt < ((sy_ai F 43).getD (sy_i F 69).toNatClampNeg 0).toInt)
    (h2 : 0 ≤ (sy_i F 70).toInt ∧ (sy_i F 70).toInt < 260)
    (h3 : ((sy_ai F 44).getD (sy_i F 70).toNatClampNeg 0).toInt ≠ 0)
    (h4 : 0 ≤ (sy_i F 70).toInt ∧ (sy_i F 70).toInt < 260)
    (h5 : 0 ≤ (sy_i F 70).toInt ∧ (sy_i F 70).toInt < 260)
    (k : ∀ F1 : Nat → sy_d, (∀ j, j < 69 → True → F1 j = F j) → F1 69 = .inl (.int (sy_i F 69)) → F1 70 = .inl (.int (sy_i F 70)) → F1 71 = .inl (.int ((sy_ai F 45).getD (sy_i F 70).toNatClampNeg 0)) → F1 72 = .inl (.int ((sy_ai F 46).getD (sy_i F 70).toNatClampNeg 0)) → hd_W Ls xs d jm_M180 Q (44, sy_dL F1 [some (.inl (.ref 1000)), some (.inr (.inl 69)), some (.inr (.inl 70)), none, none], sy_dS F1 [.inr (.inl 72), .inr (.inl 71), .inl (.ref 1000)], sy_dh F1 X1 X2 (iv_H 4), 0, 0)) :
    hd_W Ls xs d jm_M180 Q (12, sy_dL F [some (.inl (.ref 1000)), some (.inr (.inl 69)), some (.inr (.inl 70)), none, none], sy_dS F [], sy_dh F X1 X2 (iv_H 4), 0, 0) := by
  refine hd_run (s := 4) (nv := 71) (pc := 44) (L := [some (.inl (.ref 1000)), some (.inr (.inl 69)), some (.inr (.inl 70)), none, none]) (S := [.inr (.inl 72), .inr (.inl 71), .inl (.ref 1000)]) (uh := hd_ov (iv_id 0 iv_B4) []) (ul := [.inl (.inr (.inl 69)), .inl (.inr (.inl 70)), .inl (.inr (.inl 73)), .inl (.inr (.inl 74))]) (f := true) (sp := [44, 97]) (d0 := 0) (O := [false, false]) (T := [(30, [.inr (.inl 69)], [.inr (.inl 43)]), (30, [.inr (.inl 70)], [.inr (.inl 44)]), (30, [.inr (.inl 70)], [.inr (.inl 45)]), (30, [.inr (.inl 70)], [.inr (.inl 46)])]) (P := [(6, .inr (.inl 69), .inl (.ref 12)), (5, .inr (.inl 71), .inr (.inl 70)), (6, .inr (.inl 70), .inl (.ref 260)), (1, .inr (.inl 72), .inl (.int 0)), (6, .inr (.inl 70), .inl (.ref 260)), (6, .inr (.inl 70), .inl (.ref 260))]) jm_ok180 (by decide +kernel) (by decide +kernel) hd F X1 X2 (fun F' hF hs => ?_)
  have b69 := hd_b (F := F) (F' := F') (k := 69) (hF 69 (by decide))
  have a43 := hd_ba (F := F) (F' := F') (k := 43) (hF 43 (by decide))
  have t71 : sy_dv F' (.inr (.inl 71)) = .int ((sy_ai F 43).getD (sy_i F 69).toNatClampNeg 0) := hd_rd (hs 0 _ rfl) b69 a43
  have b70 := hd_b (F := F) (F' := F') (k := 70) (hF 70 (by decide))
  have a44 := hd_ba (F := F) (F' := F') (k := 44) (hF 44 (by decide))
  have t72 : sy_dv F' (.inr (.inl 72)) = .int ((sy_ai F 44).getD (sy_i F 70).toNatClampNeg 0) := hd_rd (hs 1 _ rfl) b70 a44
  have a45 := hd_ba (F := F) (F' := F') (k := 45) (hF 45 (by decide))
  have t73 : sy_dv F' (.inr (.inl 73)) = .int ((sy_ai F 45).getD (sy_i F 70).toNatClampNeg 0) := hd_rd (hs 2 _ rfl) b70 a45
  have a46 := hd_ba (F := F) (F' := F') (k := 46) (hF 46 (by decide))
  have t74 : sy_dv F' (.inr (.inl 74)) = .int ((sy_ai F 46).getD (sy_i F 70).toNatClampNeg 0) := hd_rd (hs 3 _ rfl) b70 a46
  have hB' : iv_in F' iv_B4 := iv_in_eq hB (fun j hj => hF j (Nat.lt_of_lt_of_le hj (by decide +kernel)))
  refine ⟨List.forall_mem_cons.mpr ⟨hd_pb b69 (by first | exact h0 | exact h0), List.forall_mem_cons.mpr ⟨hd_p5 t71 b70 h1, List.forall_mem_cons.mpr ⟨hd_pb b70 (by first | exact h2 | exact h2), List.forall_mem_cons.mpr ⟨hd_p1 t72 rfl (by have hc : ((0) : Int32).toInt = 0 := (by decide); omega), List.forall_mem_cons.mpr ⟨hd_pb b70 (by first | exact h4 | exact h4), List.forall_mem_cons.mpr ⟨hd_pb b70 (by first | exact h5 | exact h5), fun _ h => absurd h List.not_mem_nil⟩⟩⟩⟩⟩⟩, ?_⟩
  refine k _ ?_ ?_ ?_ ?_ ?_
  · exact fun j hj _ => (hd_keep hB' (Nat.lt_of_lt_of_le hj (by decide +kernel)) (by simp)).trans (hF j (by omega))
  · exact hd_gi (x := .inr (.inl 69)) (by decide +kernel) b69
  · exact hd_gi (x := .inr (.inl 70)) (by decide +kernel) b70
  · exact hd_gi (x := .inr (.inl 73)) (by decide +kernel) t73
  · exact hd_gi (x := .inr (.inl 74)) (by decide +kernel) t74
theorem ylt_12 {Ls : Nat} {xs : Nat → Int32} {d : Nat} {Q : Option Value → jm_h → Prop} (hd : 1 ≤ d) (F : Nat → sy_d) (X1 X2 : List jm_c) (hB : iv_in F iv_B4)
    (a69 : 0 ≤ (sy_i F 69).toInt ∧ (sy_i F 69).toInt ≤ 11)
    (a70 : 0 ≤ (sy_i F 70).toInt ∧ (sy_i F 70).toInt ≤ 260)
    (k0 : ((sy_ai F 43).getD ((sy_i F 69).toInt).toNat 0).toInt ≤ (sy_i F 70).toInt → ∀ F1 : Nat → sy_d, iv_in F1 iv_B4 → (∀ j, j < 69 → j ∉ ([] : List Nat) → F1 j = F j) → Q (some (.int ((0 : Int32)))) (sy_dh F1 X1 X2 (iv_H 4)))
    (k1 : (sy_i F 70).toInt < ((sy_ai F 43).getD ((sy_i F 69).toInt).toNat 0).toInt → ((sy_ai F 44).getD ((sy_i F 70).toInt).toNat 0).toInt = 0 → ∀ F1 : Nat → sy_d, iv_in F1 iv_B4 → (∀ j, j < 69 → j ∉ ([] : List Nat) → F1 j = F j) → (sy_i F1 69).toInt = (sy_i F 69).toInt → sy_i F1 69 = sy_i F 69 → (sy_i F1 70).toInt = (sy_i F 70).toInt → sy_i F1 70 = sy_i F 70 → (sy_i F1 71).toInt = ((sy_ai F 47).getD ((sy_i F 70).toInt).toNat 0).toInt → sy_i F1 71 = (sy_ai F 47).getD ((sy_i F 70).toInt).toNat 0 → (sy_i F1 72).toInt = ((sy_ai F 48).getD ((sy_i F 70).toInt).toNat 0).toInt → sy_i F1 72 = (sy_ai F 48).getD ((sy_i F 70).toInt).toNat 0 → hd_W Ls xs d jm_M180 Q (97, sy_dL F1 [some (.inl (.ref 1000)), some (.inr (.inl 69)), some (.inr (.inl 70)), none, none], sy_dS F1 [.inr (.inl 72), .inr (.inl 71), .inl (.ref 1000)], sy_dh F1 X1 X2 (iv_H 4), 0, 0))
    (k2 : (sy_i F 70).toInt < ((sy_ai F 43).getD ((sy_i F 69).toInt).toNat 0).toInt → ((sy_ai F 44).getD ((sy_i F 70).toInt).toNat 0).toInt ≠ 0 → ∀ F1 : Nat → sy_d, iv_in F1 iv_B4 → (∀ j, j < 69 → j ∉ ([] : List Nat) → F1 j = F j) → (sy_i F1 69).toInt = (sy_i F 69).toInt → sy_i F1 69 = sy_i F 69 → (sy_i F1 70).toInt = (sy_i F 70).toInt → sy_i F1 70 = sy_i F 70 → (sy_i F1 71).toInt = ((sy_ai F 45).getD ((sy_i F 70).toInt).toNat 0).toInt → sy_i F1 71 = (sy_ai F 45).getD ((sy_i F 70).toInt).toNat 0 → (sy_i F1 72).toInt = ((sy_ai F 46).getD ((sy_i F 70).toInt).toNat 0).toInt → sy_i F1 72 = (sy_ai F 46).getD ((sy_i F 70).toInt).toNat 0 → hd_W Ls xs d jm_M180 Q (44, sy_dL F1 [some (.inl (.ref 1000)), some (.inr (.inl 69)), some (.inr (.inl 70)), none, none], sy_dS F1 [.inr (.inl 72), .inr (.inl 71), .inl (.ref 1000)], sy_dh F1 X1 X2 (iv_H 4), 0, 0)) :
    hd_W Ls xs d jm_M180 Q (12, sy_dL F [some (.inl (.ref 1000)), some (.inr (.inl 69)), some (.inr (.inl 70)), none, none], sy_dS F [], sy_dh F X1 X2 (iv_H 4), 0, 0) := by
  by_cases g0 : ((sy_ai F 43).getD ((sy_i F 69).toInt).toNat 0).toInt ≤ (sy_i F 70).toInt
  · have q71 : (sy_ai F 43).getD (sy_i F 69).toNatClampNeg 0 = (sy_ai F 43).getD ((sy_i F 69).toInt).toNat 0 := by simp only [nz_c]
    have n71 : nzI ((sy_ai F 43).getD (sy_i F 69).toNatClampNeg 0) (((sy_ai F 43).getD ((sy_i F 69).toInt).toNat 0).toInt) := congrArg Int32.toInt q71
    have r71 := nz_ba hB (k := 43) (lo := 0) (hi := 260) rfl ((sy_i F 69).toInt).toNat
    exact ylt_12_p0 hd F X1 X2 hB (by first | exact ⟨by omega, by omega⟩ | (simp only [nz_c]; exact ⟨by omega, by omega⟩)) (by first | exact g0 | (simp only [nz_c]; exact g0) | (rw [(nzE n71)]; exact g0)) (fun F1 g  => k0 g0 F1 (nz_in hB [] (fun j hj hn => g j hj (by simp only [List.mem_cons, List.not_mem_nil, or_false, not_or] at hn; exact trivial)) (List.forall_mem_nil _)) (fun j hj hn => g j hj (by simp only [List.mem_cons, List.not_mem_nil, or_false, not_or] at hn; exact trivial)) )
  replace g0 : (sy_i F 70).toInt < ((sy_ai F 43).getD ((sy_i F 69).toInt).toNat 0).toInt := by omega
  by_cases g1 : ((sy_ai F 44).getD ((sy_i F 70).toInt).toNat 0).toInt = 0
  · have q71 : (sy_ai F 43).getD (sy_i F 69).toNatClampNeg 0 = (sy_ai F 43).getD ((sy_i F 69).toInt).toNat 0 := by simp only [nz_c]
    have n71 : nzI ((sy_ai F 43).getD (sy_i F 69).toNatClampNeg 0) (((sy_ai F 43).getD ((sy_i F 69).toInt).toNat 0).toInt) := congrArg Int32.toInt q71
    have r71 := nz_ba hB (k := 43) (lo := 0) (hi := 260) rfl ((sy_i F 69).toInt).toNat
    have q72 : (sy_ai F 44).getD (sy_i F 70).toNatClampNeg 0 = (sy_ai F 44).getD ((sy_i F 70).toInt).toNat 0 := by simp only [nz_c]
    have n72 : nzI ((sy_ai F 44).getD (sy_i F 70).toNatClampNeg 0) (((sy_ai F 44).getD ((sy_i F 70).toInt).toNat 0).toInt) := congrArg Int32.toInt q72
    have r72 := nz_ba hB (k := 44) (lo := 0) (hi := 1) rfl ((sy_i F 70).toInt).toNat
    have q73 : (sy_ai F 47).getD (sy_i F 70).toNatClampNeg 0 = (sy_ai F 47).getD ((sy_i F 70).toInt).toNat 0 := by simp only [nz_c]
    have n73 : nzI ((sy_ai F 47).getD (sy_i F 70).toNatClampNeg 0) (((sy_ai F 47).getD ((sy_i F 70).toInt).toNat 0).toInt) := congrArg Int32.toInt q73
    have r73 := nz_ba hB (k := 47) (lo := 0) (hi := 840) rfl ((sy_i F 70).toInt).toNat
    have q74 : (sy_ai F 48).getD (sy_i F 70).toNatClampNeg 0 = (sy_ai F 48).getD ((sy_i F 70).toInt).toNat 0 := by simp only [nz_c]
    have n74 : nzI ((sy_ai F 48).getD (sy_i F 70).toNatClampNeg 0) (((sy_ai F 48).getD ((sy_i F 70).toInt).toNat 0).toInt) := congrArg Int32.toInt q74
    have r74 := nz_ba hB (k := 48) (lo := 0) (hi := 840) rfl ((sy_i F 70).toInt).toNat
    exact ylt_12_p1 hd F X1 X2 hB (by first | exact ⟨by omega, by omega⟩ | (simp only [nz_c]; exact ⟨by omega, by omega⟩)) (by first | exact g0 | (simp only [nz_c]; exact g0) | (rw [(nzE n71)]; exact g0)) (by first | exact ⟨by omega, by omega⟩ | (simp only [nz_c]; exact ⟨by omega, by omega⟩)) (by first | exact g1 | (simp only [nz_c]; exact g1) | (rw [(nzE n72)]; exact g1)) (by first | exact ⟨by omega, by omega⟩ | (simp only [nz_c]; exact ⟨by omega, by omega⟩)) (by first | exact ⟨by omega, by omega⟩ | (simp only [nz_c]; exact ⟨by omega, by omega⟩)) (fun F1 g e69 e70 e71 e72 => k1 g0 g1 F1 (nz_in hB [] (fun j hj hn => g j hj (by simp only [List.mem_cons, List.not_mem_nil, or_false, not_or] at hn; exact trivial)) (List.forall_mem_nil _)) (fun j hj hn => g j hj (by simp only [List.mem_cons, List.not_mem_nil, or_false, not_or] at hn; exact trivial)) ((congrArg Int32.toInt (zz_i e69)).trans (rfl : (sy_i F 69).toInt = (sy_i F 69).toInt)) ((zz_i e69).trans (rfl : sy_i F 69 = sy_i F 69)) ((congrArg Int32.toInt (zz_i e70)).trans (rfl : (sy_i F 70).toInt = (sy_i F 70).toInt)) ((zz_i e70).trans (rfl : sy_i F 70 = sy_i F 70)) ((congrArg Int32.toInt (zz_i e71)).trans (nzE n73)) ((zz_i e71).trans q73) ((congrArg Int32.toInt (zz_i e72)).trans (nzE n74)) ((zz_i e72).trans q74))
  replace g1 : ((sy_ai F 44).getD ((sy_i F 70).toInt).toNat 0).toInt ≠ 0 := by omega
  have q71 : (sy_ai F 43).getD (sy_i F 69).toNatClampNeg 0 = (sy_ai F 43).getD ((sy_i F 69).toInt).toNat 0 := by simp only [nz_c]
  have n71 : nzI ((sy_ai F 43).getD (sy_i F 69).toNatClampNeg 0) (((sy_ai F 43).getD ((sy_i F 69).toInt).toNat 0).toInt) := congrArg Int32.toInt q71
  have r71 := nz_ba hB (k := 43) (lo := 0) (hi := 260) rfl ((sy_i F 69).toInt).toNat
  have q72 : (sy_ai F 44).getD (sy_i F 70).toNatClampNeg 0 = (sy_ai F 44).getD ((sy_i F 70).toInt).toNat 0 := by simp only [nz_c]
  have n72 : nzI ((sy_ai F 44).getD (sy_i F 70).toNatClampNeg 0) (((sy_ai F 44).getD ((sy_i F 70).toInt).toNat 0).toInt) := congrArg Int32.toInt q72
  have r72 := nz_ba hB (k := 44) (lo := 0) (hi := 1) rfl ((sy_i F 70).toInt).toNat
  have q73 : (sy_ai F 45).getD (sy_i F 70).toNatClampNeg 0 = (sy_ai F 45).getD ((sy_i F 70).toInt).toNat 0 := by simp only [nz_c]
  have n73 : nzI ((sy_ai F 45).getD (sy_i F 70).toNatClampNeg 0) (((sy_ai F 45).getD ((sy_i F 70).toInt).toNat 0).toInt) := congrArg Int32.toInt q73
  have r73 := nz_ba hB (k := 45) (lo := 0) (hi := 840) rfl ((sy_i F 70).toInt).toNat
  have q74 : (sy_ai F 46).getD (sy_i F 70).toNatClampNeg 0 = (sy_ai F 46).getD ((sy_i F 70).toInt).toNat 0 := by simp only [nz_c]
  have n74 : nzI ((sy_ai F 46).getD (sy_i F 70).toNatClampNeg 0) (((sy_ai F 46).getD ((sy_i F 70).toInt).toNat 0).toInt) := congrArg Int32.toInt q74
  have r74 := nz_ba hB (k := 46) (lo := 0) (hi := 840) rfl ((sy_i F 70).toInt).toNat
  exact ylt_12_p2 hd F X1 X2 hB (by first | exact ⟨by omega, by omega⟩ | (simp only [nz_c]; exact ⟨by omega, by omega⟩)) (by first | exact g0 | (simp only [nz_c]; exact g0) | (rw [(nzE n71)]; exact g0)) (by first | exact ⟨by omega, by omega⟩ | (simp only [nz_c]; exact ⟨by omega, by omega⟩)) (by first | exact g1 | (simp only [nz_c]; exact g1) | (rw [(nzE n72)]; exact g1)) (by first | exact ⟨by omega, by omega⟩ | (simp only [nz_c]; exact ⟨by omega, by omega⟩)) (by first | exact ⟨by omega, by omega⟩ | (simp only [nz_c]; exact ⟨by omega, by omega⟩)) (fun F1 g e69 e70 e71 e72 => k2 g0 g1 F1 (nz_in hB [] (fun j hj hn => g j hj (by simp only [List.mem_cons, List.not_mem_nil, or_false, not_or] at hn; exact trivial)) (List.forall_mem_nil _)) (fun j hj hn => g j hj (by simp only [List.mem_cons, List.not_mem_nil, or_false, not_or] at hn; exact trivial)) ((congrArg Int32.toInt (zz_i e69)).trans (rfl : (sy_i F 69).toInt = (sy_i F 69).toInt)) ((zz_i e69).trans (rfl : sy_i F 69 = sy_i F 69)) ((congrArg Int32.toInt (zz_i e70)).trans (rfl : (sy_i F 70).toInt = (sy_i F 70).toInt)) ((zz_i e70).trans (rfl : sy_i F 70 = sy_i F 70)) ((congrArg Int32.toInt (zz_i e71)).trans (nzE n73)) ((zz_i e71).trans q73) ((congrArg Int32.toInt (zz_i e72)).trans (nzE n74)) ((zz_i e72).trans q74))
theorem ylt_47_p0 {Ls : Nat} {xs : Nat → Int32} {d : Nat} {Q : Option Value → jm_h → Prop} (hd : 1 ≤ d) (F : Nat → sy_d) (X1 X2 : List jm_c) (hB : iv_in F iv_B4)
    (h0 : 0 ≤ (sy_i F 70).toInt ∧ (sy_i F 70).toInt < 260)
    (h1 : 0 ≤ (sy_i F 70).toInt ∧ (sy_i F 70).toInt < 260)
    (k : ∀ F1 : Nat → sy_d, (∀ j, j < 69 → True → F1 j = F j) → F1 69 = .inl (.int (sy_i F 69)) → F1 70 = .inl (.int (sy_i F 70)) → F1 71 = .inl (.int (sy_i F 71)) → F1 72 = .inl (.int ((sy_ai F 46).getD (sy_i F 70).toNatClampNeg 0)) → F1 73 = .inl (.int ((sy_ai F 47).getD (sy_i F 70).toNatClampNeg 0)) → hd_W Ls xs d jm_M180 Q (61, sy_dL F1 [some (.inl (.ref 1000)), some (.inr (.inl 69)), some (.inr (.inl 70)), some (.inr (.inl 71)), none], sy_dS F1 [.inr (.inl 73), .inr (.inl 72), .inl (.ref 1000)], sy_dh F1 X1 X2 (iv_H 4), 0, 0)) :
    hd_W Ls xs d jm_M180 Q (47, sy_dL F [some (.inl (.ref 1000)), some (.inr (.inl 69)), some (.inr (.inl 70)), none, none], sy_dS F [.inr (.inl 71)], sy_dh F X1 X2 (iv_H 4), 0, 0) := by
  refine hd_run (s := 4) (nv := 72) (pc := 61) (L := [some (.inl (.ref 1000)), some (.inr (.inl 69)), some (.inr (.inl 70)), some (.inr (.inl 71)), none]) (S := [.inr (.inl 73), .inr (.inl 72), .inl (.ref 1000)]) (uh := hd_ov (iv_id 0 iv_B4) []) (ul := [.inl (.inr (.inl 69)), .inl (.inr (.inl 70)), .inl (.inr (.inl 71)), .inl (.inr (.inl 72)), .inl (.inr (.inl 73))]) (f := false) (sp := [61]) (d0 := 0) (O := []) (T := [(30, [.inr (.inl 70)], [.inr (.inl 46)]), (30, [.inr (.inl 70)], [.inr (.inl 47)])]) (P := [(6, .inr (.inl 70), .inl (.ref 260)), (6, .inr (.inl 70), .inl (.ref 260))]) jm_ok180 (by decide +kernel) (by decide +kernel) hd F X1 X2 (fun F' hF hs => ?_)
  have b70 := hd_b (F := F) (F' := F') (k := 70) (hF 70 (by decide))
  have b69 := hd_b (F := F) (F' := F') (k := 69) (hF 69 (by decide))
  have b71 := hd_b (F := F) (F' := F') (k := 71) (hF 71 (by decide))
  have a46 := hd_ba (F := F) (F' := F') (k := 46) (hF 46 (by decide))
  have t72 : sy_dv F' (.inr (.inl 72)) = .int ((sy_ai F 46).getD (sy_i F 70).toNatClampNeg 0) := hd_rd (hs 0 _ rfl) b70 a46
  have a47 := hd_ba (F := F) (F' := F') (k := 47) (hF 47 (by decide))
  have t73 : sy_dv F' (.inr (.inl 73)) = .int ((sy_ai F 47).getD (sy_i F 70).toNatClampNeg 0) := hd_rd (hs 1 _ rfl) b70 a47
  have hB' : iv_in F' iv_B4 := iv_in_eq hB (fun j hj => hF j (Nat.lt_of_lt_of_le hj (by decide +kernel)))
  refine ⟨List.forall_mem_cons.mpr ⟨hd_pb b70 (by first | exact h0 | exact h0), List.forall_mem_cons.mpr ⟨hd_pb b70 (by first | exact h1 | exact h1), fun _ h => absurd h List.not_mem_nil⟩⟩, ?_⟩
  refine k _ ?_ ?_ ?_ ?_ ?_ ?_
  · exact fun j hj _ => (hd_keep hB' (Nat.lt_of_lt_of_le hj (by decide +kernel)) (by simp)).trans (hF j (by omega))
  · exact hd_gi (x := .inr (.inl 69)) (by decide +kernel) b69
  · exact hd_gi (x := .inr (.inl 70)) (by decide +kernel) b70
  · exact hd_gi (x := .inr (.inl 71)) (by decide +kernel) b71
  · exact hd_gi (x := .inr (.inl 72)) (by decide +kernel) t72
  · exact hd_gi (x := .inr (.inl 73)) (by decide +kernel) t73
theorem ylt_47 {Ls : Nat} {xs : Nat → Int32} {d : Nat} {Q : Option Value → jm_h → Prop} (hd : 1 ≤ d) (F : Nat → sy_d) (X1 X2 : List jm_c) (hB : iv_in F iv_B4)
    (a70 : 0 ≤ (sy_i F 70).toInt ∧ (sy_i F 70).toInt ≤ 259)
    (k0 : ∀ F1 : Nat → sy_d, iv_in F1 iv_B4 → (∀ j, j < 69 → j ∉ ([] : List Nat) → F1 j = F j) → (sy_i F1 69).toInt = (sy_i F 69).toInt → sy_i F1 69 = sy_i F 69 → (sy_i F1 70).toInt = (sy_i F 70).toInt → sy_i F1 70 = sy_i F 70 → (sy_i F1 71).toInt = (sy_i F 71).toInt → sy_i F1 71 = sy_i F 71 → (sy_i F1 72).toInt = ((sy_ai F 46).getD ((sy_i F 70).toInt).toNat 0).toInt → sy_i F1 72 = (sy_ai F 46).getD ((sy_i F 70).toInt).toNat 0 → (sy_i F1 73).toInt = ((sy_ai F 47).getD ((sy_i F 70).toInt).toNat 0).toInt → sy_i F1 73 = (sy_ai F 47).getD ((sy_i F 70).toInt).toNat 0 → hd_W Ls xs d jm_M180 Q (61, sy_dL F1 [some (.inl (.ref 1000)), some (.inr (.inl 69)), some (.inr (.inl 70)), some (.inr (.inl 71)), none], sy_dS F1 [.inr (.inl 73), .inr (.inl 72), .inl (.ref 1000)], sy_dh F1 X1 X2 (iv_H 4), 0, 0)) :
    hd_W Ls xs d jm_M180 Q (47, sy_dL F [some (.inl (.ref 1000)), some (.inr (.inl 69)), some (.inr (.inl 70)), none, none], sy_dS F [.inr (.inl 71)], sy_dh F X1 X2 (iv_H 4), 0, 0) := by
  have q72 : (sy_ai F 46).getD (sy_i F 70).toNatClampNeg 0 = (sy_ai F 46).getD ((sy_i F 70).toInt).toNat 0 := by simp only [nz_c]
  have n72 : nzI ((sy_ai F 46).getD (sy_i F 70).toNatClampNeg 0) (((sy_ai F 46).getD ((sy_i F 70).toInt).toNat 0).toInt) := congrArg Int32.toInt q72
  have r72 := nz_ba hB (k := 46) (lo := 0) (hi := 840) rfl ((sy_i F 70).toInt).toNat
  have q73 : (sy_ai F 47).getD (sy_i F 70).toNatClampNeg 0 = (sy_ai F 47).getD ((sy_i F 70).toInt).toNat 0 := by simp only [nz_c]
  have n73 : nzI ((sy_ai F 47).getD (sy_i F 70).toNatClampNeg 0) (((sy_ai F 47).getD ((sy_i F 70).toInt).toNat 0).toInt) := congrArg Int32.toInt q73
  have r73 := nz_ba hB (k := 47) (lo := 0) (hi := 840) rfl ((sy_i F 70).toInt).toNat
  exact ylt_47_p0 hd F X1 X2 hB (by first | exact ⟨by omega, by omega⟩ | (simp only [nz_c]; exact ⟨by omega, by omega⟩)) (by first | exact ⟨by omega, by omega⟩ | (simp only [nz_c]; exact ⟨by omega, by omega⟩)) (fun F1 g e69 e70 e71 e72 e73 => k0 F1 (nz_in hB [] (fun j hj hn => g j hj (by simp only [List.mem_cons, List.not_mem_nil, or_false, not_or] at hn; exact trivial)) (List.forall_mem_nil _)) (fun j hj hn => g j hj (by simp only [List.mem_cons, List.not_mem_nil, or_false, not_or] at hn; exact trivial)) ((congrArg Int32.toInt (zz_i e69)).trans (rfl : (sy_i F 69).toInt = (sy_i F 69).toInt)) ((zz_i e69).trans (rfl : sy_i F 69 = sy_i F 69)) ((congrArg Int32.toInt (zz_i e70)).trans (rfl : (sy_i F 70).toInt = (sy_i F 70).toInt)) ((zz_i e70).trans (rfl : sy_i F 70 = sy_i F 70)) ((congrArg Int32.toInt (zz_i e71)).trans (rfl : (sy_i F 71).toInt = (sy_i F 71).toInt)) ((zz_i e71).trans (rfl : sy_i F 71 = sy_i F 71)) ((congrArg Int32.toInt (zz_i e72)).trans (nzE n72)) ((zz_i e72).trans q72) ((congrArg Int32.toInt (zz_i e73)).trans (nzE n73)) ((zz_i e73).trans q73))
theorem ylt_64_p0 {Ls : Nat} {xs : Nat → Int32} {d : Nat} {Q : Option Value → jm_h → Prop} (hd : 1 ≤ d) (F : Nat → sy_d) (X1 X2 : List jm_c) (hB : iv_in F iv_B4)
    (h0 : (sy_i F 17).toInt = 0)
    (h1 : (sy_i F 71).toInt < (sy_i F 72).toInt)
    (h2 : 0 ≤ (sy_i F 70).toInt ∧ (sy_i F 70).toInt < 260)
    (h3 : 0 ≤ (sy_i F 70).toInt ∧ (sy_i F 70).toInt < 260)
    (k : ∀ F1 : Nat → sy_d, (∀ j, j < 69 → True → F1 j = F j) → F1 69 = .inl (.int (sy_i F 69)) → F1 70 = .inl (.int (sy_i F 70)) → F1 71 = .inl (.int ((sy_ai F 47).getD (sy_i F 70).toNatClampNeg 0)) → F1 72 = .inl (.int ((sy_ai F 48).getD (sy_i F 70).toNatClampNeg 0)) → hd_W Ls xs d jm_M180 Q (97, sy_dL F1 [some (.inl (.ref 1000)), some (.inr (.inl 69)), some (.inr (.inl 70)), none, none], sy_dS F1 [.inr (.inl 72), .inr (.inl 71), .inl (.ref 1000)], sy_dh F1 X1 X2 (iv_H 4), 0, 0)) :
    hd_W Ls xs d jm_M180 Q (64, sy_dL F [some (.inl (.ref 1000)), some (.inr (.inl 69)), some (.inr (.inl 70)), some (.inr (.inl 71)), none], sy_dS F [.inr (.inl 72)], sy_dh F X1 X2 (iv_H 4), 0, 0) := by
  refine hd_run (s := 4) (nv := 73) (pc := 97) (L := [some (.inl (.ref 1000)), some (.inr (.inl 69)), some (.inr (.inl 70)), none, none]) (S := [.inr (.inl 72), .inr (.inl 71), .inl (.ref 1000)]) (uh := hd_ov (iv_id 0 iv_B4) []) (ul := [.inl (.inr (.inl 69)), .inl (.inr (.inl 70)), .inl (.inr (.inl 73)), .inl (.inr (.inl 74))]) (f := false) (sp := [12, 97]) (d0 := 0) (O := [true, true]) (T := [(30, [.inr (.inl 70)], [.inr (.inl 47)]), (30, [.inr (.inl 70)], [.inr (.inl 48)])]) (P := [(0, .inr (.inl 17), .inl (.int 0)), (2, .inr (.inl 71), .inr (.inl 72)), (6, .inr (.inl 70), .inl (.ref 260)), (6, .inr (.inl 70), .inl (.ref 260))]) jm_ok180 (by decide +kernel) (by decide +kernel) hd F X1 X2 (fun F' hF hs => ?_)
  have b17 := hd_b (F := F) (F' := F') (k := 17) (hF 17 (by decide))
  have b71 := hd_b (F := F) (F' := F') (k := 71) (hF 71 (by decide))
  have b72 := hd_b (F := F) (F' := F') (k := 72) (hF 72 (by decide))
  have b70 := hd_b (F := F) (F' := F') (k := 70) (hF 70 (by decide))
  have b69 := hd_b (F := F) (F' := F') (k := 69) (hF 69 (by decide))
  have a47 := hd_ba (F := F) (F' := F') (k := 47) (hF 47 (by decide))
  have t73 : sy_dv F' (.inr (.inl 73)) = .int ((sy_ai F 47).getD (sy_i F 70).toNatClampNeg 0) := hd_rd (hs 0 _ rfl) b70 a47
  have a48 := hd_ba (F := F) (F' := F') (k := 48) (hF 48 (by decide))
  have t74 : sy_dv F' (.inr (.inl 74)) = .int ((sy_ai F 48).getD (sy_i F 70).toNatClampNeg 0) := hd_rd (hs 1 _ rfl) b70 a48
  have hB' : iv_in F' iv_B4 := iv_in_eq hB (fun j hj => hF j (Nat.lt_of_lt_of_le hj (by decide +kernel)))
  refine ⟨List.forall_mem_cons.mpr ⟨hd_p0 b17 rfl (by have hc : ((0) : Int32).toInt = 0 := (by decide); omega), List.forall_mem_cons.mpr ⟨hd_p2 b71 b72 h1, List.forall_mem_cons.mpr ⟨hd_pb b70 (by first | exact h2 | exact h2), List.forall_mem_cons.mpr ⟨hd_pb b70 (by first | exact h3 | exact h3), fun _ h => absurd h List.not_mem_nil⟩⟩⟩⟩, ?_⟩
  refine k _ ?_ ?_ ?_ ?_ ?_
  · exact fun j hj _ => (hd_keep hB' (Nat.lt_of_lt_of_le hj (by decide +kernel)) (by simp)).trans (hF j (by omega))
  · exact hd_gi (x := .inr (.inl 69)) (by decide +kernel) b69
  · exact hd_gi (x := .inr (.inl 70)) (by decide +kernel) b70
  · exact hd_gi (x := .inr (.inl 73)) (by decide +kernel) t73
  · exact hd_gi (x := .inr (.inl 74)) (by decide +kernel) t74
theorem ylt_64_p1 {Ls : Nat} {xs : Nat → Int32} {d : Nat} {Q : Option Value → jm_h → Prop} (hd : 1 ≤ d) (F : Nat → sy_d) (X1 X2 : List jm_c) (hB : iv_in F iv_B4)
    (h0 : (sy_i F 17).toInt = 0)
    (h1 : (sy_i F 72).toInt ≤ (sy_i F 71).toInt)
    (k : ∀ F1 : Nat → sy_d, (∀ j, j < 69 → True → F1 j = F j) → F1 69 = .inl (.int (sy_i F 69)) → F1 70 = .inl (.int ((sy_i F 70) + ((1 : Int32)))) → hd_W Ls xs d jm_M180 Q (12, sy_dL F1 [some (.inl (.ref 1000)), some (.inr (.inl 69)), some (.inr (.inl 70)), none, none], sy_dS F1 [], sy_dh F1 X1 X2 (iv_H 4), 0, 0)) :
    hd_W Ls xs d jm_M180 Q (64, sy_dL F [some (.inl (.ref 1000)), some (.inr (.inl 69)), some (.inr (.inl 70)), some (.inr (.inl 71)), none], sy_dS F [.inr (.inl 72)], sy_dh F X1 X2 (iv_H 4), 0, 0) := by
  refine hd_run (s := 4) (nv := 73) (pc := 12) (L := [some (.inl (.ref 1000)), some (.inr (.inl 69)), some (.inr (.inl 70)), none, none]) (S := []) (uh := hd_ov (iv_id 0 iv_B4) []) (ul := [.inl (.inr (.inl 69)), .inl (.inr (.inl 73))]) (f := false) (sp := [12, 97]) (d0 := 0) (O := [true, false]) (T := [(0, [.inr (.inl 70), .inl (.int 1)], [])]) (P := [(0, .inr (.inl 17), .inl (.int 0)), (3, .inr (.inl 71), .inr (.inl 72))]) jm_ok180 (by decide +kernel) (by decide +kernel) hd F X1 X2 (fun F' hF hs => ?_)
  have b17 := hd_b (F := F) (F' := F') (k := 17) (hF 17 (by decide))
  have b71 := hd_b (F := F) (F' := F') (k := 71) (hF 71 (by decide))
  have b72 := hd_b (F := F) (F' := F') (k := 72) (hF 72 (by decide))
  have b69 := hd_b (F := F) (F' := F') (k := 69) (hF 69 (by decide))
  have b70 := hd_b (F := F) (F' := F') (k := 70) (hF 70 (by decide))
  have t73 : sy_dv F' (.inr (.inl 73)) = .int ((sy_i F 70) + ((1 : Int32))) := hd_o (hs 0 _ rfl) b70 rfl rfl
  have hB' : iv_in F' iv_B4 := iv_in_eq hB (fun j hj => hF j (Nat.lt_of_lt_of_le hj (by decide +kernel)))
  refine ⟨List.forall_mem_cons.mpr ⟨hd_p0 b17 rfl (by have hc : ((0) : Int32).toInt = 0 := (by decide); omega), List.forall_mem_cons.mpr ⟨hd_p3 b71 b72 h1, fun _ h => absurd h List.not_mem_nil⟩⟩, ?_⟩
  refine k _ ?_ ?_ ?_
  · exact fun j hj _ => (hd_keep hB' (Nat.lt_of_lt_of_le hj (by decide +kernel)) (by simp)).trans (hF j (by omega))
  · exact hd_gi (x := .inr (.inl 69)) (by decide +kernel) b69
  · exact hd_gi (x := .inr (.inl 73)) (by decide +kernel) t73
theorem ylt_64_p2 {Ls : Nat} {xs : Nat → Int32} {d : Nat} {Q : Option Value → jm_h → Prop} (hd : 1 ≤ d) (F : Nat → sy_d) (X1 X2 : List jm_c) (hB : iv_in F iv_B4)
    (h0 : (sy_i F 17).toInt ≠ 0)
    (k : ∀ F1 : Nat → sy_d, (∀ j, j < 69 → True → F1 j = F j) → Q (some (.int ((0 : Int32)))) (sy_dh F1 X1 X2 (iv_H 4))) :
    hd_W Ls xs d jm_M180 Q (64, sy_dL F [some (.inl (.ref 1000)), some (.inr (.inl 69)), some (.inr (.inl 70)), some (.inr (.inl 71)), none], sy_dS F [.inr (.inl 72)], sy_dh F X1 X2 (iv_H 4), 0, 0) := by
  refine hd_ret (s := 4) (nv := 73) (v := some (.inl (.int 0))) (uh := hd_ov (iv_id 0 iv_B4) []) (f := false) (sp := [12, 97]) (d0 := 0) (O := [false]) (T := []) (P := [(1, .inr (.inl 17), .inl (.int 0))]) jm_ok180 (by decide +kernel) (by decide +kernel) hd F X1 X2 (fun F' hF hs => ?_)
  have b17 := hd_b (F := F) (F' := F') (k := 17) (hF 17 (by decide))
  have hB' : iv_in F' iv_B4 := iv_in_eq hB (fun j hj => hF j (Nat.lt_of_lt_of_le hj (by decide +kernel)))
  refine ⟨List.forall_mem_cons.mpr ⟨hd_p1 b17 rfl (by have hc : ((0) : Int32).toInt = 0 := (by decide); omega), fun _ h => absurd h List.not_mem_nil⟩, ?_⟩
  refine k _ ?_
  · exact fun j hj _ => (hd_keep hB' (Nat.lt_of_lt_of_le hj (by decide +kernel)) (by simp)).trans (hF j (by omega))
theorem ylt_64 {Ls : Nat} {xs : Nat → Int32} {d : Nat} {Q : Option Value → jm_h → Prop} (hd : 1 ≤ d) (F : Nat → sy_d) (X1 X2 : List jm_c) (hB : iv_in F iv_B4)
    (a70 : 0 ≤ (sy_i F 70).toInt ∧ (sy_i F 70).toInt ≤ 259)
    (k0 : (sy_i F 17).toInt = 0 → (sy_i F 71).toInt < (sy_i F 72).toInt → ∀ F1 : Nat → sy_d, iv_in F1 iv_B4 → (∀ j, j < 69 → j ∉ ([] : List Nat) → F1 j = F j) → (sy_i F1 69).toInt = (sy_i F 69).toInt → sy_i F1 69 = sy_i F 69 → (sy_i F1 70).toInt = (sy_i F 70).toInt → sy_i F1 70 = sy_i F 70 → (sy_i F1 71).toInt = ((sy_ai F 47).getD ((sy_i F 70).toInt).toNat 0).toInt → sy_i F1 71 = (sy_ai F 47).getD ((sy_i F 70).toInt).toNat 0 → (sy_i F1 72).toInt = ((sy_ai F 48).getD ((sy_i F 70).toInt).toNat 0).toInt → sy_i F1 72 = (sy_ai F 48).getD ((sy_i F 70).toInt).toNat 0 → hd_W Ls xs d jm_M180 Q (97, sy_dL F1 [some (.inl (.ref 1000)), some (.inr (.inl 69)), some (.inr (.inl 70)), none, none], sy_dS F1 [.inr (.inl 72), .inr (.inl 71), .inl (.ref 1000)], sy_dh F1 X1 X2 (iv_H 4), 0, 0))
    (k1 : (sy_i F 17).toInt = 0 → (sy_i F 72).toInt ≤ (sy_i F 71).toInt → ∀ F1 : Nat → sy_d, iv_in F1 iv_B4 → (∀ j, j < 69 → j ∉ ([] : List Nat) → F1 j = F j) → (sy_i F1 69).toInt = (sy_i F 69).toInt → sy_i F1 69 = sy_i F 69 → (sy_i F1 70).toInt = ((sy_i F 70).toInt + 1) → sy_i F1 70 = (sy_i F 70) + ((1 : Int32)) → hd_W Ls xs d jm_M180 Q (12, sy_dL F1 [some (.inl (.ref 1000)), some (.inr (.inl 69)), some (.inr (.inl 70)), none, none], sy_dS F1 [], sy_dh F1 X1 X2 (iv_H 4), 0, 0))
    (k2 : (sy_i F 17).toInt ≠ 0 → ∀ F1 : Nat → sy_d, iv_in F1 iv_B4 → (∀ j, j < 69 → j ∉ ([] : List Nat) → F1 j = F j) → Q (some (.int ((0 : Int32)))) (sy_dh F1 X1 X2 (iv_H 4))) :
    hd_W Ls xs d jm_M180 Q (64, sy_dL F [some (.inl (.ref 1000)), some (.inr (.inl 69)), some (.inr (.inl 70)), some (.inr (.inl 71)), none], sy_dS F [.inr (.inl 72)], sy_dh F X1 X2 (iv_H 4), 0, 0) := by
  by_cases g0 : (sy_i F 17).toInt = 0
  · by_cases g1 : (sy_i F 71).toInt < (sy_i F 72).toInt
    · have c17 := nz_bx hB (k := 17) (lo := 0) (hi := 1) rfl
      have q73 : (sy_ai F 47).getD (sy_i F 70).toNatClampNeg 0 = (sy_ai F 47).getD ((sy_i F 70).toInt).toNat 0 := by simp only [nz_c]
      have n73 : nzI ((sy_ai F 47).getD (sy_i F 70).toNatClampNeg 0) (((sy_ai F 47).getD ((sy_i F 70).toInt).toNat 0).toInt) := congrArg Int32.toInt q73
      have r73 := nz_ba hB (k := 47) (lo := 0) (hi := 840) rfl ((sy_i F 70).toInt).toNat
      have q74 : (sy_ai F 48).getD (sy_i F 70).toNatClampNeg 0 = (sy_ai F 48).getD ((sy_i F 70).toInt).toNat 0 := by simp only [nz_c]
      have n74 : nzI ((sy_ai F 48).getD (sy_i F 70).toNatClampNeg 0) (((sy_ai F 48).getD ((sy_i F 70).toInt).toNat 0).toInt) := congrArg Int32.toInt q74
      have r74 := nz_ba hB (k := 48) (lo := 0) (hi := 840) rfl ((sy_i F 70).toInt).toNat
      exact ylt_64_p0 hd F X1 X2 hB (by first | exact g0 | (simp only [nz_c]; exact g0)) (by first | exact g1 | (simp only [nz_c]; exact g1)) (by first | exact ⟨by omega, by omega⟩ | (simp only [nz_c]; exact ⟨by omega, by omega⟩)) (by first | exact ⟨by omega, by omega⟩ | (simp only [nz_c]; exact ⟨by omega, by omega⟩)) (fun F1 g e69 e70 e71 e72 => k0 g0 g1 F1 (nz_in hB [] (fun j hj hn => g j hj (by simp only [List.mem_cons, List.not_mem_nil, or_false, not_or] at hn; exact trivial)) (List.forall_mem_nil _)) (fun j hj hn => g j hj (by simp only [List.mem_cons, List.not_mem_nil, or_false, not_or] at hn; exact trivial)) ((congrArg Int32.toInt (zz_i e69)).trans (rfl : (sy_i F 69).toInt = (sy_i F 69).toInt)) ((zz_i e69).trans (rfl : sy_i F 69 = sy_i F 69)) ((congrArg Int32.toInt (zz_i e70)).trans (rfl : (sy_i F 70).toInt = (sy_i F 70).toInt)) ((zz_i e70).trans (rfl : sy_i F 70 = sy_i F 70)) ((congrArg Int32.toInt (zz_i e71)).trans (nzE n73)) ((zz_i e71).trans q73) ((congrArg Int32.toInt (zz_i e72)).trans (nzE n74)) ((zz_i e72).trans q74))
    replace g1 : (sy_i F 72).toInt ≤ (sy_i F 71).toInt := by omega
    have c17 := nz_bx hB (k := 17) (lo := 0) (hi := 1) rfl
    have n73 : nzI ((sy_i F 70) + ((1 : Int32))) (((sy_i F 70).toInt + 1)) := nz_add (rfl : (sy_i F 70).toInt = (sy_i F 70).toInt) (by decide : ((1 : Int32)).toInt = 1) (by omega) (by omega)
    exact ylt_64_p1 hd F X1 X2 hB (by first | exact g0 | (simp only [nz_c]; exact g0)) (by first | exact g1 | (simp only [nz_c]; exact g1)) (fun F1 g e69 e70 => k1 g0 g1 F1 (nz_in hB [] (fun j hj hn => g j hj (by simp only [List.mem_cons, List.not_mem_nil, or_false, not_or] at hn; exact trivial)) (List.forall_mem_nil _)) (fun j hj hn => g j hj (by simp only [List.mem_cons, List.not_mem_nil, or_false, not_or] at hn; exact trivial)) ((congrArg Int32.toInt (zz_i e69)).trans (rfl : (sy_i F 69).toInt = (sy_i F 69).toInt)) ((zz_i e69).trans (rfl : sy_i F 69 = sy_i F 69)) ((congrArg Int32.toInt (zz_i e70)).trans (nzE n73)) ((zz_i e70).trans (rfl : (sy_i F 70) + ((1 : Int32)) = (sy_i F 70) + ((1 : Int32)))))
  replace g0 : (sy_i F 17).toInt ≠ 0 := by omega
  have c17 := nz_bx hB (k := 17) (lo := 0) (hi := 1) rfl
  exact ylt_64_p2 hd F X1 X2 hB (by first | exact g0 | (simp only [nz_c]; exact g0)) (fun F1 g  => k2 g0 F1 (nz_in hB [] (fun j hj hn => g j hj (by simp only [List.mem_cons, List.not_mem_nil, or_false, not_or] at hn; exact trivial)) (List.forall_mem_nil _)) (fun j hj hn => g j hj (by simp only [List.mem_cons, List.not_mem_nil, or_false, not_or] at hn; exact trivial)) )
theorem ylt_100_p0 {Ls : Nat} {xs : Nat → Int32} {d : Nat} {Q : Option Value → jm_h → Prop} (hd : 1 ≤ d) (F : Nat → sy_d) (X1 X2 : List jm_c) (hB : iv_in F iv_B4)
    (h0 : (sy_i F 17).toInt = 0)
    (k : ∀ F1 : Nat → sy_d, (∀ j, j < 69 → True → F1 j = F j) → Q (some (.int (sy_i F 71))) (sy_dh F1 X1 X2 (iv_H 4))) :
    hd_W Ls xs d jm_M180 Q (100, sy_dL F [some (.inl (.ref 1000)), some (.inr (.inl 69)), some (.inr (.inl 70)), none, none], sy_dS F [.inr (.inl 71)], sy_dh F X1 X2 (iv_H 4), 0, 0) := by
  refine hd_ret (s := 4) (nv := 72) (v := some (.inr (.inl 71))) (uh := hd_ov (iv_id 0 iv_B4) []) (f := false) (sp := []) (d0 := 0) (O := [true]) (T := []) (P := [(0, .inr (.inl 17), .inl (.int 0))]) jm_ok180 (by decide +kernel) (by decide +kernel) hd F X1 X2 (fun F' hF hs => ?_)
  have b17 := hd_b (F := F) (F' := F') (k := 17) (hF 17 (by decide))
  have b71 := hd_b (F := F) (F' := F') (k := 71) (hF 71 (by decide))
  have hB' : iv_in F' iv_B4 := iv_in_eq hB (fun j hj => hF j (Nat.lt_of_lt_of_le hj (by decide +kernel)))
  have hk := k (sy_cm F' (hd_ov (iv_id 0 iv_B4) [] ++ [])) (fun j hj _ => (hd_keep hB' (Nat.lt_of_lt_of_le hj (by decide +kernel)) (by simp)).trans (hF j (by omega)))
  refine ⟨List.forall_mem_cons.mpr ⟨hd_p0 b17 rfl (by have hc : ((0) : Int32).toInt = 0 := (by decide); omega), fun _ h => absurd h List.not_mem_nil⟩, ?_⟩
  show Q (some (sy_dv F' (.inr (.inl 71)))) _
  rw [b71]
  exact hk
theorem ylt_100_p1 {Ls : Nat} {xs : Nat → Int32} {d : Nat} {Q : Option Value → jm_h → Prop} (hd : 1 ≤ d) (F : Nat → sy_d) (X1 X2 : List jm_c) (hB : iv_in F iv_B4)
    (h0 : (sy_i F 17).toInt ≠ 0)
    (k : ∀ F1 : Nat → sy_d, (∀ j, j < 69 → True → F1 j = F j) → Q (some (.int ((0 : Int32)))) (sy_dh F1 X1 X2 (iv_H 4))) :
    hd_W Ls xs d jm_M180 Q (100, sy_dL F [some (.inl (.ref 1000)), some (.inr (.inl 69)), some (.inr (.inl 70)), none, none], sy_dS F [.inr (.inl 71)], sy_dh F X1 X2 (iv_H 4), 0, 0) := by
  refine hd_ret (s := 4) (nv := 72) (v := some (.inl (.int 0))) (uh := hd_ov (iv_id 0 iv_B4) []) (f := false) (sp := []) (d0 := 0) (O := [false]) (T := []) (P := [(1, .inr (.inl 17), .inl (.int 0))]) jm_ok180 (by decide +kernel) (by decide +kernel) hd F X1 X2 (fun F' hF hs => ?_)
  have b17 := hd_b (F := F) (F' := F') (k := 17) (hF 17 (by decide))
  have hB' : iv_in F' iv_B4 := iv_in_eq hB (fun j hj => hF j (Nat.lt_of_lt_of_le hj (by decide +kernel)))
  refine ⟨List.forall_mem_cons.mpr ⟨hd_p1 b17 rfl (by have hc : ((0) : Int32).toInt = 0 := (by decide); omega), fun _ h => absurd h List.not_mem_nil⟩, ?_⟩
  refine k _ ?_
  · exact fun j hj _ => (hd_keep hB' (Nat.lt_of_lt_of_le hj (by decide +kernel)) (by simp)).trans (hF j (by omega))
theorem ylt_100 {Ls : Nat} {xs : Nat → Int32} {d : Nat} {Q : Option Value → jm_h → Prop} (hd : 1 ≤ d) (F : Nat → sy_d) (X1 X2 : List jm_c) (hB : iv_in F iv_B4)
    (k0 : (sy_i F 17).toInt = 0 → ∀ F1 : Nat → sy_d, iv_in F1 iv_B4 → (∀ j, j < 69 → j ∉ ([] : List Nat) → F1 j = F j) → Q (some (.int (sy_i F 71))) (sy_dh F1 X1 X2 (iv_H 4)))
    (k1 : (sy_i F 17).toInt ≠ 0 → ∀ F1 : Nat → sy_d, iv_in F1 iv_B4 → (∀ j, j < 69 → j ∉ ([] : List Nat) → F1 j = F j) → Q (some (.int ((0 : Int32)))) (sy_dh F1 X1 X2 (iv_H 4))) :
    hd_W Ls xs d jm_M180 Q (100, sy_dL F [some (.inl (.ref 1000)), some (.inr (.inl 69)), some (.inr (.inl 70)), none, none], sy_dS F [.inr (.inl 71)], sy_dh F X1 X2 (iv_H 4), 0, 0) := by
  by_cases g0 : (sy_i F 17).toInt = 0
  · have c17 := nz_bx hB (k := 17) (lo := 0) (hi := 1) rfl
    exact ylt_100_p0 hd F X1 X2 hB (by first | exact g0 | (simp only [nz_c]; exact g0)) (fun F1 g  => by rw [(rfl : sy_i F 71 = sy_i F 71)]; exact k0 g0 F1 (nz_in hB [] (fun j hj hn => g j hj (by simp only [List.mem_cons, List.not_mem_nil, or_false, not_or] at hn; exact trivial)) (List.forall_mem_nil _)) (fun j hj hn => g j hj (by simp only [List.mem_cons, List.not_mem_nil, or_false, not_or] at hn; exact trivial)) )
  replace g0 : (sy_i F 17).toInt ≠ 0 := by omega
  have c17 := nz_bx hB (k := 17) (lo := 0) (hi := 1) rfl
  exact ylt_100_p1 hd F X1 X2 hB (by first | exact g0 | (simp only [nz_c]; exact g0)) (fun F1 g  => k1 g0 F1 (nz_in hB [] (fun j hj hn => g j hj (by simp only [List.mem_cons, List.not_mem_nil, or_false, not_or] at hn; exact trivial)) (List.forall_mem_nil _)) (fun j hj hn => g j hj (by simp only [List.mem_cons, List.not_mem_nil, or_false, not_or] at hn; exact trivial)) )
theorem yak_0_p0 {Ls : Nat} {xs : Nat → Int32} {d : Nat} {Q : Option Value → jm_h → Prop} (hd : 2 ≤ d) (F : Nat → sy_d) (X1 X2 : List jm_c) (hB : iv_in F iv_B4)
    (h0 : 0 ≤ ((((6 : Int32)) * (sy_i F 11)) + (sy_i F 69)).toInt ∧ ((((6 : Int32)) * (sy_i F 11)) + (sy_i F 69)).toInt < 12)
    (h1 : 0 ≤ ((((6 : Int32)) * (sy_i F 11)) + (sy_i F 69)).toInt ∧ ((((6 : Int32)) * (sy_i F 11)) + (sy_i F 69)).toInt < 12)
    (h2 : ((sy_ai F 43).getD ((((6 : Int32)) * (sy_i F 11)) + (sy_i F 69)).toNatClampNeg 0).toInt ≤ ((sy_ai F 42).getD ((((6 : Int32)) * (sy_i F 11)) + (sy_i F 69)).toNatClampNeg 0).toInt)
    (h3 : (sy_i F 71).toInt ≤ (sy_i F 70).toInt)
    (h4 : (sy_i F 70).toInt ≤ (sy_i F 72).toInt)
    (k : ∀ F1 : Nat → sy_d, (∀ j, j < 69 → True → F1 j = F j) → Q (some (.int (sy_i F 70))) (sy_dh F1 X1 X2 (iv_H 4))) :
    hd_W Ls xs d jm_M179 Q (0, sy_dL F [some (.inl (.ref 1000)), some (.inr (.inl 69)), some (.inr (.inl 70)), some (.inr (.inl 71)), some (.inr (.inl 72)), none, none], sy_dS F [], sy_dh F X1 X2 (iv_H 4), 0, 0) := by
  refine hd_ret (s := 4) (nv := 73) (v := some (.inr (.inl 70))) (uh := hd_ov (iv_id 0 iv_B4) []) (f := true) (sp := [34]) (d0 := 1) (O := [true, true, true]) (T := [(2, [.inl (.int 6), .inr (.inl 11)], []), (0, [.inr (.inl 73), .inr (.inl 69)], []), (30, [.inr (.inl 74)], [.inr (.inl 42)]), (30, [.inr (.inl 74)], [.inr (.inl 43)])]) (P := [(6, .inr (.inl 74), .inl (.ref 12)), (6, .inr (.inl 74), .inl (.ref 12)), (4, .inr (.inl 76), .inr (.inl 75)), (4, .inr (.inl 71), .inr (.inl 70)), (4, .inr (.inl 70), .inr (.inl 72))]) jm_ok179 (by decide +kernel) (by decide +kernel) hd F X1 X2 (fun F' hF hs => ?_)
  have b11 := hd_b (F := F) (F' := F') (k := 11) (hF 11 (by decide))
  have t73 : sy_dv F' (.inr (.inl 73)) = .int (((6 : Int32)) * (sy_i F 11)) := hd_o (hs 0 _ rfl) rfl b11 rfl
  have b69 := hd_b (F := F) (F' := F') (k := 69) (hF 69 (by decide))
  have t74 : sy_dv F' (.inr (.inl 74)) = .int ((((6 : Int32)) * (sy_i F 11)) + (sy_i F 69)) := hd_o (hs 1 _ rfl) t73 b69 rfl
  have a43 := hd_ba (F := F) (F' := F') (k := 43) (hF 43 (by decide))
  have t76 : sy_dv F' (.inr (.inl 76)) = .int ((sy_ai F 43).getD ((((6 : Int32)) * (sy_i F 11)) + (sy_i F 69)).toNatClampNeg 0) := hd_rd (hs 3 _ rfl) t74 a43
  have a42 := hd_ba (F := F) (F' := F') (k := 42) (hF 42 (by decide))
  have t75 : sy_dv F' (.inr (.inl 75)) = .int ((sy_ai F 42).getD ((((6 : Int32)) * (sy_i F 11)) + (sy_i F 69)).toNatClampNeg 0) := hd_rd (hs 2 _ rfl) t74 a42
  have b71 := hd_b (F := F) (F' := F') (k := 71) (hF 71 (by decide))
  have b70 := hd_b (F := F) (F' := F') (k := 70) (hF 70 (by decide))
  have b72 := hd_b (F := F) (F' := F') (k := 72) (hF 72 (by decide))
  have hB' : iv_in F' iv_B4 := iv_in_eq hB (fun j hj => hF j (Nat.lt_of_lt_of_le hj (by decide +kernel)))
  have hk := k (sy_cm F' (hd_ov (iv_id 0 iv_B4) [] ++ [])) (fun j hj _ => (hd_keep hB' (Nat.lt_of_lt_of_le hj (by decide +kernel)) (by simp)).trans (hF j (by omega)))
  refine ⟨List.forall_mem_cons.mpr ⟨hd_pb t74 (by first | exact h0 | exact h0), List.forall_mem_cons.mpr ⟨hd_pb t74 (by first | exact h1 | exact h1), List.forall_mem_cons.mpr ⟨hd_p4 t76 t75 h2, List.forall_mem_cons.mpr ⟨hd_p4 b71 b70 h3, List.forall_mem_cons.mpr ⟨hd_p4 b70 b72 h4, fun _ h => absurd h List.not_mem_nil⟩⟩⟩⟩⟩, ?_⟩
  show Q (some (sy_dv F' (.inr (.inl 70)))) _
  rw [b70]
  exact hk
theorem yak_0_p1 {Ls : Nat} {xs : Nat → Int32} {d : Nat} {Q : Option Value → jm_h → Prop} (hd : 2 ≤ d) (F : Nat → sy_d) (X1 X2 : List jm_c) (hB : iv_in F iv_B4)
    (h0 : 0 ≤ ((((6 : Int32)) * (sy_i F 11)) + (sy_i F 69)).toInt ∧ ((((6 : Int32)) * (sy_i F 11)) + (sy_i F 69)).toInt < 12)
    (h1 : 0 ≤ ((((6 : Int32)) * (sy_i F 11)) + (sy_i F 69)).toInt ∧ ((((6 : Int32)) * (sy_i F 11)) + (sy_i F 69)).toInt < 12)
    (h2 : ((sy_ai F 43).getD ((((6 : Int32)) * (sy_i F 11)) + (sy_i F 69)).toNatClampNeg 0).toInt ≤ ((sy_ai F 42).getD ((((6 : Int32)) * (sy_i F 11)) + (sy_i F 69)).toNatClampNeg 0).toInt)
    (h3 : (sy_i F 71).toInt ≤ (sy_i F 70).toInt)
    (h4 : (sy_i F 72).toInt < (sy_i F 70).toInt)
    (k : ∀ F1 : Nat → sy_d, (∀ j, j < 69 → True → F1 j = F j) → Q (some (.int (sy_i F 72))) (sy_dh F1 X1 X2 (iv_H 4))) :
    hd_W Ls xs d jm_M179 Q (0, sy_dL F [some (.inl (.ref 1000)), some (.inr (.inl 69)), some (.inr (.inl 70)), some (.inr (.inl 71)), some (.inr (.inl 72)), none, none], sy_dS F [], sy_dh F X1 X2 (iv_H 4), 0, 0) := by
  refine hd_ret (s := 4) (nv := 73) (v := some (.inr (.inl 72))) (uh := hd_ov (iv_id 0 iv_B4) []) (f := true) (sp := [34]) (d0 := 1) (O := [true, true, false]) (T := [(2, [.inl (.int 6), .inr (.inl 11)], []), (0, [.inr (.inl 73), .inr (.inl 69)], []), (30, [.inr (.inl 74)], [.inr (.inl 42)]), (30, [.inr (.inl 74)], [.inr (.inl 43)])]) (P := [(6, .inr (.inl 74), .inl (.ref 12)), (6, .inr (.inl 74), .inl (.ref 12)), (4, .inr (.inl 76), .inr (.inl 75)), (4, .inr (.inl 71), .inr (.inl 70)), (5, .inr (.inl 70), .inr (.inl 72))]) jm_ok179 (by decide +kernel) (by decide +kernel) hd F X1 X2 (fun F' hF hs => ?_)
  have b11 := hd_b (F := F) (F' := F') (k := 11) (hF 11 (by decide))
  have t73 : sy_dv F' (.inr (.inl 73)) = .int (((6 : Int32)) * (sy_i F 11)) := hd_o (hs 0 _ rfl) rfl b11 rfl
  have b69 := hd_b (F := F) (F' := F') (k := 69) (hF 69 (by decide))
  have t74 : sy_dv F' (.inr (.inl 74)) = .int ((((6 : Int32)) * (sy_i F 11)) + (sy_i F 69)) := hd_o (hs 1 _ rfl) t73 b69 rfl
  have a43 := hd_ba (F := F) (F' := F') (k := 43) (hF 43 (by decide))
  have t76 : sy_dv F' (.inr (.inl 76)) = .int ((sy_ai F 43).getD ((((6 : Int32)) * (sy_i F 11)) + (sy_i F 69)).toNatClampNeg 0) := hd_rd (hs 3 _ rfl) t74 a43
  have a42 := hd_ba (F := F) (F' := F') (k := 42) (hF 42 (by decide))
  have t75 : sy_dv F' (.inr (.inl 75)) = .int ((sy_ai F 42).getD ((((6 : Int32)) * (sy_i F 11)) + (sy_i F 69)).toNatClampNeg 0) := hd_rd (hs 2 _ rfl) t74 a42
  have b71 := hd_b (F := F) (F' := F') (k := 71) (hF 71 (by decide))
  have b70 := hd_b (F := F) (F' := F') (k := 70) (hF 70 (by decide))
  have b72 := hd_b (F := F) (F' := F') (k := 72) (hF 72 (by decide))
  have hB' : iv_in F' iv_B4 := iv_in_eq hB (fun j hj => hF j (Nat.lt_of_lt_of_le hj (by decide +kernel)))
  have hk := k (sy_cm F' (hd_ov (iv_id 0 iv_B4) [] ++ [])) (fun j hj _ => (hd_keep hB' (Nat.lt_of_lt_of_le hj (by decide +kernel)) (by simp)).trans (hF j (by omega)))
  refine ⟨List.forall_mem_cons.mpr ⟨hd_pb t74 (by first | exact h0 | exact h0), List.forall_mem_cons.mpr ⟨hd_pb t74 (by first | exact h1 | exact h1), List.forall_mem_cons.mpr ⟨hd_p4 t76 t75 h2, List.forall_mem_cons.mpr ⟨hd_p4 b71 b70 h3, List.forall_mem_cons.mpr ⟨hd_p5 b70 b72 h4, fun _ h => absurd h List.not_mem_nil⟩⟩⟩⟩⟩, ?_⟩
  show Q (some (sy_dv F' (.inr (.inl 72)))) _
  rw [b72]
  exact hk
theorem yak_0_p2 {Ls : Nat} {xs : Nat → Int32} {d : Nat} {Q : Option Value → jm_h → Prop} (hd : 2 ≤ d) (F : Nat → sy_d) (X1 X2 : List jm_c) (hB : iv_in F iv_B4)
    (h0 : 0 ≤ ((((6 : Int32)) * (sy_i F 11)) + (sy_i F 69)).toInt ∧ ((((6 : Int32)) * (sy_i F 11)) + (sy_i F 69)).toInt < 12)
    (h1 : 0 ≤ ((((6 : Int32)) * (sy_i F 11)) + (sy_i F 69)).toInt ∧ ((((6 : Int32)) * (sy_i F 11)) + (sy_i F 69)).toInt < 12)
    (h2 : ((sy_ai F 43).getD ((((6 : Int32)) * (sy_i F 11)) + (sy_i F 69)).toNatClampNeg 0).toInt ≤ ((sy_ai F 42).getD ((((6 : Int32)) * (sy_i F 11)) + (sy_i F 69)).toNatClampNeg 0).toInt)
    (h3 : (sy_i F 70).toInt < (sy_i F 71).toInt)
    (k : ∀ F1 : Nat → sy_d, (∀ j, j < 69 → True → F1 j = F j) → Q (some (.int (sy_i F 71))) (sy_dh F1 X1 X2 (iv_H 4))) :
    hd_W Ls xs d jm_M179 Q (0, sy_dL F [some (.inl (.ref 1000)), some (.inr (.inl 69)), some (.inr (.inl 70)), some (.inr (.inl 71)), some (.inr (.inl 72)), none, none], sy_dS F [], sy_dh F X1 X2 (iv_H 4), 0, 0) := by
  refine hd_ret (s := 4) (nv := 73) (v := some (.inr (.inl 71))) (uh := hd_ov (iv_id 0 iv_B4) []) (f := true) (sp := [34]) (d0 := 1) (O := [true, false]) (T := [(2, [.inl (.int 6), .inr (.inl 11)], []), (0, [.inr (.inl 73), .inr (.inl 69)], []), (30, [.inr (.inl 74)], [.inr (.inl 42)]), (30, [.inr (.inl 74)], [.inr (.inl 43)])]) (P := [(6, .inr (.inl 74), .inl (.ref 12)), (6, .inr (.inl 74), .inl (.ref 12)), (4, .inr (.inl 76), .inr (.inl 75)), (5, .inr (.inl 71), .inr (.inl 70))]) jm_ok179 (by decide +kernel) (by decide +kernel) hd F X1 X2 (fun F' hF hs => ?_)
  have b11 := hd_b (F := F) (F' := F') (k := 11) (hF 11 (by decide))
  have t73 : sy_dv F' (.inr (.inl 73)) = .int (((6 : Int32)) * (sy_i F 11)) := hd_o (hs 0 _ rfl) rfl b11 rfl
  have b69 := hd_b (F := F) (F' := F') (k := 69) (hF 69 (by decide))
  have t74 : sy_dv F' (.inr (.inl 74)) = .int ((((6 : Int32)) * (sy_i F 11)) + (sy_i F 69)) := hd_o (hs 1 _ rfl) t73 b69 rfl
  have a43 := hd_ba (F := F) (F' := F') (k := 43) (hF 43 (by decide))
  have t76 : sy_dv F' (.inr (.inl 76)) = .int ((sy_ai F 43).getD ((((6 : Int32)) * (sy_i F 11)) + (sy_i F 69)).toNatClampNeg 0) := hd_rd (hs 3 _ rfl) t74 a43
  have a42 := hd_ba (F := F) (F' := F') (k := 42) (hF 42 (by decide))
  have t75 : sy_dv F' (.inr (.inl 75)) = .int ((sy_ai F 42).getD ((((6 : Int32)) * (sy_i F 11)) + (sy_i F 69)).toNatClampNeg 0) := hd_rd (hs 2 _ rfl) t74 a42
  have b71 := hd_b (F := F) (F' := F') (k := 71) (hF 71 (by decide))
  have b70 := hd_b (F := F) (F' := F') (k := 70) (hF 70 (by decide))
  have hB' : iv_in F' iv_B4 := iv_in_eq hB (fun j hj => hF j (Nat.lt_of_lt_of_le hj (by decide +kernel)))
  have hk := k (sy_cm F' (hd_ov (iv_id 0 iv_B4) [] ++ [])) (fun j hj _ => (hd_keep hB' (Nat.lt_of_lt_of_le hj (by decide +kernel)) (by simp)).trans (hF j (by omega)))
  refine ⟨List.forall_mem_cons.mpr ⟨hd_pb t74 (by first | exact h0 | exact h0), List.forall_mem_cons.mpr ⟨hd_pb t74 (by first | exact h1 | exact h1), List.forall_mem_cons.mpr ⟨hd_p4 t76 t75 h2, List.forall_mem_cons.mpr ⟨hd_p5 b71 b70 h3, fun _ h => absurd h List.not_mem_nil⟩⟩⟩⟩, ?_⟩
  show Q (some (sy_dv F' (.inr (.inl 71)))) _
  rw [b71]
  exact hk
theorem yak_0_p3 {Ls : Nat} {xs : Nat → Int32} {d : Nat} {Q : Option Value → jm_h → Prop} (hd : 2 ≤ d) (F : Nat → sy_d) (X1 X2 : List jm_c) (hB : iv_in F iv_B4)
    (h0 : 0 ≤ ((((6 : Int32)) * (sy_i F 11)) + (sy_i F 69)).toInt ∧ ((((6 : Int32)) * (sy_i F 11)) + (sy_i F 69)).toInt < 12)
    (h1 : 0 ≤ ((((6 : Int32)) * (sy_i F 11)) + (sy_i F 69)).toInt ∧ ((((6 : Int32)) * (sy_i F 11)) + (sy_i F 69)).toInt < 12)
    (h2 : ((sy_ai F 42).getD ((((6 : Int32)) * (sy_i F 11)) + (sy_i F 69)).toNatClampNeg 0).toInt < ((sy_ai F 43).getD ((((6 : Int32)) * (sy_i F 11)) + (sy_i F 69)).toNatClampNeg 0).toInt)
    (k : ∀ F1 : Nat → sy_d, (∀ j, j < 69 → True → F1 j = F j) → F1 69 = .inl (.int (sy_i F 71)) → F1 70 = .inl (.int (sy_i F 72)) → F1 71 = .inl (.int ((((6 : Int32)) * (sy_i F 11)) + (sy_i F 69))) → hd_W Ls xs d jm_M179 Q (34, sy_dL F1 [some (.inl (.ref 1000)), none, none, some (.inr (.inl 69)), some (.inr (.inl 70)), none, none], sy_dS F1 [.inr (.inl 71), .inl (.ref 1000)], sy_dh F1 X1 X2 (iv_H 4), 0, 0)) :
    hd_W Ls xs d jm_M179 Q (0, sy_dL F [some (.inl (.ref 1000)), some (.inr (.inl 69)), some (.inr (.inl 70)), some (.inr (.inl 71)), some (.inr (.inl 72)), none, none], sy_dS F [], sy_dh F X1 X2 (iv_H 4), 0, 0) := by
  refine hd_run (s := 4) (nv := 73) (pc := 34) (L := [some (.inl (.ref 1000)), none, none, some (.inr (.inl 69)), some (.inr (.inl 70)), none, none]) (S := [.inr (.inl 71), .inl (.ref 1000)]) (uh := hd_ov (iv_id 0 iv_B4) []) (ul := [.inl (.inr (.inl 71)), .inl (.inr (.inl 72)), .inl (.inr (.inl 74))]) (f := true) (sp := [34]) (d0 := 1) (O := [false]) (T := [(2, [.inl (.int 6), .inr (.inl 11)], []), (0, [.inr (.inl 73), .inr (.inl 69)], []), (30, [.inr (.inl 74)], [.inr (.inl 42)]), (30, [.inr (.inl 74)], [.inr (.inl 43)])]) (P := [(6, .inr (.inl 74), .inl (.ref 12)), (6, .inr (.inl 74), .inl (.ref 12)), (5, .inr (.inl 76), .inr (.inl 75))]) jm_ok179 (by decide +kernel) (by decide +kernel) hd F X1 X2 (fun F' hF hs => ?_)
  have b11 := hd_b (F := F) (F' := F') (k := 11) (hF 11 (by decide))
  have t73 : sy_dv F' (.inr (.inl 73)) = .int (((6 : Int32)) * (sy_i F 11)) := hd_o (hs 0 _ rfl) rfl b11 rfl
  have b69 := hd_b (F := F) (F' := F') (k := 69) (hF 69 (by decide))
  have t74 : sy_dv F' (.inr (.inl 74)) = .int ((((6 : Int32)) * (sy_i F 11)) + (sy_i F 69)) := hd_o (hs 1 _ rfl) t73 b69 rfl
  have a43 := hd_ba (F := F) (F' := F') (k := 43) (hF 43 (by decide))
  have t76 : sy_dv F' (.inr (.inl 76)) = .int ((sy_ai F 43).getD ((((6 : Int32)) * (sy_i F 11)) + (sy_i F 69)).toNatClampNeg 0) := hd_rd (hs 3 _ rfl) t74 a43
  have a42 := hd_ba (F := F) (F' := F') (k := 42) (hF 42 (by decide))
  have t75 : sy_dv F' (.inr (.inl 75)) = .int ((sy_ai F 42).getD ((((6 : Int32)) * (sy_i F 11)) + (sy_i F 69)).toNatClampNeg 0) := hd_rd (hs 2 _ rfl) t74 a42
  have b71 := hd_b (F := F) (F' := F') (k := 71) (hF 71 (by decide))
  have b72 := hd_b (F := F) (F' := F') (k := 72) (hF 72 (by decide))
  have hB' : iv_in F' iv_B4 := iv_in_eq hB (fun j hj => hF j (Nat.lt_of_lt_of_le hj (by decide +kernel)))
  refine ⟨List.forall_mem_cons.mpr ⟨hd_pb t74 (by first | exact h0 | exact h0), List.forall_mem_cons.mpr ⟨hd_pb t74 (by first | exact h1 | exact h1), List.forall_mem_cons.mpr ⟨hd_p5 t76 t75 h2, fun _ h => absurd h List.not_mem_nil⟩⟩⟩, ?_⟩
  refine k _ ?_ ?_ ?_ ?_
  · exact fun j hj _ => (hd_keep hB' (Nat.lt_of_lt_of_le hj (by decide +kernel)) (by simp)).trans (hF j (by omega))
  · exact hd_gi (x := .inr (.inl 71)) (by decide +kernel) b71
  · exact hd_gi (x := .inr (.inl 72)) (by decide +kernel) b72
  · exact hd_gi (x := .inr (.inl 74)) (by decide +kernel) t74
theorem yak_0 {Ls : Nat} {xs : Nat → Int32} {d : Nat} {Q : Option Value → jm_h → Prop} (hd : 2 ≤ d) (F : Nat → sy_d) (X1 X2 : List jm_c) (hB : iv_in F iv_B4)
    (a69 : 0 ≤ (sy_i F 69).toInt ∧ (sy_i F 69).toInt ≤ 5)
    (k0 : ((sy_ai F 43).getD (((6 * (sy_i F 11).toInt) + (sy_i F 69).toInt)).toNat 0).toInt ≤ ((sy_ai F 42).getD (((6 * (sy_i F 11).toInt) + (sy_i F 69).toInt)).toNat 0).toInt → (sy_i F 71).toInt ≤ (sy_i F 70).toInt → (sy_i F 70).toInt ≤ (sy_i F 72).toInt → ∀ F1 : Nat → sy_d, iv_in F1 iv_B4 → (∀ j, j < 69 → j ∉ ([] : List Nat) → F1 j = F j) → Q (some (.int (sy_i F 70))) (sy_dh F1 X1 X2 (iv_H 4)))
    (k1 : ((sy_ai F 43).getD (((6 * (sy_i F 11).toInt) + (sy_i F 69).toInt)).toNat 0).toInt ≤ ((sy_ai F 42).getD (((6 * (sy_i F 11).toInt) + (sy_i F 69).toInt)).toNat 0).toInt → (sy_i F 71).toInt ≤ (sy_i F 70).toInt → (sy_i F 72).toInt < (sy_i F 70).toInt → ∀ F1 : Nat → sy_d, iv_in F1 iv_B4 → (∀ j, j < 69 → j ∉ ([] : List Nat) → F1 j = F j) → Q (some (.int (sy_i F 72))) (sy_dh F1 X1 X2 (iv_H 4)))
    (k2 : ((sy_ai F 43).getD (((6 * (sy_i F 11).toInt) + (sy_i F 69).toInt)).toNat 0).toInt ≤ ((sy_ai F 42).getD (((6 * (sy_i F 11).toInt) + (sy_i F 69).toInt)).toNat 0).toInt → (sy_i F 70).toInt < (sy_i F 71).toInt → ∀ F1 : Nat → sy_d, iv_in F1 iv_B4 → (∀ j, j < 69 → j ∉ ([] : List Nat) → F1 j = F j) → Q (some (.int (sy_i F 71))) (sy_dh F1 X1 X2 (iv_H 4)))
    (k3 : ((sy_ai F 42).getD (((6 * (sy_i F 11).toInt) + (sy_i F 69).toInt)).toNat 0).toInt < ((sy_ai F 43).getD (((6 * (sy_i F 11).toInt) + (sy_i F 69).toInt)).toNat 0).toInt → ∀ F1 : Nat → sy_d, iv_in F1 iv_B4 → (∀ j, j < 69 → j ∉ ([] : List Nat) → F1 j = F j) → (sy_i F1 69).toInt = (sy_i F 71).toInt → sy_i F1 69 = sy_i F 71 → (sy_i F1 70).toInt = (sy_i F 72).toInt → sy_i F1 70 = sy_i F 72 → (sy_i F1 71).toInt = ((6 * (sy_i F 11).toInt) + (sy_i F 69).toInt) → sy_i F1 71 = (((6 : Int32)) * (sy_i F 11)) + (sy_i F 69) → hd_W Ls xs d jm_M179 Q (34, sy_dL F1 [some (.inl (.ref 1000)), none, none, some (.inr (.inl 69)), some (.inr (.inl 70)), none, none], sy_dS F1 [.inr (.inl 71), .inl (.ref 1000)], sy_dh F1 X1 X2 (iv_H 4), 0, 0)) :
    hd_W Ls xs d jm_M179 Q (0, sy_dL F [some (.inl (.ref 1000)), some (.inr (.inl 69)), some (.inr (.inl 70)), some (.inr (.inl 71)), some (.inr (.inl 72)), none, none], sy_dS F [], sy_dh F X1 X2 (iv_H 4), 0, 0) := by
  by_cases g0 : ((sy_ai F 43).getD (((6 * (sy_i F 11).toInt) + (sy_i F 69).toInt)).toNat 0).toInt ≤ ((sy_ai F 42).getD (((6 * (sy_i F 11).toInt) + (sy_i F 69).toInt)).toNat 0).toInt
  · by_cases g1 : (sy_i F 71).toInt ≤ (sy_i F 70).toInt
    · by_cases g2 : (sy_i F 70).toInt ≤ (sy_i F 72).toInt
      · have c11 := nz_bx hB (k := 11) (lo := 0) (hi := 1) rfl
        have n73 : nzI (((6 : Int32)) * (sy_i F 11)) ((6 * (sy_i F 11).toInt)) := nz_mul (by decide : ((6 : Int32)).toInt = 6) (rfl : (sy_i F 11).toInt = (sy_i F 11).toInt) (by omega) (by omega)
        have n74 : nzI ((((6 : Int32)) * (sy_i F 11)) + (sy_i F 69)) (((6 * (sy_i F 11).toInt) + (sy_i F 69).toInt)) := nz_add (nzE n73) (rfl : (sy_i F 69).toInt = (sy_i F 69).toInt) (by omega) (by omega)
        have q76 : (sy_ai F 43).getD ((((6 : Int32)) * (sy_i F 11)) + (sy_i F 69)).toNatClampNeg 0 = (sy_ai F 43).getD (((6 * (sy_i F 11).toInt) + (sy_i F 69).toInt)).toNat 0 := by simp only [nz_c, (nzE n73), (nzE n74), (by decide : ((6 : Int32)).toInt = 6)]
        have n76 : nzI ((sy_ai F 43).getD ((((6 : Int32)) * (sy_i F 11)) + (sy_i F 69)).toNatClampNeg 0) (((sy_ai F 43).getD (((6 * (sy_i F 11).toInt) + (sy_i F 69).toInt)).toNat 0).toInt) := congrArg Int32.toInt q76
        have r76 := nz_ba hB (k := 43) (lo := 0) (hi := 260) rfl (((6 * (sy_i F 11).toInt) + (sy_i F 69).toInt)).toNat
        have q75 : (sy_ai F 42).getD ((((6 : Int32)) * (sy_i F 11)) + (sy_i F 69)).toNatClampNeg 0 = (sy_ai F 42).getD (((6 * (sy_i F 11).toInt) + (sy_i F 69).toInt)).toNat 0 := by simp only [nz_c, (nzE n73), (nzE n74), (by decide : ((6 : Int32)).toInt = 6)]
        have n75 : nzI ((sy_ai F 42).getD ((((6 : Int32)) * (sy_i F 11)) + (sy_i F 69)).toNatClampNeg 0) (((sy_ai F 42).getD (((6 * (sy_i F 11).toInt) + (sy_i F 69).toInt)).toNat 0).toInt) := congrArg Int32.toInt q75
        have r75 := nz_ba hB (k := 42) (lo := 0) (hi := 260) rfl (((6 * (sy_i F 11).toInt) + (sy_i F 69).toInt)).toNat
        exact yak_0_p0 hd F X1 X2 hB (by first | (simp only [nz_c, (nzE n73), (nzE n74)]; exact ⟨by omega, by omega⟩) | exact ⟨by omega, by omega⟩ | (rw [(nzE n74)]; exact ⟨by omega, by omega⟩)) (by first | (simp only [nz_c, (nzE n73), (nzE n74)]; exact ⟨by omega, by omega⟩) | exact ⟨by omega, by omega⟩ | (rw [(nzE n74)]; exact ⟨by omega, by omega⟩)) (by first | (simp only [nz_c, (nzE n73), (nzE n74)]; exact g0) | exact g0 | (rw [(nzE n76)]; exact g0) | (rw [(nzE n75)]; exact g0) | (rw [(nzE n76), (nzE n75)]; exact g0)) (by first | exact g1 | (simp only [nz_c]; exact g1)) (by first | exact g2 | (simp only [nz_c]; exact g2)) (fun F1 g  => by rw [(rfl : sy_i F 70 = sy_i F 70)]; exact k0 g0 g1 g2 F1 (nz_in hB [] (fun j hj hn => g j hj (by simp only [List.mem_cons, List.not_mem_nil, or_false, not_or] at hn; exact trivial)) (List.forall_mem_nil _)) (fun j hj hn => g j hj (by simp only [List.mem_cons, List.not_mem_nil, or_false, not_or] at hn; exact trivial)) )
      replace g2 : (sy_i F 72).toInt < (sy_i F 70).toInt := by omega
      have c11 := nz_bx hB (k := 11) (lo := 0) (hi := 1) rfl
      have n73 : nzI (((6 : Int32)) * (sy_i F 11)) ((6 * (sy_i F 11).toInt)) := nz_mul (by decide : ((6 : Int32)).toInt = 6) (rfl : (sy_i F 11).toInt = (sy_i F 11).toInt) (by omega) (by omega)
      have n74 : nzI ((((6 : Int32)) * (sy_i F 11)) + (sy_i F 69)) (((6 * (sy_i F 11).toInt) + (sy_i F 69).toInt)) := nz_add (nzE n73) (rfl : (sy_i F 69).toInt = (sy_i F 69).toInt) (by omega) (by omega)
      have q76 : (sy_ai F 43).getD ((((6 : Int32)) * (sy_i F 11)) + (sy_i F 69)).toNatClampNeg 0 = (sy_ai F 43).getD (((6 * (sy_i F 11).toInt) + (sy_i F 69).toInt)).toNat 0 := by simp only [nz_c, (nzE n73), (nzE n74), (by decide : ((6 : Int32)).toInt = 6)]
      have n76 : nzI ((sy_ai F 43).getD ((((6 : Int32)) * (sy_i F 11)) + (sy_i F 69)).toNatClampNeg 0) (((sy_ai F 43).getD (((6 * (sy_i F 11).toInt) + (sy_i F 69).toInt)).toNat 0).toInt) := congrArg Int32.toInt q76
      have r76 := nz_ba hB (k := 43) (lo := 0) (hi := 260) rfl (((6 * (sy_i F 11).toInt) + (sy_i F 69).toInt)).toNat
      have q75 : (sy_ai F 42).getD ((((6 : Int32)) * (sy_i F 11)) + (sy_i F 69)).toNatClampNeg 0 = (sy_ai F 42).getD (((6 * (sy_i F 11).toInt) + (sy_i F 69).toInt)).toNat 0 := by simp only [nz_c, (nzE n73), (nzE n74), (by decide : ((6 : Int32)).toInt = 6)]
      have n75 : nzI ((sy_ai F 42).getD ((((6 : Int32)) * (sy_i F 11)) + (sy_i F 69)).toNatClampNeg 0) (((sy_ai F 42).getD (((6 * (sy_i F 11).toInt) + (sy_i F 69).toInt)).toNat 0).toInt) := congrArg Int32.toInt q75
      have r75 := nz_ba hB (k := 42) (lo := 0) (hi := 260) rfl (((6 * (sy_i F 11).toInt) + (sy_i F 69).toInt)).toNat
      exact yak_0_p1 hd F X1 X2 hB (by first | (simp only [nz_c, (nzE n73), (nzE n74)]; exact ⟨by omega, by omega⟩) | exact ⟨by omega, by omega⟩ | (rw [(nzE n74)]; exact ⟨by omega, by omega⟩)) (by first | (simp only [nz_c, (nzE n73), (nzE n74)]; exact ⟨by omega, by omega⟩) | exact ⟨by omega, by omega⟩ | (rw [(nzE n74)]; exact ⟨by omega, by omega⟩)) (by first | (simp only [nz_c, (nzE n73), (nzE n74)]; exact g0) | exact g0 | (rw [(nzE n76)]; exact g0) | (rw [(nzE n75)]; exact g0) | (rw [(nzE n76), (nzE n75)]; exact g0)) (by first | exact g1 | (simp only [nz_c]; exact g1)) (by first | exact g2 | (simp only [nz_c]; exact g2)) (fun F1 g  => by rw [(rfl : sy_i F 72 = sy_i F 72)]; exact k1 g0 g1 g2 F1 (nz_in hB [] (fun j hj hn => g j hj (by simp only [List.mem_cons, List.not_mem_nil, or_false, not_or] at hn; exact trivial)) (List.forall_mem_nil _)) (fun j hj hn => g j hj (by simp only [List.mem_cons, List.not_mem_nil, or_false, not_or] at hn; exact trivial)) )
    replace g1 : (sy_i F 70).toInt < (sy_i F 71).toInt := by omega
    have c11 := nz_bx hB (k := 11) (lo := 0) (hi := 1) rfl
    have n73 : nzI (((6 : Int32)) * (sy_i F 11)) ((6 * (sy_i F 11).toInt)) := nz_mul (by decide : ((6 : Int32)).toInt = 6) (rfl : (sy_i F 11).toInt = (sy_i F 11).toInt) (by omega) (by omega)
    have n74 : nzI ((((6 : Int32)) * (sy_i F 11)) + (sy_i F 69)) (((6 * (sy_i F 11).toInt) + (sy_i F 69).toInt)) := nz_add (nzE n73) (rfl : (sy_i F 69).toInt = (sy_i F 69).toInt) (by omega) (by omega)
    have q76 : (sy_ai F 43).getD ((((6 : Int32)) * (sy_i F 11)) + (sy_i F 69)).toNatClampNeg 0 = (sy_ai F 43).getD (((6 * (sy_i F 11).toInt) + (sy_i F 69).toInt)).toNat 0 := by simp only [nz_c, (nzE n73), (nzE n74), (by decide : ((6 : Int32)).toInt = 6)]
    have n76 : nzI ((sy_ai F 43).getD ((((6 : Int32)) * (sy_i F 11)) + (sy_i F 69)).toNatClampNeg 0) (((sy_ai F 43).getD (((6 * (sy_i F 11).toInt) + (sy_i F 69).toInt)).toNat 0).toInt) := congrArg Int32.toInt q76
    have r76 := nz_ba hB (k := 43) (lo := 0) (hi := 260) rfl (((6 * (sy_i F 11).toInt) + (sy_i F 69).toInt)).toNat
    have q75 : (sy_ai F 42).getD ((((6 : Int32)) * (sy_i F 11)) + (sy_i F 69)).toNatClampNeg 0 = (sy_ai F 42).getD (((6 * (sy_i F 11).toInt) + (sy_i F 69).toInt)).toNat 0 := by simp only [nz_c, (nzE n73), (nzE n74), (by decide : ((6 : Int32)).toInt = 6)]
    have n75 : nzI ((sy_ai F 42).getD ((((6 : Int32)) * (sy_i F 11)) + (sy_i F 69)).toNatClampNeg 0) (((sy_ai F 42).getD (((6 * (sy_i F 11).toInt) + (sy_i F 69).toInt)).toNat 0).toInt) := congrArg Int32.toInt q75
    have r75 := nz_ba hB (k := 42) (lo := 0) (hi := 260) rfl (((6 * (sy_i F 11).toInt) + (sy_i F 69).toInt)).toNat
    exact yak_0_p2 hd F X1 X2 hB (by first | (simp only [nz_c, (nzE n73), (nzE n74)]; exact ⟨by omega, by omega⟩) | exact ⟨by omega, by omega⟩ | (rw [(nzE n74)]; exact ⟨by omega, by omega⟩)) (by first | (simp only [nz_c, (nzE n73), (nzE n74)]; exact ⟨by omega, by omega⟩) | exact ⟨by omega, by omega⟩ | (rw [(nzE n74)]; exact ⟨by omega, by omega⟩)) (by first | (simp only [nz_c, (nzE n73), (nzE n74)]; exact g0) | exact g0 | (rw [(nzE n76)]; exact g0) | (rw [(nzE n75)]; exact g0) | (rw [(nzE n76), (nzE n75)]; exact g0)) (by first | exact g1 | (simp only [nz_c]; exact g1)) (fun F1 g  => by rw [(rfl : sy_i F 71 = sy_i F 71)]; exact k2 g0 g1 F1 (nz_in hB [] (fun j hj hn => g j hj (by simp only [List.mem_cons, List.not_mem_nil, or_false, not_or] at hn; exact trivial)) (List.forall_mem_nil _)) (fun j hj hn => g j hj (by simp only [List.mem_cons, List.not_mem_nil, or_false, not_or] at hn; exact trivial)) )
  replace g0 : ((sy_ai F 42).getD (((6 * (sy_i F 11).toInt) + (sy_i F 69).toInt)).toNat 0).toInt < ((sy_ai F 43).getD (((6 * (sy_i F 11).toInt) + (sy_i F 69).toInt)).toNat 0).toInt := by omega
  have c11 := nz_bx hB (k := 11) (lo := 0) (hi := 1) rfl
  have n73 : nzI (((6 : Int32)) * (sy_i F 11)) ((6 * (sy_i F 11).toInt)) := nz_mul (by decide : ((6 : Int32)).toInt = 6) (rfl : (sy_i F 11).toInt = (sy_i F 11).toInt) (by omega) (by omega)
  have n74 : nzI ((((6 : Int32)) * (sy_i F 11)) + (sy_i F 69)) (((6 * (sy_i F 11).toInt) + (sy_i F 69).toInt)) := nz_add (nzE n73) (rfl : (sy_i F 69).toInt = (sy_i F 69).toInt) (by omega) (by omega)
  have q76 : (sy_ai F 43).getD ((((6 : Int32)) * (sy_i F 11)) + (sy_i F 69)).toNatClampNeg 0 = (sy_ai F 43).getD (((6 * (sy_i F 11).toInt) + (sy_i F 69).toInt)).toNat 0 := by simp only [nz_c, (nzE n73), (nzE n74), (by decide : ((6 : Int32)).toInt = 6)]
  have n76 : nzI ((sy_ai F 43).getD ((((6 : Int32)) * (sy_i F 11)) + (sy_i F 69)).toNatClampNeg 0) (((sy_ai F 43).getD (((6 * (sy_i F 11).toInt) + (sy_i F 69).toInt)).toNat 0).toInt) := congrArg Int32.toInt q76
  have r76 := nz_ba hB (k := 43) (lo := 0) (hi := 260) rfl (((6 * (sy_i F 11).toInt) + (sy_i F 69).toInt)).toNat
  have q75 : (sy_ai F 42).getD ((((6 : Int32)) * (sy_i F 11)) + (sy_i F 69)).toNatClampNeg 0 = (sy_ai F 42).getD (((6 * (sy_i F 11).toInt) + (sy_i F 69).toInt)).toNat 0 := by simp only [nz_c, (nzE n73), (nzE n74), (by decide : ((6 : Int32)).toInt = 6)]
  have n75 : nzI ((sy_ai F 42).getD ((((6 : Int32)) * (sy_i F 11)) + (sy_i F 69)).toNatClampNeg 0) (((sy_ai F 42).getD (((6 * (sy_i F 11).toInt) + (sy_i F 69).toInt)).toNat 0).toInt) := congrArg Int32.toInt q75
  have r75 := nz_ba hB (k := 42) (lo := 0) (hi := 260) rfl (((6 * (sy_i F 11).toInt) + (sy_i F 69).toInt)).toNat
  exact yak_0_p3 hd F X1 X2 hB (by first | (simp only [nz_c, (nzE n73), (nzE n74)]; exact ⟨by omega, by omega⟩) | exact ⟨by omega, by omega⟩ | (rw [(nzE n74)]; exact ⟨by omega, by omega⟩)) (by first | (simp only [nz_c, (nzE n73), (nzE n74)]; exact ⟨by omega, by omega⟩) | exact ⟨by omega, by omega⟩ | (rw [(nzE n74)]; exact ⟨by omega, by omega⟩)) (by first | (simp only [nz_c, (nzE n73), (nzE n74)]; exact g0) | exact g0 | (rw [(nzE n76)]; exact g0) | (rw [(nzE n75)]; exact g0) | (rw [(nzE n76), (nzE n75)]; exact g0)) (fun F1 g e69 e70 e71 => k3 g0 F1 (nz_in hB [] (fun j hj hn => g j hj (by simp only [List.mem_cons, List.not_mem_nil, or_false, not_or] at hn; exact trivial)) (List.forall_mem_nil _)) (fun j hj hn => g j hj (by simp only [List.mem_cons, List.not_mem_nil, or_false, not_or] at hn; exact trivial)) ((congrArg Int32.toInt (zz_i e69)).trans (rfl : (sy_i F 71).toInt = (sy_i F 71).toInt)) ((zz_i e69).trans (rfl : sy_i F 71 = sy_i F 71)) ((congrArg Int32.toInt (zz_i e70)).trans (rfl : (sy_i F 72).toInt = (sy_i F 72).toInt)) ((zz_i e70).trans (rfl : sy_i F 72 = sy_i F 72)) ((congrArg Int32.toInt (zz_i e71)).trans (nzE n74)) ((zz_i e71).trans (rfl : (((6 : Int32)) * (sy_i F 11)) + (sy_i F 69) = (((6 : Int32)) * (sy_i F 11)) + (sy_i F 69))))
theorem yak_37_p0 {Ls : Nat} {xs : Nat → Int32} {d : Nat} {Q : Option Value → jm_h → Prop} (hd : 2 ≤ d) (F : Nat → sy_d) (X1 X2 : List jm_c) (hB : iv_in F iv_B4)
    (h0 : (sy_i F 69).toInt ≤ (sy_i F 71).toInt)
    (h1 : (sy_i F 71).toInt ≤ (sy_i F 70).toInt)
    (k : ∀ F1 : Nat → sy_d, (∀ j, j < 69 → True → F1 j = F j) → Q (some (.int (sy_i F 71))) (sy_dh F1 X1 X2 (iv_H 4))) :
    hd_W Ls xs d jm_M179 Q (37, sy_dL F [some (.inl (.ref 1000)), none, none, some (.inr (.inl 69)), some (.inr (.inl 70)), none, none], sy_dS F [.inr (.inl 71)], sy_dh F X1 X2 (iv_H 4), 0, 0) := by
  refine hd_ret (s := 4) (nv := 72) (v := some (.inr (.inl 71))) (uh := hd_ov (iv_id 0 iv_B4) []) (f := false) (sp := []) (d0 := 1) (O := [true, true]) (T := []) (P := [(4, .inr (.inl 69), .inr (.inl 71)), (4, .inr (.inl 71), .inr (.inl 70))]) jm_ok179 (by decide +kernel) (by decide +kernel) hd F X1 X2 (fun F' hF hs => ?_)
  have b69 := hd_b (F := F) (F' := F') (k := 69) (hF 69 (by decide))
  have b71 := hd_b (F := F) (F' := F') (k := 71) (hF 71 (by decide))
  have b70 := hd_b (F := F) (F' := F') (k := 70) (hF 70 (by decide))
  have hB' : iv_in F' iv_B4 := iv_in_eq hB (fun j hj => hF j (Nat.lt_of_lt_of_le hj (by decide +kernel)))
  have hk := k (sy_cm F' (hd_ov (iv_id 0 iv_B4) [] ++ [])) (fun j hj _ => (hd_keep hB' (Nat.lt_of_lt_of_le hj (by decide +kernel)) (by simp)).trans (hF j (by omega)))
  refine ⟨List.forall_mem_cons.mpr ⟨hd_p4 b69 b71 h0, List.forall_mem_cons.mpr ⟨hd_p4 b71 b70 h1, fun _ h => absurd h List.not_mem_nil⟩⟩, ?_⟩
  show Q (some (sy_dv F' (.inr (.inl 71)))) _
  rw [b71]
  exact hk
theorem yak_37_p1 {Ls : Nat} {xs : Nat → Int32} {d : Nat} {Q : Option Value → jm_h → Prop} (hd : 2 ≤ d) (F : Nat → sy_d) (X1 X2 : List jm_c) (hB : iv_in F iv_B4)
    (h0 : (sy_i F 69).toInt ≤ (sy_i F 71).toInt)
    (h1 : (sy_i F 70).toInt < (sy_i F 71).toInt)
    (k : ∀ F1 : Nat → sy_d, (∀ j, j < 69 → True → F1 j = F j) → Q (some (.int (sy_i F 70))) (sy_dh F1 X1 X2 (iv_H 4))) :
    hd_W Ls xs d jm_M179 Q (37, sy_dL F [some (.inl (.ref 1000)), none, none, some (.inr (.inl 69)), some (.inr (.inl 70)), none, none], sy_dS F [.inr (.inl 71)], sy_dh F X1 X2 (iv_H 4), 0, 0) := by
  refine hd_ret (s := 4) (nv := 72) (v := some (.inr (.inl 70))) (uh := hd_ov (iv_id 0 iv_B4) []) (f := false) (sp := []) (d0 := 1) (O := [true, false]) (T := []) (P := [(4, .inr (.inl 69), .inr (.inl 71)), (5, .inr (.inl 71), .inr (.inl 70))]) jm_ok179 (by decide +kernel) (by decide +kernel) hd F X1 X2 (fun F' hF hs => ?_)
  have b69 := hd_b (F := F) (F' := F') (k := 69) (hF 69 (by decide))
  have b71 := hd_b (F := F) (F' := F') (k := 71) (hF 71 (by decide))
  have b70 := hd_b (F := F) (F' := F') (k := 70) (hF 70 (by decide))
  have hB' : iv_in F' iv_B4 := iv_in_eq hB (fun j hj => hF j (Nat.lt_of_lt_of_le hj (by decide +kernel)))
  have hk := k (sy_cm F' (hd_ov (iv_id 0 iv_B4) [] ++ [])) (fun j hj _ => (hd_keep hB' (Nat.lt_of_lt_of_le hj (by decide +kernel)) (by simp)).trans (hF j (by omega)))
  refine ⟨List.forall_mem_cons.mpr ⟨hd_p4 b69 b71 h0, List.forall_mem_cons.mpr ⟨hd_p5 b71 b70 h1, fun _ h => absurd h List.not_mem_nil⟩⟩, ?_⟩
  show Q (some (sy_dv F' (.inr (.inl 70)))) _
  rw [b70]
  exact hk
theorem yak_37_p2 {Ls : Nat} {xs : Nat → Int32} {d : Nat} {Q : Option Value → jm_h → Prop} (hd : 2 ≤ d) (F : Nat → sy_d) (X1 X2 : List jm_c) (hB : iv_in F iv_B4)
    (h0 : (sy_i F 71).toInt < (sy_i F 69).toInt)
    (k : ∀ F1 : Nat → sy_d, (∀ j, j < 69 → True → F1 j = F j) → Q (some (.int (sy_i F 69))) (sy_dh F1 X1 X2 (iv_H 4))) :
    hd_W Ls xs d jm_M179 Q (37, sy_dL F [some (.inl (.ref 1000)), none, none, some (.inr (.inl 69)), some (.inr (.inl 70)), none, none], sy_dS F [.inr (.inl 71)], sy_dh F X1 X2 (iv_H 4), 0, 0) := by
  refine hd_ret (s := 4) (nv := 72) (v := some (.inr (.inl 69))) (uh := hd_ov (iv_id 0 iv_B4) []) (f := false) (sp := []) (d0 := 1) (O := [false]) (T := []) (P := [(5, .inr (.inl 69), .inr (.inl 71))]) jm_ok179 (by decide +kernel) (by decide +kernel) hd F X1 X2 (fun F' hF hs => ?_)
  have b69 := hd_b (F := F) (F' := F') (k := 69) (hF 69 (by decide))
  have b71 := hd_b (F := F) (F' := F') (k := 71) (hF 71 (by decide))
  have hB' : iv_in F' iv_B4 := iv_in_eq hB (fun j hj => hF j (Nat.lt_of_lt_of_le hj (by decide +kernel)))
  have hk := k (sy_cm F' (hd_ov (iv_id 0 iv_B4) [] ++ [])) (fun j hj _ => (hd_keep hB' (Nat.lt_of_lt_of_le hj (by decide +kernel)) (by simp)).trans (hF j (by omega)))
  refine ⟨List.forall_mem_cons.mpr ⟨hd_p5 b69 b71 h0, fun _ h => absurd h List.not_mem_nil⟩, ?_⟩
  show Q (some (sy_dv F' (.inr (.inl 69)))) _
  rw [b69]
  exact hk
theorem yak_37 {Ls : Nat} {xs : Nat → Int32} {d : Nat} {Q : Option Value → jm_h → Prop} (hd : 2 ≤ d) (F : Nat → sy_d) (X1 X2 : List jm_c) (hB : iv_in F iv_B4)
    (k0 : (sy_i F 69).toInt ≤ (sy_i F 71).toInt → (sy_i F 71).toInt ≤ (sy_i F 70).toInt → ∀ F1 : Nat → sy_d, iv_in F1 iv_B4 → (∀ j, j < 69 → j ∉ ([] : List Nat) → F1 j = F j) → Q (some (.int (sy_i F 71))) (sy_dh F1 X1 X2 (iv_H 4)))
    (k1 : (sy_i F 69).toInt ≤ (sy_i F 71).toInt → (sy_i F 70).toInt < (sy_i F 71).toInt → ∀ F1 : Nat → sy_d, iv_in F1 iv_B4 → (∀ j, j < 69 → j ∉ ([] : List Nat) → F1 j = F j) → Q (some (.int (sy_i F 70))) (sy_dh F1 X1 X2 (iv_H 4)))
    (k2 : (sy_i F 71).toInt < (sy_i F 69).toInt → ∀ F1 : Nat → sy_d, iv_in F1 iv_B4 → (∀ j, j < 69 → j ∉ ([] : List Nat) → F1 j = F j) → Q (some (.int (sy_i F 69))) (sy_dh F1 X1 X2 (iv_H 4))) :
    hd_W Ls xs d jm_M179 Q (37, sy_dL F [some (.inl (.ref 1000)), none, none, some (.inr (.inl 69)), some (.inr (.inl 70)), none, none], sy_dS F [.inr (.inl 71)], sy_dh F X1 X2 (iv_H 4), 0, 0) := by
  by_cases g0 : (sy_i F 69).toInt ≤ (sy_i F 71).toInt
  · by_cases g1 : (sy_i F 71).toInt ≤ (sy_i F 70).toInt
    · exact yak_37_p0 hd F X1 X2 hB (by first | exact g0 | (simp only [nz_c]; exact g0)) (by first | exact g1 | (simp only [nz_c]; exact g1)) (fun F1 g  => by rw [(rfl : sy_i F 71 = sy_i F 71)]; exact k0 g0 g1 F1 (nz_in hB [] (fun j hj hn => g j hj (by simp only [List.mem_cons, List.not_mem_nil, or_false, not_or] at hn; exact trivial)) (List.forall_mem_nil _)) (fun j hj hn => g j hj (by simp only [List.mem_cons, List.not_mem_nil, or_false, not_or] at hn; exact trivial)) )
    replace g1 : (sy_i F 70).toInt < (sy_i F 71).toInt := by omega
    exact yak_37_p1 hd F X1 X2 hB (by first | exact g0 | (simp only [nz_c]; exact g0)) (by first | exact g1 | (simp only [nz_c]; exact g1)) (fun F1 g  => by rw [(rfl : sy_i F 70 = sy_i F 70)]; exact k1 g0 g1 F1 (nz_in hB [] (fun j hj hn => g j hj (by simp only [List.mem_cons, List.not_mem_nil, or_false, not_or] at hn; exact trivial)) (List.forall_mem_nil _)) (fun j hj hn => g j hj (by simp only [List.mem_cons, List.not_mem_nil, or_false, not_or] at hn; exact trivial)) )
  replace g0 : (sy_i F 71).toInt < (sy_i F 69).toInt := by omega
  exact yak_37_p2 hd F X1 X2 hB (by first | exact g0 | (simp only [nz_c]; exact g0)) (fun F1 g  => by rw [(rfl : sy_i F 69 = sy_i F 69)]; exact k2 g0 F1 (nz_in hB [] (fun j hj hn => g j hj (by simp only [List.mem_cons, List.not_mem_nil, or_false, not_or] at hn; exact trivial)) (List.forall_mem_nil _)) (fun j hj hn => g j hj (by simp only [List.mem_cons, List.not_mem_nil, or_false, not_or] at hn; exact trivial)) )
