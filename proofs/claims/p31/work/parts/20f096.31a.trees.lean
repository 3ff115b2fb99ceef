section
/-! ===== the reference: what changes the ground, way by way ===== -/
theorem zrc_0_p0 {Ls : Nat} {xs : Nat → Int32} {d : Nat} {Q : Option Value → jm_h → Prop} (hd : 1 ≤ d) (F : Nat → sy_d) (X1 X2 : List jm_c) (hB : iv_in F iv_B4)
    (h0 : (sy_i F 20).toInt ≠ 40)
    (k : ∀ F1 : Nat → sy_d, (∀ j, j < 69 → True → F1 j = F j) → F1 69 = .inl (.int ((0 : Int32))) → hd_W Ls xs d jm_M200 Q (51, sy_dL F1 [some (.inl (.ref 1000)), some (.inr (.inl 69))], sy_dS F1 [], sy_dh F1 X1 X2 (iv_H 4), 0, 0)) :
    hd_W Ls xs d jm_M200 Q (0, sy_dL F [some (.inl (.ref 1000)), none], sy_dS F [], sy_dh F X1 X2 (iv_H 4), 0, 0) := by
  refine hd_run (s := 4) (nv := 69) (pc := 51) (L := [some (.inl (.ref 1000)), some (.inr (.inl 69))]) (S := []) (uh := hd_ov (iv_id 0 iv_B4) []) (ul := [.inl (.inl (.int 0))]) (f := true) (sp := [11, 51]) (d0 := 0) (O := [true]) (T := []) (P := [(1, .inr (.inl 20), .inl (.int 40))]) jm_ok200 (by decide +kernel) (by decide +kernel) hd F X1 X2 (fun F' hF hs => ?_)
  have b20 := hd_b (F := F) (F' := F') (k := 20) (hF 20 (by decide))
  have hB' : iv_in F' iv_B4 := iv_in_eq hB (fun j hj => hF j (Nat.lt_of_lt_of_le hj (by decide +kernel)))
  refine ⟨List.forall_mem_cons.mpr ⟨hd_p1 b20 rfl (by have hc : ((40) : Int32).toInt = 40 := (by decide); omega), fun _ h => absurd h List.not_mem_nil⟩, ?_⟩
  refine k _ ?_ ?_
  · exact fun j hj _ => (hd_keep hB' (Nat.lt_of_lt_of_le hj (by decide +kernel)) (by simp)).trans (hF j (Nat.lt_of_lt_of_le hj (by decide)))
  · exact hd_gi (x := .inl (.int 0)) (by decide +kernel) rfl
theorem zrc_0_p1 {Ls : Nat} {xs : Nat → Int32} {d : Nat} {Q : Option Value → jm_h → Prop} (hd : 1 ≤ d) (F : Nat → sy_d) (X1 X2 : List jm_c) (hB : iv_in F iv_B4)
    (h0 : (sy_i F 20).toInt = 40)
    (k : ∀ F1 : Nat → sy_d, (∀ j, j < 69 → True → F1 j = F j) → F1 69 = .inl (.int ((0 : Int32))) → hd_W Ls xs d jm_M200 Q (11, sy_dL F1 [some (.inl (.ref 1000)), some (.inr (.inl 69))], sy_dS F1 [], sy_dh F1 X1 X2 (iv_H 4), 0, 0)) :
    hd_W Ls xs d jm_M200 Q (0, sy_dL F [some (.inl (.ref 1000)), none], sy_dS F [], sy_dh F X1 X2 (iv_H 4), 0, 0) := by
  refine hd_run (s := 4) (nv := 69) (pc := 11) (L := [some (.inl (.ref 1000)), some (.inr (.inl 69))]) (S := []) (uh := hd_ov (iv_id 0 iv_B4) []) (ul := [.inl (.inl (.int 0))]) (f := true) (sp := [11, 51]) (d0 := 0) (O := [false]) (T := []) (P := [(0, .inr (.inl 20), .inl (.int 40))]) jm_ok200 (by decide +kernel) (by decide +kernel) hd F X1 X2 (fun F' hF hs => ?_)
  have b20 := hd_b (F := F) (F' := F') (k := 20) (hF 20 (by decide))
  have hB' : iv_in F' iv_B4 := iv_in_eq hB (fun j hj => hF j (Nat.lt_of_lt_of_le hj (by decide +kernel)))
  refine ⟨List.forall_mem_cons.mpr ⟨hd_p0 b20 rfl (by have hc : ((40) : Int32).toInt = 40 := (by decide); omega), fun _ h => absurd h List.not_mem_nil⟩, ?_⟩
  refine k _ ?_ ?_
  · exact fun j hj _ => (hd_keep hB' (Nat.lt_of_lt_of_le hj (by decide +kernel)) (by simp)).trans (hF j (Nat.lt_of_lt_of_le hj (by decide)))
  · exact hd_gi (x := .inl (.int 0)) (by decide +kernel) rfl
theorem zrc_0 {Ls : Nat} {xs : Nat → Int32} {d : Nat} {Q : Option Value → jm_h → Prop} (hd : 1 ≤ d) (F : Nat → sy_d) (X1 X2 : List jm_c) (hB : iv_in F iv_B4)
    (k0 : (sy_i F 20).toInt ≠ 40 → ∀ F1 : Nat → sy_d, iv_in F1 iv_B4 → (∀ j, j < 69 → j ∉ ([] : List Nat) → F1 j = F j) → (sy_i F1 69).toInt = 0 → sy_i F1 69 = (0 : Int32) → hd_W Ls xs d jm_M200 Q (51, sy_dL F1 [some (.inl (.ref 1000)), some (.inr (.inl 69))], sy_dS F1 [], sy_dh F1 X1 X2 (iv_H 4), 0, 0))
    (k1 : (sy_i F 20).toInt = 40 → ∀ F1 : Nat → sy_d, iv_in F1 iv_B4 → (∀ j, j < 69 → j ∉ ([] : List Nat) → F1 j = F j) → (sy_i F1 69).toInt = 0 → sy_i F1 69 = (0 : Int32) → hd_W Ls xs d jm_M200 Q (11, sy_dL F1 [some (.inl (.ref 1000)), some (.inr (.inl 69))], sy_dS F1 [], sy_dh F1 X1 X2 (iv_H 4), 0, 0)) :
    hd_W Ls xs d jm_M200 Q (0, sy_dL F [some (.inl (.ref 1000)), none], sy_dS F [], sy_dh F X1 X2 (iv_H 4), 0, 0) := by
  by_cases g0 : (sy_i F 20).toInt ≠ 40
  · have c20 := nz_bx hB (k := 20) (lo := 0) (hi := 40) rfl
    exact zrc_0_p0 hd F X1 X2 hB (by first | exact g0 | (simp only [nz_c]; exact g0)) (fun F1 g e69 => k0 g0 F1 (nz_in hB [] (fun j hj hn => g j hj (by simp only [List.mem_cons, List.not_mem_nil, or_false, not_or] at hn; exact trivial)) (List.forall_mem_nil _)) (fun j hj hn => g j hj (by simp only [List.mem_cons, List.not_mem_nil, or_false, not_or] at hn; exact trivial)) ((congrArg Int32.toInt (zz_i e69)).trans (by decide : ((0 : Int32)).toInt = 0)) ((zz_i e69).trans (rfl : (0 : Int32) = (0 : Int32))))
  replace g0 : (sy_i F 20).toInt = 40 := by omega
  have c20 := nz_bx hB (k := 20) (lo := 0) (hi := 40) rfl
  exact zrc_0_p1 hd F X1 X2 hB (by first | exact g0 | (simp only [nz_c]; exact g0)) (fun F1 g e69 => k1 g0 F1 (nz_in hB [] (fun j hj hn => g j hj (by simp only [List.mem_cons, List.not_mem_nil, or_false, not_or] at hn; exact trivial)) (List.forall_mem_nil _)) (fun j hj hn => g j hj (by simp only [List.mem_cons, List.not_mem_nil, or_false, not_or] at hn; exact trivial)) ((congrArg Int32.toInt (zz_i e69)).trans (by decide : ((0 : Int32)).toInt = 0)) ((zz_i e69).trans (rfl : (0 : Int32) = (0 : Int32))))
theorem zrc_11_p0 {Ls : Nat} {xs : Nat → Int32} {d : Nat} {Q : Option Value → jm_h → Prop} (hd : 1 ≤ d) (F : Nat → sy_d) (X1 X2 : List jm_c) (hB : iv_in F iv_B4)
    (h0 : 2379 ≤ (sy_i F 69).toInt)
    (k : ∀ F1 : Nat → sy_d, (∀ j, j < 69 → j ≠ 20 → F1 j = F j) → F1 20 = .inl (.int ((sy_i F 20) - ((1 : Int32)))) → F1 69 = .inl (.int ((0 : Int32))) → hd_W Ls xs d jm_M200 Q (51, sy_dL F1 [some (.inl (.ref 1000)), some (.inr (.inl 69))], sy_dS F1 [], sy_dh F1 X1 X2 (iv_H 4), 0, 0)) :
    hd_W Ls xs d jm_M200 Q (11, sy_dL F [some (.inl (.ref 1000)), some (.inr (.inl 69))], sy_dS F [], sy_dh F X1 X2 (iv_H 4), 0, 0) := by
  refine hd_run (s := 4) (nv := 70) (pc := 51) (L := [some (.inl (.ref 1000)), some (.inr (.inl 69))]) (S := []) (uh := hd_ov (iv_id 0 iv_B4) [(20, .inl (.inr (.inl 70)))]) (ul := [.inl (.inl (.int 0))]) (f := true) (sp := [11, 51]) (d0 := 0) (O := [true]) (T := [(1, [.inr (.inl 20), .inl (.int 1)], [])]) (P := [(4, .inl (.int 2379), .inr (.inl 69))]) jm_ok200 (by decide +kernel) (by decide +kernel) hd F X1 X2 (fun F' hF hs => ?_)
  have b69 := hd_b (F := F) (F' := F') (k := 69) (hF 69 (by decide))
  have b20 := hd_b (F := F) (F' := F') (k := 20) (hF 20 (by decide))
  have t70 : sy_dv F' (.inr (.inl 70)) = .int ((sy_i F 20) - ((1 : Int32))) := hd_o (hs 0 _ rfl) b20 rfl rfl
  have hB' : iv_in F' iv_B4 := iv_in_eq hB (fun j hj => hF j (Nat.lt_of_lt_of_le hj (by decide +kernel)))
  refine ⟨List.forall_mem_cons.mpr ⟨hd_p4 rfl b69 (by have hc : ((2379) : Int32).toInt = 2379 := (by decide); omega), fun _ h => absurd h List.not_mem_nil⟩, ?_⟩
  refine k _ ?_ ?_ ?_
  · exact fun j hj hn => (hd_keep hB' (Nat.lt_of_lt_of_le hj (by decide +kernel)) (by simp; omega)).trans (hF j (Nat.lt_of_lt_of_le hj (by decide)))
  · exact hd_gi (x := .inr (.inl 70)) (by decide +kernel) t70
  · exact hd_gi (x := .inl (.int 0)) (by decide +kernel) rfl
theorem zrc_11_p1 {Ls : Nat} {xs : Nat → Int32} {d : Nat} {Q : Option Value → jm_h → Prop} (hd : 1 ≤ d) (F : Nat → sy_d) (X1 X2 : List jm_c) (hB : iv_in F iv_B4)
    (h0 : (sy_i F 69).toInt < 2379)
    (h1 : 0 ≤ ((sy_i F 69) + ((61 : Int32))).toInt ∧ ((sy_i F 69) + ((61 : Int32))).toInt < 2440)
    (h2 : 0 ≤ (sy_i F 69).toInt ∧ (sy_i F 69).toInt < 2440)
    (k : ∀ F1 : Nat → sy_d, (∀ j, j < 69 → j ≠ 60 → F1 j = F j) → F1 60 = .inr (.inl (jm_upd (sy_ai F 60) (sy_i F 69).toNatClampNeg ((sy_ai F 60).getD ((sy_i F 69) + ((61 : Int32))).toNatClampNeg 0))) → F1 69 = .inl (.int ((sy_i F 69) + ((1 : Int32)))) → hd_W Ls xs d jm_M200 Q (11, sy_dL F1 [some (.inl (.ref 1000)), some (.inr (.inl 69))], sy_dS F1 [], sy_dh F1 X1 X2 (iv_H 4), 0, 0)) :
    hd_W Ls xs d jm_M200 Q (11, sy_dL F [some (.inl (.ref 1000)), some (.inr (.inl 69))], sy_dS F [], sy_dh F X1 X2 (iv_H 4), 0, 0) := by
  refine hd_run (s := 4) (nv := 70) (pc := 11) (L := [some (.inl (.ref 1000)), some (.inr (.inl 69))]) (S := []) (uh := hd_ov (iv_id 0 iv_B4) [(60, .inr (.inr (.inl 72)))]) (ul := [.inl (.inr (.inl 73))]) (f := true) (sp := [11, 51]) (d0 := 0) (O := [false]) (T := [(0, [.inr (.inl 69), .inl (.int 61)], []), (30, [.inr (.inl 70)], [.inr (.inl 60)]), (40, [.inr (.inl 69), .inr (.inl 71)], [.inr (.inl 60)]), (0, [.inr (.inl 69), .inl (.int 1)], [])]) (P := [(5, .inl (.int 2379), .inr (.inl 69)), (6, .inr (.inl 70), .inl (.ref 2440)), (6, .inr (.inl 69), .inl (.ref 2440))]) jm_ok200 (by decide +kernel) (by decide +kernel) hd F X1 X2 (fun F' hF hs => ?_)
  have b69 := hd_b (F := F) (F' := F') (k := 69) (hF 69 (by decide))
  have t70 : sy_dv F' (.inr (.inl 70)) = .int ((sy_i F 69) + ((61 : Int32))) := hd_o (hs 0 _ rfl) b69 rfl rfl
  have a60 := hd_ba (F := F) (F' := F') (k := 60) (hF 60 (by decide))
  have t71 : sy_dv F' (.inr (.inl 71)) = .int ((sy_ai F 60).getD ((sy_i F 69) + ((61 : Int32))).toNatClampNeg 0) := hd_rd (hs 1 _ rfl) t70 a60
  have t72 : sy_da F' (.inr (.inl 72)) = .inl (jm_upd (sy_ai F 60) (sy_i F 69).toNatClampNeg ((sy_ai F 60).getD ((sy_i F 69) + ((61 : Int32))).toNatClampNeg 0)) := hd_up (hs 2 _ rfl) b69 t71 a60
  have t73 : sy_dv F' (.inr (.inl 73)) = .int ((sy_i F 69) + ((1 : Int32))) := hd_o (hs 3 _ rfl) b69 rfl rfl
  have hB' : iv_in F' iv_B4 := iv_in_eq hB (fun j hj => hF j (Nat.lt_of_lt_of_le hj (by decide +kernel)))
  refine ⟨List.forall_mem_cons.mpr ⟨hd_p5 rfl b69 (by have hc : ((2379) : Int32).toInt = 2379 := (by decide); omega), List.forall_mem_cons.mpr ⟨hd_pb t70 (by first | exact h1 | exact h1), List.forall_mem_cons.mpr ⟨hd_pb b69 (by first | exact h2 | exact h2), fun _ h => absurd h List.not_mem_nil⟩⟩⟩, ?_⟩
  refine k _ ?_ ?_ ?_
  · exact fun j hj hn => (hd_keep hB' (Nat.lt_of_lt_of_le hj (by decide +kernel)) (by simp; omega)).trans (hF j (Nat.lt_of_lt_of_le hj (by decide)))
  · exact hd_ga (a := .inr (.inl 72)) (by decide +kernel) t72
  · exact hd_gi (x := .inr (.inl 73)) (by decide +kernel) t73
theorem zrc_11 {Ls : Nat} {xs : Nat → Int32} {d : Nat} {Q : Option Value → jm_h → Prop} (hd : 1 ≤ d) (F : Nat → sy_d) (X1 X2 : List jm_c) (hB : iv_in F iv_B4)
    (a69 : 0 ≤ (sy_i F 69).toInt ∧ (sy_i F 69).toInt ≤ 2379)
    (o0 : 2379 ≤ (sy_i F 69).toInt → (0 ≤ ((sy_i F 20).toInt - 1) ∧ ((sy_i F 20).toInt - 1) ≤ 40))
    (k0 : 2379 ≤ (sy_i F 69).toInt → ∀ F1 : Nat → sy_d, iv_in F1 iv_B4 → (∀ j, j < 69 → j ∉ ([20] : List Nat) → F1 j = F j) → (sy_i F1 20).toInt = ((sy_i F 20).toInt - 1) → sy_i F1 20 = (sy_i F 20) - ((1 : Int32)) → (sy_i F1 69).toInt = 0 → sy_i F1 69 = (0 : Int32) → hd_W Ls xs d jm_M200 Q (51, sy_dL F1 [some (.inl (.ref 1000)), some (.inr (.inl 69))], sy_dS F1 [], sy_dh F1 X1 X2 (iv_H 4), 0, 0))
    (k1 : (sy_i F 69).toInt < 2379 → ∀ F1 : Nat → sy_d, iv_in F1 iv_B4 → (∀ j, j < 69 → j ∉ ([60] : List Nat) → F1 j = F j) → sy_ai F1 60 = jm_upd (sy_ai F 60) ((sy_i F 69).toInt).toNat ((sy_ai F 60).getD (((sy_i F 69).toInt + 61)).toNat 0) → (sy_i F1 69).toInt = ((sy_i F 69).toInt + 1) → sy_i F1 69 = (sy_i F 69) + ((1 : Int32)) → hd_W Ls xs d jm_M200 Q (11, sy_dL F1 [some (.inl (.ref 1000)), some (.inr (.inl 69))], sy_dS F1 [], sy_dh F1 X1 X2 (iv_H 4), 0, 0)) :
    hd_W Ls xs d jm_M200 Q (11, sy_dL F [some (.inl (.ref 1000)), some (.inr (.inl 69))], sy_dS F [], sy_dh F X1 X2 (iv_H 4), 0, 0) := by
  by_cases g0 : 2379 ≤ (sy_i F 69).toInt
  · have c20 := nz_bx hB (k := 20) (lo := 0) (hi := 40) rfl
    have n70 : nzI ((sy_i F 20) - ((1 : Int32))) (((sy_i F 20).toInt - 1)) := nz_sub (rfl : (sy_i F 20).toInt = (sy_i F 20).toInt) (by decide : ((1 : Int32)).toInt = 1) (by omega) (by omega)
    exact zrc_11_p0 hd F X1 X2 hB (by first | exact g0 | (simp only [nz_c]; exact g0)) (fun F1 g e20 e69 => k0 g0 F1 (nz_in hB [20] (fun j hj hn => g j hj (by simp only [List.mem_cons, List.not_mem_nil, or_false, not_or] at hn; omega)) (List.forall_mem_cons.mpr ⟨fun t ht => (Option.some.inj ht) ▸ (nz_hi e20 (nzE n70) (o0 g0).1 (o0 g0).2), List.forall_mem_nil _⟩)) (fun j hj hn => g j hj (by simp only [List.mem_cons, List.not_mem_nil, or_false, not_or] at hn; omega)) ((congrArg Int32.toInt (zz_i e20)).trans (nzE n70)) ((zz_i e20).trans (rfl : (sy_i F 20) - ((1 : Int32)) = (sy_i F 20) - ((1 : Int32)))) ((congrArg Int32.toInt (zz_i e69)).trans (by decide : ((0 : Int32)).toInt = 0)) ((zz_i e69).trans (rfl : (0 : Int32) = (0 : Int32))))
  replace g0 : (sy_i F 69).toInt < 2379 := by omega
  have n70 : nzI ((sy_i F 69) + ((61 : Int32))) (((sy_i F 69).toInt + 61)) := nz_add (rfl : (sy_i F 69).toInt = (sy_i F 69).toInt) (by decide : ((61 : Int32)).toInt = 61) (by omega) (by omega)
  have w72 : jm_upd (sy_ai F 60) (sy_i F 69).toNatClampNeg ((sy_ai F 60).getD ((sy_i F 69) + ((61 : Int32))).toNatClampNeg 0) = jm_upd (sy_ai F 60) ((sy_i F 69).toInt).toNat ((sy_ai F 60).getD (((sy_i F 69).toInt + 61)).toNat 0) := by simp only [nz_c, (nzE n70), (by decide : ((61 : Int32)).toInt = 61)]
  have n73 : nzI ((sy_i F 69) + ((1 : Int32))) (((sy_i F 69).toInt + 1)) := nz_add (rfl : (sy_i F 69).toInt = (sy_i F 69).toInt) (by decide : ((1 : Int32)).toInt = 1) (by omega) (by omega)
  exact zrc_11_p1 hd F X1 X2 hB (by first | exact g0 | (simp only [nz_c]; exact g0)) (by first | (simp only [nz_c, (nzE n70)]; exact ⟨by omega, by omega⟩) | exact ⟨by omega, by omega⟩ | (rw [(nzE n70)]; exact ⟨by omega, by omega⟩)) (by first | exact ⟨by omega, by omega⟩ | (simp only [nz_c]; exact ⟨by omega, by omega⟩)) (fun F1 g e60 e69 => k1 g0 F1 (nz_in hB [60] (fun j hj hn => g j hj (by simp only [List.mem_cons, List.not_mem_nil, or_false, not_or] at hn; omega)) (List.forall_mem_cons.mpr ⟨fun t ht => (Option.some.inj ht) ▸ (nz_hz2 e60), List.forall_mem_nil _⟩)) (fun j hj hn => g j hj (by simp only [List.mem_cons, List.not_mem_nil, or_false, not_or] at hn; omega)) ((zz_ai e60).trans w72) ((congrArg Int32.toInt (zz_i e69)).trans (nzE n73)) ((zz_i e69).trans (rfl : (sy_i F 69) + ((1 : Int32)) = (sy_i F 69) + ((1 : Int32)))))
theorem zrc_51_p0 {Ls : Nat} {xs : Nat → Int32} {d : Nat} {Q : Option Value → jm_h → Prop} (hd : 1 ≤ d) (F : Nat → sy_d) (X1 X2 : List jm_c) (hB : iv_in F iv_B4)
    (h0 : 61 ≤ (sy_i F 69).toInt)
    (k : ∀ F1 : Nat → sy_d, (∀ j, j < 69 → j ≠ 20 → F1 j = F j) → F1 20 = .inl (.int ((sy_i F 20) + ((1 : Int32)))) → hd_W Ls xs d jm_M200 Q (94, sy_dL F1 [some (.inl (.ref 1000)), none], sy_dS F1 [.inl (.ref 1000)], sy_dh F1 X1 X2 (iv_H 4), 0, 0)) :
    hd_W Ls xs d jm_M200 Q (51, sy_dL F [some (.inl (.ref 1000)), some (.inr (.inl 69))], sy_dS F [], sy_dh F X1 X2 (iv_H 4), 0, 0) := by
  refine hd_run (s := 4) (nv := 70) (pc := 94) (L := [some (.inl (.ref 1000)), none]) (S := [.inl (.ref 1000)]) (uh := hd_ov (iv_id 0 iv_B4) [(20, .inl (.inr (.inl 70)))]) (ul := []) (f := true) (sp := [51, 94]) (d0 := 0) (O := [true]) (T := [(0, [.inr (.inl 20), .inl (.int 1)], [])]) (P := [(4, .inl (.int 61), .inr (.inl 69))]) jm_ok200 (by decide +kernel) (by decide +kernel) hd F X1 X2 (fun F' hF hs => ?_)
  have b69 := hd_b (F := F) (F' := F') (k := 69) (hF 69 (by decide))
  have b20 := hd_b (F := F) (F' := F') (k := 20) (hF 20 (by decide))
  have t70 : sy_dv F' (.inr (.inl 70)) = .int ((sy_i F 20) + ((1 : Int32))) := hd_o (hs 0 _ rfl) b20 rfl rfl
  have hB' : iv_in F' iv_B4 := iv_in_eq hB (fun j hj => hF j (Nat.lt_of_lt_of_le hj (by decide +kernel)))
  refine ⟨List.forall_mem_cons.mpr ⟨hd_p4 rfl b69 (by have hc : ((61) : Int32).toInt = 61 := (by decide); omega), fun _ h => absurd h List.not_mem_nil⟩, ?_⟩
  refine k _ ?_ ?_
  · exact fun j hj hn => (hd_keep hB' (Nat.lt_of_lt_of_le hj (by decide +kernel)) (by simp; omega)).trans (hF j (Nat.lt_of_lt_of_le hj (by decide)))
  · exact hd_gi (x := .inr (.inl 70)) (by decide +kernel) t70
theorem zrc_51_p1 {Ls : Nat} {xs : Nat → Int32} {d : Nat} {Q : Option Value → jm_h → Prop} (hd : 1 ≤ d) (F : Nat → sy_d) (X1 X2 : List jm_c) (hB : iv_in F iv_B4)
    (h0 : (sy_i F 69).toInt < 61)
    (h1 : 0 ≤ (sy_i F 69).toInt ∧ (sy_i F 69).toInt < 61)
    (h2 : 0 ≤ ((((61 : Int32)) * (sy_i F 20)) + (sy_i F 69)).toInt ∧ ((((61 : Int32)) * (sy_i F 20)) + (sy_i F 69)).toInt < 2440)
    (k : ∀ F1 : Nat → sy_d, (∀ j, j < 69 → j ≠ 60 → F1 j = F j) → F1 60 = .inr (.inl (jm_upd (sy_ai F 60) ((((61 : Int32)) * (sy_i F 20)) + (sy_i F 69)).toNatClampNeg ((sy_ai F 54).getD (sy_i F 69).toNatClampNeg 0))) → F1 69 = .inl (.int ((sy_i F 69) + ((1 : Int32)))) → hd_W Ls xs d jm_M200 Q (51, sy_dL F1 [some (.inl (.ref 1000)), some (.inr (.inl 69))], sy_dS F1 [], sy_dh F1 X1 X2 (iv_H 4), 0, 0)) :
    hd_W Ls xs d jm_M200 Q (51, sy_dL F [some (.inl (.ref 1000)), some (.inr (.inl 69))], sy_dS F [], sy_dh F X1 X2 (iv_H 4), 0, 0) := by
  refine hd_run (s := 4) (nv := 70) (pc := 51) (L := [some (.inl (.ref 1000)), some (.inr (.inl 69))]) (S := []) (uh := hd_ov (iv_id 0 iv_B4) [(60, .inr (.inr (.inl 73)))]) (ul := [.inl (.inr (.inl 74))]) (f := true) (sp := [51, 94]) (d0 := 0) (O := [false]) (T := [(2, [.inl (.int 61), .inr (.inl 20)], []), (0, [.inr (.inl 70), .inr (.inl 69)], []), (30, [.inr (.inl 69)], [.inr (.inl 54)]), (40, [.inr (.inl 71), .inr (.inl 72)], [.inr (.inl 60)]), (0, [.inr (.inl 69), .inl (.int 1)], [])]) (P := [(5, .inl (.int 61), .inr (.inl 69)), (6, .inr (.inl 69), .inl (.ref 61)), (6, .inr (.inl 71), .inl (.ref 2440))]) jm_ok200 (by decide +kernel) (by decide +kernel) hd F X1 X2 (fun F' hF hs => ?_)
  have b69 := hd_b (F := F) (F' := F') (k := 69) (hF 69 (by decide))
  have b20 := hd_b (F := F) (F' := F') (k := 20) (hF 20 (by decide))
  have t70 : sy_dv F' (.inr (.inl 70)) = .int (((61 : Int32)) * (sy_i F 20)) := hd_o (hs 0 _ rfl) rfl b20 rfl
  have t71 : sy_dv F' (.inr (.inl 71)) = .int ((((61 : Int32)) * (sy_i F 20)) + (sy_i F 69)) := hd_o (hs 1 _ rfl) t70 b69 rfl
  have a54 := hd_ba (F := F) (F' := F') (k := 54) (hF 54 (by decide))
  have t72 : sy_dv F' (.inr (.inl 72)) = .int ((sy_ai F 54).getD (sy_i F 69).toNatClampNeg 0) := hd_rd (hs 2 _ rfl) b69 a54
  have a60 := hd_ba (F := F) (F' := F') (k := 60) (hF 60 (by decide))
  have t73 : sy_da F' (.inr (.inl 73)) = .inl (jm_upd (sy_ai F 60) ((((61 : Int32)) * (sy_i F 20)) + (sy_i F 69)).toNatClampNeg ((sy_ai F 54).getD (sy_i F 69).toNatClampNeg 0)) := hd_up (hs 3 _ rfl) t71 t72 a60
  have t74 : sy_dv F' (.inr (.inl 74)) = .int ((sy_i F 69) + ((1 : Int32))) := hd_o (hs 4 _ rfl) b69 rfl rfl
  have hB' : iv_in F' iv_B4 := iv_in_eq hB (fun j hj => hF j (Nat.lt_of_lt_of_le hj (by decide +kernel)))
  refine ⟨List.forall_mem_cons.mpr ⟨hd_p5 rfl b69 (by have hc : ((61) : Int32).toInt = 61 := (by decide); omega), List.forall_mem_cons.mpr ⟨hd_pb b69 (by first | exact h1 | exact h1), List.forall_mem_cons.mpr ⟨hd_pb t71 (by first | exact h2 | exact h2), fun _ h => absurd h List.not_mem_nil⟩⟩⟩, ?_⟩
  refine k _ ?_ ?_ ?_
  · exact fun j hj hn => (hd_keep hB' (Nat.lt_of_lt_of_le hj (by decide +kernel)) (by simp; omega)).trans (hF j (Nat.lt_of_lt_of_le hj (by decide)))
  · exact hd_ga (a := .inr (.inl 73)) (by decide +kernel) t73
  · exact hd_gi (x := .inr (.inl 74)) (by decide +kernel) t74
theorem zrc_51 {Ls : Nat} {xs : Nat → Int32} {d : Nat} {Q : Option Value → jm_h → Prop} (hd : 1 ≤ d) (F : Nat → sy_d) (X1 X2 : List jm_c) (hB : iv_in F iv_B4)
    (a69 : 0 ≤ (sy_i F 69).toInt ∧ (sy_i F 69).toInt ≤ 61)
    (o0 : (sy_i F 69).toInt < 61 → (0 ≤ ((61 * (sy_i F 20).toInt) + (sy_i F 69).toInt) ∧ ((61 * (sy_i F 20).toInt) + (sy_i F 69).toInt) < 2440))
    (o1 : 61 ≤ (sy_i F 69).toInt → (0 ≤ ((sy_i F 20).toInt + 1) ∧ ((sy_i F 20).toInt + 1) ≤ 40))
    (k0 : 61 ≤ (sy_i F 69).toInt → ∀ F1 : Nat → sy_d, iv_in F1 iv_B4 → (∀ j, j < 69 → j ∉ ([20] : List Nat) → F1 j = F j) → (sy_i F1 20).toInt = ((sy_i F 20).toInt + 1) → sy_i F1 20 = (sy_i F 20) + ((1 : Int32)) → hd_W Ls xs d jm_M200 Q (94, sy_dL F1 [some (.inl (.ref 1000)), none], sy_dS F1 [.inl (.ref 1000)], sy_dh F1 X1 X2 (iv_H 4), 0, 0))
    (k1 : (sy_i F 69).toInt < 61 → ∀ F1 : Nat → sy_d, iv_in F1 iv_B4 → (∀ j, j < 69 → j ∉ ([60] : List Nat) → F1 j = F j) → sy_ai F1 60 = jm_upd (sy_ai F 60) (((61 * (sy_i F 20).toInt) + (sy_i F 69).toInt)).toNat ((sy_ai F 54).getD ((sy_i F 69).toInt).toNat 0) → (sy_i F1 69).toInt = ((sy_i F 69).toInt + 1) → sy_i F1 69 = (sy_i F 69) + ((1 : Int32)) → hd_W Ls xs d jm_M200 Q (51, sy_dL F1 [some (.inl (.ref 1000)), some (.inr (.inl 69))], sy_dS F1 [], sy_dh F1 X1 X2 (iv_H 4), 0, 0)) :
    hd_W Ls xs d jm_M200 Q (51, sy_dL F [some (.inl (.ref 1000)), some (.inr (.inl 69))], sy_dS F [], sy_dh F X1 X2 (iv_H 4), 0, 0) := by
  by_cases g0 : 61 ≤ (sy_i F 69).toInt
  · have c20 := nz_bx hB (k := 20) (lo := 0) (hi := 40) rfl
    have n70 : nzI ((sy_i F 20) + ((1 : Int32))) (((sy_i F 20).toInt + 1)) := nz_add (rfl : (sy_i F 20).toInt = (sy_i F 20).toInt) (by decide : ((1 : Int32)).toInt = 1) (by omega) (by omega)
    exact zrc_51_p0 hd F X1 X2 hB (by first | exact g0 | (simp only [nz_c]; exact g0)) (fun F1 g e20 => k0 g0 F1 (nz_in hB [20] (fun j hj hn => g j hj (by simp only [List.mem_cons, List.not_mem_nil, or_false, not_or] at hn; omega)) (List.forall_mem_cons.mpr ⟨fun t ht => (Option.some.inj ht) ▸ (nz_hi e20 (nzE n70) (o1 g0).1 (o1 g0).2), List.forall_mem_nil _⟩)) (fun j hj hn => g j hj (by simp only [List.mem_cons, List.not_mem_nil, or_false, not_or] at hn; omega)) ((congrArg Int32.toInt (zz_i e20)).trans (nzE n70)) ((zz_i e20).trans (rfl : (sy_i F 20) + ((1 : Int32)) = (sy_i F 20) + ((1 : Int32)))))
  replace g0 : (sy_i F 69).toInt < 61 := by omega
  have c20 := nz_bx hB (k := 20) (lo := 0) (hi := 40) rfl
  have n70 : nzI (((61 : Int32)) * (sy_i F 20)) ((61 * (sy_i F 20).toInt)) := nz_mul (by decide : ((61 : Int32)).toInt = 61) (rfl : (sy_i F 20).toInt = (sy_i F 20).toInt) (by omega) (by omega)
  have n71 : nzI ((((61 : Int32)) * (sy_i F 20)) + (sy_i F 69)) (((61 * (sy_i F 20).toInt) + (sy_i F 69).toInt)) := nz_add (nzE n70) (rfl : (sy_i F 69).toInt = (sy_i F 69).toInt) (by omega) (by omega)
  have w73 : jm_upd (sy_ai F 60) ((((61 : Int32)) * (sy_i F 20)) + (sy_i F 69)).toNatClampNeg ((sy_ai F 54).getD (sy_i F 69).toNatClampNeg 0) = jm_upd (sy_ai F 60) (((61 * (sy_i F 20).toInt) + (sy_i F 69).toInt)).toNat ((sy_ai F 54).getD ((sy_i F 69).toInt).toNat 0) := by simp only [nz_c, (nzE n70), (nzE n71), (by decide : ((61 : Int32)).toInt = 61)]
  have n74 : nzI ((sy_i F 69) + ((1 : Int32))) (((sy_i F 69).toInt + 1)) := nz_add (rfl : (sy_i F 69).toInt = (sy_i F 69).toInt) (by decide : ((1 : Int32)).toInt = 1) (by omega) (by omega)
  exact zrc_51_p1 hd F X1 X2 hB (by first | exact g0 | (simp only [nz_c]; exact g0)) (by first | exact ⟨by omega, by omega⟩ | (simp only [nz_c]; exact ⟨by omega, by omega⟩)) (by first | (simp only [nz_c, (nzE n70), (nzE n71)]; exact (o0 g0)) | exact (o0 g0) | (rw [(nzE n71)]; exact (o0 g0))) (fun F1 g e60 e69 => k1 g0 F1 (nz_in hB [60] (fun j hj hn => g j hj (by simp only [List.mem_cons, List.not_mem_nil, or_false, not_or] at hn; omega)) (List.forall_mem_cons.mpr ⟨fun t ht => (Option.some.inj ht) ▸ (nz_hz2 e60), List.forall_mem_nil _⟩)) (fun j hj hn => g j hj (by simp only [List.mem_cons, List.not_mem_nil, or_false, not_or] at hn; omega)) ((zz_ai e60).trans w73) ((congrArg Int32.toInt (zz_i e69)).trans (nzE n74)) ((zz_i e69).trans (rfl : (sy_i F 69) + ((1 : Int32)) = (sy_i F 69) + ((1 : Int32)))))
theorem zrc_97_p0 {Ls : Nat} {xs : Nat → Int32} {d : Nat} {Q : Option Value → jm_h → Prop} (hd : 1 ≤ d) (F : Nat → sy_d) (X1 X2 : List jm_c) (hB : iv_in F iv_B4)
    (k : ∀ F1 : Nat → sy_d, (∀ j, j < 69 → True → F1 j = F j) → Q (none) (sy_dh F1 X1 X2 (iv_H 4))) :
    hd_W Ls xs d jm_M200 Q (97, sy_dL F [some (.inl (.ref 1000)), none], sy_dS F [], sy_dh F X1 X2 (iv_H 4), 0, 0) := by
  refine hd_ret (s := 4) (nv := 69) (v := none) (uh := hd_ov (iv_id 0 iv_B4) []) (f := false) (sp := []) (d0 := 0) (O := []) (T := []) (P := []) jm_ok200 (by decide +kernel) (by decide +kernel) hd F X1 X2 (fun F' hF hs => ?_)
  have hB' : iv_in F' iv_B4 := iv_in_eq hB (fun j hj => hF j (Nat.lt_of_lt_of_le hj (by decide +kernel)))
  refine ⟨fun _ h => absurd h List.not_mem_nil, ?_⟩
  refine k _ ?_
  · exact fun j hj _ => (hd_keep hB' (Nat.lt_of_lt_of_le hj (by decide +kernel)) (by simp)).trans (hF j (Nat.lt_of_lt_of_le hj (by decide)))
theorem zrc_97 {Ls : Nat} {xs : Nat → Int32} {d : Nat} {Q : Option Value → jm_h → Prop} (hd : 1 ≤ d) (F : Nat → sy_d) (X1 X2 : List jm_c) (hB : iv_in F iv_B4)
    (k0 : ∀ F1 : Nat → sy_d, iv_in F1 iv_B4 → (∀ j, j < 69 → j ∉ ([] : List Nat) → F1 j = F j) → Q (none) (sy_dh F1 X1 X2 (iv_H 4))) :
    hd_W Ls xs d jm_M200 Q (97, sy_dL F [some (.inl (.ref 1000)), none], sy_dS F [], sy_dh F X1 X2 (iv_H 4), 0, 0) := by
  exact zrc_97_p0 hd F X1 X2 hB  (fun F1 g  => k0 F1 (nz_in hB [] (fun j hj hn => g j hj (by simp only [List.mem_cons, List.not_mem_nil, or_false, not_or] at hn; exact trivial)) (List.forall_mem_nil _)) (fun j hj hn => g j hj (by simp only [List.mem_cons, List.not_mem_nil, or_false, not_or] at hn; exact trivial)) )
theorem zgo_0_p0 {Ls : Nat} {xs : Nat → Int32} {d : Nat} {Q : Option Value → jm_h → Prop} (hd : 3 ≤ d) (F : Nat → sy_d) (X1 X2 : List jm_c) (hB : iv_in F iv_B4)
    (h0 : 0 ≤ (sy_i F 11).toInt ∧ (sy_i F 11).toInt < 2)
    (h1 : (sy_i F 69).toInt < 0)
    (k : ∀ F1 : Nat → sy_d, (∀ j, j < 69 → True → F1 j = F j) → Q (some (.int ((0 : Int32)))) (sy_dh F1 X1 X2 (iv_H 4))) :
    hd_W Ls xs d jm_M201 Q (0, sy_dL F [some (.inl (.ref 1000)), some (.inr (.inl 69)), some (.inr (.inl 70))], sy_dS F [], sy_dh F X1 X2 (iv_H 4), 0, 0) := by
  refine hd_ret (s := 4) (nv := 71) (v := some (.inl (.int 0))) (uh := hd_ov (iv_id 0 iv_B4) []) (f := true) (sp := [34]) (d0 := 2) (O := [true]) (T := [(30, [.inr (.inl 11)], [.inr (.inl 35)]), (1, [.inr (.inl 71), .inl (.int 1)], [])]) (P := [(6, .inr (.inl 11), .inl (.ref 2)), (2, .inr (.inl 69), .inl (.int 0))]) jm_ok201 (by decide +kernel) (by decide +kernel) hd F X1 X2 (fun F' hF hs => ?_)
  have b11 := hd_b (F := F) (F' := F') (k := 11) (hF 11 (by decide))
  have b69 := hd_b (F := F) (F' := F') (k := 69) (hF 69 (by decide))
  have hB' : iv_in F' iv_B4 := iv_in_eq hB (fun j hj => hF j (Nat.lt_of_lt_of_le hj (by decide +kernel)))
  refine ⟨List.forall_mem_cons.mpr ⟨hd_pb b11 (by first | exact h0 | exact h0), List.forall_mem_cons.mpr ⟨hd_p2 b69 rfl (by have hc : ((0) : Int32).toInt = 0 := (by decide); omega), fun _ h => absurd h List.not_mem_nil⟩⟩, ?_⟩
  refine k _ ?_
  · exact fun j hj _ => (hd_keep hB' (Nat.lt_of_lt_of_le hj (by decide +kernel)) (by simp)).trans (hF j (Nat.lt_of_lt_of_le hj (by decide)))
theorem zgo_0_p1 {Ls : Nat} {xs : Nat → Int32} {d : Nat} {Q : Option Value → jm_h → Prop} (hd : 3 ≤ d) (F : Nat → sy_d) (X1 X2 : List jm_c) (hB : iv_in F iv_B4)
    (h0 : 0 ≤ (sy_i F 11).toInt ∧ (sy_i F 11).toInt < 2)
    (h1 : 0 ≤ (sy_i F 69).toInt)
    (h2 : (((sy_ai F 35).getD (sy_i F 11).toNatClampNeg 0) - ((1 : Int32))).toInt < (sy_i F 69).toInt)
    (k : ∀ F1 : Nat → sy_d, (∀ j, j < 69 → True → F1 j = F j) → Q (some (.int ((0 : Int32)))) (sy_dh F1 X1 X2 (iv_H 4))) :
    hd_W Ls xs d jm_M201 Q (0, sy_dL F [some (.inl (.ref 1000)), some (.inr (.inl 69)), some (.inr (.inl 70))], sy_dS F [], sy_dh F X1 X2 (iv_H 4), 0, 0) := by
  refine hd_ret (s := 4) (nv := 71) (v := some (.inl (.int 0))) (uh := hd_ov (iv_id 0 iv_B4) []) (f := true) (sp := [34]) (d0 := 2) (O := [false, true]) (T := [(30, [.inr (.inl 11)], [.inr (.inl 35)]), (1, [.inr (.inl 71), .inl (.int 1)], [])]) (P := [(6, .inr (.inl 11), .inl (.ref 2)), (3, .inr (.inl 69), .inl (.int 0)), (2, .inr (.inl 72), .inr (.inl 69))]) jm_ok201 (by decide +kernel) (by decide +kernel) hd F X1 X2 (fun F' hF hs => ?_)
  have b11 := hd_b (F := F) (F' := F') (k := 11) (hF 11 (by decide))
  have b69 := hd_b (F := F) (F' := F') (k := 69) (hF 69 (by decide))
  have a35 := hd_ba (F := F) (F' := F') (k := 35) (hF 35 (by decide))
  have t71 : sy_dv F' (.inr (.inl 71)) = .int ((sy_ai F 35).getD (sy_i F 11).toNatClampNeg 0) := hd_rd (hs 0 _ rfl) b11 a35
  have t72 : sy_dv F' (.inr (.inl 72)) = .int (((sy_ai F 35).getD (sy_i F 11).toNatClampNeg 0) - ((1 : Int32))) := hd_o (hs 1 _ rfl) t71 rfl rfl
  have hB' : iv_in F' iv_B4 := iv_in_eq hB (fun j hj => hF j (Nat.lt_of_lt_of_le hj (by decide +kernel)))
  refine ⟨List.forall_mem_cons.mpr ⟨hd_pb b11 (by first | exact h0 | exact h0), List.forall_mem_cons.mpr ⟨hd_p3 b69 rfl (by have hc : ((0) : Int32).toInt = 0 := (by decide); omega), List.forall_mem_cons.mpr ⟨hd_p2 t72 b69 h2, fun _ h => absurd h List.not_mem_nil⟩⟩⟩, ?_⟩
  refine k _ ?_
  · exact fun j hj _ => (hd_keep hB' (Nat.lt_of_lt_of_le hj (by decide +kernel)) (by simp)).trans (hF j (Nat.lt_of_lt_of_le hj (by decide)))
theorem zgo_0_p2 {Ls : Nat} {xs : Nat → Int32} {d : Nat} {Q : Option Value → jm_h → Prop} (hd : 3 ≤ d) (F : Nat → sy_d) (X1 X2 : List jm_c) (hB : iv_in F iv_B4)
    (h0 : 0 ≤ (sy_i F 11).toInt ∧ (sy_i F 11).toInt < 2)
    (h1 : 0 ≤ (sy_i F 69).toInt)
    (h2 : (sy_i F 69).toInt ≤ (((sy_ai F 35).getD (sy_i F 11).toNatClampNeg 0) - ((1 : Int32))).toInt)
    (h3 : (sy_i F 70).toInt < 0)
    (k : ∀ F1 : Nat → sy_d, (∀ j, j < 69 → True → F1 j = F j) → Q (some (.int ((0 : Int32)))) (sy_dh F1 X1 X2 (iv_H 4))) :
    hd_W Ls xs d jm_M201 Q (0, sy_dL F [some (.inl (.ref 1000)), some (.inr (.inl 69)), some (.inr (.inl 70))], sy_dS F [], sy_dh F X1 X2 (iv_H 4), 0, 0) := by
  refine hd_ret (s := 4) (nv := 71) (v := some (.inl (.int 0))) (uh := hd_ov (iv_id 0 iv_B4) []) (f := true) (sp := [34]) (d0 := 2) (O := [false, false, true]) (T := [(30, [.inr (.inl 11)], [.inr (.inl 35)]), (1, [.inr (.inl 71), .inl (.int 1)], [])]) (P := [(6, .inr (.inl 11), .inl (.ref 2)), (3, .inr (.inl 69), .inl (.int 0)), (3, .inr (.inl 72), .inr (.inl 69)), (2, .inr (.inl 70), .inl (.int 0))]) jm_ok201 (by decide +kernel) (by decide +kernel) hd F X1 X2 (fun F' hF hs => ?_)
  have b11 := hd_b (F := F) (F' := F') (k := 11) (hF 11 (by decide))
  have b69 := hd_b (F := F) (F' := F') (k := 69) (hF 69 (by decide))
  have a35 := hd_ba (F := F) (F' := F') (k := 35) (hF 35 (by decide))
  have t71 : sy_dv F' (.inr (.inl 71)) = .int ((sy_ai F 35).getD (sy_i F 11).toNatClampNeg 0) := hd_rd (hs 0 _ rfl) b11 a35
  have t72 : sy_dv F' (.inr (.inl 72)) = .int (((sy_ai F 35).getD (sy_i F 11).toNatClampNeg 0) - ((1 : Int32))) := hd_o (hs 1 _ rfl) t71 rfl rfl
  have b70 := hd_b (F := F) (F' := F') (k := 70) (hF 70 (by decide))
  have hB' : iv_in F' iv_B4 := iv_in_eq hB (fun j hj => hF j (Nat.lt_of_lt_of_le hj (by decide +kernel)))
  refine ⟨List.forall_mem_cons.mpr ⟨hd_pb b11 (by first | exact h0 | exact h0), List.forall_mem_cons.mpr ⟨hd_p3 b69 rfl (by have hc : ((0) : Int32).toInt = 0 := (by decide); omega), List.forall_mem_cons.mpr ⟨hd_p3 t72 b69 h2, List.forall_mem_cons.mpr ⟨hd_p2 b70 rfl (by have hc : ((0) : Int32).toInt = 0 := (by decide); omega), fun _ h => absurd h List.not_mem_nil⟩⟩⟩⟩, ?_⟩
  refine k _ ?_
  · exact fun j hj _ => (hd_keep hB' (Nat.lt_of_lt_of_le hj (by decide +kernel)) (by simp)).trans (hF j (Nat.lt_of_lt_of_le hj (by decide)))
theorem zgo_0_p3 {Ls : Nat} {xs : Nat → Int32} {d : Nat} {Q : Option Value → jm_h → Prop} (hd : 3 ≤ d) (F : Nat → sy_d) (X1 X2 : List jm_c) (hB : iv_in F iv_B4)
    (h0 : 0 ≤ (sy_i F 11).toInt ∧ (sy_i F 11).toInt < 2)
    (h1 : 0 ≤ (sy_i F 69).toInt)
    (h2 : (sy_i F 69).toInt ≤ (((sy_ai F 35).getD (sy_i F 11).toNatClampNeg 0) - ((1 : Int32))).toInt)
    (h3 : 0 ≤ (sy_i F 70).toInt)
    (h4 : 9 < (sy_i F 70).toInt)
    (k : ∀ F1 : Nat → sy_d, (∀ j, j < 69 → True → F1 j = F j) → Q (some (.int ((0 : Int32)))) (sy_dh F1 X1 X2 (iv_H 4))) :
    hd_W Ls xs d jm_M201 Q (0, sy_dL F [some (.inl (.ref 1000)), some (.inr (.inl 69)), some (.inr (.inl 70))], sy_dS F [], sy_dh F X1 X2 (iv_H 4), 0, 0) := by
  refine hd_ret (s := 4) (nv := 71) (v := some (.inl (.int 0))) (uh := hd_ov (iv_id 0 iv_B4) []) (f := true) (sp := [34]) (d0 := 2) (O := [false, false, false, true]) (T := [(30, [.inr (.inl 11)], [.inr (.inl 35)]), (1, [.inr (.inl 71), .inl (.int 1)], [])]) (P := [(6, .inr (.inl 11), .inl (.ref 2)), (3, .inr (.inl 69), .inl (.int 0)), (3, .inr (.inl 72), .inr (.inl 69)), (3, .inr (.inl 70), .inl (.int 0)), (2, .inl (.int 9), .inr (.inl 70))]) jm_ok201 (by decide +kernel) (by decide +kernel) hd F X1 X2 (fun F' hF hs => ?_)
  have b11 := hd_b (F := F) (F' := F') (k := 11) (hF 11 (by decide))
  have b69 := hd_b (F := F) (F' := F') (k := 69) (hF 69 (by decide))
  have a35 := hd_ba (F := F) (F' := F') (k := 35) (hF 35 (by decide))
  have t71 : sy_dv F' (.inr (.inl 71)) = .int ((sy_ai F 35).getD (sy_i F 11).toNatClampNeg 0) := hd_rd (hs 0 _ rfl) b11 a35
  have t72 : sy_dv F' (.inr (.inl 72)) = .int (((sy_ai F 35).getD (sy_i F 11).toNatClampNeg 0) - ((1 : Int32))) := hd_o (hs 1 _ rfl) t71 rfl rfl
  have b70 := hd_b (F := F) (F' := F') (k := 70) (hF 70 (by decide))
  have hB' : iv_in F' iv_B4 := iv_in_eq hB (fun j hj => hF j (Nat.lt_of_lt_of_le hj (by decide +kernel)))
  refine ⟨List.forall_mem_cons.mpr ⟨hd_pb b11 (by first | exact h0 | exact h0), List.forall_mem_cons.mpr ⟨hd_p3 b69 rfl (by have hc : ((0) : Int32).toInt = 0 := (by decide); omega), List.forall_mem_cons.mpr ⟨hd_p3 t72 b69 h2, List.forall_mem_cons.mpr ⟨hd_p3 b70 rfl (by have hc : ((0) : Int32).toInt = 0 := (by decide); omega), List.forall_mem_cons.mpr ⟨hd_p2 rfl b70 (by have hc : ((9) : Int32).toInt = 9 := (by decide); omega), fun _ h => absurd h List.not_mem_nil⟩⟩⟩⟩⟩, ?_⟩
  refine k _ ?_
  · exact fun j hj _ => (hd_keep hB' (Nat.lt_of_lt_of_le hj (by decide +kernel)) (by simp)).trans (hF j (Nat.lt_of_lt_of_le hj (by decide)))
theorem zgo_0_p4 {Ls : Nat} {xs : Nat → Int32} {d : Nat} {Q : Option Value → jm_h → Prop} (hd : 3 ≤ d) (F : Nat → sy_d) (X1 X2 : List jm_c) (hB : iv_in F iv_B4)
    (h0 : 0 ≤ (sy_i F 11).toInt ∧ (sy_i F 11).toInt < 2)
    (h1 : 0 ≤ (sy_i F 69).toInt)
    (h2 : (sy_i F 69).toInt ≤ (((sy_ai F 35).getD (sy_i F 11).toNatClampNeg 0) - ((1 : Int32))).toInt)
    (h3 : 0 ≤ (sy_i F 70).toInt)
    (h4 : (sy_i F 70).toInt ≤ 9)
    (h5 : 0 ≤ (((49 : Int32)) + (sy_i F 69)).toInt ∧ (((49 : Int32)) + (sy_i F 69)).toInt < 61)
    (h6 : ((sy_ai F 54).getD (((49 : Int32)) + (sy_i F 69)).toNatClampNeg 0).toInt ≠ (sy_i F 70).toInt)
    (k : ∀ F1 : Nat → sy_d, (∀ j, j < 69 → True → F1 j = F j) → F1 69 = .inl (.int (sy_i F 69)) → F1 70 = .inl (.int (sy_i F 70)) → hd_W Ls xs d jm_M201 Q (34, sy_dL F1 [some (.inl (.ref 1000)), some (.inr (.inl 69)), some (.inr (.inl 70))], sy_dS F1 [.inl (.ref 1000)], sy_dh F1 X1 X2 (iv_H 4), 0, 0)) :
    hd_W Ls xs d jm_M201 Q (0, sy_dL F [some (.inl (.ref 1000)), some (.inr (.inl 69)), some (.inr (.inl 70))], sy_dS F [], sy_dh F X1 X2 (iv_H 4), 0, 0) := by
  refine hd_run (s := 4) (nv := 71) (pc := 34) (L := [some (.inl (.ref 1000)), some (.inr (.inl 69)), some (.inr (.inl 70))]) (S := [.inl (.ref 1000)]) (uh := hd_ov (iv_id 0 iv_B4) []) (ul := [.inl (.inr (.inl 69)), .inl (.inr (.inl 70))]) (f := true) (sp := [34]) (d0 := 2) (O := [false, false, false, false, true]) (T := [(30, [.inr (.inl 11)], [.inr (.inl 35)]), (1, [.inr (.inl 71), .inl (.int 1)], []), (0, [.inl (.int 49), .inr (.inl 69)], []), (30, [.inr (.inl 73)], [.inr (.inl 54)])]) (P := [(6, .inr (.inl 11), .inl (.ref 2)), (3, .inr (.inl 69), .inl (.int 0)), (3, .inr (.inl 72), .inr (.inl 69)), (3, .inr (.inl 70), .inl (.int 0)), (3, .inl (.int 9), .inr (.inl 70)), (6, .inr (.inl 73), .inl (.ref 61)), (1, .inr (.inl 74), .inr (.inl 70))]) jm_ok201 (by decide +kernel) (by decide +kernel) hd F X1 X2 (fun F' hF hs => ?_)
  have b11 := hd_b (F := F) (F' := F') (k := 11) (hF 11 (by decide))
  have b69 := hd_b (F := F) (F' := F') (k := 69) (hF 69 (by decide))
  have a35 := hd_ba (F := F) (F' := F') (k := 35) (hF 35 (by decide))
  have t71 : sy_dv F' (.inr (.inl 71)) = .int ((sy_ai F 35).getD (sy_i F 11).toNatClampNeg 0) := hd_rd (hs 0 _ rfl) b11 a35
  have t72 : sy_dv F' (.inr (.inl 72)) = .int (((sy_ai F 35).getD (sy_i F 11).toNatClampNeg 0) - ((1 : Int32))) := hd_o (hs 1 _ rfl) t71 rfl rfl
  have b70 := hd_b (F := F) (F' := F') (k := 70) (hF 70 (by decide))
  have t73 : sy_dv F' (.inr (.inl 73)) = .int (((49 : Int32)) + (sy_i F 69)) := hd_o (hs 2 _ rfl) rfl b69 rfl
  have a54 := hd_ba (F := F) (F' := F') (k := 54) (hF 54 (by decide))
  have t74 : sy_dv F' (.inr (.inl 74)) = .int ((sy_ai F 54).getD (((49 : Int32)) + (sy_i F 69)).toNatClampNeg 0) := hd_rd (hs 3 _ rfl) t73 a54
  have hB' : iv_in F' iv_B4 := iv_in_eq hB (fun j hj => hF j (Nat.lt_of_lt_of_le hj (by decide +kernel)))
  refine ⟨List.forall_mem_cons.mpr ⟨hd_pb b11 (by first | exact h0 | exact h0), List.forall_mem_cons.mpr ⟨hd_p3 b69 rfl (by have hc : ((0) : Int32).toInt = 0 := (by decide); omega), List.forall_mem_cons.mpr ⟨hd_p3 t72 b69 h2, List.forall_mem_cons.mpr ⟨hd_p3 b70 rfl (by have hc : ((0) : Int32).toInt = 0 := (by decide); omega), List.forall_mem_cons.mpr ⟨hd_p3 rfl b70 (by have hc : ((9) : Int32).toInt = 9 := (by decide); omega), List.forall_mem_cons.mpr ⟨hd_pb t73 (by first | exact h5 | exact h5), List.forall_mem_cons.mpr ⟨hd_p1 t74 b70 h6, fun _ h => absurd h List.not_mem_nil⟩⟩⟩⟩⟩⟩⟩, ?_⟩
  refine k _ ?_ ?_ ?_
  · exact fun j hj _ => (hd_keep hB' (Nat.lt_of_lt_of_le hj (by decide +kernel)) (by simp)).trans (hF j (Nat.lt_of_lt_of_le hj (by decide)))
  · exact hd_gi (x := .inr (.inl 69)) (by decide +kernel) b69
  · exact hd_gi (x := .inr (.inl 70)) (by decide +kernel) b70
theorem zgo_0_p5 {Ls : Nat} {xs : Nat → Int32} {d : Nat} {Q : Option Value → jm_h → Prop} (hd : 3 ≤ d) (F : Nat → sy_d) (X1 X2 : List jm_c) (hB : iv_in F iv_B4)
    (h0 : 0 ≤ (sy_i F 11).toInt ∧ (sy_i F 11).toInt < 2)
    (h1 : 0 ≤ (sy_i F 69).toInt)
    (h2 : (sy_i F 69).toInt ≤ (((sy_ai F 35).getD (sy_i F 11).toNatClampNeg 0) - ((1 : Int32))).toInt)
    (h3 : 0 ≤ (sy_i F 70).toInt)
    (h4 : (sy_i F 70).toInt ≤ 9)
    (h5 : 0 ≤ (((49 : Int32)) + (sy_i F 69)).toInt ∧ (((49 : Int32)) + (sy_i F 69)).toInt < 61)
    (h6 : ((sy_ai F 54).getD (((49 : Int32)) + (sy_i F 69)).toNatClampNeg 0).toInt = (sy_i F 70).toInt)
    (k : ∀ F1 : Nat → sy_d, (∀ j, j < 69 → True → F1 j = F j) → Q (some (.int ((0 : Int32)))) (sy_dh F1 X1 X2 (iv_H 4))) :
    hd_W Ls xs d jm_M201 Q (0, sy_dL F [some (.inl (.ref 1000)), some (.inr (.inl 69)), some (.inr (.inl 70))], sy_dS F [], sy_dh F X1 X2 (iv_H 4), 0, 0) := by
  refine hd_ret (s := 4) (nv := 71) (v := some (.inl (.int 0))) (uh := hd_ov (iv_id 0 iv_B4) []) (f := true) (sp := [34]) (d0 := 2) (O := [false, false, false, false, false]) (T := [(30, [.inr (.inl 11)], [.inr (.inl 35)]), (1, [.inr (.inl 71), .inl (.int 1)], []), (0, [.inl (.int 49), .inr (.inl 69)], []), (30, [.inr (.inl 73)], [.inr (.inl 54)])]) (P := [(6, .inr (.inl 11), .inl (.ref 2)), (3, .inr (.inl 69), .inl (.int 0)), (3, .inr (.inl 72), .inr (.inl 69)), (3, .inr (.inl 70), .inl (.int 0)), (3, .inl (.int 9), .inr (.inl 70)), (6, .inr (.inl 73), .inl (.ref 61)), (0, .inr (.inl 74), .inr (.inl 70))]) jm_ok201 (by decide +kernel) (by decide +kernel) hd F X1 X2 (fun F' hF hs => ?_)
  have b11 := hd_b (F := F) (F' := F') (k := 11) (hF 11 (by decide))
  have b69 := hd_b (F := F) (F' := F') (k := 69) (hF 69 (by decide))
  have a35 := hd_ba (F := F) (F' := F') (k := 35) (hF 35 (by decide))
  have t71 : sy_dv F' (.inr (.inl 71)) = .int ((sy_ai F 35).getD (sy_i F 11).toNatClampNeg 0) := hd_rd (hs 0 _ rfl) b11 a35
  have t72 : sy_dv F' (.inr (.inl 72)) = .int (((sy_ai F 35).getD (sy_i F 11).toNatClampNeg 0) - ((1 : Int32))) := hd_o (hs 1 _ rfl) t71 rfl rfl
  have b70 := hd_b (F := F) (F' := F') (k := 70) (hF 70 (by decide))
  have t73 : sy_dv F' (.inr (.inl 73)) = .int (((49 : Int32)) + (sy_i F 69)) := hd_o (hs 2 _ rfl) rfl b69 rfl
  have a54 := hd_ba (F := F) (F' := F') (k := 54) (hF 54 (by decide))
  have t74 : sy_dv F' (.inr (.inl 74)) = .int ((sy_ai F 54).getD (((49 : Int32)) + (sy_i F 69)).toNatClampNeg 0) := hd_rd (hs 3 _ rfl) t73 a54
  have hB' : iv_in F' iv_B4 := iv_in_eq hB (fun j hj => hF j (Nat.lt_of_lt_of_le hj (by decide +kernel)))
  refine ⟨List.forall_mem_cons.mpr ⟨hd_pb b11 (by first | exact h0 | exact h0), List.forall_mem_cons.mpr ⟨hd_p3 b69 rfl (by have hc : ((0) : Int32).toInt = 0 := (by decide); omega), List.forall_mem_cons.mpr ⟨hd_p3 t72 b69 h2, List.forall_mem_cons.mpr ⟨hd_p3 b70 rfl (by have hc : ((0) : Int32).toInt = 0 := (by decide); omega), List.forall_mem_cons.mpr ⟨hd_p3 rfl b70 (by have hc : ((9) : Int32).toInt = 9 := (by decide); omega), List.forall_mem_cons.mpr ⟨hd_pb t73 (by first | exact h5 | exact h5), List.forall_mem_cons.mpr ⟨hd_p0 t74 b70 h6, fun _ h => absurd h List.not_mem_nil⟩⟩⟩⟩⟩⟩⟩, ?_⟩
  refine k _ ?_
  · exact fun j hj _ => (hd_keep hB' (Nat.lt_of_lt_of_le hj (by decide +kernel)) (by simp)).trans (hF j (Nat.lt_of_lt_of_le hj (by decide)))
theorem zgo_0 {Ls : Nat} {xs : Nat → Int32} {d : Nat} {Q : Option Value → jm_h → Prop} (hd : 3 ≤ d) (F : Nat → sy_d) (X1 X2 : List jm_c) (hB : iv_in F iv_B4)
    (k0 : (sy_i F 69).toInt < 0 → ∀ F1 : Nat → sy_d, iv_in F1 iv_B4 → (∀ j, j < 69 → j ∉ ([] : List Nat) → F1 j = F j) → Q (some (.int ((0 : Int32)))) (sy_dh F1 X1 X2 (iv_H 4)))
    (k1 : 0 ≤ (sy_i F 69).toInt → (((sy_ai F 35).getD ((sy_i F 11).toInt).toNat 0).toInt - 1) < (sy_i F 69).toInt → ∀ F1 : Nat → sy_d, iv_in F1 iv_B4 → (∀ j, j < 69 → j ∉ ([] : List Nat) → F1 j = F j) → Q (some (.int ((0 : Int32)))) (sy_dh F1 X1 X2 (iv_H 4)))
    (k2 : 0 ≤ (sy_i F 69).toInt → (sy_i F 69).toInt ≤ (((sy_ai F 35).getD ((sy_i F 11).toInt).toNat 0).toInt - 1) → (sy_i F 70).toInt < 0 → ∀ F1 : Nat → sy_d, iv_in F1 iv_B4 → (∀ j, j < 69 → j ∉ ([] : List Nat) → F1 j = F j) → Q (some (.int ((0 : Int32)))) (sy_dh F1 X1 X2 (iv_H 4)))
    (k3 : 0 ≤ (sy_i F 69).toInt → (sy_i F 69).toInt ≤ (((sy_ai F 35).getD ((sy_i F 11).toInt).toNat 0).toInt - 1) → 0 ≤ (sy_i F 70).toInt → 9 < (sy_i F 70).toInt → ∀ F1 : Nat → sy_d, iv_in F1 iv_B4 → (∀ j, j < 69 → j ∉ ([] : List Nat) → F1 j = F j) → Q (some (.int ((0 : Int32)))) (sy_dh F1 X1 X2 (iv_H 4)))
    (k4 : 0 ≤ (sy_i F 69).toInt → (sy_i F 69).toInt ≤ (((sy_ai F 35).getD ((sy_i F 11).toInt).toNat 0).toInt - 1) → 0 ≤ (sy_i F 70).toInt → (sy_i F 70).toInt ≤ 9 → ((sy_ai F 54).getD ((49 + (sy_i F 69).toInt)).toNat 0).toInt ≠ (sy_i F 70).toInt → ∀ F1 : Nat → sy_d, iv_in F1 iv_B4 → (∀ j, j < 69 → j ∉ ([] : List Nat) → F1 j = F j) → (sy_i F1 69).toInt = (sy_i F 69).toInt → sy_i F1 69 = sy_i F 69 → (sy_i F1 70).toInt = (sy_i F 70).toInt → sy_i F1 70 = sy_i F 70 → hd_W Ls xs d jm_M201 Q (34, sy_dL F1 [some (.inl (.ref 1000)), some (.inr (.inl 69)), some (.inr (.inl 70))], sy_dS F1 [.inl (.ref 1000)], sy_dh F1 X1 X2 (iv_H 4), 0, 0))
    (k5 : 0 ≤ (sy_i F 69).toInt → (sy_i F 69).toInt ≤ (((sy_ai F 35).getD ((sy_i F 11).toInt).toNat 0).toInt - 1) → 0 ≤ (sy_i F 70).toInt → (sy_i F 70).toInt ≤ 9 → ((sy_ai F 54).getD ((49 + (sy_i F 69).toInt)).toNat 0).toInt = (sy_i F 70).toInt → ∀ F1 : Nat → sy_d, iv_in F1 iv_B4 → (∀ j, j < 69 → j ∉ ([] : List Nat) → F1 j = F j) → Q (some (.int ((0 : Int32)))) (sy_dh F1 X1 X2 (iv_H 4))) :
    hd_W Ls xs d jm_M201 Q (0, sy_dL F [some (.inl (.ref 1000)), some (.inr (.inl 69)), some (.inr (.inl 70))], sy_dS F [], sy_dh F X1 X2 (iv_H 4), 0, 0) := by
  by_cases g0 : (sy_i F 69).toInt < 0
  · have c11 := nz_bx hB (k := 11) (lo := 0) (hi := 1) rfl
    exact zgo_0_p0 hd F X1 X2 hB (by first | exact ⟨by omega, by omega⟩ | (simp only [nz_c]; exact ⟨by omega, by omega⟩)) (by first | exact g0 | (simp only [nz_c]; exact g0)) (fun F1 g  => k0 g0 F1 (nz_in hB [] (fun j hj hn => g j hj (by simp only [List.mem_cons, List.not_mem_nil, or_false, not_or] at hn; exact trivial)) (List.forall_mem_nil _)) (fun j hj hn => g j hj (by simp only [List.mem_cons, List.not_mem_nil, or_false, not_or] at hn; exact trivial)) )
  replace g0 : 0 ≤ (sy_i F 69).toInt := by omega
  by_cases g1 : (((sy_ai F 35).getD ((sy_i F 11).toInt).toNat 0).toInt - 1) < (sy_i F 69).toInt
  · have c11 := nz_bx hB (k := 11) (lo := 0) (hi := 1) rfl
    have q71 : (sy_ai F 35).getD (sy_i F 11).toNatClampNeg 0 = (sy_ai F 35).getD ((sy_i F 11).toInt).toNat 0 := by simp only [nz_c]
    have n71 : nzI ((sy_ai F 35).getD (sy_i F 11).toNatClampNeg 0) (((sy_ai F 35).getD ((sy_i F 11).toInt).toNat 0).toInt) := congrArg Int32.toInt q71
    have r71 := nz_ba hB (k := 35) (lo := 0) (hi := 4) rfl ((sy_i F 11).toInt).toNat
    have n72 : nzI (((sy_ai F 35).getD (sy_i F 11).toNatClampNeg 0) - ((1 : Int32))) ((((sy_ai F 35).getD ((sy_i F 11).toInt).toNat 0).toInt - 1)) := nz_sub (nzE n71) (by decide : ((1 : Int32)).toInt = 1) (by omega) (by omega)
    have q72 : ((sy_ai F 35).getD (sy_i F 11).toNatClampNeg 0) - ((1 : Int32)) = ((sy_ai F 35).getD ((sy_i F 11).toInt).toNat 0) - ((1 : Int32)) := by simp only [nz_c, (nzE n72), (by decide : ((1 : Int32)).toInt = 1)]
    have m72 : nzI (((sy_ai F 35).getD ((sy_i F 11).toInt).toNat 0) - ((1 : Int32))) ((((sy_ai F 35).getD ((sy_i F 11).toInt).toNat 0).toInt - 1)) := (congrArg Int32.toInt q72.symm).trans (nzE n72)
    exact zgo_0_p1 hd F X1 X2 hB (by first | exact ⟨by omega, by omega⟩ | (simp only [nz_c]; exact ⟨by omega, by omega⟩)) (by first | exact g0 | (simp only [nz_c]; exact g0)) (by first | (simp only [nz_c, (nzE n72), (nzE m72)]; exact g1) | exact g1 | (rw [(nzE n72)]; exact g1)) (fun F1 g  => k1 g0 g1 F1 (nz_in hB [] (fun j hj hn => g j hj (by simp only [List.mem_cons, List.not_mem_nil, or_false, not_or] at hn; exact trivial)) (List.forall_mem_nil _)) (fun j hj hn => g j hj (by simp only [List.mem_cons, List.not_mem_nil, or_false, not_or] at hn; exact trivial)) )
  replace g1 : (sy_i F 69).toInt ≤ (((sy_ai F 35).getD ((sy_i F 11).toInt).toNat 0).toInt - 1) := by omega
  by_cases g2 : (sy_i F 70).toInt < 0
  · have c11 := nz_bx hB (k := 11) (lo := 0) (hi := 1) rfl
    have q71 : (sy_ai F 35).getD (sy_i F 11).toNatClampNeg 0 = (sy_ai F 35).getD ((sy_i F 11).toInt).toNat 0 := by simp only [nz_c]
    have n71 : nzI ((sy_ai F 35).getD (sy_i F 11).toNatClampNeg 0) (((sy_ai F 35).getD ((sy_i F 11).toInt).toNat 0).toInt) := congrArg Int32.toInt q71
    have r71 := nz_ba hB (k := 35) (lo := 0) (hi := 4) rfl ((sy_i F 11).toInt).toNat
    have n72 : nzI (((sy_ai F 35).getD (sy_i F 11).toNatClampNeg 0) - ((1 : Int32))) ((((sy_ai F 35).getD ((sy_i F 11).toInt).toNat 0).toInt - 1)) := nz_sub (nzE n71) (by decide : ((1 : Int32)).toInt = 1) (by omega) (by omega)
    have q72 : ((sy_ai F 35).getD (sy_i F 11).toNatClampNeg 0) - ((1 : Int32)) = ((sy_ai F 35).getD ((sy_i F 11).toInt).toNat 0) - ((1 : Int32)) := by simp only [nz_c, (nzE n72), (by decide : ((1 : Int32)).toInt = 1)]
    have m72 : nzI (((sy_ai F 35).getD ((sy_i F 11).toInt).toNat 0) - ((1 : Int32))) ((((sy_ai F 35).getD ((sy_i F 11).toInt).toNat 0).toInt - 1)) := (congrArg Int32.toInt q72.symm).trans (nzE n72)
    exact zgo_0_p2 hd F X1 X2 hB (by first | exact ⟨by omega, by omega⟩ | (simp only [nz_c]; exact ⟨by omega, by omega⟩)) (by first | exact g0 | (simp only [nz_c]; exact g0)) (by first | (simp only [nz_c, (nzE n72), (nzE m72)]; exact g1) | exact g1 | (rw [(nzE n72)]; exact g1)) (by first | exact g2 | (simp only [nz_c]; exact g2)) (fun F1 g  => k2 g0 g1 g2 F1 (nz_in hB [] (fun j hj hn => g j hj (by simp only [List.mem_cons, List.not_mem_nil, or_false, not_or] at hn; exact trivial)) (List.forall_mem_nil _)) (fun j hj hn => g j hj (by simp only [List.mem_cons, List.not_mem_nil, or_false, not_or] at hn; exact trivial)) )
  replace g2 : 0 ≤ (sy_i F 70).toInt := by omega
  by_cases g3 : 9 < (sy_i F 70).toInt
  · have c11 := nz_bx hB (k := 11) (lo := 0) (hi := 1) rfl
    have q71 : (sy_ai F 35).getD (sy_i F 11).toNatClampNeg 0 = (sy_ai F 35).getD ((sy_i F 11).toInt).toNat 0 := by simp only [nz_c]
    have n71 : nzI ((sy_ai F 35).getD (sy_i F 11).toNatClampNeg 0) (((sy_ai F 35).getD ((sy_i F 11).toInt).toNat 0).toInt) := congrArg Int32.toInt q71
    have r71 := nz_ba hB (k := 35) (lo := 0) (hi := 4) rfl ((sy_i F 11).toInt).toNat
    have n72 : nzI (((sy_ai F 35).getD (sy_i F 11).toNatClampNeg 0) - ((1 : Int32))) ((((sy_ai F 35).getD ((sy_i F 11).toInt).toNat 0).toInt - 1)) := nz_sub (nzE n71) (by decide : ((1 : Int32)).toInt = 1) (by omega) (by omega)
    have q72 : ((sy_ai F 35).getD (sy_i F 11).toNatClampNeg 0) - ((1 : Int32)) = ((sy_ai F 35).getD ((sy_i F 11).toInt).toNat 0) - ((1 : Int32)) := by simp only [nz_c, (nzE n72), (by decide : ((1 : Int32)).toInt = 1)]
    have m72 : nzI (((sy_ai F 35).getD ((sy_i F 11).toInt).toNat 0) - ((1 : Int32))) ((((sy_ai F 35).getD ((sy_i F 11).toInt).toNat 0).toInt - 1)) := (congrArg Int32.toInt q72.symm).trans (nzE n72)
    exact zgo_0_p3 hd F X1 X2 hB (by first | exact ⟨by omega, by omega⟩ | (simp only [nz_c]; exact ⟨by omega, by omega⟩)) (by first | exact g0 | (simp only [nz_c]; exact g0)) (by first | (simp only [nz_c, (nzE n72), (nzE m72)]; exact g1) | exact g1 | (rw [(nzE n72)]; exact g1)) (by first | exact g2 | (simp only [nz_c]; exact g2)) (by first | exact g3 | (simp only [nz_c]; exact g3)) (fun F1 g  => k3 g0 g1 g2 g3 F1 (nz_in hB [] (fun j hj hn => g j hj (by simp only [List.mem_cons, List.not_mem_nil, or_false, not_or] at hn; exact trivial)) (List.forall_mem_nil _)) (fun j hj hn => g j hj (by simp only [List.mem_cons, List.not_mem_nil, or_false, not_or] at hn; exact trivial)) )
  replace g3 : (sy_i F 70).toInt ≤ 9 := by omega
  by_cases g4 : ((sy_ai F 54).getD ((49 + (sy_i F 69).toInt)).toNat 0).toInt ≠ (sy_i F 70).toInt
  · have c11 := nz_bx hB (k := 11) (lo := 0) (hi := 1) rfl
    have q71 : (sy_ai F 35).getD (sy_i F 11).toNatClampNeg 0 = (sy_ai F 35).getD ((sy_i F 11).toInt).toNat 0 := by simp only [nz_c]
    have n71 : nzI ((sy_ai F 35).getD (sy_i F 11).toNatClampNeg 0) (((sy_ai F 35).getD ((sy_i F 11).toInt).toNat 0).toInt) := congrArg Int32.toInt q71
    have r71 := nz_ba hB (k := 35) (lo := 0) (hi := 4) rfl ((sy_i F 11).toInt).toNat
    have n72 : nzI (((sy_ai F 35).getD (sy_i F 11).toNatClampNeg 0) - ((1 : Int32))) ((((sy_ai F 35).getD ((sy_i F 11).toInt).toNat 0).toInt - 1)) := nz_sub (nzE n71) (by decide : ((1 : Int32)).toInt = 1) (by omega) (by omega)
    have n73 : nzI (((49 : Int32)) + (sy_i F 69)) ((49 + (sy_i F 69).toInt)) := nz_add (by decide : ((49 : Int32)).toInt = 49) (rfl : (sy_i F 69).toInt = (sy_i F 69).toInt) (by omega) (by omega)
    have q74 : (sy_ai F 54).getD (((49 : Int32)) + (sy_i F 69)).toNatClampNeg 0 = (sy_ai F 54).getD ((49 + (sy_i F 69).toInt)).toNat 0 := by simp only [nz_c, (nzE n73), (by decide : ((49 : Int32)).toInt = 49)]
    have n74 : nzI ((sy_ai F 54).getD (((49 : Int32)) + (sy_i F 69)).toNatClampNeg 0) (((sy_ai F 54).getD ((49 + (sy_i F 69).toInt)).toNat 0).toInt) := congrArg Int32.toInt q74
    have q72 : ((sy_ai F 35).getD (sy_i F 11).toNatClampNeg 0) - ((1 : Int32)) = ((sy_ai F 35).getD ((sy_i F 11).toInt).toNat 0) - ((1 : Int32)) := by simp only [nz_c, (nzE n72), (by decide : ((1 : Int32)).toInt = 1)]
    have m72 : nzI (((sy_ai F 35).getD ((sy_i F 11).toInt).toNat 0) - ((1 : Int32))) ((((sy_ai F 35).getD ((sy_i F 11).toInt).toNat 0).toInt - 1)) := (congrArg Int32.toInt q72.symm).trans (nzE n72)
    exact zgo_0_p4 hd F X1 X2 hB (by first | exact ⟨by omega, by omega⟩ | (simp only [nz_c]; exact ⟨by omega, by omega⟩)) (by first | exact g0 | (simp only [nz_c]; exact g0)) (by first | (simp only [nz_c, (nzE n72), (nzE m72)]; exact g1) | exact g1 | (rw [(nzE n72)]; exact g1)) (by first | exact g2 | (simp only [nz_c]; exact g2)) (by first | exact g3 | (simp only [nz_c]; exact g3)) (by first | (simp only [nz_c, (nzE n73)]; exact ⟨by omega, by omega⟩) | exact ⟨by omega, by omega⟩ | (rw [(nzE n73)]; exact ⟨by omega, by omega⟩)) (by first | (simp only [nz_c, (nzE n73)]; exact g4) | exact g4 | (rw [(nzE n74)]; exact g4)) (fun F1 g e69 e70 => k4 g0 g1 g2 g3 g4 F1 (nz_in hB [] (fun j hj hn => g j hj (by simp only [List.mem_cons, List.not_mem_nil, or_false, not_or] at hn; exact trivial)) (List.forall_mem_nil _)) (fun j hj hn => g j hj (by simp only [List.mem_cons, List.not_mem_nil, or_false, not_or] at hn; exact trivial)) ((congrArg Int32.toInt (zz_i e69)).trans (rfl : (sy_i F 69).toInt = (sy_i F 69).toInt)) ((zz_i e69).trans (rfl : sy_i F 69 = sy_i F 69)) ((congrArg Int32.toInt (zz_i e70)).trans (rfl : (sy_i F 70).toInt = (sy_i F 70).toInt)) ((zz_i e70).trans (rfl : sy_i F 70 = sy_i F 70)))
  replace g4 : ((sy_ai F 54).getD ((49 + (sy_i F 69).toInt)).toNat 0).toInt = (sy_i F 70).toInt := by omega
  have c11 := nz_bx hB (k := 11) (lo := 0) (hi := 1) rfl
  have q71 : (sy_ai F 35).getD (sy_i F 11).toNatClampNeg 0 = (sy_ai F 35).getD ((sy_i F 11).toInt).toNat 0 := by simp only [nz_c]
  have n71 : nzI ((sy_ai F 35).getD (sy_i F 11).toNatClampNeg 0) (((sy_ai F 35).getD ((sy_i F 11).toInt).toNat 0).toInt) := congrArg Int32.toInt q71
  have r71 := nz_ba hB (k := 35) (lo := 0) (hi := 4) rfl ((sy_i F 11).toInt).toNat
  have n72 : nzI (((sy_ai F 35).getD (sy_i F 11).toNatClampNeg 0) - ((1 : Int32))) ((((sy_ai F 35).getD ((sy_i F 11).toInt).toNat 0).toInt - 1)) := nz_sub (nzE n71) (by decide : ((1 : Int32)).toInt = 1) (by omega) (by omega)
  have n73 : nzI (((49 : Int32)) + (sy_i F 69)) ((49 + (sy_i F 69).toInt)) := nz_add (by decide : ((49 : Int32)).toInt = 49) (rfl : (sy_i F 69).toInt = (sy_i F 69).toInt) (by omega) (by omega)
  have q74 : (sy_ai F 54).getD (((49 : Int32)) + (sy_i F 69)).toNatClampNeg 0 = (sy_ai F 54).getD ((49 + (sy_i F 69).toInt)).toNat 0 := by simp only [nz_c, (nzE n73), (by decide : ((49 : Int32)).toInt = 49)]
  have n74 : nzI ((sy_ai F 54).getD (((49 : Int32)) + (sy_i F 69)).toNatClampNeg 0) (((sy_ai F 54).getD ((49 + (sy_i F 69).toInt)).toNat 0).toInt) := congrArg Int32.toInt q74
  have q72 : ((sy_ai F 35).getD (sy_i F 11).toNatClampNeg 0) - ((1 : Int32)) = ((sy_ai F 35).getD ((sy_i F 11).toInt).toNat 0) - ((1 : Int32)) := by simp only [nz_c, (nzE n72), (by decide : ((1 : Int32)).toInt = 1)]
  have m72 : nzI (((sy_ai F 35).getD ((sy_i F 11).toInt).toNat 0) - ((1 : Int32))) ((((sy_ai F 35).getD ((sy_i F 11).toInt).toNat 0).toInt - 1)) := (congrArg Int32.toInt q72.symm).trans (nzE n72)
  exact zgo_0_p5 hd F X1 X2 hB (by first | exact ⟨by omega, by omega⟩ | (simp only [nz_c]; exact ⟨by omega, by omega⟩)) (by first | exact g0 | (simp only [nz_c]; exact g0)) (by first | (simp only [nz_c, (nzE n72), (nzE m72)]; exact g1) | exact g1 | (rw [(nzE n72)]; exact g1)) (by first | exact g2 | (simp only [nz_c]; exact g2)) (by first | exact g3 | (simp only [nz_c]; exact g3)) (by first | (simp only [nz_c, (nzE n73)]; exact ⟨by omega, by omega⟩) | exact ⟨by omega, by omega⟩ | (rw [(nzE n73)]; exact ⟨by omega, by omega⟩)) (by first | (simp only [nz_c, (nzE n73)]; exact g4) | exact g4 | (rw [(nzE n74)]; exact g4)) (fun F1 g  => k5 g0 g1 g2 g3 g4 F1 (nz_in hB [] (fun j hj hn => g j hj (by simp only [List.mem_cons, List.not_mem_nil, or_false, not_or] at hn; exact trivial)) (List.forall_mem_nil _)) (fun j hj hn => g j hj (by simp only [List.mem_cons, List.not_mem_nil, or_false, not_or] at hn; exact trivial)) )
theorem zgo_37_p0 {Ls : Nat} {xs : Nat → Int32} {d : Nat} {Q : Option Value → jm_h → Prop} (hd : 1 ≤ d) (F : Nat → sy_d) (X1 X2 : List jm_c) (hB : iv_in F iv_B4)
    (h0 : 0 ≤ (((49 : Int32)) + (sy_i F 69)).toInt ∧ (((49 : Int32)) + (sy_i F 69)).toInt < 61)
    (k : ∀ F1 : Nat → sy_d, (∀ j, j < 69 → j ≠ 55 → F1 j = F j) → F1 55 = .inr (.inl (jm_upd (sy_ai F 55) (((49 : Int32)) + (sy_i F 69)).toNatClampNeg (sy_i F 70))) → F1 69 = .inl (.int (sy_i F 69)) → F1 70 = .inl (.int (sy_i F 70)) → hd_W Ls xs d jm_M201 Q (48, sy_dL F1 [some (.inl (.ref 1000)), some (.inr (.inl 69)), some (.inr (.inl 70))], sy_dS F1 [.inl (.ref 1000)], sy_dh F1 X1 X2 (iv_H 4), 0, 0)) :
    hd_W Ls xs d jm_M201 Q (37, sy_dL F [some (.inl (.ref 1000)), some (.inr (.inl 69)), some (.inr (.inl 70))], sy_dS F [], sy_dh F X1 X2 (iv_H 4), 0, 0) := by
  refine hd_run (s := 4) (nv := 71) (pc := 48) (L := [some (.inl (.ref 1000)), some (.inr (.inl 69)), some (.inr (.inl 70))]) (S := [.inl (.ref 1000)]) (uh := hd_ov (iv_id 0 iv_B4) [(55, .inr (.inr (.inl 72)))]) (ul := [.inl (.inr (.inl 69)), .inl (.inr (.inl 70))]) (f := false) (sp := [48]) (d0 := 0) (O := []) (T := [(0, [.inl (.int 49), .inr (.inl 69)], []), (40, [.inr (.inl 71), .inr (.inl 70)], [.inr (.inl 55)])]) (P := [(6, .inr (.inl 71), .inl (.ref 61))]) jm_ok201 (by decide +kernel) (by decide +kernel) hd F X1 X2 (fun F' hF hs => ?_)
  have b69 := hd_b (F := F) (F' := F') (k := 69) (hF 69 (by decide))
  have t71 : sy_dv F' (.inr (.inl 71)) = .int (((49 : Int32)) + (sy_i F 69)) := hd_o (hs 0 _ rfl) rfl b69 rfl
  have b70 := hd_b (F := F) (F' := F') (k := 70) (hF 70 (by decide))
  have a55 := hd_ba (F := F) (F' := F') (k := 55) (hF 55 (by decide))
  have t72 : sy_da F' (.inr (.inl 72)) = .inl (jm_upd (sy_ai F 55) (((49 : Int32)) + (sy_i F 69)).toNatClampNeg (sy_i F 70)) := hd_up (hs 1 _ rfl) t71 b70 a55
  have hB' : iv_in F' iv_B4 := iv_in_eq hB (fun j hj => hF j (Nat.lt_of_lt_of_le hj (by decide +kernel)))
  refine ⟨List.forall_mem_cons.mpr ⟨hd_pb t71 (by first | exact h0 | exact h0), fun _ h => absurd h List.not_mem_nil⟩, ?_⟩
  refine k _ ?_ ?_ ?_ ?_
  · exact fun j hj hn => (hd_keep hB' (Nat.lt_of_lt_of_le hj (by decide +kernel)) (by simp; omega)).trans (hF j (Nat.lt_of_lt_of_le hj (by decide)))
  · exact hd_ga (a := .inr (.inl 72)) (by decide +kernel) t72
  · exact hd_gi (x := .inr (.inl 69)) (by decide +kernel) b69
  · exact hd_gi (x := .inr (.inl 70)) (by decide +kernel) b70
theorem zgo_37 {Ls : Nat} {xs : Nat → Int32} {d : Nat} {Q : Option Value → jm_h → Prop} (hd : 1 ≤ d) (F : Nat → sy_d) (X1 X2 : List jm_c) (hB : iv_in F iv_B4)
    (a69 : 0 ≤ (sy_i F 69).toInt ∧ (sy_i F 69).toInt ≤ 3)
    (a70 : 0 ≤ (sy_i F 70).toInt ∧ (sy_i F 70).toInt ≤ 9)
    (k0 : ∀ F1 : Nat → sy_d, iv_in F1 iv_B4 → (∀ j, j < 69 → j ∉ ([55] : List Nat) → F1 j = F j) → sy_ai F1 55 = jm_upd (sy_ai F 55) ((49 + (sy_i F 69).toInt)).toNat (sy_i F 70) → (sy_i F1 69).toInt = (sy_i F 69).toInt → sy_i F1 69 = sy_i F 69 → (sy_i F1 70).toInt = (sy_i F 70).toInt → sy_i F1 70 = sy_i F 70 → hd_W Ls xs d jm_M201 Q (48, sy_dL F1 [some (.inl (.ref 1000)), some (.inr (.inl 69)), some (.inr (.inl 70))], sy_dS F1 [.inl (.ref 1000)], sy_dh F1 X1 X2 (iv_H 4), 0, 0)) :
    hd_W Ls xs d jm_M201 Q (37, sy_dL F [some (.inl (.ref 1000)), some (.inr (.inl 69)), some (.inr (.inl 70))], sy_dS F [], sy_dh F X1 X2 (iv_H 4), 0, 0) := by
  have n71 : nzI (((49 : Int32)) + (sy_i F 69)) ((49 + (sy_i F 69).toInt)) := nz_add (by decide : ((49 : Int32)).toInt = 49) (rfl : (sy_i F 69).toInt = (sy_i F 69).toInt) (by omega) (by omega)
  have w72 : jm_upd (sy_ai F 55) (((49 : Int32)) + (sy_i F 69)).toNatClampNeg (sy_i F 70) = jm_upd (sy_ai F 55) ((49 + (sy_i F 69).toInt)).toNat (sy_i F 70) := by simp only [nz_c, (nzE n71), (by decide : ((49 : Int32)).toInt = 49)]
  exact zgo_37_p0 hd F X1 X2 hB (by first | (simp only [nz_c, (nzE n71)]; exact ⟨by omega, by omega⟩) | exact ⟨by omega, by omega⟩ | (rw [(nzE n71)]; exact ⟨by omega, by omega⟩)) (fun F1 g e55 e69 e70 => k0 F1 (nz_in hB [55] (fun j hj hn => g j hj (by simp only [List.mem_cons, List.not_mem_nil, or_false, not_or] at hn; omega)) (List.forall_mem_cons.mpr ⟨fun t ht => (Option.some.inj ht) ▸ (nz_hz2 e55), List.forall_mem_nil _⟩)) (fun j hj hn => g j hj (by simp only [List.mem_cons, List.not_mem_nil, or_false, not_or] at hn; omega)) ((zz_ai e55).trans w72) ((congrArg Int32.toInt (zz_i e69)).trans (rfl : (sy_i F 69).toInt = (sy_i F 69).toInt)) ((zz_i e69).trans (rfl : sy_i F 69 = sy_i F 69)) ((congrArg Int32.toInt (zz_i e70)).trans (rfl : (sy_i F 70).toInt = (sy_i F 70).toInt)) ((zz_i e70).trans (rfl : sy_i F 70 = sy_i F 70)))
theorem zgo_51_p0 {Ls : Nat} {xs : Nat → Int32} {d : Nat} {Q : Option Value → jm_h → Prop} (hd : 1 ≤ d) (F : Nat → sy_d) (X1 X2 : List jm_c) (hB : iv_in F iv_B4)
    (k : ∀ F1 : Nat → sy_d, (∀ j, j < 69 → True → F1 j = F j) → Q (some (.int ((1 : Int32)))) (sy_dh F1 X1 X2 (iv_H 4))) :
    hd_W Ls xs d jm_M201 Q (51, sy_dL F [some (.inl (.ref 1000)), some (.inr (.inl 69)), some (.inr (.inl 70))], sy_dS F [], sy_dh F X1 X2 (iv_H 4), 0, 0) := by
  refine hd_ret (s := 4) (nv := 71) (v := some (.inl (.int 1))) (uh := hd_ov (iv_id 0 iv_B4) []) (f := false) (sp := []) (d0 := 0) (O := []) (T := []) (P := []) jm_ok201 (by decide +kernel) (by decide +kernel) hd F X1 X2 (fun F' hF hs => ?_)
  have hB' : iv_in F' iv_B4 := iv_in_eq hB (fun j hj => hF j (Nat.lt_of_lt_of_le hj (by decide +kernel)))
  refine ⟨fun _ h => absurd h List.not_mem_nil, ?_⟩
  refine k _ ?_
  · exact fun j hj _ => (hd_keep hB' (Nat.lt_of_lt_of_le hj (by decide +kernel)) (by simp)).trans (hF j (Nat.lt_of_lt_of_le hj (by decide)))
theorem zgo_51 {Ls : Nat} {xs : Nat → Int32} {d : Nat} {Q : Option Value → jm_h → Prop} (hd : 1 ≤ d) (F : Nat → sy_d) (X1 X2 : List jm_c) (hB : iv_in F iv_B4)
    (k0 : ∀ F1 : Nat → sy_d, iv_in F1 iv_B4 → (∀ j, j < 69 → j ∉ ([] : List Nat) → F1 j = F j) → Q (some (.int ((1 : Int32)))) (sy_dh F1 X1 X2 (iv_H 4))) :
    hd_W Ls xs d jm_M201 Q (51, sy_dL F [some (.inl (.ref 1000)), some (.inr (.inl 69)), some (.inr (.inl 70))], sy_dS F [], sy_dh F X1 X2 (iv_H 4), 0, 0) := by
  exact zgo_51_p0 hd F X1 X2 hB  (fun F1 g  => k0 F1 (nz_in hB [] (fun j hj hn => g j hj (by simp only [List.mem_cons, List.not_mem_nil, or_false, not_or] at hn; exact trivial)) (List.forall_mem_nil _)) (fun j hj hn => g j hj (by simp only [List.mem_cons, List.not_mem_nil, or_false, not_or] at hn; exact trivial)) )
theorem zpr_0_p0 {Ls : Nat} {xs : Nat → Int32} {d : Nat} {Q : Option Value → jm_h → Prop} (hd : 3 ≤ d) (F : Nat → sy_d) (X1 X2 : List jm_c) (hB : iv_in F iv_B4)
    (h0 : 0 ≤ (sy_i F 11).toInt ∧ (sy_i F 11).toInt < 2)
    (h1 : (sy_i F 69).toInt < 0)
    (k : ∀ F1 : Nat → sy_d, (∀ j, j < 69 → True → F1 j = F j) → Q (some (.int ((0 : Int32)))) (sy_dh F1 X1 X2 (iv_H 4))) :
    hd_W Ls xs d jm_M202 Q (0, sy_dL F [some (.inl (.ref 1000)), some (.inr (.inl 69)), some (.inr (.inl 70))], sy_dS F [], sy_dh F X1 X2 (iv_H 4), 0, 0) := by
  refine hd_ret (s := 4) (nv := 71) (v := some (.inl (.int 0))) (uh := hd_ov (iv_id 0 iv_B4) []) (f := true) (sp := [45]) (d0 := 2) (O := [true]) (T := [(30, [.inr (.inl 11)], [.inr (.inl 31)]), (1, [.inr (.inl 71), .inl (.int 1)], [])]) (P := [(6, .inr (.inl 11), .inl (.ref 2)), (2, .inr (.inl 69), .inl (.int 0))]) jm_ok202 (by decide +kernel) (by decide +kernel) hd F X1 X2 (fun F' hF hs => ?_)
  have b11 := hd_b (F := F) (F' := F') (k := 11) (hF 11 (by decide))
  have b69 := hd_b (F := F) (F' := F') (k := 69) (hF 69 (by decide))
  have hB' : iv_in F' iv_B4 := iv_in_eq hB (fun j hj => hF j (Nat.lt_of_lt_of_le hj (by decide +kernel)))
  refine ⟨List.forall_mem_cons.mpr ⟨hd_pb b11 (by first | exact h0 | exact h0), List.forall_mem_cons.mpr ⟨hd_p2 b69 rfl (by have hc : ((0) : Int32).toInt = 0 := (by decide); omega), fun _ h => absurd h List.not_mem_nil⟩⟩, ?_⟩
  refine k _ ?_
  · exact fun j hj _ => (hd_keep hB' (Nat.lt_of_lt_of_le hj (by decide +kernel)) (by simp)).trans (hF j (Nat.lt_of_lt_of_le hj (by decide)))
theorem zpr_0_p1 {Ls : Nat} {xs : Nat → Int32} {d : Nat} {Q : Option Value → jm_h → Prop} (hd : 3 ≤ d) (F : Nat → sy_d) (X1 X2 : List jm_c) (hB : iv_in F iv_B4)
    (h0 : 0 ≤ (sy_i F 11).toInt ∧ (sy_i F 11).toInt < 2)
    (h1 : 0 ≤ (sy_i F 69).toInt)
    (h2 : (((sy_ai F 31).getD (sy_i F 11).toNatClampNeg 0) - ((1 : Int32))).toInt < (sy_i F 69).toInt)
    (k : ∀ F1 : Nat → sy_d, (∀ j, j < 69 → True → F1 j = F j) → Q (some (.int ((0 : Int32)))) (sy_dh F1 X1 X2 (iv_H 4))) :
    hd_W Ls xs d jm_M202 Q (0, sy_dL F [some (.inl (.ref 1000)), some (.inr (.inl 69)), some (.inr (.inl 70))], sy_dS F [], sy_dh F X1 X2 (iv_H 4), 0, 0) := by
  refine hd_ret (s := 4) (nv := 71) (v := some (.inl (.int 0))) (uh := hd_ov (iv_id 0 iv_B4) []) (f := true) (sp := [45]) (d0 := 2) (O := [false, true]) (T := [(30, [.inr (.inl 11)], [.inr (.inl 31)]), (1, [.inr (.inl 71), .inl (.int 1)], [])]) (P := [(6, .inr (.inl 11), .inl (.ref 2)), (3, .inr (.inl 69), .inl (.int 0)), (2, .inr (.inl 72), .inr (.inl 69))]) jm_ok202 (by decide +kernel) (by decide +kernel) hd F X1 X2 (fun F' hF hs => ?_)
  have b11 := hd_b (F := F) (F' := F') (k := 11) (hF 11 (by decide))
  have b69 := hd_b (F := F) (F' := F') (k := 69) (hF 69 (by decide))
  have a31 := hd_ba (F := F) (F' := F') (k := 31) (hF 31 (by decide))
  have t71 : sy_dv F' (.inr (.inl 71)) = .int ((sy_ai F 31).getD (sy_i F 11).toNatClampNeg 0) := hd_rd (hs 0 _ rfl) b11 a31
  have t72 : sy_dv F' (.inr (.inl 72)) = .int (((sy_ai F 31).getD (sy_i F 11).toNatClampNeg 0) - ((1 : Int32))) := hd_o (hs 1 _ rfl) t71 rfl rfl
  have hB' : iv_in F' iv_B4 := iv_in_eq hB (fun j hj => hF j (Nat.lt_of_lt_of_le hj (by decide +kernel)))
  refine ⟨List.forall_mem_cons.mpr ⟨hd_pb b11 (by first | exact h0 | exact h0), List.forall_mem_cons.mpr ⟨hd_p3 b69 rfl (by have hc : ((0) : Int32).toInt = 0 := (by decide); omega), List.forall_mem_cons.mpr ⟨hd_p2 t72 b69 h2, fun _ h => absurd h List.not_mem_nil⟩⟩⟩, ?_⟩
  refine k _ ?_
  · exact fun j hj _ => (hd_keep hB' (Nat.lt_of_lt_of_le hj (by decide +kernel)) (by simp)).trans (hF j (Nat.lt_of_lt_of_le hj (by decide)))
theorem zpr_0_p2 {Ls : Nat} {xs : Nat → Int32} {d : Nat} {Q : Option Value → jm_h → Prop} (hd : 3 ≤ d) (F : Nat → sy_d) (X1 X2 : List jm_c) (hB : iv_in F iv_B4)
    (h0 : 0 ≤ (sy_i F 11).toInt ∧ (sy_i F 11).toInt < 2)
    (h1 : 0 ≤ (sy_i F 69).toInt)
    (h2 : (sy_i F 69).toInt ≤ (((sy_ai F 31).getD (sy_i F 11).toNatClampNeg 0) - ((1 : Int32))).toInt)
    (h3 : 0 ≤ (((14 : Int32)) + (sy_i F 69)).toInt ∧ (((14 : Int32)) + (sy_i F 69)).toInt < 61)
    (h4 : ((sy_ai F 54).getD (((14 : Int32)) + (sy_i F 69)).toNatClampNeg 0).toInt ≠ 0)
    (k : ∀ F1 : Nat → sy_d, (∀ j, j < 69 → True → F1 j = F j) → Q (some (.int ((0 : Int32)))) (sy_dh F1 X1 X2 (iv_H 4))) :
    hd_W Ls xs d jm_M202 Q (0, sy_dL F [some (.inl (.ref 1000)), some (.inr (.inl 69)), some (.inr (.inl 70))], sy_dS F [], sy_dh F X1 X2 (iv_H 4), 0, 0) := by
  refine hd_ret (s := 4) (nv := 71) (v := some (.inl (.int 0))) (uh := hd_ov (iv_id 0 iv_B4) []) (f := true) (sp := [45]) (d0 := 2) (O := [false, false, true]) (T := [(30, [.inr (.inl 11)], [.inr (.inl 31)]), (1, [.inr (.inl 71), .inl (.int 1)], []), (0, [.inl (.int 14), .inr (.inl 69)], []), (30, [.inr (.inl 73)], [.inr (.inl 54)])]) (P := [(6, .inr (.inl 11), .inl (.ref 2)), (3, .inr (.inl 69), .inl (.int 0)), (3, .inr (.inl 72), .inr (.inl 69)), (6, .inr (.inl 73), .inl (.ref 61)), (1, .inr (.inl 74), .inl (.int 0))]) jm_ok202 (by decide +kernel) (by decide +kernel) hd F X1 X2 (fun F' hF hs => ?_)
  have b11 := hd_b (F := F) (F' := F') (k := 11) (hF 11 (by decide))
  have b69 := hd_b (F := F) (F' := F') (k := 69) (hF 69 (by decide))
  have a31 := hd_ba (F := F) (F' := F') (k := 31) (hF 31 (by decide))
  have t71 : sy_dv F' (.inr (.inl 71)) = .int ((sy_ai F 31).getD (sy_i F 11).toNatClampNeg 0) := hd_rd (hs 0 _ rfl) b11 a31
  have t72 : sy_dv F' (.inr (.inl 72)) = .int (((sy_ai F 31).getD (sy_i F 11).toNatClampNeg 0) - ((1 : Int32))) := hd_o (hs 1 _ rfl) t71 rfl rfl
  have t73 : sy_dv F' (.inr (.inl 73)) = .int (((14 : Int32)) + (sy_i F 69)) := hd_o (hs 2 _ rfl) rfl b69 rfl
  have a54 := hd_ba (F := F) (F' := F') (k := 54) (hF 54 (by decide))
  have t74 : sy_dv F' (.inr (.inl 74)) = .int ((sy_ai F 54).getD (((14 : Int32)) + (sy_i F 69)).toNatClampNeg 0) := hd_rd (hs 3 _ rfl) t73 a54
  have hB' : iv_in F' iv_B4 := iv_in_eq hB (fun j hj => hF j (Nat.lt_of_lt_of_le hj (by decide +kernel)))
  refine ⟨List.forall_mem_cons.mpr ⟨hd_pb b11 (by first | exact h0 | exact h0), List.forall_mem_cons.mpr ⟨hd_p3 b69 rfl (by have hc : ((0) : Int32).toInt = 0 := (by decide); omega), List.forall_mem_cons.mpr ⟨hd_p3 t72 b69 h2, List.forall_mem_cons.mpr ⟨hd_pb t73 (by first | exact h3 | exact h3), List.forall_mem_cons.mpr ⟨hd_p1 t74 rfl (by have hc : ((0) : Int32).toInt = 0 := (by decide); omega), fun _ h => absurd h List.not_mem_nil⟩⟩⟩⟩⟩, ?_⟩
  refine k _ ?_
  · exact fun j hj _ => (hd_keep hB' (Nat.lt_of_lt_of_le hj (by decide +kernel)) (by simp)).trans (hF j (Nat.lt_of_lt_of_le hj (by decide)))
theorem zpr_0_p3 {Ls : Nat} {xs : Nat → Int32} {d : Nat} {Q : Option Value → jm_h → Prop} (hd : 3 ≤ d) (F : Nat → sy_d) (X1 X2 : List jm_c) (hB : iv_in F iv_B4)
    (h0 : 0 ≤ (sy_i F 11).toInt ∧ (sy_i F 11).toInt < 2)
    (h1 : 0 ≤ (sy_i F 69).toInt)
    (h2 : (sy_i F 69).toInt ≤ (((sy_ai F 31).getD (sy_i F 11).toNatClampNeg 0) - ((1 : Int32))).toInt)
    (h3 : 0 ≤ (((14 : Int32)) + (sy_i F 69)).toInt ∧ (((14 : Int32)) + (sy_i F 69)).toInt < 61)
    (h4 : ((sy_ai F 54).getD (((14 : Int32)) + (sy_i F 69)).toNatClampNeg 0).toInt = 0)
    (h5 : 0 ≤ (((35 : Int32)) + (sy_i F 69)).toInt ∧ (((35 : Int32)) + (sy_i F 69)).toInt < 61)
    (h6 : ((sy_ai F 54).getD (((35 : Int32)) + (sy_i F 69)).toNatClampNeg 0).toInt ≠ 1)
    (h7 : 0 ≠ (sy_i F 70).toInt)
    (k : ∀ F1 : Nat → sy_d, (∀ j, j < 69 → True → F1 j = F j) → F1 69 = .inl (.int (sy_i F 69)) → F1 70 = .inl (.int (sy_i F 70)) → hd_W Ls xs d jm_M202 Q (45, sy_dL F1 [some (.inl (.ref 1000)), some (.inr (.inl 69)), some (.inr (.inl 70))], sy_dS F1 [.inl (.ref 1000)], sy_dh F1 X1 X2 (iv_H 4), 0, 0)) :
    hd_W Ls xs d jm_M202 Q (0, sy_dL F [some (.inl (.ref 1000)), some (.inr (.inl 69)), some (.inr (.inl 70))], sy_dS F [], sy_dh F X1 X2 (iv_H 4), 0, 0) := by
  refine hd_run (s := 4) (nv := 71) (pc := 45) (L := [some (.inl (.ref 1000)), some (.inr (.inl 69)), some (.inr (.inl 70))]) (S := [.inl (.ref 1000)]) (uh := hd_ov (iv_id 0 iv_B4) []) (ul := [.inl (.inr (.inl 69)), .inl (.inr (.inl 70))]) (f := true) (sp := [45]) (d0 := 2) (O := [false, false, false, true, true]) (T := [(30, [.inr (.inl 11)], [.inr (.inl 31)]), (1, [.inr (.inl 71), .inl (.int 1)], []), (0, [.inl (.int 14), .inr (.inl 69)], []), (30, [.inr (.inl 73)], [.inr (.inl 54)]), (0, [.inl (.int 35), .inr (.inl 69)], []), (30, [.inr (.inl 75)], [.inr (.inl 54)])]) (P := [(6, .inr (.inl 11), .inl (.ref 2)), (3, .inr (.inl 69), .inl (.int 0)), (3, .inr (.inl 72), .inr (.inl 69)), (6, .inr (.inl 73), .inl (.ref 61)), (0, .inr (.inl 74), .inl (.int 0)), (6, .inr (.inl 75), .inl (.ref 61)), (1, .inr (.inl 76), .inl (.int 1)), (1, .inl (.int 0), .inr (.inl 70))]) jm_ok202 (by decide +kernel) (by decide +kernel) hd F X1 X2 (fun F' hF hs => ?_)
  have b11 := hd_b (F := F) (F' := F') (k := 11) (hF 11 (by decide))
  have b69 := hd_b (F := F) (F' := F') (k := 69) (hF 69 (by decide))
  have a31 := hd_ba (F := F) (F' := F') (k := 31) (hF 31 (by decide))
  have t71 : sy_dv F' (.inr (.inl 71)) = .int ((sy_ai F 31).getD (sy_i F 11).toNatClampNeg 0) := hd_rd (hs 0 _ rfl) b11 a31
  have t72 : sy_dv F' (.inr (.inl 72)) = .int (((sy_ai F 31).getD (sy_i F 11).toNatClampNeg 0) - ((1 : Int32))) := hd_o (hs 1 _ rfl) t71 rfl rfl
  have t73 : sy_dv F' (.inr (.inl 73)) = .int (((14 : Int32)) + (sy_i F 69)) := hd_o (hs 2 _ rfl) rfl b69 rfl
  have a54 := hd_ba (F := F) (F' := F') (k := 54) (hF 54 (by decide))
  have t74 : sy_dv F' (.inr (.inl 74)) = .int ((sy_ai F 54).getD (((14 : Int32)) + (sy_i F 69)).toNatClampNeg 0) := hd_rd (hs 3 _ rfl) t73 a54
  have t75 : sy_dv F' (.inr (.inl 75)) = .int (((35 : Int32)) + (sy_i F 69)) := hd_o (hs 4 _ rfl) rfl b69 rfl
  have t76 : sy_dv F' (.inr (.inl 76)) = .int ((sy_ai F 54).getD (((35 : Int32)) + (sy_i F 69)).toNatClampNeg 0) := hd_rd (hs 5 _ rfl) t75 a54
  have b70 := hd_b (F := F) (F' := F') (k := 70) (hF 70 (by decide))
  have hB' : iv_in F' iv_B4 := iv_in_eq hB (fun j hj => hF j (Nat.lt_of_lt_of_le hj (by decide +kernel)))
  refine ⟨List.forall_mem_cons.mpr ⟨hd_pb b11 (by first | exact h0 | exact h0), List.forall_mem_cons.mpr ⟨hd_p3 b69 rfl (by have hc : ((0) : Int32).toInt = 0 := (by decide); omega), List.forall_mem_cons.mpr ⟨hd_p3 t72 b69 h2, List.forall_mem_cons.mpr ⟨hd_pb t73 (by first | exact h3 | exact h3), List.forall_mem_cons.mpr ⟨hd_p0 t74 rfl (by have hc : ((0) : Int32).toInt = 0 := (by decide); omega), List.forall_mem_cons.mpr ⟨hd_pb t75 (by first | exact h5 | exact h5), List.forall_mem_cons.mpr ⟨hd_p1 t76 rfl (by have hc : ((1) : Int32).toInt = 1 := (by decide); omega), List.forall_mem_cons.mpr ⟨hd_p1 rfl b70 (by have hc : ((0) : Int32).toInt = 0 := (by decide); omega), fun _ h => absurd h List.not_mem_nil⟩⟩⟩⟩⟩⟩⟩⟩, ?_⟩
  refine k _ ?_ ?_ ?_
  · exact fun j hj _ => (hd_keep hB' (Nat.lt_of_lt_of_le hj (by decide +kernel)) (by simp)).trans (hF j (Nat.lt_of_lt_of_le hj (by decide)))
  · exact hd_gi (x := .inr (.inl 69)) (by decide +kernel) b69
  · exact hd_gi (x := .inr (.inl 70)) (by decide +kernel) b70
theorem zpr_0_p4 {Ls : Nat} {xs : Nat → Int32} {d : Nat} {Q : Option Value → jm_h → Prop} (hd : 3 ≤ d) (F : Nat → sy_d) (X1 X2 : List jm_c) (hB : iv_in F iv_B4)
    (h0 : 0 ≤ (sy_i F 11).toInt ∧ (sy_i F 11).toInt < 2)
    (h1 : 0 ≤ (sy_i F 69).toInt)
    (h2 : (sy_i F 69).toInt ≤ (((sy_ai F 31).getD (sy_i F 11).toNatClampNeg 0) - ((1 : Int32))).toInt)
    (h3 : 0 ≤ (((14 : Int32)) + (sy_i F 69)).toInt ∧ (((14 : Int32)) + (sy_i F 69)).toInt < 61)
    (h4 : ((sy_ai F 54).getD (((14 : Int32)) + (sy_i F 69)).toNatClampNeg 0).toInt = 0)
    (h5 : 0 ≤ (((35 : Int32)) + (sy_i F 69)).toInt ∧ (((35 : Int32)) + (sy_i F 69)).toInt < 61)
    (h6 : ((sy_ai F 54).getD (((35 : Int32)) + (sy_i F 69)).toNatClampNeg 0).toInt ≠ 1)
    (h7 : 0 = (sy_i F 70).toInt)
    (k : ∀ F1 : Nat → sy_d, (∀ j, j < 69 → True → F1 j = F j) → Q (some (.int ((0 : Int32)))) (sy_dh F1 X1 X2 (iv_H 4))) :
    hd_W Ls xs d jm_M202 Q (0, sy_dL F [some (.inl (.ref 1000)), some (.inr (.inl 69)), some (.inr (.inl 70))], sy_dS F [], sy_dh F X1 X2 (iv_H 4), 0, 0) := by
  refine hd_ret (s := 4) (nv := 71) (v := some (.inl (.int 0))) (uh := hd_ov (iv_id 0 iv_B4) []) (f := true) (sp := [45]) (d0 := 2) (O := [false, false, false, true, false]) (T := [(30, [.inr (.inl 11)], [.inr (.inl 31)]), (1, [.inr (.inl 71), .inl (.int 1)], []), (0, [.inl (.int 14), .inr (.inl 69)], []), (30, [.inr (.inl 73)], [.inr (.inl 54)]), (0, [.inl (.int 35), .inr (.inl 69)], []), (30, [.inr (.inl 75)], [.inr (.inl 54)])]) (P := [(6, .inr (.inl 11), .inl (.ref 2)), (3, .inr (.inl 69), .inl (.int 0)), (3, .inr (.inl 72), .inr (.inl 69)), (6, .inr (.inl 73), .inl (.ref 61)), (0, .inr (.inl 74), .inl (.int 0)), (6, .inr (.inl 75), .inl (.ref 61)), (1, .inr (.inl 76), .inl (.int 1)), (0, .inl (.int 0), .inr (.inl 70))]) jm_ok202 (by decide +kernel) (by decide +kernel) hd F X1 X2 (fun F' hF hs => ?_)
  have b11 := hd_b (F := F) (F' := F') (k := 11) (hF 11 (by decide))
  have b69 := hd_b (F := F) (F' := F') (k := 69) (hF 69 (by decide))
  have a31 := hd_ba (F := F) (F' := F') (k := 31) (hF 31 (by decide))
  have t71 : sy_dv F' (.inr (.inl 71)) = .int ((sy_ai F 31).getD (sy_i F 11).toNatClampNeg 0) := hd_rd (hs 0 _ rfl) b11 a31
  have t72 : sy_dv F' (.inr (.inl 72)) = .int (((sy_ai F 31).getD (sy_i F 11).toNatClampNeg 0) - ((1 : Int32))) := hd_o (hs 1 _ rfl) t71 rfl rfl
  have t73 : sy_dv F' (.inr (.inl 73)) = .int (((14 : Int32)) + (sy_i F 69)) := hd_o (hs 2 _ rfl) rfl b69 rfl
  have a54 := hd_ba (F := F) (F' := F') (k := 54) (hF 54 (by decide))
  have t74 : sy_dv F' (.inr (.inl 74)) = .int ((sy_ai F 54).getD (((14 : Int32)) + (sy_i F 69)).toNatClampNeg 0) := hd_rd (hs 3 _ rfl) t73 a54
  have t75 : sy_dv F' (.inr (.inl 75)) = .int (((35 : Int32)) + (sy_i F 69)) := hd_o (hs 4 _ rfl) rfl b69 rfl
  have t76 : sy_dv F' (.inr (.inl 76)) = .int ((sy_ai F 54).getD (((35 : Int32)) + (sy_i F 69)).toNatClampNeg 0) := hd_rd (hs 5 _ rfl) t75 a54
  have b70 := hd_b (F := F) (F' := F') (k := 70) (hF 70 (by decide))
  have hB' : iv_in F' iv_B4 := iv_in_eq hB (fun j hj => hF j (Nat.lt_of_lt_of_le hj (by decide +kernel)))
  refine ⟨List.forall_mem_cons.mpr ⟨hd_pb b11 (by first | exact h0 | exact h0), List.forall_mem_cons.mpr ⟨hd_p3 b69 rfl (by have hc : ((0) : Int32).toInt = 0 := (by decide); omega), List.forall_mem_cons.mpr ⟨hd_p3 t72 b69 h2, List.forall_mem_cons.mpr ⟨hd_pb t73 (by first | exact h3 | exact h3), List.forall_mem_cons.mpr ⟨hd_p0 t74 rfl (by have hc : ((0) : Int32).toInt = 0 := (by decide); omega), List.forall_mem_cons.mpr ⟨hd_pb t75 (by first | exact h5 | exact h5), List.forall_mem_cons.mpr ⟨hd_p1 t76 rfl (by have hc : ((1) : Int32).toInt = 1 := (by decide); omega), List.forall_mem_cons.mpr ⟨hd_p0 rfl b70 (by have hc : ((0) : Int32).toInt = 0 := (by decide); omega), fun _ h => absurd h List.not_mem_nil⟩⟩⟩⟩⟩⟩⟩⟩, ?_⟩
  refine k _ ?_
  · exact fun j hj _ => (hd_keep hB' (Nat.lt_of_lt_of_le hj (by decide +kernel)) (by simp)).trans (hF j (Nat.lt_of_lt_of_le hj (by decide)))
theorem zpr_0_p5 {Ls : Nat} {xs : Nat → Int32} {d : Nat} {Q : Option Value → jm_h → Prop} (hd : 3 ≤ d) (F : Nat → sy_d) (X1 X2 : List jm_c) (hB : iv_in F iv_B4)
    (h0 : 0 ≤ (sy_i F 11).toInt ∧ (sy_i F 11).toInt < 2)
    (h1 : 0 ≤ (sy_i F 69).toInt)
    (h2 : (sy_i F 69).toInt ≤ (((sy_ai F 31).getD (sy_i F 11).toNatClampNeg 0) - ((1 : Int32))).toInt)
    (h3 : 0 ≤ (((14 : Int32)) + (sy_i F 69)).toInt ∧ (((14 : Int32)) + (sy_i F 69)).toInt < 61)
    (h4 : ((sy_ai F 54).getD (((14 : Int32)) + (sy_i F 69)).toNatClampNeg 0).toInt = 0)
    (h5 : 0 ≤ (((35 : Int32)) + (sy_i F 69)).toInt ∧ (((35 : Int32)) + (sy_i F 69)).toInt < 61)
    (h6 : ((sy_ai F 54).getD (((35 : Int32)) + (sy_i F 69)).toNatClampNeg 0).toInt = 1)
    (h7 : 1 ≠ (sy_i F 70).toInt)
    (k : ∀ F1 : Nat → sy_d, (∀ j, j < 69 → True → F1 j = F j) → F1 69 = .inl (.int (sy_i F 69)) → F1 70 = .inl (.int (sy_i F 70)) → hd_W Ls xs d jm_M202 Q (45, sy_dL F1 [some (.inl (.ref 1000)), some (.inr (.inl 69)), some (.inr (.inl 70))], sy_dS F1 [.inl (.ref 1000)], sy_dh F1 X1 X2 (iv_H 4), 0, 0)) :
    hd_W Ls xs d jm_M202 Q (0, sy_dL F [some (.inl (.ref 1000)), some (.inr (.inl 69)), some (.inr (.inl 70))], sy_dS F [], sy_dh F X1 X2 (iv_H 4), 0, 0) := by
  refine hd_run (s := 4) (nv := 71) (pc := 45) (L := [some (.inl (.ref 1000)), some (.inr (.inl 69)), some (.inr (.inl 70))]) (S := [.inl (.ref 1000)]) (uh := hd_ov (iv_id 0 iv_B4) []) (ul := [.inl (.inr (.inl 69)), .inl (.inr (.inl 70))]) (f := true) (sp := [45]) (d0 := 2) (O := [false, false, false, false, true]) (T := [(30, [.inr (.inl 11)], [.inr (.inl 31)]), (1, [.inr (.inl 71), .inl (.int 1)], []), (0, [.inl (.int 14), .inr (.inl 69)], []), (30, [.inr (.inl 73)], [.inr (.inl 54)]), (0, [.inl (.int 35), .inr (.inl 69)], []), (30, [.inr (.inl 75)], [.inr (.inl 54)])]) (P := [(6, .inr (.inl 11), .inl (.ref 2)), (3, .inr (.inl 69), .inl (.int 0)), (3, .inr (.inl 72), .inr (.inl 69)), (6, .inr (.inl 73), .inl (.ref 61)), (0, .inr (.inl 74), .inl (.int 0)), (6, .inr (.inl 75), .inl (.ref 61)), (0, .inr (.inl 76), .inl (.int 1)), (1, .inl (.int 1), .inr (.inl 70))]) jm_ok202 (by decide +kernel) (by decide +kernel) hd F X1 X2 (fun F' hF hs => ?_)
  have b11 := hd_b (F := F) (F' := F') (k := 11) (hF 11 (by decide))
  have b69 := hd_b (F := F) (F' := F') (k := 69) (hF 69 (by decide))
  have a31 := hd_ba (F := F) (F' := F') (k := 31) (hF 31 (by decide))
  have t71 : sy_dv F' (.inr (.inl 71)) = .int ((sy_ai F 31).getD (sy_i F 11).toNatClampNeg 0) := hd_rd (hs 0 _ rfl) b11 a31
  have t72 : sy_dv F' (.inr (.inl 72)) = .int (((sy_ai F 31).getD (sy_i F 11).toNatClampNeg 0) - ((1 : Int32))) := hd_o (hs 1 _ rfl) t71 rfl rfl
  have t73 : sy_dv F' (.inr (.inl 73)) = .int (((14 : Int32)) + (sy_i F 69)) := hd_o (hs 2 _ rfl) rfl b69 rfl
  have a54 := hd_ba (F := F) (F' := F') (k := 54) (hF 54 (by decide))
  have t74 : sy_dv F' (.inr (.inl 74)) = .int ((sy_ai F 54).getD (((14 : Int32)) + (sy_i F 69)).toNatClampNeg 0) := hd_rd (hs 3 _ rfl) t73 a54
  have t75 : sy_dv F' (.inr (.inl 75)) = .int (((35 : Int32)) + (sy_i F 69)) := hd_o (hs 4 _ rfl) rfl b69 rfl
  have t76 : sy_dv F' (.inr (.inl 76)) = .int ((sy_ai F 54).getD (((35 : Int32)) + (sy_i F 69)).toNatClampNeg 0) := hd_rd (hs 5 _ rfl) t75 a54
  have b70 := hd_b (F := F) (F' := F') (k := 70) (hF 70 (by decide))
  have hB' : iv_in F' iv_B4 := iv_in_eq hB (fun j hj => hF j (Nat.lt_of_lt_of_le hj (by decide +kernel)))
  refine ⟨List.forall_mem_cons.mpr ⟨hd_pb b11 (by first | exact h0 | exact h0), List.forall_mem_cons.mpr ⟨hd_p3 b69 rfl (by have hc : ((0) : Int32).toInt = 0 := (by decide); omega), List.forall_mem_cons.mpr ⟨hd_p3 t72 b69 h2, List.forall_mem_cons.mpr ⟨hd_pb t73 (by first | exact h3 | exact h3), List.forall_mem_cons.mpr ⟨hd_p0 t74 rfl (by have hc : ((0) : Int32).toInt = 0 := (by decide); omega), List.forall_mem_cons.mpr ⟨hd_pb t75 (by first | exact h5 | exact h5), List.forall_mem_cons.mpr ⟨hd_p0 t76 rfl (by have hc : ((1) : Int32).toInt = 1 := (by decide); omega), List.forall_mem_cons.mpr ⟨hd_p1 rfl b70 (by have hc : ((1) : Int32).toInt = 1 := (by decide); omega), fun _ h => absurd h List.not_mem_nil⟩⟩⟩⟩⟩⟩⟩⟩, ?_⟩
  refine k _ ?_ ?_ ?_
  · exact fun j hj _ => (hd_keep hB' (Nat.lt_of_lt_of_le hj (by decide +kernel)) (by simp)).trans (hF j (Nat.lt_of_lt_of_le hj (by decide)))
  · exact hd_gi (x := .inr (.inl 69)) (by decide +kernel) b69
  · exact hd_gi (x := .inr (.inl 70)) (by decide +kernel) b70
theorem zpr_0_p6 {Ls : Nat} {xs : Nat → Int32} {d : Nat} {Q : Option Value → jm_h → Prop} (hd : 3 ≤ d) (F : Nat → sy_d) (X1 X2 : List jm_c) (hB : iv_in F iv_B4)
    (h0 : 0 ≤ (sy_i F 11).toInt ∧ (sy_i F 11).toInt < 2)
    (h1 : 0 ≤ (sy_i F 69).toInt)
    (h2 : (sy_i F 69).toInt ≤ (((sy_ai F 31).getD (sy_i F 11).toNatClampNeg 0) - ((1 : Int32))).toInt)
    (h3 : 0 ≤ (((14 : Int32)) + (sy_i F 69)).toInt ∧ (((14 : Int32)) + (sy_i F 69)).toInt < 61)
    (h4 : ((sy_ai F 54).getD (((14 : Int32)) + (sy_i F 69)).toNatClampNeg 0).toInt = 0)
    (h5 : 0 ≤ (((35 : Int32)) + (sy_i F 69)).toInt ∧ (((35 : Int32)) + (sy_i F 69)).toInt < 61)
    (h6 : ((sy_ai F 54).getD (((35 : Int32)) + (sy_i F 69)).toNatClampNeg 0).toInt = 1)
    (h7 : 1 = (sy_i F 70).toInt)
    (k : ∀ F1 : Nat → sy_d, (∀ j, j < 69 → True → F1 j = F j) → Q (some (.int ((0 : Int32)))) (sy_dh F1 X1 X2 (iv_H 4))) :
    hd_W Ls xs d jm_M202 Q (0, sy_dL F [some (.inl (.ref 1000)), some (.inr (.inl 69)), some (.inr (.inl 70))], sy_dS F [], sy_dh F X1 X2 (iv_H 4), 0, 0) := by
  refine hd_ret (s := 4) (nv := 71) (v := some (.inl (.int 0))) (uh := hd_ov (iv_id 0 iv_B4) []) (f := true) (sp := [45]) (d0 := 2) (O := [false, false, false, false, false]) (T := [(30, [.inr (.inl 11)], [.inr (.inl 31)]), (1, [.inr (.inl 71), .inl (.int 1)], []), (0, [.inl (.int 14), .inr (.inl 69)], []), (30, [.inr (.inl 73)], [.inr (.inl 54)]), (0, [.inl (.int 35), .inr (.inl 69)], []), (30, [.inr (.inl 75)], [.inr (.inl 54)])]) (P := [(6, .inr (.inl 11), .inl (.ref 2)), (3, .inr (.inl 69), .inl (.int 0)), (3, .inr (.inl 72), .inr (.inl 69)), (6, .inr (.inl 73), .inl (.ref 61)), (0, .inr (.inl 74), .inl (.int 0)), (6, .inr (.inl 75), .inl (.ref 61)), (0, .inr (.inl 76), .inl (.int 1)), (0, .inl (.int 1), .inr (.inl 70))]) jm_ok202 (by decide +kernel) (by decide +kernel) hd F X1 X2 (fun F' hF hs => ?_)
  have b11 := hd_b (F := F) (F' := F') (k := 11) (hF 11 (by decide))
  have b69 := hd_b (F := F) (F' := F') (k := 69) (hF 69 (by decide))
  have a31 := hd_ba (F := F) (F' := F') (k := 31) (hF 31 (by decide))
  have t71 : sy_dv F' (.inr (.inl 71)) = .int ((sy_ai F 31).getD (sy_i F 11).toNatClampNeg 0) := hd_rd (hs 0 _ rfl) b11 a31
  have t72 : sy_dv F' (.inr (.inl 72)) = .int (((sy_ai F 31).getD (sy_i F 11).toNatClampNeg 0) - ((1 : Int32))) := hd_o (hs 1 _ rfl) t71 rfl rfl
  have t73 : sy_dv F' (.inr (.inl 73)) = .int (((14 : Int32)) + (sy_i F 69)) := hd_o (hs 2 _ rfl) rfl b69 rfl
  have a54 := hd_ba (F := F) (F' := F') (k := 54) (hF 54 (by decide))
  have t74 : sy_dv F' (.inr (.inl 74)) = .int ((sy_ai F 54).getD (((14 : Int32)) + (sy_i F 69)).toNatClampNeg 0) := hd_rd (hs 3 _ rfl) t73 a54
  have t75 : sy_dv F' (.inr (.inl 75)) = .int (((35 : Int32)) + (sy_i F 69)) := hd_o (hs 4 _ rfl) rfl b69 rfl
  have t76 : sy_dv F' (.inr (.inl 76)) = .int ((sy_ai F 54).getD (((35 : Int32)) + (sy_i F 69)).toNatClampNeg 0) := hd_rd (hs 5 _ rfl) t75 a54
  have b70 := hd_b (F := F) (F' := F') (k := 70) (hF 70 (by decide))
  have hB' : iv_in F' iv_B4 := iv_in_eq hB (fun j hj => hF j (Nat.lt_of_lt_of_le hj (by decide +kernel)))
  refine ⟨List.forall_mem_cons.mpr ⟨hd_pb b11 (by first | exact h0 | exact h0), List.forall_mem_cons.mpr ⟨hd_p3 b69 rfl (by have hc : ((0) : Int32).toInt = 0 := (by decide); omega), List.forall_mem_cons.mpr ⟨hd_p3 t72 b69 h2, List.forall_mem_cons.mpr ⟨hd_pb t73 (by first | exact h3 | exact h3), List.forall_mem_cons.mpr ⟨hd_p0 t74 rfl (by have hc : ((0) : Int32).toInt = 0 := (by decide); omega), List.forall_mem_cons.mpr ⟨hd_pb t75 (by first | exact h5 | exact h5), List.forall_mem_cons.mpr ⟨hd_p0 t76 rfl (by have hc : ((1) : Int32).toInt = 1 := (by decide); omega), List.forall_mem_cons.mpr ⟨hd_p0 rfl b70 (by have hc : ((1) : Int32).toInt = 1 := (by decide); omega), fun _ h => absurd h List.not_mem_nil⟩⟩⟩⟩⟩⟩⟩⟩, ?_⟩
  refine k _ ?_
  · exact fun j hj _ => (hd_keep hB' (Nat.lt_of_lt_of_le hj (by decide +kernel)) (by simp)).trans (hF j (Nat.lt_of_lt_of_le hj (by decide)))
theorem zpr_0 {Ls : Nat} {xs : Nat → Int32} {d : Nat} {Q : Option Value → jm_h → Prop} (hd : 3 ≤ d) (F : Nat → sy_d) (X1 X2 : List jm_c) (hB : iv_in F iv_B4)
    (a70 : 0 ≤ (sy_i F 70).toInt ∧ (sy_i F 70).toInt ≤ 1)
    (k0 : (sy_i F 69).toInt < 0 → ∀ F1 : Nat → sy_d, iv_in F1 iv_B4 → (∀ j, j < 69 → j ∉ ([] : List Nat) → F1 j = F j) → Q (some (.int ((0 : Int32)))) (sy_dh F1 X1 X2 (iv_H 4)))
    (k1 : 0 ≤ (sy_i F 69).toInt → (((sy_ai F 31).getD ((sy_i F 11).toInt).toNat 0).toInt - 1) < (sy_i F 69).toInt → ∀ F1 : Nat → sy_d, iv_in F1 iv_B4 → (∀ j, j < 69 → j ∉ ([] : List Nat) → F1 j = F j) → Q (some (.int ((0 : Int32)))) (sy_dh F1 X1 X2 (iv_H 4)))
    (k2 : 0 ≤ (sy_i F 69).toInt → (sy_i F 69).toInt ≤ (((sy_ai F 31).getD ((sy_i F 11).toInt).toNat 0).toInt - 1) → ((sy_ai F 54).getD ((14 + (sy_i F 69).toInt)).toNat 0).toInt ≠ 0 → ∀ F1 : Nat → sy_d, iv_in F1 iv_B4 → (∀ j, j < 69 → j ∉ ([] : List Nat) → F1 j = F j) → Q (some (.int ((0 : Int32)))) (sy_dh F1 X1 X2 (iv_H 4)))
    (k3 : 0 ≤ (sy_i F 69).toInt → (sy_i F 69).toInt ≤ (((sy_ai F 31).getD ((sy_i F 11).toInt).toNat 0).toInt - 1) → ((sy_ai F 54).getD ((14 + (sy_i F 69).toInt)).toNat 0).toInt = 0 → ((sy_ai F 54).getD ((35 + (sy_i F 69).toInt)).toNat 0).toInt ≠ 1 → 0 ≠ (sy_i F 70).toInt → ∀ F1 : Nat → sy_d, iv_in F1 iv_B4 → (∀ j, j < 69 → j ∉ ([] : List Nat) → F1 j = F j) → (sy_i F1 69).toInt = (sy_i F 69).toInt → sy_i F1 69 = sy_i F 69 → (sy_i F1 70).toInt = (sy_i F 70).toInt → sy_i F1 70 = sy_i F 70 → hd_W Ls xs d jm_M202 Q (45, sy_dL F1 [some (.inl (.ref 1000)), some (.inr (.inl 69)), some (.inr (.inl 70))], sy_dS F1 [.inl (.ref 1000)], sy_dh F1 X1 X2 (iv_H 4), 0, 0))
    (k4 : 0 ≤ (sy_i F 69).toInt → (sy_i F 69).toInt ≤ (((sy_ai F 31).getD ((sy_i F 11).toInt).toNat 0).toInt - 1) → ((sy_ai F 54).getD ((14 + (sy_i F 69).toInt)).toNat 0).toInt = 0 → ((sy_ai F 54).getD ((35 + (sy_i F 69).toInt)).toNat 0).toInt ≠ 1 → 0 = (sy_i F 70).toInt → ∀ F1 : Nat → sy_d, iv_in F1 iv_B4 → (∀ j, j < 69 → j ∉ ([] : List Nat) → F1 j = F j) → Q (some (.int ((0 : Int32)))) (sy_dh F1 X1 X2 (iv_H 4)))
    (k5 : 0 ≤ (sy_i F 69).toInt → (sy_i F 69).toInt ≤ (((sy_ai F 31).getD ((sy_i F 11).toInt).toNat 0).toInt - 1) → ((sy_ai F 54).getD ((14 + (sy_i F 69).toInt)).toNat 0).toInt = 0 → ((sy_ai F 54).getD ((35 + (sy_i F 69).toInt)).toNat 0).toInt = 1 → 1 ≠ (sy_i F 70).toInt → ∀ F1 : Nat → sy_d, iv_in F1 iv_B4 → (∀ j, j < 69 → j ∉ ([] : List Nat) → F1 j = F j) → (sy_i F1 69).toInt = (sy_i F 69).toInt → sy_i F1 69 = sy_i F 69 → (sy_i F1 70).toInt = (sy_i F 70).toInt → sy_i F1 70 = sy_i F 70 → hd_W Ls xs d jm_M202 Q (45, sy_dL F1 [some (.inl (.ref 1000)), some (.inr (.inl 69)), some (.inr (.inl 70))], sy_dS F1 [.inl (.ref 1000)], sy_dh F1 X1 X2 (iv_H 4), 0, 0))
    (k6 : 0 ≤ (sy_i F 69).toInt → (sy_i F 69).toInt ≤ (((sy_ai F 31).getD ((sy_i F 11).toInt).toNat 0).toInt - 1) → ((sy_ai F 54).getD ((14 + (sy_i F 69).toInt)).toNat 0).toInt = 0 → ((sy_ai F 54).getD ((35 + (sy_i F 69).toInt)).toNat 0).toInt = 1 → 1 = (sy_i F 70).toInt → ∀ F1 : Nat → sy_d, iv_in F1 iv_B4 → (∀ j, j < 69 → j ∉ ([] : List Nat) → F1 j = F j) → Q (some (.int ((0 : Int32)))) (sy_dh F1 X1 X2 (iv_H 4))) :
    hd_W Ls xs d jm_M202 Q (0, sy_dL F [some (.inl (.ref 1000)), some (.inr (.inl 69)), some (.inr (.inl 70))], sy_dS F [], sy_dh F X1 X2 (iv_H 4), 0, 0) := by
  by_cases g0 : (sy_i F 69).toInt < 0
  · have c11 := nz_bx hB (k := 11) (lo := 0) (hi := 1) rfl
    exact zpr_0_p0 hd F X1 X2 hB (by first | exact ⟨by omega, by omega⟩ | (simp only [nz_c]; exact ⟨by omega, by omega⟩)) (by first | exact g0 | (simp only [nz_c]; exact g0)) (fun F1 g  => k0 g0 F1 (nz_in hB [] (fun j hj hn => g j hj (by simp only [List.mem_cons, List.not_mem_nil, or_false, not_or] at hn; exact trivial)) (List.forall_mem_nil _)) (fun j hj hn => g j hj (by simp only [List.mem_cons, List.not_mem_nil, or_false, not_or] at hn; exact trivial)) )
  replace g0 : 0 ≤ (sy_i F 69).toInt := by omega
  by_cases g1 : (((sy_ai F 31).getD ((sy_i F 11).toInt).toNat 0).toInt - 1) < (sy_i F 69).toInt
  · have c11 := nz_bx hB (k := 11) (lo := 0) (hi := 1) rfl
    have q71 : (sy_ai F 31).getD (sy_i F 11).toNatClampNeg 0 = (sy_ai F 31).getD ((sy_i F 11).toInt).toNat 0 := by simp only [nz_c]
    have n71 : nzI ((sy_ai F 31).getD (sy_i F 11).toNatClampNeg 0) (((sy_ai F 31).getD ((sy_i F 11).toInt).toNat 0).toInt) := congrArg Int32.toInt q71
    have r71 := nz_ba hB (k := 31) (lo := 0) (hi := 7) rfl ((sy_i F 11).toInt).toNat
    have n72 : nzI (((sy_ai F 31).getD (sy_i F 11).toNatClampNeg 0) - ((1 : Int32))) ((((sy_ai F 31).getD ((sy_i F 11).toInt).toNat 0).toInt - 1)) := nz_sub (nzE n71) (by decide : ((1 : Int32)).toInt = 1) (by omega) (by omega)
    have q72 : ((sy_ai F 31).getD (sy_i F 11).toNatClampNeg 0) - ((1 : Int32)) = ((sy_ai F 31).getD ((sy_i F 11).toInt).toNat 0) - ((1 : Int32)) := by simp only [nz_c, (nzE n72), (by decide : ((1 : Int32)).toInt = 1)]
    have m72 : nzI (((sy_ai F 31).getD ((sy_i F 11).toInt).toNat 0) - ((1 : Int32))) ((((sy_ai F 31).getD ((sy_i F 11).toInt).toNat 0).toInt - 1)) := (congrArg Int32.toInt q72.symm).trans (nzE n72)
    exact zpr_0_p1 hd F X1 X2 hB (by first | exact ⟨by omega, by omega⟩ | (simp only [nz_c]; exact ⟨by omega, by omega⟩)) (by first | exact g0 | (simp only [nz_c]; exact g0)) (by first | (simp only [nz_c, (nzE n72), (nzE m72)]; exact g1) | exact g1 | (rw [(nzE n72)]; exact g1)) (fun F1 g  => k1 g0 g1 F1 (nz_in hB [] (fun j hj hn => g j hj (by simp only [List.mem_cons, List.not_mem_nil, or_false, not_or] at hn; exact trivial)) (List.forall_mem_nil _)) (fun j hj hn => g j hj (by simp only [List.mem_cons, List.not_mem_nil, or_false, not_or] at hn; exact trivial)) )
  replace g1 : (sy_i F 69).toInt ≤ (((sy_ai F 31).getD ((sy_i F 11).toInt).toNat 0).toInt - 1) := by omega
  by_cases g2 : ((sy_ai F 54).getD ((14 + (sy_i F 69).toInt)).toNat 0).toInt ≠ 0
  · have c11 := nz_bx hB (k := 11) (lo := 0) (hi := 1) rfl
    have q71 : (sy_ai F 31).getD (sy_i F 11).toNatClampNeg 0 = (sy_ai F 31).getD ((sy_i F 11).toInt).toNat 0 := by simp only [nz_c]
    have n71 : nzI ((sy_ai F 31).getD (sy_i F 11).toNatClampNeg 0) (((sy_ai F 31).getD ((sy_i F 11).toInt).toNat 0).toInt) := congrArg Int32.toInt q71
    have r71 := nz_ba hB (k := 31) (lo := 0) (hi := 7) rfl ((sy_i F 11).toInt).toNat
    have n72 : nzI (((sy_ai F 31).getD (sy_i F 11).toNatClampNeg 0) - ((1 : Int32))) ((((sy_ai F 31).getD ((sy_i F 11).toInt).toNat 0).toInt - 1)) := nz_sub (nzE n71) (by decide : ((1 : Int32)).toInt = 1) (by omega) (by omega)
    have n73 : nzI (((14 : Int32)) + (sy_i F 69)) ((14 + (sy_i F 69).toInt)) := nz_add (by decide : ((14 : Int32)).toInt = 14) (rfl : (sy_i F 69).toInt = (sy_i F 69).toInt) (by omega) (by omega)
    have q74 : (sy_ai F 54).getD (((14 : Int32)) + (sy_i F 69)).toNatClampNeg 0 = (sy_ai F 54).getD ((14 + (sy_i F 69).toInt)).toNat 0 := by simp only [nz_c, (nzE n73), (by decide : ((14 : Int32)).toInt = 14)]
    have n74 : nzI ((sy_ai F 54).getD (((14 : Int32)) + (sy_i F 69)).toNatClampNeg 0) (((sy_ai F 54).getD ((14 + (sy_i F 69).toInt)).toNat 0).toInt) := congrArg Int32.toInt q74
    have q72 : ((sy_ai F 31).getD (sy_i F 11).toNatClampNeg 0) - ((1 : Int32)) = ((sy_ai F 31).getD ((sy_i F 11).toInt).toNat 0) - ((1 : Int32)) := by simp only [nz_c, (nzE n72), (by decide : ((1 : Int32)).toInt = 1)]
    have m72 : nzI (((sy_ai F 31).getD ((sy_i F 11).toInt).toNat 0) - ((1 : Int32))) ((((sy_ai F 31).getD ((sy_i F 11).toInt).toNat 0).toInt - 1)) := (congrArg Int32.toInt q72.symm).trans (nzE n72)
    exact zpr_0_p2 hd F X1 X2 hB (by first | exact ⟨by omega, by omega⟩ | (simp only [nz_c]; exact ⟨by omega, by omega⟩)) (by first | exact g0 | (simp only [nz_c]; exact g0)) (by first | (simp only [nz_c, (nzE n72), (nzE m72)]; exact g1) | exact g1 | (rw [(nzE n72)]; exact g1)) (by first | (simp only [nz_c, (nzE n73)]; exact ⟨by omega, by omega⟩) | exact ⟨by omega, by omega⟩ | (rw [(nzE n73)]; exact ⟨by omega, by omega⟩)) (by first | (simp only [nz_c, (nzE n73)]; exact g2) | exact g2 | (rw [(nzE n74)]; exact g2)) (fun F1 g  => k2 g0 g1 g2 F1 (nz_in hB [] (fun j hj hn => g j hj (by simp only [List.mem_cons, List.not_mem_nil, or_false, not_or] at hn; exact trivial)) (List.forall_mem_nil _)) (fun j hj hn => g j hj (by simp only [List.mem_cons, List.not_mem_nil, or_false, not_or] at hn; exact trivial)) )
  replace g2 : ((sy_ai F 54).getD ((14 + (sy_i F 69).toInt)).toNat 0).toInt = 0 := by omega
  by_cases g3 : ((sy_ai F 54).getD ((35 + (sy_i F 69).toInt)).toNat 0).toInt ≠ 1
  · by_cases g4 : 0 ≠ (sy_i F 70).toInt
    · have c11 := nz_bx hB (k := 11) (lo := 0) (hi := 1) rfl
      have q71 : (sy_ai F 31).getD (sy_i F 11).toNatClampNeg 0 = (sy_ai F 31).getD ((sy_i F 11).toInt).toNat 0 := by simp only [nz_c]
      have n71 : nzI ((sy_ai F 31).getD (sy_i F 11).toNatClampNeg 0) (((sy_ai F 31).getD ((sy_i F 11).toInt).toNat 0).toInt) := congrArg Int32.toInt q71
      have r71 := nz_ba hB (k := 31) (lo := 0) (hi := 7) rfl ((sy_i F 11).toInt).toNat
      have n72 : nzI (((sy_ai F 31).getD (sy_i F 11).toNatClampNeg 0) - ((1 : Int32))) ((((sy_ai F 31).getD ((sy_i F 11).toInt).toNat 0).toInt - 1)) := nz_sub (nzE n71) (by decide : ((1 : Int32)).toInt = 1) (by omega) (by omega)
      have n73 : nzI (((14 : Int32)) + (sy_i F 69)) ((14 + (sy_i F 69).toInt)) := nz_add (by decide : ((14 : Int32)).toInt = 14) (rfl : (sy_i F 69).toInt = (sy_i F 69).toInt) (by omega) (by omega)
      have q74 : (sy_ai F 54).getD (((14 : Int32)) + (sy_i F 69)).toNatClampNeg 0 = (sy_ai F 54).getD ((14 + (sy_i F 69).toInt)).toNat 0 := by simp only [nz_c, (nzE n73), (by decide : ((14 : Int32)).toInt = 14)]
      have n74 : nzI ((sy_ai F 54).getD (((14 : Int32)) + (sy_i F 69)).toNatClampNeg 0) (((sy_ai F 54).getD ((14 + (sy_i F 69).toInt)).toNat 0).toInt) := congrArg Int32.toInt q74
      have n75 : nzI (((35 : Int32)) + (sy_i F 69)) ((35 + (sy_i F 69).toInt)) := nz_add (by decide : ((35 : Int32)).toInt = 35) (rfl : (sy_i F 69).toInt = (sy_i F 69).toInt) (by omega) (by omega)
      have q76 : (sy_ai F 54).getD (((35 : Int32)) + (sy_i F 69)).toNatClampNeg 0 = (sy_ai F 54).getD ((35 + (sy_i F 69).toInt)).toNat 0 := by simp only [nz_c, (nzE n75), (by decide : ((35 : Int32)).toInt = 35)]
      have n76 : nzI ((sy_ai F 54).getD (((35 : Int32)) + (sy_i F 69)).toNatClampNeg 0) (((sy_ai F 54).getD ((35 + (sy_i F 69).toInt)).toNat 0).toInt) := congrArg Int32.toInt q76
      have q72 : ((sy_ai F 31).getD (sy_i F 11).toNatClampNeg 0) - ((1 : Int32)) = ((sy_ai F 31).getD ((sy_i F 11).toInt).toNat 0) - ((1 : Int32)) := by simp only [nz_c, (nzE n72), (by decide : ((1 : Int32)).toInt = 1)]
      have m72 : nzI (((sy_ai F 31).getD ((sy_i F 11).toInt).toNat 0) - ((1 : Int32))) ((((sy_ai F 31).getD ((sy_i F 11).toInt).toNat 0).toInt - 1)) := (congrArg Int32.toInt q72.symm).trans (nzE n72)
      exact zpr_0_p3 hd F X1 X2 hB (by first | exact ⟨by omega, by omega⟩ | (simp only [nz_c]; exact ⟨by omega, by omega⟩)) (by first | exact g0 | (simp only [nz_c]; exact g0)) (by first | (simp only [nz_c, (nzE n72), (nzE m72)]; exact g1) | exact g1 | (rw [(nzE n72)]; exact g1)) (by first | (simp only [nz_c, (nzE n73)]; exact ⟨by omega, by omega⟩) | exact ⟨by omega, by omega⟩ | (rw [(nzE n73)]; exact ⟨by omega, by omega⟩)) (by first | (simp only [nz_c, (nzE n73)]; exact g2) | exact g2 | (rw [(nzE n74)]; exact g2)) (by first | (simp only [nz_c, (nzE n75)]; exact ⟨by omega, by omega⟩) | exact ⟨by omega, by omega⟩ | (rw [(nzE n75)]; exact ⟨by omega, by omega⟩)) (by first | (simp only [nz_c, (nzE n75)]; exact g3) | exact g3 | (rw [(nzE n76)]; exact g3)) (by first | exact g4 | (simp only [nz_c]; exact g4)) (fun F1 g e69 e70 => k3 g0 g1 g2 g3 g4 F1 (nz_in hB [] (fun j hj hn => g j hj (by simp only [List.mem_cons, List.not_mem_nil, or_false, not_or] at hn; exact trivial)) (List.forall_mem_nil _)) (fun j hj hn => g j hj (by simp only [List.mem_cons, List.not_mem_nil, or_false, not_or] at hn; exact trivial)) ((congrArg Int32.toInt (zz_i e69)).trans (rfl : (sy_i F 69).toInt = (sy_i F 69).toInt)) ((zz_i e69).trans (rfl : sy_i F 69 = sy_i F 69)) ((congrArg Int32.toInt (zz_i e70)).trans (rfl : (sy_i F 70).toInt = (sy_i F 70).toInt)) ((zz_i e70).trans (rfl : sy_i F 70 = sy_i F 70)))
    replace g4 : 0 = (sy_i F 70).toInt := by omega
    have c11 := nz_bx hB (k := 11) (lo := 0) (hi := 1) rfl
    have q71 : (sy_ai F 31).getD (sy_i F 11).toNatClampNeg 0 = (sy_ai F 31).getD ((sy_i F 11).toInt).toNat 0 := by simp only [nz_c]
    have n71 : nzI ((sy_ai F 31).getD (sy_i F 11).toNatClampNeg 0) (((sy_ai F 31).getD ((sy_i F 11).toInt).toNat 0).toInt) := congrArg Int32.toInt q71
    have r71 := nz_ba hB (k := 31) (lo := 0) (hi := 7) rfl ((sy_i F 11).toInt).toNat
    have n72 : nzI (((sy_ai F 31).getD (sy_i F 11).toNatClampNeg 0) - ((1 : Int32))) ((((sy_ai F 31).getD ((sy_i F 11).toInt).toNat 0).toInt - 1)) := nz_sub (nzE n71) (by decide : ((1 : Int32)).toInt = 1) (by omega) (by omega)
    have n73 : nzI (((14 : Int32)) + (sy_i F 69)) ((14 + (sy_i F 69).toInt)) := nz_add (by decide : ((14 : Int32)).toInt = 14) (rfl : (sy_i F 69).toInt = (sy_i F 69).toInt) (by omega) (by omega)
    have q74 : (sy_ai F 54).getD (((14 : Int32)) + (sy_i F 69)).toNatClampNeg 0 = (sy_ai F 54).getD ((14 + (sy_i F 69).toInt)).toNat 0 := by simp only [nz_c, (nzE n73), (by decide : ((14 : Int32)).toInt = 14)]
    have n74 : nzI ((sy_ai F 54).getD (((14 : Int32)) + (sy_i F 69)).toNatClampNeg 0) (((sy_ai F 54).getD ((14 + (sy_i F 69).toInt)).toNat 0).toInt) := congrArg Int32.toInt q74
    have n75 : nzI (((35 : Int32)) + (sy_i F 69)) ((35 + (sy_i F 69).toInt)) := nz_add (by decide : ((35 : Int32)).toInt = 35) (rfl : (sy_i F 69).toInt = (sy_i F 69).toInt) (by omega) (by omega)
    have q76 : (sy_ai F 54).getD (((35 : Int32)) + (sy_i F 69)).toNatClampNeg 0 = (sy_ai F 54).getD ((35 + (sy_i F 69).toInt)).toNat 0 := by simp only [nz_c, (nzE n75), (by decide : ((35 : Int32)).toInt = 35)]
    have n76 : nzI ((sy_ai F 54).getD (((35 : Int32)) + (sy_i F 69)).toNatClampNeg 0) (((sy_ai F 54).getD ((35 + (sy_i F 69).toInt)).toNat 0).toInt) := congrArg Int32.toInt q76
    have q72 : ((sy_ai F 31).getD (sy_i F 11).toNatClampNeg 0) - ((1 : Int32)) = ((sy_ai F 31).getD ((sy_i F 11).toInt).toNat 0) - ((1 : Int32)) := by simp only [nz_c, (nzE n72), (by decide : ((1 : Int32)).toInt = 1)]
    have m72 : nzI (((sy_ai F 31).getD ((sy_i F 11).toInt).toNat 0) - ((1 : Int32))) ((((sy_ai F 31).getD ((sy_i F 11).toInt).toNat 0).toInt - 1)) := (congrArg Int32.toInt q72.symm).trans (nzE n72)
    exact zpr_0_p4 hd F X1 X2 hB (by first | exact ⟨by omega, by omega⟩ | (simp only [nz_c]; exact ⟨by omega, by omega⟩)) (by first | exact g0 | (simp only [nz_c]; exact g0)) (by first | (simp only [nz_c, (nzE n72), (nzE m72)]; exact g1) | exact g1 | (rw [(nzE n72)]; exact g1)) (by first | (simp only [nz_c, (nzE n73)]; exact ⟨by omega, by omega⟩) | exact ⟨by omega, by omega⟩ | (rw [(nzE n73)]; exact ⟨by omega, by omega⟩)) (by first | (simp only [nz_c, (nzE n73)]; exact g2) | exact g2 | (rw [(nzE n74)]; exact g2)) (by first | (simp only [nz_c, (nzE n75)]; exact ⟨by omega, by omega⟩) | exact ⟨by omega, by omega⟩ | (rw [(nzE n75)]; exact ⟨by omega, by omega⟩)) (by first | (simp only [nz_c, (nzE n75)]; exact g3) | exact g3 | (rw [(nzE n76)]; exact g3)) (by first | exact g4 | (simp only [nz_c]; exact g4)) (fun F1 g  => k4 g0 g1 g2 g3 g4 F1 (nz_in hB [] (fun j hj hn => g j hj (by simp only [List.mem_cons, List.not_mem_nil, or_false, not_or] at hn; exact trivial)) (List.forall_mem_nil _)) (fun j hj hn => g j hj (by simp only [List.mem_cons, List.not_mem_nil, or_false, not_or] at hn; exact trivial)) )
  replace g3 : ((sy_ai F 54).getD ((35 + (sy_i F 69).toInt)).toNat 0).toInt = 1 := by omega
  by_cases g4 : 1 ≠ (sy_i F 70).toInt
  · have c11 := nz_bx hB (k := 11) (lo := 0) (hi := 1) rfl
    have q71 : (sy_ai F 31).getD (sy_i F 11).toNatClampNeg 0 = (sy_ai F 31).getD ((sy_i F 11).toInt).toNat 0 := by simp only [nz_c]
    have n71 : nzI ((sy_ai F 31).getD (sy_i F 11).toNatClampNeg 0) (((sy_ai F 31).getD ((sy_i F 11).toInt).toNat 0).toInt) := congrArg Int32.toInt q71
    have r71 := nz_ba hB (k := 31) (lo := 0) (hi := 7) rfl ((sy_i F 11).toInt).toNat
    have n72 : nzI (((sy_ai F 31).getD (sy_i F 11).toNatClampNeg 0) - ((1 : Int32))) ((((sy_ai F 31).getD ((sy_i F 11).toInt).toNat 0).toInt - 1)) := nz_sub (nzE n71) (by decide : ((1 : Int32)).toInt = 1) (by omega) (by omega)
    have n73 : nzI (((14 : Int32)) + (sy_i F 69)) ((14 + (sy_i F 69).toInt)) := nz_add (by decide : ((14 : Int32)).toInt = 14) (rfl : (sy_i F 69).toInt = (sy_i F 69).toInt) (by omega) (by omega)
    have q74 : (sy_ai F 54).getD (((14 : Int32)) + (sy_i F 69)).toNatClampNeg 0 = (sy_ai F 54).getD ((14 + (sy_i F 69).toInt)).toNat 0 := by simp only [nz_c, (nzE n73), (by decide : ((14 : Int32)).toInt = 14)]
    have n74 : nzI ((sy_ai F 54).getD (((14 : Int32)) + (sy_i F 69)).toNatClampNeg 0) (((sy_ai F 54).getD ((14 + (sy_i F 69).toInt)).toNat 0).toInt) := congrArg Int32.toInt q74
    have n75 : nzI (((35 : Int32)) + (sy_i F 69)) ((35 + (sy_i F 69).toInt)) := nz_add (by decide : ((35 : Int32)).toInt = 35) (rfl : (sy_i F 69).toInt = (sy_i F 69).toInt) (by omega) (by omega)
    have q76 : (sy_ai F 54).getD (((35 : Int32)) + (sy_i F 69)).toNatClampNeg 0 = (sy_ai F 54).getD ((35 + (sy_i F 69).toInt)).toNat 0 := by simp only [nz_c, (nzE n75), (by decide : ((35 : Int32)).toInt = 35)]
    have n76 : nzI ((sy_ai F 54).getD (((35 : Int32)) + (sy_i F 69)).toNatClampNeg 0) (((sy_ai F 54).getD ((35 + (sy_i F 69).toInt)).toNat 0).toInt) := congrArg Int32.toInt q76
    have q72 : ((sy_ai F 31).getD (sy_i F 11).toNatClampNeg 0) - ((1 : Int32)) = ((sy_ai F 31).getD ((sy_i F 11).toInt).toNat 0) - ((1 : Int32)) := by simp only [nz_c, (nzE n72), (by decide : ((1 : Int32)).toInt = 1)]
    have m72 : nzI (((sy_ai F 31).getD ((sy_i F 11).toInt).toNat 0) - ((1 : Int32))) ((((sy_ai F 31).getD ((sy_i F 11).toInt).toNat 0).toInt - 1)) := (congrArg Int32.toInt q72.symm).trans (nzE n72)
    exact zpr_0_p5 hd F X1 X2 hB (by first | exact ⟨by omega, by omega⟩ | (simp only [nz_c]; exact ⟨by omega, by omega⟩)) (by first | exact g0 | (simp only [nz_c]; exact g0)) (by first | (simp only [nz_c, (nzE n72), (nzE m72)]; exact g1) | exact g1 | (rw [(nzE n72)]; exact g1)) (by first | (simp only [nz_c, (nzE n73)]; exact ⟨by omega, by omega⟩) | exact ⟨by omega, by omega⟩ | (rw [(nzE n73)]; exact ⟨by omega, by omega⟩)) (by first | (simp only [nz_c, (nzE n73)]; exact g2) | exact g2 | (rw [(nzE n74)]; exact g2)) (by first | (simp only [nz_c, (nzE n75)]; exact ⟨by omega, by omega⟩) | exact ⟨by omega, by omega⟩ | (rw [(nzE n75)]; exact ⟨by omega, by omega⟩)) (by first | (simp only [nz_c, (nzE n75)]; exact g3) | exact g3 | (rw [(nzE n76)]; exact g3)) (by first | exact g4 | (simp only [nz_c]; exact g4)) (fun F1 g e69 e70 => k5 g0 g1 g2 g3 g4 F1 (nz_in hB [] (fun j hj hn => g j hj (by simp only [List.mem_cons, List.not_mem_nil, or_false, not_or] at hn; exact trivial)) (List.forall_mem_nil _)) (fun j hj hn => g j hj (by simp only [List.mem_cons, List.not_mem_nil, or_false, not_or] at hn; exact trivial)) ((congrArg Int32.toInt (zz_i e69)).trans (rfl : (sy_i F 69).toInt = (sy_i F 69).toInt)) ((zz_i e69).trans (rfl : sy_i F 69 = sy_i F 69)) ((congrArg Int32.toInt (zz_i e70)).trans (rfl : (sy_i F 70).toInt = (sy_i F 70).toInt)) ((zz_i e70).trans (rfl : sy_i F 70 = sy_i F 70)))
  replace g4 : 1 = (sy_i F 70).toInt := by omega
  have c11 := nz_bx hB (k := 11) (lo := 0) (hi := 1) rfl
  have q71 : (sy_ai F 31).getD (sy_i F 11).toNatClampNeg 0 = (sy_ai F 31).getD ((sy_i F 11).toInt).toNat 0 := by simp only [nz_c]
  have n71 : nzI ((sy_ai F 31).getD (sy_i F 11).toNatClampNeg 0) (((sy_ai F 31).getD ((sy_i F 11).toInt).toNat 0).toInt) := congrArg Int32.toInt q71
  have r71 := nz_ba hB (k := 31) (lo := 0) (hi := 7) rfl ((sy_i F 11).toInt).toNat
  have n72 : nzI (((sy_ai F 31).getD (sy_i F 11).toNatClampNeg 0) - ((1 : Int32))) ((((sy_ai F 31).getD ((sy_i F 11).toInt).toNat 0).toInt - 1)) := nz_sub (nzE n71) (by decide : ((1 : Int32)).toInt = 1) (by omega) (by omega)
  have n73 : nzI (((14 : Int32)) + (sy_i F 69)) ((14 + (sy_i F 69).toInt)) := nz_add (by decide : ((14 : Int32)).toInt = 14) (rfl : (sy_i F 69).toInt = (sy_i F 69).toInt) (by omega) (by omega)
  have q74 : (sy_ai F 54).getD (((14 : Int32)) + (sy_i F 69)).toNatClampNeg 0 = (sy_ai F 54).getD ((14 + (sy_i F 69).toInt)).toNat 0 := by simp only [nz_c, (nzE n73), (by decide : ((14 : Int32)).toInt = 14)]
  have n74 : nzI ((sy_ai F 54).getD (((14 : Int32)) + (sy_i F 69)).toNatClampNeg 0) (((sy_ai F 54).getD ((14 + (sy_i F 69).toInt)).toNat 0).toInt) := congrArg Int32.toInt q74
  have n75 : nzI (((35 : Int32)) + (sy_i F 69)) ((35 + (sy_i F 69).toInt)) := nz_add (by decide : ((35 : Int32)).toInt = 35) (rfl : (sy_i F 69).toInt = (sy_i F 69).toInt) (by omega) (by omega)
  have q76 : (sy_ai F 54).getD (((35 : Int32)) + (sy_i F 69)).toNatClampNeg 0 = (sy_ai F 54).getD ((35 + (sy_i F 69).toInt)).toNat 0 := by simp only [nz_c, (nzE n75), (by decide : ((35 : Int32)).toInt = 35)]
  have n76 : nzI ((sy_ai F 54).getD (((35 : Int32)) + (sy_i F 69)).toNatClampNeg 0) (((sy_ai F 54).getD ((35 + (sy_i F 69).toInt)).toNat 0).toInt) := congrArg Int32.toInt q76
  have q72 : ((sy_ai F 31).getD (sy_i F 11).toNatClampNeg 0) - ((1 : Int32)) = ((sy_ai F 31).getD ((sy_i F 11).toInt).toNat 0) - ((1 : Int32)) := by simp only [nz_c, (nzE n72), (by decide : ((1 : Int32)).toInt = 1)]
  have m72 : nzI (((sy_ai F 31).getD ((sy_i F 11).toInt).toNat 0) - ((1 : Int32))) ((((sy_ai F 31).getD ((sy_i F 11).toInt).toNat 0).toInt - 1)) := (congrArg Int32.toInt q72.symm).trans (nzE n72)
  exact zpr_0_p6 hd F X1 X2 hB (by first | exact ⟨by omega, by omega⟩ | (simp only [nz_c]; exact ⟨by omega, by omega⟩)) (by first | exact g0 | (simp only [nz_c]; exact g0)) (by first | (simp only [nz_c, (nzE n72), (nzE m72)]; exact g1) | exact g1 | (rw [(nzE n72)]; exact g1)) (by first | (simp only [nz_c, (nzE n73)]; exact ⟨by omega, by omega⟩) | exact ⟨by omega, by omega⟩ | (rw [(nzE n73)]; exact ⟨by omega, by omega⟩)) (by first | (simp only [nz_c, (nzE n73)]; exact g2) | exact g2 | (rw [(nzE n74)]; exact g2)) (by first | (simp only [nz_c, (nzE n75)]; exact ⟨by omega, by omega⟩) | exact ⟨by omega, by omega⟩ | (rw [(nzE n75)]; exact ⟨by omega, by omega⟩)) (by first | (simp only [nz_c, (nzE n75)]; exact g3) | exact g3 | (rw [(nzE n76)]; exact g3)) (by first | exact g4 | (simp only [nz_c]; exact g4)) (fun F1 g  => k6 g0 g1 g2 g3 g4 F1 (nz_in hB [] (fun j hj hn => g j hj (by simp only [List.mem_cons, List.not_mem_nil, or_false, not_or] at hn; exact trivial)) (List.forall_mem_nil _)) (fun j hj hn => g j hj (by simp only [List.mem_cons, List.not_mem_nil, or_false, not_or] at hn; exact trivial)) )
theorem zpr_48_p0 {Ls : Nat} {xs : Nat → Int32} {d : Nat} {Q : Option Value → jm_h → Prop} (hd : 1 ≤ d) (F : Nat → sy_d) (X1 X2 : List jm_c) (hB : iv_in F iv_B4)
    (h0 : (sy_i F 70).toInt = 0)
    (h1 : 0 ≤ (((35 : Int32)) + (sy_i F 69)).toInt ∧ (((35 : Int32)) + (sy_i F 69)).toInt < 61)
    (k : ∀ F1 : Nat → sy_d, (∀ j, j < 69 → j ≠ 55 → F1 j = F j) → F1 55 = .inr (.inl (jm_upd (sy_ai F 55) (((35 : Int32)) + (sy_i F 69)).toNatClampNeg ((0 : Int32)))) → F1 69 = .inl (.int (sy_i F 69)) → F1 70 = .inl (.int (sy_i F 70)) → hd_W Ls xs d jm_M202 Q (67, sy_dL F1 [some (.inl (.ref 1000)), some (.inr (.inl 69)), some (.inr (.inl 70))], sy_dS F1 [.inl (.ref 1000)], sy_dh F1 X1 X2 (iv_H 4), 0, 0)) :
    hd_W Ls xs d jm_M202 Q (48, sy_dL F [some (.inl (.ref 1000)), some (.inr (.inl 69)), some (.inr (.inl 70))], sy_dS F [], sy_dh F X1 X2 (iv_H 4), 0, 0) := by
  refine hd_run (s := 4) (nv := 71) (pc := 67) (L := [some (.inl (.ref 1000)), some (.inr (.inl 69)), some (.inr (.inl 70))]) (S := [.inl (.ref 1000)]) (uh := hd_ov (iv_id 0 iv_B4) [(55, .inr (.inr (.inl 72)))]) (ul := [.inl (.inr (.inl 69)), .inl (.inr (.inl 70))]) (f := false) (sp := [67]) (d0 := 0) (O := [true]) (T := [(0, [.inl (.int 35), .inr (.inl 69)], []), (40, [.inr (.inl 71), .inl (.int 0)], [.inr (.inl 55)])]) (P := [(0, .inr (.inl 70), .inl (.int 0)), (6, .inr (.inl 71), .inl (.ref 61))]) jm_ok202 (by decide +kernel) (by decide +kernel) hd F X1 X2 (fun F' hF hs => ?_)
  have b70 := hd_b (F := F) (F' := F') (k := 70) (hF 70 (by decide))
  have b69 := hd_b (F := F) (F' := F') (k := 69) (hF 69 (by decide))
  have t71 : sy_dv F' (.inr (.inl 71)) = .int (((35 : Int32)) + (sy_i F 69)) := hd_o (hs 0 _ rfl) rfl b69 rfl
  have a55 := hd_ba (F := F) (F' := F') (k := 55) (hF 55 (by decide))
  have t72 : sy_da F' (.inr (.inl 72)) = .inl (jm_upd (sy_ai F 55) (((35 : Int32)) + (sy_i F 69)).toNatClampNeg ((0 : Int32))) := hd_up (hs 1 _ rfl) t71 rfl a55
  have hB' : iv_in F' iv_B4 := iv_in_eq hB (fun j hj => hF j (Nat.lt_of_lt_of_le hj (by decide +kernel)))
  refine ⟨List.forall_mem_cons.mpr ⟨hd_p0 b70 rfl (by have hc : ((0) : Int32).toInt = 0 := (by decide); omega), List.forall_mem_cons.mpr ⟨hd_pb t71 (by first | exact h1 | exact h1), fun _ h => absurd h List.not_mem_nil⟩⟩, ?_⟩
  refine k _ ?_ ?_ ?_ ?_
  · exact fun j hj hn => (hd_keep hB' (Nat.lt_of_lt_of_le hj (by decide +kernel)) (by simp; omega)).trans (hF j (Nat.lt_of_lt_of_le hj (by decide)))
  · exact hd_ga (a := .inr (.inl 72)) (by decide +kernel) t72
  · exact hd_gi (x := .inr (.inl 69)) (by decide +kernel) b69
  · exact hd_gi (x := .inr (.inl 70)) (by decide +kernel) b70
theorem zpr_48_p1 {Ls : Nat} {xs : Nat → Int32} {d : Nat} {Q : Option Value → jm_h → Prop} (hd : 1 ≤ d) (F : Nat → sy_d) (X1 X2 : List jm_c) (hB : iv_in F iv_B4)
    (h0 : (sy_i F 70).toInt ≠ 0)
    (h1 : 0 ≤ (((35 : Int32)) + (sy_i F 69)).toInt ∧ (((35 : Int32)) + (sy_i F 69)).toInt < 61)
    (k : ∀ F1 : Nat → sy_d, (∀ j, j < 69 → j ≠ 55 → F1 j = F j) → F1 55 = .inr (.inl (jm_upd (sy_ai F 55) (((35 : Int32)) + (sy_i F 69)).toNatClampNeg ((1 : Int32)))) → F1 69 = .inl (.int (sy_i F 69)) → F1 70 = .inl (.int (sy_i F 70)) → hd_W Ls xs d jm_M202 Q (67, sy_dL F1 [some (.inl (.ref 1000)), some (.inr (.inl 69)), some (.inr (.inl 70))], sy_dS F1 [.inl (.ref 1000)], sy_dh F1 X1 X2 (iv_H 4), 0, 0)) :
    hd_W Ls xs d jm_M202 Q (48, sy_dL F [some (.inl (.ref 1000)), some (.inr (.inl 69)), some (.inr (.inl 70))], sy_dS F [], sy_dh F X1 X2 (iv_H 4), 0, 0) := by
  refine hd_run (s := 4) (nv := 71) (pc := 67) (L := [some (.inl (.ref 1000)), some (.inr (.inl 69)), some (.inr (.inl 70))]) (S := [.inl (.ref 1000)]) (uh := hd_ov (iv_id 0 iv_B4) [(55, .inr (.inr (.inl 72)))]) (ul := [.inl (.inr (.inl 69)), .inl (.inr (.inl 70))]) (f := false) (sp := [67]) (d0 := 0) (O := [false]) (T := [(0, [.inl (.int 35), .inr (.inl 69)], []), (40, [.inr (.inl 71), .inl (.int 1)], [.inr (.inl 55)])]) (P := [(1, .inr (.inl 70), .inl (.int 0)), (6, .inr (.inl 71), .inl (.ref 61))]) jm_ok202 (by decide +kernel) (by decide +kernel) hd F X1 X2 (fun F' hF hs => ?_)
  have b70 := hd_b (F := F) (F' := F') (k := 70) (hF 70 (by decide))
  have b69 := hd_b (F := F) (F' := F') (k := 69) (hF 69 (by decide))
  have t71 : sy_dv F' (.inr (.inl 71)) = .int (((35 : Int32)) + (sy_i F 69)) := hd_o (hs 0 _ rfl) rfl b69 rfl
  have a55 := hd_ba (F := F) (F' := F') (k := 55) (hF 55 (by decide))
  have t72 : sy_da F' (.inr (.inl 72)) = .inl (jm_upd (sy_ai F 55) (((35 : Int32)) + (sy_i F 69)).toNatClampNeg ((1 : Int32))) := hd_up (hs 1 _ rfl) t71 rfl a55
  have hB' : iv_in F' iv_B4 := iv_in_eq hB (fun j hj => hF j (Nat.lt_of_lt_of_le hj (by decide +kernel)))
  refine ⟨List.forall_mem_cons.mpr ⟨hd_p1 b70 rfl (by have hc : ((0) : Int32).toInt = 0 := (by decide); omega), List.forall_mem_cons.mpr ⟨hd_pb t71 (by first | exact h1 | exact h1), fun _ h => absurd h List.not_mem_nil⟩⟩, ?_⟩
  refine k _ ?_ ?_ ?_ ?_
  · exact fun j hj hn => (hd_keep hB' (Nat.lt_of_lt_of_le hj (by decide +kernel)) (by simp; omega)).trans (hF j (Nat.lt_of_lt_of_le hj (by decide)))
  · exact hd_ga (a := .inr (.inl 72)) (by decide +kernel) t72
  · exact hd_gi (x := .inr (.inl 69)) (by decide +kernel) b69
  · exact hd_gi (x := .inr (.inl 70)) (by decide +kernel) b70
theorem zpr_48 {Ls : Nat} {xs : Nat → Int32} {d : Nat} {Q : Option Value → jm_h → Prop} (hd : 1 ≤ d) (F : Nat → sy_d) (X1 X2 : List jm_c) (hB : iv_in F iv_B4)
    (a69 : 0 ≤ (sy_i F 69).toInt ∧ (sy_i F 69).toInt ≤ 6)
    (a70 : 0 ≤ (sy_i F 70).toInt ∧ (sy_i F 70).toInt ≤ 1)
    (k0 : (sy_i F 70).toInt = 0 → ∀ F1 : Nat → sy_d, iv_in F1 iv_B4 → (∀ j, j < 69 → j ∉ ([55] : List Nat) → F1 j = F j) → sy_ai F1 55 = jm_upd (sy_ai F 55) ((35 + (sy_i F 69).toInt)).toNat ((0 : Int32)) → (sy_i F1 69).toInt = (sy_i F 69).toInt → sy_i F1 69 = sy_i F 69 → (sy_i F1 70).toInt = (sy_i F 70).toInt → sy_i F1 70 = sy_i F 70 → hd_W Ls xs d jm_M202 Q (67, sy_dL F1 [some (.inl (.ref 1000)), some (.inr (.inl 69)), some (.inr (.inl 70))], sy_dS F1 [.inl (.ref 1000)], sy_dh F1 X1 X2 (iv_H 4), 0, 0))
    (k1 : (sy_i F 70).toInt ≠ 0 → ∀ F1 : Nat → sy_d, iv_in F1 iv_B4 → (∀ j, j < 69 → j ∉ ([55] : List Nat) → F1 j = F j) → sy_ai F1 55 = jm_upd (sy_ai F 55) ((35 + (sy_i F 69).toInt)).toNat ((1 : Int32)) → (sy_i F1 69).toInt = (sy_i F 69).toInt → sy_i F1 69 = sy_i F 69 → (sy_i F1 70).toInt = (sy_i F 70).toInt → sy_i F1 70 = sy_i F 70 → hd_W Ls xs d jm_M202 Q (67, sy_dL F1 [some (.inl (.ref 1000)), some (.inr (.inl 69)), some (.inr (.inl 70))], sy_dS F1 [.inl (.ref 1000)], sy_dh F1 X1 X2 (iv_H 4), 0, 0)) :
    hd_W Ls xs d jm_M202 Q (48, sy_dL F [some (.inl (.ref 1000)), some (.inr (.inl 69)), some (.inr (.inl 70))], sy_dS F [], sy_dh F X1 X2 (iv_H 4), 0, 0) := by
  by_cases g0 : (sy_i F 70).toInt = 0
  · have n71 : nzI (((35 : Int32)) + (sy_i F 69)) ((35 + (sy_i F 69).toInt)) := nz_add (by decide : ((35 : Int32)).toInt = 35) (rfl : (sy_i F 69).toInt = (sy_i F 69).toInt) (by omega) (by omega)
    have w72 : jm_upd (sy_ai F 55) (((35 : Int32)) + (sy_i F 69)).toNatClampNeg ((0 : Int32)) = jm_upd (sy_ai F 55) ((35 + (sy_i F 69).toInt)).toNat ((0 : Int32)) := by simp only [nz_c, (nzE n71), (by decide : ((0 : Int32)).toInt = 0), (by decide : ((35 : Int32)).toInt = 35)]
    exact zpr_48_p0 hd F X1 X2 hB (by first | exact g0 | (simp only [nz_c]; exact g0)) (by first | (simp only [nz_c, (nzE n71)]; exact ⟨by omega, by omega⟩) | exact ⟨by omega, by omega⟩ | (rw [(nzE n71)]; exact ⟨by omega, by omega⟩)) (fun F1 g e55 e69 e70 => k0 g0 F1 (nz_in hB [55] (fun j hj hn => g j hj (by simp only [List.mem_cons, List.not_mem_nil, or_false, not_or] at hn; omega)) (List.forall_mem_cons.mpr ⟨fun t ht => (Option.some.inj ht) ▸ (nz_hz2 e55), List.forall_mem_nil _⟩)) (fun j hj hn => g j hj (by simp only [List.mem_cons, List.not_mem_nil, or_false, not_or] at hn; omega)) ((zz_ai e55).trans w72) ((congrArg Int32.toInt (zz_i e69)).trans (rfl : (sy_i F 69).toInt = (sy_i F 69).toInt)) ((zz_i e69).trans (rfl : sy_i F 69 = sy_i F 69)) ((congrArg Int32.toInt (zz_i e70)).trans (rfl : (sy_i F 70).toInt = (sy_i F 70).toInt)) ((zz_i e70).trans (rfl : sy_i F 70 = sy_i F 70)))
  replace g0 : (sy_i F 70).toInt ≠ 0 := by omega
  have n71 : nzI (((35 : Int32)) + (sy_i F 69)) ((35 + (sy_i F 69).toInt)) := nz_add (by decide : ((35 : Int32)).toInt = 35) (rfl : (sy_i F 69).toInt = (sy_i F 69).toInt) (by omega) (by omega)
  have w72 : jm_upd (sy_ai F 55) (((35 : Int32)) + (sy_i F 69)).toNatClampNeg ((1 : Int32)) = jm_upd (sy_ai F 55) ((35 + (sy_i F 69).toInt)).toNat ((1 : Int32)) := by simp only [nz_c, (nzE n71), (by decide : ((1 : Int32)).toInt = 1), (by decide : ((35 : Int32)).toInt = 35)]
  exact zpr_48_p1 hd F X1 X2 hB (by first | exact g0 | (simp only [nz_c]; exact g0)) (by first | (simp only [nz_c, (nzE n71)]; exact ⟨by omega, by omega⟩) | exact ⟨by omega, by omega⟩ | (rw [(nzE n71)]; exact ⟨by omega, by omega⟩)) (fun F1 g e55 e69 e70 => k1 g0 F1 (nz_in hB [55] (fun j hj hn => g j hj (by simp only [List.mem_cons, List.not_mem_nil, or_false, not_or] at hn; omega)) (List.forall_mem_cons.mpr ⟨fun t ht => (Option.some.inj ht) ▸ (nz_hz2 e55), List.forall_mem_nil _⟩)) (fun j hj hn => g j hj (by simp only [List.mem_cons, List.not_mem_nil, or_false, not_or] at hn; omega)) ((zz_ai e55).trans w72) ((congrArg Int32.toInt (zz_i e69)).trans (rfl : (sy_i F 69).toInt = (sy_i F 69).toInt)) ((zz_i e69).trans (rfl : sy_i F 69 = sy_i F 69)) ((congrArg Int32.toInt (zz_i e70)).trans (rfl : (sy_i F 70).toInt = (sy_i F 70).toInt)) ((zz_i e70).trans (rfl : sy_i F 70 = sy_i F 70)))
theorem zpr_70_p0 {Ls : Nat} {xs : Nat → Int32} {d : Nat} {Q : Option Value → jm_h → Prop} (hd : 1 ≤ d) (F : Nat → sy_d) (X1 X2 : List jm_c) (hB : iv_in F iv_B4)
    (k : ∀ F1 : Nat → sy_d, (∀ j, j < 69 → True → F1 j = F j) → Q (some (.int ((1 : Int32)))) (sy_dh F1 X1 X2 (iv_H 4))) :
    hd_W Ls xs d jm_M202 Q (70, sy_dL F [some (.inl (.ref 1000)), some (.inr (.inl 69)), some (.inr (.inl 70))], sy_dS F [], sy_dh F X1 X2 (iv_H 4), 0, 0) := by
  refine hd_ret (s := 4) (nv := 71) (v := some (.inl (.int 1))) (uh := hd_ov (iv_id 0 iv_B4) []) (f := false) (sp := []) (d0 := 0) (O := []) (T := []) (P := []) jm_ok202 (by decide +kernel) (by decide +kernel) hd F X1 X2 (fun F' hF hs => ?_)
  have hB' : iv_in F' iv_B4 := iv_in_eq hB (fun j hj => hF j (Nat.lt_of_lt_of_le hj (by decide +kernel)))
  refine ⟨fun _ h => absurd h List.not_mem_nil, ?_⟩
  refine k _ ?_
  · exact fun j hj _ => (hd_keep hB' (Nat.lt_of_lt_of_le hj (by decide +kernel)) (by simp)).trans (hF j (Nat.lt_of_lt_of_le hj (by decide)))
theorem zpr_70 {Ls : Nat} {xs : Nat → Int32} {d : Nat} {Q : Option Value → jm_h → Prop} (hd : 1 ≤ d) (F : Nat → sy_d) (X1 X2 : List jm_c) (hB : iv_in F iv_B4)
    (k0 : ∀ F1 : Nat → sy_d, iv_in F1 iv_B4 → (∀ j, j < 69 → j ∉ ([] : List Nat) → F1 j = F j) → Q (some (.int ((1 : Int32)))) (sy_dh F1 X1 X2 (iv_H 4))) :
    hd_W Ls xs d jm_M202 Q (70, sy_dL F [some (.inl (.ref 1000)), some (.inr (.inl 69)), some (.inr (.inl 70))], sy_dS F [], sy_dh F X1 X2 (iv_H 4), 0, 0) := by
  exact zpr_70_p0 hd F X1 X2 hB  (fun F1 g  => k0 F1 (nz_in hB [] (fun j hj hn => g j hj (by simp only [List.mem_cons, List.not_mem_nil, or_false, not_or] at hn; exact trivial)) (List.forall_mem_nil _)) (fun j hj hn => g j hj (by simp only [List.mem_cons, List.not_mem_nil, or_false, not_or] at hn; exact trivial)) )
theorem zsh_0_p0 {Ls : Nat} {xs : Nat → Int32} {d : Nat} {Q : Option Value → jm_h → Prop} (hd : 3 ≤ d) (F : Nat → sy_d) (X1 X2 : List jm_c) (hB : iv_in F iv_B4)
    (h0 : 0 ≤ (sy_i F 11).toInt ∧ (sy_i F 11).toInt < 2)
    (h1 : (sy_i F 69).toInt < 0)
    (k : ∀ F1 : Nat → sy_d, (∀ j, j < 69 → True → F1 j = F j) → Q (some (.int (((-1) : Int32)))) (sy_dh F1 X1 X2 (iv_H 4))) :
    hd_W Ls xs d jm_M203 Q (0, sy_dL F [some (.inl (.ref 1000)), some (.inr (.inl 69)), none, none, none], sy_dS F [], sy_dh F X1 X2 (iv_H 4), 0, 0) := by
  refine hd_ret (s := 4) (nv := 70) (v := some (.inl (.int (-1)))) (uh := hd_ov (iv_id 0 iv_B4) []) (f := true) (sp := [26]) (d0 := 2) (O := [true]) (T := [(30, [.inr (.inl 11)], [.inr (.inl 31)]), (1, [.inr (.inl 70), .inl (.int 1)], [])]) (P := [(6, .inr (.inl 11), .inl (.ref 2)), (2, .inr (.inl 69), .inl (.int 0))]) jm_ok203 (by decide +kernel) (by decide +kernel) hd F X1 X2 (fun F' hF hs => ?_)
  have b11 := hd_b (F := F) (F' := F') (k := 11) (hF 11 (by decide))
  have b69 := hd_b (F := F) (F' := F') (k := 69) (hF 69 (by decide))
  have hB' : iv_in F' iv_B4 := iv_in_eq hB (fun j hj => hF j (Nat.lt_of_lt_of_le hj (by decide +kernel)))
  refine ⟨List.forall_mem_cons.mpr ⟨hd_pb b11 (by first | exact h0 | exact h0), List.forall_mem_cons.mpr ⟨hd_p2 b69 rfl (by have hc : ((0) : Int32).toInt = 0 := (by decide); omega), fun _ h => absurd h List.not_mem_nil⟩⟩, ?_⟩
  refine k _ ?_
  · exact fun j hj _ => (hd_keep hB' (Nat.lt_of_lt_of_le hj (by decide +kernel)) (by simp)).trans (hF j (Nat.lt_of_lt_of_le hj (by decide)))
theorem zsh_0_p1 {Ls : Nat} {xs : Nat → Int32} {d : Nat} {Q : Option Value → jm_h → Prop} (hd : 3 ≤ d) (F : Nat → sy_d) (X1 X2 : List jm_c) (hB : iv_in F iv_B4)
    (h0 : 0 ≤ (sy_i F 11).toInt ∧ (sy_i F 11).toInt < 2)
    (h1 : 0 ≤ (sy_i F 69).toInt)
    (h2 : (((sy_ai F 31).getD (sy_i F 11).toNatClampNeg 0) - ((1 : Int32))).toInt < (sy_i F 69).toInt)
    (k : ∀ F1 : Nat → sy_d, (∀ j, j < 69 → True → F1 j = F j) → Q (some (.int (((-1) : Int32)))) (sy_dh F1 X1 X2 (iv_H 4))) :
    hd_W Ls xs d jm_M203 Q (0, sy_dL F [some (.inl (.ref 1000)), some (.inr (.inl 69)), none, none, none], sy_dS F [], sy_dh F X1 X2 (iv_H 4), 0, 0) := by
  refine hd_ret (s := 4) (nv := 70) (v := some (.inl (.int (-1)))) (uh := hd_ov (iv_id 0 iv_B4) []) (f := true) (sp := [26]) (d0 := 2) (O := [false, true]) (T := [(30, [.inr (.inl 11)], [.inr (.inl 31)]), (1, [.inr (.inl 70), .inl (.int 1)], [])]) (P := [(6, .inr (.inl 11), .inl (.ref 2)), (3, .inr (.inl 69), .inl (.int 0)), (2, .inr (.inl 71), .inr (.inl 69))]) jm_ok203 (by decide +kernel) (by decide +kernel) hd F X1 X2 (fun F' hF hs => ?_)
  have b11 := hd_b (F := F) (F' := F') (k := 11) (hF 11 (by decide))
  have b69 := hd_b (F := F) (F' := F') (k := 69) (hF 69 (by decide))
  have a31 := hd_ba (F := F) (F' := F') (k := 31) (hF 31 (by decide))
  have t70 : sy_dv F' (.inr (.inl 70)) = .int ((sy_ai F 31).getD (sy_i F 11).toNatClampNeg 0) := hd_rd (hs 0 _ rfl) b11 a31
  have t71 : sy_dv F' (.inr (.inl 71)) = .int (((sy_ai F 31).getD (sy_i F 11).toNatClampNeg 0) - ((1 : Int32))) := hd_o (hs 1 _ rfl) t70 rfl rfl
  have hB' : iv_in F' iv_B4 := iv_in_eq hB (fun j hj => hF j (Nat.lt_of_lt_of_le hj (by decide +kernel)))
  refine ⟨List.forall_mem_cons.mpr ⟨hd_pb b11 (by first | exact h0 | exact h0), List.forall_mem_cons.mpr ⟨hd_p3 b69 rfl (by have hc : ((0) : Int32).toInt = 0 := (by decide); omega), List.forall_mem_cons.mpr ⟨hd_p2 t71 b69 h2, fun _ h => absurd h List.not_mem_nil⟩⟩⟩, ?_⟩
  refine k _ ?_
  · exact fun j hj _ => (hd_keep hB' (Nat.lt_of_lt_of_le hj (by decide +kernel)) (by simp)).trans (hF j (Nat.lt_of_lt_of_le hj (by decide)))
theorem zsh_0_p2 {Ls : Nat} {xs : Nat → Int32} {d : Nat} {Q : Option Value → jm_h → Prop} (hd : 3 ≤ d) (F : Nat → sy_d) (X1 X2 : List jm_c) (hB : iv_in F iv_B4)
    (h0 : 0 ≤ (sy_i F 11).toInt ∧ (sy_i F 11).toInt < 2)
    (h1 : 0 ≤ (sy_i F 69).toInt)
    (h2 : (sy_i F 69).toInt ≤ (((sy_ai F 31).getD (sy_i F 11).toNatClampNeg 0) - ((1 : Int32))).toInt)
    (h3 : 0 ≤ (((14 : Int32)) + (sy_i F 69)).toInt ∧ (((14 : Int32)) + (sy_i F 69)).toInt < 61)
    (h4 : ((sy_ai F 54).getD (((14 : Int32)) + (sy_i F 69)).toNatClampNeg 0).toInt = 0)
    (k : ∀ F1 : Nat → sy_d, (∀ j, j < 69 → True → F1 j = F j) → F1 69 = .inl (.int (sy_i F 69)) → hd_W Ls xs d jm_M203 Q (26, sy_dL F1 [some (.inl (.ref 1000)), some (.inr (.inl 69)), none, none, none], sy_dS F1 [.inl (.ref 1000)], sy_dh F1 X1 X2 (iv_H 4), 0, 0)) :
    hd_W Ls xs d jm_M203 Q (0, sy_dL F [some (.inl (.ref 1000)), some (.inr (.inl 69)), none, none, none], sy_dS F [], sy_dh F X1 X2 (iv_H 4), 0, 0) := by
  refine hd_run (s := 4) (nv := 70) (pc := 26) (L := [some (.inl (.ref 1000)), some (.inr (.inl 69)), none, none, none]) (S := [.inl (.ref 1000)]) (uh := hd_ov (iv_id 0 iv_B4) []) (ul := [.inl (.inr (.inl 69))]) (f := true) (sp := [26]) (d0 := 2) (O := [false, false, true]) (T := [(30, [.inr (.inl 11)], [.inr (.inl 31)]), (1, [.inr (.inl 70), .inl (.int 1)], []), (0, [.inl (.int 14), .inr (.inl 69)], []), (30, [.inr (.inl 72)], [.inr (.inl 54)])]) (P := [(6, .inr (.inl 11), .inl (.ref 2)), (3, .inr (.inl 69), .inl (.int 0)), (3, .inr (.inl 71), .inr (.inl 69)), (6, .inr (.inl 72), .inl (.ref 61)), (0, .inr (.inl 73), .inl (.int 0))]) jm_ok203 (by decide +kernel) (by decide +kernel) hd F X1 X2 (fun F' hF hs => ?_)
  have b11 := hd_b (F := F) (F' := F') (k := 11) (hF 11 (by decide))
  have b69 := hd_b (F := F) (F' := F') (k := 69) (hF 69 (by decide))
  have a31 := hd_ba (F := F) (F' := F') (k := 31) (hF 31 (by decide))
  have t70 : sy_dv F' (.inr (.inl 70)) = .int ((sy_ai F 31).getD (sy_i F 11).toNatClampNeg 0) := hd_rd (hs 0 _ rfl) b11 a31
  have t71 : sy_dv F' (.inr (.inl 71)) = .int (((sy_ai F 31).getD (sy_i F 11).toNatClampNeg 0) - ((1 : Int32))) := hd_o (hs 1 _ rfl) t70 rfl rfl
  have t72 : sy_dv F' (.inr (.inl 72)) = .int (((14 : Int32)) + (sy_i F 69)) := hd_o (hs 2 _ rfl) rfl b69 rfl
  have a54 := hd_ba (F := F) (F' := F') (k := 54) (hF 54 (by decide))
  have t73 : sy_dv F' (.inr (.inl 73)) = .int ((sy_ai F 54).getD (((14 : Int32)) + (sy_i F 69)).toNatClampNeg 0) := hd_rd (hs 3 _ rfl) t72 a54
  have hB' : iv_in F' iv_B4 := iv_in_eq hB (fun j hj => hF j (Nat.lt_of_lt_of_le hj (by decide +kernel)))
  refine ⟨List.forall_mem_cons.mpr ⟨hd_pb b11 (by first | exact h0 | exact h0), List.forall_mem_cons.mpr ⟨hd_p3 b69 rfl (by have hc : ((0) : Int32).toInt = 0 := (by decide); omega), List.forall_mem_cons.mpr ⟨hd_p3 t71 b69 h2, List.forall_mem_cons.mpr ⟨hd_pb t72 (by first | exact h3 | exact h3), List.forall_mem_cons.mpr ⟨hd_p0 t73 rfl (by have hc : ((0) : Int32).toInt = 0 := (by decide); omega), fun _ h => absurd h List.not_mem_nil⟩⟩⟩⟩⟩, ?_⟩
  refine k _ ?_ ?_
  · exact fun j hj _ => (hd_keep hB' (Nat.lt_of_lt_of_le hj (by decide +kernel)) (by simp)).trans (hF j (Nat.lt_of_lt_of_le hj (by decide)))
  · exact hd_gi (x := .inr (.inl 69)) (by decide +kernel) b69
theorem zsh_0_p3 {Ls : Nat} {xs : Nat → Int32} {d : Nat} {Q : Option Value → jm_h → Prop} (hd : 3 ≤ d) (F : Nat → sy_d) (X1 X2 : List jm_c) (hB : iv_in F iv_B4)
    (h0 : 0 ≤ (sy_i F 11).toInt ∧ (sy_i F 11).toInt < 2)
    (h1 : 0 ≤ (sy_i F 69).toInt)
    (h2 : (sy_i F 69).toInt ≤ (((sy_ai F 31).getD (sy_i F 11).toNatClampNeg 0) - ((1 : Int32))).toInt)
    (h3 : 0 ≤ (((14 : Int32)) + (sy_i F 69)).toInt ∧ (((14 : Int32)) + (sy_i F 69)).toInt < 61)
    (h4 : ((sy_ai F 54).getD (((14 : Int32)) + (sy_i F 69)).toNatClampNeg 0).toInt ≠ 0)
    (k : ∀ F1 : Nat → sy_d, (∀ j, j < 69 → True → F1 j = F j) → Q (some (.int (((-2) : Int32)))) (sy_dh F1 X1 X2 (iv_H 4))) :
    hd_W Ls xs d jm_M203 Q (0, sy_dL F [some (.inl (.ref 1000)), some (.inr (.inl 69)), none, none, none], sy_dS F [], sy_dh F X1 X2 (iv_H 4), 0, 0) := by
  refine hd_ret (s := 4) (nv := 70) (v := some (.inl (.int (-2)))) (uh := hd_ov (iv_id 0 iv_B4) []) (f := true) (sp := [26]) (d0 := 2) (O := [false, false, false]) (T := [(30, [.inr (.inl 11)], [.inr (.inl 31)]), (1, [.inr (.inl 70), .inl (.int 1)], []), (0, [.inl (.int 14), .inr (.inl 69)], []), (30, [.inr (.inl 72)], [.inr (.inl 54)])]) (P := [(6, .inr (.inl 11), .inl (.ref 2)), (3, .inr (.inl 69), .inl (.int 0)), (3, .inr (.inl 71), .inr (.inl 69)), (6, .inr (.inl 72), .inl (.ref 61)), (1, .inr (.inl 73), .inl (.int 0))]) jm_ok203 (by decide +kernel) (by decide +kernel) hd F X1 X2 (fun F' hF hs => ?_)
  have b11 := hd_b (F := F) (F' := F') (k := 11) (hF 11 (by decide))
  have b69 := hd_b (F := F) (F' := F') (k := 69) (hF 69 (by decide))
  have a31 := hd_ba (F := F) (F' := F') (k := 31) (hF 31 (by decide))
  have t70 : sy_dv F' (.inr (.inl 70)) = .int ((sy_ai F 31).getD (sy_i F 11).toNatClampNeg 0) := hd_rd (hs 0 _ rfl) b11 a31
  have t71 : sy_dv F' (.inr (.inl 71)) = .int (((sy_ai F 31).getD (sy_i F 11).toNatClampNeg 0) - ((1 : Int32))) := hd_o (hs 1 _ rfl) t70 rfl rfl
  have t72 : sy_dv F' (.inr (.inl 72)) = .int (((14 : Int32)) + (sy_i F 69)) := hd_o (hs 2 _ rfl) rfl b69 rfl
  have a54 := hd_ba (F := F) (F' := F') (k := 54) (hF 54 (by decide))
  have t73 : sy_dv F' (.inr (.inl 73)) = .int ((sy_ai F 54).getD (((14 : Int32)) + (sy_i F 69)).toNatClampNeg 0) := hd_rd (hs 3 _ rfl) t72 a54
  have hB' : iv_in F' iv_B4 := iv_in_eq hB (fun j hj => hF j (Nat.lt_of_lt_of_le hj (by decide +kernel)))
  refine ⟨List.forall_mem_cons.mpr ⟨hd_pb b11 (by first | exact h0 | exact h0), List.forall_mem_cons.mpr ⟨hd_p3 b69 rfl (by have hc : ((0) : Int32).toInt = 0 := (by decide); omega), List.forall_mem_cons.mpr ⟨hd_p3 t71 b69 h2, List.forall_mem_cons.mpr ⟨hd_pb t72 (by first | exact h3 | exact h3), List.forall_mem_cons.mpr ⟨hd_p1 t73 rfl (by have hc : ((0) : Int32).toInt = 0 := (by decide); omega), fun _ h => absurd h List.not_mem_nil⟩⟩⟩⟩⟩, ?_⟩
  refine k _ ?_
  · exact fun j hj _ => (hd_keep hB' (Nat.lt_of_lt_of_le hj (by decide +kernel)) (by simp)).trans (hF j (Nat.lt_of_lt_of_le hj (by decide)))
theorem zsh_0 {Ls : Nat} {xs : Nat → Int32} {d : Nat} {Q : Option Value → jm_h → Prop} (hd : 3 ≤ d) (F : Nat → sy_d) (X1 X2 : List jm_c) (hB : iv_in F iv_B4)
    (k0 : (sy_i F 69).toInt < 0 → ∀ F1 : Nat → sy_d, iv_in F1 iv_B4 → (∀ j, j < 69 → j ∉ ([] : List Nat) → F1 j = F j) → Q (some (.int (((-1) : Int32)))) (sy_dh F1 X1 X2 (iv_H 4)))
    (k1 : 0 ≤ (sy_i F 69).toInt → (((sy_ai F 31).getD ((sy_i F 11).toInt).toNat 0).toInt - 1) < (sy_i F 69).toInt → ∀ F1 : Nat → sy_d, iv_in F1 iv_B4 → (∀ j, j < 69 → j ∉ ([] : List Nat) → F1 j = F j) → Q (some (.int (((-1) : Int32)))) (sy_dh F1 X1 X2 (iv_H 4)))
    (k2 : 0 ≤ (sy_i F 69).toInt → (sy_i F 69).toInt ≤ (((sy_ai F 31).getD ((sy_i F 11).toInt).toNat 0).toInt - 1) → ((sy_ai F 54).getD ((14 + (sy_i F 69).toInt)).toNat 0).toInt = 0 → ∀ F1 : Nat → sy_d, iv_in F1 iv_B4 → (∀ j, j < 69 → j ∉ ([] : List Nat) → F1 j = F j) → (sy_i F1 69).toInt = (sy_i F 69).toInt → sy_i F1 69 = sy_i F 69 → hd_W Ls xs d jm_M203 Q (26, sy_dL F1 [some (.inl (.ref 1000)), some (.inr (.inl 69)), none, none, none], sy_dS F1 [.inl (.ref 1000)], sy_dh F1 X1 X2 (iv_H 4), 0, 0))
    (k3 : 0 ≤ (sy_i F 69).toInt → (sy_i F 69).toInt ≤ (((sy_ai F 31).getD ((sy_i F 11).toInt).toNat 0).toInt - 1) → ((sy_ai F 54).getD ((14 + (sy_i F 69).toInt)).toNat 0).toInt ≠ 0 → ∀ F1 : Nat → sy_d, iv_in F1 iv_B4 → (∀ j, j < 69 → j ∉ ([] : List Nat) → F1 j = F j) → Q (some (.int (((-2) : Int32)))) (sy_dh F1 X1 X2 (iv_H 4))) :
    hd_W Ls xs d jm_M203 Q (0, sy_dL F [some (.inl (.ref 1000)), some (.inr (.inl 69)), none, none, none], sy_dS F [], sy_dh F X1 X2 (iv_H 4), 0, 0) := by
  by_cases g0 : (sy_i F 69).toInt < 0
  · have c11 := nz_bx hB (k := 11) (lo := 0) (hi := 1) rfl
    exact zsh_0_p0 hd F X1 X2 hB (by first | exact ⟨by omega, by omega⟩ | (simp only [nz_c]; exact ⟨by omega, by omega⟩)) (by first | exact g0 | (simp only [nz_c]; exact g0)) (fun F1 g  => k0 g0 F1 (nz_in hB [] (fun j hj hn => g j hj (by simp only [List.mem_cons, List.not_mem_nil, or_false, not_or] at hn; exact trivial)) (List.forall_mem_nil _)) (fun j hj hn => g j hj (by simp only [List.mem_cons, List.not_mem_nil, or_false, not_or] at hn; exact trivial)) )
  replace g0 : 0 ≤ (sy_i F 69).toInt := by omega
  by_cases g1 : (((sy_ai F 31).getD ((sy_i F 11).toInt).toNat 0).toInt - 1) < (sy_i F 69).toInt
  · have c11 := nz_bx hB (k := 11) (lo := 0) (hi := 1) rfl
    have q70 : (sy_ai F 31).getD (sy_i F 11).toNatClampNeg 0 = (sy_ai F 31).getD ((sy_i F 11).toInt).toNat 0 := by simp only [nz_c]
    have n70 : nzI ((sy_ai F 31).getD (sy_i F 11).toNatClampNeg 0) (((sy_ai F 31).getD ((sy_i F 11).toInt).toNat 0).toInt) := congrArg Int32.toInt q70
    have r70 := nz_ba hB (k := 31) (lo := 0) (hi := 7) rfl ((sy_i F 11).toInt).toNat
    have n71 : nzI (((sy_ai F 31).getD (sy_i F 11).toNatClampNeg 0) - ((1 : Int32))) ((((sy_ai F 31).getD ((sy_i F 11).toInt).toNat 0).toInt - 1)) := nz_sub (nzE n70) (by decide : ((1 : Int32)).toInt = 1) (by omega) (by omega)
    have q71 : ((sy_ai F 31).getD (sy_i F 11).toNatClampNeg 0) - ((1 : Int32)) = ((sy_ai F 31).getD ((sy_i F 11).toInt).toNat 0) - ((1 : Int32)) := by simp only [nz_c, (nzE n71), (by decide : ((1 : Int32)).toInt = 1)]
    have m71 : nzI (((sy_ai F 31).getD ((sy_i F 11).toInt).toNat 0) - ((1 : Int32))) ((((sy_ai F 31).getD ((sy_i F 11).toInt).toNat 0).toInt - 1)) := (congrArg Int32.toInt q71.symm).trans (nzE n71)
    exact zsh_0_p1 hd F X1 X2 hB (by first | exact ⟨by omega, by omega⟩ | (simp only [nz_c]; exact ⟨by omega, by omega⟩)) (by first | exact g0 | (simp only [nz_c]; exact g0)) (by first | (simp only [nz_c, (nzE n71), (nzE m71)]; exact g1) | exact g1 | (rw [(nzE n71)]; exact g1)) (fun F1 g  => k1 g0 g1 F1 (nz_in hB [] (fun j hj hn => g j hj (by simp only [List.mem_cons, List.not_mem_nil, or_false, not_or] at hn; exact trivial)) (List.forall_mem_nil _)) (fun j hj hn => g j hj (by simp only [List.mem_cons, List.not_mem_nil, or_false, not_or] at hn; exact trivial)) )
  replace g1 : (sy_i F 69).toInt ≤ (((sy_ai F 31).getD ((sy_i F 11).toInt).toNat 0).toInt - 1) := by omega
  by_cases g2 : ((sy_ai F 54).getD ((14 + (sy_i F 69).toInt)).toNat 0).toInt = 0
  · have c11 := nz_bx hB (k := 11) (lo := 0) (hi := 1) rfl
    have q70 : (sy_ai F 31).getD (sy_i F 11).toNatClampNeg 0 = (sy_ai F 31).getD ((sy_i F 11).toInt).toNat 0 := by simp only [nz_c]
    have n70 : nzI ((sy_ai F 31).getD (sy_i F 11).toNatClampNeg 0) (((sy_ai F 31).getD ((sy_i F 11).toInt).toNat 0).toInt) := congrArg Int32.toInt q70
    have r70 := nz_ba hB (k := 31) (lo := 0) (hi := 7) rfl ((sy_i F 11).toInt).toNat
    have n71 : nzI (((sy_ai F 31).getD (sy_i F 11).toNatClampNeg 0) - ((1 : Int32))) ((((sy_ai F 31).getD ((sy_i F 11).toInt).toNat 0).toInt - 1)) := nz_sub (nzE n70) (by decide : ((1 : Int32)).toInt = 1) (by omega) (by omega)
    have n72 : nzI (((14 : Int32)) + (sy_i F 69)) ((14 + (sy_i F 69).toInt)) := nz_add (by decide : ((14 : Int32)).toInt = 14) (rfl : (sy_i F 69).toInt = (sy_i F 69).toInt) (by omega) (by omega)
    have q73 : (sy_ai F 54).getD (((14 : Int32)) + (sy_i F 69)).toNatClampNeg 0 = (sy_ai F 54).getD ((14 + (sy_i F 69).toInt)).toNat 0 := by simp only [nz_c, (nzE n72), (by decide : ((14 : Int32)).toInt = 14)]
    have n73 : nzI ((sy_ai F 54).getD (((14 : Int32)) + (sy_i F 69)).toNatClampNeg 0) (((sy_ai F 54).getD ((14 + (sy_i F 69).toInt)).toNat 0).toInt) := congrArg Int32.toInt q73
    have q71 : ((sy_ai F 31).getD (sy_i F 11).toNatClampNeg 0) - ((1 : Int32)) = ((sy_ai F 31).getD ((sy_i F 11).toInt).toNat 0) - ((1 : Int32)) := by simp only [nz_c, (nzE n71), (by decide : ((1 : Int32)).toInt = 1)]
    have m71 : nzI (((sy_ai F 31).getD ((sy_i F 11).toInt).toNat 0) - ((1 : Int32))) ((((sy_ai F 31).getD ((sy_i F 11).toInt).toNat 0).toInt - 1)) := (congrArg Int32.toInt q71.symm).trans (nzE n71)
    exact zsh_0_p2 hd F X1 X2 hB (by first | exact ⟨by omega, by omega⟩ | (simp only [nz_c]; exact ⟨by omega, by omega⟩)) (by first | exact g0 | (simp only [nz_c]; exact g0)) (by first | (simp only [nz_c, (nzE n71), (nzE m71)]; exact g1) | exact g1 | (rw [(nzE n71)]; exact g1)) (by first | (simp only [nz_c, (nzE n72)]; exact ⟨by omega, by omega⟩) | exact ⟨by omega, by omega⟩ | (rw [(nzE n72)]; exact ⟨by omega, by omega⟩)) (by first | (simp only [nz_c, (nzE n72)]; exact g2) | exact g2 | (rw [(nzE n73)]; exact g2)) (fun F1 g e69 => k2 g0 g1 g2 F1 (nz_in hB [] (fun j hj hn => g j hj (by simp only [List.mem_cons, List.not_mem_nil, or_false, not_or] at hn; exact trivial)) (List.forall_mem_nil _)) (fun j hj hn => g j hj (by simp only [List.mem_cons, List.not_mem_nil, or_false, not_or] at hn; exact trivial)) ((congrArg Int32.toInt (zz_i e69)).trans (rfl : (sy_i F 69).toInt = (sy_i F 69).toInt)) ((zz_i e69).trans (rfl : sy_i F 69 = sy_i F 69)))
  replace g2 : ((sy_ai F 54).getD ((14 + (sy_i F 69).toInt)).toNat 0).toInt ≠ 0 := by omega
  have c11 := nz_bx hB (k := 11) (lo := 0) (hi := 1) rfl
  have q70 : (sy_ai F 31).getD (sy_i F 11).toNatClampNeg 0 = (sy_ai F 31).getD ((sy_i F 11).toInt).toNat 0 := by simp only [nz_c]
  have n70 : nzI ((sy_ai F 31).getD (sy_i F 11).toNatClampNeg 0) (((sy_ai F 31).getD ((sy_i F 11).toInt).toNat 0).toInt) := congrArg Int32.toInt q70
  have r70 := nz_ba hB (k := 31) (lo := 0) (hi := 7) rfl ((sy_i F 11).toInt).toNat
  have n71 : nzI (((sy_ai F 31).getD (sy_i F 11).toNatClampNeg 0) - ((1 : Int32))) ((((sy_ai F 31).getD ((sy_i F 11).toInt).toNat 0).toInt - 1)) := nz_sub (nzE n70) (by decide : ((1 : Int32)).toInt = 1) (by omega) (by omega)
  have n72 : nzI (((14 : Int32)) + (sy_i F 69)) ((14 + (sy_i F 69).toInt)) := nz_add (by decide : ((14 : Int32)).toInt = 14) (rfl : (sy_i F 69).toInt = (sy_i F 69).toInt) (by omega) (by omega)
  have q73 : (sy_ai F 54).getD (((14 : Int32)) + (sy_i F 69)).toNatClampNeg 0 = (sy_ai F 54).getD ((14 + (sy_i F 69).toInt)).toNat 0 := by simp only [nz_c, (nzE n72), (by decide : ((14 : Int32)).toInt = 14)]
  have n73 : nzI ((sy_ai F 54).getD (((14 : Int32)) + (sy_i F 69)).toNatClampNeg 0) (((sy_ai F 54).getD ((14 + (sy_i F 69).toInt)).toNat 0).toInt) := congrArg Int32.toInt q73
  have q71 : ((sy_ai F 31).getD (sy_i F 11).toNatClampNeg 0) - ((1 : Int32)) = ((sy_ai F 31).getD ((sy_i F 11).toInt).toNat 0) - ((1 : Int32)) := by simp only [nz_c, (nzE n71), (by decide : ((1 : Int32)).toInt = 1)]
  have m71 : nzI (((sy_ai F 31).getD ((sy_i F 11).toInt).toNat 0) - ((1 : Int32))) ((((sy_ai F 31).getD ((sy_i F 11).toInt).toNat 0).toInt - 1)) := (congrArg Int32.toInt q71.symm).trans (nzE n71)
  exact zsh_0_p3 hd F X1 X2 hB (by first | exact ⟨by omega, by omega⟩ | (simp only [nz_c]; exact ⟨by omega, by omega⟩)) (by first | exact g0 | (simp only [nz_c]; exact g0)) (by first | (simp only [nz_c, (nzE n71), (nzE m71)]; exact g1) | exact g1 | (rw [(nzE n71)]; exact g1)) (by first | (simp only [nz_c, (nzE n72)]; exact ⟨by omega, by omega⟩) | exact ⟨by omega, by omega⟩ | (rw [(nzE n72)]; exact ⟨by omega, by omega⟩)) (by first | (simp only [nz_c, (nzE n72)]; exact g2) | exact g2 | (rw [(nzE n73)]; exact g2)) (fun F1 g  => k3 g0 g1 g2 F1 (nz_in hB [] (fun j hj hn => g j hj (by simp only [List.mem_cons, List.not_mem_nil, or_false, not_or] at hn; exact trivial)) (List.forall_mem_nil _)) (fun j hj hn => g j hj (by simp only [List.mem_cons, List.not_mem_nil, or_false, not_or] at hn; exact trivial)) )
theorem zsh_29_p0 {Ls : Nat} {xs : Nat → Int32} {d : Nat} {Q : Option Value → jm_h → Prop} (hd : 1 ≤ d) (F : Nat → sy_d) (X1 X2 : List jm_c) (hB : iv_in F iv_B4)
    (k : ∀ F1 : Nat → sy_d, (∀ j, j < 69 → True → F1 j = F j) → F1 69 = .inl (.int (sy_i F 69)) → hd_W Ls xs d jm_M203 Q (30, sy_dL F1 [some (.inl (.ref 1000)), some (.inr (.inl 69)), none, none, none], sy_dS F1 [.inl (.ref 1000)], sy_dh F1 X1 X2 (iv_H 4), 0, 0)) :
    hd_W Ls xs d jm_M203 Q (29, sy_dL F [some (.inl (.ref 1000)), some (.inr (.inl 69)), none, none, none], sy_dS F [], sy_dh F X1 X2 (iv_H 4), 0, 0) := by
  refine hd_run (s := 4) (nv := 70) (pc := 30) (L := [some (.inl (.ref 1000)), some (.inr (.inl 69)), none, none, none]) (S := [.inl (.ref 1000)]) (uh := hd_ov (iv_id 0 iv_B4) []) (ul := [.inl (.inr (.inl 69))]) (f := false) (sp := [30]) (d0 := 0) (O := []) (T := []) (P := []) jm_ok203 (by decide +kernel) (by decide +kernel) hd F X1 X2 (fun F' hF hs => ?_)
  have b69 := hd_b (F := F) (F' := F') (k := 69) (hF 69 (by decide))
  have hB' : iv_in F' iv_B4 := iv_in_eq hB (fun j hj => hF j (Nat.lt_of_lt_of_le hj (by decide +kernel)))
  refine ⟨fun _ h => absurd h List.not_mem_nil, ?_⟩
  refine k _ ?_ ?_
  · exact fun j hj _ => (hd_keep hB' (Nat.lt_of_lt_of_le hj (by decide +kernel)) (by simp)).trans (hF j (Nat.lt_of_lt_of_le hj (by decide)))
  · exact hd_gi (x := .inr (.inl 69)) (by decide +kernel) b69
theorem zsh_29 {Ls : Nat} {xs : Nat → Int32} {d : Nat} {Q : Option Value → jm_h → Prop} (hd : 1 ≤ d) (F : Nat → sy_d) (X1 X2 : List jm_c) (hB : iv_in F iv_B4)
    (k0 : ∀ F1 : Nat → sy_d, iv_in F1 iv_B4 → (∀ j, j < 69 → j ∉ ([] : List Nat) → F1 j = F j) → (sy_i F1 69).toInt = (sy_i F 69).toInt → sy_i F1 69 = sy_i F 69 → hd_W Ls xs d jm_M203 Q (30, sy_dL F1 [some (.inl (.ref 1000)), some (.inr (.inl 69)), none, none, none], sy_dS F1 [.inl (.ref 1000)], sy_dh F1 X1 X2 (iv_H 4), 0, 0)) :
    hd_W Ls xs d jm_M203 Q (29, sy_dL F [some (.inl (.ref 1000)), some (.inr (.inl 69)), none, none, none], sy_dS F [], sy_dh F X1 X2 (iv_H 4), 0, 0) := by
  exact zsh_29_p0 hd F X1 X2 hB  (fun F1 g e69 => k0 F1 (nz_in hB [] (fun j hj hn => g j hj (by simp only [List.mem_cons, List.not_mem_nil, or_false, not_or] at hn; exact trivial)) (List.forall_mem_nil _)) (fun j hj hn => g j hj (by simp only [List.mem_cons, List.not_mem_nil, or_false, not_or] at hn; exact trivial)) ((congrArg Int32.toInt (zz_i e69)).trans (rfl : (sy_i F 69).toInt = (sy_i F 69).toInt)) ((zz_i e69).trans (rfl : sy_i F 69 = sy_i F 69)))
theorem zsh_33_p0 {Ls : Nat} {xs : Nat → Int32} {d : Nat} {Q : Option Value → jm_h → Prop} (hd : 1 ≤ d) (F : Nat → sy_d) (X1 X2 : List jm_c) (hB : iv_in F iv_B4)
    (k : ∀ F1 : Nat → sy_d, (∀ j, j < 69 → True → F1 j = F j) → F1 69 = .inl (.int (sy_i F 69)) → F1 70 = .inl (.int (sy_i F 70)) → F1 71 = .inl (.int ((0 : Int32))) → F1 72 = .inl (.int ((sy_ai F 55).getD ((57 : Int32)).toNatClampNeg 0)) → hd_W Ls xs d jm_M203 Q (45, sy_dL F1 [some (.inl (.ref 1000)), some (.inr (.inl 69)), some (.inr (.inl 70)), some (.inr (.inl 71)), none], sy_dS F1 [.inl (.ref 1000), .inr (.inl 72), .inl (.ref 1000)], sy_dh F1 X1 X2 (iv_H 4), 0, 0)) :
    hd_W Ls xs d jm_M203 Q (33, sy_dL F [some (.inl (.ref 1000)), some (.inr (.inl 69)), none, none, none], sy_dS F [.inr (.inl 70)], sy_dh F X1 X2 (iv_H 4), 0, 0) := by
  refine hd_run (s := 4) (nv := 71) (pc := 45) (L := [some (.inl (.ref 1000)), some (.inr (.inl 69)), some (.inr (.inl 70)), some (.inr (.inl 71)), none]) (S := [.inl (.ref 1000), .inr (.inl 72), .inl (.ref 1000)]) (uh := hd_ov (iv_id 0 iv_B4) []) (ul := [.inl (.inr (.inl 69)), .inl (.inr (.inl 70)), .inl (.inl (.int 0)), .inl (.inr (.inl 71))]) (f := false) (sp := [45]) (d0 := 0) (O := []) (T := [(30, [.inl (.int 57)], [.inr (.inl 55)])]) (P := []) jm_ok203 (by decide +kernel) (by decide +kernel) hd F X1 X2 (fun F' hF hs => ?_)
  have b69 := hd_b (F := F) (F' := F') (k := 69) (hF 69 (by decide))
  have b70 := hd_b (F := F) (F' := F') (k := 70) (hF 70 (by decide))
  have a55 := hd_ba (F := F) (F' := F') (k := 55) (hF 55 (by decide))
  have t71 : sy_dv F' (.inr (.inl 71)) = .int ((sy_ai F 55).getD ((57 : Int32)).toNatClampNeg 0) := hd_rd (hs 0 _ rfl) rfl a55
  have hB' : iv_in F' iv_B4 := iv_in_eq hB (fun j hj => hF j (Nat.lt_of_lt_of_le hj (by decide +kernel)))
  refine ⟨fun _ h => absurd h List.not_mem_nil, ?_⟩
  refine k _ ?_ ?_ ?_ ?_ ?_
  · exact fun j hj _ => (hd_keep hB' (Nat.lt_of_lt_of_le hj (by decide +kernel)) (by simp)).trans (hF j (Nat.lt_of_lt_of_le hj (by decide)))
  · exact hd_gi (x := .inr (.inl 69)) (by decide +kernel) b69
  · exact hd_gi (x := .inr (.inl 70)) (by decide +kernel) b70
  · exact hd_gi (x := .inl (.int 0)) (by decide +kernel) rfl
  · exact hd_gi (x := .inr (.inl 71)) (by decide +kernel) t71
theorem zsh_33 {Ls : Nat} {xs : Nat → Int32} {d : Nat} {Q : Option Value → jm_h → Prop} (hd : 1 ≤ d) (F : Nat → sy_d) (X1 X2 : List jm_c) (hB : iv_in F iv_B4)
    (k0 : ∀ F1 : Nat → sy_d, iv_in F1 iv_B4 → (∀ j, j < 69 → j ∉ ([] : List Nat) → F1 j = F j) → (sy_i F1 69).toInt = (sy_i F 69).toInt → sy_i F1 69 = sy_i F 69 → (sy_i F1 70).toInt = (sy_i F 70).toInt → sy_i F1 70 = sy_i F 70 → (sy_i F1 71).toInt = 0 → sy_i F1 71 = (0 : Int32) → (sy_i F1 72).toInt = ((sy_ai F 55).getD (57 : Int).toNat 0).toInt → sy_i F1 72 = (sy_ai F 55).getD (57 : Int).toNat 0 → hd_W Ls xs d jm_M203 Q (45, sy_dL F1 [some (.inl (.ref 1000)), some (.inr (.inl 69)), some (.inr (.inl 70)), some (.inr (.inl 71)), none], sy_dS F1 [.inl (.ref 1000), .inr (.inl 72), .inl (.ref 1000)], sy_dh F1 X1 X2 (iv_H 4), 0, 0)) :
    hd_W Ls xs d jm_M203 Q (33, sy_dL F [some (.inl (.ref 1000)), some (.inr (.inl 69)), none, none, none], sy_dS F [.inr (.inl 70)], sy_dh F X1 X2 (iv_H 4), 0, 0) := by
  have q71 : (sy_ai F 55).getD ((57 : Int32)).toNatClampNeg 0 = (sy_ai F 55).getD (57 : Int).toNat 0 := by simp only [nz_c, (by decide : ((57 : Int32)).toInt = 57)]
  have n71 : nzI ((sy_ai F 55).getD ((57 : Int32)).toNatClampNeg 0) (((sy_ai F 55).getD (57 : Int).toNat 0).toInt) := congrArg Int32.toInt q71
  exact zsh_33_p0 hd F X1 X2 hB  (fun F1 g e69 e70 e71 e72 => k0 F1 (nz_in hB [] (fun j hj hn => g j hj (by simp only [List.mem_cons, List.not_mem_nil, or_false, not_or] at hn; exact trivial)) (List.forall_mem_nil _)) (fun j hj hn => g j hj (by simp only [List.mem_cons, List.not_mem_nil, or_false, not_or] at hn; exact trivial)) ((congrArg Int32.toInt (zz_i e69)).trans (rfl : (sy_i F 69).toInt = (sy_i F 69).toInt)) ((zz_i e69).trans (rfl : sy_i F 69 = sy_i F 69)) ((congrArg Int32.toInt (zz_i e70)).trans (rfl : (sy_i F 70).toInt = (sy_i F 70).toInt)) ((zz_i e70).trans (rfl : sy_i F 70 = sy_i F 70)) ((congrArg Int32.toInt (zz_i e71)).trans (by decide : ((0 : Int32)).toInt = 0)) ((zz_i e71).trans (rfl : (0 : Int32) = (0 : Int32))) ((congrArg Int32.toInt (zz_i e72)).trans (nzE n71)) ((zz_i e72).trans q71))
theorem zsh_48_p0 {Ls : Nat} {xs : Nat → Int32} {d : Nat} {Q : Option Value → jm_h → Prop} (hd : 2 ≤ d) (F : Nat → sy_d) (X1 X2 : List jm_c) (hB : iv_in F iv_B4)
    (k : ∀ F1 : Nat → sy_d, (∀ j, j < 69 → j ≠ 52 → F1 j = F j) → F1 52 = .inr (.inl (jm_upd (jm_upd (jm_upd (jm_upd (jm_upd (jm_upd (jm_upd (jm_upd (jm_upd (jm_upd (jm_upd (jm_upd (jm_upd (sy_ai F 52) ((0 : Int32)).toNatClampNeg ((0 : Int32))) ((1 : Int32)).toNatClampNeg ((0 : Int32))) ((2 : Int32)).toNatClampNeg ((0 : Int32))) ((3 : Int32)).toNatClampNeg ((0 : Int32))) ((4 : Int32)).toNatClampNeg ((0 : Int32))) ((5 : Int32)).toNatClampNeg ((0 : Int32))) ((6 : Int32)).toNatClampNeg ((0 : Int32))) ((7 : Int32)).toNatClampNeg ((0 : Int32))) ((8 : Int32)).toNatClampNeg ((0 : Int32))) ((2 : Int32)).toNatClampNeg (sy_i F 72)) ((8 : Int32)).toNatClampNeg (sy_i F 73)) ((3 : Int32)).toNatClampNeg (sy_i F 70)) ((5 : Int32)).toNatClampNeg (((sy_ai F 55).getD ((58 : Int32)).toNatClampNeg 0) + ((1 : Int32))))) → F1 69 = .inl (.int (sy_i F 69)) → F1 70 = .inl (.int (sy_i F 71)) → hd_W Ls xs d jm_M203 Q (79, sy_dL F1 [some (.inl (.ref 1000)), some (.inr (.inl 69)), none, some (.inr (.inl 70)), none], sy_dS F1 [.inl (.int 100), .inl (.int 0), .inl (.int 0), .inl (.int 5), .inl (.ref 1000)], sy_dh F1 X1 X2 (iv_H 4), 0, 0)) :
    hd_W Ls xs d jm_M203 Q (48, sy_dL F [some (.inl (.ref 1000)), some (.inr (.inl 69)), some (.inr (.inl 70)), some (.inr (.inl 71)), none], sy_dS F [.inr (.inl 73), .inr (.inl 72), .inl (.ref 1000)], sy_dh F X1 X2 (iv_H 4), 0, 0) := by
  refine hd_run (s := 4) (nv := 74) (pc := 79) (L := [some (.inl (.ref 1000)), some (.inr (.inl 69)), none, some (.inr (.inl 70)), none]) (S := [.inl (.int 100), .inl (.int 0), .inl (.int 0), .inl (.int 5), .inl (.ref 1000)]) (uh := hd_ov (iv_id 0 iv_B4) [(52, .inr (.inr (.inl 88)))]) (ul := [.inl (.inr (.inl 69)), .inl (.inr (.inl 71))]) (f := false) (sp := [79]) (d0 := 1) (O := []) (T := [(40, [.inl (.int 0), .inl (.int 0)], [.inr (.inl 52)]), (40, [.inl (.int 1), .inl (.int 0)], [.inr (.inl 74)]), (40, [.inl (.int 2), .inl (.int 0)], [.inr (.inl 75)]), (40, [.inl (.int 3), .inl (.int 0)], [.inr (.inl 76)]), (40, [.inl (.int 4), .inl (.int 0)], [.inr (.inl 77)]), (40, [.inl (.int 5), .inl (.int 0)], [.inr (.inl 78)]), (40, [.inl (.int 6), .inl (.int 0)], [.inr (.inl 79)]), (40, [.inl (.int 7), .inl (.int 0)], [.inr (.inl 80)]), (40, [.inl (.int 8), .inl (.int 0)], [.inr (.inl 81)]), (40, [.inl (.int 2), .inr (.inl 72)], [.inr (.inl 82)]), (40, [.inl (.int 8), .inr (.inl 73)], [.inr (.inl 83)]), (40, [.inl (.int 3), .inr (.inl 70)], [.inr (.inl 84)]), (30, [.inl (.int 58)], [.inr (.inl 55)]), (0, [.inr (.inl 86), .inl (.int 1)], []), (40, [.inl (.int 5), .inr (.inl 87)], [.inr (.inl 85)])]) (P := []) jm_ok203 (by decide +kernel) (by decide +kernel) hd F X1 X2 (fun F' hF hs => ?_)
  have a55 := hd_ba (F := F) (F' := F') (k := 55) (hF 55 (by decide))
  have t86 : sy_dv F' (.inr (.inl 86)) = .int ((sy_ai F 55).getD ((58 : Int32)).toNatClampNeg 0) := hd_rd (hs 12 _ rfl) rfl a55
  have t87 : sy_dv F' (.inr (.inl 87)) = .int (((sy_ai F 55).getD ((58 : Int32)).toNatClampNeg 0) + ((1 : Int32))) := hd_o (hs 13 _ rfl) t86 rfl rfl
  have b70 := hd_b (F := F) (F' := F') (k := 70) (hF 70 (by decide))
  have b73 := hd_b (F := F) (F' := F') (k := 73) (hF 73 (by decide))
  have b72 := hd_b (F := F) (F' := F') (k := 72) (hF 72 (by decide))
  have a52 := hd_ba (F := F) (F' := F') (k := 52) (hF 52 (by decide))
  have t74 : sy_da F' (.inr (.inl 74)) = .inl (jm_upd (sy_ai F 52) ((0 : Int32)).toNatClampNeg ((0 : Int32))) := hd_up (hs 0 _ rfl) rfl rfl a52
  have t75 : sy_da F' (.inr (.inl 75)) = .inl (jm_upd (jm_upd (sy_ai F 52) ((0 : Int32)).toNatClampNeg ((0 : Int32))) ((1 : Int32)).toNatClampNeg ((0 : Int32))) := hd_up (hs 1 _ rfl) rfl rfl t74
  have t76 : sy_da F' (.inr (.inl 76)) = .inl (jm_upd (jm_upd (jm_upd (sy_ai F 52) ((0 : Int32)).toNatClampNeg ((0 : Int32))) ((1 : Int32)).toNatClampNeg ((0 : Int32))) ((2 : Int32)).toNatClampNeg ((0 : Int32))) := hd_up (hs 2 _ rfl) rfl rfl t75
  have t77 : sy_da F' (.inr (.inl 77)) = .inl (jm_upd (jm_upd (jm_upd (jm_upd (sy_ai F 52) ((0 : Int32)).toNatClampNeg ((0 : Int32))) ((1 : Int32)).toNatClampNeg ((0 : Int32))) ((2 : Int32)).toNatClampNeg ((0 : Int32))) ((3 : Int32)).toNatClampNeg ((0 : Int32))) := hd_up (hs 3 _ rfl) rfl rfl t76
  have t78 : sy_da F' (.inr (.inl 78)) = .inl (jm_upd (jm_upd (jm_upd (jm_upd (jm_upd (sy_ai F 52) ((0 : Int32)).toNatClampNeg ((0 : Int32))) ((1 : Int32)).toNatClampNeg ((0 : Int32))) ((2 : Int32)).toNatClampNeg ((0 : Int32))) ((3 : Int32)).toNatClampNeg ((0 : Int32))) ((4 : Int32)).toNatClampNeg ((0 : Int32))) := hd_up (hs 4 _ rfl) rfl rfl t77
  have t79 : sy_da F' (.inr (.inl 79)) = .inl (jm_upd (jm_upd (jm_upd (jm_upd (jm_upd (jm_upd (sy_ai F 52) ((0 : Int32)).toNatClampNeg ((0 : Int32))) ((1 : Int32)).toNatClampNeg ((0 : Int32))) ((2 : Int32)).toNatClampNeg ((0 : Int32))) ((3 : Int32)).toNatClampNeg ((0 : Int32))) ((4 : Int32)).toNatClampNeg ((0 : Int32))) ((5 : Int32)).toNatClampNeg ((0 : Int32))) := hd_up (hs 5 _ rfl) rfl rfl t78
  have t80 : sy_da F' (.inr (.inl 80)) = .inl (jm_upd (jm_upd (jm_upd (jm_upd (jm_upd (jm_upd (jm_upd (sy_ai F 52) ((0 : Int32)).toNatClampNeg ((0 : Int32))) ((1 : Int32)).toNatClampNeg ((0 : Int32))) ((2 : Int32)).toNatClampNeg ((0 : Int32))) ((3 : Int32)).toNatClampNeg ((0 : Int32))) ((4 : Int32)).toNatClampNeg ((0 : Int32))) ((5 : Int32)).toNatClampNeg ((0 : Int32))) ((6 : Int32)).toNatClampNeg ((0 : Int32))) := hd_up (hs 6 _ rfl) rfl rfl t79
  have t81 : sy_da F' (.inr (.inl 81)) = .inl (jm_upd (jm_upd (jm_upd (jm_upd (jm_upd (jm_upd (jm_upd (jm_upd (sy_ai F 52) ((0 : Int32)).toNatClampNeg ((0 : Int32))) ((1 : Int32)).toNatClampNeg ((0 : Int32))) ((2 : Int32)).toNatClampNeg ((0 : Int32))) ((3 : Int32)).toNatClampNeg ((0 : Int32))) ((4 : Int32)).toNatClampNeg ((0 : Int32))) ((5 : Int32)).toNatClampNeg ((0 : Int32))) ((6 : Int32)).toNatClampNeg ((0 : Int32))) ((7 : Int32)).toNatClampNeg ((0 : Int32))) := hd_up (hs 7 _ rfl) rfl rfl t80
  have t82 : sy_da F' (.inr (.inl 82)) = .inl (jm_upd (jm_upd (jm_upd (jm_upd (jm_upd (jm_upd (jm_upd (jm_upd (jm_upd (sy_ai F 52) ((0 : Int32)).toNatClampNeg ((0 : Int32))) ((1 : Int32)).toNatClampNeg ((0 : Int32))) ((2 : Int32)).toNatClampNeg ((0 : Int32))) ((3 : Int32)).toNatClampNeg ((0 : Int32))) ((4 : Int32)).toNatClampNeg ((0 : Int32))) ((5 : Int32)).toNatClampNeg ((0 : Int32))) ((6 : Int32)).toNatClampNeg ((0 : Int32))) ((7 : Int32)).toNatClampNeg ((0 : Int32))) ((8 : Int32)).toNatClampNeg ((0 : Int32))) := hd_up (hs 8 _ rfl) rfl rfl t81
  have t83 : sy_da F' (.inr (.inl 83)) = .inl (jm_upd (jm_upd (jm_upd (jm_upd (jm_upd (jm_upd (jm_upd (jm_upd (jm_upd (jm_upd (sy_ai F 52) ((0 : Int32)).toNatClampNeg ((0 : Int32))) ((1 : Int32)).toNatClampNeg ((0 : Int32))) ((2 : Int32)).toNatClampNeg ((0 : Int32))) ((3 : Int32)).toNatClampNeg ((0 : Int32))) ((4 : Int32)).toNatClampNeg ((0 : Int32))) ((5 : Int32)).toNatClampNeg ((0 : Int32))) ((6 : Int32)).toNatClampNeg ((0 : Int32))) ((7 : Int32)).toNatClampNeg ((0 : Int32))) ((8 : Int32)).toNatClampNeg ((0 : Int32))) ((2 : Int32)).toNatClampNeg (sy_i F 72)) := hd_up (hs 9 _ rfl) rfl b72 t82
  have t84 : sy_da F' (.inr (.inl 84)) = .inl (jm_upd (jm_upd (jm_upd (jm_upd (jm_upd (jm_upd (jm_upd (jm_upd (jm_upd (jm_upd (jm_upd (sy_ai F 52) ((0 : Int32)).toNatClampNeg ((0 : Int32))) ((1 : Int32)).toNatClampNeg ((0 : Int32))) ((2 : Int32)).toNatClampNeg ((0 : Int32))) ((3 : Int32)).toNatClampNeg ((0 : Int32))) ((4 : Int32)).toNatClampNeg ((0 : Int32))) ((5 : Int32)).toNatClampNeg ((0 : Int32))) ((6 : Int32)).toNatClampNeg ((0 : Int32))) ((7 : Int32)).toNatClampNeg ((0 : Int32))) ((8 : Int32)).toNatClampNeg ((0 : Int32))) ((2 : Int32)).toNatClampNeg (sy_i F 72)) ((8 : Int32)).toNatClampNeg (sy_i F 73)) := hd_up (hs 10 _ rfl) rfl b73 t83
  have t85 : sy_da F' (.inr (.inl 85)) = .inl (jm_upd (jm_upd (jm_upd (jm_upd (jm_upd (jm_upd (jm_upd (jm_upd (jm_upd (jm_upd (jm_upd (jm_upd (sy_ai F 52) ((0 : Int32)).toNatClampNeg ((0 : Int32))) ((1 : Int32)).toNatClampNeg ((0 : Int32))) ((2 : Int32)).toNatClampNeg ((0 : Int32))) ((3 : Int32)).toNatClampNeg ((0 : Int32))) ((4 : Int32)).toNatClampNeg ((0 : Int32))) ((5 : Int32)).toNatClampNeg ((0 : Int32))) ((6 : Int32)).toNatClampNeg ((0 : Int32))) ((7 : Int32)).toNatClampNeg ((0 : Int32))) ((8 : Int32)).toNatClampNeg ((0 : Int32))) ((2 : Int32)).toNatClampNeg (sy_i F 72)) ((8 : Int32)).toNatClampNeg (sy_i F 73)) ((3 : Int32)).toNatClampNeg (sy_i F 70)) := hd_up (hs 11 _ rfl) rfl b70 t84
  have t88 : sy_da F' (.inr (.inl 88)) = .inl (jm_upd (jm_upd (jm_upd (jm_upd (jm_upd (jm_upd (jm_upd (jm_upd (jm_upd (jm_upd (jm_upd (jm_upd (jm_upd (sy_ai F 52) ((0 : Int32)).toNatClampNeg ((0 : Int32))) ((1 : Int32)).toNatClampNeg ((0 : Int32))) ((2 : Int32)).toNatClampNeg ((0 : Int32))) ((3 : Int32)).toNatClampNeg ((0 : Int32))) ((4 : Int32)).toNatClampNeg ((0 : Int32))) ((5 : Int32)).toNatClampNeg ((0 : Int32))) ((6 : Int32)).toNatClampNeg ((0 : Int32))) ((7 : Int32)).toNatClampNeg ((0 : Int32))) ((8 : Int32)).toNatClampNeg ((0 : Int32))) ((2 : Int32)).toNatClampNeg (sy_i F 72)) ((8 : Int32)).toNatClampNeg (sy_i F 73)) ((3 : Int32)).toNatClampNeg (sy_i F 70)) ((5 : Int32)).toNatClampNeg (((sy_ai F 55).getD ((58 : Int32)).toNatClampNeg 0) + ((1 : Int32)))) := hd_up (hs 14 _ rfl) rfl t87 t85
  have b69 := hd_b (F := F) (F' := F') (k := 69) (hF 69 (by decide))
  have b71 := hd_b (F := F) (F' := F') (k := 71) (hF 71 (by decide))
  have hB' : iv_in F' iv_B4 := iv_in_eq hB (fun j hj => hF j (Nat.lt_of_lt_of_le hj (by decide +kernel)))
  refine ⟨fun _ h => absurd h List.not_mem_nil, ?_⟩
  refine k _ ?_ ?_ ?_ ?_
  · exact fun j hj hn => (hd_keep hB' (Nat.lt_of_lt_of_le hj (by decide +kernel)) (by simp; omega)).trans (hF j (Nat.lt_of_lt_of_le hj (by decide)))
  · exact hd_ga (a := .inr (.inl 88)) (by decide +kernel) t88
  · exact hd_gi (x := .inr (.inl 69)) (by decide +kernel) b69
  · exact hd_gi (x := .inr (.inl 71)) (by decide +kernel) b71
theorem zsh_48 {Ls : Nat} {xs : Nat → Int32} {d : Nat} {Q : Option Value → jm_h → Prop} (hd : 2 ≤ d) (F : Nat → sy_d) (X1 X2 : List jm_c) (hB : iv_in F iv_B4)
    (k0 : ∀ F1 : Nat → sy_d, iv_in F1 iv_B4 → (∀ j, j < 69 → j ∉ ([52] : List Nat) → F1 j = F j) → sy_ai F1 52 = jm_upd (jm_upd (jm_upd (jm_upd (jm_upd (jm_upd (jm_upd (jm_upd (jm_upd (jm_upd (jm_upd (jm_upd (jm_upd (sy_ai F 52) (0 : Int).toNat ((0 : Int32))) (1 : Int).toNat ((0 : Int32))) (2 : Int).toNat ((0 : Int32))) (3 : Int).toNat ((0 : Int32))) (4 : Int).toNat ((0 : Int32))) (5 : Int).toNat ((0 : Int32))) (6 : Int).toNat ((0 : Int32))) (7 : Int).toNat ((0 : Int32))) (8 : Int).toNat ((0 : Int32))) (2 : Int).toNat (sy_i F 72)) (8 : Int).toNat (sy_i F 73)) (3 : Int).toNat (sy_i F 70)) (5 : Int).toNat (((sy_ai F 55).getD (58 : Int).toNat 0) + ((1 : Int32))) → (sy_i F1 69).toInt = (sy_i F 69).toInt → sy_i F1 69 = sy_i F 69 → (sy_i F1 70).toInt = (sy_i F 71).toInt → sy_i F1 70 = sy_i F 71 → hd_W Ls xs d jm_M203 Q (79, sy_dL F1 [some (.inl (.ref 1000)), some (.inr (.inl 69)), none, some (.inr (.inl 70)), none], sy_dS F1 [.inl (.int 100), .inl (.int 0), .inl (.int 0), .inl (.int 5), .inl (.ref 1000)], sy_dh F1 X1 X2 (iv_H 4), 0, 0)) :
    hd_W Ls xs d jm_M203 Q (48, sy_dL F [some (.inl (.ref 1000)), some (.inr (.inl 69)), some (.inr (.inl 70)), some (.inr (.inl 71)), none], sy_dS F [.inr (.inl 73), .inr (.inl 72), .inl (.ref 1000)], sy_dh F X1 X2 (iv_H 4), 0, 0) := by
  have w88 : jm_upd (jm_upd (jm_upd (jm_upd (jm_upd (jm_upd (jm_upd (jm_upd (jm_upd (jm_upd (jm_upd (jm_upd (jm_upd (sy_ai F 52) ((0 : Int32)).toNatClampNeg ((0 : Int32))) ((1 : Int32)).toNatClampNeg ((0 : Int32))) ((2 : Int32)).toNatClampNeg ((0 : Int32))) ((3 : Int32)).toNatClampNeg ((0 : Int32))) ((4 : Int32)).toNatClampNeg ((0 : Int32))) ((5 : Int32)).toNatClampNeg ((0 : Int32))) ((6 : Int32)).toNatClampNeg ((0 : Int32))) ((7 : Int32)).toNatClampNeg ((0 : Int32))) ((8 : Int32)).toNatClampNeg ((0 : Int32))) ((2 : Int32)).toNatClampNeg (sy_i F 72)) ((8 : Int32)).toNatClampNeg (sy_i F 73)) ((3 : Int32)).toNatClampNeg (sy_i F 70)) ((5 : Int32)).toNatClampNeg (((sy_ai F 55).getD ((58 : Int32)).toNatClampNeg 0) + ((1 : Int32))) = jm_upd (jm_upd (jm_upd (jm_upd (jm_upd (jm_upd (jm_upd (jm_upd (jm_upd (jm_upd (jm_upd (jm_upd (jm_upd (sy_ai F 52) (0 : Int).toNat ((0 : Int32))) (1 : Int).toNat ((0 : Int32))) (2 : Int).toNat ((0 : Int32))) (3 : Int).toNat ((0 : Int32))) (4 : Int).toNat ((0 : Int32))) (5 : Int).toNat ((0 : Int32))) (6 : Int).toNat ((0 : Int32))) (7 : Int).toNat ((0 : Int32))) (8 : Int).toNat ((0 : Int32))) (2 : Int).toNat (sy_i F 72)) (8 : Int).toNat (sy_i F 73)) (3 : Int).toNat (sy_i F 70)) (5 : Int).toNat (((sy_ai F 55).getD (58 : Int).toNat 0) + ((1 : Int32))) := by simp only [nz_c, (by decide : ((0 : Int32)).toInt = 0), (by decide : ((1 : Int32)).toInt = 1), (by decide : ((2 : Int32)).toInt = 2), (by decide : ((3 : Int32)).toInt = 3), (by decide : ((4 : Int32)).toInt = 4), (by decide : ((5 : Int32)).toInt = 5), (by decide : ((6 : Int32)).toInt = 6), (by decide : ((7 : Int32)).toInt = 7), (by decide : ((8 : Int32)).toInt = 8), (by decide : ((58 : Int32)).toInt = 58)]
  exact zsh_48_p0 hd F X1 X2 hB  (fun F1 g e52 e69 e70 => k0 F1 (nz_in hB [52] (fun j hj hn => g j hj (by simp only [List.mem_cons, List.not_mem_nil, or_false, not_or] at hn; omega)) (List.forall_mem_cons.mpr ⟨fun t ht => (Option.some.inj ht) ▸ (nz_hz2 e52), List.forall_mem_nil _⟩)) (fun j hj hn => g j hj (by simp only [List.mem_cons, List.not_mem_nil, or_false, not_or] at hn; omega)) ((zz_ai e52).trans w88) ((congrArg Int32.toInt (zz_i e69)).trans (rfl : (sy_i F 69).toInt = (sy_i F 69).toInt)) ((zz_i e69).trans (rfl : sy_i F 69 = sy_i F 69)) ((congrArg Int32.toInt (zz_i e70)).trans (rfl : (sy_i F 71).toInt = (sy_i F 71).toInt)) ((zz_i e70).trans (rfl : sy_i F 71 = sy_i F 71)))
theorem zsh_82_p0 {Ls : Nat} {xs : Nat → Int32} {d : Nat} {Q : Option Value → jm_h → Prop} (hd : 3 ≤ d) (F : Nat → sy_d) (X1 X2 : List jm_c) (hB : iv_in F iv_B4)
    (h1 : (sy_i F 71).toInt ≤ (((((((((((((sy_i F 18) ^^^ ((101 : Int32))) * ((1103515245 : Int32))) + ((12345 : Int32))) ^^^ (((((((sy_i F 18) ^^^ ((101 : Int32))) * ((1103515245 : Int32))) + ((12345 : Int32)))).toUInt32 >>> ((((15 : Int32))).toUInt32 &&& Int32.toUInt32 31)).toInt32)) ^^^ (((1000000 : Int32)) + ((sy_ai F 55).getD ((58 : Int32)).toNatClampNeg 0))) * ((1103515245 : Int32))) + ((12345 : Int32))) ^^^ (((((((((((sy_i F 18) ^^^ ((101 : Int32))) * ((1103515245 : Int32))) + ((12345 : Int32))) ^^^ (((((((sy_i F 18) ^^^ ((101 : Int32))) * ((1103515245 : Int32))) + ((12345 : Int32)))).toUInt32 >>> ((((15 : Int32))).toUInt32 &&& Int32.toUInt32 31)).toInt32)) ^^^ (((1000000 : Int32)) + ((sy_ai F 55).getD ((58 : Int32)).toNatClampNeg 0))) * ((1103515245 : Int32))) + ((12345 : Int32)))).toUInt32 >>> ((((15 : Int32))).toUInt32 &&& Int32.toUInt32 31)).toInt32))).toUInt32 >>> ((((1 : Int32))).toUInt32 &&& Int32.toUInt32 31)).toInt32) - ((((((((((((sy_i F 18) ^^^ ((101 : Int32))) * ((1103515245 : Int32))) + ((12345 : Int32))) ^^^ (((((((sy_i F 18) ^^^ ((101 : Int32))) * ((1103515245 : Int32))) + ((12345 : Int32)))).toUInt32 >>> ((((15 : Int32))).toUInt32 &&& Int32.toUInt32 31)).toInt32)) ^^^ (((1000000 : Int32)) + ((sy_ai F 55).getD ((58 : Int32)).toNatClampNeg 0))) * ((1103515245 : Int32))) + ((12345 : Int32))) ^^^ (((((((((((sy_i F 18) ^^^ ((101 : Int32))) * ((1103515245 : Int32))) + ((12345 : Int32))) ^^^ (((((((sy_i F 18) ^^^ ((101 : Int32))) * ((1103515245 : Int32))) + ((12345 : Int32)))).toUInt32 >>> ((((15 : Int32))).toUInt32 &&& Int32.toUInt32 31)).toInt32)) ^^^ (((1000000 : Int32)) + ((sy_ai F 55).getD ((58 : Int32)).toNatClampNeg 0))) * ((1103515245 : Int32))) + ((12345 : Int32)))).toUInt32 >>> ((((15 : Int32))).toUInt32 &&& Int32.toUInt32 31)).toInt32))).toUInt32 >>> ((((1 : Int32))).toUInt32 &&& Int32.toUInt32 31)).toInt32) / ((100 : Int32)) * ((100 : Int32))).toInt)
    (h2 : 0 ≤ (((42 : Int32)) + (sy_i F 69)).toInt ∧ (((42 : Int32)) + (sy_i F 69)).toInt < 61)
    (h3 : 0 ≤ (((42 : Int32)) + (sy_i F 69)).toInt ∧ (((42 : Int32)) + (sy_i F 69)).toInt < 61)
    (h4 : (sy_i F 70).toInt = 0)
    (k : ∀ F1 : Nat → sy_d, (∀ j, j < 69 → j ≠ 55 → F1 j = F j) → F1 55 = .inr (.inl (jm_upd (jm_upd (sy_ai F 55) (((42 : Int32)) + (sy_i F 69)).toNatClampNeg (((sy_ai F 55).getD (((42 : Int32)) + (sy_i F 69)).toNatClampNeg 0) + ((1 : Int32)))) ((58 : Int32)).toNatClampNeg (((jm_upd (sy_ai F 55) (((42 : Int32)) + (sy_i F 69)).toNatClampNeg (((sy_ai F 55).getD (((42 : Int32)) + (sy_i F 69)).toNatClampNeg 0) + ((1 : Int32)))).getD ((58 : Int32)).toNatClampNeg 0) + ((1 : Int32))))) → F1 69 = .inl (.int (sy_i F 70)) → hd_W Ls xs d jm_M203 Q (165, sy_dL F1 [some (.inl (.ref 1000)), none, none, some (.inr (.inl 69)), none], sy_dS F1 [.inl (.ref 1000)], sy_dh F1 X1 X2 (iv_H 4), 0, 0)) :
    hd_W Ls xs d jm_M203 Q (82, sy_dL F [some (.inl (.ref 1000)), some (.inr (.inl 69)), none, some (.inr (.inl 70)), none], sy_dS F [.inr (.inl 71)], sy_dh F X1 X2 (iv_H 4), 0, 0) := by
  refine hd_run (s := 4) (nv := 72) (pc := 165) (L := [some (.inl (.ref 1000)), none, none, some (.inr (.inl 69)), none]) (S := [.inl (.ref 1000)]) (uh := hd_ov (iv_id 0 iv_B4) [(55, .inr (.inr (.inl 92)))]) (ul := [.inl (.inr (.inl 70))]) (f := false) (sp := [165]) (d0 := 2) (O := [true, true]) (T := [(30, [.inl (.int 58)], [.inr (.inl 55)]), (0, [.inl (.int 1000000), .inr (.inl 72)], []), (5, [.inr (.inl 18), .inl (.int 101)], []), (2, [.inr (.inl 74), .inl (.int 1103515245)], []), (0, [.inr (.inl 75), .inl (.int 12345)], []), (8, [.inr (.inl 76), .inl (.int 15)], []), (5, [.inr (.inl 76), .inr (.inl 77)], []), (5, [.inr (.inl 78), .inr (.inl 73)], []), (2, [.inr (.inl 79), .inl (.int 1103515245)], []), (0, [.inr (.inl 80), .inl (.int 12345)], []), (8, [.inr (.inl 81), .inl (.int 15)], []), (5, [.inr (.inl 81), .inr (.inl 82)], []), (8, [.inr (.inl 83), .inl (.int 1)], []), (10, [.inr (.inl 84), .inl (.int 100)], []), (0, [.inl (.int 42), .inr (.inl 69)], []), (30, [.inr (.inl 86)], [.inr (.inl 55)]), (0, [.inr (.inl 87), .inl (.int 1)], []), (40, [.inr (.inl 86), .inr (.inl 88)], [.inr (.inl 55)]), (30, [.inl (.int 58)], [.inr (.inl 89)]), (0, [.inr (.inl 90), .inl (.int 1)], []), (40, [.inl (.int 58), .inr (.inl 91)], [.inr (.inl 89)])]) (P := [(1, .inl (.int 100), .inl (.int 0)), (4, .inr (.inl 71), .inr (.inl 85)), (6, .inr (.inl 86), .inl (.ref 61)), (6, .inr (.inl 86), .inl (.ref 61)), (0, .inr (.inl 70), .inl (.int 0))]) jm_ok203 (by decide +kernel) (by decide +kernel) hd F X1 X2 (fun F' hF hs => ?_)
  have b71 := hd_b (F := F) (F' := F') (k := 71) (hF 71 (by decide))
  have b18 := hd_b (F := F) (F' := F') (k := 18) (hF 18 (by decide))
  have t74 : sy_dv F' (.inr (.inl 74)) = .int ((sy_i F 18) ^^^ ((101 : Int32))) := hd_o (hs 2 _ rfl) b18 rfl rfl
  have t75 : sy_dv F' (.inr (.inl 75)) = .int (((sy_i F 18) ^^^ ((101 : Int32))) * ((1103515245 : Int32))) := hd_o (hs 3 _ rfl) t74 rfl rfl
  have t76 : sy_dv F' (.inr (.inl 76)) = .int ((((sy_i F 18) ^^^ ((101 : Int32))) * ((1103515245 : Int32))) + ((12345 : Int32))) := hd_o (hs 4 _ rfl) t75 rfl rfl
  have t77 : sy_dv F' (.inr (.inl 77)) = .int (((((((sy_i F 18) ^^^ ((101 : Int32))) * ((1103515245 : Int32))) + ((12345 : Int32)))).toUInt32 >>> ((((15 : Int32))).toUInt32 &&& Int32.toUInt32 31)).toInt32) := hd_o (hs 5 _ rfl) t76 rfl rfl
  have t78 : sy_dv F' (.inr (.inl 78)) = .int (((((sy_i F 18) ^^^ ((101 : Int32))) * ((1103515245 : Int32))) + ((12345 : Int32))) ^^^ (((((((sy_i F 18) ^^^ ((101 : Int32))) * ((1103515245 : Int32))) + ((12345 : Int32)))).toUInt32 >>> ((((15 : Int32))).toUInt32 &&& Int32.toUInt32 31)).toInt32)) := hd_o (hs 6 _ rfl) t76 t77 rfl
  have a55 := hd_ba (F := F) (F' := F') (k := 55) (hF 55 (by decide))
  have t72 : sy_dv F' (.inr (.inl 72)) = .int ((sy_ai F 55).getD ((58 : Int32)).toNatClampNeg 0) := hd_rd (hs 0 _ rfl) rfl a55
  have t73 : sy_dv F' (.inr (.inl 73)) = .int (((1000000 : Int32)) + ((sy_ai F 55).getD ((58 : Int32)).toNatClampNeg 0)) := hd_o (hs 1 _ rfl) rfl t72 rfl
  have t79 : sy_dv F' (.inr (.inl 79)) = .int ((((((sy_i F 18) ^^^ ((101 : Int32))) * ((1103515245 : Int32))) + ((12345 : Int32))) ^^^ (((((((sy_i F 18) ^^^ ((101 : Int32))) * ((1103515245 : Int32))) + ((12345 : Int32)))).toUInt32 >>> ((((15 : Int32))).toUInt32 &&& Int32.toUInt32 31)).toInt32)) ^^^ (((1000000 : Int32)) + ((sy_ai F 55).getD ((58 : Int32)).toNatClampNeg 0))) := hd_o (hs 7 _ rfl) t78 t73 rfl
  have t80 : sy_dv F' (.inr (.inl 80)) = .int (((((((sy_i F 18) ^^^ ((101 : Int32))) * ((1103515245 : Int32))) + ((12345 : Int32))) ^^^ (((((((sy_i F 18) ^^^ ((101 : Int32))) * ((1103515245 : Int32))) + ((12345 : Int32)))).toUInt32 >>> ((((15 : Int32))).toUInt32 &&& Int32.toUInt32 31)).toInt32)) ^^^ (((1000000 : Int32)) + ((sy_ai F 55).getD ((58 : Int32)).toNatClampNeg 0))) * ((1103515245 : Int32))) := hd_o (hs 8 _ rfl) t79 rfl rfl
  have t81 : sy_dv F' (.inr (.inl 81)) = .int ((((((((sy_i F 18) ^^^ ((101 : Int32))) * ((1103515245 : Int32))) + ((12345 : Int32))) ^^^ (((((((sy_i F 18) ^^^ ((101 : Int32))) * ((1103515245 : Int32))) + ((12345 : Int32)))).toUInt32 >>> ((((15 : Int32))).toUInt32 &&& Int32.toUInt32 31)).toInt32)) ^^^ (((1000000 : Int32)) + ((sy_ai F 55).getD ((58 : Int32)).toNatClampNeg 0))) * ((1103515245 : Int32))) + ((12345 : Int32))) := hd_o (hs 9 _ rfl) t80 rfl rfl
  have t82 : sy_dv F' (.inr (.inl 82)) = .int (((((((((((sy_i F 18) ^^^ ((101 : Int32))) * ((1103515245 : Int32))) + ((12345 : Int32))) ^^^ (((((((sy_i F 18) ^^^ ((101 : Int32))) * ((1103515245 : Int32))) + ((12345 : Int32)))).toUInt32 >>> ((((15 : Int32))).toUInt32 &&& Int32.toUInt32 31)).toInt32)) ^^^ (((1000000 : Int32)) + ((sy_ai F 55).getD ((58 : Int32)).toNatClampNeg 0))) * ((1103515245 : Int32))) + ((12345 : Int32)))).toUInt32 >>> ((((15 : Int32))).toUInt32 &&& Int32.toUInt32 31)).toInt32) := hd_o (hs 10 _ rfl) t81 rfl rfl
  have t83 : sy_dv F' (.inr (.inl 83)) = .int (((((((((sy_i F 18) ^^^ ((101 : Int32))) * ((1103515245 : Int32))) + ((12345 : Int32))) ^^^ (((((((sy_i F 18) ^^^ ((101 : Int32))) * ((1103515245 : Int32))) + ((12345 : Int32)))).toUInt32 >>> ((((15 : Int32))).toUInt32 &&& Int32.toUInt32 31)).toInt32)) ^^^ (((1000000 : Int32)) + ((sy_ai F 55).getD ((58 : Int32)).toNatClampNeg 0))) * ((1103515245 : Int32))) + ((12345 : Int32))) ^^^ (((((((((((sy_i F 18) ^^^ ((101 : Int32))) * ((1103515245 : Int32))) + ((12345 : Int32))) ^^^ (((((((sy_i F 18) ^^^ ((101 : Int32))) * ((1103515245 : Int32))) + ((12345 : Int32)))).toUInt32 >>> ((((15 : Int32))).toUInt32 &&& Int32.toUInt32 31)).toInt32)) ^^^ (((1000000 : Int32)) + ((sy_ai F 55).getD ((58 : Int32)).toNatClampNeg 0))) * ((1103515245 : Int32))) + ((12345 : Int32)))).toUInt32 >>> ((((15 : Int32))).toUInt32 &&& Int32.toUInt32 31)).toInt32)) := hd_o (hs 11 _ rfl) t81 t82 rfl
  have t84 : sy_dv F' (.inr (.inl 84)) = .int ((((((((((((sy_i F 18) ^^^ ((101 : Int32))) * ((1103515245 : Int32))) + ((12345 : Int32))) ^^^ (((((((sy_i F 18) ^^^ ((101 : Int32))) * ((1103515245 : Int32))) + ((12345 : Int32)))).toUInt32 >>> ((((15 : Int32))).toUInt32 &&& Int32.toUInt32 31)).toInt32)) ^^^ (((1000000 : Int32)) + ((sy_ai F 55).getD ((58 : Int32)).toNatClampNeg 0))) * ((1103515245 : Int32))) + ((12345 : Int32))) ^^^ (((((((((((sy_i F 18) ^^^ ((101 : Int32))) * ((1103515245 : Int32))) + ((12345 : Int32))) ^^^ (((((((sy_i F 18) ^^^ ((101 : Int32))) * ((1103515245 : Int32))) + ((12345 : Int32)))).toUInt32 >>> ((((15 : Int32))).toUInt32 &&& Int32.toUInt32 31)).toInt32)) ^^^ (((1000000 : Int32)) + ((sy_ai F 55).getD ((58 : Int32)).toNatClampNeg 0))) * ((1103515245 : Int32))) + ((12345 : Int32)))).toUInt32 >>> ((((15 : Int32))).toUInt32 &&& Int32.toUInt32 31)).toInt32))).toUInt32 >>> ((((1 : Int32))).toUInt32 &&& Int32.toUInt32 31)).toInt32) := hd_o (hs 12 _ rfl) t83 rfl rfl
  have t85 : sy_dv F' (.inr (.inl 85)) = .int (((((((((((((sy_i F 18) ^^^ ((101 : Int32))) * ((1103515245 : Int32))) + ((12345 : Int32))) ^^^ (((((((sy_i F 18) ^^^ ((101 : Int32))) * ((1103515245 : Int32))) + ((12345 : Int32)))).toUInt32 >>> ((((15 : Int32))).toUInt32 &&& Int32.toUInt32 31)).toInt32)) ^^^ (((1000000 : Int32)) + ((sy_ai F 55).getD ((58 : Int32)).toNatClampNeg 0))) * ((1103515245 : Int32))) + ((12345 : Int32))) ^^^ (((((((((((sy_i F 18) ^^^ ((101 : Int32))) * ((1103515245 : Int32))) + ((12345 : Int32))) ^^^ (((((((sy_i F 18) ^^^ ((101 : Int32))) * ((1103515245 : Int32))) + ((12345 : Int32)))).toUInt32 >>> ((((15 : Int32))).toUInt32 &&& Int32.toUInt32 31)).toInt32)) ^^^ (((1000000 : Int32)) + ((sy_ai F 55).getD ((58 : Int32)).toNatClampNeg 0))) * ((1103515245 : Int32))) + ((12345 : Int32)))).toUInt32 >>> ((((15 : Int32))).toUInt32 &&& Int32.toUInt32 31)).toInt32))).toUInt32 >>> ((((1 : Int32))).toUInt32 &&& Int32.toUInt32 31)).toInt32) - ((((((((((((sy_i F 18) ^^^ ((101 : Int32))) * ((1103515245 : Int32))) + ((12345 : Int32))) ^^^ (((((((sy_i F 18) ^^^ ((101 : Int32))) * ((1103515245 : Int32))) + ((12345 : Int32)))).toUInt32 >>> ((((15 : Int32))).toUInt32 &&& Int32.toUInt32 31)).toInt32)) ^^^ (((1000000 : Int32)) + ((sy_ai F 55).getD ((58 : Int32)).toNatClampNeg 0))) * ((1103515245 : Int32))) + ((12345 : Int32))) ^^^ (((((((((((sy_i F 18) ^^^ ((101 : Int32))) * ((1103515245 : Int32))) + ((12345 : Int32))) ^^^ (((((((sy_i F 18) ^^^ ((101 : Int32))) * ((1103515245 : Int32))) + ((12345 : Int32)))).toUInt32 >>> ((((15 : Int32))).toUInt32 &&& Int32.toUInt32 31)).toInt32)) ^^^ (((1000000 : Int32)) + ((sy_ai F 55).getD ((58 : Int32)).toNatClampNeg 0))) * ((1103515245 : Int32))) + ((12345 : Int32)))).toUInt32 >>> ((((15 : Int32))).toUInt32 &&& Int32.toUInt32 31)).toInt32))).toUInt32 >>> ((((1 : Int32))).toUInt32 &&& Int32.toUInt32 31)).toInt32) / ((100 : Int32)) * ((100 : Int32))) := hd_o (hs 13 _ rfl) t84 rfl rfl
  have b69 := hd_b (F := F) (F' := F') (k := 69) (hF 69 (by decide))
  have t86 : sy_dv F' (.inr (.inl 86)) = .int (((42 : Int32)) + (sy_i F 69)) := hd_o (hs 14 _ rfl) rfl b69 rfl
  have b70 := hd_b (F := F) (F' := F') (k := 70) (hF 70 (by decide))
  have t87 : sy_dv F' (.inr (.inl 87)) = .int ((sy_ai F 55).getD (((42 : Int32)) + (sy_i F 69)).toNatClampNeg 0) := hd_rd (hs 15 _ rfl) t86 a55
  have t88 : sy_dv F' (.inr (.inl 88)) = .int (((sy_ai F 55).getD (((42 : Int32)) + (sy_i F 69)).toNatClampNeg 0) + ((1 : Int32))) := hd_o (hs 16 _ rfl) t87 rfl rfl
  have t89 : sy_da F' (.inr (.inl 89)) = .inl (jm_upd (sy_ai F 55) (((42 : Int32)) + (sy_i F 69)).toNatClampNeg (((sy_ai F 55).getD (((42 : Int32)) + (sy_i F 69)).toNatClampNeg 0) + ((1 : Int32)))) := hd_up (hs 17 _ rfl) t86 t88 a55
  have t90 : sy_dv F' (.inr (.inl 90)) = .int ((jm_upd (sy_ai F 55) (((42 : Int32)) + (sy_i F 69)).toNatClampNeg (((sy_ai F 55).getD (((42 : Int32)) + (sy_i F 69)).toNatClampNeg 0) + ((1 : Int32)))).getD ((58 : Int32)).toNatClampNeg 0) := hd_rd (hs 18 _ rfl) rfl t89
  have t91 : sy_dv F' (.inr (.inl 91)) = .int (((jm_upd (sy_ai F 55) (((42 : Int32)) + (sy_i F 69)).toNatClampNeg (((sy_ai F 55).getD (((42 : Int32)) + (sy_i F 69)).toNatClampNeg 0) + ((1 : Int32)))).getD ((58 : Int32)).toNatClampNeg 0) + ((1 : Int32))) := hd_o (hs 19 _ rfl) t90 rfl rfl
  have t92 : sy_da F' (.inr (.inl 92)) = .inl (jm_upd (jm_upd (sy_ai F 55) (((42 : Int32)) + (sy_i F 69)).toNatClampNeg (((sy_ai F 55).getD (((42 : Int32)) + (sy_i F 69)).toNatClampNeg 0) + ((1 : Int32)))) ((58 : Int32)).toNatClampNeg (((jm_upd (sy_ai F 55) (((42 : Int32)) + (sy_i F 69)).toNatClampNeg (((sy_ai F 55).getD (((42 : Int32)) + (sy_i F 69)).toNatClampNeg 0) + ((1 : Int32)))).getD ((58 : Int32)).toNatClampNeg 0) + ((1 : Int32)))) := hd_up (hs 20 _ rfl) rfl t91 t89
  have hB' : iv_in F' iv_B4 := iv_in_eq hB (fun j hj => hF j (Nat.lt_of_lt_of_le hj (by decide +kernel)))
  refine ⟨List.forall_mem_cons.mpr ⟨(hd_p1 (X := 100) (Y := 0) rfl rfl (by decide)), List.forall_mem_cons.mpr ⟨hd_p4 b71 t85 h1, List.forall_mem_cons.mpr ⟨hd_pb t86 (by first | exact h2 | exact h2), List.forall_mem_cons.mpr ⟨hd_pb t86 (by first | exact h3 | exact h3), List.forall_mem_cons.mpr ⟨hd_p0 b70 rfl (by have hc : ((0) : Int32).toInt = 0 := (by decide); omega), fun _ h => absurd h List.not_mem_nil⟩⟩⟩⟩⟩, ?_⟩
  refine k _ ?_ ?_ ?_
  · exact fun j hj hn => (hd_keep hB' (Nat.lt_of_lt_of_le hj (by decide +kernel)) (by simp; omega)).trans (hF j (Nat.lt_of_lt_of_le hj (by decide)))
  · exact hd_ga (a := .inr (.inl 92)) (by decide +kernel) t92
  · exact hd_gi (x := .inr (.inl 70)) (by decide +kernel) b70
theorem zsh_82_p1 {Ls : Nat} {xs : Nat → Int32} {d : Nat} {Q : Option Value → jm_h → Prop} (hd : 3 ≤ d) (F : Nat → sy_d) (X1 X2 : List jm_c) (hB : iv_in F iv_B4)
    (h1 : (((((((((((((sy_i F 18) ^^^ ((101 : Int32))) * ((1103515245 : Int32))) + ((12345 : Int32))) ^^^ (((((((sy_i F 18) ^^^ ((101 : Int32))) * ((1103515245 : Int32))) + ((12345 : Int32)))).toUInt32 >>> ((((15 : Int32))).toUInt32 &&& Int32.toUInt32 31)).toInt32)) ^^^ (((1000000 : Int32)) + ((sy_ai F 55).getD ((58 : Int32)).toNatClampNeg 0))) * ((1103515245 : Int32))) + ((12345 : Int32))) ^^^ (((((((((((sy_i F 18) ^^^ ((101 : Int32))) * ((1103515245 : Int32))) + ((12345 : Int32))) ^^^ (((((((sy_i F 18) ^^^ ((101 : Int32))) * ((1103515245 : Int32))) + ((12345 : Int32)))).toUInt32 >>> ((((15 : Int32))).toUInt32 &&& Int32.toUInt32 31)).toInt32)) ^^^ (((1000000 : Int32)) + ((sy_ai F 55).getD ((58 : Int32)).toNatClampNeg 0))) * ((1103515245 : Int32))) + ((12345 : Int32)))).toUInt32 >>> ((((15 : Int32))).toUInt32 &&& Int32.toUInt32 31)).toInt32))).toUInt32 >>> ((((1 : Int32))).toUInt32 &&& Int32.toUInt32 31)).toInt32) - ((((((((((((sy_i F 18) ^^^ ((101 : Int32))) * ((1103515245 : Int32))) + ((12345 : Int32))) ^^^ (((((((sy_i F 18) ^^^ ((101 : Int32))) * ((1103515245 : Int32))) + ((12345 : Int32)))).toUInt32 >>> ((((15 : Int32))).toUInt32 &&& Int32.toUInt32 31)).toInt32)) ^^^ (((1000000 : Int32)) + ((sy_ai F 55).getD ((58 : Int32)).toNatClampNeg 0))) * ((1103515245 : Int32))) + ((12345 : Int32))) ^^^ (((((((((((sy_i F 18) ^^^ ((101 : Int32))) * ((1103515245 : Int32))) + ((12345 : Int32))) ^^^ (((((((sy_i F 18) ^^^ ((101 : Int32))) * ((1103515245 : Int32))) + ((12345 : Int32)))).toUInt32 >>> ((((15 : Int32))).toUInt32 &&& Int32.toUInt32 31)).toInt32)) ^^^ (((1000000 : Int32)) + ((sy_ai F 55).getD ((58 : Int32)).toNatClampNeg 0))) * ((1103515245 : Int32))) + ((12345 : Int32)))).toUInt32 >>> ((((15 : Int32))).toUInt32 &&& Int32.toUInt32 31)).toInt32))).toUInt32 >>> ((((1 : Int32))).toUInt32 &&& Int32.toUInt32 31)).toInt32) / ((100 : Int32)) * ((100 : Int32))).toInt < (sy_i F 71).toInt)
    (h2 : 0 ≤ (((42 : Int32)) + (sy_i F 69)).toInt ∧ (((42 : Int32)) + (sy_i F 69)).toInt < 61)
    (h3 : 0 ≤ (((42 : Int32)) + (sy_i F 69)).toInt ∧ (((42 : Int32)) + (sy_i F 69)).toInt < 61)
    (h4 : 0 ≤ (sy_i F 11).toInt ∧ (sy_i F 11).toInt < 2)
    (k : ∀ F1 : Nat → sy_d, (∀ j, j < 69 → j ≠ 55 → F1 j = F j) → F1 55 = .inr (.inl (jm_upd (jm_upd (jm_upd (jm_upd (sy_ai F 55) (((42 : Int32)) + (sy_i F 69)).toNatClampNeg (((sy_ai F 55).getD (((42 : Int32)) + (sy_i F 69)).toNatClampNeg 0) + ((1 : Int32)))) ((58 : Int32)).toNatClampNeg (((jm_upd (sy_ai F 55) (((42 : Int32)) + (sy_i F 69)).toNatClampNeg (((sy_ai F 55).getD (((42 : Int32)) + (sy_i F 69)).toNatClampNeg 0) + ((1 : Int32)))).getD ((58 : Int32)).toNatClampNeg 0) + ((1 : Int32)))) ((59 : Int32)).toNatClampNeg (((jm_upd (jm_upd (sy_ai F 55) (((42 : Int32)) + (sy_i F 69)).toNatClampNeg (((sy_ai F 55).getD (((42 : Int32)) + (sy_i F 69)).toNatClampNeg 0) + ((1 : Int32)))) ((58 : Int32)).toNatClampNeg (((jm_upd (sy_ai F 55) (((42 : Int32)) + (sy_i F 69)).toNatClampNeg (((sy_ai F 55).getD (((42 : Int32)) + (sy_i F 69)).toNatClampNeg 0) + ((1 : Int32)))).getD ((58 : Int32)).toNatClampNeg 0) + ((1 : Int32)))).getD ((59 : Int32)).toNatClampNeg 0) + ((1 : Int32)))) ((60 : Int32)).toNatClampNeg (((jm_upd (jm_upd (jm_upd (sy_ai F 55) (((42 : Int32)) + (sy_i F 69)).toNatClampNeg (((sy_ai F 55).getD (((42 : Int32)) + (sy_i F 69)).toNatClampNeg 0) + ((1 : Int32)))) ((58 : Int32)).toNatClampNeg (((jm_upd (sy_ai F 55) (((42 : Int32)) + (sy_i F 69)).toNatClampNeg (((sy_ai F 55).getD (((42 : Int32)) + (sy_i F 69)).toNatClampNeg 0) + ((1 : Int32)))).getD ((58 : Int32)).toNatClampNeg 0) + ((1 : Int32)))) ((59 : Int32)).toNatClampNeg (((jm_upd (jm_upd (sy_ai F 55) (((42 : Int32)) + (sy_i F 69)).toNatClampNeg (((sy_ai F 55).getD (((42 : Int32)) + (sy_i F 69)).toNatClampNeg 0) + ((1 : Int32)))) ((58 : Int32)).toNatClampNeg (((jm_upd (sy_ai F 55) (((42 : Int32)) + (sy_i F 69)).toNatClampNeg (((sy_ai F 55).getD (((42 : Int32)) + (sy_i F 69)).toNatClampNeg 0) + ((1 : Int32)))).getD ((58 : Int32)).toNatClampNeg 0) + ((1 : Int32)))).getD ((59 : Int32)).toNatClampNeg 0) + ((1 : Int32)))).getD ((60 : Int32)).toNatClampNeg 0) + ((sy_ai F 39).getD (sy_i F 11).toNatClampNeg 0)))) → F1 69 = .inl (.int ((1 : Int32))) → hd_W Ls xs d jm_M203 Q (165, sy_dL F1 [some (.inl (.ref 1000)), none, none, some (.inr (.inl 69)), none], sy_dS F1 [.inl (.ref 1000)], sy_dh F1 X1 X2 (iv_H 4), 0, 0)) :
    hd_W Ls xs d jm_M203 Q (82, sy_dL F [some (.inl (.ref 1000)), some (.inr (.inl 69)), none, some (.inr (.inl 70)), none], sy_dS F [.inr (.inl 71)], sy_dh F X1 X2 (iv_H 4), 0, 0) := by
  refine hd_run (s := 4) (nv := 72) (pc := 165) (L := [some (.inl (.ref 1000)), none, none, some (.inr (.inl 69)), none]) (S := [.inl (.ref 1000)]) (uh := hd_ov (iv_id 0 iv_B4) [(55, .inr (.inr (.inl 99)))]) (ul := [.inl (.inl (.int 1))]) (f := false) (sp := [165]) (d0 := 2) (O := [false]) (T := [(30, [.inl (.int 58)], [.inr (.inl 55)]), (0, [.inl (.int 1000000), .inr (.inl 72)], []), (5, [.inr (.inl 18), .inl (.int 101)], []), (2, [.inr (.inl 74), .inl (.int 1103515245)], []), (0, [.inr (.inl 75), .inl (.int 12345)], []), (8, [.inr (.inl 76), .inl (.int 15)], []), (5, [.inr (.inl 76), .inr (.inl 77)], []), (5, [.inr (.inl 78), .inr (.inl 73)], []), (2, [.inr (.inl 79), .inl (.int 1103515245)], []), (0, [.inr (.inl 80), .inl (.int 12345)], []), (8, [.inr (.inl 81), .inl (.int 15)], []), (5, [.inr (.inl 81), .inr (.inl 82)], []), (8, [.inr (.inl 83), .inl (.int 1)], []), (10, [.inr (.inl 84), .inl (.int 100)], []), (0, [.inl (.int 42), .inr (.inl 69)], []), (30, [.inr (.inl 86)], [.inr (.inl 55)]), (0, [.inr (.inl 87), .inl (.int 1)], []), (40, [.inr (.inl 86), .inr (.inl 88)], [.inr (.inl 55)]), (30, [.inl (.int 58)], [.inr (.inl 89)]), (0, [.inr (.inl 90), .inl (.int 1)], []), (40, [.inl (.int 58), .inr (.inl 91)], [.inr (.inl 89)]), (30, [.inl (.int 59)], [.inr (.inl 92)]), (0, [.inr (.inl 93), .inl (.int 1)], []), (40, [.inl (.int 59), .inr (.inl 94)], [.inr (.inl 92)]), (30, [.inl (.int 60)], [.inr (.inl 95)]), (30, [.inr (.inl 11)], [.inr (.inl 39)]), (0, [.inr (.inl 96), .inr (.inl 97)], []), (40, [.inl (.int 60), .inr (.inl 98)], [.inr (.inl 95)])]) (P := [(1, .inl (.int 100), .inl (.int 0)), (5, .inr (.inl 71), .inr (.inl 85)), (6, .inr (.inl 86), .inl (.ref 61)), (6, .inr (.inl 86), .inl (.ref 61)), (6, .inr (.inl 11), .inl (.ref 2))]) jm_ok203 (by decide +kernel) (by decide +kernel) hd F X1 X2 (fun F' hF hs => ?_)
  have b71 := hd_b (F := F) (F' := F') (k := 71) (hF 71 (by decide))
  have b18 := hd_b (F := F) (F' := F') (k := 18) (hF 18 (by decide))
  have t74 : sy_dv F' (.inr (.inl 74)) = .int ((sy_i F 18) ^^^ ((101 : Int32))) := hd_o (hs 2 _ rfl) b18 rfl rfl
  have t75 : sy_dv F' (.inr (.inl 75)) = .int (((sy_i F 18) ^^^ ((101 : Int32))) * ((1103515245 : Int32))) := hd_o (hs 3 _ rfl) t74 rfl rfl
  have t76 : sy_dv F' (.inr (.inl 76)) = .int ((((sy_i F 18) ^^^ ((101 : Int32))) * ((1103515245 : Int32))) + ((12345 : Int32))) := hd_o (hs 4 _ rfl) t75 rfl rfl
  have t77 : sy_dv F' (.inr (.inl 77)) = .int (((((((sy_i F 18) ^^^ ((101 : Int32))) * ((1103515245 : Int32))) + ((12345 : Int32)))).toUInt32 >>> ((((15 : Int32))).toUInt32 &&& Int32.toUInt32 31)).toInt32) := hd_o (hs 5 _ rfl) t76 rfl rfl
  have t78 : sy_dv F' (.inr (.inl 78)) = .int (((((sy_i F 18) ^^^ ((101 : Int32))) * ((1103515245 : Int32))) + ((12345 : Int32))) ^^^ (((((((sy_i F 18) ^^^ ((101 : Int32))) * ((1103515245 : Int32))) + ((12345 : Int32)))).toUInt32 >>> ((((15 : Int32))).toUInt32 &&& Int32.toUInt32 31)).toInt32)) := hd_o (hs 6 _ rfl) t76 t77 rfl
  have a55 := hd_ba (F := F) (F' := F') (k := 55) (hF 55 (by decide))
  have t72 : sy_dv F' (.inr (.inl 72)) = .int ((sy_ai F 55).getD ((58 : Int32)).toNatClampNeg 0) := hd_rd (hs 0 _ rfl) rfl a55
  have t73 : sy_dv F' (.inr (.inl 73)) = .int (((1000000 : Int32)) + ((sy_ai F 55).getD ((58 : Int32)).toNatClampNeg 0)) := hd_o (hs 1 _ rfl) rfl t72 rfl
  have t79 : sy_dv F' (.inr (.inl 79)) = .int ((((((sy_i F 18) ^^^ ((101 : Int32))) * ((1103515245 : Int32))) + ((12345 : Int32))) ^^^ (((((((sy_i F 18) ^^^ ((101 : Int32))) * ((1103515245 : Int32))) + ((12345 : Int32)))).toUInt32 >>> ((((15 : Int32))).toUInt32 &&& Int32.toUInt32 31)).toInt32)) ^^^ (((1000000 : Int32)) + ((sy_ai F 55).getD ((58 : Int32)).toNatClampNeg 0))) := hd_o (hs 7 _ rfl) t78 t73 rfl
  have t80 : sy_dv F' (.inr (.inl 80)) = .int (((((((sy_i F 18) ^^^ ((101 : Int32))) * ((1103515245 : Int32))) + ((12345 : Int32))) ^^^ (((((((sy_i F 18) ^^^ ((101 : Int32))) * ((1103515245 : Int32))) + ((12345 : Int32)))).toUInt32 >>> ((((15 : Int32))).toUInt32 &&& Int32.toUInt32 31)).toInt32)) ^^^ (((1000000 : Int32)) + ((sy_ai F 55).getD ((58 : Int32)).toNatClampNeg 0))) * ((1103515245 : Int32))) := hd_o (hs 8 _ rfl) t79 rfl rfl
  have t81 : sy_dv F' (.inr (.inl 81)) = .int ((((((((sy_i F 18) ^^^ ((101 : Int32))) * ((1103515245 : Int32))) + ((12345 : Int32))) ^^^ (((((((sy_i F 18) ^^^ ((101 : Int32))) * ((1103515245 : Int32))) + ((12345 : Int32)))).toUInt32 >>> ((((15 : Int32))).toUInt32 &&& Int32.toUInt32 31)).toInt32)) ^^^ (((1000000 : Int32)) + ((sy_ai F 55).getD ((58 : Int32)).toNatClampNeg 0))) * ((1103515245 : Int32))) + ((12345 : Int32))) := hd_o (hs 9 _ rfl) t80 rfl rfl
  have t82 : sy_dv F' (.inr (.inl 82)) = .int (((((((((((sy_i F 18) ^^^ ((101 : Int32))) * ((1103515245 : Int32))) + ((12345 : Int32))) ^^^ (((((((sy_i F 18) ^^^ ((101 : Int32))) * ((1103515245 : Int32))) + ((12345 : Int32)))).toUInt32 >>> ((((15 : Int32))).toUInt32 &&& Int32.toUInt32 31)).toInt32)) ^^^ (((1000000 : Int32)) + ((sy_ai F 55).getD ((58 : Int32)).toNatClampNeg 0))) * ((1103515245 : Int32))) + ((12345 : Int32)))).toUInt32 >>> ((((15 : Int32))).toUInt32 &&& Int32.toUInt32 31)).toInt32) := hd_o (hs 10 _ rfl) t81 rfl rfl
  have t83 : sy_dv F' (.inr (.inl 83)) = .int (((((((((sy_i F 18) ^^^ ((101 : Int32))) * ((1103515245 : Int32))) + ((12345 : Int32))) ^^^ (((((((sy_i F 18) ^^^ ((101 : Int32))) * ((1103515245 : Int32))) + ((12345 : Int32)))).toUInt32 >>> ((((15 : Int32))).toUInt32 &&& Int32.toUInt32 31)).toInt32)) ^^^ (((1000000 : Int32)) + ((sy_ai F 55).getD ((58 : Int32)).toNatClampNeg 0))) * ((1103515245 : Int32))) + ((12345 : Int32))) ^^^ (((((((((((sy_i F 18) ^^^ ((101 : Int32))) * ((1103515245 : Int32))) + ((12345 : Int32))) ^^^ (((((((sy_i F 18) ^^^ ((101 : Int32))) * ((1103515245 : Int32))) + ((12345 : Int32)))).toUInt32 >>> ((((15 : Int32))).toUInt32 &&& Int32.toUInt32 31)).toInt32)) ^^^ (((1000000 : Int32)) + ((sy_ai F 55).getD ((58 : Int32)).toNatClampNeg 0))) * ((1103515245 : Int32))) + ((12345 : Int32)))).toUInt32 >>> ((((15 : Int32))).toUInt32 &&& Int32.toUInt32 31)).toInt32)) := hd_o (hs 11 _ rfl) t81 t82 rfl
  have t84 : sy_dv F' (.inr (.inl 84)) = .int ((((((((((((sy_i F 18) ^^^ ((101 : Int32))) * ((1103515245 : Int32))) + ((12345 : Int32))) ^^^ (((((((sy_i F 18) ^^^ ((101 : Int32))) * ((1103515245 : Int32))) + ((12345 : Int32)))).toUInt32 >>> ((((15 : Int32))).toUInt32 &&& Int32.toUInt32 31)).toInt32)) ^^^ (((1000000 : Int32)) + ((sy_ai F 55).getD ((58 : Int32)).toNatClampNeg 0))) * ((1103515245 : Int32))) + ((12345 : Int32))) ^^^ (((((((((((sy_i F 18) ^^^ ((101 : Int32))) * ((1103515245 : Int32))) + ((12345 : Int32))) ^^^ (((((((sy_i F 18) ^^^ ((101 : Int32))) * ((1103515245 : Int32))) + ((12345 : Int32)))).toUInt32 >>> ((((15 : Int32))).toUInt32 &&& Int32.toUInt32 31)).toInt32)) ^^^ (((1000000 : Int32)) + ((sy_ai F 55).getD ((58 : Int32)).toNatClampNeg 0))) * ((1103515245 : Int32))) + ((12345 : Int32)))).toUInt32 >>> ((((15 : Int32))).toUInt32 &&& Int32.toUInt32 31)).toInt32))).toUInt32 >>> ((((1 : Int32))).toUInt32 &&& Int32.toUInt32 31)).toInt32) := hd_o (hs 12 _ rfl) t83 rfl rfl
  have t85 : sy_dv F' (.inr (.inl 85)) = .int (((((((((((((sy_i F 18) ^^^ ((101 : Int32))) * ((1103515245 : Int32))) + ((12345 : Int32))) ^^^ (((((((sy_i F 18) ^^^ ((101 : Int32))) * ((1103515245 : Int32))) + ((12345 : Int32)))).toUInt32 >>> ((((15 : Int32))).toUInt32 &&& Int32.toUInt32 31)).toInt32)) ^^^ (((1000000 : Int32)) + ((sy_ai F 55).getD ((58 : Int32)).toNatClampNeg 0))) * ((1103515245 : Int32))) + ((12345 : Int32))) ^^^ (((((((((((sy_i F 18) ^^^ ((101 : Int32))) * ((1103515245 : Int32))) + ((12345 : Int32))) ^^^ (((((((sy_i F 18) ^^^ ((101 : Int32))) * ((1103515245 : Int32))) + ((12345 : Int32)))).toUInt32 >>> ((((15 : Int32))).toUInt32 &&& Int32.toUInt32 31)).toInt32)) ^^^ (((1000000 : Int32)) + ((sy_ai F 55).getD ((58 : Int32)).toNatClampNeg 0))) * ((1103515245 : Int32))) + ((12345 : Int32)))).toUInt32 >>> ((((15 : Int32))).toUInt32 &&& Int32.toUInt32 31)).toInt32))).toUInt32 >>> ((((1 : Int32))).toUInt32 &&& Int32.toUInt32 31)).toInt32) - ((((((((((((sy_i F 18) ^^^ ((101 : Int32))) * ((1103515245 : Int32))) + ((12345 : Int32))) ^^^ (((((((sy_i F 18) ^^^ ((101 : Int32))) * ((1103515245 : Int32))) + ((12345 : Int32)))).toUInt32 >>> ((((15 : Int32))).toUInt32 &&& Int32.toUInt32 31)).toInt32)) ^^^ (((1000000 : Int32)) + ((sy_ai F 55).getD ((58 : Int32)).toNatClampNeg 0))) * ((1103515245 : Int32))) + ((12345 : Int32))) ^^^ (((((((((((sy_i F 18) ^^^ ((101 : Int32))) * ((1103515245 : Int32))) + ((12345 : Int32))) ^^^ (((((((sy_i F 18) ^^^ ((101 : Int32))) * ((1103515245 : Int32))) + ((12345 : Int32)))).toUInt32 >>> ((((15 : Int32))).toUInt32 &&& Int32.toUInt32 31)).toInt32)) ^^^ (((1000000 : Int32)) + ((sy_ai F 55).getD ((58 : Int32)).toNatClampNeg 0))) * ((1103515245 : Int32))) + ((12345 : Int32)))).toUInt32 >>> ((((15 : Int32))).toUInt32 &&& Int32.toUInt32 31)).toInt32))).toUInt32 >>> ((((1 : Int32))).toUInt32 &&& Int32.toUInt32 31)).toInt32) / ((100 : Int32)) * ((100 : Int32))) := hd_o (hs 13 _ rfl) t84 rfl rfl
  have b69 := hd_b (F := F) (F' := F') (k := 69) (hF 69 (by decide))
  have t86 : sy_dv F' (.inr (.inl 86)) = .int (((42 : Int32)) + (sy_i F 69)) := hd_o (hs 14 _ rfl) rfl b69 rfl
  have b11 := hd_b (F := F) (F' := F') (k := 11) (hF 11 (by decide))
  have t87 : sy_dv F' (.inr (.inl 87)) = .int ((sy_ai F 55).getD (((42 : Int32)) + (sy_i F 69)).toNatClampNeg 0) := hd_rd (hs 15 _ rfl) t86 a55
  have t88 : sy_dv F' (.inr (.inl 88)) = .int (((sy_ai F 55).getD (((42 : Int32)) + (sy_i F 69)).toNatClampNeg 0) + ((1 : Int32))) := hd_o (hs 16 _ rfl) t87 rfl rfl
  have t89 : sy_da F' (.inr (.inl 89)) = .inl (jm_upd (sy_ai F 55) (((42 : Int32)) + (sy_i F 69)).toNatClampNeg (((sy_ai F 55).getD (((42 : Int32)) + (sy_i F 69)).toNatClampNeg 0) + ((1 : Int32)))) := hd_up (hs 17 _ rfl) t86 t88 a55
  have t90 : sy_dv F' (.inr (.inl 90)) = .int ((jm_upd (sy_ai F 55) (((42 : Int32)) + (sy_i F 69)).toNatClampNeg (((sy_ai F 55).getD (((42 : Int32)) + (sy_i F 69)).toNatClampNeg 0) + ((1 : Int32)))).getD ((58 : Int32)).toNatClampNeg 0) := hd_rd (hs 18 _ rfl) rfl t89
  have t91 : sy_dv F' (.inr (.inl 91)) = .int (((jm_upd (sy_ai F 55) (((42 : Int32)) + (sy_i F 69)).toNatClampNeg (((sy_ai F 55).getD (((42 : Int32)) + (sy_i F 69)).toNatClampNeg 0) + ((1 : Int32)))).getD ((58 : Int32)).toNatClampNeg 0) + ((1 : Int32))) := hd_o (hs 19 _ rfl) t90 rfl rfl
  have t92 : sy_da F' (.inr (.inl 92)) = .inl (jm_upd (jm_upd (sy_ai F 55) (((42 : Int32)) + (sy_i F 69)).toNatClampNeg (((sy_ai F 55).getD (((42 : Int32)) + (sy_i F 69)).toNatClampNeg 0) + ((1 : Int32)))) ((58 : Int32)).toNatClampNeg (((jm_upd (sy_ai F 55) (((42 : Int32)) + (sy_i F 69)).toNatClampNeg (((sy_ai F 55).getD (((42 : Int32)) + (sy_i F 69)).toNatClampNeg 0) + ((1 : Int32)))).getD ((58 : Int32)).toNatClampNeg 0) + ((1 : Int32)))) := hd_up (hs 20 _ rfl) rfl t91 t89
  have t93 : sy_dv F' (.inr (.inl 93)) = .int ((jm_upd (jm_upd (sy_ai F 55) (((42 : Int32)) + (sy_i F 69)).toNatClampNeg (((sy_ai F 55).getD (((42 : Int32)) + (sy_i F 69)).toNatClampNeg 0) + ((1 : Int32)))) ((58 : Int32)).toNatClampNeg (((jm_upd (sy_ai F 55) (((42 : Int32)) + (sy_i F 69)).toNatClampNeg (((sy_ai F 55).getD (((42 : Int32)) + (sy_i F 69)).toNatClampNeg 0) + ((1 : Int32)))).getD ((58 : Int32)).toNatClampNeg 0) + ((1 : Int32)))).getD ((59 : Int32)).toNatClampNeg 0) := hd_rd (hs 21 _ rfl) rfl t92
  have t94 : sy_dv F' (.inr (.inl 94)) = .int (((jm_upd (jm_upd (sy_ai F 55) (((42 : Int32)) + (sy_i F 69)).toNatClampNeg (((sy_ai F 55).getD (((42 : Int32)) + (sy_i F 69)).toNatClampNeg 0) + ((1 : Int32)))) ((58 : Int32)).toNatClampNeg (((jm_upd (sy_ai F 55) (((42 : Int32)) + (sy_i F 69)).toNatClampNeg (((sy_ai F 55).getD (((42 : Int32)) + (sy_i F 69)).toNatClampNeg 0) + ((1 : Int32)))).getD ((58 : Int32)).toNatClampNeg 0) + ((1 : Int32)))).getD ((59 : Int32)).toNatClampNeg 0) + ((1 : Int32))) := hd_o (hs 22 _ rfl) t93 rfl rfl
  have t95 : sy_da F' (.inr (.inl 95)) = .inl (jm_upd (jm_upd (jm_upd (sy_ai F 55) (((42 : Int32)) + (sy_i F 69)).toNatClampNeg (((sy_ai F 55).getD (((42 : Int32)) + (sy_i F 69)).toNatClampNeg 0) + ((1 : Int32)))) ((58 : Int32)).toNatClampNeg (((jm_upd (sy_ai F 55) (((42 : Int32)) + (sy_i F 69)).toNatClampNeg (((sy_ai F 55).getD (((42 : Int32)) + (sy_i F 69)).toNatClampNeg 0) + ((1 : Int32)))).getD ((58 : Int32)).toNatClampNeg 0) + ((1 : Int32)))) ((59 : Int32)).toNatClampNeg (((jm_upd (jm_upd (sy_ai F 55) (((42 : Int32)) + (sy_i F 69)).toNatClampNeg (((sy_ai F 55).getD (((42 : Int32)) + (sy_i F 69)).toNatClampNeg 0) + ((1 : Int32)))) ((58 : Int32)).toNatClampNeg (((jm_upd (sy_ai F 55) (((42 : Int32)) + (sy_i F 69)).toNatClampNeg (((sy_ai F 55).getD (((42 : Int32)) + (sy_i F 69)).toNatClampNeg 0) + ((1 : Int32)))).getD ((58 : Int32)).toNatClampNeg 0) + ((1 : Int32)))).getD ((59 : Int32)).toNatClampNeg 0) + ((1 : Int32)))) := hd_up (hs 23 _ rfl) rfl t94 t92
  have t96 : sy_dv F' (.inr (.inl 96)) = .int ((jm_upd (jm_upd (jm_upd (sy_ai F 55) (((42 : Int32)) + (sy_i F 69)).toNatClampNeg (((sy_ai F 55).getD (((42 : Int32)) + (sy_i F 69)).toNatClampNeg 0) + ((1 : Int32)))) ((58 : Int32)).toNatClampNeg (((jm_upd (sy_ai F 55) (((42 : Int32)) + (sy_i F 69)).toNatClampNeg (((sy_ai F 55).getD (((42 : Int32)) + (sy_i F 69)).toNatClampNeg 0) + ((1 : Int32)))).getD ((58 : Int32)).toNatClampNeg 0) + ((1 : Int32)))) ((59 : Int32)).toNatClampNeg (((jm_upd (jm_upd (sy_ai F 55) (((42 : Int32)) + (sy_i F 69)).toNatClampNeg (((sy_ai F 55).getD (((42 : Int32)) + (sy_i F 69)).toNatClampNeg 0) + ((1 : Int32)))) ((58 : Int32)).toNatClampNeg (((jm_upd (sy_ai F 55) (((42 : Int32)) + (sy_i F 69)).toNatClampNeg (((sy_ai F 55).getD (((42 : Int32)) + (sy_i F 69)).toNatClampNeg 0) + ((1 : Int32)))).getD ((58 : Int32)).toNatClampNeg 0) + ((1 : Int32)))).getD ((59 : Int32)).toNatClampNeg 0) + ((1 : Int32)))).getD ((60 : Int32)).toNatClampNeg 0) := hd_rd (hs 24 _ rfl) rfl t95
  have a39 := hd_ba (F := F) (F' := F') (k := 39) (hF 39 (by decide))
  have t97 : sy_dv F' (.inr (.inl 97)) = .int ((sy_ai F 39).getD (sy_i F 11).toNatClampNeg 0) := hd_rd (hs 25 _ rfl) b11 a39
  have t98 : sy_dv F' (.inr (.inl 98)) = .int (((jm_upd (jm_upd (jm_upd (sy_ai F 55) (((42 : Int32)) + (sy_i F 69)).toNatClampNeg (((sy_ai F 55).getD (((42 : Int32)) + (sy_i F 69)).toNatClampNeg 0) + ((1 : Int32)))) ((58 : Int32)).toNatClampNeg (((jm_upd (sy_ai F 55) (((42 : Int32)) + (sy_i F 69)).toNatClampNeg (((sy_ai F 55).getD (((42 : Int32)) + (sy_i F 69)).toNatClampNeg 0) + ((1 : Int32)))).getD ((58 : Int32)).toNatClampNeg 0) + ((1 : Int32)))) ((59 : Int32)).toNatClampNeg (((jm_upd (jm_upd (sy_ai F 55) (((42 : Int32)) + (sy_i F 69)).toNatClampNeg (((sy_ai F 55).getD (((42 : Int32)) + (sy_i F 69)).toNatClampNeg 0) + ((1 : Int32)))) ((58 : Int32)).toNatClampNeg (((jm_upd (sy_ai F 55) (((42 : Int32)) + (sy_i F 69)).toNatClampNeg (((sy_ai F 55).getD (((42 : Int32)) + (sy_i F 69)).toNatClampNeg 0) + ((1 : Int32)))).getD ((58 : Int32)).toNatClampNeg 0) + ((1 : Int32)))).getD ((59 : Int32)).toNatClampNeg 0) + ((1 : Int32)))).getD ((60 : Int32)).toNatClampNeg 0) + ((sy_ai F 39).getD (sy_i F 11).toNatClampNeg 0)) := hd_o (hs 26 _ rfl) t96 t97 rfl
  have t99 : sy_da F' (.inr (.inl 99)) = .inl (jm_upd (jm_upd (jm_upd (jm_upd (sy_ai F 55) (((42 : Int32)) + (sy_i F 69)).toNatClampNeg (((sy_ai F 55).getD (((42 : Int32)) + (sy_i F 69)).toNatClampNeg 0) + ((1 : Int32)))) ((58 : Int32)).toNatClampNeg (((jm_upd (sy_ai F 55) (((42 : Int32)) + (sy_i F 69)).toNatClampNeg (((sy_ai F 55).getD (((42 : Int32)) + (sy_i F 69)).toNatClampNeg 0) + ((1 : Int32)))).getD ((58 : Int32)).toNatClampNeg 0) + ((1 : Int32)))) ((59 : Int32)).toNatClampNeg (((jm_upd (jm_upd (sy_ai F 55) (((42 : Int32)) + (sy_i F 69)).toNatClampNeg (((sy_ai F 55).getD (((42 : Int32)) + (sy_i F 69)).toNatClampNeg 0) + ((1 : Int32)))) ((58 : Int32)).toNatClampNeg (((jm_upd (sy_ai F 55) (((42 : Int32)) + (sy_i F 69)).toNatClampNeg (((sy_ai F 55).getD (((42 : Int32)) + (sy_i F 69)).toNatClampNeg 0) + ((1 : Int32)))).getD ((58 : Int32)).toNatClampNeg 0) + ((1 : Int32)))).getD ((59 : Int32)).toNatClampNeg 0) + ((1 : Int32)))) ((60 : Int32)).toNatClampNeg (((jm_upd (jm_upd (jm_upd (sy_ai F 55) (((42 : Int32)) + (sy_i F 69)).toNatClampNeg (((sy_ai F 55).getD (((42 : Int32)) + (sy_i F 69)).toNatClampNeg 0) + ((1 : Int32)))) ((58 : Int32)).toNatClampNeg (((jm_upd (sy_ai F 55) (((42 : Int32)) + (sy_i F 69)).toNatClampNeg (((sy_ai F 55).getD (((42 : Int32)) + (sy_i F 69)).toNatClampNeg 0) + ((1 : Int32)))).getD ((58 : Int32)).toNatClampNeg 0) + ((1 : Int32)))) ((59 : Int32)).toNatClampNeg (((jm_upd (jm_upd (sy_ai F 55) (((42 : Int32)) + (sy_i F 69)).toNatClampNeg (((sy_ai F 55).getD (((42 : Int32)) + (sy_i F 69)).toNatClampNeg 0) + ((1 : Int32)))) ((58 : Int32)).toNatClampNeg (((jm_upd (sy_ai F 55) (((42 : Int32)) + (sy_i F 69)).toNatClampNeg (((sy_ai F 55).getD (((42 : Int32)) + (sy_i F 69)).toNatClampNeg 0) + ((1 : Int32)))).getD ((58 : Int32)).toNatClampNeg 0) + ((1 : Int32)))).getD ((59 : Int32)).toNatClampNeg 0) + ((1 : Int32)))).getD ((60 : Int32)).toNatClampNeg 0) + ((sy_ai F 39).getD (sy_i F 11).toNatClampNeg 0))) := hd_up (hs 27 _ rfl) rfl t98 t95
  have hB' : iv_in F' iv_B4 := iv_in_eq hB (fun j hj => hF j (Nat.lt_of_lt_of_le hj (by decide +kernel)))
  refine ⟨List.forall_mem_cons.mpr ⟨(hd_p1 (X := 100) (Y := 0) rfl rfl (by decide)), List.forall_mem_cons.mpr ⟨hd_p5 b71 t85 h1, List.forall_mem_cons.mpr ⟨hd_pb t86 (by first | exact h2 | exact h2), List.forall_mem_cons.mpr ⟨hd_pb t86 (by first | exact h3 | exact h3), List.forall_mem_cons.mpr ⟨hd_pb b11 (by first | exact h4 | exact h4), fun _ h => absurd h List.not_mem_nil⟩⟩⟩⟩⟩, ?_⟩
  refine k _ ?_ ?_ ?_
  · exact fun j hj hn => (hd_keep hB' (Nat.lt_of_lt_of_le hj (by decide +kernel)) (by simp; omega)).trans (hF j (Nat.lt_of_lt_of_le hj (by decide)))
  · exact hd_ga (a := .inr (.inl 99)) (by decide +kernel) t99
  · exact hd_gi (x := .inl (.int 1)) (by decide +kernel) rfl
theorem zsh_82 {Ls : Nat} {xs : Nat → Int32} {d : Nat} {Q : Option Value → jm_h → Prop} (hd : 3 ≤ d) (F : Nat → sy_d) (X1 X2 : List jm_c) (hB : iv_in F iv_B4)
    (a69 : 0 ≤ (sy_i F 69).toInt ∧ (sy_i F 69).toInt ≤ 6)
    (a70 : 0 ≤ (sy_i F 70).toInt ∧ (sy_i F 70).toInt ≤ 0)
    (k0 : (sy_i F 71).toInt ≤ (((((((((((((sy_i F 18) ^^^ ((101 : Int32))) * ((1103515245 : Int32))) + ((12345 : Int32))) ^^^ (((((((sy_i F 18) ^^^ ((101 : Int32))) * ((1103515245 : Int32))) + ((12345 : Int32)))).toUInt32 >>> ((((15 : Int32))).toUInt32 &&& Int32.toUInt32 31)).toInt32)) ^^^ (((1000000 : Int32)) + ((sy_ai F 55).getD (58 : Int).toNat 0))) * ((1103515245 : Int32))) + ((12345 : Int32))) ^^^ (((((((((((sy_i F 18) ^^^ ((101 : Int32))) * ((1103515245 : Int32))) + ((12345 : Int32))) ^^^ (((((((sy_i F 18) ^^^ ((101 : Int32))) * ((1103515245 : Int32))) + ((12345 : Int32)))).toUInt32 >>> ((((15 : Int32))).toUInt32 &&& Int32.toUInt32 31)).toInt32)) ^^^ (((1000000 : Int32)) + ((sy_ai F 55).getD (58 : Int).toNat 0))) * ((1103515245 : Int32))) + ((12345 : Int32)))).toUInt32 >>> ((((15 : Int32))).toUInt32 &&& Int32.toUInt32 31)).toInt32))).toUInt32 >>> ((((1 : Int32))).toUInt32 &&& Int32.toUInt32 31)).toInt32) - ((((((((((((sy_i F 18) ^^^ ((101 : Int32))) * ((1103515245 : Int32))) + ((12345 : Int32))) ^^^ (((((((sy_i F 18) ^^^ ((101 : Int32))) * ((1103515245 : Int32))) + ((12345 : Int32)))).toUInt32 >>> ((((15 : Int32))).toUInt32 &&& Int32.toUInt32 31)).toInt32)) ^^^ (((1000000 : Int32)) + ((sy_ai F 55).getD (58 : Int).toNat 0))) * ((1103515245 : Int32))) + ((12345 : Int32))) ^^^ (((((((((((sy_i F 18) ^^^ ((101 : Int32))) * ((1103515245 : Int32))) + ((12345 : Int32))) ^^^ (((((((sy_i F 18) ^^^ ((101 : Int32))) * ((1103515245 : Int32))) + ((12345 : Int32)))).toUInt32 >>> ((((15 : Int32))).toUInt32 &&& Int32.toUInt32 31)).toInt32)) ^^^ (((1000000 : Int32)) + ((sy_ai F 55).getD (58 : Int).toNat 0))) * ((1103515245 : Int32))) + ((12345 : Int32)))).toUInt32 >>> ((((15 : Int32))).toUInt32 &&& Int32.toUInt32 31)).toInt32))).toUInt32 >>> ((((1 : Int32))).toUInt32 &&& Int32.toUInt32 31)).toInt32) / ((100 : Int32)) * ((100 : Int32))).toInt → (sy_i F 70).toInt = 0 → ∀ F1 : Nat → sy_d, iv_in F1 iv_B4 → (∀ j, j < 69 → j ∉ ([55] : List Nat) → F1 j = F j) → sy_ai F1 55 = jm_upd (jm_upd (sy_ai F 55) ((42 + (sy_i F 69).toInt)).toNat (((sy_ai F 55).getD ((42 + (sy_i F 69).toInt)).toNat 0) + ((1 : Int32)))) (58 : Int).toNat (((jm_upd (sy_ai F 55) ((42 + (sy_i F 69).toInt)).toNat (((sy_ai F 55).getD ((42 + (sy_i F 69).toInt)).toNat 0) + ((1 : Int32)))).getD (58 : Int).toNat 0) + ((1 : Int32))) → (sy_i F1 69).toInt = (sy_i F 70).toInt → sy_i F1 69 = sy_i F 70 → hd_W Ls xs d jm_M203 Q (165, sy_dL F1 [some (.inl (.ref 1000)), none, none, some (.inr (.inl 69)), none], sy_dS F1 [.inl (.ref 1000)], sy_dh F1 X1 X2 (iv_H 4), 0, 0))
    (k1 : (((((((((((((sy_i F 18) ^^^ ((101 : Int32))) * ((1103515245 : Int32))) + ((12345 : Int32))) ^^^ (((((((sy_i F 18) ^^^ ((101 : Int32))) * ((1103515245 : Int32))) + ((12345 : Int32)))).toUInt32 >>> ((((15 : Int32))).toUInt32 &&& Int32.toUInt32 31)).toInt32)) ^^^ (((1000000 : Int32)) + ((sy_ai F 55).getD (58 : Int).toNat 0))) * ((1103515245 : Int32))) + ((12345 : Int32))) ^^^ (((((((((((sy_i F 18) ^^^ ((101 : Int32))) * ((1103515245 : Int32))) + ((12345 : Int32))) ^^^ (((((((sy_i F 18) ^^^ ((101 : Int32))) * ((1103515245 : Int32))) + ((12345 : Int32)))).toUInt32 >>> ((((15 : Int32))).toUInt32 &&& Int32.toUInt32 31)).toInt32)) ^^^ (((1000000 : Int32)) + ((sy_ai F 55).getD (58 : Int).toNat 0))) * ((1103515245 : Int32))) + ((12345 : Int32)))).toUInt32 >>> ((((15 : Int32))).toUInt32 &&& Int32.toUInt32 31)).toInt32))).toUInt32 >>> ((((1 : Int32))).toUInt32 &&& Int32.toUInt32 31)).toInt32) - ((((((((((((sy_i F 18) ^^^ ((101 : Int32))) * ((1103515245 : Int32))) + ((12345 : Int32))) ^^^ (((((((sy_i F 18) ^^^ ((101 : Int32))) * ((1103515245 : Int32))) + ((12345 : Int32)))).toUInt32 >>> ((((15 : Int32))).toUInt32 &&& Int32.toUInt32 31)).toInt32)) ^^^ (((1000000 : Int32)) + ((sy_ai F 55).getD (58 : Int).toNat 0))) * ((1103515245 : Int32))) + ((12345 : Int32))) ^^^ (((((((((((sy_i F 18) ^^^ ((101 : Int32))) * ((1103515245 : Int32))) + ((12345 : Int32))) ^^^ (((((((sy_i F 18) ^^^ ((101 : Int32))) * ((1103515245 : Int32))) + ((12345 : Int32)))).toUInt32 >>> ((((15 : Int32))).toUInt32 &&& Int32.toUInt32 31)).toInt32)) ^^^ (((1000000 : Int32)) + ((sy_ai F 55).getD (58 : Int).toNat 0))) * ((1103515245 : Int32))) + ((12345 : Int32)))).toUInt32 >>> ((((15 : Int32))).toUInt32 &&& Int32.toUInt32 31)).toInt32))).toUInt32 >>> ((((1 : Int32))).toUInt32 &&& Int32.toUInt32 31)).toInt32) / ((100 : Int32)) * ((100 : Int32))).toInt < (sy_i F 71).toInt → ∀ F1 : Nat → sy_d, iv_in F1 iv_B4 → (∀ j, j < 69 → j ∉ ([55] : List Nat) → F1 j = F j) → sy_ai F1 55 = jm_upd (jm_upd (jm_upd (jm_upd (sy_ai F 55) ((42 + (sy_i F 69).toInt)).toNat (((sy_ai F 55).getD ((42 + (sy_i F 69).toInt)).toNat 0) + ((1 : Int32)))) (58 : Int).toNat (((jm_upd (sy_ai F 55) ((42 + (sy_i F 69).toInt)).toNat (((sy_ai F 55).getD ((42 + (sy_i F 69).toInt)).toNat 0) + ((1 : Int32)))).getD (58 : Int).toNat 0) + ((1 : Int32)))) (59 : Int).toNat (((jm_upd (jm_upd (sy_ai F 55) ((42 + (sy_i F 69).toInt)).toNat (((sy_ai F 55).getD ((42 + (sy_i F 69).toInt)).toNat 0) + ((1 : Int32)))) (58 : Int).toNat (((jm_upd (sy_ai F 55) ((42 + (sy_i F 69).toInt)).toNat (((sy_ai F 55).getD ((42 + (sy_i F 69).toInt)).toNat 0) + ((1 : Int32)))).getD (58 : Int).toNat 0) + ((1 : Int32)))).getD (59 : Int).toNat 0) + ((1 : Int32)))) (60 : Int).toNat (((jm_upd (jm_upd (jm_upd (sy_ai F 55) ((42 + (sy_i F 69).toInt)).toNat (((sy_ai F 55).getD ((42 + (sy_i F 69).toInt)).toNat 0) + ((1 : Int32)))) (58 : Int).toNat (((jm_upd (sy_ai F 55) ((42 + (sy_i F 69).toInt)).toNat (((sy_ai F 55).getD ((42 + (sy_i F 69).toInt)).toNat 0) + ((1 : Int32)))).getD (58 : Int).toNat 0) + ((1 : Int32)))) (59 : Int).toNat (((jm_upd (jm_upd (sy_ai F 55) ((42 + (sy_i F 69).toInt)).toNat (((sy_ai F 55).getD ((42 + (sy_i F 69).toInt)).toNat 0) + ((1 : Int32)))) (58 : Int).toNat (((jm_upd (sy_ai F 55) ((42 + (sy_i F 69).toInt)).toNat (((sy_ai F 55).getD ((42 + (sy_i F 69).toInt)).toNat 0) + ((1 : Int32)))).getD (58 : Int).toNat 0) + ((1 : Int32)))).getD (59 : Int).toNat 0) + ((1 : Int32)))).getD (60 : Int).toNat 0) + ((sy_ai F 39).getD ((sy_i F 11).toInt).toNat 0)) → (sy_i F1 69).toInt = 1 → sy_i F1 69 = (1 : Int32) → hd_W Ls xs d jm_M203 Q (165, sy_dL F1 [some (.inl (.ref 1000)), none, none, some (.inr (.inl 69)), none], sy_dS F1 [.inl (.ref 1000)], sy_dh F1 X1 X2 (iv_H 4), 0, 0)) :
    hd_W Ls xs d jm_M203 Q (82, sy_dL F [some (.inl (.ref 1000)), some (.inr (.inl 69)), none, some (.inr (.inl 70)), none], sy_dS F [.inr (.inl 71)], sy_dh F X1 X2 (iv_H 4), 0, 0) := by
  by_cases g0 : (sy_i F 71).toInt ≤ (((((((((((((sy_i F 18) ^^^ ((101 : Int32))) * ((1103515245 : Int32))) + ((12345 : Int32))) ^^^ (((((((sy_i F 18) ^^^ ((101 : Int32))) * ((1103515245 : Int32))) + ((12345 : Int32)))).toUInt32 >>> ((((15 : Int32))).toUInt32 &&& Int32.toUInt32 31)).toInt32)) ^^^ (((1000000 : Int32)) + ((sy_ai F 55).getD (58 : Int).toNat 0))) * ((1103515245 : Int32))) + ((12345 : Int32))) ^^^ (((((((((((sy_i F 18) ^^^ ((101 : Int32))) * ((1103515245 : Int32))) + ((12345 : Int32))) ^^^ (((((((sy_i F 18) ^^^ ((101 : Int32))) * ((1103515245 : Int32))) + ((12345 : Int32)))).toUInt32 >>> ((((15 : Int32))).toUInt32 &&& Int32.toUInt32 31)).toInt32)) ^^^ (((1000000 : Int32)) + ((sy_ai F 55).getD (58 : Int).toNat 0))) * ((1103515245 : Int32))) + ((12345 : Int32)))).toUInt32 >>> ((((15 : Int32))).toUInt32 &&& Int32.toUInt32 31)).toInt32))).toUInt32 >>> ((((1 : Int32))).toUInt32 &&& Int32.toUInt32 31)).toInt32) - ((((((((((((sy_i F 18) ^^^ ((101 : Int32))) * ((1103515245 : Int32))) + ((12345 : Int32))) ^^^ (((((((sy_i F 18) ^^^ ((101 : Int32))) * ((1103515245 : Int32))) + ((12345 : Int32)))).toUInt32 >>> ((((15 : Int32))).toUInt32 &&& Int32.toUInt32 31)).toInt32)) ^^^ (((1000000 : Int32)) + ((sy_ai F 55).getD (58 : Int).toNat 0))) * ((1103515245 : Int32))) + ((12345 : Int32))) ^^^ (((((((((((sy_i F 18) ^^^ ((101 : Int32))) * ((1103515245 : Int32))) + ((12345 : Int32))) ^^^ (((((((sy_i F 18) ^^^ ((101 : Int32))) * ((1103515245 : Int32))) + ((12345 : Int32)))).toUInt32 >>> ((((15 : Int32))).toUInt32 &&& Int32.toUInt32 31)).toInt32)) ^^^ (((1000000 : Int32)) + ((sy_ai F 55).getD (58 : Int).toNat 0))) * ((1103515245 : Int32))) + ((12345 : Int32)))).toUInt32 >>> ((((15 : Int32))).toUInt32 &&& Int32.toUInt32 31)).toInt32))).toUInt32 >>> ((((1 : Int32))).toUInt32 &&& Int32.toUInt32 31)).toInt32) / ((100 : Int32)) * ((100 : Int32))).toInt
  · by_cases g1 : (sy_i F 70).toInt = 0
    · have q85 : ((((((((((((sy_i F 18) ^^^ ((101 : Int32))) * ((1103515245 : Int32))) + ((12345 : Int32))) ^^^ (((((((sy_i F 18) ^^^ ((101 : Int32))) * ((1103515245 : Int32))) + ((12345 : Int32)))).toUInt32 >>> ((((15 : Int32))).toUInt32 &&& Int32.toUInt32 31)).toInt32)) ^^^ (((1000000 : Int32)) + ((sy_ai F 55).getD ((58 : Int32)).toNatClampNeg 0))) * ((1103515245 : Int32))) + ((12345 : Int32))) ^^^ (((((((((((sy_i F 18) ^^^ ((101 : Int32))) * ((1103515245 : Int32))) + ((12345 : Int32))) ^^^ (((((((sy_i F 18) ^^^ ((101 : Int32))) * ((1103515245 : Int32))) + ((12345 : Int32)))).toUInt32 >>> ((((15 : Int32))).toUInt32 &&& Int32.toUInt32 31)).toInt32)) ^^^ (((1000000 : Int32)) + ((sy_ai F 55).getD ((58 : Int32)).toNatClampNeg 0))) * ((1103515245 : Int32))) + ((12345 : Int32)))).toUInt32 >>> ((((15 : Int32))).toUInt32 &&& Int32.toUInt32 31)).toInt32))).toUInt32 >>> ((((1 : Int32))).toUInt32 &&& Int32.toUInt32 31)).toInt32) - ((((((((((((sy_i F 18) ^^^ ((101 : Int32))) * ((1103515245 : Int32))) + ((12345 : Int32))) ^^^ (((((((sy_i F 18) ^^^ ((101 : Int32))) * ((1103515245 : Int32))) + ((12345 : Int32)))).toUInt32 >>> ((((15 : Int32))).toUInt32 &&& Int32.toUInt32 31)).toInt32)) ^^^ (((1000000 : Int32)) + ((sy_ai F 55).getD ((58 : Int32)).toNatClampNeg 0))) * ((1103515245 : Int32))) + ((12345 : Int32))) ^^^ (((((((((((sy_i F 18) ^^^ ((101 : Int32))) * ((1103515245 : Int32))) + ((12345 : Int32))) ^^^ (((((((sy_i F 18) ^^^ ((101 : Int32))) * ((1103515245 : Int32))) + ((12345 : Int32)))).toUInt32 >>> ((((15 : Int32))).toUInt32 &&& Int32.toUInt32 31)).toInt32)) ^^^ (((1000000 : Int32)) + ((sy_ai F 55).getD ((58 : Int32)).toNatClampNeg 0))) * ((1103515245 : Int32))) + ((12345 : Int32)))).toUInt32 >>> ((((15 : Int32))).toUInt32 &&& Int32.toUInt32 31)).toInt32))).toUInt32 >>> ((((1 : Int32))).toUInt32 &&& Int32.toUInt32 31)).toInt32) / ((100 : Int32)) * ((100 : Int32)) = ((((((((((((sy_i F 18) ^^^ ((101 : Int32))) * ((1103515245 : Int32))) + ((12345 : Int32))) ^^^ (((((((sy_i F 18) ^^^ ((101 : Int32))) * ((1103515245 : Int32))) + ((12345 : Int32)))).toUInt32 >>> ((((15 : Int32))).toUInt32 &&& Int32.toUInt32 31)).toInt32)) ^^^ (((1000000 : Int32)) + ((sy_ai F 55).getD (58 : Int).toNat 0))) * ((1103515245 : Int32))) + ((12345 : Int32))) ^^^ (((((((((((sy_i F 18) ^^^ ((101 : Int32))) * ((1103515245 : Int32))) + ((12345 : Int32))) ^^^ (((((((sy_i F 18) ^^^ ((101 : Int32))) * ((1103515245 : Int32))) + ((12345 : Int32)))).toUInt32 >>> ((((15 : Int32))).toUInt32 &&& Int32.toUInt32 31)).toInt32)) ^^^ (((1000000 : Int32)) + ((sy_ai F 55).getD (58 : Int).toNat 0))) * ((1103515245 : Int32))) + ((12345 : Int32)))).toUInt32 >>> ((((15 : Int32))).toUInt32 &&& Int32.toUInt32 31)).toInt32))).toUInt32 >>> ((((1 : Int32))).toUInt32 &&& Int32.toUInt32 31)).toInt32) - ((((((((((((sy_i F 18) ^^^ ((101 : Int32))) * ((1103515245 : Int32))) + ((12345 : Int32))) ^^^ (((((((sy_i F 18) ^^^ ((101 : Int32))) * ((1103515245 : Int32))) + ((12345 : Int32)))).toUInt32 >>> ((((15 : Int32))).toUInt32 &&& Int32.toUInt32 31)).toInt32)) ^^^ (((1000000 : Int32)) + ((sy_ai F 55).getD (58 : Int).toNat 0))) * ((1103515245 : Int32))) + ((12345 : Int32))) ^^^ (((((((((((sy_i F 18) ^^^ ((101 : Int32))) * ((1103515245 : Int32))) + ((12345 : Int32))) ^^^ (((((((sy_i F 18) ^^^ ((101 : Int32))) * ((1103515245 : Int32))) + ((12345 : Int32)))).toUInt32 >>> ((((15 : Int32))).toUInt32 &&& Int32.toUInt32 31)).toInt32)) ^^^ (((1000000 : Int32)) + ((sy_ai F 55).getD (58 : Int).toNat 0))) * ((1103515245 : Int32))) + ((12345 : Int32)))).toUInt32 >>> ((((15 : Int32))).toUInt32 &&& Int32.toUInt32 31)).toInt32))).toUInt32 >>> ((((1 : Int32))).toUInt32 &&& Int32.toUInt32 31)).toInt32) / ((100 : Int32)) * ((100 : Int32)) := by simp only [nz_c, (by decide : ((1 : Int32)).toInt = 1), (by decide : ((15 : Int32)).toInt = 15), (by decide : ((58 : Int32)).toInt = 58), (by decide : ((100 : Int32)).toInt = 100), (by decide : ((101 : Int32)).toInt = 101), (by decide : ((12345 : Int32)).toInt = 12345), (by decide : ((1000000 : Int32)).toInt = 1000000), (by decide : ((1103515245 : Int32)).toInt = 1103515245)]
      have n85 : nzI (((((((((((((sy_i F 18) ^^^ ((101 : Int32))) * ((1103515245 : Int32))) + ((12345 : Int32))) ^^^ (((((((sy_i F 18) ^^^ ((101 : Int32))) * ((1103515245 : Int32))) + ((12345 : Int32)))).toUInt32 >>> ((((15 : Int32))).toUInt32 &&& Int32.toUInt32 31)).toInt32)) ^^^ (((1000000 : Int32)) + ((sy_ai F 55).getD ((58 : Int32)).toNatClampNeg 0))) * ((1103515245 : Int32))) + ((12345 : Int32))) ^^^ (((((((((((sy_i F 18) ^^^ ((101 : Int32))) * ((1103515245 : Int32))) + ((12345 : Int32))) ^^^ (((((((sy_i F 18) ^^^ ((101 : Int32))) * ((1103515245 : Int32))) + ((12345 : Int32)))).toUInt32 >>> ((((15 : Int32))).toUInt32 &&& Int32.toUInt32 31)).toInt32)) ^^^ (((1000000 : Int32)) + ((sy_ai F 55).getD ((58 : Int32)).toNatClampNeg 0))) * ((1103515245 : Int32))) + ((12345 : Int32)))).toUInt32 >>> ((((15 : Int32))).toUInt32 &&& Int32.toUInt32 31)).toInt32))).toUInt32 >>> ((((1 : Int32))).toUInt32 &&& Int32.toUInt32 31)).toInt32) - ((((((((((((sy_i F 18) ^^^ ((101 : Int32))) * ((1103515245 : Int32))) + ((12345 : Int32))) ^^^ (((((((sy_i F 18) ^^^ ((101 : Int32))) * ((1103515245 : Int32))) + ((12345 : Int32)))).toUInt32 >>> ((((15 : Int32))).toUInt32 &&& Int32.toUInt32 31)).toInt32)) ^^^ (((1000000 : Int32)) + ((sy_ai F 55).getD ((58 : Int32)).toNatClampNeg 0))) * ((1103515245 : Int32))) + ((12345 : Int32))) ^^^ (((((((((((sy_i F 18) ^^^ ((101 : Int32))) * ((1103515245 : Int32))) + ((12345 : Int32))) ^^^ (((((((sy_i F 18) ^^^ ((101 : Int32))) * ((1103515245 : Int32))) + ((12345 : Int32)))).toUInt32 >>> ((((15 : Int32))).toUInt32 &&& Int32.toUInt32 31)).toInt32)) ^^^ (((1000000 : Int32)) + ((sy_ai F 55).getD ((58 : Int32)).toNatClampNeg 0))) * ((1103515245 : Int32))) + ((12345 : Int32)))).toUInt32 >>> ((((15 : Int32))).toUInt32 &&& Int32.toUInt32 31)).toInt32))).toUInt32 >>> ((((1 : Int32))).toUInt32 &&& Int32.toUInt32 31)).toInt32) / ((100 : Int32)) * ((100 : Int32))) ((((((((((((((sy_i F 18) ^^^ ((101 : Int32))) * ((1103515245 : Int32))) + ((12345 : Int32))) ^^^ (((((((sy_i F 18) ^^^ ((101 : Int32))) * ((1103515245 : Int32))) + ((12345 : Int32)))).toUInt32 >>> ((((15 : Int32))).toUInt32 &&& Int32.toUInt32 31)).toInt32)) ^^^ (((1000000 : Int32)) + ((sy_ai F 55).getD (58 : Int).toNat 0))) * ((1103515245 : Int32))) + ((12345 : Int32))) ^^^ (((((((((((sy_i F 18) ^^^ ((101 : Int32))) * ((1103515245 : Int32))) + ((12345 : Int32))) ^^^ (((((((sy_i F 18) ^^^ ((101 : Int32))) * ((1103515245 : Int32))) + ((12345 : Int32)))).toUInt32 >>> ((((15 : Int32))).toUInt32 &&& Int32.toUInt32 31)).toInt32)) ^^^ (((1000000 : Int32)) + ((sy_ai F 55).getD (58 : Int).toNat 0))) * ((1103515245 : Int32))) + ((12345 : Int32)))).toUInt32 >>> ((((15 : Int32))).toUInt32 &&& Int32.toUInt32 31)).toInt32))).toUInt32 >>> ((((1 : Int32))).toUInt32 &&& Int32.toUInt32 31)).toInt32) - ((((((((((((sy_i F 18) ^^^ ((101 : Int32))) * ((1103515245 : Int32))) + ((12345 : Int32))) ^^^ (((((((sy_i F 18) ^^^ ((101 : Int32))) * ((1103515245 : Int32))) + ((12345 : Int32)))).toUInt32 >>> ((((15 : Int32))).toUInt32 &&& Int32.toUInt32 31)).toInt32)) ^^^ (((1000000 : Int32)) + ((sy_ai F 55).getD (58 : Int).toNat 0))) * ((1103515245 : Int32))) + ((12345 : Int32))) ^^^ (((((((((((sy_i F 18) ^^^ ((101 : Int32))) * ((1103515245 : Int32))) + ((12345 : Int32))) ^^^ (((((((sy_i F 18) ^^^ ((101 : Int32))) * ((1103515245 : Int32))) + ((12345 : Int32)))).toUInt32 >>> ((((15 : Int32))).toUInt32 &&& Int32.toUInt32 31)).toInt32)) ^^^ (((1000000 : Int32)) + ((sy_ai F 55).getD (58 : Int).toNat 0))) * ((1103515245 : Int32))) + ((12345 : Int32)))).toUInt32 >>> ((((15 : Int32))).toUInt32 &&& Int32.toUInt32 31)).toInt32))).toUInt32 >>> ((((1 : Int32))).toUInt32 &&& Int32.toUInt32 31)).toInt32) / ((100 : Int32)) * ((100 : Int32))).toInt) := congrArg Int32.toInt q85
      have n86 : nzI (((42 : Int32)) + (sy_i F 69)) ((42 + (sy_i F 69).toInt)) := nz_add (by decide : ((42 : Int32)).toInt = 42) (rfl : (sy_i F 69).toInt = (sy_i F 69).toInt) (by omega) (by omega)
      have w92 : jm_upd (jm_upd (sy_ai F 55) (((42 : Int32)) + (sy_i F 69)).toNatClampNeg (((sy_ai F 55).getD (((42 : Int32)) + (sy_i F 69)).toNatClampNeg 0) + ((1 : Int32)))) ((58 : Int32)).toNatClampNeg (((jm_upd (sy_ai F 55) (((42 : Int32)) + (sy_i F 69)).toNatClampNeg (((sy_ai F 55).getD (((42 : Int32)) + (sy_i F 69)).toNatClampNeg 0) + ((1 : Int32)))).getD ((58 : Int32)).toNatClampNeg 0) + ((1 : Int32))) = jm_upd (jm_upd (sy_ai F 55) ((42 + (sy_i F 69).toInt)).toNat (((sy_ai F 55).getD ((42 + (sy_i F 69).toInt)).toNat 0) + ((1 : Int32)))) (58 : Int).toNat (((jm_upd (sy_ai F 55) ((42 + (sy_i F 69).toInt)).toNat (((sy_ai F 55).getD ((42 + (sy_i F 69).toInt)).toNat 0) + ((1 : Int32)))).getD (58 : Int).toNat 0) + ((1 : Int32))) := by simp only [nz_c, (nzE n86), (by decide : ((1 : Int32)).toInt = 1), (by decide : ((42 : Int32)).toInt = 42), (by decide : ((58 : Int32)).toInt = 58)]
      exact zsh_82_p0 hd F X1 X2 hB (by first | exact g0 | (simp only [nz_c]; exact g0) | (rw [(nzE n85)]; exact g0)) (by first | (simp only [nz_c, (nzE n86)]; exact ⟨by omega, by omega⟩) | exact ⟨by omega, by omega⟩ | (rw [(nzE n86)]; exact ⟨by omega, by omega⟩)) (by first | (simp only [nz_c, (nzE n86)]; exact ⟨by omega, by omega⟩) | exact ⟨by omega, by omega⟩ | (rw [(nzE n86)]; exact ⟨by omega, by omega⟩)) (by first | exact g1 | (simp only [nz_c]; exact g1)) (fun F1 g e55 e69 => k0 g0 g1 F1 (nz_in hB [55] (fun j hj hn => g j hj (by simp only [List.mem_cons, List.not_mem_nil, or_false, not_or] at hn; omega)) (List.forall_mem_cons.mpr ⟨fun t ht => (Option.some.inj ht) ▸ (nz_hz2 e55), List.forall_mem_nil _⟩)) (fun j hj hn => g j hj (by simp only [List.mem_cons, List.not_mem_nil, or_false, not_or] at hn; omega)) ((zz_ai e55).trans w92) ((congrArg Int32.toInt (zz_i e69)).trans (rfl : (sy_i F 70).toInt = (sy_i F 70).toInt)) ((zz_i e69).trans (rfl : sy_i F 70 = sy_i F 70)))
    replace g1 : (sy_i F 70).toInt ≠ 0 := by omega
    have q85 : ((((((((((((sy_i F 18) ^^^ ((101 : Int32))) * ((1103515245 : Int32))) + ((12345 : Int32))) ^^^ (((((((sy_i F 18) ^^^ ((101 : Int32))) * ((1103515245 : Int32))) + ((12345 : Int32)))).toUInt32 >>> ((((15 : Int32))).toUInt32 &&& Int32.toUInt32 31)).toInt32)) ^^^ (((1000000 : Int32)) + ((sy_ai F 55).getD ((58 : Int32)).toNatClampNeg 0))) * ((1103515245 : Int32))) + ((12345 : Int32))) ^^^ (((((((((((sy_i F 18) ^^^ ((101 : Int32))) * ((1103515245 : Int32))) + ((12345 : Int32))) ^^^ (((((((sy_i F 18) ^^^ ((101 : Int32))) * ((1103515245 : Int32))) + ((12345 : Int32)))).toUInt32 >>> ((((15 : Int32))).toUInt32 &&& Int32.toUInt32 31)).toInt32)) ^^^ (((1000000 : Int32)) + ((sy_ai F 55).getD ((58 : Int32)).toNatClampNeg 0))) * ((1103515245 : Int32))) + ((12345 : Int32)))).toUInt32 >>> ((((15 : Int32))).toUInt32 &&& Int32.toUInt32 31)).toInt32))).toUInt32 >>> ((((1 : Int32))).toUInt32 &&& Int32.toUInt32 31)).toInt32) - ((((((((((((sy_i F 18) ^^^ ((101 : Int32))) * ((1103515245 : Int32))) + ((12345 : Int32))) ^^^ (((((((sy_i F 18) ^^^ ((101 : Int32))) * ((1103515245 : Int32))) + ((12345 : Int32)))).toUInt32 >>> ((((15 : Int32))).toUInt32 &&& Int32.toUInt32 31)).toInt32)) ^^^ (((1000000 : Int32)) + ((sy_ai F 55).getD ((58 : Int32)).toNatClampNeg 0))) * ((1103515245 : Int32))) + ((12345 : Int32))) ^^^ (((((((((((sy_i F 18) ^^^ ((101 : Int32))) * ((1103515245 : Int32))) + ((12345 : Int32))) ^^^ (((((((sy_i F 18) ^^^ ((101 : Int32))) * ((1103515245 : Int32))) + ((12345 : Int32)))).toUInt32 >>> ((((15 : Int32))).toUInt32 &&& Int32.toUInt32 31)).toInt32)) ^^^ (((1000000 : Int32)) + ((sy_ai F 55).getD ((58 : Int32)).toNatClampNeg 0))) * ((1103515245 : Int32))) + ((12345 : Int32)))).toUInt32 >>> ((((15 : Int32))).toUInt32 &&& Int32.toUInt32 31)).toInt32))).toUInt32 >>> ((((1 : Int32))).toUInt32 &&& Int32.toUInt32 31)).toInt32) / ((100 : Int32)) * ((100 : Int32)) = ((((((((((((sy_i F 18) ^^^ ((101 : Int32))) * ((1103515245 : Int32))) + ((12345 : Int32))) ^^^ (((((((sy_i F 18) ^^^ ((101 : Int32))) * ((1103515245 : Int32))) + ((12345 : Int32)))).toUInt32 >>> ((((15 : Int32))).toUInt32 &&& Int32.toUInt32 31)).toInt32)) ^^^ (((1000000 : Int32)) + ((sy_ai F 55).getD (58 : Int).toNat 0))) * ((1103515245 : Int32))) + ((12345 : Int32))) ^^^ (((((((((((sy_i F 18) ^^^ ((101 : Int32))) * ((1103515245 : Int32))) + ((12345 : Int32))) ^^^ (((((((sy_i F 18) ^^^ ((101 : Int32))) * ((1103515245 : Int32))) + ((12345 : Int32)))).toUInt32 >>> ((((15 : Int32))).toUInt32 &&& Int32.toUInt32 31)).toInt32)) ^^^ (((1000000 : Int32)) + ((sy_ai F 55).getD (58 : Int).toNat 0))) * ((1103515245 : Int32))) + ((12345 : Int32)))).toUInt32 >>> ((((15 : Int32))).toUInt32 &&& Int32.toUInt32 31)).toInt32))).toUInt32 >>> ((((1 : Int32))).toUInt32 &&& Int32.toUInt32 31)).toInt32) - ((((((((((((sy_i F 18) ^^^ ((101 : Int32))) * ((1103515245 : Int32))) + ((12345 : Int32))) ^^^ (((((((sy_i F 18) ^^^ ((101 : Int32))) * ((1103515245 : Int32))) + ((12345 : Int32)))).toUInt32 >>> ((((15 : Int32))).toUInt32 &&& Int32.toUInt32 31)).toInt32)) ^^^ (((1000000 : Int32)) + ((sy_ai F 55).getD (58 : Int).toNat 0))) * ((1103515245 : Int32))) + ((12345 : Int32))) ^^^ (((((((((((sy_i F 18) ^^^ ((101 : Int32))) * ((1103515245 : Int32))) + ((12345 : Int32))) ^^^ (((((((sy_i F 18) ^^^ ((101 : Int32))) * ((1103515245 : Int32))) + ((12345 : Int32)))).toUInt32 >>> ((((15 : Int32))).toUInt32 &&& Int32.toUInt32 31)).toInt32)) ^^^ (((1000000 : Int32)) + ((sy_ai F 55).getD (58 : Int).toNat 0))) * ((1103515245 : Int32))) + ((12345 : Int32)))).toUInt32 >>> ((((15 : Int32))).toUInt32 &&& Int32.toUInt32 31)).toInt32))).toUInt32 >>> ((((1 : Int32))).toUInt32 &&& Int32.toUInt32 31)).toInt32) / ((100 : Int32)) * ((100 : Int32)) := by simp only [nz_c, (by decide : ((1 : Int32)).toInt = 1), (by decide : ((15 : Int32)).toInt = 15), (by decide : ((58 : Int32)).toInt = 58), (by decide : ((100 : Int32)).toInt = 100), (by decide : ((101 : Int32)).toInt = 101), (by decide : ((12345 : Int32)).toInt = 12345), (by decide : ((1000000 : Int32)).toInt = 1000000), (by decide : ((1103515245 : Int32)).toInt = 1103515245)]
    have n85 : nzI (((((((((((((sy_i F 18) ^^^ ((101 : Int32))) * ((1103515245 : Int32))) + ((12345 : Int32))) ^^^ (((((((sy_i F 18) ^^^ ((101 : Int32))) * ((1103515245 : Int32))) + ((12345 : Int32)))).toUInt32 >>> ((((15 : Int32))).toUInt32 &&& Int32.toUInt32 31)).toInt32)) ^^^ (((1000000 : Int32)) + ((sy_ai F 55).getD ((58 : Int32)).toNatClampNeg 0))) * ((1103515245 : Int32))) + ((12345 : Int32))) ^^^ (((((((((((sy_i F 18) ^^^ ((101 : Int32))) * ((1103515245 : Int32))) + ((12345 : Int32))) ^^^ (((((((sy_i F 18) ^^^ ((101 : Int32))) * ((1103515245 : Int32))) + ((12345 : Int32)))).toUInt32 >>> ((((15 : Int32))).toUInt32 &&& Int32.toUInt32 31)).toInt32)) ^^^ (((1000000 : Int32)) + ((sy_ai F 55).getD ((58 : Int32)).toNatClampNeg 0))) * ((1103515245 : Int32))) + ((12345 : Int32)))).toUInt32 >>> ((((15 : Int32))).toUInt32 &&& Int32.toUInt32 31)).toInt32))).toUInt32 >>> ((((1 : Int32))).toUInt32 &&& Int32.toUInt32 31)).toInt32) - ((((((((((((sy_i F 18) ^^^ ((101 : Int32))) * ((1103515245 : Int32))) + ((12345 : Int32))) ^^^ (((((((sy_i F 18) ^^^ ((101 : Int32))) * ((1103515245 : Int32))) + ((12345 : Int32)))).toUInt32 >>> ((((15 : Int32))).toUInt32 &&& Int32.toUInt32 31)).toInt32)) ^^^ (((1000000 : Int32)) + ((sy_ai F 55).getD ((58 : Int32)).toNatClampNeg 0))) * ((1103515245 : Int32))) + ((12345 : Int32))) ^^^ (((((((((((sy_i F 18) ^^^ ((101 : Int32))) * ((1103515245 : Int32))) + ((12345 : Int32))) ^^^ (((((((sy_i F 18) ^^^ ((101 : Int32))) * ((1103515245 : Int32))) + ((12345 : Int32)))).toUInt32 >>> ((((15 : Int32))).toUInt32 &&& Int32.toUInt32 31)).toInt32)) ^^^ (((1000000 : Int32)) + ((sy_ai F 55).getD ((58 : Int32)).toNatClampNeg 0))) * ((1103515245 : Int32))) + ((12345 : Int32)))).toUInt32 >>> ((((15 : Int32))).toUInt32 &&& Int32.toUInt32 31)).toInt32))).toUInt32 >>> ((((1 : Int32))).toUInt32 &&& Int32.toUInt32 31)).toInt32) / ((100 : Int32)) * ((100 : Int32))) ((((((((((((((sy_i F 18) ^^^ ((101 : Int32))) * ((1103515245 : Int32))) + ((12345 : Int32))) ^^^ (((((((sy_i F 18) ^^^ ((101 : Int32))) * ((1103515245 : Int32))) + ((12345 : Int32)))).toUInt32 >>> ((((15 : Int32))).toUInt32 &&& Int32.toUInt32 31)).toInt32)) ^^^ (((1000000 : Int32)) + ((sy_ai F 55).getD (58 : Int).toNat 0))) * ((1103515245 : Int32))) + ((12345 : Int32))) ^^^ (((((((((((sy_i F 18) ^^^ ((101 : Int32))) * ((1103515245 : Int32))) + ((12345 : Int32))) ^^^ (((((((sy_i F 18) ^^^ ((101 : Int32))) * ((1103515245 : Int32))) + ((12345 : Int32)))).toUInt32 >>> ((((15 : Int32))).toUInt32 &&& Int32.toUInt32 31)).toInt32)) ^^^ (((1000000 : Int32)) + ((sy_ai F 55).getD (58 : Int).toNat 0))) * ((1103515245 : Int32))) + ((12345 : Int32)))).toUInt32 >>> ((((15 : Int32))).toUInt32 &&& Int32.toUInt32 31)).toInt32))).toUInt32 >>> ((((1 : Int32))).toUInt32 &&& Int32.toUInt32 31)).toInt32) - ((((((((((((sy_i F 18) ^^^ ((101 : Int32))) * ((1103515245 : Int32))) + ((12345 : Int32))) ^^^ (((((((sy_i F 18) ^^^ ((101 : Int32))) * ((1103515245 : Int32))) + ((12345 : Int32)))).toUInt32 >>> ((((15 : Int32))).toUInt32 &&& Int32.toUInt32 31)).toInt32)) ^^^ (((1000000 : Int32)) + ((sy_ai F 55).getD (58 : Int).toNat 0))) * ((1103515245 : Int32))) + ((12345 : Int32))) ^^^ (((((((((((sy_i F 18) ^^^ ((101 : Int32))) * ((1103515245 : Int32))) + ((12345 : Int32))) ^^^ (((((((sy_i F 18) ^^^ ((101 : Int32))) * ((1103515245 : Int32))) + ((12345 : Int32)))).toUInt32 >>> ((((15 : Int32))).toUInt32 &&& Int32.toUInt32 31)).toInt32)) ^^^ (((1000000 : Int32)) + ((sy_ai F 55).getD (58 : Int).toNat 0))) * ((1103515245 : Int32))) + ((12345 : Int32)))).toUInt32 >>> ((((15 : Int32))).toUInt32 &&& Int32.toUInt32 31)).toInt32))).toUInt32 >>> ((((1 : Int32))).toUInt32 &&& Int32.toUInt32 31)).toInt32) / ((100 : Int32)) * ((100 : Int32))).toInt) := congrArg Int32.toInt q85
    have n86 : nzI (((42 : Int32)) + (sy_i F 69)) ((42 + (sy_i F 69).toInt)) := nz_add (by decide : ((42 : Int32)).toInt = 42) (rfl : (sy_i F 69).toInt = (sy_i F 69).toInt) (by omega) (by omega)
    exfalso
    omega
  replace g0 : (((((((((((((sy_i F 18) ^^^ ((101 : Int32))) * ((1103515245 : Int32))) + ((12345 : Int32))) ^^^ (((((((sy_i F 18) ^^^ ((101 : Int32))) * ((1103515245 : Int32))) + ((12345 : Int32)))).toUInt32 >>> ((((15 : Int32))).toUInt32 &&& Int32.toUInt32 31)).toInt32)) ^^^ (((1000000 : Int32)) + ((sy_ai F 55).getD (58 : Int).toNat 0))) * ((1103515245 : Int32))) + ((12345 : Int32))) ^^^ (((((((((((sy_i F 18) ^^^ ((101 : Int32))) * ((1103515245 : Int32))) + ((12345 : Int32))) ^^^ (((((((sy_i F 18) ^^^ ((101 : Int32))) * ((1103515245 : Int32))) + ((12345 : Int32)))).toUInt32 >>> ((((15 : Int32))).toUInt32 &&& Int32.toUInt32 31)).toInt32)) ^^^ (((1000000 : Int32)) + ((sy_ai F 55).getD (58 : Int).toNat 0))) * ((1103515245 : Int32))) + ((12345 : Int32)))).toUInt32 >>> ((((15 : Int32))).toUInt32 &&& Int32.toUInt32 31)).toInt32))).toUInt32 >>> ((((1 : Int32))).toUInt32 &&& Int32.toUInt32 31)).toInt32) - ((((((((((((sy_i F 18) ^^^ ((101 : Int32))) * ((1103515245 : Int32))) + ((12345 : Int32))) ^^^ (((((((sy_i F 18) ^^^ ((101 : Int32))) * ((1103515245 : Int32))) + ((12345 : Int32)))).toUInt32 >>> ((((15 : Int32))).toUInt32 &&& Int32.toUInt32 31)).toInt32)) ^^^ (((1000000 : Int32)) + ((sy_ai F 55).getD (58 : Int).toNat 0))) * ((1103515245 : Int32))) + ((12345 : Int32))) ^^^ (((((((((((sy_i F 18) ^^^ ((101 : Int32))) * ((1103515245 : Int32))) + ((12345 : Int32))) ^^^ (((((((sy_i F 18) ^^^ ((101 : Int32))) * ((1103515245 : Int32))) + ((12345 : Int32)))).toUInt32 >>> ((((15 : Int32))).toUInt32 &&& Int32.toUInt32 31)).toInt32)) ^^^ (((1000000 : Int32)) + ((sy_ai F 55).getD (58 : Int).toNat 0))) * ((1103515245 : Int32))) + ((12345 : Int32)))).toUInt32 >>> ((((15 : Int32))).toUInt32 &&& Int32.toUInt32 31)).toInt32))).toUInt32 >>> ((((1 : Int32))).toUInt32 &&& Int32.toUInt32 31)).toInt32) / ((100 : Int32)) * ((100 : Int32))).toInt < (sy_i F 71).toInt := by omega
  have q85 : ((((((((((((sy_i F 18) ^^^ ((101 : Int32))) * ((1103515245 : Int32))) + ((12345 : Int32))) ^^^ (((((((sy_i F 18) ^^^ ((101 : Int32))) * ((1103515245 : Int32))) + ((12345 : Int32)))).toUInt32 >>> ((((15 : Int32))).toUInt32 &&& Int32.toUInt32 31)).toInt32)) ^^^ (((1000000 : Int32)) + ((sy_ai F 55).getD ((58 : Int32)).toNatClampNeg 0))) * ((1103515245 : Int32))) + ((12345 : Int32))) ^^^ (((((((((((sy_i F 18) ^^^ ((101 : Int32))) * ((1103515245 : Int32))) + ((12345 : Int32))) ^^^ (((((((sy_i F 18) ^^^ ((101 : Int32))) * ((1103515245 : Int32))) + ((12345 : Int32)))).toUInt32 >>> ((((15 : Int32))).toUInt32 &&& Int32.toUInt32 31)).toInt32)) ^^^ (((1000000 : Int32)) + ((sy_ai F 55).getD ((58 : Int32)).toNatClampNeg 0))) * ((1103515245 : Int32))) + ((12345 : Int32)))).toUInt32 >>> ((((15 : Int32))).toUInt32 &&& Int32.toUInt32 31)).toInt32))).toUInt32 >>> ((((1 : Int32))).toUInt32 &&& Int32.toUInt32 31)).toInt32) - ((((((((((((sy_i F 18) ^^^ ((101 : Int32))) * ((1103515245 : Int32))) + ((12345 : Int32))) ^^^ (((((((sy_i F 18) ^^^ ((101 : Int32))) * ((1103515245 : Int32))) + ((12345 : Int32)))).toUInt32 >>> ((((15 : Int32))).toUInt32 &&& Int32.toUInt32 31)).toInt32)) ^^^ (((1000000 : Int32)) + ((sy_ai F 55).getD ((58 : Int32)).toNatClampNeg 0))) * ((1103515245 : Int32))) + ((12345 : Int32))) ^^^ (((((((((((sy_i F 18) ^^^ ((101 : Int32))) * ((1103515245 : Int32))) + ((12345 : Int32))) ^^^ (((((((sy_i F 18) ^^^ ((101 : Int32))) * ((1103515245 : Int32))) + ((12345 : Int32)))).toUInt32 >>> ((((15 : Int32))).toUInt32 &&& Int32.toUInt32 31)).toInt32)) ^^^ (((1000000 : Int32)) + ((sy_ai F 55).getD ((58 : Int32)).toNatClampNeg 0))) * ((1103515245 : Int32))) + ((12345 : Int32)))).toUInt32 >>> ((((15 : Int32))).toUInt32 &&& Int32.toUInt32 31)).toInt32))).toUInt32 >>> ((((1 : Int32))).toUInt32 &&& Int32.toUInt32 31)).toInt32) / ((100 : Int32)) * ((100 : Int32)) = ((((((((((((sy_i F 18) ^^^ ((101 : Int32))) * ((1103515245 : Int32))) + ((12345 : Int32))) ^^^ (((((((sy_i F 18) ^^^ ((101 : Int32))) * ((1103515245 : Int32))) + ((12345 : Int32)))).toUInt32 >>> ((((15 : Int32))).toUInt32 &&& Int32.toUInt32 31)).toInt32)) ^^^ (((1000000 : Int32)) + ((sy_ai F 55).getD (58 : Int).toNat 0))) * ((1103515245 : Int32))) + ((12345 : Int32))) ^^^ (((((((((((sy_i F 18) ^^^ ((101 : Int32))) * ((1103515245 : Int32))) + ((12345 : Int32))) ^^^ (((((((sy_i F 18) ^^^ ((101 : Int32))) * ((1103515245 : Int32))) + ((12345 : Int32)))).toUInt32 >>> ((((15 : Int32))).toUInt32 &&& Int32.toUInt32 31)).toInt32)) ^^^ (((1000000 : Int32)) + ((sy_ai F 55).getD (58 : Int).toNat 0))) * ((1103515245 : Int32))) + ((12345 : Int32)))).toUInt32 >>> ((((15 : Int32))).toUInt32 &&& Int32.toUInt32 31)).toInt32))).toUInt32 >>> ((((1 : Int32))).toUInt32 &&& Int32.toUInt32 31)).toInt32) - ((((((((((((sy_i F 18) ^^^ ((101 : Int32))) * ((1103515245 : Int32))) + ((12345 : Int32))) ^^^ (((((((sy_i F 18) ^^^ ((101 : Int32))) * ((1103515245 : Int32))) + ((12345 : Int32)))).toUInt32 >>> ((((15 : Int32))).toUInt32 &&& Int32.toUInt32 31)).toInt32)) ^^^ (((1000000 : Int32)) + ((sy_ai F 55).getD (58 : Int).toNat 0))) * ((1103515245 : Int32))) + ((12345 : Int32))) ^^^ (((((((((((sy_i F 18) ^^^ ((101 : Int32))) * ((1103515245 : Int32))) + ((12345 : Int32))) ^^^ (((((((sy_i F 18) ^^^ ((101 : Int32))) * ((1103515245 : Int32))) + ((12345 : Int32)))).toUInt32 >>> ((((15 : Int32))).toUInt32 &&& Int32.toUInt32 31)).toInt32)) ^^^ (((1000000 : Int32)) + ((sy_ai F 55).getD (58 : Int).toNat 0))) * ((1103515245 : Int32))) + ((12345 : Int32)))).toUInt32 >>> ((((15 : Int32))).toUInt32 &&& Int32.toUInt32 31)).toInt32))).toUInt32 >>> ((((1 : Int32))).toUInt32 &&& Int32.toUInt32 31)).toInt32) / ((100 : Int32)) * ((100 : Int32)) := by simp only [nz_c, (by decide : ((1 : Int32)).toInt = 1), (by decide : ((15 : Int32)).toInt = 15), (by decide : ((58 : Int32)).toInt = 58), (by decide : ((100 : Int32)).toInt = 100), (by decide : ((101 : Int32)).toInt = 101), (by decide : ((12345 : Int32)).toInt = 12345), (by decide : ((1000000 : Int32)).toInt = 1000000), (by decide : ((1103515245 : Int32)).toInt = 1103515245)]
  have n85 : nzI (((((((((((((sy_i F 18) ^^^ ((101 : Int32))) * ((1103515245 : Int32))) + ((12345 : Int32))) ^^^ (((((((sy_i F 18) ^^^ ((101 : Int32))) * ((1103515245 : Int32))) + ((12345 : Int32)))).toUInt32 >>> ((((15 : Int32))).toUInt32 &&& Int32.toUInt32 31)).toInt32)) ^^^ (((1000000 : Int32)) + ((sy_ai F 55).getD ((58 : Int32)).toNatClampNeg 0))) * ((1103515245 : Int32))) + ((12345 : Int32))) ^^^ (((((((((((sy_i F 18) ^^^ ((101 : Int32))) * ((1103515245 : Int32))) + ((12345 : Int32))) ^^^ (((((((sy_i F 18) ^^^ ((101 : Int32))) * ((1103515245 : Int32))) + ((12345 : Int32)))).toUInt32 >>> ((((15 : Int32))).toUInt32 &&& Int32.toUInt32 31)).toInt32)) ^^^ (((1000000 : Int32)) + ((sy_ai F 55).getD ((58 : Int32)).toNatClampNeg 0))) * ((1103515245 : Int32))) + ((12345 : Int32)))).toUInt32 >>> ((((15 : Int32))).toUInt32 &&& Int32.toUInt32 31)).toInt32))).toUInt32 >>> ((((1 : Int32))).toUInt32 &&& Int32.toUInt32 31)).toInt32) - ((((((((((((sy_i F 18) ^^^ ((101 : Int32))) * ((1103515245 : Int32))) + ((12345 : Int32))) ^^^ (((((((sy_i F 18) ^^^ ((101 : Int32))) * ((1103515245 : Int32))) + ((12345 : Int32)))).toUInt32 >>> ((((15 : Int32))).toUInt32 &&& Int32.toUInt32 31)).toInt32)) ^^^ (((1000000 : Int32)) + ((sy_ai F 55).getD ((58 : Int32)).toNatClampNeg 0))) * ((1103515245 : Int32))) + ((12345 : Int32))) ^^^ (((((((((((sy_i F 18) ^^^ ((101 : Int32))) * ((1103515245 : Int32))) + ((12345 : Int32))) ^^^ (((((((sy_i F 18) ^^^ ((101 : Int32))) * ((1103515245 : Int32))) + ((12345 : Int32)))).toUInt32 >>> ((((15 : Int32))).toUInt32 &&& Int32.toUInt32 31)).toInt32)) ^^^ (((1000000 : Int32)) + ((sy_ai F 55).getD ((58 : Int32)).toNatClampNeg 0))) * ((1103515245 : Int32))) + ((12345 : Int32)))).toUInt32 >>> ((((15 : Int32))).toUInt32 &&& Int32.toUInt32 31)).toInt32))).toUInt32 >>> ((((1 : Int32))).toUInt32 &&& Int32.toUInt32 31)).toInt32) / ((100 : Int32)) * ((100 : Int32))) ((((((((((((((sy_i F 18) ^^^ ((101 : Int32))) * ((1103515245 : Int32))) + ((12345 : Int32))) ^^^ (((((((sy_i F 18) ^^^ ((101 : Int32))) * ((1103515245 : Int32))) + ((12345 : Int32)))).toUInt32 >>> ((((15 : Int32))).toUInt32 &&& Int32.toUInt32 31)).toInt32)) ^^^ (((1000000 : Int32)) + ((sy_ai F 55).getD (58 : Int).toNat 0))) * ((1103515245 : Int32))) + ((12345 : Int32))) ^^^ (((((((((((sy_i F 18) ^^^ ((101 : Int32))) * ((1103515245 : Int32))) + ((12345 : Int32))) ^^^ (((((((sy_i F 18) ^^^ ((101 : Int32))) * ((1103515245 : Int32))) + ((12345 : Int32)))).toUInt32 >>> ((((15 : Int32))).toUInt32 &&& Int32.toUInt32 31)).toInt32)) ^^^ (((1000000 : Int32)) + ((sy_ai F 55).getD (58 : Int).toNat 0))) * ((1103515245 : Int32))) + ((12345 : Int32)))).toUInt32 >>> ((((15 : Int32))).toUInt32 &&& Int32.toUInt32 31)).toInt32))).toUInt32 >>> ((((1 : Int32))).toUInt32 &&& Int32.toUInt32 31)).toInt32) - ((((((((((((sy_i F 18) ^^^ ((101 : Int32))) * ((1103515245 : Int32))) + ((12345 : Int32))) ^^^ (((((((sy_i F 18) ^^^ ((101 : Int32))) * ((1103515245 : Int32))) + ((12345 : Int32)))).toUInt32 >>> ((((15 : Int32))).toUInt32 &&& Int32.toUInt32 31)).toInt32)) ^^^ (((1000000 : Int32)) + ((sy_ai F 55).getD (58 : Int).toNat 0))) * ((1103515245 : Int32))) + ((12345 : Int32))) ^^^ (((((((((((sy_i F 18) ^^^ ((101 : Int32))) * ((1103515245 : Int32))) + ((12345 : Int32))) ^^^ (((((((sy_i F 18) ^^^ ((101 : Int32))) * ((1103515245 : Int32))) + ((12345 : Int32)))).toUInt32 >>> ((((15 : Int32))).toUInt32 &&& Int32.toUInt32 31)).toInt32)) ^^^ (((1000000 : Int32)) + ((sy_ai F 55).getD (58 : Int).toNat 0))) * ((1103515245 : Int32))) + ((12345 : Int32)))).toUInt32 >>> ((((15 : Int32))).toUInt32 &&& Int32.toUInt32 31)).toInt32))).toUInt32 >>> ((((1 : Int32))).toUInt32 &&& Int32.toUInt32 31)).toInt32) / ((100 : Int32)) * ((100 : Int32))).toInt) := congrArg Int32.toInt q85
  have n86 : nzI (((42 : Int32)) + (sy_i F 69)) ((42 + (sy_i F 69).toInt)) := nz_add (by decide : ((42 : Int32)).toInt = 42) (rfl : (sy_i F 69).toInt = (sy_i F 69).toInt) (by omega) (by omega)
  have c11 := nz_bx hB (k := 11) (lo := 0) (hi := 1) rfl
  have w99 : jm_upd (jm_upd (jm_upd (jm_upd (sy_ai F 55) (((42 : Int32)) + (sy_i F 69)).toNatClampNeg (((sy_ai F 55).getD (((42 : Int32)) + (sy_i F 69)).toNatClampNeg 0) + ((1 : Int32)))) ((58 : Int32)).toNatClampNeg (((jm_upd (sy_ai F 55) (((42 : Int32)) + (sy_i F 69)).toNatClampNeg (((sy_ai F 55).getD (((42 : Int32)) + (sy_i F 69)).toNatClampNeg 0) + ((1 : Int32)))).getD ((58 : Int32)).toNatClampNeg 0) + ((1 : Int32)))) ((59 : Int32)).toNatClampNeg (((jm_upd (jm_upd (sy_ai F 55) (((42 : Int32)) + (sy_i F 69)).toNatClampNeg (((sy_ai F 55).getD (((42 : Int32)) + (sy_i F 69)).toNatClampNeg 0) + ((1 : Int32)))) ((58 : Int32)).toNatClampNeg (((jm_upd (sy_ai F 55) (((42 : Int32)) + (sy_i F 69)).toNatClampNeg (((sy_ai F 55).getD (((42 : Int32)) + (sy_i F 69)).toNatClampNeg 0) + ((1 : Int32)))).getD ((58 : Int32)).toNatClampNeg 0) + ((1 : Int32)))).getD ((59 : Int32)).toNatClampNeg 0) + ((1 : Int32)))) ((60 : Int32)).toNatClampNeg (((jm_upd (jm_upd (jm_upd (sy_ai F 55) (((42 : Int32)) + (sy_i F 69)).toNatClampNeg (((sy_ai F 55).getD (((42 : Int32)) + (sy_i F 69)).toNatClampNeg 0) + ((1 : Int32)))) ((58 : Int32)).toNatClampNeg (((jm_upd (sy_ai F 55) (((42 : Int32)) + (sy_i F 69)).toNatClampNeg (((sy_ai F 55).getD (((42 : Int32)) + (sy_i F 69)).toNatClampNeg 0) + ((1 : Int32)))).getD ((58 : Int32)).toNatClampNeg 0) + ((1 : Int32)))) ((59 : Int32)).toNatClampNeg (((jm_upd (jm_upd (sy_ai F 55) (((42 : Int32)) + (sy_i F 69)).toNatClampNeg (((sy_ai F 55).getD (((42 : Int32)) + (sy_i F 69)).toNatClampNeg 0) + ((1 : Int32)))) ((58 : Int32)).toNatClampNeg (((jm_upd (sy_ai F 55) (((42 : Int32)) + (sy_i F 69)).toNatClampNeg (((sy_ai F 55).getD (((42 : Int32)) + (sy_i F 69)).toNatClampNeg 0) + ((1 : Int32)))).getD ((58 : Int32)).toNatClampNeg 0) + ((1 : Int32)))).getD ((59 : Int32)).toNatClampNeg 0) + ((1 : Int32)))).getD ((60 : Int32)).toNatClampNeg 0) + ((sy_ai F 39).getD (sy_i F 11).toNatClampNeg 0)) = jm_upd (jm_upd (jm_upd (jm_upd (sy_ai F 55) ((42 + (sy_i F 69).toInt)).toNat (((sy_ai F 55).getD ((42 + (sy_i F 69).toInt)).toNat 0) + ((1 : Int32)))) (58 : Int).toNat (((jm_upd (sy_ai F 55) ((42 + (sy_i F 69).toInt)).toNat (((sy_ai F 55).getD ((42 + (sy_i F 69).toInt)).toNat 0) + ((1 : Int32)))).getD (58 : Int).toNat 0) + ((1 : Int32)))) (59 : Int).toNat (((jm_upd (jm_upd (sy_ai F 55) ((42 + (sy_i F 69).toInt)).toNat (((sy_ai F 55).getD ((42 + (sy_i F 69).toInt)).toNat 0) + ((1 : Int32)))) (58 : Int).toNat (((jm_upd (sy_ai F 55) ((42 + (sy_i F 69).toInt)).toNat (((sy_ai F 55).getD ((42 + (sy_i F 69).toInt)).toNat 0) + ((1 : Int32)))).getD (58 : Int).toNat 0) + ((1 : Int32)))).getD (59 : Int).toNat 0) + ((1 : Int32)))) (60 : Int).toNat (((jm_upd (jm_upd (jm_upd (sy_ai F 55) ((42 + (sy_i F 69).toInt)).toNat (((sy_ai F 55).getD ((42 + (sy_i F 69).toInt)).toNat 0) + ((1 : Int32)))) (58 : Int).toNat (((jm_upd (sy_ai F 55) ((42 + (sy_i F 69).toInt)).toNat (((sy_ai F 55).getD ((42 + (sy_i F 69).toInt)).toNat 0) + ((1 : Int32)))).getD (58 : Int).toNat 0) + ((1 : Int32)))) (59 : Int).toNat (((jm_upd (jm_upd (sy_ai F 55) ((42 + (sy_i F 69).toInt)).toNat (((sy_ai F 55).getD ((42 + (sy_i F 69).toInt)).toNat 0) + ((1 : Int32)))) (58 : Int).toNat (((jm_upd (sy_ai F 55) ((42 + (sy_i F 69).toInt)).toNat (((sy_ai F 55).getD ((42 + (sy_i F 69).toInt)).toNat 0) + ((1 : Int32)))).getD (58 : Int).toNat 0) + ((1 : Int32)))).getD (59 : Int).toNat 0) + ((1 : Int32)))).getD (60 : Int).toNat 0) + ((sy_ai F 39).getD ((sy_i F 11).toInt).toNat 0)) := by simp only [nz_c, (nzE n86), (by decide : ((1 : Int32)).toInt = 1), (by decide : ((42 : Int32)).toInt = 42), (by decide : ((58 : Int32)).toInt = 58), (by decide : ((59 : Int32)).toInt = 59), (by decide : ((60 : Int32)).toInt = 60)]
  exact zsh_82_p1 hd F X1 X2 hB (by first | exact g0 | (simp only [nz_c]; exact g0) | (rw [(nzE n85)]; exact g0)) (by first | (simp only [nz_c, (nzE n86)]; exact ⟨by omega, by omega⟩) | exact ⟨by omega, by omega⟩ | (rw [(nzE n86)]; exact ⟨by omega, by omega⟩)) (by first | (simp only [nz_c, (nzE n86)]; exact ⟨by omega, by omega⟩) | exact ⟨by omega, by omega⟩ | (rw [(nzE n86)]; exact ⟨by omega, by omega⟩)) (by first | exact ⟨by omega, by omega⟩ | (simp only [nz_c]; exact ⟨by omega, by omega⟩)) (fun F1 g e55 e69 => k1 g0 F1 (nz_in hB [55] (fun j hj hn => g j hj (by simp only [List.mem_cons, List.not_mem_nil, or_false, not_or] at hn; omega)) (List.forall_mem_cons.mpr ⟨fun t ht => (Option.some.inj ht) ▸ (nz_hz2 e55), List.forall_mem_nil _⟩)) (fun j hj hn => g j hj (by simp only [List.mem_cons, List.not_mem_nil, or_false, not_or] at hn; omega)) ((zz_ai e55).trans w99) ((congrArg Int32.toInt (zz_i e69)).trans (by decide : ((1 : Int32)).toInt = 1)) ((zz_i e69).trans (rfl : (1 : Int32) = (1 : Int32))))
theorem zsh_168_p0 {Ls : Nat} {xs : Nat → Int32} {d : Nat} {Q : Option Value → jm_h → Prop} (hd : 1 ≤ d) (F : Nat → sy_d) (X1 X2 : List jm_c) (hB : iv_in F iv_B4)
    (h0 : (sy_i F 69).toInt = 0)
    (k : ∀ F1 : Nat → sy_d, (∀ j, j < 69 → True → F1 j = F j) → Q (some (.int ((0 : Int32)))) (sy_dh F1 X1 X2 (iv_H 4))) :
    hd_W Ls xs d jm_M203 Q (168, sy_dL F [some (.inl (.ref 1000)), none, none, some (.inr (.inl 69)), none], sy_dS F [], sy_dh F X1 X2 (iv_H 4), 0, 0) := by
  refine hd_ret (s := 4) (nv := 70) (v := some (.inl (.int 0))) (uh := hd_ov (iv_id 0 iv_B4) []) (f := false) (sp := []) (d0 := 0) (O := [true]) (T := []) (P := [(0, .inr (.inl 69), .inl (.int 0))]) jm_ok203 (by decide +kernel) (by decide +kernel) hd F X1 X2 (fun F' hF hs => ?_)
  have b69 := hd_b (F := F) (F' := F') (k := 69) (hF 69 (by decide))
  have hB' : iv_in F' iv_B4 := iv_in_eq hB (fun j hj => hF j (Nat.lt_of_lt_of_le hj (by decide +kernel)))
  refine ⟨List.forall_mem_cons.mpr ⟨hd_p0 b69 rfl (by have hc : ((0) : Int32).toInt = 0 := (by decide); omega), fun _ h => absurd h List.not_mem_nil⟩, ?_⟩
  refine k _ ?_
  · exact fun j hj _ => (hd_keep hB' (Nat.lt_of_lt_of_le hj (by decide +kernel)) (by simp)).trans (hF j (Nat.lt_of_lt_of_le hj (by decide)))
theorem zsh_168_p1 {Ls : Nat} {xs : Nat → Int32} {d : Nat} {Q : Option Value → jm_h → Prop} (hd : 1 ≤ d) (F : Nat → sy_d) (X1 X2 : List jm_c) (hB : iv_in F iv_B4)
    (h0 : (sy_i F 69).toInt ≠ 0)
    (k : ∀ F1 : Nat → sy_d, (∀ j, j < 69 → True → F1 j = F j) → Q (some (.int ((1 : Int32)))) (sy_dh F1 X1 X2 (iv_H 4))) :
    hd_W Ls xs d jm_M203 Q (168, sy_dL F [some (.inl (.ref 1000)), none, none, some (.inr (.inl 69)), none], sy_dS F [], sy_dh F X1 X2 (iv_H 4), 0, 0) := by
  refine hd_ret (s := 4) (nv := 70) (v := some (.inl (.int 1))) (uh := hd_ov (iv_id 0 iv_B4) []) (f := false) (sp := []) (d0 := 0) (O := [false]) (T := []) (P := [(1, .inr (.inl 69), .inl (.int 0))]) jm_ok203 (by decide +kernel) (by decide +kernel) hd F X1 X2 (fun F' hF hs => ?_)
  have b69 := hd_b (F := F) (F' := F') (k := 69) (hF 69 (by decide))
  have hB' : iv_in F' iv_B4 := iv_in_eq hB (fun j hj => hF j (Nat.lt_of_lt_of_le hj (by decide +kernel)))
  refine ⟨List.forall_mem_cons.mpr ⟨hd_p1 b69 rfl (by have hc : ((0) : Int32).toInt = 0 := (by decide); omega), fun _ h => absurd h List.not_mem_nil⟩, ?_⟩
  refine k _ ?_
  · exact fun j hj _ => (hd_keep hB' (Nat.lt_of_lt_of_le hj (by decide +kernel)) (by simp)).trans (hF j (Nat.lt_of_lt_of_le hj (by decide)))
theorem zsh_168 {Ls : Nat} {xs : Nat → Int32} {d : Nat} {Q : Option Value → jm_h → Prop} (hd : 1 ≤ d) (F : Nat → sy_d) (X1 X2 : List jm_c) (hB : iv_in F iv_B4)
    (k0 : (sy_i F 69).toInt = 0 → ∀ F1 : Nat → sy_d, iv_in F1 iv_B4 → (∀ j, j < 69 → j ∉ ([] : List Nat) → F1 j = F j) → Q (some (.int ((0 : Int32)))) (sy_dh F1 X1 X2 (iv_H 4)))
    (k1 : (sy_i F 69).toInt ≠ 0 → ∀ F1 : Nat → sy_d, iv_in F1 iv_B4 → (∀ j, j < 69 → j ∉ ([] : List Nat) → F1 j = F j) → Q (some (.int ((1 : Int32)))) (sy_dh F1 X1 X2 (iv_H 4))) :
    hd_W Ls xs d jm_M203 Q (168, sy_dL F [some (.inl (.ref 1000)), none, none, some (.inr (.inl 69)), none], sy_dS F [], sy_dh F X1 X2 (iv_H 4), 0, 0) := by
  by_cases g0 : (sy_i F 69).toInt = 0
  · exact zsh_168_p0 hd F X1 X2 hB (by first | exact g0 | (simp only [nz_c]; exact g0)) (fun F1 g  => k0 g0 F1 (nz_in hB [] (fun j hj hn => g j hj (by simp only [List.mem_cons, List.not_mem_nil, or_false, not_or] at hn; exact trivial)) (List.forall_mem_nil _)) (fun j hj hn => g j hj (by simp only [List.mem_cons, List.not_mem_nil, or_false, not_or] at hn; exact trivial)) )
  replace g0 : (sy_i F 69).toInt ≠ 0 := by omega
  exact zsh_168_p1 hd F X1 X2 hB (by first | exact g0 | (simp only [nz_c]; exact g0)) (fun F1 g  => k1 g0 F1 (nz_in hB [] (fun j hj hn => g j hj (by simp only [List.mem_cons, List.not_mem_nil, or_false, not_or] at hn; exact trivial)) (List.forall_mem_nil _)) (fun j hj hn => g j hj (by simp only [List.mem_cons, List.not_mem_nil, or_false, not_or] at hn; exact trivial)) )
theorem zho_0_p0 {Ls : Nat} {xs : Nat → Int32} {d : Nat} {Q : Option Value → jm_h → Prop} (hd : 2 ≤ d) (F : Nat → sy_d) (X1 X2 : List jm_c) (hB : iv_in F iv_B4)
    (h0 : (sy_i F 69).toInt < 0)
    (k : ∀ F1 : Nat → sy_d, (∀ j, j < 69 → True → F1 j = F j) → Q (some (.int (((-1) : Int32)))) (sy_dh F1 X1 X2 (iv_H 4))) :
    hd_W Ls xs d jm_M204 Q (0, sy_dL F [some (.inl (.ref 1000)), some (.inr (.inl 69))], sy_dS F [], sy_dh F X1 X2 (iv_H 4), 0, 0) := by
  refine hd_ret (s := 4) (nv := 70) (v := some (.inl (.int (-1)))) (uh := hd_ov (iv_id 0 iv_B4) []) (f := true) (sp := [25]) (d0 := 1) (O := [true]) (T := []) (P := [(2, .inr (.inl 69), .inl (.int 0))]) jm_ok204 (by decide +kernel) (by decide +kernel) hd F X1 X2 (fun F' hF hs => ?_)
  have b69 := hd_b (F := F) (F' := F') (k := 69) (hF 69 (by decide))
  have hB' : iv_in F' iv_B4 := iv_in_eq hB (fun j hj => hF j (Nat.lt_of_lt_of_le hj (by decide +kernel)))
  refine ⟨List.forall_mem_cons.mpr ⟨hd_p2 b69 rfl (by have hc : ((0) : Int32).toInt = 0 := (by decide); omega), fun _ h => absurd h List.not_mem_nil⟩, ?_⟩
  refine k _ ?_
  · exact fun j hj _ => (hd_keep hB' (Nat.lt_of_lt_of_le hj (by decide +kernel)) (by simp)).trans (hF j (Nat.lt_of_lt_of_le hj (by decide)))
theorem zho_0_p1 {Ls : Nat} {xs : Nat → Int32} {d : Nat} {Q : Option Value → jm_h → Prop} (hd : 2 ≤ d) (F : Nat → sy_d) (X1 X2 : List jm_c) (hB : iv_in F iv_B4)
    (h0 : 0 ≤ (sy_i F 69).toInt)
    (h1 : 48 < (sy_i F 69).toInt)
    (k : ∀ F1 : Nat → sy_d, (∀ j, j < 69 → True → F1 j = F j) → Q (some (.int (((-1) : Int32)))) (sy_dh F1 X1 X2 (iv_H 4))) :
    hd_W Ls xs d jm_M204 Q (0, sy_dL F [some (.inl (.ref 1000)), some (.inr (.inl 69))], sy_dS F [], sy_dh F X1 X2 (iv_H 4), 0, 0) := by
  refine hd_ret (s := 4) (nv := 70) (v := some (.inl (.int (-1)))) (uh := hd_ov (iv_id 0 iv_B4) []) (f := true) (sp := [25]) (d0 := 1) (O := [false, true]) (T := []) (P := [(3, .inr (.inl 69), .inl (.int 0)), (2, .inl (.int 48), .inr (.inl 69))]) jm_ok204 (by decide +kernel) (by decide +kernel) hd F X1 X2 (fun F' hF hs => ?_)
  have b69 := hd_b (F := F) (F' := F') (k := 69) (hF 69 (by decide))
  have hB' : iv_in F' iv_B4 := iv_in_eq hB (fun j hj => hF j (Nat.lt_of_lt_of_le hj (by decide +kernel)))
  refine ⟨List.forall_mem_cons.mpr ⟨hd_p3 b69 rfl (by have hc : ((0) : Int32).toInt = 0 := (by decide); omega), List.forall_mem_cons.mpr ⟨hd_p2 rfl b69 (by have hc : ((48) : Int32).toInt = 48 := (by decide); omega), fun _ h => absurd h List.not_mem_nil⟩⟩, ?_⟩
  refine k _ ?_
  · exact fun j hj _ => (hd_keep hB' (Nat.lt_of_lt_of_le hj (by decide +kernel)) (by simp)).trans (hF j (Nat.lt_of_lt_of_le hj (by decide)))
theorem zho_0_p2 {Ls : Nat} {xs : Nat → Int32} {d : Nat} {Q : Option Value → jm_h → Prop} (hd : 2 ≤ d) (F : Nat → sy_d) (X1 X2 : List jm_c) (hB : iv_in F iv_B4)
    (h0 : 0 ≤ (sy_i F 69).toInt)
    (h1 : (sy_i F 69).toInt ≤ 48)
    (h2 : (sy_i F 69).toInt ≠ 0)
    (k : ∀ F1 : Nat → sy_d, (∀ j, j < 69 → True → F1 j = F j) → F1 69 = .inl (.int (sy_i F 69)) → hd_W Ls xs d jm_M204 Q (25, sy_dL F1 [some (.inl (.ref 1000)), some (.inr (.inl 69))], sy_dS F1 [.inl (.ref 1000)], sy_dh F1 X1 X2 (iv_H 4), 0, 0)) :
    hd_W Ls xs d jm_M204 Q (0, sy_dL F [some (.inl (.ref 1000)), some (.inr (.inl 69))], sy_dS F [], sy_dh F X1 X2 (iv_H 4), 0, 0) := by
  refine hd_run (s := 4) (nv := 70) (pc := 25) (L := [some (.inl (.ref 1000)), some (.inr (.inl 69))]) (S := [.inl (.ref 1000)]) (uh := hd_ov (iv_id 0 iv_B4) []) (ul := [.inl (.inr (.inl 69))]) (f := true) (sp := [25]) (d0 := 1) (O := [false, false, true]) (T := []) (P := [(3, .inr (.inl 69), .inl (.int 0)), (3, .inl (.int 48), .inr (.inl 69)), (1, .inr (.inl 69), .inl (.int 0))]) jm_ok204 (by decide +kernel) (by decide +kernel) hd F X1 X2 (fun F' hF hs => ?_)
  have b69 := hd_b (F := F) (F' := F') (k := 69) (hF 69 (by decide))
  have hB' : iv_in F' iv_B4 := iv_in_eq hB (fun j hj => hF j (Nat.lt_of_lt_of_le hj (by decide +kernel)))
  refine ⟨List.forall_mem_cons.mpr ⟨hd_p3 b69 rfl (by have hc : ((0) : Int32).toInt = 0 := (by decide); omega), List.forall_mem_cons.mpr ⟨hd_p3 rfl b69 (by have hc : ((48) : Int32).toInt = 48 := (by decide); omega), List.forall_mem_cons.mpr ⟨hd_p1 b69 rfl (by have hc : ((0) : Int32).toInt = 0 := (by decide); omega), fun _ h => absurd h List.not_mem_nil⟩⟩⟩, ?_⟩
  refine k _ ?_ ?_
  · exact fun j hj _ => (hd_keep hB' (Nat.lt_of_lt_of_le hj (by decide +kernel)) (by simp)).trans (hF j (Nat.lt_of_lt_of_le hj (by decide)))
  · exact hd_gi (x := .inr (.inl 69)) (by decide +kernel) b69
theorem zho_0_p3 {Ls : Nat} {xs : Nat → Int32} {d : Nat} {Q : Option Value → jm_h → Prop} (hd : 2 ≤ d) (F : Nat → sy_d) (X1 X2 : List jm_c) (hB : iv_in F iv_B4)
    (h0 : 0 ≤ (sy_i F 69).toInt)
    (h1 : (sy_i F 69).toInt ≤ 48)
    (h2 : (sy_i F 69).toInt = 0)
    (k : ∀ F1 : Nat → sy_d, (∀ j, j < 69 → True → F1 j = F j) → Q (some (.int ((sy_ai F 54).getD ((57 : Int32)).toNatClampNeg 0))) (sy_dh F1 X1 X2 (iv_H 4))) :
    hd_W Ls xs d jm_M204 Q (0, sy_dL F [some (.inl (.ref 1000)), some (.inr (.inl 69))], sy_dS F [], sy_dh F X1 X2 (iv_H 4), 0, 0) := by
  refine hd_ret (s := 4) (nv := 70) (v := some (.inr (.inl 70))) (uh := hd_ov (iv_id 0 iv_B4) []) (f := true) (sp := [25]) (d0 := 1) (O := [false, false, false]) (T := [(30, [.inl (.int 57)], [.inr (.inl 54)])]) (P := [(3, .inr (.inl 69), .inl (.int 0)), (3, .inl (.int 48), .inr (.inl 69)), (0, .inr (.inl 69), .inl (.int 0))]) jm_ok204 (by decide +kernel) (by decide +kernel) hd F X1 X2 (fun F' hF hs => ?_)
  have b69 := hd_b (F := F) (F' := F') (k := 69) (hF 69 (by decide))
  have a54 := hd_ba (F := F) (F' := F') (k := 54) (hF 54 (by decide))
  have t70 : sy_dv F' (.inr (.inl 70)) = .int ((sy_ai F 54).getD ((57 : Int32)).toNatClampNeg 0) := hd_rd (hs 0 _ rfl) rfl a54
  have hB' : iv_in F' iv_B4 := iv_in_eq hB (fun j hj => hF j (Nat.lt_of_lt_of_le hj (by decide +kernel)))
  have hk := k (sy_cm F' (hd_ov (iv_id 0 iv_B4) [] ++ [])) (fun j hj _ => (hd_keep hB' (Nat.lt_of_lt_of_le hj (by decide +kernel)) (by simp)).trans (hF j (Nat.lt_of_lt_of_le hj (by decide))))
  refine ⟨List.forall_mem_cons.mpr ⟨hd_p3 b69 rfl (by have hc : ((0) : Int32).toInt = 0 := (by decide); omega), List.forall_mem_cons.mpr ⟨hd_p3 rfl b69 (by have hc : ((48) : Int32).toInt = 48 := (by decide); omega), List.forall_mem_cons.mpr ⟨hd_p0 b69 rfl (by have hc : ((0) : Int32).toInt = 0 := (by decide); omega), fun _ h => absurd h List.not_mem_nil⟩⟩⟩, ?_⟩
  show Q (some (sy_dv F' (.inr (.inl 70)))) _
  rw [t70]
  exact hk
theorem zho_0 {Ls : Nat} {xs : Nat → Int32} {d : Nat} {Q : Option Value → jm_h → Prop} (hd : 2 ≤ d) (F : Nat → sy_d) (X1 X2 : List jm_c) (hB : iv_in F iv_B4)
    (k0 : (sy_i F 69).toInt < 0 → ∀ F1 : Nat → sy_d, iv_in F1 iv_B4 → (∀ j, j < 69 → j ∉ ([] : List Nat) → F1 j = F j) → Q (some (.int (((-1) : Int32)))) (sy_dh F1 X1 X2 (iv_H 4)))
    (k1 : 0 ≤ (sy_i F 69).toInt → 48 < (sy_i F 69).toInt → ∀ F1 : Nat → sy_d, iv_in F1 iv_B4 → (∀ j, j < 69 → j ∉ ([] : List Nat) → F1 j = F j) → Q (some (.int (((-1) : Int32)))) (sy_dh F1 X1 X2 (iv_H 4)))
    (k2 : 0 ≤ (sy_i F 69).toInt → (sy_i F 69).toInt ≤ 48 → (sy_i F 69).toInt ≠ 0 → ∀ F1 : Nat → sy_d, iv_in F1 iv_B4 → (∀ j, j < 69 → j ∉ ([] : List Nat) → F1 j = F j) → (sy_i F1 69).toInt = (sy_i F 69).toInt → sy_i F1 69 = sy_i F 69 → hd_W Ls xs d jm_M204 Q (25, sy_dL F1 [some (.inl (.ref 1000)), some (.inr (.inl 69))], sy_dS F1 [.inl (.ref 1000)], sy_dh F1 X1 X2 (iv_H 4), 0, 0))
    (k3 : 0 ≤ (sy_i F 69).toInt → (sy_i F 69).toInt ≤ 48 → (sy_i F 69).toInt = 0 → ∀ F1 : Nat → sy_d, iv_in F1 iv_B4 → (∀ j, j < 69 → j ∉ ([] : List Nat) → F1 j = F j) → Q (some (.int ((sy_ai F 54).getD (57 : Int).toNat 0))) (sy_dh F1 X1 X2 (iv_H 4))) :
    hd_W Ls xs d jm_M204 Q (0, sy_dL F [some (.inl (.ref 1000)), some (.inr (.inl 69))], sy_dS F [], sy_dh F X1 X2 (iv_H 4), 0, 0) := by
  by_cases g0 : (sy_i F 69).toInt < 0
  · exact zho_0_p0 hd F X1 X2 hB (by first | exact g0 | (simp only [nz_c]; exact g0)) (fun F1 g  => k0 g0 F1 (nz_in hB [] (fun j hj hn => g j hj (by simp only [List.mem_cons, List.not_mem_nil, or_false, not_or] at hn; exact trivial)) (List.forall_mem_nil _)) (fun j hj hn => g j hj (by simp only [List.mem_cons, List.not_mem_nil, or_false, not_or] at hn; exact trivial)) )
  replace g0 : 0 ≤ (sy_i F 69).toInt := by omega
  by_cases g1 : 48 < (sy_i F 69).toInt
  · exact zho_0_p1 hd F X1 X2 hB (by first | exact g0 | (simp only [nz_c]; exact g0)) (by first | exact g1 | (simp only [nz_c]; exact g1)) (fun F1 g  => k1 g0 g1 F1 (nz_in hB [] (fun j hj hn => g j hj (by simp only [List.mem_cons, List.not_mem_nil, or_false, not_or] at hn; exact trivial)) (List.forall_mem_nil _)) (fun j hj hn => g j hj (by simp only [List.mem_cons, List.not_mem_nil, or_false, not_or] at hn; exact trivial)) )
  replace g1 : (sy_i F 69).toInt ≤ 48 := by omega
  by_cases g2 : (sy_i F 69).toInt ≠ 0
  · exact zho_0_p2 hd F X1 X2 hB (by first | exact g0 | (simp only [nz_c]; exact g0)) (by first | exact g1 | (simp only [nz_c]; exact g1)) (by first | exact g2 | (simp only [nz_c]; exact g2)) (fun F1 g e69 => k2 g0 g1 g2 F1 (nz_in hB [] (fun j hj hn => g j hj (by simp only [List.mem_cons, List.not_mem_nil, or_false, not_or] at hn; exact trivial)) (List.forall_mem_nil _)) (fun j hj hn => g j hj (by simp only [List.mem_cons, List.not_mem_nil, or_false, not_or] at hn; exact trivial)) ((congrArg Int32.toInt (zz_i e69)).trans (rfl : (sy_i F 69).toInt = (sy_i F 69).toInt)) ((zz_i e69).trans (rfl : sy_i F 69 = sy_i F 69)))
  replace g2 : (sy_i F 69).toInt = 0 := by omega
  have q70 : (sy_ai F 54).getD ((57 : Int32)).toNatClampNeg 0 = (sy_ai F 54).getD (57 : Int).toNat 0 := by simp only [nz_c, (by decide : ((57 : Int32)).toInt = 57)]
  exact zho_0_p3 hd F X1 X2 hB (by first | exact g0 | (simp only [nz_c]; exact g0)) (by first | exact g1 | (simp only [nz_c]; exact g1)) (by first | exact g2 | (simp only [nz_c]; exact g2)) (fun F1 g  => by rw [q70]; exact k3 g0 g1 g2 F1 (nz_in hB [] (fun j hj hn => g j hj (by simp only [List.mem_cons, List.not_mem_nil, or_false, not_or] at hn; exact trivial)) (List.forall_mem_nil _)) (fun j hj hn => g j hj (by simp only [List.mem_cons, List.not_mem_nil, or_false, not_or] at hn; exact trivial)) )
theorem zho_28_p0 {Ls : Nat} {xs : Nat → Int32} {d : Nat} {Q : Option Value → jm_h → Prop} (hd : 1 ≤ d) (F : Nat → sy_d) (X1 X2 : List jm_c) (hB : iv_in F iv_B4)
    (k : ∀ F1 : Nat → sy_d, (∀ j, j < 69 → True → F1 j = F j) → F1 69 = .inl (.int (sy_i F 69)) → hd_W Ls xs d jm_M204 Q (30, sy_dL F1 [some (.inl (.ref 1000)), some (.inr (.inl 69))], sy_dS F1 [.inr (.inl 69), .inl (.ref 1000)], sy_dh F1 X1 X2 (iv_H 4), 0, 0)) :
    hd_W Ls xs d jm_M204 Q (28, sy_dL F [some (.inl (.ref 1000)), some (.inr (.inl 69))], sy_dS F [], sy_dh F X1 X2 (iv_H 4), 0, 0) := by
  refine hd_run (s := 4) (nv := 70) (pc := 30) (L := [some (.inl (.ref 1000)), some (.inr (.inl 69))]) (S := [.inr (.inl 69), .inl (.ref 1000)]) (uh := hd_ov (iv_id 0 iv_B4) []) (ul := [.inl (.inr (.inl 69))]) (f := false) (sp := [30]) (d0 := 0) (O := []) (T := []) (P := []) jm_ok204 (by decide +kernel) (by decide +kernel) hd F X1 X2 (fun F' hF hs => ?_)
  have b69 := hd_b (F := F) (F' := F') (k := 69) (hF 69 (by decide))
  have hB' : iv_in F' iv_B4 := iv_in_eq hB (fun j hj => hF j (Nat.lt_of_lt_of_le hj (by decide +kernel)))
  refine ⟨fun _ h => absurd h List.not_mem_nil, ?_⟩
  refine k _ ?_ ?_
  · exact fun j hj _ => (hd_keep hB' (Nat.lt_of_lt_of_le hj (by decide +kernel)) (by simp)).trans (hF j (Nat.lt_of_lt_of_le hj (by decide)))
  · exact hd_gi (x := .inr (.inl 69)) (by decide +kernel) b69
theorem zho_28 {Ls : Nat} {xs : Nat → Int32} {d : Nat} {Q : Option Value → jm_h → Prop} (hd : 1 ≤ d) (F : Nat → sy_d) (X1 X2 : List jm_c) (hB : iv_in F iv_B4)
    (k0 : ∀ F1 : Nat → sy_d, iv_in F1 iv_B4 → (∀ j, j < 69 → j ∉ ([] : List Nat) → F1 j = F j) → (sy_i F1 69).toInt = (sy_i F 69).toInt → sy_i F1 69 = sy_i F 69 → hd_W Ls xs d jm_M204 Q (30, sy_dL F1 [some (.inl (.ref 1000)), some (.inr (.inl 69))], sy_dS F1 [.inr (.inl 69), .inl (.ref 1000)], sy_dh F1 X1 X2 (iv_H 4), 0, 0)) :
    hd_W Ls xs d jm_M204 Q (28, sy_dL F [some (.inl (.ref 1000)), some (.inr (.inl 69))], sy_dS F [], sy_dh F X1 X2 (iv_H 4), 0, 0) := by
  exact zho_28_p0 hd F X1 X2 hB  (fun F1 g e69 => k0 F1 (nz_in hB [] (fun j hj hn => g j hj (by simp only [List.mem_cons, List.not_mem_nil, or_false, not_or] at hn; exact trivial)) (List.forall_mem_nil _)) (fun j hj hn => g j hj (by simp only [List.mem_cons, List.not_mem_nil, or_false, not_or] at hn; exact trivial)) ((congrArg Int32.toInt (zz_i e69)).trans (rfl : (sy_i F 69).toInt = (sy_i F 69).toInt)) ((zz_i e69).trans (rfl : sy_i F 69 = sy_i F 69)))
theorem zho_33_p0 {Ls : Nat} {xs : Nat → Int32} {d : Nat} {Q : Option Value → jm_h → Prop} (hd : 1 ≤ d) (F : Nat → sy_d) (X1 X2 : List jm_c) (hB : iv_in F iv_B4)
    (k : ∀ F1 : Nat → sy_d, (∀ j, j < 69 → True → F1 j = F j) → F1 69 = .inl (.int (sy_i F 69)) → hd_W Ls xs d jm_M204 Q (34, sy_dL F1 [some (.inl (.ref 1000)), some (.inr (.inl 69))], sy_dS F1 [.inl (.ref 1000)], sy_dh F1 X1 X2 (iv_H 4), 0, 0)) :
    hd_W Ls xs d jm_M204 Q (33, sy_dL F [some (.inl (.ref 1000)), some (.inr (.inl 69))], sy_dS F [], sy_dh F X1 X2 (iv_H 4), 0, 0) := by
  refine hd_run (s := 4) (nv := 70) (pc := 34) (L := [some (.inl (.ref 1000)), some (.inr (.inl 69))]) (S := [.inl (.ref 1000)]) (uh := hd_ov (iv_id 0 iv_B4) []) (ul := [.inl (.inr (.inl 69))]) (f := false) (sp := [34]) (d0 := 0) (O := []) (T := []) (P := []) jm_ok204 (by decide +kernel) (by decide +kernel) hd F X1 X2 (fun F' hF hs => ?_)
  have b69 := hd_b (F := F) (F' := F') (k := 69) (hF 69 (by decide))
  have hB' : iv_in F' iv_B4 := iv_in_eq hB (fun j hj => hF j (Nat.lt_of_lt_of_le hj (by decide +kernel)))
  refine ⟨fun _ h => absurd h List.not_mem_nil, ?_⟩
  refine k _ ?_ ?_
  · exact fun j hj _ => (hd_keep hB' (Nat.lt_of_lt_of_le hj (by decide +kernel)) (by simp)).trans (hF j (Nat.lt_of_lt_of_le hj (by decide)))
  · exact hd_gi (x := .inr (.inl 69)) (by decide +kernel) b69
theorem zho_33 {Ls : Nat} {xs : Nat → Int32} {d : Nat} {Q : Option Value → jm_h → Prop} (hd : 1 ≤ d) (F : Nat → sy_d) (X1 X2 : List jm_c) (hB : iv_in F iv_B4)
    (k0 : ∀ F1 : Nat → sy_d, iv_in F1 iv_B4 → (∀ j, j < 69 → j ∉ ([] : List Nat) → F1 j = F j) → (sy_i F1 69).toInt = (sy_i F 69).toInt → sy_i F1 69 = sy_i F 69 → hd_W Ls xs d jm_M204 Q (34, sy_dL F1 [some (.inl (.ref 1000)), some (.inr (.inl 69))], sy_dS F1 [.inl (.ref 1000)], sy_dh F1 X1 X2 (iv_H 4), 0, 0)) :
    hd_W Ls xs d jm_M204 Q (33, sy_dL F [some (.inl (.ref 1000)), some (.inr (.inl 69))], sy_dS F [], sy_dh F X1 X2 (iv_H 4), 0, 0) := by
  exact zho_33_p0 hd F X1 X2 hB  (fun F1 g e69 => k0 F1 (nz_in hB [] (fun j hj hn => g j hj (by simp only [List.mem_cons, List.not_mem_nil, or_false, not_or] at hn; exact trivial)) (List.forall_mem_nil _)) (fun j hj hn => g j hj (by simp only [List.mem_cons, List.not_mem_nil, or_false, not_or] at hn; exact trivial)) ((congrArg Int32.toInt (zz_i e69)).trans (rfl : (sy_i F 69).toInt = (sy_i F 69).toInt)) ((zz_i e69).trans (rfl : sy_i F 69 = sy_i F 69)))
theorem zho_37_p0 {Ls : Nat} {xs : Nat → Int32} {d : Nat} {Q : Option Value → jm_h → Prop} (hd : 1 ≤ d) (F : Nat → sy_d) (X1 X2 : List jm_c) (hB : iv_in F iv_B4)
    (k : ∀ F1 : Nat → sy_d, (∀ j, j < 69 → True → F1 j = F j) → Q (some (.int ((sy_ai F 54).getD ((57 : Int32)).toNatClampNeg 0))) (sy_dh F1 X1 X2 (iv_H 4))) :
    hd_W Ls xs d jm_M204 Q (37, sy_dL F [some (.inl (.ref 1000)), some (.inr (.inl 69))], sy_dS F [], sy_dh F X1 X2 (iv_H 4), 0, 0) := by
  refine hd_ret (s := 4) (nv := 70) (v := some (.inr (.inl 70))) (uh := hd_ov (iv_id 0 iv_B4) []) (f := false) (sp := []) (d0 := 0) (O := []) (T := [(30, [.inl (.int 57)], [.inr (.inl 54)])]) (P := []) jm_ok204 (by decide +kernel) (by decide +kernel) hd F X1 X2 (fun F' hF hs => ?_)
  have a54 := hd_ba (F := F) (F' := F') (k := 54) (hF 54 (by decide))
  have t70 : sy_dv F' (.inr (.inl 70)) = .int ((sy_ai F 54).getD ((57 : Int32)).toNatClampNeg 0) := hd_rd (hs 0 _ rfl) rfl a54
  have hB' : iv_in F' iv_B4 := iv_in_eq hB (fun j hj => hF j (Nat.lt_of_lt_of_le hj (by decide +kernel)))
  have hk := k (sy_cm F' (hd_ov (iv_id 0 iv_B4) [] ++ [])) (fun j hj _ => (hd_keep hB' (Nat.lt_of_lt_of_le hj (by decide +kernel)) (by simp)).trans (hF j (Nat.lt_of_lt_of_le hj (by decide))))
  refine ⟨fun _ h => absurd h List.not_mem_nil, ?_⟩
  show Q (some (sy_dv F' (.inr (.inl 70)))) _
  rw [t70]
  exact hk
theorem zho_37 {Ls : Nat} {xs : Nat → Int32} {d : Nat} {Q : Option Value → jm_h → Prop} (hd : 1 ≤ d) (F : Nat → sy_d) (X1 X2 : List jm_c) (hB : iv_in F iv_B4)
    (k0 : ∀ F1 : Nat → sy_d, iv_in F1 iv_B4 → (∀ j, j < 69 → j ∉ ([] : List Nat) → F1 j = F j) → Q (some (.int ((sy_ai F 54).getD (57 : Int).toNat 0))) (sy_dh F1 X1 X2 (iv_H 4))) :
    hd_W Ls xs d jm_M204 Q (37, sy_dL F [some (.inl (.ref 1000)), some (.inr (.inl 69))], sy_dS F [], sy_dh F X1 X2 (iv_H 4), 0, 0) := by
  have q70 : (sy_ai F 54).getD ((57 : Int32)).toNatClampNeg 0 = (sy_ai F 54).getD (57 : Int).toNat 0 := by simp only [nz_c, (by decide : ((57 : Int32)).toInt = 57)]
  exact zho_37_p0 hd F X1 X2 hB  (fun F1 g  => by rw [q70]; exact k0 F1 (nz_in hB [] (fun j hj hn => g j hj (by simp only [List.mem_cons, List.not_mem_nil, or_false, not_or] at hn; exact trivial)) (List.forall_mem_nil _)) (fun j hj hn => g j hj (by simp only [List.mem_cons, List.not_mem_nil, or_false, not_or] at hn; exact trivial)) )
theorem zun_0_p0 {Ls : Nat} {xs : Nat → Int32} {d : Nat} {Q : Option Value → jm_h → Prop} (hd : 1 ≤ d) (F : Nat → sy_d) (X1 X2 : List jm_c) (hB : iv_in F iv_B4)
    (h0 : (sy_i F 20).toInt ≠ 0)
    (k : ∀ F1 : Nat → sy_d, (∀ j, j < 69 → j ≠ 20 → F1 j = F j) → F1 20 = .inl (.int ((sy_i F 20) - ((1 : Int32)))) → F1 69 = .inl (.int ((0 : Int32))) → hd_W Ls xs d jm_M205 Q (21, sy_dL F1 [some (.inl (.ref 1000)), some (.inr (.inl 69))], sy_dS F1 [], sy_dh F1 X1 X2 (iv_H 4), 0, 0)) :
    hd_W Ls xs d jm_M205 Q (0, sy_dL F [some (.inl (.ref 1000)), none], sy_dS F [], sy_dh F X1 X2 (iv_H 4), 0, 0) := by
  refine hd_run (s := 4) (nv := 69) (pc := 21) (L := [some (.inl (.ref 1000)), some (.inr (.inl 69))]) (S := []) (uh := hd_ov (iv_id 0 iv_B4) [(20, .inl (.inr (.inl 69)))]) (ul := [.inl (.inl (.int 0))]) (f := true) (sp := [21]) (d0 := 0) (O := [true]) (T := [(1, [.inr (.inl 20), .inl (.int 1)], [])]) (P := [(1, .inr (.inl 20), .inl (.int 0))]) jm_ok205 (by decide +kernel) (by decide +kernel) hd F X1 X2 (fun F' hF hs => ?_)
  have b20 := hd_b (F := F) (F' := F') (k := 20) (hF 20 (by decide))
  have t69 : sy_dv F' (.inr (.inl 69)) = .int ((sy_i F 20) - ((1 : Int32))) := hd_o (hs 0 _ rfl) b20 rfl rfl
  have hB' : iv_in F' iv_B4 := iv_in_eq hB (fun j hj => hF j (Nat.lt_of_lt_of_le hj (by decide +kernel)))
  refine ⟨List.forall_mem_cons.mpr ⟨hd_p1 b20 rfl (by have hc : ((0) : Int32).toInt = 0 := (by decide); omega), fun _ h => absurd h List.not_mem_nil⟩, ?_⟩
  refine k _ ?_ ?_ ?_
  · exact fun j hj hn => (hd_keep hB' (Nat.lt_of_lt_of_le hj (by decide +kernel)) (by simp; omega)).trans (hF j (Nat.lt_of_lt_of_le hj (by decide)))
  · exact hd_gi (x := .inr (.inl 69)) (by decide +kernel) t69
  · exact hd_gi (x := .inl (.int 0)) (by decide +kernel) rfl
theorem zun_0_p1 {Ls : Nat} {xs : Nat → Int32} {d : Nat} {Q : Option Value → jm_h → Prop} (hd : 1 ≤ d) (F : Nat → sy_d) (X1 X2 : List jm_c) (hB : iv_in F iv_B4)
    (h0 : (sy_i F 20).toInt = 0)
    (k : ∀ F1 : Nat → sy_d, (∀ j, j < 69 → True → F1 j = F j) → Q (some (.int ((0 : Int32)))) (sy_dh F1 X1 X2 (iv_H 4))) :
    hd_W Ls xs d jm_M205 Q (0, sy_dL F [some (.inl (.ref 1000)), none], sy_dS F [], sy_dh F X1 X2 (iv_H 4), 0, 0) := by
  refine hd_ret (s := 4) (nv := 69) (v := some (.inl (.int 0))) (uh := hd_ov (iv_id 0 iv_B4) []) (f := true) (sp := [21]) (d0 := 0) (O := [false]) (T := []) (P := [(0, .inr (.inl 20), .inl (.int 0))]) jm_ok205 (by decide +kernel) (by decide +kernel) hd F X1 X2 (fun F' hF hs => ?_)
  have b20 := hd_b (F := F) (F' := F') (k := 20) (hF 20 (by decide))
  have hB' : iv_in F' iv_B4 := iv_in_eq hB (fun j hj => hF j (Nat.lt_of_lt_of_le hj (by decide +kernel)))
  refine ⟨List.forall_mem_cons.mpr ⟨hd_p0 b20 rfl (by have hc : ((0) : Int32).toInt = 0 := (by decide); omega), fun _ h => absurd h List.not_mem_nil⟩, ?_⟩
  refine k _ ?_
  · exact fun j hj _ => (hd_keep hB' (Nat.lt_of_lt_of_le hj (by decide +kernel)) (by simp)).trans (hF j (Nat.lt_of_lt_of_le hj (by decide)))
theorem zun_0 {Ls : Nat} {xs : Nat → Int32} {d : Nat} {Q : Option Value → jm_h → Prop} (hd : 1 ≤ d) (F : Nat → sy_d) (X1 X2 : List jm_c) (hB : iv_in F iv_B4)
    (k0 : (sy_i F 20).toInt ≠ 0 → ∀ F1 : Nat → sy_d, iv_in F1 iv_B4 → (∀ j, j < 69 → j ∉ ([20] : List Nat) → F1 j = F j) → (sy_i F1 20).toInt = ((sy_i F 20).toInt - 1) → sy_i F1 20 = (sy_i F 20) - ((1 : Int32)) → (sy_i F1 69).toInt = 0 → sy_i F1 69 = (0 : Int32) → hd_W Ls xs d jm_M205 Q (21, sy_dL F1 [some (.inl (.ref 1000)), some (.inr (.inl 69))], sy_dS F1 [], sy_dh F1 X1 X2 (iv_H 4), 0, 0))
    (k1 : (sy_i F 20).toInt = 0 → ∀ F1 : Nat → sy_d, iv_in F1 iv_B4 → (∀ j, j < 69 → j ∉ ([] : List Nat) → F1 j = F j) → Q (some (.int ((0 : Int32)))) (sy_dh F1 X1 X2 (iv_H 4))) :
    hd_W Ls xs d jm_M205 Q (0, sy_dL F [some (.inl (.ref 1000)), none], sy_dS F [], sy_dh F X1 X2 (iv_H 4), 0, 0) := by
  by_cases g0 : (sy_i F 20).toInt ≠ 0
  · have c20 := nz_bx hB (k := 20) (lo := 0) (hi := 40) rfl
    have n69 : nzI ((sy_i F 20) - ((1 : Int32))) (((sy_i F 20).toInt - 1)) := nz_sub (rfl : (sy_i F 20).toInt = (sy_i F 20).toInt) (by decide : ((1 : Int32)).toInt = 1) (by omega) (by omega)
    exact zun_0_p0 hd F X1 X2 hB (by first | exact g0 | (simp only [nz_c]; exact g0)) (fun F1 g e20 e69 => k0 g0 F1 (nz_in hB [20] (fun j hj hn => g j hj (by simp only [List.mem_cons, List.not_mem_nil, or_false, not_or] at hn; omega)) (List.forall_mem_cons.mpr ⟨fun t ht => (Option.some.inj ht) ▸ (nz_hi e20 (nzE n69) (by omega) (by omega)), List.forall_mem_nil _⟩)) (fun j hj hn => g j hj (by simp only [List.mem_cons, List.not_mem_nil, or_false, not_or] at hn; omega)) ((congrArg Int32.toInt (zz_i e20)).trans (nzE n69)) ((zz_i e20).trans (rfl : (sy_i F 20) - ((1 : Int32)) = (sy_i F 20) - ((1 : Int32)))) ((congrArg Int32.toInt (zz_i e69)).trans (by decide : ((0 : Int32)).toInt = 0)) ((zz_i e69).trans (rfl : (0 : Int32) = (0 : Int32))))
  replace g0 : (sy_i F 20).toInt = 0 := by omega
  have c20 := nz_bx hB (k := 20) (lo := 0) (hi := 40) rfl
  exact zun_0_p1 hd F X1 X2 hB (by first | exact g0 | (simp only [nz_c]; exact g0)) (fun F1 g  => k1 g0 F1 (nz_in hB [] (fun j hj hn => g j hj (by simp only [List.mem_cons, List.not_mem_nil, or_false, not_or] at hn; exact trivial)) (List.forall_mem_nil _)) (fun j hj hn => g j hj (by simp only [List.mem_cons, List.not_mem_nil, or_false, not_or] at hn; exact trivial)) )
theorem zun_21_p0 {Ls : Nat} {xs : Nat → Int32} {d : Nat} {Q : Option Value → jm_h → Prop} (hd : 1 ≤ d) (F : Nat → sy_d) (X1 X2 : List jm_c) (hB : iv_in F iv_B4)
    (h0 : 61 ≤ (sy_i F 69).toInt)
    (k : ∀ F1 : Nat → sy_d, (∀ j, j < 69 → True → F1 j = F j) → Q (some (.int ((1 : Int32)))) (sy_dh F1 X1 X2 (iv_H 4))) :
    hd_W Ls xs d jm_M205 Q (21, sy_dL F [some (.inl (.ref 1000)), some (.inr (.inl 69))], sy_dS F [], sy_dh F X1 X2 (iv_H 4), 0, 0) := by
  refine hd_ret (s := 4) (nv := 70) (v := some (.inl (.int 1))) (uh := hd_ov (iv_id 0 iv_B4) []) (f := true) (sp := [21]) (d0 := 0) (O := [true]) (T := []) (P := [(4, .inl (.int 61), .inr (.inl 69))]) jm_ok205 (by decide +kernel) (by decide +kernel) hd F X1 X2 (fun F' hF hs => ?_)
  have b69 := hd_b (F := F) (F' := F') (k := 69) (hF 69 (by decide))
  have hB' : iv_in F' iv_B4 := iv_in_eq hB (fun j hj => hF j (Nat.lt_of_lt_of_le hj (by decide +kernel)))
  refine ⟨List.forall_mem_cons.mpr ⟨hd_p4 rfl b69 (by have hc : ((61) : Int32).toInt = 61 := (by decide); omega), fun _ h => absurd h List.not_mem_nil⟩, ?_⟩
  refine k _ ?_
  · exact fun j hj _ => (hd_keep hB' (Nat.lt_of_lt_of_le hj (by decide +kernel)) (by simp)).trans (hF j (Nat.lt_of_lt_of_le hj (by decide)))
theorem zun_21_p1 {Ls : Nat} {xs : Nat → Int32} {d : Nat} {Q : Option Value → jm_h → Prop} (hd : 1 ≤ d) (F : Nat → sy_d) (X1 X2 : List jm_c) (hB : iv_in F iv_B4)
    (h0 : (sy_i F 69).toInt < 61)
    (h1 : 0 ≤ ((((61 : Int32)) * (sy_i F 20)) + (sy_i F 69)).toInt ∧ ((((61 : Int32)) * (sy_i F 20)) + (sy_i F 69)).toInt < 2440)
    (h2 : 0 ≤ (sy_i F 69).toInt ∧ (sy_i F 69).toInt < 61)
    (k : ∀ F1 : Nat → sy_d, (∀ j, j < 69 → j ≠ 54 → F1 j = F j) → F1 54 = .inr (.inl (jm_upd (sy_ai F 54) (sy_i F 69).toNatClampNeg ((sy_ai F 60).getD ((((61 : Int32)) * (sy_i F 20)) + (sy_i F 69)).toNatClampNeg 0))) → F1 69 = .inl (.int ((sy_i F 69) + ((1 : Int32)))) → hd_W Ls xs d jm_M205 Q (21, sy_dL F1 [some (.inl (.ref 1000)), some (.inr (.inl 69))], sy_dS F1 [], sy_dh F1 X1 X2 (iv_H 4), 0, 0)) :
    hd_W Ls xs d jm_M205 Q (21, sy_dL F [some (.inl (.ref 1000)), some (.inr (.inl 69))], sy_dS F [], sy_dh F X1 X2 (iv_H 4), 0, 0) := by
  refine hd_run (s := 4) (nv := 70) (pc := 21) (L := [some (.inl (.ref 1000)), some (.inr (.inl 69))]) (S := []) (uh := hd_ov (iv_id 0 iv_B4) [(54, .inr (.inr (.inl 73)))]) (ul := [.inl (.inr (.inl 74))]) (f := true) (sp := [21]) (d0 := 0) (O := [false]) (T := [(2, [.inl (.int 61), .inr (.inl 20)], []), (0, [.inr (.inl 70), .inr (.inl 69)], []), (30, [.inr (.inl 71)], [.inr (.inl 60)]), (40, [.inr (.inl 69), .inr (.inl 72)], [.inr (.inl 54)]), (0, [.inr (.inl 69), .inl (.int 1)], [])]) (P := [(5, .inl (.int 61), .inr (.inl 69)), (6, .inr (.inl 71), .inl (.ref 2440)), (6, .inr (.inl 69), .inl (.ref 61))]) jm_ok205 (by decide +kernel) (by decide +kernel) hd F X1 X2 (fun F' hF hs => ?_)
  have b69 := hd_b (F := F) (F' := F') (k := 69) (hF 69 (by decide))
  have b20 := hd_b (F := F) (F' := F') (k := 20) (hF 20 (by decide))
  have t70 : sy_dv F' (.inr (.inl 70)) = .int (((61 : Int32)) * (sy_i F 20)) := hd_o (hs 0 _ rfl) rfl b20 rfl
  have t71 : sy_dv F' (.inr (.inl 71)) = .int ((((61 : Int32)) * (sy_i F 20)) + (sy_i F 69)) := hd_o (hs 1 _ rfl) t70 b69 rfl
  have a60 := hd_ba (F := F) (F' := F') (k := 60) (hF 60 (by decide))
  have t72 : sy_dv F' (.inr (.inl 72)) = .int ((sy_ai F 60).getD ((((61 : Int32)) * (sy_i F 20)) + (sy_i F 69)).toNatClampNeg 0) := hd_rd (hs 2 _ rfl) t71 a60
  have a54 := hd_ba (F := F) (F' := F') (k := 54) (hF 54 (by decide))
  have t73 : sy_da F' (.inr (.inl 73)) = .inl (jm_upd (sy_ai F 54) (sy_i F 69).toNatClampNeg ((sy_ai F 60).getD ((((61 : Int32)) * (sy_i F 20)) + (sy_i F 69)).toNatClampNeg 0)) := hd_up (hs 3 _ rfl) b69 t72 a54
  have t74 : sy_dv F' (.inr (.inl 74)) = .int ((sy_i F 69) + ((1 : Int32))) := hd_o (hs 4 _ rfl) b69 rfl rfl
  have hB' : iv_in F' iv_B4 := iv_in_eq hB (fun j hj => hF j (Nat.lt_of_lt_of_le hj (by decide +kernel)))
  refine ⟨List.forall_mem_cons.mpr ⟨hd_p5 rfl b69 (by have hc : ((61) : Int32).toInt = 61 := (by decide); omega), List.forall_mem_cons.mpr ⟨hd_pb t71 (by first | exact h1 | exact h1), List.forall_mem_cons.mpr ⟨hd_pb b69 (by first | exact h2 | exact h2), fun _ h => absurd h List.not_mem_nil⟩⟩⟩, ?_⟩
  refine k _ ?_ ?_ ?_
  · exact fun j hj hn => (hd_keep hB' (Nat.lt_of_lt_of_le hj (by decide +kernel)) (by simp; omega)).trans (hF j (Nat.lt_of_lt_of_le hj (by decide)))
  · exact hd_ga (a := .inr (.inl 73)) (by decide +kernel) t73
  · exact hd_gi (x := .inr (.inl 74)) (by decide +kernel) t74
theorem zun_21 {Ls : Nat} {xs : Nat → Int32} {d : Nat} {Q : Option Value → jm_h → Prop} (hd : 1 ≤ d) (F : Nat → sy_d) (X1 X2 : List jm_c) (hB : iv_in F iv_B4)
    (a69 : 0 ≤ (sy_i F 69).toInt ∧ (sy_i F 69).toInt ≤ 61)
    (o0 : (sy_i F 69).toInt < 61 → (0 ≤ ((61 * (sy_i F 20).toInt) + (sy_i F 69).toInt) ∧ ((61 * (sy_i F 20).toInt) + (sy_i F 69).toInt) < 2440))
    (k0 : 61 ≤ (sy_i F 69).toInt → ∀ F1 : Nat → sy_d, iv_in F1 iv_B4 → (∀ j, j < 69 → j ∉ ([] : List Nat) → F1 j = F j) → Q (some (.int ((1 : Int32)))) (sy_dh F1 X1 X2 (iv_H 4)))
    (k1 : (sy_i F 69).toInt < 61 → ∀ F1 : Nat → sy_d, iv_in F1 iv_B4 → (∀ j, j < 69 → j ∉ ([54] : List Nat) → F1 j = F j) → sy_ai F1 54 = jm_upd (sy_ai F 54) ((sy_i F 69).toInt).toNat ((sy_ai F 60).getD (((61 * (sy_i F 20).toInt) + (sy_i F 69).toInt)).toNat 0) → (sy_i F1 69).toInt = ((sy_i F 69).toInt + 1) → sy_i F1 69 = (sy_i F 69) + ((1 : Int32)) → hd_W Ls xs d jm_M205 Q (21, sy_dL F1 [some (.inl (.ref 1000)), some (.inr (.inl 69))], sy_dS F1 [], sy_dh F1 X1 X2 (iv_H 4), 0, 0)) :
    hd_W Ls xs d jm_M205 Q (21, sy_dL F [some (.inl (.ref 1000)), some (.inr (.inl 69))], sy_dS F [], sy_dh F X1 X2 (iv_H 4), 0, 0) := by
  by_cases g0 : 61 ≤ (sy_i F 69).toInt
  · exact zun_21_p0 hd F X1 X2 hB (by first | exact g0 | (simp only [nz_c]; exact g0)) (fun F1 g  => k0 g0 F1 (nz_in hB [] (fun j hj hn => g j hj (by simp only [List.mem_cons, List.not_mem_nil, or_false, not_or] at hn; exact trivial)) (List.forall_mem_nil _)) (fun j hj hn => g j hj (by simp only [List.mem_cons, List.not_mem_nil, or_false, not_or] at hn; exact trivial)) )
  replace g0 : (sy_i F 69).toInt < 61 := by omega
  have c20 := nz_bx hB (k := 20) (lo := 0) (hi := 40) rfl
  have n70 : nzI (((61 : Int32)) * (sy_i F 20)) ((61 * (sy_i F 20).toInt)) := nz_mul (by decide : ((61 : Int32)).toInt = 61) (rfl : (sy_i F 20).toInt = (sy_i F 20).toInt) (by omega) (by omega)
  have n71 : nzI ((((61 : Int32)) * (sy_i F 20)) + (sy_i F 69)) (((61 * (sy_i F 20).toInt) + (sy_i F 69).toInt)) := nz_add (nzE n70) (rfl : (sy_i F 69).toInt = (sy_i F 69).toInt) (by omega) (by omega)
  have w73 : jm_upd (sy_ai F 54) (sy_i F 69).toNatClampNeg ((sy_ai F 60).getD ((((61 : Int32)) * (sy_i F 20)) + (sy_i F 69)).toNatClampNeg 0) = jm_upd (sy_ai F 54) ((sy_i F 69).toInt).toNat ((sy_ai F 60).getD (((61 * (sy_i F 20).toInt) + (sy_i F 69).toInt)).toNat 0) := by simp only [nz_c, (nzE n70), (nzE n71), (by decide : ((61 : Int32)).toInt = 61)]
  have n74 : nzI ((sy_i F 69) + ((1 : Int32))) (((sy_i F 69).toInt + 1)) := nz_add (rfl : (sy_i F 69).toInt = (sy_i F 69).toInt) (by decide : ((1 : Int32)).toInt = 1) (by omega) (by omega)
  exact zun_21_p1 hd F X1 X2 hB (by first | exact g0 | (simp only [nz_c]; exact g0)) (by first | (simp only [nz_c, (nzE n70), (nzE n71)]; exact (o0 g0)) | exact (o0 g0) | (rw [(nzE n71)]; exact (o0 g0))) (by first | exact ⟨by omega, by omega⟩ | (simp only [nz_c]; exact ⟨by omega, by omega⟩)) (fun F1 g e54 e69 => k1 g0 F1 (nz_in hB [54] (fun j hj hn => g j hj (by simp only [List.mem_cons, List.not_mem_nil, or_false, not_or] at hn; omega)) (List.forall_mem_cons.mpr ⟨fun t ht => (Option.some.inj ht) ▸ (nz_hz2 e54), List.forall_mem_nil _⟩)) (fun j hj hn => g j hj (by simp only [List.mem_cons, List.not_mem_nil, or_false, not_or] at hn; omega)) ((zz_ai e54).trans w73) ((congrArg Int32.toInt (zz_i e69)).trans (nzE n74)) ((zz_i e69).trans (rfl : (sy_i F 69) + ((1 : Int32)) = (sy_i F 69) + ((1 : Int32)))))
theorem zhd_0_p0 {Ls : Nat} {xs : Nat → Int32} {d : Nat} {Q : Option Value → jm_h → Prop} (hd : 2 ≤ d) (F : Nat → sy_d) (X1 X2 : List jm_c) (hB : iv_in F iv_B4)
    (h0 : (sy_i F 69).toInt < 0)
    (k : ∀ F1 : Nat → sy_d, (∀ j, j < 69 → True → F1 j = F j) → Q (some (.int ((0 : Int32)))) (sy_dh F1 X1 X2 (iv_H 4))) :
    hd_W Ls xs d jm_M236 Q (0, sy_dL F [some (.inl (.ref 1000)), some (.inr (.inl 69)), none], sy_dS F [], sy_dh F X1 X2 (iv_H 4), 0, 0) := by
  refine hd_ret (s := 4) (nv := 70) (v := some (.inl (.int 0))) (uh := hd_ov (iv_id 0 iv_B4) []) (f := true) (sp := [20]) (d0 := 1) (O := [true]) (T := []) (P := [(2, .inr (.inl 69), .inl (.int 0))]) jm_ok236 (by decide +kernel) (by decide +kernel) hd F X1 X2 (fun F' hF hs => ?_)
  have b69 := hd_b (F := F) (F' := F') (k := 69) (hF 69 (by decide))
  have hB' : iv_in F' iv_B4 := iv_in_eq hB (fun j hj => hF j (Nat.lt_of_lt_of_le hj (by decide +kernel)))
  refine ⟨List.forall_mem_cons.mpr ⟨hd_p2 b69 rfl (by have hc : ((0) : Int32).toInt = 0 := (by decide); omega), fun _ h => absurd h List.not_mem_nil⟩, ?_⟩
  refine k _ ?_
  · exact fun j hj _ => (hd_keep hB' (Nat.lt_of_lt_of_le hj (by decide +kernel)) (by simp)).trans (hF j (Nat.lt_of_lt_of_le hj (by decide)))
theorem zhd_0_p1 {Ls : Nat} {xs : Nat → Int32} {d : Nat} {Q : Option Value → jm_h → Prop} (hd : 2 ≤ d) (F : Nat → sy_d) (X1 X2 : List jm_c) (hB : iv_in F iv_B4)
    (h0 : 0 ≤ (sy_i F 69).toInt)
    (h1 : 2 < (sy_i F 69).toInt)
    (k : ∀ F1 : Nat → sy_d, (∀ j, j < 69 → True → F1 j = F j) → Q (some (.int ((0 : Int32)))) (sy_dh F1 X1 X2 (iv_H 4))) :
    hd_W Ls xs d jm_M236 Q (0, sy_dL F [some (.inl (.ref 1000)), some (.inr (.inl 69)), none], sy_dS F [], sy_dh F X1 X2 (iv_H 4), 0, 0) := by
  refine hd_ret (s := 4) (nv := 70) (v := some (.inl (.int 0))) (uh := hd_ov (iv_id 0 iv_B4) []) (f := true) (sp := [20]) (d0 := 1) (O := [false, true]) (T := []) (P := [(3, .inr (.inl 69), .inl (.int 0)), (2, .inl (.int 2), .inr (.inl 69))]) jm_ok236 (by decide +kernel) (by decide +kernel) hd F X1 X2 (fun F' hF hs => ?_)
  have b69 := hd_b (F := F) (F' := F') (k := 69) (hF 69 (by decide))
  have hB' : iv_in F' iv_B4 := iv_in_eq hB (fun j hj => hF j (Nat.lt_of_lt_of_le hj (by decide +kernel)))
  refine ⟨List.forall_mem_cons.mpr ⟨hd_p3 b69 rfl (by have hc : ((0) : Int32).toInt = 0 := (by decide); omega), List.forall_mem_cons.mpr ⟨hd_p2 rfl b69 (by have hc : ((2) : Int32).toInt = 2 := (by decide); omega), fun _ h => absurd h List.not_mem_nil⟩⟩, ?_⟩
  refine k _ ?_
  · exact fun j hj _ => (hd_keep hB' (Nat.lt_of_lt_of_le hj (by decide +kernel)) (by simp)).trans (hF j (Nat.lt_of_lt_of_le hj (by decide)))
theorem zhd_0_p2 {Ls : Nat} {xs : Nat → Int32} {d : Nat} {Q : Option Value → jm_h → Prop} (hd : 2 ≤ d) (F : Nat → sy_d) (X1 X2 : List jm_c) (hB : iv_in F iv_B4)
    (h0 : 0 ≤ (sy_i F 69).toInt)
    (h1 : (sy_i F 69).toInt ≤ 2)
    (h2 : 0 ≤ (sy_i F 69).toInt ∧ (sy_i F 69).toInt < 3)
    (k : ∀ F1 : Nat → sy_d, (∀ j, j < 69 → j ≠ 67 → F1 j = F j) → F1 67 = .inr (.inl (jm_upd (sy_ai F 67) (sy_i F 69).toNatClampNeg ((1 : Int32)))) → F1 69 = .inl (.int (sy_i F 69)) → F1 70 = .inl (.int ((0 : Int32))) → hd_W Ls xs d jm_M236 Q (20, sy_dL F1 [some (.inl (.ref 1000)), some (.inr (.inl 69)), some (.inr (.inl 70))], sy_dS F1 [], sy_dh F1 X1 X2 (iv_H 4), 0, 0)) :
    hd_W Ls xs d jm_M236 Q (0, sy_dL F [some (.inl (.ref 1000)), some (.inr (.inl 69)), none], sy_dS F [], sy_dh F X1 X2 (iv_H 4), 0, 0) := by
  refine hd_run (s := 4) (nv := 70) (pc := 20) (L := [some (.inl (.ref 1000)), some (.inr (.inl 69)), some (.inr (.inl 70))]) (S := []) (uh := hd_ov (iv_id 0 iv_B4) [(67, .inr (.inr (.inl 70)))]) (ul := [.inl (.inr (.inl 69)), .inl (.inl (.int 0))]) (f := true) (sp := [20]) (d0 := 1) (O := [false, false]) (T := [(40, [.inr (.inl 69), .inl (.int 1)], [.inr (.inl 67)])]) (P := [(3, .inr (.inl 69), .inl (.int 0)), (3, .inl (.int 2), .inr (.inl 69)), (6, .inr (.inl 69), .inl (.ref 3))]) jm_ok236 (by decide +kernel) (by decide +kernel) hd F X1 X2 (fun F' hF hs => ?_)
  have b69 := hd_b (F := F) (F' := F') (k := 69) (hF 69 (by decide))
  have a67 := hd_ba (F := F) (F' := F') (k := 67) (hF 67 (by decide))
  have t70 : sy_da F' (.inr (.inl 70)) = .inl (jm_upd (sy_ai F 67) (sy_i F 69).toNatClampNeg ((1 : Int32))) := hd_up (hs 0 _ rfl) b69 rfl a67
  have hB' : iv_in F' iv_B4 := iv_in_eq hB (fun j hj => hF j (Nat.lt_of_lt_of_le hj (by decide +kernel)))
  refine ⟨List.forall_mem_cons.mpr ⟨hd_p3 b69 rfl (by have hc : ((0) : Int32).toInt = 0 := (by decide); omega), List.forall_mem_cons.mpr ⟨hd_p3 rfl b69 (by have hc : ((2) : Int32).toInt = 2 := (by decide); omega), List.forall_mem_cons.mpr ⟨hd_pb b69 (by first | exact h2 | exact h2), fun _ h => absurd h List.not_mem_nil⟩⟩⟩, ?_⟩
  refine k _ ?_ ?_ ?_ ?_
  · exact fun j hj hn => (hd_keep hB' (Nat.lt_of_lt_of_le hj (by decide +kernel)) (by simp; omega)).trans (hF j (Nat.lt_of_lt_of_le hj (by decide)))
  · exact hd_ga (a := .inr (.inl 70)) (by decide +kernel) t70
  · exact hd_gi (x := .inr (.inl 69)) (by decide +kernel) b69
  · exact hd_gi (x := .inl (.int 0)) (by decide +kernel) rfl
theorem zhd_0 {Ls : Nat} {xs : Nat → Int32} {d : Nat} {Q : Option Value → jm_h → Prop} (hd : 2 ≤ d) (F : Nat → sy_d) (X1 X2 : List jm_c) (hB : iv_in F iv_B4)
    (k0 : (sy_i F 69).toInt < 0 → ∀ F1 : Nat → sy_d, iv_in F1 iv_B4 → (∀ j, j < 69 → j ∉ ([] : List Nat) → F1 j = F j) → Q (some (.int ((0 : Int32)))) (sy_dh F1 X1 X2 (iv_H 4)))
    (k1 : 0 ≤ (sy_i F 69).toInt → 2 < (sy_i F 69).toInt → ∀ F1 : Nat → sy_d, iv_in F1 iv_B4 → (∀ j, j < 69 → j ∉ ([] : List Nat) → F1 j = F j) → Q (some (.int ((0 : Int32)))) (sy_dh F1 X1 X2 (iv_H 4)))
    (k2 : 0 ≤ (sy_i F 69).toInt → (sy_i F 69).toInt ≤ 2 → ∀ F1 : Nat → sy_d, iv_in F1 iv_B4 → (∀ j, j < 69 → j ∉ ([67] : List Nat) → F1 j = F j) → sy_ai F1 67 = jm_upd (sy_ai F 67) ((sy_i F 69).toInt).toNat ((1 : Int32)) → (sy_i F1 69).toInt = (sy_i F 69).toInt → sy_i F1 69 = sy_i F 69 → (sy_i F1 70).toInt = 0 → sy_i F1 70 = (0 : Int32) → hd_W Ls xs d jm_M236 Q (20, sy_dL F1 [some (.inl (.ref 1000)), some (.inr (.inl 69)), some (.inr (.inl 70))], sy_dS F1 [], sy_dh F1 X1 X2 (iv_H 4), 0, 0)) :
    hd_W Ls xs d jm_M236 Q (0, sy_dL F [some (.inl (.ref 1000)), some (.inr (.inl 69)), none], sy_dS F [], sy_dh F X1 X2 (iv_H 4), 0, 0) := by
  by_cases g0 : (sy_i F 69).toInt < 0
  · exact zhd_0_p0 hd F X1 X2 hB (by first | exact g0 | (simp only [nz_c]; exact g0)) (fun F1 g  => k0 g0 F1 (nz_in hB [] (fun j hj hn => g j hj (by simp only [List.mem_cons, List.not_mem_nil, or_false, not_or] at hn; exact trivial)) (List.forall_mem_nil _)) (fun j hj hn => g j hj (by simp only [List.mem_cons, List.not_mem_nil, or_false, not_or] at hn; exact trivial)) )
  replace g0 : 0 ≤ (sy_i F 69).toInt := by omega
  by_cases g1 : 2 < (sy_i F 69).toInt
  · exact zhd_0_p1 hd F X1 X2 hB (by first | exact g0 | (simp only [nz_c]; exact g0)) (by first | exact g1 | (simp only [nz_c]; exact g1)) (fun F1 g  => k1 g0 g1 F1 (nz_in hB [] (fun j hj hn => g j hj (by simp only [List.mem_cons, List.not_mem_nil, or_false, not_or] at hn; exact trivial)) (List.forall_mem_nil _)) (fun j hj hn => g j hj (by simp only [List.mem_cons, List.not_mem_nil, or_false, not_or] at hn; exact trivial)) )
  replace g1 : (sy_i F 69).toInt ≤ 2 := by omega
  have w70 : jm_upd (sy_ai F 67) (sy_i F 69).toNatClampNeg ((1 : Int32)) = jm_upd (sy_ai F 67) ((sy_i F 69).toInt).toNat ((1 : Int32)) := by simp only [nz_c, (by decide : ((1 : Int32)).toInt = 1)]
  exact zhd_0_p2 hd F X1 X2 hB (by first | exact g0 | (simp only [nz_c]; exact g0)) (by first | exact g1 | (simp only [nz_c]; exact g1)) (by first | exact ⟨by omega, by omega⟩ | (simp only [nz_c]; exact ⟨by omega, by omega⟩)) (fun F1 g e67 e69 e70 => k2 g0 g1 F1 (nz_in hB [67] (fun j hj hn => g j hj (by simp only [List.mem_cons, List.not_mem_nil, or_false, not_or] at hn; omega)) (List.forall_mem_cons.mpr ⟨fun t ht => (Option.some.inj ht) ▸ (nz_hA e67 (nz_up (nz_ba hB (k := 67) (lo := 0) (hi := 1) rfl) (by decide : ((1 : Int32)).toInt = 1) (by omega) (by omega))), List.forall_mem_nil _⟩)) (fun j hj hn => g j hj (by simp only [List.mem_cons, List.not_mem_nil, or_false, not_or] at hn; omega)) ((zz_ai e67).trans w70) ((congrArg Int32.toInt (zz_i e69)).trans (rfl : (sy_i F 69).toInt = (sy_i F 69).toInt)) ((zz_i e69).trans (rfl : sy_i F 69 = sy_i F 69)) ((congrArg Int32.toInt (zz_i e70)).trans (by decide : ((0 : Int32)).toInt = 0)) ((zz_i e70).trans (rfl : (0 : Int32) = (0 : Int32))))
theorem zhd_20_p0 {Ls : Nat} {xs : Nat → Int32} {d : Nat} {Q : Option Value → jm_h → Prop} (hd : 1 ≤ d) (F : Nat → sy_d) (X1 X2 : List jm_c) (hB : iv_in F iv_B4)
    (h0 : 61 ≤ (sy_i F 70).toInt)
    (k : ∀ F1 : Nat → sy_d, (∀ j, j < 69 → True → F1 j = F j) → Q (some (.int ((1 : Int32)))) (sy_dh F1 X1 X2 (iv_H 4))) :
    hd_W Ls xs d jm_M236 Q (20, sy_dL F [some (.inl (.ref 1000)), some (.inr (.inl 69)), some (.inr (.inl 70))], sy_dS F [], sy_dh F X1 X2 (iv_H 4), 0, 0) := by
  refine hd_ret (s := 4) (nv := 71) (v := some (.inl (.int 1))) (uh := hd_ov (iv_id 0 iv_B4) []) (f := true) (sp := [20]) (d0 := 0) (O := [true]) (T := []) (P := [(4, .inl (.int 61), .inr (.inl 70))]) jm_ok236 (by decide +kernel) (by decide +kernel) hd F X1 X2 (fun F' hF hs => ?_)
  have b70 := hd_b (F := F) (F' := F') (k := 70) (hF 70 (by decide))
  have hB' : iv_in F' iv_B4 := iv_in_eq hB (fun j hj => hF j (Nat.lt_of_lt_of_le hj (by decide +kernel)))
  refine ⟨List.forall_mem_cons.mpr ⟨hd_p4 rfl b70 (by have hc : ((61) : Int32).toInt = 61 := (by decide); omega), fun _ h => absurd h List.not_mem_nil⟩, ?_⟩
  refine k _ ?_
  · exact fun j hj _ => (hd_keep hB' (Nat.lt_of_lt_of_le hj (by decide +kernel)) (by simp)).trans (hF j (Nat.lt_of_lt_of_le hj (by decide)))
theorem zhd_20_p1 {Ls : Nat} {xs : Nat → Int32} {d : Nat} {Q : Option Value → jm_h → Prop} (hd : 1 ≤ d) (F : Nat → sy_d) (X1 X2 : List jm_c) (hB : iv_in F iv_B4)
    (h0 : (sy_i F 70).toInt < 61)
    (h1 : 0 ≤ (sy_i F 70).toInt ∧ (sy_i F 70).toInt < 61)
    (h2 : 0 ≤ ((((61 : Int32)) * (sy_i F 69)) + (sy_i F 70)).toInt ∧ ((((61 : Int32)) * (sy_i F 69)) + (sy_i F 70)).toInt < 183)
    (k : ∀ F1 : Nat → sy_d, (∀ j, j < 69 → j ≠ 68 → F1 j = F j) → F1 68 = .inr (.inl (jm_upd (sy_ai F 68) ((((61 : Int32)) * (sy_i F 69)) + (sy_i F 70)).toNatClampNeg ((sy_ai F 54).getD (sy_i F 70).toNatClampNeg 0))) → F1 69 = .inl (.int (sy_i F 69)) → F1 70 = .inl (.int ((sy_i F 70) + ((1 : Int32)))) → hd_W Ls xs d jm_M236 Q (20, sy_dL F1 [some (.inl (.ref 1000)), some (.inr (.inl 69)), some (.inr (.inl 70))], sy_dS F1 [], sy_dh F1 X1 X2 (iv_H 4), 0, 0)) :
    hd_W Ls xs d jm_M236 Q (20, sy_dL F [some (.inl (.ref 1000)), some (.inr (.inl 69)), some (.inr (.inl 70))], sy_dS F [], sy_dh F X1 X2 (iv_H 4), 0, 0) := by
  refine hd_run (s := 4) (nv := 71) (pc := 20) (L := [some (.inl (.ref 1000)), some (.inr (.inl 69)), some (.inr (.inl 70))]) (S := []) (uh := hd_ov (iv_id 0 iv_B4) [(68, .inr (.inr (.inl 74)))]) (ul := [.inl (.inr (.inl 69)), .inl (.inr (.inl 75))]) (f := true) (sp := [20]) (d0 := 0) (O := [false]) (T := [(2, [.inl (.int 61), .inr (.inl 69)], []), (0, [.inr (.inl 71), .inr (.inl 70)], []), (30, [.inr (.inl 70)], [.inr (.inl 54)]), (40, [.inr (.inl 72), .inr (.inl 73)], [.inr (.inl 68)]), (0, [.inr (.inl 70), .inl (.int 1)], [])]) (P := [(5, .inl (.int 61), .inr (.inl 70)), (6, .inr (.inl 70), .inl (.ref 61)), (6, .inr (.inl 72), .inl (.ref 183))]) jm_ok236 (by decide +kernel) (by decide +kernel) hd F X1 X2 (fun F' hF hs => ?_)
  have b70 := hd_b (F := F) (F' := F') (k := 70) (hF 70 (by decide))
  have b69 := hd_b (F := F) (F' := F') (k := 69) (hF 69 (by decide))
  have t71 : sy_dv F' (.inr (.inl 71)) = .int (((61 : Int32)) * (sy_i F 69)) := hd_o (hs 0 _ rfl) rfl b69 rfl
  have t72 : sy_dv F' (.inr (.inl 72)) = .int ((((61 : Int32)) * (sy_i F 69)) + (sy_i F 70)) := hd_o (hs 1 _ rfl) t71 b70 rfl
  have a54 := hd_ba (F := F) (F' := F') (k := 54) (hF 54 (by decide))
  have t73 : sy_dv F' (.inr (.inl 73)) = .int ((sy_ai F 54).getD (sy_i F 70).toNatClampNeg 0) := hd_rd (hs 2 _ rfl) b70 a54
  have a68 := hd_ba (F := F) (F' := F') (k := 68) (hF 68 (by decide))
  have t74 : sy_da F' (.inr (.inl 74)) = .inl (jm_upd (sy_ai F 68) ((((61 : Int32)) * (sy_i F 69)) + (sy_i F 70)).toNatClampNeg ((sy_ai F 54).getD (sy_i F 70).toNatClampNeg 0)) := hd_up (hs 3 _ rfl) t72 t73 a68
  have t75 : sy_dv F' (.inr (.inl 75)) = .int ((sy_i F 70) + ((1 : Int32))) := hd_o (hs 4 _ rfl) b70 rfl rfl
  have hB' : iv_in F' iv_B4 := iv_in_eq hB (fun j hj => hF j (Nat.lt_of_lt_of_le hj (by decide +kernel)))
  refine ⟨List.forall_mem_cons.mpr ⟨hd_p5 rfl b70 (by have hc : ((61) : Int32).toInt = 61 := (by decide); omega), List.forall_mem_cons.mpr ⟨hd_pb b70 (by first | exact h1 | exact h1), List.forall_mem_cons.mpr ⟨hd_pb t72 (by first | exact h2 | exact h2), fun _ h => absurd h List.not_mem_nil⟩⟩⟩, ?_⟩
  refine k _ ?_ ?_ ?_ ?_
  · exact fun j hj hn => (hd_keep hB' (Nat.lt_of_lt_of_le hj (by decide +kernel)) (by simp; omega)).trans (hF j (Nat.lt_of_lt_of_le hj (by decide)))
  · exact hd_ga (a := .inr (.inl 74)) (by decide +kernel) t74
  · exact hd_gi (x := .inr (.inl 69)) (by decide +kernel) b69
  · exact hd_gi (x := .inr (.inl 75)) (by decide +kernel) t75
theorem zhd_20 {Ls : Nat} {xs : Nat → Int32} {d : Nat} {Q : Option Value → jm_h → Prop} (hd : 1 ≤ d) (F : Nat → sy_d) (X1 X2 : List jm_c) (hB : iv_in F iv_B4)
    (a69 : 0 ≤ (sy_i F 69).toInt ∧ (sy_i F 69).toInt ≤ 2)
    (a70 : 0 ≤ (sy_i F 70).toInt ∧ (sy_i F 70).toInt ≤ 61)
    (k0 : 61 ≤ (sy_i F 70).toInt → ∀ F1 : Nat → sy_d, iv_in F1 iv_B4 → (∀ j, j < 69 → j ∉ ([] : List Nat) → F1 j = F j) → Q (some (.int ((1 : Int32)))) (sy_dh F1 X1 X2 (iv_H 4)))
    (k1 : (sy_i F 70).toInt < 61 → ∀ F1 : Nat → sy_d, iv_in F1 iv_B4 → (∀ j, j < 69 → j ∉ ([68] : List Nat) → F1 j = F j) → sy_ai F1 68 = jm_upd (sy_ai F 68) (((61 * (sy_i F 69).toInt) + (sy_i F 70).toInt)).toNat ((sy_ai F 54).getD ((sy_i F 70).toInt).toNat 0) → (sy_i F1 69).toInt = (sy_i F 69).toInt → sy_i F1 69 = sy_i F 69 → (sy_i F1 70).toInt = ((sy_i F 70).toInt + 1) → sy_i F1 70 = (sy_i F 70) + ((1 : Int32)) → hd_W Ls xs d jm_M236 Q (20, sy_dL F1 [some (.inl (.ref 1000)), some (.inr (.inl 69)), some (.inr (.inl 70))], sy_dS F1 [], sy_dh F1 X1 X2 (iv_H 4), 0, 0)) :
    hd_W Ls xs d jm_M236 Q (20, sy_dL F [some (.inl (.ref 1000)), some (.inr (.inl 69)), some (.inr (.inl 70))], sy_dS F [], sy_dh F X1 X2 (iv_H 4), 0, 0) := by
  by_cases g0 : 61 ≤ (sy_i F 70).toInt
  · exact zhd_20_p0 hd F X1 X2 hB (by first | exact g0 | (simp only [nz_c]; exact g0)) (fun F1 g  => k0 g0 F1 (nz_in hB [] (fun j hj hn => g j hj (by simp only [List.mem_cons, List.not_mem_nil, or_false, not_or] at hn; exact trivial)) (List.forall_mem_nil _)) (fun j hj hn => g j hj (by simp only [List.mem_cons, List.not_mem_nil, or_false, not_or] at hn; exact trivial)) )
  replace g0 : (sy_i F 70).toInt < 61 := by omega
  have n71 : nzI (((61 : Int32)) * (sy_i F 69)) ((61 * (sy_i F 69).toInt)) := nz_mul (by decide : ((61 : Int32)).toInt = 61) (rfl : (sy_i F 69).toInt = (sy_i F 69).toInt) (by omega) (by omega)
  have n72 : nzI ((((61 : Int32)) * (sy_i F 69)) + (sy_i F 70)) (((61 * (sy_i F 69).toInt) + (sy_i F 70).toInt)) := nz_add (nzE n71) (rfl : (sy_i F 70).toInt = (sy_i F 70).toInt) (by omega) (by omega)
  have w74 : jm_upd (sy_ai F 68) ((((61 : Int32)) * (sy_i F 69)) + (sy_i F 70)).toNatClampNeg ((sy_ai F 54).getD (sy_i F 70).toNatClampNeg 0) = jm_upd (sy_ai F 68) (((61 * (sy_i F 69).toInt) + (sy_i F 70).toInt)).toNat ((sy_ai F 54).getD ((sy_i F 70).toInt).toNat 0) := by simp only [nz_c, (nzE n71), (nzE n72), (by decide : ((61 : Int32)).toInt = 61)]
  have n75 : nzI ((sy_i F 70) + ((1 : Int32))) (((sy_i F 70).toInt + 1)) := nz_add (rfl : (sy_i F 70).toInt = (sy_i F 70).toInt) (by decide : ((1 : Int32)).toInt = 1) (by omega) (by omega)
  exact zhd_20_p1 hd F X1 X2 hB (by first | exact g0 | (simp only [nz_c]; exact g0)) (by first | exact ⟨by omega, by omega⟩ | (simp only [nz_c]; exact ⟨by omega, by omega⟩)) (by first | (simp only [nz_c, (nzE n71), (nzE n72)]; exact ⟨by omega, by omega⟩) | exact ⟨by omega, by omega⟩ | (rw [(nzE n72)]; exact ⟨by omega, by omega⟩)) (fun F1 g e68 e69 e70 => k1 g0 F1 (nz_in hB [68] (fun j hj hn => g j hj (by simp only [List.mem_cons, List.not_mem_nil, or_false, not_or] at hn; omega)) (List.forall_mem_cons.mpr ⟨fun t ht => (Option.some.inj ht) ▸ (nz_hz2 e68), List.forall_mem_nil _⟩)) (fun j hj hn => g j hj (by simp only [List.mem_cons, List.not_mem_nil, or_false, not_or] at hn; omega)) ((zz_ai e68).trans w74) ((congrArg Int32.toInt (zz_i e69)).trans (rfl : (sy_i F 69).toInt = (sy_i F 69).toInt)) ((zz_i e69).trans (rfl : sy_i F 69 = sy_i F 69)) ((congrArg Int32.toInt (zz_i e70)).trans (nzE n75)) ((zz_i e70).trans (rfl : (sy_i F 70) + ((1 : Int32)) = (sy_i F 70) + ((1 : Int32)))))
theorem zrs_0_p0 {Ls : Nat} {xs : Nat → Int32} {d : Nat} {Q : Option Value → jm_h → Prop} (hd : 2 ≤ d) (F : Nat → sy_d) (X1 X2 : List jm_c) (hB : iv_in F iv_B4)
    (h0 : (sy_i F 69).toInt < 0)
    (k : ∀ F1 : Nat → sy_d, (∀ j, j < 69 → True → F1 j = F j) → Q (some (.int ((0 : Int32)))) (sy_dh F1 X1 X2 (iv_H 4))) :
    hd_W Ls xs d jm_M237 Q (0, sy_dL F [some (.inl (.ref 1000)), some (.inr (.inl 69)), none], sy_dS F [], sy_dh F X1 X2 (iv_H 4), 0, 0) := by
  refine hd_ret (s := 4) (nv := 70) (v := some (.inl (.int 0))) (uh := hd_ov (iv_id 0 iv_B4) []) (f := true) (sp := [22]) (d0 := 1) (O := [true]) (T := []) (P := [(2, .inr (.inl 69), .inl (.int 0))]) jm_ok237 (by decide +kernel) (by decide +kernel) hd F X1 X2 (fun F' hF hs => ?_)
  have b69 := hd_b (F := F) (F' := F') (k := 69) (hF 69 (by decide))
  have hB' : iv_in F' iv_B4 := iv_in_eq hB (fun j hj => hF j (Nat.lt_of_lt_of_le hj (by decide +kernel)))
  refine ⟨List.forall_mem_cons.mpr ⟨hd_p2 b69 rfl (by have hc : ((0) : Int32).toInt = 0 := (by decide); omega), fun _ h => absurd h List.not_mem_nil⟩, ?_⟩
  refine k _ ?_
  · exact fun j hj _ => (hd_keep hB' (Nat.lt_of_lt_of_le hj (by decide +kernel)) (by simp)).trans (hF j (Nat.lt_of_lt_of_le hj (by decide)))
theorem zrs_0_p1 {Ls : Nat} {xs : Nat → Int32} {d : Nat} {Q : Option Value → jm_h → Prop} (hd : 2 ≤ d) (F : Nat → sy_d) (X1 X2 : List jm_c) (hB : iv_in F iv_B4)
    (h0 : 0 ≤ (sy_i F 69).toInt)
    (h1 : 2 < (sy_i F 69).toInt)
    (k : ∀ F1 : Nat → sy_d, (∀ j, j < 69 → True → F1 j = F j) → Q (some (.int ((0 : Int32)))) (sy_dh F1 X1 X2 (iv_H 4))) :
    hd_W Ls xs d jm_M237 Q (0, sy_dL F [some (.inl (.ref 1000)), some (.inr (.inl 69)), none], sy_dS F [], sy_dh F X1 X2 (iv_H 4), 0, 0) := by
  refine hd_ret (s := 4) (nv := 70) (v := some (.inl (.int 0))) (uh := hd_ov (iv_id 0 iv_B4) []) (f := true) (sp := [22]) (d0 := 1) (O := [false, true]) (T := []) (P := [(3, .inr (.inl 69), .inl (.int 0)), (2, .inl (.int 2), .inr (.inl 69))]) jm_ok237 (by decide +kernel) (by decide +kernel) hd F X1 X2 (fun F' hF hs => ?_)
  have b69 := hd_b (F := F) (F' := F') (k := 69) (hF 69 (by decide))
  have hB' : iv_in F' iv_B4 := iv_in_eq hB (fun j hj => hF j (Nat.lt_of_lt_of_le hj (by decide +kernel)))
  refine ⟨List.forall_mem_cons.mpr ⟨hd_p3 b69 rfl (by have hc : ((0) : Int32).toInt = 0 := (by decide); omega), List.forall_mem_cons.mpr ⟨hd_p2 rfl b69 (by have hc : ((2) : Int32).toInt = 2 := (by decide); omega), fun _ h => absurd h List.not_mem_nil⟩⟩, ?_⟩
  refine k _ ?_
  · exact fun j hj _ => (hd_keep hB' (Nat.lt_of_lt_of_le hj (by decide +kernel)) (by simp)).trans (hF j (Nat.lt_of_lt_of_le hj (by decide)))
theorem zrs_0_p2 {Ls : Nat} {xs : Nat → Int32} {d : Nat} {Q : Option Value → jm_h → Prop} (hd : 2 ≤ d) (F : Nat → sy_d) (X1 X2 : List jm_c) (hB : iv_in F iv_B4)
    (h0 : 0 ≤ (sy_i F 69).toInt)
    (h1 : (sy_i F 69).toInt ≤ 2)
    (h2 : 0 ≤ (sy_i F 69).toInt ∧ (sy_i F 69).toInt < 3)
    (h3 : ((sy_ai F 67).getD (sy_i F 69).toNatClampNeg 0).toInt ≠ 0)
    (k : ∀ F1 : Nat → sy_d, (∀ j, j < 69 → True → F1 j = F j) → F1 69 = .inl (.int (sy_i F 69)) → F1 70 = .inl (.int ((0 : Int32))) → hd_W Ls xs d jm_M237 Q (22, sy_dL F1 [some (.inl (.ref 1000)), some (.inr (.inl 69)), some (.inr (.inl 70))], sy_dS F1 [], sy_dh F1 X1 X2 (iv_H 4), 0, 0)) :
    hd_W Ls xs d jm_M237 Q (0, sy_dL F [some (.inl (.ref 1000)), some (.inr (.inl 69)), none], sy_dS F [], sy_dh F X1 X2 (iv_H 4), 0, 0) := by
  refine hd_run (s := 4) (nv := 70) (pc := 22) (L := [some (.inl (.ref 1000)), some (.inr (.inl 69)), some (.inr (.inl 70))]) (S := []) (uh := hd_ov (iv_id 0 iv_B4) []) (ul := [.inl (.inr (.inl 69)), .inl (.inl (.int 0))]) (f := true) (sp := [22]) (d0 := 1) (O := [false, false, true]) (T := [(30, [.inr (.inl 69)], [.inr (.inl 67)])]) (P := [(3, .inr (.inl 69), .inl (.int 0)), (3, .inl (.int 2), .inr (.inl 69)), (6, .inr (.inl 69), .inl (.ref 3)), (1, .inr (.inl 70), .inl (.int 0))]) jm_ok237 (by decide +kernel) (by decide +kernel) hd F X1 X2 (fun F' hF hs => ?_)
  have b69 := hd_b (F := F) (F' := F') (k := 69) (hF 69 (by decide))
  have a67 := hd_ba (F := F) (F' := F') (k := 67) (hF 67 (by decide))
  have t70 : sy_dv F' (.inr (.inl 70)) = .int ((sy_ai F 67).getD (sy_i F 69).toNatClampNeg 0) := hd_rd (hs 0 _ rfl) b69 a67
  have hB' : iv_in F' iv_B4 := iv_in_eq hB (fun j hj => hF j (Nat.lt_of_lt_of_le hj (by decide +kernel)))
  refine ⟨List.forall_mem_cons.mpr ⟨hd_p3 b69 rfl (by have hc : ((0) : Int32).toInt = 0 := (by decide); omega), List.forall_mem_cons.mpr ⟨hd_p3 rfl b69 (by have hc : ((2) : Int32).toInt = 2 := (by decide); omega), List.forall_mem_cons.mpr ⟨hd_pb b69 (by first | exact h2 | exact h2), List.forall_mem_cons.mpr ⟨hd_p1 t70 rfl (by have hc : ((0) : Int32).toInt = 0 := (by decide); omega), fun _ h => absurd h List.not_mem_nil⟩⟩⟩⟩, ?_⟩
  refine k _ ?_ ?_ ?_
  · exact fun j hj _ => (hd_keep hB' (Nat.lt_of_lt_of_le hj (by decide +kernel)) (by simp)).trans (hF j (Nat.lt_of_lt_of_le hj (by decide)))
  · exact hd_gi (x := .inr (.inl 69)) (by decide +kernel) b69
  · exact hd_gi (x := .inl (.int 0)) (by decide +kernel) rfl
theorem zrs_0_p3 {Ls : Nat} {xs : Nat → Int32} {d : Nat} {Q : Option Value → jm_h → Prop} (hd : 2 ≤ d) (F : Nat → sy_d) (X1 X2 : List jm_c) (hB : iv_in F iv_B4)
    (h0 : 0 ≤ (sy_i F 69).toInt)
    (h1 : (sy_i F 69).toInt ≤ 2)
    (h2 : 0 ≤ (sy_i F 69).toInt ∧ (sy_i F 69).toInt < 3)
    (h3 : ((sy_ai F 67).getD (sy_i F 69).toNatClampNeg 0).toInt = 0)
    (k : ∀ F1 : Nat → sy_d, (∀ j, j < 69 → True → F1 j = F j) → Q (some (.int ((0 : Int32)))) (sy_dh F1 X1 X2 (iv_H 4))) :
    hd_W Ls xs d jm_M237 Q (0, sy_dL F [some (.inl (.ref 1000)), some (.inr (.inl 69)), none], sy_dS F [], sy_dh F X1 X2 (iv_H 4), 0, 0) := by
  refine hd_ret (s := 4) (nv := 70) (v := some (.inl (.int 0))) (uh := hd_ov (iv_id 0 iv_B4) []) (f := true) (sp := [22]) (d0 := 1) (O := [false, false, false]) (T := [(30, [.inr (.inl 69)], [.inr (.inl 67)])]) (P := [(3, .inr (.inl 69), .inl (.int 0)), (3, .inl (.int 2), .inr (.inl 69)), (6, .inr (.inl 69), .inl (.ref 3)), (0, .inr (.inl 70), .inl (.int 0))]) jm_ok237 (by decide +kernel) (by decide +kernel) hd F X1 X2 (fun F' hF hs => ?_)
  have b69 := hd_b (F := F) (F' := F') (k := 69) (hF 69 (by decide))
  have a67 := hd_ba (F := F) (F' := F') (k := 67) (hF 67 (by decide))
  have t70 : sy_dv F' (.inr (.inl 70)) = .int ((sy_ai F 67).getD (sy_i F 69).toNatClampNeg 0) := hd_rd (hs 0 _ rfl) b69 a67
  have hB' : iv_in F' iv_B4 := iv_in_eq hB (fun j hj => hF j (Nat.lt_of_lt_of_le hj (by decide +kernel)))
  refine ⟨List.forall_mem_cons.mpr ⟨hd_p3 b69 rfl (by have hc : ((0) : Int32).toInt = 0 := (by decide); omega), List.forall_mem_cons.mpr ⟨hd_p3 rfl b69 (by have hc : ((2) : Int32).toInt = 2 := (by decide); omega), List.forall_mem_cons.mpr ⟨hd_pb b69 (by first | exact h2 | exact h2), List.forall_mem_cons.mpr ⟨hd_p0 t70 rfl (by have hc : ((0) : Int32).toInt = 0 := (by decide); omega), fun _ h => absurd h List.not_mem_nil⟩⟩⟩⟩, ?_⟩
  refine k _ ?_
  · exact fun j hj _ => (hd_keep hB' (Nat.lt_of_lt_of_le hj (by decide +kernel)) (by simp)).trans (hF j (Nat.lt_of_lt_of_le hj (by decide)))
theorem zrs_0 {Ls : Nat} {xs : Nat → Int32} {d : Nat} {Q : Option Value → jm_h → Prop} (hd : 2 ≤ d) (F : Nat → sy_d) (X1 X2 : List jm_c) (hB : iv_in F iv_B4)
    (k0 : (sy_i F 69).toInt < 0 → ∀ F1 : Nat → sy_d, iv_in F1 iv_B4 → (∀ j, j < 69 → j ∉ ([] : List Nat) → F1 j = F j) → Q (some (.int ((0 : Int32)))) (sy_dh F1 X1 X2 (iv_H 4)))
    (k1 : 0 ≤ (sy_i F 69).toInt → 2 < (sy_i F 69).toInt → ∀ F1 : Nat → sy_d, iv_in F1 iv_B4 → (∀ j, j < 69 → j ∉ ([] : List Nat) → F1 j = F j) → Q (some (.int ((0 : Int32)))) (sy_dh F1 X1 X2 (iv_H 4)))
    (k2 : 0 ≤ (sy_i F 69).toInt → (sy_i F 69).toInt ≤ 2 → ((sy_ai F 67).getD ((sy_i F 69).toInt).toNat 0).toInt ≠ 0 → ∀ F1 : Nat → sy_d, iv_in F1 iv_B4 → (∀ j, j < 69 → j ∉ ([] : List Nat) → F1 j = F j) → (sy_i F1 69).toInt = (sy_i F 69).toInt → sy_i F1 69 = sy_i F 69 → (sy_i F1 70).toInt = 0 → sy_i F1 70 = (0 : Int32) → hd_W Ls xs d jm_M237 Q (22, sy_dL F1 [some (.inl (.ref 1000)), some (.inr (.inl 69)), some (.inr (.inl 70))], sy_dS F1 [], sy_dh F1 X1 X2 (iv_H 4), 0, 0))
    (k3 : 0 ≤ (sy_i F 69).toInt → (sy_i F 69).toInt ≤ 2 → ((sy_ai F 67).getD ((sy_i F 69).toInt).toNat 0).toInt = 0 → ∀ F1 : Nat → sy_d, iv_in F1 iv_B4 → (∀ j, j < 69 → j ∉ ([] : List Nat) → F1 j = F j) → Q (some (.int ((0 : Int32)))) (sy_dh F1 X1 X2 (iv_H 4))) :
    hd_W Ls xs d jm_M237 Q (0, sy_dL F [some (.inl (.ref 1000)), some (.inr (.inl 69)), none], sy_dS F [], sy_dh F X1 X2 (iv_H 4), 0, 0) := by
  by_cases g0 : (sy_i F 69).toInt < 0
  · exact zrs_0_p0 hd F X1 X2 hB (by first | exact g0 | (simp only [nz_c]; exact g0)) (fun F1 g  => k0 g0 F1 (nz_in hB [] (fun j hj hn => g j hj (by simp only [List.mem_cons, List.not_mem_nil, or_false, not_or] at hn; exact trivial)) (List.forall_mem_nil _)) (fun j hj hn => g j hj (by simp only [List.mem_cons, List.not_mem_nil, or_false, not_or] at hn; exact trivial)) )
  replace g0 : 0 ≤ (sy_i F 69).toInt := by omega
  by_cases g1 : 2 < (sy_i F 69).toInt
  · exact zrs_0_p1 hd F X1 X2 hB (by first | exact g0 | (simp only [nz_c]; exact g0)) (by first | exact g1 | (simp only [nz_c]; exact g1)) (fun F1 g  => k1 g0 g1 F1 (nz_in hB [] (fun j hj hn => g j hj (by simp only [List.mem_cons, List.not_mem_nil, or_false, not_or] at hn; exact trivial)) (List.forall_mem_nil _)) (fun j hj hn => g j hj (by simp only [List.mem_cons, List.not_mem_nil, or_false, not_or] at hn; exact trivial)) )
  replace g1 : (sy_i F 69).toInt ≤ 2 := by omega
  by_cases g2 : ((sy_ai F 67).getD ((sy_i F 69).toInt).toNat 0).toInt ≠ 0
  · have q70 : (sy_ai F 67).getD (sy_i F 69).toNatClampNeg 0 = (sy_ai F 67).getD ((sy_i F 69).toInt).toNat 0 := by simp only [nz_c]
    have n70 : nzI ((sy_ai F 67).getD (sy_i F 69).toNatClampNeg 0) (((sy_ai F 67).getD ((sy_i F 69).toInt).toNat 0).toInt) := congrArg Int32.toInt q70
    have r70 := nz_ba hB (k := 67) (lo := 0) (hi := 1) rfl ((sy_i F 69).toInt).toNat
    exact zrs_0_p2 hd F X1 X2 hB (by first | exact g0 | (simp only [nz_c]; exact g0)) (by first | exact g1 | (simp only [nz_c]; exact g1)) (by first | exact ⟨by omega, by omega⟩ | (simp only [nz_c]; exact ⟨by omega, by omega⟩)) (by first | exact g2 | (simp only [nz_c]; exact g2) | (rw [(nzE n70)]; exact g2)) (fun F1 g e69 e70 => k2 g0 g1 g2 F1 (nz_in hB [] (fun j hj hn => g j hj (by simp only [List.mem_cons, List.not_mem_nil, or_false, not_or] at hn; exact trivial)) (List.forall_mem_nil _)) (fun j hj hn => g j hj (by simp only [List.mem_cons, List.not_mem_nil, or_false, not_or] at hn; exact trivial)) ((congrArg Int32.toInt (zz_i e69)).trans (rfl : (sy_i F 69).toInt = (sy_i F 69).toInt)) ((zz_i e69).trans (rfl : sy_i F 69 = sy_i F 69)) ((congrArg Int32.toInt (zz_i e70)).trans (by decide : ((0 : Int32)).toInt = 0)) ((zz_i e70).trans (rfl : (0 : Int32) = (0 : Int32))))
  replace g2 : ((sy_ai F 67).getD ((sy_i F 69).toInt).toNat 0).toInt = 0 := by omega
  have q70 : (sy_ai F 67).getD (sy_i F 69).toNatClampNeg 0 = (sy_ai F 67).getD ((sy_i F 69).toInt).toNat 0 := by simp only [nz_c]
  have n70 : nzI ((sy_ai F 67).getD (sy_i F 69).toNatClampNeg 0) (((sy_ai F 67).getD ((sy_i F 69).toInt).toNat 0).toInt) := congrArg Int32.toInt q70
  have r70 := nz_ba hB (k := 67) (lo := 0) (hi := 1) rfl ((sy_i F 69).toInt).toNat
  exact zrs_0_p3 hd F X1 X2 hB (by first | exact g0 | (simp only [nz_c]; exact g0)) (by first | exact g1 | (simp only [nz_c]; exact g1)) (by first | exact ⟨by omega, by omega⟩ | (simp only [nz_c]; exact ⟨by omega, by omega⟩)) (by first | exact g2 | (simp only [nz_c]; exact g2) | (rw [(nzE n70)]; exact g2)) (fun F1 g  => k3 g0 g1 g2 F1 (nz_in hB [] (fun j hj hn => g j hj (by simp only [List.mem_cons, List.not_mem_nil, or_false, not_or] at hn; exact trivial)) (List.forall_mem_nil _)) (fun j hj hn => g j hj (by simp only [List.mem_cons, List.not_mem_nil, or_false, not_or] at hn; exact trivial)) )
theorem zrs_22_p0 {Ls : Nat} {xs : Nat → Int32} {d : Nat} {Q : Option Value → jm_h → Prop} (hd : 1 ≤ d) (F : Nat → sy_d) (X1 X2 : List jm_c) (hB : iv_in F iv_B4)
    (h0 : 61 ≤ (sy_i F 70).toInt)
    (k : ∀ F1 : Nat → sy_d, (∀ j, j < 69 → j ≠ 20 → F1 j = F j) → F1 20 = .inl (.int ((0 : Int32))) → Q (some (.int ((1 : Int32)))) (sy_dh F1 X1 X2 (iv_H 4))) :
    hd_W Ls xs d jm_M237 Q (22, sy_dL F [some (.inl (.ref 1000)), some (.inr (.inl 69)), some (.inr (.inl 70))], sy_dS F [], sy_dh F X1 X2 (iv_H 4), 0, 0) := by
  refine hd_ret (s := 4) (nv := 71) (v := some (.inl (.int 1))) (uh := hd_ov (iv_id 0 iv_B4) [(20, .inl (.inl (.int 0)))]) (f := true) (sp := [22]) (d0 := 0) (O := [true]) (T := []) (P := [(4, .inl (.int 61), .inr (.inl 70))]) jm_ok237 (by decide +kernel) (by decide +kernel) hd F X1 X2 (fun F' hF hs => ?_)
  have b70 := hd_b (F := F) (F' := F') (k := 70) (hF 70 (by decide))
  have hB' : iv_in F' iv_B4 := iv_in_eq hB (fun j hj => hF j (Nat.lt_of_lt_of_le hj (by decide +kernel)))
  refine ⟨List.forall_mem_cons.mpr ⟨hd_p4 rfl b70 (by have hc : ((61) : Int32).toInt = 61 := (by decide); omega), fun _ h => absurd h List.not_mem_nil⟩, ?_⟩
  refine k _ ?_ ?_
  · exact fun j hj hn => (hd_keep hB' (Nat.lt_of_lt_of_le hj (by decide +kernel)) (by simp; omega)).trans (hF j (Nat.lt_of_lt_of_le hj (by decide)))
  · exact hd_gi (x := .inl (.int 0)) (by decide +kernel) rfl
theorem zrs_22_p1 {Ls : Nat} {xs : Nat → Int32} {d : Nat} {Q : Option Value → jm_h → Prop} (hd : 1 ≤ d) (F : Nat → sy_d) (X1 X2 : List jm_c) (hB : iv_in F iv_B4)
    (h0 : (sy_i F 70).toInt < 61)
    (h1 : 0 ≤ ((((61 : Int32)) * (sy_i F 69)) + (sy_i F 70)).toInt ∧ ((((61 : Int32)) * (sy_i F 69)) + (sy_i F 70)).toInt < 183)
    (h2 : 0 ≤ (sy_i F 70).toInt ∧ (sy_i F 70).toInt < 61)
    (k : ∀ F1 : Nat → sy_d, (∀ j, j < 69 → j ≠ 54 → F1 j = F j) → F1 54 = .inr (.inl (jm_upd (sy_ai F 54) (sy_i F 70).toNatClampNeg ((sy_ai F 68).getD ((((61 : Int32)) * (sy_i F 69)) + (sy_i F 70)).toNatClampNeg 0))) → F1 69 = .inl (.int (sy_i F 69)) → F1 70 = .inl (.int ((sy_i F 70) + ((1 : Int32)))) → hd_W Ls xs d jm_M237 Q (22, sy_dL F1 [some (.inl (.ref 1000)), some (.inr (.inl 69)), some (.inr (.inl 70))], sy_dS F1 [], sy_dh F1 X1 X2 (iv_H 4), 0, 0)) :
    hd_W Ls xs d jm_M237 Q (22, sy_dL F [some (.inl (.ref 1000)), some (.inr (.inl 69)), some (.inr (.inl 70))], sy_dS F [], sy_dh F X1 X2 (iv_H 4), 0, 0) := by
  refine hd_run (s := 4) (nv := 71) (pc := 22) (L := [some (.inl (.ref 1000)), some (.inr (.inl 69)), some (.inr (.inl 70))]) (S := []) (uh := hd_ov (iv_id 0 iv_B4) [(54, .inr (.inr (.inl 74)))]) (ul := [.inl (.inr (.inl 69)), .inl (.inr (.inl 75))]) (f := true) (sp := [22]) (d0 := 0) (O := [false]) (T := [(2, [.inl (.int 61), .inr (.inl 69)], []), (0, [.inr (.inl 71), .inr (.inl 70)], []), (30, [.inr (.inl 72)], [.inr (.inl 68)]), (40, [.inr (.inl 70), .inr (.inl 73)], [.inr (.inl 54)]), (0, [.inr (.inl 70), .inl (.int 1)], [])]) (P := [(5, .inl (.int 61), .inr (.inl 70)), (6, .inr (.inl 72), .inl (.ref 183)), (6, .inr (.inl 70), .inl (.ref 61))]) jm_ok237 (by decide +kernel) (by decide +kernel) hd F X1 X2 (fun F' hF hs => ?_)
  have b70 := hd_b (F := F) (F' := F') (k := 70) (hF 70 (by decide))
  have b69 := hd_b (F := F) (F' := F') (k := 69) (hF 69 (by decide))
  have t71 : sy_dv F' (.inr (.inl 71)) = .int (((61 : Int32)) * (sy_i F 69)) := hd_o (hs 0 _ rfl) rfl b69 rfl
  have t72 : sy_dv F' (.inr (.inl 72)) = .int ((((61 : Int32)) * (sy_i F 69)) + (sy_i F 70)) := hd_o (hs 1 _ rfl) t71 b70 rfl
  have a68 := hd_ba (F := F) (F' := F') (k := 68) (hF 68 (by decide))
  have t73 : sy_dv F' (.inr (.inl 73)) = .int ((sy_ai F 68).getD ((((61 : Int32)) * (sy_i F 69)) + (sy_i F 70)).toNatClampNeg 0) := hd_rd (hs 2 _ rfl) t72 a68
  have a54 := hd_ba (F := F) (F' := F') (k := 54) (hF 54 (by decide))
  have t74 : sy_da F' (.inr (.inl 74)) = .inl (jm_upd (sy_ai F 54) (sy_i F 70).toNatClampNeg ((sy_ai F 68).getD ((((61 : Int32)) * (sy_i F 69)) + (sy_i F 70)).toNatClampNeg 0)) := hd_up (hs 3 _ rfl) b70 t73 a54
  have t75 : sy_dv F' (.inr (.inl 75)) = .int ((sy_i F 70) + ((1 : Int32))) := hd_o (hs 4 _ rfl) b70 rfl rfl
  have hB' : iv_in F' iv_B4 := iv_in_eq hB (fun j hj => hF j (Nat.lt_of_lt_of_le hj (by decide +kernel)))
  refine ⟨List.forall_mem_cons.mpr ⟨hd_p5 rfl b70 (by have hc : ((61) : Int32).toInt = 61 := (by decide); omega), List.forall_mem_cons.mpr ⟨hd_pb t72 (by first | exact h1 | exact h1), List.forall_mem_cons.mpr ⟨hd_pb b70 (by first | exact h2 | exact h2), fun _ h => absurd h List.not_mem_nil⟩⟩⟩, ?_⟩
  refine k _ ?_ ?_ ?_ ?_
  · exact fun j hj hn => (hd_keep hB' (Nat.lt_of_lt_of_le hj (by decide +kernel)) (by simp; omega)).trans (hF j (Nat.lt_of_lt_of_le hj (by decide)))
  · exact hd_ga (a := .inr (.inl 74)) (by decide +kernel) t74
  · exact hd_gi (x := .inr (.inl 69)) (by decide +kernel) b69
  · exact hd_gi (x := .inr (.inl 75)) (by decide +kernel) t75
theorem zrs_22 {Ls : Nat} {xs : Nat → Int32} {d : Nat} {Q : Option Value → jm_h → Prop} (hd : 1 ≤ d) (F : Nat → sy_d) (X1 X2 : List jm_c) (hB : iv_in F iv_B4)
    (a69 : 0 ≤ (sy_i F 69).toInt ∧ (sy_i F 69).toInt ≤ 2)
    (a70 : 0 ≤ (sy_i F 70).toInt ∧ (sy_i F 70).toInt ≤ 61)
    (k0 : 61 ≤ (sy_i F 70).toInt → ∀ F1 : Nat → sy_d, iv_in F1 iv_B4 → (∀ j, j < 69 → j ∉ ([20] : List Nat) → F1 j = F j) → (sy_i F1 20).toInt = 0 → sy_i F1 20 = (0 : Int32) → Q (some (.int ((1 : Int32)))) (sy_dh F1 X1 X2 (iv_H 4)))
    (k1 : (sy_i F 70).toInt < 61 → ∀ F1 : Nat → sy_d, iv_in F1 iv_B4 → (∀ j, j < 69 → j ∉ ([54] : List Nat) → F1 j = F j) → sy_ai F1 54 = jm_upd (sy_ai F 54) ((sy_i F 70).toInt).toNat ((sy_ai F 68).getD (((61 * (sy_i F 69).toInt) + (sy_i F 70).toInt)).toNat 0) → (sy_i F1 69).toInt = (sy_i F 69).toInt → sy_i F1 69 = sy_i F 69 → (sy_i F1 70).toInt = ((sy_i F 70).toInt + 1) → sy_i F1 70 = (sy_i F 70) + ((1 : Int32)) → hd_W Ls xs d jm_M237 Q (22, sy_dL F1 [some (.inl (.ref 1000)), some (.inr (.inl 69)), some (.inr (.inl 70))], sy_dS F1 [], sy_dh F1 X1 X2 (iv_H 4), 0, 0)) :
    hd_W Ls xs d jm_M237 Q (22, sy_dL F [some (.inl (.ref 1000)), some (.inr (.inl 69)), some (.inr (.inl 70))], sy_dS F [], sy_dh F X1 X2 (iv_H 4), 0, 0) := by
  by_cases g0 : 61 ≤ (sy_i F 70).toInt
  · exact zrs_22_p0 hd F X1 X2 hB (by first | exact g0 | (simp only [nz_c]; exact g0)) (fun F1 g e20 => k0 g0 F1 (nz_in hB [20] (fun j hj hn => g j hj (by simp only [List.mem_cons, List.not_mem_nil, or_false, not_or] at hn; omega)) (List.forall_mem_cons.mpr ⟨fun t ht => (Option.some.inj ht) ▸ (nz_hi e20 (by decide : ((0 : Int32)).toInt = 0) (by omega) (by omega)), List.forall_mem_nil _⟩)) (fun j hj hn => g j hj (by simp only [List.mem_cons, List.not_mem_nil, or_false, not_or] at hn; omega)) ((congrArg Int32.toInt (zz_i e20)).trans (by decide : ((0 : Int32)).toInt = 0)) ((zz_i e20).trans (rfl : (0 : Int32) = (0 : Int32))))
  replace g0 : (sy_i F 70).toInt < 61 := by omega
  have n71 : nzI (((61 : Int32)) * (sy_i F 69)) ((61 * (sy_i F 69).toInt)) := nz_mul (by decide : ((61 : Int32)).toInt = 61) (rfl : (sy_i F 69).toInt = (sy_i F 69).toInt) (by omega) (by omega)
  have n72 : nzI ((((61 : Int32)) * (sy_i F 69)) + (sy_i F 70)) (((61 * (sy_i F 69).toInt) + (sy_i F 70).toInt)) := nz_add (nzE n71) (rfl : (sy_i F 70).toInt = (sy_i F 70).toInt) (by omega) (by omega)
  have w74 : jm_upd (sy_ai F 54) (sy_i F 70).toNatClampNeg ((sy_ai F 68).getD ((((61 : Int32)) * (sy_i F 69)) + (sy_i F 70)).toNatClampNeg 0) = jm_upd (sy_ai F 54) ((sy_i F 70).toInt).toNat ((sy_ai F 68).getD (((61 * (sy_i F 69).toInt) + (sy_i F 70).toInt)).toNat 0) := by simp only [nz_c, (nzE n71), (nzE n72), (by decide : ((61 : Int32)).toInt = 61)]
  have n75 : nzI ((sy_i F 70) + ((1 : Int32))) (((sy_i F 70).toInt + 1)) := nz_add (rfl : (sy_i F 70).toInt = (sy_i F 70).toInt) (by decide : ((1 : Int32)).toInt = 1) (by omega) (by omega)
  exact zrs_22_p1 hd F X1 X2 hB (by first | exact g0 | (simp only [nz_c]; exact g0)) (by first | (simp only [nz_c, (nzE n71), (nzE n72)]; exact ⟨by omega, by omega⟩) | exact ⟨by omega, by omega⟩ | (rw [(nzE n72)]; exact ⟨by omega, by omega⟩)) (by first | exact ⟨by omega, by omega⟩ | (simp only [nz_c]; exact ⟨by omega, by omega⟩)) (fun F1 g e54 e69 e70 => k1 g0 F1 (nz_in hB [54] (fun j hj hn => g j hj (by simp only [List.mem_cons, List.not_mem_nil, or_false, not_or] at hn; omega)) (List.forall_mem_cons.mpr ⟨fun t ht => (Option.some.inj ht) ▸ (nz_hz2 e54), List.forall_mem_nil _⟩)) (fun j hj hn => g j hj (by simp only [List.mem_cons, List.not_mem_nil, or_false, not_or] at hn; omega)) ((zz_ai e54).trans w74) ((congrArg Int32.toInt (zz_i e69)).trans (rfl : (sy_i F 69).toInt = (sy_i F 69).toInt)) ((zz_i e69).trans (rfl : sy_i F 69 = sy_i F 69)) ((congrArg Int32.toInt (zz_i e70)).trans (nzE n75)) ((zz_i e70).trans (rfl : (sy_i F 70) + ((1 : Int32)) = (sy_i F 70) + ((1 : Int32)))))
theorem zbg_0_p0 {Ls : Nat} {xs : Nat → Int32} {d : Nat} {Q : Option Value → jm_h → Prop} (hd : 1 ≤ d) (F : Nat → sy_d) (X1 X2 : List jm_c) (hB : iv_in F iv_B4)
    (k : ∀ F1 : Nat → sy_d, (∀ j, j < 69 → True → F1 j = F j) → F1 69 = .inl (.int ((0 : Int32))) → hd_W Ls xs d jm_M171 Q (2, sy_dL F1 [some (.inl (.ref 1000)), some (.inr (.inl 69))], sy_dS F1 [], sy_dh F1 X1 X2 (iv_H 4), 0, 0)) :
    hd_W Ls xs d jm_M171 Q (0, sy_dL F [some (.inl (.ref 1000)), none], sy_dS F [], sy_dh F X1 X2 (iv_H 4), 0, 0) := by
  refine hd_run (s := 4) (nv := 69) (pc := 2) (L := [some (.inl (.ref 1000)), some (.inr (.inl 69))]) (S := []) (uh := hd_ov (iv_id 0 iv_B4) []) (ul := [.inl (.inl (.int 0))]) (f := true) (sp := [2]) (d0 := 0) (O := []) (T := []) (P := []) jm_ok171 (by decide +kernel) (by decide +kernel) hd F X1 X2 (fun F' hF hs => ?_)
  have hB' : iv_in F' iv_B4 := iv_in_eq hB (fun j hj => hF j (Nat.lt_of_lt_of_le hj (by decide +kernel)))
  refine ⟨fun _ h => absurd h List.not_mem_nil, ?_⟩
  refine k _ ?_ ?_
  · exact fun j hj _ => (hd_keep hB' (Nat.lt_of_lt_of_le hj (by decide +kernel)) (by simp)).trans (hF j (Nat.lt_of_lt_of_le hj (by decide)))
  · exact hd_gi (x := .inl (.int 0)) (by decide +kernel) rfl
theorem zbg_0 {Ls : Nat} {xs : Nat → Int32} {d : Nat} {Q : Option Value → jm_h → Prop} (hd : 1 ≤ d) (F : Nat → sy_d) (X1 X2 : List jm_c) (hB : iv_in F iv_B4)
    (k0 : ∀ F1 : Nat → sy_d, iv_in F1 iv_B4 → (∀ j, j < 69 → j ∉ ([] : List Nat) → F1 j = F j) → (sy_i F1 69).toInt = 0 → sy_i F1 69 = (0 : Int32) → hd_W Ls xs d jm_M171 Q (2, sy_dL F1 [some (.inl (.ref 1000)), some (.inr (.inl 69))], sy_dS F1 [], sy_dh F1 X1 X2 (iv_H 4), 0, 0)) :
    hd_W Ls xs d jm_M171 Q (0, sy_dL F [some (.inl (.ref 1000)), none], sy_dS F [], sy_dh F X1 X2 (iv_H 4), 0, 0) := by
  exact zbg_0_p0 hd F X1 X2 hB  (fun F1 g e69 => k0 F1 (nz_in hB [] (fun j hj hn => g j hj (by simp only [List.mem_cons, List.not_mem_nil, or_false, not_or] at hn; exact trivial)) (List.forall_mem_nil _)) (fun j hj hn => g j hj (by simp only [List.mem_cons, List.not_mem_nil, or_false, not_or] at hn; exact trivial)) ((congrArg Int32.toInt (zz_i e69)).trans (by decide : ((0 : Int32)).toInt = 0)) ((zz_i e69).trans (rfl : (0 : Int32) = (0 : Int32))))
theorem zbg_2_p0 {Ls : Nat} {xs : Nat → Int32} {d : Nat} {Q : Option Value → jm_h → Prop} (hd : 1 ≤ d) (F : Nat → sy_d) (X1 X2 : List jm_c) (hB : iv_in F iv_B4)
    (h0 : 61 ≤ (sy_i F 69).toInt)
    (k : ∀ F1 : Nat → sy_d, (∀ j, j < 69 → True → F1 j = F j) → F1 69 = .inl (.int ((0 : Int32))) → hd_W Ls xs d jm_M171 Q (23, sy_dL F1 [some (.inl (.ref 1000)), some (.inr (.inl 69))], sy_dS F1 [], sy_dh F1 X1 X2 (iv_H 4), 0, 0)) :
    hd_W Ls xs d jm_M171 Q (2, sy_dL F [some (.inl (.ref 1000)), some (.inr (.inl 69))], sy_dS F [], sy_dh F X1 X2 (iv_H 4), 0, 0) := by
  refine hd_run (s := 4) (nv := 70) (pc := 23) (L := [some (.inl (.ref 1000)), some (.inr (.inl 69))]) (S := []) (uh := hd_ov (iv_id 0 iv_B4) []) (ul := [.inl (.inl (.int 0))]) (f := true) (sp := [2, 23]) (d0 := 0) (O := [true]) (T := []) (P := [(4, .inl (.int 61), .inr (.inl 69))]) jm_ok171 (by decide +kernel) (by decide +kernel) hd F X1 X2 (fun F' hF hs => ?_)
  have b69 := hd_b (F := F) (F' := F') (k := 69) (hF 69 (by decide))
  have hB' : iv_in F' iv_B4 := iv_in_eq hB (fun j hj => hF j (Nat.lt_of_lt_of_le hj (by decide +kernel)))
  refine ⟨List.forall_mem_cons.mpr ⟨hd_p4 rfl b69 (by have hc : ((61) : Int32).toInt = 61 := (by decide); omega), fun _ h => absurd h List.not_mem_nil⟩, ?_⟩
  refine k _ ?_ ?_
  · exact fun j hj _ => (hd_keep hB' (Nat.lt_of_lt_of_le hj (by decide +kernel)) (by simp)).trans (hF j (Nat.lt_of_lt_of_le hj (by decide)))
  · exact hd_gi (x := .inl (.int 0)) (by decide +kernel) rfl
theorem zbg_2_p1 {Ls : Nat} {xs : Nat → Int32} {d : Nat} {Q : Option Value → jm_h → Prop} (hd : 1 ≤ d) (F : Nat → sy_d) (X1 X2 : List jm_c) (hB : iv_in F iv_B4)
    (h0 : (sy_i F 69).toInt < 61)
    (h1 : 0 ≤ (sy_i F 69).toInt ∧ (sy_i F 69).toInt < 61)
    (k : ∀ F1 : Nat → sy_d, (∀ j, j < 69 → j ≠ 55 → F1 j = F j) → F1 55 = .inr (.inl (jm_upd (sy_ai F 55) (sy_i F 69).toNatClampNeg ((0 : Int32)))) → F1 69 = .inl (.int ((sy_i F 69) + ((1 : Int32)))) → hd_W Ls xs d jm_M171 Q (2, sy_dL F1 [some (.inl (.ref 1000)), some (.inr (.inl 69))], sy_dS F1 [], sy_dh F1 X1 X2 (iv_H 4), 0, 0)) :
    hd_W Ls xs d jm_M171 Q (2, sy_dL F [some (.inl (.ref 1000)), some (.inr (.inl 69))], sy_dS F [], sy_dh F X1 X2 (iv_H 4), 0, 0) := by
  refine hd_run (s := 4) (nv := 70) (pc := 2) (L := [some (.inl (.ref 1000)), some (.inr (.inl 69))]) (S := []) (uh := hd_ov (iv_id 0 iv_B4) [(55, .inr (.inr (.inl 70)))]) (ul := [.inl (.inr (.inl 71))]) (f := true) (sp := [2, 23]) (d0 := 0) (O := [false]) (T := [(40, [.inr (.inl 69), .inl (.int 0)], [.inr (.inl 55)]), (0, [.inr (.inl 69), .inl (.int 1)], [])]) (P := [(5, .inl (.int 61), .inr (.inl 69)), (6, .inr (.inl 69), .inl (.ref 61))]) jm_ok171 (by decide +kernel) (by decide +kernel) hd F X1 X2 (fun F' hF hs => ?_)
  have b69 := hd_b (F := F) (F' := F') (k := 69) (hF 69 (by decide))
  have a55 := hd_ba (F := F) (F' := F') (k := 55) (hF 55 (by decide))
  have t70 : sy_da F' (.inr (.inl 70)) = .inl (jm_upd (sy_ai F 55) (sy_i F 69).toNatClampNeg ((0 : Int32))) := hd_up (hs 0 _ rfl) b69 rfl a55
  have t71 : sy_dv F' (.inr (.inl 71)) = .int ((sy_i F 69) + ((1 : Int32))) := hd_o (hs 1 _ rfl) b69 rfl rfl
  have hB' : iv_in F' iv_B4 := iv_in_eq hB (fun j hj => hF j (Nat.lt_of_lt_of_le hj (by decide +kernel)))
  refine ⟨List.forall_mem_cons.mpr ⟨hd_p5 rfl b69 (by have hc : ((61) : Int32).toInt = 61 := (by decide); omega), List.forall_mem_cons.mpr ⟨hd_pb b69 (by first | exact h1 | exact h1), fun _ h => absurd h List.not_mem_nil⟩⟩, ?_⟩
  refine k _ ?_ ?_ ?_
  · exact fun j hj hn => (hd_keep hB' (Nat.lt_of_lt_of_le hj (by decide +kernel)) (by simp; omega)).trans (hF j (Nat.lt_of_lt_of_le hj (by decide)))
  · exact hd_ga (a := .inr (.inl 70)) (by decide +kernel) t70
  · exact hd_gi (x := .inr (.inl 71)) (by decide +kernel) t71
theorem zbg_2 {Ls : Nat} {xs : Nat → Int32} {d : Nat} {Q : Option Value → jm_h → Prop} (hd : 1 ≤ d) (F : Nat → sy_d) (X1 X2 : List jm_c) (hB : iv_in F iv_B4)
    (a69 : 0 ≤ (sy_i F 69).toInt ∧ (sy_i F 69).toInt ≤ 61)
    (k0 : 61 ≤ (sy_i F 69).toInt → ∀ F1 : Nat → sy_d, iv_in F1 iv_B4 → (∀ j, j < 69 → j ∉ ([] : List Nat) → F1 j = F j) → (sy_i F1 69).toInt = 0 → sy_i F1 69 = (0 : Int32) → hd_W Ls xs d jm_M171 Q (23, sy_dL F1 [some (.inl (.ref 1000)), some (.inr (.inl 69))], sy_dS F1 [], sy_dh F1 X1 X2 (iv_H 4), 0, 0))
    (k1 : (sy_i F 69).toInt < 61 → ∀ F1 : Nat → sy_d, iv_in F1 iv_B4 → (∀ j, j < 69 → j ∉ ([55] : List Nat) → F1 j = F j) → sy_ai F1 55 = jm_upd (sy_ai F 55) ((sy_i F 69).toInt).toNat ((0 : Int32)) → (sy_i F1 69).toInt = ((sy_i F 69).toInt + 1) → sy_i F1 69 = (sy_i F 69) + ((1 : Int32)) → hd_W Ls xs d jm_M171 Q (2, sy_dL F1 [some (.inl (.ref 1000)), some (.inr (.inl 69))], sy_dS F1 [], sy_dh F1 X1 X2 (iv_H 4), 0, 0)) :
    hd_W Ls xs d jm_M171 Q (2, sy_dL F [some (.inl (.ref 1000)), some (.inr (.inl 69))], sy_dS F [], sy_dh F X1 X2 (iv_H 4), 0, 0) := by
  by_cases g0 : 61 ≤ (sy_i F 69).toInt
  · exact zbg_2_p0 hd F X1 X2 hB (by first | exact g0 | (simp only [nz_c]; exact g0)) (fun F1 g e69 => k0 g0 F1 (nz_in hB [] (fun j hj hn => g j hj (by simp only [List.mem_cons, List.not_mem_nil, or_false, not_or] at hn; exact trivial)) (List.forall_mem_nil _)) (fun j hj hn => g j hj (by simp only [List.mem_cons, List.not_mem_nil, or_false, not_or] at hn; exact trivial)) ((congrArg Int32.toInt (zz_i e69)).trans (by decide : ((0 : Int32)).toInt = 0)) ((zz_i e69).trans (rfl : (0 : Int32) = (0 : Int32))))
  replace g0 : (sy_i F 69).toInt < 61 := by omega
  have w70 : jm_upd (sy_ai F 55) (sy_i F 69).toNatClampNeg ((0 : Int32)) = jm_upd (sy_ai F 55) ((sy_i F 69).toInt).toNat ((0 : Int32)) := by simp only [nz_c, (by decide : ((0 : Int32)).toInt = 0)]
  have n71 : nzI ((sy_i F 69) + ((1 : Int32))) (((sy_i F 69).toInt + 1)) := nz_add (rfl : (sy_i F 69).toInt = (sy_i F 69).toInt) (by decide : ((1 : Int32)).toInt = 1) (by omega) (by omega)
  exact zbg_2_p1 hd F X1 X2 hB (by first | exact g0 | (simp only [nz_c]; exact g0)) (by first | exact ⟨by omega, by omega⟩ | (simp only [nz_c]; exact ⟨by omega, by omega⟩)) (fun F1 g e55 e69 => k1 g0 F1 (nz_in hB [55] (fun j hj hn => g j hj (by simp only [List.mem_cons, List.not_mem_nil, or_false, not_or] at hn; omega)) (List.forall_mem_cons.mpr ⟨fun t ht => (Option.some.inj ht) ▸ (nz_hz2 e55), List.forall_mem_nil _⟩)) (fun j hj hn => g j hj (by simp only [List.mem_cons, List.not_mem_nil, or_false, not_or] at hn; omega)) ((zz_ai e55).trans w70) ((congrArg Int32.toInt (zz_i e69)).trans (nzE n71)) ((zz_i e69).trans (rfl : (sy_i F 69) + ((1 : Int32)) = (sy_i F 69) + ((1 : Int32)))))
theorem zbg_23_p0 {Ls : Nat} {xs : Nat → Int32} {d : Nat} {Q : Option Value → jm_h → Prop} (hd : 1 ≤ d) (F : Nat → sy_d) (X1 X2 : List jm_c) (hB : iv_in F iv_B4)
    (h0 : 7 ≤ (sy_i F 69).toInt)
    (k : ∀ F1 : Nat → sy_d, (∀ j, j < 69 → True → F1 j = F j) → F1 69 = .inl (.int ((0 : Int32))) → hd_W Ls xs d jm_M171 Q (48, sy_dL F1 [some (.inl (.ref 1000)), some (.inr (.inl 69))], sy_dS F1 [], sy_dh F1 X1 X2 (iv_H 4), 0, 0)) :
    hd_W Ls xs d jm_M171 Q (23, sy_dL F [some (.inl (.ref 1000)), some (.inr (.inl 69))], sy_dS F [], sy_dh F X1 X2 (iv_H 4), 0, 0) := by
  refine hd_run (s := 4) (nv := 70) (pc := 48) (L := [some (.inl (.ref 1000)), some (.inr (.inl 69))]) (S := []) (uh := hd_ov (iv_id 0 iv_B4) []) (ul := [.inl (.inl (.int 0))]) (f := true) (sp := [23, 48]) (d0 := 0) (O := [true]) (T := []) (P := [(4, .inl (.int 7), .inr (.inl 69))]) jm_ok171 (by decide +kernel) (by decide +kernel) hd F X1 X2 (fun F' hF hs => ?_)
  have b69 := hd_b (F := F) (F' := F') (k := 69) (hF 69 (by decide))
  have hB' : iv_in F' iv_B4 := iv_in_eq hB (fun j hj => hF j (Nat.lt_of_lt_of_le hj (by decide +kernel)))
  refine ⟨List.forall_mem_cons.mpr ⟨hd_p4 rfl b69 (by have hc : ((7) : Int32).toInt = 7 := (by decide); omega), fun _ h => absurd h List.not_mem_nil⟩, ?_⟩
  refine k _ ?_ ?_
  · exact fun j hj _ => (hd_keep hB' (Nat.lt_of_lt_of_le hj (by decide +kernel)) (by simp)).trans (hF j (Nat.lt_of_lt_of_le hj (by decide)))
  · exact hd_gi (x := .inl (.int 0)) (by decide +kernel) rfl
theorem zbg_23_p1 {Ls : Nat} {xs : Nat → Int32} {d : Nat} {Q : Option Value → jm_h → Prop} (hd : 1 ≤ d) (F : Nat → sy_d) (X1 X2 : List jm_c) (hB : iv_in F iv_B4)
    (h0 : (sy_i F 69).toInt < 7)
    (h1 : 0 ≤ (((21 : Int32)) + (sy_i F 69)).toInt ∧ (((21 : Int32)) + (sy_i F 69)).toInt < 61)
    (k : ∀ F1 : Nat → sy_d, (∀ j, j < 69 → j ≠ 55 → F1 j = F j) → F1 55 = .inr (.inl (jm_upd (sy_ai F 55) (((21 : Int32)) + (sy_i F 69)).toNatClampNeg (((-2) : Int32)))) → F1 69 = .inl (.int ((sy_i F 69) + ((1 : Int32)))) → hd_W Ls xs d jm_M171 Q (23, sy_dL F1 [some (.inl (.ref 1000)), some (.inr (.inl 69))], sy_dS F1 [], sy_dh F1 X1 X2 (iv_H 4), 0, 0)) :
    hd_W Ls xs d jm_M171 Q (23, sy_dL F [some (.inl (.ref 1000)), some (.inr (.inl 69))], sy_dS F [], sy_dh F X1 X2 (iv_H 4), 0, 0) := by
  refine hd_run (s := 4) (nv := 70) (pc := 23) (L := [some (.inl (.ref 1000)), some (.inr (.inl 69))]) (S := []) (uh := hd_ov (iv_id 0 iv_B4) [(55, .inr (.inr (.inl 71)))]) (ul := [.inl (.inr (.inl 72))]) (f := true) (sp := [23, 48]) (d0 := 0) (O := [false]) (T := [(0, [.inl (.int 21), .inr (.inl 69)], []), (40, [.inr (.inl 70), .inl (.int (-2))], [.inr (.inl 55)]), (0, [.inr (.inl 69), .inl (.int 1)], [])]) (P := [(5, .inl (.int 7), .inr (.inl 69)), (6, .inr (.inl 70), .inl (.ref 61))]) jm_ok171 (by decide +kernel) (by decide +kernel) hd F X1 X2 (fun F' hF hs => ?_)
  have b69 := hd_b (F := F) (F' := F') (k := 69) (hF 69 (by decide))
  have t70 : sy_dv F' (.inr (.inl 70)) = .int (((21 : Int32)) + (sy_i F 69)) := hd_o (hs 0 _ rfl) rfl b69 rfl
  have a55 := hd_ba (F := F) (F' := F') (k := 55) (hF 55 (by decide))
  have t71 : sy_da F' (.inr (.inl 71)) = .inl (jm_upd (sy_ai F 55) (((21 : Int32)) + (sy_i F 69)).toNatClampNeg (((-2) : Int32))) := hd_up (hs 1 _ rfl) t70 rfl a55
  have t72 : sy_dv F' (.inr (.inl 72)) = .int ((sy_i F 69) + ((1 : Int32))) := hd_o (hs 2 _ rfl) b69 rfl rfl
  have hB' : iv_in F' iv_B4 := iv_in_eq hB (fun j hj => hF j (Nat.lt_of_lt_of_le hj (by decide +kernel)))
  refine ⟨List.forall_mem_cons.mpr ⟨hd_p5 rfl b69 (by have hc : ((7) : Int32).toInt = 7 := (by decide); omega), List.forall_mem_cons.mpr ⟨hd_pb t70 (by first | exact h1 | exact h1), fun _ h => absurd h List.not_mem_nil⟩⟩, ?_⟩
  refine k _ ?_ ?_ ?_
  · exact fun j hj hn => (hd_keep hB' (Nat.lt_of_lt_of_le hj (by decide +kernel)) (by simp; omega)).trans (hF j (Nat.lt_of_lt_of_le hj (by decide)))
  · exact hd_ga (a := .inr (.inl 71)) (by decide +kernel) t71
  · exact hd_gi (x := .inr (.inl 72)) (by decide +kernel) t72
theorem zbg_23 {Ls : Nat} {xs : Nat → Int32} {d : Nat} {Q : Option Value → jm_h → Prop} (hd : 1 ≤ d) (F : Nat → sy_d) (X1 X2 : List jm_c) (hB : iv_in F iv_B4)
    (a69 : 0 ≤ (sy_i F 69).toInt ∧ (sy_i F 69).toInt ≤ 7)
    (k0 : 7 ≤ (sy_i F 69).toInt → ∀ F1 : Nat → sy_d, iv_in F1 iv_B4 → (∀ j, j < 69 → j ∉ ([] : List Nat) → F1 j = F j) → (sy_i F1 69).toInt = 0 → sy_i F1 69 = (0 : Int32) → hd_W Ls xs d jm_M171 Q (48, sy_dL F1 [some (.inl (.ref 1000)), some (.inr (.inl 69))], sy_dS F1 [], sy_dh F1 X1 X2 (iv_H 4), 0, 0))
    (k1 : (sy_i F 69).toInt < 7 → ∀ F1 : Nat → sy_d, iv_in F1 iv_B4 → (∀ j, j < 69 → j ∉ ([55] : List Nat) → F1 j = F j) → sy_ai F1 55 = jm_upd (sy_ai F 55) ((21 + (sy_i F 69).toInt)).toNat (((-2) : Int32)) → (sy_i F1 69).toInt = ((sy_i F 69).toInt + 1) → sy_i F1 69 = (sy_i F 69) + ((1 : Int32)) → hd_W Ls xs d jm_M171 Q (23, sy_dL F1 [some (.inl (.ref 1000)), some (.inr (.inl 69))], sy_dS F1 [], sy_dh F1 X1 X2 (iv_H 4), 0, 0)) :
    hd_W Ls xs d jm_M171 Q (23, sy_dL F [some (.inl (.ref 1000)), some (.inr (.inl 69))], sy_dS F [], sy_dh F X1 X2 (iv_H 4), 0, 0) := by
  by_cases g0 : 7 ≤ (sy_i F 69).toInt
  · exact zbg_23_p0 hd F X1 X2 hB (by first | exact g0 | (simp only [nz_c]; exact g0)) (fun F1 g e69 => k0 g0 F1 (nz_in hB [] (fun j hj hn => g j hj (by simp only [List.mem_cons, List.not_mem_nil, or_false, not_or] at hn; exact trivial)) (List.forall_mem_nil _)) (fun j hj hn => g j hj (by simp only [List.mem_cons, List.not_mem_nil, or_false, not_or] at hn; exact trivial)) ((congrArg Int32.toInt (zz_i e69)).trans (by decide : ((0 : Int32)).toInt = 0)) ((zz_i e69).trans (rfl : (0 : Int32) = (0 : Int32))))
  replace g0 : (sy_i F 69).toInt < 7 := by omega
  have n70 : nzI (((21 : Int32)) + (sy_i F 69)) ((21 + (sy_i F 69).toInt)) := nz_add (by decide : ((21 : Int32)).toInt = 21) (rfl : (sy_i F 69).toInt = (sy_i F 69).toInt) (by omega) (by omega)
  have w71 : jm_upd (sy_ai F 55) (((21 : Int32)) + (sy_i F 69)).toNatClampNeg (((-2) : Int32)) = jm_upd (sy_ai F 55) ((21 + (sy_i F 69).toInt)).toNat (((-2) : Int32)) := by simp only [nz_c, (nzE n70), (by decide : (((-2) : Int32)).toInt = (-2 : Int)), (by decide : ((21 : Int32)).toInt = 21)]
  have n72 : nzI ((sy_i F 69) + ((1 : Int32))) (((sy_i F 69).toInt + 1)) := nz_add (rfl : (sy_i F 69).toInt = (sy_i F 69).toInt) (by decide : ((1 : Int32)).toInt = 1) (by omega) (by omega)
  exact zbg_23_p1 hd F X1 X2 hB (by first | exact g0 | (simp only [nz_c]; exact g0)) (by first | (simp only [nz_c, (nzE n70)]; exact ⟨by omega, by omega⟩) | exact ⟨by omega, by omega⟩ | (rw [(nzE n70)]; exact ⟨by omega, by omega⟩)) (fun F1 g e55 e69 => k1 g0 F1 (nz_in hB [55] (fun j hj hn => g j hj (by simp only [List.mem_cons, List.not_mem_nil, or_false, not_or] at hn; omega)) (List.forall_mem_cons.mpr ⟨fun t ht => (Option.some.inj ht) ▸ (nz_hz2 e55), List.forall_mem_nil _⟩)) (fun j hj hn => g j hj (by simp only [List.mem_cons, List.not_mem_nil, or_false, not_or] at hn; omega)) ((zz_ai e55).trans w71) ((congrArg Int32.toInt (zz_i e69)).trans (nzE n72)) ((zz_i e69).trans (rfl : (sy_i F 69) + ((1 : Int32)) = (sy_i F 69) + ((1 : Int32)))))
theorem zbg_48_p0 {Ls : Nat} {xs : Nat → Int32} {d : Nat} {Q : Option Value → jm_h → Prop} (hd : 1 ≤ d) (F : Nat → sy_d) (X1 X2 : List jm_c) (hB : iv_in F iv_B4)
    (h0 : 0 ≤ (sy_i F 11).toInt ∧ (sy_i F 11).toInt < 2)
    (h1 : ((sy_ai F 31).getD (sy_i F 11).toNatClampNeg 0).toInt ≤ (sy_i F 69).toInt)
    (k : ∀ F1 : Nat → sy_d, (∀ j, j < 69 → True → F1 j = F j) → F1 69 = .inl (.int ((0 : Int32))) → hd_W Ls xs d jm_M171 Q (112, sy_dL F1 [some (.inl (.ref 1000)), some (.inr (.inl 69))], sy_dS F1 [], sy_dh F1 X1 X2 (iv_H 4), 0, 0)) :
    hd_W Ls xs d jm_M171 Q (48, sy_dL F [some (.inl (.ref 1000)), some (.inr (.inl 69))], sy_dS F [], sy_dh F X1 X2 (iv_H 4), 0, 0) := by
  refine hd_run (s := 4) (nv := 70) (pc := 112) (L := [some (.inl (.ref 1000)), some (.inr (.inl 69))]) (S := []) (uh := hd_ov (iv_id 0 iv_B4) []) (ul := [.inl (.inl (.int 0))]) (f := true) (sp := [48, 112]) (d0 := 0) (O := [true]) (T := [(30, [.inr (.inl 11)], [.inr (.inl 31)])]) (P := [(6, .inr (.inl 11), .inl (.ref 2)), (4, .inr (.inl 70), .inr (.inl 69))]) jm_ok171 (by decide +kernel) (by decide +kernel) hd F X1 X2 (fun F' hF hs => ?_)
  have b11 := hd_b (F := F) (F' := F') (k := 11) (hF 11 (by decide))
  have a31 := hd_ba (F := F) (F' := F') (k := 31) (hF 31 (by decide))
  have t70 : sy_dv F' (.inr (.inl 70)) = .int ((sy_ai F 31).getD (sy_i F 11).toNatClampNeg 0) := hd_rd (hs 0 _ rfl) b11 a31
  have b69 := hd_b (F := F) (F' := F') (k := 69) (hF 69 (by decide))
  have hB' : iv_in F' iv_B4 := iv_in_eq hB (fun j hj => hF j (Nat.lt_of_lt_of_le hj (by decide +kernel)))
  refine ⟨List.forall_mem_cons.mpr ⟨hd_pb b11 (by first | exact h0 | exact h0), List.forall_mem_cons.mpr ⟨hd_p4 t70 b69 h1, fun _ h => absurd h List.not_mem_nil⟩⟩, ?_⟩
  refine k _ ?_ ?_
  · exact fun j hj _ => (hd_keep hB' (Nat.lt_of_lt_of_le hj (by decide +kernel)) (by simp)).trans (hF j (Nat.lt_of_lt_of_le hj (by decide)))
  · exact hd_gi (x := .inl (.int 0)) (by decide +kernel) rfl
theorem zbg_48_p1 {Ls : Nat} {xs : Nat → Int32} {d : Nat} {Q : Option Value → jm_h → Prop} (hd : 1 ≤ d) (F : Nat → sy_d) (X1 X2 : List jm_c) (hB : iv_in F iv_B4)
    (h0 : 0 ≤ (sy_i F 11).toInt ∧ (sy_i F 11).toInt < 2)
    (h1 : (sy_i F 69).toInt < ((sy_ai F 31).getD (sy_i F 11).toNatClampNeg 0).toInt)
    (h2 : 0 ≤ ((((7 : Int32)) * (sy_i F 11)) + (sy_i F 69)).toInt ∧ ((((7 : Int32)) * (sy_i F 11)) + (sy_i F 69)).toInt < 14)
    (h3 : 0 ≤ (sy_i F 69).toInt ∧ (sy_i F 69).toInt < 61)
    (h4 : 0 ≤ ((((7 : Int32)) * (sy_i F 11)) + (sy_i F 69)).toInt ∧ ((((7 : Int32)) * (sy_i F 11)) + (sy_i F 69)).toInt < 14)
    (h5 : 0 ≤ (((7 : Int32)) + (sy_i F 69)).toInt ∧ (((7 : Int32)) + (sy_i F 69)).toInt < 61)
    (k : ∀ F1 : Nat → sy_d, (∀ j, j < 69 → j ≠ 55 → F1 j = F j) → F1 55 = .inr (.inl (jm_upd (jm_upd (sy_ai F 55) (sy_i F 69).toNatClampNeg ((sy_ai F 32).getD ((((7 : Int32)) * (sy_i F 11)) + (sy_i F 69)).toNatClampNeg 0)) (((7 : Int32)) + (sy_i F 69)).toNatClampNeg ((sy_ai F 34).getD ((((7 : Int32)) * (sy_i F 11)) + (sy_i F 69)).toNatClampNeg 0))) → F1 69 = .inl (.int ((sy_i F 69) + ((1 : Int32)))) → hd_W Ls xs d jm_M171 Q (48, sy_dL F1 [some (.inl (.ref 1000)), some (.inr (.inl 69))], sy_dS F1 [], sy_dh F1 X1 X2 (iv_H 4), 0, 0)) :
    hd_W Ls xs d jm_M171 Q (48, sy_dL F [some (.inl (.ref 1000)), some (.inr (.inl 69))], sy_dS F [], sy_dh F X1 X2 (iv_H 4), 0, 0) := by
  refine hd_run (s := 4) (nv := 70) (pc := 48) (L := [some (.inl (.ref 1000)), some (.inr (.inl 69))]) (S := []) (uh := hd_ov (iv_id 0 iv_B4) [(55, .inr (.inr (.inl 79)))]) (ul := [.inl (.inr (.inl 80))]) (f := true) (sp := [48, 112]) (d0 := 0) (O := [false]) (T := [(30, [.inr (.inl 11)], [.inr (.inl 31)]), (2, [.inl (.int 7), .inr (.inl 11)], []), (0, [.inr (.inl 71), .inr (.inl 69)], []), (30, [.inr (.inl 72)], [.inr (.inl 32)]), (40, [.inr (.inl 69), .inr (.inl 73)], [.inr (.inl 55)]), (0, [.inl (.int 7), .inr (.inl 69)], []), (2, [.inl (.int 7), .inr (.inl 11)], []), (0, [.inr (.inl 76), .inr (.inl 69)], []), (30, [.inr (.inl 77)], [.inr (.inl 34)]), (40, [.inr (.inl 75), .inr (.inl 78)], [.inr (.inl 74)]), (0, [.inr (.inl 69), .inl (.int 1)], [])]) (P := [(6, .inr (.inl 11), .inl (.ref 2)), (5, .inr (.inl 70), .inr (.inl 69)), (6, .inr (.inl 72), .inl (.ref 14)), (6, .inr (.inl 69), .inl (.ref 61)), (6, .inr (.inl 77), .inl (.ref 14)), (6, .inr (.inl 75), .inl (.ref 61))]) jm_ok171 (by decide +kernel) (by decide +kernel) hd F X1 X2 (fun F' hF hs => ?_)
  have b11 := hd_b (F := F) (F' := F') (k := 11) (hF 11 (by decide))
  have a31 := hd_ba (F := F) (F' := F') (k := 31) (hF 31 (by decide))
  have t70 : sy_dv F' (.inr (.inl 70)) = .int ((sy_ai F 31).getD (sy_i F 11).toNatClampNeg 0) := hd_rd (hs 0 _ rfl) b11 a31
  have b69 := hd_b (F := F) (F' := F') (k := 69) (hF 69 (by decide))
  have t71 : sy_dv F' (.inr (.inl 71)) = .int (((7 : Int32)) * (sy_i F 11)) := hd_o (hs 1 _ rfl) rfl b11 rfl
  have t72 : sy_dv F' (.inr (.inl 72)) = .int ((((7 : Int32)) * (sy_i F 11)) + (sy_i F 69)) := hd_o (hs 2 _ rfl) t71 b69 rfl
  have t76 : sy_dv F' (.inr (.inl 76)) = .int (((7 : Int32)) * (sy_i F 11)) := hd_o (hs 6 _ rfl) rfl b11 rfl
  have t77 : sy_dv F' (.inr (.inl 77)) = .int ((((7 : Int32)) * (sy_i F 11)) + (sy_i F 69)) := hd_o (hs 7 _ rfl) t76 b69 rfl
  have t75 : sy_dv F' (.inr (.inl 75)) = .int (((7 : Int32)) + (sy_i F 69)) := hd_o (hs 5 _ rfl) rfl b69 rfl
  have a34 := hd_ba (F := F) (F' := F') (k := 34) (hF 34 (by decide))
  have t78 : sy_dv F' (.inr (.inl 78)) = .int ((sy_ai F 34).getD ((((7 : Int32)) * (sy_i F 11)) + (sy_i F 69)).toNatClampNeg 0) := hd_rd (hs 8 _ rfl) t77 a34
  have a32 := hd_ba (F := F) (F' := F') (k := 32) (hF 32 (by decide))
  have t73 : sy_dv F' (.inr (.inl 73)) = .int ((sy_ai F 32).getD ((((7 : Int32)) * (sy_i F 11)) + (sy_i F 69)).toNatClampNeg 0) := hd_rd (hs 3 _ rfl) t72 a32
  have a55 := hd_ba (F := F) (F' := F') (k := 55) (hF 55 (by decide))
  have t74 : sy_da F' (.inr (.inl 74)) = .inl (jm_upd (sy_ai F 55) (sy_i F 69).toNatClampNeg ((sy_ai F 32).getD ((((7 : Int32)) * (sy_i F 11)) + (sy_i F 69)).toNatClampNeg 0)) := hd_up (hs 4 _ rfl) b69 t73 a55
  have t79 : sy_da F' (.inr (.inl 79)) = .inl (jm_upd (jm_upd (sy_ai F 55) (sy_i F 69).toNatClampNeg ((sy_ai F 32).getD ((((7 : Int32)) * (sy_i F 11)) + (sy_i F 69)).toNatClampNeg 0)) (((7 : Int32)) + (sy_i F 69)).toNatClampNeg ((sy_ai F 34).getD ((((7 : Int32)) * (sy_i F 11)) + (sy_i F 69)).toNatClampNeg 0)) := hd_up (hs 9 _ rfl) t75 t78 t74
  have t80 : sy_dv F' (.inr (.inl 80)) = .int ((sy_i F 69) + ((1 : Int32))) := hd_o (hs 10 _ rfl) b69 rfl rfl
  have hB' : iv_in F' iv_B4 := iv_in_eq hB (fun j hj => hF j (Nat.lt_of_lt_of_le hj (by decide +kernel)))
  refine ⟨List.forall_mem_cons.mpr ⟨hd_pb b11 (by first | exact h0 | exact h0), List.forall_mem_cons.mpr ⟨hd_p5 t70 b69 h1, List.forall_mem_cons.mpr ⟨hd_pb t72 (by first | exact h2 | exact h2), List.forall_mem_cons.mpr ⟨hd_pb b69 (by first | exact h3 | exact h3), List.forall_mem_cons.mpr ⟨hd_pb t77 (by first | exact h4 | exact h4), List.forall_mem_cons.mpr ⟨hd_pb t75 (by first | exact h5 | exact h5), fun _ h => absurd h List.not_mem_nil⟩⟩⟩⟩⟩⟩, ?_⟩
  refine k _ ?_ ?_ ?_
  · exact fun j hj hn => (hd_keep hB' (Nat.lt_of_lt_of_le hj (by decide +kernel)) (by simp; omega)).trans (hF j (Nat.lt_of_lt_of_le hj (by decide)))
  · exact hd_ga (a := .inr (.inl 79)) (by decide +kernel) t79
  · exact hd_gi (x := .inr (.inl 80)) (by decide +kernel) t80
theorem zbg_48 {Ls : Nat} {xs : Nat → Int32} {d : Nat} {Q : Option Value → jm_h → Prop} (hd : 1 ≤ d) (F : Nat → sy_d) (X1 X2 : List jm_c) (hB : iv_in F iv_B4)
    (a69 : 0 ≤ (sy_i F 69).toInt ∧ (sy_i F 69).toInt ≤ 7)
    (k0 : ((sy_ai F 31).getD ((sy_i F 11).toInt).toNat 0).toInt ≤ (sy_i F 69).toInt → ∀ F1 : Nat → sy_d, iv_in F1 iv_B4 → (∀ j, j < 69 → j ∉ ([] : List Nat) → F1 j = F j) → (sy_i F1 69).toInt = 0 → sy_i F1 69 = (0 : Int32) → hd_W Ls xs d jm_M171 Q (112, sy_dL F1 [some (.inl (.ref 1000)), some (.inr (.inl 69))], sy_dS F1 [], sy_dh F1 X1 X2 (iv_H 4), 0, 0))
    (k1 : (sy_i F 69).toInt < ((sy_ai F 31).getD ((sy_i F 11).toInt).toNat 0).toInt → ∀ F1 : Nat → sy_d, iv_in F1 iv_B4 → (∀ j, j < 69 → j ∉ ([55] : List Nat) → F1 j = F j) → sy_ai F1 55 = jm_upd (jm_upd (sy_ai F 55) ((sy_i F 69).toInt).toNat ((sy_ai F 32).getD (((7 * (sy_i F 11).toInt) + (sy_i F 69).toInt)).toNat 0)) ((7 + (sy_i F 69).toInt)).toNat ((sy_ai F 34).getD (((7 * (sy_i F 11).toInt) + (sy_i F 69).toInt)).toNat 0) → (sy_i F1 69).toInt = ((sy_i F 69).toInt + 1) → sy_i F1 69 = (sy_i F 69) + ((1 : Int32)) → hd_W Ls xs d jm_M171 Q (48, sy_dL F1 [some (.inl (.ref 1000)), some (.inr (.inl 69))], sy_dS F1 [], sy_dh F1 X1 X2 (iv_H 4), 0, 0)) :
    hd_W Ls xs d jm_M171 Q (48, sy_dL F [some (.inl (.ref 1000)), some (.inr (.inl 69))], sy_dS F [], sy_dh F X1 X2 (iv_H 4), 0, 0) := by
  by_cases g0 : ((sy_ai F 31).getD ((sy_i F 11).toInt).toNat 0).toInt ≤ (sy_i F 69).toInt
  · have c11 := nz_bx hB (k := 11) (lo := 0) (hi := 1) rfl
    have q70 : (sy_ai F 31).getD (sy_i F 11).toNatClampNeg 0 = (sy_ai F 31).getD ((sy_i F 11).toInt).toNat 0 := by simp only [nz_c]
    have n70 : nzI ((sy_ai F 31).getD (sy_i F 11).toNatClampNeg 0) (((sy_ai F 31).getD ((sy_i F 11).toInt).toNat 0).toInt) := congrArg Int32.toInt q70
    have r70 := nz_ba hB (k := 31) (lo := 0) (hi := 7) rfl ((sy_i F 11).toInt).toNat
    exact zbg_48_p0 hd F X1 X2 hB (by first | exact ⟨by omega, by omega⟩ | (simp only [nz_c]; exact ⟨by omega, by omega⟩)) (by first | exact g0 | (simp only [nz_c]; exact g0) | (rw [(nzE n70)]; exact g0)) (fun F1 g e69 => k0 g0 F1 (nz_in hB [] (fun j hj hn => g j hj (by simp only [List.mem_cons, List.not_mem_nil, or_false, not_or] at hn; exact trivial)) (List.forall_mem_nil _)) (fun j hj hn => g j hj (by simp only [List.mem_cons, List.not_mem_nil, or_false, not_or] at hn; exact trivial)) ((congrArg Int32.toInt (zz_i e69)).trans (by decide : ((0 : Int32)).toInt = 0)) ((zz_i e69).trans (rfl : (0 : Int32) = (0 : Int32))))
  replace g0 : (sy_i F 69).toInt < ((sy_ai F 31).getD ((sy_i F 11).toInt).toNat 0).toInt := by omega
  have c11 := nz_bx hB (k := 11) (lo := 0) (hi := 1) rfl
  have q70 : (sy_ai F 31).getD (sy_i F 11).toNatClampNeg 0 = (sy_ai F 31).getD ((sy_i F 11).toInt).toNat 0 := by simp only [nz_c]
  have n70 : nzI ((sy_ai F 31).getD (sy_i F 11).toNatClampNeg 0) (((sy_ai F 31).getD ((sy_i F 11).toInt).toNat 0).toInt) := congrArg Int32.toInt q70
  have r70 := nz_ba hB (k := 31) (lo := 0) (hi := 7) rfl ((sy_i F 11).toInt).toNat
  have n71 : nzI (((7 : Int32)) * (sy_i F 11)) ((7 * (sy_i F 11).toInt)) := nz_mul (by decide : ((7 : Int32)).toInt = 7) (rfl : (sy_i F 11).toInt = (sy_i F 11).toInt) (by omega) (by omega)
  have n72 : nzI ((((7 : Int32)) * (sy_i F 11)) + (sy_i F 69)) (((7 * (sy_i F 11).toInt) + (sy_i F 69).toInt)) := nz_add (nzE n71) (rfl : (sy_i F 69).toInt = (sy_i F 69).toInt) (by omega) (by omega)
  have n76 : nzI (((7 : Int32)) * (sy_i F 11)) ((7 * (sy_i F 11).toInt)) := nz_mul (by decide : ((7 : Int32)).toInt = 7) (rfl : (sy_i F 11).toInt = (sy_i F 11).toInt) (by omega) (by omega)
  have n77 : nzI ((((7 : Int32)) * (sy_i F 11)) + (sy_i F 69)) (((7 * (sy_i F 11).toInt) + (sy_i F 69).toInt)) := nz_add (nzE n76) (rfl : (sy_i F 69).toInt = (sy_i F 69).toInt) (by omega) (by omega)
  have n75 : nzI (((7 : Int32)) + (sy_i F 69)) ((7 + (sy_i F 69).toInt)) := nz_add (by decide : ((7 : Int32)).toInt = 7) (rfl : (sy_i F 69).toInt = (sy_i F 69).toInt) (by omega) (by omega)
  have w79 : jm_upd (jm_upd (sy_ai F 55) (sy_i F 69).toNatClampNeg ((sy_ai F 32).getD ((((7 : Int32)) * (sy_i F 11)) + (sy_i F 69)).toNatClampNeg 0)) (((7 : Int32)) + (sy_i F 69)).toNatClampNeg ((sy_ai F 34).getD ((((7 : Int32)) * (sy_i F 11)) + (sy_i F 69)).toNatClampNeg 0) = jm_upd (jm_upd (sy_ai F 55) ((sy_i F 69).toInt).toNat ((sy_ai F 32).getD (((7 * (sy_i F 11).toInt) + (sy_i F 69).toInt)).toNat 0)) ((7 + (sy_i F 69).toInt)).toNat ((sy_ai F 34).getD (((7 * (sy_i F 11).toInt) + (sy_i F 69).toInt)).toNat 0) := by simp only [nz_c, (nzE n71), (nzE n72), (nzE n75), (nzE n76), (nzE n77), (by decide : ((7 : Int32)).toInt = 7)]
  have n80 : nzI ((sy_i F 69) + ((1 : Int32))) (((sy_i F 69).toInt + 1)) := nz_add (rfl : (sy_i F 69).toInt = (sy_i F 69).toInt) (by decide : ((1 : Int32)).toInt = 1) (by omega) (by omega)
  exact zbg_48_p1 hd F X1 X2 hB (by first | exact ⟨by omega, by omega⟩ | (simp only [nz_c]; exact ⟨by omega, by omega⟩)) (by first | exact g0 | (simp only [nz_c]; exact g0) | (rw [(nzE n70)]; exact g0)) (by first | (simp only [nz_c, (nzE n71), (nzE n72)]; exact ⟨by omega, by omega⟩) | exact ⟨by omega, by omega⟩ | (rw [(nzE n72)]; exact ⟨by omega, by omega⟩)) (by first | exact ⟨by omega, by omega⟩ | (simp only [nz_c]; exact ⟨by omega, by omega⟩)) (by first | (simp only [nz_c, (nzE n76), (nzE n77)]; exact ⟨by omega, by omega⟩) | exact ⟨by omega, by omega⟩ | (rw [(nzE n77)]; exact ⟨by omega, by omega⟩)) (by first | (simp only [nz_c, (nzE n75)]; exact ⟨by omega, by omega⟩) | exact ⟨by omega, by omega⟩ | (rw [(nzE n75)]; exact ⟨by omega, by omega⟩)) (fun F1 g e55 e69 => k1 g0 F1 (nz_in hB [55] (fun j hj hn => g j hj (by simp only [List.mem_cons, List.not_mem_nil, or_false, not_or] at hn; omega)) (List.forall_mem_cons.mpr ⟨fun t ht => (Option.some.inj ht) ▸ (nz_hz2 e55), List.forall_mem_nil _⟩)) (fun j hj hn => g j hj (by simp only [List.mem_cons, List.not_mem_nil, or_false, not_or] at hn; omega)) ((zz_ai e55).trans w79) ((congrArg Int32.toInt (zz_i e69)).trans (nzE n80)) ((zz_i e69).trans (rfl : (sy_i F 69) + ((1 : Int32)) = (sy_i F 69) + ((1 : Int32)))))
theorem zbg_112_p0 {Ls : Nat} {xs : Nat → Int32} {d : Nat} {Q : Option Value → jm_h → Prop} (hd : 1 ≤ d) (F : Nat → sy_d) (X1 X2 : List jm_c) (hB : iv_in F iv_B4)
    (h0 : 0 ≤ (sy_i F 11).toInt ∧ (sy_i F 11).toInt < 2)
    (h1 : ((sy_ai F 35).getD (sy_i F 11).toNatClampNeg 0).toInt ≤ (sy_i F 69).toInt)
    (h2 : 0 ≤ (sy_i F 11).toInt ∧ (sy_i F 11).toInt < 2)
    (k : ∀ F1 : Nat → sy_d, (∀ j, j < 69 → j ≠ 18 → F1 j = F j) → F1 18 = .inl (.int ((sy_ai F 41).getD (sy_i F 11).toNatClampNeg 0)) → Q (none) (sy_dh F1 X1 X2 (iv_H 4))) :
    hd_W Ls xs d jm_M171 Q (112, sy_dL F [some (.inl (.ref 1000)), some (.inr (.inl 69))], sy_dS F [], sy_dh F X1 X2 (iv_H 4), 0, 0) := by
  refine hd_ret (s := 4) (nv := 70) (v := none) (uh := hd_ov (iv_id 0 iv_B4) [(18, .inl (.inr (.inl 71)))]) (f := true) (sp := [112]) (d0 := 0) (O := [true]) (T := [(30, [.inr (.inl 11)], [.inr (.inl 35)]), (30, [.inr (.inl 11)], [.inr (.inl 41)])]) (P := [(6, .inr (.inl 11), .inl (.ref 2)), (4, .inr (.inl 70), .inr (.inl 69)), (6, .inr (.inl 11), .inl (.ref 2))]) jm_ok171 (by decide +kernel) (by decide +kernel) hd F X1 X2 (fun F' hF hs => ?_)
  have b11 := hd_b (F := F) (F' := F') (k := 11) (hF 11 (by decide))
  have a35 := hd_ba (F := F) (F' := F') (k := 35) (hF 35 (by decide))
  have t70 : sy_dv F' (.inr (.inl 70)) = .int ((sy_ai F 35).getD (sy_i F 11).toNatClampNeg 0) := hd_rd (hs 0 _ rfl) b11 a35
  have b69 := hd_b (F := F) (F' := F') (k := 69) (hF 69 (by decide))
  have a41 := hd_ba (F := F) (F' := F') (k := 41) (hF 41 (by decide))
  have t71 : sy_dv F' (.inr (.inl 71)) = .int ((sy_ai F 41).getD (sy_i F 11).toNatClampNeg 0) := hd_rd (hs 1 _ rfl) b11 a41
  have hB' : iv_in F' iv_B4 := iv_in_eq hB (fun j hj => hF j (Nat.lt_of_lt_of_le hj (by decide +kernel)))
  refine ⟨List.forall_mem_cons.mpr ⟨hd_pb b11 (by first | exact h0 | exact h0), List.forall_mem_cons.mpr ⟨hd_p4 t70 b69 h1, List.forall_mem_cons.mpr ⟨hd_pb b11 (by first | exact h2 | exact h2), fun _ h => absurd h List.not_mem_nil⟩⟩⟩, ?_⟩
  refine k _ ?_ ?_
  · exact fun j hj hn => (hd_keep hB' (Nat.lt_of_lt_of_le hj (by decide +kernel)) (by simp; omega)).trans (hF j (Nat.lt_of_lt_of_le hj (by decide)))
  · exact hd_gi (x := .inr (.inl 71)) (by decide +kernel) t71
theorem zbg_112_p1 {Ls : Nat} {xs : Nat → Int32} {d : Nat} {Q : Option Value → jm_h → Prop} (hd : 1 ≤ d) (F : Nat → sy_d) (X1 X2 : List jm_c) (hB : iv_in F iv_B4)
    (h0 : 0 ≤ (sy_i F 11).toInt ∧ (sy_i F 11).toInt < 2)
    (h1 : (sy_i F 69).toInt < ((sy_ai F 35).getD (sy_i F 11).toNatClampNeg 0).toInt)
    (h2 : 0 ≤ ((((4 : Int32)) * (sy_i F 11)) + (sy_i F 69)).toInt ∧ ((((4 : Int32)) * (sy_i F 11)) + (sy_i F 69)).toInt < 8)
    (h3 : 0 ≤ (((49 : Int32)) + (sy_i F 69)).toInt ∧ (((49 : Int32)) + (sy_i F 69)).toInt < 61)
    (h4 : 0 ≤ ((((4 : Int32)) * (sy_i F 11)) + (sy_i F 69)).toInt ∧ ((((4 : Int32)) * (sy_i F 11)) + (sy_i F 69)).toInt < 8)
    (h5 : 0 ≤ (((53 : Int32)) + (sy_i F 69)).toInt ∧ (((53 : Int32)) + (sy_i F 69)).toInt < 61)
    (k : ∀ F1 : Nat → sy_d, (∀ j, j < 69 → j ≠ 55 → F1 j = F j) → F1 55 = .inr (.inl (jm_upd (jm_upd (sy_ai F 55) (((49 : Int32)) + (sy_i F 69)).toNatClampNeg ((sy_ai F 36).getD ((((4 : Int32)) * (sy_i F 11)) + (sy_i F 69)).toNatClampNeg 0)) (((53 : Int32)) + (sy_i F 69)).toNatClampNeg ((sy_ai F 38).getD ((((4 : Int32)) * (sy_i F 11)) + (sy_i F 69)).toNatClampNeg 0))) → F1 69 = .inl (.int ((sy_i F 69) + ((1 : Int32)))) → hd_W Ls xs d jm_M171 Q (112, sy_dL F1 [some (.inl (.ref 1000)), some (.inr (.inl 69))], sy_dS F1 [], sy_dh F1 X1 X2 (iv_H 4), 0, 0)) :
    hd_W Ls xs d jm_M171 Q (112, sy_dL F [some (.inl (.ref 1000)), some (.inr (.inl 69))], sy_dS F [], sy_dh F X1 X2 (iv_H 4), 0, 0) := by
  refine hd_run (s := 4) (nv := 70) (pc := 112) (L := [some (.inl (.ref 1000)), some (.inr (.inl 69))]) (S := []) (uh := hd_ov (iv_id 0 iv_B4) [(55, .inr (.inr (.inl 80)))]) (ul := [.inl (.inr (.inl 81))]) (f := true) (sp := [112]) (d0 := 0) (O := [false]) (T := [(30, [.inr (.inl 11)], [.inr (.inl 35)]), (0, [.inl (.int 49), .inr (.inl 69)], []), (2, [.inl (.int 4), .inr (.inl 11)], []), (0, [.inr (.inl 72), .inr (.inl 69)], []), (30, [.inr (.inl 73)], [.inr (.inl 36)]), (40, [.inr (.inl 71), .inr (.inl 74)], [.inr (.inl 55)]), (0, [.inl (.int 53), .inr (.inl 69)], []), (2, [.inl (.int 4), .inr (.inl 11)], []), (0, [.inr (.inl 77), .inr (.inl 69)], []), (30, [.inr (.inl 78)], [.inr (.inl 38)]), (40, [.inr (.inl 76), .inr (.inl 79)], [.inr (.inl 75)]), (0, [.inr (.inl 69), .inl (.int 1)], [])]) (P := [(6, .inr (.inl 11), .inl (.ref 2)), (5, .inr (.inl 70), .inr (.inl 69)), (6, .inr (.inl 73), .inl (.ref 8)), (6, .inr (.inl 71), .inl (.ref 61)), (6, .inr (.inl 78), .inl (.ref 8)), (6, .inr (.inl 76), .inl (.ref 61))]) jm_ok171 (by decide +kernel) (by decide +kernel) hd F X1 X2 (fun F' hF hs => ?_)
  have b11 := hd_b (F := F) (F' := F') (k := 11) (hF 11 (by decide))
  have a35 := hd_ba (F := F) (F' := F') (k := 35) (hF 35 (by decide))
  have t70 : sy_dv F' (.inr (.inl 70)) = .int ((sy_ai F 35).getD (sy_i F 11).toNatClampNeg 0) := hd_rd (hs 0 _ rfl) b11 a35
  have b69 := hd_b (F := F) (F' := F') (k := 69) (hF 69 (by decide))
  have t72 : sy_dv F' (.inr (.inl 72)) = .int (((4 : Int32)) * (sy_i F 11)) := hd_o (hs 2 _ rfl) rfl b11 rfl
  have t73 : sy_dv F' (.inr (.inl 73)) = .int ((((4 : Int32)) * (sy_i F 11)) + (sy_i F 69)) := hd_o (hs 3 _ rfl) t72 b69 rfl
  have t71 : sy_dv F' (.inr (.inl 71)) = .int (((49 : Int32)) + (sy_i F 69)) := hd_o (hs 1 _ rfl) rfl b69 rfl
  have t77 : sy_dv F' (.inr (.inl 77)) = .int (((4 : Int32)) * (sy_i F 11)) := hd_o (hs 7 _ rfl) rfl b11 rfl
  have t78 : sy_dv F' (.inr (.inl 78)) = .int ((((4 : Int32)) * (sy_i F 11)) + (sy_i F 69)) := hd_o (hs 8 _ rfl) t77 b69 rfl
  have t76 : sy_dv F' (.inr (.inl 76)) = .int (((53 : Int32)) + (sy_i F 69)) := hd_o (hs 6 _ rfl) rfl b69 rfl
  have a38 := hd_ba (F := F) (F' := F') (k := 38) (hF 38 (by decide))
  have t79 : sy_dv F' (.inr (.inl 79)) = .int ((sy_ai F 38).getD ((((4 : Int32)) * (sy_i F 11)) + (sy_i F 69)).toNatClampNeg 0) := hd_rd (hs 9 _ rfl) t78 a38
  have a36 := hd_ba (F := F) (F' := F') (k := 36) (hF 36 (by decide))
  have t74 : sy_dv F' (.inr (.inl 74)) = .int ((sy_ai F 36).getD ((((4 : Int32)) * (sy_i F 11)) + (sy_i F 69)).toNatClampNeg 0) := hd_rd (hs 4 _ rfl) t73 a36
  have a55 := hd_ba (F := F) (F' := F') (k := 55) (hF 55 (by decide))
  have t75 : sy_da F' (.inr (.inl 75)) = .inl (jm_upd (sy_ai F 55) (((49 : Int32)) + (sy_i F 69)).toNatClampNeg ((sy_ai F 36).getD ((((4 : Int32)) * (sy_i F 11)) + (sy_i F 69)).toNatClampNeg 0)) := hd_up (hs 5 _ rfl) t71 t74 a55
  have t80 : sy_da F' (.inr (.inl 80)) = .inl (jm_upd (jm_upd (sy_ai F 55) (((49 : Int32)) + (sy_i F 69)).toNatClampNeg ((sy_ai F 36).getD ((((4 : Int32)) * (sy_i F 11)) + (sy_i F 69)).toNatClampNeg 0)) (((53 : Int32)) + (sy_i F 69)).toNatClampNeg ((sy_ai F 38).getD ((((4 : Int32)) * (sy_i F 11)) + (sy_i F 69)).toNatClampNeg 0)) := hd_up (hs 10 _ rfl) t76 t79 t75
  have t81 : sy_dv F' (.inr (.inl 81)) = .int ((sy_i F 69) + ((1 : Int32))) := hd_o (hs 11 _ rfl) b69 rfl rfl
  have hB' : iv_in F' iv_B4 := iv_in_eq hB (fun j hj => hF j (Nat.lt_of_lt_of_le hj (by decide +kernel)))
  refine ⟨List.forall_mem_cons.mpr ⟨hd_pb b11 (by first | exact h0 | exact h0), List.forall_mem_cons.mpr ⟨hd_p5 t70 b69 h1, List.forall_mem_cons.mpr ⟨hd_pb t73 (by first | exact h2 | exact h2), List.forall_mem_cons.mpr ⟨hd_pb t71 (by first | exact h3 | exact h3), List.forall_mem_cons.mpr ⟨hd_pb t78 (by first | exact h4 | exact h4), List.forall_mem_cons.mpr ⟨hd_pb t76 (by first | exact h5 | exact h5), fun _ h => absurd h List.not_mem_nil⟩⟩⟩⟩⟩⟩, ?_⟩
  refine k _ ?_ ?_ ?_
  · exact fun j hj hn => (hd_keep hB' (Nat.lt_of_lt_of_le hj (by decide +kernel)) (by simp; omega)).trans (hF j (Nat.lt_of_lt_of_le hj (by decide)))
  · exact hd_ga (a := .inr (.inl 80)) (by decide +kernel) t80
  · exact hd_gi (x := .inr (.inl 81)) (by decide +kernel) t81
theorem zbg_112 {Ls : Nat} {xs : Nat → Int32} {d : Nat} {Q : Option Value → jm_h → Prop} (hd : 1 ≤ d) (F : Nat → sy_d) (X1 X2 : List jm_c) (hB : iv_in F iv_B4)
    (a69 : 0 ≤ (sy_i F 69).toInt ∧ (sy_i F 69).toInt ≤ 4)
    (k0 : ((sy_ai F 35).getD ((sy_i F 11).toInt).toNat 0).toInt ≤ (sy_i F 69).toInt → ∀ F1 : Nat → sy_d, iv_in F1 iv_B4 → (∀ j, j < 69 → j ∉ ([18] : List Nat) → F1 j = F j) → (sy_i F1 18).toInt = ((sy_ai F 41).getD ((sy_i F 11).toInt).toNat 0).toInt → sy_i F1 18 = (sy_ai F 41).getD ((sy_i F 11).toInt).toNat 0 → Q (none) (sy_dh F1 X1 X2 (iv_H 4)))
    (k1 : (sy_i F 69).toInt < ((sy_ai F 35).getD ((sy_i F 11).toInt).toNat 0).toInt → ∀ F1 : Nat → sy_d, iv_in F1 iv_B4 → (∀ j, j < 69 → j ∉ ([55] : List Nat) → F1 j = F j) → sy_ai F1 55 = jm_upd (jm_upd (sy_ai F 55) ((49 + (sy_i F 69).toInt)).toNat ((sy_ai F 36).getD (((4 * (sy_i F 11).toInt) + (sy_i F 69).toInt)).toNat 0)) ((53 + (sy_i F 69).toInt)).toNat ((sy_ai F 38).getD (((4 * (sy_i F 11).toInt) + (sy_i F 69).toInt)).toNat 0) → (sy_i F1 69).toInt = ((sy_i F 69).toInt + 1) → sy_i F1 69 = (sy_i F 69) + ((1 : Int32)) → hd_W Ls xs d jm_M171 Q (112, sy_dL F1 [some (.inl (.ref 1000)), some (.inr (.inl 69))], sy_dS F1 [], sy_dh F1 X1 X2 (iv_H 4), 0, 0)) :
    hd_W Ls xs d jm_M171 Q (112, sy_dL F [some (.inl (.ref 1000)), some (.inr (.inl 69))], sy_dS F [], sy_dh F X1 X2 (iv_H 4), 0, 0) := by
  by_cases g0 : ((sy_ai F 35).getD ((sy_i F 11).toInt).toNat 0).toInt ≤ (sy_i F 69).toInt
  · have c11 := nz_bx hB (k := 11) (lo := 0) (hi := 1) rfl
    have q70 : (sy_ai F 35).getD (sy_i F 11).toNatClampNeg 0 = (sy_ai F 35).getD ((sy_i F 11).toInt).toNat 0 := by simp only [nz_c]
    have n70 : nzI ((sy_ai F 35).getD (sy_i F 11).toNatClampNeg 0) (((sy_ai F 35).getD ((sy_i F 11).toInt).toNat 0).toInt) := congrArg Int32.toInt q70
    have r70 := nz_ba hB (k := 35) (lo := 0) (hi := 4) rfl ((sy_i F 11).toInt).toNat
    have q71 : (sy_ai F 41).getD (sy_i F 11).toNatClampNeg 0 = (sy_ai F 41).getD ((sy_i F 11).toInt).toNat 0 := by simp only [nz_c]
    have n71 : nzI ((sy_ai F 41).getD (sy_i F 11).toNatClampNeg 0) (((sy_ai F 41).getD ((sy_i F 11).toInt).toNat 0).toInt) := congrArg Int32.toInt q71
    exact zbg_112_p0 hd F X1 X2 hB (by first | exact ⟨by omega, by omega⟩ | (simp only [nz_c]; exact ⟨by omega, by omega⟩)) (by first | exact g0 | (simp only [nz_c]; exact g0) | (rw [(nzE n70)]; exact g0)) (by first | exact ⟨by omega, by omega⟩ | (simp only [nz_c]; exact ⟨by omega, by omega⟩)) (fun F1 g e18 => k0 g0 F1 (nz_in hB [18] (fun j hj hn => g j hj (by simp only [List.mem_cons, List.not_mem_nil, or_false, not_or] at hn; omega)) (List.forall_mem_cons.mpr ⟨fun t ht => (Option.some.inj ht) ▸ (nz_hz e18), List.forall_mem_nil _⟩)) (fun j hj hn => g j hj (by simp only [List.mem_cons, List.not_mem_nil, or_false, not_or] at hn; omega)) ((congrArg Int32.toInt (zz_i e18)).trans (nzE n71)) ((zz_i e18).trans q71))
  replace g0 : (sy_i F 69).toInt < ((sy_ai F 35).getD ((sy_i F 11).toInt).toNat 0).toInt := by omega
  have c11 := nz_bx hB (k := 11) (lo := 0) (hi := 1) rfl
  have q70 : (sy_ai F 35).getD (sy_i F 11).toNatClampNeg 0 = (sy_ai F 35).getD ((sy_i F 11).toInt).toNat 0 := by simp only [nz_c]
  have n70 : nzI ((sy_ai F 35).getD (sy_i F 11).toNatClampNeg 0) (((sy_ai F 35).getD ((sy_i F 11).toInt).toNat 0).toInt) := congrArg Int32.toInt q70
  have r70 := nz_ba hB (k := 35) (lo := 0) (hi := 4) rfl ((sy_i F 11).toInt).toNat
  have n72 : nzI (((4 : Int32)) * (sy_i F 11)) ((4 * (sy_i F 11).toInt)) := nz_mul (by decide : ((4 : Int32)).toInt = 4) (rfl : (sy_i F 11).toInt = (sy_i F 11).toInt) (by omega) (by omega)
  have n73 : nzI ((((4 : Int32)) * (sy_i F 11)) + (sy_i F 69)) (((4 * (sy_i F 11).toInt) + (sy_i F 69).toInt)) := nz_add (nzE n72) (rfl : (sy_i F 69).toInt = (sy_i F 69).toInt) (by omega) (by omega)
  have n71 : nzI (((49 : Int32)) + (sy_i F 69)) ((49 + (sy_i F 69).toInt)) := nz_add (by decide : ((49 : Int32)).toInt = 49) (rfl : (sy_i F 69).toInt = (sy_i F 69).toInt) (by omega) (by omega)
  have n77 : nzI (((4 : Int32)) * (sy_i F 11)) ((4 * (sy_i F 11).toInt)) := nz_mul (by decide : ((4 : Int32)).toInt = 4) (rfl : (sy_i F 11).toInt = (sy_i F 11).toInt) (by omega) (by omega)
  have n78 : nzI ((((4 : Int32)) * (sy_i F 11)) + (sy_i F 69)) (((4 * (sy_i F 11).toInt) + (sy_i F 69).toInt)) := nz_add (nzE n77) (rfl : (sy_i F 69).toInt = (sy_i F 69).toInt) (by omega) (by omega)
  have n76 : nzI (((53 : Int32)) + (sy_i F 69)) ((53 + (sy_i F 69).toInt)) := nz_add (by decide : ((53 : Int32)).toInt = 53) (rfl : (sy_i F 69).toInt = (sy_i F 69).toInt) (by omega) (by omega)
  have w80 : jm_upd (jm_upd (sy_ai F 55) (((49 : Int32)) + (sy_i F 69)).toNatClampNeg ((sy_ai F 36).getD ((((4 : Int32)) * (sy_i F 11)) + (sy_i F 69)).toNatClampNeg 0)) (((53 : Int32)) + (sy_i F 69)).toNatClampNeg ((sy_ai F 38).getD ((((4 : Int32)) * (sy_i F 11)) + (sy_i F 69)).toNatClampNeg 0) = jm_upd (jm_upd (sy_ai F 55) ((49 + (sy_i F 69).toInt)).toNat ((sy_ai F 36).getD (((4 * (sy_i F 11).toInt) + (sy_i F 69).toInt)).toNat 0)) ((53 + (sy_i F 69).toInt)).toNat ((sy_ai F 38).getD (((4 * (sy_i F 11).toInt) + (sy_i F 69).toInt)).toNat 0) := by simp only [nz_c, (nzE n71), (nzE n72), (nzE n73), (nzE n76), (nzE n77), (nzE n78), (by decide : ((4 : Int32)).toInt = 4), (by decide : ((49 : Int32)).toInt = 49), (by decide : ((53 : Int32)).toInt = 53)]
  have n81 : nzI ((sy_i F 69) + ((1 : Int32))) (((sy_i F 69).toInt + 1)) := nz_add (rfl : (sy_i F 69).toInt = (sy_i F 69).toInt) (by decide : ((1 : Int32)).toInt = 1) (by omega) (by omega)
  exact zbg_112_p1 hd F X1 X2 hB (by first | exact ⟨by omega, by omega⟩ | (simp only [nz_c]; exact ⟨by omega, by omega⟩)) (by first | exact g0 | (simp only [nz_c]; exact g0) | (rw [(nzE n70)]; exact g0)) (by first | (simp only [nz_c, (nzE n72), (nzE n73)]; exact ⟨by omega, by omega⟩) | exact ⟨by omega, by omega⟩ | (rw [(nzE n73)]; exact ⟨by omega, by omega⟩)) (by first | (simp only [nz_c, (nzE n71)]; exact ⟨by omega, by omega⟩) | exact ⟨by omega, by omega⟩ | (rw [(nzE n71)]; exact ⟨by omega, by omega⟩)) (by first | (simp only [nz_c, (nzE n77), (nzE n78)]; exact ⟨by omega, by omega⟩) | exact ⟨by omega, by omega⟩ | (rw [(nzE n78)]; exact ⟨by omega, by omega⟩)) (by first | (simp only [nz_c, (nzE n76)]; exact ⟨by omega, by omega⟩) | exact ⟨by omega, by omega⟩ | (rw [(nzE n76)]; exact ⟨by omega, by omega⟩)) (fun F1 g e55 e69 => k1 g0 F1 (nz_in hB [55] (fun j hj hn => g j hj (by simp only [List.mem_cons, List.not_mem_nil, or_false, not_or] at hn; omega)) (List.forall_mem_cons.mpr ⟨fun t ht => (Option.some.inj ht) ▸ (nz_hz2 e55), List.forall_mem_nil _⟩)) (fun j hj hn => g j hj (by simp only [List.mem_cons, List.not_mem_nil, or_false, not_or] at hn; omega)) ((zz_ai e55).trans w80) ((congrArg Int32.toInt (zz_i e69)).trans (nzE n81)) ((zz_i e69).trans (rfl : (sy_i F 69) + ((1 : Int32)) = (sy_i F 69) + ((1 : Int32)))))
theorem zpl_0_p0 {Ls : Nat} {xs : Nat → Int32} {d : Nat} {Q : Option Value → jm_h → Prop} (hd : 1 ≤ d) (F : Nat → sy_d) (X1 X2 : List jm_c) (hB : iv_in F iv_B4)
    (k : ∀ F1 : Nat → sy_d, (∀ j, j < 69 → True → F1 j = F j) → Q (some (.int (sy_i F 10))) (sy_dh F1 X1 X2 (iv_H 4))) :
    hd_W Ls xs d jm_M151 Q (0, sy_dL F [some (.inl (.ref 1000))], sy_dS F [], sy_dh F X1 X2 (iv_H 4), 0, 0) := by
  refine hd_ret (s := 4) (nv := 69) (v := some (.inr (.inl 10))) (uh := hd_ov (iv_id 0 iv_B4) []) (f := true) (sp := []) (d0 := 0) (O := []) (T := []) (P := []) jm_ok151 (by decide +kernel) (by decide +kernel) hd F X1 X2 (fun F' hF hs => ?_)
  have b10 := hd_b (F := F) (F' := F') (k := 10) (hF 10 (by decide))
  have hB' : iv_in F' iv_B4 := iv_in_eq hB (fun j hj => hF j (Nat.lt_of_lt_of_le hj (by decide +kernel)))
  have hk := k (sy_cm F' (hd_ov (iv_id 0 iv_B4) [] ++ [])) (fun j hj _ => (hd_keep hB' (Nat.lt_of_lt_of_le hj (by decide +kernel)) (by simp)).trans (hF j (Nat.lt_of_lt_of_le hj (by decide))))
  refine ⟨fun _ h => absurd h List.not_mem_nil, ?_⟩
  show Q (some (sy_dv F' (.inr (.inl 10)))) _
  rw [b10]
  exact hk
theorem zpl_0 {Ls : Nat} {xs : Nat → Int32} {d : Nat} {Q : Option Value → jm_h → Prop} (hd : 1 ≤ d) (F : Nat → sy_d) (X1 X2 : List jm_c) (hB : iv_in F iv_B4)
    (k0 : ∀ F1 : Nat → sy_d, iv_in F1 iv_B4 → (∀ j, j < 69 → j ∉ ([] : List Nat) → F1 j = F j) → Q (some (.int (sy_i F 10))) (sy_dh F1 X1 X2 (iv_H 4))) :
    hd_W Ls xs d jm_M151 Q (0, sy_dL F [some (.inl (.ref 1000))], sy_dS F [], sy_dh F X1 X2 (iv_H 4), 0, 0) := by
  exact zpl_0_p0 hd F X1 X2 hB  (fun F1 g  => by rw [(rfl : sy_i F 10 = sy_i F 10)]; exact k0 F1 (nz_in hB [] (fun j hj hn => g j hj (by simp only [List.mem_cons, List.not_mem_nil, or_false, not_or] at hn; exact trivial)) (List.forall_mem_nil _)) (fun j hj hn => g j hj (by simp only [List.mem_cons, List.not_mem_nil, or_false, not_or] at hn; exact trivial)) )
theorem zfo_0_p0 {Ls : Nat} {xs : Nat → Int32} {d : Nat} {Q : Option Value → jm_h → Prop} (hd : 1 ≤ d) (F : Nat → sy_d) (X1 X2 : List jm_c) (hB : iv_in F iv_B4)
    (k : ∀ F1 : Nat → sy_d, (∀ j, j < 69 → j ≠ 21 → F1 j = F j) → F1 21 = .inl (.int ((0 : Int32))) → Q (some (.int (sy_i F 21))) (sy_dh F1 X1 X2 (iv_H 4))) :
    hd_W Ls xs d jm_M229 Q (0, sy_dL F [some (.inl (.ref 1000)), none], sy_dS F [], sy_dh F X1 X2 (iv_H 4), 0, 0) := by
  refine hd_ret (s := 4) (nv := 69) (v := some (.inr (.inl 21))) (uh := hd_ov (iv_id 0 iv_B4) [(21, .inl (.inl (.int 0)))]) (f := true) (sp := []) (d0 := 0) (O := []) (T := []) (P := []) jm_ok229 (by decide +kernel) (by decide +kernel) hd F X1 X2 (fun F' hF hs => ?_)
  have b21 := hd_b (F := F) (F' := F') (k := 21) (hF 21 (by decide))
  have hB' : iv_in F' iv_B4 := iv_in_eq hB (fun j hj => hF j (Nat.lt_of_lt_of_le hj (by decide +kernel)))
  have hk := k (sy_cm F' (hd_ov (iv_id 0 iv_B4) [(21, .inl (.inl (.int 0)))] ++ [])) (fun j hj hn => (hd_keep hB' (Nat.lt_of_lt_of_le hj (by decide +kernel)) (by simp; omega)).trans (hF j (Nat.lt_of_lt_of_le hj (by decide)))) (hd_gi (x := .inl (.int 0)) (by decide +kernel) rfl)
  refine ⟨fun _ h => absurd h List.not_mem_nil, ?_⟩
  show Q (some (sy_dv F' (.inr (.inl 21)))) _
  rw [b21]
  exact hk
theorem zfo_0 {Ls : Nat} {xs : Nat → Int32} {d : Nat} {Q : Option Value → jm_h → Prop} (hd : 1 ≤ d) (F : Nat → sy_d) (X1 X2 : List jm_c) (hB : iv_in F iv_B4)
    (k0 : ∀ F1 : Nat → sy_d, iv_in F1 iv_B4 → (∀ j, j < 69 → j ∉ ([21] : List Nat) → F1 j = F j) → (sy_i F1 21).toInt = 0 → sy_i F1 21 = (0 : Int32) → Q (some (.int (sy_i F 21))) (sy_dh F1 X1 X2 (iv_H 4))) :
    hd_W Ls xs d jm_M229 Q (0, sy_dL F [some (.inl (.ref 1000)), none], sy_dS F [], sy_dh F X1 X2 (iv_H 4), 0, 0) := by
  exact zfo_0_p0 hd F X1 X2 hB  (fun F1 g e21 => by rw [(rfl : sy_i F 21 = sy_i F 21)]; exact k0 F1 (nz_in hB [21] (fun j hj hn => g j hj (by simp only [List.mem_cons, List.not_mem_nil, or_false, not_or] at hn; omega)) (List.forall_mem_cons.mpr ⟨fun t ht => (Option.some.inj ht) ▸ (nz_hi e21 (by decide : ((0 : Int32)).toInt = 0) (by omega) (by omega)), List.forall_mem_nil _⟩)) (fun j hj hn => g j hj (by simp only [List.mem_cons, List.not_mem_nil, or_false, not_or] at hn; omega)) ((congrArg Int32.toInt (zz_i e21)).trans (by decide : ((0 : Int32)).toInt = 0)) ((zz_i e21).trans (rfl : (0 : Int32) = (0 : Int32))))
theorem zbk_0_p0 {Ls : Nat} {xs : Nat → Int32} {d : Nat} {Q : Option Value → jm_h → Prop} (hd : 1 ≤ d) (F : Nat → sy_d) (X1 X2 : List jm_c) (hB : iv_in F iv_B4)
    (h0 : (sy_i F 69).toInt < 0)
    (k : ∀ F1 : Nat → sy_d, (∀ j, j < 69 → True → F1 j = F j) → Q (some (.int (((-1) : Int32)))) (sy_dh F1 X1 X2 (iv_H 4))) :
    hd_W Ls xs d jm_M135 Q (0, sy_dL F [some (.inl (.ref 1000)), some (.inr (.inl 69))], sy_dS F [], sy_dh F X1 X2 (iv_H 4), 0, 0) := by
  refine hd_ret (s := 4) (nv := 70) (v := some (.inl (.int (-1)))) (uh := hd_ov (iv_id 0 iv_B4) []) (f := true) (sp := []) (d0 := 0) (O := [true]) (T := []) (P := [(2, .inr (.inl 69), .inl (.int 0))]) jm_ok135 (by decide +kernel) (by decide +kernel) hd F X1 X2 (fun F' hF hs => ?_)
  have b69 := hd_b (F := F) (F' := F') (k := 69) (hF 69 (by decide))
  have hB' : iv_in F' iv_B4 := iv_in_eq hB (fun j hj => hF j (Nat.lt_of_lt_of_le hj (by decide +kernel)))
  refine ⟨List.forall_mem_cons.mpr ⟨hd_p2 b69 rfl (by have hc : ((0) : Int32).toInt = 0 := (by decide); omega), fun _ h => absurd h List.not_mem_nil⟩, ?_⟩
  refine k _ ?_
  · exact fun j hj _ => (hd_keep hB' (Nat.lt_of_lt_of_le hj (by decide +kernel)) (by simp)).trans (hF j (Nat.lt_of_lt_of_le hj (by decide)))
theorem zbk_0_p1 {Ls : Nat} {xs : Nat → Int32} {d : Nat} {Q : Option Value → jm_h → Prop} (hd : 1 ≤ d) (F : Nat → sy_d) (X1 X2 : List jm_c) (hB : iv_in F iv_B4)
    (h0 : 0 ≤ (sy_i F 69).toInt)
    (h1 : (sy_i F 69).toInt ≤ (sy_i F 1).toInt)
    (k : ∀ F1 : Nat → sy_d, (∀ j, j < 69 → j ≠ 1 → F1 j = F j) → F1 1 = .inl (.int ((sy_i F 1) - (sy_i F 69))) → Q (some (.int ((sy_i F 1) - (sy_i F 69)))) (sy_dh F1 X1 X2 (iv_H 4))) :
    hd_W Ls xs d jm_M135 Q (0, sy_dL F [some (.inl (.ref 1000)), some (.inr (.inl 69))], sy_dS F [], sy_dh F X1 X2 (iv_H 4), 0, 0) := by
  refine hd_ret (s := 4) (nv := 70) (v := some (.inr (.inl 70))) (uh := hd_ov (iv_id 0 iv_B4) [(1, .inl (.inr (.inl 70)))]) (f := true) (sp := []) (d0 := 0) (O := [false, true]) (T := [(1, [.inr (.inl 1), .inr (.inl 69)], [])]) (P := [(3, .inr (.inl 69), .inl (.int 0)), (4, .inr (.inl 69), .inr (.inl 1))]) jm_ok135 (by decide +kernel) (by decide +kernel) hd F X1 X2 (fun F' hF hs => ?_)
  have b69 := hd_b (F := F) (F' := F') (k := 69) (hF 69 (by decide))
  have b1 := hd_b (F := F) (F' := F') (k := 1) (hF 1 (by decide))
  have t70 : sy_dv F' (.inr (.inl 70)) = .int ((sy_i F 1) - (sy_i F 69)) := hd_o (hs 0 _ rfl) b1 b69 rfl
  have hB' : iv_in F' iv_B4 := iv_in_eq hB (fun j hj => hF j (Nat.lt_of_lt_of_le hj (by decide +kernel)))
  have hk := k (sy_cm F' (hd_ov (iv_id 0 iv_B4) [(1, .inl (.inr (.inl 70)))] ++ [])) (fun j hj hn => (hd_keep hB' (Nat.lt_of_lt_of_le hj (by decide +kernel)) (by simp; omega)).trans (hF j (Nat.lt_of_lt_of_le hj (by decide)))) (hd_gi (x := .inr (.inl 70)) (by decide +kernel) t70)
  refine ⟨List.forall_mem_cons.mpr ⟨hd_p3 b69 rfl (by have hc : ((0) : Int32).toInt = 0 := (by decide); omega), List.forall_mem_cons.mpr ⟨hd_p4 b69 b1 h1, fun _ h => absurd h List.not_mem_nil⟩⟩, ?_⟩
  show Q (some (sy_dv F' (.inr (.inl 70)))) _
  rw [t70]
  exact hk
theorem zbk_0_p2 {Ls : Nat} {xs : Nat → Int32} {d : Nat} {Q : Option Value → jm_h → Prop} (hd : 1 ≤ d) (F : Nat → sy_d) (X1 X2 : List jm_c) (hB : iv_in F iv_B4)
    (h0 : 0 ≤ (sy_i F 69).toInt)
    (h1 : (sy_i F 1).toInt < (sy_i F 69).toInt)
    (k : ∀ F1 : Nat → sy_d, (∀ j, j < 69 → True → F1 j = F j) → Q (some (.int (((-1) : Int32)))) (sy_dh F1 X1 X2 (iv_H 4))) :
    hd_W Ls xs d jm_M135 Q (0, sy_dL F [some (.inl (.ref 1000)), some (.inr (.inl 69))], sy_dS F [], sy_dh F X1 X2 (iv_H 4), 0, 0) := by
  refine hd_ret (s := 4) (nv := 70) (v := some (.inl (.int (-1)))) (uh := hd_ov (iv_id 0 iv_B4) []) (f := true) (sp := []) (d0 := 0) (O := [false, false]) (T := []) (P := [(3, .inr (.inl 69), .inl (.int 0)), (5, .inr (.inl 69), .inr (.inl 1))]) jm_ok135 (by decide +kernel) (by decide +kernel) hd F X1 X2 (fun F' hF hs => ?_)
  have b69 := hd_b (F := F) (F' := F') (k := 69) (hF 69 (by decide))
  have b1 := hd_b (F := F) (F' := F') (k := 1) (hF 1 (by decide))
  have hB' : iv_in F' iv_B4 := iv_in_eq hB (fun j hj => hF j (Nat.lt_of_lt_of_le hj (by decide +kernel)))
  refine ⟨List.forall_mem_cons.mpr ⟨hd_p3 b69 rfl (by have hc : ((0) : Int32).toInt = 0 := (by decide); omega), List.forall_mem_cons.mpr ⟨hd_p5 b69 b1 h1, fun _ h => absurd h List.not_mem_nil⟩⟩, ?_⟩
  refine k _ ?_
  · exact fun j hj _ => (hd_keep hB' (Nat.lt_of_lt_of_le hj (by decide +kernel)) (by simp)).trans (hF j (Nat.lt_of_lt_of_le hj (by decide)))
theorem zbk_0 {Ls : Nat} {xs : Nat → Int32} {d : Nat} {Q : Option Value → jm_h → Prop} (hd : 1 ≤ d) (F : Nat → sy_d) (X1 X2 : List jm_c) (hB : iv_in F iv_B4)
    (o0 : 0 ≤ (sy_i F 69).toInt → (sy_i F 69).toInt ≤ (sy_i F 1).toInt → (0 ≤ ((sy_i F 1).toInt - (sy_i F 69).toInt) ∧ ((sy_i F 1).toInt - (sy_i F 69).toInt) ≤ 2000))
    (k0 : (sy_i F 69).toInt < 0 → ∀ F1 : Nat → sy_d, iv_in F1 iv_B4 → (∀ j, j < 69 → j ∉ ([] : List Nat) → F1 j = F j) → Q (some (.int (((-1) : Int32)))) (sy_dh F1 X1 X2 (iv_H 4)))
    (k1 : 0 ≤ (sy_i F 69).toInt → (sy_i F 69).toInt ≤ (sy_i F 1).toInt → ∀ F1 : Nat → sy_d, iv_in F1 iv_B4 → (∀ j, j < 69 → j ∉ ([1] : List Nat) → F1 j = F j) → (sy_i F1 1).toInt = ((sy_i F 1).toInt - (sy_i F 69).toInt) → sy_i F1 1 = (sy_i F 1) - (sy_i F 69) → Q (some (.int ((sy_i F 1) - (sy_i F 69)))) (sy_dh F1 X1 X2 (iv_H 4)))
    (k2 : 0 ≤ (sy_i F 69).toInt → (sy_i F 1).toInt < (sy_i F 69).toInt → ∀ F1 : Nat → sy_d, iv_in F1 iv_B4 → (∀ j, j < 69 → j ∉ ([] : List Nat) → F1 j = F j) → Q (some (.int (((-1) : Int32)))) (sy_dh F1 X1 X2 (iv_H 4))) :
    hd_W Ls xs d jm_M135 Q (0, sy_dL F [some (.inl (.ref 1000)), some (.inr (.inl 69))], sy_dS F [], sy_dh F X1 X2 (iv_H 4), 0, 0) := by
  by_cases g0 : (sy_i F 69).toInt < 0
  · exact zbk_0_p0 hd F X1 X2 hB (by first | exact g0 | (simp only [nz_c]; exact g0)) (fun F1 g  => k0 g0 F1 (nz_in hB [] (fun j hj hn => g j hj (by simp only [List.mem_cons, List.not_mem_nil, or_false, not_or] at hn; exact trivial)) (List.forall_mem_nil _)) (fun j hj hn => g j hj (by simp only [List.mem_cons, List.not_mem_nil, or_false, not_or] at hn; exact trivial)) )
  replace g0 : 0 ≤ (sy_i F 69).toInt := by omega
  by_cases g1 : (sy_i F 69).toInt ≤ (sy_i F 1).toInt
  · have c1 := nz_bx hB (k := 1) (lo := 0) (hi := 2000) rfl
    have n70 : nzI ((sy_i F 1) - (sy_i F 69)) (((sy_i F 1).toInt - (sy_i F 69).toInt)) := nz_sub (rfl : (sy_i F 1).toInt = (sy_i F 1).toInt) (rfl : (sy_i F 69).toInt = (sy_i F 69).toInt) (by omega) (by omega)
    exact zbk_0_p1 hd F X1 X2 hB (by first | exact g0 | (simp only [nz_c]; exact g0)) (by first | exact g1 | (simp only [nz_c]; exact g1)) (fun F1 g e1 => by rw [(rfl : (sy_i F 1) - (sy_i F 69) = (sy_i F 1) - (sy_i F 69))]; exact k1 g0 g1 F1 (nz_in hB [1] (fun j hj hn => g j hj (by simp only [List.mem_cons, List.not_mem_nil, or_false, not_or] at hn; omega)) (List.forall_mem_cons.mpr ⟨fun t ht => (Option.some.inj ht) ▸ (nz_hi e1 (nzE n70) (o0 g0 g1).1 (o0 g0 g1).2), List.forall_mem_nil _⟩)) (fun j hj hn => g j hj (by simp only [List.mem_cons, List.not_mem_nil, or_false, not_or] at hn; omega)) ((congrArg Int32.toInt (zz_i e1)).trans (nzE n70)) ((zz_i e1).trans (rfl : (sy_i F 1) - (sy_i F 69) = (sy_i F 1) - (sy_i F 69))))
  replace g1 : (sy_i F 1).toInt < (sy_i F 69).toInt := by omega
  have c1 := nz_bx hB (k := 1) (lo := 0) (hi := 2000) rfl
  exact zbk_0_p2 hd F X1 X2 hB (by first | exact g0 | (simp only [nz_c]; exact g0)) (by first | exact g1 | (simp only [nz_c]; exact g1)) (fun F1 g  => k2 g0 g1 F1 (nz_in hB [] (fun j hj hn => g j hj (by simp only [List.mem_cons, List.not_mem_nil, or_false, not_or] at hn; exact trivial)) (List.forall_mem_nil _)) (fun j hj hn => g j hj (by simp only [List.mem_cons, List.not_mem_nil, or_false, not_or] at hn; exact trivial)) )
theorem ztl_0_p0 {Ls : Nat} {xs : Nat → Int32} {d : Nat} {Q : Option Value → jm_h → Prop} (hd : 2 ≤ d) (F : Nat → sy_d) (X1 X2 : List jm_c) (hB : iv_in F iv_B4)
    (h0 : (sy_i F 21).toInt = 7)
    (k : ∀ F1 : Nat → sy_d, (∀ j, j < 69 → True → F1 j = F j) → Q (some (.int (((-1) : Int32)))) (sy_dh F1 X1 X2 (iv_H 4))) :
    hd_W Ls xs d jm_M228 Q (0, sy_dL F [some (.inl (.ref 1000)), some (.inr (.inl 69)), some (.inr (.inl 70))], sy_dS F [], sy_dh F X1 X2 (iv_H 4), 0, 0) := by
  refine hd_ret (s := 4) (nv := 71) (v := some (.inl (.int (-1)))) (uh := hd_ov (iv_id 0 iv_B4) []) (f := true) (sp := []) (d0 := 1) (O := [true]) (T := []) (P := [(0, .inr (.inl 21), .inl (.int 7))]) jm_ok228 (by decide +kernel) (by decide +kernel) hd F X1 X2 (fun F' hF hs => ?_)
  have b21 := hd_b (F := F) (F' := F') (k := 21) (hF 21 (by decide))
  have hB' : iv_in F' iv_B4 := iv_in_eq hB (fun j hj => hF j (Nat.lt_of_lt_of_le hj (by decide +kernel)))
  refine ⟨List.forall_mem_cons.mpr ⟨hd_p0 b21 rfl (by have hc : ((7) : Int32).toInt = 7 := (by decide); omega), fun _ h => absurd h List.not_mem_nil⟩, ?_⟩
  refine k _ ?_
  · exact fun j hj _ => (hd_keep hB' (Nat.lt_of_lt_of_le hj (by decide +kernel)) (by simp)).trans (hF j (Nat.lt_of_lt_of_le hj (by decide)))
theorem ztl_0_p1 {Ls : Nat} {xs : Nat → Int32} {d : Nat} {Q : Option Value → jm_h → Prop} (hd : 2 ≤ d) (F : Nat → sy_d) (X1 X2 : List jm_c) (hB : iv_in F iv_B4)
    (h0 : (sy_i F 21).toInt ≠ 7)
    (h1 : (sy_i F 69).toInt < 1)
    (k : ∀ F1 : Nat → sy_d, (∀ j, j < 69 → True → F1 j = F j) → Q (some (.int (((-1) : Int32)))) (sy_dh F1 X1 X2 (iv_H 4))) :
    hd_W Ls xs d jm_M228 Q (0, sy_dL F [some (.inl (.ref 1000)), some (.inr (.inl 69)), some (.inr (.inl 70))], sy_dS F [], sy_dh F X1 X2 (iv_H 4), 0, 0) := by
  refine hd_ret (s := 4) (nv := 71) (v := some (.inl (.int (-1)))) (uh := hd_ov (iv_id 0 iv_B4) []) (f := true) (sp := []) (d0 := 1) (O := [false, true]) (T := []) (P := [(1, .inr (.inl 21), .inl (.int 7)), (2, .inr (.inl 69), .inl (.int 1))]) jm_ok228 (by decide +kernel) (by decide +kernel) hd F X1 X2 (fun F' hF hs => ?_)
  have b21 := hd_b (F := F) (F' := F') (k := 21) (hF 21 (by decide))
  have b69 := hd_b (F := F) (F' := F') (k := 69) (hF 69 (by decide))
  have hB' : iv_in F' iv_B4 := iv_in_eq hB (fun j hj => hF j (Nat.lt_of_lt_of_le hj (by decide +kernel)))
  refine ⟨List.forall_mem_cons.mpr ⟨hd_p1 b21 rfl (by have hc : ((7) : Int32).toInt = 7 := (by decide); omega), List.forall_mem_cons.mpr ⟨hd_p2 b69 rfl (by have hc : ((1) : Int32).toInt = 1 := (by decide); omega), fun _ h => absurd h List.not_mem_nil⟩⟩, ?_⟩
  refine k _ ?_
  · exact fun j hj _ => (hd_keep hB' (Nat.lt_of_lt_of_le hj (by decide +kernel)) (by simp)).trans (hF j (Nat.lt_of_lt_of_le hj (by decide)))
theorem ztl_0_p2 {Ls : Nat} {xs : Nat → Int32} {d : Nat} {Q : Option Value → jm_h → Prop} (hd : 2 ≤ d) (F : Nat → sy_d) (X1 X2 : List jm_c) (hB : iv_in F iv_B4)
    (h0 : (sy_i F 21).toInt ≠ 7)
    (h1 : 1 ≤ (sy_i F 69).toInt)
    (h2 : 9 < (sy_i F 69).toInt)
    (k : ∀ F1 : Nat → sy_d, (∀ j, j < 69 → True → F1 j = F j) → Q (some (.int (((-1) : Int32)))) (sy_dh F1 X1 X2 (iv_H 4))) :
    hd_W Ls xs d jm_M228 Q (0, sy_dL F [some (.inl (.ref 1000)), some (.inr (.inl 69)), some (.inr (.inl 70))], sy_dS F [], sy_dh F X1 X2 (iv_H 4), 0, 0) := by
  refine hd_ret (s := 4) (nv := 71) (v := some (.inl (.int (-1)))) (uh := hd_ov (iv_id 0 iv_B4) []) (f := true) (sp := []) (d0 := 1) (O := [false, false, true]) (T := []) (P := [(1, .inr (.inl 21), .inl (.int 7)), (3, .inr (.inl 69), .inl (.int 1)), (2, .inl (.int 9), .inr (.inl 69))]) jm_ok228 (by decide +kernel) (by decide +kernel) hd F X1 X2 (fun F' hF hs => ?_)
  have b21 := hd_b (F := F) (F' := F') (k := 21) (hF 21 (by decide))
  have b69 := hd_b (F := F) (F' := F') (k := 69) (hF 69 (by decide))
  have hB' : iv_in F' iv_B4 := iv_in_eq hB (fun j hj => hF j (Nat.lt_of_lt_of_le hj (by decide +kernel)))
  refine ⟨List.forall_mem_cons.mpr ⟨hd_p1 b21 rfl (by have hc : ((7) : Int32).toInt = 7 := (by decide); omega), List.forall_mem_cons.mpr ⟨hd_p3 b69 rfl (by have hc : ((1) : Int32).toInt = 1 := (by decide); omega), List.forall_mem_cons.mpr ⟨hd_p2 rfl b69 (by have hc : ((9) : Int32).toInt = 9 := (by decide); omega), fun _ h => absurd h List.not_mem_nil⟩⟩⟩, ?_⟩
  refine k _ ?_
  · exact fun j hj _ => (hd_keep hB' (Nat.lt_of_lt_of_le hj (by decide +kernel)) (by simp)).trans (hF j (Nat.lt_of_lt_of_le hj (by decide)))
theorem ztl_0_p3 {Ls : Nat} {xs : Nat → Int32} {d : Nat} {Q : Option Value → jm_h → Prop} (hd : 2 ≤ d) (F : Nat → sy_d) (X1 X2 : List jm_c) (hB : iv_in F iv_B4)
    (h0 : (sy_i F 21).toInt ≠ 7)
    (h1 : 1 ≤ (sy_i F 69).toInt)
    (h2 : (sy_i F 69).toInt ≤ 9)
    (h3 : (sy_i F 70).toInt < 0)
    (k : ∀ F1 : Nat → sy_d, (∀ j, j < 69 → True → F1 j = F j) → Q (some (.int (((-1) : Int32)))) (sy_dh F1 X1 X2 (iv_H 4))) :
    hd_W Ls xs d jm_M228 Q (0, sy_dL F [some (.inl (.ref 1000)), some (.inr (.inl 69)), some (.inr (.inl 70))], sy_dS F [], sy_dh F X1 X2 (iv_H 4), 0, 0) := by
  refine hd_ret (s := 4) (nv := 71) (v := some (.inl (.int (-1)))) (uh := hd_ov (iv_id 0 iv_B4) []) (f := true) (sp := []) (d0 := 1) (O := [false, false, false, true]) (T := []) (P := [(1, .inr (.inl 21), .inl (.int 7)), (3, .inr (.inl 69), .inl (.int 1)), (3, .inl (.int 9), .inr (.inl 69)), (2, .inr (.inl 70), .inl (.int 0))]) jm_ok228 (by decide +kernel) (by decide +kernel) hd F X1 X2 (fun F' hF hs => ?_)
  have b21 := hd_b (F := F) (F' := F') (k := 21) (hF 21 (by decide))
  have b69 := hd_b (F := F) (F' := F') (k := 69) (hF 69 (by decide))
  have b70 := hd_b (F := F) (F' := F') (k := 70) (hF 70 (by decide))
  have hB' : iv_in F' iv_B4 := iv_in_eq hB (fun j hj => hF j (Nat.lt_of_lt_of_le hj (by decide +kernel)))
  refine ⟨List.forall_mem_cons.mpr ⟨hd_p1 b21 rfl (by have hc : ((7) : Int32).toInt = 7 := (by decide); omega), List.forall_mem_cons.mpr ⟨hd_p3 b69 rfl (by have hc : ((1) : Int32).toInt = 1 := (by decide); omega), List.forall_mem_cons.mpr ⟨hd_p3 rfl b69 (by have hc : ((9) : Int32).toInt = 9 := (by decide); omega), List.forall_mem_cons.mpr ⟨hd_p2 b70 rfl (by have hc : ((0) : Int32).toInt = 0 := (by decide); omega), fun _ h => absurd h List.not_mem_nil⟩⟩⟩⟩, ?_⟩
  refine k _ ?_
  · exact fun j hj _ => (hd_keep hB' (Nat.lt_of_lt_of_le hj (by decide +kernel)) (by simp)).trans (hF j (Nat.lt_of_lt_of_le hj (by decide)))
theorem ztl_0_p4 {Ls : Nat} {xs : Nat → Int32} {d : Nat} {Q : Option Value → jm_h → Prop} (hd : 2 ≤ d) (F : Nat → sy_d) (X1 X2 : List jm_c) (hB : iv_in F iv_B4)
    (h0 : (sy_i F 21).toInt ≠ 7)
    (h1 : 1 ≤ (sy_i F 69).toInt)
    (h2 : (sy_i F 69).toInt ≤ 9)
    (h3 : 0 ≤ (sy_i F 70).toInt)
    (h4 : 9 < (sy_i F 70).toInt)
    (k : ∀ F1 : Nat → sy_d, (∀ j, j < 69 → True → F1 j = F j) → Q (some (.int (((-1) : Int32)))) (sy_dh F1 X1 X2 (iv_H 4))) :
    hd_W Ls xs d jm_M228 Q (0, sy_dL F [some (.inl (.ref 1000)), some (.inr (.inl 69)), some (.inr (.inl 70))], sy_dS F [], sy_dh F X1 X2 (iv_H 4), 0, 0) := by
  refine hd_ret (s := 4) (nv := 71) (v := some (.inl (.int (-1)))) (uh := hd_ov (iv_id 0 iv_B4) []) (f := true) (sp := []) (d0 := 1) (O := [false, false, false, false, true]) (T := []) (P := [(1, .inr (.inl 21), .inl (.int 7)), (3, .inr (.inl 69), .inl (.int 1)), (3, .inl (.int 9), .inr (.inl 69)), (3, .inr (.inl 70), .inl (.int 0)), (2, .inl (.int 9), .inr (.inl 70))]) jm_ok228 (by decide +kernel) (by decide +kernel) hd F X1 X2 (fun F' hF hs => ?_)
  have b21 := hd_b (F := F) (F' := F') (k := 21) (hF 21 (by decide))
  have b69 := hd_b (F := F) (F' := F') (k := 69) (hF 69 (by decide))
  have b70 := hd_b (F := F) (F' := F') (k := 70) (hF 70 (by decide))
  have hB' : iv_in F' iv_B4 := iv_in_eq hB (fun j hj => hF j (Nat.lt_of_lt_of_le hj (by decide +kernel)))
  refine ⟨List.forall_mem_cons.mpr ⟨hd_p1 b21 rfl (by have hc : ((7) : Int32).toInt = 7 := (by decide); omega), List.forall_mem_cons.mpr ⟨hd_p3 b69 rfl (by have hc : ((1) : Int32).toInt = 1 := (by decide); omega), List.forall_mem_cons.mpr ⟨hd_p3 rfl b69 (by have hc : ((9) : Int32).toInt = 9 := (by decide); omega), List.forall_mem_cons.mpr ⟨hd_p3 b70 rfl (by have hc : ((0) : Int32).toInt = 0 := (by decide); omega), List.forall_mem_cons.mpr ⟨hd_p2 rfl b70 (by have hc : ((9) : Int32).toInt = 9 := (by decide); omega), fun _ h => absurd h List.not_mem_nil⟩⟩⟩⟩⟩, ?_⟩
  refine k _ ?_
  · exact fun j hj _ => (hd_keep hB' (Nat.lt_of_lt_of_le hj (by decide +kernel)) (by simp)).trans (hF j (Nat.lt_of_lt_of_le hj (by decide)))
theorem ztl_0_p5 {Ls : Nat} {xs : Nat → Int32} {d : Nat} {Q : Option Value → jm_h → Prop} (hd : 2 ≤ d) (F : Nat → sy_d) (X1 X2 : List jm_c) (hB : iv_in F iv_B4)
    (h0 : (sy_i F 21).toInt ≠ 7)
    (h1 : 1 ≤ (sy_i F 69).toInt)
    (h2 : (sy_i F 69).toInt ≤ 9)
    (h3 : 0 ≤ (sy_i F 70).toInt)
    (h4 : (sy_i F 70).toInt ≤ 9)
    (h5 : 0 ≤ (sy_i F 21).toInt ∧ (sy_i F 21).toInt < 7)
    (h6 : 0 ≤ (sy_i F 21).toInt ∧ (sy_i F 21).toInt < 7)
    (k : ∀ F1 : Nat → sy_d, (∀ j, j < 69 → j ≠ 21 ∧ j ≠ 63 ∧ j ≠ 64 → F1 j = F j) → F1 21 = .inl (.int ((sy_i F 21) + ((1 : Int32)))) → F1 63 = .inr (.inl (jm_upd (sy_ai F 63) (sy_i F 21).toNatClampNeg (sy_i F 69))) → F1 64 = .inr (.inl (jm_upd (sy_ai F 64) (sy_i F 21).toNatClampNeg (sy_i F 70))) → Q (some (.int (((sy_i F 21) + ((1 : Int32))) - ((1 : Int32))))) (sy_dh F1 X1 X2 (iv_H 4))) :
    hd_W Ls xs d jm_M228 Q (0, sy_dL F [some (.inl (.ref 1000)), some (.inr (.inl 69)), some (.inr (.inl 70))], sy_dS F [], sy_dh F X1 X2 (iv_H 4), 0, 0) := by
  refine hd_ret (s := 4) (nv := 71) (v := some (.inr (.inl 74))) (uh := hd_ov (iv_id 0 iv_B4) [(21, .inl (.inr (.inl 73))), (63, .inr (.inr (.inl 71))), (64, .inr (.inr (.inl 72)))]) (f := true) (sp := []) (d0 := 1) (O := [false, false, false, false, false]) (T := [(40, [.inr (.inl 21), .inr (.inl 69)], [.inr (.inl 63)]), (40, [.inr (.inl 21), .inr (.inl 70)], [.inr (.inl 64)]), (0, [.inr (.inl 21), .inl (.int 1)], []), (1, [.inr (.inl 73), .inl (.int 1)], [])]) (P := [(1, .inr (.inl 21), .inl (.int 7)), (3, .inr (.inl 69), .inl (.int 1)), (3, .inl (.int 9), .inr (.inl 69)), (3, .inr (.inl 70), .inl (.int 0)), (3, .inl (.int 9), .inr (.inl 70)), (6, .inr (.inl 21), .inl (.ref 7)), (6, .inr (.inl 21), .inl (.ref 7))]) jm_ok228 (by decide +kernel) (by decide +kernel) hd F X1 X2 (fun F' hF hs => ?_)
  have b21 := hd_b (F := F) (F' := F') (k := 21) (hF 21 (by decide))
  have b69 := hd_b (F := F) (F' := F') (k := 69) (hF 69 (by decide))
  have b70 := hd_b (F := F) (F' := F') (k := 70) (hF 70 (by decide))
  have t73 : sy_dv F' (.inr (.inl 73)) = .int ((sy_i F 21) + ((1 : Int32))) := hd_o (hs 2 _ rfl) b21 rfl rfl
  have a63 := hd_ba (F := F) (F' := F') (k := 63) (hF 63 (by decide))
  have t71 : sy_da F' (.inr (.inl 71)) = .inl (jm_upd (sy_ai F 63) (sy_i F 21).toNatClampNeg (sy_i F 69)) := hd_up (hs 0 _ rfl) b21 b69 a63
  have a64 := hd_ba (F := F) (F' := F') (k := 64) (hF 64 (by decide))
  have t72 : sy_da F' (.inr (.inl 72)) = .inl (jm_upd (sy_ai F 64) (sy_i F 21).toNatClampNeg (sy_i F 70)) := hd_up (hs 1 _ rfl) b21 b70 a64
  have t74 : sy_dv F' (.inr (.inl 74)) = .int (((sy_i F 21) + ((1 : Int32))) - ((1 : Int32))) := hd_o (hs 3 _ rfl) t73 rfl rfl
  have hB' : iv_in F' iv_B4 := iv_in_eq hB (fun j hj => hF j (Nat.lt_of_lt_of_le hj (by decide +kernel)))
  have hk := k (sy_cm F' (hd_ov (iv_id 0 iv_B4) [(21, .inl (.inr (.inl 73))), (63, .inr (.inr (.inl 71))), (64, .inr (.inr (.inl 72)))] ++ [])) (fun j hj hn => (hd_keep hB' (Nat.lt_of_lt_of_le hj (by decide +kernel)) (by simp; omega)).trans (hF j (Nat.lt_of_lt_of_le hj (by decide)))) (hd_gi (x := .inr (.inl 73)) (by decide +kernel) t73) (hd_ga (a := .inr (.inl 71)) (by decide +kernel) t71) (hd_ga (a := .inr (.inl 72)) (by decide +kernel) t72)
  refine ⟨List.forall_mem_cons.mpr ⟨hd_p1 b21 rfl (by have hc : ((7) : Int32).toInt = 7 := (by decide); omega), List.forall_mem_cons.mpr ⟨hd_p3 b69 rfl (by have hc : ((1) : Int32).toInt = 1 := (by decide); omega), List.forall_mem_cons.mpr ⟨hd_p3 rfl b69 (by have hc : ((9) : Int32).toInt = 9 := (by decide); omega), List.forall_mem_cons.mpr ⟨hd_p3 b70 rfl (by have hc : ((0) : Int32).toInt = 0 := (by decide); omega), List.forall_mem_cons.mpr ⟨hd_p3 rfl b70 (by have hc : ((9) : Int32).toInt = 9 := (by decide); omega), List.forall_mem_cons.mpr ⟨hd_pb b21 (by first | exact h5 | exact h5), List.forall_mem_cons.mpr ⟨hd_pb b21 (by first | exact h6 | exact h6), fun _ h => absurd h List.not_mem_nil⟩⟩⟩⟩⟩⟩⟩, ?_⟩
  show Q (some (sy_dv F' (.inr (.inl 74)))) _
  rw [t74]
  exact hk
theorem ztl_0 {Ls : Nat} {xs : Nat → Int32} {d : Nat} {Q : Option Value → jm_h → Prop} (hd : 2 ≤ d) (F : Nat → sy_d) (X1 X2 : List jm_c) (hB : iv_in F iv_B4)
    (k0 : (sy_i F 21).toInt = 7 → ∀ F1 : Nat → sy_d, iv_in F1 iv_B4 → (∀ j, j < 69 → j ∉ ([] : List Nat) → F1 j = F j) → Q (some (.int (((-1) : Int32)))) (sy_dh F1 X1 X2 (iv_H 4)))
    (k1 : (sy_i F 21).toInt ≠ 7 → (sy_i F 69).toInt < 1 → ∀ F1 : Nat → sy_d, iv_in F1 iv_B4 → (∀ j, j < 69 → j ∉ ([] : List Nat) → F1 j = F j) → Q (some (.int (((-1) : Int32)))) (sy_dh F1 X1 X2 (iv_H 4)))
    (k2 : (sy_i F 21).toInt ≠ 7 → 1 ≤ (sy_i F 69).toInt → 9 < (sy_i F 69).toInt → ∀ F1 : Nat → sy_d, iv_in F1 iv_B4 → (∀ j, j < 69 → j ∉ ([] : List Nat) → F1 j = F j) → Q (some (.int (((-1) : Int32)))) (sy_dh F1 X1 X2 (iv_H 4)))
    (k3 : (sy_i F 21).toInt ≠ 7 → 1 ≤ (sy_i F 69).toInt → (sy_i F 69).toInt ≤ 9 → (sy_i F 70).toInt < 0 → ∀ F1 : Nat → sy_d, iv_in F1 iv_B4 → (∀ j, j < 69 → j ∉ ([] : List Nat) → F1 j = F j) → Q (some (.int (((-1) : Int32)))) (sy_dh F1 X1 X2 (iv_H 4)))
    (k4 : (sy_i F 21).toInt ≠ 7 → 1 ≤ (sy_i F 69).toInt → (sy_i F 69).toInt ≤ 9 → 0 ≤ (sy_i F 70).toInt → 9 < (sy_i F 70).toInt → ∀ F1 : Nat → sy_d, iv_in F1 iv_B4 → (∀ j, j < 69 → j ∉ ([] : List Nat) → F1 j = F j) → Q (some (.int (((-1) : Int32)))) (sy_dh F1 X1 X2 (iv_H 4)))
    (k5 : (sy_i F 21).toInt ≠ 7 → 1 ≤ (sy_i F 69).toInt → (sy_i F 69).toInt ≤ 9 → 0 ≤ (sy_i F 70).toInt → (sy_i F 70).toInt ≤ 9 → ∀ F1 : Nat → sy_d, iv_in F1 iv_B4 → (∀ j, j < 69 → j ∉ ([21, 63, 64] : List Nat) → F1 j = F j) → (sy_i F1 21).toInt = ((sy_i F 21).toInt + 1) → sy_i F1 21 = (sy_i F 21) + ((1 : Int32)) → sy_ai F1 63 = jm_upd (sy_ai F 63) ((sy_i F 21).toInt).toNat (sy_i F 69) → sy_ai F1 64 = jm_upd (sy_ai F 64) ((sy_i F 21).toInt).toNat (sy_i F 70) → Q (some (.int (((sy_i F 21) + ((1 : Int32))) - ((1 : Int32))))) (sy_dh F1 X1 X2 (iv_H 4))) :
    hd_W Ls xs d jm_M228 Q (0, sy_dL F [some (.inl (.ref 1000)), some (.inr (.inl 69)), some (.inr (.inl 70))], sy_dS F [], sy_dh F X1 X2 (iv_H 4), 0, 0) := by
  by_cases g0 : (sy_i F 21).toInt = 7
  · have c21 := nz_bx hB (k := 21) (lo := 0) (hi := 7) rfl
    exact ztl_0_p0 hd F X1 X2 hB (by first | exact g0 | (simp only [nz_c]; exact g0)) (fun F1 g  => k0 g0 F1 (nz_in hB [] (fun j hj hn => g j hj (by simp only [List.mem_cons, List.not_mem_nil, or_false, not_or] at hn; exact trivial)) (List.forall_mem_nil _)) (fun j hj hn => g j hj (by simp only [List.mem_cons, List.not_mem_nil, or_false, not_or] at hn; exact trivial)) )
  replace g0 : (sy_i F 21).toInt ≠ 7 := by omega
  by_cases g1 : (sy_i F 69).toInt < 1
  · have c21 := nz_bx hB (k := 21) (lo := 0) (hi := 7) rfl
    exact ztl_0_p1 hd F X1 X2 hB (by first | exact g0 | (simp only [nz_c]; exact g0)) (by first | exact g1 | (simp only [nz_c]; exact g1)) (fun F1 g  => k1 g0 g1 F1 (nz_in hB [] (fun j hj hn => g j hj (by simp only [List.mem_cons, List.not_mem_nil, or_false, not_or] at hn; exact trivial)) (List.forall_mem_nil _)) (fun j hj hn => g j hj (by simp only [List.mem_cons, List.not_mem_nil, or_false, not_or] at hn; exact trivial)) )
  replace g1 : 1 ≤ (sy_i F 69).toInt := by omega
  by_cases g2 : 9 < (sy_i F 69).toInt
  · have c21 := nz_bx hB (k := 21) (lo := 0) (hi := 7) rfl
    exact ztl_0_p2 hd F X1 X2 hB (by first | exact g0 | (simp only [nz_c]; exact g0)) (by first | exact g1 | (simp only [nz_c]; exact g1)) (by first | exact g2 | (simp only [nz_c]; exact g2)) (fun F1 g  => k2 g0 g1 g2 F1 (nz_in hB [] (fun j hj hn => g j hj (by simp only [List.mem_cons, List.not_mem_nil, or_false, not_or] at hn; exact trivial)) (List.forall_mem_nil _)) (fun j hj hn => g j hj (by simp only [List.mem_cons, List.not_mem_nil, or_false, not_or] at hn; exact trivial)) )
  replace g2 : (sy_i F 69).toInt ≤ 9 := by omega
  by_cases g3 : (sy_i F 70).toInt < 0
  · have c21 := nz_bx hB (k := 21) (lo := 0) (hi := 7) rfl
    exact ztl_0_p3 hd F X1 X2 hB (by first | exact g0 | (simp only [nz_c]; exact g0)) (by first | exact g1 | (simp only [nz_c]; exact g1)) (by first | exact g2 | (simp only [nz_c]; exact g2)) (by first | exact g3 | (simp only [nz_c]; exact g3)) (fun F1 g  => k3 g0 g1 g2 g3 F1 (nz_in hB [] (fun j hj hn => g j hj (by simp only [List.mem_cons, List.not_mem_nil, or_false, not_or] at hn; exact trivial)) (List.forall_mem_nil _)) (fun j hj hn => g j hj (by simp only [List.mem_cons, List.not_mem_nil, or_false, not_or] at hn; exact trivial)) )
  replace g3 : 0 ≤ (sy_i F 70).toInt := by omega
  by_cases g4 : 9 < (sy_i F 70).toInt
  · have c21 := nz_bx hB (k := 21) (lo := 0) (hi := 7) rfl
    exact ztl_0_p4 hd F X1 X2 hB (by first | exact g0 | (simp only [nz_c]; exact g0)) (by first | exact g1 | (simp only [nz_c]; exact g1)) (by first | exact g2 | (simp only [nz_c]; exact g2)) (by first | exact g3 | (simp only [nz_c]; exact g3)) (by first | exact g4 | (simp only [nz_c]; exact g4)) (fun F1 g  => k4 g0 g1 g2 g3 g4 F1 (nz_in hB [] (fun j hj hn => g j hj (by simp only [List.mem_cons, List.not_mem_nil, or_false, not_or] at hn; exact trivial)) (List.forall_mem_nil _)) (fun j hj hn => g j hj (by simp only [List.mem_cons, List.not_mem_nil, or_false, not_or] at hn; exact trivial)) )
  replace g4 : (sy_i F 70).toInt ≤ 9 := by omega
  have c21 := nz_bx hB (k := 21) (lo := 0) (hi := 7) rfl
  have n73 : nzI ((sy_i F 21) + ((1 : Int32))) (((sy_i F 21).toInt + 1)) := nz_add (rfl : (sy_i F 21).toInt = (sy_i F 21).toInt) (by decide : ((1 : Int32)).toInt = 1) (by omega) (by omega)
  have w71 : jm_upd (sy_ai F 63) (sy_i F 21).toNatClampNeg (sy_i F 69) = jm_upd (sy_ai F 63) ((sy_i F 21).toInt).toNat (sy_i F 69) := by simp only [nz_c]
  have w72 : jm_upd (sy_ai F 64) (sy_i F 21).toNatClampNeg (sy_i F 70) = jm_upd (sy_ai F 64) ((sy_i F 21).toInt).toNat (sy_i F 70) := by simp only [nz_c]
  exact ztl_0_p5 hd F X1 X2 hB (by first | exact g0 | (simp only [nz_c]; exact g0)) (by first | exact g1 | (simp only [nz_c]; exact g1)) (by first | exact g2 | (simp only [nz_c]; exact g2)) (by first | exact g3 | (simp only [nz_c]; exact g3)) (by first | exact g4 | (simp only [nz_c]; exact g4)) (by first | exact ⟨by omega, by omega⟩ | (simp only [nz_c]; exact ⟨by omega, by omega⟩)) (by first | exact ⟨by omega, by omega⟩ | (simp only [nz_c]; exact ⟨by omega, by omega⟩)) (fun F1 g e21 e63 e64 => by rw [(rfl : ((sy_i F 21) + ((1 : Int32))) - ((1 : Int32)) = ((sy_i F 21) + ((1 : Int32))) - ((1 : Int32)))]; exact k5 g0 g1 g2 g3 g4 F1 (nz_in hB [21, 63, 64] (fun j hj hn => g j hj (by simp only [List.mem_cons, List.not_mem_nil, or_false, not_or] at hn; omega)) (List.forall_mem_cons.mpr ⟨fun t ht => (Option.some.inj ht) ▸ (nz_hi e21 (nzE n73) (by omega) (by omega)), List.forall_mem_cons.mpr ⟨fun t ht => (Option.some.inj ht) ▸ (nz_hz2 e63), List.forall_mem_cons.mpr ⟨fun t ht => (Option.some.inj ht) ▸ (nz_hz2 e64), List.forall_mem_nil _⟩⟩⟩)) (fun j hj hn => g j hj (by simp only [List.mem_cons, List.not_mem_nil, or_false, not_or] at hn; omega)) ((congrArg Int32.toInt (zz_i e21)).trans (nzE n73)) ((zz_i e21).trans (rfl : (sy_i F 21) + ((1 : Int32)) = (sy_i F 21) + ((1 : Int32)))) ((zz_ai e63).trans w71) ((zz_ai e64).trans w72))
end
section
/-! ===== the reference: rows kept ===== -/
/-- from p on the list holds g -/
def gLo (nf nb : Nat) (l : List Int32) (p : Nat) (g : gS) : Prop := ∀ a i, vlS nf nb a i → l.getD (p + (ra a + i)) 0 = g a i
theorem gLo_0 {nf nb : Nat} {l : List Int32} {g : gS} (h : gL nf nb l g) {l' : List Int32} {p : Nat} (hf : nf ≤ 7) (hb : nb ≤ 4) (e : ∀ j, j < 61 → l'.getD (p + j) 0 = l.getD j 0) : gLo nf nb l' p g := fun a i hv => (e _ (vl_61 hf hb hv)).trans (h a i hv)
theorem gLo_L {nf nb : Nat} {l : List Int32} {g : gS} {p : Nat} (h : gLo nf nb l p g) {l' : List Int32} (hf : nf ≤ 7) (hb : nb ≤ 4) (e : ∀ j, j < 61 → l'.getD j 0 = l.getD (p + j) 0) : gL nf nb l' g := fun a i hv => (e _ (vl_61 hf hb hv)).trans (h a i hv)
theorem gLo_e {nf nb : Nat} {l l' : List Int32} {g : gS} {p p' : Nat} (h : gLo nf nb l p g) (hf : nf ≤ 7) (hb : nb ≤ 4) (e : ∀ j, j < 61 → l'.getD (p' + j) 0 = l.getD (p + j) 0) : gLo nf nb l' p' g := fun a i hv => (e _ (vl_61 hf hb hv)).trans (h a i hv)
/-- the grounds before, the newest first -/
def hiK (nf nb : Nat) (l : List Int32) : List gS → Prop
  | [] => True
  | g :: U => gLo nf nb l (61 * U.length) g ∧ hiK nf nb l U
def hiR (nf nb : Nat) (F : Nat → sy_d) (U : List gS) : Prop := (sy_i F 20).toInt = U.length ∧ U.length ≤ 40 ∧ hiK nf nb (sy_ai F 60) U
theorem hiK_eq {nf nb : Nat} {l l' : List Int32} (hf : nf ≤ 7) (hb : nb ≤ 4) : ∀ U : List gS, (∀ j, j < 61 * U.length → l'.getD j 0 = l.getD j 0) → hiK nf nb l U → hiK nf nb l' U
  | [], _, _ => trivial
  | g :: U, e, h => ⟨gLo_e h.1 hf hb (fun j hj => e _ (by simp only [List.length_cons]; omega)), hiK_eq hf hb U (fun j hj => e j (by simp only [List.length_cons]; omega)) h.2⟩
theorem hiK_dr {nf nb : Nat} {l l' : List Int32} (hf : nf ≤ 7) (hb : nb ≤ 4) : ∀ U : List gS, (∀ j, j + 61 < 61 * U.length → l'.getD j 0 = l.getD (j + 61) 0) → hiK nf nb l U → hiK nf nb l' U.dropLast
  | [], _, _ => trivial
  | [g], _, _ => trivial
  | g :: g' :: U, e, h => by
    refine ⟨?_, hiK_dr hf hb (g' :: U) (fun j hj => e j (by simp only [List.length_cons] at hj ⊢; omega)) h.2⟩
    show gLo nf nb l' (61 * (g' :: U).dropLast.length) g
    have e2 : (g' :: U).dropLast.length = U.length := by
      rw [List.length_dropLast]
      rfl
    rw [e2]
    refine gLo_e h.1 hf hb (fun j hj => ?_)
    rw [e _ (by simp only [List.length_cons]; omega)]
    rw [show 61 * U.length + j + 61 = 61 * (g' :: U).length + j by simp only [List.length_cons]; omega]
theorem hiR_e {nf nb : Nat} {F F1 : Nat → sy_d} {U : List gS} (h : hiR nf nb F U) (e2 : F1 20 = F 20) (e6 : F1 60 = F 60) : hiR nf nb F1 U := by
  unfold hiR
  rw [nz_fi e2, nz_fa e6]
  exact h
section RC
variable {Ls : Nat} {xs : Nat → Int32} {T : tX} {g : gS} (F : Nat → sy_d) (X1 X2 : List jm_c)
noncomputable def rcP (u : Nat) (l : List Int32) (F F' : Nat → sy_d) : Prop := qR [20, 54, 60] F F' ∧ (sy_i F' 20).toInt = (u + 1 : Nat) ∧ (∀ j, j < 61 * u → (sy_ai F' 60).getD j 0 = l.getD j 0) ∧ (∀ j, j < 61 → (sy_ai F' 60).getD (61 * u + j) 0 = (sy_ai F 54).getD j 0) ∧ ∀ j, j < 61 → (sy_ai F' 54).getD j 0 = (sy_ai F 55).getD j 0
theorem rc_51 {u : Nat} (hu : u ≤ 39) {l : List Int32} : ∀ (m : Nat) (F1 : Nat → sy_d) (n : Nat), n + m = 61 → qR [20, 60] F F1 → (sy_i F1 20).toInt = u → (sy_i F1 69).toInt = n → (∀ j, j < 61 * u → (sy_ai F1 60).getD j 0 = l.getD j 0) → (∀ j, j < n → (sy_ai F1 60).getD (61 * u + j) 0 = (sy_ai F 54).getD j 0) →
    hd_W Ls xs 2 jm_M200 (pV 4 X1 X2 (rcP u l F)) (51, sy_dL F1 [some (.inl (.ref 1000)), some (.inr (.inl 69))], sy_dS F1 [], sy_dh F1 X1 X2 (iv_H 4), 0, 0) := by
  intro m
  induction m with
  | zero =>
    intro F1 n hm hq e20 e69 hl hn
    refine zrc_51 (by decide) F1 X1 X2 hq.1 (by omega) (by omega) (by omega) ?_ ?_
    · intro c0 F2 hb gg f20 i20
      have q2 : qR [20, 60] F F2 := qq_on hq hb gg (by decide)
      refine hd_calV (R := fun F' => qR [54] F2 F' ∧ ∀ j, j < 61 → (sy_ai F' 54).getD j 0 = (sy_ai F2 55).getD j 0) (nh := 69) (nv := 69) (s := 4) (s1 := 4) (d1 := 1) (M1 := jm_M172) (As := [.inl (.ref 1000)]) (rest := []) jm_ok200 rfl rfl (by decide) (by decide +kernel) (kr_V F2 X1 X2 hb) (fun F3 F' hR p1 p2 => ?_)
      obtain ⟨r1, r2⟩ := hR
      have r1' : qR [54] F2 F3 := qR_dst r1 p1
      refine zrc_97 (by decide) F3 X1 X2 r1'.1 ?_
      intro F4 hb4 g4
      have q4 : qR [54] F2 F4 := qq_on r1' hb4 g4 (by decide)
      refine ⟨F4, rfl, rfl, qq_trans (qq_up q2 (by decide)) (qq_up q4 (by decide)), ?_, fun j hj => ?_, fun j hj => ?_, fun j hj => ?_⟩
      · rw [qq_i q4 (by decide) (by decide)]
        omega
      · rw [qq_a q4 (by decide) (by decide), nz_fa (gg 60 (by decide) (by decide))]
        exact hl j hj
      · rw [qq_a q4 (by decide) (by decide), nz_fa (gg 60 (by decide) (by decide))]
        exact hn j (by omega)
      · rw [nz_fa (g4 54 (by decide) (by decide)), nz_fa (p1 54 (by decide)), r2 j hj, qq_a q2 (by decide) (by decide)]
    · intros
      omega
  | succ m ih =>
    intro F1 n hm hq e20 e69 hl hn
    refine zrc_51 (by decide) F1 X1 X2 hq.1 (by omega) (by omega) (by omega) ?_ ?_
    · intros
      omega
    · intro c0 F2 hb gg a60 f69 i69
      have en : (sy_i F1 69).toInt.toNat = n := by omega
      have ei : (61 * (sy_i F1 20).toInt + (sy_i F1 69).toInt).toNat = 61 * u + n := by omega
      rw [en, ei, qq_a hq (j := 54) (by decide) (by decide)] at a60
      refine ih F2 (n + 1) (by omega) (qq_on hq hb gg (by decide)) (by rw [nz_fi (gg 20 (by decide) (by decide))]; exact e20) (by omega) (fun j hj => ?_) (fun j hj => ?_)
      · rw [a60, jm_upd_at, if_neg (by omega)]
        exact hl j hj
      · rw [a60, jm_upd_at]
        by_cases q : j = n
        · rw [if_pos (by omega), q]
        · rw [if_neg (by omega)]
          exact hn j (by omega)
theorem rc_11 (h20 : (sy_i F 20).toInt = 40) : ∀ (m : Nat) (F1 : Nat → sy_d) (n : Nat), n + m = 2379 → qR [60] F F1 → (sy_i F1 69).toInt = n → (∀ j, j < n → (sy_ai F1 60).getD j 0 = (sy_ai F 60).getD (j + 61) 0) → (∀ j, n ≤ j → (sy_ai F1 60).getD j 0 = (sy_ai F 60).getD j 0) →
    hd_W Ls xs 2 jm_M200 (pV 4 X1 X2 (fun F' => ∃ l : List Int32, (∀ j, j < 2379 → l.getD j 0 = (sy_ai F 60).getD (j + 61) 0) ∧ rcP 39 l F F')) (11, sy_dL F1 [some (.inl (.ref 1000)), some (.inr (.inl 69))], sy_dS F1 [], sy_dh F1 X1 X2 (iv_H 4), 0, 0) := by
  intro m
  induction m with
  | zero =>
    intro F1 n hm hq e69 h1 h2
    have e20 : (sy_i F1 20).toInt = 40 := by rw [qq_i hq (by decide) (by decide)]; exact h20
    refine zrc_11 (by decide) F1 X1 X2 hq.1 (by omega) (by omega) ?_ ?_
    · intro c0 F2 hb gg f20 i20 f69 i69
      have a60 := nz_fa (gg 60 (by decide) (by decide))
      refine hd_mono (rc_51 F X1 X2 (u := 39) (by decide) (l := sy_ai F2 60) 61 F2 0 (by omega) (qq_on (qq_up hq (by decide)) hb gg (by decide)) (by omega) f69 (fun j _ => rfl) (fun j hj => absurd hj (by omega))) ?_
      rintro v G ⟨F', e1, e2, e3⟩
      refine ⟨F', e1, e2, _, fun j hj => ?_, e3⟩
      rw [a60]
      exact h1 j (by omega)
    · intros
      omega
  | succ m ih =>
    intro F1 n hm hq e69 h1 h2
    have e20 : (sy_i F1 20).toInt = 40 := by rw [qq_i hq (by decide) (by decide)]; exact h20
    refine zrc_11 (by decide) F1 X1 X2 hq.1 (by omega) (by omega) ?_ ?_
    · intros
      omega
    · intro c0 F2 hb gg a60 f69 i69
      have en : (sy_i F1 69).toInt.toNat = n := by omega
      have ei : ((sy_i F1 69).toInt + 61).toNat = n + 61 := by omega
      rw [en, ei] at a60
      refine ih F2 (n + 1) (by omega) (qq_on hq hb gg (by decide)) (by omega) (fun j hj => ?_) (fun j hj => ?_)
      · rw [a60, jm_upd_at]
        by_cases q : j = n
        · rw [if_pos q, q]
          exact h2 _ (by omega)
        · rw [if_neg q]
          exact h1 j (by omega)
      · rw [a60, jm_upd_at, if_neg (by omega)]
        exact h2 j (by omega)
/-- what is done is recorded -/
theorem rc_V {nf nb : Nat} {g' : gS} (hf : nf ≤ 7) (hb : nb ≤ 4) (hB : iv_in F iv_B4) (hN : gL nf nb (sy_ai F 54) g) (hR : gL nf nb (sy_ai F 55) g') {U : List gS} (hU : hiR nf nb F U) : jm_T Ls xs 2 jm_M200 [.ref 1000] (sy_dh F X1 X2 (iv_H 4)) 0 0 (pV 4 X1 X2 (fun F' => qR [20, 54, 60] F F' ∧ gL nf nb (sy_ai F' 54) g' ∧ hiR nf nb F' (rmS g U))) := by
  obtain ⟨u1, u2, u3⟩ := hU
  refine hd_T (As := [.inl (.ref 1000)]) jm_ok200 (by decide) (zrc_0 (by decide) F X1 X2 hB ?_ ?_)
  · intro c0 F1 hb1 gg e69 i69
    have hn : U.length ≠ 40 := by omega
    have f1 : ∀ j, j < 69 → F1 j = F j := fun j hj => gg j hj (by simp)
    refine hd_mono (rc_51 F X1 X2 (u := U.length) (by omega) (l := sy_ai F 60) 61 F1 0 (by omega) (qq_mk hb1 gg (by decide)) (by rw [nz_fi (f1 20 (by decide))]; exact u1) e69 (fun j _ => by rw [nz_fa (f1 60 (by decide))]) (fun j hj => absurd hj (by omega))) ?_
    rintro v G ⟨F', e1, e2, r1, r2, r3, r4, r5⟩
    refine ⟨F', e1, e2, r1, gL_eq hf hb hR r5, ?_⟩
    unfold rmS
    rw [if_neg hn]
    exact ⟨r2, by simp only [List.length_cons]; omega, gLo_0 hN hf hb r4, hiK_eq hf hb U r3 u3⟩
  · intro c0 F1 hb1 gg e69 i69
    have hn : U.length = 40 := by omega
    have f1 : ∀ j, j < 69 → F1 j = F j := fun j hj => gg j hj (by simp)
    refine hd_mono (rc_11 F X1 X2 c0 2379 F1 0 (by omega) (qq_mk hb1 gg (by decide)) e69 (fun j hj => absurd hj (by omega)) (fun j _ => by rw [nz_fa (f1 60 (by decide))])) ?_
    rintro v G ⟨F', e1, e2, l, hl, r1, r2, r3, r4, r5⟩
    have hd : U.dropLast.length = 39 := by rw [List.length_dropLast, hn]
    refine ⟨F', e1, e2, r1, gL_eq hf hb hR r5, ?_⟩
    unfold rmS
    rw [if_pos hn]
    refine ⟨by rw [r2]; simp only [List.length_cons, hd], by simp only [List.length_cons, hd]; omega, ?_, ?_⟩
    · show gLo nf nb _ (61 * U.dropLast.length) g
      rw [hd]
      exact gLo_0 hN hf hb r4
    · refine hiK_dr hf hb U (fun j hj => ?_) u3
      rw [hn] at hj
      rw [r3 j (by omega)]
      exact hl j (by omega)
/-- the row that stands now -/
def gNw (T : tX) (F : Nat → sy_d) (g : gS) : Prop := gL (nfS T) (nbS T) (sy_ai F 54) g
theorem gNw_e {F1 : Nat → sy_d} (h : gNw T F g) (e : sy_ai F1 54 = sy_ai F 54) : gNw T F1 g := by
  unfold gNw
  rw [e]
  exact h
theorem gRow_c (hC : cR T F) (hN : gNw T F g) {F1 : Nat → sy_d} (e : ∀ j, j < 61 → (sy_ai F1 55).getD j 0 = (sy_ai F 54).getD j 0) : gRow T F1 g := gL_eq hC.2.2.1.1 hC.2.2.1.2.1 hN e
end RC
section RG
variable {Ls : Nat} {xs : Nat → Int32} {T : tX} {g : gS} (F : Nat → sy_d) (X1 X2 : List jm_c)
theorem rgo_V (hC : cR T F) (hN : gNw T F g) {U : List gS} (hU : hiR (nfS T) (nbS T) F U) (b v : Int32) : jm_T Ls xs 3 jm_M201 [.ref 1000, .int b, .int v] (sy_dh F X1 X2 (iv_H 4)) 0 0 (pI 4 X1 X2 (fun x F' => (¬ (0 ≤ b.toInt ∧ b.toInt < nbS T ∧ 0 ≤ v.toInt ∧ v.toInt ≤ 9 ∧ g 7 b.toInt.toNat ≠ v) → x = 0 ∧ qR [] F F') ∧ (0 ≤ b.toInt ∧ b.toInt < nbS T ∧ 0 ≤ v.toInt ∧ v.toInt ≤ 9 ∧ g 7 b.toInt.toNat ≠ v → x = 1 ∧ qR [18, 20, 54, 55, 60] F F' ∧ gNw T F' (upS g 7 b.toInt.toNat v) ∧ hiR (nfS T) (nbS T) F' (rmS g U)))) := by
  have l7 : nfS T ≤ 7 := hC.2.2.1.1
  have l4 : nbS T ≤ 4 := hC.2.2.1.2.1
  refine R_T [b, v] [.inl (.ref 1000), .inr (.inl 69), .inr (.inl 70)] jm_ok201 (by decide) rfl (fun F0 k0 ki => ?_)
  have i69 : sy_i F0 69 = b := ki 0
  have i70 : sy_i F0 70 = v := ki 1
  have z69 : (sy_i F0 69).toInt = b.toInt := congrArg Int32.toInt i69
  have z70 : (sy_i F0 70).toInt = v.toInt := congrArg Int32.toInt i70
  have en : ((sy_ai F0 35).getD (sy_i F0 11).toInt.toNat 0).toInt = (nbS T : Int) := by rw [nz_fa (k0 35 (by decide)), nz_fi (k0 11 (by decide))]; exact (rX_n hC.2.1).2.1
  have rd : 0 ≤ b.toInt → b.toInt < nbS T → (sy_ai F0 54).getD (49 + (sy_i F0 69).toInt).toNat 0 = g 7 b.toInt.toNat := fun h1 h2 => by
    rw [nz_fa (k0 54 (by decide)), show (49 + (sy_i F0 69).toInt).toNat = ra 7 + b.toInt.toNat by show _ = 49 + _; omega]
    exact hN 7 _ (vB (Or.inl rfl) (by omega))
  have no : ∀ F1 : Nat → sy_d, iv_in F1 iv_B4 → (∀ j, j < 69 → j ∉ ([] : List Nat) → F1 j = F0 j) → ¬ (0 ≤ b.toInt ∧ b.toInt < nbS T ∧ 0 ≤ v.toInt ∧ v.toInt ≤ 9 ∧ g 7 b.toInt.toNat ≠ v) → pI 4 X1 X2 (fun x F' => (¬ (0 ≤ b.toInt ∧ b.toInt < nbS T ∧ 0 ≤ v.toInt ∧ v.toInt ≤ 9 ∧ g 7 b.toInt.toNat ≠ v) → x = 0 ∧ qR [] F F') ∧ (0 ≤ b.toInt ∧ b.toInt < nbS T ∧ 0 ≤ v.toInt ∧ v.toInt ≤ 9 ∧ g 7 b.toInt.toNat ≠ v → x = 1 ∧ qR [18, 20, 54, 55, 60] F F' ∧ gNw T F' (upS g 7 b.toInt.toNat v) ∧ hiR (nfS T) (nbS T) F' (rmS g U))) (some (.int (0 : Int32))) (sy_dh F1 X1 X2 (iv_H 4)) := fun F1 hb1 gg h => ⟨_, F1, rfl, rfl, fun _ => ⟨rfl, qq_src (qq_mk hb1 gg (by decide)) k0⟩, fun z => absurd z h⟩
  refine zgo_0 (by decide) F0 X1 X2 (hd_iveq hC.1 k0) ?_ ?_ ?_ ?_ ?_ ?_
  · intro c0 F1 hb1 gg
    exact no F1 hb1 gg (fun h => absurd h.1 (by omega))
  · intro c0 c1 F1 hb1 gg
    exact no F1 hb1 gg (fun h => absurd h.2.1 (by omega))
  · intro c0 c1 c2 F1 hb1 gg
    exact no F1 hb1 gg (fun h => absurd h.2.2.1 (by omega))
  · intro c0 c1 c2 c3 F1 hb1 gg
    exact no F1 hb1 gg (fun h => absurd h.2.2.2.1 (by omega))
  · intro c0 c1 c2 c3 c4 F1 hb1 gg e69 j69 e70 j70
    rw [rd (by omega) (by omega)] at c4
    have hne : g 7 b.toInt.toNat ≠ v := fun z => c4 (by rw [z]; omega)
    have q1 : qR [] F F1 := qq_src (qq_mk hb1 gg (by decide)) k0
    have c1' := cR_q hC q1 (by decide)
    refine hd_calV (R := fun F' => qR [18, 55] F1 F' ∧ (∀ j, j < 61 → (sy_ai F' 55).getD j 0 = (sy_ai F1 54).getD j 0) ∧ sy_i F' 18 = Int32.ofInt T.2.2.2.2.1) (nh := 69) (nv := 71) (s := 4) (s1 := 4) (d1 := 1) (M1 := jm_M173) (As := [.inl (.ref 1000)]) (rest := []) jm_ok201 rfl rfl (by decide) (by decide +kernel) (cp_V F1 X1 X2 c1') (fun F3 F' hR p1 p2 => ?_)
    obtain ⟨r1, r2, r3⟩ := hR
    have r1' : qR [18, 55] F1 F3 := qR_dst r1 p1
    have k69 : sy_i F3 69 = b := (eI (p2 69 (by decide) (by decide))).trans (j69.trans i69)
    have k70 : sy_i F3 70 = v := (eI (p2 70 (by decide) (by decide))).trans (j70.trans i70)
    have q3 : qR [18, 55] F F3 := qq_trans (qq_up q1 (by decide)) r1'
    have w3 : gRow T F3 g := gRow_c F hC hN (fun j hj => by rw [nz_fa (p1 55 (by decide)), r2 j hj, qq_a q1 (by decide) (by decide)])
    refine zgo_37 (by decide) F3 X1 X2 q3.1 (by rw [k69]; omega) (by rw [k70]; omega) ?_
    intro F4 hb4 g4 a55 f69 l69 f70 l70
    rw [k69, k70] at a55
    have q4 : qR [18, 55] F F4 := qq_on q3 hb4 g4 (by decide)
    have w4 : gL (nfS T) (nbS T) (sy_ai F4 55) (upS g 7 b.toInt.toNat v) := by
      rw [a55]
      exact gL_up l7 l4 w3 (vB (Or.inl rfl) (by omega)) (show (49 + b.toInt).toNat = 49 + b.toInt.toNat by omega)
    refine hd_calV (R := fun F' => qR [20, 54, 60] F4 F' ∧ gL (nfS T) (nbS T) (sy_ai F' 54) (upS g 7 b.toInt.toNat v) ∧ hiR (nfS T) (nbS T) F' (rmS g U)) (nh := 69) (nv := 71) (s := 4) (s1 := 4) (d1 := 2) (M1 := jm_M200) (As := [.inl (.ref 1000)]) (rest := []) jm_ok201 rfl rfl (by decide) (by decide +kernel) (rc_V F4 X1 X2 l7 l4 hb4 (gNw_e F hN (qq_a q4 (by decide) (by decide))) w4 (hiR_e hU (q4.2 20 (by decide) (by decide)) (q4.2 60 (by decide) (by decide)))) (fun F5 F6 hR5 s1 s2 => ?_)
    obtain ⟨u1, u2, u3⟩ := hR5
    have q5 : qR [18, 20, 54, 55, 60] F F5 := qq_trans (qq_up q4 (by decide)) (qq_up (qR_dst u1 s1) (by decide))
    refine zgo_51 (by decide) F5 X1 X2 q5.1 ?_
    intro F7 hb7 g7
    have f7 : ∀ j, j < 69 → F7 j = F6 j := fun j hj => (g7 j hj (by simp)).trans (s1 j hj)
    exact ⟨_, F7, rfl, rfl, fun h => absurd ⟨by omega, by omega, by omega, by omega, hne⟩ h, fun _ => ⟨rfl, qq_on q5 hb7 g7 (by decide), gNw_e F6 u2 (nz_fa (f7 54 (by decide))), hiR_e u3 (f7 20 (by decide)) (f7 60 (by decide))⟩⟩
  · intro c0 c1 c2 c3 c4 F1 hb1 gg
    rw [rd (by omega) (by omega)] at c4
    have heq : g 7 b.toInt.toNat = v := Int32.toInt_inj.mp (by omega)
    exact no F1 hb1 gg (fun h => h.2.2.2.2 heq)
theorem rpr_V (hC : cR T F) (hN : gNw T F g) (h5 : ∀ f, f < nfS T → g 5 f = 0 ∨ g 5 f = 1) {U : List gS} (hU : hiR (nfS T) (nbS T) F U) (f v : Int32) (hv : 0 ≤ v.toInt ∧ v.toInt ≤ 1) : jm_T Ls xs 3 jm_M202 [.ref 1000, .int f, .int v] (sy_dh F X1 X2 (iv_H 4)) 0 0 (pI 4 X1 X2 (fun x F' => (¬ (0 ≤ f.toInt ∧ f.toInt < nfS T ∧ (g 2 f.toInt.toNat).toInt = 0 ∧ g 5 f.toInt.toNat ≠ v) → x = 0 ∧ qR [] F F') ∧ (0 ≤ f.toInt ∧ f.toInt < nfS T ∧ (g 2 f.toInt.toNat).toInt = 0 ∧ g 5 f.toInt.toNat ≠ v → x = 1 ∧ qR [18, 20, 54, 55, 60] F F' ∧ gNw T F' (upS g 5 f.toInt.toNat v) ∧ hiR (nfS T) (nbS T) F' (rmS g U)))) := by
  have l7 : nfS T ≤ 7 := hC.2.2.1.1
  have l4 : nbS T ≤ 4 := hC.2.2.1.2.1
  refine R_T [f, v] [.inl (.ref 1000), .inr (.inl 69), .inr (.inl 70)] jm_ok202 (by decide) rfl (fun F0 k0 ki => ?_)
  have i69 : sy_i F0 69 = f := ki 0
  have i70 : sy_i F0 70 = v := ki 1
  have z69 : (sy_i F0 69).toInt = f.toInt := congrArg Int32.toInt i69
  have z70 : (sy_i F0 70).toInt = v.toInt := congrArg Int32.toInt i70
  have o0 : (0 : Int32).toInt = 0 := by decide
  have o1 : (1 : Int32).toInt = 1 := by decide
  have en : ((sy_ai F0 31).getD (sy_i F0 11).toInt.toNat 0).toInt = (nfS T : Int) := by rw [nz_fa (k0 31 (by decide)), nz_fi (k0 11 (by decide))]; exact (rX_n hC.2.1).1
  have rd : 0 ≤ f.toInt → f.toInt < nfS T → (sy_ai F0 54).getD (14 + (sy_i F0 69).toInt).toNat 0 = g 2 f.toInt.toNat := fun h1 h2 => by
    rw [nz_fa (k0 54 (by decide)), show (14 + (sy_i F0 69).toInt).toNat = ra 2 + f.toInt.toNat by show _ = 14 + _; omega]
    exact hN 2 _ (vF (by decide) (by omega))
  have rp : 0 ≤ f.toInt → f.toInt < nfS T → (sy_ai F0 54).getD (35 + (sy_i F0 69).toInt).toNat 0 = g 5 f.toInt.toNat := fun h1 h2 => by
    rw [nz_fa (k0 54 (by decide)), show (35 + (sy_i F0 69).toInt).toNat = ra 5 + f.toInt.toNat by show _ = 35 + _; omega]
    exact hN 5 _ (vF (by decide) (by omega))
  have no : ∀ F1 : Nat → sy_d, iv_in F1 iv_B4 → (∀ j, j < 69 → j ∉ ([] : List Nat) → F1 j = F0 j) → ¬ (0 ≤ f.toInt ∧ f.toInt < nfS T ∧ (g 2 f.toInt.toNat).toInt = 0 ∧ g 5 f.toInt.toNat ≠ v) → pI 4 X1 X2 (fun x F' => (¬ (0 ≤ f.toInt ∧ f.toInt < nfS T ∧ (g 2 f.toInt.toNat).toInt = 0 ∧ g 5 f.toInt.toNat ≠ v) → x = 0 ∧ qR [] F F') ∧ (0 ≤ f.toInt ∧ f.toInt < nfS T ∧ (g 2 f.toInt.toNat).toInt = 0 ∧ g 5 f.toInt.toNat ≠ v → x = 1 ∧ qR [18, 20, 54, 55, 60] F F' ∧ gNw T F' (upS g 5 f.toInt.toNat v) ∧ hiR (nfS T) (nbS T) F' (rmS g U))) (some (.int (0 : Int32))) (sy_dh F1 X1 X2 (iv_H 4)) := fun F1 hb1 gg h => ⟨_, F1, rfl, rfl, fun _ => ⟨rfl, qq_src (qq_mk hb1 gg (by decide)) k0⟩, fun z => absurd z h⟩
  have yes : ∀ F1 : Nat → sy_d, iv_in F1 iv_B4 → (∀ j, j < 69 → j ∉ ([] : List Nat) → F1 j = F0 j) → sy_i F1 69 = sy_i F0 69 → sy_i F1 70 = sy_i F0 70 → (0 ≤ f.toInt ∧ f.toInt < nfS T ∧ (g 2 f.toInt.toNat).toInt = 0 ∧ g 5 f.toInt.toNat ≠ v) → hd_W Ls xs 3 jm_M202 (pI 4 X1 X2 (fun x F' => (¬ (0 ≤ f.toInt ∧ f.toInt < nfS T ∧ (g 2 f.toInt.toNat).toInt = 0 ∧ g 5 f.toInt.toNat ≠ v) → x = 0 ∧ qR [] F F') ∧ (0 ≤ f.toInt ∧ f.toInt < nfS T ∧ (g 2 f.toInt.toNat).toInt = 0 ∧ g 5 f.toInt.toNat ≠ v → x = 1 ∧ qR [18, 20, 54, 55, 60] F F' ∧ gNw T F' (upS g 5 f.toInt.toNat v) ∧ hiR (nfS T) (nbS T) F' (rmS g U)))) (45, sy_dL F1 [some (.inl (.ref 1000)), some (.inr (.inl 69)), some (.inr (.inl 70))], sy_dS F1 [.inl (.ref 1000)], sy_dh F1 X1 X2 (iv_H 4), 0, 0) := fun F1 hb1 gg j69 j70 hk => by
    have q1 : qR [] F F1 := qq_src (qq_mk hb1 gg (by decide)) k0
    have c1' := cR_q hC q1 (by decide)
    refine hd_calV (R := fun F' => qR [18, 55] F1 F' ∧ (∀ j, j < 61 → (sy_ai F' 55).getD j 0 = (sy_ai F1 54).getD j 0) ∧ sy_i F' 18 = Int32.ofInt T.2.2.2.2.1) (nh := 69) (nv := 71) (s := 4) (s1 := 4) (d1 := 1) (M1 := jm_M173) (As := [.inl (.ref 1000)]) (rest := []) jm_ok202 rfl rfl (by decide) (by decide +kernel) (cp_V F1 X1 X2 c1') (fun F3 F' hR p1 p2 => ?_)
    obtain ⟨r1, r2, r3⟩ := hR
    have r1' : qR [18, 55] F1 F3 := qR_dst r1 p1
    have k69 : sy_i F3 69 = f := (eI (p2 69 (by decide) (by decide))).trans (j69.trans i69)
    have k70 : sy_i F3 70 = v := (eI (p2 70 (by decide) (by decide))).trans (j70.trans i70)
    have q3 : qR [18, 55] F F3 := qq_trans (qq_up q1 (by decide)) r1'
    have w3 : gRow T F3 g := gRow_c F hC hN (fun j hj => by rw [nz_fa (p1 55 (by decide)), r2 j hj, qq_a q1 (by decide) (by decide)])
    have fin : ∀ (F4 : Nat → sy_d) (w : Int32), w = v → iv_in F4 iv_B4 → (∀ j, j < 69 → j ∉ ([55] : List Nat) → F4 j = F3 j) → sy_ai F4 55 = jm_upd (sy_ai F3 55) ((35 + (sy_i F3 69).toInt)).toNat w → hd_W Ls xs 3 jm_M202 (pI 4 X1 X2 (fun x F' => (¬ (0 ≤ f.toInt ∧ f.toInt < nfS T ∧ (g 2 f.toInt.toNat).toInt = 0 ∧ g 5 f.toInt.toNat ≠ v) → x = 0 ∧ qR [] F F') ∧ (0 ≤ f.toInt ∧ f.toInt < nfS T ∧ (g 2 f.toInt.toNat).toInt = 0 ∧ g 5 f.toInt.toNat ≠ v → x = 1 ∧ qR [18, 20, 54, 55, 60] F F' ∧ gNw T F' (upS g 5 f.toInt.toNat v) ∧ hiR (nfS T) (nbS T) F' (rmS g U)))) (67, sy_dL F4 [some (.inl (.ref 1000)), some (.inr (.inl 69)), some (.inr (.inl 70))], sy_dS F4 [.inl (.ref 1000)], sy_dh F4 X1 X2 (iv_H 4), 0, 0) := fun F4 w ew hb4 g4 a55 => by
      subst ew
      rw [k69] at a55
      have q4 : qR [18, 55] F F4 := qq_on q3 hb4 g4 (by decide)
      have w4 : gL (nfS T) (nbS T) (sy_ai F4 55) (upS g 5 f.toInt.toNat w) := by
        rw [a55]
        exact gL_up l7 l4 w3 (vF (by decide) (by omega)) (show (35 + f.toInt).toNat = 35 + f.toInt.toNat by omega)
      refine hd_calV (R := fun F' => qR [20, 54, 60] F4 F' ∧ gL (nfS T) (nbS T) (sy_ai F' 54) (upS g 5 f.toInt.toNat w) ∧ hiR (nfS T) (nbS T) F' (rmS g U)) (nh := 69) (nv := 71) (s := 4) (s1 := 4) (d1 := 2) (M1 := jm_M200) (As := [.inl (.ref 1000)]) (rest := []) jm_ok202 rfl rfl (by decide) (by decide +kernel) (rc_V F4 X1 X2 l7 l4 hb4 (gNw_e F hN (qq_a q4 (by decide) (by decide))) w4 (hiR_e hU (q4.2 20 (by decide) (by decide)) (q4.2 60 (by decide) (by decide)))) (fun F5 F6 hR5 s1 s2 => ?_)
      obtain ⟨u1, u2, u3⟩ := hR5
      have q5 : qR [18, 20, 54, 55, 60] F F5 := qq_trans (qq_up q4 (by decide)) (qq_up (qR_dst u1 s1) (by decide))
      refine zpr_70 (by decide) F5 X1 X2 q5.1 ?_
      intro F7 hb7 g7
      have f7 : ∀ j, j < 69 → F7 j = F6 j := fun j hj => (g7 j hj (by simp)).trans (s1 j hj)
      exact ⟨_, F7, rfl, rfl, fun h => absurd hk h, fun _ => ⟨rfl, qq_on q5 hb7 g7 (by decide), gNw_e F6 u2 (nz_fa (f7 54 (by decide))), hiR_e u3 (f7 20 (by decide)) (f7 60 (by decide))⟩⟩
    refine zpr_48 (by decide) F3 X1 X2 q3.1 (by rw [k69]; omega) (by rw [k70]; omega) ?_ ?_
    · intro d0 F4 hb4 g4 a55 f69 l69 f70 l70
      rw [k70] at d0
      exact fin F4 0 (Int32.toInt_inj.mp (by omega)) hb4 g4 a55
    · intro d0 F4 hb4 g4 a55 f69 l69 f70 l70
      rw [k70] at d0
      exact fin F4 1 (Int32.toInt_inj.mp (by omega)) hb4 g4 a55
  refine zpr_0 (by decide) F0 X1 X2 (hd_iveq hC.1 k0) (by omega) ?_ ?_ ?_ ?_ ?_ ?_ ?_
  · intro c0 F1 hb1 gg
    exact no F1 hb1 gg (fun h => absurd h.1 (by omega))
  · intro c0 c1 F1 hb1 gg
    exact no F1 hb1 gg (fun h => absurd h.2.1 (by omega))
  · intro c0 c1 c2 F1 hb1 gg
    rw [rd (by omega) (by omega)] at c2
    exact no F1 hb1 gg (fun h => c2 h.2.2.1)
  · intro c0 c1 c2 c3 c4 F1 hb1 gg e69 j69 e70 j70
    rw [rd (by omega) (by omega)] at c2
    rw [rp (by omega) (by omega)] at c3
    have h6 := h5 f.toInt.toNat (by omega)
    have ev : v = 1 := Int32.toInt_inj.mp (by omega)
    exact yes F1 hb1 gg j69 j70 ⟨by omega, by omega, c2, fun z => c3 (by rw [z, ev]; exact o1)⟩
  · intro c0 c1 c2 c3 c4 F1 hb1 gg
    rw [rp (by omega) (by omega)] at c3
    have h6 := h5 f.toInt.toNat (by omega)
    have ev : v = 0 := Int32.toInt_inj.mp (by omega)
    refine no F1 hb1 gg (fun h => h.2.2.2 ?_)
    rcases h6 with h6 | h6
    · rw [h6, ev]
    · exact absurd (by rw [h6]; exact o1) c3
  · intro c0 c1 c2 c3 c4 F1 hb1 gg e69 j69 e70 j70
    rw [rd (by omega) (by omega)] at c2
    rw [rp (by omega) (by omega)] at c3
    have ev : v = 0 := Int32.toInt_inj.mp (by omega)
    exact yes F1 hb1 gg j69 j70 ⟨by omega, by omega, c2, fun z => by rw [z, ev] at c3; exact absurd c3 (by decide)⟩
  · intro c0 c1 c2 c3 c4 F1 hb1 gg
    rw [rp (by omega) (by omega)] at c3
    have ev : v = 1 := Int32.toInt_inj.mp (by omega)
    exact no F1 hb1 gg (fun h => h.2.2.2 (Int32.toInt_inj.mp (by rw [ev]; omega)))
end RG
end
section
/-! ===== the reference: shake, hours, undo, hold, restore ===== -/
theorem shk_row {nf nb : Nat} {l : List Int32} {g : gS} (hf : nf ≤ 7) (hb : nb ≤ 4) (h : gL nf nb l g) {f n : Nat} (hl : f < nf) (hn : n = 42 + f) : gL nf nb (jm_upd (jm_upd l n (l.getD n 0 + 1)) (58 : Int).toNat ((jm_upd l n (l.getD n 0 + 1)).getD (58 : Int).toNat 0 + 1)) (shkS g f) := by
  have e6 : l.getD n 0 = g 6 f := by
    rw [hn]
    exact h 6 f (vF (by decide) hl)
  have w1 := gL_up (v := g 6 f + 1) hf hb h (vF (by decide) hl) (show n = ra 6 + f from hn)
  rw [e6]
  have e9 : (jm_upd l n (g 6 f + 1)).getD (58 : Int).toNat 0 = g 9 1 := (w1 9 1 (vH (by decide))).trans (upS_o (Or.inl (by decide)))
  rw [e9]
  exact gL_up hf hb w1 (vH (by decide)) rfl
theorem fnd_row {nf nb : Nat} {l : List Int32} {T : tX} {g : gS} (hf : nf ≤ 7) (hb : nb ≤ 4) {f : Nat} (h : gL nf nb l (shkS g f)) : gL nf nb (jm_upd (jm_upd l (59 : Int).toNat (l.getD (59 : Int).toNat 0 + 1)) (60 : Int).toNat ((jm_upd l (59 : Int).toNat (l.getD (59 : Int).toNat 0 + 1)).getD (60 : Int).toNat 0 + Int32.ofInt T.2.2.1)) (fndS T g f) := by
  have e9 : l.getD (59 : Int).toNat 0 = g 9 2 := (h 9 2 (vH (by decide))).trans (shkS_9 g f).2.2.1
  have w1 : gL nf nb (jm_upd l (59 : Int).toNat (g 9 2 + 1)) (upS (shkS g f) 9 2 (g 9 2 + 1)) := gL_up hf hb h (vH (by decide)) rfl
  rw [e9]
  have e10 : (jm_upd l (59 : Int).toNat (g 9 2 + 1)).getD (60 : Int).toNat 0 = g 9 3 := (w1 9 3 (vH (by decide))).trans ((upS_o (Or.inr (by decide))).trans (shkS_9 g f).2.2.2)
  rw [e10]
  exact gL_up hf hb w1 (vH (by decide)) rfl
section RS
variable {Ls : Nat} {xs : Nat → Int32} {T : tX} {g : gS} (F : Nat → sy_d) (X1 X2 : List jm_c)
noncomputable def rskP (T : tX) (g : gS) (U : List gS) (f : Nat) (F : Nat → sy_d) (x : Int32) (F' : Nat → sy_d) : Prop := qR [17, 18, 20, 52, 53, 54, 55, 60] F F' ∧ hiR (nfS T) (nbS T) F' (rmS g U) ∧ (fdS T g → x = 1 ∧ gNw T F' (fndS T g f)) ∧ (¬ fdS T g → x = 0 ∧ gNw T F' (shkS g f))
theorem rsk_165 (hC : cR T F) (hN : gNw T F g) {U : List gS} (hU : hiR (nfS T) (nbS T) F U) {F1 : Nat → sy_d} (q1 : qR [17, 18, 52, 53, 55] F F1) {g' : gS} (hR : gRow T F1 g') {x : Int32} (hx : x = 0 ∨ x = 1) (i69 : sy_i F1 69 = x) {P : Int32 → (Nat → sy_d) → Prop} (K : ∀ F', qR [17, 18, 20, 52, 53, 54, 55, 60] F F' → hiR (nfS T) (nbS T) F' (rmS g U) → gNw T F' g' → P x F') :
    hd_W Ls xs 7 jm_M203 (pI 4 X1 X2 P) (165, sy_dL F1 [some (.inl (.ref 1000)), none, none, some (.inr (.inl 69)), none], sy_dS F1 [.inl (.ref 1000)], sy_dh F1 X1 X2 (iv_H 4), 0, 0) := by
  have l7 : nfS T ≤ 7 := hC.2.2.1.1
  have l4 : nbS T ≤ 4 := hC.2.2.1.2.1
  refine hd_calV (R := fun F' => qR [20, 54, 60] F1 F' ∧ gL (nfS T) (nbS T) (sy_ai F' 54) g' ∧ hiR (nfS T) (nbS T) F' (rmS g U)) (nh := 69) (nv := 70) (s := 4) (s1 := 4) (d1 := 2) (M1 := jm_M200) (As := [.inl (.ref 1000)]) (rest := []) jm_ok203 rfl rfl (by decide) (by decide +kernel) (rc_V F1 X1 X2 l7 l4 q1.1 (gNw_e F hN (qq_a q1 (by decide) (by decide))) hR (hiR_e hU (q1.2 20 (by decide) (by decide)) (q1.2 60 (by decide) (by decide)))) (fun F5 F6 hR5 s1 s2 => ?_)
  obtain ⟨u1, u2, u3⟩ := hR5
  have q5 : qR [17, 18, 20, 52, 53, 54, 55, 60] F F5 := qq_trans (qq_up q1 (by decide)) (qq_up (qR_dst u1 s1) (by decide))
  have k69 : sy_i F5 69 = x := (eI (s2 69 (by decide) (by decide))).trans i69
  refine zsh_168 (by decide) F5 X1 X2 q5.1 ?_ ?_
  · intro c0 F7 hb7 g7
    rw [k69] at c0
    have f7 : ∀ j, j < 69 → F7 j = F6 j := fun j hj => (g7 j hj (by simp)).trans (s1 j hj)
    have ex : x = 0 := Int32.toInt_inj.mp (by rw [c0]; decide)
    refine ⟨_, F7, rfl, rfl, ?_⟩
    rw [← ex]
    exact K F7 (qq_on q5 hb7 g7 (by decide)) (hiR_e u3 (f7 20 (by decide)) (f7 60 (by decide))) (gNw_e F6 u2 (nz_fa (f7 54 (by decide))))
  · intro c0 F7 hb7 g7
    rw [k69] at c0
    have f7 : ∀ j, j < 69 → F7 j = F6 j := fun j hj => (g7 j hj (by simp)).trans (s1 j hj)
    have ex : x = 1 := by
      rcases hx with h | h
      · rw [h] at c0
        exact absurd (by decide) c0
      · exact h
    refine ⟨_, F7, rfl, rfl, ?_⟩
    rw [← ex]
    exact K F7 (qq_on q5 hb7 g7 (by decide)) (hiR_e u3 (f7 20 (by decide)) (f7 60 (by decide))) (gNw_e F6 u2 (nz_fa (f7 54 (by decide))))
theorem rsk_V (hC : cR T F) (hN : gNw T F g) {U : List gS} (hU : hiR (nfS T) (nbS T) F U) (f : Int32) : jm_T Ls xs 7 jm_M203 [.ref 1000, .int f] (sy_dh F X1 X2 (iv_H 4)) 0 0 (pI 4 X1 X2 (fun x F' => (¬ (0 ≤ f.toInt ∧ f.toInt < nfS T) → x = -1 ∧ qR [] F F') ∧ (0 ≤ f.toInt ∧ f.toInt < nfS T → (g 2 f.toInt.toNat).toInt ≠ 0 → x = -2 ∧ qR [] F F') ∧ (0 ≤ f.toInt ∧ f.toInt < nfS T → (g 2 f.toInt.toNat).toInt = 0 → rskP T g U f.toInt.toNat F x F'))) := by
  have l7 : nfS T ≤ 7 := hC.2.2.1.1
  have l4 : nbS T ≤ 4 := hC.2.2.1.2.1
  refine R_T [f] [.inl (.ref 1000), .inr (.inl 69)] jm_ok203 (by decide) rfl (fun F0 k0 ki => ?_)
  have i69 : sy_i F0 69 = f := ki 0
  have z69 : (sy_i F0 69).toInt = f.toInt := congrArg Int32.toInt i69
  have en : ((sy_ai F0 31).getD (sy_i F0 11).toInt.toNat 0).toInt = (nfS T : Int) := by rw [nz_fa (k0 31 (by decide)), nz_fi (k0 11 (by decide))]; exact (rX_n hC.2.1).1
  have rd : 0 ≤ f.toInt → f.toInt < nfS T → (sy_ai F0 54).getD (14 + (sy_i F0 69).toInt).toNat 0 = g 2 f.toInt.toNat := fun h1 h2 => by
    rw [nz_fa (k0 54 (by decide)), show (14 + (sy_i F0 69).toInt).toNat = ra 2 + f.toInt.toNat by show _ = 14 + _; omega]
    exact hN 2 _ (vF (by decide) (by omega))
  refine zsh_0 (by decide) F0 X1 X2 (hd_iveq hC.1 k0) ?_ ?_ ?_ ?_
  · intro c0 F1 hb1 gg
    exact ⟨_, F1, rfl, rfl, fun _ => ⟨rfl, qq_src (qq_mk hb1 gg (by decide)) k0⟩, fun h => absurd h.1 (by omega), fun h => absurd h.1 (by omega)⟩
  · intro c0 c1 F1 hb1 gg
    exact ⟨_, F1, rfl, rfl, fun _ => ⟨rfl, qq_src (qq_mk hb1 gg (by decide)) k0⟩, fun h => absurd h.2 (by omega), fun h => absurd h.2 (by omega)⟩
  · intro c0 c1 c2 F1 hb1 gg e69 j69
    rw [rd (by omega) (by omega)] at c2
    have hlt : f.toInt.toNat < nfS T := by omega
    have hyes : 0 ≤ f.toInt ∧ f.toInt < nfS T := ⟨by omega, by omega⟩
    have q1 : qR [] F F1 := qq_src (qq_mk hb1 gg (by decide)) k0
    have c1' := cR_q hC q1 (by decide)
    refine hd_calV (R := fun F' => qR [18, 55] F1 F' ∧ (∀ j, j < 61 → (sy_ai F' 55).getD j 0 = (sy_ai F1 54).getD j 0) ∧ sy_i F' 18 = Int32.ofInt T.2.2.2.2.1) (nh := 69) (nv := 70) (s := 4) (s1 := 4) (d1 := 1) (M1 := jm_M173) (As := [.inl (.ref 1000)]) (rest := []) jm_ok203 rfl rfl (by decide) (by decide +kernel) (cp_V F1 X1 X2 c1') (fun F3 F' hR p1 p2 => ?_)
    obtain ⟨r1, r2, r3⟩ := hR
    have r1' : qR [18, 55] F1 F3 := qR_dst r1 p1
    have k69 : sy_i F3 69 = f := (eI (p2 69 (by decide) (by decide))).trans (j69.trans i69)
    have q3 : qR [18, 55] F F3 := qq_trans (qq_up q1 (by decide)) r1'
    have w3 : gRow T F3 g := gRow_c F hC hN (fun j hj => by rw [nz_fa (p1 55 (by decide)), r2 j hj, qq_a q1 (by decide) (by decide)])
    have s3 : sy_i F3 18 = Int32.ofInt T.2.2.2.2.1 := (eI (p1 18 (by decide))).trans r3
    refine zsh_29 (by decide) F3 X1 X2 q3.1 ?_
    intro F4 hb4 g4 f69 l69
    have q34 : qR [] F3 F4 := qq_mk hb4 g4 (by decide)
    have q4 : qR [18, 55] F F4 := qq_trans q3 (qq_up q34 (by decide))
    have w4 : gRow T F4 g := gRow_e w3 (qq_a q34 (by decide) (by decide))
    refine hd_calI (R := fun x F' => qR [17, 52, 53] F4 F' ∧ x.toInt = wiS T g) (nh := 69) (nv := 70) (s := 4) (s1 := 4) (d1 := 6) (M1 := jm_M198) (As := [.inl (.ref 1000)]) (rest := []) jm_ok203 rfl rfl (by decide) (by decide +kernel) (bn_V F4 X1 X2 (cR_q hC q4 (by decide)) w4) (fun F5 F6 x hR5 s1 s2 s3' => ?_)
    obtain ⟨u1, u2⟩ := hR5
    have u1' : qR [17, 52, 53] F4 F5 := qR_dst u1 s1
    have q5 : qR [17, 18, 52, 53, 55] F F5 := qq_trans (qq_up q4 (by decide)) (qq_up u1' (by decide))
    have w5 : gRow T F5 g := gRow_e w4 (qq_a u1' (by decide) (by decide))
    have s5 : sy_i F5 18 = Int32.ofInt T.2.2.2.2.1 := (qq_i u1' (by decide) (by decide)).trans ((qq_i q34 (by decide) (by decide)).trans s3)
    have m69 : sy_i F5 69 = f := (eI (s2 69 (by decide) (by decide))).trans (l69.trans k69)
    have m70 : sy_i F5 70 = Int32.ofInt (wiS T g) := by rw [zz_i s3']; exact (ofi u2).symm
    refine zsh_33 (by decide) F5 X1 X2 q5.1 ?_
    intro F7 hb7 g7 n69 o69 n70 o70 n71 o71 n72 o72
    have q57 : qR [] F5 F7 := qq_mk hb7 g7 (by decide)
    have q7 : qR [17, 18, 52, 53, 55] F F7 := qq_trans q5 (qq_up q57 (by decide))
    have w7 : gRow T F7 g := gRow_e w5 (qq_a q57 (by decide) (by decide))
    have o72 : sy_i F7 72 = g 9 0 := o72.trans (w5 9 0 (vH (by decide)))
    refine hd_calI (R := fun x F' => qR [] F7 F' ∧ x = lfS T g) (nh := 69) (nv := 73) (s := 4) (s1 := 4) (d1 := 2) (M1 := jm_M196) (As := [.inl (.ref 1000)]) (rest := [.inr (.inl 72), .inl (.ref 1000)]) jm_ok203 rfl rfl (by decide) (by decide +kernel) (ln_V F7 X1 X2 (cR_q hC q7 (by decide)) w7) (fun F8 F9 y hR8 t1 t2 t3 => ?_)
    obtain ⟨v1, v2⟩ := hR8
    have v1' : qR [] F7 F8 := qR_dst v1 t1
    have q8 : qR [17, 18, 52, 53, 55] F F8 := qq_trans q7 (qq_up v1' (by decide))
    have w8 : gRow T F8 g := gRow_e w7 (qq_a v1' (by decide) (by decide))
    have a69 : sy_i F8 69 = f := (eI (t2 69 (by decide) (by decide))).trans (o69.trans m69)
    have a70 : sy_i F8 70 = Int32.ofInt (wiS T g) := (eI (t2 70 (by decide) (by decide))).trans (o70.trans m70)
    have a71 : sy_i F8 71 = 0 := (eI (t2 71 (by decide) (by decide))).trans o71
    have a72 : sy_i F8 72 = g 9 0 := (eI (t2 72 (by decide) (by decide))).trans o72
    have a73 : sy_i F8 73 = lfS T g := (zz_i t3).trans v2
    have e58 : (sy_ai F8 55).getD (58 : Int).toNat 0 = g 9 1 := w8 9 1 (vH (by decide))
    refine zsh_48 (by decide) F8 X1 X2 q8.1 ?_
    intro FA hbA gA a52 b69 c69 b70 c70
    rw [a72, a73, a70, e58] at a52
    have a52 : sy_ai FA 52 = jm_upd (jm_upd (jm_upd (jm_upd (z9 (sy_ai F8 52)) (2 : Int).toNat (g 9 0)) (8 : Int).toNat (lfS T g)) (3 : Int).toNat (Int32.ofInt (wiS T g))) (5 : Int).toNat (g 9 1 + 1) := a52
    have kz : ∀ j : Nat, j ≤ 8 → v52 FA j = if j = (5 : Int).toNat then g 9 1 + 1 else if j = (3 : Int).toNat then Int32.ofInt (wiS T g) else if j = (8 : Int).toNat then lfS T g else if j = (2 : Int).toNat then g 9 0 else 0 := fun j hj => by
      show (sy_ai FA 52).getD j 0 = _
      rw [a52, jm_upd_at, jm_upd_at, jm_upd_at, jm_upd_at, z9_at j hj]
    have hv : ∀ j : Nat, j ≤ 8 → v52 FA j = mkv 5 (vrs 0 0 (g 9 0) (Int32.ofInt (wiS T g)) 0 (g 9 1 + 1) 0 0 (lfS T g)) j := nine9 (by rw [kz _ (by decide), mkv_f (by decide)]; rfl) (by rw [kz _ (by decide), mkv_f (by decide)]; rfl) (by rw [kz _ (by decide), mkv_t (by decide)]; rfl) (by rw [kz _ (by decide), mkv_t (by decide)]; rfl) (by rw [kz _ (by decide), mkv_f (by decide)]; rfl) (by rw [kz _ (by decide), mkv_t (by decide)]; rfl) (by rw [kz _ (by decide), mkv_f (by decide)]; rfl) (by rw [kz _ (by decide), mkv_f (by decide)]; rfl) (by rw [kz _ (by decide), mkv_t (by decide)]; rfl)
    have q8A : qR [52] F8 FA := qq_mk hbA gA (by decide)
    have qA : qR [17, 18, 52, 53, 55] F FA := qq_trans q8 (qq_up q8A (by decide))
    have cA := cR_q hC qA (by decide)
    refine hd_calI (R := fun x F' => qR [17, 53] FA F' ∧ x.toInt = lwT T 5 (vrs 0 0 (g 9 0) (Int32.ofInt (wiS T g)) 0 (g 9 1 + 1) 0 0 (lfS T g))) (nh := 69) (nv := 71) (s := 4) (s1 := 4) (d1 := 4) (M1 := jm_M179) (As := [.inl (.ref 1000), .inl (.int 5), .inl (.int 0), .inl (.int 0), .inl (.int 100)]) (rest := []) jm_ok203 rfl rfl (by decide) (by decide +kernel) (ak_V FA X1 X2 hbA cA.2.1 cA.2.2 (by decide) (by decide) hv (by decide) (by decide) (fun _ => by rw [pb_V]; rfl)) (fun FB FC z hRB y1 y2 y3 => ?_)
    obtain ⟨z1, z2⟩ := hRB
    have z1' : qR [17, 53] FA FB := qR_dst z1 y1
    have qB : qR [17, 18, 52, 53, 55] F FB := qq_trans qA (qq_up z1' (by decide))
    have a55B : sy_ai FB 55 = sy_ai F8 55 := (qq_a z1' (by decide) (by decide)).trans (qq_a q8A (by decide) (by decide))
    have wB : gRow T FB g := gRow_e w8 a55B
    have sB : sy_i FB 18 = Int32.ofInt T.2.2.2.2.1 := (qq_i z1' (by decide) (by decide)).trans ((qq_i q8A (by decide) (by decide)).trans ((qq_i v1' (by decide) (by decide)).trans ((qq_i q57 (by decide) (by decide)).trans s5)))
    have b69' : sy_i FB 69 = f := (eI (y2 69 (by decide) (by decide))).trans (c69.trans a69)
    have b70' : sy_i FB 70 = 0 := (eI (y2 70 (by decide) (by decide))).trans (c70.trans a71)
    have b71' : (sy_i FB 71).toInt = foundT T (g 9 1 + 1) (Int32.ofInt (wiS T g)) (g 9 0) (lfS T g) := by rw [zz_i y3, z2]; rfl
    have e58B : (sy_ai FB 55).getD (58 : Int).toNat 0 = g 9 1 := wB 9 1 (vH (by decide))
    have x11 := nz_bx qB.1 (k := 11) (lo := 0) (hi := 1) rfl
    have e39 : (sy_ai FB 39).getD (sy_i FB 11).toInt.toNat 0 = Int32.ofInt T.2.2.1 := (ofi (rX_n (cR_q hC qB (by decide)).2.1).2.2.1).symm
    have e42 : (42 + f.toInt).toNat = 42 + f.toInt.toNat := by omega
    refine zsh_82 (by decide) FB X1 X2 qB.1 (by rw [b69']; omega) (by rw [b70']; decide) ?_ ?_
    · intro d0 d1 FD hbD gD a55 h69 i69'
      rw [sB, e58B, b71'] at d0
      have d0 : foundT T (g 9 1 + 1) (Int32.ofInt (wiS T g)) (g 9 0) (lfS T g) ≤ (lotS (Int32.ofInt T.2.2.2.2.1) ((1000000 : Int32) + g 9 1)).toInt := d0
      have hn : ¬ fdS T g := fun h => Int.not_lt.mpr d0 h
      rw [b69'] at a55
      refine rsk_165 F X1 X2 hC hN hU (qq_on qB hbD gD (by decide)) (g' := shkS g f.toInt.toNat) ?_ (x := 0) (Or.inl rfl) (i69'.trans b70') (fun F' y1 y2 y3 => ⟨fun h => absurd hyes h, fun _ h => absurd c2 h, fun _ _ => ⟨y1, y2, fun h => absurd h hn, fun _ => ⟨rfl, y3⟩⟩⟩)
      unfold gRow
      rw [a55]
      exact shk_row l7 l4 wB hlt e42
    · intro d0 FD hbD gD a55 h69 i69'
      rw [sB, e58B, b71'] at d0
      have hy : fdS T g := d0
      rw [b69', e39] at a55
      refine rsk_165 F X1 X2 hC hN hU (qq_on qB hbD gD (by decide)) (g' := fndS T g f.toInt.toNat) ?_ (x := 1) (Or.inr rfl) i69' (fun F' y1 y2 y3 => ⟨fun h => absurd hyes h, fun _ h => absurd c2 h, fun _ _ => ⟨y1, y2, fun _ => ⟨rfl, y3⟩, fun h => absurd hy h⟩⟩)
      unfold gRow
      rw [a55]
      exact fnd_row l7 l4 (shk_row l7 l4 wB hlt e42)
  · intro c0 c1 c2 F1 hb1 gg
    rw [rd (by omega) (by omega)] at c2
    exact ⟨_, F1, rfl, rfl, fun h => absurd ⟨by omega, by omega⟩ h, fun _ _ => ⟨rfl, qq_src (qq_mk hb1 gg (by decide)) k0⟩, fun _ z => absurd z c2⟩
theorem rhr_V (hC : cR T F) (hN : gNw T F g) (hO : okS T g) {U : List gS} (hU : hiR (nfS T) (nbS T) F U) (n : Int32) : jm_T Ls xs 9 jm_M204 [.ref 1000, .int n] (sy_dh F X1 X2 (iv_H 4)) 0 0 (pI 4 X1 X2 (fun x F' => (¬ (0 ≤ n.toInt ∧ n.toInt ≤ 48) → x = -1 ∧ qR [] F F') ∧ (n.toInt = 0 → x = g 9 0 ∧ qR [] F F') ∧ (1 ≤ n.toInt ∧ n.toInt ≤ 48 → x = hrsS T (Int32.ofInt T.2.2.2.2.1) g n.toInt.toNat 9 0 ∧ qR [17, 18, 19, 20, 52, 53, 54, 55, 56, 57, 58, 59, 60] F F' ∧ gNw T F' (hrsS T (Int32.ofInt T.2.2.2.2.1) g n.toInt.toNat) ∧ hiR (nfS T) (nbS T) F' (rmS g U)))) := by
  have l7 : nfS T ≤ 7 := hC.2.2.1.1
  have l4 : nbS T ≤ 4 := hC.2.2.1.2.1
  refine R_T [n] [.inl (.ref 1000), .inr (.inl 69)] jm_ok204 (by decide) rfl (fun F0 k0 ki => ?_)
  have i69 : sy_i F0 69 = n := ki 0
  have z69 : (sy_i F0 69).toInt = n.toInt := congrArg Int32.toInt i69
  refine zho_0 (by decide) F0 X1 X2 (hd_iveq hC.1 k0) ?_ ?_ ?_ ?_
  · intro c0 F1 hb1 gg
    exact ⟨_, F1, rfl, rfl, fun _ => ⟨rfl, qq_src (qq_mk hb1 gg (by decide)) k0⟩, fun h => absurd h (by omega), fun h => absurd h.1 (by omega)⟩
  · intro c0 c1 F1 hb1 gg
    exact ⟨_, F1, rfl, rfl, fun _ => ⟨rfl, qq_src (qq_mk hb1 gg (by decide)) k0⟩, fun h => absurd h (by omega), fun h => absurd h.2 (by omega)⟩
  · intro c0 c1 c2 F1 hb1 gg e69 j69
    have q1 : qR [] F F1 := qq_src (qq_mk hb1 gg (by decide)) k0
    refine hd_calV (R := fun F' => qR [18, 55] F1 F' ∧ (∀ j, j < 61 → (sy_ai F' 55).getD j 0 = (sy_ai F1 54).getD j 0) ∧ sy_i F' 18 = Int32.ofInt T.2.2.2.2.1) (nh := 69) (nv := 70) (s := 4) (s1 := 4) (d1 := 1) (M1 := jm_M173) (As := [.inl (.ref 1000)]) (rest := []) jm_ok204 rfl rfl (by decide) (by decide +kernel) (cp_V F1 X1 X2 (cR_q hC q1 (by decide))) (fun F3 F' hR p1 p2 => ?_)
    obtain ⟨r1, r2, r3⟩ := hR
    have r1' : qR [18, 55] F1 F3 := qR_dst r1 p1
    have k69 : sy_i F3 69 = n := (eI (p2 69 (by decide) (by decide))).trans (j69.trans i69)
    have q3 : qR [18, 55] F F3 := qq_trans (qq_up q1 (by decide)) r1'
    have w3 : gRow T F3 g := gRow_c F hC hN (fun j hj => by rw [nz_fa (p1 55 (by decide)), r2 j hj, qq_a q1 (by decide) (by decide)])
    have s3 : sy_i F3 18 = Int32.ofInt T.2.2.2.2.1 := (eI (p1 18 (by decide))).trans r3
    refine zho_28 (by decide) F3 X1 X2 q3.1 ?_
    intro F4 hb4 g4 f69 l69
    have q34 : qR [] F3 F4 := qq_mk hb4 g4 (by decide)
    have q4 : qR [18, 55] F F4 := qq_trans q3 (qq_up q34 (by decide))
    have k69' : sy_i F4 69 = n := l69.trans k69
    refine hd_calV (R := fun F' => qR W9 F4 F' ∧ gRow T F' (hrsS T (Int32.ofInt T.2.2.2.2.1) g (sy_i F4 69).toInt.toNat)) (nh := 69) (nv := 70) (s := 4) (s1 := 4) (d1 := 8) (M1 := jm_M193) (As := [.inl (.ref 1000), .inr (.inl 69)]) (rest := []) jm_ok204 rfl rfl (by decide) (by decide +kernel) (go_V F4 X1 X2 (cR_q hC q4 (by decide)) (gRow_e w3 (qq_a q34 (by decide) (by decide))) hO ((qq_i q34 (by decide) (by decide)).trans s3) (by rw [k69']; omega)) (fun F5 F6 hR5 s1 s2 => ?_)
    obtain ⟨u1, u2⟩ := hR5
    rw [k69'] at u2
    have u1' : qR W9 F4 F5 := qR_dst u1 s1
    have q5 : qR [17, 18, 19, 52, 53, 55, 56, 57, 58, 59] F F5 := qq_trans (qq_up q4 (by decide)) (qq_up u1' (by decide))
    have w5 : gRow T F5 (hrsS T (Int32.ofInt T.2.2.2.2.1) g n.toInt.toNat) := gRow_e u2 (nz_fa (s1 55 (by decide)))
    refine zho_33 (by decide) F5 X1 X2 q5.1 ?_
    intro F7 hb7 g7 n69 o69
    have q57 : qR [] F5 F7 := qq_mk hb7 g7 (by decide)
    have q7 : qR [17, 18, 19, 52, 53, 55, 56, 57, 58, 59] F F7 := qq_trans q5 (qq_up q57 (by decide))
    refine hd_calV (R := fun F' => qR [20, 54, 60] F7 F' ∧ gL (nfS T) (nbS T) (sy_ai F' 54) (hrsS T (Int32.ofInt T.2.2.2.2.1) g n.toInt.toNat) ∧ hiR (nfS T) (nbS T) F' (rmS g U)) (nh := 69) (nv := 70) (s := 4) (s1 := 4) (d1 := 2) (M1 := jm_M200) (As := [.inl (.ref 1000)]) (rest := []) jm_ok204 rfl rfl (by decide) (by decide +kernel) (rc_V F7 X1 X2 l7 l4 hb7 (gNw_e F hN (qq_a q7 (by decide) (by decide))) (gRow_e w5 (qq_a q57 (by decide) (by decide))) (hiR_e hU (q7.2 20 (by decide) (by decide)) (q7.2 60 (by decide) (by decide)))) (fun F8 F9 hR8 t1 t2 => ?_)
    obtain ⟨v1, v2, v3⟩ := hR8
    have q8 : qR [17, 18, 19, 20, 52, 53, 54, 55, 56, 57, 58, 59, 60] F F8 := qq_trans (qq_up q7 (by decide)) (qq_up (qR_dst v1 t1) (by decide))
    refine zho_37 (by decide) F8 X1 X2 q8.1 ?_
    intro FA hbA gA
    have fA : ∀ j, j < 69 → FA j = F9 j := fun j hj => (gA j hj (by simp)).trans (t1 j hj)
    refine ⟨_, FA, rfl, rfl, fun h => absurd ⟨by omega, by omega⟩ h, fun h => absurd h (by omega), fun _ => ⟨?_, qq_on q8 hbA gA (by decide), gNw_e F9 v2 (nz_fa (fA 54 (by decide))), hiR_e v3 (fA 20 (by decide)) (fA 60 (by decide))⟩⟩
    rw [nz_fa (t1 54 (by decide))]
    exact v2 9 0 (vH (by decide))
  · intro c0 c1 c2 F1 hb1 gg
    refine ⟨_, F1, rfl, rfl, fun h => absurd ⟨by omega, by omega⟩ h, fun _ => ⟨?_, qq_src (qq_mk hb1 gg (by decide)) k0⟩, fun h => absurd h.1 (by omega)⟩
    rw [nz_fa (k0 54 (by decide))]
    exact hN 9 0 (vH (by decide))
theorem run_V0 (hB : iv_in F iv_B4) {nf nb : Nat} (hU : hiR nf nb F []) : jm_T Ls xs 1 jm_M205 [.ref 1000] (sy_dh F X1 X2 (iv_H 4)) 0 0 (pI 4 X1 X2 (fun x F' => x = 0 ∧ qR [] F F')) := by
  have h0 : (sy_i F 20).toInt = 0 := hU.1
  refine hd_T (As := [.inl (.ref 1000)]) jm_ok205 (by decide) (zun_0 (by decide) F X1 X2 hB ?_ ?_)
  · intros
    omega
  · intro c0 F1 hb1 gg
    exact ⟨_, F1, rfl, rfl, rfl, qq_mk hb1 gg (by decide)⟩
theorem run_L {u : Nat} (hu : u ≤ 39) : ∀ (m : Nat) (F1 : Nat → sy_d) (n : Nat), n + m = 61 → qR [20, 54] F F1 → (sy_i F1 20).toInt = u → (sy_i F1 69).toInt = n → (∀ j, j < n → (sy_ai F1 54).getD j 0 = (sy_ai F 60).getD (61 * u + j) 0) →
    hd_W Ls xs 1 jm_M205 (pI 4 X1 X2 (fun x F' => x = 1 ∧ qR [20, 54] F F' ∧ (sy_i F' 20).toInt = u ∧ ∀ j, j < 61 → (sy_ai F' 54).getD j 0 = (sy_ai F 60).getD (61 * u + j) 0)) (21, sy_dL F1 [some (.inl (.ref 1000)), some (.inr (.inl 69))], sy_dS F1 [], sy_dh F1 X1 X2 (iv_H 4), 0, 0) := by
  intro m
  induction m with
  | zero =>
    intro F1 n hm hq e20 e69 hn
    refine zun_21 (by decide) F1 X1 X2 hq.1 (by omega) (by omega) ?_ ?_
    · intro c0 F2 hb gg
      refine ⟨_, F2, rfl, rfl, rfl, qq_on hq hb gg (by decide), by rw [nz_fi (gg 20 (by decide) (by decide))]; exact e20, fun j hj => ?_⟩
      rw [nz_fa (gg 54 (by decide) (by decide))]
      exact hn j (by omega)
    · intros
      omega
  | succ m ih =>
    intro F1 n hm hq e20 e69 hn
    refine zun_21 (by decide) F1 X1 X2 hq.1 (by omega) (by omega) ?_ ?_
    · intros
      omega
    · intro c0 F2 hb gg a54 f69 i69
      have en : (sy_i F1 69).toInt.toNat = n := by omega
      have ei : (61 * (sy_i F1 20).toInt + (sy_i F1 69).toInt).toNat = 61 * u + n := by omega
      rw [en, ei, qq_a hq (j := 60) (by decide) (by decide)] at a54
      refine ih F2 (n + 1) (by omega) (qq_on hq hb gg (by decide)) (by rw [nz_fi (gg 20 (by decide) (by decide))]; exact e20) (by omega) (fun j hj => ?_)
      rw [a54, jm_upd_at]
      by_cases q : j = n
      · rw [if_pos q, q]
      · rw [if_neg q]
        exact hn j (by omega)
theorem run_V1 (hC : cR T F) {U : List gS} (hU : hiR (nfS T) (nbS T) F (g :: U)) : jm_T Ls xs 1 jm_M205 [.ref 1000] (sy_dh F X1 X2 (iv_H 4)) 0 0 (pI 4 X1 X2 (fun x F' => x = 1 ∧ qR [20, 54] F F' ∧ gNw T F' g ∧ hiR (nfS T) (nbS T) F' U)) := by
  have l7 : nfS T ≤ 7 := hC.2.2.1.1
  have l4 : nbS T ≤ 4 := hC.2.2.1.2.1
  obtain ⟨u1, u2, u3⟩ := hU
  have hl : (g :: U).length = U.length + 1 := rfl
  rw [hl] at u1 u2
  refine hd_T (As := [.inl (.ref 1000)]) jm_ok205 (by decide) (zun_0 (by decide) F X1 X2 hC.1 ?_ ?_)
  · intro c0 F1 hb1 gg e20 i20 e69 i69
    refine hd_mono (run_L F X1 X2 (u := U.length) (by omega) 61 F1 0 (by omega) (qq_mk hb1 gg (by decide)) (by omega) e69 (fun j hj => absurd hj (by omega))) ?_
    rintro v G ⟨x, F', e1, e2, r1, r2, r3, r4⟩
    refine ⟨x, F', e1, e2, r1, r2, gLo_L u3.1 l7 l4 r4, r3, by omega, ?_⟩
    rw [qq_a r2 (by decide) (by decide)]
    exact u3.2
  · intros
    omega
def hrR (nf nb : Nat) (F : Nat → sy_d) (H : Nat → gS) : Prop := ∀ k, k < 3 → ((sy_ai F 67).getD k 0).toInt ≠ 0 → gLo nf nb (sy_ai F 68) (61 * k) (H k)
theorem hrR_e {nf nb : Nat} {F1 : Nat → sy_d} {H : Nat → gS} (h : hrR nf nb F H) (e7 : F1 67 = F 67) (e8 : F1 68 = F 68) : hrR nf nb F1 H := by
  intro k hk
  rw [nz_fa e7, nz_fa e8]
  exact h k hk
theorem rhd_L {v : Nat} (hv : v ≤ 2) : ∀ (m : Nat) (F1 : Nat → sy_d) (n : Nat), n + m = 61 → qR [67, 68] F F1 → sy_ai F1 67 = jm_upd (sy_ai F 67) v 1 → (sy_i F1 69).toInt = v → (sy_i F1 70).toInt = n → (∀ j, j < n → (sy_ai F1 68).getD (61 * v + j) 0 = (sy_ai F 54).getD j 0) → (∀ j, j < 61 * v ∨ 61 * v + 61 ≤ j → (sy_ai F1 68).getD j 0 = (sy_ai F 68).getD j 0) →
    hd_W Ls xs 2 jm_M236 (pI 4 X1 X2 (fun x F' => x = 1 ∧ qR [67, 68] F F' ∧ sy_ai F' 67 = jm_upd (sy_ai F 67) v 1 ∧ (∀ j, j < 61 → (sy_ai F' 68).getD (61 * v + j) 0 = (sy_ai F 54).getD j 0) ∧ ∀ j, j < 61 * v ∨ 61 * v + 61 ≤ j → (sy_ai F' 68).getD j 0 = (sy_ai F 68).getD j 0)) (20, sy_dL F1 [some (.inl (.ref 1000)), some (.inr (.inl 69)), some (.inr (.inl 70))], sy_dS F1 [], sy_dh F1 X1 X2 (iv_H 4), 0, 0) := by
  intro m
  induction m with
  | zero =>
    intro F1 n hm hq h67 e69 e70 hn ho
    refine zhd_20 (by decide) F1 X1 X2 hq.1 (by omega) (by omega) ?_ ?_
    · intro c0 F2 hb gg
      refine ⟨_, F2, rfl, rfl, rfl, qq_on hq hb gg (by decide), by rw [nz_fa (gg 67 (by decide) (by decide))]; exact h67, fun j hj => ?_, fun j hj => ?_⟩
      · rw [nz_fa (gg 68 (by decide) (by decide))]
        exact hn j (by omega)
      · rw [nz_fa (gg 68 (by decide) (by decide))]
        exact ho j hj
    · intros
      omega
  | succ m ih =>
    intro F1 n hm hq h67 e69 e70 hn ho
    refine zhd_20 (by decide) F1 X1 X2 hq.1 (by omega) (by omega) ?_ ?_
    · intros
      omega
    · intro c0 F2 hb gg a68 f69 i69 f70 i70
      have en : (sy_i F1 70).toInt.toNat = n := by omega
      have ei : (61 * (sy_i F1 69).toInt + (sy_i F1 70).toInt).toNat = 61 * v + n := by omega
      rw [en, ei, qq_a hq (j := 54) (by decide) (by decide)] at a68
      refine ih F2 (n + 1) (by omega) (qq_on hq hb gg (by decide)) (by rw [nz_fa (gg 67 (by decide) (by decide))]; exact h67) (by omega) (by omega) (fun j hj => ?_) (fun j hj => ?_)
      · rw [a68, jm_upd_at]
        by_cases q : j = n
        · rw [if_pos (by omega), q]
        · rw [if_neg (by omega)]
          exact hn j (by omega)
      · rw [a68, jm_upd_at, if_neg (by omega)]
        exact ho j hj
theorem rhd_V (hC : cR T F) (hN : gNw T F g) {H : Nat → gS} (hH : hrR (nfS T) (nbS T) F H) (v : Int32) : jm_T Ls xs 2 jm_M236 [.ref 1000, .int v] (sy_dh F X1 X2 (iv_H 4)) 0 0 (pI 4 X1 X2 (fun x F' => (¬ (0 ≤ v.toInt ∧ v.toInt ≤ 2) → x = 0 ∧ qR [] F F') ∧ (0 ≤ v.toInt ∧ v.toInt ≤ 2 → x = 1 ∧ qR [67, 68] F F' ∧ hrR (nfS T) (nbS T) F' (fun j => if j = v.toInt.toNat then g else H j) ∧ sy_ai F' 67 = jm_upd (sy_ai F 67) v.toInt.toNat 1))) := by
  have l7 : nfS T ≤ 7 := hC.2.2.1.1
  have l4 : nbS T ≤ 4 := hC.2.2.1.2.1
  refine R_T [v] [.inl (.ref 1000), .inr (.inl 69)] jm_ok236 (by decide) rfl (fun F0 k0 ki => ?_)
  have i69 : sy_i F0 69 = v := ki 0
  have z69 : (sy_i F0 69).toInt = v.toInt := congrArg Int32.toInt i69
  refine zhd_0 (by decide) F0 X1 X2 (hd_iveq hC.1 k0) ?_ ?_ ?_
  · intro c0 F1 hb1 gg
    exact ⟨_, F1, rfl, rfl, fun _ => ⟨rfl, qq_src (qq_mk hb1 gg (by decide)) k0⟩, fun h => absurd h.1 (by omega)⟩
  · intro c0 c1 F1 hb1 gg
    exact ⟨_, F1, rfl, rfl, fun _ => ⟨rfl, qq_src (qq_mk hb1 gg (by decide)) k0⟩, fun h => absurd h.2 (by omega)⟩
  · intro c0 c1 F1 hb1 gg a67 e69 j69 e70 j70
    rw [z69, nz_fa (k0 67 (by decide))] at a67
    have q1 : qR [67, 68] F F1 := qq_src (qq_mk hb1 gg (by decide)) k0
    have a68 : sy_ai F1 68 = sy_ai F 68 := (nz_fa (gg 68 (by decide) (by decide))).trans (nz_fa (k0 68 (by decide)))
    refine hd_mono (rhd_L F X1 X2 (v := v.toInt.toNat) (by omega) 61 F1 0 (by omega) q1 a67 (by omega) e70 (fun j hj => absurd hj (by omega)) (fun j _ => by rw [a68])) ?_
    rintro w G ⟨x, F', e1, e2, r1, r2, r3, r4, r5⟩
    refine ⟨x, F', e1, e2, fun h => absurd ⟨by omega, by omega⟩ h, fun _ => ⟨r1, r2, fun k hk hz => ?_, r3⟩⟩
    show gLo _ _ _ _ (if k = v.toInt.toNat then g else H k)
    by_cases z : k = v.toInt.toNat
    · rw [if_pos z, z]
      exact gLo_0 hN l7 l4 r4
    · rw [if_neg z]
      rw [r3, jm_upd_at, if_neg z] at hz
      exact gLo_e (hH k hk hz) l7 l4 (fun j hj => r5 _ (by omega))
theorem rrs_L {v : Nat} (hv : v ≤ 2) : ∀ (m : Nat) (F1 : Nat → sy_d) (n : Nat), n + m = 61 → qR [20, 54] F F1 → (sy_i F1 69).toInt = v → (sy_i F1 70).toInt = n → (∀ j, j < n → (sy_ai F1 54).getD j 0 = (sy_ai F 68).getD (61 * v + j) 0) →
    hd_W Ls xs 2 jm_M237 (pI 4 X1 X2 (fun x F' => x = 1 ∧ qR [20, 54] F F' ∧ (sy_i F' 20).toInt = 0 ∧ ∀ j, j < 61 → (sy_ai F' 54).getD j 0 = (sy_ai F 68).getD (61 * v + j) 0)) (22, sy_dL F1 [some (.inl (.ref 1000)), some (.inr (.inl 69)), some (.inr (.inl 70))], sy_dS F1 [], sy_dh F1 X1 X2 (iv_H 4), 0, 0) := by
  intro m
  induction m with
  | zero =>
    intro F1 n hm hq e69 e70 hn
    refine zrs_22 (by decide) F1 X1 X2 hq.1 (by omega) (by omega) ?_ ?_
    · intro c0 F2 hb gg e20 i20
      refine ⟨_, F2, rfl, rfl, rfl, qq_on hq hb gg (by decide), e20, fun j hj => ?_⟩
      rw [nz_fa (gg 54 (by decide) (by decide))]
      exact hn j (by omega)
    · intros
      omega
  | succ m ih =>
    intro F1 n hm hq e69 e70 hn
    refine zrs_22 (by decide) F1 X1 X2 hq.1 (by omega) (by omega) ?_ ?_
    · intros
      omega
    · intro c0 F2 hb gg a54 f69 i69 f70 i70
      have en : (sy_i F1 70).toInt.toNat = n := by omega
      have ei : (61 * (sy_i F1 69).toInt + (sy_i F1 70).toInt).toNat = 61 * v + n := by omega
      rw [en, ei, qq_a hq (j := 68) (by decide) (by decide)] at a54
      refine ih F2 (n + 1) (by omega) (qq_on hq hb gg (by decide)) (by omega) (by omega) (fun j hj => ?_)
      rw [a54, jm_upd_at]
      by_cases q : j = n
      · rw [if_pos q, q]
      · rw [if_neg q]
        exact hn j (by omega)
theorem rrs_V (hC : cR T F) {H : Nat → gS} (hH : hrR (nfS T) (nbS T) F H) (v : Int32) : jm_T Ls xs 2 jm_M237 [.ref 1000, .int v] (sy_dh F X1 X2 (iv_H 4)) 0 0 (pI 4 X1 X2 (fun x F' => (¬ (0 ≤ v.toInt ∧ v.toInt ≤ 2 ∧ ((sy_ai F 67).getD v.toInt.toNat 0).toInt ≠ 0) → x = 0 ∧ qR [] F F') ∧ (0 ≤ v.toInt ∧ v.toInt ≤ 2 ∧ ((sy_ai F 67).getD v.toInt.toNat 0).toInt ≠ 0 → x = 1 ∧ qR [20, 54] F F' ∧ gNw T F' (H v.toInt.toNat) ∧ hiR (nfS T) (nbS T) F' []))) := by
  have l7 : nfS T ≤ 7 := hC.2.2.1.1
  have l4 : nbS T ≤ 4 := hC.2.2.1.2.1
  refine R_T [v] [.inl (.ref 1000), .inr (.inl 69)] jm_ok237 (by decide) rfl (fun F0 k0 ki => ?_)
  have i69 : sy_i F0 69 = v := ki 0
  have z69 : (sy_i F0 69).toInt = v.toInt := congrArg Int32.toInt i69
  refine zrs_0 (by decide) F0 X1 X2 (hd_iveq hC.1 k0) ?_ ?_ ?_ ?_
  · intro c0 F1 hb1 gg
    exact ⟨_, F1, rfl, rfl, fun _ => ⟨rfl, qq_src (qq_mk hb1 gg (by decide)) k0⟩, fun h => absurd h.1 (by omega)⟩
  · intro c0 c1 F1 hb1 gg
    exact ⟨_, F1, rfl, rfl, fun _ => ⟨rfl, qq_src (qq_mk hb1 gg (by decide)) k0⟩, fun h => absurd h.2.1 (by omega)⟩
  · intro c0 c1 c2 F1 hb1 gg e69 j69 e70 j70
    rw [z69, nz_fa (k0 67 (by decide))] at c2
    refine hd_mono (rrs_L F X1 X2 (v := v.toInt.toNat) (by omega) 61 F1 0 (by omega) (qq_src (qq_mk hb1 gg (by decide)) k0) (by omega) e70 (fun j hj => absurd hj (by omega))) ?_
    rintro w G ⟨x, F', e1, e2, r1, r2, r3, r4⟩
    exact ⟨x, F', e1, e2, fun h => absurd ⟨by omega, by omega, c2⟩ h, fun _ => ⟨r1, r2, gLo_L (hH _ (by omega) c2) l7 l4 r4, r3, by decide, trivial⟩⟩
  · intro c0 c1 c2 F1 hb1 gg
    rw [z69, nz_fa (k0 67 (by decide))] at c2
    exact ⟨_, F1, rfl, rfl, fun _ => ⟨rfl, qq_src (qq_mk hb1 gg (by decide)) k0⟩, fun h => absurd c2 h.2.2⟩
end RS
end
section
/-! ===== the reference: a text begins; what is told and taped ===== -/
/-- a row as it is filled: z owners, n fruit, m buyers -/
def bgF (T : tX) (z n m j : Nat) : Int32 := if j < n then Int32.ofInt (tF T j).1 else if 7 ≤ j ∧ j < 7 + n then Int32.ofInt (tF T (j - 7)).2.2 else if 21 ≤ j ∧ j < 21 + z then -2 else if 49 ≤ j ∧ j < 49 + m then Int32.ofInt (tB T (j - 49)).1 else if 53 ≤ j ∧ j < 53 + m then Int32.ofInt (tB T (j - 53)).2.2 else 0
theorem bgF_z {T : tX} {z j : Nat} : bgF T (z + 1) 0 0 j = if j = 21 + z then -2 else bgF T z 0 0 j := by
  unfold bgF
  rw [if_neg (by omega), if_neg (by omega), if_neg (by omega : ¬ (j < 0)), if_neg (by omega : ¬ (7 ≤ j ∧ j < 7 + 0))]
  by_cases q : j = 21 + z
  · rw [if_pos q, if_pos (by omega)]
  · rw [if_neg q]
    by_cases q2 : 21 ≤ j ∧ j < 21 + z
    · rw [if_pos q2, if_pos (by omega)]
    · rw [if_neg q2, if_neg (by omega)]
theorem bgF_n {T : tX} {n j : Nat} (hn : n < 7) : bgF T 7 (n + 1) 0 j = if j = 7 + n then Int32.ofInt (tF T n).2.2 else if j = n then Int32.ofInt (tF T n).1 else bgF T 7 n 0 j := by
  unfold bgF
  by_cases q : j = 7 + n
  · rw [if_pos q, if_neg (by omega), if_pos (by omega), show j - 7 = n by omega]
  · rw [if_neg q]
    by_cases q2 : j = n
    · rw [if_pos q2, if_pos (by omega), q2]
    · rw [if_neg q2]
      by_cases q3 : j < n
      · rw [if_pos q3, if_pos (by omega)]
      · rw [if_neg q3, if_neg (by omega)]
        by_cases q4 : 7 ≤ j ∧ j < 7 + n
        · rw [if_pos q4, if_pos (by omega)]
        · rw [if_neg q4, if_neg (by omega)]
theorem bgF_m {T : tX} {n m j : Nat} (hn : n ≤ 7) (hm : m < 4) : bgF T 7 n (m + 1) j = if j = 53 + m then Int32.ofInt (tB T m).2.2 else if j = 49 + m then Int32.ofInt (tB T m).1 else bgF T 7 n m j := by
  unfold bgF
  by_cases q : j = 53 + m
  · rw [if_pos q, if_neg (by omega), if_neg (by omega), if_neg (by omega), if_neg (by omega), if_pos (by omega), show j - 53 = m by omega]
  · rw [if_neg q]
    by_cases q2 : j = 49 + m
    · rw [if_pos q2, if_neg (by omega), if_neg (by omega), if_neg (by omega), if_pos (by omega), show j - 49 = m by omega]
    · rw [if_neg q2]
      by_cases q3 : j < n
      · rw [if_pos q3, if_pos q3]
      · rw [if_neg q3, if_neg q3]
        by_cases q4 : 7 ≤ j ∧ j < 7 + n
        · rw [if_pos q4, if_pos q4]
        · rw [if_neg q4, if_neg q4]
          by_cases q5 : 21 ≤ j ∧ j < 21 + 7
          · rw [if_pos q5, if_pos q5]
          · rw [if_neg q5, if_neg q5]
            by_cases q6 : 49 ≤ j ∧ j < 49 + m
            · rw [if_pos q6, if_pos (by omega)]
            · rw [if_neg q6, if_neg (by omega)]
              by_cases q7 : 53 ≤ j ∧ j < 53 + m
              · rw [if_pos q7, if_pos (by omega)]
              · rw [if_neg q7, if_neg (by omega)]
theorem bgF_beg {T : tX} (hf : nfS T ≤ 7) (hb : nbS T ≤ 4) {l : List Int32} (h : ∀ j, j < 61 → l.getD j 0 = bgF T 7 (nfS T) (nbS T) j) : gL (nfS T) (nbS T) l (begS T) := by
  have s0 : ∀ i, i < nfS T → l.getD (0 + i) 0 = begS T 0 i := fun i hi => by
    rw [h _ (by omega), Nat.zero_add]
    show (if i < nfS T then _ else _) = Int32.ofInt (tF T i).1
    rw [if_pos hi]
  have s1 : ∀ i, i < nfS T → l.getD (7 + i) 0 = begS T 1 i := fun i hi => by
    rw [h _ (by omega)]
    unfold bgF
    rw [if_neg (by omega), if_pos (by omega), show 7 + i - 7 = i by omega]
    rfl
  have s3 : ∀ i, i < nfS T → l.getD (21 + i) 0 = begS T 3 i := fun i hi => by
    rw [h _ (by omega)]
    unfold bgF
    rw [if_neg (by omega), if_neg (by omega), if_pos (by omega)]
    rfl
  have s7 : ∀ i, i < nbS T → l.getD (49 + i) 0 = begS T 7 i := fun i hi => by
    rw [h _ (by omega)]
    unfold bgF
    rw [if_neg (by omega), if_neg (by omega), if_neg (by omega), if_pos (by omega), show 49 + i - 49 = i by omega]
    rfl
  have s8 : ∀ i, i < nbS T → l.getD (53 + i) 0 = begS T 8 i := fun i hi => by
    rw [h _ (by omega)]
    unfold bgF
    rw [if_neg (by omega), if_neg (by omega), if_neg (by omega), if_neg (by omega), if_pos (by omega), show 53 + i - 53 = i by omega]
    rfl
  have sz : ∀ j, j < 61 → (14 ≤ j ∧ j < 21 ∨ 28 ≤ j ∧ j < 49 ∨ 57 ≤ j) → l.getD j 0 = 0 := fun j h1 h2 => by
    rw [h _ h1]
    unfold bgF
    rw [if_neg (by omega), if_neg (by omega), if_neg (by omega), if_neg (by omega), if_neg (by omega)]
  intro a i hv
  have hd := vl_in hf hb hv
  rcases hv with ⟨h1, h2⟩ | ⟨h1, h2⟩ | ⟨h1, h2⟩
  · match a, h1 with
    | 0, _ => exact s0 i h2
    | 1, _ => exact s1 i h2
    | 2, _ => exact sz (14 + i) (by omega) (by omega)
    | 3, _ => exact s3 i h2
    | 4, _ => exact sz (28 + i) (by omega) (by omega)
    | 5, _ => exact sz (35 + i) (by omega) (by omega)
    | 6, _ => exact sz (42 + i) (by omega) (by omega)
  · rcases h1 with h1 | h1
    · subst h1
      exact s7 i h2
    · subst h1
      exact s8 i h2
  · subst h1
    exact sz (57 + i) (by omega) (by omega)
section RB
variable {Ls : Nat} {xs : Nat → Int32} {T : tX} {g : gS} (F : Nat → sy_d) (X1 X2 : List jm_c)
theorem bg_112 (hC : cR T F) : ∀ (k : Nat) (F1 : Nat → sy_d) (m : Nat), m + k = nbS T → qR [18, 55] F F1 → (sy_i F1 69).toInt = m → (∀ j, j < 61 → (sy_ai F1 55).getD j 0 = bgF T 7 (nfS T) m j) →
    hd_W Ls xs 1 jm_M171 (pV 4 X1 X2 (fun F' => qR [18, 55] F F' ∧ gRow T F' (begS T))) (112, sy_dL F1 [some (.inl (.ref 1000)), some (.inr (.inl 69))], sy_dS F1 [], sy_dh F1 X1 X2 (iv_H 4), 0, 0) := by
  have l7 : nfS T ≤ 7 := hC.2.2.1.1
  have l4 : nbS T ≤ 4 := hC.2.2.1.2.1
  intro k
  induction k with
  | zero =>
    intro F1 m hm hq e69 hr
    have en : ((sy_ai F1 35).getD (sy_i F1 11).toInt.toNat 0).toInt = (nbS T : Int) := (rX_n (cR_q hC hq (by decide)).2.1).2.1
    refine zbg_112 (by decide) F1 X1 X2 hq.1 (by omega) ?_ ?_
    · intro c0 F2 hb gg e18 i18
      refine ⟨F2, rfl, rfl, qq_on hq hb gg (by decide), ?_⟩
      have em : m = nbS T := by omega
      subst em
      unfold gRow
      rw [nz_fa (gg 55 (by decide) (by decide))]
      exact bgF_beg l7 l4 hr
    · intros
      omega
  | succ k ih =>
    intro F1 m hm hq e69 hr
    have c1 := cR_q hC hq (by decide)
    have en : ((sy_ai F1 35).getD (sy_i F1 11).toInt.toNat 0).toInt = (nbS T : Int) := (rX_n c1.2.1).2.1
    have x11 := nz_bx hq.1 (k := 11) (lo := 0) (hi := 1) rfl
    refine zbg_112 (by decide) F1 X1 X2 hq.1 (by omega) ?_ ?_
    · intros
      omega
    · intro c0 F2 hb gg a55 f69 i69
      obtain ⟨t1, t2, t3⟩ := rX_b c1.2.1 (show m < T.2.1.length by show m < nbS T; omega)
      have ei : (4 * (sy_i F1 11).toInt + (sy_i F1 69).toInt).toNat = 4 * (sy_i F1 11).toInt.toNat + m := by omega
      rw [ei] at a55
      have x1 : (sy_ai F1 36).getD (4 * (sy_i F1 11).toInt.toNat + m) 0 = Int32.ofInt (tB T m).1 := (ofi t1).symm
      have x3 : (sy_ai F1 38).getD (4 * (sy_i F1 11).toInt.toNat + m) 0 = Int32.ofInt (tB T m).2.2 := (ofi t3).symm
      rw [x1, x3, show (49 + (sy_i F1 69).toInt).toNat = 49 + m by omega, show (53 + (sy_i F1 69).toInt).toNat = 53 + m by omega] at a55
      refine ih F2 (m + 1) (by omega) (qq_on hq hb gg (by decide)) (by omega) (fun j hj => ?_)
      rw [a55, jm_upd_at, jm_upd_at, bgF_m l7 (by omega), hr j hj]
theorem bg_48 (hC : cR T F) : ∀ (k : Nat) (F1 : Nat → sy_d) (n : Nat), n + k = nfS T → qR [18, 55] F F1 → (sy_i F1 69).toInt = n → (∀ j, j < 61 → (sy_ai F1 55).getD j 0 = bgF T 7 n 0 j) →
    hd_W Ls xs 1 jm_M171 (pV 4 X1 X2 (fun F' => qR [18, 55] F F' ∧ gRow T F' (begS T))) (48, sy_dL F1 [some (.inl (.ref 1000)), some (.inr (.inl 69))], sy_dS F1 [], sy_dh F1 X1 X2 (iv_H 4), 0, 0) := by
  have l7 : nfS T ≤ 7 := hC.2.2.1.1
  intro k
  induction k with
  | zero =>
    intro F1 n hm hq e69 hr
    have en : ((sy_ai F1 31).getD (sy_i F1 11).toInt.toNat 0).toInt = (nfS T : Int) := (rX_n (cR_q hC hq (by decide)).2.1).1
    refine zbg_48 (by decide) F1 X1 X2 hq.1 (by omega) ?_ ?_
    · intro c0 F2 hb gg f69 i69
      refine bg_112 F X1 X2 hC (nbS T) F2 0 (by omega) (qq_on hq hb gg (by decide)) f69 (fun j hj => ?_)
      rw [nz_fa (gg 55 (by decide) (by decide)), hr j hj, show n = nfS T by omega]
    · intros
      omega
  | succ k ih =>
    intro F1 n hm hq e69 hr
    have c1 := cR_q hC hq (by decide)
    have en : ((sy_ai F1 31).getD (sy_i F1 11).toInt.toNat 0).toInt = (nfS T : Int) := (rX_n c1.2.1).1
    have x11 := nz_bx hq.1 (k := 11) (lo := 0) (hi := 1) rfl
    refine zbg_48 (by decide) F1 X1 X2 hq.1 (by omega) ?_ ?_
    · intros
      omega
    · intro c0 F2 hb gg a55 f69 i69
      obtain ⟨t1, t2, t3⟩ := rX_f c1.2.1 (show n < T.1.length by show n < nfS T; omega)
      have ei : (7 * (sy_i F1 11).toInt + (sy_i F1 69).toInt).toNat = 7 * (sy_i F1 11).toInt.toNat + n := by omega
      rw [ei] at a55
      have x1 : (sy_ai F1 32).getD (7 * (sy_i F1 11).toInt.toNat + n) 0 = Int32.ofInt (tF T n).1 := (ofi t1).symm
      have x3 : (sy_ai F1 34).getD (7 * (sy_i F1 11).toInt.toNat + n) 0 = Int32.ofInt (tF T n).2.2 := (ofi t3).symm
      rw [x1, x3, show (sy_i F1 69).toInt.toNat = n by omega, show (7 + (sy_i F1 69).toInt).toNat = 7 + n by omega] at a55
      refine ih F2 (n + 1) (by omega) (qq_on hq hb gg (by decide)) (by omega) (fun j hj => ?_)
      rw [a55, jm_upd_at, jm_upd_at, bgF_n (by omega), hr j hj]
theorem bg_23 (hC : cR T F) : ∀ (k : Nat) (F1 : Nat → sy_d) (z : Nat), z + k = 7 → qR [18, 55] F F1 → (sy_i F1 69).toInt = z → (∀ j, j < 61 → (sy_ai F1 55).getD j 0 = bgF T z 0 0 j) →
    hd_W Ls xs 1 jm_M171 (pV 4 X1 X2 (fun F' => qR [18, 55] F F' ∧ gRow T F' (begS T))) (23, sy_dL F1 [some (.inl (.ref 1000)), some (.inr (.inl 69))], sy_dS F1 [], sy_dh F1 X1 X2 (iv_H 4), 0, 0) := by
  intro k
  induction k with
  | zero =>
    intro F1 z hm hq e69 hr
    refine zbg_23 (by decide) F1 X1 X2 hq.1 (by omega) ?_ ?_
    · intro c0 F2 hb gg f69 i69
      refine bg_48 F X1 X2 hC (nfS T) F2 0 (by omega) (qq_on hq hb gg (by decide)) f69 (fun j hj => ?_)
      rw [nz_fa (gg 55 (by decide) (by decide)), hr j hj, show z = 7 by omega]
    · intros
      omega
  | succ k ih =>
    intro F1 z hm hq e69 hr
    refine zbg_23 (by decide) F1 X1 X2 hq.1 (by omega) ?_ ?_
    · intros
      omega
    · intro c0 F2 hb gg a55 f69 i69
      rw [show (21 + (sy_i F1 69).toInt).toNat = 21 + z by omega] at a55
      refine ih F2 (z + 1) (by omega) (qq_on hq hb gg (by decide)) (by omega) (fun j hj => ?_)
      rw [a55, jm_upd_at, bgF_z, hr j hj]
theorem bg_2 (hC : cR T F) : ∀ (k : Nat) (F1 : Nat → sy_d) (n : Nat), n + k = 61 → qR [18, 55] F F1 → (sy_i F1 69).toInt = n → (∀ j, j < n → (sy_ai F1 55).getD j 0 = 0) →
    hd_W Ls xs 1 jm_M171 (pV 4 X1 X2 (fun F' => qR [18, 55] F F' ∧ gRow T F' (begS T))) (2, sy_dL F1 [some (.inl (.ref 1000)), some (.inr (.inl 69))], sy_dS F1 [], sy_dh F1 X1 X2 (iv_H 4), 0, 0) := by
  intro k
  induction k with
  | zero =>
    intro F1 n hm hq e69 hr
    refine zbg_2 (by decide) F1 X1 X2 hq.1 (by omega) ?_ ?_
    · intro c0 F2 hb gg f69 i69
      refine bg_23 F X1 X2 hC 7 F2 0 (by omega) (qq_on hq hb gg (by decide)) f69 (fun j hj => ?_)
      rw [nz_fa (gg 55 (by decide) (by decide)), hr j (by omega)]
      unfold bgF
      rw [if_neg (by omega), if_neg (by omega), if_neg (by omega), if_neg (by omega), if_neg (by omega)]
    · intros
      omega
  | succ k ih =>
    intro F1 n hm hq e69 hr
    refine zbg_2 (by decide) F1 X1 X2 hq.1 (by omega) ?_ ?_
    · intros
      omega
    · intro c0 F2 hb gg a55 f69 i69
      rw [show (sy_i F1 69).toInt.toNat = n by omega] at a55
      refine ih F2 (n + 1) (by omega) (qq_on hq hb gg (by decide)) (by omega) (fun j hj => ?_)
      rw [a55, jm_upd_at]
      by_cases q : j = n
      · rw [if_pos q]
      · rw [if_neg q]
        exact hr j (by omega)
theorem bg_V (hC : cR T F) : jm_T Ls xs 1 jm_M171 [.ref 1000] (sy_dh F X1 X2 (iv_H 4)) 0 0 (pV 4 X1 X2 (fun F' => qR [18, 55] F F' ∧ gRow T F' (begS T))) := by
  refine hd_T (As := [.inl (.ref 1000)]) jm_ok171 (by decide) (zbg_0 (by decide) F X1 X2 hC.1 ?_)
  intro F1 hb gg f69 i69
  exact bg_2 F X1 X2 hC 61 F1 0 (by omega) (qq_mk hb gg (by decide)) f69 (fun j hj => absurd hj (by omega))
theorem rpl_V (hB : iv_in F iv_B4) : jm_T Ls xs 1 jm_M151 [.ref 1000] (sy_dh F X1 X2 (iv_H 4)) 0 0 (pI 4 X1 X2 (fun x F' => x = sy_i F 10 ∧ qR [] F F')) := by
  refine hd_T (As := [.inl (.ref 1000)]) jm_ok151 (by decide) (zpl_0 (by decide) F X1 X2 hB ?_)
  intro F1 hb gg
  exact ⟨_, F1, rfl, rfl, rfl, qq_mk hb gg (by decide)⟩
theorem rfo_V (hB : iv_in F iv_B4) : jm_T Ls xs 1 jm_M229 [.ref 1000] (sy_dh F X1 X2 (iv_H 4)) 0 0 (pI 4 X1 X2 (fun x F' => x = sy_i F 21 ∧ qR [21] F F' ∧ (sy_i F' 21).toInt = 0)) := by
  refine hd_T (As := [.inl (.ref 1000)]) jm_ok229 (by decide) (zfo_0 (by decide) F X1 X2 hB ?_)
  intro F1 hb gg e21 i21
  exact ⟨_, F1, rfl, rfl, rfl, qq_mk hb gg (by decide), e21⟩
theorem rbk_V (hB : iv_in F iv_B4) (v : Int32) : jm_T Ls xs 1 jm_M135 [.ref 1000, .int v] (sy_dh F X1 X2 (iv_H 4)) 0 0 (pI 4 X1 X2 (fun x F' => (v.toInt < 0 ∨ (sy_i F 1).toInt < v.toInt → x = -1 ∧ qR [] F F') ∧ (¬ (v.toInt < 0 ∨ (sy_i F 1).toInt < v.toInt) → x.toInt = (sy_i F 1).toInt - v.toInt ∧ qR [1] F F' ∧ (sy_i F' 1).toInt = (sy_i F 1).toInt - v.toInt))) := by
  have c1 := nz_bx hB (k := 1) (lo := 0) (hi := 2000) rfl
  refine R_T [v] [.inl (.ref 1000), .inr (.inl 69)] jm_ok135 (by decide) rfl (fun F0 k0 ki => ?_)
  have z69 : (sy_i F0 69).toInt = v.toInt := congrArg Int32.toInt (ki 0)
  have e0 : (sy_i F0 1).toInt = (sy_i F 1).toInt := nz_fi (k0 1 (by decide))
  refine zbk_0 (by decide) F0 X1 X2 (hd_iveq hB k0) (by intros; omega) ?_ ?_ ?_
  · intro c0 F1 hb1 gg
    exact ⟨_, F1, rfl, rfl, fun _ => ⟨rfl, qq_src (qq_mk hb1 gg (by decide)) k0⟩, fun h => absurd (Or.inl (by omega)) h⟩
  · intro c0 c2 F1 hb1 gg f0 i0
    exact ⟨_, F1, rfl, rfl, fun h => absurd h (by omega), fun _ => ⟨by rw [nz_sub rfl rfl (by omega) (by omega)]; omega, qq_src (qq_mk hb1 gg (by decide)) k0, by omega⟩⟩
  · intro c0 c2 F1 hb1 gg
    exact ⟨_, F1, rfl, rfl, fun _ => ⟨rfl, qq_src (qq_mk hb1 gg (by decide)) k0⟩, fun h => absurd (Or.inr (by omega)) h⟩
theorem rtl_V (hB : iv_in F iv_B4) (a b : Int32) : jm_T Ls xs 2 jm_M228 [.ref 1000, .int a, .int b] (sy_dh F X1 X2 (iv_H 4)) 0 0 (pI 4 X1 X2 (fun x F' => (¬ ((1 ≤ a.toInt ∧ a.toInt ≤ 9) ∧ (0 ≤ b.toInt ∧ b.toInt ≤ 9) ∧ (sy_i F 21).toInt < 7) → x = -1 ∧ qR [] F F') ∧ ((1 ≤ a.toInt ∧ a.toInt ≤ 9) ∧ (0 ≤ b.toInt ∧ b.toInt ≤ 9) ∧ (sy_i F 21).toInt < 7 → x.toInt = (sy_i F 21).toInt ∧ qR [21, 63, 64] F F' ∧ (sy_i F' 21).toInt = (sy_i F 21).toInt + 1 ∧ sy_ai F' 63 = jm_upd (sy_ai F 63) (sy_i F 21).toInt.toNat a ∧ sy_ai F' 64 = jm_upd (sy_ai F 64) (sy_i F 21).toInt.toNat b))) := by
  have c1 := nz_bx hB (k := 21) (lo := 0) (hi := 7) rfl
  refine R_T [a, b] [.inl (.ref 1000), .inr (.inl 69), .inr (.inl 70)] jm_ok228 (by decide) rfl (fun F0 k0 ki => ?_)
  have i69 : sy_i F0 69 = a := ki 0
  have i70 : sy_i F0 70 = b := ki 1
  have e0 : sy_i F0 21 = sy_i F 21 := eI (k0 21 (by decide))
  have z69 : (sy_i F0 69).toInt = a.toInt := congrArg Int32.toInt i69
  have z70 : (sy_i F0 70).toInt = b.toInt := congrArg Int32.toInt i70
  have z21 : (sy_i F0 21).toInt = (sy_i F 21).toInt := congrArg Int32.toInt e0
  have no : ∀ F1 : Nat → sy_d, iv_in F1 iv_B4 → (∀ j, j < 69 → j ∉ ([] : List Nat) → F1 j = F0 j) → ¬ ((1 ≤ a.toInt ∧ a.toInt ≤ 9) ∧ (0 ≤ b.toInt ∧ b.toInt ≤ 9) ∧ (sy_i F 21).toInt < 7) → pI 4 X1 X2 (fun x F' => (¬ ((1 ≤ a.toInt ∧ a.toInt ≤ 9) ∧ (0 ≤ b.toInt ∧ b.toInt ≤ 9) ∧ (sy_i F 21).toInt < 7) → x = -1 ∧ qR [] F F') ∧ ((1 ≤ a.toInt ∧ a.toInt ≤ 9) ∧ (0 ≤ b.toInt ∧ b.toInt ≤ 9) ∧ (sy_i F 21).toInt < 7 → x.toInt = (sy_i F 21).toInt ∧ qR [21, 63, 64] F F' ∧ (sy_i F' 21).toInt = (sy_i F 21).toInt + 1 ∧ sy_ai F' 63 = jm_upd (sy_ai F 63) (sy_i F 21).toInt.toNat a ∧ sy_ai F' 64 = jm_upd (sy_ai F 64) (sy_i F 21).toInt.toNat b)) (some (.int (-1 : Int32))) (sy_dh F1 X1 X2 (iv_H 4)) := fun F1 hb1 gg h => ⟨_, F1, rfl, rfl, fun _ => ⟨rfl, qq_src (qq_mk hb1 gg (by decide)) k0⟩, fun z => absurd z h⟩
  refine ztl_0 (by decide) F0 X1 X2 (hd_iveq hB k0) ?_ ?_ ?_ ?_ ?_ ?_
  · intro d1 F1 hb1 gg
    exact no F1 hb1 gg (by omega)
  · intro d1 d2 F1 hb1 gg
    exact no F1 hb1 gg (by omega)
  · intro d1 d2 d3 F1 hb1 gg
    exact no F1 hb1 gg (by omega)
  · intro d1 d2 d3 d4 F1 hb1 gg
    exact no F1 hb1 gg (by omega)
  · intro d1 d2 d3 d4 d5 F1 hb1 gg
    exact no F1 hb1 gg (by omega)
  · intro d1 d2 d3 d4 d5 F1 hb1 gg f21 i21 a63 a64
    rw [i69, e0, nz_fa (k0 63 (by decide))] at a63
    rw [i70, e0, nz_fa (k0 64 (by decide))] at a64
    have o1 : (1 : Int32).toInt = 1 := by decide
    exact ⟨_, F1, rfl, rfl, fun h => absurd (by omega) h, fun _ => ⟨by rw [nz_sub (nz_add rfl o1 (by omega) (by omega)) o1 (by omega) (by omega)]; omega, qq_src (qq_mk hb1 gg (by decide)) k0, by omega, a63, a64⟩⟩
theorem rfd_V (hB : iv_in F iv_B4) (a b c d e : Int32) : jm_T Ls xs 2 jm_M133 [.ref 1000, .int a, .int b, .int c, .int d, .int e] (sy_dh F X1 X2 (iv_H 4)) 0 0 (pI 4 X1 X2 (fun x F' => (2000 < (sy_i F 1).toInt + 20 → x = -1 ∧ qR [] F F') ∧ (¬ 2000 < (sy_i F 1).toInt + 20 → x.toInt = (sy_i F 1).toInt + 20 ∧ qR [1, 23] F F' ∧ (sy_i F' 1).toInt = (sy_i F 1).toInt + 20 ∧ ub (sy_ai F' 23) ((sy_i F 1).toInt + 20).toNat = apB (apB (apB (apB (apB (ub (sy_ai F 23) (sy_i F 1).toInt.toNat) (sy_i F 1).toInt.toNat a) ((sy_i F 1).toInt.toNat + 4) b) ((sy_i F 1).toInt.toNat + 8) c) ((sy_i F 1).toInt.toNat + 12) d) ((sy_i F 1).toInt.toNat + 16) e))) := by
  obtain ⟨F0, hF0⟩ : ∃ F0, F0 = nm F (fun j => .inl (.int (if j = 0 then a else if j = 1 then b else if j = 2 then c else if j = 3 then d else e))) := ⟨_, rfl⟩
  have k0 : ∀ j, j < 69 → F0 j = F j := fun j hj => by rw [hF0]; exact nm_lt j hj
  have i69 : sy_i F0 69 = a := by rw [hF0]; rfl
  have i70 : sy_i F0 70 = b := by rw [hF0]; rfl
  have i71 : sy_i F0 71 = c := by rw [hF0]; rfl
  have i72 : sy_i F0 72 = d := by rw [hF0]; rfl
  have i73 : sy_i F0 73 = e := by rw [hF0]; rfl
  have hB0 := hd_iveq hB k0
  have e00 : (sy_i F0 1).toInt = (sy_i F 1).toInt := nz_fi (k0 1 (by decide))
  have c1 := nz_bx hB0 (k := 1) (lo := 0) (hi := 2000) rfl
  refine nm_T F (fun j => .inl (.int (if j = 0 then a else if j = 1 then b else if j = 2 then c else if j = 3 then d else e))) X1 X2 (A := [.inl (.ref 1000), .inr (.inl 69), .inr (.inl 70), .inr (.inl 71), .inr (.inl 72), .inr (.inl 73)]) jm_ok133 (by decide) rfl ?_
  rw [← hF0]
  refine rfd_0 (by decide) F0 X1 X2 hB0 ?_ ?_
  · intro q F1 hb g e1 e10 e21 a23 a67 f69 f70 f71 f72 f73
    have hn : ¬ 2000 < (sy_i F 1).toInt + 20 := by omega
    obtain ⟨t, ht⟩ : ∃ t : Nat, t = (sy_i F0 1).toInt.toNat := ⟨_, rfl⟩
    have h1 : fR F0 F1 t (ub (sy_ai F0 23) t) := ⟨hb, fun j hj hn => g j hj (by simp), by omega, by rw [a23]⟩
    have v0 : sy_i F1 69 = sy_i F0 69 := Int32.toInt_inj.mp f69
    have v1 : sy_i F1 70 = sy_i F0 70 := Int32.toInt_inj.mp f70
    have v2 : sy_i F1 71 = sy_i F0 71 := Int32.toInt_inj.mp f71
    have v3 : sy_i F1 72 = sy_i F0 72 := Int32.toInt_inj.mp f72
    have v4 : sy_i F1 73 = sy_i F0 73 := Int32.toInt_inj.mp f73
    refine hd_calV (R := fun F' => fR F0 F' (t + 4) (apB (ub (sy_ai F0 23) t) (t) (sy_i F0 69))) (nh := 69) (nv := 74) (s := 4) (s1 := 4) (d1 := 1) (M1 := jm_M134) (As := [.inl (.ref 1000), .inr (.inl 69)]) (rest := []) jm_ok133 rfl rfl (by decide) (by decide +kernel) (by rw [← v0]; exact rap_T X1 X2 F0 F1 h1 (by omega) _) (fun G0 H0 hR0 p0 r0 => ?_)
    have h0a := fR_eq hR0 p0
    have w0_1 : sy_i G0 70 = sy_i F0 70 := (show sy_i G0 70 = sy_i F1 70 by unfold sy_i; rw [r0 70 (by decide) (by decide)]).trans v1
    have w0_2 : sy_i G0 71 = sy_i F0 71 := (show sy_i G0 71 = sy_i F1 71 by unfold sy_i; rw [r0 71 (by decide) (by decide)]).trans v2
    have w0_3 : sy_i G0 72 = sy_i F0 72 := (show sy_i G0 72 = sy_i F1 72 by unfold sy_i; rw [r0 72 (by decide) (by decide)]).trans v3
    have w0_4 : sy_i G0 73 = sy_i F0 73 := (show sy_i G0 73 = sy_i F1 73 by unfold sy_i; rw [r0 73 (by decide) (by decide)]).trans v4
    refine rfd_20 (by decide) G0 X1 X2 h0a.1 ?_
    intro K0 kb0 kg0 z0_e1 z0_e10 z0_e21 z0_a23 z0_a67 y0_0 y0_1 y0_2 y0_3 y0_4
    have h0b := fR_eq h0a (fun j hj => kg0 j hj (by simp))
    have u0_1 : sy_i K0 70 = sy_i F0 70 := (Int32.toInt_inj.mp y0_1).trans w0_1
    have u0_2 : sy_i K0 71 = sy_i F0 71 := (Int32.toInt_inj.mp y0_2).trans w0_2
    have u0_3 : sy_i K0 72 = sy_i F0 72 := (Int32.toInt_inj.mp y0_3).trans w0_3
    have u0_4 : sy_i K0 73 = sy_i F0 73 := (Int32.toInt_inj.mp y0_4).trans w0_4
    refine hd_calV (R := fun F' => fR F0 F' (t + 4 + 4) (apB (apB (ub (sy_ai F0 23) t) (t) (sy_i F0 69)) (t + 4) (sy_i F0 70))) (nh := 69) (nv := 74) (s := 4) (s1 := 4) (d1 := 1) (M1 := jm_M134) (As := [.inl (.ref 1000), .inr (.inl 70)]) (rest := []) jm_ok133 rfl rfl (by decide) (by decide +kernel) (by rw [← u0_1]; exact rap_T X1 X2 F0 K0 h0b (by omega) _) (fun G1 H1 hR1 p1 r1 => ?_)
    have h1a := fR_eq hR1 p1
    have w1_2 : sy_i G1 71 = sy_i F0 71 := (show sy_i G1 71 = sy_i K0 71 by unfold sy_i; rw [r1 71 (by decide) (by decide)]).trans u0_2
    have w1_3 : sy_i G1 72 = sy_i F0 72 := (show sy_i G1 72 = sy_i K0 72 by unfold sy_i; rw [r1 72 (by decide) (by decide)]).trans u0_3
    have w1_4 : sy_i G1 73 = sy_i F0 73 := (show sy_i G1 73 = sy_i K0 73 by unfold sy_i; rw [r1 73 (by decide) (by decide)]).trans u0_4
    refine rfd_25 (by decide) G1 X1 X2 h1a.1 ?_
    intro K1 kb1 kg1 z1_e1 z1_e10 z1_e21 z1_a23 z1_a67 y1_0 y1_1 y1_2 y1_3 y1_4
    have h1b := fR_eq h1a (fun j hj => kg1 j hj (by simp))
    have u1_2 : sy_i K1 71 = sy_i F0 71 := (Int32.toInt_inj.mp y1_2).trans w1_2
    have u1_3 : sy_i K1 72 = sy_i F0 72 := (Int32.toInt_inj.mp y1_3).trans w1_3
    have u1_4 : sy_i K1 73 = sy_i F0 73 := (Int32.toInt_inj.mp y1_4).trans w1_4
    refine hd_calV (R := fun F' => fR F0 F' (t + 4 + 4 + 4) (apB (apB (apB (ub (sy_ai F0 23) t) (t) (sy_i F0 69)) (t + 4) (sy_i F0 70)) (t + 4 + 4) (sy_i F0 71))) (nh := 69) (nv := 74) (s := 4) (s1 := 4) (d1 := 1) (M1 := jm_M134) (As := [.inl (.ref 1000), .inr (.inl 71)]) (rest := []) jm_ok133 rfl rfl (by decide) (by decide +kernel) (by rw [← u1_2]; exact rap_T X1 X2 F0 K1 h1b (by omega) _) (fun G2 H2 hR2 p2 r2 => ?_)
    have h2a := fR_eq hR2 p2
    have w2_3 : sy_i G2 72 = sy_i F0 72 := (show sy_i G2 72 = sy_i K1 72 by unfold sy_i; rw [r2 72 (by decide) (by decide)]).trans u1_3
    have w2_4 : sy_i G2 73 = sy_i F0 73 := (show sy_i G2 73 = sy_i K1 73 by unfold sy_i; rw [r2 73 (by decide) (by decide)]).trans u1_4
    refine rfd_30 (by decide) G2 X1 X2 h2a.1 ?_
    intro K2 kb2 kg2 z2_e1 z2_e10 z2_e21 z2_a23 z2_a67 y2_0 y2_1 y2_2 y2_3 y2_4
    have h2b := fR_eq h2a (fun j hj => kg2 j hj (by simp))
    have u2_3 : sy_i K2 72 = sy_i F0 72 := (Int32.toInt_inj.mp y2_3).trans w2_3
    have u2_4 : sy_i K2 73 = sy_i F0 73 := (Int32.toInt_inj.mp y2_4).trans w2_4
    refine hd_calV (R := fun F' => fR F0 F' (t + 4 + 4 + 4 + 4) (apB (apB (apB (apB (ub (sy_ai F0 23) t) (t) (sy_i F0 69)) (t + 4) (sy_i F0 70)) (t + 4 + 4) (sy_i F0 71)) (t + 4 + 4 + 4) (sy_i F0 72))) (nh := 69) (nv := 74) (s := 4) (s1 := 4) (d1 := 1) (M1 := jm_M134) (As := [.inl (.ref 1000), .inr (.inl 72)]) (rest := []) jm_ok133 rfl rfl (by decide) (by decide +kernel) (by rw [← u2_3]; exact rap_T X1 X2 F0 K2 h2b (by omega) _) (fun G3 H3 hR3 p3 r3 => ?_)
    have h3a := fR_eq hR3 p3
    have w3_4 : sy_i G3 73 = sy_i F0 73 := (show sy_i G3 73 = sy_i K2 73 by unfold sy_i; rw [r3 73 (by decide) (by decide)]).trans u2_4
    refine rfd_36 (by decide) G3 X1 X2 h3a.1 ?_
    intro K3 kb3 kg3 z3_e1 z3_e10 z3_e21 z3_a23 z3_a67 y3_0 y3_1 y3_2 y3_3 y3_4
    have h3b := fR_eq h3a (fun j hj => kg3 j hj (by simp))
    have u3_4 : sy_i K3 73 = sy_i F0 73 := (Int32.toInt_inj.mp y3_4).trans w3_4
    refine hd_calV (R := fun F' => fR F0 F' (t + 4 + 4 + 4 + 4 + 4) (apB (apB (apB (apB (apB (ub (sy_ai F0 23) t) (t) (sy_i F0 69)) (t + 4) (sy_i F0 70)) (t + 4 + 4) (sy_i F0 71)) (t + 4 + 4 + 4) (sy_i F0 72)) (t + 4 + 4 + 4 + 4) (sy_i F0 73))) (nh := 69) (nv := 74) (s := 4) (s1 := 4) (d1 := 1) (M1 := jm_M134) (As := [.inl (.ref 1000), .inr (.inl 73)]) (rest := []) jm_ok133 rfl rfl (by decide) (by decide +kernel) (by rw [← u3_4]; exact rap_T X1 X2 F0 K3 h3b (by omega) _) (fun G4 H4 hR4 p4 r4 => ?_)
    have h4a := fR_eq hR4 p4
    refine rfd_42 (by decide) G4 X1 X2 h4a.1 ?_
    intro F9 kb kg z_e1 z_e10 z_e21 z_a23 z_a67
    have h6 := h4a
    have q5 := fR_eq h4a (fun j hj => kg j hj (by simp))
    have w5 := q5.2.2.1
    have w6 := h6.2.2.1
    refine ⟨_, F9, rfl, rfl, fun h => absurd h hn, fun _ => ⟨by omega, ⟨q5.1, fun j hj hn => (q5.2.1 j hj hn).trans (k0 j hj)⟩, by omega, ?_⟩⟩
    have hA := q5.2.2.2
    rw [i69, i70, i71, i72, i73, nz_fa (k0 23 (by decide))] at hA
    have ht2 : (sy_i F 1).toInt.toNat = t := by omega
    rw [ht2, show ((sy_i F 1).toInt + 20).toNat = t + 4 + 4 + 4 + 4 + 4 by omega]
    exact hA
  · intro q F1 hb g e1 e10 e21 a23 a67
    have hn : 2000 < (sy_i F 1).toInt + 20 := by omega
    exact ⟨_, F1, rfl, rfl, fun _ => ⟨rfl, qq_src (qq_mk hb g (by decide)) k0⟩, fun h => absurd hn h⟩
end RB
end
section
/-! ===== the reference reads: what is behind it ===== -/
abbrev KR : List Nat := [20, 21, 54, 60, 63, 64, 67, 68]
noncomputable def rq_Q (X1 X2 : List jm_c) (a : Int × Int) (C TL : tX) (TK : Nat → sy_d) (v : Option Value) (G : jm_h) : Prop := ∃ (x : Int32) (F' : Nat → sy_d), v = some (.int x) ∧ G = sy_dh F' X1 X2 (iv_H 4) ∧ iv_in F' iv_B4 ∧ jm_rpn F' ∧ (sy_i F' 1).toInt = 0 ∧ x.toInt = a.1 ∧ (sy_i F' 10).toInt = a.2 ∧ F' 29 = TK 29 ∧ (a.1 = 0 → (sy_i F' 20).toInt = 0 ∧ (sy_i F' 21).toInt = 0 ∧ (∀ j, j < 3 → (sy_ai F' 67).getD j 0 = 0) ∧ rXl C F' ∧ (wT C → gNw C F' (begS C))) ∧ (a.1 ≠ 0 → (∀ j, j ∈ KR → F' j = TK j) ∧ rXl TL F')
theorem rq_mono {X1 X2 : List jm_c} {a : Int × Int} {C TL : tX} {TK TK' : Nat → sy_d} {v : Option Value} {G : jm_h} (h : rq_Q X1 X2 a C TL TK v G) (e : ∀ j, j ∈ KR → TK j = TK' j) (e29 : TK 29 = TK' 29) : rq_Q X1 X2 a C TL TK' v G := by
  obtain ⟨x, F', h1, h2, h3, h4, h5, h6, h7, h8, h9, h10⟩ := h
  exact ⟨x, F', h1, h2, h3, h4, h5, h6, h7, h8.trans e29, h9, fun z => ⟨fun j hj => ((h10 z).1 j hj).trans (e j hj), (h10 z).2⟩⟩
section RQ
variable {Ls : Nat} {xs : Nat → Int32} (X1 X2 : List jm_c) (C TL : tX) (TK : Nat → sy_d)
theorem rq_204 (F : Nat → sy_d) (hB : iv_in F iv_B4) (hJ : jm_rpn F) (h1 : (sy_i F 1).toInt = 0) (h10 : (sy_i F 10).toInt = -1) (h29 : F 29 = TK 29) (hC : rXl C F) (hR : wT C → gRow C F (begS C)) :
    hd_W Ls xs 8 jm_M150 (rq_Q X1 X2 (0, -1) C TL TK) (204, sy_dL F [some (.inl (.ref 1000)), none], sy_dS F [.inl (.ref 1000)], sy_dh F X1 X2 (iv_H 4), 0, 0) := by
  refine hd_calV (R := fun F' => qR [54] F F' ∧ ∀ j, j < 61 → (sy_ai F' 54).getD j 0 = (sy_ai F 55).getD j 0) (nh := 69) (nv := 69) (s := 4) (s1 := 4) (d1 := 1) (M1 := jm_M172) (As := [.inl (.ref 1000)]) (rest := []) jm_ok150 rfl rfl (by decide) (by decide +kernel) (kr_V F X1 X2 hB) (fun F3 F' hR' p1 _ => ?_)
  obtain ⟨r1, r2⟩ := hR'
  have r1' : qR [54] F F3 := qR_dst r1 p1
  have hB3 := r1'.1
  have hJ3 : jm_rpn F3 := jm_rpn_eq (fun q hq => r1'.2 q (by revert q; decide) (by revert q; decide)) hJ
  have i1 : (sy_i F3 1).toInt = 0 := by rw [qq_i r1' (by decide) (by decide)]; exact h1
  have i10 : (sy_i F3 10).toInt = -1 := by rw [qq_i r1' (by decide) (by decide)]; exact h10
  refine rey_207 (by decide) F3 X1 X2 hB3 ?_
  intro F4 hb g e1 e2 e4 e5 e6 e7 e8 e9 e10 e11 e12 e13 e14 e15 e20 e21 a25 a26 a27 a31 a35 a67 a42 a43 a44 a45 a46 a47 a48 a49 a50
  refine ⟨_, F4, rfl, rfl, hb, jm_rpn_eq (fun q hq => g q (by revert q; decide) (by revert q; decide)) hJ3, by omega, by decide, by omega, (g 29 (by decide) (by decide)).trans ((r1'.2 29 (by decide) (by decide)).trans h29), fun _ => ⟨e20, e21, fun j hj => ?_, rXl_eq hC (by rw [nz_fi (g 11 (by decide) (by decide)), qq_i r1' (by decide) (by decide)]) (fun a h1 h2 => (nz_fa (g a (by omega) (by first | (simp; done) | (simp; omega)))).trans (qq_a r1' (by omega) (by simp; omega))), fun hw => ?_⟩, fun z => absurd rfl z⟩
  · rw [a67, jm_upd_at, jm_upd_at, jm_upd_at]
    match j, hj with
    | 0, _ => rfl
    | 1, _ => rfl
    | 2, _ => rfl
    | n + 3, h => exact absurd h (by omega)
  · unfold gNw
    rw [nz_fa (g 54 (by decide) (by decide)), nz_fa (p1 54 (by decide))]
    exact gL_eq hw.1.1 hw.1.2.1 (hR hw) r2
theorem rq_200 (F : Nat → sy_d) (hB : iv_in F iv_B4) (hJ : jm_rpn F) (h1 : (sy_i F 1).toInt = 0) (h10 : (sy_i F 10).toInt = -1) (h29 : F 29 = TK 29) (hC : rXl C F) :
    hd_W Ls xs 8 jm_M150 (rq_Q X1 X2 (0, -1) C TL TK) (200, sy_dL F [some (.inl (.ref 1000)), none], sy_dS F [.inl (.ref 1000)], sy_dh F X1 X2 (iv_H 4), 0, 0) := by
  have key : jm_T Ls xs 1 jm_M171 [.ref 1000] (sy_dh F X1 X2 (iv_H 4)) 0 0 (pV 4 X1 X2 (fun F' => qR [18, 55] F F' ∧ (wT C → gRow C F' (begS C)))) := by
    by_cases hw : wT C
    · refine jm_T_mono (bg_V F X1 X2 ⟨hB, hC, hw⟩) ?_
      rintro v G ⟨F', e1, e2, e3, e4⟩
      exact ⟨F', e1, e2, e3, fun _ => e4⟩
    · refine jm_T_mono (ct_v ok_4_171 rfl F X1 X2 hB hJ) ?_
      rintro v G ⟨F', e1, e2, e3, e4, e5⟩
      exact ⟨F', e1, e2, ⟨e3, fun j hj hn => e4 j hj (by simpa using hn)⟩, fun z => absurd z hw⟩
  refine hd_calV (R := fun F' => qR [18, 55] F F' ∧ (wT C → gRow C F' (begS C))) (nh := 69) (nv := 69) (s := 4) (s1 := 4) (d1 := 1) (M1 := jm_M171) (As := [.inl (.ref 1000)]) (rest := []) jm_ok150 rfl rfl (by decide) (by decide +kernel) key (fun F3 F' hR p1 _ => ?_)
  obtain ⟨r1, r2⟩ := hR
  have r1' : qR [18, 55] F F3 := qR_dst r1 p1
  have hJ3 : jm_rpn F3 := jm_rpn_eq (fun q hq => r1'.2 q (by revert q; decide) (by revert q; decide)) hJ
  have i1 : (sy_i F3 1).toInt = 0 := by rw [qq_i r1' (by decide) (by decide)]; exact h1
  have i10 : (sy_i F3 10).toInt = -1 := by rw [qq_i r1' (by decide) (by decide)]; exact h10
  refine rey_203 (by decide) F3 X1 X2 r1'.1 ?_
  intro F4 hb g e1 e2 e4 e5 e6 e7 e8 e9 e10 e11 e12 e13 e14 e15 e20 e21 a25 a26 a27 a31 a35 a67 a42 a43 a44 a45 a46 a47 a48 a49 a50
  exact rq_204 X1 X2 C TL TK F4 hb (jm_rpn_eq (fun q hq => g q (by revert q; decide) (by revert q; decide)) hJ3) (by omega) (by omega) ((g 29 (by decide) (by decide)).trans ((r1'.2 29 (by decide) (by decide)).trans h29)) (rXl_eq hC (by rw [nz_fi (g 11 (by decide) (by decide)), qq_i r1' (by decide) (by decide)]) (fun a h1 h2 => (nz_fa (g a (by omega) (by first | (simp; done) | (simp; omega)))).trans (qq_a r1' (by omega) (by simp; omega)))) (fun hw => gRow_e (r2 hw) ((nz_fa (g 55 (by decide) (by decide))).trans (nz_fa (p1 55 (by decide)))))
theorem rq_loop (K V P : Nat → Int) (N : Nat → Int64) (L : Nat) (rr : sE ⊕ (sT × tX)) : ∀ (n : Nat) (F : Nat → sy_d), pk F → (sy_i F 1).toInt = 0 → ((sy_i F 6).toInt = 0 → 400 - (sy_i F 4).toInt < n) → rIz K V N P L rr F → (∀ j, j ∈ KR → F j = TK j) → F 29 = TK 29 → rXl TL F →
    hd_W Ls xs 8 jm_M150 (rq_Q X1 X2 (sEnd P (prT rr)) (cnT rr) TL TK) (112, sy_dL F [some (.inl (.ref 1000)), none], sy_dS F [], sy_dh F X1 X2 (iv_H 4), 0, 0) := by
  intro n
  induction n with
  | zero =>
    intro F hP h1 hn hI hk h29 hTL
    have c4 := nz_bx hP.1 (k := 4) (lo := 0) (hi := 400) rfl
    have k7 := hI.2.2.2
    refine rey_112 (by decide) F X1 X2 hP.1 ?_ ?_ ?_ ?_
    · intro q1 q2 q3 F1 hb g e1 e2 e4 e5 e6 e7 e8 e9 e10 e11 e12 e13 e14 e15 e20 e21 a25 a26 a27 a31 a35 a67 a42 a43 a44 a45 a46 a47 a48 a49 a50
      obtain ⟨tok, t1, t2⟩ := k7 q1
      refine ⟨_, F1, rfl, rfl, hb, jm_rpn_eq (fun q hq => g q (by revert q; decide) (by revert q; decide)) hP.2.2.1, by omega, ?_, ?_, (g 29 (by decide) (by decide)).trans h29, fun z => ?_, fun _ => ⟨fun j hj => (g j (by revert j; decide) (by revert j; decide)).trans (hk j hj), rXl_eq hTL (nz_fi (g 11 (by decide) (by decide))) (fun a h1 h2 => nz_fa (g a (by omega) (by first | (simp; done) | (simp; omega))))⟩⟩
      · rw [t1]
        rfl
      · rw [t1, e10, t2]
        rfl
      · rw [t1] at z
        exact absurd z q1
    all_goals (clear hI k7; intros; exfalso; omega)
  | succ n ih =>
    intro F hP h1 hn hI hk h29 hTL
    have c4 := nz_bx hP.1 (k := 4) (lo := 0) (hi := 400) rfl
    obtain ⟨⟨k1, k2, k3, k4⟩, k5, k6, k7⟩ := id hI
    have eK : K (tn F) = ((sy_ai F 25).getD (sy_i F 4).toInt.toNat 0).toInt := by rw [← k1]; rfl
    refine rey_112 (by decide) F X1 X2 hP.1 ?_ ?_ ?_ ?_
    · intro q1 q2 q3 F1 hb g e1 e2 e4 e5 e6 e7 e8 e9 e10 e11 e12 e13 e14 e15 e20 e21 a25 a26 a27 a31 a35 a67 a42 a43 a44 a45 a46 a47 a48 a49 a50
      obtain ⟨tok, t1, t2⟩ := k7 q1
      refine ⟨_, F1, rfl, rfl, hb, jm_rpn_eq (fun q hq => g q (by revert q; decide) (by revert q; decide)) hP.2.2.1, by omega, ?_, ?_, (g 29 (by decide) (by decide)).trans h29, fun z => ?_, fun _ => ⟨fun j hj => (g j (by revert j; decide) (by revert j; decide)).trans (hk j hj), rXl_eq hTL (nz_fi (g 11 (by decide) (by decide))) (fun a h1 h2 => nz_fa (g a (by omega) (by first | (simp; done) | (simp; omega))))⟩⟩
      · rw [t1]
        rfl
      · rw [t1, e10, t2]
        rfl
      · rw [t1] at z
        exact absurd z q1
    · intro q6 _ qk F1 hb g e1 e2 e4 e5 e6 e7 e8 e9 e10 e11 e12 e13 e14 e15 e20 e21 a25 a26 a27 a31 a35 a67 a42 a43 a44 a45 a46 a47 a48 a49 a50
      have g0 : ∀ q, q < 69 → F1 q = F q := fun q hq => g q hq (by simp)
      have hG1 : gr [] F F1 := gr_mk hb g (by decide) (by omega) (by omega)
      obtain ⟨m1, m2, m3, m4, m5, m6, m7⟩ := hP.2.2.2 q6
      have hP1 : pk F1 := pk_of hP hG1 (by decide) (fun _ => pj_of (hP.2.2.2 q6) hG1 (by decide) (by rw [e13, a31, a35]; exact m6))
      have hI1 := rIz_eq hI g0
      obtain ⟨⟨y1, y2, y3, y4⟩, y5, y6, y7⟩ := id hI1
      obtain ⟨nn, x, T, z1, z2, z3, zT⟩ := y6 (by omega)
      refine hd_calV (R := fun F' => gr WO F1 F' ∧ pk F' ∧ ((sy_i F' 6).toInt = 0 → (sy_i F1 4).toInt + 1 ≤ (sy_i F' 4).toInt) ∧ toy_A F1 F' ∧ toz_C F1 F' ∧ oth F1 F') (nh := 69) (nv := 69) (s := 4) (s1 := 4) (d1 := 7) (M1 := jm_M154) (As := [.inl (.ref 1000)]) (rest := []) jm_ok150 rfl rfl (by decide) (by decide +kernel) (toz_T X1 X2 F1 hP1 (by omega)) (fun F3 F' hR p1 _ => ?_)
      obtain ⟨r1, r2, r3, r4, r5, r6⟩ := hR
      have w1 := nz_fi (p1 1 (by decide))
      have w4 := nz_fi (p1 4 (by decide))
      have w6 := nz_fi (p1 6 (by decide))
      have r1i := r1.i (k := 1) (by decide) (by decide)
      have G3 : gr [] F' F3 := ⟨hd_iveq r1.b p1, fun j hj _ => p1 j hj, by omega, by omega⟩
      have hP3 : pk F3 := pk_of r2 G3 (by decide) (fun z => by
        have y := r2.2.2.2 (by omega)
        obtain ⟨y1, y2, y3, y4, y5, y6, y7⟩ := id y
        exact pj_of y G3 (by decide) (by rw [nz_fi (p1 13 (by decide)), nz_fa (p1 31 (by decide)), nz_fa (p1 35 (by decide))]; exact y6))
      have hk0 : K x.1 ≠ 0 := by
        rw [← z2.1, tn_eq e4, eK]
        exact qk
      obtain ⟨nn', rfl⟩ : ∃ nn', nn = nn' + 1 := ⟨nn - 1, by
        have : tn F1 ≤ 400 := by unfold tn; omega
        omega⟩
      have hrr : rr = sB (sOne K V N x) (fun x' => zRun K V N nn' x' (tU K V x.1 T)) := by
        rw [z3]
        show (if K x.1 = 0 then _ else _) = _
        rw [if_neg hk0]
      have hA := r4 L x (by rw [y1, y4]; exact y5) (by rw [y4]; exact z2)
      rw [y1, y2, y3, y4] at hA
      obtain ⟨hA1, hA2⟩ := hA (by omega)
      have hI' : rIz K V N P L rr F' := by
        refine ⟨⟨(kf_eq (r1.f 25 (by decide) (by decide))).trans y1, (vf_eq (r1.f 27 (by decide) (by decide))).trans y2, (nf_eq (r1.f 28 (by decide) (by decide))).trans y3, (pf_eq (r1.f 26 (by decide) (by decide))).trans y4⟩, y5, fun z => ?_, fun z => ?_⟩
        · obtain ⟨x', a1, a2⟩ := hA2 z
          have hC5 := r5 L x T (by rw [y1, y4]; exact y5) (by rw [y4]; exact z2) zT z
          rw [y1, y2, z2.1] at hC5
          refine ⟨nn', x', tU K V x.1 T, ?_, a2, by rw [hrr, a1]; rfl, hC5⟩
          have := r3 z
          unfold tn at z1 ⊢
          omega
        · obtain ⟨tok, a1, a2⟩ := hA1 z
          exact ⟨tok, by rw [hrr, a1]; rfl, a2⟩
      refine rey_131 (by decide) F3 X1 X2 hP3.1 ?_
      intro F4 hb4 g4 e1' e2' e4' e5' e6' e7' e8' e9' e10' e11' e12' e13' e14' e15' e20' e21' a25' a26' a27' a31' a35' a67' a42' a43' a44' a45' a46' a47' a48' a49' a50'
      have hG4 : gr [] F3 F4 := gr_mk hb4 g4 (by decide) (by omega) (by omega)
      have hP4 : pk F4 := pk_of hP3 hG4 (by decide) (fun z => by
        have y := hP3.2.2.2 (by omega)
        obtain ⟨y1, y2, y3, y4, y5, y6, y7⟩ := id y
        exact pj_of y hG4 (by decide) (by rw [e13', a31', a35']; exact y6))
      have ee : ∀ q, q < 69 → F4 q = F' q := fun q hq => (g4 q hq (by simp)).trans (p1 q hq)
      refine ih F4 hP4 (by omega) (fun z => ?_) (rIz_eq hI' ee) (fun j hj => (ee j (by revert j; decide)).trans ((r1.f j (by revert j; decide) (by revert j; decide)).trans ((g0 j (by revert j; decide)).trans (hk j hj)))) ((ee 29 (by decide)).trans ((r1.f 29 (by decide) (by decide)).trans ((g0 29 (by decide)).trans h29))) (rXl_eq (oth_live hP1.1 hP1.2.1 hP1.2.2.1 r6 (rXl_eq hTL (nz_fi (g0 11 (by decide))) (fun a h1 h2 => nz_fa (g0 a (by omega))))) (nz_fi (ee 11 (by decide))) (fun a h1 h2 => nz_fa (ee a (by omega))))
      have y := r3 (by omega)
      have y2 := hn q6
      omega
    · intro q6 _ qk _ _ _ q8 F1 hb g e1 e2 e4 e5 e6 e7 e8 e9 e10 e11 e12 e13 e14 e15 e20 e21 a25 a26 a27 a31 a35 a67 a42 a43 a44 a45 a46 a47 a48 a49 a50
      obtain ⟨m1, m2, m3, m4, m5, m6, m7⟩ := hP.2.2.2 q6
      have c12 := nz_bx hP.1 (k := 12) (lo := 0) (hi := 1) rfl
      obtain ⟨nn, x, T, z1, z2, z3, zT⟩ := k6 q6
      obtain ⟨nn', rfl⟩ : ∃ nn', nn = nn' + 1 := ⟨nn - 1, by
        have : tn F ≤ 400 := by unfold tn; omega
        omega⟩
      have hrr : rr = .inr (x, T) := by
        rw [z3]
        show (if K x.1 = 0 then _ else _) = _
        rw [if_pos (by rw [← z2.1, eK]; exact qk)]
      have hw := z2.2.2.2.2.2
      have hw0 : x.2.2.2.2.1 = 0 := by
        obtain ⟨a, b, -⟩ := hw
        omega
      have hE : sEnd P (prT rr) = (0, -1) := by
        rw [hrr]
        show (if x.2.2.2.2.1 = 0 then _ else _) = _
        rw [if_pos hw0]
      rw [hE]
      refine rq_200 X1 X2 (cnT rr) TL TK F1 hb ?_ (by omega) e10 ((g 29 (by decide) (by decide)).trans h29) (by rw [hrr]; exact rXl_of zT e11 (fun a h1 h2 => nz_fa (g a (by omega) (by first | (simp; done) | (simp; omega)))))
      have e : (sy_i F1 11).toNatClampNeg = (sy_i F 12).toInt.toNat := by
        show (sy_i F1 11).toInt.toNat = _
        rw [e11]
      unfold jm_rpn
      rw [e]
      exact rp_S_keep m1 (fun k _ => by rw [a42, a43]; exact ⟨rfl, rfl⟩) (fun b _ _ => s5_same a44 a45 a46 a47 a48 b) (fun i _ _ => by rw [a49, a50]; exact ⟨rfl, rfl⟩) (by omega) (by omega)
    · intro q6 _ qk _ q8 _ _ F1 hb g e1 e2 e4 e5 e6 e7 e8 e9 e10 e11 e12 e13 e14 e15 e20 e21 a25 a26 a27 a31 a35 a67 a42 a43 a44 a45 a46 a47 a48 a49 a50
      obtain ⟨nn, x, T, z1, z2, z3, zT⟩ := k6 q6
      obtain ⟨nn', rfl⟩ : ∃ nn', nn = nn' + 1 := ⟨nn - 1, by
        have : tn F ≤ 400 := by unfold tn; omega
        omega⟩
      have hrr : rr = .inr (x, T) := by
        rw [z3]
        show (if K x.1 = 0 then _ else _) = _
        rw [if_pos (by rw [← z2.1, eK]; exact qk)]
      obtain ⟨wa, wb, wc⟩ := z2.2.2.2.2.2
      have hw0 : x.2.2.2.2.1 ≠ 0 := by omega
      have hE : sEnd P (prT rr) = (x.2.2.2.2.1, P x.2.2.2.2.2) := by
        rw [hrr]
        show (if x.2.2.2.2.1 = 0 then _ else _) = _
        rw [if_neg hw0]
      rw [hE]
      exact ⟨_, F1, rfl, rfl, hb, jm_rpn_eq (fun q hq => g q (by revert q; decide) (by revert q; decide)) hP.2.2.1, by omega, wa, by rw [e10]; exact (wc hw0).1, (g 29 (by decide) (by decide)).trans h29, fun z => absurd z hw0, fun _ => ⟨fun j hj => (g j (by revert j; decide) (by revert j; decide)).trans (hk j hj), rXl_eq hTL (nz_fi (g 11 (by decide) (by decide))) (fun a h1 h2 => nz_fa (g a (by omega) (by first | (simp; done) | (simp; omega))))⟩⟩
/-- behind the cutting -/
theorem rq_45 (F3 : Nat → sy_d) (hB3 : iv_in F3 iv_B4) (hJ3 : jm_rpn F3) (i1 : (sy_i F3 1).toInt = 0) (L : Nat) (hm : pm (pf F3) (kf F3) L) (hTL : rXl TL F3) :
    hd_W Ls xs 8 jm_M150 (rq_Q X1 X2 (sEnd (pf F3) (prT (zRun (kf F3) (vf F3) (nf F3) 401 (0, 0, 0, [], (0, 0)) T0))) (cnT (zRun (kf F3) (vf F3) (nf F3) 401 (0, 0, 0, [], (0, 0)) T0)) TL F3) (45, sy_dL F3 [some (.inl (.ref 1000)), none], sy_dS F3 [], sy_dh F3 X1 X2 (iv_H 4), 0, 0) := by
  have c11 := nz_bx hB3 (k := 11) (lo := 0) (hi := 1) rfl
  refine rez_45 (by decide) F3 X1 X2 hB3 ?_
  intro F4 hb g e1 e2 e4 e5 e6 e7 e8 e9 e10 e11 e12 e13 e14 e15 e20 e21 a25 a26 a27 a31 a35 a67 a42 a43 a44 a45 a46 a47 a48 a49 a50 a39 a40 a41
  have u42 : ∀ i : Nat, (sy_ai F4 42).getD i 0 = if 6 * (1 - (sy_i F3 11).toInt) ≤ i ∧ (i : Int) < 6 * (1 - (sy_i F3 11).toInt) + 6 then 0 else (sy_ai F3 42).getD i 0 := fun i => by rw [a42]; exact u6_at _ _ (by omega) (by omega) i
  have u43 : ∀ i : Nat, (sy_ai F4 43).getD i 0 = if 6 * (1 - (sy_i F3 11).toInt) ≤ i ∧ (i : Int) < 6 * (1 - (sy_i F3 11).toInt) + 6 then 0 else (sy_ai F3 43).getD i 0 := fun i => by rw [a43]; exact u6_at _ _ (by omega) (by omega) i
  have z : (0 : Int32).toInt = 0 := by decide
  have f0 : ((sy_ai F4 31).getD (sy_i F4 12).toInt.toNat 0).toInt = 0 := by rw [a31, e12, jm_upd_at, if_pos rfl, z]
  have b0 : ((sy_ai F4 35).getD (sy_i F4 12).toInt.toNat 0).toInt = 0 := by rw [a35, e12, jm_upd_at, if_pos rfl, z]
  have t0 : tn F4 = 0 := by unfold tn; rw [e4]; rfl
  have s4 : sdf F4 = (1 - (sy_i F3 11).toInt).toNat := by unfold sdf; rw [e12]
  have hX0 : rX T0 F4 := by
    refine ⟨⟨f0, fun i v hv => absurd hv (by simp [T0])⟩, ⟨b0, fun i v hv => absurd hv (by simp [T0])⟩, ?_, ?_, ?_, fun k hk => ?_⟩
    · unfold ix; rw [s4, a39, jm_upd_at, if_pos rfl]; decide
    · unfold ix; rw [s4, a40, jm_upd_at, if_pos rfl]; decide
    · unfold ix; rw [s4, a41, jm_upd_at, if_pos rfl]; decide
    · show ix F4 42 _ = ix F4 43 _
      unfold ix
      rw [u42, u43, s4, if_pos (by omega), if_pos (by omega)]
  have hTL4 : rXl TL F4 := by
    obtain ⟨G, hG⟩ : ∃ G : Nat → sy_d, G = fun j => if j = 12 then F4 12 else F3 j := ⟨_, rfl⟩
    have G12 : G 12 = F4 12 := by rw [hG]; exact if_pos rfl
    have Gn : ∀ j, j ≠ 12 → G j = F3 j := fun j hj => by rw [hG]; exact if_neg hj
    have i12 : (sy_i G 12).toInt = 1 - (sy_i F3 11).toInt := by rw [nz_fi G12]; exact e12
    have hBG : iv_in G iv_B4 := fun j q hj => by
      by_cases z : j = 12
      · rw [z, G12]
        exact hb 12 q (by rw [← z]; exact hj)
      · rw [Gn j z]
        exact hB3 j q hj
    refine oth_live (F := G) hBG (by rw [i12, nz_fi (Gn 11 (by decide))]) (jm_rpn_eq (fun q hq => Gn q (by revert q; decide)) hJ3) ⟨G12.symm, ((g 11 (by decide) (by decide)).trans (Gn 11 (by decide)).symm), fun i hi => ?_, fun i _ => ⟨?_, ?_, ?_⟩, fun i _ => ⟨?_, ?_, ?_⟩, fun i hi => ⟨?_, ?_⟩, fun b _ => ?_, fun i _ => ⟨?_, ?_⟩⟩ (rXl_eq hTL (nz_fi (Gn 11 (by decide))) (fun a h1 h2 => nz_fa (Gn a (by omega))))
    · rw [i12] at hi
      unfold ix
      rw [a31, a35, a39, a40, a41, jm_upd_at, jm_upd_at, jm_upd_at, jm_upd_at, jm_upd_at, if_neg (by omega), if_neg (by omega), if_neg (by omega), if_neg (by omega), if_neg (by omega), nz_fa (Gn 31 (by decide)), nz_fa (Gn 35 (by decide)), nz_fa (Gn 39 (by decide)), nz_fa (Gn 40 (by decide)), nz_fa (Gn 41 (by decide))]
      exact ⟨rfl, rfl, rfl, rfl, rfl⟩
    · exact (ix_eq (nz_fa (g 32 (by decide) (by decide))) i).trans (ix_eq (nz_fa (Gn 32 (by decide))) i).symm
    · exact (ix_eq (nz_fa (g 33 (by decide) (by decide))) i).trans (ix_eq (nz_fa (Gn 33 (by decide))) i).symm
    · exact (ix_eq (nz_fa (g 34 (by decide) (by decide))) i).trans (ix_eq (nz_fa (Gn 34 (by decide))) i).symm
    · exact (ix_eq (nz_fa (g 36 (by decide) (by decide))) i).trans (ix_eq (nz_fa (Gn 36 (by decide))) i).symm
    · exact (ix_eq (nz_fa (g 37 (by decide) (by decide))) i).trans (ix_eq (nz_fa (Gn 37 (by decide))) i).symm
    · exact (ix_eq (nz_fa (g 38 (by decide) (by decide))) i).trans (ix_eq (nz_fa (Gn 38 (by decide))) i).symm
    · rw [i12] at hi
      unfold ix
      rw [u42, if_neg (by omega), nz_fa (Gn 42 (by decide))]
    · rw [i12] at hi
      unfold ix
      rw [u43, if_neg (by omega), nz_fa (Gn 43 (by decide))]
    · exact s5_same (a44.trans (nz_fa (Gn 44 (by decide))).symm) (a45.trans (nz_fa (Gn 45 (by decide))).symm) (a46.trans (nz_fa (Gn 46 (by decide))).symm) (a47.trans (nz_fa (Gn 47 (by decide))).symm) (a48.trans (nz_fa (Gn 48 (by decide))).symm) b
    · rw [a49, nz_fa (Gn 49 (by decide))]
    · rw [a50, nz_fa (Gn 50 (by decide))]
  refine rq_loop X1 X2 TL F3 (kf F3) (vf F3) (pf F3) (nf F3) L _ 401 F4 ⟨hb, by omega, ?_, fun _ => ⟨?_, by omega, by omega, by omega, by omega, by rw [f0, b0, e13]; rfl, e5⟩⟩ (by omega) (fun _ => by omega) ⟨⟨kf_eq (g 25 (by decide) (by decide)), vf_eq (g 27 (by decide) (by decide)), nf_eq (g 28 (by decide) (by decide)), pf_eq (g 26 (by decide) (by decide))⟩, hm, fun _ => ⟨401, (0, 0, 0, [], (0, 0)), T0, by omega, ⟨t0, Nat.zero_le _, f0, b0, ?_, ⟨e8, (show (0 : Int) ≤ 0 by decide), fun q => absurd rfl q⟩⟩, rfl, hX0⟩, fun q => absurd e6 q⟩ (fun j hj => g j (by revert j; decide) (by revert j; decide)) (g 29 (by decide) (by decide)) hTL4
  · have e : (sy_i F4 11).toNatClampNeg = (sy_i F3 11).toInt.toNat := by
      show (sy_i F4 11).toInt.toNat = _
      rw [e11]
    have hr' : rp_S F3 (sy_i F3 11).toInt.toNat (130 * (sy_i F3 11).toInt.toNat + 130) (420 * (sy_i F3 11).toInt.toNat + 420) := hJ3
    unfold jm_rpn
    rw [e]
    exact rp_S_keep hr' (fun k hk => by rw [u42, u43, if_neg (by omega), if_neg (by omega)]; exact ⟨rfl, rfl⟩) (fun b _ _ => s5_same a44 a45 a46 a47 a48 b) (fun i _ _ => by rw [a49, a50]; exact ⟨rfl, rfl⟩) (Int.le_refl _) (Int.le_refl _)
  · intro k b hk q1 q2
    rw [u43, if_pos (by omega), z] at q2
    omega
  · show [] = ml F4 (sy_i F4 13).toInt.toNat
    rw [e13]
    rfl
theorem rq_42 (F0 F : Nat → sy_d) (hTL : rXl TL F0) (hJ0 : jm_rpn F0) (hw : sy_al F0 29 = wls) {t : Nat} (hB : iv_in F iv_B4) (hF : ∀ j, j < 69 → j ∉ ([1, 2, 24] : List Nat) → F j = F0 j) (h1 : (sy_i F 1).toInt = 0) (h2 : (sy_i F 2).toInt = t) (h24 : ub (sy_ai F 24) t = ub (sy_ai F0 23) t) :
    hd_W Ls xs 8 jm_M150 (rq_Q X1 X2 (rdA (ub (sy_ai F0 23) t) t) (rdT (ub (sy_ai F0 23) t) t) TL F0) (42, sy_dL F [some (.inl (.ref 1000)), none], sy_dS F [.inl (.ref 1000)], sy_dh F X1 X2 (iv_H 4), 0, 0) := by
  refine hd_calV (R := fun F' => iv_in F' iv_B4 ∧ (∀ j, j < 69 → j ∉ WU → F' j = F j) ∧ ∃ L : Nat, L ≤ 400 ∧ (∀ j, j ≤ L → tf_ F F' j) ∧ (∀ j, j < L → kf F' j ≠ 0) ∧ (kf F' L = 0 ∨ L = 400)) (nh := 69) (nv := 69) (s := 4) (s1 := 4) (d1 := 5) (M1 := jm_M142) (As := [.inl (.ref 1000)]) (rest := []) jm_ok150 rfl rfl (by decide) (by decide +kernel) (rc_T X1 X2 hB) (fun F3 F' hR p1 _ => ?_)
  obtain ⟨r1, r2, L, r3, r4, r5, r6⟩ := hR
  have gg : ∀ j, j < 69 → j ∉ WU → j ∉ ([1, 2, 24] : List Nat) → F3 j = F0 j := fun j hj h1 h2 => (p1 j hj).trans ((r2 j hj h1).trans (hF j hj h2))
  have hz : zf F = t := by unfold zf; rw [h2]; rfl
  have hbf : bf F = ub (sy_ai F0 23) t := by unfold bf; rw [hz, h24]
  have hwf : wf F = fun k => wls.getD k 0 := by
    funext k
    unfold wf
    rw [nz_fl (hF 29 (by decide) (by decide)), hw]
  have e1 := kf_eq (p1 25 (by decide))
  have e2 := pf_eq (p1 26 (by decide))
  have e3 := vf_eq (p1 27 (by decide))
  have e4 := nf_eq (p1 28 (by decide))
  have tt : ∀ j, j ≤ L → tk (ub (sy_ai F0 23) t) t (wf F) (kf F3) (pf F3) (vf F3) (nf F3) j := fun j hj => by
    have := r4 j hj
    unfold tf_ at this
    rw [e1, e2, e3, e4]
    rw [hbf, hz] at this
    exact this
  rw [← e1] at r5 r6
  have hA := rd_same hwf tt (by rcases r6 with z | z; exact Or.inl z; exact Or.inr (Or.inr z))
  have hT := rd_sameT hwf tt (by rcases r6 with z | z; exact Or.inl z; exact Or.inr (Or.inr z))
  rw [← hA, ← hT]
  have gk : ∀ j, j ∈ KR → F3 j = F0 j := fun j hj => gg j (by revert j; decide) (by revert j; decide) (by revert j; decide)
  refine hd_mono (rq_45 X1 X2 TL F3 (hd_iveq r1 p1) (jm_rpn_eq (fun q hq => gg q (by revert q; decide) (by revert q; decide) (by revert q; decide)) hJ0) (by rw [nz_fi (p1 1 (by decide)), nz_fi (r2 1 (by decide) (by decide))]; exact h1) L ⟨tk_pm tt r5, r6, r3⟩ (rXl_eq hTL (nz_fi (gg 11 (by decide) (by decide) (by decide))) (fun a h1 h2 => nz_fa (gg a (by omega) (by simp; omega) (by simp; omega))))) ?_
  intro v G hq
  rw [prT_Run] at hq
  exact rq_mono hq gk (gg 29 (by decide) (by decide) (by decide))
theorem rq_L (F0 : Nat → sy_d) (hTL : rXl TL F0) (hB0 : iv_in F0 iv_B4) (hJ0 : jm_rpn F0) (hw : sy_al F0 29 = wls) {t : Nat} (ht : t ≤ 2000) : ∀ (m : Nat) (F : Nat → sy_d) (k : Nat), t - k < m → k ≤ t → iv_in F iv_B4 → (∀ j, j < 69 → j ∉ ([2, 24] : List Nat) → F j = F0 j) → (sy_i F 2).toInt = t → (sy_i F 69).toInt = k → (∀ j, j < k → (sy_ai F 24).getD j 0 = (sy_ai F0 23).getD j 0) →
    hd_W Ls xs 8 jm_M150 (rq_Q X1 X2 (rdA (ub (sy_ai F0 23) t) t) (rdT (ub (sy_ai F0 23) t) t) TL F0) (10, sy_dL F [some (.inl (.ref 1000)), some (.inr (.inl 69))], sy_dS F [], sy_dh F X1 X2 (iv_H 4), 0, 0) := by
  intro m
  induction m with
  | zero => intro F k hm; omega
  | succ m ih =>
    intro F k hm hk hB hF h2 h69 hc
    refine rt_10 (by decide) F X1 X2 hB ?_ ?_ ?_
    · omega
    · intro q F1 hb g e1 e2 a23 a24
      refine rq_42 X1 X2 TL F0 F1 hTL hJ0 hw hb (fun j hj hn => ?_) e1 (by omega) ?_
      · exact (g j hj (fun q => hn (by revert q; simp; omega))).trans (hF j hj (fun q => hn (by revert q; simp; omega)))
      · funext i
        unfold ub
        rw [a24]
        split
        · rw [hc i (by omega)]
        · rfl
    · intro q F1 hb g e1 e2 a23 a24 f69
      refine ih F1 (k + 1) (by omega) (by omega) hb (fun j hj hn => ?_) (by omega) (by omega) (fun j hj => ?_)
      · exact (g j hj (fun q => hn (by revert q; simp; omega))).trans (hF j hj hn)
      · rw [a24, jm_upd_at, h69, Int.toNat_natCast]
        split
        · rename_i z
          rw [nz_fa (hF 23 (by decide) (by decide)), z]
          exact b8i _ (nz_ba hB0 (k := 23) (lo := -128) (hi := 127) rfl _)
        · exact hc j (by omega)
/-- read -/
theorem rrd_V (F : Nat → sy_d) (hB : iv_in F iv_B4) (hJ : jm_rpn F) (hw : sy_al F 29 = wls) (hTL : rXl TL F) : jm_T Ls xs 8 jm_M150 [.ref 1000] (sy_dh F X1 X2 (iv_H 4)) 0 0 (rq_Q X1 X2 (rdA (ub (sy_ai F 23) (sy_i F 1).toInt.toNat) (sy_i F 1).toInt.toNat) (rdT (ub (sy_ai F 23) (sy_i F 1).toInt.toNat) (sy_i F 1).toInt.toNat) TL F) := by
  have c1 := nz_bx hB (k := 1) (lo := 0) (hi := 2000) rfl
  refine nz_T0 jm_ok150 (by decide) (rt_0 (by decide) F X1 X2 hB ?_)
  intro F1 hb g e1 e2 a23 a24 f69
  exact rq_L X1 X2 TL F hTL hB hJ hw (t := (sy_i F 1).toInt.toNat) (by omega) 2001 F1 0 (by omega) (by omega) hb (fun j hj hn => g j hj (fun q => hn (by revert q; simp; omega))) (by omega) (by omega) (fun j hj => absurd hj (Nat.not_lt_zero _))
end RQ
end
