/-! ===== the class: wind, bounces, way by way (shape 1) ===== -/
theorem j1sh_0_p0 {Ls : Nat} {xs : Nat → Int32} {d : Nat} {Q : Option Value → jm_h → Prop} (hd : 1 ≤ d) (F : Nat → sy_d) (X1 X2 : List jm_c) (hB : iv_in F iv_B0)
    (k : ∀ F1 : Nat → sy_d, (∀ j, j < 82 → j ≠ 45 → F1 j = F j) → F1 45 = .inr (.inl (jm_upd (jm_upd (sy_ai F 45) ((2 : Int32)).toNatClampNeg (sy_i F 82)) ((8 : Int32)).toNatClampNeg (sy_i F 83))) → hd_W Ls xs d jm_M17 Q (23, sy_dL F1 [none, none, none, none], sy_dS F1 [.inl (.int 0), .inl (.ref 10), .inl (.ref 38), .inl (.int 3), .inl (.ref 39)], sy_dh F1 X1 X2 (iv_H 1), 0, 0)) :
    hd_W Ls xs d jm_M17 Q (0, sy_dL F [some (.inl (.ref 38)), some (.inl (.ref 10)), some (.inr (.inl 82)), some (.inr (.inl 83))], sy_dS F [], sy_dh F X1 X2 (iv_H 1), 0, 0) := by
  refine hd_run (s := 1) (nv := 84) (pc := 23) (L := [none, none, none, none]) (S := [.inl (.int 0), .inl (.ref 10), .inl (.ref 38), .inl (.int 3), .inl (.ref 39)]) (uh := hd_ov (iv_id 0 iv_B0) [(45, .inr (.inr (.inl 85)))]) (ul := []) (f := true) (sp := [23]) (d0 := 0) (O := []) (T := [(40, [.inl (.int 2), .inr (.inl 82)], [.inr (.inl 45)]), (40, [.inl (.int 8), .inr (.inl 83)], [.inr (.inl 84)])]) (P := []) jm_ok17 (by decide +kernel) (by decide +kernel) hd F X1 X2 (fun F' hF hs => ?_)
  have b83 := hd_b (F := F) (F' := F') (k := 83) (hF 83 (by decide))
  have b82 := hd_b (F := F) (F' := F') (k := 82) (hF 82 (by decide))
  have a45 := hd_ba (F := F) (F' := F') (k := 45) (hF 45 (by decide))
  have t84 : sy_da F' (.inr (.inl 84)) = .inl (jm_upd (sy_ai F 45) ((2 : Int32)).toNatClampNeg (sy_i F 82)) := hd_up (hs 0 _ rfl) rfl b82 a45
  have t85 : sy_da F' (.inr (.inl 85)) = .inl (jm_upd (jm_upd (sy_ai F 45) ((2 : Int32)).toNatClampNeg (sy_i F 82)) ((8 : Int32)).toNatClampNeg (sy_i F 83)) := hd_up (hs 1 _ rfl) rfl b83 t84
  have hB' : iv_in F' iv_B0 := iv_in_eq hB (fun j hj => hF j (Nat.lt_of_lt_of_le hj (by decide +kernel)))
  refine ⟨fun _ h => absurd h List.not_mem_nil, ?_⟩
  refine k _ ?_ ?_
  · exact fun j hj hn => (hd_keep hB' (Nat.lt_of_lt_of_le hj (by decide +kernel)) (by simp; omega)).trans (hF j (by omega))
  · exact hd_ga (a := .inr (.inl 85)) (by decide +kernel) t85
theorem j1sh_0 {Ls : Nat} {xs : Nat → Int32} {d : Nat} {Q : Option Value → jm_h → Prop} (hd : 1 ≤ d) (F : Nat → sy_d) (X1 X2 : List jm_c) (hB : iv_in F iv_B0)
    (k0 : ∀ F1 : Nat → sy_d, iv_in F1 iv_B0 → (∀ j, j < 82 → j ∉ ([45] : List Nat) → F1 j = F j) → sy_ai F1 45 = jm_upd (jm_upd (sy_ai F 45) (2 : Int).toNat (sy_i F 82)) (8 : Int).toNat (sy_i F 83) → hd_W Ls xs d jm_M17 Q (23, sy_dL F1 [none, none, none, none], sy_dS F1 [.inl (.int 0), .inl (.ref 10), .inl (.ref 38), .inl (.int 3), .inl (.ref 39)], sy_dh F1 X1 X2 (iv_H 1), 0, 0)) :
    hd_W Ls xs d jm_M17 Q (0, sy_dL F [some (.inl (.ref 38)), some (.inl (.ref 10)), some (.inr (.inl 82)), some (.inr (.inl 83))], sy_dS F [], sy_dh F X1 X2 (iv_H 1), 0, 0) := by
  have w85 : jm_upd (jm_upd (sy_ai F 45) ((2 : Int32)).toNatClampNeg (sy_i F 82)) ((8 : Int32)).toNatClampNeg (sy_i F 83) = jm_upd (jm_upd (sy_ai F 45) (2 : Int).toNat (sy_i F 82)) (8 : Int).toNat (sy_i F 83) := by simp only [nz_c, (by decide : ((2 : Int32)).toInt = 2), (by decide : ((8 : Int32)).toInt = 8)]
  exact j1sh_0_p0 hd F X1 X2 hB  (fun F1 g e45 => k0 F1 (nz_in0 hB [45] (fun j hj hn => g j hj (by simp only [List.mem_cons, List.not_mem_nil, or_false, not_or] at hn; omega)) (List.forall_mem_cons.mpr ⟨fun t ht => (Option.some.inj ht) ▸ (nz_hz2 e45), List.forall_mem_nil _⟩)) (fun j hj hn => g j hj (by simp only [List.mem_cons, List.not_mem_nil, or_false, not_or] at hn; omega)) ((zz_ai e45).trans w85))
theorem j1sh_26_p0 {Ls : Nat} {xs : Nat → Int32} {d : Nat} {Q : Option Value → jm_h → Prop} (hd : 1 ≤ d) (F : Nat → sy_d) (X1 X2 : List jm_c) (hB : iv_in F iv_B0)
    (k : ∀ F1 : Nat → sy_d, (∀ j, j < 82 → j ≠ 45 → F1 j = F j) → F1 45 = .inr (.inl (jm_upd (sy_ai F 45) ((3 : Int32)).toNatClampNeg (sy_i F 82))) → Q (none) (sy_dh F1 X1 X2 (iv_H 1))) :
    hd_W Ls xs d jm_M17 Q (26, sy_dL F [none, none, none, none], sy_dS F [.inr (.inl 82), .inl (.int 3), .inl (.ref 39)], sy_dh F X1 X2 (iv_H 1), 0, 0) := by
  refine hd_ret (s := 1) (nv := 83) (v := none) (uh := hd_ov (iv_id 0 iv_B0) [(45, .inr (.inr (.inl 83)))]) (f := false) (sp := []) (d0 := 0) (O := []) (T := [(40, [.inl (.int 3), .inr (.inl 82)], [.inr (.inl 45)])]) (P := []) jm_ok17 (by decide +kernel) (by decide +kernel) hd F X1 X2 (fun F' hF hs => ?_)
  have b82 := hd_b (F := F) (F' := F') (k := 82) (hF 82 (by decide))
  have a45 := hd_ba (F := F) (F' := F') (k := 45) (hF 45 (by decide))
  have t83 : sy_da F' (.inr (.inl 83)) = .inl (jm_upd (sy_ai F 45) ((3 : Int32)).toNatClampNeg (sy_i F 82)) := hd_up (hs 0 _ rfl) rfl b82 a45
  have hB' : iv_in F' iv_B0 := iv_in_eq hB (fun j hj => hF j (Nat.lt_of_lt_of_le hj (by decide +kernel)))
  refine ⟨fun _ h => absurd h List.not_mem_nil, ?_⟩
  refine k _ ?_ ?_
  · exact fun j hj hn => (hd_keep hB' (Nat.lt_of_lt_of_le hj (by decide +kernel)) (by simp; omega)).trans (hF j (by omega))
  · exact hd_ga (a := .inr (.inl 83)) (by decide +kernel) t83
theorem j1sh_26 {Ls : Nat} {xs : Nat → Int32} {d : Nat} {Q : Option Value → jm_h → Prop} (hd : 1 ≤ d) (F : Nat → sy_d) (X1 X2 : List jm_c) (hB : iv_in F iv_B0)
    (k0 : ∀ F1 : Nat → sy_d, iv_in F1 iv_B0 → (∀ j, j < 82 → j ∉ ([45] : List Nat) → F1 j = F j) → sy_ai F1 45 = jm_upd (sy_ai F 45) (3 : Int).toNat (sy_i F 82) → Q (none) (sy_dh F1 X1 X2 (iv_H 1))) :
    hd_W Ls xs d jm_M17 Q (26, sy_dL F [none, none, none, none], sy_dS F [.inr (.inl 82), .inl (.int 3), .inl (.ref 39)], sy_dh F X1 X2 (iv_H 1), 0, 0) := by
  have w83 : jm_upd (sy_ai F 45) ((3 : Int32)).toNatClampNeg (sy_i F 82) = jm_upd (sy_ai F 45) (3 : Int).toNat (sy_i F 82) := by simp only [nz_c, (by decide : ((3 : Int32)).toInt = 3)]
  exact j1sh_26_p0 hd F X1 X2 hB  (fun F1 g e45 => k0 F1 (nz_in0 hB [45] (fun j hj hn => g j hj (by simp only [List.mem_cons, List.not_mem_nil, or_false, not_or] at hn; omega)) (List.forall_mem_cons.mpr ⟨fun t ht => (Option.some.inj ht) ▸ (nz_hz2 e45), List.forall_mem_nil _⟩)) (fun j hj hn => g j hj (by simp only [List.mem_cons, List.not_mem_nil, or_false, not_or] at hn; omega)) ((zz_ai e45).trans w83))
theorem j1bo_0_p0 {Ls : Nat} {xs : Nat → Int32} {d : Nat} {Q : Option Value → jm_h → Prop} (hd : 1 ≤ d) (F : Nat → sy_d) (X1 X2 : List jm_c) (hB : iv_in F iv_B0)
    (h0 : 0 ≤ (sy_i F 82).toInt ∧ (sy_i F 82).toInt < 7)
    (k : ∀ F1 : Nat → sy_d, (∀ j, j < 82 → True → F1 j = F j) → F1 82 = .inl (.int ((sy_ai F 9).getD (sy_i F 82).toNatClampNeg 0)) → hd_W Ls xs d jm_M20 Q (9, sy_dL F1 [none, none, none], sy_dS F1 [.inl (.int 4), .inl (.ref 10), .inl (.ref 38), .inr (.inl 82)], sy_dh F1 X1 X2 (iv_H 1), 0, 0)) :
    hd_W Ls xs d jm_M20 Q (0, sy_dL F [some (.inl (.ref 38)), some (.inl (.ref 10)), some (.inr (.inl 82))], sy_dS F [], sy_dh F X1 X2 (iv_H 1), 0, 0) := by
  refine hd_run (s := 1) (nv := 83) (pc := 9) (L := [none, none, none]) (S := [.inl (.int 4), .inl (.ref 10), .inl (.ref 38), .inr (.inl 82)]) (uh := hd_ov (iv_id 0 iv_B0) []) (ul := [.inl (.inr (.inl 83))]) (f := true) (sp := [9]) (d0 := 0) (O := []) (T := [(30, [.inr (.inl 82)], [.inr (.inl 9)])]) (P := [(6, .inr (.inl 82), .inl (.ref 7))]) jm_ok20 (by decide +kernel) (by decide +kernel) hd F X1 X2 (fun F' hF hs => ?_)
  have b82 := hd_b (F := F) (F' := F') (k := 82) (hF 82 (by decide))
  have a9 := hd_ba (F := F) (F' := F') (k := 9) (hF 9 (by decide))
  have t83 : sy_dv F' (.inr (.inl 83)) = .int ((sy_ai F 9).getD (sy_i F 82).toNatClampNeg 0) := hd_rd (hs 0 _ rfl) b82 a9
  have hB' : iv_in F' iv_B0 := iv_in_eq hB (fun j hj => hF j (Nat.lt_of_lt_of_le hj (by decide +kernel)))
  refine ⟨List.forall_mem_cons.mpr ⟨hd_pb b82 (by first | exact h0 | exact h0), fun _ h => absurd h List.not_mem_nil⟩, ?_⟩
  refine k _ ?_ ?_
  · exact fun j hj _ => (hd_keep hB' (Nat.lt_of_lt_of_le hj (by decide +kernel)) (by simp)).trans (hF j (by omega))
  · exact hd_gi (x := .inr (.inl 83)) (by decide +kernel) t83
theorem j1bo_0 {Ls : Nat} {xs : Nat → Int32} {d : Nat} {Q : Option Value → jm_h → Prop} (hd : 1 ≤ d) (F : Nat → sy_d) (X1 X2 : List jm_c) (hB : iv_in F iv_B0)
    (a82 : 0 ≤ (sy_i F 82).toInt ∧ (sy_i F 82).toInt ≤ 6)
    (k0 : ∀ F1 : Nat → sy_d, iv_in F1 iv_B0 → (∀ j, j < 82 → j ∉ ([] : List Nat) → F1 j = F j) → (sy_i F1 82).toInt = ((sy_ai F 9).getD ((sy_i F 82).toInt).toNat 0).toInt → sy_i F1 82 = (sy_ai F 9).getD ((sy_i F 82).toInt).toNat 0 → hd_W Ls xs d jm_M20 Q (9, sy_dL F1 [none, none, none], sy_dS F1 [.inl (.int 4), .inl (.ref 10), .inl (.ref 38), .inr (.inl 82)], sy_dh F1 X1 X2 (iv_H 1), 0, 0)) :
    hd_W Ls xs d jm_M20 Q (0, sy_dL F [some (.inl (.ref 38)), some (.inl (.ref 10)), some (.inr (.inl 82))], sy_dS F [], sy_dh F X1 X2 (iv_H 1), 0, 0) := by
  have q83 : (sy_ai F 9).getD (sy_i F 82).toNatClampNeg 0 = (sy_ai F 9).getD ((sy_i F 82).toInt).toNat 0 := by simp only [nz_c]
  have n83 : nzI ((sy_ai F 9).getD (sy_i F 82).toNatClampNeg 0) (((sy_ai F 9).getD ((sy_i F 82).toInt).toNat 0).toInt) := congrArg Int32.toInt q83
  exact j1bo_0_p0 hd F X1 X2 hB (by first | exact ⟨by omega, by omega⟩ | (simp only [nz_c]; exact ⟨by omega, by omega⟩)) (fun F1 g e82 => k0 F1 (nz_in0 hB [] (fun j hj hn => g j hj (by simp only [List.mem_cons, List.not_mem_nil, or_false, not_or] at hn; exact trivial)) (List.forall_mem_nil _)) (fun j hj hn => g j hj (by simp only [List.mem_cons, List.not_mem_nil, or_false, not_or] at hn; exact trivial)) ((congrArg Int32.toInt (zz_i e82)).trans (nzE n83)) ((zz_i e82).trans q83))
theorem j1bo_12_p0 {Ls : Nat} {xs : Nat → Int32} {d : Nat} {Q : Option Value → jm_h → Prop} (hd : 3 ≤ d) (F : Nat → sy_d) (X1 X2 : List jm_c) (hB : iv_in F iv_B0)
    (h0 : ((sy_i F 82) + (sy_i F 83)).toInt < 9)
    (h1 : 0 < ((sy_i F 82) + (sy_i F 83)).toInt)
    (k : ∀ F1 : Nat → sy_d, (∀ j, j < 82 → True → F1 j = F j) → Q (some (.int ((sy_i F 82) + (sy_i F 83)))) (sy_dh F1 X1 X2 (iv_H 1))) :
    hd_W Ls xs d jm_M20 Q (12, sy_dL F [none, none, none], sy_dS F [.inr (.inl 83), .inr (.inl 82)], sy_dh F X1 X2 (iv_H 1), 0, 0) := by
  refine hd_ret (s := 1) (nv := 84) (v := some (.inr (.inl 84))) (uh := hd_ov (iv_id 0 iv_B0) []) (f := false) (sp := []) (d0 := 2) (O := [true, true]) (T := [(0, [.inr (.inl 82), .inr (.inl 83)], [])]) (P := [(2, .inr (.inl 84), .inl (.int 9)), (2, .inl (.int 0), .inr (.inl 84))]) jm_ok20 (by decide +kernel) (by decide +kernel) hd F X1 X2 (fun F' hF hs => ?_)
  have b82 := hd_b (F := F) (F' := F') (k := 82) (hF 82 (by decide))
  have b83 := hd_b (F := F) (F' := F') (k := 83) (hF 83 (by decide))
  have t84 : sy_dv F' (.inr (.inl 84)) = .int ((sy_i F 82) + (sy_i F 83)) := hd_o (hs 0 _ rfl) b82 b83 rfl
  have hB' : iv_in F' iv_B0 := iv_in_eq hB (fun j hj => hF j (Nat.lt_of_lt_of_le hj (by decide +kernel)))
  have hk := k (sy_cm F' (hd_ov (iv_id 0 iv_B0) [] ++ [])) (fun j hj _ => (hd_keep hB' (Nat.lt_of_lt_of_le hj (by decide +kernel)) (by simp)).trans (hF j (by omega)))
  refine ⟨List.forall_mem_cons.mpr ⟨hd_p2 t84 rfl (by have hc : ((9) : Int32).toInt = 9 := (by decide); omega), List.forall_mem_cons.mpr ⟨hd_p2 rfl t84 (by have hc : ((0) : Int32).toInt = 0 := (by decide); omega), fun _ h => absurd h List.not_mem_nil⟩⟩, ?_⟩
  show Q (some (sy_dv F' (.inr (.inl 84)))) _
  rw [t84]
  exact hk
theorem j1bo_12_p1 {Ls : Nat} {xs : Nat → Int32} {d : Nat} {Q : Option Value → jm_h → Prop} (hd : 3 ≤ d) (F : Nat → sy_d) (X1 X2 : List jm_c) (hB : iv_in F iv_B0)
    (h0 : ((sy_i F 82) + (sy_i F 83)).toInt < 9)
    (h1 : ((sy_i F 82) + (sy_i F 83)).toInt ≤ 0)
    (k : ∀ F1 : Nat → sy_d, (∀ j, j < 82 → True → F1 j = F j) → Q (some (.int ((0 : Int32)))) (sy_dh F1 X1 X2 (iv_H 1))) :
    hd_W Ls xs d jm_M20 Q (12, sy_dL F [none, none, none], sy_dS F [.inr (.inl 83), .inr (.inl 82)], sy_dh F X1 X2 (iv_H 1), 0, 0) := by
  refine hd_ret (s := 1) (nv := 84) (v := some (.inl (.int 0))) (uh := hd_ov (iv_id 0 iv_B0) []) (f := false) (sp := []) (d0 := 2) (O := [true, false]) (T := [(0, [.inr (.inl 82), .inr (.inl 83)], [])]) (P := [(2, .inr (.inl 84), .inl (.int 9)), (3, .inl (.int 0), .inr (.inl 84))]) jm_ok20 (by decide +kernel) (by decide +kernel) hd F X1 X2 (fun F' hF hs => ?_)
  have b82 := hd_b (F := F) (F' := F') (k := 82) (hF 82 (by decide))
  have b83 := hd_b (F := F) (F' := F') (k := 83) (hF 83 (by decide))
  have t84 : sy_dv F' (.inr (.inl 84)) = .int ((sy_i F 82) + (sy_i F 83)) := hd_o (hs 0 _ rfl) b82 b83 rfl
  have hB' : iv_in F' iv_B0 := iv_in_eq hB (fun j hj => hF j (Nat.lt_of_lt_of_le hj (by decide +kernel)))
  refine ⟨List.forall_mem_cons.mpr ⟨hd_p2 t84 rfl (by have hc : ((9) : Int32).toInt = 9 := (by decide); omega), List.forall_mem_cons.mpr ⟨hd_p3 rfl t84 (by have hc : ((0) : Int32).toInt = 0 := (by decide); omega), fun _ h => absurd h List.not_mem_nil⟩⟩, ?_⟩
  refine k _ ?_
  · exact fun j hj _ => (hd_keep hB' (Nat.lt_of_lt_of_le hj (by decide +kernel)) (by simp)).trans (hF j (by omega))
theorem j1bo_12_p2 {Ls : Nat} {xs : Nat → Int32} {d : Nat} {Q : Option Value → jm_h → Prop} (hd : 3 ≤ d) (F : Nat → sy_d) (X1 X2 : List jm_c) (hB : iv_in F iv_B0)
    (h0 : 9 ≤ ((sy_i F 82) + (sy_i F 83)).toInt)
    (k : ∀ F1 : Nat → sy_d, (∀ j, j < 82 → True → F1 j = F j) → Q (some (.int ((9 : Int32)))) (sy_dh F1 X1 X2 (iv_H 1))) :
    hd_W Ls xs d jm_M20 Q (12, sy_dL F [none, none, none], sy_dS F [.inr (.inl 83), .inr (.inl 82)], sy_dh F X1 X2 (iv_H 1), 0, 0) := by
  refine hd_ret (s := 1) (nv := 84) (v := some (.inl (.int 9))) (uh := hd_ov (iv_id 0 iv_B0) []) (f := false) (sp := []) (d0 := 2) (O := [false]) (T := [(0, [.inr (.inl 82), .inr (.inl 83)], [])]) (P := [(3, .inr (.inl 84), .inl (.int 9))]) jm_ok20 (by decide +kernel) (by decide +kernel) hd F X1 X2 (fun F' hF hs => ?_)
  have b82 := hd_b (F := F) (F' := F') (k := 82) (hF 82 (by decide))
  have b83 := hd_b (F := F) (F' := F') (k := 83) (hF 83 (by decide))
  have t84 : sy_dv F' (.inr (.inl 84)) = .int ((sy_i F 82) + (sy_i F 83)) := hd_o (hs 0 _ rfl) b82 b83 rfl
  have hB' : iv_in F' iv_B0 := iv_in_eq hB (fun j hj => hF j (Nat.lt_of_lt_of_le hj (by decide +kernel)))
  refine ⟨List.forall_mem_cons.mpr ⟨hd_p3 t84 rfl (by have hc : ((9) : Int32).toInt = 9 := (by decide); omega), fun _ h => absurd h List.not_mem_nil⟩, ?_⟩
  refine k _ ?_
  · exact fun j hj _ => (hd_keep hB' (Nat.lt_of_lt_of_le hj (by decide +kernel)) (by simp)).trans (hF j (by omega))
theorem j1bo_12 {Ls : Nat} {xs : Nat → Int32} {d : Nat} {Q : Option Value → jm_h → Prop} (hd : 3 ≤ d) (F : Nat → sy_d) (X1 X2 : List jm_c) (hB : iv_in F iv_B0)
    (k0 : ((sy_i F 82) + (sy_i F 83)).toInt < 9 → 0 < ((sy_i F 82) + (sy_i F 83)).toInt → ∀ F1 : Nat → sy_d, iv_in F1 iv_B0 → (∀ j, j < 82 → j ∉ ([] : List Nat) → F1 j = F j) → Q (some (.int ((sy_i F 82) + (sy_i F 83)))) (sy_dh F1 X1 X2 (iv_H 1)))
    (k1 : ((sy_i F 82) + (sy_i F 83)).toInt < 9 → ((sy_i F 82) + (sy_i F 83)).toInt ≤ 0 → ∀ F1 : Nat → sy_d, iv_in F1 iv_B0 → (∀ j, j < 82 → j ∉ ([] : List Nat) → F1 j = F j) → Q (some (.int ((0 : Int32)))) (sy_dh F1 X1 X2 (iv_H 1)))
    (k2 : 9 ≤ ((sy_i F 82) + (sy_i F 83)).toInt → ∀ F1 : Nat → sy_d, iv_in F1 iv_B0 → (∀ j, j < 82 → j ∉ ([] : List Nat) → F1 j = F j) → Q (some (.int ((9 : Int32)))) (sy_dh F1 X1 X2 (iv_H 1))) :
    hd_W Ls xs d jm_M20 Q (12, sy_dL F [none, none, none], sy_dS F [.inr (.inl 83), .inr (.inl 82)], sy_dh F X1 X2 (iv_H 1), 0, 0) := by
  by_cases g0 : ((sy_i F 82) + (sy_i F 83)).toInt < 9
  · by_cases g1 : 0 < ((sy_i F 82) + (sy_i F 83)).toInt
    · have n84 : nzI ((sy_i F 82) + (sy_i F 83)) (((sy_i F 82) + (sy_i F 83)).toInt) := congrArg Int32.toInt (rfl : (sy_i F 82) + (sy_i F 83) = (sy_i F 82) + (sy_i F 83))
      exact j1bo_12_p0 hd F X1 X2 hB (by first | exact g0 | (simp only [nz_c]; exact g0) | (rw [(nzE n84)]; exact g0)) (by first | exact g1 | (simp only [nz_c]; exact g1) | (rw [(nzE n84)]; exact g1)) (fun F1 g  => by rw [(rfl : (sy_i F 82) + (sy_i F 83) = (sy_i F 82) + (sy_i F 83))]; exact k0 g0 g1 F1 (nz_in0 hB [] (fun j hj hn => g j hj (by simp only [List.mem_cons, List.not_mem_nil, or_false, not_or] at hn; exact trivial)) (List.forall_mem_nil _)) (fun j hj hn => g j hj (by simp only [List.mem_cons, List.not_mem_nil, or_false, not_or] at hn; exact trivial)) )
    replace g1 : ((sy_i F 82) + (sy_i F 83)).toInt ≤ 0 := by omega
    have n84 : nzI ((sy_i F 82) + (sy_i F 83)) (((sy_i F 82) + (sy_i F 83)).toInt) := congrArg Int32.toInt (rfl : (sy_i F 82) + (sy_i F 83) = (sy_i F 82) + (sy_i F 83))
    exact j1bo_12_p1 hd F X1 X2 hB (by first | exact g0 | (simp only [nz_c]; exact g0) | (rw [(nzE n84)]; exact g0)) (by first | exact g1 | (simp only [nz_c]; exact g1) | (rw [(nzE n84)]; exact g1)) (fun F1 g  => k1 g0 g1 F1 (nz_in0 hB [] (fun j hj hn => g j hj (by simp only [List.mem_cons, List.not_mem_nil, or_false, not_or] at hn; exact trivial)) (List.forall_mem_nil _)) (fun j hj hn => g j hj (by simp only [List.mem_cons, List.not_mem_nil, or_false, not_or] at hn; exact trivial)) )
  replace g0 : 9 ≤ ((sy_i F 82) + (sy_i F 83)).toInt := by omega
  have n84 : nzI ((sy_i F 82) + (sy_i F 83)) (((sy_i F 82) + (sy_i F 83)).toInt) := congrArg Int32.toInt (rfl : (sy_i F 82) + (sy_i F 83) = (sy_i F 82) + (sy_i F 83))
  exact j1bo_12_p2 hd F X1 X2 hB (by first | exact g0 | (simp only [nz_c]; exact g0) | (rw [(nzE n84)]; exact g0)) (fun F1 g  => k2 g0 F1 (nz_in0 hB [] (fun j hj hn => g j hj (by simp only [List.mem_cons, List.not_mem_nil, or_false, not_or] at hn; exact trivial)) (List.forall_mem_nil _)) (fun j hj hn => g j hj (by simp only [List.mem_cons, List.not_mem_nil, or_false, not_or] at hn; exact trivial)) )
