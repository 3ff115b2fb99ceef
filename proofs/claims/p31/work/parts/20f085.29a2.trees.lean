section
/-! ===== the calls that change the ground, way by way (shape 2) ===== -/
theorem j2un_0_p0 {Ls : Nat} {xs : Nat → Int32} {d : Nat} {Q : Option Value → jm_h → Prop} (hd : 1 ≤ d) (F : Nat → sy_d) (X1 X2 : List jm_c) (hB : iv_in F iv_B0)
    (k : ∀ F1 : Nat → sy_d, (∀ j, j < 82 → True → F1 j = F j) → hd_W Ls xs d jm_M92 Q (8, sy_dL F1 [none], sy_dS F1 [.inl (.ref 46), .inl (.ref 66)], sy_dh F1 X1 X2 (iv_H 2), 0, 0)) :
    hd_W Ls xs d jm_M92 Q (0, sy_dL F [some (.inl (.ref 8))], sy_dS F [], sy_dh F X1 X2 (iv_H 2), 0, 0) := by
  refine hd_run (s := 2) (nv := 82) (pc := 8) (L := [none]) (S := [.inl (.ref 46), .inl (.ref 66)]) (uh := hd_ov (iv_id 0 iv_B0) []) (ul := []) (f := true) (sp := [8]) (d0 := 0) (O := []) (T := []) (P := []) jm_ok92 (by decide +kernel) (by decide +kernel) hd F X1 X2 (fun F' hF hs => ?_)
  have hB' : iv_in F' iv_B0 := iv_in_eq hB (fun j hj => hF j (Nat.lt_of_lt_of_le hj (by decide +kernel)))
  refine ⟨fun _ h => absurd h List.not_mem_nil, ?_⟩
  refine k _ ?_
  · exact fun j hj _ => (hd_keep hB' (Nat.lt_of_lt_of_le hj (by decide +kernel)) (by simp)).trans (hF j (Nat.lt_of_lt_of_le hj (by decide)))
theorem j2un_0 {Ls : Nat} {xs : Nat → Int32} {d : Nat} {Q : Option Value → jm_h → Prop} (hd : 1 ≤ d) (F : Nat → sy_d) (X1 X2 : List jm_c) (hB : iv_in F iv_B0)
    (k0 : ∀ F1 : Nat → sy_d, iv_in F1 iv_B0 → (∀ j, j < 82 → j ∉ ([] : List Nat) → F1 j = F j) → hd_W Ls xs d jm_M92 Q (8, sy_dL F1 [none], sy_dS F1 [.inl (.ref 46), .inl (.ref 66)], sy_dh F1 X1 X2 (iv_H 2), 0, 0)) :
    hd_W Ls xs d jm_M92 Q (0, sy_dL F [some (.inl (.ref 8))], sy_dS F [], sy_dh F X1 X2 (iv_H 2), 0, 0) := by
  exact j2un_0_p0 hd F X1 X2 hB  (fun F1 g  => k0 F1 (nz_in0 hB [] (fun j hj hn => g j hj (by simp only [List.mem_cons, List.not_mem_nil, or_false, not_or] at hn; exact trivial)) (List.forall_mem_nil _)) (fun j hj hn => g j hj (by simp only [List.mem_cons, List.not_mem_nil, or_false, not_or] at hn; exact trivial)) )
theorem j2un_11_p0 {Ls : Nat} {xs : Nat → Int32} {d : Nat} {Q : Option Value → jm_h → Prop} (hd : 1 ≤ d) (F : Nat → sy_d) (X1 X2 : List jm_c) (hB : iv_in F iv_B0)
    (h0 : (sy_i F 82).toInt = 0 ∨ (sy_i F 82).toInt = 1)
    (k : ∀ F1 : Nat → sy_d, (∀ j, j < 82 → True → F1 j = F j) → Q (some (.int (sy_i F 82))) (sy_dh F1 X1 X2 (iv_H 2))) :
    hd_W Ls xs d jm_M92 Q (11, sy_dL F [none], sy_dS F [.inr (.inl 82)], sy_dh F X1 X2 (iv_H 2), 0, 0) := by
  refine hd_ret (s := 2) (nv := 83) (v := some (.inr (.inl 82))) (uh := hd_ov (iv_id 0 iv_B0) []) (f := false) (sp := []) (d0 := 0) (O := []) (T := []) (P := [(6, .inr (.inl 82), .inl (.int 0))]) jm_ok92 (by decide +kernel) (by decide +kernel) hd F X1 X2 (fun F' hF hs => ?_)
  have b82 := hd_b (F := F) (F' := F') (k := 82) (hF 82 (by decide))
  have hB' : iv_in F' iv_B0 := iv_in_eq hB (fun j hj => hF j (Nat.lt_of_lt_of_le hj (by decide +kernel)))
  have hk := k (sy_cm F' (hd_ov (iv_id 0 iv_B0) [] ++ [])) (fun j hj _ => (hd_keep hB' (Nat.lt_of_lt_of_le hj (by decide +kernel)) (by simp)).trans (hF j (Nat.lt_of_lt_of_le hj (by decide))))
  refine ⟨List.forall_mem_cons.mpr ⟨hd_p6 b82 h0, fun _ h => absurd h List.not_mem_nil⟩, ?_⟩
  show Q (some (sy_dv F' (.inr (.inl 82)))) _
  rw [b82]
  exact hk
theorem j2un_11 {Ls : Nat} {xs : Nat → Int32} {d : Nat} {Q : Option Value → jm_h → Prop} (hd : 1 ≤ d) (F : Nat → sy_d) (X1 X2 : List jm_c) (hB : iv_in F iv_B0)
    (o0 : ((sy_i F 82).toInt = 0 ∨ (sy_i F 82).toInt = 1))
    (k0 : ∀ F1 : Nat → sy_d, iv_in F1 iv_B0 → (∀ j, j < 82 → j ∉ ([] : List Nat) → F1 j = F j) → Q (some (.int (sy_i F 82))) (sy_dh F1 X1 X2 (iv_H 2))) :
    hd_W Ls xs d jm_M92 Q (11, sy_dL F [none], sy_dS F [.inr (.inl 82)], sy_dh F X1 X2 (iv_H 2), 0, 0) := by
  exact j2un_11_p0 hd F X1 X2 hB (by first | exact (o0) | (simp only [nz_c]; exact (o0))) (fun F1 g  => by rw [(rfl : sy_i F 82 = sy_i F 82)]; exact k0 F1 (nz_in0 hB [] (fun j hj hn => g j hj (by simp only [List.mem_cons, List.not_mem_nil, or_false, not_or] at hn; exact trivial)) (List.forall_mem_nil _)) (fun j hj hn => g j hj (by simp only [List.mem_cons, List.not_mem_nil, or_false, not_or] at hn; exact trivial)) )
theorem j2hd_0_p0 {Ls : Nat} {xs : Nat → Int32} {d : Nat} {Q : Option Value → jm_h → Prop} (hd : 2 ≤ d) (F : Nat → sy_d) (X1 X2 : List jm_c) (hB : iv_in F iv_B0)
    (h0 : (sy_i F 82).toInt < 0)
    (k : ∀ F1 : Nat → sy_d, (∀ j, j < 82 → True → F1 j = F j) → Q (some (.int ((0 : Int32)))) (sy_dh F1 X1 X2 (iv_H 2))) :
    hd_W Ls xs d jm_M113 Q (0, sy_dL F [some (.inl (.ref 8)), some (.inr (.inl 82))], sy_dS F [], sy_dh F X1 X2 (iv_H 2), 0, 0) := by
  refine hd_ret (s := 2) (nv := 83) (v := some (.inl (.int 0))) (uh := hd_ov (iv_id 0 iv_B0) []) (f := true) (sp := [23]) (d0 := 1) (O := [true]) (T := []) (P := [(2, .inr (.inl 82), .inl (.int 0))]) jm_ok113 (by decide +kernel) (by decide +kernel) hd F X1 X2 (fun F' hF hs => ?_)
  have b82 := hd_b (F := F) (F' := F') (k := 82) (hF 82 (by decide))
  have hB' : iv_in F' iv_B0 := iv_in_eq hB (fun j hj => hF j (Nat.lt_of_lt_of_le hj (by decide +kernel)))
  refine ⟨List.forall_mem_cons.mpr ⟨hd_p2 b82 rfl (by have hc : ((0) : Int32).toInt = 0 := (by decide); omega), fun _ h => absurd h List.not_mem_nil⟩, ?_⟩
  refine k _ ?_
  · exact fun j hj _ => (hd_keep hB' (Nat.lt_of_lt_of_le hj (by decide +kernel)) (by simp)).trans (hF j (Nat.lt_of_lt_of_le hj (by decide)))
theorem j2hd_0_p1 {Ls : Nat} {xs : Nat → Int32} {d : Nat} {Q : Option Value → jm_h → Prop} (hd : 2 ≤ d) (F : Nat → sy_d) (X1 X2 : List jm_c) (hB : iv_in F iv_B0)
    (h0 : 0 ≤ (sy_i F 82).toInt)
    (h1 : 2 < (sy_i F 82).toInt)
    (k : ∀ F1 : Nat → sy_d, (∀ j, j < 82 → True → F1 j = F j) → Q (some (.int ((0 : Int32)))) (sy_dh F1 X1 X2 (iv_H 2))) :
    hd_W Ls xs d jm_M113 Q (0, sy_dL F [some (.inl (.ref 8)), some (.inr (.inl 82))], sy_dS F [], sy_dh F X1 X2 (iv_H 2), 0, 0) := by
  refine hd_ret (s := 2) (nv := 83) (v := some (.inl (.int 0))) (uh := hd_ov (iv_id 0 iv_B0) []) (f := true) (sp := [23]) (d0 := 1) (O := [false, true]) (T := []) (P := [(3, .inr (.inl 82), .inl (.int 0)), (2, .inl (.int 2), .inr (.inl 82))]) jm_ok113 (by decide +kernel) (by decide +kernel) hd F X1 X2 (fun F' hF hs => ?_)
  have b82 := hd_b (F := F) (F' := F') (k := 82) (hF 82 (by decide))
  have hB' : iv_in F' iv_B0 := iv_in_eq hB (fun j hj => hF j (Nat.lt_of_lt_of_le hj (by decide +kernel)))
  refine ⟨List.forall_mem_cons.mpr ⟨hd_p3 b82 rfl (by have hc : ((0) : Int32).toInt = 0 := (by decide); omega), List.forall_mem_cons.mpr ⟨hd_p2 rfl b82 (by have hc : ((2) : Int32).toInt = 2 := (by decide); omega), fun _ h => absurd h List.not_mem_nil⟩⟩, ?_⟩
  refine k _ ?_
  · exact fun j hj _ => (hd_keep hB' (Nat.lt_of_lt_of_le hj (by decide +kernel)) (by simp)).trans (hF j (Nat.lt_of_lt_of_le hj (by decide)))
theorem j2hd_0_p2 {Ls : Nat} {xs : Nat → Int32} {d : Nat} {Q : Option Value → jm_h → Prop} (hd : 2 ≤ d) (F : Nat → sy_d) (X1 X2 : List jm_c) (hB : iv_in F iv_B0)
    (h0 : 0 ≤ (sy_i F 82).toInt)
    (h1 : (sy_i F 82).toInt ≤ 2)
    (k : ∀ F1 : Nat → sy_d, (∀ j, j < 82 → True → F1 j = F j) → F1 82 = .inl (.int (sy_i F 82)) → F1 83 = .inl (.int ((sy_i F 82) * ((60 : Int32)))) → hd_W Ls xs d jm_M113 Q (23, sy_dL F1 [some (.inl (.ref 8)), some (.inr (.inl 82))], sy_dS F1 [.inr (.inl 83), .inl (.ref 68), .inl (.ref 46)], sy_dh F1 X1 X2 (iv_H 2), 0, 0)) :
    hd_W Ls xs d jm_M113 Q (0, sy_dL F [some (.inl (.ref 8)), some (.inr (.inl 82))], sy_dS F [], sy_dh F X1 X2 (iv_H 2), 0, 0) := by
  refine hd_run (s := 2) (nv := 83) (pc := 23) (L := [some (.inl (.ref 8)), some (.inr (.inl 82))]) (S := [.inr (.inl 83), .inl (.ref 68), .inl (.ref 46)]) (uh := hd_ov (iv_id 0 iv_B0) []) (ul := [.inl (.inr (.inl 82)), .inl (.inr (.inl 83))]) (f := true) (sp := [23]) (d0 := 1) (O := [false, false]) (T := [(2, [.inr (.inl 82), .inl (.int 60)], [])]) (P := [(3, .inr (.inl 82), .inl (.int 0)), (3, .inl (.int 2), .inr (.inl 82))]) jm_ok113 (by decide +kernel) (by decide +kernel) hd F X1 X2 (fun F' hF hs => ?_)
  have b82 := hd_b (F := F) (F' := F') (k := 82) (hF 82 (by decide))
  have t83 : sy_dv F' (.inr (.inl 83)) = .int ((sy_i F 82) * ((60 : Int32))) := hd_o (hs 0 _ rfl) b82 rfl rfl
  have hB' : iv_in F' iv_B0 := iv_in_eq hB (fun j hj => hF j (Nat.lt_of_lt_of_le hj (by decide +kernel)))
  refine ⟨List.forall_mem_cons.mpr ⟨hd_p3 b82 rfl (by have hc : ((0) : Int32).toInt = 0 := (by decide); omega), List.forall_mem_cons.mpr ⟨hd_p3 rfl b82 (by have hc : ((2) : Int32).toInt = 2 := (by decide); omega), fun _ h => absurd h List.not_mem_nil⟩⟩, ?_⟩
  refine k _ ?_ ?_ ?_
  · exact fun j hj _ => (hd_keep hB' (Nat.lt_of_lt_of_le hj (by decide +kernel)) (by simp)).trans (hF j (Nat.lt_of_lt_of_le hj (by decide)))
  · exact hd_gi (x := .inr (.inl 82)) (by decide +kernel) b82
  · exact hd_gi (x := .inr (.inl 83)) (by decide +kernel) t83
theorem j2hd_0 {Ls : Nat} {xs : Nat → Int32} {d : Nat} {Q : Option Value → jm_h → Prop} (hd : 2 ≤ d) (F : Nat → sy_d) (X1 X2 : List jm_c) (hB : iv_in F iv_B0)
    (k0 : (sy_i F 82).toInt < 0 → ∀ F1 : Nat → sy_d, iv_in F1 iv_B0 → (∀ j, j < 82 → j ∉ ([] : List Nat) → F1 j = F j) → Q (some (.int ((0 : Int32)))) (sy_dh F1 X1 X2 (iv_H 2)))
    (k1 : 0 ≤ (sy_i F 82).toInt → 2 < (sy_i F 82).toInt → ∀ F1 : Nat → sy_d, iv_in F1 iv_B0 → (∀ j, j < 82 → j ∉ ([] : List Nat) → F1 j = F j) → Q (some (.int ((0 : Int32)))) (sy_dh F1 X1 X2 (iv_H 2)))
    (k2 : 0 ≤ (sy_i F 82).toInt → (sy_i F 82).toInt ≤ 2 → ∀ F1 : Nat → sy_d, iv_in F1 iv_B0 → (∀ j, j < 82 → j ∉ ([] : List Nat) → F1 j = F j) → (sy_i F1 82).toInt = (sy_i F 82).toInt → sy_i F1 82 = sy_i F 82 → (sy_i F1 83).toInt = ((sy_i F 82).toInt * 60) → sy_i F1 83 = (sy_i F 82) * ((60 : Int32)) → hd_W Ls xs d jm_M113 Q (23, sy_dL F1 [some (.inl (.ref 8)), some (.inr (.inl 82))], sy_dS F1 [.inr (.inl 83), .inl (.ref 68), .inl (.ref 46)], sy_dh F1 X1 X2 (iv_H 2), 0, 0)) :
    hd_W Ls xs d jm_M113 Q (0, sy_dL F [some (.inl (.ref 8)), some (.inr (.inl 82))], sy_dS F [], sy_dh F X1 X2 (iv_H 2), 0, 0) := by
  by_cases g0 : (sy_i F 82).toInt < 0
  · exact j2hd_0_p0 hd F X1 X2 hB (by first | exact g0 | (simp only [nz_c]; exact g0)) (fun F1 g  => k0 g0 F1 (nz_in0 hB [] (fun j hj hn => g j hj (by simp only [List.mem_cons, List.not_mem_nil, or_false, not_or] at hn; exact trivial)) (List.forall_mem_nil _)) (fun j hj hn => g j hj (by simp only [List.mem_cons, List.not_mem_nil, or_false, not_or] at hn; exact trivial)) )
  replace g0 : 0 ≤ (sy_i F 82).toInt := by omega
  by_cases g1 : 2 < (sy_i F 82).toInt
  · exact j2hd_0_p1 hd F X1 X2 hB (by first | exact g0 | (simp only [nz_c]; exact g0)) (by first | exact g1 | (simp only [nz_c]; exact g1)) (fun F1 g  => k1 g0 g1 F1 (nz_in0 hB [] (fun j hj hn => g j hj (by simp only [List.mem_cons, List.not_mem_nil, or_false, not_or] at hn; exact trivial)) (List.forall_mem_nil _)) (fun j hj hn => g j hj (by simp only [List.mem_cons, List.not_mem_nil, or_false, not_or] at hn; exact trivial)) )
  replace g1 : (sy_i F 82).toInt ≤ 2 := by omega
  have n83 : nzI ((sy_i F 82) * ((60 : Int32))) (((sy_i F 82).toInt * 60)) := nz_mul (rfl : (sy_i F 82).toInt = (sy_i F 82).toInt) (by decide : ((60 : Int32)).toInt = 60) (by omega) (by omega)
  exact j2hd_0_p2 hd F X1 X2 hB (by first | exact g0 | (simp only [nz_c]; exact g0)) (by first | exact g1 | (simp only [nz_c]; exact g1)) (fun F1 g e82 e83 => k2 g0 g1 F1 (nz_in0 hB [] (fun j hj hn => g j hj (by simp only [List.mem_cons, List.not_mem_nil, or_false, not_or] at hn; exact trivial)) (List.forall_mem_nil _)) (fun j hj hn => g j hj (by simp only [List.mem_cons, List.not_mem_nil, or_false, not_or] at hn; exact trivial)) ((congrArg Int32.toInt (zz_i e82)).trans (rfl : (sy_i F 82).toInt = (sy_i F 82).toInt)) ((zz_i e82).trans (rfl : sy_i F 82 = sy_i F 82)) ((congrArg Int32.toInt (zz_i e83)).trans (nzE n83)) ((zz_i e83).trans (rfl : (sy_i F 82) * ((60 : Int32)) = (sy_i F 82) * ((60 : Int32)))))
theorem j2hd_26_p0 {Ls : Nat} {xs : Nat → Int32} {d : Nat} {Q : Option Value → jm_h → Prop} (hd : 1 ≤ d) (F : Nat → sy_d) (X1 X2 : List jm_c) (hB : iv_in F iv_B0)
    (h0 : 0 ≤ (sy_i F 82).toInt ∧ (sy_i F 82).toInt < 3)
    (k : ∀ F1 : Nat → sy_d, (∀ j, j < 82 → j ≠ 78 → F1 j = F j) → F1 78 = .inr (.inl (jm_upd (sy_ai F 78) (sy_i F 82).toNatClampNeg ((1 : Int32)))) → Q (some (.int ((1 : Int32)))) (sy_dh F1 X1 X2 (iv_H 2))) :
    hd_W Ls xs d jm_M113 Q (26, sy_dL F [some (.inl (.ref 8)), some (.inr (.inl 82))], sy_dS F [], sy_dh F X1 X2 (iv_H 2), 0, 0) := by
  refine hd_ret (s := 2) (nv := 83) (v := some (.inl (.int 1))) (uh := hd_ov (iv_id 0 iv_B0) [(78, .inr (.inr (.inl 83)))]) (f := false) (sp := []) (d0 := 0) (O := []) (T := [(40, [.inr (.inl 82), .inl (.int 1)], [.inr (.inl 78)])]) (P := [(6, .inr (.inl 82), .inl (.ref 3))]) jm_ok113 (by decide +kernel) (by decide +kernel) hd F X1 X2 (fun F' hF hs => ?_)
  have b82 := hd_b (F := F) (F' := F') (k := 82) (hF 82 (by decide))
  have a78 := hd_ba (F := F) (F' := F') (k := 78) (hF 78 (by decide))
  have t83 : sy_da F' (.inr (.inl 83)) = .inl (jm_upd (sy_ai F 78) (sy_i F 82).toNatClampNeg ((1 : Int32))) := hd_up (hs 0 _ rfl) b82 rfl a78
  have hB' : iv_in F' iv_B0 := iv_in_eq hB (fun j hj => hF j (Nat.lt_of_lt_of_le hj (by decide +kernel)))
  refine ⟨List.forall_mem_cons.mpr ⟨hd_pb b82 (by first | exact h0 | exact h0), fun _ h => absurd h List.not_mem_nil⟩, ?_⟩
  refine k _ ?_ ?_
  · exact fun j hj hn => (hd_keep hB' (Nat.lt_of_lt_of_le hj (by decide +kernel)) (by simp; omega)).trans (hF j (Nat.lt_of_lt_of_le hj (by decide)))
  · exact hd_ga (a := .inr (.inl 83)) (by decide +kernel) t83
theorem j2hd_26 {Ls : Nat} {xs : Nat → Int32} {d : Nat} {Q : Option Value → jm_h → Prop} (hd : 1 ≤ d) (F : Nat → sy_d) (X1 X2 : List jm_c) (hB : iv_in F iv_B0)
    (a82 : 0 ≤ (sy_i F 82).toInt ∧ (sy_i F 82).toInt ≤ 2)
    (k0 : ∀ F1 : Nat → sy_d, iv_in F1 iv_B0 → (∀ j, j < 82 → j ∉ ([78] : List Nat) → F1 j = F j) → sy_ai F1 78 = jm_upd (sy_ai F 78) ((sy_i F 82).toInt).toNat ((1 : Int32)) → Q (some (.int ((1 : Int32)))) (sy_dh F1 X1 X2 (iv_H 2))) :
    hd_W Ls xs d jm_M113 Q (26, sy_dL F [some (.inl (.ref 8)), some (.inr (.inl 82))], sy_dS F [], sy_dh F X1 X2 (iv_H 2), 0, 0) := by
  have w83 : jm_upd (sy_ai F 78) (sy_i F 82).toNatClampNeg ((1 : Int32)) = jm_upd (sy_ai F 78) ((sy_i F 82).toInt).toNat ((1 : Int32)) := by simp only [nz_c, (by decide : ((1 : Int32)).toInt = 1)]
  exact j2hd_26_p0 hd F X1 X2 hB (by first | exact ⟨by omega, by omega⟩ | (simp only [nz_c]; exact ⟨by omega, by omega⟩)) (fun F1 g e78 => k0 F1 (nz_in0 hB [78] (fun j hj hn => g j hj (by simp only [List.mem_cons, List.not_mem_nil, or_false, not_or] at hn; omega)) (List.forall_mem_cons.mpr ⟨fun t ht => (Option.some.inj ht) ▸ (nz_hA e78 (nz_up (nz_ba hB (k := 78) (lo := 0) (hi := 1) rfl) (by decide : ((1 : Int32)).toInt = 1) (by omega) (by omega))), List.forall_mem_nil _⟩)) (fun j hj hn => g j hj (by simp only [List.mem_cons, List.not_mem_nil, or_false, not_or] at hn; omega)) ((zz_ai e78).trans w83))
theorem j2rs_0_p0 {Ls : Nat} {xs : Nat → Int32} {d : Nat} {Q : Option Value → jm_h → Prop} (hd : 2 ≤ d) (F : Nat → sy_d) (X1 X2 : List jm_c) (hB : iv_in F iv_B0)
    (h0 : (sy_i F 82).toInt < 0)
    (k : ∀ F1 : Nat → sy_d, (∀ j, j < 82 → True → F1 j = F j) → Q (some (.int ((0 : Int32)))) (sy_dh F1 X1 X2 (iv_H 2))) :
    hd_W Ls xs d jm_M114 Q (0, sy_dL F [some (.inl (.ref 8)), some (.inr (.inl 82))], sy_dS F [], sy_dh F X1 X2 (iv_H 2), 0, 0) := by
  refine hd_ret (s := 2) (nv := 83) (v := some (.inl (.int 0))) (uh := hd_ov (iv_id 0 iv_B0) []) (f := true) (sp := [32]) (d0 := 1) (O := [true]) (T := []) (P := [(2, .inr (.inl 82), .inl (.int 0))]) jm_ok114 (by decide +kernel) (by decide +kernel) hd F X1 X2 (fun F' hF hs => ?_)
  have b82 := hd_b (F := F) (F' := F') (k := 82) (hF 82 (by decide))
  have hB' : iv_in F' iv_B0 := iv_in_eq hB (fun j hj => hF j (Nat.lt_of_lt_of_le hj (by decide +kernel)))
  refine ⟨List.forall_mem_cons.mpr ⟨hd_p2 b82 rfl (by have hc : ((0) : Int32).toInt = 0 := (by decide); omega), fun _ h => absurd h List.not_mem_nil⟩, ?_⟩
  refine k _ ?_
  · exact fun j hj _ => (hd_keep hB' (Nat.lt_of_lt_of_le hj (by decide +kernel)) (by simp)).trans (hF j (Nat.lt_of_lt_of_le hj (by decide)))
theorem j2rs_0_p1 {Ls : Nat} {xs : Nat → Int32} {d : Nat} {Q : Option Value → jm_h → Prop} (hd : 2 ≤ d) (F : Nat → sy_d) (X1 X2 : List jm_c) (hB : iv_in F iv_B0)
    (h0 : 0 ≤ (sy_i F 82).toInt)
    (h1 : 2 < (sy_i F 82).toInt)
    (k : ∀ F1 : Nat → sy_d, (∀ j, j < 82 → True → F1 j = F j) → Q (some (.int ((0 : Int32)))) (sy_dh F1 X1 X2 (iv_H 2))) :
    hd_W Ls xs d jm_M114 Q (0, sy_dL F [some (.inl (.ref 8)), some (.inr (.inl 82))], sy_dS F [], sy_dh F X1 X2 (iv_H 2), 0, 0) := by
  refine hd_ret (s := 2) (nv := 83) (v := some (.inl (.int 0))) (uh := hd_ov (iv_id 0 iv_B0) []) (f := true) (sp := [32]) (d0 := 1) (O := [false, true]) (T := []) (P := [(3, .inr (.inl 82), .inl (.int 0)), (2, .inl (.int 2), .inr (.inl 82))]) jm_ok114 (by decide +kernel) (by decide +kernel) hd F X1 X2 (fun F' hF hs => ?_)
  have b82 := hd_b (F := F) (F' := F') (k := 82) (hF 82 (by decide))
  have hB' : iv_in F' iv_B0 := iv_in_eq hB (fun j hj => hF j (Nat.lt_of_lt_of_le hj (by decide +kernel)))
  refine ⟨List.forall_mem_cons.mpr ⟨hd_p3 b82 rfl (by have hc : ((0) : Int32).toInt = 0 := (by decide); omega), List.forall_mem_cons.mpr ⟨hd_p2 rfl b82 (by have hc : ((2) : Int32).toInt = 2 := (by decide); omega), fun _ h => absurd h List.not_mem_nil⟩⟩, ?_⟩
  refine k _ ?_
  · exact fun j hj _ => (hd_keep hB' (Nat.lt_of_lt_of_le hj (by decide +kernel)) (by simp)).trans (hF j (Nat.lt_of_lt_of_le hj (by decide)))
theorem j2rs_0_p2 {Ls : Nat} {xs : Nat → Int32} {d : Nat} {Q : Option Value → jm_h → Prop} (hd : 2 ≤ d) (F : Nat → sy_d) (X1 X2 : List jm_c) (hB : iv_in F iv_B0)
    (h0 : 0 ≤ (sy_i F 82).toInt)
    (h1 : (sy_i F 82).toInt ≤ 2)
    (h2 : 0 ≤ (sy_i F 82).toInt ∧ (sy_i F 82).toInt < 3)
    (h3 : ((sy_ai F 78).getD (sy_i F 82).toNatClampNeg 0).toInt ≠ 0)
    (k : ∀ F1 : Nat → sy_d, (∀ j, j < 82 → True → F1 j = F j) → F1 82 = .inl (.int ((sy_i F 82) * ((60 : Int32)))) → hd_W Ls xs d jm_M114 Q (32, sy_dL F1 [some (.inl (.ref 8)), none], sy_dS F1 [.inr (.inl 82), .inl (.ref 68), .inl (.ref 46)], sy_dh F1 X1 X2 (iv_H 2), 0, 0)) :
    hd_W Ls xs d jm_M114 Q (0, sy_dL F [some (.inl (.ref 8)), some (.inr (.inl 82))], sy_dS F [], sy_dh F X1 X2 (iv_H 2), 0, 0) := by
  refine hd_run (s := 2) (nv := 83) (pc := 32) (L := [some (.inl (.ref 8)), none]) (S := [.inr (.inl 82), .inl (.ref 68), .inl (.ref 46)]) (uh := hd_ov (iv_id 0 iv_B0) []) (ul := [.inl (.inr (.inl 84))]) (f := true) (sp := [32]) (d0 := 1) (O := [false, false, true]) (T := [(30, [.inr (.inl 82)], [.inr (.inl 78)]), (2, [.inr (.inl 82), .inl (.int 60)], [])]) (P := [(3, .inr (.inl 82), .inl (.int 0)), (3, .inl (.int 2), .inr (.inl 82)), (6, .inr (.inl 82), .inl (.ref 3)), (1, .inr (.inl 83), .inl (.int 0))]) jm_ok114 (by decide +kernel) (by decide +kernel) hd F X1 X2 (fun F' hF hs => ?_)
  have b82 := hd_b (F := F) (F' := F') (k := 82) (hF 82 (by decide))
  have a78 := hd_ba (F := F) (F' := F') (k := 78) (hF 78 (by decide))
  have t83 : sy_dv F' (.inr (.inl 83)) = .int ((sy_ai F 78).getD (sy_i F 82).toNatClampNeg 0) := hd_rd (hs 0 _ rfl) b82 a78
  have t84 : sy_dv F' (.inr (.inl 84)) = .int ((sy_i F 82) * ((60 : Int32))) := hd_o (hs 1 _ rfl) b82 rfl rfl
  have hB' : iv_in F' iv_B0 := iv_in_eq hB (fun j hj => hF j (Nat.lt_of_lt_of_le hj (by decide +kernel)))
  refine ⟨List.forall_mem_cons.mpr ⟨hd_p3 b82 rfl (by have hc : ((0) : Int32).toInt = 0 := (by decide); omega), List.forall_mem_cons.mpr ⟨hd_p3 rfl b82 (by have hc : ((2) : Int32).toInt = 2 := (by decide); omega), List.forall_mem_cons.mpr ⟨hd_pb b82 (by first | exact h2 | exact h2), List.forall_mem_cons.mpr ⟨hd_p1 t83 rfl (by have hc : ((0) : Int32).toInt = 0 := (by decide); omega), fun _ h => absurd h List.not_mem_nil⟩⟩⟩⟩, ?_⟩
  refine k _ ?_ ?_
  · exact fun j hj _ => (hd_keep hB' (Nat.lt_of_lt_of_le hj (by decide +kernel)) (by simp)).trans (hF j (Nat.lt_of_lt_of_le hj (by decide)))
  · exact hd_gi (x := .inr (.inl 84)) (by decide +kernel) t84
theorem j2rs_0_p3 {Ls : Nat} {xs : Nat → Int32} {d : Nat} {Q : Option Value → jm_h → Prop} (hd : 2 ≤ d) (F : Nat → sy_d) (X1 X2 : List jm_c) (hB : iv_in F iv_B0)
    (h0 : 0 ≤ (sy_i F 82).toInt)
    (h1 : (sy_i F 82).toInt ≤ 2)
    (h2 : 0 ≤ (sy_i F 82).toInt ∧ (sy_i F 82).toInt < 3)
    (h3 : ((sy_ai F 78).getD (sy_i F 82).toNatClampNeg 0).toInt = 0)
    (k : ∀ F1 : Nat → sy_d, (∀ j, j < 82 → True → F1 j = F j) → Q (some (.int ((0 : Int32)))) (sy_dh F1 X1 X2 (iv_H 2))) :
    hd_W Ls xs d jm_M114 Q (0, sy_dL F [some (.inl (.ref 8)), some (.inr (.inl 82))], sy_dS F [], sy_dh F X1 X2 (iv_H 2), 0, 0) := by
  refine hd_ret (s := 2) (nv := 83) (v := some (.inl (.int 0))) (uh := hd_ov (iv_id 0 iv_B0) []) (f := true) (sp := [32]) (d0 := 1) (O := [false, false, false]) (T := [(30, [.inr (.inl 82)], [.inr (.inl 78)])]) (P := [(3, .inr (.inl 82), .inl (.int 0)), (3, .inl (.int 2), .inr (.inl 82)), (6, .inr (.inl 82), .inl (.ref 3)), (0, .inr (.inl 83), .inl (.int 0))]) jm_ok114 (by decide +kernel) (by decide +kernel) hd F X1 X2 (fun F' hF hs => ?_)
  have b82 := hd_b (F := F) (F' := F') (k := 82) (hF 82 (by decide))
  have a78 := hd_ba (F := F) (F' := F') (k := 78) (hF 78 (by decide))
  have t83 : sy_dv F' (.inr (.inl 83)) = .int ((sy_ai F 78).getD (sy_i F 82).toNatClampNeg 0) := hd_rd (hs 0 _ rfl) b82 a78
  have hB' : iv_in F' iv_B0 := iv_in_eq hB (fun j hj => hF j (Nat.lt_of_lt_of_le hj (by decide +kernel)))
  refine ⟨List.forall_mem_cons.mpr ⟨hd_p3 b82 rfl (by have hc : ((0) : Int32).toInt = 0 := (by decide); omega), List.forall_mem_cons.mpr ⟨hd_p3 rfl b82 (by have hc : ((2) : Int32).toInt = 2 := (by decide); omega), List.forall_mem_cons.mpr ⟨hd_pb b82 (by first | exact h2 | exact h2), List.forall_mem_cons.mpr ⟨hd_p0 t83 rfl (by have hc : ((0) : Int32).toInt = 0 := (by decide); omega), fun _ h => absurd h List.not_mem_nil⟩⟩⟩⟩, ?_⟩
  refine k _ ?_
  · exact fun j hj _ => (hd_keep hB' (Nat.lt_of_lt_of_le hj (by decide +kernel)) (by simp)).trans (hF j (Nat.lt_of_lt_of_le hj (by decide)))
theorem j2rs_0 {Ls : Nat} {xs : Nat → Int32} {d : Nat} {Q : Option Value → jm_h → Prop} (hd : 2 ≤ d) (F : Nat → sy_d) (X1 X2 : List jm_c) (hB : iv_in F iv_B0)
    (k0 : (sy_i F 82).toInt < 0 → ∀ F1 : Nat → sy_d, iv_in F1 iv_B0 → (∀ j, j < 82 → j ∉ ([] : List Nat) → F1 j = F j) → Q (some (.int ((0 : Int32)))) (sy_dh F1 X1 X2 (iv_H 2)))
    (k1 : 0 ≤ (sy_i F 82).toInt → 2 < (sy_i F 82).toInt → ∀ F1 : Nat → sy_d, iv_in F1 iv_B0 → (∀ j, j < 82 → j ∉ ([] : List Nat) → F1 j = F j) → Q (some (.int ((0 : Int32)))) (sy_dh F1 X1 X2 (iv_H 2)))
    (k2 : 0 ≤ (sy_i F 82).toInt → (sy_i F 82).toInt ≤ 2 → ((sy_ai F 78).getD ((sy_i F 82).toInt).toNat 0).toInt ≠ 0 → ∀ F1 : Nat → sy_d, iv_in F1 iv_B0 → (∀ j, j < 82 → j ∉ ([] : List Nat) → F1 j = F j) → (sy_i F1 82).toInt = ((sy_i F 82).toInt * 60) → sy_i F1 82 = (sy_i F 82) * ((60 : Int32)) → hd_W Ls xs d jm_M114 Q (32, sy_dL F1 [some (.inl (.ref 8)), none], sy_dS F1 [.inr (.inl 82), .inl (.ref 68), .inl (.ref 46)], sy_dh F1 X1 X2 (iv_H 2), 0, 0))
    (k3 : 0 ≤ (sy_i F 82).toInt → (sy_i F 82).toInt ≤ 2 → ((sy_ai F 78).getD ((sy_i F 82).toInt).toNat 0).toInt = 0 → ∀ F1 : Nat → sy_d, iv_in F1 iv_B0 → (∀ j, j < 82 → j ∉ ([] : List Nat) → F1 j = F j) → Q (some (.int ((0 : Int32)))) (sy_dh F1 X1 X2 (iv_H 2))) :
    hd_W Ls xs d jm_M114 Q (0, sy_dL F [some (.inl (.ref 8)), some (.inr (.inl 82))], sy_dS F [], sy_dh F X1 X2 (iv_H 2), 0, 0) := by
  by_cases g0 : (sy_i F 82).toInt < 0
  · exact j2rs_0_p0 hd F X1 X2 hB (by first | exact g0 | (simp only [nz_c]; exact g0)) (fun F1 g  => k0 g0 F1 (nz_in0 hB [] (fun j hj hn => g j hj (by simp only [List.mem_cons, List.not_mem_nil, or_false, not_or] at hn; exact trivial)) (List.forall_mem_nil _)) (fun j hj hn => g j hj (by simp only [List.mem_cons, List.not_mem_nil, or_false, not_or] at hn; exact trivial)) )
  replace g0 : 0 ≤ (sy_i F 82).toInt := by omega
  by_cases g1 : 2 < (sy_i F 82).toInt
  · exact j2rs_0_p1 hd F X1 X2 hB (by first | exact g0 | (simp only [nz_c]; exact g0)) (by first | exact g1 | (simp only [nz_c]; exact g1)) (fun F1 g  => k1 g0 g1 F1 (nz_in0 hB [] (fun j hj hn => g j hj (by simp only [List.mem_cons, List.not_mem_nil, or_false, not_or] at hn; exact trivial)) (List.forall_mem_nil _)) (fun j hj hn => g j hj (by simp only [List.mem_cons, List.not_mem_nil, or_false, not_or] at hn; exact trivial)) )
  replace g1 : (sy_i F 82).toInt ≤ 2 := by omega
  by_cases g2 : ((sy_ai F 78).getD ((sy_i F 82).toInt).toNat 0).toInt ≠ 0
  · have q83 : (sy_ai F 78).getD (sy_i F 82).toNatClampNeg 0 = (sy_ai F 78).getD ((sy_i F 82).toInt).toNat 0 := by simp only [nz_c]
    have n83 : nzI ((sy_ai F 78).getD (sy_i F 82).toNatClampNeg 0) (((sy_ai F 78).getD ((sy_i F 82).toInt).toNat 0).toInt) := congrArg Int32.toInt q83
    have r83 := nz_ba hB (k := 78) (lo := 0) (hi := 1) rfl ((sy_i F 82).toInt).toNat
    have n84 : nzI ((sy_i F 82) * ((60 : Int32))) (((sy_i F 82).toInt * 60)) := nz_mul (rfl : (sy_i F 82).toInt = (sy_i F 82).toInt) (by decide : ((60 : Int32)).toInt = 60) (by omega) (by omega)
    exact j2rs_0_p2 hd F X1 X2 hB (by first | exact g0 | (simp only [nz_c]; exact g0)) (by first | exact g1 | (simp only [nz_c]; exact g1)) (by first | exact ⟨by omega, by omega⟩ | (simp only [nz_c]; exact ⟨by omega, by omega⟩)) (by first | exact g2 | (simp only [nz_c]; exact g2) | (rw [(nzE n83)]; exact g2)) (fun F1 g e82 => k2 g0 g1 g2 F1 (nz_in0 hB [] (fun j hj hn => g j hj (by simp only [List.mem_cons, List.not_mem_nil, or_false, not_or] at hn; exact trivial)) (List.forall_mem_nil _)) (fun j hj hn => g j hj (by simp only [List.mem_cons, List.not_mem_nil, or_false, not_or] at hn; exact trivial)) ((congrArg Int32.toInt (zz_i e82)).trans (nzE n84)) ((zz_i e82).trans (rfl : (sy_i F 82) * ((60 : Int32)) = (sy_i F 82) * ((60 : Int32)))))
  replace g2 : ((sy_ai F 78).getD ((sy_i F 82).toInt).toNat 0).toInt = 0 := by omega
  have q83 : (sy_ai F 78).getD (sy_i F 82).toNatClampNeg 0 = (sy_ai F 78).getD ((sy_i F 82).toInt).toNat 0 := by simp only [nz_c]
  have n83 : nzI ((sy_ai F 78).getD (sy_i F 82).toNatClampNeg 0) (((sy_ai F 78).getD ((sy_i F 82).toInt).toNat 0).toInt) := congrArg Int32.toInt q83
  have r83 := nz_ba hB (k := 78) (lo := 0) (hi := 1) rfl ((sy_i F 82).toInt).toNat
  exact j2rs_0_p3 hd F X1 X2 hB (by first | exact g0 | (simp only [nz_c]; exact g0)) (by first | exact g1 | (simp only [nz_c]; exact g1)) (by first | exact ⟨by omega, by omega⟩ | (simp only [nz_c]; exact ⟨by omega, by omega⟩)) (by first | exact g2 | (simp only [nz_c]; exact g2) | (rw [(nzE n83)]; exact g2)) (fun F1 g  => k3 g0 g1 g2 F1 (nz_in0 hB [] (fun j hj hn => g j hj (by simp only [List.mem_cons, List.not_mem_nil, or_false, not_or] at hn; exact trivial)) (List.forall_mem_nil _)) (fun j hj hn => g j hj (by simp only [List.mem_cons, List.not_mem_nil, or_false, not_or] at hn; exact trivial)) )
theorem j2rs_35_p0 {Ls : Nat} {xs : Nat → Int32} {d : Nat} {Q : Option Value → jm_h → Prop} (hd : 2 ≤ d) (F : Nat → sy_d) (X1 X2 : List jm_c) (hB : iv_in F iv_B0)
    (k : ∀ F1 : Nat → sy_d, (∀ j, j < 82 → j ≠ 74 ∧ j ≠ 75 → F1 j = F j) → F1 74 = .inl (.int ((0 : Int32))) → F1 75 = .inl (.int ((0 : Int32))) → Q (some (.int ((1 : Int32)))) (sy_dh F1 X1 X2 (iv_H 2))) :
    hd_W Ls xs d jm_M114 Q (35, sy_dL F [some (.inl (.ref 8)), none], sy_dS F [], sy_dh F X1 X2 (iv_H 2), 0, 0) := by
  refine hd_ret (s := 2) (nv := 82) (v := some (.inl (.int 1))) (uh := hd_ov (iv_id 0 iv_B0) [(74, .inl (.inl (.int 0))), (75, .inl (.inl (.int 0)))]) (f := false) (sp := []) (d0 := 1) (O := []) (T := []) (P := []) jm_ok114 (by decide +kernel) (by decide +kernel) hd F X1 X2 (fun F' hF hs => ?_)
  have hB' : iv_in F' iv_B0 := iv_in_eq hB (fun j hj => hF j (Nat.lt_of_lt_of_le hj (by decide +kernel)))
  refine ⟨fun _ h => absurd h List.not_mem_nil, ?_⟩
  refine k _ ?_ ?_ ?_
  · exact fun j hj hn => (hd_keep hB' (Nat.lt_of_lt_of_le hj (by decide +kernel)) (by simp; omega)).trans (hF j (Nat.lt_of_lt_of_le hj (by decide)))
  · exact hd_gi (x := .inl (.int 0)) (by decide +kernel) rfl
  · exact hd_gi (x := .inl (.int 0)) (by decide +kernel) rfl
theorem j2rs_35 {Ls : Nat} {xs : Nat → Int32} {d : Nat} {Q : Option Value → jm_h → Prop} (hd : 2 ≤ d) (F : Nat → sy_d) (X1 X2 : List jm_c) (hB : iv_in F iv_B0)
    (k0 : ∀ F1 : Nat → sy_d, iv_in F1 iv_B0 → (∀ j, j < 82 → j ∉ ([74, 75] : List Nat) → F1 j = F j) → (sy_i F1 74).toInt = 0 → sy_i F1 74 = (0 : Int32) → (sy_i F1 75).toInt = 0 → sy_i F1 75 = (0 : Int32) → Q (some (.int ((1 : Int32)))) (sy_dh F1 X1 X2 (iv_H 2))) :
    hd_W Ls xs d jm_M114 Q (35, sy_dL F [some (.inl (.ref 8)), none], sy_dS F [], sy_dh F X1 X2 (iv_H 2), 0, 0) := by
  exact j2rs_35_p0 hd F X1 X2 hB  (fun F1 g e74 e75 => k0 F1 (nz_in0 hB [74, 75] (fun j hj hn => g j hj (by simp only [List.mem_cons, List.not_mem_nil, or_false, not_or] at hn; omega)) (List.forall_mem_cons.mpr ⟨fun t ht => (Option.some.inj ht) ▸ (nz_hi e74 (by decide : ((0 : Int32)).toInt = 0) (by omega) (by omega)), List.forall_mem_cons.mpr ⟨fun t ht => (Option.some.inj ht) ▸ (nz_hi e75 (by decide : ((0 : Int32)).toInt = 0) (by omega) (by omega)), List.forall_mem_nil _⟩⟩)) (fun j hj hn => g j hj (by simp only [List.mem_cons, List.not_mem_nil, or_false, not_or] at hn; omega)) ((congrArg Int32.toInt (zz_i e74)).trans (by decide : ((0 : Int32)).toInt = 0)) ((zz_i e74).trans (rfl : (0 : Int32) = (0 : Int32))) ((congrArg Int32.toInt (zz_i e75)).trans (by decide : ((0 : Int32)).toInt = 0)) ((zz_i e75).trans (rfl : (0 : Int32) = (0 : Int32))))
theorem j2go_0_p0 {Ls : Nat} {xs : Nat → Int32} {d : Nat} {Q : Option Value → jm_h → Prop} (hd : 2 ≤ d) (F : Nat → sy_d) (X1 X2 : List jm_c) (hB : iv_in F iv_B0)
    (h0 : (sy_i F 82).toInt < 0)
    (k : ∀ F1 : Nat → sy_d, (∀ j, j < 82 → True → F1 j = F j) → Q (some (.int ((0 : Int32)))) (sy_dh F1 X1 X2 (iv_H 2))) :
    hd_W Ls xs d jm_M88 Q (0, sy_dL F [some (.inl (.ref 8)), some (.inr (.inl 82)), some (.inr (.inl 83))], sy_dS F [], sy_dh F X1 X2 (iv_H 2), 0, 0) := by
  refine hd_ret (s := 2) (nv := 84) (v := some (.inl (.int 0))) (uh := hd_ov (iv_id 0 iv_B0) []) (f := true) (sp := [41]) (d0 := 1) (O := [true]) (T := []) (P := [(2, .inr (.inl 82), .inl (.int 0))]) jm_ok88 (by decide +kernel) (by decide +kernel) hd F X1 X2 (fun F' hF hs => ?_)
  have b82 := hd_b (F := F) (F' := F') (k := 82) (hF 82 (by decide))
  have hB' : iv_in F' iv_B0 := iv_in_eq hB (fun j hj => hF j (Nat.lt_of_lt_of_le hj (by decide +kernel)))
  refine ⟨List.forall_mem_cons.mpr ⟨hd_p2 b82 rfl (by have hc : ((0) : Int32).toInt = 0 := (by decide); omega), fun _ h => absurd h List.not_mem_nil⟩, ?_⟩
  refine k _ ?_
  · exact fun j hj _ => (hd_keep hB' (Nat.lt_of_lt_of_le hj (by decide +kernel)) (by simp)).trans (hF j (Nat.lt_of_lt_of_le hj (by decide)))
theorem j2go_0_p1 {Ls : Nat} {xs : Nat → Int32} {d : Nat} {Q : Option Value → jm_h → Prop} (hd : 2 ≤ d) (F : Nat → sy_d) (X1 X2 : List jm_c) (hB : iv_in F iv_B0)
    (h0 : 0 ≤ (sy_i F 82).toInt)
    (h1 : (sy_i F 19).toInt ≤ (sy_i F 82).toInt)
    (k : ∀ F1 : Nat → sy_d, (∀ j, j < 82 → True → F1 j = F j) → Q (some (.int ((0 : Int32)))) (sy_dh F1 X1 X2 (iv_H 2))) :
    hd_W Ls xs d jm_M88 Q (0, sy_dL F [some (.inl (.ref 8)), some (.inr (.inl 82)), some (.inr (.inl 83))], sy_dS F [], sy_dh F X1 X2 (iv_H 2), 0, 0) := by
  refine hd_ret (s := 2) (nv := 84) (v := some (.inl (.int 0))) (uh := hd_ov (iv_id 0 iv_B0) []) (f := true) (sp := [41]) (d0 := 1) (O := [false, true]) (T := []) (P := [(3, .inr (.inl 82), .inl (.int 0)), (4, .inr (.inl 19), .inr (.inl 82))]) jm_ok88 (by decide +kernel) (by decide +kernel) hd F X1 X2 (fun F' hF hs => ?_)
  have b82 := hd_b (F := F) (F' := F') (k := 82) (hF 82 (by decide))
  have b19 := hd_b (F := F) (F' := F') (k := 19) (hF 19 (by decide))
  have hB' : iv_in F' iv_B0 := iv_in_eq hB (fun j hj => hF j (Nat.lt_of_lt_of_le hj (by decide +kernel)))
  refine ⟨List.forall_mem_cons.mpr ⟨hd_p3 b82 rfl (by have hc : ((0) : Int32).toInt = 0 := (by decide); omega), List.forall_mem_cons.mpr ⟨hd_p4 b19 b82 h1, fun _ h => absurd h List.not_mem_nil⟩⟩, ?_⟩
  refine k _ ?_
  · exact fun j hj _ => (hd_keep hB' (Nat.lt_of_lt_of_le hj (by decide +kernel)) (by simp)).trans (hF j (Nat.lt_of_lt_of_le hj (by decide)))
theorem j2go_0_p2 {Ls : Nat} {xs : Nat → Int32} {d : Nat} {Q : Option Value → jm_h → Prop} (hd : 2 ≤ d) (F : Nat → sy_d) (X1 X2 : List jm_c) (hB : iv_in F iv_B0)
    (h0 : 0 ≤ (sy_i F 82).toInt)
    (h1 : (sy_i F 82).toInt < (sy_i F 19).toInt)
    (h2 : (sy_i F 83).toInt < 0)
    (k : ∀ F1 : Nat → sy_d, (∀ j, j < 82 → True → F1 j = F j) → Q (some (.int ((0 : Int32)))) (sy_dh F1 X1 X2 (iv_H 2))) :
    hd_W Ls xs d jm_M88 Q (0, sy_dL F [some (.inl (.ref 8)), some (.inr (.inl 82)), some (.inr (.inl 83))], sy_dS F [], sy_dh F X1 X2 (iv_H 2), 0, 0) := by
  refine hd_ret (s := 2) (nv := 84) (v := some (.inl (.int 0))) (uh := hd_ov (iv_id 0 iv_B0) []) (f := true) (sp := [41]) (d0 := 1) (O := [false, false, true]) (T := []) (P := [(3, .inr (.inl 82), .inl (.int 0)), (5, .inr (.inl 19), .inr (.inl 82)), (2, .inr (.inl 83), .inl (.int 0))]) jm_ok88 (by decide +kernel) (by decide +kernel) hd F X1 X2 (fun F' hF hs => ?_)
  have b82 := hd_b (F := F) (F' := F') (k := 82) (hF 82 (by decide))
  have b19 := hd_b (F := F) (F' := F') (k := 19) (hF 19 (by decide))
  have b83 := hd_b (F := F) (F' := F') (k := 83) (hF 83 (by decide))
  have hB' : iv_in F' iv_B0 := iv_in_eq hB (fun j hj => hF j (Nat.lt_of_lt_of_le hj (by decide +kernel)))
  refine ⟨List.forall_mem_cons.mpr ⟨hd_p3 b82 rfl (by have hc : ((0) : Int32).toInt = 0 := (by decide); omega), List.forall_mem_cons.mpr ⟨hd_p5 b19 b82 h1, List.forall_mem_cons.mpr ⟨hd_p2 b83 rfl (by have hc : ((0) : Int32).toInt = 0 := (by decide); omega), fun _ h => absurd h List.not_mem_nil⟩⟩⟩, ?_⟩
  refine k _ ?_
  · exact fun j hj _ => (hd_keep hB' (Nat.lt_of_lt_of_le hj (by decide +kernel)) (by simp)).trans (hF j (Nat.lt_of_lt_of_le hj (by decide)))
theorem j2go_0_p3 {Ls : Nat} {xs : Nat → Int32} {d : Nat} {Q : Option Value → jm_h → Prop} (hd : 2 ≤ d) (F : Nat → sy_d) (X1 X2 : List jm_c) (hB : iv_in F iv_B0)
    (h0 : 0 ≤ (sy_i F 82).toInt)
    (h1 : (sy_i F 82).toInt < (sy_i F 19).toInt)
    (h2 : 0 ≤ (sy_i F 83).toInt)
    (h3 : 9 < (sy_i F 83).toInt)
    (k : ∀ F1 : Nat → sy_d, (∀ j, j < 82 → True → F1 j = F j) → Q (some (.int ((0 : Int32)))) (sy_dh F1 X1 X2 (iv_H 2))) :
    hd_W Ls xs d jm_M88 Q (0, sy_dL F [some (.inl (.ref 8)), some (.inr (.inl 82)), some (.inr (.inl 83))], sy_dS F [], sy_dh F X1 X2 (iv_H 2), 0, 0) := by
  refine hd_ret (s := 2) (nv := 84) (v := some (.inl (.int 0))) (uh := hd_ov (iv_id 0 iv_B0) []) (f := true) (sp := [41]) (d0 := 1) (O := [false, false, false, true]) (T := []) (P := [(3, .inr (.inl 82), .inl (.int 0)), (5, .inr (.inl 19), .inr (.inl 82)), (3, .inr (.inl 83), .inl (.int 0)), (2, .inl (.int 9), .inr (.inl 83))]) jm_ok88 (by decide +kernel) (by decide +kernel) hd F X1 X2 (fun F' hF hs => ?_)
  have b82 := hd_b (F := F) (F' := F') (k := 82) (hF 82 (by decide))
  have b19 := hd_b (F := F) (F' := F') (k := 19) (hF 19 (by decide))
  have b83 := hd_b (F := F) (F' := F') (k := 83) (hF 83 (by decide))
  have hB' : iv_in F' iv_B0 := iv_in_eq hB (fun j hj => hF j (Nat.lt_of_lt_of_le hj (by decide +kernel)))
  refine ⟨List.forall_mem_cons.mpr ⟨hd_p3 b82 rfl (by have hc : ((0) : Int32).toInt = 0 := (by decide); omega), List.forall_mem_cons.mpr ⟨hd_p5 b19 b82 h1, List.forall_mem_cons.mpr ⟨hd_p3 b83 rfl (by have hc : ((0) : Int32).toInt = 0 := (by decide); omega), List.forall_mem_cons.mpr ⟨hd_p2 rfl b83 (by have hc : ((9) : Int32).toInt = 9 := (by decide); omega), fun _ h => absurd h List.not_mem_nil⟩⟩⟩⟩, ?_⟩
  refine k _ ?_
  · exact fun j hj _ => (hd_keep hB' (Nat.lt_of_lt_of_le hj (by decide +kernel)) (by simp)).trans (hF j (Nat.lt_of_lt_of_le hj (by decide)))
theorem j2go_0_p4 {Ls : Nat} {xs : Nat → Int32} {d : Nat} {Q : Option Value → jm_h → Prop} (hd : 2 ≤ d) (F : Nat → sy_d) (X1 X2 : List jm_c) (hB : iv_in F iv_B0)
    (h0 : 0 ≤ (sy_i F 82).toInt)
    (h1 : (sy_i F 82).toInt < (sy_i F 19).toInt)
    (h2 : 0 ≤ (sy_i F 83).toInt)
    (h3 : (sy_i F 83).toInt ≤ 9)
    (h4 : 0 ≤ (sy_i F 82).toInt ∧ (sy_i F 82).toInt < 4)
    (h5 : ((sy_ai F 60).getD (sy_i F 82).toNatClampNeg 0).toInt ≠ (sy_i F 83).toInt)
    (k : ∀ F1 : Nat → sy_d, (∀ j, j < 82 → True → F1 j = F j) → F1 82 = .inl (.int (sy_i F 82)) → F1 83 = .inl (.int (sy_i F 83)) → hd_W Ls xs d jm_M88 Q (41, sy_dL F1 [some (.inl (.ref 8)), some (.inr (.inl 82)), some (.inr (.inl 83))], sy_dS F1 [.inl (.ref 46), .inl (.ref 66)], sy_dh F1 X1 X2 (iv_H 2), 0, 0)) :
    hd_W Ls xs d jm_M88 Q (0, sy_dL F [some (.inl (.ref 8)), some (.inr (.inl 82)), some (.inr (.inl 83))], sy_dS F [], sy_dh F X1 X2 (iv_H 2), 0, 0) := by
  refine hd_run (s := 2) (nv := 84) (pc := 41) (L := [some (.inl (.ref 8)), some (.inr (.inl 82)), some (.inr (.inl 83))]) (S := [.inl (.ref 46), .inl (.ref 66)]) (uh := hd_ov (iv_id 0 iv_B0) []) (ul := [.inl (.inr (.inl 82)), .inl (.inr (.inl 83))]) (f := true) (sp := [41]) (d0 := 1) (O := [false, false, false, false, true]) (T := [(30, [.inr (.inl 82)], [.inr (.inl 60)])]) (P := [(3, .inr (.inl 82), .inl (.int 0)), (5, .inr (.inl 19), .inr (.inl 82)), (3, .inr (.inl 83), .inl (.int 0)), (3, .inl (.int 9), .inr (.inl 83)), (6, .inr (.inl 82), .inl (.ref 4)), (1, .inr (.inl 84), .inr (.inl 83))]) jm_ok88 (by decide +kernel) (by decide +kernel) hd F X1 X2 (fun F' hF hs => ?_)
  have b82 := hd_b (F := F) (F' := F') (k := 82) (hF 82 (by decide))
  have b19 := hd_b (F := F) (F' := F') (k := 19) (hF 19 (by decide))
  have b83 := hd_b (F := F) (F' := F') (k := 83) (hF 83 (by decide))
  have a60 := hd_ba (F := F) (F' := F') (k := 60) (hF 60 (by decide))
  have t84 : sy_dv F' (.inr (.inl 84)) = .int ((sy_ai F 60).getD (sy_i F 82).toNatClampNeg 0) := hd_rd (hs 0 _ rfl) b82 a60
  have hB' : iv_in F' iv_B0 := iv_in_eq hB (fun j hj => hF j (Nat.lt_of_lt_of_le hj (by decide +kernel)))
  refine ⟨List.forall_mem_cons.mpr ⟨hd_p3 b82 rfl (by have hc : ((0) : Int32).toInt = 0 := (by decide); omega), List.forall_mem_cons.mpr ⟨hd_p5 b19 b82 h1, List.forall_mem_cons.mpr ⟨hd_p3 b83 rfl (by have hc : ((0) : Int32).toInt = 0 := (by decide); omega), List.forall_mem_cons.mpr ⟨hd_p3 rfl b83 (by have hc : ((9) : Int32).toInt = 9 := (by decide); omega), List.forall_mem_cons.mpr ⟨hd_pb b82 (by first | exact h4 | exact h4), List.forall_mem_cons.mpr ⟨hd_p1 t84 b83 h5, fun _ h => absurd h List.not_mem_nil⟩⟩⟩⟩⟩⟩, ?_⟩
  refine k _ ?_ ?_ ?_
  · exact fun j hj _ => (hd_keep hB' (Nat.lt_of_lt_of_le hj (by decide +kernel)) (by simp)).trans (hF j (Nat.lt_of_lt_of_le hj (by decide)))
  · exact hd_gi (x := .inr (.inl 82)) (by decide +kernel) b82
  · exact hd_gi (x := .inr (.inl 83)) (by decide +kernel) b83
theorem j2go_0_p5 {Ls : Nat} {xs : Nat → Int32} {d : Nat} {Q : Option Value → jm_h → Prop} (hd : 2 ≤ d) (F : Nat → sy_d) (X1 X2 : List jm_c) (hB : iv_in F iv_B0)
    (h0 : 0 ≤ (sy_i F 82).toInt)
    (h1 : (sy_i F 82).toInt < (sy_i F 19).toInt)
    (h2 : 0 ≤ (sy_i F 83).toInt)
    (h3 : (sy_i F 83).toInt ≤ 9)
    (h4 : 0 ≤ (sy_i F 82).toInt ∧ (sy_i F 82).toInt < 4)
    (h5 : ((sy_ai F 60).getD (sy_i F 82).toNatClampNeg 0).toInt = (sy_i F 83).toInt)
    (k : ∀ F1 : Nat → sy_d, (∀ j, j < 82 → True → F1 j = F j) → Q (some (.int ((0 : Int32)))) (sy_dh F1 X1 X2 (iv_H 2))) :
    hd_W Ls xs d jm_M88 Q (0, sy_dL F [some (.inl (.ref 8)), some (.inr (.inl 82)), some (.inr (.inl 83))], sy_dS F [], sy_dh F X1 X2 (iv_H 2), 0, 0) := by
  refine hd_ret (s := 2) (nv := 84) (v := some (.inl (.int 0))) (uh := hd_ov (iv_id 0 iv_B0) []) (f := true) (sp := [41]) (d0 := 1) (O := [false, false, false, false, false]) (T := [(30, [.inr (.inl 82)], [.inr (.inl 60)])]) (P := [(3, .inr (.inl 82), .inl (.int 0)), (5, .inr (.inl 19), .inr (.inl 82)), (3, .inr (.inl 83), .inl (.int 0)), (3, .inl (.int 9), .inr (.inl 83)), (6, .inr (.inl 82), .inl (.ref 4)), (0, .inr (.inl 84), .inr (.inl 83))]) jm_ok88 (by decide +kernel) (by decide +kernel) hd F X1 X2 (fun F' hF hs => ?_)
  have b82 := hd_b (F := F) (F' := F') (k := 82) (hF 82 (by decide))
  have b19 := hd_b (F := F) (F' := F') (k := 19) (hF 19 (by decide))
  have b83 := hd_b (F := F) (F' := F') (k := 83) (hF 83 (by decide))
  have a60 := hd_ba (F := F) (F' := F') (k := 60) (hF 60 (by decide))
  have t84 : sy_dv F' (.inr (.inl 84)) = .int ((sy_ai F 60).getD (sy_i F 82).toNatClampNeg 0) := hd_rd (hs 0 _ rfl) b82 a60
  have hB' : iv_in F' iv_B0 := iv_in_eq hB (fun j hj => hF j (Nat.lt_of_lt_of_le hj (by decide +kernel)))
  refine ⟨List.forall_mem_cons.mpr ⟨hd_p3 b82 rfl (by have hc : ((0) : Int32).toInt = 0 := (by decide); omega), List.forall_mem_cons.mpr ⟨hd_p5 b19 b82 h1, List.forall_mem_cons.mpr ⟨hd_p3 b83 rfl (by have hc : ((0) : Int32).toInt = 0 := (by decide); omega), List.forall_mem_cons.mpr ⟨hd_p3 rfl b83 (by have hc : ((9) : Int32).toInt = 9 := (by decide); omega), List.forall_mem_cons.mpr ⟨hd_pb b82 (by first | exact h4 | exact h4), List.forall_mem_cons.mpr ⟨hd_p0 t84 b83 h5, fun _ h => absurd h List.not_mem_nil⟩⟩⟩⟩⟩⟩, ?_⟩
  refine k _ ?_
  · exact fun j hj _ => (hd_keep hB' (Nat.lt_of_lt_of_le hj (by decide +kernel)) (by simp)).trans (hF j (Nat.lt_of_lt_of_le hj (by decide)))
theorem j2go_0 {Ls : Nat} {xs : Nat → Int32} {d : Nat} {Q : Option Value → jm_h → Prop} (hd : 2 ≤ d) (F : Nat → sy_d) (X1 X2 : List jm_c) (hB : iv_in F iv_B0)
    (k0 : (sy_i F 82).toInt < 0 → ∀ F1 : Nat → sy_d, iv_in F1 iv_B0 → (∀ j, j < 82 → j ∉ ([] : List Nat) → F1 j = F j) → Q (some (.int ((0 : Int32)))) (sy_dh F1 X1 X2 (iv_H 2)))
    (k1 : 0 ≤ (sy_i F 82).toInt → (sy_i F 19).toInt ≤ (sy_i F 82).toInt → ∀ F1 : Nat → sy_d, iv_in F1 iv_B0 → (∀ j, j < 82 → j ∉ ([] : List Nat) → F1 j = F j) → Q (some (.int ((0 : Int32)))) (sy_dh F1 X1 X2 (iv_H 2)))
    (k2 : 0 ≤ (sy_i F 82).toInt → (sy_i F 82).toInt < (sy_i F 19).toInt → (sy_i F 83).toInt < 0 → ∀ F1 : Nat → sy_d, iv_in F1 iv_B0 → (∀ j, j < 82 → j ∉ ([] : List Nat) → F1 j = F j) → Q (some (.int ((0 : Int32)))) (sy_dh F1 X1 X2 (iv_H 2)))
    (k3 : 0 ≤ (sy_i F 82).toInt → (sy_i F 82).toInt < (sy_i F 19).toInt → 0 ≤ (sy_i F 83).toInt → 9 < (sy_i F 83).toInt → ∀ F1 : Nat → sy_d, iv_in F1 iv_B0 → (∀ j, j < 82 → j ∉ ([] : List Nat) → F1 j = F j) → Q (some (.int ((0 : Int32)))) (sy_dh F1 X1 X2 (iv_H 2)))
    (k4 : 0 ≤ (sy_i F 82).toInt → (sy_i F 82).toInt < (sy_i F 19).toInt → 0 ≤ (sy_i F 83).toInt → (sy_i F 83).toInt ≤ 9 → ((sy_ai F 60).getD ((sy_i F 82).toInt).toNat 0).toInt ≠ (sy_i F 83).toInt → ∀ F1 : Nat → sy_d, iv_in F1 iv_B0 → (∀ j, j < 82 → j ∉ ([] : List Nat) → F1 j = F j) → (sy_i F1 82).toInt = (sy_i F 82).toInt → sy_i F1 82 = sy_i F 82 → (sy_i F1 83).toInt = (sy_i F 83).toInt → sy_i F1 83 = sy_i F 83 → hd_W Ls xs d jm_M88 Q (41, sy_dL F1 [some (.inl (.ref 8)), some (.inr (.inl 82)), some (.inr (.inl 83))], sy_dS F1 [.inl (.ref 46), .inl (.ref 66)], sy_dh F1 X1 X2 (iv_H 2), 0, 0))
    (k5 : 0 ≤ (sy_i F 82).toInt → (sy_i F 82).toInt < (sy_i F 19).toInt → 0 ≤ (sy_i F 83).toInt → (sy_i F 83).toInt ≤ 9 → ((sy_ai F 60).getD ((sy_i F 82).toInt).toNat 0).toInt = (sy_i F 83).toInt → ∀ F1 : Nat → sy_d, iv_in F1 iv_B0 → (∀ j, j < 82 → j ∉ ([] : List Nat) → F1 j = F j) → Q (some (.int ((0 : Int32)))) (sy_dh F1 X1 X2 (iv_H 2))) :
    hd_W Ls xs d jm_M88 Q (0, sy_dL F [some (.inl (.ref 8)), some (.inr (.inl 82)), some (.inr (.inl 83))], sy_dS F [], sy_dh F X1 X2 (iv_H 2), 0, 0) := by
  by_cases g0 : (sy_i F 82).toInt < 0
  · exact j2go_0_p0 hd F X1 X2 hB (by first | exact g0 | (simp only [nz_c]; exact g0)) (fun F1 g  => k0 g0 F1 (nz_in0 hB [] (fun j hj hn => g j hj (by simp only [List.mem_cons, List.not_mem_nil, or_false, not_or] at hn; exact trivial)) (List.forall_mem_nil _)) (fun j hj hn => g j hj (by simp only [List.mem_cons, List.not_mem_nil, or_false, not_or] at hn; exact trivial)) )
  replace g0 : 0 ≤ (sy_i F 82).toInt := by omega
  by_cases g1 : (sy_i F 19).toInt ≤ (sy_i F 82).toInt
  · have c19 := nz_bx hB (k := 19) (lo := 0) (hi := 4) rfl
    exact j2go_0_p1 hd F X1 X2 hB (by first | exact g0 | (simp only [nz_c]; exact g0)) (by first | exact g1 | (simp only [nz_c]; exact g1)) (fun F1 g  => k1 g0 g1 F1 (nz_in0 hB [] (fun j hj hn => g j hj (by simp only [List.mem_cons, List.not_mem_nil, or_false, not_or] at hn; exact trivial)) (List.forall_mem_nil _)) (fun j hj hn => g j hj (by simp only [List.mem_cons, List.not_mem_nil, or_false, not_or] at hn; exact trivial)) )
  replace g1 : (sy_i F 82).toInt < (sy_i F 19).toInt := by omega
  by_cases g2 : (sy_i F 83).toInt < 0
  · have c19 := nz_bx hB (k := 19) (lo := 0) (hi := 4) rfl
    exact j2go_0_p2 hd F X1 X2 hB (by first | exact g0 | (simp only [nz_c]; exact g0)) (by first | exact g1 | (simp only [nz_c]; exact g1)) (by first | exact g2 | (simp only [nz_c]; exact g2)) (fun F1 g  => k2 g0 g1 g2 F1 (nz_in0 hB [] (fun j hj hn => g j hj (by simp only [List.mem_cons, List.not_mem_nil, or_false, not_or] at hn; exact trivial)) (List.forall_mem_nil _)) (fun j hj hn => g j hj (by simp only [List.mem_cons, List.not_mem_nil, or_false, not_or] at hn; exact trivial)) )
  replace g2 : 0 ≤ (sy_i F 83).toInt := by omega
  by_cases g3 : 9 < (sy_i F 83).toInt
  · have c19 := nz_bx hB (k := 19) (lo := 0) (hi := 4) rfl
    exact j2go_0_p3 hd F X1 X2 hB (by first | exact g0 | (simp only [nz_c]; exact g0)) (by first | exact g1 | (simp only [nz_c]; exact g1)) (by first | exact g2 | (simp only [nz_c]; exact g2)) (by first | exact g3 | (simp only [nz_c]; exact g3)) (fun F1 g  => k3 g0 g1 g2 g3 F1 (nz_in0 hB [] (fun j hj hn => g j hj (by simp only [List.mem_cons, List.not_mem_nil, or_false, not_or] at hn; exact trivial)) (List.forall_mem_nil _)) (fun j hj hn => g j hj (by simp only [List.mem_cons, List.not_mem_nil, or_false, not_or] at hn; exact trivial)) )
  replace g3 : (sy_i F 83).toInt ≤ 9 := by omega
  by_cases g4 : ((sy_ai F 60).getD ((sy_i F 82).toInt).toNat 0).toInt ≠ (sy_i F 83).toInt
  · have c19 := nz_bx hB (k := 19) (lo := 0) (hi := 4) rfl
    have q84 : (sy_ai F 60).getD (sy_i F 82).toNatClampNeg 0 = (sy_ai F 60).getD ((sy_i F 82).toInt).toNat 0 := by simp only [nz_c]
    have n84 : nzI ((sy_ai F 60).getD (sy_i F 82).toNatClampNeg 0) (((sy_ai F 60).getD ((sy_i F 82).toInt).toNat 0).toInt) := congrArg Int32.toInt q84
    exact j2go_0_p4 hd F X1 X2 hB (by first | exact g0 | (simp only [nz_c]; exact g0)) (by first | exact g1 | (simp only [nz_c]; exact g1)) (by first | exact g2 | (simp only [nz_c]; exact g2)) (by first | exact g3 | (simp only [nz_c]; exact g3)) (by first | exact ⟨by omega, by omega⟩ | (simp only [nz_c]; exact ⟨by omega, by omega⟩)) (by first | exact g4 | (simp only [nz_c]; exact g4) | (rw [(nzE n84)]; exact g4)) (fun F1 g e82 e83 => k4 g0 g1 g2 g3 g4 F1 (nz_in0 hB [] (fun j hj hn => g j hj (by simp only [List.mem_cons, List.not_mem_nil, or_false, not_or] at hn; exact trivial)) (List.forall_mem_nil _)) (fun j hj hn => g j hj (by simp only [List.mem_cons, List.not_mem_nil, or_false, not_or] at hn; exact trivial)) ((congrArg Int32.toInt (zz_i e82)).trans (rfl : (sy_i F 82).toInt = (sy_i F 82).toInt)) ((zz_i e82).trans (rfl : sy_i F 82 = sy_i F 82)) ((congrArg Int32.toInt (zz_i e83)).trans (rfl : (sy_i F 83).toInt = (sy_i F 83).toInt)) ((zz_i e83).trans (rfl : sy_i F 83 = sy_i F 83)))
  replace g4 : ((sy_ai F 60).getD ((sy_i F 82).toInt).toNat 0).toInt = (sy_i F 83).toInt := by omega
  have c19 := nz_bx hB (k := 19) (lo := 0) (hi := 4) rfl
  have q84 : (sy_ai F 60).getD (sy_i F 82).toNatClampNeg 0 = (sy_ai F 60).getD ((sy_i F 82).toInt).toNat 0 := by simp only [nz_c]
  have n84 : nzI ((sy_ai F 60).getD (sy_i F 82).toNatClampNeg 0) (((sy_ai F 60).getD ((sy_i F 82).toInt).toNat 0).toInt) := congrArg Int32.toInt q84
  exact j2go_0_p5 hd F X1 X2 hB (by first | exact g0 | (simp only [nz_c]; exact g0)) (by first | exact g1 | (simp only [nz_c]; exact g1)) (by first | exact g2 | (simp only [nz_c]; exact g2)) (by first | exact g3 | (simp only [nz_c]; exact g3)) (by first | exact ⟨by omega, by omega⟩ | (simp only [nz_c]; exact ⟨by omega, by omega⟩)) (by first | exact g4 | (simp only [nz_c]; exact g4) | (rw [(nzE n84)]; exact g4)) (fun F1 g  => k5 g0 g1 g2 g3 g4 F1 (nz_in0 hB [] (fun j hj hn => g j hj (by simp only [List.mem_cons, List.not_mem_nil, or_false, not_or] at hn; exact trivial)) (List.forall_mem_nil _)) (fun j hj hn => g j hj (by simp only [List.mem_cons, List.not_mem_nil, or_false, not_or] at hn; exact trivial)) )
theorem j2go_44_p0 {Ls : Nat} {xs : Nat → Int32} {d : Nat} {Q : Option Value → jm_h → Prop} (hd : 1 ≤ d) (F : Nat → sy_d) (X1 X2 : List jm_c) (hB : iv_in F iv_B0)
    (h0 : 0 ≤ (sy_i F 82).toInt ∧ (sy_i F 82).toInt < 4)
    (k : ∀ F1 : Nat → sy_d, (∀ j, j < 82 → j ≠ 60 → F1 j = F j) → F1 60 = .inr (.inl (jm_upd (sy_ai F 60) (sy_i F 82).toNatClampNeg (sy_i F 83))) → Q (some (.int ((1 : Int32)))) (sy_dh F1 X1 X2 (iv_H 2))) :
    hd_W Ls xs d jm_M88 Q (44, sy_dL F [some (.inl (.ref 8)), some (.inr (.inl 82)), some (.inr (.inl 83))], sy_dS F [], sy_dh F X1 X2 (iv_H 2), 0, 0) := by
  refine hd_ret (s := 2) (nv := 84) (v := some (.inl (.int 1))) (uh := hd_ov (iv_id 0 iv_B0) [(60, .inr (.inr (.inl 84)))]) (f := false) (sp := []) (d0 := 0) (O := []) (T := [(40, [.inr (.inl 82), .inr (.inl 83)], [.inr (.inl 60)])]) (P := [(6, .inr (.inl 82), .inl (.ref 4))]) jm_ok88 (by decide +kernel) (by decide +kernel) hd F X1 X2 (fun F' hF hs => ?_)
  have b82 := hd_b (F := F) (F' := F') (k := 82) (hF 82 (by decide))
  have b83 := hd_b (F := F) (F' := F') (k := 83) (hF 83 (by decide))
  have a60 := hd_ba (F := F) (F' := F') (k := 60) (hF 60 (by decide))
  have t84 : sy_da F' (.inr (.inl 84)) = .inl (jm_upd (sy_ai F 60) (sy_i F 82).toNatClampNeg (sy_i F 83)) := hd_up (hs 0 _ rfl) b82 b83 a60
  have hB' : iv_in F' iv_B0 := iv_in_eq hB (fun j hj => hF j (Nat.lt_of_lt_of_le hj (by decide +kernel)))
  refine ⟨List.forall_mem_cons.mpr ⟨hd_pb b82 (by first | exact h0 | exact h0), fun _ h => absurd h List.not_mem_nil⟩, ?_⟩
  refine k _ ?_ ?_
  · exact fun j hj hn => (hd_keep hB' (Nat.lt_of_lt_of_le hj (by decide +kernel)) (by simp; omega)).trans (hF j (Nat.lt_of_lt_of_le hj (by decide)))
  · exact hd_ga (a := .inr (.inl 84)) (by decide +kernel) t84
theorem j2go_44 {Ls : Nat} {xs : Nat → Int32} {d : Nat} {Q : Option Value → jm_h → Prop} (hd : 1 ≤ d) (F : Nat → sy_d) (X1 X2 : List jm_c) (hB : iv_in F iv_B0)
    (a82 : 0 ≤ (sy_i F 82).toInt ∧ (sy_i F 82).toInt ≤ 3)
    (a83 : 0 ≤ (sy_i F 83).toInt ∧ (sy_i F 83).toInt ≤ 9)
    (k0 : ∀ F1 : Nat → sy_d, iv_in F1 iv_B0 → (∀ j, j < 82 → j ∉ ([60] : List Nat) → F1 j = F j) → sy_ai F1 60 = jm_upd (sy_ai F 60) ((sy_i F 82).toInt).toNat (sy_i F 83) → Q (some (.int ((1 : Int32)))) (sy_dh F1 X1 X2 (iv_H 2))) :
    hd_W Ls xs d jm_M88 Q (44, sy_dL F [some (.inl (.ref 8)), some (.inr (.inl 82)), some (.inr (.inl 83))], sy_dS F [], sy_dh F X1 X2 (iv_H 2), 0, 0) := by
  have w84 : jm_upd (sy_ai F 60) (sy_i F 82).toNatClampNeg (sy_i F 83) = jm_upd (sy_ai F 60) ((sy_i F 82).toInt).toNat (sy_i F 83) := by simp only [nz_c]
  exact j2go_44_p0 hd F X1 X2 hB (by first | exact ⟨by omega, by omega⟩ | (simp only [nz_c]; exact ⟨by omega, by omega⟩)) (fun F1 g e60 => k0 F1 (nz_in0 hB [60] (fun j hj hn => g j hj (by simp only [List.mem_cons, List.not_mem_nil, or_false, not_or] at hn; omega)) (List.forall_mem_cons.mpr ⟨fun t ht => (Option.some.inj ht) ▸ (nz_hz2 e60), List.forall_mem_nil _⟩)) (fun j hj hn => g j hj (by simp only [List.mem_cons, List.not_mem_nil, or_false, not_or] at hn; omega)) ((zz_ai e60).trans w84))
theorem j2pr_0_p0 {Ls : Nat} {xs : Nat → Int32} {d : Nat} {Q : Option Value → jm_h → Prop} (hd : 2 ≤ d) (F : Nat → sy_d) (X1 X2 : List jm_c) (hB : iv_in F iv_B0)
    (h0 : (sy_i F 83).toInt = 0)
    (h1 : (sy_i F 82).toInt < 0)
    (k : ∀ F1 : Nat → sy_d, (∀ j, j < 82 → True → F1 j = F j) → Q (some (.int ((0 : Int32)))) (sy_dh F1 X1 X2 (iv_H 2))) :
    hd_W Ls xs d jm_M89 Q (0, sy_dL F [some (.inl (.ref 8)), some (.inr (.inl 82)), some (.inr (.inl 83)), none], sy_dS F [], sy_dh F X1 X2 (iv_H 2), 0, 0) := by
  refine hd_ret (s := 2) (nv := 84) (v := some (.inl (.int 0))) (uh := hd_ov (iv_id 0 iv_B0) []) (f := true) (sp := [53]) (d0 := 1) (O := [true, true]) (T := []) (P := [(0, .inr (.inl 83), .inl (.int 0)), (2, .inr (.inl 82), .inl (.int 0))]) jm_ok89 (by decide +kernel) (by decide +kernel) hd F X1 X2 (fun F' hF hs => ?_)
  have b83 := hd_b (F := F) (F' := F') (k := 83) (hF 83 (by decide))
  have b82 := hd_b (F := F) (F' := F') (k := 82) (hF 82 (by decide))
  have hB' : iv_in F' iv_B0 := iv_in_eq hB (fun j hj => hF j (Nat.lt_of_lt_of_le hj (by decide +kernel)))
  refine ⟨List.forall_mem_cons.mpr ⟨hd_p0 b83 rfl (by have hc : ((0) : Int32).toInt = 0 := (by decide); omega), List.forall_mem_cons.mpr ⟨hd_p2 b82 rfl (by have hc : ((0) : Int32).toInt = 0 := (by decide); omega), fun _ h => absurd h List.not_mem_nil⟩⟩, ?_⟩
  refine k _ ?_
  · exact fun j hj _ => (hd_keep hB' (Nat.lt_of_lt_of_le hj (by decide +kernel)) (by simp)).trans (hF j (Nat.lt_of_lt_of_le hj (by decide)))
theorem j2pr_0_p1 {Ls : Nat} {xs : Nat → Int32} {d : Nat} {Q : Option Value → jm_h → Prop} (hd : 2 ≤ d) (F : Nat → sy_d) (X1 X2 : List jm_c) (hB : iv_in F iv_B0)
    (h0 : (sy_i F 83).toInt = 0)
    (h1 : 0 ≤ (sy_i F 82).toInt)
    (h2 : (sy_i F 18).toInt ≤ (sy_i F 82).toInt)
    (k : ∀ F1 : Nat → sy_d, (∀ j, j < 82 → True → F1 j = F j) → Q (some (.int ((0 : Int32)))) (sy_dh F1 X1 X2 (iv_H 2))) :
    hd_W Ls xs d jm_M89 Q (0, sy_dL F [some (.inl (.ref 8)), some (.inr (.inl 82)), some (.inr (.inl 83)), none], sy_dS F [], sy_dh F X1 X2 (iv_H 2), 0, 0) := by
  refine hd_ret (s := 2) (nv := 84) (v := some (.inl (.int 0))) (uh := hd_ov (iv_id 0 iv_B0) []) (f := true) (sp := [53]) (d0 := 1) (O := [true, false, true]) (T := []) (P := [(0, .inr (.inl 83), .inl (.int 0)), (3, .inr (.inl 82), .inl (.int 0)), (4, .inr (.inl 18), .inr (.inl 82))]) jm_ok89 (by decide +kernel) (by decide +kernel) hd F X1 X2 (fun F' hF hs => ?_)
  have b83 := hd_b (F := F) (F' := F') (k := 83) (hF 83 (by decide))
  have b82 := hd_b (F := F) (F' := F') (k := 82) (hF 82 (by decide))
  have b18 := hd_b (F := F) (F' := F') (k := 18) (hF 18 (by decide))
  have hB' : iv_in F' iv_B0 := iv_in_eq hB (fun j hj => hF j (Nat.lt_of_lt_of_le hj (by decide +kernel)))
  refine ⟨List.forall_mem_cons.mpr ⟨hd_p0 b83 rfl (by have hc : ((0) : Int32).toInt = 0 := (by decide); omega), List.forall_mem_cons.mpr ⟨hd_p3 b82 rfl (by have hc : ((0) : Int32).toInt = 0 := (by decide); omega), List.forall_mem_cons.mpr ⟨hd_p4 b18 b82 h2, fun _ h => absurd h List.not_mem_nil⟩⟩⟩, ?_⟩
  refine k _ ?_
  · exact fun j hj _ => (hd_keep hB' (Nat.lt_of_lt_of_le hj (by decide +kernel)) (by simp)).trans (hF j (Nat.lt_of_lt_of_le hj (by decide)))
theorem j2pr_0_p2 {Ls : Nat} {xs : Nat → Int32} {d : Nat} {Q : Option Value → jm_h → Prop} (hd : 2 ≤ d) (F : Nat → sy_d) (X1 X2 : List jm_c) (hB : iv_in F iv_B0)
    (h0 : (sy_i F 83).toInt = 0)
    (h1 : 0 ≤ (sy_i F 82).toInt)
    (h2 : (sy_i F 82).toInt < (sy_i F 18).toInt)
    (h3 : 0 ≤ (sy_i F 82).toInt ∧ (sy_i F 82).toInt < 7)
    (h4 : ((sy_ai F 54).getD (sy_i F 82).toNatClampNeg 0).toInt ≠ 0)
    (k : ∀ F1 : Nat → sy_d, (∀ j, j < 82 → True → F1 j = F j) → Q (some (.int ((0 : Int32)))) (sy_dh F1 X1 X2 (iv_H 2))) :
    hd_W Ls xs d jm_M89 Q (0, sy_dL F [some (.inl (.ref 8)), some (.inr (.inl 82)), some (.inr (.inl 83)), none], sy_dS F [], sy_dh F X1 X2 (iv_H 2), 0, 0) := by
  refine hd_ret (s := 2) (nv := 84) (v := some (.inl (.int 0))) (uh := hd_ov (iv_id 0 iv_B0) []) (f := true) (sp := [53]) (d0 := 1) (O := [true, false, false, true]) (T := [(30, [.inr (.inl 82)], [.inr (.inl 54)])]) (P := [(0, .inr (.inl 83), .inl (.int 0)), (3, .inr (.inl 82), .inl (.int 0)), (5, .inr (.inl 18), .inr (.inl 82)), (6, .inr (.inl 82), .inl (.ref 7)), (1, .inr (.inl 84), .inl (.int 0))]) jm_ok89 (by decide +kernel) (by decide +kernel) hd F X1 X2 (fun F' hF hs => ?_)
  have b83 := hd_b (F := F) (F' := F') (k := 83) (hF 83 (by decide))
  have b82 := hd_b (F := F) (F' := F') (k := 82) (hF 82 (by decide))
  have b18 := hd_b (F := F) (F' := F') (k := 18) (hF 18 (by decide))
  have a54 := hd_ba (F := F) (F' := F') (k := 54) (hF 54 (by decide))
  have t84 : sy_dv F' (.inr (.inl 84)) = .int ((sy_ai F 54).getD (sy_i F 82).toNatClampNeg 0) := hd_rd (hs 0 _ rfl) b82 a54
  have hB' : iv_in F' iv_B0 := iv_in_eq hB (fun j hj => hF j (Nat.lt_of_lt_of_le hj (by decide +kernel)))
  refine ⟨List.forall_mem_cons.mpr ⟨hd_p0 b83 rfl (by have hc : ((0) : Int32).toInt = 0 := (by decide); omega), List.forall_mem_cons.mpr ⟨hd_p3 b82 rfl (by have hc : ((0) : Int32).toInt = 0 := (by decide); omega), List.forall_mem_cons.mpr ⟨hd_p5 b18 b82 h2, List.forall_mem_cons.mpr ⟨hd_pb b82 (by first | exact h3 | exact h3), List.forall_mem_cons.mpr ⟨hd_p1 t84 rfl (by have hc : ((0) : Int32).toInt = 0 := (by decide); omega), fun _ h => absurd h List.not_mem_nil⟩⟩⟩⟩⟩, ?_⟩
  refine k _ ?_
  · exact fun j hj _ => (hd_keep hB' (Nat.lt_of_lt_of_le hj (by decide +kernel)) (by simp)).trans (hF j (Nat.lt_of_lt_of_le hj (by decide)))
theorem j2pr_0_p3 {Ls : Nat} {xs : Nat → Int32} {d : Nat} {Q : Option Value → jm_h → Prop} (hd : 2 ≤ d) (F : Nat → sy_d) (X1 X2 : List jm_c) (hB : iv_in F iv_B0)
    (h0 : (sy_i F 83).toInt = 0)
    (h1 : 0 ≤ (sy_i F 82).toInt)
    (h2 : (sy_i F 82).toInt < (sy_i F 18).toInt)
    (h3 : 0 ≤ (sy_i F 82).toInt ∧ (sy_i F 82).toInt < 7)
    (h4 : ((sy_ai F 54).getD (sy_i F 82).toNatClampNeg 0).toInt = 0)
    (h5 : 0 ≤ (sy_i F 82).toInt ∧ (sy_i F 82).toInt < 7)
    (h6 : ((sy_ai F 57).getD (sy_i F 82).toNatClampNeg 0).toInt ≠ 0)
    (k : ∀ F1 : Nat → sy_d, (∀ j, j < 82 → True → F1 j = F j) → F1 82 = .inl (.int (sy_i F 82)) → F1 83 = .inl (.int ((0 : Int32))) → hd_W Ls xs d jm_M89 Q (53, sy_dL F1 [some (.inl (.ref 8)), some (.inr (.inl 82)), none, some (.inr (.inl 83))], sy_dS F1 [.inl (.ref 46), .inl (.ref 66)], sy_dh F1 X1 X2 (iv_H 2), 0, 0)) :
    hd_W Ls xs d jm_M89 Q (0, sy_dL F [some (.inl (.ref 8)), some (.inr (.inl 82)), some (.inr (.inl 83)), none], sy_dS F [], sy_dh F X1 X2 (iv_H 2), 0, 0) := by
  refine hd_run (s := 2) (nv := 84) (pc := 53) (L := [some (.inl (.ref 8)), some (.inr (.inl 82)), none, some (.inr (.inl 83))]) (S := [.inl (.ref 46), .inl (.ref 66)]) (uh := hd_ov (iv_id 0 iv_B0) []) (ul := [.inl (.inr (.inl 82)), .inl (.inl (.int 0))]) (f := true) (sp := [53]) (d0 := 1) (O := [true, false, false, false, true]) (T := [(30, [.inr (.inl 82)], [.inr (.inl 54)]), (30, [.inr (.inl 82)], [.inr (.inl 57)])]) (P := [(0, .inr (.inl 83), .inl (.int 0)), (3, .inr (.inl 82), .inl (.int 0)), (5, .inr (.inl 18), .inr (.inl 82)), (6, .inr (.inl 82), .inl (.ref 7)), (0, .inr (.inl 84), .inl (.int 0)), (6, .inr (.inl 82), .inl (.ref 7)), (1, .inr (.inl 85), .inl (.int 0))]) jm_ok89 (by decide +kernel) (by decide +kernel) hd F X1 X2 (fun F' hF hs => ?_)
  have b83 := hd_b (F := F) (F' := F') (k := 83) (hF 83 (by decide))
  have b82 := hd_b (F := F) (F' := F') (k := 82) (hF 82 (by decide))
  have b18 := hd_b (F := F) (F' := F') (k := 18) (hF 18 (by decide))
  have a54 := hd_ba (F := F) (F' := F') (k := 54) (hF 54 (by decide))
  have t84 : sy_dv F' (.inr (.inl 84)) = .int ((sy_ai F 54).getD (sy_i F 82).toNatClampNeg 0) := hd_rd (hs 0 _ rfl) b82 a54
  have a57 := hd_ba (F := F) (F' := F') (k := 57) (hF 57 (by decide))
  have t85 : sy_dv F' (.inr (.inl 85)) = .int ((sy_ai F 57).getD (sy_i F 82).toNatClampNeg 0) := hd_rd (hs 1 _ rfl) b82 a57
  have hB' : iv_in F' iv_B0 := iv_in_eq hB (fun j hj => hF j (Nat.lt_of_lt_of_le hj (by decide +kernel)))
  refine ⟨List.forall_mem_cons.mpr ⟨hd_p0 b83 rfl (by have hc : ((0) : Int32).toInt = 0 := (by decide); omega), List.forall_mem_cons.mpr ⟨hd_p3 b82 rfl (by have hc : ((0) : Int32).toInt = 0 := (by decide); omega), List.forall_mem_cons.mpr ⟨hd_p5 b18 b82 h2, List.forall_mem_cons.mpr ⟨hd_pb b82 (by first | exact h3 | exact h3), List.forall_mem_cons.mpr ⟨hd_p0 t84 rfl (by have hc : ((0) : Int32).toInt = 0 := (by decide); omega), List.forall_mem_cons.mpr ⟨hd_pb b82 (by first | exact h5 | exact h5), List.forall_mem_cons.mpr ⟨hd_p1 t85 rfl (by have hc : ((0) : Int32).toInt = 0 := (by decide); omega), fun _ h => absurd h List.not_mem_nil⟩⟩⟩⟩⟩⟩⟩, ?_⟩
  refine k _ ?_ ?_ ?_
  · exact fun j hj _ => (hd_keep hB' (Nat.lt_of_lt_of_le hj (by decide +kernel)) (by simp)).trans (hF j (Nat.lt_of_lt_of_le hj (by decide)))
  · exact hd_gi (x := .inr (.inl 82)) (by decide +kernel) b82
  · exact hd_gi (x := .inl (.int 0)) (by decide +kernel) rfl
theorem j2pr_0_p4 {Ls : Nat} {xs : Nat → Int32} {d : Nat} {Q : Option Value → jm_h → Prop} (hd : 2 ≤ d) (F : Nat → sy_d) (X1 X2 : List jm_c) (hB : iv_in F iv_B0)
    (h0 : (sy_i F 83).toInt = 0)
    (h1 : 0 ≤ (sy_i F 82).toInt)
    (h2 : (sy_i F 82).toInt < (sy_i F 18).toInt)
    (h3 : 0 ≤ (sy_i F 82).toInt ∧ (sy_i F 82).toInt < 7)
    (h4 : ((sy_ai F 54).getD (sy_i F 82).toNatClampNeg 0).toInt = 0)
    (h5 : 0 ≤ (sy_i F 82).toInt ∧ (sy_i F 82).toInt < 7)
    (h6 : ((sy_ai F 57).getD (sy_i F 82).toNatClampNeg 0).toInt = 0)
    (k : ∀ F1 : Nat → sy_d, (∀ j, j < 82 → True → F1 j = F j) → Q (some (.int ((0 : Int32)))) (sy_dh F1 X1 X2 (iv_H 2))) :
    hd_W Ls xs d jm_M89 Q (0, sy_dL F [some (.inl (.ref 8)), some (.inr (.inl 82)), some (.inr (.inl 83)), none], sy_dS F [], sy_dh F X1 X2 (iv_H 2), 0, 0) := by
  refine hd_ret (s := 2) (nv := 84) (v := some (.inl (.int 0))) (uh := hd_ov (iv_id 0 iv_B0) []) (f := true) (sp := [53]) (d0 := 1) (O := [true, false, false, false, false]) (T := [(30, [.inr (.inl 82)], [.inr (.inl 54)]), (30, [.inr (.inl 82)], [.inr (.inl 57)])]) (P := [(0, .inr (.inl 83), .inl (.int 0)), (3, .inr (.inl 82), .inl (.int 0)), (5, .inr (.inl 18), .inr (.inl 82)), (6, .inr (.inl 82), .inl (.ref 7)), (0, .inr (.inl 84), .inl (.int 0)), (6, .inr (.inl 82), .inl (.ref 7)), (0, .inr (.inl 85), .inl (.int 0))]) jm_ok89 (by decide +kernel) (by decide +kernel) hd F X1 X2 (fun F' hF hs => ?_)
  have b83 := hd_b (F := F) (F' := F') (k := 83) (hF 83 (by decide))
  have b82 := hd_b (F := F) (F' := F') (k := 82) (hF 82 (by decide))
  have b18 := hd_b (F := F) (F' := F') (k := 18) (hF 18 (by decide))
  have a54 := hd_ba (F := F) (F' := F') (k := 54) (hF 54 (by decide))
  have t84 : sy_dv F' (.inr (.inl 84)) = .int ((sy_ai F 54).getD (sy_i F 82).toNatClampNeg 0) := hd_rd (hs 0 _ rfl) b82 a54
  have a57 := hd_ba (F := F) (F' := F') (k := 57) (hF 57 (by decide))
  have t85 : sy_dv F' (.inr (.inl 85)) = .int ((sy_ai F 57).getD (sy_i F 82).toNatClampNeg 0) := hd_rd (hs 1 _ rfl) b82 a57
  have hB' : iv_in F' iv_B0 := iv_in_eq hB (fun j hj => hF j (Nat.lt_of_lt_of_le hj (by decide +kernel)))
  refine ⟨List.forall_mem_cons.mpr ⟨hd_p0 b83 rfl (by have hc : ((0) : Int32).toInt = 0 := (by decide); omega), List.forall_mem_cons.mpr ⟨hd_p3 b82 rfl (by have hc : ((0) : Int32).toInt = 0 := (by decide); omega), List.forall_mem_cons.mpr ⟨hd_p5 b18 b82 h2, List.forall_mem_cons.mpr ⟨hd_pb b82 (by first | exact h3 | exact h3), List.forall_mem_cons.mpr ⟨hd_p0 t84 rfl (by have hc : ((0) : Int32).toInt = 0 := (by decide); omega), List.forall_mem_cons.mpr ⟨hd_pb b82 (by first | exact h5 | exact h5), List.forall_mem_cons.mpr ⟨hd_p0 t85 rfl (by have hc : ((0) : Int32).toInt = 0 := (by decide); omega), fun _ h => absurd h List.not_mem_nil⟩⟩⟩⟩⟩⟩⟩, ?_⟩
  refine k _ ?_
  · exact fun j hj _ => (hd_keep hB' (Nat.lt_of_lt_of_le hj (by decide +kernel)) (by simp)).trans (hF j (Nat.lt_of_lt_of_le hj (by decide)))
theorem j2pr_0_p5 {Ls : Nat} {xs : Nat → Int32} {d : Nat} {Q : Option Value → jm_h → Prop} (hd : 2 ≤ d) (F : Nat → sy_d) (X1 X2 : List jm_c) (hB : iv_in F iv_B0)
    (h0 : (sy_i F 83).toInt ≠ 0)
    (h1 : (sy_i F 82).toInt < 0)
    (k : ∀ F1 : Nat → sy_d, (∀ j, j < 82 → True → F1 j = F j) → Q (some (.int ((0 : Int32)))) (sy_dh F1 X1 X2 (iv_H 2))) :
    hd_W Ls xs d jm_M89 Q (0, sy_dL F [some (.inl (.ref 8)), some (.inr (.inl 82)), some (.inr (.inl 83)), none], sy_dS F [], sy_dh F X1 X2 (iv_H 2), 0, 0) := by
  refine hd_ret (s := 2) (nv := 84) (v := some (.inl (.int 0))) (uh := hd_ov (iv_id 0 iv_B0) []) (f := true) (sp := [53]) (d0 := 1) (O := [false, true]) (T := []) (P := [(1, .inr (.inl 83), .inl (.int 0)), (2, .inr (.inl 82), .inl (.int 0))]) jm_ok89 (by decide +kernel) (by decide +kernel) hd F X1 X2 (fun F' hF hs => ?_)
  have b83 := hd_b (F := F) (F' := F') (k := 83) (hF 83 (by decide))
  have b82 := hd_b (F := F) (F' := F') (k := 82) (hF 82 (by decide))
  have hB' : iv_in F' iv_B0 := iv_in_eq hB (fun j hj => hF j (Nat.lt_of_lt_of_le hj (by decide +kernel)))
  refine ⟨List.forall_mem_cons.mpr ⟨hd_p1 b83 rfl (by have hc : ((0) : Int32).toInt = 0 := (by decide); omega), List.forall_mem_cons.mpr ⟨hd_p2 b82 rfl (by have hc : ((0) : Int32).toInt = 0 := (by decide); omega), fun _ h => absurd h List.not_mem_nil⟩⟩, ?_⟩
  refine k _ ?_
  · exact fun j hj _ => (hd_keep hB' (Nat.lt_of_lt_of_le hj (by decide +kernel)) (by simp)).trans (hF j (Nat.lt_of_lt_of_le hj (by decide)))
theorem j2pr_0_p6 {Ls : Nat} {xs : Nat → Int32} {d : Nat} {Q : Option Value → jm_h → Prop} (hd : 2 ≤ d) (F : Nat → sy_d) (X1 X2 : List jm_c) (hB : iv_in F iv_B0)
    (h0 : (sy_i F 83).toInt ≠ 0)
    (h1 : 0 ≤ (sy_i F 82).toInt)
    (h2 : (sy_i F 18).toInt ≤ (sy_i F 82).toInt)
    (k : ∀ F1 : Nat → sy_d, (∀ j, j < 82 → True → F1 j = F j) → Q (some (.int ((0 : Int32)))) (sy_dh F1 X1 X2 (iv_H 2))) :
    hd_W Ls xs d jm_M89 Q (0, sy_dL F [some (.inl (.ref 8)), some (.inr (.inl 82)), some (.inr (.inl 83)), none], sy_dS F [], sy_dh F X1 X2 (iv_H 2), 0, 0) := by
  refine hd_ret (s := 2) (nv := 84) (v := some (.inl (.int 0))) (uh := hd_ov (iv_id 0 iv_B0) []) (f := true) (sp := [53]) (d0 := 1) (O := [false, false, true]) (T := []) (P := [(1, .inr (.inl 83), .inl (.int 0)), (3, .inr (.inl 82), .inl (.int 0)), (4, .inr (.inl 18), .inr (.inl 82))]) jm_ok89 (by decide +kernel) (by decide +kernel) hd F X1 X2 (fun F' hF hs => ?_)
  have b83 := hd_b (F := F) (F' := F') (k := 83) (hF 83 (by decide))
  have b82 := hd_b (F := F) (F' := F') (k := 82) (hF 82 (by decide))
  have b18 := hd_b (F := F) (F' := F') (k := 18) (hF 18 (by decide))
  have hB' : iv_in F' iv_B0 := iv_in_eq hB (fun j hj => hF j (Nat.lt_of_lt_of_le hj (by decide +kernel)))
  refine ⟨List.forall_mem_cons.mpr ⟨hd_p1 b83 rfl (by have hc : ((0) : Int32).toInt = 0 := (by decide); omega), List.forall_mem_cons.mpr ⟨hd_p3 b82 rfl (by have hc : ((0) : Int32).toInt = 0 := (by decide); omega), List.forall_mem_cons.mpr ⟨hd_p4 b18 b82 h2, fun _ h => absurd h List.not_mem_nil⟩⟩⟩, ?_⟩
  refine k _ ?_
  · exact fun j hj _ => (hd_keep hB' (Nat.lt_of_lt_of_le hj (by decide +kernel)) (by simp)).trans (hF j (Nat.lt_of_lt_of_le hj (by decide)))
theorem j2pr_0_p7 {Ls : Nat} {xs : Nat → Int32} {d : Nat} {Q : Option Value → jm_h → Prop} (hd : 2 ≤ d) (F : Nat → sy_d) (X1 X2 : List jm_c) (hB : iv_in F iv_B0)
    (h0 : (sy_i F 83).toInt ≠ 0)
    (h1 : 0 ≤ (sy_i F 82).toInt)
    (h2 : (sy_i F 82).toInt < (sy_i F 18).toInt)
    (h3 : 0 ≤ (sy_i F 82).toInt ∧ (sy_i F 82).toInt < 7)
    (h4 : ((sy_ai F 54).getD (sy_i F 82).toNatClampNeg 0).toInt ≠ 0)
    (k : ∀ F1 : Nat → sy_d, (∀ j, j < 82 → True → F1 j = F j) → Q (some (.int ((0 : Int32)))) (sy_dh F1 X1 X2 (iv_H 2))) :
    hd_W Ls xs d jm_M89 Q (0, sy_dL F [some (.inl (.ref 8)), some (.inr (.inl 82)), some (.inr (.inl 83)), none], sy_dS F [], sy_dh F X1 X2 (iv_H 2), 0, 0) := by
  refine hd_ret (s := 2) (nv := 84) (v := some (.inl (.int 0))) (uh := hd_ov (iv_id 0 iv_B0) []) (f := true) (sp := [53]) (d0 := 1) (O := [false, false, false, true]) (T := [(30, [.inr (.inl 82)], [.inr (.inl 54)])]) (P := [(1, .inr (.inl 83), .inl (.int 0)), (3, .inr (.inl 82), .inl (.int 0)), (5, .inr (.inl 18), .inr (.inl 82)), (6, .inr (.inl 82), .inl (.ref 7)), (1, .inr (.inl 84), .inl (.int 0))]) jm_ok89 (by decide +kernel) (by decide +kernel) hd F X1 X2 (fun F' hF hs => ?_)
  have b83 := hd_b (F := F) (F' := F') (k := 83) (hF 83 (by decide))
  have b82 := hd_b (F := F) (F' := F') (k := 82) (hF 82 (by decide))
  have b18 := hd_b (F := F) (F' := F') (k := 18) (hF 18 (by decide))
  have a54 := hd_ba (F := F) (F' := F') (k := 54) (hF 54 (by decide))
  have t84 : sy_dv F' (.inr (.inl 84)) = .int ((sy_ai F 54).getD (sy_i F 82).toNatClampNeg 0) := hd_rd (hs 0 _ rfl) b82 a54
  have hB' : iv_in F' iv_B0 := iv_in_eq hB (fun j hj => hF j (Nat.lt_of_lt_of_le hj (by decide +kernel)))
  refine ⟨List.forall_mem_cons.mpr ⟨hd_p1 b83 rfl (by have hc : ((0) : Int32).toInt = 0 := (by decide); omega), List.forall_mem_cons.mpr ⟨hd_p3 b82 rfl (by have hc : ((0) : Int32).toInt = 0 := (by decide); omega), List.forall_mem_cons.mpr ⟨hd_p5 b18 b82 h2, List.forall_mem_cons.mpr ⟨hd_pb b82 (by first | exact h3 | exact h3), List.forall_mem_cons.mpr ⟨hd_p1 t84 rfl (by have hc : ((0) : Int32).toInt = 0 := (by decide); omega), fun _ h => absurd h List.not_mem_nil⟩⟩⟩⟩⟩, ?_⟩
  refine k _ ?_
  · exact fun j hj _ => (hd_keep hB' (Nat.lt_of_lt_of_le hj (by decide +kernel)) (by simp)).trans (hF j (Nat.lt_of_lt_of_le hj (by decide)))
theorem j2pr_0_p8 {Ls : Nat} {xs : Nat → Int32} {d : Nat} {Q : Option Value → jm_h → Prop} (hd : 2 ≤ d) (F : Nat → sy_d) (X1 X2 : List jm_c) (hB : iv_in F iv_B0)
    (h0 : (sy_i F 83).toInt ≠ 0)
    (h1 : 0 ≤ (sy_i F 82).toInt)
    (h2 : (sy_i F 82).toInt < (sy_i F 18).toInt)
    (h3 : 0 ≤ (sy_i F 82).toInt ∧ (sy_i F 82).toInt < 7)
    (h4 : ((sy_ai F 54).getD (sy_i F 82).toNatClampNeg 0).toInt = 0)
    (h5 : 0 ≤ (sy_i F 82).toInt ∧ (sy_i F 82).toInt < 7)
    (h6 : ((sy_ai F 57).getD (sy_i F 82).toNatClampNeg 0).toInt ≠ 1)
    (k : ∀ F1 : Nat → sy_d, (∀ j, j < 82 → True → F1 j = F j) → F1 82 = .inl (.int (sy_i F 82)) → F1 83 = .inl (.int ((1 : Int32))) → hd_W Ls xs d jm_M89 Q (53, sy_dL F1 [some (.inl (.ref 8)), some (.inr (.inl 82)), none, some (.inr (.inl 83))], sy_dS F1 [.inl (.ref 46), .inl (.ref 66)], sy_dh F1 X1 X2 (iv_H 2), 0, 0)) :
    hd_W Ls xs d jm_M89 Q (0, sy_dL F [some (.inl (.ref 8)), some (.inr (.inl 82)), some (.inr (.inl 83)), none], sy_dS F [], sy_dh F X1 X2 (iv_H 2), 0, 0) := by
  refine hd_run (s := 2) (nv := 84) (pc := 53) (L := [some (.inl (.ref 8)), some (.inr (.inl 82)), none, some (.inr (.inl 83))]) (S := [.inl (.ref 46), .inl (.ref 66)]) (uh := hd_ov (iv_id 0 iv_B0) []) (ul := [.inl (.inr (.inl 82)), .inl (.inl (.int 1))]) (f := true) (sp := [53]) (d0 := 1) (O := [false, false, false, false, true]) (T := [(30, [.inr (.inl 82)], [.inr (.inl 54)]), (30, [.inr (.inl 82)], [.inr (.inl 57)])]) (P := [(1, .inr (.inl 83), .inl (.int 0)), (3, .inr (.inl 82), .inl (.int 0)), (5, .inr (.inl 18), .inr (.inl 82)), (6, .inr (.inl 82), .inl (.ref 7)), (0, .inr (.inl 84), .inl (.int 0)), (6, .inr (.inl 82), .inl (.ref 7)), (1, .inr (.inl 85), .inl (.int 1))]) jm_ok89 (by decide +kernel) (by decide +kernel) hd F X1 X2 (fun F' hF hs => ?_)
  have b83 := hd_b (F := F) (F' := F') (k := 83) (hF 83 (by decide))
  have b82 := hd_b (F := F) (F' := F') (k := 82) (hF 82 (by decide))
  have b18 := hd_b (F := F) (F' := F') (k := 18) (hF 18 (by decide))
  have a54 := hd_ba (F := F) (F' := F') (k := 54) (hF 54 (by decide))
  have t84 : sy_dv F' (.inr (.inl 84)) = .int ((sy_ai F 54).getD (sy_i F 82).toNatClampNeg 0) := hd_rd (hs 0 _ rfl) b82 a54
  have a57 := hd_ba (F := F) (F' := F') (k := 57) (hF 57 (by decide))
  have t85 : sy_dv F' (.inr (.inl 85)) = .int ((sy_ai F 57).getD (sy_i F 82).toNatClampNeg 0) := hd_rd (hs 1 _ rfl) b82 a57
  have hB' : iv_in F' iv_B0 := iv_in_eq hB (fun j hj => hF j (Nat.lt_of_lt_of_le hj (by decide +kernel)))
  refine ⟨List.forall_mem_cons.mpr ⟨hd_p1 b83 rfl (by have hc : ((0) : Int32).toInt = 0 := (by decide); omega), List.forall_mem_cons.mpr ⟨hd_p3 b82 rfl (by have hc : ((0) : Int32).toInt = 0 := (by decide); omega), List.forall_mem_cons.mpr ⟨hd_p5 b18 b82 h2, List.forall_mem_cons.mpr ⟨hd_pb b82 (by first | exact h3 | exact h3), List.forall_mem_cons.mpr ⟨hd_p0 t84 rfl (by have hc : ((0) : Int32).toInt = 0 := (by decide); omega), List.forall_mem_cons.mpr ⟨hd_pb b82 (by first | exact h5 | exact h5), List.forall_mem_cons.mpr ⟨hd_p1 t85 rfl (by have hc : ((1) : Int32).toInt = 1 := (by decide); omega), fun _ h => absurd h List.not_mem_nil⟩⟩⟩⟩⟩⟩⟩, ?_⟩
  refine k _ ?_ ?_ ?_
  · exact fun j hj _ => (hd_keep hB' (Nat.lt_of_lt_of_le hj (by decide +kernel)) (by simp)).trans (hF j (Nat.lt_of_lt_of_le hj (by decide)))
  · exact hd_gi (x := .inr (.inl 82)) (by decide +kernel) b82
  · exact hd_gi (x := .inl (.int 1)) (by decide +kernel) rfl
theorem j2pr_0_p9 {Ls : Nat} {xs : Nat → Int32} {d : Nat} {Q : Option Value → jm_h → Prop} (hd : 2 ≤ d) (F : Nat → sy_d) (X1 X2 : List jm_c) (hB : iv_in F iv_B0)
    (h0 : (sy_i F 83).toInt ≠ 0)
    (h1 : 0 ≤ (sy_i F 82).toInt)
    (h2 : (sy_i F 82).toInt < (sy_i F 18).toInt)
    (h3 : 0 ≤ (sy_i F 82).toInt ∧ (sy_i F 82).toInt < 7)
    (h4 : ((sy_ai F 54).getD (sy_i F 82).toNatClampNeg 0).toInt = 0)
    (h5 : 0 ≤ (sy_i F 82).toInt ∧ (sy_i F 82).toInt < 7)
    (h6 : ((sy_ai F 57).getD (sy_i F 82).toNatClampNeg 0).toInt = 1)
    (k : ∀ F1 : Nat → sy_d, (∀ j, j < 82 → True → F1 j = F j) → Q (some (.int ((0 : Int32)))) (sy_dh F1 X1 X2 (iv_H 2))) :
    hd_W Ls xs d jm_M89 Q (0, sy_dL F [some (.inl (.ref 8)), some (.inr (.inl 82)), some (.inr (.inl 83)), none], sy_dS F [], sy_dh F X1 X2 (iv_H 2), 0, 0) := by
  refine hd_ret (s := 2) (nv := 84) (v := some (.inl (.int 0))) (uh := hd_ov (iv_id 0 iv_B0) []) (f := true) (sp := [53]) (d0 := 1) (O := [false, false, false, false, false]) (T := [(30, [.inr (.inl 82)], [.inr (.inl 54)]), (30, [.inr (.inl 82)], [.inr (.inl 57)])]) (P := [(1, .inr (.inl 83), .inl (.int 0)), (3, .inr (.inl 82), .inl (.int 0)), (5, .inr (.inl 18), .inr (.inl 82)), (6, .inr (.inl 82), .inl (.ref 7)), (0, .inr (.inl 84), .inl (.int 0)), (6, .inr (.inl 82), .inl (.ref 7)), (0, .inr (.inl 85), .inl (.int 1))]) jm_ok89 (by decide +kernel) (by decide +kernel) hd F X1 X2 (fun F' hF hs => ?_)
  have b83 := hd_b (F := F) (F' := F') (k := 83) (hF 83 (by decide))
  have b82 := hd_b (F := F) (F' := F') (k := 82) (hF 82 (by decide))
  have b18 := hd_b (F := F) (F' := F') (k := 18) (hF 18 (by decide))
  have a54 := hd_ba (F := F) (F' := F') (k := 54) (hF 54 (by decide))
  have t84 : sy_dv F' (.inr (.inl 84)) = .int ((sy_ai F 54).getD (sy_i F 82).toNatClampNeg 0) := hd_rd (hs 0 _ rfl) b82 a54
  have a57 := hd_ba (F := F) (F' := F') (k := 57) (hF 57 (by decide))
  have t85 : sy_dv F' (.inr (.inl 85)) = .int ((sy_ai F 57).getD (sy_i F 82).toNatClampNeg 0) := hd_rd (hs 1 _ rfl) b82 a57
  have hB' : iv_in F' iv_B0 := iv_in_eq hB (fun j hj => hF j (Nat.lt_of_lt_of_le hj (by decide +kernel)))
  refine ⟨List.forall_mem_cons.mpr ⟨hd_p1 b83 rfl (by have hc : ((0) : Int32).toInt = 0 := (by decide); omega), List.forall_mem_cons.mpr ⟨hd_p3 b82 rfl (by have hc : ((0) : Int32).toInt = 0 := (by decide); omega), List.forall_mem_cons.mpr ⟨hd_p5 b18 b82 h2, List.forall_mem_cons.mpr ⟨hd_pb b82 (by first | exact h3 | exact h3), List.forall_mem_cons.mpr ⟨hd_p0 t84 rfl (by have hc : ((0) : Int32).toInt = 0 := (by decide); omega), List.forall_mem_cons.mpr ⟨hd_pb b82 (by first | exact h5 | exact h5), List.forall_mem_cons.mpr ⟨hd_p0 t85 rfl (by have hc : ((1) : Int32).toInt = 1 := (by decide); omega), fun _ h => absurd h List.not_mem_nil⟩⟩⟩⟩⟩⟩⟩, ?_⟩
  refine k _ ?_
  · exact fun j hj _ => (hd_keep hB' (Nat.lt_of_lt_of_le hj (by decide +kernel)) (by simp)).trans (hF j (Nat.lt_of_lt_of_le hj (by decide)))
theorem j2pr_0 {Ls : Nat} {xs : Nat → Int32} {d : Nat} {Q : Option Value → jm_h → Prop} (hd : 2 ≤ d) (F : Nat → sy_d) (X1 X2 : List jm_c) (hB : iv_in F iv_B0)
    (k0 : (sy_i F 83).toInt = 0 → (sy_i F 82).toInt < 0 → ∀ F1 : Nat → sy_d, iv_in F1 iv_B0 → (∀ j, j < 82 → j ∉ ([] : List Nat) → F1 j = F j) → Q (some (.int ((0 : Int32)))) (sy_dh F1 X1 X2 (iv_H 2)))
    (k1 : (sy_i F 83).toInt = 0 → 0 ≤ (sy_i F 82).toInt → (sy_i F 18).toInt ≤ (sy_i F 82).toInt → ∀ F1 : Nat → sy_d, iv_in F1 iv_B0 → (∀ j, j < 82 → j ∉ ([] : List Nat) → F1 j = F j) → Q (some (.int ((0 : Int32)))) (sy_dh F1 X1 X2 (iv_H 2)))
    (k2 : (sy_i F 83).toInt = 0 → 0 ≤ (sy_i F 82).toInt → (sy_i F 82).toInt < (sy_i F 18).toInt → ((sy_ai F 54).getD ((sy_i F 82).toInt).toNat 0).toInt ≠ 0 → ∀ F1 : Nat → sy_d, iv_in F1 iv_B0 → (∀ j, j < 82 → j ∉ ([] : List Nat) → F1 j = F j) → Q (some (.int ((0 : Int32)))) (sy_dh F1 X1 X2 (iv_H 2)))
    (k3 : (sy_i F 83).toInt = 0 → 0 ≤ (sy_i F 82).toInt → (sy_i F 82).toInt < (sy_i F 18).toInt → ((sy_ai F 54).getD ((sy_i F 82).toInt).toNat 0).toInt = 0 → ((sy_ai F 57).getD ((sy_i F 82).toInt).toNat 0).toInt ≠ 0 → ∀ F1 : Nat → sy_d, iv_in F1 iv_B0 → (∀ j, j < 82 → j ∉ ([] : List Nat) → F1 j = F j) → (sy_i F1 82).toInt = (sy_i F 82).toInt → sy_i F1 82 = sy_i F 82 → (sy_i F1 83).toInt = 0 → sy_i F1 83 = (0 : Int32) → hd_W Ls xs d jm_M89 Q (53, sy_dL F1 [some (.inl (.ref 8)), some (.inr (.inl 82)), none, some (.inr (.inl 83))], sy_dS F1 [.inl (.ref 46), .inl (.ref 66)], sy_dh F1 X1 X2 (iv_H 2), 0, 0))
    (k4 : (sy_i F 83).toInt = 0 → 0 ≤ (sy_i F 82).toInt → (sy_i F 82).toInt < (sy_i F 18).toInt → ((sy_ai F 54).getD ((sy_i F 82).toInt).toNat 0).toInt = 0 → ((sy_ai F 57).getD ((sy_i F 82).toInt).toNat 0).toInt = 0 → ∀ F1 : Nat → sy_d, iv_in F1 iv_B0 → (∀ j, j < 82 → j ∉ ([] : List Nat) → F1 j = F j) → Q (some (.int ((0 : Int32)))) (sy_dh F1 X1 X2 (iv_H 2)))
    (k5 : (sy_i F 83).toInt ≠ 0 → (sy_i F 82).toInt < 0 → ∀ F1 : Nat → sy_d, iv_in F1 iv_B0 → (∀ j, j < 82 → j ∉ ([] : List Nat) → F1 j = F j) → Q (some (.int ((0 : Int32)))) (sy_dh F1 X1 X2 (iv_H 2)))
    (k6 : (sy_i F 83).toInt ≠ 0 → 0 ≤ (sy_i F 82).toInt → (sy_i F 18).toInt ≤ (sy_i F 82).toInt → ∀ F1 : Nat → sy_d, iv_in F1 iv_B0 → (∀ j, j < 82 → j ∉ ([] : List Nat) → F1 j = F j) → Q (some (.int ((0 : Int32)))) (sy_dh F1 X1 X2 (iv_H 2)))
    (k7 : (sy_i F 83).toInt ≠ 0 → 0 ≤ (sy_i F 82).toInt → (sy_i F 82).toInt < (sy_i F 18).toInt → ((sy_ai F 54).getD ((sy_i F 82).toInt).toNat 0).toInt ≠ 0 → ∀ F1 : Nat → sy_d, iv_in F1 iv_B0 → (∀ j, j < 82 → j ∉ ([] : List Nat) → F1 j = F j) → Q (some (.int ((0 : Int32)))) (sy_dh F1 X1 X2 (iv_H 2)))
    (k8 : (sy_i F 83).toInt ≠ 0 → 0 ≤ (sy_i F 82).toInt → (sy_i F 82).toInt < (sy_i F 18).toInt → ((sy_ai F 54).getD ((sy_i F 82).toInt).toNat 0).toInt = 0 → ((sy_ai F 57).getD ((sy_i F 82).toInt).toNat 0).toInt ≠ 1 → ∀ F1 : Nat → sy_d, iv_in F1 iv_B0 → (∀ j, j < 82 → j ∉ ([] : List Nat) → F1 j = F j) → (sy_i F1 82).toInt = (sy_i F 82).toInt → sy_i F1 82 = sy_i F 82 → (sy_i F1 83).toInt = 1 → sy_i F1 83 = (1 : Int32) → hd_W Ls xs d jm_M89 Q (53, sy_dL F1 [some (.inl (.ref 8)), some (.inr (.inl 82)), none, some (.inr (.inl 83))], sy_dS F1 [.inl (.ref 46), .inl (.ref 66)], sy_dh F1 X1 X2 (iv_H 2), 0, 0))
    (k9 : (sy_i F 83).toInt ≠ 0 → 0 ≤ (sy_i F 82).toInt → (sy_i F 82).toInt < (sy_i F 18).toInt → ((sy_ai F 54).getD ((sy_i F 82).toInt).toNat 0).toInt = 0 → ((sy_ai F 57).getD ((sy_i F 82).toInt).toNat 0).toInt = 1 → ∀ F1 : Nat → sy_d, iv_in F1 iv_B0 → (∀ j, j < 82 → j ∉ ([] : List Nat) → F1 j = F j) → Q (some (.int ((0 : Int32)))) (sy_dh F1 X1 X2 (iv_H 2))) :
    hd_W Ls xs d jm_M89 Q (0, sy_dL F [some (.inl (.ref 8)), some (.inr (.inl 82)), some (.inr (.inl 83)), none], sy_dS F [], sy_dh F X1 X2 (iv_H 2), 0, 0) := by
  by_cases g0 : (sy_i F 83).toInt = 0
  · by_cases g1 : (sy_i F 82).toInt < 0
    · exact j2pr_0_p0 hd F X1 X2 hB (by first | exact g0 | (simp only [nz_c]; exact g0)) (by first | exact g1 | (simp only [nz_c]; exact g1)) (fun F1 g  => k0 g0 g1 F1 (nz_in0 hB [] (fun j hj hn => g j hj (by simp only [List.mem_cons, List.not_mem_nil, or_false, not_or] at hn; exact trivial)) (List.forall_mem_nil _)) (fun j hj hn => g j hj (by simp only [List.mem_cons, List.not_mem_nil, or_false, not_or] at hn; exact trivial)) )
    replace g1 : 0 ≤ (sy_i F 82).toInt := by omega
    by_cases g2 : (sy_i F 18).toInt ≤ (sy_i F 82).toInt
    · have c18 := nz_bx hB (k := 18) (lo := 0) (hi := 7) rfl
      exact j2pr_0_p1 hd F X1 X2 hB (by first | exact g0 | (simp only [nz_c]; exact g0)) (by first | exact g1 | (simp only [nz_c]; exact g1)) (by first | exact g2 | (simp only [nz_c]; exact g2)) (fun F1 g  => k1 g0 g1 g2 F1 (nz_in0 hB [] (fun j hj hn => g j hj (by simp only [List.mem_cons, List.not_mem_nil, or_false, not_or] at hn; exact trivial)) (List.forall_mem_nil _)) (fun j hj hn => g j hj (by simp only [List.mem_cons, List.not_mem_nil, or_false, not_or] at hn; exact trivial)) )
    replace g2 : (sy_i F 82).toInt < (sy_i F 18).toInt := by omega
    by_cases g3 : ((sy_ai F 54).getD ((sy_i F 82).toInt).toNat 0).toInt ≠ 0
    · have c18 := nz_bx hB (k := 18) (lo := 0) (hi := 7) rfl
      have q84 : (sy_ai F 54).getD (sy_i F 82).toNatClampNeg 0 = (sy_ai F 54).getD ((sy_i F 82).toInt).toNat 0 := by simp only [nz_c]
      have n84 : nzI ((sy_ai F 54).getD (sy_i F 82).toNatClampNeg 0) (((sy_ai F 54).getD ((sy_i F 82).toInt).toNat 0).toInt) := congrArg Int32.toInt q84
      exact j2pr_0_p2 hd F X1 X2 hB (by first | exact g0 | (simp only [nz_c]; exact g0)) (by first | exact g1 | (simp only [nz_c]; exact g1)) (by first | exact g2 | (simp only [nz_c]; exact g2)) (by first | exact ⟨by omega, by omega⟩ | (simp only [nz_c]; exact ⟨by omega, by omega⟩)) (by first | exact g3 | (simp only [nz_c]; exact g3) | (rw [(nzE n84)]; exact g3)) (fun F1 g  => k2 g0 g1 g2 g3 F1 (nz_in0 hB [] (fun j hj hn => g j hj (by simp only [List.mem_cons, List.not_mem_nil, or_false, not_or] at hn; exact trivial)) (List.forall_mem_nil _)) (fun j hj hn => g j hj (by simp only [List.mem_cons, List.not_mem_nil, or_false, not_or] at hn; exact trivial)) )
    replace g3 : ((sy_ai F 54).getD ((sy_i F 82).toInt).toNat 0).toInt = 0 := by omega
    by_cases g4 : ((sy_ai F 57).getD ((sy_i F 82).toInt).toNat 0).toInt ≠ 0
    · have c18 := nz_bx hB (k := 18) (lo := 0) (hi := 7) rfl
      have q84 : (sy_ai F 54).getD (sy_i F 82).toNatClampNeg 0 = (sy_ai F 54).getD ((sy_i F 82).toInt).toNat 0 := by simp only [nz_c]
      have n84 : nzI ((sy_ai F 54).getD (sy_i F 82).toNatClampNeg 0) (((sy_ai F 54).getD ((sy_i F 82).toInt).toNat 0).toInt) := congrArg Int32.toInt q84
      have q85 : (sy_ai F 57).getD (sy_i F 82).toNatClampNeg 0 = (sy_ai F 57).getD ((sy_i F 82).toInt).toNat 0 := by simp only [nz_c]
      have n85 : nzI ((sy_ai F 57).getD (sy_i F 82).toNatClampNeg 0) (((sy_ai F 57).getD ((sy_i F 82).toInt).toNat 0).toInt) := congrArg Int32.toInt q85
      exact j2pr_0_p3 hd F X1 X2 hB (by first | exact g0 | (simp only [nz_c]; exact g0)) (by first | exact g1 | (simp only [nz_c]; exact g1)) (by first | exact g2 | (simp only [nz_c]; exact g2)) (by first | exact ⟨by omega, by omega⟩ | (simp only [nz_c]; exact ⟨by omega, by omega⟩)) (by first | exact g3 | (simp only [nz_c]; exact g3) | (rw [(nzE n84)]; exact g3)) (by first | exact ⟨by omega, by omega⟩ | (simp only [nz_c]; exact ⟨by omega, by omega⟩)) (by first | exact g4 | (simp only [nz_c]; exact g4) | (rw [(nzE n85)]; exact g4)) (fun F1 g e82 e83 => k3 g0 g1 g2 g3 g4 F1 (nz_in0 hB [] (fun j hj hn => g j hj (by simp only [List.mem_cons, List.not_mem_nil, or_false, not_or] at hn; exact trivial)) (List.forall_mem_nil _)) (fun j hj hn => g j hj (by simp only [List.mem_cons, List.not_mem_nil, or_false, not_or] at hn; exact trivial)) ((congrArg Int32.toInt (zz_i e82)).trans (rfl : (sy_i F 82).toInt = (sy_i F 82).toInt)) ((zz_i e82).trans (rfl : sy_i F 82 = sy_i F 82)) ((congrArg Int32.toInt (zz_i e83)).trans (by decide : ((0 : Int32)).toInt = 0)) ((zz_i e83).trans (rfl : (0 : Int32) = (0 : Int32))))
    replace g4 : ((sy_ai F 57).getD ((sy_i F 82).toInt).toNat 0).toInt = 0 := by omega
    have c18 := nz_bx hB (k := 18) (lo := 0) (hi := 7) rfl
    have q84 : (sy_ai F 54).getD (sy_i F 82).toNatClampNeg 0 = (sy_ai F 54).getD ((sy_i F 82).toInt).toNat 0 := by simp only [nz_c]
    have n84 : nzI ((sy_ai F 54).getD (sy_i F 82).toNatClampNeg 0) (((sy_ai F 54).getD ((sy_i F 82).toInt).toNat 0).toInt) := congrArg Int32.toInt q84
    have q85 : (sy_ai F 57).getD (sy_i F 82).toNatClampNeg 0 = (sy_ai F 57).getD ((sy_i F 82).toInt).toNat 0 := by simp only [nz_c]
    have n85 : nzI ((sy_ai F 57).getD (sy_i F 82).toNatClampNeg 0) (((sy_ai F 57).getD ((sy_i F 82).toInt).toNat 0).toInt) := congrArg Int32.toInt q85
    exact j2pr_0_p4 hd F X1 X2 hB (by first | exact g0 | (simp only [nz_c]; exact g0)) (by first | exact g1 | (simp only [nz_c]; exact g1)) (by first | exact g2 | (simp only [nz_c]; exact g2)) (by first | exact ⟨by omega, by omega⟩ | (simp only [nz_c]; exact ⟨by omega, by omega⟩)) (by first | exact g3 | (simp only [nz_c]; exact g3) | (rw [(nzE n84)]; exact g3)) (by first | exact ⟨by omega, by omega⟩ | (simp only [nz_c]; exact ⟨by omega, by omega⟩)) (by first | exact g4 | (simp only [nz_c]; exact g4) | (rw [(nzE n85)]; exact g4)) (fun F1 g  => k4 g0 g1 g2 g3 g4 F1 (nz_in0 hB [] (fun j hj hn => g j hj (by simp only [List.mem_cons, List.not_mem_nil, or_false, not_or] at hn; exact trivial)) (List.forall_mem_nil _)) (fun j hj hn => g j hj (by simp only [List.mem_cons, List.not_mem_nil, or_false, not_or] at hn; exact trivial)) )
  replace g0 : (sy_i F 83).toInt ≠ 0 := by omega
  by_cases g1 : (sy_i F 82).toInt < 0
  · exact j2pr_0_p5 hd F X1 X2 hB (by first | exact g0 | (simp only [nz_c]; exact g0)) (by first | exact g1 | (simp only [nz_c]; exact g1)) (fun F1 g  => k5 g0 g1 F1 (nz_in0 hB [] (fun j hj hn => g j hj (by simp only [List.mem_cons, List.not_mem_nil, or_false, not_or] at hn; exact trivial)) (List.forall_mem_nil _)) (fun j hj hn => g j hj (by simp only [List.mem_cons, List.not_mem_nil, or_false, not_or] at hn; exact trivial)) )
  replace g1 : 0 ≤ (sy_i F 82).toInt := by omega
  by_cases g2 : (sy_i F 18).toInt ≤ (sy_i F 82).toInt
  · have c18 := nz_bx hB (k := 18) (lo := 0) (hi := 7) rfl
    exact j2pr_0_p6 hd F X1 X2 hB (by first | exact g0 | (simp only [nz_c]; exact g0)) (by first | exact g1 | (simp only [nz_c]; exact g1)) (by first | exact g2 | (simp only [nz_c]; exact g2)) (fun F1 g  => k6 g0 g1 g2 F1 (nz_in0 hB [] (fun j hj hn => g j hj (by simp only [List.mem_cons, List.not_mem_nil, or_false, not_or] at hn; exact trivial)) (List.forall_mem_nil _)) (fun j hj hn => g j hj (by simp only [List.mem_cons, List.not_mem_nil, or_false, not_or] at hn; exact trivial)) )
  replace g2 : (sy_i F 82).toInt < (sy_i F 18).toInt := by omega
  by_cases g3 : ((sy_ai F 54).getD ((sy_i F 82).toInt).toNat 0).toInt ≠ 0
  · have c18 := nz_bx hB (k := 18) (lo := 0) (hi := 7) rfl
    have q84 : (sy_ai F 54).getD (sy_i F 82).toNatClampNeg 0 = (sy_ai F 54).getD ((sy_i F 82).toInt).toNat 0 := by simp only [nz_c]
    have n84 : nzI ((sy_ai F 54).getD (sy_i F 82).toNatClampNeg 0) (((sy_ai F 54).getD ((sy_i F 82).toInt).toNat 0).toInt) := congrArg Int32.toInt q84
    exact j2pr_0_p7 hd F X1 X2 hB (by first | exact g0 | (simp only [nz_c]; exact g0)) (by first | exact g1 | (simp only [nz_c]; exact g1)) (by first | exact g2 | (simp only [nz_c]; exact g2)) (by first | exact ⟨by omega, by omega⟩ | (simp only [nz_c]; exact ⟨by omega, by omega⟩)) (by first | exact g3 | (simp only [nz_c]; exact g3) | (rw [(nzE n84)]; exact g3)) (fun F1 g  => k7 g0 g1 g2 g3 F1 (nz_in0 hB [] (fun j hj hn => g j hj (by simp only [List.mem_cons, List.not_mem_nil, or_false, not_or] at hn; exact trivial)) (List.forall_mem_nil _)) (fun j hj hn => g j hj (by simp only [List.mem_cons, List.not_mem_nil, or_false, not_or] at hn; exact trivial)) )
  replace g3 : ((sy_ai F 54).getD ((sy_i F 82).toInt).toNat 0).toInt = 0 := by omega
  by_cases g4 : ((sy_ai F 57).getD ((sy_i F 82).toInt).toNat 0).toInt ≠ 1
  · have c18 := nz_bx hB (k := 18) (lo := 0) (hi := 7) rfl
    have q84 : (sy_ai F 54).getD (sy_i F 82).toNatClampNeg 0 = (sy_ai F 54).getD ((sy_i F 82).toInt).toNat 0 := by simp only [nz_c]
    have n84 : nzI ((sy_ai F 54).getD (sy_i F 82).toNatClampNeg 0) (((sy_ai F 54).getD ((sy_i F 82).toInt).toNat 0).toInt) := congrArg Int32.toInt q84
    have q85 : (sy_ai F 57).getD (sy_i F 82).toNatClampNeg 0 = (sy_ai F 57).getD ((sy_i F 82).toInt).toNat 0 := by simp only [nz_c]
    have n85 : nzI ((sy_ai F 57).getD (sy_i F 82).toNatClampNeg 0) (((sy_ai F 57).getD ((sy_i F 82).toInt).toNat 0).toInt) := congrArg Int32.toInt q85
    exact j2pr_0_p8 hd F X1 X2 hB (by first | exact g0 | (simp only [nz_c]; exact g0)) (by first | exact g1 | (simp only [nz_c]; exact g1)) (by first | exact g2 | (simp only [nz_c]; exact g2)) (by first | exact ⟨by omega, by omega⟩ | (simp only [nz_c]; exact ⟨by omega, by omega⟩)) (by first | exact g3 | (simp only [nz_c]; exact g3) | (rw [(nzE n84)]; exact g3)) (by first | exact ⟨by omega, by omega⟩ | (simp only [nz_c]; exact ⟨by omega, by omega⟩)) (by first | exact g4 | (simp only [nz_c]; exact g4) | (rw [(nzE n85)]; exact g4)) (fun F1 g e82 e83 => k8 g0 g1 g2 g3 g4 F1 (nz_in0 hB [] (fun j hj hn => g j hj (by simp only [List.mem_cons, List.not_mem_nil, or_false, not_or] at hn; exact trivial)) (List.forall_mem_nil _)) (fun j hj hn => g j hj (by simp only [List.mem_cons, List.not_mem_nil, or_false, not_or] at hn; exact trivial)) ((congrArg Int32.toInt (zz_i e82)).trans (rfl : (sy_i F 82).toInt = (sy_i F 82).toInt)) ((zz_i e82).trans (rfl : sy_i F 82 = sy_i F 82)) ((congrArg Int32.toInt (zz_i e83)).trans (by decide : ((1 : Int32)).toInt = 1)) ((zz_i e83).trans (rfl : (1 : Int32) = (1 : Int32))))
  replace g4 : ((sy_ai F 57).getD ((sy_i F 82).toInt).toNat 0).toInt = 1 := by omega
  have c18 := nz_bx hB (k := 18) (lo := 0) (hi := 7) rfl
  have q84 : (sy_ai F 54).getD (sy_i F 82).toNatClampNeg 0 = (sy_ai F 54).getD ((sy_i F 82).toInt).toNat 0 := by simp only [nz_c]
  have n84 : nzI ((sy_ai F 54).getD (sy_i F 82).toNatClampNeg 0) (((sy_ai F 54).getD ((sy_i F 82).toInt).toNat 0).toInt) := congrArg Int32.toInt q84
  have q85 : (sy_ai F 57).getD (sy_i F 82).toNatClampNeg 0 = (sy_ai F 57).getD ((sy_i F 82).toInt).toNat 0 := by simp only [nz_c]
  have n85 : nzI ((sy_ai F 57).getD (sy_i F 82).toNatClampNeg 0) (((sy_ai F 57).getD ((sy_i F 82).toInt).toNat 0).toInt) := congrArg Int32.toInt q85
  exact j2pr_0_p9 hd F X1 X2 hB (by first | exact g0 | (simp only [nz_c]; exact g0)) (by first | exact g1 | (simp only [nz_c]; exact g1)) (by first | exact g2 | (simp only [nz_c]; exact g2)) (by first | exact ⟨by omega, by omega⟩ | (simp only [nz_c]; exact ⟨by omega, by omega⟩)) (by first | exact g3 | (simp only [nz_c]; exact g3) | (rw [(nzE n84)]; exact g3)) (by first | exact ⟨by omega, by omega⟩ | (simp only [nz_c]; exact ⟨by omega, by omega⟩)) (by first | exact g4 | (simp only [nz_c]; exact g4) | (rw [(nzE n85)]; exact g4)) (fun F1 g  => k9 g0 g1 g2 g3 g4 F1 (nz_in0 hB [] (fun j hj hn => g j hj (by simp only [List.mem_cons, List.not_mem_nil, or_false, not_or] at hn; exact trivial)) (List.forall_mem_nil _)) (fun j hj hn => g j hj (by simp only [List.mem_cons, List.not_mem_nil, or_false, not_or] at hn; exact trivial)) )
theorem j2pr_56_p0 {Ls : Nat} {xs : Nat → Int32} {d : Nat} {Q : Option Value → jm_h → Prop} (hd : 1 ≤ d) (F : Nat → sy_d) (X1 X2 : List jm_c) (hB : iv_in F iv_B0)
    (h0 : 0 ≤ (sy_i F 82).toInt ∧ (sy_i F 82).toInt < 7)
    (k : ∀ F1 : Nat → sy_d, (∀ j, j < 82 → j ≠ 57 → F1 j = F j) → F1 57 = .inr (.inl (jm_upd (sy_ai F 57) (sy_i F 82).toNatClampNeg (sy_i F 83))) → Q (some (.int ((1 : Int32)))) (sy_dh F1 X1 X2 (iv_H 2))) :
    hd_W Ls xs d jm_M89 Q (56, sy_dL F [some (.inl (.ref 8)), some (.inr (.inl 82)), none, some (.inr (.inl 83))], sy_dS F [], sy_dh F X1 X2 (iv_H 2), 0, 0) := by
  refine hd_ret (s := 2) (nv := 84) (v := some (.inl (.int 1))) (uh := hd_ov (iv_id 0 iv_B0) [(57, .inr (.inr (.inl 84)))]) (f := false) (sp := []) (d0 := 0) (O := []) (T := [(40, [.inr (.inl 82), .inr (.inl 83)], [.inr (.inl 57)])]) (P := [(6, .inr (.inl 82), .inl (.ref 7))]) jm_ok89 (by decide +kernel) (by decide +kernel) hd F X1 X2 (fun F' hF hs => ?_)
  have b82 := hd_b (F := F) (F' := F') (k := 82) (hF 82 (by decide))
  have b83 := hd_b (F := F) (F' := F') (k := 83) (hF 83 (by decide))
  have a57 := hd_ba (F := F) (F' := F') (k := 57) (hF 57 (by decide))
  have t84 : sy_da F' (.inr (.inl 84)) = .inl (jm_upd (sy_ai F 57) (sy_i F 82).toNatClampNeg (sy_i F 83)) := hd_up (hs 0 _ rfl) b82 b83 a57
  have hB' : iv_in F' iv_B0 := iv_in_eq hB (fun j hj => hF j (Nat.lt_of_lt_of_le hj (by decide +kernel)))
  refine ⟨List.forall_mem_cons.mpr ⟨hd_pb b82 (by first | exact h0 | exact h0), fun _ h => absurd h List.not_mem_nil⟩, ?_⟩
  refine k _ ?_ ?_
  · exact fun j hj hn => (hd_keep hB' (Nat.lt_of_lt_of_le hj (by decide +kernel)) (by simp; omega)).trans (hF j (Nat.lt_of_lt_of_le hj (by decide)))
  · exact hd_ga (a := .inr (.inl 84)) (by decide +kernel) t84
theorem j2pr_56 {Ls : Nat} {xs : Nat → Int32} {d : Nat} {Q : Option Value → jm_h → Prop} (hd : 1 ≤ d) (F : Nat → sy_d) (X1 X2 : List jm_c) (hB : iv_in F iv_B0)
    (a82 : 0 ≤ (sy_i F 82).toInt ∧ (sy_i F 82).toInt ≤ 6)
    (a83 : 0 ≤ (sy_i F 83).toInt ∧ (sy_i F 83).toInt ≤ 1)
    (k0 : ∀ F1 : Nat → sy_d, iv_in F1 iv_B0 → (∀ j, j < 82 → j ∉ ([57] : List Nat) → F1 j = F j) → sy_ai F1 57 = jm_upd (sy_ai F 57) ((sy_i F 82).toInt).toNat (sy_i F 83) → Q (some (.int ((1 : Int32)))) (sy_dh F1 X1 X2 (iv_H 2))) :
    hd_W Ls xs d jm_M89 Q (56, sy_dL F [some (.inl (.ref 8)), some (.inr (.inl 82)), none, some (.inr (.inl 83))], sy_dS F [], sy_dh F X1 X2 (iv_H 2), 0, 0) := by
  have w84 : jm_upd (sy_ai F 57) (sy_i F 82).toNatClampNeg (sy_i F 83) = jm_upd (sy_ai F 57) ((sy_i F 82).toInt).toNat (sy_i F 83) := by simp only [nz_c]
  exact j2pr_56_p0 hd F X1 X2 hB (by first | exact ⟨by omega, by omega⟩ | (simp only [nz_c]; exact ⟨by omega, by omega⟩)) (fun F1 g e57 => k0 F1 (nz_in0 hB [57] (fun j hj hn => g j hj (by simp only [List.mem_cons, List.not_mem_nil, or_false, not_or] at hn; omega)) (List.forall_mem_cons.mpr ⟨fun t ht => (Option.some.inj ht) ▸ (nz_hz2 e57), List.forall_mem_nil _⟩)) (fun j hj hn => g j hj (by simp only [List.mem_cons, List.not_mem_nil, or_false, not_or] at hn; omega)) ((zz_ai e57).trans w84))
end
section
/-! ===== undo, hold, restore, go on the class's side (shape 2) ===== -/
section CH2
variable {Ls : Nat} {xs : Nat → Int32} {nf nb : Nat} {g : gS} (F : Nat → sy_d) (X1 X2 : List jm_c)
theorem j2un_V0 (hB : iv_in F iv_B0) (hT : trC nf nb F []) : jm_T Ls xs 3 jm_M92 [.ref 8] (sy_dh F X1 X2 (iv_H 2)) 0 0 (pI 2 X1 X2 (fun x F' => x = 0 ∧ qC [] F F')) := by
  refine hd_T (As := [.inl (.ref 8)]) jm_ok92 (by decide) (j2un_0 (by decide) F X1 X2 hB ?_)
  intro F1 hb gg
  have q1 : qC [] F F1 := qq_mk hb gg (by decide)
  refine hd_calI (R := fun x F' => x = 0 ∧ qC [] F1 F') (nh := 82) (nv := 82) (s := 2) (s1 := 2) (d1 := 2) (M1 := jm_M79) (As := [.inl (.ref 66), .inl (.ref 46)]) (rest := []) jm_ok92 rfl rfl (by decide) (by decide +kernel) (j2st_V0 F1 X1 X2 hb (trC_eq hT (gg 74 (by decide) (by decide)) (gg 75 (by decide) (by decide)) (gg 76 (by decide) (by decide)))) (fun F3 F' x hR p1 p2 p3 => ?_)
  obtain ⟨r1, r2⟩ := hR
  have r2' : qC [] F1 F3 := qC_dst r2 p1
  have k82 : sy_i F3 82 = 0 := (zz_i p3).trans r1
  refine j2un_11 (by decide) F3 X1 X2 r2'.1 (Or.inl (by rw [k82]; rfl)) ?_
  intro F4 hb4 g4
  exact ⟨_, F4, rfl, rfl, k82, qq_on (qq_trans q1 r2') hb4 g4 (by decide)⟩
theorem j2un_V1 (hB : iv_in F iv_B0) (hf : nf ≤ 7) (hb : nb ≤ 4) {U : List gS} (hT : trC nf nb F (g :: U)) : jm_T Ls xs 3 jm_M92 [.ref 8] (sy_dh F X1 X2 (iv_H 2)) 0 0 (pI 2 X1 X2 (fun x F' => x = 1 ∧ qC (75 :: [50, 51, 52, 53, 54, 55, 56, 57, 58, 59, 60, 61]) F F' ∧ trC nf nb F' U ∧ gC 50 nf nb F' g)) := by
  refine hd_T (As := [.inl (.ref 8)]) jm_ok92 (by decide) (j2un_0 (by decide) F X1 X2 hB ?_)
  intro F1 hb1 gg
  have q1 : qC [] F F1 := qq_mk hb1 gg (by decide)
  refine hd_calI (R := fun x F' => x = 1 ∧ qC (75 :: [50, 51, 52, 53, 54, 55, 56, 57, 58, 59, 60, 61]) F1 F' ∧ trC nf nb F' U ∧ gC 50 nf nb F' g) (nh := 82) (nv := 82) (s := 2) (s1 := 2) (d1 := 2) (M1 := jm_M79) (As := [.inl (.ref 66), .inl (.ref 46)]) (rest := []) jm_ok92 rfl rfl (by decide) (by decide +kernel) (j2st_V1 F1 X1 X2 hb1 hf hb (trC_eq hT (gg 74 (by decide) (by decide)) (gg 75 (by decide) (by decide)) (gg 76 (by decide) (by decide)))) (fun F3 F' x hR p1 p2 p3 => ?_)
  obtain ⟨r1, r2, r3, r4⟩ := hR
  have r2' : qC (75 :: [50, 51, 52, 53, 54, 55, 56, 57, 58, 59, 60, 61]) F1 F3 := qC_dst r2 p1
  have k82 : sy_i F3 82 = 1 := (zz_i p3).trans r1
  refine j2un_11 (by decide) F3 X1 X2 r2'.1 (Or.inr (by rw [k82]; rfl)) ?_
  intro F4 hb4 g4
  have f4 : ∀ j, j < 82 → F4 j = F' j := fun j hj => (g4 j hj (by simp)).trans (p1 j hj)
  exact ⟨_, F4, rfl, rfl, k82, qq_on (qq_trans (qq_up q1 (by decide)) r2') hb4 g4 (by decide), trC_eq r3 (f4 74 (by decide)) (f4 75 (by decide)) (f4 76 (by decide)), gC_eq r4 (fun j h1 h2 => f4 j (by omega))⟩
theorem j2hd_V (hB : iv_in F iv_B0) (hf : nf ≤ 7) (hb : nb ≤ 4) (hg : gC 50 nf nb F g) {H : Nat → gS} (hH : hlC nf nb F H) (v : Int32) : jm_T Ls xs 2 jm_M113 [.ref 8, .int v] (sy_dh F X1 X2 (iv_H 2)) 0 0 (pI 2 X1 X2 (fun x F' => (¬ (0 ≤ v.toInt ∧ v.toInt ≤ 2) → x = 0 ∧ qC [] F F') ∧ (0 ≤ v.toInt ∧ v.toInt ≤ 2 → x = 1 ∧ qC [77, 78] F F' ∧ hlC nf nb F' (fun j => if j = v.toInt.toNat then g else H j) ∧ sy_ai F' 78 = jm_upd (sy_ai F 78) v.toInt.toNat 1))) := by
  refine C_T (by decide) [v] [.inl (.ref 8), .inr (.inl 82)] jm_ok113 (by decide) rfl (fun F0 k0 ki => ?_)
  have i82 : sy_i F0 82 = v := ki 0
  refine j2hd_0 (by decide) F0 X1 X2 (hd_iveq0 hB k0) ?_ ?_ ?_
  · intro c0 F1 hb1 gg
    rw [i82] at c0
    exact ⟨_, F1, rfl, rfl, fun _ => ⟨rfl, qq_src (qq_mk hb1 gg (by decide)) k0⟩, fun h => absurd h (by omega)⟩
  · intro c0 c1 F1 hb1 gg
    rw [i82] at c0 c1
    exact ⟨_, F1, rfl, rfl, fun _ => ⟨rfl, qq_src (qq_mk hb1 gg (by decide)) k0⟩, fun h => absurd h (by omega)⟩
  · intro c0 c1 F1 hb1 gg e82 j82 e83 j83
    rw [i82] at c0 c1 e82 e83
    have q1 : qC [] F F1 := qq_src (qq_mk hb1 gg (by decide)) k0
    refine hd_calV (R := fun F' => qC [77] F1 F' ∧ svR (sy_ai F' 77) (60 * v.toInt.toNat) F1 50 ∧ ∀ j, j < 60 * v.toInt.toNat ∨ 60 * v.toInt.toNat + 60 ≤ j → (sy_ai F' 77).getD j 0 = (sy_ai F1 77).getD j 0) (nh := 82) (nv := 83) (s := 2) (s1 := 2) (d1 := 1) (M1 := jm_M9) (As := [.inl (.ref 46), .inl (.ref 68), .inr (.inl 83)]) (rest := []) jm_ok113 rfl rfl (by decide) (by decide +kernel) (j2svs_V F1 X1 X2 hb1 (by rw [e83]; omega) (by omega)) (fun F3 F' hR p1 p2 => ?_)
    obtain ⟨r1, r2, r3⟩ := hR
    have r1' : qC [77] F1 F3 := qC_dst r1 p1
    have k82 : (sy_i F3 82).toInt = v.toInt := by rw [nz_fi (p2 82 (by decide) (by decide))]; exact e82
    refine j2hd_26 (by decide) F3 X1 X2 r1'.1 (by omega) ?_
    intro F4 hb4 g4 a78
    rw [k82] at a78
    have h78 : sy_ai F3 78 = sy_ai F 78 := (qq_a r1' (by decide) (by decide)).trans (qq_a q1 (by decide) (by decide))
    have h77 : sy_ai F1 77 = sy_ai F 77 := qq_a q1 (by decide) (by decide)
    have l77 : sy_ai F4 77 = sy_ai F' 77 := (nz_fa (g4 77 (by decide) (by decide))).trans (nz_fa (p1 77 (by decide)))
    rw [h78] at a78
    have g1 : gC 50 nf nb F1 g := gC_eq hg (fun j h1 h2 => q1.2 j (by omega) (by simp))
    refine ⟨_, F4, rfl, rfl, fun h => absurd ⟨c0, c1⟩ h, fun _ => ⟨rfl, qq_on (qq_trans (qq_up q1 (by decide)) (qq_up r1' (by decide))) hb4 g4 (by decide), fun k hk hz => ?_, a78⟩⟩
    rw [l77]
    show svC nf nb _ _ (if k = v.toInt.toNat then g else H k)
    by_cases z : k = v.toInt.toNat
    · rw [if_pos z, z]
      exact svC_of hf hb r2 g1
    · rw [if_neg z]
      rw [a78, jm_upd_at, if_neg z] at hz
      refine svC_eq hf hb (hH k hk hz) (fun j h1 h2 => ?_)
      rw [r3 j (by omega), h77]
theorem j2rs_V (hB : iv_in F iv_B0) (hf : nf ≤ 7) (hb : nb ≤ 4) {H : Nat → gS} (hH : hlC nf nb F H) (v : Int32) : jm_T Ls xs 2 jm_M114 [.ref 8, .int v] (sy_dh F X1 X2 (iv_H 2)) 0 0 (pI 2 X1 X2 (fun x F' => (¬ (0 ≤ v.toInt ∧ v.toInt ≤ 2 ∧ ((sy_ai F 78).getD v.toInt.toNat 0).toInt ≠ 0) → x = 0 ∧ qC [] F F') ∧ (0 ≤ v.toInt ∧ v.toInt ≤ 2 ∧ ((sy_ai F 78).getD v.toInt.toNat 0).toInt ≠ 0 → x = 1 ∧ qC (74 :: 75 :: [50, 51, 52, 53, 54, 55, 56, 57, 58, 59, 60, 61]) F F' ∧ gC 50 nf nb F' (H v.toInt.toNat) ∧ trC nf nb F' []))) := by
  refine C_T (by decide) [v] [.inl (.ref 8), .inr (.inl 82)] jm_ok114 (by decide) rfl (fun F0 k0 ki => ?_)
  have i82 : sy_i F0 82 = v := ki 0
  refine j2rs_0 (by decide) F0 X1 X2 (hd_iveq0 hB k0) ?_ ?_ ?_ ?_
  · intro c0 F1 hb1 gg
    rw [i82] at c0
    exact ⟨_, F1, rfl, rfl, fun _ => ⟨rfl, qq_src (qq_mk hb1 gg (by decide)) k0⟩, fun h => absurd h.1 (by omega)⟩
  · intro c0 c1 F1 hb1 gg
    rw [i82] at c0 c1
    exact ⟨_, F1, rfl, rfl, fun _ => ⟨rfl, qq_src (qq_mk hb1 gg (by decide)) k0⟩, fun h => absurd h.2.1 (by omega)⟩
  · intro c0 c1 c2 F1 hb1 gg e82 j82
    rw [i82] at c0 c1 c2 e82
    rw [nz_fa (k0 78 (by decide))] at c2
    have q1 : qC [] F F1 := qq_src (qq_mk hb1 gg (by decide)) k0
    refine hd_calV (R := fun F' => qC [50, 51, 52, 53, 54, 55, 56, 57, 58, 59, 60, 61] F1 F' ∧ svR (sy_ai F1 77) (60 * v.toInt.toNat) F' 50) (nh := 82) (nv := 82) (s := 2) (s1 := 2) (d1 := 1) (M1 := jm_M10) (As := [.inl (.ref 46), .inl (.ref 68), .inr (.inl 82)]) (rest := []) jm_ok114 rfl rfl (by decide) (by decide +kernel) (j2lds_V F1 X1 X2 hb1 (by rw [e82]; omega) (by omega)) (fun F3 F' hR p1 p2 => ?_)
    obtain ⟨r1, r2⟩ := hR
    have r1' : qC [50, 51, 52, 53, 54, 55, 56, 57, 58, 59, 60, 61] F1 F3 := qC_dst r1 p1
    refine j2rs_35 (by decide) F3 X1 X2 r1'.1 ?_
    intro F4 hb4 g4 e74 j74 e75 j75
    have h77 : sy_ai F1 77 = sy_ai F 77 := qq_a q1 (by decide) (by decide)
    rw [h77] at r2
    exact ⟨_, F4, rfl, rfl, fun h => absurd ⟨c0, c1, c2⟩ h, fun _ => ⟨rfl, qq_on (qq_trans (qq_up q1 (by decide)) (qq_up r1' (by decide))) hb4 g4 (by decide), gC_eq (gC_of hf hb r2 (hH _ (by omega) c2)) (fun j h1 h2 => (g4 j (by omega) (by simp; omega)).trans (p1 j (by omega))), ⟨0, by decide, by decide, e74, e75, trivial⟩⟩⟩
  · intro c0 c1 c2 F1 hb1 gg
    rw [i82] at c0 c1 c2
    rw [nz_fa (k0 78 (by decide))] at c2
    exact ⟨_, F1, rfl, rfl, fun _ => ⟨rfl, qq_src (qq_mk hb1 gg (by decide)) k0⟩, fun h => absurd c2 h.2.2⟩
end CH2
end
section
/-! ===== the class remembers and steps back, way by way (shape 3) ===== -/
theorem j3re_0_p0 {Ls : Nat} {xs : Nat → Int32} {d : Nat} {Q : Option Value → jm_h → Prop} (hd : 1 ≤ d) (F : Nat → sy_d) (X1 X2 : List jm_c) (hB : iv_in F iv_B0)
    (h0 : (sy_i F 75).toInt ≠ 40)
    (k : ∀ F1 : Nat → sy_d, (∀ j, j < 82 → True → F1 j = F j) → F1 82 = .inl (.int ((((sy_i F 74) + (sy_i F 75)) - ((sy_i F 74) + (sy_i F 75)) / ((40 : Int32)) * ((40 : Int32))) * ((60 : Int32)))) → hd_W Ls xs d jm_M78 Q (52, sy_dL F1 [some (.inl (.ref 66)), none], sy_dS F1 [.inr (.inl 82), .inl (.ref 67), .inl (.ref 46)], sy_dh F1 X1 X2 (iv_H 3), 0, 0)) :
    hd_W Ls xs d jm_M78 Q (0, sy_dL F [some (.inl (.ref 66)), some (.inl (.ref 46))], sy_dS F [], sy_dh F X1 X2 (iv_H 3), 0, 0) := by
  refine hd_run (s := 3) (nv := 82) (pc := 52) (L := [some (.inl (.ref 66)), none]) (S := [.inr (.inl 82), .inl (.ref 67), .inl (.ref 46)]) (uh := hd_ov (iv_id 0 iv_B0) []) (ul := [.inl (.inr (.inl 84))]) (f := true) (sp := [52]) (d0 := 0) (O := [true]) (T := [(0, [.inr (.inl 74), .inr (.inl 75)], []), (10, [.inr (.inl 82), .inl (.int 40)], []), (2, [.inr (.inl 83), .inl (.int 60)], [])]) (P := [(1, .inr (.inl 75), .inl (.int 40)), (1, .inl (.int 40), .inl (.int 0))]) jm_ok78 (by decide +kernel) (by decide +kernel) hd F X1 X2 (fun F' hF hs => ?_)
  have b75 := hd_b (F := F) (F' := F') (k := 75) (hF 75 (by decide))
  have b74 := hd_b (F := F) (F' := F') (k := 74) (hF 74 (by decide))
  have t82 : sy_dv F' (.inr (.inl 82)) = .int ((sy_i F 74) + (sy_i F 75)) := hd_o (hs 0 _ rfl) b74 b75 rfl
  have t83 : sy_dv F' (.inr (.inl 83)) = .int (((sy_i F 74) + (sy_i F 75)) - ((sy_i F 74) + (sy_i F 75)) / ((40 : Int32)) * ((40 : Int32))) := hd_o (hs 1 _ rfl) t82 rfl rfl
  have t84 : sy_dv F' (.inr (.inl 84)) = .int ((((sy_i F 74) + (sy_i F 75)) - ((sy_i F 74) + (sy_i F 75)) / ((40 : Int32)) * ((40 : Int32))) * ((60 : Int32))) := hd_o (hs 2 _ rfl) t83 rfl rfl
  have hB' : iv_in F' iv_B0 := iv_in_eq hB (fun j hj => hF j (Nat.lt_of_lt_of_le hj (by decide +kernel)))
  refine ⟨List.forall_mem_cons.mpr ⟨hd_p1 b75 rfl (by have hc : ((40) : Int32).toInt = 40 := (by decide); omega), List.forall_mem_cons.mpr ⟨(hd_p1 (X := 40) (Y := 0) rfl rfl (by decide)), fun _ h => absurd h List.not_mem_nil⟩⟩, ?_⟩
  refine k _ ?_ ?_
  · exact fun j hj _ => (hd_keep hB' (Nat.lt_of_lt_of_le hj (by decide +kernel)) (by simp)).trans (hF j (Nat.lt_of_lt_of_le hj (by decide)))
  · exact hd_gi (x := .inr (.inl 84)) (by decide +kernel) t84
theorem j3re_0_p1 {Ls : Nat} {xs : Nat → Int32} {d : Nat} {Q : Option Value → jm_h → Prop} (hd : 1 ≤ d) (F : Nat → sy_d) (X1 X2 : List jm_c) (hB : iv_in F iv_B0)
    (h0 : (sy_i F 75).toInt = 40)
    (k : ∀ F1 : Nat → sy_d, (∀ j, j < 82 → j ≠ 74 ∧ j ≠ 75 → F1 j = F j) → F1 74 = .inl (.int (((sy_i F 74) + ((1 : Int32))) - ((sy_i F 74) + ((1 : Int32))) / ((40 : Int32)) * ((40 : Int32)))) → F1 75 = .inl (.int ((sy_i F 75) - ((1 : Int32)))) → F1 82 = .inl (.int ((((((sy_i F 74) + ((1 : Int32))) - ((sy_i F 74) + ((1 : Int32))) / ((40 : Int32)) * ((40 : Int32))) + ((sy_i F 75) - ((1 : Int32)))) - ((((sy_i F 74) + ((1 : Int32))) - ((sy_i F 74) + ((1 : Int32))) / ((40 : Int32)) * ((40 : Int32))) + ((sy_i F 75) - ((1 : Int32)))) / ((40 : Int32)) * ((40 : Int32))) * ((60 : Int32)))) → hd_W Ls xs d jm_M78 Q (52, sy_dL F1 [some (.inl (.ref 66)), none], sy_dS F1 [.inr (.inl 82), .inl (.ref 67), .inl (.ref 46)], sy_dh F1 X1 X2 (iv_H 3), 0, 0)) :
    hd_W Ls xs d jm_M78 Q (0, sy_dL F [some (.inl (.ref 66)), some (.inl (.ref 46))], sy_dS F [], sy_dh F X1 X2 (iv_H 3), 0, 0) := by
  refine hd_run (s := 3) (nv := 82) (pc := 52) (L := [some (.inl (.ref 66)), none]) (S := [.inr (.inl 82), .inl (.ref 67), .inl (.ref 46)]) (uh := hd_ov (iv_id 0 iv_B0) [(74, .inl (.inr (.inl 83))), (75, .inl (.inr (.inl 84)))]) (ul := [.inl (.inr (.inl 87))]) (f := true) (sp := [52]) (d0 := 0) (O := [false]) (T := [(0, [.inr (.inl 74), .inl (.int 1)], []), (10, [.inr (.inl 82), .inl (.int 40)], []), (1, [.inr (.inl 75), .inl (.int 1)], []), (0, [.inr (.inl 83), .inr (.inl 84)], []), (10, [.inr (.inl 85), .inl (.int 40)], []), (2, [.inr (.inl 86), .inl (.int 60)], [])]) (P := [(0, .inr (.inl 75), .inl (.int 40)), (1, .inl (.int 40), .inl (.int 0)), (1, .inl (.int 40), .inl (.int 0))]) jm_ok78 (by decide +kernel) (by decide +kernel) hd F X1 X2 (fun F' hF hs => ?_)
  have b75 := hd_b (F := F) (F' := F') (k := 75) (hF 75 (by decide))
  have b74 := hd_b (F := F) (F' := F') (k := 74) (hF 74 (by decide))
  have t82 : sy_dv F' (.inr (.inl 82)) = .int ((sy_i F 74) + ((1 : Int32))) := hd_o (hs 0 _ rfl) b74 rfl rfl
  have t83 : sy_dv F' (.inr (.inl 83)) = .int (((sy_i F 74) + ((1 : Int32))) - ((sy_i F 74) + ((1 : Int32))) / ((40 : Int32)) * ((40 : Int32))) := hd_o (hs 1 _ rfl) t82 rfl rfl
  have t84 : sy_dv F' (.inr (.inl 84)) = .int ((sy_i F 75) - ((1 : Int32))) := hd_o (hs 2 _ rfl) b75 rfl rfl
  have t85 : sy_dv F' (.inr (.inl 85)) = .int ((((sy_i F 74) + ((1 : Int32))) - ((sy_i F 74) + ((1 : Int32))) / ((40 : Int32)) * ((40 : Int32))) + ((sy_i F 75) - ((1 : Int32)))) := hd_o (hs 3 _ rfl) t83 t84 rfl
  have t86 : sy_dv F' (.inr (.inl 86)) = .int (((((sy_i F 74) + ((1 : Int32))) - ((sy_i F 74) + ((1 : Int32))) / ((40 : Int32)) * ((40 : Int32))) + ((sy_i F 75) - ((1 : Int32)))) - ((((sy_i F 74) + ((1 : Int32))) - ((sy_i F 74) + ((1 : Int32))) / ((40 : Int32)) * ((40 : Int32))) + ((sy_i F 75) - ((1 : Int32)))) / ((40 : Int32)) * ((40 : Int32))) := hd_o (hs 4 _ rfl) t85 rfl rfl
  have t87 : sy_dv F' (.inr (.inl 87)) = .int ((((((sy_i F 74) + ((1 : Int32))) - ((sy_i F 74) + ((1 : Int32))) / ((40 : Int32)) * ((40 : Int32))) + ((sy_i F 75) - ((1 : Int32)))) - ((((sy_i F 74) + ((1 : Int32))) - ((sy_i F 74) + ((1 : Int32))) / ((40 : Int32)) * ((40 : Int32))) + ((sy_i F 75) - ((1 : Int32)))) / ((40 : Int32)) * ((40 : Int32))) * ((60 : Int32))) := hd_o (hs 5 _ rfl) t86 rfl rfl
  have hB' : iv_in F' iv_B0 := iv_in_eq hB (fun j hj => hF j (Nat.lt_of_lt_of_le hj (by decide +kernel)))
  refine ⟨List.forall_mem_cons.mpr ⟨hd_p0 b75 rfl (by have hc : ((40) : Int32).toInt = 40 := (by decide); omega), List.forall_mem_cons.mpr ⟨(hd_p1 (X := 40) (Y := 0) rfl rfl (by decide)), List.forall_mem_cons.mpr ⟨(hd_p1 (X := 40) (Y := 0) rfl rfl (by decide)), fun _ h => absurd h List.not_mem_nil⟩⟩⟩, ?_⟩
  refine k _ ?_ ?_ ?_ ?_
  · exact fun j hj hn => (hd_keep hB' (Nat.lt_of_lt_of_le hj (by decide +kernel)) (by simp; omega)).trans (hF j (Nat.lt_of_lt_of_le hj (by decide)))
  · exact hd_gi (x := .inr (.inl 83)) (by decide +kernel) t83
  · exact hd_gi (x := .inr (.inl 84)) (by decide +kernel) t84
  · exact hd_gi (x := .inr (.inl 87)) (by decide +kernel) t87
theorem j3re_0 {Ls : Nat} {xs : Nat → Int32} {d : Nat} {Q : Option Value → jm_h → Prop} (hd : 1 ≤ d) (F : Nat → sy_d) (X1 X2 : List jm_c) (hB : iv_in F iv_B0)
    (k0 : (sy_i F 75).toInt ≠ 40 → ∀ F1 : Nat → sy_d, iv_in F1 iv_B0 → (∀ j, j < 82 → j ∉ ([] : List Nat) → F1 j = F j) → (sy_i F1 82).toInt = ((((sy_i F 74) + (sy_i F 75)) - ((sy_i F 74) + (sy_i F 75)) / ((40 : Int32)) * ((40 : Int32))) * ((60 : Int32))).toInt → sy_i F1 82 = (((sy_i F 74) + (sy_i F 75)) - ((sy_i F 74) + (sy_i F 75)) / ((40 : Int32)) * ((40 : Int32))) * ((60 : Int32)) → hd_W Ls xs d jm_M78 Q (52, sy_dL F1 [some (.inl (.ref 66)), none], sy_dS F1 [.inr (.inl 82), .inl (.ref 67), .inl (.ref 46)], sy_dh F1 X1 X2 (iv_H 3), 0, 0))
    (k1 : (sy_i F 75).toInt = 40 → ∀ F1 : Nat → sy_d, iv_in F1 iv_B0 → (∀ j, j < 82 → j ∉ ([74, 75] : List Nat) → F1 j = F j) → (sy_i F1 74).toInt = (((sy_i F 74) + ((1 : Int32))) - ((sy_i F 74) + ((1 : Int32))) / ((40 : Int32)) * ((40 : Int32))).toInt → sy_i F1 74 = ((sy_i F 74) + ((1 : Int32))) - ((sy_i F 74) + ((1 : Int32))) / ((40 : Int32)) * ((40 : Int32)) → (sy_i F1 75).toInt = ((sy_i F 75).toInt - 1) → sy_i F1 75 = (sy_i F 75) - ((1 : Int32)) → (sy_i F1 82).toInt = ((((((sy_i F 74) + ((1 : Int32))) - ((sy_i F 74) + ((1 : Int32))) / ((40 : Int32)) * ((40 : Int32))) + ((sy_i F 75) - ((1 : Int32)))) - ((((sy_i F 74) + ((1 : Int32))) - ((sy_i F 74) + ((1 : Int32))) / ((40 : Int32)) * ((40 : Int32))) + ((sy_i F 75) - ((1 : Int32)))) / ((40 : Int32)) * ((40 : Int32))) * ((60 : Int32))).toInt → sy_i F1 82 = (((((sy_i F 74) + ((1 : Int32))) - ((sy_i F 74) + ((1 : Int32))) / ((40 : Int32)) * ((40 : Int32))) + ((sy_i F 75) - ((1 : Int32)))) - ((((sy_i F 74) + ((1 : Int32))) - ((sy_i F 74) + ((1 : Int32))) / ((40 : Int32)) * ((40 : Int32))) + ((sy_i F 75) - ((1 : Int32)))) / ((40 : Int32)) * ((40 : Int32))) * ((60 : Int32)) → hd_W Ls xs d jm_M78 Q (52, sy_dL F1 [some (.inl (.ref 66)), none], sy_dS F1 [.inr (.inl 82), .inl (.ref 67), .inl (.ref 46)], sy_dh F1 X1 X2 (iv_H 3), 0, 0)) :
    hd_W Ls xs d jm_M78 Q (0, sy_dL F [some (.inl (.ref 66)), some (.inl (.ref 46))], sy_dS F [], sy_dh F X1 X2 (iv_H 3), 0, 0) := by
  by_cases g0 : (sy_i F 75).toInt ≠ 40
  · have c75 := nz_bx hB (k := 75) (lo := 0) (hi := 40) rfl
    have n84 : nzI ((((sy_i F 74) + (sy_i F 75)) - ((sy_i F 74) + (sy_i F 75)) / ((40 : Int32)) * ((40 : Int32))) * ((60 : Int32))) (((((sy_i F 74) + (sy_i F 75)) - ((sy_i F 74) + (sy_i F 75)) / ((40 : Int32)) * ((40 : Int32))) * ((60 : Int32))).toInt) := congrArg Int32.toInt (rfl : (((sy_i F 74) + (sy_i F 75)) - ((sy_i F 74) + (sy_i F 75)) / ((40 : Int32)) * ((40 : Int32))) * ((60 : Int32)) = (((sy_i F 74) + (sy_i F 75)) - ((sy_i F 74) + (sy_i F 75)) / ((40 : Int32)) * ((40 : Int32))) * ((60 : Int32)))
    exact j3re_0_p0 hd F X1 X2 hB (by first | exact g0 | (simp only [nz_c]; exact g0)) (fun F1 g e82 => k0 g0 F1 (nz_in0 hB [] (fun j hj hn => g j hj (by simp only [List.mem_cons, List.not_mem_nil, or_false, not_or] at hn; exact trivial)) (List.forall_mem_nil _)) (fun j hj hn => g j hj (by simp only [List.mem_cons, List.not_mem_nil, or_false, not_or] at hn; exact trivial)) ((congrArg Int32.toInt (zz_i e82)).trans (nzE n84)) ((zz_i e82).trans (rfl : (((sy_i F 74) + (sy_i F 75)) - ((sy_i F 74) + (sy_i F 75)) / ((40 : Int32)) * ((40 : Int32))) * ((60 : Int32)) = (((sy_i F 74) + (sy_i F 75)) - ((sy_i F 74) + (sy_i F 75)) / ((40 : Int32)) * ((40 : Int32))) * ((60 : Int32)))))
  replace g0 : (sy_i F 75).toInt = 40 := by omega
  have c75 := nz_bx hB (k := 75) (lo := 0) (hi := 40) rfl
  have n83 : nzI (((sy_i F 74) + ((1 : Int32))) - ((sy_i F 74) + ((1 : Int32))) / ((40 : Int32)) * ((40 : Int32))) ((((sy_i F 74) + ((1 : Int32))) - ((sy_i F 74) + ((1 : Int32))) / ((40 : Int32)) * ((40 : Int32))).toInt) := congrArg Int32.toInt (rfl : ((sy_i F 74) + ((1 : Int32))) - ((sy_i F 74) + ((1 : Int32))) / ((40 : Int32)) * ((40 : Int32)) = ((sy_i F 74) + ((1 : Int32))) - ((sy_i F 74) + ((1 : Int32))) / ((40 : Int32)) * ((40 : Int32)))
  have c74 := nz_bx hB (k := 74) (lo := 0) (hi := 39) rfl
  have n82 : nzI ((sy_i F 74) + ((1 : Int32))) (((sy_i F 74).toInt + 1)) := nz_add (rfl : (sy_i F 74).toInt = (sy_i F 74).toInt) (by decide : ((1 : Int32)).toInt = 1) (by omega) (by omega)
  have r83 := rmB (nzE n82) (by decide : ((40 : Int32)).toInt = 40) (by omega) (by decide)
  have n84 : nzI ((sy_i F 75) - ((1 : Int32))) (((sy_i F 75).toInt - 1)) := nz_sub (rfl : (sy_i F 75).toInt = (sy_i F 75).toInt) (by decide : ((1 : Int32)).toInt = 1) (by omega) (by omega)
  have n87 : nzI ((((((sy_i F 74) + ((1 : Int32))) - ((sy_i F 74) + ((1 : Int32))) / ((40 : Int32)) * ((40 : Int32))) + ((sy_i F 75) - ((1 : Int32)))) - ((((sy_i F 74) + ((1 : Int32))) - ((sy_i F 74) + ((1 : Int32))) / ((40 : Int32)) * ((40 : Int32))) + ((sy_i F 75) - ((1 : Int32)))) / ((40 : Int32)) * ((40 : Int32))) * ((60 : Int32))) (((((((sy_i F 74) + ((1 : Int32))) - ((sy_i F 74) + ((1 : Int32))) / ((40 : Int32)) * ((40 : Int32))) + ((sy_i F 75) - ((1 : Int32)))) - ((((sy_i F 74) + ((1 : Int32))) - ((sy_i F 74) + ((1 : Int32))) / ((40 : Int32)) * ((40 : Int32))) + ((sy_i F 75) - ((1 : Int32)))) / ((40 : Int32)) * ((40 : Int32))) * ((60 : Int32))).toInt) := congrArg Int32.toInt (rfl : (((((sy_i F 74) + ((1 : Int32))) - ((sy_i F 74) + ((1 : Int32))) / ((40 : Int32)) * ((40 : Int32))) + ((sy_i F 75) - ((1 : Int32)))) - ((((sy_i F 74) + ((1 : Int32))) - ((sy_i F 74) + ((1 : Int32))) / ((40 : Int32)) * ((40 : Int32))) + ((sy_i F 75) - ((1 : Int32)))) / ((40 : Int32)) * ((40 : Int32))) * ((60 : Int32)) = (((((sy_i F 74) + ((1 : Int32))) - ((sy_i F 74) + ((1 : Int32))) / ((40 : Int32)) * ((40 : Int32))) + ((sy_i F 75) - ((1 : Int32)))) - ((((sy_i F 74) + ((1 : Int32))) - ((sy_i F 74) + ((1 : Int32))) / ((40 : Int32)) * ((40 : Int32))) + ((sy_i F 75) - ((1 : Int32)))) / ((40 : Int32)) * ((40 : Int32))) * ((60 : Int32)))
  exact j3re_0_p1 hd F X1 X2 hB (by first | exact g0 | (simp only [nz_c]; exact g0)) (fun F1 g e74 e75 e82 => k1 g0 F1 (nz_in0 hB [74, 75] (fun j hj hn => g j hj (by simp only [List.mem_cons, List.not_mem_nil, or_false, not_or] at hn; omega)) (List.forall_mem_cons.mpr ⟨fun t ht => (Option.some.inj ht) ▸ (nz_hi e74 (nzE n83) (by omega) (by omega)), List.forall_mem_cons.mpr ⟨fun t ht => (Option.some.inj ht) ▸ (nz_hi e75 (nzE n84) (by omega) (by omega)), List.forall_mem_nil _⟩⟩)) (fun j hj hn => g j hj (by simp only [List.mem_cons, List.not_mem_nil, or_false, not_or] at hn; omega)) ((congrArg Int32.toInt (zz_i e74)).trans (nzE n83)) ((zz_i e74).trans (rfl : ((sy_i F 74) + ((1 : Int32))) - ((sy_i F 74) + ((1 : Int32))) / ((40 : Int32)) * ((40 : Int32)) = ((sy_i F 74) + ((1 : Int32))) - ((sy_i F 74) + ((1 : Int32))) / ((40 : Int32)) * ((40 : Int32)))) ((congrArg Int32.toInt (zz_i e75)).trans (nzE n84)) ((zz_i e75).trans (rfl : (sy_i F 75) - ((1 : Int32)) = (sy_i F 75) - ((1 : Int32)))) ((congrArg Int32.toInt (zz_i e82)).trans (nzE n87)) ((zz_i e82).trans (rfl : (((((sy_i F 74) + ((1 : Int32))) - ((sy_i F 74) + ((1 : Int32))) / ((40 : Int32)) * ((40 : Int32))) + ((sy_i F 75) - ((1 : Int32)))) - ((((sy_i F 74) + ((1 : Int32))) - ((sy_i F 74) + ((1 : Int32))) / ((40 : Int32)) * ((40 : Int32))) + ((sy_i F 75) - ((1 : Int32)))) / ((40 : Int32)) * ((40 : Int32))) * ((60 : Int32)) = (((((sy_i F 74) + ((1 : Int32))) - ((sy_i F 74) + ((1 : Int32))) / ((40 : Int32)) * ((40 : Int32))) + ((sy_i F 75) - ((1 : Int32)))) - ((((sy_i F 74) + ((1 : Int32))) - ((sy_i F 74) + ((1 : Int32))) / ((40 : Int32)) * ((40 : Int32))) + ((sy_i F 75) - ((1 : Int32)))) / ((40 : Int32)) * ((40 : Int32))) * ((60 : Int32)))))
theorem j3re_55_p0 {Ls : Nat} {xs : Nat → Int32} {d : Nat} {Q : Option Value → jm_h → Prop} (hd : 1 ≤ d) (F : Nat → sy_d) (X1 X2 : List jm_c) (hB : iv_in F iv_B0)
    (k : ∀ F1 : Nat → sy_d, (∀ j, j < 82 → j ≠ 75 → F1 j = F j) → F1 75 = .inl (.int ((sy_i F 75) + ((1 : Int32)))) → Q (none) (sy_dh F1 X1 X2 (iv_H 3))) :
    hd_W Ls xs d jm_M78 Q (55, sy_dL F [some (.inl (.ref 66)), none], sy_dS F [], sy_dh F X1 X2 (iv_H 3), 0, 0) := by
  refine hd_ret (s := 3) (nv := 82) (v := none) (uh := hd_ov (iv_id 0 iv_B0) [(75, .inl (.inr (.inl 82)))]) (f := false) (sp := []) (d0 := 0) (O := []) (T := [(0, [.inr (.inl 75), .inl (.int 1)], [])]) (P := []) jm_ok78 (by decide +kernel) (by decide +kernel) hd F X1 X2 (fun F' hF hs => ?_)
  have b75 := hd_b (F := F) (F' := F') (k := 75) (hF 75 (by decide))
  have t82 : sy_dv F' (.inr (.inl 82)) = .int ((sy_i F 75) + ((1 : Int32))) := hd_o (hs 0 _ rfl) b75 rfl rfl
  have hB' : iv_in F' iv_B0 := iv_in_eq hB (fun j hj => hF j (Nat.lt_of_lt_of_le hj (by decide +kernel)))
  refine ⟨fun _ h => absurd h List.not_mem_nil, ?_⟩
  refine k _ ?_ ?_
  · exact fun j hj hn => (hd_keep hB' (Nat.lt_of_lt_of_le hj (by decide +kernel)) (by simp; omega)).trans (hF j (Nat.lt_of_lt_of_le hj (by decide)))
  · exact hd_gi (x := .inr (.inl 82)) (by decide +kernel) t82
theorem j3re_55 {Ls : Nat} {xs : Nat → Int32} {d : Nat} {Q : Option Value → jm_h → Prop} (hd : 1 ≤ d) (F : Nat → sy_d) (X1 X2 : List jm_c) (hB : iv_in F iv_B0)
    (o0 : (0 ≤ ((sy_i F 75).toInt + 1) ∧ ((sy_i F 75).toInt + 1) ≤ 40))
    (k0 : ∀ F1 : Nat → sy_d, iv_in F1 iv_B0 → (∀ j, j < 82 → j ∉ ([75] : List Nat) → F1 j = F j) → (sy_i F1 75).toInt = ((sy_i F 75).toInt + 1) → sy_i F1 75 = (sy_i F 75) + ((1 : Int32)) → Q (none) (sy_dh F1 X1 X2 (iv_H 3))) :
    hd_W Ls xs d jm_M78 Q (55, sy_dL F [some (.inl (.ref 66)), none], sy_dS F [], sy_dh F X1 X2 (iv_H 3), 0, 0) := by
  have c75 := nz_bx hB (k := 75) (lo := 0) (hi := 40) rfl
  have n82 : nzI ((sy_i F 75) + ((1 : Int32))) (((sy_i F 75).toInt + 1)) := nz_add (rfl : (sy_i F 75).toInt = (sy_i F 75).toInt) (by decide : ((1 : Int32)).toInt = 1) (by omega) (by omega)
  exact j3re_55_p0 hd F X1 X2 hB  (fun F1 g e75 => k0 F1 (nz_in0 hB [75] (fun j hj hn => g j hj (by simp only [List.mem_cons, List.not_mem_nil, or_false, not_or] at hn; omega)) (List.forall_mem_cons.mpr ⟨fun t ht => (Option.some.inj ht) ▸ (nz_hi e75 (nzE n82) (o0).1 (o0).2), List.forall_mem_nil _⟩)) (fun j hj hn => g j hj (by simp only [List.mem_cons, List.not_mem_nil, or_false, not_or] at hn; omega)) ((congrArg Int32.toInt (zz_i e75)).trans (nzE n82)) ((zz_i e75).trans (rfl : (sy_i F 75) + ((1 : Int32)) = (sy_i F 75) + ((1 : Int32)))))
theorem j3st_0_p0 {Ls : Nat} {xs : Nat → Int32} {d : Nat} {Q : Option Value → jm_h → Prop} (hd : 1 ≤ d) (F : Nat → sy_d) (X1 X2 : List jm_c) (hB : iv_in F iv_B0)
    (h0 : (sy_i F 75).toInt ≠ 0)
    (k : ∀ F1 : Nat → sy_d, (∀ j, j < 82 → j ≠ 75 → F1 j = F j) → F1 75 = .inl (.int ((sy_i F 75) - ((1 : Int32)))) → F1 82 = .inl (.int ((((sy_i F 74) + ((sy_i F 75) - ((1 : Int32)))) - ((sy_i F 74) + ((sy_i F 75) - ((1 : Int32)))) / ((40 : Int32)) * ((40 : Int32))) * ((60 : Int32)))) → hd_W Ls xs d jm_M79 Q (39, sy_dL F1 [none, none], sy_dS F1 [.inr (.inl 82), .inl (.ref 67), .inl (.ref 46)], sy_dh F1 X1 X2 (iv_H 3), 0, 0)) :
    hd_W Ls xs d jm_M79 Q (0, sy_dL F [some (.inl (.ref 66)), some (.inl (.ref 46))], sy_dS F [], sy_dh F X1 X2 (iv_H 3), 0, 0) := by
  refine hd_run (s := 3) (nv := 82) (pc := 39) (L := [none, none]) (S := [.inr (.inl 82), .inl (.ref 67), .inl (.ref 46)]) (uh := hd_ov (iv_id 0 iv_B0) [(75, .inl (.inr (.inl 82)))]) (ul := [.inl (.inr (.inl 85))]) (f := true) (sp := [39]) (d0 := 0) (O := [true]) (T := [(1, [.inr (.inl 75), .inl (.int 1)], []), (0, [.inr (.inl 74), .inr (.inl 82)], []), (10, [.inr (.inl 83), .inl (.int 40)], []), (2, [.inr (.inl 84), .inl (.int 60)], [])]) (P := [(1, .inr (.inl 75), .inl (.int 0)), (1, .inl (.int 40), .inl (.int 0))]) jm_ok79 (by decide +kernel) (by decide +kernel) hd F X1 X2 (fun F' hF hs => ?_)
  have b75 := hd_b (F := F) (F' := F') (k := 75) (hF 75 (by decide))
  have t82 : sy_dv F' (.inr (.inl 82)) = .int ((sy_i F 75) - ((1 : Int32))) := hd_o (hs 0 _ rfl) b75 rfl rfl
  have b74 := hd_b (F := F) (F' := F') (k := 74) (hF 74 (by decide))
  have t83 : sy_dv F' (.inr (.inl 83)) = .int ((sy_i F 74) + ((sy_i F 75) - ((1 : Int32)))) := hd_o (hs 1 _ rfl) b74 t82 rfl
  have t84 : sy_dv F' (.inr (.inl 84)) = .int (((sy_i F 74) + ((sy_i F 75) - ((1 : Int32)))) - ((sy_i F 74) + ((sy_i F 75) - ((1 : Int32)))) / ((40 : Int32)) * ((40 : Int32))) := hd_o (hs 2 _ rfl) t83 rfl rfl
  have t85 : sy_dv F' (.inr (.inl 85)) = .int ((((sy_i F 74) + ((sy_i F 75) - ((1 : Int32)))) - ((sy_i F 74) + ((sy_i F 75) - ((1 : Int32)))) / ((40 : Int32)) * ((40 : Int32))) * ((60 : Int32))) := hd_o (hs 3 _ rfl) t84 rfl rfl
  have hB' : iv_in F' iv_B0 := iv_in_eq hB (fun j hj => hF j (Nat.lt_of_lt_of_le hj (by decide +kernel)))
  refine ⟨List.forall_mem_cons.mpr ⟨hd_p1 b75 rfl (by have hc : ((0) : Int32).toInt = 0 := (by decide); omega), List.forall_mem_cons.mpr ⟨(hd_p1 (X := 40) (Y := 0) rfl rfl (by decide)), fun _ h => absurd h List.not_mem_nil⟩⟩, ?_⟩
  refine k _ ?_ ?_ ?_
  · exact fun j hj hn => (hd_keep hB' (Nat.lt_of_lt_of_le hj (by decide +kernel)) (by simp; omega)).trans (hF j (Nat.lt_of_lt_of_le hj (by decide)))
  · exact hd_gi (x := .inr (.inl 82)) (by decide +kernel) t82
  · exact hd_gi (x := .inr (.inl 85)) (by decide +kernel) t85
theorem j3st_0_p1 {Ls : Nat} {xs : Nat → Int32} {d : Nat} {Q : Option Value → jm_h → Prop} (hd : 1 ≤ d) (F : Nat → sy_d) (X1 X2 : List jm_c) (hB : iv_in F iv_B0)
    (h0 : (sy_i F 75).toInt = 0)
    (k : ∀ F1 : Nat → sy_d, (∀ j, j < 82 → True → F1 j = F j) → Q (some (.int ((0 : Int32)))) (sy_dh F1 X1 X2 (iv_H 3))) :
    hd_W Ls xs d jm_M79 Q (0, sy_dL F [some (.inl (.ref 66)), some (.inl (.ref 46))], sy_dS F [], sy_dh F X1 X2 (iv_H 3), 0, 0) := by
  refine hd_ret (s := 3) (nv := 82) (v := some (.inl (.int 0))) (uh := hd_ov (iv_id 0 iv_B0) []) (f := true) (sp := [39]) (d0 := 0) (O := [false]) (T := []) (P := [(0, .inr (.inl 75), .inl (.int 0))]) jm_ok79 (by decide +kernel) (by decide +kernel) hd F X1 X2 (fun F' hF hs => ?_)
  have b75 := hd_b (F := F) (F' := F') (k := 75) (hF 75 (by decide))
  have hB' : iv_in F' iv_B0 := iv_in_eq hB (fun j hj => hF j (Nat.lt_of_lt_of_le hj (by decide +kernel)))
  refine ⟨List.forall_mem_cons.mpr ⟨hd_p0 b75 rfl (by have hc : ((0) : Int32).toInt = 0 := (by decide); omega), fun _ h => absurd h List.not_mem_nil⟩, ?_⟩
  refine k _ ?_
  · exact fun j hj _ => (hd_keep hB' (Nat.lt_of_lt_of_le hj (by decide +kernel)) (by simp)).trans (hF j (Nat.lt_of_lt_of_le hj (by decide)))
theorem j3st_0 {Ls : Nat} {xs : Nat → Int32} {d : Nat} {Q : Option Value → jm_h → Prop} (hd : 1 ≤ d) (F : Nat → sy_d) (X1 X2 : List jm_c) (hB : iv_in F iv_B0)
    (k0 : (sy_i F 75).toInt ≠ 0 → ∀ F1 : Nat → sy_d, iv_in F1 iv_B0 → (∀ j, j < 82 → j ∉ ([75] : List Nat) → F1 j = F j) → (sy_i F1 75).toInt = ((sy_i F 75).toInt - 1) → sy_i F1 75 = (sy_i F 75) - ((1 : Int32)) → (sy_i F1 82).toInt = ((((sy_i F 74) + ((sy_i F 75) - ((1 : Int32)))) - ((sy_i F 74) + ((sy_i F 75) - ((1 : Int32)))) / ((40 : Int32)) * ((40 : Int32))) * ((60 : Int32))).toInt → sy_i F1 82 = (((sy_i F 74) + ((sy_i F 75) - ((1 : Int32)))) - ((sy_i F 74) + ((sy_i F 75) - ((1 : Int32)))) / ((40 : Int32)) * ((40 : Int32))) * ((60 : Int32)) → hd_W Ls xs d jm_M79 Q (39, sy_dL F1 [none, none], sy_dS F1 [.inr (.inl 82), .inl (.ref 67), .inl (.ref 46)], sy_dh F1 X1 X2 (iv_H 3), 0, 0))
    (k1 : (sy_i F 75).toInt = 0 → ∀ F1 : Nat → sy_d, iv_in F1 iv_B0 → (∀ j, j < 82 → j ∉ ([] : List Nat) → F1 j = F j) → Q (some (.int ((0 : Int32)))) (sy_dh F1 X1 X2 (iv_H 3))) :
    hd_W Ls xs d jm_M79 Q (0, sy_dL F [some (.inl (.ref 66)), some (.inl (.ref 46))], sy_dS F [], sy_dh F X1 X2 (iv_H 3), 0, 0) := by
  by_cases g0 : (sy_i F 75).toInt ≠ 0
  · have c75 := nz_bx hB (k := 75) (lo := 0) (hi := 40) rfl
    have n82 : nzI ((sy_i F 75) - ((1 : Int32))) (((sy_i F 75).toInt - 1)) := nz_sub (rfl : (sy_i F 75).toInt = (sy_i F 75).toInt) (by decide : ((1 : Int32)).toInt = 1) (by omega) (by omega)
    have n85 : nzI ((((sy_i F 74) + ((sy_i F 75) - ((1 : Int32)))) - ((sy_i F 74) + ((sy_i F 75) - ((1 : Int32)))) / ((40 : Int32)) * ((40 : Int32))) * ((60 : Int32))) (((((sy_i F 74) + ((sy_i F 75) - ((1 : Int32)))) - ((sy_i F 74) + ((sy_i F 75) - ((1 : Int32)))) / ((40 : Int32)) * ((40 : Int32))) * ((60 : Int32))).toInt) := congrArg Int32.toInt (rfl : (((sy_i F 74) + ((sy_i F 75) - ((1 : Int32)))) - ((sy_i F 74) + ((sy_i F 75) - ((1 : Int32)))) / ((40 : Int32)) * ((40 : Int32))) * ((60 : Int32)) = (((sy_i F 74) + ((sy_i F 75) - ((1 : Int32)))) - ((sy_i F 74) + ((sy_i F 75) - ((1 : Int32)))) / ((40 : Int32)) * ((40 : Int32))) * ((60 : Int32)))
    exact j3st_0_p0 hd F X1 X2 hB (by first | exact g0 | (simp only [nz_c]; exact g0)) (fun F1 g e75 e82 => k0 g0 F1 (nz_in0 hB [75] (fun j hj hn => g j hj (by simp only [List.mem_cons, List.not_mem_nil, or_false, not_or] at hn; omega)) (List.forall_mem_cons.mpr ⟨fun t ht => (Option.some.inj ht) ▸ (nz_hi e75 (nzE n82) (by omega) (by omega)), List.forall_mem_nil _⟩)) (fun j hj hn => g j hj (by simp only [List.mem_cons, List.not_mem_nil, or_false, not_or] at hn; omega)) ((congrArg Int32.toInt (zz_i e75)).trans (nzE n82)) ((zz_i e75).trans (rfl : (sy_i F 75) - ((1 : Int32)) = (sy_i F 75) - ((1 : Int32)))) ((congrArg Int32.toInt (zz_i e82)).trans (nzE n85)) ((zz_i e82).trans (rfl : (((sy_i F 74) + ((sy_i F 75) - ((1 : Int32)))) - ((sy_i F 74) + ((sy_i F 75) - ((1 : Int32)))) / ((40 : Int32)) * ((40 : Int32))) * ((60 : Int32)) = (((sy_i F 74) + ((sy_i F 75) - ((1 : Int32)))) - ((sy_i F 74) + ((sy_i F 75) - ((1 : Int32)))) / ((40 : Int32)) * ((40 : Int32))) * ((60 : Int32)))))
  replace g0 : (sy_i F 75).toInt = 0 := by omega
  have c75 := nz_bx hB (k := 75) (lo := 0) (hi := 40) rfl
  exact j3st_0_p1 hd F X1 X2 hB (by first | exact g0 | (simp only [nz_c]; exact g0)) (fun F1 g  => k1 g0 F1 (nz_in0 hB [] (fun j hj hn => g j hj (by simp only [List.mem_cons, List.not_mem_nil, or_false, not_or] at hn; exact trivial)) (List.forall_mem_nil _)) (fun j hj hn => g j hj (by simp only [List.mem_cons, List.not_mem_nil, or_false, not_or] at hn; exact trivial)) )
theorem j3st_42_p0 {Ls : Nat} {xs : Nat → Int32} {d : Nat} {Q : Option Value → jm_h → Prop} (hd : 1 ≤ d) (F : Nat → sy_d) (X1 X2 : List jm_c) (hB : iv_in F iv_B0)
    (k : ∀ F1 : Nat → sy_d, (∀ j, j < 82 → True → F1 j = F j) → Q (some (.int ((1 : Int32)))) (sy_dh F1 X1 X2 (iv_H 3))) :
    hd_W Ls xs d jm_M79 Q (42, sy_dL F [none, none], sy_dS F [], sy_dh F X1 X2 (iv_H 3), 0, 0) := by
  refine hd_ret (s := 3) (nv := 82) (v := some (.inl (.int 1))) (uh := hd_ov (iv_id 0 iv_B0) []) (f := false) (sp := []) (d0 := 0) (O := []) (T := []) (P := []) jm_ok79 (by decide +kernel) (by decide +kernel) hd F X1 X2 (fun F' hF hs => ?_)
  have hB' : iv_in F' iv_B0 := iv_in_eq hB (fun j hj => hF j (Nat.lt_of_lt_of_le hj (by decide +kernel)))
  refine ⟨fun _ h => absurd h List.not_mem_nil, ?_⟩
  refine k _ ?_
  · exact fun j hj _ => (hd_keep hB' (Nat.lt_of_lt_of_le hj (by decide +kernel)) (by simp)).trans (hF j (Nat.lt_of_lt_of_le hj (by decide)))
theorem j3st_42 {Ls : Nat} {xs : Nat → Int32} {d : Nat} {Q : Option Value → jm_h → Prop} (hd : 1 ≤ d) (F : Nat → sy_d) (X1 X2 : List jm_c) (hB : iv_in F iv_B0)
    (k0 : ∀ F1 : Nat → sy_d, iv_in F1 iv_B0 → (∀ j, j < 82 → j ∉ ([] : List Nat) → F1 j = F j) → Q (some (.int ((1 : Int32)))) (sy_dh F1 X1 X2 (iv_H 3))) :
    hd_W Ls xs d jm_M79 Q (42, sy_dL F [none, none], sy_dS F [], sy_dh F X1 X2 (iv_H 3), 0, 0) := by
  exact j3st_42_p0 hd F X1 X2 hB  (fun F1 g  => k0 F1 (nz_in0 hB [] (fun j hj hn => g j hj (by simp only [List.mem_cons, List.not_mem_nil, or_false, not_or] at hn; exact trivial)) (List.forall_mem_nil _)) (fun j hj hn => g j hj (by simp only [List.mem_cons, List.not_mem_nil, or_false, not_or] at hn; exact trivial)) )
end
section
/-! ===== the class remembers and steps back (shape 3) ===== -/
section RM3
variable {Ls : Nat} {xs : Nat → Int32} {nf nb : Nat} {g : gS} (F : Nat → sy_d) (X1 X2 : List jm_c)
theorem j3re_W (hf : nf ≤ 7) (hb : nb ≤ 4) (hg : gC 50 nf nb F g) {F1 : Nat → sy_d} {o : Nat} {U : List gS} (ho : o < 40) (hU : U.length < 40) (hq : qC [74, 75] F F1) (e74 : (sy_i F1 74).toInt = o) (e75 : (sy_i F1 75).toInt = U.length) (hk : trK nf nb (sy_ai F 76) o U) (e82 : (sy_i F1 82).toInt = (((o + U.length) % 40 * 60 : Nat) : Int)) :
    hd_W Ls xs 2 jm_M78 (pV 3 X1 X2 (fun F' => qC [74, 75, 76] F F' ∧ trC nf nb F' (g :: U))) (52, sy_dL F1 [some (.inl (.ref 66)), none], sy_dS F1 [.inr (.inl 82), .inl (.ref 67), .inl (.ref 46)], sy_dh F1 X1 X2 (iv_H 3), 0, 0) := by
  refine hd_calV (R := fun F' => qC [76] F1 F' ∧ svR (sy_ai F' 76) ((o + U.length) % 40 * 60) F1 50 ∧ ∀ j, j < (o + U.length) % 40 * 60 ∨ (o + U.length) % 40 * 60 + 60 ≤ j → (sy_ai F' 76).getD j 0 = (sy_ai F1 76).getD j 0) (nh := 82) (nv := 82) (s := 3) (s1 := 3) (d1 := 1) (M1 := jm_M9) (As := [.inl (.ref 46), .inl (.ref 67), .inr (.inl 82)]) (rest := []) jm_ok78 rfl rfl (by decide) (by decide +kernel) (j3svt_V F1 X1 X2 hq.1 e82 (by omega)) (fun F3 F' hR p1 p2 => ?_)
  obtain ⟨r1, r2, r3⟩ := hR
  have r1' : qC [76] F1 F3 := qC_dst r1 p1
  have e753 : (sy_i F3 75).toInt = U.length := by rw [qq_i r1' (by decide) (by decide)]; exact e75
  refine j3re_55 (by decide) F3 X1 X2 r1'.1 (by omega) ?_
  intro F4 hb4 g4 e754 j754
  have g1 : gC 50 nf nb F1 g := gC_eq hg (fun j h1 h2 => hq.2 j (by omega) (by simp; omega))
  have l4 : sy_ai F4 76 = sy_ai F' 76 := (nz_fa (g4 76 (by decide) (by decide))).trans (nz_fa (p1 76 (by decide)))
  have l1 : sy_ai F1 76 = sy_ai F 76 := qq_a hq (by decide) (by decide)
  refine ⟨F4, rfl, rfl, qq_on (qq_trans (qq_up hq (by decide)) (qq_up r1' (by decide))) hb4 g4 (by decide), o, ho, by simp only [List.length_cons]; omega, ?_, by simp only [List.length_cons]; omega, ?_, ?_⟩
  · rw [nz_fi (g4 74 (by decide) (by decide)), qq_i r1' (by decide) (by decide)]
    exact e74
  · rw [l4]
    exact svC_of hf hb r2 g1
  · rw [l4]
    refine trK_eq hf hb U (fun k hk' j h1 h2 => ?_) hk
    rw [← l1]
    exact r3 j (by omega)
theorem j3re_V (hB : iv_in F iv_B0) (hf : nf ≤ 7) (hb : nb ≤ 4) (hg : gC 50 nf nb F g) {U : List gS} (hT : trC nf nb F U) : jm_T Ls xs 2 jm_M78 [.ref 66, .ref 46] (sy_dh F X1 X2 (iv_H 3)) 0 0 (pV 3 X1 X2 (fun F' => qC [74, 75, 76] F F' ∧ trC nf nb F' (rmS g U))) := by
  obtain ⟨o, h1, h2, h3, h4, h5⟩ := hT
  refine hd_T (As := [.inl (.ref 66), .inl (.ref 46)]) jm_ok78 (by decide) (j3re_0 (by decide) F X1 X2 hB ?_ ?_)
  · intro c0 F1 hb1 gg e82 j82
    have hn : U.length ≠ 40 := by omega
    unfold rmS
    rw [if_neg hn]
    refine j3re_W F X1 X2 hf hb hg h1 (by omega) (qq_mk hb1 gg (by decide)) (by rw [nz_fi (gg 74 (by decide) (by decide))]; exact h3) (by rw [nz_fi (gg 75 (by decide) (by decide))]; exact h4) h5 ?_
    rw [e82]
    exact rm60 (n := o + U.length) (nz_add h3 h4 (by omega) (by omega))
  · intro c0 F1 hb1 gg e74 j74 e75 j75 e82 j82
    have hn : U.length = 40 := by omega
    unfold rmS
    rw [if_pos hn]
    have o1 : (sy_i F 74 + 1 - (sy_i F 74 + 1) / 40 * 40).toInt = (((o + 1) % 40 : Nat) : Int) := rm40 (n := o + 1) (nz_add h3 (by decide : (1 : Int32).toInt = 1) (by omega) (by omega))
    have s1 : (sy_i F 75 - 1).toInt = ((39 : Nat) : Int) := (nz_sub h4 (by decide : (1 : Int32).toInt = 1) (by omega) (by omega)).trans (by omega)
    have hd : U.dropLast.length = 39 := by rw [List.length_dropLast, hn]
    refine j3re_W F X1 X2 hf hb hg (o := (o + 1) % 40) (U := U.dropLast) (by omega) (by omega) (qq_mk hb1 gg (by decide)) (e74.trans o1) (by rw [hd]; omega) (trK_dr U h5) ?_
    rw [e82, hd]
    exact rm60 (n := (o + 1) % 40 + 39) (nz_add o1 s1 (by omega) (by omega))
theorem j3st_V0 (hB : iv_in F iv_B0) (hT : trC nf nb F []) : jm_T Ls xs 2 jm_M79 [.ref 66, .ref 46] (sy_dh F X1 X2 (iv_H 3)) 0 0 (pI 3 X1 X2 (fun x F' => x = 0 ∧ qC [] F F')) := by
  obtain ⟨o, h1, h2, h3, h4, h5⟩ := hT
  have h4' : (sy_i F 75).toInt = 0 := h4
  refine hd_T (As := [.inl (.ref 66), .inl (.ref 46)]) jm_ok79 (by decide) (j3st_0 (by decide) F X1 X2 hB ?_ ?_)
  · intros
    omega
  · intro c0 F1 hb1 gg
    exact ⟨_, F1, rfl, rfl, rfl, qq_mk hb1 gg (by decide)⟩
theorem j3st_V1 (hB : iv_in F iv_B0) (hf : nf ≤ 7) (hb : nb ≤ 4) {U : List gS} (hT : trC nf nb F (g :: U)) : jm_T Ls xs 2 jm_M79 [.ref 66, .ref 46] (sy_dh F X1 X2 (iv_H 3)) 0 0 (pI 3 X1 X2 (fun x F' => x = 1 ∧ qC (75 :: [50, 51, 52, 53, 54, 55, 56, 57, 58, 59, 60, 61]) F F' ∧ trC nf nb F' U ∧ gC 50 nf nb F' g)) := by
  obtain ⟨o, h1, h2, h3, h4, h5⟩ := hT
  have hl : (g :: U).length = U.length + 1 := rfl
  rw [hl] at h2 h4
  refine hd_T (As := [.inl (.ref 66), .inl (.ref 46)]) jm_ok79 (by decide) (j3st_0 (by decide) F X1 X2 hB ?_ ?_)
  · intro c0 F1 hb1 gg e75 j75 e82 j82
    have s1 : (sy_i F 75 - 1).toInt = (U.length : Int) := (nz_sub h4 (by decide : (1 : Int32).toInt = 1) (by omega) (by omega)).trans (by omega)
    have x82 : (sy_i F1 82).toInt = (((o + U.length) % 40 * 60 : Nat) : Int) := by
      rw [e82]
      exact rm60 (n := o + U.length) (nz_add h3 s1 (by omega) (by omega))
    have q1 : qC [75] F F1 := qq_mk hb1 gg (by decide)
    refine hd_calV (R := fun F' => qC [50, 51, 52, 53, 54, 55, 56, 57, 58, 59, 60, 61] F1 F' ∧ svR (sy_ai F1 76) ((o + U.length) % 40 * 60) F' 50) (nh := 82) (nv := 82) (s := 3) (s1 := 3) (d1 := 1) (M1 := jm_M10) (As := [.inl (.ref 46), .inl (.ref 67), .inr (.inl 82)]) (rest := []) jm_ok79 rfl rfl (by decide) (by decide +kernel) (j3ldt_V F1 X1 X2 hb1 x82 (by omega)) (fun F3 F' hR p1 p2 => ?_)
    obtain ⟨r1, r2⟩ := hR
    have r1' : qC [50, 51, 52, 53, 54, 55, 56, 57, 58, 59, 60, 61] F1 F3 := qC_dst r1 p1
    refine j3st_42 (by decide) F3 X1 X2 r1'.1 ?_
    intro F4 hb4 g4
    have l1 : sy_ai F1 76 = sy_ai F 76 := qq_a q1 (by decide) (by decide)
    have l4 : sy_ai F4 76 = sy_ai F 76 := (nz_fa (g4 76 (by decide) (by decide))).trans ((qq_a r1' (by decide) (by decide)).trans l1)
    refine ⟨_, F4, rfl, rfl, rfl, qq_on (qq_trans (qq_up q1 (by decide)) (qq_up r1' (by decide))) hb4 g4 (by decide), ⟨o, h1, by omega, ?_, ?_, ?_⟩, ?_⟩
    · rw [nz_fi (g4 74 (by decide) (by decide)), qq_i r1' (by decide) (by decide), nz_fi (gg 74 (by decide) (by decide))]
      exact h3
    · rw [nz_fi (g4 75 (by decide) (by decide)), qq_i r1' (by decide) (by decide)]
      omega
    · rw [l4]
      exact h5.2
    · rw [l1] at r2
      exact gC_eq (gC_of hf hb r2 h5.1) (fun j h1 h2 => (g4 j (by omega) (by simp)).trans (p1 j (by omega)))
  · intros
    omega
end RM3
end
section
/-! ===== the calls that change the ground, way by way (shape 3) ===== -/
theorem j3un_0_p0 {Ls : Nat} {xs : Nat → Int32} {d : Nat} {Q : Option Value → jm_h → Prop} (hd : 1 ≤ d) (F : Nat → sy_d) (X1 X2 : List jm_c) (hB : iv_in F iv_B0)
    (k : ∀ F1 : Nat → sy_d, (∀ j, j < 82 → True → F1 j = F j) → hd_W Ls xs d jm_M92 Q (8, sy_dL F1 [none], sy_dS F1 [.inl (.ref 46), .inl (.ref 66)], sy_dh F1 X1 X2 (iv_H 3), 0, 0)) :
    hd_W Ls xs d jm_M92 Q (0, sy_dL F [some (.inl (.ref 8))], sy_dS F [], sy_dh F X1 X2 (iv_H 3), 0, 0) := by
  refine hd_run (s := 3) (nv := 82) (pc := 8) (L := [none]) (S := [.inl (.ref 46), .inl (.ref 66)]) (uh := hd_ov (iv_id 0 iv_B0) []) (ul := []) (f := true) (sp := [8]) (d0 := 0) (O := []) (T := []) (P := []) jm_ok92 (by decide +kernel) (by decide +kernel) hd F X1 X2 (fun F' hF hs => ?_)
  have hB' : iv_in F' iv_B0 := iv_in_eq hB (fun j hj => hF j (Nat.lt_of_lt_of_le hj (by decide +kernel)))
  refine ⟨fun _ h => absurd h List.not_mem_nil, ?_⟩
  refine k _ ?_
  · exact fun j hj _ => (hd_keep hB' (Nat.lt_of_lt_of_le hj (by decide +kernel)) (by simp)).trans (hF j (Nat.lt_of_lt_of_le hj (by decide)))
theorem j3un_0 {Ls : Nat} {xs : Nat → Int32} {d : Nat} {Q : Option Value → jm_h → Prop} (hd : 1 ≤ d) (F : Nat → sy_d) (X1 X2 : List jm_c) (hB : iv_in F iv_B0)
    (k0 : ∀ F1 : Nat → sy_d, iv_in F1 iv_B0 → (∀ j, j < 82 → j ∉ ([] : List Nat) → F1 j = F j) → hd_W Ls xs d jm_M92 Q (8, sy_dL F1 [none], sy_dS F1 [.inl (.ref 46), .inl (.ref 66)], sy_dh F1 X1 X2 (iv_H 3), 0, 0)) :
    hd_W Ls xs d jm_M92 Q (0, sy_dL F [some (.inl (.ref 8))], sy_dS F [], sy_dh F X1 X2 (iv_H 3), 0, 0) := by
  exact j3un_0_p0 hd F X1 X2 hB  (fun F1 g  => k0 F1 (nz_in0 hB [] (fun j hj hn => g j hj (by simp only [List.mem_cons, List.not_mem_nil, or_false, not_or] at hn; exact trivial)) (List.forall_mem_nil _)) (fun j hj hn => g j hj (by simp only [List.mem_cons, List.not_mem_nil, or_false, not_or] at hn; exact trivial)) )
theorem j3un_11_p0 {Ls : Nat} {xs : Nat → Int32} {d : Nat} {Q : Option Value → jm_h → Prop} (hd : 1 ≤ d) (F : Nat → sy_d) (X1 X2 : List jm_c) (hB : iv_in F iv_B0)
    (h0 : (sy_i F 82).toInt = 0 ∨ (sy_i F 82).toInt = 1)
    (k : ∀ F1 : Nat → sy_d, (∀ j, j < 82 → True → F1 j = F j) → Q (some (.int (sy_i F 82))) (sy_dh F1 X1 X2 (iv_H 3))) :
    hd_W Ls xs d jm_M92 Q (11, sy_dL F [none], sy_dS F [.inr (.inl 82)], sy_dh F X1 X2 (iv_H 3), 0, 0) := by
  refine hd_ret (s := 3) (nv := 83) (v := some (.inr (.inl 82))) (uh := hd_ov (iv_id 0 iv_B0) []) (f := false) (sp := []) (d0 := 0) (O := []) (T := []) (P := [(6, .inr (.inl 82), .inl (.int 0))]) jm_ok92 (by decide +kernel) (by decide +kernel) hd F X1 X2 (fun F' hF hs => ?_)
  have b82 := hd_b (F := F) (F' := F') (k := 82) (hF 82 (by decide))
  have hB' : iv_in F' iv_B0 := iv_in_eq hB (fun j hj => hF j (Nat.lt_of_lt_of_le hj (by decide +kernel)))
  have hk := k (sy_cm F' (hd_ov (iv_id 0 iv_B0) [] ++ [])) (fun j hj _ => (hd_keep hB' (Nat.lt_of_lt_of_le hj (by decide +kernel)) (by simp)).trans (hF j (Nat.lt_of_lt_of_le hj (by decide))))
  refine ⟨List.forall_mem_cons.mpr ⟨hd_p6 b82 h0, fun _ h => absurd h List.not_mem_nil⟩, ?_⟩
  show Q (some (sy_dv F' (.inr (.inl 82)))) _
  rw [b82]
  exact hk
theorem j3un_11 {Ls : Nat} {xs : Nat → Int32} {d : Nat} {Q : Option Value → jm_h → Prop} (hd : 1 ≤ d) (F : Nat → sy_d) (X1 X2 : List jm_c) (hB : iv_in F iv_B0)
    (o0 : ((sy_i F 82).toInt = 0 ∨ (sy_i F 82).toInt = 1))
    (k0 : ∀ F1 : Nat → sy_d, iv_in F1 iv_B0 → (∀ j, j < 82 → j ∉ ([] : List Nat) → F1 j = F j) → Q (some (.int (sy_i F 82))) (sy_dh F1 X1 X2 (iv_H 3))) :
    hd_W Ls xs d jm_M92 Q (11, sy_dL F [none], sy_dS F [.inr (.inl 82)], sy_dh F X1 X2 (iv_H 3), 0, 0) := by
  exact j3un_11_p0 hd F X1 X2 hB (by first | exact (o0) | (simp only [nz_c]; exact (o0))) (fun F1 g  => by rw [(rfl : sy_i F 82 = sy_i F 82)]; exact k0 F1 (nz_in0 hB [] (fun j hj hn => g j hj (by simp only [List.mem_cons, List.not_mem_nil, or_false, not_or] at hn; exact trivial)) (List.forall_mem_nil _)) (fun j hj hn => g j hj (by simp only [List.mem_cons, List.not_mem_nil, or_false, not_or] at hn; exact trivial)) )
theorem j3hd_0_p0 {Ls : Nat} {xs : Nat → Int32} {d : Nat} {Q : Option Value → jm_h → Prop} (hd : 2 ≤ d) (F : Nat → sy_d) (X1 X2 : List jm_c) (hB : iv_in F iv_B0)
    (h0 : (sy_i F 82).toInt < 0)
    (k : ∀ F1 : Nat → sy_d, (∀ j, j < 82 → True → F1 j = F j) → Q (some (.int ((0 : Int32)))) (sy_dh F1 X1 X2 (iv_H 3))) :
    hd_W Ls xs d jm_M113 Q (0, sy_dL F [some (.inl (.ref 8)), some (.inr (.inl 82))], sy_dS F [], sy_dh F X1 X2 (iv_H 3), 0, 0) := by
  refine hd_ret (s := 3) (nv := 83) (v := some (.inl (.int 0))) (uh := hd_ov (iv_id 0 iv_B0) []) (f := true) (sp := [23]) (d0 := 1) (O := [true]) (T := []) (P := [(2, .inr (.inl 82), .inl (.int 0))]) jm_ok113 (by decide +kernel) (by decide +kernel) hd F X1 X2 (fun F' hF hs => ?_)
  have b82 := hd_b (F := F) (F' := F') (k := 82) (hF 82 (by decide))
  have hB' : iv_in F' iv_B0 := iv_in_eq hB (fun j hj => hF j (Nat.lt_of_lt_of_le hj (by decide +kernel)))
  refine ⟨List.forall_mem_cons.mpr ⟨hd_p2 b82 rfl (by have hc : ((0) : Int32).toInt = 0 := (by decide); omega), fun _ h => absurd h List.not_mem_nil⟩, ?_⟩
  refine k _ ?_
  · exact fun j hj _ => (hd_keep hB' (Nat.lt_of_lt_of_le hj (by decide +kernel)) (by simp)).trans (hF j (Nat.lt_of_lt_of_le hj (by decide)))
theorem j3hd_0_p1 {Ls : Nat} {xs : Nat → Int32} {d : Nat} {Q : Option Value → jm_h → Prop} (hd : 2 ≤ d) (F : Nat → sy_d) (X1 X2 : List jm_c) (hB : iv_in F iv_B0)
    (h0 : 0 ≤ (sy_i F 82).toInt)
    (h1 : 2 < (sy_i F 82).toInt)
    (k : ∀ F1 : Nat → sy_d, (∀ j, j < 82 → True → F1 j = F j) → Q (some (.int ((0 : Int32)))) (sy_dh F1 X1 X2 (iv_H 3))) :
    hd_W Ls xs d jm_M113 Q (0, sy_dL F [some (.inl (.ref 8)), some (.inr (.inl 82))], sy_dS F [], sy_dh F X1 X2 (iv_H 3), 0, 0) := by
  refine hd_ret (s := 3) (nv := 83) (v := some (.inl (.int 0))) (uh := hd_ov (iv_id 0 iv_B0) []) (f := true) (sp := [23]) (d0 := 1) (O := [false, true]) (T := []) (P := [(3, .inr (.inl 82), .inl (.int 0)), (2, .inl (.int 2), .inr (.inl 82))]) jm_ok113 (by decide +kernel) (by decide +kernel) hd F X1 X2 (fun F' hF hs => ?_)
  have b82 := hd_b (F := F) (F' := F') (k := 82) (hF 82 (by decide))
  have hB' : iv_in F' iv_B0 := iv_in_eq hB (fun j hj => hF j (Nat.lt_of_lt_of_le hj (by decide +kernel)))
  refine ⟨List.forall_mem_cons.mpr ⟨hd_p3 b82 rfl (by have hc : ((0) : Int32).toInt = 0 := (by decide); omega), List.forall_mem_cons.mpr ⟨hd_p2 rfl b82 (by have hc : ((2) : Int32).toInt = 2 := (by decide); omega), fun _ h => absurd h List.not_mem_nil⟩⟩, ?_⟩
  refine k _ ?_
  · exact fun j hj _ => (hd_keep hB' (Nat.lt_of_lt_of_le hj (by decide +kernel)) (by simp)).trans (hF j (Nat.lt_of_lt_of_le hj (by decide)))
theorem j3hd_0_p2 {Ls : Nat} {xs : Nat → Int32} {d : Nat} {Q : Option Value → jm_h → Prop} (hd : 2 ≤ d) (F : Nat → sy_d) (X1 X2 : List jm_c) (hB : iv_in F iv_B0)
    (h0 : 0 ≤ (sy_i F 82).toInt)
    (h1 : (sy_i F 82).toInt ≤ 2)
    (k : ∀ F1 : Nat → sy_d, (∀ j, j < 82 → True → F1 j = F j) → F1 82 = .inl (.int (sy_i F 82)) → F1 83 = .inl (.int ((sy_i F 82) * ((60 : Int32)))) → hd_W Ls xs d jm_M113 Q (23, sy_dL F1 [some (.inl (.ref 8)), some (.inr (.inl 82))], sy_dS F1 [.inr (.inl 83), .inl (.ref 68), .inl (.ref 46)], sy_dh F1 X1 X2 (iv_H 3), 0, 0)) :
    hd_W Ls xs d jm_M113 Q (0, sy_dL F [some (.inl (.ref 8)), some (.inr (.inl 82))], sy_dS F [], sy_dh F X1 X2 (iv_H 3), 0, 0) := by
  refine hd_run (s := 3) (nv := 83) (pc := 23) (L := [some (.inl (.ref 8)), some (.inr (.inl 82))]) (S := [.inr (.inl 83), .inl (.ref 68), .inl (.ref 46)]) (uh := hd_ov (iv_id 0 iv_B0) []) (ul := [.inl (.inr (.inl 82)), .inl (.inr (.inl 83))]) (f := true) (sp := [23]) (d0 := 1) (O := [false, false]) (T := [(2, [.inr (.inl 82), .inl (.int 60)], [])]) (P := [(3, .inr (.inl 82), .inl (.int 0)), (3, .inl (.int 2), .inr (.inl 82))]) jm_ok113 (by decide +kernel) (by decide +kernel) hd F X1 X2 (fun F' hF hs => ?_)
  have b82 := hd_b (F := F) (F' := F') (k := 82) (hF 82 (by decide))
  have t83 : sy_dv F' (.inr (.inl 83)) = .int ((sy_i F 82) * ((60 : Int32))) := hd_o (hs 0 _ rfl) b82 rfl rfl
  have hB' : iv_in F' iv_B0 := iv_in_eq hB (fun j hj => hF j (Nat.lt_of_lt_of_le hj (by decide +kernel)))
  refine ⟨List.forall_mem_cons.mpr ⟨hd_p3 b82 rfl (by have hc : ((0) : Int32).toInt = 0 := (by decide); omega), List.forall_mem_cons.mpr ⟨hd_p3 rfl b82 (by have hc : ((2) : Int32).toInt = 2 := (by decide); omega), fun _ h => absurd h List.not_mem_nil⟩⟩, ?_⟩
  refine k _ ?_ ?_ ?_
  · exact fun j hj _ => (hd_keep hB' (Nat.lt_of_lt_of_le hj (by decide +kernel)) (by simp)).trans (hF j (Nat.lt_of_lt_of_le hj (by decide)))
  · exact hd_gi (x := .inr (.inl 82)) (by decide +kernel) b82
  · exact hd_gi (x := .inr (.inl 83)) (by decide +kernel) t83
theorem j3hd_0 {Ls : Nat} {xs : Nat → Int32} {d : Nat} {Q : Option Value → jm_h → Prop} (hd : 2 ≤ d) (F : Nat → sy_d) (X1 X2 : List jm_c) (hB : iv_in F iv_B0)
    (k0 : (sy_i F 82).toInt < 0 → ∀ F1 : Nat → sy_d, iv_in F1 iv_B0 → (∀ j, j < 82 → j ∉ ([] : List Nat) → F1 j = F j) → Q (some (.int ((0 : Int32)))) (sy_dh F1 X1 X2 (iv_H 3)))
    (k1 : 0 ≤ (sy_i F 82).toInt → 2 < (sy_i F 82).toInt → ∀ F1 : Nat → sy_d, iv_in F1 iv_B0 → (∀ j, j < 82 → j ∉ ([] : List Nat) → F1 j = F j) → Q (some (.int ((0 : Int32)))) (sy_dh F1 X1 X2 (iv_H 3)))
    (k2 : 0 ≤ (sy_i F 82).toInt → (sy_i F 82).toInt ≤ 2 → ∀ F1 : Nat → sy_d, iv_in F1 iv_B0 → (∀ j, j < 82 → j ∉ ([] : List Nat) → F1 j = F j) → (sy_i F1 82).toInt = (sy_i F 82).toInt → sy_i F1 82 = sy_i F 82 → (sy_i F1 83).toInt = ((sy_i F 82).toInt * 60) → sy_i F1 83 = (sy_i F 82) * ((60 : Int32)) → hd_W Ls xs d jm_M113 Q (23, sy_dL F1 [some (.inl (.ref 8)), some (.inr (.inl 82))], sy_dS F1 [.inr (.inl 83), .inl (.ref 68), .inl (.ref 46)], sy_dh F1 X1 X2 (iv_H 3), 0, 0)) :
    hd_W Ls xs d jm_M113 Q (0, sy_dL F [some (.inl (.ref 8)), some (.inr (.inl 82))], sy_dS F [], sy_dh F X1 X2 (iv_H 3), 0, 0) := by
  by_cases g0 : (sy_i F 82).toInt < 0
  · exact j3hd_0_p0 hd F X1 X2 hB (by first | exact g0 | (simp only [nz_c]; exact g0)) (fun F1 g  => k0 g0 F1 (nz_in0 hB [] (fun j hj hn => g j hj (by simp only [List.mem_cons, List.not_mem_nil, or_false, not_or] at hn; exact trivial)) (List.forall_mem_nil _)) (fun j hj hn => g j hj (by simp only [List.mem_cons, List.not_mem_nil, or_false, not_or] at hn; exact trivial)) )
  replace g0 : 0 ≤ (sy_i F 82).toInt := by omega
  by_cases g1 : 2 < (sy_i F 82).toInt
  · exact j3hd_0_p1 hd F X1 X2 hB (by first | exact g0 | (simp only [nz_c]; exact g0)) (by first | exact g1 | (simp only [nz_c]; exact g1)) (fun F1 g  => k1 g0 g1 F1 (nz_in0 hB [] (fun j hj hn => g j hj (by simp only [List.mem_cons, List.not_mem_nil, or_false, not_or] at hn; exact trivial)) (List.forall_mem_nil _)) (fun j hj hn => g j hj (by simp only [List.mem_cons, List.not_mem_nil, or_false, not_or] at hn; exact trivial)) )
  replace g1 : (sy_i F 82).toInt ≤ 2 := by omega
  have n83 : nzI ((sy_i F 82) * ((60 : Int32))) (((sy_i F 82).toInt * 60)) := nz_mul (rfl : (sy_i F 82).toInt = (sy_i F 82).toInt) (by decide : ((60 : Int32)).toInt = 60) (by omega) (by omega)
  exact j3hd_0_p2 hd F X1 X2 hB (by first | exact g0 | (simp only [nz_c]; exact g0)) (by first | exact g1 | (simp only [nz_c]; exact g1)) (fun F1 g e82 e83 => k2 g0 g1 F1 (nz_in0 hB [] (fun j hj hn => g j hj (by simp only [List.mem_cons, List.not_mem_nil, or_false, not_or] at hn; exact trivial)) (List.forall_mem_nil _)) (fun j hj hn => g j hj (by simp only [List.mem_cons, List.not_mem_nil, or_false, not_or] at hn; exact trivial)) ((congrArg Int32.toInt (zz_i e82)).trans (rfl : (sy_i F 82).toInt = (sy_i F 82).toInt)) ((zz_i e82).trans (rfl : sy_i F 82 = sy_i F 82)) ((congrArg Int32.toInt (zz_i e83)).trans (nzE n83)) ((zz_i e83).trans (rfl : (sy_i F 82) * ((60 : Int32)) = (sy_i F 82) * ((60 : Int32)))))
theorem j3hd_26_p0 {Ls : Nat} {xs : Nat → Int32} {d : Nat} {Q : Option Value → jm_h → Prop} (hd : 1 ≤ d) (F : Nat → sy_d) (X1 X2 : List jm_c) (hB : iv_in F iv_B0)
    (h0 : 0 ≤ (sy_i F 82).toInt ∧ (sy_i F 82).toInt < 3)
    (k : ∀ F1 : Nat → sy_d, (∀ j, j < 82 → j ≠ 78 → F1 j = F j) → F1 78 = .inr (.inl (jm_upd (sy_ai F 78) (sy_i F 82).toNatClampNeg ((1 : Int32)))) → Q (some (.int ((1 : Int32)))) (sy_dh F1 X1 X2 (iv_H 3))) :
    hd_W Ls xs d jm_M113 Q (26, sy_dL F [some (.inl (.ref 8)), some (.inr (.inl 82))], sy_dS F [], sy_dh F X1 X2 (iv_H 3), 0, 0) := by
  refine hd_ret (s := 3) (nv := 83) (v := some (.inl (.int 1))) (uh := hd_ov (iv_id 0 iv_B0) [(78, .inr (.inr (.inl 83)))]) (f := false) (sp := []) (d0 := 0) (O := []) (T := [(40, [.inr (.inl 82), .inl (.int 1)], [.inr (.inl 78)])]) (P := [(6, .inr (.inl 82), .inl (.ref 3))]) jm_ok113 (by decide +kernel) (by decide +kernel) hd F X1 X2 (fun F' hF hs => ?_)
  have b82 := hd_b (F := F) (F' := F') (k := 82) (hF 82 (by decide))
  have a78 := hd_ba (F := F) (F' := F') (k := 78) (hF 78 (by decide))
  have t83 : sy_da F' (.inr (.inl 83)) = .inl (jm_upd (sy_ai F 78) (sy_i F 82).toNatClampNeg ((1 : Int32))) := hd_up (hs 0 _ rfl) b82 rfl a78
  have hB' : iv_in F' iv_B0 := iv_in_eq hB (fun j hj => hF j (Nat.lt_of_lt_of_le hj (by decide +kernel)))
  refine ⟨List.forall_mem_cons.mpr ⟨hd_pb b82 (by first | exact h0 | exact h0), fun _ h => absurd h List.not_mem_nil⟩, ?_⟩
  refine k _ ?_ ?_
  · exact fun j hj hn => (hd_keep hB' (Nat.lt_of_lt_of_le hj (by decide +kernel)) (by simp; omega)).trans (hF j (Nat.lt_of_lt_of_le hj (by decide)))
  · exact hd_ga (a := .inr (.inl 83)) (by decide +kernel) t83
theorem j3hd_26 {Ls : Nat} {xs : Nat → Int32} {d : Nat} {Q : Option Value → jm_h → Prop} (hd : 1 ≤ d) (F : Nat → sy_d) (X1 X2 : List jm_c) (hB : iv_in F iv_B0)
    (a82 : 0 ≤ (sy_i F 82).toInt ∧ (sy_i F 82).toInt ≤ 2)
    (k0 : ∀ F1 : Nat → sy_d, iv_in F1 iv_B0 → (∀ j, j < 82 → j ∉ ([78] : List Nat) → F1 j = F j) → sy_ai F1 78 = jm_upd (sy_ai F 78) ((sy_i F 82).toInt).toNat ((1 : Int32)) → Q (some (.int ((1 : Int32)))) (sy_dh F1 X1 X2 (iv_H 3))) :
    hd_W Ls xs d jm_M113 Q (26, sy_dL F [some (.inl (.ref 8)), some (.inr (.inl 82))], sy_dS F [], sy_dh F X1 X2 (iv_H 3), 0, 0) := by
  have w83 : jm_upd (sy_ai F 78) (sy_i F 82).toNatClampNeg ((1 : Int32)) = jm_upd (sy_ai F 78) ((sy_i F 82).toInt).toNat ((1 : Int32)) := by simp only [nz_c, (by decide : ((1 : Int32)).toInt = 1)]
  exact j3hd_26_p0 hd F X1 X2 hB (by first | exact ⟨by omega, by omega⟩ | (simp only [nz_c]; exact ⟨by omega, by omega⟩)) (fun F1 g e78 => k0 F1 (nz_in0 hB [78] (fun j hj hn => g j hj (by simp only [List.mem_cons, List.not_mem_nil, or_false, not_or] at hn; omega)) (List.forall_mem_cons.mpr ⟨fun t ht => (Option.some.inj ht) ▸ (nz_hA e78 (nz_up (nz_ba hB (k := 78) (lo := 0) (hi := 1) rfl) (by decide : ((1 : Int32)).toInt = 1) (by omega) (by omega))), List.forall_mem_nil _⟩)) (fun j hj hn => g j hj (by simp only [List.mem_cons, List.not_mem_nil, or_false, not_or] at hn; omega)) ((zz_ai e78).trans w83))
theorem j3rs_0_p0 {Ls : Nat} {xs : Nat → Int32} {d : Nat} {Q : Option Value → jm_h → Prop} (hd : 2 ≤ d) (F : Nat → sy_d) (X1 X2 : List jm_c) (hB : iv_in F iv_B0)
    (h0 : (sy_i F 82).toInt < 0)
    (k : ∀ F1 : Nat → sy_d, (∀ j, j < 82 → True → F1 j = F j) → Q (some (.int ((0 : Int32)))) (sy_dh F1 X1 X2 (iv_H 3))) :
    hd_W Ls xs d jm_M114 Q (0, sy_dL F [some (.inl (.ref 8)), some (.inr (.inl 82))], sy_dS F [], sy_dh F X1 X2 (iv_H 3), 0, 0) := by
  refine hd_ret (s := 3) (nv := 83) (v := some (.inl (.int 0))) (uh := hd_ov (iv_id 0 iv_B0) []) (f := true) (sp := [32]) (d0 := 1) (O := [true]) (T := []) (P := [(2, .inr (.inl 82), .inl (.int 0))]) jm_ok114 (by decide +kernel) (by decide +kernel) hd F X1 X2 (fun F' hF hs => ?_)
  have b82 := hd_b (F := F) (F' := F') (k := 82) (hF 82 (by decide))
  have hB' : iv_in F' iv_B0 := iv_in_eq hB (fun j hj => hF j (Nat.lt_of_lt_of_le hj (by decide +kernel)))
  refine ⟨List.forall_mem_cons.mpr ⟨hd_p2 b82 rfl (by have hc : ((0) : Int32).toInt = 0 := (by decide); omega), fun _ h => absurd h List.not_mem_nil⟩, ?_⟩
  refine k _ ?_
  · exact fun j hj _ => (hd_keep hB' (Nat.lt_of_lt_of_le hj (by decide +kernel)) (by simp)).trans (hF j (Nat.lt_of_lt_of_le hj (by decide)))
theorem j3rs_0_p1 {Ls : Nat} {xs : Nat → Int32} {d : Nat} {Q : Option Value → jm_h → Prop} (hd : 2 ≤ d) (F : Nat → sy_d) (X1 X2 : List jm_c) (hB : iv_in F iv_B0)
    (h0 : 0 ≤ (sy_i F 82).toInt)
    (h1 : 2 < (sy_i F 82).toInt)
    (k : ∀ F1 : Nat → sy_d, (∀ j, j < 82 → True → F1 j = F j) → Q (some (.int ((0 : Int32)))) (sy_dh F1 X1 X2 (iv_H 3))) :
    hd_W Ls xs d jm_M114 Q (0, sy_dL F [some (.inl (.ref 8)), some (.inr (.inl 82))], sy_dS F [], sy_dh F X1 X2 (iv_H 3), 0, 0) := by
  refine hd_ret (s := 3) (nv := 83) (v := some (.inl (.int 0))) (uh := hd_ov (iv_id 0 iv_B0) []) (f := true) (sp := [32]) (d0 := 1) (O := [false, true]) (T := []) (P := [(3, .inr (.inl 82), .inl (.int 0)), (2, .inl (.int 2), .inr (.inl 82))]) jm_ok114 (by decide +kernel) (by decide +kernel) hd F X1 X2 (fun F' hF hs => ?_)
  have b82 := hd_b (F := F) (F' := F') (k := 82) (hF 82 (by decide))
  have hB' : iv_in F' iv_B0 := iv_in_eq hB (fun j hj => hF j (Nat.lt_of_lt_of_le hj (by decide +kernel)))
  refine ⟨List.forall_mem_cons.mpr ⟨hd_p3 b82 rfl (by have hc : ((0) : Int32).toInt = 0 := (by decide); omega), List.forall_mem_cons.mpr ⟨hd_p2 rfl b82 (by have hc : ((2) : Int32).toInt = 2 := (by decide); omega), fun _ h => absurd h List.not_mem_nil⟩⟩, ?_⟩
  refine k _ ?_
  · exact fun j hj _ => (hd_keep hB' (Nat.lt_of_lt_of_le hj (by decide +kernel)) (by simp)).trans (hF j (Nat.lt_of_lt_of_le hj (by decide)))
theorem j3rs_0_p2 {Ls : Nat} {xs : Nat → Int32} {d : Nat} {Q : Option Value → jm_h → Prop} (hd : 2 ≤ d) (F : Nat → sy_d) (X1 X2 : List jm_c) (hB : iv_in F iv_B0)
    (h0 : 0 ≤ (sy_i F 82).toInt)
    (h1 : (sy_i F 82).toInt ≤ 2)
    (h2 : 0 ≤ (sy_i F 82).toInt ∧ (sy_i F 82).toInt < 3)
    (h3 : ((sy_ai F 78).getD (sy_i F 82).toNatClampNeg 0).toInt ≠ 0)
    (k : ∀ F1 : Nat → sy_d, (∀ j, j < 82 → True → F1 j = F j) → F1 82 = .inl (.int ((sy_i F 82) * ((60 : Int32)))) → hd_W Ls xs d jm_M114 Q (32, sy_dL F1 [some (.inl (.ref 8)), none], sy_dS F1 [.inr (.inl 82), .inl (.ref 68), .inl (.ref 46)], sy_dh F1 X1 X2 (iv_H 3), 0, 0)) :
    hd_W Ls xs d jm_M114 Q (0, sy_dL F [some (.inl (.ref 8)), some (.inr (.inl 82))], sy_dS F [], sy_dh F X1 X2 (iv_H 3), 0, 0) := by
  refine hd_run (s := 3) (nv := 83) (pc := 32) (L := [some (.inl (.ref 8)), none]) (S := [.inr (.inl 82), .inl (.ref 68), .inl (.ref 46)]) (uh := hd_ov (iv_id 0 iv_B0) []) (ul := [.inl (.inr (.inl 84))]) (f := true) (sp := [32]) (d0 := 1) (O := [false, false, true]) (T := [(30, [.inr (.inl 82)], [.inr (.inl 78)]), (2, [.inr (.inl 82), .inl (.int 60)], [])]) (P := [(3, .inr (.inl 82), .inl (.int 0)), (3, .inl (.int 2), .inr (.inl 82)), (6, .inr (.inl 82), .inl (.ref 3)), (1, .inr (.inl 83), .inl (.int 0))]) jm_ok114 (by decide +kernel) (by decide +kernel) hd F X1 X2 (fun F' hF hs => ?_)
  have b82 := hd_b (F := F) (F' := F') (k := 82) (hF 82 (by decide))
  have a78 := hd_ba (F := F) (F' := F') (k := 78) (hF 78 (by decide))
  have t83 : sy_dv F' (.inr (.inl 83)) = .int ((sy_ai F 78).getD (sy_i F 82).toNatClampNeg 0) := hd_rd (hs 0 _ rfl) b82 a78
  have t84 : sy_dv F' (.inr (.inl 84)) = .int ((sy_i F 82) * ((60 : Int32))) := hd_o (hs 1 _ rfl) b82 rfl rfl
  have hB' : iv_in F' iv_B0 := iv_in_eq hB (fun j hj => hF j (Nat.lt_of_lt_of_le hj (by decide +kernel)))
  refine ⟨List.forall_mem_cons.mpr ⟨hd_p3 b82 rfl (by have hc : ((0) : Int32).toInt = 0 := (by decide); omega), List.forall_mem_cons.mpr ⟨hd_p3 rfl b82 (by have hc : ((2) : Int32).toInt = 2 := (by decide); omega), List.forall_mem_cons.mpr ⟨hd_pb b82 (by first | exact h2 | exact h2), List.forall_mem_cons.mpr ⟨hd_p1 t83 rfl (by have hc : ((0) : Int32).toInt = 0 := (by decide); omega), fun _ h => absurd h List.not_mem_nil⟩⟩⟩⟩, ?_⟩
  refine k _ ?_ ?_
  · exact fun j hj _ => (hd_keep hB' (Nat.lt_of_lt_of_le hj (by decide +kernel)) (by simp)).trans (hF j (Nat.lt_of_lt_of_le hj (by decide)))
  · exact hd_gi (x := .inr (.inl 84)) (by decide +kernel) t84
theorem j3rs_0_p3 {Ls : Nat} {xs : Nat → Int32} {d : Nat} {Q : Option Value → jm_h → Prop} (hd : 2 ≤ d) (F : Nat → sy_d) (X1 X2 : List jm_c) (hB : iv_in F iv_B0)
    (h0 : 0 ≤ (sy_i F 82).toInt)
    (h1 : (sy_i F 82).toInt ≤ 2)
    (h2 : 0 ≤ (sy_i F 82).toInt ∧ (sy_i F 82).toInt < 3)
    (h3 : ((sy_ai F 78).getD (sy_i F 82).toNatClampNeg 0).toInt = 0)
    (k : ∀ F1 : Nat → sy_d, (∀ j, j < 82 → True → F1 j = F j) → Q (some (.int ((0 : Int32)))) (sy_dh F1 X1 X2 (iv_H 3))) :
    hd_W Ls xs d jm_M114 Q (0, sy_dL F [some (.inl (.ref 8)), some (.inr (.inl 82))], sy_dS F [], sy_dh F X1 X2 (iv_H 3), 0, 0) := by
  refine hd_ret (s := 3) (nv := 83) (v := some (.inl (.int 0))) (uh := hd_ov (iv_id 0 iv_B0) []) (f := true) (sp := [32]) (d0 := 1) (O := [false, false, false]) (T := [(30, [.inr (.inl 82)], [.inr (.inl 78)])]) (P := [(3, .inr (.inl 82), .inl (.int 0)), (3, .inl (.int 2), .inr (.inl 82)), (6, .inr (.inl 82), .inl (.ref 3)), (0, .inr (.inl 83), .inl (.int 0))]) jm_ok114 (by decide +kernel) (by decide +kernel) hd F X1 X2 (fun F' hF hs => ?_)
  have b82 := hd_b (F := F) (F' := F') (k := 82) (hF 82 (by decide))
  have a78 := hd_ba (F := F) (F' := F') (k := 78) (hF 78 (by decide))
  have t83 : sy_dv F' (.inr (.inl 83)) = .int ((sy_ai F 78).getD (sy_i F 82).toNatClampNeg 0) := hd_rd (hs 0 _ rfl) b82 a78
  have hB' : iv_in F' iv_B0 := iv_in_eq hB (fun j hj => hF j (Nat.lt_of_lt_of_le hj (by decide +kernel)))
  refine ⟨List.forall_mem_cons.mpr ⟨hd_p3 b82 rfl (by have hc : ((0) : Int32).toInt = 0 := (by decide); omega), List.forall_mem_cons.mpr ⟨hd_p3 rfl b82 (by have hc : ((2) : Int32).toInt = 2 := (by decide); omega), List.forall_mem_cons.mpr ⟨hd_pb b82 (by first | exact h2 | exact h2), List.forall_mem_cons.mpr ⟨hd_p0 t83 rfl (by have hc : ((0) : Int32).toInt = 0 := (by decide); omega), fun _ h => absurd h List.not_mem_nil⟩⟩⟩⟩, ?_⟩
  refine k _ ?_
  · exact fun j hj _ => (hd_keep hB' (Nat.lt_of_lt_of_le hj (by decide +kernel)) (by simp)).trans (hF j (Nat.lt_of_lt_of_le hj (by decide)))
theorem j3rs_0 {Ls : Nat} {xs : Nat → Int32} {d : Nat} {Q : Option Value → jm_h → Prop} (hd : 2 ≤ d) (F : Nat → sy_d) (X1 X2 : List jm_c) (hB : iv_in F iv_B0)
    (k0 : (sy_i F 82).toInt < 0 → ∀ F1 : Nat → sy_d, iv_in F1 iv_B0 → (∀ j, j < 82 → j ∉ ([] : List Nat) → F1 j = F j) → Q (some (.int ((0 : Int32)))) (sy_dh F1 X1 X2 (iv_H 3)))
    (k1 : 0 ≤ (sy_i F 82).toInt → 2 < (sy_i F 82).toInt → ∀ F1 : Nat → sy_d, iv_in F1 iv_B0 → (∀ j, j < 82 → j ∉ ([] : List Nat) → F1 j = F j) → Q (some (.int ((0 : Int32)))) (sy_dh F1 X1 X2 (iv_H 3)))
    (k2 : 0 ≤ (sy_i F 82).toInt → (sy_i F 82).toInt ≤ 2 → ((sy_ai F 78).getD ((sy_i F 82).toInt).toNat 0).toInt ≠ 0 → ∀ F1 : Nat → sy_d, iv_in F1 iv_B0 → (∀ j, j < 82 → j ∉ ([] : List Nat) → F1 j = F j) → (sy_i F1 82).toInt = ((sy_i F 82).toInt * 60) → sy_i F1 82 = (sy_i F 82) * ((60 : Int32)) → hd_W Ls xs d jm_M114 Q (32, sy_dL F1 [some (.inl (.ref 8)), none], sy_dS F1 [.inr (.inl 82), .inl (.ref 68), .inl (.ref 46)], sy_dh F1 X1 X2 (iv_H 3), 0, 0))
    (k3 : 0 ≤ (sy_i F 82).toInt → (sy_i F 82).toInt ≤ 2 → ((sy_ai F 78).getD ((sy_i F 82).toInt).toNat 0).toInt = 0 → ∀ F1 : Nat → sy_d, iv_in F1 iv_B0 → (∀ j, j < 82 → j ∉ ([] : List Nat) → F1 j = F j) → Q (some (.int ((0 : Int32)))) (sy_dh F1 X1 X2 (iv_H 3))) :
    hd_W Ls xs d jm_M114 Q (0, sy_dL F [some (.inl (.ref 8)), some (.inr (.inl 82))], sy_dS F [], sy_dh F X1 X2 (iv_H 3), 0, 0) := by
  by_cases g0 : (sy_i F 82).toInt < 0
  · exact j3rs_0_p0 hd F X1 X2 hB (by first | exact g0 | (simp only [nz_c]; exact g0)) (fun F1 g  => k0 g0 F1 (nz_in0 hB [] (fun j hj hn => g j hj (by simp only [List.mem_cons, List.not_mem_nil, or_false, not_or] at hn; exact trivial)) (List.forall_mem_nil _)) (fun j hj hn => g j hj (by simp only [List.mem_cons, List.not_mem_nil, or_false, not_or] at hn; exact trivial)) )
  replace g0 : 0 ≤ (sy_i F 82).toInt := by omega
  by_cases g1 : 2 < (sy_i F 82).toInt
  · exact j3rs_0_p1 hd F X1 X2 hB (by first | exact g0 | (simp only [nz_c]; exact g0)) (by first | exact g1 | (simp only [nz_c]; exact g1)) (fun F1 g  => k1 g0 g1 F1 (nz_in0 hB [] (fun j hj hn => g j hj (by simp only [List.mem_cons, List.not_mem_nil, or_false, not_or] at hn; exact trivial)) (List.forall_mem_nil _)) (fun j hj hn => g j hj (by simp only [List.mem_cons, List.not_mem_nil, or_false, not_or] at hn; exact trivial)) )
  replace g1 : (sy_i F 82).toInt ≤ 2 := by omega
  by_cases g2 : ((sy_ai F 78).getD ((sy_i F 82).toInt).toNat 0).toInt ≠ 0
  · have q83 : (sy_ai F 78).getD (sy_i F 82).toNatClampNeg 0 = (sy_ai F 78).getD ((sy_i F 82).toInt).toNat 0 := by simp only [nz_c]
    have n83 : nzI ((sy_ai F 78).getD (sy_i F 82).toNatClampNeg 0) (((sy_ai F 78).getD ((sy_i F 82).toInt).toNat 0).toInt) := congrArg Int32.toInt q83
    have r83 := nz_ba hB (k := 78) (lo := 0) (hi := 1) rfl ((sy_i F 82).toInt).toNat
    have n84 : nzI ((sy_i F 82) * ((60 : Int32))) (((sy_i F 82).toInt * 60)) := nz_mul (rfl : (sy_i F 82).toInt = (sy_i F 82).toInt) (by decide : ((60 : Int32)).toInt = 60) (by omega) (by omega)
    exact j3rs_0_p2 hd F X1 X2 hB (by first | exact g0 | (simp only [nz_c]; exact g0)) (by first | exact g1 | (simp only [nz_c]; exact g1)) (by first | exact ⟨by omega, by omega⟩ | (simp only [nz_c]; exact ⟨by omega, by omega⟩)) (by first | exact g2 | (simp only [nz_c]; exact g2) | (rw [(nzE n83)]; exact g2)) (fun F1 g e82 => k2 g0 g1 g2 F1 (nz_in0 hB [] (fun j hj hn => g j hj (by simp only [List.mem_cons, List.not_mem_nil, or_false, not_or] at hn; exact trivial)) (List.forall_mem_nil _)) (fun j hj hn => g j hj (by simp only [List.mem_cons, List.not_mem_nil, or_false, not_or] at hn; exact trivial)) ((congrArg Int32.toInt (zz_i e82)).trans (nzE n84)) ((zz_i e82).trans (rfl : (sy_i F 82) * ((60 : Int32)) = (sy_i F 82) * ((60 : Int32)))))
  replace g2 : ((sy_ai F 78).getD ((sy_i F 82).toInt).toNat 0).toInt = 0 := by omega
  have q83 : (sy_ai F 78).getD (sy_i F 82).toNatClampNeg 0 = (sy_ai F 78).getD ((sy_i F 82).toInt).toNat 0 := by simp only [nz_c]
  have n83 : nzI ((sy_ai F 78).getD (sy_i F 82).toNatClampNeg 0) (((sy_ai F 78).getD ((sy_i F 82).toInt).toNat 0).toInt) := congrArg Int32.toInt q83
  have r83 := nz_ba hB (k := 78) (lo := 0) (hi := 1) rfl ((sy_i F 82).toInt).toNat
  exact j3rs_0_p3 hd F X1 X2 hB (by first | exact g0 | (simp only [nz_c]; exact g0)) (by first | exact g1 | (simp only [nz_c]; exact g1)) (by first | exact ⟨by omega, by omega⟩ | (simp only [nz_c]; exact ⟨by omega, by omega⟩)) (by first | exact g2 | (simp only [nz_c]; exact g2) | (rw [(nzE n83)]; exact g2)) (fun F1 g  => k3 g0 g1 g2 F1 (nz_in0 hB [] (fun j hj hn => g j hj (by simp only [List.mem_cons, List.not_mem_nil, or_false, not_or] at hn; exact trivial)) (List.forall_mem_nil _)) (fun j hj hn => g j hj (by simp only [List.mem_cons, List.not_mem_nil, or_false, not_or] at hn; exact trivial)) )
theorem j3rs_35_p0 {Ls : Nat} {xs : Nat → Int32} {d : Nat} {Q : Option Value → jm_h → Prop} (hd : 2 ≤ d) (F : Nat → sy_d) (X1 X2 : List jm_c) (hB : iv_in F iv_B0)
    (k : ∀ F1 : Nat → sy_d, (∀ j, j < 82 → j ≠ 74 ∧ j ≠ 75 → F1 j = F j) → F1 74 = .inl (.int ((0 : Int32))) → F1 75 = .inl (.int ((0 : Int32))) → Q (some (.int ((1 : Int32)))) (sy_dh F1 X1 X2 (iv_H 3))) :
    hd_W Ls xs d jm_M114 Q (35, sy_dL F [some (.inl (.ref 8)), none], sy_dS F [], sy_dh F X1 X2 (iv_H 3), 0, 0) := by
  refine hd_ret (s := 3) (nv := 82) (v := some (.inl (.int 1))) (uh := hd_ov (iv_id 0 iv_B0) [(74, .inl (.inl (.int 0))), (75, .inl (.inl (.int 0)))]) (f := false) (sp := []) (d0 := 1) (O := []) (T := []) (P := []) jm_ok114 (by decide +kernel) (by decide +kernel) hd F X1 X2 (fun F' hF hs => ?_)
  have hB' : iv_in F' iv_B0 := iv_in_eq hB (fun j hj => hF j (Nat.lt_of_lt_of_le hj (by decide +kernel)))
  refine ⟨fun _ h => absurd h List.not_mem_nil, ?_⟩
  refine k _ ?_ ?_ ?_
  · exact fun j hj hn => (hd_keep hB' (Nat.lt_of_lt_of_le hj (by decide +kernel)) (by simp; omega)).trans (hF j (Nat.lt_of_lt_of_le hj (by decide)))
  · exact hd_gi (x := .inl (.int 0)) (by decide +kernel) rfl
  · exact hd_gi (x := .inl (.int 0)) (by decide +kernel) rfl
theorem j3rs_35 {Ls : Nat} {xs : Nat → Int32} {d : Nat} {Q : Option Value → jm_h → Prop} (hd : 2 ≤ d) (F : Nat → sy_d) (X1 X2 : List jm_c) (hB : iv_in F iv_B0)
    (k0 : ∀ F1 : Nat → sy_d, iv_in F1 iv_B0 → (∀ j, j < 82 → j ∉ ([74, 75] : List Nat) → F1 j = F j) → (sy_i F1 74).toInt = 0 → sy_i F1 74 = (0 : Int32) → (sy_i F1 75).toInt = 0 → sy_i F1 75 = (0 : Int32) → Q (some (.int ((1 : Int32)))) (sy_dh F1 X1 X2 (iv_H 3))) :
    hd_W Ls xs d jm_M114 Q (35, sy_dL F [some (.inl (.ref 8)), none], sy_dS F [], sy_dh F X1 X2 (iv_H 3), 0, 0) := by
  exact j3rs_35_p0 hd F X1 X2 hB  (fun F1 g e74 e75 => k0 F1 (nz_in0 hB [74, 75] (fun j hj hn => g j hj (by simp only [List.mem_cons, List.not_mem_nil, or_false, not_or] at hn; omega)) (List.forall_mem_cons.mpr ⟨fun t ht => (Option.some.inj ht) ▸ (nz_hi e74 (by decide : ((0 : Int32)).toInt = 0) (by omega) (by omega)), List.forall_mem_cons.mpr ⟨fun t ht => (Option.some.inj ht) ▸ (nz_hi e75 (by decide : ((0 : Int32)).toInt = 0) (by omega) (by omega)), List.forall_mem_nil _⟩⟩)) (fun j hj hn => g j hj (by simp only [List.mem_cons, List.not_mem_nil, or_false, not_or] at hn; omega)) ((congrArg Int32.toInt (zz_i e74)).trans (by decide : ((0 : Int32)).toInt = 0)) ((zz_i e74).trans (rfl : (0 : Int32) = (0 : Int32))) ((congrArg Int32.toInt (zz_i e75)).trans (by decide : ((0 : Int32)).toInt = 0)) ((zz_i e75).trans (rfl : (0 : Int32) = (0 : Int32))))
theorem j3go_0_p0 {Ls : Nat} {xs : Nat → Int32} {d : Nat} {Q : Option Value → jm_h → Prop} (hd : 2 ≤ d) (F : Nat → sy_d) (X1 X2 : List jm_c) (hB : iv_in F iv_B0)
    (h0 : (sy_i F 82).toInt < 0)
    (k : ∀ F1 : Nat → sy_d, (∀ j, j < 82 → True → F1 j = F j) → Q (some (.int ((0 : Int32)))) (sy_dh F1 X1 X2 (iv_H 3))) :
    hd_W Ls xs d jm_M88 Q (0, sy_dL F [some (.inl (.ref 8)), some (.inr (.inl 82)), some (.inr (.inl 83))], sy_dS F [], sy_dh F X1 X2 (iv_H 3), 0, 0) := by
  refine hd_ret (s := 3) (nv := 84) (v := some (.inl (.int 0))) (uh := hd_ov (iv_id 0 iv_B0) []) (f := true) (sp := [41]) (d0 := 1) (O := [true]) (T := []) (P := [(2, .inr (.inl 82), .inl (.int 0))]) jm_ok88 (by decide +kernel) (by decide +kernel) hd F X1 X2 (fun F' hF hs => ?_)
  have b82 := hd_b (F := F) (F' := F') (k := 82) (hF 82 (by decide))
  have hB' : iv_in F' iv_B0 := iv_in_eq hB (fun j hj => hF j (Nat.lt_of_lt_of_le hj (by decide +kernel)))
  refine ⟨List.forall_mem_cons.mpr ⟨hd_p2 b82 rfl (by have hc : ((0) : Int32).toInt = 0 := (by decide); omega), fun _ h => absurd h List.not_mem_nil⟩, ?_⟩
  refine k _ ?_
  · exact fun j hj _ => (hd_keep hB' (Nat.lt_of_lt_of_le hj (by decide +kernel)) (by simp)).trans (hF j (Nat.lt_of_lt_of_le hj (by decide)))
theorem j3go_0_p1 {Ls : Nat} {xs : Nat → Int32} {d : Nat} {Q : Option Value → jm_h → Prop} (hd : 2 ≤ d) (F : Nat → sy_d) (X1 X2 : List jm_c) (hB : iv_in F iv_B0)
    (h0 : 0 ≤ (sy_i F 82).toInt)
    (h1 : (sy_i F 19).toInt ≤ (sy_i F 82).toInt)
    (k : ∀ F1 : Nat → sy_d, (∀ j, j < 82 → True → F1 j = F j) → Q (some (.int ((0 : Int32)))) (sy_dh F1 X1 X2 (iv_H 3))) :
    hd_W Ls xs d jm_M88 Q (0, sy_dL F [some (.inl (.ref 8)), some (.inr (.inl 82)), some (.inr (.inl 83))], sy_dS F [], sy_dh F X1 X2 (iv_H 3), 0, 0) := by
  refine hd_ret (s := 3) (nv := 84) (v := some (.inl (.int 0))) (uh := hd_ov (iv_id 0 iv_B0) []) (f := true) (sp := [41]) (d0 := 1) (O := [false, true]) (T := []) (P := [(3, .inr (.inl 82), .inl (.int 0)), (4, .inr (.inl 19), .inr (.inl 82))]) jm_ok88 (by decide +kernel) (by decide +kernel) hd F X1 X2 (fun F' hF hs => ?_)
  have b82 := hd_b (F := F) (F' := F') (k := 82) (hF 82 (by decide))
  have b19 := hd_b (F := F) (F' := F') (k := 19) (hF 19 (by decide))
  have hB' : iv_in F' iv_B0 := iv_in_eq hB (fun j hj => hF j (Nat.lt_of_lt_of_le hj (by decide +kernel)))
  refine ⟨List.forall_mem_cons.mpr ⟨hd_p3 b82 rfl (by have hc : ((0) : Int32).toInt = 0 := (by decide); omega), List.forall_mem_cons.mpr ⟨hd_p4 b19 b82 h1, fun _ h => absurd h List.not_mem_nil⟩⟩, ?_⟩
  refine k _ ?_
  · exact fun j hj _ => (hd_keep hB' (Nat.lt_of_lt_of_le hj (by decide +kernel)) (by simp)).trans (hF j (Nat.lt_of_lt_of_le hj (by decide)))
theorem j3go_0_p2 {Ls : Nat} {xs : Nat → Int32} {d : Nat} {Q : Option Value → jm_h → Prop} (hd : 2 ≤ d) (F : Nat → sy_d) (X1 X2 : List jm_c) (hB : iv_in F iv_B0)
    (h0 : 0 ≤ (sy_i F 82).toInt)
    (h1 : (sy_i F 82).toInt < (sy_i F 19).toInt)
    (h2 : (sy_i F 83).toInt < 0)
    (k : ∀ F1 : Nat → sy_d, (∀ j, j < 82 → True → F1 j = F j) → Q (some (.int ((0 : Int32)))) (sy_dh F1 X1 X2 (iv_H 3))) :
    hd_W Ls xs d jm_M88 Q (0, sy_dL F [some (.inl (.ref 8)), some (.inr (.inl 82)), some (.inr (.inl 83))], sy_dS F [], sy_dh F X1 X2 (iv_H 3), 0, 0) := by
  refine hd_ret (s := 3) (nv := 84) (v := some (.inl (.int 0))) (uh := hd_ov (iv_id 0 iv_B0) []) (f := true) (sp := [41]) (d0 := 1) (O := [false, false, true]) (T := []) (P := [(3, .inr (.inl 82), .inl (.int 0)), (5, .inr (.inl 19), .inr (.inl 82)), (2, .inr (.inl 83), .inl (.int 0))]) jm_ok88 (by decide +kernel) (by decide +kernel) hd F X1 X2 (fun F' hF hs => ?_)
  have b82 := hd_b (F := F) (F' := F') (k := 82) (hF 82 (by decide))
  have b19 := hd_b (F := F) (F' := F') (k := 19) (hF 19 (by decide))
  have b83 := hd_b (F := F) (F' := F') (k := 83) (hF 83 (by decide))
  have hB' : iv_in F' iv_B0 := iv_in_eq hB (fun j hj => hF j (Nat.lt_of_lt_of_le hj (by decide +kernel)))
  refine ⟨List.forall_mem_cons.mpr ⟨hd_p3 b82 rfl (by have hc : ((0) : Int32).toInt = 0 := (by decide); omega), List.forall_mem_cons.mpr ⟨hd_p5 b19 b82 h1, List.forall_mem_cons.mpr ⟨hd_p2 b83 rfl (by have hc : ((0) : Int32).toInt = 0 := (by decide); omega), fun _ h => absurd h List.not_mem_nil⟩⟩⟩, ?_⟩
  refine k _ ?_
  · exact fun j hj _ => (hd_keep hB' (Nat.lt_of_lt_of_le hj (by decide +kernel)) (by simp)).trans (hF j (Nat.lt_of_lt_of_le hj (by decide)))
theorem j3go_0_p3 {Ls : Nat} {xs : Nat → Int32} {d : Nat} {Q : Option Value → jm_h → Prop} (hd : 2 ≤ d) (F : Nat → sy_d) (X1 X2 : List jm_c) (hB : iv_in F iv_B0)
    (h0 : 0 ≤ (sy_i F 82).toInt)
    (h1 : (sy_i F 82).toInt < (sy_i F 19).toInt)
    (h2 : 0 ≤ (sy_i F 83).toInt)
    (h3 : 9 < (sy_i F 83).toInt)
    (k : ∀ F1 : Nat → sy_d, (∀ j, j < 82 → True → F1 j = F j) → Q (some (.int ((0 : Int32)))) (sy_dh F1 X1 X2 (iv_H 3))) :
    hd_W Ls xs d jm_M88 Q (0, sy_dL F [some (.inl (.ref 8)), some (.inr (.inl 82)), some (.inr (.inl 83))], sy_dS F [], sy_dh F X1 X2 (iv_H 3), 0, 0) := by
  refine hd_ret (s := 3) (nv := 84) (v := some (.inl (.int 0))) (uh := hd_ov (iv_id 0 iv_B0) []) (f := true) (sp := [41]) (d0 := 1) (O := [false, false, false, true]) (T := []) (P := [(3, .inr (.inl 82), .inl (.int 0)), (5, .inr (.inl 19), .inr (.inl 82)), (3, .inr (.inl 83), .inl (.int 0)), (2, .inl (.int 9), .inr (.inl 83))]) jm_ok88 (by decide +kernel) (by decide +kernel) hd F X1 X2 (fun F' hF hs => ?_)
  have b82 := hd_b (F := F) (F' := F') (k := 82) (hF 82 (by decide))
  have b19 := hd_b (F := F) (F' := F') (k := 19) (hF 19 (by decide))
  have b83 := hd_b (F := F) (F' := F') (k := 83) (hF 83 (by decide))
  have hB' : iv_in F' iv_B0 := iv_in_eq hB (fun j hj => hF j (Nat.lt_of_lt_of_le hj (by decide +kernel)))
  refine ⟨List.forall_mem_cons.mpr ⟨hd_p3 b82 rfl (by have hc : ((0) : Int32).toInt = 0 := (by decide); omega), List.forall_mem_cons.mpr ⟨hd_p5 b19 b82 h1, List.forall_mem_cons.mpr ⟨hd_p3 b83 rfl (by have hc : ((0) : Int32).toInt = 0 := (by decide); omega), List.forall_mem_cons.mpr ⟨hd_p2 rfl b83 (by have hc : ((9) : Int32).toInt = 9 := (by decide); omega), fun _ h => absurd h List.not_mem_nil⟩⟩⟩⟩, ?_⟩
  refine k _ ?_
  · exact fun j hj _ => (hd_keep hB' (Nat.lt_of_lt_of_le hj (by decide +kernel)) (by simp)).trans (hF j (Nat.lt_of_lt_of_le hj (by decide)))
theorem j3go_0_p4 {Ls : Nat} {xs : Nat → Int32} {d : Nat} {Q : Option Value → jm_h → Prop} (hd : 2 ≤ d) (F : Nat → sy_d) (X1 X2 : List jm_c) (hB : iv_in F iv_B0)
    (h0 : 0 ≤ (sy_i F 82).toInt)
    (h1 : (sy_i F 82).toInt < (sy_i F 19).toInt)
    (h2 : 0 ≤ (sy_i F 83).toInt)
    (h3 : (sy_i F 83).toInt ≤ 9)
    (h4 : 0 ≤ (sy_i F 82).toInt ∧ (sy_i F 82).toInt < 4)
    (h5 : ((sy_ai F 60).getD (sy_i F 82).toNatClampNeg 0).toInt ≠ (sy_i F 83).toInt)
    (k : ∀ F1 : Nat → sy_d, (∀ j, j < 82 → True → F1 j = F j) → F1 82 = .inl (.int (sy_i F 82)) → F1 83 = .inl (.int (sy_i F 83)) → hd_W Ls xs d jm_M88 Q (41, sy_dL F1 [some (.inl (.ref 8)), some (.inr (.inl 82)), some (.inr (.inl 83))], sy_dS F1 [.inl (.ref 46), .inl (.ref 66)], sy_dh F1 X1 X2 (iv_H 3), 0, 0)) :
    hd_W Ls xs d jm_M88 Q (0, sy_dL F [some (.inl (.ref 8)), some (.inr (.inl 82)), some (.inr (.inl 83))], sy_dS F [], sy_dh F X1 X2 (iv_H 3), 0, 0) := by
  refine hd_run (s := 3) (nv := 84) (pc := 41) (L := [some (.inl (.ref 8)), some (.inr (.inl 82)), some (.inr (.inl 83))]) (S := [.inl (.ref 46), .inl (.ref 66)]) (uh := hd_ov (iv_id 0 iv_B0) []) (ul := [.inl (.inr (.inl 82)), .inl (.inr (.inl 83))]) (f := true) (sp := [41]) (d0 := 1) (O := [false, false, false, false, true]) (T := [(30, [.inr (.inl 82)], [.inr (.inl 60)])]) (P := [(3, .inr (.inl 82), .inl (.int 0)), (5, .inr (.inl 19), .inr (.inl 82)), (3, .inr (.inl 83), .inl (.int 0)), (3, .inl (.int 9), .inr (.inl 83)), (6, .inr (.inl 82), .inl (.ref 4)), (1, .inr (.inl 84), .inr (.inl 83))]) jm_ok88 (by decide +kernel) (by decide +kernel) hd F X1 X2 (fun F' hF hs => ?_)
  have b82 := hd_b (F := F) (F' := F') (k := 82) (hF 82 (by decide))
  have b19 := hd_b (F := F) (F' := F') (k := 19) (hF 19 (by decide))
  have b83 := hd_b (F := F) (F' := F') (k := 83) (hF 83 (by decide))
  have a60 := hd_ba (F := F) (F' := F') (k := 60) (hF 60 (by decide))
  have t84 : sy_dv F' (.inr (.inl 84)) = .int ((sy_ai F 60).getD (sy_i F 82).toNatClampNeg 0) := hd_rd (hs 0 _ rfl) b82 a60
  have hB' : iv_in F' iv_B0 := iv_in_eq hB (fun j hj => hF j (Nat.lt_of_lt_of_le hj (by decide +kernel)))
  refine ⟨List.forall_mem_cons.mpr ⟨hd_p3 b82 rfl (by have hc : ((0) : Int32).toInt = 0 := (by decide); omega), List.forall_mem_cons.mpr ⟨hd_p5 b19 b82 h1, List.forall_mem_cons.mpr ⟨hd_p3 b83 rfl (by have hc : ((0) : Int32).toInt = 0 := (by decide); omega), List.forall_mem_cons.mpr ⟨hd_p3 rfl b83 (by have hc : ((9) : Int32).toInt = 9 := (by decide); omega), List.forall_mem_cons.mpr ⟨hd_pb b82 (by first | exact h4 | exact h4), List.forall_mem_cons.mpr ⟨hd_p1 t84 b83 h5, fun _ h => absurd h List.not_mem_nil⟩⟩⟩⟩⟩⟩, ?_⟩
  refine k _ ?_ ?_ ?_
  · exact fun j hj _ => (hd_keep hB' (Nat.lt_of_lt_of_le hj (by decide +kernel)) (by simp)).trans (hF j (Nat.lt_of_lt_of_le hj (by decide)))
  · exact hd_gi (x := .inr (.inl 82)) (by decide +kernel) b82
  · exact hd_gi (x := .inr (.inl 83)) (by decide +kernel) b83
theorem j3go_0_p5 {Ls : Nat} {xs : Nat → Int32} {d : Nat} {Q : Option Value → jm_h → Prop} (hd : 2 ≤ d) (F : Nat → sy_d) (X1 X2 : List jm_c) (hB : iv_in F iv_B0)
    (h0 : 0 ≤ (sy_i F 82).toInt)
    (h1 : (sy_i F 82).toInt < (sy_i F 19).toInt)
    (h2 : 0 ≤ (sy_i F 83).toInt)
    (h3 : (sy_i F 83).toInt ≤ 9)
    (h4 : 0 ≤ (sy_i F 82).toInt ∧ (sy_i F 82).toInt < 4)
    (h5 : ((sy_ai F 60).getD (sy_i F 82).toNatClampNeg 0).toInt = (sy_i F 83).toInt)
    (k : ∀ F1 : Nat → sy_d, (∀ j, j < 82 → True → F1 j = F j) → Q (some (.int ((0 : Int32)))) (sy_dh F1 X1 X2 (iv_H 3))) :
    hd_W Ls xs d jm_M88 Q (0, sy_dL F [some (.inl (.ref 8)), some (.inr (.inl 82)), some (.inr (.inl 83))], sy_dS F [], sy_dh F X1 X2 (iv_H 3), 0, 0) := by
  refine hd_ret (s := 3) (nv := 84) (v := some (.inl (.int 0))) (uh := hd_ov (iv_id 0 iv_B0) []) (f := true) (sp := [41]) (d0 := 1) (O := [false, false, false, false, false]) (T := [(30, [.inr (.inl 82)], [.inr (.inl 60)])]) (P := [(3, .inr (.inl 82), .inl (.int 0)), (5, .inr (.inl 19), .inr (.inl 82)), (3, .inr (.inl 83), .inl (.int 0)), (3, .inl (.int 9), .inr (.inl 83)), (6, .inr (.inl 82), .inl (.ref 4)), (0, .inr (.inl 84), .inr (.inl 83))]) jm_ok88 (by decide +kernel) (by decide +kernel) hd F X1 X2 (fun F' hF hs => ?_)
  have b82 := hd_b (F := F) (F' := F') (k := 82) (hF 82 (by decide))
  have b19 := hd_b (F := F) (F' := F') (k := 19) (hF 19 (by decide))
  have b83 := hd_b (F := F) (F' := F') (k := 83) (hF 83 (by decide))
  have a60 := hd_ba (F := F) (F' := F') (k := 60) (hF 60 (by decide))
  have t84 : sy_dv F' (.inr (.inl 84)) = .int ((sy_ai F 60).getD (sy_i F 82).toNatClampNeg 0) := hd_rd (hs 0 _ rfl) b82 a60
  have hB' : iv_in F' iv_B0 := iv_in_eq hB (fun j hj => hF j (Nat.lt_of_lt_of_le hj (by decide +kernel)))
  refine ⟨List.forall_mem_cons.mpr ⟨hd_p3 b82 rfl (by have hc : ((0) : Int32).toInt = 0 := (by decide); omega), List.forall_mem_cons.mpr ⟨hd_p5 b19 b82 h1, List.forall_mem_cons.mpr ⟨hd_p3 b83 rfl (by have hc : ((0) : Int32).toInt = 0 := (by decide); omega), List.forall_mem_cons.mpr ⟨hd_p3 rfl b83 (by have hc : ((9) : Int32).toInt = 9 := (by decide); omega), List.forall_mem_cons.mpr ⟨hd_pb b82 (by first | exact h4 | exact h4), List.forall_mem_cons.mpr ⟨hd_p0 t84 b83 h5, fun _ h => absurd h List.not_mem_nil⟩⟩⟩⟩⟩⟩, ?_⟩
  refine k _ ?_
  · exact fun j hj _ => (hd_keep hB' (Nat.lt_of_lt_of_le hj (by decide +kernel)) (by simp)).trans (hF j (Nat.lt_of_lt_of_le hj (by decide)))
theorem j3go_0 {Ls : Nat} {xs : Nat → Int32} {d : Nat} {Q : Option Value → jm_h → Prop} (hd : 2 ≤ d) (F : Nat → sy_d) (X1 X2 : List jm_c) (hB : iv_in F iv_B0)
    (k0 : (sy_i F 82).toInt < 0 → ∀ F1 : Nat → sy_d, iv_in F1 iv_B0 → (∀ j, j < 82 → j ∉ ([] : List Nat) → F1 j = F j) → Q (some (.int ((0 : Int32)))) (sy_dh F1 X1 X2 (iv_H 3)))
    (k1 : 0 ≤ (sy_i F 82).toInt → (sy_i F 19).toInt ≤ (sy_i F 82).toInt → ∀ F1 : Nat → sy_d, iv_in F1 iv_B0 → (∀ j, j < 82 → j ∉ ([] : List Nat) → F1 j = F j) → Q (some (.int ((0 : Int32)))) (sy_dh F1 X1 X2 (iv_H 3)))
    (k2 : 0 ≤ (sy_i F 82).toInt → (sy_i F 82).toInt < (sy_i F 19).toInt → (sy_i F 83).toInt < 0 → ∀ F1 : Nat → sy_d, iv_in F1 iv_B0 → (∀ j, j < 82 → j ∉ ([] : List Nat) → F1 j = F j) → Q (some (.int ((0 : Int32)))) (sy_dh F1 X1 X2 (iv_H 3)))
    (k3 : 0 ≤ (sy_i F 82).toInt → (sy_i F 82).toInt < (sy_i F 19).toInt → 0 ≤ (sy_i F 83).toInt → 9 < (sy_i F 83).toInt → ∀ F1 : Nat → sy_d, iv_in F1 iv_B0 → (∀ j, j < 82 → j ∉ ([] : List Nat) → F1 j = F j) → Q (some (.int ((0 : Int32)))) (sy_dh F1 X1 X2 (iv_H 3)))
    (k4 : 0 ≤ (sy_i F 82).toInt → (sy_i F 82).toInt < (sy_i F 19).toInt → 0 ≤ (sy_i F 83).toInt → (sy_i F 83).toInt ≤ 9 → ((sy_ai F 60).getD ((sy_i F 82).toInt).toNat 0).toInt ≠ (sy_i F 83).toInt → ∀ F1 : Nat → sy_d, iv_in F1 iv_B0 → (∀ j, j < 82 → j ∉ ([] : List Nat) → F1 j = F j) → (sy_i F1 82).toInt = (sy_i F 82).toInt → sy_i F1 82 = sy_i F 82 → (sy_i F1 83).toInt = (sy_i F 83).toInt → sy_i F1 83 = sy_i F 83 → hd_W Ls xs d jm_M88 Q (41, sy_dL F1 [some (.inl (.ref 8)), some (.inr (.inl 82)), some (.inr (.inl 83))], sy_dS F1 [.inl (.ref 46), .inl (.ref 66)], sy_dh F1 X1 X2 (iv_H 3), 0, 0))
    (k5 : 0 ≤ (sy_i F 82).toInt → (sy_i F 82).toInt < (sy_i F 19).toInt → 0 ≤ (sy_i F 83).toInt → (sy_i F 83).toInt ≤ 9 → ((sy_ai F 60).getD ((sy_i F 82).toInt).toNat 0).toInt = (sy_i F 83).toInt → ∀ F1 : Nat → sy_d, iv_in F1 iv_B0 → (∀ j, j < 82 → j ∉ ([] : List Nat) → F1 j = F j) → Q (some (.int ((0 : Int32)))) (sy_dh F1 X1 X2 (iv_H 3))) :
    hd_W Ls xs d jm_M88 Q (0, sy_dL F [some (.inl (.ref 8)), some (.inr (.inl 82)), some (.inr (.inl 83))], sy_dS F [], sy_dh F X1 X2 (iv_H 3), 0, 0) := by
  by_cases g0 : (sy_i F 82).toInt < 0
  · exact j3go_0_p0 hd F X1 X2 hB (by first | exact g0 | (simp only [nz_c]; exact g0)) (fun F1 g  => k0 g0 F1 (nz_in0 hB [] (fun j hj hn => g j hj (by simp only [List.mem_cons, List.not_mem_nil, or_false, not_or] at hn; exact trivial)) (List.forall_mem_nil _)) (fun j hj hn => g j hj (by simp only [List.mem_cons, List.not_mem_nil, or_false, not_or] at hn; exact trivial)) )
  replace g0 : 0 ≤ (sy_i F 82).toInt := by omega
  by_cases g1 : (sy_i F 19).toInt ≤ (sy_i F 82).toInt
  · have c19 := nz_bx hB (k := 19) (lo := 0) (hi := 4) rfl
    exact j3go_0_p1 hd F X1 X2 hB (by first | exact g0 | (simp only [nz_c]; exact g0)) (by first | exact g1 | (simp only [nz_c]; exact g1)) (fun F1 g  => k1 g0 g1 F1 (nz_in0 hB [] (fun j hj hn => g j hj (by simp only [List.mem_cons, List.not_mem_nil, or_false, not_or] at hn; exact trivial)) (List.forall_mem_nil _)) (fun j hj hn => g j hj (by simp only [List.mem_cons, List.not_mem_nil, or_false, not_or] at hn; exact trivial)) )
  replace g1 : (sy_i F 82).toInt < (sy_i F 19).toInt := by omega
  by_cases g2 : (sy_i F 83).toInt < 0
  · have c19 := nz_bx hB (k := 19) (lo := 0) (hi := 4) rfl
    exact j3go_0_p2 hd F X1 X2 hB (by first | exact g0 | (simp only [nz_c]; exact g0)) (by first | exact g1 | (simp only [nz_c]; exact g1)) (by first | exact g2 | (simp only [nz_c]; exact g2)) (fun F1 g  => k2 g0 g1 g2 F1 (nz_in0 hB [] (fun j hj hn => g j hj (by simp only [List.mem_cons, List.not_mem_nil, or_false, not_or] at hn; exact trivial)) (List.forall_mem_nil _)) (fun j hj hn => g j hj (by simp only [List.mem_cons, List.not_mem_nil, or_false, not_or] at hn; exact trivial)) )
  replace g2 : 0 ≤ (sy_i F 83).toInt := by omega
  by_cases g3 : 9 < (sy_i F 83).toInt
  · have c19 := nz_bx hB (k := 19) (lo := 0) (hi := 4) rfl
    exact j3go_0_p3 hd F X1 X2 hB (by first | exact g0 | (simp only [nz_c]; exact g0)) (by first | exact g1 | (simp only [nz_c]; exact g1)) (by first | exact g2 | (simp only [nz_c]; exact g2)) (by first | exact g3 | (simp only [nz_c]; exact g3)) (fun F1 g  => k3 g0 g1 g2 g3 F1 (nz_in0 hB [] (fun j hj hn => g j hj (by simp only [List.mem_cons, List.not_mem_nil, or_false, not_or] at hn; exact trivial)) (List.forall_mem_nil _)) (fun j hj hn => g j hj (by simp only [List.mem_cons, List.not_mem_nil, or_false, not_or] at hn; exact trivial)) )
  replace g3 : (sy_i F 83).toInt ≤ 9 := by omega
  by_cases g4 : ((sy_ai F 60).getD ((sy_i F 82).toInt).toNat 0).toInt ≠ (sy_i F 83).toInt
  · have c19 := nz_bx hB (k := 19) (lo := 0) (hi := 4) rfl
    have q84 : (sy_ai F 60).getD (sy_i F 82).toNatClampNeg 0 = (sy_ai F 60).getD ((sy_i F 82).toInt).toNat 0 := by simp only [nz_c]
    have n84 : nzI ((sy_ai F 60).getD (sy_i F 82).toNatClampNeg 0) (((sy_ai F 60).getD ((sy_i F 82).toInt).toNat 0).toInt) := congrArg Int32.toInt q84
    exact j3go_0_p4 hd F X1 X2 hB (by first | exact g0 | (simp only [nz_c]; exact g0)) (by first | exact g1 | (simp only [nz_c]; exact g1)) (by first | exact g2 | (simp only [nz_c]; exact g2)) (by first | exact g3 | (simp only [nz_c]; exact g3)) (by first | exact ⟨by omega, by omega⟩ | (simp only [nz_c]; exact ⟨by omega, by omega⟩)) (by first | exact g4 | (simp only [nz_c]; exact g4) | (rw [(nzE n84)]; exact g4)) (fun F1 g e82 e83 => k4 g0 g1 g2 g3 g4 F1 (nz_in0 hB [] (fun j hj hn => g j hj (by simp only [List.mem_cons, List.not_mem_nil, or_false, not_or] at hn; exact trivial)) (List.forall_mem_nil _)) (fun j hj hn => g j hj (by simp only [List.mem_cons, List.not_mem_nil, or_false, not_or] at hn; exact trivial)) ((congrArg Int32.toInt (zz_i e82)).trans (rfl : (sy_i F 82).toInt = (sy_i F 82).toInt)) ((zz_i e82).trans (rfl : sy_i F 82 = sy_i F 82)) ((congrArg Int32.toInt (zz_i e83)).trans (rfl : (sy_i F 83).toInt = (sy_i F 83).toInt)) ((zz_i e83).trans (rfl : sy_i F 83 = sy_i F 83)))
  replace g4 : ((sy_ai F 60).getD ((sy_i F 82).toInt).toNat 0).toInt = (sy_i F 83).toInt := by omega
  have c19 := nz_bx hB (k := 19) (lo := 0) (hi := 4) rfl
  have q84 : (sy_ai F 60).getD (sy_i F 82).toNatClampNeg 0 = (sy_ai F 60).getD ((sy_i F 82).toInt).toNat 0 := by simp only [nz_c]
  have n84 : nzI ((sy_ai F 60).getD (sy_i F 82).toNatClampNeg 0) (((sy_ai F 60).getD ((sy_i F 82).toInt).toNat 0).toInt) := congrArg Int32.toInt q84
  exact j3go_0_p5 hd F X1 X2 hB (by first | exact g0 | (simp only [nz_c]; exact g0)) (by first | exact g1 | (simp only [nz_c]; exact g1)) (by first | exact g2 | (simp only [nz_c]; exact g2)) (by first | exact g3 | (simp only [nz_c]; exact g3)) (by first | exact ⟨by omega, by omega⟩ | (simp only [nz_c]; exact ⟨by omega, by omega⟩)) (by first | exact g4 | (simp only [nz_c]; exact g4) | (rw [(nzE n84)]; exact g4)) (fun F1 g  => k5 g0 g1 g2 g3 g4 F1 (nz_in0 hB [] (fun j hj hn => g j hj (by simp only [List.mem_cons, List.not_mem_nil, or_false, not_or] at hn; exact trivial)) (List.forall_mem_nil _)) (fun j hj hn => g j hj (by simp only [List.mem_cons, List.not_mem_nil, or_false, not_or] at hn; exact trivial)) )
theorem j3go_44_p0 {Ls : Nat} {xs : Nat → Int32} {d : Nat} {Q : Option Value → jm_h → Prop} (hd : 1 ≤ d) (F : Nat → sy_d) (X1 X2 : List jm_c) (hB : iv_in F iv_B0)
    (h0 : 0 ≤ (sy_i F 82).toInt ∧ (sy_i F 82).toInt < 4)
    (k : ∀ F1 : Nat → sy_d, (∀ j, j < 82 → j ≠ 60 → F1 j = F j) → F1 60 = .inr (.inl (jm_upd (sy_ai F 60) (sy_i F 82).toNatClampNeg (sy_i F 83))) → Q (some (.int ((1 : Int32)))) (sy_dh F1 X1 X2 (iv_H 3))) :
    hd_W Ls xs d jm_M88 Q (44, sy_dL F [some (.inl (.ref 8)), some (.inr (.inl 82)), some (.inr (.inl 83))], sy_dS F [], sy_dh F X1 X2 (iv_H 3), 0, 0) := by
  refine hd_ret (s := 3) (nv := 84) (v := some (.inl (.int 1))) (uh := hd_ov (iv_id 0 iv_B0) [(60, .inr (.inr (.inl 84)))]) (f := false) (sp := []) (d0 := 0) (O := []) (T := [(40, [.inr (.inl 82), .inr (.inl 83)], [.inr (.inl 60)])]) (P := [(6, .inr (.inl 82), .inl (.ref 4))]) jm_ok88 (by decide +kernel) (by decide +kernel) hd F X1 X2 (fun F' hF hs => ?_)
  have b82 := hd_b (F := F) (F' := F') (k := 82) (hF 82 (by decide))
  have b83 := hd_b (F := F) (F' := F') (k := 83) (hF 83 (by decide))
  have a60 := hd_ba (F := F) (F' := F') (k := 60) (hF 60 (by decide))
  have t84 : sy_da F' (.inr (.inl 84)) = .inl (jm_upd (sy_ai F 60) (sy_i F 82).toNatClampNeg (sy_i F 83)) := hd_up (hs 0 _ rfl) b82 b83 a60
  have hB' : iv_in F' iv_B0 := iv_in_eq hB (fun j hj => hF j (Nat.lt_of_lt_of_le hj (by decide +kernel)))
  refine ⟨List.forall_mem_cons.mpr ⟨hd_pb b82 (by first | exact h0 | exact h0), fun _ h => absurd h List.not_mem_nil⟩, ?_⟩
  refine k _ ?_ ?_
  · exact fun j hj hn => (hd_keep hB' (Nat.lt_of_lt_of_le hj (by decide +kernel)) (by simp; omega)).trans (hF j (Nat.lt_of_lt_of_le hj (by decide)))
  · exact hd_ga (a := .inr (.inl 84)) (by decide +kernel) t84
theorem j3go_44 {Ls : Nat} {xs : Nat → Int32} {d : Nat} {Q : Option Value → jm_h → Prop} (hd : 1 ≤ d) (F : Nat → sy_d) (X1 X2 : List jm_c) (hB : iv_in F iv_B0)
    (a82 : 0 ≤ (sy_i F 82).toInt ∧ (sy_i F 82).toInt ≤ 3)
    (a83 : 0 ≤ (sy_i F 83).toInt ∧ (sy_i F 83).toInt ≤ 9)
    (k0 : ∀ F1 : Nat → sy_d, iv_in F1 iv_B0 → (∀ j, j < 82 → j ∉ ([60] : List Nat) → F1 j = F j) → sy_ai F1 60 = jm_upd (sy_ai F 60) ((sy_i F 82).toInt).toNat (sy_i F 83) → Q (some (.int ((1 : Int32)))) (sy_dh F1 X1 X2 (iv_H 3))) :
    hd_W Ls xs d jm_M88 Q (44, sy_dL F [some (.inl (.ref 8)), some (.inr (.inl 82)), some (.inr (.inl 83))], sy_dS F [], sy_dh F X1 X2 (iv_H 3), 0, 0) := by
  have w84 : jm_upd (sy_ai F 60) (sy_i F 82).toNatClampNeg (sy_i F 83) = jm_upd (sy_ai F 60) ((sy_i F 82).toInt).toNat (sy_i F 83) := by simp only [nz_c]
  exact j3go_44_p0 hd F X1 X2 hB (by first | exact ⟨by omega, by omega⟩ | (simp only [nz_c]; exact ⟨by omega, by omega⟩)) (fun F1 g e60 => k0 F1 (nz_in0 hB [60] (fun j hj hn => g j hj (by simp only [List.mem_cons, List.not_mem_nil, or_false, not_or] at hn; omega)) (List.forall_mem_cons.mpr ⟨fun t ht => (Option.some.inj ht) ▸ (nz_hz2 e60), List.forall_mem_nil _⟩)) (fun j hj hn => g j hj (by simp only [List.mem_cons, List.not_mem_nil, or_false, not_or] at hn; omega)) ((zz_ai e60).trans w84))
theorem j3pr_0_p0 {Ls : Nat} {xs : Nat → Int32} {d : Nat} {Q : Option Value → jm_h → Prop} (hd : 2 ≤ d) (F : Nat → sy_d) (X1 X2 : List jm_c) (hB : iv_in F iv_B0)
    (h0 : (sy_i F 83).toInt = 0)
    (h1 : (sy_i F 82).toInt < 0)
    (k : ∀ F1 : Nat → sy_d, (∀ j, j < 82 → True → F1 j = F j) → Q (some (.int ((0 : Int32)))) (sy_dh F1 X1 X2 (iv_H 3))) :
    hd_W Ls xs d jm_M89 Q (0, sy_dL F [some (.inl (.ref 8)), some (.inr (.inl 82)), some (.inr (.inl 83)), none], sy_dS F [], sy_dh F X1 X2 (iv_H 3), 0, 0) := by
  refine hd_ret (s := 3) (nv := 84) (v := some (.inl (.int 0))) (uh := hd_ov (iv_id 0 iv_B0) []) (f := true) (sp := [53]) (d0 := 1) (O := [true, true]) (T := []) (P := [(0, .inr (.inl 83), .inl (.int 0)), (2, .inr (.inl 82), .inl (.int 0))]) jm_ok89 (by decide +kernel) (by decide +kernel) hd F X1 X2 (fun F' hF hs => ?_)
  have b83 := hd_b (F := F) (F' := F') (k := 83) (hF 83 (by decide))
  have b82 := hd_b (F := F) (F' := F') (k := 82) (hF 82 (by decide))
  have hB' : iv_in F' iv_B0 := iv_in_eq hB (fun j hj => hF j (Nat.lt_of_lt_of_le hj (by decide +kernel)))
  refine ⟨List.forall_mem_cons.mpr ⟨hd_p0 b83 rfl (by have hc : ((0) : Int32).toInt = 0 := (by decide); omega), List.forall_mem_cons.mpr ⟨hd_p2 b82 rfl (by have hc : ((0) : Int32).toInt = 0 := (by decide); omega), fun _ h => absurd h List.not_mem_nil⟩⟩, ?_⟩
  refine k _ ?_
  · exact fun j hj _ => (hd_keep hB' (Nat.lt_of_lt_of_le hj (by decide +kernel)) (by simp)).trans (hF j (Nat.lt_of_lt_of_le hj (by decide)))
theorem j3pr_0_p1 {Ls : Nat} {xs : Nat → Int32} {d : Nat} {Q : Option Value → jm_h → Prop} (hd : 2 ≤ d) (F : Nat → sy_d) (X1 X2 : List jm_c) (hB : iv_in F iv_B0)
    (h0 : (sy_i F 83).toInt = 0)
    (h1 : 0 ≤ (sy_i F 82).toInt)
    (h2 : (sy_i F 18).toInt ≤ (sy_i F 82).toInt)
    (k : ∀ F1 : Nat → sy_d, (∀ j, j < 82 → True → F1 j = F j) → Q (some (.int ((0 : Int32)))) (sy_dh F1 X1 X2 (iv_H 3))) :
    hd_W Ls xs d jm_M89 Q (0, sy_dL F [some (.inl (.ref 8)), some (.inr (.inl 82)), some (.inr (.inl 83)), none], sy_dS F [], sy_dh F X1 X2 (iv_H 3), 0, 0) := by
  refine hd_ret (s := 3) (nv := 84) (v := some (.inl (.int 0))) (uh := hd_ov (iv_id 0 iv_B0) []) (f := true) (sp := [53]) (d0 := 1) (O := [true, false, true]) (T := []) (P := [(0, .inr (.inl 83), .inl (.int 0)), (3, .inr (.inl 82), .inl (.int 0)), (4, .inr (.inl 18), .inr (.inl 82))]) jm_ok89 (by decide +kernel) (by decide +kernel) hd F X1 X2 (fun F' hF hs => ?_)
  have b83 := hd_b (F := F) (F' := F') (k := 83) (hF 83 (by decide))
  have b82 := hd_b (F := F) (F' := F') (k := 82) (hF 82 (by decide))
  have b18 := hd_b (F := F) (F' := F') (k := 18) (hF 18 (by decide))
  have hB' : iv_in F' iv_B0 := iv_in_eq hB (fun j hj => hF j (Nat.lt_of_lt_of_le hj (by decide +kernel)))
  refine ⟨List.forall_mem_cons.mpr ⟨hd_p0 b83 rfl (by have hc : ((0) : Int32).toInt = 0 := (by decide); omega), List.forall_mem_cons.mpr ⟨hd_p3 b82 rfl (by have hc : ((0) : Int32).toInt = 0 := (by decide); omega), List.forall_mem_cons.mpr ⟨hd_p4 b18 b82 h2, fun _ h => absurd h List.not_mem_nil⟩⟩⟩, ?_⟩
  refine k _ ?_
  · exact fun j hj _ => (hd_keep hB' (Nat.lt_of_lt_of_le hj (by decide +kernel)) (by simp)).trans (hF j (Nat.lt_of_lt_of_le hj (by decide)))
theorem j3pr_0_p2 {Ls : Nat} {xs : Nat → Int32} {d : Nat} {Q : Option Value → jm_h → Prop} (hd : 2 ≤ d) (F : Nat → sy_d) (X1 X2 : List jm_c) (hB : iv_in F iv_B0)
    (h0 : (sy_i F 83).toInt = 0)
    (h1 : 0 ≤ (sy_i F 82).toInt)
    (h2 : (sy_i F 82).toInt < (sy_i F 18).toInt)
    (h3 : 0 ≤ (sy_i F 82).toInt ∧ (sy_i F 82).toInt < 7)
    (h4 : ((sy_ai F 54).getD (sy_i F 82).toNatClampNeg 0).toInt ≠ 0)
    (k : ∀ F1 : Nat → sy_d, (∀ j, j < 82 → True → F1 j = F j) → Q (some (.int ((0 : Int32)))) (sy_dh F1 X1 X2 (iv_H 3))) :
    hd_W Ls xs d jm_M89 Q (0, sy_dL F [some (.inl (.ref 8)), some (.inr (.inl 82)), some (.inr (.inl 83)), none], sy_dS F [], sy_dh F X1 X2 (iv_H 3), 0, 0) := by
  refine hd_ret (s := 3) (nv := 84) (v := some (.inl (.int 0))) (uh := hd_ov (iv_id 0 iv_B0) []) (f := true) (sp := [53]) (d0 := 1) (O := [true, false, false, true]) (T := [(30, [.inr (.inl 82)], [.inr (.inl 54)])]) (P := [(0, .inr (.inl 83), .inl (.int 0)), (3, .inr (.inl 82), .inl (.int 0)), (5, .inr (.inl 18), .inr (.inl 82)), (6, .inr (.inl 82), .inl (.ref 7)), (1, .inr (.inl 84), .inl (.int 0))]) jm_ok89 (by decide +kernel) (by decide +kernel) hd F X1 X2 (fun F' hF hs => ?_)
  have b83 := hd_b (F := F) (F' := F') (k := 83) (hF 83 (by decide))
  have b82 := hd_b (F := F) (F' := F') (k := 82) (hF 82 (by decide))
  have b18 := hd_b (F := F) (F' := F') (k := 18) (hF 18 (by decide))
  have a54 := hd_ba (F := F) (F' := F') (k := 54) (hF 54 (by decide))
  have t84 : sy_dv F' (.inr (.inl 84)) = .int ((sy_ai F 54).getD (sy_i F 82).toNatClampNeg 0) := hd_rd (hs 0 _ rfl) b82 a54
  have hB' : iv_in F' iv_B0 := iv_in_eq hB (fun j hj => hF j (Nat.lt_of_lt_of_le hj (by decide +kernel)))
  refine ⟨List.forall_mem_cons.mpr ⟨hd_p0 b83 rfl (by have hc : ((0) : Int32).toInt = 0 := (by decide); omega), List.forall_mem_cons.mpr ⟨hd_p3 b82 rfl (by have hc : ((0) : Int32).toInt = 0 := (by decide); omega), List.forall_mem_cons.mpr ⟨hd_p5 b18 b82 h2, List.forall_mem_cons.mpr ⟨hd_pb b82 (by first | exact h3 | exact h3), List.forall_mem_cons.mpr ⟨hd_p1 t84 rfl (by have hc : ((0) : Int32).toInt = 0 := (by decide); omega), fun _ h => absurd h List.not_mem_nil⟩⟩⟩⟩⟩, ?_⟩
  refine k _ ?_
  · exact fun j hj _ => (hd_keep hB' (Nat.lt_of_lt_of_le hj (by decide +kernel)) (by simp)).trans (hF j (Nat.lt_of_lt_of_le hj (by decide)))
theorem j3pr_0_p3 {Ls : Nat} {xs : Nat → Int32} {d : Nat} {Q : Option Value → jm_h → Prop} (hd : 2 ≤ d) (F : Nat → sy_d) (X1 X2 : List jm_c) (hB : iv_in F iv_B0)
    (h0 : (sy_i F 83).toInt = 0)
    (h1 : 0 ≤ (sy_i F 82).toInt)
    (h2 : (sy_i F 82).toInt < (sy_i F 18).toInt)
    (h3 : 0 ≤ (sy_i F 82).toInt ∧ (sy_i F 82).toInt < 7)
    (h4 : ((sy_ai F 54).getD (sy_i F 82).toNatClampNeg 0).toInt = 0)
    (h5 : 0 ≤ (sy_i F 82).toInt ∧ (sy_i F 82).toInt < 7)
    (h6 : ((sy_ai F 57).getD (sy_i F 82).toNatClampNeg 0).toInt ≠ 0)
    (k : ∀ F1 : Nat → sy_d, (∀ j, j < 82 → True → F1 j = F j) → F1 82 = .inl (.int (sy_i F 82)) → F1 83 = .inl (.int ((0 : Int32))) → hd_W Ls xs d jm_M89 Q (53, sy_dL F1 [some (.inl (.ref 8)), some (.inr (.inl 82)), none, some (.inr (.inl 83))], sy_dS F1 [.inl (.ref 46), .inl (.ref 66)], sy_dh F1 X1 X2 (iv_H 3), 0, 0)) :
    hd_W Ls xs d jm_M89 Q (0, sy_dL F [some (.inl (.ref 8)), some (.inr (.inl 82)), some (.inr (.inl 83)), none], sy_dS F [], sy_dh F X1 X2 (iv_H 3), 0, 0) := by
  refine hd_run (s := 3) (nv := 84) (pc := 53) (L := [some (.inl (.ref 8)), some (.inr (.inl 82)), none, some (.inr (.inl 83))]) (S := [.inl (.ref 46), .inl (.ref 66)]) (uh := hd_ov (iv_id 0 iv_B0) []) (ul := [.inl (.inr (.inl 82)), .inl (.inl (.int 0))]) (f := true) (sp := [53]) (d0 := 1) (O := [true, false, false, false, true]) (T := [(30, [.inr (.inl 82)], [.inr (.inl 54)]), (30, [.inr (.inl 82)], [.inr (.inl 57)])]) (P := [(0, .inr (.inl 83), .inl (.int 0)), (3, .inr (.inl 82), .inl (.int 0)), (5, .inr (.inl 18), .inr (.inl 82)), (6, .inr (.inl 82), .inl (.ref 7)), (0, .inr (.inl 84), .inl (.int 0)), (6, .inr (.inl 82), .inl (.ref 7)), (1, .inr (.inl 85), .inl (.int 0))]) jm_ok89 (by decide +kernel) (by decide +kernel) hd F X1 X2 (fun F' hF hs => ?_)
  have b83 := hd_b (F := F) (F' := F') (k := 83) (hF 83 (by decide))
  have b82 := hd_b (F := F) (F' := F') (k := 82) (hF 82 (by decide))
  have b18 := hd_b (F := F) (F' := F') (k := 18) (hF 18 (by decide))
  have a54 := hd_ba (F := F) (F' := F') (k := 54) (hF 54 (by decide))
  have t84 : sy_dv F' (.inr (.inl 84)) = .int ((sy_ai F 54).getD (sy_i F 82).toNatClampNeg 0) := hd_rd (hs 0 _ rfl) b82 a54
  have a57 := hd_ba (F := F) (F' := F') (k := 57) (hF 57 (by decide))
  have t85 : sy_dv F' (.inr (.inl 85)) = .int ((sy_ai F 57).getD (sy_i F 82).toNatClampNeg 0) := hd_rd (hs 1 _ rfl) b82 a57
  have hB' : iv_in F' iv_B0 := iv_in_eq hB (fun j hj => hF j (Nat.lt_of_lt_of_le hj (by decide +kernel)))
  refine ⟨List.forall_mem_cons.mpr ⟨hd_p0 b83 rfl (by have hc : ((0) : Int32).toInt = 0 := (by decide); omega), List.forall_mem_cons.mpr ⟨hd_p3 b82 rfl (by have hc : ((0) : Int32).toInt = 0 := (by decide); omega), List.forall_mem_cons.mpr ⟨hd_p5 b18 b82 h2, List.forall_mem_cons.mpr ⟨hd_pb b82 (by first | exact h3 | exact h3), List.forall_mem_cons.mpr ⟨hd_p0 t84 rfl (by have hc : ((0) : Int32).toInt = 0 := (by decide); omega), List.forall_mem_cons.mpr ⟨hd_pb b82 (by first | exact h5 | exact h5), List.forall_mem_cons.mpr ⟨hd_p1 t85 rfl (by have hc : ((0) : Int32).toInt = 0 := (by decide); omega), fun _ h => absurd h List.not_mem_nil⟩⟩⟩⟩⟩⟩⟩, ?_⟩
  refine k _ ?_ ?_ ?_
  · exact fun j hj _ => (hd_keep hB' (Nat.lt_of_lt_of_le hj (by decide +kernel)) (by simp)).trans (hF j (Nat.lt_of_lt_of_le hj (by decide)))
  · exact hd_gi (x := .inr (.inl 82)) (by decide +kernel) b82
  · exact hd_gi (x := .inl (.int 0)) (by decide +kernel) rfl
theorem j3pr_0_p4 {Ls : Nat} {xs : Nat → Int32} {d : Nat} {Q : Option Value → jm_h → Prop} (hd : 2 ≤ d) (F : Nat → sy_d) (X1 X2 : List jm_c) (hB : iv_in F iv_B0)
    (h0 : (sy_i F 83).toInt = 0)
    (h1 : 0 ≤ (sy_i F 82).toInt)
    (h2 : (sy_i F 82).toInt < (sy_i F 18).toInt)
    (h3 : 0 ≤ (sy_i F 82).toInt ∧ (sy_i F 82).toInt < 7)
    (h4 : ((sy_ai F 54).getD (sy_i F 82).toNatClampNeg 0).toInt = 0)
    (h5 : 0 ≤ (sy_i F 82).toInt ∧ (sy_i F 82).toInt < 7)
    (h6 : ((sy_ai F 57).getD (sy_i F 82).toNatClampNeg 0).toInt = 0)
    (k : ∀ F1 : Nat → sy_d, (∀ j, j < 82 → True → F1 j = F j) → Q (some (.int ((0 : Int32)))) (sy_dh F1 X1 X2 (iv_H 3))) :
    hd_W Ls xs d jm_M89 Q (0, sy_dL F [some (.inl (.ref 8)), some (.inr (.inl 82)), some (.inr (.inl 83)), none], sy_dS F [], sy_dh F X1 X2 (iv_H 3), 0, 0) := by
  refine hd_ret (s := 3) (nv := 84) (v := some (.inl (.int 0))) (uh := hd_ov (iv_id 0 iv_B0) []) (f := true) (sp := [53]) (d0 := 1) (O := [true, false, false, false, false]) (T := [(30, [.inr (.inl 82)], [.inr (.inl 54)]), (30, [.inr (.inl 82)], [.inr (.inl 57)])]) (P := [(0, .inr (.inl 83), .inl (.int 0)), (3, .inr (.inl 82), .inl (.int 0)), (5, .inr (.inl 18), .inr (.inl 82)), (6, .inr (.inl 82), .inl (.ref 7)), (0, .inr (.inl 84), .inl (.int 0)), (6, .inr (.inl 82), .inl (.ref 7)), (0, .inr (.inl 85), .inl (.int 0))]) jm_ok89 (by decide +kernel) (by decide +kernel) hd F X1 X2 (fun F' hF hs => ?_)
  have b83 := hd_b (F := F) (F' := F') (k := 83) (hF 83 (by decide))
  have b82 := hd_b (F := F) (F' := F') (k := 82) (hF 82 (by decide))
  have b18 := hd_b (F := F) (F' := F') (k := 18) (hF 18 (by decide))
  have a54 := hd_ba (F := F) (F' := F') (k := 54) (hF 54 (by decide))
  have t84 : sy_dv F' (.inr (.inl 84)) = .int ((sy_ai F 54).getD (sy_i F 82).toNatClampNeg 0) := hd_rd (hs 0 _ rfl) b82 a54
  have a57 := hd_ba (F := F) (F' := F') (k := 57) (hF 57 (by decide))
  have t85 : sy_dv F' (.inr (.inl 85)) = .int ((sy_ai F 57).getD (sy_i F 82).toNatClampNeg 0) := hd_rd (hs 1 _ rfl) b82 a57
  have hB' : iv_in F' iv_B0 := iv_in_eq hB (fun j hj => hF j (Nat.lt_of_lt_of_le hj (by decide +kernel)))
  refine ⟨List.forall_mem_cons.mpr ⟨hd_p0 b83 rfl (by have hc : ((0) : Int32).toInt = 0 := (by decide); omega), List.forall_mem_cons.mpr ⟨hd_p3 b82 rfl (by have hc : ((0) : Int32).toInt = 0 := (by decide); omega), List.forall_mem_cons.mpr ⟨hd_p5 b18 b82 h2, List.forall_mem_cons.mpr ⟨hd_pb b82 (by first | exact h3 | exact h3), List.forall_mem_cons.mpr ⟨hd_p0 t84 rfl (by have hc : ((0) : Int32).toInt = 0 := (by decide); omega), List.forall_mem_cons.mpr ⟨hd_pb b82 (by first | exact h5 | exact h5), List.forall_mem_cons.mpr ⟨hd_p0 t85 rfl (by have hc : ((0) : Int32).toInt = 0 := (by decide); omega), fun _ h => absurd h List.not_mem_nil⟩⟩⟩⟩⟩⟩⟩, ?_⟩
  refine k _ ?_
  · exact fun j hj _ => (hd_keep hB' (Nat.lt_of_lt_of_le hj (by decide +kernel)) (by simp)).trans (hF j (Nat.lt_of_lt_of_le hj (by decide)))
theorem j3pr_0_p5 {Ls : Nat} {xs : Nat → Int32} {d : Nat} {Q : Option Value → jm_h → Prop} (hd : 2 ≤ d) (F : Nat → sy_d) (X1 X2 : List jm_c) (hB : iv_in F iv_B0)
    (h0 : (sy_i F 83).toInt ≠ 0)
    (h1 : (sy_i F 82).toInt < 0)
    (k : ∀ F1 : Nat → sy_d, (∀ j, j < 82 → True → F1 j = F j) → Q (some (.int ((0 : Int32)))) (sy_dh F1 X1 X2 (iv_H 3))) :
    hd_W Ls xs d jm_M89 Q (0, sy_dL F [some (.inl (.ref 8)), some (.inr (.inl 82)), some (.inr (.inl 83)), none], sy_dS F [], sy_dh F X1 X2 (iv_H 3), 0, 0) := by
  refine hd_ret (s := 3) (nv := 84) (v := some (.inl (.int 0))) (uh := hd_ov (iv_id 0 iv_B0) []) (f := true) (sp := [53]) (d0 := 1) (O := [false, true]) (T := []) (P := [(1, .inr (.inl 83), .inl (.int 0)), (2, .inr (.inl 82), .inl (.int 0))]) jm_ok89 (by decide +kernel) (by decide +kernel) hd F X1 X2 (fun F' hF hs => ?_)
  have b83 := hd_b (F := F) (F' := F') (k := 83) (hF 83 (by decide))
  have b82 := hd_b (F := F) (F' := F') (k := 82) (hF 82 (by decide))
  have hB' : iv_in F' iv_B0 := iv_in_eq hB (fun j hj => hF j (Nat.lt_of_lt_of_le hj (by decide +kernel)))
  refine ⟨List.forall_mem_cons.mpr ⟨hd_p1 b83 rfl (by have hc : ((0) : Int32).toInt = 0 := (by decide); omega), List.forall_mem_cons.mpr ⟨hd_p2 b82 rfl (by have hc : ((0) : Int32).toInt = 0 := (by decide); omega), fun _ h => absurd h List.not_mem_nil⟩⟩, ?_⟩
  refine k _ ?_
  · exact fun j hj _ => (hd_keep hB' (Nat.lt_of_lt_of_le hj (by decide +kernel)) (by simp)).trans (hF j (Nat.lt_of_lt_of_le hj (by decide)))
theorem j3pr_0_p6 {Ls : Nat} {xs : Nat → Int32} {d : Nat} {Q : Option Value → jm_h → Prop} (hd : 2 ≤ d) (F : Nat → sy_d) (X1 X2 : List jm_c) (hB : iv_in F iv_B0)
    (h0 : (sy_i F 83).toInt ≠ 0)
    (h1 : 0 ≤ (sy_i F 82).toInt)
    (h2 : (sy_i F 18).toInt ≤ (sy_i F 82).toInt)
    (k : ∀ F1 : Nat → sy_d, (∀ j, j < 82 → True → F1 j = F j) → Q (some (.int ((0 : Int32)))) (sy_dh F1 X1 X2 (iv_H 3))) :
    hd_W Ls xs d jm_M89 Q (0, sy_dL F [some (.inl (.ref 8)), some (.inr (.inl 82)), some (.inr (.inl 83)), none], sy_dS F [], sy_dh F X1 X2 (iv_H 3), 0, 0) := by
  refine hd_ret (s := 3) (nv := 84) (v := some (.inl (.int 0))) (uh := hd_ov (iv_id 0 iv_B0) []) (f := true) (sp := [53]) (d0 := 1) (O := [false, false, true]) (T := []) (P := [(1, .inr (.inl 83), .inl (.int 0)), (3, .inr (.inl 82), .inl (.int 0)), (4, .inr (.inl 18), .inr (.inl 82))]) jm_ok89 (by decide +kernel) (by decide +kernel) hd F X1 X2 (fun F' hF hs => ?_)
  have b83 := hd_b (F := F) (F' := F') (k := 83) (hF 83 (by decide))
  have b82 := hd_b (F := F) (F' := F') (k := 82) (hF 82 (by decide))
  have b18 := hd_b (F := F) (F' := F') (k := 18) (hF 18 (by decide))
  have hB' : iv_in F' iv_B0 := iv_in_eq hB (fun j hj => hF j (Nat.lt_of_lt_of_le hj (by decide +kernel)))
  refine ⟨List.forall_mem_cons.mpr ⟨hd_p1 b83 rfl (by have hc : ((0) : Int32).toInt = 0 := (by decide); omega), List.forall_mem_cons.mpr ⟨hd_p3 b82 rfl (by have hc : ((0) : Int32).toInt = 0 := (by decide); omega), List.forall_mem_cons.mpr ⟨hd_p4 b18 b82 h2, fun _ h => absurd h List.not_mem_nil⟩⟩⟩, ?_⟩
  refine k _ ?_
  · exact fun j hj _ => (hd_keep hB' (Nat.lt_of_lt_of_le hj (by decide +kernel)) (by simp)).trans (hF j (Nat.lt_of_lt_of_le hj (by decide)))
theorem j3pr_0_p7 {Ls : Nat} {xs : Nat → Int32} {d : Nat} {Q : Option Value → jm_h → Prop} (hd : 2 ≤ d) (F : Nat → sy_d) (X1 X2 : List jm_c) (hB : iv_in F iv_B0)
    (h0 : (sy_i F 83).toInt ≠ 0)
    (h1 : 0 ≤ (sy_i F 82).toInt)
    (h2 : (sy_i F 82).toInt < (sy_i F 18).toInt)
    (h3 : 0 ≤ (sy_i F 82).toInt ∧ (sy_i F 82).toInt < 7)
    (h4 : ((sy_ai F 54).getD (sy_i F 82).toNatClampNeg 0).toInt ≠ 0)
    (k : ∀ F1 : Nat → sy_d, (∀ j, j < 82 → True → F1 j = F j) → Q (some (.int ((0 : Int32)))) (sy_dh F1 X1 X2 (iv_H 3))) :
    hd_W Ls xs d jm_M89 Q (0, sy_dL F [some (.inl (.ref 8)), some (.inr (.inl 82)), some (.inr (.inl 83)), none], sy_dS F [], sy_dh F X1 X2 (iv_H 3), 0, 0) := by
  refine hd_ret (s := 3) (nv := 84) (v := some (.inl (.int 0))) (uh := hd_ov (iv_id 0 iv_B0) []) (f := true) (sp := [53]) (d0 := 1) (O := [false, false, false, true]) (T := [(30, [.inr (.inl 82)], [.inr (.inl 54)])]) (P := [(1, .inr (.inl 83), .inl (.int 0)), (3, .inr (.inl 82), .inl (.int 0)), (5, .inr (.inl 18), .inr (.inl 82)), (6, .inr (.inl 82), .inl (.ref 7)), (1, .inr (.inl 84), .inl (.int 0))]) jm_ok89 (by decide +kernel) (by decide +kernel) hd F X1 X2 (fun F' hF hs => ?_)
  have b83 := hd_b (F := F) (F' := F') (k := 83) (hF 83 (by decide))
  have b82 := hd_b (F := F) (F' := F') (k := 82) (hF 82 (by decide))
  have b18 := hd_b (F := F) (F' := F') (k := 18) (hF 18 (by decide))
  have a54 := hd_ba (F := F) (F' := F') (k := 54) (hF 54 (by decide))
  have t84 : sy_dv F' (.inr (.inl 84)) = .int ((sy_ai F 54).getD (sy_i F 82).toNatClampNeg 0) := hd_rd (hs 0 _ rfl) b82 a54
  have hB' : iv_in F' iv_B0 := iv_in_eq hB (fun j hj => hF j (Nat.lt_of_lt_of_le hj (by decide +kernel)))
  refine ⟨List.forall_mem_cons.mpr ⟨hd_p1 b83 rfl (by have hc : ((0) : Int32).toInt = 0 := (by decide); omega), List.forall_mem_cons.mpr ⟨hd_p3 b82 rfl (by have hc : ((0) : Int32).toInt = 0 := (by decide); omega), List.forall_mem_cons.mpr ⟨hd_p5 b18 b82 h2, List.forall_mem_cons.mpr ⟨hd_pb b82 (by first | exact h3 | exact h3), List.forall_mem_cons.mpr ⟨hd_p1 t84 rfl (by have hc : ((0) : Int32).toInt = 0 := (by decide); omega), fun _ h => absurd h List.not_mem_nil⟩⟩⟩⟩⟩, ?_⟩
  refine k _ ?_
  · exact fun j hj _ => (hd_keep hB' (Nat.lt_of_lt_of_le hj (by decide +kernel)) (by simp)).trans (hF j (Nat.lt_of_lt_of_le hj (by decide)))
theorem j3pr_0_p8 {Ls : Nat} {xs : Nat → Int32} {d : Nat} {Q : Option Value → jm_h → Prop} (hd : 2 ≤ d) (F : Nat → sy_d) (X1 X2 : List jm_c) (hB : iv_in F iv_B0)
    (h0 : (sy_i F 83).toInt ≠ 0)
    (h1 : 0 ≤ (sy_i F 82).toInt)
    (h2 : (sy_i F 82).toInt < (sy_i F 18).toInt)
    (h3 : 0 ≤ (sy_i F 82).toInt ∧ (sy_i F 82).toInt < 7)
    (h4 : ((sy_ai F 54).getD (sy_i F 82).toNatClampNeg 0).toInt = 0)
    (h5 : 0 ≤ (sy_i F 82).toInt ∧ (sy_i F 82).toInt < 7)
    (h6 : ((sy_ai F 57).getD (sy_i F 82).toNatClampNeg 0).toInt ≠ 1)
    (k : ∀ F1 : Nat → sy_d, (∀ j, j < 82 → True → F1 j = F j) → F1 82 = .inl (.int (sy_i F 82)) → F1 83 = .inl (.int ((1 : Int32))) → hd_W Ls xs d jm_M89 Q (53, sy_dL F1 [some (.inl (.ref 8)), some (.inr (.inl 82)), none, some (.inr (.inl 83))], sy_dS F1 [.inl (.ref 46), .inl (.ref 66)], sy_dh F1 X1 X2 (iv_H 3), 0, 0)) :
    hd_W Ls xs d jm_M89 Q (0, sy_dL F [some (.inl (.ref 8)), some (.inr (.inl 82)), some (.inr (.inl 83)), none], sy_dS F [], sy_dh F X1 X2 (iv_H 3), 0, 0) := by
  refine hd_run (s := 3) (nv := 84) (pc := 53) (L := [some (.inl (.ref 8)), some (.inr (.inl 82)), none, some (.inr (.inl 83))]) (S := [.inl (.ref 46), .inl (.ref 66)]) (uh := hd_ov (iv_id 0 iv_B0) []) (ul := [.inl (.inr (.inl 82)), .inl (.inl (.int 1))]) (f := true) (sp := [53]) (d0 := 1) (O := [false, false, false, false, true]) (T := [(30, [.inr (.inl 82)], [.inr (.inl 54)]), (30, [.inr (.inl 82)], [.inr (.inl 57)])]) (P := [(1, .inr (.inl 83), .inl (.int 0)), (3, .inr (.inl 82), .inl (.int 0)), (5, .inr (.inl 18), .inr (.inl 82)), (6, .inr (.inl 82), .inl (.ref 7)), (0, .inr (.inl 84), .inl (.int 0)), (6, .inr (.inl 82), .inl (.ref 7)), (1, .inr (.inl 85), .inl (.int 1))]) jm_ok89 (by decide +kernel) (by decide +kernel) hd F X1 X2 (fun F' hF hs => ?_)
  have b83 := hd_b (F := F) (F' := F') (k := 83) (hF 83 (by decide))
  have b82 := hd_b (F := F) (F' := F') (k := 82) (hF 82 (by decide))
  have b18 := hd_b (F := F) (F' := F') (k := 18) (hF 18 (by decide))
  have a54 := hd_ba (F := F) (F' := F') (k := 54) (hF 54 (by decide))
  have t84 : sy_dv F' (.inr (.inl 84)) = .int ((sy_ai F 54).getD (sy_i F 82).toNatClampNeg 0) := hd_rd (hs 0 _ rfl) b82 a54
  have a57 := hd_ba (F := F) (F' := F') (k := 57) (hF 57 (by decide))
  have t85 : sy_dv F' (.inr (.inl 85)) = .int ((sy_ai F 57).getD (sy_i F 82).toNatClampNeg 0) := hd_rd (hs 1 _ rfl) b82 a57
  have hB' : iv_in F' iv_B0 := iv_in_eq hB (fun j hj => hF j (Nat.lt_of_lt_of_le hj (by decide +kernel)))
  refine ⟨List.forall_mem_cons.mpr ⟨hd_p1 b83 rfl (by have hc : ((0) : Int32).toInt = 0 := (by decide); omega), List.forall_mem_cons.mpr ⟨hd_p3 b82 rfl (by have hc : ((0) : Int32).toInt = 0 := (by decide); omega), List.forall_mem_cons.mpr ⟨hd_p5 b18 b82 h2, List.forall_mem_cons.mpr ⟨hd_pb b82 (by first | exact h3 | exact h3), List.forall_mem_cons.mpr ⟨hd_p0 t84 rfl (by have hc : ((0) : Int32).toInt = 0 := (by decide); omega), List.forall_mem_cons.mpr ⟨hd_pb b82 (by first | exact h5 | exact h5), List.forall_mem_cons.mpr ⟨hd_p1 t85 rfl (by have hc : ((1) : Int32).toInt = 1 := (by decide); omega), fun _ h => absurd h List.not_mem_nil⟩⟩⟩⟩⟩⟩⟩, ?_⟩
  refine k _ ?_ ?_ ?_
  · exact fun j hj _ => (hd_keep hB' (Nat.lt_of_lt_of_le hj (by decide +kernel)) (by simp)).trans (hF j (Nat.lt_of_lt_of_le hj (by decide)))
  · exact hd_gi (x := .inr (.inl 82)) (by decide +kernel) b82
  · exact hd_gi (x := .inl (.int 1)) (by decide +kernel) rfl
theorem j3pr_0_p9 {Ls : Nat} {xs : Nat → Int32} {d : Nat} {Q : Option Value → jm_h → Prop} (hd : 2 ≤ d) (F : Nat → sy_d) (X1 X2 : List jm_c) (hB : iv_in F iv_B0)
    (h0 : (sy_i F 83).toInt ≠ 0)
    (h1 : 0 ≤ (sy_i F 82).toInt)
    (h2 : (sy_i F 82).toInt < (sy_i F 18).toInt)
    (h3 : 0 ≤ (sy_i F 82).toInt ∧ (sy_i F 82).toInt < 7)
    (h4 : ((sy_ai F 54).getD (sy_i F 82).toNatClampNeg 0).toInt = 0)
    (h5 : 0 ≤ (sy_i F 82).toInt ∧ (sy_i F 82).toInt < 7)
    (h6 : ((sy_ai F 57).getD (sy_i F 82).toNatClampNeg 0).toInt = 1)
    (k : ∀ F1 : Nat → sy_d, (∀ j, j < 82 → True → F1 j = F j) → Q (some (.int ((0 : Int32)))) (sy_dh F1 X1 X2 (iv_H 3))) :
    hd_W Ls xs d jm_M89 Q (0, sy_dL F [some (.inl (.ref 8)), some (.inr (.inl 82)), some (.inr (.inl 83)), none], sy_dS F [], sy_dh F X1 X2 (iv_H 3), 0, 0) := by
  refine hd_ret (s := 3) (nv := 84) (v := some (.inl (.int 0))) (uh := hd_ov (iv_id 0 iv_B0) []) (f := true) (sp := [53]) (d0 := 1) (O := [false, false, false, false, false]) (T := [(30, [.inr (.inl 82)], [.inr (.inl 54)]), (30, [.inr (.inl 82)], [.inr (.inl 57)])]) (P := [(1, .inr (.inl 83), .inl (.int 0)), (3, .inr (.inl 82), .inl (.int 0)), (5, .inr (.inl 18), .inr (.inl 82)), (6, .inr (.inl 82), .inl (.ref 7)), (0, .inr (.inl 84), .inl (.int 0)), (6, .inr (.inl 82), .inl (.ref 7)), (0, .inr (.inl 85), .inl (.int 1))]) jm_ok89 (by decide +kernel) (by decide +kernel) hd F X1 X2 (fun F' hF hs => ?_)
  have b83 := hd_b (F := F) (F' := F') (k := 83) (hF 83 (by decide))
  have b82 := hd_b (F := F) (F' := F') (k := 82) (hF 82 (by decide))
  have b18 := hd_b (F := F) (F' := F') (k := 18) (hF 18 (by decide))
  have a54 := hd_ba (F := F) (F' := F') (k := 54) (hF 54 (by decide))
  have t84 : sy_dv F' (.inr (.inl 84)) = .int ((sy_ai F 54).getD (sy_i F 82).toNatClampNeg 0) := hd_rd (hs 0 _ rfl) b82 a54
  have a57 := hd_ba (F := F) (F' := F') (k := 57) (hF 57 (by decide))
  have t85 : sy_dv F' (.inr (.inl 85)) = .int ((sy_ai F 57).getD (sy_i F 82).toNatClampNeg 0) := hd_rd (hs 1 _ rfl) b82 a57
  have hB' : iv_in F' iv_B0 := iv_in_eq hB (fun j hj => hF j (Nat.lt_of_lt_of_le hj (by decide +kernel)))
  refine ⟨List.forall_mem_cons.mpr ⟨hd_p1 b83 rfl (by have hc : ((0) : Int32).toInt = 0 := (by decide); omega), List.forall_mem_cons.mpr ⟨hd_p3 b82 rfl (by have hc : ((0) : Int32).toInt = 0 := (by decide); omega), List.forall_mem_cons.mpr ⟨hd_p5 b18 b82 h2, List.forall_mem_cons.mpr ⟨hd_pb b82 (by first | exact h3 | exact h3), List.forall_mem_cons.mpr ⟨hd_p0 t84 rfl (by have hc : ((0) : Int32).toInt = 0 := (by decide); omega), List.forall_mem_cons.mpr ⟨hd_pb b82 (by first | exact h5 | exact h5), List.forall_mem_cons.mpr ⟨hd_p0 t85 rfl (by have hc : ((1) : Int32).toInt = 1 := (by decide); omega), fun _ h => absurd h List.not_mem_nil⟩⟩⟩⟩⟩⟩⟩, ?_⟩
  refine k _ ?_
  · exact fun j hj _ => (hd_keep hB' (Nat.lt_of_lt_of_le hj (by decide +kernel)) (by simp)).trans (hF j (Nat.lt_of_lt_of_le hj (by decide)))
theorem j3pr_0 {Ls : Nat} {xs : Nat → Int32} {d : Nat} {Q : Option Value → jm_h → Prop} (hd : 2 ≤ d) (F : Nat → sy_d) (X1 X2 : List jm_c) (hB : iv_in F iv_B0)
    (k0 : (sy_i F 83).toInt = 0 → (sy_i F 82).toInt < 0 → ∀ F1 : Nat → sy_d, iv_in F1 iv_B0 → (∀ j, j < 82 → j ∉ ([] : List Nat) → F1 j = F j) → Q (some (.int ((0 : Int32)))) (sy_dh F1 X1 X2 (iv_H 3)))
    (k1 : (sy_i F 83).toInt = 0 → 0 ≤ (sy_i F 82).toInt → (sy_i F 18).toInt ≤ (sy_i F 82).toInt → ∀ F1 : Nat → sy_d, iv_in F1 iv_B0 → (∀ j, j < 82 → j ∉ ([] : List Nat) → F1 j = F j) → Q (some (.int ((0 : Int32)))) (sy_dh F1 X1 X2 (iv_H 3)))
    (k2 : (sy_i F 83).toInt = 0 → 0 ≤ (sy_i F 82).toInt → (sy_i F 82).toInt < (sy_i F 18).toInt → ((sy_ai F 54).getD ((sy_i F 82).toInt).toNat 0).toInt ≠ 0 → ∀ F1 : Nat → sy_d, iv_in F1 iv_B0 → (∀ j, j < 82 → j ∉ ([] : List Nat) → F1 j = F j) → Q (some (.int ((0 : Int32)))) (sy_dh F1 X1 X2 (iv_H 3)))
    (k3 : (sy_i F 83).toInt = 0 → 0 ≤ (sy_i F 82).toInt → (sy_i F 82).toInt < (sy_i F 18).toInt → ((sy_ai F 54).getD ((sy_i F 82).toInt).toNat 0).toInt = 0 → ((sy_ai F 57).getD ((sy_i F 82).toInt).toNat 0).toInt ≠ 0 → ∀ F1 : Nat → sy_d, iv_in F1 iv_B0 → (∀ j, j < 82 → j ∉ ([] : List Nat) → F1 j = F j) → (sy_i F1 82).toInt = (sy_i F 82).toInt → sy_i F1 82 = sy_i F 82 → (sy_i F1 83).toInt = 0 → sy_i F1 83 = (0 : Int32) → hd_W Ls xs d jm_M89 Q (53, sy_dL F1 [some (.inl (.ref 8)), some (.inr (.inl 82)), none, some (.inr (.inl 83))], sy_dS F1 [.inl (.ref 46), .inl (.ref 66)], sy_dh F1 X1 X2 (iv_H 3), 0, 0))
    (k4 : (sy_i F 83).toInt = 0 → 0 ≤ (sy_i F 82).toInt → (sy_i F 82).toInt < (sy_i F 18).toInt → ((sy_ai F 54).getD ((sy_i F 82).toInt).toNat 0).toInt = 0 → ((sy_ai F 57).getD ((sy_i F 82).toInt).toNat 0).toInt = 0 → ∀ F1 : Nat → sy_d, iv_in F1 iv_B0 → (∀ j, j < 82 → j ∉ ([] : List Nat) → F1 j = F j) → Q (some (.int ((0 : Int32)))) (sy_dh F1 X1 X2 (iv_H 3)))
    (k5 : (sy_i F 83).toInt ≠ 0 → (sy_i F 82).toInt < 0 → ∀ F1 : Nat → sy_d, iv_in F1 iv_B0 → (∀ j, j < 82 → j ∉ ([] : List Nat) → F1 j = F j) → Q (some (.int ((0 : Int32)))) (sy_dh F1 X1 X2 (iv_H 3)))
    (k6 : (sy_i F 83).toInt ≠ 0 → 0 ≤ (sy_i F 82).toInt → (sy_i F 18).toInt ≤ (sy_i F 82).toInt → ∀ F1 : Nat → sy_d, iv_in F1 iv_B0 → (∀ j, j < 82 → j ∉ ([] : List Nat) → F1 j = F j) → Q (some (.int ((0 : Int32)))) (sy_dh F1 X1 X2 (iv_H 3)))
    (k7 : (sy_i F 83).toInt ≠ 0 → 0 ≤ (sy_i F 82).toInt → (sy_i F 82).toInt < (sy_i F 18).toInt → ((sy_ai F 54).getD ((sy_i F 82).toInt).toNat 0).toInt ≠ 0 → ∀ F1 : Nat → sy_d, iv_in F1 iv_B0 → (∀ j, j < 82 → j ∉ ([] : List Nat) → F1 j = F j) → Q (some (.int ((0 : Int32)))) (sy_dh F1 X1 X2 (iv_H 3)))
    (k8 : (sy_i F 83).toInt ≠ 0 → 0 ≤ (sy_i F 82).toInt → (sy_i F 82).toInt < (sy_i F 18).toInt → ((sy_ai F 54).getD ((sy_i F 82).toInt).toNat 0).toInt = 0 → ((sy_ai F 57).getD ((sy_i F 82).toInt).toNat 0).toInt ≠ 1 → ∀ F1 : Nat → sy_d, iv_in F1 iv_B0 → (∀ j, j < 82 → j ∉ ([] : List Nat) → F1 j = F j) → (sy_i F1 82).toInt = (sy_i F 82).toInt → sy_i F1 82 = sy_i F 82 → (sy_i F1 83).toInt = 1 → sy_i F1 83 = (1 : Int32) → hd_W Ls xs d jm_M89 Q (53, sy_dL F1 [some (.inl (.ref 8)), some (.inr (.inl 82)), none, some (.inr (.inl 83))], sy_dS F1 [.inl (.ref 46), .inl (.ref 66)], sy_dh F1 X1 X2 (iv_H 3), 0, 0))
    (k9 : (sy_i F 83).toInt ≠ 0 → 0 ≤ (sy_i F 82).toInt → (sy_i F 82).toInt < (sy_i F 18).toInt → ((sy_ai F 54).getD ((sy_i F 82).toInt).toNat 0).toInt = 0 → ((sy_ai F 57).getD ((sy_i F 82).toInt).toNat 0).toInt = 1 → ∀ F1 : Nat → sy_d, iv_in F1 iv_B0 → (∀ j, j < 82 → j ∉ ([] : List Nat) → F1 j = F j) → Q (some (.int ((0 : Int32)))) (sy_dh F1 X1 X2 (iv_H 3))) :
    hd_W Ls xs d jm_M89 Q (0, sy_dL F [some (.inl (.ref 8)), some (.inr (.inl 82)), some (.inr (.inl 83)), none], sy_dS F [], sy_dh F X1 X2 (iv_H 3), 0, 0) := by
  by_cases g0 : (sy_i F 83).toInt = 0
  · by_cases g1 : (sy_i F 82).toInt < 0
    · exact j3pr_0_p0 hd F X1 X2 hB (by first | exact g0 | (simp only [nz_c]; exact g0)) (by first | exact g1 | (simp only [nz_c]; exact g1)) (fun F1 g  => k0 g0 g1 F1 (nz_in0 hB [] (fun j hj hn => g j hj (by simp only [List.mem_cons, List.not_mem_nil, or_false, not_or] at hn; exact trivial)) (List.forall_mem_nil _)) (fun j hj hn => g j hj (by simp only [List.mem_cons, List.not_mem_nil, or_false, not_or] at hn; exact trivial)) )
    replace g1 : 0 ≤ (sy_i F 82).toInt := by omega
    by_cases g2 : (sy_i F 18).toInt ≤ (sy_i F 82).toInt
    · have c18 := nz_bx hB (k := 18) (lo := 0) (hi := 7) rfl
      exact j3pr_0_p1 hd F X1 X2 hB (by first | exact g0 | (simp only [nz_c]; exact g0)) (by first | exact g1 | (simp only [nz_c]; exact g1)) (by first | exact g2 | (simp only [nz_c]; exact g2)) (fun F1 g  => k1 g0 g1 g2 F1 (nz_in0 hB [] (fun j hj hn => g j hj (by simp only [List.mem_cons, List.not_mem_nil, or_false, not_or] at hn; exact trivial)) (List.forall_mem_nil _)) (fun j hj hn => g j hj (by simp only [List.mem_cons, List.not_mem_nil, or_false, not_or] at hn; exact trivial)) )
    replace g2 : (sy_i F 82).toInt < (sy_i F 18).toInt := by omega
    by_cases g3 : ((sy_ai F 54).getD ((sy_i F 82).toInt).toNat 0).toInt ≠ 0
    · have c18 := nz_bx hB (k := 18) (lo := 0) (hi := 7) rfl
      have q84 : (sy_ai F 54).getD (sy_i F 82).toNatClampNeg 0 = (sy_ai F 54).getD ((sy_i F 82).toInt).toNat 0 := by simp only [nz_c]
      have n84 : nzI ((sy_ai F 54).getD (sy_i F 82).toNatClampNeg 0) (((sy_ai F 54).getD ((sy_i F 82).toInt).toNat 0).toInt) := congrArg Int32.toInt q84
      exact j3pr_0_p2 hd F X1 X2 hB (by first | exact g0 | (simp only [nz_c]; exact g0)) (by first | exact g1 | (simp only [nz_c]; exact g1)) (by first | exact g2 | (simp only [nz_c]; exact g2)) (by first | exact ⟨by omega, by omega⟩ | (simp only [nz_c]; exact ⟨by omega, by omega⟩)) (by first | exact g3 | (simp only [nz_c]; exact g3) | (rw [(nzE n84)]; exact g3)) (fun F1 g  => k2 g0 g1 g2 g3 F1 (nz_in0 hB [] (fun j hj hn => g j hj (by simp only [List.mem_cons, List.not_mem_nil, or_false, not_or] at hn; exact trivial)) (List.forall_mem_nil _)) (fun j hj hn => g j hj (by simp only [List.mem_cons, List.not_mem_nil, or_false, not_or] at hn; exact trivial)) )
    replace g3 : ((sy_ai F 54).getD ((sy_i F 82).toInt).toNat 0).toInt = 0 := by omega
    by_cases g4 : ((sy_ai F 57).getD ((sy_i F 82).toInt).toNat 0).toInt ≠ 0
    · have c18 := nz_bx hB (k := 18) (lo := 0) (hi := 7) rfl
      have q84 : (sy_ai F 54).getD (sy_i F 82).toNatClampNeg 0 = (sy_ai F 54).getD ((sy_i F 82).toInt).toNat 0 := by simp only [nz_c]
      have n84 : nzI ((sy_ai F 54).getD (sy_i F 82).toNatClampNeg 0) (((sy_ai F 54).getD ((sy_i F 82).toInt).toNat 0).toInt) := congrArg Int32.toInt q84
      have q85 : (sy_ai F 57).getD (sy_i F 82).toNatClampNeg 0 = (sy_ai F 57).getD ((sy_i F 82).toInt).toNat 0 := by simp only [nz_c]
      have n85 : nzI ((sy_ai F 57).getD (sy_i F 82).toNatClampNeg 0) (((sy_ai F 57).getD ((sy_i F 82).toInt).toNat 0).toInt) := congrArg Int32.toInt q85
      exact j3pr_0_p3 hd F X1 X2 hB (by first | exact g0 | (simp only [nz_c]; exact g0)) (by first | exact g1 | (simp only [nz_c]; exact g1)) (by first | exact g2 | (simp only [nz_c]; exact g2)) (by first | exact ⟨by omega, by omega⟩ | (simp only [nz_c]; exact ⟨by omega, by omega⟩)) (by first | exact g3 | (simp only [nz_c]; exact g3) | (rw [(nzE n84)]; exact g3)) (by first | exact ⟨by omega, by omega⟩ | (simp only [nz_c]; exact ⟨by omega, by omega⟩)) (by first | exact g4 | (simp only [nz_c]; exact g4) | (rw [(nzE n85)]; exact g4)) (fun F1 g e82 e83 => k3 g0 g1 g2 g3 g4 F1 (nz_in0 hB [] (fun j hj hn => g j hj (by simp only [List.mem_cons, List.not_mem_nil, or_false, not_or] at hn; exact trivial)) (List.forall_mem_nil _)) (fun j hj hn => g j hj (by simp only [List.mem_cons, List.not_mem_nil, or_false, not_or] at hn; exact trivial)) ((congrArg Int32.toInt (zz_i e82)).trans (rfl : (sy_i F 82).toInt = (sy_i F 82).toInt)) ((zz_i e82).trans (rfl : sy_i F 82 = sy_i F 82)) ((congrArg Int32.toInt (zz_i e83)).trans (by decide : ((0 : Int32)).toInt = 0)) ((zz_i e83).trans (rfl : (0 : Int32) = (0 : Int32))))
    replace g4 : ((sy_ai F 57).getD ((sy_i F 82).toInt).toNat 0).toInt = 0 := by omega
    have c18 := nz_bx hB (k := 18) (lo := 0) (hi := 7) rfl
    have q84 : (sy_ai F 54).getD (sy_i F 82).toNatClampNeg 0 = (sy_ai F 54).getD ((sy_i F 82).toInt).toNat 0 := by simp only [nz_c]
    have n84 : nzI ((sy_ai F 54).getD (sy_i F 82).toNatClampNeg 0) (((sy_ai F 54).getD ((sy_i F 82).toInt).toNat 0).toInt) := congrArg Int32.toInt q84
    have q85 : (sy_ai F 57).getD (sy_i F 82).toNatClampNeg 0 = (sy_ai F 57).getD ((sy_i F 82).toInt).toNat 0 := by simp only [nz_c]
    have n85 : nzI ((sy_ai F 57).getD (sy_i F 82).toNatClampNeg 0) (((sy_ai F 57).getD ((sy_i F 82).toInt).toNat 0).toInt) := congrArg Int32.toInt q85
    exact j3pr_0_p4 hd F X1 X2 hB (by first | exact g0 | (simp only [nz_c]; exact g0)) (by first | exact g1 | (simp only [nz_c]; exact g1)) (by first | exact g2 | (simp only [nz_c]; exact g2)) (by first | exact ⟨by omega, by omega⟩ | (simp only [nz_c]; exact ⟨by omega, by omega⟩)) (by first | exact g3 | (simp only [nz_c]; exact g3) | (rw [(nzE n84)]; exact g3)) (by first | exact ⟨by omega, by omega⟩ | (simp only [nz_c]; exact ⟨by omega, by omega⟩)) (by first | exact g4 | (simp only [nz_c]; exact g4) | (rw [(nzE n85)]; exact g4)) (fun F1 g  => k4 g0 g1 g2 g3 g4 F1 (nz_in0 hB [] (fun j hj hn => g j hj (by simp only [List.mem_cons, List.not_mem_nil, or_false, not_or] at hn; exact trivial)) (List.forall_mem_nil _)) (fun j hj hn => g j hj (by simp only [List.mem_cons, List.not_mem_nil, or_false, not_or] at hn; exact trivial)) )
  replace g0 : (sy_i F 83).toInt ≠ 0 := by omega
  by_cases g1 : (sy_i F 82).toInt < 0
  · exact j3pr_0_p5 hd F X1 X2 hB (by first | exact g0 | (simp only [nz_c]; exact g0)) (by first | exact g1 | (simp only [nz_c]; exact g1)) (fun F1 g  => k5 g0 g1 F1 (nz_in0 hB [] (fun j hj hn => g j hj (by simp only [List.mem_cons, List.not_mem_nil, or_false, not_or] at hn; exact trivial)) (List.forall_mem_nil _)) (fun j hj hn => g j hj (by simp only [List.mem_cons, List.not_mem_nil, or_false, not_or] at hn; exact trivial)) )
  replace g1 : 0 ≤ (sy_i F 82).toInt := by omega
  by_cases g2 : (sy_i F 18).toInt ≤ (sy_i F 82).toInt
  · have c18 := nz_bx hB (k := 18) (lo := 0) (hi := 7) rfl
    exact j3pr_0_p6 hd F X1 X2 hB (by first | exact g0 | (simp only [nz_c]; exact g0)) (by first | exact g1 | (simp only [nz_c]; exact g1)) (by first | exact g2 | (simp only [nz_c]; exact g2)) (fun F1 g  => k6 g0 g1 g2 F1 (nz_in0 hB [] (fun j hj hn => g j hj (by simp only [List.mem_cons, List.not_mem_nil, or_false, not_or] at hn; exact trivial)) (List.forall_mem_nil _)) (fun j hj hn => g j hj (by simp only [List.mem_cons, List.not_mem_nil, or_false, not_or] at hn; exact trivial)) )
  replace g2 : (sy_i F 82).toInt < (sy_i F 18).toInt := by omega
  by_cases g3 : ((sy_ai F 54).getD ((sy_i F 82).toInt).toNat 0).toInt ≠ 0
  · have c18 := nz_bx hB (k := 18) (lo := 0) (hi := 7) rfl
    have q84 : (sy_ai F 54).getD (sy_i F 82).toNatClampNeg 0 = (sy_ai F 54).getD ((sy_i F 82).toInt).toNat 0 := by simp only [nz_c]
    have n84 : nzI ((sy_ai F 54).getD (sy_i F 82).toNatClampNeg 0) (((sy_ai F 54).getD ((sy_i F 82).toInt).toNat 0).toInt) := congrArg Int32.toInt q84
    exact j3pr_0_p7 hd F X1 X2 hB (by first | exact g0 | (simp only [nz_c]; exact g0)) (by first | exact g1 | (simp only [nz_c]; exact g1)) (by first | exact g2 | (simp only [nz_c]; exact g2)) (by first | exact ⟨by omega, by omega⟩ | (simp only [nz_c]; exact ⟨by omega, by omega⟩)) (by first | exact g3 | (simp only [nz_c]; exact g3) | (rw [(nzE n84)]; exact g3)) (fun F1 g  => k7 g0 g1 g2 g3 F1 (nz_in0 hB [] (fun j hj hn => g j hj (by simp only [List.mem_cons, List.not_mem_nil, or_false, not_or] at hn; exact trivial)) (List.forall_mem_nil _)) (fun j hj hn => g j hj (by simp only [List.mem_cons, List.not_mem_nil, or_false, not_or] at hn; exact trivial)) )
  replace g3 : ((sy_ai F 54).getD ((sy_i F 82).toInt).toNat 0).toInt = 0 := by omega
  by_cases g4 : ((sy_ai F 57).getD ((sy_i F 82).toInt).toNat 0).toInt ≠ 1
  · have c18 := nz_bx hB (k := 18) (lo := 0) (hi := 7) rfl
    have q84 : (sy_ai F 54).getD (sy_i F 82).toNatClampNeg 0 = (sy_ai F 54).getD ((sy_i F 82).toInt).toNat 0 := by simp only [nz_c]
    have n84 : nzI ((sy_ai F 54).getD (sy_i F 82).toNatClampNeg 0) (((sy_ai F 54).getD ((sy_i F 82).toInt).toNat 0).toInt) := congrArg Int32.toInt q84
    have q85 : (sy_ai F 57).getD (sy_i F 82).toNatClampNeg 0 = (sy_ai F 57).getD ((sy_i F 82).toInt).toNat 0 := by simp only [nz_c]
    have n85 : nzI ((sy_ai F 57).getD (sy_i F 82).toNatClampNeg 0) (((sy_ai F 57).getD ((sy_i F 82).toInt).toNat 0).toInt) := congrArg Int32.toInt q85
    exact j3pr_0_p8 hd F X1 X2 hB (by first | exact g0 | (simp only [nz_c]; exact g0)) (by first | exact g1 | (simp only [nz_c]; exact g1)) (by first | exact g2 | (simp only [nz_c]; exact g2)) (by first | exact ⟨by omega, by omega⟩ | (simp only [nz_c]; exact ⟨by omega, by omega⟩)) (by first | exact g3 | (simp only [nz_c]; exact g3) | (rw [(nzE n84)]; exact g3)) (by first | exact ⟨by omega, by omega⟩ | (simp only [nz_c]; exact ⟨by omega, by omega⟩)) (by first | exact g4 | (simp only [nz_c]; exact g4) | (rw [(nzE n85)]; exact g4)) (fun F1 g e82 e83 => k8 g0 g1 g2 g3 g4 F1 (nz_in0 hB [] (fun j hj hn => g j hj (by simp only [List.mem_cons, List.not_mem_nil, or_false, not_or] at hn; exact trivial)) (List.forall_mem_nil _)) (fun j hj hn => g j hj (by simp only [List.mem_cons, List.not_mem_nil, or_false, not_or] at hn; exact trivial)) ((congrArg Int32.toInt (zz_i e82)).trans (rfl : (sy_i F 82).toInt = (sy_i F 82).toInt)) ((zz_i e82).trans (rfl : sy_i F 82 = sy_i F 82)) ((congrArg Int32.toInt (zz_i e83)).trans (by decide : ((1 : Int32)).toInt = 1)) ((zz_i e83).trans (rfl : (1 : Int32) = (1 : Int32))))
  replace g4 : ((sy_ai F 57).getD ((sy_i F 82).toInt).toNat 0).toInt = 1 := by omega
  have c18 := nz_bx hB (k := 18) (lo := 0) (hi := 7) rfl
  have q84 : (sy_ai F 54).getD (sy_i F 82).toNatClampNeg 0 = (sy_ai F 54).getD ((sy_i F 82).toInt).toNat 0 := by simp only [nz_c]
  have n84 : nzI ((sy_ai F 54).getD (sy_i F 82).toNatClampNeg 0) (((sy_ai F 54).getD ((sy_i F 82).toInt).toNat 0).toInt) := congrArg Int32.toInt q84
  have q85 : (sy_ai F 57).getD (sy_i F 82).toNatClampNeg 0 = (sy_ai F 57).getD ((sy_i F 82).toInt).toNat 0 := by simp only [nz_c]
  have n85 : nzI ((sy_ai F 57).getD (sy_i F 82).toNatClampNeg 0) (((sy_ai F 57).getD ((sy_i F 82).toInt).toNat 0).toInt) := congrArg Int32.toInt q85
  exact j3pr_0_p9 hd F X1 X2 hB (by first | exact g0 | (simp only [nz_c]; exact g0)) (by first | exact g1 | (simp only [nz_c]; exact g1)) (by first | exact g2 | (simp only [nz_c]; exact g2)) (by first | exact ⟨by omega, by omega⟩ | (simp only [nz_c]; exact ⟨by omega, by omega⟩)) (by first | exact g3 | (simp only [nz_c]; exact g3) | (rw [(nzE n84)]; exact g3)) (by first | exact ⟨by omega, by omega⟩ | (simp only [nz_c]; exact ⟨by omega, by omega⟩)) (by first | exact g4 | (simp only [nz_c]; exact g4) | (rw [(nzE n85)]; exact g4)) (fun F1 g  => k9 g0 g1 g2 g3 g4 F1 (nz_in0 hB [] (fun j hj hn => g j hj (by simp only [List.mem_cons, List.not_mem_nil, or_false, not_or] at hn; exact trivial)) (List.forall_mem_nil _)) (fun j hj hn => g j hj (by simp only [List.mem_cons, List.not_mem_nil, or_false, not_or] at hn; exact trivial)) )
theorem j3pr_56_p0 {Ls : Nat} {xs : Nat → Int32} {d : Nat} {Q : Option Value → jm_h → Prop} (hd : 1 ≤ d) (F : Nat → sy_d) (X1 X2 : List jm_c) (hB : iv_in F iv_B0)
    (h0 : 0 ≤ (sy_i F 82).toInt ∧ (sy_i F 82).toInt < 7)
    (k : ∀ F1 : Nat → sy_d, (∀ j, j < 82 → j ≠ 57 → F1 j = F j) → F1 57 = .inr (.inl (jm_upd (sy_ai F 57) (sy_i F 82).toNatClampNeg (sy_i F 83))) → Q (some (.int ((1 : Int32)))) (sy_dh F1 X1 X2 (iv_H 3))) :
    hd_W Ls xs d jm_M89 Q (56, sy_dL F [some (.inl (.ref 8)), some (.inr (.inl 82)), none, some (.inr (.inl 83))], sy_dS F [], sy_dh F X1 X2 (iv_H 3), 0, 0) := by
  refine hd_ret (s := 3) (nv := 84) (v := some (.inl (.int 1))) (uh := hd_ov (iv_id 0 iv_B0) [(57, .inr (.inr (.inl 84)))]) (f := false) (sp := []) (d0 := 0) (O := []) (T := [(40, [.inr (.inl 82), .inr (.inl 83)], [.inr (.inl 57)])]) (P := [(6, .inr (.inl 82), .inl (.ref 7))]) jm_ok89 (by decide +kernel) (by decide +kernel) hd F X1 X2 (fun F' hF hs => ?_)
  have b82 := hd_b (F := F) (F' := F') (k := 82) (hF 82 (by decide))
  have b83 := hd_b (F := F) (F' := F') (k := 83) (hF 83 (by decide))
  have a57 := hd_ba (F := F) (F' := F') (k := 57) (hF 57 (by decide))
  have t84 : sy_da F' (.inr (.inl 84)) = .inl (jm_upd (sy_ai F 57) (sy_i F 82).toNatClampNeg (sy_i F 83)) := hd_up (hs 0 _ rfl) b82 b83 a57
  have hB' : iv_in F' iv_B0 := iv_in_eq hB (fun j hj => hF j (Nat.lt_of_lt_of_le hj (by decide +kernel)))
  refine ⟨List.forall_mem_cons.mpr ⟨hd_pb b82 (by first | exact h0 | exact h0), fun _ h => absurd h List.not_mem_nil⟩, ?_⟩
  refine k _ ?_ ?_
  · exact fun j hj hn => (hd_keep hB' (Nat.lt_of_lt_of_le hj (by decide +kernel)) (by simp; omega)).trans (hF j (Nat.lt_of_lt_of_le hj (by decide)))
  · exact hd_ga (a := .inr (.inl 84)) (by decide +kernel) t84
theorem j3pr_56 {Ls : Nat} {xs : Nat → Int32} {d : Nat} {Q : Option Value → jm_h → Prop} (hd : 1 ≤ d) (F : Nat → sy_d) (X1 X2 : List jm_c) (hB : iv_in F iv_B0)
    (a82 : 0 ≤ (sy_i F 82).toInt ∧ (sy_i F 82).toInt ≤ 6)
    (a83 : 0 ≤ (sy_i F 83).toInt ∧ (sy_i F 83).toInt ≤ 1)
    (k0 : ∀ F1 : Nat → sy_d, iv_in F1 iv_B0 → (∀ j, j < 82 → j ∉ ([57] : List Nat) → F1 j = F j) → sy_ai F1 57 = jm_upd (sy_ai F 57) ((sy_i F 82).toInt).toNat (sy_i F 83) → Q (some (.int ((1 : Int32)))) (sy_dh F1 X1 X2 (iv_H 3))) :
    hd_W Ls xs d jm_M89 Q (56, sy_dL F [some (.inl (.ref 8)), some (.inr (.inl 82)), none, some (.inr (.inl 83))], sy_dS F [], sy_dh F X1 X2 (iv_H 3), 0, 0) := by
  have w84 : jm_upd (sy_ai F 57) (sy_i F 82).toNatClampNeg (sy_i F 83) = jm_upd (sy_ai F 57) ((sy_i F 82).toInt).toNat (sy_i F 83) := by simp only [nz_c]
  exact j3pr_56_p0 hd F X1 X2 hB (by first | exact ⟨by omega, by omega⟩ | (simp only [nz_c]; exact ⟨by omega, by omega⟩)) (fun F1 g e57 => k0 F1 (nz_in0 hB [57] (fun j hj hn => g j hj (by simp only [List.mem_cons, List.not_mem_nil, or_false, not_or] at hn; omega)) (List.forall_mem_cons.mpr ⟨fun t ht => (Option.some.inj ht) ▸ (nz_hz2 e57), List.forall_mem_nil _⟩)) (fun j hj hn => g j hj (by simp only [List.mem_cons, List.not_mem_nil, or_false, not_or] at hn; omega)) ((zz_ai e57).trans w84))
end
section
/-! ===== undo, hold, restore, go on the class's side (shape 3) ===== -/
section CH3
variable {Ls : Nat} {xs : Nat → Int32} {nf nb : Nat} {g : gS} (F : Nat → sy_d) (X1 X2 : List jm_c)
theorem j3un_V0 (hB : iv_in F iv_B0) (hT : trC nf nb F []) : jm_T Ls xs 3 jm_M92 [.ref 8] (sy_dh F X1 X2 (iv_H 3)) 0 0 (pI 3 X1 X2 (fun x F' => x = 0 ∧ qC [] F F')) := by
  refine hd_T (As := [.inl (.ref 8)]) jm_ok92 (by decide) (j3un_0 (by decide) F X1 X2 hB ?_)
  intro F1 hb gg
  have q1 : qC [] F F1 := qq_mk hb gg (by decide)
  refine hd_calI (R := fun x F' => x = 0 ∧ qC [] F1 F') (nh := 82) (nv := 82) (s := 3) (s1 := 3) (d1 := 2) (M1 := jm_M79) (As := [.inl (.ref 66), .inl (.ref 46)]) (rest := []) jm_ok92 rfl rfl (by decide) (by decide +kernel) (j3st_V0 F1 X1 X2 hb (trC_eq hT (gg 74 (by decide) (by decide)) (gg 75 (by decide) (by decide)) (gg 76 (by decide) (by decide)))) (fun F3 F' x hR p1 p2 p3 => ?_)
  obtain ⟨r1, r2⟩ := hR
  have r2' : qC [] F1 F3 := qC_dst r2 p1
  have k82 : sy_i F3 82 = 0 := (zz_i p3).trans r1
  refine j3un_11 (by decide) F3 X1 X2 r2'.1 (Or.inl (by rw [k82]; rfl)) ?_
  intro F4 hb4 g4
  exact ⟨_, F4, rfl, rfl, k82, qq_on (qq_trans q1 r2') hb4 g4 (by decide)⟩
theorem j3un_V1 (hB : iv_in F iv_B0) (hf : nf ≤ 7) (hb : nb ≤ 4) {U : List gS} (hT : trC nf nb F (g :: U)) : jm_T Ls xs 3 jm_M92 [.ref 8] (sy_dh F X1 X2 (iv_H 3)) 0 0 (pI 3 X1 X2 (fun x F' => x = 1 ∧ qC (75 :: [50, 51, 52, 53, 54, 55, 56, 57, 58, 59, 60, 61]) F F' ∧ trC nf nb F' U ∧ gC 50 nf nb F' g)) := by
  refine hd_T (As := [.inl (.ref 8)]) jm_ok92 (by decide) (j3un_0 (by decide) F X1 X2 hB ?_)
  intro F1 hb1 gg
  have q1 : qC [] F F1 := qq_mk hb1 gg (by decide)
  refine hd_calI (R := fun x F' => x = 1 ∧ qC (75 :: [50, 51, 52, 53, 54, 55, 56, 57, 58, 59, 60, 61]) F1 F' ∧ trC nf nb F' U ∧ gC 50 nf nb F' g) (nh := 82) (nv := 82) (s := 3) (s1 := 3) (d1 := 2) (M1 := jm_M79) (As := [.inl (.ref 66), .inl (.ref 46)]) (rest := []) jm_ok92 rfl rfl (by decide) (by decide +kernel) (j3st_V1 F1 X1 X2 hb1 hf hb (trC_eq hT (gg 74 (by decide) (by decide)) (gg 75 (by decide) (by decide)) (gg 76 (by decide) (by decide)))) (fun F3 F' x hR p1 p2 p3 => ?_)
  obtain ⟨r1, r2, r3, r4⟩ := hR
  have r2' : qC (75 :: [50, 51, 52, 53, 54, 55, 56, 57, 58, 59, 60, 61]) F1 F3 := qC_dst r2 p1
  have k82 : sy_i F3 82 = 1 := (zz_i p3).trans r1
  refine j3un_11 (by decide) F3 X1 X2 r2'.1 (Or.inr (by rw [k82]; rfl)) ?_
  intro F4 hb4 g4
  have f4 : ∀ j, j < 82 → F4 j = F' j := fun j hj => (g4 j hj (by simp)).trans (p1 j hj)
  exact ⟨_, F4, rfl, rfl, k82, qq_on (qq_trans (qq_up q1 (by decide)) r2') hb4 g4 (by decide), trC_eq r3 (f4 74 (by decide)) (f4 75 (by decide)) (f4 76 (by decide)), gC_eq r4 (fun j h1 h2 => f4 j (by omega))⟩
theorem j3hd_V (hB : iv_in F iv_B0) (hf : nf ≤ 7) (hb : nb ≤ 4) (hg : gC 50 nf nb F g) {H : Nat → gS} (hH : hlC nf nb F H) (v : Int32) : jm_T Ls xs 2 jm_M113 [.ref 8, .int v] (sy_dh F X1 X2 (iv_H 3)) 0 0 (pI 3 X1 X2 (fun x F' => (¬ (0 ≤ v.toInt ∧ v.toInt ≤ 2) → x = 0 ∧ qC [] F F') ∧ (0 ≤ v.toInt ∧ v.toInt ≤ 2 → x = 1 ∧ qC [77, 78] F F' ∧ hlC nf nb F' (fun j => if j = v.toInt.toNat then g else H j) ∧ sy_ai F' 78 = jm_upd (sy_ai F 78) v.toInt.toNat 1))) := by
  refine C_T (by decide) [v] [.inl (.ref 8), .inr (.inl 82)] jm_ok113 (by decide) rfl (fun F0 k0 ki => ?_)
  have i82 : sy_i F0 82 = v := ki 0
  refine j3hd_0 (by decide) F0 X1 X2 (hd_iveq0 hB k0) ?_ ?_ ?_
  · intro c0 F1 hb1 gg
    rw [i82] at c0
    exact ⟨_, F1, rfl, rfl, fun _ => ⟨rfl, qq_src (qq_mk hb1 gg (by decide)) k0⟩, fun h => absurd h (by omega)⟩
  · intro c0 c1 F1 hb1 gg
    rw [i82] at c0 c1
    exact ⟨_, F1, rfl, rfl, fun _ => ⟨rfl, qq_src (qq_mk hb1 gg (by decide)) k0⟩, fun h => absurd h (by omega)⟩
  · intro c0 c1 F1 hb1 gg e82 j82 e83 j83
    rw [i82] at c0 c1 e82 e83
    have q1 : qC [] F F1 := qq_src (qq_mk hb1 gg (by decide)) k0
    refine hd_calV (R := fun F' => qC [77] F1 F' ∧ svR (sy_ai F' 77) (60 * v.toInt.toNat) F1 50 ∧ ∀ j, j < 60 * v.toInt.toNat ∨ 60 * v.toInt.toNat + 60 ≤ j → (sy_ai F' 77).getD j 0 = (sy_ai F1 77).getD j 0) (nh := 82) (nv := 83) (s := 3) (s1 := 3) (d1 := 1) (M1 := jm_M9) (As := [.inl (.ref 46), .inl (.ref 68), .inr (.inl 83)]) (rest := []) jm_ok113 rfl rfl (by decide) (by decide +kernel) (j3svs_V F1 X1 X2 hb1 (by rw [e83]; omega) (by omega)) (fun F3 F' hR p1 p2 => ?_)
    obtain ⟨r1, r2, r3⟩ := hR
    have r1' : qC [77] F1 F3 := qC_dst r1 p1
    have k82 : (sy_i F3 82).toInt = v.toInt := by rw [nz_fi (p2 82 (by decide) (by decide))]; exact e82
    refine j3hd_26 (by decide) F3 X1 X2 r1'.1 (by omega) ?_
    intro F4 hb4 g4 a78
    rw [k82] at a78
    have h78 : sy_ai F3 78 = sy_ai F 78 := (qq_a r1' (by decide) (by decide)).trans (qq_a q1 (by decide) (by decide))
    have h77 : sy_ai F1 77 = sy_ai F 77 := qq_a q1 (by decide) (by decide)
    have l77 : sy_ai F4 77 = sy_ai F' 77 := (nz_fa (g4 77 (by decide) (by decide))).trans (nz_fa (p1 77 (by decide)))
    rw [h78] at a78
    have g1 : gC 50 nf nb F1 g := gC_eq hg (fun j h1 h2 => q1.2 j (by omega) (by simp))
    refine ⟨_, F4, rfl, rfl, fun h => absurd ⟨c0, c1⟩ h, fun _ => ⟨rfl, qq_on (qq_trans (qq_up q1 (by decide)) (qq_up r1' (by decide))) hb4 g4 (by decide), fun k hk hz => ?_, a78⟩⟩
    rw [l77]
    show svC nf nb _ _ (if k = v.toInt.toNat then g else H k)
    by_cases z : k = v.toInt.toNat
    · rw [if_pos z, z]
      exact svC_of hf hb r2 g1
    · rw [if_neg z]
      rw [a78, jm_upd_at, if_neg z] at hz
      refine svC_eq hf hb (hH k hk hz) (fun j h1 h2 => ?_)
      rw [r3 j (by omega), h77]
theorem j3rs_V (hB : iv_in F iv_B0) (hf : nf ≤ 7) (hb : nb ≤ 4) {H : Nat → gS} (hH : hlC nf nb F H) (v : Int32) : jm_T Ls xs 2 jm_M114 [.ref 8, .int v] (sy_dh F X1 X2 (iv_H 3)) 0 0 (pI 3 X1 X2 (fun x F' => (¬ (0 ≤ v.toInt ∧ v.toInt ≤ 2 ∧ ((sy_ai F 78).getD v.toInt.toNat 0).toInt ≠ 0) → x = 0 ∧ qC [] F F') ∧ (0 ≤ v.toInt ∧ v.toInt ≤ 2 ∧ ((sy_ai F 78).getD v.toInt.toNat 0).toInt ≠ 0 → x = 1 ∧ qC (74 :: 75 :: [50, 51, 52, 53, 54, 55, 56, 57, 58, 59, 60, 61]) F F' ∧ gC 50 nf nb F' (H v.toInt.toNat) ∧ trC nf nb F' []))) := by
  refine C_T (by decide) [v] [.inl (.ref 8), .inr (.inl 82)] jm_ok114 (by decide) rfl (fun F0 k0 ki => ?_)
  have i82 : sy_i F0 82 = v := ki 0
  refine j3rs_0 (by decide) F0 X1 X2 (hd_iveq0 hB k0) ?_ ?_ ?_ ?_
  · intro c0 F1 hb1 gg
    rw [i82] at c0
    exact ⟨_, F1, rfl, rfl, fun _ => ⟨rfl, qq_src (qq_mk hb1 gg (by decide)) k0⟩, fun h => absurd h.1 (by omega)⟩
  · intro c0 c1 F1 hb1 gg
    rw [i82] at c0 c1
    exact ⟨_, F1, rfl, rfl, fun _ => ⟨rfl, qq_src (qq_mk hb1 gg (by decide)) k0⟩, fun h => absurd h.2.1 (by omega)⟩
  · intro c0 c1 c2 F1 hb1 gg e82 j82
    rw [i82] at c0 c1 c2 e82
    rw [nz_fa (k0 78 (by decide))] at c2
    have q1 : qC [] F F1 := qq_src (qq_mk hb1 gg (by decide)) k0
    refine hd_calV (R := fun F' => qC [50, 51, 52, 53, 54, 55, 56, 57, 58, 59, 60, 61] F1 F' ∧ svR (sy_ai F1 77) (60 * v.toInt.toNat) F' 50) (nh := 82) (nv := 82) (s := 3) (s1 := 3) (d1 := 1) (M1 := jm_M10) (As := [.inl (.ref 46), .inl (.ref 68), .inr (.inl 82)]) (rest := []) jm_ok114 rfl rfl (by decide) (by decide +kernel) (j3lds_V F1 X1 X2 hb1 (by rw [e82]; omega) (by omega)) (fun F3 F' hR p1 p2 => ?_)
    obtain ⟨r1, r2⟩ := hR
    have r1' : qC [50, 51, 52, 53, 54, 55, 56, 57, 58, 59, 60, 61] F1 F3 := qC_dst r1 p1
    refine j3rs_35 (by decide) F3 X1 X2 r1'.1 ?_
    intro F4 hb4 g4 e74 j74 e75 j75
    have h77 : sy_ai F1 77 = sy_ai F 77 := qq_a q1 (by decide) (by decide)
    rw [h77] at r2
    exact ⟨_, F4, rfl, rfl, fun h => absurd ⟨c0, c1, c2⟩ h, fun _ => ⟨rfl, qq_on (qq_trans (qq_up q1 (by decide)) (qq_up r1' (by decide))) hb4 g4 (by decide), gC_eq (gC_of hf hb r2 (hH _ (by omega) c2)) (fun j h1 h2 => (g4 j (by omega) (by simp; omega)).trans (p1 j (by omega))), ⟨0, by decide, by decide, e74, e75, trivial⟩⟩⟩
  · intro c0 c1 c2 F1 hb1 gg
    rw [i82] at c0 c1 c2
    rw [nz_fa (k0 78 (by decide))] at c2
    exact ⟨_, F1, rfl, rfl, fun _ => ⟨rfl, qq_src (qq_mk hb1 gg (by decide)) k0⟩, fun h => absurd c2 h.2.2⟩
end CH3
end
section
/-! ===== go, prop on the class's side (shape 0) ===== -/
section GP0
variable {Ls : Nat} {xs : Nat → Int32} {T : tX} {g : gS} (F : Nat → sy_d) (X1 X2 : List jm_c)
theorem j0go_V (hC : xC 3 T F) (hg : gC 50 (nfS T) (nbS T) F g) {U : List gS} (hT : trC (nfS T) (nbS T) F U) (b v : Int32) : jm_T Ls xs 3 jm_M88 [.ref 8, .int b, .int v] (sy_dh F X1 X2 (iv_H 0)) 0 0 (pI 0 X1 X2 (fun x F' => (¬ (0 ≤ b.toInt ∧ b.toInt < nbS T ∧ 0 ≤ v.toInt ∧ v.toInt ≤ 9 ∧ g 7 b.toInt.toNat ≠ v) → x = 0 ∧ qC [] F F') ∧ (0 ≤ b.toInt ∧ b.toInt < nbS T ∧ 0 ≤ v.toInt ∧ v.toInt ≤ 9 ∧ g 7 b.toInt.toNat ≠ v → x = 1 ∧ qC [60, 74, 75, 76] F F' ∧ gC 50 (nfS T) (nbS T) F' (upS g 7 b.toInt.toNat v) ∧ trC (nfS T) (nbS T) F' (rmS g U)))) := by
  have l7 : nfS T ≤ 7 := hC.2.2.1.1.1
  have l4 : nbS T ≤ 4 := hC.2.2.1.1.2.1
  have enb : (sy_i F 4).toInt = (nbS T : Int) := hC.2.1.2.1.1
  refine C_T (by decide) [b, v] [.inl (.ref 8), .inr (.inl 82), .inr (.inl 83)] jm_ok88 (by decide) rfl (fun F0 k0 ki => ?_)
  have i82 : sy_i F0 82 = b := ki 0
  have i83 : sy_i F0 83 = v := ki 1
  have enb0 : (sy_i F0 4).toInt = (nbS T : Int) := by rw [nz_fi (k0 4 (by decide))]; exact enb
  have rd : b.toInt.toNat < nbS T → ((sy_ai F0 60).getD b.toInt.toNat 0) = g 7 b.toInt.toNat := fun h => by
    rw [nz_fa (k0 60 (by decide))]
    exact hg.1 7 _ (by decide) (Or.inr (Or.inl ⟨Or.inl rfl, h⟩))
  refine j0go_0 (by decide) F0 X1 X2 (hd_iveq0 hC.1 k0) ?_ ?_ ?_ ?_ ?_ ?_
  · intro c0 F1 hb1 gg
    rw [i82] at c0
    exact ⟨_, F1, rfl, rfl, fun _ => ⟨rfl, qq_src (qq_mk hb1 gg (by decide)) k0⟩, fun h => absurd h.1 (by omega)⟩
  · intro c0 c1 F1 hb1 gg
    rw [i82] at c0 c1
    exact ⟨_, F1, rfl, rfl, fun _ => ⟨rfl, qq_src (qq_mk hb1 gg (by decide)) k0⟩, fun h => absurd h.2.1 (by omega)⟩
  · intro c0 c1 c2 F1 hb1 gg
    rw [i83] at c2
    exact ⟨_, F1, rfl, rfl, fun _ => ⟨rfl, qq_src (qq_mk hb1 gg (by decide)) k0⟩, fun h => absurd h.2.2.1 (by omega)⟩
  · intro c0 c1 c2 c3 F1 hb1 gg
    rw [i83] at c2 c3
    exact ⟨_, F1, rfl, rfl, fun _ => ⟨rfl, qq_src (qq_mk hb1 gg (by decide)) k0⟩, fun h => absurd h.2.2.2.1 (by omega)⟩
  · intro c0 c1 c2 c3 c4 F1 hb1 gg e82 j82 e83 j83
    rw [i82] at c0 c1 c4 j82
    rw [i83] at c2 c3 c4 j83
    have hlt : b.toInt.toNat < nbS T := by omega
    rw [rd hlt] at c4
    have hne : g 7 b.toInt.toNat ≠ v := fun z => c4 (congrArg Int32.toInt z)
    have q1 : qC [] F F1 := qq_src (qq_mk hb1 gg (by decide)) k0
    have f1 : ∀ j, j < 82 → F1 j = F j := fun j hj => q1.2 j hj (by simp)
    refine hd_calV (R := fun F' => qC [74, 75, 76] F1 F' ∧ trC (nfS T) (nbS T) F' (rmS g U)) (nh := 82) (nv := 84) (s := 0) (s1 := 0) (d1 := 2) (M1 := jm_M78) (As := [.inl (.ref 66), .inl (.ref 46)]) (rest := []) jm_ok88 rfl rfl (by decide) (by decide +kernel) (j0re_V F1 X1 X2 hb1 l7 l4 (gC_eq hg (fun j h1 h2 => f1 j (by omega))) (trC_eq hT (f1 74 (by decide)) (f1 75 (by decide)) (f1 76 (by decide)))) (fun F3 F' hR p1 p2 => ?_)
    obtain ⟨r1, r2⟩ := hR
    have r1' : qC [74, 75, 76] F1 F3 := qC_dst r1 p1
    have k82 : sy_i F3 82 = b := (eI (p2 82 (by decide) (by decide))).trans j82
    have k83 : sy_i F3 83 = v := (eI (p2 83 (by decide) (by decide))).trans j83
    refine j0go_44 (by decide) F3 X1 X2 r1'.1 (by rw [k82]; omega) (by rw [k83]; omega) ?_
    intro F4 hb4 g4 a60
    rw [k82, k83] at a60
    have f3 : ∀ j, 50 ≤ j → j < 62 → F3 j = F j := fun j h1 h2 => (r1'.2 j (by omega) (by simp; omega)).trans (f1 j (by omega))
    exact ⟨_, F4, rfl, rfl, fun h => absurd ⟨c0, by omega, c2, c3, hne⟩ h, fun _ => ⟨rfl, qq_on (qq_trans (qq_up q1 (by decide)) (qq_up r1' (by decide))) hb4 g4 (by decide), gC_up (gC_eq hg (fun j h1 h2 => f3 j h1 (by omega))) (by decide) rfl a60 (fun j h1 h2 h3 => g4 j (by omega) (by intro z; simp at z; exact h3 z)), trC_eq r2 ((g4 74 (by decide) (by decide)).trans (p1 74 (by decide))) ((g4 75 (by decide) (by decide)).trans (p1 75 (by decide))) ((g4 76 (by decide) (by decide)).trans (p1 76 (by decide)))⟩⟩
  · intro c0 c1 c2 c3 c4 F1 hb1 gg
    rw [i82] at c0 c1 c4
    rw [i83] at c4
    have hlt : b.toInt.toNat < nbS T := by omega
    rw [rd hlt] at c4
    have heq : g 7 b.toInt.toNat = v := Int32.toInt_inj.mp c4
    exact ⟨_, F1, rfl, rfl, fun _ => ⟨rfl, qq_src (qq_mk hb1 gg (by decide)) k0⟩, fun h => absurd heq h.2.2.2.2⟩
end GP0
end
section
/-! ===== go, prop on the class's side (shape 1) ===== -/
section GP1
variable {Ls : Nat} {xs : Nat → Int32} {T : tX} {g : gS} (F : Nat → sy_d) (X1 X2 : List jm_c)
theorem j1go_V (hC : xC 3 T F) (hg : gC 50 (nfS T) (nbS T) F g) {U : List gS} (hT : trC (nfS T) (nbS T) F U) (b v : Int32) : jm_T Ls xs 3 jm_M88 [.ref 8, .int b, .int v] (sy_dh F X1 X2 (iv_H 1)) 0 0 (pI 1 X1 X2 (fun x F' => (¬ (0 ≤ b.toInt ∧ b.toInt < nbS T ∧ 0 ≤ v.toInt ∧ v.toInt ≤ 9 ∧ g 7 b.toInt.toNat ≠ v) → x = 0 ∧ qC [] F F') ∧ (0 ≤ b.toInt ∧ b.toInt < nbS T ∧ 0 ≤ v.toInt ∧ v.toInt ≤ 9 ∧ g 7 b.toInt.toNat ≠ v → x = 1 ∧ qC [60, 74, 75, 76] F F' ∧ gC 50 (nfS T) (nbS T) F' (upS g 7 b.toInt.toNat v) ∧ trC (nfS T) (nbS T) F' (rmS g U)))) := by
  have l7 : nfS T ≤ 7 := hC.2.2.1.1.1
  have l4 : nbS T ≤ 4 := hC.2.2.1.1.2.1
  have enb : (sy_i F 4).toInt = (nbS T : Int) := hC.2.1.2.1.1
  refine C_T (by decide) [b, v] [.inl (.ref 8), .inr (.inl 82), .inr (.inl 83)] jm_ok88 (by decide) rfl (fun F0 k0 ki => ?_)
  have i82 : sy_i F0 82 = b := ki 0
  have i83 : sy_i F0 83 = v := ki 1
  have enb0 : (sy_i F0 4).toInt = (nbS T : Int) := by rw [nz_fi (k0 4 (by decide))]; exact enb
  have rd : b.toInt.toNat < nbS T → ((sy_ai F0 60).getD b.toInt.toNat 0) = g 7 b.toInt.toNat := fun h => by
    rw [nz_fa (k0 60 (by decide))]
    exact hg.1 7 _ (by decide) (Or.inr (Or.inl ⟨Or.inl rfl, h⟩))
  refine j1go_0 (by decide) F0 X1 X2 (hd_iveq0 hC.1 k0) ?_ ?_ ?_ ?_ ?_ ?_
  · intro c0 F1 hb1 gg
    rw [i82] at c0
    exact ⟨_, F1, rfl, rfl, fun _ => ⟨rfl, qq_src (qq_mk hb1 gg (by decide)) k0⟩, fun h => absurd h.1 (by omega)⟩
  · intro c0 c1 F1 hb1 gg
    rw [i82] at c0 c1
    exact ⟨_, F1, rfl, rfl, fun _ => ⟨rfl, qq_src (qq_mk hb1 gg (by decide)) k0⟩, fun h => absurd h.2.1 (by omega)⟩
  · intro c0 c1 c2 F1 hb1 gg
    rw [i83] at c2
    exact ⟨_, F1, rfl, rfl, fun _ => ⟨rfl, qq_src (qq_mk hb1 gg (by decide)) k0⟩, fun h => absurd h.2.2.1 (by omega)⟩
  · intro c0 c1 c2 c3 F1 hb1 gg
    rw [i83] at c2 c3
    exact ⟨_, F1, rfl, rfl, fun _ => ⟨rfl, qq_src (qq_mk hb1 gg (by decide)) k0⟩, fun h => absurd h.2.2.2.1 (by omega)⟩
  · intro c0 c1 c2 c3 c4 F1 hb1 gg e82 j82 e83 j83
    rw [i82] at c0 c1 c4 j82
    rw [i83] at c2 c3 c4 j83
    have hlt : b.toInt.toNat < nbS T := by omega
    rw [rd hlt] at c4
    have hne : g 7 b.toInt.toNat ≠ v := fun z => c4 (congrArg Int32.toInt z)
    have q1 : qC [] F F1 := qq_src (qq_mk hb1 gg (by decide)) k0
    have f1 : ∀ j, j < 82 → F1 j = F j := fun j hj => q1.2 j hj (by simp)
    refine hd_calV (R := fun F' => qC [74, 75, 76] F1 F' ∧ trC (nfS T) (nbS T) F' (rmS g U)) (nh := 82) (nv := 84) (s := 1) (s1 := 1) (d1 := 2) (M1 := jm_M78) (As := [.inl (.ref 66), .inl (.ref 46)]) (rest := []) jm_ok88 rfl rfl (by decide) (by decide +kernel) (j1re_V F1 X1 X2 hb1 l7 l4 (gC_eq hg (fun j h1 h2 => f1 j (by omega))) (trC_eq hT (f1 74 (by decide)) (f1 75 (by decide)) (f1 76 (by decide)))) (fun F3 F' hR p1 p2 => ?_)
    obtain ⟨r1, r2⟩ := hR
    have r1' : qC [74, 75, 76] F1 F3 := qC_dst r1 p1
    have k82 : sy_i F3 82 = b := (eI (p2 82 (by decide) (by decide))).trans j82
    have k83 : sy_i F3 83 = v := (eI (p2 83 (by decide) (by decide))).trans j83
    refine j1go_44 (by decide) F3 X1 X2 r1'.1 (by rw [k82]; omega) (by rw [k83]; omega) ?_
    intro F4 hb4 g4 a60
    rw [k82, k83] at a60
    have f3 : ∀ j, 50 ≤ j → j < 62 → F3 j = F j := fun j h1 h2 => (r1'.2 j (by omega) (by simp; omega)).trans (f1 j (by omega))
    exact ⟨_, F4, rfl, rfl, fun h => absurd ⟨c0, by omega, c2, c3, hne⟩ h, fun _ => ⟨rfl, qq_on (qq_trans (qq_up q1 (by decide)) (qq_up r1' (by decide))) hb4 g4 (by decide), gC_up (gC_eq hg (fun j h1 h2 => f3 j h1 (by omega))) (by decide) rfl a60 (fun j h1 h2 h3 => g4 j (by omega) (by intro z; simp at z; exact h3 z)), trC_eq r2 ((g4 74 (by decide) (by decide)).trans (p1 74 (by decide))) ((g4 75 (by decide) (by decide)).trans (p1 75 (by decide))) ((g4 76 (by decide) (by decide)).trans (p1 76 (by decide)))⟩⟩
  · intro c0 c1 c2 c3 c4 F1 hb1 gg
    rw [i82] at c0 c1 c4
    rw [i83] at c4
    have hlt : b.toInt.toNat < nbS T := by omega
    rw [rd hlt] at c4
    have heq : g 7 b.toInt.toNat = v := Int32.toInt_inj.mp c4
    exact ⟨_, F1, rfl, rfl, fun _ => ⟨rfl, qq_src (qq_mk hb1 gg (by decide)) k0⟩, fun h => absurd heq h.2.2.2.2⟩
end GP1
end
section
/-! ===== go, prop on the class's side (shape 2) ===== -/
section GP2
variable {Ls : Nat} {xs : Nat → Int32} {T : tX} {g : gS} (F : Nat → sy_d) (X1 X2 : List jm_c)
theorem j2go_V (hC : xC 18 T F) (hg : gC 50 (nfS T) (nbS T) F g) {U : List gS} (hT : trC (nfS T) (nbS T) F U) (b v : Int32) : jm_T Ls xs 3 jm_M88 [.ref 8, .int b, .int v] (sy_dh F X1 X2 (iv_H 2)) 0 0 (pI 2 X1 X2 (fun x F' => (¬ (0 ≤ b.toInt ∧ b.toInt < nbS T ∧ 0 ≤ v.toInt ∧ v.toInt ≤ 9 ∧ g 7 b.toInt.toNat ≠ v) → x = 0 ∧ qC [] F F') ∧ (0 ≤ b.toInt ∧ b.toInt < nbS T ∧ 0 ≤ v.toInt ∧ v.toInt ≤ 9 ∧ g 7 b.toInt.toNat ≠ v → x = 1 ∧ qC [60, 74, 75, 76] F F' ∧ gC 50 (nfS T) (nbS T) F' (upS g 7 b.toInt.toNat v) ∧ trC (nfS T) (nbS T) F' (rmS g U)))) := by
  have l7 : nfS T ≤ 7 := hC.2.2.1.1.1
  have l4 : nbS T ≤ 4 := hC.2.2.1.1.2.1
  have enb : (sy_i F 19).toInt = (nbS T : Int) := hC.2.1.2.1.1
  refine C_T (by decide) [b, v] [.inl (.ref 8), .inr (.inl 82), .inr (.inl 83)] jm_ok88 (by decide) rfl (fun F0 k0 ki => ?_)
  have i82 : sy_i F0 82 = b := ki 0
  have i83 : sy_i F0 83 = v := ki 1
  have enb0 : (sy_i F0 19).toInt = (nbS T : Int) := by rw [nz_fi (k0 19 (by decide))]; exact enb
  have rd : b.toInt.toNat < nbS T → ((sy_ai F0 60).getD b.toInt.toNat 0) = g 7 b.toInt.toNat := fun h => by
    rw [nz_fa (k0 60 (by decide))]
    exact hg.1 7 _ (by decide) (Or.inr (Or.inl ⟨Or.inl rfl, h⟩))
  refine j2go_0 (by decide) F0 X1 X2 (hd_iveq0 hC.1 k0) ?_ ?_ ?_ ?_ ?_ ?_
  · intro c0 F1 hb1 gg
    rw [i82] at c0
    exact ⟨_, F1, rfl, rfl, fun _ => ⟨rfl, qq_src (qq_mk hb1 gg (by decide)) k0⟩, fun h => absurd h.1 (by omega)⟩
  · intro c0 c1 F1 hb1 gg
    rw [i82] at c0 c1
    exact ⟨_, F1, rfl, rfl, fun _ => ⟨rfl, qq_src (qq_mk hb1 gg (by decide)) k0⟩, fun h => absurd h.2.1 (by omega)⟩
  · intro c0 c1 c2 F1 hb1 gg
    rw [i83] at c2
    exact ⟨_, F1, rfl, rfl, fun _ => ⟨rfl, qq_src (qq_mk hb1 gg (by decide)) k0⟩, fun h => absurd h.2.2.1 (by omega)⟩
  · intro c0 c1 c2 c3 F1 hb1 gg
    rw [i83] at c2 c3
    exact ⟨_, F1, rfl, rfl, fun _ => ⟨rfl, qq_src (qq_mk hb1 gg (by decide)) k0⟩, fun h => absurd h.2.2.2.1 (by omega)⟩
  · intro c0 c1 c2 c3 c4 F1 hb1 gg e82 j82 e83 j83
    rw [i82] at c0 c1 c4 j82
    rw [i83] at c2 c3 c4 j83
    have hlt : b.toInt.toNat < nbS T := by omega
    rw [rd hlt] at c4
    have hne : g 7 b.toInt.toNat ≠ v := fun z => c4 (congrArg Int32.toInt z)
    have q1 : qC [] F F1 := qq_src (qq_mk hb1 gg (by decide)) k0
    have f1 : ∀ j, j < 82 → F1 j = F j := fun j hj => q1.2 j hj (by simp)
    refine hd_calV (R := fun F' => qC [74, 75, 76] F1 F' ∧ trC (nfS T) (nbS T) F' (rmS g U)) (nh := 82) (nv := 84) (s := 2) (s1 := 2) (d1 := 2) (M1 := jm_M78) (As := [.inl (.ref 66), .inl (.ref 46)]) (rest := []) jm_ok88 rfl rfl (by decide) (by decide +kernel) (j2re_V F1 X1 X2 hb1 l7 l4 (gC_eq hg (fun j h1 h2 => f1 j (by omega))) (trC_eq hT (f1 74 (by decide)) (f1 75 (by decide)) (f1 76 (by decide)))) (fun F3 F' hR p1 p2 => ?_)
    obtain ⟨r1, r2⟩ := hR
    have r1' : qC [74, 75, 76] F1 F3 := qC_dst r1 p1
    have k82 : sy_i F3 82 = b := (eI (p2 82 (by decide) (by decide))).trans j82
    have k83 : sy_i F3 83 = v := (eI (p2 83 (by decide) (by decide))).trans j83
    refine j2go_44 (by decide) F3 X1 X2 r1'.1 (by rw [k82]; omega) (by rw [k83]; omega) ?_
    intro F4 hb4 g4 a60
    rw [k82, k83] at a60
    have f3 : ∀ j, 50 ≤ j → j < 62 → F3 j = F j := fun j h1 h2 => (r1'.2 j (by omega) (by simp; omega)).trans (f1 j (by omega))
    exact ⟨_, F4, rfl, rfl, fun h => absurd ⟨c0, by omega, c2, c3, hne⟩ h, fun _ => ⟨rfl, qq_on (qq_trans (qq_up q1 (by decide)) (qq_up r1' (by decide))) hb4 g4 (by decide), gC_up (gC_eq hg (fun j h1 h2 => f3 j h1 (by omega))) (by decide) rfl a60 (fun j h1 h2 h3 => g4 j (by omega) (by intro z; simp at z; exact h3 z)), trC_eq r2 ((g4 74 (by decide) (by decide)).trans (p1 74 (by decide))) ((g4 75 (by decide) (by decide)).trans (p1 75 (by decide))) ((g4 76 (by decide) (by decide)).trans (p1 76 (by decide)))⟩⟩
  · intro c0 c1 c2 c3 c4 F1 hb1 gg
    rw [i82] at c0 c1 c4
    rw [i83] at c4
    have hlt : b.toInt.toNat < nbS T := by omega
    rw [rd hlt] at c4
    have heq : g 7 b.toInt.toNat = v := Int32.toInt_inj.mp c4
    exact ⟨_, F1, rfl, rfl, fun _ => ⟨rfl, qq_src (qq_mk hb1 gg (by decide)) k0⟩, fun h => absurd heq h.2.2.2.2⟩
end GP2
end
section
/-! ===== go, prop on the class's side (shape 3) ===== -/
section GP3
variable {Ls : Nat} {xs : Nat → Int32} {T : tX} {g : gS} (F : Nat → sy_d) (X1 X2 : List jm_c)
theorem j3go_V (hC : xC 18 T F) (hg : gC 50 (nfS T) (nbS T) F g) {U : List gS} (hT : trC (nfS T) (nbS T) F U) (b v : Int32) : jm_T Ls xs 3 jm_M88 [.ref 8, .int b, .int v] (sy_dh F X1 X2 (iv_H 3)) 0 0 (pI 3 X1 X2 (fun x F' => (¬ (0 ≤ b.toInt ∧ b.toInt < nbS T ∧ 0 ≤ v.toInt ∧ v.toInt ≤ 9 ∧ g 7 b.toInt.toNat ≠ v) → x = 0 ∧ qC [] F F') ∧ (0 ≤ b.toInt ∧ b.toInt < nbS T ∧ 0 ≤ v.toInt ∧ v.toInt ≤ 9 ∧ g 7 b.toInt.toNat ≠ v → x = 1 ∧ qC [60, 74, 75, 76] F F' ∧ gC 50 (nfS T) (nbS T) F' (upS g 7 b.toInt.toNat v) ∧ trC (nfS T) (nbS T) F' (rmS g U)))) := by
  have l7 : nfS T ≤ 7 := hC.2.2.1.1.1
  have l4 : nbS T ≤ 4 := hC.2.2.1.1.2.1
  have enb : (sy_i F 19).toInt = (nbS T : Int) := hC.2.1.2.1.1
  refine C_T (by decide) [b, v] [.inl (.ref 8), .inr (.inl 82), .inr (.inl 83)] jm_ok88 (by decide) rfl (fun F0 k0 ki => ?_)
  have i82 : sy_i F0 82 = b := ki 0
  have i83 : sy_i F0 83 = v := ki 1
  have enb0 : (sy_i F0 19).toInt = (nbS T : Int) := by rw [nz_fi (k0 19 (by decide))]; exact enb
  have rd : b.toInt.toNat < nbS T → ((sy_ai F0 60).getD b.toInt.toNat 0) = g 7 b.toInt.toNat := fun h => by
    rw [nz_fa (k0 60 (by decide))]
    exact hg.1 7 _ (by decide) (Or.inr (Or.inl ⟨Or.inl rfl, h⟩))
  refine j3go_0 (by decide) F0 X1 X2 (hd_iveq0 hC.1 k0) ?_ ?_ ?_ ?_ ?_ ?_
  · intro c0 F1 hb1 gg
    rw [i82] at c0
    exact ⟨_, F1, rfl, rfl, fun _ => ⟨rfl, qq_src (qq_mk hb1 gg (by decide)) k0⟩, fun h => absurd h.1 (by omega)⟩
  · intro c0 c1 F1 hb1 gg
    rw [i82] at c0 c1
    exact ⟨_, F1, rfl, rfl, fun _ => ⟨rfl, qq_src (qq_mk hb1 gg (by decide)) k0⟩, fun h => absurd h.2.1 (by omega)⟩
  · intro c0 c1 c2 F1 hb1 gg
    rw [i83] at c2
    exact ⟨_, F1, rfl, rfl, fun _ => ⟨rfl, qq_src (qq_mk hb1 gg (by decide)) k0⟩, fun h => absurd h.2.2.1 (by omega)⟩
  · intro c0 c1 c2 c3 F1 hb1 gg
    rw [i83] at c2 c3
    exact ⟨_, F1, rfl, rfl, fun _ => ⟨rfl, qq_src (qq_mk hb1 gg (by decide)) k0⟩, fun h => absurd h.2.2.2.1 (by omega)⟩
  · intro c0 c1 c2 c3 c4 F1 hb1 gg e82 j82 e83 j83
    rw [i82] at c0 c1 c4 j82
    rw [i83] at c2 c3 c4 j83
    have hlt : b.toInt.toNat < nbS T := by omega
    rw [rd hlt] at c4
    have hne : g 7 b.toInt.toNat ≠ v := fun z => c4 (congrArg Int32.toInt z)
    have q1 : qC [] F F1 := qq_src (qq_mk hb1 gg (by decide)) k0
    have f1 : ∀ j, j < 82 → F1 j = F j := fun j hj => q1.2 j hj (by simp)
    refine hd_calV (R := fun F' => qC [74, 75, 76] F1 F' ∧ trC (nfS T) (nbS T) F' (rmS g U)) (nh := 82) (nv := 84) (s := 3) (s1 := 3) (d1 := 2) (M1 := jm_M78) (As := [.inl (.ref 66), .inl (.ref 46)]) (rest := []) jm_ok88 rfl rfl (by decide) (by decide +kernel) (j3re_V F1 X1 X2 hb1 l7 l4 (gC_eq hg (fun j h1 h2 => f1 j (by omega))) (trC_eq hT (f1 74 (by decide)) (f1 75 (by decide)) (f1 76 (by decide)))) (fun F3 F' hR p1 p2 => ?_)
    obtain ⟨r1, r2⟩ := hR
    have r1' : qC [74, 75, 76] F1 F3 := qC_dst r1 p1
    have k82 : sy_i F3 82 = b := (eI (p2 82 (by decide) (by decide))).trans j82
    have k83 : sy_i F3 83 = v := (eI (p2 83 (by decide) (by decide))).trans j83
    refine j3go_44 (by decide) F3 X1 X2 r1'.1 (by rw [k82]; omega) (by rw [k83]; omega) ?_
    intro F4 hb4 g4 a60
    rw [k82, k83] at a60
    have f3 : ∀ j, 50 ≤ j → j < 62 → F3 j = F j := fun j h1 h2 => (r1'.2 j (by omega) (by simp; omega)).trans (f1 j (by omega))
    exact ⟨_, F4, rfl, rfl, fun h => absurd ⟨c0, by omega, c2, c3, hne⟩ h, fun _ => ⟨rfl, qq_on (qq_trans (qq_up q1 (by decide)) (qq_up r1' (by decide))) hb4 g4 (by decide), gC_up (gC_eq hg (fun j h1 h2 => f3 j h1 (by omega))) (by decide) rfl a60 (fun j h1 h2 h3 => g4 j (by omega) (by intro z; simp at z; exact h3 z)), trC_eq r2 ((g4 74 (by decide) (by decide)).trans (p1 74 (by decide))) ((g4 75 (by decide) (by decide)).trans (p1 75 (by decide))) ((g4 76 (by decide) (by decide)).trans (p1 76 (by decide)))⟩⟩
  · intro c0 c1 c2 c3 c4 F1 hb1 gg
    rw [i82] at c0 c1 c4
    rw [i83] at c4
    have hlt : b.toInt.toNat < nbS T := by omega
    rw [rd hlt] at c4
    have heq : g 7 b.toInt.toNat = v := Int32.toInt_inj.mp c4
    exact ⟨_, F1, rfl, rfl, fun _ => ⟨rfl, qq_src (qq_mk hb1 gg (by decide)) k0⟩, fun h => absurd heq h.2.2.2.2⟩
end GP3
end
section
/-! ===== shaken, found out ===== -/
noncomputable def fdS (T : tX) (g : gS) : Prop := (lotS (Int32.ofInt T.2.2.2.2.1) ((1000000 : Int32) + g 9 1)).toInt < foundT T (g 9 1 + 1) (Int32.ofInt (wiS T g)) (g 9 0) (lfS T g)
def shkS (g : gS) (f : Nat) : gS := upS (upS g 6 f (g 6 f + 1)) 9 1 (g 9 1 + 1)
def fndS (T : tX) (g : gS) (f : Nat) : gS := upS (upS (shkS g f) 9 2 (g 9 2 + 1)) 9 3 (g 9 3 + Int32.ofInt T.2.2.1)
theorem shkS_2 (g : gS) (f i : Nat) : shkS g f 2 i = g 2 i := by
  unfold shkS
  rw [upS_o (Or.inl (by decide)), upS_o (Or.inl (by decide))]
theorem shkS_9 (g : gS) (f : Nat) : shkS g f 9 0 = g 9 0 ∧ shkS g f 9 1 = g 9 1 + 1 ∧ shkS g f 9 2 = g 9 2 ∧ shkS g f 9 3 = g 9 3 := by
  unfold shkS
  refine ⟨?_, upS_s, ?_, ?_⟩
  · rw [upS_o (Or.inr (by decide)), upS_o (Or.inl (by decide))]
  · rw [upS_o (Or.inr (by decide)), upS_o (Or.inl (by decide))]
  · rw [upS_o (Or.inr (by decide)), upS_o (Or.inl (by decide))]
theorem lf_cg {T : tX} {g g' : gS} (h : ∀ i, i < nfS T → g 2 i = g' 2 i) : lfS T g = lfS T g' := by
  unfold lfS
  rw [mkS_cg (nfS T) h]
theorem lf_shk (T : tX) (g : gS) (f : Nat) : lfS T (shkS g f) = lfS T g := lf_cg (fun i _ => shkS_2 g f i)
theorem gC_93 {o nf nb : Nat} {F : Nat → sy_d} {g : gS} (h : gC o nf nb F g) (v : Int32) : gC o nf nb F (upS g 9 3 v) := by
  refine ⟨fun a i ha hv => ?_, fun i hi => ?_⟩
  · rw [upS_o (Or.inl (by omega))]
    exact h.1 a i ha hv
  · rw [upS_o (Or.inr (by omega))]
    exact h.2 i hi
theorem gC_upn {o nf nb : Nat} {F F1 : Nat → sy_d} {g : gS} (h : gC o nf nb F g) {a i n k : Nat} {v w : Int32} (ha : a ≤ 8) (hn : n = i) (hk : k < 3) (hA : sy_ai F1 (o + ca a) = jm_upd (sy_ai F (o + ca a)) n v) (hN : sy_i F1 (o + k) = w) (e : ∀ j, o ≤ j → j < o + 12 → j ≠ o + ca a → j ≠ o + k → F1 j = F j) : gC o nf nb F1 (upS (upS g a i v) 9 k w) := by
  have hc := ca_in a
  obtain ⟨Fm, hFm⟩ : ∃ Fm : Nat → sy_d, Fm = fun j => if j = o + ca a then F1 j else F j := ⟨_, rfl⟩
  have m1 : Fm (o + ca a) = F1 (o + ca a) := by rw [hFm]; exact if_pos rfl
  have m2 : ∀ j, j ≠ o + ca a → Fm j = F j := fun j hj => by rw [hFm]; exact if_neg hj
  have hm : gC o nf nb Fm (upS g a i v) := gC_up h ha hn (by rw [nz_fa m1]; exact hA) (fun j h1 h2 h3 => m2 j h3)
  refine gC_n hm hk hN (fun j h1 h2 h3 => ?_)
  by_cases q : j = o + ca a
  · rw [q, m1]
  · rw [m2 j q]
    exact e j h1 h2 q h3
end
