/-! ===== the class: the tape, what is told, what is held, way by way (shape 2) ===== -/
theorem k2opl_0_p0 {Ls : Nat} {xs : Nat → Int32} {d : Nat} {Q : Option Value → jm_h → Prop} (hd : 1 ≤ d) (F : Nat → sy_d) (X1 X2 : List jm_c) (hB : iv_in F iv_B0)
    (k : ∀ F1 : Nat → sy_d, (∀ j, j < 82 → True → F1 j = F j) → Q (some (.int (sy_i F 1))) (sy_dh F1 X1 X2 (iv_H 2))) :
    hd_W Ls xs d jm_M84 Q (0, sy_dL F [some (.inl (.ref 8))], sy_dS F [], sy_dh F X1 X2 (iv_H 2), 0, 0) := by
  refine hd_ret (s := 2) (nv := 82) (v := some (.inr (.inl 1))) (uh := hd_ov (iv_id 0 iv_B0) []) (f := true) (sp := []) (d0 := 0) (O := []) (T := []) (P := []) jm_ok84 (by decide +kernel) (by decide +kernel) hd F X1 X2 (fun F' hF hs => ?_)
  have b1 := hd_b (F := F) (F' := F') (k := 1) (hF 1 (by decide))
  have hB' : iv_in F' iv_B0 := iv_in_eq hB (fun j hj => hF j (Nat.lt_of_lt_of_le hj (by decide +kernel)))
  have hk := k (sy_cm F' (hd_ov (iv_id 0 iv_B0) [] ++ [])) (fun j hj _ => (hd_keep hB' (Nat.lt_of_lt_of_le hj (by decide +kernel)) (by simp)).trans (hF j (by omega)))
  refine ⟨fun _ h => absurd h List.not_mem_nil, ?_⟩
  show Q (some (sy_dv F' (.inr (.inl 1)))) _
  rw [b1]
  exact hk
theorem k2opl_0 {Ls : Nat} {xs : Nat → Int32} {d : Nat} {Q : Option Value → jm_h → Prop} (hd : 1 ≤ d) (F : Nat → sy_d) (X1 X2 : List jm_c) (hB : iv_in F iv_B0)
    (k0 : ∀ F1 : Nat → sy_d, iv_in F1 iv_B0 → (∀ j, j < 82 → j ∉ ([] : List Nat) → F1 j = F j) → (sy_i F1 0).toInt = (sy_i F 0).toInt → (sy_i F1 1).toInt = (sy_i F 1).toInt → (sy_i F1 79).toInt = (sy_i F 79).toInt → sy_ai F1 2 = sy_ai F 2 → sy_ai F1 78 = sy_ai F 78 → Q (some (.int (sy_i F 1))) (sy_dh F1 X1 X2 (iv_H 2))) :
    hd_W Ls xs d jm_M84 Q (0, sy_dL F [some (.inl (.ref 8))], sy_dS F [], sy_dh F X1 X2 (iv_H 2), 0, 0) := by
  exact k2opl_0_p0 hd F X1 X2 hB  (fun F1 g  => by rw [(rfl : sy_i F 1 = sy_i F 1)]; exact k0 F1 (nz_in0 hB [] (fun j hj hn => g j hj (by simp only [List.mem_cons, List.not_mem_nil, or_false, not_or] at hn; exact trivial)) (List.forall_mem_nil _)) (fun j hj hn => g j hj (by simp only [List.mem_cons, List.not_mem_nil, or_false, not_or] at hn; exact trivial)) (nz_fi (g 0 (by decide) (by decide))) (nz_fi (g 1 (by decide) (by decide))) (nz_fi (g 79 (by decide) (by decide))) (nz_fa (g 2 (by decide) (by decide))) (nz_fa (g 78 (by decide) (by decide))))
theorem k2obk_0_p0 {Ls : Nat} {xs : Nat → Int32} {d : Nat} {Q : Option Value → jm_h → Prop} (hd : 1 ≤ d) (F : Nat → sy_d) (X1 X2 : List jm_c) (hB : iv_in F iv_B0)
    (h0 : (sy_i F 82).toInt < 0)
    (k : ∀ F1 : Nat → sy_d, (∀ j, j < 82 → True → F1 j = F j) → Q (some (.int (((-1) : Int32)))) (sy_dh F1 X1 X2 (iv_H 2))) :
    hd_W Ls xs d jm_M82 Q (0, sy_dL F [some (.inl (.ref 8)), some (.inr (.inl 82))], sy_dS F [], sy_dh F X1 X2 (iv_H 2), 0, 0) := by
  refine hd_ret (s := 2) (nv := 83) (v := some (.inl (.int (-1)))) (uh := hd_ov (iv_id 0 iv_B0) []) (f := true) (sp := []) (d0 := 0) (O := [true]) (T := []) (P := [(2, .inr (.inl 82), .inl (.int 0))]) jm_ok82 (by decide +kernel) (by decide +kernel) hd F X1 X2 (fun F' hF hs => ?_)
  have b82 := hd_b (F := F) (F' := F') (k := 82) (hF 82 (by decide))
  have hB' : iv_in F' iv_B0 := iv_in_eq hB (fun j hj => hF j (Nat.lt_of_lt_of_le hj (by decide +kernel)))
  refine ⟨List.forall_mem_cons.mpr ⟨hd_p2 b82 rfl (by have hc : ((0) : Int32).toInt = 0 := (by decide); omega), fun _ h => absurd h List.not_mem_nil⟩, ?_⟩
  refine k _ ?_
  · exact fun j hj _ => (hd_keep hB' (Nat.lt_of_lt_of_le hj (by decide +kernel)) (by simp)).trans (hF j (by omega))
theorem k2obk_0_p1 {Ls : Nat} {xs : Nat → Int32} {d : Nat} {Q : Option Value → jm_h → Prop} (hd : 1 ≤ d) (F : Nat → sy_d) (X1 X2 : List jm_c) (hB : iv_in F iv_B0)
    (h0 : 0 ≤ (sy_i F 82).toInt)
    (h1 : (sy_i F 82).toInt ≤ (sy_i F 0).toInt)
    (k : ∀ F1 : Nat → sy_d, (∀ j, j < 82 → j ≠ 0 → F1 j = F j) → F1 0 = .inl (.int ((sy_i F 0) - (sy_i F 82))) → Q (some (.int ((sy_i F 0) - (sy_i F 82)))) (sy_dh F1 X1 X2 (iv_H 2))) :
    hd_W Ls xs d jm_M82 Q (0, sy_dL F [some (.inl (.ref 8)), some (.inr (.inl 82))], sy_dS F [], sy_dh F X1 X2 (iv_H 2), 0, 0) := by
  refine hd_ret (s := 2) (nv := 83) (v := some (.inr (.inl 83))) (uh := hd_ov (iv_id 0 iv_B0) [(0, .inl (.inr (.inl 83)))]) (f := true) (sp := []) (d0 := 0) (O := [false, true]) (T := [(1, [.inr (.inl 0), .inr (.inl 82)], [])]) (P := [(3, .inr (.inl 82), .inl (.int 0)), (4, .inr (.inl 82), .inr (.inl 0))]) jm_ok82 (by decide +kernel) (by decide +kernel) hd F X1 X2 (fun F' hF hs => ?_)
  have b82 := hd_b (F := F) (F' := F') (k := 82) (hF 82 (by decide))
  have b0 := hd_b (F := F) (F' := F') (k := 0) (hF 0 (by decide))
  have t83 : sy_dv F' (.inr (.inl 83)) = .int ((sy_i F 0) - (sy_i F 82)) := hd_o (hs 0 _ rfl) b0 b82 rfl
  have hB' : iv_in F' iv_B0 := iv_in_eq hB (fun j hj => hF j (Nat.lt_of_lt_of_le hj (by decide +kernel)))
  have hk := k (sy_cm F' (hd_ov (iv_id 0 iv_B0) [(0, .inl (.inr (.inl 83)))] ++ [])) (fun j hj hn => (hd_keep hB' (Nat.lt_of_lt_of_le hj (by decide +kernel)) (by simp; omega)).trans (hF j (by omega))) (hd_gi (x := .inr (.inl 83)) (by decide +kernel) t83)
  refine ⟨List.forall_mem_cons.mpr ⟨hd_p3 b82 rfl (by have hc : ((0) : Int32).toInt = 0 := (by decide); omega), List.forall_mem_cons.mpr ⟨hd_p4 b82 b0 h1, fun _ h => absurd h List.not_mem_nil⟩⟩, ?_⟩
  show Q (some (sy_dv F' (.inr (.inl 83)))) _
  rw [t83]
  exact hk
theorem k2obk_0_p2 {Ls : Nat} {xs : Nat → Int32} {d : Nat} {Q : Option Value → jm_h → Prop} (hd : 1 ≤ d) (F : Nat → sy_d) (X1 X2 : List jm_c) (hB : iv_in F iv_B0)
    (h0 : 0 ≤ (sy_i F 82).toInt)
    (h1 : (sy_i F 0).toInt < (sy_i F 82).toInt)
    (k : ∀ F1 : Nat → sy_d, (∀ j, j < 82 → True → F1 j = F j) → Q (some (.int (((-1) : Int32)))) (sy_dh F1 X1 X2 (iv_H 2))) :
    hd_W Ls xs d jm_M82 Q (0, sy_dL F [some (.inl (.ref 8)), some (.inr (.inl 82))], sy_dS F [], sy_dh F X1 X2 (iv_H 2), 0, 0) := by
  refine hd_ret (s := 2) (nv := 83) (v := some (.inl (.int (-1)))) (uh := hd_ov (iv_id 0 iv_B0) []) (f := true) (sp := []) (d0 := 0) (O := [false, false]) (T := []) (P := [(3, .inr (.inl 82), .inl (.int 0)), (5, .inr (.inl 82), .inr (.inl 0))]) jm_ok82 (by decide +kernel) (by decide +kernel) hd F X1 X2 (fun F' hF hs => ?_)
  have b82 := hd_b (F := F) (F' := F') (k := 82) (hF 82 (by decide))
  have b0 := hd_b (F := F) (F' := F') (k := 0) (hF 0 (by decide))
  have hB' : iv_in F' iv_B0 := iv_in_eq hB (fun j hj => hF j (Nat.lt_of_lt_of_le hj (by decide +kernel)))
  refine ⟨List.forall_mem_cons.mpr ⟨hd_p3 b82 rfl (by have hc : ((0) : Int32).toInt = 0 := (by decide); omega), List.forall_mem_cons.mpr ⟨hd_p5 b82 b0 h1, fun _ h => absurd h List.not_mem_nil⟩⟩, ?_⟩
  refine k _ ?_
  · exact fun j hj _ => (hd_keep hB' (Nat.lt_of_lt_of_le hj (by decide +kernel)) (by simp)).trans (hF j (by omega))
theorem k2obk_0 {Ls : Nat} {xs : Nat → Int32} {d : Nat} {Q : Option Value → jm_h → Prop} (hd : 1 ≤ d) (F : Nat → sy_d) (X1 X2 : List jm_c) (hB : iv_in F iv_B0)
    (o0 : 0 ≤ (sy_i F 82).toInt → (sy_i F 82).toInt ≤ (sy_i F 0).toInt → (0 ≤ ((sy_i F 0).toInt - (sy_i F 82).toInt) ∧ ((sy_i F 0).toInt - (sy_i F 82).toInt) ≤ 2000))
    (k0 : (sy_i F 82).toInt < 0 → ∀ F1 : Nat → sy_d, iv_in F1 iv_B0 → (∀ j, j < 82 → j ∉ ([] : List Nat) → F1 j = F j) → (sy_i F1 0).toInt = (sy_i F 0).toInt → (sy_i F1 1).toInt = (sy_i F 1).toInt → (sy_i F1 79).toInt = (sy_i F 79).toInt → sy_ai F1 2 = sy_ai F 2 → sy_ai F1 78 = sy_ai F 78 → Q (some (.int (((-1) : Int32)))) (sy_dh F1 X1 X2 (iv_H 2)))
    (k1 : 0 ≤ (sy_i F 82).toInt → (sy_i F 82).toInt ≤ (sy_i F 0).toInt → ∀ F1 : Nat → sy_d, iv_in F1 iv_B0 → (∀ j, j < 82 → j ∉ ([0] : List Nat) → F1 j = F j) → (sy_i F1 0).toInt = ((sy_i F 0).toInt - (sy_i F 82).toInt) → (sy_i F1 1).toInt = (sy_i F 1).toInt → (sy_i F1 79).toInt = (sy_i F 79).toInt → sy_ai F1 2 = sy_ai F 2 → sy_ai F1 78 = sy_ai F 78 → Q (some (.int ((sy_i F 0) - (sy_i F 82)))) (sy_dh F1 X1 X2 (iv_H 2)))
    (k2 : 0 ≤ (sy_i F 82).toInt → (sy_i F 0).toInt < (sy_i F 82).toInt → ∀ F1 : Nat → sy_d, iv_in F1 iv_B0 → (∀ j, j < 82 → j ∉ ([] : List Nat) → F1 j = F j) → (sy_i F1 0).toInt = (sy_i F 0).toInt → (sy_i F1 1).toInt = (sy_i F 1).toInt → (sy_i F1 79).toInt = (sy_i F 79).toInt → sy_ai F1 2 = sy_ai F 2 → sy_ai F1 78 = sy_ai F 78 → Q (some (.int (((-1) : Int32)))) (sy_dh F1 X1 X2 (iv_H 2))) :
    hd_W Ls xs d jm_M82 Q (0, sy_dL F [some (.inl (.ref 8)), some (.inr (.inl 82))], sy_dS F [], sy_dh F X1 X2 (iv_H 2), 0, 0) := by
  by_cases g0 : (sy_i F 82).toInt < 0
  · exact k2obk_0_p0 hd F X1 X2 hB (by first | exact g0 | (simp only [nz_c]; exact g0)) (fun F1 g  => k0 g0 F1 (nz_in0 hB [] (fun j hj hn => g j hj (by simp only [List.mem_cons, List.not_mem_nil, or_false, not_or] at hn; exact trivial)) (List.forall_mem_nil _)) (fun j hj hn => g j hj (by simp only [List.mem_cons, List.not_mem_nil, or_false, not_or] at hn; exact trivial)) (nz_fi (g 0 (by decide) (by decide))) (nz_fi (g 1 (by decide) (by decide))) (nz_fi (g 79 (by decide) (by decide))) (nz_fa (g 2 (by decide) (by decide))) (nz_fa (g 78 (by decide) (by decide))))
  replace g0 : 0 ≤ (sy_i F 82).toInt := by omega
  by_cases g1 : (sy_i F 82).toInt ≤ (sy_i F 0).toInt
  · have c0 := nz_bx hB (k := 0) (lo := 0) (hi := 2000) rfl
    have n83 : ((sy_i F 0) - (sy_i F 82)).toInt = ((sy_i F 0).toInt - (sy_i F 82).toInt) := nz_sub (rfl : (sy_i F 0).toInt = (sy_i F 0).toInt) (rfl : (sy_i F 82).toInt = (sy_i F 82).toInt) (by omega) (by omega)
    exact k2obk_0_p1 hd F X1 X2 hB (by first | exact g0 | (simp only [nz_c]; exact g0)) (by first | exact g1 | (simp only [nz_c]; exact g1)) (fun F1 g e0 => by rw [(rfl : (sy_i F 0) - (sy_i F 82) = (sy_i F 0) - (sy_i F 82))]; exact k1 g0 g1 F1 (nz_in0 hB [0] (fun j hj hn => g j hj (by simp only [List.mem_cons, List.not_mem_nil, or_false, not_or] at hn; omega)) (List.forall_mem_cons.mpr ⟨fun t ht => (Option.some.inj ht) ▸ (nz_hi e0 n83 (o0 g0 g1).1 (o0 g0 g1).2), List.forall_mem_nil _⟩)) (fun j hj hn => g j hj (by simp only [List.mem_cons, List.not_mem_nil, or_false, not_or] at hn; omega)) ((congrArg Int32.toInt (zz_i e0)).trans n83) (nz_fi (g 1 (by decide) (by decide))) (nz_fi (g 79 (by decide) (by decide))) (nz_fa (g 2 (by decide) (by decide))) (nz_fa (g 78 (by decide) (by decide))))
  replace g1 : (sy_i F 0).toInt < (sy_i F 82).toInt := by omega
  have c0 := nz_bx hB (k := 0) (lo := 0) (hi := 2000) rfl
  exact k2obk_0_p2 hd F X1 X2 hB (by first | exact g0 | (simp only [nz_c]; exact g0)) (by first | exact g1 | (simp only [nz_c]; exact g1)) (fun F1 g  => k2 g0 g1 F1 (nz_in0 hB [] (fun j hj hn => g j hj (by simp only [List.mem_cons, List.not_mem_nil, or_false, not_or] at hn; exact trivial)) (List.forall_mem_nil _)) (fun j hj hn => g j hj (by simp only [List.mem_cons, List.not_mem_nil, or_false, not_or] at hn; exact trivial)) (nz_fi (g 0 (by decide) (by decide))) (nz_fi (g 1 (by decide) (by decide))) (nz_fi (g 79 (by decide) (by decide))) (nz_fa (g 2 (by decide) (by decide))) (nz_fa (g 78 (by decide) (by decide))))
theorem k2otl_0_p0 {Ls : Nat} {xs : Nat → Int32} {d : Nat} {Q : Option Value → jm_h → Prop} (hd : 2 ≤ d) (F : Nat → sy_d) (X1 X2 : List jm_c) (hB : iv_in F iv_B0)
    (h0 : (sy_i F 82).toInt < 1)
    (k : ∀ F1 : Nat → sy_d, (∀ j, j < 82 → True → F1 j = F j) → Q (some (.int (((-1) : Int32)))) (sy_dh F1 X1 X2 (iv_H 2))) :
    hd_W Ls xs d jm_M108 Q (0, sy_dL F [some (.inl (.ref 8)), some (.inr (.inl 82)), some (.inr (.inl 83))], sy_dS F [], sy_dh F X1 X2 (iv_H 2), 0, 0) := by
  refine hd_ret (s := 2) (nv := 84) (v := some (.inl (.int (-1)))) (uh := hd_ov (iv_id 0 iv_B0) []) (f := true) (sp := []) (d0 := 1) (O := [true]) (T := []) (P := [(2, .inr (.inl 82), .inl (.int 1))]) jm_ok108 (by decide +kernel) (by decide +kernel) hd F X1 X2 (fun F' hF hs => ?_)
  have b82 := hd_b (F := F) (F' := F') (k := 82) (hF 82 (by decide))
  have hB' : iv_in F' iv_B0 := iv_in_eq hB (fun j hj => hF j (Nat.lt_of_lt_of_le hj (by decide +kernel)))
  refine ⟨List.forall_mem_cons.mpr ⟨hd_p2 b82 rfl (by have hc : ((1) : Int32).toInt = 1 := (by decide); omega), fun _ h => absurd h List.not_mem_nil⟩, ?_⟩
  refine k _ ?_
  · exact fun j hj _ => (hd_keep hB' (Nat.lt_of_lt_of_le hj (by decide +kernel)) (by simp)).trans (hF j (by omega))
theorem k2otl_0_p1 {Ls : Nat} {xs : Nat → Int32} {d : Nat} {Q : Option Value → jm_h → Prop} (hd : 2 ≤ d) (F : Nat → sy_d) (X1 X2 : List jm_c) (hB : iv_in F iv_B0)
    (h0 : 1 ≤ (sy_i F 82).toInt)
    (h1 : 9 < (sy_i F 82).toInt)
    (k : ∀ F1 : Nat → sy_d, (∀ j, j < 82 → True → F1 j = F j) → Q (some (.int (((-1) : Int32)))) (sy_dh F1 X1 X2 (iv_H 2))) :
    hd_W Ls xs d jm_M108 Q (0, sy_dL F [some (.inl (.ref 8)), some (.inr (.inl 82)), some (.inr (.inl 83))], sy_dS F [], sy_dh F X1 X2 (iv_H 2), 0, 0) := by
  refine hd_ret (s := 2) (nv := 84) (v := some (.inl (.int (-1)))) (uh := hd_ov (iv_id 0 iv_B0) []) (f := true) (sp := []) (d0 := 1) (O := [false, true]) (T := []) (P := [(3, .inr (.inl 82), .inl (.int 1)), (2, .inl (.int 9), .inr (.inl 82))]) jm_ok108 (by decide +kernel) (by decide +kernel) hd F X1 X2 (fun F' hF hs => ?_)
  have b82 := hd_b (F := F) (F' := F') (k := 82) (hF 82 (by decide))
  have hB' : iv_in F' iv_B0 := iv_in_eq hB (fun j hj => hF j (Nat.lt_of_lt_of_le hj (by decide +kernel)))
  refine ⟨List.forall_mem_cons.mpr ⟨hd_p3 b82 rfl (by have hc : ((1) : Int32).toInt = 1 := (by decide); omega), List.forall_mem_cons.mpr ⟨hd_p2 rfl b82 (by have hc : ((9) : Int32).toInt = 9 := (by decide); omega), fun _ h => absurd h List.not_mem_nil⟩⟩, ?_⟩
  refine k _ ?_
  · exact fun j hj _ => (hd_keep hB' (Nat.lt_of_lt_of_le hj (by decide +kernel)) (by simp)).trans (hF j (by omega))
theorem k2otl_0_p2 {Ls : Nat} {xs : Nat → Int32} {d : Nat} {Q : Option Value → jm_h → Prop} (hd : 2 ≤ d) (F : Nat → sy_d) (X1 X2 : List jm_c) (hB : iv_in F iv_B0)
    (h0 : 1 ≤ (sy_i F 82).toInt)
    (h1 : (sy_i F 82).toInt ≤ 9)
    (h2 : (sy_i F 83).toInt < 0)
    (k : ∀ F1 : Nat → sy_d, (∀ j, j < 82 → True → F1 j = F j) → Q (some (.int (((-1) : Int32)))) (sy_dh F1 X1 X2 (iv_H 2))) :
    hd_W Ls xs d jm_M108 Q (0, sy_dL F [some (.inl (.ref 8)), some (.inr (.inl 82)), some (.inr (.inl 83))], sy_dS F [], sy_dh F X1 X2 (iv_H 2), 0, 0) := by
  refine hd_ret (s := 2) (nv := 84) (v := some (.inl (.int (-1)))) (uh := hd_ov (iv_id 0 iv_B0) []) (f := true) (sp := []) (d0 := 1) (O := [false, false, true]) (T := []) (P := [(3, .inr (.inl 82), .inl (.int 1)), (3, .inl (.int 9), .inr (.inl 82)), (2, .inr (.inl 83), .inl (.int 0))]) jm_ok108 (by decide +kernel) (by decide +kernel) hd F X1 X2 (fun F' hF hs => ?_)
  have b82 := hd_b (F := F) (F' := F') (k := 82) (hF 82 (by decide))
  have b83 := hd_b (F := F) (F' := F') (k := 83) (hF 83 (by decide))
  have hB' : iv_in F' iv_B0 := iv_in_eq hB (fun j hj => hF j (Nat.lt_of_lt_of_le hj (by decide +kernel)))
  refine ⟨List.forall_mem_cons.mpr ⟨hd_p3 b82 rfl (by have hc : ((1) : Int32).toInt = 1 := (by decide); omega), List.forall_mem_cons.mpr ⟨hd_p3 rfl b82 (by have hc : ((9) : Int32).toInt = 9 := (by decide); omega), List.forall_mem_cons.mpr ⟨hd_p2 b83 rfl (by have hc : ((0) : Int32).toInt = 0 := (by decide); omega), fun _ h => absurd h List.not_mem_nil⟩⟩⟩, ?_⟩
  refine k _ ?_
  · exact fun j hj _ => (hd_keep hB' (Nat.lt_of_lt_of_le hj (by decide +kernel)) (by simp)).trans (hF j (by omega))
theorem k2otl_0_p3 {Ls : Nat} {xs : Nat → Int32} {d : Nat} {Q : Option Value → jm_h → Prop} (hd : 2 ≤ d) (F : Nat → sy_d) (X1 X2 : List jm_c) (hB : iv_in F iv_B0)
    (h0 : 1 ≤ (sy_i F 82).toInt)
    (h1 : (sy_i F 82).toInt ≤ 9)
    (h2 : 0 ≤ (sy_i F 83).toInt)
    (h3 : 9 < (sy_i F 83).toInt)
    (k : ∀ F1 : Nat → sy_d, (∀ j, j < 82 → True → F1 j = F j) → Q (some (.int (((-1) : Int32)))) (sy_dh F1 X1 X2 (iv_H 2))) :
    hd_W Ls xs d jm_M108 Q (0, sy_dL F [some (.inl (.ref 8)), some (.inr (.inl 82)), some (.inr (.inl 83))], sy_dS F [], sy_dh F X1 X2 (iv_H 2), 0, 0) := by
  refine hd_ret (s := 2) (nv := 84) (v := some (.inl (.int (-1)))) (uh := hd_ov (iv_id 0 iv_B0) []) (f := true) (sp := []) (d0 := 1) (O := [false, false, false, true]) (T := []) (P := [(3, .inr (.inl 82), .inl (.int 1)), (3, .inl (.int 9), .inr (.inl 82)), (3, .inr (.inl 83), .inl (.int 0)), (2, .inl (.int 9), .inr (.inl 83))]) jm_ok108 (by decide +kernel) (by decide +kernel) hd F X1 X2 (fun F' hF hs => ?_)
  have b82 := hd_b (F := F) (F' := F') (k := 82) (hF 82 (by decide))
  have b83 := hd_b (F := F) (F' := F') (k := 83) (hF 83 (by decide))
  have hB' : iv_in F' iv_B0 := iv_in_eq hB (fun j hj => hF j (Nat.lt_of_lt_of_le hj (by decide +kernel)))
  refine ⟨List.forall_mem_cons.mpr ⟨hd_p3 b82 rfl (by have hc : ((1) : Int32).toInt = 1 := (by decide); omega), List.forall_mem_cons.mpr ⟨hd_p3 rfl b82 (by have hc : ((9) : Int32).toInt = 9 := (by decide); omega), List.forall_mem_cons.mpr ⟨hd_p3 b83 rfl (by have hc : ((0) : Int32).toInt = 0 := (by decide); omega), List.forall_mem_cons.mpr ⟨hd_p2 rfl b83 (by have hc : ((9) : Int32).toInt = 9 := (by decide); omega), fun _ h => absurd h List.not_mem_nil⟩⟩⟩⟩, ?_⟩
  refine k _ ?_
  · exact fun j hj _ => (hd_keep hB' (Nat.lt_of_lt_of_le hj (by decide +kernel)) (by simp)).trans (hF j (by omega))
theorem k2otl_0_p4 {Ls : Nat} {xs : Nat → Int32} {d : Nat} {Q : Option Value → jm_h → Prop} (hd : 2 ≤ d) (F : Nat → sy_d) (X1 X2 : List jm_c) (hB : iv_in F iv_B0)
    (h0 : 1 ≤ (sy_i F 82).toInt)
    (h1 : (sy_i F 82).toInt ≤ 9)
    (h2 : 0 ≤ (sy_i F 83).toInt)
    (h3 : (sy_i F 83).toInt ≤ 9)
    (h4 : (sy_i F 79).toInt < 7)
    (h5 : 0 ≤ (sy_i F 79).toInt ∧ (sy_i F 79).toInt < 7)
    (h6 : 0 ≤ (sy_i F 79).toInt ∧ (sy_i F 79).toInt < 7)
    (k : ∀ F1 : Nat → sy_d, (∀ j, j < 82 → j ≠ 79 ∧ j ≠ 80 ∧ j ≠ 81 → F1 j = F j) → F1 79 = .inl (.int ((sy_i F 79) + ((1 : Int32)))) → F1 80 = .inr (.inl (jm_upd (sy_ai F 80) (sy_i F 79).toNatClampNeg (sy_i F 82))) → F1 81 = .inr (.inl (jm_upd (sy_ai F 81) (sy_i F 79).toNatClampNeg (sy_i F 83))) → Q (some (.int (((sy_i F 79) + ((1 : Int32))) - ((1 : Int32))))) (sy_dh F1 X1 X2 (iv_H 2))) :
    hd_W Ls xs d jm_M108 Q (0, sy_dL F [some (.inl (.ref 8)), some (.inr (.inl 82)), some (.inr (.inl 83))], sy_dS F [], sy_dh F X1 X2 (iv_H 2), 0, 0) := by
  refine hd_ret (s := 2) (nv := 84) (v := some (.inr (.inl 87))) (uh := hd_ov (iv_id 0 iv_B0) [(79, .inl (.inr (.inl 86))), (80, .inr (.inr (.inl 84))), (81, .inr (.inr (.inl 85)))]) (f := true) (sp := []) (d0 := 1) (O := [false, false, false, false, true]) (T := [(40, [.inr (.inl 79), .inr (.inl 82)], [.inr (.inl 80)]), (40, [.inr (.inl 79), .inr (.inl 83)], [.inr (.inl 81)]), (0, [.inr (.inl 79), .inl (.int 1)], []), (1, [.inr (.inl 86), .inl (.int 1)], [])]) (P := [(3, .inr (.inl 82), .inl (.int 1)), (3, .inl (.int 9), .inr (.inl 82)), (3, .inr (.inl 83), .inl (.int 0)), (3, .inl (.int 9), .inr (.inl 83)), (2, .inr (.inl 79), .inl (.int 7)), (6, .inr (.inl 79), .inl (.ref 7)), (6, .inr (.inl 79), .inl (.ref 7))]) jm_ok108 (by decide +kernel) (by decide +kernel) hd F X1 X2 (fun F' hF hs => ?_)
  have b82 := hd_b (F := F) (F' := F') (k := 82) (hF 82 (by decide))
  have b83 := hd_b (F := F) (F' := F') (k := 83) (hF 83 (by decide))
  have b79 := hd_b (F := F) (F' := F') (k := 79) (hF 79 (by decide))
  have t86 : sy_dv F' (.inr (.inl 86)) = .int ((sy_i F 79) + ((1 : Int32))) := hd_o (hs 2 _ rfl) b79 rfl rfl
  have a80 := hd_ba (F := F) (F' := F') (k := 80) (hF 80 (by decide))
  have t84 : sy_da F' (.inr (.inl 84)) = .inl (jm_upd (sy_ai F 80) (sy_i F 79).toNatClampNeg (sy_i F 82)) := hd_up (hs 0 _ rfl) b79 b82 a80
  have a81 := hd_ba (F := F) (F' := F') (k := 81) (hF 81 (by decide))
  have t85 : sy_da F' (.inr (.inl 85)) = .inl (jm_upd (sy_ai F 81) (sy_i F 79).toNatClampNeg (sy_i F 83)) := hd_up (hs 1 _ rfl) b79 b83 a81
  have t87 : sy_dv F' (.inr (.inl 87)) = .int (((sy_i F 79) + ((1 : Int32))) - ((1 : Int32))) := hd_o (hs 3 _ rfl) t86 rfl rfl
  have hB' : iv_in F' iv_B0 := iv_in_eq hB (fun j hj => hF j (Nat.lt_of_lt_of_le hj (by decide +kernel)))
  have hk := k (sy_cm F' (hd_ov (iv_id 0 iv_B0) [(79, .inl (.inr (.inl 86))), (80, .inr (.inr (.inl 84))), (81, .inr (.inr (.inl 85)))] ++ [])) (fun j hj hn => (hd_keep hB' (Nat.lt_of_lt_of_le hj (by decide +kernel)) (by simp; omega)).trans (hF j (by omega))) (hd_gi (x := .inr (.inl 86)) (by decide +kernel) t86) (hd_ga (a := .inr (.inl 84)) (by decide +kernel) t84) (hd_ga (a := .inr (.inl 85)) (by decide +kernel) t85)
  refine ⟨List.forall_mem_cons.mpr ⟨hd_p3 b82 rfl (by have hc : ((1) : Int32).toInt = 1 := (by decide); omega), List.forall_mem_cons.mpr ⟨hd_p3 rfl b82 (by have hc : ((9) : Int32).toInt = 9 := (by decide); omega), List.forall_mem_cons.mpr ⟨hd_p3 b83 rfl (by have hc : ((0) : Int32).toInt = 0 := (by decide); omega), List.forall_mem_cons.mpr ⟨hd_p3 rfl b83 (by have hc : ((9) : Int32).toInt = 9 := (by decide); omega), List.forall_mem_cons.mpr ⟨hd_p2 b79 rfl (by have hc : ((7) : Int32).toInt = 7 := (by decide); omega), List.forall_mem_cons.mpr ⟨hd_pb b79 (by first | exact h5 | exact h5), List.forall_mem_cons.mpr ⟨hd_pb b79 (by first | exact h6 | exact h6), fun _ h => absurd h List.not_mem_nil⟩⟩⟩⟩⟩⟩⟩, ?_⟩
  show Q (some (sy_dv F' (.inr (.inl 87)))) _
  rw [t87]
  exact hk
theorem k2otl_0_p5 {Ls : Nat} {xs : Nat → Int32} {d : Nat} {Q : Option Value → jm_h → Prop} (hd : 2 ≤ d) (F : Nat → sy_d) (X1 X2 : List jm_c) (hB : iv_in F iv_B0)
    (h0 : 1 ≤ (sy_i F 82).toInt)
    (h1 : (sy_i F 82).toInt ≤ 9)
    (h2 : 0 ≤ (sy_i F 83).toInt)
    (h3 : (sy_i F 83).toInt ≤ 9)
    (h4 : 7 ≤ (sy_i F 79).toInt)
    (k : ∀ F1 : Nat → sy_d, (∀ j, j < 82 → True → F1 j = F j) → Q (some (.int (((-1) : Int32)))) (sy_dh F1 X1 X2 (iv_H 2))) :
    hd_W Ls xs d jm_M108 Q (0, sy_dL F [some (.inl (.ref 8)), some (.inr (.inl 82)), some (.inr (.inl 83))], sy_dS F [], sy_dh F X1 X2 (iv_H 2), 0, 0) := by
  refine hd_ret (s := 2) (nv := 84) (v := some (.inl (.int (-1)))) (uh := hd_ov (iv_id 0 iv_B0) []) (f := true) (sp := []) (d0 := 1) (O := [false, false, false, false, false]) (T := []) (P := [(3, .inr (.inl 82), .inl (.int 1)), (3, .inl (.int 9), .inr (.inl 82)), (3, .inr (.inl 83), .inl (.int 0)), (3, .inl (.int 9), .inr (.inl 83)), (3, .inr (.inl 79), .inl (.int 7))]) jm_ok108 (by decide +kernel) (by decide +kernel) hd F X1 X2 (fun F' hF hs => ?_)
  have b82 := hd_b (F := F) (F' := F') (k := 82) (hF 82 (by decide))
  have b83 := hd_b (F := F) (F' := F') (k := 83) (hF 83 (by decide))
  have b79 := hd_b (F := F) (F' := F') (k := 79) (hF 79 (by decide))
  have hB' : iv_in F' iv_B0 := iv_in_eq hB (fun j hj => hF j (Nat.lt_of_lt_of_le hj (by decide +kernel)))
  refine ⟨List.forall_mem_cons.mpr ⟨hd_p3 b82 rfl (by have hc : ((1) : Int32).toInt = 1 := (by decide); omega), List.forall_mem_cons.mpr ⟨hd_p3 rfl b82 (by have hc : ((9) : Int32).toInt = 9 := (by decide); omega), List.forall_mem_cons.mpr ⟨hd_p3 b83 rfl (by have hc : ((0) : Int32).toInt = 0 := (by decide); omega), List.forall_mem_cons.mpr ⟨hd_p3 rfl b83 (by have hc : ((9) : Int32).toInt = 9 := (by decide); omega), List.forall_mem_cons.mpr ⟨hd_p3 b79 rfl (by have hc : ((7) : Int32).toInt = 7 := (by decide); omega), fun _ h => absurd h List.not_mem_nil⟩⟩⟩⟩⟩, ?_⟩
  refine k _ ?_
  · exact fun j hj _ => (hd_keep hB' (Nat.lt_of_lt_of_le hj (by decide +kernel)) (by simp)).trans (hF j (by omega))
theorem k2otl_0 {Ls : Nat} {xs : Nat → Int32} {d : Nat} {Q : Option Value → jm_h → Prop} (hd : 2 ≤ d) (F : Nat → sy_d) (X1 X2 : List jm_c) (hB : iv_in F iv_B0)
    (k0 : (sy_i F 82).toInt < 1 → ∀ F1 : Nat → sy_d, iv_in F1 iv_B0 → (∀ j, j < 82 → j ∉ ([] : List Nat) → F1 j = F j) → (sy_i F1 0).toInt = (sy_i F 0).toInt → (sy_i F1 1).toInt = (sy_i F 1).toInt → (sy_i F1 79).toInt = (sy_i F 79).toInt → sy_ai F1 2 = sy_ai F 2 → sy_ai F1 78 = sy_ai F 78 → Q (some (.int (((-1) : Int32)))) (sy_dh F1 X1 X2 (iv_H 2)))
    (k1 : 1 ≤ (sy_i F 82).toInt → 9 < (sy_i F 82).toInt → ∀ F1 : Nat → sy_d, iv_in F1 iv_B0 → (∀ j, j < 82 → j ∉ ([] : List Nat) → F1 j = F j) → (sy_i F1 0).toInt = (sy_i F 0).toInt → (sy_i F1 1).toInt = (sy_i F 1).toInt → (sy_i F1 79).toInt = (sy_i F 79).toInt → sy_ai F1 2 = sy_ai F 2 → sy_ai F1 78 = sy_ai F 78 → Q (some (.int (((-1) : Int32)))) (sy_dh F1 X1 X2 (iv_H 2)))
    (k2 : 1 ≤ (sy_i F 82).toInt → (sy_i F 82).toInt ≤ 9 → (sy_i F 83).toInt < 0 → ∀ F1 : Nat → sy_d, iv_in F1 iv_B0 → (∀ j, j < 82 → j ∉ ([] : List Nat) → F1 j = F j) → (sy_i F1 0).toInt = (sy_i F 0).toInt → (sy_i F1 1).toInt = (sy_i F 1).toInt → (sy_i F1 79).toInt = (sy_i F 79).toInt → sy_ai F1 2 = sy_ai F 2 → sy_ai F1 78 = sy_ai F 78 → Q (some (.int (((-1) : Int32)))) (sy_dh F1 X1 X2 (iv_H 2)))
    (k3 : 1 ≤ (sy_i F 82).toInt → (sy_i F 82).toInt ≤ 9 → 0 ≤ (sy_i F 83).toInt → 9 < (sy_i F 83).toInt → ∀ F1 : Nat → sy_d, iv_in F1 iv_B0 → (∀ j, j < 82 → j ∉ ([] : List Nat) → F1 j = F j) → (sy_i F1 0).toInt = (sy_i F 0).toInt → (sy_i F1 1).toInt = (sy_i F 1).toInt → (sy_i F1 79).toInt = (sy_i F 79).toInt → sy_ai F1 2 = sy_ai F 2 → sy_ai F1 78 = sy_ai F 78 → Q (some (.int (((-1) : Int32)))) (sy_dh F1 X1 X2 (iv_H 2)))
    (k4 : 1 ≤ (sy_i F 82).toInt → (sy_i F 82).toInt ≤ 9 → 0 ≤ (sy_i F 83).toInt → (sy_i F 83).toInt ≤ 9 → (sy_i F 79).toInt < 7 → ∀ F1 : Nat → sy_d, iv_in F1 iv_B0 → (∀ j, j < 82 → j ∉ ([79, 80, 81] : List Nat) → F1 j = F j) → (sy_i F1 0).toInt = (sy_i F 0).toInt → (sy_i F1 1).toInt = (sy_i F 1).toInt → (sy_i F1 79).toInt = ((sy_i F 79).toInt + 1) → sy_ai F1 2 = sy_ai F 2 → sy_ai F1 78 = sy_ai F 78 → Q (some (.int (((sy_i F 79) + ((1 : Int32))) - ((1 : Int32))))) (sy_dh F1 X1 X2 (iv_H 2)))
    (k5 : 1 ≤ (sy_i F 82).toInt → (sy_i F 82).toInt ≤ 9 → 0 ≤ (sy_i F 83).toInt → (sy_i F 83).toInt ≤ 9 → 7 ≤ (sy_i F 79).toInt → ∀ F1 : Nat → sy_d, iv_in F1 iv_B0 → (∀ j, j < 82 → j ∉ ([] : List Nat) → F1 j = F j) → (sy_i F1 0).toInt = (sy_i F 0).toInt → (sy_i F1 1).toInt = (sy_i F 1).toInt → (sy_i F1 79).toInt = (sy_i F 79).toInt → sy_ai F1 2 = sy_ai F 2 → sy_ai F1 78 = sy_ai F 78 → Q (some (.int (((-1) : Int32)))) (sy_dh F1 X1 X2 (iv_H 2))) :
    hd_W Ls xs d jm_M108 Q (0, sy_dL F [some (.inl (.ref 8)), some (.inr (.inl 82)), some (.inr (.inl 83))], sy_dS F [], sy_dh F X1 X2 (iv_H 2), 0, 0) := by
  by_cases g0 : (sy_i F 82).toInt < 1
  · exact k2otl_0_p0 hd F X1 X2 hB (by first | exact g0 | (simp only [nz_c]; exact g0)) (fun F1 g  => k0 g0 F1 (nz_in0 hB [] (fun j hj hn => g j hj (by simp only [List.mem_cons, List.not_mem_nil, or_false, not_or] at hn; exact trivial)) (List.forall_mem_nil _)) (fun j hj hn => g j hj (by simp only [List.mem_cons, List.not_mem_nil, or_false, not_or] at hn; exact trivial)) (nz_fi (g 0 (by decide) (by decide))) (nz_fi (g 1 (by decide) (by decide))) (nz_fi (g 79 (by decide) (by decide))) (nz_fa (g 2 (by decide) (by decide))) (nz_fa (g 78 (by decide) (by decide))))
  replace g0 : 1 ≤ (sy_i F 82).toInt := by omega
  by_cases g1 : 9 < (sy_i F 82).toInt
  · exact k2otl_0_p1 hd F X1 X2 hB (by first | exact g0 | (simp only [nz_c]; exact g0)) (by first | exact g1 | (simp only [nz_c]; exact g1)) (fun F1 g  => k1 g0 g1 F1 (nz_in0 hB [] (fun j hj hn => g j hj (by simp only [List.mem_cons, List.not_mem_nil, or_false, not_or] at hn; exact trivial)) (List.forall_mem_nil _)) (fun j hj hn => g j hj (by simp only [List.mem_cons, List.not_mem_nil, or_false, not_or] at hn; exact trivial)) (nz_fi (g 0 (by decide) (by decide))) (nz_fi (g 1 (by decide) (by decide))) (nz_fi (g 79 (by decide) (by decide))) (nz_fa (g 2 (by decide) (by decide))) (nz_fa (g 78 (by decide) (by decide))))
  replace g1 : (sy_i F 82).toInt ≤ 9 := by omega
  by_cases g2 : (sy_i F 83).toInt < 0
  · exact k2otl_0_p2 hd F X1 X2 hB (by first | exact g0 | (simp only [nz_c]; exact g0)) (by first | exact g1 | (simp only [nz_c]; exact g1)) (by first | exact g2 | (simp only [nz_c]; exact g2)) (fun F1 g  => k2 g0 g1 g2 F1 (nz_in0 hB [] (fun j hj hn => g j hj (by simp only [List.mem_cons, List.not_mem_nil, or_false, not_or] at hn; exact trivial)) (List.forall_mem_nil _)) (fun j hj hn => g j hj (by simp only [List.mem_cons, List.not_mem_nil, or_false, not_or] at hn; exact trivial)) (nz_fi (g 0 (by decide) (by decide))) (nz_fi (g 1 (by decide) (by decide))) (nz_fi (g 79 (by decide) (by decide))) (nz_fa (g 2 (by decide) (by decide))) (nz_fa (g 78 (by decide) (by decide))))
  replace g2 : 0 ≤ (sy_i F 83).toInt := by omega
  by_cases g3 : 9 < (sy_i F 83).toInt
  · exact k2otl_0_p3 hd F X1 X2 hB (by first | exact g0 | (simp only [nz_c]; exact g0)) (by first | exact g1 | (simp only [nz_c]; exact g1)) (by first | exact g2 | (simp only [nz_c]; exact g2)) (by first | exact g3 | (simp only [nz_c]; exact g3)) (fun F1 g  => k3 g0 g1 g2 g3 F1 (nz_in0 hB [] (fun j hj hn => g j hj (by simp only [List.mem_cons, List.not_mem_nil, or_false, not_or] at hn; exact trivial)) (List.forall_mem_nil _)) (fun j hj hn => g j hj (by simp only [List.mem_cons, List.not_mem_nil, or_false, not_or] at hn; exact trivial)) (nz_fi (g 0 (by decide) (by decide))) (nz_fi (g 1 (by decide) (by decide))) (nz_fi (g 79 (by decide) (by decide))) (nz_fa (g 2 (by decide) (by decide))) (nz_fa (g 78 (by decide) (by decide))))
  replace g3 : (sy_i F 83).toInt ≤ 9 := by omega
  by_cases g4 : (sy_i F 79).toInt < 7
  · have c79 := nz_bx hB (k := 79) (lo := 0) (hi := 7) rfl
    have n86 : ((sy_i F 79) + ((1 : Int32))).toInt = ((sy_i F 79).toInt + 1) := nz_add (rfl : (sy_i F 79).toInt = (sy_i F 79).toInt) (by decide : ((1 : Int32)).toInt = 1) (by omega) (by omega)
    exact k2otl_0_p4 hd F X1 X2 hB (by first | exact g0 | (simp only [nz_c]; exact g0)) (by first | exact g1 | (simp only [nz_c]; exact g1)) (by first | exact g2 | (simp only [nz_c]; exact g2)) (by first | exact g3 | (simp only [nz_c]; exact g3)) (by first | exact g4 | (simp only [nz_c]; exact g4)) (by first | exact ⟨by omega, by omega⟩ | (simp only [nz_c]; exact ⟨by omega, by omega⟩)) (by first | exact ⟨by omega, by omega⟩ | (simp only [nz_c]; exact ⟨by omega, by omega⟩)) (fun F1 g e79 e80 e81 => by rw [(rfl : ((sy_i F 79) + ((1 : Int32))) - ((1 : Int32)) = ((sy_i F 79) + ((1 : Int32))) - ((1 : Int32)))]; exact k4 g0 g1 g2 g3 g4 F1 (nz_in0 hB [79, 80, 81] (fun j hj hn => g j hj (by simp only [List.mem_cons, List.not_mem_nil, or_false, not_or] at hn; omega)) (List.forall_mem_cons.mpr ⟨fun t ht => (Option.some.inj ht) ▸ (nz_hi e79 n86 (by omega) (by omega)), List.forall_mem_cons.mpr ⟨fun t ht => (Option.some.inj ht) ▸ (nz_hz2 e80), List.forall_mem_cons.mpr ⟨fun t ht => (Option.some.inj ht) ▸ (nz_hz2 e81), List.forall_mem_nil _⟩⟩⟩)) (fun j hj hn => g j hj (by simp only [List.mem_cons, List.not_mem_nil, or_false, not_or] at hn; omega)) (nz_fi (g 0 (by decide) (by decide))) (nz_fi (g 1 (by decide) (by decide))) ((congrArg Int32.toInt (zz_i e79)).trans n86) (nz_fa (g 2 (by decide) (by decide))) (nz_fa (g 78 (by decide) (by decide))))
  replace g4 : 7 ≤ (sy_i F 79).toInt := by omega
  have c79 := nz_bx hB (k := 79) (lo := 0) (hi := 7) rfl
  exact k2otl_0_p5 hd F X1 X2 hB (by first | exact g0 | (simp only [nz_c]; exact g0)) (by first | exact g1 | (simp only [nz_c]; exact g1)) (by first | exact g2 | (simp only [nz_c]; exact g2)) (by first | exact g3 | (simp only [nz_c]; exact g3)) (by first | exact g4 | (simp only [nz_c]; exact g4)) (fun F1 g  => k5 g0 g1 g2 g3 g4 F1 (nz_in0 hB [] (fun j hj hn => g j hj (by simp only [List.mem_cons, List.not_mem_nil, or_false, not_or] at hn; exact trivial)) (List.forall_mem_nil _)) (fun j hj hn => g j hj (by simp only [List.mem_cons, List.not_mem_nil, or_false, not_or] at hn; exact trivial)) (nz_fi (g 0 (by decide) (by decide))) (nz_fi (g 1 (by decide) (by decide))) (nz_fi (g 79 (by decide) (by decide))) (nz_fa (g 2 (by decide) (by decide))) (nz_fa (g 78 (by decide) (by decide))))
theorem k2ofo_0_p0 {Ls : Nat} {xs : Nat → Int32} {d : Nat} {Q : Option Value → jm_h → Prop} (hd : 1 ≤ d) (F : Nat → sy_d) (X1 X2 : List jm_c) (hB : iv_in F iv_B0)
    (k : ∀ F1 : Nat → sy_d, (∀ j, j < 82 → j ≠ 79 → F1 j = F j) → F1 79 = .inl (.int ((0 : Int32))) → Q (some (.int (sy_i F 79))) (sy_dh F1 X1 X2 (iv_H 2))) :
    hd_W Ls xs d jm_M109 Q (0, sy_dL F [some (.inl (.ref 8)), none], sy_dS F [], sy_dh F X1 X2 (iv_H 2), 0, 0) := by
  refine hd_ret (s := 2) (nv := 82) (v := some (.inr (.inl 79))) (uh := hd_ov (iv_id 0 iv_B0) [(79, .inl (.inl (.int 0)))]) (f := true) (sp := []) (d0 := 0) (O := []) (T := []) (P := []) jm_ok109 (by decide +kernel) (by decide +kernel) hd F X1 X2 (fun F' hF hs => ?_)
  have b79 := hd_b (F := F) (F' := F') (k := 79) (hF 79 (by decide))
  have hB' : iv_in F' iv_B0 := iv_in_eq hB (fun j hj => hF j (Nat.lt_of_lt_of_le hj (by decide +kernel)))
  have hk := k (sy_cm F' (hd_ov (iv_id 0 iv_B0) [(79, .inl (.inl (.int 0)))] ++ [])) (fun j hj hn => (hd_keep hB' (Nat.lt_of_lt_of_le hj (by decide +kernel)) (by simp; omega)).trans (hF j (by omega))) (hd_gi (x := .inl (.int 0)) (by decide +kernel) rfl)
  refine ⟨fun _ h => absurd h List.not_mem_nil, ?_⟩
  show Q (some (sy_dv F' (.inr (.inl 79)))) _
  rw [b79]
  exact hk
theorem k2ofo_0 {Ls : Nat} {xs : Nat → Int32} {d : Nat} {Q : Option Value → jm_h → Prop} (hd : 1 ≤ d) (F : Nat → sy_d) (X1 X2 : List jm_c) (hB : iv_in F iv_B0)
    (k0 : ∀ F1 : Nat → sy_d, iv_in F1 iv_B0 → (∀ j, j < 82 → j ∉ ([79] : List Nat) → F1 j = F j) → (sy_i F1 0).toInt = (sy_i F 0).toInt → (sy_i F1 1).toInt = (sy_i F 1).toInt → (sy_i F1 79).toInt = 0 → sy_ai F1 2 = sy_ai F 2 → sy_ai F1 78 = sy_ai F 78 → Q (some (.int (sy_i F 79))) (sy_dh F1 X1 X2 (iv_H 2))) :
    hd_W Ls xs d jm_M109 Q (0, sy_dL F [some (.inl (.ref 8)), none], sy_dS F [], sy_dh F X1 X2 (iv_H 2), 0, 0) := by
  exact k2ofo_0_p0 hd F X1 X2 hB  (fun F1 g e79 => by rw [(rfl : sy_i F 79 = sy_i F 79)]; exact k0 F1 (nz_in0 hB [79] (fun j hj hn => g j hj (by simp only [List.mem_cons, List.not_mem_nil, or_false, not_or] at hn; omega)) (List.forall_mem_cons.mpr ⟨fun t ht => (Option.some.inj ht) ▸ (nz_hi e79 (by decide : ((0 : Int32)).toInt = 0) (by omega) (by omega)), List.forall_mem_nil _⟩)) (fun j hj hn => g j hj (by simp only [List.mem_cons, List.not_mem_nil, or_false, not_or] at hn; omega)) (nz_fi (g 0 (by decide) (by decide))) (nz_fi (g 1 (by decide) (by decide))) ((congrArg Int32.toInt (zz_i e79)).trans (by decide : ((0 : Int32)).toInt = 0)) (nz_fa (g 2 (by decide) (by decide))) (nz_fa (g 78 (by decide) (by decide))))
theorem k2oho_0_p0 {Ls : Nat} {xs : Nat → Int32} {d : Nat} {Q : Option Value → jm_h → Prop} (hd : 3 ≤ d) (F : Nat → sy_d) (X1 X2 : List jm_c) (hB : iv_in F iv_B0)
    (h0 : (sy_i F 82).toInt < 0)
    (k : ∀ F1 : Nat → sy_d, (∀ j, j < 82 → True → F1 j = F j) → Q (some (.int ((0 : Int32)))) (sy_dh F1 X1 X2 (iv_H 2))) :
    hd_W Ls xs d jm_M113 Q (0, sy_dL F [some (.inl (.ref 8)), some (.inr (.inl 82))], sy_dS F [], sy_dh F X1 X2 (iv_H 2), 0, 0) := by
  refine hd_ret (s := 2) (nv := 83) (v := some (.inl (.int 0))) (uh := hd_ov (iv_id 0 iv_B0) []) (f := true) (sp := [23]) (d0 := 2) (O := [true]) (T := []) (P := [(2, .inr (.inl 82), .inl (.int 0))]) jm_ok113 (by decide +kernel) (by decide +kernel) hd F X1 X2 (fun F' hF hs => ?_)
  have b82 := hd_b (F := F) (F' := F') (k := 82) (hF 82 (by decide))
  have hB' : iv_in F' iv_B0 := iv_in_eq hB (fun j hj => hF j (Nat.lt_of_lt_of_le hj (by decide +kernel)))
  refine ⟨List.forall_mem_cons.mpr ⟨hd_p2 b82 rfl (by have hc : ((0) : Int32).toInt = 0 := (by decide); omega), fun _ h => absurd h List.not_mem_nil⟩, ?_⟩
  refine k _ ?_
  · exact fun j hj _ => (hd_keep hB' (Nat.lt_of_lt_of_le hj (by decide +kernel)) (by simp)).trans (hF j (by omega))
theorem k2oho_0_p1 {Ls : Nat} {xs : Nat → Int32} {d : Nat} {Q : Option Value → jm_h → Prop} (hd : 3 ≤ d) (F : Nat → sy_d) (X1 X2 : List jm_c) (hB : iv_in F iv_B0)
    (h0 : 0 ≤ (sy_i F 82).toInt)
    (h1 : 2 < (sy_i F 82).toInt)
    (k : ∀ F1 : Nat → sy_d, (∀ j, j < 82 → True → F1 j = F j) → Q (some (.int ((0 : Int32)))) (sy_dh F1 X1 X2 (iv_H 2))) :
    hd_W Ls xs d jm_M113 Q (0, sy_dL F [some (.inl (.ref 8)), some (.inr (.inl 82))], sy_dS F [], sy_dh F X1 X2 (iv_H 2), 0, 0) := by
  refine hd_ret (s := 2) (nv := 83) (v := some (.inl (.int 0))) (uh := hd_ov (iv_id 0 iv_B0) []) (f := true) (sp := [23]) (d0 := 2) (O := [false, true]) (T := []) (P := [(3, .inr (.inl 82), .inl (.int 0)), (2, .inl (.int 2), .inr (.inl 82))]) jm_ok113 (by decide +kernel) (by decide +kernel) hd F X1 X2 (fun F' hF hs => ?_)
  have b82 := hd_b (F := F) (F' := F') (k := 82) (hF 82 (by decide))
  have hB' : iv_in F' iv_B0 := iv_in_eq hB (fun j hj => hF j (Nat.lt_of_lt_of_le hj (by decide +kernel)))
  refine ⟨List.forall_mem_cons.mpr ⟨hd_p3 b82 rfl (by have hc : ((0) : Int32).toInt = 0 := (by decide); omega), List.forall_mem_cons.mpr ⟨hd_p2 rfl b82 (by have hc : ((2) : Int32).toInt = 2 := (by decide); omega), fun _ h => absurd h List.not_mem_nil⟩⟩, ?_⟩
  refine k _ ?_
  · exact fun j hj _ => (hd_keep hB' (Nat.lt_of_lt_of_le hj (by decide +kernel)) (by simp)).trans (hF j (by omega))
theorem k2oho_0_p2 {Ls : Nat} {xs : Nat → Int32} {d : Nat} {Q : Option Value → jm_h → Prop} (hd : 3 ≤ d) (F : Nat → sy_d) (X1 X2 : List jm_c) (hB : iv_in F iv_B0)
    (h0 : 0 ≤ (sy_i F 82).toInt)
    (h1 : (sy_i F 82).toInt ≤ 2)
    (k : ∀ F1 : Nat → sy_d, (∀ j, j < 82 → True → F1 j = F j) → F1 82 = .inl (.int (sy_i F 82)) → F1 83 = .inl (.int ((sy_i F 82) * ((60 : Int32)))) → hd_W Ls xs d jm_M113 Q (23, sy_dL F1 [some (.inl (.ref 8)), some (.inr (.inl 82))], sy_dS F1 [.inr (.inl 83), .inl (.ref 68), .inl (.ref 46)], sy_dh F1 X1 X2 (iv_H 2), 0, 0)) :
    hd_W Ls xs d jm_M113 Q (0, sy_dL F [some (.inl (.ref 8)), some (.inr (.inl 82))], sy_dS F [], sy_dh F X1 X2 (iv_H 2), 0, 0) := by
  refine hd_run (s := 2) (nv := 83) (pc := 23) (L := [some (.inl (.ref 8)), some (.inr (.inl 82))]) (S := [.inr (.inl 83), .inl (.ref 68), .inl (.ref 46)]) (uh := hd_ov (iv_id 0 iv_B0) []) (ul := [.inl (.inr (.inl 82)), .inl (.inr (.inl 83))]) (f := true) (sp := [23]) (d0 := 2) (O := [false, false]) (T := [(2, [.inr (.inl 82), .inl (.int 60)], [])]) (P := [(3, .inr (.inl 82), .inl (.int 0)), (3, .inl (.int 2), .inr (.inl 82))]) jm_ok113 (by decide +kernel) (by decide +kernel) hd F X1 X2 (fun F' hF hs => ?_)
  have b82 := hd_b (F := F) (F' := F') (k := 82) (hF 82 (by decide))
  have t83 : sy_dv F' (.inr (.inl 83)) = .int ((sy_i F 82) * ((60 : Int32))) := hd_o (hs 0 _ rfl) b82 rfl rfl
  have hB' : iv_in F' iv_B0 := iv_in_eq hB (fun j hj => hF j (Nat.lt_of_lt_of_le hj (by decide +kernel)))
  refine ⟨List.forall_mem_cons.mpr ⟨hd_p3 b82 rfl (by have hc : ((0) : Int32).toInt = 0 := (by decide); omega), List.forall_mem_cons.mpr ⟨hd_p3 rfl b82 (by have hc : ((2) : Int32).toInt = 2 := (by decide); omega), fun _ h => absurd h List.not_mem_nil⟩⟩, ?_⟩
  refine k _ ?_ ?_ ?_
  · exact fun j hj _ => (hd_keep hB' (Nat.lt_of_lt_of_le hj (by decide +kernel)) (by simp)).trans (hF j (by omega))
  · exact hd_gi (x := .inr (.inl 82)) (by decide +kernel) b82
  · exact hd_gi (x := .inr (.inl 83)) (by decide +kernel) t83
theorem k2oho_0 {Ls : Nat} {xs : Nat → Int32} {d : Nat} {Q : Option Value → jm_h → Prop} (hd : 3 ≤ d) (F : Nat → sy_d) (X1 X2 : List jm_c) (hB : iv_in F iv_B0)
    (k0 : (sy_i F 82).toInt < 0 → ∀ F1 : Nat → sy_d, iv_in F1 iv_B0 → (∀ j, j < 82 → j ∉ ([] : List Nat) → F1 j = F j) → (sy_i F1 0).toInt = (sy_i F 0).toInt → (sy_i F1 1).toInt = (sy_i F 1).toInt → (sy_i F1 79).toInt = (sy_i F 79).toInt → sy_ai F1 2 = sy_ai F 2 → sy_ai F1 78 = sy_ai F 78 → Q (some (.int ((0 : Int32)))) (sy_dh F1 X1 X2 (iv_H 2)))
    (k1 : 0 ≤ (sy_i F 82).toInt → 2 < (sy_i F 82).toInt → ∀ F1 : Nat → sy_d, iv_in F1 iv_B0 → (∀ j, j < 82 → j ∉ ([] : List Nat) → F1 j = F j) → (sy_i F1 0).toInt = (sy_i F 0).toInt → (sy_i F1 1).toInt = (sy_i F 1).toInt → (sy_i F1 79).toInt = (sy_i F 79).toInt → sy_ai F1 2 = sy_ai F 2 → sy_ai F1 78 = sy_ai F 78 → Q (some (.int ((0 : Int32)))) (sy_dh F1 X1 X2 (iv_H 2)))
    (k2 : 0 ≤ (sy_i F 82).toInt → (sy_i F 82).toInt ≤ 2 → ∀ F1 : Nat → sy_d, iv_in F1 iv_B0 → (∀ j, j < 82 → j ∉ ([] : List Nat) → F1 j = F j) → (sy_i F1 0).toInt = (sy_i F 0).toInt → (sy_i F1 1).toInt = (sy_i F 1).toInt → (sy_i F1 79).toInt = (sy_i F 79).toInt → sy_ai F1 2 = sy_ai F 2 → sy_ai F1 78 = sy_ai F 78 → (sy_i F1 82).toInt = (sy_i F 82).toInt → (sy_i F1 83).toInt = ((sy_i F 82).toInt * 60) → hd_W Ls xs d jm_M113 Q (23, sy_dL F1 [some (.inl (.ref 8)), some (.inr (.inl 82))], sy_dS F1 [.inr (.inl 83), .inl (.ref 68), .inl (.ref 46)], sy_dh F1 X1 X2 (iv_H 2), 0, 0)) :
    hd_W Ls xs d jm_M113 Q (0, sy_dL F [some (.inl (.ref 8)), some (.inr (.inl 82))], sy_dS F [], sy_dh F X1 X2 (iv_H 2), 0, 0) := by
  by_cases g0 : (sy_i F 82).toInt < 0
  · exact k2oho_0_p0 hd F X1 X2 hB (by first | exact g0 | (simp only [nz_c]; exact g0)) (fun F1 g  => k0 g0 F1 (nz_in0 hB [] (fun j hj hn => g j hj (by simp only [List.mem_cons, List.not_mem_nil, or_false, not_or] at hn; exact trivial)) (List.forall_mem_nil _)) (fun j hj hn => g j hj (by simp only [List.mem_cons, List.not_mem_nil, or_false, not_or] at hn; exact trivial)) (nz_fi (g 0 (by decide) (by decide))) (nz_fi (g 1 (by decide) (by decide))) (nz_fi (g 79 (by decide) (by decide))) (nz_fa (g 2 (by decide) (by decide))) (nz_fa (g 78 (by decide) (by decide))))
  replace g0 : 0 ≤ (sy_i F 82).toInt := by omega
  by_cases g1 : 2 < (sy_i F 82).toInt
  · exact k2oho_0_p1 hd F X1 X2 hB (by first | exact g0 | (simp only [nz_c]; exact g0)) (by first | exact g1 | (simp only [nz_c]; exact g1)) (fun F1 g  => k1 g0 g1 F1 (nz_in0 hB [] (fun j hj hn => g j hj (by simp only [List.mem_cons, List.not_mem_nil, or_false, not_or] at hn; exact trivial)) (List.forall_mem_nil _)) (fun j hj hn => g j hj (by simp only [List.mem_cons, List.not_mem_nil, or_false, not_or] at hn; exact trivial)) (nz_fi (g 0 (by decide) (by decide))) (nz_fi (g 1 (by decide) (by decide))) (nz_fi (g 79 (by decide) (by decide))) (nz_fa (g 2 (by decide) (by decide))) (nz_fa (g 78 (by decide) (by decide))))
  replace g1 : (sy_i F 82).toInt ≤ 2 := by omega
  have n83 : ((sy_i F 82) * ((60 : Int32))).toInt = ((sy_i F 82).toInt * 60) := nz_mul (rfl : (sy_i F 82).toInt = (sy_i F 82).toInt) (by decide : ((60 : Int32)).toInt = 60) (by omega) (by omega)
  exact k2oho_0_p2 hd F X1 X2 hB (by first | exact g0 | (simp only [nz_c]; exact g0)) (by first | exact g1 | (simp only [nz_c]; exact g1)) (fun F1 g e82 e83 => k2 g0 g1 F1 (nz_in0 hB [] (fun j hj hn => g j hj (by simp only [List.mem_cons, List.not_mem_nil, or_false, not_or] at hn; exact trivial)) (List.forall_mem_nil _)) (fun j hj hn => g j hj (by simp only [List.mem_cons, List.not_mem_nil, or_false, not_or] at hn; exact trivial)) (nz_fi (g 0 (by decide) (by decide))) (nz_fi (g 1 (by decide) (by decide))) (nz_fi (g 79 (by decide) (by decide))) (nz_fa (g 2 (by decide) (by decide))) (nz_fa (g 78 (by decide) (by decide))) ((congrArg Int32.toInt (zz_i e82)).trans (rfl : (sy_i F 82).toInt = (sy_i F 82).toInt)) ((congrArg Int32.toInt (zz_i e83)).trans n83))
theorem k2oho_26_p0 {Ls : Nat} {xs : Nat → Int32} {d : Nat} {Q : Option Value → jm_h → Prop} (hd : 3 ≤ d) (F : Nat → sy_d) (X1 X2 : List jm_c) (hB : iv_in F iv_B0)
    (h0 : 0 ≤ (sy_i F 82).toInt ∧ (sy_i F 82).toInt < 3)
    (k : ∀ F1 : Nat → sy_d, (∀ j, j < 82 → j ≠ 78 → F1 j = F j) → F1 78 = .inr (.inl (jm_upd (sy_ai F 78) (sy_i F 82).toNatClampNeg ((1 : Int32)))) → Q (some (.int ((1 : Int32)))) (sy_dh F1 X1 X2 (iv_H 2))) :
    hd_W Ls xs d jm_M113 Q (26, sy_dL F [some (.inl (.ref 8)), some (.inr (.inl 82))], sy_dS F [], sy_dh F X1 X2 (iv_H 2), 0, 0) := by
  refine hd_ret (s := 2) (nv := 83) (v := some (.inl (.int 1))) (uh := hd_ov (iv_id 0 iv_B0) [(78, .inr (.inr (.inl 83)))]) (f := false) (sp := []) (d0 := 2) (O := []) (T := [(40, [.inr (.inl 82), .inl (.int 1)], [.inr (.inl 78)])]) (P := [(6, .inr (.inl 82), .inl (.ref 3))]) jm_ok113 (by decide +kernel) (by decide +kernel) hd F X1 X2 (fun F' hF hs => ?_)
  have b82 := hd_b (F := F) (F' := F') (k := 82) (hF 82 (by decide))
  have a78 := hd_ba (F := F) (F' := F') (k := 78) (hF 78 (by decide))
  have t83 : sy_da F' (.inr (.inl 83)) = .inl (jm_upd (sy_ai F 78) (sy_i F 82).toNatClampNeg ((1 : Int32))) := hd_up (hs 0 _ rfl) b82 rfl a78
  have hB' : iv_in F' iv_B0 := iv_in_eq hB (fun j hj => hF j (Nat.lt_of_lt_of_le hj (by decide +kernel)))
  refine ⟨List.forall_mem_cons.mpr ⟨hd_pb b82 (by first | exact h0 | exact h0), fun _ h => absurd h List.not_mem_nil⟩, ?_⟩
  refine k _ ?_ ?_
  · exact fun j hj hn => (hd_keep hB' (Nat.lt_of_lt_of_le hj (by decide +kernel)) (by simp; omega)).trans (hF j (by omega))
  · exact hd_ga (a := .inr (.inl 83)) (by decide +kernel) t83
theorem k2oho_26 {Ls : Nat} {xs : Nat → Int32} {d : Nat} {Q : Option Value → jm_h → Prop} (hd : 3 ≤ d) (F : Nat → sy_d) (X1 X2 : List jm_c) (hB : iv_in F iv_B0)
    (a82 : 0 ≤ (sy_i F 82).toInt ∧ (sy_i F 82).toInt ≤ 2)
    (k0 : ∀ F1 : Nat → sy_d, iv_in F1 iv_B0 → (∀ j, j < 82 → j ∉ ([78] : List Nat) → F1 j = F j) → (sy_i F1 0).toInt = (sy_i F 0).toInt → (sy_i F1 1).toInt = (sy_i F 1).toInt → (sy_i F1 79).toInt = (sy_i F 79).toInt → sy_ai F1 2 = sy_ai F 2 → sy_ai F1 78 = jm_upd (sy_ai F 78) ((sy_i F 82).toInt).toNat ((1 : Int32)) → Q (some (.int ((1 : Int32)))) (sy_dh F1 X1 X2 (iv_H 2))) :
    hd_W Ls xs d jm_M113 Q (26, sy_dL F [some (.inl (.ref 8)), some (.inr (.inl 82))], sy_dS F [], sy_dh F X1 X2 (iv_H 2), 0, 0) := by
  have w83 : jm_upd (sy_ai F 78) (sy_i F 82).toNatClampNeg ((1 : Int32)) = jm_upd (sy_ai F 78) ((sy_i F 82).toInt).toNat ((1 : Int32)) := by simp only [nz_c, (by decide : ((1 : Int32)).toInt = 1)]
  exact k2oho_26_p0 hd F X1 X2 hB (by first | exact ⟨by omega, by omega⟩ | (simp only [nz_c]; exact ⟨by omega, by omega⟩)) (fun F1 g e78 => k0 F1 (nz_in0 hB [78] (fun j hj hn => g j hj (by simp only [List.mem_cons, List.not_mem_nil, or_false, not_or] at hn; omega)) (List.forall_mem_cons.mpr ⟨fun t ht => (Option.some.inj ht) ▸ (nz_hA e78 (nz_up (nz_ba hB (k := 78) (lo := 0) (hi := 1) rfl) (by decide : ((1 : Int32)).toInt = 1) (by omega) (by omega))), List.forall_mem_nil _⟩)) (fun j hj hn => g j hj (by simp only [List.mem_cons, List.not_mem_nil, or_false, not_or] at hn; omega)) (nz_fi (g 0 (by decide) (by decide))) (nz_fi (g 1 (by decide) (by decide))) (nz_fi (g 79 (by decide) (by decide))) (nz_fa (g 2 (by decide) (by decide))) ((zz_ai e78).trans w83))
theorem k2ore_0_p0 {Ls : Nat} {xs : Nat → Int32} {d : Nat} {Q : Option Value → jm_h → Prop} (hd : 3 ≤ d) (F : Nat → sy_d) (X1 X2 : List jm_c) (hB : iv_in F iv_B0)
    (h0 : (sy_i F 82).toInt < 0)
    (k : ∀ F1 : Nat → sy_d, (∀ j, j < 82 → True → F1 j = F j) → Q (some (.int ((0 : Int32)))) (sy_dh F1 X1 X2 (iv_H 2))) :
    hd_W Ls xs d jm_M114 Q (0, sy_dL F [some (.inl (.ref 8)), some (.inr (.inl 82))], sy_dS F [], sy_dh F X1 X2 (iv_H 2), 0, 0) := by
  refine hd_ret (s := 2) (nv := 83) (v := some (.inl (.int 0))) (uh := hd_ov (iv_id 0 iv_B0) []) (f := true) (sp := [32]) (d0 := 2) (O := [true]) (T := []) (P := [(2, .inr (.inl 82), .inl (.int 0))]) jm_ok114 (by decide +kernel) (by decide +kernel) hd F X1 X2 (fun F' hF hs => ?_)
  have b82 := hd_b (F := F) (F' := F') (k := 82) (hF 82 (by decide))
  have hB' : iv_in F' iv_B0 := iv_in_eq hB (fun j hj => hF j (Nat.lt_of_lt_of_le hj (by decide +kernel)))
  refine ⟨List.forall_mem_cons.mpr ⟨hd_p2 b82 rfl (by have hc : ((0) : Int32).toInt = 0 := (by decide); omega), fun _ h => absurd h List.not_mem_nil⟩, ?_⟩
  refine k _ ?_
  · exact fun j hj _ => (hd_keep hB' (Nat.lt_of_lt_of_le hj (by decide +kernel)) (by simp)).trans (hF j (by omega))
theorem k2ore_0_p1 {Ls : Nat} {xs : Nat → Int32} {d : Nat} {Q : Option Value → jm_h → Prop} (hd : 3 ≤ d) (F : Nat → sy_d) (X1 X2 : List jm_c) (hB : iv_in F iv_B0)
    (h0 : 0 ≤ (sy_i F 82).toInt)
    (h1 : 2 < (sy_i F 82).toInt)
    (k : ∀ F1 : Nat → sy_d, (∀ j, j < 82 → True → F1 j = F j) → Q (some (.int ((0 : Int32)))) (sy_dh F1 X1 X2 (iv_H 2))) :
    hd_W Ls xs d jm_M114 Q (0, sy_dL F [some (.inl (.ref 8)), some (.inr (.inl 82))], sy_dS F [], sy_dh F X1 X2 (iv_H 2), 0, 0) := by
  refine hd_ret (s := 2) (nv := 83) (v := some (.inl (.int 0))) (uh := hd_ov (iv_id 0 iv_B0) []) (f := true) (sp := [32]) (d0 := 2) (O := [false, true]) (T := []) (P := [(3, .inr (.inl 82), .inl (.int 0)), (2, .inl (.int 2), .inr (.inl 82))]) jm_ok114 (by decide +kernel) (by decide +kernel) hd F X1 X2 (fun F' hF hs => ?_)
  have b82 := hd_b (F := F) (F' := F') (k := 82) (hF 82 (by decide))
  have hB' : iv_in F' iv_B0 := iv_in_eq hB (fun j hj => hF j (Nat.lt_of_lt_of_le hj (by decide +kernel)))
  refine ⟨List.forall_mem_cons.mpr ⟨hd_p3 b82 rfl (by have hc : ((0) : Int32).toInt = 0 := (by decide); omega), List.forall_mem_cons.mpr ⟨hd_p2 rfl b82 (by have hc : ((2) : Int32).toInt = 2 := (by decide); omega), fun _ h => absurd h List.not_mem_nil⟩⟩, ?_⟩
  refine k _ ?_
  · exact fun j hj _ => (hd_keep hB' (Nat.lt_of_lt_of_le hj (by decide +kernel)) (by simp)).trans (hF j (by omega))
theorem k2ore_0_p2 {Ls : Nat} {xs : Nat → Int32} {d : Nat} {Q : Option Value → jm_h → Prop} (hd : 3 ≤ d) (F : Nat → sy_d) (X1 X2 : List jm_c) (hB : iv_in F iv_B0)
    (h0 : 0 ≤ (sy_i F 82).toInt)
    (h1 : (sy_i F 82).toInt ≤ 2)
    (h2 : 0 ≤ (sy_i F 82).toInt ∧ (sy_i F 82).toInt < 3)
    (h3 : ((sy_ai F 78).getD (sy_i F 82).toNatClampNeg 0).toInt ≠ 0)
    (k : ∀ F1 : Nat → sy_d, (∀ j, j < 82 → True → F1 j = F j) → F1 82 = .inl (.int ((sy_i F 82) * ((60 : Int32)))) → hd_W Ls xs d jm_M114 Q (32, sy_dL F1 [some (.inl (.ref 8)), none], sy_dS F1 [.inr (.inl 82), .inl (.ref 68), .inl (.ref 46)], sy_dh F1 X1 X2 (iv_H 2), 0, 0)) :
    hd_W Ls xs d jm_M114 Q (0, sy_dL F [some (.inl (.ref 8)), some (.inr (.inl 82))], sy_dS F [], sy_dh F X1 X2 (iv_H 2), 0, 0) := by
  refine hd_run (s := 2) (nv := 83) (pc := 32) (L := [some (.inl (.ref 8)), none]) (S := [.inr (.inl 82), .inl (.ref 68), .inl (.ref 46)]) (uh := hd_ov (iv_id 0 iv_B0) []) (ul := [.inl (.inr (.inl 84))]) (f := true) (sp := [32]) (d0 := 2) (O := [false, false, true]) (T := [(30, [.inr (.inl 82)], [.inr (.inl 78)]), (2, [.inr (.inl 82), .inl (.int 60)], [])]) (P := [(3, .inr (.inl 82), .inl (.int 0)), (3, .inl (.int 2), .inr (.inl 82)), (6, .inr (.inl 82), .inl (.ref 3)), (1, .inr (.inl 83), .inl (.int 0))]) jm_ok114 (by decide +kernel) (by decide +kernel) hd F X1 X2 (fun F' hF hs => ?_)
  have b82 := hd_b (F := F) (F' := F') (k := 82) (hF 82 (by decide))
  have a78 := hd_ba (F := F) (F' := F') (k := 78) (hF 78 (by decide))
  have t83 : sy_dv F' (.inr (.inl 83)) = .int ((sy_ai F 78).getD (sy_i F 82).toNatClampNeg 0) := hd_rd (hs 0 _ rfl) b82 a78
  have t84 : sy_dv F' (.inr (.inl 84)) = .int ((sy_i F 82) * ((60 : Int32))) := hd_o (hs 1 _ rfl) b82 rfl rfl
  have hB' : iv_in F' iv_B0 := iv_in_eq hB (fun j hj => hF j (Nat.lt_of_lt_of_le hj (by decide +kernel)))
  refine ⟨List.forall_mem_cons.mpr ⟨hd_p3 b82 rfl (by have hc : ((0) : Int32).toInt = 0 := (by decide); omega), List.forall_mem_cons.mpr ⟨hd_p3 rfl b82 (by have hc : ((2) : Int32).toInt = 2 := (by decide); omega), List.forall_mem_cons.mpr ⟨hd_pb b82 (by first | exact h2 | exact h2), List.forall_mem_cons.mpr ⟨hd_p1 t83 rfl (by have hc : ((0) : Int32).toInt = 0 := (by decide); omega), fun _ h => absurd h List.not_mem_nil⟩⟩⟩⟩, ?_⟩
  refine k _ ?_ ?_
  · exact fun j hj _ => (hd_keep hB' (Nat.lt_of_lt_of_le hj (by decide +kernel)) (by simp)).trans (hF j (by omega))
  · exact hd_gi (x := .inr (.inl 84)) (by decide +kernel) t84
theorem k2ore_0_p3 {Ls : Nat} {xs : Nat → Int32} {d : Nat} {Q : Option Value → jm_h → Prop} (hd : 3 ≤ d) (F : Nat → sy_d) (X1 X2 : List jm_c) (hB : iv_in F iv_B0)
    (h0 : 0 ≤ (sy_i F 82).toInt)
    (h1 : (sy_i F 82).toInt ≤ 2)
    (h2 : 0 ≤ (sy_i F 82).toInt ∧ (sy_i F 82).toInt < 3)
    (h3 : ((sy_ai F 78).getD (sy_i F 82).toNatClampNeg 0).toInt = 0)
    (k : ∀ F1 : Nat → sy_d, (∀ j, j < 82 → True → F1 j = F j) → Q (some (.int ((0 : Int32)))) (sy_dh F1 X1 X2 (iv_H 2))) :
    hd_W Ls xs d jm_M114 Q (0, sy_dL F [some (.inl (.ref 8)), some (.inr (.inl 82))], sy_dS F [], sy_dh F X1 X2 (iv_H 2), 0, 0) := by
  refine hd_ret (s := 2) (nv := 83) (v := some (.inl (.int 0))) (uh := hd_ov (iv_id 0 iv_B0) []) (f := true) (sp := [32]) (d0 := 2) (O := [false, false, false]) (T := [(30, [.inr (.inl 82)], [.inr (.inl 78)])]) (P := [(3, .inr (.inl 82), .inl (.int 0)), (3, .inl (.int 2), .inr (.inl 82)), (6, .inr (.inl 82), .inl (.ref 3)), (0, .inr (.inl 83), .inl (.int 0))]) jm_ok114 (by decide +kernel) (by decide +kernel) hd F X1 X2 (fun F' hF hs => ?_)
  have b82 := hd_b (F := F) (F' := F') (k := 82) (hF 82 (by decide))
  have a78 := hd_ba (F := F) (F' := F') (k := 78) (hF 78 (by decide))
  have t83 : sy_dv F' (.inr (.inl 83)) = .int ((sy_ai F 78).getD (sy_i F 82).toNatClampNeg 0) := hd_rd (hs 0 _ rfl) b82 a78
  have hB' : iv_in F' iv_B0 := iv_in_eq hB (fun j hj => hF j (Nat.lt_of_lt_of_le hj (by decide +kernel)))
  refine ⟨List.forall_mem_cons.mpr ⟨hd_p3 b82 rfl (by have hc : ((0) : Int32).toInt = 0 := (by decide); omega), List.forall_mem_cons.mpr ⟨hd_p3 rfl b82 (by have hc : ((2) : Int32).toInt = 2 := (by decide); omega), List.forall_mem_cons.mpr ⟨hd_pb b82 (by first | exact h2 | exact h2), List.forall_mem_cons.mpr ⟨hd_p0 t83 rfl (by have hc : ((0) : Int32).toInt = 0 := (by decide); omega), fun _ h => absurd h List.not_mem_nil⟩⟩⟩⟩, ?_⟩
  refine k _ ?_
  · exact fun j hj _ => (hd_keep hB' (Nat.lt_of_lt_of_le hj (by decide +kernel)) (by simp)).trans (hF j (by omega))
theorem k2ore_0 {Ls : Nat} {xs : Nat → Int32} {d : Nat} {Q : Option Value → jm_h → Prop} (hd : 3 ≤ d) (F : Nat → sy_d) (X1 X2 : List jm_c) (hB : iv_in F iv_B0)
    (k0 : (sy_i F 82).toInt < 0 → ∀ F1 : Nat → sy_d, iv_in F1 iv_B0 → (∀ j, j < 82 → j ∉ ([] : List Nat) → F1 j = F j) → (sy_i F1 0).toInt = (sy_i F 0).toInt → (sy_i F1 1).toInt = (sy_i F 1).toInt → (sy_i F1 79).toInt = (sy_i F 79).toInt → sy_ai F1 2 = sy_ai F 2 → sy_ai F1 78 = sy_ai F 78 → Q (some (.int ((0 : Int32)))) (sy_dh F1 X1 X2 (iv_H 2)))
    (k1 : 0 ≤ (sy_i F 82).toInt → 2 < (sy_i F 82).toInt → ∀ F1 : Nat → sy_d, iv_in F1 iv_B0 → (∀ j, j < 82 → j ∉ ([] : List Nat) → F1 j = F j) → (sy_i F1 0).toInt = (sy_i F 0).toInt → (sy_i F1 1).toInt = (sy_i F 1).toInt → (sy_i F1 79).toInt = (sy_i F 79).toInt → sy_ai F1 2 = sy_ai F 2 → sy_ai F1 78 = sy_ai F 78 → Q (some (.int ((0 : Int32)))) (sy_dh F1 X1 X2 (iv_H 2)))
    (k2 : 0 ≤ (sy_i F 82).toInt → (sy_i F 82).toInt ≤ 2 → ((sy_ai F 78).getD ((sy_i F 82).toInt).toNat 0).toInt ≠ 0 → ∀ F1 : Nat → sy_d, iv_in F1 iv_B0 → (∀ j, j < 82 → j ∉ ([] : List Nat) → F1 j = F j) → (sy_i F1 0).toInt = (sy_i F 0).toInt → (sy_i F1 1).toInt = (sy_i F 1).toInt → (sy_i F1 79).toInt = (sy_i F 79).toInt → sy_ai F1 2 = sy_ai F 2 → sy_ai F1 78 = sy_ai F 78 → (sy_i F1 82).toInt = ((sy_i F 82).toInt * 60) → hd_W Ls xs d jm_M114 Q (32, sy_dL F1 [some (.inl (.ref 8)), none], sy_dS F1 [.inr (.inl 82), .inl (.ref 68), .inl (.ref 46)], sy_dh F1 X1 X2 (iv_H 2), 0, 0))
    (k3 : 0 ≤ (sy_i F 82).toInt → (sy_i F 82).toInt ≤ 2 → ((sy_ai F 78).getD ((sy_i F 82).toInt).toNat 0).toInt = 0 → ∀ F1 : Nat → sy_d, iv_in F1 iv_B0 → (∀ j, j < 82 → j ∉ ([] : List Nat) → F1 j = F j) → (sy_i F1 0).toInt = (sy_i F 0).toInt → (sy_i F1 1).toInt = (sy_i F 1).toInt → (sy_i F1 79).toInt = (sy_i F 79).toInt → sy_ai F1 2 = sy_ai F 2 → sy_ai F1 78 = sy_ai F 78 → Q (some (.int ((0 : Int32)))) (sy_dh F1 X1 X2 (iv_H 2))) :
    hd_W Ls xs d jm_M114 Q (0, sy_dL F [some (.inl (.ref 8)), some (.inr (.inl 82))], sy_dS F [], sy_dh F X1 X2 (iv_H 2), 0, 0) := by
  by_cases g0 : (sy_i F 82).toInt < 0
  · exact k2ore_0_p0 hd F X1 X2 hB (by first | exact g0 | (simp only [nz_c]; exact g0)) (fun F1 g  => k0 g0 F1 (nz_in0 hB [] (fun j hj hn => g j hj (by simp only [List.mem_cons, List.not_mem_nil, or_false, not_or] at hn; exact trivial)) (List.forall_mem_nil _)) (fun j hj hn => g j hj (by simp only [List.mem_cons, List.not_mem_nil, or_false, not_or] at hn; exact trivial)) (nz_fi (g 0 (by decide) (by decide))) (nz_fi (g 1 (by decide) (by decide))) (nz_fi (g 79 (by decide) (by decide))) (nz_fa (g 2 (by decide) (by decide))) (nz_fa (g 78 (by decide) (by decide))))
  replace g0 : 0 ≤ (sy_i F 82).toInt := by omega
  by_cases g1 : 2 < (sy_i F 82).toInt
  · exact k2ore_0_p1 hd F X1 X2 hB (by first | exact g0 | (simp only [nz_c]; exact g0)) (by first | exact g1 | (simp only [nz_c]; exact g1)) (fun F1 g  => k1 g0 g1 F1 (nz_in0 hB [] (fun j hj hn => g j hj (by simp only [List.mem_cons, List.not_mem_nil, or_false, not_or] at hn; exact trivial)) (List.forall_mem_nil _)) (fun j hj hn => g j hj (by simp only [List.mem_cons, List.not_mem_nil, or_false, not_or] at hn; exact trivial)) (nz_fi (g 0 (by decide) (by decide))) (nz_fi (g 1 (by decide) (by decide))) (nz_fi (g 79 (by decide) (by decide))) (nz_fa (g 2 (by decide) (by decide))) (nz_fa (g 78 (by decide) (by decide))))
  replace g1 : (sy_i F 82).toInt ≤ 2 := by omega
  by_cases g2 : ((sy_ai F 78).getD ((sy_i F 82).toInt).toNat 0).toInt ≠ 0
  · have q83 : (sy_ai F 78).getD (sy_i F 82).toNatClampNeg 0 = (sy_ai F 78).getD ((sy_i F 82).toInt).toNat 0 := by simp only [nz_c]
    have n83 : ((sy_ai F 78).getD (sy_i F 82).toNatClampNeg 0).toInt = ((sy_ai F 78).getD ((sy_i F 82).toInt).toNat 0).toInt := congrArg Int32.toInt q83
    have r83 := nz_ba hB (k := 78) (lo := 0) (hi := 1) rfl ((sy_i F 82).toInt).toNat
    have n84 : ((sy_i F 82) * ((60 : Int32))).toInt = ((sy_i F 82).toInt * 60) := nz_mul (rfl : (sy_i F 82).toInt = (sy_i F 82).toInt) (by decide : ((60 : Int32)).toInt = 60) (by omega) (by omega)
    exact k2ore_0_p2 hd F X1 X2 hB (by first | exact g0 | (simp only [nz_c]; exact g0)) (by first | exact g1 | (simp only [nz_c]; exact g1)) (by first | exact ⟨by omega, by omega⟩ | (simp only [nz_c]; exact ⟨by omega, by omega⟩)) (by first | exact g2 | (simp only [nz_c]; exact g2) | (rw [n83]; exact g2)) (fun F1 g e82 => k2 g0 g1 g2 F1 (nz_in0 hB [] (fun j hj hn => g j hj (by simp only [List.mem_cons, List.not_mem_nil, or_false, not_or] at hn; exact trivial)) (List.forall_mem_nil _)) (fun j hj hn => g j hj (by simp only [List.mem_cons, List.not_mem_nil, or_false, not_or] at hn; exact trivial)) (nz_fi (g 0 (by decide) (by decide))) (nz_fi (g 1 (by decide) (by decide))) (nz_fi (g 79 (by decide) (by decide))) (nz_fa (g 2 (by decide) (by decide))) (nz_fa (g 78 (by decide) (by decide))) ((congrArg Int32.toInt (zz_i e82)).trans n84))
  replace g2 : ((sy_ai F 78).getD ((sy_i F 82).toInt).toNat 0).toInt = 0 := by omega
  have q83 : (sy_ai F 78).getD (sy_i F 82).toNatClampNeg 0 = (sy_ai F 78).getD ((sy_i F 82).toInt).toNat 0 := by simp only [nz_c]
  have n83 : ((sy_ai F 78).getD (sy_i F 82).toNatClampNeg 0).toInt = ((sy_ai F 78).getD ((sy_i F 82).toInt).toNat 0).toInt := congrArg Int32.toInt q83
  have r83 := nz_ba hB (k := 78) (lo := 0) (hi := 1) rfl ((sy_i F 82).toInt).toNat
  exact k2ore_0_p3 hd F X1 X2 hB (by first | exact g0 | (simp only [nz_c]; exact g0)) (by first | exact g1 | (simp only [nz_c]; exact g1)) (by first | exact ⟨by omega, by omega⟩ | (simp only [nz_c]; exact ⟨by omega, by omega⟩)) (by first | exact g2 | (simp only [nz_c]; exact g2) | (rw [n83]; exact g2)) (fun F1 g  => k3 g0 g1 g2 F1 (nz_in0 hB [] (fun j hj hn => g j hj (by simp only [List.mem_cons, List.not_mem_nil, or_false, not_or] at hn; exact trivial)) (List.forall_mem_nil _)) (fun j hj hn => g j hj (by simp only [List.mem_cons, List.not_mem_nil, or_false, not_or] at hn; exact trivial)) (nz_fi (g 0 (by decide) (by decide))) (nz_fi (g 1 (by decide) (by decide))) (nz_fi (g 79 (by decide) (by decide))) (nz_fa (g 2 (by decide) (by decide))) (nz_fa (g 78 (by decide) (by decide))))
theorem k2ore_35_p0 {Ls : Nat} {xs : Nat → Int32} {d : Nat} {Q : Option Value → jm_h → Prop} (hd : 3 ≤ d) (F : Nat → sy_d) (X1 X2 : List jm_c) (hB : iv_in F iv_B0)
    (k : ∀ F1 : Nat → sy_d, (∀ j, j < 82 → j ≠ 74 ∧ j ≠ 75 → F1 j = F j) → F1 74 = .inl (.int ((0 : Int32))) → F1 75 = .inl (.int ((0 : Int32))) → Q (some (.int ((1 : Int32)))) (sy_dh F1 X1 X2 (iv_H 2))) :
    hd_W Ls xs d jm_M114 Q (35, sy_dL F [some (.inl (.ref 8)), none], sy_dS F [], sy_dh F X1 X2 (iv_H 2), 0, 0) := by
  refine hd_ret (s := 2) (nv := 82) (v := some (.inl (.int 1))) (uh := hd_ov (iv_id 0 iv_B0) [(74, .inl (.inl (.int 0))), (75, .inl (.inl (.int 0)))]) (f := false) (sp := []) (d0 := 2) (O := []) (T := []) (P := []) jm_ok114 (by decide +kernel) (by decide +kernel) hd F X1 X2 (fun F' hF hs => ?_)
  have hB' : iv_in F' iv_B0 := iv_in_eq hB (fun j hj => hF j (Nat.lt_of_lt_of_le hj (by decide +kernel)))
  refine ⟨fun _ h => absurd h List.not_mem_nil, ?_⟩
  refine k _ ?_ ?_ ?_
  · exact fun j hj hn => (hd_keep hB' (Nat.lt_of_lt_of_le hj (by decide +kernel)) (by simp; omega)).trans (hF j (by omega))
  · exact hd_gi (x := .inl (.int 0)) (by decide +kernel) rfl
  · exact hd_gi (x := .inl (.int 0)) (by decide +kernel) rfl
theorem k2ore_35 {Ls : Nat} {xs : Nat → Int32} {d : Nat} {Q : Option Value → jm_h → Prop} (hd : 3 ≤ d) (F : Nat → sy_d) (X1 X2 : List jm_c) (hB : iv_in F iv_B0)
    (k0 : ∀ F1 : Nat → sy_d, iv_in F1 iv_B0 → (∀ j, j < 82 → j ∉ ([74, 75] : List Nat) → F1 j = F j) → (sy_i F1 0).toInt = (sy_i F 0).toInt → (sy_i F1 1).toInt = (sy_i F 1).toInt → (sy_i F1 79).toInt = (sy_i F 79).toInt → sy_ai F1 2 = sy_ai F 2 → sy_ai F1 78 = sy_ai F 78 → Q (some (.int ((1 : Int32)))) (sy_dh F1 X1 X2 (iv_H 2))) :
    hd_W Ls xs d jm_M114 Q (35, sy_dL F [some (.inl (.ref 8)), none], sy_dS F [], sy_dh F X1 X2 (iv_H 2), 0, 0) := by
  exact k2ore_35_p0 hd F X1 X2 hB  (fun F1 g e74 e75 => k0 F1 (nz_in0 hB [74, 75] (fun j hj hn => g j hj (by simp only [List.mem_cons, List.not_mem_nil, or_false, not_or] at hn; omega)) (List.forall_mem_cons.mpr ⟨fun t ht => (Option.some.inj ht) ▸ (nz_hi e74 (by decide : ((0 : Int32)).toInt = 0) (by omega) (by omega)), List.forall_mem_cons.mpr ⟨fun t ht => (Option.some.inj ht) ▸ (nz_hi e75 (by decide : ((0 : Int32)).toInt = 0) (by omega) (by omega)), List.forall_mem_nil _⟩⟩)) (fun j hj hn => g j hj (by simp only [List.mem_cons, List.not_mem_nil, or_false, not_or] at hn; omega)) (nz_fi (g 0 (by decide) (by decide))) (nz_fi (g 1 (by decide) (by decide))) (nz_fi (g 79 (by decide) (by decide))) (nz_fa (g 2 (by decide) (by decide))) (nz_fa (g 78 (by decide) (by decide))))
theorem k2oap_0_p0 {Ls : Nat} {xs : Nat → Int32} {d : Nat} {Q : Option Value → jm_h → Prop} (hd : 1 ≤ d) (F : Nat → sy_d) (X1 X2 : List jm_c) (hB : iv_in F iv_B0)
    (h0 : 2000 ≤ (sy_i F 0).toInt)
    (k : ∀ F1 : Nat → sy_d, (∀ j, j < 82 → True → F1 j = F j) → Q (none) (sy_dh F1 X1 X2 (iv_H 2))) :
    hd_W Ls xs d jm_M116 Q (0, sy_dL F [some (.inl (.ref 8)), some (.inr (.inl 82)), none], sy_dS F [], sy_dh F X1 X2 (iv_H 2), 0, 0) := by
  refine hd_ret (s := 2) (nv := 83) (v := none) (uh := hd_ov (iv_id 0 iv_B0) []) (f := true) (sp := []) (d0 := 0) (O := [true]) (T := []) (P := [(4, .inl (.int 2000), .inr (.inl 0))]) jm_ok116 (by decide +kernel) (by decide +kernel) hd F X1 X2 (fun F' hF hs => ?_)
  have b0 := hd_b (F := F) (F' := F') (k := 0) (hF 0 (by decide))
  have hB' : iv_in F' iv_B0 := iv_in_eq hB (fun j hj => hF j (Nat.lt_of_lt_of_le hj (by decide +kernel)))
  refine ⟨List.forall_mem_cons.mpr ⟨hd_p4 rfl b0 (by have hc : ((2000) : Int32).toInt = 2000 := (by decide); omega), fun _ h => absurd h List.not_mem_nil⟩, ?_⟩
  refine k _ ?_
  · exact fun j hj _ => (hd_keep hB' (Nat.lt_of_lt_of_le hj (by decide +kernel)) (by simp)).trans (hF j (by omega))
theorem k2oap_0_p1 {Ls : Nat} {xs : Nat → Int32} {d : Nat} {Q : Option Value → jm_h → Prop} (hd : 1 ≤ d) (F : Nat → sy_d) (X1 X2 : List jm_c) (hB : iv_in F iv_B0)
    (h0 : (sy_i F 0).toInt < 2000)
    (h1 : 0 ≤ (sy_i F 0).toInt ∧ (sy_i F 0).toInt < 2000)
    (h2 : 2000 ≤ ((sy_i F 0) + ((1 : Int32))).toInt)
    (k : ∀ F1 : Nat → sy_d, (∀ j, j < 82 → j ≠ 0 ∧ j ≠ 2 → F1 j = F j) → F1 0 = .inl (.int ((sy_i F 0) + ((1 : Int32)))) → F1 2 = .inr (.inl (jm_upd (sy_ai F 2) (sy_i F 0).toNatClampNeg ((((((sy_i F 82)).toUInt32 >>> ((((24 : Int32))).toUInt32 &&& Int32.toUInt32 31)).toInt32).toInt8.toInt32).toInt8.toInt32))) → Q (none) (sy_dh F1 X1 X2 (iv_H 2))) :
    hd_W Ls xs d jm_M116 Q (0, sy_dL F [some (.inl (.ref 8)), some (.inr (.inl 82)), none], sy_dS F [], sy_dh F X1 X2 (iv_H 2), 0, 0) := by
  refine hd_ret (s := 2) (nv := 83) (v := none) (uh := hd_ov (iv_id 0 iv_B0) [(0, .inl (.inr (.inl 87))), (2, .inr (.inr (.inl 86)))]) (f := true) (sp := []) (d0 := 0) (O := [false, true]) (T := [(8, [.inr (.inl 82), .inl (.int 24)], []), (22, [.inr (.inl 83)], []), (22, [.inr (.inl 84)], []), (40, [.inr (.inl 0), .inr (.inl 85)], [.inr (.inl 2)]), (0, [.inr (.inl 0), .inl (.int 1)], [])]) (P := [(5, .inl (.int 2000), .inr (.inl 0)), (6, .inr (.inl 0), .inl (.ref 2000)), (4, .inl (.int 2000), .inr (.inl 87))]) jm_ok116 (by decide +kernel) (by decide +kernel) hd F X1 X2 (fun F' hF hs => ?_)
  have b0 := hd_b (F := F) (F' := F') (k := 0) (hF 0 (by decide))
  have t87 : sy_dv F' (.inr (.inl 87)) = .int ((sy_i F 0) + ((1 : Int32))) := hd_o (hs 4 _ rfl) b0 rfl rfl
  have b82 := hd_b (F := F) (F' := F') (k := 82) (hF 82 (by decide))
  have t83 : sy_dv F' (.inr (.inl 83)) = .int ((((sy_i F 82)).toUInt32 >>> ((((24 : Int32))).toUInt32 &&& Int32.toUInt32 31)).toInt32) := hd_o (hs 0 _ rfl) b82 rfl rfl
  have t84 : sy_dv F' (.inr (.inl 84)) = .int (((((sy_i F 82)).toUInt32 >>> ((((24 : Int32))).toUInt32 &&& Int32.toUInt32 31)).toInt32).toInt8.toInt32) := hd_u (hs 1 _ rfl) t83 rfl
  have t85 : sy_dv F' (.inr (.inl 85)) = .int ((((((sy_i F 82)).toUInt32 >>> ((((24 : Int32))).toUInt32 &&& Int32.toUInt32 31)).toInt32).toInt8.toInt32).toInt8.toInt32) := hd_u (hs 2 _ rfl) t84 rfl
  have a2 := hd_ba (F := F) (F' := F') (k := 2) (hF 2 (by decide))
  have t86 : sy_da F' (.inr (.inl 86)) = .inl (jm_upd (sy_ai F 2) (sy_i F 0).toNatClampNeg ((((((sy_i F 82)).toUInt32 >>> ((((24 : Int32))).toUInt32 &&& Int32.toUInt32 31)).toInt32).toInt8.toInt32).toInt8.toInt32)) := hd_up (hs 3 _ rfl) b0 t85 a2
  have hB' : iv_in F' iv_B0 := iv_in_eq hB (fun j hj => hF j (Nat.lt_of_lt_of_le hj (by decide +kernel)))
  refine ⟨List.forall_mem_cons.mpr ⟨hd_p5 rfl b0 (by have hc : ((2000) : Int32).toInt = 2000 := (by decide); omega), List.forall_mem_cons.mpr ⟨hd_pb b0 (by first | exact h1 | exact h1), List.forall_mem_cons.mpr ⟨hd_p4 rfl t87 (by have hc : ((2000) : Int32).toInt = 2000 := (by decide); omega), fun _ h => absurd h List.not_mem_nil⟩⟩⟩, ?_⟩
  refine k _ ?_ ?_ ?_
  · exact fun j hj hn => (hd_keep hB' (Nat.lt_of_lt_of_le hj (by decide +kernel)) (by simp; omega)).trans (hF j (by omega))
  · exact hd_gi (x := .inr (.inl 87)) (by decide +kernel) t87
  · exact hd_ga (a := .inr (.inl 86)) (by decide +kernel) t86
theorem k2oap_0_p2 {Ls : Nat} {xs : Nat → Int32} {d : Nat} {Q : Option Value → jm_h → Prop} (hd : 1 ≤ d) (F : Nat → sy_d) (X1 X2 : List jm_c) (hB : iv_in F iv_B0)
    (h0 : (sy_i F 0).toInt < 2000)
    (h1 : 0 ≤ (sy_i F 0).toInt ∧ (sy_i F 0).toInt < 2000)
    (h2 : ((sy_i F 0) + ((1 : Int32))).toInt < 2000)
    (h3 : 0 ≤ ((sy_i F 0) + ((1 : Int32))).toInt ∧ ((sy_i F 0) + ((1 : Int32))).toInt < 2000)
    (h4 : 2000 ≤ (((sy_i F 0) + ((1 : Int32))) + ((1 : Int32))).toInt)
    (k : ∀ F1 : Nat → sy_d, (∀ j, j < 82 → j ≠ 0 ∧ j ≠ 2 → F1 j = F j) → F1 0 = .inl (.int (((sy_i F 0) + ((1 : Int32))) + ((1 : Int32)))) → F1 2 = .inr (.inl (jm_upd (jm_upd (sy_ai F 2) (sy_i F 0).toNatClampNeg ((((((sy_i F 82)).toUInt32 >>> ((((24 : Int32))).toUInt32 &&& Int32.toUInt32 31)).toInt32).toInt8.toInt32).toInt8.toInt32)) ((sy_i F 0) + ((1 : Int32))).toNatClampNeg ((((((sy_i F 82)).toUInt32 >>> ((((16 : Int32))).toUInt32 &&& Int32.toUInt32 31)).toInt32).toInt8.toInt32).toInt8.toInt32))) → Q (none) (sy_dh F1 X1 X2 (iv_H 2))) :
    hd_W Ls xs d jm_M116 Q (0, sy_dL F [some (.inl (.ref 8)), some (.inr (.inl 82)), none], sy_dS F [], sy_dh F X1 X2 (iv_H 2), 0, 0) := by
  refine hd_ret (s := 2) (nv := 83) (v := none) (uh := hd_ov (iv_id 0 iv_B0) [(0, .inl (.inr (.inl 92))), (2, .inr (.inr (.inl 91)))]) (f := true) (sp := []) (d0 := 0) (O := [false, false, true]) (T := [(8, [.inr (.inl 82), .inl (.int 24)], []), (22, [.inr (.inl 83)], []), (22, [.inr (.inl 84)], []), (40, [.inr (.inl 0), .inr (.inl 85)], [.inr (.inl 2)]), (0, [.inr (.inl 0), .inl (.int 1)], []), (8, [.inr (.inl 82), .inl (.int 16)], []), (22, [.inr (.inl 88)], []), (22, [.inr (.inl 89)], []), (40, [.inr (.inl 87), .inr (.inl 90)], [.inr (.inl 86)]), (0, [.inr (.inl 87), .inl (.int 1)], [])]) (P := [(5, .inl (.int 2000), .inr (.inl 0)), (6, .inr (.inl 0), .inl (.ref 2000)), (5, .inl (.int 2000), .inr (.inl 87)), (6, .inr (.inl 87), .inl (.ref 2000)), (4, .inl (.int 2000), .inr (.inl 92))]) jm_ok116 (by decide +kernel) (by decide +kernel) hd F X1 X2 (fun F' hF hs => ?_)
  have b0 := hd_b (F := F) (F' := F') (k := 0) (hF 0 (by decide))
  have t87 : sy_dv F' (.inr (.inl 87)) = .int ((sy_i F 0) + ((1 : Int32))) := hd_o (hs 4 _ rfl) b0 rfl rfl
  have t92 : sy_dv F' (.inr (.inl 92)) = .int (((sy_i F 0) + ((1 : Int32))) + ((1 : Int32))) := hd_o (hs 9 _ rfl) t87 rfl rfl
  have b82 := hd_b (F := F) (F' := F') (k := 82) (hF 82 (by decide))
  have t88 : sy_dv F' (.inr (.inl 88)) = .int ((((sy_i F 82)).toUInt32 >>> ((((16 : Int32))).toUInt32 &&& Int32.toUInt32 31)).toInt32) := hd_o (hs 5 _ rfl) b82 rfl rfl
  have t89 : sy_dv F' (.inr (.inl 89)) = .int (((((sy_i F 82)).toUInt32 >>> ((((16 : Int32))).toUInt32 &&& Int32.toUInt32 31)).toInt32).toInt8.toInt32) := hd_u (hs 6 _ rfl) t88 rfl
  have t90 : sy_dv F' (.inr (.inl 90)) = .int ((((((sy_i F 82)).toUInt32 >>> ((((16 : Int32))).toUInt32 &&& Int32.toUInt32 31)).toInt32).toInt8.toInt32).toInt8.toInt32) := hd_u (hs 7 _ rfl) t89 rfl
  have t83 : sy_dv F' (.inr (.inl 83)) = .int ((((sy_i F 82)).toUInt32 >>> ((((24 : Int32))).toUInt32 &&& Int32.toUInt32 31)).toInt32) := hd_o (hs 0 _ rfl) b82 rfl rfl
  have t84 : sy_dv F' (.inr (.inl 84)) = .int (((((sy_i F 82)).toUInt32 >>> ((((24 : Int32))).toUInt32 &&& Int32.toUInt32 31)).toInt32).toInt8.toInt32) := hd_u (hs 1 _ rfl) t83 rfl
  have t85 : sy_dv F' (.inr (.inl 85)) = .int ((((((sy_i F 82)).toUInt32 >>> ((((24 : Int32))).toUInt32 &&& Int32.toUInt32 31)).toInt32).toInt8.toInt32).toInt8.toInt32) := hd_u (hs 2 _ rfl) t84 rfl
  have a2 := hd_ba (F := F) (F' := F') (k := 2) (hF 2 (by decide))
  have t86 : sy_da F' (.inr (.inl 86)) = .inl (jm_upd (sy_ai F 2) (sy_i F 0).toNatClampNeg ((((((sy_i F 82)).toUInt32 >>> ((((24 : Int32))).toUInt32 &&& Int32.toUInt32 31)).toInt32).toInt8.toInt32).toInt8.toInt32)) := hd_up (hs 3 _ rfl) b0 t85 a2
  have t91 : sy_da F' (.inr (.inl 91)) = .inl (jm_upd (jm_upd (sy_ai F 2) (sy_i F 0).toNatClampNeg ((((((sy_i F 82)).toUInt32 >>> ((((24 : Int32))).toUInt32 &&& Int32.toUInt32 31)).toInt32).toInt8.toInt32).toInt8.toInt32)) ((sy_i F 0) + ((1 : Int32))).toNatClampNeg ((((((sy_i F 82)).toUInt32 >>> ((((16 : Int32))).toUInt32 &&& Int32.toUInt32 31)).toInt32).toInt8.toInt32).toInt8.toInt32)) := hd_up (hs 8 _ rfl) t87 t90 t86
  have hB' : iv_in F' iv_B0 := iv_in_eq hB (fun j hj => hF j (Nat.lt_of_lt_of_le hj (by decide +kernel)))
  refine ⟨List.forall_mem_cons.mpr ⟨hd_p5 rfl b0 (by have hc : ((2000) : Int32).toInt = 2000 := (by decide); omega), List.forall_mem_cons.mpr ⟨hd_pb b0 (by first | exact h1 | exact h1), List.forall_mem_cons.mpr ⟨hd_p5 rfl t87 (by have hc : ((2000) : Int32).toInt = 2000 := (by decide); omega), List.forall_mem_cons.mpr ⟨hd_pb t87 (by first | exact h3 | exact h3), List.forall_mem_cons.mpr ⟨hd_p4 rfl t92 (by have hc : ((2000) : Int32).toInt = 2000 := (by decide); omega), fun _ h => absurd h List.not_mem_nil⟩⟩⟩⟩⟩, ?_⟩
  refine k _ ?_ ?_ ?_
  · exact fun j hj hn => (hd_keep hB' (Nat.lt_of_lt_of_le hj (by decide +kernel)) (by simp; omega)).trans (hF j (by omega))
  · exact hd_gi (x := .inr (.inl 92)) (by decide +kernel) t92
  · exact hd_ga (a := .inr (.inl 91)) (by decide +kernel) t91
theorem k2oap_0_p3 {Ls : Nat} {xs : Nat → Int32} {d : Nat} {Q : Option Value → jm_h → Prop} (hd : 1 ≤ d) (F : Nat → sy_d) (X1 X2 : List jm_c) (hB : iv_in F iv_B0)
    (h0 : (sy_i F 0).toInt < 2000)
    (h1 : 0 ≤ (sy_i F 0).toInt ∧ (sy_i F 0).toInt < 2000)
    (h2 : ((sy_i F 0) + ((1 : Int32))).toInt < 2000)
    (h3 : 0 ≤ ((sy_i F 0) + ((1 : Int32))).toInt ∧ ((sy_i F 0) + ((1 : Int32))).toInt < 2000)
    (h4 : (((sy_i F 0) + ((1 : Int32))) + ((1 : Int32))).toInt < 2000)
    (h5 : 0 ≤ (((sy_i F 0) + ((1 : Int32))) + ((1 : Int32))).toInt ∧ (((sy_i F 0) + ((1 : Int32))) + ((1 : Int32))).toInt < 2000)
    (h6 : 2000 ≤ ((((sy_i F 0) + ((1 : Int32))) + ((1 : Int32))) + ((1 : Int32))).toInt)
    (k : ∀ F1 : Nat → sy_d, (∀ j, j < 82 → j ≠ 0 ∧ j ≠ 2 → F1 j = F j) → F1 0 = .inl (.int ((((sy_i F 0) + ((1 : Int32))) + ((1 : Int32))) + ((1 : Int32)))) → F1 2 = .inr (.inl (jm_upd (jm_upd (jm_upd (sy_ai F 2) (sy_i F 0).toNatClampNeg ((((((sy_i F 82)).toUInt32 >>> ((((24 : Int32))).toUInt32 &&& Int32.toUInt32 31)).toInt32).toInt8.toInt32).toInt8.toInt32)) ((sy_i F 0) + ((1 : Int32))).toNatClampNeg ((((((sy_i F 82)).toUInt32 >>> ((((16 : Int32))).toUInt32 &&& Int32.toUInt32 31)).toInt32).toInt8.toInt32).toInt8.toInt32)) (((sy_i F 0) + ((1 : Int32))) + ((1 : Int32))).toNatClampNeg ((((((sy_i F 82)).toUInt32 >>> ((((8 : Int32))).toUInt32 &&& Int32.toUInt32 31)).toInt32).toInt8.toInt32).toInt8.toInt32))) → Q (none) (sy_dh F1 X1 X2 (iv_H 2))) :
    hd_W Ls xs d jm_M116 Q (0, sy_dL F [some (.inl (.ref 8)), some (.inr (.inl 82)), none], sy_dS F [], sy_dh F X1 X2 (iv_H 2), 0, 0) := by
  refine hd_ret (s := 2) (nv := 83) (v := none) (uh := hd_ov (iv_id 0 iv_B0) [(0, .inl (.inr (.inl 97))), (2, .inr (.inr (.inl 96)))]) (f := true) (sp := []) (d0 := 0) (O := [false, false, false, true]) (T := [(8, [.inr (.inl 82), .inl (.int 24)], []), (22, [.inr (.inl 83)], []), (22, [.inr (.inl 84)], []), (40, [.inr (.inl 0), .inr (.inl 85)], [.inr (.inl 2)]), (0, [.inr (.inl 0), .inl (.int 1)], []), (8, [.inr (.inl 82), .inl (.int 16)], []), (22, [.inr (.inl 88)], []), (22, [.inr (.inl 89)], []), (40, [.inr (.inl 87), .inr (.inl 90)], [.inr (.inl 86)]), (0, [.inr (.inl 87), .inl (.int 1)], []), (8, [.inr (.inl 82), .inl (.int 8)], []), (22, [.inr (.inl 93)], []), (22, [.inr (.inl 94)], []), (40, [.inr (.inl 92), .inr (.inl 95)], [.inr (.inl 91)]), (0, [.inr (.inl 92), .inl (.int 1)], [])]) (P := [(5, .inl (.int 2000), .inr (.inl 0)), (6, .inr (.inl 0), .inl (.ref 2000)), (5, .inl (.int 2000), .inr (.inl 87)), (6, .inr (.inl 87), .inl (.ref 2000)), (5, .inl (.int 2000), .inr (.inl 92)), (6, .inr (.inl 92), .inl (.ref 2000)), (4, .inl (.int 2000), .inr (.inl 97))]) jm_ok116 (by decide +kernel) (by decide +kernel) hd F X1 X2 (fun F' hF hs => ?_)
  have b0 := hd_b (F := F) (F' := F') (k := 0) (hF 0 (by decide))
  have t87 : sy_dv F' (.inr (.inl 87)) = .int ((sy_i F 0) + ((1 : Int32))) := hd_o (hs 4 _ rfl) b0 rfl rfl
  have t92 : sy_dv F' (.inr (.inl 92)) = .int (((sy_i F 0) + ((1 : Int32))) + ((1 : Int32))) := hd_o (hs 9 _ rfl) t87 rfl rfl
  have t97 : sy_dv F' (.inr (.inl 97)) = .int ((((sy_i F 0) + ((1 : Int32))) + ((1 : Int32))) + ((1 : Int32))) := hd_o (hs 14 _ rfl) t92 rfl rfl
  have b82 := hd_b (F := F) (F' := F') (k := 82) (hF 82 (by decide))
  have t93 : sy_dv F' (.inr (.inl 93)) = .int ((((sy_i F 82)).toUInt32 >>> ((((8 : Int32))).toUInt32 &&& Int32.toUInt32 31)).toInt32) := hd_o (hs 10 _ rfl) b82 rfl rfl
  have t94 : sy_dv F' (.inr (.inl 94)) = .int (((((sy_i F 82)).toUInt32 >>> ((((8 : Int32))).toUInt32 &&& Int32.toUInt32 31)).toInt32).toInt8.toInt32) := hd_u (hs 11 _ rfl) t93 rfl
  have t95 : sy_dv F' (.inr (.inl 95)) = .int ((((((sy_i F 82)).toUInt32 >>> ((((8 : Int32))).toUInt32 &&& Int32.toUInt32 31)).toInt32).toInt8.toInt32).toInt8.toInt32) := hd_u (hs 12 _ rfl) t94 rfl
  have t88 : sy_dv F' (.inr (.inl 88)) = .int ((((sy_i F 82)).toUInt32 >>> ((((16 : Int32))).toUInt32 &&& Int32.toUInt32 31)).toInt32) := hd_o (hs 5 _ rfl) b82 rfl rfl
  have t89 : sy_dv F' (.inr (.inl 89)) = .int (((((sy_i F 82)).toUInt32 >>> ((((16 : Int32))).toUInt32 &&& Int32.toUInt32 31)).toInt32).toInt8.toInt32) := hd_u (hs 6 _ rfl) t88 rfl
  have t90 : sy_dv F' (.inr (.inl 90)) = .int ((((((sy_i F 82)).toUInt32 >>> ((((16 : Int32))).toUInt32 &&& Int32.toUInt32 31)).toInt32).toInt8.toInt32).toInt8.toInt32) := hd_u (hs 7 _ rfl) t89 rfl
  have t83 : sy_dv F' (.inr (.inl 83)) = .int ((((sy_i F 82)).toUInt32 >>> ((((24 : Int32))).toUInt32 &&& Int32.toUInt32 31)).toInt32) := hd_o (hs 0 _ rfl) b82 rfl rfl
  have t84 : sy_dv F' (.inr (.inl 84)) = .int (((((sy_i F 82)).toUInt32 >>> ((((24 : Int32))).toUInt32 &&& Int32.toUInt32 31)).toInt32).toInt8.toInt32) := hd_u (hs 1 _ rfl) t83 rfl
  have t85 : sy_dv F' (.inr (.inl 85)) = .int ((((((sy_i F 82)).toUInt32 >>> ((((24 : Int32))).toUInt32 &&& Int32.toUInt32 31)).toInt32).toInt8.toInt32).toInt8.toInt32) := hd_u (hs 2 _ rfl) t84 rfl
  have a2 := hd_ba (F := F) (F' := F') (k := 2) (hF 2 (by decide))
  have t86 : sy_da F' (.inr (.inl 86)) = .inl (jm_upd (sy_ai F 2) (sy_i F 0).toNatClampNeg ((((((sy_i F 82)).toUInt32 >>> ((((24 : Int32))).toUInt32 &&& Int32.toUInt32 31)).toInt32).toInt8.toInt32).toInt8.toInt32)) := hd_up (hs 3 _ rfl) b0 t85 a2
  have t91 : sy_da F' (.inr (.inl 91)) = .inl (jm_upd (jm_upd (sy_ai F 2) (sy_i F 0).toNatClampNeg ((((((sy_i F 82)).toUInt32 >>> ((((24 : Int32))).toUInt32 &&& Int32.toUInt32 31)).toInt32).toInt8.toInt32).toInt8.toInt32)) ((sy_i F 0) + ((1 : Int32))).toNatClampNeg ((((((sy_i F 82)).toUInt32 >>> ((((16 : Int32))).toUInt32 &&& Int32.toUInt32 31)).toInt32).toInt8.toInt32).toInt8.toInt32)) := hd_up (hs 8 _ rfl) t87 t90 t86
  have t96 : sy_da F' (.inr (.inl 96)) = .inl (jm_upd (jm_upd (jm_upd (sy_ai F 2) (sy_i F 0).toNatClampNeg ((((((sy_i F 82)).toUInt32 >>> ((((24 : Int32))).toUInt32 &&& Int32.toUInt32 31)).toInt32).toInt8.toInt32).toInt8.toInt32)) ((sy_i F 0) + ((1 : Int32))).toNatClampNeg ((((((sy_i F 82)).toUInt32 >>> ((((16 : Int32))).toUInt32 &&& Int32.toUInt32 31)).toInt32).toInt8.toInt32).toInt8.toInt32)) (((sy_i F 0) + ((1 : Int32))) + ((1 : Int32))).toNatClampNeg ((((((sy_i F 82)).toUInt32 >>> ((((8 : Int32))).toUInt32 &&& Int32.toUInt32 31)).toInt32).toInt8.toInt32).toInt8.toInt32)) := hd_up (hs 13 _ rfl) t92 t95 t91
  have hB' : iv_in F' iv_B0 := iv_in_eq hB (fun j hj => hF j (Nat.lt_of_lt_of_le hj (by decide +kernel)))
  refine ⟨List.forall_mem_cons.mpr ⟨hd_p5 rfl b0 (by have hc : ((2000) : Int32).toInt = 2000 := (by decide); omega), List.forall_mem_cons.mpr ⟨hd_pb b0 (by first | exact h1 | exact h1), List.forall_mem_cons.mpr ⟨hd_p5 rfl t87 (by have hc : ((2000) : Int32).toInt = 2000 := (by decide); omega), List.forall_mem_cons.mpr ⟨hd_pb t87 (by first | exact h3 | exact h3), List.forall_mem_cons.mpr ⟨hd_p5 rfl t92 (by have hc : ((2000) : Int32).toInt = 2000 := (by decide); omega), List.forall_mem_cons.mpr ⟨hd_pb t92 (by first | exact h5 | exact h5), List.forall_mem_cons.mpr ⟨hd_p4 rfl t97 (by have hc : ((2000) : Int32).toInt = 2000 := (by decide); omega), fun _ h => absurd h List.not_mem_nil⟩⟩⟩⟩⟩⟩⟩, ?_⟩
  refine k _ ?_ ?_ ?_
  · exact fun j hj hn => (hd_keep hB' (Nat.lt_of_lt_of_le hj (by decide +kernel)) (by simp; omega)).trans (hF j (by omega))
  · exact hd_gi (x := .inr (.inl 97)) (by decide +kernel) t97
  · exact hd_ga (a := .inr (.inl 96)) (by decide +kernel) t96
theorem k2oap_0_p4 {Ls : Nat} {xs : Nat → Int32} {d : Nat} {Q : Option Value → jm_h → Prop} (hd : 1 ≤ d) (F : Nat → sy_d) (X1 X2 : List jm_c) (hB : iv_in F iv_B0)
    (h0 : (sy_i F 0).toInt < 2000)
    (h1 : 0 ≤ (sy_i F 0).toInt ∧ (sy_i F 0).toInt < 2000)
    (h2 : ((sy_i F 0) + ((1 : Int32))).toInt < 2000)
    (h3 : 0 ≤ ((sy_i F 0) + ((1 : Int32))).toInt ∧ ((sy_i F 0) + ((1 : Int32))).toInt < 2000)
    (h4 : (((sy_i F 0) + ((1 : Int32))) + ((1 : Int32))).toInt < 2000)
    (h5 : 0 ≤ (((sy_i F 0) + ((1 : Int32))) + ((1 : Int32))).toInt ∧ (((sy_i F 0) + ((1 : Int32))) + ((1 : Int32))).toInt < 2000)
    (h6 : ((((sy_i F 0) + ((1 : Int32))) + ((1 : Int32))) + ((1 : Int32))).toInt < 2000)
    (h7 : 0 ≤ ((((sy_i F 0) + ((1 : Int32))) + ((1 : Int32))) + ((1 : Int32))).toInt ∧ ((((sy_i F 0) + ((1 : Int32))) + ((1 : Int32))) + ((1 : Int32))).toInt < 2000)
    (k : ∀ F1 : Nat → sy_d, (∀ j, j < 82 → j ≠ 0 ∧ j ≠ 2 → F1 j = F j) → F1 0 = .inl (.int (((((sy_i F 0) + ((1 : Int32))) + ((1 : Int32))) + ((1 : Int32))) + ((1 : Int32)))) → F1 2 = .inr (.inl (jm_upd (jm_upd (jm_upd (jm_upd (sy_ai F 2) (sy_i F 0).toNatClampNeg ((((((sy_i F 82)).toUInt32 >>> ((((24 : Int32))).toUInt32 &&& Int32.toUInt32 31)).toInt32).toInt8.toInt32).toInt8.toInt32)) ((sy_i F 0) + ((1 : Int32))).toNatClampNeg ((((((sy_i F 82)).toUInt32 >>> ((((16 : Int32))).toUInt32 &&& Int32.toUInt32 31)).toInt32).toInt8.toInt32).toInt8.toInt32)) (((sy_i F 0) + ((1 : Int32))) + ((1 : Int32))).toNatClampNeg ((((((sy_i F 82)).toUInt32 >>> ((((8 : Int32))).toUInt32 &&& Int32.toUInt32 31)).toInt32).toInt8.toInt32).toInt8.toInt32)) ((((sy_i F 0) + ((1 : Int32))) + ((1 : Int32))) + ((1 : Int32))).toNatClampNeg ((((((sy_i F 82)).toUInt32 >>> ((((0 : Int32))).toUInt32 &&& Int32.toUInt32 31)).toInt32).toInt8.toInt32).toInt8.toInt32))) → Q (none) (sy_dh F1 X1 X2 (iv_H 2))) :
    hd_W Ls xs d jm_M116 Q (0, sy_dL F [some (.inl (.ref 8)), some (.inr (.inl 82)), none], sy_dS F [], sy_dh F X1 X2 (iv_H 2), 0, 0) := by
  refine hd_ret (s := 2) (nv := 83) (v := none) (uh := hd_ov (iv_id 0 iv_B0) [(0, .inl (.inr (.inl 102))), (2, .inr (.inr (.inl 101)))]) (f := true) (sp := []) (d0 := 0) (O := [false, false, false, false]) (T := [(8, [.inr (.inl 82), .inl (.int 24)], []), (22, [.inr (.inl 83)], []), (22, [.inr (.inl 84)], []), (40, [.inr (.inl 0), .inr (.inl 85)], [.inr (.inl 2)]), (0, [.inr (.inl 0), .inl (.int 1)], []), (8, [.inr (.inl 82), .inl (.int 16)], []), (22, [.inr (.inl 88)], []), (22, [.inr (.inl 89)], []), (40, [.inr (.inl 87), .inr (.inl 90)], [.inr (.inl 86)]), (0, [.inr (.inl 87), .inl (.int 1)], []), (8, [.inr (.inl 82), .inl (.int 8)], []), (22, [.inr (.inl 93)], []), (22, [.inr (.inl 94)], []), (40, [.inr (.inl 92), .inr (.inl 95)], [.inr (.inl 91)]), (0, [.inr (.inl 92), .inl (.int 1)], []), (8, [.inr (.inl 82), .inl (.int 0)], []), (22, [.inr (.inl 98)], []), (22, [.inr (.inl 99)], []), (40, [.inr (.inl 97), .inr (.inl 100)], [.inr (.inl 96)]), (0, [.inr (.inl 97), .inl (.int 1)], [])]) (P := [(5, .inl (.int 2000), .inr (.inl 0)), (6, .inr (.inl 0), .inl (.ref 2000)), (5, .inl (.int 2000), .inr (.inl 87)), (6, .inr (.inl 87), .inl (.ref 2000)), (5, .inl (.int 2000), .inr (.inl 92)), (6, .inr (.inl 92), .inl (.ref 2000)), (5, .inl (.int 2000), .inr (.inl 97)), (6, .inr (.inl 97), .inl (.ref 2000))]) jm_ok116 (by decide +kernel) (by decide +kernel) hd F X1 X2 (fun F' hF hs => ?_)
  have b0 := hd_b (F := F) (F' := F') (k := 0) (hF 0 (by decide))
  have t87 : sy_dv F' (.inr (.inl 87)) = .int ((sy_i F 0) + ((1 : Int32))) := hd_o (hs 4 _ rfl) b0 rfl rfl
  have t92 : sy_dv F' (.inr (.inl 92)) = .int (((sy_i F 0) + ((1 : Int32))) + ((1 : Int32))) := hd_o (hs 9 _ rfl) t87 rfl rfl
  have t97 : sy_dv F' (.inr (.inl 97)) = .int ((((sy_i F 0) + ((1 : Int32))) + ((1 : Int32))) + ((1 : Int32))) := hd_o (hs 14 _ rfl) t92 rfl rfl
  have t102 : sy_dv F' (.inr (.inl 102)) = .int (((((sy_i F 0) + ((1 : Int32))) + ((1 : Int32))) + ((1 : Int32))) + ((1 : Int32))) := hd_o (hs 19 _ rfl) t97 rfl rfl
  have b82 := hd_b (F := F) (F' := F') (k := 82) (hF 82 (by decide))
  have t98 : sy_dv F' (.inr (.inl 98)) = .int ((((sy_i F 82)).toUInt32 >>> ((((0 : Int32))).toUInt32 &&& Int32.toUInt32 31)).toInt32) := hd_o (hs 15 _ rfl) b82 rfl rfl
  have t99 : sy_dv F' (.inr (.inl 99)) = .int (((((sy_i F 82)).toUInt32 >>> ((((0 : Int32))).toUInt32 &&& Int32.toUInt32 31)).toInt32).toInt8.toInt32) := hd_u (hs 16 _ rfl) t98 rfl
  have t100 : sy_dv F' (.inr (.inl 100)) = .int ((((((sy_i F 82)).toUInt32 >>> ((((0 : Int32))).toUInt32 &&& Int32.toUInt32 31)).toInt32).toInt8.toInt32).toInt8.toInt32) := hd_u (hs 17 _ rfl) t99 rfl
  have t93 : sy_dv F' (.inr (.inl 93)) = .int ((((sy_i F 82)).toUInt32 >>> ((((8 : Int32))).toUInt32 &&& Int32.toUInt32 31)).toInt32) := hd_o (hs 10 _ rfl) b82 rfl rfl
  have t94 : sy_dv F' (.inr (.inl 94)) = .int (((((sy_i F 82)).toUInt32 >>> ((((8 : Int32))).toUInt32 &&& Int32.toUInt32 31)).toInt32).toInt8.toInt32) := hd_u (hs 11 _ rfl) t93 rfl
  have t95 : sy_dv F' (.inr (.inl 95)) = .int ((((((sy_i F 82)).toUInt32 >>> ((((8 : Int32))).toUInt32 &&& Int32.toUInt32 31)).toInt32).toInt8.toInt32).toInt8.toInt32) := hd_u (hs 12 _ rfl) t94 rfl
  have t88 : sy_dv F' (.inr (.inl 88)) = .int ((((sy_i F 82)).toUInt32 >>> ((((16 : Int32))).toUInt32 &&& Int32.toUInt32 31)).toInt32) := hd_o (hs 5 _ rfl) b82 rfl rfl
  have t89 : sy_dv F' (.inr (.inl 89)) = .int (((((sy_i F 82)).toUInt32 >>> ((((16 : Int32))).toUInt32 &&& Int32.toUInt32 31)).toInt32).toInt8.toInt32) := hd_u (hs 6 _ rfl) t88 rfl
  have t90 : sy_dv F' (.inr (.inl 90)) = .int ((((((sy_i F 82)).toUInt32 >>> ((((16 : Int32))).toUInt32 &&& Int32.toUInt32 31)).toInt32).toInt8.toInt32).toInt8.toInt32) := hd_u (hs 7 _ rfl) t89 rfl
  have t83 : sy_dv F' (.inr (.inl 83)) = .int ((((sy_i F 82)).toUInt32 >>> ((((24 : Int32))).toUInt32 &&& Int32.toUInt32 31)).toInt32) := hd_o (hs 0 _ rfl) b82 rfl rfl
  have t84 : sy_dv F' (.inr (.inl 84)) = .int (((((sy_i F 82)).toUInt32 >>> ((((24 : Int32))).toUInt32 &&& Int32.toUInt32 31)).toInt32).toInt8.toInt32) := hd_u (hs 1 _ rfl) t83 rfl
  have t85 : sy_dv F' (.inr (.inl 85)) = .int ((((((sy_i F 82)).toUInt32 >>> ((((24 : Int32))).toUInt32 &&& Int32.toUInt32 31)).toInt32).toInt8.toInt32).toInt8.toInt32) := hd_u (hs 2 _ rfl) t84 rfl
  have a2 := hd_ba (F := F) (F' := F') (k := 2) (hF 2 (by decide))
  have t86 : sy_da F' (.inr (.inl 86)) = .inl (jm_upd (sy_ai F 2) (sy_i F 0).toNatClampNeg ((((((sy_i F 82)).toUInt32 >>> ((((24 : Int32))).toUInt32 &&& Int32.toUInt32 31)).toInt32).toInt8.toInt32).toInt8.toInt32)) := hd_up (hs 3 _ rfl) b0 t85 a2
  have t91 : sy_da F' (.inr (.inl 91)) = .inl (jm_upd (jm_upd (sy_ai F 2) (sy_i F 0).toNatClampNeg ((((((sy_i F 82)).toUInt32 >>> ((((24 : Int32))).toUInt32 &&& Int32.toUInt32 31)).toInt32).toInt8.toInt32).toInt8.toInt32)) ((sy_i F 0) + ((1 : Int32))).toNatClampNeg ((((((sy_i F 82)).toUInt32 >>> ((((16 : Int32))).toUInt32 &&& Int32.toUInt32 31)).toInt32).toInt8.toInt32).toInt8.toInt32)) := hd_up (hs 8 _ rfl) t87 t90 t86
  have t96 : sy_da F' (.inr (.inl 96)) = .inl (jm_upd (jm_upd (jm_upd (sy_ai F 2) (sy_i F 0).toNatClampNeg ((((((sy_i F 82)).toUInt32 >>> ((((24 : Int32))).toUInt32 &&& Int32.toUInt32 31)).toInt32).toInt8.toInt32).toInt8.toInt32)) ((sy_i F 0) + ((1 : Int32))).toNatClampNeg ((((((sy_i F 82)).toUInt32 >>> ((((16 : Int32))).toUInt32 &&& Int32.toUInt32 31)).toInt32).toInt8.toInt32).toInt8.toInt32)) (((sy_i F 0) + ((1 : Int32))) + ((1 : Int32))).toNatClampNeg ((((((sy_i F 82)).toUInt32 >>> ((((8 : Int32))).toUInt32 &&& Int32.toUInt32 31)).toInt32).toInt8.toInt32).toInt8.toInt32)) := hd_up (hs 13 _ rfl) t92 t95 t91
  have t101 : sy_da F' (.inr (.inl 101)) = .inl (jm_upd (jm_upd (jm_upd (jm_upd (sy_ai F 2) (sy_i F 0).toNatClampNeg ((((((sy_i F 82)).toUInt32 >>> ((((24 : Int32))).toUInt32 &&& Int32.toUInt32 31)).toInt32).toInt8.toInt32).toInt8.toInt32)) ((sy_i F 0) + ((1 : Int32))).toNatClampNeg ((((((sy_i F 82)).toUInt32 >>> ((((16 : Int32))).toUInt32 &&& Int32.toUInt32 31)).toInt32).toInt8.toInt32).toInt8.toInt32)) (((sy_i F 0) + ((1 : Int32))) + ((1 : Int32))).toNatClampNeg ((((((sy_i F 82)).toUInt32 >>> ((((8 : Int32))).toUInt32 &&& Int32.toUInt32 31)).toInt32).toInt8.toInt32).toInt8.toInt32)) ((((sy_i F 0) + ((1 : Int32))) + ((1 : Int32))) + ((1 : Int32))).toNatClampNeg ((((((sy_i F 82)).toUInt32 >>> ((((0 : Int32))).toUInt32 &&& Int32.toUInt32 31)).toInt32).toInt8.toInt32).toInt8.toInt32)) := hd_up (hs 18 _ rfl) t97 t100 t96
  have hB' : iv_in F' iv_B0 := iv_in_eq hB (fun j hj => hF j (Nat.lt_of_lt_of_le hj (by decide +kernel)))
  refine ⟨List.forall_mem_cons.mpr ⟨hd_p5 rfl b0 (by have hc : ((2000) : Int32).toInt = 2000 := (by decide); omega), List.forall_mem_cons.mpr ⟨hd_pb b0 (by first | exact h1 | exact h1), List.forall_mem_cons.mpr ⟨hd_p5 rfl t87 (by have hc : ((2000) : Int32).toInt = 2000 := (by decide); omega), List.forall_mem_cons.mpr ⟨hd_pb t87 (by first | exact h3 | exact h3), List.forall_mem_cons.mpr ⟨hd_p5 rfl t92 (by have hc : ((2000) : Int32).toInt = 2000 := (by decide); omega), List.forall_mem_cons.mpr ⟨hd_pb t92 (by first | exact h5 | exact h5), List.forall_mem_cons.mpr ⟨hd_p5 rfl t97 (by have hc : ((2000) : Int32).toInt = 2000 := (by decide); omega), List.forall_mem_cons.mpr ⟨hd_pb t97 (by first | exact h7 | exact h7), fun _ h => absurd h List.not_mem_nil⟩⟩⟩⟩⟩⟩⟩⟩, ?_⟩
  refine k _ ?_ ?_ ?_
  · exact fun j hj hn => (hd_keep hB' (Nat.lt_of_lt_of_le hj (by decide +kernel)) (by simp; omega)).trans (hF j (by omega))
  · exact hd_gi (x := .inr (.inl 102)) (by decide +kernel) t102
  · exact hd_ga (a := .inr (.inl 101)) (by decide +kernel) t101
theorem k2oap_0 {Ls : Nat} {xs : Nat → Int32} {d : Nat} {Q : Option Value → jm_h → Prop} (hd : 1 ≤ d) (F : Nat → sy_d) (X1 X2 : List jm_c) (hB : iv_in F iv_B0)
    (k0 : 2000 ≤ (sy_i F 0).toInt → ∀ F1 : Nat → sy_d, iv_in F1 iv_B0 → (∀ j, j < 82 → j ∉ ([] : List Nat) → F1 j = F j) → (sy_i F1 0).toInt = (sy_i F 0).toInt → sy_ai F1 2 = sy_ai F 2 → Q (none) (sy_dh F1 X1 X2 (iv_H 2)))
    (k1 : (sy_i F 0).toInt < 2000 → 2000 ≤ ((sy_i F 0).toInt + 1) → ∀ F1 : Nat → sy_d, iv_in F1 iv_B0 → (∀ j, j < 82 → j ∉ ([0, 2] : List Nat) → F1 j = F j) → (sy_i F1 0).toInt = ((sy_i F 0).toInt + 1) → sy_ai F1 2 = jm_upd (sy_ai F 2) ((sy_i F 0).toInt).toNat ((((((sy_i F 82)).toUInt32 >>> ((((24 : Int32))).toUInt32 &&& Int32.toUInt32 31)).toInt32).toInt8.toInt32).toInt8.toInt32) → Q (none) (sy_dh F1 X1 X2 (iv_H 2)))
    (k2 : (sy_i F 0).toInt < 2000 → ((sy_i F 0).toInt + 1) < 2000 → 2000 ≤ (((sy_i F 0).toInt + 1) + 1) → ∀ F1 : Nat → sy_d, iv_in F1 iv_B0 → (∀ j, j < 82 → j ∉ ([0, 2] : List Nat) → F1 j = F j) → (sy_i F1 0).toInt = (((sy_i F 0).toInt + 1) + 1) → sy_ai F1 2 = jm_upd (jm_upd (sy_ai F 2) ((sy_i F 0).toInt).toNat ((((((sy_i F 82)).toUInt32 >>> ((((24 : Int32))).toUInt32 &&& Int32.toUInt32 31)).toInt32).toInt8.toInt32).toInt8.toInt32)) (((sy_i F 0).toInt + 1)).toNat ((((((sy_i F 82)).toUInt32 >>> ((((16 : Int32))).toUInt32 &&& Int32.toUInt32 31)).toInt32).toInt8.toInt32).toInt8.toInt32) → Q (none) (sy_dh F1 X1 X2 (iv_H 2)))
    (k3 : (sy_i F 0).toInt < 2000 → ((sy_i F 0).toInt + 1) < 2000 → (((sy_i F 0).toInt + 1) + 1) < 2000 → 2000 ≤ ((((sy_i F 0).toInt + 1) + 1) + 1) → ∀ F1 : Nat → sy_d, iv_in F1 iv_B0 → (∀ j, j < 82 → j ∉ ([0, 2] : List Nat) → F1 j = F j) → (sy_i F1 0).toInt = ((((sy_i F 0).toInt + 1) + 1) + 1) → sy_ai F1 2 = jm_upd (jm_upd (jm_upd (sy_ai F 2) ((sy_i F 0).toInt).toNat ((((((sy_i F 82)).toUInt32 >>> ((((24 : Int32))).toUInt32 &&& Int32.toUInt32 31)).toInt32).toInt8.toInt32).toInt8.toInt32)) (((sy_i F 0).toInt + 1)).toNat ((((((sy_i F 82)).toUInt32 >>> ((((16 : Int32))).toUInt32 &&& Int32.toUInt32 31)).toInt32).toInt8.toInt32).toInt8.toInt32)) ((((sy_i F 0).toInt + 1) + 1)).toNat ((((((sy_i F 82)).toUInt32 >>> ((((8 : Int32))).toUInt32 &&& Int32.toUInt32 31)).toInt32).toInt8.toInt32).toInt8.toInt32) → Q (none) (sy_dh F1 X1 X2 (iv_H 2)))
    (k4 : (sy_i F 0).toInt < 2000 → ((sy_i F 0).toInt + 1) < 2000 → (((sy_i F 0).toInt + 1) + 1) < 2000 → ((((sy_i F 0).toInt + 1) + 1) + 1) < 2000 → ∀ F1 : Nat → sy_d, iv_in F1 iv_B0 → (∀ j, j < 82 → j ∉ ([0, 2] : List Nat) → F1 j = F j) → (sy_i F1 0).toInt = (((((sy_i F 0).toInt + 1) + 1) + 1) + 1) → sy_ai F1 2 = jm_upd (jm_upd (jm_upd (jm_upd (sy_ai F 2) ((sy_i F 0).toInt).toNat ((((((sy_i F 82)).toUInt32 >>> ((((24 : Int32))).toUInt32 &&& Int32.toUInt32 31)).toInt32).toInt8.toInt32).toInt8.toInt32)) (((sy_i F 0).toInt + 1)).toNat ((((((sy_i F 82)).toUInt32 >>> ((((16 : Int32))).toUInt32 &&& Int32.toUInt32 31)).toInt32).toInt8.toInt32).toInt8.toInt32)) ((((sy_i F 0).toInt + 1) + 1)).toNat ((((((sy_i F 82)).toUInt32 >>> ((((8 : Int32))).toUInt32 &&& Int32.toUInt32 31)).toInt32).toInt8.toInt32).toInt8.toInt32)) (((((sy_i F 0).toInt + 1) + 1) + 1)).toNat ((((((sy_i F 82)).toUInt32 >>> ((((0 : Int32))).toUInt32 &&& Int32.toUInt32 31)).toInt32).toInt8.toInt32).toInt8.toInt32) → Q (none) (sy_dh F1 X1 X2 (iv_H 2))) :
    hd_W Ls xs d jm_M116 Q (0, sy_dL F [some (.inl (.ref 8)), some (.inr (.inl 82)), none], sy_dS F [], sy_dh F X1 X2 (iv_H 2), 0, 0) := by
  by_cases g0 : 2000 ≤ (sy_i F 0).toInt
  · have c0 := nz_bx hB (k := 0) (lo := 0) (hi := 2000) rfl
    exact k2oap_0_p0 hd F X1 X2 hB (by first | exact g0 | (simp only [nz_c]; exact g0)) (fun F1 g  => k0 g0 F1 (nz_in0 hB [] (fun j hj hn => g j hj (by simp only [List.mem_cons, List.not_mem_nil, or_false, not_or] at hn; exact trivial)) (List.forall_mem_nil _)) (fun j hj hn => g j hj (by simp only [List.mem_cons, List.not_mem_nil, or_false, not_or] at hn; exact trivial)) (nz_fi (g 0 (by decide) (by decide))) (nz_fa (g 2 (by decide) (by decide))))
  replace g0 : (sy_i F 0).toInt < 2000 := by omega
  by_cases g1 : 2000 ≤ ((sy_i F 0).toInt + 1)
  · have c0 := nz_bx hB (k := 0) (lo := 0) (hi := 2000) rfl
    have n87 : ((sy_i F 0) + ((1 : Int32))).toInt = ((sy_i F 0).toInt + 1) := nz_add (rfl : (sy_i F 0).toInt = (sy_i F 0).toInt) (by decide : ((1 : Int32)).toInt = 1) (by omega) (by omega)
    have n85 : ((((((sy_i F 82)).toUInt32 >>> ((((24 : Int32))).toUInt32 &&& Int32.toUInt32 31)).toInt32).toInt8.toInt32).toInt8.toInt32).toInt = ((((((sy_i F 82)).toUInt32 >>> ((((24 : Int32))).toUInt32 &&& Int32.toUInt32 31)).toInt32).toInt8.toInt32).toInt8.toInt32).toInt := congrArg Int32.toInt (rfl : (((((sy_i F 82)).toUInt32 >>> ((((24 : Int32))).toUInt32 &&& Int32.toUInt32 31)).toInt32).toInt8.toInt32).toInt8.toInt32 = (((((sy_i F 82)).toUInt32 >>> ((((24 : Int32))).toUInt32 &&& Int32.toUInt32 31)).toInt32).toInt8.toInt32).toInt8.toInt32)
    have r85 := nz_b8 (((((sy_i F 82)).toUInt32 >>> ((((24 : Int32))).toUInt32 &&& Int32.toUInt32 31)).toInt32).toInt8.toInt32)
    have w86 : jm_upd (sy_ai F 2) (sy_i F 0).toNatClampNeg ((((((sy_i F 82)).toUInt32 >>> ((((24 : Int32))).toUInt32 &&& Int32.toUInt32 31)).toInt32).toInt8.toInt32).toInt8.toInt32) = jm_upd (sy_ai F 2) ((sy_i F 0).toInt).toNat ((((((sy_i F 82)).toUInt32 >>> ((((24 : Int32))).toUInt32 &&& Int32.toUInt32 31)).toInt32).toInt8.toInt32).toInt8.toInt32) := by simp only [nz_c, (by decide : ((24 : Int32)).toInt = 24)]
    exact k2oap_0_p1 hd F X1 X2 hB (by first | exact g0 | (simp only [nz_c]; exact g0)) (by first | exact ⟨by omega, by omega⟩ | (simp only [nz_c]; exact ⟨by omega, by omega⟩)) (by first | exact g1 | (simp only [nz_c, n87]; exact g1) | (rw [n87]; exact g1)) (fun F1 g e0 e2 => k1 g0 g1 F1 (nz_in0 hB [0, 2] (fun j hj hn => g j hj (by simp only [List.mem_cons, List.not_mem_nil, or_false, not_or] at hn; omega)) (List.forall_mem_cons.mpr ⟨fun t ht => (Option.some.inj ht) ▸ (nz_hi e0 n87 (by omega) (by omega)), List.forall_mem_cons.mpr ⟨fun t ht => (Option.some.inj ht) ▸ (nz_hA e2 (nz_up (nz_ba hB (k := 2) (lo := (-128)) (hi := 127) rfl) n85 (by omega) (by omega))), List.forall_mem_nil _⟩⟩)) (fun j hj hn => g j hj (by simp only [List.mem_cons, List.not_mem_nil, or_false, not_or] at hn; omega)) ((congrArg Int32.toInt (zz_i e0)).trans n87) ((zz_ai e2).trans w86))
  replace g1 : ((sy_i F 0).toInt + 1) < 2000 := by omega
  by_cases g2 : 2000 ≤ (((sy_i F 0).toInt + 1) + 1)
  · have c0 := nz_bx hB (k := 0) (lo := 0) (hi := 2000) rfl
    have n87 : ((sy_i F 0) + ((1 : Int32))).toInt = ((sy_i F 0).toInt + 1) := nz_add (rfl : (sy_i F 0).toInt = (sy_i F 0).toInt) (by decide : ((1 : Int32)).toInt = 1) (by omega) (by omega)
    have n92 : (((sy_i F 0) + ((1 : Int32))) + ((1 : Int32))).toInt = (((sy_i F 0).toInt + 1) + 1) := nz_add n87 (by decide : ((1 : Int32)).toInt = 1) (by omega) (by omega)
    have n90 : ((((((sy_i F 82)).toUInt32 >>> ((((16 : Int32))).toUInt32 &&& Int32.toUInt32 31)).toInt32).toInt8.toInt32).toInt8.toInt32).toInt = ((((((sy_i F 82)).toUInt32 >>> ((((16 : Int32))).toUInt32 &&& Int32.toUInt32 31)).toInt32).toInt8.toInt32).toInt8.toInt32).toInt := congrArg Int32.toInt (rfl : (((((sy_i F 82)).toUInt32 >>> ((((16 : Int32))).toUInt32 &&& Int32.toUInt32 31)).toInt32).toInt8.toInt32).toInt8.toInt32 = (((((sy_i F 82)).toUInt32 >>> ((((16 : Int32))).toUInt32 &&& Int32.toUInt32 31)).toInt32).toInt8.toInt32).toInt8.toInt32)
    have r90 := nz_b8 (((((sy_i F 82)).toUInt32 >>> ((((16 : Int32))).toUInt32 &&& Int32.toUInt32 31)).toInt32).toInt8.toInt32)
    have n85 : ((((((sy_i F 82)).toUInt32 >>> ((((24 : Int32))).toUInt32 &&& Int32.toUInt32 31)).toInt32).toInt8.toInt32).toInt8.toInt32).toInt = ((((((sy_i F 82)).toUInt32 >>> ((((24 : Int32))).toUInt32 &&& Int32.toUInt32 31)).toInt32).toInt8.toInt32).toInt8.toInt32).toInt := congrArg Int32.toInt (rfl : (((((sy_i F 82)).toUInt32 >>> ((((24 : Int32))).toUInt32 &&& Int32.toUInt32 31)).toInt32).toInt8.toInt32).toInt8.toInt32 = (((((sy_i F 82)).toUInt32 >>> ((((24 : Int32))).toUInt32 &&& Int32.toUInt32 31)).toInt32).toInt8.toInt32).toInt8.toInt32)
    have r85 := nz_b8 (((((sy_i F 82)).toUInt32 >>> ((((24 : Int32))).toUInt32 &&& Int32.toUInt32 31)).toInt32).toInt8.toInt32)
    have w91 : jm_upd (jm_upd (sy_ai F 2) (sy_i F 0).toNatClampNeg ((((((sy_i F 82)).toUInt32 >>> ((((24 : Int32))).toUInt32 &&& Int32.toUInt32 31)).toInt32).toInt8.toInt32).toInt8.toInt32)) ((sy_i F 0) + ((1 : Int32))).toNatClampNeg ((((((sy_i F 82)).toUInt32 >>> ((((16 : Int32))).toUInt32 &&& Int32.toUInt32 31)).toInt32).toInt8.toInt32).toInt8.toInt32) = jm_upd (jm_upd (sy_ai F 2) ((sy_i F 0).toInt).toNat ((((((sy_i F 82)).toUInt32 >>> ((((24 : Int32))).toUInt32 &&& Int32.toUInt32 31)).toInt32).toInt8.toInt32).toInt8.toInt32)) (((sy_i F 0).toInt + 1)).toNat ((((((sy_i F 82)).toUInt32 >>> ((((16 : Int32))).toUInt32 &&& Int32.toUInt32 31)).toInt32).toInt8.toInt32).toInt8.toInt32) := by simp only [nz_c, n87, (by decide : ((1 : Int32)).toInt = 1), (by decide : ((16 : Int32)).toInt = 16), (by decide : ((24 : Int32)).toInt = 24)]
    exact k2oap_0_p2 hd F X1 X2 hB (by first | exact g0 | (simp only [nz_c]; exact g0)) (by first | exact ⟨by omega, by omega⟩ | (simp only [nz_c]; exact ⟨by omega, by omega⟩)) (by first | exact g1 | (simp only [nz_c, n87]; exact g1) | (rw [n87]; exact g1)) (by first | exact ⟨by omega, by omega⟩ | (simp only [nz_c, n87]; exact ⟨by omega, by omega⟩) | (rw [n87]; exact ⟨by omega, by omega⟩)) (by first | exact g2 | (simp only [nz_c, n87, n92]; exact g2) | (rw [n92]; exact g2)) (fun F1 g e0 e2 => k2 g0 g1 g2 F1 (nz_in0 hB [0, 2] (fun j hj hn => g j hj (by simp only [List.mem_cons, List.not_mem_nil, or_false, not_or] at hn; omega)) (List.forall_mem_cons.mpr ⟨fun t ht => (Option.some.inj ht) ▸ (nz_hi e0 n92 (by omega) (by omega)), List.forall_mem_cons.mpr ⟨fun t ht => (Option.some.inj ht) ▸ (nz_hA e2 (nz_up (nz_up (nz_ba hB (k := 2) (lo := (-128)) (hi := 127) rfl) n85 (by omega) (by omega)) n90 (by omega) (by omega))), List.forall_mem_nil _⟩⟩)) (fun j hj hn => g j hj (by simp only [List.mem_cons, List.not_mem_nil, or_false, not_or] at hn; omega)) ((congrArg Int32.toInt (zz_i e0)).trans n92) ((zz_ai e2).trans w91))
  replace g2 : (((sy_i F 0).toInt + 1) + 1) < 2000 := by omega
  by_cases g3 : 2000 ≤ ((((sy_i F 0).toInt + 1) + 1) + 1)
  · have c0 := nz_bx hB (k := 0) (lo := 0) (hi := 2000) rfl
    have n87 : ((sy_i F 0) + ((1 : Int32))).toInt = ((sy_i F 0).toInt + 1) := nz_add (rfl : (sy_i F 0).toInt = (sy_i F 0).toInt) (by decide : ((1 : Int32)).toInt = 1) (by omega) (by omega)
    have n92 : (((sy_i F 0) + ((1 : Int32))) + ((1 : Int32))).toInt = (((sy_i F 0).toInt + 1) + 1) := nz_add n87 (by decide : ((1 : Int32)).toInt = 1) (by omega) (by omega)
    have n97 : ((((sy_i F 0) + ((1 : Int32))) + ((1 : Int32))) + ((1 : Int32))).toInt = ((((sy_i F 0).toInt + 1) + 1) + 1) := nz_add n92 (by decide : ((1 : Int32)).toInt = 1) (by omega) (by omega)
    have n95 : ((((((sy_i F 82)).toUInt32 >>> ((((8 : Int32))).toUInt32 &&& Int32.toUInt32 31)).toInt32).toInt8.toInt32).toInt8.toInt32).toInt = ((((((sy_i F 82)).toUInt32 >>> ((((8 : Int32))).toUInt32 &&& Int32.toUInt32 31)).toInt32).toInt8.toInt32).toInt8.toInt32).toInt := congrArg Int32.toInt (rfl : (((((sy_i F 82)).toUInt32 >>> ((((8 : Int32))).toUInt32 &&& Int32.toUInt32 31)).toInt32).toInt8.toInt32).toInt8.toInt32 = (((((sy_i F 82)).toUInt32 >>> ((((8 : Int32))).toUInt32 &&& Int32.toUInt32 31)).toInt32).toInt8.toInt32).toInt8.toInt32)
    have r95 := nz_b8 (((((sy_i F 82)).toUInt32 >>> ((((8 : Int32))).toUInt32 &&& Int32.toUInt32 31)).toInt32).toInt8.toInt32)
    have n90 : ((((((sy_i F 82)).toUInt32 >>> ((((16 : Int32))).toUInt32 &&& Int32.toUInt32 31)).toInt32).toInt8.toInt32).toInt8.toInt32).toInt = ((((((sy_i F 82)).toUInt32 >>> ((((16 : Int32))).toUInt32 &&& Int32.toUInt32 31)).toInt32).toInt8.toInt32).toInt8.toInt32).toInt := congrArg Int32.toInt (rfl : (((((sy_i F 82)).toUInt32 >>> ((((16 : Int32))).toUInt32 &&& Int32.toUInt32 31)).toInt32).toInt8.toInt32).toInt8.toInt32 = (((((sy_i F 82)).toUInt32 >>> ((((16 : Int32))).toUInt32 &&& Int32.toUInt32 31)).toInt32).toInt8.toInt32).toInt8.toInt32)
    have r90 := nz_b8 (((((sy_i F 82)).toUInt32 >>> ((((16 : Int32))).toUInt32 &&& Int32.toUInt32 31)).toInt32).toInt8.toInt32)
    have n85 : ((((((sy_i F 82)).toUInt32 >>> ((((24 : Int32))).toUInt32 &&& Int32.toUInt32 31)).toInt32).toInt8.toInt32).toInt8.toInt32).toInt = ((((((sy_i F 82)).toUInt32 >>> ((((24 : Int32))).toUInt32 &&& Int32.toUInt32 31)).toInt32).toInt8.toInt32).toInt8.toInt32).toInt := congrArg Int32.toInt (rfl : (((((sy_i F 82)).toUInt32 >>> ((((24 : Int32))).toUInt32 &&& Int32.toUInt32 31)).toInt32).toInt8.toInt32).toInt8.toInt32 = (((((sy_i F 82)).toUInt32 >>> ((((24 : Int32))).toUInt32 &&& Int32.toUInt32 31)).toInt32).toInt8.toInt32).toInt8.toInt32)
    have r85 := nz_b8 (((((sy_i F 82)).toUInt32 >>> ((((24 : Int32))).toUInt32 &&& Int32.toUInt32 31)).toInt32).toInt8.toInt32)
    have w96 : jm_upd (jm_upd (jm_upd (sy_ai F 2) (sy_i F 0).toNatClampNeg ((((((sy_i F 82)).toUInt32 >>> ((((24 : Int32))).toUInt32 &&& Int32.toUInt32 31)).toInt32).toInt8.toInt32).toInt8.toInt32)) ((sy_i F 0) + ((1 : Int32))).toNatClampNeg ((((((sy_i F 82)).toUInt32 >>> ((((16 : Int32))).toUInt32 &&& Int32.toUInt32 31)).toInt32).toInt8.toInt32).toInt8.toInt32)) (((sy_i F 0) + ((1 : Int32))) + ((1 : Int32))).toNatClampNeg ((((((sy_i F 82)).toUInt32 >>> ((((8 : Int32))).toUInt32 &&& Int32.toUInt32 31)).toInt32).toInt8.toInt32).toInt8.toInt32) = jm_upd (jm_upd (jm_upd (sy_ai F 2) ((sy_i F 0).toInt).toNat ((((((sy_i F 82)).toUInt32 >>> ((((24 : Int32))).toUInt32 &&& Int32.toUInt32 31)).toInt32).toInt8.toInt32).toInt8.toInt32)) (((sy_i F 0).toInt + 1)).toNat ((((((sy_i F 82)).toUInt32 >>> ((((16 : Int32))).toUInt32 &&& Int32.toUInt32 31)).toInt32).toInt8.toInt32).toInt8.toInt32)) ((((sy_i F 0).toInt + 1) + 1)).toNat ((((((sy_i F 82)).toUInt32 >>> ((((8 : Int32))).toUInt32 &&& Int32.toUInt32 31)).toInt32).toInt8.toInt32).toInt8.toInt32) := by simp only [nz_c, n87, n92, (by decide : ((1 : Int32)).toInt = 1), (by decide : ((8 : Int32)).toInt = 8), (by decide : ((16 : Int32)).toInt = 16), (by decide : ((24 : Int32)).toInt = 24)]
    exact k2oap_0_p3 hd F X1 X2 hB (by first | exact g0 | (simp only [nz_c]; exact g0)) (by first | exact ⟨by omega, by omega⟩ | (simp only [nz_c]; exact ⟨by omega, by omega⟩)) (by first | exact g1 | (simp only [nz_c, n87]; exact g1) | (rw [n87]; exact g1)) (by first | exact ⟨by omega, by omega⟩ | (simp only [nz_c, n87]; exact ⟨by omega, by omega⟩) | (rw [n87]; exact ⟨by omega, by omega⟩)) (by first | exact g2 | (simp only [nz_c, n87, n92]; exact g2) | (rw [n92]; exact g2)) (by first | exact ⟨by omega, by omega⟩ | (simp only [nz_c, n87, n92]; exact ⟨by omega, by omega⟩) | (rw [n92]; exact ⟨by omega, by omega⟩)) (by first | exact g3 | (simp only [nz_c, n87, n92, n97]; exact g3) | (rw [n97]; exact g3)) (fun F1 g e0 e2 => k3 g0 g1 g2 g3 F1 (nz_in0 hB [0, 2] (fun j hj hn => g j hj (by simp only [List.mem_cons, List.not_mem_nil, or_false, not_or] at hn; omega)) (List.forall_mem_cons.mpr ⟨fun t ht => (Option.some.inj ht) ▸ (nz_hi e0 n97 (by omega) (by omega)), List.forall_mem_cons.mpr ⟨fun t ht => (Option.some.inj ht) ▸ (nz_hA e2 (nz_up (nz_up (nz_up (nz_ba hB (k := 2) (lo := (-128)) (hi := 127) rfl) n85 (by omega) (by omega)) n90 (by omega) (by omega)) n95 (by omega) (by omega))), List.forall_mem_nil _⟩⟩)) (fun j hj hn => g j hj (by simp only [List.mem_cons, List.not_mem_nil, or_false, not_or] at hn; omega)) ((congrArg Int32.toInt (zz_i e0)).trans n97) ((zz_ai e2).trans w96))
  replace g3 : ((((sy_i F 0).toInt + 1) + 1) + 1) < 2000 := by omega
  have c0 := nz_bx hB (k := 0) (lo := 0) (hi := 2000) rfl
  have n87 : ((sy_i F 0) + ((1 : Int32))).toInt = ((sy_i F 0).toInt + 1) := nz_add (rfl : (sy_i F 0).toInt = (sy_i F 0).toInt) (by decide : ((1 : Int32)).toInt = 1) (by omega) (by omega)
  have n92 : (((sy_i F 0) + ((1 : Int32))) + ((1 : Int32))).toInt = (((sy_i F 0).toInt + 1) + 1) := nz_add n87 (by decide : ((1 : Int32)).toInt = 1) (by omega) (by omega)
  have n97 : ((((sy_i F 0) + ((1 : Int32))) + ((1 : Int32))) + ((1 : Int32))).toInt = ((((sy_i F 0).toInt + 1) + 1) + 1) := nz_add n92 (by decide : ((1 : Int32)).toInt = 1) (by omega) (by omega)
  have n102 : (((((sy_i F 0) + ((1 : Int32))) + ((1 : Int32))) + ((1 : Int32))) + ((1 : Int32))).toInt = (((((sy_i F 0).toInt + 1) + 1) + 1) + 1) := nz_add n97 (by decide : ((1 : Int32)).toInt = 1) (by omega) (by omega)
  have n100 : ((((((sy_i F 82)).toUInt32 >>> ((((0 : Int32))).toUInt32 &&& Int32.toUInt32 31)).toInt32).toInt8.toInt32).toInt8.toInt32).toInt = ((((((sy_i F 82)).toUInt32 >>> ((((0 : Int32))).toUInt32 &&& Int32.toUInt32 31)).toInt32).toInt8.toInt32).toInt8.toInt32).toInt := congrArg Int32.toInt (rfl : (((((sy_i F 82)).toUInt32 >>> ((((0 : Int32))).toUInt32 &&& Int32.toUInt32 31)).toInt32).toInt8.toInt32).toInt8.toInt32 = (((((sy_i F 82)).toUInt32 >>> ((((0 : Int32))).toUInt32 &&& Int32.toUInt32 31)).toInt32).toInt8.toInt32).toInt8.toInt32)
  have r100 := nz_b8 (((((sy_i F 82)).toUInt32 >>> ((((0 : Int32))).toUInt32 &&& Int32.toUInt32 31)).toInt32).toInt8.toInt32)
  have n95 : ((((((sy_i F 82)).toUInt32 >>> ((((8 : Int32))).toUInt32 &&& Int32.toUInt32 31)).toInt32).toInt8.toInt32).toInt8.toInt32).toInt = ((((((sy_i F 82)).toUInt32 >>> ((((8 : Int32))).toUInt32 &&& Int32.toUInt32 31)).toInt32).toInt8.toInt32).toInt8.toInt32).toInt := congrArg Int32.toInt (rfl : (((((sy_i F 82)).toUInt32 >>> ((((8 : Int32))).toUInt32 &&& Int32.toUInt32 31)).toInt32).toInt8.toInt32).toInt8.toInt32 = (((((sy_i F 82)).toUInt32 >>> ((((8 : Int32))).toUInt32 &&& Int32.toUInt32 31)).toInt32).toInt8.toInt32).toInt8.toInt32)
  have r95 := nz_b8 (((((sy_i F 82)).toUInt32 >>> ((((8 : Int32))).toUInt32 &&& Int32.toUInt32 31)).toInt32).toInt8.toInt32)
  have n90 : ((((((sy_i F 82)).toUInt32 >>> ((((16 : Int32))).toUInt32 &&& Int32.toUInt32 31)).toInt32).toInt8.toInt32).toInt8.toInt32).toInt = ((((((sy_i F 82)).toUInt32 >>> ((((16 : Int32))).toUInt32 &&& Int32.toUInt32 31)).toInt32).toInt8.toInt32).toInt8.toInt32).toInt := congrArg Int32.toInt (rfl : (((((sy_i F 82)).toUInt32 >>> ((((16 : Int32))).toUInt32 &&& Int32.toUInt32 31)).toInt32).toInt8.toInt32).toInt8.toInt32 = (((((sy_i F 82)).toUInt32 >>> ((((16 : Int32))).toUInt32 &&& Int32.toUInt32 31)).toInt32).toInt8.toInt32).toInt8.toInt32)
  have r90 := nz_b8 (((((sy_i F 82)).toUInt32 >>> ((((16 : Int32))).toUInt32 &&& Int32.toUInt32 31)).toInt32).toInt8.toInt32)
  have n85 : ((((((sy_i F 82)).toUInt32 >>> ((((24 : Int32))).toUInt32 &&& Int32.toUInt32 31)).toInt32).toInt8.toInt32).toInt8.toInt32).toInt = ((((((sy_i F 82)).toUInt32 >>> ((((24 : Int32))).toUInt32 &&& Int32.toUInt32 31)).toInt32).toInt8.toInt32).toInt8.toInt32).toInt := congrArg Int32.toInt (rfl : (((((sy_i F 82)).toUInt32 >>> ((((24 : Int32))).toUInt32 &&& Int32.toUInt32 31)).toInt32).toInt8.toInt32).toInt8.toInt32 = (((((sy_i F 82)).toUInt32 >>> ((((24 : Int32))).toUInt32 &&& Int32.toUInt32 31)).toInt32).toInt8.toInt32).toInt8.toInt32)
  have r85 := nz_b8 (((((sy_i F 82)).toUInt32 >>> ((((24 : Int32))).toUInt32 &&& Int32.toUInt32 31)).toInt32).toInt8.toInt32)
  have w101 : jm_upd (jm_upd (jm_upd (jm_upd (sy_ai F 2) (sy_i F 0).toNatClampNeg ((((((sy_i F 82)).toUInt32 >>> ((((24 : Int32))).toUInt32 &&& Int32.toUInt32 31)).toInt32).toInt8.toInt32).toInt8.toInt32)) ((sy_i F 0) + ((1 : Int32))).toNatClampNeg ((((((sy_i F 82)).toUInt32 >>> ((((16 : Int32))).toUInt32 &&& Int32.toUInt32 31)).toInt32).toInt8.toInt32).toInt8.toInt32)) (((sy_i F 0) + ((1 : Int32))) + ((1 : Int32))).toNatClampNeg ((((((sy_i F 82)).toUInt32 >>> ((((8 : Int32))).toUInt32 &&& Int32.toUInt32 31)).toInt32).toInt8.toInt32).toInt8.toInt32)) ((((sy_i F 0) + ((1 : Int32))) + ((1 : Int32))) + ((1 : Int32))).toNatClampNeg ((((((sy_i F 82)).toUInt32 >>> ((((0 : Int32))).toUInt32 &&& Int32.toUInt32 31)).toInt32).toInt8.toInt32).toInt8.toInt32) = jm_upd (jm_upd (jm_upd (jm_upd (sy_ai F 2) ((sy_i F 0).toInt).toNat ((((((sy_i F 82)).toUInt32 >>> ((((24 : Int32))).toUInt32 &&& Int32.toUInt32 31)).toInt32).toInt8.toInt32).toInt8.toInt32)) (((sy_i F 0).toInt + 1)).toNat ((((((sy_i F 82)).toUInt32 >>> ((((16 : Int32))).toUInt32 &&& Int32.toUInt32 31)).toInt32).toInt8.toInt32).toInt8.toInt32)) ((((sy_i F 0).toInt + 1) + 1)).toNat ((((((sy_i F 82)).toUInt32 >>> ((((8 : Int32))).toUInt32 &&& Int32.toUInt32 31)).toInt32).toInt8.toInt32).toInt8.toInt32)) (((((sy_i F 0).toInt + 1) + 1) + 1)).toNat ((((((sy_i F 82)).toUInt32 >>> ((((0 : Int32))).toUInt32 &&& Int32.toUInt32 31)).toInt32).toInt8.toInt32).toInt8.toInt32) := by simp only [nz_c, n87, n92, n97, (by decide : ((0 : Int32)).toInt = 0), (by decide : ((1 : Int32)).toInt = 1), (by decide : ((8 : Int32)).toInt = 8), (by decide : ((16 : Int32)).toInt = 16), (by decide : ((24 : Int32)).toInt = 24)]
  exact k2oap_0_p4 hd F X1 X2 hB (by first | exact g0 | (simp only [nz_c]; exact g0)) (by first | exact ⟨by omega, by omega⟩ | (simp only [nz_c]; exact ⟨by omega, by omega⟩)) (by first | exact g1 | (simp only [nz_c, n87]; exact g1) | (rw [n87]; exact g1)) (by first | exact ⟨by omega, by omega⟩ | (simp only [nz_c, n87]; exact ⟨by omega, by omega⟩) | (rw [n87]; exact ⟨by omega, by omega⟩)) (by first | exact g2 | (simp only [nz_c, n87, n92]; exact g2) | (rw [n92]; exact g2)) (by first | exact ⟨by omega, by omega⟩ | (simp only [nz_c, n87, n92]; exact ⟨by omega, by omega⟩) | (rw [n92]; exact ⟨by omega, by omega⟩)) (by first | exact g3 | (simp only [nz_c, n87, n92, n97]; exact g3) | (rw [n97]; exact g3)) (by first | exact ⟨by omega, by omega⟩ | (simp only [nz_c, n87, n92, n97]; exact ⟨by omega, by omega⟩) | (rw [n97]; exact ⟨by omega, by omega⟩)) (fun F1 g e0 e2 => k4 g0 g1 g2 g3 F1 (nz_in0 hB [0, 2] (fun j hj hn => g j hj (by simp only [List.mem_cons, List.not_mem_nil, or_false, not_or] at hn; omega)) (List.forall_mem_cons.mpr ⟨fun t ht => (Option.some.inj ht) ▸ (nz_hi e0 n102 (by omega) (by omega)), List.forall_mem_cons.mpr ⟨fun t ht => (Option.some.inj ht) ▸ (nz_hA e2 (nz_up (nz_up (nz_up (nz_up (nz_ba hB (k := 2) (lo := (-128)) (hi := 127) rfl) n85 (by omega) (by omega)) n90 (by omega) (by omega)) n95 (by omega) (by omega)) n100 (by omega) (by omega))), List.forall_mem_nil _⟩⟩)) (fun j hj hn => g j hj (by simp only [List.mem_cons, List.not_mem_nil, or_false, not_or] at hn; omega)) ((congrArg Int32.toInt (zz_i e0)).trans n102) ((zz_ai e2).trans w101))
theorem k2ofd_0_p0 {Ls : Nat} {xs : Nat → Int32} {d : Nat} {Q : Option Value → jm_h → Prop} (hd : 2 ≤ d) (F : Nat → sy_d) (X1 X2 : List jm_c) (hB : iv_in F iv_B0)
    (h0 : ((sy_i F 0) + ((20 : Int32))).toInt ≤ 2000)
    (k : ∀ F1 : Nat → sy_d, (∀ j, j < 82 → True → F1 j = F j) → F1 82 = .inl (.int (sy_i F 82)) → F1 83 = .inl (.int (sy_i F 83)) → F1 84 = .inl (.int (sy_i F 84)) → F1 85 = .inl (.int (sy_i F 85)) → F1 86 = .inl (.int (sy_i F 86)) → hd_W Ls xs d jm_M81 Q (17, sy_dL F1 [some (.inl (.ref 8)), some (.inr (.inl 82)), some (.inr (.inl 83)), some (.inr (.inl 84)), some (.inr (.inl 85)), some (.inr (.inl 86))], sy_dS F1 [.inr (.inl 82), .inl (.ref 8)], sy_dh F1 X1 X2 (iv_H 2), 0, 0)) :
    hd_W Ls xs d jm_M81 Q (0, sy_dL F [some (.inl (.ref 8)), some (.inr (.inl 82)), some (.inr (.inl 83)), some (.inr (.inl 84)), some (.inr (.inl 85)), some (.inr (.inl 86))], sy_dS F [], sy_dh F X1 X2 (iv_H 2), 0, 0) := by
  refine hd_run (s := 2) (nv := 87) (pc := 17) (L := [some (.inl (.ref 8)), some (.inr (.inl 82)), some (.inr (.inl 83)), some (.inr (.inl 84)), some (.inr (.inl 85)), some (.inr (.inl 86))]) (S := [.inr (.inl 82), .inl (.ref 8)]) (uh := hd_ov (iv_id 0 iv_B0) []) (ul := [.inl (.inr (.inl 82)), .inl (.inr (.inl 83)), .inl (.inr (.inl 84)), .inl (.inr (.inl 85)), .inl (.inr (.inl 86))]) (f := true) (sp := [17]) (d0 := 1) (O := [true]) (T := [(0, [.inr (.inl 0), .inl (.int 20)], [])]) (P := [(4, .inr (.inl 87), .inl (.int 2000))]) jm_ok81 (by decide +kernel) (by decide +kernel) hd F X1 X2 (fun F' hF hs => ?_)
  have b0 := hd_b (F := F) (F' := F') (k := 0) (hF 0 (by decide))
  have t87 : sy_dv F' (.inr (.inl 87)) = .int ((sy_i F 0) + ((20 : Int32))) := hd_o (hs 0 _ rfl) b0 rfl rfl
  have b82 := hd_b (F := F) (F' := F') (k := 82) (hF 82 (by decide))
  have b83 := hd_b (F := F) (F' := F') (k := 83) (hF 83 (by decide))
  have b84 := hd_b (F := F) (F' := F') (k := 84) (hF 84 (by decide))
  have b85 := hd_b (F := F) (F' := F') (k := 85) (hF 85 (by decide))
  have b86 := hd_b (F := F) (F' := F') (k := 86) (hF 86 (by decide))
  have hB' : iv_in F' iv_B0 := iv_in_eq hB (fun j hj => hF j (Nat.lt_of_lt_of_le hj (by decide +kernel)))
  refine ⟨List.forall_mem_cons.mpr ⟨hd_p4 t87 rfl (by have hc : ((2000) : Int32).toInt = 2000 := (by decide); omega), fun _ h => absurd h List.not_mem_nil⟩, ?_⟩
  refine k _ ?_ ?_ ?_ ?_ ?_ ?_
  · exact fun j hj _ => (hd_keep hB' (Nat.lt_of_lt_of_le hj (by decide +kernel)) (by simp)).trans (hF j (by omega))
  · exact hd_gi (x := .inr (.inl 82)) (by decide +kernel) b82
  · exact hd_gi (x := .inr (.inl 83)) (by decide +kernel) b83
  · exact hd_gi (x := .inr (.inl 84)) (by decide +kernel) b84
  · exact hd_gi (x := .inr (.inl 85)) (by decide +kernel) b85
  · exact hd_gi (x := .inr (.inl 86)) (by decide +kernel) b86
theorem k2ofd_0_p1 {Ls : Nat} {xs : Nat → Int32} {d : Nat} {Q : Option Value → jm_h → Prop} (hd : 2 ≤ d) (F : Nat → sy_d) (X1 X2 : List jm_c) (hB : iv_in F iv_B0)
    (h0 : 2000 < ((sy_i F 0) + ((20 : Int32))).toInt)
    (k : ∀ F1 : Nat → sy_d, (∀ j, j < 82 → True → F1 j = F j) → Q (some (.int (((-1) : Int32)))) (sy_dh F1 X1 X2 (iv_H 2))) :
    hd_W Ls xs d jm_M81 Q (0, sy_dL F [some (.inl (.ref 8)), some (.inr (.inl 82)), some (.inr (.inl 83)), some (.inr (.inl 84)), some (.inr (.inl 85)), some (.inr (.inl 86))], sy_dS F [], sy_dh F X1 X2 (iv_H 2), 0, 0) := by
  refine hd_ret (s := 2) (nv := 87) (v := some (.inl (.int (-1)))) (uh := hd_ov (iv_id 0 iv_B0) []) (f := true) (sp := [17]) (d0 := 1) (O := [false]) (T := [(0, [.inr (.inl 0), .inl (.int 20)], [])]) (P := [(5, .inr (.inl 87), .inl (.int 2000))]) jm_ok81 (by decide +kernel) (by decide +kernel) hd F X1 X2 (fun F' hF hs => ?_)
  have b0 := hd_b (F := F) (F' := F') (k := 0) (hF 0 (by decide))
  have t87 : sy_dv F' (.inr (.inl 87)) = .int ((sy_i F 0) + ((20 : Int32))) := hd_o (hs 0 _ rfl) b0 rfl rfl
  have hB' : iv_in F' iv_B0 := iv_in_eq hB (fun j hj => hF j (Nat.lt_of_lt_of_le hj (by decide +kernel)))
  refine ⟨List.forall_mem_cons.mpr ⟨hd_p5 t87 rfl (by have hc : ((2000) : Int32).toInt = 2000 := (by decide); omega), fun _ h => absurd h List.not_mem_nil⟩, ?_⟩
  refine k _ ?_
  · exact fun j hj _ => (hd_keep hB' (Nat.lt_of_lt_of_le hj (by decide +kernel)) (by simp)).trans (hF j (by omega))
theorem k2ofd_0 {Ls : Nat} {xs : Nat → Int32} {d : Nat} {Q : Option Value → jm_h → Prop} (hd : 2 ≤ d) (F : Nat → sy_d) (X1 X2 : List jm_c) (hB : iv_in F iv_B0)
    (k0 : ((sy_i F 0).toInt + 20) ≤ 2000 → ∀ F1 : Nat → sy_d, iv_in F1 iv_B0 → (∀ j, j < 82 → j ∉ ([] : List Nat) → F1 j = F j) → (sy_i F1 0).toInt = (sy_i F 0).toInt → (sy_i F1 1).toInt = (sy_i F 1).toInt → (sy_i F1 79).toInt = (sy_i F 79).toInt → sy_ai F1 2 = sy_ai F 2 → sy_ai F1 78 = sy_ai F 78 → (sy_i F1 82).toInt = (sy_i F 82).toInt → (sy_i F1 83).toInt = (sy_i F 83).toInt → (sy_i F1 84).toInt = (sy_i F 84).toInt → (sy_i F1 85).toInt = (sy_i F 85).toInt → (sy_i F1 86).toInt = (sy_i F 86).toInt → hd_W Ls xs d jm_M81 Q (17, sy_dL F1 [some (.inl (.ref 8)), some (.inr (.inl 82)), some (.inr (.inl 83)), some (.inr (.inl 84)), some (.inr (.inl 85)), some (.inr (.inl 86))], sy_dS F1 [.inr (.inl 82), .inl (.ref 8)], sy_dh F1 X1 X2 (iv_H 2), 0, 0))
    (k1 : 2000 < ((sy_i F 0).toInt + 20) → ∀ F1 : Nat → sy_d, iv_in F1 iv_B0 → (∀ j, j < 82 → j ∉ ([] : List Nat) → F1 j = F j) → (sy_i F1 0).toInt = (sy_i F 0).toInt → (sy_i F1 1).toInt = (sy_i F 1).toInt → (sy_i F1 79).toInt = (sy_i F 79).toInt → sy_ai F1 2 = sy_ai F 2 → sy_ai F1 78 = sy_ai F 78 → Q (some (.int (((-1) : Int32)))) (sy_dh F1 X1 X2 (iv_H 2))) :
    hd_W Ls xs d jm_M81 Q (0, sy_dL F [some (.inl (.ref 8)), some (.inr (.inl 82)), some (.inr (.inl 83)), some (.inr (.inl 84)), some (.inr (.inl 85)), some (.inr (.inl 86))], sy_dS F [], sy_dh F X1 X2 (iv_H 2), 0, 0) := by
  by_cases g0 : ((sy_i F 0).toInt + 20) ≤ 2000
  · have c0 := nz_bx hB (k := 0) (lo := 0) (hi := 2000) rfl
    have n87 : ((sy_i F 0) + ((20 : Int32))).toInt = ((sy_i F 0).toInt + 20) := nz_add (rfl : (sy_i F 0).toInt = (sy_i F 0).toInt) (by decide : ((20 : Int32)).toInt = 20) (by omega) (by omega)
    exact k2ofd_0_p0 hd F X1 X2 hB (by first | exact g0 | (simp only [nz_c, n87]; exact g0) | (rw [n87]; exact g0)) (fun F1 g e82 e83 e84 e85 e86 => k0 g0 F1 (nz_in0 hB [] (fun j hj hn => g j hj (by simp only [List.mem_cons, List.not_mem_nil, or_false, not_or] at hn; exact trivial)) (List.forall_mem_nil _)) (fun j hj hn => g j hj (by simp only [List.mem_cons, List.not_mem_nil, or_false, not_or] at hn; exact trivial)) (nz_fi (g 0 (by decide) (by decide))) (nz_fi (g 1 (by decide) (by decide))) (nz_fi (g 79 (by decide) (by decide))) (nz_fa (g 2 (by decide) (by decide))) (nz_fa (g 78 (by decide) (by decide))) ((congrArg Int32.toInt (zz_i e82)).trans (rfl : (sy_i F 82).toInt = (sy_i F 82).toInt)) ((congrArg Int32.toInt (zz_i e83)).trans (rfl : (sy_i F 83).toInt = (sy_i F 83).toInt)) ((congrArg Int32.toInt (zz_i e84)).trans (rfl : (sy_i F 84).toInt = (sy_i F 84).toInt)) ((congrArg Int32.toInt (zz_i e85)).trans (rfl : (sy_i F 85).toInt = (sy_i F 85).toInt)) ((congrArg Int32.toInt (zz_i e86)).trans (rfl : (sy_i F 86).toInt = (sy_i F 86).toInt)))
  replace g0 : 2000 < ((sy_i F 0).toInt + 20) := by omega
  have c0 := nz_bx hB (k := 0) (lo := 0) (hi := 2000) rfl
  have n87 : ((sy_i F 0) + ((20 : Int32))).toInt = ((sy_i F 0).toInt + 20) := nz_add (rfl : (sy_i F 0).toInt = (sy_i F 0).toInt) (by decide : ((20 : Int32)).toInt = 20) (by omega) (by omega)
  exact k2ofd_0_p1 hd F X1 X2 hB (by first | exact g0 | (simp only [nz_c, n87]; exact g0) | (rw [n87]; exact g0)) (fun F1 g  => k1 g0 F1 (nz_in0 hB [] (fun j hj hn => g j hj (by simp only [List.mem_cons, List.not_mem_nil, or_false, not_or] at hn; exact trivial)) (List.forall_mem_nil _)) (fun j hj hn => g j hj (by simp only [List.mem_cons, List.not_mem_nil, or_false, not_or] at hn; exact trivial)) (nz_fi (g 0 (by decide) (by decide))) (nz_fi (g 1 (by decide) (by decide))) (nz_fi (g 79 (by decide) (by decide))) (nz_fa (g 2 (by decide) (by decide))) (nz_fa (g 78 (by decide) (by decide))))
theorem k2ofd_20_p0 {Ls : Nat} {xs : Nat → Int32} {d : Nat} {Q : Option Value → jm_h → Prop} (hd : 2 ≤ d) (F : Nat → sy_d) (X1 X2 : List jm_c) (hB : iv_in F iv_B0)
    (k : ∀ F1 : Nat → sy_d, (∀ j, j < 82 → True → F1 j = F j) → F1 82 = .inl (.int (sy_i F 82)) → F1 83 = .inl (.int (sy_i F 83)) → F1 84 = .inl (.int (sy_i F 84)) → F1 85 = .inl (.int (sy_i F 85)) → F1 86 = .inl (.int (sy_i F 86)) → hd_W Ls xs d jm_M81 Q (22, sy_dL F1 [some (.inl (.ref 8)), some (.inr (.inl 82)), some (.inr (.inl 83)), some (.inr (.inl 84)), some (.inr (.inl 85)), some (.inr (.inl 86))], sy_dS F1 [.inr (.inl 83), .inl (.ref 8)], sy_dh F1 X1 X2 (iv_H 2), 0, 0)) :
    hd_W Ls xs d jm_M81 Q (20, sy_dL F [some (.inl (.ref 8)), some (.inr (.inl 82)), some (.inr (.inl 83)), some (.inr (.inl 84)), some (.inr (.inl 85)), some (.inr (.inl 86))], sy_dS F [], sy_dh F X1 X2 (iv_H 2), 0, 0) := by
  refine hd_run (s := 2) (nv := 87) (pc := 22) (L := [some (.inl (.ref 8)), some (.inr (.inl 82)), some (.inr (.inl 83)), some (.inr (.inl 84)), some (.inr (.inl 85)), some (.inr (.inl 86))]) (S := [.inr (.inl 83), .inl (.ref 8)]) (uh := hd_ov (iv_id 0 iv_B0) []) (ul := [.inl (.inr (.inl 82)), .inl (.inr (.inl 83)), .inl (.inr (.inl 84)), .inl (.inr (.inl 85)), .inl (.inr (.inl 86))]) (f := false) (sp := [22]) (d0 := 1) (O := []) (T := []) (P := []) jm_ok81 (by decide +kernel) (by decide +kernel) hd F X1 X2 (fun F' hF hs => ?_)
  have b82 := hd_b (F := F) (F' := F') (k := 82) (hF 82 (by decide))
  have b83 := hd_b (F := F) (F' := F') (k := 83) (hF 83 (by decide))
  have b84 := hd_b (F := F) (F' := F') (k := 84) (hF 84 (by decide))
  have b85 := hd_b (F := F) (F' := F') (k := 85) (hF 85 (by decide))
  have b86 := hd_b (F := F) (F' := F') (k := 86) (hF 86 (by decide))
  have hB' : iv_in F' iv_B0 := iv_in_eq hB (fun j hj => hF j (Nat.lt_of_lt_of_le hj (by decide +kernel)))
  refine ⟨fun _ h => absurd h List.not_mem_nil, ?_⟩
  refine k _ ?_ ?_ ?_ ?_ ?_ ?_
  · exact fun j hj _ => (hd_keep hB' (Nat.lt_of_lt_of_le hj (by decide +kernel)) (by simp)).trans (hF j (by omega))
  · exact hd_gi (x := .inr (.inl 82)) (by decide +kernel) b82
  · exact hd_gi (x := .inr (.inl 83)) (by decide +kernel) b83
  · exact hd_gi (x := .inr (.inl 84)) (by decide +kernel) b84
  · exact hd_gi (x := .inr (.inl 85)) (by decide +kernel) b85
  · exact hd_gi (x := .inr (.inl 86)) (by decide +kernel) b86
theorem k2ofd_20 {Ls : Nat} {xs : Nat → Int32} {d : Nat} {Q : Option Value → jm_h → Prop} (hd : 2 ≤ d) (F : Nat → sy_d) (X1 X2 : List jm_c) (hB : iv_in F iv_B0)
    (k0 : ∀ F1 : Nat → sy_d, iv_in F1 iv_B0 → (∀ j, j < 82 → j ∉ ([] : List Nat) → F1 j = F j) → (sy_i F1 0).toInt = (sy_i F 0).toInt → (sy_i F1 1).toInt = (sy_i F 1).toInt → (sy_i F1 79).toInt = (sy_i F 79).toInt → sy_ai F1 2 = sy_ai F 2 → sy_ai F1 78 = sy_ai F 78 → (sy_i F1 82).toInt = (sy_i F 82).toInt → (sy_i F1 83).toInt = (sy_i F 83).toInt → (sy_i F1 84).toInt = (sy_i F 84).toInt → (sy_i F1 85).toInt = (sy_i F 85).toInt → (sy_i F1 86).toInt = (sy_i F 86).toInt → hd_W Ls xs d jm_M81 Q (22, sy_dL F1 [some (.inl (.ref 8)), some (.inr (.inl 82)), some (.inr (.inl 83)), some (.inr (.inl 84)), some (.inr (.inl 85)), some (.inr (.inl 86))], sy_dS F1 [.inr (.inl 83), .inl (.ref 8)], sy_dh F1 X1 X2 (iv_H 2), 0, 0)) :
    hd_W Ls xs d jm_M81 Q (20, sy_dL F [some (.inl (.ref 8)), some (.inr (.inl 82)), some (.inr (.inl 83)), some (.inr (.inl 84)), some (.inr (.inl 85)), some (.inr (.inl 86))], sy_dS F [], sy_dh F X1 X2 (iv_H 2), 0, 0) := by
  exact k2ofd_20_p0 hd F X1 X2 hB  (fun F1 g e82 e83 e84 e85 e86 => k0 F1 (nz_in0 hB [] (fun j hj hn => g j hj (by simp only [List.mem_cons, List.not_mem_nil, or_false, not_or] at hn; exact trivial)) (List.forall_mem_nil _)) (fun j hj hn => g j hj (by simp only [List.mem_cons, List.not_mem_nil, or_false, not_or] at hn; exact trivial)) (nz_fi (g 0 (by decide) (by decide))) (nz_fi (g 1 (by decide) (by decide))) (nz_fi (g 79 (by decide) (by decide))) (nz_fa (g 2 (by decide) (by decide))) (nz_fa (g 78 (by decide) (by decide))) ((congrArg Int32.toInt (zz_i e82)).trans (rfl : (sy_i F 82).toInt = (sy_i F 82).toInt)) ((congrArg Int32.toInt (zz_i e83)).trans (rfl : (sy_i F 83).toInt = (sy_i F 83).toInt)) ((congrArg Int32.toInt (zz_i e84)).trans (rfl : (sy_i F 84).toInt = (sy_i F 84).toInt)) ((congrArg Int32.toInt (zz_i e85)).trans (rfl : (sy_i F 85).toInt = (sy_i F 85).toInt)) ((congrArg Int32.toInt (zz_i e86)).trans (rfl : (sy_i F 86).toInt = (sy_i F 86).toInt)))
theorem k2ofd_25_p0 {Ls : Nat} {xs : Nat → Int32} {d : Nat} {Q : Option Value → jm_h → Prop} (hd : 2 ≤ d) (F : Nat → sy_d) (X1 X2 : List jm_c) (hB : iv_in F iv_B0)
    (k : ∀ F1 : Nat → sy_d, (∀ j, j < 82 → True → F1 j = F j) → F1 82 = .inl (.int (sy_i F 82)) → F1 83 = .inl (.int (sy_i F 83)) → F1 84 = .inl (.int (sy_i F 84)) → F1 85 = .inl (.int (sy_i F 85)) → F1 86 = .inl (.int (sy_i F 86)) → hd_W Ls xs d jm_M81 Q (27, sy_dL F1 [some (.inl (.ref 8)), some (.inr (.inl 82)), some (.inr (.inl 83)), some (.inr (.inl 84)), some (.inr (.inl 85)), some (.inr (.inl 86))], sy_dS F1 [.inr (.inl 84), .inl (.ref 8)], sy_dh F1 X1 X2 (iv_H 2), 0, 0)) :
    hd_W Ls xs d jm_M81 Q (25, sy_dL F [some (.inl (.ref 8)), some (.inr (.inl 82)), some (.inr (.inl 83)), some (.inr (.inl 84)), some (.inr (.inl 85)), some (.inr (.inl 86))], sy_dS F [], sy_dh F X1 X2 (iv_H 2), 0, 0) := by
  refine hd_run (s := 2) (nv := 87) (pc := 27) (L := [some (.inl (.ref 8)), some (.inr (.inl 82)), some (.inr (.inl 83)), some (.inr (.inl 84)), some (.inr (.inl 85)), some (.inr (.inl 86))]) (S := [.inr (.inl 84), .inl (.ref 8)]) (uh := hd_ov (iv_id 0 iv_B0) []) (ul := [.inl (.inr (.inl 82)), .inl (.inr (.inl 83)), .inl (.inr (.inl 84)), .inl (.inr (.inl 85)), .inl (.inr (.inl 86))]) (f := false) (sp := [27]) (d0 := 1) (O := []) (T := []) (P := []) jm_ok81 (by decide +kernel) (by decide +kernel) hd F X1 X2 (fun F' hF hs => ?_)
  have b82 := hd_b (F := F) (F' := F') (k := 82) (hF 82 (by decide))
  have b83 := hd_b (F := F) (F' := F') (k := 83) (hF 83 (by decide))
  have b84 := hd_b (F := F) (F' := F') (k := 84) (hF 84 (by decide))
  have b85 := hd_b (F := F) (F' := F') (k := 85) (hF 85 (by decide))
  have b86 := hd_b (F := F) (F' := F') (k := 86) (hF 86 (by decide))
  have hB' : iv_in F' iv_B0 := iv_in_eq hB (fun j hj => hF j (Nat.lt_of_lt_of_le hj (by decide +kernel)))
  refine ⟨fun _ h => absurd h List.not_mem_nil, ?_⟩
  refine k _ ?_ ?_ ?_ ?_ ?_ ?_
  · exact fun j hj _ => (hd_keep hB' (Nat.lt_of_lt_of_le hj (by decide +kernel)) (by simp)).trans (hF j (by omega))
  · exact hd_gi (x := .inr (.inl 82)) (by decide +kernel) b82
  · exact hd_gi (x := .inr (.inl 83)) (by decide +kernel) b83
  · exact hd_gi (x := .inr (.inl 84)) (by decide +kernel) b84
  · exact hd_gi (x := .inr (.inl 85)) (by decide +kernel) b85
  · exact hd_gi (x := .inr (.inl 86)) (by decide +kernel) b86
theorem k2ofd_25 {Ls : Nat} {xs : Nat → Int32} {d : Nat} {Q : Option Value → jm_h → Prop} (hd : 2 ≤ d) (F : Nat → sy_d) (X1 X2 : List jm_c) (hB : iv_in F iv_B0)
    (k0 : ∀ F1 : Nat → sy_d, iv_in F1 iv_B0 → (∀ j, j < 82 → j ∉ ([] : List Nat) → F1 j = F j) → (sy_i F1 0).toInt = (sy_i F 0).toInt → (sy_i F1 1).toInt = (sy_i F 1).toInt → (sy_i F1 79).toInt = (sy_i F 79).toInt → sy_ai F1 2 = sy_ai F 2 → sy_ai F1 78 = sy_ai F 78 → (sy_i F1 82).toInt = (sy_i F 82).toInt → (sy_i F1 83).toInt = (sy_i F 83).toInt → (sy_i F1 84).toInt = (sy_i F 84).toInt → (sy_i F1 85).toInt = (sy_i F 85).toInt → (sy_i F1 86).toInt = (sy_i F 86).toInt → hd_W Ls xs d jm_M81 Q (27, sy_dL F1 [some (.inl (.ref 8)), some (.inr (.inl 82)), some (.inr (.inl 83)), some (.inr (.inl 84)), some (.inr (.inl 85)), some (.inr (.inl 86))], sy_dS F1 [.inr (.inl 84), .inl (.ref 8)], sy_dh F1 X1 X2 (iv_H 2), 0, 0)) :
    hd_W Ls xs d jm_M81 Q (25, sy_dL F [some (.inl (.ref 8)), some (.inr (.inl 82)), some (.inr (.inl 83)), some (.inr (.inl 84)), some (.inr (.inl 85)), some (.inr (.inl 86))], sy_dS F [], sy_dh F X1 X2 (iv_H 2), 0, 0) := by
  exact k2ofd_25_p0 hd F X1 X2 hB  (fun F1 g e82 e83 e84 e85 e86 => k0 F1 (nz_in0 hB [] (fun j hj hn => g j hj (by simp only [List.mem_cons, List.not_mem_nil, or_false, not_or] at hn; exact trivial)) (List.forall_mem_nil _)) (fun j hj hn => g j hj (by simp only [List.mem_cons, List.not_mem_nil, or_false, not_or] at hn; exact trivial)) (nz_fi (g 0 (by decide) (by decide))) (nz_fi (g 1 (by decide) (by decide))) (nz_fi (g 79 (by decide) (by decide))) (nz_fa (g 2 (by decide) (by decide))) (nz_fa (g 78 (by decide) (by decide))) ((congrArg Int32.toInt (zz_i e82)).trans (rfl : (sy_i F 82).toInt = (sy_i F 82).toInt)) ((congrArg Int32.toInt (zz_i e83)).trans (rfl : (sy_i F 83).toInt = (sy_i F 83).toInt)) ((congrArg Int32.toInt (zz_i e84)).trans (rfl : (sy_i F 84).toInt = (sy_i F 84).toInt)) ((congrArg Int32.toInt (zz_i e85)).trans (rfl : (sy_i F 85).toInt = (sy_i F 85).toInt)) ((congrArg Int32.toInt (zz_i e86)).trans (rfl : (sy_i F 86).toInt = (sy_i F 86).toInt)))
theorem k2ofd_30_p0 {Ls : Nat} {xs : Nat → Int32} {d : Nat} {Q : Option Value → jm_h → Prop} (hd : 2 ≤ d) (F : Nat → sy_d) (X1 X2 : List jm_c) (hB : iv_in F iv_B0)
    (k : ∀ F1 : Nat → sy_d, (∀ j, j < 82 → True → F1 j = F j) → F1 82 = .inl (.int (sy_i F 82)) → F1 83 = .inl (.int (sy_i F 83)) → F1 84 = .inl (.int (sy_i F 84)) → F1 85 = .inl (.int (sy_i F 85)) → F1 86 = .inl (.int (sy_i F 86)) → hd_W Ls xs d jm_M81 Q (33, sy_dL F1 [some (.inl (.ref 8)), some (.inr (.inl 82)), some (.inr (.inl 83)), some (.inr (.inl 84)), some (.inr (.inl 85)), some (.inr (.inl 86))], sy_dS F1 [.inr (.inl 85), .inl (.ref 8)], sy_dh F1 X1 X2 (iv_H 2), 0, 0)) :
    hd_W Ls xs d jm_M81 Q (30, sy_dL F [some (.inl (.ref 8)), some (.inr (.inl 82)), some (.inr (.inl 83)), some (.inr (.inl 84)), some (.inr (.inl 85)), some (.inr (.inl 86))], sy_dS F [], sy_dh F X1 X2 (iv_H 2), 0, 0) := by
  refine hd_run (s := 2) (nv := 87) (pc := 33) (L := [some (.inl (.ref 8)), some (.inr (.inl 82)), some (.inr (.inl 83)), some (.inr (.inl 84)), some (.inr (.inl 85)), some (.inr (.inl 86))]) (S := [.inr (.inl 85), .inl (.ref 8)]) (uh := hd_ov (iv_id 0 iv_B0) []) (ul := [.inl (.inr (.inl 82)), .inl (.inr (.inl 83)), .inl (.inr (.inl 84)), .inl (.inr (.inl 85)), .inl (.inr (.inl 86))]) (f := false) (sp := [33]) (d0 := 1) (O := []) (T := []) (P := []) jm_ok81 (by decide +kernel) (by decide +kernel) hd F X1 X2 (fun F' hF hs => ?_)
  have b82 := hd_b (F := F) (F' := F') (k := 82) (hF 82 (by decide))
  have b83 := hd_b (F := F) (F' := F') (k := 83) (hF 83 (by decide))
  have b84 := hd_b (F := F) (F' := F') (k := 84) (hF 84 (by decide))
  have b85 := hd_b (F := F) (F' := F') (k := 85) (hF 85 (by decide))
  have b86 := hd_b (F := F) (F' := F') (k := 86) (hF 86 (by decide))
  have hB' : iv_in F' iv_B0 := iv_in_eq hB (fun j hj => hF j (Nat.lt_of_lt_of_le hj (by decide +kernel)))
  refine ⟨fun _ h => absurd h List.not_mem_nil, ?_⟩
  refine k _ ?_ ?_ ?_ ?_ ?_ ?_
  · exact fun j hj _ => (hd_keep hB' (Nat.lt_of_lt_of_le hj (by decide +kernel)) (by simp)).trans (hF j (by omega))
  · exact hd_gi (x := .inr (.inl 82)) (by decide +kernel) b82
  · exact hd_gi (x := .inr (.inl 83)) (by decide +kernel) b83
  · exact hd_gi (x := .inr (.inl 84)) (by decide +kernel) b84
  · exact hd_gi (x := .inr (.inl 85)) (by decide +kernel) b85
  · exact hd_gi (x := .inr (.inl 86)) (by decide +kernel) b86
theorem k2ofd_30 {Ls : Nat} {xs : Nat → Int32} {d : Nat} {Q : Option Value → jm_h → Prop} (hd : 2 ≤ d) (F : Nat → sy_d) (X1 X2 : List jm_c) (hB : iv_in F iv_B0)
    (k0 : ∀ F1 : Nat → sy_d, iv_in F1 iv_B0 → (∀ j, j < 82 → j ∉ ([] : List Nat) → F1 j = F j) → (sy_i F1 0).toInt = (sy_i F 0).toInt → (sy_i F1 1).toInt = (sy_i F 1).toInt → (sy_i F1 79).toInt = (sy_i F 79).toInt → sy_ai F1 2 = sy_ai F 2 → sy_ai F1 78 = sy_ai F 78 → (sy_i F1 82).toInt = (sy_i F 82).toInt → (sy_i F1 83).toInt = (sy_i F 83).toInt → (sy_i F1 84).toInt = (sy_i F 84).toInt → (sy_i F1 85).toInt = (sy_i F 85).toInt → (sy_i F1 86).toInt = (sy_i F 86).toInt → hd_W Ls xs d jm_M81 Q (33, sy_dL F1 [some (.inl (.ref 8)), some (.inr (.inl 82)), some (.inr (.inl 83)), some (.inr (.inl 84)), some (.inr (.inl 85)), some (.inr (.inl 86))], sy_dS F1 [.inr (.inl 85), .inl (.ref 8)], sy_dh F1 X1 X2 (iv_H 2), 0, 0)) :
    hd_W Ls xs d jm_M81 Q (30, sy_dL F [some (.inl (.ref 8)), some (.inr (.inl 82)), some (.inr (.inl 83)), some (.inr (.inl 84)), some (.inr (.inl 85)), some (.inr (.inl 86))], sy_dS F [], sy_dh F X1 X2 (iv_H 2), 0, 0) := by
  exact k2ofd_30_p0 hd F X1 X2 hB  (fun F1 g e82 e83 e84 e85 e86 => k0 F1 (nz_in0 hB [] (fun j hj hn => g j hj (by simp only [List.mem_cons, List.not_mem_nil, or_false, not_or] at hn; exact trivial)) (List.forall_mem_nil _)) (fun j hj hn => g j hj (by simp only [List.mem_cons, List.not_mem_nil, or_false, not_or] at hn; exact trivial)) (nz_fi (g 0 (by decide) (by decide))) (nz_fi (g 1 (by decide) (by decide))) (nz_fi (g 79 (by decide) (by decide))) (nz_fa (g 2 (by decide) (by decide))) (nz_fa (g 78 (by decide) (by decide))) ((congrArg Int32.toInt (zz_i e82)).trans (rfl : (sy_i F 82).toInt = (sy_i F 82).toInt)) ((congrArg Int32.toInt (zz_i e83)).trans (rfl : (sy_i F 83).toInt = (sy_i F 83).toInt)) ((congrArg Int32.toInt (zz_i e84)).trans (rfl : (sy_i F 84).toInt = (sy_i F 84).toInt)) ((congrArg Int32.toInt (zz_i e85)).trans (rfl : (sy_i F 85).toInt = (sy_i F 85).toInt)) ((congrArg Int32.toInt (zz_i e86)).trans (rfl : (sy_i F 86).toInt = (sy_i F 86).toInt)))
theorem k2ofd_36_p0 {Ls : Nat} {xs : Nat → Int32} {d : Nat} {Q : Option Value → jm_h → Prop} (hd : 2 ≤ d) (F : Nat → sy_d) (X1 X2 : List jm_c) (hB : iv_in F iv_B0)
    (k : ∀ F1 : Nat → sy_d, (∀ j, j < 82 → True → F1 j = F j) → F1 82 = .inl (.int (sy_i F 82)) → F1 83 = .inl (.int (sy_i F 83)) → F1 84 = .inl (.int (sy_i F 84)) → F1 85 = .inl (.int (sy_i F 85)) → F1 86 = .inl (.int (sy_i F 86)) → hd_W Ls xs d jm_M81 Q (39, sy_dL F1 [some (.inl (.ref 8)), some (.inr (.inl 82)), some (.inr (.inl 83)), some (.inr (.inl 84)), some (.inr (.inl 85)), some (.inr (.inl 86))], sy_dS F1 [.inr (.inl 86), .inl (.ref 8)], sy_dh F1 X1 X2 (iv_H 2), 0, 0)) :
    hd_W Ls xs d jm_M81 Q (36, sy_dL F [some (.inl (.ref 8)), some (.inr (.inl 82)), some (.inr (.inl 83)), some (.inr (.inl 84)), some (.inr (.inl 85)), some (.inr (.inl 86))], sy_dS F [], sy_dh F X1 X2 (iv_H 2), 0, 0) := by
  refine hd_run (s := 2) (nv := 87) (pc := 39) (L := [some (.inl (.ref 8)), some (.inr (.inl 82)), some (.inr (.inl 83)), some (.inr (.inl 84)), some (.inr (.inl 85)), some (.inr (.inl 86))]) (S := [.inr (.inl 86), .inl (.ref 8)]) (uh := hd_ov (iv_id 0 iv_B0) []) (ul := [.inl (.inr (.inl 82)), .inl (.inr (.inl 83)), .inl (.inr (.inl 84)), .inl (.inr (.inl 85)), .inl (.inr (.inl 86))]) (f := false) (sp := [39]) (d0 := 1) (O := []) (T := []) (P := []) jm_ok81 (by decide +kernel) (by decide +kernel) hd F X1 X2 (fun F' hF hs => ?_)
  have b82 := hd_b (F := F) (F' := F') (k := 82) (hF 82 (by decide))
  have b83 := hd_b (F := F) (F' := F') (k := 83) (hF 83 (by decide))
  have b84 := hd_b (F := F) (F' := F') (k := 84) (hF 84 (by decide))
  have b85 := hd_b (F := F) (F' := F') (k := 85) (hF 85 (by decide))
  have b86 := hd_b (F := F) (F' := F') (k := 86) (hF 86 (by decide))
  have hB' : iv_in F' iv_B0 := iv_in_eq hB (fun j hj => hF j (Nat.lt_of_lt_of_le hj (by decide +kernel)))
  refine ⟨fun _ h => absurd h List.not_mem_nil, ?_⟩
  refine k _ ?_ ?_ ?_ ?_ ?_ ?_
  · exact fun j hj _ => (hd_keep hB' (Nat.lt_of_lt_of_le hj (by decide +kernel)) (by simp)).trans (hF j (by omega))
  · exact hd_gi (x := .inr (.inl 82)) (by decide +kernel) b82
  · exact hd_gi (x := .inr (.inl 83)) (by decide +kernel) b83
  · exact hd_gi (x := .inr (.inl 84)) (by decide +kernel) b84
  · exact hd_gi (x := .inr (.inl 85)) (by decide +kernel) b85
  · exact hd_gi (x := .inr (.inl 86)) (by decide +kernel) b86
theorem k2ofd_36 {Ls : Nat} {xs : Nat → Int32} {d : Nat} {Q : Option Value → jm_h → Prop} (hd : 2 ≤ d) (F : Nat → sy_d) (X1 X2 : List jm_c) (hB : iv_in F iv_B0)
    (k0 : ∀ F1 : Nat → sy_d, iv_in F1 iv_B0 → (∀ j, j < 82 → j ∉ ([] : List Nat) → F1 j = F j) → (sy_i F1 0).toInt = (sy_i F 0).toInt → (sy_i F1 1).toInt = (sy_i F 1).toInt → (sy_i F1 79).toInt = (sy_i F 79).toInt → sy_ai F1 2 = sy_ai F 2 → sy_ai F1 78 = sy_ai F 78 → (sy_i F1 82).toInt = (sy_i F 82).toInt → (sy_i F1 83).toInt = (sy_i F 83).toInt → (sy_i F1 84).toInt = (sy_i F 84).toInt → (sy_i F1 85).toInt = (sy_i F 85).toInt → (sy_i F1 86).toInt = (sy_i F 86).toInt → hd_W Ls xs d jm_M81 Q (39, sy_dL F1 [some (.inl (.ref 8)), some (.inr (.inl 82)), some (.inr (.inl 83)), some (.inr (.inl 84)), some (.inr (.inl 85)), some (.inr (.inl 86))], sy_dS F1 [.inr (.inl 86), .inl (.ref 8)], sy_dh F1 X1 X2 (iv_H 2), 0, 0)) :
    hd_W Ls xs d jm_M81 Q (36, sy_dL F [some (.inl (.ref 8)), some (.inr (.inl 82)), some (.inr (.inl 83)), some (.inr (.inl 84)), some (.inr (.inl 85)), some (.inr (.inl 86))], sy_dS F [], sy_dh F X1 X2 (iv_H 2), 0, 0) := by
  exact k2ofd_36_p0 hd F X1 X2 hB  (fun F1 g e82 e83 e84 e85 e86 => k0 F1 (nz_in0 hB [] (fun j hj hn => g j hj (by simp only [List.mem_cons, List.not_mem_nil, or_false, not_or] at hn; exact trivial)) (List.forall_mem_nil _)) (fun j hj hn => g j hj (by simp only [List.mem_cons, List.not_mem_nil, or_false, not_or] at hn; exact trivial)) (nz_fi (g 0 (by decide) (by decide))) (nz_fi (g 1 (by decide) (by decide))) (nz_fi (g 79 (by decide) (by decide))) (nz_fa (g 2 (by decide) (by decide))) (nz_fa (g 78 (by decide) (by decide))) ((congrArg Int32.toInt (zz_i e82)).trans (rfl : (sy_i F 82).toInt = (sy_i F 82).toInt)) ((congrArg Int32.toInt (zz_i e83)).trans (rfl : (sy_i F 83).toInt = (sy_i F 83).toInt)) ((congrArg Int32.toInt (zz_i e84)).trans (rfl : (sy_i F 84).toInt = (sy_i F 84).toInt)) ((congrArg Int32.toInt (zz_i e85)).trans (rfl : (sy_i F 85).toInt = (sy_i F 85).toInt)) ((congrArg Int32.toInt (zz_i e86)).trans (rfl : (sy_i F 86).toInt = (sy_i F 86).toInt)))
theorem k2ofd_42_p0 {Ls : Nat} {xs : Nat → Int32} {d : Nat} {Q : Option Value → jm_h → Prop} (hd : 2 ≤ d) (F : Nat → sy_d) (X1 X2 : List jm_c) (hB : iv_in F iv_B0)
    (k : ∀ F1 : Nat → sy_d, (∀ j, j < 82 → True → F1 j = F j) → Q (some (.int (sy_i F 0))) (sy_dh F1 X1 X2 (iv_H 2))) :
    hd_W Ls xs d jm_M81 Q (42, sy_dL F [some (.inl (.ref 8)), some (.inr (.inl 82)), some (.inr (.inl 83)), some (.inr (.inl 84)), some (.inr (.inl 85)), some (.inr (.inl 86))], sy_dS F [], sy_dh F X1 X2 (iv_H 2), 0, 0) := by
  refine hd_ret (s := 2) (nv := 87) (v := some (.inr (.inl 0))) (uh := hd_ov (iv_id 0 iv_B0) []) (f := false) (sp := []) (d0 := 1) (O := []) (T := []) (P := []) jm_ok81 (by decide +kernel) (by decide +kernel) hd F X1 X2 (fun F' hF hs => ?_)
  have b0 := hd_b (F := F) (F' := F') (k := 0) (hF 0 (by decide))
  have hB' : iv_in F' iv_B0 := iv_in_eq hB (fun j hj => hF j (Nat.lt_of_lt_of_le hj (by decide +kernel)))
  have hk := k (sy_cm F' (hd_ov (iv_id 0 iv_B0) [] ++ [])) (fun j hj _ => (hd_keep hB' (Nat.lt_of_lt_of_le hj (by decide +kernel)) (by simp)).trans (hF j (by omega)))
  refine ⟨fun _ h => absurd h List.not_mem_nil, ?_⟩
  show Q (some (sy_dv F' (.inr (.inl 0)))) _
  rw [b0]
  exact hk
theorem k2ofd_42 {Ls : Nat} {xs : Nat → Int32} {d : Nat} {Q : Option Value → jm_h → Prop} (hd : 2 ≤ d) (F : Nat → sy_d) (X1 X2 : List jm_c) (hB : iv_in F iv_B0)
    (k0 : ∀ F1 : Nat → sy_d, iv_in F1 iv_B0 → (∀ j, j < 82 → j ∉ ([] : List Nat) → F1 j = F j) → (sy_i F1 0).toInt = (sy_i F 0).toInt → (sy_i F1 1).toInt = (sy_i F 1).toInt → (sy_i F1 79).toInt = (sy_i F 79).toInt → sy_ai F1 2 = sy_ai F 2 → sy_ai F1 78 = sy_ai F 78 → Q (some (.int (sy_i F 0))) (sy_dh F1 X1 X2 (iv_H 2))) :
    hd_W Ls xs d jm_M81 Q (42, sy_dL F [some (.inl (.ref 8)), some (.inr (.inl 82)), some (.inr (.inl 83)), some (.inr (.inl 84)), some (.inr (.inl 85)), some (.inr (.inl 86))], sy_dS F [], sy_dh F X1 X2 (iv_H 2), 0, 0) := by
  exact k2ofd_42_p0 hd F X1 X2 hB  (fun F1 g  => by rw [(rfl : sy_i F 0 = sy_i F 0)]; exact k0 F1 (nz_in0 hB [] (fun j hj hn => g j hj (by simp only [List.mem_cons, List.not_mem_nil, or_false, not_or] at hn; exact trivial)) (List.forall_mem_nil _)) (fun j hj hn => g j hj (by simp only [List.mem_cons, List.not_mem_nil, or_false, not_or] at hn; exact trivial)) (nz_fi (g 0 (by decide) (by decide))) (nz_fi (g 1 (by decide) (by decide))) (nz_fi (g 79 (by decide) (by decide))) (nz_fa (g 2 (by decide) (by decide))) (nz_fa (g 78 (by decide) (by decide))))
theorem k2ord_0_p0 {Ls : Nat} {xs : Nat → Int32} {d : Nat} {Q : Option Value → jm_h → Prop} (hd : 29 ≤ d) (F : Nat → sy_d) (X1 X2 : List jm_c) (hB : iv_in F iv_B0)
    (k : ∀ F1 : Nat → sy_d, (∀ j, j < 82 → True → F1 j = F j) → F1 82 = .inl (.int (sy_i F 0)) → hd_W Ls xs d jm_M83 Q (16, sy_dL F1 [some (.inl (.ref 8)), none, none], sy_dS F1 [.inl (.ref 10), .inr (.inl 82), .inl (.ref 9), .inl (.ref 30)], sy_dh F1 X1 X2 (iv_H 2), 0, 0)) :
    hd_W Ls xs d jm_M83 Q (0, sy_dL F [some (.inl (.ref 8)), none, none], sy_dS F [], sy_dh F X1 X2 (iv_H 2), 0, 0) := by
  refine hd_run (s := 2) (nv := 82) (pc := 16) (L := [some (.inl (.ref 8)), none, none]) (S := [.inl (.ref 10), .inr (.inl 82), .inl (.ref 9), .inl (.ref 30)]) (uh := hd_ov (iv_id 0 iv_B0) []) (ul := [.inl (.inr (.inl 0))]) (f := true) (sp := [16]) (d0 := 28) (O := []) (T := []) (P := []) jm_ok83 (by decide +kernel) (by decide +kernel) hd F X1 X2 (fun F' hF hs => ?_)
  have b0 := hd_b (F := F) (F' := F') (k := 0) (hF 0 (by decide))
  have hB' : iv_in F' iv_B0 := iv_in_eq hB (fun j hj => hF j (Nat.lt_of_lt_of_le hj (by decide +kernel)))
  refine ⟨fun _ h => absurd h List.not_mem_nil, ?_⟩
  refine k _ ?_ ?_
  · exact fun j hj _ => (hd_keep hB' (Nat.lt_of_lt_of_le hj (by decide +kernel)) (by simp)).trans (hF j (by omega))
  · exact hd_gi (x := .inr (.inl 0)) (by decide +kernel) b0
theorem k2ord_0 {Ls : Nat} {xs : Nat → Int32} {d : Nat} {Q : Option Value → jm_h → Prop} (hd : 29 ≤ d) (F : Nat → sy_d) (X1 X2 : List jm_c) (hB : iv_in F iv_B0)
    (k0 : ∀ F1 : Nat → sy_d, iv_in F1 iv_B0 → (∀ j, j < 82 → j ∉ ([] : List Nat) → F1 j = F j) → (sy_i F1 0).toInt = (sy_i F 0).toInt → (sy_i F1 1).toInt = (sy_i F 1).toInt → (sy_i F1 35).toInt = (sy_i F 35).toInt → (sy_i F1 79).toInt = (sy_i F 79).toInt → sy_ai F1 2 = sy_ai F 2 → sy_ai F1 78 = sy_ai F 78 → (sy_i F1 82).toInt = (sy_i F 0).toInt → hd_W Ls xs d jm_M83 Q (16, sy_dL F1 [some (.inl (.ref 8)), none, none], sy_dS F1 [.inl (.ref 10), .inr (.inl 82), .inl (.ref 9), .inl (.ref 30)], sy_dh F1 X1 X2 (iv_H 2), 0, 0)) :
    hd_W Ls xs d jm_M83 Q (0, sy_dL F [some (.inl (.ref 8)), none, none], sy_dS F [], sy_dh F X1 X2 (iv_H 2), 0, 0) := by
  have c0 := nz_bx hB (k := 0) (lo := 0) (hi := 2000) rfl
  exact k2ord_0_p0 hd F X1 X2 hB  (fun F1 g e82 => k0 F1 (nz_in0 hB [] (fun j hj hn => g j hj (by simp only [List.mem_cons, List.not_mem_nil, or_false, not_or] at hn; exact trivial)) (List.forall_mem_nil _)) (fun j hj hn => g j hj (by simp only [List.mem_cons, List.not_mem_nil, or_false, not_or] at hn; exact trivial)) (nz_fi (g 0 (by decide) (by decide))) (nz_fi (g 1 (by decide) (by decide))) (nz_fi (g 35 (by decide) (by decide))) (nz_fi (g 79 (by decide) (by decide))) (nz_fa (g 2 (by decide) (by decide))) (nz_fa (g 78 (by decide) (by decide))) ((congrArg Int32.toInt (zz_i e82)).trans (rfl : (sy_i F 0).toInt = (sy_i F 0).toInt)))
