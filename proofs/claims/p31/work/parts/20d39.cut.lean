/-! ===== the class cuts a text into tokens, way by way (shape 1) ===== -/
theorem k1wk_0_p0 {Ls : Nat} {xs : Nat → Int32} {d : Nat} {Q : Option Value → jm_h → Prop} (hd : 2 ≤ d) (F : Nat → sy_d) (X1 X2 : List jm_c) (hB : iv_in F iv_B0)
    (k : ∀ F1 : Nat → sy_d, (∀ j, j < 82 → True → F1 j = F j) → F1 82 = .inl (.long (sy_l F 82)) → F1 83 = .inl (.int ((0 : Int32))) → hd_W Ls xs d jm_M62 Q (2, sy_dL F1 [some (.inl (.ref 31)), some (.inr (.inr 82)), none, some (.inr (.inl 83))], sy_dS F1 [], sy_dh F1 X1 X2 (iv_H 1), 0, 0)) :
    hd_W Ls xs d jm_M62 Q (0, sy_dL F [some (.inl (.ref 31)), some (.inr (.inr 82)), none, none], sy_dS F [], sy_dh F X1 X2 (iv_H 1), 0, 0) := by
  refine hd_run (s := 1) (nv := 83) (pc := 2) (L := [some (.inl (.ref 31)), some (.inr (.inr 82)), none, some (.inr (.inl 83))]) (S := []) (uh := hd_ov (iv_id 0 iv_B0) []) (ul := [.inl (.inr (.inr 82)), .inl (.inl (.int 0))]) (f := true) (sp := [2]) (d0 := 1) (O := []) (T := []) (P := []) jm_ok62 (by decide +kernel) (by decide +kernel) hd F X1 X2 (fun F' hF hs => ?_)
  have b82 := hd_bl (F := F) (F' := F') (k := 82) (hF 82 (by decide))
  have hB' : iv_in F' iv_B0 := iv_in_eq hB (fun j hj => hF j (Nat.lt_of_lt_of_le hj (by decide +kernel)))
  refine ⟨fun _ h => absurd h List.not_mem_nil, ?_⟩
  refine k _ ?_ ?_ ?_
  · exact fun j hj _ => (hd_keep hB' (Nat.lt_of_lt_of_le hj (by decide +kernel)) (by simp)).trans (hF j (Nat.lt_of_lt_of_le hj (by decide)))
  · exact hd_gl (x := .inr (.inr 82)) (by decide +kernel) b82
  · exact hd_gi (x := .inl (.int 0)) (by decide +kernel) rfl
theorem k1wk_0 {Ls : Nat} {xs : Nat → Int32} {d : Nat} {Q : Option Value → jm_h → Prop} (hd : 2 ≤ d) (F : Nat → sy_d) (X1 X2 : List jm_c) (hB : iv_in F iv_B0)
    (k0 : ∀ F1 : Nat → sy_d, iv_in F1 iv_B0 → (∀ j, j < 82 → j ∉ ([] : List Nat) → F1 j = F j) → sy_l F1 82 = sy_l F 82 → (sy_i F1 83).toInt = 0 → hd_W Ls xs d jm_M62 Q (2, sy_dL F1 [some (.inl (.ref 31)), some (.inr (.inr 82)), none, some (.inr (.inl 83))], sy_dS F1 [], sy_dh F1 X1 X2 (iv_H 1), 0, 0)) :
    hd_W Ls xs d jm_M62 Q (0, sy_dL F [some (.inl (.ref 31)), some (.inr (.inr 82)), none, none], sy_dS F [], sy_dh F X1 X2 (iv_H 1), 0, 0) := by
  exact k1wk_0_p0 hd F X1 X2 hB  (fun F1 g e82 e83 => k0 F1 (nz_in0 hB [] (fun j hj hn => g j hj (by simp only [List.mem_cons, List.not_mem_nil, or_false, not_or] at hn; exact trivial)) (List.forall_mem_nil _)) (fun j hj hn => g j hj (by simp only [List.mem_cons, List.not_mem_nil, or_false, not_or] at hn; exact trivial)) ((zz_l e82).trans (rfl : sy_l F 82 = sy_l F 82)) ((congrArg Int32.toInt (zz_i e83)).trans (by decide : ((0 : Int32)).toInt = 0)))
theorem k1wk_2_p0 {Ls : Nat} {xs : Nat → Int32} {d : Nat} {Q : Option Value → jm_h → Prop} (hd : 2 ≤ d) (F : Nat → sy_d) (X1 X2 : List jm_c) (hB : iv_in F iv_B0)
    (h0 : 23 ≤ (sy_i F 83).toInt)
    (k : ∀ F1 : Nat → sy_d, (∀ j, j < 82 → True → F1 j = F j) → Q (some (.int ((23 : Int32)))) (sy_dh F1 X1 X2 (iv_H 1))) :
    hd_W Ls xs d jm_M62 Q (2, sy_dL F [some (.inl (.ref 31)), some (.inr (.inr 82)), none, some (.inr (.inl 83))], sy_dS F [], sy_dh F X1 X2 (iv_H 1), 0, 0) := by
  refine hd_ret (s := 1) (nv := 84) (v := some (.inl (.int 23))) (uh := hd_ov (iv_id 0 iv_B0) []) (f := true) (sp := [2]) (d0 := 1) (O := [true]) (T := []) (P := [(4, .inl (.int 23), .inr (.inl 83))]) jm_ok62 (by decide +kernel) (by decide +kernel) hd F X1 X2 (fun F' hF hs => ?_)
  have b83 := hd_b (F := F) (F' := F') (k := 83) (hF 83 (by decide))
  have hB' : iv_in F' iv_B0 := iv_in_eq hB (fun j hj => hF j (Nat.lt_of_lt_of_le hj (by decide +kernel)))
  refine ⟨List.forall_mem_cons.mpr ⟨hd_p4 rfl b83 (by have hc : ((23) : Int32).toInt = 23 := (by decide); omega), fun _ h => absurd h List.not_mem_nil⟩, ?_⟩
  refine k _ ?_
  · exact fun j hj _ => (hd_keep hB' (Nat.lt_of_lt_of_le hj (by decide +kernel)) (by simp)).trans (hF j (Nat.lt_of_lt_of_le hj (by decide)))
theorem k1wk_2_p1 {Ls : Nat} {xs : Nat → Int32} {d : Nat} {Q : Option Value → jm_h → Prop} (hd : 2 ≤ d) (F : Nat → sy_d) (X1 X2 : List jm_c) (hB : iv_in F iv_B0)
    (h0 : (sy_i F 83).toInt < 23)
    (h1 : 0 ≤ (sy_i F 83).toInt ∧ (sy_i F 83).toInt < 23)
    (h2 : (lg_cmp ((sy_al F 42).getD (sy_i F 83).toNatClampNeg 0) (sy_l F 82)).toInt ≠ 0)
    (k : ∀ F1 : Nat → sy_d, (∀ j, j < 82 → True → F1 j = F j) → F1 82 = .inl (.long (sy_l F 82)) → F1 83 = .inl (.int ((sy_i F 83) + ((1 : Int32)))) → hd_W Ls xs d jm_M62 Q (2, sy_dL F1 [some (.inl (.ref 31)), some (.inr (.inr 82)), none, some (.inr (.inl 83))], sy_dS F1 [], sy_dh F1 X1 X2 (iv_H 1), 0, 0)) :
    hd_W Ls xs d jm_M62 Q (2, sy_dL F [some (.inl (.ref 31)), some (.inr (.inr 82)), none, some (.inr (.inl 83))], sy_dS F [], sy_dh F X1 X2 (iv_H 1), 0, 0) := by
  refine hd_run (s := 1) (nv := 84) (pc := 2) (L := [some (.inl (.ref 31)), some (.inr (.inr 82)), none, some (.inr (.inl 83))]) (S := []) (uh := hd_ov (iv_id 0 iv_B0) []) (ul := [.inl (.inr (.inr 82)), .inl (.inr (.inl 86))]) (f := true) (sp := [2]) (d0 := 1) (O := [false, true]) (T := [(30, [.inr (.inl 83)], [.inr (.inr 42)]), (17, [.inr (.inr 84), .inr (.inr 82)], []), (0, [.inr (.inl 83), .inl (.int 1)], [])]) (P := [(5, .inl (.int 23), .inr (.inl 83)), (6, .inr (.inl 83), .inl (.ref 23)), (1, .inr (.inl 85), .inl (.int 0))]) jm_ok62 (by decide +kernel) (by decide +kernel) hd F X1 X2 (fun F' hF hs => ?_)
  have b83 := hd_b (F := F) (F' := F') (k := 83) (hF 83 (by decide))
  have a42 := hd_bA (F := F) (F' := F') (k := 42) (hF 42 (by decide))
  have t84 : sy_dv F' (.inr (.inr 84)) = .long ((sy_al F 42).getD (sy_i F 83).toNatClampNeg 0) := hd_rL (hs 0 _ rfl) b83 a42
  have b82 := hd_bl (F := F) (F' := F') (k := 82) (hF 82 (by decide))
  have t85 : sy_dv F' (.inr (.inl 85)) = .int (lg_cmp ((sy_al F 42).getD (sy_i F 83).toNatClampNeg 0) (sy_l F 82)) := hd_oc (hs 1 _ rfl) t84 b82 rfl
  have t86 : sy_dv F' (.inr (.inl 86)) = .int ((sy_i F 83) + ((1 : Int32))) := hd_o (hs 2 _ rfl) b83 rfl rfl
  have hB' : iv_in F' iv_B0 := iv_in_eq hB (fun j hj => hF j (Nat.lt_of_lt_of_le hj (by decide +kernel)))
  refine ⟨List.forall_mem_cons.mpr ⟨hd_p5 rfl b83 (by have hc : ((23) : Int32).toInt = 23 := (by decide); omega), List.forall_mem_cons.mpr ⟨hd_pb b83 (by first | exact h1 | exact h1), List.forall_mem_cons.mpr ⟨hd_p1 t85 rfl (by have hc : ((0) : Int32).toInt = 0 := (by decide); omega), fun _ h => absurd h List.not_mem_nil⟩⟩⟩, ?_⟩
  refine k _ ?_ ?_ ?_
  · exact fun j hj _ => (hd_keep hB' (Nat.lt_of_lt_of_le hj (by decide +kernel)) (by simp)).trans (hF j (Nat.lt_of_lt_of_le hj (by decide)))
  · exact hd_gl (x := .inr (.inr 82)) (by decide +kernel) b82
  · exact hd_gi (x := .inr (.inl 86)) (by decide +kernel) t86
theorem k1wk_2_p2 {Ls : Nat} {xs : Nat → Int32} {d : Nat} {Q : Option Value → jm_h → Prop} (hd : 2 ≤ d) (F : Nat → sy_d) (X1 X2 : List jm_c) (hB : iv_in F iv_B0)
    (h0 : (sy_i F 83).toInt < 23)
    (h1 : 0 ≤ (sy_i F 83).toInt ∧ (sy_i F 83).toInt < 23)
    (h2 : (lg_cmp ((sy_al F 42).getD (sy_i F 83).toNatClampNeg 0) (sy_l F 82)).toInt = 0)
    (k : ∀ F1 : Nat → sy_d, (∀ j, j < 82 → True → F1 j = F j) → Q (some (.int (sy_i F 83))) (sy_dh F1 X1 X2 (iv_H 1))) :
    hd_W Ls xs d jm_M62 Q (2, sy_dL F [some (.inl (.ref 31)), some (.inr (.inr 82)), none, some (.inr (.inl 83))], sy_dS F [], sy_dh F X1 X2 (iv_H 1), 0, 0) := by
  refine hd_ret (s := 1) (nv := 84) (v := some (.inr (.inl 83))) (uh := hd_ov (iv_id 0 iv_B0) []) (f := true) (sp := [2]) (d0 := 1) (O := [false, false]) (T := [(30, [.inr (.inl 83)], [.inr (.inr 42)]), (17, [.inr (.inr 84), .inr (.inr 82)], [])]) (P := [(5, .inl (.int 23), .inr (.inl 83)), (6, .inr (.inl 83), .inl (.ref 23)), (0, .inr (.inl 85), .inl (.int 0))]) jm_ok62 (by decide +kernel) (by decide +kernel) hd F X1 X2 (fun F' hF hs => ?_)
  have b83 := hd_b (F := F) (F' := F') (k := 83) (hF 83 (by decide))
  have a42 := hd_bA (F := F) (F' := F') (k := 42) (hF 42 (by decide))
  have t84 : sy_dv F' (.inr (.inr 84)) = .long ((sy_al F 42).getD (sy_i F 83).toNatClampNeg 0) := hd_rL (hs 0 _ rfl) b83 a42
  have b82 := hd_bl (F := F) (F' := F') (k := 82) (hF 82 (by decide))
  have t85 : sy_dv F' (.inr (.inl 85)) = .int (lg_cmp ((sy_al F 42).getD (sy_i F 83).toNatClampNeg 0) (sy_l F 82)) := hd_oc (hs 1 _ rfl) t84 b82 rfl
  have hB' : iv_in F' iv_B0 := iv_in_eq hB (fun j hj => hF j (Nat.lt_of_lt_of_le hj (by decide +kernel)))
  have hk := k (sy_cm F' (hd_ov (iv_id 0 iv_B0) [] ++ [])) (fun j hj _ => (hd_keep hB' (Nat.lt_of_lt_of_le hj (by decide +kernel)) (by simp)).trans (hF j (Nat.lt_of_lt_of_le hj (by decide))))
  refine ⟨List.forall_mem_cons.mpr ⟨hd_p5 rfl b83 (by have hc : ((23) : Int32).toInt = 23 := (by decide); omega), List.forall_mem_cons.mpr ⟨hd_pb b83 (by first | exact h1 | exact h1), List.forall_mem_cons.mpr ⟨hd_p0 t85 rfl (by have hc : ((0) : Int32).toInt = 0 := (by decide); omega), fun _ h => absurd h List.not_mem_nil⟩⟩⟩, ?_⟩
  show Q (some (sy_dv F' (.inr (.inl 83)))) _
  rw [b83]
  exact hk
theorem k1wk_2 {Ls : Nat} {xs : Nat → Int32} {d : Nat} {Q : Option Value → jm_h → Prop} (hd : 2 ≤ d) (F : Nat → sy_d) (X1 X2 : List jm_c) (hB : iv_in F iv_B0)
    (a83 : 0 ≤ (sy_i F 83).toInt ∧ (sy_i F 83).toInt ≤ 23)
    (k0 : 23 ≤ (sy_i F 83).toInt → ∀ F1 : Nat → sy_d, iv_in F1 iv_B0 → (∀ j, j < 82 → j ∉ ([] : List Nat) → F1 j = F j) → Q (some (.int ((23 : Int32)))) (sy_dh F1 X1 X2 (iv_H 1)))
    (k1 : (sy_i F 83).toInt < 23 → (lg_cmp ((sy_al F 42).getD ((sy_i F 83).toInt).toNat 0) (sy_l F 82)).toInt ≠ 0 → ∀ F1 : Nat → sy_d, iv_in F1 iv_B0 → (∀ j, j < 82 → j ∉ ([] : List Nat) → F1 j = F j) → sy_l F1 82 = sy_l F 82 → (sy_i F1 83).toInt = ((sy_i F 83).toInt + 1) → hd_W Ls xs d jm_M62 Q (2, sy_dL F1 [some (.inl (.ref 31)), some (.inr (.inr 82)), none, some (.inr (.inl 83))], sy_dS F1 [], sy_dh F1 X1 X2 (iv_H 1), 0, 0))
    (k2 : (sy_i F 83).toInt < 23 → (lg_cmp ((sy_al F 42).getD ((sy_i F 83).toInt).toNat 0) (sy_l F 82)).toInt = 0 → ∀ F1 : Nat → sy_d, iv_in F1 iv_B0 → (∀ j, j < 82 → j ∉ ([] : List Nat) → F1 j = F j) → Q (some (.int (sy_i F 83))) (sy_dh F1 X1 X2 (iv_H 1))) :
    hd_W Ls xs d jm_M62 Q (2, sy_dL F [some (.inl (.ref 31)), some (.inr (.inr 82)), none, some (.inr (.inl 83))], sy_dS F [], sy_dh F X1 X2 (iv_H 1), 0, 0) := by
  by_cases g0 : 23 ≤ (sy_i F 83).toInt
  · exact k1wk_2_p0 hd F X1 X2 hB (by first | exact g0 | (simp only [nz_c]; exact g0)) (fun F1 g  => k0 g0 F1 (nz_in0 hB [] (fun j hj hn => g j hj (by simp only [List.mem_cons, List.not_mem_nil, or_false, not_or] at hn; exact trivial)) (List.forall_mem_nil _)) (fun j hj hn => g j hj (by simp only [List.mem_cons, List.not_mem_nil, or_false, not_or] at hn; exact trivial)) )
  replace g0 : (sy_i F 83).toInt < 23 := by omega
  by_cases g1 : (lg_cmp ((sy_al F 42).getD ((sy_i F 83).toInt).toNat 0) (sy_l F 82)).toInt ≠ 0
  · have q85 : lg_cmp ((sy_al F 42).getD (sy_i F 83).toNatClampNeg 0) (sy_l F 82) = lg_cmp ((sy_al F 42).getD ((sy_i F 83).toInt).toNat 0) (sy_l F 82) := by simp only [nz_c]
    have n85 : (lg_cmp ((sy_al F 42).getD (sy_i F 83).toNatClampNeg 0) (sy_l F 82)).toInt = (lg_cmp ((sy_al F 42).getD ((sy_i F 83).toInt).toNat 0) (sy_l F 82)).toInt := congrArg Int32.toInt q85
    have n86 : ((sy_i F 83) + ((1 : Int32))).toInt = ((sy_i F 83).toInt + 1) := nz_add (rfl : (sy_i F 83).toInt = (sy_i F 83).toInt) (by decide : ((1 : Int32)).toInt = 1) (by omega) (by omega)
    exact k1wk_2_p1 hd F X1 X2 hB (by first | exact g0 | (simp only [nz_c]; exact g0)) (by first | exact ⟨by omega, by omega⟩ | (simp only [nz_c]; exact ⟨by omega, by omega⟩)) (by first | exact g1 | (simp only [nz_c]; exact g1) | (rw [n85]; exact g1)) (fun F1 g e82 e83 => k1 g0 g1 F1 (nz_in0 hB [] (fun j hj hn => g j hj (by simp only [List.mem_cons, List.not_mem_nil, or_false, not_or] at hn; exact trivial)) (List.forall_mem_nil _)) (fun j hj hn => g j hj (by simp only [List.mem_cons, List.not_mem_nil, or_false, not_or] at hn; exact trivial)) ((zz_l e82).trans (rfl : sy_l F 82 = sy_l F 82)) ((congrArg Int32.toInt (zz_i e83)).trans n86))
  replace g1 : (lg_cmp ((sy_al F 42).getD ((sy_i F 83).toInt).toNat 0) (sy_l F 82)).toInt = 0 := by omega
  have q85 : lg_cmp ((sy_al F 42).getD (sy_i F 83).toNatClampNeg 0) (sy_l F 82) = lg_cmp ((sy_al F 42).getD ((sy_i F 83).toInt).toNat 0) (sy_l F 82) := by simp only [nz_c]
  have n85 : (lg_cmp ((sy_al F 42).getD (sy_i F 83).toNatClampNeg 0) (sy_l F 82)).toInt = (lg_cmp ((sy_al F 42).getD ((sy_i F 83).toInt).toNat 0) (sy_l F 82)).toInt := congrArg Int32.toInt q85
  exact k1wk_2_p2 hd F X1 X2 hB (by first | exact g0 | (simp only [nz_c]; exact g0)) (by first | exact ⟨by omega, by omega⟩ | (simp only [nz_c]; exact ⟨by omega, by omega⟩)) (by first | exact g1 | (simp only [nz_c]; exact g1) | (rw [n85]; exact g1)) (fun F1 g  => by rw [(rfl : sy_i F 83 = sy_i F 83)]; exact k2 g0 g1 F1 (nz_in0 hB [] (fun j hj hn => g j hj (by simp only [List.mem_cons, List.not_mem_nil, or_false, not_or] at hn; exact trivial)) (List.forall_mem_nil _)) (fun j hj hn => g j hj (by simp only [List.mem_cons, List.not_mem_nil, or_false, not_or] at hn; exact trivial)) )
theorem k1nu_0_p0 {Ls : Nat} {xs : Nat → Int32} {d : Nat} {Q : Option Value → jm_h → Prop} (hd : 3 ≤ d) (F : Nat → sy_d) (X1 X2 : List jm_c) (hB : iv_in F iv_B0)
    (k : ∀ F1 : Nat → sy_d, (∀ j, j < 82 → True → F1 j = F j) → F1 82 = .inl (.int (sy_i F 82)) → F1 83 = .inl (.int (sy_i F 83)) → F1 84 = .inl (.int (sy_i F 84)) → F1 85 = .inl (.int (sy_i F 83)) → F1 86 = .inl (.long ((0 : Int64))) → hd_W Ls xs d jm_M61 Q (6, sy_dL F1 [some (.inl (.ref 31)), some (.inr (.inl 82)), some (.inl (.ref 9)), some (.inr (.inl 83)), some (.inr (.inl 84)), some (.inr (.inl 85)), some (.inr (.inr 86)), none], sy_dS F1 [], sy_dh F1 X1 X2 (iv_H 1), 0, 0)) :
    hd_W Ls xs d jm_M61 Q (0, sy_dL F [some (.inl (.ref 31)), some (.inr (.inl 82)), some (.inl (.ref 9)), some (.inr (.inl 83)), some (.inr (.inl 84)), none, none, none], sy_dS F [], sy_dh F X1 X2 (iv_H 1), 0, 0) := by
  refine hd_run (s := 1) (nv := 85) (pc := 6) (L := [some (.inl (.ref 31)), some (.inr (.inl 82)), some (.inl (.ref 9)), some (.inr (.inl 83)), some (.inr (.inl 84)), some (.inr (.inl 85)), some (.inr (.inr 86)), none]) (S := []) (uh := hd_ov (iv_id 0 iv_B0) []) (ul := [.inl (.inr (.inl 82)), .inl (.inr (.inl 83)), .inl (.inr (.inl 84)), .inl (.inr (.inl 83)), .inl (.inl (.long 0))]) (f := true) (sp := [6]) (d0 := 2) (O := []) (T := []) (P := []) jm_ok61 (by decide +kernel) (by decide +kernel) hd F X1 X2 (fun F' hF hs => ?_)
  have b82 := hd_b (F := F) (F' := F') (k := 82) (hF 82 (by decide))
  have b83 := hd_b (F := F) (F' := F') (k := 83) (hF 83 (by decide))
  have b84 := hd_b (F := F) (F' := F') (k := 84) (hF 84 (by decide))
  have hB' : iv_in F' iv_B0 := iv_in_eq hB (fun j hj => hF j (Nat.lt_of_lt_of_le hj (by decide +kernel)))
  refine ⟨fun _ h => absurd h List.not_mem_nil, ?_⟩
  refine k _ ?_ ?_ ?_ ?_ ?_ ?_
  · exact fun j hj _ => (hd_keep hB' (Nat.lt_of_lt_of_le hj (by decide +kernel)) (by simp)).trans (hF j (Nat.lt_of_lt_of_le hj (by decide)))
  · exact hd_gi (x := .inr (.inl 82)) (by decide +kernel) b82
  · exact hd_gi (x := .inr (.inl 83)) (by decide +kernel) b83
  · exact hd_gi (x := .inr (.inl 84)) (by decide +kernel) b84
  · exact hd_gi (x := .inr (.inl 83)) (by decide +kernel) b83
  · exact hd_gl (x := .inl (.long 0)) (by decide +kernel) rfl
theorem k1nu_0 {Ls : Nat} {xs : Nat → Int32} {d : Nat} {Q : Option Value → jm_h → Prop} (hd : 3 ≤ d) (F : Nat → sy_d) (X1 X2 : List jm_c) (hB : iv_in F iv_B0)
    (k0 : ∀ F1 : Nat → sy_d, iv_in F1 iv_B0 → (∀ j, j < 82 → j ∉ ([] : List Nat) → F1 j = F j) → sy_ai F1 39 = sy_ai F 39 → sy_ai F1 40 = sy_ai F 40 → sy_al F1 41 = sy_al F 41 → (sy_i F1 82).toInt = (sy_i F 82).toInt → (sy_i F1 83).toInt = (sy_i F 83).toInt → (sy_i F1 84).toInt = (sy_i F 84).toInt → (sy_i F1 85).toInt = (sy_i F 83).toInt → sy_l F1 86 = (0 : Int64) → hd_W Ls xs d jm_M61 Q (6, sy_dL F1 [some (.inl (.ref 31)), some (.inr (.inl 82)), some (.inl (.ref 9)), some (.inr (.inl 83)), some (.inr (.inl 84)), some (.inr (.inl 85)), some (.inr (.inr 86)), none], sy_dS F1 [], sy_dh F1 X1 X2 (iv_H 1), 0, 0)) :
    hd_W Ls xs d jm_M61 Q (0, sy_dL F [some (.inl (.ref 31)), some (.inr (.inl 82)), some (.inl (.ref 9)), some (.inr (.inl 83)), some (.inr (.inl 84)), none, none, none], sy_dS F [], sy_dh F X1 X2 (iv_H 1), 0, 0) := by
  exact k1nu_0_p0 hd F X1 X2 hB  (fun F1 g e82 e83 e84 e85 e86 => k0 F1 (nz_in0 hB [] (fun j hj hn => g j hj (by simp only [List.mem_cons, List.not_mem_nil, or_false, not_or] at hn; exact trivial)) (List.forall_mem_nil _)) (fun j hj hn => g j hj (by simp only [List.mem_cons, List.not_mem_nil, or_false, not_or] at hn; exact trivial)) (nz_fa (g 39 (by decide) (by decide))) (nz_fa (g 40 (by decide) (by decide))) (nz_fl (g 41 (by decide) (by decide))) ((congrArg Int32.toInt (zz_i e82)).trans (rfl : (sy_i F 82).toInt = (sy_i F 82).toInt)) ((congrArg Int32.toInt (zz_i e83)).trans (rfl : (sy_i F 83).toInt = (sy_i F 83).toInt)) ((congrArg Int32.toInt (zz_i e84)).trans (rfl : (sy_i F 84).toInt = (sy_i F 84).toInt)) ((congrArg Int32.toInt (zz_i e85)).trans (rfl : (sy_i F 83).toInt = (sy_i F 83).toInt)) ((zz_l e86).trans (rfl : (0 : Int64) = (0 : Int64))))
theorem k1nu_6_p0 {Ls : Nat} {xs : Nat → Int32} {d : Nat} {Q : Option Value → jm_h → Prop} (hd : 3 ≤ d) (F : Nat → sy_d) (X1 X2 : List jm_c) (hB : iv_in F iv_B0)
    (h0 : (sy_i F 84).toInt ≤ (sy_i F 85).toInt)
    (h1 : 0 ≤ (sy_i F 82).toInt ∧ (sy_i F 82).toInt < 401)
    (h2 : ((sy_i F 85) - (sy_i F 83)).toInt ≤ 4)
    (h3 : 0 ≤ (sy_i F 82).toInt ∧ (sy_i F 82).toInt < 401)
    (k : ∀ F1 : Nat → sy_d, (∀ j, j < 82 → j ≠ 39 ∧ j ≠ 41 → F1 j = F j) → F1 39 = .inr (.inl (jm_upd (sy_ai F 39) (sy_i F 82).toNatClampNeg ((24 : Int32)))) → F1 41 = .inr (.inr (jm_updL (sy_al F 41) (sy_i F 82).toNatClampNeg (sy_l F 86))) → Q (some (.int (sy_i F 85))) (sy_dh F1 X1 X2 (iv_H 1))) :
    hd_W Ls xs d jm_M61 Q (6, sy_dL F [some (.inl (.ref 31)), some (.inr (.inl 82)), some (.inl (.ref 9)), some (.inr (.inl 83)), some (.inr (.inl 84)), some (.inr (.inl 85)), some (.inr (.inr 86)), none], sy_dS F [], sy_dh F X1 X2 (iv_H 1), 0, 0) := by
  refine hd_ret (s := 1) (nv := 87) (v := some (.inr (.inl 85))) (uh := hd_ov (iv_id 0 iv_B0) [(39, .inr (.inr (.inl 89))), (41, .inr (.inr (.inr 87)))]) (f := true) (sp := [6]) (d0 := 2) (O := [true, true]) (T := [(40, [.inr (.inl 82), .inr (.inr 86)], [.inr (.inr 41)]), (1, [.inr (.inl 85), .inr (.inl 83)], []), (40, [.inr (.inl 82), .inl (.int 24)], [.inr (.inl 39)])]) (P := [(4, .inr (.inl 84), .inr (.inl 85)), (6, .inr (.inl 82), .inl (.ref 401)), (4, .inr (.inl 88), .inl (.int 4)), (6, .inr (.inl 82), .inl (.ref 401))]) jm_ok61 (by decide +kernel) (by decide +kernel) hd F X1 X2 (fun F' hF hs => ?_)
  have b84 := hd_b (F := F) (F' := F') (k := 84) (hF 84 (by decide))
  have b85 := hd_b (F := F) (F' := F') (k := 85) (hF 85 (by decide))
  have b82 := hd_b (F := F) (F' := F') (k := 82) (hF 82 (by decide))
  have b83 := hd_b (F := F) (F' := F') (k := 83) (hF 83 (by decide))
  have t88 : sy_dv F' (.inr (.inl 88)) = .int ((sy_i F 85) - (sy_i F 83)) := hd_o (hs 1 _ rfl) b85 b83 rfl
  have a39 := hd_ba (F := F) (F' := F') (k := 39) (hF 39 (by decide))
  have t89 : sy_da F' (.inr (.inl 89)) = .inl (jm_upd (sy_ai F 39) (sy_i F 82).toNatClampNeg ((24 : Int32))) := hd_up (hs 2 _ rfl) b82 rfl a39
  have b86 := hd_bl (F := F) (F' := F') (k := 86) (hF 86 (by decide))
  have a41 := hd_bA (F := F) (F' := F') (k := 41) (hF 41 (by decide))
  have t87 : sy_da F' (.inr (.inr 87)) = .inr (jm_updL (sy_al F 41) (sy_i F 82).toNatClampNeg (sy_l F 86)) := hd_uA (hs 0 _ rfl) b82 b86 a41
  have hB' : iv_in F' iv_B0 := iv_in_eq hB (fun j hj => hF j (Nat.lt_of_lt_of_le hj (by decide +kernel)))
  have hk := k (sy_cm F' (hd_ov (iv_id 0 iv_B0) [(39, .inr (.inr (.inl 89))), (41, .inr (.inr (.inr 87)))] ++ [])) (fun j hj hn => (hd_keep hB' (Nat.lt_of_lt_of_le hj (by decide +kernel)) (by simp; omega)).trans (hF j (Nat.lt_of_lt_of_le hj (by decide)))) (hd_ga (a := .inr (.inl 89)) (by decide +kernel) t89) (hd_gA (a := .inr (.inr 87)) (by decide +kernel) t87)
  refine ⟨List.forall_mem_cons.mpr ⟨hd_p4 b84 b85 h0, List.forall_mem_cons.mpr ⟨hd_pb b82 (by first | exact h1 | exact h1), List.forall_mem_cons.mpr ⟨hd_p4 t88 rfl (by have hc : ((4) : Int32).toInt = 4 := (by decide); omega), List.forall_mem_cons.mpr ⟨hd_pb b82 (by first | exact h3 | exact h3), fun _ h => absurd h List.not_mem_nil⟩⟩⟩⟩, ?_⟩
  show Q (some (sy_dv F' (.inr (.inl 85)))) _
  rw [b85]
  exact hk
theorem k1nu_6_p1 {Ls : Nat} {xs : Nat → Int32} {d : Nat} {Q : Option Value → jm_h → Prop} (hd : 3 ≤ d) (F : Nat → sy_d) (X1 X2 : List jm_c) (hB : iv_in F iv_B0)
    (h0 : (sy_i F 84).toInt ≤ (sy_i F 85).toInt)
    (h1 : 0 ≤ (sy_i F 82).toInt ∧ (sy_i F 82).toInt < 401)
    (h2 : 4 < ((sy_i F 85) - (sy_i F 83)).toInt)
    (h3 : 0 ≤ (sy_i F 82).toInt ∧ (sy_i F 82).toInt < 401)
    (k : ∀ F1 : Nat → sy_d, (∀ j, j < 82 → j ≠ 39 ∧ j ≠ 41 → F1 j = F j) → F1 39 = .inr (.inl (jm_upd (sy_ai F 39) (sy_i F 82).toNatClampNeg ((25 : Int32)))) → F1 41 = .inr (.inr (jm_updL (sy_al F 41) (sy_i F 82).toNatClampNeg (sy_l F 86))) → Q (some (.int (sy_i F 85))) (sy_dh F1 X1 X2 (iv_H 1))) :
    hd_W Ls xs d jm_M61 Q (6, sy_dL F [some (.inl (.ref 31)), some (.inr (.inl 82)), some (.inl (.ref 9)), some (.inr (.inl 83)), some (.inr (.inl 84)), some (.inr (.inl 85)), some (.inr (.inr 86)), none], sy_dS F [], sy_dh F X1 X2 (iv_H 1), 0, 0) := by
  refine hd_ret (s := 1) (nv := 87) (v := some (.inr (.inl 85))) (uh := hd_ov (iv_id 0 iv_B0) [(39, .inr (.inr (.inl 89))), (41, .inr (.inr (.inr 87)))]) (f := true) (sp := [6]) (d0 := 2) (O := [true, false]) (T := [(40, [.inr (.inl 82), .inr (.inr 86)], [.inr (.inr 41)]), (1, [.inr (.inl 85), .inr (.inl 83)], []), (40, [.inr (.inl 82), .inl (.int 25)], [.inr (.inl 39)])]) (P := [(4, .inr (.inl 84), .inr (.inl 85)), (6, .inr (.inl 82), .inl (.ref 401)), (5, .inr (.inl 88), .inl (.int 4)), (6, .inr (.inl 82), .inl (.ref 401))]) jm_ok61 (by decide +kernel) (by decide +kernel) hd F X1 X2 (fun F' hF hs => ?_)
  have b84 := hd_b (F := F) (F' := F') (k := 84) (hF 84 (by decide))
  have b85 := hd_b (F := F) (F' := F') (k := 85) (hF 85 (by decide))
  have b82 := hd_b (F := F) (F' := F') (k := 82) (hF 82 (by decide))
  have b83 := hd_b (F := F) (F' := F') (k := 83) (hF 83 (by decide))
  have t88 : sy_dv F' (.inr (.inl 88)) = .int ((sy_i F 85) - (sy_i F 83)) := hd_o (hs 1 _ rfl) b85 b83 rfl
  have a39 := hd_ba (F := F) (F' := F') (k := 39) (hF 39 (by decide))
  have t89 : sy_da F' (.inr (.inl 89)) = .inl (jm_upd (sy_ai F 39) (sy_i F 82).toNatClampNeg ((25 : Int32))) := hd_up (hs 2 _ rfl) b82 rfl a39
  have b86 := hd_bl (F := F) (F' := F') (k := 86) (hF 86 (by decide))
  have a41 := hd_bA (F := F) (F' := F') (k := 41) (hF 41 (by decide))
  have t87 : sy_da F' (.inr (.inr 87)) = .inr (jm_updL (sy_al F 41) (sy_i F 82).toNatClampNeg (sy_l F 86)) := hd_uA (hs 0 _ rfl) b82 b86 a41
  have hB' : iv_in F' iv_B0 := iv_in_eq hB (fun j hj => hF j (Nat.lt_of_lt_of_le hj (by decide +kernel)))
  have hk := k (sy_cm F' (hd_ov (iv_id 0 iv_B0) [(39, .inr (.inr (.inl 89))), (41, .inr (.inr (.inr 87)))] ++ [])) (fun j hj hn => (hd_keep hB' (Nat.lt_of_lt_of_le hj (by decide +kernel)) (by simp; omega)).trans (hF j (Nat.lt_of_lt_of_le hj (by decide)))) (hd_ga (a := .inr (.inl 89)) (by decide +kernel) t89) (hd_gA (a := .inr (.inr 87)) (by decide +kernel) t87)
  refine ⟨List.forall_mem_cons.mpr ⟨hd_p4 b84 b85 h0, List.forall_mem_cons.mpr ⟨hd_pb b82 (by first | exact h1 | exact h1), List.forall_mem_cons.mpr ⟨hd_p5 t88 rfl (by have hc : ((4) : Int32).toInt = 4 := (by decide); omega), List.forall_mem_cons.mpr ⟨hd_pb b82 (by first | exact h3 | exact h3), fun _ h => absurd h List.not_mem_nil⟩⟩⟩⟩, ?_⟩
  show Q (some (sy_dv F' (.inr (.inl 85)))) _
  rw [b85]
  exact hk
theorem k1nu_6_p2 {Ls : Nat} {xs : Nat → Int32} {d : Nat} {Q : Option Value → jm_h → Prop} (hd : 3 ≤ d) (F : Nat → sy_d) (X1 X2 : List jm_c) (hB : iv_in F iv_B0)
    (h0 : (sy_i F 85).toInt < (sy_i F 84).toInt)
    (h1 : 0 ≤ (sy_i F 85).toInt ∧ (sy_i F 85).toInt < 2000)
    (h2 : ((sy_ai F 2).getD (sy_i F 85).toNatClampNeg 0).toInt < 48)
    (h3 : 0 ≤ (sy_i F 82).toInt ∧ (sy_i F 82).toInt < 401)
    (h4 : ((sy_i F 85) - (sy_i F 83)).toInt ≤ 4)
    (h5 : 0 ≤ (sy_i F 82).toInt ∧ (sy_i F 82).toInt < 401)
    (k : ∀ F1 : Nat → sy_d, (∀ j, j < 82 → j ≠ 39 ∧ j ≠ 41 → F1 j = F j) → F1 39 = .inr (.inl (jm_upd (sy_ai F 39) (sy_i F 82).toNatClampNeg ((24 : Int32)))) → F1 41 = .inr (.inr (jm_updL (sy_al F 41) (sy_i F 82).toNatClampNeg (sy_l F 86))) → Q (some (.int (sy_i F 85))) (sy_dh F1 X1 X2 (iv_H 1))) :
    hd_W Ls xs d jm_M61 Q (6, sy_dL F [some (.inl (.ref 31)), some (.inr (.inl 82)), some (.inl (.ref 9)), some (.inr (.inl 83)), some (.inr (.inl 84)), some (.inr (.inl 85)), some (.inr (.inr 86)), none], sy_dS F [], sy_dh F X1 X2 (iv_H 1), 0, 0) := by
  refine hd_ret (s := 1) (nv := 87) (v := some (.inr (.inl 85))) (uh := hd_ov (iv_id 0 iv_B0) [(39, .inr (.inr (.inl 90))), (41, .inr (.inr (.inr 88)))]) (f := true) (sp := [6]) (d0 := 2) (O := [false, true, true]) (T := [(30, [.inr (.inl 85)], [.inr (.inl 2)]), (40, [.inr (.inl 82), .inr (.inr 86)], [.inr (.inr 41)]), (1, [.inr (.inl 85), .inr (.inl 83)], []), (40, [.inr (.inl 82), .inl (.int 24)], [.inr (.inl 39)])]) (P := [(5, .inr (.inl 84), .inr (.inl 85)), (6, .inr (.inl 85), .inl (.ref 2000)), (2, .inr (.inl 87), .inl (.int 48)), (6, .inr (.inl 82), .inl (.ref 401)), (4, .inr (.inl 89), .inl (.int 4)), (6, .inr (.inl 82), .inl (.ref 401))]) jm_ok61 (by decide +kernel) (by decide +kernel) hd F X1 X2 (fun F' hF hs => ?_)
  have b84 := hd_b (F := F) (F' := F') (k := 84) (hF 84 (by decide))
  have b85 := hd_b (F := F) (F' := F') (k := 85) (hF 85 (by decide))
  have a2 := hd_ba (F := F) (F' := F') (k := 2) (hF 2 (by decide))
  have t87 : sy_dv F' (.inr (.inl 87)) = .int ((sy_ai F 2).getD (sy_i F 85).toNatClampNeg 0) := hd_rd (hs 0 _ rfl) b85 a2
  have b82 := hd_b (F := F) (F' := F') (k := 82) (hF 82 (by decide))
  have b83 := hd_b (F := F) (F' := F') (k := 83) (hF 83 (by decide))
  have t89 : sy_dv F' (.inr (.inl 89)) = .int ((sy_i F 85) - (sy_i F 83)) := hd_o (hs 2 _ rfl) b85 b83 rfl
  have a39 := hd_ba (F := F) (F' := F') (k := 39) (hF 39 (by decide))
  have t90 : sy_da F' (.inr (.inl 90)) = .inl (jm_upd (sy_ai F 39) (sy_i F 82).toNatClampNeg ((24 : Int32))) := hd_up (hs 3 _ rfl) b82 rfl a39
  have b86 := hd_bl (F := F) (F' := F') (k := 86) (hF 86 (by decide))
  have a41 := hd_bA (F := F) (F' := F') (k := 41) (hF 41 (by decide))
  have t88 : sy_da F' (.inr (.inr 88)) = .inr (jm_updL (sy_al F 41) (sy_i F 82).toNatClampNeg (sy_l F 86)) := hd_uA (hs 1 _ rfl) b82 b86 a41
  have hB' : iv_in F' iv_B0 := iv_in_eq hB (fun j hj => hF j (Nat.lt_of_lt_of_le hj (by decide +kernel)))
  have hk := k (sy_cm F' (hd_ov (iv_id 0 iv_B0) [(39, .inr (.inr (.inl 90))), (41, .inr (.inr (.inr 88)))] ++ [])) (fun j hj hn => (hd_keep hB' (Nat.lt_of_lt_of_le hj (by decide +kernel)) (by simp; omega)).trans (hF j (Nat.lt_of_lt_of_le hj (by decide)))) (hd_ga (a := .inr (.inl 90)) (by decide +kernel) t90) (hd_gA (a := .inr (.inr 88)) (by decide +kernel) t88)
  refine ⟨List.forall_mem_cons.mpr ⟨hd_p5 b84 b85 h0, List.forall_mem_cons.mpr ⟨hd_pb b85 (by first | exact h1 | exact h1), List.forall_mem_cons.mpr ⟨hd_p2 t87 rfl (by have hc : ((48) : Int32).toInt = 48 := (by decide); omega), List.forall_mem_cons.mpr ⟨hd_pb b82 (by first | exact h3 | exact h3), List.forall_mem_cons.mpr ⟨hd_p4 t89 rfl (by have hc : ((4) : Int32).toInt = 4 := (by decide); omega), List.forall_mem_cons.mpr ⟨hd_pb b82 (by first | exact h5 | exact h5), fun _ h => absurd h List.not_mem_nil⟩⟩⟩⟩⟩⟩, ?_⟩
  show Q (some (sy_dv F' (.inr (.inl 85)))) _
  rw [b85]
  exact hk
theorem k1nu_6_p3 {Ls : Nat} {xs : Nat → Int32} {d : Nat} {Q : Option Value → jm_h → Prop} (hd : 3 ≤ d) (F : Nat → sy_d) (X1 X2 : List jm_c) (hB : iv_in F iv_B0)
    (h0 : (sy_i F 85).toInt < (sy_i F 84).toInt)
    (h1 : 0 ≤ (sy_i F 85).toInt ∧ (sy_i F 85).toInt < 2000)
    (h2 : ((sy_ai F 2).getD (sy_i F 85).toNatClampNeg 0).toInt < 48)
    (h3 : 0 ≤ (sy_i F 82).toInt ∧ (sy_i F 82).toInt < 401)
    (h4 : 4 < ((sy_i F 85) - (sy_i F 83)).toInt)
    (h5 : 0 ≤ (sy_i F 82).toInt ∧ (sy_i F 82).toInt < 401)
    (k : ∀ F1 : Nat → sy_d, (∀ j, j < 82 → j ≠ 39 ∧ j ≠ 41 → F1 j = F j) → F1 39 = .inr (.inl (jm_upd (sy_ai F 39) (sy_i F 82).toNatClampNeg ((25 : Int32)))) → F1 41 = .inr (.inr (jm_updL (sy_al F 41) (sy_i F 82).toNatClampNeg (sy_l F 86))) → Q (some (.int (sy_i F 85))) (sy_dh F1 X1 X2 (iv_H 1))) :
    hd_W Ls xs d jm_M61 Q (6, sy_dL F [some (.inl (.ref 31)), some (.inr (.inl 82)), some (.inl (.ref 9)), some (.inr (.inl 83)), some (.inr (.inl 84)), some (.inr (.inl 85)), some (.inr (.inr 86)), none], sy_dS F [], sy_dh F X1 X2 (iv_H 1), 0, 0) := by
  refine hd_ret (s := 1) (nv := 87) (v := some (.inr (.inl 85))) (uh := hd_ov (iv_id 0 iv_B0) [(39, .inr (.inr (.inl 90))), (41, .inr (.inr (.inr 88)))]) (f := true) (sp := [6]) (d0 := 2) (O := [false, true, false]) (T := [(30, [.inr (.inl 85)], [.inr (.inl 2)]), (40, [.inr (.inl 82), .inr (.inr 86)], [.inr (.inr 41)]), (1, [.inr (.inl 85), .inr (.inl 83)], []), (40, [.inr (.inl 82), .inl (.int 25)], [.inr (.inl 39)])]) (P := [(5, .inr (.inl 84), .inr (.inl 85)), (6, .inr (.inl 85), .inl (.ref 2000)), (2, .inr (.inl 87), .inl (.int 48)), (6, .inr (.inl 82), .inl (.ref 401)), (5, .inr (.inl 89), .inl (.int 4)), (6, .inr (.inl 82), .inl (.ref 401))]) jm_ok61 (by decide +kernel) (by decide +kernel) hd F X1 X2 (fun F' hF hs => ?_)
  have b84 := hd_b (F := F) (F' := F') (k := 84) (hF 84 (by decide))
  have b85 := hd_b (F := F) (F' := F') (k := 85) (hF 85 (by decide))
  have a2 := hd_ba (F := F) (F' := F') (k := 2) (hF 2 (by decide))
  have t87 : sy_dv F' (.inr (.inl 87)) = .int ((sy_ai F 2).getD (sy_i F 85).toNatClampNeg 0) := hd_rd (hs 0 _ rfl) b85 a2
  have b82 := hd_b (F := F) (F' := F') (k := 82) (hF 82 (by decide))
  have b83 := hd_b (F := F) (F' := F') (k := 83) (hF 83 (by decide))
  have t89 : sy_dv F' (.inr (.inl 89)) = .int ((sy_i F 85) - (sy_i F 83)) := hd_o (hs 2 _ rfl) b85 b83 rfl
  have a39 := hd_ba (F := F) (F' := F') (k := 39) (hF 39 (by decide))
  have t90 : sy_da F' (.inr (.inl 90)) = .inl (jm_upd (sy_ai F 39) (sy_i F 82).toNatClampNeg ((25 : Int32))) := hd_up (hs 3 _ rfl) b82 rfl a39
  have b86 := hd_bl (F := F) (F' := F') (k := 86) (hF 86 (by decide))
  have a41 := hd_bA (F := F) (F' := F') (k := 41) (hF 41 (by decide))
  have t88 : sy_da F' (.inr (.inr 88)) = .inr (jm_updL (sy_al F 41) (sy_i F 82).toNatClampNeg (sy_l F 86)) := hd_uA (hs 1 _ rfl) b82 b86 a41
  have hB' : iv_in F' iv_B0 := iv_in_eq hB (fun j hj => hF j (Nat.lt_of_lt_of_le hj (by decide +kernel)))
  have hk := k (sy_cm F' (hd_ov (iv_id 0 iv_B0) [(39, .inr (.inr (.inl 90))), (41, .inr (.inr (.inr 88)))] ++ [])) (fun j hj hn => (hd_keep hB' (Nat.lt_of_lt_of_le hj (by decide +kernel)) (by simp; omega)).trans (hF j (Nat.lt_of_lt_of_le hj (by decide)))) (hd_ga (a := .inr (.inl 90)) (by decide +kernel) t90) (hd_gA (a := .inr (.inr 88)) (by decide +kernel) t88)
  refine ⟨List.forall_mem_cons.mpr ⟨hd_p5 b84 b85 h0, List.forall_mem_cons.mpr ⟨hd_pb b85 (by first | exact h1 | exact h1), List.forall_mem_cons.mpr ⟨hd_p2 t87 rfl (by have hc : ((48) : Int32).toInt = 48 := (by decide); omega), List.forall_mem_cons.mpr ⟨hd_pb b82 (by first | exact h3 | exact h3), List.forall_mem_cons.mpr ⟨hd_p5 t89 rfl (by have hc : ((4) : Int32).toInt = 4 := (by decide); omega), List.forall_mem_cons.mpr ⟨hd_pb b82 (by first | exact h5 | exact h5), fun _ h => absurd h List.not_mem_nil⟩⟩⟩⟩⟩⟩, ?_⟩
  show Q (some (sy_dv F' (.inr (.inl 85)))) _
  rw [b85]
  exact hk
theorem k1nu_6_p4 {Ls : Nat} {xs : Nat → Int32} {d : Nat} {Q : Option Value → jm_h → Prop} (hd : 3 ≤ d) (F : Nat → sy_d) (X1 X2 : List jm_c) (hB : iv_in F iv_B0)
    (h0 : (sy_i F 85).toInt < (sy_i F 84).toInt)
    (h1 : 0 ≤ (sy_i F 85).toInt ∧ (sy_i F 85).toInt < 2000)
    (h2 : 48 ≤ ((sy_ai F 2).getD (sy_i F 85).toNatClampNeg 0).toInt)
    (h3 : 57 < ((sy_ai F 2).getD (sy_i F 85).toNatClampNeg 0).toInt)
    (h4 : 0 ≤ (sy_i F 82).toInt ∧ (sy_i F 82).toInt < 401)
    (h5 : ((sy_i F 85) - (sy_i F 83)).toInt ≤ 4)
    (h6 : 0 ≤ (sy_i F 82).toInt ∧ (sy_i F 82).toInt < 401)
    (k : ∀ F1 : Nat → sy_d, (∀ j, j < 82 → j ≠ 39 ∧ j ≠ 41 → F1 j = F j) → F1 39 = .inr (.inl (jm_upd (sy_ai F 39) (sy_i F 82).toNatClampNeg ((24 : Int32)))) → F1 41 = .inr (.inr (jm_updL (sy_al F 41) (sy_i F 82).toNatClampNeg (sy_l F 86))) → Q (some (.int (sy_i F 85))) (sy_dh F1 X1 X2 (iv_H 1))) :
    hd_W Ls xs d jm_M61 Q (6, sy_dL F [some (.inl (.ref 31)), some (.inr (.inl 82)), some (.inl (.ref 9)), some (.inr (.inl 83)), some (.inr (.inl 84)), some (.inr (.inl 85)), some (.inr (.inr 86)), none], sy_dS F [], sy_dh F X1 X2 (iv_H 1), 0, 0) := by
  refine hd_ret (s := 1) (nv := 87) (v := some (.inr (.inl 85))) (uh := hd_ov (iv_id 0 iv_B0) [(39, .inr (.inr (.inl 90))), (41, .inr (.inr (.inr 88)))]) (f := true) (sp := [6]) (d0 := 2) (O := [false, false, true, true]) (T := [(30, [.inr (.inl 85)], [.inr (.inl 2)]), (40, [.inr (.inl 82), .inr (.inr 86)], [.inr (.inr 41)]), (1, [.inr (.inl 85), .inr (.inl 83)], []), (40, [.inr (.inl 82), .inl (.int 24)], [.inr (.inl 39)])]) (P := [(5, .inr (.inl 84), .inr (.inl 85)), (6, .inr (.inl 85), .inl (.ref 2000)), (3, .inr (.inl 87), .inl (.int 48)), (2, .inl (.int 57), .inr (.inl 87)), (6, .inr (.inl 82), .inl (.ref 401)), (4, .inr (.inl 89), .inl (.int 4)), (6, .inr (.inl 82), .inl (.ref 401))]) jm_ok61 (by decide +kernel) (by decide +kernel) hd F X1 X2 (fun F' hF hs => ?_)
  have b84 := hd_b (F := F) (F' := F') (k := 84) (hF 84 (by decide))
  have b85 := hd_b (F := F) (F' := F') (k := 85) (hF 85 (by decide))
  have a2 := hd_ba (F := F) (F' := F') (k := 2) (hF 2 (by decide))
  have t87 : sy_dv F' (.inr (.inl 87)) = .int ((sy_ai F 2).getD (sy_i F 85).toNatClampNeg 0) := hd_rd (hs 0 _ rfl) b85 a2
  have b82 := hd_b (F := F) (F' := F') (k := 82) (hF 82 (by decide))
  have b83 := hd_b (F := F) (F' := F') (k := 83) (hF 83 (by decide))
  have t89 : sy_dv F' (.inr (.inl 89)) = .int ((sy_i F 85) - (sy_i F 83)) := hd_o (hs 2 _ rfl) b85 b83 rfl
  have a39 := hd_ba (F := F) (F' := F') (k := 39) (hF 39 (by decide))
  have t90 : sy_da F' (.inr (.inl 90)) = .inl (jm_upd (sy_ai F 39) (sy_i F 82).toNatClampNeg ((24 : Int32))) := hd_up (hs 3 _ rfl) b82 rfl a39
  have b86 := hd_bl (F := F) (F' := F') (k := 86) (hF 86 (by decide))
  have a41 := hd_bA (F := F) (F' := F') (k := 41) (hF 41 (by decide))
  have t88 : sy_da F' (.inr (.inr 88)) = .inr (jm_updL (sy_al F 41) (sy_i F 82).toNatClampNeg (sy_l F 86)) := hd_uA (hs 1 _ rfl) b82 b86 a41
  have hB' : iv_in F' iv_B0 := iv_in_eq hB (fun j hj => hF j (Nat.lt_of_lt_of_le hj (by decide +kernel)))
  have hk := k (sy_cm F' (hd_ov (iv_id 0 iv_B0) [(39, .inr (.inr (.inl 90))), (41, .inr (.inr (.inr 88)))] ++ [])) (fun j hj hn => (hd_keep hB' (Nat.lt_of_lt_of_le hj (by decide +kernel)) (by simp; omega)).trans (hF j (Nat.lt_of_lt_of_le hj (by decide)))) (hd_ga (a := .inr (.inl 90)) (by decide +kernel) t90) (hd_gA (a := .inr (.inr 88)) (by decide +kernel) t88)
  refine ⟨List.forall_mem_cons.mpr ⟨hd_p5 b84 b85 h0, List.forall_mem_cons.mpr ⟨hd_pb b85 (by first | exact h1 | exact h1), List.forall_mem_cons.mpr ⟨hd_p3 t87 rfl (by have hc : ((48) : Int32).toInt = 48 := (by decide); omega), List.forall_mem_cons.mpr ⟨hd_p2 rfl t87 (by have hc : ((57) : Int32).toInt = 57 := (by decide); omega), List.forall_mem_cons.mpr ⟨hd_pb b82 (by first | exact h4 | exact h4), List.forall_mem_cons.mpr ⟨hd_p4 t89 rfl (by have hc : ((4) : Int32).toInt = 4 := (by decide); omega), List.forall_mem_cons.mpr ⟨hd_pb b82 (by first | exact h6 | exact h6), fun _ h => absurd h List.not_mem_nil⟩⟩⟩⟩⟩⟩⟩, ?_⟩
  show Q (some (sy_dv F' (.inr (.inl 85)))) _
  rw [b85]
  exact hk
theorem k1nu_6_p5 {Ls : Nat} {xs : Nat → Int32} {d : Nat} {Q : Option Value → jm_h → Prop} (hd : 3 ≤ d) (F : Nat → sy_d) (X1 X2 : List jm_c) (hB : iv_in F iv_B0)
    (h0 : (sy_i F 85).toInt < (sy_i F 84).toInt)
    (h1 : 0 ≤ (sy_i F 85).toInt ∧ (sy_i F 85).toInt < 2000)
    (h2 : 48 ≤ ((sy_ai F 2).getD (sy_i F 85).toNatClampNeg 0).toInt)
    (h3 : 57 < ((sy_ai F 2).getD (sy_i F 85).toNatClampNeg 0).toInt)
    (h4 : 0 ≤ (sy_i F 82).toInt ∧ (sy_i F 82).toInt < 401)
    (h5 : 4 < ((sy_i F 85) - (sy_i F 83)).toInt)
    (h6 : 0 ≤ (sy_i F 82).toInt ∧ (sy_i F 82).toInt < 401)
    (k : ∀ F1 : Nat → sy_d, (∀ j, j < 82 → j ≠ 39 ∧ j ≠ 41 → F1 j = F j) → F1 39 = .inr (.inl (jm_upd (sy_ai F 39) (sy_i F 82).toNatClampNeg ((25 : Int32)))) → F1 41 = .inr (.inr (jm_updL (sy_al F 41) (sy_i F 82).toNatClampNeg (sy_l F 86))) → Q (some (.int (sy_i F 85))) (sy_dh F1 X1 X2 (iv_H 1))) :
    hd_W Ls xs d jm_M61 Q (6, sy_dL F [some (.inl (.ref 31)), some (.inr (.inl 82)), some (.inl (.ref 9)), some (.inr (.inl 83)), some (.inr (.inl 84)), some (.inr (.inl 85)), some (.inr (.inr 86)), none], sy_dS F [], sy_dh F X1 X2 (iv_H 1), 0, 0) := by
  refine hd_ret (s := 1) (nv := 87) (v := some (.inr (.inl 85))) (uh := hd_ov (iv_id 0 iv_B0) [(39, .inr (.inr (.inl 90))), (41, .inr (.inr (.inr 88)))]) (f := true) (sp := [6]) (d0 := 2) (O := [false, false, true, false]) (T := [(30, [.inr (.inl 85)], [.inr (.inl 2)]), (40, [.inr (.inl 82), .inr (.inr 86)], [.inr (.inr 41)]), (1, [.inr (.inl 85), .inr (.inl 83)], []), (40, [.inr (.inl 82), .inl (.int 25)], [.inr (.inl 39)])]) (P := [(5, .inr (.inl 84), .inr (.inl 85)), (6, .inr (.inl 85), .inl (.ref 2000)), (3, .inr (.inl 87), .inl (.int 48)), (2, .inl (.int 57), .inr (.inl 87)), (6, .inr (.inl 82), .inl (.ref 401)), (5, .inr (.inl 89), .inl (.int 4)), (6, .inr (.inl 82), .inl (.ref 401))]) jm_ok61 (by decide +kernel) (by decide +kernel) hd F X1 X2 (fun F' hF hs => ?_)
  have b84 := hd_b (F := F) (F' := F') (k := 84) (hF 84 (by decide))
  have b85 := hd_b (F := F) (F' := F') (k := 85) (hF 85 (by decide))
  have a2 := hd_ba (F := F) (F' := F') (k := 2) (hF 2 (by decide))
  have t87 : sy_dv F' (.inr (.inl 87)) = .int ((sy_ai F 2).getD (sy_i F 85).toNatClampNeg 0) := hd_rd (hs 0 _ rfl) b85 a2
  have b82 := hd_b (F := F) (F' := F') (k := 82) (hF 82 (by decide))
  have b83 := hd_b (F := F) (F' := F') (k := 83) (hF 83 (by decide))
  have t89 : sy_dv F' (.inr (.inl 89)) = .int ((sy_i F 85) - (sy_i F 83)) := hd_o (hs 2 _ rfl) b85 b83 rfl
  have a39 := hd_ba (F := F) (F' := F') (k := 39) (hF 39 (by decide))
  have t90 : sy_da F' (.inr (.inl 90)) = .inl (jm_upd (sy_ai F 39) (sy_i F 82).toNatClampNeg ((25 : Int32))) := hd_up (hs 3 _ rfl) b82 rfl a39
  have b86 := hd_bl (F := F) (F' := F') (k := 86) (hF 86 (by decide))
  have a41 := hd_bA (F := F) (F' := F') (k := 41) (hF 41 (by decide))
  have t88 : sy_da F' (.inr (.inr 88)) = .inr (jm_updL (sy_al F 41) (sy_i F 82).toNatClampNeg (sy_l F 86)) := hd_uA (hs 1 _ rfl) b82 b86 a41
  have hB' : iv_in F' iv_B0 := iv_in_eq hB (fun j hj => hF j (Nat.lt_of_lt_of_le hj (by decide +kernel)))
  have hk := k (sy_cm F' (hd_ov (iv_id 0 iv_B0) [(39, .inr (.inr (.inl 90))), (41, .inr (.inr (.inr 88)))] ++ [])) (fun j hj hn => (hd_keep hB' (Nat.lt_of_lt_of_le hj (by decide +kernel)) (by simp; omega)).trans (hF j (Nat.lt_of_lt_of_le hj (by decide)))) (hd_ga (a := .inr (.inl 90)) (by decide +kernel) t90) (hd_gA (a := .inr (.inr 88)) (by decide +kernel) t88)
  refine ⟨List.forall_mem_cons.mpr ⟨hd_p5 b84 b85 h0, List.forall_mem_cons.mpr ⟨hd_pb b85 (by first | exact h1 | exact h1), List.forall_mem_cons.mpr ⟨hd_p3 t87 rfl (by have hc : ((48) : Int32).toInt = 48 := (by decide); omega), List.forall_mem_cons.mpr ⟨hd_p2 rfl t87 (by have hc : ((57) : Int32).toInt = 57 := (by decide); omega), List.forall_mem_cons.mpr ⟨hd_pb b82 (by first | exact h4 | exact h4), List.forall_mem_cons.mpr ⟨hd_p5 t89 rfl (by have hc : ((4) : Int32).toInt = 4 := (by decide); omega), List.forall_mem_cons.mpr ⟨hd_pb b82 (by first | exact h6 | exact h6), fun _ h => absurd h List.not_mem_nil⟩⟩⟩⟩⟩⟩⟩, ?_⟩
  show Q (some (sy_dv F' (.inr (.inl 85)))) _
  rw [b85]
  exact hk
theorem k1nu_6_p6 {Ls : Nat} {xs : Nat → Int32} {d : Nat} {Q : Option Value → jm_h → Prop} (hd : 3 ≤ d) (F : Nat → sy_d) (X1 X2 : List jm_c) (hB : iv_in F iv_B0)
    (h0 : (sy_i F 85).toInt < (sy_i F 84).toInt)
    (h1 : 0 ≤ (sy_i F 85).toInt ∧ (sy_i F 85).toInt < 2000)
    (h2 : 48 ≤ ((sy_ai F 2).getD (sy_i F 85).toNatClampNeg 0).toInt)
    (h3 : ((sy_ai F 2).getD (sy_i F 85).toNatClampNeg 0).toInt ≤ 57)
    (h4 : 0 ≤ (sy_i F 85).toInt ∧ (sy_i F 85).toInt < 2000)
    (k : ∀ F1 : Nat → sy_d, (∀ j, j < 82 → True → F1 j = F j) → F1 82 = .inl (.int (sy_i F 82)) → F1 83 = .inl (.int (sy_i F 83)) → F1 84 = .inl (.int (sy_i F 84)) → F1 85 = .inl (.int ((sy_i F 85) + ((1 : Int32)))) → F1 86 = .inl (.long (((sy_l F 86) * ((10 : Int64))) + ((((sy_ai F 2).getD (sy_i F 85).toNatClampNeg 0) - ((48 : Int32))).toInt64))) → hd_W Ls xs d jm_M61 Q (6, sy_dL F1 [some (.inl (.ref 31)), some (.inr (.inl 82)), some (.inl (.ref 9)), some (.inr (.inl 83)), some (.inr (.inl 84)), some (.inr (.inl 85)), some (.inr (.inr 86)), none], sy_dS F1 [], sy_dh F1 X1 X2 (iv_H 1), 0, 0)) :
    hd_W Ls xs d jm_M61 Q (6, sy_dL F [some (.inl (.ref 31)), some (.inr (.inl 82)), some (.inl (.ref 9)), some (.inr (.inl 83)), some (.inr (.inl 84)), some (.inr (.inl 85)), some (.inr (.inr 86)), none], sy_dS F [], sy_dh F X1 X2 (iv_H 1), 0, 0) := by
  refine hd_run (s := 1) (nv := 87) (pc := 6) (L := [some (.inl (.ref 31)), some (.inr (.inl 82)), some (.inl (.ref 9)), some (.inr (.inl 83)), some (.inr (.inl 84)), some (.inr (.inl 85)), some (.inr (.inr 86)), none]) (S := []) (uh := hd_ov (iv_id 0 iv_B0) []) (ul := [.inl (.inr (.inl 82)), .inl (.inr (.inl 83)), .inl (.inr (.inl 84)), .inl (.inr (.inl 93)), .inl (.inr (.inr 92))]) (f := true) (sp := [6]) (d0 := 2) (O := [false, false, false]) (T := [(30, [.inr (.inl 85)], [.inr (.inl 2)]), (14, [.inr (.inr 86), .inl (.long 10)], []), (30, [.inr (.inl 85)], [.inr (.inl 2)]), (1, [.inr (.inl 89), .inl (.int 48)], []), (21, [.inr (.inl 90)], []), (12, [.inr (.inr 88), .inr (.inr 91)], []), (0, [.inr (.inl 85), .inl (.int 1)], [])]) (P := [(5, .inr (.inl 84), .inr (.inl 85)), (6, .inr (.inl 85), .inl (.ref 2000)), (3, .inr (.inl 87), .inl (.int 48)), (3, .inl (.int 57), .inr (.inl 87)), (6, .inr (.inl 85), .inl (.ref 2000))]) jm_ok61 (by decide +kernel) (by decide +kernel) hd F X1 X2 (fun F' hF hs => ?_)
  have b84 := hd_b (F := F) (F' := F') (k := 84) (hF 84 (by decide))
  have b85 := hd_b (F := F) (F' := F') (k := 85) (hF 85 (by decide))
  have a2 := hd_ba (F := F) (F' := F') (k := 2) (hF 2 (by decide))
  have t87 : sy_dv F' (.inr (.inl 87)) = .int ((sy_ai F 2).getD (sy_i F 85).toNatClampNeg 0) := hd_rd (hs 0 _ rfl) b85 a2
  have b82 := hd_b (F := F) (F' := F') (k := 82) (hF 82 (by decide))
  have b83 := hd_b (F := F) (F' := F') (k := 83) (hF 83 (by decide))
  have t93 : sy_dv F' (.inr (.inl 93)) = .int ((sy_i F 85) + ((1 : Int32))) := hd_o (hs 6 _ rfl) b85 rfl rfl
  have b86 := hd_bl (F := F) (F' := F') (k := 86) (hF 86 (by decide))
  have t88 : sy_dv F' (.inr (.inr 88)) = .long ((sy_l F 86) * ((10 : Int64))) := hd_oL (hs 1 _ rfl) b86 rfl rfl
  have t89 : sy_dv F' (.inr (.inl 89)) = .int ((sy_ai F 2).getD (sy_i F 85).toNatClampNeg 0) := hd_rd (hs 2 _ rfl) b85 a2
  have t90 : sy_dv F' (.inr (.inl 90)) = .int (((sy_ai F 2).getD (sy_i F 85).toNatClampNeg 0) - ((48 : Int32))) := hd_o (hs 3 _ rfl) t89 rfl rfl
  have t91 : sy_dv F' (.inr (.inr 91)) = .long ((((sy_ai F 2).getD (sy_i F 85).toNatClampNeg 0) - ((48 : Int32))).toInt64) := hd_uL (hs 4 _ rfl) t90 rfl
  have t92 : sy_dv F' (.inr (.inr 92)) = .long (((sy_l F 86) * ((10 : Int64))) + ((((sy_ai F 2).getD (sy_i F 85).toNatClampNeg 0) - ((48 : Int32))).toInt64)) := hd_oL (hs 5 _ rfl) t88 t91 rfl
  have hB' : iv_in F' iv_B0 := iv_in_eq hB (fun j hj => hF j (Nat.lt_of_lt_of_le hj (by decide +kernel)))
  refine ⟨List.forall_mem_cons.mpr ⟨hd_p5 b84 b85 h0, List.forall_mem_cons.mpr ⟨hd_pb b85 (by first | exact h1 | exact h1), List.forall_mem_cons.mpr ⟨hd_p3 t87 rfl (by have hc : ((48) : Int32).toInt = 48 := (by decide); omega), List.forall_mem_cons.mpr ⟨hd_p3 rfl t87 (by have hc : ((57) : Int32).toInt = 57 := (by decide); omega), List.forall_mem_cons.mpr ⟨hd_pb b85 (by first | exact h4 | exact h4), fun _ h => absurd h List.not_mem_nil⟩⟩⟩⟩⟩, ?_⟩
  refine k _ ?_ ?_ ?_ ?_ ?_ ?_
  · exact fun j hj _ => (hd_keep hB' (Nat.lt_of_lt_of_le hj (by decide +kernel)) (by simp)).trans (hF j (Nat.lt_of_lt_of_le hj (by decide)))
  · exact hd_gi (x := .inr (.inl 82)) (by decide +kernel) b82
  · exact hd_gi (x := .inr (.inl 83)) (by decide +kernel) b83
  · exact hd_gi (x := .inr (.inl 84)) (by decide +kernel) b84
  · exact hd_gi (x := .inr (.inl 93)) (by decide +kernel) t93
  · exact hd_gl (x := .inr (.inr 92)) (by decide +kernel) t92
theorem k1nu_6 {Ls : Nat} {xs : Nat → Int32} {d : Nat} {Q : Option Value → jm_h → Prop} (hd : 3 ≤ d) (F : Nat → sy_d) (X1 X2 : List jm_c) (hB : iv_in F iv_B0)
    (a82 : 0 ≤ (sy_i F 82).toInt ∧ (sy_i F 82).toInt ≤ 400)
    (a83 : 0 ≤ (sy_i F 83).toInt ∧ (sy_i F 83).toInt ≤ 2000)
    (a84 : 0 ≤ (sy_i F 84).toInt ∧ (sy_i F 84).toInt ≤ 2000)
    (a85 : 0 ≤ (sy_i F 85).toInt ∧ (sy_i F 85).toInt ≤ 2000)
    (k0 : (sy_i F 84).toInt ≤ (sy_i F 85).toInt → ((sy_i F 85).toInt - (sy_i F 83).toInt) ≤ 4 → ∀ F1 : Nat → sy_d, iv_in F1 iv_B0 → (∀ j, j < 82 → j ∉ ([39, 41] : List Nat) → F1 j = F j) → sy_ai F1 39 = jm_upd (sy_ai F 39) ((sy_i F 82).toInt).toNat ((24 : Int32)) → sy_ai F1 40 = sy_ai F 40 → sy_al F1 41 = jm_updL (sy_al F 41) ((sy_i F 82).toInt).toNat (sy_l F 86) → Q (some (.int (sy_i F 85))) (sy_dh F1 X1 X2 (iv_H 1)))
    (k1 : (sy_i F 84).toInt ≤ (sy_i F 85).toInt → 4 < ((sy_i F 85).toInt - (sy_i F 83).toInt) → ∀ F1 : Nat → sy_d, iv_in F1 iv_B0 → (∀ j, j < 82 → j ∉ ([39, 41] : List Nat) → F1 j = F j) → sy_ai F1 39 = jm_upd (sy_ai F 39) ((sy_i F 82).toInt).toNat ((25 : Int32)) → sy_ai F1 40 = sy_ai F 40 → sy_al F1 41 = jm_updL (sy_al F 41) ((sy_i F 82).toInt).toNat (sy_l F 86) → Q (some (.int (sy_i F 85))) (sy_dh F1 X1 X2 (iv_H 1)))
    (k2 : (sy_i F 85).toInt < (sy_i F 84).toInt → ((sy_ai F 2).getD ((sy_i F 85).toInt).toNat 0).toInt < 48 → ((sy_i F 85).toInt - (sy_i F 83).toInt) ≤ 4 → ∀ F1 : Nat → sy_d, iv_in F1 iv_B0 → (∀ j, j < 82 → j ∉ ([39, 41] : List Nat) → F1 j = F j) → sy_ai F1 39 = jm_upd (sy_ai F 39) ((sy_i F 82).toInt).toNat ((24 : Int32)) → sy_ai F1 40 = sy_ai F 40 → sy_al F1 41 = jm_updL (sy_al F 41) ((sy_i F 82).toInt).toNat (sy_l F 86) → Q (some (.int (sy_i F 85))) (sy_dh F1 X1 X2 (iv_H 1)))
    (k3 : (sy_i F 85).toInt < (sy_i F 84).toInt → ((sy_ai F 2).getD ((sy_i F 85).toInt).toNat 0).toInt < 48 → 4 < ((sy_i F 85).toInt - (sy_i F 83).toInt) → ∀ F1 : Nat → sy_d, iv_in F1 iv_B0 → (∀ j, j < 82 → j ∉ ([39, 41] : List Nat) → F1 j = F j) → sy_ai F1 39 = jm_upd (sy_ai F 39) ((sy_i F 82).toInt).toNat ((25 : Int32)) → sy_ai F1 40 = sy_ai F 40 → sy_al F1 41 = jm_updL (sy_al F 41) ((sy_i F 82).toInt).toNat (sy_l F 86) → Q (some (.int (sy_i F 85))) (sy_dh F1 X1 X2 (iv_H 1)))
    (k4 : (sy_i F 85).toInt < (sy_i F 84).toInt → 48 ≤ ((sy_ai F 2).getD ((sy_i F 85).toInt).toNat 0).toInt → 57 < ((sy_ai F 2).getD ((sy_i F 85).toInt).toNat 0).toInt → ((sy_i F 85).toInt - (sy_i F 83).toInt) ≤ 4 → ∀ F1 : Nat → sy_d, iv_in F1 iv_B0 → (∀ j, j < 82 → j ∉ ([39, 41] : List Nat) → F1 j = F j) → sy_ai F1 39 = jm_upd (sy_ai F 39) ((sy_i F 82).toInt).toNat ((24 : Int32)) → sy_ai F1 40 = sy_ai F 40 → sy_al F1 41 = jm_updL (sy_al F 41) ((sy_i F 82).toInt).toNat (sy_l F 86) → Q (some (.int (sy_i F 85))) (sy_dh F1 X1 X2 (iv_H 1)))
    (k5 : (sy_i F 85).toInt < (sy_i F 84).toInt → 48 ≤ ((sy_ai F 2).getD ((sy_i F 85).toInt).toNat 0).toInt → 57 < ((sy_ai F 2).getD ((sy_i F 85).toInt).toNat 0).toInt → 4 < ((sy_i F 85).toInt - (sy_i F 83).toInt) → ∀ F1 : Nat → sy_d, iv_in F1 iv_B0 → (∀ j, j < 82 → j ∉ ([39, 41] : List Nat) → F1 j = F j) → sy_ai F1 39 = jm_upd (sy_ai F 39) ((sy_i F 82).toInt).toNat ((25 : Int32)) → sy_ai F1 40 = sy_ai F 40 → sy_al F1 41 = jm_updL (sy_al F 41) ((sy_i F 82).toInt).toNat (sy_l F 86) → Q (some (.int (sy_i F 85))) (sy_dh F1 X1 X2 (iv_H 1)))
    (k6 : (sy_i F 85).toInt < (sy_i F 84).toInt → 48 ≤ ((sy_ai F 2).getD ((sy_i F 85).toInt).toNat 0).toInt → ((sy_ai F 2).getD ((sy_i F 85).toInt).toNat 0).toInt ≤ 57 → ∀ F1 : Nat → sy_d, iv_in F1 iv_B0 → (∀ j, j < 82 → j ∉ ([] : List Nat) → F1 j = F j) → sy_ai F1 39 = sy_ai F 39 → sy_ai F1 40 = sy_ai F 40 → sy_al F1 41 = sy_al F 41 → (sy_i F1 82).toInt = (sy_i F 82).toInt → (sy_i F1 83).toInt = (sy_i F 83).toInt → (sy_i F1 84).toInt = (sy_i F 84).toInt → (sy_i F1 85).toInt = ((sy_i F 85).toInt + 1) → sy_l F1 86 = ((sy_l F 86) * ((10 : Int64))) + ((((sy_ai F 2).getD ((sy_i F 85).toInt).toNat 0) - ((48 : Int32))).toInt64) → hd_W Ls xs d jm_M61 Q (6, sy_dL F1 [some (.inl (.ref 31)), some (.inr (.inl 82)), some (.inl (.ref 9)), some (.inr (.inl 83)), some (.inr (.inl 84)), some (.inr (.inl 85)), some (.inr (.inr 86)), none], sy_dS F1 [], sy_dh F1 X1 X2 (iv_H 1), 0, 0)) :
    hd_W Ls xs d jm_M61 Q (6, sy_dL F [some (.inl (.ref 31)), some (.inr (.inl 82)), some (.inl (.ref 9)), some (.inr (.inl 83)), some (.inr (.inl 84)), some (.inr (.inl 85)), some (.inr (.inr 86)), none], sy_dS F [], sy_dh F X1 X2 (iv_H 1), 0, 0) := by
  by_cases g0 : (sy_i F 84).toInt ≤ (sy_i F 85).toInt
  · by_cases g1 : ((sy_i F 85).toInt - (sy_i F 83).toInt) ≤ 4
    · have n88 : ((sy_i F 85) - (sy_i F 83)).toInt = ((sy_i F 85).toInt - (sy_i F 83).toInt) := nz_sub (rfl : (sy_i F 85).toInt = (sy_i F 85).toInt) (rfl : (sy_i F 83).toInt = (sy_i F 83).toInt) (by omega) (by omega)
      have w89 : jm_upd (sy_ai F 39) (sy_i F 82).toNatClampNeg ((24 : Int32)) = jm_upd (sy_ai F 39) ((sy_i F 82).toInt).toNat ((24 : Int32)) := by simp only [nz_c, (by decide : ((24 : Int32)).toInt = 24)]
      have w87 : jm_updL (sy_al F 41) (sy_i F 82).toNatClampNeg (sy_l F 86) = jm_updL (sy_al F 41) ((sy_i F 82).toInt).toNat (sy_l F 86) := by simp only [nz_c]
      exact k1nu_6_p0 hd F X1 X2 hB (by first | exact g0 | (simp only [nz_c]; exact g0)) (by first | exact ⟨by omega, by omega⟩ | (simp only [nz_c]; exact ⟨by omega, by omega⟩)) (by first | exact g1 | (simp only [nz_c, n88]; exact g1) | (rw [n88]; exact g1)) (by first | exact ⟨by omega, by omega⟩ | (simp only [nz_c]; exact ⟨by omega, by omega⟩)) (fun F1 g e39 e41 => by rw [(rfl : sy_i F 85 = sy_i F 85)]; exact k0 g0 g1 F1 (nz_in0 hB [39, 41] (fun j hj hn => g j hj (by simp only [List.mem_cons, List.not_mem_nil, or_false, not_or] at hn; omega)) (List.forall_mem_cons.mpr ⟨fun t ht => (Option.some.inj ht) ▸ (nz_hz2 e39), List.forall_mem_cons.mpr ⟨fun t ht => (Option.some.inj ht) ▸ (nz_hz3 e41), List.forall_mem_nil _⟩⟩)) (fun j hj hn => g j hj (by simp only [List.mem_cons, List.not_mem_nil, or_false, not_or] at hn; omega)) ((zz_ai e39).trans w89) (nz_fa (g 40 (by decide) (by decide))) ((zz_al e41).trans w87))
    replace g1 : 4 < ((sy_i F 85).toInt - (sy_i F 83).toInt) := by omega
    have n88 : ((sy_i F 85) - (sy_i F 83)).toInt = ((sy_i F 85).toInt - (sy_i F 83).toInt) := nz_sub (rfl : (sy_i F 85).toInt = (sy_i F 85).toInt) (rfl : (sy_i F 83).toInt = (sy_i F 83).toInt) (by omega) (by omega)
    have w89 : jm_upd (sy_ai F 39) (sy_i F 82).toNatClampNeg ((25 : Int32)) = jm_upd (sy_ai F 39) ((sy_i F 82).toInt).toNat ((25 : Int32)) := by simp only [nz_c, (by decide : ((25 : Int32)).toInt = 25)]
    have w87 : jm_updL (sy_al F 41) (sy_i F 82).toNatClampNeg (sy_l F 86) = jm_updL (sy_al F 41) ((sy_i F 82).toInt).toNat (sy_l F 86) := by simp only [nz_c]
    exact k1nu_6_p1 hd F X1 X2 hB (by first | exact g0 | (simp only [nz_c]; exact g0)) (by first | exact ⟨by omega, by omega⟩ | (simp only [nz_c]; exact ⟨by omega, by omega⟩)) (by first | exact g1 | (simp only [nz_c, n88]; exact g1) | (rw [n88]; exact g1)) (by first | exact ⟨by omega, by omega⟩ | (simp only [nz_c]; exact ⟨by omega, by omega⟩)) (fun F1 g e39 e41 => by rw [(rfl : sy_i F 85 = sy_i F 85)]; exact k1 g0 g1 F1 (nz_in0 hB [39, 41] (fun j hj hn => g j hj (by simp only [List.mem_cons, List.not_mem_nil, or_false, not_or] at hn; omega)) (List.forall_mem_cons.mpr ⟨fun t ht => (Option.some.inj ht) ▸ (nz_hz2 e39), List.forall_mem_cons.mpr ⟨fun t ht => (Option.some.inj ht) ▸ (nz_hz3 e41), List.forall_mem_nil _⟩⟩)) (fun j hj hn => g j hj (by simp only [List.mem_cons, List.not_mem_nil, or_false, not_or] at hn; omega)) ((zz_ai e39).trans w89) (nz_fa (g 40 (by decide) (by decide))) ((zz_al e41).trans w87))
  replace g0 : (sy_i F 85).toInt < (sy_i F 84).toInt := by omega
  by_cases g1 : ((sy_ai F 2).getD ((sy_i F 85).toInt).toNat 0).toInt < 48
  · by_cases g2 : ((sy_i F 85).toInt - (sy_i F 83).toInt) ≤ 4
    · have q87 : (sy_ai F 2).getD (sy_i F 85).toNatClampNeg 0 = (sy_ai F 2).getD ((sy_i F 85).toInt).toNat 0 := by simp only [nz_c]
      have n87 : ((sy_ai F 2).getD (sy_i F 85).toNatClampNeg 0).toInt = ((sy_ai F 2).getD ((sy_i F 85).toInt).toNat 0).toInt := congrArg Int32.toInt q87
      have r87 := nz_ba hB (k := 2) (lo := (-128)) (hi := 127) rfl ((sy_i F 85).toInt).toNat
      have n89 : ((sy_i F 85) - (sy_i F 83)).toInt = ((sy_i F 85).toInt - (sy_i F 83).toInt) := nz_sub (rfl : (sy_i F 85).toInt = (sy_i F 85).toInt) (rfl : (sy_i F 83).toInt = (sy_i F 83).toInt) (by omega) (by omega)
      have w90 : jm_upd (sy_ai F 39) (sy_i F 82).toNatClampNeg ((24 : Int32)) = jm_upd (sy_ai F 39) ((sy_i F 82).toInt).toNat ((24 : Int32)) := by simp only [nz_c, (by decide : ((24 : Int32)).toInt = 24)]
      have w88 : jm_updL (sy_al F 41) (sy_i F 82).toNatClampNeg (sy_l F 86) = jm_updL (sy_al F 41) ((sy_i F 82).toInt).toNat (sy_l F 86) := by simp only [nz_c]
      exact k1nu_6_p2 hd F X1 X2 hB (by first | exact g0 | (simp only [nz_c]; exact g0)) (by first | exact ⟨by omega, by omega⟩ | (simp only [nz_c]; exact ⟨by omega, by omega⟩)) (by first | exact g1 | (simp only [nz_c]; exact g1) | (rw [n87]; exact g1)) (by first | exact ⟨by omega, by omega⟩ | (simp only [nz_c]; exact ⟨by omega, by omega⟩)) (by first | exact g2 | (simp only [nz_c, n89]; exact g2) | (rw [n89]; exact g2)) (by first | exact ⟨by omega, by omega⟩ | (simp only [nz_c]; exact ⟨by omega, by omega⟩)) (fun F1 g e39 e41 => by rw [(rfl : sy_i F 85 = sy_i F 85)]; exact k2 g0 g1 g2 F1 (nz_in0 hB [39, 41] (fun j hj hn => g j hj (by simp only [List.mem_cons, List.not_mem_nil, or_false, not_or] at hn; omega)) (List.forall_mem_cons.mpr ⟨fun t ht => (Option.some.inj ht) ▸ (nz_hz2 e39), List.forall_mem_cons.mpr ⟨fun t ht => (Option.some.inj ht) ▸ (nz_hz3 e41), List.forall_mem_nil _⟩⟩)) (fun j hj hn => g j hj (by simp only [List.mem_cons, List.not_mem_nil, or_false, not_or] at hn; omega)) ((zz_ai e39).trans w90) (nz_fa (g 40 (by decide) (by decide))) ((zz_al e41).trans w88))
    replace g2 : 4 < ((sy_i F 85).toInt - (sy_i F 83).toInt) := by omega
    have q87 : (sy_ai F 2).getD (sy_i F 85).toNatClampNeg 0 = (sy_ai F 2).getD ((sy_i F 85).toInt).toNat 0 := by simp only [nz_c]
    have n87 : ((sy_ai F 2).getD (sy_i F 85).toNatClampNeg 0).toInt = ((sy_ai F 2).getD ((sy_i F 85).toInt).toNat 0).toInt := congrArg Int32.toInt q87
    have r87 := nz_ba hB (k := 2) (lo := (-128)) (hi := 127) rfl ((sy_i F 85).toInt).toNat
    have n89 : ((sy_i F 85) - (sy_i F 83)).toInt = ((sy_i F 85).toInt - (sy_i F 83).toInt) := nz_sub (rfl : (sy_i F 85).toInt = (sy_i F 85).toInt) (rfl : (sy_i F 83).toInt = (sy_i F 83).toInt) (by omega) (by omega)
    have w90 : jm_upd (sy_ai F 39) (sy_i F 82).toNatClampNeg ((25 : Int32)) = jm_upd (sy_ai F 39) ((sy_i F 82).toInt).toNat ((25 : Int32)) := by simp only [nz_c, (by decide : ((25 : Int32)).toInt = 25)]
    have w88 : jm_updL (sy_al F 41) (sy_i F 82).toNatClampNeg (sy_l F 86) = jm_updL (sy_al F 41) ((sy_i F 82).toInt).toNat (sy_l F 86) := by simp only [nz_c]
    exact k1nu_6_p3 hd F X1 X2 hB (by first | exact g0 | (simp only [nz_c]; exact g0)) (by first | exact ⟨by omega, by omega⟩ | (simp only [nz_c]; exact ⟨by omega, by omega⟩)) (by first | exact g1 | (simp only [nz_c]; exact g1) | (rw [n87]; exact g1)) (by first | exact ⟨by omega, by omega⟩ | (simp only [nz_c]; exact ⟨by omega, by omega⟩)) (by first | exact g2 | (simp only [nz_c, n89]; exact g2) | (rw [n89]; exact g2)) (by first | exact ⟨by omega, by omega⟩ | (simp only [nz_c]; exact ⟨by omega, by omega⟩)) (fun F1 g e39 e41 => by rw [(rfl : sy_i F 85 = sy_i F 85)]; exact k3 g0 g1 g2 F1 (nz_in0 hB [39, 41] (fun j hj hn => g j hj (by simp only [List.mem_cons, List.not_mem_nil, or_false, not_or] at hn; omega)) (List.forall_mem_cons.mpr ⟨fun t ht => (Option.some.inj ht) ▸ (nz_hz2 e39), List.forall_mem_cons.mpr ⟨fun t ht => (Option.some.inj ht) ▸ (nz_hz3 e41), List.forall_mem_nil _⟩⟩)) (fun j hj hn => g j hj (by simp only [List.mem_cons, List.not_mem_nil, or_false, not_or] at hn; omega)) ((zz_ai e39).trans w90) (nz_fa (g 40 (by decide) (by decide))) ((zz_al e41).trans w88))
  replace g1 : 48 ≤ ((sy_ai F 2).getD ((sy_i F 85).toInt).toNat 0).toInt := by omega
  by_cases g2 : 57 < ((sy_ai F 2).getD ((sy_i F 85).toInt).toNat 0).toInt
  · by_cases g3 : ((sy_i F 85).toInt - (sy_i F 83).toInt) ≤ 4
    · have q87 : (sy_ai F 2).getD (sy_i F 85).toNatClampNeg 0 = (sy_ai F 2).getD ((sy_i F 85).toInt).toNat 0 := by simp only [nz_c]
      have n87 : ((sy_ai F 2).getD (sy_i F 85).toNatClampNeg 0).toInt = ((sy_ai F 2).getD ((sy_i F 85).toInt).toNat 0).toInt := congrArg Int32.toInt q87
      have r87 := nz_ba hB (k := 2) (lo := (-128)) (hi := 127) rfl ((sy_i F 85).toInt).toNat
      have n89 : ((sy_i F 85) - (sy_i F 83)).toInt = ((sy_i F 85).toInt - (sy_i F 83).toInt) := nz_sub (rfl : (sy_i F 85).toInt = (sy_i F 85).toInt) (rfl : (sy_i F 83).toInt = (sy_i F 83).toInt) (by omega) (by omega)
      have w90 : jm_upd (sy_ai F 39) (sy_i F 82).toNatClampNeg ((24 : Int32)) = jm_upd (sy_ai F 39) ((sy_i F 82).toInt).toNat ((24 : Int32)) := by simp only [nz_c, (by decide : ((24 : Int32)).toInt = 24)]
      have w88 : jm_updL (sy_al F 41) (sy_i F 82).toNatClampNeg (sy_l F 86) = jm_updL (sy_al F 41) ((sy_i F 82).toInt).toNat (sy_l F 86) := by simp only [nz_c]
      exact k1nu_6_p4 hd F X1 X2 hB (by first | exact g0 | (simp only [nz_c]; exact g0)) (by first | exact ⟨by omega, by omega⟩ | (simp only [nz_c]; exact ⟨by omega, by omega⟩)) (by first | exact g1 | (simp only [nz_c]; exact g1) | (rw [n87]; exact g1)) (by first | exact g2 | (simp only [nz_c]; exact g2) | (rw [n87]; exact g2)) (by first | exact ⟨by omega, by omega⟩ | (simp only [nz_c]; exact ⟨by omega, by omega⟩)) (by first | exact g3 | (simp only [nz_c, n89]; exact g3) | (rw [n89]; exact g3)) (by first | exact ⟨by omega, by omega⟩ | (simp only [nz_c]; exact ⟨by omega, by omega⟩)) (fun F1 g e39 e41 => by rw [(rfl : sy_i F 85 = sy_i F 85)]; exact k4 g0 g1 g2 g3 F1 (nz_in0 hB [39, 41] (fun j hj hn => g j hj (by simp only [List.mem_cons, List.not_mem_nil, or_false, not_or] at hn; omega)) (List.forall_mem_cons.mpr ⟨fun t ht => (Option.some.inj ht) ▸ (nz_hz2 e39), List.forall_mem_cons.mpr ⟨fun t ht => (Option.some.inj ht) ▸ (nz_hz3 e41), List.forall_mem_nil _⟩⟩)) (fun j hj hn => g j hj (by simp only [List.mem_cons, List.not_mem_nil, or_false, not_or] at hn; omega)) ((zz_ai e39).trans w90) (nz_fa (g 40 (by decide) (by decide))) ((zz_al e41).trans w88))
    replace g3 : 4 < ((sy_i F 85).toInt - (sy_i F 83).toInt) := by omega
    have q87 : (sy_ai F 2).getD (sy_i F 85).toNatClampNeg 0 = (sy_ai F 2).getD ((sy_i F 85).toInt).toNat 0 := by simp only [nz_c]
    have n87 : ((sy_ai F 2).getD (sy_i F 85).toNatClampNeg 0).toInt = ((sy_ai F 2).getD ((sy_i F 85).toInt).toNat 0).toInt := congrArg Int32.toInt q87
    have r87 := nz_ba hB (k := 2) (lo := (-128)) (hi := 127) rfl ((sy_i F 85).toInt).toNat
    have n89 : ((sy_i F 85) - (sy_i F 83)).toInt = ((sy_i F 85).toInt - (sy_i F 83).toInt) := nz_sub (rfl : (sy_i F 85).toInt = (sy_i F 85).toInt) (rfl : (sy_i F 83).toInt = (sy_i F 83).toInt) (by omega) (by omega)
    have w90 : jm_upd (sy_ai F 39) (sy_i F 82).toNatClampNeg ((25 : Int32)) = jm_upd (sy_ai F 39) ((sy_i F 82).toInt).toNat ((25 : Int32)) := by simp only [nz_c, (by decide : ((25 : Int32)).toInt = 25)]
    have w88 : jm_updL (sy_al F 41) (sy_i F 82).toNatClampNeg (sy_l F 86) = jm_updL (sy_al F 41) ((sy_i F 82).toInt).toNat (sy_l F 86) := by simp only [nz_c]
    exact k1nu_6_p5 hd F X1 X2 hB (by first | exact g0 | (simp only [nz_c]; exact g0)) (by first | exact ⟨by omega, by omega⟩ | (simp only [nz_c]; exact ⟨by omega, by omega⟩)) (by first | exact g1 | (simp only [nz_c]; exact g1) | (rw [n87]; exact g1)) (by first | exact g2 | (simp only [nz_c]; exact g2) | (rw [n87]; exact g2)) (by first | exact ⟨by omega, by omega⟩ | (simp only [nz_c]; exact ⟨by omega, by omega⟩)) (by first | exact g3 | (simp only [nz_c, n89]; exact g3) | (rw [n89]; exact g3)) (by first | exact ⟨by omega, by omega⟩ | (simp only [nz_c]; exact ⟨by omega, by omega⟩)) (fun F1 g e39 e41 => by rw [(rfl : sy_i F 85 = sy_i F 85)]; exact k5 g0 g1 g2 g3 F1 (nz_in0 hB [39, 41] (fun j hj hn => g j hj (by simp only [List.mem_cons, List.not_mem_nil, or_false, not_or] at hn; omega)) (List.forall_mem_cons.mpr ⟨fun t ht => (Option.some.inj ht) ▸ (nz_hz2 e39), List.forall_mem_cons.mpr ⟨fun t ht => (Option.some.inj ht) ▸ (nz_hz3 e41), List.forall_mem_nil _⟩⟩)) (fun j hj hn => g j hj (by simp only [List.mem_cons, List.not_mem_nil, or_false, not_or] at hn; omega)) ((zz_ai e39).trans w90) (nz_fa (g 40 (by decide) (by decide))) ((zz_al e41).trans w88))
  replace g2 : ((sy_ai F 2).getD ((sy_i F 85).toInt).toNat 0).toInt ≤ 57 := by omega
  have q87 : (sy_ai F 2).getD (sy_i F 85).toNatClampNeg 0 = (sy_ai F 2).getD ((sy_i F 85).toInt).toNat 0 := by simp only [nz_c]
  have n87 : ((sy_ai F 2).getD (sy_i F 85).toNatClampNeg 0).toInt = ((sy_ai F 2).getD ((sy_i F 85).toInt).toNat 0).toInt := congrArg Int32.toInt q87
  have r87 := nz_ba hB (k := 2) (lo := (-128)) (hi := 127) rfl ((sy_i F 85).toInt).toNat
  have n93 : ((sy_i F 85) + ((1 : Int32))).toInt = ((sy_i F 85).toInt + 1) := nz_add (rfl : (sy_i F 85).toInt = (sy_i F 85).toInt) (by decide : ((1 : Int32)).toInt = 1) (by omega) (by omega)
  have q89 : (sy_ai F 2).getD (sy_i F 85).toNatClampNeg 0 = (sy_ai F 2).getD ((sy_i F 85).toInt).toNat 0 := by simp only [nz_c]
  have n89 : ((sy_ai F 2).getD (sy_i F 85).toNatClampNeg 0).toInt = ((sy_ai F 2).getD ((sy_i F 85).toInt).toNat 0).toInt := congrArg Int32.toInt q89
  have r89 := nz_ba hB (k := 2) (lo := (-128)) (hi := 127) rfl ((sy_i F 85).toInt).toNat
  have n90 : (((sy_ai F 2).getD (sy_i F 85).toNatClampNeg 0) - ((48 : Int32))).toInt = (((sy_ai F 2).getD ((sy_i F 85).toInt).toNat 0).toInt - 48) := nz_sub n89 (by decide : ((48 : Int32)).toInt = 48) (by omega) (by omega)
  have q92 : ((sy_l F 86) * ((10 : Int64))) + ((((sy_ai F 2).getD (sy_i F 85).toNatClampNeg 0) - ((48 : Int32))).toInt64) = ((sy_l F 86) * ((10 : Int64))) + ((((sy_ai F 2).getD ((sy_i F 85).toInt).toNat 0) - ((48 : Int32))).toInt64) := by simp only [nz_c, n90, (by decide : ((48 : Int32)).toInt = 48)]
  exact k1nu_6_p6 hd F X1 X2 hB (by first | exact g0 | (simp only [nz_c]; exact g0)) (by first | exact ⟨by omega, by omega⟩ | (simp only [nz_c]; exact ⟨by omega, by omega⟩)) (by first | exact g1 | (simp only [nz_c]; exact g1) | (rw [n87]; exact g1)) (by first | exact g2 | (simp only [nz_c]; exact g2) | (rw [n87]; exact g2)) (by first | exact ⟨by omega, by omega⟩ | (simp only [nz_c]; exact ⟨by omega, by omega⟩)) (fun F1 g e82 e83 e84 e85 e86 => k6 g0 g1 g2 F1 (nz_in0 hB [] (fun j hj hn => g j hj (by simp only [List.mem_cons, List.not_mem_nil, or_false, not_or] at hn; exact trivial)) (List.forall_mem_nil _)) (fun j hj hn => g j hj (by simp only [List.mem_cons, List.not_mem_nil, or_false, not_or] at hn; exact trivial)) (nz_fa (g 39 (by decide) (by decide))) (nz_fa (g 40 (by decide) (by decide))) (nz_fl (g 41 (by decide) (by decide))) ((congrArg Int32.toInt (zz_i e82)).trans (rfl : (sy_i F 82).toInt = (sy_i F 82).toInt)) ((congrArg Int32.toInt (zz_i e83)).trans (rfl : (sy_i F 83).toInt = (sy_i F 83).toInt)) ((congrArg Int32.toInt (zz_i e84)).trans (rfl : (sy_i F 84).toInt = (sy_i F 84).toInt)) ((congrArg Int32.toInt (zz_i e85)).trans n93) ((zz_l e86).trans q92))
theorem k1wo_0_p0 {Ls : Nat} {xs : Nat → Int32} {d : Nat} {Q : Option Value → jm_h → Prop} (hd : 4 ≤ d) (F : Nat → sy_d) (X1 X2 : List jm_c) (hB : iv_in F iv_B0)
    (k : ∀ F1 : Nat → sy_d, (∀ j, j < 82 → True → F1 j = F j) → F1 82 = .inl (.int (sy_i F 82)) → F1 83 = .inl (.int (sy_i F 83)) → F1 84 = .inl (.int (sy_i F 84)) → F1 85 = .inl (.int (sy_i F 83)) → F1 86 = .inl (.long ((0 : Int64))) → hd_W Ls xs d jm_M60 Q (6, sy_dL F1 [some (.inl (.ref 31)), some (.inr (.inl 82)), some (.inl (.ref 9)), some (.inr (.inl 83)), some (.inr (.inl 84)), some (.inr (.inl 85)), some (.inr (.inr 86)), none], sy_dS F1 [], sy_dh F1 X1 X2 (iv_H 1), 0, 0)) :
    hd_W Ls xs d jm_M60 Q (0, sy_dL F [some (.inl (.ref 31)), some (.inr (.inl 82)), some (.inl (.ref 9)), some (.inr (.inl 83)), some (.inr (.inl 84)), none, none, none], sy_dS F [], sy_dh F X1 X2 (iv_H 1), 0, 0) := by
  refine hd_run (s := 1) (nv := 85) (pc := 6) (L := [some (.inl (.ref 31)), some (.inr (.inl 82)), some (.inl (.ref 9)), some (.inr (.inl 83)), some (.inr (.inl 84)), some (.inr (.inl 85)), some (.inr (.inr 86)), none]) (S := []) (uh := hd_ov (iv_id 0 iv_B0) []) (ul := [.inl (.inr (.inl 82)), .inl (.inr (.inl 83)), .inl (.inr (.inl 84)), .inl (.inr (.inl 83)), .inl (.inl (.long 0))]) (f := true) (sp := [6]) (d0 := 3) (O := []) (T := []) (P := []) jm_ok60 (by decide +kernel) (by decide +kernel) hd F X1 X2 (fun F' hF hs => ?_)
  have b82 := hd_b (F := F) (F' := F') (k := 82) (hF 82 (by decide))
  have b83 := hd_b (F := F) (F' := F') (k := 83) (hF 83 (by decide))
  have b84 := hd_b (F := F) (F' := F') (k := 84) (hF 84 (by decide))
  have hB' : iv_in F' iv_B0 := iv_in_eq hB (fun j hj => hF j (Nat.lt_of_lt_of_le hj (by decide +kernel)))
  refine ⟨fun _ h => absurd h List.not_mem_nil, ?_⟩
  refine k _ ?_ ?_ ?_ ?_ ?_ ?_
  · exact fun j hj _ => (hd_keep hB' (Nat.lt_of_lt_of_le hj (by decide +kernel)) (by simp)).trans (hF j (Nat.lt_of_lt_of_le hj (by decide)))
  · exact hd_gi (x := .inr (.inl 82)) (by decide +kernel) b82
  · exact hd_gi (x := .inr (.inl 83)) (by decide +kernel) b83
  · exact hd_gi (x := .inr (.inl 84)) (by decide +kernel) b84
  · exact hd_gi (x := .inr (.inl 83)) (by decide +kernel) b83
  · exact hd_gl (x := .inl (.long 0)) (by decide +kernel) rfl
theorem k1wo_0 {Ls : Nat} {xs : Nat → Int32} {d : Nat} {Q : Option Value → jm_h → Prop} (hd : 4 ≤ d) (F : Nat → sy_d) (X1 X2 : List jm_c) (hB : iv_in F iv_B0)
    (k0 : ∀ F1 : Nat → sy_d, iv_in F1 iv_B0 → (∀ j, j < 82 → j ∉ ([] : List Nat) → F1 j = F j) → sy_ai F1 39 = sy_ai F 39 → sy_ai F1 40 = sy_ai F 40 → sy_al F1 41 = sy_al F 41 → (sy_i F1 82).toInt = (sy_i F 82).toInt → (sy_i F1 83).toInt = (sy_i F 83).toInt → (sy_i F1 84).toInt = (sy_i F 84).toInt → (sy_i F1 85).toInt = (sy_i F 83).toInt → sy_l F1 86 = (0 : Int64) → hd_W Ls xs d jm_M60 Q (6, sy_dL F1 [some (.inl (.ref 31)), some (.inr (.inl 82)), some (.inl (.ref 9)), some (.inr (.inl 83)), some (.inr (.inl 84)), some (.inr (.inl 85)), some (.inr (.inr 86)), none], sy_dS F1 [], sy_dh F1 X1 X2 (iv_H 1), 0, 0)) :
    hd_W Ls xs d jm_M60 Q (0, sy_dL F [some (.inl (.ref 31)), some (.inr (.inl 82)), some (.inl (.ref 9)), some (.inr (.inl 83)), some (.inr (.inl 84)), none, none, none], sy_dS F [], sy_dh F X1 X2 (iv_H 1), 0, 0) := by
  exact k1wo_0_p0 hd F X1 X2 hB  (fun F1 g e82 e83 e84 e85 e86 => k0 F1 (nz_in0 hB [] (fun j hj hn => g j hj (by simp only [List.mem_cons, List.not_mem_nil, or_false, not_or] at hn; exact trivial)) (List.forall_mem_nil _)) (fun j hj hn => g j hj (by simp only [List.mem_cons, List.not_mem_nil, or_false, not_or] at hn; exact trivial)) (nz_fa (g 39 (by decide) (by decide))) (nz_fa (g 40 (by decide) (by decide))) (nz_fl (g 41 (by decide) (by decide))) ((congrArg Int32.toInt (zz_i e82)).trans (rfl : (sy_i F 82).toInt = (sy_i F 82).toInt)) ((congrArg Int32.toInt (zz_i e83)).trans (rfl : (sy_i F 83).toInt = (sy_i F 83).toInt)) ((congrArg Int32.toInt (zz_i e84)).trans (rfl : (sy_i F 84).toInt = (sy_i F 84).toInt)) ((congrArg Int32.toInt (zz_i e85)).trans (rfl : (sy_i F 83).toInt = (sy_i F 83).toInt)) ((zz_l e86).trans (rfl : (0 : Int64) = (0 : Int64))))
theorem k1wo_6_p0 {Ls : Nat} {xs : Nat → Int32} {d : Nat} {Q : Option Value → jm_h → Prop} (hd : 4 ≤ d) (F : Nat → sy_d) (X1 X2 : List jm_c) (hB : iv_in F iv_B0)
    (h0 : (sy_i F 84).toInt ≤ (sy_i F 85).toInt)
    (h1 : 0 ≤ (sy_i F 82).toInt ∧ (sy_i F 82).toInt < 401)
    (h2 : ((sy_i F 85) - (sy_i F 83)).toInt ≤ 8)
    (k : ∀ F1 : Nat → sy_d, (∀ j, j < 82 → j ≠ 41 → F1 j = F j) → F1 41 = .inr (.inr (jm_updL (sy_al F 41) (sy_i F 82).toNatClampNeg (sy_l F 86))) → F1 82 = .inl (.int (sy_i F 85)) → F1 83 = .inl (.long (sy_l F 86)) → F1 84 = .inl (.int (sy_i F 82)) → hd_W Ls xs d jm_M60 Q (70, sy_dL F1 [none, none, none, none, none, some (.inr (.inl 82)), none, none], sy_dS F1 [.inr (.inr 83), .inl (.ref 31), .inr (.inl 84), .inl (.ref 32)], sy_dh F1 X1 X2 (iv_H 1), 0, 0)) :
    hd_W Ls xs d jm_M60 Q (6, sy_dL F [some (.inl (.ref 31)), some (.inr (.inl 82)), some (.inl (.ref 9)), some (.inr (.inl 83)), some (.inr (.inl 84)), some (.inr (.inl 85)), some (.inr (.inr 86)), none], sy_dS F [], sy_dh F X1 X2 (iv_H 1), 0, 0) := by
  refine hd_run (s := 1) (nv := 87) (pc := 70) (L := [none, none, none, none, none, some (.inr (.inl 82)), none, none]) (S := [.inr (.inr 83), .inl (.ref 31), .inr (.inl 84), .inl (.ref 32)]) (uh := hd_ov (iv_id 0 iv_B0) [(41, .inr (.inr (.inr 87)))]) (ul := [.inl (.inr (.inl 85)), .inl (.inr (.inr 86)), .inl (.inr (.inl 82))]) (f := true) (sp := [6, 70]) (d0 := 3) (O := [true, true]) (T := [(40, [.inr (.inl 82), .inr (.inr 86)], [.inr (.inr 41)]), (1, [.inr (.inl 85), .inr (.inl 83)], [])]) (P := [(4, .inr (.inl 84), .inr (.inl 85)), (6, .inr (.inl 82), .inl (.ref 401)), (4, .inr (.inl 88), .inl (.int 8))]) jm_ok60 (by decide +kernel) (by decide +kernel) hd F X1 X2 (fun F' hF hs => ?_)
  have b84 := hd_b (F := F) (F' := F') (k := 84) (hF 84 (by decide))
  have b85 := hd_b (F := F) (F' := F') (k := 85) (hF 85 (by decide))
  have b82 := hd_b (F := F) (F' := F') (k := 82) (hF 82 (by decide))
  have b83 := hd_b (F := F) (F' := F') (k := 83) (hF 83 (by decide))
  have t88 : sy_dv F' (.inr (.inl 88)) = .int ((sy_i F 85) - (sy_i F 83)) := hd_o (hs 1 _ rfl) b85 b83 rfl
  have b86 := hd_bl (F := F) (F' := F') (k := 86) (hF 86 (by decide))
  have a41 := hd_bA (F := F) (F' := F') (k := 41) (hF 41 (by decide))
  have t87 : sy_da F' (.inr (.inr 87)) = .inr (jm_updL (sy_al F 41) (sy_i F 82).toNatClampNeg (sy_l F 86)) := hd_uA (hs 0 _ rfl) b82 b86 a41
  have hB' : iv_in F' iv_B0 := iv_in_eq hB (fun j hj => hF j (Nat.lt_of_lt_of_le hj (by decide +kernel)))
  refine ⟨List.forall_mem_cons.mpr ⟨hd_p4 b84 b85 h0, List.forall_mem_cons.mpr ⟨hd_pb b82 (by first | exact h1 | exact h1), List.forall_mem_cons.mpr ⟨hd_p4 t88 rfl (by have hc : ((8) : Int32).toInt = 8 := (by decide); omega), fun _ h => absurd h List.not_mem_nil⟩⟩⟩, ?_⟩
  refine k _ ?_ ?_ ?_ ?_ ?_
  · exact fun j hj hn => (hd_keep hB' (Nat.lt_of_lt_of_le hj (by decide +kernel)) (by simp; omega)).trans (hF j (Nat.lt_of_lt_of_le hj (by decide)))
  · exact hd_gA (a := .inr (.inr 87)) (by decide +kernel) t87
  · exact hd_gi (x := .inr (.inl 85)) (by decide +kernel) b85
  · exact hd_gl (x := .inr (.inr 86)) (by decide +kernel) b86
  · exact hd_gi (x := .inr (.inl 82)) (by decide +kernel) b82
theorem k1wo_6_p1 {Ls : Nat} {xs : Nat → Int32} {d : Nat} {Q : Option Value → jm_h → Prop} (hd : 4 ≤ d) (F : Nat → sy_d) (X1 X2 : List jm_c) (hB : iv_in F iv_B0)
    (h0 : (sy_i F 84).toInt ≤ (sy_i F 85).toInt)
    (h1 : 0 ≤ (sy_i F 82).toInt ∧ (sy_i F 82).toInt < 401)
    (h2 : 8 < ((sy_i F 85) - (sy_i F 83)).toInt)
    (h3 : 0 ≤ (sy_i F 82).toInt ∧ (sy_i F 82).toInt < 401)
    (k : ∀ F1 : Nat → sy_d, (∀ j, j < 82 → j ≠ 39 ∧ j ≠ 41 → F1 j = F j) → F1 39 = .inr (.inl (jm_upd (sy_ai F 39) (sy_i F 82).toNatClampNeg ((25 : Int32)))) → F1 41 = .inr (.inr (jm_updL (sy_al F 41) (sy_i F 82).toNatClampNeg (sy_l F 86))) → Q (some (.int (sy_i F 85))) (sy_dh F1 X1 X2 (iv_H 1))) :
    hd_W Ls xs d jm_M60 Q (6, sy_dL F [some (.inl (.ref 31)), some (.inr (.inl 82)), some (.inl (.ref 9)), some (.inr (.inl 83)), some (.inr (.inl 84)), some (.inr (.inl 85)), some (.inr (.inr 86)), none], sy_dS F [], sy_dh F X1 X2 (iv_H 1), 0, 0) := by
  refine hd_ret (s := 1) (nv := 87) (v := some (.inr (.inl 85))) (uh := hd_ov (iv_id 0 iv_B0) [(39, .inr (.inr (.inl 89))), (41, .inr (.inr (.inr 87)))]) (f := true) (sp := [6, 70]) (d0 := 3) (O := [true, false]) (T := [(40, [.inr (.inl 82), .inr (.inr 86)], [.inr (.inr 41)]), (1, [.inr (.inl 85), .inr (.inl 83)], []), (40, [.inr (.inl 82), .inl (.int 25)], [.inr (.inl 39)])]) (P := [(4, .inr (.inl 84), .inr (.inl 85)), (6, .inr (.inl 82), .inl (.ref 401)), (5, .inr (.inl 88), .inl (.int 8)), (6, .inr (.inl 82), .inl (.ref 401))]) jm_ok60 (by decide +kernel) (by decide +kernel) hd F X1 X2 (fun F' hF hs => ?_)
  have b84 := hd_b (F := F) (F' := F') (k := 84) (hF 84 (by decide))
  have b85 := hd_b (F := F) (F' := F') (k := 85) (hF 85 (by decide))
  have b82 := hd_b (F := F) (F' := F') (k := 82) (hF 82 (by decide))
  have b83 := hd_b (F := F) (F' := F') (k := 83) (hF 83 (by decide))
  have t88 : sy_dv F' (.inr (.inl 88)) = .int ((sy_i F 85) - (sy_i F 83)) := hd_o (hs 1 _ rfl) b85 b83 rfl
  have a39 := hd_ba (F := F) (F' := F') (k := 39) (hF 39 (by decide))
  have t89 : sy_da F' (.inr (.inl 89)) = .inl (jm_upd (sy_ai F 39) (sy_i F 82).toNatClampNeg ((25 : Int32))) := hd_up (hs 2 _ rfl) b82 rfl a39
  have b86 := hd_bl (F := F) (F' := F') (k := 86) (hF 86 (by decide))
  have a41 := hd_bA (F := F) (F' := F') (k := 41) (hF 41 (by decide))
  have t87 : sy_da F' (.inr (.inr 87)) = .inr (jm_updL (sy_al F 41) (sy_i F 82).toNatClampNeg (sy_l F 86)) := hd_uA (hs 0 _ rfl) b82 b86 a41
  have hB' : iv_in F' iv_B0 := iv_in_eq hB (fun j hj => hF j (Nat.lt_of_lt_of_le hj (by decide +kernel)))
  have hk := k (sy_cm F' (hd_ov (iv_id 0 iv_B0) [(39, .inr (.inr (.inl 89))), (41, .inr (.inr (.inr 87)))] ++ [])) (fun j hj hn => (hd_keep hB' (Nat.lt_of_lt_of_le hj (by decide +kernel)) (by simp; omega)).trans (hF j (Nat.lt_of_lt_of_le hj (by decide)))) (hd_ga (a := .inr (.inl 89)) (by decide +kernel) t89) (hd_gA (a := .inr (.inr 87)) (by decide +kernel) t87)
  refine ⟨List.forall_mem_cons.mpr ⟨hd_p4 b84 b85 h0, List.forall_mem_cons.mpr ⟨hd_pb b82 (by first | exact h1 | exact h1), List.forall_mem_cons.mpr ⟨hd_p5 t88 rfl (by have hc : ((8) : Int32).toInt = 8 := (by decide); omega), List.forall_mem_cons.mpr ⟨hd_pb b82 (by first | exact h3 | exact h3), fun _ h => absurd h List.not_mem_nil⟩⟩⟩⟩, ?_⟩
  show Q (some (sy_dv F' (.inr (.inl 85)))) _
  rw [b85]
  exact hk
theorem k1wo_6_p2 {Ls : Nat} {xs : Nat → Int32} {d : Nat} {Q : Option Value → jm_h → Prop} (hd : 4 ≤ d) (F : Nat → sy_d) (X1 X2 : List jm_c) (hB : iv_in F iv_B0)
    (h0 : (sy_i F 85).toInt < (sy_i F 84).toInt)
    (h1 : 0 ≤ (sy_i F 85).toInt ∧ (sy_i F 85).toInt < 2000)
    (h2 : ((sy_ai F 2).getD (sy_i F 85).toNatClampNeg 0).toInt < 97)
    (h3 : 0 ≤ (sy_i F 82).toInt ∧ (sy_i F 82).toInt < 401)
    (h4 : ((sy_i F 85) - (sy_i F 83)).toInt ≤ 8)
    (k : ∀ F1 : Nat → sy_d, (∀ j, j < 82 → j ≠ 41 → F1 j = F j) → F1 41 = .inr (.inr (jm_updL (sy_al F 41) (sy_i F 82).toNatClampNeg (sy_l F 86))) → F1 82 = .inl (.int (sy_i F 85)) → F1 83 = .inl (.long (sy_l F 86)) → F1 84 = .inl (.int (sy_i F 82)) → hd_W Ls xs d jm_M60 Q (70, sy_dL F1 [none, none, none, none, none, some (.inr (.inl 82)), none, none], sy_dS F1 [.inr (.inr 83), .inl (.ref 31), .inr (.inl 84), .inl (.ref 32)], sy_dh F1 X1 X2 (iv_H 1), 0, 0)) :
    hd_W Ls xs d jm_M60 Q (6, sy_dL F [some (.inl (.ref 31)), some (.inr (.inl 82)), some (.inl (.ref 9)), some (.inr (.inl 83)), some (.inr (.inl 84)), some (.inr (.inl 85)), some (.inr (.inr 86)), none], sy_dS F [], sy_dh F X1 X2 (iv_H 1), 0, 0) := by
  refine hd_run (s := 1) (nv := 87) (pc := 70) (L := [none, none, none, none, none, some (.inr (.inl 82)), none, none]) (S := [.inr (.inr 83), .inl (.ref 31), .inr (.inl 84), .inl (.ref 32)]) (uh := hd_ov (iv_id 0 iv_B0) [(41, .inr (.inr (.inr 88)))]) (ul := [.inl (.inr (.inl 85)), .inl (.inr (.inr 86)), .inl (.inr (.inl 82))]) (f := true) (sp := [6, 70]) (d0 := 3) (O := [false, true, true]) (T := [(30, [.inr (.inl 85)], [.inr (.inl 2)]), (40, [.inr (.inl 82), .inr (.inr 86)], [.inr (.inr 41)]), (1, [.inr (.inl 85), .inr (.inl 83)], [])]) (P := [(5, .inr (.inl 84), .inr (.inl 85)), (6, .inr (.inl 85), .inl (.ref 2000)), (2, .inr (.inl 87), .inl (.int 97)), (6, .inr (.inl 82), .inl (.ref 401)), (4, .inr (.inl 89), .inl (.int 8))]) jm_ok60 (by decide +kernel) (by decide +kernel) hd F X1 X2 (fun F' hF hs => ?_)
  have b84 := hd_b (F := F) (F' := F') (k := 84) (hF 84 (by decide))
  have b85 := hd_b (F := F) (F' := F') (k := 85) (hF 85 (by decide))
  have a2 := hd_ba (F := F) (F' := F') (k := 2) (hF 2 (by decide))
  have t87 : sy_dv F' (.inr (.inl 87)) = .int ((sy_ai F 2).getD (sy_i F 85).toNatClampNeg 0) := hd_rd (hs 0 _ rfl) b85 a2
  have b82 := hd_b (F := F) (F' := F') (k := 82) (hF 82 (by decide))
  have b83 := hd_b (F := F) (F' := F') (k := 83) (hF 83 (by decide))
  have t89 : sy_dv F' (.inr (.inl 89)) = .int ((sy_i F 85) - (sy_i F 83)) := hd_o (hs 2 _ rfl) b85 b83 rfl
  have b86 := hd_bl (F := F) (F' := F') (k := 86) (hF 86 (by decide))
  have a41 := hd_bA (F := F) (F' := F') (k := 41) (hF 41 (by decide))
  have t88 : sy_da F' (.inr (.inr 88)) = .inr (jm_updL (sy_al F 41) (sy_i F 82).toNatClampNeg (sy_l F 86)) := hd_uA (hs 1 _ rfl) b82 b86 a41
  have hB' : iv_in F' iv_B0 := iv_in_eq hB (fun j hj => hF j (Nat.lt_of_lt_of_le hj (by decide +kernel)))
  refine ⟨List.forall_mem_cons.mpr ⟨hd_p5 b84 b85 h0, List.forall_mem_cons.mpr ⟨hd_pb b85 (by first | exact h1 | exact h1), List.forall_mem_cons.mpr ⟨hd_p2 t87 rfl (by have hc : ((97) : Int32).toInt = 97 := (by decide); omega), List.forall_mem_cons.mpr ⟨hd_pb b82 (by first | exact h3 | exact h3), List.forall_mem_cons.mpr ⟨hd_p4 t89 rfl (by have hc : ((8) : Int32).toInt = 8 := (by decide); omega), fun _ h => absurd h List.not_mem_nil⟩⟩⟩⟩⟩, ?_⟩
  refine k _ ?_ ?_ ?_ ?_ ?_
  · exact fun j hj hn => (hd_keep hB' (Nat.lt_of_lt_of_le hj (by decide +kernel)) (by simp; omega)).trans (hF j (Nat.lt_of_lt_of_le hj (by decide)))
  · exact hd_gA (a := .inr (.inr 88)) (by decide +kernel) t88
  · exact hd_gi (x := .inr (.inl 85)) (by decide +kernel) b85
  · exact hd_gl (x := .inr (.inr 86)) (by decide +kernel) b86
  · exact hd_gi (x := .inr (.inl 82)) (by decide +kernel) b82
theorem k1wo_6_p3 {Ls : Nat} {xs : Nat → Int32} {d : Nat} {Q : Option Value → jm_h → Prop} (hd : 4 ≤ d) (F : Nat → sy_d) (X1 X2 : List jm_c) (hB : iv_in F iv_B0)
    (h0 : (sy_i F 85).toInt < (sy_i F 84).toInt)
    (h1 : 0 ≤ (sy_i F 85).toInt ∧ (sy_i F 85).toInt < 2000)
    (h2 : ((sy_ai F 2).getD (sy_i F 85).toNatClampNeg 0).toInt < 97)
    (h3 : 0 ≤ (sy_i F 82).toInt ∧ (sy_i F 82).toInt < 401)
    (h4 : 8 < ((sy_i F 85) - (sy_i F 83)).toInt)
    (h5 : 0 ≤ (sy_i F 82).toInt ∧ (sy_i F 82).toInt < 401)
    (k : ∀ F1 : Nat → sy_d, (∀ j, j < 82 → j ≠ 39 ∧ j ≠ 41 → F1 j = F j) → F1 39 = .inr (.inl (jm_upd (sy_ai F 39) (sy_i F 82).toNatClampNeg ((25 : Int32)))) → F1 41 = .inr (.inr (jm_updL (sy_al F 41) (sy_i F 82).toNatClampNeg (sy_l F 86))) → Q (some (.int (sy_i F 85))) (sy_dh F1 X1 X2 (iv_H 1))) :
    hd_W Ls xs d jm_M60 Q (6, sy_dL F [some (.inl (.ref 31)), some (.inr (.inl 82)), some (.inl (.ref 9)), some (.inr (.inl 83)), some (.inr (.inl 84)), some (.inr (.inl 85)), some (.inr (.inr 86)), none], sy_dS F [], sy_dh F X1 X2 (iv_H 1), 0, 0) := by
  refine hd_ret (s := 1) (nv := 87) (v := some (.inr (.inl 85))) (uh := hd_ov (iv_id 0 iv_B0) [(39, .inr (.inr (.inl 90))), (41, .inr (.inr (.inr 88)))]) (f := true) (sp := [6, 70]) (d0 := 3) (O := [false, true, false]) (T := [(30, [.inr (.inl 85)], [.inr (.inl 2)]), (40, [.inr (.inl 82), .inr (.inr 86)], [.inr (.inr 41)]), (1, [.inr (.inl 85), .inr (.inl 83)], []), (40, [.inr (.inl 82), .inl (.int 25)], [.inr (.inl 39)])]) (P := [(5, .inr (.inl 84), .inr (.inl 85)), (6, .inr (.inl 85), .inl (.ref 2000)), (2, .inr (.inl 87), .inl (.int 97)), (6, .inr (.inl 82), .inl (.ref 401)), (5, .inr (.inl 89), .inl (.int 8)), (6, .inr (.inl 82), .inl (.ref 401))]) jm_ok60 (by decide +kernel) (by decide +kernel) hd F X1 X2 (fun F' hF hs => ?_)
  have b84 := hd_b (F := F) (F' := F') (k := 84) (hF 84 (by decide))
  have b85 := hd_b (F := F) (F' := F') (k := 85) (hF 85 (by decide))
  have a2 := hd_ba (F := F) (F' := F') (k := 2) (hF 2 (by decide))
  have t87 : sy_dv F' (.inr (.inl 87)) = .int ((sy_ai F 2).getD (sy_i F 85).toNatClampNeg 0) := hd_rd (hs 0 _ rfl) b85 a2
  have b82 := hd_b (F := F) (F' := F') (k := 82) (hF 82 (by decide))
  have b83 := hd_b (F := F) (F' := F') (k := 83) (hF 83 (by decide))
  have t89 : sy_dv F' (.inr (.inl 89)) = .int ((sy_i F 85) - (sy_i F 83)) := hd_o (hs 2 _ rfl) b85 b83 rfl
  have a39 := hd_ba (F := F) (F' := F') (k := 39) (hF 39 (by decide))
  have t90 : sy_da F' (.inr (.inl 90)) = .inl (jm_upd (sy_ai F 39) (sy_i F 82).toNatClampNeg ((25 : Int32))) := hd_up (hs 3 _ rfl) b82 rfl a39
  have b86 := hd_bl (F := F) (F' := F') (k := 86) (hF 86 (by decide))
  have a41 := hd_bA (F := F) (F' := F') (k := 41) (hF 41 (by decide))
  have t88 : sy_da F' (.inr (.inr 88)) = .inr (jm_updL (sy_al F 41) (sy_i F 82).toNatClampNeg (sy_l F 86)) := hd_uA (hs 1 _ rfl) b82 b86 a41
  have hB' : iv_in F' iv_B0 := iv_in_eq hB (fun j hj => hF j (Nat.lt_of_lt_of_le hj (by decide +kernel)))
  have hk := k (sy_cm F' (hd_ov (iv_id 0 iv_B0) [(39, .inr (.inr (.inl 90))), (41, .inr (.inr (.inr 88)))] ++ [])) (fun j hj hn => (hd_keep hB' (Nat.lt_of_lt_of_le hj (by decide +kernel)) (by simp; omega)).trans (hF j (Nat.lt_of_lt_of_le hj (by decide)))) (hd_ga (a := .inr (.inl 90)) (by decide +kernel) t90) (hd_gA (a := .inr (.inr 88)) (by decide +kernel) t88)
  refine ⟨List.forall_mem_cons.mpr ⟨hd_p5 b84 b85 h0, List.forall_mem_cons.mpr ⟨hd_pb b85 (by first | exact h1 | exact h1), List.forall_mem_cons.mpr ⟨hd_p2 t87 rfl (by have hc : ((97) : Int32).toInt = 97 := (by decide); omega), List.forall_mem_cons.mpr ⟨hd_pb b82 (by first | exact h3 | exact h3), List.forall_mem_cons.mpr ⟨hd_p5 t89 rfl (by have hc : ((8) : Int32).toInt = 8 := (by decide); omega), List.forall_mem_cons.mpr ⟨hd_pb b82 (by first | exact h5 | exact h5), fun _ h => absurd h List.not_mem_nil⟩⟩⟩⟩⟩⟩, ?_⟩
  show Q (some (sy_dv F' (.inr (.inl 85)))) _
  rw [b85]
  exact hk
theorem k1wo_6_p4 {Ls : Nat} {xs : Nat → Int32} {d : Nat} {Q : Option Value → jm_h → Prop} (hd : 4 ≤ d) (F : Nat → sy_d) (X1 X2 : List jm_c) (hB : iv_in F iv_B0)
    (h0 : (sy_i F 85).toInt < (sy_i F 84).toInt)
    (h1 : 0 ≤ (sy_i F 85).toInt ∧ (sy_i F 85).toInt < 2000)
    (h2 : 97 ≤ ((sy_ai F 2).getD (sy_i F 85).toNatClampNeg 0).toInt)
    (h3 : 122 < ((sy_ai F 2).getD (sy_i F 85).toNatClampNeg 0).toInt)
    (h4 : 0 ≤ (sy_i F 82).toInt ∧ (sy_i F 82).toInt < 401)
    (h5 : ((sy_i F 85) - (sy_i F 83)).toInt ≤ 8)
    (k : ∀ F1 : Nat → sy_d, (∀ j, j < 82 → j ≠ 41 → F1 j = F j) → F1 41 = .inr (.inr (jm_updL (sy_al F 41) (sy_i F 82).toNatClampNeg (sy_l F 86))) → F1 82 = .inl (.int (sy_i F 85)) → F1 83 = .inl (.long (sy_l F 86)) → F1 84 = .inl (.int (sy_i F 82)) → hd_W Ls xs d jm_M60 Q (70, sy_dL F1 [none, none, none, none, none, some (.inr (.inl 82)), none, none], sy_dS F1 [.inr (.inr 83), .inl (.ref 31), .inr (.inl 84), .inl (.ref 32)], sy_dh F1 X1 X2 (iv_H 1), 0, 0)) :
    hd_W Ls xs d jm_M60 Q (6, sy_dL F [some (.inl (.ref 31)), some (.inr (.inl 82)), some (.inl (.ref 9)), some (.inr (.inl 83)), some (.inr (.inl 84)), some (.inr (.inl 85)), some (.inr (.inr 86)), none], sy_dS F [], sy_dh F X1 X2 (iv_H 1), 0, 0) := by
  refine hd_run (s := 1) (nv := 87) (pc := 70) (L := [none, none, none, none, none, some (.inr (.inl 82)), none, none]) (S := [.inr (.inr 83), .inl (.ref 31), .inr (.inl 84), .inl (.ref 32)]) (uh := hd_ov (iv_id 0 iv_B0) [(41, .inr (.inr (.inr 88)))]) (ul := [.inl (.inr (.inl 85)), .inl (.inr (.inr 86)), .inl (.inr (.inl 82))]) (f := true) (sp := [6, 70]) (d0 := 3) (O := [false, false, true, true]) (T := [(30, [.inr (.inl 85)], [.inr (.inl 2)]), (40, [.inr (.inl 82), .inr (.inr 86)], [.inr (.inr 41)]), (1, [.inr (.inl 85), .inr (.inl 83)], [])]) (P := [(5, .inr (.inl 84), .inr (.inl 85)), (6, .inr (.inl 85), .inl (.ref 2000)), (3, .inr (.inl 87), .inl (.int 97)), (2, .inl (.int 122), .inr (.inl 87)), (6, .inr (.inl 82), .inl (.ref 401)), (4, .inr (.inl 89), .inl (.int 8))]) jm_ok60 (by decide +kernel) (by decide +kernel) hd F X1 X2 (fun F' hF hs => ?_)
  have b84 := hd_b (F := F) (F' := F') (k := 84) (hF 84 (by decide))
  have b85 := hd_b (F := F) (F' := F') (k := 85) (hF 85 (by decide))
  have a2 := hd_ba (F := F) (F' := F') (k := 2) (hF 2 (by decide))
  have t87 : sy_dv F' (.inr (.inl 87)) = .int ((sy_ai F 2).getD (sy_i F 85).toNatClampNeg 0) := hd_rd (hs 0 _ rfl) b85 a2
  have b82 := hd_b (F := F) (F' := F') (k := 82) (hF 82 (by decide))
  have b83 := hd_b (F := F) (F' := F') (k := 83) (hF 83 (by decide))
  have t89 : sy_dv F' (.inr (.inl 89)) = .int ((sy_i F 85) - (sy_i F 83)) := hd_o (hs 2 _ rfl) b85 b83 rfl
  have b86 := hd_bl (F := F) (F' := F') (k := 86) (hF 86 (by decide))
  have a41 := hd_bA (F := F) (F' := F') (k := 41) (hF 41 (by decide))
  have t88 : sy_da F' (.inr (.inr 88)) = .inr (jm_updL (sy_al F 41) (sy_i F 82).toNatClampNeg (sy_l F 86)) := hd_uA (hs 1 _ rfl) b82 b86 a41
  have hB' : iv_in F' iv_B0 := iv_in_eq hB (fun j hj => hF j (Nat.lt_of_lt_of_le hj (by decide +kernel)))
  refine ⟨List.forall_mem_cons.mpr ⟨hd_p5 b84 b85 h0, List.forall_mem_cons.mpr ⟨hd_pb b85 (by first | exact h1 | exact h1), List.forall_mem_cons.mpr ⟨hd_p3 t87 rfl (by have hc : ((97) : Int32).toInt = 97 := (by decide); omega), List.forall_mem_cons.mpr ⟨hd_p2 rfl t87 (by have hc : ((122) : Int32).toInt = 122 := (by decide); omega), List.forall_mem_cons.mpr ⟨hd_pb b82 (by first | exact h4 | exact h4), List.forall_mem_cons.mpr ⟨hd_p4 t89 rfl (by have hc : ((8) : Int32).toInt = 8 := (by decide); omega), fun _ h => absurd h List.not_mem_nil⟩⟩⟩⟩⟩⟩, ?_⟩
  refine k _ ?_ ?_ ?_ ?_ ?_
  · exact fun j hj hn => (hd_keep hB' (Nat.lt_of_lt_of_le hj (by decide +kernel)) (by simp; omega)).trans (hF j (Nat.lt_of_lt_of_le hj (by decide)))
  · exact hd_gA (a := .inr (.inr 88)) (by decide +kernel) t88
  · exact hd_gi (x := .inr (.inl 85)) (by decide +kernel) b85
  · exact hd_gl (x := .inr (.inr 86)) (by decide +kernel) b86
  · exact hd_gi (x := .inr (.inl 82)) (by decide +kernel) b82
theorem k1wo_6_p5 {Ls : Nat} {xs : Nat → Int32} {d : Nat} {Q : Option Value → jm_h → Prop} (hd : 4 ≤ d) (F : Nat → sy_d) (X1 X2 : List jm_c) (hB : iv_in F iv_B0)
    (h0 : (sy_i F 85).toInt < (sy_i F 84).toInt)
    (h1 : 0 ≤ (sy_i F 85).toInt ∧ (sy_i F 85).toInt < 2000)
    (h2 : 97 ≤ ((sy_ai F 2).getD (sy_i F 85).toNatClampNeg 0).toInt)
    (h3 : 122 < ((sy_ai F 2).getD (sy_i F 85).toNatClampNeg 0).toInt)
    (h4 : 0 ≤ (sy_i F 82).toInt ∧ (sy_i F 82).toInt < 401)
    (h5 : 8 < ((sy_i F 85) - (sy_i F 83)).toInt)
    (h6 : 0 ≤ (sy_i F 82).toInt ∧ (sy_i F 82).toInt < 401)
    (k : ∀ F1 : Nat → sy_d, (∀ j, j < 82 → j ≠ 39 ∧ j ≠ 41 → F1 j = F j) → F1 39 = .inr (.inl (jm_upd (sy_ai F 39) (sy_i F 82).toNatClampNeg ((25 : Int32)))) → F1 41 = .inr (.inr (jm_updL (sy_al F 41) (sy_i F 82).toNatClampNeg (sy_l F 86))) → Q (some (.int (sy_i F 85))) (sy_dh F1 X1 X2 (iv_H 1))) :
    hd_W Ls xs d jm_M60 Q (6, sy_dL F [some (.inl (.ref 31)), some (.inr (.inl 82)), some (.inl (.ref 9)), some (.inr (.inl 83)), some (.inr (.inl 84)), some (.inr (.inl 85)), some (.inr (.inr 86)), none], sy_dS F [], sy_dh F X1 X2 (iv_H 1), 0, 0) := by
  refine hd_ret (s := 1) (nv := 87) (v := some (.inr (.inl 85))) (uh := hd_ov (iv_id 0 iv_B0) [(39, .inr (.inr (.inl 90))), (41, .inr (.inr (.inr 88)))]) (f := true) (sp := [6, 70]) (d0 := 3) (O := [false, false, true, false]) (T := [(30, [.inr (.inl 85)], [.inr (.inl 2)]), (40, [.inr (.inl 82), .inr (.inr 86)], [.inr (.inr 41)]), (1, [.inr (.inl 85), .inr (.inl 83)], []), (40, [.inr (.inl 82), .inl (.int 25)], [.inr (.inl 39)])]) (P := [(5, .inr (.inl 84), .inr (.inl 85)), (6, .inr (.inl 85), .inl (.ref 2000)), (3, .inr (.inl 87), .inl (.int 97)), (2, .inl (.int 122), .inr (.inl 87)), (6, .inr (.inl 82), .inl (.ref 401)), (5, .inr (.inl 89), .inl (.int 8)), (6, .inr (.inl 82), .inl (.ref 401))]) jm_ok60 (by decide +kernel) (by decide +kernel) hd F X1 X2 (fun F' hF hs => ?_)
  have b84 := hd_b (F := F) (F' := F') (k := 84) (hF 84 (by decide))
  have b85 := hd_b (F := F) (F' := F') (k := 85) (hF 85 (by decide))
  have a2 := hd_ba (F := F) (F' := F') (k := 2) (hF 2 (by decide))
  have t87 : sy_dv F' (.inr (.inl 87)) = .int ((sy_ai F 2).getD (sy_i F 85).toNatClampNeg 0) := hd_rd (hs 0 _ rfl) b85 a2
  have b82 := hd_b (F := F) (F' := F') (k := 82) (hF 82 (by decide))
  have b83 := hd_b (F := F) (F' := F') (k := 83) (hF 83 (by decide))
  have t89 : sy_dv F' (.inr (.inl 89)) = .int ((sy_i F 85) - (sy_i F 83)) := hd_o (hs 2 _ rfl) b85 b83 rfl
  have a39 := hd_ba (F := F) (F' := F') (k := 39) (hF 39 (by decide))
  have t90 : sy_da F' (.inr (.inl 90)) = .inl (jm_upd (sy_ai F 39) (sy_i F 82).toNatClampNeg ((25 : Int32))) := hd_up (hs 3 _ rfl) b82 rfl a39
  have b86 := hd_bl (F := F) (F' := F') (k := 86) (hF 86 (by decide))
  have a41 := hd_bA (F := F) (F' := F') (k := 41) (hF 41 (by decide))
  have t88 : sy_da F' (.inr (.inr 88)) = .inr (jm_updL (sy_al F 41) (sy_i F 82).toNatClampNeg (sy_l F 86)) := hd_uA (hs 1 _ rfl) b82 b86 a41
  have hB' : iv_in F' iv_B0 := iv_in_eq hB (fun j hj => hF j (Nat.lt_of_lt_of_le hj (by decide +kernel)))
  have hk := k (sy_cm F' (hd_ov (iv_id 0 iv_B0) [(39, .inr (.inr (.inl 90))), (41, .inr (.inr (.inr 88)))] ++ [])) (fun j hj hn => (hd_keep hB' (Nat.lt_of_lt_of_le hj (by decide +kernel)) (by simp; omega)).trans (hF j (Nat.lt_of_lt_of_le hj (by decide)))) (hd_ga (a := .inr (.inl 90)) (by decide +kernel) t90) (hd_gA (a := .inr (.inr 88)) (by decide +kernel) t88)
  refine ⟨List.forall_mem_cons.mpr ⟨hd_p5 b84 b85 h0, List.forall_mem_cons.mpr ⟨hd_pb b85 (by first | exact h1 | exact h1), List.forall_mem_cons.mpr ⟨hd_p3 t87 rfl (by have hc : ((97) : Int32).toInt = 97 := (by decide); omega), List.forall_mem_cons.mpr ⟨hd_p2 rfl t87 (by have hc : ((122) : Int32).toInt = 122 := (by decide); omega), List.forall_mem_cons.mpr ⟨hd_pb b82 (by first | exact h4 | exact h4), List.forall_mem_cons.mpr ⟨hd_p5 t89 rfl (by have hc : ((8) : Int32).toInt = 8 := (by decide); omega), List.forall_mem_cons.mpr ⟨hd_pb b82 (by first | exact h6 | exact h6), fun _ h => absurd h List.not_mem_nil⟩⟩⟩⟩⟩⟩⟩, ?_⟩
  show Q (some (sy_dv F' (.inr (.inl 85)))) _
  rw [b85]
  exact hk
theorem k1wo_6_p6 {Ls : Nat} {xs : Nat → Int32} {d : Nat} {Q : Option Value → jm_h → Prop} (hd : 4 ≤ d) (F : Nat → sy_d) (X1 X2 : List jm_c) (hB : iv_in F iv_B0)
    (h0 : (sy_i F 85).toInt < (sy_i F 84).toInt)
    (h1 : 0 ≤ (sy_i F 85).toInt ∧ (sy_i F 85).toInt < 2000)
    (h2 : 97 ≤ ((sy_ai F 2).getD (sy_i F 85).toNatClampNeg 0).toInt)
    (h3 : ((sy_ai F 2).getD (sy_i F 85).toNatClampNeg 0).toInt ≤ 122)
    (h4 : 0 ≤ (sy_i F 85).toInt ∧ (sy_i F 85).toInt < 2000)
    (k : ∀ F1 : Nat → sy_d, (∀ j, j < 82 → True → F1 j = F j) → F1 82 = .inl (.int (sy_i F 82)) → F1 83 = .inl (.int (sy_i F 83)) → F1 84 = .inl (.int (sy_i F 84)) → F1 85 = .inl (.int ((sy_i F 85) + ((1 : Int32)))) → F1 86 = .inl (.long (((sy_l F 86) * ((27 : Int64))) + (((((sy_ai F 2).getD (sy_i F 85).toNatClampNeg 0) - ((97 : Int32))) + ((1 : Int32))).toInt64))) → hd_W Ls xs d jm_M60 Q (6, sy_dL F1 [some (.inl (.ref 31)), some (.inr (.inl 82)), some (.inl (.ref 9)), some (.inr (.inl 83)), some (.inr (.inl 84)), some (.inr (.inl 85)), some (.inr (.inr 86)), none], sy_dS F1 [], sy_dh F1 X1 X2 (iv_H 1), 0, 0)) :
    hd_W Ls xs d jm_M60 Q (6, sy_dL F [some (.inl (.ref 31)), some (.inr (.inl 82)), some (.inl (.ref 9)), some (.inr (.inl 83)), some (.inr (.inl 84)), some (.inr (.inl 85)), some (.inr (.inr 86)), none], sy_dS F [], sy_dh F X1 X2 (iv_H 1), 0, 0) := by
  refine hd_run (s := 1) (nv := 87) (pc := 6) (L := [some (.inl (.ref 31)), some (.inr (.inl 82)), some (.inl (.ref 9)), some (.inr (.inl 83)), some (.inr (.inl 84)), some (.inr (.inl 85)), some (.inr (.inr 86)), none]) (S := []) (uh := hd_ov (iv_id 0 iv_B0) []) (ul := [.inl (.inr (.inl 82)), .inl (.inr (.inl 83)), .inl (.inr (.inl 84)), .inl (.inr (.inl 94)), .inl (.inr (.inr 93))]) (f := true) (sp := [6, 70]) (d0 := 3) (O := [false, false, false]) (T := [(30, [.inr (.inl 85)], [.inr (.inl 2)]), (30, [.inr (.inl 85)], [.inr (.inl 2)]), (14, [.inr (.inr 86), .inl (.long 27)], []), (1, [.inr (.inl 88), .inl (.int 97)], []), (0, [.inr (.inl 90), .inl (.int 1)], []), (21, [.inr (.inl 91)], []), (12, [.inr (.inr 89), .inr (.inr 92)], []), (0, [.inr (.inl 85), .inl (.int 1)], [])]) (P := [(5, .inr (.inl 84), .inr (.inl 85)), (6, .inr (.inl 85), .inl (.ref 2000)), (3, .inr (.inl 87), .inl (.int 97)), (3, .inl (.int 122), .inr (.inl 87)), (6, .inr (.inl 85), .inl (.ref 2000))]) jm_ok60 (by decide +kernel) (by decide +kernel) hd F X1 X2 (fun F' hF hs => ?_)
  have b84 := hd_b (F := F) (F' := F') (k := 84) (hF 84 (by decide))
  have b85 := hd_b (F := F) (F' := F') (k := 85) (hF 85 (by decide))
  have a2 := hd_ba (F := F) (F' := F') (k := 2) (hF 2 (by decide))
  have t87 : sy_dv F' (.inr (.inl 87)) = .int ((sy_ai F 2).getD (sy_i F 85).toNatClampNeg 0) := hd_rd (hs 0 _ rfl) b85 a2
  have b82 := hd_b (F := F) (F' := F') (k := 82) (hF 82 (by decide))
  have b83 := hd_b (F := F) (F' := F') (k := 83) (hF 83 (by decide))
  have t94 : sy_dv F' (.inr (.inl 94)) = .int ((sy_i F 85) + ((1 : Int32))) := hd_o (hs 7 _ rfl) b85 rfl rfl
  have b86 := hd_bl (F := F) (F' := F') (k := 86) (hF 86 (by decide))
  have t89 : sy_dv F' (.inr (.inr 89)) = .long ((sy_l F 86) * ((27 : Int64))) := hd_oL (hs 2 _ rfl) b86 rfl rfl
  have t88 : sy_dv F' (.inr (.inl 88)) = .int ((sy_ai F 2).getD (sy_i F 85).toNatClampNeg 0) := hd_rd (hs 1 _ rfl) b85 a2
  have t90 : sy_dv F' (.inr (.inl 90)) = .int (((sy_ai F 2).getD (sy_i F 85).toNatClampNeg 0) - ((97 : Int32))) := hd_o (hs 3 _ rfl) t88 rfl rfl
  have t91 : sy_dv F' (.inr (.inl 91)) = .int ((((sy_ai F 2).getD (sy_i F 85).toNatClampNeg 0) - ((97 : Int32))) + ((1 : Int32))) := hd_o (hs 4 _ rfl) t90 rfl rfl
  have t92 : sy_dv F' (.inr (.inr 92)) = .long (((((sy_ai F 2).getD (sy_i F 85).toNatClampNeg 0) - ((97 : Int32))) + ((1 : Int32))).toInt64) := hd_uL (hs 5 _ rfl) t91 rfl
  have t93 : sy_dv F' (.inr (.inr 93)) = .long (((sy_l F 86) * ((27 : Int64))) + (((((sy_ai F 2).getD (sy_i F 85).toNatClampNeg 0) - ((97 : Int32))) + ((1 : Int32))).toInt64)) := hd_oL (hs 6 _ rfl) t89 t92 rfl
  have hB' : iv_in F' iv_B0 := iv_in_eq hB (fun j hj => hF j (Nat.lt_of_lt_of_le hj (by decide +kernel)))
  refine ⟨List.forall_mem_cons.mpr ⟨hd_p5 b84 b85 h0, List.forall_mem_cons.mpr ⟨hd_pb b85 (by first | exact h1 | exact h1), List.forall_mem_cons.mpr ⟨hd_p3 t87 rfl (by have hc : ((97) : Int32).toInt = 97 := (by decide); omega), List.forall_mem_cons.mpr ⟨hd_p3 rfl t87 (by have hc : ((122) : Int32).toInt = 122 := (by decide); omega), List.forall_mem_cons.mpr ⟨hd_pb b85 (by first | exact h4 | exact h4), fun _ h => absurd h List.not_mem_nil⟩⟩⟩⟩⟩, ?_⟩
  refine k _ ?_ ?_ ?_ ?_ ?_ ?_
  · exact fun j hj _ => (hd_keep hB' (Nat.lt_of_lt_of_le hj (by decide +kernel)) (by simp)).trans (hF j (Nat.lt_of_lt_of_le hj (by decide)))
  · exact hd_gi (x := .inr (.inl 82)) (by decide +kernel) b82
  · exact hd_gi (x := .inr (.inl 83)) (by decide +kernel) b83
  · exact hd_gi (x := .inr (.inl 84)) (by decide +kernel) b84
  · exact hd_gi (x := .inr (.inl 94)) (by decide +kernel) t94
  · exact hd_gl (x := .inr (.inr 93)) (by decide +kernel) t93
theorem k1wo_6 {Ls : Nat} {xs : Nat → Int32} {d : Nat} {Q : Option Value → jm_h → Prop} (hd : 4 ≤ d) (F : Nat → sy_d) (X1 X2 : List jm_c) (hB : iv_in F iv_B0)
    (a82 : 0 ≤ (sy_i F 82).toInt ∧ (sy_i F 82).toInt ≤ 400)
    (a83 : 0 ≤ (sy_i F 83).toInt ∧ (sy_i F 83).toInt ≤ 2000)
    (a84 : 0 ≤ (sy_i F 84).toInt ∧ (sy_i F 84).toInt ≤ 2000)
    (a85 : 0 ≤ (sy_i F 85).toInt ∧ (sy_i F 85).toInt ≤ 2000)
    (k0 : (sy_i F 84).toInt ≤ (sy_i F 85).toInt → ((sy_i F 85).toInt - (sy_i F 83).toInt) ≤ 8 → ∀ F1 : Nat → sy_d, iv_in F1 iv_B0 → (∀ j, j < 82 → j ∉ ([41] : List Nat) → F1 j = F j) → sy_ai F1 39 = sy_ai F 39 → sy_ai F1 40 = sy_ai F 40 → sy_al F1 41 = jm_updL (sy_al F 41) ((sy_i F 82).toInt).toNat (sy_l F 86) → (sy_i F1 82).toInt = (sy_i F 85).toInt → sy_l F1 83 = sy_l F 86 → (sy_i F1 84).toInt = (sy_i F 82).toInt → hd_W Ls xs d jm_M60 Q (70, sy_dL F1 [none, none, none, none, none, some (.inr (.inl 82)), none, none], sy_dS F1 [.inr (.inr 83), .inl (.ref 31), .inr (.inl 84), .inl (.ref 32)], sy_dh F1 X1 X2 (iv_H 1), 0, 0))
    (k1 : (sy_i F 84).toInt ≤ (sy_i F 85).toInt → 8 < ((sy_i F 85).toInt - (sy_i F 83).toInt) → ∀ F1 : Nat → sy_d, iv_in F1 iv_B0 → (∀ j, j < 82 → j ∉ ([39, 41] : List Nat) → F1 j = F j) → sy_ai F1 39 = jm_upd (sy_ai F 39) ((sy_i F 82).toInt).toNat ((25 : Int32)) → sy_ai F1 40 = sy_ai F 40 → sy_al F1 41 = jm_updL (sy_al F 41) ((sy_i F 82).toInt).toNat (sy_l F 86) → Q (some (.int (sy_i F 85))) (sy_dh F1 X1 X2 (iv_H 1)))
    (k2 : (sy_i F 85).toInt < (sy_i F 84).toInt → ((sy_ai F 2).getD ((sy_i F 85).toInt).toNat 0).toInt < 97 → ((sy_i F 85).toInt - (sy_i F 83).toInt) ≤ 8 → ∀ F1 : Nat → sy_d, iv_in F1 iv_B0 → (∀ j, j < 82 → j ∉ ([41] : List Nat) → F1 j = F j) → sy_ai F1 39 = sy_ai F 39 → sy_ai F1 40 = sy_ai F 40 → sy_al F1 41 = jm_updL (sy_al F 41) ((sy_i F 82).toInt).toNat (sy_l F 86) → (sy_i F1 82).toInt = (sy_i F 85).toInt → sy_l F1 83 = sy_l F 86 → (sy_i F1 84).toInt = (sy_i F 82).toInt → hd_W Ls xs d jm_M60 Q (70, sy_dL F1 [none, none, none, none, none, some (.inr (.inl 82)), none, none], sy_dS F1 [.inr (.inr 83), .inl (.ref 31), .inr (.inl 84), .inl (.ref 32)], sy_dh F1 X1 X2 (iv_H 1), 0, 0))
    (k3 : (sy_i F 85).toInt < (sy_i F 84).toInt → ((sy_ai F 2).getD ((sy_i F 85).toInt).toNat 0).toInt < 97 → 8 < ((sy_i F 85).toInt - (sy_i F 83).toInt) → ∀ F1 : Nat → sy_d, iv_in F1 iv_B0 → (∀ j, j < 82 → j ∉ ([39, 41] : List Nat) → F1 j = F j) → sy_ai F1 39 = jm_upd (sy_ai F 39) ((sy_i F 82).toInt).toNat ((25 : Int32)) → sy_ai F1 40 = sy_ai F 40 → sy_al F1 41 = jm_updL (sy_al F 41) ((sy_i F 82).toInt).toNat (sy_l F 86) → Q (some (.int (sy_i F 85))) (sy_dh F1 X1 X2 (iv_H 1)))
    (k4 : (sy_i F 85).toInt < (sy_i F 84).toInt → 97 ≤ ((sy_ai F 2).getD ((sy_i F 85).toInt).toNat 0).toInt → 122 < ((sy_ai F 2).getD ((sy_i F 85).toInt).toNat 0).toInt → ((sy_i F 85).toInt - (sy_i F 83).toInt) ≤ 8 → ∀ F1 : Nat → sy_d, iv_in F1 iv_B0 → (∀ j, j < 82 → j ∉ ([41] : List Nat) → F1 j = F j) → sy_ai F1 39 = sy_ai F 39 → sy_ai F1 40 = sy_ai F 40 → sy_al F1 41 = jm_updL (sy_al F 41) ((sy_i F 82).toInt).toNat (sy_l F 86) → (sy_i F1 82).toInt = (sy_i F 85).toInt → sy_l F1 83 = sy_l F 86 → (sy_i F1 84).toInt = (sy_i F 82).toInt → hd_W Ls xs d jm_M60 Q (70, sy_dL F1 [none, none, none, none, none, some (.inr (.inl 82)), none, none], sy_dS F1 [.inr (.inr 83), .inl (.ref 31), .inr (.inl 84), .inl (.ref 32)], sy_dh F1 X1 X2 (iv_H 1), 0, 0))
    (k5 : (sy_i F 85).toInt < (sy_i F 84).toInt → 97 ≤ ((sy_ai F 2).getD ((sy_i F 85).toInt).toNat 0).toInt → 122 < ((sy_ai F 2).getD ((sy_i F 85).toInt).toNat 0).toInt → 8 < ((sy_i F 85).toInt - (sy_i F 83).toInt) → ∀ F1 : Nat → sy_d, iv_in F1 iv_B0 → (∀ j, j < 82 → j ∉ ([39, 41] : List Nat) → F1 j = F j) → sy_ai F1 39 = jm_upd (sy_ai F 39) ((sy_i F 82).toInt).toNat ((25 : Int32)) → sy_ai F1 40 = sy_ai F 40 → sy_al F1 41 = jm_updL (sy_al F 41) ((sy_i F 82).toInt).toNat (sy_l F 86) → Q (some (.int (sy_i F 85))) (sy_dh F1 X1 X2 (iv_H 1)))
    (k6 : (sy_i F 85).toInt < (sy_i F 84).toInt → 97 ≤ ((sy_ai F 2).getD ((sy_i F 85).toInt).toNat 0).toInt → ((sy_ai F 2).getD ((sy_i F 85).toInt).toNat 0).toInt ≤ 122 → ∀ F1 : Nat → sy_d, iv_in F1 iv_B0 → (∀ j, j < 82 → j ∉ ([] : List Nat) → F1 j = F j) → sy_ai F1 39 = sy_ai F 39 → sy_ai F1 40 = sy_ai F 40 → sy_al F1 41 = sy_al F 41 → (sy_i F1 82).toInt = (sy_i F 82).toInt → (sy_i F1 83).toInt = (sy_i F 83).toInt → (sy_i F1 84).toInt = (sy_i F 84).toInt → (sy_i F1 85).toInt = ((sy_i F 85).toInt + 1) → sy_l F1 86 = ((sy_l F 86) * ((27 : Int64))) + (((((sy_ai F 2).getD ((sy_i F 85).toInt).toNat 0) - ((97 : Int32))) + ((1 : Int32))).toInt64) → hd_W Ls xs d jm_M60 Q (6, sy_dL F1 [some (.inl (.ref 31)), some (.inr (.inl 82)), some (.inl (.ref 9)), some (.inr (.inl 83)), some (.inr (.inl 84)), some (.inr (.inl 85)), some (.inr (.inr 86)), none], sy_dS F1 [], sy_dh F1 X1 X2 (iv_H 1), 0, 0)) :
    hd_W Ls xs d jm_M60 Q (6, sy_dL F [some (.inl (.ref 31)), some (.inr (.inl 82)), some (.inl (.ref 9)), some (.inr (.inl 83)), some (.inr (.inl 84)), some (.inr (.inl 85)), some (.inr (.inr 86)), none], sy_dS F [], sy_dh F X1 X2 (iv_H 1), 0, 0) := by
  by_cases g0 : (sy_i F 84).toInt ≤ (sy_i F 85).toInt
  · by_cases g1 : ((sy_i F 85).toInt - (sy_i F 83).toInt) ≤ 8
    · have n88 : ((sy_i F 85) - (sy_i F 83)).toInt = ((sy_i F 85).toInt - (sy_i F 83).toInt) := nz_sub (rfl : (sy_i F 85).toInt = (sy_i F 85).toInt) (rfl : (sy_i F 83).toInt = (sy_i F 83).toInt) (by omega) (by omega)
      have w87 : jm_updL (sy_al F 41) (sy_i F 82).toNatClampNeg (sy_l F 86) = jm_updL (sy_al F 41) ((sy_i F 82).toInt).toNat (sy_l F 86) := by simp only [nz_c]
      exact k1wo_6_p0 hd F X1 X2 hB (by first | exact g0 | (simp only [nz_c]; exact g0)) (by first | exact ⟨by omega, by omega⟩ | (simp only [nz_c]; exact ⟨by omega, by omega⟩)) (by first | exact g1 | (simp only [nz_c, n88]; exact g1) | (rw [n88]; exact g1)) (fun F1 g e41 e82 e83 e84 => k0 g0 g1 F1 (nz_in0 hB [41] (fun j hj hn => g j hj (by simp only [List.mem_cons, List.not_mem_nil, or_false, not_or] at hn; omega)) (List.forall_mem_cons.mpr ⟨fun t ht => (Option.some.inj ht) ▸ (nz_hz3 e41), List.forall_mem_nil _⟩)) (fun j hj hn => g j hj (by simp only [List.mem_cons, List.not_mem_nil, or_false, not_or] at hn; omega)) (nz_fa (g 39 (by decide) (by decide))) (nz_fa (g 40 (by decide) (by decide))) ((zz_al e41).trans w87) ((congrArg Int32.toInt (zz_i e82)).trans (rfl : (sy_i F 85).toInt = (sy_i F 85).toInt)) ((zz_l e83).trans (rfl : sy_l F 86 = sy_l F 86)) ((congrArg Int32.toInt (zz_i e84)).trans (rfl : (sy_i F 82).toInt = (sy_i F 82).toInt)))
    replace g1 : 8 < ((sy_i F 85).toInt - (sy_i F 83).toInt) := by omega
    have n88 : ((sy_i F 85) - (sy_i F 83)).toInt = ((sy_i F 85).toInt - (sy_i F 83).toInt) := nz_sub (rfl : (sy_i F 85).toInt = (sy_i F 85).toInt) (rfl : (sy_i F 83).toInt = (sy_i F 83).toInt) (by omega) (by omega)
    have w89 : jm_upd (sy_ai F 39) (sy_i F 82).toNatClampNeg ((25 : Int32)) = jm_upd (sy_ai F 39) ((sy_i F 82).toInt).toNat ((25 : Int32)) := by simp only [nz_c, (by decide : ((25 : Int32)).toInt = 25)]
    have w87 : jm_updL (sy_al F 41) (sy_i F 82).toNatClampNeg (sy_l F 86) = jm_updL (sy_al F 41) ((sy_i F 82).toInt).toNat (sy_l F 86) := by simp only [nz_c]
    exact k1wo_6_p1 hd F X1 X2 hB (by first | exact g0 | (simp only [nz_c]; exact g0)) (by first | exact ⟨by omega, by omega⟩ | (simp only [nz_c]; exact ⟨by omega, by omega⟩)) (by first | exact g1 | (simp only [nz_c, n88]; exact g1) | (rw [n88]; exact g1)) (by first | exact ⟨by omega, by omega⟩ | (simp only [nz_c]; exact ⟨by omega, by omega⟩)) (fun F1 g e39 e41 => by rw [(rfl : sy_i F 85 = sy_i F 85)]; exact k1 g0 g1 F1 (nz_in0 hB [39, 41] (fun j hj hn => g j hj (by simp only [List.mem_cons, List.not_mem_nil, or_false, not_or] at hn; omega)) (List.forall_mem_cons.mpr ⟨fun t ht => (Option.some.inj ht) ▸ (nz_hz2 e39), List.forall_mem_cons.mpr ⟨fun t ht => (Option.some.inj ht) ▸ (nz_hz3 e41), List.forall_mem_nil _⟩⟩)) (fun j hj hn => g j hj (by simp only [List.mem_cons, List.not_mem_nil, or_false, not_or] at hn; omega)) ((zz_ai e39).trans w89) (nz_fa (g 40 (by decide) (by decide))) ((zz_al e41).trans w87))
  replace g0 : (sy_i F 85).toInt < (sy_i F 84).toInt := by omega
  by_cases g1 : ((sy_ai F 2).getD ((sy_i F 85).toInt).toNat 0).toInt < 97
  · by_cases g2 : ((sy_i F 85).toInt - (sy_i F 83).toInt) ≤ 8
    · have q87 : (sy_ai F 2).getD (sy_i F 85).toNatClampNeg 0 = (sy_ai F 2).getD ((sy_i F 85).toInt).toNat 0 := by simp only [nz_c]
      have n87 : ((sy_ai F 2).getD (sy_i F 85).toNatClampNeg 0).toInt = ((sy_ai F 2).getD ((sy_i F 85).toInt).toNat 0).toInt := congrArg Int32.toInt q87
      have r87 := nz_ba hB (k := 2) (lo := (-128)) (hi := 127) rfl ((sy_i F 85).toInt).toNat
      have n89 : ((sy_i F 85) - (sy_i F 83)).toInt = ((sy_i F 85).toInt - (sy_i F 83).toInt) := nz_sub (rfl : (sy_i F 85).toInt = (sy_i F 85).toInt) (rfl : (sy_i F 83).toInt = (sy_i F 83).toInt) (by omega) (by omega)
      have w88 : jm_updL (sy_al F 41) (sy_i F 82).toNatClampNeg (sy_l F 86) = jm_updL (sy_al F 41) ((sy_i F 82).toInt).toNat (sy_l F 86) := by simp only [nz_c]
      exact k1wo_6_p2 hd F X1 X2 hB (by first | exact g0 | (simp only [nz_c]; exact g0)) (by first | exact ⟨by omega, by omega⟩ | (simp only [nz_c]; exact ⟨by omega, by omega⟩)) (by first | exact g1 | (simp only [nz_c]; exact g1) | (rw [n87]; exact g1)) (by first | exact ⟨by omega, by omega⟩ | (simp only [nz_c]; exact ⟨by omega, by omega⟩)) (by first | exact g2 | (simp only [nz_c, n89]; exact g2) | (rw [n89]; exact g2)) (fun F1 g e41 e82 e83 e84 => k2 g0 g1 g2 F1 (nz_in0 hB [41] (fun j hj hn => g j hj (by simp only [List.mem_cons, List.not_mem_nil, or_false, not_or] at hn; omega)) (List.forall_mem_cons.mpr ⟨fun t ht => (Option.some.inj ht) ▸ (nz_hz3 e41), List.forall_mem_nil _⟩)) (fun j hj hn => g j hj (by simp only [List.mem_cons, List.not_mem_nil, or_false, not_or] at hn; omega)) (nz_fa (g 39 (by decide) (by decide))) (nz_fa (g 40 (by decide) (by decide))) ((zz_al e41).trans w88) ((congrArg Int32.toInt (zz_i e82)).trans (rfl : (sy_i F 85).toInt = (sy_i F 85).toInt)) ((zz_l e83).trans (rfl : sy_l F 86 = sy_l F 86)) ((congrArg Int32.toInt (zz_i e84)).trans (rfl : (sy_i F 82).toInt = (sy_i F 82).toInt)))
    replace g2 : 8 < ((sy_i F 85).toInt - (sy_i F 83).toInt) := by omega
    have q87 : (sy_ai F 2).getD (sy_i F 85).toNatClampNeg 0 = (sy_ai F 2).getD ((sy_i F 85).toInt).toNat 0 := by simp only [nz_c]
    have n87 : ((sy_ai F 2).getD (sy_i F 85).toNatClampNeg 0).toInt = ((sy_ai F 2).getD ((sy_i F 85).toInt).toNat 0).toInt := congrArg Int32.toInt q87
    have r87 := nz_ba hB (k := 2) (lo := (-128)) (hi := 127) rfl ((sy_i F 85).toInt).toNat
    have n89 : ((sy_i F 85) - (sy_i F 83)).toInt = ((sy_i F 85).toInt - (sy_i F 83).toInt) := nz_sub (rfl : (sy_i F 85).toInt = (sy_i F 85).toInt) (rfl : (sy_i F 83).toInt = (sy_i F 83).toInt) (by omega) (by omega)
    have w90 : jm_upd (sy_ai F 39) (sy_i F 82).toNatClampNeg ((25 : Int32)) = jm_upd (sy_ai F 39) ((sy_i F 82).toInt).toNat ((25 : Int32)) := by simp only [nz_c, (by decide : ((25 : Int32)).toInt = 25)]
    have w88 : jm_updL (sy_al F 41) (sy_i F 82).toNatClampNeg (sy_l F 86) = jm_updL (sy_al F 41) ((sy_i F 82).toInt).toNat (sy_l F 86) := by simp only [nz_c]
    exact k1wo_6_p3 hd F X1 X2 hB (by first | exact g0 | (simp only [nz_c]; exact g0)) (by first | exact ⟨by omega, by omega⟩ | (simp only [nz_c]; exact ⟨by omega, by omega⟩)) (by first | exact g1 | (simp only [nz_c]; exact g1) | (rw [n87]; exact g1)) (by first | exact ⟨by omega, by omega⟩ | (simp only [nz_c]; exact ⟨by omega, by omega⟩)) (by first | exact g2 | (simp only [nz_c, n89]; exact g2) | (rw [n89]; exact g2)) (by first | exact ⟨by omega, by omega⟩ | (simp only [nz_c]; exact ⟨by omega, by omega⟩)) (fun F1 g e39 e41 => by rw [(rfl : sy_i F 85 = sy_i F 85)]; exact k3 g0 g1 g2 F1 (nz_in0 hB [39, 41] (fun j hj hn => g j hj (by simp only [List.mem_cons, List.not_mem_nil, or_false, not_or] at hn; omega)) (List.forall_mem_cons.mpr ⟨fun t ht => (Option.some.inj ht) ▸ (nz_hz2 e39), List.forall_mem_cons.mpr ⟨fun t ht => (Option.some.inj ht) ▸ (nz_hz3 e41), List.forall_mem_nil _⟩⟩)) (fun j hj hn => g j hj (by simp only [List.mem_cons, List.not_mem_nil, or_false, not_or] at hn; omega)) ((zz_ai e39).trans w90) (nz_fa (g 40 (by decide) (by decide))) ((zz_al e41).trans w88))
  replace g1 : 97 ≤ ((sy_ai F 2).getD ((sy_i F 85).toInt).toNat 0).toInt := by omega
  by_cases g2 : 122 < ((sy_ai F 2).getD ((sy_i F 85).toInt).toNat 0).toInt
  · by_cases g3 : ((sy_i F 85).toInt - (sy_i F 83).toInt) ≤ 8
    · have q87 : (sy_ai F 2).getD (sy_i F 85).toNatClampNeg 0 = (sy_ai F 2).getD ((sy_i F 85).toInt).toNat 0 := by simp only [nz_c]
      have n87 : ((sy_ai F 2).getD (sy_i F 85).toNatClampNeg 0).toInt = ((sy_ai F 2).getD ((sy_i F 85).toInt).toNat 0).toInt := congrArg Int32.toInt q87
      have r87 := nz_ba hB (k := 2) (lo := (-128)) (hi := 127) rfl ((sy_i F 85).toInt).toNat
      have n89 : ((sy_i F 85) - (sy_i F 83)).toInt = ((sy_i F 85).toInt - (sy_i F 83).toInt) := nz_sub (rfl : (sy_i F 85).toInt = (sy_i F 85).toInt) (rfl : (sy_i F 83).toInt = (sy_i F 83).toInt) (by omega) (by omega)
      have w88 : jm_updL (sy_al F 41) (sy_i F 82).toNatClampNeg (sy_l F 86) = jm_updL (sy_al F 41) ((sy_i F 82).toInt).toNat (sy_l F 86) := by simp only [nz_c]
      exact k1wo_6_p4 hd F X1 X2 hB (by first | exact g0 | (simp only [nz_c]; exact g0)) (by first | exact ⟨by omega, by omega⟩ | (simp only [nz_c]; exact ⟨by omega, by omega⟩)) (by first | exact g1 | (simp only [nz_c]; exact g1) | (rw [n87]; exact g1)) (by first | exact g2 | (simp only [nz_c]; exact g2) | (rw [n87]; exact g2)) (by first | exact ⟨by omega, by omega⟩ | (simp only [nz_c]; exact ⟨by omega, by omega⟩)) (by first | exact g3 | (simp only [nz_c, n89]; exact g3) | (rw [n89]; exact g3)) (fun F1 g e41 e82 e83 e84 => k4 g0 g1 g2 g3 F1 (nz_in0 hB [41] (fun j hj hn => g j hj (by simp only [List.mem_cons, List.not_mem_nil, or_false, not_or] at hn; omega)) (List.forall_mem_cons.mpr ⟨fun t ht => (Option.some.inj ht) ▸ (nz_hz3 e41), List.forall_mem_nil _⟩)) (fun j hj hn => g j hj (by simp only [List.mem_cons, List.not_mem_nil, or_false, not_or] at hn; omega)) (nz_fa (g 39 (by decide) (by decide))) (nz_fa (g 40 (by decide) (by decide))) ((zz_al e41).trans w88) ((congrArg Int32.toInt (zz_i e82)).trans (rfl : (sy_i F 85).toInt = (sy_i F 85).toInt)) ((zz_l e83).trans (rfl : sy_l F 86 = sy_l F 86)) ((congrArg Int32.toInt (zz_i e84)).trans (rfl : (sy_i F 82).toInt = (sy_i F 82).toInt)))
    replace g3 : 8 < ((sy_i F 85).toInt - (sy_i F 83).toInt) := by omega
    have q87 : (sy_ai F 2).getD (sy_i F 85).toNatClampNeg 0 = (sy_ai F 2).getD ((sy_i F 85).toInt).toNat 0 := by simp only [nz_c]
    have n87 : ((sy_ai F 2).getD (sy_i F 85).toNatClampNeg 0).toInt = ((sy_ai F 2).getD ((sy_i F 85).toInt).toNat 0).toInt := congrArg Int32.toInt q87
    have r87 := nz_ba hB (k := 2) (lo := (-128)) (hi := 127) rfl ((sy_i F 85).toInt).toNat
    have n89 : ((sy_i F 85) - (sy_i F 83)).toInt = ((sy_i F 85).toInt - (sy_i F 83).toInt) := nz_sub (rfl : (sy_i F 85).toInt = (sy_i F 85).toInt) (rfl : (sy_i F 83).toInt = (sy_i F 83).toInt) (by omega) (by omega)
    have w90 : jm_upd (sy_ai F 39) (sy_i F 82).toNatClampNeg ((25 : Int32)) = jm_upd (sy_ai F 39) ((sy_i F 82).toInt).toNat ((25 : Int32)) := by simp only [nz_c, (by decide : ((25 : Int32)).toInt = 25)]
    have w88 : jm_updL (sy_al F 41) (sy_i F 82).toNatClampNeg (sy_l F 86) = jm_updL (sy_al F 41) ((sy_i F 82).toInt).toNat (sy_l F 86) := by simp only [nz_c]
    exact k1wo_6_p5 hd F X1 X2 hB (by first | exact g0 | (simp only [nz_c]; exact g0)) (by first | exact ⟨by omega, by omega⟩ | (simp only [nz_c]; exact ⟨by omega, by omega⟩)) (by first | exact g1 | (simp only [nz_c]; exact g1) | (rw [n87]; exact g1)) (by first | exact g2 | (simp only [nz_c]; exact g2) | (rw [n87]; exact g2)) (by first | exact ⟨by omega, by omega⟩ | (simp only [nz_c]; exact ⟨by omega, by omega⟩)) (by first | exact g3 | (simp only [nz_c, n89]; exact g3) | (rw [n89]; exact g3)) (by first | exact ⟨by omega, by omega⟩ | (simp only [nz_c]; exact ⟨by omega, by omega⟩)) (fun F1 g e39 e41 => by rw [(rfl : sy_i F 85 = sy_i F 85)]; exact k5 g0 g1 g2 g3 F1 (nz_in0 hB [39, 41] (fun j hj hn => g j hj (by simp only [List.mem_cons, List.not_mem_nil, or_false, not_or] at hn; omega)) (List.forall_mem_cons.mpr ⟨fun t ht => (Option.some.inj ht) ▸ (nz_hz2 e39), List.forall_mem_cons.mpr ⟨fun t ht => (Option.some.inj ht) ▸ (nz_hz3 e41), List.forall_mem_nil _⟩⟩)) (fun j hj hn => g j hj (by simp only [List.mem_cons, List.not_mem_nil, or_false, not_or] at hn; omega)) ((zz_ai e39).trans w90) (nz_fa (g 40 (by decide) (by decide))) ((zz_al e41).trans w88))
  replace g2 : ((sy_ai F 2).getD ((sy_i F 85).toInt).toNat 0).toInt ≤ 122 := by omega
  have q87 : (sy_ai F 2).getD (sy_i F 85).toNatClampNeg 0 = (sy_ai F 2).getD ((sy_i F 85).toInt).toNat 0 := by simp only [nz_c]
  have n87 : ((sy_ai F 2).getD (sy_i F 85).toNatClampNeg 0).toInt = ((sy_ai F 2).getD ((sy_i F 85).toInt).toNat 0).toInt := congrArg Int32.toInt q87
  have r87 := nz_ba hB (k := 2) (lo := (-128)) (hi := 127) rfl ((sy_i F 85).toInt).toNat
  have n94 : ((sy_i F 85) + ((1 : Int32))).toInt = ((sy_i F 85).toInt + 1) := nz_add (rfl : (sy_i F 85).toInt = (sy_i F 85).toInt) (by decide : ((1 : Int32)).toInt = 1) (by omega) (by omega)
  have q88 : (sy_ai F 2).getD (sy_i F 85).toNatClampNeg 0 = (sy_ai F 2).getD ((sy_i F 85).toInt).toNat 0 := by simp only [nz_c]
  have n88 : ((sy_ai F 2).getD (sy_i F 85).toNatClampNeg 0).toInt = ((sy_ai F 2).getD ((sy_i F 85).toInt).toNat 0).toInt := congrArg Int32.toInt q88
  have r88 := nz_ba hB (k := 2) (lo := (-128)) (hi := 127) rfl ((sy_i F 85).toInt).toNat
  have n90 : (((sy_ai F 2).getD (sy_i F 85).toNatClampNeg 0) - ((97 : Int32))).toInt = (((sy_ai F 2).getD ((sy_i F 85).toInt).toNat 0).toInt - 97) := nz_sub n88 (by decide : ((97 : Int32)).toInt = 97) (by omega) (by omega)
  have n91 : ((((sy_ai F 2).getD (sy_i F 85).toNatClampNeg 0) - ((97 : Int32))) + ((1 : Int32))).toInt = ((((sy_ai F 2).getD ((sy_i F 85).toInt).toNat 0).toInt - 97) + 1) := nz_add n90 (by decide : ((1 : Int32)).toInt = 1) (by omega) (by omega)
  have q93 : ((sy_l F 86) * ((27 : Int64))) + (((((sy_ai F 2).getD (sy_i F 85).toNatClampNeg 0) - ((97 : Int32))) + ((1 : Int32))).toInt64) = ((sy_l F 86) * ((27 : Int64))) + (((((sy_ai F 2).getD ((sy_i F 85).toInt).toNat 0) - ((97 : Int32))) + ((1 : Int32))).toInt64) := by simp only [nz_c, n90, n91, (by decide : ((1 : Int32)).toInt = 1), (by decide : ((97 : Int32)).toInt = 97)]
  exact k1wo_6_p6 hd F X1 X2 hB (by first | exact g0 | (simp only [nz_c]; exact g0)) (by first | exact ⟨by omega, by omega⟩ | (simp only [nz_c]; exact ⟨by omega, by omega⟩)) (by first | exact g1 | (simp only [nz_c]; exact g1) | (rw [n87]; exact g1)) (by first | exact g2 | (simp only [nz_c]; exact g2) | (rw [n87]; exact g2)) (by first | exact ⟨by omega, by omega⟩ | (simp only [nz_c]; exact ⟨by omega, by omega⟩)) (fun F1 g e82 e83 e84 e85 e86 => k6 g0 g1 g2 F1 (nz_in0 hB [] (fun j hj hn => g j hj (by simp only [List.mem_cons, List.not_mem_nil, or_false, not_or] at hn; exact trivial)) (List.forall_mem_nil _)) (fun j hj hn => g j hj (by simp only [List.mem_cons, List.not_mem_nil, or_false, not_or] at hn; exact trivial)) (nz_fa (g 39 (by decide) (by decide))) (nz_fa (g 40 (by decide) (by decide))) (nz_fl (g 41 (by decide) (by decide))) ((congrArg Int32.toInt (zz_i e82)).trans (rfl : (sy_i F 82).toInt = (sy_i F 82).toInt)) ((congrArg Int32.toInt (zz_i e83)).trans (rfl : (sy_i F 83).toInt = (sy_i F 83).toInt)) ((congrArg Int32.toInt (zz_i e84)).trans (rfl : (sy_i F 84).toInt = (sy_i F 84).toInt)) ((congrArg Int32.toInt (zz_i e85)).trans n94) ((zz_l e86).trans q93))
theorem k1wo_73_p0 {Ls : Nat} {xs : Nat → Int32} {d : Nat} {Q : Option Value → jm_h → Prop} (hd : 4 ≤ d) (F : Nat → sy_d) (X1 X2 : List jm_c) (hB : iv_in F iv_B0)
    (h0 : 0 ≤ (sy_i F 84).toInt ∧ (sy_i F 84).toInt < 401)
    (k : ∀ F1 : Nat → sy_d, (∀ j, j < 82 → j ≠ 39 → F1 j = F j) → F1 39 = .inr (.inl (jm_upd (sy_ai F 39) (sy_i F 84).toNatClampNeg (sy_i F 85))) → Q (some (.int (sy_i F 82))) (sy_dh F1 X1 X2 (iv_H 1))) :
    hd_W Ls xs d jm_M60 Q (73, sy_dL F [none, none, none, none, none, some (.inr (.inl 82)), none, none], sy_dS F [.inr (.inl 85), .inr (.inl 84), .inl (.ref 32)], sy_dh F X1 X2 (iv_H 1), 0, 0) := by
  refine hd_ret (s := 1) (nv := 86) (v := some (.inr (.inl 82))) (uh := hd_ov (iv_id 0 iv_B0) [(39, .inr (.inr (.inl 86)))]) (f := false) (sp := []) (d0 := 3) (O := []) (T := [(40, [.inr (.inl 84), .inr (.inl 85)], [.inr (.inl 39)])]) (P := [(6, .inr (.inl 84), .inl (.ref 401))]) jm_ok60 (by decide +kernel) (by decide +kernel) hd F X1 X2 (fun F' hF hs => ?_)
  have b84 := hd_b (F := F) (F' := F') (k := 84) (hF 84 (by decide))
  have b85 := hd_b (F := F) (F' := F') (k := 85) (hF 85 (by decide))
  have a39 := hd_ba (F := F) (F' := F') (k := 39) (hF 39 (by decide))
  have t86 : sy_da F' (.inr (.inl 86)) = .inl (jm_upd (sy_ai F 39) (sy_i F 84).toNatClampNeg (sy_i F 85)) := hd_up (hs 0 _ rfl) b84 b85 a39
  have b82 := hd_b (F := F) (F' := F') (k := 82) (hF 82 (by decide))
  have hB' : iv_in F' iv_B0 := iv_in_eq hB (fun j hj => hF j (Nat.lt_of_lt_of_le hj (by decide +kernel)))
  have hk := k (sy_cm F' (hd_ov (iv_id 0 iv_B0) [(39, .inr (.inr (.inl 86)))] ++ [])) (fun j hj hn => (hd_keep hB' (Nat.lt_of_lt_of_le hj (by decide +kernel)) (by simp; omega)).trans (hF j (Nat.lt_of_lt_of_le hj (by decide)))) (hd_ga (a := .inr (.inl 86)) (by decide +kernel) t86)
  refine ⟨List.forall_mem_cons.mpr ⟨hd_pb b84 (by first | exact h0 | exact h0), fun _ h => absurd h List.not_mem_nil⟩, ?_⟩
  show Q (some (sy_dv F' (.inr (.inl 82)))) _
  rw [b82]
  exact hk
theorem k1wo_73 {Ls : Nat} {xs : Nat → Int32} {d : Nat} {Q : Option Value → jm_h → Prop} (hd : 4 ≤ d) (F : Nat → sy_d) (X1 X2 : List jm_c) (hB : iv_in F iv_B0)
    (a84 : 0 ≤ (sy_i F 84).toInt ∧ (sy_i F 84).toInt ≤ 400)
    (k0 : ∀ F1 : Nat → sy_d, iv_in F1 iv_B0 → (∀ j, j < 82 → j ∉ ([39] : List Nat) → F1 j = F j) → sy_ai F1 39 = jm_upd (sy_ai F 39) ((sy_i F 84).toInt).toNat (sy_i F 85) → sy_ai F1 40 = sy_ai F 40 → sy_al F1 41 = sy_al F 41 → Q (some (.int (sy_i F 82))) (sy_dh F1 X1 X2 (iv_H 1))) :
    hd_W Ls xs d jm_M60 Q (73, sy_dL F [none, none, none, none, none, some (.inr (.inl 82)), none, none], sy_dS F [.inr (.inl 85), .inr (.inl 84), .inl (.ref 32)], sy_dh F X1 X2 (iv_H 1), 0, 0) := by
  have w86 : jm_upd (sy_ai F 39) (sy_i F 84).toNatClampNeg (sy_i F 85) = jm_upd (sy_ai F 39) ((sy_i F 84).toInt).toNat (sy_i F 85) := by simp only [nz_c]
  exact k1wo_73_p0 hd F X1 X2 hB (by first | exact ⟨by omega, by omega⟩ | (simp only [nz_c]; exact ⟨by omega, by omega⟩)) (fun F1 g e39 => by rw [(rfl : sy_i F 82 = sy_i F 82)]; exact k0 F1 (nz_in0 hB [39] (fun j hj hn => g j hj (by simp only [List.mem_cons, List.not_mem_nil, or_false, not_or] at hn; omega)) (List.forall_mem_cons.mpr ⟨fun t ht => (Option.some.inj ht) ▸ (nz_hz2 e39), List.forall_mem_nil _⟩)) (fun j hj hn => g j hj (by simp only [List.mem_cons, List.not_mem_nil, or_false, not_or] at hn; omega)) ((zz_ai e39).trans w86) (nz_fa (g 40 (by decide) (by decide))) (nz_fl (g 41 (by decide) (by decide))))
theorem k1on_0_p0 {Ls : Nat} {xs : Nat → Int32} {d : Nat} {Q : Option Value → jm_h → Prop} (hd : 5 ≤ d) (F : Nat → sy_d) (X1 X2 : List jm_c) (hB : iv_in F iv_B0)
    (h0 : (sy_i F 83).toInt < (sy_i F 84).toInt)
    (h1 : 0 ≤ (sy_i F 83).toInt ∧ (sy_i F 83).toInt < 2000)
    (h2 : ((sy_ai F 2).getD (sy_i F 83).toNatClampNeg 0).toInt < 97)
    (h3 : 0 ≤ (sy_i F 83).toInt ∧ (sy_i F 83).toInt < 2000)
    (h4 : ((sy_ai F 2).getD (sy_i F 83).toNatClampNeg 0).toInt < 48)
    (h5 : 0 ≤ (sy_i F 83).toInt ∧ (sy_i F 83).toInt < 2000)
    (h6 : ((sy_ai F 2).getD (sy_i F 83).toNatClampNeg 0).toInt < 40)
    (h7 : 0 ≤ (sy_i F 82).toInt ∧ (sy_i F 82).toInt < 401)
    (k : ∀ F1 : Nat → sy_d, (∀ j, j < 82 → j ≠ 39 → F1 j = F j) → F1 39 = .inr (.inl (jm_upd (sy_ai F 39) (sy_i F 82).toNatClampNeg ((25 : Int32)))) → Q (some (.int ((sy_i F 83) + ((1 : Int32))))) (sy_dh F1 X1 X2 (iv_H 1))) :
    hd_W Ls xs d jm_M59 Q (0, sy_dL F [some (.inl (.ref 31)), some (.inr (.inl 82)), some (.inl (.ref 9)), some (.inr (.inl 83)), some (.inr (.inl 84))], sy_dS F [], sy_dh F X1 X2 (iv_H 1), 0, 0) := by
  refine hd_ret (s := 1) (nv := 85) (v := some (.inr (.inl 89))) (uh := hd_ov (iv_id 0 iv_B0) [(39, .inr (.inr (.inl 88)))]) (f := true) (sp := [31, 50]) (d0 := 4) (O := [true, true, true, true, true]) (T := [(30, [.inr (.inl 83)], [.inr (.inl 2)]), (30, [.inr (.inl 83)], [.inr (.inl 2)]), (30, [.inr (.inl 83)], [.inr (.inl 2)]), (40, [.inr (.inl 82), .inl (.int 25)], [.inr (.inl 39)]), (0, [.inr (.inl 83), .inl (.int 1)], [])]) (P := [(2, .inr (.inl 83), .inr (.inl 84)), (6, .inr (.inl 83), .inl (.ref 2000)), (2, .inr (.inl 85), .inl (.int 97)), (6, .inr (.inl 83), .inl (.ref 2000)), (2, .inr (.inl 86), .inl (.int 48)), (6, .inr (.inl 83), .inl (.ref 2000)), (2, .inr (.inl 87), .inl (.int 40)), (6, .inr (.inl 82), .inl (.ref 401))]) jm_ok59 (by decide +kernel) (by decide +kernel) hd F X1 X2 (fun F' hF hs => ?_)
  have b83 := hd_b (F := F) (F' := F') (k := 83) (hF 83 (by decide))
  have b84 := hd_b (F := F) (F' := F') (k := 84) (hF 84 (by decide))
  have a2 := hd_ba (F := F) (F' := F') (k := 2) (hF 2 (by decide))
  have t85 : sy_dv F' (.inr (.inl 85)) = .int ((sy_ai F 2).getD (sy_i F 83).toNatClampNeg 0) := hd_rd (hs 0 _ rfl) b83 a2
  have t86 : sy_dv F' (.inr (.inl 86)) = .int ((sy_ai F 2).getD (sy_i F 83).toNatClampNeg 0) := hd_rd (hs 1 _ rfl) b83 a2
  have t87 : sy_dv F' (.inr (.inl 87)) = .int ((sy_ai F 2).getD (sy_i F 83).toNatClampNeg 0) := hd_rd (hs 2 _ rfl) b83 a2
  have b82 := hd_b (F := F) (F' := F') (k := 82) (hF 82 (by decide))
  have a39 := hd_ba (F := F) (F' := F') (k := 39) (hF 39 (by decide))
  have t88 : sy_da F' (.inr (.inl 88)) = .inl (jm_upd (sy_ai F 39) (sy_i F 82).toNatClampNeg ((25 : Int32))) := hd_up (hs 3 _ rfl) b82 rfl a39
  have t89 : sy_dv F' (.inr (.inl 89)) = .int ((sy_i F 83) + ((1 : Int32))) := hd_o (hs 4 _ rfl) b83 rfl rfl
  have hB' : iv_in F' iv_B0 := iv_in_eq hB (fun j hj => hF j (Nat.lt_of_lt_of_le hj (by decide +kernel)))
  have hk := k (sy_cm F' (hd_ov (iv_id 0 iv_B0) [(39, .inr (.inr (.inl 88)))] ++ [])) (fun j hj hn => (hd_keep hB' (Nat.lt_of_lt_of_le hj (by decide +kernel)) (by simp; omega)).trans (hF j (Nat.lt_of_lt_of_le hj (by decide)))) (hd_ga (a := .inr (.inl 88)) (by decide +kernel) t88)
  refine ⟨List.forall_mem_cons.mpr ⟨hd_p2 b83 b84 h0, List.forall_mem_cons.mpr ⟨hd_pb b83 (by first | exact h1 | exact h1), List.forall_mem_cons.mpr ⟨hd_p2 t85 rfl (by have hc : ((97) : Int32).toInt = 97 := (by decide); omega), List.forall_mem_cons.mpr ⟨hd_pb b83 (by first | exact h3 | exact h3), List.forall_mem_cons.mpr ⟨hd_p2 t86 rfl (by have hc : ((48) : Int32).toInt = 48 := (by decide); omega), List.forall_mem_cons.mpr ⟨hd_pb b83 (by first | exact h5 | exact h5), List.forall_mem_cons.mpr ⟨hd_p2 t87 rfl (by have hc : ((40) : Int32).toInt = 40 := (by decide); omega), List.forall_mem_cons.mpr ⟨hd_pb b82 (by first | exact h7 | exact h7), fun _ h => absurd h List.not_mem_nil⟩⟩⟩⟩⟩⟩⟩⟩, ?_⟩
  show Q (some (sy_dv F' (.inr (.inl 89)))) _
  rw [t89]
  exact hk
theorem k1on_0_p1 {Ls : Nat} {xs : Nat → Int32} {d : Nat} {Q : Option Value → jm_h → Prop} (hd : 5 ≤ d) (F : Nat → sy_d) (X1 X2 : List jm_c) (hB : iv_in F iv_B0)
    (h0 : (sy_i F 83).toInt < (sy_i F 84).toInt)
    (h1 : 0 ≤ (sy_i F 83).toInt ∧ (sy_i F 83).toInt < 2000)
    (h2 : ((sy_ai F 2).getD (sy_i F 83).toNatClampNeg 0).toInt < 97)
    (h3 : 0 ≤ (sy_i F 83).toInt ∧ (sy_i F 83).toInt < 2000)
    (h4 : ((sy_ai F 2).getD (sy_i F 83).toNatClampNeg 0).toInt < 48)
    (h5 : 0 ≤ (sy_i F 83).toInt ∧ (sy_i F 83).toInt < 2000)
    (h6 : ((sy_ai F 2).getD (sy_i F 83).toNatClampNeg 0).toInt = 40)
    (h7 : 0 ≤ (sy_i F 83).toInt ∧ (sy_i F 83).toInt < 2000)
    (h8 : 0 ≤ (sy_i F 82).toInt ∧ (sy_i F 82).toInt < 401)
    (k : ∀ F1 : Nat → sy_d, (∀ j, j < 82 → j ≠ 39 → F1 j = F j) → F1 39 = .inr (.inl (jm_upd (sy_ai F 39) (sy_i F 82).toNatClampNeg ((sy_ai F 2).getD (sy_i F 83).toNatClampNeg 0))) → Q (some (.int ((sy_i F 83) + ((1 : Int32))))) (sy_dh F1 X1 X2 (iv_H 1))) :
    hd_W Ls xs d jm_M59 Q (0, sy_dL F [some (.inl (.ref 31)), some (.inr (.inl 82)), some (.inl (.ref 9)), some (.inr (.inl 83)), some (.inr (.inl 84))], sy_dS F [], sy_dh F X1 X2 (iv_H 1), 0, 0) := by
  refine hd_ret (s := 1) (nv := 85) (v := some (.inr (.inl 90))) (uh := hd_ov (iv_id 0 iv_B0) [(39, .inr (.inr (.inl 89)))]) (f := true) (sp := [31, 50]) (d0 := 4) (O := [true, true, true, false, true]) (T := [(30, [.inr (.inl 83)], [.inr (.inl 2)]), (30, [.inr (.inl 83)], [.inr (.inl 2)]), (30, [.inr (.inl 83)], [.inr (.inl 2)]), (30, [.inr (.inl 83)], [.inr (.inl 2)]), (40, [.inr (.inl 82), .inr (.inl 88)], [.inr (.inl 39)]), (0, [.inr (.inl 83), .inl (.int 1)], [])]) (P := [(2, .inr (.inl 83), .inr (.inl 84)), (6, .inr (.inl 83), .inl (.ref 2000)), (2, .inr (.inl 85), .inl (.int 97)), (6, .inr (.inl 83), .inl (.ref 2000)), (2, .inr (.inl 86), .inl (.int 48)), (6, .inr (.inl 83), .inl (.ref 2000)), (0, .inr (.inl 87), .inl (.int 40)), (6, .inr (.inl 83), .inl (.ref 2000)), (6, .inr (.inl 82), .inl (.ref 401))]) jm_ok59 (by decide +kernel) (by decide +kernel) hd F X1 X2 (fun F' hF hs => ?_)
  have b83 := hd_b (F := F) (F' := F') (k := 83) (hF 83 (by decide))
  have b84 := hd_b (F := F) (F' := F') (k := 84) (hF 84 (by decide))
  have a2 := hd_ba (F := F) (F' := F') (k := 2) (hF 2 (by decide))
  have t85 : sy_dv F' (.inr (.inl 85)) = .int ((sy_ai F 2).getD (sy_i F 83).toNatClampNeg 0) := hd_rd (hs 0 _ rfl) b83 a2
  have t86 : sy_dv F' (.inr (.inl 86)) = .int ((sy_ai F 2).getD (sy_i F 83).toNatClampNeg 0) := hd_rd (hs 1 _ rfl) b83 a2
  have t87 : sy_dv F' (.inr (.inl 87)) = .int ((sy_ai F 2).getD (sy_i F 83).toNatClampNeg 0) := hd_rd (hs 2 _ rfl) b83 a2
  have b82 := hd_b (F := F) (F' := F') (k := 82) (hF 82 (by decide))
  have t88 : sy_dv F' (.inr (.inl 88)) = .int ((sy_ai F 2).getD (sy_i F 83).toNatClampNeg 0) := hd_rd (hs 3 _ rfl) b83 a2
  have a39 := hd_ba (F := F) (F' := F') (k := 39) (hF 39 (by decide))
  have t89 : sy_da F' (.inr (.inl 89)) = .inl (jm_upd (sy_ai F 39) (sy_i F 82).toNatClampNeg ((sy_ai F 2).getD (sy_i F 83).toNatClampNeg 0)) := hd_up (hs 4 _ rfl) b82 t88 a39
  have t90 : sy_dv F' (.inr (.inl 90)) = .int ((sy_i F 83) + ((1 : Int32))) := hd_o (hs 5 _ rfl) b83 rfl rfl
  have hB' : iv_in F' iv_B0 := iv_in_eq hB (fun j hj => hF j (Nat.lt_of_lt_of_le hj (by decide +kernel)))
  have hk := k (sy_cm F' (hd_ov (iv_id 0 iv_B0) [(39, .inr (.inr (.inl 89)))] ++ [])) (fun j hj hn => (hd_keep hB' (Nat.lt_of_lt_of_le hj (by decide +kernel)) (by simp; omega)).trans (hF j (Nat.lt_of_lt_of_le hj (by decide)))) (hd_ga (a := .inr (.inl 89)) (by decide +kernel) t89)
  refine ⟨List.forall_mem_cons.mpr ⟨hd_p2 b83 b84 h0, List.forall_mem_cons.mpr ⟨hd_pb b83 (by first | exact h1 | exact h1), List.forall_mem_cons.mpr ⟨hd_p2 t85 rfl (by have hc : ((97) : Int32).toInt = 97 := (by decide); omega), List.forall_mem_cons.mpr ⟨hd_pb b83 (by first | exact h3 | exact h3), List.forall_mem_cons.mpr ⟨hd_p2 t86 rfl (by have hc : ((48) : Int32).toInt = 48 := (by decide); omega), List.forall_mem_cons.mpr ⟨hd_pb b83 (by first | exact h5 | exact h5), List.forall_mem_cons.mpr ⟨hd_p0 t87 rfl (by have hc : ((40) : Int32).toInt = 40 := (by decide); omega), List.forall_mem_cons.mpr ⟨hd_pb b83 (by first | exact h7 | exact h7), List.forall_mem_cons.mpr ⟨hd_pb b82 (by first | exact h8 | exact h8), fun _ h => absurd h List.not_mem_nil⟩⟩⟩⟩⟩⟩⟩⟩⟩, ?_⟩
  show Q (some (sy_dv F' (.inr (.inl 90)))) _
  rw [t90]
  exact hk
theorem k1on_0_p2 {Ls : Nat} {xs : Nat → Int32} {d : Nat} {Q : Option Value → jm_h → Prop} (hd : 5 ≤ d) (F : Nat → sy_d) (X1 X2 : List jm_c) (hB : iv_in F iv_B0)
    (h0 : (sy_i F 83).toInt < (sy_i F 84).toInt)
    (h1 : 0 ≤ (sy_i F 83).toInt ∧ (sy_i F 83).toInt < 2000)
    (h2 : ((sy_ai F 2).getD (sy_i F 83).toNatClampNeg 0).toInt < 97)
    (h3 : 0 ≤ (sy_i F 83).toInt ∧ (sy_i F 83).toInt < 2000)
    (h4 : ((sy_ai F 2).getD (sy_i F 83).toNatClampNeg 0).toInt < 48)
    (h5 : 0 ≤ (sy_i F 83).toInt ∧ (sy_i F 83).toInt < 2000)
    (h6 : ((sy_ai F 2).getD (sy_i F 83).toNatClampNeg 0).toInt = 41)
    (h7 : 0 ≤ (sy_i F 83).toInt ∧ (sy_i F 83).toInt < 2000)
    (h8 : 0 ≤ (sy_i F 82).toInt ∧ (sy_i F 82).toInt < 401)
    (k : ∀ F1 : Nat → sy_d, (∀ j, j < 82 → j ≠ 39 → F1 j = F j) → F1 39 = .inr (.inl (jm_upd (sy_ai F 39) (sy_i F 82).toNatClampNeg ((sy_ai F 2).getD (sy_i F 83).toNatClampNeg 0))) → Q (some (.int ((sy_i F 83) + ((1 : Int32))))) (sy_dh F1 X1 X2 (iv_H 1))) :
    hd_W Ls xs d jm_M59 Q (0, sy_dL F [some (.inl (.ref 31)), some (.inr (.inl 82)), some (.inl (.ref 9)), some (.inr (.inl 83)), some (.inr (.inl 84))], sy_dS F [], sy_dh F X1 X2 (iv_H 1), 0, 0) := by
  refine hd_ret (s := 1) (nv := 85) (v := some (.inr (.inl 90))) (uh := hd_ov (iv_id 0 iv_B0) [(39, .inr (.inr (.inl 89)))]) (f := true) (sp := [31, 50]) (d0 := 4) (O := [true, true, true, false, false, true]) (T := [(30, [.inr (.inl 83)], [.inr (.inl 2)]), (30, [.inr (.inl 83)], [.inr (.inl 2)]), (30, [.inr (.inl 83)], [.inr (.inl 2)]), (30, [.inr (.inl 83)], [.inr (.inl 2)]), (40, [.inr (.inl 82), .inr (.inl 88)], [.inr (.inl 39)]), (0, [.inr (.inl 83), .inl (.int 1)], [])]) (P := [(2, .inr (.inl 83), .inr (.inl 84)), (6, .inr (.inl 83), .inl (.ref 2000)), (2, .inr (.inl 85), .inl (.int 97)), (6, .inr (.inl 83), .inl (.ref 2000)), (2, .inr (.inl 86), .inl (.int 48)), (6, .inr (.inl 83), .inl (.ref 2000)), (0, .inr (.inl 87), .inl (.int 41)), (6, .inr (.inl 83), .inl (.ref 2000)), (6, .inr (.inl 82), .inl (.ref 401))]) jm_ok59 (by decide +kernel) (by decide +kernel) hd F X1 X2 (fun F' hF hs => ?_)
  have b83 := hd_b (F := F) (F' := F') (k := 83) (hF 83 (by decide))
  have b84 := hd_b (F := F) (F' := F') (k := 84) (hF 84 (by decide))
  have a2 := hd_ba (F := F) (F' := F') (k := 2) (hF 2 (by decide))
  have t85 : sy_dv F' (.inr (.inl 85)) = .int ((sy_ai F 2).getD (sy_i F 83).toNatClampNeg 0) := hd_rd (hs 0 _ rfl) b83 a2
  have t86 : sy_dv F' (.inr (.inl 86)) = .int ((sy_ai F 2).getD (sy_i F 83).toNatClampNeg 0) := hd_rd (hs 1 _ rfl) b83 a2
  have t87 : sy_dv F' (.inr (.inl 87)) = .int ((sy_ai F 2).getD (sy_i F 83).toNatClampNeg 0) := hd_rd (hs 2 _ rfl) b83 a2
  have b82 := hd_b (F := F) (F' := F') (k := 82) (hF 82 (by decide))
  have t88 : sy_dv F' (.inr (.inl 88)) = .int ((sy_ai F 2).getD (sy_i F 83).toNatClampNeg 0) := hd_rd (hs 3 _ rfl) b83 a2
  have a39 := hd_ba (F := F) (F' := F') (k := 39) (hF 39 (by decide))
  have t89 : sy_da F' (.inr (.inl 89)) = .inl (jm_upd (sy_ai F 39) (sy_i F 82).toNatClampNeg ((sy_ai F 2).getD (sy_i F 83).toNatClampNeg 0)) := hd_up (hs 4 _ rfl) b82 t88 a39
  have t90 : sy_dv F' (.inr (.inl 90)) = .int ((sy_i F 83) + ((1 : Int32))) := hd_o (hs 5 _ rfl) b83 rfl rfl
  have hB' : iv_in F' iv_B0 := iv_in_eq hB (fun j hj => hF j (Nat.lt_of_lt_of_le hj (by decide +kernel)))
  have hk := k (sy_cm F' (hd_ov (iv_id 0 iv_B0) [(39, .inr (.inr (.inl 89)))] ++ [])) (fun j hj hn => (hd_keep hB' (Nat.lt_of_lt_of_le hj (by decide +kernel)) (by simp; omega)).trans (hF j (Nat.lt_of_lt_of_le hj (by decide)))) (hd_ga (a := .inr (.inl 89)) (by decide +kernel) t89)
  refine ⟨List.forall_mem_cons.mpr ⟨hd_p2 b83 b84 h0, List.forall_mem_cons.mpr ⟨hd_pb b83 (by first | exact h1 | exact h1), List.forall_mem_cons.mpr ⟨hd_p2 t85 rfl (by have hc : ((97) : Int32).toInt = 97 := (by decide); omega), List.forall_mem_cons.mpr ⟨hd_pb b83 (by first | exact h3 | exact h3), List.forall_mem_cons.mpr ⟨hd_p2 t86 rfl (by have hc : ((48) : Int32).toInt = 48 := (by decide); omega), List.forall_mem_cons.mpr ⟨hd_pb b83 (by first | exact h5 | exact h5), List.forall_mem_cons.mpr ⟨hd_p0 t87 rfl (by have hc : ((41) : Int32).toInt = 41 := (by decide); omega), List.forall_mem_cons.mpr ⟨hd_pb b83 (by first | exact h7 | exact h7), List.forall_mem_cons.mpr ⟨hd_pb b82 (by first | exact h8 | exact h8), fun _ h => absurd h List.not_mem_nil⟩⟩⟩⟩⟩⟩⟩⟩⟩, ?_⟩
  show Q (some (sy_dv F' (.inr (.inl 90)))) _
  rw [t90]
  exact hk
theorem k1on_0_p3 {Ls : Nat} {xs : Nat → Int32} {d : Nat} {Q : Option Value → jm_h → Prop} (hd : 5 ≤ d) (F : Nat → sy_d) (X1 X2 : List jm_c) (hB : iv_in F iv_B0)
    (h0 : (sy_i F 83).toInt < (sy_i F 84).toInt)
    (h1 : 0 ≤ (sy_i F 83).toInt ∧ (sy_i F 83).toInt < 2000)
    (h2 : ((sy_ai F 2).getD (sy_i F 83).toNatClampNeg 0).toInt < 97)
    (h3 : 0 ≤ (sy_i F 83).toInt ∧ (sy_i F 83).toInt < 2000)
    (h4 : ((sy_ai F 2).getD (sy_i F 83).toNatClampNeg 0).toInt < 48)
    (h5 : 0 ≤ (sy_i F 83).toInt ∧ (sy_i F 83).toInt < 2000)
    (h6 : ((sy_ai F 2).getD (sy_i F 83).toNatClampNeg 0).toInt = 42)
    (h7 : 0 ≤ (sy_i F 83).toInt ∧ (sy_i F 83).toInt < 2000)
    (h8 : 0 ≤ (sy_i F 82).toInt ∧ (sy_i F 82).toInt < 401)
    (k : ∀ F1 : Nat → sy_d, (∀ j, j < 82 → j ≠ 39 → F1 j = F j) → F1 39 = .inr (.inl (jm_upd (sy_ai F 39) (sy_i F 82).toNatClampNeg ((sy_ai F 2).getD (sy_i F 83).toNatClampNeg 0))) → Q (some (.int ((sy_i F 83) + ((1 : Int32))))) (sy_dh F1 X1 X2 (iv_H 1))) :
    hd_W Ls xs d jm_M59 Q (0, sy_dL F [some (.inl (.ref 31)), some (.inr (.inl 82)), some (.inl (.ref 9)), some (.inr (.inl 83)), some (.inr (.inl 84))], sy_dS F [], sy_dh F X1 X2 (iv_H 1), 0, 0) := by
  refine hd_ret (s := 1) (nv := 85) (v := some (.inr (.inl 90))) (uh := hd_ov (iv_id 0 iv_B0) [(39, .inr (.inr (.inl 89)))]) (f := true) (sp := [31, 50]) (d0 := 4) (O := [true, true, true, false, false, false, true]) (T := [(30, [.inr (.inl 83)], [.inr (.inl 2)]), (30, [.inr (.inl 83)], [.inr (.inl 2)]), (30, [.inr (.inl 83)], [.inr (.inl 2)]), (30, [.inr (.inl 83)], [.inr (.inl 2)]), (40, [.inr (.inl 82), .inr (.inl 88)], [.inr (.inl 39)]), (0, [.inr (.inl 83), .inl (.int 1)], [])]) (P := [(2, .inr (.inl 83), .inr (.inl 84)), (6, .inr (.inl 83), .inl (.ref 2000)), (2, .inr (.inl 85), .inl (.int 97)), (6, .inr (.inl 83), .inl (.ref 2000)), (2, .inr (.inl 86), .inl (.int 48)), (6, .inr (.inl 83), .inl (.ref 2000)), (0, .inr (.inl 87), .inl (.int 42)), (6, .inr (.inl 83), .inl (.ref 2000)), (6, .inr (.inl 82), .inl (.ref 401))]) jm_ok59 (by decide +kernel) (by decide +kernel) hd F X1 X2 (fun F' hF hs => ?_)
  have b83 := hd_b (F := F) (F' := F') (k := 83) (hF 83 (by decide))
  have b84 := hd_b (F := F) (F' := F') (k := 84) (hF 84 (by decide))
  have a2 := hd_ba (F := F) (F' := F') (k := 2) (hF 2 (by decide))
  have t85 : sy_dv F' (.inr (.inl 85)) = .int ((sy_ai F 2).getD (sy_i F 83).toNatClampNeg 0) := hd_rd (hs 0 _ rfl) b83 a2
  have t86 : sy_dv F' (.inr (.inl 86)) = .int ((sy_ai F 2).getD (sy_i F 83).toNatClampNeg 0) := hd_rd (hs 1 _ rfl) b83 a2
  have t87 : sy_dv F' (.inr (.inl 87)) = .int ((sy_ai F 2).getD (sy_i F 83).toNatClampNeg 0) := hd_rd (hs 2 _ rfl) b83 a2
  have b82 := hd_b (F := F) (F' := F') (k := 82) (hF 82 (by decide))
  have t88 : sy_dv F' (.inr (.inl 88)) = .int ((sy_ai F 2).getD (sy_i F 83).toNatClampNeg 0) := hd_rd (hs 3 _ rfl) b83 a2
  have a39 := hd_ba (F := F) (F' := F') (k := 39) (hF 39 (by decide))
  have t89 : sy_da F' (.inr (.inl 89)) = .inl (jm_upd (sy_ai F 39) (sy_i F 82).toNatClampNeg ((sy_ai F 2).getD (sy_i F 83).toNatClampNeg 0)) := hd_up (hs 4 _ rfl) b82 t88 a39
  have t90 : sy_dv F' (.inr (.inl 90)) = .int ((sy_i F 83) + ((1 : Int32))) := hd_o (hs 5 _ rfl) b83 rfl rfl
  have hB' : iv_in F' iv_B0 := iv_in_eq hB (fun j hj => hF j (Nat.lt_of_lt_of_le hj (by decide +kernel)))
  have hk := k (sy_cm F' (hd_ov (iv_id 0 iv_B0) [(39, .inr (.inr (.inl 89)))] ++ [])) (fun j hj hn => (hd_keep hB' (Nat.lt_of_lt_of_le hj (by decide +kernel)) (by simp; omega)).trans (hF j (Nat.lt_of_lt_of_le hj (by decide)))) (hd_ga (a := .inr (.inl 89)) (by decide +kernel) t89)
  refine ⟨List.forall_mem_cons.mpr ⟨hd_p2 b83 b84 h0, List.forall_mem_cons.mpr ⟨hd_pb b83 (by first | exact h1 | exact h1), List.forall_mem_cons.mpr ⟨hd_p2 t85 rfl (by have hc : ((97) : Int32).toInt = 97 := (by decide); omega), List.forall_mem_cons.mpr ⟨hd_pb b83 (by first | exact h3 | exact h3), List.forall_mem_cons.mpr ⟨hd_p2 t86 rfl (by have hc : ((48) : Int32).toInt = 48 := (by decide); omega), List.forall_mem_cons.mpr ⟨hd_pb b83 (by first | exact h5 | exact h5), List.forall_mem_cons.mpr ⟨hd_p0 t87 rfl (by have hc : ((42) : Int32).toInt = 42 := (by decide); omega), List.forall_mem_cons.mpr ⟨hd_pb b83 (by first | exact h7 | exact h7), List.forall_mem_cons.mpr ⟨hd_pb b82 (by first | exact h8 | exact h8), fun _ h => absurd h List.not_mem_nil⟩⟩⟩⟩⟩⟩⟩⟩⟩, ?_⟩
  show Q (some (sy_dv F' (.inr (.inl 90)))) _
  rw [t90]
  exact hk
theorem k1on_0_p4 {Ls : Nat} {xs : Nat → Int32} {d : Nat} {Q : Option Value → jm_h → Prop} (hd : 5 ≤ d) (F : Nat → sy_d) (X1 X2 : List jm_c) (hB : iv_in F iv_B0)
    (h0 : (sy_i F 83).toInt < (sy_i F 84).toInt)
    (h1 : 0 ≤ (sy_i F 83).toInt ∧ (sy_i F 83).toInt < 2000)
    (h2 : ((sy_ai F 2).getD (sy_i F 83).toNatClampNeg 0).toInt < 97)
    (h3 : 0 ≤ (sy_i F 83).toInt ∧ (sy_i F 83).toInt < 2000)
    (h4 : ((sy_ai F 2).getD (sy_i F 83).toNatClampNeg 0).toInt < 48)
    (h5 : 0 ≤ (sy_i F 83).toInt ∧ (sy_i F 83).toInt < 2000)
    (h6 : ((sy_ai F 2).getD (sy_i F 83).toNatClampNeg 0).toInt = 43)
    (h7 : 0 ≤ (sy_i F 83).toInt ∧ (sy_i F 83).toInt < 2000)
    (h8 : 0 ≤ (sy_i F 82).toInt ∧ (sy_i F 82).toInt < 401)
    (k : ∀ F1 : Nat → sy_d, (∀ j, j < 82 → j ≠ 39 → F1 j = F j) → F1 39 = .inr (.inl (jm_upd (sy_ai F 39) (sy_i F 82).toNatClampNeg ((sy_ai F 2).getD (sy_i F 83).toNatClampNeg 0))) → Q (some (.int ((sy_i F 83) + ((1 : Int32))))) (sy_dh F1 X1 X2 (iv_H 1))) :
    hd_W Ls xs d jm_M59 Q (0, sy_dL F [some (.inl (.ref 31)), some (.inr (.inl 82)), some (.inl (.ref 9)), some (.inr (.inl 83)), some (.inr (.inl 84))], sy_dS F [], sy_dh F X1 X2 (iv_H 1), 0, 0) := by
  refine hd_ret (s := 1) (nv := 85) (v := some (.inr (.inl 90))) (uh := hd_ov (iv_id 0 iv_B0) [(39, .inr (.inr (.inl 89)))]) (f := true) (sp := [31, 50]) (d0 := 4) (O := [true, true, true, false, false, false, false, true]) (T := [(30, [.inr (.inl 83)], [.inr (.inl 2)]), (30, [.inr (.inl 83)], [.inr (.inl 2)]), (30, [.inr (.inl 83)], [.inr (.inl 2)]), (30, [.inr (.inl 83)], [.inr (.inl 2)]), (40, [.inr (.inl 82), .inr (.inl 88)], [.inr (.inl 39)]), (0, [.inr (.inl 83), .inl (.int 1)], [])]) (P := [(2, .inr (.inl 83), .inr (.inl 84)), (6, .inr (.inl 83), .inl (.ref 2000)), (2, .inr (.inl 85), .inl (.int 97)), (6, .inr (.inl 83), .inl (.ref 2000)), (2, .inr (.inl 86), .inl (.int 48)), (6, .inr (.inl 83), .inl (.ref 2000)), (0, .inr (.inl 87), .inl (.int 43)), (6, .inr (.inl 83), .inl (.ref 2000)), (6, .inr (.inl 82), .inl (.ref 401))]) jm_ok59 (by decide +kernel) (by decide +kernel) hd F X1 X2 (fun F' hF hs => ?_)
  have b83 := hd_b (F := F) (F' := F') (k := 83) (hF 83 (by decide))
  have b84 := hd_b (F := F) (F' := F') (k := 84) (hF 84 (by decide))
  have a2 := hd_ba (F := F) (F' := F') (k := 2) (hF 2 (by decide))
  have t85 : sy_dv F' (.inr (.inl 85)) = .int ((sy_ai F 2).getD (sy_i F 83).toNatClampNeg 0) := hd_rd (hs 0 _ rfl) b83 a2
  have t86 : sy_dv F' (.inr (.inl 86)) = .int ((sy_ai F 2).getD (sy_i F 83).toNatClampNeg 0) := hd_rd (hs 1 _ rfl) b83 a2
  have t87 : sy_dv F' (.inr (.inl 87)) = .int ((sy_ai F 2).getD (sy_i F 83).toNatClampNeg 0) := hd_rd (hs 2 _ rfl) b83 a2
  have b82 := hd_b (F := F) (F' := F') (k := 82) (hF 82 (by decide))
  have t88 : sy_dv F' (.inr (.inl 88)) = .int ((sy_ai F 2).getD (sy_i F 83).toNatClampNeg 0) := hd_rd (hs 3 _ rfl) b83 a2
  have a39 := hd_ba (F := F) (F' := F') (k := 39) (hF 39 (by decide))
  have t89 : sy_da F' (.inr (.inl 89)) = .inl (jm_upd (sy_ai F 39) (sy_i F 82).toNatClampNeg ((sy_ai F 2).getD (sy_i F 83).toNatClampNeg 0)) := hd_up (hs 4 _ rfl) b82 t88 a39
  have t90 : sy_dv F' (.inr (.inl 90)) = .int ((sy_i F 83) + ((1 : Int32))) := hd_o (hs 5 _ rfl) b83 rfl rfl
  have hB' : iv_in F' iv_B0 := iv_in_eq hB (fun j hj => hF j (Nat.lt_of_lt_of_le hj (by decide +kernel)))
  have hk := k (sy_cm F' (hd_ov (iv_id 0 iv_B0) [(39, .inr (.inr (.inl 89)))] ++ [])) (fun j hj hn => (hd_keep hB' (Nat.lt_of_lt_of_le hj (by decide +kernel)) (by simp; omega)).trans (hF j (Nat.lt_of_lt_of_le hj (by decide)))) (hd_ga (a := .inr (.inl 89)) (by decide +kernel) t89)
  refine ⟨List.forall_mem_cons.mpr ⟨hd_p2 b83 b84 h0, List.forall_mem_cons.mpr ⟨hd_pb b83 (by first | exact h1 | exact h1), List.forall_mem_cons.mpr ⟨hd_p2 t85 rfl (by have hc : ((97) : Int32).toInt = 97 := (by decide); omega), List.forall_mem_cons.mpr ⟨hd_pb b83 (by first | exact h3 | exact h3), List.forall_mem_cons.mpr ⟨hd_p2 t86 rfl (by have hc : ((48) : Int32).toInt = 48 := (by decide); omega), List.forall_mem_cons.mpr ⟨hd_pb b83 (by first | exact h5 | exact h5), List.forall_mem_cons.mpr ⟨hd_p0 t87 rfl (by have hc : ((43) : Int32).toInt = 43 := (by decide); omega), List.forall_mem_cons.mpr ⟨hd_pb b83 (by first | exact h7 | exact h7), List.forall_mem_cons.mpr ⟨hd_pb b82 (by first | exact h8 | exact h8), fun _ h => absurd h List.not_mem_nil⟩⟩⟩⟩⟩⟩⟩⟩⟩, ?_⟩
  show Q (some (sy_dv F' (.inr (.inl 90)))) _
  rw [t90]
  exact hk
theorem k1on_0_p5 {Ls : Nat} {xs : Nat → Int32} {d : Nat} {Q : Option Value → jm_h → Prop} (hd : 5 ≤ d) (F : Nat → sy_d) (X1 X2 : List jm_c) (hB : iv_in F iv_B0)
    (h0 : (sy_i F 83).toInt < (sy_i F 84).toInt)
    (h1 : 0 ≤ (sy_i F 83).toInt ∧ (sy_i F 83).toInt < 2000)
    (h2 : ((sy_ai F 2).getD (sy_i F 83).toNatClampNeg 0).toInt < 97)
    (h3 : 0 ≤ (sy_i F 83).toInt ∧ (sy_i F 83).toInt < 2000)
    (h4 : ((sy_ai F 2).getD (sy_i F 83).toNatClampNeg 0).toInt < 48)
    (h5 : 0 ≤ (sy_i F 83).toInt ∧ (sy_i F 83).toInt < 2000)
    (h6 : ((sy_ai F 2).getD (sy_i F 83).toNatClampNeg 0).toInt = 44)
    (h7 : 0 ≤ (sy_i F 82).toInt ∧ (sy_i F 82).toInt < 401)
    (k : ∀ F1 : Nat → sy_d, (∀ j, j < 82 → j ≠ 39 → F1 j = F j) → F1 39 = .inr (.inl (jm_upd (sy_ai F 39) (sy_i F 82).toNatClampNeg ((25 : Int32)))) → Q (some (.int ((sy_i F 83) + ((1 : Int32))))) (sy_dh F1 X1 X2 (iv_H 1))) :
    hd_W Ls xs d jm_M59 Q (0, sy_dL F [some (.inl (.ref 31)), some (.inr (.inl 82)), some (.inl (.ref 9)), some (.inr (.inl 83)), some (.inr (.inl 84))], sy_dS F [], sy_dh F X1 X2 (iv_H 1), 0, 0) := by
  refine hd_ret (s := 1) (nv := 85) (v := some (.inr (.inl 89))) (uh := hd_ov (iv_id 0 iv_B0) [(39, .inr (.inr (.inl 88)))]) (f := true) (sp := [31, 50]) (d0 := 4) (O := [true, true, true, false, false, false, false, false, true]) (T := [(30, [.inr (.inl 83)], [.inr (.inl 2)]), (30, [.inr (.inl 83)], [.inr (.inl 2)]), (30, [.inr (.inl 83)], [.inr (.inl 2)]), (40, [.inr (.inl 82), .inl (.int 25)], [.inr (.inl 39)]), (0, [.inr (.inl 83), .inl (.int 1)], [])]) (P := [(2, .inr (.inl 83), .inr (.inl 84)), (6, .inr (.inl 83), .inl (.ref 2000)), (2, .inr (.inl 85), .inl (.int 97)), (6, .inr (.inl 83), .inl (.ref 2000)), (2, .inr (.inl 86), .inl (.int 48)), (6, .inr (.inl 83), .inl (.ref 2000)), (0, .inr (.inl 87), .inl (.int 44)), (6, .inr (.inl 82), .inl (.ref 401))]) jm_ok59 (by decide +kernel) (by decide +kernel) hd F X1 X2 (fun F' hF hs => ?_)
  have b83 := hd_b (F := F) (F' := F') (k := 83) (hF 83 (by decide))
  have b84 := hd_b (F := F) (F' := F') (k := 84) (hF 84 (by decide))
  have a2 := hd_ba (F := F) (F' := F') (k := 2) (hF 2 (by decide))
  have t85 : sy_dv F' (.inr (.inl 85)) = .int ((sy_ai F 2).getD (sy_i F 83).toNatClampNeg 0) := hd_rd (hs 0 _ rfl) b83 a2
  have t86 : sy_dv F' (.inr (.inl 86)) = .int ((sy_ai F 2).getD (sy_i F 83).toNatClampNeg 0) := hd_rd (hs 1 _ rfl) b83 a2
  have t87 : sy_dv F' (.inr (.inl 87)) = .int ((sy_ai F 2).getD (sy_i F 83).toNatClampNeg 0) := hd_rd (hs 2 _ rfl) b83 a2
  have b82 := hd_b (F := F) (F' := F') (k := 82) (hF 82 (by decide))
  have a39 := hd_ba (F := F) (F' := F') (k := 39) (hF 39 (by decide))
  have t88 : sy_da F' (.inr (.inl 88)) = .inl (jm_upd (sy_ai F 39) (sy_i F 82).toNatClampNeg ((25 : Int32))) := hd_up (hs 3 _ rfl) b82 rfl a39
  have t89 : sy_dv F' (.inr (.inl 89)) = .int ((sy_i F 83) + ((1 : Int32))) := hd_o (hs 4 _ rfl) b83 rfl rfl
  have hB' : iv_in F' iv_B0 := iv_in_eq hB (fun j hj => hF j (Nat.lt_of_lt_of_le hj (by decide +kernel)))
  have hk := k (sy_cm F' (hd_ov (iv_id 0 iv_B0) [(39, .inr (.inr (.inl 88)))] ++ [])) (fun j hj hn => (hd_keep hB' (Nat.lt_of_lt_of_le hj (by decide +kernel)) (by simp; omega)).trans (hF j (Nat.lt_of_lt_of_le hj (by decide)))) (hd_ga (a := .inr (.inl 88)) (by decide +kernel) t88)
  refine ⟨List.forall_mem_cons.mpr ⟨hd_p2 b83 b84 h0, List.forall_mem_cons.mpr ⟨hd_pb b83 (by first | exact h1 | exact h1), List.forall_mem_cons.mpr ⟨hd_p2 t85 rfl (by have hc : ((97) : Int32).toInt = 97 := (by decide); omega), List.forall_mem_cons.mpr ⟨hd_pb b83 (by first | exact h3 | exact h3), List.forall_mem_cons.mpr ⟨hd_p2 t86 rfl (by have hc : ((48) : Int32).toInt = 48 := (by decide); omega), List.forall_mem_cons.mpr ⟨hd_pb b83 (by first | exact h5 | exact h5), List.forall_mem_cons.mpr ⟨hd_p0 t87 rfl (by have hc : ((44) : Int32).toInt = 44 := (by decide); omega), List.forall_mem_cons.mpr ⟨hd_pb b82 (by first | exact h7 | exact h7), fun _ h => absurd h List.not_mem_nil⟩⟩⟩⟩⟩⟩⟩⟩, ?_⟩
  show Q (some (sy_dv F' (.inr (.inl 89)))) _
  rw [t89]
  exact hk
theorem k1on_0_p6 {Ls : Nat} {xs : Nat → Int32} {d : Nat} {Q : Option Value → jm_h → Prop} (hd : 5 ≤ d) (F : Nat → sy_d) (X1 X2 : List jm_c) (hB : iv_in F iv_B0)
    (h0 : (sy_i F 83).toInt < (sy_i F 84).toInt)
    (h1 : 0 ≤ (sy_i F 83).toInt ∧ (sy_i F 83).toInt < 2000)
    (h2 : ((sy_ai F 2).getD (sy_i F 83).toNatClampNeg 0).toInt < 97)
    (h3 : 0 ≤ (sy_i F 83).toInt ∧ (sy_i F 83).toInt < 2000)
    (h4 : ((sy_ai F 2).getD (sy_i F 83).toNatClampNeg 0).toInt < 48)
    (h5 : 0 ≤ (sy_i F 83).toInt ∧ (sy_i F 83).toInt < 2000)
    (h6 : ((sy_ai F 2).getD (sy_i F 83).toNatClampNeg 0).toInt = 45)
    (h7 : 0 ≤ (sy_i F 83).toInt ∧ (sy_i F 83).toInt < 2000)
    (h8 : 0 ≤ (sy_i F 82).toInt ∧ (sy_i F 82).toInt < 401)
    (k : ∀ F1 : Nat → sy_d, (∀ j, j < 82 → j ≠ 39 → F1 j = F j) → F1 39 = .inr (.inl (jm_upd (sy_ai F 39) (sy_i F 82).toNatClampNeg ((sy_ai F 2).getD (sy_i F 83).toNatClampNeg 0))) → Q (some (.int ((sy_i F 83) + ((1 : Int32))))) (sy_dh F1 X1 X2 (iv_H 1))) :
    hd_W Ls xs d jm_M59 Q (0, sy_dL F [some (.inl (.ref 31)), some (.inr (.inl 82)), some (.inl (.ref 9)), some (.inr (.inl 83)), some (.inr (.inl 84))], sy_dS F [], sy_dh F X1 X2 (iv_H 1), 0, 0) := by
  refine hd_ret (s := 1) (nv := 85) (v := some (.inr (.inl 90))) (uh := hd_ov (iv_id 0 iv_B0) [(39, .inr (.inr (.inl 89)))]) (f := true) (sp := [31, 50]) (d0 := 4) (O := [true, true, true, false, false, false, false, false, false, true]) (T := [(30, [.inr (.inl 83)], [.inr (.inl 2)]), (30, [.inr (.inl 83)], [.inr (.inl 2)]), (30, [.inr (.inl 83)], [.inr (.inl 2)]), (30, [.inr (.inl 83)], [.inr (.inl 2)]), (40, [.inr (.inl 82), .inr (.inl 88)], [.inr (.inl 39)]), (0, [.inr (.inl 83), .inl (.int 1)], [])]) (P := [(2, .inr (.inl 83), .inr (.inl 84)), (6, .inr (.inl 83), .inl (.ref 2000)), (2, .inr (.inl 85), .inl (.int 97)), (6, .inr (.inl 83), .inl (.ref 2000)), (2, .inr (.inl 86), .inl (.int 48)), (6, .inr (.inl 83), .inl (.ref 2000)), (0, .inr (.inl 87), .inl (.int 45)), (6, .inr (.inl 83), .inl (.ref 2000)), (6, .inr (.inl 82), .inl (.ref 401))]) jm_ok59 (by decide +kernel) (by decide +kernel) hd F X1 X2 (fun F' hF hs => ?_)
  have b83 := hd_b (F := F) (F' := F') (k := 83) (hF 83 (by decide))
  have b84 := hd_b (F := F) (F' := F') (k := 84) (hF 84 (by decide))
  have a2 := hd_ba (F := F) (F' := F') (k := 2) (hF 2 (by decide))
  have t85 : sy_dv F' (.inr (.inl 85)) = .int ((sy_ai F 2).getD (sy_i F 83).toNatClampNeg 0) := hd_rd (hs 0 _ rfl) b83 a2
  have t86 : sy_dv F' (.inr (.inl 86)) = .int ((sy_ai F 2).getD (sy_i F 83).toNatClampNeg 0) := hd_rd (hs 1 _ rfl) b83 a2
  have t87 : sy_dv F' (.inr (.inl 87)) = .int ((sy_ai F 2).getD (sy_i F 83).toNatClampNeg 0) := hd_rd (hs 2 _ rfl) b83 a2
  have b82 := hd_b (F := F) (F' := F') (k := 82) (hF 82 (by decide))
  have t88 : sy_dv F' (.inr (.inl 88)) = .int ((sy_ai F 2).getD (sy_i F 83).toNatClampNeg 0) := hd_rd (hs 3 _ rfl) b83 a2
  have a39 := hd_ba (F := F) (F' := F') (k := 39) (hF 39 (by decide))
  have t89 : sy_da F' (.inr (.inl 89)) = .inl (jm_upd (sy_ai F 39) (sy_i F 82).toNatClampNeg ((sy_ai F 2).getD (sy_i F 83).toNatClampNeg 0)) := hd_up (hs 4 _ rfl) b82 t88 a39
  have t90 : sy_dv F' (.inr (.inl 90)) = .int ((sy_i F 83) + ((1 : Int32))) := hd_o (hs 5 _ rfl) b83 rfl rfl
  have hB' : iv_in F' iv_B0 := iv_in_eq hB (fun j hj => hF j (Nat.lt_of_lt_of_le hj (by decide +kernel)))
  have hk := k (sy_cm F' (hd_ov (iv_id 0 iv_B0) [(39, .inr (.inr (.inl 89)))] ++ [])) (fun j hj hn => (hd_keep hB' (Nat.lt_of_lt_of_le hj (by decide +kernel)) (by simp; omega)).trans (hF j (Nat.lt_of_lt_of_le hj (by decide)))) (hd_ga (a := .inr (.inl 89)) (by decide +kernel) t89)
  refine ⟨List.forall_mem_cons.mpr ⟨hd_p2 b83 b84 h0, List.forall_mem_cons.mpr ⟨hd_pb b83 (by first | exact h1 | exact h1), List.forall_mem_cons.mpr ⟨hd_p2 t85 rfl (by have hc : ((97) : Int32).toInt = 97 := (by decide); omega), List.forall_mem_cons.mpr ⟨hd_pb b83 (by first | exact h3 | exact h3), List.forall_mem_cons.mpr ⟨hd_p2 t86 rfl (by have hc : ((48) : Int32).toInt = 48 := (by decide); omega), List.forall_mem_cons.mpr ⟨hd_pb b83 (by first | exact h5 | exact h5), List.forall_mem_cons.mpr ⟨hd_p0 t87 rfl (by have hc : ((45) : Int32).toInt = 45 := (by decide); omega), List.forall_mem_cons.mpr ⟨hd_pb b83 (by first | exact h7 | exact h7), List.forall_mem_cons.mpr ⟨hd_pb b82 (by first | exact h8 | exact h8), fun _ h => absurd h List.not_mem_nil⟩⟩⟩⟩⟩⟩⟩⟩⟩, ?_⟩
  show Q (some (sy_dv F' (.inr (.inl 90)))) _
  rw [t90]
  exact hk
theorem k1on_0_p7 {Ls : Nat} {xs : Nat → Int32} {d : Nat} {Q : Option Value → jm_h → Prop} (hd : 5 ≤ d) (F : Nat → sy_d) (X1 X2 : List jm_c) (hB : iv_in F iv_B0)
    (h0 : (sy_i F 83).toInt < (sy_i F 84).toInt)
    (h1 : 0 ≤ (sy_i F 83).toInt ∧ (sy_i F 83).toInt < 2000)
    (h2 : ((sy_ai F 2).getD (sy_i F 83).toNatClampNeg 0).toInt < 97)
    (h3 : 0 ≤ (sy_i F 83).toInt ∧ (sy_i F 83).toInt < 2000)
    (h4 : ((sy_ai F 2).getD (sy_i F 83).toNatClampNeg 0).toInt < 48)
    (h5 : 0 ≤ (sy_i F 83).toInt ∧ (sy_i F 83).toInt < 2000)
    (h6 : ((sy_ai F 2).getD (sy_i F 83).toNatClampNeg 0).toInt = 46)
    (h7 : 0 ≤ (sy_i F 82).toInt ∧ (sy_i F 82).toInt < 401)
    (k : ∀ F1 : Nat → sy_d, (∀ j, j < 82 → j ≠ 39 → F1 j = F j) → F1 39 = .inr (.inl (jm_upd (sy_ai F 39) (sy_i F 82).toNatClampNeg ((25 : Int32)))) → Q (some (.int ((sy_i F 83) + ((1 : Int32))))) (sy_dh F1 X1 X2 (iv_H 1))) :
    hd_W Ls xs d jm_M59 Q (0, sy_dL F [some (.inl (.ref 31)), some (.inr (.inl 82)), some (.inl (.ref 9)), some (.inr (.inl 83)), some (.inr (.inl 84))], sy_dS F [], sy_dh F X1 X2 (iv_H 1), 0, 0) := by
  refine hd_ret (s := 1) (nv := 85) (v := some (.inr (.inl 89))) (uh := hd_ov (iv_id 0 iv_B0) [(39, .inr (.inr (.inl 88)))]) (f := true) (sp := [31, 50]) (d0 := 4) (O := [true, true, true, false, false, false, false, false, false, false, true]) (T := [(30, [.inr (.inl 83)], [.inr (.inl 2)]), (30, [.inr (.inl 83)], [.inr (.inl 2)]), (30, [.inr (.inl 83)], [.inr (.inl 2)]), (40, [.inr (.inl 82), .inl (.int 25)], [.inr (.inl 39)]), (0, [.inr (.inl 83), .inl (.int 1)], [])]) (P := [(2, .inr (.inl 83), .inr (.inl 84)), (6, .inr (.inl 83), .inl (.ref 2000)), (2, .inr (.inl 85), .inl (.int 97)), (6, .inr (.inl 83), .inl (.ref 2000)), (2, .inr (.inl 86), .inl (.int 48)), (6, .inr (.inl 83), .inl (.ref 2000)), (0, .inr (.inl 87), .inl (.int 46)), (6, .inr (.inl 82), .inl (.ref 401))]) jm_ok59 (by decide +kernel) (by decide +kernel) hd F X1 X2 (fun F' hF hs => ?_)
  have b83 := hd_b (F := F) (F' := F') (k := 83) (hF 83 (by decide))
  have b84 := hd_b (F := F) (F' := F') (k := 84) (hF 84 (by decide))
  have a2 := hd_ba (F := F) (F' := F') (k := 2) (hF 2 (by decide))
  have t85 : sy_dv F' (.inr (.inl 85)) = .int ((sy_ai F 2).getD (sy_i F 83).toNatClampNeg 0) := hd_rd (hs 0 _ rfl) b83 a2
  have t86 : sy_dv F' (.inr (.inl 86)) = .int ((sy_ai F 2).getD (sy_i F 83).toNatClampNeg 0) := hd_rd (hs 1 _ rfl) b83 a2
  have t87 : sy_dv F' (.inr (.inl 87)) = .int ((sy_ai F 2).getD (sy_i F 83).toNatClampNeg 0) := hd_rd (hs 2 _ rfl) b83 a2
  have b82 := hd_b (F := F) (F' := F') (k := 82) (hF 82 (by decide))
  have a39 := hd_ba (F := F) (F' := F') (k := 39) (hF 39 (by decide))
  have t88 : sy_da F' (.inr (.inl 88)) = .inl (jm_upd (sy_ai F 39) (sy_i F 82).toNatClampNeg ((25 : Int32))) := hd_up (hs 3 _ rfl) b82 rfl a39
  have t89 : sy_dv F' (.inr (.inl 89)) = .int ((sy_i F 83) + ((1 : Int32))) := hd_o (hs 4 _ rfl) b83 rfl rfl
  have hB' : iv_in F' iv_B0 := iv_in_eq hB (fun j hj => hF j (Nat.lt_of_lt_of_le hj (by decide +kernel)))
  have hk := k (sy_cm F' (hd_ov (iv_id 0 iv_B0) [(39, .inr (.inr (.inl 88)))] ++ [])) (fun j hj hn => (hd_keep hB' (Nat.lt_of_lt_of_le hj (by decide +kernel)) (by simp; omega)).trans (hF j (Nat.lt_of_lt_of_le hj (by decide)))) (hd_ga (a := .inr (.inl 88)) (by decide +kernel) t88)
  refine ⟨List.forall_mem_cons.mpr ⟨hd_p2 b83 b84 h0, List.forall_mem_cons.mpr ⟨hd_pb b83 (by first | exact h1 | exact h1), List.forall_mem_cons.mpr ⟨hd_p2 t85 rfl (by have hc : ((97) : Int32).toInt = 97 := (by decide); omega), List.forall_mem_cons.mpr ⟨hd_pb b83 (by first | exact h3 | exact h3), List.forall_mem_cons.mpr ⟨hd_p2 t86 rfl (by have hc : ((48) : Int32).toInt = 48 := (by decide); omega), List.forall_mem_cons.mpr ⟨hd_pb b83 (by first | exact h5 | exact h5), List.forall_mem_cons.mpr ⟨hd_p0 t87 rfl (by have hc : ((46) : Int32).toInt = 46 := (by decide); omega), List.forall_mem_cons.mpr ⟨hd_pb b82 (by first | exact h7 | exact h7), fun _ h => absurd h List.not_mem_nil⟩⟩⟩⟩⟩⟩⟩⟩, ?_⟩
  show Q (some (sy_dv F' (.inr (.inl 89)))) _
  rw [t89]
  exact hk
theorem k1on_0_p8 {Ls : Nat} {xs : Nat → Int32} {d : Nat} {Q : Option Value → jm_h → Prop} (hd : 5 ≤ d) (F : Nat → sy_d) (X1 X2 : List jm_c) (hB : iv_in F iv_B0)
    (h0 : (sy_i F 83).toInt < (sy_i F 84).toInt)
    (h1 : 0 ≤ (sy_i F 83).toInt ∧ (sy_i F 83).toInt < 2000)
    (h2 : ((sy_ai F 2).getD (sy_i F 83).toNatClampNeg 0).toInt < 97)
    (h3 : 0 ≤ (sy_i F 83).toInt ∧ (sy_i F 83).toInt < 2000)
    (h4 : ((sy_ai F 2).getD (sy_i F 83).toNatClampNeg 0).toInt < 48)
    (h5 : 0 ≤ (sy_i F 83).toInt ∧ (sy_i F 83).toInt < 2000)
    (h6 : ((sy_ai F 2).getD (sy_i F 83).toNatClampNeg 0).toInt = 47)
    (h7 : 0 ≤ (sy_i F 83).toInt ∧ (sy_i F 83).toInt < 2000)
    (h8 : 0 ≤ (sy_i F 82).toInt ∧ (sy_i F 82).toInt < 401)
    (k : ∀ F1 : Nat → sy_d, (∀ j, j < 82 → j ≠ 39 → F1 j = F j) → F1 39 = .inr (.inl (jm_upd (sy_ai F 39) (sy_i F 82).toNatClampNeg ((sy_ai F 2).getD (sy_i F 83).toNatClampNeg 0))) → Q (some (.int ((sy_i F 83) + ((1 : Int32))))) (sy_dh F1 X1 X2 (iv_H 1))) :
    hd_W Ls xs d jm_M59 Q (0, sy_dL F [some (.inl (.ref 31)), some (.inr (.inl 82)), some (.inl (.ref 9)), some (.inr (.inl 83)), some (.inr (.inl 84))], sy_dS F [], sy_dh F X1 X2 (iv_H 1), 0, 0) := by
  refine hd_ret (s := 1) (nv := 85) (v := some (.inr (.inl 90))) (uh := hd_ov (iv_id 0 iv_B0) [(39, .inr (.inr (.inl 89)))]) (f := true) (sp := [31, 50]) (d0 := 4) (O := [true, true, true, false, false, false, false, false, false, false, false, true]) (T := [(30, [.inr (.inl 83)], [.inr (.inl 2)]), (30, [.inr (.inl 83)], [.inr (.inl 2)]), (30, [.inr (.inl 83)], [.inr (.inl 2)]), (30, [.inr (.inl 83)], [.inr (.inl 2)]), (40, [.inr (.inl 82), .inr (.inl 88)], [.inr (.inl 39)]), (0, [.inr (.inl 83), .inl (.int 1)], [])]) (P := [(2, .inr (.inl 83), .inr (.inl 84)), (6, .inr (.inl 83), .inl (.ref 2000)), (2, .inr (.inl 85), .inl (.int 97)), (6, .inr (.inl 83), .inl (.ref 2000)), (2, .inr (.inl 86), .inl (.int 48)), (6, .inr (.inl 83), .inl (.ref 2000)), (0, .inr (.inl 87), .inl (.int 47)), (6, .inr (.inl 83), .inl (.ref 2000)), (6, .inr (.inl 82), .inl (.ref 401))]) jm_ok59 (by decide +kernel) (by decide +kernel) hd F X1 X2 (fun F' hF hs => ?_)
  have b83 := hd_b (F := F) (F' := F') (k := 83) (hF 83 (by decide))
  have b84 := hd_b (F := F) (F' := F') (k := 84) (hF 84 (by decide))
  have a2 := hd_ba (F := F) (F' := F') (k := 2) (hF 2 (by decide))
  have t85 : sy_dv F' (.inr (.inl 85)) = .int ((sy_ai F 2).getD (sy_i F 83).toNatClampNeg 0) := hd_rd (hs 0 _ rfl) b83 a2
  have t86 : sy_dv F' (.inr (.inl 86)) = .int ((sy_ai F 2).getD (sy_i F 83).toNatClampNeg 0) := hd_rd (hs 1 _ rfl) b83 a2
  have t87 : sy_dv F' (.inr (.inl 87)) = .int ((sy_ai F 2).getD (sy_i F 83).toNatClampNeg 0) := hd_rd (hs 2 _ rfl) b83 a2
  have b82 := hd_b (F := F) (F' := F') (k := 82) (hF 82 (by decide))
  have t88 : sy_dv F' (.inr (.inl 88)) = .int ((sy_ai F 2).getD (sy_i F 83).toNatClampNeg 0) := hd_rd (hs 3 _ rfl) b83 a2
  have a39 := hd_ba (F := F) (F' := F') (k := 39) (hF 39 (by decide))
  have t89 : sy_da F' (.inr (.inl 89)) = .inl (jm_upd (sy_ai F 39) (sy_i F 82).toNatClampNeg ((sy_ai F 2).getD (sy_i F 83).toNatClampNeg 0)) := hd_up (hs 4 _ rfl) b82 t88 a39
  have t90 : sy_dv F' (.inr (.inl 90)) = .int ((sy_i F 83) + ((1 : Int32))) := hd_o (hs 5 _ rfl) b83 rfl rfl
  have hB' : iv_in F' iv_B0 := iv_in_eq hB (fun j hj => hF j (Nat.lt_of_lt_of_le hj (by decide +kernel)))
  have hk := k (sy_cm F' (hd_ov (iv_id 0 iv_B0) [(39, .inr (.inr (.inl 89)))] ++ [])) (fun j hj hn => (hd_keep hB' (Nat.lt_of_lt_of_le hj (by decide +kernel)) (by simp; omega)).trans (hF j (Nat.lt_of_lt_of_le hj (by decide)))) (hd_ga (a := .inr (.inl 89)) (by decide +kernel) t89)
  refine ⟨List.forall_mem_cons.mpr ⟨hd_p2 b83 b84 h0, List.forall_mem_cons.mpr ⟨hd_pb b83 (by first | exact h1 | exact h1), List.forall_mem_cons.mpr ⟨hd_p2 t85 rfl (by have hc : ((97) : Int32).toInt = 97 := (by decide); omega), List.forall_mem_cons.mpr ⟨hd_pb b83 (by first | exact h3 | exact h3), List.forall_mem_cons.mpr ⟨hd_p2 t86 rfl (by have hc : ((48) : Int32).toInt = 48 := (by decide); omega), List.forall_mem_cons.mpr ⟨hd_pb b83 (by first | exact h5 | exact h5), List.forall_mem_cons.mpr ⟨hd_p0 t87 rfl (by have hc : ((47) : Int32).toInt = 47 := (by decide); omega), List.forall_mem_cons.mpr ⟨hd_pb b83 (by first | exact h7 | exact h7), List.forall_mem_cons.mpr ⟨hd_pb b82 (by first | exact h8 | exact h8), fun _ h => absurd h List.not_mem_nil⟩⟩⟩⟩⟩⟩⟩⟩⟩, ?_⟩
  show Q (some (sy_dv F' (.inr (.inl 90)))) _
  rw [t90]
  exact hk
theorem k1on_0_p9 {Ls : Nat} {xs : Nat → Int32} {d : Nat} {Q : Option Value → jm_h → Prop} (hd : 5 ≤ d) (F : Nat → sy_d) (X1 X2 : List jm_c) (hB : iv_in F iv_B0)
    (h0 : (sy_i F 83).toInt < (sy_i F 84).toInt)
    (h1 : 0 ≤ (sy_i F 83).toInt ∧ (sy_i F 83).toInt < 2000)
    (h2 : ((sy_ai F 2).getD (sy_i F 83).toNatClampNeg 0).toInt < 97)
    (h3 : 0 ≤ (sy_i F 83).toInt ∧ (sy_i F 83).toInt < 2000)
    (h4 : 48 ≤ ((sy_ai F 2).getD (sy_i F 83).toNatClampNeg 0).toInt)
    (h5 : 57 < ((sy_ai F 2).getD (sy_i F 83).toNatClampNeg 0).toInt)
    (h6 : 0 ≤ (sy_i F 83).toInt ∧ (sy_i F 83).toInt < 2000)
    (h7 : 61 < ((sy_ai F 2).getD (sy_i F 83).toNatClampNeg 0).toInt)
    (h8 : 0 ≤ (sy_i F 82).toInt ∧ (sy_i F 82).toInt < 401)
    (k : ∀ F1 : Nat → sy_d, (∀ j, j < 82 → j ≠ 39 → F1 j = F j) → F1 39 = .inr (.inl (jm_upd (sy_ai F 39) (sy_i F 82).toNatClampNeg ((25 : Int32)))) → Q (some (.int ((sy_i F 83) + ((1 : Int32))))) (sy_dh F1 X1 X2 (iv_H 1))) :
    hd_W Ls xs d jm_M59 Q (0, sy_dL F [some (.inl (.ref 31)), some (.inr (.inl 82)), some (.inl (.ref 9)), some (.inr (.inl 83)), some (.inr (.inl 84))], sy_dS F [], sy_dh F X1 X2 (iv_H 1), 0, 0) := by
  refine hd_ret (s := 1) (nv := 85) (v := some (.inr (.inl 89))) (uh := hd_ov (iv_id 0 iv_B0) [(39, .inr (.inr (.inl 88)))]) (f := true) (sp := [31, 50]) (d0 := 4) (O := [true, true, false, true, true, false]) (T := [(30, [.inr (.inl 83)], [.inr (.inl 2)]), (30, [.inr (.inl 83)], [.inr (.inl 2)]), (30, [.inr (.inl 83)], [.inr (.inl 2)]), (40, [.inr (.inl 82), .inl (.int 25)], [.inr (.inl 39)]), (0, [.inr (.inl 83), .inl (.int 1)], [])]) (P := [(2, .inr (.inl 83), .inr (.inl 84)), (6, .inr (.inl 83), .inl (.ref 2000)), (2, .inr (.inl 85), .inl (.int 97)), (6, .inr (.inl 83), .inl (.ref 2000)), (3, .inr (.inl 86), .inl (.int 48)), (2, .inl (.int 57), .inr (.inl 86)), (6, .inr (.inl 83), .inl (.ref 2000)), (2, .inl (.int 61), .inr (.inl 87)), (6, .inr (.inl 82), .inl (.ref 401))]) jm_ok59 (by decide +kernel) (by decide +kernel) hd F X1 X2 (fun F' hF hs => ?_)
  have b83 := hd_b (F := F) (F' := F') (k := 83) (hF 83 (by decide))
  have b84 := hd_b (F := F) (F' := F') (k := 84) (hF 84 (by decide))
  have a2 := hd_ba (F := F) (F' := F') (k := 2) (hF 2 (by decide))
  have t85 : sy_dv F' (.inr (.inl 85)) = .int ((sy_ai F 2).getD (sy_i F 83).toNatClampNeg 0) := hd_rd (hs 0 _ rfl) b83 a2
  have t86 : sy_dv F' (.inr (.inl 86)) = .int ((sy_ai F 2).getD (sy_i F 83).toNatClampNeg 0) := hd_rd (hs 1 _ rfl) b83 a2
  have t87 : sy_dv F' (.inr (.inl 87)) = .int ((sy_ai F 2).getD (sy_i F 83).toNatClampNeg 0) := hd_rd (hs 2 _ rfl) b83 a2
  have b82 := hd_b (F := F) (F' := F') (k := 82) (hF 82 (by decide))
  have a39 := hd_ba (F := F) (F' := F') (k := 39) (hF 39 (by decide))
  have t88 : sy_da F' (.inr (.inl 88)) = .inl (jm_upd (sy_ai F 39) (sy_i F 82).toNatClampNeg ((25 : Int32))) := hd_up (hs 3 _ rfl) b82 rfl a39
  have t89 : sy_dv F' (.inr (.inl 89)) = .int ((sy_i F 83) + ((1 : Int32))) := hd_o (hs 4 _ rfl) b83 rfl rfl
  have hB' : iv_in F' iv_B0 := iv_in_eq hB (fun j hj => hF j (Nat.lt_of_lt_of_le hj (by decide +kernel)))
  have hk := k (sy_cm F' (hd_ov (iv_id 0 iv_B0) [(39, .inr (.inr (.inl 88)))] ++ [])) (fun j hj hn => (hd_keep hB' (Nat.lt_of_lt_of_le hj (by decide +kernel)) (by simp; omega)).trans (hF j (Nat.lt_of_lt_of_le hj (by decide)))) (hd_ga (a := .inr (.inl 88)) (by decide +kernel) t88)
  refine ⟨List.forall_mem_cons.mpr ⟨hd_p2 b83 b84 h0, List.forall_mem_cons.mpr ⟨hd_pb b83 (by first | exact h1 | exact h1), List.forall_mem_cons.mpr ⟨hd_p2 t85 rfl (by have hc : ((97) : Int32).toInt = 97 := (by decide); omega), List.forall_mem_cons.mpr ⟨hd_pb b83 (by first | exact h3 | exact h3), List.forall_mem_cons.mpr ⟨hd_p3 t86 rfl (by have hc : ((48) : Int32).toInt = 48 := (by decide); omega), List.forall_mem_cons.mpr ⟨hd_p2 rfl t86 (by have hc : ((57) : Int32).toInt = 57 := (by decide); omega), List.forall_mem_cons.mpr ⟨hd_pb b83 (by first | exact h6 | exact h6), List.forall_mem_cons.mpr ⟨hd_p2 rfl t87 (by have hc : ((61) : Int32).toInt = 61 := (by decide); omega), List.forall_mem_cons.mpr ⟨hd_pb b82 (by first | exact h8 | exact h8), fun _ h => absurd h List.not_mem_nil⟩⟩⟩⟩⟩⟩⟩⟩⟩, ?_⟩
  show Q (some (sy_dv F' (.inr (.inl 89)))) _
  rw [t89]
  exact hk
theorem k1on_0_p10 {Ls : Nat} {xs : Nat → Int32} {d : Nat} {Q : Option Value → jm_h → Prop} (hd : 5 ≤ d) (F : Nat → sy_d) (X1 X2 : List jm_c) (hB : iv_in F iv_B0)
    (h0 : (sy_i F 83).toInt < (sy_i F 84).toInt)
    (h1 : 0 ≤ (sy_i F 83).toInt ∧ (sy_i F 83).toInt < 2000)
    (h2 : ((sy_ai F 2).getD (sy_i F 83).toNatClampNeg 0).toInt < 97)
    (h3 : 0 ≤ (sy_i F 83).toInt ∧ (sy_i F 83).toInt < 2000)
    (h4 : 48 ≤ ((sy_ai F 2).getD (sy_i F 83).toNatClampNeg 0).toInt)
    (h5 : 57 < ((sy_ai F 2).getD (sy_i F 83).toNatClampNeg 0).toInt)
    (h6 : 0 ≤ (sy_i F 83).toInt ∧ (sy_i F 83).toInt < 2000)
    (h7 : ((sy_ai F 2).getD (sy_i F 83).toNatClampNeg 0).toInt = 58)
    (h8 : 0 ≤ (sy_i F 82).toInt ∧ (sy_i F 82).toInt < 401)
    (k : ∀ F1 : Nat → sy_d, (∀ j, j < 82 → j ≠ 39 → F1 j = F j) → F1 39 = .inr (.inl (jm_upd (sy_ai F 39) (sy_i F 82).toNatClampNeg ((25 : Int32)))) → Q (some (.int ((sy_i F 83) + ((1 : Int32))))) (sy_dh F1 X1 X2 (iv_H 1))) :
    hd_W Ls xs d jm_M59 Q (0, sy_dL F [some (.inl (.ref 31)), some (.inr (.inl 82)), some (.inl (.ref 9)), some (.inr (.inl 83)), some (.inr (.inl 84))], sy_dS F [], sy_dh F X1 X2 (iv_H 1), 0, 0) := by
  refine hd_ret (s := 1) (nv := 85) (v := some (.inr (.inl 89))) (uh := hd_ov (iv_id 0 iv_B0) [(39, .inr (.inr (.inl 88)))]) (f := true) (sp := [31, 50]) (d0 := 4) (O := [true, true, false, true, false, false, false, false, false, false, false, false, false, false, false, false, false, false, false, false, false, false, false, true]) (T := [(30, [.inr (.inl 83)], [.inr (.inl 2)]), (30, [.inr (.inl 83)], [.inr (.inl 2)]), (30, [.inr (.inl 83)], [.inr (.inl 2)]), (40, [.inr (.inl 82), .inl (.int 25)], [.inr (.inl 39)]), (0, [.inr (.inl 83), .inl (.int 1)], [])]) (P := [(2, .inr (.inl 83), .inr (.inl 84)), (6, .inr (.inl 83), .inl (.ref 2000)), (2, .inr (.inl 85), .inl (.int 97)), (6, .inr (.inl 83), .inl (.ref 2000)), (3, .inr (.inl 86), .inl (.int 48)), (2, .inl (.int 57), .inr (.inl 86)), (6, .inr (.inl 83), .inl (.ref 2000)), (0, .inr (.inl 87), .inl (.int 58)), (6, .inr (.inl 82), .inl (.ref 401))]) jm_ok59 (by decide +kernel) (by decide +kernel) hd F X1 X2 (fun F' hF hs => ?_)
  have b83 := hd_b (F := F) (F' := F') (k := 83) (hF 83 (by decide))
  have b84 := hd_b (F := F) (F' := F') (k := 84) (hF 84 (by decide))
  have a2 := hd_ba (F := F) (F' := F') (k := 2) (hF 2 (by decide))
  have t85 : sy_dv F' (.inr (.inl 85)) = .int ((sy_ai F 2).getD (sy_i F 83).toNatClampNeg 0) := hd_rd (hs 0 _ rfl) b83 a2
  have t86 : sy_dv F' (.inr (.inl 86)) = .int ((sy_ai F 2).getD (sy_i F 83).toNatClampNeg 0) := hd_rd (hs 1 _ rfl) b83 a2
  have t87 : sy_dv F' (.inr (.inl 87)) = .int ((sy_ai F 2).getD (sy_i F 83).toNatClampNeg 0) := hd_rd (hs 2 _ rfl) b83 a2
  have b82 := hd_b (F := F) (F' := F') (k := 82) (hF 82 (by decide))
  have a39 := hd_ba (F := F) (F' := F') (k := 39) (hF 39 (by decide))
  have t88 : sy_da F' (.inr (.inl 88)) = .inl (jm_upd (sy_ai F 39) (sy_i F 82).toNatClampNeg ((25 : Int32))) := hd_up (hs 3 _ rfl) b82 rfl a39
  have t89 : sy_dv F' (.inr (.inl 89)) = .int ((sy_i F 83) + ((1 : Int32))) := hd_o (hs 4 _ rfl) b83 rfl rfl
  have hB' : iv_in F' iv_B0 := iv_in_eq hB (fun j hj => hF j (Nat.lt_of_lt_of_le hj (by decide +kernel)))
  have hk := k (sy_cm F' (hd_ov (iv_id 0 iv_B0) [(39, .inr (.inr (.inl 88)))] ++ [])) (fun j hj hn => (hd_keep hB' (Nat.lt_of_lt_of_le hj (by decide +kernel)) (by simp; omega)).trans (hF j (Nat.lt_of_lt_of_le hj (by decide)))) (hd_ga (a := .inr (.inl 88)) (by decide +kernel) t88)
  refine ⟨List.forall_mem_cons.mpr ⟨hd_p2 b83 b84 h0, List.forall_mem_cons.mpr ⟨hd_pb b83 (by first | exact h1 | exact h1), List.forall_mem_cons.mpr ⟨hd_p2 t85 rfl (by have hc : ((97) : Int32).toInt = 97 := (by decide); omega), List.forall_mem_cons.mpr ⟨hd_pb b83 (by first | exact h3 | exact h3), List.forall_mem_cons.mpr ⟨hd_p3 t86 rfl (by have hc : ((48) : Int32).toInt = 48 := (by decide); omega), List.forall_mem_cons.mpr ⟨hd_p2 rfl t86 (by have hc : ((57) : Int32).toInt = 57 := (by decide); omega), List.forall_mem_cons.mpr ⟨hd_pb b83 (by first | exact h6 | exact h6), List.forall_mem_cons.mpr ⟨hd_p0 t87 rfl (by have hc : ((58) : Int32).toInt = 58 := (by decide); omega), List.forall_mem_cons.mpr ⟨hd_pb b82 (by first | exact h8 | exact h8), fun _ h => absurd h List.not_mem_nil⟩⟩⟩⟩⟩⟩⟩⟩⟩, ?_⟩
  show Q (some (sy_dv F' (.inr (.inl 89)))) _
  rw [t89]
  exact hk
theorem k1on_0_p11 {Ls : Nat} {xs : Nat → Int32} {d : Nat} {Q : Option Value → jm_h → Prop} (hd : 5 ≤ d) (F : Nat → sy_d) (X1 X2 : List jm_c) (hB : iv_in F iv_B0)
    (h0 : (sy_i F 83).toInt < (sy_i F 84).toInt)
    (h1 : 0 ≤ (sy_i F 83).toInt ∧ (sy_i F 83).toInt < 2000)
    (h2 : ((sy_ai F 2).getD (sy_i F 83).toNatClampNeg 0).toInt < 97)
    (h3 : 0 ≤ (sy_i F 83).toInt ∧ (sy_i F 83).toInt < 2000)
    (h4 : 48 ≤ ((sy_ai F 2).getD (sy_i F 83).toNatClampNeg 0).toInt)
    (h5 : 57 < ((sy_ai F 2).getD (sy_i F 83).toNatClampNeg 0).toInt)
    (h6 : 0 ≤ (sy_i F 83).toInt ∧ (sy_i F 83).toInt < 2000)
    (h7 : ((sy_ai F 2).getD (sy_i F 83).toNatClampNeg 0).toInt = 59)
    (h8 : 0 ≤ (sy_i F 83).toInt ∧ (sy_i F 83).toInt < 2000)
    (h9 : 0 ≤ (sy_i F 82).toInt ∧ (sy_i F 82).toInt < 401)
    (k : ∀ F1 : Nat → sy_d, (∀ j, j < 82 → j ≠ 39 → F1 j = F j) → F1 39 = .inr (.inl (jm_upd (sy_ai F 39) (sy_i F 82).toNatClampNeg ((sy_ai F 2).getD (sy_i F 83).toNatClampNeg 0))) → Q (some (.int ((sy_i F 83) + ((1 : Int32))))) (sy_dh F1 X1 X2 (iv_H 1))) :
    hd_W Ls xs d jm_M59 Q (0, sy_dL F [some (.inl (.ref 31)), some (.inr (.inl 82)), some (.inl (.ref 9)), some (.inr (.inl 83)), some (.inr (.inl 84))], sy_dS F [], sy_dh F X1 X2 (iv_H 1), 0, 0) := by
  refine hd_ret (s := 1) (nv := 85) (v := some (.inr (.inl 90))) (uh := hd_ov (iv_id 0 iv_B0) [(39, .inr (.inr (.inl 89)))]) (f := true) (sp := [31, 50]) (d0 := 4) (O := [true, true, false, true, false, false, false, false, false, false, false, false, false, false, false, false, false, false, false, false, false, false, false, false, true]) (T := [(30, [.inr (.inl 83)], [.inr (.inl 2)]), (30, [.inr (.inl 83)], [.inr (.inl 2)]), (30, [.inr (.inl 83)], [.inr (.inl 2)]), (30, [.inr (.inl 83)], [.inr (.inl 2)]), (40, [.inr (.inl 82), .inr (.inl 88)], [.inr (.inl 39)]), (0, [.inr (.inl 83), .inl (.int 1)], [])]) (P := [(2, .inr (.inl 83), .inr (.inl 84)), (6, .inr (.inl 83), .inl (.ref 2000)), (2, .inr (.inl 85), .inl (.int 97)), (6, .inr (.inl 83), .inl (.ref 2000)), (3, .inr (.inl 86), .inl (.int 48)), (2, .inl (.int 57), .inr (.inl 86)), (6, .inr (.inl 83), .inl (.ref 2000)), (0, .inr (.inl 87), .inl (.int 59)), (6, .inr (.inl 83), .inl (.ref 2000)), (6, .inr (.inl 82), .inl (.ref 401))]) jm_ok59 (by decide +kernel) (by decide +kernel) hd F X1 X2 (fun F' hF hs => ?_)
  have b83 := hd_b (F := F) (F' := F') (k := 83) (hF 83 (by decide))
  have b84 := hd_b (F := F) (F' := F') (k := 84) (hF 84 (by decide))
  have a2 := hd_ba (F := F) (F' := F') (k := 2) (hF 2 (by decide))
  have t85 : sy_dv F' (.inr (.inl 85)) = .int ((sy_ai F 2).getD (sy_i F 83).toNatClampNeg 0) := hd_rd (hs 0 _ rfl) b83 a2
  have t86 : sy_dv F' (.inr (.inl 86)) = .int ((sy_ai F 2).getD (sy_i F 83).toNatClampNeg 0) := hd_rd (hs 1 _ rfl) b83 a2
  have t87 : sy_dv F' (.inr (.inl 87)) = .int ((sy_ai F 2).getD (sy_i F 83).toNatClampNeg 0) := hd_rd (hs 2 _ rfl) b83 a2
  have b82 := hd_b (F := F) (F' := F') (k := 82) (hF 82 (by decide))
  have t88 : sy_dv F' (.inr (.inl 88)) = .int ((sy_ai F 2).getD (sy_i F 83).toNatClampNeg 0) := hd_rd (hs 3 _ rfl) b83 a2
  have a39 := hd_ba (F := F) (F' := F') (k := 39) (hF 39 (by decide))
  have t89 : sy_da F' (.inr (.inl 89)) = .inl (jm_upd (sy_ai F 39) (sy_i F 82).toNatClampNeg ((sy_ai F 2).getD (sy_i F 83).toNatClampNeg 0)) := hd_up (hs 4 _ rfl) b82 t88 a39
  have t90 : sy_dv F' (.inr (.inl 90)) = .int ((sy_i F 83) + ((1 : Int32))) := hd_o (hs 5 _ rfl) b83 rfl rfl
  have hB' : iv_in F' iv_B0 := iv_in_eq hB (fun j hj => hF j (Nat.lt_of_lt_of_le hj (by decide +kernel)))
  have hk := k (sy_cm F' (hd_ov (iv_id 0 iv_B0) [(39, .inr (.inr (.inl 89)))] ++ [])) (fun j hj hn => (hd_keep hB' (Nat.lt_of_lt_of_le hj (by decide +kernel)) (by simp; omega)).trans (hF j (Nat.lt_of_lt_of_le hj (by decide)))) (hd_ga (a := .inr (.inl 89)) (by decide +kernel) t89)
  refine ⟨List.forall_mem_cons.mpr ⟨hd_p2 b83 b84 h0, List.forall_mem_cons.mpr ⟨hd_pb b83 (by first | exact h1 | exact h1), List.forall_mem_cons.mpr ⟨hd_p2 t85 rfl (by have hc : ((97) : Int32).toInt = 97 := (by decide); omega), List.forall_mem_cons.mpr ⟨hd_pb b83 (by first | exact h3 | exact h3), List.forall_mem_cons.mpr ⟨hd_p3 t86 rfl (by have hc : ((48) : Int32).toInt = 48 := (by decide); omega), List.forall_mem_cons.mpr ⟨hd_p2 rfl t86 (by have hc : ((57) : Int32).toInt = 57 := (by decide); omega), List.forall_mem_cons.mpr ⟨hd_pb b83 (by first | exact h6 | exact h6), List.forall_mem_cons.mpr ⟨hd_p0 t87 rfl (by have hc : ((59) : Int32).toInt = 59 := (by decide); omega), List.forall_mem_cons.mpr ⟨hd_pb b83 (by first | exact h8 | exact h8), List.forall_mem_cons.mpr ⟨hd_pb b82 (by first | exact h9 | exact h9), fun _ h => absurd h List.not_mem_nil⟩⟩⟩⟩⟩⟩⟩⟩⟩⟩, ?_⟩
  show Q (some (sy_dv F' (.inr (.inl 90)))) _
  rw [t90]
  exact hk
theorem k1on_0_p12 {Ls : Nat} {xs : Nat → Int32} {d : Nat} {Q : Option Value → jm_h → Prop} (hd : 5 ≤ d) (F : Nat → sy_d) (X1 X2 : List jm_c) (hB : iv_in F iv_B0)
    (h0 : (sy_i F 83).toInt < (sy_i F 84).toInt)
    (h1 : 0 ≤ (sy_i F 83).toInt ∧ (sy_i F 83).toInt < 2000)
    (h2 : ((sy_ai F 2).getD (sy_i F 83).toNatClampNeg 0).toInt < 97)
    (h3 : 0 ≤ (sy_i F 83).toInt ∧ (sy_i F 83).toInt < 2000)
    (h4 : 48 ≤ ((sy_ai F 2).getD (sy_i F 83).toNatClampNeg 0).toInt)
    (h5 : 57 < ((sy_ai F 2).getD (sy_i F 83).toNatClampNeg 0).toInt)
    (h6 : 0 ≤ (sy_i F 83).toInt ∧ (sy_i F 83).toInt < 2000)
    (h7 : ((sy_ai F 2).getD (sy_i F 83).toNatClampNeg 0).toInt = 60)
    (h8 : 0 ≤ (sy_i F 83).toInt ∧ (sy_i F 83).toInt < 2000)
    (h9 : 0 ≤ (sy_i F 82).toInt ∧ (sy_i F 82).toInt < 401)
    (k : ∀ F1 : Nat → sy_d, (∀ j, j < 82 → j ≠ 39 → F1 j = F j) → F1 39 = .inr (.inl (jm_upd (sy_ai F 39) (sy_i F 82).toNatClampNeg ((sy_ai F 2).getD (sy_i F 83).toNatClampNeg 0))) → Q (some (.int ((sy_i F 83) + ((1 : Int32))))) (sy_dh F1 X1 X2 (iv_H 1))) :
    hd_W Ls xs d jm_M59 Q (0, sy_dL F [some (.inl (.ref 31)), some (.inr (.inl 82)), some (.inl (.ref 9)), some (.inr (.inl 83)), some (.inr (.inl 84))], sy_dS F [], sy_dh F X1 X2 (iv_H 1), 0, 0) := by
  refine hd_ret (s := 1) (nv := 85) (v := some (.inr (.inl 90))) (uh := hd_ov (iv_id 0 iv_B0) [(39, .inr (.inr (.inl 89)))]) (f := true) (sp := [31, 50]) (d0 := 4) (O := [true, true, false, true, false, false, false, false, false, false, false, false, false, false, false, false, false, false, false, false, false, false, false, false, false, true]) (T := [(30, [.inr (.inl 83)], [.inr (.inl 2)]), (30, [.inr (.inl 83)], [.inr (.inl 2)]), (30, [.inr (.inl 83)], [.inr (.inl 2)]), (30, [.inr (.inl 83)], [.inr (.inl 2)]), (40, [.inr (.inl 82), .inr (.inl 88)], [.inr (.inl 39)]), (0, [.inr (.inl 83), .inl (.int 1)], [])]) (P := [(2, .inr (.inl 83), .inr (.inl 84)), (6, .inr (.inl 83), .inl (.ref 2000)), (2, .inr (.inl 85), .inl (.int 97)), (6, .inr (.inl 83), .inl (.ref 2000)), (3, .inr (.inl 86), .inl (.int 48)), (2, .inl (.int 57), .inr (.inl 86)), (6, .inr (.inl 83), .inl (.ref 2000)), (0, .inr (.inl 87), .inl (.int 60)), (6, .inr (.inl 83), .inl (.ref 2000)), (6, .inr (.inl 82), .inl (.ref 401))]) jm_ok59 (by decide +kernel) (by decide +kernel) hd F X1 X2 (fun F' hF hs => ?_)
  have b83 := hd_b (F := F) (F' := F') (k := 83) (hF 83 (by decide))
  have b84 := hd_b (F := F) (F' := F') (k := 84) (hF 84 (by decide))
  have a2 := hd_ba (F := F) (F' := F') (k := 2) (hF 2 (by decide))
  have t85 : sy_dv F' (.inr (.inl 85)) = .int ((sy_ai F 2).getD (sy_i F 83).toNatClampNeg 0) := hd_rd (hs 0 _ rfl) b83 a2
  have t86 : sy_dv F' (.inr (.inl 86)) = .int ((sy_ai F 2).getD (sy_i F 83).toNatClampNeg 0) := hd_rd (hs 1 _ rfl) b83 a2
  have t87 : sy_dv F' (.inr (.inl 87)) = .int ((sy_ai F 2).getD (sy_i F 83).toNatClampNeg 0) := hd_rd (hs 2 _ rfl) b83 a2
  have b82 := hd_b (F := F) (F' := F') (k := 82) (hF 82 (by decide))
  have t88 : sy_dv F' (.inr (.inl 88)) = .int ((sy_ai F 2).getD (sy_i F 83).toNatClampNeg 0) := hd_rd (hs 3 _ rfl) b83 a2
  have a39 := hd_ba (F := F) (F' := F') (k := 39) (hF 39 (by decide))
  have t89 : sy_da F' (.inr (.inl 89)) = .inl (jm_upd (sy_ai F 39) (sy_i F 82).toNatClampNeg ((sy_ai F 2).getD (sy_i F 83).toNatClampNeg 0)) := hd_up (hs 4 _ rfl) b82 t88 a39
  have t90 : sy_dv F' (.inr (.inl 90)) = .int ((sy_i F 83) + ((1 : Int32))) := hd_o (hs 5 _ rfl) b83 rfl rfl
  have hB' : iv_in F' iv_B0 := iv_in_eq hB (fun j hj => hF j (Nat.lt_of_lt_of_le hj (by decide +kernel)))
  have hk := k (sy_cm F' (hd_ov (iv_id 0 iv_B0) [(39, .inr (.inr (.inl 89)))] ++ [])) (fun j hj hn => (hd_keep hB' (Nat.lt_of_lt_of_le hj (by decide +kernel)) (by simp; omega)).trans (hF j (Nat.lt_of_lt_of_le hj (by decide)))) (hd_ga (a := .inr (.inl 89)) (by decide +kernel) t89)
  refine ⟨List.forall_mem_cons.mpr ⟨hd_p2 b83 b84 h0, List.forall_mem_cons.mpr ⟨hd_pb b83 (by first | exact h1 | exact h1), List.forall_mem_cons.mpr ⟨hd_p2 t85 rfl (by have hc : ((97) : Int32).toInt = 97 := (by decide); omega), List.forall_mem_cons.mpr ⟨hd_pb b83 (by first | exact h3 | exact h3), List.forall_mem_cons.mpr ⟨hd_p3 t86 rfl (by have hc : ((48) : Int32).toInt = 48 := (by decide); omega), List.forall_mem_cons.mpr ⟨hd_p2 rfl t86 (by have hc : ((57) : Int32).toInt = 57 := (by decide); omega), List.forall_mem_cons.mpr ⟨hd_pb b83 (by first | exact h6 | exact h6), List.forall_mem_cons.mpr ⟨hd_p0 t87 rfl (by have hc : ((60) : Int32).toInt = 60 := (by decide); omega), List.forall_mem_cons.mpr ⟨hd_pb b83 (by first | exact h8 | exact h8), List.forall_mem_cons.mpr ⟨hd_pb b82 (by first | exact h9 | exact h9), fun _ h => absurd h List.not_mem_nil⟩⟩⟩⟩⟩⟩⟩⟩⟩⟩, ?_⟩
  show Q (some (sy_dv F' (.inr (.inl 90)))) _
  rw [t90]
  exact hk
theorem k1on_0_p13 {Ls : Nat} {xs : Nat → Int32} {d : Nat} {Q : Option Value → jm_h → Prop} (hd : 5 ≤ d) (F : Nat → sy_d) (X1 X2 : List jm_c) (hB : iv_in F iv_B0)
    (h0 : (sy_i F 83).toInt < (sy_i F 84).toInt)
    (h1 : 0 ≤ (sy_i F 83).toInt ∧ (sy_i F 83).toInt < 2000)
    (h2 : ((sy_ai F 2).getD (sy_i F 83).toNatClampNeg 0).toInt < 97)
    (h3 : 0 ≤ (sy_i F 83).toInt ∧ (sy_i F 83).toInt < 2000)
    (h4 : 48 ≤ ((sy_ai F 2).getD (sy_i F 83).toNatClampNeg 0).toInt)
    (h5 : 57 < ((sy_ai F 2).getD (sy_i F 83).toNatClampNeg 0).toInt)
    (h6 : 0 ≤ (sy_i F 83).toInt ∧ (sy_i F 83).toInt < 2000)
    (h7 : ((sy_ai F 2).getD (sy_i F 83).toNatClampNeg 0).toInt = 61)
    (h8 : 0 ≤ (sy_i F 83).toInt ∧ (sy_i F 83).toInt < 2000)
    (h9 : 0 ≤ (sy_i F 82).toInt ∧ (sy_i F 82).toInt < 401)
    (k : ∀ F1 : Nat → sy_d, (∀ j, j < 82 → j ≠ 39 → F1 j = F j) → F1 39 = .inr (.inl (jm_upd (sy_ai F 39) (sy_i F 82).toNatClampNeg ((sy_ai F 2).getD (sy_i F 83).toNatClampNeg 0))) → Q (some (.int ((sy_i F 83) + ((1 : Int32))))) (sy_dh F1 X1 X2 (iv_H 1))) :
    hd_W Ls xs d jm_M59 Q (0, sy_dL F [some (.inl (.ref 31)), some (.inr (.inl 82)), some (.inl (.ref 9)), some (.inr (.inl 83)), some (.inr (.inl 84))], sy_dS F [], sy_dh F X1 X2 (iv_H 1), 0, 0) := by
  refine hd_ret (s := 1) (nv := 85) (v := some (.inr (.inl 90))) (uh := hd_ov (iv_id 0 iv_B0) [(39, .inr (.inr (.inl 89)))]) (f := true) (sp := [31, 50]) (d0 := 4) (O := [true, true, false, true, false, false, false, false, false, false, false, false, false, false, false, false, false, false, false, false, false, false, false, false, false, false, true]) (T := [(30, [.inr (.inl 83)], [.inr (.inl 2)]), (30, [.inr (.inl 83)], [.inr (.inl 2)]), (30, [.inr (.inl 83)], [.inr (.inl 2)]), (30, [.inr (.inl 83)], [.inr (.inl 2)]), (40, [.inr (.inl 82), .inr (.inl 88)], [.inr (.inl 39)]), (0, [.inr (.inl 83), .inl (.int 1)], [])]) (P := [(2, .inr (.inl 83), .inr (.inl 84)), (6, .inr (.inl 83), .inl (.ref 2000)), (2, .inr (.inl 85), .inl (.int 97)), (6, .inr (.inl 83), .inl (.ref 2000)), (3, .inr (.inl 86), .inl (.int 48)), (2, .inl (.int 57), .inr (.inl 86)), (6, .inr (.inl 83), .inl (.ref 2000)), (0, .inr (.inl 87), .inl (.int 61)), (6, .inr (.inl 83), .inl (.ref 2000)), (6, .inr (.inl 82), .inl (.ref 401))]) jm_ok59 (by decide +kernel) (by decide +kernel) hd F X1 X2 (fun F' hF hs => ?_)
  have b83 := hd_b (F := F) (F' := F') (k := 83) (hF 83 (by decide))
  have b84 := hd_b (F := F) (F' := F') (k := 84) (hF 84 (by decide))
  have a2 := hd_ba (F := F) (F' := F') (k := 2) (hF 2 (by decide))
  have t85 : sy_dv F' (.inr (.inl 85)) = .int ((sy_ai F 2).getD (sy_i F 83).toNatClampNeg 0) := hd_rd (hs 0 _ rfl) b83 a2
  have t86 : sy_dv F' (.inr (.inl 86)) = .int ((sy_ai F 2).getD (sy_i F 83).toNatClampNeg 0) := hd_rd (hs 1 _ rfl) b83 a2
  have t87 : sy_dv F' (.inr (.inl 87)) = .int ((sy_ai F 2).getD (sy_i F 83).toNatClampNeg 0) := hd_rd (hs 2 _ rfl) b83 a2
  have b82 := hd_b (F := F) (F' := F') (k := 82) (hF 82 (by decide))
  have t88 : sy_dv F' (.inr (.inl 88)) = .int ((sy_ai F 2).getD (sy_i F 83).toNatClampNeg 0) := hd_rd (hs 3 _ rfl) b83 a2
  have a39 := hd_ba (F := F) (F' := F') (k := 39) (hF 39 (by decide))
  have t89 : sy_da F' (.inr (.inl 89)) = .inl (jm_upd (sy_ai F 39) (sy_i F 82).toNatClampNeg ((sy_ai F 2).getD (sy_i F 83).toNatClampNeg 0)) := hd_up (hs 4 _ rfl) b82 t88 a39
  have t90 : sy_dv F' (.inr (.inl 90)) = .int ((sy_i F 83) + ((1 : Int32))) := hd_o (hs 5 _ rfl) b83 rfl rfl
  have hB' : iv_in F' iv_B0 := iv_in_eq hB (fun j hj => hF j (Nat.lt_of_lt_of_le hj (by decide +kernel)))
  have hk := k (sy_cm F' (hd_ov (iv_id 0 iv_B0) [(39, .inr (.inr (.inl 89)))] ++ [])) (fun j hj hn => (hd_keep hB' (Nat.lt_of_lt_of_le hj (by decide +kernel)) (by simp; omega)).trans (hF j (Nat.lt_of_lt_of_le hj (by decide)))) (hd_ga (a := .inr (.inl 89)) (by decide +kernel) t89)
  refine ⟨List.forall_mem_cons.mpr ⟨hd_p2 b83 b84 h0, List.forall_mem_cons.mpr ⟨hd_pb b83 (by first | exact h1 | exact h1), List.forall_mem_cons.mpr ⟨hd_p2 t85 rfl (by have hc : ((97) : Int32).toInt = 97 := (by decide); omega), List.forall_mem_cons.mpr ⟨hd_pb b83 (by first | exact h3 | exact h3), List.forall_mem_cons.mpr ⟨hd_p3 t86 rfl (by have hc : ((48) : Int32).toInt = 48 := (by decide); omega), List.forall_mem_cons.mpr ⟨hd_p2 rfl t86 (by have hc : ((57) : Int32).toInt = 57 := (by decide); omega), List.forall_mem_cons.mpr ⟨hd_pb b83 (by first | exact h6 | exact h6), List.forall_mem_cons.mpr ⟨hd_p0 t87 rfl (by have hc : ((61) : Int32).toInt = 61 := (by decide); omega), List.forall_mem_cons.mpr ⟨hd_pb b83 (by first | exact h8 | exact h8), List.forall_mem_cons.mpr ⟨hd_pb b82 (by first | exact h9 | exact h9), fun _ h => absurd h List.not_mem_nil⟩⟩⟩⟩⟩⟩⟩⟩⟩⟩, ?_⟩
  show Q (some (sy_dv F' (.inr (.inl 90)))) _
  rw [t90]
  exact hk
theorem k1on_0_p14 {Ls : Nat} {xs : Nat → Int32} {d : Nat} {Q : Option Value → jm_h → Prop} (hd : 5 ≤ d) (F : Nat → sy_d) (X1 X2 : List jm_c) (hB : iv_in F iv_B0)
    (h0 : (sy_i F 83).toInt < (sy_i F 84).toInt)
    (h1 : 0 ≤ (sy_i F 83).toInt ∧ (sy_i F 83).toInt < 2000)
    (h2 : ((sy_ai F 2).getD (sy_i F 83).toNatClampNeg 0).toInt < 97)
    (h3 : 0 ≤ (sy_i F 83).toInt ∧ (sy_i F 83).toInt < 2000)
    (h4 : 48 ≤ ((sy_ai F 2).getD (sy_i F 83).toNatClampNeg 0).toInt)
    (h5 : ((sy_ai F 2).getD (sy_i F 83).toNatClampNeg 0).toInt ≤ 57)
    (k : ∀ F1 : Nat → sy_d, (∀ j, j < 82 → True → F1 j = F j) → F1 82 = .inl (.int (sy_i F 84)) → F1 83 = .inl (.int (sy_i F 83)) → F1 84 = .inl (.int (sy_i F 82)) → hd_W Ls xs d jm_M59 Q (50, sy_dL F1 [none, none, none, none, none], sy_dS F1 [.inr (.inl 82), .inr (.inl 83), .inl (.ref 9), .inr (.inl 84), .inl (.ref 31)], sy_dh F1 X1 X2 (iv_H 1), 0, 0)) :
    hd_W Ls xs d jm_M59 Q (0, sy_dL F [some (.inl (.ref 31)), some (.inr (.inl 82)), some (.inl (.ref 9)), some (.inr (.inl 83)), some (.inr (.inl 84))], sy_dS F [], sy_dh F X1 X2 (iv_H 1), 0, 0) := by
  refine hd_run (s := 1) (nv := 85) (pc := 50) (L := [none, none, none, none, none]) (S := [.inr (.inl 82), .inr (.inl 83), .inl (.ref 9), .inr (.inl 84), .inl (.ref 31)]) (uh := hd_ov (iv_id 0 iv_B0) []) (ul := [.inl (.inr (.inl 84)), .inl (.inr (.inl 83)), .inl (.inr (.inl 82))]) (f := true) (sp := [31, 50]) (d0 := 4) (O := [true, true, false, false]) (T := [(30, [.inr (.inl 83)], [.inr (.inl 2)]), (30, [.inr (.inl 83)], [.inr (.inl 2)])]) (P := [(2, .inr (.inl 83), .inr (.inl 84)), (6, .inr (.inl 83), .inl (.ref 2000)), (2, .inr (.inl 85), .inl (.int 97)), (6, .inr (.inl 83), .inl (.ref 2000)), (3, .inr (.inl 86), .inl (.int 48)), (3, .inl (.int 57), .inr (.inl 86))]) jm_ok59 (by decide +kernel) (by decide +kernel) hd F X1 X2 (fun F' hF hs => ?_)
  have b83 := hd_b (F := F) (F' := F') (k := 83) (hF 83 (by decide))
  have b84 := hd_b (F := F) (F' := F') (k := 84) (hF 84 (by decide))
  have a2 := hd_ba (F := F) (F' := F') (k := 2) (hF 2 (by decide))
  have t85 : sy_dv F' (.inr (.inl 85)) = .int ((sy_ai F 2).getD (sy_i F 83).toNatClampNeg 0) := hd_rd (hs 0 _ rfl) b83 a2
  have t86 : sy_dv F' (.inr (.inl 86)) = .int ((sy_ai F 2).getD (sy_i F 83).toNatClampNeg 0) := hd_rd (hs 1 _ rfl) b83 a2
  have b82 := hd_b (F := F) (F' := F') (k := 82) (hF 82 (by decide))
  have hB' : iv_in F' iv_B0 := iv_in_eq hB (fun j hj => hF j (Nat.lt_of_lt_of_le hj (by decide +kernel)))
  refine ⟨List.forall_mem_cons.mpr ⟨hd_p2 b83 b84 h0, List.forall_mem_cons.mpr ⟨hd_pb b83 (by first | exact h1 | exact h1), List.forall_mem_cons.mpr ⟨hd_p2 t85 rfl (by have hc : ((97) : Int32).toInt = 97 := (by decide); omega), List.forall_mem_cons.mpr ⟨hd_pb b83 (by first | exact h3 | exact h3), List.forall_mem_cons.mpr ⟨hd_p3 t86 rfl (by have hc : ((48) : Int32).toInt = 48 := (by decide); omega), List.forall_mem_cons.mpr ⟨hd_p3 rfl t86 (by have hc : ((57) : Int32).toInt = 57 := (by decide); omega), fun _ h => absurd h List.not_mem_nil⟩⟩⟩⟩⟩⟩, ?_⟩
  refine k _ ?_ ?_ ?_ ?_
  · exact fun j hj _ => (hd_keep hB' (Nat.lt_of_lt_of_le hj (by decide +kernel)) (by simp)).trans (hF j (Nat.lt_of_lt_of_le hj (by decide)))
  · exact hd_gi (x := .inr (.inl 84)) (by decide +kernel) b84
  · exact hd_gi (x := .inr (.inl 83)) (by decide +kernel) b83
  · exact hd_gi (x := .inr (.inl 82)) (by decide +kernel) b82
theorem k1on_0_p15 {Ls : Nat} {xs : Nat → Int32} {d : Nat} {Q : Option Value → jm_h → Prop} (hd : 5 ≤ d) (F : Nat → sy_d) (X1 X2 : List jm_c) (hB : iv_in F iv_B0)
    (h0 : (sy_i F 83).toInt < (sy_i F 84).toInt)
    (h1 : 0 ≤ (sy_i F 83).toInt ∧ (sy_i F 83).toInt < 2000)
    (h2 : 97 ≤ ((sy_ai F 2).getD (sy_i F 83).toNatClampNeg 0).toInt)
    (h3 : 122 < ((sy_ai F 2).getD (sy_i F 83).toNatClampNeg 0).toInt)
    (h4 : 0 ≤ (sy_i F 83).toInt ∧ (sy_i F 83).toInt < 2000)
    (h5 : 48 ≤ ((sy_ai F 2).getD (sy_i F 83).toNatClampNeg 0).toInt)
    (h6 : 57 < ((sy_ai F 2).getD (sy_i F 83).toNatClampNeg 0).toInt)
    (h7 : 0 ≤ (sy_i F 83).toInt ∧ (sy_i F 83).toInt < 2000)
    (h8 : 61 < ((sy_ai F 2).getD (sy_i F 83).toNatClampNeg 0).toInt)
    (h9 : 0 ≤ (sy_i F 82).toInt ∧ (sy_i F 82).toInt < 401)
    (k : ∀ F1 : Nat → sy_d, (∀ j, j < 82 → j ≠ 39 → F1 j = F j) → F1 39 = .inr (.inl (jm_upd (sy_ai F 39) (sy_i F 82).toNatClampNeg ((25 : Int32)))) → Q (some (.int ((sy_i F 83) + ((1 : Int32))))) (sy_dh F1 X1 X2 (iv_H 1))) :
    hd_W Ls xs d jm_M59 Q (0, sy_dL F [some (.inl (.ref 31)), some (.inr (.inl 82)), some (.inl (.ref 9)), some (.inr (.inl 83)), some (.inr (.inl 84))], sy_dS F [], sy_dh F X1 X2 (iv_H 1), 0, 0) := by
  refine hd_ret (s := 1) (nv := 85) (v := some (.inr (.inl 89))) (uh := hd_ov (iv_id 0 iv_B0) [(39, .inr (.inr (.inl 88)))]) (f := true) (sp := [31, 50]) (d0 := 4) (O := [true, false, true, false, true, true, false]) (T := [(30, [.inr (.inl 83)], [.inr (.inl 2)]), (30, [.inr (.inl 83)], [.inr (.inl 2)]), (30, [.inr (.inl 83)], [.inr (.inl 2)]), (40, [.inr (.inl 82), .inl (.int 25)], [.inr (.inl 39)]), (0, [.inr (.inl 83), .inl (.int 1)], [])]) (P := [(2, .inr (.inl 83), .inr (.inl 84)), (6, .inr (.inl 83), .inl (.ref 2000)), (3, .inr (.inl 85), .inl (.int 97)), (2, .inl (.int 122), .inr (.inl 85)), (6, .inr (.inl 83), .inl (.ref 2000)), (3, .inr (.inl 86), .inl (.int 48)), (2, .inl (.int 57), .inr (.inl 86)), (6, .inr (.inl 83), .inl (.ref 2000)), (2, .inl (.int 61), .inr (.inl 87)), (6, .inr (.inl 82), .inl (.ref 401))]) jm_ok59 (by decide +kernel) (by decide +kernel) hd F X1 X2 (fun F' hF hs => ?_)
  have b83 := hd_b (F := F) (F' := F') (k := 83) (hF 83 (by decide))
  have b84 := hd_b (F := F) (F' := F') (k := 84) (hF 84 (by decide))
  have a2 := hd_ba (F := F) (F' := F') (k := 2) (hF 2 (by decide))
  have t85 : sy_dv F' (.inr (.inl 85)) = .int ((sy_ai F 2).getD (sy_i F 83).toNatClampNeg 0) := hd_rd (hs 0 _ rfl) b83 a2
  have t86 : sy_dv F' (.inr (.inl 86)) = .int ((sy_ai F 2).getD (sy_i F 83).toNatClampNeg 0) := hd_rd (hs 1 _ rfl) b83 a2
  have t87 : sy_dv F' (.inr (.inl 87)) = .int ((sy_ai F 2).getD (sy_i F 83).toNatClampNeg 0) := hd_rd (hs 2 _ rfl) b83 a2
  have b82 := hd_b (F := F) (F' := F') (k := 82) (hF 82 (by decide))
  have a39 := hd_ba (F := F) (F' := F') (k := 39) (hF 39 (by decide))
  have t88 : sy_da F' (.inr (.inl 88)) = .inl (jm_upd (sy_ai F 39) (sy_i F 82).toNatClampNeg ((25 : Int32))) := hd_up (hs 3 _ rfl) b82 rfl a39
  have t89 : sy_dv F' (.inr (.inl 89)) = .int ((sy_i F 83) + ((1 : Int32))) := hd_o (hs 4 _ rfl) b83 rfl rfl
  have hB' : iv_in F' iv_B0 := iv_in_eq hB (fun j hj => hF j (Nat.lt_of_lt_of_le hj (by decide +kernel)))
  have hk := k (sy_cm F' (hd_ov (iv_id 0 iv_B0) [(39, .inr (.inr (.inl 88)))] ++ [])) (fun j hj hn => (hd_keep hB' (Nat.lt_of_lt_of_le hj (by decide +kernel)) (by simp; omega)).trans (hF j (Nat.lt_of_lt_of_le hj (by decide)))) (hd_ga (a := .inr (.inl 88)) (by decide +kernel) t88)
  refine ⟨List.forall_mem_cons.mpr ⟨hd_p2 b83 b84 h0, List.forall_mem_cons.mpr ⟨hd_pb b83 (by first | exact h1 | exact h1), List.forall_mem_cons.mpr ⟨hd_p3 t85 rfl (by have hc : ((97) : Int32).toInt = 97 := (by decide); omega), List.forall_mem_cons.mpr ⟨hd_p2 rfl t85 (by have hc : ((122) : Int32).toInt = 122 := (by decide); omega), List.forall_mem_cons.mpr ⟨hd_pb b83 (by first | exact h4 | exact h4), List.forall_mem_cons.mpr ⟨hd_p3 t86 rfl (by have hc : ((48) : Int32).toInt = 48 := (by decide); omega), List.forall_mem_cons.mpr ⟨hd_p2 rfl t86 (by have hc : ((57) : Int32).toInt = 57 := (by decide); omega), List.forall_mem_cons.mpr ⟨hd_pb b83 (by first | exact h7 | exact h7), List.forall_mem_cons.mpr ⟨hd_p2 rfl t87 (by have hc : ((61) : Int32).toInt = 61 := (by decide); omega), List.forall_mem_cons.mpr ⟨hd_pb b82 (by first | exact h9 | exact h9), fun _ h => absurd h List.not_mem_nil⟩⟩⟩⟩⟩⟩⟩⟩⟩⟩, ?_⟩
  show Q (some (sy_dv F' (.inr (.inl 89)))) _
  rw [t89]
  exact hk
theorem k1on_0_p16 {Ls : Nat} {xs : Nat → Int32} {d : Nat} {Q : Option Value → jm_h → Prop} (hd : 5 ≤ d) (F : Nat → sy_d) (X1 X2 : List jm_c) (hB : iv_in F iv_B0)
    (h0 : (sy_i F 83).toInt < (sy_i F 84).toInt)
    (h1 : 0 ≤ (sy_i F 83).toInt ∧ (sy_i F 83).toInt < 2000)
    (h2 : 97 ≤ ((sy_ai F 2).getD (sy_i F 83).toNatClampNeg 0).toInt)
    (h3 : ((sy_ai F 2).getD (sy_i F 83).toNatClampNeg 0).toInt ≤ 122)
    (k : ∀ F1 : Nat → sy_d, (∀ j, j < 82 → True → F1 j = F j) → F1 82 = .inl (.int (sy_i F 84)) → F1 83 = .inl (.int (sy_i F 83)) → F1 84 = .inl (.int (sy_i F 82)) → hd_W Ls xs d jm_M59 Q (31, sy_dL F1 [none, none, none, none, none], sy_dS F1 [.inr (.inl 82), .inr (.inl 83), .inl (.ref 9), .inr (.inl 84), .inl (.ref 31)], sy_dh F1 X1 X2 (iv_H 1), 0, 0)) :
    hd_W Ls xs d jm_M59 Q (0, sy_dL F [some (.inl (.ref 31)), some (.inr (.inl 82)), some (.inl (.ref 9)), some (.inr (.inl 83)), some (.inr (.inl 84))], sy_dS F [], sy_dh F X1 X2 (iv_H 1), 0, 0) := by
  refine hd_run (s := 1) (nv := 85) (pc := 31) (L := [none, none, none, none, none]) (S := [.inr (.inl 82), .inr (.inl 83), .inl (.ref 9), .inr (.inl 84), .inl (.ref 31)]) (uh := hd_ov (iv_id 0 iv_B0) []) (ul := [.inl (.inr (.inl 84)), .inl (.inr (.inl 83)), .inl (.inr (.inl 82))]) (f := true) (sp := [31, 50]) (d0 := 4) (O := [true, false, false]) (T := [(30, [.inr (.inl 83)], [.inr (.inl 2)])]) (P := [(2, .inr (.inl 83), .inr (.inl 84)), (6, .inr (.inl 83), .inl (.ref 2000)), (3, .inr (.inl 85), .inl (.int 97)), (3, .inl (.int 122), .inr (.inl 85))]) jm_ok59 (by decide +kernel) (by decide +kernel) hd F X1 X2 (fun F' hF hs => ?_)
  have b83 := hd_b (F := F) (F' := F') (k := 83) (hF 83 (by decide))
  have b84 := hd_b (F := F) (F' := F') (k := 84) (hF 84 (by decide))
  have a2 := hd_ba (F := F) (F' := F') (k := 2) (hF 2 (by decide))
  have t85 : sy_dv F' (.inr (.inl 85)) = .int ((sy_ai F 2).getD (sy_i F 83).toNatClampNeg 0) := hd_rd (hs 0 _ rfl) b83 a2
  have b82 := hd_b (F := F) (F' := F') (k := 82) (hF 82 (by decide))
  have hB' : iv_in F' iv_B0 := iv_in_eq hB (fun j hj => hF j (Nat.lt_of_lt_of_le hj (by decide +kernel)))
  refine ⟨List.forall_mem_cons.mpr ⟨hd_p2 b83 b84 h0, List.forall_mem_cons.mpr ⟨hd_pb b83 (by first | exact h1 | exact h1), List.forall_mem_cons.mpr ⟨hd_p3 t85 rfl (by have hc : ((97) : Int32).toInt = 97 := (by decide); omega), List.forall_mem_cons.mpr ⟨hd_p3 rfl t85 (by have hc : ((122) : Int32).toInt = 122 := (by decide); omega), fun _ h => absurd h List.not_mem_nil⟩⟩⟩⟩, ?_⟩
  refine k _ ?_ ?_ ?_ ?_
  · exact fun j hj _ => (hd_keep hB' (Nat.lt_of_lt_of_le hj (by decide +kernel)) (by simp)).trans (hF j (Nat.lt_of_lt_of_le hj (by decide)))
  · exact hd_gi (x := .inr (.inl 84)) (by decide +kernel) b84
  · exact hd_gi (x := .inr (.inl 83)) (by decide +kernel) b83
  · exact hd_gi (x := .inr (.inl 82)) (by decide +kernel) b82
theorem k1on_0_p17 {Ls : Nat} {xs : Nat → Int32} {d : Nat} {Q : Option Value → jm_h → Prop} (hd : 5 ≤ d) (F : Nat → sy_d) (X1 X2 : List jm_c) (hB : iv_in F iv_B0)
    (h0 : (sy_i F 84).toInt ≤ (sy_i F 83).toInt)
    (h1 : 0 ≤ (sy_i F 82).toInt ∧ (sy_i F 82).toInt < 401)
    (k : ∀ F1 : Nat → sy_d, (∀ j, j < 82 → j ≠ 39 → F1 j = F j) → F1 39 = .inr (.inl (jm_upd (sy_ai F 39) (sy_i F 82).toNatClampNeg ((26 : Int32)))) → Q (some (.int (sy_i F 83))) (sy_dh F1 X1 X2 (iv_H 1))) :
    hd_W Ls xs d jm_M59 Q (0, sy_dL F [some (.inl (.ref 31)), some (.inr (.inl 82)), some (.inl (.ref 9)), some (.inr (.inl 83)), some (.inr (.inl 84))], sy_dS F [], sy_dh F X1 X2 (iv_H 1), 0, 0) := by
  refine hd_ret (s := 1) (nv := 85) (v := some (.inr (.inl 83))) (uh := hd_ov (iv_id 0 iv_B0) [(39, .inr (.inr (.inl 85)))]) (f := true) (sp := [31, 50]) (d0 := 4) (O := [false]) (T := [(40, [.inr (.inl 82), .inl (.int 26)], [.inr (.inl 39)])]) (P := [(3, .inr (.inl 83), .inr (.inl 84)), (6, .inr (.inl 82), .inl (.ref 401))]) jm_ok59 (by decide +kernel) (by decide +kernel) hd F X1 X2 (fun F' hF hs => ?_)
  have b83 := hd_b (F := F) (F' := F') (k := 83) (hF 83 (by decide))
  have b84 := hd_b (F := F) (F' := F') (k := 84) (hF 84 (by decide))
  have b82 := hd_b (F := F) (F' := F') (k := 82) (hF 82 (by decide))
  have a39 := hd_ba (F := F) (F' := F') (k := 39) (hF 39 (by decide))
  have t85 : sy_da F' (.inr (.inl 85)) = .inl (jm_upd (sy_ai F 39) (sy_i F 82).toNatClampNeg ((26 : Int32))) := hd_up (hs 0 _ rfl) b82 rfl a39
  have hB' : iv_in F' iv_B0 := iv_in_eq hB (fun j hj => hF j (Nat.lt_of_lt_of_le hj (by decide +kernel)))
  have hk := k (sy_cm F' (hd_ov (iv_id 0 iv_B0) [(39, .inr (.inr (.inl 85)))] ++ [])) (fun j hj hn => (hd_keep hB' (Nat.lt_of_lt_of_le hj (by decide +kernel)) (by simp; omega)).trans (hF j (Nat.lt_of_lt_of_le hj (by decide)))) (hd_ga (a := .inr (.inl 85)) (by decide +kernel) t85)
  refine ⟨List.forall_mem_cons.mpr ⟨hd_p3 b83 b84 h0, List.forall_mem_cons.mpr ⟨hd_pb b82 (by first | exact h1 | exact h1), fun _ h => absurd h List.not_mem_nil⟩⟩, ?_⟩
  show Q (some (sy_dv F' (.inr (.inl 83)))) _
  rw [b83]
  exact hk
theorem k1on_0 {Ls : Nat} {xs : Nat → Int32} {d : Nat} {Q : Option Value → jm_h → Prop} (hd : 5 ≤ d) (F : Nat → sy_d) (X1 X2 : List jm_c) (hB : iv_in F iv_B0)
    (a82 : 0 ≤ (sy_i F 82).toInt ∧ (sy_i F 82).toInt ≤ 400)
    (a83 : 0 ≤ (sy_i F 83).toInt ∧ (sy_i F 83).toInt ≤ 2000)
    (a84 : 0 ≤ (sy_i F 84).toInt ∧ (sy_i F 84).toInt ≤ 2000)
    (k0 : (sy_i F 83).toInt < (sy_i F 84).toInt → ((sy_ai F 2).getD ((sy_i F 83).toInt).toNat 0).toInt < 97 → ((sy_ai F 2).getD ((sy_i F 83).toInt).toNat 0).toInt < 48 → ((sy_ai F 2).getD ((sy_i F 83).toInt).toNat 0).toInt < 40 → ∀ F1 : Nat → sy_d, iv_in F1 iv_B0 → (∀ j, j < 82 → j ∉ ([39] : List Nat) → F1 j = F j) → sy_ai F1 39 = jm_upd (sy_ai F 39) ((sy_i F 82).toInt).toNat ((25 : Int32)) → sy_ai F1 40 = sy_ai F 40 → sy_al F1 41 = sy_al F 41 → Q (some (.int ((sy_i F 83) + ((1 : Int32))))) (sy_dh F1 X1 X2 (iv_H 1)))
    (k1 : (sy_i F 83).toInt < (sy_i F 84).toInt → ((sy_ai F 2).getD ((sy_i F 83).toInt).toNat 0).toInt < 97 → ((sy_ai F 2).getD ((sy_i F 83).toInt).toNat 0).toInt < 48 → ((sy_ai F 2).getD ((sy_i F 83).toInt).toNat 0).toInt = 40 → ∀ F1 : Nat → sy_d, iv_in F1 iv_B0 → (∀ j, j < 82 → j ∉ ([39] : List Nat) → F1 j = F j) → sy_ai F1 39 = jm_upd (sy_ai F 39) ((sy_i F 82).toInt).toNat ((sy_ai F 2).getD ((sy_i F 83).toInt).toNat 0) → sy_ai F1 40 = sy_ai F 40 → sy_al F1 41 = sy_al F 41 → Q (some (.int ((sy_i F 83) + ((1 : Int32))))) (sy_dh F1 X1 X2 (iv_H 1)))
    (k2 : (sy_i F 83).toInt < (sy_i F 84).toInt → ((sy_ai F 2).getD ((sy_i F 83).toInt).toNat 0).toInt < 97 → ((sy_ai F 2).getD ((sy_i F 83).toInt).toNat 0).toInt < 48 → ((sy_ai F 2).getD ((sy_i F 83).toInt).toNat 0).toInt = 41 → ∀ F1 : Nat → sy_d, iv_in F1 iv_B0 → (∀ j, j < 82 → j ∉ ([39] : List Nat) → F1 j = F j) → sy_ai F1 39 = jm_upd (sy_ai F 39) ((sy_i F 82).toInt).toNat ((sy_ai F 2).getD ((sy_i F 83).toInt).toNat 0) → sy_ai F1 40 = sy_ai F 40 → sy_al F1 41 = sy_al F 41 → Q (some (.int ((sy_i F 83) + ((1 : Int32))))) (sy_dh F1 X1 X2 (iv_H 1)))
    (k3 : (sy_i F 83).toInt < (sy_i F 84).toInt → ((sy_ai F 2).getD ((sy_i F 83).toInt).toNat 0).toInt < 97 → ((sy_ai F 2).getD ((sy_i F 83).toInt).toNat 0).toInt < 48 → ((sy_ai F 2).getD ((sy_i F 83).toInt).toNat 0).toInt = 42 → ∀ F1 : Nat → sy_d, iv_in F1 iv_B0 → (∀ j, j < 82 → j ∉ ([39] : List Nat) → F1 j = F j) → sy_ai F1 39 = jm_upd (sy_ai F 39) ((sy_i F 82).toInt).toNat ((sy_ai F 2).getD ((sy_i F 83).toInt).toNat 0) → sy_ai F1 40 = sy_ai F 40 → sy_al F1 41 = sy_al F 41 → Q (some (.int ((sy_i F 83) + ((1 : Int32))))) (sy_dh F1 X1 X2 (iv_H 1)))
    (k4 : (sy_i F 83).toInt < (sy_i F 84).toInt → ((sy_ai F 2).getD ((sy_i F 83).toInt).toNat 0).toInt < 97 → ((sy_ai F 2).getD ((sy_i F 83).toInt).toNat 0).toInt < 48 → ((sy_ai F 2).getD ((sy_i F 83).toInt).toNat 0).toInt = 43 → ∀ F1 : Nat → sy_d, iv_in F1 iv_B0 → (∀ j, j < 82 → j ∉ ([39] : List Nat) → F1 j = F j) → sy_ai F1 39 = jm_upd (sy_ai F 39) ((sy_i F 82).toInt).toNat ((sy_ai F 2).getD ((sy_i F 83).toInt).toNat 0) → sy_ai F1 40 = sy_ai F 40 → sy_al F1 41 = sy_al F 41 → Q (some (.int ((sy_i F 83) + ((1 : Int32))))) (sy_dh F1 X1 X2 (iv_H 1)))
    (k5 : (sy_i F 83).toInt < (sy_i F 84).toInt → ((sy_ai F 2).getD ((sy_i F 83).toInt).toNat 0).toInt < 97 → ((sy_ai F 2).getD ((sy_i F 83).toInt).toNat 0).toInt < 48 → ((sy_ai F 2).getD ((sy_i F 83).toInt).toNat 0).toInt = 44 → ∀ F1 : Nat → sy_d, iv_in F1 iv_B0 → (∀ j, j < 82 → j ∉ ([39] : List Nat) → F1 j = F j) → sy_ai F1 39 = jm_upd (sy_ai F 39) ((sy_i F 82).toInt).toNat ((25 : Int32)) → sy_ai F1 40 = sy_ai F 40 → sy_al F1 41 = sy_al F 41 → Q (some (.int ((sy_i F 83) + ((1 : Int32))))) (sy_dh F1 X1 X2 (iv_H 1)))
    (k6 : (sy_i F 83).toInt < (sy_i F 84).toInt → ((sy_ai F 2).getD ((sy_i F 83).toInt).toNat 0).toInt < 97 → ((sy_ai F 2).getD ((sy_i F 83).toInt).toNat 0).toInt < 48 → ((sy_ai F 2).getD ((sy_i F 83).toInt).toNat 0).toInt = 45 → ∀ F1 : Nat → sy_d, iv_in F1 iv_B0 → (∀ j, j < 82 → j ∉ ([39] : List Nat) → F1 j = F j) → sy_ai F1 39 = jm_upd (sy_ai F 39) ((sy_i F 82).toInt).toNat ((sy_ai F 2).getD ((sy_i F 83).toInt).toNat 0) → sy_ai F1 40 = sy_ai F 40 → sy_al F1 41 = sy_al F 41 → Q (some (.int ((sy_i F 83) + ((1 : Int32))))) (sy_dh F1 X1 X2 (iv_H 1)))
    (k7 : (sy_i F 83).toInt < (sy_i F 84).toInt → ((sy_ai F 2).getD ((sy_i F 83).toInt).toNat 0).toInt < 97 → ((sy_ai F 2).getD ((sy_i F 83).toInt).toNat 0).toInt < 48 → ((sy_ai F 2).getD ((sy_i F 83).toInt).toNat 0).toInt = 46 → ∀ F1 : Nat → sy_d, iv_in F1 iv_B0 → (∀ j, j < 82 → j ∉ ([39] : List Nat) → F1 j = F j) → sy_ai F1 39 = jm_upd (sy_ai F 39) ((sy_i F 82).toInt).toNat ((25 : Int32)) → sy_ai F1 40 = sy_ai F 40 → sy_al F1 41 = sy_al F 41 → Q (some (.int ((sy_i F 83) + ((1 : Int32))))) (sy_dh F1 X1 X2 (iv_H 1)))
    (k8 : (sy_i F 83).toInt < (sy_i F 84).toInt → ((sy_ai F 2).getD ((sy_i F 83).toInt).toNat 0).toInt < 97 → ((sy_ai F 2).getD ((sy_i F 83).toInt).toNat 0).toInt < 48 → ((sy_ai F 2).getD ((sy_i F 83).toInt).toNat 0).toInt = 47 → ∀ F1 : Nat → sy_d, iv_in F1 iv_B0 → (∀ j, j < 82 → j ∉ ([39] : List Nat) → F1 j = F j) → sy_ai F1 39 = jm_upd (sy_ai F 39) ((sy_i F 82).toInt).toNat ((sy_ai F 2).getD ((sy_i F 83).toInt).toNat 0) → sy_ai F1 40 = sy_ai F 40 → sy_al F1 41 = sy_al F 41 → Q (some (.int ((sy_i F 83) + ((1 : Int32))))) (sy_dh F1 X1 X2 (iv_H 1)))
    (k9 : (sy_i F 83).toInt < (sy_i F 84).toInt → ((sy_ai F 2).getD ((sy_i F 83).toInt).toNat 0).toInt < 97 → 48 ≤ ((sy_ai F 2).getD ((sy_i F 83).toInt).toNat 0).toInt → 57 < ((sy_ai F 2).getD ((sy_i F 83).toInt).toNat 0).toInt → 61 < ((sy_ai F 2).getD ((sy_i F 83).toInt).toNat 0).toInt → ∀ F1 : Nat → sy_d, iv_in F1 iv_B0 → (∀ j, j < 82 → j ∉ ([39] : List Nat) → F1 j = F j) → sy_ai F1 39 = jm_upd (sy_ai F 39) ((sy_i F 82).toInt).toNat ((25 : Int32)) → sy_ai F1 40 = sy_ai F 40 → sy_al F1 41 = sy_al F 41 → Q (some (.int ((sy_i F 83) + ((1 : Int32))))) (sy_dh F1 X1 X2 (iv_H 1)))
    (k10 : (sy_i F 83).toInt < (sy_i F 84).toInt → ((sy_ai F 2).getD ((sy_i F 83).toInt).toNat 0).toInt < 97 → 48 ≤ ((sy_ai F 2).getD ((sy_i F 83).toInt).toNat 0).toInt → 57 < ((sy_ai F 2).getD ((sy_i F 83).toInt).toNat 0).toInt → ((sy_ai F 2).getD ((sy_i F 83).toInt).toNat 0).toInt = 58 → ∀ F1 : Nat → sy_d, iv_in F1 iv_B0 → (∀ j, j < 82 → j ∉ ([39] : List Nat) → F1 j = F j) → sy_ai F1 39 = jm_upd (sy_ai F 39) ((sy_i F 82).toInt).toNat ((25 : Int32)) → sy_ai F1 40 = sy_ai F 40 → sy_al F1 41 = sy_al F 41 → Q (some (.int ((sy_i F 83) + ((1 : Int32))))) (sy_dh F1 X1 X2 (iv_H 1)))
    (k11 : (sy_i F 83).toInt < (sy_i F 84).toInt → ((sy_ai F 2).getD ((sy_i F 83).toInt).toNat 0).toInt < 97 → 48 ≤ ((sy_ai F 2).getD ((sy_i F 83).toInt).toNat 0).toInt → 57 < ((sy_ai F 2).getD ((sy_i F 83).toInt).toNat 0).toInt → ((sy_ai F 2).getD ((sy_i F 83).toInt).toNat 0).toInt = 59 → ∀ F1 : Nat → sy_d, iv_in F1 iv_B0 → (∀ j, j < 82 → j ∉ ([39] : List Nat) → F1 j = F j) → sy_ai F1 39 = jm_upd (sy_ai F 39) ((sy_i F 82).toInt).toNat ((sy_ai F 2).getD ((sy_i F 83).toInt).toNat 0) → sy_ai F1 40 = sy_ai F 40 → sy_al F1 41 = sy_al F 41 → Q (some (.int ((sy_i F 83) + ((1 : Int32))))) (sy_dh F1 X1 X2 (iv_H 1)))
    (k12 : (sy_i F 83).toInt < (sy_i F 84).toInt → ((sy_ai F 2).getD ((sy_i F 83).toInt).toNat 0).toInt < 97 → 48 ≤ ((sy_ai F 2).getD ((sy_i F 83).toInt).toNat 0).toInt → 57 < ((sy_ai F 2).getD ((sy_i F 83).toInt).toNat 0).toInt → ((sy_ai F 2).getD ((sy_i F 83).toInt).toNat 0).toInt = 60 → ∀ F1 : Nat → sy_d, iv_in F1 iv_B0 → (∀ j, j < 82 → j ∉ ([39] : List Nat) → F1 j = F j) → sy_ai F1 39 = jm_upd (sy_ai F 39) ((sy_i F 82).toInt).toNat ((sy_ai F 2).getD ((sy_i F 83).toInt).toNat 0) → sy_ai F1 40 = sy_ai F 40 → sy_al F1 41 = sy_al F 41 → Q (some (.int ((sy_i F 83) + ((1 : Int32))))) (sy_dh F1 X1 X2 (iv_H 1)))
    (k13 : (sy_i F 83).toInt < (sy_i F 84).toInt → ((sy_ai F 2).getD ((sy_i F 83).toInt).toNat 0).toInt < 97 → 48 ≤ ((sy_ai F 2).getD ((sy_i F 83).toInt).toNat 0).toInt → 57 < ((sy_ai F 2).getD ((sy_i F 83).toInt).toNat 0).toInt → ((sy_ai F 2).getD ((sy_i F 83).toInt).toNat 0).toInt = 61 → ∀ F1 : Nat → sy_d, iv_in F1 iv_B0 → (∀ j, j < 82 → j ∉ ([39] : List Nat) → F1 j = F j) → sy_ai F1 39 = jm_upd (sy_ai F 39) ((sy_i F 82).toInt).toNat ((sy_ai F 2).getD ((sy_i F 83).toInt).toNat 0) → sy_ai F1 40 = sy_ai F 40 → sy_al F1 41 = sy_al F 41 → Q (some (.int ((sy_i F 83) + ((1 : Int32))))) (sy_dh F1 X1 X2 (iv_H 1)))
    (k14 : (sy_i F 83).toInt < (sy_i F 84).toInt → ((sy_ai F 2).getD ((sy_i F 83).toInt).toNat 0).toInt < 97 → 48 ≤ ((sy_ai F 2).getD ((sy_i F 83).toInt).toNat 0).toInt → ((sy_ai F 2).getD ((sy_i F 83).toInt).toNat 0).toInt ≤ 57 → ∀ F1 : Nat → sy_d, iv_in F1 iv_B0 → (∀ j, j < 82 → j ∉ ([] : List Nat) → F1 j = F j) → sy_ai F1 39 = sy_ai F 39 → sy_ai F1 40 = sy_ai F 40 → sy_al F1 41 = sy_al F 41 → (sy_i F1 82).toInt = (sy_i F 84).toInt → (sy_i F1 83).toInt = (sy_i F 83).toInt → (sy_i F1 84).toInt = (sy_i F 82).toInt → hd_W Ls xs d jm_M59 Q (50, sy_dL F1 [none, none, none, none, none], sy_dS F1 [.inr (.inl 82), .inr (.inl 83), .inl (.ref 9), .inr (.inl 84), .inl (.ref 31)], sy_dh F1 X1 X2 (iv_H 1), 0, 0))
    (k15 : (sy_i F 83).toInt < (sy_i F 84).toInt → 97 ≤ ((sy_ai F 2).getD ((sy_i F 83).toInt).toNat 0).toInt → 122 < ((sy_ai F 2).getD ((sy_i F 83).toInt).toNat 0).toInt → 48 ≤ ((sy_ai F 2).getD ((sy_i F 83).toInt).toNat 0).toInt → 57 < ((sy_ai F 2).getD ((sy_i F 83).toInt).toNat 0).toInt → 61 < ((sy_ai F 2).getD ((sy_i F 83).toInt).toNat 0).toInt → ∀ F1 : Nat → sy_d, iv_in F1 iv_B0 → (∀ j, j < 82 → j ∉ ([39] : List Nat) → F1 j = F j) → sy_ai F1 39 = jm_upd (sy_ai F 39) ((sy_i F 82).toInt).toNat ((25 : Int32)) → sy_ai F1 40 = sy_ai F 40 → sy_al F1 41 = sy_al F 41 → Q (some (.int ((sy_i F 83) + ((1 : Int32))))) (sy_dh F1 X1 X2 (iv_H 1)))
    (k16 : (sy_i F 83).toInt < (sy_i F 84).toInt → 97 ≤ ((sy_ai F 2).getD ((sy_i F 83).toInt).toNat 0).toInt → ((sy_ai F 2).getD ((sy_i F 83).toInt).toNat 0).toInt ≤ 122 → ∀ F1 : Nat → sy_d, iv_in F1 iv_B0 → (∀ j, j < 82 → j ∉ ([] : List Nat) → F1 j = F j) → sy_ai F1 39 = sy_ai F 39 → sy_ai F1 40 = sy_ai F 40 → sy_al F1 41 = sy_al F 41 → (sy_i F1 82).toInt = (sy_i F 84).toInt → (sy_i F1 83).toInt = (sy_i F 83).toInt → (sy_i F1 84).toInt = (sy_i F 82).toInt → hd_W Ls xs d jm_M59 Q (31, sy_dL F1 [none, none, none, none, none], sy_dS F1 [.inr (.inl 82), .inr (.inl 83), .inl (.ref 9), .inr (.inl 84), .inl (.ref 31)], sy_dh F1 X1 X2 (iv_H 1), 0, 0))
    (k17 : (sy_i F 84).toInt ≤ (sy_i F 83).toInt → ∀ F1 : Nat → sy_d, iv_in F1 iv_B0 → (∀ j, j < 82 → j ∉ ([39] : List Nat) → F1 j = F j) → sy_ai F1 39 = jm_upd (sy_ai F 39) ((sy_i F 82).toInt).toNat ((26 : Int32)) → sy_ai F1 40 = sy_ai F 40 → sy_al F1 41 = sy_al F 41 → Q (some (.int (sy_i F 83))) (sy_dh F1 X1 X2 (iv_H 1))) :
    hd_W Ls xs d jm_M59 Q (0, sy_dL F [some (.inl (.ref 31)), some (.inr (.inl 82)), some (.inl (.ref 9)), some (.inr (.inl 83)), some (.inr (.inl 84))], sy_dS F [], sy_dh F X1 X2 (iv_H 1), 0, 0) := by
  by_cases g0 : (sy_i F 83).toInt < (sy_i F 84).toInt
  · by_cases g1 : ((sy_ai F 2).getD ((sy_i F 83).toInt).toNat 0).toInt < 97
    · by_cases g2 : ((sy_ai F 2).getD ((sy_i F 83).toInt).toNat 0).toInt < 48
      · by_cases g3 : ((sy_ai F 2).getD ((sy_i F 83).toInt).toNat 0).toInt < 40
        · have q85 : (sy_ai F 2).getD (sy_i F 83).toNatClampNeg 0 = (sy_ai F 2).getD ((sy_i F 83).toInt).toNat 0 := by simp only [nz_c]
          have n85 : ((sy_ai F 2).getD (sy_i F 83).toNatClampNeg 0).toInt = ((sy_ai F 2).getD ((sy_i F 83).toInt).toNat 0).toInt := congrArg Int32.toInt q85
          have r85 := nz_ba hB (k := 2) (lo := (-128)) (hi := 127) rfl ((sy_i F 83).toInt).toNat
          have q86 : (sy_ai F 2).getD (sy_i F 83).toNatClampNeg 0 = (sy_ai F 2).getD ((sy_i F 83).toInt).toNat 0 := by simp only [nz_c]
          have n86 : ((sy_ai F 2).getD (sy_i F 83).toNatClampNeg 0).toInt = ((sy_ai F 2).getD ((sy_i F 83).toInt).toNat 0).toInt := congrArg Int32.toInt q86
          have r86 := nz_ba hB (k := 2) (lo := (-128)) (hi := 127) rfl ((sy_i F 83).toInt).toNat
          have q87 : (sy_ai F 2).getD (sy_i F 83).toNatClampNeg 0 = (sy_ai F 2).getD ((sy_i F 83).toInt).toNat 0 := by simp only [nz_c]
          have n87 : ((sy_ai F 2).getD (sy_i F 83).toNatClampNeg 0).toInt = ((sy_ai F 2).getD ((sy_i F 83).toInt).toNat 0).toInt := congrArg Int32.toInt q87
          have r87 := nz_ba hB (k := 2) (lo := (-128)) (hi := 127) rfl ((sy_i F 83).toInt).toNat
          have w88 : jm_upd (sy_ai F 39) (sy_i F 82).toNatClampNeg ((25 : Int32)) = jm_upd (sy_ai F 39) ((sy_i F 82).toInt).toNat ((25 : Int32)) := by simp only [nz_c, (by decide : ((25 : Int32)).toInt = 25)]
          exact k1on_0_p0 hd F X1 X2 hB (by first | exact g0 | (simp only [nz_c]; exact g0)) (by first | exact ⟨by omega, by omega⟩ | (simp only [nz_c]; exact ⟨by omega, by omega⟩)) (by first | exact g1 | (simp only [nz_c]; exact g1) | (rw [n85]; exact g1)) (by first | exact ⟨by omega, by omega⟩ | (simp only [nz_c]; exact ⟨by omega, by omega⟩)) (by first | exact g2 | (simp only [nz_c]; exact g2) | (rw [n86]; exact g2)) (by first | exact ⟨by omega, by omega⟩ | (simp only [nz_c]; exact ⟨by omega, by omega⟩)) (by first | exact g3 | (simp only [nz_c]; exact g3) | (rw [n87]; exact g3)) (by first | exact ⟨by omega, by omega⟩ | (simp only [nz_c]; exact ⟨by omega, by omega⟩)) (fun F1 g e39 => by rw [(rfl : (sy_i F 83) + ((1 : Int32)) = (sy_i F 83) + ((1 : Int32)))]; exact k0 g0 g1 g2 g3 F1 (nz_in0 hB [39] (fun j hj hn => g j hj (by simp only [List.mem_cons, List.not_mem_nil, or_false, not_or] at hn; omega)) (List.forall_mem_cons.mpr ⟨fun t ht => (Option.some.inj ht) ▸ (nz_hz2 e39), List.forall_mem_nil _⟩)) (fun j hj hn => g j hj (by simp only [List.mem_cons, List.not_mem_nil, or_false, not_or] at hn; omega)) ((zz_ai e39).trans w88) (nz_fa (g 40 (by decide) (by decide))) (nz_fl (g 41 (by decide) (by decide))))
        have y3_0 := g3
        clear g3
        by_cases g3 : 61 < ((sy_ai F 2).getD ((sy_i F 83).toInt).toNat 0).toInt
        · have q85 : (sy_ai F 2).getD (sy_i F 83).toNatClampNeg 0 = (sy_ai F 2).getD ((sy_i F 83).toInt).toNat 0 := by simp only [nz_c]
          have n85 : ((sy_ai F 2).getD (sy_i F 83).toNatClampNeg 0).toInt = ((sy_ai F 2).getD ((sy_i F 83).toInt).toNat 0).toInt := congrArg Int32.toInt q85
          have r85 := nz_ba hB (k := 2) (lo := (-128)) (hi := 127) rfl ((sy_i F 83).toInt).toNat
          have q86 : (sy_ai F 2).getD (sy_i F 83).toNatClampNeg 0 = (sy_ai F 2).getD ((sy_i F 83).toInt).toNat 0 := by simp only [nz_c]
          have n86 : ((sy_ai F 2).getD (sy_i F 83).toNatClampNeg 0).toInt = ((sy_ai F 2).getD ((sy_i F 83).toInt).toNat 0).toInt := congrArg Int32.toInt q86
          have r86 := nz_ba hB (k := 2) (lo := (-128)) (hi := 127) rfl ((sy_i F 83).toInt).toNat
          have q87 : (sy_ai F 2).getD (sy_i F 83).toNatClampNeg 0 = (sy_ai F 2).getD ((sy_i F 83).toInt).toNat 0 := by simp only [nz_c]
          have n87 : ((sy_ai F 2).getD (sy_i F 83).toNatClampNeg 0).toInt = ((sy_ai F 2).getD ((sy_i F 83).toInt).toNat 0).toInt := congrArg Int32.toInt q87
          have r87 := nz_ba hB (k := 2) (lo := (-128)) (hi := 127) rfl ((sy_i F 83).toInt).toNat
          exfalso
          omega
        have y3_1 := g3
        clear g3
        by_cases g3 : ((sy_ai F 2).getD ((sy_i F 83).toInt).toNat 0).toInt = 40
        · have q85 : (sy_ai F 2).getD (sy_i F 83).toNatClampNeg 0 = (sy_ai F 2).getD ((sy_i F 83).toInt).toNat 0 := by simp only [nz_c]
          have n85 : ((sy_ai F 2).getD (sy_i F 83).toNatClampNeg 0).toInt = ((sy_ai F 2).getD ((sy_i F 83).toInt).toNat 0).toInt := congrArg Int32.toInt q85
          have r85 := nz_ba hB (k := 2) (lo := (-128)) (hi := 127) rfl ((sy_i F 83).toInt).toNat
          have q86 : (sy_ai F 2).getD (sy_i F 83).toNatClampNeg 0 = (sy_ai F 2).getD ((sy_i F 83).toInt).toNat 0 := by simp only [nz_c]
          have n86 : ((sy_ai F 2).getD (sy_i F 83).toNatClampNeg 0).toInt = ((sy_ai F 2).getD ((sy_i F 83).toInt).toNat 0).toInt := congrArg Int32.toInt q86
          have r86 := nz_ba hB (k := 2) (lo := (-128)) (hi := 127) rfl ((sy_i F 83).toInt).toNat
          have q87 : (sy_ai F 2).getD (sy_i F 83).toNatClampNeg 0 = (sy_ai F 2).getD ((sy_i F 83).toInt).toNat 0 := by simp only [nz_c]
          have n87 : ((sy_ai F 2).getD (sy_i F 83).toNatClampNeg 0).toInt = ((sy_ai F 2).getD ((sy_i F 83).toInt).toNat 0).toInt := congrArg Int32.toInt q87
          have r87 := nz_ba hB (k := 2) (lo := (-128)) (hi := 127) rfl ((sy_i F 83).toInt).toNat
          have w89 : jm_upd (sy_ai F 39) (sy_i F 82).toNatClampNeg ((sy_ai F 2).getD (sy_i F 83).toNatClampNeg 0) = jm_upd (sy_ai F 39) ((sy_i F 82).toInt).toNat ((sy_ai F 2).getD ((sy_i F 83).toInt).toNat 0) := by simp only [nz_c]
          exact k1on_0_p1 hd F X1 X2 hB (by first | exact g0 | (simp only [nz_c]; exact g0)) (by first | exact ⟨by omega, by omega⟩ | (simp only [nz_c]; exact ⟨by omega, by omega⟩)) (by first | exact g1 | (simp only [nz_c]; exact g1) | (rw [n85]; exact g1)) (by first | exact ⟨by omega, by omega⟩ | (simp only [nz_c]; exact ⟨by omega, by omega⟩)) (by first | exact g2 | (simp only [nz_c]; exact g2) | (rw [n86]; exact g2)) (by first | exact ⟨by omega, by omega⟩ | (simp only [nz_c]; exact ⟨by omega, by omega⟩)) (by first | exact g3 | (simp only [nz_c]; exact g3) | (rw [n87]; exact g3)) (by first | exact ⟨by omega, by omega⟩ | (simp only [nz_c]; exact ⟨by omega, by omega⟩)) (by first | exact ⟨by omega, by omega⟩ | (simp only [nz_c]; exact ⟨by omega, by omega⟩)) (fun F1 g e39 => by rw [(rfl : (sy_i F 83) + ((1 : Int32)) = (sy_i F 83) + ((1 : Int32)))]; exact k1 g0 g1 g2 g3 F1 (nz_in0 hB [39] (fun j hj hn => g j hj (by simp only [List.mem_cons, List.not_mem_nil, or_false, not_or] at hn; omega)) (List.forall_mem_cons.mpr ⟨fun t ht => (Option.some.inj ht) ▸ (nz_hz2 e39), List.forall_mem_nil _⟩)) (fun j hj hn => g j hj (by simp only [List.mem_cons, List.not_mem_nil, or_false, not_or] at hn; omega)) ((zz_ai e39).trans w89) (nz_fa (g 40 (by decide) (by decide))) (nz_fl (g 41 (by decide) (by decide))))
        have y3_2 := g3
        clear g3
        by_cases g3 : ((sy_ai F 2).getD ((sy_i F 83).toInt).toNat 0).toInt = 41
        · have q85 : (sy_ai F 2).getD (sy_i F 83).toNatClampNeg 0 = (sy_ai F 2).getD ((sy_i F 83).toInt).toNat 0 := by simp only [nz_c]
          have n85 : ((sy_ai F 2).getD (sy_i F 83).toNatClampNeg 0).toInt = ((sy_ai F 2).getD ((sy_i F 83).toInt).toNat 0).toInt := congrArg Int32.toInt q85
          have r85 := nz_ba hB (k := 2) (lo := (-128)) (hi := 127) rfl ((sy_i F 83).toInt).toNat
          have q86 : (sy_ai F 2).getD (sy_i F 83).toNatClampNeg 0 = (sy_ai F 2).getD ((sy_i F 83).toInt).toNat 0 := by simp only [nz_c]
          have n86 : ((sy_ai F 2).getD (sy_i F 83).toNatClampNeg 0).toInt = ((sy_ai F 2).getD ((sy_i F 83).toInt).toNat 0).toInt := congrArg Int32.toInt q86
          have r86 := nz_ba hB (k := 2) (lo := (-128)) (hi := 127) rfl ((sy_i F 83).toInt).toNat
          have q87 : (sy_ai F 2).getD (sy_i F 83).toNatClampNeg 0 = (sy_ai F 2).getD ((sy_i F 83).toInt).toNat 0 := by simp only [nz_c]
          have n87 : ((sy_ai F 2).getD (sy_i F 83).toNatClampNeg 0).toInt = ((sy_ai F 2).getD ((sy_i F 83).toInt).toNat 0).toInt := congrArg Int32.toInt q87
          have r87 := nz_ba hB (k := 2) (lo := (-128)) (hi := 127) rfl ((sy_i F 83).toInt).toNat
          have w89 : jm_upd (sy_ai F 39) (sy_i F 82).toNatClampNeg ((sy_ai F 2).getD (sy_i F 83).toNatClampNeg 0) = jm_upd (sy_ai F 39) ((sy_i F 82).toInt).toNat ((sy_ai F 2).getD ((sy_i F 83).toInt).toNat 0) := by simp only [nz_c]
          exact k1on_0_p2 hd F X1 X2 hB (by first | exact g0 | (simp only [nz_c]; exact g0)) (by first | exact ⟨by omega, by omega⟩ | (simp only [nz_c]; exact ⟨by omega, by omega⟩)) (by first | exact g1 | (simp only [nz_c]; exact g1) | (rw [n85]; exact g1)) (by first | exact ⟨by omega, by omega⟩ | (simp only [nz_c]; exact ⟨by omega, by omega⟩)) (by first | exact g2 | (simp only [nz_c]; exact g2) | (rw [n86]; exact g2)) (by first | exact ⟨by omega, by omega⟩ | (simp only [nz_c]; exact ⟨by omega, by omega⟩)) (by first | exact g3 | (simp only [nz_c]; exact g3) | (rw [n87]; exact g3)) (by first | exact ⟨by omega, by omega⟩ | (simp only [nz_c]; exact ⟨by omega, by omega⟩)) (by first | exact ⟨by omega, by omega⟩ | (simp only [nz_c]; exact ⟨by omega, by omega⟩)) (fun F1 g e39 => by rw [(rfl : (sy_i F 83) + ((1 : Int32)) = (sy_i F 83) + ((1 : Int32)))]; exact k2 g0 g1 g2 g3 F1 (nz_in0 hB [39] (fun j hj hn => g j hj (by simp only [List.mem_cons, List.not_mem_nil, or_false, not_or] at hn; omega)) (List.forall_mem_cons.mpr ⟨fun t ht => (Option.some.inj ht) ▸ (nz_hz2 e39), List.forall_mem_nil _⟩)) (fun j hj hn => g j hj (by simp only [List.mem_cons, List.not_mem_nil, or_false, not_or] at hn; omega)) ((zz_ai e39).trans w89) (nz_fa (g 40 (by decide) (by decide))) (nz_fl (g 41 (by decide) (by decide))))
        have y3_3 := g3
        clear g3
        by_cases g3 : ((sy_ai F 2).getD ((sy_i F 83).toInt).toNat 0).toInt = 42
        · have q85 : (sy_ai F 2).getD (sy_i F 83).toNatClampNeg 0 = (sy_ai F 2).getD ((sy_i F 83).toInt).toNat 0 := by simp only [nz_c]
          have n85 : ((sy_ai F 2).getD (sy_i F 83).toNatClampNeg 0).toInt = ((sy_ai F 2).getD ((sy_i F 83).toInt).toNat 0).toInt := congrArg Int32.toInt q85
          have r85 := nz_ba hB (k := 2) (lo := (-128)) (hi := 127) rfl ((sy_i F 83).toInt).toNat
          have q86 : (sy_ai F 2).getD (sy_i F 83).toNatClampNeg 0 = (sy_ai F 2).getD ((sy_i F 83).toInt).toNat 0 := by simp only [nz_c]
          have n86 : ((sy_ai F 2).getD (sy_i F 83).toNatClampNeg 0).toInt = ((sy_ai F 2).getD ((sy_i F 83).toInt).toNat 0).toInt := congrArg Int32.toInt q86
          have r86 := nz_ba hB (k := 2) (lo := (-128)) (hi := 127) rfl ((sy_i F 83).toInt).toNat
          have q87 : (sy_ai F 2).getD (sy_i F 83).toNatClampNeg 0 = (sy_ai F 2).getD ((sy_i F 83).toInt).toNat 0 := by simp only [nz_c]
          have n87 : ((sy_ai F 2).getD (sy_i F 83).toNatClampNeg 0).toInt = ((sy_ai F 2).getD ((sy_i F 83).toInt).toNat 0).toInt := congrArg Int32.toInt q87
          have r87 := nz_ba hB (k := 2) (lo := (-128)) (hi := 127) rfl ((sy_i F 83).toInt).toNat
          have w89 : jm_upd (sy_ai F 39) (sy_i F 82).toNatClampNeg ((sy_ai F 2).getD (sy_i F 83).toNatClampNeg 0) = jm_upd (sy_ai F 39) ((sy_i F 82).toInt).toNat ((sy_ai F 2).getD ((sy_i F 83).toInt).toNat 0) := by simp only [nz_c]
          exact k1on_0_p3 hd F X1 X2 hB (by first | exact g0 | (simp only [nz_c]; exact g0)) (by first | exact ⟨by omega, by omega⟩ | (simp only [nz_c]; exact ⟨by omega, by omega⟩)) (by first | exact g1 | (simp only [nz_c]; exact g1) | (rw [n85]; exact g1)) (by first | exact ⟨by omega, by omega⟩ | (simp only [nz_c]; exact ⟨by omega, by omega⟩)) (by first | exact g2 | (simp only [nz_c]; exact g2) | (rw [n86]; exact g2)) (by first | exact ⟨by omega, by omega⟩ | (simp only [nz_c]; exact ⟨by omega, by omega⟩)) (by first | exact g3 | (simp only [nz_c]; exact g3) | (rw [n87]; exact g3)) (by first | exact ⟨by omega, by omega⟩ | (simp only [nz_c]; exact ⟨by omega, by omega⟩)) (by first | exact ⟨by omega, by omega⟩ | (simp only [nz_c]; exact ⟨by omega, by omega⟩)) (fun F1 g e39 => by rw [(rfl : (sy_i F 83) + ((1 : Int32)) = (sy_i F 83) + ((1 : Int32)))]; exact k3 g0 g1 g2 g3 F1 (nz_in0 hB [39] (fun j hj hn => g j hj (by simp only [List.mem_cons, List.not_mem_nil, or_false, not_or] at hn; omega)) (List.forall_mem_cons.mpr ⟨fun t ht => (Option.some.inj ht) ▸ (nz_hz2 e39), List.forall_mem_nil _⟩)) (fun j hj hn => g j hj (by simp only [List.mem_cons, List.not_mem_nil, or_false, not_or] at hn; omega)) ((zz_ai e39).trans w89) (nz_fa (g 40 (by decide) (by decide))) (nz_fl (g 41 (by decide) (by decide))))
        have y3_4 := g3
        clear g3
        by_cases g3 : ((sy_ai F 2).getD ((sy_i F 83).toInt).toNat 0).toInt = 43
        · have q85 : (sy_ai F 2).getD (sy_i F 83).toNatClampNeg 0 = (sy_ai F 2).getD ((sy_i F 83).toInt).toNat 0 := by simp only [nz_c]
          have n85 : ((sy_ai F 2).getD (sy_i F 83).toNatClampNeg 0).toInt = ((sy_ai F 2).getD ((sy_i F 83).toInt).toNat 0).toInt := congrArg Int32.toInt q85
          have r85 := nz_ba hB (k := 2) (lo := (-128)) (hi := 127) rfl ((sy_i F 83).toInt).toNat
          have q86 : (sy_ai F 2).getD (sy_i F 83).toNatClampNeg 0 = (sy_ai F 2).getD ((sy_i F 83).toInt).toNat 0 := by simp only [nz_c]
          have n86 : ((sy_ai F 2).getD (sy_i F 83).toNatClampNeg 0).toInt = ((sy_ai F 2).getD ((sy_i F 83).toInt).toNat 0).toInt := congrArg Int32.toInt q86
          have r86 := nz_ba hB (k := 2) (lo := (-128)) (hi := 127) rfl ((sy_i F 83).toInt).toNat
          have q87 : (sy_ai F 2).getD (sy_i F 83).toNatClampNeg 0 = (sy_ai F 2).getD ((sy_i F 83).toInt).toNat 0 := by simp only [nz_c]
          have n87 : ((sy_ai F 2).getD (sy_i F 83).toNatClampNeg 0).toInt = ((sy_ai F 2).getD ((sy_i F 83).toInt).toNat 0).toInt := congrArg Int32.toInt q87
          have r87 := nz_ba hB (k := 2) (lo := (-128)) (hi := 127) rfl ((sy_i F 83).toInt).toNat
          have w89 : jm_upd (sy_ai F 39) (sy_i F 82).toNatClampNeg ((sy_ai F 2).getD (sy_i F 83).toNatClampNeg 0) = jm_upd (sy_ai F 39) ((sy_i F 82).toInt).toNat ((sy_ai F 2).getD ((sy_i F 83).toInt).toNat 0) := by simp only [nz_c]
          exact k1on_0_p4 hd F X1 X2 hB (by first | exact g0 | (simp only [nz_c]; exact g0)) (by first | exact ⟨by omega, by omega⟩ | (simp only [nz_c]; exact ⟨by omega, by omega⟩)) (by first | exact g1 | (simp only [nz_c]; exact g1) | (rw [n85]; exact g1)) (by first | exact ⟨by omega, by omega⟩ | (simp only [nz_c]; exact ⟨by omega, by omega⟩)) (by first | exact g2 | (simp only [nz_c]; exact g2) | (rw [n86]; exact g2)) (by first | exact ⟨by omega, by omega⟩ | (simp only [nz_c]; exact ⟨by omega, by omega⟩)) (by first | exact g3 | (simp only [nz_c]; exact g3) | (rw [n87]; exact g3)) (by first | exact ⟨by omega, by omega⟩ | (simp only [nz_c]; exact ⟨by omega, by omega⟩)) (by first | exact ⟨by omega, by omega⟩ | (simp only [nz_c]; exact ⟨by omega, by omega⟩)) (fun F1 g e39 => by rw [(rfl : (sy_i F 83) + ((1 : Int32)) = (sy_i F 83) + ((1 : Int32)))]; exact k4 g0 g1 g2 g3 F1 (nz_in0 hB [39] (fun j hj hn => g j hj (by simp only [List.mem_cons, List.not_mem_nil, or_false, not_or] at hn; omega)) (List.forall_mem_cons.mpr ⟨fun t ht => (Option.some.inj ht) ▸ (nz_hz2 e39), List.forall_mem_nil _⟩)) (fun j hj hn => g j hj (by simp only [List.mem_cons, List.not_mem_nil, or_false, not_or] at hn; omega)) ((zz_ai e39).trans w89) (nz_fa (g 40 (by decide) (by decide))) (nz_fl (g 41 (by decide) (by decide))))
        have y3_5 := g3
        clear g3
        by_cases g3 : ((sy_ai F 2).getD ((sy_i F 83).toInt).toNat 0).toInt = 44
        · have q85 : (sy_ai F 2).getD (sy_i F 83).toNatClampNeg 0 = (sy_ai F 2).getD ((sy_i F 83).toInt).toNat 0 := by simp only [nz_c]
          have n85 : ((sy_ai F 2).getD (sy_i F 83).toNatClampNeg 0).toInt = ((sy_ai F 2).getD ((sy_i F 83).toInt).toNat 0).toInt := congrArg Int32.toInt q85
          have r85 := nz_ba hB (k := 2) (lo := (-128)) (hi := 127) rfl ((sy_i F 83).toInt).toNat
          have q86 : (sy_ai F 2).getD (sy_i F 83).toNatClampNeg 0 = (sy_ai F 2).getD ((sy_i F 83).toInt).toNat 0 := by simp only [nz_c]
          have n86 : ((sy_ai F 2).getD (sy_i F 83).toNatClampNeg 0).toInt = ((sy_ai F 2).getD ((sy_i F 83).toInt).toNat 0).toInt := congrArg Int32.toInt q86
          have r86 := nz_ba hB (k := 2) (lo := (-128)) (hi := 127) rfl ((sy_i F 83).toInt).toNat
          have q87 : (sy_ai F 2).getD (sy_i F 83).toNatClampNeg 0 = (sy_ai F 2).getD ((sy_i F 83).toInt).toNat 0 := by simp only [nz_c]
          have n87 : ((sy_ai F 2).getD (sy_i F 83).toNatClampNeg 0).toInt = ((sy_ai F 2).getD ((sy_i F 83).toInt).toNat 0).toInt := congrArg Int32.toInt q87
          have r87 := nz_ba hB (k := 2) (lo := (-128)) (hi := 127) rfl ((sy_i F 83).toInt).toNat
          have w88 : jm_upd (sy_ai F 39) (sy_i F 82).toNatClampNeg ((25 : Int32)) = jm_upd (sy_ai F 39) ((sy_i F 82).toInt).toNat ((25 : Int32)) := by simp only [nz_c, (by decide : ((25 : Int32)).toInt = 25)]
          exact k1on_0_p5 hd F X1 X2 hB (by first | exact g0 | (simp only [nz_c]; exact g0)) (by first | exact ⟨by omega, by omega⟩ | (simp only [nz_c]; exact ⟨by omega, by omega⟩)) (by first | exact g1 | (simp only [nz_c]; exact g1) | (rw [n85]; exact g1)) (by first | exact ⟨by omega, by omega⟩ | (simp only [nz_c]; exact ⟨by omega, by omega⟩)) (by first | exact g2 | (simp only [nz_c]; exact g2) | (rw [n86]; exact g2)) (by first | exact ⟨by omega, by omega⟩ | (simp only [nz_c]; exact ⟨by omega, by omega⟩)) (by first | exact g3 | (simp only [nz_c]; exact g3) | (rw [n87]; exact g3)) (by first | exact ⟨by omega, by omega⟩ | (simp only [nz_c]; exact ⟨by omega, by omega⟩)) (fun F1 g e39 => by rw [(rfl : (sy_i F 83) + ((1 : Int32)) = (sy_i F 83) + ((1 : Int32)))]; exact k5 g0 g1 g2 g3 F1 (nz_in0 hB [39] (fun j hj hn => g j hj (by simp only [List.mem_cons, List.not_mem_nil, or_false, not_or] at hn; omega)) (List.forall_mem_cons.mpr ⟨fun t ht => (Option.some.inj ht) ▸ (nz_hz2 e39), List.forall_mem_nil _⟩)) (fun j hj hn => g j hj (by simp only [List.mem_cons, List.not_mem_nil, or_false, not_or] at hn; omega)) ((zz_ai e39).trans w88) (nz_fa (g 40 (by decide) (by decide))) (nz_fl (g 41 (by decide) (by decide))))
        have y3_6 := g3
        clear g3
        by_cases g3 : ((sy_ai F 2).getD ((sy_i F 83).toInt).toNat 0).toInt = 45
        · have q85 : (sy_ai F 2).getD (sy_i F 83).toNatClampNeg 0 = (sy_ai F 2).getD ((sy_i F 83).toInt).toNat 0 := by simp only [nz_c]
          have n85 : ((sy_ai F 2).getD (sy_i F 83).toNatClampNeg 0).toInt = ((sy_ai F 2).getD ((sy_i F 83).toInt).toNat 0).toInt := congrArg Int32.toInt q85
          have r85 := nz_ba hB (k := 2) (lo := (-128)) (hi := 127) rfl ((sy_i F 83).toInt).toNat
          have q86 : (sy_ai F 2).getD (sy_i F 83).toNatClampNeg 0 = (sy_ai F 2).getD ((sy_i F 83).toInt).toNat 0 := by simp only [nz_c]
          have n86 : ((sy_ai F 2).getD (sy_i F 83).toNatClampNeg 0).toInt = ((sy_ai F 2).getD ((sy_i F 83).toInt).toNat 0).toInt := congrArg Int32.toInt q86
          have r86 := nz_ba hB (k := 2) (lo := (-128)) (hi := 127) rfl ((sy_i F 83).toInt).toNat
          have q87 : (sy_ai F 2).getD (sy_i F 83).toNatClampNeg 0 = (sy_ai F 2).getD ((sy_i F 83).toInt).toNat 0 := by simp only [nz_c]
          have n87 : ((sy_ai F 2).getD (sy_i F 83).toNatClampNeg 0).toInt = ((sy_ai F 2).getD ((sy_i F 83).toInt).toNat 0).toInt := congrArg Int32.toInt q87
          have r87 := nz_ba hB (k := 2) (lo := (-128)) (hi := 127) rfl ((sy_i F 83).toInt).toNat
          have w89 : jm_upd (sy_ai F 39) (sy_i F 82).toNatClampNeg ((sy_ai F 2).getD (sy_i F 83).toNatClampNeg 0) = jm_upd (sy_ai F 39) ((sy_i F 82).toInt).toNat ((sy_ai F 2).getD ((sy_i F 83).toInt).toNat 0) := by simp only [nz_c]
          exact k1on_0_p6 hd F X1 X2 hB (by first | exact g0 | (simp only [nz_c]; exact g0)) (by first | exact ⟨by omega, by omega⟩ | (simp only [nz_c]; exact ⟨by omega, by omega⟩)) (by first | exact g1 | (simp only [nz_c]; exact g1) | (rw [n85]; exact g1)) (by first | exact ⟨by omega, by omega⟩ | (simp only [nz_c]; exact ⟨by omega, by omega⟩)) (by first | exact g2 | (simp only [nz_c]; exact g2) | (rw [n86]; exact g2)) (by first | exact ⟨by omega, by omega⟩ | (simp only [nz_c]; exact ⟨by omega, by omega⟩)) (by first | exact g3 | (simp only [nz_c]; exact g3) | (rw [n87]; exact g3)) (by first | exact ⟨by omega, by omega⟩ | (simp only [nz_c]; exact ⟨by omega, by omega⟩)) (by first | exact ⟨by omega, by omega⟩ | (simp only [nz_c]; exact ⟨by omega, by omega⟩)) (fun F1 g e39 => by rw [(rfl : (sy_i F 83) + ((1 : Int32)) = (sy_i F 83) + ((1 : Int32)))]; exact k6 g0 g1 g2 g3 F1 (nz_in0 hB [39] (fun j hj hn => g j hj (by simp only [List.mem_cons, List.not_mem_nil, or_false, not_or] at hn; omega)) (List.forall_mem_cons.mpr ⟨fun t ht => (Option.some.inj ht) ▸ (nz_hz2 e39), List.forall_mem_nil _⟩)) (fun j hj hn => g j hj (by simp only [List.mem_cons, List.not_mem_nil, or_false, not_or] at hn; omega)) ((zz_ai e39).trans w89) (nz_fa (g 40 (by decide) (by decide))) (nz_fl (g 41 (by decide) (by decide))))
        have y3_7 := g3
        clear g3
        by_cases g3 : ((sy_ai F 2).getD ((sy_i F 83).toInt).toNat 0).toInt = 46
        · have q85 : (sy_ai F 2).getD (sy_i F 83).toNatClampNeg 0 = (sy_ai F 2).getD ((sy_i F 83).toInt).toNat 0 := by simp only [nz_c]
          have n85 : ((sy_ai F 2).getD (sy_i F 83).toNatClampNeg 0).toInt = ((sy_ai F 2).getD ((sy_i F 83).toInt).toNat 0).toInt := congrArg Int32.toInt q85
          have r85 := nz_ba hB (k := 2) (lo := (-128)) (hi := 127) rfl ((sy_i F 83).toInt).toNat
          have q86 : (sy_ai F 2).getD (sy_i F 83).toNatClampNeg 0 = (sy_ai F 2).getD ((sy_i F 83).toInt).toNat 0 := by simp only [nz_c]
          have n86 : ((sy_ai F 2).getD (sy_i F 83).toNatClampNeg 0).toInt = ((sy_ai F 2).getD ((sy_i F 83).toInt).toNat 0).toInt := congrArg Int32.toInt q86
          have r86 := nz_ba hB (k := 2) (lo := (-128)) (hi := 127) rfl ((sy_i F 83).toInt).toNat
          have q87 : (sy_ai F 2).getD (sy_i F 83).toNatClampNeg 0 = (sy_ai F 2).getD ((sy_i F 83).toInt).toNat 0 := by simp only [nz_c]
          have n87 : ((sy_ai F 2).getD (sy_i F 83).toNatClampNeg 0).toInt = ((sy_ai F 2).getD ((sy_i F 83).toInt).toNat 0).toInt := congrArg Int32.toInt q87
          have r87 := nz_ba hB (k := 2) (lo := (-128)) (hi := 127) rfl ((sy_i F 83).toInt).toNat
          have w88 : jm_upd (sy_ai F 39) (sy_i F 82).toNatClampNeg ((25 : Int32)) = jm_upd (sy_ai F 39) ((sy_i F 82).toInt).toNat ((25 : Int32)) := by simp only [nz_c, (by decide : ((25 : Int32)).toInt = 25)]
          exact k1on_0_p7 hd F X1 X2 hB (by first | exact g0 | (simp only [nz_c]; exact g0)) (by first | exact ⟨by omega, by omega⟩ | (simp only [nz_c]; exact ⟨by omega, by omega⟩)) (by first | exact g1 | (simp only [nz_c]; exact g1) | (rw [n85]; exact g1)) (by first | exact ⟨by omega, by omega⟩ | (simp only [nz_c]; exact ⟨by omega, by omega⟩)) (by first | exact g2 | (simp only [nz_c]; exact g2) | (rw [n86]; exact g2)) (by first | exact ⟨by omega, by omega⟩ | (simp only [nz_c]; exact ⟨by omega, by omega⟩)) (by first | exact g3 | (simp only [nz_c]; exact g3) | (rw [n87]; exact g3)) (by first | exact ⟨by omega, by omega⟩ | (simp only [nz_c]; exact ⟨by omega, by omega⟩)) (fun F1 g e39 => by rw [(rfl : (sy_i F 83) + ((1 : Int32)) = (sy_i F 83) + ((1 : Int32)))]; exact k7 g0 g1 g2 g3 F1 (nz_in0 hB [39] (fun j hj hn => g j hj (by simp only [List.mem_cons, List.not_mem_nil, or_false, not_or] at hn; omega)) (List.forall_mem_cons.mpr ⟨fun t ht => (Option.some.inj ht) ▸ (nz_hz2 e39), List.forall_mem_nil _⟩)) (fun j hj hn => g j hj (by simp only [List.mem_cons, List.not_mem_nil, or_false, not_or] at hn; omega)) ((zz_ai e39).trans w88) (nz_fa (g 40 (by decide) (by decide))) (nz_fl (g 41 (by decide) (by decide))))
        have y3_8 := g3
        clear g3
        by_cases g3 : ((sy_ai F 2).getD ((sy_i F 83).toInt).toNat 0).toInt = 47
        · have q85 : (sy_ai F 2).getD (sy_i F 83).toNatClampNeg 0 = (sy_ai F 2).getD ((sy_i F 83).toInt).toNat 0 := by simp only [nz_c]
          have n85 : ((sy_ai F 2).getD (sy_i F 83).toNatClampNeg 0).toInt = ((sy_ai F 2).getD ((sy_i F 83).toInt).toNat 0).toInt := congrArg Int32.toInt q85
          have r85 := nz_ba hB (k := 2) (lo := (-128)) (hi := 127) rfl ((sy_i F 83).toInt).toNat
          have q86 : (sy_ai F 2).getD (sy_i F 83).toNatClampNeg 0 = (sy_ai F 2).getD ((sy_i F 83).toInt).toNat 0 := by simp only [nz_c]
          have n86 : ((sy_ai F 2).getD (sy_i F 83).toNatClampNeg 0).toInt = ((sy_ai F 2).getD ((sy_i F 83).toInt).toNat 0).toInt := congrArg Int32.toInt q86
          have r86 := nz_ba hB (k := 2) (lo := (-128)) (hi := 127) rfl ((sy_i F 83).toInt).toNat
          have q87 : (sy_ai F 2).getD (sy_i F 83).toNatClampNeg 0 = (sy_ai F 2).getD ((sy_i F 83).toInt).toNat 0 := by simp only [nz_c]
          have n87 : ((sy_ai F 2).getD (sy_i F 83).toNatClampNeg 0).toInt = ((sy_ai F 2).getD ((sy_i F 83).toInt).toNat 0).toInt := congrArg Int32.toInt q87
          have r87 := nz_ba hB (k := 2) (lo := (-128)) (hi := 127) rfl ((sy_i F 83).toInt).toNat
          have w89 : jm_upd (sy_ai F 39) (sy_i F 82).toNatClampNeg ((sy_ai F 2).getD (sy_i F 83).toNatClampNeg 0) = jm_upd (sy_ai F 39) ((sy_i F 82).toInt).toNat ((sy_ai F 2).getD ((sy_i F 83).toInt).toNat 0) := by simp only [nz_c]
          exact k1on_0_p8 hd F X1 X2 hB (by first | exact g0 | (simp only [nz_c]; exact g0)) (by first | exact ⟨by omega, by omega⟩ | (simp only [nz_c]; exact ⟨by omega, by omega⟩)) (by first | exact g1 | (simp only [nz_c]; exact g1) | (rw [n85]; exact g1)) (by first | exact ⟨by omega, by omega⟩ | (simp only [nz_c]; exact ⟨by omega, by omega⟩)) (by first | exact g2 | (simp only [nz_c]; exact g2) | (rw [n86]; exact g2)) (by first | exact ⟨by omega, by omega⟩ | (simp only [nz_c]; exact ⟨by omega, by omega⟩)) (by first | exact g3 | (simp only [nz_c]; exact g3) | (rw [n87]; exact g3)) (by first | exact ⟨by omega, by omega⟩ | (simp only [nz_c]; exact ⟨by omega, by omega⟩)) (by first | exact ⟨by omega, by omega⟩ | (simp only [nz_c]; exact ⟨by omega, by omega⟩)) (fun F1 g e39 => by rw [(rfl : (sy_i F 83) + ((1 : Int32)) = (sy_i F 83) + ((1 : Int32)))]; exact k8 g0 g1 g2 g3 F1 (nz_in0 hB [39] (fun j hj hn => g j hj (by simp only [List.mem_cons, List.not_mem_nil, or_false, not_or] at hn; omega)) (List.forall_mem_cons.mpr ⟨fun t ht => (Option.some.inj ht) ▸ (nz_hz2 e39), List.forall_mem_nil _⟩)) (fun j hj hn => g j hj (by simp only [List.mem_cons, List.not_mem_nil, or_false, not_or] at hn; omega)) ((zz_ai e39).trans w89) (nz_fa (g 40 (by decide) (by decide))) (nz_fl (g 41 (by decide) (by decide))))
        have y3_9 := g3
        clear g3
        by_cases g3 : ((sy_ai F 2).getD ((sy_i F 83).toInt).toNat 0).toInt = 48
        · have q85 : (sy_ai F 2).getD (sy_i F 83).toNatClampNeg 0 = (sy_ai F 2).getD ((sy_i F 83).toInt).toNat 0 := by simp only [nz_c]
          have n85 : ((sy_ai F 2).getD (sy_i F 83).toNatClampNeg 0).toInt = ((sy_ai F 2).getD ((sy_i F 83).toInt).toNat 0).toInt := congrArg Int32.toInt q85
          have r85 := nz_ba hB (k := 2) (lo := (-128)) (hi := 127) rfl ((sy_i F 83).toInt).toNat
          have q86 : (sy_ai F 2).getD (sy_i F 83).toNatClampNeg 0 = (sy_ai F 2).getD ((sy_i F 83).toInt).toNat 0 := by simp only [nz_c]
          have n86 : ((sy_ai F 2).getD (sy_i F 83).toNatClampNeg 0).toInt = ((sy_ai F 2).getD ((sy_i F 83).toInt).toNat 0).toInt := congrArg Int32.toInt q86
          have r86 := nz_ba hB (k := 2) (lo := (-128)) (hi := 127) rfl ((sy_i F 83).toInt).toNat
          have q87 : (sy_ai F 2).getD (sy_i F 83).toNatClampNeg 0 = (sy_ai F 2).getD ((sy_i F 83).toInt).toNat 0 := by simp only [nz_c]
          have n87 : ((sy_ai F 2).getD (sy_i F 83).toNatClampNeg 0).toInt = ((sy_ai F 2).getD ((sy_i F 83).toInt).toNat 0).toInt := congrArg Int32.toInt q87
          have r87 := nz_ba hB (k := 2) (lo := (-128)) (hi := 127) rfl ((sy_i F 83).toInt).toNat
          exfalso
          omega
        have y3_10 := g3
        clear g3
        by_cases g3 : ((sy_ai F 2).getD ((sy_i F 83).toInt).toNat 0).toInt = 49
        · have q85 : (sy_ai F 2).getD (sy_i F 83).toNatClampNeg 0 = (sy_ai F 2).getD ((sy_i F 83).toInt).toNat 0 := by simp only [nz_c]
          have n85 : ((sy_ai F 2).getD (sy_i F 83).toNatClampNeg 0).toInt = ((sy_ai F 2).getD ((sy_i F 83).toInt).toNat 0).toInt := congrArg Int32.toInt q85
          have r85 := nz_ba hB (k := 2) (lo := (-128)) (hi := 127) rfl ((sy_i F 83).toInt).toNat
          have q86 : (sy_ai F 2).getD (sy_i F 83).toNatClampNeg 0 = (sy_ai F 2).getD ((sy_i F 83).toInt).toNat 0 := by simp only [nz_c]
          have n86 : ((sy_ai F 2).getD (sy_i F 83).toNatClampNeg 0).toInt = ((sy_ai F 2).getD ((sy_i F 83).toInt).toNat 0).toInt := congrArg Int32.toInt q86
          have r86 := nz_ba hB (k := 2) (lo := (-128)) (hi := 127) rfl ((sy_i F 83).toInt).toNat
          have q87 : (sy_ai F 2).getD (sy_i F 83).toNatClampNeg 0 = (sy_ai F 2).getD ((sy_i F 83).toInt).toNat 0 := by simp only [nz_c]
          have n87 : ((sy_ai F 2).getD (sy_i F 83).toNatClampNeg 0).toInt = ((sy_ai F 2).getD ((sy_i F 83).toInt).toNat 0).toInt := congrArg Int32.toInt q87
          have r87 := nz_ba hB (k := 2) (lo := (-128)) (hi := 127) rfl ((sy_i F 83).toInt).toNat
          exfalso
          omega
        have y3_11 := g3
        clear g3
        by_cases g3 : ((sy_ai F 2).getD ((sy_i F 83).toInt).toNat 0).toInt = 50
        · have q85 : (sy_ai F 2).getD (sy_i F 83).toNatClampNeg 0 = (sy_ai F 2).getD ((sy_i F 83).toInt).toNat 0 := by simp only [nz_c]
          have n85 : ((sy_ai F 2).getD (sy_i F 83).toNatClampNeg 0).toInt = ((sy_ai F 2).getD ((sy_i F 83).toInt).toNat 0).toInt := congrArg Int32.toInt q85
          have r85 := nz_ba hB (k := 2) (lo := (-128)) (hi := 127) rfl ((sy_i F 83).toInt).toNat
          have q86 : (sy_ai F 2).getD (sy_i F 83).toNatClampNeg 0 = (sy_ai F 2).getD ((sy_i F 83).toInt).toNat 0 := by simp only [nz_c]
          have n86 : ((sy_ai F 2).getD (sy_i F 83).toNatClampNeg 0).toInt = ((sy_ai F 2).getD ((sy_i F 83).toInt).toNat 0).toInt := congrArg Int32.toInt q86
          have r86 := nz_ba hB (k := 2) (lo := (-128)) (hi := 127) rfl ((sy_i F 83).toInt).toNat
          have q87 : (sy_ai F 2).getD (sy_i F 83).toNatClampNeg 0 = (sy_ai F 2).getD ((sy_i F 83).toInt).toNat 0 := by simp only [nz_c]
          have n87 : ((sy_ai F 2).getD (sy_i F 83).toNatClampNeg 0).toInt = ((sy_ai F 2).getD ((sy_i F 83).toInt).toNat 0).toInt := congrArg Int32.toInt q87
          have r87 := nz_ba hB (k := 2) (lo := (-128)) (hi := 127) rfl ((sy_i F 83).toInt).toNat
          exfalso
          omega
        have y3_12 := g3
        clear g3
        by_cases g3 : ((sy_ai F 2).getD ((sy_i F 83).toInt).toNat 0).toInt = 51
        · have q85 : (sy_ai F 2).getD (sy_i F 83).toNatClampNeg 0 = (sy_ai F 2).getD ((sy_i F 83).toInt).toNat 0 := by simp only [nz_c]
          have n85 : ((sy_ai F 2).getD (sy_i F 83).toNatClampNeg 0).toInt = ((sy_ai F 2).getD ((sy_i F 83).toInt).toNat 0).toInt := congrArg Int32.toInt q85
          have r85 := nz_ba hB (k := 2) (lo := (-128)) (hi := 127) rfl ((sy_i F 83).toInt).toNat
          have q86 : (sy_ai F 2).getD (sy_i F 83).toNatClampNeg 0 = (sy_ai F 2).getD ((sy_i F 83).toInt).toNat 0 := by simp only [nz_c]
          have n86 : ((sy_ai F 2).getD (sy_i F 83).toNatClampNeg 0).toInt = ((sy_ai F 2).getD ((sy_i F 83).toInt).toNat 0).toInt := congrArg Int32.toInt q86
          have r86 := nz_ba hB (k := 2) (lo := (-128)) (hi := 127) rfl ((sy_i F 83).toInt).toNat
          have q87 : (sy_ai F 2).getD (sy_i F 83).toNatClampNeg 0 = (sy_ai F 2).getD ((sy_i F 83).toInt).toNat 0 := by simp only [nz_c]
          have n87 : ((sy_ai F 2).getD (sy_i F 83).toNatClampNeg 0).toInt = ((sy_ai F 2).getD ((sy_i F 83).toInt).toNat 0).toInt := congrArg Int32.toInt q87
          have r87 := nz_ba hB (k := 2) (lo := (-128)) (hi := 127) rfl ((sy_i F 83).toInt).toNat
          exfalso
          omega
        have y3_13 := g3
        clear g3
        by_cases g3 : ((sy_ai F 2).getD ((sy_i F 83).toInt).toNat 0).toInt = 52
        · have q85 : (sy_ai F 2).getD (sy_i F 83).toNatClampNeg 0 = (sy_ai F 2).getD ((sy_i F 83).toInt).toNat 0 := by simp only [nz_c]
          have n85 : ((sy_ai F 2).getD (sy_i F 83).toNatClampNeg 0).toInt = ((sy_ai F 2).getD ((sy_i F 83).toInt).toNat 0).toInt := congrArg Int32.toInt q85
          have r85 := nz_ba hB (k := 2) (lo := (-128)) (hi := 127) rfl ((sy_i F 83).toInt).toNat
          have q86 : (sy_ai F 2).getD (sy_i F 83).toNatClampNeg 0 = (sy_ai F 2).getD ((sy_i F 83).toInt).toNat 0 := by simp only [nz_c]
          have n86 : ((sy_ai F 2).getD (sy_i F 83).toNatClampNeg 0).toInt = ((sy_ai F 2).getD ((sy_i F 83).toInt).toNat 0).toInt := congrArg Int32.toInt q86
          have r86 := nz_ba hB (k := 2) (lo := (-128)) (hi := 127) rfl ((sy_i F 83).toInt).toNat
          have q87 : (sy_ai F 2).getD (sy_i F 83).toNatClampNeg 0 = (sy_ai F 2).getD ((sy_i F 83).toInt).toNat 0 := by simp only [nz_c]
          have n87 : ((sy_ai F 2).getD (sy_i F 83).toNatClampNeg 0).toInt = ((sy_ai F 2).getD ((sy_i F 83).toInt).toNat 0).toInt := congrArg Int32.toInt q87
          have r87 := nz_ba hB (k := 2) (lo := (-128)) (hi := 127) rfl ((sy_i F 83).toInt).toNat
          exfalso
          omega
        have y3_14 := g3
        clear g3
        by_cases g3 : ((sy_ai F 2).getD ((sy_i F 83).toInt).toNat 0).toInt = 53
        · have q85 : (sy_ai F 2).getD (sy_i F 83).toNatClampNeg 0 = (sy_ai F 2).getD ((sy_i F 83).toInt).toNat 0 := by simp only [nz_c]
          have n85 : ((sy_ai F 2).getD (sy_i F 83).toNatClampNeg 0).toInt = ((sy_ai F 2).getD ((sy_i F 83).toInt).toNat 0).toInt := congrArg Int32.toInt q85
          have r85 := nz_ba hB (k := 2) (lo := (-128)) (hi := 127) rfl ((sy_i F 83).toInt).toNat
          have q86 : (sy_ai F 2).getD (sy_i F 83).toNatClampNeg 0 = (sy_ai F 2).getD ((sy_i F 83).toInt).toNat 0 := by simp only [nz_c]
          have n86 : ((sy_ai F 2).getD (sy_i F 83).toNatClampNeg 0).toInt = ((sy_ai F 2).getD ((sy_i F 83).toInt).toNat 0).toInt := congrArg Int32.toInt q86
          have r86 := nz_ba hB (k := 2) (lo := (-128)) (hi := 127) rfl ((sy_i F 83).toInt).toNat
          have q87 : (sy_ai F 2).getD (sy_i F 83).toNatClampNeg 0 = (sy_ai F 2).getD ((sy_i F 83).toInt).toNat 0 := by simp only [nz_c]
          have n87 : ((sy_ai F 2).getD (sy_i F 83).toNatClampNeg 0).toInt = ((sy_ai F 2).getD ((sy_i F 83).toInt).toNat 0).toInt := congrArg Int32.toInt q87
          have r87 := nz_ba hB (k := 2) (lo := (-128)) (hi := 127) rfl ((sy_i F 83).toInt).toNat
          exfalso
          omega
        have y3_15 := g3
        clear g3
        by_cases g3 : ((sy_ai F 2).getD ((sy_i F 83).toInt).toNat 0).toInt = 54
        · have q85 : (sy_ai F 2).getD (sy_i F 83).toNatClampNeg 0 = (sy_ai F 2).getD ((sy_i F 83).toInt).toNat 0 := by simp only [nz_c]
          have n85 : ((sy_ai F 2).getD (sy_i F 83).toNatClampNeg 0).toInt = ((sy_ai F 2).getD ((sy_i F 83).toInt).toNat 0).toInt := congrArg Int32.toInt q85
          have r85 := nz_ba hB (k := 2) (lo := (-128)) (hi := 127) rfl ((sy_i F 83).toInt).toNat
          have q86 : (sy_ai F 2).getD (sy_i F 83).toNatClampNeg 0 = (sy_ai F 2).getD ((sy_i F 83).toInt).toNat 0 := by simp only [nz_c]
          have n86 : ((sy_ai F 2).getD (sy_i F 83).toNatClampNeg 0).toInt = ((sy_ai F 2).getD ((sy_i F 83).toInt).toNat 0).toInt := congrArg Int32.toInt q86
          have r86 := nz_ba hB (k := 2) (lo := (-128)) (hi := 127) rfl ((sy_i F 83).toInt).toNat
          have q87 : (sy_ai F 2).getD (sy_i F 83).toNatClampNeg 0 = (sy_ai F 2).getD ((sy_i F 83).toInt).toNat 0 := by simp only [nz_c]
          have n87 : ((sy_ai F 2).getD (sy_i F 83).toNatClampNeg 0).toInt = ((sy_ai F 2).getD ((sy_i F 83).toInt).toNat 0).toInt := congrArg Int32.toInt q87
          have r87 := nz_ba hB (k := 2) (lo := (-128)) (hi := 127) rfl ((sy_i F 83).toInt).toNat
          exfalso
          omega
        have y3_16 := g3
        clear g3
        by_cases g3 : ((sy_ai F 2).getD ((sy_i F 83).toInt).toNat 0).toInt = 55
        · have q85 : (sy_ai F 2).getD (sy_i F 83).toNatClampNeg 0 = (sy_ai F 2).getD ((sy_i F 83).toInt).toNat 0 := by simp only [nz_c]
          have n85 : ((sy_ai F 2).getD (sy_i F 83).toNatClampNeg 0).toInt = ((sy_ai F 2).getD ((sy_i F 83).toInt).toNat 0).toInt := congrArg Int32.toInt q85
          have r85 := nz_ba hB (k := 2) (lo := (-128)) (hi := 127) rfl ((sy_i F 83).toInt).toNat
          have q86 : (sy_ai F 2).getD (sy_i F 83).toNatClampNeg 0 = (sy_ai F 2).getD ((sy_i F 83).toInt).toNat 0 := by simp only [nz_c]
          have n86 : ((sy_ai F 2).getD (sy_i F 83).toNatClampNeg 0).toInt = ((sy_ai F 2).getD ((sy_i F 83).toInt).toNat 0).toInt := congrArg Int32.toInt q86
          have r86 := nz_ba hB (k := 2) (lo := (-128)) (hi := 127) rfl ((sy_i F 83).toInt).toNat
          have q87 : (sy_ai F 2).getD (sy_i F 83).toNatClampNeg 0 = (sy_ai F 2).getD ((sy_i F 83).toInt).toNat 0 := by simp only [nz_c]
          have n87 : ((sy_ai F 2).getD (sy_i F 83).toNatClampNeg 0).toInt = ((sy_ai F 2).getD ((sy_i F 83).toInt).toNat 0).toInt := congrArg Int32.toInt q87
          have r87 := nz_ba hB (k := 2) (lo := (-128)) (hi := 127) rfl ((sy_i F 83).toInt).toNat
          exfalso
          omega
        have y3_17 := g3
        clear g3
        by_cases g3 : ((sy_ai F 2).getD ((sy_i F 83).toInt).toNat 0).toInt = 56
        · have q85 : (sy_ai F 2).getD (sy_i F 83).toNatClampNeg 0 = (sy_ai F 2).getD ((sy_i F 83).toInt).toNat 0 := by simp only [nz_c]
          have n85 : ((sy_ai F 2).getD (sy_i F 83).toNatClampNeg 0).toInt = ((sy_ai F 2).getD ((sy_i F 83).toInt).toNat 0).toInt := congrArg Int32.toInt q85
          have r85 := nz_ba hB (k := 2) (lo := (-128)) (hi := 127) rfl ((sy_i F 83).toInt).toNat
          have q86 : (sy_ai F 2).getD (sy_i F 83).toNatClampNeg 0 = (sy_ai F 2).getD ((sy_i F 83).toInt).toNat 0 := by simp only [nz_c]
          have n86 : ((sy_ai F 2).getD (sy_i F 83).toNatClampNeg 0).toInt = ((sy_ai F 2).getD ((sy_i F 83).toInt).toNat 0).toInt := congrArg Int32.toInt q86
          have r86 := nz_ba hB (k := 2) (lo := (-128)) (hi := 127) rfl ((sy_i F 83).toInt).toNat
          have q87 : (sy_ai F 2).getD (sy_i F 83).toNatClampNeg 0 = (sy_ai F 2).getD ((sy_i F 83).toInt).toNat 0 := by simp only [nz_c]
          have n87 : ((sy_ai F 2).getD (sy_i F 83).toNatClampNeg 0).toInt = ((sy_ai F 2).getD ((sy_i F 83).toInt).toNat 0).toInt := congrArg Int32.toInt q87
          have r87 := nz_ba hB (k := 2) (lo := (-128)) (hi := 127) rfl ((sy_i F 83).toInt).toNat
          exfalso
          omega
        have y3_18 := g3
        clear g3
        by_cases g3 : ((sy_ai F 2).getD ((sy_i F 83).toInt).toNat 0).toInt = 57
        · have q85 : (sy_ai F 2).getD (sy_i F 83).toNatClampNeg 0 = (sy_ai F 2).getD ((sy_i F 83).toInt).toNat 0 := by simp only [nz_c]
          have n85 : ((sy_ai F 2).getD (sy_i F 83).toNatClampNeg 0).toInt = ((sy_ai F 2).getD ((sy_i F 83).toInt).toNat 0).toInt := congrArg Int32.toInt q85
          have r85 := nz_ba hB (k := 2) (lo := (-128)) (hi := 127) rfl ((sy_i F 83).toInt).toNat
          have q86 : (sy_ai F 2).getD (sy_i F 83).toNatClampNeg 0 = (sy_ai F 2).getD ((sy_i F 83).toInt).toNat 0 := by simp only [nz_c]
          have n86 : ((sy_ai F 2).getD (sy_i F 83).toNatClampNeg 0).toInt = ((sy_ai F 2).getD ((sy_i F 83).toInt).toNat 0).toInt := congrArg Int32.toInt q86
          have r86 := nz_ba hB (k := 2) (lo := (-128)) (hi := 127) rfl ((sy_i F 83).toInt).toNat
          have q87 : (sy_ai F 2).getD (sy_i F 83).toNatClampNeg 0 = (sy_ai F 2).getD ((sy_i F 83).toInt).toNat 0 := by simp only [nz_c]
          have n87 : ((sy_ai F 2).getD (sy_i F 83).toNatClampNeg 0).toInt = ((sy_ai F 2).getD ((sy_i F 83).toInt).toNat 0).toInt := congrArg Int32.toInt q87
          have r87 := nz_ba hB (k := 2) (lo := (-128)) (hi := 127) rfl ((sy_i F 83).toInt).toNat
          exfalso
          omega
        have y3_19 := g3
        clear g3
        by_cases g3 : ((sy_ai F 2).getD ((sy_i F 83).toInt).toNat 0).toInt = 58
        · have q85 : (sy_ai F 2).getD (sy_i F 83).toNatClampNeg 0 = (sy_ai F 2).getD ((sy_i F 83).toInt).toNat 0 := by simp only [nz_c]
          have n85 : ((sy_ai F 2).getD (sy_i F 83).toNatClampNeg 0).toInt = ((sy_ai F 2).getD ((sy_i F 83).toInt).toNat 0).toInt := congrArg Int32.toInt q85
          have r85 := nz_ba hB (k := 2) (lo := (-128)) (hi := 127) rfl ((sy_i F 83).toInt).toNat
          have q86 : (sy_ai F 2).getD (sy_i F 83).toNatClampNeg 0 = (sy_ai F 2).getD ((sy_i F 83).toInt).toNat 0 := by simp only [nz_c]
          have n86 : ((sy_ai F 2).getD (sy_i F 83).toNatClampNeg 0).toInt = ((sy_ai F 2).getD ((sy_i F 83).toInt).toNat 0).toInt := congrArg Int32.toInt q86
          have r86 := nz_ba hB (k := 2) (lo := (-128)) (hi := 127) rfl ((sy_i F 83).toInt).toNat
          have q87 : (sy_ai F 2).getD (sy_i F 83).toNatClampNeg 0 = (sy_ai F 2).getD ((sy_i F 83).toInt).toNat 0 := by simp only [nz_c]
          have n87 : ((sy_ai F 2).getD (sy_i F 83).toNatClampNeg 0).toInt = ((sy_ai F 2).getD ((sy_i F 83).toInt).toNat 0).toInt := congrArg Int32.toInt q87
          have r87 := nz_ba hB (k := 2) (lo := (-128)) (hi := 127) rfl ((sy_i F 83).toInt).toNat
          exfalso
          omega
        have y3_20 := g3
        clear g3
        by_cases g3 : ((sy_ai F 2).getD ((sy_i F 83).toInt).toNat 0).toInt = 59
        · have q85 : (sy_ai F 2).getD (sy_i F 83).toNatClampNeg 0 = (sy_ai F 2).getD ((sy_i F 83).toInt).toNat 0 := by simp only [nz_c]
          have n85 : ((sy_ai F 2).getD (sy_i F 83).toNatClampNeg 0).toInt = ((sy_ai F 2).getD ((sy_i F 83).toInt).toNat 0).toInt := congrArg Int32.toInt q85
          have r85 := nz_ba hB (k := 2) (lo := (-128)) (hi := 127) rfl ((sy_i F 83).toInt).toNat
          have q86 : (sy_ai F 2).getD (sy_i F 83).toNatClampNeg 0 = (sy_ai F 2).getD ((sy_i F 83).toInt).toNat 0 := by simp only [nz_c]
          have n86 : ((sy_ai F 2).getD (sy_i F 83).toNatClampNeg 0).toInt = ((sy_ai F 2).getD ((sy_i F 83).toInt).toNat 0).toInt := congrArg Int32.toInt q86
          have r86 := nz_ba hB (k := 2) (lo := (-128)) (hi := 127) rfl ((sy_i F 83).toInt).toNat
          have q87 : (sy_ai F 2).getD (sy_i F 83).toNatClampNeg 0 = (sy_ai F 2).getD ((sy_i F 83).toInt).toNat 0 := by simp only [nz_c]
          have n87 : ((sy_ai F 2).getD (sy_i F 83).toNatClampNeg 0).toInt = ((sy_ai F 2).getD ((sy_i F 83).toInt).toNat 0).toInt := congrArg Int32.toInt q87
          have r87 := nz_ba hB (k := 2) (lo := (-128)) (hi := 127) rfl ((sy_i F 83).toInt).toNat
          exfalso
          omega
        have y3_21 := g3
        clear g3
        by_cases g3 : ((sy_ai F 2).getD ((sy_i F 83).toInt).toNat 0).toInt = 60
        · have q85 : (sy_ai F 2).getD (sy_i F 83).toNatClampNeg 0 = (sy_ai F 2).getD ((sy_i F 83).toInt).toNat 0 := by simp only [nz_c]
          have n85 : ((sy_ai F 2).getD (sy_i F 83).toNatClampNeg 0).toInt = ((sy_ai F 2).getD ((sy_i F 83).toInt).toNat 0).toInt := congrArg Int32.toInt q85
          have r85 := nz_ba hB (k := 2) (lo := (-128)) (hi := 127) rfl ((sy_i F 83).toInt).toNat
          have q86 : (sy_ai F 2).getD (sy_i F 83).toNatClampNeg 0 = (sy_ai F 2).getD ((sy_i F 83).toInt).toNat 0 := by simp only [nz_c]
          have n86 : ((sy_ai F 2).getD (sy_i F 83).toNatClampNeg 0).toInt = ((sy_ai F 2).getD ((sy_i F 83).toInt).toNat 0).toInt := congrArg Int32.toInt q86
          have r86 := nz_ba hB (k := 2) (lo := (-128)) (hi := 127) rfl ((sy_i F 83).toInt).toNat
          have q87 : (sy_ai F 2).getD (sy_i F 83).toNatClampNeg 0 = (sy_ai F 2).getD ((sy_i F 83).toInt).toNat 0 := by simp only [nz_c]
          have n87 : ((sy_ai F 2).getD (sy_i F 83).toNatClampNeg 0).toInt = ((sy_ai F 2).getD ((sy_i F 83).toInt).toNat 0).toInt := congrArg Int32.toInt q87
          have r87 := nz_ba hB (k := 2) (lo := (-128)) (hi := 127) rfl ((sy_i F 83).toInt).toNat
          exfalso
          omega
        have y3_22 := g3
        clear g3
        by_cases g3 : ((sy_ai F 2).getD ((sy_i F 83).toInt).toNat 0).toInt = 61
        · have q85 : (sy_ai F 2).getD (sy_i F 83).toNatClampNeg 0 = (sy_ai F 2).getD ((sy_i F 83).toInt).toNat 0 := by simp only [nz_c]
          have n85 : ((sy_ai F 2).getD (sy_i F 83).toNatClampNeg 0).toInt = ((sy_ai F 2).getD ((sy_i F 83).toInt).toNat 0).toInt := congrArg Int32.toInt q85
          have r85 := nz_ba hB (k := 2) (lo := (-128)) (hi := 127) rfl ((sy_i F 83).toInt).toNat
          have q86 : (sy_ai F 2).getD (sy_i F 83).toNatClampNeg 0 = (sy_ai F 2).getD ((sy_i F 83).toInt).toNat 0 := by simp only [nz_c]
          have n86 : ((sy_ai F 2).getD (sy_i F 83).toNatClampNeg 0).toInt = ((sy_ai F 2).getD ((sy_i F 83).toInt).toNat 0).toInt := congrArg Int32.toInt q86
          have r86 := nz_ba hB (k := 2) (lo := (-128)) (hi := 127) rfl ((sy_i F 83).toInt).toNat
          have q87 : (sy_ai F 2).getD (sy_i F 83).toNatClampNeg 0 = (sy_ai F 2).getD ((sy_i F 83).toInt).toNat 0 := by simp only [nz_c]
          have n87 : ((sy_ai F 2).getD (sy_i F 83).toNatClampNeg 0).toInt = ((sy_ai F 2).getD ((sy_i F 83).toInt).toNat 0).toInt := congrArg Int32.toInt q87
          have r87 := nz_ba hB (k := 2) (lo := (-128)) (hi := 127) rfl ((sy_i F 83).toInt).toNat
          exfalso
          omega
        have q87 : (sy_ai F 2).getD (sy_i F 83).toNatClampNeg 0 = (sy_ai F 2).getD ((sy_i F 83).toInt).toNat 0 := by simp only [nz_c]
        have n87 : ((sy_ai F 2).getD (sy_i F 83).toNatClampNeg 0).toInt = ((sy_ai F 2).getD ((sy_i F 83).toInt).toNat 0).toInt := congrArg Int32.toInt q87
        have r87 := nz_ba hB (k := 2) (lo := (-128)) (hi := 127) rfl ((sy_i F 83).toInt).toNat
        exfalso
        omega
      replace g2 : 48 ≤ ((sy_ai F 2).getD ((sy_i F 83).toInt).toNat 0).toInt := by omega
      by_cases g3 : 57 < ((sy_ai F 2).getD ((sy_i F 83).toInt).toNat 0).toInt
      · by_cases g4 : ((sy_ai F 2).getD ((sy_i F 83).toInt).toNat 0).toInt < 40
        · have q85 : (sy_ai F 2).getD (sy_i F 83).toNatClampNeg 0 = (sy_ai F 2).getD ((sy_i F 83).toInt).toNat 0 := by simp only [nz_c]
          have n85 : ((sy_ai F 2).getD (sy_i F 83).toNatClampNeg 0).toInt = ((sy_ai F 2).getD ((sy_i F 83).toInt).toNat 0).toInt := congrArg Int32.toInt q85
          have r85 := nz_ba hB (k := 2) (lo := (-128)) (hi := 127) rfl ((sy_i F 83).toInt).toNat
          have q86 : (sy_ai F 2).getD (sy_i F 83).toNatClampNeg 0 = (sy_ai F 2).getD ((sy_i F 83).toInt).toNat 0 := by simp only [nz_c]
          have n86 : ((sy_ai F 2).getD (sy_i F 83).toNatClampNeg 0).toInt = ((sy_ai F 2).getD ((sy_i F 83).toInt).toNat 0).toInt := congrArg Int32.toInt q86
          have r86 := nz_ba hB (k := 2) (lo := (-128)) (hi := 127) rfl ((sy_i F 83).toInt).toNat
          have q87 : (sy_ai F 2).getD (sy_i F 83).toNatClampNeg 0 = (sy_ai F 2).getD ((sy_i F 83).toInt).toNat 0 := by simp only [nz_c]
          have n87 : ((sy_ai F 2).getD (sy_i F 83).toNatClampNeg 0).toInt = ((sy_ai F 2).getD ((sy_i F 83).toInt).toNat 0).toInt := congrArg Int32.toInt q87
          have r87 := nz_ba hB (k := 2) (lo := (-128)) (hi := 127) rfl ((sy_i F 83).toInt).toNat
          exfalso
          omega
        have y4_0 := g4
        clear g4
        by_cases g4 : 61 < ((sy_ai F 2).getD ((sy_i F 83).toInt).toNat 0).toInt
        · have q85 : (sy_ai F 2).getD (sy_i F 83).toNatClampNeg 0 = (sy_ai F 2).getD ((sy_i F 83).toInt).toNat 0 := by simp only [nz_c]
          have n85 : ((sy_ai F 2).getD (sy_i F 83).toNatClampNeg 0).toInt = ((sy_ai F 2).getD ((sy_i F 83).toInt).toNat 0).toInt := congrArg Int32.toInt q85
          have r85 := nz_ba hB (k := 2) (lo := (-128)) (hi := 127) rfl ((sy_i F 83).toInt).toNat
          have q86 : (sy_ai F 2).getD (sy_i F 83).toNatClampNeg 0 = (sy_ai F 2).getD ((sy_i F 83).toInt).toNat 0 := by simp only [nz_c]
          have n86 : ((sy_ai F 2).getD (sy_i F 83).toNatClampNeg 0).toInt = ((sy_ai F 2).getD ((sy_i F 83).toInt).toNat 0).toInt := congrArg Int32.toInt q86
          have r86 := nz_ba hB (k := 2) (lo := (-128)) (hi := 127) rfl ((sy_i F 83).toInt).toNat
          have q87 : (sy_ai F 2).getD (sy_i F 83).toNatClampNeg 0 = (sy_ai F 2).getD ((sy_i F 83).toInt).toNat 0 := by simp only [nz_c]
          have n87 : ((sy_ai F 2).getD (sy_i F 83).toNatClampNeg 0).toInt = ((sy_ai F 2).getD ((sy_i F 83).toInt).toNat 0).toInt := congrArg Int32.toInt q87
          have r87 := nz_ba hB (k := 2) (lo := (-128)) (hi := 127) rfl ((sy_i F 83).toInt).toNat
          have w88 : jm_upd (sy_ai F 39) (sy_i F 82).toNatClampNeg ((25 : Int32)) = jm_upd (sy_ai F 39) ((sy_i F 82).toInt).toNat ((25 : Int32)) := by simp only [nz_c, (by decide : ((25 : Int32)).toInt = 25)]
          exact k1on_0_p9 hd F X1 X2 hB (by first | exact g0 | (simp only [nz_c]; exact g0)) (by first | exact ⟨by omega, by omega⟩ | (simp only [nz_c]; exact ⟨by omega, by omega⟩)) (by first | exact g1 | (simp only [nz_c]; exact g1) | (rw [n85]; exact g1)) (by first | exact ⟨by omega, by omega⟩ | (simp only [nz_c]; exact ⟨by omega, by omega⟩)) (by first | exact g2 | (simp only [nz_c]; exact g2) | (rw [n86]; exact g2)) (by first | exact g3 | (simp only [nz_c]; exact g3) | (rw [n86]; exact g3)) (by first | exact ⟨by omega, by omega⟩ | (simp only [nz_c]; exact ⟨by omega, by omega⟩)) (by first | exact g4 | (simp only [nz_c]; exact g4) | (rw [n87]; exact g4)) (by first | exact ⟨by omega, by omega⟩ | (simp only [nz_c]; exact ⟨by omega, by omega⟩)) (fun F1 g e39 => by rw [(rfl : (sy_i F 83) + ((1 : Int32)) = (sy_i F 83) + ((1 : Int32)))]; exact k9 g0 g1 g2 g3 g4 F1 (nz_in0 hB [39] (fun j hj hn => g j hj (by simp only [List.mem_cons, List.not_mem_nil, or_false, not_or] at hn; omega)) (List.forall_mem_cons.mpr ⟨fun t ht => (Option.some.inj ht) ▸ (nz_hz2 e39), List.forall_mem_nil _⟩)) (fun j hj hn => g j hj (by simp only [List.mem_cons, List.not_mem_nil, or_false, not_or] at hn; omega)) ((zz_ai e39).trans w88) (nz_fa (g 40 (by decide) (by decide))) (nz_fl (g 41 (by decide) (by decide))))
        have y4_1 := g4
        clear g4
        by_cases g4 : ((sy_ai F 2).getD ((sy_i F 83).toInt).toNat 0).toInt = 40
        · have q85 : (sy_ai F 2).getD (sy_i F 83).toNatClampNeg 0 = (sy_ai F 2).getD ((sy_i F 83).toInt).toNat 0 := by simp only [nz_c]
          have n85 : ((sy_ai F 2).getD (sy_i F 83).toNatClampNeg 0).toInt = ((sy_ai F 2).getD ((sy_i F 83).toInt).toNat 0).toInt := congrArg Int32.toInt q85
          have r85 := nz_ba hB (k := 2) (lo := (-128)) (hi := 127) rfl ((sy_i F 83).toInt).toNat
          have q86 : (sy_ai F 2).getD (sy_i F 83).toNatClampNeg 0 = (sy_ai F 2).getD ((sy_i F 83).toInt).toNat 0 := by simp only [nz_c]
          have n86 : ((sy_ai F 2).getD (sy_i F 83).toNatClampNeg 0).toInt = ((sy_ai F 2).getD ((sy_i F 83).toInt).toNat 0).toInt := congrArg Int32.toInt q86
          have r86 := nz_ba hB (k := 2) (lo := (-128)) (hi := 127) rfl ((sy_i F 83).toInt).toNat
          have q87 : (sy_ai F 2).getD (sy_i F 83).toNatClampNeg 0 = (sy_ai F 2).getD ((sy_i F 83).toInt).toNat 0 := by simp only [nz_c]
          have n87 : ((sy_ai F 2).getD (sy_i F 83).toNatClampNeg 0).toInt = ((sy_ai F 2).getD ((sy_i F 83).toInt).toNat 0).toInt := congrArg Int32.toInt q87
          have r87 := nz_ba hB (k := 2) (lo := (-128)) (hi := 127) rfl ((sy_i F 83).toInt).toNat
          exfalso
          omega
        have y4_2 := g4
        clear g4
        by_cases g4 : ((sy_ai F 2).getD ((sy_i F 83).toInt).toNat 0).toInt = 41
        · have q85 : (sy_ai F 2).getD (sy_i F 83).toNatClampNeg 0 = (sy_ai F 2).getD ((sy_i F 83).toInt).toNat 0 := by simp only [nz_c]
          have n85 : ((sy_ai F 2).getD (sy_i F 83).toNatClampNeg 0).toInt = ((sy_ai F 2).getD ((sy_i F 83).toInt).toNat 0).toInt := congrArg Int32.toInt q85
          have r85 := nz_ba hB (k := 2) (lo := (-128)) (hi := 127) rfl ((sy_i F 83).toInt).toNat
          have q86 : (sy_ai F 2).getD (sy_i F 83).toNatClampNeg 0 = (sy_ai F 2).getD ((sy_i F 83).toInt).toNat 0 := by simp only [nz_c]
          have n86 : ((sy_ai F 2).getD (sy_i F 83).toNatClampNeg 0).toInt = ((sy_ai F 2).getD ((sy_i F 83).toInt).toNat 0).toInt := congrArg Int32.toInt q86
          have r86 := nz_ba hB (k := 2) (lo := (-128)) (hi := 127) rfl ((sy_i F 83).toInt).toNat
          have q87 : (sy_ai F 2).getD (sy_i F 83).toNatClampNeg 0 = (sy_ai F 2).getD ((sy_i F 83).toInt).toNat 0 := by simp only [nz_c]
          have n87 : ((sy_ai F 2).getD (sy_i F 83).toNatClampNeg 0).toInt = ((sy_ai F 2).getD ((sy_i F 83).toInt).toNat 0).toInt := congrArg Int32.toInt q87
          have r87 := nz_ba hB (k := 2) (lo := (-128)) (hi := 127) rfl ((sy_i F 83).toInt).toNat
          exfalso
          omega
        have y4_3 := g4
        clear g4
        by_cases g4 : ((sy_ai F 2).getD ((sy_i F 83).toInt).toNat 0).toInt = 42
        · have q85 : (sy_ai F 2).getD (sy_i F 83).toNatClampNeg 0 = (sy_ai F 2).getD ((sy_i F 83).toInt).toNat 0 := by simp only [nz_c]
          have n85 : ((sy_ai F 2).getD (sy_i F 83).toNatClampNeg 0).toInt = ((sy_ai F 2).getD ((sy_i F 83).toInt).toNat 0).toInt := congrArg Int32.toInt q85
          have r85 := nz_ba hB (k := 2) (lo := (-128)) (hi := 127) rfl ((sy_i F 83).toInt).toNat
          have q86 : (sy_ai F 2).getD (sy_i F 83).toNatClampNeg 0 = (sy_ai F 2).getD ((sy_i F 83).toInt).toNat 0 := by simp only [nz_c]
          have n86 : ((sy_ai F 2).getD (sy_i F 83).toNatClampNeg 0).toInt = ((sy_ai F 2).getD ((sy_i F 83).toInt).toNat 0).toInt := congrArg Int32.toInt q86
          have r86 := nz_ba hB (k := 2) (lo := (-128)) (hi := 127) rfl ((sy_i F 83).toInt).toNat
          have q87 : (sy_ai F 2).getD (sy_i F 83).toNatClampNeg 0 = (sy_ai F 2).getD ((sy_i F 83).toInt).toNat 0 := by simp only [nz_c]
          have n87 : ((sy_ai F 2).getD (sy_i F 83).toNatClampNeg 0).toInt = ((sy_ai F 2).getD ((sy_i F 83).toInt).toNat 0).toInt := congrArg Int32.toInt q87
          have r87 := nz_ba hB (k := 2) (lo := (-128)) (hi := 127) rfl ((sy_i F 83).toInt).toNat
          exfalso
          omega
        have y4_4 := g4
        clear g4
        by_cases g4 : ((sy_ai F 2).getD ((sy_i F 83).toInt).toNat 0).toInt = 43
        · have q85 : (sy_ai F 2).getD (sy_i F 83).toNatClampNeg 0 = (sy_ai F 2).getD ((sy_i F 83).toInt).toNat 0 := by simp only [nz_c]
          have n85 : ((sy_ai F 2).getD (sy_i F 83).toNatClampNeg 0).toInt = ((sy_ai F 2).getD ((sy_i F 83).toInt).toNat 0).toInt := congrArg Int32.toInt q85
          have r85 := nz_ba hB (k := 2) (lo := (-128)) (hi := 127) rfl ((sy_i F 83).toInt).toNat
          have q86 : (sy_ai F 2).getD (sy_i F 83).toNatClampNeg 0 = (sy_ai F 2).getD ((sy_i F 83).toInt).toNat 0 := by simp only [nz_c]
          have n86 : ((sy_ai F 2).getD (sy_i F 83).toNatClampNeg 0).toInt = ((sy_ai F 2).getD ((sy_i F 83).toInt).toNat 0).toInt := congrArg Int32.toInt q86
          have r86 := nz_ba hB (k := 2) (lo := (-128)) (hi := 127) rfl ((sy_i F 83).toInt).toNat
          have q87 : (sy_ai F 2).getD (sy_i F 83).toNatClampNeg 0 = (sy_ai F 2).getD ((sy_i F 83).toInt).toNat 0 := by simp only [nz_c]
          have n87 : ((sy_ai F 2).getD (sy_i F 83).toNatClampNeg 0).toInt = ((sy_ai F 2).getD ((sy_i F 83).toInt).toNat 0).toInt := congrArg Int32.toInt q87
          have r87 := nz_ba hB (k := 2) (lo := (-128)) (hi := 127) rfl ((sy_i F 83).toInt).toNat
          exfalso
          omega
        have y4_5 := g4
        clear g4
        by_cases g4 : ((sy_ai F 2).getD ((sy_i F 83).toInt).toNat 0).toInt = 44
        · have q85 : (sy_ai F 2).getD (sy_i F 83).toNatClampNeg 0 = (sy_ai F 2).getD ((sy_i F 83).toInt).toNat 0 := by simp only [nz_c]
          have n85 : ((sy_ai F 2).getD (sy_i F 83).toNatClampNeg 0).toInt = ((sy_ai F 2).getD ((sy_i F 83).toInt).toNat 0).toInt := congrArg Int32.toInt q85
          have r85 := nz_ba hB (k := 2) (lo := (-128)) (hi := 127) rfl ((sy_i F 83).toInt).toNat
          have q86 : (sy_ai F 2).getD (sy_i F 83).toNatClampNeg 0 = (sy_ai F 2).getD ((sy_i F 83).toInt).toNat 0 := by simp only [nz_c]
          have n86 : ((sy_ai F 2).getD (sy_i F 83).toNatClampNeg 0).toInt = ((sy_ai F 2).getD ((sy_i F 83).toInt).toNat 0).toInt := congrArg Int32.toInt q86
          have r86 := nz_ba hB (k := 2) (lo := (-128)) (hi := 127) rfl ((sy_i F 83).toInt).toNat
          have q87 : (sy_ai F 2).getD (sy_i F 83).toNatClampNeg 0 = (sy_ai F 2).getD ((sy_i F 83).toInt).toNat 0 := by simp only [nz_c]
          have n87 : ((sy_ai F 2).getD (sy_i F 83).toNatClampNeg 0).toInt = ((sy_ai F 2).getD ((sy_i F 83).toInt).toNat 0).toInt := congrArg Int32.toInt q87
          have r87 := nz_ba hB (k := 2) (lo := (-128)) (hi := 127) rfl ((sy_i F 83).toInt).toNat
          exfalso
          omega
        have y4_6 := g4
        clear g4
        by_cases g4 : ((sy_ai F 2).getD ((sy_i F 83).toInt).toNat 0).toInt = 45
        · have q85 : (sy_ai F 2).getD (sy_i F 83).toNatClampNeg 0 = (sy_ai F 2).getD ((sy_i F 83).toInt).toNat 0 := by simp only [nz_c]
          have n85 : ((sy_ai F 2).getD (sy_i F 83).toNatClampNeg 0).toInt = ((sy_ai F 2).getD ((sy_i F 83).toInt).toNat 0).toInt := congrArg Int32.toInt q85
          have r85 := nz_ba hB (k := 2) (lo := (-128)) (hi := 127) rfl ((sy_i F 83).toInt).toNat
          have q86 : (sy_ai F 2).getD (sy_i F 83).toNatClampNeg 0 = (sy_ai F 2).getD ((sy_i F 83).toInt).toNat 0 := by simp only [nz_c]
          have n86 : ((sy_ai F 2).getD (sy_i F 83).toNatClampNeg 0).toInt = ((sy_ai F 2).getD ((sy_i F 83).toInt).toNat 0).toInt := congrArg Int32.toInt q86
          have r86 := nz_ba hB (k := 2) (lo := (-128)) (hi := 127) rfl ((sy_i F 83).toInt).toNat
          have q87 : (sy_ai F 2).getD (sy_i F 83).toNatClampNeg 0 = (sy_ai F 2).getD ((sy_i F 83).toInt).toNat 0 := by simp only [nz_c]
          have n87 : ((sy_ai F 2).getD (sy_i F 83).toNatClampNeg 0).toInt = ((sy_ai F 2).getD ((sy_i F 83).toInt).toNat 0).toInt := congrArg Int32.toInt q87
          have r87 := nz_ba hB (k := 2) (lo := (-128)) (hi := 127) rfl ((sy_i F 83).toInt).toNat
          exfalso
          omega
        have y4_7 := g4
        clear g4
        by_cases g4 : ((sy_ai F 2).getD ((sy_i F 83).toInt).toNat 0).toInt = 46
        · have q85 : (sy_ai F 2).getD (sy_i F 83).toNatClampNeg 0 = (sy_ai F 2).getD ((sy_i F 83).toInt).toNat 0 := by simp only [nz_c]
          have n85 : ((sy_ai F 2).getD (sy_i F 83).toNatClampNeg 0).toInt = ((sy_ai F 2).getD ((sy_i F 83).toInt).toNat 0).toInt := congrArg Int32.toInt q85
          have r85 := nz_ba hB (k := 2) (lo := (-128)) (hi := 127) rfl ((sy_i F 83).toInt).toNat
          have q86 : (sy_ai F 2).getD (sy_i F 83).toNatClampNeg 0 = (sy_ai F 2).getD ((sy_i F 83).toInt).toNat 0 := by simp only [nz_c]
          have n86 : ((sy_ai F 2).getD (sy_i F 83).toNatClampNeg 0).toInt = ((sy_ai F 2).getD ((sy_i F 83).toInt).toNat 0).toInt := congrArg Int32.toInt q86
          have r86 := nz_ba hB (k := 2) (lo := (-128)) (hi := 127) rfl ((sy_i F 83).toInt).toNat
          have q87 : (sy_ai F 2).getD (sy_i F 83).toNatClampNeg 0 = (sy_ai F 2).getD ((sy_i F 83).toInt).toNat 0 := by simp only [nz_c]
          have n87 : ((sy_ai F 2).getD (sy_i F 83).toNatClampNeg 0).toInt = ((sy_ai F 2).getD ((sy_i F 83).toInt).toNat 0).toInt := congrArg Int32.toInt q87
          have r87 := nz_ba hB (k := 2) (lo := (-128)) (hi := 127) rfl ((sy_i F 83).toInt).toNat
          exfalso
          omega
        have y4_8 := g4
        clear g4
        by_cases g4 : ((sy_ai F 2).getD ((sy_i F 83).toInt).toNat 0).toInt = 47
        · have q85 : (sy_ai F 2).getD (sy_i F 83).toNatClampNeg 0 = (sy_ai F 2).getD ((sy_i F 83).toInt).toNat 0 := by simp only [nz_c]
          have n85 : ((sy_ai F 2).getD (sy_i F 83).toNatClampNeg 0).toInt = ((sy_ai F 2).getD ((sy_i F 83).toInt).toNat 0).toInt := congrArg Int32.toInt q85
          have r85 := nz_ba hB (k := 2) (lo := (-128)) (hi := 127) rfl ((sy_i F 83).toInt).toNat
          have q86 : (sy_ai F 2).getD (sy_i F 83).toNatClampNeg 0 = (sy_ai F 2).getD ((sy_i F 83).toInt).toNat 0 := by simp only [nz_c]
          have n86 : ((sy_ai F 2).getD (sy_i F 83).toNatClampNeg 0).toInt = ((sy_ai F 2).getD ((sy_i F 83).toInt).toNat 0).toInt := congrArg Int32.toInt q86
          have r86 := nz_ba hB (k := 2) (lo := (-128)) (hi := 127) rfl ((sy_i F 83).toInt).toNat
          have q87 : (sy_ai F 2).getD (sy_i F 83).toNatClampNeg 0 = (sy_ai F 2).getD ((sy_i F 83).toInt).toNat 0 := by simp only [nz_c]
          have n87 : ((sy_ai F 2).getD (sy_i F 83).toNatClampNeg 0).toInt = ((sy_ai F 2).getD ((sy_i F 83).toInt).toNat 0).toInt := congrArg Int32.toInt q87
          have r87 := nz_ba hB (k := 2) (lo := (-128)) (hi := 127) rfl ((sy_i F 83).toInt).toNat
          exfalso
          omega
        have y4_9 := g4
        clear g4
        by_cases g4 : ((sy_ai F 2).getD ((sy_i F 83).toInt).toNat 0).toInt = 48
        · have q85 : (sy_ai F 2).getD (sy_i F 83).toNatClampNeg 0 = (sy_ai F 2).getD ((sy_i F 83).toInt).toNat 0 := by simp only [nz_c]
          have n85 : ((sy_ai F 2).getD (sy_i F 83).toNatClampNeg 0).toInt = ((sy_ai F 2).getD ((sy_i F 83).toInt).toNat 0).toInt := congrArg Int32.toInt q85
          have r85 := nz_ba hB (k := 2) (lo := (-128)) (hi := 127) rfl ((sy_i F 83).toInt).toNat
          have q86 : (sy_ai F 2).getD (sy_i F 83).toNatClampNeg 0 = (sy_ai F 2).getD ((sy_i F 83).toInt).toNat 0 := by simp only [nz_c]
          have n86 : ((sy_ai F 2).getD (sy_i F 83).toNatClampNeg 0).toInt = ((sy_ai F 2).getD ((sy_i F 83).toInt).toNat 0).toInt := congrArg Int32.toInt q86
          have r86 := nz_ba hB (k := 2) (lo := (-128)) (hi := 127) rfl ((sy_i F 83).toInt).toNat
          have q87 : (sy_ai F 2).getD (sy_i F 83).toNatClampNeg 0 = (sy_ai F 2).getD ((sy_i F 83).toInt).toNat 0 := by simp only [nz_c]
          have n87 : ((sy_ai F 2).getD (sy_i F 83).toNatClampNeg 0).toInt = ((sy_ai F 2).getD ((sy_i F 83).toInt).toNat 0).toInt := congrArg Int32.toInt q87
          have r87 := nz_ba hB (k := 2) (lo := (-128)) (hi := 127) rfl ((sy_i F 83).toInt).toNat
          exfalso
          omega
        have y4_10 := g4
        clear g4
        by_cases g4 : ((sy_ai F 2).getD ((sy_i F 83).toInt).toNat 0).toInt = 49
        · have q85 : (sy_ai F 2).getD (sy_i F 83).toNatClampNeg 0 = (sy_ai F 2).getD ((sy_i F 83).toInt).toNat 0 := by simp only [nz_c]
          have n85 : ((sy_ai F 2).getD (sy_i F 83).toNatClampNeg 0).toInt = ((sy_ai F 2).getD ((sy_i F 83).toInt).toNat 0).toInt := congrArg Int32.toInt q85
          have r85 := nz_ba hB (k := 2) (lo := (-128)) (hi := 127) rfl ((sy_i F 83).toInt).toNat
          have q86 : (sy_ai F 2).getD (sy_i F 83).toNatClampNeg 0 = (sy_ai F 2).getD ((sy_i F 83).toInt).toNat 0 := by simp only [nz_c]
          have n86 : ((sy_ai F 2).getD (sy_i F 83).toNatClampNeg 0).toInt = ((sy_ai F 2).getD ((sy_i F 83).toInt).toNat 0).toInt := congrArg Int32.toInt q86
          have r86 := nz_ba hB (k := 2) (lo := (-128)) (hi := 127) rfl ((sy_i F 83).toInt).toNat
          have q87 : (sy_ai F 2).getD (sy_i F 83).toNatClampNeg 0 = (sy_ai F 2).getD ((sy_i F 83).toInt).toNat 0 := by simp only [nz_c]
          have n87 : ((sy_ai F 2).getD (sy_i F 83).toNatClampNeg 0).toInt = ((sy_ai F 2).getD ((sy_i F 83).toInt).toNat 0).toInt := congrArg Int32.toInt q87
          have r87 := nz_ba hB (k := 2) (lo := (-128)) (hi := 127) rfl ((sy_i F 83).toInt).toNat
          exfalso
          omega
        have y4_11 := g4
        clear g4
        by_cases g4 : ((sy_ai F 2).getD ((sy_i F 83).toInt).toNat 0).toInt = 50
        · have q85 : (sy_ai F 2).getD (sy_i F 83).toNatClampNeg 0 = (sy_ai F 2).getD ((sy_i F 83).toInt).toNat 0 := by simp only [nz_c]
          have n85 : ((sy_ai F 2).getD (sy_i F 83).toNatClampNeg 0).toInt = ((sy_ai F 2).getD ((sy_i F 83).toInt).toNat 0).toInt := congrArg Int32.toInt q85
          have r85 := nz_ba hB (k := 2) (lo := (-128)) (hi := 127) rfl ((sy_i F 83).toInt).toNat
          have q86 : (sy_ai F 2).getD (sy_i F 83).toNatClampNeg 0 = (sy_ai F 2).getD ((sy_i F 83).toInt).toNat 0 := by simp only [nz_c]
          have n86 : ((sy_ai F 2).getD (sy_i F 83).toNatClampNeg 0).toInt = ((sy_ai F 2).getD ((sy_i F 83).toInt).toNat 0).toInt := congrArg Int32.toInt q86
          have r86 := nz_ba hB (k := 2) (lo := (-128)) (hi := 127) rfl ((sy_i F 83).toInt).toNat
          have q87 : (sy_ai F 2).getD (sy_i F 83).toNatClampNeg 0 = (sy_ai F 2).getD ((sy_i F 83).toInt).toNat 0 := by simp only [nz_c]
          have n87 : ((sy_ai F 2).getD (sy_i F 83).toNatClampNeg 0).toInt = ((sy_ai F 2).getD ((sy_i F 83).toInt).toNat 0).toInt := congrArg Int32.toInt q87
          have r87 := nz_ba hB (k := 2) (lo := (-128)) (hi := 127) rfl ((sy_i F 83).toInt).toNat
          exfalso
          omega
        have y4_12 := g4
        clear g4
        by_cases g4 : ((sy_ai F 2).getD ((sy_i F 83).toInt).toNat 0).toInt = 51
        · have q85 : (sy_ai F 2).getD (sy_i F 83).toNatClampNeg 0 = (sy_ai F 2).getD ((sy_i F 83).toInt).toNat 0 := by simp only [nz_c]
          have n85 : ((sy_ai F 2).getD (sy_i F 83).toNatClampNeg 0).toInt = ((sy_ai F 2).getD ((sy_i F 83).toInt).toNat 0).toInt := congrArg Int32.toInt q85
          have r85 := nz_ba hB (k := 2) (lo := (-128)) (hi := 127) rfl ((sy_i F 83).toInt).toNat
          have q86 : (sy_ai F 2).getD (sy_i F 83).toNatClampNeg 0 = (sy_ai F 2).getD ((sy_i F 83).toInt).toNat 0 := by simp only [nz_c]
          have n86 : ((sy_ai F 2).getD (sy_i F 83).toNatClampNeg 0).toInt = ((sy_ai F 2).getD ((sy_i F 83).toInt).toNat 0).toInt := congrArg Int32.toInt q86
          have r86 := nz_ba hB (k := 2) (lo := (-128)) (hi := 127) rfl ((sy_i F 83).toInt).toNat
          have q87 : (sy_ai F 2).getD (sy_i F 83).toNatClampNeg 0 = (sy_ai F 2).getD ((sy_i F 83).toInt).toNat 0 := by simp only [nz_c]
          have n87 : ((sy_ai F 2).getD (sy_i F 83).toNatClampNeg 0).toInt = ((sy_ai F 2).getD ((sy_i F 83).toInt).toNat 0).toInt := congrArg Int32.toInt q87
          have r87 := nz_ba hB (k := 2) (lo := (-128)) (hi := 127) rfl ((sy_i F 83).toInt).toNat
          exfalso
          omega
        have y4_13 := g4
        clear g4
        by_cases g4 : ((sy_ai F 2).getD ((sy_i F 83).toInt).toNat 0).toInt = 52
        · have q85 : (sy_ai F 2).getD (sy_i F 83).toNatClampNeg 0 = (sy_ai F 2).getD ((sy_i F 83).toInt).toNat 0 := by simp only [nz_c]
          have n85 : ((sy_ai F 2).getD (sy_i F 83).toNatClampNeg 0).toInt = ((sy_ai F 2).getD ((sy_i F 83).toInt).toNat 0).toInt := congrArg Int32.toInt q85
          have r85 := nz_ba hB (k := 2) (lo := (-128)) (hi := 127) rfl ((sy_i F 83).toInt).toNat
          have q86 : (sy_ai F 2).getD (sy_i F 83).toNatClampNeg 0 = (sy_ai F 2).getD ((sy_i F 83).toInt).toNat 0 := by simp only [nz_c]
          have n86 : ((sy_ai F 2).getD (sy_i F 83).toNatClampNeg 0).toInt = ((sy_ai F 2).getD ((sy_i F 83).toInt).toNat 0).toInt := congrArg Int32.toInt q86
          have r86 := nz_ba hB (k := 2) (lo := (-128)) (hi := 127) rfl ((sy_i F 83).toInt).toNat
          have q87 : (sy_ai F 2).getD (sy_i F 83).toNatClampNeg 0 = (sy_ai F 2).getD ((sy_i F 83).toInt).toNat 0 := by simp only [nz_c]
          have n87 : ((sy_ai F 2).getD (sy_i F 83).toNatClampNeg 0).toInt = ((sy_ai F 2).getD ((sy_i F 83).toInt).toNat 0).toInt := congrArg Int32.toInt q87
          have r87 := nz_ba hB (k := 2) (lo := (-128)) (hi := 127) rfl ((sy_i F 83).toInt).toNat
          exfalso
          omega
        have y4_14 := g4
        clear g4
        by_cases g4 : ((sy_ai F 2).getD ((sy_i F 83).toInt).toNat 0).toInt = 53
        · have q85 : (sy_ai F 2).getD (sy_i F 83).toNatClampNeg 0 = (sy_ai F 2).getD ((sy_i F 83).toInt).toNat 0 := by simp only [nz_c]
          have n85 : ((sy_ai F 2).getD (sy_i F 83).toNatClampNeg 0).toInt = ((sy_ai F 2).getD ((sy_i F 83).toInt).toNat 0).toInt := congrArg Int32.toInt q85
          have r85 := nz_ba hB (k := 2) (lo := (-128)) (hi := 127) rfl ((sy_i F 83).toInt).toNat
          have q86 : (sy_ai F 2).getD (sy_i F 83).toNatClampNeg 0 = (sy_ai F 2).getD ((sy_i F 83).toInt).toNat 0 := by simp only [nz_c]
          have n86 : ((sy_ai F 2).getD (sy_i F 83).toNatClampNeg 0).toInt = ((sy_ai F 2).getD ((sy_i F 83).toInt).toNat 0).toInt := congrArg Int32.toInt q86
          have r86 := nz_ba hB (k := 2) (lo := (-128)) (hi := 127) rfl ((sy_i F 83).toInt).toNat
          have q87 : (sy_ai F 2).getD (sy_i F 83).toNatClampNeg 0 = (sy_ai F 2).getD ((sy_i F 83).toInt).toNat 0 := by simp only [nz_c]
          have n87 : ((sy_ai F 2).getD (sy_i F 83).toNatClampNeg 0).toInt = ((sy_ai F 2).getD ((sy_i F 83).toInt).toNat 0).toInt := congrArg Int32.toInt q87
          have r87 := nz_ba hB (k := 2) (lo := (-128)) (hi := 127) rfl ((sy_i F 83).toInt).toNat
          exfalso
          omega
        have y4_15 := g4
        clear g4
        by_cases g4 : ((sy_ai F 2).getD ((sy_i F 83).toInt).toNat 0).toInt = 54
        · have q85 : (sy_ai F 2).getD (sy_i F 83).toNatClampNeg 0 = (sy_ai F 2).getD ((sy_i F 83).toInt).toNat 0 := by simp only [nz_c]
          have n85 : ((sy_ai F 2).getD (sy_i F 83).toNatClampNeg 0).toInt = ((sy_ai F 2).getD ((sy_i F 83).toInt).toNat 0).toInt := congrArg Int32.toInt q85
          have r85 := nz_ba hB (k := 2) (lo := (-128)) (hi := 127) rfl ((sy_i F 83).toInt).toNat
          have q86 : (sy_ai F 2).getD (sy_i F 83).toNatClampNeg 0 = (sy_ai F 2).getD ((sy_i F 83).toInt).toNat 0 := by simp only [nz_c]
          have n86 : ((sy_ai F 2).getD (sy_i F 83).toNatClampNeg 0).toInt = ((sy_ai F 2).getD ((sy_i F 83).toInt).toNat 0).toInt := congrArg Int32.toInt q86
          have r86 := nz_ba hB (k := 2) (lo := (-128)) (hi := 127) rfl ((sy_i F 83).toInt).toNat
          have q87 : (sy_ai F 2).getD (sy_i F 83).toNatClampNeg 0 = (sy_ai F 2).getD ((sy_i F 83).toInt).toNat 0 := by simp only [nz_c]
          have n87 : ((sy_ai F 2).getD (sy_i F 83).toNatClampNeg 0).toInt = ((sy_ai F 2).getD ((sy_i F 83).toInt).toNat 0).toInt := congrArg Int32.toInt q87
          have r87 := nz_ba hB (k := 2) (lo := (-128)) (hi := 127) rfl ((sy_i F 83).toInt).toNat
          exfalso
          omega
        have y4_16 := g4
        clear g4
        by_cases g4 : ((sy_ai F 2).getD ((sy_i F 83).toInt).toNat 0).toInt = 55
        · have q85 : (sy_ai F 2).getD (sy_i F 83).toNatClampNeg 0 = (sy_ai F 2).getD ((sy_i F 83).toInt).toNat 0 := by simp only [nz_c]
          have n85 : ((sy_ai F 2).getD (sy_i F 83).toNatClampNeg 0).toInt = ((sy_ai F 2).getD ((sy_i F 83).toInt).toNat 0).toInt := congrArg Int32.toInt q85
          have r85 := nz_ba hB (k := 2) (lo := (-128)) (hi := 127) rfl ((sy_i F 83).toInt).toNat
          have q86 : (sy_ai F 2).getD (sy_i F 83).toNatClampNeg 0 = (sy_ai F 2).getD ((sy_i F 83).toInt).toNat 0 := by simp only [nz_c]
          have n86 : ((sy_ai F 2).getD (sy_i F 83).toNatClampNeg 0).toInt = ((sy_ai F 2).getD ((sy_i F 83).toInt).toNat 0).toInt := congrArg Int32.toInt q86
          have r86 := nz_ba hB (k := 2) (lo := (-128)) (hi := 127) rfl ((sy_i F 83).toInt).toNat
          have q87 : (sy_ai F 2).getD (sy_i F 83).toNatClampNeg 0 = (sy_ai F 2).getD ((sy_i F 83).toInt).toNat 0 := by simp only [nz_c]
          have n87 : ((sy_ai F 2).getD (sy_i F 83).toNatClampNeg 0).toInt = ((sy_ai F 2).getD ((sy_i F 83).toInt).toNat 0).toInt := congrArg Int32.toInt q87
          have r87 := nz_ba hB (k := 2) (lo := (-128)) (hi := 127) rfl ((sy_i F 83).toInt).toNat
          exfalso
          omega
        have y4_17 := g4
        clear g4
        by_cases g4 : ((sy_ai F 2).getD ((sy_i F 83).toInt).toNat 0).toInt = 56
        · have q85 : (sy_ai F 2).getD (sy_i F 83).toNatClampNeg 0 = (sy_ai F 2).getD ((sy_i F 83).toInt).toNat 0 := by simp only [nz_c]
          have n85 : ((sy_ai F 2).getD (sy_i F 83).toNatClampNeg 0).toInt = ((sy_ai F 2).getD ((sy_i F 83).toInt).toNat 0).toInt := congrArg Int32.toInt q85
          have r85 := nz_ba hB (k := 2) (lo := (-128)) (hi := 127) rfl ((sy_i F 83).toInt).toNat
          have q86 : (sy_ai F 2).getD (sy_i F 83).toNatClampNeg 0 = (sy_ai F 2).getD ((sy_i F 83).toInt).toNat 0 := by simp only [nz_c]
          have n86 : ((sy_ai F 2).getD (sy_i F 83).toNatClampNeg 0).toInt = ((sy_ai F 2).getD ((sy_i F 83).toInt).toNat 0).toInt := congrArg Int32.toInt q86
          have r86 := nz_ba hB (k := 2) (lo := (-128)) (hi := 127) rfl ((sy_i F 83).toInt).toNat
          have q87 : (sy_ai F 2).getD (sy_i F 83).toNatClampNeg 0 = (sy_ai F 2).getD ((sy_i F 83).toInt).toNat 0 := by simp only [nz_c]
          have n87 : ((sy_ai F 2).getD (sy_i F 83).toNatClampNeg 0).toInt = ((sy_ai F 2).getD ((sy_i F 83).toInt).toNat 0).toInt := congrArg Int32.toInt q87
          have r87 := nz_ba hB (k := 2) (lo := (-128)) (hi := 127) rfl ((sy_i F 83).toInt).toNat
          exfalso
          omega
        have y4_18 := g4
        clear g4
        by_cases g4 : ((sy_ai F 2).getD ((sy_i F 83).toInt).toNat 0).toInt = 57
        · have q85 : (sy_ai F 2).getD (sy_i F 83).toNatClampNeg 0 = (sy_ai F 2).getD ((sy_i F 83).toInt).toNat 0 := by simp only [nz_c]
          have n85 : ((sy_ai F 2).getD (sy_i F 83).toNatClampNeg 0).toInt = ((sy_ai F 2).getD ((sy_i F 83).toInt).toNat 0).toInt := congrArg Int32.toInt q85
          have r85 := nz_ba hB (k := 2) (lo := (-128)) (hi := 127) rfl ((sy_i F 83).toInt).toNat
          have q86 : (sy_ai F 2).getD (sy_i F 83).toNatClampNeg 0 = (sy_ai F 2).getD ((sy_i F 83).toInt).toNat 0 := by simp only [nz_c]
          have n86 : ((sy_ai F 2).getD (sy_i F 83).toNatClampNeg 0).toInt = ((sy_ai F 2).getD ((sy_i F 83).toInt).toNat 0).toInt := congrArg Int32.toInt q86
          have r86 := nz_ba hB (k := 2) (lo := (-128)) (hi := 127) rfl ((sy_i F 83).toInt).toNat
          have q87 : (sy_ai F 2).getD (sy_i F 83).toNatClampNeg 0 = (sy_ai F 2).getD ((sy_i F 83).toInt).toNat 0 := by simp only [nz_c]
          have n87 : ((sy_ai F 2).getD (sy_i F 83).toNatClampNeg 0).toInt = ((sy_ai F 2).getD ((sy_i F 83).toInt).toNat 0).toInt := congrArg Int32.toInt q87
          have r87 := nz_ba hB (k := 2) (lo := (-128)) (hi := 127) rfl ((sy_i F 83).toInt).toNat
          exfalso
          omega
        have y4_19 := g4
        clear g4
        by_cases g4 : ((sy_ai F 2).getD ((sy_i F 83).toInt).toNat 0).toInt = 58
        · have q85 : (sy_ai F 2).getD (sy_i F 83).toNatClampNeg 0 = (sy_ai F 2).getD ((sy_i F 83).toInt).toNat 0 := by simp only [nz_c]
          have n85 : ((sy_ai F 2).getD (sy_i F 83).toNatClampNeg 0).toInt = ((sy_ai F 2).getD ((sy_i F 83).toInt).toNat 0).toInt := congrArg Int32.toInt q85
          have r85 := nz_ba hB (k := 2) (lo := (-128)) (hi := 127) rfl ((sy_i F 83).toInt).toNat
          have q86 : (sy_ai F 2).getD (sy_i F 83).toNatClampNeg 0 = (sy_ai F 2).getD ((sy_i F 83).toInt).toNat 0 := by simp only [nz_c]
          have n86 : ((sy_ai F 2).getD (sy_i F 83).toNatClampNeg 0).toInt = ((sy_ai F 2).getD ((sy_i F 83).toInt).toNat 0).toInt := congrArg Int32.toInt q86
          have r86 := nz_ba hB (k := 2) (lo := (-128)) (hi := 127) rfl ((sy_i F 83).toInt).toNat
          have q87 : (sy_ai F 2).getD (sy_i F 83).toNatClampNeg 0 = (sy_ai F 2).getD ((sy_i F 83).toInt).toNat 0 := by simp only [nz_c]
          have n87 : ((sy_ai F 2).getD (sy_i F 83).toNatClampNeg 0).toInt = ((sy_ai F 2).getD ((sy_i F 83).toInt).toNat 0).toInt := congrArg Int32.toInt q87
          have r87 := nz_ba hB (k := 2) (lo := (-128)) (hi := 127) rfl ((sy_i F 83).toInt).toNat
          have w88 : jm_upd (sy_ai F 39) (sy_i F 82).toNatClampNeg ((25 : Int32)) = jm_upd (sy_ai F 39) ((sy_i F 82).toInt).toNat ((25 : Int32)) := by simp only [nz_c, (by decide : ((25 : Int32)).toInt = 25)]
          exact k1on_0_p10 hd F X1 X2 hB (by first | exact g0 | (simp only [nz_c]; exact g0)) (by first | exact ⟨by omega, by omega⟩ | (simp only [nz_c]; exact ⟨by omega, by omega⟩)) (by first | exact g1 | (simp only [nz_c]; exact g1) | (rw [n85]; exact g1)) (by first | exact ⟨by omega, by omega⟩ | (simp only [nz_c]; exact ⟨by omega, by omega⟩)) (by first | exact g2 | (simp only [nz_c]; exact g2) | (rw [n86]; exact g2)) (by first | exact g3 | (simp only [nz_c]; exact g3) | (rw [n86]; exact g3)) (by first | exact ⟨by omega, by omega⟩ | (simp only [nz_c]; exact ⟨by omega, by omega⟩)) (by first | exact g4 | (simp only [nz_c]; exact g4) | (rw [n87]; exact g4)) (by first | exact ⟨by omega, by omega⟩ | (simp only [nz_c]; exact ⟨by omega, by omega⟩)) (fun F1 g e39 => by rw [(rfl : (sy_i F 83) + ((1 : Int32)) = (sy_i F 83) + ((1 : Int32)))]; exact k10 g0 g1 g2 g3 g4 F1 (nz_in0 hB [39] (fun j hj hn => g j hj (by simp only [List.mem_cons, List.not_mem_nil, or_false, not_or] at hn; omega)) (List.forall_mem_cons.mpr ⟨fun t ht => (Option.some.inj ht) ▸ (nz_hz2 e39), List.forall_mem_nil _⟩)) (fun j hj hn => g j hj (by simp only [List.mem_cons, List.not_mem_nil, or_false, not_or] at hn; omega)) ((zz_ai e39).trans w88) (nz_fa (g 40 (by decide) (by decide))) (nz_fl (g 41 (by decide) (by decide))))
        have y4_20 := g4
        clear g4
        by_cases g4 : ((sy_ai F 2).getD ((sy_i F 83).toInt).toNat 0).toInt = 59
        · have q85 : (sy_ai F 2).getD (sy_i F 83).toNatClampNeg 0 = (sy_ai F 2).getD ((sy_i F 83).toInt).toNat 0 := by simp only [nz_c]
          have n85 : ((sy_ai F 2).getD (sy_i F 83).toNatClampNeg 0).toInt = ((sy_ai F 2).getD ((sy_i F 83).toInt).toNat 0).toInt := congrArg Int32.toInt q85
          have r85 := nz_ba hB (k := 2) (lo := (-128)) (hi := 127) rfl ((sy_i F 83).toInt).toNat
          have q86 : (sy_ai F 2).getD (sy_i F 83).toNatClampNeg 0 = (sy_ai F 2).getD ((sy_i F 83).toInt).toNat 0 := by simp only [nz_c]
          have n86 : ((sy_ai F 2).getD (sy_i F 83).toNatClampNeg 0).toInt = ((sy_ai F 2).getD ((sy_i F 83).toInt).toNat 0).toInt := congrArg Int32.toInt q86
          have r86 := nz_ba hB (k := 2) (lo := (-128)) (hi := 127) rfl ((sy_i F 83).toInt).toNat
          have q87 : (sy_ai F 2).getD (sy_i F 83).toNatClampNeg 0 = (sy_ai F 2).getD ((sy_i F 83).toInt).toNat 0 := by simp only [nz_c]
          have n87 : ((sy_ai F 2).getD (sy_i F 83).toNatClampNeg 0).toInt = ((sy_ai F 2).getD ((sy_i F 83).toInt).toNat 0).toInt := congrArg Int32.toInt q87
          have r87 := nz_ba hB (k := 2) (lo := (-128)) (hi := 127) rfl ((sy_i F 83).toInt).toNat
          have w89 : jm_upd (sy_ai F 39) (sy_i F 82).toNatClampNeg ((sy_ai F 2).getD (sy_i F 83).toNatClampNeg 0) = jm_upd (sy_ai F 39) ((sy_i F 82).toInt).toNat ((sy_ai F 2).getD ((sy_i F 83).toInt).toNat 0) := by simp only [nz_c]
          exact k1on_0_p11 hd F X1 X2 hB (by first | exact g0 | (simp only [nz_c]; exact g0)) (by first | exact ⟨by omega, by omega⟩ | (simp only [nz_c]; exact ⟨by omega, by omega⟩)) (by first | exact g1 | (simp only [nz_c]; exact g1) | (rw [n85]; exact g1)) (by first | exact ⟨by omega, by omega⟩ | (simp only [nz_c]; exact ⟨by omega, by omega⟩)) (by first | exact g2 | (simp only [nz_c]; exact g2) | (rw [n86]; exact g2)) (by first | exact g3 | (simp only [nz_c]; exact g3) | (rw [n86]; exact g3)) (by first | exact ⟨by omega, by omega⟩ | (simp only [nz_c]; exact ⟨by omega, by omega⟩)) (by first | exact g4 | (simp only [nz_c]; exact g4) | (rw [n87]; exact g4)) (by first | exact ⟨by omega, by omega⟩ | (simp only [nz_c]; exact ⟨by omega, by omega⟩)) (by first | exact ⟨by omega, by omega⟩ | (simp only [nz_c]; exact ⟨by omega, by omega⟩)) (fun F1 g e39 => by rw [(rfl : (sy_i F 83) + ((1 : Int32)) = (sy_i F 83) + ((1 : Int32)))]; exact k11 g0 g1 g2 g3 g4 F1 (nz_in0 hB [39] (fun j hj hn => g j hj (by simp only [List.mem_cons, List.not_mem_nil, or_false, not_or] at hn; omega)) (List.forall_mem_cons.mpr ⟨fun t ht => (Option.some.inj ht) ▸ (nz_hz2 e39), List.forall_mem_nil _⟩)) (fun j hj hn => g j hj (by simp only [List.mem_cons, List.not_mem_nil, or_false, not_or] at hn; omega)) ((zz_ai e39).trans w89) (nz_fa (g 40 (by decide) (by decide))) (nz_fl (g 41 (by decide) (by decide))))
        have y4_21 := g4
        clear g4
        by_cases g4 : ((sy_ai F 2).getD ((sy_i F 83).toInt).toNat 0).toInt = 60
        · have q85 : (sy_ai F 2).getD (sy_i F 83).toNatClampNeg 0 = (sy_ai F 2).getD ((sy_i F 83).toInt).toNat 0 := by simp only [nz_c]
          have n85 : ((sy_ai F 2).getD (sy_i F 83).toNatClampNeg 0).toInt = ((sy_ai F 2).getD ((sy_i F 83).toInt).toNat 0).toInt := congrArg Int32.toInt q85
          have r85 := nz_ba hB (k := 2) (lo := (-128)) (hi := 127) rfl ((sy_i F 83).toInt).toNat
          have q86 : (sy_ai F 2).getD (sy_i F 83).toNatClampNeg 0 = (sy_ai F 2).getD ((sy_i F 83).toInt).toNat 0 := by simp only [nz_c]
          have n86 : ((sy_ai F 2).getD (sy_i F 83).toNatClampNeg 0).toInt = ((sy_ai F 2).getD ((sy_i F 83).toInt).toNat 0).toInt := congrArg Int32.toInt q86
          have r86 := nz_ba hB (k := 2) (lo := (-128)) (hi := 127) rfl ((sy_i F 83).toInt).toNat
          have q87 : (sy_ai F 2).getD (sy_i F 83).toNatClampNeg 0 = (sy_ai F 2).getD ((sy_i F 83).toInt).toNat 0 := by simp only [nz_c]
          have n87 : ((sy_ai F 2).getD (sy_i F 83).toNatClampNeg 0).toInt = ((sy_ai F 2).getD ((sy_i F 83).toInt).toNat 0).toInt := congrArg Int32.toInt q87
          have r87 := nz_ba hB (k := 2) (lo := (-128)) (hi := 127) rfl ((sy_i F 83).toInt).toNat
          have w89 : jm_upd (sy_ai F 39) (sy_i F 82).toNatClampNeg ((sy_ai F 2).getD (sy_i F 83).toNatClampNeg 0) = jm_upd (sy_ai F 39) ((sy_i F 82).toInt).toNat ((sy_ai F 2).getD ((sy_i F 83).toInt).toNat 0) := by simp only [nz_c]
          exact k1on_0_p12 hd F X1 X2 hB (by first | exact g0 | (simp only [nz_c]; exact g0)) (by first | exact ⟨by omega, by omega⟩ | (simp only [nz_c]; exact ⟨by omega, by omega⟩)) (by first | exact g1 | (simp only [nz_c]; exact g1) | (rw [n85]; exact g1)) (by first | exact ⟨by omega, by omega⟩ | (simp only [nz_c]; exact ⟨by omega, by omega⟩)) (by first | exact g2 | (simp only [nz_c]; exact g2) | (rw [n86]; exact g2)) (by first | exact g3 | (simp only [nz_c]; exact g3) | (rw [n86]; exact g3)) (by first | exact ⟨by omega, by omega⟩ | (simp only [nz_c]; exact ⟨by omega, by omega⟩)) (by first | exact g4 | (simp only [nz_c]; exact g4) | (rw [n87]; exact g4)) (by first | exact ⟨by omega, by omega⟩ | (simp only [nz_c]; exact ⟨by omega, by omega⟩)) (by first | exact ⟨by omega, by omega⟩ | (simp only [nz_c]; exact ⟨by omega, by omega⟩)) (fun F1 g e39 => by rw [(rfl : (sy_i F 83) + ((1 : Int32)) = (sy_i F 83) + ((1 : Int32)))]; exact k12 g0 g1 g2 g3 g4 F1 (nz_in0 hB [39] (fun j hj hn => g j hj (by simp only [List.mem_cons, List.not_mem_nil, or_false, not_or] at hn; omega)) (List.forall_mem_cons.mpr ⟨fun t ht => (Option.some.inj ht) ▸ (nz_hz2 e39), List.forall_mem_nil _⟩)) (fun j hj hn => g j hj (by simp only [List.mem_cons, List.not_mem_nil, or_false, not_or] at hn; omega)) ((zz_ai e39).trans w89) (nz_fa (g 40 (by decide) (by decide))) (nz_fl (g 41 (by decide) (by decide))))
        have y4_22 := g4
        clear g4
        by_cases g4 : ((sy_ai F 2).getD ((sy_i F 83).toInt).toNat 0).toInt = 61
        · have q85 : (sy_ai F 2).getD (sy_i F 83).toNatClampNeg 0 = (sy_ai F 2).getD ((sy_i F 83).toInt).toNat 0 := by simp only [nz_c]
          have n85 : ((sy_ai F 2).getD (sy_i F 83).toNatClampNeg 0).toInt = ((sy_ai F 2).getD ((sy_i F 83).toInt).toNat 0).toInt := congrArg Int32.toInt q85
          have r85 := nz_ba hB (k := 2) (lo := (-128)) (hi := 127) rfl ((sy_i F 83).toInt).toNat
          have q86 : (sy_ai F 2).getD (sy_i F 83).toNatClampNeg 0 = (sy_ai F 2).getD ((sy_i F 83).toInt).toNat 0 := by simp only [nz_c]
          have n86 : ((sy_ai F 2).getD (sy_i F 83).toNatClampNeg 0).toInt = ((sy_ai F 2).getD ((sy_i F 83).toInt).toNat 0).toInt := congrArg Int32.toInt q86
          have r86 := nz_ba hB (k := 2) (lo := (-128)) (hi := 127) rfl ((sy_i F 83).toInt).toNat
          have q87 : (sy_ai F 2).getD (sy_i F 83).toNatClampNeg 0 = (sy_ai F 2).getD ((sy_i F 83).toInt).toNat 0 := by simp only [nz_c]
          have n87 : ((sy_ai F 2).getD (sy_i F 83).toNatClampNeg 0).toInt = ((sy_ai F 2).getD ((sy_i F 83).toInt).toNat 0).toInt := congrArg Int32.toInt q87
          have r87 := nz_ba hB (k := 2) (lo := (-128)) (hi := 127) rfl ((sy_i F 83).toInt).toNat
          have w89 : jm_upd (sy_ai F 39) (sy_i F 82).toNatClampNeg ((sy_ai F 2).getD (sy_i F 83).toNatClampNeg 0) = jm_upd (sy_ai F 39) ((sy_i F 82).toInt).toNat ((sy_ai F 2).getD ((sy_i F 83).toInt).toNat 0) := by simp only [nz_c]
          exact k1on_0_p13 hd F X1 X2 hB (by first | exact g0 | (simp only [nz_c]; exact g0)) (by first | exact ⟨by omega, by omega⟩ | (simp only [nz_c]; exact ⟨by omega, by omega⟩)) (by first | exact g1 | (simp only [nz_c]; exact g1) | (rw [n85]; exact g1)) (by first | exact ⟨by omega, by omega⟩ | (simp only [nz_c]; exact ⟨by omega, by omega⟩)) (by first | exact g2 | (simp only [nz_c]; exact g2) | (rw [n86]; exact g2)) (by first | exact g3 | (simp only [nz_c]; exact g3) | (rw [n86]; exact g3)) (by first | exact ⟨by omega, by omega⟩ | (simp only [nz_c]; exact ⟨by omega, by omega⟩)) (by first | exact g4 | (simp only [nz_c]; exact g4) | (rw [n87]; exact g4)) (by first | exact ⟨by omega, by omega⟩ | (simp only [nz_c]; exact ⟨by omega, by omega⟩)) (by first | exact ⟨by omega, by omega⟩ | (simp only [nz_c]; exact ⟨by omega, by omega⟩)) (fun F1 g e39 => by rw [(rfl : (sy_i F 83) + ((1 : Int32)) = (sy_i F 83) + ((1 : Int32)))]; exact k13 g0 g1 g2 g3 g4 F1 (nz_in0 hB [39] (fun j hj hn => g j hj (by simp only [List.mem_cons, List.not_mem_nil, or_false, not_or] at hn; omega)) (List.forall_mem_cons.mpr ⟨fun t ht => (Option.some.inj ht) ▸ (nz_hz2 e39), List.forall_mem_nil _⟩)) (fun j hj hn => g j hj (by simp only [List.mem_cons, List.not_mem_nil, or_false, not_or] at hn; omega)) ((zz_ai e39).trans w89) (nz_fa (g 40 (by decide) (by decide))) (nz_fl (g 41 (by decide) (by decide))))
        have q87 : (sy_ai F 2).getD (sy_i F 83).toNatClampNeg 0 = (sy_ai F 2).getD ((sy_i F 83).toInt).toNat 0 := by simp only [nz_c]
        have n87 : ((sy_ai F 2).getD (sy_i F 83).toNatClampNeg 0).toInt = ((sy_ai F 2).getD ((sy_i F 83).toInt).toNat 0).toInt := congrArg Int32.toInt q87
        have r87 := nz_ba hB (k := 2) (lo := (-128)) (hi := 127) rfl ((sy_i F 83).toInt).toNat
        exfalso
        omega
      replace g3 : ((sy_ai F 2).getD ((sy_i F 83).toInt).toNat 0).toInt ≤ 57 := by omega
      have q85 : (sy_ai F 2).getD (sy_i F 83).toNatClampNeg 0 = (sy_ai F 2).getD ((sy_i F 83).toInt).toNat 0 := by simp only [nz_c]
      have n85 : ((sy_ai F 2).getD (sy_i F 83).toNatClampNeg 0).toInt = ((sy_ai F 2).getD ((sy_i F 83).toInt).toNat 0).toInt := congrArg Int32.toInt q85
      have r85 := nz_ba hB (k := 2) (lo := (-128)) (hi := 127) rfl ((sy_i F 83).toInt).toNat
      have q86 : (sy_ai F 2).getD (sy_i F 83).toNatClampNeg 0 = (sy_ai F 2).getD ((sy_i F 83).toInt).toNat 0 := by simp only [nz_c]
      have n86 : ((sy_ai F 2).getD (sy_i F 83).toNatClampNeg 0).toInt = ((sy_ai F 2).getD ((sy_i F 83).toInt).toNat 0).toInt := congrArg Int32.toInt q86
      have r86 := nz_ba hB (k := 2) (lo := (-128)) (hi := 127) rfl ((sy_i F 83).toInt).toNat
      exact k1on_0_p14 hd F X1 X2 hB (by first | exact g0 | (simp only [nz_c]; exact g0)) (by first | exact ⟨by omega, by omega⟩ | (simp only [nz_c]; exact ⟨by omega, by omega⟩)) (by first | exact g1 | (simp only [nz_c]; exact g1) | (rw [n85]; exact g1)) (by first | exact ⟨by omega, by omega⟩ | (simp only [nz_c]; exact ⟨by omega, by omega⟩)) (by first | exact g2 | (simp only [nz_c]; exact g2) | (rw [n86]; exact g2)) (by first | exact g3 | (simp only [nz_c]; exact g3) | (rw [n86]; exact g3)) (fun F1 g e82 e83 e84 => k14 g0 g1 g2 g3 F1 (nz_in0 hB [] (fun j hj hn => g j hj (by simp only [List.mem_cons, List.not_mem_nil, or_false, not_or] at hn; exact trivial)) (List.forall_mem_nil _)) (fun j hj hn => g j hj (by simp only [List.mem_cons, List.not_mem_nil, or_false, not_or] at hn; exact trivial)) (nz_fa (g 39 (by decide) (by decide))) (nz_fa (g 40 (by decide) (by decide))) (nz_fl (g 41 (by decide) (by decide))) ((congrArg Int32.toInt (zz_i e82)).trans (rfl : (sy_i F 84).toInt = (sy_i F 84).toInt)) ((congrArg Int32.toInt (zz_i e83)).trans (rfl : (sy_i F 83).toInt = (sy_i F 83).toInt)) ((congrArg Int32.toInt (zz_i e84)).trans (rfl : (sy_i F 82).toInt = (sy_i F 82).toInt)))
    replace g1 : 97 ≤ ((sy_ai F 2).getD ((sy_i F 83).toInt).toNat 0).toInt := by omega
    by_cases g2 : 122 < ((sy_ai F 2).getD ((sy_i F 83).toInt).toNat 0).toInt
    · by_cases g3 : ((sy_ai F 2).getD ((sy_i F 83).toInt).toNat 0).toInt < 48
      · have q85 : (sy_ai F 2).getD (sy_i F 83).toNatClampNeg 0 = (sy_ai F 2).getD ((sy_i F 83).toInt).toNat 0 := by simp only [nz_c]
        have n85 : ((sy_ai F 2).getD (sy_i F 83).toNatClampNeg 0).toInt = ((sy_ai F 2).getD ((sy_i F 83).toInt).toNat 0).toInt := congrArg Int32.toInt q85
        have r85 := nz_ba hB (k := 2) (lo := (-128)) (hi := 127) rfl ((sy_i F 83).toInt).toNat
        have q86 : (sy_ai F 2).getD (sy_i F 83).toNatClampNeg 0 = (sy_ai F 2).getD ((sy_i F 83).toInt).toNat 0 := by simp only [nz_c]
        have n86 : ((sy_ai F 2).getD (sy_i F 83).toNatClampNeg 0).toInt = ((sy_ai F 2).getD ((sy_i F 83).toInt).toNat 0).toInt := congrArg Int32.toInt q86
        have r86 := nz_ba hB (k := 2) (lo := (-128)) (hi := 127) rfl ((sy_i F 83).toInt).toNat
        exfalso
        omega
      replace g3 : 48 ≤ ((sy_ai F 2).getD ((sy_i F 83).toInt).toNat 0).toInt := by omega
      by_cases g4 : 57 < ((sy_ai F 2).getD ((sy_i F 83).toInt).toNat 0).toInt
      · by_cases g5 : ((sy_ai F 2).getD ((sy_i F 83).toInt).toNat 0).toInt < 40
        · have q85 : (sy_ai F 2).getD (sy_i F 83).toNatClampNeg 0 = (sy_ai F 2).getD ((sy_i F 83).toInt).toNat 0 := by simp only [nz_c]
          have n85 : ((sy_ai F 2).getD (sy_i F 83).toNatClampNeg 0).toInt = ((sy_ai F 2).getD ((sy_i F 83).toInt).toNat 0).toInt := congrArg Int32.toInt q85
          have r85 := nz_ba hB (k := 2) (lo := (-128)) (hi := 127) rfl ((sy_i F 83).toInt).toNat
          have q86 : (sy_ai F 2).getD (sy_i F 83).toNatClampNeg 0 = (sy_ai F 2).getD ((sy_i F 83).toInt).toNat 0 := by simp only [nz_c]
          have n86 : ((sy_ai F 2).getD (sy_i F 83).toNatClampNeg 0).toInt = ((sy_ai F 2).getD ((sy_i F 83).toInt).toNat 0).toInt := congrArg Int32.toInt q86
          have r86 := nz_ba hB (k := 2) (lo := (-128)) (hi := 127) rfl ((sy_i F 83).toInt).toNat
          have q87 : (sy_ai F 2).getD (sy_i F 83).toNatClampNeg 0 = (sy_ai F 2).getD ((sy_i F 83).toInt).toNat 0 := by simp only [nz_c]
          have n87 : ((sy_ai F 2).getD (sy_i F 83).toNatClampNeg 0).toInt = ((sy_ai F 2).getD ((sy_i F 83).toInt).toNat 0).toInt := congrArg Int32.toInt q87
          have r87 := nz_ba hB (k := 2) (lo := (-128)) (hi := 127) rfl ((sy_i F 83).toInt).toNat
          exfalso
          omega
        have y5_0 := g5
        clear g5
        by_cases g5 : 61 < ((sy_ai F 2).getD ((sy_i F 83).toInt).toNat 0).toInt
        · have q85 : (sy_ai F 2).getD (sy_i F 83).toNatClampNeg 0 = (sy_ai F 2).getD ((sy_i F 83).toInt).toNat 0 := by simp only [nz_c]
          have n85 : ((sy_ai F 2).getD (sy_i F 83).toNatClampNeg 0).toInt = ((sy_ai F 2).getD ((sy_i F 83).toInt).toNat 0).toInt := congrArg Int32.toInt q85
          have r85 := nz_ba hB (k := 2) (lo := (-128)) (hi := 127) rfl ((sy_i F 83).toInt).toNat
          have q86 : (sy_ai F 2).getD (sy_i F 83).toNatClampNeg 0 = (sy_ai F 2).getD ((sy_i F 83).toInt).toNat 0 := by simp only [nz_c]
          have n86 : ((sy_ai F 2).getD (sy_i F 83).toNatClampNeg 0).toInt = ((sy_ai F 2).getD ((sy_i F 83).toInt).toNat 0).toInt := congrArg Int32.toInt q86
          have r86 := nz_ba hB (k := 2) (lo := (-128)) (hi := 127) rfl ((sy_i F 83).toInt).toNat
          have q87 : (sy_ai F 2).getD (sy_i F 83).toNatClampNeg 0 = (sy_ai F 2).getD ((sy_i F 83).toInt).toNat 0 := by simp only [nz_c]
          have n87 : ((sy_ai F 2).getD (sy_i F 83).toNatClampNeg 0).toInt = ((sy_ai F 2).getD ((sy_i F 83).toInt).toNat 0).toInt := congrArg Int32.toInt q87
          have r87 := nz_ba hB (k := 2) (lo := (-128)) (hi := 127) rfl ((sy_i F 83).toInt).toNat
          have w88 : jm_upd (sy_ai F 39) (sy_i F 82).toNatClampNeg ((25 : Int32)) = jm_upd (sy_ai F 39) ((sy_i F 82).toInt).toNat ((25 : Int32)) := by simp only [nz_c, (by decide : ((25 : Int32)).toInt = 25)]
          exact k1on_0_p15 hd F X1 X2 hB (by first | exact g0 | (simp only [nz_c]; exact g0)) (by first | exact ⟨by omega, by omega⟩ | (simp only [nz_c]; exact ⟨by omega, by omega⟩)) (by first | exact g1 | (simp only [nz_c]; exact g1) | (rw [n85]; exact g1)) (by first | exact g2 | (simp only [nz_c]; exact g2) | (rw [n85]; exact g2)) (by first | exact ⟨by omega, by omega⟩ | (simp only [nz_c]; exact ⟨by omega, by omega⟩)) (by first | exact g3 | (simp only [nz_c]; exact g3) | (rw [n86]; exact g3)) (by first | exact g4 | (simp only [nz_c]; exact g4) | (rw [n86]; exact g4)) (by first | exact ⟨by omega, by omega⟩ | (simp only [nz_c]; exact ⟨by omega, by omega⟩)) (by first | exact g5 | (simp only [nz_c]; exact g5) | (rw [n87]; exact g5)) (by first | exact ⟨by omega, by omega⟩ | (simp only [nz_c]; exact ⟨by omega, by omega⟩)) (fun F1 g e39 => by rw [(rfl : (sy_i F 83) + ((1 : Int32)) = (sy_i F 83) + ((1 : Int32)))]; exact k15 g0 g1 g2 g3 g4 g5 F1 (nz_in0 hB [39] (fun j hj hn => g j hj (by simp only [List.mem_cons, List.not_mem_nil, or_false, not_or] at hn; omega)) (List.forall_mem_cons.mpr ⟨fun t ht => (Option.some.inj ht) ▸ (nz_hz2 e39), List.forall_mem_nil _⟩)) (fun j hj hn => g j hj (by simp only [List.mem_cons, List.not_mem_nil, or_false, not_or] at hn; omega)) ((zz_ai e39).trans w88) (nz_fa (g 40 (by decide) (by decide))) (nz_fl (g 41 (by decide) (by decide))))
        have y5_1 := g5
        clear g5
        by_cases g5 : ((sy_ai F 2).getD ((sy_i F 83).toInt).toNat 0).toInt = 40
        · have q85 : (sy_ai F 2).getD (sy_i F 83).toNatClampNeg 0 = (sy_ai F 2).getD ((sy_i F 83).toInt).toNat 0 := by simp only [nz_c]
          have n85 : ((sy_ai F 2).getD (sy_i F 83).toNatClampNeg 0).toInt = ((sy_ai F 2).getD ((sy_i F 83).toInt).toNat 0).toInt := congrArg Int32.toInt q85
          have r85 := nz_ba hB (k := 2) (lo := (-128)) (hi := 127) rfl ((sy_i F 83).toInt).toNat
          have q86 : (sy_ai F 2).getD (sy_i F 83).toNatClampNeg 0 = (sy_ai F 2).getD ((sy_i F 83).toInt).toNat 0 := by simp only [nz_c]
          have n86 : ((sy_ai F 2).getD (sy_i F 83).toNatClampNeg 0).toInt = ((sy_ai F 2).getD ((sy_i F 83).toInt).toNat 0).toInt := congrArg Int32.toInt q86
          have r86 := nz_ba hB (k := 2) (lo := (-128)) (hi := 127) rfl ((sy_i F 83).toInt).toNat
          have q87 : (sy_ai F 2).getD (sy_i F 83).toNatClampNeg 0 = (sy_ai F 2).getD ((sy_i F 83).toInt).toNat 0 := by simp only [nz_c]
          have n87 : ((sy_ai F 2).getD (sy_i F 83).toNatClampNeg 0).toInt = ((sy_ai F 2).getD ((sy_i F 83).toInt).toNat 0).toInt := congrArg Int32.toInt q87
          have r87 := nz_ba hB (k := 2) (lo := (-128)) (hi := 127) rfl ((sy_i F 83).toInt).toNat
          exfalso
          omega
        have y5_2 := g5
        clear g5
        by_cases g5 : ((sy_ai F 2).getD ((sy_i F 83).toInt).toNat 0).toInt = 41
        · have q85 : (sy_ai F 2).getD (sy_i F 83).toNatClampNeg 0 = (sy_ai F 2).getD ((sy_i F 83).toInt).toNat 0 := by simp only [nz_c]
          have n85 : ((sy_ai F 2).getD (sy_i F 83).toNatClampNeg 0).toInt = ((sy_ai F 2).getD ((sy_i F 83).toInt).toNat 0).toInt := congrArg Int32.toInt q85
          have r85 := nz_ba hB (k := 2) (lo := (-128)) (hi := 127) rfl ((sy_i F 83).toInt).toNat
          have q86 : (sy_ai F 2).getD (sy_i F 83).toNatClampNeg 0 = (sy_ai F 2).getD ((sy_i F 83).toInt).toNat 0 := by simp only [nz_c]
          have n86 : ((sy_ai F 2).getD (sy_i F 83).toNatClampNeg 0).toInt = ((sy_ai F 2).getD ((sy_i F 83).toInt).toNat 0).toInt := congrArg Int32.toInt q86
          have r86 := nz_ba hB (k := 2) (lo := (-128)) (hi := 127) rfl ((sy_i F 83).toInt).toNat
          have q87 : (sy_ai F 2).getD (sy_i F 83).toNatClampNeg 0 = (sy_ai F 2).getD ((sy_i F 83).toInt).toNat 0 := by simp only [nz_c]
          have n87 : ((sy_ai F 2).getD (sy_i F 83).toNatClampNeg 0).toInt = ((sy_ai F 2).getD ((sy_i F 83).toInt).toNat 0).toInt := congrArg Int32.toInt q87
          have r87 := nz_ba hB (k := 2) (lo := (-128)) (hi := 127) rfl ((sy_i F 83).toInt).toNat
          exfalso
          omega
        have y5_3 := g5
        clear g5
        by_cases g5 : ((sy_ai F 2).getD ((sy_i F 83).toInt).toNat 0).toInt = 42
        · have q85 : (sy_ai F 2).getD (sy_i F 83).toNatClampNeg 0 = (sy_ai F 2).getD ((sy_i F 83).toInt).toNat 0 := by simp only [nz_c]
          have n85 : ((sy_ai F 2).getD (sy_i F 83).toNatClampNeg 0).toInt = ((sy_ai F 2).getD ((sy_i F 83).toInt).toNat 0).toInt := congrArg Int32.toInt q85
          have r85 := nz_ba hB (k := 2) (lo := (-128)) (hi := 127) rfl ((sy_i F 83).toInt).toNat
          have q86 : (sy_ai F 2).getD (sy_i F 83).toNatClampNeg 0 = (sy_ai F 2).getD ((sy_i F 83).toInt).toNat 0 := by simp only [nz_c]
          have n86 : ((sy_ai F 2).getD (sy_i F 83).toNatClampNeg 0).toInt = ((sy_ai F 2).getD ((sy_i F 83).toInt).toNat 0).toInt := congrArg Int32.toInt q86
          have r86 := nz_ba hB (k := 2) (lo := (-128)) (hi := 127) rfl ((sy_i F 83).toInt).toNat
          have q87 : (sy_ai F 2).getD (sy_i F 83).toNatClampNeg 0 = (sy_ai F 2).getD ((sy_i F 83).toInt).toNat 0 := by simp only [nz_c]
          have n87 : ((sy_ai F 2).getD (sy_i F 83).toNatClampNeg 0).toInt = ((sy_ai F 2).getD ((sy_i F 83).toInt).toNat 0).toInt := congrArg Int32.toInt q87
          have r87 := nz_ba hB (k := 2) (lo := (-128)) (hi := 127) rfl ((sy_i F 83).toInt).toNat
          exfalso
          omega
        have y5_4 := g5
        clear g5
        by_cases g5 : ((sy_ai F 2).getD ((sy_i F 83).toInt).toNat 0).toInt = 43
        · have q85 : (sy_ai F 2).getD (sy_i F 83).toNatClampNeg 0 = (sy_ai F 2).getD ((sy_i F 83).toInt).toNat 0 := by simp only [nz_c]
          have n85 : ((sy_ai F 2).getD (sy_i F 83).toNatClampNeg 0).toInt = ((sy_ai F 2).getD ((sy_i F 83).toInt).toNat 0).toInt := congrArg Int32.toInt q85
          have r85 := nz_ba hB (k := 2) (lo := (-128)) (hi := 127) rfl ((sy_i F 83).toInt).toNat
          have q86 : (sy_ai F 2).getD (sy_i F 83).toNatClampNeg 0 = (sy_ai F 2).getD ((sy_i F 83).toInt).toNat 0 := by simp only [nz_c]
          have n86 : ((sy_ai F 2).getD (sy_i F 83).toNatClampNeg 0).toInt = ((sy_ai F 2).getD ((sy_i F 83).toInt).toNat 0).toInt := congrArg Int32.toInt q86
          have r86 := nz_ba hB (k := 2) (lo := (-128)) (hi := 127) rfl ((sy_i F 83).toInt).toNat
          have q87 : (sy_ai F 2).getD (sy_i F 83).toNatClampNeg 0 = (sy_ai F 2).getD ((sy_i F 83).toInt).toNat 0 := by simp only [nz_c]
          have n87 : ((sy_ai F 2).getD (sy_i F 83).toNatClampNeg 0).toInt = ((sy_ai F 2).getD ((sy_i F 83).toInt).toNat 0).toInt := congrArg Int32.toInt q87
          have r87 := nz_ba hB (k := 2) (lo := (-128)) (hi := 127) rfl ((sy_i F 83).toInt).toNat
          exfalso
          omega
        have y5_5 := g5
        clear g5
        by_cases g5 : ((sy_ai F 2).getD ((sy_i F 83).toInt).toNat 0).toInt = 44
        · have q85 : (sy_ai F 2).getD (sy_i F 83).toNatClampNeg 0 = (sy_ai F 2).getD ((sy_i F 83).toInt).toNat 0 := by simp only [nz_c]
          have n85 : ((sy_ai F 2).getD (sy_i F 83).toNatClampNeg 0).toInt = ((sy_ai F 2).getD ((sy_i F 83).toInt).toNat 0).toInt := congrArg Int32.toInt q85
          have r85 := nz_ba hB (k := 2) (lo := (-128)) (hi := 127) rfl ((sy_i F 83).toInt).toNat
          have q86 : (sy_ai F 2).getD (sy_i F 83).toNatClampNeg 0 = (sy_ai F 2).getD ((sy_i F 83).toInt).toNat 0 := by simp only [nz_c]
          have n86 : ((sy_ai F 2).getD (sy_i F 83).toNatClampNeg 0).toInt = ((sy_ai F 2).getD ((sy_i F 83).toInt).toNat 0).toInt := congrArg Int32.toInt q86
          have r86 := nz_ba hB (k := 2) (lo := (-128)) (hi := 127) rfl ((sy_i F 83).toInt).toNat
          have q87 : (sy_ai F 2).getD (sy_i F 83).toNatClampNeg 0 = (sy_ai F 2).getD ((sy_i F 83).toInt).toNat 0 := by simp only [nz_c]
          have n87 : ((sy_ai F 2).getD (sy_i F 83).toNatClampNeg 0).toInt = ((sy_ai F 2).getD ((sy_i F 83).toInt).toNat 0).toInt := congrArg Int32.toInt q87
          have r87 := nz_ba hB (k := 2) (lo := (-128)) (hi := 127) rfl ((sy_i F 83).toInt).toNat
          exfalso
          omega
        have y5_6 := g5
        clear g5
        by_cases g5 : ((sy_ai F 2).getD ((sy_i F 83).toInt).toNat 0).toInt = 45
        · have q85 : (sy_ai F 2).getD (sy_i F 83).toNatClampNeg 0 = (sy_ai F 2).getD ((sy_i F 83).toInt).toNat 0 := by simp only [nz_c]
          have n85 : ((sy_ai F 2).getD (sy_i F 83).toNatClampNeg 0).toInt = ((sy_ai F 2).getD ((sy_i F 83).toInt).toNat 0).toInt := congrArg Int32.toInt q85
          have r85 := nz_ba hB (k := 2) (lo := (-128)) (hi := 127) rfl ((sy_i F 83).toInt).toNat
          have q86 : (sy_ai F 2).getD (sy_i F 83).toNatClampNeg 0 = (sy_ai F 2).getD ((sy_i F 83).toInt).toNat 0 := by simp only [nz_c]
          have n86 : ((sy_ai F 2).getD (sy_i F 83).toNatClampNeg 0).toInt = ((sy_ai F 2).getD ((sy_i F 83).toInt).toNat 0).toInt := congrArg Int32.toInt q86
          have r86 := nz_ba hB (k := 2) (lo := (-128)) (hi := 127) rfl ((sy_i F 83).toInt).toNat
          have q87 : (sy_ai F 2).getD (sy_i F 83).toNatClampNeg 0 = (sy_ai F 2).getD ((sy_i F 83).toInt).toNat 0 := by simp only [nz_c]
          have n87 : ((sy_ai F 2).getD (sy_i F 83).toNatClampNeg 0).toInt = ((sy_ai F 2).getD ((sy_i F 83).toInt).toNat 0).toInt := congrArg Int32.toInt q87
          have r87 := nz_ba hB (k := 2) (lo := (-128)) (hi := 127) rfl ((sy_i F 83).toInt).toNat
          exfalso
          omega
        have y5_7 := g5
        clear g5
        by_cases g5 : ((sy_ai F 2).getD ((sy_i F 83).toInt).toNat 0).toInt = 46
        · have q85 : (sy_ai F 2).getD (sy_i F 83).toNatClampNeg 0 = (sy_ai F 2).getD ((sy_i F 83).toInt).toNat 0 := by simp only [nz_c]
          have n85 : ((sy_ai F 2).getD (sy_i F 83).toNatClampNeg 0).toInt = ((sy_ai F 2).getD ((sy_i F 83).toInt).toNat 0).toInt := congrArg Int32.toInt q85
          have r85 := nz_ba hB (k := 2) (lo := (-128)) (hi := 127) rfl ((sy_i F 83).toInt).toNat
          have q86 : (sy_ai F 2).getD (sy_i F 83).toNatClampNeg 0 = (sy_ai F 2).getD ((sy_i F 83).toInt).toNat 0 := by simp only [nz_c]
          have n86 : ((sy_ai F 2).getD (sy_i F 83).toNatClampNeg 0).toInt = ((sy_ai F 2).getD ((sy_i F 83).toInt).toNat 0).toInt := congrArg Int32.toInt q86
          have r86 := nz_ba hB (k := 2) (lo := (-128)) (hi := 127) rfl ((sy_i F 83).toInt).toNat
          have q87 : (sy_ai F 2).getD (sy_i F 83).toNatClampNeg 0 = (sy_ai F 2).getD ((sy_i F 83).toInt).toNat 0 := by simp only [nz_c]
          have n87 : ((sy_ai F 2).getD (sy_i F 83).toNatClampNeg 0).toInt = ((sy_ai F 2).getD ((sy_i F 83).toInt).toNat 0).toInt := congrArg Int32.toInt q87
          have r87 := nz_ba hB (k := 2) (lo := (-128)) (hi := 127) rfl ((sy_i F 83).toInt).toNat
          exfalso
          omega
        have y5_8 := g5
        clear g5
        by_cases g5 : ((sy_ai F 2).getD ((sy_i F 83).toInt).toNat 0).toInt = 47
        · have q85 : (sy_ai F 2).getD (sy_i F 83).toNatClampNeg 0 = (sy_ai F 2).getD ((sy_i F 83).toInt).toNat 0 := by simp only [nz_c]
          have n85 : ((sy_ai F 2).getD (sy_i F 83).toNatClampNeg 0).toInt = ((sy_ai F 2).getD ((sy_i F 83).toInt).toNat 0).toInt := congrArg Int32.toInt q85
          have r85 := nz_ba hB (k := 2) (lo := (-128)) (hi := 127) rfl ((sy_i F 83).toInt).toNat
          have q86 : (sy_ai F 2).getD (sy_i F 83).toNatClampNeg 0 = (sy_ai F 2).getD ((sy_i F 83).toInt).toNat 0 := by simp only [nz_c]
          have n86 : ((sy_ai F 2).getD (sy_i F 83).toNatClampNeg 0).toInt = ((sy_ai F 2).getD ((sy_i F 83).toInt).toNat 0).toInt := congrArg Int32.toInt q86
          have r86 := nz_ba hB (k := 2) (lo := (-128)) (hi := 127) rfl ((sy_i F 83).toInt).toNat
          have q87 : (sy_ai F 2).getD (sy_i F 83).toNatClampNeg 0 = (sy_ai F 2).getD ((sy_i F 83).toInt).toNat 0 := by simp only [nz_c]
          have n87 : ((sy_ai F 2).getD (sy_i F 83).toNatClampNeg 0).toInt = ((sy_ai F 2).getD ((sy_i F 83).toInt).toNat 0).toInt := congrArg Int32.toInt q87
          have r87 := nz_ba hB (k := 2) (lo := (-128)) (hi := 127) rfl ((sy_i F 83).toInt).toNat
          exfalso
          omega
        have y5_9 := g5
        clear g5
        by_cases g5 : ((sy_ai F 2).getD ((sy_i F 83).toInt).toNat 0).toInt = 48
        · have q85 : (sy_ai F 2).getD (sy_i F 83).toNatClampNeg 0 = (sy_ai F 2).getD ((sy_i F 83).toInt).toNat 0 := by simp only [nz_c]
          have n85 : ((sy_ai F 2).getD (sy_i F 83).toNatClampNeg 0).toInt = ((sy_ai F 2).getD ((sy_i F 83).toInt).toNat 0).toInt := congrArg Int32.toInt q85
          have r85 := nz_ba hB (k := 2) (lo := (-128)) (hi := 127) rfl ((sy_i F 83).toInt).toNat
          have q86 : (sy_ai F 2).getD (sy_i F 83).toNatClampNeg 0 = (sy_ai F 2).getD ((sy_i F 83).toInt).toNat 0 := by simp only [nz_c]
          have n86 : ((sy_ai F 2).getD (sy_i F 83).toNatClampNeg 0).toInt = ((sy_ai F 2).getD ((sy_i F 83).toInt).toNat 0).toInt := congrArg Int32.toInt q86
          have r86 := nz_ba hB (k := 2) (lo := (-128)) (hi := 127) rfl ((sy_i F 83).toInt).toNat
          have q87 : (sy_ai F 2).getD (sy_i F 83).toNatClampNeg 0 = (sy_ai F 2).getD ((sy_i F 83).toInt).toNat 0 := by simp only [nz_c]
          have n87 : ((sy_ai F 2).getD (sy_i F 83).toNatClampNeg 0).toInt = ((sy_ai F 2).getD ((sy_i F 83).toInt).toNat 0).toInt := congrArg Int32.toInt q87
          have r87 := nz_ba hB (k := 2) (lo := (-128)) (hi := 127) rfl ((sy_i F 83).toInt).toNat
          exfalso
          omega
        have y5_10 := g5
        clear g5
        by_cases g5 : ((sy_ai F 2).getD ((sy_i F 83).toInt).toNat 0).toInt = 49
        · have q85 : (sy_ai F 2).getD (sy_i F 83).toNatClampNeg 0 = (sy_ai F 2).getD ((sy_i F 83).toInt).toNat 0 := by simp only [nz_c]
          have n85 : ((sy_ai F 2).getD (sy_i F 83).toNatClampNeg 0).toInt = ((sy_ai F 2).getD ((sy_i F 83).toInt).toNat 0).toInt := congrArg Int32.toInt q85
          have r85 := nz_ba hB (k := 2) (lo := (-128)) (hi := 127) rfl ((sy_i F 83).toInt).toNat
          have q86 : (sy_ai F 2).getD (sy_i F 83).toNatClampNeg 0 = (sy_ai F 2).getD ((sy_i F 83).toInt).toNat 0 := by simp only [nz_c]
          have n86 : ((sy_ai F 2).getD (sy_i F 83).toNatClampNeg 0).toInt = ((sy_ai F 2).getD ((sy_i F 83).toInt).toNat 0).toInt := congrArg Int32.toInt q86
          have r86 := nz_ba hB (k := 2) (lo := (-128)) (hi := 127) rfl ((sy_i F 83).toInt).toNat
          have q87 : (sy_ai F 2).getD (sy_i F 83).toNatClampNeg 0 = (sy_ai F 2).getD ((sy_i F 83).toInt).toNat 0 := by simp only [nz_c]
          have n87 : ((sy_ai F 2).getD (sy_i F 83).toNatClampNeg 0).toInt = ((sy_ai F 2).getD ((sy_i F 83).toInt).toNat 0).toInt := congrArg Int32.toInt q87
          have r87 := nz_ba hB (k := 2) (lo := (-128)) (hi := 127) rfl ((sy_i F 83).toInt).toNat
          exfalso
          omega
        have y5_11 := g5
        clear g5
        by_cases g5 : ((sy_ai F 2).getD ((sy_i F 83).toInt).toNat 0).toInt = 50
        · have q85 : (sy_ai F 2).getD (sy_i F 83).toNatClampNeg 0 = (sy_ai F 2).getD ((sy_i F 83).toInt).toNat 0 := by simp only [nz_c]
          have n85 : ((sy_ai F 2).getD (sy_i F 83).toNatClampNeg 0).toInt = ((sy_ai F 2).getD ((sy_i F 83).toInt).toNat 0).toInt := congrArg Int32.toInt q85
          have r85 := nz_ba hB (k := 2) (lo := (-128)) (hi := 127) rfl ((sy_i F 83).toInt).toNat
          have q86 : (sy_ai F 2).getD (sy_i F 83).toNatClampNeg 0 = (sy_ai F 2).getD ((sy_i F 83).toInt).toNat 0 := by simp only [nz_c]
          have n86 : ((sy_ai F 2).getD (sy_i F 83).toNatClampNeg 0).toInt = ((sy_ai F 2).getD ((sy_i F 83).toInt).toNat 0).toInt := congrArg Int32.toInt q86
          have r86 := nz_ba hB (k := 2) (lo := (-128)) (hi := 127) rfl ((sy_i F 83).toInt).toNat
          have q87 : (sy_ai F 2).getD (sy_i F 83).toNatClampNeg 0 = (sy_ai F 2).getD ((sy_i F 83).toInt).toNat 0 := by simp only [nz_c]
          have n87 : ((sy_ai F 2).getD (sy_i F 83).toNatClampNeg 0).toInt = ((sy_ai F 2).getD ((sy_i F 83).toInt).toNat 0).toInt := congrArg Int32.toInt q87
          have r87 := nz_ba hB (k := 2) (lo := (-128)) (hi := 127) rfl ((sy_i F 83).toInt).toNat
          exfalso
          omega
        have y5_12 := g5
        clear g5
        by_cases g5 : ((sy_ai F 2).getD ((sy_i F 83).toInt).toNat 0).toInt = 51
        · have q85 : (sy_ai F 2).getD (sy_i F 83).toNatClampNeg 0 = (sy_ai F 2).getD ((sy_i F 83).toInt).toNat 0 := by simp only [nz_c]
          have n85 : ((sy_ai F 2).getD (sy_i F 83).toNatClampNeg 0).toInt = ((sy_ai F 2).getD ((sy_i F 83).toInt).toNat 0).toInt := congrArg Int32.toInt q85
          have r85 := nz_ba hB (k := 2) (lo := (-128)) (hi := 127) rfl ((sy_i F 83).toInt).toNat
          have q86 : (sy_ai F 2).getD (sy_i F 83).toNatClampNeg 0 = (sy_ai F 2).getD ((sy_i F 83).toInt).toNat 0 := by simp only [nz_c]
          have n86 : ((sy_ai F 2).getD (sy_i F 83).toNatClampNeg 0).toInt = ((sy_ai F 2).getD ((sy_i F 83).toInt).toNat 0).toInt := congrArg Int32.toInt q86
          have r86 := nz_ba hB (k := 2) (lo := (-128)) (hi := 127) rfl ((sy_i F 83).toInt).toNat
          have q87 : (sy_ai F 2).getD (sy_i F 83).toNatClampNeg 0 = (sy_ai F 2).getD ((sy_i F 83).toInt).toNat 0 := by simp only [nz_c]
          have n87 : ((sy_ai F 2).getD (sy_i F 83).toNatClampNeg 0).toInt = ((sy_ai F 2).getD ((sy_i F 83).toInt).toNat 0).toInt := congrArg Int32.toInt q87
          have r87 := nz_ba hB (k := 2) (lo := (-128)) (hi := 127) rfl ((sy_i F 83).toInt).toNat
          exfalso
          omega
        have y5_13 := g5
        clear g5
        by_cases g5 : ((sy_ai F 2).getD ((sy_i F 83).toInt).toNat 0).toInt = 52
        · have q85 : (sy_ai F 2).getD (sy_i F 83).toNatClampNeg 0 = (sy_ai F 2).getD ((sy_i F 83).toInt).toNat 0 := by simp only [nz_c]
          have n85 : ((sy_ai F 2).getD (sy_i F 83).toNatClampNeg 0).toInt = ((sy_ai F 2).getD ((sy_i F 83).toInt).toNat 0).toInt := congrArg Int32.toInt q85
          have r85 := nz_ba hB (k := 2) (lo := (-128)) (hi := 127) rfl ((sy_i F 83).toInt).toNat
          have q86 : (sy_ai F 2).getD (sy_i F 83).toNatClampNeg 0 = (sy_ai F 2).getD ((sy_i F 83).toInt).toNat 0 := by simp only [nz_c]
          have n86 : ((sy_ai F 2).getD (sy_i F 83).toNatClampNeg 0).toInt = ((sy_ai F 2).getD ((sy_i F 83).toInt).toNat 0).toInt := congrArg Int32.toInt q86
          have r86 := nz_ba hB (k := 2) (lo := (-128)) (hi := 127) rfl ((sy_i F 83).toInt).toNat
          have q87 : (sy_ai F 2).getD (sy_i F 83).toNatClampNeg 0 = (sy_ai F 2).getD ((sy_i F 83).toInt).toNat 0 := by simp only [nz_c]
          have n87 : ((sy_ai F 2).getD (sy_i F 83).toNatClampNeg 0).toInt = ((sy_ai F 2).getD ((sy_i F 83).toInt).toNat 0).toInt := congrArg Int32.toInt q87
          have r87 := nz_ba hB (k := 2) (lo := (-128)) (hi := 127) rfl ((sy_i F 83).toInt).toNat
          exfalso
          omega
        have y5_14 := g5
        clear g5
        by_cases g5 : ((sy_ai F 2).getD ((sy_i F 83).toInt).toNat 0).toInt = 53
        · have q85 : (sy_ai F 2).getD (sy_i F 83).toNatClampNeg 0 = (sy_ai F 2).getD ((sy_i F 83).toInt).toNat 0 := by simp only [nz_c]
          have n85 : ((sy_ai F 2).getD (sy_i F 83).toNatClampNeg 0).toInt = ((sy_ai F 2).getD ((sy_i F 83).toInt).toNat 0).toInt := congrArg Int32.toInt q85
          have r85 := nz_ba hB (k := 2) (lo := (-128)) (hi := 127) rfl ((sy_i F 83).toInt).toNat
          have q86 : (sy_ai F 2).getD (sy_i F 83).toNatClampNeg 0 = (sy_ai F 2).getD ((sy_i F 83).toInt).toNat 0 := by simp only [nz_c]
          have n86 : ((sy_ai F 2).getD (sy_i F 83).toNatClampNeg 0).toInt = ((sy_ai F 2).getD ((sy_i F 83).toInt).toNat 0).toInt := congrArg Int32.toInt q86
          have r86 := nz_ba hB (k := 2) (lo := (-128)) (hi := 127) rfl ((sy_i F 83).toInt).toNat
          have q87 : (sy_ai F 2).getD (sy_i F 83).toNatClampNeg 0 = (sy_ai F 2).getD ((sy_i F 83).toInt).toNat 0 := by simp only [nz_c]
          have n87 : ((sy_ai F 2).getD (sy_i F 83).toNatClampNeg 0).toInt = ((sy_ai F 2).getD ((sy_i F 83).toInt).toNat 0).toInt := congrArg Int32.toInt q87
          have r87 := nz_ba hB (k := 2) (lo := (-128)) (hi := 127) rfl ((sy_i F 83).toInt).toNat
          exfalso
          omega
        have y5_15 := g5
        clear g5
        by_cases g5 : ((sy_ai F 2).getD ((sy_i F 83).toInt).toNat 0).toInt = 54
        · have q85 : (sy_ai F 2).getD (sy_i F 83).toNatClampNeg 0 = (sy_ai F 2).getD ((sy_i F 83).toInt).toNat 0 := by simp only [nz_c]
          have n85 : ((sy_ai F 2).getD (sy_i F 83).toNatClampNeg 0).toInt = ((sy_ai F 2).getD ((sy_i F 83).toInt).toNat 0).toInt := congrArg Int32.toInt q85
          have r85 := nz_ba hB (k := 2) (lo := (-128)) (hi := 127) rfl ((sy_i F 83).toInt).toNat
          have q86 : (sy_ai F 2).getD (sy_i F 83).toNatClampNeg 0 = (sy_ai F 2).getD ((sy_i F 83).toInt).toNat 0 := by simp only [nz_c]
          have n86 : ((sy_ai F 2).getD (sy_i F 83).toNatClampNeg 0).toInt = ((sy_ai F 2).getD ((sy_i F 83).toInt).toNat 0).toInt := congrArg Int32.toInt q86
          have r86 := nz_ba hB (k := 2) (lo := (-128)) (hi := 127) rfl ((sy_i F 83).toInt).toNat
          have q87 : (sy_ai F 2).getD (sy_i F 83).toNatClampNeg 0 = (sy_ai F 2).getD ((sy_i F 83).toInt).toNat 0 := by simp only [nz_c]
          have n87 : ((sy_ai F 2).getD (sy_i F 83).toNatClampNeg 0).toInt = ((sy_ai F 2).getD ((sy_i F 83).toInt).toNat 0).toInt := congrArg Int32.toInt q87
          have r87 := nz_ba hB (k := 2) (lo := (-128)) (hi := 127) rfl ((sy_i F 83).toInt).toNat
          exfalso
          omega
        have y5_16 := g5
        clear g5
        by_cases g5 : ((sy_ai F 2).getD ((sy_i F 83).toInt).toNat 0).toInt = 55
        · have q85 : (sy_ai F 2).getD (sy_i F 83).toNatClampNeg 0 = (sy_ai F 2).getD ((sy_i F 83).toInt).toNat 0 := by simp only [nz_c]
          have n85 : ((sy_ai F 2).getD (sy_i F 83).toNatClampNeg 0).toInt = ((sy_ai F 2).getD ((sy_i F 83).toInt).toNat 0).toInt := congrArg Int32.toInt q85
          have r85 := nz_ba hB (k := 2) (lo := (-128)) (hi := 127) rfl ((sy_i F 83).toInt).toNat
          have q86 : (sy_ai F 2).getD (sy_i F 83).toNatClampNeg 0 = (sy_ai F 2).getD ((sy_i F 83).toInt).toNat 0 := by simp only [nz_c]
          have n86 : ((sy_ai F 2).getD (sy_i F 83).toNatClampNeg 0).toInt = ((sy_ai F 2).getD ((sy_i F 83).toInt).toNat 0).toInt := congrArg Int32.toInt q86
          have r86 := nz_ba hB (k := 2) (lo := (-128)) (hi := 127) rfl ((sy_i F 83).toInt).toNat
          have q87 : (sy_ai F 2).getD (sy_i F 83).toNatClampNeg 0 = (sy_ai F 2).getD ((sy_i F 83).toInt).toNat 0 := by simp only [nz_c]
          have n87 : ((sy_ai F 2).getD (sy_i F 83).toNatClampNeg 0).toInt = ((sy_ai F 2).getD ((sy_i F 83).toInt).toNat 0).toInt := congrArg Int32.toInt q87
          have r87 := nz_ba hB (k := 2) (lo := (-128)) (hi := 127) rfl ((sy_i F 83).toInt).toNat
          exfalso
          omega
        have y5_17 := g5
        clear g5
        by_cases g5 : ((sy_ai F 2).getD ((sy_i F 83).toInt).toNat 0).toInt = 56
        · have q85 : (sy_ai F 2).getD (sy_i F 83).toNatClampNeg 0 = (sy_ai F 2).getD ((sy_i F 83).toInt).toNat 0 := by simp only [nz_c]
          have n85 : ((sy_ai F 2).getD (sy_i F 83).toNatClampNeg 0).toInt = ((sy_ai F 2).getD ((sy_i F 83).toInt).toNat 0).toInt := congrArg Int32.toInt q85
          have r85 := nz_ba hB (k := 2) (lo := (-128)) (hi := 127) rfl ((sy_i F 83).toInt).toNat
          have q86 : (sy_ai F 2).getD (sy_i F 83).toNatClampNeg 0 = (sy_ai F 2).getD ((sy_i F 83).toInt).toNat 0 := by simp only [nz_c]
          have n86 : ((sy_ai F 2).getD (sy_i F 83).toNatClampNeg 0).toInt = ((sy_ai F 2).getD ((sy_i F 83).toInt).toNat 0).toInt := congrArg Int32.toInt q86
          have r86 := nz_ba hB (k := 2) (lo := (-128)) (hi := 127) rfl ((sy_i F 83).toInt).toNat
          have q87 : (sy_ai F 2).getD (sy_i F 83).toNatClampNeg 0 = (sy_ai F 2).getD ((sy_i F 83).toInt).toNat 0 := by simp only [nz_c]
          have n87 : ((sy_ai F 2).getD (sy_i F 83).toNatClampNeg 0).toInt = ((sy_ai F 2).getD ((sy_i F 83).toInt).toNat 0).toInt := congrArg Int32.toInt q87
          have r87 := nz_ba hB (k := 2) (lo := (-128)) (hi := 127) rfl ((sy_i F 83).toInt).toNat
          exfalso
          omega
        have y5_18 := g5
        clear g5
        by_cases g5 : ((sy_ai F 2).getD ((sy_i F 83).toInt).toNat 0).toInt = 57
        · have q85 : (sy_ai F 2).getD (sy_i F 83).toNatClampNeg 0 = (sy_ai F 2).getD ((sy_i F 83).toInt).toNat 0 := by simp only [nz_c]
          have n85 : ((sy_ai F 2).getD (sy_i F 83).toNatClampNeg 0).toInt = ((sy_ai F 2).getD ((sy_i F 83).toInt).toNat 0).toInt := congrArg Int32.toInt q85
          have r85 := nz_ba hB (k := 2) (lo := (-128)) (hi := 127) rfl ((sy_i F 83).toInt).toNat
          have q86 : (sy_ai F 2).getD (sy_i F 83).toNatClampNeg 0 = (sy_ai F 2).getD ((sy_i F 83).toInt).toNat 0 := by simp only [nz_c]
          have n86 : ((sy_ai F 2).getD (sy_i F 83).toNatClampNeg 0).toInt = ((sy_ai F 2).getD ((sy_i F 83).toInt).toNat 0).toInt := congrArg Int32.toInt q86
          have r86 := nz_ba hB (k := 2) (lo := (-128)) (hi := 127) rfl ((sy_i F 83).toInt).toNat
          have q87 : (sy_ai F 2).getD (sy_i F 83).toNatClampNeg 0 = (sy_ai F 2).getD ((sy_i F 83).toInt).toNat 0 := by simp only [nz_c]
          have n87 : ((sy_ai F 2).getD (sy_i F 83).toNatClampNeg 0).toInt = ((sy_ai F 2).getD ((sy_i F 83).toInt).toNat 0).toInt := congrArg Int32.toInt q87
          have r87 := nz_ba hB (k := 2) (lo := (-128)) (hi := 127) rfl ((sy_i F 83).toInt).toNat
          exfalso
          omega
        have y5_19 := g5
        clear g5
        by_cases g5 : ((sy_ai F 2).getD ((sy_i F 83).toInt).toNat 0).toInt = 58
        · have q85 : (sy_ai F 2).getD (sy_i F 83).toNatClampNeg 0 = (sy_ai F 2).getD ((sy_i F 83).toInt).toNat 0 := by simp only [nz_c]
          have n85 : ((sy_ai F 2).getD (sy_i F 83).toNatClampNeg 0).toInt = ((sy_ai F 2).getD ((sy_i F 83).toInt).toNat 0).toInt := congrArg Int32.toInt q85
          have r85 := nz_ba hB (k := 2) (lo := (-128)) (hi := 127) rfl ((sy_i F 83).toInt).toNat
          have q86 : (sy_ai F 2).getD (sy_i F 83).toNatClampNeg 0 = (sy_ai F 2).getD ((sy_i F 83).toInt).toNat 0 := by simp only [nz_c]
          have n86 : ((sy_ai F 2).getD (sy_i F 83).toNatClampNeg 0).toInt = ((sy_ai F 2).getD ((sy_i F 83).toInt).toNat 0).toInt := congrArg Int32.toInt q86
          have r86 := nz_ba hB (k := 2) (lo := (-128)) (hi := 127) rfl ((sy_i F 83).toInt).toNat
          have q87 : (sy_ai F 2).getD (sy_i F 83).toNatClampNeg 0 = (sy_ai F 2).getD ((sy_i F 83).toInt).toNat 0 := by simp only [nz_c]
          have n87 : ((sy_ai F 2).getD (sy_i F 83).toNatClampNeg 0).toInt = ((sy_ai F 2).getD ((sy_i F 83).toInt).toNat 0).toInt := congrArg Int32.toInt q87
          have r87 := nz_ba hB (k := 2) (lo := (-128)) (hi := 127) rfl ((sy_i F 83).toInt).toNat
          exfalso
          omega
        have y5_20 := g5
        clear g5
        by_cases g5 : ((sy_ai F 2).getD ((sy_i F 83).toInt).toNat 0).toInt = 59
        · have q85 : (sy_ai F 2).getD (sy_i F 83).toNatClampNeg 0 = (sy_ai F 2).getD ((sy_i F 83).toInt).toNat 0 := by simp only [nz_c]
          have n85 : ((sy_ai F 2).getD (sy_i F 83).toNatClampNeg 0).toInt = ((sy_ai F 2).getD ((sy_i F 83).toInt).toNat 0).toInt := congrArg Int32.toInt q85
          have r85 := nz_ba hB (k := 2) (lo := (-128)) (hi := 127) rfl ((sy_i F 83).toInt).toNat
          have q86 : (sy_ai F 2).getD (sy_i F 83).toNatClampNeg 0 = (sy_ai F 2).getD ((sy_i F 83).toInt).toNat 0 := by simp only [nz_c]
          have n86 : ((sy_ai F 2).getD (sy_i F 83).toNatClampNeg 0).toInt = ((sy_ai F 2).getD ((sy_i F 83).toInt).toNat 0).toInt := congrArg Int32.toInt q86
          have r86 := nz_ba hB (k := 2) (lo := (-128)) (hi := 127) rfl ((sy_i F 83).toInt).toNat
          have q87 : (sy_ai F 2).getD (sy_i F 83).toNatClampNeg 0 = (sy_ai F 2).getD ((sy_i F 83).toInt).toNat 0 := by simp only [nz_c]
          have n87 : ((sy_ai F 2).getD (sy_i F 83).toNatClampNeg 0).toInt = ((sy_ai F 2).getD ((sy_i F 83).toInt).toNat 0).toInt := congrArg Int32.toInt q87
          have r87 := nz_ba hB (k := 2) (lo := (-128)) (hi := 127) rfl ((sy_i F 83).toInt).toNat
          exfalso
          omega
        have y5_21 := g5
        clear g5
        by_cases g5 : ((sy_ai F 2).getD ((sy_i F 83).toInt).toNat 0).toInt = 60
        · have q85 : (sy_ai F 2).getD (sy_i F 83).toNatClampNeg 0 = (sy_ai F 2).getD ((sy_i F 83).toInt).toNat 0 := by simp only [nz_c]
          have n85 : ((sy_ai F 2).getD (sy_i F 83).toNatClampNeg 0).toInt = ((sy_ai F 2).getD ((sy_i F 83).toInt).toNat 0).toInt := congrArg Int32.toInt q85
          have r85 := nz_ba hB (k := 2) (lo := (-128)) (hi := 127) rfl ((sy_i F 83).toInt).toNat
          have q86 : (sy_ai F 2).getD (sy_i F 83).toNatClampNeg 0 = (sy_ai F 2).getD ((sy_i F 83).toInt).toNat 0 := by simp only [nz_c]
          have n86 : ((sy_ai F 2).getD (sy_i F 83).toNatClampNeg 0).toInt = ((sy_ai F 2).getD ((sy_i F 83).toInt).toNat 0).toInt := congrArg Int32.toInt q86
          have r86 := nz_ba hB (k := 2) (lo := (-128)) (hi := 127) rfl ((sy_i F 83).toInt).toNat
          have q87 : (sy_ai F 2).getD (sy_i F 83).toNatClampNeg 0 = (sy_ai F 2).getD ((sy_i F 83).toInt).toNat 0 := by simp only [nz_c]
          have n87 : ((sy_ai F 2).getD (sy_i F 83).toNatClampNeg 0).toInt = ((sy_ai F 2).getD ((sy_i F 83).toInt).toNat 0).toInt := congrArg Int32.toInt q87
          have r87 := nz_ba hB (k := 2) (lo := (-128)) (hi := 127) rfl ((sy_i F 83).toInt).toNat
          exfalso
          omega
        have y5_22 := g5
        clear g5
        by_cases g5 : ((sy_ai F 2).getD ((sy_i F 83).toInt).toNat 0).toInt = 61
        · have q85 : (sy_ai F 2).getD (sy_i F 83).toNatClampNeg 0 = (sy_ai F 2).getD ((sy_i F 83).toInt).toNat 0 := by simp only [nz_c]
          have n85 : ((sy_ai F 2).getD (sy_i F 83).toNatClampNeg 0).toInt = ((sy_ai F 2).getD ((sy_i F 83).toInt).toNat 0).toInt := congrArg Int32.toInt q85
          have r85 := nz_ba hB (k := 2) (lo := (-128)) (hi := 127) rfl ((sy_i F 83).toInt).toNat
          have q86 : (sy_ai F 2).getD (sy_i F 83).toNatClampNeg 0 = (sy_ai F 2).getD ((sy_i F 83).toInt).toNat 0 := by simp only [nz_c]
          have n86 : ((sy_ai F 2).getD (sy_i F 83).toNatClampNeg 0).toInt = ((sy_ai F 2).getD ((sy_i F 83).toInt).toNat 0).toInt := congrArg Int32.toInt q86
          have r86 := nz_ba hB (k := 2) (lo := (-128)) (hi := 127) rfl ((sy_i F 83).toInt).toNat
          have q87 : (sy_ai F 2).getD (sy_i F 83).toNatClampNeg 0 = (sy_ai F 2).getD ((sy_i F 83).toInt).toNat 0 := by simp only [nz_c]
          have n87 : ((sy_ai F 2).getD (sy_i F 83).toNatClampNeg 0).toInt = ((sy_ai F 2).getD ((sy_i F 83).toInt).toNat 0).toInt := congrArg Int32.toInt q87
          have r87 := nz_ba hB (k := 2) (lo := (-128)) (hi := 127) rfl ((sy_i F 83).toInt).toNat
          exfalso
          omega
        have q87 : (sy_ai F 2).getD (sy_i F 83).toNatClampNeg 0 = (sy_ai F 2).getD ((sy_i F 83).toInt).toNat 0 := by simp only [nz_c]
        have n87 : ((sy_ai F 2).getD (sy_i F 83).toNatClampNeg 0).toInt = ((sy_ai F 2).getD ((sy_i F 83).toInt).toNat 0).toInt := congrArg Int32.toInt q87
        have r87 := nz_ba hB (k := 2) (lo := (-128)) (hi := 127) rfl ((sy_i F 83).toInt).toNat
        exfalso
        omega
      replace g4 : ((sy_ai F 2).getD ((sy_i F 83).toInt).toNat 0).toInt ≤ 57 := by omega
      have q85 : (sy_ai F 2).getD (sy_i F 83).toNatClampNeg 0 = (sy_ai F 2).getD ((sy_i F 83).toInt).toNat 0 := by simp only [nz_c]
      have n85 : ((sy_ai F 2).getD (sy_i F 83).toNatClampNeg 0).toInt = ((sy_ai F 2).getD ((sy_i F 83).toInt).toNat 0).toInt := congrArg Int32.toInt q85
      have r85 := nz_ba hB (k := 2) (lo := (-128)) (hi := 127) rfl ((sy_i F 83).toInt).toNat
      have q86 : (sy_ai F 2).getD (sy_i F 83).toNatClampNeg 0 = (sy_ai F 2).getD ((sy_i F 83).toInt).toNat 0 := by simp only [nz_c]
      have n86 : ((sy_ai F 2).getD (sy_i F 83).toNatClampNeg 0).toInt = ((sy_ai F 2).getD ((sy_i F 83).toInt).toNat 0).toInt := congrArg Int32.toInt q86
      have r86 := nz_ba hB (k := 2) (lo := (-128)) (hi := 127) rfl ((sy_i F 83).toInt).toNat
      exfalso
      omega
    replace g2 : ((sy_ai F 2).getD ((sy_i F 83).toInt).toNat 0).toInt ≤ 122 := by omega
    have q85 : (sy_ai F 2).getD (sy_i F 83).toNatClampNeg 0 = (sy_ai F 2).getD ((sy_i F 83).toInt).toNat 0 := by simp only [nz_c]
    have n85 : ((sy_ai F 2).getD (sy_i F 83).toNatClampNeg 0).toInt = ((sy_ai F 2).getD ((sy_i F 83).toInt).toNat 0).toInt := congrArg Int32.toInt q85
    have r85 := nz_ba hB (k := 2) (lo := (-128)) (hi := 127) rfl ((sy_i F 83).toInt).toNat
    exact k1on_0_p16 hd F X1 X2 hB (by first | exact g0 | (simp only [nz_c]; exact g0)) (by first | exact ⟨by omega, by omega⟩ | (simp only [nz_c]; exact ⟨by omega, by omega⟩)) (by first | exact g1 | (simp only [nz_c]; exact g1) | (rw [n85]; exact g1)) (by first | exact g2 | (simp only [nz_c]; exact g2) | (rw [n85]; exact g2)) (fun F1 g e82 e83 e84 => k16 g0 g1 g2 F1 (nz_in0 hB [] (fun j hj hn => g j hj (by simp only [List.mem_cons, List.not_mem_nil, or_false, not_or] at hn; exact trivial)) (List.forall_mem_nil _)) (fun j hj hn => g j hj (by simp only [List.mem_cons, List.not_mem_nil, or_false, not_or] at hn; exact trivial)) (nz_fa (g 39 (by decide) (by decide))) (nz_fa (g 40 (by decide) (by decide))) (nz_fl (g 41 (by decide) (by decide))) ((congrArg Int32.toInt (zz_i e82)).trans (rfl : (sy_i F 84).toInt = (sy_i F 84).toInt)) ((congrArg Int32.toInt (zz_i e83)).trans (rfl : (sy_i F 83).toInt = (sy_i F 83).toInt)) ((congrArg Int32.toInt (zz_i e84)).trans (rfl : (sy_i F 82).toInt = (sy_i F 82).toInt)))
  replace g0 : (sy_i F 84).toInt ≤ (sy_i F 83).toInt := by omega
  have w85 : jm_upd (sy_ai F 39) (sy_i F 82).toNatClampNeg ((26 : Int32)) = jm_upd (sy_ai F 39) ((sy_i F 82).toInt).toNat ((26 : Int32)) := by simp only [nz_c, (by decide : ((26 : Int32)).toInt = 26)]
  exact k1on_0_p17 hd F X1 X2 hB (by first | exact g0 | (simp only [nz_c]; exact g0)) (by first | exact ⟨by omega, by omega⟩ | (simp only [nz_c]; exact ⟨by omega, by omega⟩)) (fun F1 g e39 => by rw [(rfl : sy_i F 83 = sy_i F 83)]; exact k17 g0 F1 (nz_in0 hB [39] (fun j hj hn => g j hj (by simp only [List.mem_cons, List.not_mem_nil, or_false, not_or] at hn; omega)) (List.forall_mem_cons.mpr ⟨fun t ht => (Option.some.inj ht) ▸ (nz_hz2 e39), List.forall_mem_nil _⟩)) (fun j hj hn => g j hj (by simp only [List.mem_cons, List.not_mem_nil, or_false, not_or] at hn; omega)) ((zz_ai e39).trans w85) (nz_fa (g 40 (by decide) (by decide))) (nz_fl (g 41 (by decide) (by decide))))
theorem k1on_34_p0 {Ls : Nat} {xs : Nat → Int32} {d : Nat} {Q : Option Value → jm_h → Prop} (hd : 5 ≤ d) (F : Nat → sy_d) (X1 X2 : List jm_c) (hB : iv_in F iv_B0)
    (k : ∀ F1 : Nat → sy_d, (∀ j, j < 82 → True → F1 j = F j) → Q (some (.int (sy_i F 85))) (sy_dh F1 X1 X2 (iv_H 1))) :
    hd_W Ls xs d jm_M59 Q (34, sy_dL F [none, none, none, none, none], sy_dS F [.inr (.inl 85)], sy_dh F X1 X2 (iv_H 1), 0, 0) := by
  refine hd_ret (s := 1) (nv := 86) (v := some (.inr (.inl 85))) (uh := hd_ov (iv_id 0 iv_B0) []) (f := false) (sp := []) (d0 := 4) (O := []) (T := []) (P := []) jm_ok59 (by decide +kernel) (by decide +kernel) hd F X1 X2 (fun F' hF hs => ?_)
  have b85 := hd_b (F := F) (F' := F') (k := 85) (hF 85 (by decide))
  have hB' : iv_in F' iv_B0 := iv_in_eq hB (fun j hj => hF j (Nat.lt_of_lt_of_le hj (by decide +kernel)))
  have hk := k (sy_cm F' (hd_ov (iv_id 0 iv_B0) [] ++ [])) (fun j hj _ => (hd_keep hB' (Nat.lt_of_lt_of_le hj (by decide +kernel)) (by simp)).trans (hF j (Nat.lt_of_lt_of_le hj (by decide))))
  refine ⟨fun _ h => absurd h List.not_mem_nil, ?_⟩
  show Q (some (sy_dv F' (.inr (.inl 85)))) _
  rw [b85]
  exact hk
theorem k1on_34 {Ls : Nat} {xs : Nat → Int32} {d : Nat} {Q : Option Value → jm_h → Prop} (hd : 5 ≤ d) (F : Nat → sy_d) (X1 X2 : List jm_c) (hB : iv_in F iv_B0)
    (k0 : ∀ F1 : Nat → sy_d, iv_in F1 iv_B0 → (∀ j, j < 82 → j ∉ ([] : List Nat) → F1 j = F j) → sy_ai F1 39 = sy_ai F 39 → sy_ai F1 40 = sy_ai F 40 → sy_al F1 41 = sy_al F 41 → Q (some (.int (sy_i F 85))) (sy_dh F1 X1 X2 (iv_H 1))) :
    hd_W Ls xs d jm_M59 Q (34, sy_dL F [none, none, none, none, none], sy_dS F [.inr (.inl 85)], sy_dh F X1 X2 (iv_H 1), 0, 0) := by
  exact k1on_34_p0 hd F X1 X2 hB  (fun F1 g  => by rw [(rfl : sy_i F 85 = sy_i F 85)]; exact k0 F1 (nz_in0 hB [] (fun j hj hn => g j hj (by simp only [List.mem_cons, List.not_mem_nil, or_false, not_or] at hn; exact trivial)) (List.forall_mem_nil _)) (fun j hj hn => g j hj (by simp only [List.mem_cons, List.not_mem_nil, or_false, not_or] at hn; exact trivial)) (nz_fa (g 39 (by decide) (by decide))) (nz_fa (g 40 (by decide) (by decide))) (nz_fl (g 41 (by decide) (by decide))))
theorem k1on_53_p0 {Ls : Nat} {xs : Nat → Int32} {d : Nat} {Q : Option Value → jm_h → Prop} (hd : 5 ≤ d) (F : Nat → sy_d) (X1 X2 : List jm_c) (hB : iv_in F iv_B0)
    (k : ∀ F1 : Nat → sy_d, (∀ j, j < 82 → True → F1 j = F j) → Q (some (.int (sy_i F 85))) (sy_dh F1 X1 X2 (iv_H 1))) :
    hd_W Ls xs d jm_M59 Q (53, sy_dL F [none, none, none, none, none], sy_dS F [.inr (.inl 85)], sy_dh F X1 X2 (iv_H 1), 0, 0) := by
  refine hd_ret (s := 1) (nv := 86) (v := some (.inr (.inl 85))) (uh := hd_ov (iv_id 0 iv_B0) []) (f := false) (sp := []) (d0 := 4) (O := []) (T := []) (P := []) jm_ok59 (by decide +kernel) (by decide +kernel) hd F X1 X2 (fun F' hF hs => ?_)
  have b85 := hd_b (F := F) (F' := F') (k := 85) (hF 85 (by decide))
  have hB' : iv_in F' iv_B0 := iv_in_eq hB (fun j hj => hF j (Nat.lt_of_lt_of_le hj (by decide +kernel)))
  have hk := k (sy_cm F' (hd_ov (iv_id 0 iv_B0) [] ++ [])) (fun j hj _ => (hd_keep hB' (Nat.lt_of_lt_of_le hj (by decide +kernel)) (by simp)).trans (hF j (Nat.lt_of_lt_of_le hj (by decide))))
  refine ⟨fun _ h => absurd h List.not_mem_nil, ?_⟩
  show Q (some (sy_dv F' (.inr (.inl 85)))) _
  rw [b85]
  exact hk
theorem k1on_53 {Ls : Nat} {xs : Nat → Int32} {d : Nat} {Q : Option Value → jm_h → Prop} (hd : 5 ≤ d) (F : Nat → sy_d) (X1 X2 : List jm_c) (hB : iv_in F iv_B0)
    (k0 : ∀ F1 : Nat → sy_d, iv_in F1 iv_B0 → (∀ j, j < 82 → j ∉ ([] : List Nat) → F1 j = F j) → sy_ai F1 39 = sy_ai F 39 → sy_ai F1 40 = sy_ai F 40 → sy_al F1 41 = sy_al F 41 → Q (some (.int (sy_i F 85))) (sy_dh F1 X1 X2 (iv_H 1))) :
    hd_W Ls xs d jm_M59 Q (53, sy_dL F [none, none, none, none, none], sy_dS F [.inr (.inl 85)], sy_dh F X1 X2 (iv_H 1), 0, 0) := by
  exact k1on_53_p0 hd F X1 X2 hB  (fun F1 g  => by rw [(rfl : sy_i F 85 = sy_i F 85)]; exact k0 F1 (nz_in0 hB [] (fun j hj hn => g j hj (by simp only [List.mem_cons, List.not_mem_nil, or_false, not_or] at hn; exact trivial)) (List.forall_mem_nil _)) (fun j hj hn => g j hj (by simp only [List.mem_cons, List.not_mem_nil, or_false, not_or] at hn; exact trivial)) (nz_fa (g 39 (by decide) (by decide))) (nz_fa (g 40 (by decide) (by decide))) (nz_fl (g 41 (by decide) (by decide))))
theorem k1cu_0_p0 {Ls : Nat} {xs : Nat → Int32} {d : Nat} {Q : Option Value → jm_h → Prop} (hd : 6 ≤ d) (F : Nat → sy_d) (X1 X2 : List jm_c) (hB : iv_in F iv_B0)
    (h0 : (sy_i F 82).toInt ≤ 2000)
    (k : ∀ F1 : Nat → sy_d, (∀ j, j < 82 → True → F1 j = F j) → F1 82 = .inl (.int (sy_i F 82)) → F1 83 = .inl (.int ((0 : Int32))) → F1 84 = .inl (.int ((0 : Int32))) → F1 85 = .inl (.int ((0 : Int32))) → hd_W Ls xs d jm_M58 Q (16, sy_dL F1 [some (.inl (.ref 31)), some (.inl (.ref 9)), none, some (.inr (.inl 82)), some (.inr (.inl 83)), some (.inr (.inl 84)), some (.inr (.inl 85))], sy_dS F1 [], sy_dh F1 X1 X2 (iv_H 1), 0, 0)) :
    hd_W Ls xs d jm_M58 Q (0, sy_dL F [some (.inl (.ref 31)), some (.inl (.ref 9)), some (.inr (.inl 82)), none, none, none, none], sy_dS F [], sy_dh F X1 X2 (iv_H 1), 0, 0) := by
  refine hd_run (s := 1) (nv := 83) (pc := 16) (L := [some (.inl (.ref 31)), some (.inl (.ref 9)), none, some (.inr (.inl 82)), some (.inr (.inl 83)), some (.inr (.inl 84)), some (.inr (.inl 85))]) (S := []) (uh := hd_ov (iv_id 0 iv_B0) []) (ul := [.inl (.inr (.inl 82)), .inl (.inl (.int 0)), .inl (.inl (.int 0)), .inl (.inl (.int 0))]) (f := true) (sp := [16]) (d0 := 5) (O := [false]) (T := []) (P := [(3, .inl (.int 2000), .inr (.inl 82))]) jm_ok58 (by decide +kernel) (by decide +kernel) hd F X1 X2 (fun F' hF hs => ?_)
  have b82 := hd_b (F := F) (F' := F') (k := 82) (hF 82 (by decide))
  have hB' : iv_in F' iv_B0 := iv_in_eq hB (fun j hj => hF j (Nat.lt_of_lt_of_le hj (by decide +kernel)))
  refine ⟨List.forall_mem_cons.mpr ⟨hd_p3 rfl b82 (by have hc : ((2000) : Int32).toInt = 2000 := (by decide); omega), fun _ h => absurd h List.not_mem_nil⟩, ?_⟩
  refine k _ ?_ ?_ ?_ ?_ ?_
  · exact fun j hj _ => (hd_keep hB' (Nat.lt_of_lt_of_le hj (by decide +kernel)) (by simp)).trans (hF j (Nat.lt_of_lt_of_le hj (by decide)))
  · exact hd_gi (x := .inr (.inl 82)) (by decide +kernel) b82
  · exact hd_gi (x := .inl (.int 0)) (by decide +kernel) rfl
  · exact hd_gi (x := .inl (.int 0)) (by decide +kernel) rfl
  · exact hd_gi (x := .inl (.int 0)) (by decide +kernel) rfl
theorem k1cu_0 {Ls : Nat} {xs : Nat → Int32} {d : Nat} {Q : Option Value → jm_h → Prop} (hd : 6 ≤ d) (F : Nat → sy_d) (X1 X2 : List jm_c) (hB : iv_in F iv_B0)
    (a82 : 0 ≤ (sy_i F 82).toInt ∧ (sy_i F 82).toInt ≤ 2000)
    (k0 : (sy_i F 82).toInt ≤ 2000 → ∀ F1 : Nat → sy_d, iv_in F1 iv_B0 → (∀ j, j < 82 → j ∉ ([] : List Nat) → F1 j = F j) → sy_ai F1 39 = sy_ai F 39 → sy_ai F1 40 = sy_ai F 40 → sy_al F1 41 = sy_al F 41 → (sy_i F1 82).toInt = (sy_i F 82).toInt → (sy_i F1 83).toInt = 0 → (sy_i F1 84).toInt = 0 → (sy_i F1 85).toInt = 0 → hd_W Ls xs d jm_M58 Q (16, sy_dL F1 [some (.inl (.ref 31)), some (.inl (.ref 9)), none, some (.inr (.inl 82)), some (.inr (.inl 83)), some (.inr (.inl 84)), some (.inr (.inl 85))], sy_dS F1 [], sy_dh F1 X1 X2 (iv_H 1), 0, 0)) :
    hd_W Ls xs d jm_M58 Q (0, sy_dL F [some (.inl (.ref 31)), some (.inl (.ref 9)), some (.inr (.inl 82)), none, none, none, none], sy_dS F [], sy_dh F X1 X2 (iv_H 1), 0, 0) := by
  by_cases g0 : 2000 < (sy_i F 82).toInt
  · exfalso
    omega
  replace g0 : (sy_i F 82).toInt ≤ 2000 := by omega
  exact k1cu_0_p0 hd F X1 X2 hB (by first | exact g0 | (simp only [nz_c]; exact g0)) (fun F1 g e82 e83 e84 e85 => k0 g0 F1 (nz_in0 hB [] (fun j hj hn => g j hj (by simp only [List.mem_cons, List.not_mem_nil, or_false, not_or] at hn; exact trivial)) (List.forall_mem_nil _)) (fun j hj hn => g j hj (by simp only [List.mem_cons, List.not_mem_nil, or_false, not_or] at hn; exact trivial)) (nz_fa (g 39 (by decide) (by decide))) (nz_fa (g 40 (by decide) (by decide))) (nz_fl (g 41 (by decide) (by decide))) ((congrArg Int32.toInt (zz_i e82)).trans (rfl : (sy_i F 82).toInt = (sy_i F 82).toInt)) ((congrArg Int32.toInt (zz_i e83)).trans (by decide : ((0 : Int32)).toInt = 0)) ((congrArg Int32.toInt (zz_i e84)).trans (by decide : ((0 : Int32)).toInt = 0)) ((congrArg Int32.toInt (zz_i e85)).trans (by decide : ((0 : Int32)).toInt = 0)))
theorem k1cu_16_p0 {Ls : Nat} {xs : Nat → Int32} {d : Nat} {Q : Option Value → jm_h → Prop} (hd : 6 ≤ d) (F : Nat → sy_d) (X1 X2 : List jm_c) (hB : iv_in F iv_B0)
    (h0 : 400 < (sy_i F 85).toInt)
    (k : ∀ F1 : Nat → sy_d, (∀ j, j < 82 → True → F1 j = F j) → Q (none) (sy_dh F1 X1 X2 (iv_H 1))) :
    hd_W Ls xs d jm_M58 Q (16, sy_dL F [some (.inl (.ref 31)), some (.inl (.ref 9)), none, some (.inr (.inl 82)), some (.inr (.inl 83)), some (.inr (.inl 84)), some (.inr (.inl 85))], sy_dS F [], sy_dh F X1 X2 (iv_H 1), 0, 0) := by
  refine hd_ret (s := 1) (nv := 86) (v := none) (uh := hd_ov (iv_id 0 iv_B0) []) (f := true) (sp := [29]) (d0 := 5) (O := [true]) (T := []) (P := [(2, .inl (.int 400), .inr (.inl 85))]) jm_ok58 (by decide +kernel) (by decide +kernel) hd F X1 X2 (fun F' hF hs => ?_)
  have b85 := hd_b (F := F) (F' := F') (k := 85) (hF 85 (by decide))
  have hB' : iv_in F' iv_B0 := iv_in_eq hB (fun j hj => hF j (Nat.lt_of_lt_of_le hj (by decide +kernel)))
  refine ⟨List.forall_mem_cons.mpr ⟨hd_p2 rfl b85 (by have hc : ((400) : Int32).toInt = 400 := (by decide); omega), fun _ h => absurd h List.not_mem_nil⟩, ?_⟩
  refine k _ ?_
  · exact fun j hj _ => (hd_keep hB' (Nat.lt_of_lt_of_le hj (by decide +kernel)) (by simp)).trans (hF j (Nat.lt_of_lt_of_le hj (by decide)))
theorem k1cu_16_p1 {Ls : Nat} {xs : Nat → Int32} {d : Nat} {Q : Option Value → jm_h → Prop} (hd : 6 ≤ d) (F : Nat → sy_d) (X1 X2 : List jm_c) (hB : iv_in F iv_B0)
    (h0 : (sy_i F 85).toInt ≤ 400)
    (h1 : (sy_i F 84).toInt ≠ 0)
    (k : ∀ F1 : Nat → sy_d, (∀ j, j < 82 → True → F1 j = F j) → Q (none) (sy_dh F1 X1 X2 (iv_H 1))) :
    hd_W Ls xs d jm_M58 Q (16, sy_dL F [some (.inl (.ref 31)), some (.inl (.ref 9)), none, some (.inr (.inl 82)), some (.inr (.inl 83)), some (.inr (.inl 84)), some (.inr (.inl 85))], sy_dS F [], sy_dh F X1 X2 (iv_H 1), 0, 0) := by
  refine hd_ret (s := 1) (nv := 86) (v := none) (uh := hd_ov (iv_id 0 iv_B0) []) (f := true) (sp := [29]) (d0 := 5) (O := [false, true]) (T := []) (P := [(3, .inl (.int 400), .inr (.inl 85)), (1, .inr (.inl 84), .inl (.int 0))]) jm_ok58 (by decide +kernel) (by decide +kernel) hd F X1 X2 (fun F' hF hs => ?_)
  have b85 := hd_b (F := F) (F' := F') (k := 85) (hF 85 (by decide))
  have b84 := hd_b (F := F) (F' := F') (k := 84) (hF 84 (by decide))
  have hB' : iv_in F' iv_B0 := iv_in_eq hB (fun j hj => hF j (Nat.lt_of_lt_of_le hj (by decide +kernel)))
  refine ⟨List.forall_mem_cons.mpr ⟨hd_p3 rfl b85 (by have hc : ((400) : Int32).toInt = 400 := (by decide); omega), List.forall_mem_cons.mpr ⟨hd_p1 b84 rfl (by have hc : ((0) : Int32).toInt = 0 := (by decide); omega), fun _ h => absurd h List.not_mem_nil⟩⟩, ?_⟩
  refine k _ ?_
  · exact fun j hj _ => (hd_keep hB' (Nat.lt_of_lt_of_le hj (by decide +kernel)) (by simp)).trans (hF j (Nat.lt_of_lt_of_le hj (by decide)))
theorem k1cu_16_p2 {Ls : Nat} {xs : Nat → Int32} {d : Nat} {Q : Option Value → jm_h → Prop} (hd : 6 ≤ d) (F : Nat → sy_d) (X1 X2 : List jm_c) (hB : iv_in F iv_B0)
    (h0 : (sy_i F 85).toInt ≤ 400)
    (h1 : (sy_i F 84).toInt = 0)
    (k : ∀ F1 : Nat → sy_d, (∀ j, j < 82 → True → F1 j = F j) → F1 82 = .inl (.int (sy_i F 82)) → F1 83 = .inl (.int (sy_i F 83)) → F1 84 = .inl (.int (sy_i F 85)) → hd_W Ls xs d jm_M58 Q (29, sy_dL F1 [some (.inl (.ref 31)), some (.inl (.ref 9)), none, some (.inr (.inl 82)), some (.inr (.inl 83)), none, some (.inr (.inl 84))], sy_dS F1 [], sy_dh F1 X1 X2 (iv_H 1), 0, 0)) :
    hd_W Ls xs d jm_M58 Q (16, sy_dL F [some (.inl (.ref 31)), some (.inl (.ref 9)), none, some (.inr (.inl 82)), some (.inr (.inl 83)), some (.inr (.inl 84)), some (.inr (.inl 85))], sy_dS F [], sy_dh F X1 X2 (iv_H 1), 0, 0) := by
  refine hd_run (s := 1) (nv := 86) (pc := 29) (L := [some (.inl (.ref 31)), some (.inl (.ref 9)), none, some (.inr (.inl 82)), some (.inr (.inl 83)), none, some (.inr (.inl 84))]) (S := []) (uh := hd_ov (iv_id 0 iv_B0) []) (ul := [.inl (.inr (.inl 82)), .inl (.inr (.inl 83)), .inl (.inr (.inl 85))]) (f := true) (sp := [29]) (d0 := 5) (O := [false, false]) (T := []) (P := [(3, .inl (.int 400), .inr (.inl 85)), (0, .inr (.inl 84), .inl (.int 0))]) jm_ok58 (by decide +kernel) (by decide +kernel) hd F X1 X2 (fun F' hF hs => ?_)
  have b85 := hd_b (F := F) (F' := F') (k := 85) (hF 85 (by decide))
  have b84 := hd_b (F := F) (F' := F') (k := 84) (hF 84 (by decide))
  have b82 := hd_b (F := F) (F' := F') (k := 82) (hF 82 (by decide))
  have b83 := hd_b (F := F) (F' := F') (k := 83) (hF 83 (by decide))
  have hB' : iv_in F' iv_B0 := iv_in_eq hB (fun j hj => hF j (Nat.lt_of_lt_of_le hj (by decide +kernel)))
  refine ⟨List.forall_mem_cons.mpr ⟨hd_p3 rfl b85 (by have hc : ((400) : Int32).toInt = 400 := (by decide); omega), List.forall_mem_cons.mpr ⟨hd_p0 b84 rfl (by have hc : ((0) : Int32).toInt = 0 := (by decide); omega), fun _ h => absurd h List.not_mem_nil⟩⟩, ?_⟩
  refine k _ ?_ ?_ ?_ ?_
  · exact fun j hj _ => (hd_keep hB' (Nat.lt_of_lt_of_le hj (by decide +kernel)) (by simp)).trans (hF j (Nat.lt_of_lt_of_le hj (by decide)))
  · exact hd_gi (x := .inr (.inl 82)) (by decide +kernel) b82
  · exact hd_gi (x := .inr (.inl 83)) (by decide +kernel) b83
  · exact hd_gi (x := .inr (.inl 85)) (by decide +kernel) b85
theorem k1cu_16 {Ls : Nat} {xs : Nat → Int32} {d : Nat} {Q : Option Value → jm_h → Prop} (hd : 6 ≤ d) (F : Nat → sy_d) (X1 X2 : List jm_c) (hB : iv_in F iv_B0)
    (a85 : 0 ≤ (sy_i F 85).toInt ∧ (sy_i F 85).toInt ≤ 401)
    (k0 : 400 < (sy_i F 85).toInt → ∀ F1 : Nat → sy_d, iv_in F1 iv_B0 → (∀ j, j < 82 → j ∉ ([] : List Nat) → F1 j = F j) → sy_ai F1 39 = sy_ai F 39 → sy_ai F1 40 = sy_ai F 40 → sy_al F1 41 = sy_al F 41 → Q (none) (sy_dh F1 X1 X2 (iv_H 1)))
    (k1 : (sy_i F 85).toInt ≤ 400 → (sy_i F 84).toInt ≠ 0 → ∀ F1 : Nat → sy_d, iv_in F1 iv_B0 → (∀ j, j < 82 → j ∉ ([] : List Nat) → F1 j = F j) → sy_ai F1 39 = sy_ai F 39 → sy_ai F1 40 = sy_ai F 40 → sy_al F1 41 = sy_al F 41 → Q (none) (sy_dh F1 X1 X2 (iv_H 1)))
    (k2 : (sy_i F 85).toInt ≤ 400 → (sy_i F 84).toInt = 0 → ∀ F1 : Nat → sy_d, iv_in F1 iv_B0 → (∀ j, j < 82 → j ∉ ([] : List Nat) → F1 j = F j) → sy_ai F1 39 = sy_ai F 39 → sy_ai F1 40 = sy_ai F 40 → sy_al F1 41 = sy_al F 41 → (sy_i F1 82).toInt = (sy_i F 82).toInt → (sy_i F1 83).toInt = (sy_i F 83).toInt → (sy_i F1 84).toInt = (sy_i F 85).toInt → hd_W Ls xs d jm_M58 Q (29, sy_dL F1 [some (.inl (.ref 31)), some (.inl (.ref 9)), none, some (.inr (.inl 82)), some (.inr (.inl 83)), none, some (.inr (.inl 84))], sy_dS F1 [], sy_dh F1 X1 X2 (iv_H 1), 0, 0)) :
    hd_W Ls xs d jm_M58 Q (16, sy_dL F [some (.inl (.ref 31)), some (.inl (.ref 9)), none, some (.inr (.inl 82)), some (.inr (.inl 83)), some (.inr (.inl 84)), some (.inr (.inl 85))], sy_dS F [], sy_dh F X1 X2 (iv_H 1), 0, 0) := by
  by_cases g0 : 400 < (sy_i F 85).toInt
  · exact k1cu_16_p0 hd F X1 X2 hB (by first | exact g0 | (simp only [nz_c]; exact g0)) (fun F1 g  => k0 g0 F1 (nz_in0 hB [] (fun j hj hn => g j hj (by simp only [List.mem_cons, List.not_mem_nil, or_false, not_or] at hn; exact trivial)) (List.forall_mem_nil _)) (fun j hj hn => g j hj (by simp only [List.mem_cons, List.not_mem_nil, or_false, not_or] at hn; exact trivial)) (nz_fa (g 39 (by decide) (by decide))) (nz_fa (g 40 (by decide) (by decide))) (nz_fl (g 41 (by decide) (by decide))))
  replace g0 : (sy_i F 85).toInt ≤ 400 := by omega
  by_cases g1 : (sy_i F 84).toInt ≠ 0
  · exact k1cu_16_p1 hd F X1 X2 hB (by first | exact g0 | (simp only [nz_c]; exact g0)) (by first | exact g1 | (simp only [nz_c]; exact g1)) (fun F1 g  => k1 g0 g1 F1 (nz_in0 hB [] (fun j hj hn => g j hj (by simp only [List.mem_cons, List.not_mem_nil, or_false, not_or] at hn; exact trivial)) (List.forall_mem_nil _)) (fun j hj hn => g j hj (by simp only [List.mem_cons, List.not_mem_nil, or_false, not_or] at hn; exact trivial)) (nz_fa (g 39 (by decide) (by decide))) (nz_fa (g 40 (by decide) (by decide))) (nz_fl (g 41 (by decide) (by decide))))
  replace g1 : (sy_i F 84).toInt = 0 := by omega
  exact k1cu_16_p2 hd F X1 X2 hB (by first | exact g0 | (simp only [nz_c]; exact g0)) (by first | exact g1 | (simp only [nz_c]; exact g1)) (fun F1 g e82 e83 e84 => k2 g0 g1 F1 (nz_in0 hB [] (fun j hj hn => g j hj (by simp only [List.mem_cons, List.not_mem_nil, or_false, not_or] at hn; exact trivial)) (List.forall_mem_nil _)) (fun j hj hn => g j hj (by simp only [List.mem_cons, List.not_mem_nil, or_false, not_or] at hn; exact trivial)) (nz_fa (g 39 (by decide) (by decide))) (nz_fa (g 40 (by decide) (by decide))) (nz_fl (g 41 (by decide) (by decide))) ((congrArg Int32.toInt (zz_i e82)).trans (rfl : (sy_i F 82).toInt = (sy_i F 82).toInt)) ((congrArg Int32.toInt (zz_i e83)).trans (rfl : (sy_i F 83).toInt = (sy_i F 83).toInt)) ((congrArg Int32.toInt (zz_i e84)).trans (rfl : (sy_i F 85).toInt = (sy_i F 85).toInt)))
theorem k1cu_29_p0 {Ls : Nat} {xs : Nat → Int32} {d : Nat} {Q : Option Value → jm_h → Prop} (hd : 6 ≤ d) (F : Nat → sy_d) (X1 X2 : List jm_c) (hB : iv_in F iv_B0)
    (h0 : (sy_i F 82).toInt ≤ (sy_i F 83).toInt)
    (h1 : 0 ≤ (sy_i F 84).toInt ∧ (sy_i F 84).toInt < 401)
    (k : ∀ F1 : Nat → sy_d, (∀ j, j < 82 → j ≠ 40 → F1 j = F j) → F1 40 = .inr (.inl (jm_upd (sy_ai F 40) (sy_i F 84).toNatClampNeg (sy_i F 83))) → F1 82 = .inl (.int (sy_i F 82)) → F1 83 = .inl (.int (sy_i F 84)) → F1 84 = .inl (.int (sy_i F 83)) → hd_W Ls xs d jm_M58 Q (67, sy_dL F1 [some (.inl (.ref 31)), some (.inl (.ref 9)), none, some (.inr (.inl 82)), none, none, some (.inr (.inl 83))], sy_dS F1 [.inr (.inl 82), .inr (.inl 84), .inl (.ref 9), .inr (.inl 83), .inl (.ref 31)], sy_dh F1 X1 X2 (iv_H 1), 0, 0)) :
    hd_W Ls xs d jm_M58 Q (29, sy_dL F [some (.inl (.ref 31)), some (.inl (.ref 9)), none, some (.inr (.inl 82)), some (.inr (.inl 83)), none, some (.inr (.inl 84))], sy_dS F [], sy_dh F X1 X2 (iv_H 1), 0, 0) := by
  refine hd_run (s := 1) (nv := 85) (pc := 67) (L := [some (.inl (.ref 31)), some (.inl (.ref 9)), none, some (.inr (.inl 82)), none, none, some (.inr (.inl 83))]) (S := [.inr (.inl 82), .inr (.inl 84), .inl (.ref 9), .inr (.inl 83), .inl (.ref 31)]) (uh := hd_ov (iv_id 0 iv_B0) [(40, .inr (.inr (.inl 85)))]) (ul := [.inl (.inr (.inl 82)), .inl (.inr (.inl 84)), .inl (.inr (.inl 83))]) (f := true) (sp := [29, 67]) (d0 := 5) (O := [true]) (T := [(40, [.inr (.inl 84), .inr (.inl 83)], [.inr (.inl 40)])]) (P := [(4, .inr (.inl 82), .inr (.inl 83)), (6, .inr (.inl 84), .inl (.ref 401))]) jm_ok58 (by decide +kernel) (by decide +kernel) hd F X1 X2 (fun F' hF hs => ?_)
  have b82 := hd_b (F := F) (F' := F') (k := 82) (hF 82 (by decide))
  have b83 := hd_b (F := F) (F' := F') (k := 83) (hF 83 (by decide))
  have b84 := hd_b (F := F) (F' := F') (k := 84) (hF 84 (by decide))
  have a40 := hd_ba (F := F) (F' := F') (k := 40) (hF 40 (by decide))
  have t85 : sy_da F' (.inr (.inl 85)) = .inl (jm_upd (sy_ai F 40) (sy_i F 84).toNatClampNeg (sy_i F 83)) := hd_up (hs 0 _ rfl) b84 b83 a40
  have hB' : iv_in F' iv_B0 := iv_in_eq hB (fun j hj => hF j (Nat.lt_of_lt_of_le hj (by decide +kernel)))
  refine ⟨List.forall_mem_cons.mpr ⟨hd_p4 b82 b83 h0, List.forall_mem_cons.mpr ⟨hd_pb b84 (by first | exact h1 | exact h1), fun _ h => absurd h List.not_mem_nil⟩⟩, ?_⟩
  refine k _ ?_ ?_ ?_ ?_ ?_
  · exact fun j hj hn => (hd_keep hB' (Nat.lt_of_lt_of_le hj (by decide +kernel)) (by simp; omega)).trans (hF j (Nat.lt_of_lt_of_le hj (by decide)))
  · exact hd_ga (a := .inr (.inl 85)) (by decide +kernel) t85
  · exact hd_gi (x := .inr (.inl 82)) (by decide +kernel) b82
  · exact hd_gi (x := .inr (.inl 84)) (by decide +kernel) b84
  · exact hd_gi (x := .inr (.inl 83)) (by decide +kernel) b83
theorem k1cu_29_p1 {Ls : Nat} {xs : Nat → Int32} {d : Nat} {Q : Option Value → jm_h → Prop} (hd : 6 ≤ d) (F : Nat → sy_d) (X1 X2 : List jm_c) (hB : iv_in F iv_B0)
    (h0 : (sy_i F 83).toInt < (sy_i F 82).toInt)
    (h1 : 0 ≤ (sy_i F 83).toInt ∧ (sy_i F 83).toInt < 2000)
    (h2 : ((sy_ai F 2).getD (sy_i F 83).toNatClampNeg 0).toInt = 9)
    (k : ∀ F1 : Nat → sy_d, (∀ j, j < 82 → True → F1 j = F j) → F1 82 = .inl (.int (sy_i F 82)) → F1 83 = .inl (.int ((sy_i F 83) + ((1 : Int32)))) → F1 84 = .inl (.int (sy_i F 84)) → hd_W Ls xs d jm_M58 Q (29, sy_dL F1 [some (.inl (.ref 31)), some (.inl (.ref 9)), none, some (.inr (.inl 82)), some (.inr (.inl 83)), none, some (.inr (.inl 84))], sy_dS F1 [], sy_dh F1 X1 X2 (iv_H 1), 0, 0)) :
    hd_W Ls xs d jm_M58 Q (29, sy_dL F [some (.inl (.ref 31)), some (.inl (.ref 9)), none, some (.inr (.inl 82)), some (.inr (.inl 83)), none, some (.inr (.inl 84))], sy_dS F [], sy_dh F X1 X2 (iv_H 1), 0, 0) := by
  refine hd_run (s := 1) (nv := 85) (pc := 29) (L := [some (.inl (.ref 31)), some (.inl (.ref 9)), none, some (.inr (.inl 82)), some (.inr (.inl 83)), none, some (.inr (.inl 84))]) (S := []) (uh := hd_ov (iv_id 0 iv_B0) []) (ul := [.inl (.inr (.inl 82)), .inl (.inr (.inl 86)), .inl (.inr (.inl 84))]) (f := true) (sp := [29, 67]) (d0 := 5) (O := [false, true]) (T := [(30, [.inr (.inl 83)], [.inr (.inl 2)]), (0, [.inr (.inl 83), .inl (.int 1)], [])]) (P := [(5, .inr (.inl 82), .inr (.inl 83)), (6, .inr (.inl 83), .inl (.ref 2000)), (0, .inr (.inl 85), .inl (.int 9))]) jm_ok58 (by decide +kernel) (by decide +kernel) hd F X1 X2 (fun F' hF hs => ?_)
  have b82 := hd_b (F := F) (F' := F') (k := 82) (hF 82 (by decide))
  have b83 := hd_b (F := F) (F' := F') (k := 83) (hF 83 (by decide))
  have a2 := hd_ba (F := F) (F' := F') (k := 2) (hF 2 (by decide))
  have t85 : sy_dv F' (.inr (.inl 85)) = .int ((sy_ai F 2).getD (sy_i F 83).toNatClampNeg 0) := hd_rd (hs 0 _ rfl) b83 a2
  have t86 : sy_dv F' (.inr (.inl 86)) = .int ((sy_i F 83) + ((1 : Int32))) := hd_o (hs 1 _ rfl) b83 rfl rfl
  have b84 := hd_b (F := F) (F' := F') (k := 84) (hF 84 (by decide))
  have hB' : iv_in F' iv_B0 := iv_in_eq hB (fun j hj => hF j (Nat.lt_of_lt_of_le hj (by decide +kernel)))
  refine ⟨List.forall_mem_cons.mpr ⟨hd_p5 b82 b83 h0, List.forall_mem_cons.mpr ⟨hd_pb b83 (by first | exact h1 | exact h1), List.forall_mem_cons.mpr ⟨hd_p0 t85 rfl (by have hc : ((9) : Int32).toInt = 9 := (by decide); omega), fun _ h => absurd h List.not_mem_nil⟩⟩⟩, ?_⟩
  refine k _ ?_ ?_ ?_ ?_
  · exact fun j hj _ => (hd_keep hB' (Nat.lt_of_lt_of_le hj (by decide +kernel)) (by simp)).trans (hF j (Nat.lt_of_lt_of_le hj (by decide)))
  · exact hd_gi (x := .inr (.inl 82)) (by decide +kernel) b82
  · exact hd_gi (x := .inr (.inl 86)) (by decide +kernel) t86
  · exact hd_gi (x := .inr (.inl 84)) (by decide +kernel) b84
theorem k1cu_29_p2 {Ls : Nat} {xs : Nat → Int32} {d : Nat} {Q : Option Value → jm_h → Prop} (hd : 6 ≤ d) (F : Nat → sy_d) (X1 X2 : List jm_c) (hB : iv_in F iv_B0)
    (h0 : (sy_i F 83).toInt < (sy_i F 82).toInt)
    (h1 : 0 ≤ (sy_i F 83).toInt ∧ (sy_i F 83).toInt < 2000)
    (h2 : ((sy_ai F 2).getD (sy_i F 83).toNatClampNeg 0).toInt ≠ 9)
    (h3 : ((sy_ai F 2).getD (sy_i F 83).toNatClampNeg 0).toInt = 10)
    (k : ∀ F1 : Nat → sy_d, (∀ j, j < 82 → True → F1 j = F j) → F1 82 = .inl (.int (sy_i F 82)) → F1 83 = .inl (.int ((sy_i F 83) + ((1 : Int32)))) → F1 84 = .inl (.int (sy_i F 84)) → hd_W Ls xs d jm_M58 Q (29, sy_dL F1 [some (.inl (.ref 31)), some (.inl (.ref 9)), none, some (.inr (.inl 82)), some (.inr (.inl 83)), none, some (.inr (.inl 84))], sy_dS F1 [], sy_dh F1 X1 X2 (iv_H 1), 0, 0)) :
    hd_W Ls xs d jm_M58 Q (29, sy_dL F [some (.inl (.ref 31)), some (.inl (.ref 9)), none, some (.inr (.inl 82)), some (.inr (.inl 83)), none, some (.inr (.inl 84))], sy_dS F [], sy_dh F X1 X2 (iv_H 1), 0, 0) := by
  refine hd_run (s := 1) (nv := 85) (pc := 29) (L := [some (.inl (.ref 31)), some (.inl (.ref 9)), none, some (.inr (.inl 82)), some (.inr (.inl 83)), none, some (.inr (.inl 84))]) (S := []) (uh := hd_ov (iv_id 0 iv_B0) []) (ul := [.inl (.inr (.inl 82)), .inl (.inr (.inl 86)), .inl (.inr (.inl 84))]) (f := true) (sp := [29, 67]) (d0 := 5) (O := [false, false, true]) (T := [(30, [.inr (.inl 83)], [.inr (.inl 2)]), (0, [.inr (.inl 83), .inl (.int 1)], [])]) (P := [(5, .inr (.inl 82), .inr (.inl 83)), (6, .inr (.inl 83), .inl (.ref 2000)), (1, .inr (.inl 85), .inl (.int 9)), (0, .inr (.inl 85), .inl (.int 10))]) jm_ok58 (by decide +kernel) (by decide +kernel) hd F X1 X2 (fun F' hF hs => ?_)
  have b82 := hd_b (F := F) (F' := F') (k := 82) (hF 82 (by decide))
  have b83 := hd_b (F := F) (F' := F') (k := 83) (hF 83 (by decide))
  have a2 := hd_ba (F := F) (F' := F') (k := 2) (hF 2 (by decide))
  have t85 : sy_dv F' (.inr (.inl 85)) = .int ((sy_ai F 2).getD (sy_i F 83).toNatClampNeg 0) := hd_rd (hs 0 _ rfl) b83 a2
  have t86 : sy_dv F' (.inr (.inl 86)) = .int ((sy_i F 83) + ((1 : Int32))) := hd_o (hs 1 _ rfl) b83 rfl rfl
  have b84 := hd_b (F := F) (F' := F') (k := 84) (hF 84 (by decide))
  have hB' : iv_in F' iv_B0 := iv_in_eq hB (fun j hj => hF j (Nat.lt_of_lt_of_le hj (by decide +kernel)))
  refine ⟨List.forall_mem_cons.mpr ⟨hd_p5 b82 b83 h0, List.forall_mem_cons.mpr ⟨hd_pb b83 (by first | exact h1 | exact h1), List.forall_mem_cons.mpr ⟨hd_p1 t85 rfl (by have hc : ((9) : Int32).toInt = 9 := (by decide); omega), List.forall_mem_cons.mpr ⟨hd_p0 t85 rfl (by have hc : ((10) : Int32).toInt = 10 := (by decide); omega), fun _ h => absurd h List.not_mem_nil⟩⟩⟩⟩, ?_⟩
  refine k _ ?_ ?_ ?_ ?_
  · exact fun j hj _ => (hd_keep hB' (Nat.lt_of_lt_of_le hj (by decide +kernel)) (by simp)).trans (hF j (Nat.lt_of_lt_of_le hj (by decide)))
  · exact hd_gi (x := .inr (.inl 82)) (by decide +kernel) b82
  · exact hd_gi (x := .inr (.inl 86)) (by decide +kernel) t86
  · exact hd_gi (x := .inr (.inl 84)) (by decide +kernel) b84
theorem k1cu_29_p3 {Ls : Nat} {xs : Nat → Int32} {d : Nat} {Q : Option Value → jm_h → Prop} (hd : 6 ≤ d) (F : Nat → sy_d) (X1 X2 : List jm_c) (hB : iv_in F iv_B0)
    (h0 : (sy_i F 83).toInt < (sy_i F 82).toInt)
    (h1 : 0 ≤ (sy_i F 83).toInt ∧ (sy_i F 83).toInt < 2000)
    (h2 : ((sy_ai F 2).getD (sy_i F 83).toNatClampNeg 0).toInt ≠ 9)
    (h3 : ((sy_ai F 2).getD (sy_i F 83).toNatClampNeg 0).toInt ≠ 10)
    (h4 : ((sy_ai F 2).getD (sy_i F 83).toNatClampNeg 0).toInt = 13)
    (k : ∀ F1 : Nat → sy_d, (∀ j, j < 82 → True → F1 j = F j) → F1 82 = .inl (.int (sy_i F 82)) → F1 83 = .inl (.int ((sy_i F 83) + ((1 : Int32)))) → F1 84 = .inl (.int (sy_i F 84)) → hd_W Ls xs d jm_M58 Q (29, sy_dL F1 [some (.inl (.ref 31)), some (.inl (.ref 9)), none, some (.inr (.inl 82)), some (.inr (.inl 83)), none, some (.inr (.inl 84))], sy_dS F1 [], sy_dh F1 X1 X2 (iv_H 1), 0, 0)) :
    hd_W Ls xs d jm_M58 Q (29, sy_dL F [some (.inl (.ref 31)), some (.inl (.ref 9)), none, some (.inr (.inl 82)), some (.inr (.inl 83)), none, some (.inr (.inl 84))], sy_dS F [], sy_dh F X1 X2 (iv_H 1), 0, 0) := by
  refine hd_run (s := 1) (nv := 85) (pc := 29) (L := [some (.inl (.ref 31)), some (.inl (.ref 9)), none, some (.inr (.inl 82)), some (.inr (.inl 83)), none, some (.inr (.inl 84))]) (S := []) (uh := hd_ov (iv_id 0 iv_B0) []) (ul := [.inl (.inr (.inl 82)), .inl (.inr (.inl 86)), .inl (.inr (.inl 84))]) (f := true) (sp := [29, 67]) (d0 := 5) (O := [false, false, false, true]) (T := [(30, [.inr (.inl 83)], [.inr (.inl 2)]), (0, [.inr (.inl 83), .inl (.int 1)], [])]) (P := [(5, .inr (.inl 82), .inr (.inl 83)), (6, .inr (.inl 83), .inl (.ref 2000)), (1, .inr (.inl 85), .inl (.int 9)), (1, .inr (.inl 85), .inl (.int 10)), (0, .inr (.inl 85), .inl (.int 13))]) jm_ok58 (by decide +kernel) (by decide +kernel) hd F X1 X2 (fun F' hF hs => ?_)
  have b82 := hd_b (F := F) (F' := F') (k := 82) (hF 82 (by decide))
  have b83 := hd_b (F := F) (F' := F') (k := 83) (hF 83 (by decide))
  have a2 := hd_ba (F := F) (F' := F') (k := 2) (hF 2 (by decide))
  have t85 : sy_dv F' (.inr (.inl 85)) = .int ((sy_ai F 2).getD (sy_i F 83).toNatClampNeg 0) := hd_rd (hs 0 _ rfl) b83 a2
  have t86 : sy_dv F' (.inr (.inl 86)) = .int ((sy_i F 83) + ((1 : Int32))) := hd_o (hs 1 _ rfl) b83 rfl rfl
  have b84 := hd_b (F := F) (F' := F') (k := 84) (hF 84 (by decide))
  have hB' : iv_in F' iv_B0 := iv_in_eq hB (fun j hj => hF j (Nat.lt_of_lt_of_le hj (by decide +kernel)))
  refine ⟨List.forall_mem_cons.mpr ⟨hd_p5 b82 b83 h0, List.forall_mem_cons.mpr ⟨hd_pb b83 (by first | exact h1 | exact h1), List.forall_mem_cons.mpr ⟨hd_p1 t85 rfl (by have hc : ((9) : Int32).toInt = 9 := (by decide); omega), List.forall_mem_cons.mpr ⟨hd_p1 t85 rfl (by have hc : ((10) : Int32).toInt = 10 := (by decide); omega), List.forall_mem_cons.mpr ⟨hd_p0 t85 rfl (by have hc : ((13) : Int32).toInt = 13 := (by decide); omega), fun _ h => absurd h List.not_mem_nil⟩⟩⟩⟩⟩, ?_⟩
  refine k _ ?_ ?_ ?_ ?_
  · exact fun j hj _ => (hd_keep hB' (Nat.lt_of_lt_of_le hj (by decide +kernel)) (by simp)).trans (hF j (Nat.lt_of_lt_of_le hj (by decide)))
  · exact hd_gi (x := .inr (.inl 82)) (by decide +kernel) b82
  · exact hd_gi (x := .inr (.inl 86)) (by decide +kernel) t86
  · exact hd_gi (x := .inr (.inl 84)) (by decide +kernel) b84
theorem k1cu_29_p4 {Ls : Nat} {xs : Nat → Int32} {d : Nat} {Q : Option Value → jm_h → Prop} (hd : 6 ≤ d) (F : Nat → sy_d) (X1 X2 : List jm_c) (hB : iv_in F iv_B0)
    (h0 : (sy_i F 83).toInt < (sy_i F 82).toInt)
    (h1 : 0 ≤ (sy_i F 83).toInt ∧ (sy_i F 83).toInt < 2000)
    (h2 : ((sy_ai F 2).getD (sy_i F 83).toNatClampNeg 0).toInt ≠ 9)
    (h3 : ((sy_ai F 2).getD (sy_i F 83).toNatClampNeg 0).toInt ≠ 10)
    (h4 : ((sy_ai F 2).getD (sy_i F 83).toNatClampNeg 0).toInt ≠ 13)
    (h5 : ((sy_ai F 2).getD (sy_i F 83).toNatClampNeg 0).toInt ≠ 32)
    (h6 : 0 ≤ (sy_i F 84).toInt ∧ (sy_i F 84).toInt < 401)
    (k : ∀ F1 : Nat → sy_d, (∀ j, j < 82 → j ≠ 40 → F1 j = F j) → F1 40 = .inr (.inl (jm_upd (sy_ai F 40) (sy_i F 84).toNatClampNeg (sy_i F 83))) → F1 82 = .inl (.int (sy_i F 82)) → F1 83 = .inl (.int (sy_i F 84)) → F1 84 = .inl (.int (sy_i F 83)) → hd_W Ls xs d jm_M58 Q (67, sy_dL F1 [some (.inl (.ref 31)), some (.inl (.ref 9)), none, some (.inr (.inl 82)), none, none, some (.inr (.inl 83))], sy_dS F1 [.inr (.inl 82), .inr (.inl 84), .inl (.ref 9), .inr (.inl 83), .inl (.ref 31)], sy_dh F1 X1 X2 (iv_H 1), 0, 0)) :
    hd_W Ls xs d jm_M58 Q (29, sy_dL F [some (.inl (.ref 31)), some (.inl (.ref 9)), none, some (.inr (.inl 82)), some (.inr (.inl 83)), none, some (.inr (.inl 84))], sy_dS F [], sy_dh F X1 X2 (iv_H 1), 0, 0) := by
  refine hd_run (s := 1) (nv := 85) (pc := 67) (L := [some (.inl (.ref 31)), some (.inl (.ref 9)), none, some (.inr (.inl 82)), none, none, some (.inr (.inl 83))]) (S := [.inr (.inl 82), .inr (.inl 84), .inl (.ref 9), .inr (.inl 83), .inl (.ref 31)]) (uh := hd_ov (iv_id 0 iv_B0) [(40, .inr (.inr (.inl 86)))]) (ul := [.inl (.inr (.inl 82)), .inl (.inr (.inl 84)), .inl (.inr (.inl 83))]) (f := true) (sp := [29, 67]) (d0 := 5) (O := [false, false, false, false, true]) (T := [(30, [.inr (.inl 83)], [.inr (.inl 2)]), (40, [.inr (.inl 84), .inr (.inl 83)], [.inr (.inl 40)])]) (P := [(5, .inr (.inl 82), .inr (.inl 83)), (6, .inr (.inl 83), .inl (.ref 2000)), (1, .inr (.inl 85), .inl (.int 9)), (1, .inr (.inl 85), .inl (.int 10)), (1, .inr (.inl 85), .inl (.int 13)), (1, .inr (.inl 85), .inl (.int 32)), (6, .inr (.inl 84), .inl (.ref 401))]) jm_ok58 (by decide +kernel) (by decide +kernel) hd F X1 X2 (fun F' hF hs => ?_)
  have b82 := hd_b (F := F) (F' := F') (k := 82) (hF 82 (by decide))
  have b83 := hd_b (F := F) (F' := F') (k := 83) (hF 83 (by decide))
  have a2 := hd_ba (F := F) (F' := F') (k := 2) (hF 2 (by decide))
  have t85 : sy_dv F' (.inr (.inl 85)) = .int ((sy_ai F 2).getD (sy_i F 83).toNatClampNeg 0) := hd_rd (hs 0 _ rfl) b83 a2
  have b84 := hd_b (F := F) (F' := F') (k := 84) (hF 84 (by decide))
  have a40 := hd_ba (F := F) (F' := F') (k := 40) (hF 40 (by decide))
  have t86 : sy_da F' (.inr (.inl 86)) = .inl (jm_upd (sy_ai F 40) (sy_i F 84).toNatClampNeg (sy_i F 83)) := hd_up (hs 1 _ rfl) b84 b83 a40
  have hB' : iv_in F' iv_B0 := iv_in_eq hB (fun j hj => hF j (Nat.lt_of_lt_of_le hj (by decide +kernel)))
  refine ⟨List.forall_mem_cons.mpr ⟨hd_p5 b82 b83 h0, List.forall_mem_cons.mpr ⟨hd_pb b83 (by first | exact h1 | exact h1), List.forall_mem_cons.mpr ⟨hd_p1 t85 rfl (by have hc : ((9) : Int32).toInt = 9 := (by decide); omega), List.forall_mem_cons.mpr ⟨hd_p1 t85 rfl (by have hc : ((10) : Int32).toInt = 10 := (by decide); omega), List.forall_mem_cons.mpr ⟨hd_p1 t85 rfl (by have hc : ((13) : Int32).toInt = 13 := (by decide); omega), List.forall_mem_cons.mpr ⟨hd_p1 t85 rfl (by have hc : ((32) : Int32).toInt = 32 := (by decide); omega), List.forall_mem_cons.mpr ⟨hd_pb b84 (by first | exact h6 | exact h6), fun _ h => absurd h List.not_mem_nil⟩⟩⟩⟩⟩⟩⟩, ?_⟩
  refine k _ ?_ ?_ ?_ ?_ ?_
  · exact fun j hj hn => (hd_keep hB' (Nat.lt_of_lt_of_le hj (by decide +kernel)) (by simp; omega)).trans (hF j (Nat.lt_of_lt_of_le hj (by decide)))
  · exact hd_ga (a := .inr (.inl 86)) (by decide +kernel) t86
  · exact hd_gi (x := .inr (.inl 82)) (by decide +kernel) b82
  · exact hd_gi (x := .inr (.inl 84)) (by decide +kernel) b84
  · exact hd_gi (x := .inr (.inl 83)) (by decide +kernel) b83
theorem k1cu_29_p5 {Ls : Nat} {xs : Nat → Int32} {d : Nat} {Q : Option Value → jm_h → Prop} (hd : 6 ≤ d) (F : Nat → sy_d) (X1 X2 : List jm_c) (hB : iv_in F iv_B0)
    (h0 : (sy_i F 83).toInt < (sy_i F 82).toInt)
    (h1 : 0 ≤ (sy_i F 83).toInt ∧ (sy_i F 83).toInt < 2000)
    (h2 : ((sy_ai F 2).getD (sy_i F 83).toNatClampNeg 0).toInt ≠ 9)
    (h3 : ((sy_ai F 2).getD (sy_i F 83).toNatClampNeg 0).toInt ≠ 10)
    (h4 : ((sy_ai F 2).getD (sy_i F 83).toNatClampNeg 0).toInt ≠ 13)
    (h5 : ((sy_ai F 2).getD (sy_i F 83).toNatClampNeg 0).toInt = 32)
    (k : ∀ F1 : Nat → sy_d, (∀ j, j < 82 → True → F1 j = F j) → F1 82 = .inl (.int (sy_i F 82)) → F1 83 = .inl (.int ((sy_i F 83) + ((1 : Int32)))) → F1 84 = .inl (.int (sy_i F 84)) → hd_W Ls xs d jm_M58 Q (29, sy_dL F1 [some (.inl (.ref 31)), some (.inl (.ref 9)), none, some (.inr (.inl 82)), some (.inr (.inl 83)), none, some (.inr (.inl 84))], sy_dS F1 [], sy_dh F1 X1 X2 (iv_H 1), 0, 0)) :
    hd_W Ls xs d jm_M58 Q (29, sy_dL F [some (.inl (.ref 31)), some (.inl (.ref 9)), none, some (.inr (.inl 82)), some (.inr (.inl 83)), none, some (.inr (.inl 84))], sy_dS F [], sy_dh F X1 X2 (iv_H 1), 0, 0) := by
  refine hd_run (s := 1) (nv := 85) (pc := 29) (L := [some (.inl (.ref 31)), some (.inl (.ref 9)), none, some (.inr (.inl 82)), some (.inr (.inl 83)), none, some (.inr (.inl 84))]) (S := []) (uh := hd_ov (iv_id 0 iv_B0) []) (ul := [.inl (.inr (.inl 82)), .inl (.inr (.inl 86)), .inl (.inr (.inl 84))]) (f := true) (sp := [29, 67]) (d0 := 5) (O := [false, false, false, false, false]) (T := [(30, [.inr (.inl 83)], [.inr (.inl 2)]), (0, [.inr (.inl 83), .inl (.int 1)], [])]) (P := [(5, .inr (.inl 82), .inr (.inl 83)), (6, .inr (.inl 83), .inl (.ref 2000)), (1, .inr (.inl 85), .inl (.int 9)), (1, .inr (.inl 85), .inl (.int 10)), (1, .inr (.inl 85), .inl (.int 13)), (0, .inr (.inl 85), .inl (.int 32))]) jm_ok58 (by decide +kernel) (by decide +kernel) hd F X1 X2 (fun F' hF hs => ?_)
  have b82 := hd_b (F := F) (F' := F') (k := 82) (hF 82 (by decide))
  have b83 := hd_b (F := F) (F' := F') (k := 83) (hF 83 (by decide))
  have a2 := hd_ba (F := F) (F' := F') (k := 2) (hF 2 (by decide))
  have t85 : sy_dv F' (.inr (.inl 85)) = .int ((sy_ai F 2).getD (sy_i F 83).toNatClampNeg 0) := hd_rd (hs 0 _ rfl) b83 a2
  have t86 : sy_dv F' (.inr (.inl 86)) = .int ((sy_i F 83) + ((1 : Int32))) := hd_o (hs 1 _ rfl) b83 rfl rfl
  have b84 := hd_b (F := F) (F' := F') (k := 84) (hF 84 (by decide))
  have hB' : iv_in F' iv_B0 := iv_in_eq hB (fun j hj => hF j (Nat.lt_of_lt_of_le hj (by decide +kernel)))
  refine ⟨List.forall_mem_cons.mpr ⟨hd_p5 b82 b83 h0, List.forall_mem_cons.mpr ⟨hd_pb b83 (by first | exact h1 | exact h1), List.forall_mem_cons.mpr ⟨hd_p1 t85 rfl (by have hc : ((9) : Int32).toInt = 9 := (by decide); omega), List.forall_mem_cons.mpr ⟨hd_p1 t85 rfl (by have hc : ((10) : Int32).toInt = 10 := (by decide); omega), List.forall_mem_cons.mpr ⟨hd_p1 t85 rfl (by have hc : ((13) : Int32).toInt = 13 := (by decide); omega), List.forall_mem_cons.mpr ⟨hd_p0 t85 rfl (by have hc : ((32) : Int32).toInt = 32 := (by decide); omega), fun _ h => absurd h List.not_mem_nil⟩⟩⟩⟩⟩⟩, ?_⟩
  refine k _ ?_ ?_ ?_ ?_
  · exact fun j hj _ => (hd_keep hB' (Nat.lt_of_lt_of_le hj (by decide +kernel)) (by simp)).trans (hF j (Nat.lt_of_lt_of_le hj (by decide)))
  · exact hd_gi (x := .inr (.inl 82)) (by decide +kernel) b82
  · exact hd_gi (x := .inr (.inl 86)) (by decide +kernel) t86
  · exact hd_gi (x := .inr (.inl 84)) (by decide +kernel) b84
theorem k1cu_29 {Ls : Nat} {xs : Nat → Int32} {d : Nat} {Q : Option Value → jm_h → Prop} (hd : 6 ≤ d) (F : Nat → sy_d) (X1 X2 : List jm_c) (hB : iv_in F iv_B0)
    (a82 : 0 ≤ (sy_i F 82).toInt ∧ (sy_i F 82).toInt ≤ 2000)
    (a83 : 0 ≤ (sy_i F 83).toInt ∧ (sy_i F 83).toInt ≤ 2000)
    (a84 : 0 ≤ (sy_i F 84).toInt ∧ (sy_i F 84).toInt ≤ 400)
    (k0 : (sy_i F 82).toInt ≤ (sy_i F 83).toInt → ∀ F1 : Nat → sy_d, iv_in F1 iv_B0 → (∀ j, j < 82 → j ∉ ([40] : List Nat) → F1 j = F j) → sy_ai F1 39 = sy_ai F 39 → sy_ai F1 40 = jm_upd (sy_ai F 40) ((sy_i F 84).toInt).toNat (sy_i F 83) → sy_al F1 41 = sy_al F 41 → (sy_i F1 82).toInt = (sy_i F 82).toInt → (sy_i F1 83).toInt = (sy_i F 84).toInt → (sy_i F1 84).toInt = (sy_i F 83).toInt → hd_W Ls xs d jm_M58 Q (67, sy_dL F1 [some (.inl (.ref 31)), some (.inl (.ref 9)), none, some (.inr (.inl 82)), none, none, some (.inr (.inl 83))], sy_dS F1 [.inr (.inl 82), .inr (.inl 84), .inl (.ref 9), .inr (.inl 83), .inl (.ref 31)], sy_dh F1 X1 X2 (iv_H 1), 0, 0))
    (k1 : (sy_i F 83).toInt < (sy_i F 82).toInt → ((sy_ai F 2).getD ((sy_i F 83).toInt).toNat 0).toInt = 9 → ∀ F1 : Nat → sy_d, iv_in F1 iv_B0 → (∀ j, j < 82 → j ∉ ([] : List Nat) → F1 j = F j) → sy_ai F1 39 = sy_ai F 39 → sy_ai F1 40 = sy_ai F 40 → sy_al F1 41 = sy_al F 41 → (sy_i F1 82).toInt = (sy_i F 82).toInt → (sy_i F1 83).toInt = ((sy_i F 83).toInt + 1) → (sy_i F1 84).toInt = (sy_i F 84).toInt → hd_W Ls xs d jm_M58 Q (29, sy_dL F1 [some (.inl (.ref 31)), some (.inl (.ref 9)), none, some (.inr (.inl 82)), some (.inr (.inl 83)), none, some (.inr (.inl 84))], sy_dS F1 [], sy_dh F1 X1 X2 (iv_H 1), 0, 0))
    (k2 : (sy_i F 83).toInt < (sy_i F 82).toInt → ((sy_ai F 2).getD ((sy_i F 83).toInt).toNat 0).toInt ≠ 9 → ((sy_ai F 2).getD ((sy_i F 83).toInt).toNat 0).toInt = 10 → ∀ F1 : Nat → sy_d, iv_in F1 iv_B0 → (∀ j, j < 82 → j ∉ ([] : List Nat) → F1 j = F j) → sy_ai F1 39 = sy_ai F 39 → sy_ai F1 40 = sy_ai F 40 → sy_al F1 41 = sy_al F 41 → (sy_i F1 82).toInt = (sy_i F 82).toInt → (sy_i F1 83).toInt = ((sy_i F 83).toInt + 1) → (sy_i F1 84).toInt = (sy_i F 84).toInt → hd_W Ls xs d jm_M58 Q (29, sy_dL F1 [some (.inl (.ref 31)), some (.inl (.ref 9)), none, some (.inr (.inl 82)), some (.inr (.inl 83)), none, some (.inr (.inl 84))], sy_dS F1 [], sy_dh F1 X1 X2 (iv_H 1), 0, 0))
    (k3 : (sy_i F 83).toInt < (sy_i F 82).toInt → ((sy_ai F 2).getD ((sy_i F 83).toInt).toNat 0).toInt ≠ 9 → ((sy_ai F 2).getD ((sy_i F 83).toInt).toNat 0).toInt ≠ 10 → ((sy_ai F 2).getD ((sy_i F 83).toInt).toNat 0).toInt = 13 → ∀ F1 : Nat → sy_d, iv_in F1 iv_B0 → (∀ j, j < 82 → j ∉ ([] : List Nat) → F1 j = F j) → sy_ai F1 39 = sy_ai F 39 → sy_ai F1 40 = sy_ai F 40 → sy_al F1 41 = sy_al F 41 → (sy_i F1 82).toInt = (sy_i F 82).toInt → (sy_i F1 83).toInt = ((sy_i F 83).toInt + 1) → (sy_i F1 84).toInt = (sy_i F 84).toInt → hd_W Ls xs d jm_M58 Q (29, sy_dL F1 [some (.inl (.ref 31)), some (.inl (.ref 9)), none, some (.inr (.inl 82)), some (.inr (.inl 83)), none, some (.inr (.inl 84))], sy_dS F1 [], sy_dh F1 X1 X2 (iv_H 1), 0, 0))
    (k4 : (sy_i F 83).toInt < (sy_i F 82).toInt → ((sy_ai F 2).getD ((sy_i F 83).toInt).toNat 0).toInt ≠ 9 → ((sy_ai F 2).getD ((sy_i F 83).toInt).toNat 0).toInt ≠ 10 → ((sy_ai F 2).getD ((sy_i F 83).toInt).toNat 0).toInt ≠ 13 → ((sy_ai F 2).getD ((sy_i F 83).toInt).toNat 0).toInt ≠ 32 → ∀ F1 : Nat → sy_d, iv_in F1 iv_B0 → (∀ j, j < 82 → j ∉ ([40] : List Nat) → F1 j = F j) → sy_ai F1 39 = sy_ai F 39 → sy_ai F1 40 = jm_upd (sy_ai F 40) ((sy_i F 84).toInt).toNat (sy_i F 83) → sy_al F1 41 = sy_al F 41 → (sy_i F1 82).toInt = (sy_i F 82).toInt → (sy_i F1 83).toInt = (sy_i F 84).toInt → (sy_i F1 84).toInt = (sy_i F 83).toInt → hd_W Ls xs d jm_M58 Q (67, sy_dL F1 [some (.inl (.ref 31)), some (.inl (.ref 9)), none, some (.inr (.inl 82)), none, none, some (.inr (.inl 83))], sy_dS F1 [.inr (.inl 82), .inr (.inl 84), .inl (.ref 9), .inr (.inl 83), .inl (.ref 31)], sy_dh F1 X1 X2 (iv_H 1), 0, 0))
    (k5 : (sy_i F 83).toInt < (sy_i F 82).toInt → ((sy_ai F 2).getD ((sy_i F 83).toInt).toNat 0).toInt ≠ 9 → ((sy_ai F 2).getD ((sy_i F 83).toInt).toNat 0).toInt ≠ 10 → ((sy_ai F 2).getD ((sy_i F 83).toInt).toNat 0).toInt ≠ 13 → ((sy_ai F 2).getD ((sy_i F 83).toInt).toNat 0).toInt = 32 → ∀ F1 : Nat → sy_d, iv_in F1 iv_B0 → (∀ j, j < 82 → j ∉ ([] : List Nat) → F1 j = F j) → sy_ai F1 39 = sy_ai F 39 → sy_ai F1 40 = sy_ai F 40 → sy_al F1 41 = sy_al F 41 → (sy_i F1 82).toInt = (sy_i F 82).toInt → (sy_i F1 83).toInt = ((sy_i F 83).toInt + 1) → (sy_i F1 84).toInt = (sy_i F 84).toInt → hd_W Ls xs d jm_M58 Q (29, sy_dL F1 [some (.inl (.ref 31)), some (.inl (.ref 9)), none, some (.inr (.inl 82)), some (.inr (.inl 83)), none, some (.inr (.inl 84))], sy_dS F1 [], sy_dh F1 X1 X2 (iv_H 1), 0, 0)) :
    hd_W Ls xs d jm_M58 Q (29, sy_dL F [some (.inl (.ref 31)), some (.inl (.ref 9)), none, some (.inr (.inl 82)), some (.inr (.inl 83)), none, some (.inr (.inl 84))], sy_dS F [], sy_dh F X1 X2 (iv_H 1), 0, 0) := by
  by_cases g0 : (sy_i F 82).toInt ≤ (sy_i F 83).toInt
  · have w85 : jm_upd (sy_ai F 40) (sy_i F 84).toNatClampNeg (sy_i F 83) = jm_upd (sy_ai F 40) ((sy_i F 84).toInt).toNat (sy_i F 83) := by simp only [nz_c]
    exact k1cu_29_p0 hd F X1 X2 hB (by first | exact g0 | (simp only [nz_c]; exact g0)) (by first | exact ⟨by omega, by omega⟩ | (simp only [nz_c]; exact ⟨by omega, by omega⟩)) (fun F1 g e40 e82 e83 e84 => k0 g0 F1 (nz_in0 hB [40] (fun j hj hn => g j hj (by simp only [List.mem_cons, List.not_mem_nil, or_false, not_or] at hn; omega)) (List.forall_mem_cons.mpr ⟨fun t ht => (Option.some.inj ht) ▸ (nz_hz2 e40), List.forall_mem_nil _⟩)) (fun j hj hn => g j hj (by simp only [List.mem_cons, List.not_mem_nil, or_false, not_or] at hn; omega)) (nz_fa (g 39 (by decide) (by decide))) ((zz_ai e40).trans w85) (nz_fl (g 41 (by decide) (by decide))) ((congrArg Int32.toInt (zz_i e82)).trans (rfl : (sy_i F 82).toInt = (sy_i F 82).toInt)) ((congrArg Int32.toInt (zz_i e83)).trans (rfl : (sy_i F 84).toInt = (sy_i F 84).toInt)) ((congrArg Int32.toInt (zz_i e84)).trans (rfl : (sy_i F 83).toInt = (sy_i F 83).toInt)))
  replace g0 : (sy_i F 83).toInt < (sy_i F 82).toInt := by omega
  by_cases g1 : ((sy_ai F 2).getD ((sy_i F 83).toInt).toNat 0).toInt = 9
  · have q85 : (sy_ai F 2).getD (sy_i F 83).toNatClampNeg 0 = (sy_ai F 2).getD ((sy_i F 83).toInt).toNat 0 := by simp only [nz_c]
    have n85 : ((sy_ai F 2).getD (sy_i F 83).toNatClampNeg 0).toInt = ((sy_ai F 2).getD ((sy_i F 83).toInt).toNat 0).toInt := congrArg Int32.toInt q85
    have r85 := nz_ba hB (k := 2) (lo := (-128)) (hi := 127) rfl ((sy_i F 83).toInt).toNat
    have n86 : ((sy_i F 83) + ((1 : Int32))).toInt = ((sy_i F 83).toInt + 1) := nz_add (rfl : (sy_i F 83).toInt = (sy_i F 83).toInt) (by decide : ((1 : Int32)).toInt = 1) (by omega) (by omega)
    exact k1cu_29_p1 hd F X1 X2 hB (by first | exact g0 | (simp only [nz_c]; exact g0)) (by first | exact ⟨by omega, by omega⟩ | (simp only [nz_c]; exact ⟨by omega, by omega⟩)) (by first | exact g1 | (simp only [nz_c]; exact g1) | (rw [n85]; exact g1)) (fun F1 g e82 e83 e84 => k1 g0 g1 F1 (nz_in0 hB [] (fun j hj hn => g j hj (by simp only [List.mem_cons, List.not_mem_nil, or_false, not_or] at hn; exact trivial)) (List.forall_mem_nil _)) (fun j hj hn => g j hj (by simp only [List.mem_cons, List.not_mem_nil, or_false, not_or] at hn; exact trivial)) (nz_fa (g 39 (by decide) (by decide))) (nz_fa (g 40 (by decide) (by decide))) (nz_fl (g 41 (by decide) (by decide))) ((congrArg Int32.toInt (zz_i e82)).trans (rfl : (sy_i F 82).toInt = (sy_i F 82).toInt)) ((congrArg Int32.toInt (zz_i e83)).trans n86) ((congrArg Int32.toInt (zz_i e84)).trans (rfl : (sy_i F 84).toInt = (sy_i F 84).toInt)))
  replace g1 : ((sy_ai F 2).getD ((sy_i F 83).toInt).toNat 0).toInt ≠ 9 := by omega
  by_cases g2 : ((sy_ai F 2).getD ((sy_i F 83).toInt).toNat 0).toInt = 10
  · have q85 : (sy_ai F 2).getD (sy_i F 83).toNatClampNeg 0 = (sy_ai F 2).getD ((sy_i F 83).toInt).toNat 0 := by simp only [nz_c]
    have n85 : ((sy_ai F 2).getD (sy_i F 83).toNatClampNeg 0).toInt = ((sy_ai F 2).getD ((sy_i F 83).toInt).toNat 0).toInt := congrArg Int32.toInt q85
    have r85 := nz_ba hB (k := 2) (lo := (-128)) (hi := 127) rfl ((sy_i F 83).toInt).toNat
    have n86 : ((sy_i F 83) + ((1 : Int32))).toInt = ((sy_i F 83).toInt + 1) := nz_add (rfl : (sy_i F 83).toInt = (sy_i F 83).toInt) (by decide : ((1 : Int32)).toInt = 1) (by omega) (by omega)
    exact k1cu_29_p2 hd F X1 X2 hB (by first | exact g0 | (simp only [nz_c]; exact g0)) (by first | exact ⟨by omega, by omega⟩ | (simp only [nz_c]; exact ⟨by omega, by omega⟩)) (by first | exact g1 | (simp only [nz_c]; exact g1) | (rw [n85]; exact g1)) (by first | exact g2 | (simp only [nz_c]; exact g2) | (rw [n85]; exact g2)) (fun F1 g e82 e83 e84 => k2 g0 g1 g2 F1 (nz_in0 hB [] (fun j hj hn => g j hj (by simp only [List.mem_cons, List.not_mem_nil, or_false, not_or] at hn; exact trivial)) (List.forall_mem_nil _)) (fun j hj hn => g j hj (by simp only [List.mem_cons, List.not_mem_nil, or_false, not_or] at hn; exact trivial)) (nz_fa (g 39 (by decide) (by decide))) (nz_fa (g 40 (by decide) (by decide))) (nz_fl (g 41 (by decide) (by decide))) ((congrArg Int32.toInt (zz_i e82)).trans (rfl : (sy_i F 82).toInt = (sy_i F 82).toInt)) ((congrArg Int32.toInt (zz_i e83)).trans n86) ((congrArg Int32.toInt (zz_i e84)).trans (rfl : (sy_i F 84).toInt = (sy_i F 84).toInt)))
  replace g2 : ((sy_ai F 2).getD ((sy_i F 83).toInt).toNat 0).toInt ≠ 10 := by omega
  by_cases g3 : ((sy_ai F 2).getD ((sy_i F 83).toInt).toNat 0).toInt = 13
  · have q85 : (sy_ai F 2).getD (sy_i F 83).toNatClampNeg 0 = (sy_ai F 2).getD ((sy_i F 83).toInt).toNat 0 := by simp only [nz_c]
    have n85 : ((sy_ai F 2).getD (sy_i F 83).toNatClampNeg 0).toInt = ((sy_ai F 2).getD ((sy_i F 83).toInt).toNat 0).toInt := congrArg Int32.toInt q85
    have r85 := nz_ba hB (k := 2) (lo := (-128)) (hi := 127) rfl ((sy_i F 83).toInt).toNat
    have n86 : ((sy_i F 83) + ((1 : Int32))).toInt = ((sy_i F 83).toInt + 1) := nz_add (rfl : (sy_i F 83).toInt = (sy_i F 83).toInt) (by decide : ((1 : Int32)).toInt = 1) (by omega) (by omega)
    exact k1cu_29_p3 hd F X1 X2 hB (by first | exact g0 | (simp only [nz_c]; exact g0)) (by first | exact ⟨by omega, by omega⟩ | (simp only [nz_c]; exact ⟨by omega, by omega⟩)) (by first | exact g1 | (simp only [nz_c]; exact g1) | (rw [n85]; exact g1)) (by first | exact g2 | (simp only [nz_c]; exact g2) | (rw [n85]; exact g2)) (by first | exact g3 | (simp only [nz_c]; exact g3) | (rw [n85]; exact g3)) (fun F1 g e82 e83 e84 => k3 g0 g1 g2 g3 F1 (nz_in0 hB [] (fun j hj hn => g j hj (by simp only [List.mem_cons, List.not_mem_nil, or_false, not_or] at hn; exact trivial)) (List.forall_mem_nil _)) (fun j hj hn => g j hj (by simp only [List.mem_cons, List.not_mem_nil, or_false, not_or] at hn; exact trivial)) (nz_fa (g 39 (by decide) (by decide))) (nz_fa (g 40 (by decide) (by decide))) (nz_fl (g 41 (by decide) (by decide))) ((congrArg Int32.toInt (zz_i e82)).trans (rfl : (sy_i F 82).toInt = (sy_i F 82).toInt)) ((congrArg Int32.toInt (zz_i e83)).trans n86) ((congrArg Int32.toInt (zz_i e84)).trans (rfl : (sy_i F 84).toInt = (sy_i F 84).toInt)))
  replace g3 : ((sy_ai F 2).getD ((sy_i F 83).toInt).toNat 0).toInt ≠ 13 := by omega
  by_cases g4 : ((sy_ai F 2).getD ((sy_i F 83).toInt).toNat 0).toInt ≠ 32
  · have q85 : (sy_ai F 2).getD (sy_i F 83).toNatClampNeg 0 = (sy_ai F 2).getD ((sy_i F 83).toInt).toNat 0 := by simp only [nz_c]
    have n85 : ((sy_ai F 2).getD (sy_i F 83).toNatClampNeg 0).toInt = ((sy_ai F 2).getD ((sy_i F 83).toInt).toNat 0).toInt := congrArg Int32.toInt q85
    have r85 := nz_ba hB (k := 2) (lo := (-128)) (hi := 127) rfl ((sy_i F 83).toInt).toNat
    have w86 : jm_upd (sy_ai F 40) (sy_i F 84).toNatClampNeg (sy_i F 83) = jm_upd (sy_ai F 40) ((sy_i F 84).toInt).toNat (sy_i F 83) := by simp only [nz_c]
    exact k1cu_29_p4 hd F X1 X2 hB (by first | exact g0 | (simp only [nz_c]; exact g0)) (by first | exact ⟨by omega, by omega⟩ | (simp only [nz_c]; exact ⟨by omega, by omega⟩)) (by first | exact g1 | (simp only [nz_c]; exact g1) | (rw [n85]; exact g1)) (by first | exact g2 | (simp only [nz_c]; exact g2) | (rw [n85]; exact g2)) (by first | exact g3 | (simp only [nz_c]; exact g3) | (rw [n85]; exact g3)) (by first | exact g4 | (simp only [nz_c]; exact g4) | (rw [n85]; exact g4)) (by first | exact ⟨by omega, by omega⟩ | (simp only [nz_c]; exact ⟨by omega, by omega⟩)) (fun F1 g e40 e82 e83 e84 => k4 g0 g1 g2 g3 g4 F1 (nz_in0 hB [40] (fun j hj hn => g j hj (by simp only [List.mem_cons, List.not_mem_nil, or_false, not_or] at hn; omega)) (List.forall_mem_cons.mpr ⟨fun t ht => (Option.some.inj ht) ▸ (nz_hz2 e40), List.forall_mem_nil _⟩)) (fun j hj hn => g j hj (by simp only [List.mem_cons, List.not_mem_nil, or_false, not_or] at hn; omega)) (nz_fa (g 39 (by decide) (by decide))) ((zz_ai e40).trans w86) (nz_fl (g 41 (by decide) (by decide))) ((congrArg Int32.toInt (zz_i e82)).trans (rfl : (sy_i F 82).toInt = (sy_i F 82).toInt)) ((congrArg Int32.toInt (zz_i e83)).trans (rfl : (sy_i F 84).toInt = (sy_i F 84).toInt)) ((congrArg Int32.toInt (zz_i e84)).trans (rfl : (sy_i F 83).toInt = (sy_i F 83).toInt)))
  replace g4 : ((sy_ai F 2).getD ((sy_i F 83).toInt).toNat 0).toInt = 32 := by omega
  have q85 : (sy_ai F 2).getD (sy_i F 83).toNatClampNeg 0 = (sy_ai F 2).getD ((sy_i F 83).toInt).toNat 0 := by simp only [nz_c]
  have n85 : ((sy_ai F 2).getD (sy_i F 83).toNatClampNeg 0).toInt = ((sy_ai F 2).getD ((sy_i F 83).toInt).toNat 0).toInt := congrArg Int32.toInt q85
  have r85 := nz_ba hB (k := 2) (lo := (-128)) (hi := 127) rfl ((sy_i F 83).toInt).toNat
  have n86 : ((sy_i F 83) + ((1 : Int32))).toInt = ((sy_i F 83).toInt + 1) := nz_add (rfl : (sy_i F 83).toInt = (sy_i F 83).toInt) (by decide : ((1 : Int32)).toInt = 1) (by omega) (by omega)
  exact k1cu_29_p5 hd F X1 X2 hB (by first | exact g0 | (simp only [nz_c]; exact g0)) (by first | exact ⟨by omega, by omega⟩ | (simp only [nz_c]; exact ⟨by omega, by omega⟩)) (by first | exact g1 | (simp only [nz_c]; exact g1) | (rw [n85]; exact g1)) (by first | exact g2 | (simp only [nz_c]; exact g2) | (rw [n85]; exact g2)) (by first | exact g3 | (simp only [nz_c]; exact g3) | (rw [n85]; exact g3)) (by first | exact g4 | (simp only [nz_c]; exact g4) | (rw [n85]; exact g4)) (fun F1 g e82 e83 e84 => k5 g0 g1 g2 g3 g4 F1 (nz_in0 hB [] (fun j hj hn => g j hj (by simp only [List.mem_cons, List.not_mem_nil, or_false, not_or] at hn; exact trivial)) (List.forall_mem_nil _)) (fun j hj hn => g j hj (by simp only [List.mem_cons, List.not_mem_nil, or_false, not_or] at hn; exact trivial)) (nz_fa (g 39 (by decide) (by decide))) (nz_fa (g 40 (by decide) (by decide))) (nz_fl (g 41 (by decide) (by decide))) ((congrArg Int32.toInt (zz_i e82)).trans (rfl : (sy_i F 82).toInt = (sy_i F 82).toInt)) ((congrArg Int32.toInt (zz_i e83)).trans n86) ((congrArg Int32.toInt (zz_i e84)).trans (rfl : (sy_i F 84).toInt = (sy_i F 84).toInt)))
theorem k1cu_70_p0 {Ls : Nat} {xs : Nat → Int32} {d : Nat} {Q : Option Value → jm_h → Prop} (hd : 6 ≤ d) (F : Nat → sy_d) (X1 X2 : List jm_c) (hB : iv_in F iv_B0)
    (h0 : 0 ≤ (sy_i F 83).toInt ∧ (sy_i F 83).toInt < 401)
    (h1 : ((sy_ai F 39).getD (sy_i F 83).toNatClampNeg 0).toInt = 26)
    (k : ∀ F1 : Nat → sy_d, (∀ j, j < 82 → True → F1 j = F j) → F1 82 = .inl (.int (sy_i F 82)) → F1 83 = .inl (.int (sy_i F 85)) → F1 84 = .inl (.int ((1 : Int32))) → F1 85 = .inl (.int ((sy_i F 83) + ((1 : Int32)))) → hd_W Ls xs d jm_M58 Q (16, sy_dL F1 [some (.inl (.ref 31)), some (.inl (.ref 9)), none, some (.inr (.inl 82)), some (.inr (.inl 83)), some (.inr (.inl 84)), some (.inr (.inl 85))], sy_dS F1 [], sy_dh F1 X1 X2 (iv_H 1), 0, 0)) :
    hd_W Ls xs d jm_M58 Q (70, sy_dL F [some (.inl (.ref 31)), some (.inl (.ref 9)), none, some (.inr (.inl 82)), none, none, some (.inr (.inl 83))], sy_dS F [.inr (.inl 85)], sy_dh F X1 X2 (iv_H 1), 0, 0) := by
  refine hd_run (s := 1) (nv := 86) (pc := 16) (L := [some (.inl (.ref 31)), some (.inl (.ref 9)), none, some (.inr (.inl 82)), some (.inr (.inl 83)), some (.inr (.inl 84)), some (.inr (.inl 85))]) (S := []) (uh := hd_ov (iv_id 0 iv_B0) []) (ul := [.inl (.inr (.inl 82)), .inl (.inr (.inl 85)), .inl (.inl (.int 1)), .inl (.inr (.inl 87))]) (f := false) (sp := [16]) (d0 := 5) (O := [true]) (T := [(30, [.inr (.inl 83)], [.inr (.inl 39)]), (0, [.inr (.inl 83), .inl (.int 1)], [])]) (P := [(6, .inr (.inl 83), .inl (.ref 401)), (0, .inr (.inl 86), .inl (.int 26))]) jm_ok58 (by decide +kernel) (by decide +kernel) hd F X1 X2 (fun F' hF hs => ?_)
  have b83 := hd_b (F := F) (F' := F') (k := 83) (hF 83 (by decide))
  have a39 := hd_ba (F := F) (F' := F') (k := 39) (hF 39 (by decide))
  have t86 : sy_dv F' (.inr (.inl 86)) = .int ((sy_ai F 39).getD (sy_i F 83).toNatClampNeg 0) := hd_rd (hs 0 _ rfl) b83 a39
  have b82 := hd_b (F := F) (F' := F') (k := 82) (hF 82 (by decide))
  have b85 := hd_b (F := F) (F' := F') (k := 85) (hF 85 (by decide))
  have t87 : sy_dv F' (.inr (.inl 87)) = .int ((sy_i F 83) + ((1 : Int32))) := hd_o (hs 1 _ rfl) b83 rfl rfl
  have hB' : iv_in F' iv_B0 := iv_in_eq hB (fun j hj => hF j (Nat.lt_of_lt_of_le hj (by decide +kernel)))
  refine ⟨List.forall_mem_cons.mpr ⟨hd_pb b83 (by first | exact h0 | exact h0), List.forall_mem_cons.mpr ⟨hd_p0 t86 rfl (by have hc : ((26) : Int32).toInt = 26 := (by decide); omega), fun _ h => absurd h List.not_mem_nil⟩⟩, ?_⟩
  refine k _ ?_ ?_ ?_ ?_ ?_
  · exact fun j hj _ => (hd_keep hB' (Nat.lt_of_lt_of_le hj (by decide +kernel)) (by simp)).trans (hF j (Nat.lt_of_lt_of_le hj (by decide)))
  · exact hd_gi (x := .inr (.inl 82)) (by decide +kernel) b82
  · exact hd_gi (x := .inr (.inl 85)) (by decide +kernel) b85
  · exact hd_gi (x := .inl (.int 1)) (by decide +kernel) rfl
  · exact hd_gi (x := .inr (.inl 87)) (by decide +kernel) t87
theorem k1cu_70_p1 {Ls : Nat} {xs : Nat → Int32} {d : Nat} {Q : Option Value → jm_h → Prop} (hd : 6 ≤ d) (F : Nat → sy_d) (X1 X2 : List jm_c) (hB : iv_in F iv_B0)
    (h0 : 0 ≤ (sy_i F 83).toInt ∧ (sy_i F 83).toInt < 401)
    (h1 : ((sy_ai F 39).getD (sy_i F 83).toNatClampNeg 0).toInt ≠ 26)
    (h2 : 0 ≤ (sy_i F 83).toInt ∧ (sy_i F 83).toInt < 401)
    (h3 : ((sy_ai F 39).getD (sy_i F 83).toNatClampNeg 0).toInt ≠ 25)
    (k : ∀ F1 : Nat → sy_d, (∀ j, j < 82 → True → F1 j = F j) → F1 82 = .inl (.int (sy_i F 82)) → F1 83 = .inl (.int (sy_i F 85)) → F1 84 = .inl (.int ((0 : Int32))) → F1 85 = .inl (.int ((sy_i F 83) + ((1 : Int32)))) → hd_W Ls xs d jm_M58 Q (16, sy_dL F1 [some (.inl (.ref 31)), some (.inl (.ref 9)), none, some (.inr (.inl 82)), some (.inr (.inl 83)), some (.inr (.inl 84)), some (.inr (.inl 85))], sy_dS F1 [], sy_dh F1 X1 X2 (iv_H 1), 0, 0)) :
    hd_W Ls xs d jm_M58 Q (70, sy_dL F [some (.inl (.ref 31)), some (.inl (.ref 9)), none, some (.inr (.inl 82)), none, none, some (.inr (.inl 83))], sy_dS F [.inr (.inl 85)], sy_dh F X1 X2 (iv_H 1), 0, 0) := by
  refine hd_run (s := 1) (nv := 86) (pc := 16) (L := [some (.inl (.ref 31)), some (.inl (.ref 9)), none, some (.inr (.inl 82)), some (.inr (.inl 83)), some (.inr (.inl 84)), some (.inr (.inl 85))]) (S := []) (uh := hd_ov (iv_id 0 iv_B0) []) (ul := [.inl (.inr (.inl 82)), .inl (.inr (.inl 85)), .inl (.inl (.int 0)), .inl (.inr (.inl 88))]) (f := false) (sp := [16]) (d0 := 5) (O := [false, true]) (T := [(30, [.inr (.inl 83)], [.inr (.inl 39)]), (30, [.inr (.inl 83)], [.inr (.inl 39)]), (0, [.inr (.inl 83), .inl (.int 1)], [])]) (P := [(6, .inr (.inl 83), .inl (.ref 401)), (1, .inr (.inl 86), .inl (.int 26)), (6, .inr (.inl 83), .inl (.ref 401)), (1, .inr (.inl 87), .inl (.int 25))]) jm_ok58 (by decide +kernel) (by decide +kernel) hd F X1 X2 (fun F' hF hs => ?_)
  have b83 := hd_b (F := F) (F' := F') (k := 83) (hF 83 (by decide))
  have a39 := hd_ba (F := F) (F' := F') (k := 39) (hF 39 (by decide))
  have t86 : sy_dv F' (.inr (.inl 86)) = .int ((sy_ai F 39).getD (sy_i F 83).toNatClampNeg 0) := hd_rd (hs 0 _ rfl) b83 a39
  have t87 : sy_dv F' (.inr (.inl 87)) = .int ((sy_ai F 39).getD (sy_i F 83).toNatClampNeg 0) := hd_rd (hs 1 _ rfl) b83 a39
  have b82 := hd_b (F := F) (F' := F') (k := 82) (hF 82 (by decide))
  have b85 := hd_b (F := F) (F' := F') (k := 85) (hF 85 (by decide))
  have t88 : sy_dv F' (.inr (.inl 88)) = .int ((sy_i F 83) + ((1 : Int32))) := hd_o (hs 2 _ rfl) b83 rfl rfl
  have hB' : iv_in F' iv_B0 := iv_in_eq hB (fun j hj => hF j (Nat.lt_of_lt_of_le hj (by decide +kernel)))
  refine ⟨List.forall_mem_cons.mpr ⟨hd_pb b83 (by first | exact h0 | exact h0), List.forall_mem_cons.mpr ⟨hd_p1 t86 rfl (by have hc : ((26) : Int32).toInt = 26 := (by decide); omega), List.forall_mem_cons.mpr ⟨hd_pb b83 (by first | exact h2 | exact h2), List.forall_mem_cons.mpr ⟨hd_p1 t87 rfl (by have hc : ((25) : Int32).toInt = 25 := (by decide); omega), fun _ h => absurd h List.not_mem_nil⟩⟩⟩⟩, ?_⟩
  refine k _ ?_ ?_ ?_ ?_ ?_
  · exact fun j hj _ => (hd_keep hB' (Nat.lt_of_lt_of_le hj (by decide +kernel)) (by simp)).trans (hF j (Nat.lt_of_lt_of_le hj (by decide)))
  · exact hd_gi (x := .inr (.inl 82)) (by decide +kernel) b82
  · exact hd_gi (x := .inr (.inl 85)) (by decide +kernel) b85
  · exact hd_gi (x := .inl (.int 0)) (by decide +kernel) rfl
  · exact hd_gi (x := .inr (.inl 88)) (by decide +kernel) t88
theorem k1cu_70_p2 {Ls : Nat} {xs : Nat → Int32} {d : Nat} {Q : Option Value → jm_h → Prop} (hd : 6 ≤ d) (F : Nat → sy_d) (X1 X2 : List jm_c) (hB : iv_in F iv_B0)
    (h0 : 0 ≤ (sy_i F 83).toInt ∧ (sy_i F 83).toInt < 401)
    (h1 : ((sy_ai F 39).getD (sy_i F 83).toNatClampNeg 0).toInt ≠ 26)
    (h2 : 0 ≤ (sy_i F 83).toInt ∧ (sy_i F 83).toInt < 401)
    (h3 : ((sy_ai F 39).getD (sy_i F 83).toNatClampNeg 0).toInt = 25)
    (k : ∀ F1 : Nat → sy_d, (∀ j, j < 82 → True → F1 j = F j) → F1 82 = .inl (.int (sy_i F 82)) → F1 83 = .inl (.int (sy_i F 85)) → F1 84 = .inl (.int ((1 : Int32))) → F1 85 = .inl (.int ((sy_i F 83) + ((1 : Int32)))) → hd_W Ls xs d jm_M58 Q (16, sy_dL F1 [some (.inl (.ref 31)), some (.inl (.ref 9)), none, some (.inr (.inl 82)), some (.inr (.inl 83)), some (.inr (.inl 84)), some (.inr (.inl 85))], sy_dS F1 [], sy_dh F1 X1 X2 (iv_H 1), 0, 0)) :
    hd_W Ls xs d jm_M58 Q (70, sy_dL F [some (.inl (.ref 31)), some (.inl (.ref 9)), none, some (.inr (.inl 82)), none, none, some (.inr (.inl 83))], sy_dS F [.inr (.inl 85)], sy_dh F X1 X2 (iv_H 1), 0, 0) := by
  refine hd_run (s := 1) (nv := 86) (pc := 16) (L := [some (.inl (.ref 31)), some (.inl (.ref 9)), none, some (.inr (.inl 82)), some (.inr (.inl 83)), some (.inr (.inl 84)), some (.inr (.inl 85))]) (S := []) (uh := hd_ov (iv_id 0 iv_B0) []) (ul := [.inl (.inr (.inl 82)), .inl (.inr (.inl 85)), .inl (.inl (.int 1)), .inl (.inr (.inl 88))]) (f := false) (sp := [16]) (d0 := 5) (O := [false, false]) (T := [(30, [.inr (.inl 83)], [.inr (.inl 39)]), (30, [.inr (.inl 83)], [.inr (.inl 39)]), (0, [.inr (.inl 83), .inl (.int 1)], [])]) (P := [(6, .inr (.inl 83), .inl (.ref 401)), (1, .inr (.inl 86), .inl (.int 26)), (6, .inr (.inl 83), .inl (.ref 401)), (0, .inr (.inl 87), .inl (.int 25))]) jm_ok58 (by decide +kernel) (by decide +kernel) hd F X1 X2 (fun F' hF hs => ?_)
  have b83 := hd_b (F := F) (F' := F') (k := 83) (hF 83 (by decide))
  have a39 := hd_ba (F := F) (F' := F') (k := 39) (hF 39 (by decide))
  have t86 : sy_dv F' (.inr (.inl 86)) = .int ((sy_ai F 39).getD (sy_i F 83).toNatClampNeg 0) := hd_rd (hs 0 _ rfl) b83 a39
  have t87 : sy_dv F' (.inr (.inl 87)) = .int ((sy_ai F 39).getD (sy_i F 83).toNatClampNeg 0) := hd_rd (hs 1 _ rfl) b83 a39
  have b82 := hd_b (F := F) (F' := F') (k := 82) (hF 82 (by decide))
  have b85 := hd_b (F := F) (F' := F') (k := 85) (hF 85 (by decide))
  have t88 : sy_dv F' (.inr (.inl 88)) = .int ((sy_i F 83) + ((1 : Int32))) := hd_o (hs 2 _ rfl) b83 rfl rfl
  have hB' : iv_in F' iv_B0 := iv_in_eq hB (fun j hj => hF j (Nat.lt_of_lt_of_le hj (by decide +kernel)))
  refine ⟨List.forall_mem_cons.mpr ⟨hd_pb b83 (by first | exact h0 | exact h0), List.forall_mem_cons.mpr ⟨hd_p1 t86 rfl (by have hc : ((26) : Int32).toInt = 26 := (by decide); omega), List.forall_mem_cons.mpr ⟨hd_pb b83 (by first | exact h2 | exact h2), List.forall_mem_cons.mpr ⟨hd_p0 t87 rfl (by have hc : ((25) : Int32).toInt = 25 := (by decide); omega), fun _ h => absurd h List.not_mem_nil⟩⟩⟩⟩, ?_⟩
  refine k _ ?_ ?_ ?_ ?_ ?_
  · exact fun j hj _ => (hd_keep hB' (Nat.lt_of_lt_of_le hj (by decide +kernel)) (by simp)).trans (hF j (Nat.lt_of_lt_of_le hj (by decide)))
  · exact hd_gi (x := .inr (.inl 82)) (by decide +kernel) b82
  · exact hd_gi (x := .inr (.inl 85)) (by decide +kernel) b85
  · exact hd_gi (x := .inl (.int 1)) (by decide +kernel) rfl
  · exact hd_gi (x := .inr (.inl 88)) (by decide +kernel) t88
theorem k1cu_70 {Ls : Nat} {xs : Nat → Int32} {d : Nat} {Q : Option Value → jm_h → Prop} (hd : 6 ≤ d) (F : Nat → sy_d) (X1 X2 : List jm_c) (hB : iv_in F iv_B0)
    (a83 : 0 ≤ (sy_i F 83).toInt ∧ (sy_i F 83).toInt ≤ 400)
    (k0 : ((sy_ai F 39).getD ((sy_i F 83).toInt).toNat 0).toInt = 26 → ∀ F1 : Nat → sy_d, iv_in F1 iv_B0 → (∀ j, j < 82 → j ∉ ([] : List Nat) → F1 j = F j) → sy_ai F1 39 = sy_ai F 39 → sy_ai F1 40 = sy_ai F 40 → sy_al F1 41 = sy_al F 41 → (sy_i F1 82).toInt = (sy_i F 82).toInt → (sy_i F1 83).toInt = (sy_i F 85).toInt → (sy_i F1 84).toInt = 1 → (sy_i F1 85).toInt = ((sy_i F 83).toInt + 1) → hd_W Ls xs d jm_M58 Q (16, sy_dL F1 [some (.inl (.ref 31)), some (.inl (.ref 9)), none, some (.inr (.inl 82)), some (.inr (.inl 83)), some (.inr (.inl 84)), some (.inr (.inl 85))], sy_dS F1 [], sy_dh F1 X1 X2 (iv_H 1), 0, 0))
    (k1 : ((sy_ai F 39).getD ((sy_i F 83).toInt).toNat 0).toInt ≠ 26 → ((sy_ai F 39).getD ((sy_i F 83).toInt).toNat 0).toInt ≠ 25 → ∀ F1 : Nat → sy_d, iv_in F1 iv_B0 → (∀ j, j < 82 → j ∉ ([] : List Nat) → F1 j = F j) → sy_ai F1 39 = sy_ai F 39 → sy_ai F1 40 = sy_ai F 40 → sy_al F1 41 = sy_al F 41 → (sy_i F1 82).toInt = (sy_i F 82).toInt → (sy_i F1 83).toInt = (sy_i F 85).toInt → (sy_i F1 84).toInt = 0 → (sy_i F1 85).toInt = ((sy_i F 83).toInt + 1) → hd_W Ls xs d jm_M58 Q (16, sy_dL F1 [some (.inl (.ref 31)), some (.inl (.ref 9)), none, some (.inr (.inl 82)), some (.inr (.inl 83)), some (.inr (.inl 84)), some (.inr (.inl 85))], sy_dS F1 [], sy_dh F1 X1 X2 (iv_H 1), 0, 0))
    (k2 : ((sy_ai F 39).getD ((sy_i F 83).toInt).toNat 0).toInt ≠ 26 → ((sy_ai F 39).getD ((sy_i F 83).toInt).toNat 0).toInt = 25 → ∀ F1 : Nat → sy_d, iv_in F1 iv_B0 → (∀ j, j < 82 → j ∉ ([] : List Nat) → F1 j = F j) → sy_ai F1 39 = sy_ai F 39 → sy_ai F1 40 = sy_ai F 40 → sy_al F1 41 = sy_al F 41 → (sy_i F1 82).toInt = (sy_i F 82).toInt → (sy_i F1 83).toInt = (sy_i F 85).toInt → (sy_i F1 84).toInt = 1 → (sy_i F1 85).toInt = ((sy_i F 83).toInt + 1) → hd_W Ls xs d jm_M58 Q (16, sy_dL F1 [some (.inl (.ref 31)), some (.inl (.ref 9)), none, some (.inr (.inl 82)), some (.inr (.inl 83)), some (.inr (.inl 84)), some (.inr (.inl 85))], sy_dS F1 [], sy_dh F1 X1 X2 (iv_H 1), 0, 0)) :
    hd_W Ls xs d jm_M58 Q (70, sy_dL F [some (.inl (.ref 31)), some (.inl (.ref 9)), none, some (.inr (.inl 82)), none, none, some (.inr (.inl 83))], sy_dS F [.inr (.inl 85)], sy_dh F X1 X2 (iv_H 1), 0, 0) := by
  by_cases g0 : ((sy_ai F 39).getD ((sy_i F 83).toInt).toNat 0).toInt = 26
  · have q86 : (sy_ai F 39).getD (sy_i F 83).toNatClampNeg 0 = (sy_ai F 39).getD ((sy_i F 83).toInt).toNat 0 := by simp only [nz_c]
    have n86 : ((sy_ai F 39).getD (sy_i F 83).toNatClampNeg 0).toInt = ((sy_ai F 39).getD ((sy_i F 83).toInt).toNat 0).toInt := congrArg Int32.toInt q86
    have n87 : ((sy_i F 83) + ((1 : Int32))).toInt = ((sy_i F 83).toInt + 1) := nz_add (rfl : (sy_i F 83).toInt = (sy_i F 83).toInt) (by decide : ((1 : Int32)).toInt = 1) (by omega) (by omega)
    exact k1cu_70_p0 hd F X1 X2 hB (by first | exact ⟨by omega, by omega⟩ | (simp only [nz_c]; exact ⟨by omega, by omega⟩)) (by first | exact g0 | (simp only [nz_c]; exact g0) | (rw [n86]; exact g0)) (fun F1 g e82 e83 e84 e85 => k0 g0 F1 (nz_in0 hB [] (fun j hj hn => g j hj (by simp only [List.mem_cons, List.not_mem_nil, or_false, not_or] at hn; exact trivial)) (List.forall_mem_nil _)) (fun j hj hn => g j hj (by simp only [List.mem_cons, List.not_mem_nil, or_false, not_or] at hn; exact trivial)) (nz_fa (g 39 (by decide) (by decide))) (nz_fa (g 40 (by decide) (by decide))) (nz_fl (g 41 (by decide) (by decide))) ((congrArg Int32.toInt (zz_i e82)).trans (rfl : (sy_i F 82).toInt = (sy_i F 82).toInt)) ((congrArg Int32.toInt (zz_i e83)).trans (rfl : (sy_i F 85).toInt = (sy_i F 85).toInt)) ((congrArg Int32.toInt (zz_i e84)).trans (by decide : ((1 : Int32)).toInt = 1)) ((congrArg Int32.toInt (zz_i e85)).trans n87))
  replace g0 : ((sy_ai F 39).getD ((sy_i F 83).toInt).toNat 0).toInt ≠ 26 := by omega
  by_cases g1 : ((sy_ai F 39).getD ((sy_i F 83).toInt).toNat 0).toInt ≠ 25
  · have q86 : (sy_ai F 39).getD (sy_i F 83).toNatClampNeg 0 = (sy_ai F 39).getD ((sy_i F 83).toInt).toNat 0 := by simp only [nz_c]
    have n86 : ((sy_ai F 39).getD (sy_i F 83).toNatClampNeg 0).toInt = ((sy_ai F 39).getD ((sy_i F 83).toInt).toNat 0).toInt := congrArg Int32.toInt q86
    have q87 : (sy_ai F 39).getD (sy_i F 83).toNatClampNeg 0 = (sy_ai F 39).getD ((sy_i F 83).toInt).toNat 0 := by simp only [nz_c]
    have n87 : ((sy_ai F 39).getD (sy_i F 83).toNatClampNeg 0).toInt = ((sy_ai F 39).getD ((sy_i F 83).toInt).toNat 0).toInt := congrArg Int32.toInt q87
    have n88 : ((sy_i F 83) + ((1 : Int32))).toInt = ((sy_i F 83).toInt + 1) := nz_add (rfl : (sy_i F 83).toInt = (sy_i F 83).toInt) (by decide : ((1 : Int32)).toInt = 1) (by omega) (by omega)
    exact k1cu_70_p1 hd F X1 X2 hB (by first | exact ⟨by omega, by omega⟩ | (simp only [nz_c]; exact ⟨by omega, by omega⟩)) (by first | exact g0 | (simp only [nz_c]; exact g0) | (rw [n86]; exact g0)) (by first | exact ⟨by omega, by omega⟩ | (simp only [nz_c]; exact ⟨by omega, by omega⟩)) (by first | exact g1 | (simp only [nz_c]; exact g1) | (rw [n87]; exact g1)) (fun F1 g e82 e83 e84 e85 => k1 g0 g1 F1 (nz_in0 hB [] (fun j hj hn => g j hj (by simp only [List.mem_cons, List.not_mem_nil, or_false, not_or] at hn; exact trivial)) (List.forall_mem_nil _)) (fun j hj hn => g j hj (by simp only [List.mem_cons, List.not_mem_nil, or_false, not_or] at hn; exact trivial)) (nz_fa (g 39 (by decide) (by decide))) (nz_fa (g 40 (by decide) (by decide))) (nz_fl (g 41 (by decide) (by decide))) ((congrArg Int32.toInt (zz_i e82)).trans (rfl : (sy_i F 82).toInt = (sy_i F 82).toInt)) ((congrArg Int32.toInt (zz_i e83)).trans (rfl : (sy_i F 85).toInt = (sy_i F 85).toInt)) ((congrArg Int32.toInt (zz_i e84)).trans (by decide : ((0 : Int32)).toInt = 0)) ((congrArg Int32.toInt (zz_i e85)).trans n88))
  replace g1 : ((sy_ai F 39).getD ((sy_i F 83).toInt).toNat 0).toInt = 25 := by omega
  have q86 : (sy_ai F 39).getD (sy_i F 83).toNatClampNeg 0 = (sy_ai F 39).getD ((sy_i F 83).toInt).toNat 0 := by simp only [nz_c]
  have n86 : ((sy_ai F 39).getD (sy_i F 83).toNatClampNeg 0).toInt = ((sy_ai F 39).getD ((sy_i F 83).toInt).toNat 0).toInt := congrArg Int32.toInt q86
  have q87 : (sy_ai F 39).getD (sy_i F 83).toNatClampNeg 0 = (sy_ai F 39).getD ((sy_i F 83).toInt).toNat 0 := by simp only [nz_c]
  have n87 : ((sy_ai F 39).getD (sy_i F 83).toNatClampNeg 0).toInt = ((sy_ai F 39).getD ((sy_i F 83).toInt).toNat 0).toInt := congrArg Int32.toInt q87
  have n88 : ((sy_i F 83) + ((1 : Int32))).toInt = ((sy_i F 83).toInt + 1) := nz_add (rfl : (sy_i F 83).toInt = (sy_i F 83).toInt) (by decide : ((1 : Int32)).toInt = 1) (by omega) (by omega)
  exact k1cu_70_p2 hd F X1 X2 hB (by first | exact ⟨by omega, by omega⟩ | (simp only [nz_c]; exact ⟨by omega, by omega⟩)) (by first | exact g0 | (simp only [nz_c]; exact g0) | (rw [n86]; exact g0)) (by first | exact ⟨by omega, by omega⟩ | (simp only [nz_c]; exact ⟨by omega, by omega⟩)) (by first | exact g1 | (simp only [nz_c]; exact g1) | (rw [n87]; exact g1)) (fun F1 g e82 e83 e84 e85 => k2 g0 g1 F1 (nz_in0 hB [] (fun j hj hn => g j hj (by simp only [List.mem_cons, List.not_mem_nil, or_false, not_or] at hn; exact trivial)) (List.forall_mem_nil _)) (fun j hj hn => g j hj (by simp only [List.mem_cons, List.not_mem_nil, or_false, not_or] at hn; exact trivial)) (nz_fa (g 39 (by decide) (by decide))) (nz_fa (g 40 (by decide) (by decide))) (nz_fl (g 41 (by decide) (by decide))) ((congrArg Int32.toInt (zz_i e82)).trans (rfl : (sy_i F 82).toInt = (sy_i F 82).toInt)) ((congrArg Int32.toInt (zz_i e83)).trans (rfl : (sy_i F 85).toInt = (sy_i F 85).toInt)) ((congrArg Int32.toInt (zz_i e84)).trans (by decide : ((1 : Int32)).toInt = 1)) ((congrArg Int32.toInt (zz_i e85)).trans n88))
