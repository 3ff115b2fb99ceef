/-! ===== what is told against the text, way by way: the class ===== -/
theorem j0ft_0_p0 {Ls : Nat} {xs : Nat → Int32} {d : Nat} {Q : Option Value → jm_h → Prop} (hd : 1 ≤ d) (F : Nat → sy_d) (X1 X2 : List jm_c) (hB : iv_in F iv_B0)
    (k : ∀ F1 : Nat → sy_d, (∀ j, j < 82 → True → F1 j = F j) → F1 82 = .inl (.int (sy_i F 82)) → F1 83 = .inl (.int ((0 : Int32))) → F1 84 = .inl (.int ((0 : Int32))) → hd_W Ls xs d jm_M71 Q (5, sy_dL F1 [some (.inl (.ref 70)), some (.inl (.ref 10)), some (.inr (.inl 82)), some (.inr (.inl 83)), some (.inr (.inl 84))], sy_dS F1 [], sy_dh F1 X1 X2 (iv_H 0), 0, 0)) :
    hd_W Ls xs d jm_M71 Q (0, sy_dL F [some (.inl (.ref 70)), some (.inl (.ref 10)), some (.inr (.inl 82)), none, none], sy_dS F [], sy_dh F X1 X2 (iv_H 0), 0, 0) := by
  refine hd_run (s := 0) (nv := 83) (pc := 5) (L := [some (.inl (.ref 70)), some (.inl (.ref 10)), some (.inr (.inl 82)), some (.inr (.inl 83)), some (.inr (.inl 84))]) (S := []) (uh := hd_ov (iv_id 0 iv_B0) []) (ul := [.inl (.inr (.inl 82)), .inl (.inl (.int 0)), .inl (.inl (.int 0))]) (f := true) (sp := [5]) (d0 := 0) (O := []) (T := []) (P := []) jm_ok71 (by decide +kernel) (by decide +kernel) hd F X1 X2 (fun F' hF hs => ?_)
  have b82 := hd_b (F := F) (F' := F') (k := 82) (hF 82 (by decide))
  have hB' : iv_in F' iv_B0 := iv_in_eq hB (fun j hj => hF j (Nat.lt_of_lt_of_le hj (by decide +kernel)))
  refine ⟨fun _ h => absurd h List.not_mem_nil, ?_⟩
  refine k _ ?_ ?_ ?_ ?_
  · exact fun j hj _ => (hd_keep hB' (Nat.lt_of_lt_of_le hj (by decide +kernel)) (by simp)).trans (hF j (Nat.lt_of_lt_of_le hj (by decide)))
  · exact hd_gi (x := .inr (.inl 82)) (by decide +kernel) b82
  · exact hd_gi (x := .inl (.int 0)) (by decide +kernel) rfl
  · exact hd_gi (x := .inl (.int 0)) (by decide +kernel) rfl
theorem j0ft_0 {Ls : Nat} {xs : Nat → Int32} {d : Nat} {Q : Option Value → jm_h → Prop} (hd : 1 ≤ d) (F : Nat → sy_d) (X1 X2 : List jm_c) (hB : iv_in F iv_B0)
    (k0 : ∀ F1 : Nat → sy_d, iv_in F1 iv_B0 → (∀ j, j < 82 → j ∉ ([] : List Nat) → F1 j = F j) → (sy_i F1 82).toInt = (sy_i F 82).toInt → sy_i F1 82 = sy_i F 82 → (sy_i F1 83).toInt = 0 → sy_i F1 83 = (0 : Int32) → (sy_i F1 84).toInt = 0 → sy_i F1 84 = (0 : Int32) → hd_W Ls xs d jm_M71 Q (5, sy_dL F1 [some (.inl (.ref 70)), some (.inl (.ref 10)), some (.inr (.inl 82)), some (.inr (.inl 83)), some (.inr (.inl 84))], sy_dS F1 [], sy_dh F1 X1 X2 (iv_H 0), 0, 0)) :
    hd_W Ls xs d jm_M71 Q (0, sy_dL F [some (.inl (.ref 70)), some (.inl (.ref 10)), some (.inr (.inl 82)), none, none], sy_dS F [], sy_dh F X1 X2 (iv_H 0), 0, 0) := by
  exact j0ft_0_p0 hd F X1 X2 hB  (fun F1 g e82 e83 e84 => k0 F1 (nz_in0 hB [] (fun j hj hn => g j hj (by simp only [List.mem_cons, List.not_mem_nil, or_false, not_or] at hn; exact trivial)) (List.forall_mem_nil _)) (fun j hj hn => g j hj (by simp only [List.mem_cons, List.not_mem_nil, or_false, not_or] at hn; exact trivial)) ((congrArg Int32.toInt (zz_i e82)).trans (rfl : (sy_i F 82).toInt = (sy_i F 82).toInt)) ((zz_i e82).trans (rfl : sy_i F 82 = sy_i F 82)) ((congrArg Int32.toInt (zz_i e83)).trans (by decide : ((0 : Int32)).toInt = 0)) ((zz_i e83).trans (rfl : (0 : Int32) = (0 : Int32))) ((congrArg Int32.toInt (zz_i e84)).trans (by decide : ((0 : Int32)).toInt = 0)) ((zz_i e84).trans (rfl : (0 : Int32) = (0 : Int32))))
theorem j0ft_5_p0 {Ls : Nat} {xs : Nat → Int32} {d : Nat} {Q : Option Value → jm_h → Prop} (hd : 2 ≤ d) (F : Nat → sy_d) (X1 X2 : List jm_c) (hB : iv_in F iv_B0)
    (h0 : (sy_i F 3).toInt ≤ (sy_i F 84).toInt)
    (k : ∀ F1 : Nat → sy_d, (∀ j, j < 82 → True → F1 j = F j) → Q (some (.int (sy_i F 83))) (sy_dh F1 X1 X2 (iv_H 0))) :
    hd_W Ls xs d jm_M71 Q (5, sy_dL F [some (.inl (.ref 70)), some (.inl (.ref 10)), some (.inr (.inl 82)), some (.inr (.inl 83)), some (.inr (.inl 84))], sy_dS F [], sy_dh F X1 X2 (iv_H 0), 0, 0) := by
  refine hd_ret (s := 0) (nv := 85) (v := some (.inr (.inl 83))) (uh := hd_ov (iv_id 0 iv_B0) []) (f := true) (sp := [5]) (d0 := 1) (O := [true]) (T := []) (P := [(4, .inr (.inl 3), .inr (.inl 84))]) jm_ok71 (by decide +kernel) (by decide +kernel) hd F X1 X2 (fun F' hF hs => ?_)
  have b3 := hd_b (F := F) (F' := F') (k := 3) (hF 3 (by decide))
  have b84 := hd_b (F := F) (F' := F') (k := 84) (hF 84 (by decide))
  have b83 := hd_b (F := F) (F' := F') (k := 83) (hF 83 (by decide))
  have hB' : iv_in F' iv_B0 := iv_in_eq hB (fun j hj => hF j (Nat.lt_of_lt_of_le hj (by decide +kernel)))
  have hk := k (sy_cm F' (hd_ov (iv_id 0 iv_B0) [] ++ [])) (fun j hj _ => (hd_keep hB' (Nat.lt_of_lt_of_le hj (by decide +kernel)) (by simp)).trans (hF j (Nat.lt_of_lt_of_le hj (by decide))))
  refine ⟨List.forall_mem_cons.mpr ⟨hd_p4 b3 b84 h0, fun _ h => absurd h List.not_mem_nil⟩, ?_⟩
  show Q (some (sy_dv F' (.inr (.inl 83)))) _
  rw [b83]
  exact hk
theorem j0ft_5_p1 {Ls : Nat} {xs : Nat → Int32} {d : Nat} {Q : Option Value → jm_h → Prop} (hd : 2 ≤ d) (F : Nat → sy_d) (X1 X2 : List jm_c) (hB : iv_in F iv_B0)
    (h0 : (sy_i F 84).toInt < (sy_i F 3).toInt)
    (h1 : 0 ≤ (sy_i F 84).toInt ∧ (sy_i F 84).toInt < 7)
    (h2 : 0 ≤ (sy_i F 82).toInt ∧ (sy_i F 82).toInt < 7)
    (h3 : ((sy_ai F 10).getD (sy_i F 84).toNatClampNeg 0).toInt ≠ ((sy_ai F 80).getD (sy_i F 82).toNatClampNeg 0).toInt)
    (k : ∀ F1 : Nat → sy_d, (∀ j, j < 82 → True → F1 j = F j) → F1 82 = .inl (.int (sy_i F 82)) → F1 83 = .inl (.int (sy_i F 83)) → F1 84 = .inl (.int ((sy_i F 84) + ((1 : Int32)))) → hd_W Ls xs d jm_M71 Q (5, sy_dL F1 [some (.inl (.ref 70)), some (.inl (.ref 10)), some (.inr (.inl 82)), some (.inr (.inl 83)), some (.inr (.inl 84))], sy_dS F1 [], sy_dh F1 X1 X2 (iv_H 0), 0, 0)) :
    hd_W Ls xs d jm_M71 Q (5, sy_dL F [some (.inl (.ref 70)), some (.inl (.ref 10)), some (.inr (.inl 82)), some (.inr (.inl 83)), some (.inr (.inl 84))], sy_dS F [], sy_dh F X1 X2 (iv_H 0), 0, 0) := by
  refine hd_run (s := 0) (nv := 85) (pc := 5) (L := [some (.inl (.ref 70)), some (.inl (.ref 10)), some (.inr (.inl 82)), some (.inr (.inl 83)), some (.inr (.inl 84))]) (S := []) (uh := hd_ov (iv_id 0 iv_B0) []) (ul := [.inl (.inr (.inl 82)), .inl (.inr (.inl 83)), .inl (.inr (.inl 87))]) (f := true) (sp := [5]) (d0 := 1) (O := [false, true]) (T := [(30, [.inr (.inl 84)], [.inr (.inl 10)]), (30, [.inr (.inl 82)], [.inr (.inl 80)]), (0, [.inr (.inl 84), .inl (.int 1)], [])]) (P := [(5, .inr (.inl 3), .inr (.inl 84)), (6, .inr (.inl 84), .inl (.ref 7)), (6, .inr (.inl 82), .inl (.ref 7)), (1, .inr (.inl 85), .inr (.inl 86))]) jm_ok71 (by decide +kernel) (by decide +kernel) hd F X1 X2 (fun F' hF hs => ?_)
  have b3 := hd_b (F := F) (F' := F') (k := 3) (hF 3 (by decide))
  have b84 := hd_b (F := F) (F' := F') (k := 84) (hF 84 (by decide))
  have b82 := hd_b (F := F) (F' := F') (k := 82) (hF 82 (by decide))
  have a10 := hd_ba (F := F) (F' := F') (k := 10) (hF 10 (by decide))
  have t85 : sy_dv F' (.inr (.inl 85)) = .int ((sy_ai F 10).getD (sy_i F 84).toNatClampNeg 0) := hd_rd (hs 0 _ rfl) b84 a10
  have a80 := hd_ba (F := F) (F' := F') (k := 80) (hF 80 (by decide))
  have t86 : sy_dv F' (.inr (.inl 86)) = .int ((sy_ai F 80).getD (sy_i F 82).toNatClampNeg 0) := hd_rd (hs 1 _ rfl) b82 a80
  have b83 := hd_b (F := F) (F' := F') (k := 83) (hF 83 (by decide))
  have t87 : sy_dv F' (.inr (.inl 87)) = .int ((sy_i F 84) + ((1 : Int32))) := hd_o (hs 2 _ rfl) b84 rfl rfl
  have hB' : iv_in F' iv_B0 := iv_in_eq hB (fun j hj => hF j (Nat.lt_of_lt_of_le hj (by decide +kernel)))
  refine ⟨List.forall_mem_cons.mpr ⟨hd_p5 b3 b84 h0, List.forall_mem_cons.mpr ⟨hd_pb b84 (by first | exact h1 | exact h1), List.forall_mem_cons.mpr ⟨hd_pb b82 (by first | exact h2 | exact h2), List.forall_mem_cons.mpr ⟨hd_p1 t85 t86 h3, fun _ h => absurd h List.not_mem_nil⟩⟩⟩⟩, ?_⟩
  refine k _ ?_ ?_ ?_ ?_
  · exact fun j hj _ => (hd_keep hB' (Nat.lt_of_lt_of_le hj (by decide +kernel)) (by simp)).trans (hF j (Nat.lt_of_lt_of_le hj (by decide)))
  · exact hd_gi (x := .inr (.inl 82)) (by decide +kernel) b82
  · exact hd_gi (x := .inr (.inl 83)) (by decide +kernel) b83
  · exact hd_gi (x := .inr (.inl 87)) (by decide +kernel) t87
theorem j0ft_5_p2 {Ls : Nat} {xs : Nat → Int32} {d : Nat} {Q : Option Value → jm_h → Prop} (hd : 2 ≤ d) (F : Nat → sy_d) (X1 X2 : List jm_c) (hB : iv_in F iv_B0)
    (h0 : (sy_i F 84).toInt < (sy_i F 3).toInt)
    (h1 : 0 ≤ (sy_i F 84).toInt ∧ (sy_i F 84).toInt < 7)
    (h2 : 0 ≤ (sy_i F 82).toInt ∧ (sy_i F 82).toInt < 7)
    (h3 : ((sy_ai F 10).getD (sy_i F 84).toNatClampNeg 0).toInt = ((sy_ai F 80).getD (sy_i F 82).toNatClampNeg 0).toInt)
    (h4 : 0 ≤ (sy_i F 84).toInt ∧ (sy_i F 84).toInt < 7)
    (h5 : 0 ≤ (sy_i F 82).toInt ∧ (sy_i F 82).toInt < 7)
    (h6 : ((sy_ai F 12).getD (sy_i F 84).toNatClampNeg 0).toInt ≠ ((sy_ai F 81).getD (sy_i F 82).toNatClampNeg 0).toInt)
    (k : ∀ F1 : Nat → sy_d, (∀ j, j < 82 → True → F1 j = F j) → F1 82 = .inl (.int (sy_i F 82)) → F1 83 = .inl (.int (sy_i F 83)) → F1 84 = .inl (.int ((sy_i F 84) + ((1 : Int32)))) → hd_W Ls xs d jm_M71 Q (5, sy_dL F1 [some (.inl (.ref 70)), some (.inl (.ref 10)), some (.inr (.inl 82)), some (.inr (.inl 83)), some (.inr (.inl 84))], sy_dS F1 [], sy_dh F1 X1 X2 (iv_H 0), 0, 0)) :
    hd_W Ls xs d jm_M71 Q (5, sy_dL F [some (.inl (.ref 70)), some (.inl (.ref 10)), some (.inr (.inl 82)), some (.inr (.inl 83)), some (.inr (.inl 84))], sy_dS F [], sy_dh F X1 X2 (iv_H 0), 0, 0) := by
  refine hd_run (s := 0) (nv := 85) (pc := 5) (L := [some (.inl (.ref 70)), some (.inl (.ref 10)), some (.inr (.inl 82)), some (.inr (.inl 83)), some (.inr (.inl 84))]) (S := []) (uh := hd_ov (iv_id 0 iv_B0) []) (ul := [.inl (.inr (.inl 82)), .inl (.inr (.inl 83)), .inl (.inr (.inl 89))]) (f := true) (sp := [5]) (d0 := 1) (O := [false, false, true]) (T := [(30, [.inr (.inl 84)], [.inr (.inl 10)]), (30, [.inr (.inl 82)], [.inr (.inl 80)]), (30, [.inr (.inl 84)], [.inr (.inl 12)]), (30, [.inr (.inl 82)], [.inr (.inl 81)]), (0, [.inr (.inl 84), .inl (.int 1)], [])]) (P := [(5, .inr (.inl 3), .inr (.inl 84)), (6, .inr (.inl 84), .inl (.ref 7)), (6, .inr (.inl 82), .inl (.ref 7)), (0, .inr (.inl 85), .inr (.inl 86)), (6, .inr (.inl 84), .inl (.ref 7)), (6, .inr (.inl 82), .inl (.ref 7)), (1, .inr (.inl 87), .inr (.inl 88))]) jm_ok71 (by decide +kernel) (by decide +kernel) hd F X1 X2 (fun F' hF hs => ?_)
  have b3 := hd_b (F := F) (F' := F') (k := 3) (hF 3 (by decide))
  have b84 := hd_b (F := F) (F' := F') (k := 84) (hF 84 (by decide))
  have b82 := hd_b (F := F) (F' := F') (k := 82) (hF 82 (by decide))
  have a10 := hd_ba (F := F) (F' := F') (k := 10) (hF 10 (by decide))
  have t85 : sy_dv F' (.inr (.inl 85)) = .int ((sy_ai F 10).getD (sy_i F 84).toNatClampNeg 0) := hd_rd (hs 0 _ rfl) b84 a10
  have a80 := hd_ba (F := F) (F' := F') (k := 80) (hF 80 (by decide))
  have t86 : sy_dv F' (.inr (.inl 86)) = .int ((sy_ai F 80).getD (sy_i F 82).toNatClampNeg 0) := hd_rd (hs 1 _ rfl) b82 a80
  have a12 := hd_ba (F := F) (F' := F') (k := 12) (hF 12 (by decide))
  have t87 : sy_dv F' (.inr (.inl 87)) = .int ((sy_ai F 12).getD (sy_i F 84).toNatClampNeg 0) := hd_rd (hs 2 _ rfl) b84 a12
  have a81 := hd_ba (F := F) (F' := F') (k := 81) (hF 81 (by decide))
  have t88 : sy_dv F' (.inr (.inl 88)) = .int ((sy_ai F 81).getD (sy_i F 82).toNatClampNeg 0) := hd_rd (hs 3 _ rfl) b82 a81
  have b83 := hd_b (F := F) (F' := F') (k := 83) (hF 83 (by decide))
  have t89 : sy_dv F' (.inr (.inl 89)) = .int ((sy_i F 84) + ((1 : Int32))) := hd_o (hs 4 _ rfl) b84 rfl rfl
  have hB' : iv_in F' iv_B0 := iv_in_eq hB (fun j hj => hF j (Nat.lt_of_lt_of_le hj (by decide +kernel)))
  refine ⟨List.forall_mem_cons.mpr ⟨hd_p5 b3 b84 h0, List.forall_mem_cons.mpr ⟨hd_pb b84 (by first | exact h1 | exact h1), List.forall_mem_cons.mpr ⟨hd_pb b82 (by first | exact h2 | exact h2), List.forall_mem_cons.mpr ⟨hd_p0 t85 t86 h3, List.forall_mem_cons.mpr ⟨hd_pb b84 (by first | exact h4 | exact h4), List.forall_mem_cons.mpr ⟨hd_pb b82 (by first | exact h5 | exact h5), List.forall_mem_cons.mpr ⟨hd_p1 t87 t88 h6, fun _ h => absurd h List.not_mem_nil⟩⟩⟩⟩⟩⟩⟩, ?_⟩
  refine k _ ?_ ?_ ?_ ?_
  · exact fun j hj _ => (hd_keep hB' (Nat.lt_of_lt_of_le hj (by decide +kernel)) (by simp)).trans (hF j (Nat.lt_of_lt_of_le hj (by decide)))
  · exact hd_gi (x := .inr (.inl 82)) (by decide +kernel) b82
  · exact hd_gi (x := .inr (.inl 83)) (by decide +kernel) b83
  · exact hd_gi (x := .inr (.inl 89)) (by decide +kernel) t89
theorem j0ft_5_p3 {Ls : Nat} {xs : Nat → Int32} {d : Nat} {Q : Option Value → jm_h → Prop} (hd : 2 ≤ d) (F : Nat → sy_d) (X1 X2 : List jm_c) (hB : iv_in F iv_B0)
    (h0 : (sy_i F 84).toInt < (sy_i F 3).toInt)
    (h1 : 0 ≤ (sy_i F 84).toInt ∧ (sy_i F 84).toInt < 7)
    (h2 : 0 ≤ (sy_i F 82).toInt ∧ (sy_i F 82).toInt < 7)
    (h3 : ((sy_ai F 10).getD (sy_i F 84).toNatClampNeg 0).toInt = ((sy_ai F 80).getD (sy_i F 82).toNatClampNeg 0).toInt)
    (h4 : 0 ≤ (sy_i F 84).toInt ∧ (sy_i F 84).toInt < 7)
    (h5 : 0 ≤ (sy_i F 82).toInt ∧ (sy_i F 82).toInt < 7)
    (h6 : ((sy_ai F 12).getD (sy_i F 84).toNatClampNeg 0).toInt = ((sy_ai F 81).getD (sy_i F 82).toNatClampNeg 0).toInt)
    (k : ∀ F1 : Nat → sy_d, (∀ j, j < 82 → True → F1 j = F j) → F1 82 = .inl (.int (sy_i F 82)) → F1 83 = .inl (.int ((sy_i F 83) + ((1 : Int32)))) → F1 84 = .inl (.int ((sy_i F 84) + ((1 : Int32)))) → hd_W Ls xs d jm_M71 Q (5, sy_dL F1 [some (.inl (.ref 70)), some (.inl (.ref 10)), some (.inr (.inl 82)), some (.inr (.inl 83)), some (.inr (.inl 84))], sy_dS F1 [], sy_dh F1 X1 X2 (iv_H 0), 0, 0)) :
    hd_W Ls xs d jm_M71 Q (5, sy_dL F [some (.inl (.ref 70)), some (.inl (.ref 10)), some (.inr (.inl 82)), some (.inr (.inl 83)), some (.inr (.inl 84))], sy_dS F [], sy_dh F X1 X2 (iv_H 0), 0, 0) := by
  refine hd_run (s := 0) (nv := 85) (pc := 5) (L := [some (.inl (.ref 70)), some (.inl (.ref 10)), some (.inr (.inl 82)), some (.inr (.inl 83)), some (.inr (.inl 84))]) (S := []) (uh := hd_ov (iv_id 0 iv_B0) []) (ul := [.inl (.inr (.inl 82)), .inl (.inr (.inl 89)), .inl (.inr (.inl 90))]) (f := true) (sp := [5]) (d0 := 1) (O := [false, false, false]) (T := [(30, [.inr (.inl 84)], [.inr (.inl 10)]), (30, [.inr (.inl 82)], [.inr (.inl 80)]), (30, [.inr (.inl 84)], [.inr (.inl 12)]), (30, [.inr (.inl 82)], [.inr (.inl 81)]), (0, [.inr (.inl 83), .inl (.int 1)], []), (0, [.inr (.inl 84), .inl (.int 1)], [])]) (P := [(5, .inr (.inl 3), .inr (.inl 84)), (6, .inr (.inl 84), .inl (.ref 7)), (6, .inr (.inl 82), .inl (.ref 7)), (0, .inr (.inl 85), .inr (.inl 86)), (6, .inr (.inl 84), .inl (.ref 7)), (6, .inr (.inl 82), .inl (.ref 7)), (0, .inr (.inl 87), .inr (.inl 88))]) jm_ok71 (by decide +kernel) (by decide +kernel) hd F X1 X2 (fun F' hF hs => ?_)
  have b3 := hd_b (F := F) (F' := F') (k := 3) (hF 3 (by decide))
  have b84 := hd_b (F := F) (F' := F') (k := 84) (hF 84 (by decide))
  have b82 := hd_b (F := F) (F' := F') (k := 82) (hF 82 (by decide))
  have a10 := hd_ba (F := F) (F' := F') (k := 10) (hF 10 (by decide))
  have t85 : sy_dv F' (.inr (.inl 85)) = .int ((sy_ai F 10).getD (sy_i F 84).toNatClampNeg 0) := hd_rd (hs 0 _ rfl) b84 a10
  have a80 := hd_ba (F := F) (F' := F') (k := 80) (hF 80 (by decide))
  have t86 : sy_dv F' (.inr (.inl 86)) = .int ((sy_ai F 80).getD (sy_i F 82).toNatClampNeg 0) := hd_rd (hs 1 _ rfl) b82 a80
  have a12 := hd_ba (F := F) (F' := F') (k := 12) (hF 12 (by decide))
  have t87 : sy_dv F' (.inr (.inl 87)) = .int ((sy_ai F 12).getD (sy_i F 84).toNatClampNeg 0) := hd_rd (hs 2 _ rfl) b84 a12
  have a81 := hd_ba (F := F) (F' := F') (k := 81) (hF 81 (by decide))
  have t88 : sy_dv F' (.inr (.inl 88)) = .int ((sy_ai F 81).getD (sy_i F 82).toNatClampNeg 0) := hd_rd (hs 3 _ rfl) b82 a81
  have b83 := hd_b (F := F) (F' := F') (k := 83) (hF 83 (by decide))
  have t89 : sy_dv F' (.inr (.inl 89)) = .int ((sy_i F 83) + ((1 : Int32))) := hd_o (hs 4 _ rfl) b83 rfl rfl
  have t90 : sy_dv F' (.inr (.inl 90)) = .int ((sy_i F 84) + ((1 : Int32))) := hd_o (hs 5 _ rfl) b84 rfl rfl
  have hB' : iv_in F' iv_B0 := iv_in_eq hB (fun j hj => hF j (Nat.lt_of_lt_of_le hj (by decide +kernel)))
  refine ⟨List.forall_mem_cons.mpr ⟨hd_p5 b3 b84 h0, List.forall_mem_cons.mpr ⟨hd_pb b84 (by first | exact h1 | exact h1), List.forall_mem_cons.mpr ⟨hd_pb b82 (by first | exact h2 | exact h2), List.forall_mem_cons.mpr ⟨hd_p0 t85 t86 h3, List.forall_mem_cons.mpr ⟨hd_pb b84 (by first | exact h4 | exact h4), List.forall_mem_cons.mpr ⟨hd_pb b82 (by first | exact h5 | exact h5), List.forall_mem_cons.mpr ⟨hd_p0 t87 t88 h6, fun _ h => absurd h List.not_mem_nil⟩⟩⟩⟩⟩⟩⟩, ?_⟩
  refine k _ ?_ ?_ ?_ ?_
  · exact fun j hj _ => (hd_keep hB' (Nat.lt_of_lt_of_le hj (by decide +kernel)) (by simp)).trans (hF j (Nat.lt_of_lt_of_le hj (by decide)))
  · exact hd_gi (x := .inr (.inl 82)) (by decide +kernel) b82
  · exact hd_gi (x := .inr (.inl 89)) (by decide +kernel) t89
  · exact hd_gi (x := .inr (.inl 90)) (by decide +kernel) t90
theorem j0ft_5 {Ls : Nat} {xs : Nat → Int32} {d : Nat} {Q : Option Value → jm_h → Prop} (hd : 2 ≤ d) (F : Nat → sy_d) (X1 X2 : List jm_c) (hB : iv_in F iv_B0)
    (a82 : 0 ≤ (sy_i F 82).toInt ∧ (sy_i F 82).toInt ≤ 6)
    (a83 : 0 ≤ (sy_i F 83).toInt ∧ (sy_i F 83).toInt ≤ 7)
    (a84 : 0 ≤ (sy_i F 84).toInt ∧ (sy_i F 84).toInt ≤ 7)
    (k0 : (sy_i F 3).toInt ≤ (sy_i F 84).toInt → ∀ F1 : Nat → sy_d, iv_in F1 iv_B0 → (∀ j, j < 82 → j ∉ ([] : List Nat) → F1 j = F j) → Q (some (.int (sy_i F 83))) (sy_dh F1 X1 X2 (iv_H 0)))
    (k1 : (sy_i F 84).toInt < (sy_i F 3).toInt → ((sy_ai F 10).getD ((sy_i F 84).toInt).toNat 0).toInt ≠ ((sy_ai F 80).getD ((sy_i F 82).toInt).toNat 0).toInt → ∀ F1 : Nat → sy_d, iv_in F1 iv_B0 → (∀ j, j < 82 → j ∉ ([] : List Nat) → F1 j = F j) → (sy_i F1 82).toInt = (sy_i F 82).toInt → sy_i F1 82 = sy_i F 82 → (sy_i F1 83).toInt = (sy_i F 83).toInt → sy_i F1 83 = sy_i F 83 → (sy_i F1 84).toInt = ((sy_i F 84).toInt + 1) → sy_i F1 84 = (sy_i F 84) + ((1 : Int32)) → hd_W Ls xs d jm_M71 Q (5, sy_dL F1 [some (.inl (.ref 70)), some (.inl (.ref 10)), some (.inr (.inl 82)), some (.inr (.inl 83)), some (.inr (.inl 84))], sy_dS F1 [], sy_dh F1 X1 X2 (iv_H 0), 0, 0))
    (k2 : (sy_i F 84).toInt < (sy_i F 3).toInt → ((sy_ai F 10).getD ((sy_i F 84).toInt).toNat 0).toInt = ((sy_ai F 80).getD ((sy_i F 82).toInt).toNat 0).toInt → ((sy_ai F 12).getD ((sy_i F 84).toInt).toNat 0).toInt ≠ ((sy_ai F 81).getD ((sy_i F 82).toInt).toNat 0).toInt → ∀ F1 : Nat → sy_d, iv_in F1 iv_B0 → (∀ j, j < 82 → j ∉ ([] : List Nat) → F1 j = F j) → (sy_i F1 82).toInt = (sy_i F 82).toInt → sy_i F1 82 = sy_i F 82 → (sy_i F1 83).toInt = (sy_i F 83).toInt → sy_i F1 83 = sy_i F 83 → (sy_i F1 84).toInt = ((sy_i F 84).toInt + 1) → sy_i F1 84 = (sy_i F 84) + ((1 : Int32)) → hd_W Ls xs d jm_M71 Q (5, sy_dL F1 [some (.inl (.ref 70)), some (.inl (.ref 10)), some (.inr (.inl 82)), some (.inr (.inl 83)), some (.inr (.inl 84))], sy_dS F1 [], sy_dh F1 X1 X2 (iv_H 0), 0, 0))
    (k3 : (sy_i F 84).toInt < (sy_i F 3).toInt → ((sy_ai F 10).getD ((sy_i F 84).toInt).toNat 0).toInt = ((sy_ai F 80).getD ((sy_i F 82).toInt).toNat 0).toInt → ((sy_ai F 12).getD ((sy_i F 84).toInt).toNat 0).toInt = ((sy_ai F 81).getD ((sy_i F 82).toInt).toNat 0).toInt → ∀ F1 : Nat → sy_d, iv_in F1 iv_B0 → (∀ j, j < 82 → j ∉ ([] : List Nat) → F1 j = F j) → (sy_i F1 82).toInt = (sy_i F 82).toInt → sy_i F1 82 = sy_i F 82 → (sy_i F1 83).toInt = ((sy_i F 83).toInt + 1) → sy_i F1 83 = (sy_i F 83) + ((1 : Int32)) → (sy_i F1 84).toInt = ((sy_i F 84).toInt + 1) → sy_i F1 84 = (sy_i F 84) + ((1 : Int32)) → hd_W Ls xs d jm_M71 Q (5, sy_dL F1 [some (.inl (.ref 70)), some (.inl (.ref 10)), some (.inr (.inl 82)), some (.inr (.inl 83)), some (.inr (.inl 84))], sy_dS F1 [], sy_dh F1 X1 X2 (iv_H 0), 0, 0)) :
    hd_W Ls xs d jm_M71 Q (5, sy_dL F [some (.inl (.ref 70)), some (.inl (.ref 10)), some (.inr (.inl 82)), some (.inr (.inl 83)), some (.inr (.inl 84))], sy_dS F [], sy_dh F X1 X2 (iv_H 0), 0, 0) := by
  by_cases g0 : (sy_i F 3).toInt ≤ (sy_i F 84).toInt
  · have c3 := nz_bx hB (k := 3) (lo := 0) (hi := 7) rfl
    exact j0ft_5_p0 hd F X1 X2 hB (by first | exact g0 | (simp only [nz_c]; exact g0)) (fun F1 g  => by rw [(rfl : sy_i F 83 = sy_i F 83)]; exact k0 g0 F1 (nz_in0 hB [] (fun j hj hn => g j hj (by simp only [List.mem_cons, List.not_mem_nil, or_false, not_or] at hn; exact trivial)) (List.forall_mem_nil _)) (fun j hj hn => g j hj (by simp only [List.mem_cons, List.not_mem_nil, or_false, not_or] at hn; exact trivial)) )
  replace g0 : (sy_i F 84).toInt < (sy_i F 3).toInt := by omega
  by_cases g1 : ((sy_ai F 10).getD ((sy_i F 84).toInt).toNat 0).toInt ≠ ((sy_ai F 80).getD ((sy_i F 82).toInt).toNat 0).toInt
  · have c3 := nz_bx hB (k := 3) (lo := 0) (hi := 7) rfl
    have q85 : (sy_ai F 10).getD (sy_i F 84).toNatClampNeg 0 = (sy_ai F 10).getD ((sy_i F 84).toInt).toNat 0 := by simp only [nz_c]
    have n85 : nzI ((sy_ai F 10).getD (sy_i F 84).toNatClampNeg 0) (((sy_ai F 10).getD ((sy_i F 84).toInt).toNat 0).toInt) := congrArg Int32.toInt q85
    have q86 : (sy_ai F 80).getD (sy_i F 82).toNatClampNeg 0 = (sy_ai F 80).getD ((sy_i F 82).toInt).toNat 0 := by simp only [nz_c]
    have n86 : nzI ((sy_ai F 80).getD (sy_i F 82).toNatClampNeg 0) (((sy_ai F 80).getD ((sy_i F 82).toInt).toNat 0).toInt) := congrArg Int32.toInt q86
    have n87 : nzI ((sy_i F 84) + ((1 : Int32))) (((sy_i F 84).toInt + 1)) := nz_add (rfl : (sy_i F 84).toInt = (sy_i F 84).toInt) (by decide : ((1 : Int32)).toInt = 1) (by omega) (by omega)
    exact j0ft_5_p1 hd F X1 X2 hB (by first | exact g0 | (simp only [nz_c]; exact g0)) (by first | exact ⟨by omega, by omega⟩ | (simp only [nz_c]; exact ⟨by omega, by omega⟩)) (by first | exact ⟨by omega, by omega⟩ | (simp only [nz_c]; exact ⟨by omega, by omega⟩)) (by first | exact g1 | (simp only [nz_c]; exact g1) | (rw [(nzE n85)]; exact g1) | (rw [(nzE n86)]; exact g1) | (rw [(nzE n85), (nzE n86)]; exact g1)) (fun F1 g e82 e83 e84 => k1 g0 g1 F1 (nz_in0 hB [] (fun j hj hn => g j hj (by simp only [List.mem_cons, List.not_mem_nil, or_false, not_or] at hn; exact trivial)) (List.forall_mem_nil _)) (fun j hj hn => g j hj (by simp only [List.mem_cons, List.not_mem_nil, or_false, not_or] at hn; exact trivial)) ((congrArg Int32.toInt (zz_i e82)).trans (rfl : (sy_i F 82).toInt = (sy_i F 82).toInt)) ((zz_i e82).trans (rfl : sy_i F 82 = sy_i F 82)) ((congrArg Int32.toInt (zz_i e83)).trans (rfl : (sy_i F 83).toInt = (sy_i F 83).toInt)) ((zz_i e83).trans (rfl : sy_i F 83 = sy_i F 83)) ((congrArg Int32.toInt (zz_i e84)).trans (nzE n87)) ((zz_i e84).trans (rfl : (sy_i F 84) + ((1 : Int32)) = (sy_i F 84) + ((1 : Int32)))))
  replace g1 : ((sy_ai F 10).getD ((sy_i F 84).toInt).toNat 0).toInt = ((sy_ai F 80).getD ((sy_i F 82).toInt).toNat 0).toInt := by omega
  by_cases g2 : ((sy_ai F 12).getD ((sy_i F 84).toInt).toNat 0).toInt ≠ ((sy_ai F 81).getD ((sy_i F 82).toInt).toNat 0).toInt
  · have c3 := nz_bx hB (k := 3) (lo := 0) (hi := 7) rfl
    have q85 : (sy_ai F 10).getD (sy_i F 84).toNatClampNeg 0 = (sy_ai F 10).getD ((sy_i F 84).toInt).toNat 0 := by simp only [nz_c]
    have n85 : nzI ((sy_ai F 10).getD (sy_i F 84).toNatClampNeg 0) (((sy_ai F 10).getD ((sy_i F 84).toInt).toNat 0).toInt) := congrArg Int32.toInt q85
    have q86 : (sy_ai F 80).getD (sy_i F 82).toNatClampNeg 0 = (sy_ai F 80).getD ((sy_i F 82).toInt).toNat 0 := by simp only [nz_c]
    have n86 : nzI ((sy_ai F 80).getD (sy_i F 82).toNatClampNeg 0) (((sy_ai F 80).getD ((sy_i F 82).toInt).toNat 0).toInt) := congrArg Int32.toInt q86
    have q87 : (sy_ai F 12).getD (sy_i F 84).toNatClampNeg 0 = (sy_ai F 12).getD ((sy_i F 84).toInt).toNat 0 := by simp only [nz_c]
    have n87 : nzI ((sy_ai F 12).getD (sy_i F 84).toNatClampNeg 0) (((sy_ai F 12).getD ((sy_i F 84).toInt).toNat 0).toInt) := congrArg Int32.toInt q87
    have q88 : (sy_ai F 81).getD (sy_i F 82).toNatClampNeg 0 = (sy_ai F 81).getD ((sy_i F 82).toInt).toNat 0 := by simp only [nz_c]
    have n88 : nzI ((sy_ai F 81).getD (sy_i F 82).toNatClampNeg 0) (((sy_ai F 81).getD ((sy_i F 82).toInt).toNat 0).toInt) := congrArg Int32.toInt q88
    have n89 : nzI ((sy_i F 84) + ((1 : Int32))) (((sy_i F 84).toInt + 1)) := nz_add (rfl : (sy_i F 84).toInt = (sy_i F 84).toInt) (by decide : ((1 : Int32)).toInt = 1) (by omega) (by omega)
    exact j0ft_5_p2 hd F X1 X2 hB (by first | exact g0 | (simp only [nz_c]; exact g0)) (by first | exact ⟨by omega, by omega⟩ | (simp only [nz_c]; exact ⟨by omega, by omega⟩)) (by first | exact ⟨by omega, by omega⟩ | (simp only [nz_c]; exact ⟨by omega, by omega⟩)) (by first | exact g1 | (simp only [nz_c]; exact g1) | (rw [(nzE n85)]; exact g1) | (rw [(nzE n86)]; exact g1) | (rw [(nzE n85), (nzE n86)]; exact g1)) (by first | exact ⟨by omega, by omega⟩ | (simp only [nz_c]; exact ⟨by omega, by omega⟩)) (by first | exact ⟨by omega, by omega⟩ | (simp only [nz_c]; exact ⟨by omega, by omega⟩)) (by first | exact g2 | (simp only [nz_c]; exact g2) | (rw [(nzE n87)]; exact g2) | (rw [(nzE n88)]; exact g2) | (rw [(nzE n87), (nzE n88)]; exact g2)) (fun F1 g e82 e83 e84 => k2 g0 g1 g2 F1 (nz_in0 hB [] (fun j hj hn => g j hj (by simp only [List.mem_cons, List.not_mem_nil, or_false, not_or] at hn; exact trivial)) (List.forall_mem_nil _)) (fun j hj hn => g j hj (by simp only [List.mem_cons, List.not_mem_nil, or_false, not_or] at hn; exact trivial)) ((congrArg Int32.toInt (zz_i e82)).trans (rfl : (sy_i F 82).toInt = (sy_i F 82).toInt)) ((zz_i e82).trans (rfl : sy_i F 82 = sy_i F 82)) ((congrArg Int32.toInt (zz_i e83)).trans (rfl : (sy_i F 83).toInt = (sy_i F 83).toInt)) ((zz_i e83).trans (rfl : sy_i F 83 = sy_i F 83)) ((congrArg Int32.toInt (zz_i e84)).trans (nzE n89)) ((zz_i e84).trans (rfl : (sy_i F 84) + ((1 : Int32)) = (sy_i F 84) + ((1 : Int32)))))
  replace g2 : ((sy_ai F 12).getD ((sy_i F 84).toInt).toNat 0).toInt = ((sy_ai F 81).getD ((sy_i F 82).toInt).toNat 0).toInt := by omega
  have c3 := nz_bx hB (k := 3) (lo := 0) (hi := 7) rfl
  have q85 : (sy_ai F 10).getD (sy_i F 84).toNatClampNeg 0 = (sy_ai F 10).getD ((sy_i F 84).toInt).toNat 0 := by simp only [nz_c]
  have n85 : nzI ((sy_ai F 10).getD (sy_i F 84).toNatClampNeg 0) (((sy_ai F 10).getD ((sy_i F 84).toInt).toNat 0).toInt) := congrArg Int32.toInt q85
  have q86 : (sy_ai F 80).getD (sy_i F 82).toNatClampNeg 0 = (sy_ai F 80).getD ((sy_i F 82).toInt).toNat 0 := by simp only [nz_c]
  have n86 : nzI ((sy_ai F 80).getD (sy_i F 82).toNatClampNeg 0) (((sy_ai F 80).getD ((sy_i F 82).toInt).toNat 0).toInt) := congrArg Int32.toInt q86
  have q87 : (sy_ai F 12).getD (sy_i F 84).toNatClampNeg 0 = (sy_ai F 12).getD ((sy_i F 84).toInt).toNat 0 := by simp only [nz_c]
  have n87 : nzI ((sy_ai F 12).getD (sy_i F 84).toNatClampNeg 0) (((sy_ai F 12).getD ((sy_i F 84).toInt).toNat 0).toInt) := congrArg Int32.toInt q87
  have q88 : (sy_ai F 81).getD (sy_i F 82).toNatClampNeg 0 = (sy_ai F 81).getD ((sy_i F 82).toInt).toNat 0 := by simp only [nz_c]
  have n88 : nzI ((sy_ai F 81).getD (sy_i F 82).toNatClampNeg 0) (((sy_ai F 81).getD ((sy_i F 82).toInt).toNat 0).toInt) := congrArg Int32.toInt q88
  have n89 : nzI ((sy_i F 83) + ((1 : Int32))) (((sy_i F 83).toInt + 1)) := nz_add (rfl : (sy_i F 83).toInt = (sy_i F 83).toInt) (by decide : ((1 : Int32)).toInt = 1) (by omega) (by omega)
  have n90 : nzI ((sy_i F 84) + ((1 : Int32))) (((sy_i F 84).toInt + 1)) := nz_add (rfl : (sy_i F 84).toInt = (sy_i F 84).toInt) (by decide : ((1 : Int32)).toInt = 1) (by omega) (by omega)
  exact j0ft_5_p3 hd F X1 X2 hB (by first | exact g0 | (simp only [nz_c]; exact g0)) (by first | exact ⟨by omega, by omega⟩ | (simp only [nz_c]; exact ⟨by omega, by omega⟩)) (by first | exact ⟨by omega, by omega⟩ | (simp only [nz_c]; exact ⟨by omega, by omega⟩)) (by first | exact g1 | (simp only [nz_c]; exact g1) | (rw [(nzE n85)]; exact g1) | (rw [(nzE n86)]; exact g1) | (rw [(nzE n85), (nzE n86)]; exact g1)) (by first | exact ⟨by omega, by omega⟩ | (simp only [nz_c]; exact ⟨by omega, by omega⟩)) (by first | exact ⟨by omega, by omega⟩ | (simp only [nz_c]; exact ⟨by omega, by omega⟩)) (by first | exact g2 | (simp only [nz_c]; exact g2) | (rw [(nzE n87)]; exact g2) | (rw [(nzE n88)]; exact g2) | (rw [(nzE n87), (nzE n88)]; exact g2)) (fun F1 g e82 e83 e84 => k3 g0 g1 g2 F1 (nz_in0 hB [] (fun j hj hn => g j hj (by simp only [List.mem_cons, List.not_mem_nil, or_false, not_or] at hn; exact trivial)) (List.forall_mem_nil _)) (fun j hj hn => g j hj (by simp only [List.mem_cons, List.not_mem_nil, or_false, not_or] at hn; exact trivial)) ((congrArg Int32.toInt (zz_i e82)).trans (rfl : (sy_i F 82).toInt = (sy_i F 82).toInt)) ((zz_i e82).trans (rfl : sy_i F 82 = sy_i F 82)) ((congrArg Int32.toInt (zz_i e83)).trans (nzE n89)) ((zz_i e83).trans (rfl : (sy_i F 83) + ((1 : Int32)) = (sy_i F 83) + ((1 : Int32)))) ((congrArg Int32.toInt (zz_i e84)).trans (nzE n90)) ((zz_i e84).trans (rfl : (sy_i F 84) + ((1 : Int32)) = (sy_i F 84) + ((1 : Int32)))))
theorem j0ff_0_p0 {Ls : Nat} {xs : Nat → Int32} {d : Nat} {Q : Option Value → jm_h → Prop} (hd : 1 ≤ d) (F : Nat → sy_d) (X1 X2 : List jm_c) (hB : iv_in F iv_B0)
    (k : ∀ F1 : Nat → sy_d, (∀ j, j < 82 → True → F1 j = F j) → F1 82 = .inl (.int (sy_i F 82)) → F1 83 = .inl (.int ((0 : Int32))) → hd_W Ls xs d jm_M72 Q (2, sy_dL F1 [some (.inl (.ref 70)), some (.inl (.ref 10)), some (.inr (.inl 82)), some (.inr (.inl 83))], sy_dS F1 [], sy_dh F1 X1 X2 (iv_H 0), 0, 0)) :
    hd_W Ls xs d jm_M72 Q (0, sy_dL F [some (.inl (.ref 70)), some (.inl (.ref 10)), some (.inr (.inl 82)), none], sy_dS F [], sy_dh F X1 X2 (iv_H 0), 0, 0) := by
  refine hd_run (s := 0) (nv := 83) (pc := 2) (L := [some (.inl (.ref 70)), some (.inl (.ref 10)), some (.inr (.inl 82)), some (.inr (.inl 83))]) (S := []) (uh := hd_ov (iv_id 0 iv_B0) []) (ul := [.inl (.inr (.inl 82)), .inl (.inl (.int 0))]) (f := true) (sp := [2]) (d0 := 0) (O := []) (T := []) (P := []) jm_ok72 (by decide +kernel) (by decide +kernel) hd F X1 X2 (fun F' hF hs => ?_)
  have b82 := hd_b (F := F) (F' := F') (k := 82) (hF 82 (by decide))
  have hB' : iv_in F' iv_B0 := iv_in_eq hB (fun j hj => hF j (Nat.lt_of_lt_of_le hj (by decide +kernel)))
  refine ⟨fun _ h => absurd h List.not_mem_nil, ?_⟩
  refine k _ ?_ ?_ ?_
  · exact fun j hj _ => (hd_keep hB' (Nat.lt_of_lt_of_le hj (by decide +kernel)) (by simp)).trans (hF j (Nat.lt_of_lt_of_le hj (by decide)))
  · exact hd_gi (x := .inr (.inl 82)) (by decide +kernel) b82
  · exact hd_gi (x := .inl (.int 0)) (by decide +kernel) rfl
theorem j0ff_0 {Ls : Nat} {xs : Nat → Int32} {d : Nat} {Q : Option Value → jm_h → Prop} (hd : 1 ≤ d) (F : Nat → sy_d) (X1 X2 : List jm_c) (hB : iv_in F iv_B0)
    (k0 : ∀ F1 : Nat → sy_d, iv_in F1 iv_B0 → (∀ j, j < 82 → j ∉ ([] : List Nat) → F1 j = F j) → (sy_i F1 82).toInt = (sy_i F 82).toInt → sy_i F1 82 = sy_i F 82 → (sy_i F1 83).toInt = 0 → sy_i F1 83 = (0 : Int32) → hd_W Ls xs d jm_M72 Q (2, sy_dL F1 [some (.inl (.ref 70)), some (.inl (.ref 10)), some (.inr (.inl 82)), some (.inr (.inl 83))], sy_dS F1 [], sy_dh F1 X1 X2 (iv_H 0), 0, 0)) :
    hd_W Ls xs d jm_M72 Q (0, sy_dL F [some (.inl (.ref 70)), some (.inl (.ref 10)), some (.inr (.inl 82)), none], sy_dS F [], sy_dh F X1 X2 (iv_H 0), 0, 0) := by
  exact j0ff_0_p0 hd F X1 X2 hB  (fun F1 g e82 e83 => k0 F1 (nz_in0 hB [] (fun j hj hn => g j hj (by simp only [List.mem_cons, List.not_mem_nil, or_false, not_or] at hn; exact trivial)) (List.forall_mem_nil _)) (fun j hj hn => g j hj (by simp only [List.mem_cons, List.not_mem_nil, or_false, not_or] at hn; exact trivial)) ((congrArg Int32.toInt (zz_i e82)).trans (rfl : (sy_i F 82).toInt = (sy_i F 82).toInt)) ((zz_i e82).trans (rfl : sy_i F 82 = sy_i F 82)) ((congrArg Int32.toInt (zz_i e83)).trans (by decide : ((0 : Int32)).toInt = 0)) ((zz_i e83).trans (rfl : (0 : Int32) = (0 : Int32))))
theorem j0ff_2_p0 {Ls : Nat} {xs : Nat → Int32} {d : Nat} {Q : Option Value → jm_h → Prop} (hd : 2 ≤ d) (F : Nat → sy_d) (X1 X2 : List jm_c) (hB : iv_in F iv_B0)
    (h0 : (sy_i F 3).toInt ≤ (sy_i F 83).toInt)
    (k : ∀ F1 : Nat → sy_d, (∀ j, j < 82 → True → F1 j = F j) → Q (some (.int (((-2) : Int32)))) (sy_dh F1 X1 X2 (iv_H 0))) :
    hd_W Ls xs d jm_M72 Q (2, sy_dL F [some (.inl (.ref 70)), some (.inl (.ref 10)), some (.inr (.inl 82)), some (.inr (.inl 83))], sy_dS F [], sy_dh F X1 X2 (iv_H 0), 0, 0) := by
  refine hd_ret (s := 0) (nv := 84) (v := some (.inl (.int (-2)))) (uh := hd_ov (iv_id 0 iv_B0) []) (f := true) (sp := [2]) (d0 := 1) (O := [true]) (T := []) (P := [(4, .inr (.inl 3), .inr (.inl 83))]) jm_ok72 (by decide +kernel) (by decide +kernel) hd F X1 X2 (fun F' hF hs => ?_)
  have b3 := hd_b (F := F) (F' := F') (k := 3) (hF 3 (by decide))
  have b83 := hd_b (F := F) (F' := F') (k := 83) (hF 83 (by decide))
  have hB' : iv_in F' iv_B0 := iv_in_eq hB (fun j hj => hF j (Nat.lt_of_lt_of_le hj (by decide +kernel)))
  refine ⟨List.forall_mem_cons.mpr ⟨hd_p4 b3 b83 h0, fun _ h => absurd h List.not_mem_nil⟩, ?_⟩
  refine k _ ?_
  · exact fun j hj _ => (hd_keep hB' (Nat.lt_of_lt_of_le hj (by decide +kernel)) (by simp)).trans (hF j (Nat.lt_of_lt_of_le hj (by decide)))
theorem j0ff_2_p1 {Ls : Nat} {xs : Nat → Int32} {d : Nat} {Q : Option Value → jm_h → Prop} (hd : 2 ≤ d) (F : Nat → sy_d) (X1 X2 : List jm_c) (hB : iv_in F iv_B0)
    (h0 : (sy_i F 83).toInt < (sy_i F 3).toInt)
    (h1 : 0 ≤ (sy_i F 83).toInt ∧ (sy_i F 83).toInt < 7)
    (h2 : 0 ≤ (sy_i F 82).toInt ∧ (sy_i F 82).toInt < 7)
    (h3 : ((sy_ai F 10).getD (sy_i F 83).toNatClampNeg 0).toInt ≠ ((sy_ai F 80).getD (sy_i F 82).toNatClampNeg 0).toInt)
    (k : ∀ F1 : Nat → sy_d, (∀ j, j < 82 → True → F1 j = F j) → F1 82 = .inl (.int (sy_i F 82)) → F1 83 = .inl (.int ((sy_i F 83) + ((1 : Int32)))) → hd_W Ls xs d jm_M72 Q (2, sy_dL F1 [some (.inl (.ref 70)), some (.inl (.ref 10)), some (.inr (.inl 82)), some (.inr (.inl 83))], sy_dS F1 [], sy_dh F1 X1 X2 (iv_H 0), 0, 0)) :
    hd_W Ls xs d jm_M72 Q (2, sy_dL F [some (.inl (.ref 70)), some (.inl (.ref 10)), some (.inr (.inl 82)), some (.inr (.inl 83))], sy_dS F [], sy_dh F X1 X2 (iv_H 0), 0, 0) := by
  refine hd_run (s := 0) (nv := 84) (pc := 2) (L := [some (.inl (.ref 70)), some (.inl (.ref 10)), some (.inr (.inl 82)), some (.inr (.inl 83))]) (S := []) (uh := hd_ov (iv_id 0 iv_B0) []) (ul := [.inl (.inr (.inl 82)), .inl (.inr (.inl 86))]) (f := true) (sp := [2]) (d0 := 1) (O := [false, true]) (T := [(30, [.inr (.inl 83)], [.inr (.inl 10)]), (30, [.inr (.inl 82)], [.inr (.inl 80)]), (0, [.inr (.inl 83), .inl (.int 1)], [])]) (P := [(5, .inr (.inl 3), .inr (.inl 83)), (6, .inr (.inl 83), .inl (.ref 7)), (6, .inr (.inl 82), .inl (.ref 7)), (1, .inr (.inl 84), .inr (.inl 85))]) jm_ok72 (by decide +kernel) (by decide +kernel) hd F X1 X2 (fun F' hF hs => ?_)
  have b3 := hd_b (F := F) (F' := F') (k := 3) (hF 3 (by decide))
  have b83 := hd_b (F := F) (F' := F') (k := 83) (hF 83 (by decide))
  have b82 := hd_b (F := F) (F' := F') (k := 82) (hF 82 (by decide))
  have a10 := hd_ba (F := F) (F' := F') (k := 10) (hF 10 (by decide))
  have t84 : sy_dv F' (.inr (.inl 84)) = .int ((sy_ai F 10).getD (sy_i F 83).toNatClampNeg 0) := hd_rd (hs 0 _ rfl) b83 a10
  have a80 := hd_ba (F := F) (F' := F') (k := 80) (hF 80 (by decide))
  have t85 : sy_dv F' (.inr (.inl 85)) = .int ((sy_ai F 80).getD (sy_i F 82).toNatClampNeg 0) := hd_rd (hs 1 _ rfl) b82 a80
  have t86 : sy_dv F' (.inr (.inl 86)) = .int ((sy_i F 83) + ((1 : Int32))) := hd_o (hs 2 _ rfl) b83 rfl rfl
  have hB' : iv_in F' iv_B0 := iv_in_eq hB (fun j hj => hF j (Nat.lt_of_lt_of_le hj (by decide +kernel)))
  refine ⟨List.forall_mem_cons.mpr ⟨hd_p5 b3 b83 h0, List.forall_mem_cons.mpr ⟨hd_pb b83 (by first | exact h1 | exact h1), List.forall_mem_cons.mpr ⟨hd_pb b82 (by first | exact h2 | exact h2), List.forall_mem_cons.mpr ⟨hd_p1 t84 t85 h3, fun _ h => absurd h List.not_mem_nil⟩⟩⟩⟩, ?_⟩
  refine k _ ?_ ?_ ?_
  · exact fun j hj _ => (hd_keep hB' (Nat.lt_of_lt_of_le hj (by decide +kernel)) (by simp)).trans (hF j (Nat.lt_of_lt_of_le hj (by decide)))
  · exact hd_gi (x := .inr (.inl 82)) (by decide +kernel) b82
  · exact hd_gi (x := .inr (.inl 86)) (by decide +kernel) t86
theorem j0ff_2_p2 {Ls : Nat} {xs : Nat → Int32} {d : Nat} {Q : Option Value → jm_h → Prop} (hd : 2 ≤ d) (F : Nat → sy_d) (X1 X2 : List jm_c) (hB : iv_in F iv_B0)
    (h0 : (sy_i F 83).toInt < (sy_i F 3).toInt)
    (h1 : 0 ≤ (sy_i F 83).toInt ∧ (sy_i F 83).toInt < 7)
    (h2 : 0 ≤ (sy_i F 82).toInt ∧ (sy_i F 82).toInt < 7)
    (h3 : ((sy_ai F 10).getD (sy_i F 83).toNatClampNeg 0).toInt = ((sy_ai F 80).getD (sy_i F 82).toNatClampNeg 0).toInt)
    (h4 : 0 ≤ (sy_i F 83).toInt ∧ (sy_i F 83).toInt < 7)
    (h5 : 0 ≤ (sy_i F 82).toInt ∧ (sy_i F 82).toInt < 7)
    (h6 : ((sy_ai F 12).getD (sy_i F 83).toNatClampNeg 0).toInt ≠ ((sy_ai F 81).getD (sy_i F 82).toNatClampNeg 0).toInt)
    (k : ∀ F1 : Nat → sy_d, (∀ j, j < 82 → True → F1 j = F j) → F1 82 = .inl (.int (sy_i F 82)) → F1 83 = .inl (.int ((sy_i F 83) + ((1 : Int32)))) → hd_W Ls xs d jm_M72 Q (2, sy_dL F1 [some (.inl (.ref 70)), some (.inl (.ref 10)), some (.inr (.inl 82)), some (.inr (.inl 83))], sy_dS F1 [], sy_dh F1 X1 X2 (iv_H 0), 0, 0)) :
    hd_W Ls xs d jm_M72 Q (2, sy_dL F [some (.inl (.ref 70)), some (.inl (.ref 10)), some (.inr (.inl 82)), some (.inr (.inl 83))], sy_dS F [], sy_dh F X1 X2 (iv_H 0), 0, 0) := by
  refine hd_run (s := 0) (nv := 84) (pc := 2) (L := [some (.inl (.ref 70)), some (.inl (.ref 10)), some (.inr (.inl 82)), some (.inr (.inl 83))]) (S := []) (uh := hd_ov (iv_id 0 iv_B0) []) (ul := [.inl (.inr (.inl 82)), .inl (.inr (.inl 88))]) (f := true) (sp := [2]) (d0 := 1) (O := [false, false, true]) (T := [(30, [.inr (.inl 83)], [.inr (.inl 10)]), (30, [.inr (.inl 82)], [.inr (.inl 80)]), (30, [.inr (.inl 83)], [.inr (.inl 12)]), (30, [.inr (.inl 82)], [.inr (.inl 81)]), (0, [.inr (.inl 83), .inl (.int 1)], [])]) (P := [(5, .inr (.inl 3), .inr (.inl 83)), (6, .inr (.inl 83), .inl (.ref 7)), (6, .inr (.inl 82), .inl (.ref 7)), (0, .inr (.inl 84), .inr (.inl 85)), (6, .inr (.inl 83), .inl (.ref 7)), (6, .inr (.inl 82), .inl (.ref 7)), (1, .inr (.inl 86), .inr (.inl 87))]) jm_ok72 (by decide +kernel) (by decide +kernel) hd F X1 X2 (fun F' hF hs => ?_)
  have b3 := hd_b (F := F) (F' := F') (k := 3) (hF 3 (by decide))
  have b83 := hd_b (F := F) (F' := F') (k := 83) (hF 83 (by decide))
  have b82 := hd_b (F := F) (F' := F') (k := 82) (hF 82 (by decide))
  have a10 := hd_ba (F := F) (F' := F') (k := 10) (hF 10 (by decide))
  have t84 : sy_dv F' (.inr (.inl 84)) = .int ((sy_ai F 10).getD (sy_i F 83).toNatClampNeg 0) := hd_rd (hs 0 _ rfl) b83 a10
  have a80 := hd_ba (F := F) (F' := F') (k := 80) (hF 80 (by decide))
  have t85 : sy_dv F' (.inr (.inl 85)) = .int ((sy_ai F 80).getD (sy_i F 82).toNatClampNeg 0) := hd_rd (hs 1 _ rfl) b82 a80
  have a12 := hd_ba (F := F) (F' := F') (k := 12) (hF 12 (by decide))
  have t86 : sy_dv F' (.inr (.inl 86)) = .int ((sy_ai F 12).getD (sy_i F 83).toNatClampNeg 0) := hd_rd (hs 2 _ rfl) b83 a12
  have a81 := hd_ba (F := F) (F' := F') (k := 81) (hF 81 (by decide))
  have t87 : sy_dv F' (.inr (.inl 87)) = .int ((sy_ai F 81).getD (sy_i F 82).toNatClampNeg 0) := hd_rd (hs 3 _ rfl) b82 a81
  have t88 : sy_dv F' (.inr (.inl 88)) = .int ((sy_i F 83) + ((1 : Int32))) := hd_o (hs 4 _ rfl) b83 rfl rfl
  have hB' : iv_in F' iv_B0 := iv_in_eq hB (fun j hj => hF j (Nat.lt_of_lt_of_le hj (by decide +kernel)))
  refine ⟨List.forall_mem_cons.mpr ⟨hd_p5 b3 b83 h0, List.forall_mem_cons.mpr ⟨hd_pb b83 (by first | exact h1 | exact h1), List.forall_mem_cons.mpr ⟨hd_pb b82 (by first | exact h2 | exact h2), List.forall_mem_cons.mpr ⟨hd_p0 t84 t85 h3, List.forall_mem_cons.mpr ⟨hd_pb b83 (by first | exact h4 | exact h4), List.forall_mem_cons.mpr ⟨hd_pb b82 (by first | exact h5 | exact h5), List.forall_mem_cons.mpr ⟨hd_p1 t86 t87 h6, fun _ h => absurd h List.not_mem_nil⟩⟩⟩⟩⟩⟩⟩, ?_⟩
  refine k _ ?_ ?_ ?_
  · exact fun j hj _ => (hd_keep hB' (Nat.lt_of_lt_of_le hj (by decide +kernel)) (by simp)).trans (hF j (Nat.lt_of_lt_of_le hj (by decide)))
  · exact hd_gi (x := .inr (.inl 82)) (by decide +kernel) b82
  · exact hd_gi (x := .inr (.inl 88)) (by decide +kernel) t88
theorem j0ff_2_p3 {Ls : Nat} {xs : Nat → Int32} {d : Nat} {Q : Option Value → jm_h → Prop} (hd : 2 ≤ d) (F : Nat → sy_d) (X1 X2 : List jm_c) (hB : iv_in F iv_B0)
    (h0 : (sy_i F 83).toInt < (sy_i F 3).toInt)
    (h1 : 0 ≤ (sy_i F 83).toInt ∧ (sy_i F 83).toInt < 7)
    (h2 : 0 ≤ (sy_i F 82).toInt ∧ (sy_i F 82).toInt < 7)
    (h3 : ((sy_ai F 10).getD (sy_i F 83).toNatClampNeg 0).toInt = ((sy_ai F 80).getD (sy_i F 82).toNatClampNeg 0).toInt)
    (h4 : 0 ≤ (sy_i F 83).toInt ∧ (sy_i F 83).toInt < 7)
    (h5 : 0 ≤ (sy_i F 82).toInt ∧ (sy_i F 82).toInt < 7)
    (h6 : ((sy_ai F 12).getD (sy_i F 83).toNatClampNeg 0).toInt = ((sy_ai F 81).getD (sy_i F 82).toNatClampNeg 0).toInt)
    (k : ∀ F1 : Nat → sy_d, (∀ j, j < 82 → True → F1 j = F j) → Q (some (.int (sy_i F 83))) (sy_dh F1 X1 X2 (iv_H 0))) :
    hd_W Ls xs d jm_M72 Q (2, sy_dL F [some (.inl (.ref 70)), some (.inl (.ref 10)), some (.inr (.inl 82)), some (.inr (.inl 83))], sy_dS F [], sy_dh F X1 X2 (iv_H 0), 0, 0) := by
  refine hd_ret (s := 0) (nv := 84) (v := some (.inr (.inl 83))) (uh := hd_ov (iv_id 0 iv_B0) []) (f := true) (sp := [2]) (d0 := 1) (O := [false, false, false]) (T := [(30, [.inr (.inl 83)], [.inr (.inl 10)]), (30, [.inr (.inl 82)], [.inr (.inl 80)]), (30, [.inr (.inl 83)], [.inr (.inl 12)]), (30, [.inr (.inl 82)], [.inr (.inl 81)])]) (P := [(5, .inr (.inl 3), .inr (.inl 83)), (6, .inr (.inl 83), .inl (.ref 7)), (6, .inr (.inl 82), .inl (.ref 7)), (0, .inr (.inl 84), .inr (.inl 85)), (6, .inr (.inl 83), .inl (.ref 7)), (6, .inr (.inl 82), .inl (.ref 7)), (0, .inr (.inl 86), .inr (.inl 87))]) jm_ok72 (by decide +kernel) (by decide +kernel) hd F X1 X2 (fun F' hF hs => ?_)
  have b3 := hd_b (F := F) (F' := F') (k := 3) (hF 3 (by decide))
  have b83 := hd_b (F := F) (F' := F') (k := 83) (hF 83 (by decide))
  have b82 := hd_b (F := F) (F' := F') (k := 82) (hF 82 (by decide))
  have a10 := hd_ba (F := F) (F' := F') (k := 10) (hF 10 (by decide))
  have t84 : sy_dv F' (.inr (.inl 84)) = .int ((sy_ai F 10).getD (sy_i F 83).toNatClampNeg 0) := hd_rd (hs 0 _ rfl) b83 a10
  have a80 := hd_ba (F := F) (F' := F') (k := 80) (hF 80 (by decide))
  have t85 : sy_dv F' (.inr (.inl 85)) = .int ((sy_ai F 80).getD (sy_i F 82).toNatClampNeg 0) := hd_rd (hs 1 _ rfl) b82 a80
  have a12 := hd_ba (F := F) (F' := F') (k := 12) (hF 12 (by decide))
  have t86 : sy_dv F' (.inr (.inl 86)) = .int ((sy_ai F 12).getD (sy_i F 83).toNatClampNeg 0) := hd_rd (hs 2 _ rfl) b83 a12
  have a81 := hd_ba (F := F) (F' := F') (k := 81) (hF 81 (by decide))
  have t87 : sy_dv F' (.inr (.inl 87)) = .int ((sy_ai F 81).getD (sy_i F 82).toNatClampNeg 0) := hd_rd (hs 3 _ rfl) b82 a81
  have hB' : iv_in F' iv_B0 := iv_in_eq hB (fun j hj => hF j (Nat.lt_of_lt_of_le hj (by decide +kernel)))
  have hk := k (sy_cm F' (hd_ov (iv_id 0 iv_B0) [] ++ [])) (fun j hj _ => (hd_keep hB' (Nat.lt_of_lt_of_le hj (by decide +kernel)) (by simp)).trans (hF j (Nat.lt_of_lt_of_le hj (by decide))))
  refine ⟨List.forall_mem_cons.mpr ⟨hd_p5 b3 b83 h0, List.forall_mem_cons.mpr ⟨hd_pb b83 (by first | exact h1 | exact h1), List.forall_mem_cons.mpr ⟨hd_pb b82 (by first | exact h2 | exact h2), List.forall_mem_cons.mpr ⟨hd_p0 t84 t85 h3, List.forall_mem_cons.mpr ⟨hd_pb b83 (by first | exact h4 | exact h4), List.forall_mem_cons.mpr ⟨hd_pb b82 (by first | exact h5 | exact h5), List.forall_mem_cons.mpr ⟨hd_p0 t86 t87 h6, fun _ h => absurd h List.not_mem_nil⟩⟩⟩⟩⟩⟩⟩, ?_⟩
  show Q (some (sy_dv F' (.inr (.inl 83)))) _
  rw [b83]
  exact hk
theorem j0ff_2 {Ls : Nat} {xs : Nat → Int32} {d : Nat} {Q : Option Value → jm_h → Prop} (hd : 2 ≤ d) (F : Nat → sy_d) (X1 X2 : List jm_c) (hB : iv_in F iv_B0)
    (a82 : 0 ≤ (sy_i F 82).toInt ∧ (sy_i F 82).toInt ≤ 6)
    (a83 : 0 ≤ (sy_i F 83).toInt ∧ (sy_i F 83).toInt ≤ 7)
    (k0 : (sy_i F 3).toInt ≤ (sy_i F 83).toInt → ∀ F1 : Nat → sy_d, iv_in F1 iv_B0 → (∀ j, j < 82 → j ∉ ([] : List Nat) → F1 j = F j) → Q (some (.int (((-2) : Int32)))) (sy_dh F1 X1 X2 (iv_H 0)))
    (k1 : (sy_i F 83).toInt < (sy_i F 3).toInt → ((sy_ai F 10).getD ((sy_i F 83).toInt).toNat 0).toInt ≠ ((sy_ai F 80).getD ((sy_i F 82).toInt).toNat 0).toInt → ∀ F1 : Nat → sy_d, iv_in F1 iv_B0 → (∀ j, j < 82 → j ∉ ([] : List Nat) → F1 j = F j) → (sy_i F1 82).toInt = (sy_i F 82).toInt → sy_i F1 82 = sy_i F 82 → (sy_i F1 83).toInt = ((sy_i F 83).toInt + 1) → sy_i F1 83 = (sy_i F 83) + ((1 : Int32)) → hd_W Ls xs d jm_M72 Q (2, sy_dL F1 [some (.inl (.ref 70)), some (.inl (.ref 10)), some (.inr (.inl 82)), some (.inr (.inl 83))], sy_dS F1 [], sy_dh F1 X1 X2 (iv_H 0), 0, 0))
    (k2 : (sy_i F 83).toInt < (sy_i F 3).toInt → ((sy_ai F 10).getD ((sy_i F 83).toInt).toNat 0).toInt = ((sy_ai F 80).getD ((sy_i F 82).toInt).toNat 0).toInt → ((sy_ai F 12).getD ((sy_i F 83).toInt).toNat 0).toInt ≠ ((sy_ai F 81).getD ((sy_i F 82).toInt).toNat 0).toInt → ∀ F1 : Nat → sy_d, iv_in F1 iv_B0 → (∀ j, j < 82 → j ∉ ([] : List Nat) → F1 j = F j) → (sy_i F1 82).toInt = (sy_i F 82).toInt → sy_i F1 82 = sy_i F 82 → (sy_i F1 83).toInt = ((sy_i F 83).toInt + 1) → sy_i F1 83 = (sy_i F 83) + ((1 : Int32)) → hd_W Ls xs d jm_M72 Q (2, sy_dL F1 [some (.inl (.ref 70)), some (.inl (.ref 10)), some (.inr (.inl 82)), some (.inr (.inl 83))], sy_dS F1 [], sy_dh F1 X1 X2 (iv_H 0), 0, 0))
    (k3 : (sy_i F 83).toInt < (sy_i F 3).toInt → ((sy_ai F 10).getD ((sy_i F 83).toInt).toNat 0).toInt = ((sy_ai F 80).getD ((sy_i F 82).toInt).toNat 0).toInt → ((sy_ai F 12).getD ((sy_i F 83).toInt).toNat 0).toInt = ((sy_ai F 81).getD ((sy_i F 82).toInt).toNat 0).toInt → ∀ F1 : Nat → sy_d, iv_in F1 iv_B0 → (∀ j, j < 82 → j ∉ ([] : List Nat) → F1 j = F j) → Q (some (.int (sy_i F 83))) (sy_dh F1 X1 X2 (iv_H 0))) :
    hd_W Ls xs d jm_M72 Q (2, sy_dL F [some (.inl (.ref 70)), some (.inl (.ref 10)), some (.inr (.inl 82)), some (.inr (.inl 83))], sy_dS F [], sy_dh F X1 X2 (iv_H 0), 0, 0) := by
  by_cases g0 : (sy_i F 3).toInt ≤ (sy_i F 83).toInt
  · have c3 := nz_bx hB (k := 3) (lo := 0) (hi := 7) rfl
    exact j0ff_2_p0 hd F X1 X2 hB (by first | exact g0 | (simp only [nz_c]; exact g0)) (fun F1 g  => k0 g0 F1 (nz_in0 hB [] (fun j hj hn => g j hj (by simp only [List.mem_cons, List.not_mem_nil, or_false, not_or] at hn; exact trivial)) (List.forall_mem_nil _)) (fun j hj hn => g j hj (by simp only [List.mem_cons, List.not_mem_nil, or_false, not_or] at hn; exact trivial)) )
  replace g0 : (sy_i F 83).toInt < (sy_i F 3).toInt := by omega
  by_cases g1 : ((sy_ai F 10).getD ((sy_i F 83).toInt).toNat 0).toInt ≠ ((sy_ai F 80).getD ((sy_i F 82).toInt).toNat 0).toInt
  · have c3 := nz_bx hB (k := 3) (lo := 0) (hi := 7) rfl
    have q84 : (sy_ai F 10).getD (sy_i F 83).toNatClampNeg 0 = (sy_ai F 10).getD ((sy_i F 83).toInt).toNat 0 := by simp only [nz_c]
    have n84 : nzI ((sy_ai F 10).getD (sy_i F 83).toNatClampNeg 0) (((sy_ai F 10).getD ((sy_i F 83).toInt).toNat 0).toInt) := congrArg Int32.toInt q84
    have q85 : (sy_ai F 80).getD (sy_i F 82).toNatClampNeg 0 = (sy_ai F 80).getD ((sy_i F 82).toInt).toNat 0 := by simp only [nz_c]
    have n85 : nzI ((sy_ai F 80).getD (sy_i F 82).toNatClampNeg 0) (((sy_ai F 80).getD ((sy_i F 82).toInt).toNat 0).toInt) := congrArg Int32.toInt q85
    have n86 : nzI ((sy_i F 83) + ((1 : Int32))) (((sy_i F 83).toInt + 1)) := nz_add (rfl : (sy_i F 83).toInt = (sy_i F 83).toInt) (by decide : ((1 : Int32)).toInt = 1) (by omega) (by omega)
    exact j0ff_2_p1 hd F X1 X2 hB (by first | exact g0 | (simp only [nz_c]; exact g0)) (by first | exact ⟨by omega, by omega⟩ | (simp only [nz_c]; exact ⟨by omega, by omega⟩)) (by first | exact ⟨by omega, by omega⟩ | (simp only [nz_c]; exact ⟨by omega, by omega⟩)) (by first | exact g1 | (simp only [nz_c]; exact g1) | (rw [(nzE n84)]; exact g1) | (rw [(nzE n85)]; exact g1) | (rw [(nzE n84), (nzE n85)]; exact g1)) (fun F1 g e82 e83 => k1 g0 g1 F1 (nz_in0 hB [] (fun j hj hn => g j hj (by simp only [List.mem_cons, List.not_mem_nil, or_false, not_or] at hn; exact trivial)) (List.forall_mem_nil _)) (fun j hj hn => g j hj (by simp only [List.mem_cons, List.not_mem_nil, or_false, not_or] at hn; exact trivial)) ((congrArg Int32.toInt (zz_i e82)).trans (rfl : (sy_i F 82).toInt = (sy_i F 82).toInt)) ((zz_i e82).trans (rfl : sy_i F 82 = sy_i F 82)) ((congrArg Int32.toInt (zz_i e83)).trans (nzE n86)) ((zz_i e83).trans (rfl : (sy_i F 83) + ((1 : Int32)) = (sy_i F 83) + ((1 : Int32)))))
  replace g1 : ((sy_ai F 10).getD ((sy_i F 83).toInt).toNat 0).toInt = ((sy_ai F 80).getD ((sy_i F 82).toInt).toNat 0).toInt := by omega
  by_cases g2 : ((sy_ai F 12).getD ((sy_i F 83).toInt).toNat 0).toInt ≠ ((sy_ai F 81).getD ((sy_i F 82).toInt).toNat 0).toInt
  · have c3 := nz_bx hB (k := 3) (lo := 0) (hi := 7) rfl
    have q84 : (sy_ai F 10).getD (sy_i F 83).toNatClampNeg 0 = (sy_ai F 10).getD ((sy_i F 83).toInt).toNat 0 := by simp only [nz_c]
    have n84 : nzI ((sy_ai F 10).getD (sy_i F 83).toNatClampNeg 0) (((sy_ai F 10).getD ((sy_i F 83).toInt).toNat 0).toInt) := congrArg Int32.toInt q84
    have q85 : (sy_ai F 80).getD (sy_i F 82).toNatClampNeg 0 = (sy_ai F 80).getD ((sy_i F 82).toInt).toNat 0 := by simp only [nz_c]
    have n85 : nzI ((sy_ai F 80).getD (sy_i F 82).toNatClampNeg 0) (((sy_ai F 80).getD ((sy_i F 82).toInt).toNat 0).toInt) := congrArg Int32.toInt q85
    have q86 : (sy_ai F 12).getD (sy_i F 83).toNatClampNeg 0 = (sy_ai F 12).getD ((sy_i F 83).toInt).toNat 0 := by simp only [nz_c]
    have n86 : nzI ((sy_ai F 12).getD (sy_i F 83).toNatClampNeg 0) (((sy_ai F 12).getD ((sy_i F 83).toInt).toNat 0).toInt) := congrArg Int32.toInt q86
    have q87 : (sy_ai F 81).getD (sy_i F 82).toNatClampNeg 0 = (sy_ai F 81).getD ((sy_i F 82).toInt).toNat 0 := by simp only [nz_c]
    have n87 : nzI ((sy_ai F 81).getD (sy_i F 82).toNatClampNeg 0) (((sy_ai F 81).getD ((sy_i F 82).toInt).toNat 0).toInt) := congrArg Int32.toInt q87
    have n88 : nzI ((sy_i F 83) + ((1 : Int32))) (((sy_i F 83).toInt + 1)) := nz_add (rfl : (sy_i F 83).toInt = (sy_i F 83).toInt) (by decide : ((1 : Int32)).toInt = 1) (by omega) (by omega)
    exact j0ff_2_p2 hd F X1 X2 hB (by first | exact g0 | (simp only [nz_c]; exact g0)) (by first | exact ⟨by omega, by omega⟩ | (simp only [nz_c]; exact ⟨by omega, by omega⟩)) (by first | exact ⟨by omega, by omega⟩ | (simp only [nz_c]; exact ⟨by omega, by omega⟩)) (by first | exact g1 | (simp only [nz_c]; exact g1) | (rw [(nzE n84)]; exact g1) | (rw [(nzE n85)]; exact g1) | (rw [(nzE n84), (nzE n85)]; exact g1)) (by first | exact ⟨by omega, by omega⟩ | (simp only [nz_c]; exact ⟨by omega, by omega⟩)) (by first | exact ⟨by omega, by omega⟩ | (simp only [nz_c]; exact ⟨by omega, by omega⟩)) (by first | exact g2 | (simp only [nz_c]; exact g2) | (rw [(nzE n86)]; exact g2) | (rw [(nzE n87)]; exact g2) | (rw [(nzE n86), (nzE n87)]; exact g2)) (fun F1 g e82 e83 => k2 g0 g1 g2 F1 (nz_in0 hB [] (fun j hj hn => g j hj (by simp only [List.mem_cons, List.not_mem_nil, or_false, not_or] at hn; exact trivial)) (List.forall_mem_nil _)) (fun j hj hn => g j hj (by simp only [List.mem_cons, List.not_mem_nil, or_false, not_or] at hn; exact trivial)) ((congrArg Int32.toInt (zz_i e82)).trans (rfl : (sy_i F 82).toInt = (sy_i F 82).toInt)) ((zz_i e82).trans (rfl : sy_i F 82 = sy_i F 82)) ((congrArg Int32.toInt (zz_i e83)).trans (nzE n88)) ((zz_i e83).trans (rfl : (sy_i F 83) + ((1 : Int32)) = (sy_i F 83) + ((1 : Int32)))))
  replace g2 : ((sy_ai F 12).getD ((sy_i F 83).toInt).toNat 0).toInt = ((sy_ai F 81).getD ((sy_i F 82).toInt).toNat 0).toInt := by omega
  have c3 := nz_bx hB (k := 3) (lo := 0) (hi := 7) rfl
  have q84 : (sy_ai F 10).getD (sy_i F 83).toNatClampNeg 0 = (sy_ai F 10).getD ((sy_i F 83).toInt).toNat 0 := by simp only [nz_c]
  have n84 : nzI ((sy_ai F 10).getD (sy_i F 83).toNatClampNeg 0) (((sy_ai F 10).getD ((sy_i F 83).toInt).toNat 0).toInt) := congrArg Int32.toInt q84
  have q85 : (sy_ai F 80).getD (sy_i F 82).toNatClampNeg 0 = (sy_ai F 80).getD ((sy_i F 82).toInt).toNat 0 := by simp only [nz_c]
  have n85 : nzI ((sy_ai F 80).getD (sy_i F 82).toNatClampNeg 0) (((sy_ai F 80).getD ((sy_i F 82).toInt).toNat 0).toInt) := congrArg Int32.toInt q85
  have q86 : (sy_ai F 12).getD (sy_i F 83).toNatClampNeg 0 = (sy_ai F 12).getD ((sy_i F 83).toInt).toNat 0 := by simp only [nz_c]
  have n86 : nzI ((sy_ai F 12).getD (sy_i F 83).toNatClampNeg 0) (((sy_ai F 12).getD ((sy_i F 83).toInt).toNat 0).toInt) := congrArg Int32.toInt q86
  have q87 : (sy_ai F 81).getD (sy_i F 82).toNatClampNeg 0 = (sy_ai F 81).getD ((sy_i F 82).toInt).toNat 0 := by simp only [nz_c]
  have n87 : nzI ((sy_ai F 81).getD (sy_i F 82).toNatClampNeg 0) (((sy_ai F 81).getD ((sy_i F 82).toInt).toNat 0).toInt) := congrArg Int32.toInt q87
  exact j0ff_2_p3 hd F X1 X2 hB (by first | exact g0 | (simp only [nz_c]; exact g0)) (by first | exact ⟨by omega, by omega⟩ | (simp only [nz_c]; exact ⟨by omega, by omega⟩)) (by first | exact ⟨by omega, by omega⟩ | (simp only [nz_c]; exact ⟨by omega, by omega⟩)) (by first | exact g1 | (simp only [nz_c]; exact g1) | (rw [(nzE n84)]; exact g1) | (rw [(nzE n85)]; exact g1) | (rw [(nzE n84), (nzE n85)]; exact g1)) (by first | exact ⟨by omega, by omega⟩ | (simp only [nz_c]; exact ⟨by omega, by omega⟩)) (by first | exact ⟨by omega, by omega⟩ | (simp only [nz_c]; exact ⟨by omega, by omega⟩)) (by first | exact g2 | (simp only [nz_c]; exact g2) | (rw [(nzE n86)]; exact g2) | (rw [(nzE n87)]; exact g2) | (rw [(nzE n86), (nzE n87)]; exact g2)) (fun F1 g  => by rw [(rfl : sy_i F 83 = sy_i F 83)]; exact k3 g0 g1 g2 F1 (nz_in0 hB [] (fun j hj hn => g j hj (by simp only [List.mem_cons, List.not_mem_nil, or_false, not_or] at hn; exact trivial)) (List.forall_mem_nil _)) (fun j hj hn => g j hj (by simp only [List.mem_cons, List.not_mem_nil, or_false, not_or] at hn; exact trivial)) )
theorem j0al_0_p0 {Ls : Nat} {xs : Nat → Int32} {d : Nat} {Q : Option Value → jm_h → Prop} (hd : 1 ≤ d) (F : Nat → sy_d) (X1 X2 : List jm_c) (hB : iv_in F iv_B0)
    (k : ∀ F1 : Nat → sy_d, (∀ j, j < 82 → True → F1 j = F j) → F1 82 = .inl (.int (sy_i F 82)) → F1 83 = .inl (.int ((0 : Int32))) → F1 84 = .inl (.int ((0 : Int32))) → hd_W Ls xs d jm_M75 Q (4, sy_dL F1 [some (.inl (.ref 70)), some (.inr (.inl 82)), some (.inr (.inl 83)), some (.inr (.inl 84))], sy_dS F1 [], sy_dh F1 X1 X2 (iv_H 0), 0, 0)) :
    hd_W Ls xs d jm_M75 Q (0, sy_dL F [some (.inl (.ref 70)), some (.inr (.inl 82)), none, none], sy_dS F [], sy_dh F X1 X2 (iv_H 0), 0, 0) := by
  refine hd_run (s := 0) (nv := 83) (pc := 4) (L := [some (.inl (.ref 70)), some (.inr (.inl 82)), some (.inr (.inl 83)), some (.inr (.inl 84))]) (S := []) (uh := hd_ov (iv_id 0 iv_B0) []) (ul := [.inl (.inr (.inl 82)), .inl (.inl (.int 0)), .inl (.inl (.int 0))]) (f := true) (sp := [4]) (d0 := 0) (O := []) (T := []) (P := []) jm_ok75 (by decide +kernel) (by decide +kernel) hd F X1 X2 (fun F' hF hs => ?_)
  have b82 := hd_b (F := F) (F' := F') (k := 82) (hF 82 (by decide))
  have hB' : iv_in F' iv_B0 := iv_in_eq hB (fun j hj => hF j (Nat.lt_of_lt_of_le hj (by decide +kernel)))
  refine ⟨fun _ h => absurd h List.not_mem_nil, ?_⟩
  refine k _ ?_ ?_ ?_ ?_
  · exact fun j hj _ => (hd_keep hB' (Nat.lt_of_lt_of_le hj (by decide +kernel)) (by simp)).trans (hF j (Nat.lt_of_lt_of_le hj (by decide)))
  · exact hd_gi (x := .inr (.inl 82)) (by decide +kernel) b82
  · exact hd_gi (x := .inl (.int 0)) (by decide +kernel) rfl
  · exact hd_gi (x := .inl (.int 0)) (by decide +kernel) rfl
theorem j0al_0 {Ls : Nat} {xs : Nat → Int32} {d : Nat} {Q : Option Value → jm_h → Prop} (hd : 1 ≤ d) (F : Nat → sy_d) (X1 X2 : List jm_c) (hB : iv_in F iv_B0)
    (k0 : ∀ F1 : Nat → sy_d, iv_in F1 iv_B0 → (∀ j, j < 82 → j ∉ ([] : List Nat) → F1 j = F j) → (sy_i F1 82).toInt = (sy_i F 82).toInt → sy_i F1 82 = sy_i F 82 → (sy_i F1 83).toInt = 0 → sy_i F1 83 = (0 : Int32) → (sy_i F1 84).toInt = 0 → sy_i F1 84 = (0 : Int32) → hd_W Ls xs d jm_M75 Q (4, sy_dL F1 [some (.inl (.ref 70)), some (.inr (.inl 82)), some (.inr (.inl 83)), some (.inr (.inl 84))], sy_dS F1 [], sy_dh F1 X1 X2 (iv_H 0), 0, 0)) :
    hd_W Ls xs d jm_M75 Q (0, sy_dL F [some (.inl (.ref 70)), some (.inr (.inl 82)), none, none], sy_dS F [], sy_dh F X1 X2 (iv_H 0), 0, 0) := by
  exact j0al_0_p0 hd F X1 X2 hB  (fun F1 g e82 e83 e84 => k0 F1 (nz_in0 hB [] (fun j hj hn => g j hj (by simp only [List.mem_cons, List.not_mem_nil, or_false, not_or] at hn; exact trivial)) (List.forall_mem_nil _)) (fun j hj hn => g j hj (by simp only [List.mem_cons, List.not_mem_nil, or_false, not_or] at hn; exact trivial)) ((congrArg Int32.toInt (zz_i e82)).trans (rfl : (sy_i F 82).toInt = (sy_i F 82).toInt)) ((zz_i e82).trans (rfl : sy_i F 82 = sy_i F 82)) ((congrArg Int32.toInt (zz_i e83)).trans (by decide : ((0 : Int32)).toInt = 0)) ((zz_i e83).trans (rfl : (0 : Int32) = (0 : Int32))) ((congrArg Int32.toInt (zz_i e84)).trans (by decide : ((0 : Int32)).toInt = 0)) ((zz_i e84).trans (rfl : (0 : Int32) = (0 : Int32))))
theorem j0al_4_p0 {Ls : Nat} {xs : Nat → Int32} {d : Nat} {Q : Option Value → jm_h → Prop} (hd : 1 ≤ d) (F : Nat → sy_d) (X1 X2 : List jm_c) (hB : iv_in F iv_B0)
    (h0 : (sy_i F 82).toInt ≤ (sy_i F 84).toInt)
    (k : ∀ F1 : Nat → sy_d, (∀ j, j < 82 → True → F1 j = F j) → Q (some (.int (sy_i F 83))) (sy_dh F1 X1 X2 (iv_H 0))) :
    hd_W Ls xs d jm_M75 Q (4, sy_dL F [some (.inl (.ref 70)), some (.inr (.inl 82)), some (.inr (.inl 83)), some (.inr (.inl 84))], sy_dS F [], sy_dh F X1 X2 (iv_H 0), 0, 0) := by
  refine hd_ret (s := 0) (nv := 85) (v := some (.inr (.inl 83))) (uh := hd_ov (iv_id 0 iv_B0) []) (f := true) (sp := [4]) (d0 := 0) (O := [true]) (T := []) (P := [(4, .inr (.inl 82), .inr (.inl 84))]) jm_ok75 (by decide +kernel) (by decide +kernel) hd F X1 X2 (fun F' hF hs => ?_)
  have b82 := hd_b (F := F) (F' := F') (k := 82) (hF 82 (by decide))
  have b84 := hd_b (F := F) (F' := F') (k := 84) (hF 84 (by decide))
  have b83 := hd_b (F := F) (F' := F') (k := 83) (hF 83 (by decide))
  have hB' : iv_in F' iv_B0 := iv_in_eq hB (fun j hj => hF j (Nat.lt_of_lt_of_le hj (by decide +kernel)))
  have hk := k (sy_cm F' (hd_ov (iv_id 0 iv_B0) [] ++ [])) (fun j hj _ => (hd_keep hB' (Nat.lt_of_lt_of_le hj (by decide +kernel)) (by simp)).trans (hF j (Nat.lt_of_lt_of_le hj (by decide))))
  refine ⟨List.forall_mem_cons.mpr ⟨hd_p4 b82 b84 h0, fun _ h => absurd h List.not_mem_nil⟩, ?_⟩
  show Q (some (sy_dv F' (.inr (.inl 83)))) _
  rw [b83]
  exact hk
theorem j0al_4_p1 {Ls : Nat} {xs : Nat → Int32} {d : Nat} {Q : Option Value → jm_h → Prop} (hd : 1 ≤ d) (F : Nat → sy_d) (X1 X2 : List jm_c) (hB : iv_in F iv_B0)
    (h0 : (sy_i F 84).toInt < (sy_i F 82).toInt)
    (h1 : 0 ≤ (sy_i F 84).toInt ∧ (sy_i F 84).toInt < 7)
    (h2 : 0 ≤ (sy_i F 82).toInt ∧ (sy_i F 82).toInt < 7)
    (h3 : ((sy_ai F 80).getD (sy_i F 84).toNatClampNeg 0).toInt ≠ ((sy_ai F 80).getD (sy_i F 82).toNatClampNeg 0).toInt)
    (k : ∀ F1 : Nat → sy_d, (∀ j, j < 82 → True → F1 j = F j) → F1 82 = .inl (.int (sy_i F 82)) → F1 83 = .inl (.int (sy_i F 83)) → F1 84 = .inl (.int ((sy_i F 84) + ((1 : Int32)))) → hd_W Ls xs d jm_M75 Q (4, sy_dL F1 [some (.inl (.ref 70)), some (.inr (.inl 82)), some (.inr (.inl 83)), some (.inr (.inl 84))], sy_dS F1 [], sy_dh F1 X1 X2 (iv_H 0), 0, 0)) :
    hd_W Ls xs d jm_M75 Q (4, sy_dL F [some (.inl (.ref 70)), some (.inr (.inl 82)), some (.inr (.inl 83)), some (.inr (.inl 84))], sy_dS F [], sy_dh F X1 X2 (iv_H 0), 0, 0) := by
  refine hd_run (s := 0) (nv := 85) (pc := 4) (L := [some (.inl (.ref 70)), some (.inr (.inl 82)), some (.inr (.inl 83)), some (.inr (.inl 84))]) (S := []) (uh := hd_ov (iv_id 0 iv_B0) []) (ul := [.inl (.inr (.inl 82)), .inl (.inr (.inl 83)), .inl (.inr (.inl 87))]) (f := true) (sp := [4]) (d0 := 0) (O := [false, true]) (T := [(30, [.inr (.inl 84)], [.inr (.inl 80)]), (30, [.inr (.inl 82)], [.inr (.inl 80)]), (0, [.inr (.inl 84), .inl (.int 1)], [])]) (P := [(5, .inr (.inl 82), .inr (.inl 84)), (6, .inr (.inl 84), .inl (.ref 7)), (6, .inr (.inl 82), .inl (.ref 7)), (1, .inr (.inl 85), .inr (.inl 86))]) jm_ok75 (by decide +kernel) (by decide +kernel) hd F X1 X2 (fun F' hF hs => ?_)
  have b82 := hd_b (F := F) (F' := F') (k := 82) (hF 82 (by decide))
  have b84 := hd_b (F := F) (F' := F') (k := 84) (hF 84 (by decide))
  have a80 := hd_ba (F := F) (F' := F') (k := 80) (hF 80 (by decide))
  have t85 : sy_dv F' (.inr (.inl 85)) = .int ((sy_ai F 80).getD (sy_i F 84).toNatClampNeg 0) := hd_rd (hs 0 _ rfl) b84 a80
  have t86 : sy_dv F' (.inr (.inl 86)) = .int ((sy_ai F 80).getD (sy_i F 82).toNatClampNeg 0) := hd_rd (hs 1 _ rfl) b82 a80
  have b83 := hd_b (F := F) (F' := F') (k := 83) (hF 83 (by decide))
  have t87 : sy_dv F' (.inr (.inl 87)) = .int ((sy_i F 84) + ((1 : Int32))) := hd_o (hs 2 _ rfl) b84 rfl rfl
  have hB' : iv_in F' iv_B0 := iv_in_eq hB (fun j hj => hF j (Nat.lt_of_lt_of_le hj (by decide +kernel)))
  refine ⟨List.forall_mem_cons.mpr ⟨hd_p5 b82 b84 h0, List.forall_mem_cons.mpr ⟨hd_pb b84 (by first | exact h1 | exact h1), List.forall_mem_cons.mpr ⟨hd_pb b82 (by first | exact h2 | exact h2), List.forall_mem_cons.mpr ⟨hd_p1 t85 t86 h3, fun _ h => absurd h List.not_mem_nil⟩⟩⟩⟩, ?_⟩
  refine k _ ?_ ?_ ?_ ?_
  · exact fun j hj _ => (hd_keep hB' (Nat.lt_of_lt_of_le hj (by decide +kernel)) (by simp)).trans (hF j (Nat.lt_of_lt_of_le hj (by decide)))
  · exact hd_gi (x := .inr (.inl 82)) (by decide +kernel) b82
  · exact hd_gi (x := .inr (.inl 83)) (by decide +kernel) b83
  · exact hd_gi (x := .inr (.inl 87)) (by decide +kernel) t87
theorem j0al_4_p2 {Ls : Nat} {xs : Nat → Int32} {d : Nat} {Q : Option Value → jm_h → Prop} (hd : 1 ≤ d) (F : Nat → sy_d) (X1 X2 : List jm_c) (hB : iv_in F iv_B0)
    (h0 : (sy_i F 84).toInt < (sy_i F 82).toInt)
    (h1 : 0 ≤ (sy_i F 84).toInt ∧ (sy_i F 84).toInt < 7)
    (h2 : 0 ≤ (sy_i F 82).toInt ∧ (sy_i F 82).toInt < 7)
    (h3 : ((sy_ai F 80).getD (sy_i F 84).toNatClampNeg 0).toInt = ((sy_ai F 80).getD (sy_i F 82).toNatClampNeg 0).toInt)
    (h4 : 0 ≤ (sy_i F 84).toInt ∧ (sy_i F 84).toInt < 7)
    (h5 : 0 ≤ (sy_i F 82).toInt ∧ (sy_i F 82).toInt < 7)
    (h6 : ((sy_ai F 81).getD (sy_i F 84).toNatClampNeg 0).toInt ≠ ((sy_ai F 81).getD (sy_i F 82).toNatClampNeg 0).toInt)
    (k : ∀ F1 : Nat → sy_d, (∀ j, j < 82 → True → F1 j = F j) → F1 82 = .inl (.int (sy_i F 82)) → F1 83 = .inl (.int (sy_i F 83)) → F1 84 = .inl (.int ((sy_i F 84) + ((1 : Int32)))) → hd_W Ls xs d jm_M75 Q (4, sy_dL F1 [some (.inl (.ref 70)), some (.inr (.inl 82)), some (.inr (.inl 83)), some (.inr (.inl 84))], sy_dS F1 [], sy_dh F1 X1 X2 (iv_H 0), 0, 0)) :
    hd_W Ls xs d jm_M75 Q (4, sy_dL F [some (.inl (.ref 70)), some (.inr (.inl 82)), some (.inr (.inl 83)), some (.inr (.inl 84))], sy_dS F [], sy_dh F X1 X2 (iv_H 0), 0, 0) := by
  refine hd_run (s := 0) (nv := 85) (pc := 4) (L := [some (.inl (.ref 70)), some (.inr (.inl 82)), some (.inr (.inl 83)), some (.inr (.inl 84))]) (S := []) (uh := hd_ov (iv_id 0 iv_B0) []) (ul := [.inl (.inr (.inl 82)), .inl (.inr (.inl 83)), .inl (.inr (.inl 89))]) (f := true) (sp := [4]) (d0 := 0) (O := [false, false, true]) (T := [(30, [.inr (.inl 84)], [.inr (.inl 80)]), (30, [.inr (.inl 82)], [.inr (.inl 80)]), (30, [.inr (.inl 84)], [.inr (.inl 81)]), (30, [.inr (.inl 82)], [.inr (.inl 81)]), (0, [.inr (.inl 84), .inl (.int 1)], [])]) (P := [(5, .inr (.inl 82), .inr (.inl 84)), (6, .inr (.inl 84), .inl (.ref 7)), (6, .inr (.inl 82), .inl (.ref 7)), (0, .inr (.inl 85), .inr (.inl 86)), (6, .inr (.inl 84), .inl (.ref 7)), (6, .inr (.inl 82), .inl (.ref 7)), (1, .inr (.inl 87), .inr (.inl 88))]) jm_ok75 (by decide +kernel) (by decide +kernel) hd F X1 X2 (fun F' hF hs => ?_)
  have b82 := hd_b (F := F) (F' := F') (k := 82) (hF 82 (by decide))
  have b84 := hd_b (F := F) (F' := F') (k := 84) (hF 84 (by decide))
  have a80 := hd_ba (F := F) (F' := F') (k := 80) (hF 80 (by decide))
  have t85 : sy_dv F' (.inr (.inl 85)) = .int ((sy_ai F 80).getD (sy_i F 84).toNatClampNeg 0) := hd_rd (hs 0 _ rfl) b84 a80
  have t86 : sy_dv F' (.inr (.inl 86)) = .int ((sy_ai F 80).getD (sy_i F 82).toNatClampNeg 0) := hd_rd (hs 1 _ rfl) b82 a80
  have a81 := hd_ba (F := F) (F' := F') (k := 81) (hF 81 (by decide))
  have t87 : sy_dv F' (.inr (.inl 87)) = .int ((sy_ai F 81).getD (sy_i F 84).toNatClampNeg 0) := hd_rd (hs 2 _ rfl) b84 a81
  have t88 : sy_dv F' (.inr (.inl 88)) = .int ((sy_ai F 81).getD (sy_i F 82).toNatClampNeg 0) := hd_rd (hs 3 _ rfl) b82 a81
  have b83 := hd_b (F := F) (F' := F') (k := 83) (hF 83 (by decide))
  have t89 : sy_dv F' (.inr (.inl 89)) = .int ((sy_i F 84) + ((1 : Int32))) := hd_o (hs 4 _ rfl) b84 rfl rfl
  have hB' : iv_in F' iv_B0 := iv_in_eq hB (fun j hj => hF j (Nat.lt_of_lt_of_le hj (by decide +kernel)))
  refine ⟨List.forall_mem_cons.mpr ⟨hd_p5 b82 b84 h0, List.forall_mem_cons.mpr ⟨hd_pb b84 (by first | exact h1 | exact h1), List.forall_mem_cons.mpr ⟨hd_pb b82 (by first | exact h2 | exact h2), List.forall_mem_cons.mpr ⟨hd_p0 t85 t86 h3, List.forall_mem_cons.mpr ⟨hd_pb b84 (by first | exact h4 | exact h4), List.forall_mem_cons.mpr ⟨hd_pb b82 (by first | exact h5 | exact h5), List.forall_mem_cons.mpr ⟨hd_p1 t87 t88 h6, fun _ h => absurd h List.not_mem_nil⟩⟩⟩⟩⟩⟩⟩, ?_⟩
  refine k _ ?_ ?_ ?_ ?_
  · exact fun j hj _ => (hd_keep hB' (Nat.lt_of_lt_of_le hj (by decide +kernel)) (by simp)).trans (hF j (Nat.lt_of_lt_of_le hj (by decide)))
  · exact hd_gi (x := .inr (.inl 82)) (by decide +kernel) b82
  · exact hd_gi (x := .inr (.inl 83)) (by decide +kernel) b83
  · exact hd_gi (x := .inr (.inl 89)) (by decide +kernel) t89
theorem j0al_4_p3 {Ls : Nat} {xs : Nat → Int32} {d : Nat} {Q : Option Value → jm_h → Prop} (hd : 1 ≤ d) (F : Nat → sy_d) (X1 X2 : List jm_c) (hB : iv_in F iv_B0)
    (h0 : (sy_i F 84).toInt < (sy_i F 82).toInt)
    (h1 : 0 ≤ (sy_i F 84).toInt ∧ (sy_i F 84).toInt < 7)
    (h2 : 0 ≤ (sy_i F 82).toInt ∧ (sy_i F 82).toInt < 7)
    (h3 : ((sy_ai F 80).getD (sy_i F 84).toNatClampNeg 0).toInt = ((sy_ai F 80).getD (sy_i F 82).toNatClampNeg 0).toInt)
    (h4 : 0 ≤ (sy_i F 84).toInt ∧ (sy_i F 84).toInt < 7)
    (h5 : 0 ≤ (sy_i F 82).toInt ∧ (sy_i F 82).toInt < 7)
    (h6 : ((sy_ai F 81).getD (sy_i F 84).toNatClampNeg 0).toInt = ((sy_ai F 81).getD (sy_i F 82).toNatClampNeg 0).toInt)
    (k : ∀ F1 : Nat → sy_d, (∀ j, j < 82 → True → F1 j = F j) → F1 82 = .inl (.int (sy_i F 82)) → F1 83 = .inl (.int ((sy_i F 83) + ((1 : Int32)))) → F1 84 = .inl (.int ((sy_i F 84) + ((1 : Int32)))) → hd_W Ls xs d jm_M75 Q (4, sy_dL F1 [some (.inl (.ref 70)), some (.inr (.inl 82)), some (.inr (.inl 83)), some (.inr (.inl 84))], sy_dS F1 [], sy_dh F1 X1 X2 (iv_H 0), 0, 0)) :
    hd_W Ls xs d jm_M75 Q (4, sy_dL F [some (.inl (.ref 70)), some (.inr (.inl 82)), some (.inr (.inl 83)), some (.inr (.inl 84))], sy_dS F [], sy_dh F X1 X2 (iv_H 0), 0, 0) := by
  refine hd_run (s := 0) (nv := 85) (pc := 4) (L := [some (.inl (.ref 70)), some (.inr (.inl 82)), some (.inr (.inl 83)), some (.inr (.inl 84))]) (S := []) (uh := hd_ov (iv_id 0 iv_B0) []) (ul := [.inl (.inr (.inl 82)), .inl (.inr (.inl 89)), .inl (.inr (.inl 90))]) (f := true) (sp := [4]) (d0 := 0) (O := [false, false, false]) (T := [(30, [.inr (.inl 84)], [.inr (.inl 80)]), (30, [.inr (.inl 82)], [.inr (.inl 80)]), (30, [.inr (.inl 84)], [.inr (.inl 81)]), (30, [.inr (.inl 82)], [.inr (.inl 81)]), (0, [.inr (.inl 83), .inl (.int 1)], []), (0, [.inr (.inl 84), .inl (.int 1)], [])]) (P := [(5, .inr (.inl 82), .inr (.inl 84)), (6, .inr (.inl 84), .inl (.ref 7)), (6, .inr (.inl 82), .inl (.ref 7)), (0, .inr (.inl 85), .inr (.inl 86)), (6, .inr (.inl 84), .inl (.ref 7)), (6, .inr (.inl 82), .inl (.ref 7)), (0, .inr (.inl 87), .inr (.inl 88))]) jm_ok75 (by decide +kernel) (by decide +kernel) hd F X1 X2 (fun F' hF hs => ?_)
  have b82 := hd_b (F := F) (F' := F') (k := 82) (hF 82 (by decide))
  have b84 := hd_b (F := F) (F' := F') (k := 84) (hF 84 (by decide))
  have a80 := hd_ba (F := F) (F' := F') (k := 80) (hF 80 (by decide))
  have t85 : sy_dv F' (.inr (.inl 85)) = .int ((sy_ai F 80).getD (sy_i F 84).toNatClampNeg 0) := hd_rd (hs 0 _ rfl) b84 a80
  have t86 : sy_dv F' (.inr (.inl 86)) = .int ((sy_ai F 80).getD (sy_i F 82).toNatClampNeg 0) := hd_rd (hs 1 _ rfl) b82 a80
  have a81 := hd_ba (F := F) (F' := F') (k := 81) (hF 81 (by decide))
  have t87 : sy_dv F' (.inr (.inl 87)) = .int ((sy_ai F 81).getD (sy_i F 84).toNatClampNeg 0) := hd_rd (hs 2 _ rfl) b84 a81
  have t88 : sy_dv F' (.inr (.inl 88)) = .int ((sy_ai F 81).getD (sy_i F 82).toNatClampNeg 0) := hd_rd (hs 3 _ rfl) b82 a81
  have b83 := hd_b (F := F) (F' := F') (k := 83) (hF 83 (by decide))
  have t89 : sy_dv F' (.inr (.inl 89)) = .int ((sy_i F 83) + ((1 : Int32))) := hd_o (hs 4 _ rfl) b83 rfl rfl
  have t90 : sy_dv F' (.inr (.inl 90)) = .int ((sy_i F 84) + ((1 : Int32))) := hd_o (hs 5 _ rfl) b84 rfl rfl
  have hB' : iv_in F' iv_B0 := iv_in_eq hB (fun j hj => hF j (Nat.lt_of_lt_of_le hj (by decide +kernel)))
  refine ⟨List.forall_mem_cons.mpr ⟨hd_p5 b82 b84 h0, List.forall_mem_cons.mpr ⟨hd_pb b84 (by first | exact h1 | exact h1), List.forall_mem_cons.mpr ⟨hd_pb b82 (by first | exact h2 | exact h2), List.forall_mem_cons.mpr ⟨hd_p0 t85 t86 h3, List.forall_mem_cons.mpr ⟨hd_pb b84 (by first | exact h4 | exact h4), List.forall_mem_cons.mpr ⟨hd_pb b82 (by first | exact h5 | exact h5), List.forall_mem_cons.mpr ⟨hd_p0 t87 t88 h6, fun _ h => absurd h List.not_mem_nil⟩⟩⟩⟩⟩⟩⟩, ?_⟩
  refine k _ ?_ ?_ ?_ ?_
  · exact fun j hj _ => (hd_keep hB' (Nat.lt_of_lt_of_le hj (by decide +kernel)) (by simp)).trans (hF j (Nat.lt_of_lt_of_le hj (by decide)))
  · exact hd_gi (x := .inr (.inl 82)) (by decide +kernel) b82
  · exact hd_gi (x := .inr (.inl 89)) (by decide +kernel) t89
  · exact hd_gi (x := .inr (.inl 90)) (by decide +kernel) t90
theorem j0al_4 {Ls : Nat} {xs : Nat → Int32} {d : Nat} {Q : Option Value → jm_h → Prop} (hd : 1 ≤ d) (F : Nat → sy_d) (X1 X2 : List jm_c) (hB : iv_in F iv_B0)
    (a82 : 0 ≤ (sy_i F 82).toInt ∧ (sy_i F 82).toInt ≤ 6)
    (a83 : 0 ≤ (sy_i F 83).toInt ∧ (sy_i F 83).toInt ≤ 7)
    (a84 : 0 ≤ (sy_i F 84).toInt ∧ (sy_i F 84).toInt ≤ 7)
    (k0 : (sy_i F 82).toInt ≤ (sy_i F 84).toInt → ∀ F1 : Nat → sy_d, iv_in F1 iv_B0 → (∀ j, j < 82 → j ∉ ([] : List Nat) → F1 j = F j) → Q (some (.int (sy_i F 83))) (sy_dh F1 X1 X2 (iv_H 0)))
    (k1 : (sy_i F 84).toInt < (sy_i F 82).toInt → ((sy_ai F 80).getD ((sy_i F 84).toInt).toNat 0).toInt ≠ ((sy_ai F 80).getD ((sy_i F 82).toInt).toNat 0).toInt → ∀ F1 : Nat → sy_d, iv_in F1 iv_B0 → (∀ j, j < 82 → j ∉ ([] : List Nat) → F1 j = F j) → (sy_i F1 82).toInt = (sy_i F 82).toInt → sy_i F1 82 = sy_i F 82 → (sy_i F1 83).toInt = (sy_i F 83).toInt → sy_i F1 83 = sy_i F 83 → (sy_i F1 84).toInt = ((sy_i F 84).toInt + 1) → sy_i F1 84 = (sy_i F 84) + ((1 : Int32)) → hd_W Ls xs d jm_M75 Q (4, sy_dL F1 [some (.inl (.ref 70)), some (.inr (.inl 82)), some (.inr (.inl 83)), some (.inr (.inl 84))], sy_dS F1 [], sy_dh F1 X1 X2 (iv_H 0), 0, 0))
    (k2 : (sy_i F 84).toInt < (sy_i F 82).toInt → ((sy_ai F 80).getD ((sy_i F 84).toInt).toNat 0).toInt = ((sy_ai F 80).getD ((sy_i F 82).toInt).toNat 0).toInt → ((sy_ai F 81).getD ((sy_i F 84).toInt).toNat 0).toInt ≠ ((sy_ai F 81).getD ((sy_i F 82).toInt).toNat 0).toInt → ∀ F1 : Nat → sy_d, iv_in F1 iv_B0 → (∀ j, j < 82 → j ∉ ([] : List Nat) → F1 j = F j) → (sy_i F1 82).toInt = (sy_i F 82).toInt → sy_i F1 82 = sy_i F 82 → (sy_i F1 83).toInt = (sy_i F 83).toInt → sy_i F1 83 = sy_i F 83 → (sy_i F1 84).toInt = ((sy_i F 84).toInt + 1) → sy_i F1 84 = (sy_i F 84) + ((1 : Int32)) → hd_W Ls xs d jm_M75 Q (4, sy_dL F1 [some (.inl (.ref 70)), some (.inr (.inl 82)), some (.inr (.inl 83)), some (.inr (.inl 84))], sy_dS F1 [], sy_dh F1 X1 X2 (iv_H 0), 0, 0))
    (k3 : (sy_i F 84).toInt < (sy_i F 82).toInt → ((sy_ai F 80).getD ((sy_i F 84).toInt).toNat 0).toInt = ((sy_ai F 80).getD ((sy_i F 82).toInt).toNat 0).toInt → ((sy_ai F 81).getD ((sy_i F 84).toInt).toNat 0).toInt = ((sy_ai F 81).getD ((sy_i F 82).toInt).toNat 0).toInt → ∀ F1 : Nat → sy_d, iv_in F1 iv_B0 → (∀ j, j < 82 → j ∉ ([] : List Nat) → F1 j = F j) → (sy_i F1 82).toInt = (sy_i F 82).toInt → sy_i F1 82 = sy_i F 82 → (sy_i F1 83).toInt = ((sy_i F 83).toInt + 1) → sy_i F1 83 = (sy_i F 83) + ((1 : Int32)) → (sy_i F1 84).toInt = ((sy_i F 84).toInt + 1) → sy_i F1 84 = (sy_i F 84) + ((1 : Int32)) → hd_W Ls xs d jm_M75 Q (4, sy_dL F1 [some (.inl (.ref 70)), some (.inr (.inl 82)), some (.inr (.inl 83)), some (.inr (.inl 84))], sy_dS F1 [], sy_dh F1 X1 X2 (iv_H 0), 0, 0)) :
    hd_W Ls xs d jm_M75 Q (4, sy_dL F [some (.inl (.ref 70)), some (.inr (.inl 82)), some (.inr (.inl 83)), some (.inr (.inl 84))], sy_dS F [], sy_dh F X1 X2 (iv_H 0), 0, 0) := by
  by_cases g0 : (sy_i F 82).toInt ≤ (sy_i F 84).toInt
  · exact j0al_4_p0 hd F X1 X2 hB (by first | exact g0 | (simp only [nz_c]; exact g0)) (fun F1 g  => by rw [(rfl : sy_i F 83 = sy_i F 83)]; exact k0 g0 F1 (nz_in0 hB [] (fun j hj hn => g j hj (by simp only [List.mem_cons, List.not_mem_nil, or_false, not_or] at hn; exact trivial)) (List.forall_mem_nil _)) (fun j hj hn => g j hj (by simp only [List.mem_cons, List.not_mem_nil, or_false, not_or] at hn; exact trivial)) )
  replace g0 : (sy_i F 84).toInt < (sy_i F 82).toInt := by omega
  by_cases g1 : ((sy_ai F 80).getD ((sy_i F 84).toInt).toNat 0).toInt ≠ ((sy_ai F 80).getD ((sy_i F 82).toInt).toNat 0).toInt
  · have q85 : (sy_ai F 80).getD (sy_i F 84).toNatClampNeg 0 = (sy_ai F 80).getD ((sy_i F 84).toInt).toNat 0 := by simp only [nz_c]
    have n85 : nzI ((sy_ai F 80).getD (sy_i F 84).toNatClampNeg 0) (((sy_ai F 80).getD ((sy_i F 84).toInt).toNat 0).toInt) := congrArg Int32.toInt q85
    have q86 : (sy_ai F 80).getD (sy_i F 82).toNatClampNeg 0 = (sy_ai F 80).getD ((sy_i F 82).toInt).toNat 0 := by simp only [nz_c]
    have n86 : nzI ((sy_ai F 80).getD (sy_i F 82).toNatClampNeg 0) (((sy_ai F 80).getD ((sy_i F 82).toInt).toNat 0).toInt) := congrArg Int32.toInt q86
    have n87 : nzI ((sy_i F 84) + ((1 : Int32))) (((sy_i F 84).toInt + 1)) := nz_add (rfl : (sy_i F 84).toInt = (sy_i F 84).toInt) (by decide : ((1 : Int32)).toInt = 1) (by omega) (by omega)
    exact j0al_4_p1 hd F X1 X2 hB (by first | exact g0 | (simp only [nz_c]; exact g0)) (by first | exact ⟨by omega, by omega⟩ | (simp only [nz_c]; exact ⟨by omega, by omega⟩)) (by first | exact ⟨by omega, by omega⟩ | (simp only [nz_c]; exact ⟨by omega, by omega⟩)) (by first | exact g1 | (simp only [nz_c]; exact g1) | (rw [(nzE n85)]; exact g1) | (rw [(nzE n86)]; exact g1) | (rw [(nzE n85), (nzE n86)]; exact g1)) (fun F1 g e82 e83 e84 => k1 g0 g1 F1 (nz_in0 hB [] (fun j hj hn => g j hj (by simp only [List.mem_cons, List.not_mem_nil, or_false, not_or] at hn; exact trivial)) (List.forall_mem_nil _)) (fun j hj hn => g j hj (by simp only [List.mem_cons, List.not_mem_nil, or_false, not_or] at hn; exact trivial)) ((congrArg Int32.toInt (zz_i e82)).trans (rfl : (sy_i F 82).toInt = (sy_i F 82).toInt)) ((zz_i e82).trans (rfl : sy_i F 82 = sy_i F 82)) ((congrArg Int32.toInt (zz_i e83)).trans (rfl : (sy_i F 83).toInt = (sy_i F 83).toInt)) ((zz_i e83).trans (rfl : sy_i F 83 = sy_i F 83)) ((congrArg Int32.toInt (zz_i e84)).trans (nzE n87)) ((zz_i e84).trans (rfl : (sy_i F 84) + ((1 : Int32)) = (sy_i F 84) + ((1 : Int32)))))
  replace g1 : ((sy_ai F 80).getD ((sy_i F 84).toInt).toNat 0).toInt = ((sy_ai F 80).getD ((sy_i F 82).toInt).toNat 0).toInt := by omega
  by_cases g2 : ((sy_ai F 81).getD ((sy_i F 84).toInt).toNat 0).toInt ≠ ((sy_ai F 81).getD ((sy_i F 82).toInt).toNat 0).toInt
  · have q85 : (sy_ai F 80).getD (sy_i F 84).toNatClampNeg 0 = (sy_ai F 80).getD ((sy_i F 84).toInt).toNat 0 := by simp only [nz_c]
    have n85 : nzI ((sy_ai F 80).getD (sy_i F 84).toNatClampNeg 0) (((sy_ai F 80).getD ((sy_i F 84).toInt).toNat 0).toInt) := congrArg Int32.toInt q85
    have q86 : (sy_ai F 80).getD (sy_i F 82).toNatClampNeg 0 = (sy_ai F 80).getD ((sy_i F 82).toInt).toNat 0 := by simp only [nz_c]
    have n86 : nzI ((sy_ai F 80).getD (sy_i F 82).toNatClampNeg 0) (((sy_ai F 80).getD ((sy_i F 82).toInt).toNat 0).toInt) := congrArg Int32.toInt q86
    have q87 : (sy_ai F 81).getD (sy_i F 84).toNatClampNeg 0 = (sy_ai F 81).getD ((sy_i F 84).toInt).toNat 0 := by simp only [nz_c]
    have n87 : nzI ((sy_ai F 81).getD (sy_i F 84).toNatClampNeg 0) (((sy_ai F 81).getD ((sy_i F 84).toInt).toNat 0).toInt) := congrArg Int32.toInt q87
    have q88 : (sy_ai F 81).getD (sy_i F 82).toNatClampNeg 0 = (sy_ai F 81).getD ((sy_i F 82).toInt).toNat 0 := by simp only [nz_c]
    have n88 : nzI ((sy_ai F 81).getD (sy_i F 82).toNatClampNeg 0) (((sy_ai F 81).getD ((sy_i F 82).toInt).toNat 0).toInt) := congrArg Int32.toInt q88
    have n89 : nzI ((sy_i F 84) + ((1 : Int32))) (((sy_i F 84).toInt + 1)) := nz_add (rfl : (sy_i F 84).toInt = (sy_i F 84).toInt) (by decide : ((1 : Int32)).toInt = 1) (by omega) (by omega)
    exact j0al_4_p2 hd F X1 X2 hB (by first | exact g0 | (simp only [nz_c]; exact g0)) (by first | exact ⟨by omega, by omega⟩ | (simp only [nz_c]; exact ⟨by omega, by omega⟩)) (by first | exact ⟨by omega, by omega⟩ | (simp only [nz_c]; exact ⟨by omega, by omega⟩)) (by first | exact g1 | (simp only [nz_c]; exact g1) | (rw [(nzE n85)]; exact g1) | (rw [(nzE n86)]; exact g1) | (rw [(nzE n85), (nzE n86)]; exact g1)) (by first | exact ⟨by omega, by omega⟩ | (simp only [nz_c]; exact ⟨by omega, by omega⟩)) (by first | exact ⟨by omega, by omega⟩ | (simp only [nz_c]; exact ⟨by omega, by omega⟩)) (by first | exact g2 | (simp only [nz_c]; exact g2) | (rw [(nzE n87)]; exact g2) | (rw [(nzE n88)]; exact g2) | (rw [(nzE n87), (nzE n88)]; exact g2)) (fun F1 g e82 e83 e84 => k2 g0 g1 g2 F1 (nz_in0 hB [] (fun j hj hn => g j hj (by simp only [List.mem_cons, List.not_mem_nil, or_false, not_or] at hn; exact trivial)) (List.forall_mem_nil _)) (fun j hj hn => g j hj (by simp only [List.mem_cons, List.not_mem_nil, or_false, not_or] at hn; exact trivial)) ((congrArg Int32.toInt (zz_i e82)).trans (rfl : (sy_i F 82).toInt = (sy_i F 82).toInt)) ((zz_i e82).trans (rfl : sy_i F 82 = sy_i F 82)) ((congrArg Int32.toInt (zz_i e83)).trans (rfl : (sy_i F 83).toInt = (sy_i F 83).toInt)) ((zz_i e83).trans (rfl : sy_i F 83 = sy_i F 83)) ((congrArg Int32.toInt (zz_i e84)).trans (nzE n89)) ((zz_i e84).trans (rfl : (sy_i F 84) + ((1 : Int32)) = (sy_i F 84) + ((1 : Int32)))))
  replace g2 : ((sy_ai F 81).getD ((sy_i F 84).toInt).toNat 0).toInt = ((sy_ai F 81).getD ((sy_i F 82).toInt).toNat 0).toInt := by omega
  have q85 : (sy_ai F 80).getD (sy_i F 84).toNatClampNeg 0 = (sy_ai F 80).getD ((sy_i F 84).toInt).toNat 0 := by simp only [nz_c]
  have n85 : nzI ((sy_ai F 80).getD (sy_i F 84).toNatClampNeg 0) (((sy_ai F 80).getD ((sy_i F 84).toInt).toNat 0).toInt) := congrArg Int32.toInt q85
  have q86 : (sy_ai F 80).getD (sy_i F 82).toNatClampNeg 0 = (sy_ai F 80).getD ((sy_i F 82).toInt).toNat 0 := by simp only [nz_c]
  have n86 : nzI ((sy_ai F 80).getD (sy_i F 82).toNatClampNeg 0) (((sy_ai F 80).getD ((sy_i F 82).toInt).toNat 0).toInt) := congrArg Int32.toInt q86
  have q87 : (sy_ai F 81).getD (sy_i F 84).toNatClampNeg 0 = (sy_ai F 81).getD ((sy_i F 84).toInt).toNat 0 := by simp only [nz_c]
  have n87 : nzI ((sy_ai F 81).getD (sy_i F 84).toNatClampNeg 0) (((sy_ai F 81).getD ((sy_i F 84).toInt).toNat 0).toInt) := congrArg Int32.toInt q87
  have q88 : (sy_ai F 81).getD (sy_i F 82).toNatClampNeg 0 = (sy_ai F 81).getD ((sy_i F 82).toInt).toNat 0 := by simp only [nz_c]
  have n88 : nzI ((sy_ai F 81).getD (sy_i F 82).toNatClampNeg 0) (((sy_ai F 81).getD ((sy_i F 82).toInt).toNat 0).toInt) := congrArg Int32.toInt q88
  have n89 : nzI ((sy_i F 83) + ((1 : Int32))) (((sy_i F 83).toInt + 1)) := nz_add (rfl : (sy_i F 83).toInt = (sy_i F 83).toInt) (by decide : ((1 : Int32)).toInt = 1) (by omega) (by omega)
  have n90 : nzI ((sy_i F 84) + ((1 : Int32))) (((sy_i F 84).toInt + 1)) := nz_add (rfl : (sy_i F 84).toInt = (sy_i F 84).toInt) (by decide : ((1 : Int32)).toInt = 1) (by omega) (by omega)
  exact j0al_4_p3 hd F X1 X2 hB (by first | exact g0 | (simp only [nz_c]; exact g0)) (by first | exact ⟨by omega, by omega⟩ | (simp only [nz_c]; exact ⟨by omega, by omega⟩)) (by first | exact ⟨by omega, by omega⟩ | (simp only [nz_c]; exact ⟨by omega, by omega⟩)) (by first | exact g1 | (simp only [nz_c]; exact g1) | (rw [(nzE n85)]; exact g1) | (rw [(nzE n86)]; exact g1) | (rw [(nzE n85), (nzE n86)]; exact g1)) (by first | exact ⟨by omega, by omega⟩ | (simp only [nz_c]; exact ⟨by omega, by omega⟩)) (by first | exact ⟨by omega, by omega⟩ | (simp only [nz_c]; exact ⟨by omega, by omega⟩)) (by first | exact g2 | (simp only [nz_c]; exact g2) | (rw [(nzE n87)]; exact g2) | (rw [(nzE n88)]; exact g2) | (rw [(nzE n87), (nzE n88)]; exact g2)) (fun F1 g e82 e83 e84 => k3 g0 g1 g2 F1 (nz_in0 hB [] (fun j hj hn => g j hj (by simp only [List.mem_cons, List.not_mem_nil, or_false, not_or] at hn; exact trivial)) (List.forall_mem_nil _)) (fun j hj hn => g j hj (by simp only [List.mem_cons, List.not_mem_nil, or_false, not_or] at hn; exact trivial)) ((congrArg Int32.toInt (zz_i e82)).trans (rfl : (sy_i F 82).toInt = (sy_i F 82).toInt)) ((zz_i e82).trans (rfl : sy_i F 82 = sy_i F 82)) ((congrArg Int32.toInt (zz_i e83)).trans (nzE n89)) ((zz_i e83).trans (rfl : (sy_i F 83) + ((1 : Int32)) = (sy_i F 83) + ((1 : Int32)))) ((congrArg Int32.toInt (zz_i e84)).trans (nzE n90)) ((zz_i e84).trans (rfl : (sy_i F 84) + ((1 : Int32)) = (sy_i F 84) + ((1 : Int32)))))
theorem j0rc_0_p0 {Ls : Nat} {xs : Nat → Int32} {d : Nat} {Q : Option Value → jm_h → Prop} (hd : 1 ≤ d) (F : Nat → sy_d) (X1 X2 : List jm_c) (hB : iv_in F iv_B0)
    (k : ∀ F1 : Nat → sy_d, (∀ j, j < 82 → True → F1 j = F j) → F1 82 = .inl (.int (sy_i F 82)) → F1 83 = .inl (.int ((1 : Int32))) → F1 84 = .inl (.int ((0 : Int32))) → hd_W Ls xs d jm_M70 Q (5, sy_dL F1 [some (.inl (.ref 70)), some (.inl (.ref 10)), some (.inr (.inl 82)), some (.inr (.inl 83)), some (.inr (.inl 84)), none], sy_dS F1 [], sy_dh F1 X1 X2 (iv_H 0), 0, 0)) :
    hd_W Ls xs d jm_M70 Q (0, sy_dL F [some (.inl (.ref 70)), some (.inl (.ref 10)), some (.inr (.inl 82)), none, none, none], sy_dS F [], sy_dh F X1 X2 (iv_H 0), 0, 0) := by
  refine hd_run (s := 0) (nv := 83) (pc := 5) (L := [some (.inl (.ref 70)), some (.inl (.ref 10)), some (.inr (.inl 82)), some (.inr (.inl 83)), some (.inr (.inl 84)), none]) (S := []) (uh := hd_ov (iv_id 0 iv_B0) []) (ul := [.inl (.inr (.inl 82)), .inl (.inl (.int 1)), .inl (.inl (.int 0))]) (f := true) (sp := [5]) (d0 := 0) (O := []) (T := []) (P := []) jm_ok70 (by decide +kernel) (by decide +kernel) hd F X1 X2 (fun F' hF hs => ?_)
  have b82 := hd_b (F := F) (F' := F') (k := 82) (hF 82 (by decide))
  have hB' : iv_in F' iv_B0 := iv_in_eq hB (fun j hj => hF j (Nat.lt_of_lt_of_le hj (by decide +kernel)))
  refine ⟨fun _ h => absurd h List.not_mem_nil, ?_⟩
  refine k _ ?_ ?_ ?_ ?_
  · exact fun j hj _ => (hd_keep hB' (Nat.lt_of_lt_of_le hj (by decide +kernel)) (by simp)).trans (hF j (Nat.lt_of_lt_of_le hj (by decide)))
  · exact hd_gi (x := .inr (.inl 82)) (by decide +kernel) b82
  · exact hd_gi (x := .inl (.int 1)) (by decide +kernel) rfl
  · exact hd_gi (x := .inl (.int 0)) (by decide +kernel) rfl
theorem j0rc_0 {Ls : Nat} {xs : Nat → Int32} {d : Nat} {Q : Option Value → jm_h → Prop} (hd : 1 ≤ d) (F : Nat → sy_d) (X1 X2 : List jm_c) (hB : iv_in F iv_B0)
    (k0 : ∀ F1 : Nat → sy_d, iv_in F1 iv_B0 → (∀ j, j < 82 → j ∉ ([] : List Nat) → F1 j = F j) → (sy_i F1 82).toInt = (sy_i F 82).toInt → sy_i F1 82 = sy_i F 82 → (sy_i F1 83).toInt = 1 → sy_i F1 83 = (1 : Int32) → (sy_i F1 84).toInt = 0 → sy_i F1 84 = (0 : Int32) → hd_W Ls xs d jm_M70 Q (5, sy_dL F1 [some (.inl (.ref 70)), some (.inl (.ref 10)), some (.inr (.inl 82)), some (.inr (.inl 83)), some (.inr (.inl 84)), none], sy_dS F1 [], sy_dh F1 X1 X2 (iv_H 0), 0, 0)) :
    hd_W Ls xs d jm_M70 Q (0, sy_dL F [some (.inl (.ref 70)), some (.inl (.ref 10)), some (.inr (.inl 82)), none, none, none], sy_dS F [], sy_dh F X1 X2 (iv_H 0), 0, 0) := by
  exact j0rc_0_p0 hd F X1 X2 hB  (fun F1 g e82 e83 e84 => k0 F1 (nz_in0 hB [] (fun j hj hn => g j hj (by simp only [List.mem_cons, List.not_mem_nil, or_false, not_or] at hn; exact trivial)) (List.forall_mem_nil _)) (fun j hj hn => g j hj (by simp only [List.mem_cons, List.not_mem_nil, or_false, not_or] at hn; exact trivial)) ((congrArg Int32.toInt (zz_i e82)).trans (rfl : (sy_i F 82).toInt = (sy_i F 82).toInt)) ((zz_i e82).trans (rfl : sy_i F 82 = sy_i F 82)) ((congrArg Int32.toInt (zz_i e83)).trans (by decide : ((1 : Int32)).toInt = 1)) ((zz_i e83).trans (rfl : (1 : Int32) = (1 : Int32))) ((congrArg Int32.toInt (zz_i e84)).trans (by decide : ((0 : Int32)).toInt = 0)) ((zz_i e84).trans (rfl : (0 : Int32) = (0 : Int32))))
theorem j0rc_5_p0 {Ls : Nat} {xs : Nat → Int32} {d : Nat} {Q : Option Value → jm_h → Prop} (hd : 1 ≤ d) (F : Nat → sy_d) (X1 X2 : List jm_c) (hB : iv_in F iv_B0)
    (h0 : (sy_i F 82).toInt ≤ (sy_i F 84).toInt)
    (k : ∀ F1 : Nat → sy_d, (∀ j, j < 82 → True → F1 j = F j) → Q (some (.int (sy_i F 83))) (sy_dh F1 X1 X2 (iv_H 0))) :
    hd_W Ls xs d jm_M70 Q (5, sy_dL F [some (.inl (.ref 70)), some (.inl (.ref 10)), some (.inr (.inl 82)), some (.inr (.inl 83)), some (.inr (.inl 84)), none], sy_dS F [], sy_dh F X1 X2 (iv_H 0), 0, 0) := by
  refine hd_ret (s := 0) (nv := 85) (v := some (.inr (.inl 83))) (uh := hd_ov (iv_id 0 iv_B0) []) (f := true) (sp := [22]) (d0 := 0) (O := [true]) (T := []) (P := [(4, .inr (.inl 82), .inr (.inl 84))]) jm_ok70 (by decide +kernel) (by decide +kernel) hd F X1 X2 (fun F' hF hs => ?_)
  have b82 := hd_b (F := F) (F' := F') (k := 82) (hF 82 (by decide))
  have b84 := hd_b (F := F) (F' := F') (k := 84) (hF 84 (by decide))
  have b83 := hd_b (F := F) (F' := F') (k := 83) (hF 83 (by decide))
  have hB' : iv_in F' iv_B0 := iv_in_eq hB (fun j hj => hF j (Nat.lt_of_lt_of_le hj (by decide +kernel)))
  have hk := k (sy_cm F' (hd_ov (iv_id 0 iv_B0) [] ++ [])) (fun j hj _ => (hd_keep hB' (Nat.lt_of_lt_of_le hj (by decide +kernel)) (by simp)).trans (hF j (Nat.lt_of_lt_of_le hj (by decide))))
  refine ⟨List.forall_mem_cons.mpr ⟨hd_p4 b82 b84 h0, fun _ h => absurd h List.not_mem_nil⟩, ?_⟩
  show Q (some (sy_dv F' (.inr (.inl 83)))) _
  rw [b83]
  exact hk
theorem j0rc_5_p1 {Ls : Nat} {xs : Nat → Int32} {d : Nat} {Q : Option Value → jm_h → Prop} (hd : 1 ≤ d) (F : Nat → sy_d) (X1 X2 : List jm_c) (hB : iv_in F iv_B0)
    (h0 : (sy_i F 84).toInt < (sy_i F 82).toInt)
    (h1 : 7 ≤ (sy_i F 84).toInt)
    (k : ∀ F1 : Nat → sy_d, (∀ j, j < 82 → True → F1 j = F j) → Q (some (.int (sy_i F 83))) (sy_dh F1 X1 X2 (iv_H 0))) :
    hd_W Ls xs d jm_M70 Q (5, sy_dL F [some (.inl (.ref 70)), some (.inl (.ref 10)), some (.inr (.inl 82)), some (.inr (.inl 83)), some (.inr (.inl 84)), none], sy_dS F [], sy_dh F X1 X2 (iv_H 0), 0, 0) := by
  refine hd_ret (s := 0) (nv := 85) (v := some (.inr (.inl 83))) (uh := hd_ov (iv_id 0 iv_B0) []) (f := true) (sp := [22]) (d0 := 0) (O := [false, true]) (T := []) (P := [(5, .inr (.inl 82), .inr (.inl 84)), (4, .inl (.int 7), .inr (.inl 84))]) jm_ok70 (by decide +kernel) (by decide +kernel) hd F X1 X2 (fun F' hF hs => ?_)
  have b82 := hd_b (F := F) (F' := F') (k := 82) (hF 82 (by decide))
  have b84 := hd_b (F := F) (F' := F') (k := 84) (hF 84 (by decide))
  have b83 := hd_b (F := F) (F' := F') (k := 83) (hF 83 (by decide))
  have hB' : iv_in F' iv_B0 := iv_in_eq hB (fun j hj => hF j (Nat.lt_of_lt_of_le hj (by decide +kernel)))
  have hk := k (sy_cm F' (hd_ov (iv_id 0 iv_B0) [] ++ [])) (fun j hj _ => (hd_keep hB' (Nat.lt_of_lt_of_le hj (by decide +kernel)) (by simp)).trans (hF j (Nat.lt_of_lt_of_le hj (by decide))))
  refine ⟨List.forall_mem_cons.mpr ⟨hd_p5 b82 b84 h0, List.forall_mem_cons.mpr ⟨hd_p4 rfl b84 (by have hc : ((7) : Int32).toInt = 7 := (by decide); omega), fun _ h => absurd h List.not_mem_nil⟩⟩, ?_⟩
  show Q (some (sy_dv F' (.inr (.inl 83)))) _
  rw [b83]
  exact hk
theorem j0rc_5_p2 {Ls : Nat} {xs : Nat → Int32} {d : Nat} {Q : Option Value → jm_h → Prop} (hd : 1 ≤ d) (F : Nat → sy_d) (X1 X2 : List jm_c) (hB : iv_in F iv_B0)
    (h0 : (sy_i F 84).toInt < (sy_i F 82).toInt)
    (h1 : (sy_i F 84).toInt < 7)
    (k : ∀ F1 : Nat → sy_d, (∀ j, j < 82 → True → F1 j = F j) → F1 82 = .inl (.int (sy_i F 82)) → F1 83 = .inl (.int (sy_i F 83)) → F1 84 = .inl (.int (sy_i F 84)) → hd_W Ls xs d jm_M70 Q (22, sy_dL F1 [some (.inl (.ref 70)), some (.inl (.ref 10)), some (.inr (.inl 82)), some (.inr (.inl 83)), some (.inr (.inl 84)), none], sy_dS F1 [.inr (.inl 84), .inl (.ref 10), .inl (.ref 70)], sy_dh F1 X1 X2 (iv_H 0), 0, 0)) :
    hd_W Ls xs d jm_M70 Q (5, sy_dL F [some (.inl (.ref 70)), some (.inl (.ref 10)), some (.inr (.inl 82)), some (.inr (.inl 83)), some (.inr (.inl 84)), none], sy_dS F [], sy_dh F X1 X2 (iv_H 0), 0, 0) := by
  refine hd_run (s := 0) (nv := 85) (pc := 22) (L := [some (.inl (.ref 70)), some (.inl (.ref 10)), some (.inr (.inl 82)), some (.inr (.inl 83)), some (.inr (.inl 84)), none]) (S := [.inr (.inl 84), .inl (.ref 10), .inl (.ref 70)]) (uh := hd_ov (iv_id 0 iv_B0) []) (ul := [.inl (.inr (.inl 82)), .inl (.inr (.inl 83)), .inl (.inr (.inl 84))]) (f := true) (sp := [22]) (d0 := 0) (O := [false, false]) (T := []) (P := [(5, .inr (.inl 82), .inr (.inl 84)), (5, .inl (.int 7), .inr (.inl 84))]) jm_ok70 (by decide +kernel) (by decide +kernel) hd F X1 X2 (fun F' hF hs => ?_)
  have b82 := hd_b (F := F) (F' := F') (k := 82) (hF 82 (by decide))
  have b84 := hd_b (F := F) (F' := F') (k := 84) (hF 84 (by decide))
  have b83 := hd_b (F := F) (F' := F') (k := 83) (hF 83 (by decide))
  have hB' : iv_in F' iv_B0 := iv_in_eq hB (fun j hj => hF j (Nat.lt_of_lt_of_le hj (by decide +kernel)))
  refine ⟨List.forall_mem_cons.mpr ⟨hd_p5 b82 b84 h0, List.forall_mem_cons.mpr ⟨hd_p5 rfl b84 (by have hc : ((7) : Int32).toInt = 7 := (by decide); omega), fun _ h => absurd h List.not_mem_nil⟩⟩, ?_⟩
  refine k _ ?_ ?_ ?_ ?_
  · exact fun j hj _ => (hd_keep hB' (Nat.lt_of_lt_of_le hj (by decide +kernel)) (by simp)).trans (hF j (Nat.lt_of_lt_of_le hj (by decide)))
  · exact hd_gi (x := .inr (.inl 82)) (by decide +kernel) b82
  · exact hd_gi (x := .inr (.inl 83)) (by decide +kernel) b83
  · exact hd_gi (x := .inr (.inl 84)) (by decide +kernel) b84
theorem j0rc_5 {Ls : Nat} {xs : Nat → Int32} {d : Nat} {Q : Option Value → jm_h → Prop} (hd : 1 ≤ d) (F : Nat → sy_d) (X1 X2 : List jm_c) (hB : iv_in F iv_B0)
    (a84 : 0 ≤ (sy_i F 84).toInt ∧ (sy_i F 84).toInt ≤ 7)
    (k0 : (sy_i F 82).toInt ≤ (sy_i F 84).toInt → ∀ F1 : Nat → sy_d, iv_in F1 iv_B0 → (∀ j, j < 82 → j ∉ ([] : List Nat) → F1 j = F j) → Q (some (.int (sy_i F 83))) (sy_dh F1 X1 X2 (iv_H 0)))
    (k1 : (sy_i F 84).toInt < (sy_i F 82).toInt → 7 ≤ (sy_i F 84).toInt → ∀ F1 : Nat → sy_d, iv_in F1 iv_B0 → (∀ j, j < 82 → j ∉ ([] : List Nat) → F1 j = F j) → Q (some (.int (sy_i F 83))) (sy_dh F1 X1 X2 (iv_H 0)))
    (k2 : (sy_i F 84).toInt < (sy_i F 82).toInt → (sy_i F 84).toInt < 7 → ∀ F1 : Nat → sy_d, iv_in F1 iv_B0 → (∀ j, j < 82 → j ∉ ([] : List Nat) → F1 j = F j) → (sy_i F1 82).toInt = (sy_i F 82).toInt → sy_i F1 82 = sy_i F 82 → (sy_i F1 83).toInt = (sy_i F 83).toInt → sy_i F1 83 = sy_i F 83 → (sy_i F1 84).toInt = (sy_i F 84).toInt → sy_i F1 84 = sy_i F 84 → hd_W Ls xs d jm_M70 Q (22, sy_dL F1 [some (.inl (.ref 70)), some (.inl (.ref 10)), some (.inr (.inl 82)), some (.inr (.inl 83)), some (.inr (.inl 84)), none], sy_dS F1 [.inr (.inl 84), .inl (.ref 10), .inl (.ref 70)], sy_dh F1 X1 X2 (iv_H 0), 0, 0)) :
    hd_W Ls xs d jm_M70 Q (5, sy_dL F [some (.inl (.ref 70)), some (.inl (.ref 10)), some (.inr (.inl 82)), some (.inr (.inl 83)), some (.inr (.inl 84)), none], sy_dS F [], sy_dh F X1 X2 (iv_H 0), 0, 0) := by
  by_cases g0 : (sy_i F 82).toInt ≤ (sy_i F 84).toInt
  · exact j0rc_5_p0 hd F X1 X2 hB (by first | exact g0 | (simp only [nz_c]; exact g0)) (fun F1 g  => by rw [(rfl : sy_i F 83 = sy_i F 83)]; exact k0 g0 F1 (nz_in0 hB [] (fun j hj hn => g j hj (by simp only [List.mem_cons, List.not_mem_nil, or_false, not_or] at hn; exact trivial)) (List.forall_mem_nil _)) (fun j hj hn => g j hj (by simp only [List.mem_cons, List.not_mem_nil, or_false, not_or] at hn; exact trivial)) )
  replace g0 : (sy_i F 84).toInt < (sy_i F 82).toInt := by omega
  by_cases g1 : 7 ≤ (sy_i F 84).toInt
  · exact j0rc_5_p1 hd F X1 X2 hB (by first | exact g0 | (simp only [nz_c]; exact g0)) (by first | exact g1 | (simp only [nz_c]; exact g1)) (fun F1 g  => by rw [(rfl : sy_i F 83 = sy_i F 83)]; exact k1 g0 g1 F1 (nz_in0 hB [] (fun j hj hn => g j hj (by simp only [List.mem_cons, List.not_mem_nil, or_false, not_or] at hn; exact trivial)) (List.forall_mem_nil _)) (fun j hj hn => g j hj (by simp only [List.mem_cons, List.not_mem_nil, or_false, not_or] at hn; exact trivial)) )
  replace g1 : (sy_i F 84).toInt < 7 := by omega
  exact j0rc_5_p2 hd F X1 X2 hB (by first | exact g0 | (simp only [nz_c]; exact g0)) (by first | exact g1 | (simp only [nz_c]; exact g1)) (fun F1 g e82 e83 e84 => k2 g0 g1 F1 (nz_in0 hB [] (fun j hj hn => g j hj (by simp only [List.mem_cons, List.not_mem_nil, or_false, not_or] at hn; exact trivial)) (List.forall_mem_nil _)) (fun j hj hn => g j hj (by simp only [List.mem_cons, List.not_mem_nil, or_false, not_or] at hn; exact trivial)) ((congrArg Int32.toInt (zz_i e82)).trans (rfl : (sy_i F 82).toInt = (sy_i F 82).toInt)) ((zz_i e82).trans (rfl : sy_i F 82 = sy_i F 82)) ((congrArg Int32.toInt (zz_i e83)).trans (rfl : (sy_i F 83).toInt = (sy_i F 83).toInt)) ((zz_i e83).trans (rfl : sy_i F 83 = sy_i F 83)) ((congrArg Int32.toInt (zz_i e84)).trans (rfl : (sy_i F 84).toInt = (sy_i F 84).toInt)) ((zz_i e84).trans (rfl : sy_i F 84 = sy_i F 84)))
theorem j0rc_25_p0 {Ls : Nat} {xs : Nat → Int32} {d : Nat} {Q : Option Value → jm_h → Prop} (hd : 1 ≤ d) (F : Nat → sy_d) (X1 X2 : List jm_c) (hB : iv_in F iv_B0)
    (k : ∀ F1 : Nat → sy_d, (∀ j, j < 82 → True → F1 j = F j) → F1 82 = .inl (.int (sy_i F 82)) → F1 83 = .inl (.int (sy_i F 83)) → F1 84 = .inl (.int (sy_i F 84)) → F1 85 = .inl (.int (sy_i F 85)) → hd_W Ls xs d jm_M70 Q (28, sy_dL F1 [some (.inl (.ref 70)), some (.inl (.ref 10)), some (.inr (.inl 82)), some (.inr (.inl 83)), some (.inr (.inl 84)), none], sy_dS F1 [.inr (.inl 84), .inl (.ref 70), .inr (.inl 85)], sy_dh F1 X1 X2 (iv_H 0), 0, 0)) :
    hd_W Ls xs d jm_M70 Q (25, sy_dL F [some (.inl (.ref 70)), some (.inl (.ref 10)), some (.inr (.inl 82)), some (.inr (.inl 83)), some (.inr (.inl 84)), none], sy_dS F [.inr (.inl 85)], sy_dh F X1 X2 (iv_H 0), 0, 0) := by
  refine hd_run (s := 0) (nv := 86) (pc := 28) (L := [some (.inl (.ref 70)), some (.inl (.ref 10)), some (.inr (.inl 82)), some (.inr (.inl 83)), some (.inr (.inl 84)), none]) (S := [.inr (.inl 84), .inl (.ref 70), .inr (.inl 85)]) (uh := hd_ov (iv_id 0 iv_B0) []) (ul := [.inl (.inr (.inl 82)), .inl (.inr (.inl 83)), .inl (.inr (.inl 84)), .inl (.inr (.inl 85))]) (f := false) (sp := [28]) (d0 := 0) (O := []) (T := []) (P := []) jm_ok70 (by decide +kernel) (by decide +kernel) hd F X1 X2 (fun F' hF hs => ?_)
  have b82 := hd_b (F := F) (F' := F') (k := 82) (hF 82 (by decide))
  have b83 := hd_b (F := F) (F' := F') (k := 83) (hF 83 (by decide))
  have b84 := hd_b (F := F) (F' := F') (k := 84) (hF 84 (by decide))
  have b85 := hd_b (F := F) (F' := F') (k := 85) (hF 85 (by decide))
  have hB' : iv_in F' iv_B0 := iv_in_eq hB (fun j hj => hF j (Nat.lt_of_lt_of_le hj (by decide +kernel)))
  refine ⟨fun _ h => absurd h List.not_mem_nil, ?_⟩
  refine k _ ?_ ?_ ?_ ?_ ?_
  · exact fun j hj _ => (hd_keep hB' (Nat.lt_of_lt_of_le hj (by decide +kernel)) (by simp)).trans (hF j (Nat.lt_of_lt_of_le hj (by decide)))
  · exact hd_gi (x := .inr (.inl 82)) (by decide +kernel) b82
  · exact hd_gi (x := .inr (.inl 83)) (by decide +kernel) b83
  · exact hd_gi (x := .inr (.inl 84)) (by decide +kernel) b84
  · exact hd_gi (x := .inr (.inl 85)) (by decide +kernel) b85
theorem j0rc_25 {Ls : Nat} {xs : Nat → Int32} {d : Nat} {Q : Option Value → jm_h → Prop} (hd : 1 ≤ d) (F : Nat → sy_d) (X1 X2 : List jm_c) (hB : iv_in F iv_B0)
    (k0 : ∀ F1 : Nat → sy_d, iv_in F1 iv_B0 → (∀ j, j < 82 → j ∉ ([] : List Nat) → F1 j = F j) → (sy_i F1 82).toInt = (sy_i F 82).toInt → sy_i F1 82 = sy_i F 82 → (sy_i F1 83).toInt = (sy_i F 83).toInt → sy_i F1 83 = sy_i F 83 → (sy_i F1 84).toInt = (sy_i F 84).toInt → sy_i F1 84 = sy_i F 84 → (sy_i F1 85).toInt = (sy_i F 85).toInt → sy_i F1 85 = sy_i F 85 → hd_W Ls xs d jm_M70 Q (28, sy_dL F1 [some (.inl (.ref 70)), some (.inl (.ref 10)), some (.inr (.inl 82)), some (.inr (.inl 83)), some (.inr (.inl 84)), none], sy_dS F1 [.inr (.inl 84), .inl (.ref 70), .inr (.inl 85)], sy_dh F1 X1 X2 (iv_H 0), 0, 0)) :
    hd_W Ls xs d jm_M70 Q (25, sy_dL F [some (.inl (.ref 70)), some (.inl (.ref 10)), some (.inr (.inl 82)), some (.inr (.inl 83)), some (.inr (.inl 84)), none], sy_dS F [.inr (.inl 85)], sy_dh F X1 X2 (iv_H 0), 0, 0) := by
  exact j0rc_25_p0 hd F X1 X2 hB  (fun F1 g e82 e83 e84 e85 => k0 F1 (nz_in0 hB [] (fun j hj hn => g j hj (by simp only [List.mem_cons, List.not_mem_nil, or_false, not_or] at hn; exact trivial)) (List.forall_mem_nil _)) (fun j hj hn => g j hj (by simp only [List.mem_cons, List.not_mem_nil, or_false, not_or] at hn; exact trivial)) ((congrArg Int32.toInt (zz_i e82)).trans (rfl : (sy_i F 82).toInt = (sy_i F 82).toInt)) ((zz_i e82).trans (rfl : sy_i F 82 = sy_i F 82)) ((congrArg Int32.toInt (zz_i e83)).trans (rfl : (sy_i F 83).toInt = (sy_i F 83).toInt)) ((zz_i e83).trans (rfl : sy_i F 83 = sy_i F 83)) ((congrArg Int32.toInt (zz_i e84)).trans (rfl : (sy_i F 84).toInt = (sy_i F 84).toInt)) ((zz_i e84).trans (rfl : sy_i F 84 = sy_i F 84)) ((congrArg Int32.toInt (zz_i e85)).trans (rfl : (sy_i F 85).toInt = (sy_i F 85).toInt)) ((zz_i e85).trans (rfl : sy_i F 85 = sy_i F 85)))
theorem j0rc_31_p0 {Ls : Nat} {xs : Nat → Int32} {d : Nat} {Q : Option Value → jm_h → Prop} (hd : 1 ≤ d) (F : Nat → sy_d) (X1 X2 : List jm_c) (hB : iv_in F iv_B0)
    (h0 : 0 < ((sy_i F 85) - (sy_i F 86)).toInt)
    (k : ∀ F1 : Nat → sy_d, (∀ j, j < 82 → True → F1 j = F j) → F1 82 = .inl (.int (sy_i F 82)) → F1 83 = .inl (.int ((sy_i F 83) * ((sy_i F 85) - (sy_i F 86)))) → F1 84 = .inl (.int ((sy_i F 84) + ((1 : Int32)))) → hd_W Ls xs d jm_M70 Q (5, sy_dL F1 [some (.inl (.ref 70)), some (.inl (.ref 10)), some (.inr (.inl 82)), some (.inr (.inl 83)), some (.inr (.inl 84)), none], sy_dS F1 [], sy_dh F1 X1 X2 (iv_H 0), 0, 0)) :
    hd_W Ls xs d jm_M70 Q (31, sy_dL F [some (.inl (.ref 70)), some (.inl (.ref 10)), some (.inr (.inl 82)), some (.inr (.inl 83)), some (.inr (.inl 84)), none], sy_dS F [.inr (.inl 86), .inr (.inl 85)], sy_dh F X1 X2 (iv_H 0), 0, 0) := by
  refine hd_run (s := 0) (nv := 87) (pc := 5) (L := [some (.inl (.ref 70)), some (.inl (.ref 10)), some (.inr (.inl 82)), some (.inr (.inl 83)), some (.inr (.inl 84)), none]) (S := []) (uh := hd_ov (iv_id 0 iv_B0) []) (ul := [.inl (.inr (.inl 82)), .inl (.inr (.inl 88)), .inl (.inr (.inl 89))]) (f := false) (sp := [5]) (d0 := 0) (O := [true]) (T := [(1, [.inr (.inl 85), .inr (.inl 86)], []), (2, [.inr (.inl 83), .inr (.inl 87)], []), (0, [.inr (.inl 84), .inl (.int 1)], [])]) (P := [(2, .inl (.int 0), .inr (.inl 87))]) jm_ok70 (by decide +kernel) (by decide +kernel) hd F X1 X2 (fun F' hF hs => ?_)
  have b85 := hd_b (F := F) (F' := F') (k := 85) (hF 85 (by decide))
  have b86 := hd_b (F := F) (F' := F') (k := 86) (hF 86 (by decide))
  have t87 : sy_dv F' (.inr (.inl 87)) = .int ((sy_i F 85) - (sy_i F 86)) := hd_o (hs 0 _ rfl) b85 b86 rfl
  have b82 := hd_b (F := F) (F' := F') (k := 82) (hF 82 (by decide))
  have b83 := hd_b (F := F) (F' := F') (k := 83) (hF 83 (by decide))
  have t88 : sy_dv F' (.inr (.inl 88)) = .int ((sy_i F 83) * ((sy_i F 85) - (sy_i F 86))) := hd_o (hs 1 _ rfl) b83 t87 rfl
  have b84 := hd_b (F := F) (F' := F') (k := 84) (hF 84 (by decide))
  have t89 : sy_dv F' (.inr (.inl 89)) = .int ((sy_i F 84) + ((1 : Int32))) := hd_o (hs 2 _ rfl) b84 rfl rfl
  have hB' : iv_in F' iv_B0 := iv_in_eq hB (fun j hj => hF j (Nat.lt_of_lt_of_le hj (by decide +kernel)))
  refine ⟨List.forall_mem_cons.mpr ⟨hd_p2 rfl t87 (by have hc : ((0) : Int32).toInt = 0 := (by decide); omega), fun _ h => absurd h List.not_mem_nil⟩, ?_⟩
  refine k _ ?_ ?_ ?_ ?_
  · exact fun j hj _ => (hd_keep hB' (Nat.lt_of_lt_of_le hj (by decide +kernel)) (by simp)).trans (hF j (Nat.lt_of_lt_of_le hj (by decide)))
  · exact hd_gi (x := .inr (.inl 82)) (by decide +kernel) b82
  · exact hd_gi (x := .inr (.inl 88)) (by decide +kernel) t88
  · exact hd_gi (x := .inr (.inl 89)) (by decide +kernel) t89
theorem j0rc_31_p1 {Ls : Nat} {xs : Nat → Int32} {d : Nat} {Q : Option Value → jm_h → Prop} (hd : 1 ≤ d) (F : Nat → sy_d) (X1 X2 : List jm_c) (hB : iv_in F iv_B0)
    (h0 : ((sy_i F 85) - (sy_i F 86)).toInt ≤ 0)
    (k : ∀ F1 : Nat → sy_d, (∀ j, j < 82 → True → F1 j = F j) → Q (some (.int ((0 : Int32)))) (sy_dh F1 X1 X2 (iv_H 0))) :
    hd_W Ls xs d jm_M70 Q (31, sy_dL F [some (.inl (.ref 70)), some (.inl (.ref 10)), some (.inr (.inl 82)), some (.inr (.inl 83)), some (.inr (.inl 84)), none], sy_dS F [.inr (.inl 86), .inr (.inl 85)], sy_dh F X1 X2 (iv_H 0), 0, 0) := by
  refine hd_ret (s := 0) (nv := 87) (v := some (.inl (.int 0))) (uh := hd_ov (iv_id 0 iv_B0) []) (f := false) (sp := [5]) (d0 := 0) (O := [false]) (T := [(1, [.inr (.inl 85), .inr (.inl 86)], [])]) (P := [(3, .inl (.int 0), .inr (.inl 87))]) jm_ok70 (by decide +kernel) (by decide +kernel) hd F X1 X2 (fun F' hF hs => ?_)
  have b85 := hd_b (F := F) (F' := F') (k := 85) (hF 85 (by decide))
  have b86 := hd_b (F := F) (F' := F') (k := 86) (hF 86 (by decide))
  have t87 : sy_dv F' (.inr (.inl 87)) = .int ((sy_i F 85) - (sy_i F 86)) := hd_o (hs 0 _ rfl) b85 b86 rfl
  have hB' : iv_in F' iv_B0 := iv_in_eq hB (fun j hj => hF j (Nat.lt_of_lt_of_le hj (by decide +kernel)))
  refine ⟨List.forall_mem_cons.mpr ⟨hd_p3 rfl t87 (by have hc : ((0) : Int32).toInt = 0 := (by decide); omega), fun _ h => absurd h List.not_mem_nil⟩, ?_⟩
  refine k _ ?_
  · exact fun j hj _ => (hd_keep hB' (Nat.lt_of_lt_of_le hj (by decide +kernel)) (by simp)).trans (hF j (Nat.lt_of_lt_of_le hj (by decide)))
theorem j0rc_31 {Ls : Nat} {xs : Nat → Int32} {d : Nat} {Q : Option Value → jm_h → Prop} (hd : 1 ≤ d) (F : Nat → sy_d) (X1 X2 : List jm_c) (hB : iv_in F iv_B0)
    (a84 : 0 ≤ (sy_i F 84).toInt ∧ (sy_i F 84).toInt ≤ 6)
    (a85 : 0 ≤ (sy_i F 85).toInt ∧ (sy_i F 85).toInt ≤ 7)
    (a86 : 0 ≤ (sy_i F 86).toInt ∧ (sy_i F 86).toInt ≤ 7)
    (k0 : 0 < ((sy_i F 85).toInt - (sy_i F 86).toInt) → ∀ F1 : Nat → sy_d, iv_in F1 iv_B0 → (∀ j, j < 82 → j ∉ ([] : List Nat) → F1 j = F j) → (sy_i F1 82).toInt = (sy_i F 82).toInt → sy_i F1 82 = sy_i F 82 → (sy_i F1 83).toInt = ((sy_i F 83) * ((sy_i F 85) - (sy_i F 86))).toInt → sy_i F1 83 = (sy_i F 83) * ((sy_i F 85) - (sy_i F 86)) → (sy_i F1 84).toInt = ((sy_i F 84).toInt + 1) → sy_i F1 84 = (sy_i F 84) + ((1 : Int32)) → hd_W Ls xs d jm_M70 Q (5, sy_dL F1 [some (.inl (.ref 70)), some (.inl (.ref 10)), some (.inr (.inl 82)), some (.inr (.inl 83)), some (.inr (.inl 84)), none], sy_dS F1 [], sy_dh F1 X1 X2 (iv_H 0), 0, 0))
    (k1 : ((sy_i F 85).toInt - (sy_i F 86).toInt) ≤ 0 → ∀ F1 : Nat → sy_d, iv_in F1 iv_B0 → (∀ j, j < 82 → j ∉ ([] : List Nat) → F1 j = F j) → Q (some (.int ((0 : Int32)))) (sy_dh F1 X1 X2 (iv_H 0))) :
    hd_W Ls xs d jm_M70 Q (31, sy_dL F [some (.inl (.ref 70)), some (.inl (.ref 10)), some (.inr (.inl 82)), some (.inr (.inl 83)), some (.inr (.inl 84)), none], sy_dS F [.inr (.inl 86), .inr (.inl 85)], sy_dh F X1 X2 (iv_H 0), 0, 0) := by
  by_cases g0 : 0 < ((sy_i F 85).toInt - (sy_i F 86).toInt)
  · have n87 : nzI ((sy_i F 85) - (sy_i F 86)) (((sy_i F 85).toInt - (sy_i F 86).toInt)) := nz_sub (rfl : (sy_i F 85).toInt = (sy_i F 85).toInt) (rfl : (sy_i F 86).toInt = (sy_i F 86).toInt) (by omega) (by omega)
    have n88 : nzI ((sy_i F 83) * ((sy_i F 85) - (sy_i F 86))) (((sy_i F 83) * ((sy_i F 85) - (sy_i F 86))).toInt) := congrArg Int32.toInt (rfl : (sy_i F 83) * ((sy_i F 85) - (sy_i F 86)) = (sy_i F 83) * ((sy_i F 85) - (sy_i F 86)))
    have n89 : nzI ((sy_i F 84) + ((1 : Int32))) (((sy_i F 84).toInt + 1)) := nz_add (rfl : (sy_i F 84).toInt = (sy_i F 84).toInt) (by decide : ((1 : Int32)).toInt = 1) (by omega) (by omega)
    exact j0rc_31_p0 hd F X1 X2 hB (by first | (simp only [nz_c, (nzE n87)]; exact g0) | exact g0 | (rw [(nzE n87)]; exact g0)) (fun F1 g e82 e83 e84 => k0 g0 F1 (nz_in0 hB [] (fun j hj hn => g j hj (by simp only [List.mem_cons, List.not_mem_nil, or_false, not_or] at hn; exact trivial)) (List.forall_mem_nil _)) (fun j hj hn => g j hj (by simp only [List.mem_cons, List.not_mem_nil, or_false, not_or] at hn; exact trivial)) ((congrArg Int32.toInt (zz_i e82)).trans (rfl : (sy_i F 82).toInt = (sy_i F 82).toInt)) ((zz_i e82).trans (rfl : sy_i F 82 = sy_i F 82)) ((congrArg Int32.toInt (zz_i e83)).trans (nzE n88)) ((zz_i e83).trans (rfl : (sy_i F 83) * ((sy_i F 85) - (sy_i F 86)) = (sy_i F 83) * ((sy_i F 85) - (sy_i F 86)))) ((congrArg Int32.toInt (zz_i e84)).trans (nzE n89)) ((zz_i e84).trans (rfl : (sy_i F 84) + ((1 : Int32)) = (sy_i F 84) + ((1 : Int32)))))
  replace g0 : ((sy_i F 85).toInt - (sy_i F 86).toInt) ≤ 0 := by omega
  have n87 : nzI ((sy_i F 85) - (sy_i F 86)) (((sy_i F 85).toInt - (sy_i F 86).toInt)) := nz_sub (rfl : (sy_i F 85).toInt = (sy_i F 85).toInt) (rfl : (sy_i F 86).toInt = (sy_i F 86).toInt) (by omega) (by omega)
  exact j0rc_31_p1 hd F X1 X2 hB (by first | (simp only [nz_c, (nzE n87)]; exact g0) | exact g0 | (rw [(nzE n87)]; exact g0)) (fun F1 g  => k1 g0 F1 (nz_in0 hB [] (fun j hj hn => g j hj (by simp only [List.mem_cons, List.not_mem_nil, or_false, not_or] at hn; exact trivial)) (List.forall_mem_nil _)) (fun j hj hn => g j hj (by simp only [List.mem_cons, List.not_mem_nil, or_false, not_or] at hn; exact trivial)) )
theorem j0wd_0_p0 {Ls : Nat} {xs : Nat → Int32} {d : Nat} {Q : Option Value → jm_h → Prop} (hd : 1 ≤ d) (F : Nat → sy_d) (X1 X2 : List jm_c) (hB : iv_in F iv_B0)
    (k : ∀ F1 : Nat → sy_d, (∀ j, j < 82 → True → F1 j = F j) → F1 82 = .inl (.int (sy_i F 82)) → F1 83 = .inl (.int ((0 : Int32))) → F1 84 = .inl (.int ((1 : Int32))) → hd_W Ls xs d jm_M73 Q (5, sy_dL F1 [some (.inl (.ref 70)), some (.inl (.ref 10)), some (.inr (.inl 82)), some (.inr (.inl 83)), some (.inr (.inl 84))], sy_dS F1 [], sy_dh F1 X1 X2 (iv_H 0), 0, 0)) :
    hd_W Ls xs d jm_M73 Q (0, sy_dL F [some (.inl (.ref 70)), some (.inl (.ref 10)), some (.inr (.inl 82)), none, none], sy_dS F [], sy_dh F X1 X2 (iv_H 0), 0, 0) := by
  refine hd_run (s := 0) (nv := 83) (pc := 5) (L := [some (.inl (.ref 70)), some (.inl (.ref 10)), some (.inr (.inl 82)), some (.inr (.inl 83)), some (.inr (.inl 84))]) (S := []) (uh := hd_ov (iv_id 0 iv_B0) []) (ul := [.inl (.inr (.inl 82)), .inl (.inl (.int 0)), .inl (.inl (.int 1))]) (f := true) (sp := [5]) (d0 := 0) (O := []) (T := []) (P := []) jm_ok73 (by decide +kernel) (by decide +kernel) hd F X1 X2 (fun F' hF hs => ?_)
  have b82 := hd_b (F := F) (F' := F') (k := 82) (hF 82 (by decide))
  have hB' : iv_in F' iv_B0 := iv_in_eq hB (fun j hj => hF j (Nat.lt_of_lt_of_le hj (by decide +kernel)))
  refine ⟨fun _ h => absurd h List.not_mem_nil, ?_⟩
  refine k _ ?_ ?_ ?_ ?_
  · exact fun j hj _ => (hd_keep hB' (Nat.lt_of_lt_of_le hj (by decide +kernel)) (by simp)).trans (hF j (Nat.lt_of_lt_of_le hj (by decide)))
  · exact hd_gi (x := .inr (.inl 82)) (by decide +kernel) b82
  · exact hd_gi (x := .inl (.int 0)) (by decide +kernel) rfl
  · exact hd_gi (x := .inl (.int 1)) (by decide +kernel) rfl
theorem j0wd_0 {Ls : Nat} {xs : Nat → Int32} {d : Nat} {Q : Option Value → jm_h → Prop} (hd : 1 ≤ d) (F : Nat → sy_d) (X1 X2 : List jm_c) (hB : iv_in F iv_B0)
    (k0 : ∀ F1 : Nat → sy_d, iv_in F1 iv_B0 → (∀ j, j < 82 → j ∉ ([] : List Nat) → F1 j = F j) → (sy_i F1 82).toInt = (sy_i F 82).toInt → sy_i F1 82 = sy_i F 82 → (sy_i F1 83).toInt = 0 → sy_i F1 83 = (0 : Int32) → (sy_i F1 84).toInt = 1 → sy_i F1 84 = (1 : Int32) → hd_W Ls xs d jm_M73 Q (5, sy_dL F1 [some (.inl (.ref 70)), some (.inl (.ref 10)), some (.inr (.inl 82)), some (.inr (.inl 83)), some (.inr (.inl 84))], sy_dS F1 [], sy_dh F1 X1 X2 (iv_H 0), 0, 0)) :
    hd_W Ls xs d jm_M73 Q (0, sy_dL F [some (.inl (.ref 70)), some (.inl (.ref 10)), some (.inr (.inl 82)), none, none], sy_dS F [], sy_dh F X1 X2 (iv_H 0), 0, 0) := by
  exact j0wd_0_p0 hd F X1 X2 hB  (fun F1 g e82 e83 e84 => k0 F1 (nz_in0 hB [] (fun j hj hn => g j hj (by simp only [List.mem_cons, List.not_mem_nil, or_false, not_or] at hn; exact trivial)) (List.forall_mem_nil _)) (fun j hj hn => g j hj (by simp only [List.mem_cons, List.not_mem_nil, or_false, not_or] at hn; exact trivial)) ((congrArg Int32.toInt (zz_i e82)).trans (rfl : (sy_i F 82).toInt = (sy_i F 82).toInt)) ((zz_i e82).trans (rfl : sy_i F 82 = sy_i F 82)) ((congrArg Int32.toInt (zz_i e83)).trans (by decide : ((0 : Int32)).toInt = 0)) ((zz_i e83).trans (rfl : (0 : Int32) = (0 : Int32))) ((congrArg Int32.toInt (zz_i e84)).trans (by decide : ((1 : Int32)).toInt = 1)) ((zz_i e84).trans (rfl : (1 : Int32) = (1 : Int32))))
theorem j0wd_5_p0 {Ls : Nat} {xs : Nat → Int32} {d : Nat} {Q : Option Value → jm_h → Prop} (hd : 1 ≤ d) (F : Nat → sy_d) (X1 X2 : List jm_c) (hB : iv_in F iv_B0)
    (h0 : (sy_i F 82).toInt ≤ (sy_i F 84).toInt)
    (k : ∀ F1 : Nat → sy_d, (∀ j, j < 82 → True → F1 j = F j) → Q (some (.int (sy_i F 83))) (sy_dh F1 X1 X2 (iv_H 0))) :
    hd_W Ls xs d jm_M73 Q (5, sy_dL F [some (.inl (.ref 70)), some (.inl (.ref 10)), some (.inr (.inl 82)), some (.inr (.inl 83)), some (.inr (.inl 84))], sy_dS F [], sy_dh F X1 X2 (iv_H 0), 0, 0) := by
  refine hd_ret (s := 0) (nv := 85) (v := some (.inr (.inl 83))) (uh := hd_ov (iv_id 0 iv_B0) []) (f := true) (sp := [22]) (d0 := 0) (O := [true]) (T := []) (P := [(4, .inr (.inl 82), .inr (.inl 84))]) jm_ok73 (by decide +kernel) (by decide +kernel) hd F X1 X2 (fun F' hF hs => ?_)
  have b82 := hd_b (F := F) (F' := F') (k := 82) (hF 82 (by decide))
  have b84 := hd_b (F := F) (F' := F') (k := 84) (hF 84 (by decide))
  have b83 := hd_b (F := F) (F' := F') (k := 83) (hF 83 (by decide))
  have hB' : iv_in F' iv_B0 := iv_in_eq hB (fun j hj => hF j (Nat.lt_of_lt_of_le hj (by decide +kernel)))
  have hk := k (sy_cm F' (hd_ov (iv_id 0 iv_B0) [] ++ [])) (fun j hj _ => (hd_keep hB' (Nat.lt_of_lt_of_le hj (by decide +kernel)) (by simp)).trans (hF j (Nat.lt_of_lt_of_le hj (by decide))))
  refine ⟨List.forall_mem_cons.mpr ⟨hd_p4 b82 b84 h0, fun _ h => absurd h List.not_mem_nil⟩, ?_⟩
  show Q (some (sy_dv F' (.inr (.inl 83)))) _
  rw [b83]
  exact hk
theorem j0wd_5_p1 {Ls : Nat} {xs : Nat → Int32} {d : Nat} {Q : Option Value → jm_h → Prop} (hd : 1 ≤ d) (F : Nat → sy_d) (X1 X2 : List jm_c) (hB : iv_in F iv_B0)
    (h0 : (sy_i F 84).toInt < (sy_i F 82).toInt)
    (h1 : 7 ≤ (sy_i F 84).toInt)
    (k : ∀ F1 : Nat → sy_d, (∀ j, j < 82 → True → F1 j = F j) → Q (some (.int (sy_i F 83))) (sy_dh F1 X1 X2 (iv_H 0))) :
    hd_W Ls xs d jm_M73 Q (5, sy_dL F [some (.inl (.ref 70)), some (.inl (.ref 10)), some (.inr (.inl 82)), some (.inr (.inl 83)), some (.inr (.inl 84))], sy_dS F [], sy_dh F X1 X2 (iv_H 0), 0, 0) := by
  refine hd_ret (s := 0) (nv := 85) (v := some (.inr (.inl 83))) (uh := hd_ov (iv_id 0 iv_B0) []) (f := true) (sp := [22]) (d0 := 0) (O := [false, true]) (T := []) (P := [(5, .inr (.inl 82), .inr (.inl 84)), (4, .inl (.int 7), .inr (.inl 84))]) jm_ok73 (by decide +kernel) (by decide +kernel) hd F X1 X2 (fun F' hF hs => ?_)
  have b82 := hd_b (F := F) (F' := F') (k := 82) (hF 82 (by decide))
  have b84 := hd_b (F := F) (F' := F') (k := 84) (hF 84 (by decide))
  have b83 := hd_b (F := F) (F' := F') (k := 83) (hF 83 (by decide))
  have hB' : iv_in F' iv_B0 := iv_in_eq hB (fun j hj => hF j (Nat.lt_of_lt_of_le hj (by decide +kernel)))
  have hk := k (sy_cm F' (hd_ov (iv_id 0 iv_B0) [] ++ [])) (fun j hj _ => (hd_keep hB' (Nat.lt_of_lt_of_le hj (by decide +kernel)) (by simp)).trans (hF j (Nat.lt_of_lt_of_le hj (by decide))))
  refine ⟨List.forall_mem_cons.mpr ⟨hd_p5 b82 b84 h0, List.forall_mem_cons.mpr ⟨hd_p4 rfl b84 (by have hc : ((7) : Int32).toInt = 7 := (by decide); omega), fun _ h => absurd h List.not_mem_nil⟩⟩, ?_⟩
  show Q (some (sy_dv F' (.inr (.inl 83)))) _
  rw [b83]
  exact hk
theorem j0wd_5_p2 {Ls : Nat} {xs : Nat → Int32} {d : Nat} {Q : Option Value → jm_h → Prop} (hd : 1 ≤ d) (F : Nat → sy_d) (X1 X2 : List jm_c) (hB : iv_in F iv_B0)
    (h0 : (sy_i F 84).toInt < (sy_i F 82).toInt)
    (h1 : (sy_i F 84).toInt < 7)
    (k : ∀ F1 : Nat → sy_d, (∀ j, j < 82 → True → F1 j = F j) → F1 82 = .inl (.int (sy_i F 82)) → F1 83 = .inl (.int (sy_i F 83)) → F1 84 = .inl (.int (sy_i F 84)) → hd_W Ls xs d jm_M73 Q (22, sy_dL F1 [some (.inl (.ref 70)), some (.inl (.ref 10)), some (.inr (.inl 82)), some (.inr (.inl 83)), some (.inr (.inl 84))], sy_dS F1 [.inr (.inl 84), .inl (.ref 10), .inl (.ref 70)], sy_dh F1 X1 X2 (iv_H 0), 0, 0)) :
    hd_W Ls xs d jm_M73 Q (5, sy_dL F [some (.inl (.ref 70)), some (.inl (.ref 10)), some (.inr (.inl 82)), some (.inr (.inl 83)), some (.inr (.inl 84))], sy_dS F [], sy_dh F X1 X2 (iv_H 0), 0, 0) := by
  refine hd_run (s := 0) (nv := 85) (pc := 22) (L := [some (.inl (.ref 70)), some (.inl (.ref 10)), some (.inr (.inl 82)), some (.inr (.inl 83)), some (.inr (.inl 84))]) (S := [.inr (.inl 84), .inl (.ref 10), .inl (.ref 70)]) (uh := hd_ov (iv_id 0 iv_B0) []) (ul := [.inl (.inr (.inl 82)), .inl (.inr (.inl 83)), .inl (.inr (.inl 84))]) (f := true) (sp := [22]) (d0 := 0) (O := [false, false]) (T := []) (P := [(5, .inr (.inl 82), .inr (.inl 84)), (5, .inl (.int 7), .inr (.inl 84))]) jm_ok73 (by decide +kernel) (by decide +kernel) hd F X1 X2 (fun F' hF hs => ?_)
  have b82 := hd_b (F := F) (F' := F') (k := 82) (hF 82 (by decide))
  have b84 := hd_b (F := F) (F' := F') (k := 84) (hF 84 (by decide))
  have b83 := hd_b (F := F) (F' := F') (k := 83) (hF 83 (by decide))
  have hB' : iv_in F' iv_B0 := iv_in_eq hB (fun j hj => hF j (Nat.lt_of_lt_of_le hj (by decide +kernel)))
  refine ⟨List.forall_mem_cons.mpr ⟨hd_p5 b82 b84 h0, List.forall_mem_cons.mpr ⟨hd_p5 rfl b84 (by have hc : ((7) : Int32).toInt = 7 := (by decide); omega), fun _ h => absurd h List.not_mem_nil⟩⟩, ?_⟩
  refine k _ ?_ ?_ ?_ ?_
  · exact fun j hj _ => (hd_keep hB' (Nat.lt_of_lt_of_le hj (by decide +kernel)) (by simp)).trans (hF j (Nat.lt_of_lt_of_le hj (by decide)))
  · exact hd_gi (x := .inr (.inl 82)) (by decide +kernel) b82
  · exact hd_gi (x := .inr (.inl 83)) (by decide +kernel) b83
  · exact hd_gi (x := .inr (.inl 84)) (by decide +kernel) b84
theorem j0wd_5 {Ls : Nat} {xs : Nat → Int32} {d : Nat} {Q : Option Value → jm_h → Prop} (hd : 1 ≤ d) (F : Nat → sy_d) (X1 X2 : List jm_c) (hB : iv_in F iv_B0)
    (a84 : 1 ≤ (sy_i F 84).toInt ∧ (sy_i F 84).toInt ≤ 7)
    (k0 : (sy_i F 82).toInt ≤ (sy_i F 84).toInt → ∀ F1 : Nat → sy_d, iv_in F1 iv_B0 → (∀ j, j < 82 → j ∉ ([] : List Nat) → F1 j = F j) → Q (some (.int (sy_i F 83))) (sy_dh F1 X1 X2 (iv_H 0)))
    (k1 : (sy_i F 84).toInt < (sy_i F 82).toInt → 7 ≤ (sy_i F 84).toInt → ∀ F1 : Nat → sy_d, iv_in F1 iv_B0 → (∀ j, j < 82 → j ∉ ([] : List Nat) → F1 j = F j) → Q (some (.int (sy_i F 83))) (sy_dh F1 X1 X2 (iv_H 0)))
    (k2 : (sy_i F 84).toInt < (sy_i F 82).toInt → (sy_i F 84).toInt < 7 → ∀ F1 : Nat → sy_d, iv_in F1 iv_B0 → (∀ j, j < 82 → j ∉ ([] : List Nat) → F1 j = F j) → (sy_i F1 82).toInt = (sy_i F 82).toInt → sy_i F1 82 = sy_i F 82 → (sy_i F1 83).toInt = (sy_i F 83).toInt → sy_i F1 83 = sy_i F 83 → (sy_i F1 84).toInt = (sy_i F 84).toInt → sy_i F1 84 = sy_i F 84 → hd_W Ls xs d jm_M73 Q (22, sy_dL F1 [some (.inl (.ref 70)), some (.inl (.ref 10)), some (.inr (.inl 82)), some (.inr (.inl 83)), some (.inr (.inl 84))], sy_dS F1 [.inr (.inl 84), .inl (.ref 10), .inl (.ref 70)], sy_dh F1 X1 X2 (iv_H 0), 0, 0)) :
    hd_W Ls xs d jm_M73 Q (5, sy_dL F [some (.inl (.ref 70)), some (.inl (.ref 10)), some (.inr (.inl 82)), some (.inr (.inl 83)), some (.inr (.inl 84))], sy_dS F [], sy_dh F X1 X2 (iv_H 0), 0, 0) := by
  by_cases g0 : (sy_i F 82).toInt ≤ (sy_i F 84).toInt
  · exact j0wd_5_p0 hd F X1 X2 hB (by first | exact g0 | (simp only [nz_c]; exact g0)) (fun F1 g  => by rw [(rfl : sy_i F 83 = sy_i F 83)]; exact k0 g0 F1 (nz_in0 hB [] (fun j hj hn => g j hj (by simp only [List.mem_cons, List.not_mem_nil, or_false, not_or] at hn; exact trivial)) (List.forall_mem_nil _)) (fun j hj hn => g j hj (by simp only [List.mem_cons, List.not_mem_nil, or_false, not_or] at hn; exact trivial)) )
  replace g0 : (sy_i F 84).toInt < (sy_i F 82).toInt := by omega
  by_cases g1 : 7 ≤ (sy_i F 84).toInt
  · exact j0wd_5_p1 hd F X1 X2 hB (by first | exact g0 | (simp only [nz_c]; exact g0)) (by first | exact g1 | (simp only [nz_c]; exact g1)) (fun F1 g  => by rw [(rfl : sy_i F 83 = sy_i F 83)]; exact k1 g0 g1 F1 (nz_in0 hB [] (fun j hj hn => g j hj (by simp only [List.mem_cons, List.not_mem_nil, or_false, not_or] at hn; exact trivial)) (List.forall_mem_nil _)) (fun j hj hn => g j hj (by simp only [List.mem_cons, List.not_mem_nil, or_false, not_or] at hn; exact trivial)) )
  replace g1 : (sy_i F 84).toInt < 7 := by omega
  exact j0wd_5_p2 hd F X1 X2 hB (by first | exact g0 | (simp only [nz_c]; exact g0)) (by first | exact g1 | (simp only [nz_c]; exact g1)) (fun F1 g e82 e83 e84 => k2 g0 g1 F1 (nz_in0 hB [] (fun j hj hn => g j hj (by simp only [List.mem_cons, List.not_mem_nil, or_false, not_or] at hn; exact trivial)) (List.forall_mem_nil _)) (fun j hj hn => g j hj (by simp only [List.mem_cons, List.not_mem_nil, or_false, not_or] at hn; exact trivial)) ((congrArg Int32.toInt (zz_i e82)).trans (rfl : (sy_i F 82).toInt = (sy_i F 82).toInt)) ((zz_i e82).trans (rfl : sy_i F 82 = sy_i F 82)) ((congrArg Int32.toInt (zz_i e83)).trans (rfl : (sy_i F 83).toInt = (sy_i F 83).toInt)) ((zz_i e83).trans (rfl : sy_i F 83 = sy_i F 83)) ((congrArg Int32.toInt (zz_i e84)).trans (rfl : (sy_i F 84).toInt = (sy_i F 84).toInt)) ((zz_i e84).trans (rfl : sy_i F 84 = sy_i F 84)))
theorem j0wd_25_p0 {Ls : Nat} {xs : Nat → Int32} {d : Nat} {Q : Option Value → jm_h → Prop} (hd : 1 ≤ d) (F : Nat → sy_d) (X1 X2 : List jm_c) (hB : iv_in F iv_B0)
    (k : ∀ F1 : Nat → sy_d, (∀ j, j < 82 → True → F1 j = F j) → F1 82 = .inl (.int (sy_i F 82)) → F1 83 = .inl (.int (sy_i F 83)) → F1 84 = .inl (.int (sy_i F 84)) → F1 85 = .inl (.int (sy_i F 85)) → hd_W Ls xs d jm_M73 Q (28, sy_dL F1 [some (.inl (.ref 70)), some (.inl (.ref 10)), some (.inr (.inl 82)), some (.inr (.inl 83)), some (.inr (.inl 84))], sy_dS F1 [.inr (.inl 83), .inl (.ref 10), .inl (.ref 70), .inr (.inl 85)], sy_dh F1 X1 X2 (iv_H 0), 0, 0)) :
    hd_W Ls xs d jm_M73 Q (25, sy_dL F [some (.inl (.ref 70)), some (.inl (.ref 10)), some (.inr (.inl 82)), some (.inr (.inl 83)), some (.inr (.inl 84))], sy_dS F [.inr (.inl 85)], sy_dh F X1 X2 (iv_H 0), 0, 0) := by
  refine hd_run (s := 0) (nv := 86) (pc := 28) (L := [some (.inl (.ref 70)), some (.inl (.ref 10)), some (.inr (.inl 82)), some (.inr (.inl 83)), some (.inr (.inl 84))]) (S := [.inr (.inl 83), .inl (.ref 10), .inl (.ref 70), .inr (.inl 85)]) (uh := hd_ov (iv_id 0 iv_B0) []) (ul := [.inl (.inr (.inl 82)), .inl (.inr (.inl 83)), .inl (.inr (.inl 84)), .inl (.inr (.inl 85))]) (f := false) (sp := [28]) (d0 := 0) (O := []) (T := []) (P := []) jm_ok73 (by decide +kernel) (by decide +kernel) hd F X1 X2 (fun F' hF hs => ?_)
  have b82 := hd_b (F := F) (F' := F') (k := 82) (hF 82 (by decide))
  have b83 := hd_b (F := F) (F' := F') (k := 83) (hF 83 (by decide))
  have b84 := hd_b (F := F) (F' := F') (k := 84) (hF 84 (by decide))
  have b85 := hd_b (F := F) (F' := F') (k := 85) (hF 85 (by decide))
  have hB' : iv_in F' iv_B0 := iv_in_eq hB (fun j hj => hF j (Nat.lt_of_lt_of_le hj (by decide +kernel)))
  refine ⟨fun _ h => absurd h List.not_mem_nil, ?_⟩
  refine k _ ?_ ?_ ?_ ?_ ?_
  · exact fun j hj _ => (hd_keep hB' (Nat.lt_of_lt_of_le hj (by decide +kernel)) (by simp)).trans (hF j (Nat.lt_of_lt_of_le hj (by decide)))
  · exact hd_gi (x := .inr (.inl 82)) (by decide +kernel) b82
  · exact hd_gi (x := .inr (.inl 83)) (by decide +kernel) b83
  · exact hd_gi (x := .inr (.inl 84)) (by decide +kernel) b84
  · exact hd_gi (x := .inr (.inl 85)) (by decide +kernel) b85
theorem j0wd_25 {Ls : Nat} {xs : Nat → Int32} {d : Nat} {Q : Option Value → jm_h → Prop} (hd : 1 ≤ d) (F : Nat → sy_d) (X1 X2 : List jm_c) (hB : iv_in F iv_B0)
    (k0 : ∀ F1 : Nat → sy_d, iv_in F1 iv_B0 → (∀ j, j < 82 → j ∉ ([] : List Nat) → F1 j = F j) → (sy_i F1 82).toInt = (sy_i F 82).toInt → sy_i F1 82 = sy_i F 82 → (sy_i F1 83).toInt = (sy_i F 83).toInt → sy_i F1 83 = sy_i F 83 → (sy_i F1 84).toInt = (sy_i F 84).toInt → sy_i F1 84 = sy_i F 84 → (sy_i F1 85).toInt = (sy_i F 85).toInt → sy_i F1 85 = sy_i F 85 → hd_W Ls xs d jm_M73 Q (28, sy_dL F1 [some (.inl (.ref 70)), some (.inl (.ref 10)), some (.inr (.inl 82)), some (.inr (.inl 83)), some (.inr (.inl 84))], sy_dS F1 [.inr (.inl 83), .inl (.ref 10), .inl (.ref 70), .inr (.inl 85)], sy_dh F1 X1 X2 (iv_H 0), 0, 0)) :
    hd_W Ls xs d jm_M73 Q (25, sy_dL F [some (.inl (.ref 70)), some (.inl (.ref 10)), some (.inr (.inl 82)), some (.inr (.inl 83)), some (.inr (.inl 84))], sy_dS F [.inr (.inl 85)], sy_dh F X1 X2 (iv_H 0), 0, 0) := by
  exact j0wd_25_p0 hd F X1 X2 hB  (fun F1 g e82 e83 e84 e85 => k0 F1 (nz_in0 hB [] (fun j hj hn => g j hj (by simp only [List.mem_cons, List.not_mem_nil, or_false, not_or] at hn; exact trivial)) (List.forall_mem_nil _)) (fun j hj hn => g j hj (by simp only [List.mem_cons, List.not_mem_nil, or_false, not_or] at hn; exact trivial)) ((congrArg Int32.toInt (zz_i e82)).trans (rfl : (sy_i F 82).toInt = (sy_i F 82).toInt)) ((zz_i e82).trans (rfl : sy_i F 82 = sy_i F 82)) ((congrArg Int32.toInt (zz_i e83)).trans (rfl : (sy_i F 83).toInt = (sy_i F 83).toInt)) ((zz_i e83).trans (rfl : sy_i F 83 = sy_i F 83)) ((congrArg Int32.toInt (zz_i e84)).trans (rfl : (sy_i F 84).toInt = (sy_i F 84).toInt)) ((zz_i e84).trans (rfl : sy_i F 84 = sy_i F 84)) ((congrArg Int32.toInt (zz_i e85)).trans (rfl : (sy_i F 85).toInt = (sy_i F 85).toInt)) ((zz_i e85).trans (rfl : sy_i F 85 = sy_i F 85)))
theorem j0wd_31_p0 {Ls : Nat} {xs : Nat → Int32} {d : Nat} {Q : Option Value → jm_h → Prop} (hd : 1 ≤ d) (F : Nat → sy_d) (X1 X2 : List jm_c) (hB : iv_in F iv_B0)
    (h0 : (sy_i F 85).toInt ≤ (sy_i F 86).toInt)
    (k : ∀ F1 : Nat → sy_d, (∀ j, j < 82 → True → F1 j = F j) → F1 82 = .inl (.int (sy_i F 82)) → F1 83 = .inl (.int (sy_i F 83)) → F1 84 = .inl (.int ((sy_i F 84) + ((1 : Int32)))) → hd_W Ls xs d jm_M73 Q (5, sy_dL F1 [some (.inl (.ref 70)), some (.inl (.ref 10)), some (.inr (.inl 82)), some (.inr (.inl 83)), some (.inr (.inl 84))], sy_dS F1 [], sy_dh F1 X1 X2 (iv_H 0), 0, 0)) :
    hd_W Ls xs d jm_M73 Q (31, sy_dL F [some (.inl (.ref 70)), some (.inl (.ref 10)), some (.inr (.inl 82)), some (.inr (.inl 83)), some (.inr (.inl 84))], sy_dS F [.inr (.inl 86), .inr (.inl 85)], sy_dh F X1 X2 (iv_H 0), 0, 0) := by
  refine hd_run (s := 0) (nv := 87) (pc := 5) (L := [some (.inl (.ref 70)), some (.inl (.ref 10)), some (.inr (.inl 82)), some (.inr (.inl 83)), some (.inr (.inl 84))]) (S := []) (uh := hd_ov (iv_id 0 iv_B0) []) (ul := [.inl (.inr (.inl 82)), .inl (.inr (.inl 83)), .inl (.inr (.inl 87))]) (f := false) (sp := [5]) (d0 := 0) (O := [true]) (T := [(0, [.inr (.inl 84), .inl (.int 1)], [])]) (P := [(4, .inr (.inl 85), .inr (.inl 86))]) jm_ok73 (by decide +kernel) (by decide +kernel) hd F X1 X2 (fun F' hF hs => ?_)
  have b85 := hd_b (F := F) (F' := F') (k := 85) (hF 85 (by decide))
  have b86 := hd_b (F := F) (F' := F') (k := 86) (hF 86 (by decide))
  have b82 := hd_b (F := F) (F' := F') (k := 82) (hF 82 (by decide))
  have b83 := hd_b (F := F) (F' := F') (k := 83) (hF 83 (by decide))
  have b84 := hd_b (F := F) (F' := F') (k := 84) (hF 84 (by decide))
  have t87 : sy_dv F' (.inr (.inl 87)) = .int ((sy_i F 84) + ((1 : Int32))) := hd_o (hs 0 _ rfl) b84 rfl rfl
  have hB' : iv_in F' iv_B0 := iv_in_eq hB (fun j hj => hF j (Nat.lt_of_lt_of_le hj (by decide +kernel)))
  refine ⟨List.forall_mem_cons.mpr ⟨hd_p4 b85 b86 h0, fun _ h => absurd h List.not_mem_nil⟩, ?_⟩
  refine k _ ?_ ?_ ?_ ?_
  · exact fun j hj _ => (hd_keep hB' (Nat.lt_of_lt_of_le hj (by decide +kernel)) (by simp)).trans (hF j (Nat.lt_of_lt_of_le hj (by decide)))
  · exact hd_gi (x := .inr (.inl 82)) (by decide +kernel) b82
  · exact hd_gi (x := .inr (.inl 83)) (by decide +kernel) b83
  · exact hd_gi (x := .inr (.inl 87)) (by decide +kernel) t87
theorem j0wd_31_p1 {Ls : Nat} {xs : Nat → Int32} {d : Nat} {Q : Option Value → jm_h → Prop} (hd : 1 ≤ d) (F : Nat → sy_d) (X1 X2 : List jm_c) (hB : iv_in F iv_B0)
    (h0 : (sy_i F 86).toInt < (sy_i F 85).toInt)
    (k : ∀ F1 : Nat → sy_d, (∀ j, j < 82 → True → F1 j = F j) → F1 82 = .inl (.int (sy_i F 82)) → F1 83 = .inl (.int (sy_i F 84)) → F1 84 = .inl (.int ((sy_i F 84) + ((1 : Int32)))) → hd_W Ls xs d jm_M73 Q (5, sy_dL F1 [some (.inl (.ref 70)), some (.inl (.ref 10)), some (.inr (.inl 82)), some (.inr (.inl 83)), some (.inr (.inl 84))], sy_dS F1 [], sy_dh F1 X1 X2 (iv_H 0), 0, 0)) :
    hd_W Ls xs d jm_M73 Q (31, sy_dL F [some (.inl (.ref 70)), some (.inl (.ref 10)), some (.inr (.inl 82)), some (.inr (.inl 83)), some (.inr (.inl 84))], sy_dS F [.inr (.inl 86), .inr (.inl 85)], sy_dh F X1 X2 (iv_H 0), 0, 0) := by
  refine hd_run (s := 0) (nv := 87) (pc := 5) (L := [some (.inl (.ref 70)), some (.inl (.ref 10)), some (.inr (.inl 82)), some (.inr (.inl 83)), some (.inr (.inl 84))]) (S := []) (uh := hd_ov (iv_id 0 iv_B0) []) (ul := [.inl (.inr (.inl 82)), .inl (.inr (.inl 84)), .inl (.inr (.inl 87))]) (f := false) (sp := [5]) (d0 := 0) (O := [false]) (T := [(0, [.inr (.inl 84), .inl (.int 1)], [])]) (P := [(5, .inr (.inl 85), .inr (.inl 86))]) jm_ok73 (by decide +kernel) (by decide +kernel) hd F X1 X2 (fun F' hF hs => ?_)
  have b85 := hd_b (F := F) (F' := F') (k := 85) (hF 85 (by decide))
  have b86 := hd_b (F := F) (F' := F') (k := 86) (hF 86 (by decide))
  have b82 := hd_b (F := F) (F' := F') (k := 82) (hF 82 (by decide))
  have b84 := hd_b (F := F) (F' := F') (k := 84) (hF 84 (by decide))
  have t87 : sy_dv F' (.inr (.inl 87)) = .int ((sy_i F 84) + ((1 : Int32))) := hd_o (hs 0 _ rfl) b84 rfl rfl
  have hB' : iv_in F' iv_B0 := iv_in_eq hB (fun j hj => hF j (Nat.lt_of_lt_of_le hj (by decide +kernel)))
  refine ⟨List.forall_mem_cons.mpr ⟨hd_p5 b85 b86 h0, fun _ h => absurd h List.not_mem_nil⟩, ?_⟩
  refine k _ ?_ ?_ ?_ ?_
  · exact fun j hj _ => (hd_keep hB' (Nat.lt_of_lt_of_le hj (by decide +kernel)) (by simp)).trans (hF j (Nat.lt_of_lt_of_le hj (by decide)))
  · exact hd_gi (x := .inr (.inl 82)) (by decide +kernel) b82
  · exact hd_gi (x := .inr (.inl 84)) (by decide +kernel) b84
  · exact hd_gi (x := .inr (.inl 87)) (by decide +kernel) t87
theorem j0wd_31 {Ls : Nat} {xs : Nat → Int32} {d : Nat} {Q : Option Value → jm_h → Prop} (hd : 1 ≤ d) (F : Nat → sy_d) (X1 X2 : List jm_c) (hB : iv_in F iv_B0)
    (a84 : 1 ≤ (sy_i F 84).toInt ∧ (sy_i F 84).toInt ≤ 6)
    (k0 : (sy_i F 85).toInt ≤ (sy_i F 86).toInt → ∀ F1 : Nat → sy_d, iv_in F1 iv_B0 → (∀ j, j < 82 → j ∉ ([] : List Nat) → F1 j = F j) → (sy_i F1 82).toInt = (sy_i F 82).toInt → sy_i F1 82 = sy_i F 82 → (sy_i F1 83).toInt = (sy_i F 83).toInt → sy_i F1 83 = sy_i F 83 → (sy_i F1 84).toInt = ((sy_i F 84).toInt + 1) → sy_i F1 84 = (sy_i F 84) + ((1 : Int32)) → hd_W Ls xs d jm_M73 Q (5, sy_dL F1 [some (.inl (.ref 70)), some (.inl (.ref 10)), some (.inr (.inl 82)), some (.inr (.inl 83)), some (.inr (.inl 84))], sy_dS F1 [], sy_dh F1 X1 X2 (iv_H 0), 0, 0))
    (k1 : (sy_i F 86).toInt < (sy_i F 85).toInt → ∀ F1 : Nat → sy_d, iv_in F1 iv_B0 → (∀ j, j < 82 → j ∉ ([] : List Nat) → F1 j = F j) → (sy_i F1 82).toInt = (sy_i F 82).toInt → sy_i F1 82 = sy_i F 82 → (sy_i F1 83).toInt = (sy_i F 84).toInt → sy_i F1 83 = sy_i F 84 → (sy_i F1 84).toInt = ((sy_i F 84).toInt + 1) → sy_i F1 84 = (sy_i F 84) + ((1 : Int32)) → hd_W Ls xs d jm_M73 Q (5, sy_dL F1 [some (.inl (.ref 70)), some (.inl (.ref 10)), some (.inr (.inl 82)), some (.inr (.inl 83)), some (.inr (.inl 84))], sy_dS F1 [], sy_dh F1 X1 X2 (iv_H 0), 0, 0)) :
    hd_W Ls xs d jm_M73 Q (31, sy_dL F [some (.inl (.ref 70)), some (.inl (.ref 10)), some (.inr (.inl 82)), some (.inr (.inl 83)), some (.inr (.inl 84))], sy_dS F [.inr (.inl 86), .inr (.inl 85)], sy_dh F X1 X2 (iv_H 0), 0, 0) := by
  by_cases g0 : (sy_i F 85).toInt ≤ (sy_i F 86).toInt
  · have n87 : nzI ((sy_i F 84) + ((1 : Int32))) (((sy_i F 84).toInt + 1)) := nz_add (rfl : (sy_i F 84).toInt = (sy_i F 84).toInt) (by decide : ((1 : Int32)).toInt = 1) (by omega) (by omega)
    exact j0wd_31_p0 hd F X1 X2 hB (by first | exact g0 | (simp only [nz_c]; exact g0)) (fun F1 g e82 e83 e84 => k0 g0 F1 (nz_in0 hB [] (fun j hj hn => g j hj (by simp only [List.mem_cons, List.not_mem_nil, or_false, not_or] at hn; exact trivial)) (List.forall_mem_nil _)) (fun j hj hn => g j hj (by simp only [List.mem_cons, List.not_mem_nil, or_false, not_or] at hn; exact trivial)) ((congrArg Int32.toInt (zz_i e82)).trans (rfl : (sy_i F 82).toInt = (sy_i F 82).toInt)) ((zz_i e82).trans (rfl : sy_i F 82 = sy_i F 82)) ((congrArg Int32.toInt (zz_i e83)).trans (rfl : (sy_i F 83).toInt = (sy_i F 83).toInt)) ((zz_i e83).trans (rfl : sy_i F 83 = sy_i F 83)) ((congrArg Int32.toInt (zz_i e84)).trans (nzE n87)) ((zz_i e84).trans (rfl : (sy_i F 84) + ((1 : Int32)) = (sy_i F 84) + ((1 : Int32)))))
  replace g0 : (sy_i F 86).toInt < (sy_i F 85).toInt := by omega
  have n87 : nzI ((sy_i F 84) + ((1 : Int32))) (((sy_i F 84).toInt + 1)) := nz_add (rfl : (sy_i F 84).toInt = (sy_i F 84).toInt) (by decide : ((1 : Int32)).toInt = 1) (by omega) (by omega)
  exact j0wd_31_p1 hd F X1 X2 hB (by first | exact g0 | (simp only [nz_c]; exact g0)) (fun F1 g e82 e83 e84 => k1 g0 F1 (nz_in0 hB [] (fun j hj hn => g j hj (by simp only [List.mem_cons, List.not_mem_nil, or_false, not_or] at hn; exact trivial)) (List.forall_mem_nil _)) (fun j hj hn => g j hj (by simp only [List.mem_cons, List.not_mem_nil, or_false, not_or] at hn; exact trivial)) ((congrArg Int32.toInt (zz_i e82)).trans (rfl : (sy_i F 82).toInt = (sy_i F 82).toInt)) ((zz_i e82).trans (rfl : sy_i F 82 = sy_i F 82)) ((congrArg Int32.toInt (zz_i e83)).trans (rfl : (sy_i F 84).toInt = (sy_i F 84).toInt)) ((zz_i e83).trans (rfl : sy_i F 84 = sy_i F 84)) ((congrArg Int32.toInt (zz_i e84)).trans (nzE n87)) ((zz_i e84).trans (rfl : (sy_i F 84) + ((1 : Int32)) = (sy_i F 84) + ((1 : Int32)))))
theorem j0rw_0_p0 {Ls : Nat} {xs : Nat → Int32} {d : Nat} {Q : Option Value → jm_h → Prop} (hd : 2 ≤ d) (F : Nat → sy_d) (X1 X2 : List jm_c) (hB : iv_in F iv_B0)
    (h0 : (sy_i F 82).toInt < 0)
    (k : ∀ F1 : Nat → sy_d, (∀ j, j < 82 → True → F1 j = F j) → Q (some (.int (((-1) : Int32)))) (sy_dh F1 X1 X2 (iv_H 0))) :
    hd_W Ls xs d jm_M110 Q (0, sy_dL F [some (.inl (.ref 8)), some (.inr (.inl 82))], sy_dS F [], sy_dh F X1 X2 (iv_H 0), 0, 0) := by
  refine hd_ret (s := 0) (nv := 83) (v := some (.inl (.int (-1)))) (uh := hd_ov (iv_id 0 iv_B0) []) (f := true) (sp := [24]) (d0 := 1) (O := [true]) (T := []) (P := [(2, .inr (.inl 82), .inl (.int 0))]) jm_ok110 (by decide +kernel) (by decide +kernel) hd F X1 X2 (fun F' hF hs => ?_)
  have b82 := hd_b (F := F) (F' := F') (k := 82) (hF 82 (by decide))
  have hB' : iv_in F' iv_B0 := iv_in_eq hB (fun j hj => hF j (Nat.lt_of_lt_of_le hj (by decide +kernel)))
  refine ⟨List.forall_mem_cons.mpr ⟨hd_p2 b82 rfl (by have hc : ((0) : Int32).toInt = 0 := (by decide); omega), fun _ h => absurd h List.not_mem_nil⟩, ?_⟩
  refine k _ ?_
  · exact fun j hj _ => (hd_keep hB' (Nat.lt_of_lt_of_le hj (by decide +kernel)) (by simp)).trans (hF j (Nat.lt_of_lt_of_le hj (by decide)))
theorem j0rw_0_p1 {Ls : Nat} {xs : Nat → Int32} {d : Nat} {Q : Option Value → jm_h → Prop} (hd : 2 ≤ d) (F : Nat → sy_d) (X1 X2 : List jm_c) (hB : iv_in F iv_B0)
    (h0 : 0 ≤ (sy_i F 82).toInt)
    (h1 : (sy_i F 79).toInt < (sy_i F 82).toInt)
    (k : ∀ F1 : Nat → sy_d, (∀ j, j < 82 → True → F1 j = F j) → Q (some (.int (((-1) : Int32)))) (sy_dh F1 X1 X2 (iv_H 0))) :
    hd_W Ls xs d jm_M110 Q (0, sy_dL F [some (.inl (.ref 8)), some (.inr (.inl 82))], sy_dS F [], sy_dh F X1 X2 (iv_H 0), 0, 0) := by
  refine hd_ret (s := 0) (nv := 83) (v := some (.inl (.int (-1)))) (uh := hd_ov (iv_id 0 iv_B0) []) (f := true) (sp := [24]) (d0 := 1) (O := [false, true]) (T := []) (P := [(3, .inr (.inl 82), .inl (.int 0)), (2, .inr (.inl 79), .inr (.inl 82))]) jm_ok110 (by decide +kernel) (by decide +kernel) hd F X1 X2 (fun F' hF hs => ?_)
  have b82 := hd_b (F := F) (F' := F') (k := 82) (hF 82 (by decide))
  have b79 := hd_b (F := F) (F' := F') (k := 79) (hF 79 (by decide))
  have hB' : iv_in F' iv_B0 := iv_in_eq hB (fun j hj => hF j (Nat.lt_of_lt_of_le hj (by decide +kernel)))
  refine ⟨List.forall_mem_cons.mpr ⟨hd_p3 b82 rfl (by have hc : ((0) : Int32).toInt = 0 := (by decide); omega), List.forall_mem_cons.mpr ⟨hd_p2 b79 b82 h1, fun _ h => absurd h List.not_mem_nil⟩⟩, ?_⟩
  refine k _ ?_
  · exact fun j hj _ => (hd_keep hB' (Nat.lt_of_lt_of_le hj (by decide +kernel)) (by simp)).trans (hF j (Nat.lt_of_lt_of_le hj (by decide)))
theorem j0rw_0_p2 {Ls : Nat} {xs : Nat → Int32} {d : Nat} {Q : Option Value → jm_h → Prop} (hd : 2 ≤ d) (F : Nat → sy_d) (X1 X2 : List jm_c) (hB : iv_in F iv_B0)
    (h0 : 0 ≤ (sy_i F 82).toInt)
    (h1 : (sy_i F 82).toInt ≤ (sy_i F 79).toInt)
    (k : ∀ F1 : Nat → sy_d, (∀ j, j < 82 → True → F1 j = F j) → F1 82 = .inl (.int (sy_i F 82)) → hd_W Ls xs d jm_M110 Q (24, sy_dL F1 [some (.inl (.ref 8)), none], sy_dS F1 [.inr (.inl 82), .inl (.ref 10), .inl (.ref 70)], sy_dh F1 X1 X2 (iv_H 0), 0, 0)) :
    hd_W Ls xs d jm_M110 Q (0, sy_dL F [some (.inl (.ref 8)), some (.inr (.inl 82))], sy_dS F [], sy_dh F X1 X2 (iv_H 0), 0, 0) := by
  refine hd_run (s := 0) (nv := 83) (pc := 24) (L := [some (.inl (.ref 8)), none]) (S := [.inr (.inl 82), .inl (.ref 10), .inl (.ref 70)]) (uh := hd_ov (iv_id 0 iv_B0) []) (ul := [.inl (.inr (.inl 82))]) (f := true) (sp := [24]) (d0 := 1) (O := [false, false]) (T := []) (P := [(3, .inr (.inl 82), .inl (.int 0)), (3, .inr (.inl 79), .inr (.inl 82))]) jm_ok110 (by decide +kernel) (by decide +kernel) hd F X1 X2 (fun F' hF hs => ?_)
  have b82 := hd_b (F := F) (F' := F') (k := 82) (hF 82 (by decide))
  have b79 := hd_b (F := F) (F' := F') (k := 79) (hF 79 (by decide))
  have hB' : iv_in F' iv_B0 := iv_in_eq hB (fun j hj => hF j (Nat.lt_of_lt_of_le hj (by decide +kernel)))
  refine ⟨List.forall_mem_cons.mpr ⟨hd_p3 b82 rfl (by have hc : ((0) : Int32).toInt = 0 := (by decide); omega), List.forall_mem_cons.mpr ⟨hd_p3 b79 b82 h1, fun _ h => absurd h List.not_mem_nil⟩⟩, ?_⟩
  refine k _ ?_ ?_
  · exact fun j hj _ => (hd_keep hB' (Nat.lt_of_lt_of_le hj (by decide +kernel)) (by simp)).trans (hF j (Nat.lt_of_lt_of_le hj (by decide)))
  · exact hd_gi (x := .inr (.inl 82)) (by decide +kernel) b82
theorem j0rw_0 {Ls : Nat} {xs : Nat → Int32} {d : Nat} {Q : Option Value → jm_h → Prop} (hd : 2 ≤ d) (F : Nat → sy_d) (X1 X2 : List jm_c) (hB : iv_in F iv_B0)
    (k0 : (sy_i F 82).toInt < 0 → ∀ F1 : Nat → sy_d, iv_in F1 iv_B0 → (∀ j, j < 82 → j ∉ ([] : List Nat) → F1 j = F j) → Q (some (.int (((-1) : Int32)))) (sy_dh F1 X1 X2 (iv_H 0)))
    (k1 : 0 ≤ (sy_i F 82).toInt → (sy_i F 79).toInt < (sy_i F 82).toInt → ∀ F1 : Nat → sy_d, iv_in F1 iv_B0 → (∀ j, j < 82 → j ∉ ([] : List Nat) → F1 j = F j) → Q (some (.int (((-1) : Int32)))) (sy_dh F1 X1 X2 (iv_H 0)))
    (k2 : 0 ≤ (sy_i F 82).toInt → (sy_i F 82).toInt ≤ (sy_i F 79).toInt → ∀ F1 : Nat → sy_d, iv_in F1 iv_B0 → (∀ j, j < 82 → j ∉ ([] : List Nat) → F1 j = F j) → (sy_i F1 82).toInt = (sy_i F 82).toInt → sy_i F1 82 = sy_i F 82 → hd_W Ls xs d jm_M110 Q (24, sy_dL F1 [some (.inl (.ref 8)), none], sy_dS F1 [.inr (.inl 82), .inl (.ref 10), .inl (.ref 70)], sy_dh F1 X1 X2 (iv_H 0), 0, 0)) :
    hd_W Ls xs d jm_M110 Q (0, sy_dL F [some (.inl (.ref 8)), some (.inr (.inl 82))], sy_dS F [], sy_dh F X1 X2 (iv_H 0), 0, 0) := by
  by_cases g0 : (sy_i F 82).toInt < 0
  · exact j0rw_0_p0 hd F X1 X2 hB (by first | exact g0 | (simp only [nz_c]; exact g0)) (fun F1 g  => k0 g0 F1 (nz_in0 hB [] (fun j hj hn => g j hj (by simp only [List.mem_cons, List.not_mem_nil, or_false, not_or] at hn; exact trivial)) (List.forall_mem_nil _)) (fun j hj hn => g j hj (by simp only [List.mem_cons, List.not_mem_nil, or_false, not_or] at hn; exact trivial)) )
  replace g0 : 0 ≤ (sy_i F 82).toInt := by omega
  by_cases g1 : (sy_i F 79).toInt < (sy_i F 82).toInt
  · have c79 := nz_bx hB (k := 79) (lo := 0) (hi := 7) rfl
    exact j0rw_0_p1 hd F X1 X2 hB (by first | exact g0 | (simp only [nz_c]; exact g0)) (by first | exact g1 | (simp only [nz_c]; exact g1)) (fun F1 g  => k1 g0 g1 F1 (nz_in0 hB [] (fun j hj hn => g j hj (by simp only [List.mem_cons, List.not_mem_nil, or_false, not_or] at hn; exact trivial)) (List.forall_mem_nil _)) (fun j hj hn => g j hj (by simp only [List.mem_cons, List.not_mem_nil, or_false, not_or] at hn; exact trivial)) )
  replace g1 : (sy_i F 82).toInt ≤ (sy_i F 79).toInt := by omega
  have c79 := nz_bx hB (k := 79) (lo := 0) (hi := 7) rfl
  exact j0rw_0_p2 hd F X1 X2 hB (by first | exact g0 | (simp only [nz_c]; exact g0)) (by first | exact g1 | (simp only [nz_c]; exact g1)) (fun F1 g e82 => k2 g0 g1 F1 (nz_in0 hB [] (fun j hj hn => g j hj (by simp only [List.mem_cons, List.not_mem_nil, or_false, not_or] at hn; exact trivial)) (List.forall_mem_nil _)) (fun j hj hn => g j hj (by simp only [List.mem_cons, List.not_mem_nil, or_false, not_or] at hn; exact trivial)) ((congrArg Int32.toInt (zz_i e82)).trans (rfl : (sy_i F 82).toInt = (sy_i F 82).toInt)) ((zz_i e82).trans (rfl : sy_i F 82 = sy_i F 82)))
theorem j0rw_27_p0 {Ls : Nat} {xs : Nat → Int32} {d : Nat} {Q : Option Value → jm_h → Prop} (hd : 1 ≤ d) (F : Nat → sy_d) (X1 X2 : List jm_c) (hB : iv_in F iv_B0)
    (k : ∀ F1 : Nat → sy_d, (∀ j, j < 82 → True → F1 j = F j) → Q (some (.int (sy_i F 82))) (sy_dh F1 X1 X2 (iv_H 0))) :
    hd_W Ls xs d jm_M110 Q (27, sy_dL F [some (.inl (.ref 8)), none], sy_dS F [.inr (.inl 82)], sy_dh F X1 X2 (iv_H 0), 0, 0) := by
  refine hd_ret (s := 0) (nv := 83) (v := some (.inr (.inl 82))) (uh := hd_ov (iv_id 0 iv_B0) []) (f := false) (sp := []) (d0 := 0) (O := []) (T := []) (P := []) jm_ok110 (by decide +kernel) (by decide +kernel) hd F X1 X2 (fun F' hF hs => ?_)
  have b82 := hd_b (F := F) (F' := F') (k := 82) (hF 82 (by decide))
  have hB' : iv_in F' iv_B0 := iv_in_eq hB (fun j hj => hF j (Nat.lt_of_lt_of_le hj (by decide +kernel)))
  have hk := k (sy_cm F' (hd_ov (iv_id 0 iv_B0) [] ++ [])) (fun j hj _ => (hd_keep hB' (Nat.lt_of_lt_of_le hj (by decide +kernel)) (by simp)).trans (hF j (Nat.lt_of_lt_of_le hj (by decide))))
  refine ⟨fun _ h => absurd h List.not_mem_nil, ?_⟩
  show Q (some (sy_dv F' (.inr (.inl 82)))) _
  rw [b82]
  exact hk
theorem j0rw_27 {Ls : Nat} {xs : Nat → Int32} {d : Nat} {Q : Option Value → jm_h → Prop} (hd : 1 ≤ d) (F : Nat → sy_d) (X1 X2 : List jm_c) (hB : iv_in F iv_B0)
    (k0 : ∀ F1 : Nat → sy_d, iv_in F1 iv_B0 → (∀ j, j < 82 → j ∉ ([] : List Nat) → F1 j = F j) → Q (some (.int (sy_i F 82))) (sy_dh F1 X1 X2 (iv_H 0))) :
    hd_W Ls xs d jm_M110 Q (27, sy_dL F [some (.inl (.ref 8)), none], sy_dS F [.inr (.inl 82)], sy_dh F X1 X2 (iv_H 0), 0, 0) := by
  exact j0rw_27_p0 hd F X1 X2 hB  (fun F1 g  => by rw [(rfl : sy_i F 82 = sy_i F 82)]; exact k0 F1 (nz_in0 hB [] (fun j hj hn => g j hj (by simp only [List.mem_cons, List.not_mem_nil, or_false, not_or] at hn; exact trivial)) (List.forall_mem_nil _)) (fun j hj hn => g j hj (by simp only [List.mem_cons, List.not_mem_nil, or_false, not_or] at hn; exact trivial)) )
theorem j0su_0_p0 {Ls : Nat} {xs : Nat → Int32} {d : Nat} {Q : Option Value → jm_h → Prop} (hd : 2 ≤ d) (F : Nat → sy_d) (X1 X2 : List jm_c) (hB : iv_in F iv_B0)
    (h0 : (sy_i F 82).toInt < 0)
    (k : ∀ F1 : Nat → sy_d, (∀ j, j < 82 → True → F1 j = F j) → Q (some (.int (((-1) : Int32)))) (sy_dh F1 X1 X2 (iv_H 0))) :
    hd_W Ls xs d jm_M111 Q (0, sy_dL F [some (.inl (.ref 8)), some (.inr (.inl 82)), some (.inr (.inl 83)), none], sy_dS F [], sy_dh F X1 X2 (iv_H 0), 0, 0) := by
  refine hd_ret (s := 0) (nv := 84) (v := some (.inl (.int (-1)))) (uh := hd_ov (iv_id 0 iv_B0) []) (f := true) (sp := [37]) (d0 := 1) (O := [true]) (T := []) (P := [(2, .inr (.inl 82), .inl (.int 0))]) jm_ok111 (by decide +kernel) (by decide +kernel) hd F X1 X2 (fun F' hF hs => ?_)
  have b82 := hd_b (F := F) (F' := F') (k := 82) (hF 82 (by decide))
  have hB' : iv_in F' iv_B0 := iv_in_eq hB (fun j hj => hF j (Nat.lt_of_lt_of_le hj (by decide +kernel)))
  refine ⟨List.forall_mem_cons.mpr ⟨hd_p2 b82 rfl (by have hc : ((0) : Int32).toInt = 0 := (by decide); omega), fun _ h => absurd h List.not_mem_nil⟩, ?_⟩
  refine k _ ?_
  · exact fun j hj _ => (hd_keep hB' (Nat.lt_of_lt_of_le hj (by decide +kernel)) (by simp)).trans (hF j (Nat.lt_of_lt_of_le hj (by decide)))
theorem j0su_0_p1 {Ls : Nat} {xs : Nat → Int32} {d : Nat} {Q : Option Value → jm_h → Prop} (hd : 2 ≤ d) (F : Nat → sy_d) (X1 X2 : List jm_c) (hB : iv_in F iv_B0)
    (h0 : 0 ≤ (sy_i F 82).toInt)
    (h1 : (sy_i F 79).toInt < (sy_i F 82).toInt)
    (k : ∀ F1 : Nat → sy_d, (∀ j, j < 82 → True → F1 j = F j) → Q (some (.int (((-1) : Int32)))) (sy_dh F1 X1 X2 (iv_H 0))) :
    hd_W Ls xs d jm_M111 Q (0, sy_dL F [some (.inl (.ref 8)), some (.inr (.inl 82)), some (.inr (.inl 83)), none], sy_dS F [], sy_dh F X1 X2 (iv_H 0), 0, 0) := by
  refine hd_ret (s := 0) (nv := 84) (v := some (.inl (.int (-1)))) (uh := hd_ov (iv_id 0 iv_B0) []) (f := true) (sp := [37]) (d0 := 1) (O := [false, true]) (T := []) (P := [(3, .inr (.inl 82), .inl (.int 0)), (2, .inr (.inl 79), .inr (.inl 82))]) jm_ok111 (by decide +kernel) (by decide +kernel) hd F X1 X2 (fun F' hF hs => ?_)
  have b82 := hd_b (F := F) (F' := F') (k := 82) (hF 82 (by decide))
  have b79 := hd_b (F := F) (F' := F') (k := 79) (hF 79 (by decide))
  have hB' : iv_in F' iv_B0 := iv_in_eq hB (fun j hj => hF j (Nat.lt_of_lt_of_le hj (by decide +kernel)))
  refine ⟨List.forall_mem_cons.mpr ⟨hd_p3 b82 rfl (by have hc : ((0) : Int32).toInt = 0 := (by decide); omega), List.forall_mem_cons.mpr ⟨hd_p2 b79 b82 h1, fun _ h => absurd h List.not_mem_nil⟩⟩, ?_⟩
  refine k _ ?_
  · exact fun j hj _ => (hd_keep hB' (Nat.lt_of_lt_of_le hj (by decide +kernel)) (by simp)).trans (hF j (Nat.lt_of_lt_of_le hj (by decide)))
theorem j0su_0_p2 {Ls : Nat} {xs : Nat → Int32} {d : Nat} {Q : Option Value → jm_h → Prop} (hd : 2 ≤ d) (F : Nat → sy_d) (X1 X2 : List jm_c) (hB : iv_in F iv_B0)
    (h0 : 0 ≤ (sy_i F 82).toInt)
    (h1 : (sy_i F 82).toInt ≤ (sy_i F 79).toInt)
    (h2 : (sy_i F 83).toInt < 0)
    (k : ∀ F1 : Nat → sy_d, (∀ j, j < 82 → True → F1 j = F j) → Q (some (.int (((-1) : Int32)))) (sy_dh F1 X1 X2 (iv_H 0))) :
    hd_W Ls xs d jm_M111 Q (0, sy_dL F [some (.inl (.ref 8)), some (.inr (.inl 82)), some (.inr (.inl 83)), none], sy_dS F [], sy_dh F X1 X2 (iv_H 0), 0, 0) := by
  refine hd_ret (s := 0) (nv := 84) (v := some (.inl (.int (-1)))) (uh := hd_ov (iv_id 0 iv_B0) []) (f := true) (sp := [37]) (d0 := 1) (O := [false, false, true]) (T := [(1, [.inr (.inl 82), .inl (.int 1)], [])]) (P := [(3, .inr (.inl 82), .inl (.int 0)), (3, .inr (.inl 79), .inr (.inl 82)), (2, .inr (.inl 83), .inl (.int 0))]) jm_ok111 (by decide +kernel) (by decide +kernel) hd F X1 X2 (fun F' hF hs => ?_)
  have b82 := hd_b (F := F) (F' := F') (k := 82) (hF 82 (by decide))
  have b79 := hd_b (F := F) (F' := F') (k := 79) (hF 79 (by decide))
  have b83 := hd_b (F := F) (F' := F') (k := 83) (hF 83 (by decide))
  have hB' : iv_in F' iv_B0 := iv_in_eq hB (fun j hj => hF j (Nat.lt_of_lt_of_le hj (by decide +kernel)))
  refine ⟨List.forall_mem_cons.mpr ⟨hd_p3 b82 rfl (by have hc : ((0) : Int32).toInt = 0 := (by decide); omega), List.forall_mem_cons.mpr ⟨hd_p3 b79 b82 h1, List.forall_mem_cons.mpr ⟨hd_p2 b83 rfl (by have hc : ((0) : Int32).toInt = 0 := (by decide); omega), fun _ h => absurd h List.not_mem_nil⟩⟩⟩, ?_⟩
  refine k _ ?_
  · exact fun j hj _ => (hd_keep hB' (Nat.lt_of_lt_of_le hj (by decide +kernel)) (by simp)).trans (hF j (Nat.lt_of_lt_of_le hj (by decide)))
theorem j0su_0_p3 {Ls : Nat} {xs : Nat → Int32} {d : Nat} {Q : Option Value → jm_h → Prop} (hd : 2 ≤ d) (F : Nat → sy_d) (X1 X2 : List jm_c) (hB : iv_in F iv_B0)
    (h0 : 0 ≤ (sy_i F 82).toInt)
    (h1 : (sy_i F 82).toInt ≤ (sy_i F 79).toInt)
    (h2 : 0 ≤ (sy_i F 83).toInt)
    (h3 : ((sy_i F 82) - ((1 : Int32))).toInt < (sy_i F 83).toInt)
    (k : ∀ F1 : Nat → sy_d, (∀ j, j < 82 → True → F1 j = F j) → Q (some (.int (((-1) : Int32)))) (sy_dh F1 X1 X2 (iv_H 0))) :
    hd_W Ls xs d jm_M111 Q (0, sy_dL F [some (.inl (.ref 8)), some (.inr (.inl 82)), some (.inr (.inl 83)), none], sy_dS F [], sy_dh F X1 X2 (iv_H 0), 0, 0) := by
  refine hd_ret (s := 0) (nv := 84) (v := some (.inl (.int (-1)))) (uh := hd_ov (iv_id 0 iv_B0) []) (f := true) (sp := [37]) (d0 := 1) (O := [false, false, false, true]) (T := [(1, [.inr (.inl 82), .inl (.int 1)], [])]) (P := [(3, .inr (.inl 82), .inl (.int 0)), (3, .inr (.inl 79), .inr (.inl 82)), (3, .inr (.inl 83), .inl (.int 0)), (2, .inr (.inl 84), .inr (.inl 83))]) jm_ok111 (by decide +kernel) (by decide +kernel) hd F X1 X2 (fun F' hF hs => ?_)
  have b82 := hd_b (F := F) (F' := F') (k := 82) (hF 82 (by decide))
  have b79 := hd_b (F := F) (F' := F') (k := 79) (hF 79 (by decide))
  have b83 := hd_b (F := F) (F' := F') (k := 83) (hF 83 (by decide))
  have t84 : sy_dv F' (.inr (.inl 84)) = .int ((sy_i F 82) - ((1 : Int32))) := hd_o (hs 0 _ rfl) b82 rfl rfl
  have hB' : iv_in F' iv_B0 := iv_in_eq hB (fun j hj => hF j (Nat.lt_of_lt_of_le hj (by decide +kernel)))
  refine ⟨List.forall_mem_cons.mpr ⟨hd_p3 b82 rfl (by have hc : ((0) : Int32).toInt = 0 := (by decide); omega), List.forall_mem_cons.mpr ⟨hd_p3 b79 b82 h1, List.forall_mem_cons.mpr ⟨hd_p3 b83 rfl (by have hc : ((0) : Int32).toInt = 0 := (by decide); omega), List.forall_mem_cons.mpr ⟨hd_p2 t84 b83 h3, fun _ h => absurd h List.not_mem_nil⟩⟩⟩⟩, ?_⟩
  refine k _ ?_
  · exact fun j hj _ => (hd_keep hB' (Nat.lt_of_lt_of_le hj (by decide +kernel)) (by simp)).trans (hF j (Nat.lt_of_lt_of_le hj (by decide)))
theorem j0su_0_p4 {Ls : Nat} {xs : Nat → Int32} {d : Nat} {Q : Option Value → jm_h → Prop} (hd : 2 ≤ d) (F : Nat → sy_d) (X1 X2 : List jm_c) (hB : iv_in F iv_B0)
    (h0 : 0 ≤ (sy_i F 82).toInt)
    (h1 : (sy_i F 82).toInt ≤ (sy_i F 79).toInt)
    (h2 : 0 ≤ (sy_i F 83).toInt)
    (h3 : (sy_i F 83).toInt ≤ ((sy_i F 82) - ((1 : Int32))).toInt)
    (k : ∀ F1 : Nat → sy_d, (∀ j, j < 82 → True → F1 j = F j) → F1 82 = .inl (.int (sy_i F 82)) → F1 83 = .inl (.int (sy_i F 83)) → hd_W Ls xs d jm_M111 Q (37, sy_dL F1 [some (.inl (.ref 8)), some (.inr (.inl 82)), some (.inr (.inl 83)), none], sy_dS F1 [.inr (.inl 82), .inl (.ref 10), .inl (.ref 70)], sy_dh F1 X1 X2 (iv_H 0), 0, 0)) :
    hd_W Ls xs d jm_M111 Q (0, sy_dL F [some (.inl (.ref 8)), some (.inr (.inl 82)), some (.inr (.inl 83)), none], sy_dS F [], sy_dh F X1 X2 (iv_H 0), 0, 0) := by
  refine hd_run (s := 0) (nv := 84) (pc := 37) (L := [some (.inl (.ref 8)), some (.inr (.inl 82)), some (.inr (.inl 83)), none]) (S := [.inr (.inl 82), .inl (.ref 10), .inl (.ref 70)]) (uh := hd_ov (iv_id 0 iv_B0) []) (ul := [.inl (.inr (.inl 82)), .inl (.inr (.inl 83))]) (f := true) (sp := [37]) (d0 := 1) (O := [false, false, false, false]) (T := [(1, [.inr (.inl 82), .inl (.int 1)], [])]) (P := [(3, .inr (.inl 82), .inl (.int 0)), (3, .inr (.inl 79), .inr (.inl 82)), (3, .inr (.inl 83), .inl (.int 0)), (3, .inr (.inl 84), .inr (.inl 83))]) jm_ok111 (by decide +kernel) (by decide +kernel) hd F X1 X2 (fun F' hF hs => ?_)
  have b82 := hd_b (F := F) (F' := F') (k := 82) (hF 82 (by decide))
  have b79 := hd_b (F := F) (F' := F') (k := 79) (hF 79 (by decide))
  have b83 := hd_b (F := F) (F' := F') (k := 83) (hF 83 (by decide))
  have t84 : sy_dv F' (.inr (.inl 84)) = .int ((sy_i F 82) - ((1 : Int32))) := hd_o (hs 0 _ rfl) b82 rfl rfl
  have hB' : iv_in F' iv_B0 := iv_in_eq hB (fun j hj => hF j (Nat.lt_of_lt_of_le hj (by decide +kernel)))
  refine ⟨List.forall_mem_cons.mpr ⟨hd_p3 b82 rfl (by have hc : ((0) : Int32).toInt = 0 := (by decide); omega), List.forall_mem_cons.mpr ⟨hd_p3 b79 b82 h1, List.forall_mem_cons.mpr ⟨hd_p3 b83 rfl (by have hc : ((0) : Int32).toInt = 0 := (by decide); omega), List.forall_mem_cons.mpr ⟨hd_p3 t84 b83 h3, fun _ h => absurd h List.not_mem_nil⟩⟩⟩⟩, ?_⟩
  refine k _ ?_ ?_ ?_
  · exact fun j hj _ => (hd_keep hB' (Nat.lt_of_lt_of_le hj (by decide +kernel)) (by simp)).trans (hF j (Nat.lt_of_lt_of_le hj (by decide)))
  · exact hd_gi (x := .inr (.inl 82)) (by decide +kernel) b82
  · exact hd_gi (x := .inr (.inl 83)) (by decide +kernel) b83
theorem j0su_0 {Ls : Nat} {xs : Nat → Int32} {d : Nat} {Q : Option Value → jm_h → Prop} (hd : 2 ≤ d) (F : Nat → sy_d) (X1 X2 : List jm_c) (hB : iv_in F iv_B0)
    (k0 : (sy_i F 82).toInt < 0 → ∀ F1 : Nat → sy_d, iv_in F1 iv_B0 → (∀ j, j < 82 → j ∉ ([] : List Nat) → F1 j = F j) → Q (some (.int (((-1) : Int32)))) (sy_dh F1 X1 X2 (iv_H 0)))
    (k1 : 0 ≤ (sy_i F 82).toInt → (sy_i F 79).toInt < (sy_i F 82).toInt → ∀ F1 : Nat → sy_d, iv_in F1 iv_B0 → (∀ j, j < 82 → j ∉ ([] : List Nat) → F1 j = F j) → Q (some (.int (((-1) : Int32)))) (sy_dh F1 X1 X2 (iv_H 0)))
    (k2 : 0 ≤ (sy_i F 82).toInt → (sy_i F 82).toInt ≤ (sy_i F 79).toInt → (sy_i F 83).toInt < 0 → ∀ F1 : Nat → sy_d, iv_in F1 iv_B0 → (∀ j, j < 82 → j ∉ ([] : List Nat) → F1 j = F j) → Q (some (.int (((-1) : Int32)))) (sy_dh F1 X1 X2 (iv_H 0)))
    (k3 : 0 ≤ (sy_i F 82).toInt → (sy_i F 82).toInt ≤ (sy_i F 79).toInt → 0 ≤ (sy_i F 83).toInt → ((sy_i F 82).toInt - 1) < (sy_i F 83).toInt → ∀ F1 : Nat → sy_d, iv_in F1 iv_B0 → (∀ j, j < 82 → j ∉ ([] : List Nat) → F1 j = F j) → Q (some (.int (((-1) : Int32)))) (sy_dh F1 X1 X2 (iv_H 0)))
    (k4 : 0 ≤ (sy_i F 82).toInt → (sy_i F 82).toInt ≤ (sy_i F 79).toInt → 0 ≤ (sy_i F 83).toInt → (sy_i F 83).toInt ≤ ((sy_i F 82).toInt - 1) → ∀ F1 : Nat → sy_d, iv_in F1 iv_B0 → (∀ j, j < 82 → j ∉ ([] : List Nat) → F1 j = F j) → (sy_i F1 82).toInt = (sy_i F 82).toInt → sy_i F1 82 = sy_i F 82 → (sy_i F1 83).toInt = (sy_i F 83).toInt → sy_i F1 83 = sy_i F 83 → hd_W Ls xs d jm_M111 Q (37, sy_dL F1 [some (.inl (.ref 8)), some (.inr (.inl 82)), some (.inr (.inl 83)), none], sy_dS F1 [.inr (.inl 82), .inl (.ref 10), .inl (.ref 70)], sy_dh F1 X1 X2 (iv_H 0), 0, 0)) :
    hd_W Ls xs d jm_M111 Q (0, sy_dL F [some (.inl (.ref 8)), some (.inr (.inl 82)), some (.inr (.inl 83)), none], sy_dS F [], sy_dh F X1 X2 (iv_H 0), 0, 0) := by
  by_cases g0 : (sy_i F 82).toInt < 0
  · exact j0su_0_p0 hd F X1 X2 hB (by first | exact g0 | (simp only [nz_c]; exact g0)) (fun F1 g  => k0 g0 F1 (nz_in0 hB [] (fun j hj hn => g j hj (by simp only [List.mem_cons, List.not_mem_nil, or_false, not_or] at hn; exact trivial)) (List.forall_mem_nil _)) (fun j hj hn => g j hj (by simp only [List.mem_cons, List.not_mem_nil, or_false, not_or] at hn; exact trivial)) )
  replace g0 : 0 ≤ (sy_i F 82).toInt := by omega
  by_cases g1 : (sy_i F 79).toInt < (sy_i F 82).toInt
  · have c79 := nz_bx hB (k := 79) (lo := 0) (hi := 7) rfl
    exact j0su_0_p1 hd F X1 X2 hB (by first | exact g0 | (simp only [nz_c]; exact g0)) (by first | exact g1 | (simp only [nz_c]; exact g1)) (fun F1 g  => k1 g0 g1 F1 (nz_in0 hB [] (fun j hj hn => g j hj (by simp only [List.mem_cons, List.not_mem_nil, or_false, not_or] at hn; exact trivial)) (List.forall_mem_nil _)) (fun j hj hn => g j hj (by simp only [List.mem_cons, List.not_mem_nil, or_false, not_or] at hn; exact trivial)) )
  replace g1 : (sy_i F 82).toInt ≤ (sy_i F 79).toInt := by omega
  by_cases g2 : (sy_i F 83).toInt < 0
  · have c79 := nz_bx hB (k := 79) (lo := 0) (hi := 7) rfl
    exact j0su_0_p2 hd F X1 X2 hB (by first | exact g0 | (simp only [nz_c]; exact g0)) (by first | exact g1 | (simp only [nz_c]; exact g1)) (by first | exact g2 | (simp only [nz_c]; exact g2)) (fun F1 g  => k2 g0 g1 g2 F1 (nz_in0 hB [] (fun j hj hn => g j hj (by simp only [List.mem_cons, List.not_mem_nil, or_false, not_or] at hn; exact trivial)) (List.forall_mem_nil _)) (fun j hj hn => g j hj (by simp only [List.mem_cons, List.not_mem_nil, or_false, not_or] at hn; exact trivial)) )
  replace g2 : 0 ≤ (sy_i F 83).toInt := by omega
  by_cases g3 : ((sy_i F 82).toInt - 1) < (sy_i F 83).toInt
  · have c79 := nz_bx hB (k := 79) (lo := 0) (hi := 7) rfl
    have n84 : nzI ((sy_i F 82) - ((1 : Int32))) (((sy_i F 82).toInt - 1)) := nz_sub (rfl : (sy_i F 82).toInt = (sy_i F 82).toInt) (by decide : ((1 : Int32)).toInt = 1) (by omega) (by omega)
    exact j0su_0_p3 hd F X1 X2 hB (by first | exact g0 | (simp only [nz_c]; exact g0)) (by first | exact g1 | (simp only [nz_c]; exact g1)) (by first | exact g2 | (simp only [nz_c]; exact g2)) (by first | (simp only [nz_c, (nzE n84)]; exact g3) | exact g3 | (rw [(nzE n84)]; exact g3)) (fun F1 g  => k3 g0 g1 g2 g3 F1 (nz_in0 hB [] (fun j hj hn => g j hj (by simp only [List.mem_cons, List.not_mem_nil, or_false, not_or] at hn; exact trivial)) (List.forall_mem_nil _)) (fun j hj hn => g j hj (by simp only [List.mem_cons, List.not_mem_nil, or_false, not_or] at hn; exact trivial)) )
  replace g3 : (sy_i F 83).toInt ≤ ((sy_i F 82).toInt - 1) := by omega
  have c79 := nz_bx hB (k := 79) (lo := 0) (hi := 7) rfl
  have n84 : nzI ((sy_i F 82) - ((1 : Int32))) (((sy_i F 82).toInt - 1)) := nz_sub (rfl : (sy_i F 82).toInt = (sy_i F 82).toInt) (by decide : ((1 : Int32)).toInt = 1) (by omega) (by omega)
  exact j0su_0_p4 hd F X1 X2 hB (by first | exact g0 | (simp only [nz_c]; exact g0)) (by first | exact g1 | (simp only [nz_c]; exact g1)) (by first | exact g2 | (simp only [nz_c]; exact g2)) (by first | (simp only [nz_c, (nzE n84)]; exact g3) | exact g3 | (rw [(nzE n84)]; exact g3)) (fun F1 g e82 e83 => k4 g0 g1 g2 g3 F1 (nz_in0 hB [] (fun j hj hn => g j hj (by simp only [List.mem_cons, List.not_mem_nil, or_false, not_or] at hn; exact trivial)) (List.forall_mem_nil _)) (fun j hj hn => g j hj (by simp only [List.mem_cons, List.not_mem_nil, or_false, not_or] at hn; exact trivial)) ((congrArg Int32.toInt (zz_i e82)).trans (rfl : (sy_i F 82).toInt = (sy_i F 82).toInt)) ((zz_i e82).trans (rfl : sy_i F 82 = sy_i F 82)) ((congrArg Int32.toInt (zz_i e83)).trans (rfl : (sy_i F 83).toInt = (sy_i F 83).toInt)) ((zz_i e83).trans (rfl : sy_i F 83 = sy_i F 83)))
theorem j0su_40_p0 {Ls : Nat} {xs : Nat → Int32} {d : Nat} {Q : Option Value → jm_h → Prop} (hd : 1 ≤ d) (F : Nat → sy_d) (X1 X2 : List jm_c) (hB : iv_in F iv_B0)
    (h0 : (sy_i F 84).toInt ≤ 0)
    (k : ∀ F1 : Nat → sy_d, (∀ j, j < 82 → True → F1 j = F j) → Q (some (.int (((-2) : Int32)))) (sy_dh F1 X1 X2 (iv_H 0))) :
    hd_W Ls xs d jm_M111 Q (40, sy_dL F [some (.inl (.ref 8)), some (.inr (.inl 82)), some (.inr (.inl 83)), none], sy_dS F [.inr (.inl 84)], sy_dh F X1 X2 (iv_H 0), 0, 0) := by
  refine hd_ret (s := 0) (nv := 85) (v := some (.inl (.int (-2)))) (uh := hd_ov (iv_id 0 iv_B0) []) (f := false) (sp := [52]) (d0 := 0) (O := [true]) (T := []) (P := [(4, .inr (.inl 84), .inl (.int 0))]) jm_ok111 (by decide +kernel) (by decide +kernel) hd F X1 X2 (fun F' hF hs => ?_)
  have b84 := hd_b (F := F) (F' := F') (k := 84) (hF 84 (by decide))
  have hB' : iv_in F' iv_B0 := iv_in_eq hB (fun j hj => hF j (Nat.lt_of_lt_of_le hj (by decide +kernel)))
  refine ⟨List.forall_mem_cons.mpr ⟨hd_p4 b84 rfl (by have hc : ((0) : Int32).toInt = 0 := (by decide); omega), fun _ h => absurd h List.not_mem_nil⟩, ?_⟩
  refine k _ ?_
  · exact fun j hj _ => (hd_keep hB' (Nat.lt_of_lt_of_le hj (by decide +kernel)) (by simp)).trans (hF j (Nat.lt_of_lt_of_le hj (by decide)))
theorem j0su_40_p1 {Ls : Nat} {xs : Nat → Int32} {d : Nat} {Q : Option Value → jm_h → Prop} (hd : 1 ≤ d) (F : Nat → sy_d) (X1 X2 : List jm_c) (hB : iv_in F iv_B0)
    (h0 : 0 < (sy_i F 84).toInt)
    (k : ∀ F1 : Nat → sy_d, (∀ j, j < 82 → True → F1 j = F j) → F1 82 = .inl (.int (sy_i F 83)) → hd_W Ls xs d jm_M111 Q (52, sy_dL F1 [some (.inl (.ref 8)), none, some (.inr (.inl 82)), none], sy_dS F1 [.inr (.inl 82), .inl (.ref 10), .inl (.ref 70)], sy_dh F1 X1 X2 (iv_H 0), 0, 0)) :
    hd_W Ls xs d jm_M111 Q (40, sy_dL F [some (.inl (.ref 8)), some (.inr (.inl 82)), some (.inr (.inl 83)), none], sy_dS F [.inr (.inl 84)], sy_dh F X1 X2 (iv_H 0), 0, 0) := by
  refine hd_run (s := 0) (nv := 85) (pc := 52) (L := [some (.inl (.ref 8)), none, some (.inr (.inl 82)), none]) (S := [.inr (.inl 82), .inl (.ref 10), .inl (.ref 70)]) (uh := hd_ov (iv_id 0 iv_B0) []) (ul := [.inl (.inr (.inl 83))]) (f := false) (sp := [52]) (d0 := 0) (O := [false]) (T := []) (P := [(5, .inr (.inl 84), .inl (.int 0))]) jm_ok111 (by decide +kernel) (by decide +kernel) hd F X1 X2 (fun F' hF hs => ?_)
  have b84 := hd_b (F := F) (F' := F') (k := 84) (hF 84 (by decide))
  have b83 := hd_b (F := F) (F' := F') (k := 83) (hF 83 (by decide))
  have hB' : iv_in F' iv_B0 := iv_in_eq hB (fun j hj => hF j (Nat.lt_of_lt_of_le hj (by decide +kernel)))
  refine ⟨List.forall_mem_cons.mpr ⟨hd_p5 b84 rfl (by have hc : ((0) : Int32).toInt = 0 := (by decide); omega), fun _ h => absurd h List.not_mem_nil⟩, ?_⟩
  refine k _ ?_ ?_
  · exact fun j hj _ => (hd_keep hB' (Nat.lt_of_lt_of_le hj (by decide +kernel)) (by simp)).trans (hF j (Nat.lt_of_lt_of_le hj (by decide)))
  · exact hd_gi (x := .inr (.inl 83)) (by decide +kernel) b83
theorem j0su_40 {Ls : Nat} {xs : Nat → Int32} {d : Nat} {Q : Option Value → jm_h → Prop} (hd : 1 ≤ d) (F : Nat → sy_d) (X1 X2 : List jm_c) (hB : iv_in F iv_B0)
    (k0 : (sy_i F 84).toInt ≤ 0 → ∀ F1 : Nat → sy_d, iv_in F1 iv_B0 → (∀ j, j < 82 → j ∉ ([] : List Nat) → F1 j = F j) → Q (some (.int (((-2) : Int32)))) (sy_dh F1 X1 X2 (iv_H 0)))
    (k1 : 0 < (sy_i F 84).toInt → ∀ F1 : Nat → sy_d, iv_in F1 iv_B0 → (∀ j, j < 82 → j ∉ ([] : List Nat) → F1 j = F j) → (sy_i F1 82).toInt = (sy_i F 83).toInt → sy_i F1 82 = sy_i F 83 → hd_W Ls xs d jm_M111 Q (52, sy_dL F1 [some (.inl (.ref 8)), none, some (.inr (.inl 82)), none], sy_dS F1 [.inr (.inl 82), .inl (.ref 10), .inl (.ref 70)], sy_dh F1 X1 X2 (iv_H 0), 0, 0)) :
    hd_W Ls xs d jm_M111 Q (40, sy_dL F [some (.inl (.ref 8)), some (.inr (.inl 82)), some (.inr (.inl 83)), none], sy_dS F [.inr (.inl 84)], sy_dh F X1 X2 (iv_H 0), 0, 0) := by
  by_cases g0 : (sy_i F 84).toInt ≤ 0
  · exact j0su_40_p0 hd F X1 X2 hB (by first | exact g0 | (simp only [nz_c]; exact g0)) (fun F1 g  => k0 g0 F1 (nz_in0 hB [] (fun j hj hn => g j hj (by simp only [List.mem_cons, List.not_mem_nil, or_false, not_or] at hn; exact trivial)) (List.forall_mem_nil _)) (fun j hj hn => g j hj (by simp only [List.mem_cons, List.not_mem_nil, or_false, not_or] at hn; exact trivial)) )
  replace g0 : 0 < (sy_i F 84).toInt := by omega
  exact j0su_40_p1 hd F X1 X2 hB (by first | exact g0 | (simp only [nz_c]; exact g0)) (fun F1 g e82 => k1 g0 F1 (nz_in0 hB [] (fun j hj hn => g j hj (by simp only [List.mem_cons, List.not_mem_nil, or_false, not_or] at hn; exact trivial)) (List.forall_mem_nil _)) (fun j hj hn => g j hj (by simp only [List.mem_cons, List.not_mem_nil, or_false, not_or] at hn; exact trivial)) ((congrArg Int32.toInt (zz_i e82)).trans (rfl : (sy_i F 83).toInt = (sy_i F 83).toInt)) ((zz_i e82).trans (rfl : sy_i F 83 = sy_i F 83)))
theorem j0su_55_p0 {Ls : Nat} {xs : Nat → Int32} {d : Nat} {Q : Option Value → jm_h → Prop} (hd : 1 ≤ d) (F : Nat → sy_d) (X1 X2 : List jm_c) (hB : iv_in F iv_B0)
    (h0 : (sy_i F 83).toInt ≠ 1)
    (k : ∀ F1 : Nat → sy_d, (∀ j, j < 82 → True → F1 j = F j) → Q (some (.int (((-2) : Int32)))) (sy_dh F1 X1 X2 (iv_H 0))) :
    hd_W Ls xs d jm_M111 Q (55, sy_dL F [some (.inl (.ref 8)), none, some (.inr (.inl 82)), none], sy_dS F [.inr (.inl 83)], sy_dh F X1 X2 (iv_H 0), 0, 0) := by
  refine hd_ret (s := 0) (nv := 84) (v := some (.inl (.int (-2)))) (uh := hd_ov (iv_id 0 iv_B0) []) (f := false) (sp := [78]) (d0 := 0) (O := [true]) (T := []) (P := [(1, .inr (.inl 83), .inl (.int 1))]) jm_ok111 (by decide +kernel) (by decide +kernel) hd F X1 X2 (fun F' hF hs => ?_)
  have b83 := hd_b (F := F) (F' := F') (k := 83) (hF 83 (by decide))
  have hB' : iv_in F' iv_B0 := iv_in_eq hB (fun j hj => hF j (Nat.lt_of_lt_of_le hj (by decide +kernel)))
  refine ⟨List.forall_mem_cons.mpr ⟨hd_p1 b83 rfl (by have hc : ((1) : Int32).toInt = 1 := (by decide); omega), fun _ h => absurd h List.not_mem_nil⟩, ?_⟩
  refine k _ ?_
  · exact fun j hj _ => (hd_keep hB' (Nat.lt_of_lt_of_le hj (by decide +kernel)) (by simp)).trans (hF j (Nat.lt_of_lt_of_le hj (by decide)))
theorem j0su_55_p1 {Ls : Nat} {xs : Nat → Int32} {d : Nat} {Q : Option Value → jm_h → Prop} (hd : 1 ≤ d) (F : Nat → sy_d) (X1 X2 : List jm_c) (hB : iv_in F iv_B0)
    (h0 : (sy_i F 83).toInt = 1)
    (k : ∀ F1 : Nat → sy_d, (∀ j, j < 82 → True → F1 j = F j) → F1 82 = .inl (.int (sy_i F 82)) → hd_W Ls xs d jm_M111 Q (78, sy_dL F1 [some (.inl (.ref 8)), none, none, none], sy_dS F1 [.inr (.inl 82), .inl (.ref 10), .inl (.ref 70)], sy_dh F1 X1 X2 (iv_H 0), 0, 0)) :
    hd_W Ls xs d jm_M111 Q (55, sy_dL F [some (.inl (.ref 8)), none, some (.inr (.inl 82)), none], sy_dS F [.inr (.inl 83)], sy_dh F X1 X2 (iv_H 0), 0, 0) := by
  refine hd_run (s := 0) (nv := 84) (pc := 78) (L := [some (.inl (.ref 8)), none, none, none]) (S := [.inr (.inl 82), .inl (.ref 10), .inl (.ref 70)]) (uh := hd_ov (iv_id 0 iv_B0) []) (ul := [.inl (.inr (.inl 82))]) (f := false) (sp := [78]) (d0 := 0) (O := [false]) (T := []) (P := [(0, .inr (.inl 83), .inl (.int 1))]) jm_ok111 (by decide +kernel) (by decide +kernel) hd F X1 X2 (fun F' hF hs => ?_)
  have b83 := hd_b (F := F) (F' := F') (k := 83) (hF 83 (by decide))
  have b82 := hd_b (F := F) (F' := F') (k := 82) (hF 82 (by decide))
  have hB' : iv_in F' iv_B0 := iv_in_eq hB (fun j hj => hF j (Nat.lt_of_lt_of_le hj (by decide +kernel)))
  refine ⟨List.forall_mem_cons.mpr ⟨hd_p0 b83 rfl (by have hc : ((1) : Int32).toInt = 1 := (by decide); omega), fun _ h => absurd h List.not_mem_nil⟩, ?_⟩
  refine k _ ?_ ?_
  · exact fun j hj _ => (hd_keep hB' (Nat.lt_of_lt_of_le hj (by decide +kernel)) (by simp)).trans (hF j (Nat.lt_of_lt_of_le hj (by decide)))
  · exact hd_gi (x := .inr (.inl 82)) (by decide +kernel) b82
theorem j0su_55 {Ls : Nat} {xs : Nat → Int32} {d : Nat} {Q : Option Value → jm_h → Prop} (hd : 1 ≤ d) (F : Nat → sy_d) (X1 X2 : List jm_c) (hB : iv_in F iv_B0)
    (k0 : (sy_i F 83).toInt ≠ 1 → ∀ F1 : Nat → sy_d, iv_in F1 iv_B0 → (∀ j, j < 82 → j ∉ ([] : List Nat) → F1 j = F j) → Q (some (.int (((-2) : Int32)))) (sy_dh F1 X1 X2 (iv_H 0)))
    (k1 : (sy_i F 83).toInt = 1 → ∀ F1 : Nat → sy_d, iv_in F1 iv_B0 → (∀ j, j < 82 → j ∉ ([] : List Nat) → F1 j = F j) → (sy_i F1 82).toInt = (sy_i F 82).toInt → sy_i F1 82 = sy_i F 82 → hd_W Ls xs d jm_M111 Q (78, sy_dL F1 [some (.inl (.ref 8)), none, none, none], sy_dS F1 [.inr (.inl 82), .inl (.ref 10), .inl (.ref 70)], sy_dh F1 X1 X2 (iv_H 0), 0, 0)) :
    hd_W Ls xs d jm_M111 Q (55, sy_dL F [some (.inl (.ref 8)), none, some (.inr (.inl 82)), none], sy_dS F [.inr (.inl 83)], sy_dh F X1 X2 (iv_H 0), 0, 0) := by
  by_cases g0 : (sy_i F 83).toInt ≠ 1
  · exact j0su_55_p0 hd F X1 X2 hB (by first | exact g0 | (simp only [nz_c]; exact g0)) (fun F1 g  => k0 g0 F1 (nz_in0 hB [] (fun j hj hn => g j hj (by simp only [List.mem_cons, List.not_mem_nil, or_false, not_or] at hn; exact trivial)) (List.forall_mem_nil _)) (fun j hj hn => g j hj (by simp only [List.mem_cons, List.not_mem_nil, or_false, not_or] at hn; exact trivial)) )
  replace g0 : (sy_i F 83).toInt = 1 := by omega
  exact j0su_55_p1 hd F X1 X2 hB (by first | exact g0 | (simp only [nz_c]; exact g0)) (fun F1 g e82 => k1 g0 F1 (nz_in0 hB [] (fun j hj hn => g j hj (by simp only [List.mem_cons, List.not_mem_nil, or_false, not_or] at hn; exact trivial)) (List.forall_mem_nil _)) (fun j hj hn => g j hj (by simp only [List.mem_cons, List.not_mem_nil, or_false, not_or] at hn; exact trivial)) ((congrArg Int32.toInt (zz_i e82)).trans (rfl : (sy_i F 82).toInt = (sy_i F 82).toInt)) ((zz_i e82).trans (rfl : sy_i F 82 = sy_i F 82)))
theorem j0su_81_p0 {Ls : Nat} {xs : Nat → Int32} {d : Nat} {Q : Option Value → jm_h → Prop} (hd : 1 ≤ d) (F : Nat → sy_d) (X1 X2 : List jm_c) (hB : iv_in F iv_B0)
    (k : ∀ F1 : Nat → sy_d, (∀ j, j < 82 → True → F1 j = F j) → Q (some (.int (sy_i F 82))) (sy_dh F1 X1 X2 (iv_H 0))) :
    hd_W Ls xs d jm_M111 Q (81, sy_dL F [some (.inl (.ref 8)), none, none, none], sy_dS F [.inr (.inl 82)], sy_dh F X1 X2 (iv_H 0), 0, 0) := by
  refine hd_ret (s := 0) (nv := 83) (v := some (.inr (.inl 82))) (uh := hd_ov (iv_id 0 iv_B0) []) (f := false) (sp := []) (d0 := 0) (O := []) (T := []) (P := []) jm_ok111 (by decide +kernel) (by decide +kernel) hd F X1 X2 (fun F' hF hs => ?_)
  have b82 := hd_b (F := F) (F' := F') (k := 82) (hF 82 (by decide))
  have hB' : iv_in F' iv_B0 := iv_in_eq hB (fun j hj => hF j (Nat.lt_of_lt_of_le hj (by decide +kernel)))
  have hk := k (sy_cm F' (hd_ov (iv_id 0 iv_B0) [] ++ [])) (fun j hj _ => (hd_keep hB' (Nat.lt_of_lt_of_le hj (by decide +kernel)) (by simp)).trans (hF j (Nat.lt_of_lt_of_le hj (by decide))))
  refine ⟨fun _ h => absurd h List.not_mem_nil, ?_⟩
  show Q (some (sy_dv F' (.inr (.inl 82)))) _
  rw [b82]
  exact hk
theorem j0su_81 {Ls : Nat} {xs : Nat → Int32} {d : Nat} {Q : Option Value → jm_h → Prop} (hd : 1 ≤ d) (F : Nat → sy_d) (X1 X2 : List jm_c) (hB : iv_in F iv_B0)
    (k0 : ∀ F1 : Nat → sy_d, iv_in F1 iv_B0 → (∀ j, j < 82 → j ∉ ([] : List Nat) → F1 j = F j) → Q (some (.int (sy_i F 82))) (sy_dh F1 X1 X2 (iv_H 0))) :
    hd_W Ls xs d jm_M111 Q (81, sy_dL F [some (.inl (.ref 8)), none, none, none], sy_dS F [.inr (.inl 82)], sy_dh F X1 X2 (iv_H 0), 0, 0) := by
  exact j0su_81_p0 hd F X1 X2 hB  (fun F1 g  => by rw [(rfl : sy_i F 82 = sy_i F 82)]; exact k0 F1 (nz_in0 hB [] (fun j hj hn => g j hj (by simp only [List.mem_cons, List.not_mem_nil, or_false, not_or] at hn; exact trivial)) (List.forall_mem_nil _)) (fun j hj hn => g j hj (by simp only [List.mem_cons, List.not_mem_nil, or_false, not_or] at hn; exact trivial)) )
theorem j0as_0_p0 {Ls : Nat} {xs : Nat → Int32} {d : Nat} {Q : Option Value → jm_h → Prop} (hd : 2 ≤ d) (F : Nat → sy_d) (X1 X2 : List jm_c) (hB : iv_in F iv_B0)
    (h0 : (sy_i F 82).toInt < 0)
    (k : ∀ F1 : Nat → sy_d, (∀ j, j < 82 → True → F1 j = F j) → Q (some (.int (((-1) : Int32)))) (sy_dh F1 X1 X2 (iv_H 0))) :
    hd_W Ls xs d jm_M112 Q (0, sy_dL F [some (.inl (.ref 8)), some (.inr (.inl 82))], sy_dS F [], sy_dh F X1 X2 (iv_H 0), 0, 0) := by
  refine hd_ret (s := 0) (nv := 83) (v := some (.inl (.int (-1)))) (uh := hd_ov (iv_id 0 iv_B0) []) (f := true) (sp := [30]) (d0 := 1) (O := [true]) (T := []) (P := [(2, .inr (.inl 82), .inl (.int 0))]) jm_ok112 (by decide +kernel) (by decide +kernel) hd F X1 X2 (fun F' hF hs => ?_)
  have b82 := hd_b (F := F) (F' := F') (k := 82) (hF 82 (by decide))
  have hB' : iv_in F' iv_B0 := iv_in_eq hB (fun j hj => hF j (Nat.lt_of_lt_of_le hj (by decide +kernel)))
  refine ⟨List.forall_mem_cons.mpr ⟨hd_p2 b82 rfl (by have hc : ((0) : Int32).toInt = 0 := (by decide); omega), fun _ h => absurd h List.not_mem_nil⟩, ?_⟩
  refine k _ ?_
  · exact fun j hj _ => (hd_keep hB' (Nat.lt_of_lt_of_le hj (by decide +kernel)) (by simp)).trans (hF j (Nat.lt_of_lt_of_le hj (by decide)))
theorem j0as_0_p1 {Ls : Nat} {xs : Nat → Int32} {d : Nat} {Q : Option Value → jm_h → Prop} (hd : 2 ≤ d) (F : Nat → sy_d) (X1 X2 : List jm_c) (hB : iv_in F iv_B0)
    (h0 : 0 ≤ (sy_i F 82).toInt)
    (h1 : (sy_i F 79).toInt < (sy_i F 82).toInt)
    (k : ∀ F1 : Nat → sy_d, (∀ j, j < 82 → True → F1 j = F j) → Q (some (.int (((-1) : Int32)))) (sy_dh F1 X1 X2 (iv_H 0))) :
    hd_W Ls xs d jm_M112 Q (0, sy_dL F [some (.inl (.ref 8)), some (.inr (.inl 82))], sy_dS F [], sy_dh F X1 X2 (iv_H 0), 0, 0) := by
  refine hd_ret (s := 0) (nv := 83) (v := some (.inl (.int (-1)))) (uh := hd_ov (iv_id 0 iv_B0) []) (f := true) (sp := [30]) (d0 := 1) (O := [false, true]) (T := []) (P := [(3, .inr (.inl 82), .inl (.int 0)), (2, .inr (.inl 79), .inr (.inl 82))]) jm_ok112 (by decide +kernel) (by decide +kernel) hd F X1 X2 (fun F' hF hs => ?_)
  have b82 := hd_b (F := F) (F' := F') (k := 82) (hF 82 (by decide))
  have b79 := hd_b (F := F) (F' := F') (k := 79) (hF 79 (by decide))
  have hB' : iv_in F' iv_B0 := iv_in_eq hB (fun j hj => hF j (Nat.lt_of_lt_of_le hj (by decide +kernel)))
  refine ⟨List.forall_mem_cons.mpr ⟨hd_p3 b82 rfl (by have hc : ((0) : Int32).toInt = 0 := (by decide); omega), List.forall_mem_cons.mpr ⟨hd_p2 b79 b82 h1, fun _ h => absurd h List.not_mem_nil⟩⟩, ?_⟩
  refine k _ ?_
  · exact fun j hj _ => (hd_keep hB' (Nat.lt_of_lt_of_le hj (by decide +kernel)) (by simp)).trans (hF j (Nat.lt_of_lt_of_le hj (by decide)))
theorem j0as_0_p2 {Ls : Nat} {xs : Nat → Int32} {d : Nat} {Q : Option Value → jm_h → Prop} (hd : 2 ≤ d) (F : Nat → sy_d) (X1 X2 : List jm_c) (hB : iv_in F iv_B0)
    (h0 : 0 ≤ (sy_i F 82).toInt)
    (h1 : (sy_i F 82).toInt ≤ (sy_i F 79).toInt)
    (h2 : (sy_i F 82).toInt = 0)
    (k : ∀ F1 : Nat → sy_d, (∀ j, j < 82 → True → F1 j = F j) → Q (some (.int (((-2) : Int32)))) (sy_dh F1 X1 X2 (iv_H 0))) :
    hd_W Ls xs d jm_M112 Q (0, sy_dL F [some (.inl (.ref 8)), some (.inr (.inl 82))], sy_dS F [], sy_dh F X1 X2 (iv_H 0), 0, 0) := by
  refine hd_ret (s := 0) (nv := 83) (v := some (.inl (.int (-2)))) (uh := hd_ov (iv_id 0 iv_B0) []) (f := true) (sp := [30]) (d0 := 1) (O := [false, false, true]) (T := []) (P := [(3, .inr (.inl 82), .inl (.int 0)), (3, .inr (.inl 79), .inr (.inl 82)), (0, .inr (.inl 82), .inl (.int 0))]) jm_ok112 (by decide +kernel) (by decide +kernel) hd F X1 X2 (fun F' hF hs => ?_)
  have b82 := hd_b (F := F) (F' := F') (k := 82) (hF 82 (by decide))
  have b79 := hd_b (F := F) (F' := F') (k := 79) (hF 79 (by decide))
  have hB' : iv_in F' iv_B0 := iv_in_eq hB (fun j hj => hF j (Nat.lt_of_lt_of_le hj (by decide +kernel)))
  refine ⟨List.forall_mem_cons.mpr ⟨hd_p3 b82 rfl (by have hc : ((0) : Int32).toInt = 0 := (by decide); omega), List.forall_mem_cons.mpr ⟨hd_p3 b79 b82 h1, List.forall_mem_cons.mpr ⟨hd_p0 b82 rfl (by have hc : ((0) : Int32).toInt = 0 := (by decide); omega), fun _ h => absurd h List.not_mem_nil⟩⟩⟩, ?_⟩
  refine k _ ?_
  · exact fun j hj _ => (hd_keep hB' (Nat.lt_of_lt_of_le hj (by decide +kernel)) (by simp)).trans (hF j (Nat.lt_of_lt_of_le hj (by decide)))
theorem j0as_0_p3 {Ls : Nat} {xs : Nat → Int32} {d : Nat} {Q : Option Value → jm_h → Prop} (hd : 2 ≤ d) (F : Nat → sy_d) (X1 X2 : List jm_c) (hB : iv_in F iv_B0)
    (h0 : 0 ≤ (sy_i F 82).toInt)
    (h1 : (sy_i F 82).toInt ≤ (sy_i F 79).toInt)
    (h2 : (sy_i F 82).toInt ≠ 0)
    (k : ∀ F1 : Nat → sy_d, (∀ j, j < 82 → True → F1 j = F j) → F1 82 = .inl (.int (sy_i F 82)) → hd_W Ls xs d jm_M112 Q (30, sy_dL F1 [some (.inl (.ref 8)), some (.inr (.inl 82))], sy_dS F1 [.inr (.inl 82), .inl (.ref 10), .inl (.ref 70)], sy_dh F1 X1 X2 (iv_H 0), 0, 0)) :
    hd_W Ls xs d jm_M112 Q (0, sy_dL F [some (.inl (.ref 8)), some (.inr (.inl 82))], sy_dS F [], sy_dh F X1 X2 (iv_H 0), 0, 0) := by
  refine hd_run (s := 0) (nv := 83) (pc := 30) (L := [some (.inl (.ref 8)), some (.inr (.inl 82))]) (S := [.inr (.inl 82), .inl (.ref 10), .inl (.ref 70)]) (uh := hd_ov (iv_id 0 iv_B0) []) (ul := [.inl (.inr (.inl 82))]) (f := true) (sp := [30]) (d0 := 1) (O := [false, false, false]) (T := []) (P := [(3, .inr (.inl 82), .inl (.int 0)), (3, .inr (.inl 79), .inr (.inl 82)), (1, .inr (.inl 82), .inl (.int 0))]) jm_ok112 (by decide +kernel) (by decide +kernel) hd F X1 X2 (fun F' hF hs => ?_)
  have b82 := hd_b (F := F) (F' := F') (k := 82) (hF 82 (by decide))
  have b79 := hd_b (F := F) (F' := F') (k := 79) (hF 79 (by decide))
  have hB' : iv_in F' iv_B0 := iv_in_eq hB (fun j hj => hF j (Nat.lt_of_lt_of_le hj (by decide +kernel)))
  refine ⟨List.forall_mem_cons.mpr ⟨hd_p3 b82 rfl (by have hc : ((0) : Int32).toInt = 0 := (by decide); omega), List.forall_mem_cons.mpr ⟨hd_p3 b79 b82 h1, List.forall_mem_cons.mpr ⟨hd_p1 b82 rfl (by have hc : ((0) : Int32).toInt = 0 := (by decide); omega), fun _ h => absurd h List.not_mem_nil⟩⟩⟩, ?_⟩
  refine k _ ?_ ?_
  · exact fun j hj _ => (hd_keep hB' (Nat.lt_of_lt_of_le hj (by decide +kernel)) (by simp)).trans (hF j (Nat.lt_of_lt_of_le hj (by decide)))
  · exact hd_gi (x := .inr (.inl 82)) (by decide +kernel) b82
theorem j0as_0 {Ls : Nat} {xs : Nat → Int32} {d : Nat} {Q : Option Value → jm_h → Prop} (hd : 2 ≤ d) (F : Nat → sy_d) (X1 X2 : List jm_c) (hB : iv_in F iv_B0)
    (k0 : (sy_i F 82).toInt < 0 → ∀ F1 : Nat → sy_d, iv_in F1 iv_B0 → (∀ j, j < 82 → j ∉ ([] : List Nat) → F1 j = F j) → Q (some (.int (((-1) : Int32)))) (sy_dh F1 X1 X2 (iv_H 0)))
    (k1 : 0 ≤ (sy_i F 82).toInt → (sy_i F 79).toInt < (sy_i F 82).toInt → ∀ F1 : Nat → sy_d, iv_in F1 iv_B0 → (∀ j, j < 82 → j ∉ ([] : List Nat) → F1 j = F j) → Q (some (.int (((-1) : Int32)))) (sy_dh F1 X1 X2 (iv_H 0)))
    (k2 : 0 ≤ (sy_i F 82).toInt → (sy_i F 82).toInt ≤ (sy_i F 79).toInt → (sy_i F 82).toInt = 0 → ∀ F1 : Nat → sy_d, iv_in F1 iv_B0 → (∀ j, j < 82 → j ∉ ([] : List Nat) → F1 j = F j) → Q (some (.int (((-2) : Int32)))) (sy_dh F1 X1 X2 (iv_H 0)))
    (k3 : 0 ≤ (sy_i F 82).toInt → (sy_i F 82).toInt ≤ (sy_i F 79).toInt → (sy_i F 82).toInt ≠ 0 → ∀ F1 : Nat → sy_d, iv_in F1 iv_B0 → (∀ j, j < 82 → j ∉ ([] : List Nat) → F1 j = F j) → (sy_i F1 82).toInt = (sy_i F 82).toInt → sy_i F1 82 = sy_i F 82 → hd_W Ls xs d jm_M112 Q (30, sy_dL F1 [some (.inl (.ref 8)), some (.inr (.inl 82))], sy_dS F1 [.inr (.inl 82), .inl (.ref 10), .inl (.ref 70)], sy_dh F1 X1 X2 (iv_H 0), 0, 0)) :
    hd_W Ls xs d jm_M112 Q (0, sy_dL F [some (.inl (.ref 8)), some (.inr (.inl 82))], sy_dS F [], sy_dh F X1 X2 (iv_H 0), 0, 0) := by
  by_cases g0 : (sy_i F 82).toInt < 0
  · exact j0as_0_p0 hd F X1 X2 hB (by first | exact g0 | (simp only [nz_c]; exact g0)) (fun F1 g  => k0 g0 F1 (nz_in0 hB [] (fun j hj hn => g j hj (by simp only [List.mem_cons, List.not_mem_nil, or_false, not_or] at hn; exact trivial)) (List.forall_mem_nil _)) (fun j hj hn => g j hj (by simp only [List.mem_cons, List.not_mem_nil, or_false, not_or] at hn; exact trivial)) )
  replace g0 : 0 ≤ (sy_i F 82).toInt := by omega
  by_cases g1 : (sy_i F 79).toInt < (sy_i F 82).toInt
  · have c79 := nz_bx hB (k := 79) (lo := 0) (hi := 7) rfl
    exact j0as_0_p1 hd F X1 X2 hB (by first | exact g0 | (simp only [nz_c]; exact g0)) (by first | exact g1 | (simp only [nz_c]; exact g1)) (fun F1 g  => k1 g0 g1 F1 (nz_in0 hB [] (fun j hj hn => g j hj (by simp only [List.mem_cons, List.not_mem_nil, or_false, not_or] at hn; exact trivial)) (List.forall_mem_nil _)) (fun j hj hn => g j hj (by simp only [List.mem_cons, List.not_mem_nil, or_false, not_or] at hn; exact trivial)) )
  replace g1 : (sy_i F 82).toInt ≤ (sy_i F 79).toInt := by omega
  by_cases g2 : (sy_i F 82).toInt = 0
  · have c79 := nz_bx hB (k := 79) (lo := 0) (hi := 7) rfl
    exact j0as_0_p2 hd F X1 X2 hB (by first | exact g0 | (simp only [nz_c]; exact g0)) (by first | exact g1 | (simp only [nz_c]; exact g1)) (by first | exact g2 | (simp only [nz_c]; exact g2)) (fun F1 g  => k2 g0 g1 g2 F1 (nz_in0 hB [] (fun j hj hn => g j hj (by simp only [List.mem_cons, List.not_mem_nil, or_false, not_or] at hn; exact trivial)) (List.forall_mem_nil _)) (fun j hj hn => g j hj (by simp only [List.mem_cons, List.not_mem_nil, or_false, not_or] at hn; exact trivial)) )
  replace g2 : (sy_i F 82).toInt ≠ 0 := by omega
  have c79 := nz_bx hB (k := 79) (lo := 0) (hi := 7) rfl
  exact j0as_0_p3 hd F X1 X2 hB (by first | exact g0 | (simp only [nz_c]; exact g0)) (by first | exact g1 | (simp only [nz_c]; exact g1)) (by first | exact g2 | (simp only [nz_c]; exact g2)) (fun F1 g e82 => k3 g0 g1 g2 F1 (nz_in0 hB [] (fun j hj hn => g j hj (by simp only [List.mem_cons, List.not_mem_nil, or_false, not_or] at hn; exact trivial)) (List.forall_mem_nil _)) (fun j hj hn => g j hj (by simp only [List.mem_cons, List.not_mem_nil, or_false, not_or] at hn; exact trivial)) ((congrArg Int32.toInt (zz_i e82)).trans (rfl : (sy_i F 82).toInt = (sy_i F 82).toInt)) ((zz_i e82).trans (rfl : sy_i F 82 = sy_i F 82)))
theorem j0as_33_p0 {Ls : Nat} {xs : Nat → Int32} {d : Nat} {Q : Option Value → jm_h → Prop} (hd : 1 ≤ d) (F : Nat → sy_d) (X1 X2 : List jm_c) (hB : iv_in F iv_B0)
    (h0 : (sy_i F 83).toInt ≠ 0)
    (k : ∀ F1 : Nat → sy_d, (∀ j, j < 82 → True → F1 j = F j) → F1 82 = .inl (.int (sy_i F 82)) → hd_W Ls xs d jm_M112 Q (48, sy_dL F1 [some (.inl (.ref 8)), none], sy_dS F1 [.inr (.inl 82), .inl (.ref 10), .inl (.ref 70)], sy_dh F1 X1 X2 (iv_H 0), 0, 0)) :
    hd_W Ls xs d jm_M112 Q (33, sy_dL F [some (.inl (.ref 8)), some (.inr (.inl 82))], sy_dS F [.inr (.inl 83)], sy_dh F X1 X2 (iv_H 0), 0, 0) := by
  refine hd_run (s := 0) (nv := 84) (pc := 48) (L := [some (.inl (.ref 8)), none]) (S := [.inr (.inl 82), .inl (.ref 10), .inl (.ref 70)]) (uh := hd_ov (iv_id 0 iv_B0) []) (ul := [.inl (.inr (.inl 82))]) (f := false) (sp := [48]) (d0 := 0) (O := [true]) (T := []) (P := [(1, .inr (.inl 83), .inl (.int 0))]) jm_ok112 (by decide +kernel) (by decide +kernel) hd F X1 X2 (fun F' hF hs => ?_)
  have b83 := hd_b (F := F) (F' := F') (k := 83) (hF 83 (by decide))
  have b82 := hd_b (F := F) (F' := F') (k := 82) (hF 82 (by decide))
  have hB' : iv_in F' iv_B0 := iv_in_eq hB (fun j hj => hF j (Nat.lt_of_lt_of_le hj (by decide +kernel)))
  refine ⟨List.forall_mem_cons.mpr ⟨hd_p1 b83 rfl (by have hc : ((0) : Int32).toInt = 0 := (by decide); omega), fun _ h => absurd h List.not_mem_nil⟩, ?_⟩
  refine k _ ?_ ?_
  · exact fun j hj _ => (hd_keep hB' (Nat.lt_of_lt_of_le hj (by decide +kernel)) (by simp)).trans (hF j (Nat.lt_of_lt_of_le hj (by decide)))
  · exact hd_gi (x := .inr (.inl 82)) (by decide +kernel) b82
theorem j0as_33_p1 {Ls : Nat} {xs : Nat → Int32} {d : Nat} {Q : Option Value → jm_h → Prop} (hd : 1 ≤ d) (F : Nat → sy_d) (X1 X2 : List jm_c) (hB : iv_in F iv_B0)
    (h0 : (sy_i F 83).toInt = 0)
    (k : ∀ F1 : Nat → sy_d, (∀ j, j < 82 → True → F1 j = F j) → Q (some (.int (((-2) : Int32)))) (sy_dh F1 X1 X2 (iv_H 0))) :
    hd_W Ls xs d jm_M112 Q (33, sy_dL F [some (.inl (.ref 8)), some (.inr (.inl 82))], sy_dS F [.inr (.inl 83)], sy_dh F X1 X2 (iv_H 0), 0, 0) := by
  refine hd_ret (s := 0) (nv := 84) (v := some (.inl (.int (-2)))) (uh := hd_ov (iv_id 0 iv_B0) []) (f := false) (sp := [48]) (d0 := 0) (O := [false]) (T := []) (P := [(0, .inr (.inl 83), .inl (.int 0))]) jm_ok112 (by decide +kernel) (by decide +kernel) hd F X1 X2 (fun F' hF hs => ?_)
  have b83 := hd_b (F := F) (F' := F') (k := 83) (hF 83 (by decide))
  have hB' : iv_in F' iv_B0 := iv_in_eq hB (fun j hj => hF j (Nat.lt_of_lt_of_le hj (by decide +kernel)))
  refine ⟨List.forall_mem_cons.mpr ⟨hd_p0 b83 rfl (by have hc : ((0) : Int32).toInt = 0 := (by decide); omega), fun _ h => absurd h List.not_mem_nil⟩, ?_⟩
  refine k _ ?_
  · exact fun j hj _ => (hd_keep hB' (Nat.lt_of_lt_of_le hj (by decide +kernel)) (by simp)).trans (hF j (Nat.lt_of_lt_of_le hj (by decide)))
theorem j0as_33 {Ls : Nat} {xs : Nat → Int32} {d : Nat} {Q : Option Value → jm_h → Prop} (hd : 1 ≤ d) (F : Nat → sy_d) (X1 X2 : List jm_c) (hB : iv_in F iv_B0)
    (k0 : (sy_i F 83).toInt ≠ 0 → ∀ F1 : Nat → sy_d, iv_in F1 iv_B0 → (∀ j, j < 82 → j ∉ ([] : List Nat) → F1 j = F j) → (sy_i F1 82).toInt = (sy_i F 82).toInt → sy_i F1 82 = sy_i F 82 → hd_W Ls xs d jm_M112 Q (48, sy_dL F1 [some (.inl (.ref 8)), none], sy_dS F1 [.inr (.inl 82), .inl (.ref 10), .inl (.ref 70)], sy_dh F1 X1 X2 (iv_H 0), 0, 0))
    (k1 : (sy_i F 83).toInt = 0 → ∀ F1 : Nat → sy_d, iv_in F1 iv_B0 → (∀ j, j < 82 → j ∉ ([] : List Nat) → F1 j = F j) → Q (some (.int (((-2) : Int32)))) (sy_dh F1 X1 X2 (iv_H 0))) :
    hd_W Ls xs d jm_M112 Q (33, sy_dL F [some (.inl (.ref 8)), some (.inr (.inl 82))], sy_dS F [.inr (.inl 83)], sy_dh F X1 X2 (iv_H 0), 0, 0) := by
  by_cases g0 : (sy_i F 83).toInt ≠ 0
  · exact j0as_33_p0 hd F X1 X2 hB (by first | exact g0 | (simp only [nz_c]; exact g0)) (fun F1 g e82 => k0 g0 F1 (nz_in0 hB [] (fun j hj hn => g j hj (by simp only [List.mem_cons, List.not_mem_nil, or_false, not_or] at hn; exact trivial)) (List.forall_mem_nil _)) (fun j hj hn => g j hj (by simp only [List.mem_cons, List.not_mem_nil, or_false, not_or] at hn; exact trivial)) ((congrArg Int32.toInt (zz_i e82)).trans (rfl : (sy_i F 82).toInt = (sy_i F 82).toInt)) ((zz_i e82).trans (rfl : sy_i F 82 = sy_i F 82)))
  replace g0 : (sy_i F 83).toInt = 0 := by omega
  exact j0as_33_p1 hd F X1 X2 hB (by first | exact g0 | (simp only [nz_c]; exact g0)) (fun F1 g  => k1 g0 F1 (nz_in0 hB [] (fun j hj hn => g j hj (by simp only [List.mem_cons, List.not_mem_nil, or_false, not_or] at hn; exact trivial)) (List.forall_mem_nil _)) (fun j hj hn => g j hj (by simp only [List.mem_cons, List.not_mem_nil, or_false, not_or] at hn; exact trivial)) )
theorem j0as_51_p0 {Ls : Nat} {xs : Nat → Int32} {d : Nat} {Q : Option Value → jm_h → Prop} (hd : 1 ≤ d) (F : Nat → sy_d) (X1 X2 : List jm_c) (hB : iv_in F iv_B0)
    (k : ∀ F1 : Nat → sy_d, (∀ j, j < 82 → True → F1 j = F j) → Q (some (.int (sy_i F 82))) (sy_dh F1 X1 X2 (iv_H 0))) :
    hd_W Ls xs d jm_M112 Q (51, sy_dL F [some (.inl (.ref 8)), none], sy_dS F [.inr (.inl 82)], sy_dh F X1 X2 (iv_H 0), 0, 0) := by
  refine hd_ret (s := 0) (nv := 83) (v := some (.inr (.inl 82))) (uh := hd_ov (iv_id 0 iv_B0) []) (f := false) (sp := []) (d0 := 0) (O := []) (T := []) (P := []) jm_ok112 (by decide +kernel) (by decide +kernel) hd F X1 X2 (fun F' hF hs => ?_)
  have b82 := hd_b (F := F) (F' := F') (k := 82) (hF 82 (by decide))
  have hB' : iv_in F' iv_B0 := iv_in_eq hB (fun j hj => hF j (Nat.lt_of_lt_of_le hj (by decide +kernel)))
  have hk := k (sy_cm F' (hd_ov (iv_id 0 iv_B0) [] ++ [])) (fun j hj _ => (hd_keep hB' (Nat.lt_of_lt_of_le hj (by decide +kernel)) (by simp)).trans (hF j (Nat.lt_of_lt_of_le hj (by decide))))
  refine ⟨fun _ h => absurd h List.not_mem_nil, ?_⟩
  show Q (some (sy_dv F' (.inr (.inl 82)))) _
  rw [b82]
  exact hk
theorem j0as_51 {Ls : Nat} {xs : Nat → Int32} {d : Nat} {Q : Option Value → jm_h → Prop} (hd : 1 ≤ d) (F : Nat → sy_d) (X1 X2 : List jm_c) (hB : iv_in F iv_B0)
    (k0 : ∀ F1 : Nat → sy_d, iv_in F1 iv_B0 → (∀ j, j < 82 → j ∉ ([] : List Nat) → F1 j = F j) → Q (some (.int (sy_i F 82))) (sy_dh F1 X1 X2 (iv_H 0))) :
    hd_W Ls xs d jm_M112 Q (51, sy_dL F [some (.inl (.ref 8)), none], sy_dS F [.inr (.inl 82)], sy_dh F X1 X2 (iv_H 0), 0, 0) := by
  exact j0as_51_p0 hd F X1 X2 hB  (fun F1 g  => by rw [(rfl : sy_i F 82 = sy_i F 82)]; exact k0 F1 (nz_in0 hB [] (fun j hj hn => g j hj (by simp only [List.mem_cons, List.not_mem_nil, or_false, not_or] at hn; exact trivial)) (List.forall_mem_nil _)) (fun j hj hn => g j hj (by simp only [List.mem_cons, List.not_mem_nil, or_false, not_or] at hn; exact trivial)) )
theorem j1ft_0_p0 {Ls : Nat} {xs : Nat → Int32} {d : Nat} {Q : Option Value → jm_h → Prop} (hd : 1 ≤ d) (F : Nat → sy_d) (X1 X2 : List jm_c) (hB : iv_in F iv_B0)
    (k : ∀ F1 : Nat → sy_d, (∀ j, j < 82 → True → F1 j = F j) → F1 82 = .inl (.int (sy_i F 82)) → F1 83 = .inl (.int ((0 : Int32))) → F1 84 = .inl (.int ((0 : Int32))) → hd_W Ls xs d jm_M71 Q (5, sy_dL F1 [some (.inl (.ref 70)), some (.inl (.ref 10)), some (.inr (.inl 82)), some (.inr (.inl 83)), some (.inr (.inl 84))], sy_dS F1 [], sy_dh F1 X1 X2 (iv_H 1), 0, 0)) :
    hd_W Ls xs d jm_M71 Q (0, sy_dL F [some (.inl (.ref 70)), some (.inl (.ref 10)), some (.inr (.inl 82)), none, none], sy_dS F [], sy_dh F X1 X2 (iv_H 1), 0, 0) := by
  refine hd_run (s := 1) (nv := 83) (pc := 5) (L := [some (.inl (.ref 70)), some (.inl (.ref 10)), some (.inr (.inl 82)), some (.inr (.inl 83)), some (.inr (.inl 84))]) (S := []) (uh := hd_ov (iv_id 0 iv_B0) []) (ul := [.inl (.inr (.inl 82)), .inl (.inl (.int 0)), .inl (.inl (.int 0))]) (f := true) (sp := [5]) (d0 := 0) (O := []) (T := []) (P := []) jm_ok71 (by decide +kernel) (by decide +kernel) hd F X1 X2 (fun F' hF hs => ?_)
  have b82 := hd_b (F := F) (F' := F') (k := 82) (hF 82 (by decide))
  have hB' : iv_in F' iv_B0 := iv_in_eq hB (fun j hj => hF j (Nat.lt_of_lt_of_le hj (by decide +kernel)))
  refine ⟨fun _ h => absurd h List.not_mem_nil, ?_⟩
  refine k _ ?_ ?_ ?_ ?_
  · exact fun j hj _ => (hd_keep hB' (Nat.lt_of_lt_of_le hj (by decide +kernel)) (by simp)).trans (hF j (Nat.lt_of_lt_of_le hj (by decide)))
  · exact hd_gi (x := .inr (.inl 82)) (by decide +kernel) b82
  · exact hd_gi (x := .inl (.int 0)) (by decide +kernel) rfl
  · exact hd_gi (x := .inl (.int 0)) (by decide +kernel) rfl
theorem j1ft_0 {Ls : Nat} {xs : Nat → Int32} {d : Nat} {Q : Option Value → jm_h → Prop} (hd : 1 ≤ d) (F : Nat → sy_d) (X1 X2 : List jm_c) (hB : iv_in F iv_B0)
    (k0 : ∀ F1 : Nat → sy_d, iv_in F1 iv_B0 → (∀ j, j < 82 → j ∉ ([] : List Nat) → F1 j = F j) → (sy_i F1 82).toInt = (sy_i F 82).toInt → sy_i F1 82 = sy_i F 82 → (sy_i F1 83).toInt = 0 → sy_i F1 83 = (0 : Int32) → (sy_i F1 84).toInt = 0 → sy_i F1 84 = (0 : Int32) → hd_W Ls xs d jm_M71 Q (5, sy_dL F1 [some (.inl (.ref 70)), some (.inl (.ref 10)), some (.inr (.inl 82)), some (.inr (.inl 83)), some (.inr (.inl 84))], sy_dS F1 [], sy_dh F1 X1 X2 (iv_H 1), 0, 0)) :
    hd_W Ls xs d jm_M71 Q (0, sy_dL F [some (.inl (.ref 70)), some (.inl (.ref 10)), some (.inr (.inl 82)), none, none], sy_dS F [], sy_dh F X1 X2 (iv_H 1), 0, 0) := by
  exact j1ft_0_p0 hd F X1 X2 hB  (fun F1 g e82 e83 e84 => k0 F1 (nz_in0 hB [] (fun j hj hn => g j hj (by simp only [List.mem_cons, List.not_mem_nil, or_false, not_or] at hn; exact trivial)) (List.forall_mem_nil _)) (fun j hj hn => g j hj (by simp only [List.mem_cons, List.not_mem_nil, or_false, not_or] at hn; exact trivial)) ((congrArg Int32.toInt (zz_i e82)).trans (rfl : (sy_i F 82).toInt = (sy_i F 82).toInt)) ((zz_i e82).trans (rfl : sy_i F 82 = sy_i F 82)) ((congrArg Int32.toInt (zz_i e83)).trans (by decide : ((0 : Int32)).toInt = 0)) ((zz_i e83).trans (rfl : (0 : Int32) = (0 : Int32))) ((congrArg Int32.toInt (zz_i e84)).trans (by decide : ((0 : Int32)).toInt = 0)) ((zz_i e84).trans (rfl : (0 : Int32) = (0 : Int32))))
theorem j1ft_5_p0 {Ls : Nat} {xs : Nat → Int32} {d : Nat} {Q : Option Value → jm_h → Prop} (hd : 2 ≤ d) (F : Nat → sy_d) (X1 X2 : List jm_c) (hB : iv_in F iv_B0)
    (h0 : (sy_i F 3).toInt ≤ (sy_i F 84).toInt)
    (k : ∀ F1 : Nat → sy_d, (∀ j, j < 82 → True → F1 j = F j) → Q (some (.int (sy_i F 83))) (sy_dh F1 X1 X2 (iv_H 1))) :
    hd_W Ls xs d jm_M71 Q (5, sy_dL F [some (.inl (.ref 70)), some (.inl (.ref 10)), some (.inr (.inl 82)), some (.inr (.inl 83)), some (.inr (.inl 84))], sy_dS F [], sy_dh F X1 X2 (iv_H 1), 0, 0) := by
  refine hd_ret (s := 1) (nv := 85) (v := some (.inr (.inl 83))) (uh := hd_ov (iv_id 0 iv_B0) []) (f := true) (sp := [5]) (d0 := 1) (O := [true]) (T := []) (P := [(4, .inr (.inl 3), .inr (.inl 84))]) jm_ok71 (by decide +kernel) (by decide +kernel) hd F X1 X2 (fun F' hF hs => ?_)
  have b3 := hd_b (F := F) (F' := F') (k := 3) (hF 3 (by decide))
  have b84 := hd_b (F := F) (F' := F') (k := 84) (hF 84 (by decide))
  have b83 := hd_b (F := F) (F' := F') (k := 83) (hF 83 (by decide))
  have hB' : iv_in F' iv_B0 := iv_in_eq hB (fun j hj => hF j (Nat.lt_of_lt_of_le hj (by decide +kernel)))
  have hk := k (sy_cm F' (hd_ov (iv_id 0 iv_B0) [] ++ [])) (fun j hj _ => (hd_keep hB' (Nat.lt_of_lt_of_le hj (by decide +kernel)) (by simp)).trans (hF j (Nat.lt_of_lt_of_le hj (by decide))))
  refine ⟨List.forall_mem_cons.mpr ⟨hd_p4 b3 b84 h0, fun _ h => absurd h List.not_mem_nil⟩, ?_⟩
  show Q (some (sy_dv F' (.inr (.inl 83)))) _
  rw [b83]
  exact hk
theorem j1ft_5_p1 {Ls : Nat} {xs : Nat → Int32} {d : Nat} {Q : Option Value → jm_h → Prop} (hd : 2 ≤ d) (F : Nat → sy_d) (X1 X2 : List jm_c) (hB : iv_in F iv_B0)
    (h0 : (sy_i F 84).toInt < (sy_i F 3).toInt)
    (h1 : 0 ≤ (sy_i F 84).toInt ∧ (sy_i F 84).toInt < 7)
    (h2 : 0 ≤ (sy_i F 82).toInt ∧ (sy_i F 82).toInt < 7)
    (h3 : ((sy_ai F 10).getD (sy_i F 84).toNatClampNeg 0).toInt ≠ ((sy_ai F 80).getD (sy_i F 82).toNatClampNeg 0).toInt)
    (k : ∀ F1 : Nat → sy_d, (∀ j, j < 82 → True → F1 j = F j) → F1 82 = .inl (.int (sy_i F 82)) → F1 83 = .inl (.int (sy_i F 83)) → F1 84 = .inl (.int ((sy_i F 84) + ((1 : Int32)))) → hd_W Ls xs d jm_M71 Q (5, sy_dL F1 [some (.inl (.ref 70)), some (.inl (.ref 10)), some (.inr (.inl 82)), some (.inr (.inl 83)), some (.inr (.inl 84))], sy_dS F1 [], sy_dh F1 X1 X2 (iv_H 1), 0, 0)) :
    hd_W Ls xs d jm_M71 Q (5, sy_dL F [some (.inl (.ref 70)), some (.inl (.ref 10)), some (.inr (.inl 82)), some (.inr (.inl 83)), some (.inr (.inl 84))], sy_dS F [], sy_dh F X1 X2 (iv_H 1), 0, 0) := by
  refine hd_run (s := 1) (nv := 85) (pc := 5) (L := [some (.inl (.ref 70)), some (.inl (.ref 10)), some (.inr (.inl 82)), some (.inr (.inl 83)), some (.inr (.inl 84))]) (S := []) (uh := hd_ov (iv_id 0 iv_B0) []) (ul := [.inl (.inr (.inl 82)), .inl (.inr (.inl 83)), .inl (.inr (.inl 87))]) (f := true) (sp := [5]) (d0 := 1) (O := [false, true]) (T := [(30, [.inr (.inl 84)], [.inr (.inl 10)]), (30, [.inr (.inl 82)], [.inr (.inl 80)]), (0, [.inr (.inl 84), .inl (.int 1)], [])]) (P := [(5, .inr (.inl 3), .inr (.inl 84)), (6, .inr (.inl 84), .inl (.ref 7)), (6, .inr (.inl 82), .inl (.ref 7)), (1, .inr (.inl 85), .inr (.inl 86))]) jm_ok71 (by decide +kernel) (by decide +kernel) hd F X1 X2 (fun F' hF hs => ?_)
  have b3 := hd_b (F := F) (F' := F') (k := 3) (hF 3 (by decide))
  have b84 := hd_b (F := F) (F' := F') (k := 84) (hF 84 (by decide))
  have b82 := hd_b (F := F) (F' := F') (k := 82) (hF 82 (by decide))
  have a10 := hd_ba (F := F) (F' := F') (k := 10) (hF 10 (by decide))
  have t85 : sy_dv F' (.inr (.inl 85)) = .int ((sy_ai F 10).getD (sy_i F 84).toNatClampNeg 0) := hd_rd (hs 0 _ rfl) b84 a10
  have a80 := hd_ba (F := F) (F' := F') (k := 80) (hF 80 (by decide))
  have t86 : sy_dv F' (.inr (.inl 86)) = .int ((sy_ai F 80).getD (sy_i F 82).toNatClampNeg 0) := hd_rd (hs 1 _ rfl) b82 a80
  have b83 := hd_b (F := F) (F' := F') (k := 83) (hF 83 (by decide))
  have t87 : sy_dv F' (.inr (.inl 87)) = .int ((sy_i F 84) + ((1 : Int32))) := hd_o (hs 2 _ rfl) b84 rfl rfl
  have hB' : iv_in F' iv_B0 := iv_in_eq hB (fun j hj => hF j (Nat.lt_of_lt_of_le hj (by decide +kernel)))
  refine ⟨List.forall_mem_cons.mpr ⟨hd_p5 b3 b84 h0, List.forall_mem_cons.mpr ⟨hd_pb b84 (by first | exact h1 | exact h1), List.forall_mem_cons.mpr ⟨hd_pb b82 (by first | exact h2 | exact h2), List.forall_mem_cons.mpr ⟨hd_p1 t85 t86 h3, fun _ h => absurd h List.not_mem_nil⟩⟩⟩⟩, ?_⟩
  refine k _ ?_ ?_ ?_ ?_
  · exact fun j hj _ => (hd_keep hB' (Nat.lt_of_lt_of_le hj (by decide +kernel)) (by simp)).trans (hF j (Nat.lt_of_lt_of_le hj (by decide)))
  · exact hd_gi (x := .inr (.inl 82)) (by decide +kernel) b82
  · exact hd_gi (x := .inr (.inl 83)) (by decide +kernel) b83
  · exact hd_gi (x := .inr (.inl 87)) (by decide +kernel) t87
theorem j1ft_5_p2 {Ls : Nat} {xs : Nat → Int32} {d : Nat} {Q : Option Value → jm_h → Prop} (hd : 2 ≤ d) (F : Nat → sy_d) (X1 X2 : List jm_c) (hB : iv_in F iv_B0)
    (h0 : (sy_i F 84).toInt < (sy_i F 3).toInt)
    (h1 : 0 ≤ (sy_i F 84).toInt ∧ (sy_i F 84).toInt < 7)
    (h2 : 0 ≤ (sy_i F 82).toInt ∧ (sy_i F 82).toInt < 7)
    (h3 : ((sy_ai F 10).getD (sy_i F 84).toNatClampNeg 0).toInt = ((sy_ai F 80).getD (sy_i F 82).toNatClampNeg 0).toInt)
    (h4 : 0 ≤ (sy_i F 84).toInt ∧ (sy_i F 84).toInt < 7)
    (h5 : 0 ≤ (sy_i F 82).toInt ∧ (sy_i F 82).toInt < 7)
    (h6 : ((sy_ai F 12).getD (sy_i F 84).toNatClampNeg 0).toInt ≠ ((sy_ai F 81).getD (sy_i F 82).toNatClampNeg 0).toInt)
    (k : ∀ F1 : Nat → sy_d, (∀ j, j < 82 → True → F1 j = F j) → F1 82 = .inl (.int (sy_i F 82)) → F1 83 = .inl (.int (sy_i F 83)) → F1 84 = .inl (.int ((sy_i F 84) + ((1 : Int32)))) → hd_W Ls xs d jm_M71 Q (5, sy_dL F1 [some (.inl (.ref 70)), some (.inl (.ref 10)), some (.inr (.inl 82)), some (.inr (.inl 83)), some (.inr (.inl 84))], sy_dS F1 [], sy_dh F1 X1 X2 (iv_H 1), 0, 0)) :
    hd_W Ls xs d jm_M71 Q (5, sy_dL F [some (.inl (.ref 70)), some (.inl (.ref 10)), some (.inr (.inl 82)), some (.inr (.inl 83)), some (.inr (.inl 84))], sy_dS F [], sy_dh F X1 X2 (iv_H 1), 0, 0) := by
  refine hd_run (s := 1) (nv := 85) (pc := 5) (L := [some (.inl (.ref 70)), some (.inl (.ref 10)), some (.inr (.inl 82)), some (.inr (.inl 83)), some (.inr (.inl 84))]) (S := []) (uh := hd_ov (iv_id 0 iv_B0) []) (ul := [.inl (.inr (.inl 82)), .inl (.inr (.inl 83)), .inl (.inr (.inl 89))]) (f := true) (sp := [5]) (d0 := 1) (O := [false, false, true]) (T := [(30, [.inr (.inl 84)], [.inr (.inl 10)]), (30, [.inr (.inl 82)], [.inr (.inl 80)]), (30, [.inr (.inl 84)], [.inr (.inl 12)]), (30, [.inr (.inl 82)], [.inr (.inl 81)]), (0, [.inr (.inl 84), .inl (.int 1)], [])]) (P := [(5, .inr (.inl 3), .inr (.inl 84)), (6, .inr (.inl 84), .inl (.ref 7)), (6, .inr (.inl 82), .inl (.ref 7)), (0, .inr (.inl 85), .inr (.inl 86)), (6, .inr (.inl 84), .inl (.ref 7)), (6, .inr (.inl 82), .inl (.ref 7)), (1, .inr (.inl 87), .inr (.inl 88))]) jm_ok71 (by decide +kernel) (by decide +kernel) hd F X1 X2 (fun F' hF hs => ?_)
  have b3 := hd_b (F := F) (F' := F') (k := 3) (hF 3 (by decide))
  have b84 := hd_b (F := F) (F' := F') (k := 84) (hF 84 (by decide))
  have b82 := hd_b (F := F) (F' := F') (k := 82) (hF 82 (by decide))
  have a10 := hd_ba (F := F) (F' := F') (k := 10) (hF 10 (by decide))
  have t85 : sy_dv F' (.inr (.inl 85)) = .int ((sy_ai F 10).getD (sy_i F 84).toNatClampNeg 0) := hd_rd (hs 0 _ rfl) b84 a10
  have a80 := hd_ba (F := F) (F' := F') (k := 80) (hF 80 (by decide))
  have t86 : sy_dv F' (.inr (.inl 86)) = .int ((sy_ai F 80).getD (sy_i F 82).toNatClampNeg 0) := hd_rd (hs 1 _ rfl) b82 a80
  have a12 := hd_ba (F := F) (F' := F') (k := 12) (hF 12 (by decide))
  have t87 : sy_dv F' (.inr (.inl 87)) = .int ((sy_ai F 12).getD (sy_i F 84).toNatClampNeg 0) := hd_rd (hs 2 _ rfl) b84 a12
  have a81 := hd_ba (F := F) (F' := F') (k := 81) (hF 81 (by decide))
  have t88 : sy_dv F' (.inr (.inl 88)) = .int ((sy_ai F 81).getD (sy_i F 82).toNatClampNeg 0) := hd_rd (hs 3 _ rfl) b82 a81
  have b83 := hd_b (F := F) (F' := F') (k := 83) (hF 83 (by decide))
  have t89 : sy_dv F' (.inr (.inl 89)) = .int ((sy_i F 84) + ((1 : Int32))) := hd_o (hs 4 _ rfl) b84 rfl rfl
  have hB' : iv_in F' iv_B0 := iv_in_eq hB (fun j hj => hF j (Nat.lt_of_lt_of_le hj (by decide +kernel)))
  refine ⟨List.forall_mem_cons.mpr ⟨hd_p5 b3 b84 h0, List.forall_mem_cons.mpr ⟨hd_pb b84 (by first | exact h1 | exact h1), List.forall_mem_cons.mpr ⟨hd_pb b82 (by first | exact h2 | exact h2), List.forall_mem_cons.mpr ⟨hd_p0 t85 t86 h3, List.forall_mem_cons.mpr ⟨hd_pb b84 (by first | exact h4 | exact h4), List.forall_mem_cons.mpr ⟨hd_pb b82 (by first | exact h5 | exact h5), List.forall_mem_cons.mpr ⟨hd_p1 t87 t88 h6, fun _ h => absurd h List.not_mem_nil⟩⟩⟩⟩⟩⟩⟩, ?_⟩
  refine k _ ?_ ?_ ?_ ?_
  · exact fun j hj _ => (hd_keep hB' (Nat.lt_of_lt_of_le hj (by decide +kernel)) (by simp)).trans (hF j (Nat.lt_of_lt_of_le hj (by decide)))
  · exact hd_gi (x := .inr (.inl 82)) (by decide +kernel) b82
  · exact hd_gi (x := .inr (.inl 83)) (by decide +kernel) b83
  · exact hd_gi (x := .inr (.inl 89)) (by decide +kernel) t89
theorem j1ft_5_p3 {Ls : Nat} {xs : Nat → Int32} {d : Nat} {Q : Option Value → jm_h → Prop} (hd : 2 ≤ d) (F : Nat → sy_d) (X1 X2 : List jm_c) (hB : iv_in F iv_B0)
    (h0 : (sy_i F 84).toInt < (sy_i F 3).toInt)
    (h1 : 0 ≤ (sy_i F 84).toInt ∧ (sy_i F 84).toInt < 7)
    (h2 : 0 ≤ (sy_i F 82).toInt ∧ (sy_i F 82).toInt < 7)
    (h3 : ((sy_ai F 10).getD (sy_i F 84).toNatClampNeg 0).toInt = ((sy_ai F 80).getD (sy_i F 82).toNatClampNeg 0).toInt)
    (h4 : 0 ≤ (sy_i F 84).toInt ∧ (sy_i F 84).toInt < 7)
    (h5 : 0 ≤ (sy_i F 82).toInt ∧ (sy_i F 82).toInt < 7)
    (h6 : ((sy_ai F 12).getD (sy_i F 84).toNatClampNeg 0).toInt = ((sy_ai F 81).getD (sy_i F 82).toNatClampNeg 0).toInt)
    (k : ∀ F1 : Nat → sy_d, (∀ j, j < 82 → True → F1 j = F j) → F1 82 = .inl (.int (sy_i F 82)) → F1 83 = .inl (.int ((sy_i F 83) + ((1 : Int32)))) → F1 84 = .inl (.int ((sy_i F 84) + ((1 : Int32)))) → hd_W Ls xs d jm_M71 Q (5, sy_dL F1 [some (.inl (.ref 70)), some (.inl (.ref 10)), some (.inr (.inl 82)), some (.inr (.inl 83)), some (.inr (.inl 84))], sy_dS F1 [], sy_dh F1 X1 X2 (iv_H 1), 0, 0)) :
    hd_W Ls xs d jm_M71 Q (5, sy_dL F [some (.inl (.ref 70)), some (.inl (.ref 10)), some (.inr (.inl 82)), some (.inr (.inl 83)), some (.inr (.inl 84))], sy_dS F [], sy_dh F X1 X2 (iv_H 1), 0, 0) := by
  refine hd_run (s := 1) (nv := 85) (pc := 5) (L := [some (.inl (.ref 70)), some (.inl (.ref 10)), some (.inr (.inl 82)), some (.inr (.inl 83)), some (.inr (.inl 84))]) (S := []) (uh := hd_ov (iv_id 0 iv_B0) []) (ul := [.inl (.inr (.inl 82)), .inl (.inr (.inl 89)), .inl (.inr (.inl 90))]) (f := true) (sp := [5]) (d0 := 1) (O := [false, false, false]) (T := [(30, [.inr (.inl 84)], [.inr (.inl 10)]), (30, [.inr (.inl 82)], [.inr (.inl 80)]), (30, [.inr (.inl 84)], [.inr (.inl 12)]), (30, [.inr (.inl 82)], [.inr (.inl 81)]), (0, [.inr (.inl 83), .inl (.int 1)], []), (0, [.inr (.inl 84), .inl (.int 1)], [])]) (P := [(5, .inr (.inl 3), .inr (.inl 84)), (6, .inr (.inl 84), .inl (.ref 7)), (6, .inr (.inl 82), .inl (.ref 7)), (0, .inr (.inl 85), .inr (.inl 86)), (6, .inr (.inl 84), .inl (.ref 7)), (6, .inr (.inl 82), .inl (.ref 7)), (0, .inr (.inl 87), .inr (.inl 88))]) jm_ok71 (by decide +kernel) (by decide +kernel) hd F X1 X2 (fun F' hF hs => ?_)
  have b3 := hd_b (F := F) (F' := F') (k := 3) (hF 3 (by decide))
  have b84 := hd_b (F := F) (F' := F') (k := 84) (hF 84 (by decide))
  have b82 := hd_b (F := F) (F' := F') (k := 82) (hF 82 (by decide))
  have a10 := hd_ba (F := F) (F' := F') (k := 10) (hF 10 (by decide))
  have t85 : sy_dv F' (.inr (.inl 85)) = .int ((sy_ai F 10).getD (sy_i F 84).toNatClampNeg 0) := hd_rd (hs 0 _ rfl) b84 a10
  have a80 := hd_ba (F := F) (F' := F') (k := 80) (hF 80 (by decide))
  have t86 : sy_dv F' (.inr (.inl 86)) = .int ((sy_ai F 80).getD (sy_i F 82).toNatClampNeg 0) := hd_rd (hs 1 _ rfl) b82 a80
  have a12 := hd_ba (F := F) (F' := F') (k := 12) (hF 12 (by decide))
  have t87 : sy_dv F' (.inr (.inl 87)) = .int ((sy_ai F 12).getD (sy_i F 84).toNatClampNeg 0) := hd_rd (hs 2 _ rfl) b84 a12
  have a81 := hd_ba (F := F) (F' := F') (k := 81) (hF 81 (by decide))
  have t88 : sy_dv F' (.inr (.inl 88)) = .int ((sy_ai F 81).getD (sy_i F 82).toNatClampNeg 0) := hd_rd (hs 3 _ rfl) b82 a81
  have b83 := hd_b (F := F) (F' := F') (k := 83) (hF 83 (by decide))
  have t89 : sy_dv F' (.inr (.inl 89)) = .int ((sy_i F 83) + ((1 : Int32))) := hd_o (hs 4 _ rfl) b83 rfl rfl
  have t90 : sy_dv F' (.inr (.inl 90)) = .int ((sy_i F 84) + ((1 : Int32))) := hd_o (hs 5 _ rfl) b84 rfl rfl
  have hB' : iv_in F' iv_B0 := iv_in_eq hB (fun j hj => hF j (Nat.lt_of_lt_of_le hj (by decide +kernel)))
  refine ⟨List.forall_mem_cons.mpr ⟨hd_p5 b3 b84 h0, List.forall_mem_cons.mpr ⟨hd_pb b84 (by first | exact h1 | exact h1), List.forall_mem_cons.mpr ⟨hd_pb b82 (by first | exact h2 | exact h2), List.forall_mem_cons.mpr ⟨hd_p0 t85 t86 h3, List.forall_mem_cons.mpr ⟨hd_pb b84 (by first | exact h4 | exact h4), List.forall_mem_cons.mpr ⟨hd_pb b82 (by first | exact h5 | exact h5), List.forall_mem_cons.mpr ⟨hd_p0 t87 t88 h6, fun _ h => absurd h List.not_mem_nil⟩⟩⟩⟩⟩⟩⟩, ?_⟩
  refine k _ ?_ ?_ ?_ ?_
  · exact fun j hj _ => (hd_keep hB' (Nat.lt_of_lt_of_le hj (by decide +kernel)) (by simp)).trans (hF j (Nat.lt_of_lt_of_le hj (by decide)))
  · exact hd_gi (x := .inr (.inl 82)) (by decide +kernel) b82
  · exact hd_gi (x := .inr (.inl 89)) (by decide +kernel) t89
  · exact hd_gi (x := .inr (.inl 90)) (by decide +kernel) t90
theorem j1ft_5 {Ls : Nat} {xs : Nat → Int32} {d : Nat} {Q : Option Value → jm_h → Prop} (hd : 2 ≤ d) (F : Nat → sy_d) (X1 X2 : List jm_c) (hB : iv_in F iv_B0)
    (a82 : 0 ≤ (sy_i F 82).toInt ∧ (sy_i F 82).toInt ≤ 6)
    (a83 : 0 ≤ (sy_i F 83).toInt ∧ (sy_i F 83).toInt ≤ 7)
    (a84 : 0 ≤ (sy_i F 84).toInt ∧ (sy_i F 84).toInt ≤ 7)
    (k0 : (sy_i F 3).toInt ≤ (sy_i F 84).toInt → ∀ F1 : Nat → sy_d, iv_in F1 iv_B0 → (∀ j, j < 82 → j ∉ ([] : List Nat) → F1 j = F j) → Q (some (.int (sy_i F 83))) (sy_dh F1 X1 X2 (iv_H 1)))
    (k1 : (sy_i F 84).toInt < (sy_i F 3).toInt → ((sy_ai F 10).getD ((sy_i F 84).toInt).toNat 0).toInt ≠ ((sy_ai F 80).getD ((sy_i F 82).toInt).toNat 0).toInt → ∀ F1 : Nat → sy_d, iv_in F1 iv_B0 → (∀ j, j < 82 → j ∉ ([] : List Nat) → F1 j = F j) → (sy_i F1 82).toInt = (sy_i F 82).toInt → sy_i F1 82 = sy_i F 82 → (sy_i F1 83).toInt = (sy_i F 83).toInt → sy_i F1 83 = sy_i F 83 → (sy_i F1 84).toInt = ((sy_i F 84).toInt + 1) → sy_i F1 84 = (sy_i F 84) + ((1 : Int32)) → hd_W Ls xs d jm_M71 Q (5, sy_dL F1 [some (.inl (.ref 70)), some (.inl (.ref 10)), some (.inr (.inl 82)), some (.inr (.inl 83)), some (.inr (.inl 84))], sy_dS F1 [], sy_dh F1 X1 X2 (iv_H 1), 0, 0))
    (k2 : (sy_i F 84).toInt < (sy_i F 3).toInt → ((sy_ai F 10).getD ((sy_i F 84).toInt).toNat 0).toInt = ((sy_ai F 80).getD ((sy_i F 82).toInt).toNat 0).toInt → ((sy_ai F 12).getD ((sy_i F 84).toInt).toNat 0).toInt ≠ ((sy_ai F 81).getD ((sy_i F 82).toInt).toNat 0).toInt → ∀ F1 : Nat → sy_d, iv_in F1 iv_B0 → (∀ j, j < 82 → j ∉ ([] : List Nat) → F1 j = F j) → (sy_i F1 82).toInt = (sy_i F 82).toInt → sy_i F1 82 = sy_i F 82 → (sy_i F1 83).toInt = (sy_i F 83).toInt → sy_i F1 83 = sy_i F 83 → (sy_i F1 84).toInt = ((sy_i F 84).toInt + 1) → sy_i F1 84 = (sy_i F 84) + ((1 : Int32)) → hd_W Ls xs d jm_M71 Q (5, sy_dL F1 [some (.inl (.ref 70)), some (.inl (.ref 10)), some (.inr (.inl 82)), some (.inr (.inl 83)), some (.inr (.inl 84))], sy_dS F1 [], sy_dh F1 X1 X2 (iv_H 1), 0, 0))
    (k3 : (sy_i F 84).toInt < (sy_i F 3).toInt → ((sy_ai F 10).getD ((sy_i F 84).toInt).toNat 0).toInt = ((sy_ai F 80).getD ((sy_i F 82).toInt).toNat 0).toInt → ((sy_ai F 12).getD ((sy_i F 84).toInt).toNat 0).toInt = ((sy_ai F 81).getD ((sy_i F 82).toInt).toNat 0).toInt → ∀ F1 : Nat → sy_d, iv_in F1 iv_B0 → (∀ j, j < 82 → j ∉ ([] : List Nat) → F1 j = F j) → (sy_i F1 82).toInt = (sy_i F 82).toInt → sy_i F1 82 = sy_i F 82 → (sy_i F1 83).toInt = ((sy_i F 83).toInt + 1) → sy_i F1 83 = (sy_i F 83) + ((1 : Int32)) → (sy_i F1 84).toInt = ((sy_i F 84).toInt + 1) → sy_i F1 84 = (sy_i F 84) + ((1 : Int32)) → hd_W Ls xs d jm_M71 Q (5, sy_dL F1 [some (.inl (.ref 70)), some (.inl (.ref 10)), some (.inr (.inl 82)), some (.inr (.inl 83)), some (.inr (.inl 84))], sy_dS F1 [], sy_dh F1 X1 X2 (iv_H 1), 0, 0)) :
    hd_W Ls xs d jm_M71 Q (5, sy_dL F [some (.inl (.ref 70)), some (.inl (.ref 10)), some (.inr (.inl 82)), some (.inr (.inl 83)), some (.inr (.inl 84))], sy_dS F [], sy_dh F X1 X2 (iv_H 1), 0, 0) := by
  by_cases g0 : (sy_i F 3).toInt ≤ (sy_i F 84).toInt
  · have c3 := nz_bx hB (k := 3) (lo := 0) (hi := 7) rfl
    exact j1ft_5_p0 hd F X1 X2 hB (by first | exact g0 | (simp only [nz_c]; exact g0)) (fun F1 g  => by rw [(rfl : sy_i F 83 = sy_i F 83)]; exact k0 g0 F1 (nz_in0 hB [] (fun j hj hn => g j hj (by simp only [List.mem_cons, List.not_mem_nil, or_false, not_or] at hn; exact trivial)) (List.forall_mem_nil _)) (fun j hj hn => g j hj (by simp only [List.mem_cons, List.not_mem_nil, or_false, not_or] at hn; exact trivial)) )
  replace g0 : (sy_i F 84).toInt < (sy_i F 3).toInt := by omega
  by_cases g1 : ((sy_ai F 10).getD ((sy_i F 84).toInt).toNat 0).toInt ≠ ((sy_ai F 80).getD ((sy_i F 82).toInt).toNat 0).toInt
  · have c3 := nz_bx hB (k := 3) (lo := 0) (hi := 7) rfl
    have q85 : (sy_ai F 10).getD (sy_i F 84).toNatClampNeg 0 = (sy_ai F 10).getD ((sy_i F 84).toInt).toNat 0 := by simp only [nz_c]
    have n85 : nzI ((sy_ai F 10).getD (sy_i F 84).toNatClampNeg 0) (((sy_ai F 10).getD ((sy_i F 84).toInt).toNat 0).toInt) := congrArg Int32.toInt q85
    have q86 : (sy_ai F 80).getD (sy_i F 82).toNatClampNeg 0 = (sy_ai F 80).getD ((sy_i F 82).toInt).toNat 0 := by simp only [nz_c]
    have n86 : nzI ((sy_ai F 80).getD (sy_i F 82).toNatClampNeg 0) (((sy_ai F 80).getD ((sy_i F 82).toInt).toNat 0).toInt) := congrArg Int32.toInt q86
    have n87 : nzI ((sy_i F 84) + ((1 : Int32))) (((sy_i F 84).toInt + 1)) := nz_add (rfl : (sy_i F 84).toInt = (sy_i F 84).toInt) (by decide : ((1 : Int32)).toInt = 1) (by omega) (by omega)
    exact j1ft_5_p1 hd F X1 X2 hB (by first | exact g0 | (simp only [nz_c]; exact g0)) (by first | exact ⟨by omega, by omega⟩ | (simp only [nz_c]; exact ⟨by omega, by omega⟩)) (by first | exact ⟨by omega, by omega⟩ | (simp only [nz_c]; exact ⟨by omega, by omega⟩)) (by first | exact g1 | (simp only [nz_c]; exact g1) | (rw [(nzE n85)]; exact g1) | (rw [(nzE n86)]; exact g1) | (rw [(nzE n85), (nzE n86)]; exact g1)) (fun F1 g e82 e83 e84 => k1 g0 g1 F1 (nz_in0 hB [] (fun j hj hn => g j hj (by simp only [List.mem_cons, List.not_mem_nil, or_false, not_or] at hn; exact trivial)) (List.forall_mem_nil _)) (fun j hj hn => g j hj (by simp only [List.mem_cons, List.not_mem_nil, or_false, not_or] at hn; exact trivial)) ((congrArg Int32.toInt (zz_i e82)).trans (rfl : (sy_i F 82).toInt = (sy_i F 82).toInt)) ((zz_i e82).trans (rfl : sy_i F 82 = sy_i F 82)) ((congrArg Int32.toInt (zz_i e83)).trans (rfl : (sy_i F 83).toInt = (sy_i F 83).toInt)) ((zz_i e83).trans (rfl : sy_i F 83 = sy_i F 83)) ((congrArg Int32.toInt (zz_i e84)).trans (nzE n87)) ((zz_i e84).trans (rfl : (sy_i F 84) + ((1 : Int32)) = (sy_i F 84) + ((1 : Int32)))))
  replace g1 : ((sy_ai F 10).getD ((sy_i F 84).toInt).toNat 0).toInt = ((sy_ai F 80).getD ((sy_i F 82).toInt).toNat 0).toInt := by omega
  by_cases g2 : ((sy_ai F 12).getD ((sy_i F 84).toInt).toNat 0).toInt ≠ ((sy_ai F 81).getD ((sy_i F 82).toInt).toNat 0).toInt
  · have c3 := nz_bx hB (k := 3) (lo := 0) (hi := 7) rfl
    have q85 : (sy_ai F 10).getD (sy_i F 84).toNatClampNeg 0 = (sy_ai F 10).getD ((sy_i F 84).toInt).toNat 0 := by simp only [nz_c]
    have n85 : nzI ((sy_ai F 10).getD (sy_i F 84).toNatClampNeg 0) (((sy_ai F 10).getD ((sy_i F 84).toInt).toNat 0).toInt) := congrArg Int32.toInt q85
    have q86 : (sy_ai F 80).getD (sy_i F 82).toNatClampNeg 0 = (sy_ai F 80).getD ((sy_i F 82).toInt).toNat 0 := by simp only [nz_c]
    have n86 : nzI ((sy_ai F 80).getD (sy_i F 82).toNatClampNeg 0) (((sy_ai F 80).getD ((sy_i F 82).toInt).toNat 0).toInt) := congrArg Int32.toInt q86
    have q87 : (sy_ai F 12).getD (sy_i F 84).toNatClampNeg 0 = (sy_ai F 12).getD ((sy_i F 84).toInt).toNat 0 := by simp only [nz_c]
    have n87 : nzI ((sy_ai F 12).getD (sy_i F 84).toNatClampNeg 0) (((sy_ai F 12).getD ((sy_i F 84).toInt).toNat 0).toInt) := congrArg Int32.toInt q87
    have q88 : (sy_ai F 81).getD (sy_i F 82).toNatClampNeg 0 = (sy_ai F 81).getD ((sy_i F 82).toInt).toNat 0 := by simp only [nz_c]
    have n88 : nzI ((sy_ai F 81).getD (sy_i F 82).toNatClampNeg 0) (((sy_ai F 81).getD ((sy_i F 82).toInt).toNat 0).toInt) := congrArg Int32.toInt q88
    have n89 : nzI ((sy_i F 84) + ((1 : Int32))) (((sy_i F 84).toInt + 1)) := nz_add (rfl : (sy_i F 84).toInt = (sy_i F 84).toInt) (by decide : ((1 : Int32)).toInt = 1) (by omega) (by omega)
    exact j1ft_5_p2 hd F X1 X2 hB (by first | exact g0 | (simp only [nz_c]; exact g0)) (by first | exact ⟨by omega, by omega⟩ | (simp only [nz_c]; exact ⟨by omega, by omega⟩)) (by first | exact ⟨by omega, by omega⟩ | (simp only [nz_c]; exact ⟨by omega, by omega⟩)) (by first | exact g1 | (simp only [nz_c]; exact g1) | (rw [(nzE n85)]; exact g1) | (rw [(nzE n86)]; exact g1) | (rw [(nzE n85), (nzE n86)]; exact g1)) (by first | exact ⟨by omega, by omega⟩ | (simp only [nz_c]; exact ⟨by omega, by omega⟩)) (by first | exact ⟨by omega, by omega⟩ | (simp only [nz_c]; exact ⟨by omega, by omega⟩)) (by first | exact g2 | (simp only [nz_c]; exact g2) | (rw [(nzE n87)]; exact g2) | (rw [(nzE n88)]; exact g2) | (rw [(nzE n87), (nzE n88)]; exact g2)) (fun F1 g e82 e83 e84 => k2 g0 g1 g2 F1 (nz_in0 hB [] (fun j hj hn => g j hj (by simp only [List.mem_cons, List.not_mem_nil, or_false, not_or] at hn; exact trivial)) (List.forall_mem_nil _)) (fun j hj hn => g j hj (by simp only [List.mem_cons, List.not_mem_nil, or_false, not_or] at hn; exact trivial)) ((congrArg Int32.toInt (zz_i e82)).trans (rfl : (sy_i F 82).toInt = (sy_i F 82).toInt)) ((zz_i e82).trans (rfl : sy_i F 82 = sy_i F 82)) ((congrArg Int32.toInt (zz_i e83)).trans (rfl : (sy_i F 83).toInt = (sy_i F 83).toInt)) ((zz_i e83).trans (rfl : sy_i F 83 = sy_i F 83)) ((congrArg Int32.toInt (zz_i e84)).trans (nzE n89)) ((zz_i e84).trans (rfl : (sy_i F 84) + ((1 : Int32)) = (sy_i F 84) + ((1 : Int32)))))
  replace g2 : ((sy_ai F 12).getD ((sy_i F 84).toInt).toNat 0).toInt = ((sy_ai F 81).getD ((sy_i F 82).toInt).toNat 0).toInt := by omega
  have c3 := nz_bx hB (k := 3) (lo := 0) (hi := 7) rfl
  have q85 : (sy_ai F 10).getD (sy_i F 84).toNatClampNeg 0 = (sy_ai F 10).getD ((sy_i F 84).toInt).toNat 0 := by simp only [nz_c]
  have n85 : nzI ((sy_ai F 10).getD (sy_i F 84).toNatClampNeg 0) (((sy_ai F 10).getD ((sy_i F 84).toInt).toNat 0).toInt) := congrArg Int32.toInt q85
  have q86 : (sy_ai F 80).getD (sy_i F 82).toNatClampNeg 0 = (sy_ai F 80).getD ((sy_i F 82).toInt).toNat 0 := by simp only [nz_c]
  have n86 : nzI ((sy_ai F 80).getD (sy_i F 82).toNatClampNeg 0) (((sy_ai F 80).getD ((sy_i F 82).toInt).toNat 0).toInt) := congrArg Int32.toInt q86
  have q87 : (sy_ai F 12).getD (sy_i F 84).toNatClampNeg 0 = (sy_ai F 12).getD ((sy_i F 84).toInt).toNat 0 := by simp only [nz_c]
  have n87 : nzI ((sy_ai F 12).getD (sy_i F 84).toNatClampNeg 0) (((sy_ai F 12).getD ((sy_i F 84).toInt).toNat 0).toInt) := congrArg Int32.toInt q87
  have q88 : (sy_ai F 81).getD (sy_i F 82).toNatClampNeg 0 = (sy_ai F 81).getD ((sy_i F 82).toInt).toNat 0 := by simp only [nz_c]
  have n88 : nzI ((sy_ai F 81).getD (sy_i F 82).toNatClampNeg 0) (((sy_ai F 81).getD ((sy_i F 82).toInt).toNat 0).toInt) := congrArg Int32.toInt q88
  have n89 : nzI ((sy_i F 83) + ((1 : Int32))) (((sy_i F 83).toInt + 1)) := nz_add (rfl : (sy_i F 83).toInt = (sy_i F 83).toInt) (by decide : ((1 : Int32)).toInt = 1) (by omega) (by omega)
  have n90 : nzI ((sy_i F 84) + ((1 : Int32))) (((sy_i F 84).toInt + 1)) := nz_add (rfl : (sy_i F 84).toInt = (sy_i F 84).toInt) (by decide : ((1 : Int32)).toInt = 1) (by omega) (by omega)
  exact j1ft_5_p3 hd F X1 X2 hB (by first | exact g0 | (simp only [nz_c]; exact g0)) (by first | exact ⟨by omega, by omega⟩ | (simp only [nz_c]; exact ⟨by omega, by omega⟩)) (by first | exact ⟨by omega, by omega⟩ | (simp only [nz_c]; exact ⟨by omega, by omega⟩)) (by first | exact g1 | (simp only [nz_c]; exact g1) | (rw [(nzE n85)]; exact g1) | (rw [(nzE n86)]; exact g1) | (rw [(nzE n85), (nzE n86)]; exact g1)) (by first | exact ⟨by omega, by omega⟩ | (simp only [nz_c]; exact ⟨by omega, by omega⟩)) (by first | exact ⟨by omega, by omega⟩ | (simp only [nz_c]; exact ⟨by omega, by omega⟩)) (by first | exact g2 | (simp only [nz_c]; exact g2) | (rw [(nzE n87)]; exact g2) | (rw [(nzE n88)]; exact g2) | (rw [(nzE n87), (nzE n88)]; exact g2)) (fun F1 g e82 e83 e84 => k3 g0 g1 g2 F1 (nz_in0 hB [] (fun j hj hn => g j hj (by simp only [List.mem_cons, List.not_mem_nil, or_false, not_or] at hn; exact trivial)) (List.forall_mem_nil _)) (fun j hj hn => g j hj (by simp only [List.mem_cons, List.not_mem_nil, or_false, not_or] at hn; exact trivial)) ((congrArg Int32.toInt (zz_i e82)).trans (rfl : (sy_i F 82).toInt = (sy_i F 82).toInt)) ((zz_i e82).trans (rfl : sy_i F 82 = sy_i F 82)) ((congrArg Int32.toInt (zz_i e83)).trans (nzE n89)) ((zz_i e83).trans (rfl : (sy_i F 83) + ((1 : Int32)) = (sy_i F 83) + ((1 : Int32)))) ((congrArg Int32.toInt (zz_i e84)).trans (nzE n90)) ((zz_i e84).trans (rfl : (sy_i F 84) + ((1 : Int32)) = (sy_i F 84) + ((1 : Int32)))))
theorem j1ff_0_p0 {Ls : Nat} {xs : Nat → Int32} {d : Nat} {Q : Option Value → jm_h → Prop} (hd : 1 ≤ d) (F : Nat → sy_d) (X1 X2 : List jm_c) (hB : iv_in F iv_B0)
    (k : ∀ F1 : Nat → sy_d, (∀ j, j < 82 → True → F1 j = F j) → F1 82 = .inl (.int (sy_i F 82)) → F1 83 = .inl (.int ((0 : Int32))) → hd_W Ls xs d jm_M72 Q (2, sy_dL F1 [some (.inl (.ref 70)), some (.inl (.ref 10)), some (.inr (.inl 82)), some (.inr (.inl 83))], sy_dS F1 [], sy_dh F1 X1 X2 (iv_H 1), 0, 0)) :
    hd_W Ls xs d jm_M72 Q (0, sy_dL F [some (.inl (.ref 70)), some (.inl (.ref 10)), some (.inr (.inl 82)), none], sy_dS F [], sy_dh F X1 X2 (iv_H 1), 0, 0) := by
  refine hd_run (s := 1) (nv := 83) (pc := 2) (L := [some (.inl (.ref 70)), some (.inl (.ref 10)), some (.inr (.inl 82)), some (.inr (.inl 83))]) (S := []) (uh := hd_ov (iv_id 0 iv_B0) []) (ul := [.inl (.inr (.inl 82)), .inl (.inl (.int 0))]) (f := true) (sp := [2]) (d0 := 0) (O := []) (T := []) (P := []) jm_ok72 (by decide +kernel) (by decide +kernel) hd F X1 X2 (fun F' hF hs => ?_)
  have b82 := hd_b (F := F) (F' := F') (k := 82) (hF 82 (by decide))
  have hB' : iv_in F' iv_B0 := iv_in_eq hB (fun j hj => hF j (Nat.lt_of_lt_of_le hj (by decide +kernel)))
  refine ⟨fun _ h => absurd h List.not_mem_nil, ?_⟩
  refine k _ ?_ ?_ ?_
  · exact fun j hj _ => (hd_keep hB' (Nat.lt_of_lt_of_le hj (by decide +kernel)) (by simp)).trans (hF j (Nat.lt_of_lt_of_le hj (by decide)))
  · exact hd_gi (x := .inr (.inl 82)) (by decide +kernel) b82
  · exact hd_gi (x := .inl (.int 0)) (by decide +kernel) rfl
theorem j1ff_0 {Ls : Nat} {xs : Nat → Int32} {d : Nat} {Q : Option Value → jm_h → Prop} (hd : 1 ≤ d) (F : Nat → sy_d) (X1 X2 : List jm_c) (hB : iv_in F iv_B0)
    (k0 : ∀ F1 : Nat → sy_d, iv_in F1 iv_B0 → (∀ j, j < 82 → j ∉ ([] : List Nat) → F1 j = F j) → (sy_i F1 82).toInt = (sy_i F 82).toInt → sy_i F1 82 = sy_i F 82 → (sy_i F1 83).toInt = 0 → sy_i F1 83 = (0 : Int32) → hd_W Ls xs d jm_M72 Q (2, sy_dL F1 [some (.inl (.ref 70)), some (.inl (.ref 10)), some (.inr (.inl 82)), some (.inr (.inl 83))], sy_dS F1 [], sy_dh F1 X1 X2 (iv_H 1), 0, 0)) :
    hd_W Ls xs d jm_M72 Q (0, sy_dL F [some (.inl (.ref 70)), some (.inl (.ref 10)), some (.inr (.inl 82)), none], sy_dS F [], sy_dh F X1 X2 (iv_H 1), 0, 0) := by
  exact j1ff_0_p0 hd F X1 X2 hB  (fun F1 g e82 e83 => k0 F1 (nz_in0 hB [] (fun j hj hn => g j hj (by simp only [List.mem_cons, List.not_mem_nil, or_false, not_or] at hn; exact trivial)) (List.forall_mem_nil _)) (fun j hj hn => g j hj (by simp only [List.mem_cons, List.not_mem_nil, or_false, not_or] at hn; exact trivial)) ((congrArg Int32.toInt (zz_i e82)).trans (rfl : (sy_i F 82).toInt = (sy_i F 82).toInt)) ((zz_i e82).trans (rfl : sy_i F 82 = sy_i F 82)) ((congrArg Int32.toInt (zz_i e83)).trans (by decide : ((0 : Int32)).toInt = 0)) ((zz_i e83).trans (rfl : (0 : Int32) = (0 : Int32))))
theorem j1ff_2_p0 {Ls : Nat} {xs : Nat → Int32} {d : Nat} {Q : Option Value → jm_h → Prop} (hd : 2 ≤ d) (F : Nat → sy_d) (X1 X2 : List jm_c) (hB : iv_in F iv_B0)
    (h0 : (sy_i F 3).toInt ≤ (sy_i F 83).toInt)
    (k : ∀ F1 : Nat → sy_d, (∀ j, j < 82 → True → F1 j = F j) → Q (some (.int (((-2) : Int32)))) (sy_dh F1 X1 X2 (iv_H 1))) :
    hd_W Ls xs d jm_M72 Q (2, sy_dL F [some (.inl (.ref 70)), some (.inl (.ref 10)), some (.inr (.inl 82)), some (.inr (.inl 83))], sy_dS F [], sy_dh F X1 X2 (iv_H 1), 0, 0) := by
  refine hd_ret (s := 1) (nv := 84) (v := some (.inl (.int (-2)))) (uh := hd_ov (iv_id 0 iv_B0) []) (f := true) (sp := [2]) (d0 := 1) (O := [true]) (T := []) (P := [(4, .inr (.inl 3), .inr (.inl 83))]) jm_ok72 (by decide +kernel) (by decide +kernel) hd F X1 X2 (fun F' hF hs => ?_)
  have b3 := hd_b (F := F) (F' := F') (k := 3) (hF 3 (by decide))
  have b83 := hd_b (F := F) (F' := F') (k := 83) (hF 83 (by decide))
  have hB' : iv_in F' iv_B0 := iv_in_eq hB (fun j hj => hF j (Nat.lt_of_lt_of_le hj (by decide +kernel)))
  refine ⟨List.forall_mem_cons.mpr ⟨hd_p4 b3 b83 h0, fun _ h => absurd h List.not_mem_nil⟩, ?_⟩
  refine k _ ?_
  · exact fun j hj _ => (hd_keep hB' (Nat.lt_of_lt_of_le hj (by decide +kernel)) (by simp)).trans (hF j (Nat.lt_of_lt_of_le hj (by decide)))
theorem j1ff_2_p1 {Ls : Nat} {xs : Nat → Int32} {d : Nat} {Q : Option Value → jm_h → Prop} (hd : 2 ≤ d) (F : Nat → sy_d) (X1 X2 : List jm_c) (hB : iv_in F iv_B0)
    (h0 : (sy_i F 83).toInt < (sy_i F 3).toInt)
    (h1 : 0 ≤ (sy_i F 83).toInt ∧ (sy_i F 83).toInt < 7)
    (h2 : 0 ≤ (sy_i F 82).toInt ∧ (sy_i F 82).toInt < 7)
    (h3 : ((sy_ai F 10).getD (sy_i F 83).toNatClampNeg 0).toInt ≠ ((sy_ai F 80).getD (sy_i F 82).toNatClampNeg 0).toInt)
    (k : ∀ F1 : Nat → sy_d, (∀ j, j < 82 → True → F1 j = F j) → F1 82 = .inl (.int (sy_i F 82)) → F1 83 = .inl (.int ((sy_i F 83) + ((1 : Int32)))) → hd_W Ls xs d jm_M72 Q (2, sy_dL F1 [some (.inl (.ref 70)), some (.inl (.ref 10)), some (.inr (.inl 82)), some (.inr (.inl 83))], sy_dS F1 [], sy_dh F1 X1 X2 (iv_H 1), 0, 0)) :
    hd_W Ls xs d jm_M72 Q (2, sy_dL F [some (.inl (.ref 70)), some (.inl (.ref 10)), some (.inr (.inl 82)), some (.inr (.inl 83))], sy_dS F [], sy_dh F X1 X2 (iv_H 1), 0, 0) := by
  refine hd_run (s := 1) (nv := 84) (pc := 2) (L := [some (.inl (.ref 70)), some (.inl (.ref 10)), some (.inr (.inl 82)), some (.inr (.inl 83))]) (S := []) (uh := hd_ov (iv_id 0 iv_B0) []) (ul := [.inl (.inr (.inl 82)), .inl (.inr (.inl 86))]) (f := true) (sp := [2]) (d0 := 1) (O := [false, true]) (T := [(30, [.inr (.inl 83)], [.inr (.inl 10)]), (30, [.inr (.inl 82)], [.inr (.inl 80)]), (0, [.inr (.inl 83), .inl (.int 1)], [])]) (P := [(5, .inr (.inl 3), .inr (.inl 83)), (6, .inr (.inl 83), .inl (.ref 7)), (6, .inr (.inl 82), .inl (.ref 7)), (1, .inr (.inl 84), .inr (.inl 85))]) jm_ok72 (by decide +kernel) (by decide +kernel) hd F X1 X2 (fun F' hF hs => ?_)
  have b3 := hd_b (F := F) (F' := F') (k := 3) (hF 3 (by decide))
  have b83 := hd_b (F := F) (F' := F') (k := 83) (hF 83 (by decide))
  have b82 := hd_b (F := F) (F' := F') (k := 82) (hF 82 (by decide))
  have a10 := hd_ba (F := F) (F' := F') (k := 10) (hF 10 (by decide))
  have t84 : sy_dv F' (.inr (.inl 84)) = .int ((sy_ai F 10).getD (sy_i F 83).toNatClampNeg 0) := hd_rd (hs 0 _ rfl) b83 a10
  have a80 := hd_ba (F := F) (F' := F') (k := 80) (hF 80 (by decide))
  have t85 : sy_dv F' (.inr (.inl 85)) = .int ((sy_ai F 80).getD (sy_i F 82).toNatClampNeg 0) := hd_rd (hs 1 _ rfl) b82 a80
  have t86 : sy_dv F' (.inr (.inl 86)) = .int ((sy_i F 83) + ((1 : Int32))) := hd_o (hs 2 _ rfl) b83 rfl rfl
  have hB' : iv_in F' iv_B0 := iv_in_eq hB (fun j hj => hF j (Nat.lt_of_lt_of_le hj (by decide +kernel)))
  refine ⟨List.forall_mem_cons.mpr ⟨hd_p5 b3 b83 h0, List.forall_mem_cons.mpr ⟨hd_pb b83 (by first | exact h1 | exact h1), List.forall_mem_cons.mpr ⟨hd_pb b82 (by first | exact h2 | exact h2), List.forall_mem_cons.mpr ⟨hd_p1 t84 t85 h3, fun _ h => absurd h List.not_mem_nil⟩⟩⟩⟩, ?_⟩
  refine k _ ?_ ?_ ?_
  · exact fun j hj _ => (hd_keep hB' (Nat.lt_of_lt_of_le hj (by decide +kernel)) (by simp)).trans (hF j (Nat.lt_of_lt_of_le hj (by decide)))
  · exact hd_gi (x := .inr (.inl 82)) (by decide +kernel) b82
  · exact hd_gi (x := .inr (.inl 86)) (by decide +kernel) t86
theorem j1ff_2_p2 {Ls : Nat} {xs : Nat → Int32} {d : Nat} {Q : Option Value → jm_h → Prop} (hd : 2 ≤ d) (F : Nat → sy_d) (X1 X2 : List jm_c) (hB : iv_in F iv_B0)
    (h0 : (sy_i F 83).toInt < (sy_i F 3).toInt)
    (h1 : 0 ≤ (sy_i F 83).toInt ∧ (sy_i F 83).toInt < 7)
    (h2 : 0 ≤ (sy_i F 82).toInt ∧ (sy_i F 82).toInt < 7)
    (h3 : ((sy_ai F 10).getD (sy_i F 83).toNatClampNeg 0).toInt = ((sy_ai F 80).getD (sy_i F 82).toNatClampNeg 0).toInt)
    (h4 : 0 ≤ (sy_i F 83).toInt ∧ (sy_i F 83).toInt < 7)
    (h5 : 0 ≤ (sy_i F 82).toInt ∧ (sy_i F 82).toInt < 7)
    (h6 : ((sy_ai F 12).getD (sy_i F 83).toNatClampNeg 0).toInt ≠ ((sy_ai F 81).getD (sy_i F 82).toNatClampNeg 0).toInt)
    (k : ∀ F1 : Nat → sy_d, (∀ j, j < 82 → True → F1 j = F j) → F1 82 = .inl (.int (sy_i F 82)) → F1 83 = .inl (.int ((sy_i F 83) + ((1 : Int32)))) → hd_W Ls xs d jm_M72 Q (2, sy_dL F1 [some (.inl (.ref 70)), some (.inl (.ref 10)), some (.inr (.inl 82)), some (.inr (.inl 83))], sy_dS F1 [], sy_dh F1 X1 X2 (iv_H 1), 0, 0)) :
    hd_W Ls xs d jm_M72 Q (2, sy_dL F [some (.inl (.ref 70)), some (.inl (.ref 10)), some (.inr (.inl 82)), some (.inr (.inl 83))], sy_dS F [], sy_dh F X1 X2 (iv_H 1), 0, 0) := by
  refine hd_run (s := 1) (nv := 84) (pc := 2) (L := [some (.inl (.ref 70)), some (.inl (.ref 10)), some (.inr (.inl 82)), some (.inr (.inl 83))]) (S := []) (uh := hd_ov (iv_id 0 iv_B0) []) (ul := [.inl (.inr (.inl 82)), .inl (.inr (.inl 88))]) (f := true) (sp := [2]) (d0 := 1) (O := [false, false, true]) (T := [(30, [.inr (.inl 83)], [.inr (.inl 10)]), (30, [.inr (.inl 82)], [.inr (.inl 80)]), (30, [.inr (.inl 83)], [.inr (.inl 12)]), (30, [.inr (.inl 82)], [.inr (.inl 81)]), (0, [.inr (.inl 83), .inl (.int 1)], [])]) (P := [(5, .inr (.inl 3), .inr (.inl 83)), (6, .inr (.inl 83), .inl (.ref 7)), (6, .inr (.inl 82), .inl (.ref 7)), (0, .inr (.inl 84), .inr (.inl 85)), (6, .inr (.inl 83), .inl (.ref 7)), (6, .inr (.inl 82), .inl (.ref 7)), (1, .inr (.inl 86), .inr (.inl 87))]) jm_ok72 (by decide +kernel) (by decide +kernel) hd F X1 X2 (fun F' hF hs => ?_)
  have b3 := hd_b (F := F) (F' := F') (k := 3) (hF 3 (by decide))
  have b83 := hd_b (F := F) (F' := F') (k := 83) (hF 83 (by decide))
  have b82 := hd_b (F := F) (F' := F') (k := 82) (hF 82 (by decide))
  have a10 := hd_ba (F := F) (F' := F') (k := 10) (hF 10 (by decide))
  have t84 : sy_dv F' (.inr (.inl 84)) = .int ((sy_ai F 10).getD (sy_i F 83).toNatClampNeg 0) := hd_rd (hs 0 _ rfl) b83 a10
  have a80 := hd_ba (F := F) (F' := F') (k := 80) (hF 80 (by decide))
  have t85 : sy_dv F' (.inr (.inl 85)) = .int ((sy_ai F 80).getD (sy_i F 82).toNatClampNeg 0) := hd_rd (hs 1 _ rfl) b82 a80
  have a12 := hd_ba (F := F) (F' := F') (k := 12) (hF 12 (by decide))
  have t86 : sy_dv F' (.inr (.inl 86)) = .int ((sy_ai F 12).getD (sy_i F 83).toNatClampNeg 0) := hd_rd (hs 2 _ rfl) b83 a12
  have a81 := hd_ba (F := F) (F' := F') (k := 81) (hF 81 (by decide))
  have t87 : sy_dv F' (.inr (.inl 87)) = .int ((sy_ai F 81).getD (sy_i F 82).toNatClampNeg 0) := hd_rd (hs 3 _ rfl) b82 a81
  have t88 : sy_dv F' (.inr (.inl 88)) = .int ((sy_i F 83) + ((1 : Int32))) := hd_o (hs 4 _ rfl) b83 rfl rfl
  have hB' : iv_in F' iv_B0 := iv_in_eq hB (fun j hj => hF j (Nat.lt_of_lt_of_le hj (by decide +kernel)))
  refine ⟨List.forall_mem_cons.mpr ⟨hd_p5 b3 b83 h0, List.forall_mem_cons.mpr ⟨hd_pb b83 (by first | exact h1 | exact h1), List.forall_mem_cons.mpr ⟨hd_pb b82 (by first | exact h2 | exact h2), List.forall_mem_cons.mpr ⟨hd_p0 t84 t85 h3, List.forall_mem_cons.mpr ⟨hd_pb b83 (by first | exact h4 | exact h4), List.forall_mem_cons.mpr ⟨hd_pb b82 (by first | exact h5 | exact h5), List.forall_mem_cons.mpr ⟨hd_p1 t86 t87 h6, fun _ h => absurd h List.not_mem_nil⟩⟩⟩⟩⟩⟩⟩, ?_⟩
  refine k _ ?_ ?_ ?_
  · exact fun j hj _ => (hd_keep hB' (Nat.lt_of_lt_of_le hj (by decide +kernel)) (by simp)).trans (hF j (Nat.lt_of_lt_of_le hj (by decide)))
  · exact hd_gi (x := .inr (.inl 82)) (by decide +kernel) b82
  · exact hd_gi (x := .inr (.inl 88)) (by decide +kernel) t88
theorem j1ff_2_p3 {Ls : Nat} {xs : Nat → Int32} {d : Nat} {Q : Option Value → jm_h → Prop} (hd : 2 ≤ d) (F : Nat → sy_d) (X1 X2 : List jm_c) (hB : iv_in F iv_B0)
    (h0 : (sy_i F 83).toInt < (sy_i F 3).toInt)
    (h1 : 0 ≤ (sy_i F 83).toInt ∧ (sy_i F 83).toInt < 7)
    (h2 : 0 ≤ (sy_i F 82).toInt ∧ (sy_i F 82).toInt < 7)
    (h3 : ((sy_ai F 10).getD (sy_i F 83).toNatClampNeg 0).toInt = ((sy_ai F 80).getD (sy_i F 82).toNatClampNeg 0).toInt)
    (h4 : 0 ≤ (sy_i F 83).toInt ∧ (sy_i F 83).toInt < 7)
    (h5 : 0 ≤ (sy_i F 82).toInt ∧ (sy_i F 82).toInt < 7)
    (h6 : ((sy_ai F 12).getD (sy_i F 83).toNatClampNeg 0).toInt = ((sy_ai F 81).getD (sy_i F 82).toNatClampNeg 0).toInt)
    (k : ∀ F1 : Nat → sy_d, (∀ j, j < 82 → True → F1 j = F j) → Q (some (.int (sy_i F 83))) (sy_dh F1 X1 X2 (iv_H 1))) :
    hd_W Ls xs d jm_M72 Q (2, sy_dL F [some (.inl (.ref 70)), some (.inl (.ref 10)), some (.inr (.inl 82)), some (.inr (.inl 83))], sy_dS F [], sy_dh F X1 X2 (iv_H 1), 0, 0) := by
  refine hd_ret (s := 1) (nv := 84) (v := some (.inr (.inl 83))) (uh := hd_ov (iv_id 0 iv_B0) []) (f := true) (sp := [2]) (d0 := 1) (O := [false, false, false]) (T := [(30, [.inr (.inl 83)], [.inr (.inl 10)]), (30, [.inr (.inl 82)], [.inr (.inl 80)]), (30, [.inr (.inl 83)], [.inr (.inl 12)]), (30, [.inr (.inl 82)], [.inr (.inl 81)])]) (P := [(5, .inr (.inl 3), .inr (.inl 83)), (6, .inr (.inl 83), .inl (.ref 7)), (6, .inr (.inl 82), .inl (.ref 7)), (0, .inr (.inl 84), .inr (.inl 85)), (6, .inr (.inl 83), .inl (.ref 7)), (6, .inr (.inl 82), .inl (.ref 7)), (0, .inr (.inl 86), .inr (.inl 87))]) jm_ok72 (by decide +kernel) (by decide +kernel) hd F X1 X2 (fun F' hF hs => ?_)
  have b3 := hd_b (F := F) (F' := F') (k := 3) (hF 3 (by decide))
  have b83 := hd_b (F := F) (F' := F') (k := 83) (hF 83 (by decide))
  have b82 := hd_b (F := F) (F' := F') (k := 82) (hF 82 (by decide))
  have a10 := hd_ba (F := F) (F' := F') (k := 10) (hF 10 (by decide))
  have t84 : sy_dv F' (.inr (.inl 84)) = .int ((sy_ai F 10).getD (sy_i F 83).toNatClampNeg 0) := hd_rd (hs 0 _ rfl) b83 a10
  have a80 := hd_ba (F := F) (F' := F') (k := 80) (hF 80 (by decide))
  have t85 : sy_dv F' (.inr (.inl 85)) = .int ((sy_ai F 80).getD (sy_i F 82).toNatClampNeg 0) := hd_rd (hs 1 _ rfl) b82 a80
  have a12 := hd_ba (F := F) (F' := F') (k := 12) (hF 12 (by decide))
  have t86 : sy_dv F' (.inr (.inl 86)) = .int ((sy_ai F 12).getD (sy_i F 83).toNatClampNeg 0) := hd_rd (hs 2 _ rfl) b83 a12
  have a81 := hd_ba (F := F) (F' := F') (k := 81) (hF 81 (by decide))
  have t87 : sy_dv F' (.inr (.inl 87)) = .int ((sy_ai F 81).getD (sy_i F 82).toNatClampNeg 0) := hd_rd (hs 3 _ rfl) b82 a81
  have hB' : iv_in F' iv_B0 := iv_in_eq hB (fun j hj => hF j (Nat.lt_of_lt_of_le hj (by decide +kernel)))
  have hk := k (sy_cm F' (hd_ov (iv_id 0 iv_B0) [] ++ [])) (fun j hj _ => (hd_keep hB' (Nat.lt_of_lt_of_le hj (by decide +kernel)) (by simp)).trans (hF j (Nat.lt_of_lt_of_le hj (by decide))))
  refine ⟨List.forall_mem_cons.mpr ⟨hd_p5 b3 b83 h0, List.forall_mem_cons.mpr ⟨hd_pb b83 (by first | exact h1 | exact h1), List.forall_mem_cons.mpr ⟨hd_pb b82 (by first | exact h2 | exact h2), List.forall_mem_cons.mpr ⟨hd_p0 t84 t85 h3, List.forall_mem_cons.mpr ⟨hd_pb b83 (by first | exact h4 | exact h4), List.forall_mem_cons.mpr ⟨hd_pb b82 (by first | exact h5 | exact h5), List.forall_mem_cons.mpr ⟨hd_p0 t86 t87 h6, fun _ h => absurd h List.not_mem_nil⟩⟩⟩⟩⟩⟩⟩, ?_⟩
  show Q (some (sy_dv F' (.inr (.inl 83)))) _
  rw [b83]
  exact hk
theorem j1ff_2 {Ls : Nat} {xs : Nat → Int32} {d : Nat} {Q : Option Value → jm_h → Prop} (hd : 2 ≤ d) (F : Nat → sy_d) (X1 X2 : List jm_c) (hB : iv_in F iv_B0)
    (a82 : 0 ≤ (sy_i F 82).toInt ∧ (sy_i F 82).toInt ≤ 6)
    (a83 : 0 ≤ (sy_i F 83).toInt ∧ (sy_i F 83).toInt ≤ 7)
    (k0 : (sy_i F 3).toInt ≤ (sy_i F 83).toInt → ∀ F1 : Nat → sy_d, iv_in F1 iv_B0 → (∀ j, j < 82 → j ∉ ([] : List Nat) → F1 j = F j) → Q (some (.int (((-2) : Int32)))) (sy_dh F1 X1 X2 (iv_H 1)))
    (k1 : (sy_i F 83).toInt < (sy_i F 3).toInt → ((sy_ai F 10).getD ((sy_i F 83).toInt).toNat 0).toInt ≠ ((sy_ai F 80).getD ((sy_i F 82).toInt).toNat 0).toInt → ∀ F1 : Nat → sy_d, iv_in F1 iv_B0 → (∀ j, j < 82 → j ∉ ([] : List Nat) → F1 j = F j) → (sy_i F1 82).toInt = (sy_i F 82).toInt → sy_i F1 82 = sy_i F 82 → (sy_i F1 83).toInt = ((sy_i F 83).toInt + 1) → sy_i F1 83 = (sy_i F 83) + ((1 : Int32)) → hd_W Ls xs d jm_M72 Q (2, sy_dL F1 [some (.inl (.ref 70)), some (.inl (.ref 10)), some (.inr (.inl 82)), some (.inr (.inl 83))], sy_dS F1 [], sy_dh F1 X1 X2 (iv_H 1), 0, 0))
    (k2 : (sy_i F 83).toInt < (sy_i F 3).toInt → ((sy_ai F 10).getD ((sy_i F 83).toInt).toNat 0).toInt = ((sy_ai F 80).getD ((sy_i F 82).toInt).toNat 0).toInt → ((sy_ai F 12).getD ((sy_i F 83).toInt).toNat 0).toInt ≠ ((sy_ai F 81).getD ((sy_i F 82).toInt).toNat 0).toInt → ∀ F1 : Nat → sy_d, iv_in F1 iv_B0 → (∀ j, j < 82 → j ∉ ([] : List Nat) → F1 j = F j) → (sy_i F1 82).toInt = (sy_i F 82).toInt → sy_i F1 82 = sy_i F 82 → (sy_i F1 83).toInt = ((sy_i F 83).toInt + 1) → sy_i F1 83 = (sy_i F 83) + ((1 : Int32)) → hd_W Ls xs d jm_M72 Q (2, sy_dL F1 [some (.inl (.ref 70)), some (.inl (.ref 10)), some (.inr (.inl 82)), some (.inr (.inl 83))], sy_dS F1 [], sy_dh F1 X1 X2 (iv_H 1), 0, 0))
    (k3 : (sy_i F 83).toInt < (sy_i F 3).toInt → ((sy_ai F 10).getD ((sy_i F 83).toInt).toNat 0).toInt = ((sy_ai F 80).getD ((sy_i F 82).toInt).toNat 0).toInt → ((sy_ai F 12).getD ((sy_i F 83).toInt).toNat 0).toInt = ((sy_ai F 81).getD ((sy_i F 82).toInt).toNat 0).toInt → ∀ F1 : Nat → sy_d, iv_in F1 iv_B0 → (∀ j, j < 82 → j ∉ ([] : List Nat) → F1 j = F j) → Q (some (.int (sy_i F 83))) (sy_dh F1 X1 X2 (iv_H 1))) :
    hd_W Ls xs d jm_M72 Q (2, sy_dL F [some (.inl (.ref 70)), some (.inl (.ref 10)), some (.inr (.inl 82)), some (.inr (.inl 83))], sy_dS F [], sy_dh F X1 X2 (iv_H 1), 0, 0) := by
  by_cases g0 : (sy_i F 3).toInt ≤ (sy_i F 83).toInt
  · have c3 := nz_bx hB (k := 3) (lo := 0) (hi := 7) rfl
    exact j1ff_2_p0 hd F X1 X2 hB (by first | exact g0 | (simp only [nz_c]; exact g0)) (fun F1 g  => k0 g0 F1 (nz_in0 hB [] (fun j hj hn => g j hj (by simp only [List.mem_cons, List.not_mem_nil, or_false, not_or] at hn; exact trivial)) (List.forall_mem_nil _)) (fun j hj hn => g j hj (by simp only [List.mem_cons, List.not_mem_nil, or_false, not_or] at hn; exact trivial)) )
  replace g0 : (sy_i F 83).toInt < (sy_i F 3).toInt := by omega
  by_cases g1 : ((sy_ai F 10).getD ((sy_i F 83).toInt).toNat 0).toInt ≠ ((sy_ai F 80).getD ((sy_i F 82).toInt).toNat 0).toInt
  · have c3 := nz_bx hB (k := 3) (lo := 0) (hi := 7) rfl
    have q84 : (sy_ai F 10).getD (sy_i F 83).toNatClampNeg 0 = (sy_ai F 10).getD ((sy_i F 83).toInt).toNat 0 := by simp only [nz_c]
    have n84 : nzI ((sy_ai F 10).getD (sy_i F 83).toNatClampNeg 0) (((sy_ai F 10).getD ((sy_i F 83).toInt).toNat 0).toInt) := congrArg Int32.toInt q84
    have q85 : (sy_ai F 80).getD (sy_i F 82).toNatClampNeg 0 = (sy_ai F 80).getD ((sy_i F 82).toInt).toNat 0 := by simp only [nz_c]
    have n85 : nzI ((sy_ai F 80).getD (sy_i F 82).toNatClampNeg 0) (((sy_ai F 80).getD ((sy_i F 82).toInt).toNat 0).toInt) := congrArg Int32.toInt q85
    have n86 : nzI ((sy_i F 83) + ((1 : Int32))) (((sy_i F 83).toInt + 1)) := nz_add (rfl : (sy_i F 83).toInt = (sy_i F 83).toInt) (by decide : ((1 : Int32)).toInt = 1) (by omega) (by omega)
    exact j1ff_2_p1 hd F X1 X2 hB (by first | exact g0 | (simp only [nz_c]; exact g0)) (by first | exact ⟨by omega, by omega⟩ | (simp only [nz_c]; exact ⟨by omega, by omega⟩)) (by first | exact ⟨by omega, by omega⟩ | (simp only [nz_c]; exact ⟨by omega, by omega⟩)) (by first | exact g1 | (simp only [nz_c]; exact g1) | (rw [(nzE n84)]; exact g1) | (rw [(nzE n85)]; exact g1) | (rw [(nzE n84), (nzE n85)]; exact g1)) (fun F1 g e82 e83 => k1 g0 g1 F1 (nz_in0 hB [] (fun j hj hn => g j hj (by simp only [List.mem_cons, List.not_mem_nil, or_false, not_or] at hn; exact trivial)) (List.forall_mem_nil _)) (fun j hj hn => g j hj (by simp only [List.mem_cons, List.not_mem_nil, or_false, not_or] at hn; exact trivial)) ((congrArg Int32.toInt (zz_i e82)).trans (rfl : (sy_i F 82).toInt = (sy_i F 82).toInt)) ((zz_i e82).trans (rfl : sy_i F 82 = sy_i F 82)) ((congrArg Int32.toInt (zz_i e83)).trans (nzE n86)) ((zz_i e83).trans (rfl : (sy_i F 83) + ((1 : Int32)) = (sy_i F 83) + ((1 : Int32)))))
  replace g1 : ((sy_ai F 10).getD ((sy_i F 83).toInt).toNat 0).toInt = ((sy_ai F 80).getD ((sy_i F 82).toInt).toNat 0).toInt := by omega
  by_cases g2 : ((sy_ai F 12).getD ((sy_i F 83).toInt).toNat 0).toInt ≠ ((sy_ai F 81).getD ((sy_i F 82).toInt).toNat 0).toInt
  · have c3 := nz_bx hB (k := 3) (lo := 0) (hi := 7) rfl
    have q84 : (sy_ai F 10).getD (sy_i F 83).toNatClampNeg 0 = (sy_ai F 10).getD ((sy_i F 83).toInt).toNat 0 := by simp only [nz_c]
    have n84 : nzI ((sy_ai F 10).getD (sy_i F 83).toNatClampNeg 0) (((sy_ai F 10).getD ((sy_i F 83).toInt).toNat 0).toInt) := congrArg Int32.toInt q84
    have q85 : (sy_ai F 80).getD (sy_i F 82).toNatClampNeg 0 = (sy_ai F 80).getD ((sy_i F 82).toInt).toNat 0 := by simp only [nz_c]
    have n85 : nzI ((sy_ai F 80).getD (sy_i F 82).toNatClampNeg 0) (((sy_ai F 80).getD ((sy_i F 82).toInt).toNat 0).toInt) := congrArg Int32.toInt q85
    have q86 : (sy_ai F 12).getD (sy_i F 83).toNatClampNeg 0 = (sy_ai F 12).getD ((sy_i F 83).toInt).toNat 0 := by simp only [nz_c]
    have n86 : nzI ((sy_ai F 12).getD (sy_i F 83).toNatClampNeg 0) (((sy_ai F 12).getD ((sy_i F 83).toInt).toNat 0).toInt) := congrArg Int32.toInt q86
    have q87 : (sy_ai F 81).getD (sy_i F 82).toNatClampNeg 0 = (sy_ai F 81).getD ((sy_i F 82).toInt).toNat 0 := by simp only [nz_c]
    have n87 : nzI ((sy_ai F 81).getD (sy_i F 82).toNatClampNeg 0) (((sy_ai F 81).getD ((sy_i F 82).toInt).toNat 0).toInt) := congrArg Int32.toInt q87
    have n88 : nzI ((sy_i F 83) + ((1 : Int32))) (((sy_i F 83).toInt + 1)) := nz_add (rfl : (sy_i F 83).toInt = (sy_i F 83).toInt) (by decide : ((1 : Int32)).toInt = 1) (by omega) (by omega)
    exact j1ff_2_p2 hd F X1 X2 hB (by first | exact g0 | (simp only [nz_c]; exact g0)) (by first | exact ⟨by omega, by omega⟩ | (simp only [nz_c]; exact ⟨by omega, by omega⟩)) (by first | exact ⟨by omega, by omega⟩ | (simp only [nz_c]; exact ⟨by omega, by omega⟩)) (by first | exact g1 | (simp only [nz_c]; exact g1) | (rw [(nzE n84)]; exact g1) | (rw [(nzE n85)]; exact g1) | (rw [(nzE n84), (nzE n85)]; exact g1)) (by first | exact ⟨by omega, by omega⟩ | (simp only [nz_c]; exact ⟨by omega, by omega⟩)) (by first | exact ⟨by omega, by omega⟩ | (simp only [nz_c]; exact ⟨by omega, by omega⟩)) (by first | exact g2 | (simp only [nz_c]; exact g2) | (rw [(nzE n86)]; exact g2) | (rw [(nzE n87)]; exact g2) | (rw [(nzE n86), (nzE n87)]; exact g2)) (fun F1 g e82 e83 => k2 g0 g1 g2 F1 (nz_in0 hB [] (fun j hj hn => g j hj (by simp only [List.mem_cons, List.not_mem_nil, or_false, not_or] at hn; exact trivial)) (List.forall_mem_nil _)) (fun j hj hn => g j hj (by simp only [List.mem_cons, List.not_mem_nil, or_false, not_or] at hn; exact trivial)) ((congrArg Int32.toInt (zz_i e82)).trans (rfl : (sy_i F 82).toInt = (sy_i F 82).toInt)) ((zz_i e82).trans (rfl : sy_i F 82 = sy_i F 82)) ((congrArg Int32.toInt (zz_i e83)).trans (nzE n88)) ((zz_i e83).trans (rfl : (sy_i F 83) + ((1 : Int32)) = (sy_i F 83) + ((1 : Int32)))))
  replace g2 : ((sy_ai F 12).getD ((sy_i F 83).toInt).toNat 0).toInt = ((sy_ai F 81).getD ((sy_i F 82).toInt).toNat 0).toInt := by omega
  have c3 := nz_bx hB (k := 3) (lo := 0) (hi := 7) rfl
  have q84 : (sy_ai F 10).getD (sy_i F 83).toNatClampNeg 0 = (sy_ai F 10).getD ((sy_i F 83).toInt).toNat 0 := by simp only [nz_c]
  have n84 : nzI ((sy_ai F 10).getD (sy_i F 83).toNatClampNeg 0) (((sy_ai F 10).getD ((sy_i F 83).toInt).toNat 0).toInt) := congrArg Int32.toInt q84
  have q85 : (sy_ai F 80).getD (sy_i F 82).toNatClampNeg 0 = (sy_ai F 80).getD ((sy_i F 82).toInt).toNat 0 := by simp only [nz_c]
  have n85 : nzI ((sy_ai F 80).getD (sy_i F 82).toNatClampNeg 0) (((sy_ai F 80).getD ((sy_i F 82).toInt).toNat 0).toInt) := congrArg Int32.toInt q85
  have q86 : (sy_ai F 12).getD (sy_i F 83).toNatClampNeg 0 = (sy_ai F 12).getD ((sy_i F 83).toInt).toNat 0 := by simp only [nz_c]
  have n86 : nzI ((sy_ai F 12).getD (sy_i F 83).toNatClampNeg 0) (((sy_ai F 12).getD ((sy_i F 83).toInt).toNat 0).toInt) := congrArg Int32.toInt q86
  have q87 : (sy_ai F 81).getD (sy_i F 82).toNatClampNeg 0 = (sy_ai F 81).getD ((sy_i F 82).toInt).toNat 0 := by simp only [nz_c]
  have n87 : nzI ((sy_ai F 81).getD (sy_i F 82).toNatClampNeg 0) (((sy_ai F 81).getD ((sy_i F 82).toInt).toNat 0).toInt) := congrArg Int32.toInt q87
  exact j1ff_2_p3 hd F X1 X2 hB (by first | exact g0 | (simp only [nz_c]; exact g0)) (by first | exact ⟨by omega, by omega⟩ | (simp only [nz_c]; exact ⟨by omega, by omega⟩)) (by first | exact ⟨by omega, by omega⟩ | (simp only [nz_c]; exact ⟨by omega, by omega⟩)) (by first | exact g1 | (simp only [nz_c]; exact g1) | (rw [(nzE n84)]; exact g1) | (rw [(nzE n85)]; exact g1) | (rw [(nzE n84), (nzE n85)]; exact g1)) (by first | exact ⟨by omega, by omega⟩ | (simp only [nz_c]; exact ⟨by omega, by omega⟩)) (by first | exact ⟨by omega, by omega⟩ | (simp only [nz_c]; exact ⟨by omega, by omega⟩)) (by first | exact g2 | (simp only [nz_c]; exact g2) | (rw [(nzE n86)]; exact g2) | (rw [(nzE n87)]; exact g2) | (rw [(nzE n86), (nzE n87)]; exact g2)) (fun F1 g  => by rw [(rfl : sy_i F 83 = sy_i F 83)]; exact k3 g0 g1 g2 F1 (nz_in0 hB [] (fun j hj hn => g j hj (by simp only [List.mem_cons, List.not_mem_nil, or_false, not_or] at hn; exact trivial)) (List.forall_mem_nil _)) (fun j hj hn => g j hj (by simp only [List.mem_cons, List.not_mem_nil, or_false, not_or] at hn; exact trivial)) )
theorem j1al_0_p0 {Ls : Nat} {xs : Nat → Int32} {d : Nat} {Q : Option Value → jm_h → Prop} (hd : 1 ≤ d) (F : Nat → sy_d) (X1 X2 : List jm_c) (hB : iv_in F iv_B0)
    (k : ∀ F1 : Nat → sy_d, (∀ j, j < 82 → True → F1 j = F j) → F1 82 = .inl (.int (sy_i F 82)) → F1 83 = .inl (.int ((0 : Int32))) → F1 84 = .inl (.int ((0 : Int32))) → hd_W Ls xs d jm_M75 Q (4, sy_dL F1 [some (.inl (.ref 70)), some (.inr (.inl 82)), some (.inr (.inl 83)), some (.inr (.inl 84))], sy_dS F1 [], sy_dh F1 X1 X2 (iv_H 1), 0, 0)) :
    hd_W Ls xs d jm_M75 Q (0, sy_dL F [some (.inl (.ref 70)), some (.inr (.inl 82)), none, none], sy_dS F [], sy_dh F X1 X2 (iv_H 1), 0, 0) := by
  refine hd_run (s := 1) (nv := 83) (pc := 4) (L := [some (.inl (.ref 70)), some (.inr (.inl 82)), some (.inr (.inl 83)), some (.inr (.inl 84))]) (S := []) (uh := hd_ov (iv_id 0 iv_B0) []) (ul := [.inl (.inr (.inl 82)), .inl (.inl (.int 0)), .inl (.inl (.int 0))]) (f := true) (sp := [4]) (d0 := 0) (O := []) (T := []) (P := []) jm_ok75 (by decide +kernel) (by decide +kernel) hd F X1 X2 (fun F' hF hs => ?_)
  have b82 := hd_b (F := F) (F' := F') (k := 82) (hF 82 (by decide))
  have hB' : iv_in F' iv_B0 := iv_in_eq hB (fun j hj => hF j (Nat.lt_of_lt_of_le hj (by decide +kernel)))
  refine ⟨fun _ h => absurd h List.not_mem_nil, ?_⟩
  refine k _ ?_ ?_ ?_ ?_
  · exact fun j hj _ => (hd_keep hB' (Nat.lt_of_lt_of_le hj (by decide +kernel)) (by simp)).trans (hF j (Nat.lt_of_lt_of_le hj (by decide)))
  · exact hd_gi (x := .inr (.inl 82)) (by decide +kernel) b82
  · exact hd_gi (x := .inl (.int 0)) (by decide +kernel) rfl
  · exact hd_gi (x := .inl (.int 0)) (by decide +kernel) rfl
theorem j1al_0 {Ls : Nat} {xs : Nat → Int32} {d : Nat} {Q : Option Value → jm_h → Prop} (hd : 1 ≤ d) (F : Nat → sy_d) (X1 X2 : List jm_c) (hB : iv_in F iv_B0)
    (k0 : ∀ F1 : Nat → sy_d, iv_in F1 iv_B0 → (∀ j, j < 82 → j ∉ ([] : List Nat) → F1 j = F j) → (sy_i F1 82).toInt = (sy_i F 82).toInt → sy_i F1 82 = sy_i F 82 → (sy_i F1 83).toInt = 0 → sy_i F1 83 = (0 : Int32) → (sy_i F1 84).toInt = 0 → sy_i F1 84 = (0 : Int32) → hd_W Ls xs d jm_M75 Q (4, sy_dL F1 [some (.inl (.ref 70)), some (.inr (.inl 82)), some (.inr (.inl 83)), some (.inr (.inl 84))], sy_dS F1 [], sy_dh F1 X1 X2 (iv_H 1), 0, 0)) :
    hd_W Ls xs d jm_M75 Q (0, sy_dL F [some (.inl (.ref 70)), some (.inr (.inl 82)), none, none], sy_dS F [], sy_dh F X1 X2 (iv_H 1), 0, 0) := by
  exact j1al_0_p0 hd F X1 X2 hB  (fun F1 g e82 e83 e84 => k0 F1 (nz_in0 hB [] (fun j hj hn => g j hj (by simp only [List.mem_cons, List.not_mem_nil, or_false, not_or] at hn; exact trivial)) (List.forall_mem_nil _)) (fun j hj hn => g j hj (by simp only [List.mem_cons, List.not_mem_nil, or_false, not_or] at hn; exact trivial)) ((congrArg Int32.toInt (zz_i e82)).trans (rfl : (sy_i F 82).toInt = (sy_i F 82).toInt)) ((zz_i e82).trans (rfl : sy_i F 82 = sy_i F 82)) ((congrArg Int32.toInt (zz_i e83)).trans (by decide : ((0 : Int32)).toInt = 0)) ((zz_i e83).trans (rfl : (0 : Int32) = (0 : Int32))) ((congrArg Int32.toInt (zz_i e84)).trans (by decide : ((0 : Int32)).toInt = 0)) ((zz_i e84).trans (rfl : (0 : Int32) = (0 : Int32))))
theorem j1al_4_p0 {Ls : Nat} {xs : Nat → Int32} {d : Nat} {Q : Option Value → jm_h → Prop} (hd : 1 ≤ d) (F : Nat → sy_d) (X1 X2 : List jm_c) (hB : iv_in F iv_B0)
    (h0 : (sy_i F 82).toInt ≤ (sy_i F 84).toInt)
    (k : ∀ F1 : Nat → sy_d, (∀ j, j < 82 → True → F1 j = F j) → Q (some (.int (sy_i F 83))) (sy_dh F1 X1 X2 (iv_H 1))) :
    hd_W Ls xs d jm_M75 Q (4, sy_dL F [some (.inl (.ref 70)), some (.inr (.inl 82)), some (.inr (.inl 83)), some (.inr (.inl 84))], sy_dS F [], sy_dh F X1 X2 (iv_H 1), 0, 0) := by
  refine hd_ret (s := 1) (nv := 85) (v := some (.inr (.inl 83))) (uh := hd_ov (iv_id 0 iv_B0) []) (f := true) (sp := [4]) (d0 := 0) (O := [true]) (T := []) (P := [(4, .inr (.inl 82), .inr (.inl 84))]) jm_ok75 (by decide +kernel) (by decide +kernel) hd F X1 X2 (fun F' hF hs => ?_)
  have b82 := hd_b (F := F) (F' := F') (k := 82) (hF 82 (by decide))
  have b84 := hd_b (F := F) (F' := F') (k := 84) (hF 84 (by decide))
  have b83 := hd_b (F := F) (F' := F') (k := 83) (hF 83 (by decide))
  have hB' : iv_in F' iv_B0 := iv_in_eq hB (fun j hj => hF j (Nat.lt_of_lt_of_le hj (by decide +kernel)))
  have hk := k (sy_cm F' (hd_ov (iv_id 0 iv_B0) [] ++ [])) (fun j hj _ => (hd_keep hB' (Nat.lt_of_lt_of_le hj (by decide +kernel)) (by simp)).trans (hF j (Nat.lt_of_lt_of_le hj (by decide))))
  refine ⟨List.forall_mem_cons.mpr ⟨hd_p4 b82 b84 h0, fun _ h => absurd h List.not_mem_nil⟩, ?_⟩
  show Q (some (sy_dv F' (.inr (.inl 83)))) _
  rw [b83]
  exact hk
theorem j1al_4_p1 {Ls : Nat} {xs : Nat → Int32} {d : Nat} {Q : Option Value → jm_h → Prop} (hd : 1 ≤ d) (F : Nat → sy_d) (X1 X2 : List jm_c) (hB : iv_in F iv_B0)
    (h0 : (sy_i F 84).toInt < (sy_i F 82).toInt)
    (h1 : 0 ≤ (sy_i F 84).toInt ∧ (sy_i F 84).toInt < 7)
    (h2 : 0 ≤ (sy_i F 82).toInt ∧ (sy_i F 82).toInt < 7)
    (h3 : ((sy_ai F 80).getD (sy_i F 84).toNatClampNeg 0).toInt ≠ ((sy_ai F 80).getD (sy_i F 82).toNatClampNeg 0).toInt)
    (k : ∀ F1 : Nat → sy_d, (∀ j, j < 82 → True → F1 j = F j) → F1 82 = .inl (.int (sy_i F 82)) → F1 83 = .inl (.int (sy_i F 83)) → F1 84 = .inl (.int ((sy_i F 84) + ((1 : Int32)))) → hd_W Ls xs d jm_M75 Q (4, sy_dL F1 [some (.inl (.ref 70)), some (.inr (.inl 82)), some (.inr (.inl 83)), some (.inr (.inl 84))], sy_dS F1 [], sy_dh F1 X1 X2 (iv_H 1), 0, 0)) :
    hd_W Ls xs d jm_M75 Q (4, sy_dL F [some (.inl (.ref 70)), some (.inr (.inl 82)), some (.inr (.inl 83)), some (.inr (.inl 84))], sy_dS F [], sy_dh F X1 X2 (iv_H 1), 0, 0) := by
  refine hd_run (s := 1) (nv := 85) (pc := 4) (L := [some (.inl (.ref 70)), some (.inr (.inl 82)), some (.inr (.inl 83)), some (.inr (.inl 84))]) (S := []) (uh := hd_ov (iv_id 0 iv_B0) []) (ul := [.inl (.inr (.inl 82)), .inl (.inr (.inl 83)), .inl (.inr (.inl 87))]) (f := true) (sp := [4]) (d0 := 0) (O := [false, true]) (T := [(30, [.inr (.inl 84)], [.inr (.inl 80)]), (30, [.inr (.inl 82)], [.inr (.inl 80)]), (0, [.inr (.inl 84), .inl (.int 1)], [])]) (P := [(5, .inr (.inl 82), .inr (.inl 84)), (6, .inr (.inl 84), .inl (.ref 7)), (6, .inr (.inl 82), .inl (.ref 7)), (1, .inr (.inl 85), .inr (.inl 86))]) jm_ok75 (by decide +kernel) (by decide +kernel) hd F X1 X2 (fun F' hF hs => ?_)
  have b82 := hd_b (F := F) (F' := F') (k := 82) (hF 82 (by decide))
  have b84 := hd_b (F := F) (F' := F') (k := 84) (hF 84 (by decide))
  have a80 := hd_ba (F := F) (F' := F') (k := 80) (hF 80 (by decide))
  have t85 : sy_dv F' (.inr (.inl 85)) = .int ((sy_ai F 80).getD (sy_i F 84).toNatClampNeg 0) := hd_rd (hs 0 _ rfl) b84 a80
  have t86 : sy_dv F' (.inr (.inl 86)) = .int ((sy_ai F 80).getD (sy_i F 82).toNatClampNeg 0) := hd_rd (hs 1 _ rfl) b82 a80
  have b83 := hd_b (F := F) (F' := F') (k := 83) (hF 83 (by decide))
  have t87 : sy_dv F' (.inr (.inl 87)) = .int ((sy_i F 84) + ((1 : Int32))) := hd_o (hs 2 _ rfl) b84 rfl rfl
  have hB' : iv_in F' iv_B0 := iv_in_eq hB (fun j hj => hF j (Nat.lt_of_lt_of_le hj (by decide +kernel)))
  refine ⟨List.forall_mem_cons.mpr ⟨hd_p5 b82 b84 h0, List.forall_mem_cons.mpr ⟨hd_pb b84 (by first | exact h1 | exact h1), List.forall_mem_cons.mpr ⟨hd_pb b82 (by first | exact h2 | exact h2), List.forall_mem_cons.mpr ⟨hd_p1 t85 t86 h3, fun _ h => absurd h List.not_mem_nil⟩⟩⟩⟩, ?_⟩
  refine k _ ?_ ?_ ?_ ?_
  · exact fun j hj _ => (hd_keep hB' (Nat.lt_of_lt_of_le hj (by decide +kernel)) (by simp)).trans (hF j (Nat.lt_of_lt_of_le hj (by decide)))
  · exact hd_gi (x := .inr (.inl 82)) (by decide +kernel) b82
  · exact hd_gi (x := .inr (.inl 83)) (by decide +kernel) b83
  · exact hd_gi (x := .inr (.inl 87)) (by decide +kernel) t87
theorem j1al_4_p2 {Ls : Nat} {xs : Nat → Int32} {d : Nat} {Q : Option Value → jm_h → Prop} (hd : 1 ≤ d) (F : Nat → sy_d) (X1 X2 : List jm_c) (hB : iv_in F iv_B0)
    (h0 : (sy_i F 84).toInt < (sy_i F 82).toInt)
    (h1 : 0 ≤ (sy_i F 84).toInt ∧ (sy_i F 84).toInt < 7)
    (h2 : 0 ≤ (sy_i F 82).toInt ∧ (sy_i F 82).toInt < 7)
    (h3 : ((sy_ai F 80).getD (sy_i F 84).toNatClampNeg 0).toInt = ((sy_ai F 80).getD (sy_i F 82).toNatClampNeg 0).toInt)
    (h4 : 0 ≤ (sy_i F 84).toInt ∧ (sy_i F 84).toInt < 7)
    (h5 : 0 ≤ (sy_i F 82).toInt ∧ (sy_i F 82).toInt < 7)
    (h6 : ((sy_ai F 81).getD (sy_i F 84).toNatClampNeg 0).toInt ≠ ((sy_ai F 81).getD (sy_i F 82).toNatClampNeg 0).toInt)
    (k : ∀ F1 : Nat → sy_d, (∀ j, j < 82 → True → F1 j = F j) → F1 82 = .inl (.int (sy_i F 82)) → F1 83 = .inl (.int (sy_i F 83)) → F1 84 = .inl (.int ((sy_i F 84) + ((1 : Int32)))) → hd_W Ls xs d jm_M75 Q (4, sy_dL F1 [some (.inl (.ref 70)), some (.inr (.inl 82)), some (.inr (.inl 83)), some (.inr (.inl 84))], sy_dS F1 [], sy_dh F1 X1 X2 (iv_H 1), 0, 0)) :
    hd_W Ls xs d jm_M75 Q (4, sy_dL F [some (.inl (.ref 70)), some (.inr (.inl 82)), some (.inr (.inl 83)), some (.inr (.inl 84))], sy_dS F [], sy_dh F X1 X2 (iv_H 1), 0, 0) := by
  refine hd_run (s := 1) (nv := 85) (pc := 4) (L := [some (.inl (.ref 70)), some (.inr (.inl 82)), some (.inr (.inl 83)), some (.inr (.inl 84))]) (S := []) (uh := hd_ov (iv_id 0 iv_B0) []) (ul := [.inl (.inr (.inl 82)), .inl (.inr (.inl 83)), .inl (.inr (.inl 89))]) (f := true) (sp := [4]) (d0 := 0) (O := [false, false, true]) (T := [(30, [.inr (.inl 84)], [.inr (.inl 80)]), (30, [.inr (.inl 82)], [.inr (.inl 80)]), (30, [.inr (.inl 84)], [.inr (.inl 81)]), (30, [.inr (.inl 82)], [.inr (.inl 81)]), (0, [.inr (.inl 84), .inl (.int 1)], [])]) (P := [(5, .inr (.inl 82), .inr (.inl 84)), (6, .inr (.inl 84), .inl (.ref 7)), (6, .inr (.inl 82), .inl (.ref 7)), (0, .inr (.inl 85), .inr (.inl 86)), (6, .inr (.inl 84), .inl (.ref 7)), (6, .inr (.inl 82), .inl (.ref 7)), (1, .inr (.inl 87), .inr (.inl 88))]) jm_ok75 (by decide +kernel) (by decide +kernel) hd F X1 X2 (fun F' hF hs => ?_)
  have b82 := hd_b (F := F) (F' := F') (k := 82) (hF 82 (by decide))
  have b84 := hd_b (F := F) (F' := F') (k := 84) (hF 84 (by decide))
  have a80 := hd_ba (F := F) (F' := F') (k := 80) (hF 80 (by decide))
  have t85 : sy_dv F' (.inr (.inl 85)) = .int ((sy_ai F 80).getD (sy_i F 84).toNatClampNeg 0) := hd_rd (hs 0 _ rfl) b84 a80
  have t86 : sy_dv F' (.inr (.inl 86)) = .int ((sy_ai F 80).getD (sy_i F 82).toNatClampNeg 0) := hd_rd (hs 1 _ rfl) b82 a80
  have a81 := hd_ba (F := F) (F' := F') (k := 81) (hF 81 (by decide))
  have t87 : sy_dv F' (.inr (.inl 87)) = .int ((sy_ai F 81).getD (sy_i F 84).toNatClampNeg 0) := hd_rd (hs 2 _ rfl) b84 a81
  have t88 : sy_dv F' (.inr (.inl 88)) = .int ((sy_ai F 81).getD (sy_i F 82).toNatClampNeg 0) := hd_rd (hs 3 _ rfl) b82 a81
  have b83 := hd_b (F := F) (F' := F') (k := 83) (hF 83 (by decide))
  have t89 : sy_dv F' (.inr (.inl 89)) = .int ((sy_i F 84) + ((1 : Int32))) := hd_o (hs 4 _ rfl) b84 rfl rfl
  have hB' : iv_in F' iv_B0 := iv_in_eq hB (fun j hj => hF j (Nat.lt_of_lt_of_le hj (by decide +kernel)))
  refine ⟨List.forall_mem_cons.mpr ⟨hd_p5 b82 b84 h0, List.forall_mem_cons.mpr ⟨hd_pb b84 (by first | exact h1 | exact h1), List.forall_mem_cons.mpr ⟨hd_pb b82 (by first | exact h2 | exact h2), List.forall_mem_cons.mpr ⟨hd_p0 t85 t86 h3, List.forall_mem_cons.mpr ⟨hd_pb b84 (by first | exact h4 | exact h4), List.forall_mem_cons.mpr ⟨hd_pb b82 (by first | exact h5 | exact h5), List.forall_mem_cons.mpr ⟨hd_p1 t87 t88 h6, fun _ h => absurd h List.not_mem_nil⟩⟩⟩⟩⟩⟩⟩, ?_⟩
  refine k _ ?_ ?_ ?_ ?_
  · exact fun j hj _ => (hd_keep hB' (Nat.lt_of_lt_of_le hj (by decide +kernel)) (by simp)).trans (hF j (Nat.lt_of_lt_of_le hj (by decide)))
  · exact hd_gi (x := .inr (.inl 82)) (by decide +kernel) b82
  · exact hd_gi (x := .inr (.inl 83)) (by decide +kernel) b83
  · exact hd_gi (x := .inr (.inl 89)) (by decide +kernel) t89
theorem j1al_4_p3 {Ls : Nat} {xs : Nat → Int32} {d : Nat} {Q : Option Value → jm_h → Prop} (hd : 1 ≤ d) (F : Nat → sy_d) (X1 X2 : List jm_c) (hB : iv_in F iv_B0)
    (h0 : (sy_i F 84).toInt < (sy_i F 82).toInt)
    (h1 : 0 ≤ (sy_i F 84).toInt ∧ (sy_i F 84).toInt < 7)
    (h2 : 0 ≤ (sy_i F 82).toInt ∧ (sy_i F 82).toInt < 7)
    (h3 : ((sy_ai F 80).getD (sy_i F 84).toNatClampNeg 0).toInt = ((sy_ai F 80).getD (sy_i F 82).toNatClampNeg 0).toInt)
    (h4 : 0 ≤ (sy_i F 84).toInt ∧ (sy_i F 84).toInt < 7)
    (h5 : 0 ≤ (sy_i F 82).toInt ∧ (sy_i F 82).toInt < 7)
    (h6 : ((sy_ai F 81).getD (sy_i F 84).toNatClampNeg 0).toInt = ((sy_ai F 81).getD (sy_i F 82).toNatClampNeg 0).toInt)
    (k : ∀ F1 : Nat → sy_d, (∀ j, j < 82 → True → F1 j = F j) → F1 82 = .inl (.int (sy_i F 82)) → F1 83 = .inl (.int ((sy_i F 83) + ((1 : Int32)))) → F1 84 = .inl (.int ((sy_i F 84) + ((1 : Int32)))) → hd_W Ls xs d jm_M75 Q (4, sy_dL F1 [some (.inl (.ref 70)), some (.inr (.inl 82)), some (.inr (.inl 83)), some (.inr (.inl 84))], sy_dS F1 [], sy_dh F1 X1 X2 (iv_H 1), 0, 0)) :
    hd_W Ls xs d jm_M75 Q (4, sy_dL F [some (.inl (.ref 70)), some (.inr (.inl 82)), some (.inr (.inl 83)), some (.inr (.inl 84))], sy_dS F [], sy_dh F X1 X2 (iv_H 1), 0, 0) := by
  refine hd_run (s := 1) (nv := 85) (pc := 4) (L := [some (.inl (.ref 70)), some (.inr (.inl 82)), some (.inr (.inl 83)), some (.inr (.inl 84))]) (S := []) (uh := hd_ov (iv_id 0 iv_B0) []) (ul := [.inl (.inr (.inl 82)), .inl (.inr (.inl 89)), .inl (.inr (.inl 90))]) (f := true) (sp := [4]) (d0 := 0) (O := [false, false, false]) (T := [(30, [.inr (.inl 84)], [.inr (.inl 80)]), (30, [.inr (.inl 82)], [.inr (.inl 80)]), (30, [.inr (.inl 84)], [.inr (.inl 81)]), (30, [.inr (.inl 82)], [.inr (.inl 81)]), (0, [.inr (.inl 83), .inl (.int 1)], []), (0, [.inr (.inl 84), .inl (.int 1)], [])]) (P := [(5, .inr (.inl 82), .inr (.inl 84)), (6, .inr (.inl 84), .inl (.ref 7)), (6, .inr (.inl 82), .inl (.ref 7)), (0, .inr (.inl 85), .inr (.inl 86)), (6, .inr (.inl 84), .inl (.ref 7)), (6, .inr (.inl 82), .inl (.ref 7)), (0, .inr (.inl 87), .inr (.inl 88))]) jm_ok75 (by decide +kernel) (by decide +kernel) hd F X1 X2 (fun F' hF hs => ?_)
  have b82 := hd_b (F := F) (F' := F') (k := 82) (hF 82 (by decide))
  have b84 := hd_b (F := F) (F' := F') (k := 84) (hF 84 (by decide))
  have a80 := hd_ba (F := F) (F' := F') (k := 80) (hF 80 (by decide))
  have t85 : sy_dv F' (.inr (.inl 85)) = .int ((sy_ai F 80).getD (sy_i F 84).toNatClampNeg 0) := hd_rd (hs 0 _ rfl) b84 a80
  have t86 : sy_dv F' (.inr (.inl 86)) = .int ((sy_ai F 80).getD (sy_i F 82).toNatClampNeg 0) := hd_rd (hs 1 _ rfl) b82 a80
  have a81 := hd_ba (F := F) (F' := F') (k := 81) (hF 81 (by decide))
  have t87 : sy_dv F' (.inr (.inl 87)) = .int ((sy_ai F 81).getD (sy_i F 84).toNatClampNeg 0) := hd_rd (hs 2 _ rfl) b84 a81
  have t88 : sy_dv F' (.inr (.inl 88)) = .int ((sy_ai F 81).getD (sy_i F 82).toNatClampNeg 0) := hd_rd (hs 3 _ rfl) b82 a81
  have b83 := hd_b (F := F) (F' := F') (k := 83) (hF 83 (by decide))
  have t89 : sy_dv F' (.inr (.inl 89)) = .int ((sy_i F 83) + ((1 : Int32))) := hd_o (hs 4 _ rfl) b83 rfl rfl
  have t90 : sy_dv F' (.inr (.inl 90)) = .int ((sy_i F 84) + ((1 : Int32))) := hd_o (hs 5 _ rfl) b84 rfl rfl
  have hB' : iv_in F' iv_B0 := iv_in_eq hB (fun j hj => hF j (Nat.lt_of_lt_of_le hj (by decide +kernel)))
  refine ⟨List.forall_mem_cons.mpr ⟨hd_p5 b82 b84 h0, List.forall_mem_cons.mpr ⟨hd_pb b84 (by first | exact h1 | exact h1), List.forall_mem_cons.mpr ⟨hd_pb b82 (by first | exact h2 | exact h2), List.forall_mem_cons.mpr ⟨hd_p0 t85 t86 h3, List.forall_mem_cons.mpr ⟨hd_pb b84 (by first | exact h4 | exact h4), List.forall_mem_cons.mpr ⟨hd_pb b82 (by first | exact h5 | exact h5), List.forall_mem_cons.mpr ⟨hd_p0 t87 t88 h6, fun _ h => absurd h List.not_mem_nil⟩⟩⟩⟩⟩⟩⟩, ?_⟩
  refine k _ ?_ ?_ ?_ ?_
  · exact fun j hj _ => (hd_keep hB' (Nat.lt_of_lt_of_le hj (by decide +kernel)) (by simp)).trans (hF j (Nat.lt_of_lt_of_le hj (by decide)))
  · exact hd_gi (x := .inr (.inl 82)) (by decide +kernel) b82
  · exact hd_gi (x := .inr (.inl 89)) (by decide +kernel) t89
  · exact hd_gi (x := .inr (.inl 90)) (by decide +kernel) t90
theorem j1al_4 {Ls : Nat} {xs : Nat → Int32} {d : Nat} {Q : Option Value → jm_h → Prop} (hd : 1 ≤ d) (F : Nat → sy_d) (X1 X2 : List jm_c) (hB : iv_in F iv_B0)
    (a82 : 0 ≤ (sy_i F 82).toInt ∧ (sy_i F 82).toInt ≤ 6)
    (a83 : 0 ≤ (sy_i F 83).toInt ∧ (sy_i F 83).toInt ≤ 7)
    (a84 : 0 ≤ (sy_i F 84).toInt ∧ (sy_i F 84).toInt ≤ 7)
    (k0 : (sy_i F 82).toInt ≤ (sy_i F 84).toInt → ∀ F1 : Nat → sy_d, iv_in F1 iv_B0 → (∀ j, j < 82 → j ∉ ([] : List Nat) → F1 j = F j) → Q (some (.int (sy_i F 83))) (sy_dh F1 X1 X2 (iv_H 1)))
    (k1 : (sy_i F 84).toInt < (sy_i F 82).toInt → ((sy_ai F 80).getD ((sy_i F 84).toInt).toNat 0).toInt ≠ ((sy_ai F 80).getD ((sy_i F 82).toInt).toNat 0).toInt → ∀ F1 : Nat → sy_d, iv_in F1 iv_B0 → (∀ j, j < 82 → j ∉ ([] : List Nat) → F1 j = F j) → (sy_i F1 82).toInt = (sy_i F 82).toInt → sy_i F1 82 = sy_i F 82 → (sy_i F1 83).toInt = (sy_i F 83).toInt → sy_i F1 83 = sy_i F 83 → (sy_i F1 84).toInt = ((sy_i F 84).toInt + 1) → sy_i F1 84 = (sy_i F 84) + ((1 : Int32)) → hd_W Ls xs d jm_M75 Q (4, sy_dL F1 [some (.inl (.ref 70)), some (.inr (.inl 82)), some (.inr (.inl 83)), some (.inr (.inl 84))], sy_dS F1 [], sy_dh F1 X1 X2 (iv_H 1), 0, 0))
    (k2 : (sy_i F 84).toInt < (sy_i F 82).toInt → ((sy_ai F 80).getD ((sy_i F 84).toInt).toNat 0).toInt = ((sy_ai F 80).getD ((sy_i F 82).toInt).toNat 0).toInt → ((sy_ai F 81).getD ((sy_i F 84).toInt).toNat 0).toInt ≠ ((sy_ai F 81).getD ((sy_i F 82).toInt).toNat 0).toInt → ∀ F1 : Nat → sy_d, iv_in F1 iv_B0 → (∀ j, j < 82 → j ∉ ([] : List Nat) → F1 j = F j) → (sy_i F1 82).toInt = (sy_i F 82).toInt → sy_i F1 82 = sy_i F 82 → (sy_i F1 83).toInt = (sy_i F 83).toInt → sy_i F1 83 = sy_i F 83 → (sy_i F1 84).toInt = ((sy_i F 84).toInt + 1) → sy_i F1 84 = (sy_i F 84) + ((1 : Int32)) → hd_W Ls xs d jm_M75 Q (4, sy_dL F1 [some (.inl (.ref 70)), some (.inr (.inl 82)), some (.inr (.inl 83)), some (.inr (.inl 84))], sy_dS F1 [], sy_dh F1 X1 X2 (iv_H 1), 0, 0))
    (k3 : (sy_i F 84).toInt < (sy_i F 82).toInt → ((sy_ai F 80).getD ((sy_i F 84).toInt).toNat 0).toInt = ((sy_ai F 80).getD ((sy_i F 82).toInt).toNat 0).toInt → ((sy_ai F 81).getD ((sy_i F 84).toInt).toNat 0).toInt = ((sy_ai F 81).getD ((sy_i F 82).toInt).toNat 0).toInt → ∀ F1 : Nat → sy_d, iv_in F1 iv_B0 → (∀ j, j < 82 → j ∉ ([] : List Nat) → F1 j = F j) → (sy_i F1 82).toInt = (sy_i F 82).toInt → sy_i F1 82 = sy_i F 82 → (sy_i F1 83).toInt = ((sy_i F 83).toInt + 1) → sy_i F1 83 = (sy_i F 83) + ((1 : Int32)) → (sy_i F1 84).toInt = ((sy_i F 84).toInt + 1) → sy_i F1 84 = (sy_i F 84) + ((1 : Int32)) → hd_W Ls xs d jm_M75 Q (4, sy_dL F1 [some (.inl (.ref 70)), some (.inr (.inl 82)), some (.inr (.inl 83)), some (.inr (.inl 84))], sy_dS F1 [], sy_dh F1 X1 X2 (iv_H 1), 0, 0)) :
    hd_W Ls xs d jm_M75 Q (4, sy_dL F [some (.inl (.ref 70)), some (.inr (.inl 82)), some (.inr (.inl 83)), some (.inr (.inl 84))], sy_dS F [], sy_dh F X1 X2 (iv_H 1), 0, 0) := by
  by_cases g0 : (sy_i F 82).toInt ≤ (sy_i F 84).toInt
  · exact j1al_4_p0 hd F X1 X2 hB (by first | exact g0 | (simp only [nz_c]; exact g0)) (fun F1 g  => by rw [(rfl : sy_i F 83 = sy_i F 83)]; exact k0 g0 F1 (nz_in0 hB [] (fun j hj hn => g j hj (by simp only [List.mem_cons, List.not_mem_nil, or_false, not_or] at hn; exact trivial)) (List.forall_mem_nil _)) (fun j hj hn => g j hj (by simp only [List.mem_cons, List.not_mem_nil, or_false, not_or] at hn; exact trivial)) )
  replace g0 : (sy_i F 84).toInt < (sy_i F 82).toInt := by omega
  by_cases g1 : ((sy_ai F 80).getD ((sy_i F 84).toInt).toNat 0).toInt ≠ ((sy_ai F 80).getD ((sy_i F 82).toInt).toNat 0).toInt
  · have q85 : (sy_ai F 80).getD (sy_i F 84).toNatClampNeg 0 = (sy_ai F 80).getD ((sy_i F 84).toInt).toNat 0 := by simp only [nz_c]
    have n85 : nzI ((sy_ai F 80).getD (sy_i F 84).toNatClampNeg 0) (((sy_ai F 80).getD ((sy_i F 84).toInt).toNat 0).toInt) := congrArg Int32.toInt q85
    have q86 : (sy_ai F 80).getD (sy_i F 82).toNatClampNeg 0 = (sy_ai F 80).getD ((sy_i F 82).toInt).toNat 0 := by simp only [nz_c]
    have n86 : nzI ((sy_ai F 80).getD (sy_i F 82).toNatClampNeg 0) (((sy_ai F 80).getD ((sy_i F 82).toInt).toNat 0).toInt) := congrArg Int32.toInt q86
    have n87 : nzI ((sy_i F 84) + ((1 : Int32))) (((sy_i F 84).toInt + 1)) := nz_add (rfl : (sy_i F 84).toInt = (sy_i F 84).toInt) (by decide : ((1 : Int32)).toInt = 1) (by omega) (by omega)
    exact j1al_4_p1 hd F X1 X2 hB (by first | exact g0 | (simp only [nz_c]; exact g0)) (by first | exact ⟨by omega, by omega⟩ | (simp only [nz_c]; exact ⟨by omega, by omega⟩)) (by first | exact ⟨by omega, by omega⟩ | (simp only [nz_c]; exact ⟨by omega, by omega⟩)) (by first | exact g1 | (simp only [nz_c]; exact g1) | (rw [(nzE n85)]; exact g1) | (rw [(nzE n86)]; exact g1) | (rw [(nzE n85), (nzE n86)]; exact g1)) (fun F1 g e82 e83 e84 => k1 g0 g1 F1 (nz_in0 hB [] (fun j hj hn => g j hj (by simp only [List.mem_cons, List.not_mem_nil, or_false, not_or] at hn; exact trivial)) (List.forall_mem_nil _)) (fun j hj hn => g j hj (by simp only [List.mem_cons, List.not_mem_nil, or_false, not_or] at hn; exact trivial)) ((congrArg Int32.toInt (zz_i e82)).trans (rfl : (sy_i F 82).toInt = (sy_i F 82).toInt)) ((zz_i e82).trans (rfl : sy_i F 82 = sy_i F 82)) ((congrArg Int32.toInt (zz_i e83)).trans (rfl : (sy_i F 83).toInt = (sy_i F 83).toInt)) ((zz_i e83).trans (rfl : sy_i F 83 = sy_i F 83)) ((congrArg Int32.toInt (zz_i e84)).trans (nzE n87)) ((zz_i e84).trans (rfl : (sy_i F 84) + ((1 : Int32)) = (sy_i F 84) + ((1 : Int32)))))
  replace g1 : ((sy_ai F 80).getD ((sy_i F 84).toInt).toNat 0).toInt = ((sy_ai F 80).getD ((sy_i F 82).toInt).toNat 0).toInt := by omega
  by_cases g2 : ((sy_ai F 81).getD ((sy_i F 84).toInt).toNat 0).toInt ≠ ((sy_ai F 81).getD ((sy_i F 82).toInt).toNat 0).toInt
  · have q85 : (sy_ai F 80).getD (sy_i F 84).toNatClampNeg 0 = (sy_ai F 80).getD ((sy_i F 84).toInt).toNat 0 := by simp only [nz_c]
    have n85 : nzI ((sy_ai F 80).getD (sy_i F 84).toNatClampNeg 0) (((sy_ai F 80).getD ((sy_i F 84).toInt).toNat 0).toInt) := congrArg Int32.toInt q85
    have q86 : (sy_ai F 80).getD (sy_i F 82).toNatClampNeg 0 = (sy_ai F 80).getD ((sy_i F 82).toInt).toNat 0 := by simp only [nz_c]
    have n86 : nzI ((sy_ai F 80).getD (sy_i F 82).toNatClampNeg 0) (((sy_ai F 80).getD ((sy_i F 82).toInt).toNat 0).toInt) := congrArg Int32.toInt q86
    have q87 : (sy_ai F 81).getD (sy_i F 84).toNatClampNeg 0 = (sy_ai F 81).getD ((sy_i F 84).toInt).toNat 0 := by simp only [nz_c]
    have n87 : nzI ((sy_ai F 81).getD (sy_i F 84).toNatClampNeg 0) (((sy_ai F 81).getD ((sy_i F 84).toInt).toNat 0).toInt) := congrArg Int32.toInt q87
    have q88 : (sy_ai F 81).getD (sy_i F 82).toNatClampNeg 0 = (sy_ai F 81).getD ((sy_i F 82).toInt).toNat 0 := by simp only [nz_c]
    have n88 : nzI ((sy_ai F 81).getD (sy_i F 82).toNatClampNeg 0) (((sy_ai F 81).getD ((sy_i F 82).toInt).toNat 0).toInt) := congrArg Int32.toInt q88
    have n89 : nzI ((sy_i F 84) + ((1 : Int32))) (((sy_i F 84).toInt + 1)) := nz_add (rfl : (sy_i F 84).toInt = (sy_i F 84).toInt) (by decide : ((1 : Int32)).toInt = 1) (by omega) (by omega)
    exact j1al_4_p2 hd F X1 X2 hB (by first | exact g0 | (simp only [nz_c]; exact g0)) (by first | exact ⟨by omega, by omega⟩ | (simp only [nz_c]; exact ⟨by omega, by omega⟩)) (by first | exact ⟨by omega, by omega⟩ | (simp only [nz_c]; exact ⟨by omega, by omega⟩)) (by first | exact g1 | (simp only [nz_c]; exact g1) | (rw [(nzE n85)]; exact g1) | (rw [(nzE n86)]; exact g1) | (rw [(nzE n85), (nzE n86)]; exact g1)) (by first | exact ⟨by omega, by omega⟩ | (simp only [nz_c]; exact ⟨by omega, by omega⟩)) (by first | exact ⟨by omega, by omega⟩ | (simp only [nz_c]; exact ⟨by omega, by omega⟩)) (by first | exact g2 | (simp only [nz_c]; exact g2) | (rw [(nzE n87)]; exact g2) | (rw [(nzE n88)]; exact g2) | (rw [(nzE n87), (nzE n88)]; exact g2)) (fun F1 g e82 e83 e84 => k2 g0 g1 g2 F1 (nz_in0 hB [] (fun j hj hn => g j hj (by simp only [List.mem_cons, List.not_mem_nil, or_false, not_or] at hn; exact trivial)) (List.forall_mem_nil _)) (fun j hj hn => g j hj (by simp only [List.mem_cons, List.not_mem_nil, or_false, not_or] at hn; exact trivial)) ((congrArg Int32.toInt (zz_i e82)).trans (rfl : (sy_i F 82).toInt = (sy_i F 82).toInt)) ((zz_i e82).trans (rfl : sy_i F 82 = sy_i F 82)) ((congrArg Int32.toInt (zz_i e83)).trans (rfl : (sy_i F 83).toInt = (sy_i F 83).toInt)) ((zz_i e83).trans (rfl : sy_i F 83 = sy_i F 83)) ((congrArg Int32.toInt (zz_i e84)).trans (nzE n89)) ((zz_i e84).trans (rfl : (sy_i F 84) + ((1 : Int32)) = (sy_i F 84) + ((1 : Int32)))))
  replace g2 : ((sy_ai F 81).getD ((sy_i F 84).toInt).toNat 0).toInt = ((sy_ai F 81).getD ((sy_i F 82).toInt).toNat 0).toInt := by omega
  have q85 : (sy_ai F 80).getD (sy_i F 84).toNatClampNeg 0 = (sy_ai F 80).getD ((sy_i F 84).toInt).toNat 0 := by simp only [nz_c]
  have n85 : nzI ((sy_ai F 80).getD (sy_i F 84).toNatClampNeg 0) (((sy_ai F 80).getD ((sy_i F 84).toInt).toNat 0).toInt) := congrArg Int32.toInt q85
  have q86 : (sy_ai F 80).getD (sy_i F 82).toNatClampNeg 0 = (sy_ai F 80).getD ((sy_i F 82).toInt).toNat 0 := by simp only [nz_c]
  have n86 : nzI ((sy_ai F 80).getD (sy_i F 82).toNatClampNeg 0) (((sy_ai F 80).getD ((sy_i F 82).toInt).toNat 0).toInt) := congrArg Int32.toInt q86
  have q87 : (sy_ai F 81).getD (sy_i F 84).toNatClampNeg 0 = (sy_ai F 81).getD ((sy_i F 84).toInt).toNat 0 := by simp only [nz_c]
  have n87 : nzI ((sy_ai F 81).getD (sy_i F 84).toNatClampNeg 0) (((sy_ai F 81).getD ((sy_i F 84).toInt).toNat 0).toInt) := congrArg Int32.toInt q87
  have q88 : (sy_ai F 81).getD (sy_i F 82).toNatClampNeg 0 = (sy_ai F 81).getD ((sy_i F 82).toInt).toNat 0 := by simp only [nz_c]
  have n88 : nzI ((sy_ai F 81).getD (sy_i F 82).toNatClampNeg 0) (((sy_ai F 81).getD ((sy_i F 82).toInt).toNat 0).toInt) := congrArg Int32.toInt q88
  have n89 : nzI ((sy_i F 83) + ((1 : Int32))) (((sy_i F 83).toInt + 1)) := nz_add (rfl : (sy_i F 83).toInt = (sy_i F 83).toInt) (by decide : ((1 : Int32)).toInt = 1) (by omega) (by omega)
  have n90 : nzI ((sy_i F 84) + ((1 : Int32))) (((sy_i F 84).toInt + 1)) := nz_add (rfl : (sy_i F 84).toInt = (sy_i F 84).toInt) (by decide : ((1 : Int32)).toInt = 1) (by omega) (by omega)
  exact j1al_4_p3 hd F X1 X2 hB (by first | exact g0 | (simp only [nz_c]; exact g0)) (by first | exact ⟨by omega, by omega⟩ | (simp only [nz_c]; exact ⟨by omega, by omega⟩)) (by first | exact ⟨by omega, by omega⟩ | (simp only [nz_c]; exact ⟨by omega, by omega⟩)) (by first | exact g1 | (simp only [nz_c]; exact g1) | (rw [(nzE n85)]; exact g1) | (rw [(nzE n86)]; exact g1) | (rw [(nzE n85), (nzE n86)]; exact g1)) (by first | exact ⟨by omega, by omega⟩ | (simp only [nz_c]; exact ⟨by omega, by omega⟩)) (by first | exact ⟨by omega, by omega⟩ | (simp only [nz_c]; exact ⟨by omega, by omega⟩)) (by first | exact g2 | (simp only [nz_c]; exact g2) | (rw [(nzE n87)]; exact g2) | (rw [(nzE n88)]; exact g2) | (rw [(nzE n87), (nzE n88)]; exact g2)) (fun F1 g e82 e83 e84 => k3 g0 g1 g2 F1 (nz_in0 hB [] (fun j hj hn => g j hj (by simp only [List.mem_cons, List.not_mem_nil, or_false, not_or] at hn; exact trivial)) (List.forall_mem_nil _)) (fun j hj hn => g j hj (by simp only [List.mem_cons, List.not_mem_nil, or_false, not_or] at hn; exact trivial)) ((congrArg Int32.toInt (zz_i e82)).trans (rfl : (sy_i F 82).toInt = (sy_i F 82).toInt)) ((zz_i e82).trans (rfl : sy_i F 82 = sy_i F 82)) ((congrArg Int32.toInt (zz_i e83)).trans (nzE n89)) ((zz_i e83).trans (rfl : (sy_i F 83) + ((1 : Int32)) = (sy_i F 83) + ((1 : Int32)))) ((congrArg Int32.toInt (zz_i e84)).trans (nzE n90)) ((zz_i e84).trans (rfl : (sy_i F 84) + ((1 : Int32)) = (sy_i F 84) + ((1 : Int32)))))
theorem j1rc_0_p0 {Ls : Nat} {xs : Nat → Int32} {d : Nat} {Q : Option Value → jm_h → Prop} (hd : 1 ≤ d) (F : Nat → sy_d) (X1 X2 : List jm_c) (hB : iv_in F iv_B0)
    (k : ∀ F1 : Nat → sy_d, (∀ j, j < 82 → True → F1 j = F j) → F1 82 = .inl (.int (sy_i F 82)) → F1 83 = .inl (.int ((1 : Int32))) → F1 84 = .inl (.int ((0 : Int32))) → hd_W Ls xs d jm_M70 Q (5, sy_dL F1 [some (.inl (.ref 70)), some (.inl (.ref 10)), some (.inr (.inl 82)), some (.inr (.inl 83)), some (.inr (.inl 84)), none], sy_dS F1 [], sy_dh F1 X1 X2 (iv_H 1), 0, 0)) :
    hd_W Ls xs d jm_M70 Q (0, sy_dL F [some (.inl (.ref 70)), some (.inl (.ref 10)), some (.inr (.inl 82)), none, none, none], sy_dS F [], sy_dh F X1 X2 (iv_H 1), 0, 0) := by
  refine hd_run (s := 1) (nv := 83) (pc := 5) (L := [some (.inl (.ref 70)), some (.inl (.ref 10)), some (.inr (.inl 82)), some (.inr (.inl 83)), some (.inr (.inl 84)), none]) (S := []) (uh := hd_ov (iv_id 0 iv_B0) []) (ul := [.inl (.inr (.inl 82)), .inl (.inl (.int 1)), .inl (.inl (.int 0))]) (f := true) (sp := [5]) (d0 := 0) (O := []) (T := []) (P := []) jm_ok70 (by decide +kernel) (by decide +kernel) hd F X1 X2 (fun F' hF hs => ?_)
  have b82 := hd_b (F := F) (F' := F') (k := 82) (hF 82 (by decide))
  have hB' : iv_in F' iv_B0 := iv_in_eq hB (fun j hj => hF j (Nat.lt_of_lt_of_le hj (by decide +kernel)))
  refine ⟨fun _ h => absurd h List.not_mem_nil, ?_⟩
  refine k _ ?_ ?_ ?_ ?_
  · exact fun j hj _ => (hd_keep hB' (Nat.lt_of_lt_of_le hj (by decide +kernel)) (by simp)).trans (hF j (Nat.lt_of_lt_of_le hj (by decide)))
  · exact hd_gi (x := .inr (.inl 82)) (by decide +kernel) b82
  · exact hd_gi (x := .inl (.int 1)) (by decide +kernel) rfl
  · exact hd_gi (x := .inl (.int 0)) (by decide +kernel) rfl
theorem j1rc_0 {Ls : Nat} {xs : Nat → Int32} {d : Nat} {Q : Option Value → jm_h → Prop} (hd : 1 ≤ d) (F : Nat → sy_d) (X1 X2 : List jm_c) (hB : iv_in F iv_B0)
    (k0 : ∀ F1 : Nat → sy_d, iv_in F1 iv_B0 → (∀ j, j < 82 → j ∉ ([] : List Nat) → F1 j = F j) → (sy_i F1 82).toInt = (sy_i F 82).toInt → sy_i F1 82 = sy_i F 82 → (sy_i F1 83).toInt = 1 → sy_i F1 83 = (1 : Int32) → (sy_i F1 84).toInt = 0 → sy_i F1 84 = (0 : Int32) → hd_W Ls xs d jm_M70 Q (5, sy_dL F1 [some (.inl (.ref 70)), some (.inl (.ref 10)), some (.inr (.inl 82)), some (.inr (.inl 83)), some (.inr (.inl 84)), none], sy_dS F1 [], sy_dh F1 X1 X2 (iv_H 1), 0, 0)) :
    hd_W Ls xs d jm_M70 Q (0, sy_dL F [some (.inl (.ref 70)), some (.inl (.ref 10)), some (.inr (.inl 82)), none, none, none], sy_dS F [], sy_dh F X1 X2 (iv_H 1), 0, 0) := by
  exact j1rc_0_p0 hd F X1 X2 hB  (fun F1 g e82 e83 e84 => k0 F1 (nz_in0 hB [] (fun j hj hn => g j hj (by simp only [List.mem_cons, List.not_mem_nil, or_false, not_or] at hn; exact trivial)) (List.forall_mem_nil _)) (fun j hj hn => g j hj (by simp only [List.mem_cons, List.not_mem_nil, or_false, not_or] at hn; exact trivial)) ((congrArg Int32.toInt (zz_i e82)).trans (rfl : (sy_i F 82).toInt = (sy_i F 82).toInt)) ((zz_i e82).trans (rfl : sy_i F 82 = sy_i F 82)) ((congrArg Int32.toInt (zz_i e83)).trans (by decide : ((1 : Int32)).toInt = 1)) ((zz_i e83).trans (rfl : (1 : Int32) = (1 : Int32))) ((congrArg Int32.toInt (zz_i e84)).trans (by decide : ((0 : Int32)).toInt = 0)) ((zz_i e84).trans (rfl : (0 : Int32) = (0 : Int32))))
theorem j1rc_5_p0 {Ls : Nat} {xs : Nat → Int32} {d : Nat} {Q : Option Value → jm_h → Prop} (hd : 1 ≤ d) (F : Nat → sy_d) (X1 X2 : List jm_c) (hB : iv_in F iv_B0)
    (h0 : (sy_i F 82).toInt ≤ (sy_i F 84).toInt)
    (k : ∀ F1 : Nat → sy_d, (∀ j, j < 82 → True → F1 j = F j) → Q (some (.int (sy_i F 83))) (sy_dh F1 X1 X2 (iv_H 1))) :
    hd_W Ls xs d jm_M70 Q (5, sy_dL F [some (.inl (.ref 70)), some (.inl (.ref 10)), some (.inr (.inl 82)), some (.inr (.inl 83)), some (.inr (.inl 84)), none], sy_dS F [], sy_dh F X1 X2 (iv_H 1), 0, 0) := by
  refine hd_ret (s := 1) (nv := 85) (v := some (.inr (.inl 83))) (uh := hd_ov (iv_id 0 iv_B0) []) (f := true) (sp := [22]) (d0 := 0) (O := [true]) (T := []) (P := [(4, .inr (.inl 82), .inr (.inl 84))]) jm_ok70 (by decide +kernel) (by decide +kernel) hd F X1 X2 (fun F' hF hs => ?_)
  have b82 := hd_b (F := F) (F' := F') (k := 82) (hF 82 (by decide))
  have b84 := hd_b (F := F) (F' := F') (k := 84) (hF 84 (by decide))
  have b83 := hd_b (F := F) (F' := F') (k := 83) (hF 83 (by decide))
  have hB' : iv_in F' iv_B0 := iv_in_eq hB (fun j hj => hF j (Nat.lt_of_lt_of_le hj (by decide +kernel)))
  have hk := k (sy_cm F' (hd_ov (iv_id 0 iv_B0) [] ++ [])) (fun j hj _ => (hd_keep hB' (Nat.lt_of_lt_of_le hj (by decide +kernel)) (by simp)).trans (hF j (Nat.lt_of_lt_of_le hj (by decide))))
  refine ⟨List.forall_mem_cons.mpr ⟨hd_p4 b82 b84 h0, fun _ h => absurd h List.not_mem_nil⟩, ?_⟩
  show Q (some (sy_dv F' (.inr (.inl 83)))) _
  rw [b83]
  exact hk
theorem j1rc_5_p1 {Ls : Nat} {xs : Nat → Int32} {d : Nat} {Q : Option Value → jm_h → Prop} (hd : 1 ≤ d) (F : Nat → sy_d) (X1 X2 : List jm_c) (hB : iv_in F iv_B0)
    (h0 : (sy_i F 84).toInt < (sy_i F 82).toInt)
    (h1 : 7 ≤ (sy_i F 84).toInt)
    (k : ∀ F1 : Nat → sy_d, (∀ j, j < 82 → True → F1 j = F j) → Q (some (.int (sy_i F 83))) (sy_dh F1 X1 X2 (iv_H 1))) :
    hd_W Ls xs d jm_M70 Q (5, sy_dL F [some (.inl (.ref 70)), some (.inl (.ref 10)), some (.inr (.inl 82)), some (.inr (.inl 83)), some (.inr (.inl 84)), none], sy_dS F [], sy_dh F X1 X2 (iv_H 1), 0, 0) := by
  refine hd_ret (s := 1) (nv := 85) (v := some (.inr (.inl 83))) (uh := hd_ov (iv_id 0 iv_B0) []) (f := true) (sp := [22]) (d0 := 0) (O := [false, true]) (T := []) (P := [(5, .inr (.inl 82), .inr (.inl 84)), (4, .inl (.int 7), .inr (.inl 84))]) jm_ok70 (by decide +kernel) (by decide +kernel) hd F X1 X2 (fun F' hF hs => ?_)
  have b82 := hd_b (F := F) (F' := F') (k := 82) (hF 82 (by decide))
  have b84 := hd_b (F := F) (F' := F') (k := 84) (hF 84 (by decide))
  have b83 := hd_b (F := F) (F' := F') (k := 83) (hF 83 (by decide))
  have hB' : iv_in F' iv_B0 := iv_in_eq hB (fun j hj => hF j (Nat.lt_of_lt_of_le hj (by decide +kernel)))
  have hk := k (sy_cm F' (hd_ov (iv_id 0 iv_B0) [] ++ [])) (fun j hj _ => (hd_keep hB' (Nat.lt_of_lt_of_le hj (by decide +kernel)) (by simp)).trans (hF j (Nat.lt_of_lt_of_le hj (by decide))))
  refine ⟨List.forall_mem_cons.mpr ⟨hd_p5 b82 b84 h0, List.forall_mem_cons.mpr ⟨hd_p4 rfl b84 (by have hc : ((7) : Int32).toInt = 7 := (by decide); omega), fun _ h => absurd h List.not_mem_nil⟩⟩, ?_⟩
  show Q (some (sy_dv F' (.inr (.inl 83)))) _
  rw [b83]
  exact hk
theorem j1rc_5_p2 {Ls : Nat} {xs : Nat → Int32} {d : Nat} {Q : Option Value → jm_h → Prop} (hd : 1 ≤ d) (F : Nat → sy_d) (X1 X2 : List jm_c) (hB : iv_in F iv_B0)
    (h0 : (sy_i F 84).toInt < (sy_i F 82).toInt)
    (h1 : (sy_i F 84).toInt < 7)
    (k : ∀ F1 : Nat → sy_d, (∀ j, j < 82 → True → F1 j = F j) → F1 82 = .inl (.int (sy_i F 82)) → F1 83 = .inl (.int (sy_i F 83)) → F1 84 = .inl (.int (sy_i F 84)) → hd_W Ls xs d jm_M70 Q (22, sy_dL F1 [some (.inl (.ref 70)), some (.inl (.ref 10)), some (.inr (.inl 82)), some (.inr (.inl 83)), some (.inr (.inl 84)), none], sy_dS F1 [.inr (.inl 84), .inl (.ref 10), .inl (.ref 70)], sy_dh F1 X1 X2 (iv_H 1), 0, 0)) :
    hd_W Ls xs d jm_M70 Q (5, sy_dL F [some (.inl (.ref 70)), some (.inl (.ref 10)), some (.inr (.inl 82)), some (.inr (.inl 83)), some (.inr (.inl 84)), none], sy_dS F [], sy_dh F X1 X2 (iv_H 1), 0, 0) := by
  refine hd_run (s := 1) (nv := 85) (pc := 22) (L := [some (.inl (.ref 70)), some (.inl (.ref 10)), some (.inr (.inl 82)), some (.inr (.inl 83)), some (.inr (.inl 84)), none]) (S := [.inr (.inl 84), .inl (.ref 10), .inl (.ref 70)]) (uh := hd_ov (iv_id 0 iv_B0) []) (ul := [.inl (.inr (.inl 82)), .inl (.inr (.inl 83)), .inl (.inr (.inl 84))]) (f := true) (sp := [22]) (d0 := 0) (O := [false, false]) (T := []) (P := [(5, .inr (.inl 82), .inr (.inl 84)), (5, .inl (.int 7), .inr (.inl 84))]) jm_ok70 (by decide +kernel) (by decide +kernel) hd F X1 X2 (fun F' hF hs => ?_)
  have b82 := hd_b (F := F) (F' := F') (k := 82) (hF 82 (by decide))
  have b84 := hd_b (F := F) (F' := F') (k := 84) (hF 84 (by decide))
  have b83 := hd_b (F := F) (F' := F') (k := 83) (hF 83 (by decide))
  have hB' : iv_in F' iv_B0 := iv_in_eq hB (fun j hj => hF j (Nat.lt_of_lt_of_le hj (by decide +kernel)))
  refine ⟨List.forall_mem_cons.mpr ⟨hd_p5 b82 b84 h0, List.forall_mem_cons.mpr ⟨hd_p5 rfl b84 (by have hc : ((7) : Int32).toInt = 7 := (by decide); omega), fun _ h => absurd h List.not_mem_nil⟩⟩, ?_⟩
  refine k _ ?_ ?_ ?_ ?_
  · exact fun j hj _ => (hd_keep hB' (Nat.lt_of_lt_of_le hj (by decide +kernel)) (by simp)).trans (hF j (Nat.lt_of_lt_of_le hj (by decide)))
  · exact hd_gi (x := .inr (.inl 82)) (by decide +kernel) b82
  · exact hd_gi (x := .inr (.inl 83)) (by decide +kernel) b83
  · exact hd_gi (x := .inr (.inl 84)) (by decide +kernel) b84
theorem j1rc_5 {Ls : Nat} {xs : Nat → Int32} {d : Nat} {Q : Option Value → jm_h → Prop} (hd : 1 ≤ d) (F : Nat → sy_d) (X1 X2 : List jm_c) (hB : iv_in F iv_B0)
    (a84 : 0 ≤ (sy_i F 84).toInt ∧ (sy_i F 84).toInt ≤ 7)
    (k0 : (sy_i F 82).toInt ≤ (sy_i F 84).toInt → ∀ F1 : Nat → sy_d, iv_in F1 iv_B0 → (∀ j, j < 82 → j ∉ ([] : List Nat) → F1 j = F j) → Q (some (.int (sy_i F 83))) (sy_dh F1 X1 X2 (iv_H 1)))
    (k1 : (sy_i F 84).toInt < (sy_i F 82).toInt → 7 ≤ (sy_i F 84).toInt → ∀ F1 : Nat → sy_d, iv_in F1 iv_B0 → (∀ j, j < 82 → j ∉ ([] : List Nat) → F1 j = F j) → Q (some (.int (sy_i F 83))) (sy_dh F1 X1 X2 (iv_H 1)))
    (k2 : (sy_i F 84).toInt < (sy_i F 82).toInt → (sy_i F 84).toInt < 7 → ∀ F1 : Nat → sy_d, iv_in F1 iv_B0 → (∀ j, j < 82 → j ∉ ([] : List Nat) → F1 j = F j) → (sy_i F1 82).toInt = (sy_i F 82).toInt → sy_i F1 82 = sy_i F 82 → (sy_i F1 83).toInt = (sy_i F 83).toInt → sy_i F1 83 = sy_i F 83 → (sy_i F1 84).toInt = (sy_i F 84).toInt → sy_i F1 84 = sy_i F 84 → hd_W Ls xs d jm_M70 Q (22, sy_dL F1 [some (.inl (.ref 70)), some (.inl (.ref 10)), some (.inr (.inl 82)), some (.inr (.inl 83)), some (.inr (.inl 84)), none], sy_dS F1 [.inr (.inl 84), .inl (.ref 10), .inl (.ref 70)], sy_dh F1 X1 X2 (iv_H 1), 0, 0)) :
    hd_W Ls xs d jm_M70 Q (5, sy_dL F [some (.inl (.ref 70)), some (.inl (.ref 10)), some (.inr (.inl 82)), some (.inr (.inl 83)), some (.inr (.inl 84)), none], sy_dS F [], sy_dh F X1 X2 (iv_H 1), 0, 0) := by
  by_cases g0 : (sy_i F 82).toInt ≤ (sy_i F 84).toInt
  · exact j1rc_5_p0 hd F X1 X2 hB (by first | exact g0 | (simp only [nz_c]; exact g0)) (fun F1 g  => by rw [(rfl : sy_i F 83 = sy_i F 83)]; exact k0 g0 F1 (nz_in0 hB [] (fun j hj hn => g j hj (by simp only [List.mem_cons, List.not_mem_nil, or_false, not_or] at hn; exact trivial)) (List.forall_mem_nil _)) (fun j hj hn => g j hj (by simp only [List.mem_cons, List.not_mem_nil, or_false, not_or] at hn; exact trivial)) )
  replace g0 : (sy_i F 84).toInt < (sy_i F 82).toInt := by omega
  by_cases g1 : 7 ≤ (sy_i F 84).toInt
  · exact j1rc_5_p1 hd F X1 X2 hB (by first | exact g0 | (simp only [nz_c]; exact g0)) (by first | exact g1 | (simp only [nz_c]; exact g1)) (fun F1 g  => by rw [(rfl : sy_i F 83 = sy_i F 83)]; exact k1 g0 g1 F1 (nz_in0 hB [] (fun j hj hn => g j hj (by simp only [List.mem_cons, List.not_mem_nil, or_false, not_or] at hn; exact trivial)) (List.forall_mem_nil _)) (fun j hj hn => g j hj (by simp only [List.mem_cons, List.not_mem_nil, or_false, not_or] at hn; exact trivial)) )
  replace g1 : (sy_i F 84).toInt < 7 := by omega
  exact j1rc_5_p2 hd F X1 X2 hB (by first | exact g0 | (simp only [nz_c]; exact g0)) (by first | exact g1 | (simp only [nz_c]; exact g1)) (fun F1 g e82 e83 e84 => k2 g0 g1 F1 (nz_in0 hB [] (fun j hj hn => g j hj (by simp only [List.mem_cons, List.not_mem_nil, or_false, not_or] at hn; exact trivial)) (List.forall_mem_nil _)) (fun j hj hn => g j hj (by simp only [List.mem_cons, List.not_mem_nil, or_false, not_or] at hn; exact trivial)) ((congrArg Int32.toInt (zz_i e82)).trans (rfl : (sy_i F 82).toInt = (sy_i F 82).toInt)) ((zz_i e82).trans (rfl : sy_i F 82 = sy_i F 82)) ((congrArg Int32.toInt (zz_i e83)).trans (rfl : (sy_i F 83).toInt = (sy_i F 83).toInt)) ((zz_i e83).trans (rfl : sy_i F 83 = sy_i F 83)) ((congrArg Int32.toInt (zz_i e84)).trans (rfl : (sy_i F 84).toInt = (sy_i F 84).toInt)) ((zz_i e84).trans (rfl : sy_i F 84 = sy_i F 84)))
theorem j1rc_25_p0 {Ls : Nat} {xs : Nat → Int32} {d : Nat} {Q : Option Value → jm_h → Prop} (hd : 1 ≤ d) (F : Nat → sy_d) (X1 X2 : List jm_c) (hB : iv_in F iv_B0)
    (k : ∀ F1 : Nat → sy_d, (∀ j, j < 82 → True → F1 j = F j) → F1 82 = .inl (.int (sy_i F 82)) → F1 83 = .inl (.int (sy_i F 83)) → F1 84 = .inl (.int (sy_i F 84)) → F1 85 = .inl (.int (sy_i F 85)) → hd_W Ls xs d jm_M70 Q (28, sy_dL F1 [some (.inl (.ref 70)), some (.inl (.ref 10)), some (.inr (.inl 82)), some (.inr (.inl 83)), some (.inr (.inl 84)), none], sy_dS F1 [.inr (.inl 84), .inl (.ref 70), .inr (.inl 85)], sy_dh F1 X1 X2 (iv_H 1), 0, 0)) :
    hd_W Ls xs d jm_M70 Q (25, sy_dL F [some (.inl (.ref 70)), some (.inl (.ref 10)), some (.inr (.inl 82)), some (.inr (.inl 83)), some (.inr (.inl 84)), none], sy_dS F [.inr (.inl 85)], sy_dh F X1 X2 (iv_H 1), 0, 0) := by
  refine hd_run (s := 1) (nv := 86) (pc := 28) (L := [some (.inl (.ref 70)), some (.inl (.ref 10)), some (.inr (.inl 82)), some (.inr (.inl 83)), some (.inr (.inl 84)), none]) (S := [.inr (.inl 84), .inl (.ref 70), .inr (.inl 85)]) (uh := hd_ov (iv_id 0 iv_B0) []) (ul := [.inl (.inr (.inl 82)), .inl (.inr (.inl 83)), .inl (.inr (.inl 84)), .inl (.inr (.inl 85))]) (f := false) (sp := [28]) (d0 := 0) (O := []) (T := []) (P := []) jm_ok70 (by decide +kernel) (by decide +kernel) hd F X1 X2 (fun F' hF hs => ?_)
  have b82 := hd_b (F := F) (F' := F') (k := 82) (hF 82 (by decide))
  have b83 := hd_b (F := F) (F' := F') (k := 83) (hF 83 (by decide))
  have b84 := hd_b (F := F) (F' := F') (k := 84) (hF 84 (by decide))
  have b85 := hd_b (F := F) (F' := F') (k := 85) (hF 85 (by decide))
  have hB' : iv_in F' iv_B0 := iv_in_eq hB (fun j hj => hF j (Nat.lt_of_lt_of_le hj (by decide +kernel)))
  refine ⟨fun _ h => absurd h List.not_mem_nil, ?_⟩
  refine k _ ?_ ?_ ?_ ?_ ?_
  · exact fun j hj _ => (hd_keep hB' (Nat.lt_of_lt_of_le hj (by decide +kernel)) (by simp)).trans (hF j (Nat.lt_of_lt_of_le hj (by decide)))
  · exact hd_gi (x := .inr (.inl 82)) (by decide +kernel) b82
  · exact hd_gi (x := .inr (.inl 83)) (by decide +kernel) b83
  · exact hd_gi (x := .inr (.inl 84)) (by decide +kernel) b84
  · exact hd_gi (x := .inr (.inl 85)) (by decide +kernel) b85
theorem j1rc_25 {Ls : Nat} {xs : Nat → Int32} {d : Nat} {Q : Option Value → jm_h → Prop} (hd : 1 ≤ d) (F : Nat → sy_d) (X1 X2 : List jm_c) (hB : iv_in F iv_B0)
    (k0 : ∀ F1 : Nat → sy_d, iv_in F1 iv_B0 → (∀ j, j < 82 → j ∉ ([] : List Nat) → F1 j = F j) → (sy_i F1 82).toInt = (sy_i F 82).toInt → sy_i F1 82 = sy_i F 82 → (sy_i F1 83).toInt = (sy_i F 83).toInt → sy_i F1 83 = sy_i F 83 → (sy_i F1 84).toInt = (sy_i F 84).toInt → sy_i F1 84 = sy_i F 84 → (sy_i F1 85).toInt = (sy_i F 85).toInt → sy_i F1 85 = sy_i F 85 → hd_W Ls xs d jm_M70 Q (28, sy_dL F1 [some (.inl (.ref 70)), some (.inl (.ref 10)), some (.inr (.inl 82)), some (.inr (.inl 83)), some (.inr (.inl 84)), none], sy_dS F1 [.inr (.inl 84), .inl (.ref 70), .inr (.inl 85)], sy_dh F1 X1 X2 (iv_H 1), 0, 0)) :
    hd_W Ls xs d jm_M70 Q (25, sy_dL F [some (.inl (.ref 70)), some (.inl (.ref 10)), some (.inr (.inl 82)), some (.inr (.inl 83)), some (.inr (.inl 84)), none], sy_dS F [.inr (.inl 85)], sy_dh F X1 X2 (iv_H 1), 0, 0) := by
  exact j1rc_25_p0 hd F X1 X2 hB  (fun F1 g e82 e83 e84 e85 => k0 F1 (nz_in0 hB [] (fun j hj hn => g j hj (by simp only [List.mem_cons, List.not_mem_nil, or_false, not_or] at hn; exact trivial)) (List.forall_mem_nil _)) (fun j hj hn => g j hj (by simp only [List.mem_cons, List.not_mem_nil, or_false, not_or] at hn; exact trivial)) ((congrArg Int32.toInt (zz_i e82)).trans (rfl : (sy_i F 82).toInt = (sy_i F 82).toInt)) ((zz_i e82).trans (rfl : sy_i F 82 = sy_i F 82)) ((congrArg Int32.toInt (zz_i e83)).trans (rfl : (sy_i F 83).toInt = (sy_i F 83).toInt)) ((zz_i e83).trans (rfl : sy_i F 83 = sy_i F 83)) ((congrArg Int32.toInt (zz_i e84)).trans (rfl : (sy_i F 84).toInt = (sy_i F 84).toInt)) ((zz_i e84).trans (rfl : sy_i F 84 = sy_i F 84)) ((congrArg Int32.toInt (zz_i e85)).trans (rfl : (sy_i F 85).toInt = (sy_i F 85).toInt)) ((zz_i e85).trans (rfl : sy_i F 85 = sy_i F 85)))
theorem j1rc_31_p0 {Ls : Nat} {xs : Nat → Int32} {d : Nat} {Q : Option Value → jm_h → Prop} (hd : 1 ≤ d) (F : Nat → sy_d) (X1 X2 : List jm_c) (hB : iv_in F iv_B0)
    (h0 : 0 < ((sy_i F 85) - (sy_i F 86)).toInt)
    (k : ∀ F1 : Nat → sy_d, (∀ j, j < 82 → True → F1 j = F j) → F1 82 = .inl (.int (sy_i F 82)) → F1 83 = .inl (.int ((sy_i F 83) * ((sy_i F 85) - (sy_i F 86)))) → F1 84 = .inl (.int ((sy_i F 84) + ((1 : Int32)))) → hd_W Ls xs d jm_M70 Q (5, sy_dL F1 [some (.inl (.ref 70)), some (.inl (.ref 10)), some (.inr (.inl 82)), some (.inr (.inl 83)), some (.inr (.inl 84)), none], sy_dS F1 [], sy_dh F1 X1 X2 (iv_H 1), 0, 0)) :
    hd_W Ls xs d jm_M70 Q (31, sy_dL F [some (.inl (.ref 70)), some (.inl (.ref 10)), some (.inr (.inl 82)), some (.inr (.inl 83)), some (.inr (.inl 84)), none], sy_dS F [.inr (.inl 86), .inr (.inl 85)], sy_dh F X1 X2 (iv_H 1), 0, 0) := by
  refine hd_run (s := 1) (nv := 87) (pc := 5) (L := [some (.inl (.ref 70)), some (.inl (.ref 10)), some (.inr (.inl 82)), some (.inr (.inl 83)), some (.inr (.inl 84)), none]) (S := []) (uh := hd_ov (iv_id 0 iv_B0) []) (ul := [.inl (.inr (.inl 82)), .inl (.inr (.inl 88)), .inl (.inr (.inl 89))]) (f := false) (sp := [5]) (d0 := 0) (O := [true]) (T := [(1, [.inr (.inl 85), .inr (.inl 86)], []), (2, [.inr (.inl 83), .inr (.inl 87)], []), (0, [.inr (.inl 84), .inl (.int 1)], [])]) (P := [(2, .inl (.int 0), .inr (.inl 87))]) jm_ok70 (by decide +kernel) (by decide +kernel) hd F X1 X2 (fun F' hF hs => ?_)
  have b85 := hd_b (F := F) (F' := F') (k := 85) (hF 85 (by decide))
  have b86 := hd_b (F := F) (F' := F') (k := 86) (hF 86 (by decide))
  have t87 : sy_dv F' (.inr (.inl 87)) = .int ((sy_i F 85) - (sy_i F 86)) := hd_o (hs 0 _ rfl) b85 b86 rfl
  have b82 := hd_b (F := F) (F' := F') (k := 82) (hF 82 (by decide))
  have b83 := hd_b (F := F) (F' := F') (k := 83) (hF 83 (by decide))
  have t88 : sy_dv F' (.inr (.inl 88)) = .int ((sy_i F 83) * ((sy_i F 85) - (sy_i F 86))) := hd_o (hs 1 _ rfl) b83 t87 rfl
  have b84 := hd_b (F := F) (F' := F') (k := 84) (hF 84 (by decide))
  have t89 : sy_dv F' (.inr (.inl 89)) = .int ((sy_i F 84) + ((1 : Int32))) := hd_o (hs 2 _ rfl) b84 rfl rfl
  have hB' : iv_in F' iv_B0 := iv_in_eq hB (fun j hj => hF j (Nat.lt_of_lt_of_le hj (by decide +kernel)))
  refine ⟨List.forall_mem_cons.mpr ⟨hd_p2 rfl t87 (by have hc : ((0) : Int32).toInt = 0 := (by decide); omega), fun _ h => absurd h List.not_mem_nil⟩, ?_⟩
  refine k _ ?_ ?_ ?_ ?_
  · exact fun j hj _ => (hd_keep hB' (Nat.lt_of_lt_of_le hj (by decide +kernel)) (by simp)).trans (hF j (Nat.lt_of_lt_of_le hj (by decide)))
  · exact hd_gi (x := .inr (.inl 82)) (by decide +kernel) b82
  · exact hd_gi (x := .inr (.inl 88)) (by decide +kernel) t88
  · exact hd_gi (x := .inr (.inl 89)) (by decide +kernel) t89
theorem j1rc_31_p1 {Ls : Nat} {xs : Nat → Int32} {d : Nat} {Q : Option Value → jm_h → Prop} (hd : 1 ≤ d) (F : Nat → sy_d) (X1 X2 : List jm_c) (hB : iv_in F iv_B0)
    (h0 : ((sy_i F 85) - (sy_i F 86)).toInt ≤ 0)
    (k : ∀ F1 : Nat → sy_d, (∀ j, j < 82 → True → F1 j = F j) → Q (some (.int ((0 : Int32)))) (sy_dh F1 X1 X2 (iv_H 1))) :
    hd_W Ls xs d jm_M70 Q (31, sy_dL F [some (.inl (.ref 70)), some (.inl (.ref 10)), some (.inr (.inl 82)), some (.inr (.inl 83)), some (.inr (.inl 84)), none], sy_dS F [.inr (.inl 86), .inr (.inl 85)], sy_dh F X1 X2 (iv_H 1), 0, 0) := by
  refine hd_ret (s := 1) (nv := 87) (v := some (.inl (.int 0))) (uh := hd_ov (iv_id 0 iv_B0) []) (f := false) (sp := [5]) (d0 := 0) (O := [false]) (T := [(1, [.inr (.inl 85), .inr (.inl 86)], [])]) (P := [(3, .inl (.int 0), .inr (.inl 87))]) jm_ok70 (by decide +kernel) (by decide +kernel) hd F X1 X2 (fun F' hF hs => ?_)
  have b85 := hd_b (F := F) (F' := F') (k := 85) (hF 85 (by decide))
  have b86 := hd_b (F := F) (F' := F') (k := 86) (hF 86 (by decide))
  have t87 : sy_dv F' (.inr (.inl 87)) = .int ((sy_i F 85) - (sy_i F 86)) := hd_o (hs 0 _ rfl) b85 b86 rfl
  have hB' : iv_in F' iv_B0 := iv_in_eq hB (fun j hj => hF j (Nat.lt_of_lt_of_le hj (by decide +kernel)))
  refine ⟨List.forall_mem_cons.mpr ⟨hd_p3 rfl t87 (by have hc : ((0) : Int32).toInt = 0 := (by decide); omega), fun _ h => absurd h List.not_mem_nil⟩, ?_⟩
  refine k _ ?_
  · exact fun j hj _ => (hd_keep hB' (Nat.lt_of_lt_of_le hj (by decide +kernel)) (by simp)).trans (hF j (Nat.lt_of_lt_of_le hj (by decide)))
theorem j1rc_31 {Ls : Nat} {xs : Nat → Int32} {d : Nat} {Q : Option Value → jm_h → Prop} (hd : 1 ≤ d) (F : Nat → sy_d) (X1 X2 : List jm_c) (hB : iv_in F iv_B0)
    (a84 : 0 ≤ (sy_i F 84).toInt ∧ (sy_i F 84).toInt ≤ 6)
    (a85 : 0 ≤ (sy_i F 85).toInt ∧ (sy_i F 85).toInt ≤ 7)
    (a86 : 0 ≤ (sy_i F 86).toInt ∧ (sy_i F 86).toInt ≤ 7)
    (k0 : 0 < ((sy_i F 85).toInt - (sy_i F 86).toInt) → ∀ F1 : Nat → sy_d, iv_in F1 iv_B0 → (∀ j, j < 82 → j ∉ ([] : List Nat) → F1 j = F j) → (sy_i F1 82).toInt = (sy_i F 82).toInt → sy_i F1 82 = sy_i F 82 → (sy_i F1 83).toInt = ((sy_i F 83) * ((sy_i F 85) - (sy_i F 86))).toInt → sy_i F1 83 = (sy_i F 83) * ((sy_i F 85) - (sy_i F 86)) → (sy_i F1 84).toInt = ((sy_i F 84).toInt + 1) → sy_i F1 84 = (sy_i F 84) + ((1 : Int32)) → hd_W Ls xs d jm_M70 Q (5, sy_dL F1 [some (.inl (.ref 70)), some (.inl (.ref 10)), some (.inr (.inl 82)), some (.inr (.inl 83)), some (.inr (.inl 84)), none], sy_dS F1 [], sy_dh F1 X1 X2 (iv_H 1), 0, 0))
    (k1 : ((sy_i F 85).toInt - (sy_i F 86).toInt) ≤ 0 → ∀ F1 : Nat → sy_d, iv_in F1 iv_B0 → (∀ j, j < 82 → j ∉ ([] : List Nat) → F1 j = F j) → Q (some (.int ((0 : Int32)))) (sy_dh F1 X1 X2 (iv_H 1))) :
    hd_W Ls xs d jm_M70 Q (31, sy_dL F [some (.inl (.ref 70)), some (.inl (.ref 10)), some (.inr (.inl 82)), some (.inr (.inl 83)), some (.inr (.inl 84)), none], sy_dS F [.inr (.inl 86), .inr (.inl 85)], sy_dh F X1 X2 (iv_H 1), 0, 0) := by
  by_cases g0 : 0 < ((sy_i F 85).toInt - (sy_i F 86).toInt)
  · have n87 : nzI ((sy_i F 85) - (sy_i F 86)) (((sy_i F 85).toInt - (sy_i F 86).toInt)) := nz_sub (rfl : (sy_i F 85).toInt = (sy_i F 85).toInt) (rfl : (sy_i F 86).toInt = (sy_i F 86).toInt) (by omega) (by omega)
    have n88 : nzI ((sy_i F 83) * ((sy_i F 85) - (sy_i F 86))) (((sy_i F 83) * ((sy_i F 85) - (sy_i F 86))).toInt) := congrArg Int32.toInt (rfl : (sy_i F 83) * ((sy_i F 85) - (sy_i F 86)) = (sy_i F 83) * ((sy_i F 85) - (sy_i F 86)))
    have n89 : nzI ((sy_i F 84) + ((1 : Int32))) (((sy_i F 84).toInt + 1)) := nz_add (rfl : (sy_i F 84).toInt = (sy_i F 84).toInt) (by decide : ((1 : Int32)).toInt = 1) (by omega) (by omega)
    exact j1rc_31_p0 hd F X1 X2 hB (by first | (simp only [nz_c, (nzE n87)]; exact g0) | exact g0 | (rw [(nzE n87)]; exact g0)) (fun F1 g e82 e83 e84 => k0 g0 F1 (nz_in0 hB [] (fun j hj hn => g j hj (by simp only [List.mem_cons, List.not_mem_nil, or_false, not_or] at hn; exact trivial)) (List.forall_mem_nil _)) (fun j hj hn => g j hj (by simp only [List.mem_cons, List.not_mem_nil, or_false, not_or] at hn; exact trivial)) ((congrArg Int32.toInt (zz_i e82)).trans (rfl : (sy_i F 82).toInt = (sy_i F 82).toInt)) ((zz_i e82).trans (rfl : sy_i F 82 = sy_i F 82)) ((congrArg Int32.toInt (zz_i e83)).trans (nzE n88)) ((zz_i e83).trans (rfl : (sy_i F 83) * ((sy_i F 85) - (sy_i F 86)) = (sy_i F 83) * ((sy_i F 85) - (sy_i F 86)))) ((congrArg Int32.toInt (zz_i e84)).trans (nzE n89)) ((zz_i e84).trans (rfl : (sy_i F 84) + ((1 : Int32)) = (sy_i F 84) + ((1 : Int32)))))
  replace g0 : ((sy_i F 85).toInt - (sy_i F 86).toInt) ≤ 0 := by omega
  have n87 : nzI ((sy_i F 85) - (sy_i F 86)) (((sy_i F 85).toInt - (sy_i F 86).toInt)) := nz_sub (rfl : (sy_i F 85).toInt = (sy_i F 85).toInt) (rfl : (sy_i F 86).toInt = (sy_i F 86).toInt) (by omega) (by omega)
  exact j1rc_31_p1 hd F X1 X2 hB (by first | (simp only [nz_c, (nzE n87)]; exact g0) | exact g0 | (rw [(nzE n87)]; exact g0)) (fun F1 g  => k1 g0 F1 (nz_in0 hB [] (fun j hj hn => g j hj (by simp only [List.mem_cons, List.not_mem_nil, or_false, not_or] at hn; exact trivial)) (List.forall_mem_nil _)) (fun j hj hn => g j hj (by simp only [List.mem_cons, List.not_mem_nil, or_false, not_or] at hn; exact trivial)) )
theorem j1wd_0_p0 {Ls : Nat} {xs : Nat → Int32} {d : Nat} {Q : Option Value → jm_h → Prop} (hd : 1 ≤ d) (F : Nat → sy_d) (X1 X2 : List jm_c) (hB : iv_in F iv_B0)
    (k : ∀ F1 : Nat → sy_d, (∀ j, j < 82 → True → F1 j = F j) → F1 82 = .inl (.int (sy_i F 82)) → F1 83 = .inl (.int ((0 : Int32))) → F1 84 = .inl (.int ((1 : Int32))) → hd_W Ls xs d jm_M73 Q (5, sy_dL F1 [some (.inl (.ref 70)), some (.inl (.ref 10)), some (.inr (.inl 82)), some (.inr (.inl 83)), some (.inr (.inl 84))], sy_dS F1 [], sy_dh F1 X1 X2 (iv_H 1), 0, 0)) :
    hd_W Ls xs d jm_M73 Q (0, sy_dL F [some (.inl (.ref 70)), some (.inl (.ref 10)), some (.inr (.inl 82)), none, none], sy_dS F [], sy_dh F X1 X2 (iv_H 1), 0, 0) := by
  refine hd_run (s := 1) (nv := 83) (pc := 5) (L := [some (.inl (.ref 70)), some (.inl (.ref 10)), some (.inr (.inl 82)), some (.inr (.inl 83)), some (.inr (.inl 84))]) (S := []) (uh := hd_ov (iv_id 0 iv_B0) []) (ul := [.inl (.inr (.inl 82)), .inl (.inl (.int 0)), .inl (.inl (.int 1))]) (f := true) (sp := [5]) (d0 := 0) (O := []) (T := []) (P := []) jm_ok73 (by decide +kernel) (by decide +kernel) hd F X1 X2 (fun F' hF hs => ?_)
  have b82 := hd_b (F := F) (F' := F') (k := 82) (hF 82 (by decide))
  have hB' : iv_in F' iv_B0 := iv_in_eq hB (fun j hj => hF j (Nat.lt_of_lt_of_le hj (by decide +kernel)))
  refine ⟨fun _ h => absurd h List.not_mem_nil, ?_⟩
  refine k _ ?_ ?_ ?_ ?_
  · exact fun j hj _ => (hd_keep hB' (Nat.lt_of_lt_of_le hj (by decide +kernel)) (by simp)).trans (hF j (Nat.lt_of_lt_of_le hj (by decide)))
  · exact hd_gi (x := .inr (.inl 82)) (by decide +kernel) b82
  · exact hd_gi (x := .inl (.int 0)) (by decide +kernel) rfl
  · exact hd_gi (x := .inl (.int 1)) (by decide +kernel) rfl
theorem j1wd_0 {Ls : Nat} {xs : Nat → Int32} {d : Nat} {Q : Option Value → jm_h → Prop} (hd : 1 ≤ d) (F : Nat → sy_d) (X1 X2 : List jm_c) (hB : iv_in F iv_B0)
    (k0 : ∀ F1 : Nat → sy_d, iv_in F1 iv_B0 → (∀ j, j < 82 → j ∉ ([] : List Nat) → F1 j = F j) → (sy_i F1 82).toInt = (sy_i F 82).toInt → sy_i F1 82 = sy_i F 82 → (sy_i F1 83).toInt = 0 → sy_i F1 83 = (0 : Int32) → (sy_i F1 84).toInt = 1 → sy_i F1 84 = (1 : Int32) → hd_W Ls xs d jm_M73 Q (5, sy_dL F1 [some (.inl (.ref 70)), some (.inl (.ref 10)), some (.inr (.inl 82)), some (.inr (.inl 83)), some (.inr (.inl 84))], sy_dS F1 [], sy_dh F1 X1 X2 (iv_H 1), 0, 0)) :
    hd_W Ls xs d jm_M73 Q (0, sy_dL F [some (.inl (.ref 70)), some (.inl (.ref 10)), some (.inr (.inl 82)), none, none], sy_dS F [], sy_dh F X1 X2 (iv_H 1), 0, 0) := by
  exact j1wd_0_p0 hd F X1 X2 hB  (fun F1 g e82 e83 e84 => k0 F1 (nz_in0 hB [] (fun j hj hn => g j hj (by simp only [List.mem_cons, List.not_mem_nil, or_false, not_or] at hn; exact trivial)) (List.forall_mem_nil _)) (fun j hj hn => g j hj (by simp only [List.mem_cons, List.not_mem_nil, or_false, not_or] at hn; exact trivial)) ((congrArg Int32.toInt (zz_i e82)).trans (rfl : (sy_i F 82).toInt = (sy_i F 82).toInt)) ((zz_i e82).trans (rfl : sy_i F 82 = sy_i F 82)) ((congrArg Int32.toInt (zz_i e83)).trans (by decide : ((0 : Int32)).toInt = 0)) ((zz_i e83).trans (rfl : (0 : Int32) = (0 : Int32))) ((congrArg Int32.toInt (zz_i e84)).trans (by decide : ((1 : Int32)).toInt = 1)) ((zz_i e84).trans (rfl : (1 : Int32) = (1 : Int32))))
theorem j1wd_5_p0 {Ls : Nat} {xs : Nat → Int32} {d : Nat} {Q : Option Value → jm_h → Prop} (hd : 1 ≤ d) (F : Nat → sy_d) (X1 X2 : List jm_c) (hB : iv_in F iv_B0)
    (h0 : (sy_i F 82).toInt ≤ (sy_i F 84).toInt)
    (k : ∀ F1 : Nat → sy_d, (∀ j, j < 82 → True → F1 j = F j) → Q (some (.int (sy_i F 83))) (sy_dh F1 X1 X2 (iv_H 1))) :
    hd_W Ls xs d jm_M73 Q (5, sy_dL F [some (.inl (.ref 70)), some (.inl (.ref 10)), some (.inr (.inl 82)), some (.inr (.inl 83)), some (.inr (.inl 84))], sy_dS F [], sy_dh F X1 X2 (iv_H 1), 0, 0) := by
  refine hd_ret (s := 1) (nv := 85) (v := some (.inr (.inl 83))) (uh := hd_ov (iv_id 0 iv_B0) []) (f := true) (sp := [22]) (d0 := 0) (O := [true]) (T := []) (P := [(4, .inr (.inl 82), .inr (.inl 84))]) jm_ok73 (by decide +kernel) (by decide +kernel) hd F X1 X2 (fun F' hF hs => ?_)
  have b82 := hd_b (F := F) (F' := F') (k := 82) (hF 82 (by decide))
  have b84 := hd_b (F := F) (F' := F') (k := 84) (hF 84 (by decide))
  have b83 := hd_b (F := F) (F' := F') (k := 83) (hF 83 (by decide))
  have hB' : iv_in F' iv_B0 := iv_in_eq hB (fun j hj => hF j (Nat.lt_of_lt_of_le hj (by decide +kernel)))
  have hk := k (sy_cm F' (hd_ov (iv_id 0 iv_B0) [] ++ [])) (fun j hj _ => (hd_keep hB' (Nat.lt_of_lt_of_le hj (by decide +kernel)) (by simp)).trans (hF j (Nat.lt_of_lt_of_le hj (by decide))))
  refine ⟨List.forall_mem_cons.mpr ⟨hd_p4 b82 b84 h0, fun _ h => absurd h List.not_mem_nil⟩, ?_⟩
  show Q (some (sy_dv F' (.inr (.inl 83)))) _
  rw [b83]
  exact hk
theorem j1wd_5_p1 {Ls : Nat} {xs : Nat → Int32} {d : Nat} {Q : Option Value → jm_h → Prop} (hd : 1 ≤ d) (F : Nat → sy_d) (X1 X2 : List jm_c) (hB : iv_in F iv_B0)
    (h0 : (sy_i F 84).toInt < (sy_i F 82).toInt)
    (h1 : 7 ≤ (sy_i F 84).toInt)
    (k : ∀ F1 : Nat → sy_d, (∀ j, j < 82 → True → F1 j = F j) → Q (some (.int (sy_i F 83))) (sy_dh F1 X1 X2 (iv_H 1))) :
    hd_W Ls xs d jm_M73 Q (5, sy_dL F [some (.inl (.ref 70)), some (.inl (.ref 10)), some (.inr (.inl 82)), some (.inr (.inl 83)), some (.inr (.inl 84))], sy_dS F [], sy_dh F X1 X2 (iv_H 1), 0, 0) := by
  refine hd_ret (s := 1) (nv := 85) (v := some (.inr (.inl 83))) (uh := hd_ov (iv_id 0 iv_B0) []) (f := true) (sp := [22]) (d0 := 0) (O := [false, true]) (T := []) (P := [(5, .inr (.inl 82), .inr (.inl 84)), (4, .inl (.int 7), .inr (.inl 84))]) jm_ok73 (by decide +kernel) (by decide +kernel) hd F X1 X2 (fun F' hF hs => ?_)
  have b82 := hd_b (F := F) (F' := F') (k := 82) (hF 82 (by decide))
  have b84 := hd_b (F := F) (F' := F') (k := 84) (hF 84 (by decide))
  have b83 := hd_b (F := F) (F' := F') (k := 83) (hF 83 (by decide))
  have hB' : iv_in F' iv_B0 := iv_in_eq hB (fun j hj => hF j (Nat.lt_of_lt_of_le hj (by decide +kernel)))
  have hk := k (sy_cm F' (hd_ov (iv_id 0 iv_B0) [] ++ [])) (fun j hj _ => (hd_keep hB' (Nat.lt_of_lt_of_le hj (by decide +kernel)) (by simp)).trans (hF j (Nat.lt_of_lt_of_le hj (by decide))))
  refine ⟨List.forall_mem_cons.mpr ⟨hd_p5 b82 b84 h0, List.forall_mem_cons.mpr ⟨hd_p4 rfl b84 (by have hc : ((7) : Int32).toInt = 7 := (by decide); omega), fun _ h => absurd h List.not_mem_nil⟩⟩, ?_⟩
  show Q (some (sy_dv F' (.inr (.inl 83)))) _
  rw [b83]
  exact hk
theorem j1wd_5_p2 {Ls : Nat} {xs : Nat → Int32} {d : Nat} {Q : Option Value → jm_h → Prop} (hd : 1 ≤ d) (F : Nat → sy_d) (X1 X2 : List jm_c) (hB : iv_in F iv_B0)
    (h0 : (sy_i F 84).toInt < (sy_i F 82).toInt)
    (h1 : (sy_i F 84).toInt < 7)
    (k : ∀ F1 : Nat → sy_d, (∀ j, j < 82 → True → F1 j = F j) → F1 82 = .inl (.int (sy_i F 82)) → F1 83 = .inl (.int (sy_i F 83)) → F1 84 = .inl (.int (sy_i F 84)) → hd_W Ls xs d jm_M73 Q (22, sy_dL F1 [some (.inl (.ref 70)), some (.inl (.ref 10)), some (.inr (.inl 82)), some (.inr (.inl 83)), some (.inr (.inl 84))], sy_dS F1 [.inr (.inl 84), .inl (.ref 10), .inl (.ref 70)], sy_dh F1 X1 X2 (iv_H 1), 0, 0)) :
    hd_W Ls xs d jm_M73 Q (5, sy_dL F [some (.inl (.ref 70)), some (.inl (.ref 10)), some (.inr (.inl 82)), some (.inr (.inl 83)), some (.inr (.inl 84))], sy_dS F [], sy_dh F X1 X2 (iv_H 1), 0, 0) := by
  refine hd_run (s := 1) (nv := 85) (pc := 22) (L := [some (.inl (.ref 70)), some (.inl (.ref 10)), some (.inr (.inl 82)), some (.inr (.inl 83)), some (.inr (.inl 84))]) (S := [.inr (.inl 84), .inl (.ref 10), .inl (.ref 70)]) (uh := hd_ov (iv_id 0 iv_B0) []) (ul := [.inl (.inr (.inl 82)), .inl (.inr (.inl 83)), .inl (.inr (.inl 84))]) (f := true) (sp := [22]) (d0 := 0) (O := [false, false]) (T := []) (P := [(5, .inr (.inl 82), .inr (.inl 84)), (5, .inl (.int 7), .inr (.inl 84))]) jm_ok73 (by decide +kernel) (by decide +kernel) hd F X1 X2 (fun F' hF hs => ?_)
  have b82 := hd_b (F := F) (F' := F') (k := 82) (hF 82 (by decide))
  have b84 := hd_b (F := F) (F' := F') (k := 84) (hF 84 (by decide))
  have b83 := hd_b (F := F) (F' := F') (k := 83) (hF 83 (by decide))
  have hB' : iv_in F' iv_B0 := iv_in_eq hB (fun j hj => hF j (Nat.lt_of_lt_of_le hj (by decide +kernel)))
  refine ⟨List.forall_mem_cons.mpr ⟨hd_p5 b82 b84 h0, List.forall_mem_cons.mpr ⟨hd_p5 rfl b84 (by have hc : ((7) : Int32).toInt = 7 := (by decide); omega), fun _ h => absurd h List.not_mem_nil⟩⟩, ?_⟩
  refine k _ ?_ ?_ ?_ ?_
  · exact fun j hj _ => (hd_keep hB' (Nat.lt_of_lt_of_le hj (by decide +kernel)) (by simp)).trans (hF j (Nat.lt_of_lt_of_le hj (by decide)))
  · exact hd_gi (x := .inr (.inl 82)) (by decide +kernel) b82
  · exact hd_gi (x := .inr (.inl 83)) (by decide +kernel) b83
  · exact hd_gi (x := .inr (.inl 84)) (by decide +kernel) b84
theorem j1wd_5 {Ls : Nat} {xs : Nat → Int32} {d : Nat} {Q : Option Value → jm_h → Prop} (hd : 1 ≤ d) (F : Nat → sy_d) (X1 X2 : List jm_c) (hB : iv_in F iv_B0)
    (a84 : 1 ≤ (sy_i F 84).toInt ∧ (sy_i F 84).toInt ≤ 7)
    (k0 : (sy_i F 82).toInt ≤ (sy_i F 84).toInt → ∀ F1 : Nat → sy_d, iv_in F1 iv_B0 → (∀ j, j < 82 → j ∉ ([] : List Nat) → F1 j = F j) → Q (some (.int (sy_i F 83))) (sy_dh F1 X1 X2 (iv_H 1)))
    (k1 : (sy_i F 84).toInt < (sy_i F 82).toInt → 7 ≤ (sy_i F 84).toInt → ∀ F1 : Nat → sy_d, iv_in F1 iv_B0 → (∀ j, j < 82 → j ∉ ([] : List Nat) → F1 j = F j) → Q (some (.int (sy_i F 83))) (sy_dh F1 X1 X2 (iv_H 1)))
    (k2 : (sy_i F 84).toInt < (sy_i F 82).toInt → (sy_i F 84).toInt < 7 → ∀ F1 : Nat → sy_d, iv_in F1 iv_B0 → (∀ j, j < 82 → j ∉ ([] : List Nat) → F1 j = F j) → (sy_i F1 82).toInt = (sy_i F 82).toInt → sy_i F1 82 = sy_i F 82 → (sy_i F1 83).toInt = (sy_i F 83).toInt → sy_i F1 83 = sy_i F 83 → (sy_i F1 84).toInt = (sy_i F 84).toInt → sy_i F1 84 = sy_i F 84 → hd_W Ls xs d jm_M73 Q (22, sy_dL F1 [some (.inl (.ref 70)), some (.inl (.ref 10)), some (.inr (.inl 82)), some (.inr (.inl 83)), some (.inr (.inl 84))], sy_dS F1 [.inr (.inl 84), .inl (.ref 10), .inl (.ref 70)], sy_dh F1 X1 X2 (iv_H 1), 0, 0)) :
    hd_W Ls xs d jm_M73 Q (5, sy_dL F [some (.inl (.ref 70)), some (.inl (.ref 10)), some (.inr (.inl 82)), some (.inr (.inl 83)), some (.inr (.inl 84))], sy_dS F [], sy_dh F X1 X2 (iv_H 1), 0, 0) := by
  by_cases g0 : (sy_i F 82).toInt ≤ (sy_i F 84).toInt
  · exact j1wd_5_p0 hd F X1 X2 hB (by first | exact g0 | (simp only [nz_c]; exact g0)) (fun F1 g  => by rw [(rfl : sy_i F 83 = sy_i F 83)]; exact k0 g0 F1 (nz_in0 hB [] (fun j hj hn => g j hj (by simp only [List.mem_cons, List.not_mem_nil, or_false, not_or] at hn; exact trivial)) (List.forall_mem_nil _)) (fun j hj hn => g j hj (by simp only [List.mem_cons, List.not_mem_nil, or_false, not_or] at hn; exact trivial)) )
  replace g0 : (sy_i F 84).toInt < (sy_i F 82).toInt := by omega
  by_cases g1 : 7 ≤ (sy_i F 84).toInt
  · exact j1wd_5_p1 hd F X1 X2 hB (by first | exact g0 | (simp only [nz_c]; exact g0)) (by first | exact g1 | (simp only [nz_c]; exact g1)) (fun F1 g  => by rw [(rfl : sy_i F 83 = sy_i F 83)]; exact k1 g0 g1 F1 (nz_in0 hB [] (fun j hj hn => g j hj (by simp only [List.mem_cons, List.not_mem_nil, or_false, not_or] at hn; exact trivial)) (List.forall_mem_nil _)) (fun j hj hn => g j hj (by simp only [List.mem_cons, List.not_mem_nil, or_false, not_or] at hn; exact trivial)) )
  replace g1 : (sy_i F 84).toInt < 7 := by omega
  exact j1wd_5_p2 hd F X1 X2 hB (by first | exact g0 | (simp only [nz_c]; exact g0)) (by first | exact g1 | (simp only [nz_c]; exact g1)) (fun F1 g e82 e83 e84 => k2 g0 g1 F1 (nz_in0 hB [] (fun j hj hn => g j hj (by simp only [List.mem_cons, List.not_mem_nil, or_false, not_or] at hn; exact trivial)) (List.forall_mem_nil _)) (fun j hj hn => g j hj (by simp only [List.mem_cons, List.not_mem_nil, or_false, not_or] at hn; exact trivial)) ((congrArg Int32.toInt (zz_i e82)).trans (rfl : (sy_i F 82).toInt = (sy_i F 82).toInt)) ((zz_i e82).trans (rfl : sy_i F 82 = sy_i F 82)) ((congrArg Int32.toInt (zz_i e83)).trans (rfl : (sy_i F 83).toInt = (sy_i F 83).toInt)) ((zz_i e83).trans (rfl : sy_i F 83 = sy_i F 83)) ((congrArg Int32.toInt (zz_i e84)).trans (rfl : (sy_i F 84).toInt = (sy_i F 84).toInt)) ((zz_i e84).trans (rfl : sy_i F 84 = sy_i F 84)))
theorem j1wd_25_p0 {Ls : Nat} {xs : Nat → Int32} {d : Nat} {Q : Option Value → jm_h → Prop} (hd : 1 ≤ d) (F : Nat → sy_d) (X1 X2 : List jm_c) (hB : iv_in F iv_B0)
    (k : ∀ F1 : Nat → sy_d, (∀ j, j < 82 → True → F1 j = F j) → F1 82 = .inl (.int (sy_i F 82)) → F1 83 = .inl (.int (sy_i F 83)) → F1 84 = .inl (.int (sy_i F 84)) → F1 85 = .inl (.int (sy_i F 85)) → hd_W Ls xs d jm_M73 Q (28, sy_dL F1 [some (.inl (.ref 70)), some (.inl (.ref 10)), some (.inr (.inl 82)), some (.inr (.inl 83)), some (.inr (.inl 84))], sy_dS F1 [.inr (.inl 83), .inl (.ref 10), .inl (.ref 70), .inr (.inl 85)], sy_dh F1 X1 X2 (iv_H 1), 0, 0)) :
    hd_W Ls xs d jm_M73 Q (25, sy_dL F [some (.inl (.ref 70)), some (.inl (.ref 10)), some (.inr (.inl 82)), some (.inr (.inl 83)), some (.inr (.inl 84))], sy_dS F [.inr (.inl 85)], sy_dh F X1 X2 (iv_H 1), 0, 0) := by
  refine hd_run (s := 1) (nv := 86) (pc := 28) (L := [some (.inl (.ref 70)), some (.inl (.ref 10)), some (.inr (.inl 82)), some (.inr (.inl 83)), some (.inr (.inl 84))]) (S := [.inr (.inl 83), .inl (.ref 10), .inl (.ref 70), .inr (.inl 85)]) (uh := hd_ov (iv_id 0 iv_B0) []) (ul := [.inl (.inr (.inl 82)), .inl (.inr (.inl 83)), .inl (.inr (.inl 84)), .inl (.inr (.inl 85))]) (f := false) (sp := [28]) (d0 := 0) (O := []) (T := []) (P := []) jm_ok73 (by decide +kernel) (by decide +kernel) hd F X1 X2 (fun F' hF hs => ?_)
  have b82 := hd_b (F := F) (F' := F') (k := 82) (hF 82 (by decide))
  have b83 := hd_b (F := F) (F' := F') (k := 83) (hF 83 (by decide))
  have b84 := hd_b (F := F) (F' := F') (k := 84) (hF 84 (by decide))
  have b85 := hd_b (F := F) (F' := F') (k := 85) (hF 85 (by decide))
  have hB' : iv_in F' iv_B0 := iv_in_eq hB (fun j hj => hF j (Nat.lt_of_lt_of_le hj (by decide +kernel)))
  refine ⟨fun _ h => absurd h List.not_mem_nil, ?_⟩
  refine k _ ?_ ?_ ?_ ?_ ?_
  · exact fun j hj _ => (hd_keep hB' (Nat.lt_of_lt_of_le hj (by decide +kernel)) (by simp)).trans (hF j (Nat.lt_of_lt_of_le hj (by decide)))
  · exact hd_gi (x := .inr (.inl 82)) (by decide +kernel) b82
  · exact hd_gi (x := .inr (.inl 83)) (by decide +kernel) b83
  · exact hd_gi (x := .inr (.inl 84)) (by decide +kernel) b84
  · exact hd_gi (x := .inr (.inl 85)) (by decide +kernel) b85
theorem j1wd_25 {Ls : Nat} {xs : Nat → Int32} {d : Nat} {Q : Option Value → jm_h → Prop} (hd : 1 ≤ d) (F : Nat → sy_d) (X1 X2 : List jm_c) (hB : iv_in F iv_B0)
    (k0 : ∀ F1 : Nat → sy_d, iv_in F1 iv_B0 → (∀ j, j < 82 → j ∉ ([] : List Nat) → F1 j = F j) → (sy_i F1 82).toInt = (sy_i F 82).toInt → sy_i F1 82 = sy_i F 82 → (sy_i F1 83).toInt = (sy_i F 83).toInt → sy_i F1 83 = sy_i F 83 → (sy_i F1 84).toInt = (sy_i F 84).toInt → sy_i F1 84 = sy_i F 84 → (sy_i F1 85).toInt = (sy_i F 85).toInt → sy_i F1 85 = sy_i F 85 → hd_W Ls xs d jm_M73 Q (28, sy_dL F1 [some (.inl (.ref 70)), some (.inl (.ref 10)), some (.inr (.inl 82)), some (.inr (.inl 83)), some (.inr (.inl 84))], sy_dS F1 [.inr (.inl 83), .inl (.ref 10), .inl (.ref 70), .inr (.inl 85)], sy_dh F1 X1 X2 (iv_H 1), 0, 0)) :
    hd_W Ls xs d jm_M73 Q (25, sy_dL F [some (.inl (.ref 70)), some (.inl (.ref 10)), some (.inr (.inl 82)), some (.inr (.inl 83)), some (.inr (.inl 84))], sy_dS F [.inr (.inl 85)], sy_dh F X1 X2 (iv_H 1), 0, 0) := by
  exact j1wd_25_p0 hd F X1 X2 hB  (fun F1 g e82 e83 e84 e85 => k0 F1 (nz_in0 hB [] (fun j hj hn => g j hj (by simp only [List.mem_cons, List.not_mem_nil, or_false, not_or] at hn; exact trivial)) (List.forall_mem_nil _)) (fun j hj hn => g j hj (by simp only [List.mem_cons, List.not_mem_nil, or_false, not_or] at hn; exact trivial)) ((congrArg Int32.toInt (zz_i e82)).trans (rfl : (sy_i F 82).toInt = (sy_i F 82).toInt)) ((zz_i e82).trans (rfl : sy_i F 82 = sy_i F 82)) ((congrArg Int32.toInt (zz_i e83)).trans (rfl : (sy_i F 83).toInt = (sy_i F 83).toInt)) ((zz_i e83).trans (rfl : sy_i F 83 = sy_i F 83)) ((congrArg Int32.toInt (zz_i e84)).trans (rfl : (sy_i F 84).toInt = (sy_i F 84).toInt)) ((zz_i e84).trans (rfl : sy_i F 84 = sy_i F 84)) ((congrArg Int32.toInt (zz_i e85)).trans (rfl : (sy_i F 85).toInt = (sy_i F 85).toInt)) ((zz_i e85).trans (rfl : sy_i F 85 = sy_i F 85)))
theorem j1wd_31_p0 {Ls : Nat} {xs : Nat → Int32} {d : Nat} {Q : Option Value → jm_h → Prop} (hd : 1 ≤ d) (F : Nat → sy_d) (X1 X2 : List jm_c) (hB : iv_in F iv_B0)
    (h0 : (sy_i F 85).toInt ≤ (sy_i F 86).toInt)
    (k : ∀ F1 : Nat → sy_d, (∀ j, j < 82 → True → F1 j = F j) → F1 82 = .inl (.int (sy_i F 82)) → F1 83 = .inl (.int (sy_i F 83)) → F1 84 = .inl (.int ((sy_i F 84) + ((1 : Int32)))) → hd_W Ls xs d jm_M73 Q (5, sy_dL F1 [some (.inl (.ref 70)), some (.inl (.ref 10)), some (.inr (.inl 82)), some (.inr (.inl 83)), some (.inr (.inl 84))], sy_dS F1 [], sy_dh F1 X1 X2 (iv_H 1), 0, 0)) :
    hd_W Ls xs d jm_M73 Q (31, sy_dL F [some (.inl (.ref 70)), some (.inl (.ref 10)), some (.inr (.inl 82)), some (.inr (.inl 83)), some (.inr (.inl 84))], sy_dS F [.inr (.inl 86), .inr (.inl 85)], sy_dh F X1 X2 (iv_H 1), 0, 0) := by
  refine hd_run (s := 1) (nv := 87) (pc := 5) (L := [some (.inl (.ref 70)), some (.inl (.ref 10)), some (.inr (.inl 82)), some (.inr (.inl 83)), some (.inr (.inl 84))]) (S := []) (uh := hd_ov (iv_id 0 iv_B0) []) (ul := [.inl (.inr (.inl 82)), .inl (.inr (.inl 83)), .inl (.inr (.inl 87))]) (f := false) (sp := [5]) (d0 := 0) (O := [true]) (T := [(0, [.inr (.inl 84), .inl (.int 1)], [])]) (P := [(4, .inr (.inl 85), .inr (.inl 86))]) jm_ok73 (by decide +kernel) (by decide +kernel) hd F X1 X2 (fun F' hF hs => ?_)
  have b85 := hd_b (F := F) (F' := F') (k := 85) (hF 85 (by decide))
  have b86 := hd_b (F := F) (F' := F') (k := 86) (hF 86 (by decide))
  have b82 := hd_b (F := F) (F' := F') (k := 82) (hF 82 (by decide))
  have b83 := hd_b (F := F) (F' := F') (k := 83) (hF 83 (by decide))
  have b84 := hd_b (F := F) (F' := F') (k := 84) (hF 84 (by decide))
  have t87 : sy_dv F' (.inr (.inl 87)) = .int ((sy_i F 84) + ((1 : Int32))) := hd_o (hs 0 _ rfl) b84 rfl rfl
  have hB' : iv_in F' iv_B0 := iv_in_eq hB (fun j hj => hF j (Nat.lt_of_lt_of_le hj (by decide +kernel)))
  refine ⟨List.forall_mem_cons.mpr ⟨hd_p4 b85 b86 h0, fun _ h => absurd h List.not_mem_nil⟩, ?_⟩
  refine k _ ?_ ?_ ?_ ?_
  · exact fun j hj _ => (hd_keep hB' (Nat.lt_of_lt_of_le hj (by decide +kernel)) (by simp)).trans (hF j (Nat.lt_of_lt_of_le hj (by decide)))
  · exact hd_gi (x := .inr (.inl 82)) (by decide +kernel) b82
  · exact hd_gi (x := .inr (.inl 83)) (by decide +kernel) b83
  · exact hd_gi (x := .inr (.inl 87)) (by decide +kernel) t87
theorem j1wd_31_p1 {Ls : Nat} {xs : Nat → Int32} {d : Nat} {Q : Option Value → jm_h → Prop} (hd : 1 ≤ d) (F : Nat → sy_d) (X1 X2 : List jm_c) (hB : iv_in F iv_B0)
    (h0 : (sy_i F 86).toInt < (sy_i F 85).toInt)
    (k : ∀ F1 : Nat → sy_d, (∀ j, j < 82 → True → F1 j = F j) → F1 82 = .inl (.int (sy_i F 82)) → F1 83 = .inl (.int (sy_i F 84)) → F1 84 = .inl (.int ((sy_i F 84) + ((1 : Int32)))) → hd_W Ls xs d jm_M73 Q (5, sy_dL F1 [some (.inl (.ref 70)), some (.inl (.ref 10)), some (.inr (.inl 82)), some (.inr (.inl 83)), some (.inr (.inl 84))], sy_dS F1 [], sy_dh F1 X1 X2 (iv_H 1), 0, 0)) :
    hd_W Ls xs d jm_M73 Q (31, sy_dL F [some (.inl (.ref 70)), some (.inl (.ref 10)), some (.inr (.inl 82)), some (.inr (.inl 83)), some (.inr (.inl 84))], sy_dS F [.inr (.inl 86), .inr (.inl 85)], sy_dh F X1 X2 (iv_H 1), 0, 0) := by
  refine hd_run (s := 1) (nv := 87) (pc := 5) (L := [some (.inl (.ref 70)), some (.inl (.ref 10)), some (.inr (.inl 82)), some (.inr (.inl 83)), some (.inr (.inl 84))]) (S := []) (uh := hd_ov (iv_id 0 iv_B0) []) (ul := [.inl (.inr (.inl 82)), .inl (.inr (.inl 84)), .inl (.inr (.inl 87))]) (f := false) (sp := [5]) (d0 := 0) (O := [false]) (T := [(0, [.inr (.inl 84), .inl (.int 1)], [])]) (P := [(5, .inr (.inl 85), .inr (.inl 86))]) jm_ok73 (by decide +kernel) (by decide +kernel) hd F X1 X2 (fun F' hF hs => ?_)
  have b85 := hd_b (F := F) (F' := F') (k := 85) (hF 85 (by decide))
  have b86 := hd_b (F := F) (F' := F') (k := 86) (hF 86 (by decide))
  have b82 := hd_b (F := F) (F' := F') (k := 82) (hF 82 (by decide))
  have b84 := hd_b (F := F) (F' := F') (k := 84) (hF 84 (by decide))
  have t87 : sy_dv F' (.inr (.inl 87)) = .int ((sy_i F 84) + ((1 : Int32))) := hd_o (hs 0 _ rfl) b84 rfl rfl
  have hB' : iv_in F' iv_B0 := iv_in_eq hB (fun j hj => hF j (Nat.lt_of_lt_of_le hj (by decide +kernel)))
  refine ⟨List.forall_mem_cons.mpr ⟨hd_p5 b85 b86 h0, fun _ h => absurd h List.not_mem_nil⟩, ?_⟩
  refine k _ ?_ ?_ ?_ ?_
  · exact fun j hj _ => (hd_keep hB' (Nat.lt_of_lt_of_le hj (by decide +kernel)) (by simp)).trans (hF j (Nat.lt_of_lt_of_le hj (by decide)))
  · exact hd_gi (x := .inr (.inl 82)) (by decide +kernel) b82
  · exact hd_gi (x := .inr (.inl 84)) (by decide +kernel) b84
  · exact hd_gi (x := .inr (.inl 87)) (by decide +kernel) t87
theorem j1wd_31 {Ls : Nat} {xs : Nat → Int32} {d : Nat} {Q : Option Value → jm_h → Prop} (hd : 1 ≤ d) (F : Nat → sy_d) (X1 X2 : List jm_c) (hB : iv_in F iv_B0)
    (a84 : 1 ≤ (sy_i F 84).toInt ∧ (sy_i F 84).toInt ≤ 6)
    (k0 : (sy_i F 85).toInt ≤ (sy_i F 86).toInt → ∀ F1 : Nat → sy_d, iv_in F1 iv_B0 → (∀ j, j < 82 → j ∉ ([] : List Nat) → F1 j = F j) → (sy_i F1 82).toInt = (sy_i F 82).toInt → sy_i F1 82 = sy_i F 82 → (sy_i F1 83).toInt = (sy_i F 83).toInt → sy_i F1 83 = sy_i F 83 → (sy_i F1 84).toInt = ((sy_i F 84).toInt + 1) → sy_i F1 84 = (sy_i F 84) + ((1 : Int32)) → hd_W Ls xs d jm_M73 Q (5, sy_dL F1 [some (.inl (.ref 70)), some (.inl (.ref 10)), some (.inr (.inl 82)), some (.inr (.inl 83)), some (.inr (.inl 84))], sy_dS F1 [], sy_dh F1 X1 X2 (iv_H 1), 0, 0))
    (k1 : (sy_i F 86).toInt < (sy_i F 85).toInt → ∀ F1 : Nat → sy_d, iv_in F1 iv_B0 → (∀ j, j < 82 → j ∉ ([] : List Nat) → F1 j = F j) → (sy_i F1 82).toInt = (sy_i F 82).toInt → sy_i F1 82 = sy_i F 82 → (sy_i F1 83).toInt = (sy_i F 84).toInt → sy_i F1 83 = sy_i F 84 → (sy_i F1 84).toInt = ((sy_i F 84).toInt + 1) → sy_i F1 84 = (sy_i F 84) + ((1 : Int32)) → hd_W Ls xs d jm_M73 Q (5, sy_dL F1 [some (.inl (.ref 70)), some (.inl (.ref 10)), some (.inr (.inl 82)), some (.inr (.inl 83)), some (.inr (.inl 84))], sy_dS F1 [], sy_dh F1 X1 X2 (iv_H 1), 0, 0)) :
    hd_W Ls xs d jm_M73 Q (31, sy_dL F [some (.inl (.ref 70)), some (.inl (.ref 10)), some (.inr (.inl 82)), some (.inr (.inl 83)), some (.inr (.inl 84))], sy_dS F [.inr (.inl 86), .inr (.inl 85)], sy_dh F X1 X2 (iv_H 1), 0, 0) := by
  by_cases g0 : (sy_i F 85).toInt ≤ (sy_i F 86).toInt
  · have n87 : nzI ((sy_i F 84) + ((1 : Int32))) (((sy_i F 84).toInt + 1)) := nz_add (rfl : (sy_i F 84).toInt = (sy_i F 84).toInt) (by decide : ((1 : Int32)).toInt = 1) (by omega) (by omega)
    exact j1wd_31_p0 hd F X1 X2 hB (by first | exact g0 | (simp only [nz_c]; exact g0)) (fun F1 g e82 e83 e84 => k0 g0 F1 (nz_in0 hB [] (fun j hj hn => g j hj (by simp only [List.mem_cons, List.not_mem_nil, or_false, not_or] at hn; exact trivial)) (List.forall_mem_nil _)) (fun j hj hn => g j hj (by simp only [List.mem_cons, List.not_mem_nil, or_false, not_or] at hn; exact trivial)) ((congrArg Int32.toInt (zz_i e82)).trans (rfl : (sy_i F 82).toInt = (sy_i F 82).toInt)) ((zz_i e82).trans (rfl : sy_i F 82 = sy_i F 82)) ((congrArg Int32.toInt (zz_i e83)).trans (rfl : (sy_i F 83).toInt = (sy_i F 83).toInt)) ((zz_i e83).trans (rfl : sy_i F 83 = sy_i F 83)) ((congrArg Int32.toInt (zz_i e84)).trans (nzE n87)) ((zz_i e84).trans (rfl : (sy_i F 84) + ((1 : Int32)) = (sy_i F 84) + ((1 : Int32)))))
  replace g0 : (sy_i F 86).toInt < (sy_i F 85).toInt := by omega
  have n87 : nzI ((sy_i F 84) + ((1 : Int32))) (((sy_i F 84).toInt + 1)) := nz_add (rfl : (sy_i F 84).toInt = (sy_i F 84).toInt) (by decide : ((1 : Int32)).toInt = 1) (by omega) (by omega)
  exact j1wd_31_p1 hd F X1 X2 hB (by first | exact g0 | (simp only [nz_c]; exact g0)) (fun F1 g e82 e83 e84 => k1 g0 F1 (nz_in0 hB [] (fun j hj hn => g j hj (by simp only [List.mem_cons, List.not_mem_nil, or_false, not_or] at hn; exact trivial)) (List.forall_mem_nil _)) (fun j hj hn => g j hj (by simp only [List.mem_cons, List.not_mem_nil, or_false, not_or] at hn; exact trivial)) ((congrArg Int32.toInt (zz_i e82)).trans (rfl : (sy_i F 82).toInt = (sy_i F 82).toInt)) ((zz_i e82).trans (rfl : sy_i F 82 = sy_i F 82)) ((congrArg Int32.toInt (zz_i e83)).trans (rfl : (sy_i F 84).toInt = (sy_i F 84).toInt)) ((zz_i e83).trans (rfl : sy_i F 84 = sy_i F 84)) ((congrArg Int32.toInt (zz_i e84)).trans (nzE n87)) ((zz_i e84).trans (rfl : (sy_i F 84) + ((1 : Int32)) = (sy_i F 84) + ((1 : Int32)))))
theorem j1rw_0_p0 {Ls : Nat} {xs : Nat → Int32} {d : Nat} {Q : Option Value → jm_h → Prop} (hd : 2 ≤ d) (F : Nat → sy_d) (X1 X2 : List jm_c) (hB : iv_in F iv_B0)
    (h0 : (sy_i F 82).toInt < 0)
    (k : ∀ F1 : Nat → sy_d, (∀ j, j < 82 → True → F1 j = F j) → Q (some (.int (((-1) : Int32)))) (sy_dh F1 X1 X2 (iv_H 1))) :
    hd_W Ls xs d jm_M110 Q (0, sy_dL F [some (.inl (.ref 8)), some (.inr (.inl 82))], sy_dS F [], sy_dh F X1 X2 (iv_H 1), 0, 0) := by
  refine hd_ret (s := 1) (nv := 83) (v := some (.inl (.int (-1)))) (uh := hd_ov (iv_id 0 iv_B0) []) (f := true) (sp := [24]) (d0 := 1) (O := [true]) (T := []) (P := [(2, .inr (.inl 82), .inl (.int 0))]) jm_ok110 (by decide +kernel) (by decide +kernel) hd F X1 X2 (fun F' hF hs => ?_)
  have b82 := hd_b (F := F) (F' := F') (k := 82) (hF 82 (by decide))
  have hB' : iv_in F' iv_B0 := iv_in_eq hB (fun j hj => hF j (Nat.lt_of_lt_of_le hj (by decide +kernel)))
  refine ⟨List.forall_mem_cons.mpr ⟨hd_p2 b82 rfl (by have hc : ((0) : Int32).toInt = 0 := (by decide); omega), fun _ h => absurd h List.not_mem_nil⟩, ?_⟩
  refine k _ ?_
  · exact fun j hj _ => (hd_keep hB' (Nat.lt_of_lt_of_le hj (by decide +kernel)) (by simp)).trans (hF j (Nat.lt_of_lt_of_le hj (by decide)))
theorem j1rw_0_p1 {Ls : Nat} {xs : Nat → Int32} {d : Nat} {Q : Option Value → jm_h → Prop} (hd : 2 ≤ d) (F : Nat → sy_d) (X1 X2 : List jm_c) (hB : iv_in F iv_B0)
    (h0 : 0 ≤ (sy_i F 82).toInt)
    (h1 : (sy_i F 79).toInt < (sy_i F 82).toInt)
    (k : ∀ F1 : Nat → sy_d, (∀ j, j < 82 → True → F1 j = F j) → Q (some (.int (((-1) : Int32)))) (sy_dh F1 X1 X2 (iv_H 1))) :
    hd_W Ls xs d jm_M110 Q (0, sy_dL F [some (.inl (.ref 8)), some (.inr (.inl 82))], sy_dS F [], sy_dh F X1 X2 (iv_H 1), 0, 0) := by
  refine hd_ret (s := 1) (nv := 83) (v := some (.inl (.int (-1)))) (uh := hd_ov (iv_id 0 iv_B0) []) (f := true) (sp := [24]) (d0 := 1) (O := [false, true]) (T := []) (P := [(3, .inr (.inl 82), .inl (.int 0)), (2, .inr (.inl 79), .inr (.inl 82))]) jm_ok110 (by decide +kernel) (by decide +kernel) hd F X1 X2 (fun F' hF hs => ?_)
  have b82 := hd_b (F := F) (F' := F') (k := 82) (hF 82 (by decide))
  have b79 := hd_b (F := F) (F' := F') (k := 79) (hF 79 (by decide))
  have hB' : iv_in F' iv_B0 := iv_in_eq hB (fun j hj => hF j (Nat.lt_of_lt_of_le hj (by decide +kernel)))
  refine ⟨List.forall_mem_cons.mpr ⟨hd_p3 b82 rfl (by have hc : ((0) : Int32).toInt = 0 := (by decide); omega), List.forall_mem_cons.mpr ⟨hd_p2 b79 b82 h1, fun _ h => absurd h List.not_mem_nil⟩⟩, ?_⟩
  refine k _ ?_
  · exact fun j hj _ => (hd_keep hB' (Nat.lt_of_lt_of_le hj (by decide +kernel)) (by simp)).trans (hF j (Nat.lt_of_lt_of_le hj (by decide)))
theorem j1rw_0_p2 {Ls : Nat} {xs : Nat → Int32} {d : Nat} {Q : Option Value → jm_h → Prop} (hd : 2 ≤ d) (F : Nat → sy_d) (X1 X2 : List jm_c) (hB : iv_in F iv_B0)
    (h0 : 0 ≤ (sy_i F 82).toInt)
    (h1 : (sy_i F 82).toInt ≤ (sy_i F 79).toInt)
    (k : ∀ F1 : Nat → sy_d, (∀ j, j < 82 → True → F1 j = F j) → F1 82 = .inl (.int (sy_i F 82)) → hd_W Ls xs d jm_M110 Q (24, sy_dL F1 [some (.inl (.ref 8)), none], sy_dS F1 [.inr (.inl 82), .inl (.ref 10), .inl (.ref 70)], sy_dh F1 X1 X2 (iv_H 1), 0, 0)) :
    hd_W Ls xs d jm_M110 Q (0, sy_dL F [some (.inl (.ref 8)), some (.inr (.inl 82))], sy_dS F [], sy_dh F X1 X2 (iv_H 1), 0, 0) := by
  refine hd_run (s := 1) (nv := 83) (pc := 24) (L := [some (.inl (.ref 8)), none]) (S := [.inr (.inl 82), .inl (.ref 10), .inl (.ref 70)]) (uh := hd_ov (iv_id 0 iv_B0) []) (ul := [.inl (.inr (.inl 82))]) (f := true) (sp := [24]) (d0 := 1) (O := [false, false]) (T := []) (P := [(3, .inr (.inl 82), .inl (.int 0)), (3, .inr (.inl 79), .inr (.inl 82))]) jm_ok110 (by decide +kernel) (by decide +kernel) hd F X1 X2 (fun F' hF hs => ?_)
  have b82 := hd_b (F := F) (F' := F') (k := 82) (hF 82 (by decide))
  have b79 := hd_b (F := F) (F' := F') (k := 79) (hF 79 (by decide))
  have hB' : iv_in F' iv_B0 := iv_in_eq hB (fun j hj => hF j (Nat.lt_of_lt_of_le hj (by decide +kernel)))
  refine ⟨List.forall_mem_cons.mpr ⟨hd_p3 b82 rfl (by have hc : ((0) : Int32).toInt = 0 := (by decide); omega), List.forall_mem_cons.mpr ⟨hd_p3 b79 b82 h1, fun _ h => absurd h List.not_mem_nil⟩⟩, ?_⟩
  refine k _ ?_ ?_
  · exact fun j hj _ => (hd_keep hB' (Nat.lt_of_lt_of_le hj (by decide +kernel)) (by simp)).trans (hF j (Nat.lt_of_lt_of_le hj (by decide)))
  · exact hd_gi (x := .inr (.inl 82)) (by decide +kernel) b82
theorem j1rw_0 {Ls : Nat} {xs : Nat → Int32} {d : Nat} {Q : Option Value → jm_h → Prop} (hd : 2 ≤ d) (F : Nat → sy_d) (X1 X2 : List jm_c) (hB : iv_in F iv_B0)
    (k0 : (sy_i F 82).toInt < 0 → ∀ F1 : Nat → sy_d, iv_in F1 iv_B0 → (∀ j, j < 82 → j ∉ ([] : List Nat) → F1 j = F j) → Q (some (.int (((-1) : Int32)))) (sy_dh F1 X1 X2 (iv_H 1)))
    (k1 : 0 ≤ (sy_i F 82).toInt → (sy_i F 79).toInt < (sy_i F 82).toInt → ∀ F1 : Nat → sy_d, iv_in F1 iv_B0 → (∀ j, j < 82 → j ∉ ([] : List Nat) → F1 j = F j) → Q (some (.int (((-1) : Int32)))) (sy_dh F1 X1 X2 (iv_H 1)))
    (k2 : 0 ≤ (sy_i F 82).toInt → (sy_i F 82).toInt ≤ (sy_i F 79).toInt → ∀ F1 : Nat → sy_d, iv_in F1 iv_B0 → (∀ j, j < 82 → j ∉ ([] : List Nat) → F1 j = F j) → (sy_i F1 82).toInt = (sy_i F 82).toInt → sy_i F1 82 = sy_i F 82 → hd_W Ls xs d jm_M110 Q (24, sy_dL F1 [some (.inl (.ref 8)), none], sy_dS F1 [.inr (.inl 82), .inl (.ref 10), .inl (.ref 70)], sy_dh F1 X1 X2 (iv_H 1), 0, 0)) :
    hd_W Ls xs d jm_M110 Q (0, sy_dL F [some (.inl (.ref 8)), some (.inr (.inl 82))], sy_dS F [], sy_dh F X1 X2 (iv_H 1), 0, 0) := by
  by_cases g0 : (sy_i F 82).toInt < 0
  · exact j1rw_0_p0 hd F X1 X2 hB (by first | exact g0 | (simp only [nz_c]; exact g0)) (fun F1 g  => k0 g0 F1 (nz_in0 hB [] (fun j hj hn => g j hj (by simp only [List.mem_cons, List.not_mem_nil, or_false, not_or] at hn; exact trivial)) (List.forall_mem_nil _)) (fun j hj hn => g j hj (by simp only [List.mem_cons, List.not_mem_nil, or_false, not_or] at hn; exact trivial)) )
  replace g0 : 0 ≤ (sy_i F 82).toInt := by omega
  by_cases g1 : (sy_i F 79).toInt < (sy_i F 82).toInt
  · have c79 := nz_bx hB (k := 79) (lo := 0) (hi := 7) rfl
    exact j1rw_0_p1 hd F X1 X2 hB (by first | exact g0 | (simp only [nz_c]; exact g0)) (by first | exact g1 | (simp only [nz_c]; exact g1)) (fun F1 g  => k1 g0 g1 F1 (nz_in0 hB [] (fun j hj hn => g j hj (by simp only [List.mem_cons, List.not_mem_nil, or_false, not_or] at hn; exact trivial)) (List.forall_mem_nil _)) (fun j hj hn => g j hj (by simp only [List.mem_cons, List.not_mem_nil, or_false, not_or] at hn; exact trivial)) )
  replace g1 : (sy_i F 82).toInt ≤ (sy_i F 79).toInt := by omega
  have c79 := nz_bx hB (k := 79) (lo := 0) (hi := 7) rfl
  exact j1rw_0_p2 hd F X1 X2 hB (by first | exact g0 | (simp only [nz_c]; exact g0)) (by first | exact g1 | (simp only [nz_c]; exact g1)) (fun F1 g e82 => k2 g0 g1 F1 (nz_in0 hB [] (fun j hj hn => g j hj (by simp only [List.mem_cons, List.not_mem_nil, or_false, not_or] at hn; exact trivial)) (List.forall_mem_nil _)) (fun j hj hn => g j hj (by simp only [List.mem_cons, List.not_mem_nil, or_false, not_or] at hn; exact trivial)) ((congrArg Int32.toInt (zz_i e82)).trans (rfl : (sy_i F 82).toInt = (sy_i F 82).toInt)) ((zz_i e82).trans (rfl : sy_i F 82 = sy_i F 82)))
theorem j1rw_27_p0 {Ls : Nat} {xs : Nat → Int32} {d : Nat} {Q : Option Value → jm_h → Prop} (hd : 1 ≤ d) (F : Nat → sy_d) (X1 X2 : List jm_c) (hB : iv_in F iv_B0)
    (k : ∀ F1 : Nat → sy_d, (∀ j, j < 82 → True → F1 j = F j) → Q (some (.int (sy_i F 82))) (sy_dh F1 X1 X2 (iv_H 1))) :
    hd_W Ls xs d jm_M110 Q (27, sy_dL F [some (.inl (.ref 8)), none], sy_dS F [.inr (.inl 82)], sy_dh F X1 X2 (iv_H 1), 0, 0) := by
  refine hd_ret (s := 1) (nv := 83) (v := some (.inr (.inl 82))) (uh := hd_ov (iv_id 0 iv_B0) []) (f := false) (sp := []) (d0 := 0) (O := []) (T := []) (P := []) jm_ok110 (by decide +kernel) (by decide +kernel) hd F X1 X2 (fun F' hF hs => ?_)
  have b82 := hd_b (F := F) (F' := F') (k := 82) (hF 82 (by decide))
  have hB' : iv_in F' iv_B0 := iv_in_eq hB (fun j hj => hF j (Nat.lt_of_lt_of_le hj (by decide +kernel)))
  have hk := k (sy_cm F' (hd_ov (iv_id 0 iv_B0) [] ++ [])) (fun j hj _ => (hd_keep hB' (Nat.lt_of_lt_of_le hj (by decide +kernel)) (by simp)).trans (hF j (Nat.lt_of_lt_of_le hj (by decide))))
  refine ⟨fun _ h => absurd h List.not_mem_nil, ?_⟩
  show Q (some (sy_dv F' (.inr (.inl 82)))) _
  rw [b82]
  exact hk
theorem j1rw_27 {Ls : Nat} {xs : Nat → Int32} {d : Nat} {Q : Option Value → jm_h → Prop} (hd : 1 ≤ d) (F : Nat → sy_d) (X1 X2 : List jm_c) (hB : iv_in F iv_B0)
    (k0 : ∀ F1 : Nat → sy_d, iv_in F1 iv_B0 → (∀ j, j < 82 → j ∉ ([] : List Nat) → F1 j = F j) → Q (some (.int (sy_i F 82))) (sy_dh F1 X1 X2 (iv_H 1))) :
    hd_W Ls xs d jm_M110 Q (27, sy_dL F [some (.inl (.ref 8)), none], sy_dS F [.inr (.inl 82)], sy_dh F X1 X2 (iv_H 1), 0, 0) := by
  exact j1rw_27_p0 hd F X1 X2 hB  (fun F1 g  => by rw [(rfl : sy_i F 82 = sy_i F 82)]; exact k0 F1 (nz_in0 hB [] (fun j hj hn => g j hj (by simp only [List.mem_cons, List.not_mem_nil, or_false, not_or] at hn; exact trivial)) (List.forall_mem_nil _)) (fun j hj hn => g j hj (by simp only [List.mem_cons, List.not_mem_nil, or_false, not_or] at hn; exact trivial)) )
theorem j1su_0_p0 {Ls : Nat} {xs : Nat → Int32} {d : Nat} {Q : Option Value → jm_h → Prop} (hd : 2 ≤ d) (F : Nat → sy_d) (X1 X2 : List jm_c) (hB : iv_in F iv_B0)
    (h0 : (sy_i F 82).toInt < 0)
    (k : ∀ F1 : Nat → sy_d, (∀ j, j < 82 → True → F1 j = F j) → Q (some (.int (((-1) : Int32)))) (sy_dh F1 X1 X2 (iv_H 1))) :
    hd_W Ls xs d jm_M111 Q (0, sy_dL F [some (.inl (.ref 8)), some (.inr (.inl 82)), some (.inr (.inl 83)), none], sy_dS F [], sy_dh F X1 X2 (iv_H 1), 0, 0) := by
  refine hd_ret (s := 1) (nv := 84) (v := some (.inl (.int (-1)))) (uh := hd_ov (iv_id 0 iv_B0) []) (f := true) (sp := [37]) (d0 := 1) (O := [true]) (T := []) (P := [(2, .inr (.inl 82), .inl (.int 0))]) jm_ok111 (by decide +kernel) (by decide +kernel) hd F X1 X2 (fun F' hF hs => ?_)
  have b82 := hd_b (F := F) (F' := F') (k := 82) (hF 82 (by decide))
  have hB' : iv_in F' iv_B0 := iv_in_eq hB (fun j hj => hF j (Nat.lt_of_lt_of_le hj (by decide +kernel)))
  refine ⟨List.forall_mem_cons.mpr ⟨hd_p2 b82 rfl (by have hc : ((0) : Int32).toInt = 0 := (by decide); omega), fun _ h => absurd h List.not_mem_nil⟩, ?_⟩
  refine k _ ?_
  · exact fun j hj _ => (hd_keep hB' (Nat.lt_of_lt_of_le hj (by decide +kernel)) (by simp)).trans (hF j (Nat.lt_of_lt_of_le hj (by decide)))
theorem j1su_0_p1 {Ls : Nat} {xs : Nat → Int32} {d : Nat} {Q : Option Value → jm_h → Prop} (hd : 2 ≤ d) (F : Nat → sy_d) (X1 X2 : List jm_c) (hB : iv_in F iv_B0)
    (h0 : 0 ≤ (sy_i F 82).toInt)
    (h1 : (sy_i F 79).toInt < (sy_i F 82).toInt)
    (k : ∀ F1 : Nat → sy_d, (∀ j, j < 82 → True → F1 j = F j) → Q (some (.int (((-1) : Int32)))) (sy_dh F1 X1 X2 (iv_H 1))) :
    hd_W Ls xs d jm_M111 Q (0, sy_dL F [some (.inl (.ref 8)), some (.inr (.inl 82)), some (.inr (.inl 83)), none], sy_dS F [], sy_dh F X1 X2 (iv_H 1), 0, 0) := by
  refine hd_ret (s := 1) (nv := 84) (v := some (.inl (.int (-1)))) (uh := hd_ov (iv_id 0 iv_B0) []) (f := true) (sp := [37]) (d0 := 1) (O := [false, true]) (T := []) (P := [(3, .inr (.inl 82), .inl (.int 0)), (2, .inr (.inl 79), .inr (.inl 82))]) jm_ok111 (by decide +kernel) (by decide +kernel) hd F X1 X2 (fun F' hF hs => ?_)
  have b82 := hd_b (F := F) (F' := F') (k := 82) (hF 82 (by decide))
  have b79 := hd_b (F := F) (F' := F') (k := 79) (hF 79 (by decide))
  have hB' : iv_in F' iv_B0 := iv_in_eq hB (fun j hj => hF j (Nat.lt_of_lt_of_le hj (by decide +kernel)))
  refine ⟨List.forall_mem_cons.mpr ⟨hd_p3 b82 rfl (by have hc : ((0) : Int32).toInt = 0 := (by decide); omega), List.forall_mem_cons.mpr ⟨hd_p2 b79 b82 h1, fun _ h => absurd h List.not_mem_nil⟩⟩, ?_⟩
  refine k _ ?_
  · exact fun j hj _ => (hd_keep hB' (Nat.lt_of_lt_of_le hj (by decide +kernel)) (by simp)).trans (hF j (Nat.lt_of_lt_of_le hj (by decide)))
theorem j1su_0_p2 {Ls : Nat} {xs : Nat → Int32} {d : Nat} {Q : Option Value → jm_h → Prop} (hd : 2 ≤ d) (F : Nat → sy_d) (X1 X2 : List jm_c) (hB : iv_in F iv_B0)
    (h0 : 0 ≤ (sy_i F 82).toInt)
    (h1 : (sy_i F 82).toInt ≤ (sy_i F 79).toInt)
    (h2 : (sy_i F 83).toInt < 0)
    (k : ∀ F1 : Nat → sy_d, (∀ j, j < 82 → True → F1 j = F j) → Q (some (.int (((-1) : Int32)))) (sy_dh F1 X1 X2 (iv_H 1))) :
    hd_W Ls xs d jm_M111 Q (0, sy_dL F [some (.inl (.ref 8)), some (.inr (.inl 82)), some (.inr (.inl 83)), none], sy_dS F [], sy_dh F X1 X2 (iv_H 1), 0, 0) := by
  refine hd_ret (s := 1) (nv := 84) (v := some (.inl (.int (-1)))) (uh := hd_ov (iv_id 0 iv_B0) []) (f := true) (sp := [37]) (d0 := 1) (O := [false, false, true]) (T := [(1, [.inr (.inl 82), .inl (.int 1)], [])]) (P := [(3, .inr (.inl 82), .inl (.int 0)), (3, .inr (.inl 79), .inr (.inl 82)), (2, .inr (.inl 83), .inl (.int 0))]) jm_ok111 (by decide +kernel) (by decide +kernel) hd F X1 X2 (fun F' hF hs => ?_)
  have b82 := hd_b (F := F) (F' := F') (k := 82) (hF 82 (by decide))
  have b79 := hd_b (F := F) (F' := F') (k := 79) (hF 79 (by decide))
  have b83 := hd_b (F := F) (F' := F') (k := 83) (hF 83 (by decide))
  have hB' : iv_in F' iv_B0 := iv_in_eq hB (fun j hj => hF j (Nat.lt_of_lt_of_le hj (by decide +kernel)))
  refine ⟨List.forall_mem_cons.mpr ⟨hd_p3 b82 rfl (by have hc : ((0) : Int32).toInt = 0 := (by decide); omega), List.forall_mem_cons.mpr ⟨hd_p3 b79 b82 h1, List.forall_mem_cons.mpr ⟨hd_p2 b83 rfl (by have hc : ((0) : Int32).toInt = 0 := (by decide); omega), fun _ h => absurd h List.not_mem_nil⟩⟩⟩, ?_⟩
  refine k _ ?_
  · exact fun j hj _ => (hd_keep hB' (Nat.lt_of_lt_of_le hj (by decide +kernel)) (by simp)).trans (hF j (Nat.lt_of_lt_of_le hj (by decide)))
theorem j1su_0_p3 {Ls : Nat} {xs : Nat → Int32} {d : Nat} {Q : Option Value → jm_h → Prop} (hd : 2 ≤ d) (F : Nat → sy_d) (X1 X2 : List jm_c) (hB : iv_in F iv_B0)
    (h0 : 0 ≤ (sy_i F 82).toInt)
    (h1 : (sy_i F 82).toInt ≤ (sy_i F 79).toInt)
    (h2 : 0 ≤ (sy_i F 83).toInt)
    (h3 : ((sy_i F 82) - ((1 : Int32))).toInt < (sy_i F 83).toInt)
    (k : ∀ F1 : Nat → sy_d, (∀ j, j < 82 → True → F1 j = F j) → Q (some (.int (((-1) : Int32)))) (sy_dh F1 X1 X2 (iv_H 1))) :
    hd_W Ls xs d jm_M111 Q (0, sy_dL F [some (.inl (.ref 8)), some (.inr (.inl 82)), some (.inr (.inl 83)), none], sy_dS F [], sy_dh F X1 X2 (iv_H 1), 0, 0) := by
  refine hd_ret (s := 1) (nv := 84) (v := some (.inl (.int (-1)))) (uh := hd_ov (iv_id 0 iv_B0) []) (f := true) (sp := [37]) (d0 := 1) (O := [false, false, false, true]) (T := [(1, [.inr (.inl 82), .inl (.int 1)], [])]) (P := [(3, .inr (.inl 82), .inl (.int 0)), (3, .inr (.inl 79), .inr (.inl 82)), (3, .inr (.inl 83), .inl (.int 0)), (2, .inr (.inl 84), .inr (.inl 83))]) jm_ok111 (by decide +kernel) (by decide +kernel) hd F X1 X2 (fun F' hF hs => ?_)
  have b82 := hd_b (F := F) (F' := F') (k := 82) (hF 82 (by decide))
  have b79 := hd_b (F := F) (F' := F') (k := 79) (hF 79 (by decide))
  have b83 := hd_b (F := F) (F' := F') (k := 83) (hF 83 (by decide))
  have t84 : sy_dv F' (.inr (.inl 84)) = .int ((sy_i F 82) - ((1 : Int32))) := hd_o (hs 0 _ rfl) b82 rfl rfl
  have hB' : iv_in F' iv_B0 := iv_in_eq hB (fun j hj => hF j (Nat.lt_of_lt_of_le hj (by decide +kernel)))
  refine ⟨List.forall_mem_cons.mpr ⟨hd_p3 b82 rfl (by have hc : ((0) : Int32).toInt = 0 := (by decide); omega), List.forall_mem_cons.mpr ⟨hd_p3 b79 b82 h1, List.forall_mem_cons.mpr ⟨hd_p3 b83 rfl (by have hc : ((0) : Int32).toInt = 0 := (by decide); omega), List.forall_mem_cons.mpr ⟨hd_p2 t84 b83 h3, fun _ h => absurd h List.not_mem_nil⟩⟩⟩⟩, ?_⟩
  refine k _ ?_
  · exact fun j hj _ => (hd_keep hB' (Nat.lt_of_lt_of_le hj (by decide +kernel)) (by simp)).trans (hF j (Nat.lt_of_lt_of_le hj (by decide)))
theorem j1su_0_p4 {Ls : Nat} {xs : Nat → Int32} {d : Nat} {Q : Option Value → jm_h → Prop} (hd : 2 ≤ d) (F : Nat → sy_d) (X1 X2 : List jm_c) (hB : iv_in F iv_B0)
    (h0 : 0 ≤ (sy_i F 82).toInt)
    (h1 : (sy_i F 82).toInt ≤ (sy_i F 79).toInt)
    (h2 : 0 ≤ (sy_i F 83).toInt)
    (h3 : (sy_i F 83).toInt ≤ ((sy_i F 82) - ((1 : Int32))).toInt)
    (k : ∀ F1 : Nat → sy_d, (∀ j, j < 82 → True → F1 j = F j) → F1 82 = .inl (.int (sy_i F 82)) → F1 83 = .inl (.int (sy_i F 83)) → hd_W Ls xs d jm_M111 Q (37, sy_dL F1 [some (.inl (.ref 8)), some (.inr (.inl 82)), some (.inr (.inl 83)), none], sy_dS F1 [.inr (.inl 82), .inl (.ref 10), .inl (.ref 70)], sy_dh F1 X1 X2 (iv_H 1), 0, 0)) :
    hd_W Ls xs d jm_M111 Q (0, sy_dL F [some (.inl (.ref 8)), some (.inr (.inl 82)), some (.inr (.inl 83)), none], sy_dS F [], sy_dh F X1 X2 (iv_H 1), 0, 0) := by
  refine hd_run (s := 1) (nv := 84) (pc := 37) (L := [some (.inl (.ref 8)), some (.inr (.inl 82)), some (.inr (.inl 83)), none]) (S := [.inr (.inl 82), .inl (.ref 10), .inl (.ref 70)]) (uh := hd_ov (iv_id 0 iv_B0) []) (ul := [.inl (.inr (.inl 82)), .inl (.inr (.inl 83))]) (f := true) (sp := [37]) (d0 := 1) (O := [false, false, false, false]) (T := [(1, [.inr (.inl 82), .inl (.int 1)], [])]) (P := [(3, .inr (.inl 82), .inl (.int 0)), (3, .inr (.inl 79), .inr (.inl 82)), (3, .inr (.inl 83), .inl (.int 0)), (3, .inr (.inl 84), .inr (.inl 83))]) jm_ok111 (by decide +kernel) (by decide +kernel) hd F X1 X2 (fun F' hF hs => ?_)
  have b82 := hd_b (F := F) (F' := F') (k := 82) (hF 82 (by decide))
  have b79 := hd_b (F := F) (F' := F') (k := 79) (hF 79 (by decide))
  have b83 := hd_b (F := F) (F' := F') (k := 83) (hF 83 (by decide))
  have t84 : sy_dv F' (.inr (.inl 84)) = .int ((sy_i F 82) - ((1 : Int32))) := hd_o (hs 0 _ rfl) b82 rfl rfl
  have hB' : iv_in F' iv_B0 := iv_in_eq hB (fun j hj => hF j (Nat.lt_of_lt_of_le hj (by decide +kernel)))
  refine ⟨List.forall_mem_cons.mpr ⟨hd_p3 b82 rfl (by have hc : ((0) : Int32).toInt = 0 := (by decide); omega), List.forall_mem_cons.mpr ⟨hd_p3 b79 b82 h1, List.forall_mem_cons.mpr ⟨hd_p3 b83 rfl (by have hc : ((0) : Int32).toInt = 0 := (by decide); omega), List.forall_mem_cons.mpr ⟨hd_p3 t84 b83 h3, fun _ h => absurd h List.not_mem_nil⟩⟩⟩⟩, ?_⟩
  refine k _ ?_ ?_ ?_
  · exact fun j hj _ => (hd_keep hB' (Nat.lt_of_lt_of_le hj (by decide +kernel)) (by simp)).trans (hF j (Nat.lt_of_lt_of_le hj (by decide)))
  · exact hd_gi (x := .inr (.inl 82)) (by decide +kernel) b82
  · exact hd_gi (x := .inr (.inl 83)) (by decide +kernel) b83
theorem j1su_0 {Ls : Nat} {xs : Nat → Int32} {d : Nat} {Q : Option Value → jm_h → Prop} (hd : 2 ≤ d) (F : Nat → sy_d) (X1 X2 : List jm_c) (hB : iv_in F iv_B0)
    (k0 : (sy_i F 82).toInt < 0 → ∀ F1 : Nat → sy_d, iv_in F1 iv_B0 → (∀ j, j < 82 → j ∉ ([] : List Nat) → F1 j = F j) → Q (some (.int (((-1) : Int32)))) (sy_dh F1 X1 X2 (iv_H 1)))
    (k1 : 0 ≤ (sy_i F 82).toInt → (sy_i F 79).toInt < (sy_i F 82).toInt → ∀ F1 : Nat → sy_d, iv_in F1 iv_B0 → (∀ j, j < 82 → j ∉ ([] : List Nat) → F1 j = F j) → Q (some (.int (((-1) : Int32)))) (sy_dh F1 X1 X2 (iv_H 1)))
    (k2 : 0 ≤ (sy_i F 82).toInt → (sy_i F 82).toInt ≤ (sy_i F 79).toInt → (sy_i F 83).toInt < 0 → ∀ F1 : Nat → sy_d, iv_in F1 iv_B0 → (∀ j, j < 82 → j ∉ ([] : List Nat) → F1 j = F j) → Q (some (.int (((-1) : Int32)))) (sy_dh F1 X1 X2 (iv_H 1)))
    (k3 : 0 ≤ (sy_i F 82).toInt → (sy_i F 82).toInt ≤ (sy_i F 79).toInt → 0 ≤ (sy_i F 83).toInt → ((sy_i F 82).toInt - 1) < (sy_i F 83).toInt → ∀ F1 : Nat → sy_d, iv_in F1 iv_B0 → (∀ j, j < 82 → j ∉ ([] : List Nat) → F1 j = F j) → Q (some (.int (((-1) : Int32)))) (sy_dh F1 X1 X2 (iv_H 1)))
    (k4 : 0 ≤ (sy_i F 82).toInt → (sy_i F 82).toInt ≤ (sy_i F 79).toInt → 0 ≤ (sy_i F 83).toInt → (sy_i F 83).toInt ≤ ((sy_i F 82).toInt - 1) → ∀ F1 : Nat → sy_d, iv_in F1 iv_B0 → (∀ j, j < 82 → j ∉ ([] : List Nat) → F1 j = F j) → (sy_i F1 82).toInt = (sy_i F 82).toInt → sy_i F1 82 = sy_i F 82 → (sy_i F1 83).toInt = (sy_i F 83).toInt → sy_i F1 83 = sy_i F 83 → hd_W Ls xs d jm_M111 Q (37, sy_dL F1 [some (.inl (.ref 8)), some (.inr (.inl 82)), some (.inr (.inl 83)), none], sy_dS F1 [.inr (.inl 82), .inl (.ref 10), .inl (.ref 70)], sy_dh F1 X1 X2 (iv_H 1), 0, 0)) :
    hd_W Ls xs d jm_M111 Q (0, sy_dL F [some (.inl (.ref 8)), some (.inr (.inl 82)), some (.inr (.inl 83)), none], sy_dS F [], sy_dh F X1 X2 (iv_H 1), 0, 0) := by
  by_cases g0 : (sy_i F 82).toInt < 0
  · exact j1su_0_p0 hd F X1 X2 hB (by first | exact g0 | (simp only [nz_c]; exact g0)) (fun F1 g  => k0 g0 F1 (nz_in0 hB [] (fun j hj hn => g j hj (by simp only [List.mem_cons, List.not_mem_nil, or_false, not_or] at hn; exact trivial)) (List.forall_mem_nil _)) (fun j hj hn => g j hj (by simp only [List.mem_cons, List.not_mem_nil, or_false, not_or] at hn; exact trivial)) )
  replace g0 : 0 ≤ (sy_i F 82).toInt := by omega
  by_cases g1 : (sy_i F 79).toInt < (sy_i F 82).toInt
  · have c79 := nz_bx hB (k := 79) (lo := 0) (hi := 7) rfl
    exact j1su_0_p1 hd F X1 X2 hB (by first | exact g0 | (simp only [nz_c]; exact g0)) (by first | exact g1 | (simp only [nz_c]; exact g1)) (fun F1 g  => k1 g0 g1 F1 (nz_in0 hB [] (fun j hj hn => g j hj (by simp only [List.mem_cons, List.not_mem_nil, or_false, not_or] at hn; exact trivial)) (List.forall_mem_nil _)) (fun j hj hn => g j hj (by simp only [List.mem_cons, List.not_mem_nil, or_false, not_or] at hn; exact trivial)) )
  replace g1 : (sy_i F 82).toInt ≤ (sy_i F 79).toInt := by omega
  by_cases g2 : (sy_i F 83).toInt < 0
  · have c79 := nz_bx hB (k := 79) (lo := 0) (hi := 7) rfl
    exact j1su_0_p2 hd F X1 X2 hB (by first | exact g0 | (simp only [nz_c]; exact g0)) (by first | exact g1 | (simp only [nz_c]; exact g1)) (by first | exact g2 | (simp only [nz_c]; exact g2)) (fun F1 g  => k2 g0 g1 g2 F1 (nz_in0 hB [] (fun j hj hn => g j hj (by simp only [List.mem_cons, List.not_mem_nil, or_false, not_or] at hn; exact trivial)) (List.forall_mem_nil _)) (fun j hj hn => g j hj (by simp only [List.mem_cons, List.not_mem_nil, or_false, not_or] at hn; exact trivial)) )
  replace g2 : 0 ≤ (sy_i F 83).toInt := by omega
  by_cases g3 : ((sy_i F 82).toInt - 1) < (sy_i F 83).toInt
  · have c79 := nz_bx hB (k := 79) (lo := 0) (hi := 7) rfl
    have n84 : nzI ((sy_i F 82) - ((1 : Int32))) (((sy_i F 82).toInt - 1)) := nz_sub (rfl : (sy_i F 82).toInt = (sy_i F 82).toInt) (by decide : ((1 : Int32)).toInt = 1) (by omega) (by omega)
    exact j1su_0_p3 hd F X1 X2 hB (by first | exact g0 | (simp only [nz_c]; exact g0)) (by first | exact g1 | (simp only [nz_c]; exact g1)) (by first | exact g2 | (simp only [nz_c]; exact g2)) (by first | (simp only [nz_c, (nzE n84)]; exact g3) | exact g3 | (rw [(nzE n84)]; exact g3)) (fun F1 g  => k3 g0 g1 g2 g3 F1 (nz_in0 hB [] (fun j hj hn => g j hj (by simp only [List.mem_cons, List.not_mem_nil, or_false, not_or] at hn; exact trivial)) (List.forall_mem_nil _)) (fun j hj hn => g j hj (by simp only [List.mem_cons, List.not_mem_nil, or_false, not_or] at hn; exact trivial)) )
  replace g3 : (sy_i F 83).toInt ≤ ((sy_i F 82).toInt - 1) := by omega
  have c79 := nz_bx hB (k := 79) (lo := 0) (hi := 7) rfl
  have n84 : nzI ((sy_i F 82) - ((1 : Int32))) (((sy_i F 82).toInt - 1)) := nz_sub (rfl : (sy_i F 82).toInt = (sy_i F 82).toInt) (by decide : ((1 : Int32)).toInt = 1) (by omega) (by omega)
  exact j1su_0_p4 hd F X1 X2 hB (by first | exact g0 | (simp only [nz_c]; exact g0)) (by first | exact g1 | (simp only [nz_c]; exact g1)) (by first | exact g2 | (simp only [nz_c]; exact g2)) (by first | (simp only [nz_c, (nzE n84)]; exact g3) | exact g3 | (rw [(nzE n84)]; exact g3)) (fun F1 g e82 e83 => k4 g0 g1 g2 g3 F1 (nz_in0 hB [] (fun j hj hn => g j hj (by simp only [List.mem_cons, List.not_mem_nil, or_false, not_or] at hn; exact trivial)) (List.forall_mem_nil _)) (fun j hj hn => g j hj (by simp only [List.mem_cons, List.not_mem_nil, or_false, not_or] at hn; exact trivial)) ((congrArg Int32.toInt (zz_i e82)).trans (rfl : (sy_i F 82).toInt = (sy_i F 82).toInt)) ((zz_i e82).trans (rfl : sy_i F 82 = sy_i F 82)) ((congrArg Int32.toInt (zz_i e83)).trans (rfl : (sy_i F 83).toInt = (sy_i F 83).toInt)) ((zz_i e83).trans (rfl : sy_i F 83 = sy_i F 83)))
theorem j1su_40_p0 {Ls : Nat} {xs : Nat → Int32} {d : Nat} {Q : Option Value → jm_h → Prop} (hd : 1 ≤ d) (F : Nat → sy_d) (X1 X2 : List jm_c) (hB : iv_in F iv_B0)
    (h0 : (sy_i F 84).toInt ≤ 0)
    (k : ∀ F1 : Nat → sy_d, (∀ j, j < 82 → True → F1 j = F j) → Q (some (.int (((-2) : Int32)))) (sy_dh F1 X1 X2 (iv_H 1))) :
    hd_W Ls xs d jm_M111 Q (40, sy_dL F [some (.inl (.ref 8)), some (.inr (.inl 82)), some (.inr (.inl 83)), none], sy_dS F [.inr (.inl 84)], sy_dh F X1 X2 (iv_H 1), 0, 0) := by
  refine hd_ret (s := 1) (nv := 85) (v := some (.inl (.int (-2)))) (uh := hd_ov (iv_id 0 iv_B0) []) (f := false) (sp := [52]) (d0 := 0) (O := [true]) (T := []) (P := [(4, .inr (.inl 84), .inl (.int 0))]) jm_ok111 (by decide +kernel) (by decide +kernel) hd F X1 X2 (fun F' hF hs => ?_)
  have b84 := hd_b (F := F) (F' := F') (k := 84) (hF 84 (by decide))
  have hB' : iv_in F' iv_B0 := iv_in_eq hB (fun j hj => hF j (Nat.lt_of_lt_of_le hj (by decide +kernel)))
  refine ⟨List.forall_mem_cons.mpr ⟨hd_p4 b84 rfl (by have hc : ((0) : Int32).toInt = 0 := (by decide); omega), fun _ h => absurd h List.not_mem_nil⟩, ?_⟩
  refine k _ ?_
  · exact fun j hj _ => (hd_keep hB' (Nat.lt_of_lt_of_le hj (by decide +kernel)) (by simp)).trans (hF j (Nat.lt_of_lt_of_le hj (by decide)))
theorem j1su_40_p1 {Ls : Nat} {xs : Nat → Int32} {d : Nat} {Q : Option Value → jm_h → Prop} (hd : 1 ≤ d) (F : Nat → sy_d) (X1 X2 : List jm_c) (hB : iv_in F iv_B0)
    (h0 : 0 < (sy_i F 84).toInt)
    (k : ∀ F1 : Nat → sy_d, (∀ j, j < 82 → True → F1 j = F j) → F1 82 = .inl (.int (sy_i F 83)) → hd_W Ls xs d jm_M111 Q (52, sy_dL F1 [some (.inl (.ref 8)), none, some (.inr (.inl 82)), none], sy_dS F1 [.inr (.inl 82), .inl (.ref 10), .inl (.ref 70)], sy_dh F1 X1 X2 (iv_H 1), 0, 0)) :
    hd_W Ls xs d jm_M111 Q (40, sy_dL F [some (.inl (.ref 8)), some (.inr (.inl 82)), some (.inr (.inl 83)), none], sy_dS F [.inr (.inl 84)], sy_dh F X1 X2 (iv_H 1), 0, 0) := by
  refine hd_run (s := 1) (nv := 85) (pc := 52) (L := [some (.inl (.ref 8)), none, some (.inr (.inl 82)), none]) (S := [.inr (.inl 82), .inl (.ref 10), .inl (.ref 70)]) (uh := hd_ov (iv_id 0 iv_B0) []) (ul := [.inl (.inr (.inl 83))]) (f := false) (sp := [52]) (d0 := 0) (O := [false]) (T := []) (P := [(5, .inr (.inl 84), .inl (.int 0))]) jm_ok111 (by decide +kernel) (by decide +kernel) hd F X1 X2 (fun F' hF hs => ?_)
  have b84 := hd_b (F := F) (F' := F') (k := 84) (hF 84 (by decide))
  have b83 := hd_b (F := F) (F' := F') (k := 83) (hF 83 (by decide))
  have hB' : iv_in F' iv_B0 := iv_in_eq hB (fun j hj => hF j (Nat.lt_of_lt_of_le hj (by decide +kernel)))
  refine ⟨List.forall_mem_cons.mpr ⟨hd_p5 b84 rfl (by have hc : ((0) : Int32).toInt = 0 := (by decide); omega), fun _ h => absurd h List.not_mem_nil⟩, ?_⟩
  refine k _ ?_ ?_
  · exact fun j hj _ => (hd_keep hB' (Nat.lt_of_lt_of_le hj (by decide +kernel)) (by simp)).trans (hF j (Nat.lt_of_lt_of_le hj (by decide)))
  · exact hd_gi (x := .inr (.inl 83)) (by decide +kernel) b83
theorem j1su_40 {Ls : Nat} {xs : Nat → Int32} {d : Nat} {Q : Option Value → jm_h → Prop} (hd : 1 ≤ d) (F : Nat → sy_d) (X1 X2 : List jm_c) (hB : iv_in F iv_B0)
    (k0 : (sy_i F 84).toInt ≤ 0 → ∀ F1 : Nat → sy_d, iv_in F1 iv_B0 → (∀ j, j < 82 → j ∉ ([] : List Nat) → F1 j = F j) → Q (some (.int (((-2) : Int32)))) (sy_dh F1 X1 X2 (iv_H 1)))
    (k1 : 0 < (sy_i F 84).toInt → ∀ F1 : Nat → sy_d, iv_in F1 iv_B0 → (∀ j, j < 82 → j ∉ ([] : List Nat) → F1 j = F j) → (sy_i F1 82).toInt = (sy_i F 83).toInt → sy_i F1 82 = sy_i F 83 → hd_W Ls xs d jm_M111 Q (52, sy_dL F1 [some (.inl (.ref 8)), none, some (.inr (.inl 82)), none], sy_dS F1 [.inr (.inl 82), .inl (.ref 10), .inl (.ref 70)], sy_dh F1 X1 X2 (iv_H 1), 0, 0)) :
    hd_W Ls xs d jm_M111 Q (40, sy_dL F [some (.inl (.ref 8)), some (.inr (.inl 82)), some (.inr (.inl 83)), none], sy_dS F [.inr (.inl 84)], sy_dh F X1 X2 (iv_H 1), 0, 0) := by
  by_cases g0 : (sy_i F 84).toInt ≤ 0
  · exact j1su_40_p0 hd F X1 X2 hB (by first | exact g0 | (simp only [nz_c]; exact g0)) (fun F1 g  => k0 g0 F1 (nz_in0 hB [] (fun j hj hn => g j hj (by simp only [List.mem_cons, List.not_mem_nil, or_false, not_or] at hn; exact trivial)) (List.forall_mem_nil _)) (fun j hj hn => g j hj (by simp only [List.mem_cons, List.not_mem_nil, or_false, not_or] at hn; exact trivial)) )
  replace g0 : 0 < (sy_i F 84).toInt := by omega
  exact j1su_40_p1 hd F X1 X2 hB (by first | exact g0 | (simp only [nz_c]; exact g0)) (fun F1 g e82 => k1 g0 F1 (nz_in0 hB [] (fun j hj hn => g j hj (by simp only [List.mem_cons, List.not_mem_nil, or_false, not_or] at hn; exact trivial)) (List.forall_mem_nil _)) (fun j hj hn => g j hj (by simp only [List.mem_cons, List.not_mem_nil, or_false, not_or] at hn; exact trivial)) ((congrArg Int32.toInt (zz_i e82)).trans (rfl : (sy_i F 83).toInt = (sy_i F 83).toInt)) ((zz_i e82).trans (rfl : sy_i F 83 = sy_i F 83)))
theorem j1su_55_p0 {Ls : Nat} {xs : Nat → Int32} {d : Nat} {Q : Option Value → jm_h → Prop} (hd : 1 ≤ d) (F : Nat → sy_d) (X1 X2 : List jm_c) (hB : iv_in F iv_B0)
    (h0 : (sy_i F 83).toInt ≠ 1)
    (k : ∀ F1 : Nat → sy_d, (∀ j, j < 82 → True → F1 j = F j) → Q (some (.int (((-2) : Int32)))) (sy_dh F1 X1 X2 (iv_H 1))) :
    hd_W Ls xs d jm_M111 Q (55, sy_dL F [some (.inl (.ref 8)), none, some (.inr (.inl 82)), none], sy_dS F [.inr (.inl 83)], sy_dh F X1 X2 (iv_H 1), 0, 0) := by
  refine hd_ret (s := 1) (nv := 84) (v := some (.inl (.int (-2)))) (uh := hd_ov (iv_id 0 iv_B0) []) (f := false) (sp := [78]) (d0 := 0) (O := [true]) (T := []) (P := [(1, .inr (.inl 83), .inl (.int 1))]) jm_ok111 (by decide +kernel) (by decide +kernel) hd F X1 X2 (fun F' hF hs => ?_)
  have b83 := hd_b (F := F) (F' := F') (k := 83) (hF 83 (by decide))
  have hB' : iv_in F' iv_B0 := iv_in_eq hB (fun j hj => hF j (Nat.lt_of_lt_of_le hj (by decide +kernel)))
  refine ⟨List.forall_mem_cons.mpr ⟨hd_p1 b83 rfl (by have hc : ((1) : Int32).toInt = 1 := (by decide); omega), fun _ h => absurd h List.not_mem_nil⟩, ?_⟩
  refine k _ ?_
  · exact fun j hj _ => (hd_keep hB' (Nat.lt_of_lt_of_le hj (by decide +kernel)) (by simp)).trans (hF j (Nat.lt_of_lt_of_le hj (by decide)))
theorem j1su_55_p1 {Ls : Nat} {xs : Nat → Int32} {d : Nat} {Q : Option Value → jm_h → Prop} (hd : 1 ≤ d) (F : Nat → sy_d) (X1 X2 : List jm_c) (hB : iv_in F iv_B0)
    (h0 : (sy_i F 83).toInt = 1)
    (k : ∀ F1 : Nat → sy_d, (∀ j, j < 82 → True → F1 j = F j) → F1 82 = .inl (.int (sy_i F 82)) → hd_W Ls xs d jm_M111 Q (78, sy_dL F1 [some (.inl (.ref 8)), none, none, none], sy_dS F1 [.inr (.inl 82), .inl (.ref 10), .inl (.ref 70)], sy_dh F1 X1 X2 (iv_H 1), 0, 0)) :
    hd_W Ls xs d jm_M111 Q (55, sy_dL F [some (.inl (.ref 8)), none, some (.inr (.inl 82)), none], sy_dS F [.inr (.inl 83)], sy_dh F X1 X2 (iv_H 1), 0, 0) := by
  refine hd_run (s := 1) (nv := 84) (pc := 78) (L := [some (.inl (.ref 8)), none, none, none]) (S := [.inr (.inl 82), .inl (.ref 10), .inl (.ref 70)]) (uh := hd_ov (iv_id 0 iv_B0) []) (ul := [.inl (.inr (.inl 82))]) (f := false) (sp := [78]) (d0 := 0) (O := [false]) (T := []) (P := [(0, .inr (.inl 83), .inl (.int 1))]) jm_ok111 (by decide +kernel) (by decide +kernel) hd F X1 X2 (fun F' hF hs => ?_)
  have b83 := hd_b (F := F) (F' := F') (k := 83) (hF 83 (by decide))
  have b82 := hd_b (F := F) (F' := F') (k := 82) (hF 82 (by decide))
  have hB' : iv_in F' iv_B0 := iv_in_eq hB (fun j hj => hF j (Nat.lt_of_lt_of_le hj (by decide +kernel)))
  refine ⟨List.forall_mem_cons.mpr ⟨hd_p0 b83 rfl (by have hc : ((1) : Int32).toInt = 1 := (by decide); omega), fun _ h => absurd h List.not_mem_nil⟩, ?_⟩
  refine k _ ?_ ?_
  · exact fun j hj _ => (hd_keep hB' (Nat.lt_of_lt_of_le hj (by decide +kernel)) (by simp)).trans (hF j (Nat.lt_of_lt_of_le hj (by decide)))
  · exact hd_gi (x := .inr (.inl 82)) (by decide +kernel) b82
theorem j1su_55 {Ls : Nat} {xs : Nat → Int32} {d : Nat} {Q : Option Value → jm_h → Prop} (hd : 1 ≤ d) (F : Nat → sy_d) (X1 X2 : List jm_c) (hB : iv_in F iv_B0)
    (k0 : (sy_i F 83).toInt ≠ 1 → ∀ F1 : Nat → sy_d, iv_in F1 iv_B0 → (∀ j, j < 82 → j ∉ ([] : List Nat) → F1 j = F j) → Q (some (.int (((-2) : Int32)))) (sy_dh F1 X1 X2 (iv_H 1)))
    (k1 : (sy_i F 83).toInt = 1 → ∀ F1 : Nat → sy_d, iv_in F1 iv_B0 → (∀ j, j < 82 → j ∉ ([] : List Nat) → F1 j = F j) → (sy_i F1 82).toInt = (sy_i F 82).toInt → sy_i F1 82 = sy_i F 82 → hd_W Ls xs d jm_M111 Q (78, sy_dL F1 [some (.inl (.ref 8)), none, none, none], sy_dS F1 [.inr (.inl 82), .inl (.ref 10), .inl (.ref 70)], sy_dh F1 X1 X2 (iv_H 1), 0, 0)) :
    hd_W Ls xs d jm_M111 Q (55, sy_dL F [some (.inl (.ref 8)), none, some (.inr (.inl 82)), none], sy_dS F [.inr (.inl 83)], sy_dh F X1 X2 (iv_H 1), 0, 0) := by
  by_cases g0 : (sy_i F 83).toInt ≠ 1
  · exact j1su_55_p0 hd F X1 X2 hB (by first | exact g0 | (simp only [nz_c]; exact g0)) (fun F1 g  => k0 g0 F1 (nz_in0 hB [] (fun j hj hn => g j hj (by simp only [List.mem_cons, List.not_mem_nil, or_false, not_or] at hn; exact trivial)) (List.forall_mem_nil _)) (fun j hj hn => g j hj (by simp only [List.mem_cons, List.not_mem_nil, or_false, not_or] at hn; exact trivial)) )
  replace g0 : (sy_i F 83).toInt = 1 := by omega
  exact j1su_55_p1 hd F X1 X2 hB (by first | exact g0 | (simp only [nz_c]; exact g0)) (fun F1 g e82 => k1 g0 F1 (nz_in0 hB [] (fun j hj hn => g j hj (by simp only [List.mem_cons, List.not_mem_nil, or_false, not_or] at hn; exact trivial)) (List.forall_mem_nil _)) (fun j hj hn => g j hj (by simp only [List.mem_cons, List.not_mem_nil, or_false, not_or] at hn; exact trivial)) ((congrArg Int32.toInt (zz_i e82)).trans (rfl : (sy_i F 82).toInt = (sy_i F 82).toInt)) ((zz_i e82).trans (rfl : sy_i F 82 = sy_i F 82)))
theorem j1su_81_p0 {Ls : Nat} {xs : Nat → Int32} {d : Nat} {Q : Option Value → jm_h → Prop} (hd : 1 ≤ d) (F : Nat → sy_d) (X1 X2 : List jm_c) (hB : iv_in F iv_B0)
    (k : ∀ F1 : Nat → sy_d, (∀ j, j < 82 → True → F1 j = F j) → Q (some (.int (sy_i F 82))) (sy_dh F1 X1 X2 (iv_H 1))) :
    hd_W Ls xs d jm_M111 Q (81, sy_dL F [some (.inl (.ref 8)), none, none, none], sy_dS F [.inr (.inl 82)], sy_dh F X1 X2 (iv_H 1), 0, 0) := by
  refine hd_ret (s := 1) (nv := 83) (v := some (.inr (.inl 82))) (uh := hd_ov (iv_id 0 iv_B0) []) (f := false) (sp := []) (d0 := 0) (O := []) (T := []) (P := []) jm_ok111 (by decide +kernel) (by decide +kernel) hd F X1 X2 (fun F' hF hs => ?_)
  have b82 := hd_b (F := F) (F' := F') (k := 82) (hF 82 (by decide))
  have hB' : iv_in F' iv_B0 := iv_in_eq hB (fun j hj => hF j (Nat.lt_of_lt_of_le hj (by decide +kernel)))
  have hk := k (sy_cm F' (hd_ov (iv_id 0 iv_B0) [] ++ [])) (fun j hj _ => (hd_keep hB' (Nat.lt_of_lt_of_le hj (by decide +kernel)) (by simp)).trans (hF j (Nat.lt_of_lt_of_le hj (by decide))))
  refine ⟨fun _ h => absurd h List.not_mem_nil, ?_⟩
  show Q (some (sy_dv F' (.inr (.inl 82)))) _
  rw [b82]
  exact hk
theorem j1su_81 {Ls : Nat} {xs : Nat → Int32} {d : Nat} {Q : Option Value → jm_h → Prop} (hd : 1 ≤ d) (F : Nat → sy_d) (X1 X2 : List jm_c) (hB : iv_in F iv_B0)
    (k0 : ∀ F1 : Nat → sy_d, iv_in F1 iv_B0 → (∀ j, j < 82 → j ∉ ([] : List Nat) → F1 j = F j) → Q (some (.int (sy_i F 82))) (sy_dh F1 X1 X2 (iv_H 1))) :
    hd_W Ls xs d jm_M111 Q (81, sy_dL F [some (.inl (.ref 8)), none, none, none], sy_dS F [.inr (.inl 82)], sy_dh F X1 X2 (iv_H 1), 0, 0) := by
  exact j1su_81_p0 hd F X1 X2 hB  (fun F1 g  => by rw [(rfl : sy_i F 82 = sy_i F 82)]; exact k0 F1 (nz_in0 hB [] (fun j hj hn => g j hj (by simp only [List.mem_cons, List.not_mem_nil, or_false, not_or] at hn; exact trivial)) (List.forall_mem_nil _)) (fun j hj hn => g j hj (by simp only [List.mem_cons, List.not_mem_nil, or_false, not_or] at hn; exact trivial)) )
theorem j1as_0_p0 {Ls : Nat} {xs : Nat → Int32} {d : Nat} {Q : Option Value → jm_h → Prop} (hd : 2 ≤ d) (F : Nat → sy_d) (X1 X2 : List jm_c) (hB : iv_in F iv_B0)
    (h0 : (sy_i F 82).toInt < 0)
    (k : ∀ F1 : Nat → sy_d, (∀ j, j < 82 → True → F1 j = F j) → Q (some (.int (((-1) : Int32)))) (sy_dh F1 X1 X2 (iv_H 1))) :
    hd_W Ls xs d jm_M112 Q (0, sy_dL F [some (.inl (.ref 8)), some (.inr (.inl 82))], sy_dS F [], sy_dh F X1 X2 (iv_H 1), 0, 0) := by
  refine hd_ret (s := 1) (nv := 83) (v := some (.inl (.int (-1)))) (uh := hd_ov (iv_id 0 iv_B0) []) (f := true) (sp := [30]) (d0 := 1) (O := [true]) (T := []) (P := [(2, .inr (.inl 82), .inl (.int 0))]) jm_ok112 (by decide +kernel) (by decide +kernel) hd F X1 X2 (fun F' hF hs => ?_)
  have b82 := hd_b (F := F) (F' := F') (k := 82) (hF 82 (by decide))
  have hB' : iv_in F' iv_B0 := iv_in_eq hB (fun j hj => hF j (Nat.lt_of_lt_of_le hj (by decide +kernel)))
  refine ⟨List.forall_mem_cons.mpr ⟨hd_p2 b82 rfl (by have hc : ((0) : Int32).toInt = 0 := (by decide); omega), fun _ h => absurd h List.not_mem_nil⟩, ?_⟩
  refine k _ ?_
  · exact fun j hj _ => (hd_keep hB' (Nat.lt_of_lt_of_le hj (by decide +kernel)) (by simp)).trans (hF j (Nat.lt_of_lt_of_le hj (by decide)))
theorem j1as_0_p1 {Ls : Nat} {xs : Nat → Int32} {d : Nat} {Q : Option Value → jm_h → Prop} (hd : 2 ≤ d) (F : Nat → sy_d) (X1 X2 : List jm_c) (hB : iv_in F iv_B0)
    (h0 : 0 ≤ (sy_i F 82).toInt)
    (h1 : (sy_i F 79).toInt < (sy_i F 82).toInt)
    (k : ∀ F1 : Nat → sy_d, (∀ j, j < 82 → True → F1 j = F j) → Q (some (.int (((-1) : Int32)))) (sy_dh F1 X1 X2 (iv_H 1))) :
    hd_W Ls xs d jm_M112 Q (0, sy_dL F [some (.inl (.ref 8)), some (.inr (.inl 82))], sy_dS F [], sy_dh F X1 X2 (iv_H 1), 0, 0) := by
  refine hd_ret (s := 1) (nv := 83) (v := some (.inl (.int (-1)))) (uh := hd_ov (iv_id 0 iv_B0) []) (f := true) (sp := [30]) (d0 := 1) (O := [false, true]) (T := []) (P := [(3, .inr (.inl 82), .inl (.int 0)), (2, .inr (.inl 79), .inr (.inl 82))]) jm_ok112 (by decide +kernel) (by decide +kernel) hd F X1 X2 (fun F' hF hs => ?_)
  have b82 := hd_b (F := F) (F' := F') (k := 82) (hF 82 (by decide))
  have b79 := hd_b (F := F) (F' := F') (k := 79) (hF 79 (by decide))
  have hB' : iv_in F' iv_B0 := iv_in_eq hB (fun j hj => hF j (Nat.lt_of_lt_of_le hj (by decide +kernel)))
  refine ⟨List.forall_mem_cons.mpr ⟨hd_p3 b82 rfl (by have hc : ((0) : Int32).toInt = 0 := (by decide); omega), List.forall_mem_cons.mpr ⟨hd_p2 b79 b82 h1, fun _ h => absurd h List.not_mem_nil⟩⟩, ?_⟩
  refine k _ ?_
  · exact fun j hj _ => (hd_keep hB' (Nat.lt_of_lt_of_le hj (by decide +kernel)) (by simp)).trans (hF j (Nat.lt_of_lt_of_le hj (by decide)))
theorem j1as_0_p2 {Ls : Nat} {xs : Nat → Int32} {d : Nat} {Q : Option Value → jm_h → Prop} (hd : 2 ≤ d) (F : Nat → sy_d) (X1 X2 : List jm_c) (hB : iv_in F iv_B0)
    (h0 : 0 ≤ (sy_i F 82).toInt)
    (h1 : (sy_i F 82).toInt ≤ (sy_i F 79).toInt)
    (h2 : (sy_i F 82).toInt = 0)
    (k : ∀ F1 : Nat → sy_d, (∀ j, j < 82 → True → F1 j = F j) → Q (some (.int (((-2) : Int32)))) (sy_dh F1 X1 X2 (iv_H 1))) :
    hd_W Ls xs d jm_M112 Q (0, sy_dL F [some (.inl (.ref 8)), some (.inr (.inl 82))], sy_dS F [], sy_dh F X1 X2 (iv_H 1), 0, 0) := by
  refine hd_ret (s := 1) (nv := 83) (v := some (.inl (.int (-2)))) (uh := hd_ov (iv_id 0 iv_B0) []) (f := true) (sp := [30]) (d0 := 1) (O := [false, false, true]) (T := []) (P := [(3, .inr (.inl 82), .inl (.int 0)), (3, .inr (.inl 79), .inr (.inl 82)), (0, .inr (.inl 82), .inl (.int 0))]) jm_ok112 (by decide +kernel) (by decide +kernel) hd F X1 X2 (fun F' hF hs => ?_)
  have b82 := hd_b (F := F) (F' := F') (k := 82) (hF 82 (by decide))
  have b79 := hd_b (F := F) (F' := F') (k := 79) (hF 79 (by decide))
  have hB' : iv_in F' iv_B0 := iv_in_eq hB (fun j hj => hF j (Nat.lt_of_lt_of_le hj (by decide +kernel)))
  refine ⟨List.forall_mem_cons.mpr ⟨hd_p3 b82 rfl (by have hc : ((0) : Int32).toInt = 0 := (by decide); omega), List.forall_mem_cons.mpr ⟨hd_p3 b79 b82 h1, List.forall_mem_cons.mpr ⟨hd_p0 b82 rfl (by have hc : ((0) : Int32).toInt = 0 := (by decide); omega), fun _ h => absurd h List.not_mem_nil⟩⟩⟩, ?_⟩
  refine k _ ?_
  · exact fun j hj _ => (hd_keep hB' (Nat.lt_of_lt_of_le hj (by decide +kernel)) (by simp)).trans (hF j (Nat.lt_of_lt_of_le hj (by decide)))
theorem j1as_0_p3 {Ls : Nat} {xs : Nat → Int32} {d : Nat} {Q : Option Value → jm_h → Prop} (hd : 2 ≤ d) (F : Nat → sy_d) (X1 X2 : List jm_c) (hB : iv_in F iv_B0)
    (h0 : 0 ≤ (sy_i F 82).toInt)
    (h1 : (sy_i F 82).toInt ≤ (sy_i F 79).toInt)
    (h2 : (sy_i F 82).toInt ≠ 0)
    (k : ∀ F1 : Nat → sy_d, (∀ j, j < 82 → True → F1 j = F j) → F1 82 = .inl (.int (sy_i F 82)) → hd_W Ls xs d jm_M112 Q (30, sy_dL F1 [some (.inl (.ref 8)), some (.inr (.inl 82))], sy_dS F1 [.inr (.inl 82), .inl (.ref 10), .inl (.ref 70)], sy_dh F1 X1 X2 (iv_H 1), 0, 0)) :
    hd_W Ls xs d jm_M112 Q (0, sy_dL F [some (.inl (.ref 8)), some (.inr (.inl 82))], sy_dS F [], sy_dh F X1 X2 (iv_H 1), 0, 0) := by
  refine hd_run (s := 1) (nv := 83) (pc := 30) (L := [some (.inl (.ref 8)), some (.inr (.inl 82))]) (S := [.inr (.inl 82), .inl (.ref 10), .inl (.ref 70)]) (uh := hd_ov (iv_id 0 iv_B0) []) (ul := [.inl (.inr (.inl 82))]) (f := true) (sp := [30]) (d0 := 1) (O := [false, false, false]) (T := []) (P := [(3, .inr (.inl 82), .inl (.int 0)), (3, .inr (.inl 79), .inr (.inl 82)), (1, .inr (.inl 82), .inl (.int 0))]) jm_ok112 (by decide +kernel) (by decide +kernel) hd F X1 X2 (fun F' hF hs => ?_)
  have b82 := hd_b (F := F) (F' := F') (k := 82) (hF 82 (by decide))
  have b79 := hd_b (F := F) (F' := F') (k := 79) (hF 79 (by decide))
  have hB' : iv_in F' iv_B0 := iv_in_eq hB (fun j hj => hF j (Nat.lt_of_lt_of_le hj (by decide +kernel)))
  refine ⟨List.forall_mem_cons.mpr ⟨hd_p3 b82 rfl (by have hc : ((0) : Int32).toInt = 0 := (by decide); omega), List.forall_mem_cons.mpr ⟨hd_p3 b79 b82 h1, List.forall_mem_cons.mpr ⟨hd_p1 b82 rfl (by have hc : ((0) : Int32).toInt = 0 := (by decide); omega), fun _ h => absurd h List.not_mem_nil⟩⟩⟩, ?_⟩
  refine k _ ?_ ?_
  · exact fun j hj _ => (hd_keep hB' (Nat.lt_of_lt_of_le hj (by decide +kernel)) (by simp)).trans (hF j (Nat.lt_of_lt_of_le hj (by decide)))
  · exact hd_gi (x := .inr (.inl 82)) (by decide +kernel) b82
theorem j1as_0 {Ls : Nat} {xs : Nat → Int32} {d : Nat} {Q : Option Value → jm_h → Prop} (hd : 2 ≤ d) (F : Nat → sy_d) (X1 X2 : List jm_c) (hB : iv_in F iv_B0)
    (k0 : (sy_i F 82).toInt < 0 → ∀ F1 : Nat → sy_d, iv_in F1 iv_B0 → (∀ j, j < 82 → j ∉ ([] : List Nat) → F1 j = F j) → Q (some (.int (((-1) : Int32)))) (sy_dh F1 X1 X2 (iv_H 1)))
    (k1 : 0 ≤ (sy_i F 82).toInt → (sy_i F 79).toInt < (sy_i F 82).toInt → ∀ F1 : Nat → sy_d, iv_in F1 iv_B0 → (∀ j, j < 82 → j ∉ ([] : List Nat) → F1 j = F j) → Q (some (.int (((-1) : Int32)))) (sy_dh F1 X1 X2 (iv_H 1)))
    (k2 : 0 ≤ (sy_i F 82).toInt → (sy_i F 82).toInt ≤ (sy_i F 79).toInt → (sy_i F 82).toInt = 0 → ∀ F1 : Nat → sy_d, iv_in F1 iv_B0 → (∀ j, j < 82 → j ∉ ([] : List Nat) → F1 j = F j) → Q (some (.int (((-2) : Int32)))) (sy_dh F1 X1 X2 (iv_H 1)))
    (k3 : 0 ≤ (sy_i F 82).toInt → (sy_i F 82).toInt ≤ (sy_i F 79).toInt → (sy_i F 82).toInt ≠ 0 → ∀ F1 : Nat → sy_d, iv_in F1 iv_B0 → (∀ j, j < 82 → j ∉ ([] : List Nat) → F1 j = F j) → (sy_i F1 82).toInt = (sy_i F 82).toInt → sy_i F1 82 = sy_i F 82 → hd_W Ls xs d jm_M112 Q (30, sy_dL F1 [some (.inl (.ref 8)), some (.inr (.inl 82))], sy_dS F1 [.inr (.inl 82), .inl (.ref 10), .inl (.ref 70)], sy_dh F1 X1 X2 (iv_H 1), 0, 0)) :
    hd_W Ls xs d jm_M112 Q (0, sy_dL F [some (.inl (.ref 8)), some (.inr (.inl 82))], sy_dS F [], sy_dh F X1 X2 (iv_H 1), 0, 0) := by
  by_cases g0 : (sy_i F 82).toInt < 0
  · exact j1as_0_p0 hd F X1 X2 hB (by first | exact g0 | (simp only [nz_c]; exact g0)) (fun F1 g  => k0 g0 F1 (nz_in0 hB [] (fun j hj hn => g j hj (by simp only [List.mem_cons, List.not_mem_nil, or_false, not_or] at hn; exact trivial)) (List.forall_mem_nil _)) (fun j hj hn => g j hj (by simp only [List.mem_cons, List.not_mem_nil, or_false, not_or] at hn; exact trivial)) )
  replace g0 : 0 ≤ (sy_i F 82).toInt := by omega
  by_cases g1 : (sy_i F 79).toInt < (sy_i F 82).toInt
  · have c79 := nz_bx hB (k := 79) (lo := 0) (hi := 7) rfl
    exact j1as_0_p1 hd F X1 X2 hB (by first | exact g0 | (simp only [nz_c]; exact g0)) (by first | exact g1 | (simp only [nz_c]; exact g1)) (fun F1 g  => k1 g0 g1 F1 (nz_in0 hB [] (fun j hj hn => g j hj (by simp only [List.mem_cons, List.not_mem_nil, or_false, not_or] at hn; exact trivial)) (List.forall_mem_nil _)) (fun j hj hn => g j hj (by simp only [List.mem_cons, List.not_mem_nil, or_false, not_or] at hn; exact trivial)) )
  replace g1 : (sy_i F 82).toInt ≤ (sy_i F 79).toInt := by omega
  by_cases g2 : (sy_i F 82).toInt = 0
  · have c79 := nz_bx hB (k := 79) (lo := 0) (hi := 7) rfl
    exact j1as_0_p2 hd F X1 X2 hB (by first | exact g0 | (simp only [nz_c]; exact g0)) (by first | exact g1 | (simp only [nz_c]; exact g1)) (by first | exact g2 | (simp only [nz_c]; exact g2)) (fun F1 g  => k2 g0 g1 g2 F1 (nz_in0 hB [] (fun j hj hn => g j hj (by simp only [List.mem_cons, List.not_mem_nil, or_false, not_or] at hn; exact trivial)) (List.forall_mem_nil _)) (fun j hj hn => g j hj (by simp only [List.mem_cons, List.not_mem_nil, or_false, not_or] at hn; exact trivial)) )
  replace g2 : (sy_i F 82).toInt ≠ 0 := by omega
  have c79 := nz_bx hB (k := 79) (lo := 0) (hi := 7) rfl
  exact j1as_0_p3 hd F X1 X2 hB (by first | exact g0 | (simp only [nz_c]; exact g0)) (by first | exact g1 | (simp only [nz_c]; exact g1)) (by first | exact g2 | (simp only [nz_c]; exact g2)) (fun F1 g e82 => k3 g0 g1 g2 F1 (nz_in0 hB [] (fun j hj hn => g j hj (by simp only [List.mem_cons, List.not_mem_nil, or_false, not_or] at hn; exact trivial)) (List.forall_mem_nil _)) (fun j hj hn => g j hj (by simp only [List.mem_cons, List.not_mem_nil, or_false, not_or] at hn; exact trivial)) ((congrArg Int32.toInt (zz_i e82)).trans (rfl : (sy_i F 82).toInt = (sy_i F 82).toInt)) ((zz_i e82).trans (rfl : sy_i F 82 = sy_i F 82)))
theorem j1as_33_p0 {Ls : Nat} {xs : Nat → Int32} {d : Nat} {Q : Option Value → jm_h → Prop} (hd : 1 ≤ d) (F : Nat → sy_d) (X1 X2 : List jm_c) (hB : iv_in F iv_B0)
    (h0 : (sy_i F 83).toInt ≠ 0)
    (k : ∀ F1 : Nat → sy_d, (∀ j, j < 82 → True → F1 j = F j) → F1 82 = .inl (.int (sy_i F 82)) → hd_W Ls xs d jm_M112 Q (48, sy_dL F1 [some (.inl (.ref 8)), none], sy_dS F1 [.inr (.inl 82), .inl (.ref 10), .inl (.ref 70)], sy_dh F1 X1 X2 (iv_H 1), 0, 0)) :
    hd_W Ls xs d jm_M112 Q (33, sy_dL F [some (.inl (.ref 8)), some (.inr (.inl 82))], sy_dS F [.inr (.inl 83)], sy_dh F X1 X2 (iv_H 1), 0, 0) := by
  refine hd_run (s := 1) (nv := 84) (pc := 48) (L := [some (.inl (.ref 8)), none]) (S := [.inr (.inl 82), .inl (.ref 10), .inl (.ref 70)]) (uh := hd_ov (iv_id 0 iv_B0) []) (ul := [.inl (.inr (.inl 82))]) (f := false) (sp := [48]) (d0 := 0) (O := [true]) (T := []) (P := [(1, .inr (.inl 83), .inl (.int 0))]) jm_ok112 (by decide +kernel) (by decide +kernel) hd F X1 X2 (fun F' hF hs => ?_)
  have b83 := hd_b (F := F) (F' := F') (k := 83) (hF 83 (by decide))
  have b82 := hd_b (F := F) (F' := F') (k := 82) (hF 82 (by decide))
  have hB' : iv_in F' iv_B0 := iv_in_eq hB (fun j hj => hF j (Nat.lt_of_lt_of_le hj (by decide +kernel)))
  refine ⟨List.forall_mem_cons.mpr ⟨hd_p1 b83 rfl (by have hc : ((0) : Int32).toInt = 0 := (by decide); omega), fun _ h => absurd h List.not_mem_nil⟩, ?_⟩
  refine k _ ?_ ?_
  · exact fun j hj _ => (hd_keep hB' (Nat.lt_of_lt_of_le hj (by decide +kernel)) (by simp)).trans (hF j (Nat.lt_of_lt_of_le hj (by decide)))
  · exact hd_gi (x := .inr (.inl 82)) (by decide +kernel) b82
theorem j1as_33_p1 {Ls : Nat} {xs : Nat → Int32} {d : Nat} {Q : Option Value → jm_h → Prop} (hd : 1 ≤ d) (F : Nat → sy_d) (X1 X2 : List jm_c) (hB : iv_in F iv_B0)
    (h0 : (sy_i F 83).toInt = 0)
    (k : ∀ F1 : Nat → sy_d, (∀ j, j < 82 → True → F1 j = F j) → Q (some (.int (((-2) : Int32)))) (sy_dh F1 X1 X2 (iv_H 1))) :
    hd_W Ls xs d jm_M112 Q (33, sy_dL F [some (.inl (.ref 8)), some (.inr (.inl 82))], sy_dS F [.inr (.inl 83)], sy_dh F X1 X2 (iv_H 1), 0, 0) := by
  refine hd_ret (s := 1) (nv := 84) (v := some (.inl (.int (-2)))) (uh := hd_ov (iv_id 0 iv_B0) []) (f := false) (sp := [48]) (d0 := 0) (O := [false]) (T := []) (P := [(0, .inr (.inl 83), .inl (.int 0))]) jm_ok112 (by decide +kernel) (by decide +kernel) hd F X1 X2 (fun F' hF hs => ?_)
  have b83 := hd_b (F := F) (F' := F') (k := 83) (hF 83 (by decide))
  have hB' : iv_in F' iv_B0 := iv_in_eq hB (fun j hj => hF j (Nat.lt_of_lt_of_le hj (by decide +kernel)))
  refine ⟨List.forall_mem_cons.mpr ⟨hd_p0 b83 rfl (by have hc : ((0) : Int32).toInt = 0 := (by decide); omega), fun _ h => absurd h List.not_mem_nil⟩, ?_⟩
  refine k _ ?_
  · exact fun j hj _ => (hd_keep hB' (Nat.lt_of_lt_of_le hj (by decide +kernel)) (by simp)).trans (hF j (Nat.lt_of_lt_of_le hj (by decide)))
theorem j1as_33 {Ls : Nat} {xs : Nat → Int32} {d : Nat} {Q : Option Value → jm_h → Prop} (hd : 1 ≤ d) (F : Nat → sy_d) (X1 X2 : List jm_c) (hB : iv_in F iv_B0)
    (k0 : (sy_i F 83).toInt ≠ 0 → ∀ F1 : Nat → sy_d, iv_in F1 iv_B0 → (∀ j, j < 82 → j ∉ ([] : List Nat) → F1 j = F j) → (sy_i F1 82).toInt = (sy_i F 82).toInt → sy_i F1 82 = sy_i F 82 → hd_W Ls xs d jm_M112 Q (48, sy_dL F1 [some (.inl (.ref 8)), none], sy_dS F1 [.inr (.inl 82), .inl (.ref 10), .inl (.ref 70)], sy_dh F1 X1 X2 (iv_H 1), 0, 0))
    (k1 : (sy_i F 83).toInt = 0 → ∀ F1 : Nat → sy_d, iv_in F1 iv_B0 → (∀ j, j < 82 → j ∉ ([] : List Nat) → F1 j = F j) → Q (some (.int (((-2) : Int32)))) (sy_dh F1 X1 X2 (iv_H 1))) :
    hd_W Ls xs d jm_M112 Q (33, sy_dL F [some (.inl (.ref 8)), some (.inr (.inl 82))], sy_dS F [.inr (.inl 83)], sy_dh F X1 X2 (iv_H 1), 0, 0) := by
  by_cases g0 : (sy_i F 83).toInt ≠ 0
  · exact j1as_33_p0 hd F X1 X2 hB (by first | exact g0 | (simp only [nz_c]; exact g0)) (fun F1 g e82 => k0 g0 F1 (nz_in0 hB [] (fun j hj hn => g j hj (by simp only [List.mem_cons, List.not_mem_nil, or_false, not_or] at hn; exact trivial)) (List.forall_mem_nil _)) (fun j hj hn => g j hj (by simp only [List.mem_cons, List.not_mem_nil, or_false, not_or] at hn; exact trivial)) ((congrArg Int32.toInt (zz_i e82)).trans (rfl : (sy_i F 82).toInt = (sy_i F 82).toInt)) ((zz_i e82).trans (rfl : sy_i F 82 = sy_i F 82)))
  replace g0 : (sy_i F 83).toInt = 0 := by omega
  exact j1as_33_p1 hd F X1 X2 hB (by first | exact g0 | (simp only [nz_c]; exact g0)) (fun F1 g  => k1 g0 F1 (nz_in0 hB [] (fun j hj hn => g j hj (by simp only [List.mem_cons, List.not_mem_nil, or_false, not_or] at hn; exact trivial)) (List.forall_mem_nil _)) (fun j hj hn => g j hj (by simp only [List.mem_cons, List.not_mem_nil, or_false, not_or] at hn; exact trivial)) )
theorem j1as_51_p0 {Ls : Nat} {xs : Nat → Int32} {d : Nat} {Q : Option Value → jm_h → Prop} (hd : 1 ≤ d) (F : Nat → sy_d) (X1 X2 : List jm_c) (hB : iv_in F iv_B0)
    (k : ∀ F1 : Nat → sy_d, (∀ j, j < 82 → True → F1 j = F j) → Q (some (.int (sy_i F 82))) (sy_dh F1 X1 X2 (iv_H 1))) :
    hd_W Ls xs d jm_M112 Q (51, sy_dL F [some (.inl (.ref 8)), none], sy_dS F [.inr (.inl 82)], sy_dh F X1 X2 (iv_H 1), 0, 0) := by
  refine hd_ret (s := 1) (nv := 83) (v := some (.inr (.inl 82))) (uh := hd_ov (iv_id 0 iv_B0) []) (f := false) (sp := []) (d0 := 0) (O := []) (T := []) (P := []) jm_ok112 (by decide +kernel) (by decide +kernel) hd F X1 X2 (fun F' hF hs => ?_)
  have b82 := hd_b (F := F) (F' := F') (k := 82) (hF 82 (by decide))
  have hB' : iv_in F' iv_B0 := iv_in_eq hB (fun j hj => hF j (Nat.lt_of_lt_of_le hj (by decide +kernel)))
  have hk := k (sy_cm F' (hd_ov (iv_id 0 iv_B0) [] ++ [])) (fun j hj _ => (hd_keep hB' (Nat.lt_of_lt_of_le hj (by decide +kernel)) (by simp)).trans (hF j (Nat.lt_of_lt_of_le hj (by decide))))
  refine ⟨fun _ h => absurd h List.not_mem_nil, ?_⟩
  show Q (some (sy_dv F' (.inr (.inl 82)))) _
  rw [b82]
  exact hk
theorem j1as_51 {Ls : Nat} {xs : Nat → Int32} {d : Nat} {Q : Option Value → jm_h → Prop} (hd : 1 ≤ d) (F : Nat → sy_d) (X1 X2 : List jm_c) (hB : iv_in F iv_B0)
    (k0 : ∀ F1 : Nat → sy_d, iv_in F1 iv_B0 → (∀ j, j < 82 → j ∉ ([] : List Nat) → F1 j = F j) → Q (some (.int (sy_i F 82))) (sy_dh F1 X1 X2 (iv_H 1))) :
    hd_W Ls xs d jm_M112 Q (51, sy_dL F [some (.inl (.ref 8)), none], sy_dS F [.inr (.inl 82)], sy_dh F X1 X2 (iv_H 1), 0, 0) := by
  exact j1as_51_p0 hd F X1 X2 hB  (fun F1 g  => by rw [(rfl : sy_i F 82 = sy_i F 82)]; exact k0 F1 (nz_in0 hB [] (fun j hj hn => g j hj (by simp only [List.mem_cons, List.not_mem_nil, or_false, not_or] at hn; exact trivial)) (List.forall_mem_nil _)) (fun j hj hn => g j hj (by simp only [List.mem_cons, List.not_mem_nil, or_false, not_or] at hn; exact trivial)) )
theorem j2ft_0_p0 {Ls : Nat} {xs : Nat → Int32} {d : Nat} {Q : Option Value → jm_h → Prop} (hd : 1 ≤ d) (F : Nat → sy_d) (X1 X2 : List jm_c) (hB : iv_in F iv_B0)
    (k : ∀ F1 : Nat → sy_d, (∀ j, j < 82 → True → F1 j = F j) → F1 82 = .inl (.int (sy_i F 82)) → F1 83 = .inl (.int ((0 : Int32))) → F1 84 = .inl (.int ((0 : Int32))) → hd_W Ls xs d jm_M71 Q (5, sy_dL F1 [some (.inl (.ref 70)), some (.inl (.ref 20)), some (.inr (.inl 82)), some (.inr (.inl 83)), some (.inr (.inl 84))], sy_dS F1 [], sy_dh F1 X1 X2 (iv_H 2), 0, 0)) :
    hd_W Ls xs d jm_M71 Q (0, sy_dL F [some (.inl (.ref 70)), some (.inl (.ref 20)), some (.inr (.inl 82)), none, none], sy_dS F [], sy_dh F X1 X2 (iv_H 2), 0, 0) := by
  refine hd_run (s := 2) (nv := 83) (pc := 5) (L := [some (.inl (.ref 70)), some (.inl (.ref 20)), some (.inr (.inl 82)), some (.inr (.inl 83)), some (.inr (.inl 84))]) (S := []) (uh := hd_ov (iv_id 0 iv_B0) []) (ul := [.inl (.inr (.inl 82)), .inl (.inl (.int 0)), .inl (.inl (.int 0))]) (f := true) (sp := [5]) (d0 := 0) (O := []) (T := []) (P := []) jm_ok71 (by decide +kernel) (by decide +kernel) hd F X1 X2 (fun F' hF hs => ?_)
  have b82 := hd_b (F := F) (F' := F') (k := 82) (hF 82 (by decide))
  have hB' : iv_in F' iv_B0 := iv_in_eq hB (fun j hj => hF j (Nat.lt_of_lt_of_le hj (by decide +kernel)))
  refine ⟨fun _ h => absurd h List.not_mem_nil, ?_⟩
  refine k _ ?_ ?_ ?_ ?_
  · exact fun j hj _ => (hd_keep hB' (Nat.lt_of_lt_of_le hj (by decide +kernel)) (by simp)).trans (hF j (Nat.lt_of_lt_of_le hj (by decide)))
  · exact hd_gi (x := .inr (.inl 82)) (by decide +kernel) b82
  · exact hd_gi (x := .inl (.int 0)) (by decide +kernel) rfl
  · exact hd_gi (x := .inl (.int 0)) (by decide +kernel) rfl
theorem j2ft_0 {Ls : Nat} {xs : Nat → Int32} {d : Nat} {Q : Option Value → jm_h → Prop} (hd : 1 ≤ d) (F : Nat → sy_d) (X1 X2 : List jm_c) (hB : iv_in F iv_B0)
    (k0 : ∀ F1 : Nat → sy_d, iv_in F1 iv_B0 → (∀ j, j < 82 → j ∉ ([] : List Nat) → F1 j = F j) → (sy_i F1 82).toInt = (sy_i F 82).toInt → sy_i F1 82 = sy_i F 82 → (sy_i F1 83).toInt = 0 → sy_i F1 83 = (0 : Int32) → (sy_i F1 84).toInt = 0 → sy_i F1 84 = (0 : Int32) → hd_W Ls xs d jm_M71 Q (5, sy_dL F1 [some (.inl (.ref 70)), some (.inl (.ref 20)), some (.inr (.inl 82)), some (.inr (.inl 83)), some (.inr (.inl 84))], sy_dS F1 [], sy_dh F1 X1 X2 (iv_H 2), 0, 0)) :
    hd_W Ls xs d jm_M71 Q (0, sy_dL F [some (.inl (.ref 70)), some (.inl (.ref 20)), some (.inr (.inl 82)), none, none], sy_dS F [], sy_dh F X1 X2 (iv_H 2), 0, 0) := by
  exact j2ft_0_p0 hd F X1 X2 hB  (fun F1 g e82 e83 e84 => k0 F1 (nz_in0 hB [] (fun j hj hn => g j hj (by simp only [List.mem_cons, List.not_mem_nil, or_false, not_or] at hn; exact trivial)) (List.forall_mem_nil _)) (fun j hj hn => g j hj (by simp only [List.mem_cons, List.not_mem_nil, or_false, not_or] at hn; exact trivial)) ((congrArg Int32.toInt (zz_i e82)).trans (rfl : (sy_i F 82).toInt = (sy_i F 82).toInt)) ((zz_i e82).trans (rfl : sy_i F 82 = sy_i F 82)) ((congrArg Int32.toInt (zz_i e83)).trans (by decide : ((0 : Int32)).toInt = 0)) ((zz_i e83).trans (rfl : (0 : Int32) = (0 : Int32))) ((congrArg Int32.toInt (zz_i e84)).trans (by decide : ((0 : Int32)).toInt = 0)) ((zz_i e84).trans (rfl : (0 : Int32) = (0 : Int32))))
theorem j2ft_5_p0 {Ls : Nat} {xs : Nat → Int32} {d : Nat} {Q : Option Value → jm_h → Prop} (hd : 2 ≤ d) (F : Nat → sy_d) (X1 X2 : List jm_c) (hB : iv_in F iv_B0)
    (h0 : (sy_i F 18).toInt ≤ (sy_i F 84).toInt)
    (k : ∀ F1 : Nat → sy_d, (∀ j, j < 82 → True → F1 j = F j) → Q (some (.int (sy_i F 83))) (sy_dh F1 X1 X2 (iv_H 2))) :
    hd_W Ls xs d jm_M71 Q (5, sy_dL F [some (.inl (.ref 70)), some (.inl (.ref 20)), some (.inr (.inl 82)), some (.inr (.inl 83)), some (.inr (.inl 84))], sy_dS F [], sy_dh F X1 X2 (iv_H 2), 0, 0) := by
  refine hd_ret (s := 2) (nv := 85) (v := some (.inr (.inl 83))) (uh := hd_ov (iv_id 0 iv_B0) []) (f := true) (sp := [5]) (d0 := 1) (O := [true]) (T := []) (P := [(4, .inr (.inl 18), .inr (.inl 84))]) jm_ok71 (by decide +kernel) (by decide +kernel) hd F X1 X2 (fun F' hF hs => ?_)
  have b18 := hd_b (F := F) (F' := F') (k := 18) (hF 18 (by decide))
  have b84 := hd_b (F := F) (F' := F') (k := 84) (hF 84 (by decide))
  have b83 := hd_b (F := F) (F' := F') (k := 83) (hF 83 (by decide))
  have hB' : iv_in F' iv_B0 := iv_in_eq hB (fun j hj => hF j (Nat.lt_of_lt_of_le hj (by decide +kernel)))
  have hk := k (sy_cm F' (hd_ov (iv_id 0 iv_B0) [] ++ [])) (fun j hj _ => (hd_keep hB' (Nat.lt_of_lt_of_le hj (by decide +kernel)) (by simp)).trans (hF j (Nat.lt_of_lt_of_le hj (by decide))))
  refine ⟨List.forall_mem_cons.mpr ⟨hd_p4 b18 b84 h0, fun _ h => absurd h List.not_mem_nil⟩, ?_⟩
  show Q (some (sy_dv F' (.inr (.inl 83)))) _
  rw [b83]
  exact hk
theorem j2ft_5_p1 {Ls : Nat} {xs : Nat → Int32} {d : Nat} {Q : Option Value → jm_h → Prop} (hd : 2 ≤ d) (F : Nat → sy_d) (X1 X2 : List jm_c) (hB : iv_in F iv_B0)
    (h0 : (sy_i F 84).toInt < (sy_i F 18).toInt)
    (h1 : 0 ≤ (sy_i F 84).toInt ∧ (sy_i F 84).toInt < 7)
    (h2 : 0 ≤ (sy_i F 82).toInt ∧ (sy_i F 82).toInt < 7)
    (h3 : ((sy_ai F 25).getD (sy_i F 84).toNatClampNeg 0).toInt ≠ ((sy_ai F 80).getD (sy_i F 82).toNatClampNeg 0).toInt)
    (k : ∀ F1 : Nat → sy_d, (∀ j, j < 82 → True → F1 j = F j) → F1 82 = .inl (.int (sy_i F 82)) → F1 83 = .inl (.int (sy_i F 83)) → F1 84 = .inl (.int ((sy_i F 84) + ((1 : Int32)))) → hd_W Ls xs d jm_M71 Q (5, sy_dL F1 [some (.inl (.ref 70)), some (.inl (.ref 20)), some (.inr (.inl 82)), some (.inr (.inl 83)), some (.inr (.inl 84))], sy_dS F1 [], sy_dh F1 X1 X2 (iv_H 2), 0, 0)) :
    hd_W Ls xs d jm_M71 Q (5, sy_dL F [some (.inl (.ref 70)), some (.inl (.ref 20)), some (.inr (.inl 82)), some (.inr (.inl 83)), some (.inr (.inl 84))], sy_dS F [], sy_dh F X1 X2 (iv_H 2), 0, 0) := by
  refine hd_run (s := 2) (nv := 85) (pc := 5) (L := [some (.inl (.ref 70)), some (.inl (.ref 20)), some (.inr (.inl 82)), some (.inr (.inl 83)), some (.inr (.inl 84))]) (S := []) (uh := hd_ov (iv_id 0 iv_B0) []) (ul := [.inl (.inr (.inl 82)), .inl (.inr (.inl 83)), .inl (.inr (.inl 87))]) (f := true) (sp := [5]) (d0 := 1) (O := [false, true]) (T := [(30, [.inr (.inl 84)], [.inr (.inl 25)]), (30, [.inr (.inl 82)], [.inr (.inl 80)]), (0, [.inr (.inl 84), .inl (.int 1)], [])]) (P := [(5, .inr (.inl 18), .inr (.inl 84)), (6, .inr (.inl 84), .inl (.ref 7)), (6, .inr (.inl 82), .inl (.ref 7)), (1, .inr (.inl 85), .inr (.inl 86))]) jm_ok71 (by decide +kernel) (by decide +kernel) hd F X1 X2 (fun F' hF hs => ?_)
  have b18 := hd_b (F := F) (F' := F') (k := 18) (hF 18 (by decide))
  have b84 := hd_b (F := F) (F' := F') (k := 84) (hF 84 (by decide))
  have b82 := hd_b (F := F) (F' := F') (k := 82) (hF 82 (by decide))
  have a25 := hd_ba (F := F) (F' := F') (k := 25) (hF 25 (by decide))
  have t85 : sy_dv F' (.inr (.inl 85)) = .int ((sy_ai F 25).getD (sy_i F 84).toNatClampNeg 0) := hd_rd (hs 0 _ rfl) b84 a25
  have a80 := hd_ba (F := F) (F' := F') (k := 80) (hF 80 (by decide))
  have t86 : sy_dv F' (.inr (.inl 86)) = .int ((sy_ai F 80).getD (sy_i F 82).toNatClampNeg 0) := hd_rd (hs 1 _ rfl) b82 a80
  have b83 := hd_b (F := F) (F' := F') (k := 83) (hF 83 (by decide))
  have t87 : sy_dv F' (.inr (.inl 87)) = .int ((sy_i F 84) + ((1 : Int32))) := hd_o (hs 2 _ rfl) b84 rfl rfl
  have hB' : iv_in F' iv_B0 := iv_in_eq hB (fun j hj => hF j (Nat.lt_of_lt_of_le hj (by decide +kernel)))
  refine ⟨List.forall_mem_cons.mpr ⟨hd_p5 b18 b84 h0, List.forall_mem_cons.mpr ⟨hd_pb b84 (by first | exact h1 | exact h1), List.forall_mem_cons.mpr ⟨hd_pb b82 (by first | exact h2 | exact h2), List.forall_mem_cons.mpr ⟨hd_p1 t85 t86 h3, fun _ h => absurd h List.not_mem_nil⟩⟩⟩⟩, ?_⟩
  refine k _ ?_ ?_ ?_ ?_
  · exact fun j hj _ => (hd_keep hB' (Nat.lt_of_lt_of_le hj (by decide +kernel)) (by simp)).trans (hF j (Nat.lt_of_lt_of_le hj (by decide)))
  · exact hd_gi (x := .inr (.inl 82)) (by decide +kernel) b82
  · exact hd_gi (x := .inr (.inl 83)) (by decide +kernel) b83
  · exact hd_gi (x := .inr (.inl 87)) (by decide +kernel) t87
theorem j2ft_5_p2 {Ls : Nat} {xs : Nat → Int32} {d : Nat} {Q : Option Value → jm_h → Prop} (hd : 2 ≤ d) (F : Nat → sy_d) (X1 X2 : List jm_c) (hB : iv_in F iv_B0)
    (h0 : (sy_i F 84).toInt < (sy_i F 18).toInt)
    (h1 : 0 ≤ (sy_i F 84).toInt ∧ (sy_i F 84).toInt < 7)
    (h2 : 0 ≤ (sy_i F 82).toInt ∧ (sy_i F 82).toInt < 7)
    (h3 : ((sy_ai F 25).getD (sy_i F 84).toNatClampNeg 0).toInt = ((sy_ai F 80).getD (sy_i F 82).toNatClampNeg 0).toInt)
    (h4 : 0 ≤ (sy_i F 84).toInt ∧ (sy_i F 84).toInt < 7)
    (h5 : 0 ≤ (sy_i F 82).toInt ∧ (sy_i F 82).toInt < 7)
    (h6 : ((sy_ai F 27).getD (sy_i F 84).toNatClampNeg 0).toInt ≠ ((sy_ai F 81).getD (sy_i F 82).toNatClampNeg 0).toInt)
    (k : ∀ F1 : Nat → sy_d, (∀ j, j < 82 → True → F1 j = F j) → F1 82 = .inl (.int (sy_i F 82)) → F1 83 = .inl (.int (sy_i F 83)) → F1 84 = .inl (.int ((sy_i F 84) + ((1 : Int32)))) → hd_W Ls xs d jm_M71 Q (5, sy_dL F1 [some (.inl (.ref 70)), some (.inl (.ref 20)), some (.inr (.inl 82)), some (.inr (.inl 83)), some (.inr (.inl 84))], sy_dS F1 [], sy_dh F1 X1 X2 (iv_H 2), 0, 0)) :
    hd_W Ls xs d jm_M71 Q (5, sy_dL F [some (.inl (.ref 70)), some (.inl (.ref 20)), some (.inr (.inl 82)), some (.inr (.inl 83)), some (.inr (.inl 84))], sy_dS F [], sy_dh F X1 X2 (iv_H 2), 0, 0) := by
  refine hd_run (s := 2) (nv := 85) (pc := 5) (L := [some (.inl (.ref 70)), some (.inl (.ref 20)), some (.inr (.inl 82)), some (.inr (.inl 83)), some (.inr (.inl 84))]) (S := []) (uh := hd_ov (iv_id 0 iv_B0) []) (ul := [.inl (.inr (.inl 82)), .inl (.inr (.inl 83)), .inl (.inr (.inl 89))]) (f := true) (sp := [5]) (d0 := 1) (O := [false, false, true]) (T := [(30, [.inr (.inl 84)], [.inr (.inl 25)]), (30, [.inr (.inl 82)], [.inr (.inl 80)]), (30, [.inr (.inl 84)], [.inr (.inl 27)]), (30, [.inr (.inl 82)], [.inr (.inl 81)]), (0, [.inr (.inl 84), .inl (.int 1)], [])]) (P := [(5, .inr (.inl 18), .inr (.inl 84)), (6, .inr (.inl 84), .inl (.ref 7)), (6, .inr (.inl 82), .inl (.ref 7)), (0, .inr (.inl 85), .inr (.inl 86)), (6, .inr (.inl 84), .inl (.ref 7)), (6, .inr (.inl 82), .inl (.ref 7)), (1, .inr (.inl 87), .inr (.inl 88))]) jm_ok71 (by decide +kernel) (by decide +kernel) hd F X1 X2 (fun F' hF hs => ?_)
  have b18 := hd_b (F := F) (F' := F') (k := 18) (hF 18 (by decide))
  have b84 := hd_b (F := F) (F' := F') (k := 84) (hF 84 (by decide))
  have b82 := hd_b (F := F) (F' := F') (k := 82) (hF 82 (by decide))
  have a25 := hd_ba (F := F) (F' := F') (k := 25) (hF 25 (by decide))
  have t85 : sy_dv F' (.inr (.inl 85)) = .int ((sy_ai F 25).getD (sy_i F 84).toNatClampNeg 0) := hd_rd (hs 0 _ rfl) b84 a25
  have a80 := hd_ba (F := F) (F' := F') (k := 80) (hF 80 (by decide))
  have t86 : sy_dv F' (.inr (.inl 86)) = .int ((sy_ai F 80).getD (sy_i F 82).toNatClampNeg 0) := hd_rd (hs 1 _ rfl) b82 a80
  have a27 := hd_ba (F := F) (F' := F') (k := 27) (hF 27 (by decide))
  have t87 : sy_dv F' (.inr (.inl 87)) = .int ((sy_ai F 27).getD (sy_i F 84).toNatClampNeg 0) := hd_rd (hs 2 _ rfl) b84 a27
  have a81 := hd_ba (F := F) (F' := F') (k := 81) (hF 81 (by decide))
  have t88 : sy_dv F' (.inr (.inl 88)) = .int ((sy_ai F 81).getD (sy_i F 82).toNatClampNeg 0) := hd_rd (hs 3 _ rfl) b82 a81
  have b83 := hd_b (F := F) (F' := F') (k := 83) (hF 83 (by decide))
  have t89 : sy_dv F' (.inr (.inl 89)) = .int ((sy_i F 84) + ((1 : Int32))) := hd_o (hs 4 _ rfl) b84 rfl rfl
  have hB' : iv_in F' iv_B0 := iv_in_eq hB (fun j hj => hF j (Nat.lt_of_lt_of_le hj (by decide +kernel)))
  refine ⟨List.forall_mem_cons.mpr ⟨hd_p5 b18 b84 h0, List.forall_mem_cons.mpr ⟨hd_pb b84 (by first | exact h1 | exact h1), List.forall_mem_cons.mpr ⟨hd_pb b82 (by first | exact h2 | exact h2), List.forall_mem_cons.mpr ⟨hd_p0 t85 t86 h3, List.forall_mem_cons.mpr ⟨hd_pb b84 (by first | exact h4 | exact h4), List.forall_mem_cons.mpr ⟨hd_pb b82 (by first | exact h5 | exact h5), List.forall_mem_cons.mpr ⟨hd_p1 t87 t88 h6, fun _ h => absurd h List.not_mem_nil⟩⟩⟩⟩⟩⟩⟩, ?_⟩
  refine k _ ?_ ?_ ?_ ?_
  · exact fun j hj _ => (hd_keep hB' (Nat.lt_of_lt_of_le hj (by decide +kernel)) (by simp)).trans (hF j (Nat.lt_of_lt_of_le hj (by decide)))
  · exact hd_gi (x := .inr (.inl 82)) (by decide +kernel) b82
  · exact hd_gi (x := .inr (.inl 83)) (by decide +kernel) b83
  · exact hd_gi (x := .inr (.inl 89)) (by decide +kernel) t89
theorem j2ft_5_p3 {Ls : Nat} {xs : Nat → Int32} {d : Nat} {Q : Option Value → jm_h → Prop} (hd : 2 ≤ d) (F : Nat → sy_d) (X1 X2 : List jm_c) (hB : iv_in F iv_B0)
    (h0 : (sy_i F 84).toInt < (sy_i F 18).toInt)
    (h1 : 0 ≤ (sy_i F 84).toInt ∧ (sy_i F 84).toInt < 7)
    (h2 : 0 ≤ (sy_i F 82).toInt ∧ (sy_i F 82).toInt < 7)
    (h3 : ((sy_ai F 25).getD (sy_i F 84).toNatClampNeg 0).toInt = ((sy_ai F 80).getD (sy_i F 82).toNatClampNeg 0).toInt)
    (h4 : 0 ≤ (sy_i F 84).toInt ∧ (sy_i F 84).toInt < 7)
    (h5 : 0 ≤ (sy_i F 82).toInt ∧ (sy_i F 82).toInt < 7)
    (h6 : ((sy_ai F 27).getD (sy_i F 84).toNatClampNeg 0).toInt = ((sy_ai F 81).getD (sy_i F 82).toNatClampNeg 0).toInt)
    (k : ∀ F1 : Nat → sy_d, (∀ j, j < 82 → True → F1 j = F j) → F1 82 = .inl (.int (sy_i F 82)) → F1 83 = .inl (.int ((sy_i F 83) + ((1 : Int32)))) → F1 84 = .inl (.int ((sy_i F 84) + ((1 : Int32)))) → hd_W Ls xs d jm_M71 Q (5, sy_dL F1 [some (.inl (.ref 70)), some (.inl (.ref 20)), some (.inr (.inl 82)), some (.inr (.inl 83)), some (.inr (.inl 84))], sy_dS F1 [], sy_dh F1 X1 X2 (iv_H 2), 0, 0)) :
    hd_W Ls xs d jm_M71 Q (5, sy_dL F [some (.inl (.ref 70)), some (.inl (.ref 20)), some (.inr (.inl 82)), some (.inr (.inl 83)), some (.inr (.inl 84))], sy_dS F [], sy_dh F X1 X2 (iv_H 2), 0, 0) := by
  refine hd_run (s := 2) (nv := 85) (pc := 5) (L := [some (.inl (.ref 70)), some (.inl (.ref 20)), some (.inr (.inl 82)), some (.inr (.inl 83)), some (.inr (.inl 84))]) (S := []) (uh := hd_ov (iv_id 0 iv_B0) []) (ul := [.inl (.inr (.inl 82)), .inl (.inr (.inl 89)), .inl (.inr (.inl 90))]) (f := true) (sp := [5]) (d0 := 1) (O := [false, false, false]) (T := [(30, [.inr (.inl 84)], [.inr (.inl 25)]), (30, [.inr (.inl 82)], [.inr (.inl 80)]), (30, [.inr (.inl 84)], [.inr (.inl 27)]), (30, [.inr (.inl 82)], [.inr (.inl 81)]), (0, [.inr (.inl 83), .inl (.int 1)], []), (0, [.inr (.inl 84), .inl (.int 1)], [])]) (P := [(5, .inr (.inl 18), .inr (.inl 84)), (6, .inr (.inl 84), .inl (.ref 7)), (6, .inr (.inl 82), .inl (.ref 7)), (0, .inr (.inl 85), .inr (.inl 86)), (6, .inr (.inl 84), .inl (.ref 7)), (6, .inr (.inl 82), .inl (.ref 7)), (0, .inr (.inl 87), .inr (.inl 88))]) jm_ok71 (by decide +kernel) (by decide +kernel) hd F X1 X2 (fun F' hF hs => ?_)
  have b18 := hd_b (F := F) (F' := F') (k := 18) (hF 18 (by decide))
  have b84 := hd_b (F := F) (F' := F') (k := 84) (hF 84 (by decide))
  have b82 := hd_b (F := F) (F' := F') (k := 82) (hF 82 (by decide))
  have a25 := hd_ba (F := F) (F' := F') (k := 25) (hF 25 (by decide))
  have t85 : sy_dv F' (.inr (.inl 85)) = .int ((sy_ai F 25).getD (sy_i F 84).toNatClampNeg 0) := hd_rd (hs 0 _ rfl) b84 a25
  have a80 := hd_ba (F := F) (F' := F') (k := 80) (hF 80 (by decide))
  have t86 : sy_dv F' (.inr (.inl 86)) = .int ((sy_ai F 80).getD (sy_i F 82).toNatClampNeg 0) := hd_rd (hs 1 _ rfl) b82 a80
  have a27 := hd_ba (F := F) (F' := F') (k := 27) (hF 27 (by decide))
  have t87 : sy_dv F' (.inr (.inl 87)) = .int ((sy_ai F 27).getD (sy_i F 84).toNatClampNeg 0) := hd_rd (hs 2 _ rfl) b84 a27
  have a81 := hd_ba (F := F) (F' := F') (k := 81) (hF 81 (by decide))
  have t88 : sy_dv F' (.inr (.inl 88)) = .int ((sy_ai F 81).getD (sy_i F 82).toNatClampNeg 0) := hd_rd (hs 3 _ rfl) b82 a81
  have b83 := hd_b (F := F) (F' := F') (k := 83) (hF 83 (by decide))
  have t89 : sy_dv F' (.inr (.inl 89)) = .int ((sy_i F 83) + ((1 : Int32))) := hd_o (hs 4 _ rfl) b83 rfl rfl
  have t90 : sy_dv F' (.inr (.inl 90)) = .int ((sy_i F 84) + ((1 : Int32))) := hd_o (hs 5 _ rfl) b84 rfl rfl
  have hB' : iv_in F' iv_B0 := iv_in_eq hB (fun j hj => hF j (Nat.lt_of_lt_of_le hj (by decide +kernel)))
  refine ⟨List.forall_mem_cons.mpr ⟨hd_p5 b18 b84 h0, List.forall_mem_cons.mpr ⟨hd_pb b84 (by first | exact h1 | exact h1), List.forall_mem_cons.mpr ⟨hd_pb b82 (by first | exact h2 | exact h2), List.forall_mem_cons.mpr ⟨hd_p0 t85 t86 h3, List.forall_mem_cons.mpr ⟨hd_pb b84 (by first | exact h4 | exact h4), List.forall_mem_cons.mpr ⟨hd_pb b82 (by first | exact h5 | exact h5), List.forall_mem_cons.mpr ⟨hd_p0 t87 t88 h6, fun _ h => absurd h List.not_mem_nil⟩⟩⟩⟩⟩⟩⟩, ?_⟩
  refine k _ ?_ ?_ ?_ ?_
  · exact fun j hj _ => (hd_keep hB' (Nat.lt_of_lt_of_le hj (by decide +kernel)) (by simp)).trans (hF j (Nat.lt_of_lt_of_le hj (by decide)))
  · exact hd_gi (x := .inr (.inl 82)) (by decide +kernel) b82
  · exact hd_gi (x := .inr (.inl 89)) (by decide +kernel) t89
  · exact hd_gi (x := .inr (.inl 90)) (by decide +kernel) t90
theorem j2ft_5 {Ls : Nat} {xs : Nat → Int32} {d : Nat} {Q : Option Value → jm_h → Prop} (hd : 2 ≤ d) (F : Nat → sy_d) (X1 X2 : List jm_c) (hB : iv_in F iv_B0)
    (a82 : 0 ≤ (sy_i F 82).toInt ∧ (sy_i F 82).toInt ≤ 6)
    (a83 : 0 ≤ (sy_i F 83).toInt ∧ (sy_i F 83).toInt ≤ 7)
    (a84 : 0 ≤ (sy_i F 84).toInt ∧ (sy_i F 84).toInt ≤ 7)
    (k0 : (sy_i F 18).toInt ≤ (sy_i F 84).toInt → ∀ F1 : Nat → sy_d, iv_in F1 iv_B0 → (∀ j, j < 82 → j ∉ ([] : List Nat) → F1 j = F j) → Q (some (.int (sy_i F 83))) (sy_dh F1 X1 X2 (iv_H 2)))
    (k1 : (sy_i F 84).toInt < (sy_i F 18).toInt → ((sy_ai F 25).getD ((sy_i F 84).toInt).toNat 0).toInt ≠ ((sy_ai F 80).getD ((sy_i F 82).toInt).toNat 0).toInt → ∀ F1 : Nat → sy_d, iv_in F1 iv_B0 → (∀ j, j < 82 → j ∉ ([] : List Nat) → F1 j = F j) → (sy_i F1 82).toInt = (sy_i F 82).toInt → sy_i F1 82 = sy_i F 82 → (sy_i F1 83).toInt = (sy_i F 83).toInt → sy_i F1 83 = sy_i F 83 → (sy_i F1 84).toInt = ((sy_i F 84).toInt + 1) → sy_i F1 84 = (sy_i F 84) + ((1 : Int32)) → hd_W Ls xs d jm_M71 Q (5, sy_dL F1 [some (.inl (.ref 70)), some (.inl (.ref 20)), some (.inr (.inl 82)), some (.inr (.inl 83)), some (.inr (.inl 84))], sy_dS F1 [], sy_dh F1 X1 X2 (iv_H 2), 0, 0))
    (k2 : (sy_i F 84).toInt < (sy_i F 18).toInt → ((sy_ai F 25).getD ((sy_i F 84).toInt).toNat 0).toInt = ((sy_ai F 80).getD ((sy_i F 82).toInt).toNat 0).toInt → ((sy_ai F 27).getD ((sy_i F 84).toInt).toNat 0).toInt ≠ ((sy_ai F 81).getD ((sy_i F 82).toInt).toNat 0).toInt → ∀ F1 : Nat → sy_d, iv_in F1 iv_B0 → (∀ j, j < 82 → j ∉ ([] : List Nat) → F1 j = F j) → (sy_i F1 82).toInt = (sy_i F 82).toInt → sy_i F1 82 = sy_i F 82 → (sy_i F1 83).toInt = (sy_i F 83).toInt → sy_i F1 83 = sy_i F 83 → (sy_i F1 84).toInt = ((sy_i F 84).toInt + 1) → sy_i F1 84 = (sy_i F 84) + ((1 : Int32)) → hd_W Ls xs d jm_M71 Q (5, sy_dL F1 [some (.inl (.ref 70)), some (.inl (.ref 20)), some (.inr (.inl 82)), some (.inr (.inl 83)), some (.inr (.inl 84))], sy_dS F1 [], sy_dh F1 X1 X2 (iv_H 2), 0, 0))
    (k3 : (sy_i F 84).toInt < (sy_i F 18).toInt → ((sy_ai F 25).getD ((sy_i F 84).toInt).toNat 0).toInt = ((sy_ai F 80).getD ((sy_i F 82).toInt).toNat 0).toInt → ((sy_ai F 27).getD ((sy_i F 84).toInt).toNat 0).toInt = ((sy_ai F 81).getD ((sy_i F 82).toInt).toNat 0).toInt → ∀ F1 : Nat → sy_d, iv_in F1 iv_B0 → (∀ j, j < 82 → j ∉ ([] : List Nat) → F1 j = F j) → (sy_i F1 82).toInt = (sy_i F 82).toInt → sy_i F1 82 = sy_i F 82 → (sy_i F1 83).toInt = ((sy_i F 83).toInt + 1) → sy_i F1 83 = (sy_i F 83) + ((1 : Int32)) → (sy_i F1 84).toInt = ((sy_i F 84).toInt + 1) → sy_i F1 84 = (sy_i F 84) + ((1 : Int32)) → hd_W Ls xs d jm_M71 Q (5, sy_dL F1 [some (.inl (.ref 70)), some (.inl (.ref 20)), some (.inr (.inl 82)), some (.inr (.inl 83)), some (.inr (.inl 84))], sy_dS F1 [], sy_dh F1 X1 X2 (iv_H 2), 0, 0)) :
    hd_W Ls xs d jm_M71 Q (5, sy_dL F [some (.inl (.ref 70)), some (.inl (.ref 20)), some (.inr (.inl 82)), some (.inr (.inl 83)), some (.inr (.inl 84))], sy_dS F [], sy_dh F X1 X2 (iv_H 2), 0, 0) := by
  by_cases g0 : (sy_i F 18).toInt ≤ (sy_i F 84).toInt
  · have c18 := nz_bx hB (k := 18) (lo := 0) (hi := 7) rfl
    exact j2ft_5_p0 hd F X1 X2 hB (by first | exact g0 | (simp only [nz_c]; exact g0)) (fun F1 g  => by rw [(rfl : sy_i F 83 = sy_i F 83)]; exact k0 g0 F1 (nz_in0 hB [] (fun j hj hn => g j hj (by simp only [List.mem_cons, List.not_mem_nil, or_false, not_or] at hn; exact trivial)) (List.forall_mem_nil _)) (fun j hj hn => g j hj (by simp only [List.mem_cons, List.not_mem_nil, or_false, not_or] at hn; exact trivial)) )
  replace g0 : (sy_i F 84).toInt < (sy_i F 18).toInt := by omega
  by_cases g1 : ((sy_ai F 25).getD ((sy_i F 84).toInt).toNat 0).toInt ≠ ((sy_ai F 80).getD ((sy_i F 82).toInt).toNat 0).toInt
  · have c18 := nz_bx hB (k := 18) (lo := 0) (hi := 7) rfl
    have q85 : (sy_ai F 25).getD (sy_i F 84).toNatClampNeg 0 = (sy_ai F 25).getD ((sy_i F 84).toInt).toNat 0 := by simp only [nz_c]
    have n85 : nzI ((sy_ai F 25).getD (sy_i F 84).toNatClampNeg 0) (((sy_ai F 25).getD ((sy_i F 84).toInt).toNat 0).toInt) := congrArg Int32.toInt q85
    have q86 : (sy_ai F 80).getD (sy_i F 82).toNatClampNeg 0 = (sy_ai F 80).getD ((sy_i F 82).toInt).toNat 0 := by simp only [nz_c]
    have n86 : nzI ((sy_ai F 80).getD (sy_i F 82).toNatClampNeg 0) (((sy_ai F 80).getD ((sy_i F 82).toInt).toNat 0).toInt) := congrArg Int32.toInt q86
    have n87 : nzI ((sy_i F 84) + ((1 : Int32))) (((sy_i F 84).toInt + 1)) := nz_add (rfl : (sy_i F 84).toInt = (sy_i F 84).toInt) (by decide : ((1 : Int32)).toInt = 1) (by omega) (by omega)
    exact j2ft_5_p1 hd F X1 X2 hB (by first | exact g0 | (simp only [nz_c]; exact g0)) (by first | exact ⟨by omega, by omega⟩ | (simp only [nz_c]; exact ⟨by omega, by omega⟩)) (by first | exact ⟨by omega, by omega⟩ | (simp only [nz_c]; exact ⟨by omega, by omega⟩)) (by first | exact g1 | (simp only [nz_c]; exact g1) | (rw [(nzE n85)]; exact g1) | (rw [(nzE n86)]; exact g1) | (rw [(nzE n85), (nzE n86)]; exact g1)) (fun F1 g e82 e83 e84 => k1 g0 g1 F1 (nz_in0 hB [] (fun j hj hn => g j hj (by simp only [List.mem_cons, List.not_mem_nil, or_false, not_or] at hn; exact trivial)) (List.forall_mem_nil _)) (fun j hj hn => g j hj (by simp only [List.mem_cons, List.not_mem_nil, or_false, not_or] at hn; exact trivial)) ((congrArg Int32.toInt (zz_i e82)).trans (rfl : (sy_i F 82).toInt = (sy_i F 82).toInt)) ((zz_i e82).trans (rfl : sy_i F 82 = sy_i F 82)) ((congrArg Int32.toInt (zz_i e83)).trans (rfl : (sy_i F 83).toInt = (sy_i F 83).toInt)) ((zz_i e83).trans (rfl : sy_i F 83 = sy_i F 83)) ((congrArg Int32.toInt (zz_i e84)).trans (nzE n87)) ((zz_i e84).trans (rfl : (sy_i F 84) + ((1 : Int32)) = (sy_i F 84) + ((1 : Int32)))))
  replace g1 : ((sy_ai F 25).getD ((sy_i F 84).toInt).toNat 0).toInt = ((sy_ai F 80).getD ((sy_i F 82).toInt).toNat 0).toInt := by omega
  by_cases g2 : ((sy_ai F 27).getD ((sy_i F 84).toInt).toNat 0).toInt ≠ ((sy_ai F 81).getD ((sy_i F 82).toInt).toNat 0).toInt
  · have c18 := nz_bx hB (k := 18) (lo := 0) (hi := 7) rfl
    have q85 : (sy_ai F 25).getD (sy_i F 84).toNatClampNeg 0 = (sy_ai F 25).getD ((sy_i F 84).toInt).toNat 0 := by simp only [nz_c]
    have n85 : nzI ((sy_ai F 25).getD (sy_i F 84).toNatClampNeg 0) (((sy_ai F 25).getD ((sy_i F 84).toInt).toNat 0).toInt) := congrArg Int32.toInt q85
    have q86 : (sy_ai F 80).getD (sy_i F 82).toNatClampNeg 0 = (sy_ai F 80).getD ((sy_i F 82).toInt).toNat 0 := by simp only [nz_c]
    have n86 : nzI ((sy_ai F 80).getD (sy_i F 82).toNatClampNeg 0) (((sy_ai F 80).getD ((sy_i F 82).toInt).toNat 0).toInt) := congrArg Int32.toInt q86
    have q87 : (sy_ai F 27).getD (sy_i F 84).toNatClampNeg 0 = (sy_ai F 27).getD ((sy_i F 84).toInt).toNat 0 := by simp only [nz_c]
    have n87 : nzI ((sy_ai F 27).getD (sy_i F 84).toNatClampNeg 0) (((sy_ai F 27).getD ((sy_i F 84).toInt).toNat 0).toInt) := congrArg Int32.toInt q87
    have q88 : (sy_ai F 81).getD (sy_i F 82).toNatClampNeg 0 = (sy_ai F 81).getD ((sy_i F 82).toInt).toNat 0 := by simp only [nz_c]
    have n88 : nzI ((sy_ai F 81).getD (sy_i F 82).toNatClampNeg 0) (((sy_ai F 81).getD ((sy_i F 82).toInt).toNat 0).toInt) := congrArg Int32.toInt q88
    have n89 : nzI ((sy_i F 84) + ((1 : Int32))) (((sy_i F 84).toInt + 1)) := nz_add (rfl : (sy_i F 84).toInt = (sy_i F 84).toInt) (by decide : ((1 : Int32)).toInt = 1) (by omega) (by omega)
    exact j2ft_5_p2 hd F X1 X2 hB (by first | exact g0 | (simp only [nz_c]; exact g0)) (by first | exact ⟨by omega, by omega⟩ | (simp only [nz_c]; exact ⟨by omega, by omega⟩)) (by first | exact ⟨by omega, by omega⟩ | (simp only [nz_c]; exact ⟨by omega, by omega⟩)) (by first | exact g1 | (simp only [nz_c]; exact g1) | (rw [(nzE n85)]; exact g1) | (rw [(nzE n86)]; exact g1) | (rw [(nzE n85), (nzE n86)]; exact g1)) (by first | exact ⟨by omega, by omega⟩ | (simp only [nz_c]; exact ⟨by omega, by omega⟩)) (by first | exact ⟨by omega, by omega⟩ | (simp only [nz_c]; exact ⟨by omega, by omega⟩)) (by first | exact g2 | (simp only [nz_c]; exact g2) | (rw [(nzE n87)]; exact g2) | (rw [(nzE n88)]; exact g2) | (rw [(nzE n87), (nzE n88)]; exact g2)) (fun F1 g e82 e83 e84 => k2 g0 g1 g2 F1 (nz_in0 hB [] (fun j hj hn => g j hj (by simp only [List.mem_cons, List.not_mem_nil, or_false, not_or] at hn; exact trivial)) (List.forall_mem_nil _)) (fun j hj hn => g j hj (by simp only [List.mem_cons, List.not_mem_nil, or_false, not_or] at hn; exact trivial)) ((congrArg Int32.toInt (zz_i e82)).trans (rfl : (sy_i F 82).toInt = (sy_i F 82).toInt)) ((zz_i e82).trans (rfl : sy_i F 82 = sy_i F 82)) ((congrArg Int32.toInt (zz_i e83)).trans (rfl : (sy_i F 83).toInt = (sy_i F 83).toInt)) ((zz_i e83).trans (rfl : sy_i F 83 = sy_i F 83)) ((congrArg Int32.toInt (zz_i e84)).trans (nzE n89)) ((zz_i e84).trans (rfl : (sy_i F 84) + ((1 : Int32)) = (sy_i F 84) + ((1 : Int32)))))
  replace g2 : ((sy_ai F 27).getD ((sy_i F 84).toInt).toNat 0).toInt = ((sy_ai F 81).getD ((sy_i F 82).toInt).toNat 0).toInt := by omega
  have c18 := nz_bx hB (k := 18) (lo := 0) (hi := 7) rfl
  have q85 : (sy_ai F 25).getD (sy_i F 84).toNatClampNeg 0 = (sy_ai F 25).getD ((sy_i F 84).toInt).toNat 0 := by simp only [nz_c]
  have n85 : nzI ((sy_ai F 25).getD (sy_i F 84).toNatClampNeg 0) (((sy_ai F 25).getD ((sy_i F 84).toInt).toNat 0).toInt) := congrArg Int32.toInt q85
  have q86 : (sy_ai F 80).getD (sy_i F 82).toNatClampNeg 0 = (sy_ai F 80).getD ((sy_i F 82).toInt).toNat 0 := by simp only [nz_c]
  have n86 : nzI ((sy_ai F 80).getD (sy_i F 82).toNatClampNeg 0) (((sy_ai F 80).getD ((sy_i F 82).toInt).toNat 0).toInt) := congrArg Int32.toInt q86
  have q87 : (sy_ai F 27).getD (sy_i F 84).toNatClampNeg 0 = (sy_ai F 27).getD ((sy_i F 84).toInt).toNat 0 := by simp only [nz_c]
  have n87 : nzI ((sy_ai F 27).getD (sy_i F 84).toNatClampNeg 0) (((sy_ai F 27).getD ((sy_i F 84).toInt).toNat 0).toInt) := congrArg Int32.toInt q87
  have q88 : (sy_ai F 81).getD (sy_i F 82).toNatClampNeg 0 = (sy_ai F 81).getD ((sy_i F 82).toInt).toNat 0 := by simp only [nz_c]
  have n88 : nzI ((sy_ai F 81).getD (sy_i F 82).toNatClampNeg 0) (((sy_ai F 81).getD ((sy_i F 82).toInt).toNat 0).toInt) := congrArg Int32.toInt q88
  have n89 : nzI ((sy_i F 83) + ((1 : Int32))) (((sy_i F 83).toInt + 1)) := nz_add (rfl : (sy_i F 83).toInt = (sy_i F 83).toInt) (by decide : ((1 : Int32)).toInt = 1) (by omega) (by omega)
  have n90 : nzI ((sy_i F 84) + ((1 : Int32))) (((sy_i F 84).toInt + 1)) := nz_add (rfl : (sy_i F 84).toInt = (sy_i F 84).toInt) (by decide : ((1 : Int32)).toInt = 1) (by omega) (by omega)
  exact j2ft_5_p3 hd F X1 X2 hB (by first | exact g0 | (simp only [nz_c]; exact g0)) (by first | exact ⟨by omega, by omega⟩ | (simp only [nz_c]; exact ⟨by omega, by omega⟩)) (by first | exact ⟨by omega, by omega⟩ | (simp only [nz_c]; exact ⟨by omega, by omega⟩)) (by first | exact g1 | (simp only [nz_c]; exact g1) | (rw [(nzE n85)]; exact g1) | (rw [(nzE n86)]; exact g1) | (rw [(nzE n85), (nzE n86)]; exact g1)) (by first | exact ⟨by omega, by omega⟩ | (simp only [nz_c]; exact ⟨by omega, by omega⟩)) (by first | exact ⟨by omega, by omega⟩ | (simp only [nz_c]; exact ⟨by omega, by omega⟩)) (by first | exact g2 | (simp only [nz_c]; exact g2) | (rw [(nzE n87)]; exact g2) | (rw [(nzE n88)]; exact g2) | (rw [(nzE n87), (nzE n88)]; exact g2)) (fun F1 g e82 e83 e84 => k3 g0 g1 g2 F1 (nz_in0 hB [] (fun j hj hn => g j hj (by simp only [List.mem_cons, List.not_mem_nil, or_false, not_or] at hn; exact trivial)) (List.forall_mem_nil _)) (fun j hj hn => g j hj (by simp only [List.mem_cons, List.not_mem_nil, or_false, not_or] at hn; exact trivial)) ((congrArg Int32.toInt (zz_i e82)).trans (rfl : (sy_i F 82).toInt = (sy_i F 82).toInt)) ((zz_i e82).trans (rfl : sy_i F 82 = sy_i F 82)) ((congrArg Int32.toInt (zz_i e83)).trans (nzE n89)) ((zz_i e83).trans (rfl : (sy_i F 83) + ((1 : Int32)) = (sy_i F 83) + ((1 : Int32)))) ((congrArg Int32.toInt (zz_i e84)).trans (nzE n90)) ((zz_i e84).trans (rfl : (sy_i F 84) + ((1 : Int32)) = (sy_i F 84) + ((1 : Int32)))))
theorem j2ff_0_p0 {Ls : Nat} {xs : Nat → Int32} {d : Nat} {Q : Option Value → jm_h → Prop} (hd : 1 ≤ d) (F : Nat → sy_d) (X1 X2 : List jm_c) (hB : iv_in F iv_B0)
    (k : ∀ F1 : Nat → sy_d, (∀ j, j < 82 → True → F1 j = F j) → F1 82 = .inl (.int (sy_i F 82)) → F1 83 = .inl (.int ((0 : Int32))) → hd_W Ls xs d jm_M72 Q (2, sy_dL F1 [some (.inl (.ref 70)), some (.inl (.ref 20)), some (.inr (.inl 82)), some (.inr (.inl 83))], sy_dS F1 [], sy_dh F1 X1 X2 (iv_H 2), 0, 0)) :
    hd_W Ls xs d jm_M72 Q (0, sy_dL F [some (.inl (.ref 70)), some (.inl (.ref 20)), some (.inr (.inl 82)), none], sy_dS F [], sy_dh F X1 X2 (iv_H 2), 0, 0) := by
  refine hd_run (s := 2) (nv := 83) (pc := 2) (L := [some (.inl (.ref 70)), some (.inl (.ref 20)), some (.inr (.inl 82)), some (.inr (.inl 83))]) (S := []) (uh := hd_ov (iv_id 0 iv_B0) []) (ul := [.inl (.inr (.inl 82)), .inl (.inl (.int 0))]) (f := true) (sp := [2]) (d0 := 0) (O := []) (T := []) (P := []) jm_ok72 (by decide +kernel) (by decide +kernel) hd F X1 X2 (fun F' hF hs => ?_)
  have b82 := hd_b (F := F) (F' := F') (k := 82) (hF 82 (by decide))
  have hB' : iv_in F' iv_B0 := iv_in_eq hB (fun j hj => hF j (Nat.lt_of_lt_of_le hj (by decide +kernel)))
  refine ⟨fun _ h => absurd h List.not_mem_nil, ?_⟩
  refine k _ ?_ ?_ ?_
  · exact fun j hj _ => (hd_keep hB' (Nat.lt_of_lt_of_le hj (by decide +kernel)) (by simp)).trans (hF j (Nat.lt_of_lt_of_le hj (by decide)))
  · exact hd_gi (x := .inr (.inl 82)) (by decide +kernel) b82
  · exact hd_gi (x := .inl (.int 0)) (by decide +kernel) rfl
theorem j2ff_0 {Ls : Nat} {xs : Nat → Int32} {d : Nat} {Q : Option Value → jm_h → Prop} (hd : 1 ≤ d) (F : Nat → sy_d) (X1 X2 : List jm_c) (hB : iv_in F iv_B0)
    (k0 : ∀ F1 : Nat → sy_d, iv_in F1 iv_B0 → (∀ j, j < 82 → j ∉ ([] : List Nat) → F1 j = F j) → (sy_i F1 82).toInt = (sy_i F 82).toInt → sy_i F1 82 = sy_i F 82 → (sy_i F1 83).toInt = 0 → sy_i F1 83 = (0 : Int32) → hd_W Ls xs d jm_M72 Q (2, sy_dL F1 [some (.inl (.ref 70)), some (.inl (.ref 20)), some (.inr (.inl 82)), some (.inr (.inl 83))], sy_dS F1 [], sy_dh F1 X1 X2 (iv_H 2), 0, 0)) :
    hd_W Ls xs d jm_M72 Q (0, sy_dL F [some (.inl (.ref 70)), some (.inl (.ref 20)), some (.inr (.inl 82)), none], sy_dS F [], sy_dh F X1 X2 (iv_H 2), 0, 0) := by
  exact j2ff_0_p0 hd F X1 X2 hB  (fun F1 g e82 e83 => k0 F1 (nz_in0 hB [] (fun j hj hn => g j hj (by simp only [List.mem_cons, List.not_mem_nil, or_false, not_or] at hn; exact trivial)) (List.forall_mem_nil _)) (fun j hj hn => g j hj (by simp only [List.mem_cons, List.not_mem_nil, or_false, not_or] at hn; exact trivial)) ((congrArg Int32.toInt (zz_i e82)).trans (rfl : (sy_i F 82).toInt = (sy_i F 82).toInt)) ((zz_i e82).trans (rfl : sy_i F 82 = sy_i F 82)) ((congrArg Int32.toInt (zz_i e83)).trans (by decide : ((0 : Int32)).toInt = 0)) ((zz_i e83).trans (rfl : (0 : Int32) = (0 : Int32))))
theorem j2ff_2_p0 {Ls : Nat} {xs : Nat → Int32} {d : Nat} {Q : Option Value → jm_h → Prop} (hd : 2 ≤ d) (F : Nat → sy_d) (X1 X2 : List jm_c) (hB : iv_in F iv_B0)
    (h0 : (sy_i F 18).toInt ≤ (sy_i F 83).toInt)
    (k : ∀ F1 : Nat → sy_d, (∀ j, j < 82 → True → F1 j = F j) → Q (some (.int (((-2) : Int32)))) (sy_dh F1 X1 X2 (iv_H 2))) :
    hd_W Ls xs d jm_M72 Q (2, sy_dL F [some (.inl (.ref 70)), some (.inl (.ref 20)), some (.inr (.inl 82)), some (.inr (.inl 83))], sy_dS F [], sy_dh F X1 X2 (iv_H 2), 0, 0) := by
  refine hd_ret (s := 2) (nv := 84) (v := some (.inl (.int (-2)))) (uh := hd_ov (iv_id 0 iv_B0) []) (f := true) (sp := [2]) (d0 := 1) (O := [true]) (T := []) (P := [(4, .inr (.inl 18), .inr (.inl 83))]) jm_ok72 (by decide +kernel) (by decide +kernel) hd F X1 X2 (fun F' hF hs => ?_)
  have b18 := hd_b (F := F) (F' := F') (k := 18) (hF 18 (by decide))
  have b83 := hd_b (F := F) (F' := F') (k := 83) (hF 83 (by decide))
  have hB' : iv_in F' iv_B0 := iv_in_eq hB (fun j hj => hF j (Nat.lt_of_lt_of_le hj (by decide +kernel)))
  refine ⟨List.forall_mem_cons.mpr ⟨hd_p4 b18 b83 h0, fun _ h => absurd h List.not_mem_nil⟩, ?_⟩
  refine k _ ?_
  · exact fun j hj _ => (hd_keep hB' (Nat.lt_of_lt_of_le hj (by decide +kernel)) (by simp)).trans (hF j (Nat.lt_of_lt_of_le hj (by decide)))
theorem j2ff_2_p1 {Ls : Nat} {xs : Nat → Int32} {d : Nat} {Q : Option Value → jm_h → Prop} (hd : 2 ≤ d) (F : Nat → sy_d) (X1 X2 : List jm_c) (hB : iv_in F iv_B0)
    (h0 : (sy_i F 83).toInt < (sy_i F 18).toInt)
    (h1 : 0 ≤ (sy_i F 83).toInt ∧ (sy_i F 83).toInt < 7)
    (h2 : 0 ≤ (sy_i F 82).toInt ∧ (sy_i F 82).toInt < 7)
    (h3 : ((sy_ai F 25).getD (sy_i F 83).toNatClampNeg 0).toInt ≠ ((sy_ai F 80).getD (sy_i F 82).toNatClampNeg 0).toInt)
    (k : ∀ F1 : Nat → sy_d, (∀ j, j < 82 → True → F1 j = F j) → F1 82 = .inl (.int (sy_i F 82)) → F1 83 = .inl (.int ((sy_i F 83) + ((1 : Int32)))) → hd_W Ls xs d jm_M72 Q (2, sy_dL F1 [some (.inl (.ref 70)), some (.inl (.ref 20)), some (.inr (.inl 82)), some (.inr (.inl 83))], sy_dS F1 [], sy_dh F1 X1 X2 (iv_H 2), 0, 0)) :
    hd_W Ls xs d jm_M72 Q (2, sy_dL F [some (.inl (.ref 70)), some (.inl (.ref 20)), some (.inr (.inl 82)), some (.inr (.inl 83))], sy_dS F [], sy_dh F X1 X2 (iv_H 2), 0, 0) := by
  refine hd_run (s := 2) (nv := 84) (pc := 2) (L := [some (.inl (.ref 70)), some (.inl (.ref 20)), some (.inr (.inl 82)), some (.inr (.inl 83))]) (S := []) (uh := hd_ov (iv_id 0 iv_B0) []) (ul := [.inl (.inr (.inl 82)), .inl (.inr (.inl 86))]) (f := true) (sp := [2]) (d0 := 1) (O := [false, true]) (T := [(30, [.inr (.inl 83)], [.inr (.inl 25)]), (30, [.inr (.inl 82)], [.inr (.inl 80)]), (0, [.inr (.inl 83), .inl (.int 1)], [])]) (P := [(5, .inr (.inl 18), .inr (.inl 83)), (6, .inr (.inl 83), .inl (.ref 7)), (6, .inr (.inl 82), .inl (.ref 7)), (1, .inr (.inl 84), .inr (.inl 85))]) jm_ok72 (by decide +kernel) (by decide +kernel) hd F X1 X2 (fun F' hF hs => ?_)
  have b18 := hd_b (F := F) (F' := F') (k := 18) (hF 18 (by decide))
  have b83 := hd_b (F := F) (F' := F') (k := 83) (hF 83 (by decide))
  have b82 := hd_b (F := F) (F' := F') (k := 82) (hF 82 (by decide))
  have a25 := hd_ba (F := F) (F' := F') (k := 25) (hF 25 (by decide))
  have t84 : sy_dv F' (.inr (.inl 84)) = .int ((sy_ai F 25).getD (sy_i F 83).toNatClampNeg 0) := hd_rd (hs 0 _ rfl) b83 a25
  have a80 := hd_ba (F := F) (F' := F') (k := 80) (hF 80 (by decide))
  have t85 : sy_dv F' (.inr (.inl 85)) = .int ((sy_ai F 80).getD (sy_i F 82).toNatClampNeg 0) := hd_rd (hs 1 _ rfl) b82 a80
  have t86 : sy_dv F' (.inr (.inl 86)) = .int ((sy_i F 83) + ((1 : Int32))) := hd_o (hs 2 _ rfl) b83 rfl rfl
  have hB' : iv_in F' iv_B0 := iv_in_eq hB (fun j hj => hF j (Nat.lt_of_lt_of_le hj (by decide +kernel)))
  refine ⟨List.forall_mem_cons.mpr ⟨hd_p5 b18 b83 h0, List.forall_mem_cons.mpr ⟨hd_pb b83 (by first | exact h1 | exact h1), List.forall_mem_cons.mpr ⟨hd_pb b82 (by first | exact h2 | exact h2), List.forall_mem_cons.mpr ⟨hd_p1 t84 t85 h3, fun _ h => absurd h List.not_mem_nil⟩⟩⟩⟩, ?_⟩
  refine k _ ?_ ?_ ?_
  · exact fun j hj _ => (hd_keep hB' (Nat.lt_of_lt_of_le hj (by decide +kernel)) (by simp)).trans (hF j (Nat.lt_of_lt_of_le hj (by decide)))
  · exact hd_gi (x := .inr (.inl 82)) (by decide +kernel) b82
  · exact hd_gi (x := .inr (.inl 86)) (by decide +kernel) t86
theorem j2ff_2_p2 {Ls : Nat} {xs : Nat → Int32} {d : Nat} {Q : Option Value → jm_h → Prop} (hd : 2 ≤ d) (F : Nat → sy_d) (X1 X2 : List jm_c) (hB : iv_in F iv_B0)
    (h0 : (sy_i F 83).toInt < (sy_i F 18).toInt)
    (h1 : 0 ≤ (sy_i F 83).toInt ∧ (sy_i F 83).toInt < 7)
    (h2 : 0 ≤ (sy_i F 82).toInt ∧ (sy_i F 82).toInt < 7)
    (h3 : ((sy_ai F 25).getD (sy_i F 83).toNatClampNeg 0).toInt = ((sy_ai F 80).getD (sy_i F 82).toNatClampNeg 0).toInt)
    (h4 : 0 ≤ (sy_i F 83).toInt ∧ (sy_i F 83).toInt < 7)
    (h5 : 0 ≤ (sy_i F 82).toInt ∧ (sy_i F 82).toInt < 7)
    (h6 : ((sy_ai F 27).getD (sy_i F 83).toNatClampNeg 0).toInt ≠ ((sy_ai F 81).getD (sy_i F 82).toNatClampNeg 0).toInt)
    (k : ∀ F1 : Nat → sy_d, (∀ j, j < 82 → True → F1 j = F j) → F1 82 = .inl (.int (sy_i F 82)) → F1 83 = .inl (.int ((sy_i F 83) + ((1 : Int32)))) → hd_W Ls xs d jm_M72 Q (2, sy_dL F1 [some (.inl (.ref 70)), some (.inl (.ref 20)), some (.inr (.inl 82)), some (.inr (.inl 83))], sy_dS F1 [], sy_dh F1 X1 X2 (iv_H 2), 0, 0)) :
    hd_W Ls xs d jm_M72 Q (2, sy_dL F [some (.inl (.ref 70)), some (.inl (.ref 20)), some (.inr (.inl 82)), some (.inr (.inl 83))], sy_dS F [], sy_dh F X1 X2 (iv_H 2), 0, 0) := by
  refine hd_run (s := 2) (nv := 84) (pc := 2) (L := [some (.inl (.ref 70)), some (.inl (.ref 20)), some (.inr (.inl 82)), some (.inr (.inl 83))]) (S := []) (uh := hd_ov (iv_id 0 iv_B0) []) (ul := [.inl (.inr (.inl 82)), .inl (.inr (.inl 88))]) (f := true) (sp := [2]) (d0 := 1) (O := [false, false, true]) (T := [(30, [.inr (.inl 83)], [.inr (.inl 25)]), (30, [.inr (.inl 82)], [.inr (.inl 80)]), (30, [.inr (.inl 83)], [.inr (.inl 27)]), (30, [.inr (.inl 82)], [.inr (.inl 81)]), (0, [.inr (.inl 83), .inl (.int 1)], [])]) (P := [(5, .inr (.inl 18), .inr (.inl 83)), (6, .inr (.inl 83), .inl (.ref 7)), (6, .inr (.inl 82), .inl (.ref 7)), (0, .inr (.inl 84), .inr (.inl 85)), (6, .inr (.inl 83), .inl (.ref 7)), (6, .inr (.inl 82), .inl (.ref 7)), (1, .inr (.inl 86), .inr (.inl 87))]) jm_ok72 (by decide +kernel) (by decide +kernel) hd F X1 X2 (fun F' hF hs => ?_)
  have b18 := hd_b (F := F) (F' := F') (k := 18) (hF 18 (by decide))
  have b83 := hd_b (F := F) (F' := F') (k := 83) (hF 83 (by decide))
  have b82 := hd_b (F := F) (F' := F') (k := 82) (hF 82 (by decide))
  have a25 := hd_ba (F := F) (F' := F') (k := 25) (hF 25 (by decide))
  have t84 : sy_dv F' (.inr (.inl 84)) = .int ((sy_ai F 25).getD (sy_i F 83).toNatClampNeg 0) := hd_rd (hs 0 _ rfl) b83 a25
  have a80 := hd_ba (F := F) (F' := F') (k := 80) (hF 80 (by decide))
  have t85 : sy_dv F' (.inr (.inl 85)) = .int ((sy_ai F 80).getD (sy_i F 82).toNatClampNeg 0) := hd_rd (hs 1 _ rfl) b82 a80
  have a27 := hd_ba (F := F) (F' := F') (k := 27) (hF 27 (by decide))
  have t86 : sy_dv F' (.inr (.inl 86)) = .int ((sy_ai F 27).getD (sy_i F 83).toNatClampNeg 0) := hd_rd (hs 2 _ rfl) b83 a27
  have a81 := hd_ba (F := F) (F' := F') (k := 81) (hF 81 (by decide))
  have t87 : sy_dv F' (.inr (.inl 87)) = .int ((sy_ai F 81).getD (sy_i F 82).toNatClampNeg 0) := hd_rd (hs 3 _ rfl) b82 a81
  have t88 : sy_dv F' (.inr (.inl 88)) = .int ((sy_i F 83) + ((1 : Int32))) := hd_o (hs 4 _ rfl) b83 rfl rfl
  have hB' : iv_in F' iv_B0 := iv_in_eq hB (fun j hj => hF j (Nat.lt_of_lt_of_le hj (by decide +kernel)))
  refine ⟨List.forall_mem_cons.mpr ⟨hd_p5 b18 b83 h0, List.forall_mem_cons.mpr ⟨hd_pb b83 (by first | exact h1 | exact h1), List.forall_mem_cons.mpr ⟨hd_pb b82 (by first | exact h2 | exact h2), List.forall_mem_cons.mpr ⟨hd_p0 t84 t85 h3, List.forall_mem_cons.mpr ⟨hd_pb b83 (by first | exact h4 | exact h4), List.forall_mem_cons.mpr ⟨hd_pb b82 (by first | exact h5 | exact h5), List.forall_mem_cons.mpr ⟨hd_p1 t86 t87 h6, fun _ h => absurd h List.not_mem_nil⟩⟩⟩⟩⟩⟩⟩, ?_⟩
  refine k _ ?_ ?_ ?_
  · exact fun j hj _ => (hd_keep hB' (Nat.lt_of_lt_of_le hj (by decide +kernel)) (by simp)).trans (hF j (Nat.lt_of_lt_of_le hj (by decide)))
  · exact hd_gi (x := .inr (.inl 82)) (by decide +kernel) b82
  · exact hd_gi (x := .inr (.inl 88)) (by decide +kernel) t88
theorem j2ff_2_p3 {Ls : Nat} {xs : Nat → Int32} {d : Nat} {Q : Option Value → jm_h → Prop} (hd : 2 ≤ d) (F : Nat → sy_d) (X1 X2 : List jm_c) (hB : iv_in F iv_B0)
    (h0 : (sy_i F 83).toInt < (sy_i F 18).toInt)
    (h1 : 0 ≤ (sy_i F 83).toInt ∧ (sy_i F 83).toInt < 7)
    (h2 : 0 ≤ (sy_i F 82).toInt ∧ (sy_i F 82).toInt < 7)
    (h3 : ((sy_ai F 25).getD (sy_i F 83).toNatClampNeg 0).toInt = ((sy_ai F 80).getD (sy_i F 82).toNatClampNeg 0).toInt)
    (h4 : 0 ≤ (sy_i F 83).toInt ∧ (sy_i F 83).toInt < 7)
    (h5 : 0 ≤ (sy_i F 82).toInt ∧ (sy_i F 82).toInt < 7)
    (h6 : ((sy_ai F 27).getD (sy_i F 83).toNatClampNeg 0).toInt = ((sy_ai F 81).getD (sy_i F 82).toNatClampNeg 0).toInt)
    (k : ∀ F1 : Nat → sy_d, (∀ j, j < 82 → True → F1 j = F j) → Q (some (.int (sy_i F 83))) (sy_dh F1 X1 X2 (iv_H 2))) :
    hd_W Ls xs d jm_M72 Q (2, sy_dL F [some (.inl (.ref 70)), some (.inl (.ref 20)), some (.inr (.inl 82)), some (.inr (.inl 83))], sy_dS F [], sy_dh F X1 X2 (iv_H 2), 0, 0) := by
  refine hd_ret (s := 2) (nv := 84) (v := some (.inr (.inl 83))) (uh := hd_ov (iv_id 0 iv_B0) []) (f := true) (sp := [2]) (d0 := 1) (O := [false, false, false]) (T := [(30, [.inr (.inl 83)], [.inr (.inl 25)]), (30, [.inr (.inl 82)], [.inr (.inl 80)]), (30, [.inr (.inl 83)], [.inr (.inl 27)]), (30, [.inr (.inl 82)], [.inr (.inl 81)])]) (P := [(5, .inr (.inl 18), .inr (.inl 83)), (6, .inr (.inl 83), .inl (.ref 7)), (6, .inr (.inl 82), .inl (.ref 7)), (0, .inr (.inl 84), .inr (.inl 85)), (6, .inr (.inl 83), .inl (.ref 7)), (6, .inr (.inl 82), .inl (.ref 7)), (0, .inr (.inl 86), .inr (.inl 87))]) jm_ok72 (by decide +kernel) (by decide +kernel) hd F X1 X2 (fun F' hF hs => ?_)
  have b18 := hd_b (F := F) (F' := F') (k := 18) (hF 18 (by decide))
  have b83 := hd_b (F := F) (F' := F') (k := 83) (hF 83 (by decide))
  have b82 := hd_b (F := F) (F' := F') (k := 82) (hF 82 (by decide))
  have a25 := hd_ba (F := F) (F' := F') (k := 25) (hF 25 (by decide))
  have t84 : sy_dv F' (.inr (.inl 84)) = .int ((sy_ai F 25).getD (sy_i F 83).toNatClampNeg 0) := hd_rd (hs 0 _ rfl) b83 a25
  have a80 := hd_ba (F := F) (F' := F') (k := 80) (hF 80 (by decide))
  have t85 : sy_dv F' (.inr (.inl 85)) = .int ((sy_ai F 80).getD (sy_i F 82).toNatClampNeg 0) := hd_rd (hs 1 _ rfl) b82 a80
  have a27 := hd_ba (F := F) (F' := F') (k := 27) (hF 27 (by decide))
  have t86 : sy_dv F' (.inr (.inl 86)) = .int ((sy_ai F 27).getD (sy_i F 83).toNatClampNeg 0) := hd_rd (hs 2 _ rfl) b83 a27
  have a81 := hd_ba (F := F) (F' := F') (k := 81) (hF 81 (by decide))
  have t87 : sy_dv F' (.inr (.inl 87)) = .int ((sy_ai F 81).getD (sy_i F 82).toNatClampNeg 0) := hd_rd (hs 3 _ rfl) b82 a81
  have hB' : iv_in F' iv_B0 := iv_in_eq hB (fun j hj => hF j (Nat.lt_of_lt_of_le hj (by decide +kernel)))
  have hk := k (sy_cm F' (hd_ov (iv_id 0 iv_B0) [] ++ [])) (fun j hj _ => (hd_keep hB' (Nat.lt_of_lt_of_le hj (by decide +kernel)) (by simp)).trans (hF j (Nat.lt_of_lt_of_le hj (by decide))))
  refine ⟨List.forall_mem_cons.mpr ⟨hd_p5 b18 b83 h0, List.forall_mem_cons.mpr ⟨hd_pb b83 (by first | exact h1 | exact h1), List.forall_mem_cons.mpr ⟨hd_pb b82 (by first | exact h2 | exact h2), List.forall_mem_cons.mpr ⟨hd_p0 t84 t85 h3, List.forall_mem_cons.mpr ⟨hd_pb b83 (by first | exact h4 | exact h4), List.forall_mem_cons.mpr ⟨hd_pb b82 (by first | exact h5 | exact h5), List.forall_mem_cons.mpr ⟨hd_p0 t86 t87 h6, fun _ h => absurd h List.not_mem_nil⟩⟩⟩⟩⟩⟩⟩, ?_⟩
  show Q (some (sy_dv F' (.inr (.inl 83)))) _
  rw [b83]
  exact hk
theorem j2ff_2 {Ls : Nat} {xs : Nat → Int32} {d : Nat} {Q : Option Value → jm_h → Prop} (hd : 2 ≤ d) (F : Nat → sy_d) (X1 X2 : List jm_c) (hB : iv_in F iv_B0)
    (a82 : 0 ≤ (sy_i F 82).toInt ∧ (sy_i F 82).toInt ≤ 6)
    (a83 : 0 ≤ (sy_i F 83).toInt ∧ (sy_i F 83).toInt ≤ 7)
    (k0 : (sy_i F 18).toInt ≤ (sy_i F 83).toInt → ∀ F1 : Nat → sy_d, iv_in F1 iv_B0 → (∀ j, j < 82 → j ∉ ([] : List Nat) → F1 j = F j) → Q (some (.int (((-2) : Int32)))) (sy_dh F1 X1 X2 (iv_H 2)))
    (k1 : (sy_i F 83).toInt < (sy_i F 18).toInt → ((sy_ai F 25).getD ((sy_i F 83).toInt).toNat 0).toInt ≠ ((sy_ai F 80).getD ((sy_i F 82).toInt).toNat 0).toInt → ∀ F1 : Nat → sy_d, iv_in F1 iv_B0 → (∀ j, j < 82 → j ∉ ([] : List Nat) → F1 j = F j) → (sy_i F1 82).toInt = (sy_i F 82).toInt → sy_i F1 82 = sy_i F 82 → (sy_i F1 83).toInt = ((sy_i F 83).toInt + 1) → sy_i F1 83 = (sy_i F 83) + ((1 : Int32)) → hd_W Ls xs d jm_M72 Q (2, sy_dL F1 [some (.inl (.ref 70)), some (.inl (.ref 20)), some (.inr (.inl 82)), some (.inr (.inl 83))], sy_dS F1 [], sy_dh F1 X1 X2 (iv_H 2), 0, 0))
    (k2 : (sy_i F 83).toInt < (sy_i F 18).toInt → ((sy_ai F 25).getD ((sy_i F 83).toInt).toNat 0).toInt = ((sy_ai F 80).getD ((sy_i F 82).toInt).toNat 0).toInt → ((sy_ai F 27).getD ((sy_i F 83).toInt).toNat 0).toInt ≠ ((sy_ai F 81).getD ((sy_i F 82).toInt).toNat 0).toInt → ∀ F1 : Nat → sy_d, iv_in F1 iv_B0 → (∀ j, j < 82 → j ∉ ([] : List Nat) → F1 j = F j) → (sy_i F1 82).toInt = (sy_i F 82).toInt → sy_i F1 82 = sy_i F 82 → (sy_i F1 83).toInt = ((sy_i F 83).toInt + 1) → sy_i F1 83 = (sy_i F 83) + ((1 : Int32)) → hd_W Ls xs d jm_M72 Q (2, sy_dL F1 [some (.inl (.ref 70)), some (.inl (.ref 20)), some (.inr (.inl 82)), some (.inr (.inl 83))], sy_dS F1 [], sy_dh F1 X1 X2 (iv_H 2), 0, 0))
    (k3 : (sy_i F 83).toInt < (sy_i F 18).toInt → ((sy_ai F 25).getD ((sy_i F 83).toInt).toNat 0).toInt = ((sy_ai F 80).getD ((sy_i F 82).toInt).toNat 0).toInt → ((sy_ai F 27).getD ((sy_i F 83).toInt).toNat 0).toInt = ((sy_ai F 81).getD ((sy_i F 82).toInt).toNat 0).toInt → ∀ F1 : Nat → sy_d, iv_in F1 iv_B0 → (∀ j, j < 82 → j ∉ ([] : List Nat) → F1 j = F j) → Q (some (.int (sy_i F 83))) (sy_dh F1 X1 X2 (iv_H 2))) :
    hd_W Ls xs d jm_M72 Q (2, sy_dL F [some (.inl (.ref 70)), some (.inl (.ref 20)), some (.inr (.inl 82)), some (.inr (.inl 83))], sy_dS F [], sy_dh F X1 X2 (iv_H 2), 0, 0) := by
  by_cases g0 : (sy_i F 18).toInt ≤ (sy_i F 83).toInt
  · have c18 := nz_bx hB (k := 18) (lo := 0) (hi := 7) rfl
    exact j2ff_2_p0 hd F X1 X2 hB (by first | exact g0 | (simp only [nz_c]; exact g0)) (fun F1 g  => k0 g0 F1 (nz_in0 hB [] (fun j hj hn => g j hj (by simp only [List.mem_cons, List.not_mem_nil, or_false, not_or] at hn; exact trivial)) (List.forall_mem_nil _)) (fun j hj hn => g j hj (by simp only [List.mem_cons, List.not_mem_nil, or_false, not_or] at hn; exact trivial)) )
  replace g0 : (sy_i F 83).toInt < (sy_i F 18).toInt := by omega
  by_cases g1 : ((sy_ai F 25).getD ((sy_i F 83).toInt).toNat 0).toInt ≠ ((sy_ai F 80).getD ((sy_i F 82).toInt).toNat 0).toInt
  · have c18 := nz_bx hB (k := 18) (lo := 0) (hi := 7) rfl
    have q84 : (sy_ai F 25).getD (sy_i F 83).toNatClampNeg 0 = (sy_ai F 25).getD ((sy_i F 83).toInt).toNat 0 := by simp only [nz_c]
    have n84 : nzI ((sy_ai F 25).getD (sy_i F 83).toNatClampNeg 0) (((sy_ai F 25).getD ((sy_i F 83).toInt).toNat 0).toInt) := congrArg Int32.toInt q84
    have q85 : (sy_ai F 80).getD (sy_i F 82).toNatClampNeg 0 = (sy_ai F 80).getD ((sy_i F 82).toInt).toNat 0 := by simp only [nz_c]
    have n85 : nzI ((sy_ai F 80).getD (sy_i F 82).toNatClampNeg 0) (((sy_ai F 80).getD ((sy_i F 82).toInt).toNat 0).toInt) := congrArg Int32.toInt q85
    have n86 : nzI ((sy_i F 83) + ((1 : Int32))) (((sy_i F 83).toInt + 1)) := nz_add (rfl : (sy_i F 83).toInt = (sy_i F 83).toInt) (by decide : ((1 : Int32)).toInt = 1) (by omega) (by omega)
    exact j2ff_2_p1 hd F X1 X2 hB (by first | exact g0 | (simp only [nz_c]; exact g0)) (by first | exact ⟨by omega, by omega⟩ | (simp only [nz_c]; exact ⟨by omega, by omega⟩)) (by first | exact ⟨by omega, by omega⟩ | (simp only [nz_c]; exact ⟨by omega, by omega⟩)) (by first | exact g1 | (simp only [nz_c]; exact g1) | (rw [(nzE n84)]; exact g1) | (rw [(nzE n85)]; exact g1) | (rw [(nzE n84), (nzE n85)]; exact g1)) (fun F1 g e82 e83 => k1 g0 g1 F1 (nz_in0 hB [] (fun j hj hn => g j hj (by simp only [List.mem_cons, List.not_mem_nil, or_false, not_or] at hn; exact trivial)) (List.forall_mem_nil _)) (fun j hj hn => g j hj (by simp only [List.mem_cons, List.not_mem_nil, or_false, not_or] at hn; exact trivial)) ((congrArg Int32.toInt (zz_i e82)).trans (rfl : (sy_i F 82).toInt = (sy_i F 82).toInt)) ((zz_i e82).trans (rfl : sy_i F 82 = sy_i F 82)) ((congrArg Int32.toInt (zz_i e83)).trans (nzE n86)) ((zz_i e83).trans (rfl : (sy_i F 83) + ((1 : Int32)) = (sy_i F 83) + ((1 : Int32)))))
  replace g1 : ((sy_ai F 25).getD ((sy_i F 83).toInt).toNat 0).toInt = ((sy_ai F 80).getD ((sy_i F 82).toInt).toNat 0).toInt := by omega
  by_cases g2 : ((sy_ai F 27).getD ((sy_i F 83).toInt).toNat 0).toInt ≠ ((sy_ai F 81).getD ((sy_i F 82).toInt).toNat 0).toInt
  · have c18 := nz_bx hB (k := 18) (lo := 0) (hi := 7) rfl
    have q84 : (sy_ai F 25).getD (sy_i F 83).toNatClampNeg 0 = (sy_ai F 25).getD ((sy_i F 83).toInt).toNat 0 := by simp only [nz_c]
    have n84 : nzI ((sy_ai F 25).getD (sy_i F 83).toNatClampNeg 0) (((sy_ai F 25).getD ((sy_i F 83).toInt).toNat 0).toInt) := congrArg Int32.toInt q84
    have q85 : (sy_ai F 80).getD (sy_i F 82).toNatClampNeg 0 = (sy_ai F 80).getD ((sy_i F 82).toInt).toNat 0 := by simp only [nz_c]
    have n85 : nzI ((sy_ai F 80).getD (sy_i F 82).toNatClampNeg 0) (((sy_ai F 80).getD ((sy_i F 82).toInt).toNat 0).toInt) := congrArg Int32.toInt q85
    have q86 : (sy_ai F 27).getD (sy_i F 83).toNatClampNeg 0 = (sy_ai F 27).getD ((sy_i F 83).toInt).toNat 0 := by simp only [nz_c]
    have n86 : nzI ((sy_ai F 27).getD (sy_i F 83).toNatClampNeg 0) (((sy_ai F 27).getD ((sy_i F 83).toInt).toNat 0).toInt) := congrArg Int32.toInt q86
    have q87 : (sy_ai F 81).getD (sy_i F 82).toNatClampNeg 0 = (sy_ai F 81).getD ((sy_i F 82).toInt).toNat 0 := by simp only [nz_c]
    have n87 : nzI ((sy_ai F 81).getD (sy_i F 82).toNatClampNeg 0) (((sy_ai F 81).getD ((sy_i F 82).toInt).toNat 0).toInt) := congrArg Int32.toInt q87
    have n88 : nzI ((sy_i F 83) + ((1 : Int32))) (((sy_i F 83).toInt + 1)) := nz_add (rfl : (sy_i F 83).toInt = (sy_i F 83).toInt) (by decide : ((1 : Int32)).toInt = 1) (by omega) (by omega)
    exact j2ff_2_p2 hd F X1 X2 hB (by first | exact g0 | (simp only [nz_c]; exact g0)) (by first | exact ⟨by omega, by omega⟩ | (simp only [nz_c]; exact ⟨by omega, by omega⟩)) (by first | exact ⟨by omega, by omega⟩ | (simp only [nz_c]; exact ⟨by omega, by omega⟩)) (by first | exact g1 | (simp only [nz_c]; exact g1) | (rw [(nzE n84)]; exact g1) | (rw [(nzE n85)]; exact g1) | (rw [(nzE n84), (nzE n85)]; exact g1)) (by first | exact ⟨by omega, by omega⟩ | (simp only [nz_c]; exact ⟨by omega, by omega⟩)) (by first | exact ⟨by omega, by omega⟩ | (simp only [nz_c]; exact ⟨by omega, by omega⟩)) (by first | exact g2 | (simp only [nz_c]; exact g2) | (rw [(nzE n86)]; exact g2) | (rw [(nzE n87)]; exact g2) | (rw [(nzE n86), (nzE n87)]; exact g2)) (fun F1 g e82 e83 => k2 g0 g1 g2 F1 (nz_in0 hB [] (fun j hj hn => g j hj (by simp only [List.mem_cons, List.not_mem_nil, or_false, not_or] at hn; exact trivial)) (List.forall_mem_nil _)) (fun j hj hn => g j hj (by simp only [List.mem_cons, List.not_mem_nil, or_false, not_or] at hn; exact trivial)) ((congrArg Int32.toInt (zz_i e82)).trans (rfl : (sy_i F 82).toInt = (sy_i F 82).toInt)) ((zz_i e82).trans (rfl : sy_i F 82 = sy_i F 82)) ((congrArg Int32.toInt (zz_i e83)).trans (nzE n88)) ((zz_i e83).trans (rfl : (sy_i F 83) + ((1 : Int32)) = (sy_i F 83) + ((1 : Int32)))))
  replace g2 : ((sy_ai F 27).getD ((sy_i F 83).toInt).toNat 0).toInt = ((sy_ai F 81).getD ((sy_i F 82).toInt).toNat 0).toInt := by omega
  have c18 := nz_bx hB (k := 18) (lo := 0) (hi := 7) rfl
  have q84 : (sy_ai F 25).getD (sy_i F 83).toNatClampNeg 0 = (sy_ai F 25).getD ((sy_i F 83).toInt).toNat 0 := by simp only [nz_c]
  have n84 : nzI ((sy_ai F 25).getD (sy_i F 83).toNatClampNeg 0) (((sy_ai F 25).getD ((sy_i F 83).toInt).toNat 0).toInt) := congrArg Int32.toInt q84
  have q85 : (sy_ai F 80).getD (sy_i F 82).toNatClampNeg 0 = (sy_ai F 80).getD ((sy_i F 82).toInt).toNat 0 := by simp only [nz_c]
  have n85 : nzI ((sy_ai F 80).getD (sy_i F 82).toNatClampNeg 0) (((sy_ai F 80).getD ((sy_i F 82).toInt).toNat 0).toInt) := congrArg Int32.toInt q85
  have q86 : (sy_ai F 27).getD (sy_i F 83).toNatClampNeg 0 = (sy_ai F 27).getD ((sy_i F 83).toInt).toNat 0 := by simp only [nz_c]
  have n86 : nzI ((sy_ai F 27).getD (sy_i F 83).toNatClampNeg 0) (((sy_ai F 27).getD ((sy_i F 83).toInt).toNat 0).toInt) := congrArg Int32.toInt q86
  have q87 : (sy_ai F 81).getD (sy_i F 82).toNatClampNeg 0 = (sy_ai F 81).getD ((sy_i F 82).toInt).toNat 0 := by simp only [nz_c]
  have n87 : nzI ((sy_ai F 81).getD (sy_i F 82).toNatClampNeg 0) (((sy_ai F 81).getD ((sy_i F 82).toInt).toNat 0).toInt) := congrArg Int32.toInt q87
  exact j2ff_2_p3 hd F X1 X2 hB (by first | exact g0 | (simp only [nz_c]; exact g0)) (by first | exact ⟨by omega, by omega⟩ | (simp only [nz_c]; exact ⟨by omega, by omega⟩)) (by first | exact ⟨by omega, by omega⟩ | (simp only [nz_c]; exact ⟨by omega, by omega⟩)) (by first | exact g1 | (simp only [nz_c]; exact g1) | (rw [(nzE n84)]; exact g1) | (rw [(nzE n85)]; exact g1) | (rw [(nzE n84), (nzE n85)]; exact g1)) (by first | exact ⟨by omega, by omega⟩ | (simp only [nz_c]; exact ⟨by omega, by omega⟩)) (by first | exact ⟨by omega, by omega⟩ | (simp only [nz_c]; exact ⟨by omega, by omega⟩)) (by first | exact g2 | (simp only [nz_c]; exact g2) | (rw [(nzE n86)]; exact g2) | (rw [(nzE n87)]; exact g2) | (rw [(nzE n86), (nzE n87)]; exact g2)) (fun F1 g  => by rw [(rfl : sy_i F 83 = sy_i F 83)]; exact k3 g0 g1 g2 F1 (nz_in0 hB [] (fun j hj hn => g j hj (by simp only [List.mem_cons, List.not_mem_nil, or_false, not_or] at hn; exact trivial)) (List.forall_mem_nil _)) (fun j hj hn => g j hj (by simp only [List.mem_cons, List.not_mem_nil, or_false, not_or] at hn; exact trivial)) )
theorem j2al_0_p0 {Ls : Nat} {xs : Nat → Int32} {d : Nat} {Q : Option Value → jm_h → Prop} (hd : 1 ≤ d) (F : Nat → sy_d) (X1 X2 : List jm_c) (hB : iv_in F iv_B0)
    (k : ∀ F1 : Nat → sy_d, (∀ j, j < 82 → True → F1 j = F j) → F1 82 = .inl (.int (sy_i F 82)) → F1 83 = .inl (.int ((0 : Int32))) → F1 84 = .inl (.int ((0 : Int32))) → hd_W Ls xs d jm_M75 Q (4, sy_dL F1 [some (.inl (.ref 70)), some (.inr (.inl 82)), some (.inr (.inl 83)), some (.inr (.inl 84))], sy_dS F1 [], sy_dh F1 X1 X2 (iv_H 2), 0, 0)) :
    hd_W Ls xs d jm_M75 Q (0, sy_dL F [some (.inl (.ref 70)), some (.inr (.inl 82)), none, none], sy_dS F [], sy_dh F X1 X2 (iv_H 2), 0, 0) := by
  refine hd_run (s := 2) (nv := 83) (pc := 4) (L := [some (.inl (.ref 70)), some (.inr (.inl 82)), some (.inr (.inl 83)), some (.inr (.inl 84))]) (S := []) (uh := hd_ov (iv_id 0 iv_B0) []) (ul := [.inl (.inr (.inl 82)), .inl (.inl (.int 0)), .inl (.inl (.int 0))]) (f := true) (sp := [4]) (d0 := 0) (O := []) (T := []) (P := []) jm_ok75 (by decide +kernel) (by decide +kernel) hd F X1 X2 (fun F' hF hs => ?_)
  have b82 := hd_b (F := F) (F' := F') (k := 82) (hF 82 (by decide))
  have hB' : iv_in F' iv_B0 := iv_in_eq hB (fun j hj => hF j (Nat.lt_of_lt_of_le hj (by decide +kernel)))
  refine ⟨fun _ h => absurd h List.not_mem_nil, ?_⟩
  refine k _ ?_ ?_ ?_ ?_
  · exact fun j hj _ => (hd_keep hB' (Nat.lt_of_lt_of_le hj (by decide +kernel)) (by simp)).trans (hF j (Nat.lt_of_lt_of_le hj (by decide)))
  · exact hd_gi (x := .inr (.inl 82)) (by decide +kernel) b82
  · exact hd_gi (x := .inl (.int 0)) (by decide +kernel) rfl
  · exact hd_gi (x := .inl (.int 0)) (by decide +kernel) rfl
theorem j2al_0 {Ls : Nat} {xs : Nat → Int32} {d : Nat} {Q : Option Value → jm_h → Prop} (hd : 1 ≤ d) (F : Nat → sy_d) (X1 X2 : List jm_c) (hB : iv_in F iv_B0)
    (k0 : ∀ F1 : Nat → sy_d, iv_in F1 iv_B0 → (∀ j, j < 82 → j ∉ ([] : List Nat) → F1 j = F j) → (sy_i F1 82).toInt = (sy_i F 82).toInt → sy_i F1 82 = sy_i F 82 → (sy_i F1 83).toInt = 0 → sy_i F1 83 = (0 : Int32) → (sy_i F1 84).toInt = 0 → sy_i F1 84 = (0 : Int32) → hd_W Ls xs d jm_M75 Q (4, sy_dL F1 [some (.inl (.ref 70)), some (.inr (.inl 82)), some (.inr (.inl 83)), some (.inr (.inl 84))], sy_dS F1 [], sy_dh F1 X1 X2 (iv_H 2), 0, 0)) :
    hd_W Ls xs d jm_M75 Q (0, sy_dL F [some (.inl (.ref 70)), some (.inr (.inl 82)), none, none], sy_dS F [], sy_dh F X1 X2 (iv_H 2), 0, 0) := by
  exact j2al_0_p0 hd F X1 X2 hB  (fun F1 g e82 e83 e84 => k0 F1 (nz_in0 hB [] (fun j hj hn => g j hj (by simp only [List.mem_cons, List.not_mem_nil, or_false, not_or] at hn; exact trivial)) (List.forall_mem_nil _)) (fun j hj hn => g j hj (by simp only [List.mem_cons, List.not_mem_nil, or_false, not_or] at hn; exact trivial)) ((congrArg Int32.toInt (zz_i e82)).trans (rfl : (sy_i F 82).toInt = (sy_i F 82).toInt)) ((zz_i e82).trans (rfl : sy_i F 82 = sy_i F 82)) ((congrArg Int32.toInt (zz_i e83)).trans (by decide : ((0 : Int32)).toInt = 0)) ((zz_i e83).trans (rfl : (0 : Int32) = (0 : Int32))) ((congrArg Int32.toInt (zz_i e84)).trans (by decide : ((0 : Int32)).toInt = 0)) ((zz_i e84).trans (rfl : (0 : Int32) = (0 : Int32))))
theorem j2al_4_p0 {Ls : Nat} {xs : Nat → Int32} {d : Nat} {Q : Option Value → jm_h → Prop} (hd : 1 ≤ d) (F : Nat → sy_d) (X1 X2 : List jm_c) (hB : iv_in F iv_B0)
    (h0 : (sy_i F 82).toInt ≤ (sy_i F 84).toInt)
    (k : ∀ F1 : Nat → sy_d, (∀ j, j < 82 → True → F1 j = F j) → Q (some (.int (sy_i F 83))) (sy_dh F1 X1 X2 (iv_H 2))) :
    hd_W Ls xs d jm_M75 Q (4, sy_dL F [some (.inl (.ref 70)), some (.inr (.inl 82)), some (.inr (.inl 83)), some (.inr (.inl 84))], sy_dS F [], sy_dh F X1 X2 (iv_H 2), 0, 0) := by
  refine hd_ret (s := 2) (nv := 85) (v := some (.inr (.inl 83))) (uh := hd_ov (iv_id 0 iv_B0) []) (f := true) (sp := [4]) (d0 := 0) (O := [true]) (T := []) (P := [(4, .inr (.inl 82), .inr (.inl 84))]) jm_ok75 (by decide +kernel) (by decide +kernel) hd F X1 X2 (fun F' hF hs => ?_)
  have b82 := hd_b (F := F) (F' := F') (k := 82) (hF 82 (by decide))
  have b84 := hd_b (F := F) (F' := F') (k := 84) (hF 84 (by decide))
  have b83 := hd_b (F := F) (F' := F') (k := 83) (hF 83 (by decide))
  have hB' : iv_in F' iv_B0 := iv_in_eq hB (fun j hj => hF j (Nat.lt_of_lt_of_le hj (by decide +kernel)))
  have hk := k (sy_cm F' (hd_ov (iv_id 0 iv_B0) [] ++ [])) (fun j hj _ => (hd_keep hB' (Nat.lt_of_lt_of_le hj (by decide +kernel)) (by simp)).trans (hF j (Nat.lt_of_lt_of_le hj (by decide))))
  refine ⟨List.forall_mem_cons.mpr ⟨hd_p4 b82 b84 h0, fun _ h => absurd h List.not_mem_nil⟩, ?_⟩
  show Q (some (sy_dv F' (.inr (.inl 83)))) _
  rw [b83]
  exact hk
theorem j2al_4_p1 {Ls : Nat} {xs : Nat → Int32} {d : Nat} {Q : Option Value → jm_h → Prop} (hd : 1 ≤ d) (F : Nat → sy_d) (X1 X2 : List jm_c) (hB : iv_in F iv_B0)
    (h0 : (sy_i F 84).toInt < (sy_i F 82).toInt)
    (h1 : 0 ≤ (sy_i F 84).toInt ∧ (sy_i F 84).toInt < 7)
    (h2 : 0 ≤ (sy_i F 82).toInt ∧ (sy_i F 82).toInt < 7)
    (h3 : ((sy_ai F 80).getD (sy_i F 84).toNatClampNeg 0).toInt ≠ ((sy_ai F 80).getD (sy_i F 82).toNatClampNeg 0).toInt)
    (k : ∀ F1 : Nat → sy_d, (∀ j, j < 82 → True → F1 j = F j) → F1 82 = .inl (.int (sy_i F 82)) → F1 83 = .inl (.int (sy_i F 83)) → F1 84 = .inl (.int ((sy_i F 84) + ((1 : Int32)))) → hd_W Ls xs d jm_M75 Q (4, sy_dL F1 [some (.inl (.ref 70)), some (.inr (.inl 82)), some (.inr (.inl 83)), some (.inr (.inl 84))], sy_dS F1 [], sy_dh F1 X1 X2 (iv_H 2), 0, 0)) :
    hd_W Ls xs d jm_M75 Q (4, sy_dL F [some (.inl (.ref 70)), some (.inr (.inl 82)), some (.inr (.inl 83)), some (.inr (.inl 84))], sy_dS F [], sy_dh F X1 X2 (iv_H 2), 0, 0) := by
  refine hd_run (s := 2) (nv := 85) (pc := 4) (L := [some (.inl (.ref 70)), some (.inr (.inl 82)), some (.inr (.inl 83)), some (.inr (.inl 84))]) (S := []) (uh := hd_ov (iv_id 0 iv_B0) []) (ul := [.inl (.inr (.inl 82)), .inl (.inr (.inl 83)), .inl (.inr (.inl 87))]) (f := true) (sp := [4]) (d0 := 0) (O := [false, true]) (T := [(30, [.inr (.inl 84)], [.inr (.inl 80)]), (30, [.inr (.inl 82)], [.inr (.inl 80)]), (0, [.inr (.inl 84), .inl (.int 1)], [])]) (P := [(5, .inr (.inl 82), .inr (.inl 84)), (6, .inr (.inl 84), .inl (.ref 7)), (6, .inr (.inl 82), .inl (.ref 7)), (1, .inr (.inl 85), .inr (.inl 86))]) jm_ok75 (by decide +kernel) (by decide +kernel) hd F X1 X2 (fun F' hF hs => ?_)
  have b82 := hd_b (F := F) (F' := F') (k := 82) (hF 82 (by decide))
  have b84 := hd_b (F := F) (F' := F') (k := 84) (hF 84 (by decide))
  have a80 := hd_ba (F := F) (F' := F') (k := 80) (hF 80 (by decide))
  have t85 : sy_dv F' (.inr (.inl 85)) = .int ((sy_ai F 80).getD (sy_i F 84).toNatClampNeg 0) := hd_rd (hs 0 _ rfl) b84 a80
  have t86 : sy_dv F' (.inr (.inl 86)) = .int ((sy_ai F 80).getD (sy_i F 82).toNatClampNeg 0) := hd_rd (hs 1 _ rfl) b82 a80
  have b83 := hd_b (F := F) (F' := F') (k := 83) (hF 83 (by decide))
  have t87 : sy_dv F' (.inr (.inl 87)) = .int ((sy_i F 84) + ((1 : Int32))) := hd_o (hs 2 _ rfl) b84 rfl rfl
  have hB' : iv_in F' iv_B0 := iv_in_eq hB (fun j hj => hF j (Nat.lt_of_lt_of_le hj (by decide +kernel)))
  refine ⟨List.forall_mem_cons.mpr ⟨hd_p5 b82 b84 h0, List.forall_mem_cons.mpr ⟨hd_pb b84 (by first | exact h1 | exact h1), List.forall_mem_cons.mpr ⟨hd_pb b82 (by first | exact h2 | exact h2), List.forall_mem_cons.mpr ⟨hd_p1 t85 t86 h3, fun _ h => absurd h List.not_mem_nil⟩⟩⟩⟩, ?_⟩
  refine k _ ?_ ?_ ?_ ?_
  · exact fun j hj _ => (hd_keep hB' (Nat.lt_of_lt_of_le hj (by decide +kernel)) (by simp)).trans (hF j (Nat.lt_of_lt_of_le hj (by decide)))
  · exact hd_gi (x := .inr (.inl 82)) (by decide +kernel) b82
  · exact hd_gi (x := .inr (.inl 83)) (by decide +kernel) b83
  · exact hd_gi (x := .inr (.inl 87)) (by decide +kernel) t87
theorem j2al_4_p2 {Ls : Nat} {xs : Nat → Int32} {d : Nat} {Q : Option Value → jm_h → Prop} (hd : 1 ≤ d) (F : Nat → sy_d) (X1 X2 : List jm_c) (hB : iv_in F iv_B0)
    (h0 : (sy_i F 84).toInt < (sy_i F 82).toInt)
    (h1 : 0 ≤ (sy_i F 84).toInt ∧ (sy_i F 84).toInt < 7)
    (h2 : 0 ≤ (sy_i F 82).toInt ∧ (sy_i F 82).toInt < 7)
    (h3 : ((sy_ai F 80).getD (sy_i F 84).toNatClampNeg 0).toInt = ((sy_ai F 80).getD (sy_i F 82).toNatClampNeg 0).toInt)
    (h4 : 0 ≤ (sy_i F 84).toInt ∧ (sy_i F 84).toInt < 7)
    (h5 : 0 ≤ (sy_i F 82).toInt ∧ (sy_i F 82).toInt < 7)
    (h6 : ((sy_ai F 81).getD (sy_i F 84).toNatClampNeg 0).toInt ≠ ((sy_ai F 81).getD (sy_i F 82).toNatClampNeg 0).toInt)
    (k : ∀ F1 : Nat → sy_d, (∀ j, j < 82 → True → F1 j = F j) → F1 82 = .inl (.int (sy_i F 82)) → F1 83 = .inl (.int (sy_i F 83)) → F1 84 = .inl (.int ((sy_i F 84) + ((1 : Int32)))) → hd_W Ls xs d jm_M75 Q (4, sy_dL F1 [some (.inl (.ref 70)), some (.inr (.inl 82)), some (.inr (.inl 83)), some (.inr (.inl 84))], sy_dS F1 [], sy_dh F1 X1 X2 (iv_H 2), 0, 0)) :
    hd_W Ls xs d jm_M75 Q (4, sy_dL F [some (.inl (.ref 70)), some (.inr (.inl 82)), some (.inr (.inl 83)), some (.inr (.inl 84))], sy_dS F [], sy_dh F X1 X2 (iv_H 2), 0, 0) := by
  refine hd_run (s := 2) (nv := 85) (pc := 4) (L := [some (.inl (.ref 70)), some (.inr (.inl 82)), some (.inr (.inl 83)), some (.inr (.inl 84))]) (S := []) (uh := hd_ov (iv_id 0 iv_B0) []) (ul := [.inl (.inr (.inl 82)), .inl (.inr (.inl 83)), .inl (.inr (.inl 89))]) (f := true) (sp := [4]) (d0 := 0) (O := [false, false, true]) (T := [(30, [.inr (.inl 84)], [.inr (.inl 80)]), (30, [.inr (.inl 82)], [.inr (.inl 80)]), (30, [.inr (.inl 84)], [.inr (.inl 81)]), (30, [.inr (.inl 82)], [.inr (.inl 81)]), (0, [.inr (.inl 84), .inl (.int 1)], [])]) (P := [(5, .inr (.inl 82), .inr (.inl 84)), (6, .inr (.inl 84), .inl (.ref 7)), (6, .inr (.inl 82), .inl (.ref 7)), (0, .inr (.inl 85), .inr (.inl 86)), (6, .inr (.inl 84), .inl (.ref 7)), (6, .inr (.inl 82), .inl (.ref 7)), (1, .inr (.inl 87), .inr (.inl 88))]) jm_ok75 (by decide +kernel) (by decide +kernel) hd F X1 X2 (fun F' hF hs => ?_)
  have b82 := hd_b (F := F) (F' := F') (k := 82) (hF 82 (by decide))
  have b84 := hd_b (F := F) (F' := F') (k := 84) (hF 84 (by decide))
  have a80 := hd_ba (F := F) (F' := F') (k := 80) (hF 80 (by decide))
  have t85 : sy_dv F' (.inr (.inl 85)) = .int ((sy_ai F 80).getD (sy_i F 84).toNatClampNeg 0) := hd_rd (hs 0 _ rfl) b84 a80
  have t86 : sy_dv F' (.inr (.inl 86)) = .int ((sy_ai F 80).getD (sy_i F 82).toNatClampNeg 0) := hd_rd (hs 1 _ rfl) b82 a80
  have a81 := hd_ba (F := F) (F' := F') (k := 81) (hF 81 (by decide))
  have t87 : sy_dv F' (.inr (.inl 87)) = .int ((sy_ai F 81).getD (sy_i F 84).toNatClampNeg 0) := hd_rd (hs 2 _ rfl) b84 a81
  have t88 : sy_dv F' (.inr (.inl 88)) = .int ((sy_ai F 81).getD (sy_i F 82).toNatClampNeg 0) := hd_rd (hs 3 _ rfl) b82 a81
  have b83 := hd_b (F := F) (F' := F') (k := 83) (hF 83 (by decide))
  have t89 : sy_dv F' (.inr (.inl 89)) = .int ((sy_i F 84) + ((1 : Int32))) := hd_o (hs 4 _ rfl) b84 rfl rfl
  have hB' : iv_in F' iv_B0 := iv_in_eq hB (fun j hj => hF j (Nat.lt_of_lt_of_le hj (by decide +kernel)))
  refine ⟨List.forall_mem_cons.mpr ⟨hd_p5 b82 b84 h0, List.forall_mem_cons.mpr ⟨hd_pb b84 (by first | exact h1 | exact h1), List.forall_mem_cons.mpr ⟨hd_pb b82 (by first | exact h2 | exact h2), List.forall_mem_cons.mpr ⟨hd_p0 t85 t86 h3, List.forall_mem_cons.mpr ⟨hd_pb b84 (by first | exact h4 | exact h4), List.forall_mem_cons.mpr ⟨hd_pb b82 (by first | exact h5 | exact h5), List.forall_mem_cons.mpr ⟨hd_p1 t87 t88 h6, fun _ h => absurd h List.not_mem_nil⟩⟩⟩⟩⟩⟩⟩, ?_⟩
  refine k _ ?_ ?_ ?_ ?_
  · exact fun j hj _ => (hd_keep hB' (Nat.lt_of_lt_of_le hj (by decide +kernel)) (by simp)).trans (hF j (Nat.lt_of_lt_of_le hj (by decide)))
  · exact hd_gi (x := .inr (.inl 82)) (by decide +kernel) b82
  · exact hd_gi (x := .inr (.inl 83)) (by decide +kernel) b83
  · exact hd_gi (x := .inr (.inl 89)) (by decide +kernel) t89
theorem j2al_4_p3 {Ls : Nat} {xs : Nat → Int32} {d : Nat} {Q : Option Value → jm_h → Prop} (hd : 1 ≤ d) (F : Nat → sy_d) (X1 X2 : List jm_c) (hB : iv_in F iv_B0)
    (h0 : (sy_i F 84).toInt < (sy_i F 82).toInt)
    (h1 : 0 ≤ (sy_i F 84).toInt ∧ (sy_i F 84).toInt < 7)
    (h2 : 0 ≤ (sy_i F 82).toInt ∧ (sy_i F 82).toInt < 7)
    (h3 : ((sy_ai F 80).getD (sy_i F 84).toNatClampNeg 0).toInt = ((sy_ai F 80).getD (sy_i F 82).toNatClampNeg 0).toInt)
    (h4 : 0 ≤ (sy_i F 84).toInt ∧ (sy_i F 84).toInt < 7)
    (h5 : 0 ≤ (sy_i F 82).toInt ∧ (sy_i F 82).toInt < 7)
    (h6 : ((sy_ai F 81).getD (sy_i F 84).toNatClampNeg 0).toInt = ((sy_ai F 81).getD (sy_i F 82).toNatClampNeg 0).toInt)
    (k : ∀ F1 : Nat → sy_d, (∀ j, j < 82 → True → F1 j = F j) → F1 82 = .inl (.int (sy_i F 82)) → F1 83 = .inl (.int ((sy_i F 83) + ((1 : Int32)))) → F1 84 = .inl (.int ((sy_i F 84) + ((1 : Int32)))) → hd_W Ls xs d jm_M75 Q (4, sy_dL F1 [some (.inl (.ref 70)), some (.inr (.inl 82)), some (.inr (.inl 83)), some (.inr (.inl 84))], sy_dS F1 [], sy_dh F1 X1 X2 (iv_H 2), 0, 0)) :
    hd_W Ls xs d jm_M75 Q (4, sy_dL F [some (.inl (.ref 70)), some (.inr (.inl 82)), some (.inr (.inl 83)), some (.inr (.inl 84))], sy_dS F [], sy_dh F X1 X2 (iv_H 2), 0, 0) := by
  refine hd_run (s := 2) (nv := 85) (pc := 4) (L := [some (.inl (.ref 70)), some (.inr (.inl 82)), some (.inr (.inl 83)), some (.inr (.inl 84))]) (S := []) (uh := hd_ov (iv_id 0 iv_B0) []) (ul := [.inl (.inr (.inl 82)), .inl (.inr (.inl 89)), .inl (.inr (.inl 90))]) (f := true) (sp := [4]) (d0 := 0) (O := [false, false, false]) (T := [(30, [.inr (.inl 84)], [.inr (.inl 80)]), (30, [.inr (.inl 82)], [.inr (.inl 80)]), (30, [.inr (.inl 84)], [.inr (.inl 81)]), (30, [.inr (.inl 82)], [.inr (.inl 81)]), (0, [.inr (.inl 83), .inl (.int 1)], []), (0, [.inr (.inl 84), .inl (.int 1)], [])]) (P := [(5, .inr (.inl 82), .inr (.inl 84)), (6, .inr (.inl 84), .inl (.ref 7)), (6, .inr (.inl 82), .inl (.ref 7)), (0, .inr (.inl 85), .inr (.inl 86)), (6, .inr (.inl 84), .inl (.ref 7)), (6, .inr (.inl 82), .inl (.ref 7)), (0, .inr (.inl 87), .inr (.inl 88))]) jm_ok75 (by decide +kernel) (by decide +kernel) hd F X1 X2 (fun F' hF hs => ?_)
  have b82 := hd_b (F := F) (F' := F') (k := 82) (hF 82 (by decide))
  have b84 := hd_b (F := F) (F' := F') (k := 84) (hF 84 (by decide))
  have a80 := hd_ba (F := F) (F' := F') (k := 80) (hF 80 (by decide))
  have t85 : sy_dv F' (.inr (.inl 85)) = .int ((sy_ai F 80).getD (sy_i F 84).toNatClampNeg 0) := hd_rd (hs 0 _ rfl) b84 a80
  have t86 : sy_dv F' (.inr (.inl 86)) = .int ((sy_ai F 80).getD (sy_i F 82).toNatClampNeg 0) := hd_rd (hs 1 _ rfl) b82 a80
  have a81 := hd_ba (F := F) (F' := F') (k := 81) (hF 81 (by decide))
  have t87 : sy_dv F' (.inr (.inl 87)) = .int ((sy_ai F 81).getD (sy_i F 84).toNatClampNeg 0) := hd_rd (hs 2 _ rfl) b84 a81
  have t88 : sy_dv F' (.inr (.inl 88)) = .int ((sy_ai F 81).getD (sy_i F 82).toNatClampNeg 0) := hd_rd (hs 3 _ rfl) b82 a81
  have b83 := hd_b (F := F) (F' := F') (k := 83) (hF 83 (by decide))
  have t89 : sy_dv F' (.inr (.inl 89)) = .int ((sy_i F 83) + ((1 : Int32))) := hd_o (hs 4 _ rfl) b83 rfl rfl
  have t90 : sy_dv F' (.inr (.inl 90)) = .int ((sy_i F 84) + ((1 : Int32))) := hd_o (hs 5 _ rfl) b84 rfl rfl
  have hB' : iv_in F' iv_B0 := iv_in_eq hB (fun j hj => hF j (Nat.lt_of_lt_of_le hj (by decide +kernel)))
  refine ⟨List.forall_mem_cons.mpr ⟨hd_p5 b82 b84 h0, List.forall_mem_cons.mpr ⟨hd_pb b84 (by first | exact h1 | exact h1), List.forall_mem_cons.mpr ⟨hd_pb b82 (by first | exact h2 | exact h2), List.forall_mem_cons.mpr ⟨hd_p0 t85 t86 h3, List.forall_mem_cons.mpr ⟨hd_pb b84 (by first | exact h4 | exact h4), List.forall_mem_cons.mpr ⟨hd_pb b82 (by first | exact h5 | exact h5), List.forall_mem_cons.mpr ⟨hd_p0 t87 t88 h6, fun _ h => absurd h List.not_mem_nil⟩⟩⟩⟩⟩⟩⟩, ?_⟩
  refine k _ ?_ ?_ ?_ ?_
  · exact fun j hj _ => (hd_keep hB' (Nat.lt_of_lt_of_le hj (by decide +kernel)) (by simp)).trans (hF j (Nat.lt_of_lt_of_le hj (by decide)))
  · exact hd_gi (x := .inr (.inl 82)) (by decide +kernel) b82
  · exact hd_gi (x := .inr (.inl 89)) (by decide +kernel) t89
  · exact hd_gi (x := .inr (.inl 90)) (by decide +kernel) t90
theorem j2al_4 {Ls : Nat} {xs : Nat → Int32} {d : Nat} {Q : Option Value → jm_h → Prop} (hd : 1 ≤ d) (F : Nat → sy_d) (X1 X2 : List jm_c) (hB : iv_in F iv_B0)
    (a82 : 0 ≤ (sy_i F 82).toInt ∧ (sy_i F 82).toInt ≤ 6)
    (a83 : 0 ≤ (sy_i F 83).toInt ∧ (sy_i F 83).toInt ≤ 7)
    (a84 : 0 ≤ (sy_i F 84).toInt ∧ (sy_i F 84).toInt ≤ 7)
    (k0 : (sy_i F 82).toInt ≤ (sy_i F 84).toInt → ∀ F1 : Nat → sy_d, iv_in F1 iv_B0 → (∀ j, j < 82 → j ∉ ([] : List Nat) → F1 j = F j) → Q (some (.int (sy_i F 83))) (sy_dh F1 X1 X2 (iv_H 2)))
    (k1 : (sy_i F 84).toInt < (sy_i F 82).toInt → ((sy_ai F 80).getD ((sy_i F 84).toInt).toNat 0).toInt ≠ ((sy_ai F 80).getD ((sy_i F 82).toInt).toNat 0).toInt → ∀ F1 : Nat → sy_d, iv_in F1 iv_B0 → (∀ j, j < 82 → j ∉ ([] : List Nat) → F1 j = F j) → (sy_i F1 82).toInt = (sy_i F 82).toInt → sy_i F1 82 = sy_i F 82 → (sy_i F1 83).toInt = (sy_i F 83).toInt → sy_i F1 83 = sy_i F 83 → (sy_i F1 84).toInt = ((sy_i F 84).toInt + 1) → sy_i F1 84 = (sy_i F 84) + ((1 : Int32)) → hd_W Ls xs d jm_M75 Q (4, sy_dL F1 [some (.inl (.ref 70)), some (.inr (.inl 82)), some (.inr (.inl 83)), some (.inr (.inl 84))], sy_dS F1 [], sy_dh F1 X1 X2 (iv_H 2), 0, 0))
    (k2 : (sy_i F 84).toInt < (sy_i F 82).toInt → ((sy_ai F 80).getD ((sy_i F 84).toInt).toNat 0).toInt = ((sy_ai F 80).getD ((sy_i F 82).toInt).toNat 0).toInt → ((sy_ai F 81).getD ((sy_i F 84).toInt).toNat 0).toInt ≠ ((sy_ai F 81).getD ((sy_i F 82).toInt).toNat 0).toInt → ∀ F1 : Nat → sy_d, iv_in F1 iv_B0 → (∀ j, j < 82 → j ∉ ([] : List Nat) → F1 j = F j) → (sy_i F1 82).toInt = (sy_i F 82).toInt → sy_i F1 82 = sy_i F 82 → (sy_i F1 83).toInt = (sy_i F 83).toInt → sy_i F1 83 = sy_i F 83 → (sy_i F1 84).toInt = ((sy_i F 84).toInt + 1) → sy_i F1 84 = (sy_i F 84) + ((1 : Int32)) → hd_W Ls xs d jm_M75 Q (4, sy_dL F1 [some (.inl (.ref 70)), some (.inr (.inl 82)), some (.inr (.inl 83)), some (.inr (.inl 84))], sy_dS F1 [], sy_dh F1 X1 X2 (iv_H 2), 0, 0))
    (k3 : (sy_i F 84).toInt < (sy_i F 82).toInt → ((sy_ai F 80).getD ((sy_i F 84).toInt).toNat 0).toInt = ((sy_ai F 80).getD ((sy_i F 82).toInt).toNat 0).toInt → ((sy_ai F 81).getD ((sy_i F 84).toInt).toNat 0).toInt = ((sy_ai F 81).getD ((sy_i F 82).toInt).toNat 0).toInt → ∀ F1 : Nat → sy_d, iv_in F1 iv_B0 → (∀ j, j < 82 → j ∉ ([] : List Nat) → F1 j = F j) → (sy_i F1 82).toInt = (sy_i F 82).toInt → sy_i F1 82 = sy_i F 82 → (sy_i F1 83).toInt = ((sy_i F 83).toInt + 1) → sy_i F1 83 = (sy_i F 83) + ((1 : Int32)) → (sy_i F1 84).toInt = ((sy_i F 84).toInt + 1) → sy_i F1 84 = (sy_i F 84) + ((1 : Int32)) → hd_W Ls xs d jm_M75 Q (4, sy_dL F1 [some (.inl (.ref 70)), some (.inr (.inl 82)), some (.inr (.inl 83)), some (.inr (.inl 84))], sy_dS F1 [], sy_dh F1 X1 X2 (iv_H 2), 0, 0)) :
    hd_W Ls xs d jm_M75 Q (4, sy_dL F [some (.inl (.ref 70)), some (.inr (.inl 82)), some (.inr (.inl 83)), some (.inr (.inl 84))], sy_dS F [], sy_dh F X1 X2 (iv_H 2), 0, 0) := by
  by_cases g0 : (sy_i F 82).toInt ≤ (sy_i F 84).toInt
  · exact j2al_4_p0 hd F X1 X2 hB (by first | exact g0 | (simp only [nz_c]; exact g0)) (fun F1 g  => by rw [(rfl : sy_i F 83 = sy_i F 83)]; exact k0 g0 F1 (nz_in0 hB [] (fun j hj hn => g j hj (by simp only [List.mem_cons, List.not_mem_nil, or_false, not_or] at hn; exact trivial)) (List.forall_mem_nil _)) (fun j hj hn => g j hj (by simp only [List.mem_cons, List.not_mem_nil, or_false, not_or] at hn; exact trivial)) )
  replace g0 : (sy_i F 84).toInt < (sy_i F 82).toInt := by omega
  by_cases g1 : ((sy_ai F 80).getD ((sy_i F 84).toInt).toNat 0).toInt ≠ ((sy_ai F 80).getD ((sy_i F 82).toInt).toNat 0).toInt
  · have q85 : (sy_ai F 80).getD (sy_i F 84).toNatClampNeg 0 = (sy_ai F 80).getD ((sy_i F 84).toInt).toNat 0 := by simp only [nz_c]
    have n85 : nzI ((sy_ai F 80).getD (sy_i F 84).toNatClampNeg 0) (((sy_ai F 80).getD ((sy_i F 84).toInt).toNat 0).toInt) := congrArg Int32.toInt q85
    have q86 : (sy_ai F 80).getD (sy_i F 82).toNatClampNeg 0 = (sy_ai F 80).getD ((sy_i F 82).toInt).toNat 0 := by simp only [nz_c]
    have n86 : nzI ((sy_ai F 80).getD (sy_i F 82).toNatClampNeg 0) (((sy_ai F 80).getD ((sy_i F 82).toInt).toNat 0).toInt) := congrArg Int32.toInt q86
    have n87 : nzI ((sy_i F 84) + ((1 : Int32))) (((sy_i F 84).toInt + 1)) := nz_add (rfl : (sy_i F 84).toInt = (sy_i F 84).toInt) (by decide : ((1 : Int32)).toInt = 1) (by omega) (by omega)
    exact j2al_4_p1 hd F X1 X2 hB (by first | exact g0 | (simp only [nz_c]; exact g0)) (by first | exact ⟨by omega, by omega⟩ | (simp only [nz_c]; exact ⟨by omega, by omega⟩)) (by first | exact ⟨by omega, by omega⟩ | (simp only [nz_c]; exact ⟨by omega, by omega⟩)) (by first | exact g1 | (simp only [nz_c]; exact g1) | (rw [(nzE n85)]; exact g1) | (rw [(nzE n86)]; exact g1) | (rw [(nzE n85), (nzE n86)]; exact g1)) (fun F1 g e82 e83 e84 => k1 g0 g1 F1 (nz_in0 hB [] (fun j hj hn => g j hj (by simp only [List.mem_cons, List.not_mem_nil, or_false, not_or] at hn; exact trivial)) (List.forall_mem_nil _)) (fun j hj hn => g j hj (by simp only [List.mem_cons, List.not_mem_nil, or_false, not_or] at hn; exact trivial)) ((congrArg Int32.toInt (zz_i e82)).trans (rfl : (sy_i F 82).toInt = (sy_i F 82).toInt)) ((zz_i e82).trans (rfl : sy_i F 82 = sy_i F 82)) ((congrArg Int32.toInt (zz_i e83)).trans (rfl : (sy_i F 83).toInt = (sy_i F 83).toInt)) ((zz_i e83).trans (rfl : sy_i F 83 = sy_i F 83)) ((congrArg Int32.toInt (zz_i e84)).trans (nzE n87)) ((zz_i e84).trans (rfl : (sy_i F 84) + ((1 : Int32)) = (sy_i F 84) + ((1 : Int32)))))
  replace g1 : ((sy_ai F 80).getD ((sy_i F 84).toInt).toNat 0).toInt = ((sy_ai F 80).getD ((sy_i F 82).toInt).toNat 0).toInt := by omega
  by_cases g2 : ((sy_ai F 81).getD ((sy_i F 84).toInt).toNat 0).toInt ≠ ((sy_ai F 81).getD ((sy_i F 82).toInt).toNat 0).toInt
  · have q85 : (sy_ai F 80).getD (sy_i F 84).toNatClampNeg 0 = (sy_ai F 80).getD ((sy_i F 84).toInt).toNat 0 := by simp only [nz_c]
    have n85 : nzI ((sy_ai F 80).getD (sy_i F 84).toNatClampNeg 0) (((sy_ai F 80).getD ((sy_i F 84).toInt).toNat 0).toInt) := congrArg Int32.toInt q85
    have q86 : (sy_ai F 80).getD (sy_i F 82).toNatClampNeg 0 = (sy_ai F 80).getD ((sy_i F 82).toInt).toNat 0 := by simp only [nz_c]
    have n86 : nzI ((sy_ai F 80).getD (sy_i F 82).toNatClampNeg 0) (((sy_ai F 80).getD ((sy_i F 82).toInt).toNat 0).toInt) := congrArg Int32.toInt q86
    have q87 : (sy_ai F 81).getD (sy_i F 84).toNatClampNeg 0 = (sy_ai F 81).getD ((sy_i F 84).toInt).toNat 0 := by simp only [nz_c]
    have n87 : nzI ((sy_ai F 81).getD (sy_i F 84).toNatClampNeg 0) (((sy_ai F 81).getD ((sy_i F 84).toInt).toNat 0).toInt) := congrArg Int32.toInt q87
    have q88 : (sy_ai F 81).getD (sy_i F 82).toNatClampNeg 0 = (sy_ai F 81).getD ((sy_i F 82).toInt).toNat 0 := by simp only [nz_c]
    have n88 : nzI ((sy_ai F 81).getD (sy_i F 82).toNatClampNeg 0) (((sy_ai F 81).getD ((sy_i F 82).toInt).toNat 0).toInt) := congrArg Int32.toInt q88
    have n89 : nzI ((sy_i F 84) + ((1 : Int32))) (((sy_i F 84).toInt + 1)) := nz_add (rfl : (sy_i F 84).toInt = (sy_i F 84).toInt) (by decide : ((1 : Int32)).toInt = 1) (by omega) (by omega)
    exact j2al_4_p2 hd F X1 X2 hB (by first | exact g0 | (simp only [nz_c]; exact g0)) (by first | exact ⟨by omega, by omega⟩ | (simp only [nz_c]; exact ⟨by omega, by omega⟩)) (by first | exact ⟨by omega, by omega⟩ | (simp only [nz_c]; exact ⟨by omega, by omega⟩)) (by first | exact g1 | (simp only [nz_c]; exact g1) | (rw [(nzE n85)]; exact g1) | (rw [(nzE n86)]; exact g1) | (rw [(nzE n85), (nzE n86)]; exact g1)) (by first | exact ⟨by omega, by omega⟩ | (simp only [nz_c]; exact ⟨by omega, by omega⟩)) (by first | exact ⟨by omega, by omega⟩ | (simp only [nz_c]; exact ⟨by omega, by omega⟩)) (by first | exact g2 | (simp only [nz_c]; exact g2) | (rw [(nzE n87)]; exact g2) | (rw [(nzE n88)]; exact g2) | (rw [(nzE n87), (nzE n88)]; exact g2)) (fun F1 g e82 e83 e84 => k2 g0 g1 g2 F1 (nz_in0 hB [] (fun j hj hn => g j hj (by simp only [List.mem_cons, List.not_mem_nil, or_false, not_or] at hn; exact trivial)) (List.forall_mem_nil _)) (fun j hj hn => g j hj (by simp only [List.mem_cons, List.not_mem_nil, or_false, not_or] at hn; exact trivial)) ((congrArg Int32.toInt (zz_i e82)).trans (rfl : (sy_i F 82).toInt = (sy_i F 82).toInt)) ((zz_i e82).trans (rfl : sy_i F 82 = sy_i F 82)) ((congrArg Int32.toInt (zz_i e83)).trans (rfl : (sy_i F 83).toInt = (sy_i F 83).toInt)) ((zz_i e83).trans (rfl : sy_i F 83 = sy_i F 83)) ((congrArg Int32.toInt (zz_i e84)).trans (nzE n89)) ((zz_i e84).trans (rfl : (sy_i F 84) + ((1 : Int32)) = (sy_i F 84) + ((1 : Int32)))))
  replace g2 : ((sy_ai F 81).getD ((sy_i F 84).toInt).toNat 0).toInt = ((sy_ai F 81).getD ((sy_i F 82).toInt).toNat 0).toInt := by omega
  have q85 : (sy_ai F 80).getD (sy_i F 84).toNatClampNeg 0 = (sy_ai F 80).getD ((sy_i F 84).toInt).toNat 0 := by simp only [nz_c]
  have n85 : nzI ((sy_ai F 80).getD (sy_i F 84).toNatClampNeg 0) (((sy_ai F 80).getD ((sy_i F 84).toInt).toNat 0).toInt) := congrArg Int32.toInt q85
  have q86 : (sy_ai F 80).getD (sy_i F 82).toNatClampNeg 0 = (sy_ai F 80).getD ((sy_i F 82).toInt).toNat 0 := by simp only [nz_c]
  have n86 : nzI ((sy_ai F 80).getD (sy_i F 82).toNatClampNeg 0) (((sy_ai F 80).getD ((sy_i F 82).toInt).toNat 0).toInt) := congrArg Int32.toInt q86
  have q87 : (sy_ai F 81).getD (sy_i F 84).toNatClampNeg 0 = (sy_ai F 81).getD ((sy_i F 84).toInt).toNat 0 := by simp only [nz_c]
  have n87 : nzI ((sy_ai F 81).getD (sy_i F 84).toNatClampNeg 0) (((sy_ai F 81).getD ((sy_i F 84).toInt).toNat 0).toInt) := congrArg Int32.toInt q87
  have q88 : (sy_ai F 81).getD (sy_i F 82).toNatClampNeg 0 = (sy_ai F 81).getD ((sy_i F 82).toInt).toNat 0 := by simp only [nz_c]
  have n88 : nzI ((sy_ai F 81).getD (sy_i F 82).toNatClampNeg 0) (((sy_ai F 81).getD ((sy_i F 82).toInt).toNat 0).toInt) := congrArg Int32.toInt q88
  have n89 : nzI ((sy_i F 83) + ((1 : Int32))) (((sy_i F 83).toInt + 1)) := nz_add (rfl : (sy_i F 83).toInt = (sy_i F 83).toInt) (by decide : ((1 : Int32)).toInt = 1) (by omega) (by omega)
  have n90 : nzI ((sy_i F 84) + ((1 : Int32))) (((sy_i F 84).toInt + 1)) := nz_add (rfl : (sy_i F 84).toInt = (sy_i F 84).toInt) (by decide : ((1 : Int32)).toInt = 1) (by omega) (by omega)
  exact j2al_4_p3 hd F X1 X2 hB (by first | exact g0 | (simp only [nz_c]; exact g0)) (by first | exact ⟨by omega, by omega⟩ | (simp only [nz_c]; exact ⟨by omega, by omega⟩)) (by first | exact ⟨by omega, by omega⟩ | (simp only [nz_c]; exact ⟨by omega, by omega⟩)) (by first | exact g1 | (simp only [nz_c]; exact g1) | (rw [(nzE n85)]; exact g1) | (rw [(nzE n86)]; exact g1) | (rw [(nzE n85), (nzE n86)]; exact g1)) (by first | exact ⟨by omega, by omega⟩ | (simp only [nz_c]; exact ⟨by omega, by omega⟩)) (by first | exact ⟨by omega, by omega⟩ | (simp only [nz_c]; exact ⟨by omega, by omega⟩)) (by first | exact g2 | (simp only [nz_c]; exact g2) | (rw [(nzE n87)]; exact g2) | (rw [(nzE n88)]; exact g2) | (rw [(nzE n87), (nzE n88)]; exact g2)) (fun F1 g e82 e83 e84 => k3 g0 g1 g2 F1 (nz_in0 hB [] (fun j hj hn => g j hj (by simp only [List.mem_cons, List.not_mem_nil, or_false, not_or] at hn; exact trivial)) (List.forall_mem_nil _)) (fun j hj hn => g j hj (by simp only [List.mem_cons, List.not_mem_nil, or_false, not_or] at hn; exact trivial)) ((congrArg Int32.toInt (zz_i e82)).trans (rfl : (sy_i F 82).toInt = (sy_i F 82).toInt)) ((zz_i e82).trans (rfl : sy_i F 82 = sy_i F 82)) ((congrArg Int32.toInt (zz_i e83)).trans (nzE n89)) ((zz_i e83).trans (rfl : (sy_i F 83) + ((1 : Int32)) = (sy_i F 83) + ((1 : Int32)))) ((congrArg Int32.toInt (zz_i e84)).trans (nzE n90)) ((zz_i e84).trans (rfl : (sy_i F 84) + ((1 : Int32)) = (sy_i F 84) + ((1 : Int32)))))
theorem j2rc_0_p0 {Ls : Nat} {xs : Nat → Int32} {d : Nat} {Q : Option Value → jm_h → Prop} (hd : 1 ≤ d) (F : Nat → sy_d) (X1 X2 : List jm_c) (hB : iv_in F iv_B0)
    (k : ∀ F1 : Nat → sy_d, (∀ j, j < 82 → True → F1 j = F j) → F1 82 = .inl (.int (sy_i F 82)) → F1 83 = .inl (.int ((1 : Int32))) → F1 84 = .inl (.int ((0 : Int32))) → hd_W Ls xs d jm_M70 Q (5, sy_dL F1 [some (.inl (.ref 70)), some (.inl (.ref 20)), some (.inr (.inl 82)), some (.inr (.inl 83)), some (.inr (.inl 84)), none], sy_dS F1 [], sy_dh F1 X1 X2 (iv_H 2), 0, 0)) :
    hd_W Ls xs d jm_M70 Q (0, sy_dL F [some (.inl (.ref 70)), some (.inl (.ref 20)), some (.inr (.inl 82)), none, none, none], sy_dS F [], sy_dh F X1 X2 (iv_H 2), 0, 0) := by
  refine hd_run (s := 2) (nv := 83) (pc := 5) (L := [some (.inl (.ref 70)), some (.inl (.ref 20)), some (.inr (.inl 82)), some (.inr (.inl 83)), some (.inr (.inl 84)), none]) (S := []) (uh := hd_ov (iv_id 0 iv_B0) []) (ul := [.inl (.inr (.inl 82)), .inl (.inl (.int 1)), .inl (.inl (.int 0))]) (f := true) (sp := [5]) (d0 := 0) (O := []) (T := []) (P := []) jm_ok70 (by decide +kernel) (by decide +kernel) hd F X1 X2 (fun F' hF hs => ?_)
  have b82 := hd_b (F := F) (F' := F') (k := 82) (hF 82 (by decide))
  have hB' : iv_in F' iv_B0 := iv_in_eq hB (fun j hj => hF j (Nat.lt_of_lt_of_le hj (by decide +kernel)))
  refine ⟨fun _ h => absurd h List.not_mem_nil, ?_⟩
  refine k _ ?_ ?_ ?_ ?_
  · exact fun j hj _ => (hd_keep hB' (Nat.lt_of_lt_of_le hj (by decide +kernel)) (by simp)).trans (hF j (Nat.lt_of_lt_of_le hj (by decide)))
  · exact hd_gi (x := .inr (.inl 82)) (by decide +kernel) b82
  · exact hd_gi (x := .inl (.int 1)) (by decide +kernel) rfl
  · exact hd_gi (x := .inl (.int 0)) (by decide +kernel) rfl
theorem j2rc_0 {Ls : Nat} {xs : Nat → Int32} {d : Nat} {Q : Option Value → jm_h → Prop} (hd : 1 ≤ d) (F : Nat → sy_d) (X1 X2 : List jm_c) (hB : iv_in F iv_B0)
    (k0 : ∀ F1 : Nat → sy_d, iv_in F1 iv_B0 → (∀ j, j < 82 → j ∉ ([] : List Nat) → F1 j = F j) → (sy_i F1 82).toInt = (sy_i F 82).toInt → sy_i F1 82 = sy_i F 82 → (sy_i F1 83).toInt = 1 → sy_i F1 83 = (1 : Int32) → (sy_i F1 84).toInt = 0 → sy_i F1 84 = (0 : Int32) → hd_W Ls xs d jm_M70 Q (5, sy_dL F1 [some (.inl (.ref 70)), some (.inl (.ref 20)), some (.inr (.inl 82)), some (.inr (.inl 83)), some (.inr (.inl 84)), none], sy_dS F1 [], sy_dh F1 X1 X2 (iv_H 2), 0, 0)) :
    hd_W Ls xs d jm_M70 Q (0, sy_dL F [some (.inl (.ref 70)), some (.inl (.ref 20)), some (.inr (.inl 82)), none, none, none], sy_dS F [], sy_dh F X1 X2 (iv_H 2), 0, 0) := by
  exact j2rc_0_p0 hd F X1 X2 hB  (fun F1 g e82 e83 e84 => k0 F1 (nz_in0 hB [] (fun j hj hn => g j hj (by simp only [List.mem_cons, List.not_mem_nil, or_false, not_or] at hn; exact trivial)) (List.forall_mem_nil _)) (fun j hj hn => g j hj (by simp only [List.mem_cons, List.not_mem_nil, or_false, not_or] at hn; exact trivial)) ((congrArg Int32.toInt (zz_i e82)).trans (rfl : (sy_i F 82).toInt = (sy_i F 82).toInt)) ((zz_i e82).trans (rfl : sy_i F 82 = sy_i F 82)) ((congrArg Int32.toInt (zz_i e83)).trans (by decide : ((1 : Int32)).toInt = 1)) ((zz_i e83).trans (rfl : (1 : Int32) = (1 : Int32))) ((congrArg Int32.toInt (zz_i e84)).trans (by decide : ((0 : Int32)).toInt = 0)) ((zz_i e84).trans (rfl : (0 : Int32) = (0 : Int32))))
theorem j2rc_5_p0 {Ls : Nat} {xs : Nat → Int32} {d : Nat} {Q : Option Value → jm_h → Prop} (hd : 1 ≤ d) (F : Nat → sy_d) (X1 X2 : List jm_c) (hB : iv_in F iv_B0)
    (h0 : (sy_i F 82).toInt ≤ (sy_i F 84).toInt)
    (k : ∀ F1 : Nat → sy_d, (∀ j, j < 82 → True → F1 j = F j) → Q (some (.int (sy_i F 83))) (sy_dh F1 X1 X2 (iv_H 2))) :
    hd_W Ls xs d jm_M70 Q (5, sy_dL F [some (.inl (.ref 70)), some (.inl (.ref 20)), some (.inr (.inl 82)), some (.inr (.inl 83)), some (.inr (.inl 84)), none], sy_dS F [], sy_dh F X1 X2 (iv_H 2), 0, 0) := by
  refine hd_ret (s := 2) (nv := 85) (v := some (.inr (.inl 83))) (uh := hd_ov (iv_id 0 iv_B0) []) (f := true) (sp := [22]) (d0 := 0) (O := [true]) (T := []) (P := [(4, .inr (.inl 82), .inr (.inl 84))]) jm_ok70 (by decide +kernel) (by decide +kernel) hd F X1 X2 (fun F' hF hs => ?_)
  have b82 := hd_b (F := F) (F' := F') (k := 82) (hF 82 (by decide))
  have b84 := hd_b (F := F) (F' := F') (k := 84) (hF 84 (by decide))
  have b83 := hd_b (F := F) (F' := F') (k := 83) (hF 83 (by decide))
  have hB' : iv_in F' iv_B0 := iv_in_eq hB (fun j hj => hF j (Nat.lt_of_lt_of_le hj (by decide +kernel)))
  have hk := k (sy_cm F' (hd_ov (iv_id 0 iv_B0) [] ++ [])) (fun j hj _ => (hd_keep hB' (Nat.lt_of_lt_of_le hj (by decide +kernel)) (by simp)).trans (hF j (Nat.lt_of_lt_of_le hj (by decide))))
  refine ⟨List.forall_mem_cons.mpr ⟨hd_p4 b82 b84 h0, fun _ h => absurd h List.not_mem_nil⟩, ?_⟩
  show Q (some (sy_dv F' (.inr (.inl 83)))) _
  rw [b83]
  exact hk
theorem j2rc_5_p1 {Ls : Nat} {xs : Nat → Int32} {d : Nat} {Q : Option Value → jm_h → Prop} (hd : 1 ≤ d) (F : Nat → sy_d) (X1 X2 : List jm_c) (hB : iv_in F iv_B0)
    (h0 : (sy_i F 84).toInt < (sy_i F 82).toInt)
    (h1 : 7 ≤ (sy_i F 84).toInt)
    (k : ∀ F1 : Nat → sy_d, (∀ j, j < 82 → True → F1 j = F j) → Q (some (.int (sy_i F 83))) (sy_dh F1 X1 X2 (iv_H 2))) :
    hd_W Ls xs d jm_M70 Q (5, sy_dL F [some (.inl (.ref 70)), some (.inl (.ref 20)), some (.inr (.inl 82)), some (.inr (.inl 83)), some (.inr (.inl 84)), none], sy_dS F [], sy_dh F X1 X2 (iv_H 2), 0, 0) := by
  refine hd_ret (s := 2) (nv := 85) (v := some (.inr (.inl 83))) (uh := hd_ov (iv_id 0 iv_B0) []) (f := true) (sp := [22]) (d0 := 0) (O := [false, true]) (T := []) (P := [(5, .inr (.inl 82), .inr (.inl 84)), (4, .inl (.int 7), .inr (.inl 84))]) jm_ok70 (by decide +kernel) (by decide +kernel) hd F X1 X2 (fun F' hF hs => ?_)
  have b82 := hd_b (F := F) (F' := F') (k := 82) (hF 82 (by decide))
  have b84 := hd_b (F := F) (F' := F') (k := 84) (hF 84 (by decide))
  have b83 := hd_b (F := F) (F' := F') (k := 83) (hF 83 (by decide))
  have hB' : iv_in F' iv_B0 := iv_in_eq hB (fun j hj => hF j (Nat.lt_of_lt_of_le hj (by decide +kernel)))
  have hk := k (sy_cm F' (hd_ov (iv_id 0 iv_B0) [] ++ [])) (fun j hj _ => (hd_keep hB' (Nat.lt_of_lt_of_le hj (by decide +kernel)) (by simp)).trans (hF j (Nat.lt_of_lt_of_le hj (by decide))))
  refine ⟨List.forall_mem_cons.mpr ⟨hd_p5 b82 b84 h0, List.forall_mem_cons.mpr ⟨hd_p4 rfl b84 (by have hc : ((7) : Int32).toInt = 7 := (by decide); omega), fun _ h => absurd h List.not_mem_nil⟩⟩, ?_⟩
  show Q (some (sy_dv F' (.inr (.inl 83)))) _
  rw [b83]
  exact hk
theorem j2rc_5_p2 {Ls : Nat} {xs : Nat → Int32} {d : Nat} {Q : Option Value → jm_h → Prop} (hd : 1 ≤ d) (F : Nat → sy_d) (X1 X2 : List jm_c) (hB : iv_in F iv_B0)
    (h0 : (sy_i F 84).toInt < (sy_i F 82).toInt)
    (h1 : (sy_i F 84).toInt < 7)
    (k : ∀ F1 : Nat → sy_d, (∀ j, j < 82 → True → F1 j = F j) → F1 82 = .inl (.int (sy_i F 82)) → F1 83 = .inl (.int (sy_i F 83)) → F1 84 = .inl (.int (sy_i F 84)) → hd_W Ls xs d jm_M70 Q (22, sy_dL F1 [some (.inl (.ref 70)), some (.inl (.ref 20)), some (.inr (.inl 82)), some (.inr (.inl 83)), some (.inr (.inl 84)), none], sy_dS F1 [.inr (.inl 84), .inl (.ref 20), .inl (.ref 70)], sy_dh F1 X1 X2 (iv_H 2), 0, 0)) :
    hd_W Ls xs d jm_M70 Q (5, sy_dL F [some (.inl (.ref 70)), some (.inl (.ref 20)), some (.inr (.inl 82)), some (.inr (.inl 83)), some (.inr (.inl 84)), none], sy_dS F [], sy_dh F X1 X2 (iv_H 2), 0, 0) := by
  refine hd_run (s := 2) (nv := 85) (pc := 22) (L := [some (.inl (.ref 70)), some (.inl (.ref 20)), some (.inr (.inl 82)), some (.inr (.inl 83)), some (.inr (.inl 84)), none]) (S := [.inr (.inl 84), .inl (.ref 20), .inl (.ref 70)]) (uh := hd_ov (iv_id 0 iv_B0) []) (ul := [.inl (.inr (.inl 82)), .inl (.inr (.inl 83)), .inl (.inr (.inl 84))]) (f := true) (sp := [22]) (d0 := 0) (O := [false, false]) (T := []) (P := [(5, .inr (.inl 82), .inr (.inl 84)), (5, .inl (.int 7), .inr (.inl 84))]) jm_ok70 (by decide +kernel) (by decide +kernel) hd F X1 X2 (fun F' hF hs => ?_)
  have b82 := hd_b (F := F) (F' := F') (k := 82) (hF 82 (by decide))
  have b84 := hd_b (F := F) (F' := F') (k := 84) (hF 84 (by decide))
  have b83 := hd_b (F := F) (F' := F') (k := 83) (hF 83 (by decide))
  have hB' : iv_in F' iv_B0 := iv_in_eq hB (fun j hj => hF j (Nat.lt_of_lt_of_le hj (by decide +kernel)))
  refine ⟨List.forall_mem_cons.mpr ⟨hd_p5 b82 b84 h0, List.forall_mem_cons.mpr ⟨hd_p5 rfl b84 (by have hc : ((7) : Int32).toInt = 7 := (by decide); omega), fun _ h => absurd h List.not_mem_nil⟩⟩, ?_⟩
  refine k _ ?_ ?_ ?_ ?_
  · exact fun j hj _ => (hd_keep hB' (Nat.lt_of_lt_of_le hj (by decide +kernel)) (by simp)).trans (hF j (Nat.lt_of_lt_of_le hj (by decide)))
  · exact hd_gi (x := .inr (.inl 82)) (by decide +kernel) b82
  · exact hd_gi (x := .inr (.inl 83)) (by decide +kernel) b83
  · exact hd_gi (x := .inr (.inl 84)) (by decide +kernel) b84
theorem j2rc_5 {Ls : Nat} {xs : Nat → Int32} {d : Nat} {Q : Option Value → jm_h → Prop} (hd : 1 ≤ d) (F : Nat → sy_d) (X1 X2 : List jm_c) (hB : iv_in F iv_B0)
    (a84 : 0 ≤ (sy_i F 84).toInt ∧ (sy_i F 84).toInt ≤ 7)
    (k0 : (sy_i F 82).toInt ≤ (sy_i F 84).toInt → ∀ F1 : Nat → sy_d, iv_in F1 iv_B0 → (∀ j, j < 82 → j ∉ ([] : List Nat) → F1 j = F j) → Q (some (.int (sy_i F 83))) (sy_dh F1 X1 X2 (iv_H 2)))
    (k1 : (sy_i F 84).toInt < (sy_i F 82).toInt → 7 ≤ (sy_i F 84).toInt → ∀ F1 : Nat → sy_d, iv_in F1 iv_B0 → (∀ j, j < 82 → j ∉ ([] : List Nat) → F1 j = F j) → Q (some (.int (sy_i F 83))) (sy_dh F1 X1 X2 (iv_H 2)))
    (k2 : (sy_i F 84).toInt < (sy_i F 82).toInt → (sy_i F 84).toInt < 7 → ∀ F1 : Nat → sy_d, iv_in F1 iv_B0 → (∀ j, j < 82 → j ∉ ([] : List Nat) → F1 j = F j) → (sy_i F1 82).toInt = (sy_i F 82).toInt → sy_i F1 82 = sy_i F 82 → (sy_i F1 83).toInt = (sy_i F 83).toInt → sy_i F1 83 = sy_i F 83 → (sy_i F1 84).toInt = (sy_i F 84).toInt → sy_i F1 84 = sy_i F 84 → hd_W Ls xs d jm_M70 Q (22, sy_dL F1 [some (.inl (.ref 70)), some (.inl (.ref 20)), some (.inr (.inl 82)), some (.inr (.inl 83)), some (.inr (.inl 84)), none], sy_dS F1 [.inr (.inl 84), .inl (.ref 20), .inl (.ref 70)], sy_dh F1 X1 X2 (iv_H 2), 0, 0)) :
    hd_W Ls xs d jm_M70 Q (5, sy_dL F [some (.inl (.ref 70)), some (.inl (.ref 20)), some (.inr (.inl 82)), some (.inr (.inl 83)), some (.inr (.inl 84)), none], sy_dS F [], sy_dh F X1 X2 (iv_H 2), 0, 0) := by
  by_cases g0 : (sy_i F 82).toInt ≤ (sy_i F 84).toInt
  · exact j2rc_5_p0 hd F X1 X2 hB (by first | exact g0 | (simp only [nz_c]; exact g0)) (fun F1 g  => by rw [(rfl : sy_i F 83 = sy_i F 83)]; exact k0 g0 F1 (nz_in0 hB [] (fun j hj hn => g j hj (by simp only [List.mem_cons, List.not_mem_nil, or_false, not_or] at hn; exact trivial)) (List.forall_mem_nil _)) (fun j hj hn => g j hj (by simp only [List.mem_cons, List.not_mem_nil, or_false, not_or] at hn; exact trivial)) )
  replace g0 : (sy_i F 84).toInt < (sy_i F 82).toInt := by omega
  by_cases g1 : 7 ≤ (sy_i F 84).toInt
  · exact j2rc_5_p1 hd F X1 X2 hB (by first | exact g0 | (simp only [nz_c]; exact g0)) (by first | exact g1 | (simp only [nz_c]; exact g1)) (fun F1 g  => by rw [(rfl : sy_i F 83 = sy_i F 83)]; exact k1 g0 g1 F1 (nz_in0 hB [] (fun j hj hn => g j hj (by simp only [List.mem_cons, List.not_mem_nil, or_false, not_or] at hn; exact trivial)) (List.forall_mem_nil _)) (fun j hj hn => g j hj (by simp only [List.mem_cons, List.not_mem_nil, or_false, not_or] at hn; exact trivial)) )
  replace g1 : (sy_i F 84).toInt < 7 := by omega
  exact j2rc_5_p2 hd F X1 X2 hB (by first | exact g0 | (simp only [nz_c]; exact g0)) (by first | exact g1 | (simp only [nz_c]; exact g1)) (fun F1 g e82 e83 e84 => k2 g0 g1 F1 (nz_in0 hB [] (fun j hj hn => g j hj (by simp only [List.mem_cons, List.not_mem_nil, or_false, not_or] at hn; exact trivial)) (List.forall_mem_nil _)) (fun j hj hn => g j hj (by simp only [List.mem_cons, List.not_mem_nil, or_false, not_or] at hn; exact trivial)) ((congrArg Int32.toInt (zz_i e82)).trans (rfl : (sy_i F 82).toInt = (sy_i F 82).toInt)) ((zz_i e82).trans (rfl : sy_i F 82 = sy_i F 82)) ((congrArg Int32.toInt (zz_i e83)).trans (rfl : (sy_i F 83).toInt = (sy_i F 83).toInt)) ((zz_i e83).trans (rfl : sy_i F 83 = sy_i F 83)) ((congrArg Int32.toInt (zz_i e84)).trans (rfl : (sy_i F 84).toInt = (sy_i F 84).toInt)) ((zz_i e84).trans (rfl : sy_i F 84 = sy_i F 84)))
theorem j2rc_25_p0 {Ls : Nat} {xs : Nat → Int32} {d : Nat} {Q : Option Value → jm_h → Prop} (hd : 1 ≤ d) (F : Nat → sy_d) (X1 X2 : List jm_c) (hB : iv_in F iv_B0)
    (k : ∀ F1 : Nat → sy_d, (∀ j, j < 82 → True → F1 j = F j) → F1 82 = .inl (.int (sy_i F 82)) → F1 83 = .inl (.int (sy_i F 83)) → F1 84 = .inl (.int (sy_i F 84)) → F1 85 = .inl (.int (sy_i F 85)) → hd_W Ls xs d jm_M70 Q (28, sy_dL F1 [some (.inl (.ref 70)), some (.inl (.ref 20)), some (.inr (.inl 82)), some (.inr (.inl 83)), some (.inr (.inl 84)), none], sy_dS F1 [.inr (.inl 84), .inl (.ref 70), .inr (.inl 85)], sy_dh F1 X1 X2 (iv_H 2), 0, 0)) :
    hd_W Ls xs d jm_M70 Q (25, sy_dL F [some (.inl (.ref 70)), some (.inl (.ref 20)), some (.inr (.inl 82)), some (.inr (.inl 83)), some (.inr (.inl 84)), none], sy_dS F [.inr (.inl 85)], sy_dh F X1 X2 (iv_H 2), 0, 0) := by
  refine hd_run (s := 2) (nv := 86) (pc := 28) (L := [some (.inl (.ref 70)), some (.inl (.ref 20)), some (.inr (.inl 82)), some (.inr (.inl 83)), some (.inr (.inl 84)), none]) (S := [.inr (.inl 84), .inl (.ref 70), .inr (.inl 85)]) (uh := hd_ov (iv_id 0 iv_B0) []) (ul := [.inl (.inr (.inl 82)), .inl (.inr (.inl 83)), .inl (.inr (.inl 84)), .inl (.inr (.inl 85))]) (f := false) (sp := [28]) (d0 := 0) (O := []) (T := []) (P := []) jm_ok70 (by decide +kernel) (by decide +kernel) hd F X1 X2 (fun F' hF hs => ?_)
  have b82 := hd_b (F := F) (F' := F') (k := 82) (hF 82 (by decide))
  have b83 := hd_b (F := F) (F' := F') (k := 83) (hF 83 (by decide))
  have b84 := hd_b (F := F) (F' := F') (k := 84) (hF 84 (by decide))
  have b85 := hd_b (F := F) (F' := F') (k := 85) (hF 85 (by decide))
  have hB' : iv_in F' iv_B0 := iv_in_eq hB (fun j hj => hF j (Nat.lt_of_lt_of_le hj (by decide +kernel)))
  refine ⟨fun _ h => absurd h List.not_mem_nil, ?_⟩
  refine k _ ?_ ?_ ?_ ?_ ?_
  · exact fun j hj _ => (hd_keep hB' (Nat.lt_of_lt_of_le hj (by decide +kernel)) (by simp)).trans (hF j (Nat.lt_of_lt_of_le hj (by decide)))
  · exact hd_gi (x := .inr (.inl 82)) (by decide +kernel) b82
  · exact hd_gi (x := .inr (.inl 83)) (by decide +kernel) b83
  · exact hd_gi (x := .inr (.inl 84)) (by decide +kernel) b84
  · exact hd_gi (x := .inr (.inl 85)) (by decide +kernel) b85
theorem j2rc_25 {Ls : Nat} {xs : Nat → Int32} {d : Nat} {Q : Option Value → jm_h → Prop} (hd : 1 ≤ d) (F : Nat → sy_d) (X1 X2 : List jm_c) (hB : iv_in F iv_B0)
    (k0 : ∀ F1 : Nat → sy_d, iv_in F1 iv_B0 → (∀ j, j < 82 → j ∉ ([] : List Nat) → F1 j = F j) → (sy_i F1 82).toInt = (sy_i F 82).toInt → sy_i F1 82 = sy_i F 82 → (sy_i F1 83).toInt = (sy_i F 83).toInt → sy_i F1 83 = sy_i F 83 → (sy_i F1 84).toInt = (sy_i F 84).toInt → sy_i F1 84 = sy_i F 84 → (sy_i F1 85).toInt = (sy_i F 85).toInt → sy_i F1 85 = sy_i F 85 → hd_W Ls xs d jm_M70 Q (28, sy_dL F1 [some (.inl (.ref 70)), some (.inl (.ref 20)), some (.inr (.inl 82)), some (.inr (.inl 83)), some (.inr (.inl 84)), none], sy_dS F1 [.inr (.inl 84), .inl (.ref 70), .inr (.inl 85)], sy_dh F1 X1 X2 (iv_H 2), 0, 0)) :
    hd_W Ls xs d jm_M70 Q (25, sy_dL F [some (.inl (.ref 70)), some (.inl (.ref 20)), some (.inr (.inl 82)), some (.inr (.inl 83)), some (.inr (.inl 84)), none], sy_dS F [.inr (.inl 85)], sy_dh F X1 X2 (iv_H 2), 0, 0) := by
  exact j2rc_25_p0 hd F X1 X2 hB  (fun F1 g e82 e83 e84 e85 => k0 F1 (nz_in0 hB [] (fun j hj hn => g j hj (by simp only [List.mem_cons, List.not_mem_nil, or_false, not_or] at hn; exact trivial)) (List.forall_mem_nil _)) (fun j hj hn => g j hj (by simp only [List.mem_cons, List.not_mem_nil, or_false, not_or] at hn; exact trivial)) ((congrArg Int32.toInt (zz_i e82)).trans (rfl : (sy_i F 82).toInt = (sy_i F 82).toInt)) ((zz_i e82).trans (rfl : sy_i F 82 = sy_i F 82)) ((congrArg Int32.toInt (zz_i e83)).trans (rfl : (sy_i F 83).toInt = (sy_i F 83).toInt)) ((zz_i e83).trans (rfl : sy_i F 83 = sy_i F 83)) ((congrArg Int32.toInt (zz_i e84)).trans (rfl : (sy_i F 84).toInt = (sy_i F 84).toInt)) ((zz_i e84).trans (rfl : sy_i F 84 = sy_i F 84)) ((congrArg Int32.toInt (zz_i e85)).trans (rfl : (sy_i F 85).toInt = (sy_i F 85).toInt)) ((zz_i e85).trans (rfl : sy_i F 85 = sy_i F 85)))
theorem j2rc_31_p0 {Ls : Nat} {xs : Nat → Int32} {d : Nat} {Q : Option Value → jm_h → Prop} (hd : 1 ≤ d) (F : Nat → sy_d) (X1 X2 : List jm_c) (hB : iv_in F iv_B0)
    (h0 : 0 < ((sy_i F 85) - (sy_i F 86)).toInt)
    (k : ∀ F1 : Nat → sy_d, (∀ j, j < 82 → True → F1 j = F j) → F1 82 = .inl (.int (sy_i F 82)) → F1 83 = .inl (.int ((sy_i F 83) * ((sy_i F 85) - (sy_i F 86)))) → F1 84 = .inl (.int ((sy_i F 84) + ((1 : Int32)))) → hd_W Ls xs d jm_M70 Q (5, sy_dL F1 [some (.inl (.ref 70)), some (.inl (.ref 20)), some (.inr (.inl 82)), some (.inr (.inl 83)), some (.inr (.inl 84)), none], sy_dS F1 [], sy_dh F1 X1 X2 (iv_H 2), 0, 0)) :
    hd_W Ls xs d jm_M70 Q (31, sy_dL F [some (.inl (.ref 70)), some (.inl (.ref 20)), some (.inr (.inl 82)), some (.inr (.inl 83)), some (.inr (.inl 84)), none], sy_dS F [.inr (.inl 86), .inr (.inl 85)], sy_dh F X1 X2 (iv_H 2), 0, 0) := by
  refine hd_run (s := 2) (nv := 87) (pc := 5) (L := [some (.inl (.ref 70)), some (.inl (.ref 20)), some (.inr (.inl 82)), some (.inr (.inl 83)), some (.inr (.inl 84)), none]) (S := []) (uh := hd_ov (iv_id 0 iv_B0) []) (ul := [.inl (.inr (.inl 82)), .inl (.inr (.inl 88)), .inl (.inr (.inl 89))]) (f := false) (sp := [5]) (d0 := 0) (O := [true]) (T := [(1, [.inr (.inl 85), .inr (.inl 86)], []), (2, [.inr (.inl 83), .inr (.inl 87)], []), (0, [.inr (.inl 84), .inl (.int 1)], [])]) (P := [(2, .inl (.int 0), .inr (.inl 87))]) jm_ok70 (by decide +kernel) (by decide +kernel) hd F X1 X2 (fun F' hF hs => ?_)
  have b85 := hd_b (F := F) (F' := F') (k := 85) (hF 85 (by decide))
  have b86 := hd_b (F := F) (F' := F') (k := 86) (hF 86 (by decide))
  have t87 : sy_dv F' (.inr (.inl 87)) = .int ((sy_i F 85) - (sy_i F 86)) := hd_o (hs 0 _ rfl) b85 b86 rfl
  have b82 := hd_b (F := F) (F' := F') (k := 82) (hF 82 (by decide))
  have b83 := hd_b (F := F) (F' := F') (k := 83) (hF 83 (by decide))
  have t88 : sy_dv F' (.inr (.inl 88)) = .int ((sy_i F 83) * ((sy_i F 85) - (sy_i F 86))) := hd_o (hs 1 _ rfl) b83 t87 rfl
  have b84 := hd_b (F := F) (F' := F') (k := 84) (hF 84 (by decide))
  have t89 : sy_dv F' (.inr (.inl 89)) = .int ((sy_i F 84) + ((1 : Int32))) := hd_o (hs 2 _ rfl) b84 rfl rfl
  have hB' : iv_in F' iv_B0 := iv_in_eq hB (fun j hj => hF j (Nat.lt_of_lt_of_le hj (by decide +kernel)))
  refine ⟨List.forall_mem_cons.mpr ⟨hd_p2 rfl t87 (by have hc : ((0) : Int32).toInt = 0 := (by decide); omega), fun _ h => absurd h List.not_mem_nil⟩, ?_⟩
  refine k _ ?_ ?_ ?_ ?_
  · exact fun j hj _ => (hd_keep hB' (Nat.lt_of_lt_of_le hj (by decide +kernel)) (by simp)).trans (hF j (Nat.lt_of_lt_of_le hj (by decide)))
  · exact hd_gi (x := .inr (.inl 82)) (by decide +kernel) b82
  · exact hd_gi (x := .inr (.inl 88)) (by decide +kernel) t88
  · exact hd_gi (x := .inr (.inl 89)) (by decide +kernel) t89
theorem j2rc_31_p1 {Ls : Nat} {xs : Nat → Int32} {d : Nat} {Q : Option Value → jm_h → Prop} (hd : 1 ≤ d) (F : Nat → sy_d) (X1 X2 : List jm_c) (hB : iv_in F iv_B0)
    (h0 : ((sy_i F 85) - (sy_i F 86)).toInt ≤ 0)
    (k : ∀ F1 : Nat → sy_d, (∀ j, j < 82 → True → F1 j = F j) → Q (some (.int ((0 : Int32)))) (sy_dh F1 X1 X2 (iv_H 2))) :
    hd_W Ls xs d jm_M70 Q (31, sy_dL F [some (.inl (.ref 70)), some (.inl (.ref 20)), some (.inr (.inl 82)), some (.inr (.inl 83)), some (.inr (.inl 84)), none], sy_dS F [.inr (.inl 86), .inr (.inl 85)], sy_dh F X1 X2 (iv_H 2), 0, 0) := by
  refine hd_ret (s := 2) (nv := 87) (v := some (.inl (.int 0))) (uh := hd_ov (iv_id 0 iv_B0) []) (f := false) (sp := [5]) (d0 := 0) (O := [false]) (T := [(1, [.inr (.inl 85), .inr (.inl 86)], [])]) (P := [(3, .inl (.int 0), .inr (.inl 87))]) jm_ok70 (by decide +kernel) (by decide +kernel) hd F X1 X2 (fun F' hF hs => ?_)
  have b85 := hd_b (F := F) (F' := F') (k := 85) (hF 85 (by decide))
  have b86 := hd_b (F := F) (F' := F') (k := 86) (hF 86 (by decide))
  have t87 : sy_dv F' (.inr (.inl 87)) = .int ((sy_i F 85) - (sy_i F 86)) := hd_o (hs 0 _ rfl) b85 b86 rfl
  have hB' : iv_in F' iv_B0 := iv_in_eq hB (fun j hj => hF j (Nat.lt_of_lt_of_le hj (by decide +kernel)))
  refine ⟨List.forall_mem_cons.mpr ⟨hd_p3 rfl t87 (by have hc : ((0) : Int32).toInt = 0 := (by decide); omega), fun _ h => absurd h List.not_mem_nil⟩, ?_⟩
  refine k _ ?_
  · exact fun j hj _ => (hd_keep hB' (Nat.lt_of_lt_of_le hj (by decide +kernel)) (by simp)).trans (hF j (Nat.lt_of_lt_of_le hj (by decide)))
theorem j2rc_31 {Ls : Nat} {xs : Nat → Int32} {d : Nat} {Q : Option Value → jm_h → Prop} (hd : 1 ≤ d) (F : Nat → sy_d) (X1 X2 : List jm_c) (hB : iv_in F iv_B0)
    (a84 : 0 ≤ (sy_i F 84).toInt ∧ (sy_i F 84).toInt ≤ 6)
    (a85 : 0 ≤ (sy_i F 85).toInt ∧ (sy_i F 85).toInt ≤ 7)
    (a86 : 0 ≤ (sy_i F 86).toInt ∧ (sy_i F 86).toInt ≤ 7)
    (k0 : 0 < ((sy_i F 85).toInt - (sy_i F 86).toInt) → ∀ F1 : Nat → sy_d, iv_in F1 iv_B0 → (∀ j, j < 82 → j ∉ ([] : List Nat) → F1 j = F j) → (sy_i F1 82).toInt = (sy_i F 82).toInt → sy_i F1 82 = sy_i F 82 → (sy_i F1 83).toInt = ((sy_i F 83) * ((sy_i F 85) - (sy_i F 86))).toInt → sy_i F1 83 = (sy_i F 83) * ((sy_i F 85) - (sy_i F 86)) → (sy_i F1 84).toInt = ((sy_i F 84).toInt + 1) → sy_i F1 84 = (sy_i F 84) + ((1 : Int32)) → hd_W Ls xs d jm_M70 Q (5, sy_dL F1 [some (.inl (.ref 70)), some (.inl (.ref 20)), some (.inr (.inl 82)), some (.inr (.inl 83)), some (.inr (.inl 84)), none], sy_dS F1 [], sy_dh F1 X1 X2 (iv_H 2), 0, 0))
    (k1 : ((sy_i F 85).toInt - (sy_i F 86).toInt) ≤ 0 → ∀ F1 : Nat → sy_d, iv_in F1 iv_B0 → (∀ j, j < 82 → j ∉ ([] : List Nat) → F1 j = F j) → Q (some (.int ((0 : Int32)))) (sy_dh F1 X1 X2 (iv_H 2))) :
    hd_W Ls xs d jm_M70 Q (31, sy_dL F [some (.inl (.ref 70)), some (.inl (.ref 20)), some (.inr (.inl 82)), some (.inr (.inl 83)), some (.inr (.inl 84)), none], sy_dS F [.inr (.inl 86), .inr (.inl 85)], sy_dh F X1 X2 (iv_H 2), 0, 0) := by
  by_cases g0 : 0 < ((sy_i F 85).toInt - (sy_i F 86).toInt)
  · have n87 : nzI ((sy_i F 85) - (sy_i F 86)) (((sy_i F 85).toInt - (sy_i F 86).toInt)) := nz_sub (rfl : (sy_i F 85).toInt = (sy_i F 85).toInt) (rfl : (sy_i F 86).toInt = (sy_i F 86).toInt) (by omega) (by omega)
    have n88 : nzI ((sy_i F 83) * ((sy_i F 85) - (sy_i F 86))) (((sy_i F 83) * ((sy_i F 85) - (sy_i F 86))).toInt) := congrArg Int32.toInt (rfl : (sy_i F 83) * ((sy_i F 85) - (sy_i F 86)) = (sy_i F 83) * ((sy_i F 85) - (sy_i F 86)))
    have n89 : nzI ((sy_i F 84) + ((1 : Int32))) (((sy_i F 84).toInt + 1)) := nz_add (rfl : (sy_i F 84).toInt = (sy_i F 84).toInt) (by decide : ((1 : Int32)).toInt = 1) (by omega) (by omega)
    exact j2rc_31_p0 hd F X1 X2 hB (by first | (simp only [nz_c, (nzE n87)]; exact g0) | exact g0 | (rw [(nzE n87)]; exact g0)) (fun F1 g e82 e83 e84 => k0 g0 F1 (nz_in0 hB [] (fun j hj hn => g j hj (by simp only [List.mem_cons, List.not_mem_nil, or_false, not_or] at hn; exact trivial)) (List.forall_mem_nil _)) (fun j hj hn => g j hj (by simp only [List.mem_cons, List.not_mem_nil, or_false, not_or] at hn; exact trivial)) ((congrArg Int32.toInt (zz_i e82)).trans (rfl : (sy_i F 82).toInt = (sy_i F 82).toInt)) ((zz_i e82).trans (rfl : sy_i F 82 = sy_i F 82)) ((congrArg Int32.toInt (zz_i e83)).trans (nzE n88)) ((zz_i e83).trans (rfl : (sy_i F 83) * ((sy_i F 85) - (sy_i F 86)) = (sy_i F 83) * ((sy_i F 85) - (sy_i F 86)))) ((congrArg Int32.toInt (zz_i e84)).trans (nzE n89)) ((zz_i e84).trans (rfl : (sy_i F 84) + ((1 : Int32)) = (sy_i F 84) + ((1 : Int32)))))
  replace g0 : ((sy_i F 85).toInt - (sy_i F 86).toInt) ≤ 0 := by omega
  have n87 : nzI ((sy_i F 85) - (sy_i F 86)) (((sy_i F 85).toInt - (sy_i F 86).toInt)) := nz_sub (rfl : (sy_i F 85).toInt = (sy_i F 85).toInt) (rfl : (sy_i F 86).toInt = (sy_i F 86).toInt) (by omega) (by omega)
  exact j2rc_31_p1 hd F X1 X2 hB (by first | (simp only [nz_c, (nzE n87)]; exact g0) | exact g0 | (rw [(nzE n87)]; exact g0)) (fun F1 g  => k1 g0 F1 (nz_in0 hB [] (fun j hj hn => g j hj (by simp only [List.mem_cons, List.not_mem_nil, or_false, not_or] at hn; exact trivial)) (List.forall_mem_nil _)) (fun j hj hn => g j hj (by simp only [List.mem_cons, List.not_mem_nil, or_false, not_or] at hn; exact trivial)) )
theorem j2wd_0_p0 {Ls : Nat} {xs : Nat → Int32} {d : Nat} {Q : Option Value → jm_h → Prop} (hd : 1 ≤ d) (F : Nat → sy_d) (X1 X2 : List jm_c) (hB : iv_in F iv_B0)
    (k : ∀ F1 : Nat → sy_d, (∀ j, j < 82 → True → F1 j = F j) → F1 82 = .inl (.int (sy_i F 82)) → F1 83 = .inl (.int ((0 : Int32))) → F1 84 = .inl (.int ((1 : Int32))) → hd_W Ls xs d jm_M73 Q (5, sy_dL F1 [some (.inl (.ref 70)), some (.inl (.ref 20)), some (.inr (.inl 82)), some (.inr (.inl 83)), some (.inr (.inl 84))], sy_dS F1 [], sy_dh F1 X1 X2 (iv_H 2), 0, 0)) :
    hd_W Ls xs d jm_M73 Q (0, sy_dL F [some (.inl (.ref 70)), some (.inl (.ref 20)), some (.inr (.inl 82)), none, none], sy_dS F [], sy_dh F X1 X2 (iv_H 2), 0, 0) := by
  refine hd_run (s := 2) (nv := 83) (pc := 5) (L := [some (.inl (.ref 70)), some (.inl (.ref 20)), some (.inr (.inl 82)), some (.inr (.inl 83)), some (.inr (.inl 84))]) (S := []) (uh := hd_ov (iv_id 0 iv_B0) []) (ul := [.inl (.inr (.inl 82)), .inl (.inl (.int 0)), .inl (.inl (.int 1))]) (f := true) (sp := [5]) (d0 := 0) (O := []) (T := []) (P := []) jm_ok73 (by decide +kernel) (by decide +kernel) hd F X1 X2 (fun F' hF hs => ?_)
  have b82 := hd_b (F := F) (F' := F') (k := 82) (hF 82 (by decide))
  have hB' : iv_in F' iv_B0 := iv_in_eq hB (fun j hj => hF j (Nat.lt_of_lt_of_le hj (by decide +kernel)))
  refine ⟨fun _ h => absurd h List.not_mem_nil, ?_⟩
  refine k _ ?_ ?_ ?_ ?_
  · exact fun j hj _ => (hd_keep hB' (Nat.lt_of_lt_of_le hj (by decide +kernel)) (by simp)).trans (hF j (Nat.lt_of_lt_of_le hj (by decide)))
  · exact hd_gi (x := .inr (.inl 82)) (by decide +kernel) b82
  · exact hd_gi (x := .inl (.int 0)) (by decide +kernel) rfl
  · exact hd_gi (x := .inl (.int 1)) (by decide +kernel) rfl
theorem j2wd_0 {Ls : Nat} {xs : Nat → Int32} {d : Nat} {Q : Option Value → jm_h → Prop} (hd : 1 ≤ d) (F : Nat → sy_d) (X1 X2 : List jm_c) (hB : iv_in F iv_B0)
    (k0 : ∀ F1 : Nat → sy_d, iv_in F1 iv_B0 → (∀ j, j < 82 → j ∉ ([] : List Nat) → F1 j = F j) → (sy_i F1 82).toInt = (sy_i F 82).toInt → sy_i F1 82 = sy_i F 82 → (sy_i F1 83).toInt = 0 → sy_i F1 83 = (0 : Int32) → (sy_i F1 84).toInt = 1 → sy_i F1 84 = (1 : Int32) → hd_W Ls xs d jm_M73 Q (5, sy_dL F1 [some (.inl (.ref 70)), some (.inl (.ref 20)), some (.inr (.inl 82)), some (.inr (.inl 83)), some (.inr (.inl 84))], sy_dS F1 [], sy_dh F1 X1 X2 (iv_H 2), 0, 0)) :
    hd_W Ls xs d jm_M73 Q (0, sy_dL F [some (.inl (.ref 70)), some (.inl (.ref 20)), some (.inr (.inl 82)), none, none], sy_dS F [], sy_dh F X1 X2 (iv_H 2), 0, 0) := by
  exact j2wd_0_p0 hd F X1 X2 hB  (fun F1 g e82 e83 e84 => k0 F1 (nz_in0 hB [] (fun j hj hn => g j hj (by simp only [List.mem_cons, List.not_mem_nil, or_false, not_or] at hn; exact trivial)) (List.forall_mem_nil _)) (fun j hj hn => g j hj (by simp only [List.mem_cons, List.not_mem_nil, or_false, not_or] at hn; exact trivial)) ((congrArg Int32.toInt (zz_i e82)).trans (rfl : (sy_i F 82).toInt = (sy_i F 82).toInt)) ((zz_i e82).trans (rfl : sy_i F 82 = sy_i F 82)) ((congrArg Int32.toInt (zz_i e83)).trans (by decide : ((0 : Int32)).toInt = 0)) ((zz_i e83).trans (rfl : (0 : Int32) = (0 : Int32))) ((congrArg Int32.toInt (zz_i e84)).trans (by decide : ((1 : Int32)).toInt = 1)) ((zz_i e84).trans (rfl : (1 : Int32) = (1 : Int32))))
theorem j2wd_5_p0 {Ls : Nat} {xs : Nat → Int32} {d : Nat} {Q : Option Value → jm_h → Prop} (hd : 1 ≤ d) (F : Nat → sy_d) (X1 X2 : List jm_c) (hB : iv_in F iv_B0)
    (h0 : (sy_i F 82).toInt ≤ (sy_i F 84).toInt)
    (k : ∀ F1 : Nat → sy_d, (∀ j, j < 82 → True → F1 j = F j) → Q (some (.int (sy_i F 83))) (sy_dh F1 X1 X2 (iv_H 2))) :
    hd_W Ls xs d jm_M73 Q (5, sy_dL F [some (.inl (.ref 70)), some (.inl (.ref 20)), some (.inr (.inl 82)), some (.inr (.inl 83)), some (.inr (.inl 84))], sy_dS F [], sy_dh F X1 X2 (iv_H 2), 0, 0) := by
  refine hd_ret (s := 2) (nv := 85) (v := some (.inr (.inl 83))) (uh := hd_ov (iv_id 0 iv_B0) []) (f := true) (sp := [22]) (d0 := 0) (O := [true]) (T := []) (P := [(4, .inr (.inl 82), .inr (.inl 84))]) jm_ok73 (by decide +kernel) (by decide +kernel) hd F X1 X2 (fun F' hF hs => ?_)
  have b82 := hd_b (F := F) (F' := F') (k := 82) (hF 82 (by decide))
  have b84 := hd_b (F := F) (F' := F') (k := 84) (hF 84 (by decide))
  have b83 := hd_b (F := F) (F' := F') (k := 83) (hF 83 (by decide))
  have hB' : iv_in F' iv_B0 := iv_in_eq hB (fun j hj => hF j (Nat.lt_of_lt_of_le hj (by decide +kernel)))
  have hk := k (sy_cm F' (hd_ov (iv_id 0 iv_B0) [] ++ [])) (fun j hj _ => (hd_keep hB' (Nat.lt_of_lt_of_le hj (by decide +kernel)) (by simp)).trans (hF j (Nat.lt_of_lt_of_le hj (by decide))))
  refine ⟨List.forall_mem_cons.mpr ⟨hd_p4 b82 b84 h0, fun _ h => absurd h List.not_mem_nil⟩, ?_⟩
  show Q (some (sy_dv F' (.inr (.inl 83)))) _
  rw [b83]
  exact hk
theorem j2wd_5_p1 {Ls : Nat} {xs : Nat → Int32} {d : Nat} {Q : Option Value → jm_h → Prop} (hd : 1 ≤ d) (F : Nat → sy_d) (X1 X2 : List jm_c) (hB : iv_in F iv_B0)
    (h0 : (sy_i F 84).toInt < (sy_i F 82).toInt)
    (h1 : 7 ≤ (sy_i F 84).toInt)
    (k : ∀ F1 : Nat → sy_d, (∀ j, j < 82 → True → F1 j = F j) → Q (some (.int (sy_i F 83))) (sy_dh F1 X1 X2 (iv_H 2))) :
    hd_W Ls xs d jm_M73 Q (5, sy_dL F [some (.inl (.ref 70)), some (.inl (.ref 20)), some (.inr (.inl 82)), some (.inr (.inl 83)), some (.inr (.inl 84))], sy_dS F [], sy_dh F X1 X2 (iv_H 2), 0, 0) := by
  refine hd_ret (s := 2) (nv := 85) (v := some (.inr (.inl 83))) (uh := hd_ov (iv_id 0 iv_B0) []) (f := true) (sp := [22]) (d0 := 0) (O := [false, true]) (T := []) (P := [(5, .inr (.inl 82), .inr (.inl 84)), (4, .inl (.int 7), .inr (.inl 84))]) jm_ok73 (by decide +kernel) (by decide +kernel) hd F X1 X2 (fun F' hF hs => ?_)
  have b82 := hd_b (F := F) (F' := F') (k := 82) (hF 82 (by decide))
  have b84 := hd_b (F := F) (F' := F') (k := 84) (hF 84 (by decide))
  have b83 := hd_b (F := F) (F' := F') (k := 83) (hF 83 (by decide))
  have hB' : iv_in F' iv_B0 := iv_in_eq hB (fun j hj => hF j (Nat.lt_of_lt_of_le hj (by decide +kernel)))
  have hk := k (sy_cm F' (hd_ov (iv_id 0 iv_B0) [] ++ [])) (fun j hj _ => (hd_keep hB' (Nat.lt_of_lt_of_le hj (by decide +kernel)) (by simp)).trans (hF j (Nat.lt_of_lt_of_le hj (by decide))))
  refine ⟨List.forall_mem_cons.mpr ⟨hd_p5 b82 b84 h0, List.forall_mem_cons.mpr ⟨hd_p4 rfl b84 (by have hc : ((7) : Int32).toInt = 7 := (by decide); omega), fun _ h => absurd h List.not_mem_nil⟩⟩, ?_⟩
  show Q (some (sy_dv F' (.inr (.inl 83)))) _
  rw [b83]
  exact hk
theorem j2wd_5_p2 {Ls : Nat} {xs : Nat → Int32} {d : Nat} {Q : Option Value → jm_h → Prop} (hd : 1 ≤ d) (F : Nat → sy_d) (X1 X2 : List jm_c) (hB : iv_in F iv_B0)
    (h0 : (sy_i F 84).toInt < (sy_i F 82).toInt)
    (h1 : (sy_i F 84).toInt < 7)
    (k : ∀ F1 : Nat → sy_d, (∀ j, j < 82 → True → F1 j = F j) → F1 82 = .inl (.int (sy_i F 82)) → F1 83 = .inl (.int (sy_i F 83)) → F1 84 = .inl (.int (sy_i F 84)) → hd_W Ls xs d jm_M73 Q (22, sy_dL F1 [some (.inl (.ref 70)), some (.inl (.ref 20)), some (.inr (.inl 82)), some (.inr (.inl 83)), some (.inr (.inl 84))], sy_dS F1 [.inr (.inl 84), .inl (.ref 20), .inl (.ref 70)], sy_dh F1 X1 X2 (iv_H 2), 0, 0)) :
    hd_W Ls xs d jm_M73 Q (5, sy_dL F [some (.inl (.ref 70)), some (.inl (.ref 20)), some (.inr (.inl 82)), some (.inr (.inl 83)), some (.inr (.inl 84))], sy_dS F [], sy_dh F X1 X2 (iv_H 2), 0, 0) := by
  refine hd_run (s := 2) (nv := 85) (pc := 22) (L := [some (.inl (.ref 70)), some (.inl (.ref 20)), some (.inr (.inl 82)), some (.inr (.inl 83)), some (.inr (.inl 84))]) (S := [.inr (.inl 84), .inl (.ref 20), .inl (.ref 70)]) (uh := hd_ov (iv_id 0 iv_B0) []) (ul := [.inl (.inr (.inl 82)), .inl (.inr (.inl 83)), .inl (.inr (.inl 84))]) (f := true) (sp := [22]) (d0 := 0) (O := [false, false]) (T := []) (P := [(5, .inr (.inl 82), .inr (.inl 84)), (5, .inl (.int 7), .inr (.inl 84))]) jm_ok73 (by decide +kernel) (by decide +kernel) hd F X1 X2 (fun F' hF hs => ?_)
  have b82 := hd_b (F := F) (F' := F') (k := 82) (hF 82 (by decide))
  have b84 := hd_b (F := F) (F' := F') (k := 84) (hF 84 (by decide))
  have b83 := hd_b (F := F) (F' := F') (k := 83) (hF 83 (by decide))
  have hB' : iv_in F' iv_B0 := iv_in_eq hB (fun j hj => hF j (Nat.lt_of_lt_of_le hj (by decide +kernel)))
  refine ⟨List.forall_mem_cons.mpr ⟨hd_p5 b82 b84 h0, List.forall_mem_cons.mpr ⟨hd_p5 rfl b84 (by have hc : ((7) : Int32).toInt = 7 := (by decide); omega), fun _ h => absurd h List.not_mem_nil⟩⟩, ?_⟩
  refine k _ ?_ ?_ ?_ ?_
  · exact fun j hj _ => (hd_keep hB' (Nat.lt_of_lt_of_le hj (by decide +kernel)) (by simp)).trans (hF j (Nat.lt_of_lt_of_le hj (by decide)))
  · exact hd_gi (x := .inr (.inl 82)) (by decide +kernel) b82
  · exact hd_gi (x := .inr (.inl 83)) (by decide +kernel) b83
  · exact hd_gi (x := .inr (.inl 84)) (by decide +kernel) b84
theorem j2wd_5 {Ls : Nat} {xs : Nat → Int32} {d : Nat} {Q : Option Value → jm_h → Prop} (hd : 1 ≤ d) (F : Nat → sy_d) (X1 X2 : List jm_c) (hB : iv_in F iv_B0)
    (a84 : 1 ≤ (sy_i F 84).toInt ∧ (sy_i F 84).toInt ≤ 7)
    (k0 : (sy_i F 82).toInt ≤ (sy_i F 84).toInt → ∀ F1 : Nat → sy_d, iv_in F1 iv_B0 → (∀ j, j < 82 → j ∉ ([] : List Nat) → F1 j = F j) → Q (some (.int (sy_i F 83))) (sy_dh F1 X1 X2 (iv_H 2)))
    (k1 : (sy_i F 84).toInt < (sy_i F 82).toInt → 7 ≤ (sy_i F 84).toInt → ∀ F1 : Nat → sy_d, iv_in F1 iv_B0 → (∀ j, j < 82 → j ∉ ([] : List Nat) → F1 j = F j) → Q (some (.int (sy_i F 83))) (sy_dh F1 X1 X2 (iv_H 2)))
    (k2 : (sy_i F 84).toInt < (sy_i F 82).toInt → (sy_i F 84).toInt < 7 → ∀ F1 : Nat → sy_d, iv_in F1 iv_B0 → (∀ j, j < 82 → j ∉ ([] : List Nat) → F1 j = F j) → (sy_i F1 82).toInt = (sy_i F 82).toInt → sy_i F1 82 = sy_i F 82 → (sy_i F1 83).toInt = (sy_i F 83).toInt → sy_i F1 83 = sy_i F 83 → (sy_i F1 84).toInt = (sy_i F 84).toInt → sy_i F1 84 = sy_i F 84 → hd_W Ls xs d jm_M73 Q (22, sy_dL F1 [some (.inl (.ref 70)), some (.inl (.ref 20)), some (.inr (.inl 82)), some (.inr (.inl 83)), some (.inr (.inl 84))], sy_dS F1 [.inr (.inl 84), .inl (.ref 20), .inl (.ref 70)], sy_dh F1 X1 X2 (iv_H 2), 0, 0)) :
    hd_W Ls xs d jm_M73 Q (5, sy_dL F [some (.inl (.ref 70)), some (.inl (.ref 20)), some (.inr (.inl 82)), some (.inr (.inl 83)), some (.inr (.inl 84))], sy_dS F [], sy_dh F X1 X2 (iv_H 2), 0, 0) := by
  by_cases g0 : (sy_i F 82).toInt ≤ (sy_i F 84).toInt
  · exact j2wd_5_p0 hd F X1 X2 hB (by first | exact g0 | (simp only [nz_c]; exact g0)) (fun F1 g  => by rw [(rfl : sy_i F 83 = sy_i F 83)]; exact k0 g0 F1 (nz_in0 hB [] (fun j hj hn => g j hj (by simp only [List.mem_cons, List.not_mem_nil, or_false, not_or] at hn; exact trivial)) (List.forall_mem_nil _)) (fun j hj hn => g j hj (by simp only [List.mem_cons, List.not_mem_nil, or_false, not_or] at hn; exact trivial)) )
  replace g0 : (sy_i F 84).toInt < (sy_i F 82).toInt := by omega
  by_cases g1 : 7 ≤ (sy_i F 84).toInt
  · exact j2wd_5_p1 hd F X1 X2 hB (by first | exact g0 | (simp only [nz_c]; exact g0)) (by first | exact g1 | (simp only [nz_c]; exact g1)) (fun F1 g  => by rw [(rfl : sy_i F 83 = sy_i F 83)]; exact k1 g0 g1 F1 (nz_in0 hB [] (fun j hj hn => g j hj (by simp only [List.mem_cons, List.not_mem_nil, or_false, not_or] at hn; exact trivial)) (List.forall_mem_nil _)) (fun j hj hn => g j hj (by simp only [List.mem_cons, List.not_mem_nil, or_false, not_or] at hn; exact trivial)) )
  replace g1 : (sy_i F 84).toInt < 7 := by omega
  exact j2wd_5_p2 hd F X1 X2 hB (by first | exact g0 | (simp only [nz_c]; exact g0)) (by first | exact g1 | (simp only [nz_c]; exact g1)) (fun F1 g e82 e83 e84 => k2 g0 g1 F1 (nz_in0 hB [] (fun j hj hn => g j hj (by simp only [List.mem_cons, List.not_mem_nil, or_false, not_or] at hn; exact trivial)) (List.forall_mem_nil _)) (fun j hj hn => g j hj (by simp only [List.mem_cons, List.not_mem_nil, or_false, not_or] at hn; exact trivial)) ((congrArg Int32.toInt (zz_i e82)).trans (rfl : (sy_i F 82).toInt = (sy_i F 82).toInt)) ((zz_i e82).trans (rfl : sy_i F 82 = sy_i F 82)) ((congrArg Int32.toInt (zz_i e83)).trans (rfl : (sy_i F 83).toInt = (sy_i F 83).toInt)) ((zz_i e83).trans (rfl : sy_i F 83 = sy_i F 83)) ((congrArg Int32.toInt (zz_i e84)).trans (rfl : (sy_i F 84).toInt = (sy_i F 84).toInt)) ((zz_i e84).trans (rfl : sy_i F 84 = sy_i F 84)))
theorem j2wd_25_p0 {Ls : Nat} {xs : Nat → Int32} {d : Nat} {Q : Option Value → jm_h → Prop} (hd : 1 ≤ d) (F : Nat → sy_d) (X1 X2 : List jm_c) (hB : iv_in F iv_B0)
    (k : ∀ F1 : Nat → sy_d, (∀ j, j < 82 → True → F1 j = F j) → F1 82 = .inl (.int (sy_i F 82)) → F1 83 = .inl (.int (sy_i F 83)) → F1 84 = .inl (.int (sy_i F 84)) → F1 85 = .inl (.int (sy_i F 85)) → hd_W Ls xs d jm_M73 Q (28, sy_dL F1 [some (.inl (.ref 70)), some (.inl (.ref 20)), some (.inr (.inl 82)), some (.inr (.inl 83)), some (.inr (.inl 84))], sy_dS F1 [.inr (.inl 83), .inl (.ref 20), .inl (.ref 70), .inr (.inl 85)], sy_dh F1 X1 X2 (iv_H 2), 0, 0)) :
    hd_W Ls xs d jm_M73 Q (25, sy_dL F [some (.inl (.ref 70)), some (.inl (.ref 20)), some (.inr (.inl 82)), some (.inr (.inl 83)), some (.inr (.inl 84))], sy_dS F [.inr (.inl 85)], sy_dh F X1 X2 (iv_H 2), 0, 0) := by
  refine hd_run (s := 2) (nv := 86) (pc := 28) (L := [some (.inl (.ref 70)), some (.inl (.ref 20)), some (.inr (.inl 82)), some (.inr (.inl 83)), some (.inr (.inl 84))]) (S := [.inr (.inl 83), .inl (.ref 20), .inl (.ref 70), .inr (.inl 85)]) (uh := hd_ov (iv_id 0 iv_B0) []) (ul := [.inl (.inr (.inl 82)), .inl (.inr (.inl 83)), .inl (.inr (.inl 84)), .inl (.inr (.inl 85))]) (f := false) (sp := [28]) (d0 := 0) (O := []) (T := []) (P := []) jm_ok73 (by decide +kernel) (by decide +kernel) hd F X1 X2 (fun F' hF hs => ?_)
  have b82 := hd_b (F := F) (F' := F') (k := 82) (hF 82 (by decide))
  have b83 := hd_b (F := F) (F' := F') (k := 83) (hF 83 (by decide))
  have b84 := hd_b (F := F) (F' := F') (k := 84) (hF 84 (by decide))
  have b85 := hd_b (F := F) (F' := F') (k := 85) (hF 85 (by decide))
  have hB' : iv_in F' iv_B0 := iv_in_eq hB (fun j hj => hF j (Nat.lt_of_lt_of_le hj (by decide +kernel)))
  refine ⟨fun _ h => absurd h List.not_mem_nil, ?_⟩
  refine k _ ?_ ?_ ?_ ?_ ?_
  · exact fun j hj _ => (hd_keep hB' (Nat.lt_of_lt_of_le hj (by decide +kernel)) (by simp)).trans (hF j (Nat.lt_of_lt_of_le hj (by decide)))
  · exact hd_gi (x := .inr (.inl 82)) (by decide +kernel) b82
  · exact hd_gi (x := .inr (.inl 83)) (by decide +kernel) b83
  · exact hd_gi (x := .inr (.inl 84)) (by decide +kernel) b84
  · exact hd_gi (x := .inr (.inl 85)) (by decide +kernel) b85
theorem j2wd_25 {Ls : Nat} {xs : Nat → Int32} {d : Nat} {Q : Option Value → jm_h → Prop} (hd : 1 ≤ d) (F : Nat → sy_d) (X1 X2 : List jm_c) (hB : iv_in F iv_B0)
    (k0 : ∀ F1 : Nat → sy_d, iv_in F1 iv_B0 → (∀ j, j < 82 → j ∉ ([] : List Nat) → F1 j = F j) → (sy_i F1 82).toInt = (sy_i F 82).toInt → sy_i F1 82 = sy_i F 82 → (sy_i F1 83).toInt = (sy_i F 83).toInt → sy_i F1 83 = sy_i F 83 → (sy_i F1 84).toInt = (sy_i F 84).toInt → sy_i F1 84 = sy_i F 84 → (sy_i F1 85).toInt = (sy_i F 85).toInt → sy_i F1 85 = sy_i F 85 → hd_W Ls xs d jm_M73 Q (28, sy_dL F1 [some (.inl (.ref 70)), some (.inl (.ref 20)), some (.inr (.inl 82)), some (.inr (.inl 83)), some (.inr (.inl 84))], sy_dS F1 [.inr (.inl 83), .inl (.ref 20), .inl (.ref 70), .inr (.inl 85)], sy_dh F1 X1 X2 (iv_H 2), 0, 0)) :
    hd_W Ls xs d jm_M73 Q (25, sy_dL F [some (.inl (.ref 70)), some (.inl (.ref 20)), some (.inr (.inl 82)), some (.inr (.inl 83)), some (.inr (.inl 84))], sy_dS F [.inr (.inl 85)], sy_dh F X1 X2 (iv_H 2), 0, 0) := by
  exact j2wd_25_p0 hd F X1 X2 hB  (fun F1 g e82 e83 e84 e85 => k0 F1 (nz_in0 hB [] (fun j hj hn => g j hj (by simp only [List.mem_cons, List.not_mem_nil, or_false, not_or] at hn; exact trivial)) (List.forall_mem_nil _)) (fun j hj hn => g j hj (by simp only [List.mem_cons, List.not_mem_nil, or_false, not_or] at hn; exact trivial)) ((congrArg Int32.toInt (zz_i e82)).trans (rfl : (sy_i F 82).toInt = (sy_i F 82).toInt)) ((zz_i e82).trans (rfl : sy_i F 82 = sy_i F 82)) ((congrArg Int32.toInt (zz_i e83)).trans (rfl : (sy_i F 83).toInt = (sy_i F 83).toInt)) ((zz_i e83).trans (rfl : sy_i F 83 = sy_i F 83)) ((congrArg Int32.toInt (zz_i e84)).trans (rfl : (sy_i F 84).toInt = (sy_i F 84).toInt)) ((zz_i e84).trans (rfl : sy_i F 84 = sy_i F 84)) ((congrArg Int32.toInt (zz_i e85)).trans (rfl : (sy_i F 85).toInt = (sy_i F 85).toInt)) ((zz_i e85).trans (rfl : sy_i F 85 = sy_i F 85)))
theorem j2wd_31_p0 {Ls : Nat} {xs : Nat → Int32} {d : Nat} {Q : Option Value → jm_h → Prop} (hd : 1 ≤ d) (F : Nat → sy_d) (X1 X2 : List jm_c) (hB : iv_in F iv_B0)
    (h0 : (sy_i F 85).toInt ≤ (sy_i F 86).toInt)
    (k : ∀ F1 : Nat → sy_d, (∀ j, j < 82 → True → F1 j = F j) → F1 82 = .inl (.int (sy_i F 82)) → F1 83 = .inl (.int (sy_i F 83)) → F1 84 = .inl (.int ((sy_i F 84) + ((1 : Int32)))) → hd_W Ls xs d jm_M73 Q (5, sy_dL F1 [some (.inl (.ref 70)), some (.inl (.ref 20)), some (.inr (.inl 82)), some (.inr (.inl 83)), some (.inr (.inl 84))], sy_dS F1 [], sy_dh F1 X1 X2 (iv_H 2), 0, 0)) :
    hd_W Ls xs d jm_M73 Q (31, sy_dL F [some (.inl (.ref 70)), some (.inl (.ref 20)), some (.inr (.inl 82)), some (.inr (.inl 83)), some (.inr (.inl 84))], sy_dS F [.inr (.inl 86), .inr (.inl 85)], sy_dh F X1 X2 (iv_H 2), 0, 0) := by
  refine hd_run (s := 2) (nv := 87) (pc := 5) (L := [some (.inl (.ref 70)), some (.inl (.ref 20)), some (.inr (.inl 82)), some (.inr (.inl 83)), some (.inr (.inl 84))]) (S := []) (uh := hd_ov (iv_id 0 iv_B0) []) (ul := [.inl (.inr (.inl 82)), .inl (.inr (.inl 83)), .inl (.inr (.inl 87))]) (f := false) (sp := [5]) (d0 := 0) (O := [true]) (T := [(0, [.inr (.inl 84), .inl (.int 1)], [])]) (P := [(4, .inr (.inl 85), .inr (.inl 86))]) jm_ok73 (by decide +kernel) (by decide +kernel) hd F X1 X2 (fun F' hF hs => ?_)
  have b85 := hd_b (F := F) (F' := F') (k := 85) (hF 85 (by decide))
  have b86 := hd_b (F := F) (F' := F') (k := 86) (hF 86 (by decide))
  have b82 := hd_b (F := F) (F' := F') (k := 82) (hF 82 (by decide))
  have b83 := hd_b (F := F) (F' := F') (k := 83) (hF 83 (by decide))
  have b84 := hd_b (F := F) (F' := F') (k := 84) (hF 84 (by decide))
  have t87 : sy_dv F' (.inr (.inl 87)) = .int ((sy_i F 84) + ((1 : Int32))) := hd_o (hs 0 _ rfl) b84 rfl rfl
  have hB' : iv_in F' iv_B0 := iv_in_eq hB (fun j hj => hF j (Nat.lt_of_lt_of_le hj (by decide +kernel)))
  refine ⟨List.forall_mem_cons.mpr ⟨hd_p4 b85 b86 h0, fun _ h => absurd h List.not_mem_nil⟩, ?_⟩
  refine k _ ?_ ?_ ?_ ?_
  · exact fun j hj _ => (hd_keep hB' (Nat.lt_of_lt_of_le hj (by decide +kernel)) (by simp)).trans (hF j (Nat.lt_of_lt_of_le hj (by decide)))
  · exact hd_gi (x := .inr (.inl 82)) (by decide +kernel) b82
  · exact hd_gi (x := .inr (.inl 83)) (by decide +kernel) b83
  · exact hd_gi (x := .inr (.inl 87)) (by decide +kernel) t87
theorem j2wd_31_p1 {Ls : Nat} {xs : Nat → Int32} {d : Nat} {Q : Option Value → jm_h → Prop} (hd : 1 ≤ d) (F : Nat → sy_d) (X1 X2 : List jm_c) (hB : iv_in F iv_B0)
    (h0 : (sy_i F 86).toInt < (sy_i F 85).toInt)
    (k : ∀ F1 : Nat → sy_d, (∀ j, j < 82 → True → F1 j = F j) → F1 82 = .inl (.int (sy_i F 82)) → F1 83 = .inl (.int (sy_i F 84)) → F1 84 = .inl (.int ((sy_i F 84) + ((1 : Int32)))) → hd_W Ls xs d jm_M73 Q (5, sy_dL F1 [some (.inl (.ref 70)), some (.inl (.ref 20)), some (.inr (.inl 82)), some (.inr (.inl 83)), some (.inr (.inl 84))], sy_dS F1 [], sy_dh F1 X1 X2 (iv_H 2), 0, 0)) :
    hd_W Ls xs d jm_M73 Q (31, sy_dL F [some (.inl (.ref 70)), some (.inl (.ref 20)), some (.inr (.inl 82)), some (.inr (.inl 83)), some (.inr (.inl 84))], sy_dS F [.inr (.inl 86), .inr (.inl 85)], sy_dh F X1 X2 (iv_H 2), 0, 0) := by
  refine hd_run (s := 2) (nv := 87) (pc := 5) (L := [some (.inl (.ref 70)), some (.inl (.ref 20)), some (.inr (.inl 82)), some (.inr (.inl 83)), some (.inr (.inl 84))]) (S := []) (uh := hd_ov (iv_id 0 iv_B0) []) (ul := [.inl (.inr (.inl 82)), .inl (.inr (.inl 84)), .inl (.inr (.inl 87))]) (f := false) (sp := [5]) (d0 := 0) (O := [false]) (T := [(0, [.inr (.inl 84), .inl (.int 1)], [])]) (P := [(5, .inr (.inl 85), .inr (.inl 86))]) jm_ok73 (by decide +kernel) (by decide +kernel) hd F X1 X2 (fun F' hF hs => ?_)
  have b85 := hd_b (F := F) (F' := F') (k := 85) (hF 85 (by decide))
  have b86 := hd_b (F := F) (F' := F') (k := 86) (hF 86 (by decide))
  have b82 := hd_b (F := F) (F' := F') (k := 82) (hF 82 (by decide))
  have b84 := hd_b (F := F) (F' := F') (k := 84) (hF 84 (by decide))
  have t87 : sy_dv F' (.inr (.inl 87)) = .int ((sy_i F 84) + ((1 : Int32))) := hd_o (hs 0 _ rfl) b84 rfl rfl
  have hB' : iv_in F' iv_B0 := iv_in_eq hB (fun j hj => hF j (Nat.lt_of_lt_of_le hj (by decide +kernel)))
  refine ⟨List.forall_mem_cons.mpr ⟨hd_p5 b85 b86 h0, fun _ h => absurd h List.not_mem_nil⟩, ?_⟩
  refine k _ ?_ ?_ ?_ ?_
  · exact fun j hj _ => (hd_keep hB' (Nat.lt_of_lt_of_le hj (by decide +kernel)) (by simp)).trans (hF j (Nat.lt_of_lt_of_le hj (by decide)))
  · exact hd_gi (x := .inr (.inl 82)) (by decide +kernel) b82
  · exact hd_gi (x := .inr (.inl 84)) (by decide +kernel) b84
  · exact hd_gi (x := .inr (.inl 87)) (by decide +kernel) t87
theorem j2wd_31 {Ls : Nat} {xs : Nat → Int32} {d : Nat} {Q : Option Value → jm_h → Prop} (hd : 1 ≤ d) (F : Nat → sy_d) (X1 X2 : List jm_c) (hB : iv_in F iv_B0)
    (a84 : 1 ≤ (sy_i F 84).toInt ∧ (sy_i F 84).toInt ≤ 6)
    (k0 : (sy_i F 85).toInt ≤ (sy_i F 86).toInt → ∀ F1 : Nat → sy_d, iv_in F1 iv_B0 → (∀ j, j < 82 → j ∉ ([] : List Nat) → F1 j = F j) → (sy_i F1 82).toInt = (sy_i F 82).toInt → sy_i F1 82 = sy_i F 82 → (sy_i F1 83).toInt = (sy_i F 83).toInt → sy_i F1 83 = sy_i F 83 → (sy_i F1 84).toInt = ((sy_i F 84).toInt + 1) → sy_i F1 84 = (sy_i F 84) + ((1 : Int32)) → hd_W Ls xs d jm_M73 Q (5, sy_dL F1 [some (.inl (.ref 70)), some (.inl (.ref 20)), some (.inr (.inl 82)), some (.inr (.inl 83)), some (.inr (.inl 84))], sy_dS F1 [], sy_dh F1 X1 X2 (iv_H 2), 0, 0))
    (k1 : (sy_i F 86).toInt < (sy_i F 85).toInt → ∀ F1 : Nat → sy_d, iv_in F1 iv_B0 → (∀ j, j < 82 → j ∉ ([] : List Nat) → F1 j = F j) → (sy_i F1 82).toInt = (sy_i F 82).toInt → sy_i F1 82 = sy_i F 82 → (sy_i F1 83).toInt = (sy_i F 84).toInt → sy_i F1 83 = sy_i F 84 → (sy_i F1 84).toInt = ((sy_i F 84).toInt + 1) → sy_i F1 84 = (sy_i F 84) + ((1 : Int32)) → hd_W Ls xs d jm_M73 Q (5, sy_dL F1 [some (.inl (.ref 70)), some (.inl (.ref 20)), some (.inr (.inl 82)), some (.inr (.inl 83)), some (.inr (.inl 84))], sy_dS F1 [], sy_dh F1 X1 X2 (iv_H 2), 0, 0)) :
    hd_W Ls xs d jm_M73 Q (31, sy_dL F [some (.inl (.ref 70)), some (.inl (.ref 20)), some (.inr (.inl 82)), some (.inr (.inl 83)), some (.inr (.inl 84))], sy_dS F [.inr (.inl 86), .inr (.inl 85)], sy_dh F X1 X2 (iv_H 2), 0, 0) := by
  by_cases g0 : (sy_i F 85).toInt ≤ (sy_i F 86).toInt
  · have n87 : nzI ((sy_i F 84) + ((1 : Int32))) (((sy_i F 84).toInt + 1)) := nz_add (rfl : (sy_i F 84).toInt = (sy_i F 84).toInt) (by decide : ((1 : Int32)).toInt = 1) (by omega) (by omega)
    exact j2wd_31_p0 hd F X1 X2 hB (by first | exact g0 | (simp only [nz_c]; exact g0)) (fun F1 g e82 e83 e84 => k0 g0 F1 (nz_in0 hB [] (fun j hj hn => g j hj (by simp only [List.mem_cons, List.not_mem_nil, or_false, not_or] at hn; exact trivial)) (List.forall_mem_nil _)) (fun j hj hn => g j hj (by simp only [List.mem_cons, List.not_mem_nil, or_false, not_or] at hn; exact trivial)) ((congrArg Int32.toInt (zz_i e82)).trans (rfl : (sy_i F 82).toInt = (sy_i F 82).toInt)) ((zz_i e82).trans (rfl : sy_i F 82 = sy_i F 82)) ((congrArg Int32.toInt (zz_i e83)).trans (rfl : (sy_i F 83).toInt = (sy_i F 83).toInt)) ((zz_i e83).trans (rfl : sy_i F 83 = sy_i F 83)) ((congrArg Int32.toInt (zz_i e84)).trans (nzE n87)) ((zz_i e84).trans (rfl : (sy_i F 84) + ((1 : Int32)) = (sy_i F 84) + ((1 : Int32)))))
  replace g0 : (sy_i F 86).toInt < (sy_i F 85).toInt := by omega
  have n87 : nzI ((sy_i F 84) + ((1 : Int32))) (((sy_i F 84).toInt + 1)) := nz_add (rfl : (sy_i F 84).toInt = (sy_i F 84).toInt) (by decide : ((1 : Int32)).toInt = 1) (by omega) (by omega)
  exact j2wd_31_p1 hd F X1 X2 hB (by first | exact g0 | (simp only [nz_c]; exact g0)) (fun F1 g e82 e83 e84 => k1 g0 F1 (nz_in0 hB [] (fun j hj hn => g j hj (by simp only [List.mem_cons, List.not_mem_nil, or_false, not_or] at hn; exact trivial)) (List.forall_mem_nil _)) (fun j hj hn => g j hj (by simp only [List.mem_cons, List.not_mem_nil, or_false, not_or] at hn; exact trivial)) ((congrArg Int32.toInt (zz_i e82)).trans (rfl : (sy_i F 82).toInt = (sy_i F 82).toInt)) ((zz_i e82).trans (rfl : sy_i F 82 = sy_i F 82)) ((congrArg Int32.toInt (zz_i e83)).trans (rfl : (sy_i F 84).toInt = (sy_i F 84).toInt)) ((zz_i e83).trans (rfl : sy_i F 84 = sy_i F 84)) ((congrArg Int32.toInt (zz_i e84)).trans (nzE n87)) ((zz_i e84).trans (rfl : (sy_i F 84) + ((1 : Int32)) = (sy_i F 84) + ((1 : Int32)))))
theorem j2rw_0_p0 {Ls : Nat} {xs : Nat → Int32} {d : Nat} {Q : Option Value → jm_h → Prop} (hd : 2 ≤ d) (F : Nat → sy_d) (X1 X2 : List jm_c) (hB : iv_in F iv_B0)
    (h0 : (sy_i F 82).toInt < 0)
    (k : ∀ F1 : Nat → sy_d, (∀ j, j < 82 → True → F1 j = F j) → Q (some (.int (((-1) : Int32)))) (sy_dh F1 X1 X2 (iv_H 2))) :
    hd_W Ls xs d jm_M110 Q (0, sy_dL F [some (.inl (.ref 8)), some (.inr (.inl 82))], sy_dS F [], sy_dh F X1 X2 (iv_H 2), 0, 0) := by
  refine hd_ret (s := 2) (nv := 83) (v := some (.inl (.int (-1)))) (uh := hd_ov (iv_id 0 iv_B0) []) (f := true) (sp := [24]) (d0 := 1) (O := [true]) (T := []) (P := [(2, .inr (.inl 82), .inl (.int 0))]) jm_ok110 (by decide +kernel) (by decide +kernel) hd F X1 X2 (fun F' hF hs => ?_)
  have b82 := hd_b (F := F) (F' := F') (k := 82) (hF 82 (by decide))
  have hB' : iv_in F' iv_B0 := iv_in_eq hB (fun j hj => hF j (Nat.lt_of_lt_of_le hj (by decide +kernel)))
  refine ⟨List.forall_mem_cons.mpr ⟨hd_p2 b82 rfl (by have hc : ((0) : Int32).toInt = 0 := (by decide); omega), fun _ h => absurd h List.not_mem_nil⟩, ?_⟩
  refine k _ ?_
  · exact fun j hj _ => (hd_keep hB' (Nat.lt_of_lt_of_le hj (by decide +kernel)) (by simp)).trans (hF j (Nat.lt_of_lt_of_le hj (by decide)))
theorem j2rw_0_p1 {Ls : Nat} {xs : Nat → Int32} {d : Nat} {Q : Option Value → jm_h → Prop} (hd : 2 ≤ d) (F : Nat → sy_d) (X1 X2 : List jm_c) (hB : iv_in F iv_B0)
    (h0 : 0 ≤ (sy_i F 82).toInt)
    (h1 : (sy_i F 79).toInt < (sy_i F 82).toInt)
    (k : ∀ F1 : Nat → sy_d, (∀ j, j < 82 → True → F1 j = F j) → Q (some (.int (((-1) : Int32)))) (sy_dh F1 X1 X2 (iv_H 2))) :
    hd_W Ls xs d jm_M110 Q (0, sy_dL F [some (.inl (.ref 8)), some (.inr (.inl 82))], sy_dS F [], sy_dh F X1 X2 (iv_H 2), 0, 0) := by
  refine hd_ret (s := 2) (nv := 83) (v := some (.inl (.int (-1)))) (uh := hd_ov (iv_id 0 iv_B0) []) (f := true) (sp := [24]) (d0 := 1) (O := [false, true]) (T := []) (P := [(3, .inr (.inl 82), .inl (.int 0)), (2, .inr (.inl 79), .inr (.inl 82))]) jm_ok110 (by decide +kernel) (by decide +kernel) hd F X1 X2 (fun F' hF hs => ?_)
  have b82 := hd_b (F := F) (F' := F') (k := 82) (hF 82 (by decide))
  have b79 := hd_b (F := F) (F' := F') (k := 79) (hF 79 (by decide))
  have hB' : iv_in F' iv_B0 := iv_in_eq hB (fun j hj => hF j (Nat.lt_of_lt_of_le hj (by decide +kernel)))
  refine ⟨List.forall_mem_cons.mpr ⟨hd_p3 b82 rfl (by have hc : ((0) : Int32).toInt = 0 := (by decide); omega), List.forall_mem_cons.mpr ⟨hd_p2 b79 b82 h1, fun _ h => absurd h List.not_mem_nil⟩⟩, ?_⟩
  refine k _ ?_
  · exact fun j hj _ => (hd_keep hB' (Nat.lt_of_lt_of_le hj (by decide +kernel)) (by simp)).trans (hF j (Nat.lt_of_lt_of_le hj (by decide)))
theorem j2rw_0_p2 {Ls : Nat} {xs : Nat → Int32} {d : Nat} {Q : Option Value → jm_h → Prop} (hd : 2 ≤ d) (F : Nat → sy_d) (X1 X2 : List jm_c) (hB : iv_in F iv_B0)
    (h0 : 0 ≤ (sy_i F 82).toInt)
    (h1 : (sy_i F 82).toInt ≤ (sy_i F 79).toInt)
    (k : ∀ F1 : Nat → sy_d, (∀ j, j < 82 → True → F1 j = F j) → F1 82 = .inl (.int (sy_i F 82)) → hd_W Ls xs d jm_M110 Q (24, sy_dL F1 [some (.inl (.ref 8)), none], sy_dS F1 [.inr (.inl 82), .inl (.ref 20), .inl (.ref 70)], sy_dh F1 X1 X2 (iv_H 2), 0, 0)) :
    hd_W Ls xs d jm_M110 Q (0, sy_dL F [some (.inl (.ref 8)), some (.inr (.inl 82))], sy_dS F [], sy_dh F X1 X2 (iv_H 2), 0, 0) := by
  refine hd_run (s := 2) (nv := 83) (pc := 24) (L := [some (.inl (.ref 8)), none]) (S := [.inr (.inl 82), .inl (.ref 20), .inl (.ref 70)]) (uh := hd_ov (iv_id 0 iv_B0) []) (ul := [.inl (.inr (.inl 82))]) (f := true) (sp := [24]) (d0 := 1) (O := [false, false]) (T := []) (P := [(3, .inr (.inl 82), .inl (.int 0)), (3, .inr (.inl 79), .inr (.inl 82))]) jm_ok110 (by decide +kernel) (by decide +kernel) hd F X1 X2 (fun F' hF hs => ?_)
  have b82 := hd_b (F := F) (F' := F') (k := 82) (hF 82 (by decide))
  have b79 := hd_b (F := F) (F' := F') (k := 79) (hF 79 (by decide))
  have hB' : iv_in F' iv_B0 := iv_in_eq hB (fun j hj => hF j (Nat.lt_of_lt_of_le hj (by decide +kernel)))
  refine ⟨List.forall_mem_cons.mpr ⟨hd_p3 b82 rfl (by have hc : ((0) : Int32).toInt = 0 := (by decide); omega), List.forall_mem_cons.mpr ⟨hd_p3 b79 b82 h1, fun _ h => absurd h List.not_mem_nil⟩⟩, ?_⟩
  refine k _ ?_ ?_
  · exact fun j hj _ => (hd_keep hB' (Nat.lt_of_lt_of_le hj (by decide +kernel)) (by simp)).trans (hF j (Nat.lt_of_lt_of_le hj (by decide)))
  · exact hd_gi (x := .inr (.inl 82)) (by decide +kernel) b82
theorem j2rw_0 {Ls : Nat} {xs : Nat → Int32} {d : Nat} {Q : Option Value → jm_h → Prop} (hd : 2 ≤ d) (F : Nat → sy_d) (X1 X2 : List jm_c) (hB : iv_in F iv_B0)
    (k0 : (sy_i F 82).toInt < 0 → ∀ F1 : Nat → sy_d, iv_in F1 iv_B0 → (∀ j, j < 82 → j ∉ ([] : List Nat) → F1 j = F j) → Q (some (.int (((-1) : Int32)))) (sy_dh F1 X1 X2 (iv_H 2)))
    (k1 : 0 ≤ (sy_i F 82).toInt → (sy_i F 79).toInt < (sy_i F 82).toInt → ∀ F1 : Nat → sy_d, iv_in F1 iv_B0 → (∀ j, j < 82 → j ∉ ([] : List Nat) → F1 j = F j) → Q (some (.int (((-1) : Int32)))) (sy_dh F1 X1 X2 (iv_H 2)))
    (k2 : 0 ≤ (sy_i F 82).toInt → (sy_i F 82).toInt ≤ (sy_i F 79).toInt → ∀ F1 : Nat → sy_d, iv_in F1 iv_B0 → (∀ j, j < 82 → j ∉ ([] : List Nat) → F1 j = F j) → (sy_i F1 82).toInt = (sy_i F 82).toInt → sy_i F1 82 = sy_i F 82 → hd_W Ls xs d jm_M110 Q (24, sy_dL F1 [some (.inl (.ref 8)), none], sy_dS F1 [.inr (.inl 82), .inl (.ref 20), .inl (.ref 70)], sy_dh F1 X1 X2 (iv_H 2), 0, 0)) :
    hd_W Ls xs d jm_M110 Q (0, sy_dL F [some (.inl (.ref 8)), some (.inr (.inl 82))], sy_dS F [], sy_dh F X1 X2 (iv_H 2), 0, 0) := by
  by_cases g0 : (sy_i F 82).toInt < 0
  · exact j2rw_0_p0 hd F X1 X2 hB (by first | exact g0 | (simp only [nz_c]; exact g0)) (fun F1 g  => k0 g0 F1 (nz_in0 hB [] (fun j hj hn => g j hj (by simp only [List.mem_cons, List.not_mem_nil, or_false, not_or] at hn; exact trivial)) (List.forall_mem_nil _)) (fun j hj hn => g j hj (by simp only [List.mem_cons, List.not_mem_nil, or_false, not_or] at hn; exact trivial)) )
  replace g0 : 0 ≤ (sy_i F 82).toInt := by omega
  by_cases g1 : (sy_i F 79).toInt < (sy_i F 82).toInt
  · have c79 := nz_bx hB (k := 79) (lo := 0) (hi := 7) rfl
    exact j2rw_0_p1 hd F X1 X2 hB (by first | exact g0 | (simp only [nz_c]; exact g0)) (by first | exact g1 | (simp only [nz_c]; exact g1)) (fun F1 g  => k1 g0 g1 F1 (nz_in0 hB [] (fun j hj hn => g j hj (by simp only [List.mem_cons, List.not_mem_nil, or_false, not_or] at hn; exact trivial)) (List.forall_mem_nil _)) (fun j hj hn => g j hj (by simp only [List.mem_cons, List.not_mem_nil, or_false, not_or] at hn; exact trivial)) )
  replace g1 : (sy_i F 82).toInt ≤ (sy_i F 79).toInt := by omega
  have c79 := nz_bx hB (k := 79) (lo := 0) (hi := 7) rfl
  exact j2rw_0_p2 hd F X1 X2 hB (by first | exact g0 | (simp only [nz_c]; exact g0)) (by first | exact g1 | (simp only [nz_c]; exact g1)) (fun F1 g e82 => k2 g0 g1 F1 (nz_in0 hB [] (fun j hj hn => g j hj (by simp only [List.mem_cons, List.not_mem_nil, or_false, not_or] at hn; exact trivial)) (List.forall_mem_nil _)) (fun j hj hn => g j hj (by simp only [List.mem_cons, List.not_mem_nil, or_false, not_or] at hn; exact trivial)) ((congrArg Int32.toInt (zz_i e82)).trans (rfl : (sy_i F 82).toInt = (sy_i F 82).toInt)) ((zz_i e82).trans (rfl : sy_i F 82 = sy_i F 82)))
theorem j2rw_27_p0 {Ls : Nat} {xs : Nat → Int32} {d : Nat} {Q : Option Value → jm_h → Prop} (hd : 1 ≤ d) (F : Nat → sy_d) (X1 X2 : List jm_c) (hB : iv_in F iv_B0)
    (k : ∀ F1 : Nat → sy_d, (∀ j, j < 82 → True → F1 j = F j) → Q (some (.int (sy_i F 82))) (sy_dh F1 X1 X2 (iv_H 2))) :
    hd_W Ls xs d jm_M110 Q (27, sy_dL F [some (.inl (.ref 8)), none], sy_dS F [.inr (.inl 82)], sy_dh F X1 X2 (iv_H 2), 0, 0) := by
  refine hd_ret (s := 2) (nv := 83) (v := some (.inr (.inl 82))) (uh := hd_ov (iv_id 0 iv_B0) []) (f := false) (sp := []) (d0 := 0) (O := []) (T := []) (P := []) jm_ok110 (by decide +kernel) (by decide +kernel) hd F X1 X2 (fun F' hF hs => ?_)
  have b82 := hd_b (F := F) (F' := F') (k := 82) (hF 82 (by decide))
  have hB' : iv_in F' iv_B0 := iv_in_eq hB (fun j hj => hF j (Nat.lt_of_lt_of_le hj (by decide +kernel)))
  have hk := k (sy_cm F' (hd_ov (iv_id 0 iv_B0) [] ++ [])) (fun j hj _ => (hd_keep hB' (Nat.lt_of_lt_of_le hj (by decide +kernel)) (by simp)).trans (hF j (Nat.lt_of_lt_of_le hj (by decide))))
  refine ⟨fun _ h => absurd h List.not_mem_nil, ?_⟩
  show Q (some (sy_dv F' (.inr (.inl 82)))) _
  rw [b82]
  exact hk
theorem j2rw_27 {Ls : Nat} {xs : Nat → Int32} {d : Nat} {Q : Option Value → jm_h → Prop} (hd : 1 ≤ d) (F : Nat → sy_d) (X1 X2 : List jm_c) (hB : iv_in F iv_B0)
    (k0 : ∀ F1 : Nat → sy_d, iv_in F1 iv_B0 → (∀ j, j < 82 → j ∉ ([] : List Nat) → F1 j = F j) → Q (some (.int (sy_i F 82))) (sy_dh F1 X1 X2 (iv_H 2))) :
    hd_W Ls xs d jm_M110 Q (27, sy_dL F [some (.inl (.ref 8)), none], sy_dS F [.inr (.inl 82)], sy_dh F X1 X2 (iv_H 2), 0, 0) := by
  exact j2rw_27_p0 hd F X1 X2 hB  (fun F1 g  => by rw [(rfl : sy_i F 82 = sy_i F 82)]; exact k0 F1 (nz_in0 hB [] (fun j hj hn => g j hj (by simp only [List.mem_cons, List.not_mem_nil, or_false, not_or] at hn; exact trivial)) (List.forall_mem_nil _)) (fun j hj hn => g j hj (by simp only [List.mem_cons, List.not_mem_nil, or_false, not_or] at hn; exact trivial)) )
theorem j2su_0_p0 {Ls : Nat} {xs : Nat → Int32} {d : Nat} {Q : Option Value → jm_h → Prop} (hd : 2 ≤ d) (F : Nat → sy_d) (X1 X2 : List jm_c) (hB : iv_in F iv_B0)
    (h0 : (sy_i F 82).toInt < 0)
    (k : ∀ F1 : Nat → sy_d, (∀ j, j < 82 → True → F1 j = F j) → Q (some (.int (((-1) : Int32)))) (sy_dh F1 X1 X2 (iv_H 2))) :
    hd_W Ls xs d jm_M111 Q (0, sy_dL F [some (.inl (.ref 8)), some (.inr (.inl 82)), some (.inr (.inl 83)), none], sy_dS F [], sy_dh F X1 X2 (iv_H 2), 0, 0) := by
  refine hd_ret (s := 2) (nv := 84) (v := some (.inl (.int (-1)))) (uh := hd_ov (iv_id 0 iv_B0) []) (f := true) (sp := [37]) (d0 := 1) (O := [true]) (T := []) (P := [(2, .inr (.inl 82), .inl (.int 0))]) jm_ok111 (by decide +kernel) (by decide +kernel) hd F X1 X2 (fun F' hF hs => ?_)
  have b82 := hd_b (F := F) (F' := F') (k := 82) (hF 82 (by decide))
  have hB' : iv_in F' iv_B0 := iv_in_eq hB (fun j hj => hF j (Nat.lt_of_lt_of_le hj (by decide +kernel)))
  refine ⟨List.forall_mem_cons.mpr ⟨hd_p2 b82 rfl (by have hc : ((0) : Int32).toInt = 0 := (by decide); omega), fun _ h => absurd h List.not_mem_nil⟩, ?_⟩
  refine k _ ?_
  · exact fun j hj _ => (hd_keep hB' (Nat.lt_of_lt_of_le hj (by decide +kernel)) (by simp)).trans (hF j (Nat.lt_of_lt_of_le hj (by decide)))
theorem j2su_0_p1 {Ls : Nat} {xs : Nat → Int32} {d : Nat} {Q : Option Value → jm_h → Prop} (hd : 2 ≤ d) (F : Nat → sy_d) (X1 X2 : List jm_c) (hB : iv_in F iv_B0)
    (h0 : 0 ≤ (sy_i F 82).toInt)
    (h1 : (sy_i F 79).toInt < (sy_i F 82).toInt)
    (k : ∀ F1 : Nat → sy_d, (∀ j, j < 82 → True → F1 j = F j) → Q (some (.int (((-1) : Int32)))) (sy_dh F1 X1 X2 (iv_H 2))) :
    hd_W Ls xs d jm_M111 Q (0, sy_dL F [some (.inl (.ref 8)), some (.inr (.inl 82)), some (.inr (.inl 83)), none], sy_dS F [], sy_dh F X1 X2 (iv_H 2), 0, 0) := by
  refine hd_ret (s := 2) (nv := 84) (v := some (.inl (.int (-1)))) (uh := hd_ov (iv_id 0 iv_B0) []) (f := true) (sp := [37]) (d0 := 1) (O := [false, true]) (T := []) (P := [(3, .inr (.inl 82), .inl (.int 0)), (2, .inr (.inl 79), .inr (.inl 82))]) jm_ok111 (by decide +kernel) (by decide +kernel) hd F X1 X2 (fun F' hF hs => ?_)
  have b82 := hd_b (F := F) (F' := F') (k := 82) (hF 82 (by decide))
  have b79 := hd_b (F := F) (F' := F') (k := 79) (hF 79 (by decide))
  have hB' : iv_in F' iv_B0 := iv_in_eq hB (fun j hj => hF j (Nat.lt_of_lt_of_le hj (by decide +kernel)))
  refine ⟨List.forall_mem_cons.mpr ⟨hd_p3 b82 rfl (by have hc : ((0) : Int32).toInt = 0 := (by decide); omega), List.forall_mem_cons.mpr ⟨hd_p2 b79 b82 h1, fun _ h => absurd h List.not_mem_nil⟩⟩, ?_⟩
  refine k _ ?_
  · exact fun j hj _ => (hd_keep hB' (Nat.lt_of_lt_of_le hj (by decide +kernel)) (by simp)).trans (hF j (Nat.lt_of_lt_of_le hj (by decide)))
theorem j2su_0_p2 {Ls : Nat} {xs : Nat → Int32} {d : Nat} {Q : Option Value → jm_h → Prop} (hd : 2 ≤ d) (F : Nat → sy_d) (X1 X2 : List jm_c) (hB : iv_in F iv_B0)
    (h0 : 0 ≤ (sy_i F 82).toInt)
    (h1 : (sy_i F 82).toInt ≤ (sy_i F 79).toInt)
    (h2 : (sy_i F 83).toInt < 0)
    (k : ∀ F1 : Nat → sy_d, (∀ j, j < 82 → True → F1 j = F j) → Q (some (.int (((-1) : Int32)))) (sy_dh F1 X1 X2 (iv_H 2))) :
    hd_W Ls xs d jm_M111 Q (0, sy_dL F [some (.inl (.ref 8)), some (.inr (.inl 82)), some (.inr (.inl 83)), none], sy_dS F [], sy_dh F X1 X2 (iv_H 2), 0, 0) := by
  refine hd_ret (s := 2) (nv := 84) (v := some (.inl (.int (-1)))) (uh := hd_ov (iv_id 0 iv_B0) []) (f := true) (sp := [37]) (d0 := 1) (O := [false, false, true]) (T := [(1, [.inr (.inl 82), .inl (.int 1)], [])]) (P := [(3, .inr (.inl 82), .inl (.int 0)), (3, .inr (.inl 79), .inr (.inl 82)), (2, .inr (.inl 83), .inl (.int 0))]) jm_ok111 (by decide +kernel) (by decide +kernel) hd F X1 X2 (fun F' hF hs => ?_)
  have b82 := hd_b (F := F) (F' := F') (k := 82) (hF 82 (by decide))
  have b79 := hd_b (F := F) (F' := F') (k := 79) (hF 79 (by decide))
  have b83 := hd_b (F := F) (F' := F') (k := 83) (hF 83 (by decide))
  have hB' : iv_in F' iv_B0 := iv_in_eq hB (fun j hj => hF j (Nat.lt_of_lt_of_le hj (by decide +kernel)))
  refine ⟨List.forall_mem_cons.mpr ⟨hd_p3 b82 rfl (by have hc : ((0) : Int32).toInt = 0 := (by decide); omega), List.forall_mem_cons.mpr ⟨hd_p3 b79 b82 h1, List.forall_mem_cons.mpr ⟨hd_p2 b83 rfl (by have hc : ((0) : Int32).toInt = 0 := (by decide); omega), fun _ h => absurd h List.not_mem_nil⟩⟩⟩, ?_⟩
  refine k _ ?_
  · exact fun j hj _ => (hd_keep hB' (Nat.lt_of_lt_of_le hj (by decide +kernel)) (by simp)).trans (hF j (Nat.lt_of_lt_of_le hj (by decide)))
theorem j2su_0_p3 {Ls : Nat} {xs : Nat → Int32} {d : Nat} {Q : Option Value → jm_h → Prop} (hd : 2 ≤ d) (F : Nat → sy_d) (X1 X2 : List jm_c) (hB : iv_in F iv_B0)
    (h0 : 0 ≤ (sy_i F 82).toInt)
    (h1 : (sy_i F 82).toInt ≤ (sy_i F 79).toInt)
    (h2 : 0 ≤ (sy_i F 83).toInt)
    (h3 : ((sy_i F 82) - ((1 : Int32))).toInt < (sy_i F 83).toInt)
    (k : ∀ F1 : Nat → sy_d, (∀ j, j < 82 → True → F1 j = F j) → Q (some (.int (((-1) : Int32)))) (sy_dh F1 X1 X2 (iv_H 2))) :
    hd_W Ls xs d jm_M111 Q (0, sy_dL F [some (.inl (.ref 8)), some (.inr (.inl 82)), some (.inr (.inl 83)), none], sy_dS F [], sy_dh F X1 X2 (iv_H 2), 0, 0) := by
  refine hd_ret (s := 2) (nv := 84) (v := some (.inl (.int (-1)))) (uh := hd_ov (iv_id 0 iv_B0) []) (f := true) (sp := [37]) (d0 := 1) (O := [false, false, false, true]) (T := [(1, [.inr (.inl 82), .inl (.int 1)], [])]) (P := [(3, .inr (.inl 82), .inl (.int 0)), (3, .inr (.inl 79), .inr (.inl 82)), (3, .inr (.inl 83), .inl (.int 0)), (2, .inr (.inl 84), .inr (.inl 83))]) jm_ok111 (by decide +kernel) (by decide +kernel) hd F X1 X2 (fun F' hF hs => ?_)
  have b82 := hd_b (F := F) (F' := F') (k := 82) (hF 82 (by decide))
  have b79 := hd_b (F := F) (F' := F') (k := 79) (hF 79 (by decide))
  have b83 := hd_b (F := F) (F' := F') (k := 83) (hF 83 (by decide))
  have t84 : sy_dv F' (.inr (.inl 84)) = .int ((sy_i F 82) - ((1 : Int32))) := hd_o (hs 0 _ rfl) b82 rfl rfl
  have hB' : iv_in F' iv_B0 := iv_in_eq hB (fun j hj => hF j (Nat.lt_of_lt_of_le hj (by decide +kernel)))
  refine ⟨List.forall_mem_cons.mpr ⟨hd_p3 b82 rfl (by have hc : ((0) : Int32).toInt = 0 := (by decide); omega), List.forall_mem_cons.mpr ⟨hd_p3 b79 b82 h1, List.forall_mem_cons.mpr ⟨hd_p3 b83 rfl (by have hc : ((0) : Int32).toInt = 0 := (by decide); omega), List.forall_mem_cons.mpr ⟨hd_p2 t84 b83 h3, fun _ h => absurd h List.not_mem_nil⟩⟩⟩⟩, ?_⟩
  refine k _ ?_
  · exact fun j hj _ => (hd_keep hB' (Nat.lt_of_lt_of_le hj (by decide +kernel)) (by simp)).trans (hF j (Nat.lt_of_lt_of_le hj (by decide)))
theorem j2su_0_p4 {Ls : Nat} {xs : Nat → Int32} {d : Nat} {Q : Option Value → jm_h → Prop} (hd : 2 ≤ d) (F : Nat → sy_d) (X1 X2 : List jm_c) (hB : iv_in F iv_B0)
    (h0 : 0 ≤ (sy_i F 82).toInt)
    (h1 : (sy_i F 82).toInt ≤ (sy_i F 79).toInt)
    (h2 : 0 ≤ (sy_i F 83).toInt)
    (h3 : (sy_i F 83).toInt ≤ ((sy_i F 82) - ((1 : Int32))).toInt)
    (k : ∀ F1 : Nat → sy_d, (∀ j, j < 82 → True → F1 j = F j) → F1 82 = .inl (.int (sy_i F 82)) → F1 83 = .inl (.int (sy_i F 83)) → hd_W Ls xs d jm_M111 Q (37, sy_dL F1 [some (.inl (.ref 8)), some (.inr (.inl 82)), some (.inr (.inl 83)), none], sy_dS F1 [.inr (.inl 82), .inl (.ref 20), .inl (.ref 70)], sy_dh F1 X1 X2 (iv_H 2), 0, 0)) :
    hd_W Ls xs d jm_M111 Q (0, sy_dL F [some (.inl (.ref 8)), some (.inr (.inl 82)), some (.inr (.inl 83)), none], sy_dS F [], sy_dh F X1 X2 (iv_H 2), 0, 0) := by
  refine hd_run (s := 2) (nv := 84) (pc := 37) (L := [some (.inl (.ref 8)), some (.inr (.inl 82)), some (.inr (.inl 83)), none]) (S := [.inr (.inl 82), .inl (.ref 20), .inl (.ref 70)]) (uh := hd_ov (iv_id 0 iv_B0) []) (ul := [.inl (.inr (.inl 82)), .inl (.inr (.inl 83))]) (f := true) (sp := [37]) (d0 := 1) (O := [false, false, false, false]) (T := [(1, [.inr (.inl 82), .inl (.int 1)], [])]) (P := [(3, .inr (.inl 82), .inl (.int 0)), (3, .inr (.inl 79), .inr (.inl 82)), (3, .inr (.inl 83), .inl (.int 0)), (3, .inr (.inl 84), .inr (.inl 83))]) jm_ok111 (by decide +kernel) (by decide +kernel) hd F X1 X2 (fun F' hF hs => ?_)
  have b82 := hd_b (F := F) (F' := F') (k := 82) (hF 82 (by decide))
  have b79 := hd_b (F := F) (F' := F') (k := 79) (hF 79 (by decide))
  have b83 := hd_b (F := F) (F' := F') (k := 83) (hF 83 (by decide))
  have t84 : sy_dv F' (.inr (.inl 84)) = .int ((sy_i F 82) - ((1 : Int32))) := hd_o (hs 0 _ rfl) b82 rfl rfl
  have hB' : iv_in F' iv_B0 := iv_in_eq hB (fun j hj => hF j (Nat.lt_of_lt_of_le hj (by decide +kernel)))
  refine ⟨List.forall_mem_cons.mpr ⟨hd_p3 b82 rfl (by have hc : ((0) : Int32).toInt = 0 := (by decide); omega), List.forall_mem_cons.mpr ⟨hd_p3 b79 b82 h1, List.forall_mem_cons.mpr ⟨hd_p3 b83 rfl (by have hc : ((0) : Int32).toInt = 0 := (by decide); omega), List.forall_mem_cons.mpr ⟨hd_p3 t84 b83 h3, fun _ h => absurd h List.not_mem_nil⟩⟩⟩⟩, ?_⟩
  refine k _ ?_ ?_ ?_
  · exact fun j hj _ => (hd_keep hB' (Nat.lt_of_lt_of_le hj (by decide +kernel)) (by simp)).trans (hF j (Nat.lt_of_lt_of_le hj (by decide)))
  · exact hd_gi (x := .inr (.inl 82)) (by decide +kernel) b82
  · exact hd_gi (x := .inr (.inl 83)) (by decide +kernel) b83
theorem j2su_0 {Ls : Nat} {xs : Nat → Int32} {d : Nat} {Q : Option Value → jm_h → Prop} (hd : 2 ≤ d) (F : Nat → sy_d) (X1 X2 : List jm_c) (hB : iv_in F iv_B0)
    (k0 : (sy_i F 82).toInt < 0 → ∀ F1 : Nat → sy_d, iv_in F1 iv_B0 → (∀ j, j < 82 → j ∉ ([] : List Nat) → F1 j = F j) → Q (some (.int (((-1) : Int32)))) (sy_dh F1 X1 X2 (iv_H 2)))
    (k1 : 0 ≤ (sy_i F 82).toInt → (sy_i F 79).toInt < (sy_i F 82).toInt → ∀ F1 : Nat → sy_d, iv_in F1 iv_B0 → (∀ j, j < 82 → j ∉ ([] : List Nat) → F1 j = F j) → Q (some (.int (((-1) : Int32)))) (sy_dh F1 X1 X2 (iv_H 2)))
    (k2 : 0 ≤ (sy_i F 82).toInt → (sy_i F 82).toInt ≤ (sy_i F 79).toInt → (sy_i F 83).toInt < 0 → ∀ F1 : Nat → sy_d, iv_in F1 iv_B0 → (∀ j, j < 82 → j ∉ ([] : List Nat) → F1 j = F j) → Q (some (.int (((-1) : Int32)))) (sy_dh F1 X1 X2 (iv_H 2)))
    (k3 : 0 ≤ (sy_i F 82).toInt → (sy_i F 82).toInt ≤ (sy_i F 79).toInt → 0 ≤ (sy_i F 83).toInt → ((sy_i F 82).toInt - 1) < (sy_i F 83).toInt → ∀ F1 : Nat → sy_d, iv_in F1 iv_B0 → (∀ j, j < 82 → j ∉ ([] : List Nat) → F1 j = F j) → Q (some (.int (((-1) : Int32)))) (sy_dh F1 X1 X2 (iv_H 2)))
    (k4 : 0 ≤ (sy_i F 82).toInt → (sy_i F 82).toInt ≤ (sy_i F 79).toInt → 0 ≤ (sy_i F 83).toInt → (sy_i F 83).toInt ≤ ((sy_i F 82).toInt - 1) → ∀ F1 : Nat → sy_d, iv_in F1 iv_B0 → (∀ j, j < 82 → j ∉ ([] : List Nat) → F1 j = F j) → (sy_i F1 82).toInt = (sy_i F 82).toInt → sy_i F1 82 = sy_i F 82 → (sy_i F1 83).toInt = (sy_i F 83).toInt → sy_i F1 83 = sy_i F 83 → hd_W Ls xs d jm_M111 Q (37, sy_dL F1 [some (.inl (.ref 8)), some (.inr (.inl 82)), some (.inr (.inl 83)), none], sy_dS F1 [.inr (.inl 82), .inl (.ref 20), .inl (.ref 70)], sy_dh F1 X1 X2 (iv_H 2), 0, 0)) :
    hd_W Ls xs d jm_M111 Q (0, sy_dL F [some (.inl (.ref 8)), some (.inr (.inl 82)), some (.inr (.inl 83)), none], sy_dS F [], sy_dh F X1 X2 (iv_H 2), 0, 0) := by
  by_cases g0 : (sy_i F 82).toInt < 0
  · exact j2su_0_p0 hd F X1 X2 hB (by first | exact g0 | (simp only [nz_c]; exact g0)) (fun F1 g  => k0 g0 F1 (nz_in0 hB [] (fun j hj hn => g j hj (by simp only [List.mem_cons, List.not_mem_nil, or_false, not_or] at hn; exact trivial)) (List.forall_mem_nil _)) (fun j hj hn => g j hj (by simp only [List.mem_cons, List.not_mem_nil, or_false, not_or] at hn; exact trivial)) )
  replace g0 : 0 ≤ (sy_i F 82).toInt := by omega
  by_cases g1 : (sy_i F 79).toInt < (sy_i F 82).toInt
  · have c79 := nz_bx hB (k := 79) (lo := 0) (hi := 7) rfl
    exact j2su_0_p1 hd F X1 X2 hB (by first | exact g0 | (simp only [nz_c]; exact g0)) (by first | exact g1 | (simp only [nz_c]; exact g1)) (fun F1 g  => k1 g0 g1 F1 (nz_in0 hB [] (fun j hj hn => g j hj (by simp only [List.mem_cons, List.not_mem_nil, or_false, not_or] at hn; exact trivial)) (List.forall_mem_nil _)) (fun j hj hn => g j hj (by simp only [List.mem_cons, List.not_mem_nil, or_false, not_or] at hn; exact trivial)) )
  replace g1 : (sy_i F 82).toInt ≤ (sy_i F 79).toInt := by omega
  by_cases g2 : (sy_i F 83).toInt < 0
  · have c79 := nz_bx hB (k := 79) (lo := 0) (hi := 7) rfl
    exact j2su_0_p2 hd F X1 X2 hB (by first | exact g0 | (simp only [nz_c]; exact g0)) (by first | exact g1 | (simp only [nz_c]; exact g1)) (by first | exact g2 | (simp only [nz_c]; exact g2)) (fun F1 g  => k2 g0 g1 g2 F1 (nz_in0 hB [] (fun j hj hn => g j hj (by simp only [List.mem_cons, List.not_mem_nil, or_false, not_or] at hn; exact trivial)) (List.forall_mem_nil _)) (fun j hj hn => g j hj (by simp only [List.mem_cons, List.not_mem_nil, or_false, not_or] at hn; exact trivial)) )
  replace g2 : 0 ≤ (sy_i F 83).toInt := by omega
  by_cases g3 : ((sy_i F 82).toInt - 1) < (sy_i F 83).toInt
  · have c79 := nz_bx hB (k := 79) (lo := 0) (hi := 7) rfl
    have n84 : nzI ((sy_i F 82) - ((1 : Int32))) (((sy_i F 82).toInt - 1)) := nz_sub (rfl : (sy_i F 82).toInt = (sy_i F 82).toInt) (by decide : ((1 : Int32)).toInt = 1) (by omega) (by omega)
    exact j2su_0_p3 hd F X1 X2 hB (by first | exact g0 | (simp only [nz_c]; exact g0)) (by first | exact g1 | (simp only [nz_c]; exact g1)) (by first | exact g2 | (simp only [nz_c]; exact g2)) (by first | (simp only [nz_c, (nzE n84)]; exact g3) | exact g3 | (rw [(nzE n84)]; exact g3)) (fun F1 g  => k3 g0 g1 g2 g3 F1 (nz_in0 hB [] (fun j hj hn => g j hj (by simp only [List.mem_cons, List.not_mem_nil, or_false, not_or] at hn; exact trivial)) (List.forall_mem_nil _)) (fun j hj hn => g j hj (by simp only [List.mem_cons, List.not_mem_nil, or_false, not_or] at hn; exact trivial)) )
  replace g3 : (sy_i F 83).toInt ≤ ((sy_i F 82).toInt - 1) := by omega
  have c79 := nz_bx hB (k := 79) (lo := 0) (hi := 7) rfl
  have n84 : nzI ((sy_i F 82) - ((1 : Int32))) (((sy_i F 82).toInt - 1)) := nz_sub (rfl : (sy_i F 82).toInt = (sy_i F 82).toInt) (by decide : ((1 : Int32)).toInt = 1) (by omega) (by omega)
  exact j2su_0_p4 hd F X1 X2 hB (by first | exact g0 | (simp only [nz_c]; exact g0)) (by first | exact g1 | (simp only [nz_c]; exact g1)) (by first | exact g2 | (simp only [nz_c]; exact g2)) (by first | (simp only [nz_c, (nzE n84)]; exact g3) | exact g3 | (rw [(nzE n84)]; exact g3)) (fun F1 g e82 e83 => k4 g0 g1 g2 g3 F1 (nz_in0 hB [] (fun j hj hn => g j hj (by simp only [List.mem_cons, List.not_mem_nil, or_false, not_or] at hn; exact trivial)) (List.forall_mem_nil _)) (fun j hj hn => g j hj (by simp only [List.mem_cons, List.not_mem_nil, or_false, not_or] at hn; exact trivial)) ((congrArg Int32.toInt (zz_i e82)).trans (rfl : (sy_i F 82).toInt = (sy_i F 82).toInt)) ((zz_i e82).trans (rfl : sy_i F 82 = sy_i F 82)) ((congrArg Int32.toInt (zz_i e83)).trans (rfl : (sy_i F 83).toInt = (sy_i F 83).toInt)) ((zz_i e83).trans (rfl : sy_i F 83 = sy_i F 83)))
theorem j2su_40_p0 {Ls : Nat} {xs : Nat → Int32} {d : Nat} {Q : Option Value → jm_h → Prop} (hd : 1 ≤ d) (F : Nat → sy_d) (X1 X2 : List jm_c) (hB : iv_in F iv_B0)
    (h0 : (sy_i F 84).toInt ≤ 0)
    (k : ∀ F1 : Nat → sy_d, (∀ j, j < 82 → True → F1 j = F j) → Q (some (.int (((-2) : Int32)))) (sy_dh F1 X1 X2 (iv_H 2))) :
    hd_W Ls xs d jm_M111 Q (40, sy_dL F [some (.inl (.ref 8)), some (.inr (.inl 82)), some (.inr (.inl 83)), none], sy_dS F [.inr (.inl 84)], sy_dh F X1 X2 (iv_H 2), 0, 0) := by
  refine hd_ret (s := 2) (nv := 85) (v := some (.inl (.int (-2)))) (uh := hd_ov (iv_id 0 iv_B0) []) (f := false) (sp := [52]) (d0 := 0) (O := [true]) (T := []) (P := [(4, .inr (.inl 84), .inl (.int 0))]) jm_ok111 (by decide +kernel) (by decide +kernel) hd F X1 X2 (fun F' hF hs => ?_)
  have b84 := hd_b (F := F) (F' := F') (k := 84) (hF 84 (by decide))
  have hB' : iv_in F' iv_B0 := iv_in_eq hB (fun j hj => hF j (Nat.lt_of_lt_of_le hj (by decide +kernel)))
  refine ⟨List.forall_mem_cons.mpr ⟨hd_p4 b84 rfl (by have hc : ((0) : Int32).toInt = 0 := (by decide); omega), fun _ h => absurd h List.not_mem_nil⟩, ?_⟩
  refine k _ ?_
  · exact fun j hj _ => (hd_keep hB' (Nat.lt_of_lt_of_le hj (by decide +kernel)) (by simp)).trans (hF j (Nat.lt_of_lt_of_le hj (by decide)))
theorem j2su_40_p1 {Ls : Nat} {xs : Nat → Int32} {d : Nat} {Q : Option Value → jm_h → Prop} (hd : 1 ≤ d) (F : Nat → sy_d) (X1 X2 : List jm_c) (hB : iv_in F iv_B0)
    (h0 : 0 < (sy_i F 84).toInt)
    (k : ∀ F1 : Nat → sy_d, (∀ j, j < 82 → True → F1 j = F j) → F1 82 = .inl (.int (sy_i F 83)) → hd_W Ls xs d jm_M111 Q (52, sy_dL F1 [some (.inl (.ref 8)), none, some (.inr (.inl 82)), none], sy_dS F1 [.inr (.inl 82), .inl (.ref 20), .inl (.ref 70)], sy_dh F1 X1 X2 (iv_H 2), 0, 0)) :
    hd_W Ls xs d jm_M111 Q (40, sy_dL F [some (.inl (.ref 8)), some (.inr (.inl 82)), some (.inr (.inl 83)), none], sy_dS F [.inr (.inl 84)], sy_dh F X1 X2 (iv_H 2), 0, 0) := by
  refine hd_run (s := 2) (nv := 85) (pc := 52) (L := [some (.inl (.ref 8)), none, some (.inr (.inl 82)), none]) (S := [.inr (.inl 82), .inl (.ref 20), .inl (.ref 70)]) (uh := hd_ov (iv_id 0 iv_B0) []) (ul := [.inl (.inr (.inl 83))]) (f := false) (sp := [52]) (d0 := 0) (O := [false]) (T := []) (P := [(5, .inr (.inl 84), .inl (.int 0))]) jm_ok111 (by decide +kernel) (by decide +kernel) hd F X1 X2 (fun F' hF hs => ?_)
  have b84 := hd_b (F := F) (F' := F') (k := 84) (hF 84 (by decide))
  have b83 := hd_b (F := F) (F' := F') (k := 83) (hF 83 (by decide))
  have hB' : iv_in F' iv_B0 := iv_in_eq hB (fun j hj => hF j (Nat.lt_of_lt_of_le hj (by decide +kernel)))
  refine ⟨List.forall_mem_cons.mpr ⟨hd_p5 b84 rfl (by have hc : ((0) : Int32).toInt = 0 := (by decide); omega), fun _ h => absurd h List.not_mem_nil⟩, ?_⟩
  refine k _ ?_ ?_
  · exact fun j hj _ => (hd_keep hB' (Nat.lt_of_lt_of_le hj (by decide +kernel)) (by simp)).trans (hF j (Nat.lt_of_lt_of_le hj (by decide)))
  · exact hd_gi (x := .inr (.inl 83)) (by decide +kernel) b83
theorem j2su_40 {Ls : Nat} {xs : Nat → Int32} {d : Nat} {Q : Option Value → jm_h → Prop} (hd : 1 ≤ d) (F : Nat → sy_d) (X1 X2 : List jm_c) (hB : iv_in F iv_B0)
    (k0 : (sy_i F 84).toInt ≤ 0 → ∀ F1 : Nat → sy_d, iv_in F1 iv_B0 → (∀ j, j < 82 → j ∉ ([] : List Nat) → F1 j = F j) → Q (some (.int (((-2) : Int32)))) (sy_dh F1 X1 X2 (iv_H 2)))
    (k1 : 0 < (sy_i F 84).toInt → ∀ F1 : Nat → sy_d, iv_in F1 iv_B0 → (∀ j, j < 82 → j ∉ ([] : List Nat) → F1 j = F j) → (sy_i F1 82).toInt = (sy_i F 83).toInt → sy_i F1 82 = sy_i F 83 → hd_W Ls xs d jm_M111 Q (52, sy_dL F1 [some (.inl (.ref 8)), none, some (.inr (.inl 82)), none], sy_dS F1 [.inr (.inl 82), .inl (.ref 20), .inl (.ref 70)], sy_dh F1 X1 X2 (iv_H 2), 0, 0)) :
    hd_W Ls xs d jm_M111 Q (40, sy_dL F [some (.inl (.ref 8)), some (.inr (.inl 82)), some (.inr (.inl 83)), none], sy_dS F [.inr (.inl 84)], sy_dh F X1 X2 (iv_H 2), 0, 0) := by
  by_cases g0 : (sy_i F 84).toInt ≤ 0
  · exact j2su_40_p0 hd F X1 X2 hB (by first | exact g0 | (simp only [nz_c]; exact g0)) (fun F1 g  => k0 g0 F1 (nz_in0 hB [] (fun j hj hn => g j hj (by simp only [List.mem_cons, List.not_mem_nil, or_false, not_or] at hn; exact trivial)) (List.forall_mem_nil _)) (fun j hj hn => g j hj (by simp only [List.mem_cons, List.not_mem_nil, or_false, not_or] at hn; exact trivial)) )
  replace g0 : 0 < (sy_i F 84).toInt := by omega
  exact j2su_40_p1 hd F X1 X2 hB (by first | exact g0 | (simp only [nz_c]; exact g0)) (fun F1 g e82 => k1 g0 F1 (nz_in0 hB [] (fun j hj hn => g j hj (by simp only [List.mem_cons, List.not_mem_nil, or_false, not_or] at hn; exact trivial)) (List.forall_mem_nil _)) (fun j hj hn => g j hj (by simp only [List.mem_cons, List.not_mem_nil, or_false, not_or] at hn; exact trivial)) ((congrArg Int32.toInt (zz_i e82)).trans (rfl : (sy_i F 83).toInt = (sy_i F 83).toInt)) ((zz_i e82).trans (rfl : sy_i F 83 = sy_i F 83)))
theorem j2su_55_p0 {Ls : Nat} {xs : Nat → Int32} {d : Nat} {Q : Option Value → jm_h → Prop} (hd : 1 ≤ d) (F : Nat → sy_d) (X1 X2 : List jm_c) (hB : iv_in F iv_B0)
    (h0 : (sy_i F 83).toInt ≠ 1)
    (k : ∀ F1 : Nat → sy_d, (∀ j, j < 82 → True → F1 j = F j) → Q (some (.int (((-2) : Int32)))) (sy_dh F1 X1 X2 (iv_H 2))) :
    hd_W Ls xs d jm_M111 Q (55, sy_dL F [some (.inl (.ref 8)), none, some (.inr (.inl 82)), none], sy_dS F [.inr (.inl 83)], sy_dh F X1 X2 (iv_H 2), 0, 0) := by
  refine hd_ret (s := 2) (nv := 84) (v := some (.inl (.int (-2)))) (uh := hd_ov (iv_id 0 iv_B0) []) (f := false) (sp := [78]) (d0 := 0) (O := [true]) (T := []) (P := [(1, .inr (.inl 83), .inl (.int 1))]) jm_ok111 (by decide +kernel) (by decide +kernel) hd F X1 X2 (fun F' hF hs => ?_)
  have b83 := hd_b (F := F) (F' := F') (k := 83) (hF 83 (by decide))
  have hB' : iv_in F' iv_B0 := iv_in_eq hB (fun j hj => hF j (Nat.lt_of_lt_of_le hj (by decide +kernel)))
  refine ⟨List.forall_mem_cons.mpr ⟨hd_p1 b83 rfl (by have hc : ((1) : Int32).toInt = 1 := (by decide); omega), fun _ h => absurd h List.not_mem_nil⟩, ?_⟩
  refine k _ ?_
  · exact fun j hj _ => (hd_keep hB' (Nat.lt_of_lt_of_le hj (by decide +kernel)) (by simp)).trans (hF j (Nat.lt_of_lt_of_le hj (by decide)))
theorem j2su_55_p1 {Ls : Nat} {xs : Nat → Int32} {d : Nat} {Q : Option Value → jm_h → Prop} (hd : 1 ≤ d) (F : Nat → sy_d) (X1 X2 : List jm_c) (hB : iv_in F iv_B0)
    (h0 : (sy_i F 83).toInt = 1)
    (k : ∀ F1 : Nat → sy_d, (∀ j, j < 82 → True → F1 j = F j) → F1 82 = .inl (.int (sy_i F 82)) → hd_W Ls xs d jm_M111 Q (78, sy_dL F1 [some (.inl (.ref 8)), none, none, none], sy_dS F1 [.inr (.inl 82), .inl (.ref 20), .inl (.ref 70)], sy_dh F1 X1 X2 (iv_H 2), 0, 0)) :
    hd_W Ls xs d jm_M111 Q (55, sy_dL F [some (.inl (.ref 8)), none, some (.inr (.inl 82)), none], sy_dS F [.inr (.inl 83)], sy_dh F X1 X2 (iv_H 2), 0, 0) := by
  refine hd_run (s := 2) (nv := 84) (pc := 78) (L := [some (.inl (.ref 8)), none, none, none]) (S := [.inr (.inl 82), .inl (.ref 20), .inl (.ref 70)]) (uh := hd_ov (iv_id 0 iv_B0) []) (ul := [.inl (.inr (.inl 82))]) (f := false) (sp := [78]) (d0 := 0) (O := [false]) (T := []) (P := [(0, .inr (.inl 83), .inl (.int 1))]) jm_ok111 (by decide +kernel) (by decide +kernel) hd F X1 X2 (fun F' hF hs => ?_)
  have b83 := hd_b (F := F) (F' := F') (k := 83) (hF 83 (by decide))
  have b82 := hd_b (F := F) (F' := F') (k := 82) (hF 82 (by decide))
  have hB' : iv_in F' iv_B0 := iv_in_eq hB (fun j hj => hF j (Nat.lt_of_lt_of_le hj (by decide +kernel)))
  refine ⟨List.forall_mem_cons.mpr ⟨hd_p0 b83 rfl (by have hc : ((1) : Int32).toInt = 1 := (by decide); omega), fun _ h => absurd h List.not_mem_nil⟩, ?_⟩
  refine k _ ?_ ?_
  · exact fun j hj _ => (hd_keep hB' (Nat.lt_of_lt_of_le hj (by decide +kernel)) (by simp)).trans (hF j (Nat.lt_of_lt_of_le hj (by decide)))
  · exact hd_gi (x := .inr (.inl 82)) (by decide +kernel) b82
theorem j2su_55 {Ls : Nat} {xs : Nat → Int32} {d : Nat} {Q : Option Value → jm_h → Prop} (hd : 1 ≤ d) (F : Nat → sy_d) (X1 X2 : List jm_c) (hB : iv_in F iv_B0)
    (k0 : (sy_i F 83).toInt ≠ 1 → ∀ F1 : Nat → sy_d, iv_in F1 iv_B0 → (∀ j, j < 82 → j ∉ ([] : List Nat) → F1 j = F j) → Q (some (.int (((-2) : Int32)))) (sy_dh F1 X1 X2 (iv_H 2)))
    (k1 : (sy_i F 83).toInt = 1 → ∀ F1 : Nat → sy_d, iv_in F1 iv_B0 → (∀ j, j < 82 → j ∉ ([] : List Nat) → F1 j = F j) → (sy_i F1 82).toInt = (sy_i F 82).toInt → sy_i F1 82 = sy_i F 82 → hd_W Ls xs d jm_M111 Q (78, sy_dL F1 [some (.inl (.ref 8)), none, none, none], sy_dS F1 [.inr (.inl 82), .inl (.ref 20), .inl (.ref 70)], sy_dh F1 X1 X2 (iv_H 2), 0, 0)) :
    hd_W Ls xs d jm_M111 Q (55, sy_dL F [some (.inl (.ref 8)), none, some (.inr (.inl 82)), none], sy_dS F [.inr (.inl 83)], sy_dh F X1 X2 (iv_H 2), 0, 0) := by
  by_cases g0 : (sy_i F 83).toInt ≠ 1
  · exact j2su_55_p0 hd F X1 X2 hB (by first | exact g0 | (simp only [nz_c]; exact g0)) (fun F1 g  => k0 g0 F1 (nz_in0 hB [] (fun j hj hn => g j hj (by simp only [List.mem_cons, List.not_mem_nil, or_false, not_or] at hn; exact trivial)) (List.forall_mem_nil _)) (fun j hj hn => g j hj (by simp only [List.mem_cons, List.not_mem_nil, or_false, not_or] at hn; exact trivial)) )
  replace g0 : (sy_i F 83).toInt = 1 := by omega
  exact j2su_55_p1 hd F X1 X2 hB (by first | exact g0 | (simp only [nz_c]; exact g0)) (fun F1 g e82 => k1 g0 F1 (nz_in0 hB [] (fun j hj hn => g j hj (by simp only [List.mem_cons, List.not_mem_nil, or_false, not_or] at hn; exact trivial)) (List.forall_mem_nil _)) (fun j hj hn => g j hj (by simp only [List.mem_cons, List.not_mem_nil, or_false, not_or] at hn; exact trivial)) ((congrArg Int32.toInt (zz_i e82)).trans (rfl : (sy_i F 82).toInt = (sy_i F 82).toInt)) ((zz_i e82).trans (rfl : sy_i F 82 = sy_i F 82)))
theorem j2su_81_p0 {Ls : Nat} {xs : Nat → Int32} {d : Nat} {Q : Option Value → jm_h → Prop} (hd : 1 ≤ d) (F : Nat → sy_d) (X1 X2 : List jm_c) (hB : iv_in F iv_B0)
    (k : ∀ F1 : Nat → sy_d, (∀ j, j < 82 → True → F1 j = F j) → Q (some (.int (sy_i F 82))) (sy_dh F1 X1 X2 (iv_H 2))) :
    hd_W Ls xs d jm_M111 Q (81, sy_dL F [some (.inl (.ref 8)), none, none, none], sy_dS F [.inr (.inl 82)], sy_dh F X1 X2 (iv_H 2), 0, 0) := by
  refine hd_ret (s := 2) (nv := 83) (v := some (.inr (.inl 82))) (uh := hd_ov (iv_id 0 iv_B0) []) (f := false) (sp := []) (d0 := 0) (O := []) (T := []) (P := []) jm_ok111 (by decide +kernel) (by decide +kernel) hd F X1 X2 (fun F' hF hs => ?_)
  have b82 := hd_b (F := F) (F' := F') (k := 82) (hF 82 (by decide))
  have hB' : iv_in F' iv_B0 := iv_in_eq hB (fun j hj => hF j (Nat.lt_of_lt_of_le hj (by decide +kernel)))
  have hk := k (sy_cm F' (hd_ov (iv_id 0 iv_B0) [] ++ [])) (fun j hj _ => (hd_keep hB' (Nat.lt_of_lt_of_le hj (by decide +kernel)) (by simp)).trans (hF j (Nat.lt_of_lt_of_le hj (by decide))))
  refine ⟨fun _ h => absurd h List.not_mem_nil, ?_⟩
  show Q (some (sy_dv F' (.inr (.inl 82)))) _
  rw [b82]
  exact hk
theorem j2su_81 {Ls : Nat} {xs : Nat → Int32} {d : Nat} {Q : Option Value → jm_h → Prop} (hd : 1 ≤ d) (F : Nat → sy_d) (X1 X2 : List jm_c) (hB : iv_in F iv_B0)
    (k0 : ∀ F1 : Nat → sy_d, iv_in F1 iv_B0 → (∀ j, j < 82 → j ∉ ([] : List Nat) → F1 j = F j) → Q (some (.int (sy_i F 82))) (sy_dh F1 X1 X2 (iv_H 2))) :
    hd_W Ls xs d jm_M111 Q (81, sy_dL F [some (.inl (.ref 8)), none, none, none], sy_dS F [.inr (.inl 82)], sy_dh F X1 X2 (iv_H 2), 0, 0) := by
  exact j2su_81_p0 hd F X1 X2 hB  (fun F1 g  => by rw [(rfl : sy_i F 82 = sy_i F 82)]; exact k0 F1 (nz_in0 hB [] (fun j hj hn => g j hj (by simp only [List.mem_cons, List.not_mem_nil, or_false, not_or] at hn; exact trivial)) (List.forall_mem_nil _)) (fun j hj hn => g j hj (by simp only [List.mem_cons, List.not_mem_nil, or_false, not_or] at hn; exact trivial)) )
theorem j2as_0_p0 {Ls : Nat} {xs : Nat → Int32} {d : Nat} {Q : Option Value → jm_h → Prop} (hd : 2 ≤ d) (F : Nat → sy_d) (X1 X2 : List jm_c) (hB : iv_in F iv_B0)
    (h0 : (sy_i F 82).toInt < 0)
    (k : ∀ F1 : Nat → sy_d, (∀ j, j < 82 → True → F1 j = F j) → Q (some (.int (((-1) : Int32)))) (sy_dh F1 X1 X2 (iv_H 2))) :
    hd_W Ls xs d jm_M112 Q (0, sy_dL F [some (.inl (.ref 8)), some (.inr (.inl 82))], sy_dS F [], sy_dh F X1 X2 (iv_H 2), 0, 0) := by
  refine hd_ret (s := 2) (nv := 83) (v := some (.inl (.int (-1)))) (uh := hd_ov (iv_id 0 iv_B0) []) (f := true) (sp := [30]) (d0 := 1) (O := [true]) (T := []) (P := [(2, .inr (.inl 82), .inl (.int 0))]) jm_ok112 (by decide +kernel) (by decide +kernel) hd F X1 X2 (fun F' hF hs => ?_)
  have b82 := hd_b (F := F) (F' := F') (k := 82) (hF 82 (by decide))
  have hB' : iv_in F' iv_B0 := iv_in_eq hB (fun j hj => hF j (Nat.lt_of_lt_of_le hj (by decide +kernel)))
  refine ⟨List.forall_mem_cons.mpr ⟨hd_p2 b82 rfl (by have hc : ((0) : Int32).toInt = 0 := (by decide); omega), fun _ h => absurd h List.not_mem_nil⟩, ?_⟩
  refine k _ ?_
  · exact fun j hj _ => (hd_keep hB' (Nat.lt_of_lt_of_le hj (by decide +kernel)) (by simp)).trans (hF j (Nat.lt_of_lt_of_le hj (by decide)))
theorem j2as_0_p1 {Ls : Nat} {xs : Nat → Int32} {d : Nat} {Q : Option Value → jm_h → Prop} (hd : 2 ≤ d) (F : Nat → sy_d) (X1 X2 : List jm_c) (hB : iv_in F iv_B0)
    (h0 : 0 ≤ (sy_i F 82).toInt)
    (h1 : (sy_i F 79).toInt < (sy_i F 82).toInt)
    (k : ∀ F1 : Nat → sy_d, (∀ j, j < 82 → True → F1 j = F j) → Q (some (.int (((-1) : Int32)))) (sy_dh F1 X1 X2 (iv_H 2))) :
    hd_W Ls xs d jm_M112 Q (0, sy_dL F [some (.inl (.ref 8)), some (.inr (.inl 82))], sy_dS F [], sy_dh F X1 X2 (iv_H 2), 0, 0) := by
  refine hd_ret (s := 2) (nv := 83) (v := some (.inl (.int (-1)))) (uh := hd_ov (iv_id 0 iv_B0) []) (f := true) (sp := [30]) (d0 := 1) (O := [false, true]) (T := []) (P := [(3, .inr (.inl 82), .inl (.int 0)), (2, .inr (.inl 79), .inr (.inl 82))]) jm_ok112 (by decide +kernel) (by decide +kernel) hd F X1 X2 (fun F' hF hs => ?_)
  have b82 := hd_b (F := F) (F' := F') (k := 82) (hF 82 (by decide))
  have b79 := hd_b (F := F) (F' := F') (k := 79) (hF 79 (by decide))
  have hB' : iv_in F' iv_B0 := iv_in_eq hB (fun j hj => hF j (Nat.lt_of_lt_of_le hj (by decide +kernel)))
  refine ⟨List.forall_mem_cons.mpr ⟨hd_p3 b82 rfl (by have hc : ((0) : Int32).toInt = 0 := (by decide); omega), List.forall_mem_cons.mpr ⟨hd_p2 b79 b82 h1, fun _ h => absurd h List.not_mem_nil⟩⟩, ?_⟩
  refine k _ ?_
  · exact fun j hj _ => (hd_keep hB' (Nat.lt_of_lt_of_le hj (by decide +kernel)) (by simp)).trans (hF j (Nat.lt_of_lt_of_le hj (by decide)))
theorem j2as_0_p2 {Ls : Nat} {xs : Nat → Int32} {d : Nat} {Q : Option Value → jm_h → Prop} (hd : 2 ≤ d) (F : Nat → sy_d) (X1 X2 : List jm_c) (hB : iv_in F iv_B0)
    (h0 : 0 ≤ (sy_i F 82).toInt)
    (h1 : (sy_i F 82).toInt ≤ (sy_i F 79).toInt)
    (h2 : (sy_i F 82).toInt = 0)
    (k : ∀ F1 : Nat → sy_d, (∀ j, j < 82 → True → F1 j = F j) → Q (some (.int (((-2) : Int32)))) (sy_dh F1 X1 X2 (iv_H 2))) :
    hd_W Ls xs d jm_M112 Q (0, sy_dL F [some (.inl (.ref 8)), some (.inr (.inl 82))], sy_dS F [], sy_dh F X1 X2 (iv_H 2), 0, 0) := by
  refine hd_ret (s := 2) (nv := 83) (v := some (.inl (.int (-2)))) (uh := hd_ov (iv_id 0 iv_B0) []) (f := true) (sp := [30]) (d0 := 1) (O := [false, false, true]) (T := []) (P := [(3, .inr (.inl 82), .inl (.int 0)), (3, .inr (.inl 79), .inr (.inl 82)), (0, .inr (.inl 82), .inl (.int 0))]) jm_ok112 (by decide +kernel) (by decide +kernel) hd F X1 X2 (fun F' hF hs => ?_)
  have b82 := hd_b (F := F) (F' := F') (k := 82) (hF 82 (by decide))
  have b79 := hd_b (F := F) (F' := F') (k := 79) (hF 79 (by decide))
  have hB' : iv_in F' iv_B0 := iv_in_eq hB (fun j hj => hF j (Nat.lt_of_lt_of_le hj (by decide +kernel)))
  refine ⟨List.forall_mem_cons.mpr ⟨hd_p3 b82 rfl (by have hc : ((0) : Int32).toInt = 0 := (by decide); omega), List.forall_mem_cons.mpr ⟨hd_p3 b79 b82 h1, List.forall_mem_cons.mpr ⟨hd_p0 b82 rfl (by have hc : ((0) : Int32).toInt = 0 := (by decide); omega), fun _ h => absurd h List.not_mem_nil⟩⟩⟩, ?_⟩
  refine k _ ?_
  · exact fun j hj _ => (hd_keep hB' (Nat.lt_of_lt_of_le hj (by decide +kernel)) (by simp)).trans (hF j (Nat.lt_of_lt_of_le hj (by decide)))
theorem j2as_0_p3 {Ls : Nat} {xs : Nat → Int32} {d : Nat} {Q : Option Value → jm_h → Prop} (hd : 2 ≤ d) (F : Nat → sy_d) (X1 X2 : List jm_c) (hB : iv_in F iv_B0)
    (h0 : 0 ≤ (sy_i F 82).toInt)
    (h1 : (sy_i F 82).toInt ≤ (sy_i F 79).toInt)
    (h2 : (sy_i F 82).toInt ≠ 0)
    (k : ∀ F1 : Nat → sy_d, (∀ j, j < 82 → True → F1 j = F j) → F1 82 = .inl (.int (sy_i F 82)) → hd_W Ls xs d jm_M112 Q (30, sy_dL F1 [some (.inl (.ref 8)), some (.inr (.inl 82))], sy_dS F1 [.inr (.inl 82), .inl (.ref 20), .inl (.ref 70)], sy_dh F1 X1 X2 (iv_H 2), 0, 0)) :
    hd_W Ls xs d jm_M112 Q (0, sy_dL F [some (.inl (.ref 8)), some (.inr (.inl 82))], sy_dS F [], sy_dh F X1 X2 (iv_H 2), 0, 0) := by
  refine hd_run (s := 2) (nv := 83) (pc := 30) (L := [some (.inl (.ref 8)), some (.inr (.inl 82))]) (S := [.inr (.inl 82), .inl (.ref 20), .inl (.ref 70)]) (uh := hd_ov (iv_id 0 iv_B0) []) (ul := [.inl (.inr (.inl 82))]) (f := true) (sp := [30]) (d0 := 1) (O := [false, false, false]) (T := []) (P := [(3, .inr (.inl 82), .inl (.int 0)), (3, .inr (.inl 79), .inr (.inl 82)), (1, .inr (.inl 82), .inl (.int 0))]) jm_ok112 (by decide +kernel) (by decide +kernel) hd F X1 X2 (fun F' hF hs => ?_)
  have b82 := hd_b (F := F) (F' := F') (k := 82) (hF 82 (by decide))
  have b79 := hd_b (F := F) (F' := F') (k := 79) (hF 79 (by decide))
  have hB' : iv_in F' iv_B0 := iv_in_eq hB (fun j hj => hF j (Nat.lt_of_lt_of_le hj (by decide +kernel)))
  refine ⟨List.forall_mem_cons.mpr ⟨hd_p3 b82 rfl (by have hc : ((0) : Int32).toInt = 0 := (by decide); omega), List.forall_mem_cons.mpr ⟨hd_p3 b79 b82 h1, List.forall_mem_cons.mpr ⟨hd_p1 b82 rfl (by have hc : ((0) : Int32).toInt = 0 := (by decide); omega), fun _ h => absurd h List.not_mem_nil⟩⟩⟩, ?_⟩
  refine k _ ?_ ?_
  · exact fun j hj _ => (hd_keep hB' (Nat.lt_of_lt_of_le hj (by decide +kernel)) (by simp)).trans (hF j (Nat.lt_of_lt_of_le hj (by decide)))
  · exact hd_gi (x := .inr (.inl 82)) (by decide +kernel) b82
theorem j2as_0 {Ls : Nat} {xs : Nat → Int32} {d : Nat} {Q : Option Value → jm_h → Prop} (hd : 2 ≤ d) (F : Nat → sy_d) (X1 X2 : List jm_c) (hB : iv_in F iv_B0)
    (k0 : (sy_i F 82).toInt < 0 → ∀ F1 : Nat → sy_d, iv_in F1 iv_B0 → (∀ j, j < 82 → j ∉ ([] : List Nat) → F1 j = F j) → Q (some (.int (((-1) : Int32)))) (sy_dh F1 X1 X2 (iv_H 2)))
    (k1 : 0 ≤ (sy_i F 82).toInt → (sy_i F 79).toInt < (sy_i F 82).toInt → ∀ F1 : Nat → sy_d, iv_in F1 iv_B0 → (∀ j, j < 82 → j ∉ ([] : List Nat) → F1 j = F j) → Q (some (.int (((-1) : Int32)))) (sy_dh F1 X1 X2 (iv_H 2)))
    (k2 : 0 ≤ (sy_i F 82).toInt → (sy_i F 82).toInt ≤ (sy_i F 79).toInt → (sy_i F 82).toInt = 0 → ∀ F1 : Nat → sy_d, iv_in F1 iv_B0 → (∀ j, j < 82 → j ∉ ([] : List Nat) → F1 j = F j) → Q (some (.int (((-2) : Int32)))) (sy_dh F1 X1 X2 (iv_H 2)))
    (k3 : 0 ≤ (sy_i F 82).toInt → (sy_i F 82).toInt ≤ (sy_i F 79).toInt → (sy_i F 82).toInt ≠ 0 → ∀ F1 : Nat → sy_d, iv_in F1 iv_B0 → (∀ j, j < 82 → j ∉ ([] : List Nat) → F1 j = F j) → (sy_i F1 82).toInt = (sy_i F 82).toInt → sy_i F1 82 = sy_i F 82 → hd_W Ls xs d jm_M112 Q (30, sy_dL F1 [some (.inl (.ref 8)), some (.inr (.inl 82))], sy_dS F1 [.inr (.inl 82), .inl (.ref 20), .inl (.ref 70)], sy_dh F1 X1 X2 (iv_H 2), 0, 0)) :
    hd_W Ls xs d jm_M112 Q (0, sy_dL F [some (.inl (.ref 8)), some (.inr (.inl 82))], sy_dS F [], sy_dh F X1 X2 (iv_H 2), 0, 0) := by
  by_cases g0 : (sy_i F 82).toInt < 0
  · exact j2as_0_p0 hd F X1 X2 hB (by first | exact g0 | (simp only [nz_c]; exact g0)) (fun F1 g  => k0 g0 F1 (nz_in0 hB [] (fun j hj hn => g j hj (by simp only [List.mem_cons, List.not_mem_nil, or_false, not_or] at hn; exact trivial)) (List.forall_mem_nil _)) (fun j hj hn => g j hj (by simp only [List.mem_cons, List.not_mem_nil, or_false, not_or] at hn; exact trivial)) )
  replace g0 : 0 ≤ (sy_i F 82).toInt := by omega
  by_cases g1 : (sy_i F 79).toInt < (sy_i F 82).toInt
  · have c79 := nz_bx hB (k := 79) (lo := 0) (hi := 7) rfl
    exact j2as_0_p1 hd F X1 X2 hB (by first | exact g0 | (simp only [nz_c]; exact g0)) (by first | exact g1 | (simp only [nz_c]; exact g1)) (fun F1 g  => k1 g0 g1 F1 (nz_in0 hB [] (fun j hj hn => g j hj (by simp only [List.mem_cons, List.not_mem_nil, or_false, not_or] at hn; exact trivial)) (List.forall_mem_nil _)) (fun j hj hn => g j hj (by simp only [List.mem_cons, List.not_mem_nil, or_false, not_or] at hn; exact trivial)) )
  replace g1 : (sy_i F 82).toInt ≤ (sy_i F 79).toInt := by omega
  by_cases g2 : (sy_i F 82).toInt = 0
  · have c79 := nz_bx hB (k := 79) (lo := 0) (hi := 7) rfl
    exact j2as_0_p2 hd F X1 X2 hB (by first | exact g0 | (simp only [nz_c]; exact g0)) (by first | exact g1 | (simp only [nz_c]; exact g1)) (by first | exact g2 | (simp only [nz_c]; exact g2)) (fun F1 g  => k2 g0 g1 g2 F1 (nz_in0 hB [] (fun j hj hn => g j hj (by simp only [List.mem_cons, List.not_mem_nil, or_false, not_or] at hn; exact trivial)) (List.forall_mem_nil _)) (fun j hj hn => g j hj (by simp only [List.mem_cons, List.not_mem_nil, or_false, not_or] at hn; exact trivial)) )
  replace g2 : (sy_i F 82).toInt ≠ 0 := by omega
  have c79 := nz_bx hB (k := 79) (lo := 0) (hi := 7) rfl
  exact j2as_0_p3 hd F X1 X2 hB (by first | exact g0 | (simp only [nz_c]; exact g0)) (by first | exact g1 | (simp only [nz_c]; exact g1)) (by first | exact g2 | (simp only [nz_c]; exact g2)) (fun F1 g e82 => k3 g0 g1 g2 F1 (nz_in0 hB [] (fun j hj hn => g j hj (by simp only [List.mem_cons, List.not_mem_nil, or_false, not_or] at hn; exact trivial)) (List.forall_mem_nil _)) (fun j hj hn => g j hj (by simp only [List.mem_cons, List.not_mem_nil, or_false, not_or] at hn; exact trivial)) ((congrArg Int32.toInt (zz_i e82)).trans (rfl : (sy_i F 82).toInt = (sy_i F 82).toInt)) ((zz_i e82).trans (rfl : sy_i F 82 = sy_i F 82)))
theorem j2as_33_p0 {Ls : Nat} {xs : Nat → Int32} {d : Nat} {Q : Option Value → jm_h → Prop} (hd : 1 ≤ d) (F : Nat → sy_d) (X1 X2 : List jm_c) (hB : iv_in F iv_B0)
    (h0 : (sy_i F 83).toInt ≠ 0)
    (k : ∀ F1 : Nat → sy_d, (∀ j, j < 82 → True → F1 j = F j) → F1 82 = .inl (.int (sy_i F 82)) → hd_W Ls xs d jm_M112 Q (48, sy_dL F1 [some (.inl (.ref 8)), none], sy_dS F1 [.inr (.inl 82), .inl (.ref 20), .inl (.ref 70)], sy_dh F1 X1 X2 (iv_H 2), 0, 0)) :
    hd_W Ls xs d jm_M112 Q (33, sy_dL F [some (.inl (.ref 8)), some (.inr (.inl 82))], sy_dS F [.inr (.inl 83)], sy_dh F X1 X2 (iv_H 2), 0, 0) := by
  refine hd_run (s := 2) (nv := 84) (pc := 48) (L := [some (.inl (.ref 8)), none]) (S := [.inr (.inl 82), .inl (.ref 20), .inl (.ref 70)]) (uh := hd_ov (iv_id 0 iv_B0) []) (ul := [.inl (.inr (.inl 82))]) (f := false) (sp := [48]) (d0 := 0) (O := [true]) (T := []) (P := [(1, .inr (.inl 83), .inl (.int 0))]) jm_ok112 (by decide +kernel) (by decide +kernel) hd F X1 X2 (fun F' hF hs => ?_)
  have b83 := hd_b (F := F) (F' := F') (k := 83) (hF 83 (by decide))
  have b82 := hd_b (F := F) (F' := F') (k := 82) (hF 82 (by decide))
  have hB' : iv_in F' iv_B0 := iv_in_eq hB (fun j hj => hF j (Nat.lt_of_lt_of_le hj (by decide +kernel)))
  refine ⟨List.forall_mem_cons.mpr ⟨hd_p1 b83 rfl (by have hc : ((0) : Int32).toInt = 0 := (by decide); omega), fun _ h => absurd h List.not_mem_nil⟩, ?_⟩
  refine k _ ?_ ?_
  · exact fun j hj _ => (hd_keep hB' (Nat.lt_of_lt_of_le hj (by decide +kernel)) (by simp)).trans (hF j (Nat.lt_of_lt_of_le hj (by decide)))
  · exact hd_gi (x := .inr (.inl 82)) (by decide +kernel) b82
theorem j2as_33_p1 {Ls : Nat} {xs : Nat → Int32} {d : Nat} {Q : Option Value → jm_h → Prop} (hd : 1 ≤ d) (F : Nat → sy_d) (X1 X2 : List jm_c) (hB : iv_in F iv_B0)
    (h0 : (sy_i F 83).toInt = 0)
    (k : ∀ F1 : Nat → sy_d, (∀ j, j < 82 → True → F1 j = F j) → Q (some (.int (((-2) : Int32)))) (sy_dh F1 X1 X2 (iv_H 2))) :
    hd_W Ls xs d jm_M112 Q (33, sy_dL F [some (.inl (.ref 8)), some (.inr (.inl 82))], sy_dS F [.inr (.inl 83)], sy_dh F X1 X2 (iv_H 2), 0, 0) := by
  refine hd_ret (s := 2) (nv := 84) (v := some (.inl (.int (-2)))) (uh := hd_ov (iv_id 0 iv_B0) []) (f := false) (sp := [48]) (d0 := 0) (O := [false]) (T := []) (P := [(0, .inr (.inl 83), .inl (.int 0))]) jm_ok112 (by decide +kernel) (by decide +kernel) hd F X1 X2 (fun F' hF hs => ?_)
  have b83 := hd_b (F := F) (F' := F') (k := 83) (hF 83 (by decide))
  have hB' : iv_in F' iv_B0 := iv_in_eq hB (fun j hj => hF j (Nat.lt_of_lt_of_le hj (by decide +kernel)))
  refine ⟨List.forall_mem_cons.mpr ⟨hd_p0 b83 rfl (by have hc : ((0) : Int32).toInt = 0 := (by decide); omega), fun _ h => absurd h List.not_mem_nil⟩, ?_⟩
  refine k _ ?_
  · exact fun j hj _ => (hd_keep hB' (Nat.lt_of_lt_of_le hj (by decide +kernel)) (by simp)).trans (hF j (Nat.lt_of_lt_of_le hj (by decide)))
theorem j2as_33 {Ls : Nat} {xs : Nat → Int32} {d : Nat} {Q : Option Value → jm_h → Prop} (hd : 1 ≤ d) (F : Nat → sy_d) (X1 X2 : List jm_c) (hB : iv_in F iv_B0)
    (k0 : (sy_i F 83).toInt ≠ 0 → ∀ F1 : Nat → sy_d, iv_in F1 iv_B0 → (∀ j, j < 82 → j ∉ ([] : List Nat) → F1 j = F j) → (sy_i F1 82).toInt = (sy_i F 82).toInt → sy_i F1 82 = sy_i F 82 → hd_W Ls xs d jm_M112 Q (48, sy_dL F1 [some (.inl (.ref 8)), none], sy_dS F1 [.inr (.inl 82), .inl (.ref 20), .inl (.ref 70)], sy_dh F1 X1 X2 (iv_H 2), 0, 0))
    (k1 : (sy_i F 83).toInt = 0 → ∀ F1 : Nat → sy_d, iv_in F1 iv_B0 → (∀ j, j < 82 → j ∉ ([] : List Nat) → F1 j = F j) → Q (some (.int (((-2) : Int32)))) (sy_dh F1 X1 X2 (iv_H 2))) :
    hd_W Ls xs d jm_M112 Q (33, sy_dL F [some (.inl (.ref 8)), some (.inr (.inl 82))], sy_dS F [.inr (.inl 83)], sy_dh F X1 X2 (iv_H 2), 0, 0) := by
  by_cases g0 : (sy_i F 83).toInt ≠ 0
  · exact j2as_33_p0 hd F X1 X2 hB (by first | exact g0 | (simp only [nz_c]; exact g0)) (fun F1 g e82 => k0 g0 F1 (nz_in0 hB [] (fun j hj hn => g j hj (by simp only [List.mem_cons, List.not_mem_nil, or_false, not_or] at hn; exact trivial)) (List.forall_mem_nil _)) (fun j hj hn => g j hj (by simp only [List.mem_cons, List.not_mem_nil, or_false, not_or] at hn; exact trivial)) ((congrArg Int32.toInt (zz_i e82)).trans (rfl : (sy_i F 82).toInt = (sy_i F 82).toInt)) ((zz_i e82).trans (rfl : sy_i F 82 = sy_i F 82)))
  replace g0 : (sy_i F 83).toInt = 0 := by omega
  exact j2as_33_p1 hd F X1 X2 hB (by first | exact g0 | (simp only [nz_c]; exact g0)) (fun F1 g  => k1 g0 F1 (nz_in0 hB [] (fun j hj hn => g j hj (by simp only [List.mem_cons, List.not_mem_nil, or_false, not_or] at hn; exact trivial)) (List.forall_mem_nil _)) (fun j hj hn => g j hj (by simp only [List.mem_cons, List.not_mem_nil, or_false, not_or] at hn; exact trivial)) )
theorem j2as_51_p0 {Ls : Nat} {xs : Nat → Int32} {d : Nat} {Q : Option Value → jm_h → Prop} (hd : 1 ≤ d) (F : Nat → sy_d) (X1 X2 : List jm_c) (hB : iv_in F iv_B0)
    (k : ∀ F1 : Nat → sy_d, (∀ j, j < 82 → True → F1 j = F j) → Q (some (.int (sy_i F 82))) (sy_dh F1 X1 X2 (iv_H 2))) :
    hd_W Ls xs d jm_M112 Q (51, sy_dL F [some (.inl (.ref 8)), none], sy_dS F [.inr (.inl 82)], sy_dh F X1 X2 (iv_H 2), 0, 0) := by
  refine hd_ret (s := 2) (nv := 83) (v := some (.inr (.inl 82))) (uh := hd_ov (iv_id 0 iv_B0) []) (f := false) (sp := []) (d0 := 0) (O := []) (T := []) (P := []) jm_ok112 (by decide +kernel) (by decide +kernel) hd F X1 X2 (fun F' hF hs => ?_)
  have b82 := hd_b (F := F) (F' := F') (k := 82) (hF 82 (by decide))
  have hB' : iv_in F' iv_B0 := iv_in_eq hB (fun j hj => hF j (Nat.lt_of_lt_of_le hj (by decide +kernel)))
  have hk := k (sy_cm F' (hd_ov (iv_id 0 iv_B0) [] ++ [])) (fun j hj _ => (hd_keep hB' (Nat.lt_of_lt_of_le hj (by decide +kernel)) (by simp)).trans (hF j (Nat.lt_of_lt_of_le hj (by decide))))
  refine ⟨fun _ h => absurd h List.not_mem_nil, ?_⟩
  show Q (some (sy_dv F' (.inr (.inl 82)))) _
  rw [b82]
  exact hk
theorem j2as_51 {Ls : Nat} {xs : Nat → Int32} {d : Nat} {Q : Option Value → jm_h → Prop} (hd : 1 ≤ d) (F : Nat → sy_d) (X1 X2 : List jm_c) (hB : iv_in F iv_B0)
    (k0 : ∀ F1 : Nat → sy_d, iv_in F1 iv_B0 → (∀ j, j < 82 → j ∉ ([] : List Nat) → F1 j = F j) → Q (some (.int (sy_i F 82))) (sy_dh F1 X1 X2 (iv_H 2))) :
    hd_W Ls xs d jm_M112 Q (51, sy_dL F [some (.inl (.ref 8)), none], sy_dS F [.inr (.inl 82)], sy_dh F X1 X2 (iv_H 2), 0, 0) := by
  exact j2as_51_p0 hd F X1 X2 hB  (fun F1 g  => by rw [(rfl : sy_i F 82 = sy_i F 82)]; exact k0 F1 (nz_in0 hB [] (fun j hj hn => g j hj (by simp only [List.mem_cons, List.not_mem_nil, or_false, not_or] at hn; exact trivial)) (List.forall_mem_nil _)) (fun j hj hn => g j hj (by simp only [List.mem_cons, List.not_mem_nil, or_false, not_or] at hn; exact trivial)) )
theorem j3ft_0_p0 {Ls : Nat} {xs : Nat → Int32} {d : Nat} {Q : Option Value → jm_h → Prop} (hd : 1 ≤ d) (F : Nat → sy_d) (X1 X2 : List jm_c) (hB : iv_in F iv_B0)
    (k : ∀ F1 : Nat → sy_d, (∀ j, j < 82 → True → F1 j = F j) → F1 82 = .inl (.int (sy_i F 82)) → F1 83 = .inl (.int ((0 : Int32))) → F1 84 = .inl (.int ((0 : Int32))) → hd_W Ls xs d jm_M71 Q (5, sy_dL F1 [some (.inl (.ref 70)), some (.inl (.ref 20)), some (.inr (.inl 82)), some (.inr (.inl 83)), some (.inr (.inl 84))], sy_dS F1 [], sy_dh F1 X1 X2 (iv_H 3), 0, 0)) :
    hd_W Ls xs d jm_M71 Q (0, sy_dL F [some (.inl (.ref 70)), some (.inl (.ref 20)), some (.inr (.inl 82)), none, none], sy_dS F [], sy_dh F X1 X2 (iv_H 3), 0, 0) := by
  refine hd_run (s := 3) (nv := 83) (pc := 5) (L := [some (.inl (.ref 70)), some (.inl (.ref 20)), some (.inr (.inl 82)), some (.inr (.inl 83)), some (.inr (.inl 84))]) (S := []) (uh := hd_ov (iv_id 0 iv_B0) []) (ul := [.inl (.inr (.inl 82)), .inl (.inl (.int 0)), .inl (.inl (.int 0))]) (f := true) (sp := [5]) (d0 := 0) (O := []) (T := []) (P := []) jm_ok71 (by decide +kernel) (by decide +kernel) hd F X1 X2 (fun F' hF hs => ?_)
  have b82 := hd_b (F := F) (F' := F') (k := 82) (hF 82 (by decide))
  have hB' : iv_in F' iv_B0 := iv_in_eq hB (fun j hj => hF j (Nat.lt_of_lt_of_le hj (by decide +kernel)))
  refine ⟨fun _ h => absurd h List.not_mem_nil, ?_⟩
  refine k _ ?_ ?_ ?_ ?_
  · exact fun j hj _ => (hd_keep hB' (Nat.lt_of_lt_of_le hj (by decide +kernel)) (by simp)).trans (hF j (Nat.lt_of_lt_of_le hj (by decide)))
  · exact hd_gi (x := .inr (.inl 82)) (by decide +kernel) b82
  · exact hd_gi (x := .inl (.int 0)) (by decide +kernel) rfl
  · exact hd_gi (x := .inl (.int 0)) (by decide +kernel) rfl
theorem j3ft_0 {Ls : Nat} {xs : Nat → Int32} {d : Nat} {Q : Option Value → jm_h → Prop} (hd : 1 ≤ d) (F : Nat → sy_d) (X1 X2 : List jm_c) (hB : iv_in F iv_B0)
    (k0 : ∀ F1 : Nat → sy_d, iv_in F1 iv_B0 → (∀ j, j < 82 → j ∉ ([] : List Nat) → F1 j = F j) → (sy_i F1 82).toInt = (sy_i F 82).toInt → sy_i F1 82 = sy_i F 82 → (sy_i F1 83).toInt = 0 → sy_i F1 83 = (0 : Int32) → (sy_i F1 84).toInt = 0 → sy_i F1 84 = (0 : Int32) → hd_W Ls xs d jm_M71 Q (5, sy_dL F1 [some (.inl (.ref 70)), some (.inl (.ref 20)), some (.inr (.inl 82)), some (.inr (.inl 83)), some (.inr (.inl 84))], sy_dS F1 [], sy_dh F1 X1 X2 (iv_H 3), 0, 0)) :
    hd_W Ls xs d jm_M71 Q (0, sy_dL F [some (.inl (.ref 70)), some (.inl (.ref 20)), some (.inr (.inl 82)), none, none], sy_dS F [], sy_dh F X1 X2 (iv_H 3), 0, 0) := by
  exact j3ft_0_p0 hd F X1 X2 hB  (fun F1 g e82 e83 e84 => k0 F1 (nz_in0 hB [] (fun j hj hn => g j hj (by simp only [List.mem_cons, List.not_mem_nil, or_false, not_or] at hn; exact trivial)) (List.forall_mem_nil _)) (fun j hj hn => g j hj (by simp only [List.mem_cons, List.not_mem_nil, or_false, not_or] at hn; exact trivial)) ((congrArg Int32.toInt (zz_i e82)).trans (rfl : (sy_i F 82).toInt = (sy_i F 82).toInt)) ((zz_i e82).trans (rfl : sy_i F 82 = sy_i F 82)) ((congrArg Int32.toInt (zz_i e83)).trans (by decide : ((0 : Int32)).toInt = 0)) ((zz_i e83).trans (rfl : (0 : Int32) = (0 : Int32))) ((congrArg Int32.toInt (zz_i e84)).trans (by decide : ((0 : Int32)).toInt = 0)) ((zz_i e84).trans (rfl : (0 : Int32) = (0 : Int32))))
theorem j3ft_5_p0 {Ls : Nat} {xs : Nat → Int32} {d : Nat} {Q : Option Value → jm_h → Prop} (hd : 2 ≤ d) (F : Nat → sy_d) (X1 X2 : List jm_c) (hB : iv_in F iv_B0)
    (h0 : (sy_i F 18).toInt ≤ (sy_i F 84).toInt)
    (k : ∀ F1 : Nat → sy_d, (∀ j, j < 82 → True → F1 j = F j) → Q (some (.int (sy_i F 83))) (sy_dh F1 X1 X2 (iv_H 3))) :
    hd_W Ls xs d jm_M71 Q (5, sy_dL F [some (.inl (.ref 70)), some (.inl (.ref 20)), some (.inr (.inl 82)), some (.inr (.inl 83)), some (.inr (.inl 84))], sy_dS F [], sy_dh F X1 X2 (iv_H 3), 0, 0) := by
  refine hd_ret (s := 3) (nv := 85) (v := some (.inr (.inl 83))) (uh := hd_ov (iv_id 0 iv_B0) []) (f := true) (sp := [5]) (d0 := 1) (O := [true]) (T := []) (P := [(4, .inr (.inl 18), .inr (.inl 84))]) jm_ok71 (by decide +kernel) (by decide +kernel) hd F X1 X2 (fun F' hF hs => ?_)
  have b18 := hd_b (F := F) (F' := F') (k := 18) (hF 18 (by decide))
  have b84 := hd_b (F := F) (F' := F') (k := 84) (hF 84 (by decide))
  have b83 := hd_b (F := F) (F' := F') (k := 83) (hF 83 (by decide))
  have hB' : iv_in F' iv_B0 := iv_in_eq hB (fun j hj => hF j (Nat.lt_of_lt_of_le hj (by decide +kernel)))
  have hk := k (sy_cm F' (hd_ov (iv_id 0 iv_B0) [] ++ [])) (fun j hj _ => (hd_keep hB' (Nat.lt_of_lt_of_le hj (by decide +kernel)) (by simp)).trans (hF j (Nat.lt_of_lt_of_le hj (by decide))))
  refine ⟨List.forall_mem_cons.mpr ⟨hd_p4 b18 b84 h0, fun _ h => absurd h List.not_mem_nil⟩, ?_⟩
  show Q (some (sy_dv F' (.inr (.inl 83)))) _
  rw [b83]
  exact hk
theorem j3ft_5_p1 {Ls : Nat} {xs : Nat → Int32} {d : Nat} {Q : Option Value → jm_h → Prop} (hd : 2 ≤ d) (F : Nat → sy_d) (X1 X2 : List jm_c) (hB : iv_in F iv_B0)
    (h0 : (sy_i F 84).toInt < (sy_i F 18).toInt)
    (h1 : 0 ≤ (sy_i F 84).toInt ∧ (sy_i F 84).toInt < 7)
    (h2 : 0 ≤ (sy_i F 82).toInt ∧ (sy_i F 82).toInt < 7)
    (h3 : ((sy_ai F 25).getD (sy_i F 84).toNatClampNeg 0).toInt ≠ ((sy_ai F 80).getD (sy_i F 82).toNatClampNeg 0).toInt)
    (k : ∀ F1 : Nat → sy_d, (∀ j, j < 82 → True → F1 j = F j) → F1 82 = .inl (.int (sy_i F 82)) → F1 83 = .inl (.int (sy_i F 83)) → F1 84 = .inl (.int ((sy_i F 84) + ((1 : Int32)))) → hd_W Ls xs d jm_M71 Q (5, sy_dL F1 [some (.inl (.ref 70)), some (.inl (.ref 20)), some (.inr (.inl 82)), some (.inr (.inl 83)), some (.inr (.inl 84))], sy_dS F1 [], sy_dh F1 X1 X2 (iv_H 3), 0, 0)) :
    hd_W Ls xs d jm_M71 Q (5, sy_dL F [some (.inl (.ref 70)), some (.inl (.ref 20)), some (.inr (.inl 82)), some (.inr (.inl 83)), some (.inr (.inl 84))], sy_dS F [], sy_dh F X1 X2 (iv_H 3), 0, 0) := by
  refine hd_run (s := 3) (nv := 85) (pc := 5) (L := [some (.inl (.ref 70)), some (.inl (.ref 20)), some (.inr (.inl 82)), some (.inr (.inl 83)), some (.inr (.inl 84))]) (S := []) (uh := hd_ov (iv_id 0 iv_B0) []) (ul := [.inl (.inr (.inl 82)), .inl (.inr (.inl 83)), .inl (.inr (.inl 87))]) (f := true) (sp := [5]) (d0 := 1) (O := [false, true]) (T := [(30, [.inr (.inl 84)], [.inr (.inl 25)]), (30, [.inr (.inl 82)], [.inr (.inl 80)]), (0, [.inr (.inl 84), .inl (.int 1)], [])]) (P := [(5, .inr (.inl 18), .inr (.inl 84)), (6, .inr (.inl 84), .inl (.ref 7)), (6, .inr (.inl 82), .inl (.ref 7)), (1, .inr (.inl 85), .inr (.inl 86))]) jm_ok71 (by decide +kernel) (by decide +kernel) hd F X1 X2 (fun F' hF hs => ?_)
  have b18 := hd_b (F := F) (F' := F') (k := 18) (hF 18 (by decide))
  have b84 := hd_b (F := F) (F' := F') (k := 84) (hF 84 (by decide))
  have b82 := hd_b (F := F) (F' := F') (k := 82) (hF 82 (by decide))
  have a25 := hd_ba (F := F) (F' := F') (k := 25) (hF 25 (by decide))
  have t85 : sy_dv F' (.inr (.inl 85)) = .int ((sy_ai F 25).getD (sy_i F 84).toNatClampNeg 0) := hd_rd (hs 0 _ rfl) b84 a25
  have a80 := hd_ba (F := F) (F' := F') (k := 80) (hF 80 (by decide))
  have t86 : sy_dv F' (.inr (.inl 86)) = .int ((sy_ai F 80).getD (sy_i F 82).toNatClampNeg 0) := hd_rd (hs 1 _ rfl) b82 a80
  have b83 := hd_b (F := F) (F' := F') (k := 83) (hF 83 (by decide))
  have t87 : sy_dv F' (.inr (.inl 87)) = .int ((sy_i F 84) + ((1 : Int32))) := hd_o (hs 2 _ rfl) b84 rfl rfl
  have hB' : iv_in F' iv_B0 := iv_in_eq hB (fun j hj => hF j (Nat.lt_of_lt_of_le hj (by decide +kernel)))
  refine ⟨List.forall_mem_cons.mpr ⟨hd_p5 b18 b84 h0, List.forall_mem_cons.mpr ⟨hd_pb b84 (by first | exact h1 | exact h1), List.forall_mem_cons.mpr ⟨hd_pb b82 (by first | exact h2 | exact h2), List.forall_mem_cons.mpr ⟨hd_p1 t85 t86 h3, fun _ h => absurd h List.not_mem_nil⟩⟩⟩⟩, ?_⟩
  refine k _ ?_ ?_ ?_ ?_
  · exact fun j hj _ => (hd_keep hB' (Nat.lt_of_lt_of_le hj (by decide +kernel)) (by simp)).trans (hF j (Nat.lt_of_lt_of_le hj (by decide)))
  · exact hd_gi (x := .inr (.inl 82)) (by decide +kernel) b82
  · exact hd_gi (x := .inr (.inl 83)) (by decide +kernel) b83
  · exact hd_gi (x := .inr (.inl 87)) (by decide +kernel) t87
theorem j3ft_5_p2 {Ls : Nat} {xs : Nat → Int32} {d : Nat} {Q : Option Value → jm_h → Prop} (hd : 2 ≤ d) (F : Nat → sy_d) (X1 X2 : List jm_c) (hB : iv_in F iv_B0)
    (h0 : (sy_i F 84).toInt < (sy_i F 18).toInt)
    (h1 : 0 ≤ (sy_i F 84).toInt ∧ (sy_i F 84).toInt < 7)
    (h2 : 0 ≤ (sy_i F 82).toInt ∧ (sy_i F 82).toInt < 7)
    (h3 : ((sy_ai F 25).getD (sy_i F 84).toNatClampNeg 0).toInt = ((sy_ai F 80).getD (sy_i F 82).toNatClampNeg 0).toInt)
    (h4 : 0 ≤ (sy_i F 84).toInt ∧ (sy_i F 84).toInt < 7)
    (h5 : 0 ≤ (sy_i F 82).toInt ∧ (sy_i F 82).toInt < 7)
    (h6 : ((sy_ai F 27).getD (sy_i F 84).toNatClampNeg 0).toInt ≠ ((sy_ai F 81).getD (sy_i F 82).toNatClampNeg 0).toInt)
    (k : ∀ F1 : Nat → sy_d, (∀ j, j < 82 → True → F1 j = F j) → F1 82 = .inl (.int (sy_i F 82)) → F1 83 = .inl (.int (sy_i F 83)) → F1 84 = .inl (.int ((sy_i F 84) + ((1 : Int32)))) → hd_W Ls xs d jm_M71 Q (5, sy_dL F1 [some (.inl (.ref 70)), some (.inl (.ref 20)), some (.inr (.inl 82)), some (.inr (.inl 83)), some (.inr (.inl 84))], sy_dS F1 [], sy_dh F1 X1 X2 (iv_H 3), 0, 0)) :
    hd_W Ls xs d jm_M71 Q (5, sy_dL F [some (.inl (.ref 70)), some (.inl (.ref 20)), some (.inr (.inl 82)), some (.inr (.inl 83)), some (.inr (.inl 84))], sy_dS F [], sy_dh F X1 X2 (iv_H 3), 0, 0) := by
  refine hd_run (s := 3) (nv := 85) (pc := 5) (L := [some (.inl (.ref 70)), some (.inl (.ref 20)), some (.inr (.inl 82)), some (.inr (.inl 83)), some (.inr (.inl 84))]) (S := []) (uh := hd_ov (iv_id 0 iv_B0) []) (ul := [.inl (.inr (.inl 82)), .inl (.inr (.inl 83)), .inl (.inr (.inl 89))]) (f := true) (sp := [5]) (d0 := 1) (O := [false, false, true]) (T := [(30, [.inr (.inl 84)], [.inr (.inl 25)]), (30, [.inr (.inl 82)], [.inr (.inl 80)]), (30, [.inr (.inl 84)], [.inr (.inl 27)]), (30, [.inr (.inl 82)], [.inr (.inl 81)]), (0, [.inr (.inl 84), .inl (.int 1)], [])]) (P := [(5, .inr (.inl 18), .inr (.inl 84)), (6, .inr (.inl 84), .inl (.ref 7)), (6, .inr (.inl 82), .inl (.ref 7)), (0, .inr (.inl 85), .inr (.inl 86)), (6, .inr (.inl 84), .inl (.ref 7)), (6, .inr (.inl 82), .inl (.ref 7)), (1, .inr (.inl 87), .inr (.inl 88))]) jm_ok71 (by decide +kernel) (by decide +kernel) hd F X1 X2 (fun F' hF hs => ?_)
  have b18 := hd_b (F := F) (F' := F') (k := 18) (hF 18 (by decide))
  have b84 := hd_b (F := F) (F' := F') (k := 84) (hF 84 (by decide))
  have b82 := hd_b (F := F) (F' := F') (k := 82) (hF 82 (by decide))
  have a25 := hd_ba (F := F) (F' := F') (k := 25) (hF 25 (by decide))
  have t85 : sy_dv F' (.inr (.inl 85)) = .int ((sy_ai F 25).getD (sy_i F 84).toNatClampNeg 0) := hd_rd (hs 0 _ rfl) b84 a25
  have a80 := hd_ba (F := F) (F' := F') (k := 80) (hF 80 (by decide))
  have t86 : sy_dv F' (.inr (.inl 86)) = .int ((sy_ai F 80).getD (sy_i F 82).toNatClampNeg 0) := hd_rd (hs 1 _ rfl) b82 a80
  have a27 := hd_ba (F := F) (F' := F') (k := 27) (hF 27 (by decide))
  have t87 : sy_dv F' (.inr (.inl 87)) = .int ((sy_ai F 27).getD (sy_i F 84).toNatClampNeg 0) := hd_rd (hs 2 _ rfl) b84 a27
  have a81 := hd_ba (F := F) (F' := F') (k := 81) (hF 81 (by decide))
  have t88 : sy_dv F' (.inr (.inl 88)) = .int ((sy_ai F 81).getD (sy_i F 82).toNatClampNeg 0) := hd_rd (hs 3 _ rfl) b82 a81
  have b83 := hd_b (F := F) (F' := F') (k := 83) (hF 83 (by decide))
  have t89 : sy_dv F' (.inr (.inl 89)) = .int ((sy_i F 84) + ((1 : Int32))) := hd_o (hs 4 _ rfl) b84 rfl rfl
  have hB' : iv_in F' iv_B0 := iv_in_eq hB (fun j hj => hF j (Nat.lt_of_lt_of_le hj (by decide +kernel)))
  refine ⟨List.forall_mem_cons.mpr ⟨hd_p5 b18 b84 h0, List.forall_mem_cons.mpr ⟨hd_pb b84 (by first | exact h1 | exact h1), List.forall_mem_cons.mpr ⟨hd_pb b82 (by first | exact h2 | exact h2), List.forall_mem_cons.mpr ⟨hd_p0 t85 t86 h3, List.forall_mem_cons.mpr ⟨hd_pb b84 (by first | exact h4 | exact h4), List.forall_mem_cons.mpr ⟨hd_pb b82 (by first | exact h5 | exact h5), List.forall_mem_cons.mpr ⟨hd_p1 t87 t88 h6, fun _ h => absurd h List.not_mem_nil⟩⟩⟩⟩⟩⟩⟩, ?_⟩
  refine k _ ?_ ?_ ?_ ?_
  · exact fun j hj _ => (hd_keep hB' (Nat.lt_of_lt_of_le hj (by decide +kernel)) (by simp)).trans (hF j (Nat.lt_of_lt_of_le hj (by decide)))
  · exact hd_gi (x := .inr (.inl 82)) (by decide +kernel) b82
  · exact hd_gi (x := .inr (.inl 83)) (by decide +kernel) b83
  · exact hd_gi (x := .inr (.inl 89)) (by decide +kernel) t89
theorem j3ft_5_p3 {Ls : Nat} {xs : Nat → Int32} {d : Nat} {Q : Option Value → jm_h → Prop} (hd : 2 ≤ d) (F : Nat → sy_d) (X1 X2 : List jm_c) (hB : iv_in F iv_B0)
    (h0 : (sy_i F 84).toInt < (sy_i F 18).toInt)
    (h1 : 0 ≤ (sy_i F 84).toInt ∧ (sy_i F 84).toInt < 7)
    (h2 : 0 ≤ (sy_i F 82).toInt ∧ (sy_i F 82).toInt < 7)
    (h3 : ((sy_ai F 25).getD (sy_i F 84).toNatClampNeg 0).toInt = ((sy_ai F 80).getD (sy_i F 82).toNatClampNeg 0).toInt)
    (h4 : 0 ≤ (sy_i F 84).toInt ∧ (sy_i F 84).toInt < 7)
    (h5 : 0 ≤ (sy_i F 82).toInt ∧ (sy_i F 82).toInt < 7)
    (h6 : ((sy_ai F 27).getD (sy_i F 84).toNatClampNeg 0).toInt = ((sy_ai F 81).getD (sy_i F 82).toNatClampNeg 0).toInt)
    (k : ∀ F1 : Nat → sy_d, (∀ j, j < 82 → True → F1 j = F j) → F1 82 = .inl (.int (sy_i F 82)) → F1 83 = .inl (.int ((sy_i F 83) + ((1 : Int32)))) → F1 84 = .inl (.int ((sy_i F 84) + ((1 : Int32)))) → hd_W Ls xs d jm_M71 Q (5, sy_dL F1 [some (.inl (.ref 70)), some (.inl (.ref 20)), some (.inr (.inl 82)), some (.inr (.inl 83)), some (.inr (.inl 84))], sy_dS F1 [], sy_dh F1 X1 X2 (iv_H 3), 0, 0)) :
    hd_W Ls xs d jm_M71 Q (5, sy_dL F [some (.inl (.ref 70)), some (.inl (.ref 20)), some (.inr (.inl 82)), some (.inr (.inl 83)), some (.inr (.inl 84))], sy_dS F [], sy_dh F X1 X2 (iv_H 3), 0, 0) := by
  refine hd_run (s := 3) (nv := 85) (pc := 5) (L := [some (.inl (.ref 70)), some (.inl (.ref 20)), some (.inr (.inl 82)), some (.inr (.inl 83)), some (.inr (.inl 84))]) (S := []) (uh := hd_ov (iv_id 0 iv_B0) []) (ul := [.inl (.inr (.inl 82)), .inl (.inr (.inl 89)), .inl (.inr (.inl 90))]) (f := true) (sp := [5]) (d0 := 1) (O := [false, false, false]) (T := [(30, [.inr (.inl 84)], [.inr (.inl 25)]), (30, [.inr (.inl 82)], [.inr (.inl 80)]), (30, [.inr (.inl 84)], [.inr (.inl 27)]), (30, [.inr (.inl 82)], [.inr (.inl 81)]), (0, [.inr (.inl 83), .inl (.int 1)], []), (0, [.inr (.inl 84), .inl (.int 1)], [])]) (P := [(5, .inr (.inl 18), .inr (.inl 84)), (6, .inr (.inl 84), .inl (.ref 7)), (6, .inr (.inl 82), .inl (.ref 7)), (0, .inr (.inl 85), .inr (.inl 86)), (6, .inr (.inl 84), .inl (.ref 7)), (6, .inr (.inl 82), .inl (.ref 7)), (0, .inr (.inl 87), .inr (.inl 88))]) jm_ok71 (by decide +kernel) (by decide +kernel) hd F X1 X2 (fun F' hF hs => ?_)
  have b18 := hd_b (F := F) (F' := F') (k := 18) (hF 18 (by decide))
  have b84 := hd_b (F := F) (F' := F') (k := 84) (hF 84 (by decide))
  have b82 := hd_b (F := F) (F' := F') (k := 82) (hF 82 (by decide))
  have a25 := hd_ba (F := F) (F' := F') (k := 25) (hF 25 (by decide))
  have t85 : sy_dv F' (.inr (.inl 85)) = .int ((sy_ai F 25).getD (sy_i F 84).toNatClampNeg 0) := hd_rd (hs 0 _ rfl) b84 a25
  have a80 := hd_ba (F := F) (F' := F') (k := 80) (hF 80 (by decide))
  have t86 : sy_dv F' (.inr (.inl 86)) = .int ((sy_ai F 80).getD (sy_i F 82).toNatClampNeg 0) := hd_rd (hs 1 _ rfl) b82 a80
  have a27 := hd_ba (F := F) (F' := F') (k := 27) (hF 27 (by decide))
  have t87 : sy_dv F' (.inr (.inl 87)) = .int ((sy_ai F 27).getD (sy_i F 84).toNatClampNeg 0) := hd_rd (hs 2 _ rfl) b84 a27
  have a81 := hd_ba (F := F) (F' := F') (k := 81) (hF 81 (by decide))
  have t88 : sy_dv F' (.inr (.inl 88)) = .int ((sy_ai F 81).getD (sy_i F 82).toNatClampNeg 0) := hd_rd (hs 3 _ rfl) b82 a81
  have b83 := hd_b (F := F) (F' := F') (k := 83) (hF 83 (by decide))
  have t89 : sy_dv F' (.inr (.inl 89)) = .int ((sy_i F 83) + ((1 : Int32))) := hd_o (hs 4 _ rfl) b83 rfl rfl
  have t90 : sy_dv F' (.inr (.inl 90)) = .int ((sy_i F 84) + ((1 : Int32))) := hd_o (hs 5 _ rfl) b84 rfl rfl
  have hB' : iv_in F' iv_B0 := iv_in_eq hB (fun j hj => hF j (Nat.lt_of_lt_of_le hj (by decide +kernel)))
  refine ⟨List.forall_mem_cons.mpr ⟨hd_p5 b18 b84 h0, List.forall_mem_cons.mpr ⟨hd_pb b84 (by first | exact h1 | exact h1), List.forall_mem_cons.mpr ⟨hd_pb b82 (by first | exact h2 | exact h2), List.forall_mem_cons.mpr ⟨hd_p0 t85 t86 h3, List.forall_mem_cons.mpr ⟨hd_pb b84 (by first | exact h4 | exact h4), List.forall_mem_cons.mpr ⟨hd_pb b82 (by first | exact h5 | exact h5), List.forall_mem_cons.mpr ⟨hd_p0 t87 t88 h6, fun _ h => absurd h List.not_mem_nil⟩⟩⟩⟩⟩⟩⟩, ?_⟩
  refine k _ ?_ ?_ ?_ ?_
  · exact fun j hj _ => (hd_keep hB' (Nat.lt_of_lt_of_le hj (by decide +kernel)) (by simp)).trans (hF j (Nat.lt_of_lt_of_le hj (by decide)))
  · exact hd_gi (x := .inr (.inl 82)) (by decide +kernel) b82
  · exact hd_gi (x := .inr (.inl 89)) (by decide +kernel) t89
  · exact hd_gi (x := .inr (.inl 90)) (by decide +kernel) t90
theorem j3ft_5 {Ls : Nat} {xs : Nat → Int32} {d : Nat} {Q : Option Value → jm_h → Prop} (hd : 2 ≤ d) (F : Nat → sy_d) (X1 X2 : List jm_c) (hB : iv_in F iv_B0)
    (a82 : 0 ≤ (sy_i F 82).toInt ∧ (sy_i F 82).toInt ≤ 6)
    (a83 : 0 ≤ (sy_i F 83).toInt ∧ (sy_i F 83).toInt ≤ 7)
    (a84 : 0 ≤ (sy_i F 84).toInt ∧ (sy_i F 84).toInt ≤ 7)
    (k0 : (sy_i F 18).toInt ≤ (sy_i F 84).toInt → ∀ F1 : Nat → sy_d, iv_in F1 iv_B0 → (∀ j, j < 82 → j ∉ ([] : List Nat) → F1 j = F j) → Q (some (.int (sy_i F 83))) (sy_dh F1 X1 X2 (iv_H 3)))
    (k1 : (sy_i F 84).toInt < (sy_i F 18).toInt → ((sy_ai F 25).getD ((sy_i F 84).toInt).toNat 0).toInt ≠ ((sy_ai F 80).getD ((sy_i F 82).toInt).toNat 0).toInt → ∀ F1 : Nat → sy_d, iv_in F1 iv_B0 → (∀ j, j < 82 → j ∉ ([] : List Nat) → F1 j = F j) → (sy_i F1 82).toInt = (sy_i F 82).toInt → sy_i F1 82 = sy_i F 82 → (sy_i F1 83).toInt = (sy_i F 83).toInt → sy_i F1 83 = sy_i F 83 → (sy_i F1 84).toInt = ((sy_i F 84).toInt + 1) → sy_i F1 84 = (sy_i F 84) + ((1 : Int32)) → hd_W Ls xs d jm_M71 Q (5, sy_dL F1 [some (.inl (.ref 70)), some (.inl (.ref 20)), some (.inr (.inl 82)), some (.inr (.inl 83)), some (.inr (.inl 84))], sy_dS F1 [], sy_dh F1 X1 X2 (iv_H 3), 0, 0))
    (k2 : (sy_i F 84).toInt < (sy_i F 18).toInt → ((sy_ai F 25).getD ((sy_i F 84).toInt).toNat 0).toInt = ((sy_ai F 80).getD ((sy_i F 82).toInt).toNat 0).toInt → ((sy_ai F 27).getD ((sy_i F 84).toInt).toNat 0).toInt ≠ ((sy_ai F 81).getD ((sy_i F 82).toInt).toNat 0).toInt → ∀ F1 : Nat → sy_d, iv_in F1 iv_B0 → (∀ j, j < 82 → j ∉ ([] : List Nat) → F1 j = F j) → (sy_i F1 82).toInt = (sy_i F 82).toInt → sy_i F1 82 = sy_i F 82 → (sy_i F1 83).toInt = (sy_i F 83).toInt → sy_i F1 83 = sy_i F 83 → (sy_i F1 84).toInt = ((sy_i F 84).toInt + 1) → sy_i F1 84 = (sy_i F 84) + ((1 : Int32)) → hd_W Ls xs d jm_M71 Q (5, sy_dL F1 [some (.inl (.ref 70)), some (.inl (.ref 20)), some (.inr (.inl 82)), some (.inr (.inl 83)), some (.inr (.inl 84))], sy_dS F1 [], sy_dh F1 X1 X2 (iv_H 3), 0, 0))
    (k3 : (sy_i F 84).toInt < (sy_i F 18).toInt → ((sy_ai F 25).getD ((sy_i F 84).toInt).toNat 0).toInt = ((sy_ai F 80).getD ((sy_i F 82).toInt).toNat 0).toInt → ((sy_ai F 27).getD ((sy_i F 84).toInt).toNat 0).toInt = ((sy_ai F 81).getD ((sy_i F 82).toInt).toNat 0).toInt → ∀ F1 : Nat → sy_d, iv_in F1 iv_B0 → (∀ j, j < 82 → j ∉ ([] : List Nat) → F1 j = F j) → (sy_i F1 82).toInt = (sy_i F 82).toInt → sy_i F1 82 = sy_i F 82 → (sy_i F1 83).toInt = ((sy_i F 83).toInt + 1) → sy_i F1 83 = (sy_i F 83) + ((1 : Int32)) → (sy_i F1 84).toInt = ((sy_i F 84).toInt + 1) → sy_i F1 84 = (sy_i F 84) + ((1 : Int32)) → hd_W Ls xs d jm_M71 Q (5, sy_dL F1 [some (.inl (.ref 70)), some (.inl (.ref 20)), some (.inr (.inl 82)), some (.inr (.inl 83)), some (.inr (.inl 84))], sy_dS F1 [], sy_dh F1 X1 X2 (iv_H 3), 0, 0)) :
    hd_W Ls xs d jm_M71 Q (5, sy_dL F [some (.inl (.ref 70)), some (.inl (.ref 20)), some (.inr (.inl 82)), some (.inr (.inl 83)), some (.inr (.inl 84))], sy_dS F [], sy_dh F X1 X2 (iv_H 3), 0, 0) := by
  by_cases g0 : (sy_i F 18).toInt ≤ (sy_i F 84).toInt
  · have c18 := nz_bx hB (k := 18) (lo := 0) (hi := 7) rfl
    exact j3ft_5_p0 hd F X1 X2 hB (by first | exact g0 | (simp only [nz_c]; exact g0)) (fun F1 g  => by rw [(rfl : sy_i F 83 = sy_i F 83)]; exact k0 g0 F1 (nz_in0 hB [] (fun j hj hn => g j hj (by simp only [List.mem_cons, List.not_mem_nil, or_false, not_or] at hn; exact trivial)) (List.forall_mem_nil _)) (fun j hj hn => g j hj (by simp only [List.mem_cons, List.not_mem_nil, or_false, not_or] at hn; exact trivial)) )
  replace g0 : (sy_i F 84).toInt < (sy_i F 18).toInt := by omega
  by_cases g1 : ((sy_ai F 25).getD ((sy_i F 84).toInt).toNat 0).toInt ≠ ((sy_ai F 80).getD ((sy_i F 82).toInt).toNat 0).toInt
  · have c18 := nz_bx hB (k := 18) (lo := 0) (hi := 7) rfl
    have q85 : (sy_ai F 25).getD (sy_i F 84).toNatClampNeg 0 = (sy_ai F 25).getD ((sy_i F 84).toInt).toNat 0 := by simp only [nz_c]
    have n85 : nzI ((sy_ai F 25).getD (sy_i F 84).toNatClampNeg 0) (((sy_ai F 25).getD ((sy_i F 84).toInt).toNat 0).toInt) := congrArg Int32.toInt q85
    have q86 : (sy_ai F 80).getD (sy_i F 82).toNatClampNeg 0 = (sy_ai F 80).getD ((sy_i F 82).toInt).toNat 0 := by simp only [nz_c]
    have n86 : nzI ((sy_ai F 80).getD (sy_i F 82).toNatClampNeg 0) (((sy_ai F 80).getD ((sy_i F 82).toInt).toNat 0).toInt) := congrArg Int32.toInt q86
    have n87 : nzI ((sy_i F 84) + ((1 : Int32))) (((sy_i F 84).toInt + 1)) := nz_add (rfl : (sy_i F 84).toInt = (sy_i F 84).toInt) (by decide : ((1 : Int32)).toInt = 1) (by omega) (by omega)
    exact j3ft_5_p1 hd F X1 X2 hB (by first | exact g0 | (simp only [nz_c]; exact g0)) (by first | exact ⟨by omega, by omega⟩ | (simp only [nz_c]; exact ⟨by omega, by omega⟩)) (by first | exact ⟨by omega, by omega⟩ | (simp only [nz_c]; exact ⟨by omega, by omega⟩)) (by first | exact g1 | (simp only [nz_c]; exact g1) | (rw [(nzE n85)]; exact g1) | (rw [(nzE n86)]; exact g1) | (rw [(nzE n85), (nzE n86)]; exact g1)) (fun F1 g e82 e83 e84 => k1 g0 g1 F1 (nz_in0 hB [] (fun j hj hn => g j hj (by simp only [List.mem_cons, List.not_mem_nil, or_false, not_or] at hn; exact trivial)) (List.forall_mem_nil _)) (fun j hj hn => g j hj (by simp only [List.mem_cons, List.not_mem_nil, or_false, not_or] at hn; exact trivial)) ((congrArg Int32.toInt (zz_i e82)).trans (rfl : (sy_i F 82).toInt = (sy_i F 82).toInt)) ((zz_i e82).trans (rfl : sy_i F 82 = sy_i F 82)) ((congrArg Int32.toInt (zz_i e83)).trans (rfl : (sy_i F 83).toInt = (sy_i F 83).toInt)) ((zz_i e83).trans (rfl : sy_i F 83 = sy_i F 83)) ((congrArg Int32.toInt (zz_i e84)).trans (nzE n87)) ((zz_i e84).trans (rfl : (sy_i F 84) + ((1 : Int32)) = (sy_i F 84) + ((1 : Int32)))))
  replace g1 : ((sy_ai F 25).getD ((sy_i F 84).toInt).toNat 0).toInt = ((sy_ai F 80).getD ((sy_i F 82).toInt).toNat 0).toInt := by omega
  by_cases g2 : ((sy_ai F 27).getD ((sy_i F 84).toInt).toNat 0).toInt ≠ ((sy_ai F 81).getD ((sy_i F 82).toInt).toNat 0).toInt
  · have c18 := nz_bx hB (k := 18) (lo := 0) (hi := 7) rfl
    have q85 : (sy_ai F 25).getD (sy_i F 84).toNatClampNeg 0 = (sy_ai F 25).getD ((sy_i F 84).toInt).toNat 0 := by simp only [nz_c]
    have n85 : nzI ((sy_ai F 25).getD (sy_i F 84).toNatClampNeg 0) (((sy_ai F 25).getD ((sy_i F 84).toInt).toNat 0).toInt) := congrArg Int32.toInt q85
    have q86 : (sy_ai F 80).getD (sy_i F 82).toNatClampNeg 0 = (sy_ai F 80).getD ((sy_i F 82).toInt).toNat 0 := by simp only [nz_c]
    have n86 : nzI ((sy_ai F 80).getD (sy_i F 82).toNatClampNeg 0) (((sy_ai F 80).getD ((sy_i F 82).toInt).toNat 0).toInt) := congrArg Int32.toInt q86
    have q87 : (sy_ai F 27).getD (sy_i F 84).toNatClampNeg 0 = (sy_ai F 27).getD ((sy_i F 84).toInt).toNat 0 := by simp only [nz_c]
    have n87 : nzI ((sy_ai F 27).getD (sy_i F 84).toNatClampNeg 0) (((sy_ai F 27).getD ((sy_i F 84).toInt).toNat 0).toInt) := congrArg Int32.toInt q87
    have q88 : (sy_ai F 81).getD (sy_i F 82).toNatClampNeg 0 = (sy_ai F 81).getD ((sy_i F 82).toInt).toNat 0 := by simp only [nz_c]
    have n88 : nzI ((sy_ai F 81).getD (sy_i F 82).toNatClampNeg 0) (((sy_ai F 81).getD ((sy_i F 82).toInt).toNat 0).toInt) := congrArg Int32.toInt q88
    have n89 : nzI ((sy_i F 84) + ((1 : Int32))) (((sy_i F 84).toInt + 1)) := nz_add (rfl : (sy_i F 84).toInt = (sy_i F 84).toInt) (by decide : ((1 : Int32)).toInt = 1) (by omega) (by omega)
    exact j3ft_5_p2 hd F X1 X2 hB (by first | exact g0 | (simp only [nz_c]; exact g0)) (by first | exact ⟨by omega, by omega⟩ | (simp only [nz_c]; exact ⟨by omega, by omega⟩)) (by first | exact ⟨by omega, by omega⟩ | (simp only [nz_c]; exact ⟨by omega, by omega⟩)) (by first | exact g1 | (simp only [nz_c]; exact g1) | (rw [(nzE n85)]; exact g1) | (rw [(nzE n86)]; exact g1) | (rw [(nzE n85), (nzE n86)]; exact g1)) (by first | exact ⟨by omega, by omega⟩ | (simp only [nz_c]; exact ⟨by omega, by omega⟩)) (by first | exact ⟨by omega, by omega⟩ | (simp only [nz_c]; exact ⟨by omega, by omega⟩)) (by first | exact g2 | (simp only [nz_c]; exact g2) | (rw [(nzE n87)]; exact g2) | (rw [(nzE n88)]; exact g2) | (rw [(nzE n87), (nzE n88)]; exact g2)) (fun F1 g e82 e83 e84 => k2 g0 g1 g2 F1 (nz_in0 hB [] (fun j hj hn => g j hj (by simp only [List.mem_cons, List.not_mem_nil, or_false, not_or] at hn; exact trivial)) (List.forall_mem_nil _)) (fun j hj hn => g j hj (by simp only [List.mem_cons, List.not_mem_nil, or_false, not_or] at hn; exact trivial)) ((congrArg Int32.toInt (zz_i e82)).trans (rfl : (sy_i F 82).toInt = (sy_i F 82).toInt)) ((zz_i e82).trans (rfl : sy_i F 82 = sy_i F 82)) ((congrArg Int32.toInt (zz_i e83)).trans (rfl : (sy_i F 83).toInt = (sy_i F 83).toInt)) ((zz_i e83).trans (rfl : sy_i F 83 = sy_i F 83)) ((congrArg Int32.toInt (zz_i e84)).trans (nzE n89)) ((zz_i e84).trans (rfl : (sy_i F 84) + ((1 : Int32)) = (sy_i F 84) + ((1 : Int32)))))
  replace g2 : ((sy_ai F 27).getD ((sy_i F 84).toInt).toNat 0).toInt = ((sy_ai F 81).getD ((sy_i F 82).toInt).toNat 0).toInt := by omega
  have c18 := nz_bx hB (k := 18) (lo := 0) (hi := 7) rfl
  have q85 : (sy_ai F 25).getD (sy_i F 84).toNatClampNeg 0 = (sy_ai F 25).getD ((sy_i F 84).toInt).toNat 0 := by simp only [nz_c]
  have n85 : nzI ((sy_ai F 25).getD (sy_i F 84).toNatClampNeg 0) (((sy_ai F 25).getD ((sy_i F 84).toInt).toNat 0).toInt) := congrArg Int32.toInt q85
  have q86 : (sy_ai F 80).getD (sy_i F 82).toNatClampNeg 0 = (sy_ai F 80).getD ((sy_i F 82).toInt).toNat 0 := by simp only [nz_c]
  have n86 : nzI ((sy_ai F 80).getD (sy_i F 82).toNatClampNeg 0) (((sy_ai F 80).getD ((sy_i F 82).toInt).toNat 0).toInt) := congrArg Int32.toInt q86
  have q87 : (sy_ai F 27).getD (sy_i F 84).toNatClampNeg 0 = (sy_ai F 27).getD ((sy_i F 84).toInt).toNat 0 := by simp only [nz_c]
  have n87 : nzI ((sy_ai F 27).getD (sy_i F 84).toNatClampNeg 0) (((sy_ai F 27).getD ((sy_i F 84).toInt).toNat 0).toInt) := congrArg Int32.toInt q87
  have q88 : (sy_ai F 81).getD (sy_i F 82).toNatClampNeg 0 = (sy_ai F 81).getD ((sy_i F 82).toInt).toNat 0 := by simp only [nz_c]
  have n88 : nzI ((sy_ai F 81).getD (sy_i F 82).toNatClampNeg 0) (((sy_ai F 81).getD ((sy_i F 82).toInt).toNat 0).toInt) := congrArg Int32.toInt q88
  have n89 : nzI ((sy_i F 83) + ((1 : Int32))) (((sy_i F 83).toInt + 1)) := nz_add (rfl : (sy_i F 83).toInt = (sy_i F 83).toInt) (by decide : ((1 : Int32)).toInt = 1) (by omega) (by omega)
  have n90 : nzI ((sy_i F 84) + ((1 : Int32))) (((sy_i F 84).toInt + 1)) := nz_add (rfl : (sy_i F 84).toInt = (sy_i F 84).toInt) (by decide : ((1 : Int32)).toInt = 1) (by omega) (by omega)
  exact j3ft_5_p3 hd F X1 X2 hB (by first | exact g0 | (simp only [nz_c]; exact g0)) (by first | exact ⟨by omega, by omega⟩ | (simp only [nz_c]; exact ⟨by omega, by omega⟩)) (by first | exact ⟨by omega, by omega⟩ | (simp only [nz_c]; exact ⟨by omega, by omega⟩)) (by first | exact g1 | (simp only [nz_c]; exact g1) | (rw [(nzE n85)]; exact g1) | (rw [(nzE n86)]; exact g1) | (rw [(nzE n85), (nzE n86)]; exact g1)) (by first | exact ⟨by omega, by omega⟩ | (simp only [nz_c]; exact ⟨by omega, by omega⟩)) (by first | exact ⟨by omega, by omega⟩ | (simp only [nz_c]; exact ⟨by omega, by omega⟩)) (by first | exact g2 | (simp only [nz_c]; exact g2) | (rw [(nzE n87)]; exact g2) | (rw [(nzE n88)]; exact g2) | (rw [(nzE n87), (nzE n88)]; exact g2)) (fun F1 g e82 e83 e84 => k3 g0 g1 g2 F1 (nz_in0 hB [] (fun j hj hn => g j hj (by simp only [List.mem_cons, List.not_mem_nil, or_false, not_or] at hn; exact trivial)) (List.forall_mem_nil _)) (fun j hj hn => g j hj (by simp only [List.mem_cons, List.not_mem_nil, or_false, not_or] at hn; exact trivial)) ((congrArg Int32.toInt (zz_i e82)).trans (rfl : (sy_i F 82).toInt = (sy_i F 82).toInt)) ((zz_i e82).trans (rfl : sy_i F 82 = sy_i F 82)) ((congrArg Int32.toInt (zz_i e83)).trans (nzE n89)) ((zz_i e83).trans (rfl : (sy_i F 83) + ((1 : Int32)) = (sy_i F 83) + ((1 : Int32)))) ((congrArg Int32.toInt (zz_i e84)).trans (nzE n90)) ((zz_i e84).trans (rfl : (sy_i F 84) + ((1 : Int32)) = (sy_i F 84) + ((1 : Int32)))))
theorem j3ff_0_p0 {Ls : Nat} {xs : Nat → Int32} {d : Nat} {Q : Option Value → jm_h → Prop} (hd : 1 ≤ d) (F : Nat → sy_d) (X1 X2 : List jm_c) (hB : iv_in F iv_B0)
    (k : ∀ F1 : Nat → sy_d, (∀ j, j < 82 → True → F1 j = F j) → F1 82 = .inl (.int (sy_i F 82)) → F1 83 = .inl (.int ((0 : Int32))) → hd_W Ls xs d jm_M72 Q (2, sy_dL F1 [some (.inl (.ref 70)), some (.inl (.ref 20)), some (.inr (.inl 82)), some (.inr (.inl 83))], sy_dS F1 [], sy_dh F1 X1 X2 (iv_H 3), 0, 0)) :
    hd_W Ls xs d jm_M72 Q (0, sy_dL F [some (.inl (.ref 70)), some (.inl (.ref 20)), some (.inr (.inl 82)), none], sy_dS F [], sy_dh F X1 X2 (iv_H 3), 0, 0) := by
  refine hd_run (s := 3) (nv := 83) (pc := 2) (L := [some (.inl (.ref 70)), some (.inl (.ref 20)), some (.inr (.inl 82)), some (.inr (.inl 83))]) (S := []) (uh := hd_ov (iv_id 0 iv_B0) []) (ul := [.inl (.inr (.inl 82)), .inl (.inl (.int 0))]) (f := true) (sp := [2]) (d0 := 0) (O := []) (T := []) (P := []) jm_ok72 (by decide +kernel) (by decide +kernel) hd F X1 X2 (fun F' hF hs => ?_)
  have b82 := hd_b (F := F) (F' := F') (k := 82) (hF 82 (by decide))
  have hB' : iv_in F' iv_B0 := iv_in_eq hB (fun j hj => hF j (Nat.lt_of_lt_of_le hj (by decide +kernel)))
  refine ⟨fun _ h => absurd h List.not_mem_nil, ?_⟩
  refine k _ ?_ ?_ ?_
  · exact fun j hj _ => (hd_keep hB' (Nat.lt_of_lt_of_le hj (by decide +kernel)) (by simp)).trans (hF j (Nat.lt_of_lt_of_le hj (by decide)))
  · exact hd_gi (x := .inr (.inl 82)) (by decide +kernel) b82
  · exact hd_gi (x := .inl (.int 0)) (by decide +kernel) rfl
theorem j3ff_0 {Ls : Nat} {xs : Nat → Int32} {d : Nat} {Q : Option Value → jm_h → Prop} (hd : 1 ≤ d) (F : Nat → sy_d) (X1 X2 : List jm_c) (hB : iv_in F iv_B0)
    (k0 : ∀ F1 : Nat → sy_d, iv_in F1 iv_B0 → (∀ j, j < 82 → j ∉ ([] : List Nat) → F1 j = F j) → (sy_i F1 82).toInt = (sy_i F 82).toInt → sy_i F1 82 = sy_i F 82 → (sy_i F1 83).toInt = 0 → sy_i F1 83 = (0 : Int32) → hd_W Ls xs d jm_M72 Q (2, sy_dL F1 [some (.inl (.ref 70)), some (.inl (.ref 20)), some (.inr (.inl 82)), some (.inr (.inl 83))], sy_dS F1 [], sy_dh F1 X1 X2 (iv_H 3), 0, 0)) :
    hd_W Ls xs d jm_M72 Q (0, sy_dL F [some (.inl (.ref 70)), some (.inl (.ref 20)), some (.inr (.inl 82)), none], sy_dS F [], sy_dh F X1 X2 (iv_H 3), 0, 0) := by
  exact j3ff_0_p0 hd F X1 X2 hB  (fun F1 g e82 e83 => k0 F1 (nz_in0 hB [] (fun j hj hn => g j hj (by simp only [List.mem_cons, List.not_mem_nil, or_false, not_or] at hn; exact trivial)) (List.forall_mem_nil _)) (fun j hj hn => g j hj (by simp only [List.mem_cons, List.not_mem_nil, or_false, not_or] at hn; exact trivial)) ((congrArg Int32.toInt (zz_i e82)).trans (rfl : (sy_i F 82).toInt = (sy_i F 82).toInt)) ((zz_i e82).trans (rfl : sy_i F 82 = sy_i F 82)) ((congrArg Int32.toInt (zz_i e83)).trans (by decide : ((0 : Int32)).toInt = 0)) ((zz_i e83).trans (rfl : (0 : Int32) = (0 : Int32))))
theorem j3ff_2_p0 {Ls : Nat} {xs : Nat → Int32} {d : Nat} {Q : Option Value → jm_h → Prop} (hd : 2 ≤ d) (F : Nat → sy_d) (X1 X2 : List jm_c) (hB : iv_in F iv_B0)
    (h0 : (sy_i F 18).toInt ≤ (sy_i F 83).toInt)
    (k : ∀ F1 : Nat → sy_d, (∀ j, j < 82 → True → F1 j = F j) → Q (some (.int (((-2) : Int32)))) (sy_dh F1 X1 X2 (iv_H 3))) :
    hd_W Ls xs d jm_M72 Q (2, sy_dL F [some (.inl (.ref 70)), some (.inl (.ref 20)), some (.inr (.inl 82)), some (.inr (.inl 83))], sy_dS F [], sy_dh F X1 X2 (iv_H 3), 0, 0) := by
  refine hd_ret (s := 3) (nv := 84) (v := some (.inl (.int (-2)))) (uh := hd_ov (iv_id 0 iv_B0) []) (f := true) (sp := [2]) (d0 := 1) (O := [true]) (T := []) (P := [(4, .inr (.inl 18), .inr (.inl 83))]) jm_ok72 (by decide +kernel) (by decide +kernel) hd F X1 X2 (fun F' hF hs => ?_)
  have b18 := hd_b (F := F) (F' := F') (k := 18) (hF 18 (by decide))
  have b83 := hd_b (F := F) (F' := F') (k := 83) (hF 83 (by decide))
  have hB' : iv_in F' iv_B0 := iv_in_eq hB (fun j hj => hF j (Nat.lt_of_lt_of_le hj (by decide +kernel)))
  refine ⟨List.forall_mem_cons.mpr ⟨hd_p4 b18 b83 h0, fun _ h => absurd h List.not_mem_nil⟩, ?_⟩
  refine k _ ?_
  · exact fun j hj _ => (hd_keep hB' (Nat.lt_of_lt_of_le hj (by decide +kernel)) (by simp)).trans (hF j (Nat.lt_of_lt_of_le hj (by decide)))
theorem j3ff_2_p1 {Ls : Nat} {xs : Nat → Int32} {d : Nat} {Q : Option Value → jm_h → Prop} (hd : 2 ≤ d) (F : Nat → sy_d) (X1 X2 : List jm_c) (hB : iv_in F iv_B0)
    (h0 : (sy_i F 83).toInt < (sy_i F 18).toInt)
    (h1 : 0 ≤ (sy_i F 83).toInt ∧ (sy_i F 83).toInt < 7)
    (h2 : 0 ≤ (sy_i F 82).toInt ∧ (sy_i F 82).toInt < 7)
    (h3 : ((sy_ai F 25).getD (sy_i F 83).toNatClampNeg 0).toInt ≠ ((sy_ai F 80).getD (sy_i F 82).toNatClampNeg 0).toInt)
    (k : ∀ F1 : Nat → sy_d, (∀ j, j < 82 → True → F1 j = F j) → F1 82 = .inl (.int (sy_i F 82)) → F1 83 = .inl (.int ((sy_i F 83) + ((1 : Int32)))) → hd_W Ls xs d jm_M72 Q (2, sy_dL F1 [some (.inl (.ref 70)), some (.inl (.ref 20)), some (.inr (.inl 82)), some (.inr (.inl 83))], sy_dS F1 [], sy_dh F1 X1 X2 (iv_H 3), 0, 0)) :
    hd_W Ls xs d jm_M72 Q (2, sy_dL F [some (.inl (.ref 70)), some (.inl (.ref 20)), some (.inr (.inl 82)), some (.inr (.inl 83))], sy_dS F [], sy_dh F X1 X2 (iv_H 3), 0, 0) := by
  refine hd_run (s := 3) (nv := 84) (pc := 2) (L := [some (.inl (.ref 70)), some (.inl (.ref 20)), some (.inr (.inl 82)), some (.inr (.inl 83))]) (S := []) (uh := hd_ov (iv_id 0 iv_B0) []) (ul := [.inl (.inr (.inl 82)), .inl (.inr (.inl 86))]) (f := true) (sp := [2]) (d0 := 1) (O := [false, true]) (T := [(30, [.inr (.inl 83)], [.inr (.inl 25)]), (30, [.inr (.inl 82)], [.inr (.inl 80)]), (0, [.inr (.inl 83), .inl (.int 1)], [])]) (P := [(5, .inr (.inl 18), .inr (.inl 83)), (6, .inr (.inl 83), .inl (.ref 7)), (6, .inr (.inl 82), .inl (.ref 7)), (1, .inr (.inl 84), .inr (.inl 85))]) jm_ok72 (by decide +kernel) (by decide +kernel) hd F X1 X2 (fun F' hF hs => ?_)
  have b18 := hd_b (F := F) (F' := F') (k := 18) (hF 18 (by decide))
  have b83 := hd_b (F := F) (F' := F') (k := 83) (hF 83 (by decide))
  have b82 := hd_b (F := F) (F' := F') (k := 82) (hF 82 (by decide))
  have a25 := hd_ba (F := F) (F' := F') (k := 25) (hF 25 (by decide))
  have t84 : sy_dv F' (.inr (.inl 84)) = .int ((sy_ai F 25).getD (sy_i F 83).toNatClampNeg 0) := hd_rd (hs 0 _ rfl) b83 a25
  have a80 := hd_ba (F := F) (F' := F') (k := 80) (hF 80 (by decide))
  have t85 : sy_dv F' (.inr (.inl 85)) = .int ((sy_ai F 80).getD (sy_i F 82).toNatClampNeg 0) := hd_rd (hs 1 _ rfl) b82 a80
  have t86 : sy_dv F' (.inr (.inl 86)) = .int ((sy_i F 83) + ((1 : Int32))) := hd_o (hs 2 _ rfl) b83 rfl rfl
  have hB' : iv_in F' iv_B0 := iv_in_eq hB (fun j hj => hF j (Nat.lt_of_lt_of_le hj (by decide +kernel)))
  refine ⟨List.forall_mem_cons.mpr ⟨hd_p5 b18 b83 h0, List.forall_mem_cons.mpr ⟨hd_pb b83 (by first | exact h1 | exact h1), List.forall_mem_cons.mpr ⟨hd_pb b82 (by first | exact h2 | exact h2), List.forall_mem_cons.mpr ⟨hd_p1 t84 t85 h3, fun _ h => absurd h List.not_mem_nil⟩⟩⟩⟩, ?_⟩
  refine k _ ?_ ?_ ?_
  · exact fun j hj _ => (hd_keep hB' (Nat.lt_of_lt_of_le hj (by decide +kernel)) (by simp)).trans (hF j (Nat.lt_of_lt_of_le hj (by decide)))
  · exact hd_gi (x := .inr (.inl 82)) (by decide +kernel) b82
  · exact hd_gi (x := .inr (.inl 86)) (by decide +kernel) t86
theorem j3ff_2_p2 {Ls : Nat} {xs : Nat → Int32} {d : Nat} {Q : Option Value → jm_h → Prop} (hd : 2 ≤ d) (F : Nat → sy_d) (X1 X2 : List jm_c) (hB : iv_in F iv_B0)
    (h0 : (sy_i F 83).toInt < (sy_i F 18).toInt)
    (h1 : 0 ≤ (sy_i F 83).toInt ∧ (sy_i F 83).toInt < 7)
    (h2 : 0 ≤ (sy_i F 82).toInt ∧ (sy_i F 82).toInt < 7)
    (h3 : ((sy_ai F 25).getD (sy_i F 83).toNatClampNeg 0).toInt = ((sy_ai F 80).getD (sy_i F 82).toNatClampNeg 0).toInt)
    (h4 : 0 ≤ (sy_i F 83).toInt ∧ (sy_i F 83).toInt < 7)
    (h5 : 0 ≤ (sy_i F 82).toInt ∧ (sy_i F 82).toInt < 7)
    (h6 : ((sy_ai F 27).getD (sy_i F 83).toNatClampNeg 0).toInt ≠ ((sy_ai F 81).getD (sy_i F 82).toNatClampNeg 0).toInt)
    (k : ∀ F1 : Nat → sy_d, (∀ j, j < 82 → True → F1 j = F j) → F1 82 = .inl (.int (sy_i F 82)) → F1 83 = .inl (.int ((sy_i F 83) + ((1 : Int32)))) → hd_W Ls xs d jm_M72 Q (2, sy_dL F1 [some (.inl (.ref 70)), some (.inl (.ref 20)), some (.inr (.inl 82)), some (.inr (.inl 83))], sy_dS F1 [], sy_dh F1 X1 X2 (iv_H 3), 0, 0)) :
    hd_W Ls xs d jm_M72 Q (2, sy_dL F [some (.inl (.ref 70)), some (.inl (.ref 20)), some (.inr (.inl 82)), some (.inr (.inl 83))], sy_dS F [], sy_dh F X1 X2 (iv_H 3), 0, 0) := by
  refine hd_run (s := 3) (nv := 84) (pc := 2) (L := [some (.inl (.ref 70)), some (.inl (.ref 20)), some (.inr (.inl 82)), some (.inr (.inl 83))]) (S := []) (uh := hd_ov (iv_id 0 iv_B0) []) (ul := [.inl (.inr (.inl 82)), .inl (.inr (.inl 88))]) (f := true) (sp := [2]) (d0 := 1) (O := [false, false, true]) (T := [(30, [.inr (.inl 83)], [.inr (.inl 25)]), (30, [.inr (.inl 82)], [.inr (.inl 80)]), (30, [.inr (.inl 83)], [.inr (.inl 27)]), (30, [.inr (.inl 82)], [.inr (.inl 81)]), (0, [.inr (.inl 83), .inl (.int 1)], [])]) (P := [(5, .inr (.inl 18), .inr (.inl 83)), (6, .inr (.inl 83), .inl (.ref 7)), (6, .inr (.inl 82), .inl (.ref 7)), (0, .inr (.inl 84), .inr (.inl 85)), (6, .inr (.inl 83), .inl (.ref 7)), (6, .inr (.inl 82), .inl (.ref 7)), (1, .inr (.inl 86), .inr (.inl 87))]) jm_ok72 (by decide +kernel) (by decide +kernel) hd F X1 X2 (fun F' hF hs => ?_)
  have b18 := hd_b (F := F) (F' := F') (k := 18) (hF 18 (by decide))
  have b83 := hd_b (F := F) (F' := F') (k := 83) (hF 83 (by decide))
  have b82 := hd_b (F := F) (F' := F') (k := 82) (hF 82 (by decide))
  have a25 := hd_ba (F := F) (F' := F') (k := 25) (hF 25 (by decide))
  have t84 : sy_dv F' (.inr (.inl 84)) = .int ((sy_ai F 25).getD (sy_i F 83).toNatClampNeg 0) := hd_rd (hs 0 _ rfl) b83 a25
  have a80 := hd_ba (F := F) (F' := F') (k := 80) (hF 80 (by decide))
  have t85 : sy_dv F' (.inr (.inl 85)) = .int ((sy_ai F 80).getD (sy_i F 82).toNatClampNeg 0) := hd_rd (hs 1 _ rfl) b82 a80
  have a27 := hd_ba (F := F) (F' := F') (k := 27) (hF 27 (by decide))
  have t86 : sy_dv F' (.inr (.inl 86)) = .int ((sy_ai F 27).getD (sy_i F 83).toNatClampNeg 0) := hd_rd (hs 2 _ rfl) b83 a27
  have a81 := hd_ba (F := F) (F' := F') (k := 81) (hF 81 (by decide))
  have t87 : sy_dv F' (.inr (.inl 87)) = .int ((sy_ai F 81).getD (sy_i F 82).toNatClampNeg 0) := hd_rd (hs 3 _ rfl) b82 a81
  have t88 : sy_dv F' (.inr (.inl 88)) = .int ((sy_i F 83) + ((1 : Int32))) := hd_o (hs 4 _ rfl) b83 rfl rfl
  have hB' : iv_in F' iv_B0 := iv_in_eq hB (fun j hj => hF j (Nat.lt_of_lt_of_le hj (by decide +kernel)))
  refine ⟨List.forall_mem_cons.mpr ⟨hd_p5 b18 b83 h0, List.forall_mem_cons.mpr ⟨hd_pb b83 (by first | exact h1 | exact h1), List.forall_mem_cons.mpr ⟨hd_pb b82 (by first | exact h2 | exact h2), List.forall_mem_cons.mpr ⟨hd_p0 t84 t85 h3, List.forall_mem_cons.mpr ⟨hd_pb b83 (by first | exact h4 | exact h4), List.forall_mem_cons.mpr ⟨hd_pb b82 (by first | exact h5 | exact h5), List.forall_mem_cons.mpr ⟨hd_p1 t86 t87 h6, fun _ h => absurd h List.not_mem_nil⟩⟩⟩⟩⟩⟩⟩, ?_⟩
  refine k _ ?_ ?_ ?_
  · exact fun j hj _ => (hd_keep hB' (Nat.lt_of_lt_of_le hj (by decide +kernel)) (by simp)).trans (hF j (Nat.lt_of_lt_of_le hj (by decide)))
  · exact hd_gi (x := .inr (.inl 82)) (by decide +kernel) b82
  · exact hd_gi (x := .inr (.inl 88)) (by decide +kernel) t88
theorem j3ff_2_p3 {Ls : Nat} {xs : Nat → Int32} {d : Nat} {Q : Option Value → jm_h → Prop} (hd : 2 ≤ d) (F : Nat → sy_d) (X1 X2 : List jm_c) (hB : iv_in F iv_B0)
    (h0 : (sy_i F 83).toInt < (sy_i F 18).toInt)
    (h1 : 0 ≤ (sy_i F 83).toInt ∧ (sy_i F 83).toInt < 7)
    (h2 : 0 ≤ (sy_i F 82).toInt ∧ (sy_i F 82).toInt < 7)
    (h3 : ((sy_ai F 25).getD (sy_i F 83).toNatClampNeg 0).toInt = ((sy_ai F 80).getD (sy_i F 82).toNatClampNeg 0).toInt)
    (h4 : 0 ≤ (sy_i F 83).toInt ∧ (sy_i F 83).toInt < 7)
    (h5 : 0 ≤ (sy_i F 82).toInt ∧ (sy_i F 82).toInt < 7)
    (h6 : ((sy_ai F 27).getD (sy_i F 83).toNatClampNeg 0).toInt = ((sy_ai F 81).getD (sy_i F 82).toNatClampNeg 0).toInt)
    (k : ∀ F1 : Nat → sy_d, (∀ j, j < 82 → True → F1 j = F j) → Q (some (.int (sy_i F 83))) (sy_dh F1 X1 X2 (iv_H 3))) :
    hd_W Ls xs d jm_M72 Q (2, sy_dL F [some (.inl (.ref 70)), some (.inl (.ref 20)), some (.inr (.inl 82)), some (.inr (.inl 83))], sy_dS F [], sy_dh F X1 X2 (iv_H 3), 0, 0) := by
  refine hd_ret (s := 3) (nv := 84) (v := some (.inr (.inl 83))) (uh := hd_ov (iv_id 0 iv_B0) []) (f := true) (sp := [2]) (d0 := 1) (O := [false, false, false]) (T := [(30, [.inr (.inl 83)], [.inr (.inl 25)]), (30, [.inr (.inl 82)], [.inr (.inl 80)]), (30, [.inr (.inl 83)], [.inr (.inl 27)]), (30, [.inr (.inl 82)], [.inr (.inl 81)])]) (P := [(5, .inr (.inl 18), .inr (.inl 83)), (6, .inr (.inl 83), .inl (.ref 7)), (6, .inr (.inl 82), .inl (.ref 7)), (0, .inr (.inl 84), .inr (.inl 85)), (6, .inr (.inl 83), .inl (.ref 7)), (6, .inr (.inl 82), .inl (.ref 7)), (0, .inr (.inl 86), .inr (.inl 87))]) jm_ok72 (by decide +kernel) (by decide +kernel) hd F X1 X2 (fun F' hF hs => ?_)
  have b18 := hd_b (F := F) (F' := F') (k := 18) (hF 18 (by decide))
  have b83 := hd_b (F := F) (F' := F') (k := 83) (hF 83 (by decide))
  have b82 := hd_b (F := F) (F' := F') (k := 82) (hF 82 (by decide))
  have a25 := hd_ba (F := F) (F' := F') (k := 25) (hF 25 (by decide))
  have t84 : sy_dv F' (.inr (.inl 84)) = .int ((sy_ai F 25).getD (sy_i F 83).toNatClampNeg 0) := hd_rd (hs 0 _ rfl) b83 a25
  have a80 := hd_ba (F := F) (F' := F') (k := 80) (hF 80 (by decide))
  have t85 : sy_dv F' (.inr (.inl 85)) = .int ((sy_ai F 80).getD (sy_i F 82).toNatClampNeg 0) := hd_rd (hs 1 _ rfl) b82 a80
  have a27 := hd_ba (F := F) (F' := F') (k := 27) (hF 27 (by decide))
  have t86 : sy_dv F' (.inr (.inl 86)) = .int ((sy_ai F 27).getD (sy_i F 83).toNatClampNeg 0) := hd_rd (hs 2 _ rfl) b83 a27
  have a81 := hd_ba (F := F) (F' := F') (k := 81) (hF 81 (by decide))
  have t87 : sy_dv F' (.inr (.inl 87)) = .int ((sy_ai F 81).getD (sy_i F 82).toNatClampNeg 0) := hd_rd (hs 3 _ rfl) b82 a81
  have hB' : iv_in F' iv_B0 := iv_in_eq hB (fun j hj => hF j (Nat.lt_of_lt_of_le hj (by decide +kernel)))
  have hk := k (sy_cm F' (hd_ov (iv_id 0 iv_B0) [] ++ [])) (fun j hj _ => (hd_keep hB' (Nat.lt_of_lt_of_le hj (by decide +kernel)) (by simp)).trans (hF j (Nat.lt_of_lt_of_le hj (by decide))))
  refine ⟨List.forall_mem_cons.mpr ⟨hd_p5 b18 b83 h0, List.forall_mem_cons.mpr ⟨hd_pb b83 (by first | exact h1 | exact h1), List.forall_mem_cons.mpr ⟨hd_pb b82 (by first | exact h2 | exact h2), List.forall_mem_cons.mpr ⟨hd_p0 t84 t85 h3, List.forall_mem_cons.mpr ⟨hd_pb b83 (by first | exact h4 | exact h4), List.forall_mem_cons.mpr ⟨hd_pb b82 (by first | exact h5 | exact h5), List.forall_mem_cons.mpr ⟨hd_p0 t86 t87 h6, fun _ h => absurd h List.not_mem_nil⟩⟩⟩⟩⟩⟩⟩, ?_⟩
  show Q (some (sy_dv F' (.inr (.inl 83)))) _
  rw [b83]
  exact hk
theorem j3ff_2 {Ls : Nat} {xs : Nat → Int32} {d : Nat} {Q : Option Value → jm_h → Prop} (hd : 2 ≤ d) (F : Nat → sy_d) (X1 X2 : List jm_c) (hB : iv_in F iv_B0)
    (a82 : 0 ≤ (sy_i F 82).toInt ∧ (sy_i F 82).toInt ≤ 6)
    (a83 : 0 ≤ (sy_i F 83).toInt ∧ (sy_i F 83).toInt ≤ 7)
    (k0 : (sy_i F 18).toInt ≤ (sy_i F 83).toInt → ∀ F1 : Nat → sy_d, iv_in F1 iv_B0 → (∀ j, j < 82 → j ∉ ([] : List Nat) → F1 j = F j) → Q (some (.int (((-2) : Int32)))) (sy_dh F1 X1 X2 (iv_H 3)))
    (k1 : (sy_i F 83).toInt < (sy_i F 18).toInt → ((sy_ai F 25).getD ((sy_i F 83).toInt).toNat 0).toInt ≠ ((sy_ai F 80).getD ((sy_i F 82).toInt).toNat 0).toInt → ∀ F1 : Nat → sy_d, iv_in F1 iv_B0 → (∀ j, j < 82 → j ∉ ([] : List Nat) → F1 j = F j) → (sy_i F1 82).toInt = (sy_i F 82).toInt → sy_i F1 82 = sy_i F 82 → (sy_i F1 83).toInt = ((sy_i F 83).toInt + 1) → sy_i F1 83 = (sy_i F 83) + ((1 : Int32)) → hd_W Ls xs d jm_M72 Q (2, sy_dL F1 [some (.inl (.ref 70)), some (.inl (.ref 20)), some (.inr (.inl 82)), some (.inr (.inl 83))], sy_dS F1 [], sy_dh F1 X1 X2 (iv_H 3), 0, 0))
    (k2 : (sy_i F 83).toInt < (sy_i F 18).toInt → ((sy_ai F 25).getD ((sy_i F 83).toInt).toNat 0).toInt = ((sy_ai F 80).getD ((sy_i F 82).toInt).toNat 0).toInt → ((sy_ai F 27).getD ((sy_i F 83).toInt).toNat 0).toInt ≠ ((sy_ai F 81).getD ((sy_i F 82).toInt).toNat 0).toInt → ∀ F1 : Nat → sy_d, iv_in F1 iv_B0 → (∀ j, j < 82 → j ∉ ([] : List Nat) → F1 j = F j) → (sy_i F1 82).toInt = (sy_i F 82).toInt → sy_i F1 82 = sy_i F 82 → (sy_i F1 83).toInt = ((sy_i F 83).toInt + 1) → sy_i F1 83 = (sy_i F 83) + ((1 : Int32)) → hd_W Ls xs d jm_M72 Q (2, sy_dL F1 [some (.inl (.ref 70)), some (.inl (.ref 20)), some (.inr (.inl 82)), some (.inr (.inl 83))], sy_dS F1 [], sy_dh F1 X1 X2 (iv_H 3), 0, 0))
    (k3 : (sy_i F 83).toInt < (sy_i F 18).toInt → ((sy_ai F 25).getD ((sy_i F 83).toInt).toNat 0).toInt = ((sy_ai F 80).getD ((sy_i F 82).toInt).toNat 0).toInt → ((sy_ai F 27).getD ((sy_i F 83).toInt).toNat 0).toInt = ((sy_ai F 81).getD ((sy_i F 82).toInt).toNat 0).toInt → ∀ F1 : Nat → sy_d, iv_in F1 iv_B0 → (∀ j, j < 82 → j ∉ ([] : List Nat) → F1 j = F j) → Q (some (.int (sy_i F 83))) (sy_dh F1 X1 X2 (iv_H 3))) :
    hd_W Ls xs d jm_M72 Q (2, sy_dL F [some (.inl (.ref 70)), some (.inl (.ref 20)), some (.inr (.inl 82)), some (.inr (.inl 83))], sy_dS F [], sy_dh F X1 X2 (iv_H 3), 0, 0) := by
  by_cases g0 : (sy_i F 18).toInt ≤ (sy_i F 83).toInt
  · have c18 := nz_bx hB (k := 18) (lo := 0) (hi := 7) rfl
    exact j3ff_2_p0 hd F X1 X2 hB (by first | exact g0 | (simp only [nz_c]; exact g0)) (fun F1 g  => k0 g0 F1 (nz_in0 hB [] (fun j hj hn => g j hj (by simp only [List.mem_cons, List.not_mem_nil, or_false, not_or] at hn; exact trivial)) (List.forall_mem_nil _)) (fun j hj hn => g j hj (by simp only [List.mem_cons, List.not_mem_nil, or_false, not_or] at hn; exact trivial)) )
  replace g0 : (sy_i F 83).toInt < (sy_i F 18).toInt := by omega
  by_cases g1 : ((sy_ai F 25).getD ((sy_i F 83).toInt).toNat 0).toInt ≠ ((sy_ai F 80).getD ((sy_i F 82).toInt).toNat 0).toInt
  · have c18 := nz_bx hB (k := 18) (lo := 0) (hi := 7) rfl
    have q84 : (sy_ai F 25).getD (sy_i F 83).toNatClampNeg 0 = (sy_ai F 25).getD ((sy_i F 83).toInt).toNat 0 := by simp only [nz_c]
    have n84 : nzI ((sy_ai F 25).getD (sy_i F 83).toNatClampNeg 0) (((sy_ai F 25).getD ((sy_i F 83).toInt).toNat 0).toInt) := congrArg Int32.toInt q84
    have q85 : (sy_ai F 80).getD (sy_i F 82).toNatClampNeg 0 = (sy_ai F 80).getD ((sy_i F 82).toInt).toNat 0 := by simp only [nz_c]
    have n85 : nzI ((sy_ai F 80).getD (sy_i F 82).toNatClampNeg 0) (((sy_ai F 80).getD ((sy_i F 82).toInt).toNat 0).toInt) := congrArg Int32.toInt q85
    have n86 : nzI ((sy_i F 83) + ((1 : Int32))) (((sy_i F 83).toInt + 1)) := nz_add (rfl : (sy_i F 83).toInt = (sy_i F 83).toInt) (by decide : ((1 : Int32)).toInt = 1) (by omega) (by omega)
    exact j3ff_2_p1 hd F X1 X2 hB (by first | exact g0 | (simp only [nz_c]; exact g0)) (by first | exact ⟨by omega, by omega⟩ | (simp only [nz_c]; exact ⟨by omega, by omega⟩)) (by first | exact ⟨by omega, by omega⟩ | (simp only [nz_c]; exact ⟨by omega, by omega⟩)) (by first | exact g1 | (simp only [nz_c]; exact g1) | (rw [(nzE n84)]; exact g1) | (rw [(nzE n85)]; exact g1) | (rw [(nzE n84), (nzE n85)]; exact g1)) (fun F1 g e82 e83 => k1 g0 g1 F1 (nz_in0 hB [] (fun j hj hn => g j hj (by simp only [List.mem_cons, List.not_mem_nil, or_false, not_or] at hn; exact trivial)) (List.forall_mem_nil _)) (fun j hj hn => g j hj (by simp only [List.mem_cons, List.not_mem_nil, or_false, not_or] at hn; exact trivial)) ((congrArg Int32.toInt (zz_i e82)).trans (rfl : (sy_i F 82).toInt = (sy_i F 82).toInt)) ((zz_i e82).trans (rfl : sy_i F 82 = sy_i F 82)) ((congrArg Int32.toInt (zz_i e83)).trans (nzE n86)) ((zz_i e83).trans (rfl : (sy_i F 83) + ((1 : Int32)) = (sy_i F 83) + ((1 : Int32)))))
  replace g1 : ((sy_ai F 25).getD ((sy_i F 83).toInt).toNat 0).toInt = ((sy_ai F 80).getD ((sy_i F 82).toInt).toNat 0).toInt := by omega
  by_cases g2 : ((sy_ai F 27).getD ((sy_i F 83).toInt).toNat 0).toInt ≠ ((sy_ai F 81).getD ((sy_i F 82).toInt).toNat 0).toInt
  · have c18 := nz_bx hB (k := 18) (lo := 0) (hi := 7) rfl
    have q84 : (sy_ai F 25).getD (sy_i F 83).toNatClampNeg 0 = (sy_ai F 25).getD ((sy_i F 83).toInt).toNat 0 := by simp only [nz_c]
    have n84 : nzI ((sy_ai F 25).getD (sy_i F 83).toNatClampNeg 0) (((sy_ai F 25).getD ((sy_i F 83).toInt).toNat 0).toInt) := congrArg Int32.toInt q84
    have q85 : (sy_ai F 80).getD (sy_i F 82).toNatClampNeg 0 = (sy_ai F 80).getD ((sy_i F 82).toInt).toNat 0 := by simp only [nz_c]
    have n85 : nzI ((sy_ai F 80).getD (sy_i F 82).toNatClampNeg 0) (((sy_ai F 80).getD ((sy_i F 82).toInt).toNat 0).toInt) := congrArg Int32.toInt q85
    have q86 : (sy_ai F 27).getD (sy_i F 83).toNatClampNeg 0 = (sy_ai F 27).getD ((sy_i F 83).toInt).toNat 0 := by simp only [nz_c]
    have n86 : nzI ((sy_ai F 27).getD (sy_i F 83).toNatClampNeg 0) (((sy_ai F 27).getD ((sy_i F 83).toInt).toNat 0).toInt) := congrArg Int32.toInt q86
    have q87 : (sy_ai F 81).getD (sy_i F 82).toNatClampNeg 0 = (sy_ai F 81).getD ((sy_i F 82).toInt).toNat 0 := by simp only [nz_c]
    have n87 : nzI ((sy_ai F 81).getD (sy_i F 82).toNatClampNeg 0) (((sy_ai F 81).getD ((sy_i F 82).toInt).toNat 0).toInt) := congrArg Int32.toInt q87
    have n88 : nzI ((sy_i F 83) + ((1 : Int32))) (((sy_i F 83).toInt + 1)) := nz_add (rfl : (sy_i F 83).toInt = (sy_i F 83).toInt) (by decide : ((1 : Int32)).toInt = 1) (by omega) (by omega)
    exact j3ff_2_p2 hd F X1 X2 hB (by first | exact g0 | (simp only [nz_c]; exact g0)) (by first | exact ⟨by omega, by omega⟩ | (simp only [nz_c]; exact ⟨by omega, by omega⟩)) (by first | exact ⟨by omega, by omega⟩ | (simp only [nz_c]; exact ⟨by omega, by omega⟩)) (by first | exact g1 | (simp only [nz_c]; exact g1) | (rw [(nzE n84)]; exact g1) | (rw [(nzE n85)]; exact g1) | (rw [(nzE n84), (nzE n85)]; exact g1)) (by first | exact ⟨by omega, by omega⟩ | (simp only [nz_c]; exact ⟨by omega, by omega⟩)) (by first | exact ⟨by omega, by omega⟩ | (simp only [nz_c]; exact ⟨by omega, by omega⟩)) (by first | exact g2 | (simp only [nz_c]; exact g2) | (rw [(nzE n86)]; exact g2) | (rw [(nzE n87)]; exact g2) | (rw [(nzE n86), (nzE n87)]; exact g2)) (fun F1 g e82 e83 => k2 g0 g1 g2 F1 (nz_in0 hB [] (fun j hj hn => g j hj (by simp only [List.mem_cons, List.not_mem_nil, or_false, not_or] at hn; exact trivial)) (List.forall_mem_nil _)) (fun j hj hn => g j hj (by simp only [List.mem_cons, List.not_mem_nil, or_false, not_or] at hn; exact trivial)) ((congrArg Int32.toInt (zz_i e82)).trans (rfl : (sy_i F 82).toInt = (sy_i F 82).toInt)) ((zz_i e82).trans (rfl : sy_i F 82 = sy_i F 82)) ((congrArg Int32.toInt (zz_i e83)).trans (nzE n88)) ((zz_i e83).trans (rfl : (sy_i F 83) + ((1 : Int32)) = (sy_i F 83) + ((1 : Int32)))))
  replace g2 : ((sy_ai F 27).getD ((sy_i F 83).toInt).toNat 0).toInt = ((sy_ai F 81).getD ((sy_i F 82).toInt).toNat 0).toInt := by omega
  have c18 := nz_bx hB (k := 18) (lo := 0) (hi := 7) rfl
  have q84 : (sy_ai F 25).getD (sy_i F 83).toNatClampNeg 0 = (sy_ai F 25).getD ((sy_i F 83).toInt).toNat 0 := by simp only [nz_c]
  have n84 : nzI ((sy_ai F 25).getD (sy_i F 83).toNatClampNeg 0) (((sy_ai F 25).getD ((sy_i F 83).toInt).toNat 0).toInt) := congrArg Int32.toInt q84
  have q85 : (sy_ai F 80).getD (sy_i F 82).toNatClampNeg 0 = (sy_ai F 80).getD ((sy_i F 82).toInt).toNat 0 := by simp only [nz_c]
  have n85 : nzI ((sy_ai F 80).getD (sy_i F 82).toNatClampNeg 0) (((sy_ai F 80).getD ((sy_i F 82).toInt).toNat 0).toInt) := congrArg Int32.toInt q85
  have q86 : (sy_ai F 27).getD (sy_i F 83).toNatClampNeg 0 = (sy_ai F 27).getD ((sy_i F 83).toInt).toNat 0 := by simp only [nz_c]
  have n86 : nzI ((sy_ai F 27).getD (sy_i F 83).toNatClampNeg 0) (((sy_ai F 27).getD ((sy_i F 83).toInt).toNat 0).toInt) := congrArg Int32.toInt q86
  have q87 : (sy_ai F 81).getD (sy_i F 82).toNatClampNeg 0 = (sy_ai F 81).getD ((sy_i F 82).toInt).toNat 0 := by simp only [nz_c]
  have n87 : nzI ((sy_ai F 81).getD (sy_i F 82).toNatClampNeg 0) (((sy_ai F 81).getD ((sy_i F 82).toInt).toNat 0).toInt) := congrArg Int32.toInt q87
  exact j3ff_2_p3 hd F X1 X2 hB (by first | exact g0 | (simp only [nz_c]; exact g0)) (by first | exact ⟨by omega, by omega⟩ | (simp only [nz_c]; exact ⟨by omega, by omega⟩)) (by first | exact ⟨by omega, by omega⟩ | (simp only [nz_c]; exact ⟨by omega, by omega⟩)) (by first | exact g1 | (simp only [nz_c]; exact g1) | (rw [(nzE n84)]; exact g1) | (rw [(nzE n85)]; exact g1) | (rw [(nzE n84), (nzE n85)]; exact g1)) (by first | exact ⟨by omega, by omega⟩ | (simp only [nz_c]; exact ⟨by omega, by omega⟩)) (by first | exact ⟨by omega, by omega⟩ | (simp only [nz_c]; exact ⟨by omega, by omega⟩)) (by first | exact g2 | (simp only [nz_c]; exact g2) | (rw [(nzE n86)]; exact g2) | (rw [(nzE n87)]; exact g2) | (rw [(nzE n86), (nzE n87)]; exact g2)) (fun F1 g  => by rw [(rfl : sy_i F 83 = sy_i F 83)]; exact k3 g0 g1 g2 F1 (nz_in0 hB [] (fun j hj hn => g j hj (by simp only [List.mem_cons, List.not_mem_nil, or_false, not_or] at hn; exact trivial)) (List.forall_mem_nil _)) (fun j hj hn => g j hj (by simp only [List.mem_cons, List.not_mem_nil, or_false, not_or] at hn; exact trivial)) )
theorem j3al_0_p0 {Ls : Nat} {xs : Nat → Int32} {d : Nat} {Q : Option Value → jm_h → Prop} (hd : 1 ≤ d) (F : Nat → sy_d) (X1 X2 : List jm_c) (hB : iv_in F iv_B0)
    (k : ∀ F1 : Nat → sy_d, (∀ j, j < 82 → True → F1 j = F j) → F1 82 = .inl (.int (sy_i F 82)) → F1 83 = .inl (.int ((0 : Int32))) → F1 84 = .inl (.int ((0 : Int32))) → hd_W Ls xs d jm_M75 Q (4, sy_dL F1 [some (.inl (.ref 70)), some (.inr (.inl 82)), some (.inr (.inl 83)), some (.inr (.inl 84))], sy_dS F1 [], sy_dh F1 X1 X2 (iv_H 3), 0, 0)) :
    hd_W Ls xs d jm_M75 Q (0, sy_dL F [some (.inl (.ref 70)), some (.inr (.inl 82)), none, none], sy_dS F [], sy_dh F X1 X2 (iv_H 3), 0, 0) := by
  refine hd_run (s := 3) (nv := 83) (pc := 4) (L := [some (.inl (.ref 70)), some (.inr (.inl 82)), some (.inr (.inl 83)), some (.inr (.inl 84))]) (S := []) (uh := hd_ov (iv_id 0 iv_B0) []) (ul := [.inl (.inr (.inl 82)), .inl (.inl (.int 0)), .inl (.inl (.int 0))]) (f := true) (sp := [4]) (d0 := 0) (O := []) (T := []) (P := []) jm_ok75 (by decide +kernel) (by decide +kernel) hd F X1 X2 (fun F' hF hs => ?_)
  have b82 := hd_b (F := F) (F' := F') (k := 82) (hF 82 (by decide))
  have hB' : iv_in F' iv_B0 := iv_in_eq hB (fun j hj => hF j (Nat.lt_of_lt_of_le hj (by decide +kernel)))
  refine ⟨fun _ h => absurd h List.not_mem_nil, ?_⟩
  refine k _ ?_ ?_ ?_ ?_
  · exact fun j hj _ => (hd_keep hB' (Nat.lt_of_lt_of_le hj (by decide +kernel)) (by simp)).trans (hF j (Nat.lt_of_lt_of_le hj (by decide)))
  · exact hd_gi (x := .inr (.inl 82)) (by decide +kernel) b82
  · exact hd_gi (x := .inl (.int 0)) (by decide +kernel) rfl
  · exact hd_gi (x := .inl (.int 0)) (by decide +kernel) rfl
theorem j3al_0 {Ls : Nat} {xs : Nat → Int32} {d : Nat} {Q : Option Value → jm_h → Prop} (hd : 1 ≤ d) (F : Nat → sy_d) (X1 X2 : List jm_c) (hB : iv_in F iv_B0)
    (k0 : ∀ F1 : Nat → sy_d, iv_in F1 iv_B0 → (∀ j, j < 82 → j ∉ ([] : List Nat) → F1 j = F j) → (sy_i F1 82).toInt = (sy_i F 82).toInt → sy_i F1 82 = sy_i F 82 → (sy_i F1 83).toInt = 0 → sy_i F1 83 = (0 : Int32) → (sy_i F1 84).toInt = 0 → sy_i F1 84 = (0 : Int32) → hd_W Ls xs d jm_M75 Q (4, sy_dL F1 [some (.inl (.ref 70)), some (.inr (.inl 82)), some (.inr (.inl 83)), some (.inr (.inl 84))], sy_dS F1 [], sy_dh F1 X1 X2 (iv_H 3), 0, 0)) :
    hd_W Ls xs d jm_M75 Q (0, sy_dL F [some (.inl (.ref 70)), some (.inr (.inl 82)), none, none], sy_dS F [], sy_dh F X1 X2 (iv_H 3), 0, 0) := by
  exact j3al_0_p0 hd F X1 X2 hB  (fun F1 g e82 e83 e84 => k0 F1 (nz_in0 hB [] (fun j hj hn => g j hj (by simp only [List.mem_cons, List.not_mem_nil, or_false, not_or] at hn; exact trivial)) (List.forall_mem_nil _)) (fun j hj hn => g j hj (by simp only [List.mem_cons, List.not_mem_nil, or_false, not_or] at hn; exact trivial)) ((congrArg Int32.toInt (zz_i e82)).trans (rfl : (sy_i F 82).toInt = (sy_i F 82).toInt)) ((zz_i e82).trans (rfl : sy_i F 82 = sy_i F 82)) ((congrArg Int32.toInt (zz_i e83)).trans (by decide : ((0 : Int32)).toInt = 0)) ((zz_i e83).trans (rfl : (0 : Int32) = (0 : Int32))) ((congrArg Int32.toInt (zz_i e84)).trans (by decide : ((0 : Int32)).toInt = 0)) ((zz_i e84).trans (rfl : (0 : Int32) = (0 : Int32))))
theorem j3al_4_p0 {Ls : Nat} {xs : Nat → Int32} {d : Nat} {Q : Option Value → jm_h → Prop} (hd : 1 ≤ d) (F : Nat → sy_d) (X1 X2 : List jm_c) (hB : iv_in F iv_B0)
    (h0 : (sy_i F 82).toInt ≤ (sy_i F 84).toInt)
    (k : ∀ F1 : Nat → sy_d, (∀ j, j < 82 → True → F1 j = F j) → Q (some (.int (sy_i F 83))) (sy_dh F1 X1 X2 (iv_H 3))) :
    hd_W Ls xs d jm_M75 Q (4, sy_dL F [some (.inl (.ref 70)), some (.inr (.inl 82)), some (.inr (.inl 83)), some (.inr (.inl 84))], sy_dS F [], sy_dh F X1 X2 (iv_H 3), 0, 0) := by
  refine hd_ret (s := 3) (nv := 85) (v := some (.inr (.inl 83))) (uh := hd_ov (iv_id 0 iv_B0) []) (f := true) (sp := [4]) (d0 := 0) (O := [true]) (T := []) (P := [(4, .inr (.inl 82), .inr (.inl 84))]) jm_ok75 (by decide +kernel) (by decide +kernel) hd F X1 X2 (fun F' hF hs => ?_)
  have b82 := hd_b (F := F) (F' := F') (k := 82) (hF 82 (by decide))
  have b84 := hd_b (F := F) (F' := F') (k := 84) (hF 84 (by decide))
  have b83 := hd_b (F := F) (F' := F') (k := 83) (hF 83 (by decide))
  have hB' : iv_in F' iv_B0 := iv_in_eq hB (fun j hj => hF j (Nat.lt_of_lt_of_le hj (by decide +kernel)))
  have hk := k (sy_cm F' (hd_ov (iv_id 0 iv_B0) [] ++ [])) (fun j hj _ => (hd_keep hB' (Nat.lt_of_lt_of_le hj (by decide +kernel)) (by simp)).trans (hF j (Nat.lt_of_lt_of_le hj (by decide))))
  refine ⟨List.forall_mem_cons.mpr ⟨hd_p4 b82 b84 h0, fun _ h => absurd h List.not_mem_nil⟩, ?_⟩
  show Q (some (sy_dv F' (.inr (.inl 83)))) _
  rw [b83]
  exact hk
theorem j3al_4_p1 {Ls : Nat} {xs : Nat → Int32} {d : Nat} {Q : Option Value → jm_h → Prop} (hd : 1 ≤ d) (F : Nat → sy_d) (X1 X2 : List jm_c) (hB : iv_in F iv_B0)
    (h0 : (sy_i F 84).toInt < (sy_i F 82).toInt)
    (h1 : 0 ≤ (sy_i F 84).toInt ∧ (sy_i F 84).toInt < 7)
    (h2 : 0 ≤ (sy_i F 82).toInt ∧ (sy_i F 82).toInt < 7)
    (h3 : ((sy_ai F 80).getD (sy_i F 84).toNatClampNeg 0).toInt ≠ ((sy_ai F 80).getD (sy_i F 82).toNatClampNeg 0).toInt)
    (k : ∀ F1 : Nat → sy_d, (∀ j, j < 82 → True → F1 j = F j) → F1 82 = .inl (.int (sy_i F 82)) → F1 83 = .inl (.int (sy_i F 83)) → F1 84 = .inl (.int ((sy_i F 84) + ((1 : Int32)))) → hd_W Ls xs d jm_M75 Q (4, sy_dL F1 [some (.inl (.ref 70)), some (.inr (.inl 82)), some (.inr (.inl 83)), some (.inr (.inl 84))], sy_dS F1 [], sy_dh F1 X1 X2 (iv_H 3), 0, 0)) :
    hd_W Ls xs d jm_M75 Q (4, sy_dL F [some (.inl (.ref 70)), some (.inr (.inl 82)), some (.inr (.inl 83)), some (.inr (.inl 84))], sy_dS F [], sy_dh F X1 X2 (iv_H 3), 0, 0) := by
  refine hd_run (s := 3) (nv := 85) (pc := 4) (L := [some (.inl (.ref 70)), some (.inr (.inl 82)), some (.inr (.inl 83)), some (.inr (.inl 84))]) (S := []) (uh := hd_ov (iv_id 0 iv_B0) []) (ul := [.inl (.inr (.inl 82)), .inl (.inr (.inl 83)), .inl (.inr (.inl 87))]) (f := true) (sp := [4]) (d0 := 0) (O := [false, true]) (T := [(30, [.inr (.inl 84)], [.inr (.inl 80)]), (30, [.inr (.inl 82)], [.inr (.inl 80)]), (0, [.inr (.inl 84), .inl (.int 1)], [])]) (P := [(5, .inr (.inl 82), .inr (.inl 84)), (6, .inr (.inl 84), .inl (.ref 7)), (6, .inr (.inl 82), .inl (.ref 7)), (1, .inr (.inl 85), .inr (.inl 86))]) jm_ok75 (by decide +kernel) (by decide +kernel) hd F X1 X2 (fun F' hF hs => ?_)
  have b82 := hd_b (F := F) (F' := F') (k := 82) (hF 82 (by decide))
  have b84 := hd_b (F := F) (F' := F') (k := 84) (hF 84 (by decide))
  have a80 := hd_ba (F := F) (F' := F') (k := 80) (hF 80 (by decide))
  have t85 : sy_dv F' (.inr (.inl 85)) = .int ((sy_ai F 80).getD (sy_i F 84).toNatClampNeg 0) := hd_rd (hs 0 _ rfl) b84 a80
  have t86 : sy_dv F' (.inr (.inl 86)) = .int ((sy_ai F 80).getD (sy_i F 82).toNatClampNeg 0) := hd_rd (hs 1 _ rfl) b82 a80
  have b83 := hd_b (F := F) (F' := F') (k := 83) (hF 83 (by decide))
  have t87 : sy_dv F' (.inr (.inl 87)) = .int ((sy_i F 84) + ((1 : Int32))) := hd_o (hs 2 _ rfl) b84 rfl rfl
  have hB' : iv_in F' iv_B0 := iv_in_eq hB (fun j hj => hF j (Nat.lt_of_lt_of_le hj (by decide +kernel)))
  refine ⟨List.forall_mem_cons.mpr ⟨hd_p5 b82 b84 h0, List.forall_mem_cons.mpr ⟨hd_pb b84 (by first | exact h1 | exact h1), List.forall_mem_cons.mpr ⟨hd_pb b82 (by first | exact h2 | exact h2), List.forall_mem_cons.mpr ⟨hd_p1 t85 t86 h3, fun _ h => absurd h List.not_mem_nil⟩⟩⟩⟩, ?_⟩
  refine k _ ?_ ?_ ?_ ?_
  · exact fun j hj _ => (hd_keep hB' (Nat.lt_of_lt_of_le hj (by decide +kernel)) (by simp)).trans (hF j (Nat.lt_of_lt_of_le hj (by decide)))
  · exact hd_gi (x := .inr (.inl 82)) (by decide +kernel) b82
  · exact hd_gi (x := .inr (.inl 83)) (by decide +kernel) b83
  · exact hd_gi (x := .inr (.inl 87)) (by decide +kernel) t87
theorem j3al_4_p2 {Ls : Nat} {xs : Nat → Int32} {d : Nat} {Q : Option Value → jm_h → Prop} (hd : 1 ≤ d) (F : Nat → sy_d) (X1 X2 : List jm_c) (hB : iv_in F iv_B0)
    (h0 : (sy_i F 84).toInt < (sy_i F 82).toInt)
    (h1 : 0 ≤ (sy_i F 84).toInt ∧ (sy_i F 84).toInt < 7)
    (h2 : 0 ≤ (sy_i F 82).toInt ∧ (sy_i F 82).toInt < 7)
    (h3 : ((sy_ai F 80).getD (sy_i F 84).toNatClampNeg 0).toInt = ((sy_ai F 80).getD (sy_i F 82).toNatClampNeg 0).toInt)
    (h4 : 0 ≤ (sy_i F 84).toInt ∧ (sy_i F 84).toInt < 7)
    (h5 : 0 ≤ (sy_i F 82).toInt ∧ (sy_i F 82).toInt < 7)
    (h6 : ((sy_ai F 81).getD (sy_i F 84).toNatClampNeg 0).toInt ≠ ((sy_ai F 81).getD (sy_i F 82).toNatClampNeg 0).toInt)
    (k : ∀ F1 : Nat → sy_d, (∀ j, j < 82 → True → F1 j = F j) → F1 82 = .inl (.int (sy_i F 82)) → F1 83 = .inl (.int (sy_i F 83)) → F1 84 = .inl (.int ((sy_i F 84) + ((1 : Int32)))) → hd_W Ls xs d jm_M75 Q (4, sy_dL F1 [some (.inl (.ref 70)), some (.inr (.inl 82)), some (.inr (.inl 83)), some (.inr (.inl 84))], sy_dS F1 [], sy_dh F1 X1 X2 (iv_H 3), 0, 0)) :
    hd_W Ls xs d jm_M75 Q (4, sy_dL F [some (.inl (.ref 70)), some (.inr (.inl 82)), some (.inr (.inl 83)), some (.inr (.inl 84))], sy_dS F [], sy_dh F X1 X2 (iv_H 3), 0, 0) := by
  refine hd_run (s := 3) (nv := 85) (pc := 4) (L := [some (.inl (.ref 70)), some (.inr (.inl 82)), some (.inr (.inl 83)), some (.inr (.inl 84))]) (S := []) (uh := hd_ov (iv_id 0 iv_B0) []) (ul := [.inl (.inr (.inl 82)), .inl (.inr (.inl 83)), .inl (.inr (.inl 89))]) (f := true) (sp := [4]) (d0 := 0) (O := [false, false, true]) (T := [(30, [.inr (.inl 84)], [.inr (.inl 80)]), (30, [.inr (.inl 82)], [.inr (.inl 80)]), (30, [.inr (.inl 84)], [.inr (.inl 81)]), (30, [.inr (.inl 82)], [.inr (.inl 81)]), (0, [.inr (.inl 84), .inl (.int 1)], [])]) (P := [(5, .inr (.inl 82), .inr (.inl 84)), (6, .inr (.inl 84), .inl (.ref 7)), (6, .inr (.inl 82), .inl (.ref 7)), (0, .inr (.inl 85), .inr (.inl 86)), (6, .inr (.inl 84), .inl (.ref 7)), (6, .inr (.inl 82), .inl (.ref 7)), (1, .inr (.inl 87), .inr (.inl 88))]) jm_ok75 (by decide +kernel) (by decide +kernel) hd F X1 X2 (fun F' hF hs => ?_)
  have b82 := hd_b (F := F) (F' := F') (k := 82) (hF 82 (by decide))
  have b84 := hd_b (F := F) (F' := F') (k := 84) (hF 84 (by decide))
  have a80 := hd_ba (F := F) (F' := F') (k := 80) (hF 80 (by decide))
  have t85 : sy_dv F' (.inr (.inl 85)) = .int ((sy_ai F 80).getD (sy_i F 84).toNatClampNeg 0) := hd_rd (hs 0 _ rfl) b84 a80
  have t86 : sy_dv F' (.inr (.inl 86)) = .int ((sy_ai F 80).getD (sy_i F 82).toNatClampNeg 0) := hd_rd (hs 1 _ rfl) b82 a80
  have a81 := hd_ba (F := F) (F' := F') (k := 81) (hF 81 (by decide))
  have t87 : sy_dv F' (.inr (.inl 87)) = .int ((sy_ai F 81).getD (sy_i F 84).toNatClampNeg 0) := hd_rd (hs 2 _ rfl) b84 a81
  have t88 : sy_dv F' (.inr (.inl 88)) = .int ((sy_ai F 81).getD (sy_i F 82).toNatClampNeg 0) := hd_rd (hs 3 _ rfl) b82 a81
  have b83 := hd_b (F := F) (F' := F') (k := 83) (hF 83 (by decide))
  have t89 : sy_dv F' (.inr (.inl 89)) = .int ((sy_i F 84) + ((1 : Int32))) := hd_o (hs 4 _ rfl) b84 rfl rfl
  have hB' : iv_in F' iv_B0 := iv_in_eq hB (fun j hj => hF j (Nat.lt_of_lt_of_le hj (by decide +kernel)))
  refine ⟨List.forall_mem_cons.mpr ⟨hd_p5 b82 b84 h0, List.forall_mem_cons.mpr ⟨hd_pb b84 (by first | exact h1 | exact h1), List.forall_mem_cons.mpr ⟨hd_pb b82 (by first | exact h2 | exact h2), List.forall_mem_cons.mpr ⟨hd_p0 t85 t86 h3, List.forall_mem_cons.mpr ⟨hd_pb b84 (by first | exact h4 | exact h4), List.forall_mem_cons.mpr ⟨hd_pb b82 (by first | exact h5 | exact h5), List.forall_mem_cons.mpr ⟨hd_p1 t87 t88 h6, fun _ h => absurd h List.not_mem_nil⟩⟩⟩⟩⟩⟩⟩, ?_⟩
  refine k _ ?_ ?_ ?_ ?_
  · exact fun j hj _ => (hd_keep hB' (Nat.lt_of_lt_of_le hj (by decide +kernel)) (by simp)).trans (hF j (Nat.lt_of_lt_of_le hj (by decide)))
  · exact hd_gi (x := .inr (.inl 82)) (by decide +kernel) b82
  · exact hd_gi (x := .inr (.inl 83)) (by decide +kernel) b83
  · exact hd_gi (x := .inr (.inl 89)) (by decide +kernel) t89
theorem j3al_4_p3 {Ls : Nat} {xs : Nat → Int32} {d : Nat} {Q : Option Value → jm_h → Prop} (hd : 1 ≤ d) (F : Nat → sy_d) (X1 X2 : List jm_c) (hB : iv_in F iv_B0)
    (h0 : (sy_i F 84).toInt < (sy_i F 82).toInt)
    (h1 : 0 ≤ (sy_i F 84).toInt ∧ (sy_i F 84).toInt < 7)
    (h2 : 0 ≤ (sy_i F 82).toInt ∧ (sy_i F 82).toInt < 7)
    (h3 : ((sy_ai F 80).getD (sy_i F 84).toNatClampNeg 0).toInt = ((sy_ai F 80).getD (sy_i F 82).toNatClampNeg 0).toInt)
    (h4 : 0 ≤ (sy_i F 84).toInt ∧ (sy_i F 84).toInt < 7)
    (h5 : 0 ≤ (sy_i F 82).toInt ∧ (sy_i F 82).toInt < 7)
    (h6 : ((sy_ai F 81).getD (sy_i F 84).toNatClampNeg 0).toInt = ((sy_ai F 81).getD (sy_i F 82).toNatClampNeg 0).toInt)
    (k : ∀ F1 : Nat → sy_d, (∀ j, j < 82 → True → F1 j = F j) → F1 82 = .inl (.int (sy_i F 82)) → F1 83 = .inl (.int ((sy_i F 83) + ((1 : Int32)))) → F1 84 = .inl (.int ((sy_i F 84) + ((1 : Int32)))) → hd_W Ls xs d jm_M75 Q (4, sy_dL F1 [some (.inl (.ref 70)), some (.inr (.inl 82)), some (.inr (.inl 83)), some (.inr (.inl 84))], sy_dS F1 [], sy_dh F1 X1 X2 (iv_H 3), 0, 0)) :
    hd_W Ls xs d jm_M75 Q (4, sy_dL F [some (.inl (.ref 70)), some (.inr (.inl 82)), some (.inr (.inl 83)), some (.inr (.inl 84))], sy_dS F [], sy_dh F X1 X2 (iv_H 3), 0, 0) := by
  refine hd_run (s := 3) (nv := 85) (pc := 4) (L := [some (.inl (.ref 70)), some (.inr (.inl 82)), some (.inr (.inl 83)), some (.inr (.inl 84))]) (S := []) (uh := hd_ov (iv_id 0 iv_B0) []) (ul := [.inl (.inr (.inl 82)), .inl (.inr (.inl 89)), .inl (.inr (.inl 90))]) (f := true) (sp := [4]) (d0 := 0) (O := [false, false, false]) (T := [(30, [.inr (.inl 84)], [.inr (.inl 80)]), (30, [.inr (.inl 82)], [.inr (.inl 80)]), (30, [.inr (.inl 84)], [.inr (.inl 81)]), (30, [.inr (.inl 82)], [.inr (.inl 81)]), (0, [.inr (.inl 83), .inl (.int 1)], []), (0, [.inr (.inl 84), .inl (.int 1)], [])]) (P := [(5, .inr (.inl 82), .inr (.inl 84)), (6, .inr (.inl 84), .inl (.ref 7)), (6, .inr (.inl 82), .inl (.ref 7)), (0, .inr (.inl 85), .inr (.inl 86)), (6, .inr (.inl 84), .inl (.ref 7)), (6, .inr (.inl 82), .inl (.ref 7)), (0, .inr (.inl 87), .inr (.inl 88))]) jm_ok75 (by decide +kernel) (by decide +kernel) hd F X1 X2 (fun F' hF hs => ?_)
  have b82 := hd_b (F := F) (F' := F') (k := 82) (hF 82 (by decide))
  have b84 := hd_b (F := F) (F' := F') (k := 84) (hF 84 (by decide))
  have a80 := hd_ba (F := F) (F' := F') (k := 80) (hF 80 (by decide))
  have t85 : sy_dv F' (.inr (.inl 85)) = .int ((sy_ai F 80).getD (sy_i F 84).toNatClampNeg 0) := hd_rd (hs 0 _ rfl) b84 a80
  have t86 : sy_dv F' (.inr (.inl 86)) = .int ((sy_ai F 80).getD (sy_i F 82).toNatClampNeg 0) := hd_rd (hs 1 _ rfl) b82 a80
  have a81 := hd_ba (F := F) (F' := F') (k := 81) (hF 81 (by decide))
  have t87 : sy_dv F' (.inr (.inl 87)) = .int ((sy_ai F 81).getD (sy_i F 84).toNatClampNeg 0) := hd_rd (hs 2 _ rfl) b84 a81
  have t88 : sy_dv F' (.inr (.inl 88)) = .int ((sy_ai F 81).getD (sy_i F 82).toNatClampNeg 0) := hd_rd (hs 3 _ rfl) b82 a81
  have b83 := hd_b (F := F) (F' := F') (k := 83) (hF 83 (by decide))
  have t89 : sy_dv F' (.inr (.inl 89)) = .int ((sy_i F 83) + ((1 : Int32))) := hd_o (hs 4 _ rfl) b83 rfl rfl
  have t90 : sy_dv F' (.inr (.inl 90)) = .int ((sy_i F 84) + ((1 : Int32))) := hd_o (hs 5 _ rfl) b84 rfl rfl
  have hB' : iv_in F' iv_B0 := iv_in_eq hB (fun j hj => hF j (Nat.lt_of_lt_of_le hj (by decide +kernel)))
  refine ⟨List.forall_mem_cons.mpr ⟨hd_p5 b82 b84 h0, List.forall_mem_cons.mpr ⟨hd_pb b84 (by first | exact h1 | exact h1), List.forall_mem_cons.mpr ⟨hd_pb b82 (by first | exact h2 | exact h2), List.forall_mem_cons.mpr ⟨hd_p0 t85 t86 h3, List.forall_mem_cons.mpr ⟨hd_pb b84 (by first | exact h4 | exact h4), List.forall_mem_cons.mpr ⟨hd_pb b82 (by first | exact h5 | exact h5), List.forall_mem_cons.mpr ⟨hd_p0 t87 t88 h6, fun _ h => absurd h List.not_mem_nil⟩⟩⟩⟩⟩⟩⟩, ?_⟩
  refine k _ ?_ ?_ ?_ ?_
  · exact fun j hj _ => (hd_keep hB' (Nat.lt_of_lt_of_le hj (by decide +kernel)) (by simp)).trans (hF j (Nat.lt_of_lt_of_le hj (by decide)))
  · exact hd_gi (x := .inr (.inl 82)) (by decide +kernel) b82
  · exact hd_gi (x := .inr (.inl 89)) (by decide +kernel) t89
  · exact hd_gi (x := .inr (.inl 90)) (by decide +kernel) t90
theorem j3al_4 {Ls : Nat} {xs : Nat → Int32} {d : Nat} {Q : Option Value → jm_h → Prop} (hd : 1 ≤ d) (F : Nat → sy_d) (X1 X2 : List jm_c) (hB : iv_in F iv_B0)
    (a82 : 0 ≤ (sy_i F 82).toInt ∧ (sy_i F 82).toInt ≤ 6)
    (a83 : 0 ≤ (sy_i F 83).toInt ∧ (sy_i F 83).toInt ≤ 7)
    (a84 : 0 ≤ (sy_i F 84).toInt ∧ (sy_i F 84).toInt ≤ 7)
    (k0 : (sy_i F 82).toInt ≤ (sy_i F 84).toInt → ∀ F1 : Nat → sy_d, iv_in F1 iv_B0 → (∀ j, j < 82 → j ∉ ([] : List Nat) → F1 j = F j) → Q (some (.int (sy_i F 83))) (sy_dh F1 X1 X2 (iv_H 3)))
    (k1 : (sy_i F 84).toInt < (sy_i F 82).toInt → ((sy_ai F 80).getD ((sy_i F 84).toInt).toNat 0).toInt ≠ ((sy_ai F 80).getD ((sy_i F 82).toInt).toNat 0).toInt → ∀ F1 : Nat → sy_d, iv_in F1 iv_B0 → (∀ j, j < 82 → j ∉ ([] : List Nat) → F1 j = F j) → (sy_i F1 82).toInt = (sy_i F 82).toInt → sy_i F1 82 = sy_i F 82 → (sy_i F1 83).toInt = (sy_i F 83).toInt → sy_i F1 83 = sy_i F 83 → (sy_i F1 84).toInt = ((sy_i F 84).toInt + 1) → sy_i F1 84 = (sy_i F 84) + ((1 : Int32)) → hd_W Ls xs d jm_M75 Q (4, sy_dL F1 [some (.inl (.ref 70)), some (.inr (.inl 82)), some (.inr (.inl 83)), some (.inr (.inl 84))], sy_dS F1 [], sy_dh F1 X1 X2 (iv_H 3), 0, 0))
    (k2 : (sy_i F 84).toInt < (sy_i F 82).toInt → ((sy_ai F 80).getD ((sy_i F 84).toInt).toNat 0).toInt = ((sy_ai F 80).getD ((sy_i F 82).toInt).toNat 0).toInt → ((sy_ai F 81).getD ((sy_i F 84).toInt).toNat 0).toInt ≠ ((sy_ai F 81).getD ((sy_i F 82).toInt).toNat 0).toInt → ∀ F1 : Nat → sy_d, iv_in F1 iv_B0 → (∀ j, j < 82 → j ∉ ([] : List Nat) → F1 j = F j) → (sy_i F1 82).toInt = (sy_i F 82).toInt → sy_i F1 82 = sy_i F 82 → (sy_i F1 83).toInt = (sy_i F 83).toInt → sy_i F1 83 = sy_i F 83 → (sy_i F1 84).toInt = ((sy_i F 84).toInt + 1) → sy_i F1 84 = (sy_i F 84) + ((1 : Int32)) → hd_W Ls xs d jm_M75 Q (4, sy_dL F1 [some (.inl (.ref 70)), some (.inr (.inl 82)), some (.inr (.inl 83)), some (.inr (.inl 84))], sy_dS F1 [], sy_dh F1 X1 X2 (iv_H 3), 0, 0))
    (k3 : (sy_i F 84).toInt < (sy_i F 82).toInt → ((sy_ai F 80).getD ((sy_i F 84).toInt).toNat 0).toInt = ((sy_ai F 80).getD ((sy_i F 82).toInt).toNat 0).toInt → ((sy_ai F 81).getD ((sy_i F 84).toInt).toNat 0).toInt = ((sy_ai F 81).getD ((sy_i F 82).toInt).toNat 0).toInt → ∀ F1 : Nat → sy_d, iv_in F1 iv_B0 → (∀ j, j < 82 → j ∉ ([] : List Nat) → F1 j = F j) → (sy_i F1 82).toInt = (sy_i F 82).toInt → sy_i F1 82 = sy_i F 82 → (sy_i F1 83).toInt = ((sy_i F 83).toInt + 1) → sy_i F1 83 = (sy_i F 83) + ((1 : Int32)) → (sy_i F1 84).toInt = ((sy_i F 84).toInt + 1) → sy_i F1 84 = (sy_i F 84) + ((1 : Int32)) → hd_W Ls xs d jm_M75 Q (4, sy_dL F1 [some (.inl (.ref 70)), some (.inr (.inl 82)), some (.inr (.inl 83)), some (.inr (.inl 84))], sy_dS F1 [], sy_dh F1 X1 X2 (iv_H 3), 0, 0)) :
    hd_W Ls xs d jm_M75 Q (4, sy_dL F [some (.inl (.ref 70)), some (.inr (.inl 82)), some (.inr (.inl 83)), some (.inr (.inl 84))], sy_dS F [], sy_dh F X1 X2 (iv_H 3), 0, 0) := by
  by_cases g0 : (sy_i F 82).toInt ≤ (sy_i F 84).toInt
  · exact j3al_4_p0 hd F X1 X2 hB (by first | exact g0 | (simp only [nz_c]; exact g0)) (fun F1 g  => by rw [(rfl : sy_i F 83 = sy_i F 83)]; exact k0 g0 F1 (nz_in0 hB [] (fun j hj hn => g j hj (by simp only [List.mem_cons, List.not_mem_nil, or_false, not_or] at hn; exact trivial)) (List.forall_mem_nil _)) (fun j hj hn => g j hj (by simp only [List.mem_cons, List.not_mem_nil, or_false, not_or] at hn; exact trivial)) )
  replace g0 : (sy_i F 84).toInt < (sy_i F 82).toInt := by omega
  by_cases g1 : ((sy_ai F 80).getD ((sy_i F 84).toInt).toNat 0).toInt ≠ ((sy_ai F 80).getD ((sy_i F 82).toInt).toNat 0).toInt
  · have q85 : (sy_ai F 80).getD (sy_i F 84).toNatClampNeg 0 = (sy_ai F 80).getD ((sy_i F 84).toInt).toNat 0 := by simp only [nz_c]
    have n85 : nzI ((sy_ai F 80).getD (sy_i F 84).toNatClampNeg 0) (((sy_ai F 80).getD ((sy_i F 84).toInt).toNat 0).toInt) := congrArg Int32.toInt q85
    have q86 : (sy_ai F 80).getD (sy_i F 82).toNatClampNeg 0 = (sy_ai F 80).getD ((sy_i F 82).toInt).toNat 0 := by simp only [nz_c]
    have n86 : nzI ((sy_ai F 80).getD (sy_i F 82).toNatClampNeg 0) (((sy_ai F 80).getD ((sy_i F 82).toInt).toNat 0).toInt) := congrArg Int32.toInt q86
    have n87 : nzI ((sy_i F 84) + ((1 : Int32))) (((sy_i F 84).toInt + 1)) := nz_add (rfl : (sy_i F 84).toInt = (sy_i F 84).toInt) (by decide : ((1 : Int32)).toInt = 1) (by omega) (by omega)
    exact j3al_4_p1 hd F X1 X2 hB (by first | exact g0 | (simp only [nz_c]; exact g0)) (by first | exact ⟨by omega, by omega⟩ | (simp only [nz_c]; exact ⟨by omega, by omega⟩)) (by first | exact ⟨by omega, by omega⟩ | (simp only [nz_c]; exact ⟨by omega, by omega⟩)) (by first | exact g1 | (simp only [nz_c]; exact g1) | (rw [(nzE n85)]; exact g1) | (rw [(nzE n86)]; exact g1) | (rw [(nzE n85), (nzE n86)]; exact g1)) (fun F1 g e82 e83 e84 => k1 g0 g1 F1 (nz_in0 hB [] (fun j hj hn => g j hj (by simp only [List.mem_cons, List.not_mem_nil, or_false, not_or] at hn; exact trivial)) (List.forall_mem_nil _)) (fun j hj hn => g j hj (by simp only [List.mem_cons, List.not_mem_nil, or_false, not_or] at hn; exact trivial)) ((congrArg Int32.toInt (zz_i e82)).trans (rfl : (sy_i F 82).toInt = (sy_i F 82).toInt)) ((zz_i e82).trans (rfl : sy_i F 82 = sy_i F 82)) ((congrArg Int32.toInt (zz_i e83)).trans (rfl : (sy_i F 83).toInt = (sy_i F 83).toInt)) ((zz_i e83).trans (rfl : sy_i F 83 = sy_i F 83)) ((congrArg Int32.toInt (zz_i e84)).trans (nzE n87)) ((zz_i e84).trans (rfl : (sy_i F 84) + ((1 : Int32)) = (sy_i F 84) + ((1 : Int32)))))
  replace g1 : ((sy_ai F 80).getD ((sy_i F 84).toInt).toNat 0).toInt = ((sy_ai F 80).getD ((sy_i F 82).toInt).toNat 0).toInt := by omega
  by_cases g2 : ((sy_ai F 81).getD ((sy_i F 84).toInt).toNat 0).toInt ≠ ((sy_ai F 81).getD ((sy_i F 82).toInt).toNat 0).toInt
  · have q85 : (sy_ai F 80).getD (sy_i F 84).toNatClampNeg 0 = (sy_ai F 80).getD ((sy_i F 84).toInt).toNat 0 := by simp only [nz_c]
    have n85 : nzI ((sy_ai F 80).getD (sy_i F 84).toNatClampNeg 0) (((sy_ai F 80).getD ((sy_i F 84).toInt).toNat 0).toInt) := congrArg Int32.toInt q85
    have q86 : (sy_ai F 80).getD (sy_i F 82).toNatClampNeg 0 = (sy_ai F 80).getD ((sy_i F 82).toInt).toNat 0 := by simp only [nz_c]
    have n86 : nzI ((sy_ai F 80).getD (sy_i F 82).toNatClampNeg 0) (((sy_ai F 80).getD ((sy_i F 82).toInt).toNat 0).toInt) := congrArg Int32.toInt q86
    have q87 : (sy_ai F 81).getD (sy_i F 84).toNatClampNeg 0 = (sy_ai F 81).getD ((sy_i F 84).toInt).toNat 0 := by simp only [nz_c]
    have n87 : nzI ((sy_ai F 81).getD (sy_i F 84).toNatClampNeg 0) (((sy_ai F 81).getD ((sy_i F 84).toInt).toNat 0).toInt) := congrArg Int32.toInt q87
    have q88 : (sy_ai F 81).getD (sy_i F 82).toNatClampNeg 0 = (sy_ai F 81).getD ((sy_i F 82).toInt).toNat 0 := by simp only [nz_c]
    have n88 : nzI ((sy_ai F 81).getD (sy_i F 82).toNatClampNeg 0) (((sy_ai F 81).getD ((sy_i F 82).toInt).toNat 0).toInt) := congrArg Int32.toInt q88
    have n89 : nzI ((sy_i F 84) + ((1 : Int32))) (((sy_i F 84).toInt + 1)) := nz_add (rfl : (sy_i F 84).toInt = (sy_i F 84).toInt) (by decide : ((1 : Int32)).toInt = 1) (by omega) (by omega)
    exact j3al_4_p2 hd F X1 X2 hB (by first | exact g0 | (simp only [nz_c]; exact g0)) (by first | exact ⟨by omega, by omega⟩ | (simp only [nz_c]; exact ⟨by omega, by omega⟩)) (by first | exact ⟨by omega, by omega⟩ | (simp only [nz_c]; exact ⟨by omega, by omega⟩)) (by first | exact g1 | (simp only [nz_c]; exact g1) | (rw [(nzE n85)]; exact g1) | (rw [(nzE n86)]; exact g1) | (rw [(nzE n85), (nzE n86)]; exact g1)) (by first | exact ⟨by omega, by omega⟩ | (simp only [nz_c]; exact ⟨by omega, by omega⟩)) (by first | exact ⟨by omega, by omega⟩ | (simp only [nz_c]; exact ⟨by omega, by omega⟩)) (by first | exact g2 | (simp only [nz_c]; exact g2) | (rw [(nzE n87)]; exact g2) | (rw [(nzE n88)]; exact g2) | (rw [(nzE n87), (nzE n88)]; exact g2)) (fun F1 g e82 e83 e84 => k2 g0 g1 g2 F1 (nz_in0 hB [] (fun j hj hn => g j hj (by simp only [List.mem_cons, List.not_mem_nil, or_false, not_or] at hn; exact trivial)) (List.forall_mem_nil _)) (fun j hj hn => g j hj (by simp only [List.mem_cons, List.not_mem_nil, or_false, not_or] at hn; exact trivial)) ((congrArg Int32.toInt (zz_i e82)).trans (rfl : (sy_i F 82).toInt = (sy_i F 82).toInt)) ((zz_i e82).trans (rfl : sy_i F 82 = sy_i F 82)) ((congrArg Int32.toInt (zz_i e83)).trans (rfl : (sy_i F 83).toInt = (sy_i F 83).toInt)) ((zz_i e83).trans (rfl : sy_i F 83 = sy_i F 83)) ((congrArg Int32.toInt (zz_i e84)).trans (nzE n89)) ((zz_i e84).trans (rfl : (sy_i F 84) + ((1 : Int32)) = (sy_i F 84) + ((1 : Int32)))))
  replace g2 : ((sy_ai F 81).getD ((sy_i F 84).toInt).toNat 0).toInt = ((sy_ai F 81).getD ((sy_i F 82).toInt).toNat 0).toInt := by omega
  have q85 : (sy_ai F 80).getD (sy_i F 84).toNatClampNeg 0 = (sy_ai F 80).getD ((sy_i F 84).toInt).toNat 0 := by simp only [nz_c]
  have n85 : nzI ((sy_ai F 80).getD (sy_i F 84).toNatClampNeg 0) (((sy_ai F 80).getD ((sy_i F 84).toInt).toNat 0).toInt) := congrArg Int32.toInt q85
  have q86 : (sy_ai F 80).getD (sy_i F 82).toNatClampNeg 0 = (sy_ai F 80).getD ((sy_i F 82).toInt).toNat 0 := by simp only [nz_c]
  have n86 : nzI ((sy_ai F 80).getD (sy_i F 82).toNatClampNeg 0) (((sy_ai F 80).getD ((sy_i F 82).toInt).toNat 0).toInt) := congrArg Int32.toInt q86
  have q87 : (sy_ai F 81).getD (sy_i F 84).toNatClampNeg 0 = (sy_ai F 81).getD ((sy_i F 84).toInt).toNat 0 := by simp only [nz_c]
  have n87 : nzI ((sy_ai F 81).getD (sy_i F 84).toNatClampNeg 0) (((sy_ai F 81).getD ((sy_i F 84).toInt).toNat 0).toInt) := congrArg Int32.toInt q87
  have q88 : (sy_ai F 81).getD (sy_i F 82).toNatClampNeg 0 = (sy_ai F 81).getD ((sy_i F 82).toInt).toNat 0 := by simp only [nz_c]
  have n88 : nzI ((sy_ai F 81).getD (sy_i F 82).toNatClampNeg 0) (((sy_ai F 81).getD ((sy_i F 82).toInt).toNat 0).toInt) := congrArg Int32.toInt q88
  have n89 : nzI ((sy_i F 83) + ((1 : Int32))) (((sy_i F 83).toInt + 1)) := nz_add (rfl : (sy_i F 83).toInt = (sy_i F 83).toInt) (by decide : ((1 : Int32)).toInt = 1) (by omega) (by omega)
  have n90 : nzI ((sy_i F 84) + ((1 : Int32))) (((sy_i F 84).toInt + 1)) := nz_add (rfl : (sy_i F 84).toInt = (sy_i F 84).toInt) (by decide : ((1 : Int32)).toInt = 1) (by omega) (by omega)
  exact j3al_4_p3 hd F X1 X2 hB (by first | exact g0 | (simp only [nz_c]; exact g0)) (by first | exact ⟨by omega, by omega⟩ | (simp only [nz_c]; exact ⟨by omega, by omega⟩)) (by first | exact ⟨by omega, by omega⟩ | (simp only [nz_c]; exact ⟨by omega, by omega⟩)) (by first | exact g1 | (simp only [nz_c]; exact g1) | (rw [(nzE n85)]; exact g1) | (rw [(nzE n86)]; exact g1) | (rw [(nzE n85), (nzE n86)]; exact g1)) (by first | exact ⟨by omega, by omega⟩ | (simp only [nz_c]; exact ⟨by omega, by omega⟩)) (by first | exact ⟨by omega, by omega⟩ | (simp only [nz_c]; exact ⟨by omega, by omega⟩)) (by first | exact g2 | (simp only [nz_c]; exact g2) | (rw [(nzE n87)]; exact g2) | (rw [(nzE n88)]; exact g2) | (rw [(nzE n87), (nzE n88)]; exact g2)) (fun F1 g e82 e83 e84 => k3 g0 g1 g2 F1 (nz_in0 hB [] (fun j hj hn => g j hj (by simp only [List.mem_cons, List.not_mem_nil, or_false, not_or] at hn; exact trivial)) (List.forall_mem_nil _)) (fun j hj hn => g j hj (by simp only [List.mem_cons, List.not_mem_nil, or_false, not_or] at hn; exact trivial)) ((congrArg Int32.toInt (zz_i e82)).trans (rfl : (sy_i F 82).toInt = (sy_i F 82).toInt)) ((zz_i e82).trans (rfl : sy_i F 82 = sy_i F 82)) ((congrArg Int32.toInt (zz_i e83)).trans (nzE n89)) ((zz_i e83).trans (rfl : (sy_i F 83) + ((1 : Int32)) = (sy_i F 83) + ((1 : Int32)))) ((congrArg Int32.toInt (zz_i e84)).trans (nzE n90)) ((zz_i e84).trans (rfl : (sy_i F 84) + ((1 : Int32)) = (sy_i F 84) + ((1 : Int32)))))
theorem j3rc_0_p0 {Ls : Nat} {xs : Nat → Int32} {d : Nat} {Q : Option Value → jm_h → Prop} (hd : 1 ≤ d) (F : Nat → sy_d) (X1 X2 : List jm_c) (hB : iv_in F iv_B0)
    (k : ∀ F1 : Nat → sy_d, (∀ j, j < 82 → True → F1 j = F j) → F1 82 = .inl (.int (sy_i F 82)) → F1 83 = .inl (.int ((1 : Int32))) → F1 84 = .inl (.int ((0 : Int32))) → hd_W Ls xs d jm_M70 Q (5, sy_dL F1 [some (.inl (.ref 70)), some (.inl (.ref 20)), some (.inr (.inl 82)), some (.inr (.inl 83)), some (.inr (.inl 84)), none], sy_dS F1 [], sy_dh F1 X1 X2 (iv_H 3), 0, 0)) :
    hd_W Ls xs d jm_M70 Q (0, sy_dL F [some (.inl (.ref 70)), some (.inl (.ref 20)), some (.inr (.inl 82)), none, none, none], sy_dS F [], sy_dh F X1 X2 (iv_H 3), 0, 0) := by
  refine hd_run (s := 3) (nv := 83) (pc := 5) (L := [some (.inl (.ref 70)), some (.inl (.ref 20)), some (.inr (.inl 82)), some (.inr (.inl 83)), some (.inr (.inl 84)), none]) (S := []) (uh := hd_ov (iv_id 0 iv_B0) []) (ul := [.inl (.inr (.inl 82)), .inl (.inl (.int 1)), .inl (.inl (.int 0))]) (f := true) (sp := [5]) (d0 := 0) (O := []) (T := []) (P := []) jm_ok70 (by decide +kernel) (by decide +kernel) hd F X1 X2 (fun F' hF hs => ?_)
  have b82 := hd_b (F := F) (F' := F') (k := 82) (hF 82 (by decide))
  have hB' : iv_in F' iv_B0 := iv_in_eq hB (fun j hj => hF j (Nat.lt_of_lt_of_le hj (by decide +kernel)))
  refine ⟨fun _ h => absurd h List.not_mem_nil, ?_⟩
  refine k _ ?_ ?_ ?_ ?_
  · exact fun j hj _ => (hd_keep hB' (Nat.lt_of_lt_of_le hj (by decide +kernel)) (by simp)).trans (hF j (Nat.lt_of_lt_of_le hj (by decide)))
  · exact hd_gi (x := .inr (.inl 82)) (by decide +kernel) b82
  · exact hd_gi (x := .inl (.int 1)) (by decide +kernel) rfl
  · exact hd_gi (x := .inl (.int 0)) (by decide +kernel) rfl
theorem j3rc_0 {Ls : Nat} {xs : Nat → Int32} {d : Nat} {Q : Option Value → jm_h → Prop} (hd : 1 ≤ d) (F : Nat → sy_d) (X1 X2 : List jm_c) (hB : iv_in F iv_B0)
    (k0 : ∀ F1 : Nat → sy_d, iv_in F1 iv_B0 → (∀ j, j < 82 → j ∉ ([] : List Nat) → F1 j = F j) → (sy_i F1 82).toInt = (sy_i F 82).toInt → sy_i F1 82 = sy_i F 82 → (sy_i F1 83).toInt = 1 → sy_i F1 83 = (1 : Int32) → (sy_i F1 84).toInt = 0 → sy_i F1 84 = (0 : Int32) → hd_W Ls xs d jm_M70 Q (5, sy_dL F1 [some (.inl (.ref 70)), some (.inl (.ref 20)), some (.inr (.inl 82)), some (.inr (.inl 83)), some (.inr (.inl 84)), none], sy_dS F1 [], sy_dh F1 X1 X2 (iv_H 3), 0, 0)) :
    hd_W Ls xs d jm_M70 Q (0, sy_dL F [some (.inl (.ref 70)), some (.inl (.ref 20)), some (.inr (.inl 82)), none, none, none], sy_dS F [], sy_dh F X1 X2 (iv_H 3), 0, 0) := by
  exact j3rc_0_p0 hd F X1 X2 hB  (fun F1 g e82 e83 e84 => k0 F1 (nz_in0 hB [] (fun j hj hn => g j hj (by simp only [List.mem_cons, List.not_mem_nil, or_false, not_or] at hn; exact trivial)) (List.forall_mem_nil _)) (fun j hj hn => g j hj (by simp only [List.mem_cons, List.not_mem_nil, or_false, not_or] at hn; exact trivial)) ((congrArg Int32.toInt (zz_i e82)).trans (rfl : (sy_i F 82).toInt = (sy_i F 82).toInt)) ((zz_i e82).trans (rfl : sy_i F 82 = sy_i F 82)) ((congrArg Int32.toInt (zz_i e83)).trans (by decide : ((1 : Int32)).toInt = 1)) ((zz_i e83).trans (rfl : (1 : Int32) = (1 : Int32))) ((congrArg Int32.toInt (zz_i e84)).trans (by decide : ((0 : Int32)).toInt = 0)) ((zz_i e84).trans (rfl : (0 : Int32) = (0 : Int32))))
theorem j3rc_5_p0 {Ls : Nat} {xs : Nat → Int32} {d : Nat} {Q : Option Value → jm_h → Prop} (hd : 1 ≤ d) (F : Nat → sy_d) (X1 X2 : List jm_c) (hB : iv_in F iv_B0)
    (h0 : (sy_i F 82).toInt ≤ (sy_i F 84).toInt)
    (k : ∀ F1 : Nat → sy_d, (∀ j, j < 82 → True → F1 j = F j) → Q (some (.int (sy_i F 83))) (sy_dh F1 X1 X2 (iv_H 3))) :
    hd_W Ls xs d jm_M70 Q (5, sy_dL F [some (.inl (.ref 70)), some (.inl (.ref 20)), some (.inr (.inl 82)), some (.inr (.inl 83)), some (.inr (.inl 84)), none], sy_dS F [], sy_dh F X1 X2 (iv_H 3), 0, 0) := by
  refine hd_ret (s := 3) (nv := 85) (v := some (.inr (.inl 83))) (uh := hd_ov (iv_id 0 iv_B0) []) (f := true) (sp := [22]) (d0 := 0) (O := [true]) (T := []) (P := [(4, .inr (.inl 82), .inr (.inl 84))]) jm_ok70 (by decide +kernel) (by decide +kernel) hd F X1 X2 (fun F' hF hs => ?_)
  have b82 := hd_b (F := F) (F' := F') (k := 82) (hF 82 (by decide))
  have b84 := hd_b (F := F) (F' := F') (k := 84) (hF 84 (by decide))
  have b83 := hd_b (F := F) (F' := F') (k := 83) (hF 83 (by decide))
  have hB' : iv_in F' iv_B0 := iv_in_eq hB (fun j hj => hF j (Nat.lt_of_lt_of_le hj (by decide +kernel)))
  have hk := k (sy_cm F' (hd_ov (iv_id 0 iv_B0) [] ++ [])) (fun j hj _ => (hd_keep hB' (Nat.lt_of_lt_of_le hj (by decide +kernel)) (by simp)).trans (hF j (Nat.lt_of_lt_of_le hj (by decide))))
  refine ⟨List.forall_mem_cons.mpr ⟨hd_p4 b82 b84 h0, fun _ h => absurd h List.not_mem_nil⟩, ?_⟩
  show Q (some (sy_dv F' (.inr (.inl 83)))) _
  rw [b83]
  exact hk
theorem j3rc_5_p1 {Ls : Nat} {xs : Nat → Int32} {d : Nat} {Q : Option Value → jm_h → Prop} (hd : 1 ≤ d) (F : Nat → sy_d) (X1 X2 : List jm_c) (hB : iv_in F iv_B0)
    (h0 : (sy_i F 84).toInt < (sy_i F 82).toInt)
    (h1 : 7 ≤ (sy_i F 84).toInt)
    (k : ∀ F1 : Nat → sy_d, (∀ j, j < 82 → True → F1 j = F j) → Q (some (.int (sy_i F 83))) (sy_dh F1 X1 X2 (iv_H 3))) :
    hd_W Ls xs d jm_M70 Q (5, sy_dL F [some (.inl (.ref 70)), some (.inl (.ref 20)), some (.inr (.inl 82)), some (.inr (.inl 83)), some (.inr (.inl 84)), none], sy_dS F [], sy_dh F X1 X2 (iv_H 3), 0, 0) := by
  refine hd_ret (s := 3) (nv := 85) (v := some (.inr (.inl 83))) (uh := hd_ov (iv_id 0 iv_B0) []) (f := true) (sp := [22]) (d0 := 0) (O := [false, true]) (T := []) (P := [(5, .inr (.inl 82), .inr (.inl 84)), (4, .inl (.int 7), .inr (.inl 84))]) jm_ok70 (by decide +kernel) (by decide +kernel) hd F X1 X2 (fun F' hF hs => ?_)
  have b82 := hd_b (F := F) (F' := F') (k := 82) (hF 82 (by decide))
  have b84 := hd_b (F := F) (F' := F') (k := 84) (hF 84 (by decide))
  have b83 := hd_b (F := F) (F' := F') (k := 83) (hF 83 (by decide))
  have hB' : iv_in F' iv_B0 := iv_in_eq hB (fun j hj => hF j (Nat.lt_of_lt_of_le hj (by decide +kernel)))
  have hk := k (sy_cm F' (hd_ov (iv_id 0 iv_B0) [] ++ [])) (fun j hj _ => (hd_keep hB' (Nat.lt_of_lt_of_le hj (by decide +kernel)) (by simp)).trans (hF j (Nat.lt_of_lt_of_le hj (by decide))))
  refine ⟨List.forall_mem_cons.mpr ⟨hd_p5 b82 b84 h0, List.forall_mem_cons.mpr ⟨hd_p4 rfl b84 (by have hc : ((7) : Int32).toInt = 7 := (by decide); omega), fun _ h => absurd h List.not_mem_nil⟩⟩, ?_⟩
  show Q (some (sy_dv F' (.inr (.inl 83)))) _
  rw [b83]
  exact hk
theorem j3rc_5_p2 {Ls : Nat} {xs : Nat → Int32} {d : Nat} {Q : Option Value → jm_h → Prop} (hd : 1 ≤ d) (F : Nat → sy_d) (X1 X2 : List jm_c) (hB : iv_in F iv_B0)
    (h0 : (sy_i F 84).toInt < (sy_i F 82).toInt)
    (h1 : (sy_i F 84).toInt < 7)
    (k : ∀ F1 : Nat → sy_d, (∀ j, j < 82 → True → F1 j = F j) → F1 82 = .inl (.int (sy_i F 82)) → F1 83 = .inl (.int (sy_i F 83)) → F1 84 = .inl (.int (sy_i F 84)) → hd_W Ls xs d jm_M70 Q (22, sy_dL F1 [some (.inl (.ref 70)), some (.inl (.ref 20)), some (.inr (.inl 82)), some (.inr (.inl 83)), some (.inr (.inl 84)), none], sy_dS F1 [.inr (.inl 84), .inl (.ref 20), .inl (.ref 70)], sy_dh F1 X1 X2 (iv_H 3), 0, 0)) :
    hd_W Ls xs d jm_M70 Q (5, sy_dL F [some (.inl (.ref 70)), some (.inl (.ref 20)), some (.inr (.inl 82)), some (.inr (.inl 83)), some (.inr (.inl 84)), none], sy_dS F [], sy_dh F X1 X2 (iv_H 3), 0, 0) := by
  refine hd_run (s := 3) (nv := 85) (pc := 22) (L := [some (.inl (.ref 70)), some (.inl (.ref 20)), some (.inr (.inl 82)), some (.inr (.inl 83)), some (.inr (.inl 84)), none]) (S := [.inr (.inl 84), .inl (.ref 20), .inl (.ref 70)]) (uh := hd_ov (iv_id 0 iv_B0) []) (ul := [.inl (.inr (.inl 82)), .inl (.inr (.inl 83)), .inl (.inr (.inl 84))]) (f := true) (sp := [22]) (d0 := 0) (O := [false, false]) (T := []) (P := [(5, .inr (.inl 82), .inr (.inl 84)), (5, .inl (.int 7), .inr (.inl 84))]) jm_ok70 (by decide +kernel) (by decide +kernel) hd F X1 X2 (fun F' hF hs => ?_)
  have b82 := hd_b (F := F) (F' := F') (k := 82) (hF 82 (by decide))
  have b84 := hd_b (F := F) (F' := F') (k := 84) (hF 84 (by decide))
  have b83 := hd_b (F := F) (F' := F') (k := 83) (hF 83 (by decide))
  have hB' : iv_in F' iv_B0 := iv_in_eq hB (fun j hj => hF j (Nat.lt_of_lt_of_le hj (by decide +kernel)))
  refine ⟨List.forall_mem_cons.mpr ⟨hd_p5 b82 b84 h0, List.forall_mem_cons.mpr ⟨hd_p5 rfl b84 (by have hc : ((7) : Int32).toInt = 7 := (by decide); omega), fun _ h => absurd h List.not_mem_nil⟩⟩, ?_⟩
  refine k _ ?_ ?_ ?_ ?_
  · exact fun j hj _ => (hd_keep hB' (Nat.lt_of_lt_of_le hj (by decide +kernel)) (by simp)).trans (hF j (Nat.lt_of_lt_of_le hj (by decide)))
  · exact hd_gi (x := .inr (.inl 82)) (by decide +kernel) b82
  · exact hd_gi (x := .inr (.inl 83)) (by decide +kernel) b83
  · exact hd_gi (x := .inr (.inl 84)) (by decide +kernel) b84
theorem j3rc_5 {Ls : Nat} {xs : Nat → Int32} {d : Nat} {Q : Option Value → jm_h → Prop} (hd : 1 ≤ d) (F : Nat → sy_d) (X1 X2 : List jm_c) (hB : iv_in F iv_B0)
    (a84 : 0 ≤ (sy_i F 84).toInt ∧ (sy_i F 84).toInt ≤ 7)
    (k0 : (sy_i F 82).toInt ≤ (sy_i F 84).toInt → ∀ F1 : Nat → sy_d, iv_in F1 iv_B0 → (∀ j, j < 82 → j ∉ ([] : List Nat) → F1 j = F j) → Q (some (.int (sy_i F 83))) (sy_dh F1 X1 X2 (iv_H 3)))
    (k1 : (sy_i F 84).toInt < (sy_i F 82).toInt → 7 ≤ (sy_i F 84).toInt → ∀ F1 : Nat → sy_d, iv_in F1 iv_B0 → (∀ j, j < 82 → j ∉ ([] : List Nat) → F1 j = F j) → Q (some (.int (sy_i F 83))) (sy_dh F1 X1 X2 (iv_H 3)))
    (k2 : (sy_i F 84).toInt < (sy_i F 82).toInt → (sy_i F 84).toInt < 7 → ∀ F1 : Nat → sy_d, iv_in F1 iv_B0 → (∀ j, j < 82 → j ∉ ([] : List Nat) → F1 j = F j) → (sy_i F1 82).toInt = (sy_i F 82).toInt → sy_i F1 82 = sy_i F 82 → (sy_i F1 83).toInt = (sy_i F 83).toInt → sy_i F1 83 = sy_i F 83 → (sy_i F1 84).toInt = (sy_i F 84).toInt → sy_i F1 84 = sy_i F 84 → hd_W Ls xs d jm_M70 Q (22, sy_dL F1 [some (.inl (.ref 70)), some (.inl (.ref 20)), some (.inr (.inl 82)), some (.inr (.inl 83)), some (.inr (.inl 84)), none], sy_dS F1 [.inr (.inl 84), .inl (.ref 20), .inl (.ref 70)], sy_dh F1 X1 X2 (iv_H 3), 0, 0)) :
    hd_W Ls xs d jm_M70 Q (5, sy_dL F [some (.inl (.ref 70)), some (.inl (.ref 20)), some (.inr (.inl 82)), some (.inr (.inl 83)), some (.inr (.inl 84)), none], sy_dS F [], sy_dh F X1 X2 (iv_H 3), 0, 0) := by
  by_cases g0 : (sy_i F 82).toInt ≤ (sy_i F 84).toInt
  · exact j3rc_5_p0 hd F X1 X2 hB (by first | exact g0 | (simp only [nz_c]; exact g0)) (fun F1 g  => by rw [(rfl : sy_i F 83 = sy_i F 83)]; exact k0 g0 F1 (nz_in0 hB [] (fun j hj hn => g j hj (by simp only [List.mem_cons, List.not_mem_nil, or_false, not_or] at hn; exact trivial)) (List.forall_mem_nil _)) (fun j hj hn => g j hj (by simp only [List.mem_cons, List.not_mem_nil, or_false, not_or] at hn; exact trivial)) )
  replace g0 : (sy_i F 84).toInt < (sy_i F 82).toInt := by omega
  by_cases g1 : 7 ≤ (sy_i F 84).toInt
  · exact j3rc_5_p1 hd F X1 X2 hB (by first | exact g0 | (simp only [nz_c]; exact g0)) (by first | exact g1 | (simp only [nz_c]; exact g1)) (fun F1 g  => by rw [(rfl : sy_i F 83 = sy_i F 83)]; exact k1 g0 g1 F1 (nz_in0 hB [] (fun j hj hn => g j hj (by simp only [List.mem_cons, List.not_mem_nil, or_false, not_or] at hn; exact trivial)) (List.forall_mem_nil _)) (fun j hj hn => g j hj (by simp only [List.mem_cons, List.not_mem_nil, or_false, not_or] at hn; exact trivial)) )
  replace g1 : (sy_i F 84).toInt < 7 := by omega
  exact j3rc_5_p2 hd F X1 X2 hB (by first | exact g0 | (simp only [nz_c]; exact g0)) (by first | exact g1 | (simp only [nz_c]; exact g1)) (fun F1 g e82 e83 e84 => k2 g0 g1 F1 (nz_in0 hB [] (fun j hj hn => g j hj (by simp only [List.mem_cons, List.not_mem_nil, or_false, not_or] at hn; exact trivial)) (List.forall_mem_nil _)) (fun j hj hn => g j hj (by simp only [List.mem_cons, List.not_mem_nil, or_false, not_or] at hn; exact trivial)) ((congrArg Int32.toInt (zz_i e82)).trans (rfl : (sy_i F 82).toInt = (sy_i F 82).toInt)) ((zz_i e82).trans (rfl : sy_i F 82 = sy_i F 82)) ((congrArg Int32.toInt (zz_i e83)).trans (rfl : (sy_i F 83).toInt = (sy_i F 83).toInt)) ((zz_i e83).trans (rfl : sy_i F 83 = sy_i F 83)) ((congrArg Int32.toInt (zz_i e84)).trans (rfl : (sy_i F 84).toInt = (sy_i F 84).toInt)) ((zz_i e84).trans (rfl : sy_i F 84 = sy_i F 84)))
theorem j3rc_25_p0 {Ls : Nat} {xs : Nat → Int32} {d : Nat} {Q : Option Value → jm_h → Prop} (hd : 1 ≤ d) (F : Nat → sy_d) (X1 X2 : List jm_c) (hB : iv_in F iv_B0)
    (k : ∀ F1 : Nat → sy_d, (∀ j, j < 82 → True → F1 j = F j) → F1 82 = .inl (.int (sy_i F 82)) → F1 83 = .inl (.int (sy_i F 83)) → F1 84 = .inl (.int (sy_i F 84)) → F1 85 = .inl (.int (sy_i F 85)) → hd_W Ls xs d jm_M70 Q (28, sy_dL F1 [some (.inl (.ref 70)), some (.inl (.ref 20)), some (.inr (.inl 82)), some (.inr (.inl 83)), some (.inr (.inl 84)), none], sy_dS F1 [.inr (.inl 84), .inl (.ref 70), .inr (.inl 85)], sy_dh F1 X1 X2 (iv_H 3), 0, 0)) :
    hd_W Ls xs d jm_M70 Q (25, sy_dL F [some (.inl (.ref 70)), some (.inl (.ref 20)), some (.inr (.inl 82)), some (.inr (.inl 83)), some (.inr (.inl 84)), none], sy_dS F [.inr (.inl 85)], sy_dh F X1 X2 (iv_H 3), 0, 0) := by
  refine hd_run (s := 3) (nv := 86) (pc := 28) (L := [some (.inl (.ref 70)), some (.inl (.ref 20)), some (.inr (.inl 82)), some (.inr (.inl 83)), some (.inr (.inl 84)), none]) (S := [.inr (.inl 84), .inl (.ref 70), .inr (.inl 85)]) (uh := hd_ov (iv_id 0 iv_B0) []) (ul := [.inl (.inr (.inl 82)), .inl (.inr (.inl 83)), .inl (.inr (.inl 84)), .inl (.inr (.inl 85))]) (f := false) (sp := [28]) (d0 := 0) (O := []) (T := []) (P := []) jm_ok70 (by decide +kernel) (by decide +kernel) hd F X1 X2 (fun F' hF hs => ?_)
  have b82 := hd_b (F := F) (F' := F') (k := 82) (hF 82 (by decide))
  have b83 := hd_b (F := F) (F' := F') (k := 83) (hF 83 (by decide))
  have b84 := hd_b (F := F) (F' := F') (k := 84) (hF 84 (by decide))
  have b85 := hd_b (F := F) (F' := F') (k := 85) (hF 85 (by decide))
  have hB' : iv_in F' iv_B0 := iv_in_eq hB (fun j hj => hF j (Nat.lt_of_lt_of_le hj (by decide +kernel)))
  refine ⟨fun _ h => absurd h List.not_mem_nil, ?_⟩
  refine k _ ?_ ?_ ?_ ?_ ?_
  · exact fun j hj _ => (hd_keep hB' (Nat.lt_of_lt_of_le hj (by decide +kernel)) (by simp)).trans (hF j (Nat.lt_of_lt_of_le hj (by decide)))
  · exact hd_gi (x := .inr (.inl 82)) (by decide +kernel) b82
  · exact hd_gi (x := .inr (.inl 83)) (by decide +kernel) b83
  · exact hd_gi (x := .inr (.inl 84)) (by decide +kernel) b84
  · exact hd_gi (x := .inr (.inl 85)) (by decide +kernel) b85
theorem j3rc_25 {Ls : Nat} {xs : Nat → Int32} {d : Nat} {Q : Option Value → jm_h → Prop} (hd : 1 ≤ d) (F : Nat → sy_d) (X1 X2 : List jm_c) (hB : iv_in F iv_B0)
    (k0 : ∀ F1 : Nat → sy_d, iv_in F1 iv_B0 → (∀ j, j < 82 → j ∉ ([] : List Nat) → F1 j = F j) → (sy_i F1 82).toInt = (sy_i F 82).toInt → sy_i F1 82 = sy_i F 82 → (sy_i F1 83).toInt = (sy_i F 83).toInt → sy_i F1 83 = sy_i F 83 → (sy_i F1 84).toInt = (sy_i F 84).toInt → sy_i F1 84 = sy_i F 84 → (sy_i F1 85).toInt = (sy_i F 85).toInt → sy_i F1 85 = sy_i F 85 → hd_W Ls xs d jm_M70 Q (28, sy_dL F1 [some (.inl (.ref 70)), some (.inl (.ref 20)), some (.inr (.inl 82)), some (.inr (.inl 83)), some (.inr (.inl 84)), none], sy_dS F1 [.inr (.inl 84), .inl (.ref 70), .inr (.inl 85)], sy_dh F1 X1 X2 (iv_H 3), 0, 0)) :
    hd_W Ls xs d jm_M70 Q (25, sy_dL F [some (.inl (.ref 70)), some (.inl (.ref 20)), some (.inr (.inl 82)), some (.inr (.inl 83)), some (.inr (.inl 84)), none], sy_dS F [.inr (.inl 85)], sy_dh F X1 X2 (iv_H 3), 0, 0) := by
  exact j3rc_25_p0 hd F X1 X2 hB  (fun F1 g e82 e83 e84 e85 => k0 F1 (nz_in0 hB [] (fun j hj hn => g j hj (by simp only [List.mem_cons, List.not_mem_nil, or_false, not_or] at hn; exact trivial)) (List.forall_mem_nil _)) (fun j hj hn => g j hj (by simp only [List.mem_cons, List.not_mem_nil, or_false, not_or] at hn; exact trivial)) ((congrArg Int32.toInt (zz_i e82)).trans (rfl : (sy_i F 82).toInt = (sy_i F 82).toInt)) ((zz_i e82).trans (rfl : sy_i F 82 = sy_i F 82)) ((congrArg Int32.toInt (zz_i e83)).trans (rfl : (sy_i F 83).toInt = (sy_i F 83).toInt)) ((zz_i e83).trans (rfl : sy_i F 83 = sy_i F 83)) ((congrArg Int32.toInt (zz_i e84)).trans (rfl : (sy_i F 84).toInt = (sy_i F 84).toInt)) ((zz_i e84).trans (rfl : sy_i F 84 = sy_i F 84)) ((congrArg Int32.toInt (zz_i e85)).trans (rfl : (sy_i F 85).toInt = (sy_i F 85).toInt)) ((zz_i e85).trans (rfl : sy_i F 85 = sy_i F 85)))
theorem j3rc_31_p0 {Ls : Nat} {xs : Nat → Int32} {d : Nat} {Q : Option Value → jm_h → Prop} (hd : 1 ≤ d) (F : Nat → sy_d) (X1 X2 : List jm_c) (hB : iv_in F iv_B0)
    (h0 : 0 < ((sy_i F 85) - (sy_i F 86)).toInt)
    (k : ∀ F1 : Nat → sy_d, (∀ j, j < 82 → True → F1 j = F j) → F1 82 = .inl (.int (sy_i F 82)) → F1 83 = .inl (.int ((sy_i F 83) * ((sy_i F 85) - (sy_i F 86)))) → F1 84 = .inl (.int ((sy_i F 84) + ((1 : Int32)))) → hd_W Ls xs d jm_M70 Q (5, sy_dL F1 [some (.inl (.ref 70)), some (.inl (.ref 20)), some (.inr (.inl 82)), some (.inr (.inl 83)), some (.inr (.inl 84)), none], sy_dS F1 [], sy_dh F1 X1 X2 (iv_H 3), 0, 0)) :
    hd_W Ls xs d jm_M70 Q (31, sy_dL F [some (.inl (.ref 70)), some (.inl (.ref 20)), some (.inr (.inl 82)), some (.inr (.inl 83)), some (.inr (.inl 84)), none], sy_dS F [.inr (.inl 86), .inr (.inl 85)], sy_dh F X1 X2 (iv_H 3), 0, 0) := by
  refine hd_run (s := 3) (nv := 87) (pc := 5) (L := [some (.inl (.ref 70)), some (.inl (.ref 20)), some (.inr (.inl 82)), some (.inr (.inl 83)), some (.inr (.inl 84)), none]) (S := []) (uh := hd_ov (iv_id 0 iv_B0) []) (ul := [.inl (.inr (.inl 82)), .inl (.inr (.inl 88)), .inl (.inr (.inl 89))]) (f := false) (sp := [5]) (d0 := 0) (O := [true]) (T := [(1, [.inr (.inl 85), .inr (.inl 86)], []), (2, [.inr (.inl 83), .inr (.inl 87)], []), (0, [.inr (.inl 84), .inl (.int 1)], [])]) (P := [(2, .inl (.int 0), .inr (.inl 87))]) jm_ok70 (by decide +kernel) (by decide +kernel) hd F X1 X2 (fun F' hF hs => ?_)
  have b85 := hd_b (F := F) (F' := F') (k := 85) (hF 85 (by decide))
  have b86 := hd_b (F := F) (F' := F') (k := 86) (hF 86 (by decide))
  have t87 : sy_dv F' (.inr (.inl 87)) = .int ((sy_i F 85) - (sy_i F 86)) := hd_o (hs 0 _ rfl) b85 b86 rfl
  have b82 := hd_b (F := F) (F' := F') (k := 82) (hF 82 (by decide))
  have b83 := hd_b (F := F) (F' := F') (k := 83) (hF 83 (by decide))
  have t88 : sy_dv F' (.inr (.inl 88)) = .int ((sy_i F 83) * ((sy_i F 85) - (sy_i F 86))) := hd_o (hs 1 _ rfl) b83 t87 rfl
  have b84 := hd_b (F := F) (F' := F') (k := 84) (hF 84 (by decide))
  have t89 : sy_dv F' (.inr (.inl 89)) = .int ((sy_i F 84) + ((1 : Int32))) := hd_o (hs 2 _ rfl) b84 rfl rfl
  have hB' : iv_in F' iv_B0 := iv_in_eq hB (fun j hj => hF j (Nat.lt_of_lt_of_le hj (by decide +kernel)))
  refine ⟨List.forall_mem_cons.mpr ⟨hd_p2 rfl t87 (by have hc : ((0) : Int32).toInt = 0 := (by decide); omega), fun _ h => absurd h List.not_mem_nil⟩, ?_⟩
  refine k _ ?_ ?_ ?_ ?_
  · exact fun j hj _ => (hd_keep hB' (Nat.lt_of_lt_of_le hj (by decide +kernel)) (by simp)).trans (hF j (Nat.lt_of_lt_of_le hj (by decide)))
  · exact hd_gi (x := .inr (.inl 82)) (by decide +kernel) b82
  · exact hd_gi (x := .inr (.inl 88)) (by decide +kernel) t88
  · exact hd_gi (x := .inr (.inl 89)) (by decide +kernel) t89
theorem j3rc_31_p1 {Ls : Nat} {xs : Nat → Int32} {d : Nat} {Q : Option Value → jm_h → Prop} (hd : 1 ≤ d) (F : Nat → sy_d) (X1 X2 : List jm_c) (hB : iv_in F iv_B0)
    (h0 : ((sy_i F 85) - (sy_i F 86)).toInt ≤ 0)
    (k : ∀ F1 : Nat → sy_d, (∀ j, j < 82 → True → F1 j = F j) → Q (some (.int ((0 : Int32)))) (sy_dh F1 X1 X2 (iv_H 3))) :
    hd_W Ls xs d jm_M70 Q (31, sy_dL F [some (.inl (.ref 70)), some (.inl (.ref 20)), some (.inr (.inl 82)), some (.inr (.inl 83)), some (.inr (.inl 84)), none], sy_dS F [.inr (.inl 86), .inr (.inl 85)], sy_dh F X1 X2 (iv_H 3), 0, 0) := by
  refine hd_ret (s := 3) (nv := 87) (v := some (.inl (.int 0))) (uh := hd_ov (iv_id 0 iv_B0) []) (f := false) (sp := [5]) (d0 := 0) (O := [false]) (T := [(1, [.inr (.inl 85), .inr (.inl 86)], [])]) (P := [(3, .inl (.int 0), .inr (.inl 87))]) jm_ok70 (by decide +kernel) (by decide +kernel) hd F X1 X2 (fun F' hF hs => ?_)
  have b85 := hd_b (F := F) (F' := F') (k := 85) (hF 85 (by decide))
  have b86 := hd_b (F := F) (F' := F') (k := 86) (hF 86 (by decide))
  have t87 : sy_dv F' (.inr (.inl 87)) = .int ((sy_i F 85) - (sy_i F 86)) := hd_o (hs 0 _ rfl) b85 b86 rfl
  have hB' : iv_in F' iv_B0 := iv_in_eq hB (fun j hj => hF j (Nat.lt_of_lt_of_le hj (by decide +kernel)))
  refine ⟨List.forall_mem_cons.mpr ⟨hd_p3 rfl t87 (by have hc : ((0) : Int32).toInt = 0 := (by decide); omega), fun _ h => absurd h List.not_mem_nil⟩, ?_⟩
  refine k _ ?_
  · exact fun j hj _ => (hd_keep hB' (Nat.lt_of_lt_of_le hj (by decide +kernel)) (by simp)).trans (hF j (Nat.lt_of_lt_of_le hj (by decide)))
theorem j3rc_31 {Ls : Nat} {xs : Nat → Int32} {d : Nat} {Q : Option Value → jm_h → Prop} (hd : 1 ≤ d) (F : Nat → sy_d) (X1 X2 : List jm_c) (hB : iv_in F iv_B0)
    (a84 : 0 ≤ (sy_i F 84).toInt ∧ (sy_i F 84).toInt ≤ 6)
    (a85 : 0 ≤ (sy_i F 85).toInt ∧ (sy_i F 85).toInt ≤ 7)
    (a86 : 0 ≤ (sy_i F 86).toInt ∧ (sy_i F 86).toInt ≤ 7)
    (k0 : 0 < ((sy_i F 85).toInt - (sy_i F 86).toInt) → ∀ F1 : Nat → sy_d, iv_in F1 iv_B0 → (∀ j, j < 82 → j ∉ ([] : List Nat) → F1 j = F j) → (sy_i F1 82).toInt = (sy_i F 82).toInt → sy_i F1 82 = sy_i F 82 → (sy_i F1 83).toInt = ((sy_i F 83) * ((sy_i F 85) - (sy_i F 86))).toInt → sy_i F1 83 = (sy_i F 83) * ((sy_i F 85) - (sy_i F 86)) → (sy_i F1 84).toInt = ((sy_i F 84).toInt + 1) → sy_i F1 84 = (sy_i F 84) + ((1 : Int32)) → hd_W Ls xs d jm_M70 Q (5, sy_dL F1 [some (.inl (.ref 70)), some (.inl (.ref 20)), some (.inr (.inl 82)), some (.inr (.inl 83)), some (.inr (.inl 84)), none], sy_dS F1 [], sy_dh F1 X1 X2 (iv_H 3), 0, 0))
    (k1 : ((sy_i F 85).toInt - (sy_i F 86).toInt) ≤ 0 → ∀ F1 : Nat → sy_d, iv_in F1 iv_B0 → (∀ j, j < 82 → j ∉ ([] : List Nat) → F1 j = F j) → Q (some (.int ((0 : Int32)))) (sy_dh F1 X1 X2 (iv_H 3))) :
    hd_W Ls xs d jm_M70 Q (31, sy_dL F [some (.inl (.ref 70)), some (.inl (.ref 20)), some (.inr (.inl 82)), some (.inr (.inl 83)), some (.inr (.inl 84)), none], sy_dS F [.inr (.inl 86), .inr (.inl 85)], sy_dh F X1 X2 (iv_H 3), 0, 0) := by
  by_cases g0 : 0 < ((sy_i F 85).toInt - (sy_i F 86).toInt)
  · have n87 : nzI ((sy_i F 85) - (sy_i F 86)) (((sy_i F 85).toInt - (sy_i F 86).toInt)) := nz_sub (rfl : (sy_i F 85).toInt = (sy_i F 85).toInt) (rfl : (sy_i F 86).toInt = (sy_i F 86).toInt) (by omega) (by omega)
    have n88 : nzI ((sy_i F 83) * ((sy_i F 85) - (sy_i F 86))) (((sy_i F 83) * ((sy_i F 85) - (sy_i F 86))).toInt) := congrArg Int32.toInt (rfl : (sy_i F 83) * ((sy_i F 85) - (sy_i F 86)) = (sy_i F 83) * ((sy_i F 85) - (sy_i F 86)))
    have n89 : nzI ((sy_i F 84) + ((1 : Int32))) (((sy_i F 84).toInt + 1)) := nz_add (rfl : (sy_i F 84).toInt = (sy_i F 84).toInt) (by decide : ((1 : Int32)).toInt = 1) (by omega) (by omega)
    exact j3rc_31_p0 hd F X1 X2 hB (by first | (simp only [nz_c, (nzE n87)]; exact g0) | exact g0 | (rw [(nzE n87)]; exact g0)) (fun F1 g e82 e83 e84 => k0 g0 F1 (nz_in0 hB [] (fun j hj hn => g j hj (by simp only [List.mem_cons, List.not_mem_nil, or_false, not_or] at hn; exact trivial)) (List.forall_mem_nil _)) (fun j hj hn => g j hj (by simp only [List.mem_cons, List.not_mem_nil, or_false, not_or] at hn; exact trivial)) ((congrArg Int32.toInt (zz_i e82)).trans (rfl : (sy_i F 82).toInt = (sy_i F 82).toInt)) ((zz_i e82).trans (rfl : sy_i F 82 = sy_i F 82)) ((congrArg Int32.toInt (zz_i e83)).trans (nzE n88)) ((zz_i e83).trans (rfl : (sy_i F 83) * ((sy_i F 85) - (sy_i F 86)) = (sy_i F 83) * ((sy_i F 85) - (sy_i F 86)))) ((congrArg Int32.toInt (zz_i e84)).trans (nzE n89)) ((zz_i e84).trans (rfl : (sy_i F 84) + ((1 : Int32)) = (sy_i F 84) + ((1 : Int32)))))
  replace g0 : ((sy_i F 85).toInt - (sy_i F 86).toInt) ≤ 0 := by omega
  have n87 : nzI ((sy_i F 85) - (sy_i F 86)) (((sy_i F 85).toInt - (sy_i F 86).toInt)) := nz_sub (rfl : (sy_i F 85).toInt = (sy_i F 85).toInt) (rfl : (sy_i F 86).toInt = (sy_i F 86).toInt) (by omega) (by omega)
  exact j3rc_31_p1 hd F X1 X2 hB (by first | (simp only [nz_c, (nzE n87)]; exact g0) | exact g0 | (rw [(nzE n87)]; exact g0)) (fun F1 g  => k1 g0 F1 (nz_in0 hB [] (fun j hj hn => g j hj (by simp only [List.mem_cons, List.not_mem_nil, or_false, not_or] at hn; exact trivial)) (List.forall_mem_nil _)) (fun j hj hn => g j hj (by simp only [List.mem_cons, List.not_mem_nil, or_false, not_or] at hn; exact trivial)) )
theorem j3wd_0_p0 {Ls : Nat} {xs : Nat → Int32} {d : Nat} {Q : Option Value → jm_h → Prop} (hd : 1 ≤ d) (F : Nat → sy_d) (X1 X2 : List jm_c) (hB : iv_in F iv_B0)
    (k : ∀ F1 : Nat → sy_d, (∀ j, j < 82 → True → F1 j = F j) → F1 82 = .inl (.int (sy_i F 82)) → F1 83 = .inl (.int ((0 : Int32))) → F1 84 = .inl (.int ((1 : Int32))) → hd_W Ls xs d jm_M73 Q (5, sy_dL F1 [some (.inl (.ref 70)), some (.inl (.ref 20)), some (.inr (.inl 82)), some (.inr (.inl 83)), some (.inr (.inl 84))], sy_dS F1 [], sy_dh F1 X1 X2 (iv_H 3), 0, 0)) :
    hd_W Ls xs d jm_M73 Q (0, sy_dL F [some (.inl (.ref 70)), some (.inl (.ref 20)), some (.inr (.inl 82)), none, none], sy_dS F [], sy_dh F X1 X2 (iv_H 3), 0, 0) := by
  refine hd_run (s := 3) (nv := 83) (pc := 5) (L := [some (.inl (.ref 70)), some (.inl (.ref 20)), some (.inr (.inl 82)), some (.inr (.inl 83)), some (.inr (.inl 84))]) (S := []) (uh := hd_ov (iv_id 0 iv_B0) []) (ul := [.inl (.inr (.inl 82)), .inl (.inl (.int 0)), .inl (.inl (.int 1))]) (f := true) (sp := [5]) (d0 := 0) (O := []) (T := []) (P := []) jm_ok73 (by decide +kernel) (by decide +kernel) hd F X1 X2 (fun F' hF hs => ?_)
  have b82 := hd_b (F := F) (F' := F') (k := 82) (hF 82 (by decide))
  have hB' : iv_in F' iv_B0 := iv_in_eq hB (fun j hj => hF j (Nat.lt_of_lt_of_le hj (by decide +kernel)))
  refine ⟨fun _ h => absurd h List.not_mem_nil, ?_⟩
  refine k _ ?_ ?_ ?_ ?_
  · exact fun j hj _ => (hd_keep hB' (Nat.lt_of_lt_of_le hj (by decide +kernel)) (by simp)).trans (hF j (Nat.lt_of_lt_of_le hj (by decide)))
  · exact hd_gi (x := .inr (.inl 82)) (by decide +kernel) b82
  · exact hd_gi (x := .inl (.int 0)) (by decide +kernel) rfl
  · exact hd_gi (x := .inl (.int 1)) (by decide +kernel) rfl
theorem j3wd_0 {Ls : Nat} {xs : Nat → Int32} {d : Nat} {Q : Option Value → jm_h → Prop} (hd : 1 ≤ d) (F : Nat → sy_d) (X1 X2 : List jm_c) (hB : iv_in F iv_B0)
    (k0 : ∀ F1 : Nat → sy_d, iv_in F1 iv_B0 → (∀ j, j < 82 → j ∉ ([] : List Nat) → F1 j = F j) → (sy_i F1 82).toInt = (sy_i F 82).toInt → sy_i F1 82 = sy_i F 82 → (sy_i F1 83).toInt = 0 → sy_i F1 83 = (0 : Int32) → (sy_i F1 84).toInt = 1 → sy_i F1 84 = (1 : Int32) → hd_W Ls xs d jm_M73 Q (5, sy_dL F1 [some (.inl (.ref 70)), some (.inl (.ref 20)), some (.inr (.inl 82)), some (.inr (.inl 83)), some (.inr (.inl 84))], sy_dS F1 [], sy_dh F1 X1 X2 (iv_H 3), 0, 0)) :
    hd_W Ls xs d jm_M73 Q (0, sy_dL F [some (.inl (.ref 70)), some (.inl (.ref 20)), some (.inr (.inl 82)), none, none], sy_dS F [], sy_dh F X1 X2 (iv_H 3), 0, 0) := by
  exact j3wd_0_p0 hd F X1 X2 hB  (fun F1 g e82 e83 e84 => k0 F1 (nz_in0 hB [] (fun j hj hn => g j hj (by simp only [List.mem_cons, List.not_mem_nil, or_false, not_or] at hn; exact trivial)) (List.forall_mem_nil _)) (fun j hj hn => g j hj (by simp only [List.mem_cons, List.not_mem_nil, or_false, not_or] at hn; exact trivial)) ((congrArg Int32.toInt (zz_i e82)).trans (rfl : (sy_i F 82).toInt = (sy_i F 82).toInt)) ((zz_i e82).trans (rfl : sy_i F 82 = sy_i F 82)) ((congrArg Int32.toInt (zz_i e83)).trans (by decide : ((0 : Int32)).toInt = 0)) ((zz_i e83).trans (rfl : (0 : Int32) = (0 : Int32))) ((congrArg Int32.toInt (zz_i e84)).trans (by decide : ((1 : Int32)).toInt = 1)) ((zz_i e84).trans (rfl : (1 : Int32) = (1 : Int32))))
theorem j3wd_5_p0 {Ls : Nat} {xs : Nat → Int32} {d : Nat} {Q : Option Value → jm_h → Prop} (hd : 1 ≤ d) (F : Nat → sy_d) (X1 X2 : List jm_c) (hB : iv_in F iv_B0)
    (h0 : (sy_i F 82).toInt ≤ (sy_i F 84).toInt)
    (k : ∀ F1 : Nat → sy_d, (∀ j, j < 82 → True → F1 j = F j) → Q (some (.int (sy_i F 83))) (sy_dh F1 X1 X2 (iv_H 3))) :
    hd_W Ls xs d jm_M73 Q (5, sy_dL F [some (.inl (.ref 70)), some (.inl (.ref 20)), some (.inr (.inl 82)), some (.inr (.inl 83)), some (.inr (.inl 84))], sy_dS F [], sy_dh F X1 X2 (iv_H 3), 0, 0) := by
  refine hd_ret (s := 3) (nv := 85) (v := some (.inr (.inl 83))) (uh := hd_ov (iv_id 0 iv_B0) []) (f := true) (sp := [22]) (d0 := 0) (O := [true]) (T := []) (P := [(4, .inr (.inl 82), .inr (.inl 84))]) jm_ok73 (by decide +kernel) (by decide +kernel) hd F X1 X2 (fun F' hF hs => ?_)
  have b82 := hd_b (F := F) (F' := F') (k := 82) (hF 82 (by decide))
  have b84 := hd_b (F := F) (F' := F') (k := 84) (hF 84 (by decide))
  have b83 := hd_b (F := F) (F' := F') (k := 83) (hF 83 (by decide))
  have hB' : iv_in F' iv_B0 := iv_in_eq hB (fun j hj => hF j (Nat.lt_of_lt_of_le hj (by decide +kernel)))
  have hk := k (sy_cm F' (hd_ov (iv_id 0 iv_B0) [] ++ [])) (fun j hj _ => (hd_keep hB' (Nat.lt_of_lt_of_le hj (by decide +kernel)) (by simp)).trans (hF j (Nat.lt_of_lt_of_le hj (by decide))))
  refine ⟨List.forall_mem_cons.mpr ⟨hd_p4 b82 b84 h0, fun _ h => absurd h List.not_mem_nil⟩, ?_⟩
  show Q (some (sy_dv F' (.inr (.inl 83)))) _
  rw [b83]
  exact hk
theorem j3wd_5_p1 {Ls : Nat} {xs : Nat → Int32} {d : Nat} {Q : Option Value → jm_h → Prop} (hd : 1 ≤ d) (F : Nat → sy_d) (X1 X2 : List jm_c) (hB : iv_in F iv_B0)
    (h0 : (sy_i F 84).toInt < (sy_i F 82).toInt)
    (h1 : 7 ≤ (sy_i F 84).toInt)
    (k : ∀ F1 : Nat → sy_d, (∀ j, j < 82 → True → F1 j = F j) → Q (some (.int (sy_i F 83))) (sy_dh F1 X1 X2 (iv_H 3))) :
    hd_W Ls xs d jm_M73 Q (5, sy_dL F [some (.inl (.ref 70)), some (.inl (.ref 20)), some (.inr (.inl 82)), some (.inr (.inl 83)), some (.inr (.inl 84))], sy_dS F [], sy_dh F X1 X2 (iv_H 3), 0, 0) := by
  refine hd_ret (s := 3) (nv := 85) (v := some (.inr (.inl 83))) (uh := hd_ov (iv_id 0 iv_B0) []) (f := true) (sp := [22]) (d0 := 0) (O := [false, true]) (T := []) (P := [(5, .inr (.inl 82), .inr (.inl 84)), (4, .inl (.int 7), .inr (.inl 84))]) jm_ok73 (by decide +kernel) (by decide +kernel) hd F X1 X2 (fun F' hF hs => ?_)
  have b82 := hd_b (F := F) (F' := F') (k := 82) (hF 82 (by decide))
  have b84 := hd_b (F := F) (F' := F') (k := 84) (hF 84 (by decide))
  have b83 := hd_b (F := F) (F' := F') (k := 83) (hF 83 (by decide))
  have hB' : iv_in F' iv_B0 := iv_in_eq hB (fun j hj => hF j (Nat.lt_of_lt_of_le hj (by decide +kernel)))
  have hk := k (sy_cm F' (hd_ov (iv_id 0 iv_B0) [] ++ [])) (fun j hj _ => (hd_keep hB' (Nat.lt_of_lt_of_le hj (by decide +kernel)) (by simp)).trans (hF j (Nat.lt_of_lt_of_le hj (by decide))))
  refine ⟨List.forall_mem_cons.mpr ⟨hd_p5 b82 b84 h0, List.forall_mem_cons.mpr ⟨hd_p4 rfl b84 (by have hc : ((7) : Int32).toInt = 7 := (by decide); omega), fun _ h => absurd h List.not_mem_nil⟩⟩, ?_⟩
  show Q (some (sy_dv F' (.inr (.inl 83)))) _
  rw [b83]
  exact hk
theorem j3wd_5_p2 {Ls : Nat} {xs : Nat → Int32} {d : Nat} {Q : Option Value → jm_h → Prop} (hd : 1 ≤ d) (F : Nat → sy_d) (X1 X2 : List jm_c) (hB : iv_in F iv_B0)
    (h0 : (sy_i F 84).toInt < (sy_i F 82).toInt)
    (h1 : (sy_i F 84).toInt < 7)
    (k : ∀ F1 : Nat → sy_d, (∀ j, j < 82 → True → F1 j = F j) → F1 82 = .inl (.int (sy_i F 82)) → F1 83 = .inl (.int (sy_i F 83)) → F1 84 = .inl (.int (sy_i F 84)) → hd_W Ls xs d jm_M73 Q (22, sy_dL F1 [some (.inl (.ref 70)), some (.inl (.ref 20)), some (.inr (.inl 82)), some (.inr (.inl 83)), some (.inr (.inl 84))], sy_dS F1 [.inr (.inl 84), .inl (.ref 20), .inl (.ref 70)], sy_dh F1 X1 X2 (iv_H 3), 0, 0)) :
    hd_W Ls xs d jm_M73 Q (5, sy_dL F [some (.inl (.ref 70)), some (.inl (.ref 20)), some (.inr (.inl 82)), some (.inr (.inl 83)), some (.inr (.inl 84))], sy_dS F [], sy_dh F X1 X2 (iv_H 3), 0, 0) := by
  refine hd_run (s := 3) (nv := 85) (pc := 22) (L := [some (.inl (.ref 70)), some (.inl (.ref 20)), some (.inr (.inl 82)), some (.inr (.inl 83)), some (.inr (.inl 84))]) (S := [.inr (.inl 84), .inl (.ref 20), .inl (.ref 70)]) (uh := hd_ov (iv_id 0 iv_B0) []) (ul := [.inl (.inr (.inl 82)), .inl (.inr (.inl 83)), .inl (.inr (.inl 84))]) (f := true) (sp := [22]) (d0 := 0) (O := [false, false]) (T := []) (P := [(5, .inr (.inl 82), .inr (.inl 84)), (5, .inl (.int 7), .inr (.inl 84))]) jm_ok73 (by decide +kernel) (by decide +kernel) hd F X1 X2 (fun F' hF hs => ?_)
  have b82 := hd_b (F := F) (F' := F') (k := 82) (hF 82 (by decide))
  have b84 := hd_b (F := F) (F' := F') (k := 84) (hF 84 (by decide))
  have b83 := hd_b (F := F) (F' := F') (k := 83) (hF 83 (by decide))
  have hB' : iv_in F' iv_B0 := iv_in_eq hB (fun j hj => hF j (Nat.lt_of_lt_of_le hj (by decide +kernel)))
  refine ⟨List.forall_mem_cons.mpr ⟨hd_p5 b82 b84 h0, List.forall_mem_cons.mpr ⟨hd_p5 rfl b84 (by have hc : ((7) : Int32).toInt = 7 := (by decide); omega), fun _ h => absurd h List.not_mem_nil⟩⟩, ?_⟩
  refine k _ ?_ ?_ ?_ ?_
  · exact fun j hj _ => (hd_keep hB' (Nat.lt_of_lt_of_le hj (by decide +kernel)) (by simp)).trans (hF j (Nat.lt_of_lt_of_le hj (by decide)))
  · exact hd_gi (x := .inr (.inl 82)) (by decide +kernel) b82
  · exact hd_gi (x := .inr (.inl 83)) (by decide +kernel) b83
  · exact hd_gi (x := .inr (.inl 84)) (by decide +kernel) b84
theorem j3wd_5 {Ls : Nat} {xs : Nat → Int32} {d : Nat} {Q : Option Value → jm_h → Prop} (hd : 1 ≤ d) (F : Nat → sy_d) (X1 X2 : List jm_c) (hB : iv_in F iv_B0)
    (a84 : 1 ≤ (sy_i F 84).toInt ∧ (sy_i F 84).toInt ≤ 7)
    (k0 : (sy_i F 82).toInt ≤ (sy_i F 84).toInt → ∀ F1 : Nat → sy_d, iv_in F1 iv_B0 → (∀ j, j < 82 → j ∉ ([] : List Nat) → F1 j = F j) → Q (some (.int (sy_i F 83))) (sy_dh F1 X1 X2 (iv_H 3)))
    (k1 : (sy_i F 84).toInt < (sy_i F 82).toInt → 7 ≤ (sy_i F 84).toInt → ∀ F1 : Nat → sy_d, iv_in F1 iv_B0 → (∀ j, j < 82 → j ∉ ([] : List Nat) → F1 j = F j) → Q (some (.int (sy_i F 83))) (sy_dh F1 X1 X2 (iv_H 3)))
    (k2 : (sy_i F 84).toInt < (sy_i F 82).toInt → (sy_i F 84).toInt < 7 → ∀ F1 : Nat → sy_d, iv_in F1 iv_B0 → (∀ j, j < 82 → j ∉ ([] : List Nat) → F1 j = F j) → (sy_i F1 82).toInt = (sy_i F 82).toInt → sy_i F1 82 = sy_i F 82 → (sy_i F1 83).toInt = (sy_i F 83).toInt → sy_i F1 83 = sy_i F 83 → (sy_i F1 84).toInt = (sy_i F 84).toInt → sy_i F1 84 = sy_i F 84 → hd_W Ls xs d jm_M73 Q (22, sy_dL F1 [some (.inl (.ref 70)), some (.inl (.ref 20)), some (.inr (.inl 82)), some (.inr (.inl 83)), some (.inr (.inl 84))], sy_dS F1 [.inr (.inl 84), .inl (.ref 20), .inl (.ref 70)], sy_dh F1 X1 X2 (iv_H 3), 0, 0)) :
    hd_W Ls xs d jm_M73 Q (5, sy_dL F [some (.inl (.ref 70)), some (.inl (.ref 20)), some (.inr (.inl 82)), some (.inr (.inl 83)), some (.inr (.inl 84))], sy_dS F [], sy_dh F X1 X2 (iv_H 3), 0, 0) := by
  by_cases g0 : (sy_i F 82).toInt ≤ (sy_i F 84).toInt
  · exact j3wd_5_p0 hd F X1 X2 hB (by first | exact g0 | (simp only [nz_c]; exact g0)) (fun F1 g  => by rw [(rfl : sy_i F 83 = sy_i F 83)]; exact k0 g0 F1 (nz_in0 hB [] (fun j hj hn => g j hj (by simp only [List.mem_cons, List.not_mem_nil, or_false, not_or] at hn; exact trivial)) (List.forall_mem_nil _)) (fun j hj hn => g j hj (by simp only [List.mem_cons, List.not_mem_nil, or_false, not_or] at hn; exact trivial)) )
  replace g0 : (sy_i F 84).toInt < (sy_i F 82).toInt := by omega
  by_cases g1 : 7 ≤ (sy_i F 84).toInt
  · exact j3wd_5_p1 hd F X1 X2 hB (by first | exact g0 | (simp only [nz_c]; exact g0)) (by first | exact g1 | (simp only [nz_c]; exact g1)) (fun F1 g  => by rw [(rfl : sy_i F 83 = sy_i F 83)]; exact k1 g0 g1 F1 (nz_in0 hB [] (fun j hj hn => g j hj (by simp only [List.mem_cons, List.not_mem_nil, or_false, not_or] at hn; exact trivial)) (List.forall_mem_nil _)) (fun j hj hn => g j hj (by simp only [List.mem_cons, List.not_mem_nil, or_false, not_or] at hn; exact trivial)) )
  replace g1 : (sy_i F 84).toInt < 7 := by omega
  exact j3wd_5_p2 hd F X1 X2 hB (by first | exact g0 | (simp only [nz_c]; exact g0)) (by first | exact g1 | (simp only [nz_c]; exact g1)) (fun F1 g e82 e83 e84 => k2 g0 g1 F1 (nz_in0 hB [] (fun j hj hn => g j hj (by simp only [List.mem_cons, List.not_mem_nil, or_false, not_or] at hn; exact trivial)) (List.forall_mem_nil _)) (fun j hj hn => g j hj (by simp only [List.mem_cons, List.not_mem_nil, or_false, not_or] at hn; exact trivial)) ((congrArg Int32.toInt (zz_i e82)).trans (rfl : (sy_i F 82).toInt = (sy_i F 82).toInt)) ((zz_i e82).trans (rfl : sy_i F 82 = sy_i F 82)) ((congrArg Int32.toInt (zz_i e83)).trans (rfl : (sy_i F 83).toInt = (sy_i F 83).toInt)) ((zz_i e83).trans (rfl : sy_i F 83 = sy_i F 83)) ((congrArg Int32.toInt (zz_i e84)).trans (rfl : (sy_i F 84).toInt = (sy_i F 84).toInt)) ((zz_i e84).trans (rfl : sy_i F 84 = sy_i F 84)))
theorem j3wd_25_p0 {Ls : Nat} {xs : Nat → Int32} {d : Nat} {Q : Option Value → jm_h → Prop} (hd : 1 ≤ d) (F : Nat → sy_d) (X1 X2 : List jm_c) (hB : iv_in F iv_B0)
    (k : ∀ F1 : Nat → sy_d, (∀ j, j < 82 → True → F1 j = F j) → F1 82 = .inl (.int (sy_i F 82)) → F1 83 = .inl (.int (sy_i F 83)) → F1 84 = .inl (.int (sy_i F 84)) → F1 85 = .inl (.int (sy_i F 85)) → hd_W Ls xs d jm_M73 Q (28, sy_dL F1 [some (.inl (.ref 70)), some (.inl (.ref 20)), some (.inr (.inl 82)), some (.inr (.inl 83)), some (.inr (.inl 84))], sy_dS F1 [.inr (.inl 83), .inl (.ref 20), .inl (.ref 70), .inr (.inl 85)], sy_dh F1 X1 X2 (iv_H 3), 0, 0)) :
    hd_W Ls xs d jm_M73 Q (25, sy_dL F [some (.inl (.ref 70)), some (.inl (.ref 20)), some (.inr (.inl 82)), some (.inr (.inl 83)), some (.inr (.inl 84))], sy_dS F [.inr (.inl 85)], sy_dh F X1 X2 (iv_H 3), 0, 0) := by
  refine hd_run (s := 3) (nv := 86) (pc := 28) (L := [some (.inl (.ref 70)), some (.inl (.ref 20)), some (.inr (.inl 82)), some (.inr (.inl 83)), some (.inr (.inl 84))]) (S := [.inr (.inl 83), .inl (.ref 20), .inl (.ref 70), .inr (.inl 85)]) (uh := hd_ov (iv_id 0 iv_B0) []) (ul := [.inl (.inr (.inl 82)), .inl (.inr (.inl 83)), .inl (.inr (.inl 84)), .inl (.inr (.inl 85))]) (f := false) (sp := [28]) (d0 := 0) (O := []) (T := []) (P := []) jm_ok73 (by decide +kernel) (by decide +kernel) hd F X1 X2 (fun F' hF hs => ?_)
  have b82 := hd_b (F := F) (F' := F') (k := 82) (hF 82 (by decide))
  have b83 := hd_b (F := F) (F' := F') (k := 83) (hF 83 (by decide))
  have b84 := hd_b (F := F) (F' := F') (k := 84) (hF 84 (by decide))
  have b85 := hd_b (F := F) (F' := F') (k := 85) (hF 85 (by decide))
  have hB' : iv_in F' iv_B0 := iv_in_eq hB (fun j hj => hF j (Nat.lt_of_lt_of_le hj (by decide +kernel)))
  refine ⟨fun _ h => absurd h List.not_mem_nil, ?_⟩
  refine k _ ?_ ?_ ?_ ?_ ?_
  · exact fun j hj _ => (hd_keep hB' (Nat.lt_of_lt_of_le hj (by decide +kernel)) (by simp)).trans (hF j (Nat.lt_of_lt_of_le hj (by decide)))
  · exact hd_gi (x := .inr (.inl 82)) (by decide +kernel) b82
  · exact hd_gi (x := .inr (.inl 83)) (by decide +kernel) b83
  · exact hd_gi (x := .inr (.inl 84)) (by decide +kernel) b84
  · exact hd_gi (x := .inr (.inl 85)) (by decide +kernel) b85
theorem j3wd_25 {Ls : Nat} {xs : Nat → Int32} {d : Nat} {Q : Option Value → jm_h → Prop} (hd : 1 ≤ d) (F : Nat → sy_d) (X1 X2 : List jm_c) (hB : iv_in F iv_B0)
    (k0 : ∀ F1 : Nat → sy_d, iv_in F1 iv_B0 → (∀ j, j < 82 → j ∉ ([] : List Nat) → F1 j = F j) → (sy_i F1 82).toInt = (sy_i F 82).toInt → sy_i F1 82 = sy_i F 82 → (sy_i F1 83).toInt = (sy_i F 83).toInt → sy_i F1 83 = sy_i F 83 → (sy_i F1 84).toInt = (sy_i F 84).toInt → sy_i F1 84 = sy_i F 84 → (sy_i F1 85).toInt = (sy_i F 85).toInt → sy_i F1 85 = sy_i F 85 → hd_W Ls xs d jm_M73 Q (28, sy_dL F1 [some (.inl (.ref 70)), some (.inl (.ref 20)), some (.inr (.inl 82)), some (.inr (.inl 83)), some (.inr (.inl 84))], sy_dS F1 [.inr (.inl 83), .inl (.ref 20), .inl (.ref 70), .inr (.inl 85)], sy_dh F1 X1 X2 (iv_H 3), 0, 0)) :
    hd_W Ls xs d jm_M73 Q (25, sy_dL F [some (.inl (.ref 70)), some (.inl (.ref 20)), some (.inr (.inl 82)), some (.inr (.inl 83)), some (.inr (.inl 84))], sy_dS F [.inr (.inl 85)], sy_dh F X1 X2 (iv_H 3), 0, 0) := by
  exact j3wd_25_p0 hd F X1 X2 hB  (fun F1 g e82 e83 e84 e85 => k0 F1 (nz_in0 hB [] (fun j hj hn => g j hj (by simp only [List.mem_cons, List.not_mem_nil, or_false, not_or] at hn; exact trivial)) (List.forall_mem_nil _)) (fun j hj hn => g j hj (by simp only [List.mem_cons, List.not_mem_nil, or_false, not_or] at hn; exact trivial)) ((congrArg Int32.toInt (zz_i e82)).trans (rfl : (sy_i F 82).toInt = (sy_i F 82).toInt)) ((zz_i e82).trans (rfl : sy_i F 82 = sy_i F 82)) ((congrArg Int32.toInt (zz_i e83)).trans (rfl : (sy_i F 83).toInt = (sy_i F 83).toInt)) ((zz_i e83).trans (rfl : sy_i F 83 = sy_i F 83)) ((congrArg Int32.toInt (zz_i e84)).trans (rfl : (sy_i F 84).toInt = (sy_i F 84).toInt)) ((zz_i e84).trans (rfl : sy_i F 84 = sy_i F 84)) ((congrArg Int32.toInt (zz_i e85)).trans (rfl : (sy_i F 85).toInt = (sy_i F 85).toInt)) ((zz_i e85).trans (rfl : sy_i F 85 = sy_i F 85)))
theorem j3wd_31_p0 {Ls : Nat} {xs : Nat → Int32} {d : Nat} {Q : Option Value → jm_h → Prop} (hd : 1 ≤ d) (F : Nat → sy_d) (X1 X2 : List jm_c) (hB : iv_in F iv_B0)
    (h0 : (sy_i F 85).toInt ≤ (sy_i F 86).toInt)
    (k : ∀ F1 : Nat → sy_d, (∀ j, j < 82 → True → F1 j = F j) → F1 82 = .inl (.int (sy_i F 82)) → F1 83 = .inl (.int (sy_i F 83)) → F1 84 = .inl (.int ((sy_i F 84) + ((1 : Int32)))) → hd_W Ls xs d jm_M73 Q (5, sy_dL F1 [some (.inl (.ref 70)), some (.inl (.ref 20)), some (.inr (.inl 82)), some (.inr (.inl 83)), some (.inr (.inl 84))], sy_dS F1 [], sy_dh F1 X1 X2 (iv_H 3), 0, 0)) :
    hd_W Ls xs d jm_M73 Q (31, sy_dL F [some (.inl (.ref 70)), some (.inl (.ref 20)), some (.inr (.inl 82)), some (.inr (.inl 83)), some (.inr (.inl 84))], sy_dS F [.inr (.inl 86), .inr (.inl 85)], sy_dh F X1 X2 (iv_H 3), 0, 0) := by
  refine hd_run (s := 3) (nv := 87) (pc := 5) (L := [some (.inl (.ref 70)), some (.inl (.ref 20)), some (.inr (.inl 82)), some (.inr (.inl 83)), some (.inr (.inl 84))]) (S := []) (uh := hd_ov (iv_id 0 iv_B0) []) (ul := [.inl (.inr (.inl 82)), .inl (.inr (.inl 83)), .inl (.inr (.inl 87))]) (f := false) (sp := [5]) (d0 := 0) (O := [true]) (T := [(0, [.inr (.inl 84), .inl (.int 1)], [])]) (P := [(4, .inr (.inl 85), .inr (.inl 86))]) jm_ok73 (by decide +kernel) (by decide +kernel) hd F X1 X2 (fun F' hF hs => ?_)
  have b85 := hd_b (F := F) (F' := F') (k := 85) (hF 85 (by decide))
  have b86 := hd_b (F := F) (F' := F') (k := 86) (hF 86 (by decide))
  have b82 := hd_b (F := F) (F' := F') (k := 82) (hF 82 (by decide))
  have b83 := hd_b (F := F) (F' := F') (k := 83) (hF 83 (by decide))
  have b84 := hd_b (F := F) (F' := F') (k := 84) (hF 84 (by decide))
  have t87 : sy_dv F' (.inr (.inl 87)) = .int ((sy_i F 84) + ((1 : Int32))) := hd_o (hs 0 _ rfl) b84 rfl rfl
  have hB' : iv_in F' iv_B0 := iv_in_eq hB (fun j hj => hF j (Nat.lt_of_lt_of_le hj (by decide +kernel)))
  refine ⟨List.forall_mem_cons.mpr ⟨hd_p4 b85 b86 h0, fun _ h => absurd h List.not_mem_nil⟩, ?_⟩
  refine k _ ?_ ?_ ?_ ?_
  · exact fun j hj _ => (hd_keep hB' (Nat.lt_of_lt_of_le hj (by decide +kernel)) (by simp)).trans (hF j (Nat.lt_of_lt_of_le hj (by decide)))
  · exact hd_gi (x := .inr (.inl 82)) (by decide +kernel) b82
  · exact hd_gi (x := .inr (.inl 83)) (by decide +kernel) b83
  · exact hd_gi (x := .inr (.inl 87)) (by decide +kernel) t87
theorem j3wd_31_p1 {Ls : Nat} {xs : Nat → Int32} {d : Nat} {Q : Option Value → jm_h → Prop} (hd : 1 ≤ d) (F : Nat → sy_d) (X1 X2 : List jm_c) (hB : iv_in F iv_B0)
    (h0 : (sy_i F 86).toInt < (sy_i F 85).toInt)
    (k : ∀ F1 : Nat → sy_d, (∀ j, j < 82 → True → F1 j = F j) → F1 82 = .inl (.int (sy_i F 82)) → F1 83 = .inl (.int (sy_i F 84)) → F1 84 = .inl (.int ((sy_i F 84) + ((1 : Int32)))) → hd_W Ls xs d jm_M73 Q (5, sy_dL F1 [some (.inl (.ref 70)), some (.inl (.ref 20)), some (.inr (.inl 82)), some (.inr (.inl 83)), some (.inr (.inl 84))], sy_dS F1 [], sy_dh F1 X1 X2 (iv_H 3), 0, 0)) :
    hd_W Ls xs d jm_M73 Q (31, sy_dL F [some (.inl (.ref 70)), some (.inl (.ref 20)), some (.inr (.inl 82)), some (.inr (.inl 83)), some (.inr (.inl 84))], sy_dS F [.inr (.inl 86), .inr (.inl 85)], sy_dh F X1 X2 (iv_H 3), 0, 0) := by
  refine hd_run (s := 3) (nv := 87) (pc := 5) (L := [some (.inl (.ref 70)), some (.inl (.ref 20)), some (.inr (.inl 82)), some (.inr (.inl 83)), some (.inr (.inl 84))]) (S := []) (uh := hd_ov (iv_id 0 iv_B0) []) (ul := [.inl (.inr (.inl 82)), .inl (.inr (.inl 84)), .inl (.inr (.inl 87))]) (f := false) (sp := [5]) (d0 := 0) (O := [false]) (T := [(0, [.inr (.inl 84), .inl (.int 1)], [])]) (P := [(5, .inr (.inl 85), .inr (.inl 86))]) jm_ok73 (by decide +kernel) (by decide +kernel) hd F X1 X2 (fun F' hF hs => ?_)
  have b85 := hd_b (F := F) (F' := F') (k := 85) (hF 85 (by decide))
  have b86 := hd_b (F := F) (F' := F') (k := 86) (hF 86 (by decide))
  have b82 := hd_b (F := F) (F' := F') (k := 82) (hF 82 (by decide))
  have b84 := hd_b (F := F) (F' := F') (k := 84) (hF 84 (by decide))
  have t87 : sy_dv F' (.inr (.inl 87)) = .int ((sy_i F 84) + ((1 : Int32))) := hd_o (hs 0 _ rfl) b84 rfl rfl
  have hB' : iv_in F' iv_B0 := iv_in_eq hB (fun j hj => hF j (Nat.lt_of_lt_of_le hj (by decide +kernel)))
  refine ⟨List.forall_mem_cons.mpr ⟨hd_p5 b85 b86 h0, fun _ h => absurd h List.not_mem_nil⟩, ?_⟩
  refine k _ ?_ ?_ ?_ ?_
  · exact fun j hj _ => (hd_keep hB' (Nat.lt_of_lt_of_le hj (by decide +kernel)) (by simp)).trans (hF j (Nat.lt_of_lt_of_le hj (by decide)))
  · exact hd_gi (x := .inr (.inl 82)) (by decide +kernel) b82
  · exact hd_gi (x := .inr (.inl 84)) (by decide +kernel) b84
  · exact hd_gi (x := .inr (.inl 87)) (by decide +kernel) t87
theorem j3wd_31 {Ls : Nat} {xs : Nat → Int32} {d : Nat} {Q : Option Value → jm_h → Prop} (hd : 1 ≤ d) (F : Nat → sy_d) (X1 X2 : List jm_c) (hB : iv_in F iv_B0)
    (a84 : 1 ≤ (sy_i F 84).toInt ∧ (sy_i F 84).toInt ≤ 6)
    (k0 : (sy_i F 85).toInt ≤ (sy_i F 86).toInt → ∀ F1 : Nat → sy_d, iv_in F1 iv_B0 → (∀ j, j < 82 → j ∉ ([] : List Nat) → F1 j = F j) → (sy_i F1 82).toInt = (sy_i F 82).toInt → sy_i F1 82 = sy_i F 82 → (sy_i F1 83).toInt = (sy_i F 83).toInt → sy_i F1 83 = sy_i F 83 → (sy_i F1 84).toInt = ((sy_i F 84).toInt + 1) → sy_i F1 84 = (sy_i F 84) + ((1 : Int32)) → hd_W Ls xs d jm_M73 Q (5, sy_dL F1 [some (.inl (.ref 70)), some (.inl (.ref 20)), some (.inr (.inl 82)), some (.inr (.inl 83)), some (.inr (.inl 84))], sy_dS F1 [], sy_dh F1 X1 X2 (iv_H 3), 0, 0))
    (k1 : (sy_i F 86).toInt < (sy_i F 85).toInt → ∀ F1 : Nat → sy_d, iv_in F1 iv_B0 → (∀ j, j < 82 → j ∉ ([] : List Nat) → F1 j = F j) → (sy_i F1 82).toInt = (sy_i F 82).toInt → sy_i F1 82 = sy_i F 82 → (sy_i F1 83).toInt = (sy_i F 84).toInt → sy_i F1 83 = sy_i F 84 → (sy_i F1 84).toInt = ((sy_i F 84).toInt + 1) → sy_i F1 84 = (sy_i F 84) + ((1 : Int32)) → hd_W Ls xs d jm_M73 Q (5, sy_dL F1 [some (.inl (.ref 70)), some (.inl (.ref 20)), some (.inr (.inl 82)), some (.inr (.inl 83)), some (.inr (.inl 84))], sy_dS F1 [], sy_dh F1 X1 X2 (iv_H 3), 0, 0)) :
    hd_W Ls xs d jm_M73 Q (31, sy_dL F [some (.inl (.ref 70)), some (.inl (.ref 20)), some (.inr (.inl 82)), some (.inr (.inl 83)), some (.inr (.inl 84))], sy_dS F [.inr (.inl 86), .inr (.inl 85)], sy_dh F X1 X2 (iv_H 3), 0, 0) := by
  by_cases g0 : (sy_i F 85).toInt ≤ (sy_i F 86).toInt
  · have n87 : nzI ((sy_i F 84) + ((1 : Int32))) (((sy_i F 84).toInt + 1)) := nz_add (rfl : (sy_i F 84).toInt = (sy_i F 84).toInt) (by decide : ((1 : Int32)).toInt = 1) (by omega) (by omega)
    exact j3wd_31_p0 hd F X1 X2 hB (by first | exact g0 | (simp only [nz_c]; exact g0)) (fun F1 g e82 e83 e84 => k0 g0 F1 (nz_in0 hB [] (fun j hj hn => g j hj (by simp only [List.mem_cons, List.not_mem_nil, or_false, not_or] at hn; exact trivial)) (List.forall_mem_nil _)) (fun j hj hn => g j hj (by simp only [List.mem_cons, List.not_mem_nil, or_false, not_or] at hn; exact trivial)) ((congrArg Int32.toInt (zz_i e82)).trans (rfl : (sy_i F 82).toInt = (sy_i F 82).toInt)) ((zz_i e82).trans (rfl : sy_i F 82 = sy_i F 82)) ((congrArg Int32.toInt (zz_i e83)).trans (rfl : (sy_i F 83).toInt = (sy_i F 83).toInt)) ((zz_i e83).trans (rfl : sy_i F 83 = sy_i F 83)) ((congrArg Int32.toInt (zz_i e84)).trans (nzE n87)) ((zz_i e84).trans (rfl : (sy_i F 84) + ((1 : Int32)) = (sy_i F 84) + ((1 : Int32)))))
  replace g0 : (sy_i F 86).toInt < (sy_i F 85).toInt := by omega
  have n87 : nzI ((sy_i F 84) + ((1 : Int32))) (((sy_i F 84).toInt + 1)) := nz_add (rfl : (sy_i F 84).toInt = (sy_i F 84).toInt) (by decide : ((1 : Int32)).toInt = 1) (by omega) (by omega)
  exact j3wd_31_p1 hd F X1 X2 hB (by first | exact g0 | (simp only [nz_c]; exact g0)) (fun F1 g e82 e83 e84 => k1 g0 F1 (nz_in0 hB [] (fun j hj hn => g j hj (by simp only [List.mem_cons, List.not_mem_nil, or_false, not_or] at hn; exact trivial)) (List.forall_mem_nil _)) (fun j hj hn => g j hj (by simp only [List.mem_cons, List.not_mem_nil, or_false, not_or] at hn; exact trivial)) ((congrArg Int32.toInt (zz_i e82)).trans (rfl : (sy_i F 82).toInt = (sy_i F 82).toInt)) ((zz_i e82).trans (rfl : sy_i F 82 = sy_i F 82)) ((congrArg Int32.toInt (zz_i e83)).trans (rfl : (sy_i F 84).toInt = (sy_i F 84).toInt)) ((zz_i e83).trans (rfl : sy_i F 84 = sy_i F 84)) ((congrArg Int32.toInt (zz_i e84)).trans (nzE n87)) ((zz_i e84).trans (rfl : (sy_i F 84) + ((1 : Int32)) = (sy_i F 84) + ((1 : Int32)))))
theorem j3rw_0_p0 {Ls : Nat} {xs : Nat → Int32} {d : Nat} {Q : Option Value → jm_h → Prop} (hd : 2 ≤ d) (F : Nat → sy_d) (X1 X2 : List jm_c) (hB : iv_in F iv_B0)
    (h0 : (sy_i F 82).toInt < 0)
    (k : ∀ F1 : Nat → sy_d, (∀ j, j < 82 → True → F1 j = F j) → Q (some (.int (((-1) : Int32)))) (sy_dh F1 X1 X2 (iv_H 3))) :
    hd_W Ls xs d jm_M110 Q (0, sy_dL F [some (.inl (.ref 8)), some (.inr (.inl 82))], sy_dS F [], sy_dh F X1 X2 (iv_H 3), 0, 0) := by
  refine hd_ret (s := 3) (nv := 83) (v := some (.inl (.int (-1)))) (uh := hd_ov (iv_id 0 iv_B0) []) (f := true) (sp := [24]) (d0 := 1) (O := [true]) (T := []) (P := [(2, .inr (.inl 82), .inl (.int 0))]) jm_ok110 (by decide +kernel) (by decide +kernel) hd F X1 X2 (fun F' hF hs => ?_)
  have b82 := hd_b (F := F) (F' := F') (k := 82) (hF 82 (by decide))
  have hB' : iv_in F' iv_B0 := iv_in_eq hB (fun j hj => hF j (Nat.lt_of_lt_of_le hj (by decide +kernel)))
  refine ⟨List.forall_mem_cons.mpr ⟨hd_p2 b82 rfl (by have hc : ((0) : Int32).toInt = 0 := (by decide); omega), fun _ h => absurd h List.not_mem_nil⟩, ?_⟩
  refine k _ ?_
  · exact fun j hj _ => (hd_keep hB' (Nat.lt_of_lt_of_le hj (by decide +kernel)) (by simp)).trans (hF j (Nat.lt_of_lt_of_le hj (by decide)))
theorem j3rw_0_p1 {Ls : Nat} {xs : Nat → Int32} {d : Nat} {Q : Option Value → jm_h → Prop} (hd : 2 ≤ d) (F : Nat → sy_d) (X1 X2 : List jm_c) (hB : iv_in F iv_B0)
    (h0 : 0 ≤ (sy_i F 82).toInt)
    (h1 : (sy_i F 79).toInt < (sy_i F 82).toInt)
    (k : ∀ F1 : Nat → sy_d, (∀ j, j < 82 → True → F1 j = F j) → Q (some (.int (((-1) : Int32)))) (sy_dh F1 X1 X2 (iv_H 3))) :
    hd_W Ls xs d jm_M110 Q (0, sy_dL F [some (.inl (.ref 8)), some (.inr (.inl 82))], sy_dS F [], sy_dh F X1 X2 (iv_H 3), 0, 0) := by
  refine hd_ret (s := 3) (nv := 83) (v := some (.inl (.int (-1)))) (uh := hd_ov (iv_id 0 iv_B0) []) (f := true) (sp := [24]) (d0 := 1) (O := [false, true]) (T := []) (P := [(3, .inr (.inl 82), .inl (.int 0)), (2, .inr (.inl 79), .inr (.inl 82))]) jm_ok110 (by decide +kernel) (by decide +kernel) hd F X1 X2 (fun F' hF hs => ?_)
  have b82 := hd_b (F := F) (F' := F') (k := 82) (hF 82 (by decide))
  have b79 := hd_b (F := F) (F' := F') (k := 79) (hF 79 (by decide))
  have hB' : iv_in F' iv_B0 := iv_in_eq hB (fun j hj => hF j (Nat.lt_of_lt_of_le hj (by decide +kernel)))
  refine ⟨List.forall_mem_cons.mpr ⟨hd_p3 b82 rfl (by have hc : ((0) : Int32).toInt = 0 := (by decide); omega), List.forall_mem_cons.mpr ⟨hd_p2 b79 b82 h1, fun _ h => absurd h List.not_mem_nil⟩⟩, ?_⟩
  refine k _ ?_
  · exact fun j hj _ => (hd_keep hB' (Nat.lt_of_lt_of_le hj (by decide +kernel)) (by simp)).trans (hF j (Nat.lt_of_lt_of_le hj (by decide)))
theorem j3rw_0_p2 {Ls : Nat} {xs : Nat → Int32} {d : Nat} {Q : Option Value → jm_h → Prop} (hd : 2 ≤ d) (F : Nat → sy_d) (X1 X2 : List jm_c) (hB : iv_in F iv_B0)
    (h0 : 0 ≤ (sy_i F 82).toInt)
    (h1 : (sy_i F 82).toInt ≤ (sy_i F 79).toInt)
    (k : ∀ F1 : Nat → sy_d, (∀ j, j < 82 → True → F1 j = F j) → F1 82 = .inl (.int (sy_i F 82)) → hd_W Ls xs d jm_M110 Q (24, sy_dL F1 [some (.inl (.ref 8)), none], sy_dS F1 [.inr (.inl 82), .inl (.ref 20), .inl (.ref 70)], sy_dh F1 X1 X2 (iv_H 3), 0, 0)) :
    hd_W Ls xs d jm_M110 Q (0, sy_dL F [some (.inl (.ref 8)), some (.inr (.inl 82))], sy_dS F [], sy_dh F X1 X2 (iv_H 3), 0, 0) := by
  refine hd_run (s := 3) (nv := 83) (pc := 24) (L := [some (.inl (.ref 8)), none]) (S := [.inr (.inl 82), .inl (.ref 20), .inl (.ref 70)]) (uh := hd_ov (iv_id 0 iv_B0) []) (ul := [.inl (.inr (.inl 82))]) (f := true) (sp := [24]) (d0 := 1) (O := [false, false]) (T := []) (P := [(3, .inr (.inl 82), .inl (.int 0)), (3, .inr (.inl 79), .inr (.inl 82))]) jm_ok110 (by decide +kernel) (by decide +kernel) hd F X1 X2 (fun F' hF hs => ?_)
  have b82 := hd_b (F := F) (F' := F') (k := 82) (hF 82 (by decide))
  have b79 := hd_b (F := F) (F' := F') (k := 79) (hF 79 (by decide))
  have hB' : iv_in F' iv_B0 := iv_in_eq hB (fun j hj => hF j (Nat.lt_of_lt_of_le hj (by decide +kernel)))
  refine ⟨List.forall_mem_cons.mpr ⟨hd_p3 b82 rfl (by have hc : ((0) : Int32).toInt = 0 := (by decide); omega), List.forall_mem_cons.mpr ⟨hd_p3 b79 b82 h1, fun _ h => absurd h List.not_mem_nil⟩⟩, ?_⟩
  refine k _ ?_ ?_
  · exact fun j hj _ => (hd_keep hB' (Nat.lt_of_lt_of_le hj (by decide +kernel)) (by simp)).trans (hF j (Nat.lt_of_lt_of_le hj (by decide)))
  · exact hd_gi (x := .inr (.inl 82)) (by decide +kernel) b82
theorem j3rw_0 {Ls : Nat} {xs : Nat → Int32} {d : Nat} {Q : Option Value → jm_h → Prop} (hd : 2 ≤ d) (F : Nat → sy_d) (X1 X2 : List jm_c) (hB : iv_in F iv_B0)
    (k0 : (sy_i F 82).toInt < 0 → ∀ F1 : Nat → sy_d, iv_in F1 iv_B0 → (∀ j, j < 82 → j ∉ ([] : List Nat) → F1 j = F j) → Q (some (.int (((-1) : Int32)))) (sy_dh F1 X1 X2 (iv_H 3)))
    (k1 : 0 ≤ (sy_i F 82).toInt → (sy_i F 79).toInt < (sy_i F 82).toInt → ∀ F1 : Nat → sy_d, iv_in F1 iv_B0 → (∀ j, j < 82 → j ∉ ([] : List Nat) → F1 j = F j) → Q (some (.int (((-1) : Int32)))) (sy_dh F1 X1 X2 (iv_H 3)))
    (k2 : 0 ≤ (sy_i F 82).toInt → (sy_i F 82).toInt ≤ (sy_i F 79).toInt → ∀ F1 : Nat → sy_d, iv_in F1 iv_B0 → (∀ j, j < 82 → j ∉ ([] : List Nat) → F1 j = F j) → (sy_i F1 82).toInt = (sy_i F 82).toInt → sy_i F1 82 = sy_i F 82 → hd_W Ls xs d jm_M110 Q (24, sy_dL F1 [some (.inl (.ref 8)), none], sy_dS F1 [.inr (.inl 82), .inl (.ref 20), .inl (.ref 70)], sy_dh F1 X1 X2 (iv_H 3), 0, 0)) :
    hd_W Ls xs d jm_M110 Q (0, sy_dL F [some (.inl (.ref 8)), some (.inr (.inl 82))], sy_dS F [], sy_dh F X1 X2 (iv_H 3), 0, 0) := by
  by_cases g0 : (sy_i F 82).toInt < 0
  · exact j3rw_0_p0 hd F X1 X2 hB (by first | exact g0 | (simp only [nz_c]; exact g0)) (fun F1 g  => k0 g0 F1 (nz_in0 hB [] (fun j hj hn => g j hj (by simp only [List.mem_cons, List.not_mem_nil, or_false, not_or] at hn; exact trivial)) (List.forall_mem_nil _)) (fun j hj hn => g j hj (by simp only [List.mem_cons, List.not_mem_nil, or_false, not_or] at hn; exact trivial)) )
  replace g0 : 0 ≤ (sy_i F 82).toInt := by omega
  by_cases g1 : (sy_i F 79).toInt < (sy_i F 82).toInt
  · have c79 := nz_bx hB (k := 79) (lo := 0) (hi := 7) rfl
    exact j3rw_0_p1 hd F X1 X2 hB (by first | exact g0 | (simp only [nz_c]; exact g0)) (by first | exact g1 | (simp only [nz_c]; exact g1)) (fun F1 g  => k1 g0 g1 F1 (nz_in0 hB [] (fun j hj hn => g j hj (by simp only [List.mem_cons, List.not_mem_nil, or_false, not_or] at hn; exact trivial)) (List.forall_mem_nil _)) (fun j hj hn => g j hj (by simp only [List.mem_cons, List.not_mem_nil, or_false, not_or] at hn; exact trivial)) )
  replace g1 : (sy_i F 82).toInt ≤ (sy_i F 79).toInt := by omega
  have c79 := nz_bx hB (k := 79) (lo := 0) (hi := 7) rfl
  exact j3rw_0_p2 hd F X1 X2 hB (by first | exact g0 | (simp only [nz_c]; exact g0)) (by first | exact g1 | (simp only [nz_c]; exact g1)) (fun F1 g e82 => k2 g0 g1 F1 (nz_in0 hB [] (fun j hj hn => g j hj (by simp only [List.mem_cons, List.not_mem_nil, or_false, not_or] at hn; exact trivial)) (List.forall_mem_nil _)) (fun j hj hn => g j hj (by simp only [List.mem_cons, List.not_mem_nil, or_false, not_or] at hn; exact trivial)) ((congrArg Int32.toInt (zz_i e82)).trans (rfl : (sy_i F 82).toInt = (sy_i F 82).toInt)) ((zz_i e82).trans (rfl : sy_i F 82 = sy_i F 82)))
theorem j3rw_27_p0 {Ls : Nat} {xs : Nat → Int32} {d : Nat} {Q : Option Value → jm_h → Prop} (hd : 1 ≤ d) (F : Nat → sy_d) (X1 X2 : List jm_c) (hB : iv_in F iv_B0)
    (k : ∀ F1 : Nat → sy_d, (∀ j, j < 82 → True → F1 j = F j) → Q (some (.int (sy_i F 82))) (sy_dh F1 X1 X2 (iv_H 3))) :
    hd_W Ls xs d jm_M110 Q (27, sy_dL F [some (.inl (.ref 8)), none], sy_dS F [.inr (.inl 82)], sy_dh F X1 X2 (iv_H 3), 0, 0) := by
  refine hd_ret (s := 3) (nv := 83) (v := some (.inr (.inl 82))) (uh := hd_ov (iv_id 0 iv_B0) []) (f := false) (sp := []) (d0 := 0) (O := []) (T := []) (P := []) jm_ok110 (by decide +kernel) (by decide +kernel) hd F X1 X2 (fun F' hF hs => ?_)
  have b82 := hd_b (F := F) (F' := F') (k := 82) (hF 82 (by decide))
  have hB' : iv_in F' iv_B0 := iv_in_eq hB (fun j hj => hF j (Nat.lt_of_lt_of_le hj (by decide +kernel)))
  have hk := k (sy_cm F' (hd_ov (iv_id 0 iv_B0) [] ++ [])) (fun j hj _ => (hd_keep hB' (Nat.lt_of_lt_of_le hj (by decide +kernel)) (by simp)).trans (hF j (Nat.lt_of_lt_of_le hj (by decide))))
  refine ⟨fun _ h => absurd h List.not_mem_nil, ?_⟩
  show Q (some (sy_dv F' (.inr (.inl 82)))) _
  rw [b82]
  exact hk
theorem j3rw_27 {Ls : Nat} {xs : Nat → Int32} {d : Nat} {Q : Option Value → jm_h → Prop} (hd : 1 ≤ d) (F : Nat → sy_d) (X1 X2 : List jm_c) (hB : iv_in F iv_B0)
    (k0 : ∀ F1 : Nat → sy_d, iv_in F1 iv_B0 → (∀ j, j < 82 → j ∉ ([] : List Nat) → F1 j = F j) → Q (some (.int (sy_i F 82))) (sy_dh F1 X1 X2 (iv_H 3))) :
    hd_W Ls xs d jm_M110 Q (27, sy_dL F [some (.inl (.ref 8)), none], sy_dS F [.inr (.inl 82)], sy_dh F X1 X2 (iv_H 3), 0, 0) := by
  exact j3rw_27_p0 hd F X1 X2 hB  (fun F1 g  => by rw [(rfl : sy_i F 82 = sy_i F 82)]; exact k0 F1 (nz_in0 hB [] (fun j hj hn => g j hj (by simp only [List.mem_cons, List.not_mem_nil, or_false, not_or] at hn; exact trivial)) (List.forall_mem_nil _)) (fun j hj hn => g j hj (by simp only [List.mem_cons, List.not_mem_nil, or_false, not_or] at hn; exact trivial)) )
theorem j3su_0_p0 {Ls : Nat} {xs : Nat → Int32} {d : Nat} {Q : Option Value → jm_h → Prop} (hd : 2 ≤ d) (F : Nat → sy_d) (X1 X2 : List jm_c) (hB : iv_in F iv_B0)
    (h0 : (sy_i F 82).toInt < 0)
    (k : ∀ F1 : Nat → sy_d, (∀ j, j < 82 → True → F1 j = F j) → Q (some (.int (((-1) : Int32)))) (sy_dh F1 X1 X2 (iv_H 3))) :
    hd_W Ls xs d jm_M111 Q (0, sy_dL F [some (.inl (.ref 8)), some (.inr (.inl 82)), some (.inr (.inl 83)), none], sy_dS F [], sy_dh F X1 X2 (iv_H 3), 0, 0) := by
  refine hd_ret (s := 3) (nv := 84) (v := some (.inl (.int (-1)))) (uh := hd_ov (iv_id 0 iv_B0) []) (f := true) (sp := [37]) (d0 := 1) (O := [true]) (T := []) (P := [(2, .inr (.inl 82), .inl (.int 0))]) jm_ok111 (by decide +kernel) (by decide +kernel) hd F X1 X2 (fun F' hF hs => ?_)
  have b82 := hd_b (F := F) (F' := F') (k := 82) (hF 82 (by decide))
  have hB' : iv_in F' iv_B0 := iv_in_eq hB (fun j hj => hF j (Nat.lt_of_lt_of_le hj (by decide +kernel)))
  refine ⟨List.forall_mem_cons.mpr ⟨hd_p2 b82 rfl (by have hc : ((0) : Int32).toInt = 0 := (by decide); omega), fun _ h => absurd h List.not_mem_nil⟩, ?_⟩
  refine k _ ?_
  · exact fun j hj _ => (hd_keep hB' (Nat.lt_of_lt_of_le hj (by decide +kernel)) (by simp)).trans (hF j (Nat.lt_of_lt_of_le hj (by decide)))
theorem j3su_0_p1 {Ls : Nat} {xs : Nat → Int32} {d : Nat} {Q : Option Value → jm_h → Prop} (hd : 2 ≤ d) (F : Nat → sy_d) (X1 X2 : List jm_c) (hB : iv_in F iv_B0)
    (h0 : 0 ≤ (sy_i F 82).toInt)
    (h1 : (sy_i F 79).toInt < (sy_i F 82).toInt)
    (k : ∀ F1 : Nat → sy_d, (∀ j, j < 82 → True → F1 j = F j) → Q (some (.int (((-1) : Int32)))) (sy_dh F1 X1 X2 (iv_H 3))) :
    hd_W Ls xs d jm_M111 Q (0, sy_dL F [some (.inl (.ref 8)), some (.inr (.inl 82)), some (.inr (.inl 83)), none], sy_dS F [], sy_dh F X1 X2 (iv_H 3), 0, 0) := by
  refine hd_ret (s := 3) (nv := 84) (v := some (.inl (.int (-1)))) (uh := hd_ov (iv_id 0 iv_B0) []) (f := true) (sp := [37]) (d0 := 1) (O := [false, true]) (T := []) (P := [(3, .inr (.inl 82), .inl (.int 0)), (2, .inr (.inl 79), .inr (.inl 82))]) jm_ok111 (by decide +kernel) (by decide +kernel) hd F X1 X2 (fun F' hF hs => ?_)
  have b82 := hd_b (F := F) (F' := F') (k := 82) (hF 82 (by decide))
  have b79 := hd_b (F := F) (F' := F') (k := 79) (hF 79 (by decide))
  have hB' : iv_in F' iv_B0 := iv_in_eq hB (fun j hj => hF j (Nat.lt_of_lt_of_le hj (by decide +kernel)))
  refine ⟨List.forall_mem_cons.mpr ⟨hd_p3 b82 rfl (by have hc : ((0) : Int32).toInt = 0 := (by decide); omega), List.forall_mem_cons.mpr ⟨hd_p2 b79 b82 h1, fun _ h => absurd h List.not_mem_nil⟩⟩, ?_⟩
  refine k _ ?_
  · exact fun j hj _ => (hd_keep hB' (Nat.lt_of_lt_of_le hj (by decide +kernel)) (by simp)).trans (hF j (Nat.lt_of_lt_of_le hj (by decide)))
theorem j3su_0_p2 {Ls : Nat} {xs : Nat → Int32} {d : Nat} {Q : Option Value → jm_h → Prop} (hd : 2 ≤ d) (F : Nat → sy_d) (X1 X2 : List jm_c) (hB : iv_in F iv_B0)
    (h0 : 0 ≤ (sy_i F 82).toInt)
    (h1 : (sy_i F 82).toInt ≤ (sy_i F 79).toInt)
    (h2 : (sy_i F 83).toInt < 0)
    (k : ∀ F1 : Nat → sy_d, (∀ j, j < 82 → True → F1 j = F j) → Q (some (.int (((-1) : Int32)))) (sy_dh F1 X1 X2 (iv_H 3))) :
    hd_W Ls xs d jm_M111 Q (0, sy_dL F [some (.inl (.ref 8)), some (.inr (.inl 82)), some (.inr (.inl 83)), none], sy_dS F [], sy_dh F X1 X2 (iv_H 3), 0, 0) := by
  refine hd_ret (s := 3) (nv := 84) (v := some (.inl (.int (-1)))) (uh := hd_ov (iv_id 0 iv_B0) []) (f := true) (sp := [37]) (d0 := 1) (O := [false, false, true]) (T := [(1, [.inr (.inl 82), .inl (.int 1)], [])]) (P := [(3, .inr (.inl 82), .inl (.int 0)), (3, .inr (.inl 79), .inr (.inl 82)), (2, .inr (.inl 83), .inl (.int 0))]) jm_ok111 (by decide +kernel) (by decide +kernel) hd F X1 X2 (fun F' hF hs => ?_)
  have b82 := hd_b (F := F) (F' := F') (k := 82) (hF 82 (by decide))
  have b79 := hd_b (F := F) (F' := F') (k := 79) (hF 79 (by decide))
  have b83 := hd_b (F := F) (F' := F') (k := 83) (hF 83 (by decide))
  have hB' : iv_in F' iv_B0 := iv_in_eq hB (fun j hj => hF j (Nat.lt_of_lt_of_le hj (by decide +kernel)))
  refine ⟨List.forall_mem_cons.mpr ⟨hd_p3 b82 rfl (by have hc : ((0) : Int32).toInt = 0 := (by decide); omega), List.forall_mem_cons.mpr ⟨hd_p3 b79 b82 h1, List.forall_mem_cons.mpr ⟨hd_p2 b83 rfl (by have hc : ((0) : Int32).toInt = 0 := (by decide); omega), fun _ h => absurd h List.not_mem_nil⟩⟩⟩, ?_⟩
  refine k _ ?_
  · exact fun j hj _ => (hd_keep hB' (Nat.lt_of_lt_of_le hj (by decide +kernel)) (by simp)).trans (hF j (Nat.lt_of_lt_of_le hj (by decide)))
theorem j3su_0_p3 {Ls : Nat} {xs : Nat → Int32} {d : Nat} {Q : Option Value → jm_h → Prop} (hd : 2 ≤ d) (F : Nat → sy_d) (X1 X2 : List jm_c) (hB : iv_in F iv_B0)
    (h0 : 0 ≤ (sy_i F 82).toInt)
    (h1 : (sy_i F 82).toInt ≤ (sy_i F 79).toInt)
    (h2 : 0 ≤ (sy_i F 83).toInt)
    (h3 : ((sy_i F 82) - ((1 : Int32))).toInt < (sy_i F 83).toInt)
    (k : ∀ F1 : Nat → sy_d, (∀ j, j < 82 → True → F1 j = F j) → Q (some (.int (((-1) : Int32)))) (sy_dh F1 X1 X2 (iv_H 3))) :
    hd_W Ls xs d jm_M111 Q (0, sy_dL F [some (.inl (.ref 8)), some (.inr (.inl 82)), some (.inr (.inl 83)), none], sy_dS F [], sy_dh F X1 X2 (iv_H 3), 0, 0) := by
  refine hd_ret (s := 3) (nv := 84) (v := some (.inl (.int (-1)))) (uh := hd_ov (iv_id 0 iv_B0) []) (f := true) (sp := [37]) (d0 := 1) (O := [false, false, false, true]) (T := [(1, [.inr (.inl 82), .inl (.int 1)], [])]) (P := [(3, .inr (.inl 82), .inl (.int 0)), (3, .inr (.inl 79), .inr (.inl 82)), (3, .inr (.inl 83), .inl (.int 0)), (2, .inr (.inl 84), .inr (.inl 83))]) jm_ok111 (by decide +kernel) (by decide +kernel) hd F X1 X2 (fun F' hF hs => ?_)
  have b82 := hd_b (F := F) (F' := F') (k := 82) (hF 82 (by decide))
  have b79 := hd_b (F := F) (F' := F') (k := 79) (hF 79 (by decide))
  have b83 := hd_b (F := F) (F' := F') (k := 83) (hF 83 (by decide))
  have t84 : sy_dv F' (.inr (.inl 84)) = .int ((sy_i F 82) - ((1 : Int32))) := hd_o (hs 0 _ rfl) b82 rfl rfl
  have hB' : iv_in F' iv_B0 := iv_in_eq hB (fun j hj => hF j (Nat.lt_of_lt_of_le hj (by decide +kernel)))
  refine ⟨List.forall_mem_cons.mpr ⟨hd_p3 b82 rfl (by have hc : ((0) : Int32).toInt = 0 := (by decide); omega), List.forall_mem_cons.mpr ⟨hd_p3 b79 b82 h1, List.forall_mem_cons.mpr ⟨hd_p3 b83 rfl (by have hc : ((0) : Int32).toInt = 0 := (by decide); omega), List.forall_mem_cons.mpr ⟨hd_p2 t84 b83 h3, fun _ h => absurd h List.not_mem_nil⟩⟩⟩⟩, ?_⟩
  refine k _ ?_
  · exact fun j hj _ => (hd_keep hB' (Nat.lt_of_lt_of_le hj (by decide +kernel)) (by simp)).trans (hF j (Nat.lt_of_lt_of_le hj (by decide)))
theorem j3su_0_p4 {Ls : Nat} {xs : Nat → Int32} {d : Nat} {Q : Option Value → jm_h → Prop} (hd : 2 ≤ d) (F : Nat → sy_d) (X1 X2 : List jm_c) (hB : iv_in F iv_B0)
    (h0 : 0 ≤ (sy_i F 82).toInt)
    (h1 : (sy_i F 82).toInt ≤ (sy_i F 79).toInt)
    (h2 : 0 ≤ (sy_i F 83).toInt)
    (h3 : (sy_i F 83).toInt ≤ ((sy_i F 82) - ((1 : Int32))).toInt)
    (k : ∀ F1 : Nat → sy_d, (∀ j, j < 82 → True → F1 j = F j) → F1 82 = .inl (.int (sy_i F 82)) → F1 83 = .inl (.int (sy_i F 83)) → hd_W Ls xs d jm_M111 Q (37, sy_dL F1 [some (.inl (.ref 8)), some (.inr (.inl 82)), some (.inr (.inl 83)), none], sy_dS F1 [.inr (.inl 82), .inl (.ref 20), .inl (.ref 70)], sy_dh F1 X1 X2 (iv_H 3), 0, 0)) :
    hd_W Ls xs d jm_M111 Q (0, sy_dL F [some (.inl (.ref 8)), some (.inr (.inl 82)), some (.inr (.inl 83)), none], sy_dS F [], sy_dh F X1 X2 (iv_H 3), 0, 0) := by
  refine hd_run (s := 3) (nv := 84) (pc := 37) (L := [some (.inl (.ref 8)), some (.inr (.inl 82)), some (.inr (.inl 83)), none]) (S := [.inr (.inl 82), .inl (.ref 20), .inl (.ref 70)]) (uh := hd_ov (iv_id 0 iv_B0) []) (ul := [.inl (.inr (.inl 82)), .inl (.inr (.inl 83))]) (f := true) (sp := [37]) (d0 := 1) (O := [false, false, false, false]) (T := [(1, [.inr (.inl 82), .inl (.int 1)], [])]) (P := [(3, .inr (.inl 82), .inl (.int 0)), (3, .inr (.inl 79), .inr (.inl 82)), (3, .inr (.inl 83), .inl (.int 0)), (3, .inr (.inl 84), .inr (.inl 83))]) jm_ok111 (by decide +kernel) (by decide +kernel) hd F X1 X2 (fun F' hF hs => ?_)
  have b82 := hd_b (F := F) (F' := F') (k := 82) (hF 82 (by decide))
  have b79 := hd_b (F := F) (F' := F') (k := 79) (hF 79 (by decide))
  have b83 := hd_b (F := F) (F' := F') (k := 83) (hF 83 (by decide))
  have t84 : sy_dv F' (.inr (.inl 84)) = .int ((sy_i F 82) - ((1 : Int32))) := hd_o (hs 0 _ rfl) b82 rfl rfl
  have hB' : iv_in F' iv_B0 := iv_in_eq hB (fun j hj => hF j (Nat.lt_of_lt_of_le hj (by decide +kernel)))
  refine ⟨List.forall_mem_cons.mpr ⟨hd_p3 b82 rfl (by have hc : ((0) : Int32).toInt = 0 := (by decide); omega), List.forall_mem_cons.mpr ⟨hd_p3 b79 b82 h1, List.forall_mem_cons.mpr ⟨hd_p3 b83 rfl (by have hc : ((0) : Int32).toInt = 0 := (by decide); omega), List.forall_mem_cons.mpr ⟨hd_p3 t84 b83 h3, fun _ h => absurd h List.not_mem_nil⟩⟩⟩⟩, ?_⟩
  refine k _ ?_ ?_ ?_
  · exact fun j hj _ => (hd_keep hB' (Nat.lt_of_lt_of_le hj (by decide +kernel)) (by simp)).trans (hF j (Nat.lt_of_lt_of_le hj (by decide)))
  · exact hd_gi (x := .inr (.inl 82)) (by decide +kernel) b82
  · exact hd_gi (x := .inr (.inl 83)) (by decide +kernel) b83
theorem j3su_0 {Ls : Nat} {xs : Nat → Int32} {d : Nat} {Q : Option Value → jm_h → Prop} (hd : 2 ≤ d) (F : Nat → sy_d) (X1 X2 : List jm_c) (hB : iv_in F iv_B0)
    (k0 : (sy_i F 82).toInt < 0 → ∀ F1 : Nat → sy_d, iv_in F1 iv_B0 → (∀ j, j < 82 → j ∉ ([] : List Nat) → F1 j = F j) → Q (some (.int (((-1) : Int32)))) (sy_dh F1 X1 X2 (iv_H 3)))
    (k1 : 0 ≤ (sy_i F 82).toInt → (sy_i F 79).toInt < (sy_i F 82).toInt → ∀ F1 : Nat → sy_d, iv_in F1 iv_B0 → (∀ j, j < 82 → j ∉ ([] : List Nat) → F1 j = F j) → Q (some (.int (((-1) : Int32)))) (sy_dh F1 X1 X2 (iv_H 3)))
    (k2 : 0 ≤ (sy_i F 82).toInt → (sy_i F 82).toInt ≤ (sy_i F 79).toInt → (sy_i F 83).toInt < 0 → ∀ F1 : Nat → sy_d, iv_in F1 iv_B0 → (∀ j, j < 82 → j ∉ ([] : List Nat) → F1 j = F j) → Q (some (.int (((-1) : Int32)))) (sy_dh F1 X1 X2 (iv_H 3)))
    (k3 : 0 ≤ (sy_i F 82).toInt → (sy_i F 82).toInt ≤ (sy_i F 79).toInt → 0 ≤ (sy_i F 83).toInt → ((sy_i F 82).toInt - 1) < (sy_i F 83).toInt → ∀ F1 : Nat → sy_d, iv_in F1 iv_B0 → (∀ j, j < 82 → j ∉ ([] : List Nat) → F1 j = F j) → Q (some (.int (((-1) : Int32)))) (sy_dh F1 X1 X2 (iv_H 3)))
    (k4 : 0 ≤ (sy_i F 82).toInt → (sy_i F 82).toInt ≤ (sy_i F 79).toInt → 0 ≤ (sy_i F 83).toInt → (sy_i F 83).toInt ≤ ((sy_i F 82).toInt - 1) → ∀ F1 : Nat → sy_d, iv_in F1 iv_B0 → (∀ j, j < 82 → j ∉ ([] : List Nat) → F1 j = F j) → (sy_i F1 82).toInt = (sy_i F 82).toInt → sy_i F1 82 = sy_i F 82 → (sy_i F1 83).toInt = (sy_i F 83).toInt → sy_i F1 83 = sy_i F 83 → hd_W Ls xs d jm_M111 Q (37, sy_dL F1 [some (.inl (.ref 8)), some (.inr (.inl 82)), some (.inr (.inl 83)), none], sy_dS F1 [.inr (.inl 82), .inl (.ref 20), .inl (.ref 70)], sy_dh F1 X1 X2 (iv_H 3), 0, 0)) :
    hd_W Ls xs d jm_M111 Q (0, sy_dL F [some (.inl (.ref 8)), some (.inr (.inl 82)), some (.inr (.inl 83)), none], sy_dS F [], sy_dh F X1 X2 (iv_H 3), 0, 0) := by
  by_cases g0 : (sy_i F 82).toInt < 0
  · exact j3su_0_p0 hd F X1 X2 hB (by first | exact g0 | (simp only [nz_c]; exact g0)) (fun F1 g  => k0 g0 F1 (nz_in0 hB [] (fun j hj hn => g j hj (by simp only [List.mem_cons, List.not_mem_nil, or_false, not_or] at hn; exact trivial)) (List.forall_mem_nil _)) (fun j hj hn => g j hj (by simp only [List.mem_cons, List.not_mem_nil, or_false, not_or] at hn; exact trivial)) )
  replace g0 : 0 ≤ (sy_i F 82).toInt := by omega
  by_cases g1 : (sy_i F 79).toInt < (sy_i F 82).toInt
  · have c79 := nz_bx hB (k := 79) (lo := 0) (hi := 7) rfl
    exact j3su_0_p1 hd F X1 X2 hB (by first | exact g0 | (simp only [nz_c]; exact g0)) (by first | exact g1 | (simp only [nz_c]; exact g1)) (fun F1 g  => k1 g0 g1 F1 (nz_in0 hB [] (fun j hj hn => g j hj (by simp only [List.mem_cons, List.not_mem_nil, or_false, not_or] at hn; exact trivial)) (List.forall_mem_nil _)) (fun j hj hn => g j hj (by simp only [List.mem_cons, List.not_mem_nil, or_false, not_or] at hn; exact trivial)) )
  replace g1 : (sy_i F 82).toInt ≤ (sy_i F 79).toInt := by omega
  by_cases g2 : (sy_i F 83).toInt < 0
  · have c79 := nz_bx hB (k := 79) (lo := 0) (hi := 7) rfl
    exact j3su_0_p2 hd F X1 X2 hB (by first | exact g0 | (simp only [nz_c]; exact g0)) (by first | exact g1 | (simp only [nz_c]; exact g1)) (by first | exact g2 | (simp only [nz_c]; exact g2)) (fun F1 g  => k2 g0 g1 g2 F1 (nz_in0 hB [] (fun j hj hn => g j hj (by simp only [List.mem_cons, List.not_mem_nil, or_false, not_or] at hn; exact trivial)) (List.forall_mem_nil _)) (fun j hj hn => g j hj (by simp only [List.mem_cons, List.not_mem_nil, or_false, not_or] at hn; exact trivial)) )
  replace g2 : 0 ≤ (sy_i F 83).toInt := by omega
  by_cases g3 : ((sy_i F 82).toInt - 1) < (sy_i F 83).toInt
  · have c79 := nz_bx hB (k := 79) (lo := 0) (hi := 7) rfl
    have n84 : nzI ((sy_i F 82) - ((1 : Int32))) (((sy_i F 82).toInt - 1)) := nz_sub (rfl : (sy_i F 82).toInt = (sy_i F 82).toInt) (by decide : ((1 : Int32)).toInt = 1) (by omega) (by omega)
    exact j3su_0_p3 hd F X1 X2 hB (by first | exact g0 | (simp only [nz_c]; exact g0)) (by first | exact g1 | (simp only [nz_c]; exact g1)) (by first | exact g2 | (simp only [nz_c]; exact g2)) (by first | (simp only [nz_c, (nzE n84)]; exact g3) | exact g3 | (rw [(nzE n84)]; exact g3)) (fun F1 g  => k3 g0 g1 g2 g3 F1 (nz_in0 hB [] (fun j hj hn => g j hj (by simp only [List.mem_cons, List.not_mem_nil, or_false, not_or] at hn; exact trivial)) (List.forall_mem_nil _)) (fun j hj hn => g j hj (by simp only [List.mem_cons, List.not_mem_nil, or_false, not_or] at hn; exact trivial)) )
  replace g3 : (sy_i F 83).toInt ≤ ((sy_i F 82).toInt - 1) := by omega
  have c79 := nz_bx hB (k := 79) (lo := 0) (hi := 7) rfl
  have n84 : nzI ((sy_i F 82) - ((1 : Int32))) (((sy_i F 82).toInt - 1)) := nz_sub (rfl : (sy_i F 82).toInt = (sy_i F 82).toInt) (by decide : ((1 : Int32)).toInt = 1) (by omega) (by omega)
  exact j3su_0_p4 hd F X1 X2 hB (by first | exact g0 | (simp only [nz_c]; exact g0)) (by first | exact g1 | (simp only [nz_c]; exact g1)) (by first | exact g2 | (simp only [nz_c]; exact g2)) (by first | (simp only [nz_c, (nzE n84)]; exact g3) | exact g3 | (rw [(nzE n84)]; exact g3)) (fun F1 g e82 e83 => k4 g0 g1 g2 g3 F1 (nz_in0 hB [] (fun j hj hn => g j hj (by simp only [List.mem_cons, List.not_mem_nil, or_false, not_or] at hn; exact trivial)) (List.forall_mem_nil _)) (fun j hj hn => g j hj (by simp only [List.mem_cons, List.not_mem_nil, or_false, not_or] at hn; exact trivial)) ((congrArg Int32.toInt (zz_i e82)).trans (rfl : (sy_i F 82).toInt = (sy_i F 82).toInt)) ((zz_i e82).trans (rfl : sy_i F 82 = sy_i F 82)) ((congrArg Int32.toInt (zz_i e83)).trans (rfl : (sy_i F 83).toInt = (sy_i F 83).toInt)) ((zz_i e83).trans (rfl : sy_i F 83 = sy_i F 83)))
theorem j3su_40_p0 {Ls : Nat} {xs : Nat → Int32} {d : Nat} {Q : Option Value → jm_h → Prop} (hd : 1 ≤ d) (F : Nat → sy_d) (X1 X2 : List jm_c) (hB : iv_in F iv_B0)
    (h0 : (sy_i F 84).toInt ≤ 0)
    (k : ∀ F1 : Nat → sy_d, (∀ j, j < 82 → True → F1 j = F j) → Q (some (.int (((-2) : Int32)))) (sy_dh F1 X1 X2 (iv_H 3))) :
    hd_W Ls xs d jm_M111 Q (40, sy_dL F [some (.inl (.ref 8)), some (.inr (.inl 82)), some (.inr (.inl 83)), none], sy_dS F [.inr (.inl 84)], sy_dh F X1 X2 (iv_H 3), 0, 0) := by
  refine hd_ret (s := 3) (nv := 85) (v := some (.inl (.int (-2)))) (uh := hd_ov (iv_id 0 iv_B0) []) (f := false) (sp := [52]) (d0 := 0) (O := [true]) (T := []) (P := [(4, .inr (.inl 84), .inl (.int 0))]) jm_ok111 (by decide +kernel) (by decide +kernel) hd F X1 X2 (fun F' hF hs => ?_)
  have b84 := hd_b (F := F) (F' := F') (k := 84) (hF 84 (by decide))
  have hB' : iv_in F' iv_B0 := iv_in_eq hB (fun j hj => hF j (Nat.lt_of_lt_of_le hj (by decide +kernel)))
  refine ⟨List.forall_mem_cons.mpr ⟨hd_p4 b84 rfl (by have hc : ((0) : Int32).toInt = 0 := (by decide); omega), fun _ h => absurd h List.not_mem_nil⟩, ?_⟩
  refine k _ ?_
  · exact fun j hj _ => (hd_keep hB' (Nat.lt_of_lt_of_le hj (by decide +kernel)) (by simp)).trans (hF j (Nat.lt_of_lt_of_le hj (by decide)))
theorem j3su_40_p1 {Ls : Nat} {xs : Nat → Int32} {d : Nat} {Q : Option Value → jm_h → Prop} (hd : 1 ≤ d) (F : Nat → sy_d) (X1 X2 : List jm_c) (hB : iv_in F iv_B0)
    (h0 : 0 < (sy_i F 84).toInt)
    (k : ∀ F1 : Nat → sy_d, (∀ j, j < 82 → True → F1 j = F j) → F1 82 = .inl (.int (sy_i F 83)) → hd_W Ls xs d jm_M111 Q (52, sy_dL F1 [some (.inl (.ref 8)), none, some (.inr (.inl 82)), none], sy_dS F1 [.inr (.inl 82), .inl (.ref 20), .inl (.ref 70)], sy_dh F1 X1 X2 (iv_H 3), 0, 0)) :
    hd_W Ls xs d jm_M111 Q (40, sy_dL F [some (.inl (.ref 8)), some (.inr (.inl 82)), some (.inr (.inl 83)), none], sy_dS F [.inr (.inl 84)], sy_dh F X1 X2 (iv_H 3), 0, 0) := by
  refine hd_run (s := 3) (nv := 85) (pc := 52) (L := [some (.inl (.ref 8)), none, some (.inr (.inl 82)), none]) (S := [.inr (.inl 82), .inl (.ref 20), .inl (.ref 70)]) (uh := hd_ov (iv_id 0 iv_B0) []) (ul := [.inl (.inr (.inl 83))]) (f := false) (sp := [52]) (d0 := 0) (O := [false]) (T := []) (P := [(5, .inr (.inl 84), .inl (.int 0))]) jm_ok111 (by decide +kernel) (by decide +kernel) hd F X1 X2 (fun F' hF hs => ?_)
  have b84 := hd_b (F := F) (F' := F') (k := 84) (hF 84 (by decide))
  have b83 := hd_b (F := F) (F' := F') (k := 83) (hF 83 (by decide))
  have hB' : iv_in F' iv_B0 := iv_in_eq hB (fun j hj => hF j (Nat.lt_of_lt_of_le hj (by decide +kernel)))
  refine ⟨List.forall_mem_cons.mpr ⟨hd_p5 b84 rfl (by have hc : ((0) : Int32).toInt = 0 := (by decide); omega), fun _ h => absurd h List.not_mem_nil⟩, ?_⟩
  refine k _ ?_ ?_
  · exact fun j hj _ => (hd_keep hB' (Nat.lt_of_lt_of_le hj (by decide +kernel)) (by simp)).trans (hF j (Nat.lt_of_lt_of_le hj (by decide)))
  · exact hd_gi (x := .inr (.inl 83)) (by decide +kernel) b83
theorem j3su_40 {Ls : Nat} {xs : Nat → Int32} {d : Nat} {Q : Option Value → jm_h → Prop} (hd : 1 ≤ d) (F : Nat → sy_d) (X1 X2 : List jm_c) (hB : iv_in F iv_B0)
    (k0 : (sy_i F 84).toInt ≤ 0 → ∀ F1 : Nat → sy_d, iv_in F1 iv_B0 → (∀ j, j < 82 → j ∉ ([] : List Nat) → F1 j = F j) → Q (some (.int (((-2) : Int32)))) (sy_dh F1 X1 X2 (iv_H 3)))
    (k1 : 0 < (sy_i F 84).toInt → ∀ F1 : Nat → sy_d, iv_in F1 iv_B0 → (∀ j, j < 82 → j ∉ ([] : List Nat) → F1 j = F j) → (sy_i F1 82).toInt = (sy_i F 83).toInt → sy_i F1 82 = sy_i F 83 → hd_W Ls xs d jm_M111 Q (52, sy_dL F1 [some (.inl (.ref 8)), none, some (.inr (.inl 82)), none], sy_dS F1 [.inr (.inl 82), .inl (.ref 20), .inl (.ref 70)], sy_dh F1 X1 X2 (iv_H 3), 0, 0)) :
    hd_W Ls xs d jm_M111 Q (40, sy_dL F [some (.inl (.ref 8)), some (.inr (.inl 82)), some (.inr (.inl 83)), none], sy_dS F [.inr (.inl 84)], sy_dh F X1 X2 (iv_H 3), 0, 0) := by
  by_cases g0 : (sy_i F 84).toInt ≤ 0
  · exact j3su_40_p0 hd F X1 X2 hB (by first | exact g0 | (simp only [nz_c]; exact g0)) (fun F1 g  => k0 g0 F1 (nz_in0 hB [] (fun j hj hn => g j hj (by simp only [List.mem_cons, List.not_mem_nil, or_false, not_or] at hn; exact trivial)) (List.forall_mem_nil _)) (fun j hj hn => g j hj (by simp only [List.mem_cons, List.not_mem_nil, or_false, not_or] at hn; exact trivial)) )
  replace g0 : 0 < (sy_i F 84).toInt := by omega
  exact j3su_40_p1 hd F X1 X2 hB (by first | exact g0 | (simp only [nz_c]; exact g0)) (fun F1 g e82 => k1 g0 F1 (nz_in0 hB [] (fun j hj hn => g j hj (by simp only [List.mem_cons, List.not_mem_nil, or_false, not_or] at hn; exact trivial)) (List.forall_mem_nil _)) (fun j hj hn => g j hj (by simp only [List.mem_cons, List.not_mem_nil, or_false, not_or] at hn; exact trivial)) ((congrArg Int32.toInt (zz_i e82)).trans (rfl : (sy_i F 83).toInt = (sy_i F 83).toInt)) ((zz_i e82).trans (rfl : sy_i F 83 = sy_i F 83)))
theorem j3su_55_p0 {Ls : Nat} {xs : Nat → Int32} {d : Nat} {Q : Option Value → jm_h → Prop} (hd : 1 ≤ d) (F : Nat → sy_d) (X1 X2 : List jm_c) (hB : iv_in F iv_B0)
    (h0 : (sy_i F 83).toInt ≠ 1)
    (k : ∀ F1 : Nat → sy_d, (∀ j, j < 82 → True → F1 j = F j) → Q (some (.int (((-2) : Int32)))) (sy_dh F1 X1 X2 (iv_H 3))) :
    hd_W Ls xs d jm_M111 Q (55, sy_dL F [some (.inl (.ref 8)), none, some (.inr (.inl 82)), none], sy_dS F [.inr (.inl 83)], sy_dh F X1 X2 (iv_H 3), 0, 0) := by
  refine hd_ret (s := 3) (nv := 84) (v := some (.inl (.int (-2)))) (uh := hd_ov (iv_id 0 iv_B0) []) (f := false) (sp := [78]) (d0 := 0) (O := [true]) (T := []) (P := [(1, .inr (.inl 83), .inl (.int 1))]) jm_ok111 (by decide +kernel) (by decide +kernel) hd F X1 X2 (fun F' hF hs => ?_)
  have b83 := hd_b (F := F) (F' := F') (k := 83) (hF 83 (by decide))
  have hB' : iv_in F' iv_B0 := iv_in_eq hB (fun j hj => hF j (Nat.lt_of_lt_of_le hj (by decide +kernel)))
  refine ⟨List.forall_mem_cons.mpr ⟨hd_p1 b83 rfl (by have hc : ((1) : Int32).toInt = 1 := (by decide); omega), fun _ h => absurd h List.not_mem_nil⟩, ?_⟩
  refine k _ ?_
  · exact fun j hj _ => (hd_keep hB' (Nat.lt_of_lt_of_le hj (by decide +kernel)) (by simp)).trans (hF j (Nat.lt_of_lt_of_le hj (by decide)))
theorem j3su_55_p1 {Ls : Nat} {xs : Nat → Int32} {d : Nat} {Q : Option Value → jm_h → Prop} (hd : 1 ≤ d) (F : Nat → sy_d) (X1 X2 : List jm_c) (hB : iv_in F iv_B0)
    (h0 : (sy_i F 83).toInt = 1)
    (k : ∀ F1 : Nat → sy_d, (∀ j, j < 82 → True → F1 j = F j) → F1 82 = .inl (.int (sy_i F 82)) → hd_W Ls xs d jm_M111 Q (78, sy_dL F1 [some (.inl (.ref 8)), none, none, none], sy_dS F1 [.inr (.inl 82), .inl (.ref 20), .inl (.ref 70)], sy_dh F1 X1 X2 (iv_H 3), 0, 0)) :
    hd_W Ls xs d jm_M111 Q (55, sy_dL F [some (.inl (.ref 8)), none, some (.inr (.inl 82)), none], sy_dS F [.inr (.inl 83)], sy_dh F X1 X2 (iv_H 3), 0, 0) := by
  refine hd_run (s := 3) (nv := 84) (pc := 78) (L := [some (.inl (.ref 8)), none, none, none]) (S := [.inr (.inl 82), .inl (.ref 20), .inl (.ref 70)]) (uh := hd_ov (iv_id 0 iv_B0) []) (ul := [.inl (.inr (.inl 82))]) (f := false) (sp := [78]) (d0 := 0) (O := [false]) (T := []) (P := [(0, .inr (.inl 83), .inl (.int 1))]) jm_ok111 (by decide +kernel) (by decide +kernel) hd F X1 X2 (fun F' hF hs => ?_)
  have b83 := hd_b (F := F) (F' := F') (k := 83) (hF 83 (by decide))
  have b82 := hd_b (F := F) (F' := F') (k := 82) (hF 82 (by decide))
  have hB' : iv_in F' iv_B0 := iv_in_eq hB (fun j hj => hF j (Nat.lt_of_lt_of_le hj (by decide +kernel)))
  refine ⟨List.forall_mem_cons.mpr ⟨hd_p0 b83 rfl (by have hc : ((1) : Int32).toInt = 1 := (by decide); omega), fun _ h => absurd h List.not_mem_nil⟩, ?_⟩
  refine k _ ?_ ?_
  · exact fun j hj _ => (hd_keep hB' (Nat.lt_of_lt_of_le hj (by decide +kernel)) (by simp)).trans (hF j (Nat.lt_of_lt_of_le hj (by decide)))
  · exact hd_gi (x := .inr (.inl 82)) (by decide +kernel) b82
theorem j3su_55 {Ls : Nat} {xs : Nat → Int32} {d : Nat} {Q : Option Value → jm_h → Prop} (hd : 1 ≤ d) (F : Nat → sy_d) (X1 X2 : List jm_c) (hB : iv_in F iv_B0)
    (k0 : (sy_i F 83).toInt ≠ 1 → ∀ F1 : Nat → sy_d, iv_in F1 iv_B0 → (∀ j, j < 82 → j ∉ ([] : List Nat) → F1 j = F j) → Q (some (.int (((-2) : Int32)))) (sy_dh F1 X1 X2 (iv_H 3)))
    (k1 : (sy_i F 83).toInt = 1 → ∀ F1 : Nat → sy_d, iv_in F1 iv_B0 → (∀ j, j < 82 → j ∉ ([] : List Nat) → F1 j = F j) → (sy_i F1 82).toInt = (sy_i F 82).toInt → sy_i F1 82 = sy_i F 82 → hd_W Ls xs d jm_M111 Q (78, sy_dL F1 [some (.inl (.ref 8)), none, none, none], sy_dS F1 [.inr (.inl 82), .inl (.ref 20), .inl (.ref 70)], sy_dh F1 X1 X2 (iv_H 3), 0, 0)) :
    hd_W Ls xs d jm_M111 Q (55, sy_dL F [some (.inl (.ref 8)), none, some (.inr (.inl 82)), none], sy_dS F [.inr (.inl 83)], sy_dh F X1 X2 (iv_H 3), 0, 0) := by
  by_cases g0 : (sy_i F 83).toInt ≠ 1
  · exact j3su_55_p0 hd F X1 X2 hB (by first | exact g0 | (simp only [nz_c]; exact g0)) (fun F1 g  => k0 g0 F1 (nz_in0 hB [] (fun j hj hn => g j hj (by simp only [List.mem_cons, List.not_mem_nil, or_false, not_or] at hn; exact trivial)) (List.forall_mem_nil _)) (fun j hj hn => g j hj (by simp only [List.mem_cons, List.not_mem_nil, or_false, not_or] at hn; exact trivial)) )
  replace g0 : (sy_i F 83).toInt = 1 := by omega
  exact j3su_55_p1 hd F X1 X2 hB (by first | exact g0 | (simp only [nz_c]; exact g0)) (fun F1 g e82 => k1 g0 F1 (nz_in0 hB [] (fun j hj hn => g j hj (by simp only [List.mem_cons, List.not_mem_nil, or_false, not_or] at hn; exact trivial)) (List.forall_mem_nil _)) (fun j hj hn => g j hj (by simp only [List.mem_cons, List.not_mem_nil, or_false, not_or] at hn; exact trivial)) ((congrArg Int32.toInt (zz_i e82)).trans (rfl : (sy_i F 82).toInt = (sy_i F 82).toInt)) ((zz_i e82).trans (rfl : sy_i F 82 = sy_i F 82)))
theorem j3su_81_p0 {Ls : Nat} {xs : Nat → Int32} {d : Nat} {Q : Option Value → jm_h → Prop} (hd : 1 ≤ d) (F : Nat → sy_d) (X1 X2 : List jm_c) (hB : iv_in F iv_B0)
    (k : ∀ F1 : Nat → sy_d, (∀ j, j < 82 → True → F1 j = F j) → Q (some (.int (sy_i F 82))) (sy_dh F1 X1 X2 (iv_H 3))) :
    hd_W Ls xs d jm_M111 Q (81, sy_dL F [some (.inl (.ref 8)), none, none, none], sy_dS F [.inr (.inl 82)], sy_dh F X1 X2 (iv_H 3), 0, 0) := by
  refine hd_ret (s := 3) (nv := 83) (v := some (.inr (.inl 82))) (uh := hd_ov (iv_id 0 iv_B0) []) (f := false) (sp := []) (d0 := 0) (O := []) (T := []) (P := []) jm_ok111 (by decide +kernel) (by decide +kernel) hd F X1 X2 (fun F' hF hs => ?_)
  have b82 := hd_b (F := F) (F' := F') (k := 82) (hF 82 (by decide))
  have hB' : iv_in F' iv_B0 := iv_in_eq hB (fun j hj => hF j (Nat.lt_of_lt_of_le hj (by decide +kernel)))
  have hk := k (sy_cm F' (hd_ov (iv_id 0 iv_B0) [] ++ [])) (fun j hj _ => (hd_keep hB' (Nat.lt_of_lt_of_le hj (by decide +kernel)) (by simp)).trans (hF j (Nat.lt_of_lt_of_le hj (by decide))))
  refine ⟨fun _ h => absurd h List.not_mem_nil, ?_⟩
  show Q (some (sy_dv F' (.inr (.inl 82)))) _
  rw [b82]
  exact hk
theorem j3su_81 {Ls : Nat} {xs : Nat → Int32} {d : Nat} {Q : Option Value → jm_h → Prop} (hd : 1 ≤ d) (F : Nat → sy_d) (X1 X2 : List jm_c) (hB : iv_in F iv_B0)
    (k0 : ∀ F1 : Nat → sy_d, iv_in F1 iv_B0 → (∀ j, j < 82 → j ∉ ([] : List Nat) → F1 j = F j) → Q (some (.int (sy_i F 82))) (sy_dh F1 X1 X2 (iv_H 3))) :
    hd_W Ls xs d jm_M111 Q (81, sy_dL F [some (.inl (.ref 8)), none, none, none], sy_dS F [.inr (.inl 82)], sy_dh F X1 X2 (iv_H 3), 0, 0) := by
  exact j3su_81_p0 hd F X1 X2 hB  (fun F1 g  => by rw [(rfl : sy_i F 82 = sy_i F 82)]; exact k0 F1 (nz_in0 hB [] (fun j hj hn => g j hj (by simp only [List.mem_cons, List.not_mem_nil, or_false, not_or] at hn; exact trivial)) (List.forall_mem_nil _)) (fun j hj hn => g j hj (by simp only [List.mem_cons, List.not_mem_nil, or_false, not_or] at hn; exact trivial)) )
theorem j3as_0_p0 {Ls : Nat} {xs : Nat → Int32} {d : Nat} {Q : Option Value → jm_h → Prop} (hd : 2 ≤ d) (F : Nat → sy_d) (X1 X2 : List jm_c) (hB : iv_in F iv_B0)
    (h0 : (sy_i F 82).toInt < 0)
    (k : ∀ F1 : Nat → sy_d, (∀ j, j < 82 → True → F1 j = F j) → Q (some (.int (((-1) : Int32)))) (sy_dh F1 X1 X2 (iv_H 3))) :
    hd_W Ls xs d jm_M112 Q (0, sy_dL F [some (.inl (.ref 8)), some (.inr (.inl 82))], sy_dS F [], sy_dh F X1 X2 (iv_H 3), 0, 0) := by
  refine hd_ret (s := 3) (nv := 83) (v := some (.inl (.int (-1)))) (uh := hd_ov (iv_id 0 iv_B0) []) (f := true) (sp := [30]) (d0 := 1) (O := [true]) (T := []) (P := [(2, .inr (.inl 82), .inl (.int 0))]) jm_ok112 (by decide +kernel) (by decide +kernel) hd F X1 X2 (fun F' hF hs => ?_)
  have b82 := hd_b (F := F) (F' := F') (k := 82) (hF 82 (by decide))
  have hB' : iv_in F' iv_B0 := iv_in_eq hB (fun j hj => hF j (Nat.lt_of_lt_of_le hj (by decide +kernel)))
  refine ⟨List.forall_mem_cons.mpr ⟨hd_p2 b82 rfl (by have hc : ((0) : Int32).toInt = 0 := (by decide); omega), fun _ h => absurd h List.not_mem_nil⟩, ?_⟩
  refine k _ ?_
  · exact fun j hj _ => (hd_keep hB' (Nat.lt_of_lt_of_le hj (by decide +kernel)) (by simp)).trans (hF j (Nat.lt_of_lt_of_le hj (by decide)))
theorem j3as_0_p1 {Ls : Nat} {xs : Nat → Int32} {d : Nat} {Q : Option Value → jm_h → Prop} (hd : 2 ≤ d) (F : Nat → sy_d) (X1 X2 : List jm_c) (hB : iv_in F iv_B0)
    (h0 : 0 ≤ (sy_i F 82).toInt)
    (h1 : (sy_i F 79).toInt < (sy_i F 82).toInt)
    (k : ∀ F1 : Nat → sy_d, (∀ j, j < 82 → True → F1 j = F j) → Q (some (.int (((-1) : Int32)))) (sy_dh F1 X1 X2 (iv_H 3))) :
    hd_W Ls xs d jm_M112 Q (0, sy_dL F [some (.inl (.ref 8)), some (.inr (.inl 82))], sy_dS F [], sy_dh F X1 X2 (iv_H 3), 0, 0) := by
  refine hd_ret (s := 3) (nv := 83) (v := some (.inl (.int (-1)))) (uh := hd_ov (iv_id 0 iv_B0) []) (f := true) (sp := [30]) (d0 := 1) (O := [false, true]) (T := []) (P := [(3, .inr (.inl 82), .inl (.int 0)), (2, .inr (.inl 79), .inr (.inl 82))]) jm_ok112 (by decide +kernel) (by decide +kernel) hd F X1 X2 (fun F' hF hs => ?_)
  have b82 := hd_b (F := F) (F' := F') (k := 82) (hF 82 (by decide))
  have b79 := hd_b (F := F) (F' := F') (k := 79) (hF 79 (by decide))
  have hB' : iv_in F' iv_B0 := iv_in_eq hB (fun j hj => hF j (Nat.lt_of_lt_of_le hj (by decide +kernel)))
  refine ⟨List.forall_mem_cons.mpr ⟨hd_p3 b82 rfl (by have hc : ((0) : Int32).toInt = 0 := (by decide); omega), List.forall_mem_cons.mpr ⟨hd_p2 b79 b82 h1, fun _ h => absurd h List.not_mem_nil⟩⟩, ?_⟩
  refine k _ ?_
  · exact fun j hj _ => (hd_keep hB' (Nat.lt_of_lt_of_le hj (by decide +kernel)) (by simp)).trans (hF j (Nat.lt_of_lt_of_le hj (by decide)))
theorem j3as_0_p2 {Ls : Nat} {xs : Nat → Int32} {d : Nat} {Q : Option Value → jm_h → Prop} (hd : 2 ≤ d) (F : Nat → sy_d) (X1 X2 : List jm_c) (hB : iv_in F iv_B0)
    (h0 : 0 ≤ (sy_i F 82).toInt)
    (h1 : (sy_i F 82).toInt ≤ (sy_i F 79).toInt)
    (h2 : (sy_i F 82).toInt = 0)
    (k : ∀ F1 : Nat → sy_d, (∀ j, j < 82 → True → F1 j = F j) → Q (some (.int (((-2) : Int32)))) (sy_dh F1 X1 X2 (iv_H 3))) :
    hd_W Ls xs d jm_M112 Q (0, sy_dL F [some (.inl (.ref 8)), some (.inr (.inl 82))], sy_dS F [], sy_dh F X1 X2 (iv_H 3), 0, 0) := by
  refine hd_ret (s := 3) (nv := 83) (v := some (.inl (.int (-2)))) (uh := hd_ov (iv_id 0 iv_B0) []) (f := true) (sp := [30]) (d0 := 1) (O := [false, false, true]) (T := []) (P := [(3, .inr (.inl 82), .inl (.int 0)), (3, .inr (.inl 79), .inr (.inl 82)), (0, .inr (.inl 82), .inl (.int 0))]) jm_ok112 (by decide +kernel) (by decide +kernel) hd F X1 X2 (fun F' hF hs => ?_)
  have b82 := hd_b (F := F) (F' := F') (k := 82) (hF 82 (by decide))
  have b79 := hd_b (F := F) (F' := F') (k := 79) (hF 79 (by decide))
  have hB' : iv_in F' iv_B0 := iv_in_eq hB (fun j hj => hF j (Nat.lt_of_lt_of_le hj (by decide +kernel)))
  refine ⟨List.forall_mem_cons.mpr ⟨hd_p3 b82 rfl (by have hc : ((0) : Int32).toInt = 0 := (by decide); omega), List.forall_mem_cons.mpr ⟨hd_p3 b79 b82 h1, List.forall_mem_cons.mpr ⟨hd_p0 b82 rfl (by have hc : ((0) : Int32).toInt = 0 := (by decide); omega), fun _ h => absurd h List.not_mem_nil⟩⟩⟩, ?_⟩
  refine k _ ?_
  · exact fun j hj _ => (hd_keep hB' (Nat.lt_of_lt_of_le hj (by decide +kernel)) (by simp)).trans (hF j (Nat.lt_of_lt_of_le hj (by decide)))
theorem j3as_0_p3 {Ls : Nat} {xs : Nat → Int32} {d : Nat} {Q : Option Value → jm_h → Prop} (hd : 2 ≤ d) (F : Nat → sy_d) (X1 X2 : List jm_c) (hB : iv_in F iv_B0)
    (h0 : 0 ≤ (sy_i F 82).toInt)
    (h1 : (sy_i F 82).toInt ≤ (sy_i F 79).toInt)
    (h2 : (sy_i F 82).toInt ≠ 0)
    (k : ∀ F1 : Nat → sy_d, (∀ j, j < 82 → True → F1 j = F j) → F1 82 = .inl (.int (sy_i F 82)) → hd_W Ls xs d jm_M112 Q (30, sy_dL F1 [some (.inl (.ref 8)), some (.inr (.inl 82))], sy_dS F1 [.inr (.inl 82), .inl (.ref 20), .inl (.ref 70)], sy_dh F1 X1 X2 (iv_H 3), 0, 0)) :
    hd_W Ls xs d jm_M112 Q (0, sy_dL F [some (.inl (.ref 8)), some (.inr (.inl 82))], sy_dS F [], sy_dh F X1 X2 (iv_H 3), 0, 0) := by
  refine hd_run (s := 3) (nv := 83) (pc := 30) (L := [some (.inl (.ref 8)), some (.inr (.inl 82))]) (S := [.inr (.inl 82), .inl (.ref 20), .inl (.ref 70)]) (uh := hd_ov (iv_id 0 iv_B0) []) (ul := [.inl (.inr (.inl 82))]) (f := true) (sp := [30]) (d0 := 1) (O := [false, false, false]) (T := []) (P := [(3, .inr (.inl 82), .inl (.int 0)), (3, .inr (.inl 79), .inr (.inl 82)), (1, .inr (.inl 82), .inl (.int 0))]) jm_ok112 (by decide +kernel) (by decide +kernel) hd F X1 X2 (fun F' hF hs => ?_)
  have b82 := hd_b (F := F) (F' := F') (k := 82) (hF 82 (by decide))
  have b79 := hd_b (F := F) (F' := F') (k := 79) (hF 79 (by decide))
  have hB' : iv_in F' iv_B0 := iv_in_eq hB (fun j hj => hF j (Nat.lt_of_lt_of_le hj (by decide +kernel)))
  refine ⟨List.forall_mem_cons.mpr ⟨hd_p3 b82 rfl (by have hc : ((0) : Int32).toInt = 0 := (by decide); omega), List.forall_mem_cons.mpr ⟨hd_p3 b79 b82 h1, List.forall_mem_cons.mpr ⟨hd_p1 b82 rfl (by have hc : ((0) : Int32).toInt = 0 := (by decide); omega), fun _ h => absurd h List.not_mem_nil⟩⟩⟩, ?_⟩
  refine k _ ?_ ?_
  · exact fun j hj _ => (hd_keep hB' (Nat.lt_of_lt_of_le hj (by decide +kernel)) (by simp)).trans (hF j (Nat.lt_of_lt_of_le hj (by decide)))
  · exact hd_gi (x := .inr (.inl 82)) (by decide +kernel) b82
theorem j3as_0 {Ls : Nat} {xs : Nat → Int32} {d : Nat} {Q : Option Value → jm_h → Prop} (hd : 2 ≤ d) (F : Nat → sy_d) (X1 X2 : List jm_c) (hB : iv_in F iv_B0)
    (k0 : (sy_i F 82).toInt < 0 → ∀ F1 : Nat → sy_d, iv_in F1 iv_B0 → (∀ j, j < 82 → j ∉ ([] : List Nat) → F1 j = F j) → Q (some (.int (((-1) : Int32)))) (sy_dh F1 X1 X2 (iv_H 3)))
    (k1 : 0 ≤ (sy_i F 82).toInt → (sy_i F 79).toInt < (sy_i F 82).toInt → ∀ F1 : Nat → sy_d, iv_in F1 iv_B0 → (∀ j, j < 82 → j ∉ ([] : List Nat) → F1 j = F j) → Q (some (.int (((-1) : Int32)))) (sy_dh F1 X1 X2 (iv_H 3)))
    (k2 : 0 ≤ (sy_i F 82).toInt → (sy_i F 82).toInt ≤ (sy_i F 79).toInt → (sy_i F 82).toInt = 0 → ∀ F1 : Nat → sy_d, iv_in F1 iv_B0 → (∀ j, j < 82 → j ∉ ([] : List Nat) → F1 j = F j) → Q (some (.int (((-2) : Int32)))) (sy_dh F1 X1 X2 (iv_H 3)))
    (k3 : 0 ≤ (sy_i F 82).toInt → (sy_i F 82).toInt ≤ (sy_i F 79).toInt → (sy_i F 82).toInt ≠ 0 → ∀ F1 : Nat → sy_d, iv_in F1 iv_B0 → (∀ j, j < 82 → j ∉ ([] : List Nat) → F1 j = F j) → (sy_i F1 82).toInt = (sy_i F 82).toInt → sy_i F1 82 = sy_i F 82 → hd_W Ls xs d jm_M112 Q (30, sy_dL F1 [some (.inl (.ref 8)), some (.inr (.inl 82))], sy_dS F1 [.inr (.inl 82), .inl (.ref 20), .inl (.ref 70)], sy_dh F1 X1 X2 (iv_H 3), 0, 0)) :
    hd_W Ls xs d jm_M112 Q (0, sy_dL F [some (.inl (.ref 8)), some (.inr (.inl 82))], sy_dS F [], sy_dh F X1 X2 (iv_H 3), 0, 0) := by
  by_cases g0 : (sy_i F 82).toInt < 0
  · exact j3as_0_p0 hd F X1 X2 hB (by first | exact g0 | (simp only [nz_c]; exact g0)) (fun F1 g  => k0 g0 F1 (nz_in0 hB [] (fun j hj hn => g j hj (by simp only [List.mem_cons, List.not_mem_nil, or_false, not_or] at hn; exact trivial)) (List.forall_mem_nil _)) (fun j hj hn => g j hj (by simp only [List.mem_cons, List.not_mem_nil, or_false, not_or] at hn; exact trivial)) )
  replace g0 : 0 ≤ (sy_i F 82).toInt := by omega
  by_cases g1 : (sy_i F 79).toInt < (sy_i F 82).toInt
  · have c79 := nz_bx hB (k := 79) (lo := 0) (hi := 7) rfl
    exact j3as_0_p1 hd F X1 X2 hB (by first | exact g0 | (simp only [nz_c]; exact g0)) (by first | exact g1 | (simp only [nz_c]; exact g1)) (fun F1 g  => k1 g0 g1 F1 (nz_in0 hB [] (fun j hj hn => g j hj (by simp only [List.mem_cons, List.not_mem_nil, or_false, not_or] at hn; exact trivial)) (List.forall_mem_nil _)) (fun j hj hn => g j hj (by simp only [List.mem_cons, List.not_mem_nil, or_false, not_or] at hn; exact trivial)) )
  replace g1 : (sy_i F 82).toInt ≤ (sy_i F 79).toInt := by omega
  by_cases g2 : (sy_i F 82).toInt = 0
  · have c79 := nz_bx hB (k := 79) (lo := 0) (hi := 7) rfl
    exact j3as_0_p2 hd F X1 X2 hB (by first | exact g0 | (simp only [nz_c]; exact g0)) (by first | exact g1 | (simp only [nz_c]; exact g1)) (by first | exact g2 | (simp only [nz_c]; exact g2)) (fun F1 g  => k2 g0 g1 g2 F1 (nz_in0 hB [] (fun j hj hn => g j hj (by simp only [List.mem_cons, List.not_mem_nil, or_false, not_or] at hn; exact trivial)) (List.forall_mem_nil _)) (fun j hj hn => g j hj (by simp only [List.mem_cons, List.not_mem_nil, or_false, not_or] at hn; exact trivial)) )
  replace g2 : (sy_i F 82).toInt ≠ 0 := by omega
  have c79 := nz_bx hB (k := 79) (lo := 0) (hi := 7) rfl
  exact j3as_0_p3 hd F X1 X2 hB (by first | exact g0 | (simp only [nz_c]; exact g0)) (by first | exact g1 | (simp only [nz_c]; exact g1)) (by first | exact g2 | (simp only [nz_c]; exact g2)) (fun F1 g e82 => k3 g0 g1 g2 F1 (nz_in0 hB [] (fun j hj hn => g j hj (by simp only [List.mem_cons, List.not_mem_nil, or_false, not_or] at hn; exact trivial)) (List.forall_mem_nil _)) (fun j hj hn => g j hj (by simp only [List.mem_cons, List.not_mem_nil, or_false, not_or] at hn; exact trivial)) ((congrArg Int32.toInt (zz_i e82)).trans (rfl : (sy_i F 82).toInt = (sy_i F 82).toInt)) ((zz_i e82).trans (rfl : sy_i F 82 = sy_i F 82)))
theorem j3as_33_p0 {Ls : Nat} {xs : Nat → Int32} {d : Nat} {Q : Option Value → jm_h → Prop} (hd : 1 ≤ d) (F : Nat → sy_d) (X1 X2 : List jm_c) (hB : iv_in F iv_B0)
    (h0 : (sy_i F 83).toInt ≠ 0)
    (k : ∀ F1 : Nat → sy_d, (∀ j, j < 82 → True → F1 j = F j) → F1 82 = .inl (.int (sy_i F 82)) → hd_W Ls xs d jm_M112 Q (48, sy_dL F1 [some (.inl (.ref 8)), none], sy_dS F1 [.inr (.inl 82), .inl (.ref 20), .inl (.ref 70)], sy_dh F1 X1 X2 (iv_H 3), 0, 0)) :
    hd_W Ls xs d jm_M112 Q (33, sy_dL F [some (.inl (.ref 8)), some (.inr (.inl 82))], sy_dS F [.inr (.inl 83)], sy_dh F X1 X2 (iv_H 3), 0, 0) := by
  refine hd_run (s := 3) (nv := 84) (pc := 48) (L := [some (.inl (.ref 8)), none]) (S := [.inr (.inl 82), .inl (.ref 20), .inl (.ref 70)]) (uh := hd_ov (iv_id 0 iv_B0) []) (ul := [.inl (.inr (.inl 82))]) (f := false) (sp := [48]) (d0 := 0) (O := [true]) (T := []) (P := [(1, .inr (.inl 83), .inl (.int 0))]) jm_ok112 (by decide +kernel) (by decide +kernel) hd F X1 X2 (fun F' hF hs => ?_)
  have b83 := hd_b (F := F) (F' := F') (k := 83) (hF 83 (by decide))
  have b82 := hd_b (F := F) (F' := F') (k := 82) (hF 82 (by decide))
  have hB' : iv_in F' iv_B0 := iv_in_eq hB (fun j hj => hF j (Nat.lt_of_lt_of_le hj (by decide +kernel)))
  refine ⟨List.forall_mem_cons.mpr ⟨hd_p1 b83 rfl (by have hc : ((0) : Int32).toInt = 0 := (by decide); omega), fun _ h => absurd h List.not_mem_nil⟩, ?_⟩
  refine k _ ?_ ?_
  · exact fun j hj _ => (hd_keep hB' (Nat.lt_of_lt_of_le hj (by decide +kernel)) (by simp)).trans (hF j (Nat.lt_of_lt_of_le hj (by decide)))
  · exact hd_gi (x := .inr (.inl 82)) (by decide +kernel) b82
theorem j3as_33_p1 {Ls : Nat} {xs : Nat → Int32} {d : Nat} {Q : Option Value → jm_h → Prop} (hd : 1 ≤ d) (F : Nat → sy_d) (X1 X2 : List jm_c) (hB : iv_in F iv_B0)
    (h0 : (sy_i F 83).toInt = 0)
    (k : ∀ F1 : Nat → sy_d, (∀ j, j < 82 → True → F1 j = F j) → Q (some (.int (((-2) : Int32)))) (sy_dh F1 X1 X2 (iv_H 3))) :
    hd_W Ls xs d jm_M112 Q (33, sy_dL F [some (.inl (.ref 8)), some (.inr (.inl 82))], sy_dS F [.inr (.inl 83)], sy_dh F X1 X2 (iv_H 3), 0, 0) := by
  refine hd_ret (s := 3) (nv := 84) (v := some (.inl (.int (-2)))) (uh := hd_ov (iv_id 0 iv_B0) []) (f := false) (sp := [48]) (d0 := 0) (O := [false]) (T := []) (P := [(0, .inr (.inl 83), .inl (.int 0))]) jm_ok112 (by decide +kernel) (by decide +kernel) hd F X1 X2 (fun F' hF hs => ?_)
  have b83 := hd_b (F := F) (F' := F') (k := 83) (hF 83 (by decide))
  have hB' : iv_in F' iv_B0 := iv_in_eq hB (fun j hj => hF j (Nat.lt_of_lt_of_le hj (by decide +kernel)))
  refine ⟨List.forall_mem_cons.mpr ⟨hd_p0 b83 rfl (by have hc : ((0) : Int32).toInt = 0 := (by decide); omega), fun _ h => absurd h List.not_mem_nil⟩, ?_⟩
  refine k _ ?_
  · exact fun j hj _ => (hd_keep hB' (Nat.lt_of_lt_of_le hj (by decide +kernel)) (by simp)).trans (hF j (Nat.lt_of_lt_of_le hj (by decide)))
theorem j3as_33 {Ls : Nat} {xs : Nat → Int32} {d : Nat} {Q : Option Value → jm_h → Prop} (hd : 1 ≤ d) (F : Nat → sy_d) (X1 X2 : List jm_c) (hB : iv_in F iv_B0)
    (k0 : (sy_i F 83).toInt ≠ 0 → ∀ F1 : Nat → sy_d, iv_in F1 iv_B0 → (∀ j, j < 82 → j ∉ ([] : List Nat) → F1 j = F j) → (sy_i F1 82).toInt = (sy_i F 82).toInt → sy_i F1 82 = sy_i F 82 → hd_W Ls xs d jm_M112 Q (48, sy_dL F1 [some (.inl (.ref 8)), none], sy_dS F1 [.inr (.inl 82), .inl (.ref 20), .inl (.ref 70)], sy_dh F1 X1 X2 (iv_H 3), 0, 0))
    (k1 : (sy_i F 83).toInt = 0 → ∀ F1 : Nat → sy_d, iv_in F1 iv_B0 → (∀ j, j < 82 → j ∉ ([] : List Nat) → F1 j = F j) → Q (some (.int (((-2) : Int32)))) (sy_dh F1 X1 X2 (iv_H 3))) :
    hd_W Ls xs d jm_M112 Q (33, sy_dL F [some (.inl (.ref 8)), some (.inr (.inl 82))], sy_dS F [.inr (.inl 83)], sy_dh F X1 X2 (iv_H 3), 0, 0) := by
  by_cases g0 : (sy_i F 83).toInt ≠ 0
  · exact j3as_33_p0 hd F X1 X2 hB (by first | exact g0 | (simp only [nz_c]; exact g0)) (fun F1 g e82 => k0 g0 F1 (nz_in0 hB [] (fun j hj hn => g j hj (by simp only [List.mem_cons, List.not_mem_nil, or_false, not_or] at hn; exact trivial)) (List.forall_mem_nil _)) (fun j hj hn => g j hj (by simp only [List.mem_cons, List.not_mem_nil, or_false, not_or] at hn; exact trivial)) ((congrArg Int32.toInt (zz_i e82)).trans (rfl : (sy_i F 82).toInt = (sy_i F 82).toInt)) ((zz_i e82).trans (rfl : sy_i F 82 = sy_i F 82)))
  replace g0 : (sy_i F 83).toInt = 0 := by omega
  exact j3as_33_p1 hd F X1 X2 hB (by first | exact g0 | (simp only [nz_c]; exact g0)) (fun F1 g  => k1 g0 F1 (nz_in0 hB [] (fun j hj hn => g j hj (by simp only [List.mem_cons, List.not_mem_nil, or_false, not_or] at hn; exact trivial)) (List.forall_mem_nil _)) (fun j hj hn => g j hj (by simp only [List.mem_cons, List.not_mem_nil, or_false, not_or] at hn; exact trivial)) )
theorem j3as_51_p0 {Ls : Nat} {xs : Nat → Int32} {d : Nat} {Q : Option Value → jm_h → Prop} (hd : 1 ≤ d) (F : Nat → sy_d) (X1 X2 : List jm_c) (hB : iv_in F iv_B0)
    (k : ∀ F1 : Nat → sy_d, (∀ j, j < 82 → True → F1 j = F j) → Q (some (.int (sy_i F 82))) (sy_dh F1 X1 X2 (iv_H 3))) :
    hd_W Ls xs d jm_M112 Q (51, sy_dL F [some (.inl (.ref 8)), none], sy_dS F [.inr (.inl 82)], sy_dh F X1 X2 (iv_H 3), 0, 0) := by
  refine hd_ret (s := 3) (nv := 83) (v := some (.inr (.inl 82))) (uh := hd_ov (iv_id 0 iv_B0) []) (f := false) (sp := []) (d0 := 0) (O := []) (T := []) (P := []) jm_ok112 (by decide +kernel) (by decide +kernel) hd F X1 X2 (fun F' hF hs => ?_)
  have b82 := hd_b (F := F) (F' := F') (k := 82) (hF 82 (by decide))
  have hB' : iv_in F' iv_B0 := iv_in_eq hB (fun j hj => hF j (Nat.lt_of_lt_of_le hj (by decide +kernel)))
  have hk := k (sy_cm F' (hd_ov (iv_id 0 iv_B0) [] ++ [])) (fun j hj _ => (hd_keep hB' (Nat.lt_of_lt_of_le hj (by decide +kernel)) (by simp)).trans (hF j (Nat.lt_of_lt_of_le hj (by decide))))
  refine ⟨fun _ h => absurd h List.not_mem_nil, ?_⟩
  show Q (some (sy_dv F' (.inr (.inl 82)))) _
  rw [b82]
  exact hk
theorem j3as_51 {Ls : Nat} {xs : Nat → Int32} {d : Nat} {Q : Option Value → jm_h → Prop} (hd : 1 ≤ d) (F : Nat → sy_d) (X1 X2 : List jm_c) (hB : iv_in F iv_B0)
    (k0 : ∀ F1 : Nat → sy_d, iv_in F1 iv_B0 → (∀ j, j < 82 → j ∉ ([] : List Nat) → F1 j = F j) → Q (some (.int (sy_i F 82))) (sy_dh F1 X1 X2 (iv_H 3))) :
    hd_W Ls xs d jm_M112 Q (51, sy_dL F [some (.inl (.ref 8)), none], sy_dS F [.inr (.inl 82)], sy_dh F X1 X2 (iv_H 3), 0, 0) := by
  exact j3as_51_p0 hd F X1 X2 hB  (fun F1 g  => by rw [(rfl : sy_i F 82 = sy_i F 82)]; exact k0 F1 (nz_in0 hB [] (fun j hj hn => g j hj (by simp only [List.mem_cons, List.not_mem_nil, or_false, not_or] at hn; exact trivial)) (List.forall_mem_nil _)) (fun j hj hn => g j hj (by simp only [List.mem_cons, List.not_mem_nil, or_false, not_or] at hn; exact trivial)) )
