section
/-! ===== the reference: rows, what hangs, who catches, way by way ===== -/
theorem ykr_0_p0 {Ls : Nat} {xs : Nat → Int32} {d : Nat} {Q : Option Value → jm_h → Prop} (hd : 1 ≤ d) (F : Nat → sy_d) (X1 X2 : List jm_c) (hB : iv_in F iv_B4)
    (k : ∀ F1 : Nat → sy_d, (∀ j, j < 69 → True → F1 j = F j) → F1 69 = .inl (.int ((0 : Int32))) → hd_W Ls xs d jm_M172 Q (2, sy_dL F1 [some (.inl (.ref 1000)), some (.inr (.inl 69))], sy_dS F1 [], sy_dh F1 X1 X2 (iv_H 4), 0, 0)) :
    hd_W Ls xs d jm_M172 Q (0, sy_dL F [some (.inl (.ref 1000)), none], sy_dS F [], sy_dh F X1 X2 (iv_H 4), 0, 0) := by
  refine hd_run (s := 4) (nv := 69) (pc := 2) (L := [some (.inl (.ref 1000)), some (.inr (.inl 69))]) (S := []) (uh := hd_ov (iv_id 0 iv_B4) []) (ul := [.inl (.inl (.int 0))]) (f := true) (sp := [2]) (d0 := 0) (O := []) (T := []) (P := []) jm_ok172 (by decide +kernel) (by decide +kernel) hd F X1 X2 (fun F' hF hs => ?_)
  have hB' : iv_in F' iv_B4 := iv_in_eq hB (fun j hj => hF j (Nat.lt_of_lt_of_le hj (by decide +kernel)))
  refine ⟨fun _ h => absurd h List.not_mem_nil, ?_⟩
  refine k _ ?_ ?_
  · exact fun j hj _ => (hd_keep hB' (Nat.lt_of_lt_of_le hj (by decide +kernel)) (by simp)).trans (hF j (Nat.lt_of_lt_of_le hj (by decide)))
  · exact hd_gi (x := .inl (.int 0)) (by decide +kernel) rfl
theorem ykr_0 {Ls : Nat} {xs : Nat → Int32} {d : Nat} {Q : Option Value → jm_h → Prop} (hd : 1 ≤ d) (F : Nat → sy_d) (X1 X2 : List jm_c) (hB : iv_in F iv_B4)
    (k0 : ∀ F1 : Nat → sy_d, iv_in F1 iv_B4 → (∀ j, j < 69 → j ∉ ([] : List Nat) → F1 j = F j) → (sy_i F1 69).toInt = 0 → sy_i F1 69 = (0 : Int32) → hd_W Ls xs d jm_M172 Q (2, sy_dL F1 [some (.inl (.ref 1000)), some (.inr (.inl 69))], sy_dS F1 [], sy_dh F1 X1 X2 (iv_H 4), 0, 0)) :
    hd_W Ls xs d jm_M172 Q (0, sy_dL F [some (.inl (.ref 1000)), none], sy_dS F [], sy_dh F X1 X2 (iv_H 4), 0, 0) := by
  exact ykr_0_p0 hd F X1 X2 hB  (fun F1 g e69 => k0 F1 (nz_in hB [] (fun j hj hn => g j hj (by simp only [List.mem_cons, List.not_mem_nil, or_false, not_or] at hn; exact trivial)) (List.forall_mem_nil _)) (fun j hj hn => g j hj (by simp only [List.mem_cons, List.not_mem_nil, or_false, not_or] at hn; exact trivial)) ((congrArg Int32.toInt (zz_i e69)).trans (by decide : ((0 : Int32)).toInt = 0)) ((zz_i e69).trans (rfl : (0 : Int32) = (0 : Int32))))
theorem ykr_2_p0 {Ls : Nat} {xs : Nat → Int32} {d : Nat} {Q : Option Value → jm_h → Prop} (hd : 1 ≤ d) (F : Nat → sy_d) (X1 X2 : List jm_c) (hB : iv_in F iv_B4)
    (h0 : 61 ≤ (sy_i F 69).toInt)
    (k : ∀ F1 : Nat → sy_d, (∀ j, j < 69 → True → F1 j = F j) → Q (none) (sy_dh F1 X1 X2 (iv_H 4))) :
    hd_W Ls xs d jm_M172 Q (2, sy_dL F [some (.inl (.ref 1000)), some (.inr (.inl 69))], sy_dS F [], sy_dh F X1 X2 (iv_H 4), 0, 0) := by
  refine hd_ret (s := 4) (nv := 70) (v := none) (uh := hd_ov (iv_id 0 iv_B4) []) (f := true) (sp := [2]) (d0 := 0) (O := [true]) (T := []) (P := [(4, .inl (.int 61), .inr (.inl 69))]) jm_ok172 (by decide +kernel) (by decide +kernel) hd F X1 X2 (fun F' hF hs => ?_)
  have b69 := hd_b (F := F) (F' := F') (k := 69) (hF 69 (by decide))
  have hB' : iv_in F' iv_B4 := iv_in_eq hB (fun j hj => hF j (Nat.lt_of_lt_of_le hj (by decide +kernel)))
  refine ⟨List.forall_mem_cons.mpr ⟨hd_p4 rfl b69 (by have hc : ((61) : Int32).toInt = 61 := (by decide); omega), fun _ h => absurd h List.not_mem_nil⟩, ?_⟩
  refine k _ ?_
  · exact fun j hj _ => (hd_keep hB' (Nat.lt_of_lt_of_le hj (by decide +kernel)) (by simp)).trans (hF j (Nat.lt_of_lt_of_le hj (by decide)))
theorem ykr_2_p1 {Ls : Nat} {xs : Nat → Int32} {d : Nat} {Q : Option Value → jm_h → Prop} (hd : 1 ≤ d) (F : Nat → sy_d) (X1 X2 : List jm_c) (hB : iv_in F iv_B4)
    (h0 : (sy_i F 69).toInt < 61)
    (h1 : 0 ≤ (sy_i F 69).toInt ∧ (sy_i F 69).toInt < 61)
    (h2 : 0 ≤ (sy_i F 69).toInt ∧ (sy_i F 69).toInt < 61)
    (k : ∀ F1 : Nat → sy_d, (∀ j, j < 69 → j ≠ 54 → F1 j = F j) → F1 54 = .inr (.inl (jm_upd (sy_ai F 54) (sy_i F 69).toNatClampNeg ((sy_ai F 55).getD (sy_i F 69).toNatClampNeg 0))) → F1 69 = .inl (.int ((sy_i F 69) + ((1 : Int32)))) → hd_W Ls xs d jm_M172 Q (2, sy_dL F1 [some (.inl (.ref 1000)), some (.inr (.inl 69))], sy_dS F1 [], sy_dh F1 X1 X2 (iv_H 4), 0, 0)) :
    hd_W Ls xs d jm_M172 Q (2, sy_dL F [some (.inl (.ref 1000)), some (.inr (.inl 69))], sy_dS F [], sy_dh F X1 X2 (iv_H 4), 0, 0) := by
  refine hd_run (s := 4) (nv := 70) (pc := 2) (L := [some (.inl (.ref 1000)), some (.inr (.inl 69))]) (S := []) (uh := hd_ov (iv_id 0 iv_B4) [(54, .inr (.inr (.inl 71)))]) (ul := [.inl (.inr (.inl 72))]) (f := true) (sp := [2]) (d0 := 0) (O := [false]) (T := [(30, [.inr (.inl 69)], [.inr (.inl 55)]), (40, [.inr (.inl 69), .inr (.inl 70)], [.inr (.inl 54)]), (0, [.inr (.inl 69), .inl (.int 1)], [])]) (P := [(5, .inl (.int 61), .inr (.inl 69)), (6, .inr (.inl 69), .inl (.ref 61)), (6, .inr (.inl 69), .inl (.ref 61))]) jm_ok172 (by decide +kernel) (by decide +kernel) hd F X1 X2 (fun F' hF hs => ?_)
  have b69 := hd_b (F := F) (F' := F') (k := 69) (hF 69 (by decide))
  have a55 := hd_ba (F := F) (F' := F') (k := 55) (hF 55 (by decide))
  have t70 : sy_dv F' (.inr (.inl 70)) = .int ((sy_ai F 55).getD (sy_i F 69).toNatClampNeg 0) := hd_rd (hs 0 _ rfl) b69 a55
  have a54 := hd_ba (F := F) (F' := F') (k := 54) (hF 54 (by decide))
  have t71 : sy_da F' (.inr (.inl 71)) = .inl (jm_upd (sy_ai F 54) (sy_i F 69).toNatClampNeg ((sy_ai F 55).getD (sy_i F 69).toNatClampNeg 0)) := hd_up (hs 1 _ rfl) b69 t70 a54
  have t72 : sy_dv F' (.inr (.inl 72)) = .int ((sy_i F 69) + ((1 : Int32))) := hd_o (hs 2 _ rfl) b69 rfl rfl
  have hB' : iv_in F' iv_B4 := iv_in_eq hB (fun j hj => hF j (Nat.lt_of_lt_of_le hj (by decide +kernel)))
  refine ⟨List.forall_mem_cons.mpr ⟨hd_p5 rfl b69 (by have hc : ((61) : Int32).toInt = 61 := (by decide); omega), List.forall_mem_cons.mpr ⟨hd_pb b69 (by first | exact h1 | exact h1), List.forall_mem_cons.mpr ⟨hd_pb b69 (by first | exact h2 | exact h2), fun _ h => absurd h List.not_mem_nil⟩⟩⟩, ?_⟩
  refine k _ ?_ ?_ ?_
  · exact fun j hj hn => (hd_keep hB' (Nat.lt_of_lt_of_le hj (by decide +kernel)) (by simp; omega)).trans (hF j (Nat.lt_of_lt_of_le hj (by decide)))
  · exact hd_ga (a := .inr (.inl 71)) (by decide +kernel) t71
  · exact hd_gi (x := .inr (.inl 72)) (by decide +kernel) t72
theorem ykr_2 {Ls : Nat} {xs : Nat → Int32} {d : Nat} {Q : Option Value → jm_h → Prop} (hd : 1 ≤ d) (F : Nat → sy_d) (X1 X2 : List jm_c) (hB : iv_in F iv_B4)
    (a69 : 0 ≤ (sy_i F 69).toInt ∧ (sy_i F 69).toInt ≤ 61)
    (k0 : 61 ≤ (sy_i F 69).toInt → ∀ F1 : Nat → sy_d, iv_in F1 iv_B4 → (∀ j, j < 69 → j ∉ ([] : List Nat) → F1 j = F j) → Q (none) (sy_dh F1 X1 X2 (iv_H 4)))
    (k1 : (sy_i F 69).toInt < 61 → ∀ F1 : Nat → sy_d, iv_in F1 iv_B4 → (∀ j, j < 69 → j ∉ ([54] : List Nat) → F1 j = F j) → sy_ai F1 54 = jm_upd (sy_ai F 54) ((sy_i F 69).toInt).toNat ((sy_ai F 55).getD ((sy_i F 69).toInt).toNat 0) → (sy_i F1 69).toInt = ((sy_i F 69).toInt + 1) → sy_i F1 69 = (sy_i F 69) + ((1 : Int32)) → hd_W Ls xs d jm_M172 Q (2, sy_dL F1 [some (.inl (.ref 1000)), some (.inr (.inl 69))], sy_dS F1 [], sy_dh F1 X1 X2 (iv_H 4), 0, 0)) :
    hd_W Ls xs d jm_M172 Q (2, sy_dL F [some (.inl (.ref 1000)), some (.inr (.inl 69))], sy_dS F [], sy_dh F X1 X2 (iv_H 4), 0, 0) := by
  by_cases g0 : 61 ≤ (sy_i F 69).toInt
  · exact ykr_2_p0 hd F X1 X2 hB (by first | exact g0 | (simp only [nz_c]; exact g0)) (fun F1 g  => k0 g0 F1 (nz_in hB [] (fun j hj hn => g j hj (by simp only [List.mem_cons, List.not_mem_nil, or_false, not_or] at hn; exact trivial)) (List.forall_mem_nil _)) (fun j hj hn => g j hj (by simp only [List.mem_cons, List.not_mem_nil, or_false, not_or] at hn; exact trivial)) )
  replace g0 : (sy_i F 69).toInt < 61 := by omega
  have w71 : jm_upd (sy_ai F 54) (sy_i F 69).toNatClampNeg ((sy_ai F 55).getD (sy_i F 69).toNatClampNeg 0) = jm_upd (sy_ai F 54) ((sy_i F 69).toInt).toNat ((sy_ai F 55).getD ((sy_i F 69).toInt).toNat 0) := by simp only [nz_c]
  have n72 : nzI ((sy_i F 69) + ((1 : Int32))) (((sy_i F 69).toInt + 1)) := nz_add (rfl : (sy_i F 69).toInt = (sy_i F 69).toInt) (by decide : ((1 : Int32)).toInt = 1) (by omega) (by omega)
  exact ykr_2_p1 hd F X1 X2 hB (by first | exact g0 | (simp only [nz_c]; exact g0)) (by first | exact ⟨by omega, by omega⟩ | (simp only [nz_c]; exact ⟨by omega, by omega⟩)) (by first | exact ⟨by omega, by omega⟩ | (simp only [nz_c]; exact ⟨by omega, by omega⟩)) (fun F1 g e54 e69 => k1 g0 F1 (nz_in hB [54] (fun j hj hn => g j hj (by simp only [List.mem_cons, List.not_mem_nil, or_false, not_or] at hn; omega)) (List.forall_mem_cons.mpr ⟨fun t ht => (Option.some.inj ht) ▸ (nz_hz2 e54), List.forall_mem_nil _⟩)) (fun j hj hn => g j hj (by simp only [List.mem_cons, List.not_mem_nil, or_false, not_or] at hn; omega)) ((zz_ai e54).trans w71) ((congrArg Int32.toInt (zz_i e69)).trans (nzE n72)) ((zz_i e69).trans (rfl : (sy_i F 69) + ((1 : Int32)) = (sy_i F 69) + ((1 : Int32)))))
theorem ycp_0_p0 {Ls : Nat} {xs : Nat → Int32} {d : Nat} {Q : Option Value → jm_h → Prop} (hd : 1 ≤ d) (F : Nat → sy_d) (X1 X2 : List jm_c) (hB : iv_in F iv_B4)
    (k : ∀ F1 : Nat → sy_d, (∀ j, j < 69 → True → F1 j = F j) → F1 69 = .inl (.int ((0 : Int32))) → hd_W Ls xs d jm_M173 Q (2, sy_dL F1 [some (.inl (.ref 1000)), some (.inr (.inl 69))], sy_dS F1 [], sy_dh F1 X1 X2 (iv_H 4), 0, 0)) :
    hd_W Ls xs d jm_M173 Q (0, sy_dL F [some (.inl (.ref 1000)), none], sy_dS F [], sy_dh F X1 X2 (iv_H 4), 0, 0) := by
  refine hd_run (s := 4) (nv := 69) (pc := 2) (L := [some (.inl (.ref 1000)), some (.inr (.inl 69))]) (S := []) (uh := hd_ov (iv_id 0 iv_B4) []) (ul := [.inl (.inl (.int 0))]) (f := true) (sp := [2]) (d0 := 0) (O := []) (T := []) (P := []) jm_ok173 (by decide +kernel) (by decide +kernel) hd F X1 X2 (fun F' hF hs => ?_)
  have hB' : iv_in F' iv_B4 := iv_in_eq hB (fun j hj => hF j (Nat.lt_of_lt_of_le hj (by decide +kernel)))
  refine ⟨fun _ h => absurd h List.not_mem_nil, ?_⟩
  refine k _ ?_ ?_
  · exact fun j hj _ => (hd_keep hB' (Nat.lt_of_lt_of_le hj (by decide +kernel)) (by simp)).trans (hF j (Nat.lt_of_lt_of_le hj (by decide)))
  · exact hd_gi (x := .inl (.int 0)) (by decide +kernel) rfl
theorem ycp_0 {Ls : Nat} {xs : Nat → Int32} {d : Nat} {Q : Option Value → jm_h → Prop} (hd : 1 ≤ d) (F : Nat → sy_d) (X1 X2 : List jm_c) (hB : iv_in F iv_B4)
    (k0 : ∀ F1 : Nat → sy_d, iv_in F1 iv_B4 → (∀ j, j < 69 → j ∉ ([] : List Nat) → F1 j = F j) → (sy_i F1 69).toInt = 0 → sy_i F1 69 = (0 : Int32) → hd_W Ls xs d jm_M173 Q (2, sy_dL F1 [some (.inl (.ref 1000)), some (.inr (.inl 69))], sy_dS F1 [], sy_dh F1 X1 X2 (iv_H 4), 0, 0)) :
    hd_W Ls xs d jm_M173 Q (0, sy_dL F [some (.inl (.ref 1000)), none], sy_dS F [], sy_dh F X1 X2 (iv_H 4), 0, 0) := by
  exact ycp_0_p0 hd F X1 X2 hB  (fun F1 g e69 => k0 F1 (nz_in hB [] (fun j hj hn => g j hj (by simp only [List.mem_cons, List.not_mem_nil, or_false, not_or] at hn; exact trivial)) (List.forall_mem_nil _)) (fun j hj hn => g j hj (by simp only [List.mem_cons, List.not_mem_nil, or_false, not_or] at hn; exact trivial)) ((congrArg Int32.toInt (zz_i e69)).trans (by decide : ((0 : Int32)).toInt = 0)) ((zz_i e69).trans (rfl : (0 : Int32) = (0 : Int32))))
theorem ycp_2_p0 {Ls : Nat} {xs : Nat → Int32} {d : Nat} {Q : Option Value → jm_h → Prop} (hd : 1 ≤ d) (F : Nat → sy_d) (X1 X2 : List jm_c) (hB : iv_in F iv_B4)
    (h0 : 61 ≤ (sy_i F 69).toInt)
    (h1 : 0 ≤ (sy_i F 11).toInt ∧ (sy_i F 11).toInt < 2)
    (k : ∀ F1 : Nat → sy_d, (∀ j, j < 69 → j ≠ 18 → F1 j = F j) → F1 18 = .inl (.int ((sy_ai F 41).getD (sy_i F 11).toNatClampNeg 0)) → Q (none) (sy_dh F1 X1 X2 (iv_H 4))) :
    hd_W Ls xs d jm_M173 Q (2, sy_dL F [some (.inl (.ref 1000)), some (.inr (.inl 69))], sy_dS F [], sy_dh F X1 X2 (iv_H 4), 0, 0) := by
  refine hd_ret (s := 4) (nv := 70) (v := none) (uh := hd_ov (iv_id 0 iv_B4) [(18, .inl (.inr (.inl 70)))]) (f := true) (sp := [2]) (d0 := 0) (O := [true]) (T := [(30, [.inr (.inl 11)], [.inr (.inl 41)])]) (P := [(4, .inl (.int 61), .inr (.inl 69)), (6, .inr (.inl 11), .inl (.ref 2))]) jm_ok173 (by decide +kernel) (by decide +kernel) hd F X1 X2 (fun F' hF hs => ?_)
  have b69 := hd_b (F := F) (F' := F') (k := 69) (hF 69 (by decide))
  have b11 := hd_b (F := F) (F' := F') (k := 11) (hF 11 (by decide))
  have a41 := hd_ba (F := F) (F' := F') (k := 41) (hF 41 (by decide))
  have t70 : sy_dv F' (.inr (.inl 70)) = .int ((sy_ai F 41).getD (sy_i F 11).toNatClampNeg 0) := hd_rd (hs 0 _ rfl) b11 a41
  have hB' : iv_in F' iv_B4 := iv_in_eq hB (fun j hj => hF j (Nat.lt_of_lt_of_le hj (by decide +kernel)))
  refine ⟨List.forall_mem_cons.mpr ⟨hd_p4 rfl b69 (by have hc : ((61) : Int32).toInt = 61 := (by decide); omega), List.forall_mem_cons.mpr ⟨hd_pb b11 (by first | exact h1 | exact h1), fun _ h => absurd h List.not_mem_nil⟩⟩, ?_⟩
  refine k _ ?_ ?_
  · exact fun j hj hn => (hd_keep hB' (Nat.lt_of_lt_of_le hj (by decide +kernel)) (by simp; omega)).trans (hF j (Nat.lt_of_lt_of_le hj (by decide)))
  · exact hd_gi (x := .inr (.inl 70)) (by decide +kernel) t70
theorem ycp_2_p1 {Ls : Nat} {xs : Nat → Int32} {d : Nat} {Q : Option Value → jm_h → Prop} (hd : 1 ≤ d) (F : Nat → sy_d) (X1 X2 : List jm_c) (hB : iv_in F iv_B4)
    (h0 : (sy_i F 69).toInt < 61)
    (h1 : 0 ≤ (sy_i F 69).toInt ∧ (sy_i F 69).toInt < 61)
    (h2 : 0 ≤ (sy_i F 69).toInt ∧ (sy_i F 69).toInt < 61)
    (k : ∀ F1 : Nat → sy_d, (∀ j, j < 69 → j ≠ 55 → F1 j = F j) → F1 55 = .inr (.inl (jm_upd (sy_ai F 55) (sy_i F 69).toNatClampNeg ((sy_ai F 54).getD (sy_i F 69).toNatClampNeg 0))) → F1 69 = .inl (.int ((sy_i F 69) + ((1 : Int32)))) → hd_W Ls xs d jm_M173 Q (2, sy_dL F1 [some (.inl (.ref 1000)), some (.inr (.inl 69))], sy_dS F1 [], sy_dh F1 X1 X2 (iv_H 4), 0, 0)) :
    hd_W Ls xs d jm_M173 Q (2, sy_dL F [some (.inl (.ref 1000)), some (.inr (.inl 69))], sy_dS F [], sy_dh F X1 X2 (iv_H 4), 0, 0) := by
  refine hd_run (s := 4) (nv := 70) (pc := 2) (L := [some (.inl (.ref 1000)), some (.inr (.inl 69))]) (S := []) (uh := hd_ov (iv_id 0 iv_B4) [(55, .inr (.inr (.inl 71)))]) (ul := [.inl (.inr (.inl 72))]) (f := true) (sp := [2]) (d0 := 0) (O := [false]) (T := [(30, [.inr (.inl 69)], [.inr (.inl 54)]), (40, [.inr (.inl 69), .inr (.inl 70)], [.inr (.inl 55)]), (0, [.inr (.inl 69), .inl (.int 1)], [])]) (P := [(5, .inl (.int 61), .inr (.inl 69)), (6, .inr (.inl 69), .inl (.ref 61)), (6, .inr (.inl 69), .inl (.ref 61))]) jm_ok173 (by decide +kernel) (by decide +kernel) hd F X1 X2 (fun F' hF hs => ?_)
  have b69 := hd_b (F := F) (F' := F') (k := 69) (hF 69 (by decide))
  have a54 := hd_ba (F := F) (F' := F') (k := 54) (hF 54 (by decide))
  have t70 : sy_dv F' (.inr (.inl 70)) = .int ((sy_ai F 54).getD (sy_i F 69).toNatClampNeg 0) := hd_rd (hs 0 _ rfl) b69 a54
  have a55 := hd_ba (F := F) (F' := F') (k := 55) (hF 55 (by decide))
  have t71 : sy_da F' (.inr (.inl 71)) = .inl (jm_upd (sy_ai F 55) (sy_i F 69).toNatClampNeg ((sy_ai F 54).getD (sy_i F 69).toNatClampNeg 0)) := hd_up (hs 1 _ rfl) b69 t70 a55
  have t72 : sy_dv F' (.inr (.inl 72)) = .int ((sy_i F 69) + ((1 : Int32))) := hd_o (hs 2 _ rfl) b69 rfl rfl
  have hB' : iv_in F' iv_B4 := iv_in_eq hB (fun j hj => hF j (Nat.lt_of_lt_of_le hj (by decide +kernel)))
  refine ⟨List.forall_mem_cons.mpr ⟨hd_p5 rfl b69 (by have hc : ((61) : Int32).toInt = 61 := (by decide); omega), List.forall_mem_cons.mpr ⟨hd_pb b69 (by first | exact h1 | exact h1), List.forall_mem_cons.mpr ⟨hd_pb b69 (by first | exact h2 | exact h2), fun _ h => absurd h List.not_mem_nil⟩⟩⟩, ?_⟩
  refine k _ ?_ ?_ ?_
  · exact fun j hj hn => (hd_keep hB' (Nat.lt_of_lt_of_le hj (by decide +kernel)) (by simp; omega)).trans (hF j (Nat.lt_of_lt_of_le hj (by decide)))
  · exact hd_ga (a := .inr (.inl 71)) (by decide +kernel) t71
  · exact hd_gi (x := .inr (.inl 72)) (by decide +kernel) t72
theorem ycp_2 {Ls : Nat} {xs : Nat → Int32} {d : Nat} {Q : Option Value → jm_h → Prop} (hd : 1 ≤ d) (F : Nat → sy_d) (X1 X2 : List jm_c) (hB : iv_in F iv_B4)
    (a69 : 0 ≤ (sy_i F 69).toInt ∧ (sy_i F 69).toInt ≤ 61)
    (k0 : 61 ≤ (sy_i F 69).toInt → ∀ F1 : Nat → sy_d, iv_in F1 iv_B4 → (∀ j, j < 69 → j ∉ ([18] : List Nat) → F1 j = F j) → (sy_i F1 18).toInt = ((sy_ai F 41).getD ((sy_i F 11).toInt).toNat 0).toInt → sy_i F1 18 = (sy_ai F 41).getD ((sy_i F 11).toInt).toNat 0 → Q (none) (sy_dh F1 X1 X2 (iv_H 4)))
    (k1 : (sy_i F 69).toInt < 61 → ∀ F1 : Nat → sy_d, iv_in F1 iv_B4 → (∀ j, j < 69 → j ∉ ([55] : List Nat) → F1 j = F j) → sy_ai F1 55 = jm_upd (sy_ai F 55) ((sy_i F 69).toInt).toNat ((sy_ai F 54).getD ((sy_i F 69).toInt).toNat 0) → (sy_i F1 69).toInt = ((sy_i F 69).toInt + 1) → sy_i F1 69 = (sy_i F 69) + ((1 : Int32)) → hd_W Ls xs d jm_M173 Q (2, sy_dL F1 [some (.inl (.ref 1000)), some (.inr (.inl 69))], sy_dS F1 [], sy_dh F1 X1 X2 (iv_H 4), 0, 0)) :
    hd_W Ls xs d jm_M173 Q (2, sy_dL F [some (.inl (.ref 1000)), some (.inr (.inl 69))], sy_dS F [], sy_dh F X1 X2 (iv_H 4), 0, 0) := by
  by_cases g0 : 61 ≤ (sy_i F 69).toInt
  · have c11 := nz_bx hB (k := 11) (lo := 0) (hi := 1) rfl
    have q70 : (sy_ai F 41).getD (sy_i F 11).toNatClampNeg 0 = (sy_ai F 41).getD ((sy_i F 11).toInt).toNat 0 := by simp only [nz_c]
    have n70 : nzI ((sy_ai F 41).getD (sy_i F 11).toNatClampNeg 0) (((sy_ai F 41).getD ((sy_i F 11).toInt).toNat 0).toInt) := congrArg Int32.toInt q70
    exact ycp_2_p0 hd F X1 X2 hB (by first | exact g0 | (simp only [nz_c]; exact g0)) (by first | exact ⟨by omega, by omega⟩ | (simp only [nz_c]; exact ⟨by omega, by omega⟩)) (fun F1 g e18 => k0 g0 F1 (nz_in hB [18] (fun j hj hn => g j hj (by simp only [List.mem_cons, List.not_mem_nil, or_false, not_or] at hn; omega)) (List.forall_mem_cons.mpr ⟨fun t ht => (Option.some.inj ht) ▸ (nz_hz e18), List.forall_mem_nil _⟩)) (fun j hj hn => g j hj (by simp only [List.mem_cons, List.not_mem_nil, or_false, not_or] at hn; omega)) ((congrArg Int32.toInt (zz_i e18)).trans (nzE n70)) ((zz_i e18).trans q70))
  replace g0 : (sy_i F 69).toInt < 61 := by omega
  have w71 : jm_upd (sy_ai F 55) (sy_i F 69).toNatClampNeg ((sy_ai F 54).getD (sy_i F 69).toNatClampNeg 0) = jm_upd (sy_ai F 55) ((sy_i F 69).toInt).toNat ((sy_ai F 54).getD ((sy_i F 69).toInt).toNat 0) := by simp only [nz_c]
  have n72 : nzI ((sy_i F 69) + ((1 : Int32))) (((sy_i F 69).toInt + 1)) := nz_add (rfl : (sy_i F 69).toInt = (sy_i F 69).toInt) (by decide : ((1 : Int32)).toInt = 1) (by omega) (by omega)
  exact ycp_2_p1 hd F X1 X2 hB (by first | exact g0 | (simp only [nz_c]; exact g0)) (by first | exact ⟨by omega, by omega⟩ | (simp only [nz_c]; exact ⟨by omega, by omega⟩)) (by first | exact ⟨by omega, by omega⟩ | (simp only [nz_c]; exact ⟨by omega, by omega⟩)) (fun F1 g e55 e69 => k1 g0 F1 (nz_in hB [55] (fun j hj hn => g j hj (by simp only [List.mem_cons, List.not_mem_nil, or_false, not_or] at hn; omega)) (List.forall_mem_cons.mpr ⟨fun t ht => (Option.some.inj ht) ▸ (nz_hz2 e55), List.forall_mem_nil _⟩)) (fun j hj hn => g j hj (by simp only [List.mem_cons, List.not_mem_nil, or_false, not_or] at hn; omega)) ((zz_ai e55).trans w71) ((congrArg Int32.toInt (zz_i e69)).trans (nzE n72)) ((zz_i e69).trans (rfl : (sy_i F 69) + ((1 : Int32)) = (sy_i F 69) + ((1 : Int32)))))
theorem ybi_0_p0 {Ls : Nat} {xs : Nat → Int32} {d : Nat} {Q : Option Value → jm_h → Prop} (hd : 1 ≤ d) (F : Nat → sy_d) (X1 X2 : List jm_c) (hB : iv_in F iv_B4)
    (k : ∀ F1 : Nat → sy_d, (∀ j, j < 69 → True → F1 j = F j) → F1 69 = .inl (.int (sy_i F 69)) → F1 70 = .inl (.int ((0 : Int32))) → F1 71 = .inl (.int ((0 : Int32))) → hd_W Ls xs d jm_M176 Q (4, sy_dL F1 [some (.inl (.ref 1000)), some (.inr (.inl 69)), some (.inr (.inl 70)), some (.inr (.inl 71))], sy_dS F1 [], sy_dh F1 X1 X2 (iv_H 4), 0, 0)) :
    hd_W Ls xs d jm_M176 Q (0, sy_dL F [some (.inl (.ref 1000)), some (.inr (.inl 69)), none, none], sy_dS F [], sy_dh F X1 X2 (iv_H 4), 0, 0) := by
  refine hd_run (s := 4) (nv := 70) (pc := 4) (L := [some (.inl (.ref 1000)), some (.inr (.inl 69)), some (.inr (.inl 70)), some (.inr (.inl 71))]) (S := []) (uh := hd_ov (iv_id 0 iv_B4) []) (ul := [.inl (.inr (.inl 69)), .inl (.inl (.int 0)), .inl (.inl (.int 0))]) (f := true) (sp := [4]) (d0 := 0) (O := []) (T := []) (P := []) jm_ok176 (by decide +kernel) (by decide +kernel) hd F X1 X2 (fun F' hF hs => ?_)
  have b69 := hd_b (F := F) (F' := F') (k := 69) (hF 69 (by decide))
  have hB' : iv_in F' iv_B4 := iv_in_eq hB (fun j hj => hF j (Nat.lt_of_lt_of_le hj (by decide +kernel)))
  refine ⟨fun _ h => absurd h List.not_mem_nil, ?_⟩
  refine k _ ?_ ?_ ?_ ?_
  · exact fun j hj _ => (hd_keep hB' (Nat.lt_of_lt_of_le hj (by decide +kernel)) (by simp)).trans (hF j (Nat.lt_of_lt_of_le hj (by decide)))
  · exact hd_gi (x := .inr (.inl 69)) (by decide +kernel) b69
  · exact hd_gi (x := .inl (.int 0)) (by decide +kernel) rfl
  · exact hd_gi (x := .inl (.int 0)) (by decide +kernel) rfl
theorem ybi_0 {Ls : Nat} {xs : Nat → Int32} {d : Nat} {Q : Option Value → jm_h → Prop} (hd : 1 ≤ d) (F : Nat → sy_d) (X1 X2 : List jm_c) (hB : iv_in F iv_B4)
    (k0 : ∀ F1 : Nat → sy_d, iv_in F1 iv_B4 → (∀ j, j < 69 → j ∉ ([] : List Nat) → F1 j = F j) → (sy_i F1 69).toInt = (sy_i F 69).toInt → sy_i F1 69 = sy_i F 69 → (sy_i F1 70).toInt = 0 → sy_i F1 70 = (0 : Int32) → (sy_i F1 71).toInt = 0 → sy_i F1 71 = (0 : Int32) → hd_W Ls xs d jm_M176 Q (4, sy_dL F1 [some (.inl (.ref 1000)), some (.inr (.inl 69)), some (.inr (.inl 70)), some (.inr (.inl 71))], sy_dS F1 [], sy_dh F1 X1 X2 (iv_H 4), 0, 0)) :
    hd_W Ls xs d jm_M176 Q (0, sy_dL F [some (.inl (.ref 1000)), some (.inr (.inl 69)), none, none], sy_dS F [], sy_dh F X1 X2 (iv_H 4), 0, 0) := by
  exact ybi_0_p0 hd F X1 X2 hB  (fun F1 g e69 e70 e71 => k0 F1 (nz_in hB [] (fun j hj hn => g j hj (by simp only [List.mem_cons, List.not_mem_nil, or_false, not_or] at hn; exact trivial)) (List.forall_mem_nil _)) (fun j hj hn => g j hj (by simp only [List.mem_cons, List.not_mem_nil, or_false, not_or] at hn; exact trivial)) ((congrArg Int32.toInt (zz_i e69)).trans (rfl : (sy_i F 69).toInt = (sy_i F 69).toInt)) ((zz_i e69).trans (rfl : sy_i F 69 = sy_i F 69)) ((congrArg Int32.toInt (zz_i e70)).trans (by decide : ((0 : Int32)).toInt = 0)) ((zz_i e70).trans (rfl : (0 : Int32) = (0 : Int32))) ((congrArg Int32.toInt (zz_i e71)).trans (by decide : ((0 : Int32)).toInt = 0)) ((zz_i e71).trans (rfl : (0 : Int32) = (0 : Int32))))
theorem ybi_4_p0 {Ls : Nat} {xs : Nat → Int32} {d : Nat} {Q : Option Value → jm_h → Prop} (hd : 1 ≤ d) (F : Nat → sy_d) (X1 X2 : List jm_c) (hB : iv_in F iv_B4)
    (h0 : 0 ≤ (sy_i F 11).toInt ∧ (sy_i F 11).toInt < 2)
    (h1 : ((sy_ai F 31).getD (sy_i F 11).toNatClampNeg 0).toInt ≤ (sy_i F 71).toInt)
    (k : ∀ F1 : Nat → sy_d, (∀ j, j < 69 → True → F1 j = F j) → Q (some (.int (sy_i F 70))) (sy_dh F1 X1 X2 (iv_H 4))) :
    hd_W Ls xs d jm_M176 Q (4, sy_dL F [some (.inl (.ref 1000)), some (.inr (.inl 69)), some (.inr (.inl 70)), some (.inr (.inl 71))], sy_dS F [], sy_dh F X1 X2 (iv_H 4), 0, 0) := by
  refine hd_ret (s := 4) (nv := 72) (v := some (.inr (.inl 70))) (uh := hd_ov (iv_id 0 iv_B4) []) (f := true) (sp := [4]) (d0 := 0) (O := [true]) (T := [(30, [.inr (.inl 11)], [.inr (.inl 31)])]) (P := [(6, .inr (.inl 11), .inl (.ref 2)), (4, .inr (.inl 72), .inr (.inl 71))]) jm_ok176 (by decide +kernel) (by decide +kernel) hd F X1 X2 (fun F' hF hs => ?_)
  have b11 := hd_b (F := F) (F' := F') (k := 11) (hF 11 (by decide))
  have a31 := hd_ba (F := F) (F' := F') (k := 31) (hF 31 (by decide))
  have t72 : sy_dv F' (.inr (.inl 72)) = .int ((sy_ai F 31).getD (sy_i F 11).toNatClampNeg 0) := hd_rd (hs 0 _ rfl) b11 a31
  have b71 := hd_b (F := F) (F' := F') (k := 71) (hF 71 (by decide))
  have b70 := hd_b (F := F) (F' := F') (k := 70) (hF 70 (by decide))
  have hB' : iv_in F' iv_B4 := iv_in_eq hB (fun j hj => hF j (Nat.lt_of_lt_of_le hj (by decide +kernel)))
  have hk := k (sy_cm F' (hd_ov (iv_id 0 iv_B4) [] ++ [])) (fun j hj _ => (hd_keep hB' (Nat.lt_of_lt_of_le hj (by decide +kernel)) (by simp)).trans (hF j (Nat.lt_of_lt_of_le hj (by decide))))
  refine ⟨List.forall_mem_cons.mpr ⟨hd_pb b11 (by first | exact h0 | exact h0), List.forall_mem_cons.mpr ⟨hd_p4 t72 b71 h1, fun _ h => absurd h List.not_mem_nil⟩⟩, ?_⟩
  show Q (some (sy_dv F' (.inr (.inl 70)))) _
  rw [b70]
  exact hk
theorem ybi_4_p1 {Ls : Nat} {xs : Nat → Int32} {d : Nat} {Q : Option Value → jm_h → Prop} (hd : 1 ≤ d) (F : Nat → sy_d) (X1 X2 : List jm_c) (hB : iv_in F iv_B4)
    (h0 : 0 ≤ (sy_i F 11).toInt ∧ (sy_i F 11).toInt < 2)
    (h1 : (sy_i F 71).toInt < ((sy_ai F 31).getD (sy_i F 11).toNatClampNeg 0).toInt)
    (h2 : 0 ≤ (((14 : Int32)) + (sy_i F 71)).toInt ∧ (((14 : Int32)) + (sy_i F 71)).toInt < 61)
    (h3 : ((sy_ai F 55).getD (((14 : Int32)) + (sy_i F 71)).toNatClampNeg 0).toInt ≠ (sy_i F 69).toInt)
    (k : ∀ F1 : Nat → sy_d, (∀ j, j < 69 → True → F1 j = F j) → F1 69 = .inl (.int (sy_i F 69)) → F1 70 = .inl (.int (sy_i F 70)) → F1 71 = .inl (.int ((sy_i F 71) + ((1 : Int32)))) → hd_W Ls xs d jm_M176 Q (4, sy_dL F1 [some (.inl (.ref 1000)), some (.inr (.inl 69)), some (.inr (.inl 70)), some (.inr (.inl 71))], sy_dS F1 [], sy_dh F1 X1 X2 (iv_H 4), 0, 0)) :
    hd_W Ls xs d jm_M176 Q (4, sy_dL F [some (.inl (.ref 1000)), some (.inr (.inl 69)), some (.inr (.inl 70)), some (.inr (.inl 71))], sy_dS F [], sy_dh F X1 X2 (iv_H 4), 0, 0) := by
  refine hd_run (s := 4) (nv := 72) (pc := 4) (L := [some (.inl (.ref 1000)), some (.inr (.inl 69)), some (.inr (.inl 70)), some (.inr (.inl 71))]) (S := []) (uh := hd_ov (iv_id 0 iv_B4) []) (ul := [.inl (.inr (.inl 69)), .inl (.inr (.inl 70)), .inl (.inr (.inl 75))]) (f := true) (sp := [4]) (d0 := 0) (O := [false, true]) (T := [(30, [.inr (.inl 11)], [.inr (.inl 31)]), (0, [.inl (.int 14), .inr (.inl 71)], []), (30, [.inr (.inl 73)], [.inr (.inl 55)]), (0, [.inr (.inl 71), .inl (.int 1)], [])]) (P := [(6, .inr (.inl 11), .inl (.ref 2)), (5, .inr (.inl 72), .inr (.inl 71)), (6, .inr (.inl 73), .inl (.ref 61)), (1, .inr (.inl 74), .inr (.inl 69))]) jm_ok176 (by decide +kernel) (by decide +kernel) hd F X1 X2 (fun F' hF hs => ?_)
  have b11 := hd_b (F := F) (F' := F') (k := 11) (hF 11 (by decide))
  have a31 := hd_ba (F := F) (F' := F') (k := 31) (hF 31 (by decide))
  have t72 : sy_dv F' (.inr (.inl 72)) = .int ((sy_ai F 31).getD (sy_i F 11).toNatClampNeg 0) := hd_rd (hs 0 _ rfl) b11 a31
  have b71 := hd_b (F := F) (F' := F') (k := 71) (hF 71 (by decide))
  have t73 : sy_dv F' (.inr (.inl 73)) = .int (((14 : Int32)) + (sy_i F 71)) := hd_o (hs 1 _ rfl) rfl b71 rfl
  have a55 := hd_ba (F := F) (F' := F') (k := 55) (hF 55 (by decide))
  have t74 : sy_dv F' (.inr (.inl 74)) = .int ((sy_ai F 55).getD (((14 : Int32)) + (sy_i F 71)).toNatClampNeg 0) := hd_rd (hs 2 _ rfl) t73 a55
  have b69 := hd_b (F := F) (F' := F') (k := 69) (hF 69 (by decide))
  have b70 := hd_b (F := F) (F' := F') (k := 70) (hF 70 (by decide))
  have t75 : sy_dv F' (.inr (.inl 75)) = .int ((sy_i F 71) + ((1 : Int32))) := hd_o (hs 3 _ rfl) b71 rfl rfl
  have hB' : iv_in F' iv_B4 := iv_in_eq hB (fun j hj => hF j (Nat.lt_of_lt_of_le hj (by decide +kernel)))
  refine ⟨List.forall_mem_cons.mpr ⟨hd_pb b11 (by first | exact h0 | exact h0), List.forall_mem_cons.mpr ⟨hd_p5 t72 b71 h1, List.forall_mem_cons.mpr ⟨hd_pb t73 (by first | exact h2 | exact h2), List.forall_mem_cons.mpr ⟨hd_p1 t74 b69 h3, fun _ h => absurd h List.not_mem_nil⟩⟩⟩⟩, ?_⟩
  refine k _ ?_ ?_ ?_ ?_
  · exact fun j hj _ => (hd_keep hB' (Nat.lt_of_lt_of_le hj (by decide +kernel)) (by simp)).trans (hF j (Nat.lt_of_lt_of_le hj (by decide)))
  · exact hd_gi (x := .inr (.inl 69)) (by decide +kernel) b69
  · exact hd_gi (x := .inr (.inl 70)) (by decide +kernel) b70
  · exact hd_gi (x := .inr (.inl 75)) (by decide +kernel) t75
theorem ybi_4_p2 {Ls : Nat} {xs : Nat → Int32} {d : Nat} {Q : Option Value → jm_h → Prop} (hd : 1 ≤ d) (F : Nat → sy_d) (X1 X2 : List jm_c) (hB : iv_in F iv_B4)
    (h0 : 0 ≤ (sy_i F 11).toInt ∧ (sy_i F 11).toInt < 2)
    (h1 : (sy_i F 71).toInt < ((sy_ai F 31).getD (sy_i F 11).toNatClampNeg 0).toInt)
    (h2 : 0 ≤ (((14 : Int32)) + (sy_i F 71)).toInt ∧ (((14 : Int32)) + (sy_i F 71)).toInt < 61)
    (h3 : ((sy_ai F 55).getD (((14 : Int32)) + (sy_i F 71)).toNatClampNeg 0).toInt = (sy_i F 69).toInt)
    (k : ∀ F1 : Nat → sy_d, (∀ j, j < 69 → True → F1 j = F j) → F1 69 = .inl (.int (sy_i F 69)) → F1 70 = .inl (.int ((sy_i F 70) ||| (((1 : Int32)) <<< ((sy_i F 71) &&& 31)))) → F1 71 = .inl (.int ((sy_i F 71) + ((1 : Int32)))) → hd_W Ls xs d jm_M176 Q (4, sy_dL F1 [some (.inl (.ref 1000)), some (.inr (.inl 69)), some (.inr (.inl 70)), some (.inr (.inl 71))], sy_dS F1 [], sy_dh F1 X1 X2 (iv_H 4), 0, 0)) :
    hd_W Ls xs d jm_M176 Q (4, sy_dL F [some (.inl (.ref 1000)), some (.inr (.inl 69)), some (.inr (.inl 70)), some (.inr (.inl 71))], sy_dS F [], sy_dh F X1 X2 (iv_H 4), 0, 0) := by
  refine hd_run (s := 4) (nv := 72) (pc := 4) (L := [some (.inl (.ref 1000)), some (.inr (.inl 69)), some (.inr (.inl 70)), some (.inr (.inl 71))]) (S := []) (uh := hd_ov (iv_id 0 iv_B4) []) (ul := [.inl (.inr (.inl 69)), .inl (.inr (.inl 76)), .inl (.inr (.inl 77))]) (f := true) (sp := [4]) (d0 := 0) (O := [false, false]) (T := [(30, [.inr (.inl 11)], [.inr (.inl 31)]), (0, [.inl (.int 14), .inr (.inl 71)], []), (30, [.inr (.inl 73)], [.inr (.inl 55)]), (6, [.inl (.int 1), .inr (.inl 71)], []), (4, [.inr (.inl 70), .inr (.inl 75)], []), (0, [.inr (.inl 71), .inl (.int 1)], [])]) (P := [(6, .inr (.inl 11), .inl (.ref 2)), (5, .inr (.inl 72), .inr (.inl 71)), (6, .inr (.inl 73), .inl (.ref 61)), (0, .inr (.inl 74), .inr (.inl 69))]) jm_ok176 (by decide +kernel) (by decide +kernel) hd F X1 X2 (fun F' hF hs => ?_)
  have b11 := hd_b (F := F) (F' := F') (k := 11) (hF 11 (by decide))
  have a31 := hd_ba (F := F) (F' := F') (k := 31) (hF 31 (by decide))
  have t72 : sy_dv F' (.inr (.inl 72)) = .int ((sy_ai F 31).getD (sy_i F 11).toNatClampNeg 0) := hd_rd (hs 0 _ rfl) b11 a31
  have b71 := hd_b (F := F) (F' := F') (k := 71) (hF 71 (by decide))
  have t73 : sy_dv F' (.inr (.inl 73)) = .int (((14 : Int32)) + (sy_i F 71)) := hd_o (hs 1 _ rfl) rfl b71 rfl
  have a55 := hd_ba (F := F) (F' := F') (k := 55) (hF 55 (by decide))
  have t74 : sy_dv F' (.inr (.inl 74)) = .int ((sy_ai F 55).getD (((14 : Int32)) + (sy_i F 71)).toNatClampNeg 0) := hd_rd (hs 2 _ rfl) t73 a55
  have b69 := hd_b (F := F) (F' := F') (k := 69) (hF 69 (by decide))
  have b70 := hd_b (F := F) (F' := F') (k := 70) (hF 70 (by decide))
  have t75 : sy_dv F' (.inr (.inl 75)) = .int (((1 : Int32)) <<< ((sy_i F 71) &&& 31)) := hd_o (hs 3 _ rfl) rfl b71 rfl
  have t76 : sy_dv F' (.inr (.inl 76)) = .int ((sy_i F 70) ||| (((1 : Int32)) <<< ((sy_i F 71) &&& 31))) := hd_o (hs 4 _ rfl) b70 t75 rfl
  have t77 : sy_dv F' (.inr (.inl 77)) = .int ((sy_i F 71) + ((1 : Int32))) := hd_o (hs 5 _ rfl) b71 rfl rfl
  have hB' : iv_in F' iv_B4 := iv_in_eq hB (fun j hj => hF j (Nat.lt_of_lt_of_le hj (by decide +kernel)))
  refine ⟨List.forall_mem_cons.mpr ⟨hd_pb b11 (by first | exact h0 | exact h0), List.forall_mem_cons.mpr ⟨hd_p5 t72 b71 h1, List.forall_mem_cons.mpr ⟨hd_pb t73 (by first | exact h2 | exact h2), List.forall_mem_cons.mpr ⟨hd_p0 t74 b69 h3, fun _ h => absurd h List.not_mem_nil⟩⟩⟩⟩, ?_⟩
  refine k _ ?_ ?_ ?_ ?_
  · exact fun j hj _ => (hd_keep hB' (Nat.lt_of_lt_of_le hj (by decide +kernel)) (by simp)).trans (hF j (Nat.lt_of_lt_of_le hj (by decide)))
  · exact hd_gi (x := .inr (.inl 69)) (by decide +kernel) b69
  · exact hd_gi (x := .inr (.inl 76)) (by decide +kernel) t76
  · exact hd_gi (x := .inr (.inl 77)) (by decide +kernel) t77
theorem ybi_4 {Ls : Nat} {xs : Nat → Int32} {d : Nat} {Q : Option Value → jm_h → Prop} (hd : 1 ≤ d) (F : Nat → sy_d) (X1 X2 : List jm_c) (hB : iv_in F iv_B4)
    (a71 : 0 ≤ (sy_i F 71).toInt ∧ (sy_i F 71).toInt ≤ 7)
    (k0 : ((sy_ai F 31).getD ((sy_i F 11).toInt).toNat 0).toInt ≤ (sy_i F 71).toInt → ∀ F1 : Nat → sy_d, iv_in F1 iv_B4 → (∀ j, j < 69 → j ∉ ([] : List Nat) → F1 j = F j) → Q (some (.int (sy_i F 70))) (sy_dh F1 X1 X2 (iv_H 4)))
    (k1 : (sy_i F 71).toInt < ((sy_ai F 31).getD ((sy_i F 11).toInt).toNat 0).toInt → ((sy_ai F 55).getD ((14 + (sy_i F 71).toInt)).toNat 0).toInt ≠ (sy_i F 69).toInt → ∀ F1 : Nat → sy_d, iv_in F1 iv_B4 → (∀ j, j < 69 → j ∉ ([] : List Nat) → F1 j = F j) → (sy_i F1 69).toInt = (sy_i F 69).toInt → sy_i F1 69 = sy_i F 69 → (sy_i F1 70).toInt = (sy_i F 70).toInt → sy_i F1 70 = sy_i F 70 → (sy_i F1 71).toInt = ((sy_i F 71).toInt + 1) → sy_i F1 71 = (sy_i F 71) + ((1 : Int32)) → hd_W Ls xs d jm_M176 Q (4, sy_dL F1 [some (.inl (.ref 1000)), some (.inr (.inl 69)), some (.inr (.inl 70)), some (.inr (.inl 71))], sy_dS F1 [], sy_dh F1 X1 X2 (iv_H 4), 0, 0))
    (k2 : (sy_i F 71).toInt < ((sy_ai F 31).getD ((sy_i F 11).toInt).toNat 0).toInt → ((sy_ai F 55).getD ((14 + (sy_i F 71).toInt)).toNat 0).toInt = (sy_i F 69).toInt → ∀ F1 : Nat → sy_d, iv_in F1 iv_B4 → (∀ j, j < 69 → j ∉ ([] : List Nat) → F1 j = F j) → (sy_i F1 69).toInt = (sy_i F 69).toInt → sy_i F1 69 = sy_i F 69 → (sy_i F1 70).toInt = ((sy_i F 70) ||| (((1 : Int32)) <<< ((sy_i F 71) &&& 31))).toInt → sy_i F1 70 = (sy_i F 70) ||| (((1 : Int32)) <<< ((sy_i F 71) &&& 31)) → (sy_i F1 71).toInt = ((sy_i F 71).toInt + 1) → sy_i F1 71 = (sy_i F 71) + ((1 : Int32)) → hd_W Ls xs d jm_M176 Q (4, sy_dL F1 [some (.inl (.ref 1000)), some (.inr (.inl 69)), some (.inr (.inl 70)), some (.inr (.inl 71))], sy_dS F1 [], sy_dh F1 X1 X2 (iv_H 4), 0, 0)) :
    hd_W Ls xs d jm_M176 Q (4, sy_dL F [some (.inl (.ref 1000)), some (.inr (.inl 69)), some (.inr (.inl 70)), some (.inr (.inl 71))], sy_dS F [], sy_dh F X1 X2 (iv_H 4), 0, 0) := by
  by_cases g0 : ((sy_ai F 31).getD ((sy_i F 11).toInt).toNat 0).toInt ≤ (sy_i F 71).toInt
  · have c11 := nz_bx hB (k := 11) (lo := 0) (hi := 1) rfl
    have q72 : (sy_ai F 31).getD (sy_i F 11).toNatClampNeg 0 = (sy_ai F 31).getD ((sy_i F 11).toInt).toNat 0 := by simp only [nz_c]
    have n72 : nzI ((sy_ai F 31).getD (sy_i F 11).toNatClampNeg 0) (((sy_ai F 31).getD ((sy_i F 11).toInt).toNat 0).toInt) := congrArg Int32.toInt q72
    have r72 := nz_ba hB (k := 31) (lo := 0) (hi := 7) rfl ((sy_i F 11).toInt).toNat
    exact ybi_4_p0 hd F X1 X2 hB (by first | exact ⟨by omega, by omega⟩ | (simp only [nz_c]; exact ⟨by omega, by omega⟩)) (by first | exact g0 | (simp only [nz_c]; exact g0) | (rw [(nzE n72)]; exact g0)) (fun F1 g  => by rw [(rfl : sy_i F 70 = sy_i F 70)]; exact k0 g0 F1 (nz_in hB [] (fun j hj hn => g j hj (by simp only [List.mem_cons, List.not_mem_nil, or_false, not_or] at hn; exact trivial)) (List.forall_mem_nil _)) (fun j hj hn => g j hj (by simp only [List.mem_cons, List.not_mem_nil, or_false, not_or] at hn; exact trivial)) )
  replace g0 : (sy_i F 71).toInt < ((sy_ai F 31).getD ((sy_i F 11).toInt).toNat 0).toInt := by omega
  by_cases g1 : ((sy_ai F 55).getD ((14 + (sy_i F 71).toInt)).toNat 0).toInt ≠ (sy_i F 69).toInt
  · have c11 := nz_bx hB (k := 11) (lo := 0) (hi := 1) rfl
    have q72 : (sy_ai F 31).getD (sy_i F 11).toNatClampNeg 0 = (sy_ai F 31).getD ((sy_i F 11).toInt).toNat 0 := by simp only [nz_c]
    have n72 : nzI ((sy_ai F 31).getD (sy_i F 11).toNatClampNeg 0) (((sy_ai F 31).getD ((sy_i F 11).toInt).toNat 0).toInt) := congrArg Int32.toInt q72
    have r72 := nz_ba hB (k := 31) (lo := 0) (hi := 7) rfl ((sy_i F 11).toInt).toNat
    have n73 : nzI (((14 : Int32)) + (sy_i F 71)) ((14 + (sy_i F 71).toInt)) := nz_add (by decide : ((14 : Int32)).toInt = 14) (rfl : (sy_i F 71).toInt = (sy_i F 71).toInt) (by omega) (by omega)
    have q74 : (sy_ai F 55).getD (((14 : Int32)) + (sy_i F 71)).toNatClampNeg 0 = (sy_ai F 55).getD ((14 + (sy_i F 71).toInt)).toNat 0 := by simp only [nz_c, (nzE n73), (by decide : ((14 : Int32)).toInt = 14)]
    have n74 : nzI ((sy_ai F 55).getD (((14 : Int32)) + (sy_i F 71)).toNatClampNeg 0) (((sy_ai F 55).getD ((14 + (sy_i F 71).toInt)).toNat 0).toInt) := congrArg Int32.toInt q74
    have n75 : nzI ((sy_i F 71) + ((1 : Int32))) (((sy_i F 71).toInt + 1)) := nz_add (rfl : (sy_i F 71).toInt = (sy_i F 71).toInt) (by decide : ((1 : Int32)).toInt = 1) (by omega) (by omega)
    exact ybi_4_p1 hd F X1 X2 hB (by first | exact ⟨by omega, by omega⟩ | (simp only [nz_c]; exact ⟨by omega, by omega⟩)) (by first | exact g0 | (simp only [nz_c]; exact g0) | (rw [(nzE n72)]; exact g0)) (by first | (simp only [nz_c, (nzE n73)]; exact ⟨by omega, by omega⟩) | exact ⟨by omega, by omega⟩ | (rw [(nzE n73)]; exact ⟨by omega, by omega⟩)) (by first | (simp only [nz_c, (nzE n73)]; exact g1) | exact g1 | (rw [(nzE n74)]; exact g1)) (fun F1 g e69 e70 e71 => k1 g0 g1 F1 (nz_in hB [] (fun j hj hn => g j hj (by simp only [List.mem_cons, List.not_mem_nil, or_false, not_or] at hn; exact trivial)) (List.forall_mem_nil _)) (fun j hj hn => g j hj (by simp only [List.mem_cons, List.not_mem_nil, or_false, not_or] at hn; exact trivial)) ((congrArg Int32.toInt (zz_i e69)).trans (rfl : (sy_i F 69).toInt = (sy_i F 69).toInt)) ((zz_i e69).trans (rfl : sy_i F 69 = sy_i F 69)) ((congrArg Int32.toInt (zz_i e70)).trans (rfl : (sy_i F 70).toInt = (sy_i F 70).toInt)) ((zz_i e70).trans (rfl : sy_i F 70 = sy_i F 70)) ((congrArg Int32.toInt (zz_i e71)).trans (nzE n75)) ((zz_i e71).trans (rfl : (sy_i F 71) + ((1 : Int32)) = (sy_i F 71) + ((1 : Int32)))))
  replace g1 : ((sy_ai F 55).getD ((14 + (sy_i F 71).toInt)).toNat 0).toInt = (sy_i F 69).toInt := by omega
  have c11 := nz_bx hB (k := 11) (lo := 0) (hi := 1) rfl
  have q72 : (sy_ai F 31).getD (sy_i F 11).toNatClampNeg 0 = (sy_ai F 31).getD ((sy_i F 11).toInt).toNat 0 := by simp only [nz_c]
  have n72 : nzI ((sy_ai F 31).getD (sy_i F 11).toNatClampNeg 0) (((sy_ai F 31).getD ((sy_i F 11).toInt).toNat 0).toInt) := congrArg Int32.toInt q72
  have r72 := nz_ba hB (k := 31) (lo := 0) (hi := 7) rfl ((sy_i F 11).toInt).toNat
  have n73 : nzI (((14 : Int32)) + (sy_i F 71)) ((14 + (sy_i F 71).toInt)) := nz_add (by decide : ((14 : Int32)).toInt = 14) (rfl : (sy_i F 71).toInt = (sy_i F 71).toInt) (by omega) (by omega)
  have q74 : (sy_ai F 55).getD (((14 : Int32)) + (sy_i F 71)).toNatClampNeg 0 = (sy_ai F 55).getD ((14 + (sy_i F 71).toInt)).toNat 0 := by simp only [nz_c, (nzE n73), (by decide : ((14 : Int32)).toInt = 14)]
  have n74 : nzI ((sy_ai F 55).getD (((14 : Int32)) + (sy_i F 71)).toNatClampNeg 0) (((sy_ai F 55).getD ((14 + (sy_i F 71).toInt)).toNat 0).toInt) := congrArg Int32.toInt q74
  have n76 : nzI ((sy_i F 70) ||| (((1 : Int32)) <<< ((sy_i F 71) &&& 31))) (((sy_i F 70) ||| (((1 : Int32)) <<< ((sy_i F 71) &&& 31))).toInt) := congrArg Int32.toInt (rfl : (sy_i F 70) ||| (((1 : Int32)) <<< ((sy_i F 71) &&& 31)) = (sy_i F 70) ||| (((1 : Int32)) <<< ((sy_i F 71) &&& 31)))
  have n77 : nzI ((sy_i F 71) + ((1 : Int32))) (((sy_i F 71).toInt + 1)) := nz_add (rfl : (sy_i F 71).toInt = (sy_i F 71).toInt) (by decide : ((1 : Int32)).toInt = 1) (by omega) (by omega)
  exact ybi_4_p2 hd F X1 X2 hB (by first | exact ⟨by omega, by omega⟩ | (simp only [nz_c]; exact ⟨by omega, by omega⟩)) (by first | exact g0 | (simp only [nz_c]; exact g0) | (rw [(nzE n72)]; exact g0)) (by first | (simp only [nz_c, (nzE n73)]; exact ⟨by omega, by omega⟩) | exact ⟨by omega, by omega⟩ | (rw [(nzE n73)]; exact ⟨by omega, by omega⟩)) (by first | (simp only [nz_c, (nzE n73)]; exact g1) | exact g1 | (rw [(nzE n74)]; exact g1)) (fun F1 g e69 e70 e71 => k2 g0 g1 F1 (nz_in hB [] (fun j hj hn => g j hj (by simp only [List.mem_cons, List.not_mem_nil, or_false, not_or] at hn; exact trivial)) (List.forall_mem_nil _)) (fun j hj hn => g j hj (by simp only [List.mem_cons, List.not_mem_nil, or_false, not_or] at hn; exact trivial)) ((congrArg Int32.toInt (zz_i e69)).trans (rfl : (sy_i F 69).toInt = (sy_i F 69).toInt)) ((zz_i e69).trans (rfl : sy_i F 69 = sy_i F 69)) ((congrArg Int32.toInt (zz_i e70)).trans (nzE n76)) ((zz_i e70).trans (rfl : (sy_i F 70) ||| (((1 : Int32)) <<< ((sy_i F 71) &&& 31)) = (sy_i F 70) ||| (((1 : Int32)) <<< ((sy_i F 71) &&& 31)))) ((congrArg Int32.toInt (zz_i e71)).trans (nzE n77)) ((zz_i e71).trans (rfl : (sy_i F 71) + ((1 : Int32)) = (sy_i F 71) + ((1 : Int32)))))
theorem yln_0_p0 {Ls : Nat} {xs : Nat → Int32} {d : Nat} {Q : Option Value → jm_h → Prop} (hd : 1 ≤ d) (F : Nat → sy_d) (X1 X2 : List jm_c) (hB : iv_in F iv_B4)
    (k : ∀ F1 : Nat → sy_d, (∀ j, j < 69 → True → F1 j = F j) → hd_W Ls xs d jm_M196 Q (2, sy_dL F1 [none], sy_dS F1 [.inl (.int 0), .inl (.ref 1000)], sy_dh F1 X1 X2 (iv_H 4), 0, 0)) :
    hd_W Ls xs d jm_M196 Q (0, sy_dL F [some (.inl (.ref 1000))], sy_dS F [], sy_dh F X1 X2 (iv_H 4), 0, 0) := by
  refine hd_run (s := 4) (nv := 69) (pc := 2) (L := [none]) (S := [.inl (.int 0), .inl (.ref 1000)]) (uh := hd_ov (iv_id 0 iv_B4) []) (ul := []) (f := true) (sp := [2]) (d0 := 0) (O := []) (T := []) (P := []) jm_ok196 (by decide +kernel) (by decide +kernel) hd F X1 X2 (fun F' hF hs => ?_)
  have hB' : iv_in F' iv_B4 := iv_in_eq hB (fun j hj => hF j (Nat.lt_of_lt_of_le hj (by decide +kernel)))
  refine ⟨fun _ h => absurd h List.not_mem_nil, ?_⟩
  refine k _ ?_
  · exact fun j hj _ => (hd_keep hB' (Nat.lt_of_lt_of_le hj (by decide +kernel)) (by simp)).trans (hF j (Nat.lt_of_lt_of_le hj (by decide)))
theorem yln_0 {Ls : Nat} {xs : Nat → Int32} {d : Nat} {Q : Option Value → jm_h → Prop} (hd : 1 ≤ d) (F : Nat → sy_d) (X1 X2 : List jm_c) (hB : iv_in F iv_B4)
    (k0 : ∀ F1 : Nat → sy_d, iv_in F1 iv_B4 → (∀ j, j < 69 → j ∉ ([] : List Nat) → F1 j = F j) → hd_W Ls xs d jm_M196 Q (2, sy_dL F1 [none], sy_dS F1 [.inl (.int 0), .inl (.ref 1000)], sy_dh F1 X1 X2 (iv_H 4), 0, 0)) :
    hd_W Ls xs d jm_M196 Q (0, sy_dL F [some (.inl (.ref 1000))], sy_dS F [], sy_dh F X1 X2 (iv_H 4), 0, 0) := by
  exact yln_0_p0 hd F X1 X2 hB  (fun F1 g  => k0 F1 (nz_in hB [] (fun j hj hn => g j hj (by simp only [List.mem_cons, List.not_mem_nil, or_false, not_or] at hn; exact trivial)) (List.forall_mem_nil _)) (fun j hj hn => g j hj (by simp only [List.mem_cons, List.not_mem_nil, or_false, not_or] at hn; exact trivial)) )
theorem yln_5_p0 {Ls : Nat} {xs : Nat → Int32} {d : Nat} {Q : Option Value → jm_h → Prop} (hd : 2 ≤ d) (F : Nat → sy_d) (X1 X2 : List jm_c) (hB : iv_in F iv_B4)
    (k : ∀ F1 : Nat → sy_d, (∀ j, j < 69 → True → F1 j = F j) → Q (some (.int (((((((((0 : Int32)) + (((sy_i F 69) >>> (((0 : Int32)) &&& 31)) &&& ((1 : Int32)))) + (((sy_i F 69) >>> (((1 : Int32)) &&& 31)) &&& ((1 : Int32)))) + (((sy_i F 69) >>> (((2 : Int32)) &&& 31)) &&& ((1 : Int32)))) + (((sy_i F 69) >>> (((3 : Int32)) &&& 31)) &&& ((1 : Int32)))) + (((sy_i F 69) >>> (((4 : Int32)) &&& 31)) &&& ((1 : Int32)))) + (((sy_i F 69) >>> (((5 : Int32)) &&& 31)) &&& ((1 : Int32)))) + (((sy_i F 69) >>> (((6 : Int32)) &&& 31)) &&& ((1 : Int32)))))) (sy_dh F1 X1 X2 (iv_H 4))) :
    hd_W Ls xs d jm_M196 Q (5, sy_dL F [none], sy_dS F [.inr (.inl 69)], sy_dh F X1 X2 (iv_H 4), 0, 0) := by
  refine hd_ret (s := 4) (nv := 70) (v := some (.inr (.inl 90))) (uh := hd_ov (iv_id 0 iv_B4) []) (f := false) (sp := []) (d0 := 1) (O := []) (T := [(7, [.inr (.inl 69), .inl (.int 0)], []), (3, [.inr (.inl 70), .inl (.int 1)], []), (0, [.inl (.int 0), .inr (.inl 71)], []), (7, [.inr (.inl 69), .inl (.int 1)], []), (3, [.inr (.inl 73), .inl (.int 1)], []), (0, [.inr (.inl 72), .inr (.inl 74)], []), (7, [.inr (.inl 69), .inl (.int 2)], []), (3, [.inr (.inl 76), .inl (.int 1)], []), (0, [.inr (.inl 75), .inr (.inl 77)], []), (7, [.inr (.inl 69), .inl (.int 3)], []), (3, [.inr (.inl 79), .inl (.int 1)], []), (0, [.inr (.inl 78), .inr (.inl 80)], []), (7, [.inr (.inl 69), .inl (.int 4)], []), (3, [.inr (.inl 82), .inl (.int 1)], []), (0, [.inr (.inl 81), .inr (.inl 83)], []), (7, [.inr (.inl 69), .inl (.int 5)], []), (3, [.inr (.inl 85), .inl (.int 1)], []), (0, [.inr (.inl 84), .inr (.inl 86)], []), (7, [.inr (.inl 69), .inl (.int 6)], []), (3, [.inr (.inl 88), .inl (.int 1)], []), (0, [.inr (.inl 87), .inr (.inl 89)], [])]) (P := []) jm_ok196 (by decide +kernel) (by decide +kernel) hd F X1 X2 (fun F' hF hs => ?_)
  have b69 := hd_b (F := F) (F' := F') (k := 69) (hF 69 (by decide))
  have t70 : sy_dv F' (.inr (.inl 70)) = .int ((sy_i F 69) >>> (((0 : Int32)) &&& 31)) := hd_o (hs 0 _ rfl) b69 rfl rfl
  have t71 : sy_dv F' (.inr (.inl 71)) = .int (((sy_i F 69) >>> (((0 : Int32)) &&& 31)) &&& ((1 : Int32))) := hd_o (hs 1 _ rfl) t70 rfl rfl
  have t72 : sy_dv F' (.inr (.inl 72)) = .int (((0 : Int32)) + (((sy_i F 69) >>> (((0 : Int32)) &&& 31)) &&& ((1 : Int32)))) := hd_o (hs 2 _ rfl) rfl t71 rfl
  have t73 : sy_dv F' (.inr (.inl 73)) = .int ((sy_i F 69) >>> (((1 : Int32)) &&& 31)) := hd_o (hs 3 _ rfl) b69 rfl rfl
  have t74 : sy_dv F' (.inr (.inl 74)) = .int (((sy_i F 69) >>> (((1 : Int32)) &&& 31)) &&& ((1 : Int32))) := hd_o (hs 4 _ rfl) t73 rfl rfl
  have t75 : sy_dv F' (.inr (.inl 75)) = .int ((((0 : Int32)) + (((sy_i F 69) >>> (((0 : Int32)) &&& 31)) &&& ((1 : Int32)))) + (((sy_i F 69) >>> (((1 : Int32)) &&& 31)) &&& ((1 : Int32)))) := hd_o (hs 5 _ rfl) t72 t74 rfl
  have t76 : sy_dv F' (.inr (.inl 76)) = .int ((sy_i F 69) >>> (((2 : Int32)) &&& 31)) := hd_o (hs 6 _ rfl) b69 rfl rfl
  have t77 : sy_dv F' (.inr (.inl 77)) = .int (((sy_i F 69) >>> (((2 : Int32)) &&& 31)) &&& ((1 : Int32))) := hd_o (hs 7 _ rfl) t76 rfl rfl
  have t78 : sy_dv F' (.inr (.inl 78)) = .int (((((0 : Int32)) + (((sy_i F 69) >>> (((0 : Int32)) &&& 31)) &&& ((1 : Int32)))) + (((sy_i F 69) >>> (((1 : Int32)) &&& 31)) &&& ((1 : Int32)))) + (((sy_i F 69) >>> (((2 : Int32)) &&& 31)) &&& ((1 : Int32)))) := hd_o (hs 8 _ rfl) t75 t77 rfl
  have t79 : sy_dv F' (.inr (.inl 79)) = .int ((sy_i F 69) >>> (((3 : Int32)) &&& 31)) := hd_o (hs 9 _ rfl) b69 rfl rfl
  have t80 : sy_dv F' (.inr (.inl 80)) = .int (((sy_i F 69) >>> (((3 : Int32)) &&& 31)) &&& ((1 : Int32))) := hd_o (hs 10 _ rfl) t79 rfl rfl
  have t81 : sy_dv F' (.inr (.inl 81)) = .int ((((((0 : Int32)) + (((sy_i F 69) >>> (((0 : Int32)) &&& 31)) &&& ((1 : Int32)))) + (((sy_i F 69) >>> (((1 : Int32)) &&& 31)) &&& ((1 : Int32)))) + (((sy_i F 69) >>> (((2 : Int32)) &&& 31)) &&& ((1 : Int32)))) + (((sy_i F 69) >>> (((3 : Int32)) &&& 31)) &&& ((1 : Int32)))) := hd_o (hs 11 _ rfl) t78 t80 rfl
  have t82 : sy_dv F' (.inr (.inl 82)) = .int ((sy_i F 69) >>> (((4 : Int32)) &&& 31)) := hd_o (hs 12 _ rfl) b69 rfl rfl
  have t83 : sy_dv F' (.inr (.inl 83)) = .int (((sy_i F 69) >>> (((4 : Int32)) &&& 31)) &&& ((1 : Int32))) := hd_o (hs 13 _ rfl) t82 rfl rfl
  have t84 : sy_dv F' (.inr (.inl 84)) = .int (((((((0 : Int32)) + (((sy_i F 69) >>> (((0 : Int32)) &&& 31)) &&& ((1 : Int32)))) + (((sy_i F 69) >>> (((1 : Int32)) &&& 31)) &&& ((1 : Int32)))) + (((sy_i F 69) >>> (((2 : Int32)) &&& 31)) &&& ((1 : Int32)))) + (((sy_i F 69) >>> (((3 : Int32)) &&& 31)) &&& ((1 : Int32)))) + (((sy_i F 69) >>> (((4 : Int32)) &&& 31)) &&& ((1 : Int32)))) := hd_o (hs 14 _ rfl) t81 t83 rfl
  have t85 : sy_dv F' (.inr (.inl 85)) = .int ((sy_i F 69) >>> (((5 : Int32)) &&& 31)) := hd_o (hs 15 _ rfl) b69 rfl rfl
  have t86 : sy_dv F' (.inr (.inl 86)) = .int (((sy_i F 69) >>> (((5 : Int32)) &&& 31)) &&& ((1 : Int32))) := hd_o (hs 16 _ rfl) t85 rfl rfl
  have t87 : sy_dv F' (.inr (.inl 87)) = .int ((((((((0 : Int32)) + (((sy_i F 69) >>> (((0 : Int32)) &&& 31)) &&& ((1 : Int32)))) + (((sy_i F 69) >>> (((1 : Int32)) &&& 31)) &&& ((1 : Int32)))) + (((sy_i F 69) >>> (((2 : Int32)) &&& 31)) &&& ((1 : Int32)))) + (((sy_i F 69) >>> (((3 : Int32)) &&& 31)) &&& ((1 : Int32)))) + (((sy_i F 69) >>> (((4 : Int32)) &&& 31)) &&& ((1 : Int32)))) + (((sy_i F 69) >>> (((5 : Int32)) &&& 31)) &&& ((1 : Int32)))) := hd_o (hs 17 _ rfl) t84 t86 rfl
  have t88 : sy_dv F' (.inr (.inl 88)) = .int ((sy_i F 69) >>> (((6 : Int32)) &&& 31)) := hd_o (hs 18 _ rfl) b69 rfl rfl
  have t89 : sy_dv F' (.inr (.inl 89)) = .int (((sy_i F 69) >>> (((6 : Int32)) &&& 31)) &&& ((1 : Int32))) := hd_o (hs 19 _ rfl) t88 rfl rfl
  have t90 : sy_dv F' (.inr (.inl 90)) = .int (((((((((0 : Int32)) + (((sy_i F 69) >>> (((0 : Int32)) &&& 31)) &&& ((1 : Int32)))) + (((sy_i F 69) >>> (((1 : Int32)) &&& 31)) &&& ((1 : Int32)))) + (((sy_i F 69) >>> (((2 : Int32)) &&& 31)) &&& ((1 : Int32)))) + (((sy_i F 69) >>> (((3 : Int32)) &&& 31)) &&& ((1 : Int32)))) + (((sy_i F 69) >>> (((4 : Int32)) &&& 31)) &&& ((1 : Int32)))) + (((sy_i F 69) >>> (((5 : Int32)) &&& 31)) &&& ((1 : Int32)))) + (((sy_i F 69) >>> (((6 : Int32)) &&& 31)) &&& ((1 : Int32)))) := hd_o (hs 20 _ rfl) t87 t89 rfl
  have hB' : iv_in F' iv_B4 := iv_in_eq hB (fun j hj => hF j (Nat.lt_of_lt_of_le hj (by decide +kernel)))
  have hk := k (sy_cm F' (hd_ov (iv_id 0 iv_B4) [] ++ [])) (fun j hj _ => (hd_keep hB' (Nat.lt_of_lt_of_le hj (by decide +kernel)) (by simp)).trans (hF j (Nat.lt_of_lt_of_le hj (by decide))))
  refine ⟨fun _ h => absurd h List.not_mem_nil, ?_⟩
  show Q (some (sy_dv F' (.inr (.inl 90)))) _
  rw [t90]
  exact hk
theorem yln_5 {Ls : Nat} {xs : Nat → Int32} {d : Nat} {Q : Option Value → jm_h → Prop} (hd : 2 ≤ d) (F : Nat → sy_d) (X1 X2 : List jm_c) (hB : iv_in F iv_B4)
    (k0 : ∀ F1 : Nat → sy_d, iv_in F1 iv_B4 → (∀ j, j < 69 → j ∉ ([] : List Nat) → F1 j = F j) → Q (some (.int (((((((((0 : Int32)) + (((sy_i F 69) >>> (((0 : Int32)) &&& 31)) &&& ((1 : Int32)))) + (((sy_i F 69) >>> (((1 : Int32)) &&& 31)) &&& ((1 : Int32)))) + (((sy_i F 69) >>> (((2 : Int32)) &&& 31)) &&& ((1 : Int32)))) + (((sy_i F 69) >>> (((3 : Int32)) &&& 31)) &&& ((1 : Int32)))) + (((sy_i F 69) >>> (((4 : Int32)) &&& 31)) &&& ((1 : Int32)))) + (((sy_i F 69) >>> (((5 : Int32)) &&& 31)) &&& ((1 : Int32)))) + (((sy_i F 69) >>> (((6 : Int32)) &&& 31)) &&& ((1 : Int32)))))) (sy_dh F1 X1 X2 (iv_H 4))) :
    hd_W Ls xs d jm_M196 Q (5, sy_dL F [none], sy_dS F [.inr (.inl 69)], sy_dh F X1 X2 (iv_H 4), 0, 0) := by
  exact yln_5_p0 hd F X1 X2 hB  (fun F1 g  => by rw [(rfl : ((((((((0 : Int32)) + (((sy_i F 69) >>> (((0 : Int32)) &&& 31)) &&& ((1 : Int32)))) + (((sy_i F 69) >>> (((1 : Int32)) &&& 31)) &&& ((1 : Int32)))) + (((sy_i F 69) >>> (((2 : Int32)) &&& 31)) &&& ((1 : Int32)))) + (((sy_i F 69) >>> (((3 : Int32)) &&& 31)) &&& ((1 : Int32)))) + (((sy_i F 69) >>> (((4 : Int32)) &&& 31)) &&& ((1 : Int32)))) + (((sy_i F 69) >>> (((5 : Int32)) &&& 31)) &&& ((1 : Int32)))) + (((sy_i F 69) >>> (((6 : Int32)) &&& 31)) &&& ((1 : Int32))) = ((((((((0 : Int32)) + (((sy_i F 69) >>> (((0 : Int32)) &&& 31)) &&& ((1 : Int32)))) + (((sy_i F 69) >>> (((1 : Int32)) &&& 31)) &&& ((1 : Int32)))) + (((sy_i F 69) >>> (((2 : Int32)) &&& 31)) &&& ((1 : Int32)))) + (((sy_i F 69) >>> (((3 : Int32)) &&& 31)) &&& ((1 : Int32)))) + (((sy_i F 69) >>> (((4 : Int32)) &&& 31)) &&& ((1 : Int32)))) + (((sy_i F 69) >>> (((5 : Int32)) &&& 31)) &&& ((1 : Int32)))) + (((sy_i F 69) >>> (((6 : Int32)) &&& 31)) &&& ((1 : Int32))))]; exact k0 F1 (nz_in hB [] (fun j hj hn => g j hj (by simp only [List.mem_cons, List.not_mem_nil, or_false, not_or] at hn; exact trivial)) (List.forall_mem_nil _)) (fun j hj hn => g j hj (by simp only [List.mem_cons, List.not_mem_nil, or_false, not_or] at hn; exact trivial)) )
theorem ybn_0_p0 {Ls : Nat} {xs : Nat → Int32} {d : Nat} {Q : Option Value → jm_h → Prop} (hd : 1 ≤ d) (F : Nat → sy_d) (X1 X2 : List jm_c) (hB : iv_in F iv_B4)
    (k : ∀ F1 : Nat → sy_d, (∀ j, j < 69 → True → F1 j = F j) → F1 69 = .inl (.int ((sy_ai F 55).getD ((57 : Int32)).toNatClampNeg 0)) → hd_W Ls xs d jm_M198 Q (9, sy_dL F1 [none], sy_dS F1 [.inl (.ref 1000), .inr (.inl 69), .inl (.ref 1000)], sy_dh F1 X1 X2 (iv_H 4), 0, 0)) :
    hd_W Ls xs d jm_M198 Q (0, sy_dL F [some (.inl (.ref 1000))], sy_dS F [], sy_dh F X1 X2 (iv_H 4), 0, 0) := by
  refine hd_run (s := 4) (nv := 69) (pc := 9) (L := [none]) (S := [.inl (.ref 1000), .inr (.inl 69), .inl (.ref 1000)]) (uh := hd_ov (iv_id 0 iv_B4) []) (ul := [.inl (.inr (.inl 69))]) (f := true) (sp := [9]) (d0 := 0) (O := []) (T := [(30, [.inl (.int 57)], [.inr (.inl 55)])]) (P := []) jm_ok198 (by decide +kernel) (by decide +kernel) hd F X1 X2 (fun F' hF hs => ?_)
  have a55 := hd_ba (F := F) (F' := F') (k := 55) (hF 55 (by decide))
  have t69 : sy_dv F' (.inr (.inl 69)) = .int ((sy_ai F 55).getD ((57 : Int32)).toNatClampNeg 0) := hd_rd (hs 0 _ rfl) rfl a55
  have hB' : iv_in F' iv_B4 := iv_in_eq hB (fun j hj => hF j (Nat.lt_of_lt_of_le hj (by decide +kernel)))
  refine ⟨fun _ h => absurd h List.not_mem_nil, ?_⟩
  refine k _ ?_ ?_
  · exact fun j hj _ => (hd_keep hB' (Nat.lt_of_lt_of_le hj (by decide +kernel)) (by simp)).trans (hF j (Nat.lt_of_lt_of_le hj (by decide)))
  · exact hd_gi (x := .inr (.inl 69)) (by decide +kernel) t69
theorem ybn_0 {Ls : Nat} {xs : Nat → Int32} {d : Nat} {Q : Option Value → jm_h → Prop} (hd : 1 ≤ d) (F : Nat → sy_d) (X1 X2 : List jm_c) (hB : iv_in F iv_B4)
    (k0 : ∀ F1 : Nat → sy_d, iv_in F1 iv_B4 → (∀ j, j < 69 → j ∉ ([] : List Nat) → F1 j = F j) → (sy_i F1 69).toInt = ((sy_ai F 55).getD (57 : Int).toNat 0).toInt → sy_i F1 69 = (sy_ai F 55).getD (57 : Int).toNat 0 → hd_W Ls xs d jm_M198 Q (9, sy_dL F1 [none], sy_dS F1 [.inl (.ref 1000), .inr (.inl 69), .inl (.ref 1000)], sy_dh F1 X1 X2 (iv_H 4), 0, 0)) :
    hd_W Ls xs d jm_M198 Q (0, sy_dL F [some (.inl (.ref 1000))], sy_dS F [], sy_dh F X1 X2 (iv_H 4), 0, 0) := by
  have q69 : (sy_ai F 55).getD ((57 : Int32)).toNatClampNeg 0 = (sy_ai F 55).getD (57 : Int).toNat 0 := by simp only [nz_c, (by decide : ((57 : Int32)).toInt = 57)]
  have n69 : nzI ((sy_ai F 55).getD ((57 : Int32)).toNatClampNeg 0) (((sy_ai F 55).getD (57 : Int).toNat 0).toInt) := congrArg Int32.toInt q69
  exact ybn_0_p0 hd F X1 X2 hB  (fun F1 g e69 => k0 F1 (nz_in hB [] (fun j hj hn => g j hj (by simp only [List.mem_cons, List.not_mem_nil, or_false, not_or] at hn; exact trivial)) (List.forall_mem_nil _)) (fun j hj hn => g j hj (by simp only [List.mem_cons, List.not_mem_nil, or_false, not_or] at hn; exact trivial)) ((congrArg Int32.toInt (zz_i e69)).trans (nzE n69)) ((zz_i e69).trans q69))
theorem ybn_15_p0 {Ls : Nat} {xs : Nat → Int32} {d : Nat} {Q : Option Value → jm_h → Prop} (hd : 1 ≤ d) (F : Nat → sy_d) (X1 X2 : List jm_c) (hB : iv_in F iv_B4)
    (k : ∀ F1 : Nat → sy_d, (∀ j, j < 69 → True → F1 j = F j) → Q (some (.int (sy_i F 69))) (sy_dh F1 X1 X2 (iv_H 4))) :
    hd_W Ls xs d jm_M198 Q (15, sy_dL F [none], sy_dS F [.inr (.inl 69)], sy_dh F X1 X2 (iv_H 4), 0, 0) := by
  refine hd_ret (s := 4) (nv := 70) (v := some (.inr (.inl 69))) (uh := hd_ov (iv_id 0 iv_B4) []) (f := false) (sp := []) (d0 := 0) (O := []) (T := []) (P := []) jm_ok198 (by decide +kernel) (by decide +kernel) hd F X1 X2 (fun F' hF hs => ?_)
  have b69 := hd_b (F := F) (F' := F') (k := 69) (hF 69 (by decide))
  have hB' : iv_in F' iv_B4 := iv_in_eq hB (fun j hj => hF j (Nat.lt_of_lt_of_le hj (by decide +kernel)))
  have hk := k (sy_cm F' (hd_ov (iv_id 0 iv_B4) [] ++ [])) (fun j hj _ => (hd_keep hB' (Nat.lt_of_lt_of_le hj (by decide +kernel)) (by simp)).trans (hF j (Nat.lt_of_lt_of_le hj (by decide))))
  refine ⟨fun _ h => absurd h List.not_mem_nil, ?_⟩
  show Q (some (sy_dv F' (.inr (.inl 69)))) _
  rw [b69]
  exact hk
theorem ybn_15 {Ls : Nat} {xs : Nat → Int32} {d : Nat} {Q : Option Value → jm_h → Prop} (hd : 1 ≤ d) (F : Nat → sy_d) (X1 X2 : List jm_c) (hB : iv_in F iv_B4)
    (k0 : ∀ F1 : Nat → sy_d, iv_in F1 iv_B4 → (∀ j, j < 69 → j ∉ ([] : List Nat) → F1 j = F j) → Q (some (.int (sy_i F 69))) (sy_dh F1 X1 X2 (iv_H 4))) :
    hd_W Ls xs d jm_M198 Q (15, sy_dL F [none], sy_dS F [.inr (.inl 69)], sy_dh F X1 X2 (iv_H 4), 0, 0) := by
  exact ybn_15_p0 hd F X1 X2 hB  (fun F1 g  => by rw [(rfl : sy_i F 69 = sy_i F 69)]; exact k0 F1 (nz_in hB [] (fun j hj hn => g j hj (by simp only [List.mem_cons, List.not_mem_nil, or_false, not_or] at hn; exact trivial)) (List.forall_mem_nil _)) (fun j hj hn => g j hj (by simp only [List.mem_cons, List.not_mem_nil, or_false, not_or] at hn; exact trivial)) )
theorem yca_0_p0 {Ls : Nat} {xs : Nat → Int32} {d : Nat} {Q : Option Value → jm_h → Prop} (hd : 1 ≤ d) (F : Nat → sy_d) (X1 X2 : List jm_c) (hB : iv_in F iv_B4)
    (h0 : 0 ≤ ((((7 : Int32)) * (sy_i F 11)) + (sy_i F 69)).toInt ∧ ((((7 : Int32)) * (sy_i F 11)) + (sy_i F 69)).toInt < 14)
    (k : ∀ F1 : Nat → sy_d, (∀ j, j < 69 → True → F1 j = F j) → F1 69 = .inl (.int (sy_i F 70)) → F1 70 = .inl (.int ((sy_ai F 32).getD ((((7 : Int32)) * (sy_i F 11)) + (sy_i F 69)).toNatClampNeg 0)) → F1 71 = .inl (.int (((-2) : Int32))) → F1 72 = .inl (.int ((0 : Int32))) → hd_W Ls xs d jm_M187 Q (22, sy_dL F1 [some (.inl (.ref 1000)), none, some (.inr (.inl 69)), some (.inr (.inl 70)), some (.inr (.inl 71)), some (.inr (.inl 72)), none], sy_dS F1 [], sy_dh F1 X1 X2 (iv_H 4), 0, 0)) :
    hd_W Ls xs d jm_M187 Q (0, sy_dL F [some (.inl (.ref 1000)), some (.inr (.inl 69)), some (.inr (.inl 70)), none, none, none, none], sy_dS F [], sy_dh F X1 X2 (iv_H 4), 0, 0) := by
  refine hd_run (s := 4) (nv := 71) (pc := 22) (L := [some (.inl (.ref 1000)), none, some (.inr (.inl 69)), some (.inr (.inl 70)), some (.inr (.inl 71)), some (.inr (.inl 72)), none]) (S := []) (uh := hd_ov (iv_id 0 iv_B4) []) (ul := [.inl (.inr (.inl 70)), .inl (.inr (.inl 73)), .inl (.inl (.int (-2))), .inl (.inl (.int 0))]) (f := true) (sp := [22]) (d0 := 0) (O := []) (T := [(2, [.inl (.int 7), .inr (.inl 11)], []), (0, [.inr (.inl 71), .inr (.inl 69)], []), (30, [.inr (.inl 72)], [.inr (.inl 32)])]) (P := [(6, .inr (.inl 72), .inl (.ref 14))]) jm_ok187 (by decide +kernel) (by decide +kernel) hd F X1 X2 (fun F' hF hs => ?_)
  have b11 := hd_b (F := F) (F' := F') (k := 11) (hF 11 (by decide))
  have t71 : sy_dv F' (.inr (.inl 71)) = .int (((7 : Int32)) * (sy_i F 11)) := hd_o (hs 0 _ rfl) rfl b11 rfl
  have b69 := hd_b (F := F) (F' := F') (k := 69) (hF 69 (by decide))
  have t72 : sy_dv F' (.inr (.inl 72)) = .int ((((7 : Int32)) * (sy_i F 11)) + (sy_i F 69)) := hd_o (hs 1 _ rfl) t71 b69 rfl
  have b70 := hd_b (F := F) (F' := F') (k := 70) (hF 70 (by decide))
  have a32 := hd_ba (F := F) (F' := F') (k := 32) (hF 32 (by decide))
  have t73 : sy_dv F' (.inr (.inl 73)) = .int ((sy_ai F 32).getD ((((7 : Int32)) * (sy_i F 11)) + (sy_i F 69)).toNatClampNeg 0) := hd_rd (hs 2 _ rfl) t72 a32
  have hB' : iv_in F' iv_B4 := iv_in_eq hB (fun j hj => hF j (Nat.lt_of_lt_of_le hj (by decide +kernel)))
  refine ⟨List.forall_mem_cons.mpr ⟨hd_pb t72 (by first | exact h0 | exact h0), fun _ h => absurd h List.not_mem_nil⟩, ?_⟩
  refine k _ ?_ ?_ ?_ ?_ ?_
  · exact fun j hj _ => (hd_keep hB' (Nat.lt_of_lt_of_le hj (by decide +kernel)) (by simp)).trans (hF j (Nat.lt_of_lt_of_le hj (by decide)))
  · exact hd_gi (x := .inr (.inl 70)) (by decide +kernel) b70
  · exact hd_gi (x := .inr (.inl 73)) (by decide +kernel) t73
  · exact hd_gi (x := .inl (.int (-2))) (by decide +kernel) rfl
  · exact hd_gi (x := .inl (.int 0)) (by decide +kernel) rfl
theorem yca_0 {Ls : Nat} {xs : Nat → Int32} {d : Nat} {Q : Option Value → jm_h → Prop} (hd : 1 ≤ d) (F : Nat → sy_d) (X1 X2 : List jm_c) (hB : iv_in F iv_B4)
    (a69 : 0 ≤ (sy_i F 69).toInt ∧ (sy_i F 69).toInt ≤ 6)
    (k0 : ∀ F1 : Nat → sy_d, iv_in F1 iv_B4 → (∀ j, j < 69 → j ∉ ([] : List Nat) → F1 j = F j) → (sy_i F1 69).toInt = (sy_i F 70).toInt → sy_i F1 69 = sy_i F 70 → (sy_i F1 70).toInt = ((sy_ai F 32).getD (((7 * (sy_i F 11).toInt) + (sy_i F 69).toInt)).toNat 0).toInt → sy_i F1 70 = (sy_ai F 32).getD (((7 * (sy_i F 11).toInt) + (sy_i F 69).toInt)).toNat 0 → (sy_i F1 71).toInt = (-2 : Int) → sy_i F1 71 = ((-2) : Int32) → (sy_i F1 72).toInt = 0 → sy_i F1 72 = (0 : Int32) → hd_W Ls xs d jm_M187 Q (22, sy_dL F1 [some (.inl (.ref 1000)), none, some (.inr (.inl 69)), some (.inr (.inl 70)), some (.inr (.inl 71)), some (.inr (.inl 72)), none], sy_dS F1 [], sy_dh F1 X1 X2 (iv_H 4), 0, 0)) :
    hd_W Ls xs d jm_M187 Q (0, sy_dL F [some (.inl (.ref 1000)), some (.inr (.inl 69)), some (.inr (.inl 70)), none, none, none, none], sy_dS F [], sy_dh F X1 X2 (iv_H 4), 0, 0) := by
  have c11 := nz_bx hB (k := 11) (lo := 0) (hi := 1) rfl
  have n71 : nzI (((7 : Int32)) * (sy_i F 11)) ((7 * (sy_i F 11).toInt)) := nz_mul (by decide : ((7 : Int32)).toInt = 7) (rfl : (sy_i F 11).toInt = (sy_i F 11).toInt) (by omega) (by omega)
  have n72 : nzI ((((7 : Int32)) * (sy_i F 11)) + (sy_i F 69)) (((7 * (sy_i F 11).toInt) + (sy_i F 69).toInt)) := nz_add (nzE n71) (rfl : (sy_i F 69).toInt = (sy_i F 69).toInt) (by omega) (by omega)
  have q73 : (sy_ai F 32).getD ((((7 : Int32)) * (sy_i F 11)) + (sy_i F 69)).toNatClampNeg 0 = (sy_ai F 32).getD (((7 * (sy_i F 11).toInt) + (sy_i F 69).toInt)).toNat 0 := by simp only [nz_c, (nzE n71), (nzE n72), (by decide : ((7 : Int32)).toInt = 7)]
  have n73 : nzI ((sy_ai F 32).getD ((((7 : Int32)) * (sy_i F 11)) + (sy_i F 69)).toNatClampNeg 0) (((sy_ai F 32).getD (((7 * (sy_i F 11).toInt) + (sy_i F 69).toInt)).toNat 0).toInt) := congrArg Int32.toInt q73
  exact yca_0_p0 hd F X1 X2 hB (by first | (simp only [nz_c, (nzE n71), (nzE n72)]; exact ⟨by omega, by omega⟩) | exact ⟨by omega, by omega⟩ | (rw [(nzE n72)]; exact ⟨by omega, by omega⟩)) (fun F1 g e69 e70 e71 e72 => k0 F1 (nz_in hB [] (fun j hj hn => g j hj (by simp only [List.mem_cons, List.not_mem_nil, or_false, not_or] at hn; exact trivial)) (List.forall_mem_nil _)) (fun j hj hn => g j hj (by simp only [List.mem_cons, List.not_mem_nil, or_false, not_or] at hn; exact trivial)) ((congrArg Int32.toInt (zz_i e69)).trans (rfl : (sy_i F 70).toInt = (sy_i F 70).toInt)) ((zz_i e69).trans (rfl : sy_i F 70 = sy_i F 70)) ((congrArg Int32.toInt (zz_i e70)).trans (nzE n73)) ((zz_i e70).trans q73) ((congrArg Int32.toInt (zz_i e71)).trans (by decide : (((-2) : Int32)).toInt = (-2 : Int))) ((zz_i e71).trans (rfl : ((-2) : Int32) = ((-2) : Int32))) ((congrArg Int32.toInt (zz_i e72)).trans (by decide : ((0 : Int32)).toInt = 0)) ((zz_i e72).trans (rfl : (0 : Int32) = (0 : Int32))))
theorem yca_22_p0 {Ls : Nat} {xs : Nat → Int32} {d : Nat} {Q : Option Value → jm_h → Prop} (hd : 2 ≤ d) (F : Nat → sy_d) (X1 X2 : List jm_c) (hB : iv_in F iv_B4)
    (h0 : 0 ≤ (sy_i F 11).toInt ∧ (sy_i F 11).toInt < 2)
    (h1 : ((sy_ai F 35).getD (sy_i F 11).toNatClampNeg 0).toInt ≤ (sy_i F 72).toInt)
    (k : ∀ F1 : Nat → sy_d, (∀ j, j < 69 → True → F1 j = F j) → Q (some (.int (sy_i F 71))) (sy_dh F1 X1 X2 (iv_H 4))) :
    hd_W Ls xs d jm_M187 Q (22, sy_dL F [some (.inl (.ref 1000)), none, some (.inr (.inl 69)), some (.inr (.inl 70)), some (.inr (.inl 71)), some (.inr (.inl 72)), none], sy_dS F [], sy_dh F X1 X2 (iv_H 4), 0, 0) := by
  refine hd_ret (s := 4) (nv := 73) (v := some (.inr (.inl 71))) (uh := hd_ov (iv_id 0 iv_B4) []) (f := true) (sp := [22]) (d0 := 1) (O := [true]) (T := [(30, [.inr (.inl 11)], [.inr (.inl 35)])]) (P := [(6, .inr (.inl 11), .inl (.ref 2)), (4, .inr (.inl 73), .inr (.inl 72))]) jm_ok187 (by decide +kernel) (by decide +kernel) hd F X1 X2 (fun F' hF hs => ?_)
  have b11 := hd_b (F := F) (F' := F') (k := 11) (hF 11 (by decide))
  have a35 := hd_ba (F := F) (F' := F') (k := 35) (hF 35 (by decide))
  have t73 : sy_dv F' (.inr (.inl 73)) = .int ((sy_ai F 35).getD (sy_i F 11).toNatClampNeg 0) := hd_rd (hs 0 _ rfl) b11 a35
  have b72 := hd_b (F := F) (F' := F') (k := 72) (hF 72 (by decide))
  have b71 := hd_b (F := F) (F' := F') (k := 71) (hF 71 (by decide))
  have hB' : iv_in F' iv_B4 := iv_in_eq hB (fun j hj => hF j (Nat.lt_of_lt_of_le hj (by decide +kernel)))
  have hk := k (sy_cm F' (hd_ov (iv_id 0 iv_B4) [] ++ [])) (fun j hj _ => (hd_keep hB' (Nat.lt_of_lt_of_le hj (by decide +kernel)) (by simp)).trans (hF j (Nat.lt_of_lt_of_le hj (by decide))))
  refine ⟨List.forall_mem_cons.mpr ⟨hd_pb b11 (by first | exact h0 | exact h0), List.forall_mem_cons.mpr ⟨hd_p4 t73 b72 h1, fun _ h => absurd h List.not_mem_nil⟩⟩, ?_⟩
  show Q (some (sy_dv F' (.inr (.inl 71)))) _
  rw [b71]
  exact hk
theorem yca_22_p1 {Ls : Nat} {xs : Nat → Int32} {d : Nat} {Q : Option Value → jm_h → Prop} (hd : 2 ≤ d) (F : Nat → sy_d) (X1 X2 : List jm_c) (hB : iv_in F iv_B4)
    (h0 : 0 ≤ (sy_i F 11).toInt ∧ (sy_i F 11).toInt < 2)
    (h1 : (sy_i F 72).toInt < ((sy_ai F 35).getD (sy_i F 11).toNatClampNeg 0).toInt)
    (h2 : 0 ≤ (((49 : Int32)) + (sy_i F 72)).toInt ∧ (((49 : Int32)) + (sy_i F 72)).toInt < 61)
    (h3 : (sy_i F 70).toInt ≤ ((sy_ai F 55).getD (((49 : Int32)) + (sy_i F 72)).toNatClampNeg 0).toInt)
    (h4 : 0 ≤ ((((4 : Int32)) * (sy_i F 11)) + (sy_i F 72)).toInt ∧ ((((4 : Int32)) * (sy_i F 11)) + (sy_i F 72)).toInt < 8)
    (h5 : ((sy_ai F 37).getD ((((4 : Int32)) * (sy_i F 11)) + (sy_i F 72)).toNatClampNeg 0).toInt < (((sy_ai F 55).getD (((49 : Int32)) + (sy_i F 72)).toNatClampNeg 0) - (sy_i F 70)).toInt)
    (k : ∀ F1 : Nat → sy_d, (∀ j, j < 69 → True → F1 j = F j) → F1 69 = .inl (.int (sy_i F 69)) → F1 70 = .inl (.int (sy_i F 70)) → F1 71 = .inl (.int (sy_i F 71)) → F1 72 = .inl (.int ((sy_i F 72) + ((1 : Int32)))) → hd_W Ls xs d jm_M187 Q (22, sy_dL F1 [some (.inl (.ref 1000)), none, some (.inr (.inl 69)), some (.inr (.inl 70)), some (.inr (.inl 71)), some (.inr (.inl 72)), none], sy_dS F1 [], sy_dh F1 X1 X2 (iv_H 4), 0, 0)) :
    hd_W Ls xs d jm_M187 Q (22, sy_dL F [some (.inl (.ref 1000)), none, some (.inr (.inl 69)), some (.inr (.inl 70)), some (.inr (.inl 71)), some (.inr (.inl 72)), none], sy_dS F [], sy_dh F X1 X2 (iv_H 4), 0, 0) := by
  refine hd_run (s := 4) (nv := 73) (pc := 22) (L := [some (.inl (.ref 1000)), none, some (.inr (.inl 69)), some (.inr (.inl 70)), some (.inr (.inl 71)), some (.inr (.inl 72)), none]) (S := []) (uh := hd_ov (iv_id 0 iv_B4) []) (ul := [.inl (.inr (.inl 69)), .inl (.inr (.inl 70)), .inl (.inr (.inl 71)), .inl (.inr (.inl 80))]) (f := true) (sp := [22]) (d0 := 1) (O := [false, true, true]) (T := [(30, [.inr (.inl 11)], [.inr (.inl 35)]), (0, [.inl (.int 49), .inr (.inl 72)], []), (30, [.inr (.inl 74)], [.inr (.inl 55)]), (1, [.inr (.inl 75), .inr (.inl 70)], []), (2, [.inl (.int 4), .inr (.inl 11)], []), (0, [.inr (.inl 77), .inr (.inl 72)], []), (30, [.inr (.inl 78)], [.inr (.inl 37)]), (0, [.inr (.inl 72), .inl (.int 1)], [])]) (P := [(6, .inr (.inl 11), .inl (.ref 2)), (5, .inr (.inl 73), .inr (.inl 72)), (6, .inr (.inl 74), .inl (.ref 61)), (4, .inr (.inl 70), .inr (.inl 75)), (6, .inr (.inl 78), .inl (.ref 8)), (2, .inr (.inl 79), .inr (.inl 76))]) jm_ok187 (by decide +kernel) (by decide +kernel) hd F X1 X2 (fun F' hF hs => ?_)
  have b11 := hd_b (F := F) (F' := F') (k := 11) (hF 11 (by decide))
  have a35 := hd_ba (F := F) (F' := F') (k := 35) (hF 35 (by decide))
  have t73 : sy_dv F' (.inr (.inl 73)) = .int ((sy_ai F 35).getD (sy_i F 11).toNatClampNeg 0) := hd_rd (hs 0 _ rfl) b11 a35
  have b72 := hd_b (F := F) (F' := F') (k := 72) (hF 72 (by decide))
  have t74 : sy_dv F' (.inr (.inl 74)) = .int (((49 : Int32)) + (sy_i F 72)) := hd_o (hs 1 _ rfl) rfl b72 rfl
  have b70 := hd_b (F := F) (F' := F') (k := 70) (hF 70 (by decide))
  have a55 := hd_ba (F := F) (F' := F') (k := 55) (hF 55 (by decide))
  have t75 : sy_dv F' (.inr (.inl 75)) = .int ((sy_ai F 55).getD (((49 : Int32)) + (sy_i F 72)).toNatClampNeg 0) := hd_rd (hs 2 _ rfl) t74 a55
  have t77 : sy_dv F' (.inr (.inl 77)) = .int (((4 : Int32)) * (sy_i F 11)) := hd_o (hs 4 _ rfl) rfl b11 rfl
  have t78 : sy_dv F' (.inr (.inl 78)) = .int ((((4 : Int32)) * (sy_i F 11)) + (sy_i F 72)) := hd_o (hs 5 _ rfl) t77 b72 rfl
  have a37 := hd_ba (F := F) (F' := F') (k := 37) (hF 37 (by decide))
  have t79 : sy_dv F' (.inr (.inl 79)) = .int ((sy_ai F 37).getD ((((4 : Int32)) * (sy_i F 11)) + (sy_i F 72)).toNatClampNeg 0) := hd_rd (hs 6 _ rfl) t78 a37
  have t76 : sy_dv F' (.inr (.inl 76)) = .int (((sy_ai F 55).getD (((49 : Int32)) + (sy_i F 72)).toNatClampNeg 0) - (sy_i F 70)) := hd_o (hs 3 _ rfl) t75 b70 rfl
  have b69 := hd_b (F := F) (F' := F') (k := 69) (hF 69 (by decide))
  have b71 := hd_b (F := F) (F' := F') (k := 71) (hF 71 (by decide))
  have t80 : sy_dv F' (.inr (.inl 80)) = .int ((sy_i F 72) + ((1 : Int32))) := hd_o (hs 7 _ rfl) b72 rfl rfl
  have hB' : iv_in F' iv_B4 := iv_in_eq hB (fun j hj => hF j (Nat.lt_of_lt_of_le hj (by decide +kernel)))
  refine ⟨List.forall_mem_cons.mpr ⟨hd_pb b11 (by first | exact h0 | exact h0), List.forall_mem_cons.mpr ⟨hd_p5 t73 b72 h1, List.forall_mem_cons.mpr ⟨hd_pb t74 (by first | exact h2 | exact h2), List.forall_mem_cons.mpr ⟨hd_p4 b70 t75 h3, List.forall_mem_cons.mpr ⟨hd_pb t78 (by first | exact h4 | exact h4), List.forall_mem_cons.mpr ⟨hd_p2 t79 t76 h5, fun _ h => absurd h List.not_mem_nil⟩⟩⟩⟩⟩⟩, ?_⟩
  refine k _ ?_ ?_ ?_ ?_ ?_
  · exact fun j hj _ => (hd_keep hB' (Nat.lt_of_lt_of_le hj (by decide +kernel)) (by simp)).trans (hF j (Nat.lt_of_lt_of_le hj (by decide)))
  · exact hd_gi (x := .inr (.inl 69)) (by decide +kernel) b69
  · exact hd_gi (x := .inr (.inl 70)) (by decide +kernel) b70
  · exact hd_gi (x := .inr (.inl 71)) (by decide +kernel) b71
  · exact hd_gi (x := .inr (.inl 80)) (by decide +kernel) t80
theorem yca_22_p2 {Ls : Nat} {xs : Nat → Int32} {d : Nat} {Q : Option Value → jm_h → Prop} (hd : 2 ≤ d) (F : Nat → sy_d) (X1 X2 : List jm_c) (hB : iv_in F iv_B4)
    (h0 : 0 ≤ (sy_i F 11).toInt ∧ (sy_i F 11).toInt < 2)
    (h1 : (sy_i F 72).toInt < ((sy_ai F 35).getD (sy_i F 11).toNatClampNeg 0).toInt)
    (h2 : 0 ≤ (((49 : Int32)) + (sy_i F 72)).toInt ∧ (((49 : Int32)) + (sy_i F 72)).toInt < 61)
    (h3 : (sy_i F 70).toInt ≤ ((sy_ai F 55).getD (((49 : Int32)) + (sy_i F 72)).toNatClampNeg 0).toInt)
    (h4 : 0 ≤ ((((4 : Int32)) * (sy_i F 11)) + (sy_i F 72)).toInt ∧ ((((4 : Int32)) * (sy_i F 11)) + (sy_i F 72)).toInt < 8)
    (h5 : (((sy_ai F 55).getD (((49 : Int32)) + (sy_i F 72)).toNatClampNeg 0) - (sy_i F 70)).toInt ≤ ((sy_ai F 37).getD ((((4 : Int32)) * (sy_i F 11)) + (sy_i F 72)).toNatClampNeg 0).toInt)
    (h6 : 0 ≤ (((53 : Int32)) + (sy_i F 72)).toInt ∧ (((53 : Int32)) + (sy_i F 72)).toInt < 61)
    (h7 : (sy_i F 69).toInt ≤ ((sy_ai F 55).getD (((53 : Int32)) + (sy_i F 72)).toNatClampNeg 0).toInt)
    (h8 : (sy_i F 71).toInt < 0)
    (k : ∀ F1 : Nat → sy_d, (∀ j, j < 69 → True → F1 j = F j) → F1 69 = .inl (.int (sy_i F 69)) → F1 70 = .inl (.int (sy_i F 70)) → F1 71 = .inl (.int (sy_i F 72)) → F1 72 = .inl (.int ((sy_i F 72) + ((1 : Int32)))) → hd_W Ls xs d jm_M187 Q (22, sy_dL F1 [some (.inl (.ref 1000)), none, some (.inr (.inl 69)), some (.inr (.inl 70)), some (.inr (.inl 71)), some (.inr (.inl 72)), none], sy_dS F1 [], sy_dh F1 X1 X2 (iv_H 4), 0, 0)) :
    hd_W Ls xs d jm_M187 Q (22, sy_dL F [some (.inl (.ref 1000)), none, some (.inr (.inl 69)), some (.inr (.inl 70)), some (.inr (.inl 71)), some (.inr (.inl 72)), none], sy_dS F [], sy_dh F X1 X2 (iv_H 4), 0, 0) := by
  refine hd_run (s := 4) (nv := 73) (pc := 22) (L := [some (.inl (.ref 1000)), none, some (.inr (.inl 69)), some (.inr (.inl 70)), some (.inr (.inl 71)), some (.inr (.inl 72)), none]) (S := []) (uh := hd_ov (iv_id 0 iv_B4) []) (ul := [.inl (.inr (.inl 69)), .inl (.inr (.inl 70)), .inl (.inr (.inl 72)), .inl (.inr (.inl 82))]) (f := true) (sp := [22]) (d0 := 1) (O := [false, true, false, true, true]) (T := [(30, [.inr (.inl 11)], [.inr (.inl 35)]), (0, [.inl (.int 49), .inr (.inl 72)], []), (30, [.inr (.inl 74)], [.inr (.inl 55)]), (1, [.inr (.inl 75), .inr (.inl 70)], []), (2, [.inl (.int 4), .inr (.inl 11)], []), (0, [.inr (.inl 77), .inr (.inl 72)], []), (30, [.inr (.inl 78)], [.inr (.inl 37)]), (0, [.inl (.int 53), .inr (.inl 72)], []), (30, [.inr (.inl 80)], [.inr (.inl 55)]), (0, [.inr (.inl 72), .inl (.int 1)], [])]) (P := [(6, .inr (.inl 11), .inl (.ref 2)), (5, .inr (.inl 73), .inr (.inl 72)), (6, .inr (.inl 74), .inl (.ref 61)), (4, .inr (.inl 70), .inr (.inl 75)), (6, .inr (.inl 78), .inl (.ref 8)), (3, .inr (.inl 79), .inr (.inl 76)), (6, .inr (.inl 80), .inl (.ref 61)), (4, .inr (.inl 69), .inr (.inl 81)), (2, .inr (.inl 71), .inl (.int 0))]) jm_ok187 (by decide +kernel) (by decide +kernel) hd F X1 X2 (fun F' hF hs => ?_)
  have b11 := hd_b (F := F) (F' := F') (k := 11) (hF 11 (by decide))
  have a35 := hd_ba (F := F) (F' := F') (k := 35) (hF 35 (by decide))
  have t73 : sy_dv F' (.inr (.inl 73)) = .int ((sy_ai F 35).getD (sy_i F 11).toNatClampNeg 0) := hd_rd (hs 0 _ rfl) b11 a35
  have b72 := hd_b (F := F) (F' := F') (k := 72) (hF 72 (by decide))
  have t74 : sy_dv F' (.inr (.inl 74)) = .int (((49 : Int32)) + (sy_i F 72)) := hd_o (hs 1 _ rfl) rfl b72 rfl
  have b70 := hd_b (F := F) (F' := F') (k := 70) (hF 70 (by decide))
  have a55 := hd_ba (F := F) (F' := F') (k := 55) (hF 55 (by decide))
  have t75 : sy_dv F' (.inr (.inl 75)) = .int ((sy_ai F 55).getD (((49 : Int32)) + (sy_i F 72)).toNatClampNeg 0) := hd_rd (hs 2 _ rfl) t74 a55
  have t77 : sy_dv F' (.inr (.inl 77)) = .int (((4 : Int32)) * (sy_i F 11)) := hd_o (hs 4 _ rfl) rfl b11 rfl
  have t78 : sy_dv F' (.inr (.inl 78)) = .int ((((4 : Int32)) * (sy_i F 11)) + (sy_i F 72)) := hd_o (hs 5 _ rfl) t77 b72 rfl
  have a37 := hd_ba (F := F) (F' := F') (k := 37) (hF 37 (by decide))
  have t79 : sy_dv F' (.inr (.inl 79)) = .int ((sy_ai F 37).getD ((((4 : Int32)) * (sy_i F 11)) + (sy_i F 72)).toNatClampNeg 0) := hd_rd (hs 6 _ rfl) t78 a37
  have t76 : sy_dv F' (.inr (.inl 76)) = .int (((sy_ai F 55).getD (((49 : Int32)) + (sy_i F 72)).toNatClampNeg 0) - (sy_i F 70)) := hd_o (hs 3 _ rfl) t75 b70 rfl
  have t80 : sy_dv F' (.inr (.inl 80)) = .int (((53 : Int32)) + (sy_i F 72)) := hd_o (hs 7 _ rfl) rfl b72 rfl
  have b69 := hd_b (F := F) (F' := F') (k := 69) (hF 69 (by decide))
  have t81 : sy_dv F' (.inr (.inl 81)) = .int ((sy_ai F 55).getD (((53 : Int32)) + (sy_i F 72)).toNatClampNeg 0) := hd_rd (hs 8 _ rfl) t80 a55
  have b71 := hd_b (F := F) (F' := F') (k := 71) (hF 71 (by decide))
  have t82 : sy_dv F' (.inr (.inl 82)) = .int ((sy_i F 72) + ((1 : Int32))) := hd_o (hs 9 _ rfl) b72 rfl rfl
  have hB' : iv_in F' iv_B4 := iv_in_eq hB (fun j hj => hF j (Nat.lt_of_lt_of_le hj (by decide +kernel)))
  refine ⟨List.forall_mem_cons.mpr ⟨hd_pb b11 (by first | exact h0 | exact h0), List.forall_mem_cons.mpr ⟨hd_p5 t73 b72 h1, List.forall_mem_cons.mpr ⟨hd_pb t74 (by first | exact h2 | exact h2), List.forall_mem_cons.mpr ⟨hd_p4 b70 t75 h3, List.forall_mem_cons.mpr ⟨hd_pb t78 (by first | exact h4 | exact h4), List.forall_mem_cons.mpr ⟨hd_p3 t79 t76 h5, List.forall_mem_cons.mpr ⟨hd_pb t80 (by first | exact h6 | exact h6), List.forall_mem_cons.mpr ⟨hd_p4 b69 t81 h7, List.forall_mem_cons.mpr ⟨hd_p2 b71 rfl (by have hc : ((0) : Int32).toInt = 0 := (by decide); omega), fun _ h => absurd h List.not_mem_nil⟩⟩⟩⟩⟩⟩⟩⟩⟩, ?_⟩
  refine k _ ?_ ?_ ?_ ?_ ?_
  · exact fun j hj _ => (hd_keep hB' (Nat.lt_of_lt_of_le hj (by decide +kernel)) (by simp)).trans (hF j (Nat.lt_of_lt_of_le hj (by decide)))
  · exact hd_gi (x := .inr (.inl 69)) (by decide +kernel) b69
  · exact hd_gi (x := .inr (.inl 70)) (by decide +kernel) b70
  · exact hd_gi (x := .inr (.inl 72)) (by decide +kernel) b72
  · exact hd_gi (x := .inr (.inl 82)) (by decide +kernel) t82
theorem yca_22_p3 {Ls : Nat} {xs : Nat → Int32} {d : Nat} {Q : Option Value → jm_h → Prop} (hd : 2 ≤ d) (F : Nat → sy_d) (X1 X2 : List jm_c) (hB : iv_in F iv_B4)
    (h0 : 0 ≤ (sy_i F 11).toInt ∧ (sy_i F 11).toInt < 2)
    (h1 : (sy_i F 72).toInt < ((sy_ai F 35).getD (sy_i F 11).toNatClampNeg 0).toInt)
    (h2 : 0 ≤ (((49 : Int32)) + (sy_i F 72)).toInt ∧ (((49 : Int32)) + (sy_i F 72)).toInt < 61)
    (h3 : (sy_i F 70).toInt ≤ ((sy_ai F 55).getD (((49 : Int32)) + (sy_i F 72)).toNatClampNeg 0).toInt)
    (h4 : 0 ≤ ((((4 : Int32)) * (sy_i F 11)) + (sy_i F 72)).toInt ∧ ((((4 : Int32)) * (sy_i F 11)) + (sy_i F 72)).toInt < 8)
    (h5 : (((sy_ai F 55).getD (((49 : Int32)) + (sy_i F 72)).toNatClampNeg 0) - (sy_i F 70)).toInt ≤ ((sy_ai F 37).getD ((((4 : Int32)) * (sy_i F 11)) + (sy_i F 72)).toNatClampNeg 0).toInt)
    (h6 : 0 ≤ (((53 : Int32)) + (sy_i F 72)).toInt ∧ (((53 : Int32)) + (sy_i F 72)).toInt < 61)
    (h7 : (sy_i F 69).toInt ≤ ((sy_ai F 55).getD (((53 : Int32)) + (sy_i F 72)).toNatClampNeg 0).toInt)
    (h8 : 0 ≤ (sy_i F 71).toInt)
    (h9 : 0 ≤ (((49 : Int32)) + (sy_i F 71)).toInt ∧ (((49 : Int32)) + (sy_i F 71)).toInt < 61)
    (h10 : (sy_i F 70).toInt ≤ ((sy_ai F 55).getD (((49 : Int32)) + (sy_i F 71)).toNatClampNeg 0).toInt)
    (h11 : (((sy_ai F 55).getD (((49 : Int32)) + (sy_i F 71)).toNatClampNeg 0) - (sy_i F 70)).toInt ≤ (((sy_ai F 55).getD (((49 : Int32)) + (sy_i F 72)).toNatClampNeg 0) - (sy_i F 70)).toInt)
    (k : ∀ F1 : Nat → sy_d, (∀ j, j < 69 → True → F1 j = F j) → F1 69 = .inl (.int (sy_i F 69)) → F1 70 = .inl (.int (sy_i F 70)) → F1 71 = .inl (.int (sy_i F 71)) → F1 72 = .inl (.int ((sy_i F 72) + ((1 : Int32)))) → hd_W Ls xs d jm_M187 Q (22, sy_dL F1 [some (.inl (.ref 1000)), none, some (.inr (.inl 69)), some (.inr (.inl 70)), some (.inr (.inl 71)), some (.inr (.inl 72)), none], sy_dS F1 [], sy_dh F1 X1 X2 (iv_H 4), 0, 0)) :
    hd_W Ls xs d jm_M187 Q (22, sy_dL F [some (.inl (.ref 1000)), none, some (.inr (.inl 69)), some (.inr (.inl 70)), some (.inr (.inl 71)), some (.inr (.inl 72)), none], sy_dS F [], sy_dh F X1 X2 (iv_H 4), 0, 0) := by
  refine hd_run (s := 4) (nv := 73) (pc := 22) (L := [some (.inl (.ref 1000)), none, some (.inr (.inl 69)), some (.inr (.inl 70)), some (.inr (.inl 71)), some (.inr (.inl 72)), none]) (S := []) (uh := hd_ov (iv_id 0 iv_B4) []) (ul := [.inl (.inr (.inl 69)), .inl (.inr (.inl 70)), .inl (.inr (.inl 71)), .inl (.inr (.inl 85))]) (f := true) (sp := [22]) (d0 := 1) (O := [false, true, false, true, false, true, true]) (T := [(30, [.inr (.inl 11)], [.inr (.inl 35)]), (0, [.inl (.int 49), .inr (.inl 72)], []), (30, [.inr (.inl 74)], [.inr (.inl 55)]), (1, [.inr (.inl 75), .inr (.inl 70)], []), (2, [.inl (.int 4), .inr (.inl 11)], []), (0, [.inr (.inl 77), .inr (.inl 72)], []), (30, [.inr (.inl 78)], [.inr (.inl 37)]), (0, [.inl (.int 53), .inr (.inl 72)], []), (30, [.inr (.inl 80)], [.inr (.inl 55)]), (0, [.inl (.int 49), .inr (.inl 71)], []), (30, [.inr (.inl 82)], [.inr (.inl 55)]), (1, [.inr (.inl 83), .inr (.inl 70)], []), (0, [.inr (.inl 72), .inl (.int 1)], [])]) (P := [(6, .inr (.inl 11), .inl (.ref 2)), (5, .inr (.inl 73), .inr (.inl 72)), (6, .inr (.inl 74), .inl (.ref 61)), (4, .inr (.inl 70), .inr (.inl 75)), (6, .inr (.inl 78), .inl (.ref 8)), (3, .inr (.inl 79), .inr (.inl 76)), (6, .inr (.inl 80), .inl (.ref 61)), (4, .inr (.inl 69), .inr (.inl 81)), (3, .inr (.inl 71), .inl (.int 0)), (6, .inr (.inl 82), .inl (.ref 61)), (4, .inr (.inl 70), .inr (.inl 83)), (4, .inr (.inl 84), .inr (.inl 76))]) jm_ok187 (by decide +kernel) (by decide +kernel) hd F X1 X2 (fun F' hF hs => ?_)
  have b11 := hd_b (F := F) (F' := F') (k := 11) (hF 11 (by decide))
  have a35 := hd_ba (F := F) (F' := F') (k := 35) (hF 35 (by decide))
  have t73 : sy_dv F' (.inr (.inl 73)) = .int ((sy_ai F 35).getD (sy_i F 11).toNatClampNeg 0) := hd_rd (hs 0 _ rfl) b11 a35
  have b72 := hd_b (F := F) (F' := F') (k := 72) (hF 72 (by decide))
  have t74 : sy_dv F' (.inr (.inl 74)) = .int (((49 : Int32)) + (sy_i F 72)) := hd_o (hs 1 _ rfl) rfl b72 rfl
  have b70 := hd_b (F := F) (F' := F') (k := 70) (hF 70 (by decide))
  have a55 := hd_ba (F := F) (F' := F') (k := 55) (hF 55 (by decide))
  have t75 : sy_dv F' (.inr (.inl 75)) = .int ((sy_ai F 55).getD (((49 : Int32)) + (sy_i F 72)).toNatClampNeg 0) := hd_rd (hs 2 _ rfl) t74 a55
  have t77 : sy_dv F' (.inr (.inl 77)) = .int (((4 : Int32)) * (sy_i F 11)) := hd_o (hs 4 _ rfl) rfl b11 rfl
  have t78 : sy_dv F' (.inr (.inl 78)) = .int ((((4 : Int32)) * (sy_i F 11)) + (sy_i F 72)) := hd_o (hs 5 _ rfl) t77 b72 rfl
  have a37 := hd_ba (F := F) (F' := F') (k := 37) (hF 37 (by decide))
  have t79 : sy_dv F' (.inr (.inl 79)) = .int ((sy_ai F 37).getD ((((4 : Int32)) * (sy_i F 11)) + (sy_i F 72)).toNatClampNeg 0) := hd_rd (hs 6 _ rfl) t78 a37
  have t76 : sy_dv F' (.inr (.inl 76)) = .int (((sy_ai F 55).getD (((49 : Int32)) + (sy_i F 72)).toNatClampNeg 0) - (sy_i F 70)) := hd_o (hs 3 _ rfl) t75 b70 rfl
  have t80 : sy_dv F' (.inr (.inl 80)) = .int (((53 : Int32)) + (sy_i F 72)) := hd_o (hs 7 _ rfl) rfl b72 rfl
  have b69 := hd_b (F := F) (F' := F') (k := 69) (hF 69 (by decide))
  have t81 : sy_dv F' (.inr (.inl 81)) = .int ((sy_ai F 55).getD (((53 : Int32)) + (sy_i F 72)).toNatClampNeg 0) := hd_rd (hs 8 _ rfl) t80 a55
  have b71 := hd_b (F := F) (F' := F') (k := 71) (hF 71 (by decide))
  have t82 : sy_dv F' (.inr (.inl 82)) = .int (((49 : Int32)) + (sy_i F 71)) := hd_o (hs 9 _ rfl) rfl b71 rfl
  have t83 : sy_dv F' (.inr (.inl 83)) = .int ((sy_ai F 55).getD (((49 : Int32)) + (sy_i F 71)).toNatClampNeg 0) := hd_rd (hs 10 _ rfl) t82 a55
  have t84 : sy_dv F' (.inr (.inl 84)) = .int (((sy_ai F 55).getD (((49 : Int32)) + (sy_i F 71)).toNatClampNeg 0) - (sy_i F 70)) := hd_o (hs 11 _ rfl) t83 b70 rfl
  have t85 : sy_dv F' (.inr (.inl 85)) = .int ((sy_i F 72) + ((1 : Int32))) := hd_o (hs 12 _ rfl) b72 rfl rfl
  have hB' : iv_in F' iv_B4 := iv_in_eq hB (fun j hj => hF j (Nat.lt_of_lt_of_le hj (by decide +kernel)))
  refine ⟨List.forall_mem_cons.mpr ⟨hd_pb b11 (by first | exact h0 | exact h0), List.forall_mem_cons.mpr ⟨hd_p5 t73 b72 h1, List.forall_mem_cons.mpr ⟨hd_pb t74 (by first | exact h2 | exact h2), List.forall_mem_cons.mpr ⟨hd_p4 b70 t75 h3, List.forall_mem_cons.mpr ⟨hd_pb t78 (by first | exact h4 | exact h4), List.forall_mem_cons.mpr ⟨hd_p3 t79 t76 h5, List.forall_mem_cons.mpr ⟨hd_pb t80 (by first | exact h6 | exact h6), List.forall_mem_cons.mpr ⟨hd_p4 b69 t81 h7, List.forall_mem_cons.mpr ⟨hd_p3 b71 rfl (by have hc : ((0) : Int32).toInt = 0 := (by decide); omega), List.forall_mem_cons.mpr ⟨hd_pb t82 (by first | exact h9 | exact h9), List.forall_mem_cons.mpr ⟨hd_p4 b70 t83 h10, List.forall_mem_cons.mpr ⟨hd_p4 t84 t76 h11, fun _ h => absurd h List.not_mem_nil⟩⟩⟩⟩⟩⟩⟩⟩⟩⟩⟩⟩, ?_⟩
  refine k _ ?_ ?_ ?_ ?_ ?_
  · exact fun j hj _ => (hd_keep hB' (Nat.lt_of_lt_of_le hj (by decide +kernel)) (by simp)).trans (hF j (Nat.lt_of_lt_of_le hj (by decide)))
  · exact hd_gi (x := .inr (.inl 69)) (by decide +kernel) b69
  · exact hd_gi (x := .inr (.inl 70)) (by decide +kernel) b70
  · exact hd_gi (x := .inr (.inl 71)) (by decide +kernel) b71
  · exact hd_gi (x := .inr (.inl 85)) (by decide +kernel) t85
theorem yca_22_p4 {Ls : Nat} {xs : Nat → Int32} {d : Nat} {Q : Option Value → jm_h → Prop} (hd : 2 ≤ d) (F : Nat → sy_d) (X1 X2 : List jm_c) (hB : iv_in F iv_B4)
    (h0 : 0 ≤ (sy_i F 11).toInt ∧ (sy_i F 11).toInt < 2)
    (h1 : (sy_i F 72).toInt < ((sy_ai F 35).getD (sy_i F 11).toNatClampNeg 0).toInt)
    (h2 : 0 ≤ (((49 : Int32)) + (sy_i F 72)).toInt ∧ (((49 : Int32)) + (sy_i F 72)).toInt < 61)
    (h3 : (sy_i F 70).toInt ≤ ((sy_ai F 55).getD (((49 : Int32)) + (sy_i F 72)).toNatClampNeg 0).toInt)
    (h4 : 0 ≤ ((((4 : Int32)) * (sy_i F 11)) + (sy_i F 72)).toInt ∧ ((((4 : Int32)) * (sy_i F 11)) + (sy_i F 72)).toInt < 8)
    (h5 : (((sy_ai F 55).getD (((49 : Int32)) + (sy_i F 72)).toNatClampNeg 0) - (sy_i F 70)).toInt ≤ ((sy_ai F 37).getD ((((4 : Int32)) * (sy_i F 11)) + (sy_i F 72)).toNatClampNeg 0).toInt)
    (h6 : 0 ≤ (((53 : Int32)) + (sy_i F 72)).toInt ∧ (((53 : Int32)) + (sy_i F 72)).toInt < 61)
    (h7 : (sy_i F 69).toInt ≤ ((sy_ai F 55).getD (((53 : Int32)) + (sy_i F 72)).toNatClampNeg 0).toInt)
    (h8 : 0 ≤ (sy_i F 71).toInt)
    (h9 : 0 ≤ (((49 : Int32)) + (sy_i F 71)).toInt ∧ (((49 : Int32)) + (sy_i F 71)).toInt < 61)
    (h10 : (sy_i F 70).toInt ≤ ((sy_ai F 55).getD (((49 : Int32)) + (sy_i F 71)).toNatClampNeg 0).toInt)
    (h11 : (((sy_ai F 55).getD (((49 : Int32)) + (sy_i F 72)).toNatClampNeg 0) - (sy_i F 70)).toInt < (((sy_ai F 55).getD (((49 : Int32)) + (sy_i F 71)).toNatClampNeg 0) - (sy_i F 70)).toInt)
    (k : ∀ F1 : Nat → sy_d, (∀ j, j < 69 → True → F1 j = F j) → F1 69 = .inl (.int (sy_i F 69)) → F1 70 = .inl (.int (sy_i F 70)) → F1 71 = .inl (.int (sy_i F 72)) → F1 72 = .inl (.int ((sy_i F 72) + ((1 : Int32)))) → hd_W Ls xs d jm_M187 Q (22, sy_dL F1 [some (.inl (.ref 1000)), none, some (.inr (.inl 69)), some (.inr (.inl 70)), some (.inr (.inl 71)), some (.inr (.inl 72)), none], sy_dS F1 [], sy_dh F1 X1 X2 (iv_H 4), 0, 0)) :
    hd_W Ls xs d jm_M187 Q (22, sy_dL F [some (.inl (.ref 1000)), none, some (.inr (.inl 69)), some (.inr (.inl 70)), some (.inr (.inl 71)), some (.inr (.inl 72)), none], sy_dS F [], sy_dh F X1 X2 (iv_H 4), 0, 0) := by
  refine hd_run (s := 4) (nv := 73) (pc := 22) (L := [some (.inl (.ref 1000)), none, some (.inr (.inl 69)), some (.inr (.inl 70)), some (.inr (.inl 71)), some (.inr (.inl 72)), none]) (S := []) (uh := hd_ov (iv_id 0 iv_B4) []) (ul := [.inl (.inr (.inl 69)), .inl (.inr (.inl 70)), .inl (.inr (.inl 72)), .inl (.inr (.inl 85))]) (f := true) (sp := [22]) (d0 := 1) (O := [false, true, false, true, false, true, false]) (T := [(30, [.inr (.inl 11)], [.inr (.inl 35)]), (0, [.inl (.int 49), .inr (.inl 72)], []), (30, [.inr (.inl 74)], [.inr (.inl 55)]), (1, [.inr (.inl 75), .inr (.inl 70)], []), (2, [.inl (.int 4), .inr (.inl 11)], []), (0, [.inr (.inl 77), .inr (.inl 72)], []), (30, [.inr (.inl 78)], [.inr (.inl 37)]), (0, [.inl (.int 53), .inr (.inl 72)], []), (30, [.inr (.inl 80)], [.inr (.inl 55)]), (0, [.inl (.int 49), .inr (.inl 71)], []), (30, [.inr (.inl 82)], [.inr (.inl 55)]), (1, [.inr (.inl 83), .inr (.inl 70)], []), (0, [.inr (.inl 72), .inl (.int 1)], [])]) (P := [(6, .inr (.inl 11), .inl (.ref 2)), (5, .inr (.inl 73), .inr (.inl 72)), (6, .inr (.inl 74), .inl (.ref 61)), (4, .inr (.inl 70), .inr (.inl 75)), (6, .inr (.inl 78), .inl (.ref 8)), (3, .inr (.inl 79), .inr (.inl 76)), (6, .inr (.inl 80), .inl (.ref 61)), (4, .inr (.inl 69), .inr (.inl 81)), (3, .inr (.inl 71), .inl (.int 0)), (6, .inr (.inl 82), .inl (.ref 61)), (4, .inr (.inl 70), .inr (.inl 83)), (5, .inr (.inl 84), .inr (.inl 76))]) jm_ok187 (by decide +kernel) (by decide +kernel) hd F X1 X2 (fun F' hF hs => ?_)
  have b11 := hd_b (F := F) (F' := F') (k := 11) (hF 11 (by decide))
  have a35 := hd_ba (F := F) (F' := F') (k := 35) (hF 35 (by decide))
  have t73 : sy_dv F' (.inr (.inl 73)) = .int ((sy_ai F 35).getD (sy_i F 11).toNatClampNeg 0) := hd_rd (hs 0 _ rfl) b11 a35
  have b72 := hd_b (F := F) (F' := F') (k := 72) (hF 72 (by decide))
  have t74 : sy_dv F' (.inr (.inl 74)) = .int (((49 : Int32)) + (sy_i F 72)) := hd_o (hs 1 _ rfl) rfl b72 rfl
  have b70 := hd_b (F := F) (F' := F') (k := 70) (hF 70 (by decide))
  have a55 := hd_ba (F := F) (F' := F') (k := 55) (hF 55 (by decide))
  have t75 : sy_dv F' (.inr (.inl 75)) = .int ((sy_ai F 55).getD (((49 : Int32)) + (sy_i F 72)).toNatClampNeg 0) := hd_rd (hs 2 _ rfl) t74 a55
  have t77 : sy_dv F' (.inr (.inl 77)) = .int (((4 : Int32)) * (sy_i F 11)) := hd_o (hs 4 _ rfl) rfl b11 rfl
  have t78 : sy_dv F' (.inr (.inl 78)) = .int ((((4 : Int32)) * (sy_i F 11)) + (sy_i F 72)) := hd_o (hs 5 _ rfl) t77 b72 rfl
  have a37 := hd_ba (F := F) (F' := F') (k := 37) (hF 37 (by decide))
  have t79 : sy_dv F' (.inr (.inl 79)) = .int ((sy_ai F 37).getD ((((4 : Int32)) * (sy_i F 11)) + (sy_i F 72)).toNatClampNeg 0) := hd_rd (hs 6 _ rfl) t78 a37
  have t76 : sy_dv F' (.inr (.inl 76)) = .int (((sy_ai F 55).getD (((49 : Int32)) + (sy_i F 72)).toNatClampNeg 0) - (sy_i F 70)) := hd_o (hs 3 _ rfl) t75 b70 rfl
  have t80 : sy_dv F' (.inr (.inl 80)) = .int (((53 : Int32)) + (sy_i F 72)) := hd_o (hs 7 _ rfl) rfl b72 rfl
  have b69 := hd_b (F := F) (F' := F') (k := 69) (hF 69 (by decide))
  have t81 : sy_dv F' (.inr (.inl 81)) = .int ((sy_ai F 55).getD (((53 : Int32)) + (sy_i F 72)).toNatClampNeg 0) := hd_rd (hs 8 _ rfl) t80 a55
  have b71 := hd_b (F := F) (F' := F') (k := 71) (hF 71 (by decide))
  have t82 : sy_dv F' (.inr (.inl 82)) = .int (((49 : Int32)) + (sy_i F 71)) := hd_o (hs 9 _ rfl) rfl b71 rfl
  have t83 : sy_dv F' (.inr (.inl 83)) = .int ((sy_ai F 55).getD (((49 : Int32)) + (sy_i F 71)).toNatClampNeg 0) := hd_rd (hs 10 _ rfl) t82 a55
  have t84 : sy_dv F' (.inr (.inl 84)) = .int (((sy_ai F 55).getD (((49 : Int32)) + (sy_i F 71)).toNatClampNeg 0) - (sy_i F 70)) := hd_o (hs 11 _ rfl) t83 b70 rfl
  have t85 : sy_dv F' (.inr (.inl 85)) = .int ((sy_i F 72) + ((1 : Int32))) := hd_o (hs 12 _ rfl) b72 rfl rfl
  have hB' : iv_in F' iv_B4 := iv_in_eq hB (fun j hj => hF j (Nat.lt_of_lt_of_le hj (by decide +kernel)))
  refine ⟨List.forall_mem_cons.mpr ⟨hd_pb b11 (by first | exact h0 | exact h0), List.forall_mem_cons.mpr ⟨hd_p5 t73 b72 h1, List.forall_mem_cons.mpr ⟨hd_pb t74 (by first | exact h2 | exact h2), List.forall_mem_cons.mpr ⟨hd_p4 b70 t75 h3, List.forall_mem_cons.mpr ⟨hd_pb t78 (by first | exact h4 | exact h4), List.forall_mem_cons.mpr ⟨hd_p3 t79 t76 h5, List.forall_mem_cons.mpr ⟨hd_pb t80 (by first | exact h6 | exact h6), List.forall_mem_cons.mpr ⟨hd_p4 b69 t81 h7, List.forall_mem_cons.mpr ⟨hd_p3 b71 rfl (by have hc : ((0) : Int32).toInt = 0 := (by decide); omega), List.forall_mem_cons.mpr ⟨hd_pb t82 (by first | exact h9 | exact h9), List.forall_mem_cons.mpr ⟨hd_p4 b70 t83 h10, List.forall_mem_cons.mpr ⟨hd_p5 t84 t76 h11, fun _ h => absurd h List.not_mem_nil⟩⟩⟩⟩⟩⟩⟩⟩⟩⟩⟩⟩, ?_⟩
  refine k _ ?_ ?_ ?_ ?_ ?_
  · exact fun j hj _ => (hd_keep hB' (Nat.lt_of_lt_of_le hj (by decide +kernel)) (by simp)).trans (hF j (Nat.lt_of_lt_of_le hj (by decide)))
  · exact hd_gi (x := .inr (.inl 69)) (by decide +kernel) b69
  · exact hd_gi (x := .inr (.inl 70)) (by decide +kernel) b70
  · exact hd_gi (x := .inr (.inl 72)) (by decide +kernel) b72
  · exact hd_gi (x := .inr (.inl 85)) (by decide +kernel) t85
theorem yca_22_p5 {Ls : Nat} {xs : Nat → Int32} {d : Nat} {Q : Option Value → jm_h → Prop} (hd : 2 ≤ d) (F : Nat → sy_d) (X1 X2 : List jm_c) (hB : iv_in F iv_B4)
    (h0 : 0 ≤ (sy_i F 11).toInt ∧ (sy_i F 11).toInt < 2)
    (h1 : (sy_i F 72).toInt < ((sy_ai F 35).getD (sy_i F 11).toNatClampNeg 0).toInt)
    (h2 : 0 ≤ (((49 : Int32)) + (sy_i F 72)).toInt ∧ (((49 : Int32)) + (sy_i F 72)).toInt < 61)
    (h3 : (sy_i F 70).toInt ≤ ((sy_ai F 55).getD (((49 : Int32)) + (sy_i F 72)).toNatClampNeg 0).toInt)
    (h4 : 0 ≤ ((((4 : Int32)) * (sy_i F 11)) + (sy_i F 72)).toInt ∧ ((((4 : Int32)) * (sy_i F 11)) + (sy_i F 72)).toInt < 8)
    (h5 : (((sy_ai F 55).getD (((49 : Int32)) + (sy_i F 72)).toNatClampNeg 0) - (sy_i F 70)).toInt ≤ ((sy_ai F 37).getD ((((4 : Int32)) * (sy_i F 11)) + (sy_i F 72)).toNatClampNeg 0).toInt)
    (h6 : 0 ≤ (((53 : Int32)) + (sy_i F 72)).toInt ∧ (((53 : Int32)) + (sy_i F 72)).toInt < 61)
    (h7 : (sy_i F 69).toInt ≤ ((sy_ai F 55).getD (((53 : Int32)) + (sy_i F 72)).toNatClampNeg 0).toInt)
    (h8 : 0 ≤ (sy_i F 71).toInt)
    (h9 : 0 ≤ (((49 : Int32)) + (sy_i F 71)).toInt ∧ (((49 : Int32)) + (sy_i F 71)).toInt < 61)
    (h10 : ((sy_ai F 55).getD (((49 : Int32)) + (sy_i F 71)).toNatClampNeg 0).toInt < (sy_i F 70).toInt)
    (h11 : ((sy_i F 70) - ((sy_ai F 55).getD (((49 : Int32)) + (sy_i F 71)).toNatClampNeg 0)).toInt ≤ (((sy_ai F 55).getD (((49 : Int32)) + (sy_i F 72)).toNatClampNeg 0) - (sy_i F 70)).toInt)
    (k : ∀ F1 : Nat → sy_d, (∀ j, j < 69 → True → F1 j = F j) → F1 69 = .inl (.int (sy_i F 69)) → F1 70 = .inl (.int (sy_i F 70)) → F1 71 = .inl (.int (sy_i F 71)) → F1 72 = .inl (.int ((sy_i F 72) + ((1 : Int32)))) → hd_W Ls xs d jm_M187 Q (22, sy_dL F1 [some (.inl (.ref 1000)), none, some (.inr (.inl 69)), some (.inr (.inl 70)), some (.inr (.inl 71)), some (.inr (.inl 72)), none], sy_dS F1 [], sy_dh F1 X1 X2 (iv_H 4), 0, 0)) :
    hd_W Ls xs d jm_M187 Q (22, sy_dL F [some (.inl (.ref 1000)), none, some (.inr (.inl 69)), some (.inr (.inl 70)), some (.inr (.inl 71)), some (.inr (.inl 72)), none], sy_dS F [], sy_dh F X1 X2 (iv_H 4), 0, 0) := by
  refine hd_run (s := 4) (nv := 73) (pc := 22) (L := [some (.inl (.ref 1000)), none, some (.inr (.inl 69)), some (.inr (.inl 70)), some (.inr (.inl 71)), some (.inr (.inl 72)), none]) (S := []) (uh := hd_ov (iv_id 0 iv_B4) []) (ul := [.inl (.inr (.inl 69)), .inl (.inr (.inl 70)), .inl (.inr (.inl 71)), .inl (.inr (.inl 85))]) (f := true) (sp := [22]) (d0 := 1) (O := [false, true, false, true, false, false, true]) (T := [(30, [.inr (.inl 11)], [.inr (.inl 35)]), (0, [.inl (.int 49), .inr (.inl 72)], []), (30, [.inr (.inl 74)], [.inr (.inl 55)]), (1, [.inr (.inl 75), .inr (.inl 70)], []), (2, [.inl (.int 4), .inr (.inl 11)], []), (0, [.inr (.inl 77), .inr (.inl 72)], []), (30, [.inr (.inl 78)], [.inr (.inl 37)]), (0, [.inl (.int 53), .inr (.inl 72)], []), (30, [.inr (.inl 80)], [.inr (.inl 55)]), (0, [.inl (.int 49), .inr (.inl 71)], []), (30, [.inr (.inl 82)], [.inr (.inl 55)]), (1, [.inr (.inl 70), .inr (.inl 83)], []), (0, [.inr (.inl 72), .inl (.int 1)], [])]) (P := [(6, .inr (.inl 11), .inl (.ref 2)), (5, .inr (.inl 73), .inr (.inl 72)), (6, .inr (.inl 74), .inl (.ref 61)), (4, .inr (.inl 70), .inr (.inl 75)), (6, .inr (.inl 78), .inl (.ref 8)), (3, .inr (.inl 79), .inr (.inl 76)), (6, .inr (.inl 80), .inl (.ref 61)), (4, .inr (.inl 69), .inr (.inl 81)), (3, .inr (.inl 71), .inl (.int 0)), (6, .inr (.inl 82), .inl (.ref 61)), (5, .inr (.inl 70), .inr (.inl 83)), (4, .inr (.inl 84), .inr (.inl 76))]) jm_ok187 (by decide +kernel) (by decide +kernel) hd F X1 X2 (fun F' hF hs => ?_)
  have b11 := hd_b (F := F) (F' := F') (k := 11) (hF 11 (by decide))
  have a35 := hd_ba (F := F) (F' := F') (k := 35) (hF 35 (by decide))
  have t73 : sy_dv F' (.inr (.inl 73)) = .int ((sy_ai F 35).getD (sy_i F 11).toNatClampNeg 0) := hd_rd (hs 0 _ rfl) b11 a35
  have b72 := hd_b (F := F) (F' := F') (k := 72) (hF 72 (by decide))
  have t74 : sy_dv F' (.inr (.inl 74)) = .int (((49 : Int32)) + (sy_i F 72)) := hd_o (hs 1 _ rfl) rfl b72 rfl
  have b70 := hd_b (F := F) (F' := F') (k := 70) (hF 70 (by decide))
  have a55 := hd_ba (F := F) (F' := F') (k := 55) (hF 55 (by decide))
  have t75 : sy_dv F' (.inr (.inl 75)) = .int ((sy_ai F 55).getD (((49 : Int32)) + (sy_i F 72)).toNatClampNeg 0) := hd_rd (hs 2 _ rfl) t74 a55
  have t77 : sy_dv F' (.inr (.inl 77)) = .int (((4 : Int32)) * (sy_i F 11)) := hd_o (hs 4 _ rfl) rfl b11 rfl
  have t78 : sy_dv F' (.inr (.inl 78)) = .int ((((4 : Int32)) * (sy_i F 11)) + (sy_i F 72)) := hd_o (hs 5 _ rfl) t77 b72 rfl
  have a37 := hd_ba (F := F) (F' := F') (k := 37) (hF 37 (by decide))
  have t79 : sy_dv F' (.inr (.inl 79)) = .int ((sy_ai F 37).getD ((((4 : Int32)) * (sy_i F 11)) + (sy_i F 72)).toNatClampNeg 0) := hd_rd (hs 6 _ rfl) t78 a37
  have t76 : sy_dv F' (.inr (.inl 76)) = .int (((sy_ai F 55).getD (((49 : Int32)) + (sy_i F 72)).toNatClampNeg 0) - (sy_i F 70)) := hd_o (hs 3 _ rfl) t75 b70 rfl
  have t80 : sy_dv F' (.inr (.inl 80)) = .int (((53 : Int32)) + (sy_i F 72)) := hd_o (hs 7 _ rfl) rfl b72 rfl
  have b69 := hd_b (F := F) (F' := F') (k := 69) (hF 69 (by decide))
  have t81 : sy_dv F' (.inr (.inl 81)) = .int ((sy_ai F 55).getD (((53 : Int32)) + (sy_i F 72)).toNatClampNeg 0) := hd_rd (hs 8 _ rfl) t80 a55
  have b71 := hd_b (F := F) (F' := F') (k := 71) (hF 71 (by decide))
  have t82 : sy_dv F' (.inr (.inl 82)) = .int (((49 : Int32)) + (sy_i F 71)) := hd_o (hs 9 _ rfl) rfl b71 rfl
  have t83 : sy_dv F' (.inr (.inl 83)) = .int ((sy_ai F 55).getD (((49 : Int32)) + (sy_i F 71)).toNatClampNeg 0) := hd_rd (hs 10 _ rfl) t82 a55
  have t84 : sy_dv F' (.inr (.inl 84)) = .int ((sy_i F 70) - ((sy_ai F 55).getD (((49 : Int32)) + (sy_i F 71)).toNatClampNeg 0)) := hd_o (hs 11 _ rfl) b70 t83 rfl
  have t85 : sy_dv F' (.inr (.inl 85)) = .int ((sy_i F 72) + ((1 : Int32))) := hd_o (hs 12 _ rfl) b72 rfl rfl
  have hB' : iv_in F' iv_B4 := iv_in_eq hB (fun j hj => hF j (Nat.lt_of_lt_of_le hj (by decide +kernel)))
  refine ⟨List.forall_mem_cons.mpr ⟨hd_pb b11 (by first | exact h0 | exact h0), List.forall_mem_cons.mpr ⟨hd_p5 t73 b72 h1, List.forall_mem_cons.mpr ⟨hd_pb t74 (by first | exact h2 | exact h2), List.forall_mem_cons.mpr ⟨hd_p4 b70 t75 h3, List.forall_mem_cons.mpr ⟨hd_pb t78 (by first | exact h4 | exact h4), List.forall_mem_cons.mpr ⟨hd_p3 t79 t76 h5, List.forall_mem_cons.mpr ⟨hd_pb t80 (by first | exact h6 | exact h6), List.forall_mem_cons.mpr ⟨hd_p4 b69 t81 h7, List.forall_mem_cons.mpr ⟨hd_p3 b71 rfl (by have hc : ((0) : Int32).toInt = 0 := (by decide); omega), List.forall_mem_cons.mpr ⟨hd_pb t82 (by first | exact h9 | exact h9), List.forall_mem_cons.mpr ⟨hd_p5 b70 t83 h10, List.forall_mem_cons.mpr ⟨hd_p4 t84 t76 h11, fun _ h => absurd h List.not_mem_nil⟩⟩⟩⟩⟩⟩⟩⟩⟩⟩⟩⟩, ?_⟩
  refine k _ ?_ ?_ ?_ ?_ ?_
  · exact fun j hj _ => (hd_keep hB' (Nat.lt_of_lt_of_le hj (by decide +kernel)) (by simp)).trans (hF j (Nat.lt_of_lt_of_le hj (by decide)))
  · exact hd_gi (x := .inr (.inl 69)) (by decide +kernel) b69
  · exact hd_gi (x := .inr (.inl 70)) (by decide +kernel) b70
  · exact hd_gi (x := .inr (.inl 71)) (by decide +kernel) b71
  · exact hd_gi (x := .inr (.inl 85)) (by decide +kernel) t85
theorem yca_22_p6 {Ls : Nat} {xs : Nat → Int32} {d : Nat} {Q : Option Value → jm_h → Prop} (hd : 2 ≤ d) (F : Nat → sy_d) (X1 X2 : List jm_c) (hB : iv_in F iv_B4)
    (h0 : 0 ≤ (sy_i F 11).toInt ∧ (sy_i F 11).toInt < 2)
    (h1 : (sy_i F 72).toInt < ((sy_ai F 35).getD (sy_i F 11).toNatClampNeg 0).toInt)
    (h2 : 0 ≤ (((49 : Int32)) + (sy_i F 72)).toInt ∧ (((49 : Int32)) + (sy_i F 72)).toInt < 61)
    (h3 : (sy_i F 70).toInt ≤ ((sy_ai F 55).getD (((49 : Int32)) + (sy_i F 72)).toNatClampNeg 0).toInt)
    (h4 : 0 ≤ ((((4 : Int32)) * (sy_i F 11)) + (sy_i F 72)).toInt ∧ ((((4 : Int32)) * (sy_i F 11)) + (sy_i F 72)).toInt < 8)
    (h5 : (((sy_ai F 55).getD (((49 : Int32)) + (sy_i F 72)).toNatClampNeg 0) - (sy_i F 70)).toInt ≤ ((sy_ai F 37).getD ((((4 : Int32)) * (sy_i F 11)) + (sy_i F 72)).toNatClampNeg 0).toInt)
    (h6 : 0 ≤ (((53 : Int32)) + (sy_i F 72)).toInt ∧ (((53 : Int32)) + (sy_i F 72)).toInt < 61)
    (h7 : (sy_i F 69).toInt ≤ ((sy_ai F 55).getD (((53 : Int32)) + (sy_i F 72)).toNatClampNeg 0).toInt)
    (h8 : 0 ≤ (sy_i F 71).toInt)
    (h9 : 0 ≤ (((49 : Int32)) + (sy_i F 71)).toInt ∧ (((49 : Int32)) + (sy_i F 71)).toInt < 61)
    (h10 : ((sy_ai F 55).getD (((49 : Int32)) + (sy_i F 71)).toNatClampNeg 0).toInt < (sy_i F 70).toInt)
    (h11 : (((sy_ai F 55).getD (((49 : Int32)) + (sy_i F 72)).toNatClampNeg 0) - (sy_i F 70)).toInt < ((sy_i F 70) - ((sy_ai F 55).getD (((49 : Int32)) + (sy_i F 71)).toNatClampNeg 0)).toInt)
    (k : ∀ F1 : Nat → sy_d, (∀ j, j < 69 → True → F1 j = F j) → F1 69 = .inl (.int (sy_i F 69)) → F1 70 = .inl (.int (sy_i F 70)) → F1 71 = .inl (.int (sy_i F 72)) → F1 72 = .inl (.int ((sy_i F 72) + ((1 : Int32)))) → hd_W Ls xs d jm_M187 Q (22, sy_dL F1 [some (.inl (.ref 1000)), none, some (.inr (.inl 69)), some (.inr (.inl 70)), some (.inr (.inl 71)), some (.inr (.inl 72)), none], sy_dS F1 [], sy_dh F1 X1 X2 (iv_H 4), 0, 0)) :
    hd_W Ls xs d jm_M187 Q (22, sy_dL F [some (.inl (.ref 1000)), none, some (.inr (.inl 69)), some (.inr (.inl 70)), some (.inr (.inl 71)), some (.inr (.inl 72)), none], sy_dS F [], sy_dh F X1 X2 (iv_H 4), 0, 0) := by
  refine hd_run (s := 4) (nv := 73) (pc := 22) (L := [some (.inl (.ref 1000)), none, some (.inr (.inl 69)), some (.inr (.inl 70)), some (.inr (.inl 71)), some (.inr (.inl 72)), none]) (S := []) (uh := hd_ov (iv_id 0 iv_B4) []) (ul := [.inl (.inr (.inl 69)), .inl (.inr (.inl 70)), .inl (.inr (.inl 72)), .inl (.inr (.inl 85))]) (f := true) (sp := [22]) (d0 := 1) (O := [false, true, false, true, false, false, false]) (T := [(30, [.inr (.inl 11)], [.inr (.inl 35)]), (0, [.inl (.int 49), .inr (.inl 72)], []), (30, [.inr (.inl 74)], [.inr (.inl 55)]), (1, [.inr (.inl 75), .inr (.inl 70)], []), (2, [.inl (.int 4), .inr (.inl 11)], []), (0, [.inr (.inl 77), .inr (.inl 72)], []), (30, [.inr (.inl 78)], [.inr (.inl 37)]), (0, [.inl (.int 53), .inr (.inl 72)], []), (30, [.inr (.inl 80)], [.inr (.inl 55)]), (0, [.inl (.int 49), .inr (.inl 71)], []), (30, [.inr (.inl 82)], [.inr (.inl 55)]), (1, [.inr (.inl 70), .inr (.inl 83)], []), (0, [.inr (.inl 72), .inl (.int 1)], [])]) (P := [(6, .inr (.inl 11), .inl (.ref 2)), (5, .inr (.inl 73), .inr (.inl 72)), (6, .inr (.inl 74), .inl (.ref 61)), (4, .inr (.inl 70), .inr (.inl 75)), (6, .inr (.inl 78), .inl (.ref 8)), (3, .inr (.inl 79), .inr (.inl 76)), (6, .inr (.inl 80), .inl (.ref 61)), (4, .inr (.inl 69), .inr (.inl 81)), (3, .inr (.inl 71), .inl (.int 0)), (6, .inr (.inl 82), .inl (.ref 61)), (5, .inr (.inl 70), .inr (.inl 83)), (5, .inr (.inl 84), .inr (.inl 76))]) jm_ok187 (by decide +kernel) (by decide +kernel) hd F X1 X2 (fun F' hF hs => ?_)
  have b11 := hd_b (F := F) (F' := F') (k := 11) (hF 11 (by decide))
  have a35 := hd_ba (F := F) (F' := F') (k := 35) (hF 35 (by decide))
  have t73 : sy_dv F' (.inr (.inl 73)) = .int ((sy_ai F 35).getD (sy_i F 11).toNatClampNeg 0) := hd_rd (hs 0 _ rfl) b11 a35
  have b72 := hd_b (F := F) (F' := F') (k := 72) (hF 72 (by decide))
  have t74 : sy_dv F' (.inr (.inl 74)) = .int (((49 : Int32)) + (sy_i F 72)) := hd_o (hs 1 _ rfl) rfl b72 rfl
  have b70 := hd_b (F := F) (F' := F') (k := 70) (hF 70 (by decide))
  have a55 := hd_ba (F := F) (F' := F') (k := 55) (hF 55 (by decide))
  have t75 : sy_dv F' (.inr (.inl 75)) = .int ((sy_ai F 55).getD (((49 : Int32)) + (sy_i F 72)).toNatClampNeg 0) := hd_rd (hs 2 _ rfl) t74 a55
  have t77 : sy_dv F' (.inr (.inl 77)) = .int (((4 : Int32)) * (sy_i F 11)) := hd_o (hs 4 _ rfl) rfl b11 rfl
  have t78 : sy_dv F' (.inr (.inl 78)) = .int ((((4 : Int32)) * (sy_i F 11)) + (sy_i F 72)) := hd_o (hs 5 _ rfl) t77 b72 rfl
  have a37 := hd_ba (F := F) (F' := F') (k := 37) (hF 37 (by decide))
  have t79 : sy_dv F' (.inr (.inl 79)) = .int ((sy_ai F 37).getD ((((4 : Int32)) * (sy_i F 11)) + (sy_i F 72)).toNatClampNeg 0) := hd_rd (hs 6 _ rfl) t78 a37
  have t76 : sy_dv F' (.inr (.inl 76)) = .int (((sy_ai F 55).getD (((49 : Int32)) + (sy_i F 72)).toNatClampNeg 0) - (sy_i F 70)) := hd_o (hs 3 _ rfl) t75 b70 rfl
  have t80 : sy_dv F' (.inr (.inl 80)) = .int (((53 : Int32)) + (sy_i F 72)) := hd_o (hs 7 _ rfl) rfl b72 rfl
  have b69 := hd_b (F := F) (F' := F') (k := 69) (hF 69 (by decide))
  have t81 : sy_dv F' (.inr (.inl 81)) = .int ((sy_ai F 55).getD (((53 : Int32)) + (sy_i F 72)).toNatClampNeg 0) := hd_rd (hs 8 _ rfl) t80 a55
  have b71 := hd_b (F := F) (F' := F') (k := 71) (hF 71 (by decide))
  have t82 : sy_dv F' (.inr (.inl 82)) = .int (((49 : Int32)) + (sy_i F 71)) := hd_o (hs 9 _ rfl) rfl b71 rfl
  have t83 : sy_dv F' (.inr (.inl 83)) = .int ((sy_ai F 55).getD (((49 : Int32)) + (sy_i F 71)).toNatClampNeg 0) := hd_rd (hs 10 _ rfl) t82 a55
  have t84 : sy_dv F' (.inr (.inl 84)) = .int ((sy_i F 70) - ((sy_ai F 55).getD (((49 : Int32)) + (sy_i F 71)).toNatClampNeg 0)) := hd_o (hs 11 _ rfl) b70 t83 rfl
  have t85 : sy_dv F' (.inr (.inl 85)) = .int ((sy_i F 72) + ((1 : Int32))) := hd_o (hs 12 _ rfl) b72 rfl rfl
  have hB' : iv_in F' iv_B4 := iv_in_eq hB (fun j hj => hF j (Nat.lt_of_lt_of_le hj (by decide +kernel)))
  refine ⟨List.forall_mem_cons.mpr ⟨hd_pb b11 (by first | exact h0 | exact h0), List.forall_mem_cons.mpr ⟨hd_p5 t73 b72 h1, List.forall_mem_cons.mpr ⟨hd_pb t74 (by first | exact h2 | exact h2), List.forall_mem_cons.mpr ⟨hd_p4 b70 t75 h3, List.forall_mem_cons.mpr ⟨hd_pb t78 (by first | exact h4 | exact h4), List.forall_mem_cons.mpr ⟨hd_p3 t79 t76 h5, List.forall_mem_cons.mpr ⟨hd_pb t80 (by first | exact h6 | exact h6), List.forall_mem_cons.mpr ⟨hd_p4 b69 t81 h7, List.forall_mem_cons.mpr ⟨hd_p3 b71 rfl (by have hc : ((0) : Int32).toInt = 0 := (by decide); omega), List.forall_mem_cons.mpr ⟨hd_pb t82 (by first | exact h9 | exact h9), List.forall_mem_cons.mpr ⟨hd_p5 b70 t83 h10, List.forall_mem_cons.mpr ⟨hd_p5 t84 t76 h11, fun _ h => absurd h List.not_mem_nil⟩⟩⟩⟩⟩⟩⟩⟩⟩⟩⟩⟩, ?_⟩
  refine k _ ?_ ?_ ?_ ?_ ?_
  · exact fun j hj _ => (hd_keep hB' (Nat.lt_of_lt_of_le hj (by decide +kernel)) (by simp)).trans (hF j (Nat.lt_of_lt_of_le hj (by decide)))
  · exact hd_gi (x := .inr (.inl 69)) (by decide +kernel) b69
  · exact hd_gi (x := .inr (.inl 70)) (by decide +kernel) b70
  · exact hd_gi (x := .inr (.inl 72)) (by decide +kernel) b72
  · exact hd_gi (x := .inr (.inl 85)) (by decide +kernel) t85
theorem yca_22_p7 {Ls : Nat} {xs : Nat → Int32} {d : Nat} {Q : Option Value → jm_h → Prop} (hd : 2 ≤ d) (F : Nat → sy_d) (X1 X2 : List jm_c) (hB : iv_in F iv_B4)
    (h0 : 0 ≤ (sy_i F 11).toInt ∧ (sy_i F 11).toInt < 2)
    (h1 : (sy_i F 72).toInt < ((sy_ai F 35).getD (sy_i F 11).toNatClampNeg 0).toInt)
    (h2 : 0 ≤ (((49 : Int32)) + (sy_i F 72)).toInt ∧ (((49 : Int32)) + (sy_i F 72)).toInt < 61)
    (h3 : (sy_i F 70).toInt ≤ ((sy_ai F 55).getD (((49 : Int32)) + (sy_i F 72)).toNatClampNeg 0).toInt)
    (h4 : 0 ≤ ((((4 : Int32)) * (sy_i F 11)) + (sy_i F 72)).toInt ∧ ((((4 : Int32)) * (sy_i F 11)) + (sy_i F 72)).toInt < 8)
    (h5 : (((sy_ai F 55).getD (((49 : Int32)) + (sy_i F 72)).toNatClampNeg 0) - (sy_i F 70)).toInt ≤ ((sy_ai F 37).getD ((((4 : Int32)) * (sy_i F 11)) + (sy_i F 72)).toNatClampNeg 0).toInt)
    (h6 : 0 ≤ (((53 : Int32)) + (sy_i F 72)).toInt ∧ (((53 : Int32)) + (sy_i F 72)).toInt < 61)
    (h7 : ((sy_ai F 55).getD (((53 : Int32)) + (sy_i F 72)).toNatClampNeg 0).toInt < (sy_i F 69).toInt)
    (k : ∀ F1 : Nat → sy_d, (∀ j, j < 69 → True → F1 j = F j) → F1 69 = .inl (.int (sy_i F 69)) → F1 70 = .inl (.int (sy_i F 70)) → F1 71 = .inl (.int (sy_i F 71)) → F1 72 = .inl (.int ((sy_i F 72) + ((1 : Int32)))) → hd_W Ls xs d jm_M187 Q (22, sy_dL F1 [some (.inl (.ref 1000)), none, some (.inr (.inl 69)), some (.inr (.inl 70)), some (.inr (.inl 71)), some (.inr (.inl 72)), none], sy_dS F1 [], sy_dh F1 X1 X2 (iv_H 4), 0, 0)) :
    hd_W Ls xs d jm_M187 Q (22, sy_dL F [some (.inl (.ref 1000)), none, some (.inr (.inl 69)), some (.inr (.inl 70)), some (.inr (.inl 71)), some (.inr (.inl 72)), none], sy_dS F [], sy_dh F X1 X2 (iv_H 4), 0, 0) := by
  refine hd_run (s := 4) (nv := 73) (pc := 22) (L := [some (.inl (.ref 1000)), none, some (.inr (.inl 69)), some (.inr (.inl 70)), some (.inr (.inl 71)), some (.inr (.inl 72)), none]) (S := []) (uh := hd_ov (iv_id 0 iv_B4) []) (ul := [.inl (.inr (.inl 69)), .inl (.inr (.inl 70)), .inl (.inr (.inl 71)), .inl (.inr (.inl 82))]) (f := true) (sp := [22]) (d0 := 1) (O := [false, true, false, false]) (T := [(30, [.inr (.inl 11)], [.inr (.inl 35)]), (0, [.inl (.int 49), .inr (.inl 72)], []), (30, [.inr (.inl 74)], [.inr (.inl 55)]), (1, [.inr (.inl 75), .inr (.inl 70)], []), (2, [.inl (.int 4), .inr (.inl 11)], []), (0, [.inr (.inl 77), .inr (.inl 72)], []), (30, [.inr (.inl 78)], [.inr (.inl 37)]), (0, [.inl (.int 53), .inr (.inl 72)], []), (30, [.inr (.inl 80)], [.inr (.inl 55)]), (0, [.inr (.inl 72), .inl (.int 1)], [])]) (P := [(6, .inr (.inl 11), .inl (.ref 2)), (5, .inr (.inl 73), .inr (.inl 72)), (6, .inr (.inl 74), .inl (.ref 61)), (4, .inr (.inl 70), .inr (.inl 75)), (6, .inr (.inl 78), .inl (.ref 8)), (3, .inr (.inl 79), .inr (.inl 76)), (6, .inr (.inl 80), .inl (.ref 61)), (5, .inr (.inl 69), .inr (.inl 81))]) jm_ok187 (by decide +kernel) (by decide +kernel) hd F X1 X2 (fun F' hF hs => ?_)
  have b11 := hd_b (F := F) (F' := F') (k := 11) (hF 11 (by decide))
  have a35 := hd_ba (F := F) (F' := F') (k := 35) (hF 35 (by decide))
  have t73 : sy_dv F' (.inr (.inl 73)) = .int ((sy_ai F 35).getD (sy_i F 11).toNatClampNeg 0) := hd_rd (hs 0 _ rfl) b11 a35
  have b72 := hd_b (F := F) (F' := F') (k := 72) (hF 72 (by decide))
  have t74 : sy_dv F' (.inr (.inl 74)) = .int (((49 : Int32)) + (sy_i F 72)) := hd_o (hs 1 _ rfl) rfl b72 rfl
  have b70 := hd_b (F := F) (F' := F') (k := 70) (hF 70 (by decide))
  have a55 := hd_ba (F := F) (F' := F') (k := 55) (hF 55 (by decide))
  have t75 : sy_dv F' (.inr (.inl 75)) = .int ((sy_ai F 55).getD (((49 : Int32)) + (sy_i F 72)).toNatClampNeg 0) := hd_rd (hs 2 _ rfl) t74 a55
  have t77 : sy_dv F' (.inr (.inl 77)) = .int (((4 : Int32)) * (sy_i F 11)) := hd_o (hs 4 _ rfl) rfl b11 rfl
  have t78 : sy_dv F' (.inr (.inl 78)) = .int ((((4 : Int32)) * (sy_i F 11)) + (sy_i F 72)) := hd_o (hs 5 _ rfl) t77 b72 rfl
  have a37 := hd_ba (F := F) (F' := F') (k := 37) (hF 37 (by decide))
  have t79 : sy_dv F' (.inr (.inl 79)) = .int ((sy_ai F 37).getD ((((4 : Int32)) * (sy_i F 11)) + (sy_i F 72)).toNatClampNeg 0) := hd_rd (hs 6 _ rfl) t78 a37
  have t76 : sy_dv F' (.inr (.inl 76)) = .int (((sy_ai F 55).getD (((49 : Int32)) + (sy_i F 72)).toNatClampNeg 0) - (sy_i F 70)) := hd_o (hs 3 _ rfl) t75 b70 rfl
  have t80 : sy_dv F' (.inr (.inl 80)) = .int (((53 : Int32)) + (sy_i F 72)) := hd_o (hs 7 _ rfl) rfl b72 rfl
  have b69 := hd_b (F := F) (F' := F') (k := 69) (hF 69 (by decide))
  have t81 : sy_dv F' (.inr (.inl 81)) = .int ((sy_ai F 55).getD (((53 : Int32)) + (sy_i F 72)).toNatClampNeg 0) := hd_rd (hs 8 _ rfl) t80 a55
  have b71 := hd_b (F := F) (F' := F') (k := 71) (hF 71 (by decide))
  have t82 : sy_dv F' (.inr (.inl 82)) = .int ((sy_i F 72) + ((1 : Int32))) := hd_o (hs 9 _ rfl) b72 rfl rfl
  have hB' : iv_in F' iv_B4 := iv_in_eq hB (fun j hj => hF j (Nat.lt_of_lt_of_le hj (by decide +kernel)))
  refine ⟨List.forall_mem_cons.mpr ⟨hd_pb b11 (by first | exact h0 | exact h0), List.forall_mem_cons.mpr ⟨hd_p5 t73 b72 h1, List.forall_mem_cons.mpr ⟨hd_pb t74 (by first | exact h2 | exact h2), List.forall_mem_cons.mpr ⟨hd_p4 b70 t75 h3, List.forall_mem_cons.mpr ⟨hd_pb t78 (by first | exact h4 | exact h4), List.forall_mem_cons.mpr ⟨hd_p3 t79 t76 h5, List.forall_mem_cons.mpr ⟨hd_pb t80 (by first | exact h6 | exact h6), List.forall_mem_cons.mpr ⟨hd_p5 b69 t81 h7, fun _ h => absurd h List.not_mem_nil⟩⟩⟩⟩⟩⟩⟩⟩, ?_⟩
  refine k _ ?_ ?_ ?_ ?_ ?_
  · exact fun j hj _ => (hd_keep hB' (Nat.lt_of_lt_of_le hj (by decide +kernel)) (by simp)).trans (hF j (Nat.lt_of_lt_of_le hj (by decide)))
  · exact hd_gi (x := .inr (.inl 69)) (by decide +kernel) b69
  · exact hd_gi (x := .inr (.inl 70)) (by decide +kernel) b70
  · exact hd_gi (x := .inr (.inl 71)) (by decide +kernel) b71
  · exact hd_gi (x := .inr (.inl 82)) (by decide +kernel) t82
theorem yca_22_p8 {Ls : Nat} {xs : Nat → Int32} {d : Nat} {Q : Option Value → jm_h → Prop} (hd : 2 ≤ d) (F : Nat → sy_d) (X1 X2 : List jm_c) (hB : iv_in F iv_B4)
    (h0 : 0 ≤ (sy_i F 11).toInt ∧ (sy_i F 11).toInt < 2)
    (h1 : (sy_i F 72).toInt < ((sy_ai F 35).getD (sy_i F 11).toNatClampNeg 0).toInt)
    (h2 : 0 ≤ (((49 : Int32)) + (sy_i F 72)).toInt ∧ (((49 : Int32)) + (sy_i F 72)).toInt < 61)
    (h3 : ((sy_ai F 55).getD (((49 : Int32)) + (sy_i F 72)).toNatClampNeg 0).toInt < (sy_i F 70).toInt)
    (h4 : 0 ≤ ((((4 : Int32)) * (sy_i F 11)) + (sy_i F 72)).toInt ∧ ((((4 : Int32)) * (sy_i F 11)) + (sy_i F 72)).toInt < 8)
    (h5 : ((sy_ai F 37).getD ((((4 : Int32)) * (sy_i F 11)) + (sy_i F 72)).toNatClampNeg 0).toInt < ((sy_i F 70) - ((sy_ai F 55).getD (((49 : Int32)) + (sy_i F 72)).toNatClampNeg 0)).toInt)
    (k : ∀ F1 : Nat → sy_d, (∀ j, j < 69 → True → F1 j = F j) → F1 69 = .inl (.int (sy_i F 69)) → F1 70 = .inl (.int (sy_i F 70)) → F1 71 = .inl (.int (sy_i F 71)) → F1 72 = .inl (.int ((sy_i F 72) + ((1 : Int32)))) → hd_W Ls xs d jm_M187 Q (22, sy_dL F1 [some (.inl (.ref 1000)), none, some (.inr (.inl 69)), some (.inr (.inl 70)), some (.inr (.inl 71)), some (.inr (.inl 72)), none], sy_dS F1 [], sy_dh F1 X1 X2 (iv_H 4), 0, 0)) :
    hd_W Ls xs d jm_M187 Q (22, sy_dL F [some (.inl (.ref 1000)), none, some (.inr (.inl 69)), some (.inr (.inl 70)), some (.inr (.inl 71)), some (.inr (.inl 72)), none], sy_dS F [], sy_dh F X1 X2 (iv_H 4), 0, 0) := by
  refine hd_run (s := 4) (nv := 73) (pc := 22) (L := [some (.inl (.ref 1000)), none, some (.inr (.inl 69)), some (.inr (.inl 70)), some (.inr (.inl 71)), some (.inr (.inl 72)), none]) (S := []) (uh := hd_ov (iv_id 0 iv_B4) []) (ul := [.inl (.inr (.inl 69)), .inl (.inr (.inl 70)), .inl (.inr (.inl 71)), .inl (.inr (.inl 80))]) (f := true) (sp := [22]) (d0 := 1) (O := [false, false, true]) (T := [(30, [.inr (.inl 11)], [.inr (.inl 35)]), (0, [.inl (.int 49), .inr (.inl 72)], []), (30, [.inr (.inl 74)], [.inr (.inl 55)]), (1, [.inr (.inl 70), .inr (.inl 75)], []), (2, [.inl (.int 4), .inr (.inl 11)], []), (0, [.inr (.inl 77), .inr (.inl 72)], []), (30, [.inr (.inl 78)], [.inr (.inl 37)]), (0, [.inr (.inl 72), .inl (.int 1)], [])]) (P := [(6, .inr (.inl 11), .inl (.ref 2)), (5, .inr (.inl 73), .inr (.inl 72)), (6, .inr (.inl 74), .inl (.ref 61)), (5, .inr (.inl 70), .inr (.inl 75)), (6, .inr (.inl 78), .inl (.ref 8)), (2, .inr (.inl 79), .inr (.inl 76))]) jm_ok187 (by decide +kernel) (by decide +kernel) hd F X1 X2 (fun F' hF hs => ?_)
  have b11 := hd_b (F := F) (F' := F') (k := 11) (hF 11 (by decide))
  have a35 := hd_ba (F := F) (F' := F') (k := 35) (hF 35 (by decide))
  have t73 : sy_dv F' (.inr (.inl 73)) = .int ((sy_ai F 35).getD (sy_i F 11).toNatClampNeg 0) := hd_rd (hs 0 _ rfl) b11 a35
  have b72 := hd_b (F := F) (F' := F') (k := 72) (hF 72 (by decide))
  have t74 : sy_dv F' (.inr (.inl 74)) = .int (((49 : Int32)) + (sy_i F 72)) := hd_o (hs 1 _ rfl) rfl b72 rfl
  have b70 := hd_b (F := F) (F' := F') (k := 70) (hF 70 (by decide))
  have a55 := hd_ba (F := F) (F' := F') (k := 55) (hF 55 (by decide))
  have t75 : sy_dv F' (.inr (.inl 75)) = .int ((sy_ai F 55).getD (((49 : Int32)) + (sy_i F 72)).toNatClampNeg 0) := hd_rd (hs 2 _ rfl) t74 a55
  have t77 : sy_dv F' (.inr (.inl 77)) = .int (((4 : Int32)) * (sy_i F 11)) := hd_o (hs 4 _ rfl) rfl b11 rfl
  have t78 : sy_dv F' (.inr (.inl 78)) = .int ((((4 : Int32)) * (sy_i F 11)) + (sy_i F 72)) := hd_o (hs 5 _ rfl) t77 b72 rfl
  have a37 := hd_ba (F := F) (F' := F') (k := 37) (hF 37 (by decide))
  have t79 : sy_dv F' (.inr (.inl 79)) = .int ((sy_ai F 37).getD ((((4 : Int32)) * (sy_i F 11)) + (sy_i F 72)).toNatClampNeg 0) := hd_rd (hs 6 _ rfl) t78 a37
  have t76 : sy_dv F' (.inr (.inl 76)) = .int ((sy_i F 70) - ((sy_ai F 55).getD (((49 : Int32)) + (sy_i F 72)).toNatClampNeg 0)) := hd_o (hs 3 _ rfl) b70 t75 rfl
  have b69 := hd_b (F := F) (F' := F') (k := 69) (hF 69 (by decide))
  have b71 := hd_b (F := F) (F' := F') (k := 71) (hF 71 (by decide))
  have t80 : sy_dv F' (.inr (.inl 80)) = .int ((sy_i F 72) + ((1 : Int32))) := hd_o (hs 7 _ rfl) b72 rfl rfl
  have hB' : iv_in F' iv_B4 := iv_in_eq hB (fun j hj => hF j (Nat.lt_of_lt_of_le hj (by decide +kernel)))
  refine ⟨List.forall_mem_cons.mpr ⟨hd_pb b11 (by first | exact h0 | exact h0), List.forall_mem_cons.mpr ⟨hd_p5 t73 b72 h1, List.forall_mem_cons.mpr ⟨hd_pb t74 (by first | exact h2 | exact h2), List.forall_mem_cons.mpr ⟨hd_p5 b70 t75 h3, List.forall_mem_cons.mpr ⟨hd_pb t78 (by first | exact h4 | exact h4), List.forall_mem_cons.mpr ⟨hd_p2 t79 t76 h5, fun _ h => absurd h List.not_mem_nil⟩⟩⟩⟩⟩⟩, ?_⟩
  refine k _ ?_ ?_ ?_ ?_ ?_
  · exact fun j hj _ => (hd_keep hB' (Nat.lt_of_lt_of_le hj (by decide +kernel)) (by simp)).trans (hF j (Nat.lt_of_lt_of_le hj (by decide)))
  · exact hd_gi (x := .inr (.inl 69)) (by decide +kernel) b69
  · exact hd_gi (x := .inr (.inl 70)) (by decide +kernel) b70
  · exact hd_gi (x := .inr (.inl 71)) (by decide +kernel) b71
  · exact hd_gi (x := .inr (.inl 80)) (by decide +kernel) t80
theorem yca_22_p9 {Ls : Nat} {xs : Nat → Int32} {d : Nat} {Q : Option Value → jm_h → Prop} (hd : 2 ≤ d) (F : Nat → sy_d) (X1 X2 : List jm_c) (hB : iv_in F iv_B4)
    (h0 : 0 ≤ (sy_i F 11).toInt ∧ (sy_i F 11).toInt < 2)
    (h1 : (sy_i F 72).toInt < ((sy_ai F 35).getD (sy_i F 11).toNatClampNeg 0).toInt)
    (h2 : 0 ≤ (((49 : Int32)) + (sy_i F 72)).toInt ∧ (((49 : Int32)) + (sy_i F 72)).toInt < 61)
    (h3 : ((sy_ai F 55).getD (((49 : Int32)) + (sy_i F 72)).toNatClampNeg 0).toInt < (sy_i F 70).toInt)
    (h4 : 0 ≤ ((((4 : Int32)) * (sy_i F 11)) + (sy_i F 72)).toInt ∧ ((((4 : Int32)) * (sy_i F 11)) + (sy_i F 72)).toInt < 8)
    (h5 : ((sy_i F 70) - ((sy_ai F 55).getD (((49 : Int32)) + (sy_i F 72)).toNatClampNeg 0)).toInt ≤ ((sy_ai F 37).getD ((((4 : Int32)) * (sy_i F 11)) + (sy_i F 72)).toNatClampNeg 0).toInt)
    (h6 : 0 ≤ (((53 : Int32)) + (sy_i F 72)).toInt ∧ (((53 : Int32)) + (sy_i F 72)).toInt < 61)
    (h7 : (sy_i F 69).toInt ≤ ((sy_ai F 55).getD (((53 : Int32)) + (sy_i F 72)).toNatClampNeg 0).toInt)
    (h8 : (sy_i F 71).toInt < 0)
    (k : ∀ F1 : Nat → sy_d, (∀ j, j < 69 → True → F1 j = F j) → F1 69 = .inl (.int (sy_i F 69)) → F1 70 = .inl (.int (sy_i F 70)) → F1 71 = .inl (.int (sy_i F 72)) → F1 72 = .inl (.int ((sy_i F 72) + ((1 : Int32)))) → hd_W Ls xs d jm_M187 Q (22, sy_dL F1 [some (.inl (.ref 1000)), none, some (.inr (.inl 69)), some (.inr (.inl 70)), some (.inr (.inl 71)), some (.inr (.inl 72)), none], sy_dS F1 [], sy_dh F1 X1 X2 (iv_H 4), 0, 0)) :
    hd_W Ls xs d jm_M187 Q (22, sy_dL F [some (.inl (.ref 1000)), none, some (.inr (.inl 69)), some (.inr (.inl 70)), some (.inr (.inl 71)), some (.inr (.inl 72)), none], sy_dS F [], sy_dh F X1 X2 (iv_H 4), 0, 0) := by
  refine hd_run (s := 4) (nv := 73) (pc := 22) (L := [some (.inl (.ref 1000)), none, some (.inr (.inl 69)), some (.inr (.inl 70)), some (.inr (.inl 71)), some (.inr (.inl 72)), none]) (S := []) (uh := hd_ov (iv_id 0 iv_B4) []) (ul := [.inl (.inr (.inl 69)), .inl (.inr (.inl 70)), .inl (.inr (.inl 72)), .inl (.inr (.inl 82))]) (f := true) (sp := [22]) (d0 := 1) (O := [false, false, false, true, true]) (T := [(30, [.inr (.inl 11)], [.inr (.inl 35)]), (0, [.inl (.int 49), .inr (.inl 72)], []), (30, [.inr (.inl 74)], [.inr (.inl 55)]), (1, [.inr (.inl 70), .inr (.inl 75)], []), (2, [.inl (.int 4), .inr (.inl 11)], []), (0, [.inr (.inl 77), .inr (.inl 72)], []), (30, [.inr (.inl 78)], [.inr (.inl 37)]), (0, [.inl (.int 53), .inr (.inl 72)], []), (30, [.inr (.inl 80)], [.inr (.inl 55)]), (0, [.inr (.inl 72), .inl (.int 1)], [])]) (P := [(6, .inr (.inl 11), .inl (.ref 2)), (5, .inr (.inl 73), .inr (.inl 72)), (6, .inr (.inl 74), .inl (.ref 61)), (5, .inr (.inl 70), .inr (.inl 75)), (6, .inr (.inl 78), .inl (.ref 8)), (3, .inr (.inl 79), .inr (.inl 76)), (6, .inr (.inl 80), .inl (.ref 61)), (4, .inr (.inl 69), .inr (.inl 81)), (2, .inr (.inl 71), .inl (.int 0))]) jm_ok187 (by decide +kernel) (by decide +kernel) hd F X1 X2 (fun F' hF hs => ?_)
  have b11 := hd_b (F := F) (F' := F') (k := 11) (hF 11 (by decide))
  have a35 := hd_ba (F := F) (F' := F') (k := 35) (hF 35 (by decide))
  have t73 : sy_dv F' (.inr (.inl 73)) = .int ((sy_ai F 35).getD (sy_i F 11).toNatClampNeg 0) := hd_rd (hs 0 _ rfl) b11 a35
  have b72 := hd_b (F := F) (F' := F') (k := 72) (hF 72 (by decide))
  have t74 : sy_dv F' (.inr (.inl 74)) = .int (((49 : Int32)) + (sy_i F 72)) := hd_o (hs 1 _ rfl) rfl b72 rfl
  have b70 := hd_b (F := F) (F' := F') (k := 70) (hF 70 (by decide))
  have a55 := hd_ba (F := F) (F' := F') (k := 55) (hF 55 (by decide))
  have t75 : sy_dv F' (.inr (.inl 75)) = .int ((sy_ai F 55).getD (((49 : Int32)) + (sy_i F 72)).toNatClampNeg 0) := hd_rd (hs 2 _ rfl) t74 a55
  have t77 : sy_dv F' (.inr (.inl 77)) = .int (((4 : Int32)) * (sy_i F 11)) := hd_o (hs 4 _ rfl) rfl b11 rfl
  have t78 : sy_dv F' (.inr (.inl 78)) = .int ((((4 : Int32)) * (sy_i F 11)) + (sy_i F 72)) := hd_o (hs 5 _ rfl) t77 b72 rfl
  have a37 := hd_ba (F := F) (F' := F') (k := 37) (hF 37 (by decide))
  have t79 : sy_dv F' (.inr (.inl 79)) = .int ((sy_ai F 37).getD ((((4 : Int32)) * (sy_i F 11)) + (sy_i F 72)).toNatClampNeg 0) := hd_rd (hs 6 _ rfl) t78 a37
  have t76 : sy_dv F' (.inr (.inl 76)) = .int ((sy_i F 70) - ((sy_ai F 55).getD (((49 : Int32)) + (sy_i F 72)).toNatClampNeg 0)) := hd_o (hs 3 _ rfl) b70 t75 rfl
  have t80 : sy_dv F' (.inr (.inl 80)) = .int (((53 : Int32)) + (sy_i F 72)) := hd_o (hs 7 _ rfl) rfl b72 rfl
  have b69 := hd_b (F := F) (F' := F') (k := 69) (hF 69 (by decide))
  have t81 : sy_dv F' (.inr (.inl 81)) = .int ((sy_ai F 55).getD (((53 : Int32)) + (sy_i F 72)).toNatClampNeg 0) := hd_rd (hs 8 _ rfl) t80 a55
  have b71 := hd_b (F := F) (F' := F') (k := 71) (hF 71 (by decide))
  have t82 : sy_dv F' (.inr (.inl 82)) = .int ((sy_i F 72) + ((1 : Int32))) := hd_o (hs 9 _ rfl) b72 rfl rfl
  have hB' : iv_in F' iv_B4 := iv_in_eq hB (fun j hj => hF j (Nat.lt_of_lt_of_le hj (by decide +kernel)))
  refine ⟨List.forall_mem_cons.mpr ⟨hd_pb b11 (by first | exact h0 | exact h0), List.forall_mem_cons.mpr ⟨hd_p5 t73 b72 h1, List.forall_mem_cons.mpr ⟨hd_pb t74 (by first | exact h2 | exact h2), List.forall_mem_cons.mpr ⟨hd_p5 b70 t75 h3, List.forall_mem_cons.mpr ⟨hd_pb t78 (by first | exact h4 | exact h4), List.forall_mem_cons.mpr ⟨hd_p3 t79 t76 h5, List.forall_mem_cons.mpr ⟨hd_pb t80 (by first | exact h6 | exact h6), List.forall_mem_cons.mpr ⟨hd_p4 b69 t81 h7, List.forall_mem_cons.mpr ⟨hd_p2 b71 rfl (by have hc : ((0) : Int32).toInt = 0 := (by decide); omega), fun _ h => absurd h List.not_mem_nil⟩⟩⟩⟩⟩⟩⟩⟩⟩, ?_⟩
  refine k _ ?_ ?_ ?_ ?_ ?_
  · exact fun j hj _ => (hd_keep hB' (Nat.lt_of_lt_of_le hj (by decide +kernel)) (by simp)).trans (hF j (Nat.lt_of_lt_of_le hj (by decide)))
  · exact hd_gi (x := .inr (.inl 69)) (by decide +kernel) b69
  · exact hd_gi (x := .inr (.inl 70)) (by decide +kernel) b70
  · exact hd_gi (x := .inr (.inl 72)) (by decide +kernel) b72
  · exact hd_gi (x := .inr (.inl 82)) (by decide +kernel) t82
theorem yca_22_p10 {Ls : Nat} {xs : Nat → Int32} {d : Nat} {Q : Option Value → jm_h → Prop} (hd : 2 ≤ d) (F : Nat → sy_d) (X1 X2 : List jm_c) (hB : iv_in F iv_B4)
    (h0 : 0 ≤ (sy_i F 11).toInt ∧ (sy_i F 11).toInt < 2)
    (h1 : (sy_i F 72).toInt < ((sy_ai F 35).getD (sy_i F 11).toNatClampNeg 0).toInt)
    (h2 : 0 ≤ (((49 : Int32)) + (sy_i F 72)).toInt ∧ (((49 : Int32)) + (sy_i F 72)).toInt < 61)
    (h3 : ((sy_ai F 55).getD (((49 : Int32)) + (sy_i F 72)).toNatClampNeg 0).toInt < (sy_i F 70).toInt)
    (h4 : 0 ≤ ((((4 : Int32)) * (sy_i F 11)) + (sy_i F 72)).toInt ∧ ((((4 : Int32)) * (sy_i F 11)) + (sy_i F 72)).toInt < 8)
    (h5 : ((sy_i F 70) - ((sy_ai F 55).getD (((49 : Int32)) + (sy_i F 72)).toNatClampNeg 0)).toInt ≤ ((sy_ai F 37).getD ((((4 : Int32)) * (sy_i F 11)) + (sy_i F 72)).toNatClampNeg 0).toInt)
    (h6 : 0 ≤ (((53 : Int32)) + (sy_i F 72)).toInt ∧ (((53 : Int32)) + (sy_i F 72)).toInt < 61)
    (h7 : (sy_i F 69).toInt ≤ ((sy_ai F 55).getD (((53 : Int32)) + (sy_i F 72)).toNatClampNeg 0).toInt)
    (h8 : 0 ≤ (sy_i F 71).toInt)
    (h9 : 0 ≤ (((49 : Int32)) + (sy_i F 71)).toInt ∧ (((49 : Int32)) + (sy_i F 71)).toInt < 61)
    (h10 : (sy_i F 70).toInt ≤ ((sy_ai F 55).getD (((49 : Int32)) + (sy_i F 71)).toNatClampNeg 0).toInt)
    (h11 : (((sy_ai F 55).getD (((49 : Int32)) + (sy_i F 71)).toNatClampNeg 0) - (sy_i F 70)).toInt ≤ ((sy_i F 70) - ((sy_ai F 55).getD (((49 : Int32)) + (sy_i F 72)).toNatClampNeg 0)).toInt)
    (k : ∀ F1 : Nat → sy_d, (∀ j, j < 69 → True → F1 j = F j) → F1 69 = .inl (.int (sy_i F 69)) → F1 70 = .inl (.int (sy_i F 70)) → F1 71 = .inl (.int (sy_i F 71)) → F1 72 = .inl (.int ((sy_i F 72) + ((1 : Int32)))) → hd_W Ls xs d jm_M187 Q (22, sy_dL F1 [some (.inl (.ref 1000)), none, some (.inr (.inl 69)), some (.inr (.inl 70)), some (.inr (.inl 71)), some (.inr (.inl 72)), none], sy_dS F1 [], sy_dh F1 X1 X2 (iv_H 4), 0, 0)) :
    hd_W Ls xs d jm_M187 Q (22, sy_dL F [some (.inl (.ref 1000)), none, some (.inr (.inl 69)), some (.inr (.inl 70)), some (.inr (.inl 71)), some (.inr (.inl 72)), none], sy_dS F [], sy_dh F X1 X2 (iv_H 4), 0, 0) := by
  refine hd_run (s := 4) (nv := 73) (pc := 22) (L := [some (.inl (.ref 1000)), none, some (.inr (.inl 69)), some (.inr (.inl 70)), some (.inr (.inl 71)), some (.inr (.inl 72)), none]) (S := []) (uh := hd_ov (iv_id 0 iv_B4) []) (ul := [.inl (.inr (.inl 69)), .inl (.inr (.inl 70)), .inl (.inr (.inl 71)), .inl (.inr (.inl 85))]) (f := true) (sp := [22]) (d0 := 1) (O := [false, false, false, true, false, true, true]) (T := [(30, [.inr (.inl 11)], [.inr (.inl 35)]), (0, [.inl (.int 49), .inr (.inl 72)], []), (30, [.inr (.inl 74)], [.inr (.inl 55)]), (1, [.inr (.inl 70), .inr (.inl 75)], []), (2, [.inl (.int 4), .inr (.inl 11)], []), (0, [.inr (.inl 77), .inr (.inl 72)], []), (30, [.inr (.inl 78)], [.inr (.inl 37)]), (0, [.inl (.int 53), .inr (.inl 72)], []), (30, [.inr (.inl 80)], [.inr (.inl 55)]), (0, [.inl (.int 49), .inr (.inl 71)], []), (30, [.inr (.inl 82)], [.inr (.inl 55)]), (1, [.inr (.inl 83), .inr (.inl 70)], []), (0, [.inr (.inl 72), .inl (.int 1)], [])]) (P := [(6, .inr (.inl 11), .inl (.ref 2)), (5, .inr (.inl 73), .inr (.inl 72)), (6, .inr (.inl 74), .inl (.ref 61)), (5, .inr (.inl 70), .inr (.inl 75)), (6, .inr (.inl 78), .inl (.ref 8)), (3, .inr (.inl 79), .inr (.inl 76)), (6, .inr (.inl 80), .inl (.ref 61)), (4, .inr (.inl 69), .inr (.inl 81)), (3, .inr (.inl 71), .inl (.int 0)), (6, .inr (.inl 82), .inl (.ref 61)), (4, .inr (.inl 70), .inr (.inl 83)), (4, .inr (.inl 84), .inr (.inl 76))]) jm_ok187 (by decide +kernel) (by decide +kernel) hd F X1 X2 (fun F' hF hs => ?_)
  have b11 := hd_b (F := F) (F' := F') (k := 11) (hF 11 (by decide))
  have a35 := hd_ba (F := F) (F' := F') (k := 35) (hF 35 (by decide))
  have t73 : sy_dv F' (.inr (.inl 73)) = .int ((sy_ai F 35).getD (sy_i F 11).toNatClampNeg 0) := hd_rd (hs 0 _ rfl) b11 a35
  have b72 := hd_b (F := F) (F' := F') (k := 72) (hF 72 (by decide))
  have t74 : sy_dv F' (.inr (.inl 74)) = .int (((49 : Int32)) + (sy_i F 72)) := hd_o (hs 1 _ rfl) rfl b72 rfl
  have b70 := hd_b (F := F) (F' := F') (k := 70) (hF 70 (by decide))
  have a55 := hd_ba (F := F) (F' := F') (k := 55) (hF 55 (by decide))
  have t75 : sy_dv F' (.inr (.inl 75)) = .int ((sy_ai F 55).getD (((49 : Int32)) + (sy_i F 72)).toNatClampNeg 0) := hd_rd (hs 2 _ rfl) t74 a55
  have t77 : sy_dv F' (.inr (.inl 77)) = .int (((4 : Int32)) * (sy_i F 11)) := hd_o (hs 4 _ rfl) rfl b11 rfl
  have t78 : sy_dv F' (.inr (.inl 78)) = .int ((((4 : Int32)) * (sy_i F 11)) + (sy_i F 72)) := hd_o (hs 5 _ rfl) t77 b72 rfl
  have a37 := hd_ba (F := F) (F' := F') (k := 37) (hF 37 (by decide))
  have t79 : sy_dv F' (.inr (.inl 79)) = .int ((sy_ai F 37).getD ((((4 : Int32)) * (sy_i F 11)) + (sy_i F 72)).toNatClampNeg 0) := hd_rd (hs 6 _ rfl) t78 a37
  have t76 : sy_dv F' (.inr (.inl 76)) = .int ((sy_i F 70) - ((sy_ai F 55).getD (((49 : Int32)) + (sy_i F 72)).toNatClampNeg 0)) := hd_o (hs 3 _ rfl) b70 t75 rfl
  have t80 : sy_dv F' (.inr (.inl 80)) = .int (((53 : Int32)) + (sy_i F 72)) := hd_o (hs 7 _ rfl) rfl b72 rfl
  have b69 := hd_b (F := F) (F' := F') (k := 69) (hF 69 (by decide))
  have t81 : sy_dv F' (.inr (.inl 81)) = .int ((sy_ai F 55).getD (((53 : Int32)) + (sy_i F 72)).toNatClampNeg 0) := hd_rd (hs 8 _ rfl) t80 a55
  have b71 := hd_b (F := F) (F' := F') (k := 71) (hF 71 (by decide))
  have t82 : sy_dv F' (.inr (.inl 82)) = .int (((49 : Int32)) + (sy_i F 71)) := hd_o (hs 9 _ rfl) rfl b71 rfl
  have t83 : sy_dv F' (.inr (.inl 83)) = .int ((sy_ai F 55).getD (((49 : Int32)) + (sy_i F 71)).toNatClampNeg 0) := hd_rd (hs 10 _ rfl) t82 a55
  have t84 : sy_dv F' (.inr (.inl 84)) = .int (((sy_ai F 55).getD (((49 : Int32)) + (sy_i F 71)).toNatClampNeg 0) - (sy_i F 70)) := hd_o (hs 11 _ rfl) t83 b70 rfl
  have t85 : sy_dv F' (.inr (.inl 85)) = .int ((sy_i F 72) + ((1 : Int32))) := hd_o (hs 12 _ rfl) b72 rfl rfl
  have hB' : iv_in F' iv_B4 := iv_in_eq hB (fun j hj => hF j (Nat.lt_of_lt_of_le hj (by decide +kernel)))
  refine ⟨List.forall_mem_cons.mpr ⟨hd_pb b11 (by first | exact h0 | exact h0), List.forall_mem_cons.mpr ⟨hd_p5 t73 b72 h1, List.forall_mem_cons.mpr ⟨hd_pb t74 (by first | exact h2 | exact h2), List.forall_mem_cons.mpr ⟨hd_p5 b70 t75 h3, List.forall_mem_cons.mpr ⟨hd_pb t78 (by first | exact h4 | exact h4), List.forall_mem_cons.mpr ⟨hd_p3 t79 t76 h5, List.forall_mem_cons.mpr ⟨hd_pb t80 (by first | exact h6 | exact h6), List.forall_mem_cons.mpr ⟨hd_p4 b69 t81 h7, List.forall_mem_cons.mpr ⟨hd_p3 b71 rfl (by have hc : ((0) : Int32).toInt = 0 := (by decide); omega), List.forall_mem_cons.mpr ⟨hd_pb t82 (by first | exact h9 | exact h9), List.forall_mem_cons.mpr ⟨hd_p4 b70 t83 h10, List.forall_mem_cons.mpr ⟨hd_p4 t84 t76 h11, fun _ h => absurd h List.not_mem_nil⟩⟩⟩⟩⟩⟩⟩⟩⟩⟩⟩⟩, ?_⟩
  refine k _ ?_ ?_ ?_ ?_ ?_
  · exact fun j hj _ => (hd_keep hB' (Nat.lt_of_lt_of_le hj (by decide +kernel)) (by simp)).trans (hF j (Nat.lt_of_lt_of_le hj (by decide)))
  · exact hd_gi (x := .inr (.inl 69)) (by decide +kernel) b69
  · exact hd_gi (x := .inr (.inl 70)) (by decide +kernel) b70
  · exact hd_gi (x := .inr (.inl 71)) (by decide +kernel) b71
  · exact hd_gi (x := .inr (.inl 85)) (by decide +kernel) t85
theorem yca_22_p11 {Ls : Nat} {xs : Nat → Int32} {d : Nat} {Q : Option Value → jm_h → Prop} (hd : 2 ≤ d) (F : Nat → sy_d) (X1 X2 : List jm_c) (hB : iv_in F iv_B4)
    (h0 : 0 ≤ (sy_i F 11).toInt ∧ (sy_i F 11).toInt < 2)
    (h1 : (sy_i F 72).toInt < ((sy_ai F 35).getD (sy_i F 11).toNatClampNeg 0).toInt)
    (h2 : 0 ≤ (((49 : Int32)) + (sy_i F 72)).toInt ∧ (((49 : Int32)) + (sy_i F 72)).toInt < 61)
    (h3 : ((sy_ai F 55).getD (((49 : Int32)) + (sy_i F 72)).toNatClampNeg 0).toInt < (sy_i F 70).toInt)
    (h4 : 0 ≤ ((((4 : Int32)) * (sy_i F 11)) + (sy_i F 72)).toInt ∧ ((((4 : Int32)) * (sy_i F 11)) + (sy_i F 72)).toInt < 8)
    (h5 : ((sy_i F 70) - ((sy_ai F 55).getD (((49 : Int32)) + (sy_i F 72)).toNatClampNeg 0)).toInt ≤ ((sy_ai F 37).getD ((((4 : Int32)) * (sy_i F 11)) + (sy_i F 72)).toNatClampNeg 0).toInt)
    (h6 : 0 ≤ (((53 : Int32)) + (sy_i F 72)).toInt ∧ (((53 : Int32)) + (sy_i F 72)).toInt < 61)
    (h7 : (sy_i F 69).toInt ≤ ((sy_ai F 55).getD (((53 : Int32)) + (sy_i F 72)).toNatClampNeg 0).toInt)
    (h8 : 0 ≤ (sy_i F 71).toInt)
    (h9 : 0 ≤ (((49 : Int32)) + (sy_i F 71)).toInt ∧ (((49 : Int32)) + (sy_i F 71)).toInt < 61)
    (h10 : (sy_i F 70).toInt ≤ ((sy_ai F 55).getD (((49 : Int32)) + (sy_i F 71)).toNatClampNeg 0).toInt)
    (h11 : ((sy_i F 70) - ((sy_ai F 55).getD (((49 : Int32)) + (sy_i F 72)).toNatClampNeg 0)).toInt < (((sy_ai F 55).getD (((49 : Int32)) + (sy_i F 71)).toNatClampNeg 0) - (sy_i F 70)).toInt)
    (k : ∀ F1 : Nat → sy_d, (∀ j, j < 69 → True → F1 j = F j) → F1 69 = .inl (.int (sy_i F 69)) → F1 70 = .inl (.int (sy_i F 70)) → F1 71 = .inl (.int (sy_i F 72)) → F1 72 = .inl (.int ((sy_i F 72) + ((1 : Int32)))) → hd_W Ls xs d jm_M187 Q (22, sy_dL F1 [some (.inl (.ref 1000)), none, some (.inr (.inl 69)), some (.inr (.inl 70)), some (.inr (.inl 71)), some (.inr (.inl 72)), none], sy_dS F1 [], sy_dh F1 X1 X2 (iv_H 4), 0, 0)) :
    hd_W Ls xs d jm_M187 Q (22, sy_dL F [some (.inl (.ref 1000)), none, some (.inr (.inl 69)), some (.inr (.inl 70)), some (.inr (.inl 71)), some (.inr (.inl 72)), none], sy_dS F [], sy_dh F X1 X2 (iv_H 4), 0, 0) := by
  refine hd_run (s := 4) (nv := 73) (pc := 22) (L := [some (.inl (.ref 1000)), none, some (.inr (.inl 69)), some (.inr (.inl 70)), some (.inr (.inl 71)), some (.inr (.inl 72)), none]) (S := []) (uh := hd_ov (iv_id 0 iv_B4) []) (ul := [.inl (.inr (.inl 69)), .inl (.inr (.inl 70)), .inl (.inr (.inl 72)), .inl (.inr (.inl 85))]) (f := true) (sp := [22]) (d0 := 1) (O := [false, false, false, true, false, true, false]) (T := [(30, [.inr (.inl 11)], [.inr (.inl 35)]), (0, [.inl (.int 49), .inr (.inl 72)], []), (30, [.inr (.inl 74)], [.inr (.inl 55)]), (1, [.inr (.inl 70), .inr (.inl 75)], []), (2, [.inl (.int 4), .inr (.inl 11)], []), (0, [.inr (.inl 77), .inr (.inl 72)], []), (30, [.inr (.inl 78)], [.inr (.inl 37)]), (0, [.inl (.int 53), .inr (.inl 72)], []), (30, [.inr (.inl 80)], [.inr (.inl 55)]), (0, [.inl (.int 49), .inr (.inl 71)], []), (30, [.inr (.inl 82)], [.inr (.inl 55)]), (1, [.inr (.inl 83), .inr (.inl 70)], []), (0, [.inr (.inl 72), .inl (.int 1)], [])]) (P := [(6, .inr (.inl 11), .inl (.ref 2)), (5, .inr (.inl 73), .inr (.inl 72)), (6, .inr (.inl 74), .inl (.ref 61)), (5, .inr (.inl 70), .inr (.inl 75)), (6, .inr (.inl 78), .inl (.ref 8)), (3, .inr (.inl 79), .inr (.inl 76)), (6, .inr (.inl 80), .inl (.ref 61)), (4, .inr (.inl 69), .inr (.inl 81)), (3, .inr (.inl 71), .inl (.int 0)), (6, .inr (.inl 82), .inl (.ref 61)), (4, .inr (.inl 70), .inr (.inl 83)), (5, .inr (.inl 84), .inr (.inl 76))]) jm_ok187 (by decide +kernel) (by decide +kernel) hd F X1 X2 (fun F' hF hs => ?_)
  have b11 := hd_b (F := F) (F' := F') (k := 11) (hF 11 (by decide))
  have a35 := hd_ba (F := F) (F' := F') (k := 35) (hF 35 (by decide))
  have t73 : sy_dv F' (.inr (.inl 73)) = .int ((sy_ai F 35).getD (sy_i F 11).toNatClampNeg 0) := hd_rd (hs 0 _ rfl) b11 a35
  have b72 := hd_b (F := F) (F' := F') (k := 72) (hF 72 (by decide))
  have t74 : sy_dv F' (.inr (.inl 74)) = .int (((49 : Int32)) + (sy_i F 72)) := hd_o (hs 1 _ rfl) rfl b72 rfl
  have b70 := hd_b (F := F) (F' := F') (k := 70) (hF 70 (by decide))
  have a55 := hd_ba (F := F) (F' := F') (k := 55) (hF 55 (by decide))
  have t75 : sy_dv F' (.inr (.inl 75)) = .int ((sy_ai F 55).getD (((49 : Int32)) + (sy_i F 72)).toNatClampNeg 0) := hd_rd (hs 2 _ rfl) t74 a55
  have t77 : sy_dv F' (.inr (.inl 77)) = .int (((4 : Int32)) * (sy_i F 11)) := hd_o (hs 4 _ rfl) rfl b11 rfl
  have t78 : sy_dv F' (.inr (.inl 78)) = .int ((((4 : Int32)) * (sy_i F 11)) + (sy_i F 72)) := hd_o (hs 5 _ rfl) t77 b72 rfl
  have a37 := hd_ba (F := F) (F' := F') (k := 37) (hF 37 (by decide))
  have t79 : sy_dv F' (.inr (.inl 79)) = .int ((sy_ai F 37).getD ((((4 : Int32)) * (sy_i F 11)) + (sy_i F 72)).toNatClampNeg 0) := hd_rd (hs 6 _ rfl) t78 a37
  have t76 : sy_dv F' (.inr (.inl 76)) = .int ((sy_i F 70) - ((sy_ai F 55).getD (((49 : Int32)) + (sy_i F 72)).toNatClampNeg 0)) := hd_o (hs 3 _ rfl) b70 t75 rfl
  have t80 : sy_dv F' (.inr (.inl 80)) = .int (((53 : Int32)) + (sy_i F 72)) := hd_o (hs 7 _ rfl) rfl b72 rfl
  have b69 := hd_b (F := F) (F' := F') (k := 69) (hF 69 (by decide))
  have t81 : sy_dv F' (.inr (.inl 81)) = .int ((sy_ai F 55).getD (((53 : Int32)) + (sy_i F 72)).toNatClampNeg 0) := hd_rd (hs 8 _ rfl) t80 a55
  have b71 := hd_b (F := F) (F' := F') (k := 71) (hF 71 (by decide))
  have t82 : sy_dv F' (.inr (.inl 82)) = .int (((49 : Int32)) + (sy_i F 71)) := hd_o (hs 9 _ rfl) rfl b71 rfl
  have t83 : sy_dv F' (.inr (.inl 83)) = .int ((sy_ai F 55).getD (((49 : Int32)) + (sy_i F 71)).toNatClampNeg 0) := hd_rd (hs 10 _ rfl) t82 a55
  have t84 : sy_dv F' (.inr (.inl 84)) = .int (((sy_ai F 55).getD (((49 : Int32)) + (sy_i F 71)).toNatClampNeg 0) - (sy_i F 70)) := hd_o (hs 11 _ rfl) t83 b70 rfl
  have t85 : sy_dv F' (.inr (.inl 85)) = .int ((sy_i F 72) + ((1 : Int32))) := hd_o (hs 12 _ rfl) b72 rfl rfl
  have hB' : iv_in F' iv_B4 := iv_in_eq hB (fun j hj => hF j (Nat.lt_of_lt_of_le hj (by decide +kernel)))
  refine ⟨List.forall_mem_cons.mpr ⟨hd_pb b11 (by first | exact h0 | exact h0), List.forall_mem_cons.mpr ⟨hd_p5 t73 b72 h1, List.forall_mem_cons.mpr ⟨hd_pb t74 (by first | exact h2 | exact h2), List.forall_mem_cons.mpr ⟨hd_p5 b70 t75 h3, List.forall_mem_cons.mpr ⟨hd_pb t78 (by first | exact h4 | exact h4), List.forall_mem_cons.mpr ⟨hd_p3 t79 t76 h5, List.forall_mem_cons.mpr ⟨hd_pb t80 (by first | exact h6 | exact h6), List.forall_mem_cons.mpr ⟨hd_p4 b69 t81 h7, List.forall_mem_cons.mpr ⟨hd_p3 b71 rfl (by have hc : ((0) : Int32).toInt = 0 := (by decide); omega), List.forall_mem_cons.mpr ⟨hd_pb t82 (by first | exact h9 | exact h9), List.forall_mem_cons.mpr ⟨hd_p4 b70 t83 h10, List.forall_mem_cons.mpr ⟨hd_p5 t84 t76 h11, fun _ h => absurd h List.not_mem_nil⟩⟩⟩⟩⟩⟩⟩⟩⟩⟩⟩⟩, ?_⟩
  refine k _ ?_ ?_ ?_ ?_ ?_
  · exact fun j hj _ => (hd_keep hB' (Nat.lt_of_lt_of_le hj (by decide +kernel)) (by simp)).trans (hF j (Nat.lt_of_lt_of_le hj (by decide)))
  · exact hd_gi (x := .inr (.inl 69)) (by decide +kernel) b69
  · exact hd_gi (x := .inr (.inl 70)) (by decide +kernel) b70
  · exact hd_gi (x := .inr (.inl 72)) (by decide +kernel) b72
  · exact hd_gi (x := .inr (.inl 85)) (by decide +kernel) t85
theorem yca_22_p12 {Ls : Nat} {xs : Nat → Int32} {d : Nat} {Q : Option Value → jm_h → Prop} (hd : 2 ≤ d) (F : Nat → sy_d) (X1 X2 : List jm_c) (hB : iv_in F iv_B4)
    (h0 : 0 ≤ (sy_i F 11).toInt ∧ (sy_i F 11).toInt < 2)
    (h1 : (sy_i F 72).toInt < ((sy_ai F 35).getD (sy_i F 11).toNatClampNeg 0).toInt)
    (h2 : 0 ≤ (((49 : Int32)) + (sy_i F 72)).toInt ∧ (((49 : Int32)) + (sy_i F 72)).toInt < 61)
    (h3 : ((sy_ai F 55).getD (((49 : Int32)) + (sy_i F 72)).toNatClampNeg 0).toInt < (sy_i F 70).toInt)
    (h4 : 0 ≤ ((((4 : Int32)) * (sy_i F 11)) + (sy_i F 72)).toInt ∧ ((((4 : Int32)) * (sy_i F 11)) + (sy_i F 72)).toInt < 8)
    (h5 : ((sy_i F 70) - ((sy_ai F 55).getD (((49 : Int32)) + (sy_i F 72)).toNatClampNeg 0)).toInt ≤ ((sy_ai F 37).getD ((((4 : Int32)) * (sy_i F 11)) + (sy_i F 72)).toNatClampNeg 0).toInt)
    (h6 : 0 ≤ (((53 : Int32)) + (sy_i F 72)).toInt ∧ (((53 : Int32)) + (sy_i F 72)).toInt < 61)
    (h7 : (sy_i F 69).toInt ≤ ((sy_ai F 55).getD (((53 : Int32)) + (sy_i F 72)).toNatClampNeg 0).toInt)
    (h8 : 0 ≤ (sy_i F 71).toInt)
    (h9 : 0 ≤ (((49 : Int32)) + (sy_i F 71)).toInt ∧ (((49 : Int32)) + (sy_i F 71)).toInt < 61)
    (h10 : ((sy_ai F 55).getD (((49 : Int32)) + (sy_i F 71)).toNatClampNeg 0).toInt < (sy_i F 70).toInt)
    (h11 : ((sy_i F 70) - ((sy_ai F 55).getD (((49 : Int32)) + (sy_i F 71)).toNatClampNeg 0)).toInt ≤ ((sy_i F 70) - ((sy_ai F 55).getD (((49 : Int32)) + (sy_i F 72)).toNatClampNeg 0)).toInt)
    (k : ∀ F1 : Nat → sy_d, (∀ j, j < 69 → True → F1 j = F j) → F1 69 = .inl (.int (sy_i F 69)) → F1 70 = .inl (.int (sy_i F 70)) → F1 71 = .inl (.int (sy_i F 71)) → F1 72 = .inl (.int ((sy_i F 72) + ((1 : Int32)))) → hd_W Ls xs d jm_M187 Q (22, sy_dL F1 [some (.inl (.ref 1000)), none, some (.inr (.inl 69)), some (.inr (.inl 70)), some (.inr (.inl 71)), some (.inr (.inl 72)), none], sy_dS F1 [], sy_dh F1 X1 X2 (iv_H 4), 0, 0)) :
    hd_W Ls xs d jm_M187 Q (22, sy_dL F [some (.inl (.ref 1000)), none, some (.inr (.inl 69)), some (.inr (.inl 70)), some (.inr (.inl 71)), some (.inr (.inl 72)), none], sy_dS F [], sy_dh F X1 X2 (iv_H 4), 0, 0) := by
  refine hd_run (s := 4) (nv := 73) (pc := 22) (L := [some (.inl (.ref 1000)), none, some (.inr (.inl 69)), some (.inr (.inl 70)), some (.inr (.inl 71)), some (.inr (.inl 72)), none]) (S := []) (uh := hd_ov (iv_id 0 iv_B4) []) (ul := [.inl (.inr (.inl 69)), .inl (.inr (.inl 70)), .inl (.inr (.inl 71)), .inl (.inr (.inl 85))]) (f := true) (sp := [22]) (d0 := 1) (O := [false, false, false, true, false, false, true]) (T := [(30, [.inr (.inl 11)], [.inr (.inl 35)]), (0, [.inl (.int 49), .inr (.inl 72)], []), (30, [.inr (.inl 74)], [.inr (.inl 55)]), (1, [.inr (.inl 70), .inr (.inl 75)], []), (2, [.inl (.int 4), .inr (.inl 11)], []), (0, [.inr (.inl 77), .inr (.inl 72)], []), (30, [.inr (.inl 78)], [.inr (.inl 37)]), (0, [.inl (.int 53), .inr (.inl 72)], []), (30, [.inr (.inl 80)], [.inr (.inl 55)]), (0, [.inl (.int 49), .inr (.inl 71)], []), (30, [.inr (.inl 82)], [.inr (.inl 55)]), (1, [.inr (.inl 70), .inr (.inl 83)], []), (0, [.inr (.inl 72), .inl (.int 1)], [])]) (P := [(6, .inr (.inl 11), .inl (.ref 2)), (5, .inr (.inl 73), .inr (.inl 72)), (6, .inr (.inl 74), .inl (.ref 61)), (5, .inr (.inl 70), .inr (.inl 75)), (6, .inr (.inl 78), .inl (.ref 8)), (3, .inr (.inl 79), .inr (.inl 76)), (6, .inr (.inl 80), .inl (.ref 61)), (4, .inr (.inl 69), .inr (.inl 81)), (3, .inr (.inl 71), .inl (.int 0)), (6, .inr (.inl 82), .inl (.ref 61)), (5, .inr (.inl 70), .inr (.inl 83)), (4, .inr (.inl 84), .inr (.inl 76))]) jm_ok187 (by decide +kernel) (by decide +kernel) hd F X1 X2 (fun F' hF hs => ?_)
  have b11 := hd_b (F := F) (F' := F') (k := 11) (hF 11 (by decide))
  have a35 := hd_ba (F := F) (F' := F') (k := 35) (hF 35 (by decide))
  have t73 : sy_dv F' (.inr (.inl 73)) = .int ((sy_ai F 35).getD (sy_i F 11).toNatClampNeg 0) := hd_rd (hs 0 _ rfl) b11 a35
  have b72 := hd_b (F := F) (F' := F') (k := 72) (hF 72 (by decide))
  have t74 : sy_dv F' (.inr (.inl 74)) = .int (((49 : Int32)) + (sy_i F 72)) := hd_o (hs 1 _ rfl) rfl b72 rfl
  have b70 := hd_b (F := F) (F' := F') (k := 70) (hF 70 (by decide))
  have a55 := hd_ba (F := F) (F' := F') (k := 55) (hF 55 (by decide))
  have t75 : sy_dv F' (.inr (.inl 75)) = .int ((sy_ai F 55).getD (((49 : Int32)) + (sy_i F 72)).toNatClampNeg 0) := hd_rd (hs 2 _ rfl) t74 a55
  have t77 : sy_dv F' (.inr (.inl 77)) = .int (((4 : Int32)) * (sy_i F 11)) := hd_o (hs 4 _ rfl) rfl b11 rfl
  have t78 : sy_dv F' (.inr (.inl 78)) = .int ((((4 : Int32)) * (sy_i F 11)) + (sy_i F 72)) := hd_o (hs 5 _ rfl) t77 b72 rfl
  have a37 := hd_ba (F := F) (F' := F') (k := 37) (hF 37 (by decide))
  have t79 : sy_dv F' (.inr (.inl 79)) = .int ((sy_ai F 37).getD ((((4 : Int32)) * (sy_i F 11)) + (sy_i F 72)).toNatClampNeg 0) := hd_rd (hs 6 _ rfl) t78 a37
  have t76 : sy_dv F' (.inr (.inl 76)) = .int ((sy_i F 70) - ((sy_ai F 55).getD (((49 : Int32)) + (sy_i F 72)).toNatClampNeg 0)) := hd_o (hs 3 _ rfl) b70 t75 rfl
  have t80 : sy_dv F' (.inr (.inl 80)) = .int (((53 : Int32)) + (sy_i F 72)) := hd_o (hs 7 _ rfl) rfl b72 rfl
  have b69 := hd_b (F := F) (F' := F') (k := 69) (hF 69 (by decide))
  have t81 : sy_dv F' (.inr (.inl 81)) = .int ((sy_ai F 55).getD (((53 : Int32)) + (sy_i F 72)).toNatClampNeg 0) := hd_rd (hs 8 _ rfl) t80 a55
  have b71 := hd_b (F := F) (F' := F') (k := 71) (hF 71 (by decide))
  have t82 : sy_dv F' (.inr (.inl 82)) = .int (((49 : Int32)) + (sy_i F 71)) := hd_o (hs 9 _ rfl) rfl b71 rfl
  have t83 : sy_dv F' (.inr (.inl 83)) = .int ((sy_ai F 55).getD (((49 : Int32)) + (sy_i F 71)).toNatClampNeg 0) := hd_rd (hs 10 _ rfl) t82 a55
  have t84 : sy_dv F' (.inr (.inl 84)) = .int ((sy_i F 70) - ((sy_ai F 55).getD (((49 : Int32)) + (sy_i F 71)).toNatClampNeg 0)) := hd_o (hs 11 _ rfl) b70 t83 rfl
  have t85 : sy_dv F' (.inr (.inl 85)) = .int ((sy_i F 72) + ((1 : Int32))) := hd_o (hs 12 _ rfl) b72 rfl rfl
  have hB' : iv_in F' iv_B4 := iv_in_eq hB (fun j hj => hF j (Nat.lt_of_lt_of_le hj (by decide +kernel)))
  refine ⟨List.forall_mem_cons.mpr ⟨hd_pb b11 (by first | exact h0 | exact h0), List.forall_mem_cons.mpr ⟨hd_p5 t73 b72 h1, List.forall_mem_cons.mpr ⟨hd_pb t74 (by first | exact h2 | exact h2), List.forall_mem_cons.mpr ⟨hd_p5 b70 t75 h3, List.forall_mem_cons.mpr ⟨hd_pb t78 (by first | exact h4 | exact h4), List.forall_mem_cons.mpr ⟨hd_p3 t79 t76 h5, List.forall_mem_cons.mpr ⟨hd_pb t80 (by first | exact h6 | exact h6), List.forall_mem_cons.mpr ⟨hd_p4 b69 t81 h7, List.forall_mem_cons.mpr ⟨hd_p3 b71 rfl (by have hc : ((0) : Int32).toInt = 0 := (by decide); omega), List.forall_mem_cons.mpr ⟨hd_pb t82 (by first | exact h9 | exact h9), List.forall_mem_cons.mpr ⟨hd_p5 b70 t83 h10, List.forall_mem_cons.mpr ⟨hd_p4 t84 t76 h11, fun _ h => absurd h List.not_mem_nil⟩⟩⟩⟩⟩⟩⟩⟩⟩⟩⟩⟩, ?_⟩
  refine k _ ?_ ?_ ?_ ?_ ?_
  · exact fun j hj _ => (hd_keep hB' (Nat.lt_of_lt_of_le hj (by decide +kernel)) (by simp)).trans (hF j (Nat.lt_of_lt_of_le hj (by decide)))
  · exact hd_gi (x := .inr (.inl 69)) (by decide +kernel) b69
  · exact hd_gi (x := .inr (.inl 70)) (by decide +kernel) b70
  · exact hd_gi (x := .inr (.inl 71)) (by decide +kernel) b71
  · exact hd_gi (x := .inr (.inl 85)) (by decide +kernel) t85
theorem yca_22_p13 {Ls : Nat} {xs : Nat → Int32} {d : Nat} {Q : Option Value → jm_h → Prop} (hd : 2 ≤ d) (F : Nat → sy_d) (X1 X2 : List jm_c) (hB : iv_in F iv_B4)
    (h0 : 0 ≤ (sy_i F 11).toInt ∧ (sy_i F 11).toInt < 2)
    (h1 : (sy_i F 72).toInt < ((sy_ai F 35).getD (sy_i F 11).toNatClampNeg 0).toInt)
    (h2 : 0 ≤ (((49 : Int32)) + (sy_i F 72)).toInt ∧ (((49 : Int32)) + (sy_i F 72)).toInt < 61)
    (h3 : ((sy_ai F 55).getD (((49 : Int32)) + (sy_i F 72)).toNatClampNeg 0).toInt < (sy_i F 70).toInt)
    (h4 : 0 ≤ ((((4 : Int32)) * (sy_i F 11)) + (sy_i F 72)).toInt ∧ ((((4 : Int32)) * (sy_i F 11)) + (sy_i F 72)).toInt < 8)
    (h5 : ((sy_i F 70) - ((sy_ai F 55).getD (((49 : Int32)) + (sy_i F 72)).toNatClampNeg 0)).toInt ≤ ((sy_ai F 37).getD ((((4 : Int32)) * (sy_i F 11)) + (sy_i F 72)).toNatClampNeg 0).toInt)
    (h6 : 0 ≤ (((53 : Int32)) + (sy_i F 72)).toInt ∧ (((53 : Int32)) + (sy_i F 72)).toInt < 61)
    (h7 : (sy_i F 69).toInt ≤ ((sy_ai F 55).getD (((53 : Int32)) + (sy_i F 72)).toNatClampNeg 0).toInt)
    (h8 : 0 ≤ (sy_i F 71).toInt)
    (h9 : 0 ≤ (((49 : Int32)) + (sy_i F 71)).toInt ∧ (((49 : Int32)) + (sy_i F 71)).toInt < 61)
    (h10 : ((sy_ai F 55).getD (((49 : Int32)) + (sy_i F 71)).toNatClampNeg 0).toInt < (sy_i F 70).toInt)
    (h11 : ((sy_i F 70) - ((sy_ai F 55).getD (((49 : Int32)) + (sy_i F 72)).toNatClampNeg 0)).toInt < ((sy_i F 70) - ((sy_ai F 55).getD (((49 : Int32)) + (sy_i F 71)).toNatClampNeg 0)).toInt)
    (k : ∀ F1 : Nat → sy_d, (∀ j, j < 69 → True → F1 j = F j) → F1 69 = .inl (.int (sy_i F 69)) → F1 70 = .inl (.int (sy_i F 70)) → F1 71 = .inl (.int (sy_i F 72)) → F1 72 = .inl (.int ((sy_i F 72) + ((1 : Int32)))) → hd_W Ls xs d jm_M187 Q (22, sy_dL F1 [some (.inl (.ref 1000)), none, some (.inr (.inl 69)), some (.inr (.inl 70)), some (.inr (.inl 71)), some (.inr (.inl 72)), none], sy_dS F1 [], sy_dh F1 X1 X2 (iv_H 4), 0, 0)) :
    hd_W Ls xs d jm_M187 Q (22, sy_dL F [some (.inl (.ref 1000)), none, some (.inr (.inl 69)), some (.inr (.inl 70)), some (.inr (.inl 71)), some (.inr (.inl 72)), none], sy_dS F [], sy_dh F X1 X2 (iv_H 4), 0, 0) := by
  refine hd_run (s := 4) (nv := 73) (pc := 22) (L := [some (.inl (.ref 1000)), none, some (.inr (.inl 69)), some (.inr (.inl 70)), some (.inr (.inl 71)), some (.inr (.inl 72)), none]) (S := []) (uh := hd_ov (iv_id 0 iv_B4) []) (ul := [.inl (.inr (.inl 69)), .inl (.inr (.inl 70)), .inl (.inr (.inl 72)), .inl (.inr (.inl 85))]) (f := true) (sp := [22]) (d0 := 1) (O := [false, false, false, true, false, false, false]) (T := [(30, [.inr (.inl 11)], [.inr (.inl 35)]), (0, [.inl (.int 49), .inr (.inl 72)], []), (30, [.inr (.inl 74)], [.inr (.inl 55)]), (1, [.inr (.inl 70), .inr (.inl 75)], []), (2, [.inl (.int 4), .inr (.inl 11)], []), (0, [.inr (.inl 77), .inr (.inl 72)], []), (30, [.inr (.inl 78)], [.inr (.inl 37)]), (0, [.inl (.int 53), .inr (.inl 72)], []), (30, [.inr (.inl 80)], [.inr (.inl 55)]), (0, [.inl (.int 49), .inr (.inl 71)], []), (30, [.inr (.inl 82)], [.inr (.inl 55)]), (1, [.inr (.inl 70), .inr (.inl 83)], []), (0, [.inr (.inl 72), .inl (.int 1)], [])]) (P := [(6, .inr (.inl 11), .inl (.ref 2)), (5, .inr (.inl 73), .inr (.inl 72)), (6, .inr (.inl 74), .inl (.ref 61)), (5, .inr (.inl 70), .inr (.inl 75)), (6, .inr (.inl 78), .inl (.ref 8)), (3, .inr (.inl 79), .inr (.inl 76)), (6, .inr (.inl 80), .inl (.ref 61)), (4, .inr (.inl 69), .inr (.inl 81)), (3, .inr (.inl 71), .inl (.int 0)), (6, .inr (.inl 82), .inl (.ref 61)), (5, .inr (.inl 70), .inr (.inl 83)), (5, .inr (.inl 84), .inr (.inl 76))]) jm_ok187 (by decide +kernel) (by decide +kernel) hd F X1 X2 (fun F' hF hs => ?_)
  have b11 := hd_b (F := F) (F' := F') (k := 11) (hF 11 (by decide))
  have a35 := hd_ba (F := F) (F' := F') (k := 35) (hF 35 (by decide))
  have t73 : sy_dv F' (.inr (.inl 73)) = .int ((sy_ai F 35).getD (sy_i F 11).toNatClampNeg 0) := hd_rd (hs 0 _ rfl) b11 a35
  have b72 := hd_b (F := F) (F' := F') (k := 72) (hF 72 (by decide))
  have t74 : sy_dv F' (.inr (.inl 74)) = .int (((49 : Int32)) + (sy_i F 72)) := hd_o (hs 1 _ rfl) rfl b72 rfl
  have b70 := hd_b (F := F) (F' := F') (k := 70) (hF 70 (by decide))
  have a55 := hd_ba (F := F) (F' := F') (k := 55) (hF 55 (by decide))
  have t75 : sy_dv F' (.inr (.inl 75)) = .int ((sy_ai F 55).getD (((49 : Int32)) + (sy_i F 72)).toNatClampNeg 0) := hd_rd (hs 2 _ rfl) t74 a55
  have t77 : sy_dv F' (.inr (.inl 77)) = .int (((4 : Int32)) * (sy_i F 11)) := hd_o (hs 4 _ rfl) rfl b11 rfl
  have t78 : sy_dv F' (.inr (.inl 78)) = .int ((((4 : Int32)) * (sy_i F 11)) + (sy_i F 72)) := hd_o (hs 5 _ rfl) t77 b72 rfl
  have a37 := hd_ba (F := F) (F' := F') (k := 37) (hF 37 (by decide))
  have t79 : sy_dv F' (.inr (.inl 79)) = .int ((sy_ai F 37).getD ((((4 : Int32)) * (sy_i F 11)) + (sy_i F 72)).toNatClampNeg 0) := hd_rd (hs 6 _ rfl) t78 a37
  have t76 : sy_dv F' (.inr (.inl 76)) = .int ((sy_i F 70) - ((sy_ai F 55).getD (((49 : Int32)) + (sy_i F 72)).toNatClampNeg 0)) := hd_o (hs 3 _ rfl) b70 t75 rfl
  have t80 : sy_dv F' (.inr (.inl 80)) = .int (((53 : Int32)) + (sy_i F 72)) := hd_o (hs 7 _ rfl) rfl b72 rfl
  have b69 := hd_b (F := F) (F' := F') (k := 69) (hF 69 (by decide))
  have t81 : sy_dv F' (.inr (.inl 81)) = .int ((sy_ai F 55).getD (((53 : Int32)) + (sy_i F 72)).toNatClampNeg 0) := hd_rd (hs 8 _ rfl) t80 a55
  have b71 := hd_b (F := F) (F' := F') (k := 71) (hF 71 (by decide))
  have t82 : sy_dv F' (.inr (.inl 82)) = .int (((49 : Int32)) + (sy_i F 71)) := hd_o (hs 9 _ rfl) rfl b71 rfl
  have t83 : sy_dv F' (.inr (.inl 83)) = .int ((sy_ai F 55).getD (((49 : Int32)) + (sy_i F 71)).toNatClampNeg 0) := hd_rd (hs 10 _ rfl) t82 a55
  have t84 : sy_dv F' (.inr (.inl 84)) = .int ((sy_i F 70) - ((sy_ai F 55).getD (((49 : Int32)) + (sy_i F 71)).toNatClampNeg 0)) := hd_o (hs 11 _ rfl) b70 t83 rfl
  have t85 : sy_dv F' (.inr (.inl 85)) = .int ((sy_i F 72) + ((1 : Int32))) := hd_o (hs 12 _ rfl) b72 rfl rfl
  have hB' : iv_in F' iv_B4 := iv_in_eq hB (fun j hj => hF j (Nat.lt_of_lt_of_le hj (by decide +kernel)))
  refine ⟨List.forall_mem_cons.mpr ⟨hd_pb b11 (by first | exact h0 | exact h0), List.forall_mem_cons.mpr ⟨hd_p5 t73 b72 h1, List.forall_mem_cons.mpr ⟨hd_pb t74 (by first | exact h2 | exact h2), List.forall_mem_cons.mpr ⟨hd_p5 b70 t75 h3, List.forall_mem_cons.mpr ⟨hd_pb t78 (by first | exact h4 | exact h4), List.forall_mem_cons.mpr ⟨hd_p3 t79 t76 h5, List.forall_mem_cons.mpr ⟨hd_pb t80 (by first | exact h6 | exact h6), List.forall_mem_cons.mpr ⟨hd_p4 b69 t81 h7, List.forall_mem_cons.mpr ⟨hd_p3 b71 rfl (by have hc : ((0) : Int32).toInt = 0 := (by decide); omega), List.forall_mem_cons.mpr ⟨hd_pb t82 (by first | exact h9 | exact h9), List.forall_mem_cons.mpr ⟨hd_p5 b70 t83 h10, List.forall_mem_cons.mpr ⟨hd_p5 t84 t76 h11, fun _ h => absurd h List.not_mem_nil⟩⟩⟩⟩⟩⟩⟩⟩⟩⟩⟩⟩, ?_⟩
  refine k _ ?_ ?_ ?_ ?_ ?_
  · exact fun j hj _ => (hd_keep hB' (Nat.lt_of_lt_of_le hj (by decide +kernel)) (by simp)).trans (hF j (Nat.lt_of_lt_of_le hj (by decide)))
  · exact hd_gi (x := .inr (.inl 69)) (by decide +kernel) b69
  · exact hd_gi (x := .inr (.inl 70)) (by decide +kernel) b70
  · exact hd_gi (x := .inr (.inl 72)) (by decide +kernel) b72
  · exact hd_gi (x := .inr (.inl 85)) (by decide +kernel) t85
theorem yca_22_p14 {Ls : Nat} {xs : Nat → Int32} {d : Nat} {Q : Option Value → jm_h → Prop} (hd : 2 ≤ d) (F : Nat → sy_d) (X1 X2 : List jm_c) (hB : iv_in F iv_B4)
    (h0 : 0 ≤ (sy_i F 11).toInt ∧ (sy_i F 11).toInt < 2)
    (h1 : (sy_i F 72).toInt < ((sy_ai F 35).getD (sy_i F 11).toNatClampNeg 0).toInt)
    (h2 : 0 ≤ (((49 : Int32)) + (sy_i F 72)).toInt ∧ (((49 : Int32)) + (sy_i F 72)).toInt < 61)
    (h3 : ((sy_ai F 55).getD (((49 : Int32)) + (sy_i F 72)).toNatClampNeg 0).toInt < (sy_i F 70).toInt)
    (h4 : 0 ≤ ((((4 : Int32)) * (sy_i F 11)) + (sy_i F 72)).toInt ∧ ((((4 : Int32)) * (sy_i F 11)) + (sy_i F 72)).toInt < 8)
    (h5 : ((sy_i F 70) - ((sy_ai F 55).getD (((49 : Int32)) + (sy_i F 72)).toNatClampNeg 0)).toInt ≤ ((sy_ai F 37).getD ((((4 : Int32)) * (sy_i F 11)) + (sy_i F 72)).toNatClampNeg 0).toInt)
    (h6 : 0 ≤ (((53 : Int32)) + (sy_i F 72)).toInt ∧ (((53 : Int32)) + (sy_i F 72)).toInt < 61)
    (h7 : ((sy_ai F 55).getD (((53 : Int32)) + (sy_i F 72)).toNatClampNeg 0).toInt < (sy_i F 69).toInt)
    (k : ∀ F1 : Nat → sy_d, (∀ j, j < 69 → True → F1 j = F j) → F1 69 = .inl (.int (sy_i F 69)) → F1 70 = .inl (.int (sy_i F 70)) → F1 71 = .inl (.int (sy_i F 71)) → F1 72 = .inl (.int ((sy_i F 72) + ((1 : Int32)))) → hd_W Ls xs d jm_M187 Q (22, sy_dL F1 [some (.inl (.ref 1000)), none, some (.inr (.inl 69)), some (.inr (.inl 70)), some (.inr (.inl 71)), some (.inr (.inl 72)), none], sy_dS F1 [], sy_dh F1 X1 X2 (iv_H 4), 0, 0)) :
    hd_W Ls xs d jm_M187 Q (22, sy_dL F [some (.inl (.ref 1000)), none, some (.inr (.inl 69)), some (.inr (.inl 70)), some (.inr (.inl 71)), some (.inr (.inl 72)), none], sy_dS F [], sy_dh F X1 X2 (iv_H 4), 0, 0) := by
  refine hd_run (s := 4) (nv := 73) (pc := 22) (L := [some (.inl (.ref 1000)), none, some (.inr (.inl 69)), some (.inr (.inl 70)), some (.inr (.inl 71)), some (.inr (.inl 72)), none]) (S := []) (uh := hd_ov (iv_id 0 iv_B4) []) (ul := [.inl (.inr (.inl 69)), .inl (.inr (.inl 70)), .inl (.inr (.inl 71)), .inl (.inr (.inl 82))]) (f := true) (sp := [22]) (d0 := 1) (O := [false, false, false, false]) (T := [(30, [.inr (.inl 11)], [.inr (.inl 35)]), (0, [.inl (.int 49), .inr (.inl 72)], []), (30, [.inr (.inl 74)], [.inr (.inl 55)]), (1, [.inr (.inl 70), .inr (.inl 75)], []), (2, [.inl (.int 4), .inr (.inl 11)], []), (0, [.inr (.inl 77), .inr (.inl 72)], []), (30, [.inr (.inl 78)], [.inr (.inl 37)]), (0, [.inl (.int 53), .inr (.inl 72)], []), (30, [.inr (.inl 80)], [.inr (.inl 55)]), (0, [.inr (.inl 72), .inl (.int 1)], [])]) (P := [(6, .inr (.inl 11), .inl (.ref 2)), (5, .inr (.inl 73), .inr (.inl 72)), (6, .inr (.inl 74), .inl (.ref 61)), (5, .inr (.inl 70), .inr (.inl 75)), (6, .inr (.inl 78), .inl (.ref 8)), (3, .inr (.inl 79), .inr (.inl 76)), (6, .inr (.inl 80), .inl (.ref 61)), (5, .inr (.inl 69), .inr (.inl 81))]) jm_ok187 (by decide +kernel) (by decide +kernel) hd F X1 X2 (fun F' hF hs => ?_)
  have b11 := hd_b (F := F) (F' := F') (k := 11) (hF 11 (by decide))
  have a35 := hd_ba (F := F) (F' := F') (k := 35) (hF 35 (by decide))
  have t73 : sy_dv F' (.inr (.inl 73)) = .int ((sy_ai F 35).getD (sy_i F 11).toNatClampNeg 0) := hd_rd (hs 0 _ rfl) b11 a35
  have b72 := hd_b (F := F) (F' := F') (k := 72) (hF 72 (by decide))
  have t74 : sy_dv F' (.inr (.inl 74)) = .int (((49 : Int32)) + (sy_i F 72)) := hd_o (hs 1 _ rfl) rfl b72 rfl
  have b70 := hd_b (F := F) (F' := F') (k := 70) (hF 70 (by decide))
  have a55 := hd_ba (F := F) (F' := F') (k := 55) (hF 55 (by decide))
  have t75 : sy_dv F' (.inr (.inl 75)) = .int ((sy_ai F 55).getD (((49 : Int32)) + (sy_i F 72)).toNatClampNeg 0) := hd_rd (hs 2 _ rfl) t74 a55
  have t77 : sy_dv F' (.inr (.inl 77)) = .int (((4 : Int32)) * (sy_i F 11)) := hd_o (hs 4 _ rfl) rfl b11 rfl
  have t78 : sy_dv F' (.inr (.inl 78)) = .int ((((4 : Int32)) * (sy_i F 11)) + (sy_i F 72)) := hd_o (hs 5 _ rfl) t77 b72 rfl
  have a37 := hd_ba (F := F) (F' := F') (k := 37) (hF 37 (by decide))
  have t79 : sy_dv F' (.inr (.inl 79)) = .int ((sy_ai F 37).getD ((((4 : Int32)) * (sy_i F 11)) + (sy_i F 72)).toNatClampNeg 0) := hd_rd (hs 6 _ rfl) t78 a37
  have t76 : sy_dv F' (.inr (.inl 76)) = .int ((sy_i F 70) - ((sy_ai F 55).getD (((49 : Int32)) + (sy_i F 72)).toNatClampNeg 0)) := hd_o (hs 3 _ rfl) b70 t75 rfl
  have t80 : sy_dv F' (.inr (.inl 80)) = .int (((53 : Int32)) + (sy_i F 72)) := hd_o (hs 7 _ rfl) rfl b72 rfl
  have b69 := hd_b (F := F) (F' := F') (k := 69) (hF 69 (by decide))
  have t81 : sy_dv F' (.inr (.inl 81)) = .int ((sy_ai F 55).getD (((53 : Int32)) + (sy_i F 72)).toNatClampNeg 0) := hd_rd (hs 8 _ rfl) t80 a55
  have b71 := hd_b (F := F) (F' := F') (k := 71) (hF 71 (by decide))
  have t82 : sy_dv F' (.inr (.inl 82)) = .int ((sy_i F 72) + ((1 : Int32))) := hd_o (hs 9 _ rfl) b72 rfl rfl
  have hB' : iv_in F' iv_B4 := iv_in_eq hB (fun j hj => hF j (Nat.lt_of_lt_of_le hj (by decide +kernel)))
  refine ⟨List.forall_mem_cons.mpr ⟨hd_pb b11 (by first | exact h0 | exact h0), List.forall_mem_cons.mpr ⟨hd_p5 t73 b72 h1, List.forall_mem_cons.mpr ⟨hd_pb t74 (by first | exact h2 | exact h2), List.forall_mem_cons.mpr ⟨hd_p5 b70 t75 h3, List.forall_mem_cons.mpr ⟨hd_pb t78 (by first | exact h4 | exact h4), List.forall_mem_cons.mpr ⟨hd_p3 t79 t76 h5, List.forall_mem_cons.mpr ⟨hd_pb t80 (by first | exact h6 | exact h6), List.forall_mem_cons.mpr ⟨hd_p5 b69 t81 h7, fun _ h => absurd h List.not_mem_nil⟩⟩⟩⟩⟩⟩⟩⟩, ?_⟩
  refine k _ ?_ ?_ ?_ ?_ ?_
  · exact fun j hj _ => (hd_keep hB' (Nat.lt_of_lt_of_le hj (by decide +kernel)) (by simp)).trans (hF j (Nat.lt_of_lt_of_le hj (by decide)))
  · exact hd_gi (x := .inr (.inl 69)) (by decide +kernel) b69
  · exact hd_gi (x := .inr (.inl 70)) (by decide +kernel) b70
  · exact hd_gi (x := .inr (.inl 71)) (by decide +kernel) b71
  · exact hd_gi (x := .inr (.inl 82)) (by decide +kernel) t82
theorem yca_22 {Ls : Nat} {xs : Nat → Int32} {d : Nat} {Q : Option Value → jm_h → Prop} (hd : 2 ≤ d) (F : Nat → sy_d) (X1 X2 : List jm_c) (hB : iv_in F iv_B4)
    (a71 : (-2) ≤ (sy_i F 71).toInt ∧ (sy_i F 71).toInt ≤ 3)
    (a72 : 0 ≤ (sy_i F 72).toInt ∧ (sy_i F 72).toInt ≤ 4)
    (k0 : ((sy_ai F 35).getD ((sy_i F 11).toInt).toNat 0).toInt ≤ (sy_i F 72).toInt → ∀ F1 : Nat → sy_d, iv_in F1 iv_B4 → (∀ j, j < 69 → j ∉ ([] : List Nat) → F1 j = F j) → Q (some (.int (sy_i F 71))) (sy_dh F1 X1 X2 (iv_H 4)))
    (k1 : (sy_i F 72).toInt < ((sy_ai F 35).getD ((sy_i F 11).toInt).toNat 0).toInt → (sy_i F 70).toInt ≤ ((sy_ai F 55).getD ((49 + (sy_i F 72).toInt)).toNat 0).toInt → ((sy_ai F 37).getD (((4 * (sy_i F 11).toInt) + (sy_i F 72).toInt)).toNat 0).toInt < (((sy_ai F 55).getD ((49 + (sy_i F 72).toInt)).toNat 0) - (sy_i F 70)).toInt → ∀ F1 : Nat → sy_d, iv_in F1 iv_B4 → (∀ j, j < 69 → j ∉ ([] : List Nat) → F1 j = F j) → (sy_i F1 69).toInt = (sy_i F 69).toInt → sy_i F1 69 = sy_i F 69 → (sy_i F1 70).toInt = (sy_i F 70).toInt → sy_i F1 70 = sy_i F 70 → (sy_i F1 71).toInt = (sy_i F 71).toInt → sy_i F1 71 = sy_i F 71 → (sy_i F1 72).toInt = ((sy_i F 72).toInt + 1) → sy_i F1 72 = (sy_i F 72) + ((1 : Int32)) → hd_W Ls xs d jm_M187 Q (22, sy_dL F1 [some (.inl (.ref 1000)), none, some (.inr (.inl 69)), some (.inr (.inl 70)), some (.inr (.inl 71)), some (.inr (.inl 72)), none], sy_dS F1 [], sy_dh F1 X1 X2 (iv_H 4), 0, 0))
    (k2 : (sy_i F 72).toInt < ((sy_ai F 35).getD ((sy_i F 11).toInt).toNat 0).toInt → (sy_i F 70).toInt ≤ ((sy_ai F 55).getD ((49 + (sy_i F 72).toInt)).toNat 0).toInt → (((sy_ai F 55).getD ((49 + (sy_i F 72).toInt)).toNat 0) - (sy_i F 70)).toInt ≤ ((sy_ai F 37).getD (((4 * (sy_i F 11).toInt) + (sy_i F 72).toInt)).toNat 0).toInt → (sy_i F 69).toInt ≤ ((sy_ai F 55).getD ((53 + (sy_i F 72).toInt)).toNat 0).toInt → (sy_i F 71).toInt < 0 → ∀ F1 : Nat → sy_d, iv_in F1 iv_B4 → (∀ j, j < 69 → j ∉ ([] : List Nat) → F1 j = F j) → (sy_i F1 69).toInt = (sy_i F 69).toInt → sy_i F1 69 = sy_i F 69 → (sy_i F1 70).toInt = (sy_i F 70).toInt → sy_i F1 70 = sy_i F 70 → (sy_i F1 71).toInt = (sy_i F 72).toInt → sy_i F1 71 = sy_i F 72 → (sy_i F1 72).toInt = ((sy_i F 72).toInt + 1) → sy_i F1 72 = (sy_i F 72) + ((1 : Int32)) → hd_W Ls xs d jm_M187 Q (22, sy_dL F1 [some (.inl (.ref 1000)), none, some (.inr (.inl 69)), some (.inr (.inl 70)), some (.inr (.inl 71)), some (.inr (.inl 72)), none], sy_dS F1 [], sy_dh F1 X1 X2 (iv_H 4), 0, 0))
    (k3 : (sy_i F 72).toInt < ((sy_ai F 35).getD ((sy_i F 11).toInt).toNat 0).toInt → (sy_i F 70).toInt ≤ ((sy_ai F 55).getD ((49 + (sy_i F 72).toInt)).toNat 0).toInt → (((sy_ai F 55).getD ((49 + (sy_i F 72).toInt)).toNat 0) - (sy_i F 70)).toInt ≤ ((sy_ai F 37).getD (((4 * (sy_i F 11).toInt) + (sy_i F 72).toInt)).toNat 0).toInt → (sy_i F 69).toInt ≤ ((sy_ai F 55).getD ((53 + (sy_i F 72).toInt)).toNat 0).toInt → 0 ≤ (sy_i F 71).toInt → (sy_i F 70).toInt ≤ ((sy_ai F 55).getD ((49 + (sy_i F 71).toInt)).toNat 0).toInt → (((sy_ai F 55).getD ((49 + (sy_i F 71).toInt)).toNat 0) - (sy_i F 70)).toInt ≤ (((sy_ai F 55).getD ((49 + (sy_i F 72).toInt)).toNat 0) - (sy_i F 70)).toInt → ∀ F1 : Nat → sy_d, iv_in F1 iv_B4 → (∀ j, j < 69 → j ∉ ([] : List Nat) → F1 j = F j) → (sy_i F1 69).toInt = (sy_i F 69).toInt → sy_i F1 69 = sy_i F 69 → (sy_i F1 70).toInt = (sy_i F 70).toInt → sy_i F1 70 = sy_i F 70 → (sy_i F1 71).toInt = (sy_i F 71).toInt → sy_i F1 71 = sy_i F 71 → (sy_i F1 72).toInt = ((sy_i F 72).toInt + 1) → sy_i F1 72 = (sy_i F 72) + ((1 : Int32)) → hd_W Ls xs d jm_M187 Q (22, sy_dL F1 [some (.inl (.ref 1000)), none, some (.inr (.inl 69)), some (.inr (.inl 70)), some (.inr (.inl 71)), some (.inr (.inl 72)), none], sy_dS F1 [], sy_dh F1 X1 X2 (iv_H 4), 0, 0))
    (k4 : (sy_i F 72).toInt < ((sy_ai F 35).getD ((sy_i F 11).toInt).toNat 0).toInt → (sy_i F 70).toInt ≤ ((sy_ai F 55).getD ((49 + (sy_i F 72).toInt)).toNat 0).toInt → (((sy_ai F 55).getD ((49 + (sy_i F 72).toInt)).toNat 0) - (sy_i F 70)).toInt ≤ ((sy_ai F 37).getD (((4 * (sy_i F 11).toInt) + (sy_i F 72).toInt)).toNat 0).toInt → (sy_i F 69).toInt ≤ ((sy_ai F 55).getD ((53 + (sy_i F 72).toInt)).toNat 0).toInt → 0 ≤ (sy_i F 71).toInt → (sy_i F 70).toInt ≤ ((sy_ai F 55).getD ((49 + (sy_i F 71).toInt)).toNat 0).toInt → (((sy_ai F 55).getD ((49 + (sy_i F 72).toInt)).toNat 0) - (sy_i F 70)).toInt < (((sy_ai F 55).getD ((49 + (sy_i F 71).toInt)).toNat 0) - (sy_i F 70)).toInt → ∀ F1 : Nat → sy_d, iv_in F1 iv_B4 → (∀ j, j < 69 → j ∉ ([] : List Nat) → F1 j = F j) → (sy_i F1 69).toInt = (sy_i F 69).toInt → sy_i F1 69 = sy_i F 69 → (sy_i F1 70).toInt = (sy_i F 70).toInt → sy_i F1 70 = sy_i F 70 → (sy_i F1 71).toInt = (sy_i F 72).toInt → sy_i F1 71 = sy_i F 72 → (sy_i F1 72).toInt = ((sy_i F 72).toInt + 1) → sy_i F1 72 = (sy_i F 72) + ((1 : Int32)) → hd_W Ls xs d jm_M187 Q (22, sy_dL F1 [some (.inl (.ref 1000)), none, some (.inr (.inl 69)), some (.inr (.inl 70)), some (.inr (.inl 71)), some (.inr (.inl 72)), none], sy_dS F1 [], sy_dh F1 X1 X2 (iv_H 4), 0, 0))
    (k5 : (sy_i F 72).toInt < ((sy_ai F 35).getD ((sy_i F 11).toInt).toNat 0).toInt → (sy_i F 70).toInt ≤ ((sy_ai F 55).getD ((49 + (sy_i F 72).toInt)).toNat 0).toInt → (((sy_ai F 55).getD ((49 + (sy_i F 72).toInt)).toNat 0) - (sy_i F 70)).toInt ≤ ((sy_ai F 37).getD (((4 * (sy_i F 11).toInt) + (sy_i F 72).toInt)).toNat 0).toInt → (sy_i F 69).toInt ≤ ((sy_ai F 55).getD ((53 + (sy_i F 72).toInt)).toNat 0).toInt → 0 ≤ (sy_i F 71).toInt → ((sy_ai F 55).getD ((49 + (sy_i F 71).toInt)).toNat 0).toInt < (sy_i F 70).toInt → ((sy_i F 70) - ((sy_ai F 55).getD ((49 + (sy_i F 71).toInt)).toNat 0)).toInt ≤ (((sy_ai F 55).getD ((49 + (sy_i F 72).toInt)).toNat 0) - (sy_i F 70)).toInt → ∀ F1 : Nat → sy_d, iv_in F1 iv_B4 → (∀ j, j < 69 → j ∉ ([] : List Nat) → F1 j = F j) → (sy_i F1 69).toInt = (sy_i F 69).toInt → sy_i F1 69 = sy_i F 69 → (sy_i F1 70).toInt = (sy_i F 70).toInt → sy_i F1 70 = sy_i F 70 → (sy_i F1 71).toInt = (sy_i F 71).toInt → sy_i F1 71 = sy_i F 71 → (sy_i F1 72).toInt = ((sy_i F 72).toInt + 1) → sy_i F1 72 = (sy_i F 72) + ((1 : Int32)) → hd_W Ls xs d jm_M187 Q (22, sy_dL F1 [some (.inl (.ref 1000)), none, some (.inr (.inl 69)), some (.inr (.inl 70)), some (.inr (.inl 71)), some (.inr (.inl 72)), none], sy_dS F1 [], sy_dh F1 X1 X2 (iv_H 4), 0, 0))
    (k6 : (sy_i F 72).toInt < ((sy_ai F 35).getD ((sy_i F 11).toInt).toNat 0).toInt → (sy_i F 70).toInt ≤ ((sy_ai F 55).getD ((49 + (sy_i F 72).toInt)).toNat 0).toInt → (((sy_ai F 55).getD ((49 + (sy_i F 72).toInt)).toNat 0) - (sy_i F 70)).toInt ≤ ((sy_ai F 37).getD (((4 * (sy_i F 11).toInt) + (sy_i F 72).toInt)).toNat 0).toInt → (sy_i F 69).toInt ≤ ((sy_ai F 55).getD ((53 + (sy_i F 72).toInt)).toNat 0).toInt → 0 ≤ (sy_i F 71).toInt → ((sy_ai F 55).getD ((49 + (sy_i F 71).toInt)).toNat 0).toInt < (sy_i F 70).toInt → (((sy_ai F 55).getD ((49 + (sy_i F 72).toInt)).toNat 0) - (sy_i F 70)).toInt < ((sy_i F 70) - ((sy_ai F 55).getD ((49 + (sy_i F 71).toInt)).toNat 0)).toInt → ∀ F1 : Nat → sy_d, iv_in F1 iv_B4 → (∀ j, j < 69 → j ∉ ([] : List Nat) → F1 j = F j) → (sy_i F1 69).toInt = (sy_i F 69).toInt → sy_i F1 69 = sy_i F 69 → (sy_i F1 70).toInt = (sy_i F 70).toInt → sy_i F1 70 = sy_i F 70 → (sy_i F1 71).toInt = (sy_i F 72).toInt → sy_i F1 71 = sy_i F 72 → (sy_i F1 72).toInt = ((sy_i F 72).toInt + 1) → sy_i F1 72 = (sy_i F 72) + ((1 : Int32)) → hd_W Ls xs d jm_M187 Q (22, sy_dL F1 [some (.inl (.ref 1000)), none, some (.inr (.inl 69)), some (.inr (.inl 70)), some (.inr (.inl 71)), some (.inr (.inl 72)), none], sy_dS F1 [], sy_dh F1 X1 X2 (iv_H 4), 0, 0))
    (k7 : (sy_i F 72).toInt < ((sy_ai F 35).getD ((sy_i F 11).toInt).toNat 0).toInt → (sy_i F 70).toInt ≤ ((sy_ai F 55).getD ((49 + (sy_i F 72).toInt)).toNat 0).toInt → (((sy_ai F 55).getD ((49 + (sy_i F 72).toInt)).toNat 0) - (sy_i F 70)).toInt ≤ ((sy_ai F 37).getD (((4 * (sy_i F 11).toInt) + (sy_i F 72).toInt)).toNat 0).toInt → ((sy_ai F 55).getD ((53 + (sy_i F 72).toInt)).toNat 0).toInt < (sy_i F 69).toInt → ∀ F1 : Nat → sy_d, iv_in F1 iv_B4 → (∀ j, j < 69 → j ∉ ([] : List Nat) → F1 j = F j) → (sy_i F1 69).toInt = (sy_i F 69).toInt → sy_i F1 69 = sy_i F 69 → (sy_i F1 70).toInt = (sy_i F 70).toInt → sy_i F1 70 = sy_i F 70 → (sy_i F1 71).toInt = (sy_i F 71).toInt → sy_i F1 71 = sy_i F 71 → (sy_i F1 72).toInt = ((sy_i F 72).toInt + 1) → sy_i F1 72 = (sy_i F 72) + ((1 : Int32)) → hd_W Ls xs d jm_M187 Q (22, sy_dL F1 [some (.inl (.ref 1000)), none, some (.inr (.inl 69)), some (.inr (.inl 70)), some (.inr (.inl 71)), some (.inr (.inl 72)), none], sy_dS F1 [], sy_dh F1 X1 X2 (iv_H 4), 0, 0))
    (k8 : (sy_i F 72).toInt < ((sy_ai F 35).getD ((sy_i F 11).toInt).toNat 0).toInt → ((sy_ai F 55).getD ((49 + (sy_i F 72).toInt)).toNat 0).toInt < (sy_i F 70).toInt → ((sy_ai F 37).getD (((4 * (sy_i F 11).toInt) + (sy_i F 72).toInt)).toNat 0).toInt < ((sy_i F 70) - ((sy_ai F 55).getD ((49 + (sy_i F 72).toInt)).toNat 0)).toInt → ∀ F1 : Nat → sy_d, iv_in F1 iv_B4 → (∀ j, j < 69 → j ∉ ([] : List Nat) → F1 j = F j) → (sy_i F1 69).toInt = (sy_i F 69).toInt → sy_i F1 69 = sy_i F 69 → (sy_i F1 70).toInt = (sy_i F 70).toInt → sy_i F1 70 = sy_i F 70 → (sy_i F1 71).toInt = (sy_i F 71).toInt → sy_i F1 71 = sy_i F 71 → (sy_i F1 72).toInt = ((sy_i F 72).toInt + 1) → sy_i F1 72 = (sy_i F 72) + ((1 : Int32)) → hd_W Ls xs d jm_M187 Q (22, sy_dL F1 [some (.inl (.ref 1000)), none, some (.inr (.inl 69)), some (.inr (.inl 70)), some (.inr (.inl 71)), some (.inr (.inl 72)), none], sy_dS F1 [], sy_dh F1 X1 X2 (iv_H 4), 0, 0))
    (k9 : (sy_i F 72).toInt < ((sy_ai F 35).getD ((sy_i F 11).toInt).toNat 0).toInt → ((sy_ai F 55).getD ((49 + (sy_i F 72).toInt)).toNat 0).toInt < (sy_i F 70).toInt → ((sy_i F 70) - ((sy_ai F 55).getD ((49 + (sy_i F 72).toInt)).toNat 0)).toInt ≤ ((sy_ai F 37).getD (((4 * (sy_i F 11).toInt) + (sy_i F 72).toInt)).toNat 0).toInt → (sy_i F 69).toInt ≤ ((sy_ai F 55).getD ((53 + (sy_i F 72).toInt)).toNat 0).toInt → (sy_i F 71).toInt < 0 → ∀ F1 : Nat → sy_d, iv_in F1 iv_B4 → (∀ j, j < 69 → j ∉ ([] : List Nat) → F1 j = F j) → (sy_i F1 69).toInt = (sy_i F 69).toInt → sy_i F1 69 = sy_i F 69 → (sy_i F1 70).toInt = (sy_i F 70).toInt → sy_i F1 70 = sy_i F 70 → (sy_i F1 71).toInt = (sy_i F 72).toInt → sy_i F1 71 = sy_i F 72 → (sy_i F1 72).toInt = ((sy_i F 72).toInt + 1) → sy_i F1 72 = (sy_i F 72) + ((1 : Int32)) → hd_W Ls xs d jm_M187 Q (22, sy_dL F1 [some (.inl (.ref 1000)), none, some (.inr (.inl 69)), some (.inr (.inl 70)), some (.inr (.inl 71)), some (.inr (.inl 72)), none], sy_dS F1 [], sy_dh F1 X1 X2 (iv_H 4), 0, 0))
    (k10 : (sy_i F 72).toInt < ((sy_ai F 35).getD ((sy_i F 11).toInt).toNat 0).toInt → ((sy_ai F 55).getD ((49 + (sy_i F 72).toInt)).toNat 0).toInt < (sy_i F 70).toInt → ((sy_i F 70) - ((sy_ai F 55).getD ((49 + (sy_i F 72).toInt)).toNat 0)).toInt ≤ ((sy_ai F 37).getD (((4 * (sy_i F 11).toInt) + (sy_i F 72).toInt)).toNat 0).toInt → (sy_i F 69).toInt ≤ ((sy_ai F 55).getD ((53 + (sy_i F 72).toInt)).toNat 0).toInt → 0 ≤ (sy_i F 71).toInt → (sy_i F 70).toInt ≤ ((sy_ai F 55).getD ((49 + (sy_i F 71).toInt)).toNat 0).toInt → (((sy_ai F 55).getD ((49 + (sy_i F 71).toInt)).toNat 0) - (sy_i F 70)).toInt ≤ ((sy_i F 70) - ((sy_ai F 55).getD ((49 + (sy_i F 72).toInt)).toNat 0)).toInt → ∀ F1 : Nat → sy_d, iv_in F1 iv_B4 → (∀ j, j < 69 → j ∉ ([] : List Nat) → F1 j = F j) → (sy_i F1 69).toInt = (sy_i F 69).toInt → sy_i F1 69 = sy_i F 69 → (sy_i F1 70).toInt = (sy_i F 70).toInt → sy_i F1 70 = sy_i F 70 → (sy_i F1 71).toInt = (sy_i F 71).toInt → sy_i F1 71 = sy_i F 71 → (sy_i F1 72).toInt = ((sy_i F 72).toInt + 1) → sy_i F1 72 = (sy_i F 72) + ((1 : Int32)) → hd_W Ls xs d jm_M187 Q (22, sy_dL F1 [some (.inl (.ref 1000)), none, some (.inr (.inl 69)), some (.inr (.inl 70)), some (.inr (.inl 71)), some (.inr (.inl 72)), none], sy_dS F1 [], sy_dh F1 X1 X2 (iv_H 4), 0, 0))
    (k11 : (sy_i F 72).toInt < ((sy_ai F 35).getD ((sy_i F 11).toInt).toNat 0).toInt → ((sy_ai F 55).getD ((49 + (sy_i F 72).toInt)).toNat 0).toInt < (sy_i F 70).toInt → ((sy_i F 70) - ((sy_ai F 55).getD ((49 + (sy_i F 72).toInt)).toNat 0)).toInt ≤ ((sy_ai F 37).getD (((4 * (sy_i F 11).toInt) + (sy_i F 72).toInt)).toNat 0).toInt → (sy_i F 69).toInt ≤ ((sy_ai F 55).getD ((53 + (sy_i F 72).toInt)).toNat 0).toInt → 0 ≤ (sy_i F 71).toInt → (sy_i F 70).toInt ≤ ((sy_ai F 55).getD ((49 + (sy_i F 71).toInt)).toNat 0).toInt → ((sy_i F 70) - ((sy_ai F 55).getD ((49 + (sy_i F 72).toInt)).toNat 0)).toInt < (((sy_ai F 55).getD ((49 + (sy_i F 71).toInt)).toNat 0) - (sy_i F 70)).toInt → ∀ F1 : Nat → sy_d, iv_in F1 iv_B4 → (∀ j, j < 69 → j ∉ ([] : List Nat) → F1 j = F j) → (sy_i F1 69).toInt = (sy_i F 69).toInt → sy_i F1 69 = sy_i F 69 → (sy_i F1 70).toInt = (sy_i F 70).toInt → sy_i F1 70 = sy_i F 70 → (sy_i F1 71).toInt = (sy_i F 72).toInt → sy_i F1 71 = sy_i F 72 → (sy_i F1 72).toInt = ((sy_i F 72).toInt + 1) → sy_i F1 72 = (sy_i F 72) + ((1 : Int32)) → hd_W Ls xs d jm_M187 Q (22, sy_dL F1 [some (.inl (.ref 1000)), none, some (.inr (.inl 69)), some (.inr (.inl 70)), some (.inr (.inl 71)), some (.inr (.inl 72)), none], sy_dS F1 [], sy_dh F1 X1 X2 (iv_H 4), 0, 0))
    (k12 : (sy_i F 72).toInt < ((sy_ai F 35).getD ((sy_i F 11).toInt).toNat 0).toInt → ((sy_ai F 55).getD ((49 + (sy_i F 72).toInt)).toNat 0).toInt < (sy_i F 70).toInt → ((sy_i F 70) - ((sy_ai F 55).getD ((49 + (sy_i F 72).toInt)).toNat 0)).toInt ≤ ((sy_ai F 37).getD (((4 * (sy_i F 11).toInt) + (sy_i F 72).toInt)).toNat 0).toInt → (sy_i F 69).toInt ≤ ((sy_ai F 55).getD ((53 + (sy_i F 72).toInt)).toNat 0).toInt → 0 ≤ (sy_i F 71).toInt → ((sy_ai F 55).getD ((49 + (sy_i F 71).toInt)).toNat 0).toInt < (sy_i F 70).toInt → ((sy_i F 70) - ((sy_ai F 55).getD ((49 + (sy_i F 71).toInt)).toNat 0)).toInt ≤ ((sy_i F 70) - ((sy_ai F 55).getD ((49 + (sy_i F 72).toInt)).toNat 0)).toInt → ∀ F1 : Nat → sy_d, iv_in F1 iv_B4 → (∀ j, j < 69 → j ∉ ([] : List Nat) → F1 j = F j) → (sy_i F1 69).toInt = (sy_i F 69).toInt → sy_i F1 69 = sy_i F 69 → (sy_i F1 70).toInt = (sy_i F 70).toInt → sy_i F1 70 = sy_i F 70 → (sy_i F1 71).toInt = (sy_i F 71).toInt → sy_i F1 71 = sy_i F 71 → (sy_i F1 72).toInt = ((sy_i F 72).toInt + 1) → sy_i F1 72 = (sy_i F 72) + ((1 : Int32)) → hd_W Ls xs d jm_M187 Q (22, sy_dL F1 [some (.inl (.ref 1000)), none, some (.inr (.inl 69)), some (.inr (.inl 70)), some (.inr (.inl 71)), some (.inr (.inl 72)), none], sy_dS F1 [], sy_dh F1 X1 X2 (iv_H 4), 0, 0))
    (k13 : (sy_i F 72).toInt < ((sy_ai F 35).getD ((sy_i F 11).toInt).toNat 0).toInt → ((sy_ai F 55).getD ((49 + (sy_i F 72).toInt)).toNat 0).toInt < (sy_i F 70).toInt → ((sy_i F 70) - ((sy_ai F 55).getD ((49 + (sy_i F 72).toInt)).toNat 0)).toInt ≤ ((sy_ai F 37).getD (((4 * (sy_i F 11).toInt) + (sy_i F 72).toInt)).toNat 0).toInt → (sy_i F 69).toInt ≤ ((sy_ai F 55).getD ((53 + (sy_i F 72).toInt)).toNat 0).toInt → 0 ≤ (sy_i F 71).toInt → ((sy_ai F 55).getD ((49 + (sy_i F 71).toInt)).toNat 0).toInt < (sy_i F 70).toInt → ((sy_i F 70) - ((sy_ai F 55).getD ((49 + (sy_i F 72).toInt)).toNat 0)).toInt < ((sy_i F 70) - ((sy_ai F 55).getD ((49 + (sy_i F 71).toInt)).toNat 0)).toInt → ∀ F1 : Nat → sy_d, iv_in F1 iv_B4 → (∀ j, j < 69 → j ∉ ([] : List Nat) → F1 j = F j) → (sy_i F1 69).toInt = (sy_i F 69).toInt → sy_i F1 69 = sy_i F 69 → (sy_i F1 70).toInt = (sy_i F 70).toInt → sy_i F1 70 = sy_i F 70 → (sy_i F1 71).toInt = (sy_i F 72).toInt → sy_i F1 71 = sy_i F 72 → (sy_i F1 72).toInt = ((sy_i F 72).toInt + 1) → sy_i F1 72 = (sy_i F 72) + ((1 : Int32)) → hd_W Ls xs d jm_M187 Q (22, sy_dL F1 [some (.inl (.ref 1000)), none, some (.inr (.inl 69)), some (.inr (.inl 70)), some (.inr (.inl 71)), some (.inr (.inl 72)), none], sy_dS F1 [], sy_dh F1 X1 X2 (iv_H 4), 0, 0))
    (k14 : (sy_i F 72).toInt < ((sy_ai F 35).getD ((sy_i F 11).toInt).toNat 0).toInt → ((sy_ai F 55).getD ((49 + (sy_i F 72).toInt)).toNat 0).toInt < (sy_i F 70).toInt → ((sy_i F 70) - ((sy_ai F 55).getD ((49 + (sy_i F 72).toInt)).toNat 0)).toInt ≤ ((sy_ai F 37).getD (((4 * (sy_i F 11).toInt) + (sy_i F 72).toInt)).toNat 0).toInt → ((sy_ai F 55).getD ((53 + (sy_i F 72).toInt)).toNat 0).toInt < (sy_i F 69).toInt → ∀ F1 : Nat → sy_d, iv_in F1 iv_B4 → (∀ j, j < 69 → j ∉ ([] : List Nat) → F1 j = F j) → (sy_i F1 69).toInt = (sy_i F 69).toInt → sy_i F1 69 = sy_i F 69 → (sy_i F1 70).toInt = (sy_i F 70).toInt → sy_i F1 70 = sy_i F 70 → (sy_i F1 71).toInt = (sy_i F 71).toInt → sy_i F1 71 = sy_i F 71 → (sy_i F1 72).toInt = ((sy_i F 72).toInt + 1) → sy_i F1 72 = (sy_i F 72) + ((1 : Int32)) → hd_W Ls xs d jm_M187 Q (22, sy_dL F1 [some (.inl (.ref 1000)), none, some (.inr (.inl 69)), some (.inr (.inl 70)), some (.inr (.inl 71)), some (.inr (.inl 72)), none], sy_dS F1 [], sy_dh F1 X1 X2 (iv_H 4), 0, 0)) :
    hd_W Ls xs d jm_M187 Q (22, sy_dL F [some (.inl (.ref 1000)), none, some (.inr (.inl 69)), some (.inr (.inl 70)), some (.inr (.inl 71)), some (.inr (.inl 72)), none], sy_dS F [], sy_dh F X1 X2 (iv_H 4), 0, 0) := by
  by_cases g0 : ((sy_ai F 35).getD ((sy_i F 11).toInt).toNat 0).toInt ≤ (sy_i F 72).toInt
  · have c11 := nz_bx hB (k := 11) (lo := 0) (hi := 1) rfl
    have q73 : (sy_ai F 35).getD (sy_i F 11).toNatClampNeg 0 = (sy_ai F 35).getD ((sy_i F 11).toInt).toNat 0 := by simp only [nz_c]
    have n73 : nzI ((sy_ai F 35).getD (sy_i F 11).toNatClampNeg 0) (((sy_ai F 35).getD ((sy_i F 11).toInt).toNat 0).toInt) := congrArg Int32.toInt q73
    have r73 := nz_ba hB (k := 35) (lo := 0) (hi := 4) rfl ((sy_i F 11).toInt).toNat
    exact yca_22_p0 hd F X1 X2 hB (by first | exact ⟨by omega, by omega⟩ | (simp only [nz_c]; exact ⟨by omega, by omega⟩)) (by first | exact g0 | (simp only [nz_c]; exact g0) | (rw [(nzE n73)]; exact g0)) (fun F1 g  => by rw [(rfl : sy_i F 71 = sy_i F 71)]; exact k0 g0 F1 (nz_in hB [] (fun j hj hn => g j hj (by simp only [List.mem_cons, List.not_mem_nil, or_false, not_or] at hn; exact trivial)) (List.forall_mem_nil _)) (fun j hj hn => g j hj (by simp only [List.mem_cons, List.not_mem_nil, or_false, not_or] at hn; exact trivial)) )
  replace g0 : (sy_i F 72).toInt < ((sy_ai F 35).getD ((sy_i F 11).toInt).toNat 0).toInt := by omega
  by_cases g1 : (sy_i F 70).toInt ≤ ((sy_ai F 55).getD ((49 + (sy_i F 72).toInt)).toNat 0).toInt
  · by_cases g2 : ((sy_ai F 37).getD (((4 * (sy_i F 11).toInt) + (sy_i F 72).toInt)).toNat 0).toInt < (((sy_ai F 55).getD ((49 + (sy_i F 72).toInt)).toNat 0) - (sy_i F 70)).toInt
    · have c11 := nz_bx hB (k := 11) (lo := 0) (hi := 1) rfl
      have q73 : (sy_ai F 35).getD (sy_i F 11).toNatClampNeg 0 = (sy_ai F 35).getD ((sy_i F 11).toInt).toNat 0 := by simp only [nz_c]
      have n73 : nzI ((sy_ai F 35).getD (sy_i F 11).toNatClampNeg 0) (((sy_ai F 35).getD ((sy_i F 11).toInt).toNat 0).toInt) := congrArg Int32.toInt q73
      have r73 := nz_ba hB (k := 35) (lo := 0) (hi := 4) rfl ((sy_i F 11).toInt).toNat
      have n74 : nzI (((49 : Int32)) + (sy_i F 72)) ((49 + (sy_i F 72).toInt)) := nz_add (by decide : ((49 : Int32)).toInt = 49) (rfl : (sy_i F 72).toInt = (sy_i F 72).toInt) (by omega) (by omega)
      have q75 : (sy_ai F 55).getD (((49 : Int32)) + (sy_i F 72)).toNatClampNeg 0 = (sy_ai F 55).getD ((49 + (sy_i F 72).toInt)).toNat 0 := by simp only [nz_c, (nzE n74), (by decide : ((49 : Int32)).toInt = 49)]
      have n75 : nzI ((sy_ai F 55).getD (((49 : Int32)) + (sy_i F 72)).toNatClampNeg 0) (((sy_ai F 55).getD ((49 + (sy_i F 72).toInt)).toNat 0).toInt) := congrArg Int32.toInt q75
      have n77 : nzI (((4 : Int32)) * (sy_i F 11)) ((4 * (sy_i F 11).toInt)) := nz_mul (by decide : ((4 : Int32)).toInt = 4) (rfl : (sy_i F 11).toInt = (sy_i F 11).toInt) (by omega) (by omega)
      have n78 : nzI ((((4 : Int32)) * (sy_i F 11)) + (sy_i F 72)) (((4 * (sy_i F 11).toInt) + (sy_i F 72).toInt)) := nz_add (nzE n77) (rfl : (sy_i F 72).toInt = (sy_i F 72).toInt) (by omega) (by omega)
      have q79 : (sy_ai F 37).getD ((((4 : Int32)) * (sy_i F 11)) + (sy_i F 72)).toNatClampNeg 0 = (sy_ai F 37).getD (((4 * (sy_i F 11).toInt) + (sy_i F 72).toInt)).toNat 0 := by simp only [nz_c, (nzE n77), (nzE n78), (by decide : ((4 : Int32)).toInt = 4)]
      have n79 : nzI ((sy_ai F 37).getD ((((4 : Int32)) * (sy_i F 11)) + (sy_i F 72)).toNatClampNeg 0) (((sy_ai F 37).getD (((4 * (sy_i F 11).toInt) + (sy_i F 72).toInt)).toNat 0).toInt) := congrArg Int32.toInt q79
      have q76 : ((sy_ai F 55).getD (((49 : Int32)) + (sy_i F 72)).toNatClampNeg 0) - (sy_i F 70) = ((sy_ai F 55).getD ((49 + (sy_i F 72).toInt)).toNat 0) - (sy_i F 70) := by simp only [nz_c, (nzE n74), (by decide : ((49 : Int32)).toInt = 49)]
      have n76 : nzI (((sy_ai F 55).getD (((49 : Int32)) + (sy_i F 72)).toNatClampNeg 0) - (sy_i F 70)) ((((sy_ai F 55).getD ((49 + (sy_i F 72).toInt)).toNat 0) - (sy_i F 70)).toInt) := congrArg Int32.toInt q76
      have n80 : nzI ((sy_i F 72) + ((1 : Int32))) (((sy_i F 72).toInt + 1)) := nz_add (rfl : (sy_i F 72).toInt = (sy_i F 72).toInt) (by decide : ((1 : Int32)).toInt = 1) (by omega) (by omega)
      exact yca_22_p1 hd F X1 X2 hB (by first | exact ⟨by omega, by omega⟩ | (simp only [nz_c]; exact ⟨by omega, by omega⟩)) (by first | exact g0 | (simp only [nz_c]; exact g0) | (rw [(nzE n73)]; exact g0)) (by first | (simp only [nz_c, (nzE n74)]; exact ⟨by omega, by omega⟩) | exact ⟨by omega, by omega⟩ | (rw [(nzE n74)]; exact ⟨by omega, by omega⟩)) (by first | (simp only [nz_c, (nzE n74)]; exact g1) | exact g1 | (rw [(nzE n75)]; exact g1)) (by first | (simp only [nz_c, (nzE n77), (nzE n78)]; exact ⟨by omega, by omega⟩) | exact ⟨by omega, by omega⟩ | (rw [(nzE n78)]; exact ⟨by omega, by omega⟩)) (by first | (simp only [nz_c, (nzE n74), (nzE n77), (nzE n78)]; exact g2) | exact g2 | (rw [(nzE n79)]; exact g2) | (rw [(nzE n76)]; exact g2) | (rw [(nzE n79), (nzE n76)]; exact g2)) (fun F1 g e69 e70 e71 e72 => k1 g0 g1 g2 F1 (nz_in hB [] (fun j hj hn => g j hj (by simp only [List.mem_cons, List.not_mem_nil, or_false, not_or] at hn; exact trivial)) (List.forall_mem_nil _)) (fun j hj hn => g j hj (by simp only [List.mem_cons, List.not_mem_nil, or_false, not_or] at hn; exact trivial)) ((congrArg Int32.toInt (zz_i e69)).trans (rfl : (sy_i F 69).toInt = (sy_i F 69).toInt)) ((zz_i e69).trans (rfl : sy_i F 69 = sy_i F 69)) ((congrArg Int32.toInt (zz_i e70)).trans (rfl : (sy_i F 70).toInt = (sy_i F 70).toInt)) ((zz_i e70).trans (rfl : sy_i F 70 = sy_i F 70)) ((congrArg Int32.toInt (zz_i e71)).trans (rfl : (sy_i F 71).toInt = (sy_i F 71).toInt)) ((zz_i e71).trans (rfl : sy_i F 71 = sy_i F 71)) ((congrArg Int32.toInt (zz_i e72)).trans (nzE n80)) ((zz_i e72).trans (rfl : (sy_i F 72) + ((1 : Int32)) = (sy_i F 72) + ((1 : Int32)))))
    replace g2 : (((sy_ai F 55).getD ((49 + (sy_i F 72).toInt)).toNat 0) - (sy_i F 70)).toInt ≤ ((sy_ai F 37).getD (((4 * (sy_i F 11).toInt) + (sy_i F 72).toInt)).toNat 0).toInt := by omega
    by_cases g3 : (sy_i F 69).toInt ≤ ((sy_ai F 55).getD ((53 + (sy_i F 72).toInt)).toNat 0).toInt
    · by_cases g4 : (sy_i F 71).toInt < 0
      · have c11 := nz_bx hB (k := 11) (lo := 0) (hi := 1) rfl
        have q73 : (sy_ai F 35).getD (sy_i F 11).toNatClampNeg 0 = (sy_ai F 35).getD ((sy_i F 11).toInt).toNat 0 := by simp only [nz_c]
        have n73 : nzI ((sy_ai F 35).getD (sy_i F 11).toNatClampNeg 0) (((sy_ai F 35).getD ((sy_i F 11).toInt).toNat 0).toInt) := congrArg Int32.toInt q73
        have r73 := nz_ba hB (k := 35) (lo := 0) (hi := 4) rfl ((sy_i F 11).toInt).toNat
        have n74 : nzI (((49 : Int32)) + (sy_i F 72)) ((49 + (sy_i F 72).toInt)) := nz_add (by decide : ((49 : Int32)).toInt = 49) (rfl : (sy_i F 72).toInt = (sy_i F 72).toInt) (by omega) (by omega)
        have q75 : (sy_ai F 55).getD (((49 : Int32)) + (sy_i F 72)).toNatClampNeg 0 = (sy_ai F 55).getD ((49 + (sy_i F 72).toInt)).toNat 0 := by simp only [nz_c, (nzE n74), (by decide : ((49 : Int32)).toInt = 49)]
        have n75 : nzI ((sy_ai F 55).getD (((49 : Int32)) + (sy_i F 72)).toNatClampNeg 0) (((sy_ai F 55).getD ((49 + (sy_i F 72).toInt)).toNat 0).toInt) := congrArg Int32.toInt q75
        have n77 : nzI (((4 : Int32)) * (sy_i F 11)) ((4 * (sy_i F 11).toInt)) := nz_mul (by decide : ((4 : Int32)).toInt = 4) (rfl : (sy_i F 11).toInt = (sy_i F 11).toInt) (by omega) (by omega)
        have n78 : nzI ((((4 : Int32)) * (sy_i F 11)) + (sy_i F 72)) (((4 * (sy_i F 11).toInt) + (sy_i F 72).toInt)) := nz_add (nzE n77) (rfl : (sy_i F 72).toInt = (sy_i F 72).toInt) (by omega) (by omega)
        have q79 : (sy_ai F 37).getD ((((4 : Int32)) * (sy_i F 11)) + (sy_i F 72)).toNatClampNeg 0 = (sy_ai F 37).getD (((4 * (sy_i F 11).toInt) + (sy_i F 72).toInt)).toNat 0 := by simp only [nz_c, (nzE n77), (nzE n78), (by decide : ((4 : Int32)).toInt = 4)]
        have n79 : nzI ((sy_ai F 37).getD ((((4 : Int32)) * (sy_i F 11)) + (sy_i F 72)).toNatClampNeg 0) (((sy_ai F 37).getD (((4 * (sy_i F 11).toInt) + (sy_i F 72).toInt)).toNat 0).toInt) := congrArg Int32.toInt q79
        have q76 : ((sy_ai F 55).getD (((49 : Int32)) + (sy_i F 72)).toNatClampNeg 0) - (sy_i F 70) = ((sy_ai F 55).getD ((49 + (sy_i F 72).toInt)).toNat 0) - (sy_i F 70) := by simp only [nz_c, (nzE n74), (by decide : ((49 : Int32)).toInt = 49)]
        have n76 : nzI (((sy_ai F 55).getD (((49 : Int32)) + (sy_i F 72)).toNatClampNeg 0) - (sy_i F 70)) ((((sy_ai F 55).getD ((49 + (sy_i F 72).toInt)).toNat 0) - (sy_i F 70)).toInt) := congrArg Int32.toInt q76
        have n80 : nzI (((53 : Int32)) + (sy_i F 72)) ((53 + (sy_i F 72).toInt)) := nz_add (by decide : ((53 : Int32)).toInt = 53) (rfl : (sy_i F 72).toInt = (sy_i F 72).toInt) (by omega) (by omega)
        have q81 : (sy_ai F 55).getD (((53 : Int32)) + (sy_i F 72)).toNatClampNeg 0 = (sy_ai F 55).getD ((53 + (sy_i F 72).toInt)).toNat 0 := by simp only [nz_c, (nzE n80), (by decide : ((53 : Int32)).toInt = 53)]
        have n81 : nzI ((sy_ai F 55).getD (((53 : Int32)) + (sy_i F 72)).toNatClampNeg 0) (((sy_ai F 55).getD ((53 + (sy_i F 72).toInt)).toNat 0).toInt) := congrArg Int32.toInt q81
        have n82 : nzI ((sy_i F 72) + ((1 : Int32))) (((sy_i F 72).toInt + 1)) := nz_add (rfl : (sy_i F 72).toInt = (sy_i F 72).toInt) (by decide : ((1 : Int32)).toInt = 1) (by omega) (by omega)
        exact yca_22_p2 hd F X1 X2 hB (by first | exact ⟨by omega, by omega⟩ | (simp only [nz_c]; exact ⟨by omega, by omega⟩)) (by first | exact g0 | (simp only [nz_c]; exact g0) | (rw [(nzE n73)]; exact g0)) (by first | (simp only [nz_c, (nzE n74)]; exact ⟨by omega, by omega⟩) | exact ⟨by omega, by omega⟩ | (rw [(nzE n74)]; exact ⟨by omega, by omega⟩)) (by first | (simp only [nz_c, (nzE n74)]; exact g1) | exact g1 | (rw [(nzE n75)]; exact g1)) (by first | (simp only [nz_c, (nzE n77), (nzE n78)]; exact ⟨by omega, by omega⟩) | exact ⟨by omega, by omega⟩ | (rw [(nzE n78)]; exact ⟨by omega, by omega⟩)) (by first | (simp only [nz_c, (nzE n74), (nzE n77), (nzE n78)]; exact g2) | exact g2 | (rw [(nzE n79)]; exact g2) | (rw [(nzE n76)]; exact g2) | (rw [(nzE n79), (nzE n76)]; exact g2)) (by first | (simp only [nz_c, (nzE n80)]; exact ⟨by omega, by omega⟩) | exact ⟨by omega, by omega⟩ | (rw [(nzE n80)]; exact ⟨by omega, by omega⟩)) (by first | (simp only [nz_c, (nzE n80)]; exact g3) | exact g3 | (rw [(nzE n81)]; exact g3)) (by first | exact g4 | (simp only [nz_c]; exact g4)) (fun F1 g e69 e70 e71 e72 => k2 g0 g1 g2 g3 g4 F1 (nz_in hB [] (fun j hj hn => g j hj (by simp only [List.mem_cons, List.not_mem_nil, or_false, not_or] at hn; exact trivial)) (List.forall_mem_nil _)) (fun j hj hn => g j hj (by simp only [List.mem_cons, List.not_mem_nil, or_false, not_or] at hn; exact trivial)) ((congrArg Int32.toInt (zz_i e69)).trans (rfl : (sy_i F 69).toInt = (sy_i F 69).toInt)) ((zz_i e69).trans (rfl : sy_i F 69 = sy_i F 69)) ((congrArg Int32.toInt (zz_i e70)).trans (rfl : (sy_i F 70).toInt = (sy_i F 70).toInt)) ((zz_i e70).trans (rfl : sy_i F 70 = sy_i F 70)) ((congrArg Int32.toInt (zz_i e71)).trans (rfl : (sy_i F 72).toInt = (sy_i F 72).toInt)) ((zz_i e71).trans (rfl : sy_i F 72 = sy_i F 72)) ((congrArg Int32.toInt (zz_i e72)).trans (nzE n82)) ((zz_i e72).trans (rfl : (sy_i F 72) + ((1 : Int32)) = (sy_i F 72) + ((1 : Int32)))))
      replace g4 : 0 ≤ (sy_i F 71).toInt := by omega
      by_cases g5 : (sy_i F 70).toInt ≤ ((sy_ai F 55).getD ((49 + (sy_i F 71).toInt)).toNat 0).toInt
      · by_cases g6 : (((sy_ai F 55).getD ((49 + (sy_i F 71).toInt)).toNat 0) - (sy_i F 70)).toInt ≤ (((sy_ai F 55).getD ((49 + (sy_i F 72).toInt)).toNat 0) - (sy_i F 70)).toInt
        · have c11 := nz_bx hB (k := 11) (lo := 0) (hi := 1) rfl
          have q73 : (sy_ai F 35).getD (sy_i F 11).toNatClampNeg 0 = (sy_ai F 35).getD ((sy_i F 11).toInt).toNat 0 := by simp only [nz_c]
          have n73 : nzI ((sy_ai F 35).getD (sy_i F 11).toNatClampNeg 0) (((sy_ai F 35).getD ((sy_i F 11).toInt).toNat 0).toInt) := congrArg Int32.toInt q73
          have r73 := nz_ba hB (k := 35) (lo := 0) (hi := 4) rfl ((sy_i F 11).toInt).toNat
          have n74 : nzI (((49 : Int32)) + (sy_i F 72)) ((49 + (sy_i F 72).toInt)) := nz_add (by decide : ((49 : Int32)).toInt = 49) (rfl : (sy_i F 72).toInt = (sy_i F 72).toInt) (by omega) (by omega)
          have q75 : (sy_ai F 55).getD (((49 : Int32)) + (sy_i F 72)).toNatClampNeg 0 = (sy_ai F 55).getD ((49 + (sy_i F 72).toInt)).toNat 0 := by simp only [nz_c, (nzE n74), (by decide : ((49 : Int32)).toInt = 49)]
          have n75 : nzI ((sy_ai F 55).getD (((49 : Int32)) + (sy_i F 72)).toNatClampNeg 0) (((sy_ai F 55).getD ((49 + (sy_i F 72).toInt)).toNat 0).toInt) := congrArg Int32.toInt q75
          have n77 : nzI (((4 : Int32)) * (sy_i F 11)) ((4 * (sy_i F 11).toInt)) := nz_mul (by decide : ((4 : Int32)).toInt = 4) (rfl : (sy_i F 11).toInt = (sy_i F 11).toInt) (by omega) (by omega)
          have n78 : nzI ((((4 : Int32)) * (sy_i F 11)) + (sy_i F 72)) (((4 * (sy_i F 11).toInt) + (sy_i F 72).toInt)) := nz_add (nzE n77) (rfl : (sy_i F 72).toInt = (sy_i F 72).toInt) (by omega) (by omega)
          have q79 : (sy_ai F 37).getD ((((4 : Int32)) * (sy_i F 11)) + (sy_i F 72)).toNatClampNeg 0 = (sy_ai F 37).getD (((4 * (sy_i F 11).toInt) + (sy_i F 72).toInt)).toNat 0 := by simp only [nz_c, (nzE n77), (nzE n78), (by decide : ((4 : Int32)).toInt = 4)]
          have n79 : nzI ((sy_ai F 37).getD ((((4 : Int32)) * (sy_i F 11)) + (sy_i F 72)).toNatClampNeg 0) (((sy_ai F 37).getD (((4 * (sy_i F 11).toInt) + (sy_i F 72).toInt)).toNat 0).toInt) := congrArg Int32.toInt q79
          have q76 : ((sy_ai F 55).getD (((49 : Int32)) + (sy_i F 72)).toNatClampNeg 0) - (sy_i F 70) = ((sy_ai F 55).getD ((49 + (sy_i F 72).toInt)).toNat 0) - (sy_i F 70) := by simp only [nz_c, (nzE n74), (by decide : ((49 : Int32)).toInt = 49)]
          have n76 : nzI (((sy_ai F 55).getD (((49 : Int32)) + (sy_i F 72)).toNatClampNeg 0) - (sy_i F 70)) ((((sy_ai F 55).getD ((49 + (sy_i F 72).toInt)).toNat 0) - (sy_i F 70)).toInt) := congrArg Int32.toInt q76
          have n80 : nzI (((53 : Int32)) + (sy_i F 72)) ((53 + (sy_i F 72).toInt)) := nz_add (by decide : ((53 : Int32)).toInt = 53) (rfl : (sy_i F 72).toInt = (sy_i F 72).toInt) (by omega) (by omega)
          have q81 : (sy_ai F 55).getD (((53 : Int32)) + (sy_i F 72)).toNatClampNeg 0 = (sy_ai F 55).getD ((53 + (sy_i F 72).toInt)).toNat 0 := by simp only [nz_c, (nzE n80), (by decide : ((53 : Int32)).toInt = 53)]
          have n81 : nzI ((sy_ai F 55).getD (((53 : Int32)) + (sy_i F 72)).toNatClampNeg 0) (((sy_ai F 55).getD ((53 + (sy_i F 72).toInt)).toNat 0).toInt) := congrArg Int32.toInt q81
          have n82 : nzI (((49 : Int32)) + (sy_i F 71)) ((49 + (sy_i F 71).toInt)) := nz_add (by decide : ((49 : Int32)).toInt = 49) (rfl : (sy_i F 71).toInt = (sy_i F 71).toInt) (by omega) (by omega)
          have q83 : (sy_ai F 55).getD (((49 : Int32)) + (sy_i F 71)).toNatClampNeg 0 = (sy_ai F 55).getD ((49 + (sy_i F 71).toInt)).toNat 0 := by simp only [nz_c, (nzE n82), (by decide : ((49 : Int32)).toInt = 49)]
          have n83 : nzI ((sy_ai F 55).getD (((49 : Int32)) + (sy_i F 71)).toNatClampNeg 0) (((sy_ai F 55).getD ((49 + (sy_i F 71).toInt)).toNat 0).toInt) := congrArg Int32.toInt q83
          have q84 : ((sy_ai F 55).getD (((49 : Int32)) + (sy_i F 71)).toNatClampNeg 0) - (sy_i F 70) = ((sy_ai F 55).getD ((49 + (sy_i F 71).toInt)).toNat 0) - (sy_i F 70) := by simp only [nz_c, (nzE n82), (by decide : ((49 : Int32)).toInt = 49)]
          have n84 : nzI (((sy_ai F 55).getD (((49 : Int32)) + (sy_i F 71)).toNatClampNeg 0) - (sy_i F 70)) ((((sy_ai F 55).getD ((49 + (sy_i F 71).toInt)).toNat 0) - (sy_i F 70)).toInt) := congrArg Int32.toInt q84
          have n85 : nzI ((sy_i F 72) + ((1 : Int32))) (((sy_i F 72).toInt + 1)) := nz_add (rfl : (sy_i F 72).toInt = (sy_i F 72).toInt) (by decide : ((1 : Int32)).toInt = 1) (by omega) (by omega)
          exact yca_22_p3 hd F X1 X2 hB (by first | exact ⟨by omega, by omega⟩ | (simp only [nz_c]; exact ⟨by omega, by omega⟩)) (by first | exact g0 | (simp only [nz_c]; exact g0) | (rw [(nzE n73)]; exact g0)) (by first | (simp only [nz_c, (nzE n74)]; exact ⟨by omega, by omega⟩) | exact ⟨by omega, by omega⟩ | (rw [(nzE n74)]; exact ⟨by omega, by omega⟩)) (by first | (simp only [nz_c, (nzE n74)]; exact g1) | exact g1 | (rw [(nzE n75)]; exact g1)) (by first | (simp only [nz_c, (nzE n77), (nzE n78)]; exact ⟨by omega, by omega⟩) | exact ⟨by omega, by omega⟩ | (rw [(nzE n78)]; exact ⟨by omega, by omega⟩)) (by first | (simp only [nz_c, (nzE n74), (nzE n77), (nzE n78)]; exact g2) | exact g2 | (rw [(nzE n79)]; exact g2) | (rw [(nzE n76)]; exact g2) | (rw [(nzE n79), (nzE n76)]; exact g2)) (by first | (simp only [nz_c, (nzE n80)]; exact ⟨by omega, by omega⟩) | exact ⟨by omega, by omega⟩ | (rw [(nzE n80)]; exact ⟨by omega, by omega⟩)) (by first | (simp only [nz_c, (nzE n80)]; exact g3) | exact g3 | (rw [(nzE n81)]; exact g3)) (by first | exact g4 | (simp only [nz_c]; exact g4)) (by first | (simp only [nz_c, (nzE n82)]; exact ⟨by omega, by omega⟩) | exact ⟨by omega, by omega⟩ | (rw [(nzE n82)]; exact ⟨by omega, by omega⟩)) (by first | (simp only [nz_c, (nzE n82)]; exact g5) | exact g5 | (rw [(nzE n83)]; exact g5)) (by first | (simp only [nz_c, (nzE n74), (nzE n82)]; exact g6) | exact g6 | (rw [(nzE n84)]; exact g6) | (rw [(nzE n76)]; exact g6) | (rw [(nzE n84), (nzE n76)]; exact g6)) (fun F1 g e69 e70 e71 e72 => k3 g0 g1 g2 g3 g4 g5 g6 F1 (nz_in hB [] (fun j hj hn => g j hj (by simp only [List.mem_cons, List.not_mem_nil, or_false, not_or] at hn; exact trivial)) (List.forall_mem_nil _)) (fun j hj hn => g j hj (by simp only [List.mem_cons, List.not_mem_nil, or_false, not_or] at hn; exact trivial)) ((congrArg Int32.toInt (zz_i e69)).trans (rfl : (sy_i F 69).toInt = (sy_i F 69).toInt)) ((zz_i e69).trans (rfl : sy_i F 69 = sy_i F 69)) ((congrArg Int32.toInt (zz_i e70)).trans (rfl : (sy_i F 70).toInt = (sy_i F 70).toInt)) ((zz_i e70).trans (rfl : sy_i F 70 = sy_i F 70)) ((congrArg Int32.toInt (zz_i e71)).trans (rfl : (sy_i F 71).toInt = (sy_i F 71).toInt)) ((zz_i e71).trans (rfl : sy_i F 71 = sy_i F 71)) ((congrArg Int32.toInt (zz_i e72)).trans (nzE n85)) ((zz_i e72).trans (rfl : (sy_i F 72) + ((1 : Int32)) = (sy_i F 72) + ((1 : Int32)))))
        replace g6 : (((sy_ai F 55).getD ((49 + (sy_i F 72).toInt)).toNat 0) - (sy_i F 70)).toInt < (((sy_ai F 55).getD ((49 + (sy_i F 71).toInt)).toNat 0) - (sy_i F 70)).toInt := by omega
        have c11 := nz_bx hB (k := 11) (lo := 0) (hi := 1) rfl
        have q73 : (sy_ai F 35).getD (sy_i F 11).toNatClampNeg 0 = (sy_ai F 35).getD ((sy_i F 11).toInt).toNat 0 := by simp only [nz_c]
        have n73 : nzI ((sy_ai F 35).getD (sy_i F 11).toNatClampNeg 0) (((sy_ai F 35).getD ((sy_i F 11).toInt).toNat 0).toInt) := congrArg Int32.toInt q73
        have r73 := nz_ba hB (k := 35) (lo := 0) (hi := 4) rfl ((sy_i F 11).toInt).toNat
        have n74 : nzI (((49 : Int32)) + (sy_i F 72)) ((49 + (sy_i F 72).toInt)) := nz_add (by decide : ((49 : Int32)).toInt = 49) (rfl : (sy_i F 72).toInt = (sy_i F 72).toInt) (by omega) (by omega)
        have q75 : (sy_ai F 55).getD (((49 : Int32)) + (sy_i F 72)).toNatClampNeg 0 = (sy_ai F 55).getD ((49 + (sy_i F 72).toInt)).toNat 0 := by simp only [nz_c, (nzE n74), (by decide : ((49 : Int32)).toInt = 49)]
        have n75 : nzI ((sy_ai F 55).getD (((49 : Int32)) + (sy_i F 72)).toNatClampNeg 0) (((sy_ai F 55).getD ((49 + (sy_i F 72).toInt)).toNat 0).toInt) := congrArg Int32.toInt q75
        have n77 : nzI (((4 : Int32)) * (sy_i F 11)) ((4 * (sy_i F 11).toInt)) := nz_mul (by decide : ((4 : Int32)).toInt = 4) (rfl : (sy_i F 11).toInt = (sy_i F 11).toInt) (by omega) (by omega)
        have n78 : nzI ((((4 : Int32)) * (sy_i F 11)) + (sy_i F 72)) (((4 * (sy_i F 11).toInt) + (sy_i F 72).toInt)) := nz_add (nzE n77) (rfl : (sy_i F 72).toInt = (sy_i F 72).toInt) (by omega) (by omega)
        have q79 : (sy_ai F 37).getD ((((4 : Int32)) * (sy_i F 11)) + (sy_i F 72)).toNatClampNeg 0 = (sy_ai F 37).getD (((4 * (sy_i F 11).toInt) + (sy_i F 72).toInt)).toNat 0 := by simp only [nz_c, (nzE n77), (nzE n78), (by decide : ((4 : Int32)).toInt = 4)]
        have n79 : nzI ((sy_ai F 37).getD ((((4 : Int32)) * (sy_i F 11)) + (sy_i F 72)).toNatClampNeg 0) (((sy_ai F 37).getD (((4 * (sy_i F 11).toInt) + (sy_i F 72).toInt)).toNat 0).toInt) := congrArg Int32.toInt q79
        have q76 : ((sy_ai F 55).getD (((49 : Int32)) + (sy_i F 72)).toNatClampNeg 0) - (sy_i F 70) = ((sy_ai F 55).getD ((49 + (sy_i F 72).toInt)).toNat 0) - (sy_i F 70) := by simp only [nz_c, (nzE n74), (by decide : ((49 : Int32)).toInt = 49)]
        have n76 : nzI (((sy_ai F 55).getD (((49 : Int32)) + (sy_i F 72)).toNatClampNeg 0) - (sy_i F 70)) ((((sy_ai F 55).getD ((49 + (sy_i F 72).toInt)).toNat 0) - (sy_i F 70)).toInt) := congrArg Int32.toInt q76
        have n80 : nzI (((53 : Int32)) + (sy_i F 72)) ((53 + (sy_i F 72).toInt)) := nz_add (by decide : ((53 : Int32)).toInt = 53) (rfl : (sy_i F 72).toInt = (sy_i F 72).toInt) (by omega) (by omega)
        have q81 : (sy_ai F 55).getD (((53 : Int32)) + (sy_i F 72)).toNatClampNeg 0 = (sy_ai F 55).getD ((53 + (sy_i F 72).toInt)).toNat 0 := by simp only [nz_c, (nzE n80), (by decide : ((53 : Int32)).toInt = 53)]
        have n81 : nzI ((sy_ai F 55).getD (((53 : Int32)) + (sy_i F 72)).toNatClampNeg 0) (((sy_ai F 55).getD ((53 + (sy_i F 72).toInt)).toNat 0).toInt) := congrArg Int32.toInt q81
        have n82 : nzI (((49 : Int32)) + (sy_i F 71)) ((49 + (sy_i F 71).toInt)) := nz_add (by decide : ((49 : Int32)).toInt = 49) (rfl : (sy_i F 71).toInt = (sy_i F 71).toInt) (by omega) (by omega)
        have q83 : (sy_ai F 55).getD (((49 : Int32)) + (sy_i F 71)).toNatClampNeg 0 = (sy_ai F 55).getD ((49 + (sy_i F 71).toInt)).toNat 0 := by simp only [nz_c, (nzE n82), (by decide : ((49 : Int32)).toInt = 49)]
        have n83 : nzI ((sy_ai F 55).getD (((49 : Int32)) + (sy_i F 71)).toNatClampNeg 0) (((sy_ai F 55).getD ((49 + (sy_i F 71).toInt)).toNat 0).toInt) := congrArg Int32.toInt q83
        have q84 : ((sy_ai F 55).getD (((49 : Int32)) + (sy_i F 71)).toNatClampNeg 0) - (sy_i F 70) = ((sy_ai F 55).getD ((49 + (sy_i F 71).toInt)).toNat 0) - (sy_i F 70) := by simp only [nz_c, (nzE n82), (by decide : ((49 : Int32)).toInt = 49)]
        have n84 : nzI (((sy_ai F 55).getD (((49 : Int32)) + (sy_i F 71)).toNatClampNeg 0) - (sy_i F 70)) ((((sy_ai F 55).getD ((49 + (sy_i F 71).toInt)).toNat 0) - (sy_i F 70)).toInt) := congrArg Int32.toInt q84
        have n85 : nzI ((sy_i F 72) + ((1 : Int32))) (((sy_i F 72).toInt + 1)) := nz_add (rfl : (sy_i F 72).toInt = (sy_i F 72).toInt) (by decide : ((1 : Int32)).toInt = 1) (by omega) (by omega)
        exact yca_22_p4 hd F X1 X2 hB (by first | exact ⟨by omega, by omega⟩ | (simp only [nz_c]; exact ⟨by omega, by omega⟩)) (by first | exact g0 | (simp only [nz_c]; exact g0) | (rw [(nzE n73)]; exact g0)) (by first | (simp only [nz_c, (nzE n74)]; exact ⟨by omega, by omega⟩) | exact ⟨by omega, by omega⟩ | (rw [(nzE n74)]; exact ⟨by omega, by omega⟩)) (by first | (simp only [nz_c, (nzE n74)]; exact g1) | exact g1 | (rw [(nzE n75)]; exact g1)) (by first | (simp only [nz_c, (nzE n77), (nzE n78)]; exact ⟨by omega, by omega⟩) | exact ⟨by omega, by omega⟩ | (rw [(nzE n78)]; exact ⟨by omega, by omega⟩)) (by first | (simp only [nz_c, (nzE n74), (nzE n77), (nzE n78)]; exact g2) | exact g2 | (rw [(nzE n79)]; exact g2) | (rw [(nzE n76)]; exact g2) | (rw [(nzE n79), (nzE n76)]; exact g2)) (by first | (simp only [nz_c, (nzE n80)]; exact ⟨by omega, by omega⟩) | exact ⟨by omega, by omega⟩ | (rw [(nzE n80)]; exact ⟨by omega, by omega⟩)) (by first | (simp only [nz_c, (nzE n80)]; exact g3) | exact g3 | (rw [(nzE n81)]; exact g3)) (by first | exact g4 | (simp only [nz_c]; exact g4)) (by first | (simp only [nz_c, (nzE n82)]; exact ⟨by omega, by omega⟩) | exact ⟨by omega, by omega⟩ | (rw [(nzE n82)]; exact ⟨by omega, by omega⟩)) (by first | (simp only [nz_c, (nzE n82)]; exact g5) | exact g5 | (rw [(nzE n83)]; exact g5)) (by first | (simp only [nz_c, (nzE n74), (nzE n82)]; exact g6) | exact g6 | (rw [(nzE n84)]; exact g6) | (rw [(nzE n76)]; exact g6) | (rw [(nzE n84), (nzE n76)]; exact g6)) (fun F1 g e69 e70 e71 e72 => k4 g0 g1 g2 g3 g4 g5 g6 F1 (nz_in hB [] (fun j hj hn => g j hj (by simp only [List.mem_cons, List.not_mem_nil, or_false, not_or] at hn; exact trivial)) (List.forall_mem_nil _)) (fun j hj hn => g j hj (by simp only [List.mem_cons, List.not_mem_nil, or_false, not_or] at hn; exact trivial)) ((congrArg Int32.toInt (zz_i e69)).trans (rfl : (sy_i F 69).toInt = (sy_i F 69).toInt)) ((zz_i e69).trans (rfl : sy_i F 69 = sy_i F 69)) ((congrArg Int32.toInt (zz_i e70)).trans (rfl : (sy_i F 70).toInt = (sy_i F 70).toInt)) ((zz_i e70).trans (rfl : sy_i F 70 = sy_i F 70)) ((congrArg Int32.toInt (zz_i e71)).trans (rfl : (sy_i F 72).toInt = (sy_i F 72).toInt)) ((zz_i e71).trans (rfl : sy_i F 72 = sy_i F 72)) ((congrArg Int32.toInt (zz_i e72)).trans (nzE n85)) ((zz_i e72).trans (rfl : (sy_i F 72) + ((1 : Int32)) = (sy_i F 72) + ((1 : Int32)))))
      replace g5 : ((sy_ai F 55).getD ((49 + (sy_i F 71).toInt)).toNat 0).toInt < (sy_i F 70).toInt := by omega
      by_cases g6 : ((sy_i F 70) - ((sy_ai F 55).getD ((49 + (sy_i F 71).toInt)).toNat 0)).toInt ≤ (((sy_ai F 55).getD ((49 + (sy_i F 72).toInt)).toNat 0) - (sy_i F 70)).toInt
      · have c11 := nz_bx hB (k := 11) (lo := 0) (hi := 1) rfl
        have q73 : (sy_ai F 35).getD (sy_i F 11).toNatClampNeg 0 = (sy_ai F 35).getD ((sy_i F 11).toInt).toNat 0 := by simp only [nz_c]
        have n73 : nzI ((sy_ai F 35).getD (sy_i F 11).toNatClampNeg 0) (((sy_ai F 35).getD ((sy_i F 11).toInt).toNat 0).toInt) := congrArg Int32.toInt q73
        have r73 := nz_ba hB (k := 35) (lo := 0) (hi := 4) rfl ((sy_i F 11).toInt).toNat
        have n74 : nzI (((49 : Int32)) + (sy_i F 72)) ((49 + (sy_i F 72).toInt)) := nz_add (by decide : ((49 : Int32)).toInt = 49) (rfl : (sy_i F 72).toInt = (sy_i F 72).toInt) (by omega) (by omega)
        have q75 : (sy_ai F 55).getD (((49 : Int32)) + (sy_i F 72)).toNatClampNeg 0 = (sy_ai F 55).getD ((49 + (sy_i F 72).toInt)).toNat 0 := by simp only [nz_c, (nzE n74), (by decide : ((49 : Int32)).toInt = 49)]
        have n75 : nzI ((sy_ai F 55).getD (((49 : Int32)) + (sy_i F 72)).toNatClampNeg 0) (((sy_ai F 55).getD ((49 + (sy_i F 72).toInt)).toNat 0).toInt) := congrArg Int32.toInt q75
        have n77 : nzI (((4 : Int32)) * (sy_i F 11)) ((4 * (sy_i F 11).toInt)) := nz_mul (by decide : ((4 : Int32)).toInt = 4) (rfl : (sy_i F 11).toInt = (sy_i F 11).toInt) (by omega) (by omega)
        have n78 : nzI ((((4 : Int32)) * (sy_i F 11)) + (sy_i F 72)) (((4 * (sy_i F 11).toInt) + (sy_i F 72).toInt)) := nz_add (nzE n77) (rfl : (sy_i F 72).toInt = (sy_i F 72).toInt) (by omega) (by omega)
        have q79 : (sy_ai F 37).getD ((((4 : Int32)) * (sy_i F 11)) + (sy_i F 72)).toNatClampNeg 0 = (sy_ai F 37).getD (((4 * (sy_i F 11).toInt) + (sy_i F 72).toInt)).toNat 0 := by simp only [nz_c, (nzE n77), (nzE n78), (by decide : ((4 : Int32)).toInt = 4)]
        have n79 : nzI ((sy_ai F 37).getD ((((4 : Int32)) * (sy_i F 11)) + (sy_i F 72)).toNatClampNeg 0) (((sy_ai F 37).getD (((4 * (sy_i F 11).toInt) + (sy_i F 72).toInt)).toNat 0).toInt) := congrArg Int32.toInt q79
        have q76 : ((sy_ai F 55).getD (((49 : Int32)) + (sy_i F 72)).toNatClampNeg 0) - (sy_i F 70) = ((sy_ai F 55).getD ((49 + (sy_i F 72).toInt)).toNat 0) - (sy_i F 70) := by simp only [nz_c, (nzE n74), (by decide : ((49 : Int32)).toInt = 49)]
        have n76 : nzI (((sy_ai F 55).getD (((49 : Int32)) + (sy_i F 72)).toNatClampNeg 0) - (sy_i F 70)) ((((sy_ai F 55).getD ((49 + (sy_i F 72).toInt)).toNat 0) - (sy_i F 70)).toInt) := congrArg Int32.toInt q76
        have n80 : nzI (((53 : Int32)) + (sy_i F 72)) ((53 + (sy_i F 72).toInt)) := nz_add (by decide : ((53 : Int32)).toInt = 53) (rfl : (sy_i F 72).toInt = (sy_i F 72).toInt) (by omega) (by omega)
        have q81 : (sy_ai F 55).getD (((53 : Int32)) + (sy_i F 72)).toNatClampNeg 0 = (sy_ai F 55).getD ((53 + (sy_i F 72).toInt)).toNat 0 := by simp only [nz_c, (nzE n80), (by decide : ((53 : Int32)).toInt = 53)]
        have n81 : nzI ((sy_ai F 55).getD (((53 : Int32)) + (sy_i F 72)).toNatClampNeg 0) (((sy_ai F 55).getD ((53 + (sy_i F 72).toInt)).toNat 0).toInt) := congrArg Int32.toInt q81
        have n82 : nzI (((49 : Int32)) + (sy_i F 71)) ((49 + (sy_i F 71).toInt)) := nz_add (by decide : ((49 : Int32)).toInt = 49) (rfl : (sy_i F 71).toInt = (sy_i F 71).toInt) (by omega) (by omega)
        have q83 : (sy_ai F 55).getD (((49 : Int32)) + (sy_i F 71)).toNatClampNeg 0 = (sy_ai F 55).getD ((49 + (sy_i F 71).toInt)).toNat 0 := by simp only [nz_c, (nzE n82), (by decide : ((49 : Int32)).toInt = 49)]
        have n83 : nzI ((sy_ai F 55).getD (((49 : Int32)) + (sy_i F 71)).toNatClampNeg 0) (((sy_ai F 55).getD ((49 + (sy_i F 71).toInt)).toNat 0).toInt) := congrArg Int32.toInt q83
        have q84 : (sy_i F 70) - ((sy_ai F 55).getD (((49 : Int32)) + (sy_i F 71)).toNatClampNeg 0) = (sy_i F 70) - ((sy_ai F 55).getD ((49 + (sy_i F 71).toInt)).toNat 0) := by simp only [nz_c, (nzE n82), (by decide : ((49 : Int32)).toInt = 49)]
        have n84 : nzI ((sy_i F 70) - ((sy_ai F 55).getD (((49 : Int32)) + (sy_i F 71)).toNatClampNeg 0)) (((sy_i F 70) - ((sy_ai F 55).getD ((49 + (sy_i F 71).toInt)).toNat 0)).toInt) := congrArg Int32.toInt q84
        have n85 : nzI ((sy_i F 72) + ((1 : Int32))) (((sy_i F 72).toInt + 1)) := nz_add (rfl : (sy_i F 72).toInt = (sy_i F 72).toInt) (by decide : ((1 : Int32)).toInt = 1) (by omega) (by omega)
        exact yca_22_p5 hd F X1 X2 hB (by first | exact ⟨by omega, by omega⟩ | (simp only [nz_c]; exact ⟨by omega, by omega⟩)) (by first | exact g0 | (simp only [nz_c]; exact g0) | (rw [(nzE n73)]; exact g0)) (by first | (simp only [nz_c, (nzE n74)]; exact ⟨by omega, by omega⟩) | exact ⟨by omega, by omega⟩ | (rw [(nzE n74)]; exact ⟨by omega, by omega⟩)) (by first | (simp only [nz_c, (nzE n74)]; exact g1) | exact g1 | (rw [(nzE n75)]; exact g1)) (by first | (simp only [nz_c, (nzE n77), (nzE n78)]; exact ⟨by omega, by omega⟩) | exact ⟨by omega, by omega⟩ | (rw [(nzE n78)]; exact ⟨by omega, by omega⟩)) (by first | (simp only [nz_c, (nzE n74), (nzE n77), (nzE n78)]; exact g2) | exact g2 | (rw [(nzE n79)]; exact g2) | (rw [(nzE n76)]; exact g2) | (rw [(nzE n79), (nzE n76)]; exact g2)) (by first | (simp only [nz_c, (nzE n80)]; exact ⟨by omega, by omega⟩) | exact ⟨by omega, by omega⟩ | (rw [(nzE n80)]; exact ⟨by omega, by omega⟩)) (by first | (simp only [nz_c, (nzE n80)]; exact g3) | exact g3 | (rw [(nzE n81)]; exact g3)) (by first | exact g4 | (simp only [nz_c]; exact g4)) (by first | (simp only [nz_c, (nzE n82)]; exact ⟨by omega, by omega⟩) | exact ⟨by omega, by omega⟩ | (rw [(nzE n82)]; exact ⟨by omega, by omega⟩)) (by first | (simp only [nz_c, (nzE n82)]; exact g5) | exact g5 | (rw [(nzE n83)]; exact g5)) (by first | (simp only [nz_c, (nzE n74), (nzE n82)]; exact g6) | exact g6 | (rw [(nzE n84)]; exact g6) | (rw [(nzE n76)]; exact g6) | (rw [(nzE n84), (nzE n76)]; exact g6)) (fun F1 g e69 e70 e71 e72 => k5 g0 g1 g2 g3 g4 g5 g6 F1 (nz_in hB [] (fun j hj hn => g j hj (by simp only [List.mem_cons, List.not_mem_nil, or_false, not_or] at hn; exact trivial)) (List.forall_mem_nil _)) (fun j hj hn => g j hj (by simp only [List.mem_cons, List.not_mem_nil, or_false, not_or] at hn; exact trivial)) ((congrArg Int32.toInt (zz_i e69)).trans (rfl : (sy_i F 69).toInt = (sy_i F 69).toInt)) ((zz_i e69).trans (rfl : sy_i F 69 = sy_i F 69)) ((congrArg Int32.toInt (zz_i e70)).trans (rfl : (sy_i F 70).toInt = (sy_i F 70).toInt)) ((zz_i e70).trans (rfl : sy_i F 70 = sy_i F 70)) ((congrArg Int32.toInt (zz_i e71)).trans (rfl : (sy_i F 71).toInt = (sy_i F 71).toInt)) ((zz_i e71).trans (rfl : sy_i F 71 = sy_i F 71)) ((congrArg Int32.toInt (zz_i e72)).trans (nzE n85)) ((zz_i e72).trans (rfl : (sy_i F 72) + ((1 : Int32)) = (sy_i F 72) + ((1 : Int32)))))
      replace g6 : (((sy_ai F 55).getD ((49 + (sy_i F 72).toInt)).toNat 0) - (sy_i F 70)).toInt < ((sy_i F 70) - ((sy_ai F 55).getD ((49 + (sy_i F 71).toInt)).toNat 0)).toInt := by omega
      have c11 := nz_bx hB (k := 11) (lo := 0) (hi := 1) rfl
      have q73 : (sy_ai F 35).getD (sy_i F 11).toNatClampNeg 0 = (sy_ai F 35).getD ((sy_i F 11).toInt).toNat 0 := by simp only [nz_c]
      have n73 : nzI ((sy_ai F 35).getD (sy_i F 11).toNatClampNeg 0) (((sy_ai F 35).getD ((sy_i F 11).toInt).toNat 0).toInt) := congrArg Int32.toInt q73
      have r73 := nz_ba hB (k := 35) (lo := 0) (hi := 4) rfl ((sy_i F 11).toInt).toNat
      have n74 : nzI (((49 : Int32)) + (sy_i F 72)) ((49 + (sy_i F 72).toInt)) := nz_add (by decide : ((49 : Int32)).toInt = 49) (rfl : (sy_i F 72).toInt = (sy_i F 72).toInt) (by omega) (by omega)
      have q75 : (sy_ai F 55).getD (((49 : Int32)) + (sy_i F 72)).toNatClampNeg 0 = (sy_ai F 55).getD ((49 + (sy_i F 72).toInt)).toNat 0 := by simp only [nz_c, (nzE n74), (by decide : ((49 : Int32)).toInt = 49)]
      have n75 : nzI ((sy_ai F 55).getD (((49 : Int32)) + (sy_i F 72)).toNatClampNeg 0) (((sy_ai F 55).getD ((49 + (sy_i F 72).toInt)).toNat 0).toInt) := congrArg Int32.toInt q75
      have n77 : nzI (((4 : Int32)) * (sy_i F 11)) ((4 * (sy_i F 11).toInt)) := nz_mul (by decide : ((4 : Int32)).toInt = 4) (rfl : (sy_i F 11).toInt = (sy_i F 11).toInt) (by omega) (by omega)
      have n78 : nzI ((((4 : Int32)) * (sy_i F 11)) + (sy_i F 72)) (((4 * (sy_i F 11).toInt) + (sy_i F 72).toInt)) := nz_add (nzE n77) (rfl : (sy_i F 72).toInt = (sy_i F 72).toInt) (by omega) (by omega)
      have q79 : (sy_ai F 37).getD ((((4 : Int32)) * (sy_i F 11)) + (sy_i F 72)).toNatClampNeg 0 = (sy_ai F 37).getD (((4 * (sy_i F 11).toInt) + (sy_i F 72).toInt)).toNat 0 := by simp only [nz_c, (nzE n77), (nzE n78), (by decide : ((4 : Int32)).toInt = 4)]
      have n79 : nzI ((sy_ai F 37).getD ((((4 : Int32)) * (sy_i F 11)) + (sy_i F 72)).toNatClampNeg 0) (((sy_ai F 37).getD (((4 * (sy_i F 11).toInt) + (sy_i F 72).toInt)).toNat 0).toInt) := congrArg Int32.toInt q79
      have q76 : ((sy_ai F 55).getD (((49 : Int32)) + (sy_i F 72)).toNatClampNeg 0) - (sy_i F 70) = ((sy_ai F 55).getD ((49 + (sy_i F 72).toInt)).toNat 0) - (sy_i F 70) := by simp only [nz_c, (nzE n74), (by decide : ((49 : Int32)).toInt = 49)]
      have n76 : nzI (((sy_ai F 55).getD (((49 : Int32)) + (sy_i F 72)).toNatClampNeg 0) - (sy_i F 70)) ((((sy_ai F 55).getD ((49 + (sy_i F 72).toInt)).toNat 0) - (sy_i F 70)).toInt) := congrArg Int32.toInt q76
      have n80 : nzI (((53 : Int32)) + (sy_i F 72)) ((53 + (sy_i F 72).toInt)) := nz_add (by decide : ((53 : Int32)).toInt = 53) (rfl : (sy_i F 72).toInt = (sy_i F 72).toInt) (by omega) (by omega)
      have q81 : (sy_ai F 55).getD (((53 : Int32)) + (sy_i F 72)).toNatClampNeg 0 = (sy_ai F 55).getD ((53 + (sy_i F 72).toInt)).toNat 0 := by simp only [nz_c, (nzE n80), (by decide : ((53 : Int32)).toInt = 53)]
      have n81 : nzI ((sy_ai F 55).getD (((53 : Int32)) + (sy_i F 72)).toNatClampNeg 0) (((sy_ai F 55).getD ((53 + (sy_i F 72).toInt)).toNat 0).toInt) := congrArg Int32.toInt q81
      have n82 : nzI (((49 : Int32)) + (sy_i F 71)) ((49 + (sy_i F 71).toInt)) := nz_add (by decide : ((49 : Int32)).toInt = 49) (rfl : (sy_i F 71).toInt = (sy_i F 71).toInt) (by omega) (by omega)
      have q83 : (sy_ai F 55).getD (((49 : Int32)) + (sy_i F 71)).toNatClampNeg 0 = (sy_ai F 55).getD ((49 + (sy_i F 71).toInt)).toNat 0 := by simp only [nz_c, (nzE n82), (by decide : ((49 : Int32)).toInt = 49)]
      have n83 : nzI ((sy_ai F 55).getD (((49 : Int32)) + (sy_i F 71)).toNatClampNeg 0) (((sy_ai F 55).getD ((49 + (sy_i F 71).toInt)).toNat 0).toInt) := congrArg Int32.toInt q83
      have q84 : (sy_i F 70) - ((sy_ai F 55).getD (((49 : Int32)) + (sy_i F 71)).toNatClampNeg 0) = (sy_i F 70) - ((sy_ai F 55).getD ((49 + (sy_i F 71).toInt)).toNat 0) := by simp only [nz_c, (nzE n82), (by decide : ((49 : Int32)).toInt = 49)]
      have n84 : nzI ((sy_i F 70) - ((sy_ai F 55).getD (((49 : Int32)) + (sy_i F 71)).toNatClampNeg 0)) (((sy_i F 70) - ((sy_ai F 55).getD ((49 + (sy_i F 71).toInt)).toNat 0)).toInt) := congrArg Int32.toInt q84
      have n85 : nzI ((sy_i F 72) + ((1 : Int32))) (((sy_i F 72).toInt + 1)) := nz_add (rfl : (sy_i F 72).toInt = (sy_i F 72).toInt) (by decide : ((1 : Int32)).toInt = 1) (by omega) (by omega)
      exact yca_22_p6 hd F X1 X2 hB (by first | exact ⟨by omega, by omega⟩ | (simp only [nz_c]; exact ⟨by omega, by omega⟩)) (by first | exact g0 | (simp only [nz_c]; exact g0) | (rw [(nzE n73)]; exact g0)) (by first | (simp only [nz_c, (nzE n74)]; exact ⟨by omega, by omega⟩) | exact ⟨by omega, by omega⟩ | (rw [(nzE n74)]; exact ⟨by omega, by omega⟩)) (by first | (simp only [nz_c, (nzE n74)]; exact g1) | exact g1 | (rw [(nzE n75)]; exact g1)) (by first | (simp only [nz_c, (nzE n77), (nzE n78)]; exact ⟨by omega, by omega⟩) | exact ⟨by omega, by omega⟩ | (rw [(nzE n78)]; exact ⟨by omega, by omega⟩)) (by first | (simp only [nz_c, (nzE n74), (nzE n77), (nzE n78)]; exact g2) | exact g2 | (rw [(nzE n79)]; exact g2) | (rw [(nzE n76)]; exact g2) | (rw [(nzE n79), (nzE n76)]; exact g2)) (by first | (simp only [nz_c, (nzE n80)]; exact ⟨by omega, by omega⟩) | exact ⟨by omega, by omega⟩ | (rw [(nzE n80)]; exact ⟨by omega, by omega⟩)) (by first | (simp only [nz_c, (nzE n80)]; exact g3) | exact g3 | (rw [(nzE n81)]; exact g3)) (by first | exact g4 | (simp only [nz_c]; exact g4)) (by first | (simp only [nz_c, (nzE n82)]; exact ⟨by omega, by omega⟩) | exact ⟨by omega, by omega⟩ | (rw [(nzE n82)]; exact ⟨by omega, by omega⟩)) (by first | (simp only [nz_c, (nzE n82)]; exact g5) | exact g5 | (rw [(nzE n83)]; exact g5)) (by first | (simp only [nz_c, (nzE n74), (nzE n82)]; exact g6) | exact g6 | (rw [(nzE n84)]; exact g6) | (rw [(nzE n76)]; exact g6) | (rw [(nzE n84), (nzE n76)]; exact g6)) (fun F1 g e69 e70 e71 e72 => k6 g0 g1 g2 g3 g4 g5 g6 F1 (nz_in hB [] (fun j hj hn => g j hj (by simp only [List.mem_cons, List.not_mem_nil, or_false, not_or] at hn; exact trivial)) (List.forall_mem_nil _)) (fun j hj hn => g j hj (by simp only [List.mem_cons, List.not_mem_nil, or_false, not_or] at hn; exact trivial)) ((congrArg Int32.toInt (zz_i e69)).trans (rfl : (sy_i F 69).toInt = (sy_i F 69).toInt)) ((zz_i e69).trans (rfl : sy_i F 69 = sy_i F 69)) ((congrArg Int32.toInt (zz_i e70)).trans (rfl : (sy_i F 70).toInt = (sy_i F 70).toInt)) ((zz_i e70).trans (rfl : sy_i F 70 = sy_i F 70)) ((congrArg Int32.toInt (zz_i e71)).trans (rfl : (sy_i F 72).toInt = (sy_i F 72).toInt)) ((zz_i e71).trans (rfl : sy_i F 72 = sy_i F 72)) ((congrArg Int32.toInt (zz_i e72)).trans (nzE n85)) ((zz_i e72).trans (rfl : (sy_i F 72) + ((1 : Int32)) = (sy_i F 72) + ((1 : Int32)))))
    replace g3 : ((sy_ai F 55).getD ((53 + (sy_i F 72).toInt)).toNat 0).toInt < (sy_i F 69).toInt := by omega
    have c11 := nz_bx hB (k := 11) (lo := 0) (hi := 1) rfl
    have q73 : (sy_ai F 35).getD (sy_i F 11).toNatClampNeg 0 = (sy_ai F 35).getD ((sy_i F 11).toInt).toNat 0 := by simp only [nz_c]
    have n73 : nzI ((sy_ai F 35).getD (sy_i F 11).toNatClampNeg 0) (((sy_ai F 35).getD ((sy_i F 11).toInt).toNat 0).toInt) := congrArg Int32.toInt q73
    have r73 := nz_ba hB (k := 35) (lo := 0) (hi := 4) rfl ((sy_i F 11).toInt).toNat
    have n74 : nzI (((49 : Int32)) + (sy_i F 72)) ((49 + (sy_i F 72).toInt)) := nz_add (by decide : ((49 : Int32)).toInt = 49) (rfl : (sy_i F 72).toInt = (sy_i F 72).toInt) (by omega) (by omega)
    have q75 : (sy_ai F 55).getD (((49 : Int32)) + (sy_i F 72)).toNatClampNeg 0 = (sy_ai F 55).getD ((49 + (sy_i F 72).toInt)).toNat 0 := by simp only [nz_c, (nzE n74), (by decide : ((49 : Int32)).toInt = 49)]
    have n75 : nzI ((sy_ai F 55).getD (((49 : Int32)) + (sy_i F 72)).toNatClampNeg 0) (((sy_ai F 55).getD ((49 + (sy_i F 72).toInt)).toNat 0).toInt) := congrArg Int32.toInt q75
    have n77 : nzI (((4 : Int32)) * (sy_i F 11)) ((4 * (sy_i F 11).toInt)) := nz_mul (by decide : ((4 : Int32)).toInt = 4) (rfl : (sy_i F 11).toInt = (sy_i F 11).toInt) (by omega) (by omega)
    have n78 : nzI ((((4 : Int32)) * (sy_i F 11)) + (sy_i F 72)) (((4 * (sy_i F 11).toInt) + (sy_i F 72).toInt)) := nz_add (nzE n77) (rfl : (sy_i F 72).toInt = (sy_i F 72).toInt) (by omega) (by omega)
    have q79 : (sy_ai F 37).getD ((((4 : Int32)) * (sy_i F 11)) + (sy_i F 72)).toNatClampNeg 0 = (sy_ai F 37).getD (((4 * (sy_i F 11).toInt) + (sy_i F 72).toInt)).toNat 0 := by simp only [nz_c, (nzE n77), (nzE n78), (by decide : ((4 : Int32)).toInt = 4)]
    have n79 : nzI ((sy_ai F 37).getD ((((4 : Int32)) * (sy_i F 11)) + (sy_i F 72)).toNatClampNeg 0) (((sy_ai F 37).getD (((4 * (sy_i F 11).toInt) + (sy_i F 72).toInt)).toNat 0).toInt) := congrArg Int32.toInt q79
    have q76 : ((sy_ai F 55).getD (((49 : Int32)) + (sy_i F 72)).toNatClampNeg 0) - (sy_i F 70) = ((sy_ai F 55).getD ((49 + (sy_i F 72).toInt)).toNat 0) - (sy_i F 70) := by simp only [nz_c, (nzE n74), (by decide : ((49 : Int32)).toInt = 49)]
    have n76 : nzI (((sy_ai F 55).getD (((49 : Int32)) + (sy_i F 72)).toNatClampNeg 0) - (sy_i F 70)) ((((sy_ai F 55).getD ((49 + (sy_i F 72).toInt)).toNat 0) - (sy_i F 70)).toInt) := congrArg Int32.toInt q76
    have n80 : nzI (((53 : Int32)) + (sy_i F 72)) ((53 + (sy_i F 72).toInt)) := nz_add (by decide : ((53 : Int32)).toInt = 53) (rfl : (sy_i F 72).toInt = (sy_i F 72).toInt) (by omega) (by omega)
    have q81 : (sy_ai F 55).getD (((53 : Int32)) + (sy_i F 72)).toNatClampNeg 0 = (sy_ai F 55).getD ((53 + (sy_i F 72).toInt)).toNat 0 := by simp only [nz_c, (nzE n80), (by decide : ((53 : Int32)).toInt = 53)]
    have n81 : nzI ((sy_ai F 55).getD (((53 : Int32)) + (sy_i F 72)).toNatClampNeg 0) (((sy_ai F 55).getD ((53 + (sy_i F 72).toInt)).toNat 0).toInt) := congrArg Int32.toInt q81
    have n82 : nzI ((sy_i F 72) + ((1 : Int32))) (((sy_i F 72).toInt + 1)) := nz_add (rfl : (sy_i F 72).toInt = (sy_i F 72).toInt) (by decide : ((1 : Int32)).toInt = 1) (by omega) (by omega)
    exact yca_22_p7 hd F X1 X2 hB (by first | exact ⟨by omega, by omega⟩ | (simp only [nz_c]; exact ⟨by omega, by omega⟩)) (by first | exact g0 | (simp only [nz_c]; exact g0) | (rw [(nzE n73)]; exact g0)) (by first | (simp only [nz_c, (nzE n74)]; exact ⟨by omega, by omega⟩) | exact ⟨by omega, by omega⟩ | (rw [(nzE n74)]; exact ⟨by omega, by omega⟩)) (by first | (simp only [nz_c, (nzE n74)]; exact g1) | exact g1 | (rw [(nzE n75)]; exact g1)) (by first | (simp only [nz_c, (nzE n77), (nzE n78)]; exact ⟨by omega, by omega⟩) | exact ⟨by omega, by omega⟩ | (rw [(nzE n78)]; exact ⟨by omega, by omega⟩)) (by first | (simp only [nz_c, (nzE n74), (nzE n77), (nzE n78)]; exact g2) | exact g2 | (rw [(nzE n79)]; exact g2) | (rw [(nzE n76)]; exact g2) | (rw [(nzE n79), (nzE n76)]; exact g2)) (by first | (simp only [nz_c, (nzE n80)]; exact ⟨by omega, by omega⟩) | exact ⟨by omega, by omega⟩ | (rw [(nzE n80)]; exact ⟨by omega, by omega⟩)) (by first | (simp only [nz_c, (nzE n80)]; exact g3) | exact g3 | (rw [(nzE n81)]; exact g3)) (fun F1 g e69 e70 e71 e72 => k7 g0 g1 g2 g3 F1 (nz_in hB [] (fun j hj hn => g j hj (by simp only [List.mem_cons, List.not_mem_nil, or_false, not_or] at hn; exact trivial)) (List.forall_mem_nil _)) (fun j hj hn => g j hj (by simp only [List.mem_cons, List.not_mem_nil, or_false, not_or] at hn; exact trivial)) ((congrArg Int32.toInt (zz_i e69)).trans (rfl : (sy_i F 69).toInt = (sy_i F 69).toInt)) ((zz_i e69).trans (rfl : sy_i F 69 = sy_i F 69)) ((congrArg Int32.toInt (zz_i e70)).trans (rfl : (sy_i F 70).toInt = (sy_i F 70).toInt)) ((zz_i e70).trans (rfl : sy_i F 70 = sy_i F 70)) ((congrArg Int32.toInt (zz_i e71)).trans (rfl : (sy_i F 71).toInt = (sy_i F 71).toInt)) ((zz_i e71).trans (rfl : sy_i F 71 = sy_i F 71)) ((congrArg Int32.toInt (zz_i e72)).trans (nzE n82)) ((zz_i e72).trans (rfl : (sy_i F 72) + ((1 : Int32)) = (sy_i F 72) + ((1 : Int32)))))
  replace g1 : ((sy_ai F 55).getD ((49 + (sy_i F 72).toInt)).toNat 0).toInt < (sy_i F 70).toInt := by omega
  by_cases g2 : ((sy_ai F 37).getD (((4 * (sy_i F 11).toInt) + (sy_i F 72).toInt)).toNat 0).toInt < ((sy_i F 70) - ((sy_ai F 55).getD ((49 + (sy_i F 72).toInt)).toNat 0)).toInt
  · have c11 := nz_bx hB (k := 11) (lo := 0) (hi := 1) rfl
    have q73 : (sy_ai F 35).getD (sy_i F 11).toNatClampNeg 0 = (sy_ai F 35).getD ((sy_i F 11).toInt).toNat 0 := by simp only [nz_c]
    have n73 : nzI ((sy_ai F 35).getD (sy_i F 11).toNatClampNeg 0) (((sy_ai F 35).getD ((sy_i F 11).toInt).toNat 0).toInt) := congrArg Int32.toInt q73
    have r73 := nz_ba hB (k := 35) (lo := 0) (hi := 4) rfl ((sy_i F 11).toInt).toNat
    have n74 : nzI (((49 : Int32)) + (sy_i F 72)) ((49 + (sy_i F 72).toInt)) := nz_add (by decide : ((49 : Int32)).toInt = 49) (rfl : (sy_i F 72).toInt = (sy_i F 72).toInt) (by omega) (by omega)
    have q75 : (sy_ai F 55).getD (((49 : Int32)) + (sy_i F 72)).toNatClampNeg 0 = (sy_ai F 55).getD ((49 + (sy_i F 72).toInt)).toNat 0 := by simp only [nz_c, (nzE n74), (by decide : ((49 : Int32)).toInt = 49)]
    have n75 : nzI ((sy_ai F 55).getD (((49 : Int32)) + (sy_i F 72)).toNatClampNeg 0) (((sy_ai F 55).getD ((49 + (sy_i F 72).toInt)).toNat 0).toInt) := congrArg Int32.toInt q75
    have n77 : nzI (((4 : Int32)) * (sy_i F 11)) ((4 * (sy_i F 11).toInt)) := nz_mul (by decide : ((4 : Int32)).toInt = 4) (rfl : (sy_i F 11).toInt = (sy_i F 11).toInt) (by omega) (by omega)
    have n78 : nzI ((((4 : Int32)) * (sy_i F 11)) + (sy_i F 72)) (((4 * (sy_i F 11).toInt) + (sy_i F 72).toInt)) := nz_add (nzE n77) (rfl : (sy_i F 72).toInt = (sy_i F 72).toInt) (by omega) (by omega)
    have q79 : (sy_ai F 37).getD ((((4 : Int32)) * (sy_i F 11)) + (sy_i F 72)).toNatClampNeg 0 = (sy_ai F 37).getD (((4 * (sy_i F 11).toInt) + (sy_i F 72).toInt)).toNat 0 := by simp only [nz_c, (nzE n77), (nzE n78), (by decide : ((4 : Int32)).toInt = 4)]
    have n79 : nzI ((sy_ai F 37).getD ((((4 : Int32)) * (sy_i F 11)) + (sy_i F 72)).toNatClampNeg 0) (((sy_ai F 37).getD (((4 * (sy_i F 11).toInt) + (sy_i F 72).toInt)).toNat 0).toInt) := congrArg Int32.toInt q79
    have q76 : (sy_i F 70) - ((sy_ai F 55).getD (((49 : Int32)) + (sy_i F 72)).toNatClampNeg 0) = (sy_i F 70) - ((sy_ai F 55).getD ((49 + (sy_i F 72).toInt)).toNat 0) := by simp only [nz_c, (nzE n74), (by decide : ((49 : Int32)).toInt = 49)]
    have n76 : nzI ((sy_i F 70) - ((sy_ai F 55).getD (((49 : Int32)) + (sy_i F 72)).toNatClampNeg 0)) (((sy_i F 70) - ((sy_ai F 55).getD ((49 + (sy_i F 72).toInt)).toNat 0)).toInt) := congrArg Int32.toInt q76
    have n80 : nzI ((sy_i F 72) + ((1 : Int32))) (((sy_i F 72).toInt + 1)) := nz_add (rfl : (sy_i F 72).toInt = (sy_i F 72).toInt) (by decide : ((1 : Int32)).toInt = 1) (by omega) (by omega)
    exact yca_22_p8 hd F X1 X2 hB (by first | exact ⟨by omega, by omega⟩ | (simp only [nz_c]; exact ⟨by omega, by omega⟩)) (by first | exact g0 | (simp only [nz_c]; exact g0) | (rw [(nzE n73)]; exact g0)) (by first | (simp only [nz_c, (nzE n74)]; exact ⟨by omega, by omega⟩) | exact ⟨by omega, by omega⟩ | (rw [(nzE n74)]; exact ⟨by omega, by omega⟩)) (by first | (simp only [nz_c, (nzE n74)]; exact g1) | exact g1 | (rw [(nzE n75)]; exact g1)) (by first | (simp only [nz_c, (nzE n77), (nzE n78)]; exact ⟨by omega, by omega⟩) | exact ⟨by omega, by omega⟩ | (rw [(nzE n78)]; exact ⟨by omega, by omega⟩)) (by first | (simp only [nz_c, (nzE n74), (nzE n77), (nzE n78)]; exact g2) | exact g2 | (rw [(nzE n79)]; exact g2) | (rw [(nzE n76)]; exact g2) | (rw [(nzE n79), (nzE n76)]; exact g2)) (fun F1 g e69 e70 e71 e72 => k8 g0 g1 g2 F1 (nz_in hB [] (fun j hj hn => g j hj (by simp only [List.mem_cons, List.not_mem_nil, or_false, not_or] at hn; exact trivial)) (List.forall_mem_nil _)) (fun j hj hn => g j hj (by simp only [List.mem_cons, List.not_mem_nil, or_false, not_or] at hn; exact trivial)) ((congrArg Int32.toInt (zz_i e69)).trans (rfl : (sy_i F 69).toInt = (sy_i F 69).toInt)) ((zz_i e69).trans (rfl : sy_i F 69 = sy_i F 69)) ((congrArg Int32.toInt (zz_i e70)).trans (rfl : (sy_i F 70).toInt = (sy_i F 70).toInt)) ((zz_i e70).trans (rfl : sy_i F 70 = sy_i F 70)) ((congrArg Int32.toInt (zz_i e71)).trans (rfl : (sy_i F 71).toInt = (sy_i F 71).toInt)) ((zz_i e71).trans (rfl : sy_i F 71 = sy_i F 71)) ((congrArg Int32.toInt (zz_i e72)).trans (nzE n80)) ((zz_i e72).trans (rfl : (sy_i F 72) + ((1 : Int32)) = (sy_i F 72) + ((1 : Int32)))))
  replace g2 : ((sy_i F 70) - ((sy_ai F 55).getD ((49 + (sy_i F 72).toInt)).toNat 0)).toInt ≤ ((sy_ai F 37).getD (((4 * (sy_i F 11).toInt) + (sy_i F 72).toInt)).toNat 0).toInt := by omega
  by_cases g3 : (sy_i F 69).toInt ≤ ((sy_ai F 55).getD ((53 + (sy_i F 72).toInt)).toNat 0).toInt
  · by_cases g4 : (sy_i F 71).toInt < 0
    · have c11 := nz_bx hB (k := 11) (lo := 0) (hi := 1) rfl
      have q73 : (sy_ai F 35).getD (sy_i F 11).toNatClampNeg 0 = (sy_ai F 35).getD ((sy_i F 11).toInt).toNat 0 := by simp only [nz_c]
      have n73 : nzI ((sy_ai F 35).getD (sy_i F 11).toNatClampNeg 0) (((sy_ai F 35).getD ((sy_i F 11).toInt).toNat 0).toInt) := congrArg Int32.toInt q73
      have r73 := nz_ba hB (k := 35) (lo := 0) (hi := 4) rfl ((sy_i F 11).toInt).toNat
      have n74 : nzI (((49 : Int32)) + (sy_i F 72)) ((49 + (sy_i F 72).toInt)) := nz_add (by decide : ((49 : Int32)).toInt = 49) (rfl : (sy_i F 72).toInt = (sy_i F 72).toInt) (by omega) (by omega)
      have q75 : (sy_ai F 55).getD (((49 : Int32)) + (sy_i F 72)).toNatClampNeg 0 = (sy_ai F 55).getD ((49 + (sy_i F 72).toInt)).toNat 0 := by simp only [nz_c, (nzE n74), (by decide : ((49 : Int32)).toInt = 49)]
      have n75 : nzI ((sy_ai F 55).getD (((49 : Int32)) + (sy_i F 72)).toNatClampNeg 0) (((sy_ai F 55).getD ((49 + (sy_i F 72).toInt)).toNat 0).toInt) := congrArg Int32.toInt q75
      have n77 : nzI (((4 : Int32)) * (sy_i F 11)) ((4 * (sy_i F 11).toInt)) := nz_mul (by decide : ((4 : Int32)).toInt = 4) (rfl : (sy_i F 11).toInt = (sy_i F 11).toInt) (by omega) (by omega)
      have n78 : nzI ((((4 : Int32)) * (sy_i F 11)) + (sy_i F 72)) (((4 * (sy_i F 11).toInt) + (sy_i F 72).toInt)) := nz_add (nzE n77) (rfl : (sy_i F 72).toInt = (sy_i F 72).toInt) (by omega) (by omega)
      have q79 : (sy_ai F 37).getD ((((4 : Int32)) * (sy_i F 11)) + (sy_i F 72)).toNatClampNeg 0 = (sy_ai F 37).getD (((4 * (sy_i F 11).toInt) + (sy_i F 72).toInt)).toNat 0 := by simp only [nz_c, (nzE n77), (nzE n78), (by decide : ((4 : Int32)).toInt = 4)]
      have n79 : nzI ((sy_ai F 37).getD ((((4 : Int32)) * (sy_i F 11)) + (sy_i F 72)).toNatClampNeg 0) (((sy_ai F 37).getD (((4 * (sy_i F 11).toInt) + (sy_i F 72).toInt)).toNat 0).toInt) := congrArg Int32.toInt q79
      have q76 : (sy_i F 70) - ((sy_ai F 55).getD (((49 : Int32)) + (sy_i F 72)).toNatClampNeg 0) = (sy_i F 70) - ((sy_ai F 55).getD ((49 + (sy_i F 72).toInt)).toNat 0) := by simp only [nz_c, (nzE n74), (by decide : ((49 : Int32)).toInt = 49)]
      have n76 : nzI ((sy_i F 70) - ((sy_ai F 55).getD (((49 : Int32)) + (sy_i F 72)).toNatClampNeg 0)) (((sy_i F 70) - ((sy_ai F 55).getD ((49 + (sy_i F 72).toInt)).toNat 0)).toInt) := congrArg Int32.toInt q76
      have n80 : nzI (((53 : Int32)) + (sy_i F 72)) ((53 + (sy_i F 72).toInt)) := nz_add (by decide : ((53 : Int32)).toInt = 53) (rfl : (sy_i F 72).toInt = (sy_i F 72).toInt) (by omega) (by omega)
      have q81 : (sy_ai F 55).getD (((53 : Int32)) + (sy_i F 72)).toNatClampNeg 0 = (sy_ai F 55).getD ((53 + (sy_i F 72).toInt)).toNat 0 := by simp only [nz_c, (nzE n80), (by decide : ((53 : Int32)).toInt = 53)]
      have n81 : nzI ((sy_ai F 55).getD (((53 : Int32)) + (sy_i F 72)).toNatClampNeg 0) (((sy_ai F 55).getD ((53 + (sy_i F 72).toInt)).toNat 0).toInt) := congrArg Int32.toInt q81
      have n82 : nzI ((sy_i F 72) + ((1 : Int32))) (((sy_i F 72).toInt + 1)) := nz_add (rfl : (sy_i F 72).toInt = (sy_i F 72).toInt) (by decide : ((1 : Int32)).toInt = 1) (by omega) (by omega)
      exact yca_22_p9 hd F X1 X2 hB (by first | exact ⟨by omega, by omega⟩ | (simp only [nz_c]; exact ⟨by omega, by omega⟩)) (by first | exact g0 | (simp only [nz_c]; exact g0) | (rw [(nzE n73)]; exact g0)) (by first | (simp only [nz_c, (nzE n74)]; exact ⟨by omega, by omega⟩) | exact ⟨by omega, by omega⟩ | (rw [(nzE n74)]; exact ⟨by omega, by omega⟩)) (by first | (simp only [nz_c, (nzE n74)]; exact g1) | exact g1 | (rw [(nzE n75)]; exact g1)) (by first | (simp only [nz_c, (nzE n77), (nzE n78)]; exact ⟨by omega, by omega⟩) | exact ⟨by omega, by omega⟩ | (rw [(nzE n78)]; exact ⟨by omega, by omega⟩)) (by first | (simp only [nz_c, (nzE n74), (nzE n77), (nzE n78)]; exact g2) | exact g2 | (rw [(nzE n79)]; exact g2) | (rw [(nzE n76)]; exact g2) | (rw [(nzE n79), (nzE n76)]; exact g2)) (by first | (simp only [nz_c, (nzE n80)]; exact ⟨by omega, by omega⟩) | exact ⟨by omega, by omega⟩ | (rw [(nzE n80)]; exact ⟨by omega, by omega⟩)) (by first | (simp only [nz_c, (nzE n80)]; exact g3) | exact g3 | (rw [(nzE n81)]; exact g3)) (by first | exact g4 | (simp only [nz_c]; exact g4)) (fun F1 g e69 e70 e71 e72 => k9 g0 g1 g2 g3 g4 F1 (nz_in hB [] (fun j hj hn => g j hj (by simp only [List.mem_cons, List.not_mem_nil, or_false, not_or] at hn; exact trivial)) (List.forall_mem_nil _)) (fun j hj hn => g j hj (by simp only [List.mem_cons, List.not_mem_nil, or_false, not_or] at hn; exact trivial)) ((congrArg Int32.toInt (zz_i e69)).trans (rfl : (sy_i F 69).toInt = (sy_i F 69).toInt)) ((zz_i e69).trans (rfl : sy_i F 69 = sy_i F 69)) ((congrArg Int32.toInt (zz_i e70)).trans (rfl : (sy_i F 70).toInt = (sy_i F 70).toInt)) ((zz_i e70).trans (rfl : sy_i F 70 = sy_i F 70)) ((congrArg Int32.toInt (zz_i e71)).trans (rfl : (sy_i F 72).toInt = (sy_i F 72).toInt)) ((zz_i e71).trans (rfl : sy_i F 72 = sy_i F 72)) ((congrArg Int32.toInt (zz_i e72)).trans (nzE n82)) ((zz_i e72).trans (rfl : (sy_i F 72) + ((1 : Int32)) = (sy_i F 72) + ((1 : Int32)))))
    replace g4 : 0 ≤ (sy_i F 71).toInt := by omega
    by_cases g5 : (sy_i F 70).toInt ≤ ((sy_ai F 55).getD ((49 + (sy_i F 71).toInt)).toNat 0).toInt
    · by_cases g6 : (((sy_ai F 55).getD ((49 + (sy_i F 71).toInt)).toNat 0) - (sy_i F 70)).toInt ≤ ((sy_i F 70) - ((sy_ai F 55).getD ((49 + (sy_i F 72).toInt)).toNat 0)).toInt
      · have c11 := nz_bx hB (k := 11) (lo := 0) (hi := 1) rfl
        have q73 : (sy_ai F 35).getD (sy_i F 11).toNatClampNeg 0 = (sy_ai F 35).getD ((sy_i F 11).toInt).toNat 0 := by simp only [nz_c]
        have n73 : nzI ((sy_ai F 35).getD (sy_i F 11).toNatClampNeg 0) (((sy_ai F 35).getD ((sy_i F 11).toInt).toNat 0).toInt) := congrArg Int32.toInt q73
        have r73 := nz_ba hB (k := 35) (lo := 0) (hi := 4) rfl ((sy_i F 11).toInt).toNat
        have n74 : nzI (((49 : Int32)) + (sy_i F 72)) ((49 + (sy_i F 72).toInt)) := nz_add (by decide : ((49 : Int32)).toInt = 49) (rfl : (sy_i F 72).toInt = (sy_i F 72).toInt) (by omega) (by omega)
        have q75 : (sy_ai F 55).getD (((49 : Int32)) + (sy_i F 72)).toNatClampNeg 0 = (sy_ai F 55).getD ((49 + (sy_i F 72).toInt)).toNat 0 := by simp only [nz_c, (nzE n74), (by decide : ((49 : Int32)).toInt = 49)]
        have n75 : nzI ((sy_ai F 55).getD (((49 : Int32)) + (sy_i F 72)).toNatClampNeg 0) (((sy_ai F 55).getD ((49 + (sy_i F 72).toInt)).toNat 0).toInt) := congrArg Int32.toInt q75
        have n77 : nzI (((4 : Int32)) * (sy_i F 11)) ((4 * (sy_i F 11).toInt)) := nz_mul (by decide : ((4 : Int32)).toInt = 4) (rfl : (sy_i F 11).toInt = (sy_i F 11).toInt) (by omega) (by omega)
        have n78 : nzI ((((4 : Int32)) * (sy_i F 11)) + (sy_i F 72)) (((4 * (sy_i F 11).toInt) + (sy_i F 72).toInt)) := nz_add (nzE n77) (rfl : (sy_i F 72).toInt = (sy_i F 72).toInt) (by omega) (by omega)
        have q79 : (sy_ai F 37).getD ((((4 : Int32)) * (sy_i F 11)) + (sy_i F 72)).toNatClampNeg 0 = (sy_ai F 37).getD (((4 * (sy_i F 11).toInt) + (sy_i F 72).toInt)).toNat 0 := by simp only [nz_c, (nzE n77), (nzE n78), (by decide : ((4 : Int32)).toInt = 4)]
        have n79 : nzI ((sy_ai F 37).getD ((((4 : Int32)) * (sy_i F 11)) + (sy_i F 72)).toNatClampNeg 0) (((sy_ai F 37).getD (((4 * (sy_i F 11).toInt) + (sy_i F 72).toInt)).toNat 0).toInt) := congrArg Int32.toInt q79
        have q76 : (sy_i F 70) - ((sy_ai F 55).getD (((49 : Int32)) + (sy_i F 72)).toNatClampNeg 0) = (sy_i F 70) - ((sy_ai F 55).getD ((49 + (sy_i F 72).toInt)).toNat 0) := by simp only [nz_c, (nzE n74), (by decide : ((49 : Int32)).toInt = 49)]
        have n76 : nzI ((sy_i F 70) - ((sy_ai F 55).getD (((49 : Int32)) + (sy_i F 72)).toNatClampNeg 0)) (((sy_i F 70) - ((sy_ai F 55).getD ((49 + (sy_i F 72).toInt)).toNat 0)).toInt) := congrArg Int32.toInt q76
        have n80 : nzI (((53 : Int32)) + (sy_i F 72)) ((53 + (sy_i F 72).toInt)) := nz_add (by decide : ((53 : Int32)).toInt = 53) (rfl : (sy_i F 72).toInt = (sy_i F 72).toInt) (by omega) (by omega)
        have q81 : (sy_ai F 55).getD (((53 : Int32)) + (sy_i F 72)).toNatClampNeg 0 = (sy_ai F 55).getD ((53 + (sy_i F 72).toInt)).toNat 0 := by simp only [nz_c, (nzE n80), (by decide : ((53 : Int32)).toInt = 53)]
        have n81 : nzI ((sy_ai F 55).getD (((53 : Int32)) + (sy_i F 72)).toNatClampNeg 0) (((sy_ai F 55).getD ((53 + (sy_i F 72).toInt)).toNat 0).toInt) := congrArg Int32.toInt q81
        have n82 : nzI (((49 : Int32)) + (sy_i F 71)) ((49 + (sy_i F 71).toInt)) := nz_add (by decide : ((49 : Int32)).toInt = 49) (rfl : (sy_i F 71).toInt = (sy_i F 71).toInt) (by omega) (by omega)
        have q83 : (sy_ai F 55).getD (((49 : Int32)) + (sy_i F 71)).toNatClampNeg 0 = (sy_ai F 55).getD ((49 + (sy_i F 71).toInt)).toNat 0 := by simp only [nz_c, (nzE n82), (by decide : ((49 : Int32)).toInt = 49)]
        have n83 : nzI ((sy_ai F 55).getD (((49 : Int32)) + (sy_i F 71)).toNatClampNeg 0) (((sy_ai F 55).getD ((49 + (sy_i F 71).toInt)).toNat 0).toInt) := congrArg Int32.toInt q83
        have q84 : ((sy_ai F 55).getD (((49 : Int32)) + (sy_i F 71)).toNatClampNeg 0) - (sy_i F 70) = ((sy_ai F 55).getD ((49 + (sy_i F 71).toInt)).toNat 0) - (sy_i F 70) := by simp only [nz_c, (nzE n82), (by decide : ((49 : Int32)).toInt = 49)]
        have n84 : nzI (((sy_ai F 55).getD (((49 : Int32)) + (sy_i F 71)).toNatClampNeg 0) - (sy_i F 70)) ((((sy_ai F 55).getD ((49 + (sy_i F 71).toInt)).toNat 0) - (sy_i F 70)).toInt) := congrArg Int32.toInt q84
        have n85 : nzI ((sy_i F 72) + ((1 : Int32))) (((sy_i F 72).toInt + 1)) := nz_add (rfl : (sy_i F 72).toInt = (sy_i F 72).toInt) (by decide : ((1 : Int32)).toInt = 1) (by omega) (by omega)
        exact yca_22_p10 hd F X1 X2 hB (by first | exact ⟨by omega, by omega⟩ | (simp only [nz_c]; exact ⟨by omega, by omega⟩)) (by first | exact g0 | (simp only [nz_c]; exact g0) | (rw [(nzE n73)]; exact g0)) (by first | (simp only [nz_c, (nzE n74)]; exact ⟨by omega, by omega⟩) | exact ⟨by omega, by omega⟩ | (rw [(nzE n74)]; exact ⟨by omega, by omega⟩)) (by first | (simp only [nz_c, (nzE n74)]; exact g1) | exact g1 | (rw [(nzE n75)]; exact g1)) (by first | (simp only [nz_c, (nzE n77), (nzE n78)]; exact ⟨by omega, by omega⟩) | exact ⟨by omega, by omega⟩ | (rw [(nzE n78)]; exact ⟨by omega, by omega⟩)) (by first | (simp only [nz_c, (nzE n74), (nzE n77), (nzE n78)]; exact g2) | exact g2 | (rw [(nzE n79)]; exact g2) | (rw [(nzE n76)]; exact g2) | (rw [(nzE n79), (nzE n76)]; exact g2)) (by first | (simp only [nz_c, (nzE n80)]; exact ⟨by omega, by omega⟩) | exact ⟨by omega, by omega⟩ | (rw [(nzE n80)]; exact ⟨by omega, by omega⟩)) (by first | (simp only [nz_c, (nzE n80)]; exact g3) | exact g3 | (rw [(nzE n81)]; exact g3)) (by first | exact g4 | (simp only [nz_c]; exact g4)) (by first | (simp only [nz_c, (nzE n82)]; exact ⟨by omega, by omega⟩) | exact ⟨by omega, by omega⟩ | (rw [(nzE n82)]; exact ⟨by omega, by omega⟩)) (by first | (simp only [nz_c, (nzE n82)]; exact g5) | exact g5 | (rw [(nzE n83)]; exact g5)) (by first | (simp only [nz_c, (nzE n74), (nzE n82)]; exact g6) | exact g6 | (rw [(nzE n84)]; exact g6) | (rw [(nzE n76)]; exact g6) | (rw [(nzE n84), (nzE n76)]; exact g6)) (fun F1 g e69 e70 e71 e72 => k10 g0 g1 g2 g3 g4 g5 g6 F1 (nz_in hB [] (fun j hj hn => g j hj (by simp only [List.mem_cons, List.not_mem_nil, or_false, not_or] at hn; exact trivial)) (List.forall_mem_nil _)) (fun j hj hn => g j hj (by simp only [List.mem_cons, List.not_mem_nil, or_false, not_or] at hn; exact trivial)) ((congrArg Int32.toInt (zz_i e69)).trans (rfl : (sy_i F 69).toInt = (sy_i F 69).toInt)) ((zz_i e69).trans (rfl : sy_i F 69 = sy_i F 69)) ((congrArg Int32.toInt (zz_i e70)).trans (rfl : (sy_i F 70).toInt = (sy_i F 70).toInt)) ((zz_i e70).trans (rfl : sy_i F 70 = sy_i F 70)) ((congrArg Int32.toInt (zz_i e71)).trans (rfl : (sy_i F 71).toInt = (sy_i F 71).toInt)) ((zz_i e71).trans (rfl : sy_i F 71 = sy_i F 71)) ((congrArg Int32.toInt (zz_i e72)).trans (nzE n85)) ((zz_i e72).trans (rfl : (sy_i F 72) + ((1 : Int32)) = (sy_i F 72) + ((1 : Int32)))))
      replace g6 : ((sy_i F 70) - ((sy_ai F 55).getD ((49 + (sy_i F 72).toInt)).toNat 0)).toInt < (((sy_ai F 55).getD ((49 + (sy_i F 71).toInt)).toNat 0) - (sy_i F 70)).toInt := by omega
      have c11 := nz_bx hB (k := 11) (lo := 0) (hi := 1) rfl
      have q73 : (sy_ai F 35).getD (sy_i F 11).toNatClampNeg 0 = (sy_ai F 35).getD ((sy_i F 11).toInt).toNat 0 := by simp only [nz_c]
      have n73 : nzI ((sy_ai F 35).getD (sy_i F 11).toNatClampNeg 0) (((sy_ai F 35).getD ((sy_i F 11).toInt).toNat 0).toInt) := congrArg Int32.toInt q73
      have r73 := nz_ba hB (k := 35) (lo := 0) (hi := 4) rfl ((sy_i F 11).toInt).toNat
      have n74 : nzI (((49 : Int32)) + (sy_i F 72)) ((49 + (sy_i F 72).toInt)) := nz_add (by decide : ((49 : Int32)).toInt = 49) (rfl : (sy_i F 72).toInt = (sy_i F 72).toInt) (by omega) (by omega)
      have q75 : (sy_ai F 55).getD (((49 : Int32)) + (sy_i F 72)).toNatClampNeg 0 = (sy_ai F 55).getD ((49 + (sy_i F 72).toInt)).toNat 0 := by simp only [nz_c, (nzE n74), (by decide : ((49 : Int32)).toInt = 49)]
      have n75 : nzI ((sy_ai F 55).getD (((49 : Int32)) + (sy_i F 72)).toNatClampNeg 0) (((sy_ai F 55).getD ((49 + (sy_i F 72).toInt)).toNat 0).toInt) := congrArg Int32.toInt q75
      have n77 : nzI (((4 : Int32)) * (sy_i F 11)) ((4 * (sy_i F 11).toInt)) := nz_mul (by decide : ((4 : Int32)).toInt = 4) (rfl : (sy_i F 11).toInt = (sy_i F 11).toInt) (by omega) (by omega)
      have n78 : nzI ((((4 : Int32)) * (sy_i F 11)) + (sy_i F 72)) (((4 * (sy_i F 11).toInt) + (sy_i F 72).toInt)) := nz_add (nzE n77) (rfl : (sy_i F 72).toInt = (sy_i F 72).toInt) (by omega) (by omega)
      have q79 : (sy_ai F 37).getD ((((4 : Int32)) * (sy_i F 11)) + (sy_i F 72)).toNatClampNeg 0 = (sy_ai F 37).getD (((4 * (sy_i F 11).toInt) + (sy_i F 72).toInt)).toNat 0 := by simp only [nz_c, (nzE n77), (nzE n78), (by decide : ((4 : Int32)).toInt = 4)]
      have n79 : nzI ((sy_ai F 37).getD ((((4 : Int32)) * (sy_i F 11)) + (sy_i F 72)).toNatClampNeg 0) (((sy_ai F 37).getD (((4 * (sy_i F 11).toInt) + (sy_i F 72).toInt)).toNat 0).toInt) := congrArg Int32.toInt q79
      have q76 : (sy_i F 70) - ((sy_ai F 55).getD (((49 : Int32)) + (sy_i F 72)).toNatClampNeg 0) = (sy_i F 70) - ((sy_ai F 55).getD ((49 + (sy_i F 72).toInt)).toNat 0) := by simp only [nz_c, (nzE n74), (by decide : ((49 : Int32)).toInt = 49)]
      have n76 : nzI ((sy_i F 70) - ((sy_ai F 55).getD (((49 : Int32)) + (sy_i F 72)).toNatClampNeg 0)) (((sy_i F 70) - ((sy_ai F 55).getD ((49 + (sy_i F 72).toInt)).toNat 0)).toInt) := congrArg Int32.toInt q76
      have n80 : nzI (((53 : Int32)) + (sy_i F 72)) ((53 + (sy_i F 72).toInt)) := nz_add (by decide : ((53 : Int32)).toInt = 53) (rfl : (sy_i F 72).toInt = (sy_i F 72).toInt) (by omega) (by omega)
      have q81 : (sy_ai F 55).getD (((53 : Int32)) + (sy_i F 72)).toNatClampNeg 0 = (sy_ai F 55).getD ((53 + (sy_i F 72).toInt)).toNat 0 := by simp only [nz_c, (nzE n80), (by decide : ((53 : Int32)).toInt = 53)]
      have n81 : nzI ((sy_ai F 55).getD (((53 : Int32)) + (sy_i F 72)).toNatClampNeg 0) (((sy_ai F 55).getD ((53 + (sy_i F 72).toInt)).toNat 0).toInt) := congrArg Int32.toInt q81
      have n82 : nzI (((49 : Int32)) + (sy_i F 71)) ((49 + (sy_i F 71).toInt)) := nz_add (by decide : ((49 : Int32)).toInt = 49) (rfl : (sy_i F 71).toInt = (sy_i F 71).toInt) (by omega) (by omega)
      have q83 : (sy_ai F 55).getD (((49 : Int32)) + (sy_i F 71)).toNatClampNeg 0 = (sy_ai F 55).getD ((49 + (sy_i F 71).toInt)).toNat 0 := by simp only [nz_c, (nzE n82), (by decide : ((49 : Int32)).toInt = 49)]
      have n83 : nzI ((sy_ai F 55).getD (((49 : Int32)) + (sy_i F 71)).toNatClampNeg 0) (((sy_ai F 55).getD ((49 + (sy_i F 71).toInt)).toNat 0).toInt) := congrArg Int32.toInt q83
      have q84 : ((sy_ai F 55).getD (((49 : Int32)) + (sy_i F 71)).toNatClampNeg 0) - (sy_i F 70) = ((sy_ai F 55).getD ((49 + (sy_i F 71).toInt)).toNat 0) - (sy_i F 70) := by simp only [nz_c, (nzE n82), (by decide : ((49 : Int32)).toInt = 49)]
      have n84 : nzI (((sy_ai F 55).getD (((49 : Int32)) + (sy_i F 71)).toNatClampNeg 0) - (sy_i F 70)) ((((sy_ai F 55).getD ((49 + (sy_i F 71).toInt)).toNat 0) - (sy_i F 70)).toInt) := congrArg Int32.toInt q84
      have n85 : nzI ((sy_i F 72) + ((1 : Int32))) (((sy_i F 72).toInt + 1)) := nz_add (rfl : (sy_i F 72).toInt = (sy_i F 72).toInt) (by decide : ((1 : Int32)).toInt = 1) (by omega) (by omega)
      exact yca_22_p11 hd F X1 X2 hB (by first | exact ⟨by omega, by omega⟩ | (simp only [nz_c]; exact ⟨by omega, by omega⟩)) (by first | exact g0 | (simp only [nz_c]; exact g0) | (rw [(nzE n73)]; exact g0)) (by first | (simp only [nz_c, (nzE n74)]; exact ⟨by omega, by omega⟩) | exact ⟨by omega, by omega⟩ | (rw [(nzE n74)]; exact ⟨by omega, by omega⟩)) (by first | (simp only [nz_c, (nzE n74)]; exact g1) | exact g1 | (rw [(nzE n75)]; exact g1)) (by first | (simp only [nz_c, (nzE n77), (nzE n78)]; exact ⟨by omega, by omega⟩) | exact ⟨by omega, by omega⟩ | (rw [(nzE n78)]; exact ⟨by omega, by omega⟩)) (by first | (simp only [nz_c, (nzE n74), (nzE n77), (nzE n78)]; exact g2) | exact g2 | (rw [(nzE n79)]; exact g2) | (rw [(nzE n76)]; exact g2) | (rw [(nzE n79), (nzE n76)]; exact g2)) (by first | (simp only [nz_c, (nzE n80)]; exact ⟨by omega, by omega⟩) | exact ⟨by omega, by omega⟩ | (rw [(nzE n80)]; exact ⟨by omega, by omega⟩)) (by first | (simp only [nz_c, (nzE n80)]; exact g3) | exact g3 | (rw [(nzE n81)]; exact g3)) (by first | exact g4 | (simp only [nz_c]; exact g4)) (by first | (simp only [nz_c, (nzE n82)]; exact ⟨by omega, by omega⟩) | exact ⟨by omega, by omega⟩ | (rw [(nzE n82)]; exact ⟨by omega, by omega⟩)) (by first | (simp only [nz_c, (nzE n82)]; exact g5) | exact g5 | (rw [(nzE n83)]; exact g5)) (by first | (simp only [nz_c, (nzE n74), (nzE n82)]; exact g6) | exact g6 | (rw [(nzE n84)]; exact g6) | (rw [(nzE n76)]; exact g6) | (rw [(nzE n84), (nzE n76)]; exact g6)) (fun F1 g e69 e70 e71 e72 => k11 g0 g1 g2 g3 g4 g5 g6 F1 (nz_in hB [] (fun j hj hn => g j hj (by simp only [List.mem_cons, List.not_mem_nil, or_false, not_or] at hn; exact trivial)) (List.forall_mem_nil _)) (fun j hj hn => g j hj (by simp only [List.mem_cons, List.not_mem_nil, or_false, not_or] at hn; exact trivial)) ((congrArg Int32.toInt (zz_i e69)).trans (rfl : (sy_i F 69).toInt = (sy_i F 69).toInt)) ((zz_i e69).trans (rfl : sy_i F 69 = sy_i F 69)) ((congrArg Int32.toInt (zz_i e70)).trans (rfl : (sy_i F 70).toInt = (sy_i F 70).toInt)) ((zz_i e70).trans (rfl : sy_i F 70 = sy_i F 70)) ((congrArg Int32.toInt (zz_i e71)).trans (rfl : (sy_i F 72).toInt = (sy_i F 72).toInt)) ((zz_i e71).trans (rfl : sy_i F 72 = sy_i F 72)) ((congrArg Int32.toInt (zz_i e72)).trans (nzE n85)) ((zz_i e72).trans (rfl : (sy_i F 72) + ((1 : Int32)) = (sy_i F 72) + ((1 : Int32)))))
    replace g5 : ((sy_ai F 55).getD ((49 + (sy_i F 71).toInt)).toNat 0).toInt < (sy_i F 70).toInt := by omega
    by_cases g6 : ((sy_i F 70) - ((sy_ai F 55).getD ((49 + (sy_i F 71).toInt)).toNat 0)).toInt ≤ ((sy_i F 70) - ((sy_ai F 55).getD ((49 + (sy_i F 72).toInt)).toNat 0)).toInt
    · have c11 := nz_bx hB (k := 11) (lo := 0) (hi := 1) rfl
      have q73 : (sy_ai F 35).getD (sy_i F 11).toNatClampNeg 0 = (sy_ai F 35).getD ((sy_i F 11).toInt).toNat 0 := by simp only [nz_c]
      have n73 : nzI ((sy_ai F 35).getD (sy_i F 11).toNatClampNeg 0) (((sy_ai F 35).getD ((sy_i F 11).toInt).toNat 0).toInt) := congrArg Int32.toInt q73
      have r73 := nz_ba hB (k := 35) (lo := 0) (hi := 4) rfl ((sy_i F 11).toInt).toNat
      have n74 : nzI (((49 : Int32)) + (sy_i F 72)) ((49 + (sy_i F 72).toInt)) := nz_add (by decide : ((49 : Int32)).toInt = 49) (rfl : (sy_i F 72).toInt = (sy_i F 72).toInt) (by omega) (by omega)
      have q75 : (sy_ai F 55).getD (((49 : Int32)) + (sy_i F 72)).toNatClampNeg 0 = (sy_ai F 55).getD ((49 + (sy_i F 72).toInt)).toNat 0 := by simp only [nz_c, (nzE n74), (by decide : ((49 : Int32)).toInt = 49)]
      have n75 : nzI ((sy_ai F 55).getD (((49 : Int32)) + (sy_i F 72)).toNatClampNeg 0) (((sy_ai F 55).getD ((49 + (sy_i F 72).toInt)).toNat 0).toInt) := congrArg Int32.toInt q75
      have n77 : nzI (((4 : Int32)) * (sy_i F 11)) ((4 * (sy_i F 11).toInt)) := nz_mul (by decide : ((4 : Int32)).toInt = 4) (rfl : (sy_i F 11).toInt = (sy_i F 11).toInt) (by omega) (by omega)
      have n78 : nzI ((((4 : Int32)) * (sy_i F 11)) + (sy_i F 72)) (((4 * (sy_i F 11).toInt) + (sy_i F 72).toInt)) := nz_add (nzE n77) (rfl : (sy_i F 72).toInt = (sy_i F 72).toInt) (by omega) (by omega)
      have q79 : (sy_ai F 37).getD ((((4 : Int32)) * (sy_i F 11)) + (sy_i F 72)).toNatClampNeg 0 = (sy_ai F 37).getD (((4 * (sy_i F 11).toInt) + (sy_i F 72).toInt)).toNat 0 := by simp only [nz_c, (nzE n77), (nzE n78), (by decide : ((4 : Int32)).toInt = 4)]
      have n79 : nzI ((sy_ai F 37).getD ((((4 : Int32)) * (sy_i F 11)) + (sy_i F 72)).toNatClampNeg 0) (((sy_ai F 37).getD (((4 * (sy_i F 11).toInt) + (sy_i F 72).toInt)).toNat 0).toInt) := congrArg Int32.toInt q79
      have q76 : (sy_i F 70) - ((sy_ai F 55).getD (((49 : Int32)) + (sy_i F 72)).toNatClampNeg 0) = (sy_i F 70) - ((sy_ai F 55).getD ((49 + (sy_i F 72).toInt)).toNat 0) := by simp only [nz_c, (nzE n74), (by decide : ((49 : Int32)).toInt = 49)]
      have n76 : nzI ((sy_i F 70) - ((sy_ai F 55).getD (((49 : Int32)) + (sy_i F 72)).toNatClampNeg 0)) (((sy_i F 70) - ((sy_ai F 55).getD ((49 + (sy_i F 72).toInt)).toNat 0)).toInt) := congrArg Int32.toInt q76
      have n80 : nzI (((53 : Int32)) + (sy_i F 72)) ((53 + (sy_i F 72).toInt)) := nz_add (by decide : ((53 : Int32)).toInt = 53) (rfl : (sy_i F 72).toInt = (sy_i F 72).toInt) (by omega) (by omega)
      have q81 : (sy_ai F 55).getD (((53 : Int32)) + (sy_i F 72)).toNatClampNeg 0 = (sy_ai F 55).getD ((53 + (sy_i F 72).toInt)).toNat 0 := by simp only [nz_c, (nzE n80), (by decide : ((53 : Int32)).toInt = 53)]
      have n81 : nzI ((sy_ai F 55).getD (((53 : Int32)) + (sy_i F 72)).toNatClampNeg 0) (((sy_ai F 55).getD ((53 + (sy_i F 72).toInt)).toNat 0).toInt) := congrArg Int32.toInt q81
      have n82 : nzI (((49 : Int32)) + (sy_i F 71)) ((49 + (sy_i F 71).toInt)) := nz_add (by decide : ((49 : Int32)).toInt = 49) (rfl : (sy_i F 71).toInt = (sy_i F 71).toInt) (by omega) (by omega)
      have q83 : (sy_ai F 55).getD (((49 : Int32)) + (sy_i F 71)).toNatClampNeg 0 = (sy_ai F 55).getD ((49 + (sy_i F 71).toInt)).toNat 0 := by simp only [nz_c, (nzE n82), (by decide : ((49 : Int32)).toInt = 49)]
      have n83 : nzI ((sy_ai F 55).getD (((49 : Int32)) + (sy_i F 71)).toNatClampNeg 0) (((sy_ai F 55).getD ((49 + (sy_i F 71).toInt)).toNat 0).toInt) := congrArg Int32.toInt q83
      have q84 : (sy_i F 70) - ((sy_ai F 55).getD (((49 : Int32)) + (sy_i F 71)).toNatClampNeg 0) = (sy_i F 70) - ((sy_ai F 55).getD ((49 + (sy_i F 71).toInt)).toNat 0) := by simp only [nz_c, (nzE n82), (by decide : ((49 : Int32)).toInt = 49)]
      have n84 : nzI ((sy_i F 70) - ((sy_ai F 55).getD (((49 : Int32)) + (sy_i F 71)).toNatClampNeg 0)) (((sy_i F 70) - ((sy_ai F 55).getD ((49 + (sy_i F 71).toInt)).toNat 0)).toInt) := congrArg Int32.toInt q84
      have n85 : nzI ((sy_i F 72) + ((1 : Int32))) (((sy_i F 72).toInt + 1)) := nz_add (rfl : (sy_i F 72).toInt = (sy_i F 72).toInt) (by decide : ((1 : Int32)).toInt = 1) (by omega) (by omega)
      exact yca_22_p12 hd F X1 X2 hB (by first | exact ⟨by omega, by omega⟩ | (simp only [nz_c]; exact ⟨by omega, by omega⟩)) (by first | exact g0 | (simp only [nz_c]; exact g0) | (rw [(nzE n73)]; exact g0)) (by first | (simp only [nz_c, (nzE n74)]; exact ⟨by omega, by omega⟩) | exact ⟨by omega, by omega⟩ | (rw [(nzE n74)]; exact ⟨by omega, by omega⟩)) (by first | (simp only [nz_c, (nzE n74)]; exact g1) | exact g1 | (rw [(nzE n75)]; exact g1)) (by first | (simp only [nz_c, (nzE n77), (nzE n78)]; exact ⟨by omega, by omega⟩) | exact ⟨by omega, by omega⟩ | (rw [(nzE n78)]; exact ⟨by omega, by omega⟩)) (by first | (simp only [nz_c, (nzE n74), (nzE n77), (nzE n78)]; exact g2) | exact g2 | (rw [(nzE n79)]; exact g2) | (rw [(nzE n76)]; exact g2) | (rw [(nzE n79), (nzE n76)]; exact g2)) (by first | (simp only [nz_c, (nzE n80)]; exact ⟨by omega, by omega⟩) | exact ⟨by omega, by omega⟩ | (rw [(nzE n80)]; exact ⟨by omega, by omega⟩)) (by first | (simp only [nz_c, (nzE n80)]; exact g3) | exact g3 | (rw [(nzE n81)]; exact g3)) (by first | exact g4 | (simp only [nz_c]; exact g4)) (by first | (simp only [nz_c, (nzE n82)]; exact ⟨by omega, by omega⟩) | exact ⟨by omega, by omega⟩ | (rw [(nzE n82)]; exact ⟨by omega, by omega⟩)) (by first | (simp only [nz_c, (nzE n82)]; exact g5) | exact g5 | (rw [(nzE n83)]; exact g5)) (by first | (simp only [nz_c, (nzE n74), (nzE n82)]; exact g6) | exact g6 | (rw [(nzE n84)]; exact g6) | (rw [(nzE n76)]; exact g6) | (rw [(nzE n84), (nzE n76)]; exact g6)) (fun F1 g e69 e70 e71 e72 => k12 g0 g1 g2 g3 g4 g5 g6 F1 (nz_in hB [] (fun j hj hn => g j hj (by simp only [List.mem_cons, List.not_mem_nil, or_false, not_or] at hn; exact trivial)) (List.forall_mem_nil _)) (fun j hj hn => g j hj (by simp only [List.mem_cons, List.not_mem_nil, or_false, not_or] at hn; exact trivial)) ((congrArg Int32.toInt (zz_i e69)).trans (rfl : (sy_i F 69).toInt = (sy_i F 69).toInt)) ((zz_i e69).trans (rfl : sy_i F 69 = sy_i F 69)) ((congrArg Int32.toInt (zz_i e70)).trans (rfl : (sy_i F 70).toInt = (sy_i F 70).toInt)) ((zz_i e70).trans (rfl : sy_i F 70 = sy_i F 70)) ((congrArg Int32.toInt (zz_i e71)).trans (rfl : (sy_i F 71).toInt = (sy_i F 71).toInt)) ((zz_i e71).trans (rfl : sy_i F 71 = sy_i F 71)) ((congrArg Int32.toInt (zz_i e72)).trans (nzE n85)) ((zz_i e72).trans (rfl : (sy_i F 72) + ((1 : Int32)) = (sy_i F 72) + ((1 : Int32)))))
    replace g6 : ((sy_i F 70) - ((sy_ai F 55).getD ((49 + (sy_i F 72).toInt)).toNat 0)).toInt < ((sy_i F 70) - ((sy_ai F 55).getD ((49 + (sy_i F 71).toInt)).toNat 0)).toInt := by omega
    have c11 := nz_bx hB (k := 11) (lo := 0) (hi := 1) rfl
    have q73 : (sy_ai F 35).getD (sy_i F 11).toNatClampNeg 0 = (sy_ai F 35).getD ((sy_i F 11).toInt).toNat 0 := by simp only [nz_c]
    have n73 : nzI ((sy_ai F 35).getD (sy_i F 11).toNatClampNeg 0) (((sy_ai F 35).getD ((sy_i F 11).toInt).toNat 0).toInt) := congrArg Int32.toInt q73
    have r73 := nz_ba hB (k := 35) (lo := 0) (hi := 4) rfl ((sy_i F 11).toInt).toNat
    have n74 : nzI (((49 : Int32)) + (sy_i F 72)) ((49 + (sy_i F 72).toInt)) := nz_add (by decide : ((49 : Int32)).toInt = 49) (rfl : (sy_i F 72).toInt = (sy_i F 72).toInt) (by omega) (by omega)
    have q75 : (sy_ai F 55).getD (((49 : Int32)) + (sy_i F 72)).toNatClampNeg 0 = (sy_ai F 55).getD ((49 + (sy_i F 72).toInt)).toNat 0 := by simp only [nz_c, (nzE n74), (by decide : ((49 : Int32)).toInt = 49)]
    have n75 : nzI ((sy_ai F 55).getD (((49 : Int32)) + (sy_i F 72)).toNatClampNeg 0) (((sy_ai F 55).getD ((49 + (sy_i F 72).toInt)).toNat 0).toInt) := congrArg Int32.toInt q75
    have n77 : nzI (((4 : Int32)) * (sy_i F 11)) ((4 * (sy_i F 11).toInt)) := nz_mul (by decide : ((4 : Int32)).toInt = 4) (rfl : (sy_i F 11).toInt = (sy_i F 11).toInt) (by omega) (by omega)
    have n78 : nzI ((((4 : Int32)) * (sy_i F 11)) + (sy_i F 72)) (((4 * (sy_i F 11).toInt) + (sy_i F 72).toInt)) := nz_add (nzE n77) (rfl : (sy_i F 72).toInt = (sy_i F 72).toInt) (by omega) (by omega)
    have q79 : (sy_ai F 37).getD ((((4 : Int32)) * (sy_i F 11)) + (sy_i F 72)).toNatClampNeg 0 = (sy_ai F 37).getD (((4 * (sy_i F 11).toInt) + (sy_i F 72).toInt)).toNat 0 := by simp only [nz_c, (nzE n77), (nzE n78), (by decide : ((4 : Int32)).toInt = 4)]
    have n79 : nzI ((sy_ai F 37).getD ((((4 : Int32)) * (sy_i F 11)) + (sy_i F 72)).toNatClampNeg 0) (((sy_ai F 37).getD (((4 * (sy_i F 11).toInt) + (sy_i F 72).toInt)).toNat 0).toInt) := congrArg Int32.toInt q79
    have q76 : (sy_i F 70) - ((sy_ai F 55).getD (((49 : Int32)) + (sy_i F 72)).toNatClampNeg 0) = (sy_i F 70) - ((sy_ai F 55).getD ((49 + (sy_i F 72).toInt)).toNat 0) := by simp only [nz_c, (nzE n74), (by decide : ((49 : Int32)).toInt = 49)]
    have n76 : nzI ((sy_i F 70) - ((sy_ai F 55).getD (((49 : Int32)) + (sy_i F 72)).toNatClampNeg 0)) (((sy_i F 70) - ((sy_ai F 55).getD ((49 + (sy_i F 72).toInt)).toNat 0)).toInt) := congrArg Int32.toInt q76
    have n80 : nzI (((53 : Int32)) + (sy_i F 72)) ((53 + (sy_i F 72).toInt)) := nz_add (by decide : ((53 : Int32)).toInt = 53) (rfl : (sy_i F 72).toInt = (sy_i F 72).toInt) (by omega) (by omega)
    have q81 : (sy_ai F 55).getD (((53 : Int32)) + (sy_i F 72)).toNatClampNeg 0 = (sy_ai F 55).getD ((53 + (sy_i F 72).toInt)).toNat 0 := by simp only [nz_c, (nzE n80), (by decide : ((53 : Int32)).toInt = 53)]
    have n81 : nzI ((sy_ai F 55).getD (((53 : Int32)) + (sy_i F 72)).toNatClampNeg 0) (((sy_ai F 55).getD ((53 + (sy_i F 72).toInt)).toNat 0).toInt) := congrArg Int32.toInt q81
    have n82 : nzI (((49 : Int32)) + (sy_i F 71)) ((49 + (sy_i F 71).toInt)) := nz_add (by decide : ((49 : Int32)).toInt = 49) (rfl : (sy_i F 71).toInt = (sy_i F 71).toInt) (by omega) (by omega)
    have q83 : (sy_ai F 55).getD (((49 : Int32)) + (sy_i F 71)).toNatClampNeg 0 = (sy_ai F 55).getD ((49 + (sy_i F 71).toInt)).toNat 0 := by simp only [nz_c, (nzE n82), (by decide : ((49 : Int32)).toInt = 49)]
    have n83 : nzI ((sy_ai F 55).getD (((49 : Int32)) + (sy_i F 71)).toNatClampNeg 0) (((sy_ai F 55).getD ((49 + (sy_i F 71).toInt)).toNat 0).toInt) := congrArg Int32.toInt q83
    have q84 : (sy_i F 70) - ((sy_ai F 55).getD (((49 : Int32)) + (sy_i F 71)).toNatClampNeg 0) = (sy_i F 70) - ((sy_ai F 55).getD ((49 + (sy_i F 71).toInt)).toNat 0) := by simp only [nz_c, (nzE n82), (by decide : ((49 : Int32)).toInt = 49)]
    have n84 : nzI ((sy_i F 70) - ((sy_ai F 55).getD (((49 : Int32)) + (sy_i F 71)).toNatClampNeg 0)) (((sy_i F 70) - ((sy_ai F 55).getD ((49 + (sy_i F 71).toInt)).toNat 0)).toInt) := congrArg Int32.toInt q84
    have n85 : nzI ((sy_i F 72) + ((1 : Int32))) (((sy_i F 72).toInt + 1)) := nz_add (rfl : (sy_i F 72).toInt = (sy_i F 72).toInt) (by decide : ((1 : Int32)).toInt = 1) (by omega) (by omega)
    exact yca_22_p13 hd F X1 X2 hB (by first | exact ⟨by omega, by omega⟩ | (simp only [nz_c]; exact ⟨by omega, by omega⟩)) (by first | exact g0 | (simp only [nz_c]; exact g0) | (rw [(nzE n73)]; exact g0)) (by first | (simp only [nz_c, (nzE n74)]; exact ⟨by omega, by omega⟩) | exact ⟨by omega, by omega⟩ | (rw [(nzE n74)]; exact ⟨by omega, by omega⟩)) (by first | (simp only [nz_c, (nzE n74)]; exact g1) | exact g1 | (rw [(nzE n75)]; exact g1)) (by first | (simp only [nz_c, (nzE n77), (nzE n78)]; exact ⟨by omega, by omega⟩) | exact ⟨by omega, by omega⟩ | (rw [(nzE n78)]; exact ⟨by omega, by omega⟩)) (by first | (simp only [nz_c, (nzE n74), (nzE n77), (nzE n78)]; exact g2) | exact g2 | (rw [(nzE n79)]; exact g2) | (rw [(nzE n76)]; exact g2) | (rw [(nzE n79), (nzE n76)]; exact g2)) (by first | (simp only [nz_c, (nzE n80)]; exact ⟨by omega, by omega⟩) | exact ⟨by omega, by omega⟩ | (rw [(nzE n80)]; exact ⟨by omega, by omega⟩)) (by first | (simp only [nz_c, (nzE n80)]; exact g3) | exact g3 | (rw [(nzE n81)]; exact g3)) (by first | exact g4 | (simp only [nz_c]; exact g4)) (by first | (simp only [nz_c, (nzE n82)]; exact ⟨by omega, by omega⟩) | exact ⟨by omega, by omega⟩ | (rw [(nzE n82)]; exact ⟨by omega, by omega⟩)) (by first | (simp only [nz_c, (nzE n82)]; exact g5) | exact g5 | (rw [(nzE n83)]; exact g5)) (by first | (simp only [nz_c, (nzE n74), (nzE n82)]; exact g6) | exact g6 | (rw [(nzE n84)]; exact g6) | (rw [(nzE n76)]; exact g6) | (rw [(nzE n84), (nzE n76)]; exact g6)) (fun F1 g e69 e70 e71 e72 => k13 g0 g1 g2 g3 g4 g5 g6 F1 (nz_in hB [] (fun j hj hn => g j hj (by simp only [List.mem_cons, List.not_mem_nil, or_false, not_or] at hn; exact trivial)) (List.forall_mem_nil _)) (fun j hj hn => g j hj (by simp only [List.mem_cons, List.not_mem_nil, or_false, not_or] at hn; exact trivial)) ((congrArg Int32.toInt (zz_i e69)).trans (rfl : (sy_i F 69).toInt = (sy_i F 69).toInt)) ((zz_i e69).trans (rfl : sy_i F 69 = sy_i F 69)) ((congrArg Int32.toInt (zz_i e70)).trans (rfl : (sy_i F 70).toInt = (sy_i F 70).toInt)) ((zz_i e70).trans (rfl : sy_i F 70 = sy_i F 70)) ((congrArg Int32.toInt (zz_i e71)).trans (rfl : (sy_i F 72).toInt = (sy_i F 72).toInt)) ((zz_i e71).trans (rfl : sy_i F 72 = sy_i F 72)) ((congrArg Int32.toInt (zz_i e72)).trans (nzE n85)) ((zz_i e72).trans (rfl : (sy_i F 72) + ((1 : Int32)) = (sy_i F 72) + ((1 : Int32)))))
  replace g3 : ((sy_ai F 55).getD ((53 + (sy_i F 72).toInt)).toNat 0).toInt < (sy_i F 69).toInt := by omega
  have c11 := nz_bx hB (k := 11) (lo := 0) (hi := 1) rfl
  have q73 : (sy_ai F 35).getD (sy_i F 11).toNatClampNeg 0 = (sy_ai F 35).getD ((sy_i F 11).toInt).toNat 0 := by simp only [nz_c]
  have n73 : nzI ((sy_ai F 35).getD (sy_i F 11).toNatClampNeg 0) (((sy_ai F 35).getD ((sy_i F 11).toInt).toNat 0).toInt) := congrArg Int32.toInt q73
  have r73 := nz_ba hB (k := 35) (lo := 0) (hi := 4) rfl ((sy_i F 11).toInt).toNat
  have n74 : nzI (((49 : Int32)) + (sy_i F 72)) ((49 + (sy_i F 72).toInt)) := nz_add (by decide : ((49 : Int32)).toInt = 49) (rfl : (sy_i F 72).toInt = (sy_i F 72).toInt) (by omega) (by omega)
  have q75 : (sy_ai F 55).getD (((49 : Int32)) + (sy_i F 72)).toNatClampNeg 0 = (sy_ai F 55).getD ((49 + (sy_i F 72).toInt)).toNat 0 := by simp only [nz_c, (nzE n74), (by decide : ((49 : Int32)).toInt = 49)]
  have n75 : nzI ((sy_ai F 55).getD (((49 : Int32)) + (sy_i F 72)).toNatClampNeg 0) (((sy_ai F 55).getD ((49 + (sy_i F 72).toInt)).toNat 0).toInt) := congrArg Int32.toInt q75
  have n77 : nzI (((4 : Int32)) * (sy_i F 11)) ((4 * (sy_i F 11).toInt)) := nz_mul (by decide : ((4 : Int32)).toInt = 4) (rfl : (sy_i F 11).toInt = (sy_i F 11).toInt) (by omega) (by omega)
  have n78 : nzI ((((4 : Int32)) * (sy_i F 11)) + (sy_i F 72)) (((4 * (sy_i F 11).toInt) + (sy_i F 72).toInt)) := nz_add (nzE n77) (rfl : (sy_i F 72).toInt = (sy_i F 72).toInt) (by omega) (by omega)
  have q79 : (sy_ai F 37).getD ((((4 : Int32)) * (sy_i F 11)) + (sy_i F 72)).toNatClampNeg 0 = (sy_ai F 37).getD (((4 * (sy_i F 11).toInt) + (sy_i F 72).toInt)).toNat 0 := by simp only [nz_c, (nzE n77), (nzE n78), (by decide : ((4 : Int32)).toInt = 4)]
  have n79 : nzI ((sy_ai F 37).getD ((((4 : Int32)) * (sy_i F 11)) + (sy_i F 72)).toNatClampNeg 0) (((sy_ai F 37).getD (((4 * (sy_i F 11).toInt) + (sy_i F 72).toInt)).toNat 0).toInt) := congrArg Int32.toInt q79
  have q76 : (sy_i F 70) - ((sy_ai F 55).getD (((49 : Int32)) + (sy_i F 72)).toNatClampNeg 0) = (sy_i F 70) - ((sy_ai F 55).getD ((49 + (sy_i F 72).toInt)).toNat 0) := by simp only [nz_c, (nzE n74), (by decide : ((49 : Int32)).toInt = 49)]
  have n76 : nzI ((sy_i F 70) - ((sy_ai F 55).getD (((49 : Int32)) + (sy_i F 72)).toNatClampNeg 0)) (((sy_i F 70) - ((sy_ai F 55).getD ((49 + (sy_i F 72).toInt)).toNat 0)).toInt) := congrArg Int32.toInt q76
  have n80 : nzI (((53 : Int32)) + (sy_i F 72)) ((53 + (sy_i F 72).toInt)) := nz_add (by decide : ((53 : Int32)).toInt = 53) (rfl : (sy_i F 72).toInt = (sy_i F 72).toInt) (by omega) (by omega)
  have q81 : (sy_ai F 55).getD (((53 : Int32)) + (sy_i F 72)).toNatClampNeg 0 = (sy_ai F 55).getD ((53 + (sy_i F 72).toInt)).toNat 0 := by simp only [nz_c, (nzE n80), (by decide : ((53 : Int32)).toInt = 53)]
  have n81 : nzI ((sy_ai F 55).getD (((53 : Int32)) + (sy_i F 72)).toNatClampNeg 0) (((sy_ai F 55).getD ((53 + (sy_i F 72).toInt)).toNat 0).toInt) := congrArg Int32.toInt q81
  have n82 : nzI ((sy_i F 72) + ((1 : Int32))) (((sy_i F 72).toInt + 1)) := nz_add (rfl : (sy_i F 72).toInt = (sy_i F 72).toInt) (by decide : ((1 : Int32)).toInt = 1) (by omega) (by omega)
  exact yca_22_p14 hd F X1 X2 hB (by first | exact ⟨by omega, by omega⟩ | (simp only [nz_c]; exact ⟨by omega, by omega⟩)) (by first | exact g0 | (simp only [nz_c]; exact g0) | (rw [(nzE n73)]; exact g0)) (by first | (simp only [nz_c, (nzE n74)]; exact ⟨by omega, by omega⟩) | exact ⟨by omega, by omega⟩ | (rw [(nzE n74)]; exact ⟨by omega, by omega⟩)) (by first | (simp only [nz_c, (nzE n74)]; exact g1) | exact g1 | (rw [(nzE n75)]; exact g1)) (by first | (simp only [nz_c, (nzE n77), (nzE n78)]; exact ⟨by omega, by omega⟩) | exact ⟨by omega, by omega⟩ | (rw [(nzE n78)]; exact ⟨by omega, by omega⟩)) (by first | (simp only [nz_c, (nzE n74), (nzE n77), (nzE n78)]; exact g2) | exact g2 | (rw [(nzE n79)]; exact g2) | (rw [(nzE n76)]; exact g2) | (rw [(nzE n79), (nzE n76)]; exact g2)) (by first | (simp only [nz_c, (nzE n80)]; exact ⟨by omega, by omega⟩) | exact ⟨by omega, by omega⟩ | (rw [(nzE n80)]; exact ⟨by omega, by omega⟩)) (by first | (simp only [nz_c, (nzE n80)]; exact g3) | exact g3 | (rw [(nzE n81)]; exact g3)) (fun F1 g e69 e70 e71 e72 => k14 g0 g1 g2 g3 F1 (nz_in hB [] (fun j hj hn => g j hj (by simp only [List.mem_cons, List.not_mem_nil, or_false, not_or] at hn; exact trivial)) (List.forall_mem_nil _)) (fun j hj hn => g j hj (by simp only [List.mem_cons, List.not_mem_nil, or_false, not_or] at hn; exact trivial)) ((congrArg Int32.toInt (zz_i e69)).trans (rfl : (sy_i F 69).toInt = (sy_i F 69).toInt)) ((zz_i e69).trans (rfl : sy_i F 69 = sy_i F 69)) ((congrArg Int32.toInt (zz_i e70)).trans (rfl : (sy_i F 70).toInt = (sy_i F 70).toInt)) ((zz_i e70).trans (rfl : sy_i F 70 = sy_i F 70)) ((congrArg Int32.toInt (zz_i e71)).trans (rfl : (sy_i F 71).toInt = (sy_i F 71).toInt)) ((zz_i e71).trans (rfl : sy_i F 71 = sy_i F 71)) ((congrArg Int32.toInt (zz_i e72)).trans (nzE n82)) ((zz_i e72).trans (rfl : (sy_i F 72) + ((1 : Int32)) = (sy_i F 72) + ((1 : Int32)))))
theorem yli_0_p0 {Ls : Nat} {xs : Nat → Int32} {d : Nat} {Q : Option Value → jm_h → Prop} (hd : 1 ≤ d) (F : Nat → sy_d) (X1 X2 : List jm_c) (hB : iv_in F iv_B4)
    (k : ∀ F1 : Nat → sy_d, (∀ j, j < 69 → True → F1 j = F j) → F1 69 = .inl (.int (sy_i F 69)) → F1 70 = .inl (.int ((0 : Int32))) → hd_W Ls xs d jm_M190 Q (2, sy_dL F1 [some (.inl (.ref 1000)), some (.inr (.inl 69)), some (.inr (.inl 70))], sy_dS F1 [], sy_dh F1 X1 X2 (iv_H 4), 0, 0)) :
    hd_W Ls xs d jm_M190 Q (0, sy_dL F [some (.inl (.ref 1000)), some (.inr (.inl 69)), none], sy_dS F [], sy_dh F X1 X2 (iv_H 4), 0, 0) := by
  refine hd_run (s := 4) (nv := 70) (pc := 2) (L := [some (.inl (.ref 1000)), some (.inr (.inl 69)), some (.inr (.inl 70))]) (S := []) (uh := hd_ov (iv_id 0 iv_B4) []) (ul := [.inl (.inr (.inl 69)), .inl (.inl (.int 0))]) (f := true) (sp := [2]) (d0 := 0) (O := []) (T := []) (P := []) jm_ok190 (by decide +kernel) (by decide +kernel) hd F X1 X2 (fun F' hF hs => ?_)
  have b69 := hd_b (F := F) (F' := F') (k := 69) (hF 69 (by decide))
  have hB' : iv_in F' iv_B4 := iv_in_eq hB (fun j hj => hF j (Nat.lt_of_lt_of_le hj (by decide +kernel)))
  refine ⟨fun _ h => absurd h List.not_mem_nil, ?_⟩
  refine k _ ?_ ?_ ?_
  · exact fun j hj _ => (hd_keep hB' (Nat.lt_of_lt_of_le hj (by decide +kernel)) (by simp)).trans (hF j (Nat.lt_of_lt_of_le hj (by decide)))
  · exact hd_gi (x := .inr (.inl 69)) (by decide +kernel) b69
  · exact hd_gi (x := .inl (.int 0)) (by decide +kernel) rfl
theorem yli_0 {Ls : Nat} {xs : Nat → Int32} {d : Nat} {Q : Option Value → jm_h → Prop} (hd : 1 ≤ d) (F : Nat → sy_d) (X1 X2 : List jm_c) (hB : iv_in F iv_B4)
    (k0 : ∀ F1 : Nat → sy_d, iv_in F1 iv_B4 → (∀ j, j < 69 → j ∉ ([] : List Nat) → F1 j = F j) → (sy_i F1 69).toInt = (sy_i F 69).toInt → sy_i F1 69 = sy_i F 69 → (sy_i F1 70).toInt = 0 → sy_i F1 70 = (0 : Int32) → hd_W Ls xs d jm_M190 Q (2, sy_dL F1 [some (.inl (.ref 1000)), some (.inr (.inl 69)), some (.inr (.inl 70))], sy_dS F1 [], sy_dh F1 X1 X2 (iv_H 4), 0, 0)) :
    hd_W Ls xs d jm_M190 Q (0, sy_dL F [some (.inl (.ref 1000)), some (.inr (.inl 69)), none], sy_dS F [], sy_dh F X1 X2 (iv_H 4), 0, 0) := by
  exact yli_0_p0 hd F X1 X2 hB  (fun F1 g e69 e70 => k0 F1 (nz_in hB [] (fun j hj hn => g j hj (by simp only [List.mem_cons, List.not_mem_nil, or_false, not_or] at hn; exact trivial)) (List.forall_mem_nil _)) (fun j hj hn => g j hj (by simp only [List.mem_cons, List.not_mem_nil, or_false, not_or] at hn; exact trivial)) ((congrArg Int32.toInt (zz_i e69)).trans (rfl : (sy_i F 69).toInt = (sy_i F 69).toInt)) ((zz_i e69).trans (rfl : sy_i F 69 = sy_i F 69)) ((congrArg Int32.toInt (zz_i e70)).trans (by decide : ((0 : Int32)).toInt = 0)) ((zz_i e70).trans (rfl : (0 : Int32) = (0 : Int32))))
theorem yli_2_p0 {Ls : Nat} {xs : Nat → Int32} {d : Nat} {Q : Option Value → jm_h → Prop} (hd : 2 ≤ d) (F : Nat → sy_d) (X1 X2 : List jm_c) (hB : iv_in F iv_B4)
    (h0 : 0 ≤ (sy_i F 11).toInt ∧ (sy_i F 11).toInt < 2)
    (h1 : ((sy_ai F 35).getD (sy_i F 11).toNatClampNeg 0).toInt ≤ (sy_i F 70).toInt)
    (h2 : 0 ≤ (((28 : Int32)) + (sy_i F 69)).toInt ∧ (((28 : Int32)) + (sy_i F 69)).toInt < 61)
    (h3 : 0 ≤ (((28 : Int32)) + (sy_i F 69)).toInt ∧ (((28 : Int32)) + (sy_i F 69)).toInt < 61)
    (h4 : 0 ≤ (((28 : Int32)) + (sy_i F 69)).toInt ∧ (((28 : Int32)) + (sy_i F 69)).toInt < 61)
    (h5 : 0 ≤ (sy_i F 11).toInt ∧ (sy_i F 11).toInt < 2)
    (h6 : ((jm_upd (sy_ai F 55) (((28 : Int32)) + (sy_i F 69)).toNatClampNeg (((sy_ai F 55).getD (((28 : Int32)) + (sy_i F 69)).toNatClampNeg 0) + ((1 : Int32)))).getD (((28 : Int32)) + (sy_i F 69)).toNatClampNeg 0).toInt ≤ ((sy_ai F 40).getD (sy_i F 11).toNatClampNeg 0).toInt)
    (k : ∀ F1 : Nat → sy_d, (∀ j, j < 69 → j ≠ 55 → F1 j = F j) → F1 55 = .inr (.inl (jm_upd (sy_ai F 55) (((28 : Int32)) + (sy_i F 69)).toNatClampNeg (((sy_ai F 55).getD (((28 : Int32)) + (sy_i F 69)).toNatClampNeg 0) + ((1 : Int32))))) → Q (none) (sy_dh F1 X1 X2 (iv_H 4))) :
    hd_W Ls xs d jm_M190 Q (2, sy_dL F [some (.inl (.ref 1000)), some (.inr (.inl 69)), some (.inr (.inl 70))], sy_dS F [], sy_dh F X1 X2 (iv_H 4), 0, 0) := by
  refine hd_ret (s := 4) (nv := 71) (v := none) (uh := hd_ov (iv_id 0 iv_B4) [(55, .inr (.inr (.inl 75)))]) (f := true) (sp := [2]) (d0 := 1) (O := [true, true]) (T := [(30, [.inr (.inl 11)], [.inr (.inl 35)]), (0, [.inl (.int 28), .inr (.inl 69)], []), (30, [.inr (.inl 72)], [.inr (.inl 55)]), (0, [.inr (.inl 73), .inl (.int 1)], []), (40, [.inr (.inl 72), .inr (.inl 74)], [.inr (.inl 55)]), (0, [.inl (.int 28), .inr (.inl 69)], []), (30, [.inr (.inl 76)], [.inr (.inl 75)]), (30, [.inr (.inl 11)], [.inr (.inl 40)])]) (P := [(6, .inr (.inl 11), .inl (.ref 2)), (4, .inr (.inl 71), .inr (.inl 70)), (6, .inr (.inl 72), .inl (.ref 61)), (6, .inr (.inl 72), .inl (.ref 61)), (6, .inr (.inl 76), .inl (.ref 61)), (6, .inr (.inl 11), .inl (.ref 2)), (4, .inr (.inl 77), .inr (.inl 78))]) jm_ok190 (by decide +kernel) (by decide +kernel) hd F X1 X2 (fun F' hF hs => ?_)
  have b11 := hd_b (F := F) (F' := F') (k := 11) (hF 11 (by decide))
  have a35 := hd_ba (F := F) (F' := F') (k := 35) (hF 35 (by decide))
  have t71 : sy_dv F' (.inr (.inl 71)) = .int ((sy_ai F 35).getD (sy_i F 11).toNatClampNeg 0) := hd_rd (hs 0 _ rfl) b11 a35
  have b70 := hd_b (F := F) (F' := F') (k := 70) (hF 70 (by decide))
  have b69 := hd_b (F := F) (F' := F') (k := 69) (hF 69 (by decide))
  have t72 : sy_dv F' (.inr (.inl 72)) = .int (((28 : Int32)) + (sy_i F 69)) := hd_o (hs 1 _ rfl) rfl b69 rfl
  have t76 : sy_dv F' (.inr (.inl 76)) = .int (((28 : Int32)) + (sy_i F 69)) := hd_o (hs 5 _ rfl) rfl b69 rfl
  have a55 := hd_ba (F := F) (F' := F') (k := 55) (hF 55 (by decide))
  have t73 : sy_dv F' (.inr (.inl 73)) = .int ((sy_ai F 55).getD (((28 : Int32)) + (sy_i F 69)).toNatClampNeg 0) := hd_rd (hs 2 _ rfl) t72 a55
  have t74 : sy_dv F' (.inr (.inl 74)) = .int (((sy_ai F 55).getD (((28 : Int32)) + (sy_i F 69)).toNatClampNeg 0) + ((1 : Int32))) := hd_o (hs 3 _ rfl) t73 rfl rfl
  have t75 : sy_da F' (.inr (.inl 75)) = .inl (jm_upd (sy_ai F 55) (((28 : Int32)) + (sy_i F 69)).toNatClampNeg (((sy_ai F 55).getD (((28 : Int32)) + (sy_i F 69)).toNatClampNeg 0) + ((1 : Int32)))) := hd_up (hs 4 _ rfl) t72 t74 a55
  have t77 : sy_dv F' (.inr (.inl 77)) = .int ((jm_upd (sy_ai F 55) (((28 : Int32)) + (sy_i F 69)).toNatClampNeg (((sy_ai F 55).getD (((28 : Int32)) + (sy_i F 69)).toNatClampNeg 0) + ((1 : Int32)))).getD (((28 : Int32)) + (sy_i F 69)).toNatClampNeg 0) := hd_rd (hs 6 _ rfl) t76 t75
  have a40 := hd_ba (F := F) (F' := F') (k := 40) (hF 40 (by decide))
  have t78 : sy_dv F' (.inr (.inl 78)) = .int ((sy_ai F 40).getD (sy_i F 11).toNatClampNeg 0) := hd_rd (hs 7 _ rfl) b11 a40
  have hB' : iv_in F' iv_B4 := iv_in_eq hB (fun j hj => hF j (Nat.lt_of_lt_of_le hj (by decide +kernel)))
  refine ⟨List.forall_mem_cons.mpr ⟨hd_pb b11 (by first | exact h0 | exact h0), List.forall_mem_cons.mpr ⟨hd_p4 t71 b70 h1, List.forall_mem_cons.mpr ⟨hd_pb t72 (by first | exact h2 | exact h2), List.forall_mem_cons.mpr ⟨hd_pb t72 (by first | exact h3 | exact h3), List.forall_mem_cons.mpr ⟨hd_pb t76 (by first | exact h4 | exact h4), List.forall_mem_cons.mpr ⟨hd_pb b11 (by first | exact h5 | exact h5), List.forall_mem_cons.mpr ⟨hd_p4 t77 t78 h6, fun _ h => absurd h List.not_mem_nil⟩⟩⟩⟩⟩⟩⟩, ?_⟩
  refine k _ ?_ ?_
  · exact fun j hj hn => (hd_keep hB' (Nat.lt_of_lt_of_le hj (by decide +kernel)) (by simp; omega)).trans (hF j (Nat.lt_of_lt_of_le hj (by decide)))
  · exact hd_ga (a := .inr (.inl 75)) (by decide +kernel) t75
theorem yli_2_p1 {Ls : Nat} {xs : Nat → Int32} {d : Nat} {Q : Option Value → jm_h → Prop} (hd : 2 ≤ d) (F : Nat → sy_d) (X1 X2 : List jm_c) (hB : iv_in F iv_B4)
    (h0 : 0 ≤ (sy_i F 11).toInt ∧ (sy_i F 11).toInt < 2)
    (h1 : ((sy_ai F 35).getD (sy_i F 11).toNatClampNeg 0).toInt ≤ (sy_i F 70).toInt)
    (h2 : 0 ≤ (((28 : Int32)) + (sy_i F 69)).toInt ∧ (((28 : Int32)) + (sy_i F 69)).toInt < 61)
    (h3 : 0 ≤ (((28 : Int32)) + (sy_i F 69)).toInt ∧ (((28 : Int32)) + (sy_i F 69)).toInt < 61)
    (h4 : 0 ≤ (((28 : Int32)) + (sy_i F 69)).toInt ∧ (((28 : Int32)) + (sy_i F 69)).toInt < 61)
    (h5 : 0 ≤ (sy_i F 11).toInt ∧ (sy_i F 11).toInt < 2)
    (h6 : ((sy_ai F 40).getD (sy_i F 11).toNatClampNeg 0).toInt < ((jm_upd (sy_ai F 55) (((28 : Int32)) + (sy_i F 69)).toNatClampNeg (((sy_ai F 55).getD (((28 : Int32)) + (sy_i F 69)).toNatClampNeg 0) + ((1 : Int32)))).getD (((28 : Int32)) + (sy_i F 69)).toNatClampNeg 0).toInt)
    (h7 : 0 ≤ (((14 : Int32)) + (sy_i F 69)).toInt ∧ (((14 : Int32)) + (sy_i F 69)).toInt < 61)
    (k : ∀ F1 : Nat → sy_d, (∀ j, j < 69 → j ≠ 55 → F1 j = F j) → F1 55 = .inr (.inl (jm_upd (jm_upd (sy_ai F 55) (((28 : Int32)) + (sy_i F 69)).toNatClampNeg (((sy_ai F 55).getD (((28 : Int32)) + (sy_i F 69)).toNatClampNeg 0) + ((1 : Int32)))) (((14 : Int32)) + (sy_i F 69)).toNatClampNeg ((3 : Int32)))) → Q (none) (sy_dh F1 X1 X2 (iv_H 4))) :
    hd_W Ls xs d jm_M190 Q (2, sy_dL F [some (.inl (.ref 1000)), some (.inr (.inl 69)), some (.inr (.inl 70))], sy_dS F [], sy_dh F X1 X2 (iv_H 4), 0, 0) := by
  refine hd_ret (s := 4) (nv := 71) (v := none) (uh := hd_ov (iv_id 0 iv_B4) [(55, .inr (.inr (.inl 80)))]) (f := true) (sp := [2]) (d0 := 1) (O := [true, false]) (T := [(30, [.inr (.inl 11)], [.inr (.inl 35)]), (0, [.inl (.int 28), .inr (.inl 69)], []), (30, [.inr (.inl 72)], [.inr (.inl 55)]), (0, [.inr (.inl 73), .inl (.int 1)], []), (40, [.inr (.inl 72), .inr (.inl 74)], [.inr (.inl 55)]), (0, [.inl (.int 28), .inr (.inl 69)], []), (30, [.inr (.inl 76)], [.inr (.inl 75)]), (30, [.inr (.inl 11)], [.inr (.inl 40)]), (0, [.inl (.int 14), .inr (.inl 69)], []), (40, [.inr (.inl 79), .inl (.int 3)], [.inr (.inl 75)])]) (P := [(6, .inr (.inl 11), .inl (.ref 2)), (4, .inr (.inl 71), .inr (.inl 70)), (6, .inr (.inl 72), .inl (.ref 61)), (6, .inr (.inl 72), .inl (.ref 61)), (6, .inr (.inl 76), .inl (.ref 61)), (6, .inr (.inl 11), .inl (.ref 2)), (5, .inr (.inl 77), .inr (.inl 78)), (6, .inr (.inl 79), .inl (.ref 61))]) jm_ok190 (by decide +kernel) (by decide +kernel) hd F X1 X2 (fun F' hF hs => ?_)
  have b11 := hd_b (F := F) (F' := F') (k := 11) (hF 11 (by decide))
  have a35 := hd_ba (F := F) (F' := F') (k := 35) (hF 35 (by decide))
  have t71 : sy_dv F' (.inr (.inl 71)) = .int ((sy_ai F 35).getD (sy_i F 11).toNatClampNeg 0) := hd_rd (hs 0 _ rfl) b11 a35
  have b70 := hd_b (F := F) (F' := F') (k := 70) (hF 70 (by decide))
  have b69 := hd_b (F := F) (F' := F') (k := 69) (hF 69 (by decide))
  have t72 : sy_dv F' (.inr (.inl 72)) = .int (((28 : Int32)) + (sy_i F 69)) := hd_o (hs 1 _ rfl) rfl b69 rfl
  have t76 : sy_dv F' (.inr (.inl 76)) = .int (((28 : Int32)) + (sy_i F 69)) := hd_o (hs 5 _ rfl) rfl b69 rfl
  have a55 := hd_ba (F := F) (F' := F') (k := 55) (hF 55 (by decide))
  have t73 : sy_dv F' (.inr (.inl 73)) = .int ((sy_ai F 55).getD (((28 : Int32)) + (sy_i F 69)).toNatClampNeg 0) := hd_rd (hs 2 _ rfl) t72 a55
  have t74 : sy_dv F' (.inr (.inl 74)) = .int (((sy_ai F 55).getD (((28 : Int32)) + (sy_i F 69)).toNatClampNeg 0) + ((1 : Int32))) := hd_o (hs 3 _ rfl) t73 rfl rfl
  have t75 : sy_da F' (.inr (.inl 75)) = .inl (jm_upd (sy_ai F 55) (((28 : Int32)) + (sy_i F 69)).toNatClampNeg (((sy_ai F 55).getD (((28 : Int32)) + (sy_i F 69)).toNatClampNeg 0) + ((1 : Int32)))) := hd_up (hs 4 _ rfl) t72 t74 a55
  have t77 : sy_dv F' (.inr (.inl 77)) = .int ((jm_upd (sy_ai F 55) (((28 : Int32)) + (sy_i F 69)).toNatClampNeg (((sy_ai F 55).getD (((28 : Int32)) + (sy_i F 69)).toNatClampNeg 0) + ((1 : Int32)))).getD (((28 : Int32)) + (sy_i F 69)).toNatClampNeg 0) := hd_rd (hs 6 _ rfl) t76 t75
  have a40 := hd_ba (F := F) (F' := F') (k := 40) (hF 40 (by decide))
  have t78 : sy_dv F' (.inr (.inl 78)) = .int ((sy_ai F 40).getD (sy_i F 11).toNatClampNeg 0) := hd_rd (hs 7 _ rfl) b11 a40
  have t79 : sy_dv F' (.inr (.inl 79)) = .int (((14 : Int32)) + (sy_i F 69)) := hd_o (hs 8 _ rfl) rfl b69 rfl
  have t80 : sy_da F' (.inr (.inl 80)) = .inl (jm_upd (jm_upd (sy_ai F 55) (((28 : Int32)) + (sy_i F 69)).toNatClampNeg (((sy_ai F 55).getD (((28 : Int32)) + (sy_i F 69)).toNatClampNeg 0) + ((1 : Int32)))) (((14 : Int32)) + (sy_i F 69)).toNatClampNeg ((3 : Int32))) := hd_up (hs 9 _ rfl) t79 rfl t75
  have hB' : iv_in F' iv_B4 := iv_in_eq hB (fun j hj => hF j (Nat.lt_of_lt_of_le hj (by decide +kernel)))
  refine ⟨List.forall_mem_cons.mpr ⟨hd_pb b11 (by first | exact h0 | exact h0), List.forall_mem_cons.mpr ⟨hd_p4 t71 b70 h1, List.forall_mem_cons.mpr ⟨hd_pb t72 (by first | exact h2 | exact h2), List.forall_mem_cons.mpr ⟨hd_pb t72 (by first | exact h3 | exact h3), List.forall_mem_cons.mpr ⟨hd_pb t76 (by first | exact h4 | exact h4), List.forall_mem_cons.mpr ⟨hd_pb b11 (by first | exact h5 | exact h5), List.forall_mem_cons.mpr ⟨hd_p5 t77 t78 h6, List.forall_mem_cons.mpr ⟨hd_pb t79 (by first | exact h7 | exact h7), fun _ h => absurd h List.not_mem_nil⟩⟩⟩⟩⟩⟩⟩⟩, ?_⟩
  refine k _ ?_ ?_
  · exact fun j hj hn => (hd_keep hB' (Nat.lt_of_lt_of_le hj (by decide +kernel)) (by simp; omega)).trans (hF j (Nat.lt_of_lt_of_le hj (by decide)))
  · exact hd_ga (a := .inr (.inl 80)) (by decide +kernel) t80
theorem yli_2_p2 {Ls : Nat} {xs : Nat → Int32} {d : Nat} {Q : Option Value → jm_h → Prop} (hd : 2 ≤ d) (F : Nat → sy_d) (X1 X2 : List jm_c) (hB : iv_in F iv_B4)
    (h0 : 0 ≤ (sy_i F 11).toInt ∧ (sy_i F 11).toInt < 2)
    (h1 : (sy_i F 70).toInt < ((sy_ai F 35).getD (sy_i F 11).toNatClampNeg 0).toInt)
    (h2 : 0 ≤ (((49 : Int32)) + (sy_i F 70)).toInt ∧ (((49 : Int32)) + (sy_i F 70)).toInt < 61)
    (h3 : 0 ≤ (sy_i F 69).toInt ∧ (sy_i F 69).toInt < 61)
    (h4 : ((sy_ai F 55).getD (((49 : Int32)) + (sy_i F 70)).toNatClampNeg 0).toInt ≠ ((sy_ai F 55).getD (sy_i F 69).toNatClampNeg 0).toInt)
    (k : ∀ F1 : Nat → sy_d, (∀ j, j < 69 → True → F1 j = F j) → F1 69 = .inl (.int (sy_i F 69)) → F1 70 = .inl (.int ((sy_i F 70) + ((1 : Int32)))) → hd_W Ls xs d jm_M190 Q (2, sy_dL F1 [some (.inl (.ref 1000)), some (.inr (.inl 69)), some (.inr (.inl 70))], sy_dS F1 [], sy_dh F1 X1 X2 (iv_H 4), 0, 0)) :
    hd_W Ls xs d jm_M190 Q (2, sy_dL F [some (.inl (.ref 1000)), some (.inr (.inl 69)), some (.inr (.inl 70))], sy_dS F [], sy_dh F X1 X2 (iv_H 4), 0, 0) := by
  refine hd_run (s := 4) (nv := 71) (pc := 2) (L := [some (.inl (.ref 1000)), some (.inr (.inl 69)), some (.inr (.inl 70))]) (S := []) (uh := hd_ov (iv_id 0 iv_B4) []) (ul := [.inl (.inr (.inl 69)), .inl (.inr (.inl 75))]) (f := true) (sp := [2]) (d0 := 1) (O := [false, true]) (T := [(30, [.inr (.inl 11)], [.inr (.inl 35)]), (0, [.inl (.int 49), .inr (.inl 70)], []), (30, [.inr (.inl 72)], [.inr (.inl 55)]), (30, [.inr (.inl 69)], [.inr (.inl 55)]), (0, [.inr (.inl 70), .inl (.int 1)], [])]) (P := [(6, .inr (.inl 11), .inl (.ref 2)), (5, .inr (.inl 71), .inr (.inl 70)), (6, .inr (.inl 72), .inl (.ref 61)), (6, .inr (.inl 69), .inl (.ref 61)), (1, .inr (.inl 73), .inr (.inl 74))]) jm_ok190 (by decide +kernel) (by decide +kernel) hd F X1 X2 (fun F' hF hs => ?_)
  have b11 := hd_b (F := F) (F' := F') (k := 11) (hF 11 (by decide))
  have a35 := hd_ba (F := F) (F' := F') (k := 35) (hF 35 (by decide))
  have t71 : sy_dv F' (.inr (.inl 71)) = .int ((sy_ai F 35).getD (sy_i F 11).toNatClampNeg 0) := hd_rd (hs 0 _ rfl) b11 a35
  have b70 := hd_b (F := F) (F' := F') (k := 70) (hF 70 (by decide))
  have t72 : sy_dv F' (.inr (.inl 72)) = .int (((49 : Int32)) + (sy_i F 70)) := hd_o (hs 1 _ rfl) rfl b70 rfl
  have b69 := hd_b (F := F) (F' := F') (k := 69) (hF 69 (by decide))
  have a55 := hd_ba (F := F) (F' := F') (k := 55) (hF 55 (by decide))
  have t73 : sy_dv F' (.inr (.inl 73)) = .int ((sy_ai F 55).getD (((49 : Int32)) + (sy_i F 70)).toNatClampNeg 0) := hd_rd (hs 2 _ rfl) t72 a55
  have t74 : sy_dv F' (.inr (.inl 74)) = .int ((sy_ai F 55).getD (sy_i F 69).toNatClampNeg 0) := hd_rd (hs 3 _ rfl) b69 a55
  have t75 : sy_dv F' (.inr (.inl 75)) = .int ((sy_i F 70) + ((1 : Int32))) := hd_o (hs 4 _ rfl) b70 rfl rfl
  have hB' : iv_in F' iv_B4 := iv_in_eq hB (fun j hj => hF j (Nat.lt_of_lt_of_le hj (by decide +kernel)))
  refine ⟨List.forall_mem_cons.mpr ⟨hd_pb b11 (by first | exact h0 | exact h0), List.forall_mem_cons.mpr ⟨hd_p5 t71 b70 h1, List.forall_mem_cons.mpr ⟨hd_pb t72 (by first | exact h2 | exact h2), List.forall_mem_cons.mpr ⟨hd_pb b69 (by first | exact h3 | exact h3), List.forall_mem_cons.mpr ⟨hd_p1 t73 t74 h4, fun _ h => absurd h List.not_mem_nil⟩⟩⟩⟩⟩, ?_⟩
  refine k _ ?_ ?_ ?_
  · exact fun j hj _ => (hd_keep hB' (Nat.lt_of_lt_of_le hj (by decide +kernel)) (by simp)).trans (hF j (Nat.lt_of_lt_of_le hj (by decide)))
  · exact hd_gi (x := .inr (.inl 69)) (by decide +kernel) b69
  · exact hd_gi (x := .inr (.inl 75)) (by decide +kernel) t75
theorem yli_2_p3 {Ls : Nat} {xs : Nat → Int32} {d : Nat} {Q : Option Value → jm_h → Prop} (hd : 2 ≤ d) (F : Nat → sy_d) (X1 X2 : List jm_c) (hB : iv_in F iv_B4)
    (h0 : 0 ≤ (sy_i F 11).toInt ∧ (sy_i F 11).toInt < 2)
    (h1 : (sy_i F 70).toInt < ((sy_ai F 35).getD (sy_i F 11).toNatClampNeg 0).toInt)
    (h2 : 0 ≤ (((49 : Int32)) + (sy_i F 70)).toInt ∧ (((49 : Int32)) + (sy_i F 70)).toInt < 61)
    (h3 : 0 ≤ (sy_i F 69).toInt ∧ (sy_i F 69).toInt < 61)
    (h4 : ((sy_ai F 55).getD (((49 : Int32)) + (sy_i F 70)).toNatClampNeg 0).toInt = ((sy_ai F 55).getD (sy_i F 69).toNatClampNeg 0).toInt)
    (h5 : 0 ≤ (((53 : Int32)) + (sy_i F 70)).toInt ∧ (((53 : Int32)) + (sy_i F 70)).toInt < 61)
    (h6 : 0 ≤ (sy_i F 69).toInt ∧ (sy_i F 69).toInt < 7)
    (h7 : ((sy_ai F 58).getD (sy_i F 69).toNatClampNeg 0).toInt ≤ ((sy_ai F 55).getD (((53 : Int32)) + (sy_i F 70)).toNatClampNeg 0).toInt)
    (h8 : 0 ≤ (sy_i F 69).toInt ∧ (sy_i F 69).toInt < 7)
    (h9 : 0 ≤ (((14 : Int32)) + (sy_i F 69)).toInt ∧ (((14 : Int32)) + (sy_i F 69)).toInt < 61)
    (h10 : 0 ≤ (((21 : Int32)) + (sy_i F 69)).toInt ∧ (((21 : Int32)) + (sy_i F 69)).toInt < 61)
    (h11 : 0 ≤ (((53 : Int32)) + (sy_i F 70)).toInt ∧ (((53 : Int32)) + (sy_i F 70)).toInt < 61)
    (h12 : 0 ≤ (((53 : Int32)) + (sy_i F 70)).toInt ∧ (((53 : Int32)) + (sy_i F 70)).toInt < 61)
    (k : ∀ F1 : Nat → sy_d, (∀ j, j < 69 → j ≠ 19 ∧ j ≠ 55 → F1 j = F j) → F1 19 = .inl (.int ((1 : Int32))) → F1 55 = .inr (.inl (jm_upd (jm_upd (jm_upd (sy_ai F 55) (((14 : Int32)) + (sy_i F 69)).toNatClampNeg ((2 : Int32))) (((21 : Int32)) + (sy_i F 69)).toNatClampNeg (sy_i F 70)) (((53 : Int32)) + (sy_i F 70)).toNatClampNeg (((jm_upd (jm_upd (sy_ai F 55) (((14 : Int32)) + (sy_i F 69)).toNatClampNeg ((2 : Int32))) (((21 : Int32)) + (sy_i F 69)).toNatClampNeg (sy_i F 70)).getD (((53 : Int32)) + (sy_i F 70)).toNatClampNeg 0) - ((sy_ai F 58).getD (sy_i F 69).toNatClampNeg 0)))) → Q (none) (sy_dh F1 X1 X2 (iv_H 4))) :
    hd_W Ls xs d jm_M190 Q (2, sy_dL F [some (.inl (.ref 1000)), some (.inr (.inl 69)), some (.inr (.inl 70))], sy_dS F [], sy_dh F X1 X2 (iv_H 4), 0, 0) := by
  refine hd_ret (s := 4) (nv := 71) (v := none) (uh := hd_ov (iv_id 0 iv_B4) [(19, .inl (.inl (.int 1))), (55, .inr (.inr (.inl 86)))]) (f := true) (sp := [2]) (d0 := 1) (O := [false, false, true]) (T := [(30, [.inr (.inl 11)], [.inr (.inl 35)]), (0, [.inl (.int 49), .inr (.inl 70)], []), (30, [.inr (.inl 72)], [.inr (.inl 55)]), (30, [.inr (.inl 69)], [.inr (.inl 55)]), (0, [.inl (.int 53), .inr (.inl 70)], []), (30, [.inr (.inl 75)], [.inr (.inl 55)]), (30, [.inr (.inl 69)], [.inr (.inl 58)]), (30, [.inr (.inl 69)], [.inr (.inl 58)]), (0, [.inl (.int 14), .inr (.inl 69)], []), (40, [.inr (.inl 79), .inl (.int 2)], [.inr (.inl 55)]), (0, [.inl (.int 21), .inr (.inl 69)], []), (40, [.inr (.inl 81), .inr (.inl 70)], [.inr (.inl 80)]), (0, [.inl (.int 53), .inr (.inl 70)], []), (30, [.inr (.inl 83)], [.inr (.inl 82)]), (1, [.inr (.inl 84), .inr (.inl 78)], []), (40, [.inr (.inl 83), .inr (.inl 85)], [.inr (.inl 82)])]) (P := [(6, .inr (.inl 11), .inl (.ref 2)), (5, .inr (.inl 71), .inr (.inl 70)), (6, .inr (.inl 72), .inl (.ref 61)), (6, .inr (.inl 69), .inl (.ref 61)), (0, .inr (.inl 73), .inr (.inl 74)), (6, .inr (.inl 75), .inl (.ref 61)), (6, .inr (.inl 69), .inl (.ref 7)), (4, .inr (.inl 77), .inr (.inl 76)), (6, .inr (.inl 69), .inl (.ref 7)), (6, .inr (.inl 79), .inl (.ref 61)), (6, .inr (.inl 81), .inl (.ref 61)), (6, .inr (.inl 83), .inl (.ref 61)), (6, .inr (.inl 83), .inl (.ref 61))]) jm_ok190 (by decide +kernel) (by decide +kernel) hd F X1 X2 (fun F' hF hs => ?_)
  have b11 := hd_b (F := F) (F' := F') (k := 11) (hF 11 (by decide))
  have a35 := hd_ba (F := F) (F' := F') (k := 35) (hF 35 (by decide))
  have t71 : sy_dv F' (.inr (.inl 71)) = .int ((sy_ai F 35).getD (sy_i F 11).toNatClampNeg 0) := hd_rd (hs 0 _ rfl) b11 a35
  have b70 := hd_b (F := F) (F' := F') (k := 70) (hF 70 (by decide))
  have t72 : sy_dv F' (.inr (.inl 72)) = .int (((49 : Int32)) + (sy_i F 70)) := hd_o (hs 1 _ rfl) rfl b70 rfl
  have b69 := hd_b (F := F) (F' := F') (k := 69) (hF 69 (by decide))
  have a55 := hd_ba (F := F) (F' := F') (k := 55) (hF 55 (by decide))
  have t73 : sy_dv F' (.inr (.inl 73)) = .int ((sy_ai F 55).getD (((49 : Int32)) + (sy_i F 70)).toNatClampNeg 0) := hd_rd (hs 2 _ rfl) t72 a55
  have t74 : sy_dv F' (.inr (.inl 74)) = .int ((sy_ai F 55).getD (sy_i F 69).toNatClampNeg 0) := hd_rd (hs 3 _ rfl) b69 a55
  have t75 : sy_dv F' (.inr (.inl 75)) = .int (((53 : Int32)) + (sy_i F 70)) := hd_o (hs 4 _ rfl) rfl b70 rfl
  have a58 := hd_ba (F := F) (F' := F') (k := 58) (hF 58 (by decide))
  have t77 : sy_dv F' (.inr (.inl 77)) = .int ((sy_ai F 58).getD (sy_i F 69).toNatClampNeg 0) := hd_rd (hs 6 _ rfl) b69 a58
  have t76 : sy_dv F' (.inr (.inl 76)) = .int ((sy_ai F 55).getD (((53 : Int32)) + (sy_i F 70)).toNatClampNeg 0) := hd_rd (hs 5 _ rfl) t75 a55
  have t79 : sy_dv F' (.inr (.inl 79)) = .int (((14 : Int32)) + (sy_i F 69)) := hd_o (hs 8 _ rfl) rfl b69 rfl
  have t81 : sy_dv F' (.inr (.inl 81)) = .int (((21 : Int32)) + (sy_i F 69)) := hd_o (hs 10 _ rfl) rfl b69 rfl
  have t83 : sy_dv F' (.inr (.inl 83)) = .int (((53 : Int32)) + (sy_i F 70)) := hd_o (hs 12 _ rfl) rfl b70 rfl
  have t80 : sy_da F' (.inr (.inl 80)) = .inl (jm_upd (sy_ai F 55) (((14 : Int32)) + (sy_i F 69)).toNatClampNeg ((2 : Int32))) := hd_up (hs 9 _ rfl) t79 rfl a55
  have t82 : sy_da F' (.inr (.inl 82)) = .inl (jm_upd (jm_upd (sy_ai F 55) (((14 : Int32)) + (sy_i F 69)).toNatClampNeg ((2 : Int32))) (((21 : Int32)) + (sy_i F 69)).toNatClampNeg (sy_i F 70)) := hd_up (hs 11 _ rfl) t81 b70 t80
  have t84 : sy_dv F' (.inr (.inl 84)) = .int ((jm_upd (jm_upd (sy_ai F 55) (((14 : Int32)) + (sy_i F 69)).toNatClampNeg ((2 : Int32))) (((21 : Int32)) + (sy_i F 69)).toNatClampNeg (sy_i F 70)).getD (((53 : Int32)) + (sy_i F 70)).toNatClampNeg 0) := hd_rd (hs 13 _ rfl) t83 t82
  have t78 : sy_dv F' (.inr (.inl 78)) = .int ((sy_ai F 58).getD (sy_i F 69).toNatClampNeg 0) := hd_rd (hs 7 _ rfl) b69 a58
  have t85 : sy_dv F' (.inr (.inl 85)) = .int (((jm_upd (jm_upd (sy_ai F 55) (((14 : Int32)) + (sy_i F 69)).toNatClampNeg ((2 : Int32))) (((21 : Int32)) + (sy_i F 69)).toNatClampNeg (sy_i F 70)).getD (((53 : Int32)) + (sy_i F 70)).toNatClampNeg 0) - ((sy_ai F 58).getD (sy_i F 69).toNatClampNeg 0)) := hd_o (hs 14 _ rfl) t84 t78 rfl
  have t86 : sy_da F' (.inr (.inl 86)) = .inl (jm_upd (jm_upd (jm_upd (sy_ai F 55) (((14 : Int32)) + (sy_i F 69)).toNatClampNeg ((2 : Int32))) (((21 : Int32)) + (sy_i F 69)).toNatClampNeg (sy_i F 70)) (((53 : Int32)) + (sy_i F 70)).toNatClampNeg (((jm_upd (jm_upd (sy_ai F 55) (((14 : Int32)) + (sy_i F 69)).toNatClampNeg ((2 : Int32))) (((21 : Int32)) + (sy_i F 69)).toNatClampNeg (sy_i F 70)).getD (((53 : Int32)) + (sy_i F 70)).toNatClampNeg 0) - ((sy_ai F 58).getD (sy_i F 69).toNatClampNeg 0))) := hd_up (hs 15 _ rfl) t83 t85 t82
  have hB' : iv_in F' iv_B4 := iv_in_eq hB (fun j hj => hF j (Nat.lt_of_lt_of_le hj (by decide +kernel)))
  refine ⟨List.forall_mem_cons.mpr ⟨hd_pb b11 (by first | exact h0 | exact h0), List.forall_mem_cons.mpr ⟨hd_p5 t71 b70 h1, List.forall_mem_cons.mpr ⟨hd_pb t72 (by first | exact h2 | exact h2), List.forall_mem_cons.mpr ⟨hd_pb b69 (by first | exact h3 | exact h3), List.forall_mem_cons.mpr ⟨hd_p0 t73 t74 h4, List.forall_mem_cons.mpr ⟨hd_pb t75 (by first | exact h5 | exact h5), List.forall_mem_cons.mpr ⟨hd_pb b69 (by first | exact h6 | exact h6), List.forall_mem_cons.mpr ⟨hd_p4 t77 t76 h7, List.forall_mem_cons.mpr ⟨hd_pb b69 (by first | exact h8 | exact h8), List.forall_mem_cons.mpr ⟨hd_pb t79 (by first | exact h9 | exact h9), List.forall_mem_cons.mpr ⟨hd_pb t81 (by first | exact h10 | exact h10), List.forall_mem_cons.mpr ⟨hd_pb t83 (by first | exact h11 | exact h11), List.forall_mem_cons.mpr ⟨hd_pb t83 (by first | exact h12 | exact h12), fun _ h => absurd h List.not_mem_nil⟩⟩⟩⟩⟩⟩⟩⟩⟩⟩⟩⟩⟩, ?_⟩
  refine k _ ?_ ?_ ?_
  · exact fun j hj hn => (hd_keep hB' (Nat.lt_of_lt_of_le hj (by decide +kernel)) (by simp; omega)).trans (hF j (Nat.lt_of_lt_of_le hj (by decide)))
  · exact hd_gi (x := .inl (.int 1)) (by decide +kernel) rfl
  · exact hd_ga (a := .inr (.inl 86)) (by decide +kernel) t86
theorem yli_2_p4 {Ls : Nat} {xs : Nat → Int32} {d : Nat} {Q : Option Value → jm_h → Prop} (hd : 2 ≤ d) (F : Nat → sy_d) (X1 X2 : List jm_c) (hB : iv_in F iv_B4)
    (h0 : 0 ≤ (sy_i F 11).toInt ∧ (sy_i F 11).toInt < 2)
    (h1 : (sy_i F 70).toInt < ((sy_ai F 35).getD (sy_i F 11).toNatClampNeg 0).toInt)
    (h2 : 0 ≤ (((49 : Int32)) + (sy_i F 70)).toInt ∧ (((49 : Int32)) + (sy_i F 70)).toInt < 61)
    (h3 : 0 ≤ (sy_i F 69).toInt ∧ (sy_i F 69).toInt < 61)
    (h4 : ((sy_ai F 55).getD (((49 : Int32)) + (sy_i F 70)).toNatClampNeg 0).toInt = ((sy_ai F 55).getD (sy_i F 69).toNatClampNeg 0).toInt)
    (h5 : 0 ≤ (((53 : Int32)) + (sy_i F 70)).toInt ∧ (((53 : Int32)) + (sy_i F 70)).toInt < 61)
    (h6 : 0 ≤ (sy_i F 69).toInt ∧ (sy_i F 69).toInt < 7)
    (h7 : ((sy_ai F 55).getD (((53 : Int32)) + (sy_i F 70)).toNatClampNeg 0).toInt < ((sy_ai F 58).getD (sy_i F 69).toNatClampNeg 0).toInt)
    (k : ∀ F1 : Nat → sy_d, (∀ j, j < 69 → True → F1 j = F j) → F1 69 = .inl (.int (sy_i F 69)) → F1 70 = .inl (.int ((sy_i F 70) + ((1 : Int32)))) → hd_W Ls xs d jm_M190 Q (2, sy_dL F1 [some (.inl (.ref 1000)), some (.inr (.inl 69)), some (.inr (.inl 70))], sy_dS F1 [], sy_dh F1 X1 X2 (iv_H 4), 0, 0)) :
    hd_W Ls xs d jm_M190 Q (2, sy_dL F [some (.inl (.ref 1000)), some (.inr (.inl 69)), some (.inr (.inl 70))], sy_dS F [], sy_dh F X1 X2 (iv_H 4), 0, 0) := by
  refine hd_run (s := 4) (nv := 71) (pc := 2) (L := [some (.inl (.ref 1000)), some (.inr (.inl 69)), some (.inr (.inl 70))]) (S := []) (uh := hd_ov (iv_id 0 iv_B4) []) (ul := [.inl (.inr (.inl 69)), .inl (.inr (.inl 78))]) (f := true) (sp := [2]) (d0 := 1) (O := [false, false, false]) (T := [(30, [.inr (.inl 11)], [.inr (.inl 35)]), (0, [.inl (.int 49), .inr (.inl 70)], []), (30, [.inr (.inl 72)], [.inr (.inl 55)]), (30, [.inr (.inl 69)], [.inr (.inl 55)]), (0, [.inl (.int 53), .inr (.inl 70)], []), (30, [.inr (.inl 75)], [.inr (.inl 55)]), (30, [.inr (.inl 69)], [.inr (.inl 58)]), (0, [.inr (.inl 70), .inl (.int 1)], [])]) (P := [(6, .inr (.inl 11), .inl (.ref 2)), (5, .inr (.inl 71), .inr (.inl 70)), (6, .inr (.inl 72), .inl (.ref 61)), (6, .inr (.inl 69), .inl (.ref 61)), (0, .inr (.inl 73), .inr (.inl 74)), (6, .inr (.inl 75), .inl (.ref 61)), (6, .inr (.inl 69), .inl (.ref 7)), (5, .inr (.inl 77), .inr (.inl 76))]) jm_ok190 (by decide +kernel) (by decide +kernel) hd F X1 X2 (fun F' hF hs => ?_)
  have b11 := hd_b (F := F) (F' := F') (k := 11) (hF 11 (by decide))
  have a35 := hd_ba (F := F) (F' := F') (k := 35) (hF 35 (by decide))
  have t71 : sy_dv F' (.inr (.inl 71)) = .int ((sy_ai F 35).getD (sy_i F 11).toNatClampNeg 0) := hd_rd (hs 0 _ rfl) b11 a35
  have b70 := hd_b (F := F) (F' := F') (k := 70) (hF 70 (by decide))
  have t72 : sy_dv F' (.inr (.inl 72)) = .int (((49 : Int32)) + (sy_i F 70)) := hd_o (hs 1 _ rfl) rfl b70 rfl
  have b69 := hd_b (F := F) (F' := F') (k := 69) (hF 69 (by decide))
  have a55 := hd_ba (F := F) (F' := F') (k := 55) (hF 55 (by decide))
  have t73 : sy_dv F' (.inr (.inl 73)) = .int ((sy_ai F 55).getD (((49 : Int32)) + (sy_i F 70)).toNatClampNeg 0) := hd_rd (hs 2 _ rfl) t72 a55
  have t74 : sy_dv F' (.inr (.inl 74)) = .int ((sy_ai F 55).getD (sy_i F 69).toNatClampNeg 0) := hd_rd (hs 3 _ rfl) b69 a55
  have t75 : sy_dv F' (.inr (.inl 75)) = .int (((53 : Int32)) + (sy_i F 70)) := hd_o (hs 4 _ rfl) rfl b70 rfl
  have a58 := hd_ba (F := F) (F' := F') (k := 58) (hF 58 (by decide))
  have t77 : sy_dv F' (.inr (.inl 77)) = .int ((sy_ai F 58).getD (sy_i F 69).toNatClampNeg 0) := hd_rd (hs 6 _ rfl) b69 a58
  have t76 : sy_dv F' (.inr (.inl 76)) = .int ((sy_ai F 55).getD (((53 : Int32)) + (sy_i F 70)).toNatClampNeg 0) := hd_rd (hs 5 _ rfl) t75 a55
  have t78 : sy_dv F' (.inr (.inl 78)) = .int ((sy_i F 70) + ((1 : Int32))) := hd_o (hs 7 _ rfl) b70 rfl rfl
  have hB' : iv_in F' iv_B4 := iv_in_eq hB (fun j hj => hF j (Nat.lt_of_lt_of_le hj (by decide +kernel)))
  refine ⟨List.forall_mem_cons.mpr ⟨hd_pb b11 (by first | exact h0 | exact h0), List.forall_mem_cons.mpr ⟨hd_p5 t71 b70 h1, List.forall_mem_cons.mpr ⟨hd_pb t72 (by first | exact h2 | exact h2), List.forall_mem_cons.mpr ⟨hd_pb b69 (by first | exact h3 | exact h3), List.forall_mem_cons.mpr ⟨hd_p0 t73 t74 h4, List.forall_mem_cons.mpr ⟨hd_pb t75 (by first | exact h5 | exact h5), List.forall_mem_cons.mpr ⟨hd_pb b69 (by first | exact h6 | exact h6), List.forall_mem_cons.mpr ⟨hd_p5 t77 t76 h7, fun _ h => absurd h List.not_mem_nil⟩⟩⟩⟩⟩⟩⟩⟩, ?_⟩
  refine k _ ?_ ?_ ?_
  · exact fun j hj _ => (hd_keep hB' (Nat.lt_of_lt_of_le hj (by decide +kernel)) (by simp)).trans (hF j (Nat.lt_of_lt_of_le hj (by decide)))
  · exact hd_gi (x := .inr (.inl 69)) (by decide +kernel) b69
  · exact hd_gi (x := .inr (.inl 78)) (by decide +kernel) t78
theorem yli_2 {Ls : Nat} {xs : Nat → Int32} {d : Nat} {Q : Option Value → jm_h → Prop} (hd : 2 ≤ d) (F : Nat → sy_d) (X1 X2 : List jm_c) (hB : iv_in F iv_B4)
    (a69 : 0 ≤ (sy_i F 69).toInt ∧ (sy_i F 69).toInt ≤ 6)
    (a70 : 0 ≤ (sy_i F 70).toInt ∧ (sy_i F 70).toInt ≤ 4)
    (k0 : ((sy_ai F 35).getD ((sy_i F 11).toInt).toNat 0).toInt ≤ (sy_i F 70).toInt → ((jm_upd (sy_ai F 55) ((28 + (sy_i F 69).toInt)).toNat (((sy_ai F 55).getD ((28 + (sy_i F 69).toInt)).toNat 0) + ((1 : Int32)))).getD ((28 + (sy_i F 69).toInt)).toNat 0).toInt ≤ ((sy_ai F 40).getD ((sy_i F 11).toInt).toNat 0).toInt → ∀ F1 : Nat → sy_d, iv_in F1 iv_B4 → (∀ j, j < 69 → j ∉ ([55] : List Nat) → F1 j = F j) → sy_ai F1 55 = jm_upd (sy_ai F 55) ((28 + (sy_i F 69).toInt)).toNat (((sy_ai F 55).getD ((28 + (sy_i F 69).toInt)).toNat 0) + ((1 : Int32))) → Q (none) (sy_dh F1 X1 X2 (iv_H 4)))
    (k1 : ((sy_ai F 35).getD ((sy_i F 11).toInt).toNat 0).toInt ≤ (sy_i F 70).toInt → ((sy_ai F 40).getD ((sy_i F 11).toInt).toNat 0).toInt < ((jm_upd (sy_ai F 55) ((28 + (sy_i F 69).toInt)).toNat (((sy_ai F 55).getD ((28 + (sy_i F 69).toInt)).toNat 0) + ((1 : Int32)))).getD ((28 + (sy_i F 69).toInt)).toNat 0).toInt → ∀ F1 : Nat → sy_d, iv_in F1 iv_B4 → (∀ j, j < 69 → j ∉ ([55] : List Nat) → F1 j = F j) → sy_ai F1 55 = jm_upd (jm_upd (sy_ai F 55) ((28 + (sy_i F 69).toInt)).toNat (((sy_ai F 55).getD ((28 + (sy_i F 69).toInt)).toNat 0) + ((1 : Int32)))) ((14 + (sy_i F 69).toInt)).toNat ((3 : Int32)) → Q (none) (sy_dh F1 X1 X2 (iv_H 4)))
    (k2 : (sy_i F 70).toInt < ((sy_ai F 35).getD ((sy_i F 11).toInt).toNat 0).toInt → ((sy_ai F 55).getD ((49 + (sy_i F 70).toInt)).toNat 0).toInt ≠ ((sy_ai F 55).getD ((sy_i F 69).toInt).toNat 0).toInt → ∀ F1 : Nat → sy_d, iv_in F1 iv_B4 → (∀ j, j < 69 → j ∉ ([] : List Nat) → F1 j = F j) → (sy_i F1 69).toInt = (sy_i F 69).toInt → sy_i F1 69 = sy_i F 69 → (sy_i F1 70).toInt = ((sy_i F 70).toInt + 1) → sy_i F1 70 = (sy_i F 70) + ((1 : Int32)) → hd_W Ls xs d jm_M190 Q (2, sy_dL F1 [some (.inl (.ref 1000)), some (.inr (.inl 69)), some (.inr (.inl 70))], sy_dS F1 [], sy_dh F1 X1 X2 (iv_H 4), 0, 0))
    (k3 : (sy_i F 70).toInt < ((sy_ai F 35).getD ((sy_i F 11).toInt).toNat 0).toInt → ((sy_ai F 55).getD ((49 + (sy_i F 70).toInt)).toNat 0).toInt = ((sy_ai F 55).getD ((sy_i F 69).toInt).toNat 0).toInt → ((sy_ai F 58).getD ((sy_i F 69).toInt).toNat 0).toInt ≤ ((sy_ai F 55).getD ((53 + (sy_i F 70).toInt)).toNat 0).toInt → ∀ F1 : Nat → sy_d, iv_in F1 iv_B4 → (∀ j, j < 69 → j ∉ ([19, 55] : List Nat) → F1 j = F j) → (sy_i F1 19).toInt = 1 → sy_i F1 19 = (1 : Int32) → sy_ai F1 55 = jm_upd (jm_upd (jm_upd (sy_ai F 55) ((14 + (sy_i F 69).toInt)).toNat ((2 : Int32))) ((21 + (sy_i F 69).toInt)).toNat (sy_i F 70)) ((53 + (sy_i F 70).toInt)).toNat (((jm_upd (jm_upd (sy_ai F 55) ((14 + (sy_i F 69).toInt)).toNat ((2 : Int32))) ((21 + (sy_i F 69).toInt)).toNat (sy_i F 70)).getD ((53 + (sy_i F 70).toInt)).toNat 0) - ((sy_ai F 58).getD ((sy_i F 69).toInt).toNat 0)) → Q (none) (sy_dh F1 X1 X2 (iv_H 4)))
    (k4 : (sy_i F 70).toInt < ((sy_ai F 35).getD ((sy_i F 11).toInt).toNat 0).toInt → ((sy_ai F 55).getD ((49 + (sy_i F 70).toInt)).toNat 0).toInt = ((sy_ai F 55).getD ((sy_i F 69).toInt).toNat 0).toInt → ((sy_ai F 55).getD ((53 + (sy_i F 70).toInt)).toNat 0).toInt < ((sy_ai F 58).getD ((sy_i F 69).toInt).toNat 0).toInt → ∀ F1 : Nat → sy_d, iv_in F1 iv_B4 → (∀ j, j < 69 → j ∉ ([] : List Nat) → F1 j = F j) → (sy_i F1 69).toInt = (sy_i F 69).toInt → sy_i F1 69 = sy_i F 69 → (sy_i F1 70).toInt = ((sy_i F 70).toInt + 1) → sy_i F1 70 = (sy_i F 70) + ((1 : Int32)) → hd_W Ls xs d jm_M190 Q (2, sy_dL F1 [some (.inl (.ref 1000)), some (.inr (.inl 69)), some (.inr (.inl 70))], sy_dS F1 [], sy_dh F1 X1 X2 (iv_H 4), 0, 0)) :
    hd_W Ls xs d jm_M190 Q (2, sy_dL F [some (.inl (.ref 1000)), some (.inr (.inl 69)), some (.inr (.inl 70))], sy_dS F [], sy_dh F X1 X2 (iv_H 4), 0, 0) := by
  by_cases g0 : ((sy_ai F 35).getD ((sy_i F 11).toInt).toNat 0).toInt ≤ (sy_i F 70).toInt
  · by_cases g1 : ((jm_upd (sy_ai F 55) ((28 + (sy_i F 69).toInt)).toNat (((sy_ai F 55).getD ((28 + (sy_i F 69).toInt)).toNat 0) + ((1 : Int32)))).getD ((28 + (sy_i F 69).toInt)).toNat 0).toInt ≤ ((sy_ai F 40).getD ((sy_i F 11).toInt).toNat 0).toInt
    · have c11 := nz_bx hB (k := 11) (lo := 0) (hi := 1) rfl
      have q71 : (sy_ai F 35).getD (sy_i F 11).toNatClampNeg 0 = (sy_ai F 35).getD ((sy_i F 11).toInt).toNat 0 := by simp only [nz_c]
      have n71 : nzI ((sy_ai F 35).getD (sy_i F 11).toNatClampNeg 0) (((sy_ai F 35).getD ((sy_i F 11).toInt).toNat 0).toInt) := congrArg Int32.toInt q71
      have r71 := nz_ba hB (k := 35) (lo := 0) (hi := 4) rfl ((sy_i F 11).toInt).toNat
      have n72 : nzI (((28 : Int32)) + (sy_i F 69)) ((28 + (sy_i F 69).toInt)) := nz_add (by decide : ((28 : Int32)).toInt = 28) (rfl : (sy_i F 69).toInt = (sy_i F 69).toInt) (by omega) (by omega)
      have n76 : nzI (((28 : Int32)) + (sy_i F 69)) ((28 + (sy_i F 69).toInt)) := nz_add (by decide : ((28 : Int32)).toInt = 28) (rfl : (sy_i F 69).toInt = (sy_i F 69).toInt) (by omega) (by omega)
      have q77 : (jm_upd (sy_ai F 55) (((28 : Int32)) + (sy_i F 69)).toNatClampNeg (((sy_ai F 55).getD (((28 : Int32)) + (sy_i F 69)).toNatClampNeg 0) + ((1 : Int32)))).getD (((28 : Int32)) + (sy_i F 69)).toNatClampNeg 0 = (jm_upd (sy_ai F 55) ((28 + (sy_i F 69).toInt)).toNat (((sy_ai F 55).getD ((28 + (sy_i F 69).toInt)).toNat 0) + ((1 : Int32)))).getD ((28 + (sy_i F 69).toInt)).toNat 0 := by simp only [nz_c, (nzE n72), (nzE n76), (by decide : ((1 : Int32)).toInt = 1), (by decide : ((28 : Int32)).toInt = 28)]
      have n77 : nzI ((jm_upd (sy_ai F 55) (((28 : Int32)) + (sy_i F 69)).toNatClampNeg (((sy_ai F 55).getD (((28 : Int32)) + (sy_i F 69)).toNatClampNeg 0) + ((1 : Int32)))).getD (((28 : Int32)) + (sy_i F 69)).toNatClampNeg 0) (((jm_upd (sy_ai F 55) ((28 + (sy_i F 69).toInt)).toNat (((sy_ai F 55).getD ((28 + (sy_i F 69).toInt)).toNat 0) + ((1 : Int32)))).getD ((28 + (sy_i F 69).toInt)).toNat 0).toInt) := congrArg Int32.toInt q77
      have q78 : (sy_ai F 40).getD (sy_i F 11).toNatClampNeg 0 = (sy_ai F 40).getD ((sy_i F 11).toInt).toNat 0 := by simp only [nz_c]
      have n78 : nzI ((sy_ai F 40).getD (sy_i F 11).toNatClampNeg 0) (((sy_ai F 40).getD ((sy_i F 11).toInt).toNat 0).toInt) := congrArg Int32.toInt q78
      have w75 : jm_upd (sy_ai F 55) (((28 : Int32)) + (sy_i F 69)).toNatClampNeg (((sy_ai F 55).getD (((28 : Int32)) + (sy_i F 69)).toNatClampNeg 0) + ((1 : Int32))) = jm_upd (sy_ai F 55) ((28 + (sy_i F 69).toInt)).toNat (((sy_ai F 55).getD ((28 + (sy_i F 69).toInt)).toNat 0) + ((1 : Int32))) := by simp only [nz_c, (nzE n72), (by decide : ((1 : Int32)).toInt = 1), (by decide : ((28 : Int32)).toInt = 28)]
      exact yli_2_p0 hd F X1 X2 hB (by first | exact ⟨by omega, by omega⟩ | (simp only [nz_c]; exact ⟨by omega, by omega⟩)) (by first | exact g0 | (simp only [nz_c]; exact g0) | (rw [(nzE n71)]; exact g0)) (by first | (simp only [nz_c, (nzE n72)]; exact ⟨by omega, by omega⟩) | exact ⟨by omega, by omega⟩ | (rw [(nzE n72)]; exact ⟨by omega, by omega⟩)) (by first | (simp only [nz_c, (nzE n72)]; exact ⟨by omega, by omega⟩) | exact ⟨by omega, by omega⟩ | (rw [(nzE n72)]; exact ⟨by omega, by omega⟩)) (by first | (simp only [nz_c, (nzE n76)]; exact ⟨by omega, by omega⟩) | exact ⟨by omega, by omega⟩ | (rw [(nzE n76)]; exact ⟨by omega, by omega⟩)) (by first | exact ⟨by omega, by omega⟩ | (simp only [nz_c]; exact ⟨by omega, by omega⟩)) (by first | (simp only [nz_c, (nzE n72), (nzE n76)]; exact g1) | exact g1 | (rw [(nzE n77)]; exact g1) | (rw [(nzE n78)]; exact g1) | (rw [(nzE n77), (nzE n78)]; exact g1)) (fun F1 g e55 => k0 g0 g1 F1 (nz_in hB [55] (fun j hj hn => g j hj (by simp only [List.mem_cons, List.not_mem_nil, or_false, not_or] at hn; omega)) (List.forall_mem_cons.mpr ⟨fun t ht => (Option.some.inj ht) ▸ (nz_hz2 e55), List.forall_mem_nil _⟩)) (fun j hj hn => g j hj (by simp only [List.mem_cons, List.not_mem_nil, or_false, not_or] at hn; omega)) ((zz_ai e55).trans w75))
    replace g1 : ((sy_ai F 40).getD ((sy_i F 11).toInt).toNat 0).toInt < ((jm_upd (sy_ai F 55) ((28 + (sy_i F 69).toInt)).toNat (((sy_ai F 55).getD ((28 + (sy_i F 69).toInt)).toNat 0) + ((1 : Int32)))).getD ((28 + (sy_i F 69).toInt)).toNat 0).toInt := by omega
    have c11 := nz_bx hB (k := 11) (lo := 0) (hi := 1) rfl
    have q71 : (sy_ai F 35).getD (sy_i F 11).toNatClampNeg 0 = (sy_ai F 35).getD ((sy_i F 11).toInt).toNat 0 := by simp only [nz_c]
    have n71 : nzI ((sy_ai F 35).getD (sy_i F 11).toNatClampNeg 0) (((sy_ai F 35).getD ((sy_i F 11).toInt).toNat 0).toInt) := congrArg Int32.toInt q71
    have r71 := nz_ba hB (k := 35) (lo := 0) (hi := 4) rfl ((sy_i F 11).toInt).toNat
    have n72 : nzI (((28 : Int32)) + (sy_i F 69)) ((28 + (sy_i F 69).toInt)) := nz_add (by decide : ((28 : Int32)).toInt = 28) (rfl : (sy_i F 69).toInt = (sy_i F 69).toInt) (by omega) (by omega)
    have n76 : nzI (((28 : Int32)) + (sy_i F 69)) ((28 + (sy_i F 69).toInt)) := nz_add (by decide : ((28 : Int32)).toInt = 28) (rfl : (sy_i F 69).toInt = (sy_i F 69).toInt) (by omega) (by omega)
    have q77 : (jm_upd (sy_ai F 55) (((28 : Int32)) + (sy_i F 69)).toNatClampNeg (((sy_ai F 55).getD (((28 : Int32)) + (sy_i F 69)).toNatClampNeg 0) + ((1 : Int32)))).getD (((28 : Int32)) + (sy_i F 69)).toNatClampNeg 0 = (jm_upd (sy_ai F 55) ((28 + (sy_i F 69).toInt)).toNat (((sy_ai F 55).getD ((28 + (sy_i F 69).toInt)).toNat 0) + ((1 : Int32)))).getD ((28 + (sy_i F 69).toInt)).toNat 0 := by simp only [nz_c, (nzE n72), (nzE n76), (by decide : ((1 : Int32)).toInt = 1), (by decide : ((28 : Int32)).toInt = 28)]
    have n77 : nzI ((jm_upd (sy_ai F 55) (((28 : Int32)) + (sy_i F 69)).toNatClampNeg (((sy_ai F 55).getD (((28 : Int32)) + (sy_i F 69)).toNatClampNeg 0) + ((1 : Int32)))).getD (((28 : Int32)) + (sy_i F 69)).toNatClampNeg 0) (((jm_upd (sy_ai F 55) ((28 + (sy_i F 69).toInt)).toNat (((sy_ai F 55).getD ((28 + (sy_i F 69).toInt)).toNat 0) + ((1 : Int32)))).getD ((28 + (sy_i F 69).toInt)).toNat 0).toInt) := congrArg Int32.toInt q77
    have q78 : (sy_ai F 40).getD (sy_i F 11).toNatClampNeg 0 = (sy_ai F 40).getD ((sy_i F 11).toInt).toNat 0 := by simp only [nz_c]
    have n78 : nzI ((sy_ai F 40).getD (sy_i F 11).toNatClampNeg 0) (((sy_ai F 40).getD ((sy_i F 11).toInt).toNat 0).toInt) := congrArg Int32.toInt q78
    have n79 : nzI (((14 : Int32)) + (sy_i F 69)) ((14 + (sy_i F 69).toInt)) := nz_add (by decide : ((14 : Int32)).toInt = 14) (rfl : (sy_i F 69).toInt = (sy_i F 69).toInt) (by omega) (by omega)
    have w80 : jm_upd (jm_upd (sy_ai F 55) (((28 : Int32)) + (sy_i F 69)).toNatClampNeg (((sy_ai F 55).getD (((28 : Int32)) + (sy_i F 69)).toNatClampNeg 0) + ((1 : Int32)))) (((14 : Int32)) + (sy_i F 69)).toNatClampNeg ((3 : Int32)) = jm_upd (jm_upd (sy_ai F 55) ((28 + (sy_i F 69).toInt)).toNat (((sy_ai F 55).getD ((28 + (sy_i F 69).toInt)).toNat 0) + ((1 : Int32)))) ((14 + (sy_i F 69).toInt)).toNat ((3 : Int32)) := by simp only [nz_c, (nzE n72), (nzE n79), (by decide : ((1 : Int32)).toInt = 1), (by decide : ((3 : Int32)).toInt = 3), (by decide : ((14 : Int32)).toInt = 14), (by decide : ((28 : Int32)).toInt = 28)]
    exact yli_2_p1 hd F X1 X2 hB (by first | exact ⟨by omega, by omega⟩ | (simp only [nz_c]; exact ⟨by omega, by omega⟩)) (by first | exact g0 | (simp only [nz_c]; exact g0) | (rw [(nzE n71)]; exact g0)) (by first | (simp only [nz_c, (nzE n72)]; exact ⟨by omega, by omega⟩) | exact ⟨by omega, by omega⟩ | (rw [(nzE n72)]; exact ⟨by omega, by omega⟩)) (by first | (simp only [nz_c, (nzE n72)]; exact ⟨by omega, by omega⟩) | exact ⟨by omega, by omega⟩ | (rw [(nzE n72)]; exact ⟨by omega, by omega⟩)) (by first | (simp only [nz_c, (nzE n76)]; exact ⟨by omega, by omega⟩) | exact ⟨by omega, by omega⟩ | (rw [(nzE n76)]; exact ⟨by omega, by omega⟩)) (by first | exact ⟨by omega, by omega⟩ | (simp only [nz_c]; exact ⟨by omega, by omega⟩)) (by first | (simp only [nz_c, (nzE n72), (nzE n76)]; exact g1) | exact g1 | (rw [(nzE n77)]; exact g1) | (rw [(nzE n78)]; exact g1) | (rw [(nzE n77), (nzE n78)]; exact g1)) (by first | (simp only [nz_c, (nzE n79)]; exact ⟨by omega, by omega⟩) | exact ⟨by omega, by omega⟩ | (rw [(nzE n79)]; exact ⟨by omega, by omega⟩)) (fun F1 g e55 => k1 g0 g1 F1 (nz_in hB [55] (fun j hj hn => g j hj (by simp only [List.mem_cons, List.not_mem_nil, or_false, not_or] at hn; omega)) (List.forall_mem_cons.mpr ⟨fun t ht => (Option.some.inj ht) ▸ (nz_hz2 e55), List.forall_mem_nil _⟩)) (fun j hj hn => g j hj (by simp only [List.mem_cons, List.not_mem_nil, or_false, not_or] at hn; omega)) ((zz_ai e55).trans w80))
  replace g0 : (sy_i F 70).toInt < ((sy_ai F 35).getD ((sy_i F 11).toInt).toNat 0).toInt := by omega
  by_cases g1 : ((sy_ai F 55).getD ((49 + (sy_i F 70).toInt)).toNat 0).toInt ≠ ((sy_ai F 55).getD ((sy_i F 69).toInt).toNat 0).toInt
  · have c11 := nz_bx hB (k := 11) (lo := 0) (hi := 1) rfl
    have q71 : (sy_ai F 35).getD (sy_i F 11).toNatClampNeg 0 = (sy_ai F 35).getD ((sy_i F 11).toInt).toNat 0 := by simp only [nz_c]
    have n71 : nzI ((sy_ai F 35).getD (sy_i F 11).toNatClampNeg 0) (((sy_ai F 35).getD ((sy_i F 11).toInt).toNat 0).toInt) := congrArg Int32.toInt q71
    have r71 := nz_ba hB (k := 35) (lo := 0) (hi := 4) rfl ((sy_i F 11).toInt).toNat
    have n72 : nzI (((49 : Int32)) + (sy_i F 70)) ((49 + (sy_i F 70).toInt)) := nz_add (by decide : ((49 : Int32)).toInt = 49) (rfl : (sy_i F 70).toInt = (sy_i F 70).toInt) (by omega) (by omega)
    have q73 : (sy_ai F 55).getD (((49 : Int32)) + (sy_i F 70)).toNatClampNeg 0 = (sy_ai F 55).getD ((49 + (sy_i F 70).toInt)).toNat 0 := by simp only [nz_c, (nzE n72), (by decide : ((49 : Int32)).toInt = 49)]
    have n73 : nzI ((sy_ai F 55).getD (((49 : Int32)) + (sy_i F 70)).toNatClampNeg 0) (((sy_ai F 55).getD ((49 + (sy_i F 70).toInt)).toNat 0).toInt) := congrArg Int32.toInt q73
    have q74 : (sy_ai F 55).getD (sy_i F 69).toNatClampNeg 0 = (sy_ai F 55).getD ((sy_i F 69).toInt).toNat 0 := by simp only [nz_c]
    have n74 : nzI ((sy_ai F 55).getD (sy_i F 69).toNatClampNeg 0) (((sy_ai F 55).getD ((sy_i F 69).toInt).toNat 0).toInt) := congrArg Int32.toInt q74
    have n75 : nzI ((sy_i F 70) + ((1 : Int32))) (((sy_i F 70).toInt + 1)) := nz_add (rfl : (sy_i F 70).toInt = (sy_i F 70).toInt) (by decide : ((1 : Int32)).toInt = 1) (by omega) (by omega)
    exact yli_2_p2 hd F X1 X2 hB (by first | exact ⟨by omega, by omega⟩ | (simp only [nz_c]; exact ⟨by omega, by omega⟩)) (by first | exact g0 | (simp only [nz_c]; exact g0) | (rw [(nzE n71)]; exact g0)) (by first | (simp only [nz_c, (nzE n72)]; exact ⟨by omega, by omega⟩) | exact ⟨by omega, by omega⟩ | (rw [(nzE n72)]; exact ⟨by omega, by omega⟩)) (by first | exact ⟨by omega, by omega⟩ | (simp only [nz_c]; exact ⟨by omega, by omega⟩)) (by first | (simp only [nz_c, (nzE n72)]; exact g1) | exact g1 | (rw [(nzE n73)]; exact g1) | (rw [(nzE n74)]; exact g1) | (rw [(nzE n73), (nzE n74)]; exact g1)) (fun F1 g e69 e70 => k2 g0 g1 F1 (nz_in hB [] (fun j hj hn => g j hj (by simp only [List.mem_cons, List.not_mem_nil, or_false, not_or] at hn; exact trivial)) (List.forall_mem_nil _)) (fun j hj hn => g j hj (by simp only [List.mem_cons, List.not_mem_nil, or_false, not_or] at hn; exact trivial)) ((congrArg Int32.toInt (zz_i e69)).trans (rfl : (sy_i F 69).toInt = (sy_i F 69).toInt)) ((zz_i e69).trans (rfl : sy_i F 69 = sy_i F 69)) ((congrArg Int32.toInt (zz_i e70)).trans (nzE n75)) ((zz_i e70).trans (rfl : (sy_i F 70) + ((1 : Int32)) = (sy_i F 70) + ((1 : Int32)))))
  replace g1 : ((sy_ai F 55).getD ((49 + (sy_i F 70).toInt)).toNat 0).toInt = ((sy_ai F 55).getD ((sy_i F 69).toInt).toNat 0).toInt := by omega
  by_cases g2 : ((sy_ai F 58).getD ((sy_i F 69).toInt).toNat 0).toInt ≤ ((sy_ai F 55).getD ((53 + (sy_i F 70).toInt)).toNat 0).toInt
  · have c11 := nz_bx hB (k := 11) (lo := 0) (hi := 1) rfl
    have q71 : (sy_ai F 35).getD (sy_i F 11).toNatClampNeg 0 = (sy_ai F 35).getD ((sy_i F 11).toInt).toNat 0 := by simp only [nz_c]
    have n71 : nzI ((sy_ai F 35).getD (sy_i F 11).toNatClampNeg 0) (((sy_ai F 35).getD ((sy_i F 11).toInt).toNat 0).toInt) := congrArg Int32.toInt q71
    have r71 := nz_ba hB (k := 35) (lo := 0) (hi := 4) rfl ((sy_i F 11).toInt).toNat
    have n72 : nzI (((49 : Int32)) + (sy_i F 70)) ((49 + (sy_i F 70).toInt)) := nz_add (by decide : ((49 : Int32)).toInt = 49) (rfl : (sy_i F 70).toInt = (sy_i F 70).toInt) (by omega) (by omega)
    have q73 : (sy_ai F 55).getD (((49 : Int32)) + (sy_i F 70)).toNatClampNeg 0 = (sy_ai F 55).getD ((49 + (sy_i F 70).toInt)).toNat 0 := by simp only [nz_c, (nzE n72), (by decide : ((49 : Int32)).toInt = 49)]
    have n73 : nzI ((sy_ai F 55).getD (((49 : Int32)) + (sy_i F 70)).toNatClampNeg 0) (((sy_ai F 55).getD ((49 + (sy_i F 70).toInt)).toNat 0).toInt) := congrArg Int32.toInt q73
    have q74 : (sy_ai F 55).getD (sy_i F 69).toNatClampNeg 0 = (sy_ai F 55).getD ((sy_i F 69).toInt).toNat 0 := by simp only [nz_c]
    have n74 : nzI ((sy_ai F 55).getD (sy_i F 69).toNatClampNeg 0) (((sy_ai F 55).getD ((sy_i F 69).toInt).toNat 0).toInt) := congrArg Int32.toInt q74
    have n75 : nzI (((53 : Int32)) + (sy_i F 70)) ((53 + (sy_i F 70).toInt)) := nz_add (by decide : ((53 : Int32)).toInt = 53) (rfl : (sy_i F 70).toInt = (sy_i F 70).toInt) (by omega) (by omega)
    have q77 : (sy_ai F 58).getD (sy_i F 69).toNatClampNeg 0 = (sy_ai F 58).getD ((sy_i F 69).toInt).toNat 0 := by simp only [nz_c]
    have n77 : nzI ((sy_ai F 58).getD (sy_i F 69).toNatClampNeg 0) (((sy_ai F 58).getD ((sy_i F 69).toInt).toNat 0).toInt) := congrArg Int32.toInt q77
    have q76 : (sy_ai F 55).getD (((53 : Int32)) + (sy_i F 70)).toNatClampNeg 0 = (sy_ai F 55).getD ((53 + (sy_i F 70).toInt)).toNat 0 := by simp only [nz_c, (nzE n75), (by decide : ((53 : Int32)).toInt = 53)]
    have n76 : nzI ((sy_ai F 55).getD (((53 : Int32)) + (sy_i F 70)).toNatClampNeg 0) (((sy_ai F 55).getD ((53 + (sy_i F 70).toInt)).toNat 0).toInt) := congrArg Int32.toInt q76
    have n79 : nzI (((14 : Int32)) + (sy_i F 69)) ((14 + (sy_i F 69).toInt)) := nz_add (by decide : ((14 : Int32)).toInt = 14) (rfl : (sy_i F 69).toInt = (sy_i F 69).toInt) (by omega) (by omega)
    have n81 : nzI (((21 : Int32)) + (sy_i F 69)) ((21 + (sy_i F 69).toInt)) := nz_add (by decide : ((21 : Int32)).toInt = 21) (rfl : (sy_i F 69).toInt = (sy_i F 69).toInt) (by omega) (by omega)
    have n83 : nzI (((53 : Int32)) + (sy_i F 70)) ((53 + (sy_i F 70).toInt)) := nz_add (by decide : ((53 : Int32)).toInt = 53) (rfl : (sy_i F 70).toInt = (sy_i F 70).toInt) (by omega) (by omega)
    have w86 : jm_upd (jm_upd (jm_upd (sy_ai F 55) (((14 : Int32)) + (sy_i F 69)).toNatClampNeg ((2 : Int32))) (((21 : Int32)) + (sy_i F 69)).toNatClampNeg (sy_i F 70)) (((53 : Int32)) + (sy_i F 70)).toNatClampNeg (((jm_upd (jm_upd (sy_ai F 55) (((14 : Int32)) + (sy_i F 69)).toNatClampNeg ((2 : Int32))) (((21 : Int32)) + (sy_i F 69)).toNatClampNeg (sy_i F 70)).getD (((53 : Int32)) + (sy_i F 70)).toNatClampNeg 0) - ((sy_ai F 58).getD (sy_i F 69).toNatClampNeg 0)) = jm_upd (jm_upd (jm_upd (sy_ai F 55) ((14 + (sy_i F 69).toInt)).toNat ((2 : Int32))) ((21 + (sy_i F 69).toInt)).toNat (sy_i F 70)) ((53 + (sy_i F 70).toInt)).toNat (((jm_upd (jm_upd (sy_ai F 55) ((14 + (sy_i F 69).toInt)).toNat ((2 : Int32))) ((21 + (sy_i F 69).toInt)).toNat (sy_i F 70)).getD ((53 + (sy_i F 70).toInt)).toNat 0) - ((sy_ai F 58).getD ((sy_i F 69).toInt).toNat 0)) := by simp only [nz_c, (nzE n79), (nzE n81), (nzE n83), (by decide : ((2 : Int32)).toInt = 2), (by decide : ((14 : Int32)).toInt = 14), (by decide : ((21 : Int32)).toInt = 21), (by decide : ((53 : Int32)).toInt = 53)]
    exact yli_2_p3 hd F X1 X2 hB (by first | exact ⟨by omega, by omega⟩ | (simp only [nz_c]; exact ⟨by omega, by omega⟩)) (by first | exact g0 | (simp only [nz_c]; exact g0) | (rw [(nzE n71)]; exact g0)) (by first | (simp only [nz_c, (nzE n72)]; exact ⟨by omega, by omega⟩) | exact ⟨by omega, by omega⟩ | (rw [(nzE n72)]; exact ⟨by omega, by omega⟩)) (by first | exact ⟨by omega, by omega⟩ | (simp only [nz_c]; exact ⟨by omega, by omega⟩)) (by first | (simp only [nz_c, (nzE n72)]; exact g1) | exact g1 | (rw [(nzE n73)]; exact g1) | (rw [(nzE n74)]; exact g1) | (rw [(nzE n73), (nzE n74)]; exact g1)) (by first | (simp only [nz_c, (nzE n75)]; exact ⟨by omega, by omega⟩) | exact ⟨by omega, by omega⟩ | (rw [(nzE n75)]; exact ⟨by omega, by omega⟩)) (by first | exact ⟨by omega, by omega⟩ | (simp only [nz_c]; exact ⟨by omega, by omega⟩)) (by first | (simp only [nz_c, (nzE n75)]; exact g2) | exact g2 | (rw [(nzE n77)]; exact g2) | (rw [(nzE n76)]; exact g2) | (rw [(nzE n77), (nzE n76)]; exact g2)) (by first | exact ⟨by omega, by omega⟩ | (simp only [nz_c]; exact ⟨by omega, by omega⟩)) (by first | (simp only [nz_c, (nzE n79)]; exact ⟨by omega, by omega⟩) | exact ⟨by omega, by omega⟩ | (rw [(nzE n79)]; exact ⟨by omega, by omega⟩)) (by first | (simp only [nz_c, (nzE n81)]; exact ⟨by omega, by omega⟩) | exact ⟨by omega, by omega⟩ | (rw [(nzE n81)]; exact ⟨by omega, by omega⟩)) (by first | (simp only [nz_c, (nzE n83)]; exact ⟨by omega, by omega⟩) | exact ⟨by omega, by omega⟩ | (rw [(nzE n83)]; exact ⟨by omega, by omega⟩)) (by first | (simp only [nz_c, (nzE n83)]; exact ⟨by omega, by omega⟩) | exact ⟨by omega, by omega⟩ | (rw [(nzE n83)]; exact ⟨by omega, by omega⟩)) (fun F1 g e19 e55 => k3 g0 g1 g2 F1 (nz_in hB [19, 55] (fun j hj hn => g j hj (by simp only [List.mem_cons, List.not_mem_nil, or_false, not_or] at hn; omega)) (List.forall_mem_cons.mpr ⟨fun t ht => (Option.some.inj ht) ▸ (nz_hi e19 (by decide : ((1 : Int32)).toInt = 1) (by omega) (by omega)), List.forall_mem_cons.mpr ⟨fun t ht => (Option.some.inj ht) ▸ (nz_hz2 e55), List.forall_mem_nil _⟩⟩)) (fun j hj hn => g j hj (by simp only [List.mem_cons, List.not_mem_nil, or_false, not_or] at hn; omega)) ((congrArg Int32.toInt (zz_i e19)).trans (by decide : ((1 : Int32)).toInt = 1)) ((zz_i e19).trans (rfl : (1 : Int32) = (1 : Int32))) ((zz_ai e55).trans w86))
  replace g2 : ((sy_ai F 55).getD ((53 + (sy_i F 70).toInt)).toNat 0).toInt < ((sy_ai F 58).getD ((sy_i F 69).toInt).toNat 0).toInt := by omega
  have c11 := nz_bx hB (k := 11) (lo := 0) (hi := 1) rfl
  have q71 : (sy_ai F 35).getD (sy_i F 11).toNatClampNeg 0 = (sy_ai F 35).getD ((sy_i F 11).toInt).toNat 0 := by simp only [nz_c]
  have n71 : nzI ((sy_ai F 35).getD (sy_i F 11).toNatClampNeg 0) (((sy_ai F 35).getD ((sy_i F 11).toInt).toNat 0).toInt) := congrArg Int32.toInt q71
  have r71 := nz_ba hB (k := 35) (lo := 0) (hi := 4) rfl ((sy_i F 11).toInt).toNat
  have n72 : nzI (((49 : Int32)) + (sy_i F 70)) ((49 + (sy_i F 70).toInt)) := nz_add (by decide : ((49 : Int32)).toInt = 49) (rfl : (sy_i F 70).toInt = (sy_i F 70).toInt) (by omega) (by omega)
  have q73 : (sy_ai F 55).getD (((49 : Int32)) + (sy_i F 70)).toNatClampNeg 0 = (sy_ai F 55).getD ((49 + (sy_i F 70).toInt)).toNat 0 := by simp only [nz_c, (nzE n72), (by decide : ((49 : Int32)).toInt = 49)]
  have n73 : nzI ((sy_ai F 55).getD (((49 : Int32)) + (sy_i F 70)).toNatClampNeg 0) (((sy_ai F 55).getD ((49 + (sy_i F 70).toInt)).toNat 0).toInt) := congrArg Int32.toInt q73
  have q74 : (sy_ai F 55).getD (sy_i F 69).toNatClampNeg 0 = (sy_ai F 55).getD ((sy_i F 69).toInt).toNat 0 := by simp only [nz_c]
  have n74 : nzI ((sy_ai F 55).getD (sy_i F 69).toNatClampNeg 0) (((sy_ai F 55).getD ((sy_i F 69).toInt).toNat 0).toInt) := congrArg Int32.toInt q74
  have n75 : nzI (((53 : Int32)) + (sy_i F 70)) ((53 + (sy_i F 70).toInt)) := nz_add (by decide : ((53 : Int32)).toInt = 53) (rfl : (sy_i F 70).toInt = (sy_i F 70).toInt) (by omega) (by omega)
  have q77 : (sy_ai F 58).getD (sy_i F 69).toNatClampNeg 0 = (sy_ai F 58).getD ((sy_i F 69).toInt).toNat 0 := by simp only [nz_c]
  have n77 : nzI ((sy_ai F 58).getD (sy_i F 69).toNatClampNeg 0) (((sy_ai F 58).getD ((sy_i F 69).toInt).toNat 0).toInt) := congrArg Int32.toInt q77
  have q76 : (sy_ai F 55).getD (((53 : Int32)) + (sy_i F 70)).toNatClampNeg 0 = (sy_ai F 55).getD ((53 + (sy_i F 70).toInt)).toNat 0 := by simp only [nz_c, (nzE n75), (by decide : ((53 : Int32)).toInt = 53)]
  have n76 : nzI ((sy_ai F 55).getD (((53 : Int32)) + (sy_i F 70)).toNatClampNeg 0) (((sy_ai F 55).getD ((53 + (sy_i F 70).toInt)).toNat 0).toInt) := congrArg Int32.toInt q76
  have n78 : nzI ((sy_i F 70) + ((1 : Int32))) (((sy_i F 70).toInt + 1)) := nz_add (rfl : (sy_i F 70).toInt = (sy_i F 70).toInt) (by decide : ((1 : Int32)).toInt = 1) (by omega) (by omega)
  exact yli_2_p4 hd F X1 X2 hB (by first | exact ⟨by omega, by omega⟩ | (simp only [nz_c]; exact ⟨by omega, by omega⟩)) (by first | exact g0 | (simp only [nz_c]; exact g0) | (rw [(nzE n71)]; exact g0)) (by first | (simp only [nz_c, (nzE n72)]; exact ⟨by omega, by omega⟩) | exact ⟨by omega, by omega⟩ | (rw [(nzE n72)]; exact ⟨by omega, by omega⟩)) (by first | exact ⟨by omega, by omega⟩ | (simp only [nz_c]; exact ⟨by omega, by omega⟩)) (by first | (simp only [nz_c, (nzE n72)]; exact g1) | exact g1 | (rw [(nzE n73)]; exact g1) | (rw [(nzE n74)]; exact g1) | (rw [(nzE n73), (nzE n74)]; exact g1)) (by first | (simp only [nz_c, (nzE n75)]; exact ⟨by omega, by omega⟩) | exact ⟨by omega, by omega⟩ | (rw [(nzE n75)]; exact ⟨by omega, by omega⟩)) (by first | exact ⟨by omega, by omega⟩ | (simp only [nz_c]; exact ⟨by omega, by omega⟩)) (by first | (simp only [nz_c, (nzE n75)]; exact g2) | exact g2 | (rw [(nzE n77)]; exact g2) | (rw [(nzE n76)]; exact g2) | (rw [(nzE n77), (nzE n76)]; exact g2)) (fun F1 g e69 e70 => k4 g0 g1 g2 F1 (nz_in hB [] (fun j hj hn => g j hj (by simp only [List.mem_cons, List.not_mem_nil, or_false, not_or] at hn; exact trivial)) (List.forall_mem_nil _)) (fun j hj hn => g j hj (by simp only [List.mem_cons, List.not_mem_nil, or_false, not_or] at hn; exact trivial)) ((congrArg Int32.toInt (zz_i e69)).trans (rfl : (sy_i F 69).toInt = (sy_i F 69).toInt)) ((zz_i e69).trans (rfl : sy_i F 69 = sy_i F 69)) ((congrArg Int32.toInt (zz_i e70)).trans (nzE n78)) ((zz_i e70).trans (rfl : (sy_i F 70) + ((1 : Int32)) = (sy_i F 70) + ((1 : Int32)))))
end
section
/-! ===== the reference: rows, what hangs, who catches ===== -/
section KR
variable {Ls : Nat} {xs : Nat → Int32} (F : Nat → sy_d) (X1 X2 : List jm_c)
theorem kr_L : ∀ (m : Nat) (F1 : Nat → sy_d), qR [54] F F1 → 0 ≤ (sy_i F1 69).toInt → (sy_i F1 69).toInt + m = 61 → (∀ j : Nat, (j : Int) < (sy_i F1 69).toInt → (sy_ai F1 54).getD j 0 = (sy_ai F 55).getD j 0) →
    hd_W Ls xs 1 jm_M172 (pV 4 X1 X2 (fun F' => qR [54] F F' ∧ ∀ j, j < 61 → (sy_ai F' 54).getD j 0 = (sy_ai F 55).getD j 0)) (2, sy_dL F1 [some (.inl (.ref 1000)), some (.inr (.inl 69))], sy_dS F1 [], sy_dh F1 X1 X2 (iv_H 4), 0, 0) := by
  intro m
  induction m with
  | zero =>
    intro F1 hq h0 hm hj
    refine ykr_2 (by decide) F1 X1 X2 hq.1 (by omega) ?_ ?_
    · intro c0 F2 hb g
      refine ⟨F2, rfl, rfl, qq_on hq hb g (by decide), fun j h => ?_⟩
      rw [nz_fa (g 54 (by decide) (by decide))]
      exact hj j (by omega)
    · intros
      omega
  | succ m ih =>
    intro F1 hq h0 hm hj
    refine ykr_2 (by decide) F1 X1 X2 hq.1 (by omega) ?_ ?_
    · intros
      omega
    · intro c0 F2 hb g a54 e69 i69
      refine ih F2 (qq_on hq hb g (by decide)) (by omega) (by omega) (fun j h => ?_)
      rw [a54, jm_upd_at, qq_a hq (j := 55) (by decide) (by decide)]
      by_cases q : j = (sy_i F1 69).toInt.toNat
      · rw [if_pos q, q]
      · rw [if_neg q]
        exact hj j (by omega)
theorem kr_V (hB : iv_in F iv_B4) : jm_T Ls xs 1 jm_M172 [.ref 1000] (sy_dh F X1 X2 (iv_H 4)) 0 0 (pV 4 X1 X2 (fun F' => qR [54] F F' ∧ ∀ j, j < 61 → (sy_ai F' 54).getD j 0 = (sy_ai F 55).getD j 0)) := by
  refine R_T [] [.inl (.ref 1000)] jm_ok172 (by decide) rfl (fun F0 k0 ki => ?_)
  refine ykr_0 (by decide) F0 X1 X2 (hd_iveq hB k0) ?_
  intro F1 hb g e69 i69
  exact kr_L F X1 X2 61 F1 (qq_src (qq_mk hb g (by decide)) k0) (by omega) (by omega) (fun j h => by omega)
theorem cp_L (hX : 0 ≤ (sy_i F 11).toInt ∧ (sy_i F 11).toInt ≤ 1) : ∀ (m : Nat) (F1 : Nat → sy_d), qR [55] F F1 → 0 ≤ (sy_i F1 69).toInt → (sy_i F1 69).toInt + m = 61 → (∀ j : Nat, (j : Int) < (sy_i F1 69).toInt → (sy_ai F1 55).getD j 0 = (sy_ai F 54).getD j 0) →
    hd_W Ls xs 1 jm_M173 (pV 4 X1 X2 (fun F' => qR [18, 55] F F' ∧ (∀ j, j < 61 → (sy_ai F' 55).getD j 0 = (sy_ai F 54).getD j 0) ∧ sy_i F' 18 = (sy_ai F 41).getD (sy_i F 11).toInt.toNat 0)) (2, sy_dL F1 [some (.inl (.ref 1000)), some (.inr (.inl 69))], sy_dS F1 [], sy_dh F1 X1 X2 (iv_H 4), 0, 0) := by
  intro m
  induction m with
  | zero =>
    intro F1 hq h0 hm hj
    refine ycp_2 (by decide) F1 X1 X2 hq.1 (by omega) ?_ ?_
    · intro c0 F2 hb g e18 i18
      refine ⟨F2, rfl, rfl, qq_on (qq_up hq (by decide)) hb g (by decide), fun j h => ?_, ?_⟩
      · rw [nz_fa (g 55 (by decide) (by decide))]
        exact hj j (by omega)
      · rw [i18, qq_a hq (j := 41) (by decide) (by decide), qq_i hq (j := 11) (by decide) (by decide)]
    · intros
      omega
  | succ m ih =>
    intro F1 hq h0 hm hj
    refine ycp_2 (by decide) F1 X1 X2 hq.1 (by omega) ?_ ?_
    · intros
      omega
    · intro c0 F2 hb g a55 e69 i69
      refine ih F2 (qq_on hq hb g (by decide)) (by omega) (by omega) (fun j h => ?_)
      rw [a55, jm_upd_at, qq_a hq (j := 54) (by decide) (by decide)]
      by_cases q : j = (sy_i F1 69).toInt.toNat
      · rw [if_pos q, q]
      · rw [if_neg q]
        exact hj j (by omega)
theorem cp_V {T : tX} (hC : cR T F) : jm_T Ls xs 1 jm_M173 [.ref 1000] (sy_dh F X1 X2 (iv_H 4)) 0 0 (pV 4 X1 X2 (fun F' => qR [18, 55] F F' ∧ (∀ j, j < 61 → (sy_ai F' 55).getD j 0 = (sy_ai F 54).getD j 0) ∧ sy_i F' 18 = Int32.ofInt T.2.2.2.2.1)) := by
  refine R_T [] [.inl (.ref 1000)] jm_ok173 (by decide) rfl (fun F0 k0 ki => ?_)
  refine ycp_0 (by decide) F0 X1 X2 (hd_iveq hC.1 k0) ?_
  intro F1 hb g e69 i69
  have hs : (sy_ai F 41).getD (sy_i F 11).toInt.toNat 0 = Int32.ofInt T.2.2.2.2.1 := (ofi (rX_n hC.2.1).2.2.2.2).symm
  rw [← hs]
  exact cp_L F X1 X2 (nz_bx hC.1 (k := 11) (lo := 0) (hi := 1) rfl) 61 F1 (qq_src (qq_mk hb g (by decide)) k0) (by omega) (by omega) (fun j h => by omega)
/-- the row holds g -/
def gRow (T : tX) (F : Nat → sy_d) (g : gS) : Prop := gL (nfS T) (nbS T) (sy_ai F 55) g
theorem gRow_e {T : tX} {F F1 : Nat → sy_d} {g : gS} (h : gRow T F g) (e : sy_ai F1 55 = sy_ai F 55) : gRow T F1 g := by
  unfold gRow
  rw [e]
  exact h
theorem bi_L {T : tX} {g : gS} (hC : cR T F) (hG : gRow T F g) (w : Int32) : ∀ (m : Nat) (F1 : Nat → sy_d) (n : Nat), n + m = nfS T → qR [] F F1 → sy_i F1 69 = w → (sy_i F1 71).toInt = n → sy_i F1 70 = mkS g w.toInt n →
    hd_W Ls xs 1 jm_M176 (pI 4 X1 X2 (fun x F' => qR [] F F' ∧ x = mkS g w.toInt (nfS T))) (4, sy_dL F1 [some (.inl (.ref 1000)), some (.inr (.inl 69)), some (.inr (.inl 70)), some (.inr (.inl 71))], sy_dS F1 [], sy_dh F1 X1 X2 (iv_H 4), 0, 0) := by
  have l7 : nfS T ≤ 7 := hC.2.2.1.1
  have en : ((sy_ai F 31).getD (sy_i F 11).toInt.toNat 0).toInt = (nfS T : Int) := (rX_n hC.2.1).1
  intro m
  induction m with
  | zero =>
    intro F1 n hm hq i69 e71 i70
    have e31 : ((sy_ai F1 31).getD (sy_i F1 11).toInt.toNat 0).toInt = (nfS T : Int) := by rw [qq_a hq (by decide) (by decide), qq_i hq (j := 11) (by decide) (by decide)]; exact en
    refine ybi_4 (by decide) F1 X1 X2 hq.1 (by omega) ?_ ?_ ?_
    · intro c0 F2 hb g
      refine ⟨_, F2, rfl, rfl, qq_on hq hb g (by decide), ?_⟩
      rw [i70, show n = nfS T by omega]
    · intros
      omega
    · intros
      omega
  | succ m ih =>
    intro F1 n hm hq i69 e71 i70
    have e31 : ((sy_ai F1 31).getD (sy_i F1 11).toInt.toNat 0).toInt = (nfS T : Int) := by rw [qq_a hq (by decide) (by decide), qq_i hq (j := 11) (by decide) (by decide)]; exact en
    have eh : (sy_ai F1 55).getD (14 + (sy_i F1 71).toInt).toNat 0 = g 2 n := by
      rw [qq_a hq (by decide) (by decide), show (14 + (sy_i F1 71).toInt).toNat = ra 2 + n by show _ = 14 + n; omega]
      exact hG 2 n (vF (by decide) (by omega))
    refine ybi_4 (by decide) F1 X1 X2 hq.1 (by omega) ?_ ?_ ?_
    · intros
      omega
    · intro c0 c1 F2 hb gg e69' i69' e70' i70' e71' i71'
      rw [eh, i69] at c1
      refine ih F2 (n + 1) (by omega) (qq_on hq hb gg (by decide)) (i69'.trans i69) (by omega) ?_
      rw [i70', i70]
      exact (if_neg c1).symm
    · intro c0 c1 F2 hb gg e69' i69' e70' i70' e71' i71'
      rw [eh, i69] at c1
      refine ih F2 (n + 1) (by omega) (qq_on hq hb gg (by decide)) (i69'.trans i69) (by omega) ?_
      rw [i70', i70, ← ofi e71]
      exact (if_pos c1).symm
theorem bi_V {T : tX} {g : gS} (hC : cR T F) (hG : gRow T F g) (w : Int32) : jm_T Ls xs 1 jm_M176 [.ref 1000, .int w] (sy_dh F X1 X2 (iv_H 4)) 0 0 (pI 4 X1 X2 (fun x F' => qR [] F F' ∧ x = mkS g w.toInt (nfS T))) := by
  refine R_T [w] [.inl (.ref 1000), .inr (.inl 69)] jm_ok176 (by decide) rfl (fun F0 k0 ki => ?_)
  have i69 : sy_i F0 69 = w := ki 0
  refine ybi_0 (by decide) F0 X1 X2 (hd_iveq hC.1 k0) ?_
  intro F1 hb g e69 j69 e70 j70 e71 j71
  exact bi_L F X1 X2 hC hG w (nfS T) F1 0 (by omega) (qq_src (qq_mk hb g (by decide)) k0) (j69.trans i69) e71 j70
theorem ln_V {T : tX} {g : gS} (hC : cR T F) (hG : gRow T F g) : jm_T Ls xs 2 jm_M196 [.ref 1000] (sy_dh F X1 X2 (iv_H 4)) 0 0 (pI 4 X1 X2 (fun x F' => qR [] F F' ∧ x = lfS T g)) := by
  refine R_T [] [.inl (.ref 1000)] jm_ok196 (by decide) rfl (fun F0 k0 ki => ?_)
  refine yln_0 (by decide) F0 X1 X2 (hd_iveq hC.1 k0) ?_
  intro F1 hb g
  have q1 : qR [] F F1 := qq_src (qq_mk hb g (by decide)) k0
  refine hd_calI (R := fun x F' => qR [] F1 F' ∧ x = mkS _ (0 : Int32).toInt (nfS T)) (nh := 69) (nv := 69) (s := 4) (s1 := 4) (d1 := 1) (M1 := jm_M176) (As := [.inl (.ref 1000), .inl (.int 0)]) (rest := []) jm_ok196 rfl rfl (by decide) (by decide +kernel) (bi_V F1 X1 X2 (cR_q hC q1 (by decide)) (gRow_e hG (qq_a q1 (by decide) (by decide))) 0) (fun F3 F' x hR p1 p2 p3 => ?_)
  obtain ⟨r1, r2⟩ := hR
  have q3 := qq_trans q1 (qR_dst r1 p1)
  refine yln_5 (by decide) F3 X1 X2 q3.1 ?_
  intro F4 hb4 g4
  refine ⟨_, F4, rfl, rfl, qq_on q3 hb4 g4 (by decide), ?_⟩
  have i69 : sy_i F3 69 = x := zz_i p3
  rw [i69, r2]
  rfl
theorem bn_V {T : tX} {g : gS} (hC : cR T F) (hG : gRow T F g) : jm_T Ls xs 6 jm_M198 [.ref 1000] (sy_dh F X1 X2 (iv_H 4)) 0 0 (pI 4 X1 X2 (fun x F' => qR [17, 52, 53] F F' ∧ x.toInt = wiS T g)) := by
  refine R_T [] [.inl (.ref 1000)] jm_ok198 (by decide) rfl (fun F0 k0 ki => ?_)
  refine ybn_0 (by decide) F0 X1 X2 (hd_iveq hC.1 k0) ?_
  intro F1 hb gg e69 i69
  have q1 : qR [] F F1 := qq_src (qq_mk hb gg (by decide)) k0
  have c1 := cR_q hC q1 (by decide)
  have g1 := gRow_e hG (qq_a q1 (by decide) (by decide))
  have h69 : sy_i F1 69 = g 9 0 := by
    rw [i69, nz_fa (k0 55 (by decide))]
    exact hG 9 0 (vH (by decide))
  refine hd_calI (R := fun x F' => qR [] F1 F' ∧ x = lfS T g) (nh := 69) (nv := 70) (s := 4) (s1 := 4) (d1 := 2) (M1 := jm_M196) (As := [.inl (.ref 1000)]) (rest := [.inr (.inl 69), .inl (.ref 1000)]) jm_ok198 rfl rfl (by decide) (by decide +kernel) (ln_V F1 X1 X2 c1 g1) (fun F3 F' x hR p1 p2 p3 => ?_)
  obtain ⟨r1, r2⟩ := hR
  have q3 := qq_trans q1 (qR_dst r1 p1)
  have j69 : sy_i F3 69 = g 9 0 := (eI (p2 69 (by decide) (by decide))).trans h69
  have j70 : sy_i F3 70 = lfS T g := (zz_i p3).trans r2
  refine hd_calI (R := fun x F' => qR [17, 52, 53] F3 F' ∧ x.toInt = windT T (sy_i F3 69) (sy_i F3 70)) (nh := 69) (nv := 69) (s := 4) (s1 := 4) (d1 := 5) (M1 := jm_M181) (As := [.inl (.ref 1000), .inr (.inl 69), .inr (.inl 70)]) (rest := []) jm_ok198 rfl rfl (by decide) (by decide +kernel) (wb_V F3 X1 X2 (cR_q hC q3 (by decide)) _ _) (fun F5 F6 y hR2 p1' p2' p3' => ?_)
  obtain ⟨s1, s2⟩ := hR2
  have q5 : qR [17, 52, 53] F F5 := qq_trans (qq_up q3 (by decide)) (qR_dst s1 p1')
  refine ybn_15 (by decide) F5 X1 X2 q5.1 ?_
  intro F7 hb7 g7
  refine ⟨_, F7, rfl, rfl, qq_on q5 hb7 g7 (by decide), ?_⟩
  have i69 : sy_i F5 69 = y := zz_i p3'
  rw [i69, s2, j69, j70]
  rfl
/-! who catches -/
theorem ca_L {T : tX} {g : gS} (hC : cR T F) (hG : gRow T F g) (hO : okS T g) {x c : Int} (hx : 0 ≤ x ∧ x ≤ 9) : ∀ (m : Nat) (F1 : Nat → sy_d) (n : Nat), n + m = nbS T → qR [] F F1 → (sy_i F1 69).toInt = c → (sy_i F1 70).toInt = x → (sy_i F1 72).toInt = n → (sy_i F1 71).toInt = (nrS T g x c n).1 →
    hd_W Ls xs 2 jm_M187 (pI 4 X1 X2 (fun y F' => qR [] F F' ∧ y.toInt = (nrS T g x c (nbS T)).1)) (22, sy_dL F1 [some (.inl (.ref 1000)), none, some (.inr (.inl 69)), some (.inr (.inl 70)), some (.inr (.inl 71)), some (.inr (.inl 72)), none], sy_dS F1 [], sy_dh F1 X1 X2 (iv_H 4), 0, 0) := by
  have l4 : nbS T ≤ 4 := hC.2.2.1.2.1
  have en : ((sy_ai F 35).getD (sy_i F 11).toInt.toNat 0).toInt = (nbS T : Int) := (rX_n hC.2.1).2.1
  have c11 := nz_bx hC.1 (k := 11) (lo := 0) (hi := 1) rfl
  intro m
  induction m with
  | zero =>
    intro F1 n hm hq e69 e70 e72 e71
    have e35 : ((sy_ai F1 35).getD (sy_i F1 11).toInt.toNat 0).toInt = (nbS T : Int) := by rw [qq_a hq (by decide) (by decide), qq_i hq (j := 11) (by decide) (by decide)]; exact en
    have hnr := nr_in T g x c n
    have hn1 : (nrS T g x c n).1 = -2 ∨ (0 ≤ (nrS T g x c n).1 ∧ (nrS T g x c n).1 < n) := by
      rcases hnr with h | h
      · left
        rw [h]
      · exact Or.inr ⟨h.1, h.2.1⟩
    refine yca_22 (by decide) F1 X1 X2 hq.1 (by omega) (by omega) ?_ ?_ ?_ ?_ ?_ ?_ ?_ ?_ ?_ ?_ ?_ ?_ ?_ ?_ ?_
    · intro c0 F2 hb gg
      refine ⟨_, F2, rfl, rfl, qq_on hq hb gg (by decide), ?_⟩
      rw [e71, show n = nbS T by omega]
    iterate 14
      intros
      omega
  | succ m ih =>
    intro F1 n hm hq e69 e70 e72 e71
    have e11 : (sy_i F1 11).toInt = (sy_i F 11).toInt := congrArg Int32.toInt (qq_i hq (by decide) (by decide))
    have e35 : ((sy_ai F1 35).getD (sy_i F1 11).toInt.toNat 0).toInt = (nbS T : Int) := by rw [qq_a hq (by decide) (by decide), e11]; exact en
    have row : ∀ a i : Nat, vlS (nfS T) (nbS T) a i → (sy_ai F1 55).getD (ra a + i) 0 = g a i := fun a i h => by
      rw [qq_a hq (by decide) (by decide)]
      exact hG a i h
    have r49 : (sy_ai F1 55).getD (49 + (sy_i F1 72).toInt).toNat 0 = g 7 n := by
      rw [show (49 + (sy_i F1 72).toInt).toNat = ra 7 + n by show _ = 49 + n; omega]
      exact row 7 n (vB (Or.inl rfl) (by omega))
    have r53 : (sy_ai F1 55).getD (53 + (sy_i F1 72).toInt).toNat 0 = g 8 n := by
      rw [show (53 + (sy_i F1 72).toInt).toNat = ra 8 + n by show _ = 53 + n; omega]
      exact row 8 n (vB (Or.inr rfl) (by omega))
    have rea : ((sy_ai F1 37).getD (4 * (sy_i F1 11).toInt + (sy_i F1 72).toInt).toNat 0).toInt = (tB T n).2.1 := by
      rw [qq_a hq (by decide) (by decide), e11, show (4 * (sy_i F 11).toInt + (sy_i F1 72).toInt).toNat = 4 * (sy_i F 11).toInt.toNat + n by omega]
      exact (rX_b hC.2.1 (show n < T.2.1.length by show n < nbS T; omega)).2.1
    have hbd := hC.2.2.2.2.1 (tB T n) (by unfold tB; rw [List.getD_eq_getElem?_getD, List.getElem?_eq_getElem (show n < T.2.1.length by show n < nbS T; omega)]; exact List.getElem_mem _)
    have hst := hO.1 n (by omega)
    have hnr := nr_in T g x c n
    have hn1 : (nrS T g x c n).1 = -2 ∧ (nrS T g x c n).2 = 4 ∨ (0 ≤ (nrS T g x c n).1 ∧ (nrS T g x c n).1 < n ∧ (nrS T g x c n).2 = (((g 7 (nrS T g x c n).1.toNat).toInt - x).natAbs : Int) ∧ 0 ≤ (g 7 (nrS T g x c n).1.toNat).toInt ∧ (g 7 (nrS T g x c n).1.toNat).toInt ≤ 9 ∧ (sy_ai F1 55).getD (49 + (sy_i F1 71).toInt).toNat 0 = g 7 (nrS T g x c n).1.toNat) := by
      rcases hnr with h | h
      · left
        rw [h]
        exact ⟨rfl, rfl⟩
      · right
        have hs2 := hO.1 (nrS T g x c n).1.toNat (by omega)
        refine ⟨h.1, h.2.1, h.2.2, hs2.1, hs2.2, ?_⟩
        rw [show (49 + (sy_i F1 71).toInt).toNat = ra 7 + (nrS T g x c n).1.toNat by show _ = 49 + _; omega]
        exact row 7 _ (vB (Or.inl rfl) (by omega))
    have d1 : (g 7 n - sy_i F1 70).toInt = (g 7 n).toInt - x := by rw [nz_sub rfl e70 (by omega) (by omega)]
    have d2 : (sy_i F1 70 - g 7 n).toInt = x - (g 7 n).toInt := by rw [nz_sub e70 rfl (by omega) (by omega)]
    have hstep : (nrS T g x c (n + 1)) = if (((g 7 n).toInt - x).natAbs : Int) ≤ (tB T n).2.1 ∧ (((g 7 n).toInt - x).natAbs : Int) < (nrS T g x c n).2 ∧ c ≤ (g 8 n).toInt then ((n : Int), (((g 7 n).toInt - x).natAbs : Int)) else nrS T g x c n := rfl
    have yes : ∀ F2 : Nat → sy_d, iv_in F2 iv_B4 → (∀ j, j < 69 → j ∉ ([] : List Nat) → F2 j = F1 j) → (sy_i F2 69).toInt = (sy_i F1 69).toInt → (sy_i F2 70).toInt = (sy_i F1 70).toInt → (sy_i F2 71).toInt = (sy_i F1 72).toInt → (sy_i F2 72).toInt = (sy_i F1 72).toInt + 1 → ((((g 7 n).toInt - x).natAbs : Int) ≤ (tB T n).2.1 ∧ (((g 7 n).toInt - x).natAbs : Int) < (nrS T g x c n).2 ∧ c ≤ (g 8 n).toInt) → hd_W Ls xs 2 jm_M187 (pI 4 X1 X2 (fun y F' => qR [] F F' ∧ y.toInt = (nrS T g x c (nbS T)).1)) (22, sy_dL F2 [some (.inl (.ref 1000)), none, some (.inr (.inl 69)), some (.inr (.inl 70)), some (.inr (.inl 71)), some (.inr (.inl 72)), none], sy_dS F2 [], sy_dh F2 X1 X2 (iv_H 4), 0, 0) := fun F2 hb gg f69 f70 f71 f72 h => ih F2 (n + 1) (by omega) (qq_on hq hb gg (by decide)) (by omega) (by omega) (by omega) (by rw [hstep, if_pos h]; show _ = (n : Int); omega)
    have no : ∀ F2 : Nat → sy_d, iv_in F2 iv_B4 → (∀ j, j < 69 → j ∉ ([] : List Nat) → F2 j = F1 j) → (sy_i F2 69).toInt = (sy_i F1 69).toInt → (sy_i F2 70).toInt = (sy_i F1 70).toInt → (sy_i F2 71).toInt = (sy_i F1 71).toInt → (sy_i F2 72).toInt = (sy_i F1 72).toInt + 1 → ¬ ((((g 7 n).toInt - x).natAbs : Int) ≤ (tB T n).2.1 ∧ (((g 7 n).toInt - x).natAbs : Int) < (nrS T g x c n).2 ∧ c ≤ (g 8 n).toInt) → hd_W Ls xs 2 jm_M187 (pI 4 X1 X2 (fun y F' => qR [] F F' ∧ y.toInt = (nrS T g x c (nbS T)).1)) (22, sy_dL F2 [some (.inl (.ref 1000)), none, some (.inr (.inl 69)), some (.inr (.inl 70)), some (.inr (.inl 71)), some (.inr (.inl 72)), none], sy_dS F2 [], sy_dh F2 X1 X2 (iv_H 4), 0, 0) := fun F2 hb gg f69 f70 f71 f72 h => ih F2 (n + 1) (by omega) (qq_on hq hb gg (by decide)) (by omega) (by omega) (by omega) (by rw [hstep, if_neg h]; omega)
    have bst : 0 ≤ (sy_i F1 71).toInt → ∃ z : Int, (sy_ai F1 55).getD (49 + (sy_i F1 71).toInt).toNat 0 = g 7 (nrS T g x c n).1.toNat ∧ (g 7 (nrS T g x c n).1.toNat).toInt = z ∧ (0 ≤ z ∧ z ≤ 9) ∧ (nrS T g x c n).2 = ((z - x).natAbs : Int) ∧ (g 7 (nrS T g x c n).1.toNat - sy_i F1 70).toInt = z - x ∧ (sy_i F1 70 - g 7 (nrS T g x c n).1.toNat).toInt = x - z := fun q => by
      rcases hn1 with h | ⟨h1, h2, h3, h4, h5, h6⟩
      · omega
      · exact ⟨_, h6, rfl, ⟨h4, h5⟩, h3, by rw [nz_sub rfl e70 (by omega) (by omega)], by rw [nz_sub e70 rfl (by omega) (by omega)]⟩
    have neg4 : (sy_i F1 71).toInt < 0 → (nrS T g x c n).2 = 4 := fun q => by
      rcases hn1 with h | h
      · exact h.2
      · omega
    have hr3 : (tB T n).2.1 ≤ 3 := hbd.2.1.2
    have b72 : 0 ≤ (sy_i F1 72).toInt ∧ (sy_i F1 72).toInt ≤ 4 := by
      clear hnr hn1 bst neg4 hstep yes no
      omega
    have b71 : -2 ≤ (sy_i F1 71).toInt ∧ (sy_i F1 71).toInt ≤ 3 := by
      rw [e71]
      rcases hnr with h | ⟨h1, h2, -⟩
      · rw [h]
        exact ⟨(by decide : (-2 : Int) ≤ -2), (by decide : (-2 : Int) ≤ 3)⟩
      · clear hn1 bst neg4 hstep yes no
        omega
    refine yca_22 (by decide) F1 X1 X2 hq.1 b71 b72 ?_ ?_ ?_ ?_ ?_ ?_ ?_ ?_ ?_ ?_ ?_ ?_ ?_ ?_ ?_
    · intros
      omega
    · intro c0 c1 c2 F2 hb gg f69 i69 f70 i70 f71 i71 f72 i72
      rw [r49] at c1
      rw [rea, r49, d1] at c2
      exact no F2 hb gg f69 f70 f71 f72 (by omega)
    · intro c0 c1 c2 c3 c4 F2 hb gg f69 i69 f70 i70 f71 i71 f72 i72
      rw [r49] at c1
      rw [rea, r49, d1] at c2
      rw [r53, e69] at c3
      have n4 := neg4 c4
      exact yes F2 hb gg f69 f70 f71 f72 (by omega)
    · intro c0 c1 c2 c3 c4 c5 c6 F2 hb gg f69 i69 f70 i70 f71 i71 f72 i72
      rw [r49] at c1
      rw [rea, r49, d1] at c2
      rw [r53, e69] at c3
      obtain ⟨z, z1, z2, z3, z4, z5, z6⟩ := bst c4
      rw [z1] at c5 c6
      rw [r49, d1, z5] at c6
      exact no F2 hb gg f69 f70 f71 f72 (by omega)
    · intro c0 c1 c2 c3 c4 c5 c6 F2 hb gg f69 i69 f70 i70 f71 i71 f72 i72
      rw [r49] at c1
      rw [rea, r49, d1] at c2
      rw [r53, e69] at c3
      obtain ⟨z, z1, z2, z3, z4, z5, z6⟩ := bst c4
      rw [z1] at c5 c6
      rw [r49, d1, z5] at c6
      exact yes F2 hb gg f69 f70 f71 f72 (by omega)
    · intro c0 c1 c2 c3 c4 c5 c6 F2 hb gg f69 i69 f70 i70 f71 i71 f72 i72
      rw [r49] at c1
      rw [rea, r49, d1] at c2
      rw [r53, e69] at c3
      obtain ⟨z, z1, z2, z3, z4, z5, z6⟩ := bst c4
      rw [z1] at c5 c6
      rw [r49, d1, z6] at c6
      exact no F2 hb gg f69 f70 f71 f72 (by omega)
    · intro c0 c1 c2 c3 c4 c5 c6 F2 hb gg f69 i69 f70 i70 f71 i71 f72 i72
      rw [r49] at c1
      rw [rea, r49, d1] at c2
      rw [r53, e69] at c3
      obtain ⟨z, z1, z2, z3, z4, z5, z6⟩ := bst c4
      rw [z1] at c5 c6
      rw [r49, d1, z6] at c6
      exact yes F2 hb gg f69 f70 f71 f72 (by omega)
    · intro c0 c1 c2 c3 F2 hb gg f69 i69 f70 i70 f71 i71 f72 i72
      rw [r49] at c1
      rw [rea, r49, d1] at c2
      rw [r53, e69] at c3
      exact no F2 hb gg f69 f70 f71 f72 (by omega)
    · intro c0 c1 c2 F2 hb gg f69 i69 f70 i70 f71 i71 f72 i72
      rw [r49] at c1
      rw [rea, r49, d2] at c2
      exact no F2 hb gg f69 f70 f71 f72 (by omega)
    · intro c0 c1 c2 c3 c4 F2 hb gg f69 i69 f70 i70 f71 i71 f72 i72
      rw [r49] at c1
      rw [rea, r49, d2] at c2
      rw [r53, e69] at c3
      have n4 := neg4 c4
      exact yes F2 hb gg f69 f70 f71 f72 (by omega)
    · intro c0 c1 c2 c3 c4 c5 c6 F2 hb gg f69 i69 f70 i70 f71 i71 f72 i72
      rw [r49] at c1
      rw [rea, r49, d2] at c2
      rw [r53, e69] at c3
      obtain ⟨z, z1, z2, z3, z4, z5, z6⟩ := bst c4
      rw [z1] at c5 c6
      rw [r49, d2, z5] at c6
      exact no F2 hb gg f69 f70 f71 f72 (by omega)
    · intro c0 c1 c2 c3 c4 c5 c6 F2 hb gg f69 i69 f70 i70 f71 i71 f72 i72
      rw [r49] at c1
      rw [rea, r49, d2] at c2
      rw [r53, e69] at c3
      obtain ⟨z, z1, z2, z3, z4, z5, z6⟩ := bst c4
      rw [z1] at c5 c6
      rw [r49, d2, z5] at c6
      exact yes F2 hb gg f69 f70 f71 f72 (by omega)
    · intro c0 c1 c2 c3 c4 c5 c6 F2 hb gg f69 i69 f70 i70 f71 i71 f72 i72
      rw [r49] at c1
      rw [rea, r49, d2] at c2
      rw [r53, e69] at c3
      obtain ⟨z, z1, z2, z3, z4, z5, z6⟩ := bst c4
      rw [z1] at c5 c6
      rw [r49, d2, z6] at c6
      exact no F2 hb gg f69 f70 f71 f72 (by omega)
    · intro c0 c1 c2 c3 c4 c5 c6 F2 hb gg f69 i69 f70 i70 f71 i71 f72 i72
      rw [r49] at c1
      rw [rea, r49, d2] at c2
      rw [r53, e69] at c3
      obtain ⟨z, z1, z2, z3, z4, z5, z6⟩ := bst c4
      rw [z1] at c5 c6
      rw [r49, d2, z6] at c6
      exact yes F2 hb gg f69 f70 f71 f72 (by omega)
    · intro c0 c1 c2 c3 F2 hb gg f69 i69 f70 i70 f71 i71 f72 i72
      rw [r49] at c1
      rw [rea, r49, d2] at c2
      rw [r53, e69] at c3
      exact no F2 hb gg f69 f70 f71 f72 (by omega)
end KR
end
