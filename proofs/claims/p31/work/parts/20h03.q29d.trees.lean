section
/-! ===== what is told against the text, way by way: the reference ===== -/
theorem zsv_0_p0 {Ls : Nat} {xs : Nat → Int32} {d : Nat} {Q : Option Value → jm_h → Prop} (hd : 1 ≤ d) (F : Nat → sy_d) (X1 X2 : List jm_c) (hB : iv_in F iv_B4)
    (k : ∀ F1 : Nat → sy_d, (∀ j, j < 69 → True → F1 j = F j) → F1 69 = .inl (.int (sy_i F 69)) → F1 70 = .inl (.int ((1 : Int32))) → F1 71 = .inl (.int ((0 : Int32))) → hd_W Ls xs d jm_M230 Q (4, sy_dL F1 [some (.inr (.inl 69)), some (.inr (.inl 70)), some (.inr (.inl 71))], sy_dS F1 [], sy_dh F1 X1 X2 (iv_H 4), 0, 0)) :
    hd_W Ls xs d jm_M230 Q (0, sy_dL F [some (.inr (.inl 69)), none, none], sy_dS F [], sy_dh F X1 X2 (iv_H 4), 0, 0) := by
  refine hd_run (s := 4) (nv := 70) (pc := 4) (L := [some (.inr (.inl 69)), some (.inr (.inl 70)), some (.inr (.inl 71))]) (S := []) (uh := hd_ov (iv_id 0 iv_B4) []) (ul := [.inl (.inr (.inl 69)), .inl (.inl (.int 1)), .inl (.inl (.int 0))]) (f := true) (sp := [4]) (d0 := 0) (O := []) (T := []) (P := []) jm_ok230 (by decide +kernel) (by decide +kernel) hd F X1 X2 (fun F' hF hs => ?_)
  have b69 := hd_b (F := F) (F' := F') (k := 69) (hF 69 (by decide))
  have hB' : iv_in F' iv_B4 := iv_in_eq hB (fun j hj => hF j (Nat.lt_of_lt_of_le hj (by decide +kernel)))
  refine ⟨fun _ h => absurd h List.not_mem_nil, ?_⟩
  refine k _ ?_ ?_ ?_ ?_
  · exact fun j hj _ => (hd_keep hB' (Nat.lt_of_lt_of_le hj (by decide +kernel)) (by simp)).trans (hF j (Nat.lt_of_lt_of_le hj (by decide)))
  · exact hd_gi (x := .inr (.inl 69)) (by decide +kernel) b69
  · exact hd_gi (x := .inl (.int 1)) (by decide +kernel) rfl
  · exact hd_gi (x := .inl (.int 0)) (by decide +kernel) rfl
theorem zsv_0 {Ls : Nat} {xs : Nat → Int32} {d : Nat} {Q : Option Value → jm_h → Prop} (hd : 1 ≤ d) (F : Nat → sy_d) (X1 X2 : List jm_c) (hB : iv_in F iv_B4)
    (k0 : ∀ F1 : Nat → sy_d, iv_in F1 iv_B4 → (∀ j, j < 69 → j ∉ ([] : List Nat) → F1 j = F j) → (sy_i F1 69).toInt = (sy_i F 69).toInt → sy_i F1 69 = sy_i F 69 → (sy_i F1 70).toInt = 1 → sy_i F1 70 = (1 : Int32) → (sy_i F1 71).toInt = 0 → sy_i F1 71 = (0 : Int32) → hd_W Ls xs d jm_M230 Q (4, sy_dL F1 [some (.inr (.inl 69)), some (.inr (.inl 70)), some (.inr (.inl 71))], sy_dS F1 [], sy_dh F1 X1 X2 (iv_H 4), 0, 0)) :
    hd_W Ls xs d jm_M230 Q (0, sy_dL F [some (.inr (.inl 69)), none, none], sy_dS F [], sy_dh F X1 X2 (iv_H 4), 0, 0) := by
  exact zsv_0_p0 hd F X1 X2 hB  (fun F1 g e69 e70 e71 => k0 F1 (nz_in hB [] (fun j hj hn => g j hj (by simp only [List.mem_cons, List.not_mem_nil, or_false, not_or] at hn; exact trivial)) (List.forall_mem_nil _)) (fun j hj hn => g j hj (by simp only [List.mem_cons, List.not_mem_nil, or_false, not_or] at hn; exact trivial)) ((congrArg Int32.toInt (zz_i e69)).trans (rfl : (sy_i F 69).toInt = (sy_i F 69).toInt)) ((zz_i e69).trans (rfl : sy_i F 69 = sy_i F 69)) ((congrArg Int32.toInt (zz_i e70)).trans (by decide : ((1 : Int32)).toInt = 1)) ((zz_i e70).trans (rfl : (1 : Int32) = (1 : Int32))) ((congrArg Int32.toInt (zz_i e71)).trans (by decide : ((0 : Int32)).toInt = 0)) ((zz_i e71).trans (rfl : (0 : Int32) = (0 : Int32))))
theorem zsv_4_p0 {Ls : Nat} {xs : Nat → Int32} {d : Nat} {Q : Option Value → jm_h → Prop} (hd : 1 ≤ d) (F : Nat → sy_d) (X1 X2 : List jm_c) (hB : iv_in F iv_B4)
    (h0 : (sy_i F 69).toInt ≤ (sy_i F 71).toInt)
    (k : ∀ F1 : Nat → sy_d, (∀ j, j < 69 → True → F1 j = F j) → Q (some (.int (sy_i F 70))) (sy_dh F1 X1 X2 (iv_H 4))) :
    hd_W Ls xs d jm_M230 Q (4, sy_dL F [some (.inr (.inl 69)), some (.inr (.inl 70)), some (.inr (.inl 71))], sy_dS F [], sy_dh F X1 X2 (iv_H 4), 0, 0) := by
  refine hd_ret (s := 4) (nv := 72) (v := some (.inr (.inl 70))) (uh := hd_ov (iv_id 0 iv_B4) []) (f := true) (sp := [4]) (d0 := 0) (O := [true]) (T := []) (P := [(4, .inr (.inl 69), .inr (.inl 71))]) jm_ok230 (by decide +kernel) (by decide +kernel) hd F X1 X2 (fun F' hF hs => ?_)
  have b69 := hd_b (F := F) (F' := F') (k := 69) (hF 69 (by decide))
  have b71 := hd_b (F := F) (F' := F') (k := 71) (hF 71 (by decide))
  have b70 := hd_b (F := F) (F' := F') (k := 70) (hF 70 (by decide))
  have hB' : iv_in F' iv_B4 := iv_in_eq hB (fun j hj => hF j (Nat.lt_of_lt_of_le hj (by decide +kernel)))
  have hk := k (sy_cm F' (hd_ov (iv_id 0 iv_B4) [] ++ [])) (fun j hj _ => (hd_keep hB' (Nat.lt_of_lt_of_le hj (by decide +kernel)) (by simp)).trans (hF j (Nat.lt_of_lt_of_le hj (by decide))))
  refine ⟨List.forall_mem_cons.mpr ⟨hd_p4 b69 b71 h0, fun _ h => absurd h List.not_mem_nil⟩, ?_⟩
  show Q (some (sy_dv F' (.inr (.inl 70)))) _
  rw [b70]
  exact hk
theorem zsv_4_p1 {Ls : Nat} {xs : Nat → Int32} {d : Nat} {Q : Option Value → jm_h → Prop} (hd : 1 ≤ d) (F : Nat → sy_d) (X1 X2 : List jm_c) (hB : iv_in F iv_B4)
    (h0 : (sy_i F 71).toInt < (sy_i F 69).toInt)
    (k : ∀ F1 : Nat → sy_d, (∀ j, j < 69 → True → F1 j = F j) → F1 69 = .inl (.int (sy_i F 69)) → F1 70 = .inl (.int ((sy_i F 70) * ((7 : Int32)))) → F1 71 = .inl (.int ((sy_i F 71) + ((1 : Int32)))) → hd_W Ls xs d jm_M230 Q (4, sy_dL F1 [some (.inr (.inl 69)), some (.inr (.inl 70)), some (.inr (.inl 71))], sy_dS F1 [], sy_dh F1 X1 X2 (iv_H 4), 0, 0)) :
    hd_W Ls xs d jm_M230 Q (4, sy_dL F [some (.inr (.inl 69)), some (.inr (.inl 70)), some (.inr (.inl 71))], sy_dS F [], sy_dh F X1 X2 (iv_H 4), 0, 0) := by
  refine hd_run (s := 4) (nv := 72) (pc := 4) (L := [some (.inr (.inl 69)), some (.inr (.inl 70)), some (.inr (.inl 71))]) (S := []) (uh := hd_ov (iv_id 0 iv_B4) []) (ul := [.inl (.inr (.inl 69)), .inl (.inr (.inl 72)), .inl (.inr (.inl 73))]) (f := true) (sp := [4]) (d0 := 0) (O := [false]) (T := [(2, [.inr (.inl 70), .inl (.int 7)], []), (0, [.inr (.inl 71), .inl (.int 1)], [])]) (P := [(5, .inr (.inl 69), .inr (.inl 71))]) jm_ok230 (by decide +kernel) (by decide +kernel) hd F X1 X2 (fun F' hF hs => ?_)
  have b69 := hd_b (F := F) (F' := F') (k := 69) (hF 69 (by decide))
  have b71 := hd_b (F := F) (F' := F') (k := 71) (hF 71 (by decide))
  have b70 := hd_b (F := F) (F' := F') (k := 70) (hF 70 (by decide))
  have t72 : sy_dv F' (.inr (.inl 72)) = .int ((sy_i F 70) * ((7 : Int32))) := hd_o (hs 0 _ rfl) b70 rfl rfl
  have t73 : sy_dv F' (.inr (.inl 73)) = .int ((sy_i F 71) + ((1 : Int32))) := hd_o (hs 1 _ rfl) b71 rfl rfl
  have hB' : iv_in F' iv_B4 := iv_in_eq hB (fun j hj => hF j (Nat.lt_of_lt_of_le hj (by decide +kernel)))
  refine ⟨List.forall_mem_cons.mpr ⟨hd_p5 b69 b71 h0, fun _ h => absurd h List.not_mem_nil⟩, ?_⟩
  refine k _ ?_ ?_ ?_ ?_
  · exact fun j hj _ => (hd_keep hB' (Nat.lt_of_lt_of_le hj (by decide +kernel)) (by simp)).trans (hF j (Nat.lt_of_lt_of_le hj (by decide)))
  · exact hd_gi (x := .inr (.inl 69)) (by decide +kernel) b69
  · exact hd_gi (x := .inr (.inl 72)) (by decide +kernel) t72
  · exact hd_gi (x := .inr (.inl 73)) (by decide +kernel) t73
theorem zsv_4 {Ls : Nat} {xs : Nat → Int32} {d : Nat} {Q : Option Value → jm_h → Prop} (hd : 1 ≤ d) (F : Nat → sy_d) (X1 X2 : List jm_c) (hB : iv_in F iv_B4)
    (a69 : 0 ≤ (sy_i F 69).toInt ∧ (sy_i F 69).toInt ≤ 7)
    (a70 : 0 ≤ (sy_i F 70).toInt ∧ (sy_i F 70).toInt ≤ 823543)
    (a71 : 0 ≤ (sy_i F 71).toInt ∧ (sy_i F 71).toInt ≤ 7)
    (k0 : (sy_i F 69).toInt ≤ (sy_i F 71).toInt → ∀ F1 : Nat → sy_d, iv_in F1 iv_B4 → (∀ j, j < 69 → j ∉ ([] : List Nat) → F1 j = F j) → Q (some (.int (sy_i F 70))) (sy_dh F1 X1 X2 (iv_H 4)))
    (k1 : (sy_i F 71).toInt < (sy_i F 69).toInt → ∀ F1 : Nat → sy_d, iv_in F1 iv_B4 → (∀ j, j < 69 → j ∉ ([] : List Nat) → F1 j = F j) → (sy_i F1 69).toInt = (sy_i F 69).toInt → sy_i F1 69 = sy_i F 69 → (sy_i F1 70).toInt = ((sy_i F 70).toInt * 7) → sy_i F1 70 = (sy_i F 70) * ((7 : Int32)) → (sy_i F1 71).toInt = ((sy_i F 71).toInt + 1) → sy_i F1 71 = (sy_i F 71) + ((1 : Int32)) → hd_W Ls xs d jm_M230 Q (4, sy_dL F1 [some (.inr (.inl 69)), some (.inr (.inl 70)), some (.inr (.inl 71))], sy_dS F1 [], sy_dh F1 X1 X2 (iv_H 4), 0, 0)) :
    hd_W Ls xs d jm_M230 Q (4, sy_dL F [some (.inr (.inl 69)), some (.inr (.inl 70)), some (.inr (.inl 71))], sy_dS F [], sy_dh F X1 X2 (iv_H 4), 0, 0) := by
  by_cases g0 : (sy_i F 69).toInt ≤ (sy_i F 71).toInt
  · exact zsv_4_p0 hd F X1 X2 hB (by first | exact g0 | (simp only [nz_c]; exact g0)) (fun F1 g  => by rw [(rfl : sy_i F 70 = sy_i F 70)]; exact k0 g0 F1 (nz_in hB [] (fun j hj hn => g j hj (by simp only [List.mem_cons, List.not_mem_nil, or_false, not_or] at hn; exact trivial)) (List.forall_mem_nil _)) (fun j hj hn => g j hj (by simp only [List.mem_cons, List.not_mem_nil, or_false, not_or] at hn; exact trivial)) )
  replace g0 : (sy_i F 71).toInt < (sy_i F 69).toInt := by omega
  have n72 : nzI ((sy_i F 70) * ((7 : Int32))) (((sy_i F 70).toInt * 7)) := nz_mul (rfl : (sy_i F 70).toInt = (sy_i F 70).toInt) (by decide : ((7 : Int32)).toInt = 7) (by omega) (by omega)
  have n73 : nzI ((sy_i F 71) + ((1 : Int32))) (((sy_i F 71).toInt + 1)) := nz_add (rfl : (sy_i F 71).toInt = (sy_i F 71).toInt) (by decide : ((1 : Int32)).toInt = 1) (by omega) (by omega)
  exact zsv_4_p1 hd F X1 X2 hB (by first | exact g0 | (simp only [nz_c]; exact g0)) (fun F1 g e69 e70 e71 => k1 g0 F1 (nz_in hB [] (fun j hj hn => g j hj (by simp only [List.mem_cons, List.not_mem_nil, or_false, not_or] at hn; exact trivial)) (List.forall_mem_nil _)) (fun j hj hn => g j hj (by simp only [List.mem_cons, List.not_mem_nil, or_false, not_or] at hn; exact trivial)) ((congrArg Int32.toInt (zz_i e69)).trans (rfl : (sy_i F 69).toInt = (sy_i F 69).toInt)) ((zz_i e69).trans (rfl : sy_i F 69 = sy_i F 69)) ((congrArg Int32.toInt (zz_i e70)).trans (nzE n72)) ((zz_i e70).trans (rfl : (sy_i F 70) * ((7 : Int32)) = (sy_i F 70) * ((7 : Int32)))) ((congrArg Int32.toInt (zz_i e71)).trans (nzE n73)) ((zz_i e71).trans (rfl : (sy_i F 71) + ((1 : Int32)) = (sy_i F 71) + ((1 : Int32)))))
theorem zir_0_p0 {Ls : Nat} {xs : Nat → Int32} {d : Nat} {Q : Option Value → jm_h → Prop} (hd : 1 ≤ d) (F : Nat → sy_d) (X1 X2 : List jm_c) (hB : iv_in F iv_B4)
    (k : ∀ F1 : Nat → sy_d, (∀ j, j < 69 → True → F1 j = F j) → F1 69 = .inl (.int (sy_i F 69)) → F1 70 = .inl (.int (sy_i F 70)) → F1 71 = .inl (.int ((0 : Int32))) → F1 72 = .inl (.int ((0 : Int32))) → hd_W Ls xs d jm_M231 Q (5, sy_dL F1 [some (.inl (.ref 1000)), some (.inr (.inl 69)), some (.inr (.inl 70)), some (.inr (.inl 71)), some (.inr (.inl 72)), none], sy_dS F1 [], sy_dh F1 X1 X2 (iv_H 4), 0, 0)) :
    hd_W Ls xs d jm_M231 Q (0, sy_dL F [some (.inl (.ref 1000)), some (.inr (.inl 69)), some (.inr (.inl 70)), none, none, none], sy_dS F [], sy_dh F X1 X2 (iv_H 4), 0, 0) := by
  refine hd_run (s := 4) (nv := 71) (pc := 5) (L := [some (.inl (.ref 1000)), some (.inr (.inl 69)), some (.inr (.inl 70)), some (.inr (.inl 71)), some (.inr (.inl 72)), none]) (S := []) (uh := hd_ov (iv_id 0 iv_B4) []) (ul := [.inl (.inr (.inl 69)), .inl (.inr (.inl 70)), .inl (.inl (.int 0)), .inl (.inl (.int 0))]) (f := true) (sp := [5]) (d0 := 0) (O := []) (T := []) (P := []) jm_ok231 (by decide +kernel) (by decide +kernel) hd F X1 X2 (fun F' hF hs => ?_)
  have b69 := hd_b (F := F) (F' := F') (k := 69) (hF 69 (by decide))
  have b70 := hd_b (F := F) (F' := F') (k := 70) (hF 70 (by decide))
  have hB' : iv_in F' iv_B4 := iv_in_eq hB (fun j hj => hF j (Nat.lt_of_lt_of_le hj (by decide +kernel)))
  refine ⟨fun _ h => absurd h List.not_mem_nil, ?_⟩
  refine k _ ?_ ?_ ?_ ?_ ?_
  · exact fun j hj _ => (hd_keep hB' (Nat.lt_of_lt_of_le hj (by decide +kernel)) (by simp)).trans (hF j (Nat.lt_of_lt_of_le hj (by decide)))
  · exact hd_gi (x := .inr (.inl 69)) (by decide +kernel) b69
  · exact hd_gi (x := .inr (.inl 70)) (by decide +kernel) b70
  · exact hd_gi (x := .inl (.int 0)) (by decide +kernel) rfl
  · exact hd_gi (x := .inl (.int 0)) (by decide +kernel) rfl
theorem zir_0 {Ls : Nat} {xs : Nat → Int32} {d : Nat} {Q : Option Value → jm_h → Prop} (hd : 1 ≤ d) (F : Nat → sy_d) (X1 X2 : List jm_c) (hB : iv_in F iv_B4)
    (k0 : ∀ F1 : Nat → sy_d, iv_in F1 iv_B4 → (∀ j, j < 69 → j ∉ ([] : List Nat) → F1 j = F j) → (sy_i F1 69).toInt = (sy_i F 69).toInt → sy_i F1 69 = sy_i F 69 → (sy_i F1 70).toInt = (sy_i F 70).toInt → sy_i F1 70 = sy_i F 70 → (sy_i F1 71).toInt = 0 → sy_i F1 71 = (0 : Int32) → (sy_i F1 72).toInt = 0 → sy_i F1 72 = (0 : Int32) → hd_W Ls xs d jm_M231 Q (5, sy_dL F1 [some (.inl (.ref 1000)), some (.inr (.inl 69)), some (.inr (.inl 70)), some (.inr (.inl 71)), some (.inr (.inl 72)), none], sy_dS F1 [], sy_dh F1 X1 X2 (iv_H 4), 0, 0)) :
    hd_W Ls xs d jm_M231 Q (0, sy_dL F [some (.inl (.ref 1000)), some (.inr (.inl 69)), some (.inr (.inl 70)), none, none, none], sy_dS F [], sy_dh F X1 X2 (iv_H 4), 0, 0) := by
  exact zir_0_p0 hd F X1 X2 hB  (fun F1 g e69 e70 e71 e72 => k0 F1 (nz_in hB [] (fun j hj hn => g j hj (by simp only [List.mem_cons, List.not_mem_nil, or_false, not_or] at hn; exact trivial)) (List.forall_mem_nil _)) (fun j hj hn => g j hj (by simp only [List.mem_cons, List.not_mem_nil, or_false, not_or] at hn; exact trivial)) ((congrArg Int32.toInt (zz_i e69)).trans (rfl : (sy_i F 69).toInt = (sy_i F 69).toInt)) ((zz_i e69).trans (rfl : sy_i F 69 = sy_i F 69)) ((congrArg Int32.toInt (zz_i e70)).trans (rfl : (sy_i F 70).toInt = (sy_i F 70).toInt)) ((zz_i e70).trans (rfl : sy_i F 70 = sy_i F 70)) ((congrArg Int32.toInt (zz_i e71)).trans (by decide : ((0 : Int32)).toInt = 0)) ((zz_i e71).trans (rfl : (0 : Int32) = (0 : Int32))) ((congrArg Int32.toInt (zz_i e72)).trans (by decide : ((0 : Int32)).toInt = 0)) ((zz_i e72).trans (rfl : (0 : Int32) = (0 : Int32))))
theorem zir_5_p0 {Ls : Nat} {xs : Nat → Int32} {d : Nat} {Q : Option Value → jm_h → Prop} (hd : 1 ≤ d) (F : Nat → sy_d) (X1 X2 : List jm_c) (hB : iv_in F iv_B4)
    (h0 : (sy_i F 70).toInt ≤ (sy_i F 72).toInt)
    (k : ∀ F1 : Nat → sy_d, (∀ j, j < 69 → True → F1 j = F j) → Q (some (.int ((1 : Int32)))) (sy_dh F1 X1 X2 (iv_H 4))) :
    hd_W Ls xs d jm_M231 Q (5, sy_dL F [some (.inl (.ref 1000)), some (.inr (.inl 69)), some (.inr (.inl 70)), some (.inr (.inl 71)), some (.inr (.inl 72)), none], sy_dS F [], sy_dh F X1 X2 (iv_H 4), 0, 0) := by
  refine hd_ret (s := 4) (nv := 73) (v := some (.inl (.int 1))) (uh := hd_ov (iv_id 0 iv_B4) []) (f := true) (sp := [18]) (d0 := 0) (O := [true]) (T := []) (P := [(4, .inr (.inl 70), .inr (.inl 72))]) jm_ok231 (by decide +kernel) (by decide +kernel) hd F X1 X2 (fun F' hF hs => ?_)
  have b70 := hd_b (F := F) (F' := F') (k := 70) (hF 70 (by decide))
  have b72 := hd_b (F := F) (F' := F') (k := 72) (hF 72 (by decide))
  have hB' : iv_in F' iv_B4 := iv_in_eq hB (fun j hj => hF j (Nat.lt_of_lt_of_le hj (by decide +kernel)))
  refine ⟨List.forall_mem_cons.mpr ⟨hd_p4 b70 b72 h0, fun _ h => absurd h List.not_mem_nil⟩, ?_⟩
  refine k _ ?_
  · exact fun j hj _ => (hd_keep hB' (Nat.lt_of_lt_of_le hj (by decide +kernel)) (by simp)).trans (hF j (Nat.lt_of_lt_of_le hj (by decide)))
theorem zir_5_p1 {Ls : Nat} {xs : Nat → Int32} {d : Nat} {Q : Option Value → jm_h → Prop} (hd : 1 ≤ d) (F : Nat → sy_d) (X1 X2 : List jm_c) (hB : iv_in F iv_B4)
    (h0 : (sy_i F 72).toInt < (sy_i F 70).toInt)
    (k : ∀ F1 : Nat → sy_d, (∀ j, j < 69 → True → F1 j = F j) → F1 69 = .inl (.int (sy_i F 69)) → F1 70 = .inl (.int (sy_i F 70)) → F1 71 = .inl (.int (sy_i F 71)) → F1 72 = .inl (.int (sy_i F 72)) → F1 73 = .inl (.int (((sy_i F 70) - ((1 : Int32))) - (sy_i F 72))) → hd_W Ls xs d jm_M231 Q (18, sy_dL F1 [some (.inl (.ref 1000)), some (.inr (.inl 69)), some (.inr (.inl 70)), some (.inr (.inl 71)), some (.inr (.inl 72)), none], sy_dS F1 [.inr (.inl 73), .inr (.inl 69)], sy_dh F1 X1 X2 (iv_H 4), 0, 0)) :
    hd_W Ls xs d jm_M231 Q (5, sy_dL F [some (.inl (.ref 1000)), some (.inr (.inl 69)), some (.inr (.inl 70)), some (.inr (.inl 71)), some (.inr (.inl 72)), none], sy_dS F [], sy_dh F X1 X2 (iv_H 4), 0, 0) := by
  refine hd_run (s := 4) (nv := 73) (pc := 18) (L := [some (.inl (.ref 1000)), some (.inr (.inl 69)), some (.inr (.inl 70)), some (.inr (.inl 71)), some (.inr (.inl 72)), none]) (S := [.inr (.inl 73), .inr (.inl 69)]) (uh := hd_ov (iv_id 0 iv_B4) []) (ul := [.inl (.inr (.inl 69)), .inl (.inr (.inl 70)), .inl (.inr (.inl 71)), .inl (.inr (.inl 72)), .inl (.inr (.inl 74))]) (f := true) (sp := [18]) (d0 := 0) (O := [false]) (T := [(1, [.inr (.inl 70), .inl (.int 1)], []), (1, [.inr (.inl 73), .inr (.inl 72)], [])]) (P := [(5, .inr (.inl 70), .inr (.inl 72))]) jm_ok231 (by decide +kernel) (by decide +kernel) hd F X1 X2 (fun F' hF hs => ?_)
  have b70 := hd_b (F := F) (F' := F') (k := 70) (hF 70 (by decide))
  have b72 := hd_b (F := F) (F' := F') (k := 72) (hF 72 (by decide))
  have b69 := hd_b (F := F) (F' := F') (k := 69) (hF 69 (by decide))
  have b71 := hd_b (F := F) (F' := F') (k := 71) (hF 71 (by decide))
  have t73 : sy_dv F' (.inr (.inl 73)) = .int ((sy_i F 70) - ((1 : Int32))) := hd_o (hs 0 _ rfl) b70 rfl rfl
  have t74 : sy_dv F' (.inr (.inl 74)) = .int (((sy_i F 70) - ((1 : Int32))) - (sy_i F 72)) := hd_o (hs 1 _ rfl) t73 b72 rfl
  have hB' : iv_in F' iv_B4 := iv_in_eq hB (fun j hj => hF j (Nat.lt_of_lt_of_le hj (by decide +kernel)))
  refine ⟨List.forall_mem_cons.mpr ⟨hd_p5 b70 b72 h0, fun _ h => absurd h List.not_mem_nil⟩, ?_⟩
  refine k _ ?_ ?_ ?_ ?_ ?_ ?_
  · exact fun j hj _ => (hd_keep hB' (Nat.lt_of_lt_of_le hj (by decide +kernel)) (by simp)).trans (hF j (Nat.lt_of_lt_of_le hj (by decide)))
  · exact hd_gi (x := .inr (.inl 69)) (by decide +kernel) b69
  · exact hd_gi (x := .inr (.inl 70)) (by decide +kernel) b70
  · exact hd_gi (x := .inr (.inl 71)) (by decide +kernel) b71
  · exact hd_gi (x := .inr (.inl 72)) (by decide +kernel) b72
  · exact hd_gi (x := .inr (.inl 74)) (by decide +kernel) t74
theorem zir_5 {Ls : Nat} {xs : Nat → Int32} {d : Nat} {Q : Option Value → jm_h → Prop} (hd : 1 ≤ d) (F : Nat → sy_d) (X1 X2 : List jm_c) (hB : iv_in F iv_B4)
    (a70 : 0 ≤ (sy_i F 70).toInt ∧ (sy_i F 70).toInt ≤ 7)
    (a72 : 0 ≤ (sy_i F 72).toInt ∧ (sy_i F 72).toInt ≤ 7)
    (k0 : (sy_i F 70).toInt ≤ (sy_i F 72).toInt → ∀ F1 : Nat → sy_d, iv_in F1 iv_B4 → (∀ j, j < 69 → j ∉ ([] : List Nat) → F1 j = F j) → Q (some (.int ((1 : Int32)))) (sy_dh F1 X1 X2 (iv_H 4)))
    (k1 : (sy_i F 72).toInt < (sy_i F 70).toInt → ∀ F1 : Nat → sy_d, iv_in F1 iv_B4 → (∀ j, j < 69 → j ∉ ([] : List Nat) → F1 j = F j) → (sy_i F1 69).toInt = (sy_i F 69).toInt → sy_i F1 69 = sy_i F 69 → (sy_i F1 70).toInt = (sy_i F 70).toInt → sy_i F1 70 = sy_i F 70 → (sy_i F1 71).toInt = (sy_i F 71).toInt → sy_i F1 71 = sy_i F 71 → (sy_i F1 72).toInt = (sy_i F 72).toInt → sy_i F1 72 = sy_i F 72 → (sy_i F1 73).toInt = (((sy_i F 70).toInt - 1) - (sy_i F 72).toInt) → sy_i F1 73 = ((sy_i F 70) - ((1 : Int32))) - (sy_i F 72) → hd_W Ls xs d jm_M231 Q (18, sy_dL F1 [some (.inl (.ref 1000)), some (.inr (.inl 69)), some (.inr (.inl 70)), some (.inr (.inl 71)), some (.inr (.inl 72)), none], sy_dS F1 [.inr (.inl 73), .inr (.inl 69)], sy_dh F1 X1 X2 (iv_H 4), 0, 0)) :
    hd_W Ls xs d jm_M231 Q (5, sy_dL F [some (.inl (.ref 1000)), some (.inr (.inl 69)), some (.inr (.inl 70)), some (.inr (.inl 71)), some (.inr (.inl 72)), none], sy_dS F [], sy_dh F X1 X2 (iv_H 4), 0, 0) := by
  by_cases g0 : (sy_i F 70).toInt ≤ (sy_i F 72).toInt
  · exact zir_5_p0 hd F X1 X2 hB (by first | exact g0 | (simp only [nz_c]; exact g0)) (fun F1 g  => k0 g0 F1 (nz_in hB [] (fun j hj hn => g j hj (by simp only [List.mem_cons, List.not_mem_nil, or_false, not_or] at hn; exact trivial)) (List.forall_mem_nil _)) (fun j hj hn => g j hj (by simp only [List.mem_cons, List.not_mem_nil, or_false, not_or] at hn; exact trivial)) )
  replace g0 : (sy_i F 72).toInt < (sy_i F 70).toInt := by omega
  have n73 : nzI ((sy_i F 70) - ((1 : Int32))) (((sy_i F 70).toInt - 1)) := nz_sub (rfl : (sy_i F 70).toInt = (sy_i F 70).toInt) (by decide : ((1 : Int32)).toInt = 1) (by omega) (by omega)
  have n74 : nzI (((sy_i F 70) - ((1 : Int32))) - (sy_i F 72)) ((((sy_i F 70).toInt - 1) - (sy_i F 72).toInt)) := nz_sub (nzE n73) (rfl : (sy_i F 72).toInt = (sy_i F 72).toInt) (by omega) (by omega)
  exact zir_5_p1 hd F X1 X2 hB (by first | exact g0 | (simp only [nz_c]; exact g0)) (fun F1 g e69 e70 e71 e72 e73 => k1 g0 F1 (nz_in hB [] (fun j hj hn => g j hj (by simp only [List.mem_cons, List.not_mem_nil, or_false, not_or] at hn; exact trivial)) (List.forall_mem_nil _)) (fun j hj hn => g j hj (by simp only [List.mem_cons, List.not_mem_nil, or_false, not_or] at hn; exact trivial)) ((congrArg Int32.toInt (zz_i e69)).trans (rfl : (sy_i F 69).toInt = (sy_i F 69).toInt)) ((zz_i e69).trans (rfl : sy_i F 69 = sy_i F 69)) ((congrArg Int32.toInt (zz_i e70)).trans (rfl : (sy_i F 70).toInt = (sy_i F 70).toInt)) ((zz_i e70).trans (rfl : sy_i F 70 = sy_i F 70)) ((congrArg Int32.toInt (zz_i e71)).trans (rfl : (sy_i F 71).toInt = (sy_i F 71).toInt)) ((zz_i e71).trans (rfl : sy_i F 71 = sy_i F 71)) ((congrArg Int32.toInt (zz_i e72)).trans (rfl : (sy_i F 72).toInt = (sy_i F 72).toInt)) ((zz_i e72).trans (rfl : sy_i F 72 = sy_i F 72)) ((congrArg Int32.toInt (zz_i e73)).trans (nzE n74)) ((zz_i e73).trans (rfl : ((sy_i F 70) - ((1 : Int32))) - (sy_i F 72) = ((sy_i F 70) - ((1 : Int32))) - (sy_i F 72))))
theorem zir_21_p0 {Ls : Nat} {xs : Nat → Int32} {d : Nat} {Q : Option Value → jm_h → Prop} (hd : 1 ≤ d) (F : Nat → sy_d) (X1 X2 : List jm_c) (hB : iv_in F iv_B4)
    (h0 : (sy_i F 73).toInt ≠ 0)
    (k : ∀ F1 : Nat → sy_d, (∀ j, j < 69 → True → F1 j = F j) → F1 69 = .inl (.int (sy_i F 69)) → F1 70 = .inl (.int (sy_i F 70)) → F1 71 = .inl (.int (sy_i F 71)) → F1 72 = .inl (.int (sy_i F 72)) → F1 73 = .inl (.int (((sy_i F 69) / (sy_i F 73)) - ((sy_i F 69) / (sy_i F 73)) / ((7 : Int32)) * ((7 : Int32)))) → hd_W Ls xs d jm_M231 Q (25, sy_dL F1 [some (.inl (.ref 1000)), some (.inr (.inl 69)), some (.inr (.inl 70)), some (.inr (.inl 71)), some (.inr (.inl 72)), none], sy_dS F1 [.inr (.inl 73)], sy_dh F1 X1 X2 (iv_H 4), 0, 0)) :
    hd_W Ls xs d jm_M231 Q (21, sy_dL F [some (.inl (.ref 1000)), some (.inr (.inl 69)), some (.inr (.inl 70)), some (.inr (.inl 71)), some (.inr (.inl 72)), none], sy_dS F [.inr (.inl 73), .inr (.inl 69)], sy_dh F X1 X2 (iv_H 4), 0, 0) := by
  refine hd_run (s := 4) (nv := 74) (pc := 25) (L := [some (.inl (.ref 1000)), some (.inr (.inl 69)), some (.inr (.inl 70)), some (.inr (.inl 71)), some (.inr (.inl 72)), none]) (S := [.inr (.inl 73)]) (uh := hd_ov (iv_id 0 iv_B4) []) (ul := [.inl (.inr (.inl 69)), .inl (.inr (.inl 70)), .inl (.inr (.inl 71)), .inl (.inr (.inl 72)), .inl (.inr (.inl 75))]) (f := false) (sp := [25]) (d0 := 0) (O := []) (T := [(9, [.inr (.inl 69), .inr (.inl 73)], []), (10, [.inr (.inl 74), .inl (.int 7)], [])]) (P := [(1, .inr (.inl 73), .inl (.int 0)), (1, .inl (.int 7), .inl (.int 0))]) jm_ok231 (by decide +kernel) (by decide +kernel) hd F X1 X2 (fun F' hF hs => ?_)
  have b73 := hd_b (F := F) (F' := F') (k := 73) (hF 73 (by decide))
  have b69 := hd_b (F := F) (F' := F') (k := 69) (hF 69 (by decide))
  have b70 := hd_b (F := F) (F' := F') (k := 70) (hF 70 (by decide))
  have b71 := hd_b (F := F) (F' := F') (k := 71) (hF 71 (by decide))
  have b72 := hd_b (F := F) (F' := F') (k := 72) (hF 72 (by decide))
  have t74 : sy_dv F' (.inr (.inl 74)) = .int ((sy_i F 69) / (sy_i F 73)) := hd_o (hs 0 _ rfl) b69 b73 rfl
  have t75 : sy_dv F' (.inr (.inl 75)) = .int (((sy_i F 69) / (sy_i F 73)) - ((sy_i F 69) / (sy_i F 73)) / ((7 : Int32)) * ((7 : Int32))) := hd_o (hs 1 _ rfl) t74 rfl rfl
  have hB' : iv_in F' iv_B4 := iv_in_eq hB (fun j hj => hF j (Nat.lt_of_lt_of_le hj (by decide +kernel)))
  refine ⟨List.forall_mem_cons.mpr ⟨hd_p1 b73 rfl (by have hc : ((0) : Int32).toInt = 0 := (by decide); omega), List.forall_mem_cons.mpr ⟨(hd_p1 (X := 7) (Y := 0) rfl rfl (by decide)), fun _ h => absurd h List.not_mem_nil⟩⟩, ?_⟩
  refine k _ ?_ ?_ ?_ ?_ ?_ ?_
  · exact fun j hj _ => (hd_keep hB' (Nat.lt_of_lt_of_le hj (by decide +kernel)) (by simp)).trans (hF j (Nat.lt_of_lt_of_le hj (by decide)))
  · exact hd_gi (x := .inr (.inl 69)) (by decide +kernel) b69
  · exact hd_gi (x := .inr (.inl 70)) (by decide +kernel) b70
  · exact hd_gi (x := .inr (.inl 71)) (by decide +kernel) b71
  · exact hd_gi (x := .inr (.inl 72)) (by decide +kernel) b72
  · exact hd_gi (x := .inr (.inl 75)) (by decide +kernel) t75
theorem zir_21 {Ls : Nat} {xs : Nat → Int32} {d : Nat} {Q : Option Value → jm_h → Prop} (hd : 1 ≤ d) (F : Nat → sy_d) (X1 X2 : List jm_c) (hB : iv_in F iv_B4)
    (a73 : 1 ≤ (sy_i F 73).toInt ∧ (sy_i F 73).toInt ≤ 823543)
    (k0 : ∀ F1 : Nat → sy_d, iv_in F1 iv_B4 → (∀ j, j < 69 → j ∉ ([] : List Nat) → F1 j = F j) → (sy_i F1 69).toInt = (sy_i F 69).toInt → sy_i F1 69 = sy_i F 69 → (sy_i F1 70).toInt = (sy_i F 70).toInt → sy_i F1 70 = sy_i F 70 → (sy_i F1 71).toInt = (sy_i F 71).toInt → sy_i F1 71 = sy_i F 71 → (sy_i F1 72).toInt = (sy_i F 72).toInt → sy_i F1 72 = sy_i F 72 → (sy_i F1 73).toInt = (((sy_i F 69) / (sy_i F 73)) - ((sy_i F 69) / (sy_i F 73)) / ((7 : Int32)) * ((7 : Int32))).toInt → sy_i F1 73 = ((sy_i F 69) / (sy_i F 73)) - ((sy_i F 69) / (sy_i F 73)) / ((7 : Int32)) * ((7 : Int32)) → hd_W Ls xs d jm_M231 Q (25, sy_dL F1 [some (.inl (.ref 1000)), some (.inr (.inl 69)), some (.inr (.inl 70)), some (.inr (.inl 71)), some (.inr (.inl 72)), none], sy_dS F1 [.inr (.inl 73)], sy_dh F1 X1 X2 (iv_H 4), 0, 0)) :
    hd_W Ls xs d jm_M231 Q (21, sy_dL F [some (.inl (.ref 1000)), some (.inr (.inl 69)), some (.inr (.inl 70)), some (.inr (.inl 71)), some (.inr (.inl 72)), none], sy_dS F [.inr (.inl 73), .inr (.inl 69)], sy_dh F X1 X2 (iv_H 4), 0, 0) := by
  have n75 : nzI (((sy_i F 69) / (sy_i F 73)) - ((sy_i F 69) / (sy_i F 73)) / ((7 : Int32)) * ((7 : Int32))) ((((sy_i F 69) / (sy_i F 73)) - ((sy_i F 69) / (sy_i F 73)) / ((7 : Int32)) * ((7 : Int32))).toInt) := congrArg Int32.toInt (rfl : ((sy_i F 69) / (sy_i F 73)) - ((sy_i F 69) / (sy_i F 73)) / ((7 : Int32)) * ((7 : Int32)) = ((sy_i F 69) / (sy_i F 73)) - ((sy_i F 69) / (sy_i F 73)) / ((7 : Int32)) * ((7 : Int32)))
  exact zir_21_p0 hd F X1 X2 hB (by first | exact (by omega) | (simp only [nz_c]; exact (by omega))) (fun F1 g e69 e70 e71 e72 e73 => k0 F1 (nz_in hB [] (fun j hj hn => g j hj (by simp only [List.mem_cons, List.not_mem_nil, or_false, not_or] at hn; exact trivial)) (List.forall_mem_nil _)) (fun j hj hn => g j hj (by simp only [List.mem_cons, List.not_mem_nil, or_false, not_or] at hn; exact trivial)) ((congrArg Int32.toInt (zz_i e69)).trans (rfl : (sy_i F 69).toInt = (sy_i F 69).toInt)) ((zz_i e69).trans (rfl : sy_i F 69 = sy_i F 69)) ((congrArg Int32.toInt (zz_i e70)).trans (rfl : (sy_i F 70).toInt = (sy_i F 70).toInt)) ((zz_i e70).trans (rfl : sy_i F 70 = sy_i F 70)) ((congrArg Int32.toInt (zz_i e71)).trans (rfl : (sy_i F 71).toInt = (sy_i F 71).toInt)) ((zz_i e71).trans (rfl : sy_i F 71 = sy_i F 71)) ((congrArg Int32.toInt (zz_i e72)).trans (rfl : (sy_i F 72).toInt = (sy_i F 72).toInt)) ((zz_i e72).trans (rfl : sy_i F 72 = sy_i F 72)) ((congrArg Int32.toInt (zz_i e73)).trans (nzE n75)) ((zz_i e73).trans (rfl : ((sy_i F 69) / (sy_i F 73)) - ((sy_i F 69) / (sy_i F 73)) / ((7 : Int32)) * ((7 : Int32)) = ((sy_i F 69) / (sy_i F 73)) - ((sy_i F 69) / (sy_i F 73)) / ((7 : Int32)) * ((7 : Int32)))))
theorem zir_25_p0 {Ls : Nat} {xs : Nat → Int32} {d : Nat} {Q : Option Value → jm_h → Prop} (hd : 3 ≤ d) (F : Nat → sy_d) (X1 X2 : List jm_c) (hB : iv_in F iv_B4)
    (h0 : 0 ≤ (sy_i F 11).toInt ∧ (sy_i F 11).toInt < 2)
    (h1 : 0 ≤ (sy_i F 73).toInt)
    (h2 : (((sy_ai F 31).getD (sy_i F 11).toNatClampNeg 0) - ((1 : Int32))).toInt < (sy_i F 73).toInt)
    (k : ∀ F1 : Nat → sy_d, (∀ j, j < 69 → True → F1 j = F j) → Q (some (.int ((0 : Int32)))) (sy_dh F1 X1 X2 (iv_H 4))) :
    hd_W Ls xs d jm_M231 Q (25, sy_dL F [some (.inl (.ref 1000)), some (.inr (.inl 69)), some (.inr (.inl 70)), some (.inr (.inl 71)), some (.inr (.inl 72)), none], sy_dS F [.inr (.inl 73)], sy_dh F X1 X2 (iv_H 4), 0, 0) := by
  refine hd_ret (s := 4) (nv := 74) (v := some (.inl (.int 0))) (uh := hd_ov (iv_id 0 iv_B4) []) (f := false) (sp := [5]) (d0 := 2) (O := [false, true]) (T := [(30, [.inr (.inl 11)], [.inr (.inl 31)]), (1, [.inr (.inl 74), .inl (.int 1)], [])]) (P := [(6, .inr (.inl 11), .inl (.ref 2)), (3, .inr (.inl 73), .inl (.int 0)), (2, .inr (.inl 75), .inr (.inl 73))]) jm_ok231 (by decide +kernel) (by decide +kernel) hd F X1 X2 (fun F' hF hs => ?_)
  have b11 := hd_b (F := F) (F' := F') (k := 11) (hF 11 (by decide))
  have b73 := hd_b (F := F) (F' := F') (k := 73) (hF 73 (by decide))
  have a31 := hd_ba (F := F) (F' := F') (k := 31) (hF 31 (by decide))
  have t74 : sy_dv F' (.inr (.inl 74)) = .int ((sy_ai F 31).getD (sy_i F 11).toNatClampNeg 0) := hd_rd (hs 0 _ rfl) b11 a31
  have t75 : sy_dv F' (.inr (.inl 75)) = .int (((sy_ai F 31).getD (sy_i F 11).toNatClampNeg 0) - ((1 : Int32))) := hd_o (hs 1 _ rfl) t74 rfl rfl
  have hB' : iv_in F' iv_B4 := iv_in_eq hB (fun j hj => hF j (Nat.lt_of_lt_of_le hj (by decide +kernel)))
  refine ⟨List.forall_mem_cons.mpr ⟨hd_pb b11 (by first | exact h0 | exact h0), List.forall_mem_cons.mpr ⟨hd_p3 b73 rfl (by have hc : ((0) : Int32).toInt = 0 := (by decide); omega), List.forall_mem_cons.mpr ⟨hd_p2 t75 b73 h2, fun _ h => absurd h List.not_mem_nil⟩⟩⟩, ?_⟩
  refine k _ ?_
  · exact fun j hj _ => (hd_keep hB' (Nat.lt_of_lt_of_le hj (by decide +kernel)) (by simp)).trans (hF j (Nat.lt_of_lt_of_le hj (by decide)))
theorem zir_25_p1 {Ls : Nat} {xs : Nat → Int32} {d : Nat} {Q : Option Value → jm_h → Prop} (hd : 3 ≤ d) (F : Nat → sy_d) (X1 X2 : List jm_c) (hB : iv_in F iv_B4)
    (h0 : 0 ≤ (sy_i F 11).toInt ∧ (sy_i F 11).toInt < 2)
    (h1 : 0 ≤ (sy_i F 73).toInt)
    (h2 : (sy_i F 73).toInt ≤ (((sy_ai F 31).getD (sy_i F 11).toNatClampNeg 0) - ((1 : Int32))).toInt)
    (h3 : (((sy_i F 71) >>> ((sy_i F 73) &&& 31)) &&& ((1 : Int32))).toInt = 1)
    (k : ∀ F1 : Nat → sy_d, (∀ j, j < 69 → True → F1 j = F j) → Q (some (.int ((0 : Int32)))) (sy_dh F1 X1 X2 (iv_H 4))) :
    hd_W Ls xs d jm_M231 Q (25, sy_dL F [some (.inl (.ref 1000)), some (.inr (.inl 69)), some (.inr (.inl 70)), some (.inr (.inl 71)), some (.inr (.inl 72)), none], sy_dS F [.inr (.inl 73)], sy_dh F X1 X2 (iv_H 4), 0, 0) := by
  refine hd_ret (s := 4) (nv := 74) (v := some (.inl (.int 0))) (uh := hd_ov (iv_id 0 iv_B4) []) (f := false) (sp := [5]) (d0 := 2) (O := [false, false, true]) (T := [(30, [.inr (.inl 11)], [.inr (.inl 31)]), (1, [.inr (.inl 74), .inl (.int 1)], []), (7, [.inr (.inl 71), .inr (.inl 73)], []), (3, [.inr (.inl 76), .inl (.int 1)], [])]) (P := [(6, .inr (.inl 11), .inl (.ref 2)), (3, .inr (.inl 73), .inl (.int 0)), (3, .inr (.inl 75), .inr (.inl 73)), (0, .inr (.inl 77), .inl (.int 1))]) jm_ok231 (by decide +kernel) (by decide +kernel) hd F X1 X2 (fun F' hF hs => ?_)
  have b11 := hd_b (F := F) (F' := F') (k := 11) (hF 11 (by decide))
  have b73 := hd_b (F := F) (F' := F') (k := 73) (hF 73 (by decide))
  have a31 := hd_ba (F := F) (F' := F') (k := 31) (hF 31 (by decide))
  have t74 : sy_dv F' (.inr (.inl 74)) = .int ((sy_ai F 31).getD (sy_i F 11).toNatClampNeg 0) := hd_rd (hs 0 _ rfl) b11 a31
  have t75 : sy_dv F' (.inr (.inl 75)) = .int (((sy_ai F 31).getD (sy_i F 11).toNatClampNeg 0) - ((1 : Int32))) := hd_o (hs 1 _ rfl) t74 rfl rfl
  have b71 := hd_b (F := F) (F' := F') (k := 71) (hF 71 (by decide))
  have t76 : sy_dv F' (.inr (.inl 76)) = .int ((sy_i F 71) >>> ((sy_i F 73) &&& 31)) := hd_o (hs 2 _ rfl) b71 b73 rfl
  have t77 : sy_dv F' (.inr (.inl 77)) = .int (((sy_i F 71) >>> ((sy_i F 73) &&& 31)) &&& ((1 : Int32))) := hd_o (hs 3 _ rfl) t76 rfl rfl
  have hB' : iv_in F' iv_B4 := iv_in_eq hB (fun j hj => hF j (Nat.lt_of_lt_of_le hj (by decide +kernel)))
  refine ⟨List.forall_mem_cons.mpr ⟨hd_pb b11 (by first | exact h0 | exact h0), List.forall_mem_cons.mpr ⟨hd_p3 b73 rfl (by have hc : ((0) : Int32).toInt = 0 := (by decide); omega), List.forall_mem_cons.mpr ⟨hd_p3 t75 b73 h2, List.forall_mem_cons.mpr ⟨hd_p0 t77 rfl (by have hc : ((1) : Int32).toInt = 1 := (by decide); omega), fun _ h => absurd h List.not_mem_nil⟩⟩⟩⟩, ?_⟩
  refine k _ ?_
  · exact fun j hj _ => (hd_keep hB' (Nat.lt_of_lt_of_le hj (by decide +kernel)) (by simp)).trans (hF j (Nat.lt_of_lt_of_le hj (by decide)))
theorem zir_25_p2 {Ls : Nat} {xs : Nat → Int32} {d : Nat} {Q : Option Value → jm_h → Prop} (hd : 3 ≤ d) (F : Nat → sy_d) (X1 X2 : List jm_c) (hB : iv_in F iv_B4)
    (h0 : 0 ≤ (sy_i F 11).toInt ∧ (sy_i F 11).toInt < 2)
    (h1 : 0 ≤ (sy_i F 73).toInt)
    (h2 : (sy_i F 73).toInt ≤ (((sy_ai F 31).getD (sy_i F 11).toNatClampNeg 0) - ((1 : Int32))).toInt)
    (h3 : (((sy_i F 71) >>> ((sy_i F 73) &&& 31)) &&& ((1 : Int32))).toInt ≠ 1)
    (h4 : 0 ≤ ((((7 : Int32)) * (sy_i F 11)) + (sy_i F 73)).toInt ∧ ((((7 : Int32)) * (sy_i F 11)) + (sy_i F 73)).toInt < 14)
    (h5 : 0 ≤ (sy_i F 72).toInt ∧ (sy_i F 72).toInt < 7)
    (h6 : ((sy_ai F 33).getD ((((7 : Int32)) * (sy_i F 11)) + (sy_i F 73)).toNatClampNeg 0).toInt ≠ ((sy_ai F 63).getD (sy_i F 72).toNatClampNeg 0).toInt)
    (k : ∀ F1 : Nat → sy_d, (∀ j, j < 69 → True → F1 j = F j) → Q (some (.int ((0 : Int32)))) (sy_dh F1 X1 X2 (iv_H 4))) :
    hd_W Ls xs d jm_M231 Q (25, sy_dL F [some (.inl (.ref 1000)), some (.inr (.inl 69)), some (.inr (.inl 70)), some (.inr (.inl 71)), some (.inr (.inl 72)), none], sy_dS F [.inr (.inl 73)], sy_dh F X1 X2 (iv_H 4), 0, 0) := by
  refine hd_ret (s := 4) (nv := 74) (v := some (.inl (.int 0))) (uh := hd_ov (iv_id 0 iv_B4) []) (f := false) (sp := [5]) (d0 := 2) (O := [false, false, false, true]) (T := [(30, [.inr (.inl 11)], [.inr (.inl 31)]), (1, [.inr (.inl 74), .inl (.int 1)], []), (7, [.inr (.inl 71), .inr (.inl 73)], []), (3, [.inr (.inl 76), .inl (.int 1)], []), (2, [.inl (.int 7), .inr (.inl 11)], []), (0, [.inr (.inl 78), .inr (.inl 73)], []), (30, [.inr (.inl 79)], [.inr (.inl 33)]), (30, [.inr (.inl 72)], [.inr (.inl 63)])]) (P := [(6, .inr (.inl 11), .inl (.ref 2)), (3, .inr (.inl 73), .inl (.int 0)), (3, .inr (.inl 75), .inr (.inl 73)), (1, .inr (.inl 77), .inl (.int 1)), (6, .inr (.inl 79), .inl (.ref 14)), (6, .inr (.inl 72), .inl (.ref 7)), (1, .inr (.inl 80), .inr (.inl 81))]) jm_ok231 (by decide +kernel) (by decide +kernel) hd F X1 X2 (fun F' hF hs => ?_)
  have b11 := hd_b (F := F) (F' := F') (k := 11) (hF 11 (by decide))
  have b73 := hd_b (F := F) (F' := F') (k := 73) (hF 73 (by decide))
  have a31 := hd_ba (F := F) (F' := F') (k := 31) (hF 31 (by decide))
  have t74 : sy_dv F' (.inr (.inl 74)) = .int ((sy_ai F 31).getD (sy_i F 11).toNatClampNeg 0) := hd_rd (hs 0 _ rfl) b11 a31
  have t75 : sy_dv F' (.inr (.inl 75)) = .int (((sy_ai F 31).getD (sy_i F 11).toNatClampNeg 0) - ((1 : Int32))) := hd_o (hs 1 _ rfl) t74 rfl rfl
  have b71 := hd_b (F := F) (F' := F') (k := 71) (hF 71 (by decide))
  have t76 : sy_dv F' (.inr (.inl 76)) = .int ((sy_i F 71) >>> ((sy_i F 73) &&& 31)) := hd_o (hs 2 _ rfl) b71 b73 rfl
  have t77 : sy_dv F' (.inr (.inl 77)) = .int (((sy_i F 71) >>> ((sy_i F 73) &&& 31)) &&& ((1 : Int32))) := hd_o (hs 3 _ rfl) t76 rfl rfl
  have t78 : sy_dv F' (.inr (.inl 78)) = .int (((7 : Int32)) * (sy_i F 11)) := hd_o (hs 4 _ rfl) rfl b11 rfl
  have t79 : sy_dv F' (.inr (.inl 79)) = .int ((((7 : Int32)) * (sy_i F 11)) + (sy_i F 73)) := hd_o (hs 5 _ rfl) t78 b73 rfl
  have b72 := hd_b (F := F) (F' := F') (k := 72) (hF 72 (by decide))
  have a33 := hd_ba (F := F) (F' := F') (k := 33) (hF 33 (by decide))
  have t80 : sy_dv F' (.inr (.inl 80)) = .int ((sy_ai F 33).getD ((((7 : Int32)) * (sy_i F 11)) + (sy_i F 73)).toNatClampNeg 0) := hd_rd (hs 6 _ rfl) t79 a33
  have a63 := hd_ba (F := F) (F' := F') (k := 63) (hF 63 (by decide))
  have t81 : sy_dv F' (.inr (.inl 81)) = .int ((sy_ai F 63).getD (sy_i F 72).toNatClampNeg 0) := hd_rd (hs 7 _ rfl) b72 a63
  have hB' : iv_in F' iv_B4 := iv_in_eq hB (fun j hj => hF j (Nat.lt_of_lt_of_le hj (by decide +kernel)))
  refine ⟨List.forall_mem_cons.mpr ⟨hd_pb b11 (by first | exact h0 | exact h0), List.forall_mem_cons.mpr ⟨hd_p3 b73 rfl (by have hc : ((0) : Int32).toInt = 0 := (by decide); omega), List.forall_mem_cons.mpr ⟨hd_p3 t75 b73 h2, List.forall_mem_cons.mpr ⟨hd_p1 t77 rfl (by have hc : ((1) : Int32).toInt = 1 := (by decide); omega), List.forall_mem_cons.mpr ⟨hd_pb t79 (by first | exact h4 | exact h4), List.forall_mem_cons.mpr ⟨hd_pb b72 (by first | exact h5 | exact h5), List.forall_mem_cons.mpr ⟨hd_p1 t80 t81 h6, fun _ h => absurd h List.not_mem_nil⟩⟩⟩⟩⟩⟩⟩, ?_⟩
  refine k _ ?_
  · exact fun j hj _ => (hd_keep hB' (Nat.lt_of_lt_of_le hj (by decide +kernel)) (by simp)).trans (hF j (Nat.lt_of_lt_of_le hj (by decide)))
theorem zir_25_p3 {Ls : Nat} {xs : Nat → Int32} {d : Nat} {Q : Option Value → jm_h → Prop} (hd : 3 ≤ d) (F : Nat → sy_d) (X1 X2 : List jm_c) (hB : iv_in F iv_B4)
    (h0 : 0 ≤ (sy_i F 11).toInt ∧ (sy_i F 11).toInt < 2)
    (h1 : 0 ≤ (sy_i F 73).toInt)
    (h2 : (sy_i F 73).toInt ≤ (((sy_ai F 31).getD (sy_i F 11).toNatClampNeg 0) - ((1 : Int32))).toInt)
    (h3 : (((sy_i F 71) >>> ((sy_i F 73) &&& 31)) &&& ((1 : Int32))).toInt ≠ 1)
    (h4 : 0 ≤ ((((7 : Int32)) * (sy_i F 11)) + (sy_i F 73)).toInt ∧ ((((7 : Int32)) * (sy_i F 11)) + (sy_i F 73)).toInt < 14)
    (h5 : 0 ≤ (sy_i F 72).toInt ∧ (sy_i F 72).toInt < 7)
    (h6 : ((sy_ai F 33).getD ((((7 : Int32)) * (sy_i F 11)) + (sy_i F 73)).toNatClampNeg 0).toInt = ((sy_ai F 63).getD (sy_i F 72).toNatClampNeg 0).toInt)
    (h7 : 0 ≤ (sy_i F 73).toInt ∧ (sy_i F 73).toInt < 7)
    (h8 : 0 ≤ (sy_i F 72).toInt ∧ (sy_i F 72).toInt < 7)
    (h9 : ((sy_ai F 65).getD (sy_i F 73).toNatClampNeg 0).toInt = ((sy_ai F 64).getD (sy_i F 72).toNatClampNeg 0).toInt)
    (k : ∀ F1 : Nat → sy_d, (∀ j, j < 69 → True → F1 j = F j) → F1 69 = .inl (.int (sy_i F 69)) → F1 70 = .inl (.int (sy_i F 70)) → F1 71 = .inl (.int ((sy_i F 71) ||| (((1 : Int32)) <<< ((sy_i F 73) &&& 31)))) → F1 72 = .inl (.int ((sy_i F 72) + ((1 : Int32)))) → hd_W Ls xs d jm_M231 Q (5, sy_dL F1 [some (.inl (.ref 1000)), some (.inr (.inl 69)), some (.inr (.inl 70)), some (.inr (.inl 71)), some (.inr (.inl 72)), none], sy_dS F1 [], sy_dh F1 X1 X2 (iv_H 4), 0, 0)) :
    hd_W Ls xs d jm_M231 Q (25, sy_dL F [some (.inl (.ref 1000)), some (.inr (.inl 69)), some (.inr (.inl 70)), some (.inr (.inl 71)), some (.inr (.inl 72)), none], sy_dS F [.inr (.inl 73)], sy_dh F X1 X2 (iv_H 4), 0, 0) := by
  refine hd_run (s := 4) (nv := 74) (pc := 5) (L := [some (.inl (.ref 1000)), some (.inr (.inl 69)), some (.inr (.inl 70)), some (.inr (.inl 71)), some (.inr (.inl 72)), none]) (S := []) (uh := hd_ov (iv_id 0 iv_B4) []) (ul := [.inl (.inr (.inl 69)), .inl (.inr (.inl 70)), .inl (.inr (.inl 85)), .inl (.inr (.inl 86))]) (f := false) (sp := [5]) (d0 := 2) (O := [false, false, false, false, true]) (T := [(30, [.inr (.inl 11)], [.inr (.inl 31)]), (1, [.inr (.inl 74), .inl (.int 1)], []), (7, [.inr (.inl 71), .inr (.inl 73)], []), (3, [.inr (.inl 76), .inl (.int 1)], []), (2, [.inl (.int 7), .inr (.inl 11)], []), (0, [.inr (.inl 78), .inr (.inl 73)], []), (30, [.inr (.inl 79)], [.inr (.inl 33)]), (30, [.inr (.inl 72)], [.inr (.inl 63)]), (30, [.inr (.inl 73)], [.inr (.inl 65)]), (30, [.inr (.inl 72)], [.inr (.inl 64)]), (6, [.inl (.int 1), .inr (.inl 73)], []), (4, [.inr (.inl 71), .inr (.inl 84)], []), (0, [.inr (.inl 72), .inl (.int 1)], [])]) (P := [(6, .inr (.inl 11), .inl (.ref 2)), (3, .inr (.inl 73), .inl (.int 0)), (3, .inr (.inl 75), .inr (.inl 73)), (1, .inr (.inl 77), .inl (.int 1)), (6, .inr (.inl 79), .inl (.ref 14)), (6, .inr (.inl 72), .inl (.ref 7)), (0, .inr (.inl 80), .inr (.inl 81)), (6, .inr (.inl 73), .inl (.ref 7)), (6, .inr (.inl 72), .inl (.ref 7)), (0, .inr (.inl 82), .inr (.inl 83))]) jm_ok231 (by decide +kernel) (by decide +kernel) hd F X1 X2 (fun F' hF hs => ?_)
  have b11 := hd_b (F := F) (F' := F') (k := 11) (hF 11 (by decide))
  have b73 := hd_b (F := F) (F' := F') (k := 73) (hF 73 (by decide))
  have a31 := hd_ba (F := F) (F' := F') (k := 31) (hF 31 (by decide))
  have t74 : sy_dv F' (.inr (.inl 74)) = .int ((sy_ai F 31).getD (sy_i F 11).toNatClampNeg 0) := hd_rd (hs 0 _ rfl) b11 a31
  have t75 : sy_dv F' (.inr (.inl 75)) = .int (((sy_ai F 31).getD (sy_i F 11).toNatClampNeg 0) - ((1 : Int32))) := hd_o (hs 1 _ rfl) t74 rfl rfl
  have b71 := hd_b (F := F) (F' := F') (k := 71) (hF 71 (by decide))
  have t76 : sy_dv F' (.inr (.inl 76)) = .int ((sy_i F 71) >>> ((sy_i F 73) &&& 31)) := hd_o (hs 2 _ rfl) b71 b73 rfl
  have t77 : sy_dv F' (.inr (.inl 77)) = .int (((sy_i F 71) >>> ((sy_i F 73) &&& 31)) &&& ((1 : Int32))) := hd_o (hs 3 _ rfl) t76 rfl rfl
  have t78 : sy_dv F' (.inr (.inl 78)) = .int (((7 : Int32)) * (sy_i F 11)) := hd_o (hs 4 _ rfl) rfl b11 rfl
  have t79 : sy_dv F' (.inr (.inl 79)) = .int ((((7 : Int32)) * (sy_i F 11)) + (sy_i F 73)) := hd_o (hs 5 _ rfl) t78 b73 rfl
  have b72 := hd_b (F := F) (F' := F') (k := 72) (hF 72 (by decide))
  have a33 := hd_ba (F := F) (F' := F') (k := 33) (hF 33 (by decide))
  have t80 : sy_dv F' (.inr (.inl 80)) = .int ((sy_ai F 33).getD ((((7 : Int32)) * (sy_i F 11)) + (sy_i F 73)).toNatClampNeg 0) := hd_rd (hs 6 _ rfl) t79 a33
  have a63 := hd_ba (F := F) (F' := F') (k := 63) (hF 63 (by decide))
  have t81 : sy_dv F' (.inr (.inl 81)) = .int ((sy_ai F 63).getD (sy_i F 72).toNatClampNeg 0) := hd_rd (hs 7 _ rfl) b72 a63
  have a65 := hd_ba (F := F) (F' := F') (k := 65) (hF 65 (by decide))
  have t82 : sy_dv F' (.inr (.inl 82)) = .int ((sy_ai F 65).getD (sy_i F 73).toNatClampNeg 0) := hd_rd (hs 8 _ rfl) b73 a65
  have a64 := hd_ba (F := F) (F' := F') (k := 64) (hF 64 (by decide))
  have t83 : sy_dv F' (.inr (.inl 83)) = .int ((sy_ai F 64).getD (sy_i F 72).toNatClampNeg 0) := hd_rd (hs 9 _ rfl) b72 a64
  have b69 := hd_b (F := F) (F' := F') (k := 69) (hF 69 (by decide))
  have b70 := hd_b (F := F) (F' := F') (k := 70) (hF 70 (by decide))
  have t84 : sy_dv F' (.inr (.inl 84)) = .int (((1 : Int32)) <<< ((sy_i F 73) &&& 31)) := hd_o (hs 10 _ rfl) rfl b73 rfl
  have t85 : sy_dv F' (.inr (.inl 85)) = .int ((sy_i F 71) ||| (((1 : Int32)) <<< ((sy_i F 73) &&& 31))) := hd_o (hs 11 _ rfl) b71 t84 rfl
  have t86 : sy_dv F' (.inr (.inl 86)) = .int ((sy_i F 72) + ((1 : Int32))) := hd_o (hs 12 _ rfl) b72 rfl rfl
  have hB' : iv_in F' iv_B4 := iv_in_eq hB (fun j hj => hF j (Nat.lt_of_lt_of_le hj (by decide +kernel)))
  refine ⟨List.forall_mem_cons.mpr ⟨hd_pb b11 (by first | exact h0 | exact h0), List.forall_mem_cons.mpr ⟨hd_p3 b73 rfl (by have hc : ((0) : Int32).toInt = 0 := (by decide); omega), List.forall_mem_cons.mpr ⟨hd_p3 t75 b73 h2, List.forall_mem_cons.mpr ⟨hd_p1 t77 rfl (by have hc : ((1) : Int32).toInt = 1 := (by decide); omega), List.forall_mem_cons.mpr ⟨hd_pb t79 (by first | exact h4 | exact h4), List.forall_mem_cons.mpr ⟨hd_pb b72 (by first | exact h5 | exact h5), List.forall_mem_cons.mpr ⟨hd_p0 t80 t81 h6, List.forall_mem_cons.mpr ⟨hd_pb b73 (by first | exact h7 | exact h7), List.forall_mem_cons.mpr ⟨hd_pb b72 (by first | exact h8 | exact h8), List.forall_mem_cons.mpr ⟨hd_p0 t82 t83 h9, fun _ h => absurd h List.not_mem_nil⟩⟩⟩⟩⟩⟩⟩⟩⟩⟩, ?_⟩
  refine k _ ?_ ?_ ?_ ?_ ?_
  · exact fun j hj _ => (hd_keep hB' (Nat.lt_of_lt_of_le hj (by decide +kernel)) (by simp)).trans (hF j (Nat.lt_of_lt_of_le hj (by decide)))
  · exact hd_gi (x := .inr (.inl 69)) (by decide +kernel) b69
  · exact hd_gi (x := .inr (.inl 70)) (by decide +kernel) b70
  · exact hd_gi (x := .inr (.inl 85)) (by decide +kernel) t85
  · exact hd_gi (x := .inr (.inl 86)) (by decide +kernel) t86
theorem zir_25_p4 {Ls : Nat} {xs : Nat → Int32} {d : Nat} {Q : Option Value → jm_h → Prop} (hd : 3 ≤ d) (F : Nat → sy_d) (X1 X2 : List jm_c) (hB : iv_in F iv_B4)
    (h0 : 0 ≤ (sy_i F 11).toInt ∧ (sy_i F 11).toInt < 2)
    (h1 : 0 ≤ (sy_i F 73).toInt)
    (h2 : (sy_i F 73).toInt ≤ (((sy_ai F 31).getD (sy_i F 11).toNatClampNeg 0) - ((1 : Int32))).toInt)
    (h3 : (((sy_i F 71) >>> ((sy_i F 73) &&& 31)) &&& ((1 : Int32))).toInt ≠ 1)
    (h4 : 0 ≤ ((((7 : Int32)) * (sy_i F 11)) + (sy_i F 73)).toInt ∧ ((((7 : Int32)) * (sy_i F 11)) + (sy_i F 73)).toInt < 14)
    (h5 : 0 ≤ (sy_i F 72).toInt ∧ (sy_i F 72).toInt < 7)
    (h6 : ((sy_ai F 33).getD ((((7 : Int32)) * (sy_i F 11)) + (sy_i F 73)).toNatClampNeg 0).toInt = ((sy_ai F 63).getD (sy_i F 72).toNatClampNeg 0).toInt)
    (h7 : 0 ≤ (sy_i F 73).toInt ∧ (sy_i F 73).toInt < 7)
    (h8 : 0 ≤ (sy_i F 72).toInt ∧ (sy_i F 72).toInt < 7)
    (h9 : ((sy_ai F 65).getD (sy_i F 73).toNatClampNeg 0).toInt ≠ ((sy_ai F 64).getD (sy_i F 72).toNatClampNeg 0).toInt)
    (k : ∀ F1 : Nat → sy_d, (∀ j, j < 69 → True → F1 j = F j) → Q (some (.int ((0 : Int32)))) (sy_dh F1 X1 X2 (iv_H 4))) :
    hd_W Ls xs d jm_M231 Q (25, sy_dL F [some (.inl (.ref 1000)), some (.inr (.inl 69)), some (.inr (.inl 70)), some (.inr (.inl 71)), some (.inr (.inl 72)), none], sy_dS F [.inr (.inl 73)], sy_dh F X1 X2 (iv_H 4), 0, 0) := by
  refine hd_ret (s := 4) (nv := 74) (v := some (.inl (.int 0))) (uh := hd_ov (iv_id 0 iv_B4) []) (f := false) (sp := [5]) (d0 := 2) (O := [false, false, false, false, false]) (T := [(30, [.inr (.inl 11)], [.inr (.inl 31)]), (1, [.inr (.inl 74), .inl (.int 1)], []), (7, [.inr (.inl 71), .inr (.inl 73)], []), (3, [.inr (.inl 76), .inl (.int 1)], []), (2, [.inl (.int 7), .inr (.inl 11)], []), (0, [.inr (.inl 78), .inr (.inl 73)], []), (30, [.inr (.inl 79)], [.inr (.inl 33)]), (30, [.inr (.inl 72)], [.inr (.inl 63)]), (30, [.inr (.inl 73)], [.inr (.inl 65)]), (30, [.inr (.inl 72)], [.inr (.inl 64)])]) (P := [(6, .inr (.inl 11), .inl (.ref 2)), (3, .inr (.inl 73), .inl (.int 0)), (3, .inr (.inl 75), .inr (.inl 73)), (1, .inr (.inl 77), .inl (.int 1)), (6, .inr (.inl 79), .inl (.ref 14)), (6, .inr (.inl 72), .inl (.ref 7)), (0, .inr (.inl 80), .inr (.inl 81)), (6, .inr (.inl 73), .inl (.ref 7)), (6, .inr (.inl 72), .inl (.ref 7)), (1, .inr (.inl 82), .inr (.inl 83))]) jm_ok231 (by decide +kernel) (by decide +kernel) hd F X1 X2 (fun F' hF hs => ?_)
  have b11 := hd_b (F := F) (F' := F') (k := 11) (hF 11 (by decide))
  have b73 := hd_b (F := F) (F' := F') (k := 73) (hF 73 (by decide))
  have a31 := hd_ba (F := F) (F' := F') (k := 31) (hF 31 (by decide))
  have t74 : sy_dv F' (.inr (.inl 74)) = .int ((sy_ai F 31).getD (sy_i F 11).toNatClampNeg 0) := hd_rd (hs 0 _ rfl) b11 a31
  have t75 : sy_dv F' (.inr (.inl 75)) = .int (((sy_ai F 31).getD (sy_i F 11).toNatClampNeg 0) - ((1 : Int32))) := hd_o (hs 1 _ rfl) t74 rfl rfl
  have b71 := hd_b (F := F) (F' := F') (k := 71) (hF 71 (by decide))
  have t76 : sy_dv F' (.inr (.inl 76)) = .int ((sy_i F 71) >>> ((sy_i F 73) &&& 31)) := hd_o (hs 2 _ rfl) b71 b73 rfl
  have t77 : sy_dv F' (.inr (.inl 77)) = .int (((sy_i F 71) >>> ((sy_i F 73) &&& 31)) &&& ((1 : Int32))) := hd_o (hs 3 _ rfl) t76 rfl rfl
  have t78 : sy_dv F' (.inr (.inl 78)) = .int (((7 : Int32)) * (sy_i F 11)) := hd_o (hs 4 _ rfl) rfl b11 rfl
  have t79 : sy_dv F' (.inr (.inl 79)) = .int ((((7 : Int32)) * (sy_i F 11)) + (sy_i F 73)) := hd_o (hs 5 _ rfl) t78 b73 rfl
  have b72 := hd_b (F := F) (F' := F') (k := 72) (hF 72 (by decide))
  have a33 := hd_ba (F := F) (F' := F') (k := 33) (hF 33 (by decide))
  have t80 : sy_dv F' (.inr (.inl 80)) = .int ((sy_ai F 33).getD ((((7 : Int32)) * (sy_i F 11)) + (sy_i F 73)).toNatClampNeg 0) := hd_rd (hs 6 _ rfl) t79 a33
  have a63 := hd_ba (F := F) (F' := F') (k := 63) (hF 63 (by decide))
  have t81 : sy_dv F' (.inr (.inl 81)) = .int ((sy_ai F 63).getD (sy_i F 72).toNatClampNeg 0) := hd_rd (hs 7 _ rfl) b72 a63
  have a65 := hd_ba (F := F) (F' := F') (k := 65) (hF 65 (by decide))
  have t82 : sy_dv F' (.inr (.inl 82)) = .int ((sy_ai F 65).getD (sy_i F 73).toNatClampNeg 0) := hd_rd (hs 8 _ rfl) b73 a65
  have a64 := hd_ba (F := F) (F' := F') (k := 64) (hF 64 (by decide))
  have t83 : sy_dv F' (.inr (.inl 83)) = .int ((sy_ai F 64).getD (sy_i F 72).toNatClampNeg 0) := hd_rd (hs 9 _ rfl) b72 a64
  have hB' : iv_in F' iv_B4 := iv_in_eq hB (fun j hj => hF j (Nat.lt_of_lt_of_le hj (by decide +kernel)))
  refine ⟨List.forall_mem_cons.mpr ⟨hd_pb b11 (by first | exact h0 | exact h0), List.forall_mem_cons.mpr ⟨hd_p3 b73 rfl (by have hc : ((0) : Int32).toInt = 0 := (by decide); omega), List.forall_mem_cons.mpr ⟨hd_p3 t75 b73 h2, List.forall_mem_cons.mpr ⟨hd_p1 t77 rfl (by have hc : ((1) : Int32).toInt = 1 := (by decide); omega), List.forall_mem_cons.mpr ⟨hd_pb t79 (by first | exact h4 | exact h4), List.forall_mem_cons.mpr ⟨hd_pb b72 (by first | exact h5 | exact h5), List.forall_mem_cons.mpr ⟨hd_p0 t80 t81 h6, List.forall_mem_cons.mpr ⟨hd_pb b73 (by first | exact h7 | exact h7), List.forall_mem_cons.mpr ⟨hd_pb b72 (by first | exact h8 | exact h8), List.forall_mem_cons.mpr ⟨hd_p1 t82 t83 h9, fun _ h => absurd h List.not_mem_nil⟩⟩⟩⟩⟩⟩⟩⟩⟩⟩, ?_⟩
  refine k _ ?_
  · exact fun j hj _ => (hd_keep hB' (Nat.lt_of_lt_of_le hj (by decide +kernel)) (by simp)).trans (hF j (Nat.lt_of_lt_of_le hj (by decide)))
theorem zir_25 {Ls : Nat} {xs : Nat → Int32} {d : Nat} {Q : Option Value → jm_h → Prop} (hd : 3 ≤ d) (F : Nat → sy_d) (X1 X2 : List jm_c) (hB : iv_in F iv_B4)
    (a70 : 0 ≤ (sy_i F 70).toInt ∧ (sy_i F 70).toInt ≤ 7)
    (a72 : 0 ≤ (sy_i F 72).toInt ∧ (sy_i F 72).toInt ≤ 6)
    (a73 : 0 ≤ (sy_i F 73).toInt ∧ (sy_i F 73).toInt ≤ 6)
    (k0 : 0 ≤ (sy_i F 73).toInt → (((sy_ai F 31).getD ((sy_i F 11).toInt).toNat 0).toInt - 1) < (sy_i F 73).toInt → ∀ F1 : Nat → sy_d, iv_in F1 iv_B4 → (∀ j, j < 69 → j ∉ ([] : List Nat) → F1 j = F j) → Q (some (.int ((0 : Int32)))) (sy_dh F1 X1 X2 (iv_H 4)))
    (k1 : 0 ≤ (sy_i F 73).toInt → (sy_i F 73).toInt ≤ (((sy_ai F 31).getD ((sy_i F 11).toInt).toNat 0).toInt - 1) → oq ((((sy_i F 71) >>> ((sy_i F 73) &&& 31)) &&& ((1 : Int32))).toInt) (1) → ∀ F1 : Nat → sy_d, iv_in F1 iv_B4 → (∀ j, j < 69 → j ∉ ([] : List Nat) → F1 j = F j) → Q (some (.int ((0 : Int32)))) (sy_dh F1 X1 X2 (iv_H 4)))
    (k2 : 0 ≤ (sy_i F 73).toInt → (sy_i F 73).toInt ≤ (((sy_ai F 31).getD ((sy_i F 11).toInt).toNat 0).toInt - 1) → ¬ oq ((((sy_i F 71) >>> ((sy_i F 73) &&& 31)) &&& ((1 : Int32))).toInt) (1) → ((sy_ai F 33).getD (((7 * (sy_i F 11).toInt) + (sy_i F 73).toInt)).toNat 0).toInt ≠ ((sy_ai F 63).getD ((sy_i F 72).toInt).toNat 0).toInt → ∀ F1 : Nat → sy_d, iv_in F1 iv_B4 → (∀ j, j < 69 → j ∉ ([] : List Nat) → F1 j = F j) → Q (some (.int ((0 : Int32)))) (sy_dh F1 X1 X2 (iv_H 4)))
    (k3 : 0 ≤ (sy_i F 73).toInt → (sy_i F 73).toInt ≤ (((sy_ai F 31).getD ((sy_i F 11).toInt).toNat 0).toInt - 1) → ¬ oq ((((sy_i F 71) >>> ((sy_i F 73) &&& 31)) &&& ((1 : Int32))).toInt) (1) → ((sy_ai F 33).getD (((7 * (sy_i F 11).toInt) + (sy_i F 73).toInt)).toNat 0).toInt = ((sy_ai F 63).getD ((sy_i F 72).toInt).toNat 0).toInt → ((sy_ai F 65).getD ((sy_i F 73).toInt).toNat 0).toInt = ((sy_ai F 64).getD ((sy_i F 72).toInt).toNat 0).toInt → ∀ F1 : Nat → sy_d, iv_in F1 iv_B4 → (∀ j, j < 69 → j ∉ ([] : List Nat) → F1 j = F j) → (sy_i F1 69).toInt = (sy_i F 69).toInt → sy_i F1 69 = sy_i F 69 → (sy_i F1 70).toInt = (sy_i F 70).toInt → sy_i F1 70 = sy_i F 70 → (sy_i F1 71).toInt = ((sy_i F 71) ||| (((1 : Int32)) <<< ((sy_i F 73) &&& 31))).toInt → sy_i F1 71 = (sy_i F 71) ||| (((1 : Int32)) <<< ((sy_i F 73) &&& 31)) → (sy_i F1 72).toInt = ((sy_i F 72).toInt + 1) → sy_i F1 72 = (sy_i F 72) + ((1 : Int32)) → hd_W Ls xs d jm_M231 Q (5, sy_dL F1 [some (.inl (.ref 1000)), some (.inr (.inl 69)), some (.inr (.inl 70)), some (.inr (.inl 71)), some (.inr (.inl 72)), none], sy_dS F1 [], sy_dh F1 X1 X2 (iv_H 4), 0, 0))
    (k4 : 0 ≤ (sy_i F 73).toInt → (sy_i F 73).toInt ≤ (((sy_ai F 31).getD ((sy_i F 11).toInt).toNat 0).toInt - 1) → ¬ oq ((((sy_i F 71) >>> ((sy_i F 73) &&& 31)) &&& ((1 : Int32))).toInt) (1) → ((sy_ai F 33).getD (((7 * (sy_i F 11).toInt) + (sy_i F 73).toInt)).toNat 0).toInt = ((sy_ai F 63).getD ((sy_i F 72).toInt).toNat 0).toInt → ((sy_ai F 65).getD ((sy_i F 73).toInt).toNat 0).toInt ≠ ((sy_ai F 64).getD ((sy_i F 72).toInt).toNat 0).toInt → ∀ F1 : Nat → sy_d, iv_in F1 iv_B4 → (∀ j, j < 69 → j ∉ ([] : List Nat) → F1 j = F j) → Q (some (.int ((0 : Int32)))) (sy_dh F1 X1 X2 (iv_H 4))) :
    hd_W Ls xs d jm_M231 Q (25, sy_dL F [some (.inl (.ref 1000)), some (.inr (.inl 69)), some (.inr (.inl 70)), some (.inr (.inl 71)), some (.inr (.inl 72)), none], sy_dS F [.inr (.inl 73)], sy_dh F X1 X2 (iv_H 4), 0, 0) := by
  by_cases g0 : (sy_i F 73).toInt < 0
  · have c11 := nz_bx hB (k := 11) (lo := 0) (hi := 1) rfl
    exfalso
    omega
  replace g0 : 0 ≤ (sy_i F 73).toInt := by omega
  by_cases g1 : (((sy_ai F 31).getD ((sy_i F 11).toInt).toNat 0).toInt - 1) < (sy_i F 73).toInt
  · have c11 := nz_bx hB (k := 11) (lo := 0) (hi := 1) rfl
    have q74 : (sy_ai F 31).getD (sy_i F 11).toNatClampNeg 0 = (sy_ai F 31).getD ((sy_i F 11).toInt).toNat 0 := by simp only [nz_c]
    have n74 : nzI ((sy_ai F 31).getD (sy_i F 11).toNatClampNeg 0) (((sy_ai F 31).getD ((sy_i F 11).toInt).toNat 0).toInt) := congrArg Int32.toInt q74
    have r74 := nz_ba hB (k := 31) (lo := 0) (hi := 7) rfl ((sy_i F 11).toInt).toNat
    have n75 : nzI (((sy_ai F 31).getD (sy_i F 11).toNatClampNeg 0) - ((1 : Int32))) ((((sy_ai F 31).getD ((sy_i F 11).toInt).toNat 0).toInt - 1)) := nz_sub (nzE n74) (by decide : ((1 : Int32)).toInt = 1) (by omega) (by omega)
    have q75 : ((sy_ai F 31).getD (sy_i F 11).toNatClampNeg 0) - ((1 : Int32)) = ((sy_ai F 31).getD ((sy_i F 11).toInt).toNat 0) - ((1 : Int32)) := by simp only [nz_c, (nzE n75), (by decide : ((1 : Int32)).toInt = 1)]
    have m75 : nzI (((sy_ai F 31).getD ((sy_i F 11).toInt).toNat 0) - ((1 : Int32))) ((((sy_ai F 31).getD ((sy_i F 11).toInt).toNat 0).toInt - 1)) := (congrArg Int32.toInt q75.symm).trans (nzE n75)
    exact zir_25_p0 hd F X1 X2 hB (by first | exact ⟨by omega, by omega⟩ | (simp only [nz_c]; exact ⟨by omega, by omega⟩)) (by first | exact g0 | (simp only [nz_c]; exact g0)) (by first | (simp only [nz_c, (nzE n75), (nzE m75)]; exact g1) | exact g1 | (rw [(nzE n75)]; exact g1)) (fun F1 g  => k0 g0 g1 F1 (nz_in hB [] (fun j hj hn => g j hj (by simp only [List.mem_cons, List.not_mem_nil, or_false, not_or] at hn; exact trivial)) (List.forall_mem_nil _)) (fun j hj hn => g j hj (by simp only [List.mem_cons, List.not_mem_nil, or_false, not_or] at hn; exact trivial)) )
  replace g1 : (sy_i F 73).toInt ≤ (((sy_ai F 31).getD ((sy_i F 11).toInt).toNat 0).toInt - 1) := by omega
  by_cases g2 : oq ((((sy_i F 71) >>> ((sy_i F 73) &&& 31)) &&& ((1 : Int32))).toInt) (1)
  · have c11 := nz_bx hB (k := 11) (lo := 0) (hi := 1) rfl
    have q74 : (sy_ai F 31).getD (sy_i F 11).toNatClampNeg 0 = (sy_ai F 31).getD ((sy_i F 11).toInt).toNat 0 := by simp only [nz_c]
    have n74 : nzI ((sy_ai F 31).getD (sy_i F 11).toNatClampNeg 0) (((sy_ai F 31).getD ((sy_i F 11).toInt).toNat 0).toInt) := congrArg Int32.toInt q74
    have r74 := nz_ba hB (k := 31) (lo := 0) (hi := 7) rfl ((sy_i F 11).toInt).toNat
    have n75 : nzI (((sy_ai F 31).getD (sy_i F 11).toNatClampNeg 0) - ((1 : Int32))) ((((sy_ai F 31).getD ((sy_i F 11).toInt).toNat 0).toInt - 1)) := nz_sub (nzE n74) (by decide : ((1 : Int32)).toInt = 1) (by omega) (by omega)
    have n77 : nzI (((sy_i F 71) >>> ((sy_i F 73) &&& 31)) &&& ((1 : Int32))) ((((sy_i F 71) >>> ((sy_i F 73) &&& 31)) &&& ((1 : Int32))).toInt) := congrArg Int32.toInt (rfl : ((sy_i F 71) >>> ((sy_i F 73) &&& 31)) &&& ((1 : Int32)) = ((sy_i F 71) >>> ((sy_i F 73) &&& 31)) &&& ((1 : Int32)))
    have q75 : ((sy_ai F 31).getD (sy_i F 11).toNatClampNeg 0) - ((1 : Int32)) = ((sy_ai F 31).getD ((sy_i F 11).toInt).toNat 0) - ((1 : Int32)) := by simp only [nz_c, (nzE n75), (by decide : ((1 : Int32)).toInt = 1)]
    have m75 : nzI (((sy_ai F 31).getD ((sy_i F 11).toInt).toNat 0) - ((1 : Int32))) ((((sy_ai F 31).getD ((sy_i F 11).toInt).toNat 0).toInt - 1)) := (congrArg Int32.toInt q75.symm).trans (nzE n75)
    exact zir_25_p1 hd F X1 X2 hB (by first | exact ⟨by omega, by omega⟩ | (simp only [nz_c]; exact ⟨by omega, by omega⟩)) (by first | exact g0 | (simp only [nz_c]; exact g0)) (by first | (simp only [nz_c, (nzE n75), (nzE m75)]; exact g1) | exact g1 | (rw [(nzE n75)]; exact g1)) (by first | exact g2 | (simp only [nz_c]; exact g2) | (rw [(nzE n77)]; exact g2)) (fun F1 g  => k1 g0 g1 g2 F1 (nz_in hB [] (fun j hj hn => g j hj (by simp only [List.mem_cons, List.not_mem_nil, or_false, not_or] at hn; exact trivial)) (List.forall_mem_nil _)) (fun j hj hn => g j hj (by simp only [List.mem_cons, List.not_mem_nil, or_false, not_or] at hn; exact trivial)) )
  replace g2 : ¬ oq ((((sy_i F 71) >>> ((sy_i F 73) &&& 31)) &&& ((1 : Int32))).toInt) (1) := by first | exact Classical.not_not.mp g2 | exact g2 | omega
  by_cases g3 : ((sy_ai F 33).getD (((7 * (sy_i F 11).toInt) + (sy_i F 73).toInt)).toNat 0).toInt ≠ ((sy_ai F 63).getD ((sy_i F 72).toInt).toNat 0).toInt
  · have c11 := nz_bx hB (k := 11) (lo := 0) (hi := 1) rfl
    have q74 : (sy_ai F 31).getD (sy_i F 11).toNatClampNeg 0 = (sy_ai F 31).getD ((sy_i F 11).toInt).toNat 0 := by simp only [nz_c]
    have n74 : nzI ((sy_ai F 31).getD (sy_i F 11).toNatClampNeg 0) (((sy_ai F 31).getD ((sy_i F 11).toInt).toNat 0).toInt) := congrArg Int32.toInt q74
    have r74 := nz_ba hB (k := 31) (lo := 0) (hi := 7) rfl ((sy_i F 11).toInt).toNat
    have n75 : nzI (((sy_ai F 31).getD (sy_i F 11).toNatClampNeg 0) - ((1 : Int32))) ((((sy_ai F 31).getD ((sy_i F 11).toInt).toNat 0).toInt - 1)) := nz_sub (nzE n74) (by decide : ((1 : Int32)).toInt = 1) (by omega) (by omega)
    have n77 : nzI (((sy_i F 71) >>> ((sy_i F 73) &&& 31)) &&& ((1 : Int32))) ((((sy_i F 71) >>> ((sy_i F 73) &&& 31)) &&& ((1 : Int32))).toInt) := congrArg Int32.toInt (rfl : ((sy_i F 71) >>> ((sy_i F 73) &&& 31)) &&& ((1 : Int32)) = ((sy_i F 71) >>> ((sy_i F 73) &&& 31)) &&& ((1 : Int32)))
    have n78 : nzI (((7 : Int32)) * (sy_i F 11)) ((7 * (sy_i F 11).toInt)) := nz_mul (by decide : ((7 : Int32)).toInt = 7) (rfl : (sy_i F 11).toInt = (sy_i F 11).toInt) (by omega) (by omega)
    have n79 : nzI ((((7 : Int32)) * (sy_i F 11)) + (sy_i F 73)) (((7 * (sy_i F 11).toInt) + (sy_i F 73).toInt)) := nz_add (nzE n78) (rfl : (sy_i F 73).toInt = (sy_i F 73).toInt) (by omega) (by omega)
    have q80 : (sy_ai F 33).getD ((((7 : Int32)) * (sy_i F 11)) + (sy_i F 73)).toNatClampNeg 0 = (sy_ai F 33).getD (((7 * (sy_i F 11).toInt) + (sy_i F 73).toInt)).toNat 0 := by simp only [nz_c, (nzE n78), (nzE n79), (by decide : ((7 : Int32)).toInt = 7)]
    have n80 : nzI ((sy_ai F 33).getD ((((7 : Int32)) * (sy_i F 11)) + (sy_i F 73)).toNatClampNeg 0) (((sy_ai F 33).getD (((7 * (sy_i F 11).toInt) + (sy_i F 73).toInt)).toNat 0).toInt) := congrArg Int32.toInt q80
    have q81 : (sy_ai F 63).getD (sy_i F 72).toNatClampNeg 0 = (sy_ai F 63).getD ((sy_i F 72).toInt).toNat 0 := by simp only [nz_c]
    have n81 : nzI ((sy_ai F 63).getD (sy_i F 72).toNatClampNeg 0) (((sy_ai F 63).getD ((sy_i F 72).toInt).toNat 0).toInt) := congrArg Int32.toInt q81
    have q75 : ((sy_ai F 31).getD (sy_i F 11).toNatClampNeg 0) - ((1 : Int32)) = ((sy_ai F 31).getD ((sy_i F 11).toInt).toNat 0) - ((1 : Int32)) := by simp only [nz_c, (nzE n75), (by decide : ((1 : Int32)).toInt = 1)]
    have m75 : nzI (((sy_ai F 31).getD ((sy_i F 11).toInt).toNat 0) - ((1 : Int32))) ((((sy_ai F 31).getD ((sy_i F 11).toInt).toNat 0).toInt - 1)) := (congrArg Int32.toInt q75.symm).trans (nzE n75)
    exact zir_25_p2 hd F X1 X2 hB (by first | exact ⟨by omega, by omega⟩ | (simp only [nz_c]; exact ⟨by omega, by omega⟩)) (by first | exact g0 | (simp only [nz_c]; exact g0)) (by first | (simp only [nz_c, (nzE n75), (nzE m75)]; exact g1) | exact g1 | (rw [(nzE n75)]; exact g1)) (by first | exact g2 | (simp only [nz_c]; exact g2) | (rw [(nzE n77)]; exact g2)) (by first | (simp only [nz_c, (nzE n78), (nzE n79)]; exact ⟨by omega, by omega⟩) | exact ⟨by omega, by omega⟩ | (rw [(nzE n79)]; exact ⟨by omega, by omega⟩)) (by first | exact ⟨by omega, by omega⟩ | (simp only [nz_c]; exact ⟨by omega, by omega⟩)) (by first | (simp only [nz_c, (nzE n78), (nzE n79)]; exact g3) | exact g3 | (rw [(nzE n80)]; exact g3) | (rw [(nzE n81)]; exact g3) | (rw [(nzE n80), (nzE n81)]; exact g3)) (fun F1 g  => k2 g0 g1 g2 g3 F1 (nz_in hB [] (fun j hj hn => g j hj (by simp only [List.mem_cons, List.not_mem_nil, or_false, not_or] at hn; exact trivial)) (List.forall_mem_nil _)) (fun j hj hn => g j hj (by simp only [List.mem_cons, List.not_mem_nil, or_false, not_or] at hn; exact trivial)) )
  replace g3 : ((sy_ai F 33).getD (((7 * (sy_i F 11).toInt) + (sy_i F 73).toInt)).toNat 0).toInt = ((sy_ai F 63).getD ((sy_i F 72).toInt).toNat 0).toInt := by omega
  by_cases g4 : ((sy_ai F 65).getD ((sy_i F 73).toInt).toNat 0).toInt = ((sy_ai F 64).getD ((sy_i F 72).toInt).toNat 0).toInt
  · have c11 := nz_bx hB (k := 11) (lo := 0) (hi := 1) rfl
    have q74 : (sy_ai F 31).getD (sy_i F 11).toNatClampNeg 0 = (sy_ai F 31).getD ((sy_i F 11).toInt).toNat 0 := by simp only [nz_c]
    have n74 : nzI ((sy_ai F 31).getD (sy_i F 11).toNatClampNeg 0) (((sy_ai F 31).getD ((sy_i F 11).toInt).toNat 0).toInt) := congrArg Int32.toInt q74
    have r74 := nz_ba hB (k := 31) (lo := 0) (hi := 7) rfl ((sy_i F 11).toInt).toNat
    have n75 : nzI (((sy_ai F 31).getD (sy_i F 11).toNatClampNeg 0) - ((1 : Int32))) ((((sy_ai F 31).getD ((sy_i F 11).toInt).toNat 0).toInt - 1)) := nz_sub (nzE n74) (by decide : ((1 : Int32)).toInt = 1) (by omega) (by omega)
    have n77 : nzI (((sy_i F 71) >>> ((sy_i F 73) &&& 31)) &&& ((1 : Int32))) ((((sy_i F 71) >>> ((sy_i F 73) &&& 31)) &&& ((1 : Int32))).toInt) := congrArg Int32.toInt (rfl : ((sy_i F 71) >>> ((sy_i F 73) &&& 31)) &&& ((1 : Int32)) = ((sy_i F 71) >>> ((sy_i F 73) &&& 31)) &&& ((1 : Int32)))
    have n78 : nzI (((7 : Int32)) * (sy_i F 11)) ((7 * (sy_i F 11).toInt)) := nz_mul (by decide : ((7 : Int32)).toInt = 7) (rfl : (sy_i F 11).toInt = (sy_i F 11).toInt) (by omega) (by omega)
    have n79 : nzI ((((7 : Int32)) * (sy_i F 11)) + (sy_i F 73)) (((7 * (sy_i F 11).toInt) + (sy_i F 73).toInt)) := nz_add (nzE n78) (rfl : (sy_i F 73).toInt = (sy_i F 73).toInt) (by omega) (by omega)
    have q80 : (sy_ai F 33).getD ((((7 : Int32)) * (sy_i F 11)) + (sy_i F 73)).toNatClampNeg 0 = (sy_ai F 33).getD (((7 * (sy_i F 11).toInt) + (sy_i F 73).toInt)).toNat 0 := by simp only [nz_c, (nzE n78), (nzE n79), (by decide : ((7 : Int32)).toInt = 7)]
    have n80 : nzI ((sy_ai F 33).getD ((((7 : Int32)) * (sy_i F 11)) + (sy_i F 73)).toNatClampNeg 0) (((sy_ai F 33).getD (((7 * (sy_i F 11).toInt) + (sy_i F 73).toInt)).toNat 0).toInt) := congrArg Int32.toInt q80
    have q81 : (sy_ai F 63).getD (sy_i F 72).toNatClampNeg 0 = (sy_ai F 63).getD ((sy_i F 72).toInt).toNat 0 := by simp only [nz_c]
    have n81 : nzI ((sy_ai F 63).getD (sy_i F 72).toNatClampNeg 0) (((sy_ai F 63).getD ((sy_i F 72).toInt).toNat 0).toInt) := congrArg Int32.toInt q81
    have q82 : (sy_ai F 65).getD (sy_i F 73).toNatClampNeg 0 = (sy_ai F 65).getD ((sy_i F 73).toInt).toNat 0 := by simp only [nz_c]
    have n82 : nzI ((sy_ai F 65).getD (sy_i F 73).toNatClampNeg 0) (((sy_ai F 65).getD ((sy_i F 73).toInt).toNat 0).toInt) := congrArg Int32.toInt q82
    have q83 : (sy_ai F 64).getD (sy_i F 72).toNatClampNeg 0 = (sy_ai F 64).getD ((sy_i F 72).toInt).toNat 0 := by simp only [nz_c]
    have n83 : nzI ((sy_ai F 64).getD (sy_i F 72).toNatClampNeg 0) (((sy_ai F 64).getD ((sy_i F 72).toInt).toNat 0).toInt) := congrArg Int32.toInt q83
    have n85 : nzI ((sy_i F 71) ||| (((1 : Int32)) <<< ((sy_i F 73) &&& 31))) (((sy_i F 71) ||| (((1 : Int32)) <<< ((sy_i F 73) &&& 31))).toInt) := congrArg Int32.toInt (rfl : (sy_i F 71) ||| (((1 : Int32)) <<< ((sy_i F 73) &&& 31)) = (sy_i F 71) ||| (((1 : Int32)) <<< ((sy_i F 73) &&& 31)))
    have n86 : nzI ((sy_i F 72) + ((1 : Int32))) (((sy_i F 72).toInt + 1)) := nz_add (rfl : (sy_i F 72).toInt = (sy_i F 72).toInt) (by decide : ((1 : Int32)).toInt = 1) (by omega) (by omega)
    have q75 : ((sy_ai F 31).getD (sy_i F 11).toNatClampNeg 0) - ((1 : Int32)) = ((sy_ai F 31).getD ((sy_i F 11).toInt).toNat 0) - ((1 : Int32)) := by simp only [nz_c, (nzE n75), (by decide : ((1 : Int32)).toInt = 1)]
    have m75 : nzI (((sy_ai F 31).getD ((sy_i F 11).toInt).toNat 0) - ((1 : Int32))) ((((sy_ai F 31).getD ((sy_i F 11).toInt).toNat 0).toInt - 1)) := (congrArg Int32.toInt q75.symm).trans (nzE n75)
    exact zir_25_p3 hd F X1 X2 hB (by first | exact ⟨by omega, by omega⟩ | (simp only [nz_c]; exact ⟨by omega, by omega⟩)) (by first | exact g0 | (simp only [nz_c]; exact g0)) (by first | (simp only [nz_c, (nzE n75), (nzE m75)]; exact g1) | exact g1 | (rw [(nzE n75)]; exact g1)) (by first | exact g2 | (simp only [nz_c]; exact g2) | (rw [(nzE n77)]; exact g2)) (by first | (simp only [nz_c, (nzE n78), (nzE n79)]; exact ⟨by omega, by omega⟩) | exact ⟨by omega, by omega⟩ | (rw [(nzE n79)]; exact ⟨by omega, by omega⟩)) (by first | exact ⟨by omega, by omega⟩ | (simp only [nz_c]; exact ⟨by omega, by omega⟩)) (by first | (simp only [nz_c, (nzE n78), (nzE n79)]; exact g3) | exact g3 | (rw [(nzE n80)]; exact g3) | (rw [(nzE n81)]; exact g3) | (rw [(nzE n80), (nzE n81)]; exact g3)) (by first | exact ⟨by omega, by omega⟩ | (simp only [nz_c]; exact ⟨by omega, by omega⟩)) (by first | exact ⟨by omega, by omega⟩ | (simp only [nz_c]; exact ⟨by omega, by omega⟩)) (by first | exact g4 | (simp only [nz_c]; exact g4) | (rw [(nzE n82)]; exact g4) | (rw [(nzE n83)]; exact g4) | (rw [(nzE n82), (nzE n83)]; exact g4)) (fun F1 g e69 e70 e71 e72 => k3 g0 g1 g2 g3 g4 F1 (nz_in hB [] (fun j hj hn => g j hj (by simp only [List.mem_cons, List.not_mem_nil, or_false, not_or] at hn; exact trivial)) (List.forall_mem_nil _)) (fun j hj hn => g j hj (by simp only [List.mem_cons, List.not_mem_nil, or_false, not_or] at hn; exact trivial)) ((congrArg Int32.toInt (zz_i e69)).trans (rfl : (sy_i F 69).toInt = (sy_i F 69).toInt)) ((zz_i e69).trans (rfl : sy_i F 69 = sy_i F 69)) ((congrArg Int32.toInt (zz_i e70)).trans (rfl : (sy_i F 70).toInt = (sy_i F 70).toInt)) ((zz_i e70).trans (rfl : sy_i F 70 = sy_i F 70)) ((congrArg Int32.toInt (zz_i e71)).trans (nzE n85)) ((zz_i e71).trans (rfl : (sy_i F 71) ||| (((1 : Int32)) <<< ((sy_i F 73) &&& 31)) = (sy_i F 71) ||| (((1 : Int32)) <<< ((sy_i F 73) &&& 31)))) ((congrArg Int32.toInt (zz_i e72)).trans (nzE n86)) ((zz_i e72).trans (rfl : (sy_i F 72) + ((1 : Int32)) = (sy_i F 72) + ((1 : Int32)))))
  replace g4 : ((sy_ai F 65).getD ((sy_i F 73).toInt).toNat 0).toInt ≠ ((sy_ai F 64).getD ((sy_i F 72).toInt).toNat 0).toInt := by omega
  have c11 := nz_bx hB (k := 11) (lo := 0) (hi := 1) rfl
  have q74 : (sy_ai F 31).getD (sy_i F 11).toNatClampNeg 0 = (sy_ai F 31).getD ((sy_i F 11).toInt).toNat 0 := by simp only [nz_c]
  have n74 : nzI ((sy_ai F 31).getD (sy_i F 11).toNatClampNeg 0) (((sy_ai F 31).getD ((sy_i F 11).toInt).toNat 0).toInt) := congrArg Int32.toInt q74
  have r74 := nz_ba hB (k := 31) (lo := 0) (hi := 7) rfl ((sy_i F 11).toInt).toNat
  have n75 : nzI (((sy_ai F 31).getD (sy_i F 11).toNatClampNeg 0) - ((1 : Int32))) ((((sy_ai F 31).getD ((sy_i F 11).toInt).toNat 0).toInt - 1)) := nz_sub (nzE n74) (by decide : ((1 : Int32)).toInt = 1) (by omega) (by omega)
  have n77 : nzI (((sy_i F 71) >>> ((sy_i F 73) &&& 31)) &&& ((1 : Int32))) ((((sy_i F 71) >>> ((sy_i F 73) &&& 31)) &&& ((1 : Int32))).toInt) := congrArg Int32.toInt (rfl : ((sy_i F 71) >>> ((sy_i F 73) &&& 31)) &&& ((1 : Int32)) = ((sy_i F 71) >>> ((sy_i F 73) &&& 31)) &&& ((1 : Int32)))
  have n78 : nzI (((7 : Int32)) * (sy_i F 11)) ((7 * (sy_i F 11).toInt)) := nz_mul (by decide : ((7 : Int32)).toInt = 7) (rfl : (sy_i F 11).toInt = (sy_i F 11).toInt) (by omega) (by omega)
  have n79 : nzI ((((7 : Int32)) * (sy_i F 11)) + (sy_i F 73)) (((7 * (sy_i F 11).toInt) + (sy_i F 73).toInt)) := nz_add (nzE n78) (rfl : (sy_i F 73).toInt = (sy_i F 73).toInt) (by omega) (by omega)
  have q80 : (sy_ai F 33).getD ((((7 : Int32)) * (sy_i F 11)) + (sy_i F 73)).toNatClampNeg 0 = (sy_ai F 33).getD (((7 * (sy_i F 11).toInt) + (sy_i F 73).toInt)).toNat 0 := by simp only [nz_c, (nzE n78), (nzE n79), (by decide : ((7 : Int32)).toInt = 7)]
  have n80 : nzI ((sy_ai F 33).getD ((((7 : Int32)) * (sy_i F 11)) + (sy_i F 73)).toNatClampNeg 0) (((sy_ai F 33).getD (((7 * (sy_i F 11).toInt) + (sy_i F 73).toInt)).toNat 0).toInt) := congrArg Int32.toInt q80
  have q81 : (sy_ai F 63).getD (sy_i F 72).toNatClampNeg 0 = (sy_ai F 63).getD ((sy_i F 72).toInt).toNat 0 := by simp only [nz_c]
  have n81 : nzI ((sy_ai F 63).getD (sy_i F 72).toNatClampNeg 0) (((sy_ai F 63).getD ((sy_i F 72).toInt).toNat 0).toInt) := congrArg Int32.toInt q81
  have q82 : (sy_ai F 65).getD (sy_i F 73).toNatClampNeg 0 = (sy_ai F 65).getD ((sy_i F 73).toInt).toNat 0 := by simp only [nz_c]
  have n82 : nzI ((sy_ai F 65).getD (sy_i F 73).toNatClampNeg 0) (((sy_ai F 65).getD ((sy_i F 73).toInt).toNat 0).toInt) := congrArg Int32.toInt q82
  have q83 : (sy_ai F 64).getD (sy_i F 72).toNatClampNeg 0 = (sy_ai F 64).getD ((sy_i F 72).toInt).toNat 0 := by simp only [nz_c]
  have n83 : nzI ((sy_ai F 64).getD (sy_i F 72).toNatClampNeg 0) (((sy_ai F 64).getD ((sy_i F 72).toInt).toNat 0).toInt) := congrArg Int32.toInt q83
  have q75 : ((sy_ai F 31).getD (sy_i F 11).toNatClampNeg 0) - ((1 : Int32)) = ((sy_ai F 31).getD ((sy_i F 11).toInt).toNat 0) - ((1 : Int32)) := by simp only [nz_c, (nzE n75), (by decide : ((1 : Int32)).toInt = 1)]
  have m75 : nzI (((sy_ai F 31).getD ((sy_i F 11).toInt).toNat 0) - ((1 : Int32))) ((((sy_ai F 31).getD ((sy_i F 11).toInt).toNat 0).toInt - 1)) := (congrArg Int32.toInt q75.symm).trans (nzE n75)
  exact zir_25_p4 hd F X1 X2 hB (by first | exact ⟨by omega, by omega⟩ | (simp only [nz_c]; exact ⟨by omega, by omega⟩)) (by first | exact g0 | (simp only [nz_c]; exact g0)) (by first | (simp only [nz_c, (nzE n75), (nzE m75)]; exact g1) | exact g1 | (rw [(nzE n75)]; exact g1)) (by first | exact g2 | (simp only [nz_c]; exact g2) | (rw [(nzE n77)]; exact g2)) (by first | (simp only [nz_c, (nzE n78), (nzE n79)]; exact ⟨by omega, by omega⟩) | exact ⟨by omega, by omega⟩ | (rw [(nzE n79)]; exact ⟨by omega, by omega⟩)) (by first | exact ⟨by omega, by omega⟩ | (simp only [nz_c]; exact ⟨by omega, by omega⟩)) (by first | (simp only [nz_c, (nzE n78), (nzE n79)]; exact g3) | exact g3 | (rw [(nzE n80)]; exact g3) | (rw [(nzE n81)]; exact g3) | (rw [(nzE n80), (nzE n81)]; exact g3)) (by first | exact ⟨by omega, by omega⟩ | (simp only [nz_c]; exact ⟨by omega, by omega⟩)) (by first | exact ⟨by omega, by omega⟩ | (simp only [nz_c]; exact ⟨by omega, by omega⟩)) (by first | exact g4 | (simp only [nz_c]; exact g4) | (rw [(nzE n82)]; exact g4) | (rw [(nzE n83)]; exact g4) | (rw [(nzE n82), (nzE n83)]; exact g4)) (fun F1 g  => k4 g0 g1 g2 g3 g4 F1 (nz_in hB [] (fun j hj hn => g j hj (by simp only [List.mem_cons, List.not_mem_nil, or_false, not_or] at hn; exact trivial)) (List.forall_mem_nil _)) (fun j hj hn => g j hj (by simp only [List.mem_cons, List.not_mem_nil, or_false, not_or] at hn; exact trivial)) )
theorem zfr_0_p0 {Ls : Nat} {xs : Nat → Int32} {d : Nat} {Q : Option Value → jm_h → Prop} (hd : 1 ≤ d) (F : Nat → sy_d) (X1 X2 : List jm_c) (hB : iv_in F iv_B4)
    (k : ∀ F1 : Nat → sy_d, (∀ j, j < 69 → True → F1 j = F j) → F1 69 = .inl (.int (sy_i F 69)) → F1 70 = .inl (.int ((0 : Int32))) → hd_W Ls xs d jm_M232 Q (2, sy_dL F1 [some (.inl (.ref 1000)), some (.inr (.inl 69)), some (.inr (.inl 70)), none], sy_dS F1 [], sy_dh F1 X1 X2 (iv_H 4), 0, 0)) :
    hd_W Ls xs d jm_M232 Q (0, sy_dL F [some (.inl (.ref 1000)), some (.inr (.inl 69)), none, none], sy_dS F [], sy_dh F X1 X2 (iv_H 4), 0, 0) := by
  refine hd_run (s := 4) (nv := 70) (pc := 2) (L := [some (.inl (.ref 1000)), some (.inr (.inl 69)), some (.inr (.inl 70)), none]) (S := []) (uh := hd_ov (iv_id 0 iv_B4) []) (ul := [.inl (.inr (.inl 69)), .inl (.inl (.int 0))]) (f := true) (sp := [2]) (d0 := 0) (O := []) (T := []) (P := []) jm_ok232 (by decide +kernel) (by decide +kernel) hd F X1 X2 (fun F' hF hs => ?_)
  have b69 := hd_b (F := F) (F' := F') (k := 69) (hF 69 (by decide))
  have hB' : iv_in F' iv_B4 := iv_in_eq hB (fun j hj => hF j (Nat.lt_of_lt_of_le hj (by decide +kernel)))
  refine ⟨fun _ h => absurd h List.not_mem_nil, ?_⟩
  refine k _ ?_ ?_ ?_
  · exact fun j hj _ => (hd_keep hB' (Nat.lt_of_lt_of_le hj (by decide +kernel)) (by simp)).trans (hF j (Nat.lt_of_lt_of_le hj (by decide)))
  · exact hd_gi (x := .inr (.inl 69)) (by decide +kernel) b69
  · exact hd_gi (x := .inl (.int 0)) (by decide +kernel) rfl
theorem zfr_0 {Ls : Nat} {xs : Nat → Int32} {d : Nat} {Q : Option Value → jm_h → Prop} (hd : 1 ≤ d) (F : Nat → sy_d) (X1 X2 : List jm_c) (hB : iv_in F iv_B4)
    (k0 : ∀ F1 : Nat → sy_d, iv_in F1 iv_B4 → (∀ j, j < 69 → j ∉ ([] : List Nat) → F1 j = F j) → (sy_i F1 69).toInt = (sy_i F 69).toInt → sy_i F1 69 = sy_i F 69 → (sy_i F1 70).toInt = 0 → sy_i F1 70 = (0 : Int32) → hd_W Ls xs d jm_M232 Q (2, sy_dL F1 [some (.inl (.ref 1000)), some (.inr (.inl 69)), some (.inr (.inl 70)), none], sy_dS F1 [], sy_dh F1 X1 X2 (iv_H 4), 0, 0)) :
    hd_W Ls xs d jm_M232 Q (0, sy_dL F [some (.inl (.ref 1000)), some (.inr (.inl 69)), none, none], sy_dS F [], sy_dh F X1 X2 (iv_H 4), 0, 0) := by
  exact zfr_0_p0 hd F X1 X2 hB  (fun F1 g e69 e70 => k0 F1 (nz_in hB [] (fun j hj hn => g j hj (by simp only [List.mem_cons, List.not_mem_nil, or_false, not_or] at hn; exact trivial)) (List.forall_mem_nil _)) (fun j hj hn => g j hj (by simp only [List.mem_cons, List.not_mem_nil, or_false, not_or] at hn; exact trivial)) ((congrArg Int32.toInt (zz_i e69)).trans (rfl : (sy_i F 69).toInt = (sy_i F 69).toInt)) ((zz_i e69).trans (rfl : sy_i F 69 = sy_i F 69)) ((congrArg Int32.toInt (zz_i e70)).trans (by decide : ((0 : Int32)).toInt = 0)) ((zz_i e70).trans (rfl : (0 : Int32) = (0 : Int32))))
theorem zfr_2_p0 {Ls : Nat} {xs : Nat → Int32} {d : Nat} {Q : Option Value → jm_h → Prop} (hd : 1 ≤ d) (F : Nat → sy_d) (X1 X2 : List jm_c) (hB : iv_in F iv_B4)
    (h0 : 0 ≤ (sy_i F 11).toInt ∧ (sy_i F 11).toInt < 2)
    (h1 : ((sy_ai F 31).getD (sy_i F 11).toNatClampNeg 0).toInt ≤ (sy_i F 70).toInt)
    (k : ∀ F1 : Nat → sy_d, (∀ j, j < 69 → True → F1 j = F j) → F1 69 = .inl (.int (sy_i F 69)) → F1 70 = .inl (.int ((0 : Int32))) → hd_W Ls xs d jm_M232 Q (79, sy_dL F1 [some (.inl (.ref 1000)), some (.inr (.inl 69)), some (.inr (.inl 70)), none], sy_dS F1 [], sy_dh F1 X1 X2 (iv_H 4), 0, 0)) :
    hd_W Ls xs d jm_M232 Q (2, sy_dL F [some (.inl (.ref 1000)), some (.inr (.inl 69)), some (.inr (.inl 70)), none], sy_dS F [], sy_dh F X1 X2 (iv_H 4), 0, 0) := by
  refine hd_run (s := 4) (nv := 71) (pc := 79) (L := [some (.inl (.ref 1000)), some (.inr (.inl 69)), some (.inr (.inl 70)), none]) (S := []) (uh := hd_ov (iv_id 0 iv_B4) []) (ul := [.inl (.inr (.inl 69)), .inl (.inl (.int 0))]) (f := true) (sp := [60, 79]) (d0 := 0) (O := [true]) (T := [(30, [.inr (.inl 11)], [.inr (.inl 31)])]) (P := [(6, .inr (.inl 11), .inl (.ref 2)), (4, .inr (.inl 71), .inr (.inl 70))]) jm_ok232 (by decide +kernel) (by decide +kernel) hd F X1 X2 (fun F' hF hs => ?_)
  have b11 := hd_b (F := F) (F' := F') (k := 11) (hF 11 (by decide))
  have a31 := hd_ba (F := F) (F' := F') (k := 31) (hF 31 (by decide))
  have t71 : sy_dv F' (.inr (.inl 71)) = .int ((sy_ai F 31).getD (sy_i F 11).toNatClampNeg 0) := hd_rd (hs 0 _ rfl) b11 a31
  have b70 := hd_b (F := F) (F' := F') (k := 70) (hF 70 (by decide))
  have b69 := hd_b (F := F) (F' := F') (k := 69) (hF 69 (by decide))
  have hB' : iv_in F' iv_B4 := iv_in_eq hB (fun j hj => hF j (Nat.lt_of_lt_of_le hj (by decide +kernel)))
  refine ⟨List.forall_mem_cons.mpr ⟨hd_pb b11 (by first | exact h0 | exact h0), List.forall_mem_cons.mpr ⟨hd_p4 t71 b70 h1, fun _ h => absurd h List.not_mem_nil⟩⟩, ?_⟩
  refine k _ ?_ ?_ ?_
  · exact fun j hj _ => (hd_keep hB' (Nat.lt_of_lt_of_le hj (by decide +kernel)) (by simp)).trans (hF j (Nat.lt_of_lt_of_le hj (by decide)))
  · exact hd_gi (x := .inr (.inl 69)) (by decide +kernel) b69
  · exact hd_gi (x := .inl (.int 0)) (by decide +kernel) rfl
theorem zfr_2_p1 {Ls : Nat} {xs : Nat → Int32} {d : Nat} {Q : Option Value → jm_h → Prop} (hd : 1 ≤ d) (F : Nat → sy_d) (X1 X2 : List jm_c) (hB : iv_in F iv_B4)
    (h0 : 0 ≤ (sy_i F 11).toInt ∧ (sy_i F 11).toInt < 2)
    (h1 : (sy_i F 70).toInt < ((sy_ai F 31).getD (sy_i F 11).toNatClampNeg 0).toInt)
    (h2 : 0 ≤ ((((7 : Int32)) * (sy_i F 11)) + (sy_i F 70)).toInt ∧ ((((7 : Int32)) * (sy_i F 11)) + (sy_i F 70)).toInt < 14)
    (h3 : 0 ≤ ((((7 : Int32)) * (sy_i F 11)) + (sy_i F 70)).toInt ∧ ((((7 : Int32)) * (sy_i F 11)) + (sy_i F 70)).toInt < 14)
    (h4 : 0 ≤ (sy_i F 11).toInt ∧ (sy_i F 11).toInt < 2)
    (k : ∀ F1 : Nat → sy_d, (∀ j, j < 69 → True → F1 j = F j) → F1 69 = .inl (.int (sy_i F 69)) → F1 70 = .inl (.int (sy_i F 70)) → F1 71 = .inl (.int (sy_i F 70)) → F1 72 = .inl (.int ((sy_ai F 32).getD ((((7 : Int32)) * (sy_i F 11)) + (sy_i F 70)).toNatClampNeg 0)) → F1 73 = .inl (.int (sy_i F 70)) → F1 74 = .inl (.int ((sy_ai F 34).getD ((((7 : Int32)) * (sy_i F 11)) + (sy_i F 70)).toNatClampNeg 0)) → F1 75 = .inl (.int ((sy_ai F 31).getD (sy_i F 11).toNatClampNeg 0)) → hd_W Ls xs d jm_M232 Q (60, sy_dL F1 [some (.inl (.ref 1000)), some (.inr (.inl 69)), some (.inr (.inl 70)), none], sy_dS F1 [.inr (.inl 75), .inl (.int 0), .inr (.inl 74), .inr (.inl 73), .inl (.ref 1000), .inr (.inl 72), .inr (.inl 71), .inl (.ref 1043)], sy_dh F1 X1 X2 (iv_H 4), 0, 0)) :
    hd_W Ls xs d jm_M232 Q (2, sy_dL F [some (.inl (.ref 1000)), some (.inr (.inl 69)), some (.inr (.inl 70)), none], sy_dS F [], sy_dh F X1 X2 (iv_H 4), 0, 0) := by
  refine hd_run (s := 4) (nv := 71) (pc := 60) (L := [some (.inl (.ref 1000)), some (.inr (.inl 69)), some (.inr (.inl 70)), none]) (S := [.inr (.inl 75), .inl (.int 0), .inr (.inl 74), .inr (.inl 73), .inl (.ref 1000), .inr (.inl 72), .inr (.inl 71), .inl (.ref 1043)]) (uh := hd_ov (iv_id 0 iv_B4) []) (ul := [.inl (.inr (.inl 69)), .inl (.inr (.inl 70)), .inl (.inr (.inl 70)), .inl (.inr (.inl 74)), .inl (.inr (.inl 70)), .inl (.inr (.inl 77)), .inl (.inr (.inl 78))]) (f := true) (sp := [60, 79]) (d0 := 0) (O := [false]) (T := [(30, [.inr (.inl 11)], [.inr (.inl 31)]), (2, [.inl (.int 7), .inr (.inl 11)], []), (0, [.inr (.inl 72), .inr (.inl 70)], []), (30, [.inr (.inl 73)], [.inr (.inl 32)]), (2, [.inl (.int 7), .inr (.inl 11)], []), (0, [.inr (.inl 75), .inr (.inl 70)], []), (30, [.inr (.inl 76)], [.inr (.inl 34)]), (30, [.inr (.inl 11)], [.inr (.inl 31)])]) (P := [(6, .inr (.inl 11), .inl (.ref 2)), (5, .inr (.inl 71), .inr (.inl 70)), (6, .inr (.inl 73), .inl (.ref 14)), (6, .inr (.inl 76), .inl (.ref 14)), (6, .inr (.inl 11), .inl (.ref 2))]) jm_ok232 (by decide +kernel) (by decide +kernel) hd F X1 X2 (fun F' hF hs => ?_)
  have b11 := hd_b (F := F) (F' := F') (k := 11) (hF 11 (by decide))
  have a31 := hd_ba (F := F) (F' := F') (k := 31) (hF 31 (by decide))
  have t71 : sy_dv F' (.inr (.inl 71)) = .int ((sy_ai F 31).getD (sy_i F 11).toNatClampNeg 0) := hd_rd (hs 0 _ rfl) b11 a31
  have b70 := hd_b (F := F) (F' := F') (k := 70) (hF 70 (by decide))
  have t72 : sy_dv F' (.inr (.inl 72)) = .int (((7 : Int32)) * (sy_i F 11)) := hd_o (hs 1 _ rfl) rfl b11 rfl
  have t73 : sy_dv F' (.inr (.inl 73)) = .int ((((7 : Int32)) * (sy_i F 11)) + (sy_i F 70)) := hd_o (hs 2 _ rfl) t72 b70 rfl
  have t75 : sy_dv F' (.inr (.inl 75)) = .int (((7 : Int32)) * (sy_i F 11)) := hd_o (hs 4 _ rfl) rfl b11 rfl
  have t76 : sy_dv F' (.inr (.inl 76)) = .int ((((7 : Int32)) * (sy_i F 11)) + (sy_i F 70)) := hd_o (hs 5 _ rfl) t75 b70 rfl
  have b69 := hd_b (F := F) (F' := F') (k := 69) (hF 69 (by decide))
  have a32 := hd_ba (F := F) (F' := F') (k := 32) (hF 32 (by decide))
  have t74 : sy_dv F' (.inr (.inl 74)) = .int ((sy_ai F 32).getD ((((7 : Int32)) * (sy_i F 11)) + (sy_i F 70)).toNatClampNeg 0) := hd_rd (hs 3 _ rfl) t73 a32
  have a34 := hd_ba (F := F) (F' := F') (k := 34) (hF 34 (by decide))
  have t77 : sy_dv F' (.inr (.inl 77)) = .int ((sy_ai F 34).getD ((((7 : Int32)) * (sy_i F 11)) + (sy_i F 70)).toNatClampNeg 0) := hd_rd (hs 6 _ rfl) t76 a34
  have t78 : sy_dv F' (.inr (.inl 78)) = .int ((sy_ai F 31).getD (sy_i F 11).toNatClampNeg 0) := hd_rd (hs 7 _ rfl) b11 a31
  have hB' : iv_in F' iv_B4 := iv_in_eq hB (fun j hj => hF j (Nat.lt_of_lt_of_le hj (by decide +kernel)))
  refine ⟨List.forall_mem_cons.mpr ⟨hd_pb b11 (by first | exact h0 | exact h0), List.forall_mem_cons.mpr ⟨hd_p5 t71 b70 h1, List.forall_mem_cons.mpr ⟨hd_pb t73 (by first | exact h2 | exact h2), List.forall_mem_cons.mpr ⟨hd_pb t76 (by first | exact h3 | exact h3), List.forall_mem_cons.mpr ⟨hd_pb b11 (by first | exact h4 | exact h4), fun _ h => absurd h List.not_mem_nil⟩⟩⟩⟩⟩, ?_⟩
  refine k _ ?_ ?_ ?_ ?_ ?_ ?_ ?_ ?_
  · exact fun j hj _ => (hd_keep hB' (Nat.lt_of_lt_of_le hj (by decide +kernel)) (by simp)).trans (hF j (Nat.lt_of_lt_of_le hj (by decide)))
  · exact hd_gi (x := .inr (.inl 69)) (by decide +kernel) b69
  · exact hd_gi (x := .inr (.inl 70)) (by decide +kernel) b70
  · exact hd_gi (x := .inr (.inl 70)) (by decide +kernel) b70
  · exact hd_gi (x := .inr (.inl 74)) (by decide +kernel) t74
  · exact hd_gi (x := .inr (.inl 70)) (by decide +kernel) b70
  · exact hd_gi (x := .inr (.inl 77)) (by decide +kernel) t77
  · exact hd_gi (x := .inr (.inl 78)) (by decide +kernel) t78
theorem zfr_2 {Ls : Nat} {xs : Nat → Int32} {d : Nat} {Q : Option Value → jm_h → Prop} (hd : 1 ≤ d) (F : Nat → sy_d) (X1 X2 : List jm_c) (hB : iv_in F iv_B4)
    (a70 : 0 ≤ (sy_i F 70).toInt ∧ (sy_i F 70).toInt ≤ 7)
    (k0 : ((sy_ai F 31).getD ((sy_i F 11).toInt).toNat 0).toInt ≤ (sy_i F 70).toInt → ∀ F1 : Nat → sy_d, iv_in F1 iv_B4 → (∀ j, j < 69 → j ∉ ([] : List Nat) → F1 j = F j) → (sy_i F1 69).toInt = (sy_i F 69).toInt → sy_i F1 69 = sy_i F 69 → (sy_i F1 70).toInt = 0 → sy_i F1 70 = (0 : Int32) → hd_W Ls xs d jm_M232 Q (79, sy_dL F1 [some (.inl (.ref 1000)), some (.inr (.inl 69)), some (.inr (.inl 70)), none], sy_dS F1 [], sy_dh F1 X1 X2 (iv_H 4), 0, 0))
    (k1 : (sy_i F 70).toInt < ((sy_ai F 31).getD ((sy_i F 11).toInt).toNat 0).toInt → ∀ F1 : Nat → sy_d, iv_in F1 iv_B4 → (∀ j, j < 69 → j ∉ ([] : List Nat) → F1 j = F j) → (sy_i F1 69).toInt = (sy_i F 69).toInt → sy_i F1 69 = sy_i F 69 → (sy_i F1 70).toInt = (sy_i F 70).toInt → sy_i F1 70 = sy_i F 70 → (sy_i F1 71).toInt = (sy_i F 70).toInt → sy_i F1 71 = sy_i F 70 → (sy_i F1 72).toInt = ((sy_ai F 32).getD (((7 * (sy_i F 11).toInt) + (sy_i F 70).toInt)).toNat 0).toInt → sy_i F1 72 = (sy_ai F 32).getD (((7 * (sy_i F 11).toInt) + (sy_i F 70).toInt)).toNat 0 → (sy_i F1 73).toInt = (sy_i F 70).toInt → sy_i F1 73 = sy_i F 70 → (sy_i F1 74).toInt = ((sy_ai F 34).getD (((7 * (sy_i F 11).toInt) + (sy_i F 70).toInt)).toNat 0).toInt → sy_i F1 74 = (sy_ai F 34).getD (((7 * (sy_i F 11).toInt) + (sy_i F 70).toInt)).toNat 0 → (sy_i F1 75).toInt = ((sy_ai F 31).getD ((sy_i F 11).toInt).toNat 0).toInt → sy_i F1 75 = (sy_ai F 31).getD ((sy_i F 11).toInt).toNat 0 → hd_W Ls xs d jm_M232 Q (60, sy_dL F1 [some (.inl (.ref 1000)), some (.inr (.inl 69)), some (.inr (.inl 70)), none], sy_dS F1 [.inr (.inl 75), .inl (.int 0), .inr (.inl 74), .inr (.inl 73), .inl (.ref 1000), .inr (.inl 72), .inr (.inl 71), .inl (.ref 1043)], sy_dh F1 X1 X2 (iv_H 4), 0, 0)) :
    hd_W Ls xs d jm_M232 Q (2, sy_dL F [some (.inl (.ref 1000)), some (.inr (.inl 69)), some (.inr (.inl 70)), none], sy_dS F [], sy_dh F X1 X2 (iv_H 4), 0, 0) := by
  by_cases g0 : ((sy_ai F 31).getD ((sy_i F 11).toInt).toNat 0).toInt ≤ (sy_i F 70).toInt
  · have c11 := nz_bx hB (k := 11) (lo := 0) (hi := 1) rfl
    have q71 : (sy_ai F 31).getD (sy_i F 11).toNatClampNeg 0 = (sy_ai F 31).getD ((sy_i F 11).toInt).toNat 0 := by simp only [nz_c]
    have n71 : nzI ((sy_ai F 31).getD (sy_i F 11).toNatClampNeg 0) (((sy_ai F 31).getD ((sy_i F 11).toInt).toNat 0).toInt) := congrArg Int32.toInt q71
    have r71 := nz_ba hB (k := 31) (lo := 0) (hi := 7) rfl ((sy_i F 11).toInt).toNat
    exact zfr_2_p0 hd F X1 X2 hB (by first | exact ⟨by omega, by omega⟩ | (simp only [nz_c]; exact ⟨by omega, by omega⟩)) (by first | exact g0 | (simp only [nz_c]; exact g0) | (rw [(nzE n71)]; exact g0)) (fun F1 g e69 e70 => k0 g0 F1 (nz_in hB [] (fun j hj hn => g j hj (by simp only [List.mem_cons, List.not_mem_nil, or_false, not_or] at hn; exact trivial)) (List.forall_mem_nil _)) (fun j hj hn => g j hj (by simp only [List.mem_cons, List.not_mem_nil, or_false, not_or] at hn; exact trivial)) ((congrArg Int32.toInt (zz_i e69)).trans (rfl : (sy_i F 69).toInt = (sy_i F 69).toInt)) ((zz_i e69).trans (rfl : sy_i F 69 = sy_i F 69)) ((congrArg Int32.toInt (zz_i e70)).trans (by decide : ((0 : Int32)).toInt = 0)) ((zz_i e70).trans (rfl : (0 : Int32) = (0 : Int32))))
  replace g0 : (sy_i F 70).toInt < ((sy_ai F 31).getD ((sy_i F 11).toInt).toNat 0).toInt := by omega
  have c11 := nz_bx hB (k := 11) (lo := 0) (hi := 1) rfl
  have q71 : (sy_ai F 31).getD (sy_i F 11).toNatClampNeg 0 = (sy_ai F 31).getD ((sy_i F 11).toInt).toNat 0 := by simp only [nz_c]
  have n71 : nzI ((sy_ai F 31).getD (sy_i F 11).toNatClampNeg 0) (((sy_ai F 31).getD ((sy_i F 11).toInt).toNat 0).toInt) := congrArg Int32.toInt q71
  have r71 := nz_ba hB (k := 31) (lo := 0) (hi := 7) rfl ((sy_i F 11).toInt).toNat
  have n72 : nzI (((7 : Int32)) * (sy_i F 11)) ((7 * (sy_i F 11).toInt)) := nz_mul (by decide : ((7 : Int32)).toInt = 7) (rfl : (sy_i F 11).toInt = (sy_i F 11).toInt) (by omega) (by omega)
  have n73 : nzI ((((7 : Int32)) * (sy_i F 11)) + (sy_i F 70)) (((7 * (sy_i F 11).toInt) + (sy_i F 70).toInt)) := nz_add (nzE n72) (rfl : (sy_i F 70).toInt = (sy_i F 70).toInt) (by omega) (by omega)
  have n75 : nzI (((7 : Int32)) * (sy_i F 11)) ((7 * (sy_i F 11).toInt)) := nz_mul (by decide : ((7 : Int32)).toInt = 7) (rfl : (sy_i F 11).toInt = (sy_i F 11).toInt) (by omega) (by omega)
  have n76 : nzI ((((7 : Int32)) * (sy_i F 11)) + (sy_i F 70)) (((7 * (sy_i F 11).toInt) + (sy_i F 70).toInt)) := nz_add (nzE n75) (rfl : (sy_i F 70).toInt = (sy_i F 70).toInt) (by omega) (by omega)
  have q74 : (sy_ai F 32).getD ((((7 : Int32)) * (sy_i F 11)) + (sy_i F 70)).toNatClampNeg 0 = (sy_ai F 32).getD (((7 * (sy_i F 11).toInt) + (sy_i F 70).toInt)).toNat 0 := by simp only [nz_c, (nzE n72), (nzE n73), (by decide : ((7 : Int32)).toInt = 7)]
  have n74 : nzI ((sy_ai F 32).getD ((((7 : Int32)) * (sy_i F 11)) + (sy_i F 70)).toNatClampNeg 0) (((sy_ai F 32).getD (((7 * (sy_i F 11).toInt) + (sy_i F 70).toInt)).toNat 0).toInt) := congrArg Int32.toInt q74
  have q77 : (sy_ai F 34).getD ((((7 : Int32)) * (sy_i F 11)) + (sy_i F 70)).toNatClampNeg 0 = (sy_ai F 34).getD (((7 * (sy_i F 11).toInt) + (sy_i F 70).toInt)).toNat 0 := by simp only [nz_c, (nzE n75), (nzE n76), (by decide : ((7 : Int32)).toInt = 7)]
  have n77 : nzI ((sy_ai F 34).getD ((((7 : Int32)) * (sy_i F 11)) + (sy_i F 70)).toNatClampNeg 0) (((sy_ai F 34).getD (((7 * (sy_i F 11).toInt) + (sy_i F 70).toInt)).toNat 0).toInt) := congrArg Int32.toInt q77
  have q78 : (sy_ai F 31).getD (sy_i F 11).toNatClampNeg 0 = (sy_ai F 31).getD ((sy_i F 11).toInt).toNat 0 := by simp only [nz_c]
  have n78 : nzI ((sy_ai F 31).getD (sy_i F 11).toNatClampNeg 0) (((sy_ai F 31).getD ((sy_i F 11).toInt).toNat 0).toInt) := congrArg Int32.toInt q78
  have r78 := nz_ba hB (k := 31) (lo := 0) (hi := 7) rfl ((sy_i F 11).toInt).toNat
  exact zfr_2_p1 hd F X1 X2 hB (by first | exact ⟨by omega, by omega⟩ | (simp only [nz_c]; exact ⟨by omega, by omega⟩)) (by first | exact g0 | (simp only [nz_c]; exact g0) | (rw [(nzE n71)]; exact g0)) (by first | (simp only [nz_c, (nzE n72), (nzE n73)]; exact ⟨by omega, by omega⟩) | exact ⟨by omega, by omega⟩ | (rw [(nzE n73)]; exact ⟨by omega, by omega⟩)) (by first | (simp only [nz_c, (nzE n75), (nzE n76)]; exact ⟨by omega, by omega⟩) | exact ⟨by omega, by omega⟩ | (rw [(nzE n76)]; exact ⟨by omega, by omega⟩)) (by first | exact ⟨by omega, by omega⟩ | (simp only [nz_c]; exact ⟨by omega, by omega⟩)) (fun F1 g e69 e70 e71 e72 e73 e74 e75 => k1 g0 F1 (nz_in hB [] (fun j hj hn => g j hj (by simp only [List.mem_cons, List.not_mem_nil, or_false, not_or] at hn; exact trivial)) (List.forall_mem_nil _)) (fun j hj hn => g j hj (by simp only [List.mem_cons, List.not_mem_nil, or_false, not_or] at hn; exact trivial)) ((congrArg Int32.toInt (zz_i e69)).trans (rfl : (sy_i F 69).toInt = (sy_i F 69).toInt)) ((zz_i e69).trans (rfl : sy_i F 69 = sy_i F 69)) ((congrArg Int32.toInt (zz_i e70)).trans (rfl : (sy_i F 70).toInt = (sy_i F 70).toInt)) ((zz_i e70).trans (rfl : sy_i F 70 = sy_i F 70)) ((congrArg Int32.toInt (zz_i e71)).trans (rfl : (sy_i F 70).toInt = (sy_i F 70).toInt)) ((zz_i e71).trans (rfl : sy_i F 70 = sy_i F 70)) ((congrArg Int32.toInt (zz_i e72)).trans (nzE n74)) ((zz_i e72).trans q74) ((congrArg Int32.toInt (zz_i e73)).trans (rfl : (sy_i F 70).toInt = (sy_i F 70).toInt)) ((zz_i e73).trans (rfl : sy_i F 70 = sy_i F 70)) ((congrArg Int32.toInt (zz_i e74)).trans (nzE n77)) ((zz_i e74).trans q77) ((congrArg Int32.toInt (zz_i e75)).trans (nzE n78)) ((zz_i e75).trans q78))
theorem zfr_63_p0 {Ls : Nat} {xs : Nat → Int32} {d : Nat} {Q : Option Value → jm_h → Prop} (hd : 2 ≤ d) (F : Nat → sy_d) (X1 X2 : List jm_c) (hB : iv_in F iv_B4)
    (h0 : 0 ≤ ((sy_i F 72) + (sy_i F 73)).toInt)
    (h1 : ((sy_i F 72) + (sy_i F 73)).toInt ≤ 9)
    (h2 : 0 ≤ (sy_i F 71).toInt ∧ (sy_i F 71).toInt < 7)
    (k : ∀ F1 : Nat → sy_d, (∀ j, j < 69 → j ≠ 65 → F1 j = F j) → F1 65 = .inr (.inl (jm_upd (sy_ai F 65) (sy_i F 71).toNatClampNeg ((sy_i F 72) + (sy_i F 73)))) → F1 69 = .inl (.int (sy_i F 69)) → F1 70 = .inl (.int ((sy_i F 70) + ((1 : Int32)))) → hd_W Ls xs d jm_M232 Q (2, sy_dL F1 [some (.inl (.ref 1000)), some (.inr (.inl 69)), some (.inr (.inl 70)), none], sy_dS F1 [], sy_dh F1 X1 X2 (iv_H 4), 0, 0)) :
    hd_W Ls xs d jm_M232 Q (63, sy_dL F [some (.inl (.ref 1000)), some (.inr (.inl 69)), some (.inr (.inl 70)), none], sy_dS F [.inr (.inl 73), .inr (.inl 72), .inr (.inl 71), .inl (.ref 1043)], sy_dh F X1 X2 (iv_H 4), 0, 0) := by
  refine hd_run (s := 4) (nv := 74) (pc := 2) (L := [some (.inl (.ref 1000)), some (.inr (.inl 69)), some (.inr (.inl 70)), none]) (S := []) (uh := hd_ov (iv_id 0 iv_B4) [(65, .inr (.inr (.inl 75)))]) (ul := [.inl (.inr (.inl 69)), .inl (.inr (.inl 76))]) (f := false) (sp := [2]) (d0 := 1) (O := [true, true]) (T := [(0, [.inr (.inl 72), .inr (.inl 73)], []), (40, [.inr (.inl 71), .inr (.inl 74)], [.inr (.inl 65)]), (0, [.inr (.inl 70), .inl (.int 1)], [])]) (P := [(4, .inl (.int 0), .inr (.inl 74)), (4, .inr (.inl 74), .inl (.int 9)), (6, .inr (.inl 71), .inl (.ref 7))]) jm_ok232 (by decide +kernel) (by decide +kernel) hd F X1 X2 (fun F' hF hs => ?_)
  have b72 := hd_b (F := F) (F' := F') (k := 72) (hF 72 (by decide))
  have b73 := hd_b (F := F) (F' := F') (k := 73) (hF 73 (by decide))
  have t74 : sy_dv F' (.inr (.inl 74)) = .int ((sy_i F 72) + (sy_i F 73)) := hd_o (hs 0 _ rfl) b72 b73 rfl
  have b71 := hd_b (F := F) (F' := F') (k := 71) (hF 71 (by decide))
  have a65 := hd_ba (F := F) (F' := F') (k := 65) (hF 65 (by decide))
  have t75 : sy_da F' (.inr (.inl 75)) = .inl (jm_upd (sy_ai F 65) (sy_i F 71).toNatClampNeg ((sy_i F 72) + (sy_i F 73))) := hd_up (hs 1 _ rfl) b71 t74 a65
  have b69 := hd_b (F := F) (F' := F') (k := 69) (hF 69 (by decide))
  have b70 := hd_b (F := F) (F' := F') (k := 70) (hF 70 (by decide))
  have t76 : sy_dv F' (.inr (.inl 76)) = .int ((sy_i F 70) + ((1 : Int32))) := hd_o (hs 2 _ rfl) b70 rfl rfl
  have hB' : iv_in F' iv_B4 := iv_in_eq hB (fun j hj => hF j (Nat.lt_of_lt_of_le hj (by decide +kernel)))
  refine ⟨List.forall_mem_cons.mpr ⟨hd_p4 rfl t74 (by have hc : ((0) : Int32).toInt = 0 := (by decide); omega), List.forall_mem_cons.mpr ⟨hd_p4 t74 rfl (by have hc : ((9) : Int32).toInt = 9 := (by decide); omega), List.forall_mem_cons.mpr ⟨hd_pb b71 (by first | exact h2 | exact h2), fun _ h => absurd h List.not_mem_nil⟩⟩⟩, ?_⟩
  refine k _ ?_ ?_ ?_ ?_
  · exact fun j hj hn => (hd_keep hB' (Nat.lt_of_lt_of_le hj (by decide +kernel)) (by simp; omega)).trans (hF j (Nat.lt_of_lt_of_le hj (by decide)))
  · exact hd_ga (a := .inr (.inl 75)) (by decide +kernel) t75
  · exact hd_gi (x := .inr (.inl 69)) (by decide +kernel) b69
  · exact hd_gi (x := .inr (.inl 76)) (by decide +kernel) t76
theorem zfr_63_p1 {Ls : Nat} {xs : Nat → Int32} {d : Nat} {Q : Option Value → jm_h → Prop} (hd : 2 ≤ d) (F : Nat → sy_d) (X1 X2 : List jm_c) (hB : iv_in F iv_B4)
    (h0 : 0 ≤ ((sy_i F 72) + (sy_i F 73)).toInt)
    (h1 : 9 < ((sy_i F 72) + (sy_i F 73)).toInt)
    (h2 : 0 ≤ (sy_i F 71).toInt ∧ (sy_i F 71).toInt < 7)
    (k : ∀ F1 : Nat → sy_d, (∀ j, j < 69 → j ≠ 65 → F1 j = F j) → F1 65 = .inr (.inl (jm_upd (sy_ai F 65) (sy_i F 71).toNatClampNeg ((9 : Int32)))) → F1 69 = .inl (.int (sy_i F 69)) → F1 70 = .inl (.int ((sy_i F 70) + ((1 : Int32)))) → hd_W Ls xs d jm_M232 Q (2, sy_dL F1 [some (.inl (.ref 1000)), some (.inr (.inl 69)), some (.inr (.inl 70)), none], sy_dS F1 [], sy_dh F1 X1 X2 (iv_H 4), 0, 0)) :
    hd_W Ls xs d jm_M232 Q (63, sy_dL F [some (.inl (.ref 1000)), some (.inr (.inl 69)), some (.inr (.inl 70)), none], sy_dS F [.inr (.inl 73), .inr (.inl 72), .inr (.inl 71), .inl (.ref 1043)], sy_dh F X1 X2 (iv_H 4), 0, 0) := by
  refine hd_run (s := 4) (nv := 74) (pc := 2) (L := [some (.inl (.ref 1000)), some (.inr (.inl 69)), some (.inr (.inl 70)), none]) (S := []) (uh := hd_ov (iv_id 0 iv_B4) [(65, .inr (.inr (.inl 75)))]) (ul := [.inl (.inr (.inl 69)), .inl (.inr (.inl 76))]) (f := false) (sp := [2]) (d0 := 1) (O := [true, false]) (T := [(0, [.inr (.inl 72), .inr (.inl 73)], []), (40, [.inr (.inl 71), .inl (.int 9)], [.inr (.inl 65)]), (0, [.inr (.inl 70), .inl (.int 1)], [])]) (P := [(4, .inl (.int 0), .inr (.inl 74)), (5, .inr (.inl 74), .inl (.int 9)), (6, .inr (.inl 71), .inl (.ref 7))]) jm_ok232 (by decide +kernel) (by decide +kernel) hd F X1 X2 (fun F' hF hs => ?_)
  have b72 := hd_b (F := F) (F' := F') (k := 72) (hF 72 (by decide))
  have b73 := hd_b (F := F) (F' := F') (k := 73) (hF 73 (by decide))
  have t74 : sy_dv F' (.inr (.inl 74)) = .int ((sy_i F 72) + (sy_i F 73)) := hd_o (hs 0 _ rfl) b72 b73 rfl
  have b71 := hd_b (F := F) (F' := F') (k := 71) (hF 71 (by decide))
  have a65 := hd_ba (F := F) (F' := F') (k := 65) (hF 65 (by decide))
  have t75 : sy_da F' (.inr (.inl 75)) = .inl (jm_upd (sy_ai F 65) (sy_i F 71).toNatClampNeg ((9 : Int32))) := hd_up (hs 1 _ rfl) b71 rfl a65
  have b69 := hd_b (F := F) (F' := F') (k := 69) (hF 69 (by decide))
  have b70 := hd_b (F := F) (F' := F') (k := 70) (hF 70 (by decide))
  have t76 : sy_dv F' (.inr (.inl 76)) = .int ((sy_i F 70) + ((1 : Int32))) := hd_o (hs 2 _ rfl) b70 rfl rfl
  have hB' : iv_in F' iv_B4 := iv_in_eq hB (fun j hj => hF j (Nat.lt_of_lt_of_le hj (by decide +kernel)))
  refine ⟨List.forall_mem_cons.mpr ⟨hd_p4 rfl t74 (by have hc : ((0) : Int32).toInt = 0 := (by decide); omega), List.forall_mem_cons.mpr ⟨hd_p5 t74 rfl (by have hc : ((9) : Int32).toInt = 9 := (by decide); omega), List.forall_mem_cons.mpr ⟨hd_pb b71 (by first | exact h2 | exact h2), fun _ h => absurd h List.not_mem_nil⟩⟩⟩, ?_⟩
  refine k _ ?_ ?_ ?_ ?_
  · exact fun j hj hn => (hd_keep hB' (Nat.lt_of_lt_of_le hj (by decide +kernel)) (by simp; omega)).trans (hF j (Nat.lt_of_lt_of_le hj (by decide)))
  · exact hd_ga (a := .inr (.inl 75)) (by decide +kernel) t75
  · exact hd_gi (x := .inr (.inl 69)) (by decide +kernel) b69
  · exact hd_gi (x := .inr (.inl 76)) (by decide +kernel) t76
theorem zfr_63_p2 {Ls : Nat} {xs : Nat → Int32} {d : Nat} {Q : Option Value → jm_h → Prop} (hd : 2 ≤ d) (F : Nat → sy_d) (X1 X2 : List jm_c) (hB : iv_in F iv_B4)
    (h0 : ((sy_i F 72) + (sy_i F 73)).toInt < 0)
    (h1 : 0 ≤ (sy_i F 71).toInt ∧ (sy_i F 71).toInt < 7)
    (k : ∀ F1 : Nat → sy_d, (∀ j, j < 69 → j ≠ 65 → F1 j = F j) → F1 65 = .inr (.inl (jm_upd (sy_ai F 65) (sy_i F 71).toNatClampNeg ((0 : Int32)))) → F1 69 = .inl (.int (sy_i F 69)) → F1 70 = .inl (.int ((sy_i F 70) + ((1 : Int32)))) → hd_W Ls xs d jm_M232 Q (2, sy_dL F1 [some (.inl (.ref 1000)), some (.inr (.inl 69)), some (.inr (.inl 70)), none], sy_dS F1 [], sy_dh F1 X1 X2 (iv_H 4), 0, 0)) :
    hd_W Ls xs d jm_M232 Q (63, sy_dL F [some (.inl (.ref 1000)), some (.inr (.inl 69)), some (.inr (.inl 70)), none], sy_dS F [.inr (.inl 73), .inr (.inl 72), .inr (.inl 71), .inl (.ref 1043)], sy_dh F X1 X2 (iv_H 4), 0, 0) := by
  refine hd_run (s := 4) (nv := 74) (pc := 2) (L := [some (.inl (.ref 1000)), some (.inr (.inl 69)), some (.inr (.inl 70)), none]) (S := []) (uh := hd_ov (iv_id 0 iv_B4) [(65, .inr (.inr (.inl 75)))]) (ul := [.inl (.inr (.inl 69)), .inl (.inr (.inl 76))]) (f := false) (sp := [2]) (d0 := 1) (O := [false]) (T := [(0, [.inr (.inl 72), .inr (.inl 73)], []), (40, [.inr (.inl 71), .inl (.int 0)], [.inr (.inl 65)]), (0, [.inr (.inl 70), .inl (.int 1)], [])]) (P := [(5, .inl (.int 0), .inr (.inl 74)), (6, .inr (.inl 71), .inl (.ref 7))]) jm_ok232 (by decide +kernel) (by decide +kernel) hd F X1 X2 (fun F' hF hs => ?_)
  have b72 := hd_b (F := F) (F' := F') (k := 72) (hF 72 (by decide))
  have b73 := hd_b (F := F) (F' := F') (k := 73) (hF 73 (by decide))
  have t74 : sy_dv F' (.inr (.inl 74)) = .int ((sy_i F 72) + (sy_i F 73)) := hd_o (hs 0 _ rfl) b72 b73 rfl
  have b71 := hd_b (F := F) (F' := F') (k := 71) (hF 71 (by decide))
  have a65 := hd_ba (F := F) (F' := F') (k := 65) (hF 65 (by decide))
  have t75 : sy_da F' (.inr (.inl 75)) = .inl (jm_upd (sy_ai F 65) (sy_i F 71).toNatClampNeg ((0 : Int32))) := hd_up (hs 1 _ rfl) b71 rfl a65
  have b69 := hd_b (F := F) (F' := F') (k := 69) (hF 69 (by decide))
  have b70 := hd_b (F := F) (F' := F') (k := 70) (hF 70 (by decide))
  have t76 : sy_dv F' (.inr (.inl 76)) = .int ((sy_i F 70) + ((1 : Int32))) := hd_o (hs 2 _ rfl) b70 rfl rfl
  have hB' : iv_in F' iv_B4 := iv_in_eq hB (fun j hj => hF j (Nat.lt_of_lt_of_le hj (by decide +kernel)))
  refine ⟨List.forall_mem_cons.mpr ⟨hd_p5 rfl t74 (by have hc : ((0) : Int32).toInt = 0 := (by decide); omega), List.forall_mem_cons.mpr ⟨hd_pb b71 (by first | exact h1 | exact h1), fun _ h => absurd h List.not_mem_nil⟩⟩, ?_⟩
  refine k _ ?_ ?_ ?_ ?_
  · exact fun j hj hn => (hd_keep hB' (Nat.lt_of_lt_of_le hj (by decide +kernel)) (by simp; omega)).trans (hF j (Nat.lt_of_lt_of_le hj (by decide)))
  · exact hd_ga (a := .inr (.inl 75)) (by decide +kernel) t75
  · exact hd_gi (x := .inr (.inl 69)) (by decide +kernel) b69
  · exact hd_gi (x := .inr (.inl 76)) (by decide +kernel) t76
theorem zfr_63 {Ls : Nat} {xs : Nat → Int32} {d : Nat} {Q : Option Value → jm_h → Prop} (hd : 2 ≤ d) (F : Nat → sy_d) (X1 X2 : List jm_c) (hB : iv_in F iv_B4)
    (a70 : 0 ≤ (sy_i F 70).toInt ∧ (sy_i F 70).toInt ≤ 6)
    (o0 : 0 ≤ ((sy_i F 72) + (sy_i F 73)).toInt → ((sy_i F 72) + (sy_i F 73)).toInt ≤ 9 → (0 ≤ (sy_i F 71).toInt ∧ (sy_i F 71).toInt < 7))
    (o1 : 0 ≤ ((sy_i F 72) + (sy_i F 73)).toInt → 9 < ((sy_i F 72) + (sy_i F 73)).toInt → (0 ≤ (sy_i F 71).toInt ∧ (sy_i F 71).toInt < 7))
    (o2 : ((sy_i F 72) + (sy_i F 73)).toInt < 0 → (0 ≤ (sy_i F 71).toInt ∧ (sy_i F 71).toInt < 7))
    (k0 : 0 ≤ ((sy_i F 72) + (sy_i F 73)).toInt → ((sy_i F 72) + (sy_i F 73)).toInt ≤ 9 → ∀ F1 : Nat → sy_d, iv_in F1 iv_B4 → (∀ j, j < 69 → j ∉ ([65] : List Nat) → F1 j = F j) → sy_ai F1 65 = jm_upd (sy_ai F 65) ((sy_i F 71).toInt).toNat ((sy_i F 72) + (sy_i F 73)) → (sy_i F1 69).toInt = (sy_i F 69).toInt → sy_i F1 69 = sy_i F 69 → (sy_i F1 70).toInt = ((sy_i F 70).toInt + 1) → sy_i F1 70 = (sy_i F 70) + ((1 : Int32)) → hd_W Ls xs d jm_M232 Q (2, sy_dL F1 [some (.inl (.ref 1000)), some (.inr (.inl 69)), some (.inr (.inl 70)), none], sy_dS F1 [], sy_dh F1 X1 X2 (iv_H 4), 0, 0))
    (k1 : 0 ≤ ((sy_i F 72) + (sy_i F 73)).toInt → 9 < ((sy_i F 72) + (sy_i F 73)).toInt → ∀ F1 : Nat → sy_d, iv_in F1 iv_B4 → (∀ j, j < 69 → j ∉ ([65] : List Nat) → F1 j = F j) → sy_ai F1 65 = jm_upd (sy_ai F 65) ((sy_i F 71).toInt).toNat ((9 : Int32)) → (sy_i F1 69).toInt = (sy_i F 69).toInt → sy_i F1 69 = sy_i F 69 → (sy_i F1 70).toInt = ((sy_i F 70).toInt + 1) → sy_i F1 70 = (sy_i F 70) + ((1 : Int32)) → hd_W Ls xs d jm_M232 Q (2, sy_dL F1 [some (.inl (.ref 1000)), some (.inr (.inl 69)), some (.inr (.inl 70)), none], sy_dS F1 [], sy_dh F1 X1 X2 (iv_H 4), 0, 0))
    (k2 : ((sy_i F 72) + (sy_i F 73)).toInt < 0 → ∀ F1 : Nat → sy_d, iv_in F1 iv_B4 → (∀ j, j < 69 → j ∉ ([65] : List Nat) → F1 j = F j) → sy_ai F1 65 = jm_upd (sy_ai F 65) ((sy_i F 71).toInt).toNat ((0 : Int32)) → (sy_i F1 69).toInt = (sy_i F 69).toInt → sy_i F1 69 = sy_i F 69 → (sy_i F1 70).toInt = ((sy_i F 70).toInt + 1) → sy_i F1 70 = (sy_i F 70) + ((1 : Int32)) → hd_W Ls xs d jm_M232 Q (2, sy_dL F1 [some (.inl (.ref 1000)), some (.inr (.inl 69)), some (.inr (.inl 70)), none], sy_dS F1 [], sy_dh F1 X1 X2 (iv_H 4), 0, 0)) :
    hd_W Ls xs d jm_M232 Q (63, sy_dL F [some (.inl (.ref 1000)), some (.inr (.inl 69)), some (.inr (.inl 70)), none], sy_dS F [.inr (.inl 73), .inr (.inl 72), .inr (.inl 71), .inl (.ref 1043)], sy_dh F X1 X2 (iv_H 4), 0, 0) := by
  by_cases g0 : 0 ≤ ((sy_i F 72) + (sy_i F 73)).toInt
  · by_cases g1 : ((sy_i F 72) + (sy_i F 73)).toInt ≤ 9
    · have n74 : nzI ((sy_i F 72) + (sy_i F 73)) (((sy_i F 72) + (sy_i F 73)).toInt) := congrArg Int32.toInt (rfl : (sy_i F 72) + (sy_i F 73) = (sy_i F 72) + (sy_i F 73))
      have w75 : jm_upd (sy_ai F 65) (sy_i F 71).toNatClampNeg ((sy_i F 72) + (sy_i F 73)) = jm_upd (sy_ai F 65) ((sy_i F 71).toInt).toNat ((sy_i F 72) + (sy_i F 73)) := by simp only [nz_c]
      have n76 : nzI ((sy_i F 70) + ((1 : Int32))) (((sy_i F 70).toInt + 1)) := nz_add (rfl : (sy_i F 70).toInt = (sy_i F 70).toInt) (by decide : ((1 : Int32)).toInt = 1) (by omega) (by omega)
      exact zfr_63_p0 hd F X1 X2 hB (by first | exact g0 | (simp only [nz_c]; exact g0) | (rw [(nzE n74)]; exact g0)) (by first | exact g1 | (simp only [nz_c]; exact g1) | (rw [(nzE n74)]; exact g1)) (by first | exact (o0 g0 g1) | (simp only [nz_c]; exact (o0 g0 g1))) (fun F1 g e65 e69 e70 => k0 g0 g1 F1 (nz_in hB [65] (fun j hj hn => g j hj (by simp only [List.mem_cons, List.not_mem_nil, or_false, not_or] at hn; omega)) (List.forall_mem_cons.mpr ⟨fun t ht => (Option.some.inj ht) ▸ (nz_hz2 e65), List.forall_mem_nil _⟩)) (fun j hj hn => g j hj (by simp only [List.mem_cons, List.not_mem_nil, or_false, not_or] at hn; omega)) ((zz_ai e65).trans w75) ((congrArg Int32.toInt (zz_i e69)).trans (rfl : (sy_i F 69).toInt = (sy_i F 69).toInt)) ((zz_i e69).trans (rfl : sy_i F 69 = sy_i F 69)) ((congrArg Int32.toInt (zz_i e70)).trans (nzE n76)) ((zz_i e70).trans (rfl : (sy_i F 70) + ((1 : Int32)) = (sy_i F 70) + ((1 : Int32)))))
    replace g1 : 9 < ((sy_i F 72) + (sy_i F 73)).toInt := by omega
    have n74 : nzI ((sy_i F 72) + (sy_i F 73)) (((sy_i F 72) + (sy_i F 73)).toInt) := congrArg Int32.toInt (rfl : (sy_i F 72) + (sy_i F 73) = (sy_i F 72) + (sy_i F 73))
    have w75 : jm_upd (sy_ai F 65) (sy_i F 71).toNatClampNeg ((9 : Int32)) = jm_upd (sy_ai F 65) ((sy_i F 71).toInt).toNat ((9 : Int32)) := by simp only [nz_c, (by decide : ((9 : Int32)).toInt = 9)]
    have n76 : nzI ((sy_i F 70) + ((1 : Int32))) (((sy_i F 70).toInt + 1)) := nz_add (rfl : (sy_i F 70).toInt = (sy_i F 70).toInt) (by decide : ((1 : Int32)).toInt = 1) (by omega) (by omega)
    exact zfr_63_p1 hd F X1 X2 hB (by first | exact g0 | (simp only [nz_c]; exact g0) | (rw [(nzE n74)]; exact g0)) (by first | exact g1 | (simp only [nz_c]; exact g1) | (rw [(nzE n74)]; exact g1)) (by first | exact (o1 g0 g1) | (simp only [nz_c]; exact (o1 g0 g1))) (fun F1 g e65 e69 e70 => k1 g0 g1 F1 (nz_in hB [65] (fun j hj hn => g j hj (by simp only [List.mem_cons, List.not_mem_nil, or_false, not_or] at hn; omega)) (List.forall_mem_cons.mpr ⟨fun t ht => (Option.some.inj ht) ▸ (nz_hz2 e65), List.forall_mem_nil _⟩)) (fun j hj hn => g j hj (by simp only [List.mem_cons, List.not_mem_nil, or_false, not_or] at hn; omega)) ((zz_ai e65).trans w75) ((congrArg Int32.toInt (zz_i e69)).trans (rfl : (sy_i F 69).toInt = (sy_i F 69).toInt)) ((zz_i e69).trans (rfl : sy_i F 69 = sy_i F 69)) ((congrArg Int32.toInt (zz_i e70)).trans (nzE n76)) ((zz_i e70).trans (rfl : (sy_i F 70) + ((1 : Int32)) = (sy_i F 70) + ((1 : Int32)))))
  replace g0 : ((sy_i F 72) + (sy_i F 73)).toInt < 0 := by omega
  have n74 : nzI ((sy_i F 72) + (sy_i F 73)) (((sy_i F 72) + (sy_i F 73)).toInt) := congrArg Int32.toInt (rfl : (sy_i F 72) + (sy_i F 73) = (sy_i F 72) + (sy_i F 73))
  have w75 : jm_upd (sy_ai F 65) (sy_i F 71).toNatClampNeg ((0 : Int32)) = jm_upd (sy_ai F 65) ((sy_i F 71).toInt).toNat ((0 : Int32)) := by simp only [nz_c, (by decide : ((0 : Int32)).toInt = 0)]
  have n76 : nzI ((sy_i F 70) + ((1 : Int32))) (((sy_i F 70).toInt + 1)) := nz_add (rfl : (sy_i F 70).toInt = (sy_i F 70).toInt) (by decide : ((1 : Int32)).toInt = 1) (by omega) (by omega)
  exact zfr_63_p2 hd F X1 X2 hB (by first | exact g0 | (simp only [nz_c]; exact g0) | (rw [(nzE n74)]; exact g0)) (by first | exact (o2 g0) | (simp only [nz_c]; exact (o2 g0))) (fun F1 g e65 e69 e70 => k2 g0 F1 (nz_in hB [65] (fun j hj hn => g j hj (by simp only [List.mem_cons, List.not_mem_nil, or_false, not_or] at hn; omega)) (List.forall_mem_cons.mpr ⟨fun t ht => (Option.some.inj ht) ▸ (nz_hz2 e65), List.forall_mem_nil _⟩)) (fun j hj hn => g j hj (by simp only [List.mem_cons, List.not_mem_nil, or_false, not_or] at hn; omega)) ((zz_ai e65).trans w75) ((congrArg Int32.toInt (zz_i e69)).trans (rfl : (sy_i F 69).toInt = (sy_i F 69).toInt)) ((zz_i e69).trans (rfl : sy_i F 69 = sy_i F 69)) ((congrArg Int32.toInt (zz_i e70)).trans (nzE n76)) ((zz_i e70).trans (rfl : (sy_i F 70) + ((1 : Int32)) = (sy_i F 70) + ((1 : Int32)))))
theorem zfr_79_p0 {Ls : Nat} {xs : Nat → Int32} {d : Nat} {Q : Option Value → jm_h → Prop} (hd : 1 ≤ d) (F : Nat → sy_d) (X1 X2 : List jm_c) (hB : iv_in F iv_B4)
    (h0 : 49 ≤ (sy_i F 70).toInt)
    (k : ∀ F1 : Nat → sy_d, (∀ j, j < 69 → j ≠ 22 → F1 j = F j) → F1 22 = .inl (.int ((0 : Int32))) → F1 69 = .inl (.int (sy_i F 69)) → F1 70 = .inl (.int ((0 : Int32))) → hd_W Ls xs d jm_M232 Q (105, sy_dL F1 [some (.inl (.ref 1000)), some (.inr (.inl 69)), some (.inr (.inl 70)), none], sy_dS F1 [], sy_dh F1 X1 X2 (iv_H 4), 0, 0)) :
    hd_W Ls xs d jm_M232 Q (79, sy_dL F [some (.inl (.ref 1000)), some (.inr (.inl 69)), some (.inr (.inl 70)), none], sy_dS F [], sy_dh F X1 X2 (iv_H 4), 0, 0) := by
  refine hd_run (s := 4) (nv := 71) (pc := 105) (L := [some (.inl (.ref 1000)), some (.inr (.inl 69)), some (.inr (.inl 70)), none]) (S := []) (uh := hd_ov (iv_id 0 iv_B4) [(22, .inl (.inl (.int 0)))]) (ul := [.inl (.inr (.inl 69)), .inl (.inl (.int 0))]) (f := true) (sp := [79, 105]) (d0 := 0) (O := [true]) (T := []) (P := [(4, .inl (.int 49), .inr (.inl 70))]) jm_ok232 (by decide +kernel) (by decide +kernel) hd F X1 X2 (fun F' hF hs => ?_)
  have b70 := hd_b (F := F) (F' := F') (k := 70) (hF 70 (by decide))
  have b69 := hd_b (F := F) (F' := F') (k := 69) (hF 69 (by decide))
  have hB' : iv_in F' iv_B4 := iv_in_eq hB (fun j hj => hF j (Nat.lt_of_lt_of_le hj (by decide +kernel)))
  refine ⟨List.forall_mem_cons.mpr ⟨hd_p4 rfl b70 (by have hc : ((49) : Int32).toInt = 49 := (by decide); omega), fun _ h => absurd h List.not_mem_nil⟩, ?_⟩
  refine k _ ?_ ?_ ?_ ?_
  · exact fun j hj hn => (hd_keep hB' (Nat.lt_of_lt_of_le hj (by decide +kernel)) (by simp; omega)).trans (hF j (Nat.lt_of_lt_of_le hj (by decide)))
  · exact hd_gi (x := .inl (.int 0)) (by decide +kernel) rfl
  · exact hd_gi (x := .inr (.inl 69)) (by decide +kernel) b69
  · exact hd_gi (x := .inl (.int 0)) (by decide +kernel) rfl
theorem zfr_79_p1 {Ls : Nat} {xs : Nat → Int32} {d : Nat} {Q : Option Value → jm_h → Prop} (hd : 1 ≤ d) (F : Nat → sy_d) (X1 X2 : List jm_c) (hB : iv_in F iv_B4)
    (h0 : (sy_i F 70).toInt < 49)
    (h1 : 0 ≤ (sy_i F 70).toInt ∧ (sy_i F 70).toInt < 49)
    (k : ∀ F1 : Nat → sy_d, (∀ j, j < 69 → j ≠ 66 → F1 j = F j) → F1 66 = .inr (.inl (jm_upd (sy_ai F 66) (sy_i F 70).toNatClampNeg ((0 : Int32)))) → F1 69 = .inl (.int (sy_i F 69)) → F1 70 = .inl (.int ((sy_i F 70) + ((1 : Int32)))) → hd_W Ls xs d jm_M232 Q (79, sy_dL F1 [some (.inl (.ref 1000)), some (.inr (.inl 69)), some (.inr (.inl 70)), none], sy_dS F1 [], sy_dh F1 X1 X2 (iv_H 4), 0, 0)) :
    hd_W Ls xs d jm_M232 Q (79, sy_dL F [some (.inl (.ref 1000)), some (.inr (.inl 69)), some (.inr (.inl 70)), none], sy_dS F [], sy_dh F X1 X2 (iv_H 4), 0, 0) := by
  refine hd_run (s := 4) (nv := 71) (pc := 79) (L := [some (.inl (.ref 1000)), some (.inr (.inl 69)), some (.inr (.inl 70)), none]) (S := []) (uh := hd_ov (iv_id 0 iv_B4) [(66, .inr (.inr (.inl 71)))]) (ul := [.inl (.inr (.inl 69)), .inl (.inr (.inl 72))]) (f := true) (sp := [79, 105]) (d0 := 0) (O := [false]) (T := [(40, [.inr (.inl 70), .inl (.int 0)], [.inr (.inl 66)]), (0, [.inr (.inl 70), .inl (.int 1)], [])]) (P := [(5, .inl (.int 49), .inr (.inl 70)), (6, .inr (.inl 70), .inl (.ref 49))]) jm_ok232 (by decide +kernel) (by decide +kernel) hd F X1 X2 (fun F' hF hs => ?_)
  have b70 := hd_b (F := F) (F' := F') (k := 70) (hF 70 (by decide))
  have a66 := hd_ba (F := F) (F' := F') (k := 66) (hF 66 (by decide))
  have t71 : sy_da F' (.inr (.inl 71)) = .inl (jm_upd (sy_ai F 66) (sy_i F 70).toNatClampNeg ((0 : Int32))) := hd_up (hs 0 _ rfl) b70 rfl a66
  have b69 := hd_b (F := F) (F' := F') (k := 69) (hF 69 (by decide))
  have t72 : sy_dv F' (.inr (.inl 72)) = .int ((sy_i F 70) + ((1 : Int32))) := hd_o (hs 1 _ rfl) b70 rfl rfl
  have hB' : iv_in F' iv_B4 := iv_in_eq hB (fun j hj => hF j (Nat.lt_of_lt_of_le hj (by decide +kernel)))
  refine ⟨List.forall_mem_cons.mpr ⟨hd_p5 rfl b70 (by have hc : ((49) : Int32).toInt = 49 := (by decide); omega), List.forall_mem_cons.mpr ⟨hd_pb b70 (by first | exact h1 | exact h1), fun _ h => absurd h List.not_mem_nil⟩⟩, ?_⟩
  refine k _ ?_ ?_ ?_ ?_
  · exact fun j hj hn => (hd_keep hB' (Nat.lt_of_lt_of_le hj (by decide +kernel)) (by simp; omega)).trans (hF j (Nat.lt_of_lt_of_le hj (by decide)))
  · exact hd_ga (a := .inr (.inl 71)) (by decide +kernel) t71
  · exact hd_gi (x := .inr (.inl 69)) (by decide +kernel) b69
  · exact hd_gi (x := .inr (.inl 72)) (by decide +kernel) t72
theorem zfr_79 {Ls : Nat} {xs : Nat → Int32} {d : Nat} {Q : Option Value → jm_h → Prop} (hd : 1 ≤ d) (F : Nat → sy_d) (X1 X2 : List jm_c) (hB : iv_in F iv_B4)
    (a70 : 0 ≤ (sy_i F 70).toInt ∧ (sy_i F 70).toInt ≤ 49)
    (k0 : 49 ≤ (sy_i F 70).toInt → ∀ F1 : Nat → sy_d, iv_in F1 iv_B4 → (∀ j, j < 69 → j ∉ ([22] : List Nat) → F1 j = F j) → (sy_i F1 22).toInt = 0 → sy_i F1 22 = (0 : Int32) → (sy_i F1 69).toInt = (sy_i F 69).toInt → sy_i F1 69 = sy_i F 69 → (sy_i F1 70).toInt = 0 → sy_i F1 70 = (0 : Int32) → hd_W Ls xs d jm_M232 Q (105, sy_dL F1 [some (.inl (.ref 1000)), some (.inr (.inl 69)), some (.inr (.inl 70)), none], sy_dS F1 [], sy_dh F1 X1 X2 (iv_H 4), 0, 0))
    (k1 : (sy_i F 70).toInt < 49 → ∀ F1 : Nat → sy_d, iv_in F1 iv_B4 → (∀ j, j < 69 → j ∉ ([66] : List Nat) → F1 j = F j) → sy_ai F1 66 = jm_upd (sy_ai F 66) ((sy_i F 70).toInt).toNat ((0 : Int32)) → (sy_i F1 69).toInt = (sy_i F 69).toInt → sy_i F1 69 = sy_i F 69 → (sy_i F1 70).toInt = ((sy_i F 70).toInt + 1) → sy_i F1 70 = (sy_i F 70) + ((1 : Int32)) → hd_W Ls xs d jm_M232 Q (79, sy_dL F1 [some (.inl (.ref 1000)), some (.inr (.inl 69)), some (.inr (.inl 70)), none], sy_dS F1 [], sy_dh F1 X1 X2 (iv_H 4), 0, 0)) :
    hd_W Ls xs d jm_M232 Q (79, sy_dL F [some (.inl (.ref 1000)), some (.inr (.inl 69)), some (.inr (.inl 70)), none], sy_dS F [], sy_dh F X1 X2 (iv_H 4), 0, 0) := by
  by_cases g0 : 49 ≤ (sy_i F 70).toInt
  · exact zfr_79_p0 hd F X1 X2 hB (by first | exact g0 | (simp only [nz_c]; exact g0)) (fun F1 g e22 e69 e70 => k0 g0 F1 (nz_in hB [22] (fun j hj hn => g j hj (by simp only [List.mem_cons, List.not_mem_nil, or_false, not_or] at hn; omega)) (List.forall_mem_cons.mpr ⟨fun t ht => (Option.some.inj ht) ▸ (nz_hz e22), List.forall_mem_nil _⟩)) (fun j hj hn => g j hj (by simp only [List.mem_cons, List.not_mem_nil, or_false, not_or] at hn; omega)) ((congrArg Int32.toInt (zz_i e22)).trans (by decide : ((0 : Int32)).toInt = 0)) ((zz_i e22).trans (rfl : (0 : Int32) = (0 : Int32))) ((congrArg Int32.toInt (zz_i e69)).trans (rfl : (sy_i F 69).toInt = (sy_i F 69).toInt)) ((zz_i e69).trans (rfl : sy_i F 69 = sy_i F 69)) ((congrArg Int32.toInt (zz_i e70)).trans (by decide : ((0 : Int32)).toInt = 0)) ((zz_i e70).trans (rfl : (0 : Int32) = (0 : Int32))))
  replace g0 : (sy_i F 70).toInt < 49 := by omega
  have w71 : jm_upd (sy_ai F 66) (sy_i F 70).toNatClampNeg ((0 : Int32)) = jm_upd (sy_ai F 66) ((sy_i F 70).toInt).toNat ((0 : Int32)) := by simp only [nz_c, (by decide : ((0 : Int32)).toInt = 0)]
  have n72 : nzI ((sy_i F 70) + ((1 : Int32))) (((sy_i F 70).toInt + 1)) := nz_add (rfl : (sy_i F 70).toInt = (sy_i F 70).toInt) (by decide : ((1 : Int32)).toInt = 1) (by omega) (by omega)
  exact zfr_79_p1 hd F X1 X2 hB (by first | exact g0 | (simp only [nz_c]; exact g0)) (by first | exact ⟨by omega, by omega⟩ | (simp only [nz_c]; exact ⟨by omega, by omega⟩)) (fun F1 g e66 e69 e70 => k1 g0 F1 (nz_in hB [66] (fun j hj hn => g j hj (by simp only [List.mem_cons, List.not_mem_nil, or_false, not_or] at hn; omega)) (List.forall_mem_cons.mpr ⟨fun t ht => (Option.some.inj ht) ▸ (nz_hz2 e66), List.forall_mem_nil _⟩)) (fun j hj hn => g j hj (by simp only [List.mem_cons, List.not_mem_nil, or_false, not_or] at hn; omega)) ((zz_ai e66).trans w71) ((congrArg Int32.toInt (zz_i e69)).trans (rfl : (sy_i F 69).toInt = (sy_i F 69).toInt)) ((zz_i e69).trans (rfl : sy_i F 69 = sy_i F 69)) ((congrArg Int32.toInt (zz_i e70)).trans (nzE n72)) ((zz_i e70).trans (rfl : (sy_i F 70) + ((1 : Int32)) = (sy_i F 70) + ((1 : Int32)))))
theorem zfr_105_p0 {Ls : Nat} {xs : Nat → Int32} {d : Nat} {Q : Option Value → jm_h → Prop} (hd : 1 ≤ d) (F : Nat → sy_d) (X1 X2 : List jm_c) (hB : iv_in F iv_B4)
    (k : ∀ F1 : Nat → sy_d, (∀ j, j < 69 → True → F1 j = F j) → F1 69 = .inl (.int (sy_i F 69)) → F1 70 = .inl (.int (sy_i F 70)) → F1 71 = .inl (.int (sy_i F 70)) → F1 72 = .inl (.int (sy_i F 69)) → hd_W Ls xs d jm_M232 Q (107, sy_dL F1 [some (.inl (.ref 1000)), some (.inr (.inl 69)), some (.inr (.inl 70)), none], sy_dS F1 [.inr (.inl 72), .inr (.inl 71)], sy_dh F1 X1 X2 (iv_H 4), 0, 0)) :
    hd_W Ls xs d jm_M232 Q (105, sy_dL F [some (.inl (.ref 1000)), some (.inr (.inl 69)), some (.inr (.inl 70)), none], sy_dS F [], sy_dh F X1 X2 (iv_H 4), 0, 0) := by
  refine hd_run (s := 4) (nv := 71) (pc := 107) (L := [some (.inl (.ref 1000)), some (.inr (.inl 69)), some (.inr (.inl 70)), none]) (S := [.inr (.inl 72), .inr (.inl 71)]) (uh := hd_ov (iv_id 0 iv_B4) []) (ul := [.inl (.inr (.inl 69)), .inl (.inr (.inl 70)), .inl (.inr (.inl 70)), .inl (.inr (.inl 69))]) (f := true) (sp := [107]) (d0 := 0) (O := []) (T := []) (P := []) jm_ok232 (by decide +kernel) (by decide +kernel) hd F X1 X2 (fun F' hF hs => ?_)
  have b69 := hd_b (F := F) (F' := F') (k := 69) (hF 69 (by decide))
  have b70 := hd_b (F := F) (F' := F') (k := 70) (hF 70 (by decide))
  have hB' : iv_in F' iv_B4 := iv_in_eq hB (fun j hj => hF j (Nat.lt_of_lt_of_le hj (by decide +kernel)))
  refine ⟨fun _ h => absurd h List.not_mem_nil, ?_⟩
  refine k _ ?_ ?_ ?_ ?_ ?_
  · exact fun j hj _ => (hd_keep hB' (Nat.lt_of_lt_of_le hj (by decide +kernel)) (by simp)).trans (hF j (Nat.lt_of_lt_of_le hj (by decide)))
  · exact hd_gi (x := .inr (.inl 69)) (by decide +kernel) b69
  · exact hd_gi (x := .inr (.inl 70)) (by decide +kernel) b70
  · exact hd_gi (x := .inr (.inl 70)) (by decide +kernel) b70
  · exact hd_gi (x := .inr (.inl 69)) (by decide +kernel) b69
theorem zfr_105 {Ls : Nat} {xs : Nat → Int32} {d : Nat} {Q : Option Value → jm_h → Prop} (hd : 1 ≤ d) (F : Nat → sy_d) (X1 X2 : List jm_c) (hB : iv_in F iv_B4)
    (a70 : 0 ≤ (sy_i F 70).toInt ∧ (sy_i F 70).toInt ≤ 823543)
    (k0 : ∀ F1 : Nat → sy_d, iv_in F1 iv_B4 → (∀ j, j < 69 → j ∉ ([] : List Nat) → F1 j = F j) → (sy_i F1 69).toInt = (sy_i F 69).toInt → sy_i F1 69 = sy_i F 69 → (sy_i F1 70).toInt = (sy_i F 70).toInt → sy_i F1 70 = sy_i F 70 → (sy_i F1 71).toInt = (sy_i F 70).toInt → sy_i F1 71 = sy_i F 70 → (sy_i F1 72).toInt = (sy_i F 69).toInt → sy_i F1 72 = sy_i F 69 → hd_W Ls xs d jm_M232 Q (107, sy_dL F1 [some (.inl (.ref 1000)), some (.inr (.inl 69)), some (.inr (.inl 70)), none], sy_dS F1 [.inr (.inl 72), .inr (.inl 71)], sy_dh F1 X1 X2 (iv_H 4), 0, 0)) :
    hd_W Ls xs d jm_M232 Q (105, sy_dL F [some (.inl (.ref 1000)), some (.inr (.inl 69)), some (.inr (.inl 70)), none], sy_dS F [], sy_dh F X1 X2 (iv_H 4), 0, 0) := by
  exact zfr_105_p0 hd F X1 X2 hB  (fun F1 g e69 e70 e71 e72 => k0 F1 (nz_in hB [] (fun j hj hn => g j hj (by simp only [List.mem_cons, List.not_mem_nil, or_false, not_or] at hn; exact trivial)) (List.forall_mem_nil _)) (fun j hj hn => g j hj (by simp only [List.mem_cons, List.not_mem_nil, or_false, not_or] at hn; exact trivial)) ((congrArg Int32.toInt (zz_i e69)).trans (rfl : (sy_i F 69).toInt = (sy_i F 69).toInt)) ((zz_i e69).trans (rfl : sy_i F 69 = sy_i F 69)) ((congrArg Int32.toInt (zz_i e70)).trans (rfl : (sy_i F 70).toInt = (sy_i F 70).toInt)) ((zz_i e70).trans (rfl : sy_i F 70 = sy_i F 70)) ((congrArg Int32.toInt (zz_i e71)).trans (rfl : (sy_i F 70).toInt = (sy_i F 70).toInt)) ((zz_i e71).trans (rfl : sy_i F 70 = sy_i F 70)) ((congrArg Int32.toInt (zz_i e72)).trans (rfl : (sy_i F 69).toInt = (sy_i F 69).toInt)) ((zz_i e72).trans (rfl : sy_i F 69 = sy_i F 69)))
theorem zfr_110_p0 {Ls : Nat} {xs : Nat → Int32} {d : Nat} {Q : Option Value → jm_h → Prop} (hd : 1 ≤ d) (F : Nat → sy_d) (X1 X2 : List jm_c) (hB : iv_in F iv_B4)
    (h0 : (sy_i F 72).toInt ≤ (sy_i F 71).toInt)
    (k : ∀ F1 : Nat → sy_d, (∀ j, j < 69 → True → F1 j = F j) → Q (none) (sy_dh F1 X1 X2 (iv_H 4))) :
    hd_W Ls xs d jm_M232 Q (110, sy_dL F [some (.inl (.ref 1000)), some (.inr (.inl 69)), some (.inr (.inl 70)), none], sy_dS F [.inr (.inl 72), .inr (.inl 71)], sy_dh F X1 X2 (iv_H 4), 0, 0) := by
  refine hd_ret (s := 4) (nv := 73) (v := none) (uh := hd_ov (iv_id 0 iv_B4) []) (f := false) (sp := [116]) (d0 := 0) (O := [true]) (T := []) (P := [(4, .inr (.inl 72), .inr (.inl 71))]) jm_ok232 (by decide +kernel) (by decide +kernel) hd F X1 X2 (fun F' hF hs => ?_)
  have b72 := hd_b (F := F) (F' := F') (k := 72) (hF 72 (by decide))
  have b71 := hd_b (F := F) (F' := F') (k := 71) (hF 71 (by decide))
  have hB' : iv_in F' iv_B4 := iv_in_eq hB (fun j hj => hF j (Nat.lt_of_lt_of_le hj (by decide +kernel)))
  refine ⟨List.forall_mem_cons.mpr ⟨hd_p4 b72 b71 h0, fun _ h => absurd h List.not_mem_nil⟩, ?_⟩
  refine k _ ?_
  · exact fun j hj _ => (hd_keep hB' (Nat.lt_of_lt_of_le hj (by decide +kernel)) (by simp)).trans (hF j (Nat.lt_of_lt_of_le hj (by decide)))
theorem zfr_110_p1 {Ls : Nat} {xs : Nat → Int32} {d : Nat} {Q : Option Value → jm_h → Prop} (hd : 1 ≤ d) (F : Nat → sy_d) (X1 X2 : List jm_c) (hB : iv_in F iv_B4)
    (h0 : (sy_i F 71).toInt < (sy_i F 72).toInt)
    (k : ∀ F1 : Nat → sy_d, (∀ j, j < 69 → True → F1 j = F j) → F1 69 = .inl (.int (sy_i F 69)) → F1 70 = .inl (.int (sy_i F 70)) → F1 71 = .inl (.int (sy_i F 70)) → F1 72 = .inl (.int (sy_i F 69)) → hd_W Ls xs d jm_M232 Q (116, sy_dL F1 [some (.inl (.ref 1000)), some (.inr (.inl 69)), some (.inr (.inl 70)), none], sy_dS F1 [.inr (.inl 72), .inr (.inl 71), .inl (.ref 1000)], sy_dh F1 X1 X2 (iv_H 4), 0, 0)) :
    hd_W Ls xs d jm_M232 Q (110, sy_dL F [some (.inl (.ref 1000)), some (.inr (.inl 69)), some (.inr (.inl 70)), none], sy_dS F [.inr (.inl 72), .inr (.inl 71)], sy_dh F X1 X2 (iv_H 4), 0, 0) := by
  refine hd_run (s := 4) (nv := 73) (pc := 116) (L := [some (.inl (.ref 1000)), some (.inr (.inl 69)), some (.inr (.inl 70)), none]) (S := [.inr (.inl 72), .inr (.inl 71), .inl (.ref 1000)]) (uh := hd_ov (iv_id 0 iv_B4) []) (ul := [.inl (.inr (.inl 69)), .inl (.inr (.inl 70)), .inl (.inr (.inl 70)), .inl (.inr (.inl 69))]) (f := false) (sp := [116]) (d0 := 0) (O := [false]) (T := []) (P := [(5, .inr (.inl 72), .inr (.inl 71))]) jm_ok232 (by decide +kernel) (by decide +kernel) hd F X1 X2 (fun F' hF hs => ?_)
  have b72 := hd_b (F := F) (F' := F') (k := 72) (hF 72 (by decide))
  have b71 := hd_b (F := F) (F' := F') (k := 71) (hF 71 (by decide))
  have b69 := hd_b (F := F) (F' := F') (k := 69) (hF 69 (by decide))
  have b70 := hd_b (F := F) (F' := F') (k := 70) (hF 70 (by decide))
  have hB' : iv_in F' iv_B4 := iv_in_eq hB (fun j hj => hF j (Nat.lt_of_lt_of_le hj (by decide +kernel)))
  refine ⟨List.forall_mem_cons.mpr ⟨hd_p5 b72 b71 h0, fun _ h => absurd h List.not_mem_nil⟩, ?_⟩
  refine k _ ?_ ?_ ?_ ?_ ?_
  · exact fun j hj _ => (hd_keep hB' (Nat.lt_of_lt_of_le hj (by decide +kernel)) (by simp)).trans (hF j (Nat.lt_of_lt_of_le hj (by decide)))
  · exact hd_gi (x := .inr (.inl 69)) (by decide +kernel) b69
  · exact hd_gi (x := .inr (.inl 70)) (by decide +kernel) b70
  · exact hd_gi (x := .inr (.inl 70)) (by decide +kernel) b70
  · exact hd_gi (x := .inr (.inl 69)) (by decide +kernel) b69
theorem zfr_110 {Ls : Nat} {xs : Nat → Int32} {d : Nat} {Q : Option Value → jm_h → Prop} (hd : 1 ≤ d) (F : Nat → sy_d) (X1 X2 : List jm_c) (hB : iv_in F iv_B4)
    (a70 : 0 ≤ (sy_i F 70).toInt ∧ (sy_i F 70).toInt ≤ 823543)
    (k0 : (sy_i F 72).toInt ≤ (sy_i F 71).toInt → ∀ F1 : Nat → sy_d, iv_in F1 iv_B4 → (∀ j, j < 69 → j ∉ ([] : List Nat) → F1 j = F j) → Q (none) (sy_dh F1 X1 X2 (iv_H 4)))
    (k1 : (sy_i F 71).toInt < (sy_i F 72).toInt → ∀ F1 : Nat → sy_d, iv_in F1 iv_B4 → (∀ j, j < 69 → j ∉ ([] : List Nat) → F1 j = F j) → (sy_i F1 69).toInt = (sy_i F 69).toInt → sy_i F1 69 = sy_i F 69 → (sy_i F1 70).toInt = (sy_i F 70).toInt → sy_i F1 70 = sy_i F 70 → (sy_i F1 71).toInt = (sy_i F 70).toInt → sy_i F1 71 = sy_i F 70 → (sy_i F1 72).toInt = (sy_i F 69).toInt → sy_i F1 72 = sy_i F 69 → hd_W Ls xs d jm_M232 Q (116, sy_dL F1 [some (.inl (.ref 1000)), some (.inr (.inl 69)), some (.inr (.inl 70)), none], sy_dS F1 [.inr (.inl 72), .inr (.inl 71), .inl (.ref 1000)], sy_dh F1 X1 X2 (iv_H 4), 0, 0)) :
    hd_W Ls xs d jm_M232 Q (110, sy_dL F [some (.inl (.ref 1000)), some (.inr (.inl 69)), some (.inr (.inl 70)), none], sy_dS F [.inr (.inl 72), .inr (.inl 71)], sy_dh F X1 X2 (iv_H 4), 0, 0) := by
  by_cases g0 : (sy_i F 72).toInt ≤ (sy_i F 71).toInt
  · exact zfr_110_p0 hd F X1 X2 hB (by first | exact g0 | (simp only [nz_c]; exact g0)) (fun F1 g  => k0 g0 F1 (nz_in hB [] (fun j hj hn => g j hj (by simp only [List.mem_cons, List.not_mem_nil, or_false, not_or] at hn; exact trivial)) (List.forall_mem_nil _)) (fun j hj hn => g j hj (by simp only [List.mem_cons, List.not_mem_nil, or_false, not_or] at hn; exact trivial)) )
  replace g0 : (sy_i F 71).toInt < (sy_i F 72).toInt := by omega
  exact zfr_110_p1 hd F X1 X2 hB (by first | exact g0 | (simp only [nz_c]; exact g0)) (fun F1 g e69 e70 e71 e72 => k1 g0 F1 (nz_in hB [] (fun j hj hn => g j hj (by simp only [List.mem_cons, List.not_mem_nil, or_false, not_or] at hn; exact trivial)) (List.forall_mem_nil _)) (fun j hj hn => g j hj (by simp only [List.mem_cons, List.not_mem_nil, or_false, not_or] at hn; exact trivial)) ((congrArg Int32.toInt (zz_i e69)).trans (rfl : (sy_i F 69).toInt = (sy_i F 69).toInt)) ((zz_i e69).trans (rfl : sy_i F 69 = sy_i F 69)) ((congrArg Int32.toInt (zz_i e70)).trans (rfl : (sy_i F 70).toInt = (sy_i F 70).toInt)) ((zz_i e70).trans (rfl : sy_i F 70 = sy_i F 70)) ((congrArg Int32.toInt (zz_i e71)).trans (rfl : (sy_i F 70).toInt = (sy_i F 70).toInt)) ((zz_i e71).trans (rfl : sy_i F 70 = sy_i F 70)) ((congrArg Int32.toInt (zz_i e72)).trans (rfl : (sy_i F 69).toInt = (sy_i F 69).toInt)) ((zz_i e72).trans (rfl : sy_i F 69 = sy_i F 69)))
theorem zfr_119_p0 {Ls : Nat} {xs : Nat → Int32} {d : Nat} {Q : Option Value → jm_h → Prop} (hd : 1 ≤ d) (F : Nat → sy_d) (X1 X2 : List jm_c) (hB : iv_in F iv_B4)
    (h0 : (sy_i F 71).toInt ≠ 0)
    (k : ∀ F1 : Nat → sy_d, (∀ j, j < 69 → j ≠ 22 → F1 j = F j) → F1 22 = .inl (.int ((sy_i F 22) + ((1 : Int32)))) → F1 69 = .inl (.int (sy_i F 69)) → F1 70 = .inl (.int (sy_i F 70)) → F1 71 = .inl (.int ((0 : Int32))) → hd_W Ls xs d jm_M232 Q (137, sy_dL F1 [some (.inl (.ref 1000)), some (.inr (.inl 69)), some (.inr (.inl 70)), some (.inr (.inl 71))], sy_dS F1 [], sy_dh F1 X1 X2 (iv_H 4), 0, 0)) :
    hd_W Ls xs d jm_M232 Q (119, sy_dL F [some (.inl (.ref 1000)), some (.inr (.inl 69)), some (.inr (.inl 70)), none], sy_dS F [.inr (.inl 71)], sy_dh F X1 X2 (iv_H 4), 0, 0) := by
  refine hd_run (s := 4) (nv := 72) (pc := 137) (L := [some (.inl (.ref 1000)), some (.inr (.inl 69)), some (.inr (.inl 70)), some (.inr (.inl 71))]) (S := []) (uh := hd_ov (iv_id 0 iv_B4) [(22, .inl (.inr (.inl 72)))]) (ul := [.inl (.inr (.inl 69)), .inl (.inr (.inl 70)), .inl (.inl (.int 0))]) (f := false) (sp := [105, 137]) (d0 := 0) (O := [true]) (T := [(0, [.inr (.inl 22), .inl (.int 1)], [])]) (P := [(1, .inr (.inl 71), .inl (.int 0))]) jm_ok232 (by decide +kernel) (by decide +kernel) hd F X1 X2 (fun F' hF hs => ?_)
  have b71 := hd_b (F := F) (F' := F') (k := 71) (hF 71 (by decide))
  have b22 := hd_b (F := F) (F' := F') (k := 22) (hF 22 (by decide))
  have t72 : sy_dv F' (.inr (.inl 72)) = .int ((sy_i F 22) + ((1 : Int32))) := hd_o (hs 0 _ rfl) b22 rfl rfl
  have b69 := hd_b (F := F) (F' := F') (k := 69) (hF 69 (by decide))
  have b70 := hd_b (F := F) (F' := F') (k := 70) (hF 70 (by decide))
  have hB' : iv_in F' iv_B4 := iv_in_eq hB (fun j hj => hF j (Nat.lt_of_lt_of_le hj (by decide +kernel)))
  refine ⟨List.forall_mem_cons.mpr ⟨hd_p1 b71 rfl (by have hc : ((0) : Int32).toInt = 0 := (by decide); omega), fun _ h => absurd h List.not_mem_nil⟩, ?_⟩
  refine k _ ?_ ?_ ?_ ?_ ?_
  · exact fun j hj hn => (hd_keep hB' (Nat.lt_of_lt_of_le hj (by decide +kernel)) (by simp; omega)).trans (hF j (Nat.lt_of_lt_of_le hj (by decide)))
  · exact hd_gi (x := .inr (.inl 72)) (by decide +kernel) t72
  · exact hd_gi (x := .inr (.inl 69)) (by decide +kernel) b69
  · exact hd_gi (x := .inr (.inl 70)) (by decide +kernel) b70
  · exact hd_gi (x := .inl (.int 0)) (by decide +kernel) rfl
theorem zfr_119_p1 {Ls : Nat} {xs : Nat → Int32} {d : Nat} {Q : Option Value → jm_h → Prop} (hd : 1 ≤ d) (F : Nat → sy_d) (X1 X2 : List jm_c) (hB : iv_in F iv_B4)
    (h0 : (sy_i F 71).toInt = 0)
    (k : ∀ F1 : Nat → sy_d, (∀ j, j < 69 → True → F1 j = F j) → F1 69 = .inl (.int (sy_i F 69)) → F1 70 = .inl (.int ((sy_i F 70) + ((1 : Int32)))) → hd_W Ls xs d jm_M232 Q (105, sy_dL F1 [some (.inl (.ref 1000)), some (.inr (.inl 69)), some (.inr (.inl 70)), none], sy_dS F1 [], sy_dh F1 X1 X2 (iv_H 4), 0, 0)) :
    hd_W Ls xs d jm_M232 Q (119, sy_dL F [some (.inl (.ref 1000)), some (.inr (.inl 69)), some (.inr (.inl 70)), none], sy_dS F [.inr (.inl 71)], sy_dh F X1 X2 (iv_H 4), 0, 0) := by
  refine hd_run (s := 4) (nv := 72) (pc := 105) (L := [some (.inl (.ref 1000)), some (.inr (.inl 69)), some (.inr (.inl 70)), none]) (S := []) (uh := hd_ov (iv_id 0 iv_B4) []) (ul := [.inl (.inr (.inl 69)), .inl (.inr (.inl 72))]) (f := false) (sp := [105, 137]) (d0 := 0) (O := [false]) (T := [(0, [.inr (.inl 70), .inl (.int 1)], [])]) (P := [(0, .inr (.inl 71), .inl (.int 0))]) jm_ok232 (by decide +kernel) (by decide +kernel) hd F X1 X2 (fun F' hF hs => ?_)
  have b71 := hd_b (F := F) (F' := F') (k := 71) (hF 71 (by decide))
  have b69 := hd_b (F := F) (F' := F') (k := 69) (hF 69 (by decide))
  have b70 := hd_b (F := F) (F' := F') (k := 70) (hF 70 (by decide))
  have t72 : sy_dv F' (.inr (.inl 72)) = .int ((sy_i F 70) + ((1 : Int32))) := hd_o (hs 0 _ rfl) b70 rfl rfl
  have hB' : iv_in F' iv_B4 := iv_in_eq hB (fun j hj => hF j (Nat.lt_of_lt_of_le hj (by decide +kernel)))
  refine ⟨List.forall_mem_cons.mpr ⟨hd_p0 b71 rfl (by have hc : ((0) : Int32).toInt = 0 := (by decide); omega), fun _ h => absurd h List.not_mem_nil⟩, ?_⟩
  refine k _ ?_ ?_ ?_
  · exact fun j hj _ => (hd_keep hB' (Nat.lt_of_lt_of_le hj (by decide +kernel)) (by simp)).trans (hF j (Nat.lt_of_lt_of_le hj (by decide)))
  · exact hd_gi (x := .inr (.inl 69)) (by decide +kernel) b69
  · exact hd_gi (x := .inr (.inl 72)) (by decide +kernel) t72
theorem zfr_119 {Ls : Nat} {xs : Nat → Int32} {d : Nat} {Q : Option Value → jm_h → Prop} (hd : 1 ≤ d) (F : Nat → sy_d) (X1 X2 : List jm_c) (hB : iv_in F iv_B4)
    (a70 : 0 ≤ (sy_i F 70).toInt ∧ (sy_i F 70).toInt ≤ 823542)
    (k0 : (sy_i F 71).toInt ≠ 0 → ∀ F1 : Nat → sy_d, iv_in F1 iv_B4 → (∀ j, j < 69 → j ∉ ([22] : List Nat) → F1 j = F j) → (sy_i F1 22).toInt = ((sy_i F 22) + ((1 : Int32))).toInt → sy_i F1 22 = (sy_i F 22) + ((1 : Int32)) → (sy_i F1 69).toInt = (sy_i F 69).toInt → sy_i F1 69 = sy_i F 69 → (sy_i F1 70).toInt = (sy_i F 70).toInt → sy_i F1 70 = sy_i F 70 → (sy_i F1 71).toInt = 0 → sy_i F1 71 = (0 : Int32) → hd_W Ls xs d jm_M232 Q (137, sy_dL F1 [some (.inl (.ref 1000)), some (.inr (.inl 69)), some (.inr (.inl 70)), some (.inr (.inl 71))], sy_dS F1 [], sy_dh F1 X1 X2 (iv_H 4), 0, 0))
    (k1 : (sy_i F 71).toInt = 0 → ∀ F1 : Nat → sy_d, iv_in F1 iv_B4 → (∀ j, j < 69 → j ∉ ([] : List Nat) → F1 j = F j) → (sy_i F1 69).toInt = (sy_i F 69).toInt → sy_i F1 69 = sy_i F 69 → (sy_i F1 70).toInt = ((sy_i F 70).toInt + 1) → sy_i F1 70 = (sy_i F 70) + ((1 : Int32)) → hd_W Ls xs d jm_M232 Q (105, sy_dL F1 [some (.inl (.ref 1000)), some (.inr (.inl 69)), some (.inr (.inl 70)), none], sy_dS F1 [], sy_dh F1 X1 X2 (iv_H 4), 0, 0)) :
    hd_W Ls xs d jm_M232 Q (119, sy_dL F [some (.inl (.ref 1000)), some (.inr (.inl 69)), some (.inr (.inl 70)), none], sy_dS F [.inr (.inl 71)], sy_dh F X1 X2 (iv_H 4), 0, 0) := by
  by_cases g0 : (sy_i F 71).toInt ≠ 0
  · have n72 : nzI ((sy_i F 22) + ((1 : Int32))) (((sy_i F 22) + ((1 : Int32))).toInt) := congrArg Int32.toInt (rfl : (sy_i F 22) + ((1 : Int32)) = (sy_i F 22) + ((1 : Int32)))
    exact zfr_119_p0 hd F X1 X2 hB (by first | exact g0 | (simp only [nz_c]; exact g0)) (fun F1 g e22 e69 e70 e71 => k0 g0 F1 (nz_in hB [22] (fun j hj hn => g j hj (by simp only [List.mem_cons, List.not_mem_nil, or_false, not_or] at hn; omega)) (List.forall_mem_cons.mpr ⟨fun t ht => (Option.some.inj ht) ▸ (nz_hz e22), List.forall_mem_nil _⟩)) (fun j hj hn => g j hj (by simp only [List.mem_cons, List.not_mem_nil, or_false, not_or] at hn; omega)) ((congrArg Int32.toInt (zz_i e22)).trans (nzE n72)) ((zz_i e22).trans (rfl : (sy_i F 22) + ((1 : Int32)) = (sy_i F 22) + ((1 : Int32)))) ((congrArg Int32.toInt (zz_i e69)).trans (rfl : (sy_i F 69).toInt = (sy_i F 69).toInt)) ((zz_i e69).trans (rfl : sy_i F 69 = sy_i F 69)) ((congrArg Int32.toInt (zz_i e70)).trans (rfl : (sy_i F 70).toInt = (sy_i F 70).toInt)) ((zz_i e70).trans (rfl : sy_i F 70 = sy_i F 70)) ((congrArg Int32.toInt (zz_i e71)).trans (by decide : ((0 : Int32)).toInt = 0)) ((zz_i e71).trans (rfl : (0 : Int32) = (0 : Int32))))
  replace g0 : (sy_i F 71).toInt = 0 := by omega
  have n72 : nzI ((sy_i F 70) + ((1 : Int32))) (((sy_i F 70).toInt + 1)) := nz_add (rfl : (sy_i F 70).toInt = (sy_i F 70).toInt) (by decide : ((1 : Int32)).toInt = 1) (by omega) (by omega)
  exact zfr_119_p1 hd F X1 X2 hB (by first | exact g0 | (simp only [nz_c]; exact g0)) (fun F1 g e69 e70 => k1 g0 F1 (nz_in hB [] (fun j hj hn => g j hj (by simp only [List.mem_cons, List.not_mem_nil, or_false, not_or] at hn; exact trivial)) (List.forall_mem_nil _)) (fun j hj hn => g j hj (by simp only [List.mem_cons, List.not_mem_nil, or_false, not_or] at hn; exact trivial)) ((congrArg Int32.toInt (zz_i e69)).trans (rfl : (sy_i F 69).toInt = (sy_i F 69).toInt)) ((zz_i e69).trans (rfl : sy_i F 69 = sy_i F 69)) ((congrArg Int32.toInt (zz_i e70)).trans (nzE n72)) ((zz_i e70).trans (rfl : (sy_i F 70) + ((1 : Int32)) = (sy_i F 70) + ((1 : Int32)))))
theorem zfr_137_p0 {Ls : Nat} {xs : Nat → Int32} {d : Nat} {Q : Option Value → jm_h → Prop} (hd : 1 ≤ d) (F : Nat → sy_d) (X1 X2 : List jm_c) (hB : iv_in F iv_B4)
    (h0 : (sy_i F 69).toInt ≤ (sy_i F 71).toInt)
    (k : ∀ F1 : Nat → sy_d, (∀ j, j < 69 → True → F1 j = F j) → F1 69 = .inl (.int (sy_i F 69)) → F1 70 = .inl (.int ((sy_i F 70) + ((1 : Int32)))) → hd_W Ls xs d jm_M232 Q (105, sy_dL F1 [some (.inl (.ref 1000)), some (.inr (.inl 69)), some (.inr (.inl 70)), none], sy_dS F1 [], sy_dh F1 X1 X2 (iv_H 4), 0, 0)) :
    hd_W Ls xs d jm_M232 Q (137, sy_dL F [some (.inl (.ref 1000)), some (.inr (.inl 69)), some (.inr (.inl 70)), some (.inr (.inl 71))], sy_dS F [], sy_dh F X1 X2 (iv_H 4), 0, 0) := by
  refine hd_run (s := 4) (nv := 72) (pc := 105) (L := [some (.inl (.ref 1000)), some (.inr (.inl 69)), some (.inr (.inl 70)), none]) (S := []) (uh := hd_ov (iv_id 0 iv_B4) []) (ul := [.inl (.inr (.inl 69)), .inl (.inr (.inl 72))]) (f := true) (sp := [105, 156]) (d0 := 0) (O := [true]) (T := [(0, [.inr (.inl 70), .inl (.int 1)], [])]) (P := [(4, .inr (.inl 69), .inr (.inl 71))]) jm_ok232 (by decide +kernel) (by decide +kernel) hd F X1 X2 (fun F' hF hs => ?_)
  have b69 := hd_b (F := F) (F' := F') (k := 69) (hF 69 (by decide))
  have b71 := hd_b (F := F) (F' := F') (k := 71) (hF 71 (by decide))
  have b70 := hd_b (F := F) (F' := F') (k := 70) (hF 70 (by decide))
  have t72 : sy_dv F' (.inr (.inl 72)) = .int ((sy_i F 70) + ((1 : Int32))) := hd_o (hs 0 _ rfl) b70 rfl rfl
  have hB' : iv_in F' iv_B4 := iv_in_eq hB (fun j hj => hF j (Nat.lt_of_lt_of_le hj (by decide +kernel)))
  refine ⟨List.forall_mem_cons.mpr ⟨hd_p4 b69 b71 h0, fun _ h => absurd h List.not_mem_nil⟩, ?_⟩
  refine k _ ?_ ?_ ?_
  · exact fun j hj _ => (hd_keep hB' (Nat.lt_of_lt_of_le hj (by decide +kernel)) (by simp)).trans (hF j (Nat.lt_of_lt_of_le hj (by decide)))
  · exact hd_gi (x := .inr (.inl 69)) (by decide +kernel) b69
  · exact hd_gi (x := .inr (.inl 72)) (by decide +kernel) t72
theorem zfr_137_p1 {Ls : Nat} {xs : Nat → Int32} {d : Nat} {Q : Option Value → jm_h → Prop} (hd : 1 ≤ d) (F : Nat → sy_d) (X1 X2 : List jm_c) (hB : iv_in F iv_B4)
    (h0 : (sy_i F 71).toInt < (sy_i F 69).toInt)
    (k : ∀ F1 : Nat → sy_d, (∀ j, j < 69 → True → F1 j = F j) → F1 69 = .inl (.int (sy_i F 69)) → F1 70 = .inl (.int (sy_i F 70)) → F1 71 = .inl (.int (sy_i F 71)) → F1 72 = .inl (.int (((7 : Int32)) * (sy_i F 71))) → F1 73 = .inl (.int (sy_i F 70)) → F1 74 = .inl (.int (((sy_i F 69) - ((1 : Int32))) - (sy_i F 71))) → hd_W Ls xs d jm_M232 Q (156, sy_dL F1 [some (.inl (.ref 1000)), some (.inr (.inl 69)), some (.inr (.inl 70)), some (.inr (.inl 71))], sy_dS F1 [.inr (.inl 74), .inr (.inl 73), .inr (.inl 72), .inl (.ref 1044)], sy_dh F1 X1 X2 (iv_H 4), 0, 0)) :
    hd_W Ls xs d jm_M232 Q (137, sy_dL F [some (.inl (.ref 1000)), some (.inr (.inl 69)), some (.inr (.inl 70)), some (.inr (.inl 71))], sy_dS F [], sy_dh F X1 X2 (iv_H 4), 0, 0) := by
  refine hd_run (s := 4) (nv := 72) (pc := 156) (L := [some (.inl (.ref 1000)), some (.inr (.inl 69)), some (.inr (.inl 70)), some (.inr (.inl 71))]) (S := [.inr (.inl 74), .inr (.inl 73), .inr (.inl 72), .inl (.ref 1044)]) (uh := hd_ov (iv_id 0 iv_B4) []) (ul := [.inl (.inr (.inl 69)), .inl (.inr (.inl 70)), .inl (.inr (.inl 71)), .inl (.inr (.inl 72)), .inl (.inr (.inl 70)), .inl (.inr (.inl 74))]) (f := true) (sp := [105, 156]) (d0 := 0) (O := [false]) (T := [(2, [.inl (.int 7), .inr (.inl 71)], []), (1, [.inr (.inl 69), .inl (.int 1)], []), (1, [.inr (.inl 73), .inr (.inl 71)], [])]) (P := [(5, .inr (.inl 69), .inr (.inl 71))]) jm_ok232 (by decide +kernel) (by decide +kernel) hd F X1 X2 (fun F' hF hs => ?_)
  have b69 := hd_b (F := F) (F' := F') (k := 69) (hF 69 (by decide))
  have b71 := hd_b (F := F) (F' := F') (k := 71) (hF 71 (by decide))
  have b70 := hd_b (F := F) (F' := F') (k := 70) (hF 70 (by decide))
  have t72 : sy_dv F' (.inr (.inl 72)) = .int (((7 : Int32)) * (sy_i F 71)) := hd_o (hs 0 _ rfl) rfl b71 rfl
  have t73 : sy_dv F' (.inr (.inl 73)) = .int ((sy_i F 69) - ((1 : Int32))) := hd_o (hs 1 _ rfl) b69 rfl rfl
  have t74 : sy_dv F' (.inr (.inl 74)) = .int (((sy_i F 69) - ((1 : Int32))) - (sy_i F 71)) := hd_o (hs 2 _ rfl) t73 b71 rfl
  have hB' : iv_in F' iv_B4 := iv_in_eq hB (fun j hj => hF j (Nat.lt_of_lt_of_le hj (by decide +kernel)))
  refine ⟨List.forall_mem_cons.mpr ⟨hd_p5 b69 b71 h0, fun _ h => absurd h List.not_mem_nil⟩, ?_⟩
  refine k _ ?_ ?_ ?_ ?_ ?_ ?_ ?_
  · exact fun j hj _ => (hd_keep hB' (Nat.lt_of_lt_of_le hj (by decide +kernel)) (by simp)).trans (hF j (Nat.lt_of_lt_of_le hj (by decide)))
  · exact hd_gi (x := .inr (.inl 69)) (by decide +kernel) b69
  · exact hd_gi (x := .inr (.inl 70)) (by decide +kernel) b70
  · exact hd_gi (x := .inr (.inl 71)) (by decide +kernel) b71
  · exact hd_gi (x := .inr (.inl 72)) (by decide +kernel) t72
  · exact hd_gi (x := .inr (.inl 70)) (by decide +kernel) b70
  · exact hd_gi (x := .inr (.inl 74)) (by decide +kernel) t74
theorem zfr_137 {Ls : Nat} {xs : Nat → Int32} {d : Nat} {Q : Option Value → jm_h → Prop} (hd : 1 ≤ d) (F : Nat → sy_d) (X1 X2 : List jm_c) (hB : iv_in F iv_B4)
    (a69 : 0 ≤ (sy_i F 69).toInt ∧ (sy_i F 69).toInt ≤ 7)
    (a70 : 0 ≤ (sy_i F 70).toInt ∧ (sy_i F 70).toInt ≤ 823542)
    (a71 : 0 ≤ (sy_i F 71).toInt ∧ (sy_i F 71).toInt ≤ 7)
    (k0 : (sy_i F 69).toInt ≤ (sy_i F 71).toInt → ∀ F1 : Nat → sy_d, iv_in F1 iv_B4 → (∀ j, j < 69 → j ∉ ([] : List Nat) → F1 j = F j) → (sy_i F1 69).toInt = (sy_i F 69).toInt → sy_i F1 69 = sy_i F 69 → (sy_i F1 70).toInt = ((sy_i F 70).toInt + 1) → sy_i F1 70 = (sy_i F 70) + ((1 : Int32)) → hd_W Ls xs d jm_M232 Q (105, sy_dL F1 [some (.inl (.ref 1000)), some (.inr (.inl 69)), some (.inr (.inl 70)), none], sy_dS F1 [], sy_dh F1 X1 X2 (iv_H 4), 0, 0))
    (k1 : (sy_i F 71).toInt < (sy_i F 69).toInt → ∀ F1 : Nat → sy_d, iv_in F1 iv_B4 → (∀ j, j < 69 → j ∉ ([] : List Nat) → F1 j = F j) → (sy_i F1 69).toInt = (sy_i F 69).toInt → sy_i F1 69 = sy_i F 69 → (sy_i F1 70).toInt = (sy_i F 70).toInt → sy_i F1 70 = sy_i F 70 → (sy_i F1 71).toInt = (sy_i F 71).toInt → sy_i F1 71 = sy_i F 71 → (sy_i F1 72).toInt = (7 * (sy_i F 71).toInt) → sy_i F1 72 = ((7 : Int32)) * (sy_i F 71) → (sy_i F1 73).toInt = (sy_i F 70).toInt → sy_i F1 73 = sy_i F 70 → (sy_i F1 74).toInt = (((sy_i F 69).toInt - 1) - (sy_i F 71).toInt) → sy_i F1 74 = ((sy_i F 69) - ((1 : Int32))) - (sy_i F 71) → hd_W Ls xs d jm_M232 Q (156, sy_dL F1 [some (.inl (.ref 1000)), some (.inr (.inl 69)), some (.inr (.inl 70)), some (.inr (.inl 71))], sy_dS F1 [.inr (.inl 74), .inr (.inl 73), .inr (.inl 72), .inl (.ref 1044)], sy_dh F1 X1 X2 (iv_H 4), 0, 0)) :
    hd_W Ls xs d jm_M232 Q (137, sy_dL F [some (.inl (.ref 1000)), some (.inr (.inl 69)), some (.inr (.inl 70)), some (.inr (.inl 71))], sy_dS F [], sy_dh F X1 X2 (iv_H 4), 0, 0) := by
  by_cases g0 : (sy_i F 69).toInt ≤ (sy_i F 71).toInt
  · have n72 : nzI ((sy_i F 70) + ((1 : Int32))) (((sy_i F 70).toInt + 1)) := nz_add (rfl : (sy_i F 70).toInt = (sy_i F 70).toInt) (by decide : ((1 : Int32)).toInt = 1) (by omega) (by omega)
    exact zfr_137_p0 hd F X1 X2 hB (by first | exact g0 | (simp only [nz_c]; exact g0)) (fun F1 g e69 e70 => k0 g0 F1 (nz_in hB [] (fun j hj hn => g j hj (by simp only [List.mem_cons, List.not_mem_nil, or_false, not_or] at hn; exact trivial)) (List.forall_mem_nil _)) (fun j hj hn => g j hj (by simp only [List.mem_cons, List.not_mem_nil, or_false, not_or] at hn; exact trivial)) ((congrArg Int32.toInt (zz_i e69)).trans (rfl : (sy_i F 69).toInt = (sy_i F 69).toInt)) ((zz_i e69).trans (rfl : sy_i F 69 = sy_i F 69)) ((congrArg Int32.toInt (zz_i e70)).trans (nzE n72)) ((zz_i e70).trans (rfl : (sy_i F 70) + ((1 : Int32)) = (sy_i F 70) + ((1 : Int32)))))
  replace g0 : (sy_i F 71).toInt < (sy_i F 69).toInt := by omega
  have n72 : nzI (((7 : Int32)) * (sy_i F 71)) ((7 * (sy_i F 71).toInt)) := nz_mul (by decide : ((7 : Int32)).toInt = 7) (rfl : (sy_i F 71).toInt = (sy_i F 71).toInt) (by omega) (by omega)
  have n73 : nzI ((sy_i F 69) - ((1 : Int32))) (((sy_i F 69).toInt - 1)) := nz_sub (rfl : (sy_i F 69).toInt = (sy_i F 69).toInt) (by decide : ((1 : Int32)).toInt = 1) (by omega) (by omega)
  have n74 : nzI (((sy_i F 69) - ((1 : Int32))) - (sy_i F 71)) ((((sy_i F 69).toInt - 1) - (sy_i F 71).toInt)) := nz_sub (nzE n73) (rfl : (sy_i F 71).toInt = (sy_i F 71).toInt) (by omega) (by omega)
  exact zfr_137_p1 hd F X1 X2 hB (by first | exact g0 | (simp only [nz_c]; exact g0)) (fun F1 g e69 e70 e71 e72 e73 e74 => k1 g0 F1 (nz_in hB [] (fun j hj hn => g j hj (by simp only [List.mem_cons, List.not_mem_nil, or_false, not_or] at hn; exact trivial)) (List.forall_mem_nil _)) (fun j hj hn => g j hj (by simp only [List.mem_cons, List.not_mem_nil, or_false, not_or] at hn; exact trivial)) ((congrArg Int32.toInt (zz_i e69)).trans (rfl : (sy_i F 69).toInt = (sy_i F 69).toInt)) ((zz_i e69).trans (rfl : sy_i F 69 = sy_i F 69)) ((congrArg Int32.toInt (zz_i e70)).trans (rfl : (sy_i F 70).toInt = (sy_i F 70).toInt)) ((zz_i e70).trans (rfl : sy_i F 70 = sy_i F 70)) ((congrArg Int32.toInt (zz_i e71)).trans (rfl : (sy_i F 71).toInt = (sy_i F 71).toInt)) ((zz_i e71).trans (rfl : sy_i F 71 = sy_i F 71)) ((congrArg Int32.toInt (zz_i e72)).trans (nzE n72)) ((zz_i e72).trans (rfl : ((7 : Int32)) * (sy_i F 71) = ((7 : Int32)) * (sy_i F 71))) ((congrArg Int32.toInt (zz_i e73)).trans (rfl : (sy_i F 70).toInt = (sy_i F 70).toInt)) ((zz_i e73).trans (rfl : sy_i F 70 = sy_i F 70)) ((congrArg Int32.toInt (zz_i e74)).trans (nzE n74)) ((zz_i e74).trans (rfl : ((sy_i F 69) - ((1 : Int32))) - (sy_i F 71) = ((sy_i F 69) - ((1 : Int32))) - (sy_i F 71))))
theorem zfr_159_p0 {Ls : Nat} {xs : Nat → Int32} {d : Nat} {Q : Option Value → jm_h → Prop} (hd : 1 ≤ d) (F : Nat → sy_d) (X1 X2 : List jm_c) (hB : iv_in F iv_B4)
    (h0 : (sy_i F 74).toInt ≠ 0)
    (k : ∀ F1 : Nat → sy_d, (∀ j, j < 69 → True → F1 j = F j) → F1 69 = .inl (.int (sy_i F 69)) → F1 70 = .inl (.int (sy_i F 70)) → F1 71 = .inl (.int (sy_i F 71)) → F1 72 = .inl (.int (sy_i F 72)) → F1 73 = .inl (.int (((sy_i F 73) / (sy_i F 74)) - ((sy_i F 73) / (sy_i F 74)) / ((7 : Int32)) * ((7 : Int32)))) → hd_W Ls xs d jm_M232 Q (163, sy_dL F1 [some (.inl (.ref 1000)), some (.inr (.inl 69)), some (.inr (.inl 70)), some (.inr (.inl 71))], sy_dS F1 [.inr (.inl 73), .inr (.inl 72), .inl (.ref 1044)], sy_dh F1 X1 X2 (iv_H 4), 0, 0)) :
    hd_W Ls xs d jm_M232 Q (159, sy_dL F [some (.inl (.ref 1000)), some (.inr (.inl 69)), some (.inr (.inl 70)), some (.inr (.inl 71))], sy_dS F [.inr (.inl 74), .inr (.inl 73), .inr (.inl 72), .inl (.ref 1044)], sy_dh F X1 X2 (iv_H 4), 0, 0) := by
  refine hd_run (s := 4) (nv := 75) (pc := 163) (L := [some (.inl (.ref 1000)), some (.inr (.inl 69)), some (.inr (.inl 70)), some (.inr (.inl 71))]) (S := [.inr (.inl 73), .inr (.inl 72), .inl (.ref 1044)]) (uh := hd_ov (iv_id 0 iv_B4) []) (ul := [.inl (.inr (.inl 69)), .inl (.inr (.inl 70)), .inl (.inr (.inl 71)), .inl (.inr (.inl 72)), .inl (.inr (.inl 76))]) (f := false) (sp := [163]) (d0 := 0) (O := []) (T := [(9, [.inr (.inl 73), .inr (.inl 74)], []), (10, [.inr (.inl 75), .inl (.int 7)], [])]) (P := [(1, .inr (.inl 74), .inl (.int 0)), (1, .inl (.int 7), .inl (.int 0))]) jm_ok232 (by decide +kernel) (by decide +kernel) hd F X1 X2 (fun F' hF hs => ?_)
  have b74 := hd_b (F := F) (F' := F') (k := 74) (hF 74 (by decide))
  have b69 := hd_b (F := F) (F' := F') (k := 69) (hF 69 (by decide))
  have b70 := hd_b (F := F) (F' := F') (k := 70) (hF 70 (by decide))
  have b71 := hd_b (F := F) (F' := F') (k := 71) (hF 71 (by decide))
  have b72 := hd_b (F := F) (F' := F') (k := 72) (hF 72 (by decide))
  have b73 := hd_b (F := F) (F' := F') (k := 73) (hF 73 (by decide))
  have t75 : sy_dv F' (.inr (.inl 75)) = .int ((sy_i F 73) / (sy_i F 74)) := hd_o (hs 0 _ rfl) b73 b74 rfl
  have t76 : sy_dv F' (.inr (.inl 76)) = .int (((sy_i F 73) / (sy_i F 74)) - ((sy_i F 73) / (sy_i F 74)) / ((7 : Int32)) * ((7 : Int32))) := hd_o (hs 1 _ rfl) t75 rfl rfl
  have hB' : iv_in F' iv_B4 := iv_in_eq hB (fun j hj => hF j (Nat.lt_of_lt_of_le hj (by decide +kernel)))
  refine ⟨List.forall_mem_cons.mpr ⟨hd_p1 b74 rfl (by have hc : ((0) : Int32).toInt = 0 := (by decide); omega), List.forall_mem_cons.mpr ⟨(hd_p1 (X := 7) (Y := 0) rfl rfl (by decide)), fun _ h => absurd h List.not_mem_nil⟩⟩, ?_⟩
  refine k _ ?_ ?_ ?_ ?_ ?_ ?_
  · exact fun j hj _ => (hd_keep hB' (Nat.lt_of_lt_of_le hj (by decide +kernel)) (by simp)).trans (hF j (Nat.lt_of_lt_of_le hj (by decide)))
  · exact hd_gi (x := .inr (.inl 69)) (by decide +kernel) b69
  · exact hd_gi (x := .inr (.inl 70)) (by decide +kernel) b70
  · exact hd_gi (x := .inr (.inl 71)) (by decide +kernel) b71
  · exact hd_gi (x := .inr (.inl 72)) (by decide +kernel) b72
  · exact hd_gi (x := .inr (.inl 76)) (by decide +kernel) t76
theorem zfr_159 {Ls : Nat} {xs : Nat → Int32} {d : Nat} {Q : Option Value → jm_h → Prop} (hd : 1 ≤ d) (F : Nat → sy_d) (X1 X2 : List jm_c) (hB : iv_in F iv_B4)
    (a74 : 1 ≤ (sy_i F 74).toInt ∧ (sy_i F 74).toInt ≤ 823543)
    (k0 : ∀ F1 : Nat → sy_d, iv_in F1 iv_B4 → (∀ j, j < 69 → j ∉ ([] : List Nat) → F1 j = F j) → (sy_i F1 69).toInt = (sy_i F 69).toInt → sy_i F1 69 = sy_i F 69 → (sy_i F1 70).toInt = (sy_i F 70).toInt → sy_i F1 70 = sy_i F 70 → (sy_i F1 71).toInt = (sy_i F 71).toInt → sy_i F1 71 = sy_i F 71 → (sy_i F1 72).toInt = (sy_i F 72).toInt → sy_i F1 72 = sy_i F 72 → (sy_i F1 73).toInt = (((sy_i F 73) / (sy_i F 74)) - ((sy_i F 73) / (sy_i F 74)) / ((7 : Int32)) * ((7 : Int32))).toInt → sy_i F1 73 = ((sy_i F 73) / (sy_i F 74)) - ((sy_i F 73) / (sy_i F 74)) / ((7 : Int32)) * ((7 : Int32)) → hd_W Ls xs d jm_M232 Q (163, sy_dL F1 [some (.inl (.ref 1000)), some (.inr (.inl 69)), some (.inr (.inl 70)), some (.inr (.inl 71))], sy_dS F1 [.inr (.inl 73), .inr (.inl 72), .inl (.ref 1044)], sy_dh F1 X1 X2 (iv_H 4), 0, 0)) :
    hd_W Ls xs d jm_M232 Q (159, sy_dL F [some (.inl (.ref 1000)), some (.inr (.inl 69)), some (.inr (.inl 70)), some (.inr (.inl 71))], sy_dS F [.inr (.inl 74), .inr (.inl 73), .inr (.inl 72), .inl (.ref 1044)], sy_dh F X1 X2 (iv_H 4), 0, 0) := by
  have n76 : nzI (((sy_i F 73) / (sy_i F 74)) - ((sy_i F 73) / (sy_i F 74)) / ((7 : Int32)) * ((7 : Int32))) ((((sy_i F 73) / (sy_i F 74)) - ((sy_i F 73) / (sy_i F 74)) / ((7 : Int32)) * ((7 : Int32))).toInt) := congrArg Int32.toInt (rfl : ((sy_i F 73) / (sy_i F 74)) - ((sy_i F 73) / (sy_i F 74)) / ((7 : Int32)) * ((7 : Int32)) = ((sy_i F 73) / (sy_i F 74)) - ((sy_i F 73) / (sy_i F 74)) / ((7 : Int32)) * ((7 : Int32)))
  exact zfr_159_p0 hd F X1 X2 hB (by first | exact (by omega) | (simp only [nz_c]; exact (by omega))) (fun F1 g e69 e70 e71 e72 e73 => k0 F1 (nz_in hB [] (fun j hj hn => g j hj (by simp only [List.mem_cons, List.not_mem_nil, or_false, not_or] at hn; exact trivial)) (List.forall_mem_nil _)) (fun j hj hn => g j hj (by simp only [List.mem_cons, List.not_mem_nil, or_false, not_or] at hn; exact trivial)) ((congrArg Int32.toInt (zz_i e69)).trans (rfl : (sy_i F 69).toInt = (sy_i F 69).toInt)) ((zz_i e69).trans (rfl : sy_i F 69 = sy_i F 69)) ((congrArg Int32.toInt (zz_i e70)).trans (rfl : (sy_i F 70).toInt = (sy_i F 70).toInt)) ((zz_i e70).trans (rfl : sy_i F 70 = sy_i F 70)) ((congrArg Int32.toInt (zz_i e71)).trans (rfl : (sy_i F 71).toInt = (sy_i F 71).toInt)) ((zz_i e71).trans (rfl : sy_i F 71 = sy_i F 71)) ((congrArg Int32.toInt (zz_i e72)).trans (rfl : (sy_i F 72).toInt = (sy_i F 72).toInt)) ((zz_i e72).trans (rfl : sy_i F 72 = sy_i F 72)) ((congrArg Int32.toInt (zz_i e73)).trans (nzE n76)) ((zz_i e73).trans (rfl : ((sy_i F 73) / (sy_i F 74)) - ((sy_i F 73) / (sy_i F 74)) / ((7 : Int32)) * ((7 : Int32)) = ((sy_i F 73) / (sy_i F 74)) - ((sy_i F 73) / (sy_i F 74)) / ((7 : Int32)) * ((7 : Int32)))))
theorem zfr_163_p0 {Ls : Nat} {xs : Nat → Int32} {d : Nat} {Q : Option Value → jm_h → Prop} (hd : 1 ≤ d) (F : Nat → sy_d) (X1 X2 : List jm_c) (hB : iv_in F iv_B4)
    (h0 : 0 ≤ ((sy_i F 72) + (sy_i F 73)).toInt ∧ ((sy_i F 72) + (sy_i F 73)).toInt < 49)
    (h1 : 0 ≤ ((sy_i F 72) + (sy_i F 73)).toInt ∧ ((sy_i F 72) + (sy_i F 73)).toInt < 49)
    (k : ∀ F1 : Nat → sy_d, (∀ j, j < 69 → j ≠ 66 → F1 j = F j) → F1 66 = .inr (.inl (jm_upd (sy_ai F 66) ((sy_i F 72) + (sy_i F 73)).toNatClampNeg (((sy_ai F 66).getD ((sy_i F 72) + (sy_i F 73)).toNatClampNeg 0) + ((1 : Int32))))) → F1 69 = .inl (.int (sy_i F 69)) → F1 70 = .inl (.int (sy_i F 70)) → F1 71 = .inl (.int ((sy_i F 71) + ((1 : Int32)))) → hd_W Ls xs d jm_M232 Q (137, sy_dL F1 [some (.inl (.ref 1000)), some (.inr (.inl 69)), some (.inr (.inl 70)), some (.inr (.inl 71))], sy_dS F1 [], sy_dh F1 X1 X2 (iv_H 4), 0, 0)) :
    hd_W Ls xs d jm_M232 Q (163, sy_dL F [some (.inl (.ref 1000)), some (.inr (.inl 69)), some (.inr (.inl 70)), some (.inr (.inl 71))], sy_dS F [.inr (.inl 73), .inr (.inl 72), .inl (.ref 1044)], sy_dh F X1 X2 (iv_H 4), 0, 0) := by
  refine hd_run (s := 4) (nv := 74) (pc := 137) (L := [some (.inl (.ref 1000)), some (.inr (.inl 69)), some (.inr (.inl 70)), some (.inr (.inl 71))]) (S := []) (uh := hd_ov (iv_id 0 iv_B4) [(66, .inr (.inr (.inl 77)))]) (ul := [.inl (.inr (.inl 69)), .inl (.inr (.inl 70)), .inl (.inr (.inl 78))]) (f := false) (sp := [137]) (d0 := 0) (O := []) (T := [(0, [.inr (.inl 72), .inr (.inl 73)], []), (30, [.inr (.inl 74)], [.inr (.inl 66)]), (0, [.inr (.inl 75), .inl (.int 1)], []), (40, [.inr (.inl 74), .inr (.inl 76)], [.inr (.inl 66)]), (0, [.inr (.inl 71), .inl (.int 1)], [])]) (P := [(6, .inr (.inl 74), .inl (.ref 49)), (6, .inr (.inl 74), .inl (.ref 49))]) jm_ok232 (by decide +kernel) (by decide +kernel) hd F X1 X2 (fun F' hF hs => ?_)
  have b72 := hd_b (F := F) (F' := F') (k := 72) (hF 72 (by decide))
  have b73 := hd_b (F := F) (F' := F') (k := 73) (hF 73 (by decide))
  have t74 : sy_dv F' (.inr (.inl 74)) = .int ((sy_i F 72) + (sy_i F 73)) := hd_o (hs 0 _ rfl) b72 b73 rfl
  have a66 := hd_ba (F := F) (F' := F') (k := 66) (hF 66 (by decide))
  have t75 : sy_dv F' (.inr (.inl 75)) = .int ((sy_ai F 66).getD ((sy_i F 72) + (sy_i F 73)).toNatClampNeg 0) := hd_rd (hs 1 _ rfl) t74 a66
  have t76 : sy_dv F' (.inr (.inl 76)) = .int (((sy_ai F 66).getD ((sy_i F 72) + (sy_i F 73)).toNatClampNeg 0) + ((1 : Int32))) := hd_o (hs 2 _ rfl) t75 rfl rfl
  have t77 : sy_da F' (.inr (.inl 77)) = .inl (jm_upd (sy_ai F 66) ((sy_i F 72) + (sy_i F 73)).toNatClampNeg (((sy_ai F 66).getD ((sy_i F 72) + (sy_i F 73)).toNatClampNeg 0) + ((1 : Int32)))) := hd_up (hs 3 _ rfl) t74 t76 a66
  have b69 := hd_b (F := F) (F' := F') (k := 69) (hF 69 (by decide))
  have b70 := hd_b (F := F) (F' := F') (k := 70) (hF 70 (by decide))
  have b71 := hd_b (F := F) (F' := F') (k := 71) (hF 71 (by decide))
  have t78 : sy_dv F' (.inr (.inl 78)) = .int ((sy_i F 71) + ((1 : Int32))) := hd_o (hs 4 _ rfl) b71 rfl rfl
  have hB' : iv_in F' iv_B4 := iv_in_eq hB (fun j hj => hF j (Nat.lt_of_lt_of_le hj (by decide +kernel)))
  refine ⟨List.forall_mem_cons.mpr ⟨hd_pb t74 (by first | exact h0 | exact h0), List.forall_mem_cons.mpr ⟨hd_pb t74 (by first | exact h1 | exact h1), fun _ h => absurd h List.not_mem_nil⟩⟩, ?_⟩
  refine k _ ?_ ?_ ?_ ?_ ?_
  · exact fun j hj hn => (hd_keep hB' (Nat.lt_of_lt_of_le hj (by decide +kernel)) (by simp; omega)).trans (hF j (Nat.lt_of_lt_of_le hj (by decide)))
  · exact hd_ga (a := .inr (.inl 77)) (by decide +kernel) t77
  · exact hd_gi (x := .inr (.inl 69)) (by decide +kernel) b69
  · exact hd_gi (x := .inr (.inl 70)) (by decide +kernel) b70
  · exact hd_gi (x := .inr (.inl 78)) (by decide +kernel) t78
theorem zfr_163 {Ls : Nat} {xs : Nat → Int32} {d : Nat} {Q : Option Value → jm_h → Prop} (hd : 1 ≤ d) (F : Nat → sy_d) (X1 X2 : List jm_c) (hB : iv_in F iv_B4)
    (a71 : 0 ≤ (sy_i F 71).toInt ∧ (sy_i F 71).toInt ≤ 6)
    (a72 : 0 ≤ (sy_i F 72).toInt ∧ (sy_i F 72).toInt ≤ 42)
    (a73 : 0 ≤ (sy_i F 73).toInt ∧ (sy_i F 73).toInt ≤ 6)
    (k0 : ∀ F1 : Nat → sy_d, iv_in F1 iv_B4 → (∀ j, j < 69 → j ∉ ([66] : List Nat) → F1 j = F j) → sy_ai F1 66 = jm_upd (sy_ai F 66) (((sy_i F 72).toInt + (sy_i F 73).toInt)).toNat (((sy_ai F 66).getD (((sy_i F 72).toInt + (sy_i F 73).toInt)).toNat 0) + ((1 : Int32))) → (sy_i F1 69).toInt = (sy_i F 69).toInt → sy_i F1 69 = sy_i F 69 → (sy_i F1 70).toInt = (sy_i F 70).toInt → sy_i F1 70 = sy_i F 70 → (sy_i F1 71).toInt = ((sy_i F 71).toInt + 1) → sy_i F1 71 = (sy_i F 71) + ((1 : Int32)) → hd_W Ls xs d jm_M232 Q (137, sy_dL F1 [some (.inl (.ref 1000)), some (.inr (.inl 69)), some (.inr (.inl 70)), some (.inr (.inl 71))], sy_dS F1 [], sy_dh F1 X1 X2 (iv_H 4), 0, 0)) :
    hd_W Ls xs d jm_M232 Q (163, sy_dL F [some (.inl (.ref 1000)), some (.inr (.inl 69)), some (.inr (.inl 70)), some (.inr (.inl 71))], sy_dS F [.inr (.inl 73), .inr (.inl 72), .inl (.ref 1044)], sy_dh F X1 X2 (iv_H 4), 0, 0) := by
  have n74 : nzI ((sy_i F 72) + (sy_i F 73)) (((sy_i F 72).toInt + (sy_i F 73).toInt)) := nz_add (rfl : (sy_i F 72).toInt = (sy_i F 72).toInt) (rfl : (sy_i F 73).toInt = (sy_i F 73).toInt) (by omega) (by omega)
  have w77 : jm_upd (sy_ai F 66) ((sy_i F 72) + (sy_i F 73)).toNatClampNeg (((sy_ai F 66).getD ((sy_i F 72) + (sy_i F 73)).toNatClampNeg 0) + ((1 : Int32))) = jm_upd (sy_ai F 66) (((sy_i F 72).toInt + (sy_i F 73).toInt)).toNat (((sy_ai F 66).getD (((sy_i F 72).toInt + (sy_i F 73).toInt)).toNat 0) + ((1 : Int32))) := by simp only [nz_c, (nzE n74), (by decide : ((1 : Int32)).toInt = 1)]
  have n78 : nzI ((sy_i F 71) + ((1 : Int32))) (((sy_i F 71).toInt + 1)) := nz_add (rfl : (sy_i F 71).toInt = (sy_i F 71).toInt) (by decide : ((1 : Int32)).toInt = 1) (by omega) (by omega)
  exact zfr_163_p0 hd F X1 X2 hB (by first | (simp only [nz_c, (nzE n74)]; exact ⟨by omega, by omega⟩) | exact ⟨by omega, by omega⟩ | (rw [(nzE n74)]; exact ⟨by omega, by omega⟩)) (by first | (simp only [nz_c, (nzE n74)]; exact ⟨by omega, by omega⟩) | exact ⟨by omega, by omega⟩ | (rw [(nzE n74)]; exact ⟨by omega, by omega⟩)) (fun F1 g e66 e69 e70 e71 => k0 F1 (nz_in hB [66] (fun j hj hn => g j hj (by simp only [List.mem_cons, List.not_mem_nil, or_false, not_or] at hn; omega)) (List.forall_mem_cons.mpr ⟨fun t ht => (Option.some.inj ht) ▸ (nz_hz2 e66), List.forall_mem_nil _⟩)) (fun j hj hn => g j hj (by simp only [List.mem_cons, List.not_mem_nil, or_false, not_or] at hn; omega)) ((zz_ai e66).trans w77) ((congrArg Int32.toInt (zz_i e69)).trans (rfl : (sy_i F 69).toInt = (sy_i F 69).toInt)) ((zz_i e69).trans (rfl : sy_i F 69 = sy_i F 69)) ((congrArg Int32.toInt (zz_i e70)).trans (rfl : (sy_i F 70).toInt = (sy_i F 70).toInt)) ((zz_i e70).trans (rfl : sy_i F 70 = sy_i F 70)) ((congrArg Int32.toInt (zz_i e71)).trans (nzE n78)) ((zz_i e71).trans (rfl : (sy_i F 71) + ((1 : Int32)) = (sy_i F 71) + ((1 : Int32)))))
theorem zrw_0_p0 {Ls : Nat} {xs : Nat → Int32} {d : Nat} {Q : Option Value → jm_h → Prop} (hd : 2 ≤ d) (F : Nat → sy_d) (X1 X2 : List jm_c) (hB : iv_in F iv_B4)
    (h0 : (sy_i F 69).toInt < 0)
    (k : ∀ F1 : Nat → sy_d, (∀ j, j < 69 → True → F1 j = F j) → Q (some (.int (((-1) : Int32)))) (sy_dh F1 X1 X2 (iv_H 4))) :
    hd_W Ls xs d jm_M233 Q (0, sy_dL F [some (.inl (.ref 1000)), some (.inr (.inl 69))], sy_dS F [], sy_dh F X1 X2 (iv_H 4), 0, 0) := by
  refine hd_ret (s := 4) (nv := 70) (v := some (.inl (.int (-1)))) (uh := hd_ov (iv_id 0 iv_B4) []) (f := true) (sp := [16]) (d0 := 1) (O := [true]) (T := []) (P := [(2, .inr (.inl 69), .inl (.int 0))]) jm_ok233 (by decide +kernel) (by decide +kernel) hd F X1 X2 (fun F' hF hs => ?_)
  have b69 := hd_b (F := F) (F' := F') (k := 69) (hF 69 (by decide))
  have hB' : iv_in F' iv_B4 := iv_in_eq hB (fun j hj => hF j (Nat.lt_of_lt_of_le hj (by decide +kernel)))
  refine ⟨List.forall_mem_cons.mpr ⟨hd_p2 b69 rfl (by have hc : ((0) : Int32).toInt = 0 := (by decide); omega), fun _ h => absurd h List.not_mem_nil⟩, ?_⟩
  refine k _ ?_
  · exact fun j hj _ => (hd_keep hB' (Nat.lt_of_lt_of_le hj (by decide +kernel)) (by simp)).trans (hF j (Nat.lt_of_lt_of_le hj (by decide)))
theorem zrw_0_p1 {Ls : Nat} {xs : Nat → Int32} {d : Nat} {Q : Option Value → jm_h → Prop} (hd : 2 ≤ d) (F : Nat → sy_d) (X1 X2 : List jm_c) (hB : iv_in F iv_B4)
    (h0 : 0 ≤ (sy_i F 69).toInt)
    (h1 : (sy_i F 21).toInt < (sy_i F 69).toInt)
    (k : ∀ F1 : Nat → sy_d, (∀ j, j < 69 → True → F1 j = F j) → Q (some (.int (((-1) : Int32)))) (sy_dh F1 X1 X2 (iv_H 4))) :
    hd_W Ls xs d jm_M233 Q (0, sy_dL F [some (.inl (.ref 1000)), some (.inr (.inl 69))], sy_dS F [], sy_dh F X1 X2 (iv_H 4), 0, 0) := by
  refine hd_ret (s := 4) (nv := 70) (v := some (.inl (.int (-1)))) (uh := hd_ov (iv_id 0 iv_B4) []) (f := true) (sp := [16]) (d0 := 1) (O := [false, true]) (T := []) (P := [(3, .inr (.inl 69), .inl (.int 0)), (2, .inr (.inl 21), .inr (.inl 69))]) jm_ok233 (by decide +kernel) (by decide +kernel) hd F X1 X2 (fun F' hF hs => ?_)
  have b69 := hd_b (F := F) (F' := F') (k := 69) (hF 69 (by decide))
  have b21 := hd_b (F := F) (F' := F') (k := 21) (hF 21 (by decide))
  have hB' : iv_in F' iv_B4 := iv_in_eq hB (fun j hj => hF j (Nat.lt_of_lt_of_le hj (by decide +kernel)))
  refine ⟨List.forall_mem_cons.mpr ⟨hd_p3 b69 rfl (by have hc : ((0) : Int32).toInt = 0 := (by decide); omega), List.forall_mem_cons.mpr ⟨hd_p2 b21 b69 h1, fun _ h => absurd h List.not_mem_nil⟩⟩, ?_⟩
  refine k _ ?_
  · exact fun j hj _ => (hd_keep hB' (Nat.lt_of_lt_of_le hj (by decide +kernel)) (by simp)).trans (hF j (Nat.lt_of_lt_of_le hj (by decide)))
theorem zrw_0_p2 {Ls : Nat} {xs : Nat → Int32} {d : Nat} {Q : Option Value → jm_h → Prop} (hd : 2 ≤ d) (F : Nat → sy_d) (X1 X2 : List jm_c) (hB : iv_in F iv_B4)
    (h0 : 0 ≤ (sy_i F 69).toInt)
    (h1 : (sy_i F 69).toInt ≤ (sy_i F 21).toInt)
    (k : ∀ F1 : Nat → sy_d, (∀ j, j < 69 → True → F1 j = F j) → F1 69 = .inl (.int (sy_i F 69)) → hd_W Ls xs d jm_M233 Q (16, sy_dL F1 [some (.inl (.ref 1000)), none], sy_dS F1 [.inr (.inl 69), .inl (.ref 1000)], sy_dh F1 X1 X2 (iv_H 4), 0, 0)) :
    hd_W Ls xs d jm_M233 Q (0, sy_dL F [some (.inl (.ref 1000)), some (.inr (.inl 69))], sy_dS F [], sy_dh F X1 X2 (iv_H 4), 0, 0) := by
  refine hd_run (s := 4) (nv := 70) (pc := 16) (L := [some (.inl (.ref 1000)), none]) (S := [.inr (.inl 69), .inl (.ref 1000)]) (uh := hd_ov (iv_id 0 iv_B4) []) (ul := [.inl (.inr (.inl 69))]) (f := true) (sp := [16]) (d0 := 1) (O := [false, false]) (T := []) (P := [(3, .inr (.inl 69), .inl (.int 0)), (3, .inr (.inl 21), .inr (.inl 69))]) jm_ok233 (by decide +kernel) (by decide +kernel) hd F X1 X2 (fun F' hF hs => ?_)
  have b69 := hd_b (F := F) (F' := F') (k := 69) (hF 69 (by decide))
  have b21 := hd_b (F := F) (F' := F') (k := 21) (hF 21 (by decide))
  have hB' : iv_in F' iv_B4 := iv_in_eq hB (fun j hj => hF j (Nat.lt_of_lt_of_le hj (by decide +kernel)))
  refine ⟨List.forall_mem_cons.mpr ⟨hd_p3 b69 rfl (by have hc : ((0) : Int32).toInt = 0 := (by decide); omega), List.forall_mem_cons.mpr ⟨hd_p3 b21 b69 h1, fun _ h => absurd h List.not_mem_nil⟩⟩, ?_⟩
  refine k _ ?_ ?_
  · exact fun j hj _ => (hd_keep hB' (Nat.lt_of_lt_of_le hj (by decide +kernel)) (by simp)).trans (hF j (Nat.lt_of_lt_of_le hj (by decide)))
  · exact hd_gi (x := .inr (.inl 69)) (by decide +kernel) b69
theorem zrw_0 {Ls : Nat} {xs : Nat → Int32} {d : Nat} {Q : Option Value → jm_h → Prop} (hd : 2 ≤ d) (F : Nat → sy_d) (X1 X2 : List jm_c) (hB : iv_in F iv_B4)
    (k0 : (sy_i F 69).toInt < 0 → ∀ F1 : Nat → sy_d, iv_in F1 iv_B4 → (∀ j, j < 69 → j ∉ ([] : List Nat) → F1 j = F j) → Q (some (.int (((-1) : Int32)))) (sy_dh F1 X1 X2 (iv_H 4)))
    (k1 : 0 ≤ (sy_i F 69).toInt → (sy_i F 21).toInt < (sy_i F 69).toInt → ∀ F1 : Nat → sy_d, iv_in F1 iv_B4 → (∀ j, j < 69 → j ∉ ([] : List Nat) → F1 j = F j) → Q (some (.int (((-1) : Int32)))) (sy_dh F1 X1 X2 (iv_H 4)))
    (k2 : 0 ≤ (sy_i F 69).toInt → (sy_i F 69).toInt ≤ (sy_i F 21).toInt → ∀ F1 : Nat → sy_d, iv_in F1 iv_B4 → (∀ j, j < 69 → j ∉ ([] : List Nat) → F1 j = F j) → (sy_i F1 69).toInt = (sy_i F 69).toInt → sy_i F1 69 = sy_i F 69 → hd_W Ls xs d jm_M233 Q (16, sy_dL F1 [some (.inl (.ref 1000)), none], sy_dS F1 [.inr (.inl 69), .inl (.ref 1000)], sy_dh F1 X1 X2 (iv_H 4), 0, 0)) :
    hd_W Ls xs d jm_M233 Q (0, sy_dL F [some (.inl (.ref 1000)), some (.inr (.inl 69))], sy_dS F [], sy_dh F X1 X2 (iv_H 4), 0, 0) := by
  by_cases g0 : (sy_i F 69).toInt < 0
  · exact zrw_0_p0 hd F X1 X2 hB (by first | exact g0 | (simp only [nz_c]; exact g0)) (fun F1 g  => k0 g0 F1 (nz_in hB [] (fun j hj hn => g j hj (by simp only [List.mem_cons, List.not_mem_nil, or_false, not_or] at hn; exact trivial)) (List.forall_mem_nil _)) (fun j hj hn => g j hj (by simp only [List.mem_cons, List.not_mem_nil, or_false, not_or] at hn; exact trivial)) )
  replace g0 : 0 ≤ (sy_i F 69).toInt := by omega
  by_cases g1 : (sy_i F 21).toInt < (sy_i F 69).toInt
  · have c21 := nz_bx hB (k := 21) (lo := 0) (hi := 7) rfl
    exact zrw_0_p1 hd F X1 X2 hB (by first | exact g0 | (simp only [nz_c]; exact g0)) (by first | exact g1 | (simp only [nz_c]; exact g1)) (fun F1 g  => k1 g0 g1 F1 (nz_in hB [] (fun j hj hn => g j hj (by simp only [List.mem_cons, List.not_mem_nil, or_false, not_or] at hn; exact trivial)) (List.forall_mem_nil _)) (fun j hj hn => g j hj (by simp only [List.mem_cons, List.not_mem_nil, or_false, not_or] at hn; exact trivial)) )
  replace g1 : (sy_i F 69).toInt ≤ (sy_i F 21).toInt := by omega
  have c21 := nz_bx hB (k := 21) (lo := 0) (hi := 7) rfl
  exact zrw_0_p2 hd F X1 X2 hB (by first | exact g0 | (simp only [nz_c]; exact g0)) (by first | exact g1 | (simp only [nz_c]; exact g1)) (fun F1 g e69 => k2 g0 g1 F1 (nz_in hB [] (fun j hj hn => g j hj (by simp only [List.mem_cons, List.not_mem_nil, or_false, not_or] at hn; exact trivial)) (List.forall_mem_nil _)) (fun j hj hn => g j hj (by simp only [List.mem_cons, List.not_mem_nil, or_false, not_or] at hn; exact trivial)) ((congrArg Int32.toInt (zz_i e69)).trans (rfl : (sy_i F 69).toInt = (sy_i F 69).toInt)) ((zz_i e69).trans (rfl : sy_i F 69 = sy_i F 69)))
theorem zrw_19_p0 {Ls : Nat} {xs : Nat → Int32} {d : Nat} {Q : Option Value → jm_h → Prop} (hd : 1 ≤ d) (F : Nat → sy_d) (X1 X2 : List jm_c) (hB : iv_in F iv_B4)
    (k : ∀ F1 : Nat → sy_d, (∀ j, j < 69 → True → F1 j = F j) → Q (some (.int (sy_i F 22))) (sy_dh F1 X1 X2 (iv_H 4))) :
    hd_W Ls xs d jm_M233 Q (19, sy_dL F [some (.inl (.ref 1000)), none], sy_dS F [], sy_dh F X1 X2 (iv_H 4), 0, 0) := by
  refine hd_ret (s := 4) (nv := 69) (v := some (.inr (.inl 22))) (uh := hd_ov (iv_id 0 iv_B4) []) (f := false) (sp := []) (d0 := 0) (O := []) (T := []) (P := []) jm_ok233 (by decide +kernel) (by decide +kernel) hd F X1 X2 (fun F' hF hs => ?_)
  have b22 := hd_b (F := F) (F' := F') (k := 22) (hF 22 (by decide))
  have hB' : iv_in F' iv_B4 := iv_in_eq hB (fun j hj => hF j (Nat.lt_of_lt_of_le hj (by decide +kernel)))
  have hk := k (sy_cm F' (hd_ov (iv_id 0 iv_B4) [] ++ [])) (fun j hj _ => (hd_keep hB' (Nat.lt_of_lt_of_le hj (by decide +kernel)) (by simp)).trans (hF j (Nat.lt_of_lt_of_le hj (by decide))))
  refine ⟨fun _ h => absurd h List.not_mem_nil, ?_⟩
  show Q (some (sy_dv F' (.inr (.inl 22)))) _
  rw [b22]
  exact hk
theorem zrw_19 {Ls : Nat} {xs : Nat → Int32} {d : Nat} {Q : Option Value → jm_h → Prop} (hd : 1 ≤ d) (F : Nat → sy_d) (X1 X2 : List jm_c) (hB : iv_in F iv_B4)
    (k0 : ∀ F1 : Nat → sy_d, iv_in F1 iv_B4 → (∀ j, j < 69 → j ∉ ([] : List Nat) → F1 j = F j) → Q (some (.int (sy_i F 22))) (sy_dh F1 X1 X2 (iv_H 4))) :
    hd_W Ls xs d jm_M233 Q (19, sy_dL F [some (.inl (.ref 1000)), none], sy_dS F [], sy_dh F X1 X2 (iv_H 4), 0, 0) := by
  exact zrw_19_p0 hd F X1 X2 hB  (fun F1 g  => by rw [(rfl : sy_i F 22 = sy_i F 22)]; exact k0 F1 (nz_in hB [] (fun j hj hn => g j hj (by simp only [List.mem_cons, List.not_mem_nil, or_false, not_or] at hn; exact trivial)) (List.forall_mem_nil _)) (fun j hj hn => g j hj (by simp only [List.mem_cons, List.not_mem_nil, or_false, not_or] at hn; exact trivial)) )
theorem zsu_0_p0 {Ls : Nat} {xs : Nat → Int32} {d : Nat} {Q : Option Value → jm_h → Prop} (hd : 2 ≤ d) (F : Nat → sy_d) (X1 X2 : List jm_c) (hB : iv_in F iv_B4)
    (h0 : (sy_i F 69).toInt < 0)
    (k : ∀ F1 : Nat → sy_d, (∀ j, j < 69 → True → F1 j = F j) → Q (some (.int (((-1) : Int32)))) (sy_dh F1 X1 X2 (iv_H 4))) :
    hd_W Ls xs d jm_M234 Q (0, sy_dL F [some (.inl (.ref 1000)), some (.inr (.inl 69)), some (.inr (.inl 70)), none], sy_dS F [], sy_dh F X1 X2 (iv_H 4), 0, 0) := by
  refine hd_ret (s := 4) (nv := 71) (v := some (.inl (.int (-1)))) (uh := hd_ov (iv_id 0 iv_B4) []) (f := true) (sp := [27]) (d0 := 1) (O := [true]) (T := []) (P := [(2, .inr (.inl 69), .inl (.int 0))]) jm_ok234 (by decide +kernel) (by decide +kernel) hd F X1 X2 (fun F' hF hs => ?_)
  have b69 := hd_b (F := F) (F' := F') (k := 69) (hF 69 (by decide))
  have hB' : iv_in F' iv_B4 := iv_in_eq hB (fun j hj => hF j (Nat.lt_of_lt_of_le hj (by decide +kernel)))
  refine ⟨List.forall_mem_cons.mpr ⟨hd_p2 b69 rfl (by have hc : ((0) : Int32).toInt = 0 := (by decide); omega), fun _ h => absurd h List.not_mem_nil⟩, ?_⟩
  refine k _ ?_
  · exact fun j hj _ => (hd_keep hB' (Nat.lt_of_lt_of_le hj (by decide +kernel)) (by simp)).trans (hF j (Nat.lt_of_lt_of_le hj (by decide)))
theorem zsu_0_p1 {Ls : Nat} {xs : Nat → Int32} {d : Nat} {Q : Option Value → jm_h → Prop} (hd : 2 ≤ d) (F : Nat → sy_d) (X1 X2 : List jm_c) (hB : iv_in F iv_B4)
    (h0 : 0 ≤ (sy_i F 69).toInt)
    (h1 : (sy_i F 21).toInt < (sy_i F 69).toInt)
    (k : ∀ F1 : Nat → sy_d, (∀ j, j < 69 → True → F1 j = F j) → Q (some (.int (((-1) : Int32)))) (sy_dh F1 X1 X2 (iv_H 4))) :
    hd_W Ls xs d jm_M234 Q (0, sy_dL F [some (.inl (.ref 1000)), some (.inr (.inl 69)), some (.inr (.inl 70)), none], sy_dS F [], sy_dh F X1 X2 (iv_H 4), 0, 0) := by
  refine hd_ret (s := 4) (nv := 71) (v := some (.inl (.int (-1)))) (uh := hd_ov (iv_id 0 iv_B4) []) (f := true) (sp := [27]) (d0 := 1) (O := [false, true]) (T := []) (P := [(3, .inr (.inl 69), .inl (.int 0)), (2, .inr (.inl 21), .inr (.inl 69))]) jm_ok234 (by decide +kernel) (by decide +kernel) hd F X1 X2 (fun F' hF hs => ?_)
  have b69 := hd_b (F := F) (F' := F') (k := 69) (hF 69 (by decide))
  have b21 := hd_b (F := F) (F' := F') (k := 21) (hF 21 (by decide))
  have hB' : iv_in F' iv_B4 := iv_in_eq hB (fun j hj => hF j (Nat.lt_of_lt_of_le hj (by decide +kernel)))
  refine ⟨List.forall_mem_cons.mpr ⟨hd_p3 b69 rfl (by have hc : ((0) : Int32).toInt = 0 := (by decide); omega), List.forall_mem_cons.mpr ⟨hd_p2 b21 b69 h1, fun _ h => absurd h List.not_mem_nil⟩⟩, ?_⟩
  refine k _ ?_
  · exact fun j hj _ => (hd_keep hB' (Nat.lt_of_lt_of_le hj (by decide +kernel)) (by simp)).trans (hF j (Nat.lt_of_lt_of_le hj (by decide)))
theorem zsu_0_p2 {Ls : Nat} {xs : Nat → Int32} {d : Nat} {Q : Option Value → jm_h → Prop} (hd : 2 ≤ d) (F : Nat → sy_d) (X1 X2 : List jm_c) (hB : iv_in F iv_B4)
    (h0 : 0 ≤ (sy_i F 69).toInt)
    (h1 : (sy_i F 69).toInt ≤ (sy_i F 21).toInt)
    (h2 : (sy_i F 70).toInt < 0)
    (k : ∀ F1 : Nat → sy_d, (∀ j, j < 69 → True → F1 j = F j) → Q (some (.int (((-1) : Int32)))) (sy_dh F1 X1 X2 (iv_H 4))) :
    hd_W Ls xs d jm_M234 Q (0, sy_dL F [some (.inl (.ref 1000)), some (.inr (.inl 69)), some (.inr (.inl 70)), none], sy_dS F [], sy_dh F X1 X2 (iv_H 4), 0, 0) := by
  refine hd_ret (s := 4) (nv := 71) (v := some (.inl (.int (-1)))) (uh := hd_ov (iv_id 0 iv_B4) []) (f := true) (sp := [27]) (d0 := 1) (O := [false, false, true]) (T := [(1, [.inr (.inl 69), .inl (.int 1)], [])]) (P := [(3, .inr (.inl 69), .inl (.int 0)), (3, .inr (.inl 21), .inr (.inl 69)), (2, .inr (.inl 70), .inl (.int 0))]) jm_ok234 (by decide +kernel) (by decide +kernel) hd F X1 X2 (fun F' hF hs => ?_)
  have b69 := hd_b (F := F) (F' := F') (k := 69) (hF 69 (by decide))
  have b21 := hd_b (F := F) (F' := F') (k := 21) (hF 21 (by decide))
  have b70 := hd_b (F := F) (F' := F') (k := 70) (hF 70 (by decide))
  have hB' : iv_in F' iv_B4 := iv_in_eq hB (fun j hj => hF j (Nat.lt_of_lt_of_le hj (by decide +kernel)))
  refine ⟨List.forall_mem_cons.mpr ⟨hd_p3 b69 rfl (by have hc : ((0) : Int32).toInt = 0 := (by decide); omega), List.forall_mem_cons.mpr ⟨hd_p3 b21 b69 h1, List.forall_mem_cons.mpr ⟨hd_p2 b70 rfl (by have hc : ((0) : Int32).toInt = 0 := (by decide); omega), fun _ h => absurd h List.not_mem_nil⟩⟩⟩, ?_⟩
  refine k _ ?_
  · exact fun j hj _ => (hd_keep hB' (Nat.lt_of_lt_of_le hj (by decide +kernel)) (by simp)).trans (hF j (Nat.lt_of_lt_of_le hj (by decide)))
theorem zsu_0_p3 {Ls : Nat} {xs : Nat → Int32} {d : Nat} {Q : Option Value → jm_h → Prop} (hd : 2 ≤ d) (F : Nat → sy_d) (X1 X2 : List jm_c) (hB : iv_in F iv_B4)
    (h0 : 0 ≤ (sy_i F 69).toInt)
    (h1 : (sy_i F 69).toInt ≤ (sy_i F 21).toInt)
    (h2 : 0 ≤ (sy_i F 70).toInt)
    (h3 : ((sy_i F 69) - ((1 : Int32))).toInt < (sy_i F 70).toInt)
    (k : ∀ F1 : Nat → sy_d, (∀ j, j < 69 → True → F1 j = F j) → Q (some (.int (((-1) : Int32)))) (sy_dh F1 X1 X2 (iv_H 4))) :
    hd_W Ls xs d jm_M234 Q (0, sy_dL F [some (.inl (.ref 1000)), some (.inr (.inl 69)), some (.inr (.inl 70)), none], sy_dS F [], sy_dh F X1 X2 (iv_H 4), 0, 0) := by
  refine hd_ret (s := 4) (nv := 71) (v := some (.inl (.int (-1)))) (uh := hd_ov (iv_id 0 iv_B4) []) (f := true) (sp := [27]) (d0 := 1) (O := [false, false, false, true]) (T := [(1, [.inr (.inl 69), .inl (.int 1)], [])]) (P := [(3, .inr (.inl 69), .inl (.int 0)), (3, .inr (.inl 21), .inr (.inl 69)), (3, .inr (.inl 70), .inl (.int 0)), (2, .inr (.inl 71), .inr (.inl 70))]) jm_ok234 (by decide +kernel) (by decide +kernel) hd F X1 X2 (fun F' hF hs => ?_)
  have b69 := hd_b (F := F) (F' := F') (k := 69) (hF 69 (by decide))
  have b21 := hd_b (F := F) (F' := F') (k := 21) (hF 21 (by decide))
  have b70 := hd_b (F := F) (F' := F') (k := 70) (hF 70 (by decide))
  have t71 : sy_dv F' (.inr (.inl 71)) = .int ((sy_i F 69) - ((1 : Int32))) := hd_o (hs 0 _ rfl) b69 rfl rfl
  have hB' : iv_in F' iv_B4 := iv_in_eq hB (fun j hj => hF j (Nat.lt_of_lt_of_le hj (by decide +kernel)))
  refine ⟨List.forall_mem_cons.mpr ⟨hd_p3 b69 rfl (by have hc : ((0) : Int32).toInt = 0 := (by decide); omega), List.forall_mem_cons.mpr ⟨hd_p3 b21 b69 h1, List.forall_mem_cons.mpr ⟨hd_p3 b70 rfl (by have hc : ((0) : Int32).toInt = 0 := (by decide); omega), List.forall_mem_cons.mpr ⟨hd_p2 t71 b70 h3, fun _ h => absurd h List.not_mem_nil⟩⟩⟩⟩, ?_⟩
  refine k _ ?_
  · exact fun j hj _ => (hd_keep hB' (Nat.lt_of_lt_of_le hj (by decide +kernel)) (by simp)).trans (hF j (Nat.lt_of_lt_of_le hj (by decide)))
theorem zsu_0_p4 {Ls : Nat} {xs : Nat → Int32} {d : Nat} {Q : Option Value → jm_h → Prop} (hd : 2 ≤ d) (F : Nat → sy_d) (X1 X2 : List jm_c) (hB : iv_in F iv_B4)
    (h0 : 0 ≤ (sy_i F 69).toInt)
    (h1 : (sy_i F 69).toInt ≤ (sy_i F 21).toInt)
    (h2 : 0 ≤ (sy_i F 70).toInt)
    (h3 : (sy_i F 70).toInt ≤ ((sy_i F 69) - ((1 : Int32))).toInt)
    (k : ∀ F1 : Nat → sy_d, (∀ j, j < 69 → True → F1 j = F j) → F1 69 = .inl (.int (sy_i F 70)) → F1 70 = .inl (.int (sy_i F 69)) → hd_W Ls xs d jm_M234 Q (27, sy_dL F1 [some (.inl (.ref 1000)), none, some (.inr (.inl 69)), none], sy_dS F1 [.inr (.inl 70), .inl (.ref 1000)], sy_dh F1 X1 X2 (iv_H 4), 0, 0)) :
    hd_W Ls xs d jm_M234 Q (0, sy_dL F [some (.inl (.ref 1000)), some (.inr (.inl 69)), some (.inr (.inl 70)), none], sy_dS F [], sy_dh F X1 X2 (iv_H 4), 0, 0) := by
  refine hd_run (s := 4) (nv := 71) (pc := 27) (L := [some (.inl (.ref 1000)), none, some (.inr (.inl 69)), none]) (S := [.inr (.inl 70), .inl (.ref 1000)]) (uh := hd_ov (iv_id 0 iv_B4) []) (ul := [.inl (.inr (.inl 70)), .inl (.inr (.inl 69))]) (f := true) (sp := [27]) (d0 := 1) (O := [false, false, false, false]) (T := [(1, [.inr (.inl 69), .inl (.int 1)], [])]) (P := [(3, .inr (.inl 69), .inl (.int 0)), (3, .inr (.inl 21), .inr (.inl 69)), (3, .inr (.inl 70), .inl (.int 0)), (3, .inr (.inl 71), .inr (.inl 70))]) jm_ok234 (by decide +kernel) (by decide +kernel) hd F X1 X2 (fun F' hF hs => ?_)
  have b69 := hd_b (F := F) (F' := F') (k := 69) (hF 69 (by decide))
  have b21 := hd_b (F := F) (F' := F') (k := 21) (hF 21 (by decide))
  have b70 := hd_b (F := F) (F' := F') (k := 70) (hF 70 (by decide))
  have t71 : sy_dv F' (.inr (.inl 71)) = .int ((sy_i F 69) - ((1 : Int32))) := hd_o (hs 0 _ rfl) b69 rfl rfl
  have hB' : iv_in F' iv_B4 := iv_in_eq hB (fun j hj => hF j (Nat.lt_of_lt_of_le hj (by decide +kernel)))
  refine ⟨List.forall_mem_cons.mpr ⟨hd_p3 b69 rfl (by have hc : ((0) : Int32).toInt = 0 := (by decide); omega), List.forall_mem_cons.mpr ⟨hd_p3 b21 b69 h1, List.forall_mem_cons.mpr ⟨hd_p3 b70 rfl (by have hc : ((0) : Int32).toInt = 0 := (by decide); omega), List.forall_mem_cons.mpr ⟨hd_p3 t71 b70 h3, fun _ h => absurd h List.not_mem_nil⟩⟩⟩⟩, ?_⟩
  refine k _ ?_ ?_ ?_
  · exact fun j hj _ => (hd_keep hB' (Nat.lt_of_lt_of_le hj (by decide +kernel)) (by simp)).trans (hF j (Nat.lt_of_lt_of_le hj (by decide)))
  · exact hd_gi (x := .inr (.inl 70)) (by decide +kernel) b70
  · exact hd_gi (x := .inr (.inl 69)) (by decide +kernel) b69
theorem zsu_0 {Ls : Nat} {xs : Nat → Int32} {d : Nat} {Q : Option Value → jm_h → Prop} (hd : 2 ≤ d) (F : Nat → sy_d) (X1 X2 : List jm_c) (hB : iv_in F iv_B4)
    (k0 : (sy_i F 69).toInt < 0 → ∀ F1 : Nat → sy_d, iv_in F1 iv_B4 → (∀ j, j < 69 → j ∉ ([] : List Nat) → F1 j = F j) → Q (some (.int (((-1) : Int32)))) (sy_dh F1 X1 X2 (iv_H 4)))
    (k1 : 0 ≤ (sy_i F 69).toInt → (sy_i F 21).toInt < (sy_i F 69).toInt → ∀ F1 : Nat → sy_d, iv_in F1 iv_B4 → (∀ j, j < 69 → j ∉ ([] : List Nat) → F1 j = F j) → Q (some (.int (((-1) : Int32)))) (sy_dh F1 X1 X2 (iv_H 4)))
    (k2 : 0 ≤ (sy_i F 69).toInt → (sy_i F 69).toInt ≤ (sy_i F 21).toInt → (sy_i F 70).toInt < 0 → ∀ F1 : Nat → sy_d, iv_in F1 iv_B4 → (∀ j, j < 69 → j ∉ ([] : List Nat) → F1 j = F j) → Q (some (.int (((-1) : Int32)))) (sy_dh F1 X1 X2 (iv_H 4)))
    (k3 : 0 ≤ (sy_i F 69).toInt → (sy_i F 69).toInt ≤ (sy_i F 21).toInt → 0 ≤ (sy_i F 70).toInt → ((sy_i F 69).toInt - 1) < (sy_i F 70).toInt → ∀ F1 : Nat → sy_d, iv_in F1 iv_B4 → (∀ j, j < 69 → j ∉ ([] : List Nat) → F1 j = F j) → Q (some (.int (((-1) : Int32)))) (sy_dh F1 X1 X2 (iv_H 4)))
    (k4 : 0 ≤ (sy_i F 69).toInt → (sy_i F 69).toInt ≤ (sy_i F 21).toInt → 0 ≤ (sy_i F 70).toInt → (sy_i F 70).toInt ≤ ((sy_i F 69).toInt - 1) → ∀ F1 : Nat → sy_d, iv_in F1 iv_B4 → (∀ j, j < 69 → j ∉ ([] : List Nat) → F1 j = F j) → (sy_i F1 69).toInt = (sy_i F 70).toInt → sy_i F1 69 = sy_i F 70 → (sy_i F1 70).toInt = (sy_i F 69).toInt → sy_i F1 70 = sy_i F 69 → hd_W Ls xs d jm_M234 Q (27, sy_dL F1 [some (.inl (.ref 1000)), none, some (.inr (.inl 69)), none], sy_dS F1 [.inr (.inl 70), .inl (.ref 1000)], sy_dh F1 X1 X2 (iv_H 4), 0, 0)) :
    hd_W Ls xs d jm_M234 Q (0, sy_dL F [some (.inl (.ref 1000)), some (.inr (.inl 69)), some (.inr (.inl 70)), none], sy_dS F [], sy_dh F X1 X2 (iv_H 4), 0, 0) := by
  by_cases g0 : (sy_i F 69).toInt < 0
  · exact zsu_0_p0 hd F X1 X2 hB (by first | exact g0 | (simp only [nz_c]; exact g0)) (fun F1 g  => k0 g0 F1 (nz_in hB [] (fun j hj hn => g j hj (by simp only [List.mem_cons, List.not_mem_nil, or_false, not_or] at hn; exact trivial)) (List.forall_mem_nil _)) (fun j hj hn => g j hj (by simp only [List.mem_cons, List.not_mem_nil, or_false, not_or] at hn; exact trivial)) )
  replace g0 : 0 ≤ (sy_i F 69).toInt := by omega
  by_cases g1 : (sy_i F 21).toInt < (sy_i F 69).toInt
  · have c21 := nz_bx hB (k := 21) (lo := 0) (hi := 7) rfl
    exact zsu_0_p1 hd F X1 X2 hB (by first | exact g0 | (simp only [nz_c]; exact g0)) (by first | exact g1 | (simp only [nz_c]; exact g1)) (fun F1 g  => k1 g0 g1 F1 (nz_in hB [] (fun j hj hn => g j hj (by simp only [List.mem_cons, List.not_mem_nil, or_false, not_or] at hn; exact trivial)) (List.forall_mem_nil _)) (fun j hj hn => g j hj (by simp only [List.mem_cons, List.not_mem_nil, or_false, not_or] at hn; exact trivial)) )
  replace g1 : (sy_i F 69).toInt ≤ (sy_i F 21).toInt := by omega
  by_cases g2 : (sy_i F 70).toInt < 0
  · have c21 := nz_bx hB (k := 21) (lo := 0) (hi := 7) rfl
    exact zsu_0_p2 hd F X1 X2 hB (by first | exact g0 | (simp only [nz_c]; exact g0)) (by first | exact g1 | (simp only [nz_c]; exact g1)) (by first | exact g2 | (simp only [nz_c]; exact g2)) (fun F1 g  => k2 g0 g1 g2 F1 (nz_in hB [] (fun j hj hn => g j hj (by simp only [List.mem_cons, List.not_mem_nil, or_false, not_or] at hn; exact trivial)) (List.forall_mem_nil _)) (fun j hj hn => g j hj (by simp only [List.mem_cons, List.not_mem_nil, or_false, not_or] at hn; exact trivial)) )
  replace g2 : 0 ≤ (sy_i F 70).toInt := by omega
  by_cases g3 : ((sy_i F 69).toInt - 1) < (sy_i F 70).toInt
  · have c21 := nz_bx hB (k := 21) (lo := 0) (hi := 7) rfl
    have n71 : nzI ((sy_i F 69) - ((1 : Int32))) (((sy_i F 69).toInt - 1)) := nz_sub (rfl : (sy_i F 69).toInt = (sy_i F 69).toInt) (by decide : ((1 : Int32)).toInt = 1) (by omega) (by omega)
    exact zsu_0_p3 hd F X1 X2 hB (by first | exact g0 | (simp only [nz_c]; exact g0)) (by first | exact g1 | (simp only [nz_c]; exact g1)) (by first | exact g2 | (simp only [nz_c]; exact g2)) (by first | (simp only [nz_c, (nzE n71)]; exact g3) | exact g3 | (rw [(nzE n71)]; exact g3)) (fun F1 g  => k3 g0 g1 g2 g3 F1 (nz_in hB [] (fun j hj hn => g j hj (by simp only [List.mem_cons, List.not_mem_nil, or_false, not_or] at hn; exact trivial)) (List.forall_mem_nil _)) (fun j hj hn => g j hj (by simp only [List.mem_cons, List.not_mem_nil, or_false, not_or] at hn; exact trivial)) )
  replace g3 : (sy_i F 70).toInt ≤ ((sy_i F 69).toInt - 1) := by omega
  have c21 := nz_bx hB (k := 21) (lo := 0) (hi := 7) rfl
  have n71 : nzI ((sy_i F 69) - ((1 : Int32))) (((sy_i F 69).toInt - 1)) := nz_sub (rfl : (sy_i F 69).toInt = (sy_i F 69).toInt) (by decide : ((1 : Int32)).toInt = 1) (by omega) (by omega)
  exact zsu_0_p4 hd F X1 X2 hB (by first | exact g0 | (simp only [nz_c]; exact g0)) (by first | exact g1 | (simp only [nz_c]; exact g1)) (by first | exact g2 | (simp only [nz_c]; exact g2)) (by first | (simp only [nz_c, (nzE n71)]; exact g3) | exact g3 | (rw [(nzE n71)]; exact g3)) (fun F1 g e69 e70 => k4 g0 g1 g2 g3 F1 (nz_in hB [] (fun j hj hn => g j hj (by simp only [List.mem_cons, List.not_mem_nil, or_false, not_or] at hn; exact trivial)) (List.forall_mem_nil _)) (fun j hj hn => g j hj (by simp only [List.mem_cons, List.not_mem_nil, or_false, not_or] at hn; exact trivial)) ((congrArg Int32.toInt (zz_i e69)).trans (rfl : (sy_i F 70).toInt = (sy_i F 70).toInt)) ((zz_i e69).trans (rfl : sy_i F 70 = sy_i F 70)) ((congrArg Int32.toInt (zz_i e70)).trans (rfl : (sy_i F 69).toInt = (sy_i F 69).toInt)) ((zz_i e70).trans (rfl : sy_i F 69 = sy_i F 69)))
theorem zsu_30_p0 {Ls : Nat} {xs : Nat → Int32} {d : Nat} {Q : Option Value → jm_h → Prop} (hd : 1 ≤ d) (F : Nat → sy_d) (X1 X2 : List jm_c) (hB : iv_in F iv_B4)
    (k : ∀ F1 : Nat → sy_d, (∀ j, j < 69 → True → F1 j = F j) → F1 69 = .inl (.int (sy_i F 69)) → F1 70 = .inl (.int ((0 : Int32))) → hd_W Ls xs d jm_M234 Q (32, sy_dL F1 [some (.inl (.ref 1000)), none, some (.inr (.inl 69)), some (.inr (.inl 70))], sy_dS F1 [], sy_dh F1 X1 X2 (iv_H 4), 0, 0)) :
    hd_W Ls xs d jm_M234 Q (30, sy_dL F [some (.inl (.ref 1000)), none, some (.inr (.inl 69)), none], sy_dS F [], sy_dh F X1 X2 (iv_H 4), 0, 0) := by
  refine hd_run (s := 4) (nv := 70) (pc := 32) (L := [some (.inl (.ref 1000)), none, some (.inr (.inl 69)), some (.inr (.inl 70))]) (S := []) (uh := hd_ov (iv_id 0 iv_B4) []) (ul := [.inl (.inr (.inl 69)), .inl (.inl (.int 0))]) (f := false) (sp := [32]) (d0 := 0) (O := []) (T := []) (P := []) jm_ok234 (by decide +kernel) (by decide +kernel) hd F X1 X2 (fun F' hF hs => ?_)
  have b69 := hd_b (F := F) (F' := F') (k := 69) (hF 69 (by decide))
  have hB' : iv_in F' iv_B4 := iv_in_eq hB (fun j hj => hF j (Nat.lt_of_lt_of_le hj (by decide +kernel)))
  refine ⟨fun _ h => absurd h List.not_mem_nil, ?_⟩
  refine k _ ?_ ?_ ?_
  · exact fun j hj _ => (hd_keep hB' (Nat.lt_of_lt_of_le hj (by decide +kernel)) (by simp)).trans (hF j (Nat.lt_of_lt_of_le hj (by decide)))
  · exact hd_gi (x := .inr (.inl 69)) (by decide +kernel) b69
  · exact hd_gi (x := .inl (.int 0)) (by decide +kernel) rfl
theorem zsu_30 {Ls : Nat} {xs : Nat → Int32} {d : Nat} {Q : Option Value → jm_h → Prop} (hd : 1 ≤ d) (F : Nat → sy_d) (X1 X2 : List jm_c) (hB : iv_in F iv_B4)
    (k0 : ∀ F1 : Nat → sy_d, iv_in F1 iv_B4 → (∀ j, j < 69 → j ∉ ([] : List Nat) → F1 j = F j) → (sy_i F1 69).toInt = (sy_i F 69).toInt → sy_i F1 69 = sy_i F 69 → (sy_i F1 70).toInt = 0 → sy_i F1 70 = (0 : Int32) → hd_W Ls xs d jm_M234 Q (32, sy_dL F1 [some (.inl (.ref 1000)), none, some (.inr (.inl 69)), some (.inr (.inl 70))], sy_dS F1 [], sy_dh F1 X1 X2 (iv_H 4), 0, 0)) :
    hd_W Ls xs d jm_M234 Q (30, sy_dL F [some (.inl (.ref 1000)), none, some (.inr (.inl 69)), none], sy_dS F [], sy_dh F X1 X2 (iv_H 4), 0, 0) := by
  exact zsu_30_p0 hd F X1 X2 hB  (fun F1 g e69 e70 => k0 F1 (nz_in hB [] (fun j hj hn => g j hj (by simp only [List.mem_cons, List.not_mem_nil, or_false, not_or] at hn; exact trivial)) (List.forall_mem_nil _)) (fun j hj hn => g j hj (by simp only [List.mem_cons, List.not_mem_nil, or_false, not_or] at hn; exact trivial)) ((congrArg Int32.toInt (zz_i e69)).trans (rfl : (sy_i F 69).toInt = (sy_i F 69).toInt)) ((zz_i e69).trans (rfl : sy_i F 69 = sy_i F 69)) ((congrArg Int32.toInt (zz_i e70)).trans (by decide : ((0 : Int32)).toInt = 0)) ((zz_i e70).trans (rfl : (0 : Int32) = (0 : Int32))))
theorem zsu_32_p0 {Ls : Nat} {xs : Nat → Int32} {d : Nat} {Q : Option Value → jm_h → Prop} (hd : 1 ≤ d) (F : Nat → sy_d) (X1 X2 : List jm_c) (hB : iv_in F iv_B4)
    (h0 : 7 ≤ (sy_i F 70).toInt)
    (k : ∀ F1 : Nat → sy_d, (∀ j, j < 69 → True → F1 j = F j) → Q (some (.int (((-2) : Int32)))) (sy_dh F1 X1 X2 (iv_H 4))) :
    hd_W Ls xs d jm_M234 Q (32, sy_dL F [some (.inl (.ref 1000)), none, some (.inr (.inl 69)), some (.inr (.inl 70))], sy_dS F [], sy_dh F X1 X2 (iv_H 4), 0, 0) := by
  refine hd_ret (s := 4) (nv := 71) (v := some (.inl (.int (-2)))) (uh := hd_ov (iv_id 0 iv_B4) []) (f := true) (sp := [32]) (d0 := 0) (O := [true]) (T := []) (P := [(4, .inl (.int 7), .inr (.inl 70))]) jm_ok234 (by decide +kernel) (by decide +kernel) hd F X1 X2 (fun F' hF hs => ?_)
  have b70 := hd_b (F := F) (F' := F') (k := 70) (hF 70 (by decide))
  have hB' : iv_in F' iv_B4 := iv_in_eq hB (fun j hj => hF j (Nat.lt_of_lt_of_le hj (by decide +kernel)))
  refine ⟨List.forall_mem_cons.mpr ⟨hd_p4 rfl b70 (by have hc : ((7) : Int32).toInt = 7 := (by decide); omega), fun _ h => absurd h List.not_mem_nil⟩, ?_⟩
  refine k _ ?_
  · exact fun j hj _ => (hd_keep hB' (Nat.lt_of_lt_of_le hj (by decide +kernel)) (by simp)).trans (hF j (Nat.lt_of_lt_of_le hj (by decide)))
theorem zsu_32_p1 {Ls : Nat} {xs : Nat → Int32} {d : Nat} {Q : Option Value → jm_h → Prop} (hd : 1 ≤ d) (F : Nat → sy_d) (X1 X2 : List jm_c) (hB : iv_in F iv_B4)
    (h0 : (sy_i F 70).toInt < 7)
    (h1 : (sy_i F 22).toInt ≤ 0)
    (k : ∀ F1 : Nat → sy_d, (∀ j, j < 69 → True → F1 j = F j) → F1 69 = .inl (.int (sy_i F 69)) → F1 70 = .inl (.int ((sy_i F 70) + ((1 : Int32)))) → hd_W Ls xs d jm_M234 Q (32, sy_dL F1 [some (.inl (.ref 1000)), none, some (.inr (.inl 69)), some (.inr (.inl 70))], sy_dS F1 [], sy_dh F1 X1 X2 (iv_H 4), 0, 0)) :
    hd_W Ls xs d jm_M234 Q (32, sy_dL F [some (.inl (.ref 1000)), none, some (.inr (.inl 69)), some (.inr (.inl 70))], sy_dS F [], sy_dh F X1 X2 (iv_H 4), 0, 0) := by
  refine hd_run (s := 4) (nv := 71) (pc := 32) (L := [some (.inl (.ref 1000)), none, some (.inr (.inl 69)), some (.inr (.inl 70))]) (S := []) (uh := hd_ov (iv_id 0 iv_B4) []) (ul := [.inl (.inr (.inl 69)), .inl (.inr (.inl 71))]) (f := true) (sp := [32]) (d0 := 0) (O := [false, true]) (T := [(0, [.inr (.inl 70), .inl (.int 1)], [])]) (P := [(5, .inl (.int 7), .inr (.inl 70)), (4, .inr (.inl 22), .inl (.int 0))]) jm_ok234 (by decide +kernel) (by decide +kernel) hd F X1 X2 (fun F' hF hs => ?_)
  have b70 := hd_b (F := F) (F' := F') (k := 70) (hF 70 (by decide))
  have b22 := hd_b (F := F) (F' := F') (k := 22) (hF 22 (by decide))
  have b69 := hd_b (F := F) (F' := F') (k := 69) (hF 69 (by decide))
  have t71 : sy_dv F' (.inr (.inl 71)) = .int ((sy_i F 70) + ((1 : Int32))) := hd_o (hs 0 _ rfl) b70 rfl rfl
  have hB' : iv_in F' iv_B4 := iv_in_eq hB (fun j hj => hF j (Nat.lt_of_lt_of_le hj (by decide +kernel)))
  refine ⟨List.forall_mem_cons.mpr ⟨hd_p5 rfl b70 (by have hc : ((7) : Int32).toInt = 7 := (by decide); omega), List.forall_mem_cons.mpr ⟨hd_p4 b22 rfl (by have hc : ((0) : Int32).toInt = 0 := (by decide); omega), fun _ h => absurd h List.not_mem_nil⟩⟩, ?_⟩
  refine k _ ?_ ?_ ?_
  · exact fun j hj _ => (hd_keep hB' (Nat.lt_of_lt_of_le hj (by decide +kernel)) (by simp)).trans (hF j (Nat.lt_of_lt_of_le hj (by decide)))
  · exact hd_gi (x := .inr (.inl 69)) (by decide +kernel) b69
  · exact hd_gi (x := .inr (.inl 71)) (by decide +kernel) t71
theorem zsu_32_p2 {Ls : Nat} {xs : Nat → Int32} {d : Nat} {Q : Option Value → jm_h → Prop} (hd : 1 ≤ d) (F : Nat → sy_d) (X1 X2 : List jm_c) (hB : iv_in F iv_B4)
    (h0 : (sy_i F 70).toInt < 7)
    (h1 : 0 < (sy_i F 22).toInt)
    (h2 : 0 ≤ ((((7 : Int32)) * (sy_i F 69)) + (sy_i F 70)).toInt ∧ ((((7 : Int32)) * (sy_i F 69)) + (sy_i F 70)).toInt < 49)
    (h3 : ((sy_ai F 66).getD ((((7 : Int32)) * (sy_i F 69)) + (sy_i F 70)).toNatClampNeg 0).toInt ≠ (sy_i F 22).toInt)
    (k : ∀ F1 : Nat → sy_d, (∀ j, j < 69 → True → F1 j = F j) → F1 69 = .inl (.int (sy_i F 69)) → F1 70 = .inl (.int ((sy_i F 70) + ((1 : Int32)))) → hd_W Ls xs d jm_M234 Q (32, sy_dL F1 [some (.inl (.ref 1000)), none, some (.inr (.inl 69)), some (.inr (.inl 70))], sy_dS F1 [], sy_dh F1 X1 X2 (iv_H 4), 0, 0)) :
    hd_W Ls xs d jm_M234 Q (32, sy_dL F [some (.inl (.ref 1000)), none, some (.inr (.inl 69)), some (.inr (.inl 70))], sy_dS F [], sy_dh F X1 X2 (iv_H 4), 0, 0) := by
  refine hd_run (s := 4) (nv := 71) (pc := 32) (L := [some (.inl (.ref 1000)), none, some (.inr (.inl 69)), some (.inr (.inl 70))]) (S := []) (uh := hd_ov (iv_id 0 iv_B4) []) (ul := [.inl (.inr (.inl 69)), .inl (.inr (.inl 74))]) (f := true) (sp := [32]) (d0 := 0) (O := [false, false, true]) (T := [(2, [.inl (.int 7), .inr (.inl 69)], []), (0, [.inr (.inl 71), .inr (.inl 70)], []), (30, [.inr (.inl 72)], [.inr (.inl 66)]), (0, [.inr (.inl 70), .inl (.int 1)], [])]) (P := [(5, .inl (.int 7), .inr (.inl 70)), (5, .inr (.inl 22), .inl (.int 0)), (6, .inr (.inl 72), .inl (.ref 49)), (1, .inr (.inl 73), .inr (.inl 22))]) jm_ok234 (by decide +kernel) (by decide +kernel) hd F X1 X2 (fun F' hF hs => ?_)
  have b70 := hd_b (F := F) (F' := F') (k := 70) (hF 70 (by decide))
  have b22 := hd_b (F := F) (F' := F') (k := 22) (hF 22 (by decide))
  have b69 := hd_b (F := F) (F' := F') (k := 69) (hF 69 (by decide))
  have t71 : sy_dv F' (.inr (.inl 71)) = .int (((7 : Int32)) * (sy_i F 69)) := hd_o (hs 0 _ rfl) rfl b69 rfl
  have t72 : sy_dv F' (.inr (.inl 72)) = .int ((((7 : Int32)) * (sy_i F 69)) + (sy_i F 70)) := hd_o (hs 1 _ rfl) t71 b70 rfl
  have a66 := hd_ba (F := F) (F' := F') (k := 66) (hF 66 (by decide))
  have t73 : sy_dv F' (.inr (.inl 73)) = .int ((sy_ai F 66).getD ((((7 : Int32)) * (sy_i F 69)) + (sy_i F 70)).toNatClampNeg 0) := hd_rd (hs 2 _ rfl) t72 a66
  have t74 : sy_dv F' (.inr (.inl 74)) = .int ((sy_i F 70) + ((1 : Int32))) := hd_o (hs 3 _ rfl) b70 rfl rfl
  have hB' : iv_in F' iv_B4 := iv_in_eq hB (fun j hj => hF j (Nat.lt_of_lt_of_le hj (by decide +kernel)))
  refine ⟨List.forall_mem_cons.mpr ⟨hd_p5 rfl b70 (by have hc : ((7) : Int32).toInt = 7 := (by decide); omega), List.forall_mem_cons.mpr ⟨hd_p5 b22 rfl (by have hc : ((0) : Int32).toInt = 0 := (by decide); omega), List.forall_mem_cons.mpr ⟨hd_pb t72 (by first | exact h2 | exact h2), List.forall_mem_cons.mpr ⟨hd_p1 t73 b22 h3, fun _ h => absurd h List.not_mem_nil⟩⟩⟩⟩, ?_⟩
  refine k _ ?_ ?_ ?_
  · exact fun j hj _ => (hd_keep hB' (Nat.lt_of_lt_of_le hj (by decide +kernel)) (by simp)).trans (hF j (Nat.lt_of_lt_of_le hj (by decide)))
  · exact hd_gi (x := .inr (.inl 69)) (by decide +kernel) b69
  · exact hd_gi (x := .inr (.inl 74)) (by decide +kernel) t74
theorem zsu_32_p3 {Ls : Nat} {xs : Nat → Int32} {d : Nat} {Q : Option Value → jm_h → Prop} (hd : 1 ≤ d) (F : Nat → sy_d) (X1 X2 : List jm_c) (hB : iv_in F iv_B4)
    (h0 : (sy_i F 70).toInt < 7)
    (h1 : 0 < (sy_i F 22).toInt)
    (h2 : 0 ≤ ((((7 : Int32)) * (sy_i F 69)) + (sy_i F 70)).toInt ∧ ((((7 : Int32)) * (sy_i F 69)) + (sy_i F 70)).toInt < 49)
    (h3 : ((sy_ai F 66).getD ((((7 : Int32)) * (sy_i F 69)) + (sy_i F 70)).toNatClampNeg 0).toInt = (sy_i F 22).toInt)
    (k : ∀ F1 : Nat → sy_d, (∀ j, j < 69 → True → F1 j = F j) → Q (some (.int (sy_i F 70))) (sy_dh F1 X1 X2 (iv_H 4))) :
    hd_W Ls xs d jm_M234 Q (32, sy_dL F [some (.inl (.ref 1000)), none, some (.inr (.inl 69)), some (.inr (.inl 70))], sy_dS F [], sy_dh F X1 X2 (iv_H 4), 0, 0) := by
  refine hd_ret (s := 4) (nv := 71) (v := some (.inr (.inl 70))) (uh := hd_ov (iv_id 0 iv_B4) []) (f := true) (sp := [32]) (d0 := 0) (O := [false, false, false]) (T := [(2, [.inl (.int 7), .inr (.inl 69)], []), (0, [.inr (.inl 71), .inr (.inl 70)], []), (30, [.inr (.inl 72)], [.inr (.inl 66)])]) (P := [(5, .inl (.int 7), .inr (.inl 70)), (5, .inr (.inl 22), .inl (.int 0)), (6, .inr (.inl 72), .inl (.ref 49)), (0, .inr (.inl 73), .inr (.inl 22))]) jm_ok234 (by decide +kernel) (by decide +kernel) hd F X1 X2 (fun F' hF hs => ?_)
  have b70 := hd_b (F := F) (F' := F') (k := 70) (hF 70 (by decide))
  have b22 := hd_b (F := F) (F' := F') (k := 22) (hF 22 (by decide))
  have b69 := hd_b (F := F) (F' := F') (k := 69) (hF 69 (by decide))
  have t71 : sy_dv F' (.inr (.inl 71)) = .int (((7 : Int32)) * (sy_i F 69)) := hd_o (hs 0 _ rfl) rfl b69 rfl
  have t72 : sy_dv F' (.inr (.inl 72)) = .int ((((7 : Int32)) * (sy_i F 69)) + (sy_i F 70)) := hd_o (hs 1 _ rfl) t71 b70 rfl
  have a66 := hd_ba (F := F) (F' := F') (k := 66) (hF 66 (by decide))
  have t73 : sy_dv F' (.inr (.inl 73)) = .int ((sy_ai F 66).getD ((((7 : Int32)) * (sy_i F 69)) + (sy_i F 70)).toNatClampNeg 0) := hd_rd (hs 2 _ rfl) t72 a66
  have hB' : iv_in F' iv_B4 := iv_in_eq hB (fun j hj => hF j (Nat.lt_of_lt_of_le hj (by decide +kernel)))
  have hk := k (sy_cm F' (hd_ov (iv_id 0 iv_B4) [] ++ [])) (fun j hj _ => (hd_keep hB' (Nat.lt_of_lt_of_le hj (by decide +kernel)) (by simp)).trans (hF j (Nat.lt_of_lt_of_le hj (by decide))))
  refine ⟨List.forall_mem_cons.mpr ⟨hd_p5 rfl b70 (by have hc : ((7) : Int32).toInt = 7 := (by decide); omega), List.forall_mem_cons.mpr ⟨hd_p5 b22 rfl (by have hc : ((0) : Int32).toInt = 0 := (by decide); omega), List.forall_mem_cons.mpr ⟨hd_pb t72 (by first | exact h2 | exact h2), List.forall_mem_cons.mpr ⟨hd_p0 t73 b22 h3, fun _ h => absurd h List.not_mem_nil⟩⟩⟩⟩, ?_⟩
  show Q (some (sy_dv F' (.inr (.inl 70)))) _
  rw [b70]
  exact hk
theorem zsu_32 {Ls : Nat} {xs : Nat → Int32} {d : Nat} {Q : Option Value → jm_h → Prop} (hd : 1 ≤ d) (F : Nat → sy_d) (X1 X2 : List jm_c) (hB : iv_in F iv_B4)
    (a69 : 0 ≤ (sy_i F 69).toInt ∧ (sy_i F 69).toInt ≤ 6)
    (a70 : 0 ≤ (sy_i F 70).toInt ∧ (sy_i F 70).toInt ≤ 7)
    (k0 : 7 ≤ (sy_i F 70).toInt → ∀ F1 : Nat → sy_d, iv_in F1 iv_B4 → (∀ j, j < 69 → j ∉ ([] : List Nat) → F1 j = F j) → Q (some (.int (((-2) : Int32)))) (sy_dh F1 X1 X2 (iv_H 4)))
    (k1 : (sy_i F 70).toInt < 7 → (sy_i F 22).toInt ≤ 0 → ∀ F1 : Nat → sy_d, iv_in F1 iv_B4 → (∀ j, j < 69 → j ∉ ([] : List Nat) → F1 j = F j) → (sy_i F1 69).toInt = (sy_i F 69).toInt → sy_i F1 69 = sy_i F 69 → (sy_i F1 70).toInt = ((sy_i F 70).toInt + 1) → sy_i F1 70 = (sy_i F 70) + ((1 : Int32)) → hd_W Ls xs d jm_M234 Q (32, sy_dL F1 [some (.inl (.ref 1000)), none, some (.inr (.inl 69)), some (.inr (.inl 70))], sy_dS F1 [], sy_dh F1 X1 X2 (iv_H 4), 0, 0))
    (k2 : (sy_i F 70).toInt < 7 → 0 < (sy_i F 22).toInt → ((sy_ai F 66).getD (((7 * (sy_i F 69).toInt) + (sy_i F 70).toInt)).toNat 0).toInt ≠ (sy_i F 22).toInt → ∀ F1 : Nat → sy_d, iv_in F1 iv_B4 → (∀ j, j < 69 → j ∉ ([] : List Nat) → F1 j = F j) → (sy_i F1 69).toInt = (sy_i F 69).toInt → sy_i F1 69 = sy_i F 69 → (sy_i F1 70).toInt = ((sy_i F 70).toInt + 1) → sy_i F1 70 = (sy_i F 70) + ((1 : Int32)) → hd_W Ls xs d jm_M234 Q (32, sy_dL F1 [some (.inl (.ref 1000)), none, some (.inr (.inl 69)), some (.inr (.inl 70))], sy_dS F1 [], sy_dh F1 X1 X2 (iv_H 4), 0, 0))
    (k3 : (sy_i F 70).toInt < 7 → 0 < (sy_i F 22).toInt → ((sy_ai F 66).getD (((7 * (sy_i F 69).toInt) + (sy_i F 70).toInt)).toNat 0).toInt = (sy_i F 22).toInt → ∀ F1 : Nat → sy_d, iv_in F1 iv_B4 → (∀ j, j < 69 → j ∉ ([] : List Nat) → F1 j = F j) → Q (some (.int (sy_i F 70))) (sy_dh F1 X1 X2 (iv_H 4))) :
    hd_W Ls xs d jm_M234 Q (32, sy_dL F [some (.inl (.ref 1000)), none, some (.inr (.inl 69)), some (.inr (.inl 70))], sy_dS F [], sy_dh F X1 X2 (iv_H 4), 0, 0) := by
  by_cases g0 : 7 ≤ (sy_i F 70).toInt
  · exact zsu_32_p0 hd F X1 X2 hB (by first | exact g0 | (simp only [nz_c]; exact g0)) (fun F1 g  => k0 g0 F1 (nz_in hB [] (fun j hj hn => g j hj (by simp only [List.mem_cons, List.not_mem_nil, or_false, not_or] at hn; exact trivial)) (List.forall_mem_nil _)) (fun j hj hn => g j hj (by simp only [List.mem_cons, List.not_mem_nil, or_false, not_or] at hn; exact trivial)) )
  replace g0 : (sy_i F 70).toInt < 7 := by omega
  by_cases g1 : (sy_i F 22).toInt ≤ 0
  · have n71 : nzI ((sy_i F 70) + ((1 : Int32))) (((sy_i F 70).toInt + 1)) := nz_add (rfl : (sy_i F 70).toInt = (sy_i F 70).toInt) (by decide : ((1 : Int32)).toInt = 1) (by omega) (by omega)
    exact zsu_32_p1 hd F X1 X2 hB (by first | exact g0 | (simp only [nz_c]; exact g0)) (by first | exact g1 | (simp only [nz_c]; exact g1)) (fun F1 g e69 e70 => k1 g0 g1 F1 (nz_in hB [] (fun j hj hn => g j hj (by simp only [List.mem_cons, List.not_mem_nil, or_false, not_or] at hn; exact trivial)) (List.forall_mem_nil _)) (fun j hj hn => g j hj (by simp only [List.mem_cons, List.not_mem_nil, or_false, not_or] at hn; exact trivial)) ((congrArg Int32.toInt (zz_i e69)).trans (rfl : (sy_i F 69).toInt = (sy_i F 69).toInt)) ((zz_i e69).trans (rfl : sy_i F 69 = sy_i F 69)) ((congrArg Int32.toInt (zz_i e70)).trans (nzE n71)) ((zz_i e70).trans (rfl : (sy_i F 70) + ((1 : Int32)) = (sy_i F 70) + ((1 : Int32)))))
  replace g1 : 0 < (sy_i F 22).toInt := by omega
  by_cases g2 : ((sy_ai F 66).getD (((7 * (sy_i F 69).toInt) + (sy_i F 70).toInt)).toNat 0).toInt ≠ (sy_i F 22).toInt
  · have n71 : nzI (((7 : Int32)) * (sy_i F 69)) ((7 * (sy_i F 69).toInt)) := nz_mul (by decide : ((7 : Int32)).toInt = 7) (rfl : (sy_i F 69).toInt = (sy_i F 69).toInt) (by omega) (by omega)
    have n72 : nzI ((((7 : Int32)) * (sy_i F 69)) + (sy_i F 70)) (((7 * (sy_i F 69).toInt) + (sy_i F 70).toInt)) := nz_add (nzE n71) (rfl : (sy_i F 70).toInt = (sy_i F 70).toInt) (by omega) (by omega)
    have q73 : (sy_ai F 66).getD ((((7 : Int32)) * (sy_i F 69)) + (sy_i F 70)).toNatClampNeg 0 = (sy_ai F 66).getD (((7 * (sy_i F 69).toInt) + (sy_i F 70).toInt)).toNat 0 := by simp only [nz_c, (nzE n71), (nzE n72), (by decide : ((7 : Int32)).toInt = 7)]
    have n73 : nzI ((sy_ai F 66).getD ((((7 : Int32)) * (sy_i F 69)) + (sy_i F 70)).toNatClampNeg 0) (((sy_ai F 66).getD (((7 * (sy_i F 69).toInt) + (sy_i F 70).toInt)).toNat 0).toInt) := congrArg Int32.toInt q73
    have n74 : nzI ((sy_i F 70) + ((1 : Int32))) (((sy_i F 70).toInt + 1)) := nz_add (rfl : (sy_i F 70).toInt = (sy_i F 70).toInt) (by decide : ((1 : Int32)).toInt = 1) (by omega) (by omega)
    exact zsu_32_p2 hd F X1 X2 hB (by first | exact g0 | (simp only [nz_c]; exact g0)) (by first | exact g1 | (simp only [nz_c]; exact g1)) (by first | (simp only [nz_c, (nzE n71), (nzE n72)]; exact ⟨by omega, by omega⟩) | exact ⟨by omega, by omega⟩ | (rw [(nzE n72)]; exact ⟨by omega, by omega⟩)) (by first | (simp only [nz_c, (nzE n71), (nzE n72)]; exact g2) | exact g2 | (rw [(nzE n73)]; exact g2)) (fun F1 g e69 e70 => k2 g0 g1 g2 F1 (nz_in hB [] (fun j hj hn => g j hj (by simp only [List.mem_cons, List.not_mem_nil, or_false, not_or] at hn; exact trivial)) (List.forall_mem_nil _)) (fun j hj hn => g j hj (by simp only [List.mem_cons, List.not_mem_nil, or_false, not_or] at hn; exact trivial)) ((congrArg Int32.toInt (zz_i e69)).trans (rfl : (sy_i F 69).toInt = (sy_i F 69).toInt)) ((zz_i e69).trans (rfl : sy_i F 69 = sy_i F 69)) ((congrArg Int32.toInt (zz_i e70)).trans (nzE n74)) ((zz_i e70).trans (rfl : (sy_i F 70) + ((1 : Int32)) = (sy_i F 70) + ((1 : Int32)))))
  replace g2 : ((sy_ai F 66).getD (((7 * (sy_i F 69).toInt) + (sy_i F 70).toInt)).toNat 0).toInt = (sy_i F 22).toInt := by omega
  have n71 : nzI (((7 : Int32)) * (sy_i F 69)) ((7 * (sy_i F 69).toInt)) := nz_mul (by decide : ((7 : Int32)).toInt = 7) (rfl : (sy_i F 69).toInt = (sy_i F 69).toInt) (by omega) (by omega)
  have n72 : nzI ((((7 : Int32)) * (sy_i F 69)) + (sy_i F 70)) (((7 * (sy_i F 69).toInt) + (sy_i F 70).toInt)) := nz_add (nzE n71) (rfl : (sy_i F 70).toInt = (sy_i F 70).toInt) (by omega) (by omega)
  have q73 : (sy_ai F 66).getD ((((7 : Int32)) * (sy_i F 69)) + (sy_i F 70)).toNatClampNeg 0 = (sy_ai F 66).getD (((7 * (sy_i F 69).toInt) + (sy_i F 70).toInt)).toNat 0 := by simp only [nz_c, (nzE n71), (nzE n72), (by decide : ((7 : Int32)).toInt = 7)]
  have n73 : nzI ((sy_ai F 66).getD ((((7 : Int32)) * (sy_i F 69)) + (sy_i F 70)).toNatClampNeg 0) (((sy_ai F 66).getD (((7 * (sy_i F 69).toInt) + (sy_i F 70).toInt)).toNat 0).toInt) := congrArg Int32.toInt q73
  exact zsu_32_p3 hd F X1 X2 hB (by first | exact g0 | (simp only [nz_c]; exact g0)) (by first | exact g1 | (simp only [nz_c]; exact g1)) (by first | (simp only [nz_c, (nzE n71), (nzE n72)]; exact ⟨by omega, by omega⟩) | exact ⟨by omega, by omega⟩ | (rw [(nzE n72)]; exact ⟨by omega, by omega⟩)) (by first | (simp only [nz_c, (nzE n71), (nzE n72)]; exact g2) | exact g2 | (rw [(nzE n73)]; exact g2)) (fun F1 g  => by rw [(rfl : sy_i F 70 = sy_i F 70)]; exact k3 g0 g1 g2 F1 (nz_in hB [] (fun j hj hn => g j hj (by simp only [List.mem_cons, List.not_mem_nil, or_false, not_or] at hn; exact trivial)) (List.forall_mem_nil _)) (fun j hj hn => g j hj (by simp only [List.mem_cons, List.not_mem_nil, or_false, not_or] at hn; exact trivial)) )
theorem zas_0_p0 {Ls : Nat} {xs : Nat → Int32} {d : Nat} {Q : Option Value → jm_h → Prop} (hd : 2 ≤ d) (F : Nat → sy_d) (X1 X2 : List jm_c) (hB : iv_in F iv_B4)
    (h0 : (sy_i F 69).toInt < 0)
    (k : ∀ F1 : Nat → sy_d, (∀ j, j < 69 → True → F1 j = F j) → Q (some (.int (((-1) : Int32)))) (sy_dh F1 X1 X2 (iv_H 4))) :
    hd_W Ls xs d jm_M235 Q (0, sy_dL F [some (.inl (.ref 1000)), some (.inr (.inl 69)), none, none, none, none, none], sy_dS F [], sy_dh F X1 X2 (iv_H 4), 0, 0) := by
  refine hd_ret (s := 4) (nv := 70) (v := some (.inl (.int (-1)))) (uh := hd_ov (iv_id 0 iv_B4) []) (f := true) (sp := [16]) (d0 := 1) (O := [true]) (T := []) (P := [(2, .inr (.inl 69), .inl (.int 0))]) jm_ok235 (by decide +kernel) (by decide +kernel) hd F X1 X2 (fun F' hF hs => ?_)
  have b69 := hd_b (F := F) (F' := F') (k := 69) (hF 69 (by decide))
  have hB' : iv_in F' iv_B4 := iv_in_eq hB (fun j hj => hF j (Nat.lt_of_lt_of_le hj (by decide +kernel)))
  refine ⟨List.forall_mem_cons.mpr ⟨hd_p2 b69 rfl (by have hc : ((0) : Int32).toInt = 0 := (by decide); omega), fun _ h => absurd h List.not_mem_nil⟩, ?_⟩
  refine k _ ?_
  · exact fun j hj _ => (hd_keep hB' (Nat.lt_of_lt_of_le hj (by decide +kernel)) (by simp)).trans (hF j (Nat.lt_of_lt_of_le hj (by decide)))
theorem zas_0_p1 {Ls : Nat} {xs : Nat → Int32} {d : Nat} {Q : Option Value → jm_h → Prop} (hd : 2 ≤ d) (F : Nat → sy_d) (X1 X2 : List jm_c) (hB : iv_in F iv_B4)
    (h0 : 0 ≤ (sy_i F 69).toInt)
    (h1 : (sy_i F 21).toInt < (sy_i F 69).toInt)
    (k : ∀ F1 : Nat → sy_d, (∀ j, j < 69 → True → F1 j = F j) → Q (some (.int (((-1) : Int32)))) (sy_dh F1 X1 X2 (iv_H 4))) :
    hd_W Ls xs d jm_M235 Q (0, sy_dL F [some (.inl (.ref 1000)), some (.inr (.inl 69)), none, none, none, none, none], sy_dS F [], sy_dh F X1 X2 (iv_H 4), 0, 0) := by
  refine hd_ret (s := 4) (nv := 70) (v := some (.inl (.int (-1)))) (uh := hd_ov (iv_id 0 iv_B4) []) (f := true) (sp := [16]) (d0 := 1) (O := [false, true]) (T := []) (P := [(3, .inr (.inl 69), .inl (.int 0)), (2, .inr (.inl 21), .inr (.inl 69))]) jm_ok235 (by decide +kernel) (by decide +kernel) hd F X1 X2 (fun F' hF hs => ?_)
  have b69 := hd_b (F := F) (F' := F') (k := 69) (hF 69 (by decide))
  have b21 := hd_b (F := F) (F' := F') (k := 21) (hF 21 (by decide))
  have hB' : iv_in F' iv_B4 := iv_in_eq hB (fun j hj => hF j (Nat.lt_of_lt_of_le hj (by decide +kernel)))
  refine ⟨List.forall_mem_cons.mpr ⟨hd_p3 b69 rfl (by have hc : ((0) : Int32).toInt = 0 := (by decide); omega), List.forall_mem_cons.mpr ⟨hd_p2 b21 b69 h1, fun _ h => absurd h List.not_mem_nil⟩⟩, ?_⟩
  refine k _ ?_
  · exact fun j hj _ => (hd_keep hB' (Nat.lt_of_lt_of_le hj (by decide +kernel)) (by simp)).trans (hF j (Nat.lt_of_lt_of_le hj (by decide)))
theorem zas_0_p2 {Ls : Nat} {xs : Nat → Int32} {d : Nat} {Q : Option Value → jm_h → Prop} (hd : 2 ≤ d) (F : Nat → sy_d) (X1 X2 : List jm_c) (hB : iv_in F iv_B4)
    (h0 : 0 ≤ (sy_i F 69).toInt)
    (h1 : (sy_i F 69).toInt ≤ (sy_i F 21).toInt)
    (k : ∀ F1 : Nat → sy_d, (∀ j, j < 69 → True → F1 j = F j) → F1 69 = .inl (.int (sy_i F 69)) → hd_W Ls xs d jm_M235 Q (16, sy_dL F1 [some (.inl (.ref 1000)), some (.inr (.inl 69)), none, none, none, none, none], sy_dS F1 [.inr (.inl 69), .inl (.ref 1000)], sy_dh F1 X1 X2 (iv_H 4), 0, 0)) :
    hd_W Ls xs d jm_M235 Q (0, sy_dL F [some (.inl (.ref 1000)), some (.inr (.inl 69)), none, none, none, none, none], sy_dS F [], sy_dh F X1 X2 (iv_H 4), 0, 0) := by
  refine hd_run (s := 4) (nv := 70) (pc := 16) (L := [some (.inl (.ref 1000)), some (.inr (.inl 69)), none, none, none, none, none]) (S := [.inr (.inl 69), .inl (.ref 1000)]) (uh := hd_ov (iv_id 0 iv_B4) []) (ul := [.inl (.inr (.inl 69))]) (f := true) (sp := [16]) (d0 := 1) (O := [false, false]) (T := []) (P := [(3, .inr (.inl 69), .inl (.int 0)), (3, .inr (.inl 21), .inr (.inl 69))]) jm_ok235 (by decide +kernel) (by decide +kernel) hd F X1 X2 (fun F' hF hs => ?_)
  have b69 := hd_b (F := F) (F' := F') (k := 69) (hF 69 (by decide))
  have b21 := hd_b (F := F) (F' := F') (k := 21) (hF 21 (by decide))
  have hB' : iv_in F' iv_B4 := iv_in_eq hB (fun j hj => hF j (Nat.lt_of_lt_of_le hj (by decide +kernel)))
  refine ⟨List.forall_mem_cons.mpr ⟨hd_p3 b69 rfl (by have hc : ((0) : Int32).toInt = 0 := (by decide); omega), List.forall_mem_cons.mpr ⟨hd_p3 b21 b69 h1, fun _ h => absurd h List.not_mem_nil⟩⟩, ?_⟩
  refine k _ ?_ ?_
  · exact fun j hj _ => (hd_keep hB' (Nat.lt_of_lt_of_le hj (by decide +kernel)) (by simp)).trans (hF j (Nat.lt_of_lt_of_le hj (by decide)))
  · exact hd_gi (x := .inr (.inl 69)) (by decide +kernel) b69
theorem zas_0 {Ls : Nat} {xs : Nat → Int32} {d : Nat} {Q : Option Value → jm_h → Prop} (hd : 2 ≤ d) (F : Nat → sy_d) (X1 X2 : List jm_c) (hB : iv_in F iv_B4)
    (k0 : (sy_i F 69).toInt < 0 → ∀ F1 : Nat → sy_d, iv_in F1 iv_B4 → (∀ j, j < 69 → j ∉ ([] : List Nat) → F1 j = F j) → Q (some (.int (((-1) : Int32)))) (sy_dh F1 X1 X2 (iv_H 4)))
    (k1 : 0 ≤ (sy_i F 69).toInt → (sy_i F 21).toInt < (sy_i F 69).toInt → ∀ F1 : Nat → sy_d, iv_in F1 iv_B4 → (∀ j, j < 69 → j ∉ ([] : List Nat) → F1 j = F j) → Q (some (.int (((-1) : Int32)))) (sy_dh F1 X1 X2 (iv_H 4)))
    (k2 : 0 ≤ (sy_i F 69).toInt → (sy_i F 69).toInt ≤ (sy_i F 21).toInt → ∀ F1 : Nat → sy_d, iv_in F1 iv_B4 → (∀ j, j < 69 → j ∉ ([] : List Nat) → F1 j = F j) → (sy_i F1 69).toInt = (sy_i F 69).toInt → sy_i F1 69 = sy_i F 69 → hd_W Ls xs d jm_M235 Q (16, sy_dL F1 [some (.inl (.ref 1000)), some (.inr (.inl 69)), none, none, none, none, none], sy_dS F1 [.inr (.inl 69), .inl (.ref 1000)], sy_dh F1 X1 X2 (iv_H 4), 0, 0)) :
    hd_W Ls xs d jm_M235 Q (0, sy_dL F [some (.inl (.ref 1000)), some (.inr (.inl 69)), none, none, none, none, none], sy_dS F [], sy_dh F X1 X2 (iv_H 4), 0, 0) := by
  by_cases g0 : (sy_i F 69).toInt < 0
  · exact zas_0_p0 hd F X1 X2 hB (by first | exact g0 | (simp only [nz_c]; exact g0)) (fun F1 g  => k0 g0 F1 (nz_in hB [] (fun j hj hn => g j hj (by simp only [List.mem_cons, List.not_mem_nil, or_false, not_or] at hn; exact trivial)) (List.forall_mem_nil _)) (fun j hj hn => g j hj (by simp only [List.mem_cons, List.not_mem_nil, or_false, not_or] at hn; exact trivial)) )
  replace g0 : 0 ≤ (sy_i F 69).toInt := by omega
  by_cases g1 : (sy_i F 21).toInt < (sy_i F 69).toInt
  · have c21 := nz_bx hB (k := 21) (lo := 0) (hi := 7) rfl
    exact zas_0_p1 hd F X1 X2 hB (by first | exact g0 | (simp only [nz_c]; exact g0)) (by first | exact g1 | (simp only [nz_c]; exact g1)) (fun F1 g  => k1 g0 g1 F1 (nz_in hB [] (fun j hj hn => g j hj (by simp only [List.mem_cons, List.not_mem_nil, or_false, not_or] at hn; exact trivial)) (List.forall_mem_nil _)) (fun j hj hn => g j hj (by simp only [List.mem_cons, List.not_mem_nil, or_false, not_or] at hn; exact trivial)) )
  replace g1 : (sy_i F 69).toInt ≤ (sy_i F 21).toInt := by omega
  have c21 := nz_bx hB (k := 21) (lo := 0) (hi := 7) rfl
  exact zas_0_p2 hd F X1 X2 hB (by first | exact g0 | (simp only [nz_c]; exact g0)) (by first | exact g1 | (simp only [nz_c]; exact g1)) (fun F1 g e69 => k2 g0 g1 F1 (nz_in hB [] (fun j hj hn => g j hj (by simp only [List.mem_cons, List.not_mem_nil, or_false, not_or] at hn; exact trivial)) (List.forall_mem_nil _)) (fun j hj hn => g j hj (by simp only [List.mem_cons, List.not_mem_nil, or_false, not_or] at hn; exact trivial)) ((congrArg Int32.toInt (zz_i e69)).trans (rfl : (sy_i F 69).toInt = (sy_i F 69).toInt)) ((zz_i e69).trans (rfl : sy_i F 69 = sy_i F 69)))
theorem zas_19_p0 {Ls : Nat} {xs : Nat → Int32} {d : Nat} {Q : Option Value → jm_h → Prop} (hd : 1 ≤ d) (F : Nat → sy_d) (X1 X2 : List jm_c) (hB : iv_in F iv_B4)
    (k : ∀ F1 : Nat → sy_d, (∀ j, j < 69 → True → F1 j = F j) → F1 69 = .inl (.int (sy_i F 69)) → F1 70 = .inl (.int (((-2) : Int32))) → F1 71 = .inl (.int ((0 : Int32))) → F1 72 = .inl (.int ((0 : Int32))) → hd_W Ls xs d jm_M235 Q (27, sy_dL F1 [some (.inl (.ref 1000)), some (.inr (.inl 69)), some (.inr (.inl 70)), some (.inr (.inl 71)), some (.inr (.inl 72)), none, none], sy_dS F1 [], sy_dh F1 X1 X2 (iv_H 4), 0, 0)) :
    hd_W Ls xs d jm_M235 Q (19, sy_dL F [some (.inl (.ref 1000)), some (.inr (.inl 69)), none, none, none, none, none], sy_dS F [], sy_dh F X1 X2 (iv_H 4), 0, 0) := by
  refine hd_run (s := 4) (nv := 70) (pc := 27) (L := [some (.inl (.ref 1000)), some (.inr (.inl 69)), some (.inr (.inl 70)), some (.inr (.inl 71)), some (.inr (.inl 72)), none, none]) (S := []) (uh := hd_ov (iv_id 0 iv_B4) []) (ul := [.inl (.inr (.inl 69)), .inl (.inl (.int (-2))), .inl (.inl (.int 0)), .inl (.inl (.int 0))]) (f := false) (sp := [27]) (d0 := 0) (O := []) (T := []) (P := []) jm_ok235 (by decide +kernel) (by decide +kernel) hd F X1 X2 (fun F' hF hs => ?_)
  have b69 := hd_b (F := F) (F' := F') (k := 69) (hF 69 (by decide))
  have hB' : iv_in F' iv_B4 := iv_in_eq hB (fun j hj => hF j (Nat.lt_of_lt_of_le hj (by decide +kernel)))
  refine ⟨fun _ h => absurd h List.not_mem_nil, ?_⟩
  refine k _ ?_ ?_ ?_ ?_ ?_
  · exact fun j hj _ => (hd_keep hB' (Nat.lt_of_lt_of_le hj (by decide +kernel)) (by simp)).trans (hF j (Nat.lt_of_lt_of_le hj (by decide)))
  · exact hd_gi (x := .inr (.inl 69)) (by decide +kernel) b69
  · exact hd_gi (x := .inl (.int (-2))) (by decide +kernel) rfl
  · exact hd_gi (x := .inl (.int 0)) (by decide +kernel) rfl
  · exact hd_gi (x := .inl (.int 0)) (by decide +kernel) rfl
theorem zas_19 {Ls : Nat} {xs : Nat → Int32} {d : Nat} {Q : Option Value → jm_h → Prop} (hd : 1 ≤ d) (F : Nat → sy_d) (X1 X2 : List jm_c) (hB : iv_in F iv_B4)
    (k0 : ∀ F1 : Nat → sy_d, iv_in F1 iv_B4 → (∀ j, j < 69 → j ∉ ([] : List Nat) → F1 j = F j) → (sy_i F1 69).toInt = (sy_i F 69).toInt → sy_i F1 69 = sy_i F 69 → (sy_i F1 70).toInt = (-2 : Int) → sy_i F1 70 = ((-2) : Int32) → (sy_i F1 71).toInt = 0 → sy_i F1 71 = (0 : Int32) → (sy_i F1 72).toInt = 0 → sy_i F1 72 = (0 : Int32) → hd_W Ls xs d jm_M235 Q (27, sy_dL F1 [some (.inl (.ref 1000)), some (.inr (.inl 69)), some (.inr (.inl 70)), some (.inr (.inl 71)), some (.inr (.inl 72)), none, none], sy_dS F1 [], sy_dh F1 X1 X2 (iv_H 4), 0, 0)) :
    hd_W Ls xs d jm_M235 Q (19, sy_dL F [some (.inl (.ref 1000)), some (.inr (.inl 69)), none, none, none, none, none], sy_dS F [], sy_dh F X1 X2 (iv_H 4), 0, 0) := by
  exact zas_19_p0 hd F X1 X2 hB  (fun F1 g e69 e70 e71 e72 => k0 F1 (nz_in hB [] (fun j hj hn => g j hj (by simp only [List.mem_cons, List.not_mem_nil, or_false, not_or] at hn; exact trivial)) (List.forall_mem_nil _)) (fun j hj hn => g j hj (by simp only [List.mem_cons, List.not_mem_nil, or_false, not_or] at hn; exact trivial)) ((congrArg Int32.toInt (zz_i e69)).trans (rfl : (sy_i F 69).toInt = (sy_i F 69).toInt)) ((zz_i e69).trans (rfl : sy_i F 69 = sy_i F 69)) ((congrArg Int32.toInt (zz_i e70)).trans (by decide : (((-2) : Int32)).toInt = (-2 : Int))) ((zz_i e70).trans (rfl : ((-2) : Int32) = ((-2) : Int32))) ((congrArg Int32.toInt (zz_i e71)).trans (by decide : ((0 : Int32)).toInt = 0)) ((zz_i e71).trans (rfl : (0 : Int32) = (0 : Int32))) ((congrArg Int32.toInt (zz_i e72)).trans (by decide : ((0 : Int32)).toInt = 0)) ((zz_i e72).trans (rfl : (0 : Int32) = (0 : Int32))))
theorem zas_27_p0 {Ls : Nat} {xs : Nat → Int32} {d : Nat} {Q : Option Value → jm_h → Prop} (hd : 1 ≤ d) (F : Nat → sy_d) (X1 X2 : List jm_c) (hB : iv_in F iv_B4)
    (h0 : (sy_i F 69).toInt ≤ (sy_i F 72).toInt)
    (k : ∀ F1 : Nat → sy_d, (∀ j, j < 69 → True → F1 j = F j) → Q (some (.int (sy_i F 70))) (sy_dh F1 X1 X2 (iv_H 4))) :
    hd_W Ls xs d jm_M235 Q (27, sy_dL F [some (.inl (.ref 1000)), some (.inr (.inl 69)), some (.inr (.inl 70)), some (.inr (.inl 71)), some (.inr (.inl 72)), none, none], sy_dS F [], sy_dh F X1 X2 (iv_H 4), 0, 0) := by
  refine hd_ret (s := 4) (nv := 73) (v := some (.inr (.inl 70))) (uh := hd_ov (iv_id 0 iv_B4) []) (f := true) (sp := [46]) (d0 := 0) (O := [true]) (T := []) (P := [(4, .inr (.inl 69), .inr (.inl 72))]) jm_ok235 (by decide +kernel) (by decide +kernel) hd F X1 X2 (fun F' hF hs => ?_)
  have b69 := hd_b (F := F) (F' := F') (k := 69) (hF 69 (by decide))
  have b72 := hd_b (F := F) (F' := F') (k := 72) (hF 72 (by decide))
  have b70 := hd_b (F := F) (F' := F') (k := 70) (hF 70 (by decide))
  have hB' : iv_in F' iv_B4 := iv_in_eq hB (fun j hj => hF j (Nat.lt_of_lt_of_le hj (by decide +kernel)))
  have hk := k (sy_cm F' (hd_ov (iv_id 0 iv_B4) [] ++ [])) (fun j hj _ => (hd_keep hB' (Nat.lt_of_lt_of_le hj (by decide +kernel)) (by simp)).trans (hF j (Nat.lt_of_lt_of_le hj (by decide))))
  refine ⟨List.forall_mem_cons.mpr ⟨hd_p4 b69 b72 h0, fun _ h => absurd h List.not_mem_nil⟩, ?_⟩
  show Q (some (sy_dv F' (.inr (.inl 70)))) _
  rw [b70]
  exact hk
theorem zas_27_p1 {Ls : Nat} {xs : Nat → Int32} {d : Nat} {Q : Option Value → jm_h → Prop} (hd : 1 ≤ d) (F : Nat → sy_d) (X1 X2 : List jm_c) (hB : iv_in F iv_B4)
    (h0 : (sy_i F 72).toInt < (sy_i F 69).toInt)
    (h1 : (sy_i F 22).toInt ≤ 0)
    (k : ∀ F1 : Nat → sy_d, (∀ j, j < 69 → True → F1 j = F j) → Q (some (.int (sy_i F 70))) (sy_dh F1 X1 X2 (iv_H 4))) :
    hd_W Ls xs d jm_M235 Q (27, sy_dL F [some (.inl (.ref 1000)), some (.inr (.inl 69)), some (.inr (.inl 70)), some (.inr (.inl 71)), some (.inr (.inl 72)), none, none], sy_dS F [], sy_dh F X1 X2 (iv_H 4), 0, 0) := by
  refine hd_ret (s := 4) (nv := 73) (v := some (.inr (.inl 70))) (uh := hd_ov (iv_id 0 iv_B4) []) (f := true) (sp := [46]) (d0 := 0) (O := [false, true]) (T := []) (P := [(5, .inr (.inl 69), .inr (.inl 72)), (4, .inr (.inl 22), .inl (.int 0))]) jm_ok235 (by decide +kernel) (by decide +kernel) hd F X1 X2 (fun F' hF hs => ?_)
  have b69 := hd_b (F := F) (F' := F') (k := 69) (hF 69 (by decide))
  have b72 := hd_b (F := F) (F' := F') (k := 72) (hF 72 (by decide))
  have b22 := hd_b (F := F) (F' := F') (k := 22) (hF 22 (by decide))
  have b70 := hd_b (F := F) (F' := F') (k := 70) (hF 70 (by decide))
  have hB' : iv_in F' iv_B4 := iv_in_eq hB (fun j hj => hF j (Nat.lt_of_lt_of_le hj (by decide +kernel)))
  have hk := k (sy_cm F' (hd_ov (iv_id 0 iv_B4) [] ++ [])) (fun j hj _ => (hd_keep hB' (Nat.lt_of_lt_of_le hj (by decide +kernel)) (by simp)).trans (hF j (Nat.lt_of_lt_of_le hj (by decide))))
  refine ⟨List.forall_mem_cons.mpr ⟨hd_p5 b69 b72 h0, List.forall_mem_cons.mpr ⟨hd_p4 b22 rfl (by have hc : ((0) : Int32).toInt = 0 := (by decide); omega), fun _ h => absurd h List.not_mem_nil⟩⟩, ?_⟩
  show Q (some (sy_dv F' (.inr (.inl 70)))) _
  rw [b70]
  exact hk
theorem zas_27_p2 {Ls : Nat} {xs : Nat → Int32} {d : Nat} {Q : Option Value → jm_h → Prop} (hd : 1 ≤ d) (F : Nat → sy_d) (X1 X2 : List jm_c) (hB : iv_in F iv_B4)
    (h0 : (sy_i F 72).toInt < (sy_i F 69).toInt)
    (h1 : 0 < (sy_i F 22).toInt)
    (k : ∀ F1 : Nat → sy_d, (∀ j, j < 69 → True → F1 j = F j) → F1 69 = .inl (.int (sy_i F 69)) → F1 70 = .inl (.int (sy_i F 70)) → F1 71 = .inl (.int (sy_i F 71)) → F1 72 = .inl (.int (sy_i F 72)) → F1 73 = .inl (.int ((0 : Int32))) → F1 74 = .inl (.int ((0 : Int32))) → hd_W Ls xs d jm_M235 Q (46, sy_dL F1 [some (.inl (.ref 1000)), some (.inr (.inl 69)), some (.inr (.inl 70)), some (.inr (.inl 71)), some (.inr (.inl 72)), some (.inr (.inl 73)), some (.inr (.inl 74))], sy_dS F1 [], sy_dh F1 X1 X2 (iv_H 4), 0, 0)) :
    hd_W Ls xs d jm_M235 Q (27, sy_dL F [some (.inl (.ref 1000)), some (.inr (.inl 69)), some (.inr (.inl 70)), some (.inr (.inl 71)), some (.inr (.inl 72)), none, none], sy_dS F [], sy_dh F X1 X2 (iv_H 4), 0, 0) := by
  refine hd_run (s := 4) (nv := 73) (pc := 46) (L := [some (.inl (.ref 1000)), some (.inr (.inl 69)), some (.inr (.inl 70)), some (.inr (.inl 71)), some (.inr (.inl 72)), some (.inr (.inl 73)), some (.inr (.inl 74))]) (S := []) (uh := hd_ov (iv_id 0 iv_B4) []) (ul := [.inl (.inr (.inl 69)), .inl (.inr (.inl 70)), .inl (.inr (.inl 71)), .inl (.inr (.inl 72)), .inl (.inl (.int 0)), .inl (.inl (.int 0))]) (f := true) (sp := [46]) (d0 := 0) (O := [false, false]) (T := []) (P := [(5, .inr (.inl 69), .inr (.inl 72)), (5, .inr (.inl 22), .inl (.int 0))]) jm_ok235 (by decide +kernel) (by decide +kernel) hd F X1 X2 (fun F' hF hs => ?_)
  have b69 := hd_b (F := F) (F' := F') (k := 69) (hF 69 (by decide))
  have b72 := hd_b (F := F) (F' := F') (k := 72) (hF 72 (by decide))
  have b22 := hd_b (F := F) (F' := F') (k := 22) (hF 22 (by decide))
  have b70 := hd_b (F := F) (F' := F') (k := 70) (hF 70 (by decide))
  have b71 := hd_b (F := F) (F' := F') (k := 71) (hF 71 (by decide))
  have hB' : iv_in F' iv_B4 := iv_in_eq hB (fun j hj => hF j (Nat.lt_of_lt_of_le hj (by decide +kernel)))
  refine ⟨List.forall_mem_cons.mpr ⟨hd_p5 b69 b72 h0, List.forall_mem_cons.mpr ⟨hd_p5 b22 rfl (by have hc : ((0) : Int32).toInt = 0 := (by decide); omega), fun _ h => absurd h List.not_mem_nil⟩⟩, ?_⟩
  refine k _ ?_ ?_ ?_ ?_ ?_ ?_ ?_
  · exact fun j hj _ => (hd_keep hB' (Nat.lt_of_lt_of_le hj (by decide +kernel)) (by simp)).trans (hF j (Nat.lt_of_lt_of_le hj (by decide)))
  · exact hd_gi (x := .inr (.inl 69)) (by decide +kernel) b69
  · exact hd_gi (x := .inr (.inl 70)) (by decide +kernel) b70
  · exact hd_gi (x := .inr (.inl 71)) (by decide +kernel) b71
  · exact hd_gi (x := .inr (.inl 72)) (by decide +kernel) b72
  · exact hd_gi (x := .inl (.int 0)) (by decide +kernel) rfl
  · exact hd_gi (x := .inl (.int 0)) (by decide +kernel) rfl
theorem zas_27 {Ls : Nat} {xs : Nat → Int32} {d : Nat} {Q : Option Value → jm_h → Prop} (hd : 1 ≤ d) (F : Nat → sy_d) (X1 X2 : List jm_c) (hB : iv_in F iv_B4)
    (a69 : 0 ≤ (sy_i F 69).toInt ∧ (sy_i F 69).toInt ≤ 7)
    (a72 : 0 ≤ (sy_i F 72).toInt ∧ (sy_i F 72).toInt ≤ 7)
    (k0 : (sy_i F 69).toInt ≤ (sy_i F 72).toInt → ∀ F1 : Nat → sy_d, iv_in F1 iv_B4 → (∀ j, j < 69 → j ∉ ([] : List Nat) → F1 j = F j) → Q (some (.int (sy_i F 70))) (sy_dh F1 X1 X2 (iv_H 4)))
    (k1 : (sy_i F 72).toInt < (sy_i F 69).toInt → (sy_i F 22).toInt ≤ 0 → ∀ F1 : Nat → sy_d, iv_in F1 iv_B4 → (∀ j, j < 69 → j ∉ ([] : List Nat) → F1 j = F j) → Q (some (.int (sy_i F 70))) (sy_dh F1 X1 X2 (iv_H 4)))
    (k2 : (sy_i F 72).toInt < (sy_i F 69).toInt → 0 < (sy_i F 22).toInt → ∀ F1 : Nat → sy_d, iv_in F1 iv_B4 → (∀ j, j < 69 → j ∉ ([] : List Nat) → F1 j = F j) → (sy_i F1 69).toInt = (sy_i F 69).toInt → sy_i F1 69 = sy_i F 69 → (sy_i F1 70).toInt = (sy_i F 70).toInt → sy_i F1 70 = sy_i F 70 → (sy_i F1 71).toInt = (sy_i F 71).toInt → sy_i F1 71 = sy_i F 71 → (sy_i F1 72).toInt = (sy_i F 72).toInt → sy_i F1 72 = sy_i F 72 → (sy_i F1 73).toInt = 0 → sy_i F1 73 = (0 : Int32) → (sy_i F1 74).toInt = 0 → sy_i F1 74 = (0 : Int32) → hd_W Ls xs d jm_M235 Q (46, sy_dL F1 [some (.inl (.ref 1000)), some (.inr (.inl 69)), some (.inr (.inl 70)), some (.inr (.inl 71)), some (.inr (.inl 72)), some (.inr (.inl 73)), some (.inr (.inl 74))], sy_dS F1 [], sy_dh F1 X1 X2 (iv_H 4), 0, 0)) :
    hd_W Ls xs d jm_M235 Q (27, sy_dL F [some (.inl (.ref 1000)), some (.inr (.inl 69)), some (.inr (.inl 70)), some (.inr (.inl 71)), some (.inr (.inl 72)), none, none], sy_dS F [], sy_dh F X1 X2 (iv_H 4), 0, 0) := by
  by_cases g0 : (sy_i F 69).toInt ≤ (sy_i F 72).toInt
  · exact zas_27_p0 hd F X1 X2 hB (by first | exact g0 | (simp only [nz_c]; exact g0)) (fun F1 g  => by rw [(rfl : sy_i F 70 = sy_i F 70)]; exact k0 g0 F1 (nz_in hB [] (fun j hj hn => g j hj (by simp only [List.mem_cons, List.not_mem_nil, or_false, not_or] at hn; exact trivial)) (List.forall_mem_nil _)) (fun j hj hn => g j hj (by simp only [List.mem_cons, List.not_mem_nil, or_false, not_or] at hn; exact trivial)) )
  replace g0 : (sy_i F 72).toInt < (sy_i F 69).toInt := by omega
  by_cases g1 : (sy_i F 22).toInt ≤ 0
  · exact zas_27_p1 hd F X1 X2 hB (by first | exact g0 | (simp only [nz_c]; exact g0)) (by first | exact g1 | (simp only [nz_c]; exact g1)) (fun F1 g  => by rw [(rfl : sy_i F 70 = sy_i F 70)]; exact k1 g0 g1 F1 (nz_in hB [] (fun j hj hn => g j hj (by simp only [List.mem_cons, List.not_mem_nil, or_false, not_or] at hn; exact trivial)) (List.forall_mem_nil _)) (fun j hj hn => g j hj (by simp only [List.mem_cons, List.not_mem_nil, or_false, not_or] at hn; exact trivial)) )
  replace g1 : 0 < (sy_i F 22).toInt := by omega
  exact zas_27_p2 hd F X1 X2 hB (by first | exact g0 | (simp only [nz_c]; exact g0)) (by first | exact g1 | (simp only [nz_c]; exact g1)) (fun F1 g e69 e70 e71 e72 e73 e74 => k2 g0 g1 F1 (nz_in hB [] (fun j hj hn => g j hj (by simp only [List.mem_cons, List.not_mem_nil, or_false, not_or] at hn; exact trivial)) (List.forall_mem_nil _)) (fun j hj hn => g j hj (by simp only [List.mem_cons, List.not_mem_nil, or_false, not_or] at hn; exact trivial)) ((congrArg Int32.toInt (zz_i e69)).trans (rfl : (sy_i F 69).toInt = (sy_i F 69).toInt)) ((zz_i e69).trans (rfl : sy_i F 69 = sy_i F 69)) ((congrArg Int32.toInt (zz_i e70)).trans (rfl : (sy_i F 70).toInt = (sy_i F 70).toInt)) ((zz_i e70).trans (rfl : sy_i F 70 = sy_i F 70)) ((congrArg Int32.toInt (zz_i e71)).trans (rfl : (sy_i F 71).toInt = (sy_i F 71).toInt)) ((zz_i e71).trans (rfl : sy_i F 71 = sy_i F 71)) ((congrArg Int32.toInt (zz_i e72)).trans (rfl : (sy_i F 72).toInt = (sy_i F 72).toInt)) ((zz_i e72).trans (rfl : sy_i F 72 = sy_i F 72)) ((congrArg Int32.toInt (zz_i e73)).trans (by decide : ((0 : Int32)).toInt = 0)) ((zz_i e73).trans (rfl : (0 : Int32) = (0 : Int32))) ((congrArg Int32.toInt (zz_i e74)).trans (by decide : ((0 : Int32)).toInt = 0)) ((zz_i e74).trans (rfl : (0 : Int32) = (0 : Int32))))
theorem zas_46_p0 {Ls : Nat} {xs : Nat → Int32} {d : Nat} {Q : Option Value → jm_h → Prop} (hd : 1 ≤ d) (F : Nat → sy_d) (X1 X2 : List jm_c) (hB : iv_in F iv_B4)
    (h0 : 7 ≤ (sy_i F 74).toInt)
    (h1 : (sy_i F 70).toInt < 0)
    (k : ∀ F1 : Nat → sy_d, (∀ j, j < 69 → True → F1 j = F j) → F1 69 = .inl (.int (sy_i F 69)) → F1 70 = .inl (.int (sy_i F 72)) → F1 71 = .inl (.int (sy_i F 73)) → F1 72 = .inl (.int ((sy_i F 72) + ((1 : Int32)))) → hd_W Ls xs d jm_M235 Q (27, sy_dL F1 [some (.inl (.ref 1000)), some (.inr (.inl 69)), some (.inr (.inl 70)), some (.inr (.inl 71)), some (.inr (.inl 72)), none, none], sy_dS F1 [], sy_dh F1 X1 X2 (iv_H 4), 0, 0)) :
    hd_W Ls xs d jm_M235 Q (46, sy_dL F [some (.inl (.ref 1000)), some (.inr (.inl 69)), some (.inr (.inl 70)), some (.inr (.inl 71)), some (.inr (.inl 72)), some (.inr (.inl 73)), some (.inr (.inl 74))], sy_dS F [], sy_dh F X1 X2 (iv_H 4), 0, 0) := by
  refine hd_run (s := 4) (nv := 75) (pc := 27) (L := [some (.inl (.ref 1000)), some (.inr (.inl 69)), some (.inr (.inl 70)), some (.inr (.inl 71)), some (.inr (.inl 72)), none, none]) (S := []) (uh := hd_ov (iv_id 0 iv_B4) []) (ul := [.inl (.inr (.inl 69)), .inl (.inr (.inl 72)), .inl (.inr (.inl 73)), .inl (.inr (.inl 75))]) (f := true) (sp := [27, 46]) (d0 := 0) (O := [true, true]) (T := [(0, [.inr (.inl 72), .inl (.int 1)], [])]) (P := [(4, .inl (.int 7), .inr (.inl 74)), (2, .inr (.inl 70), .inl (.int 0))]) jm_ok235 (by decide +kernel) (by decide +kernel) hd F X1 X2 (fun F' hF hs => ?_)
  have b74 := hd_b (F := F) (F' := F') (k := 74) (hF 74 (by decide))
  have b70 := hd_b (F := F) (F' := F') (k := 70) (hF 70 (by decide))
  have b69 := hd_b (F := F) (F' := F') (k := 69) (hF 69 (by decide))
  have b72 := hd_b (F := F) (F' := F') (k := 72) (hF 72 (by decide))
  have b73 := hd_b (F := F) (F' := F') (k := 73) (hF 73 (by decide))
  have t75 : sy_dv F' (.inr (.inl 75)) = .int ((sy_i F 72) + ((1 : Int32))) := hd_o (hs 0 _ rfl) b72 rfl rfl
  have hB' : iv_in F' iv_B4 := iv_in_eq hB (fun j hj => hF j (Nat.lt_of_lt_of_le hj (by decide +kernel)))
  refine ⟨List.forall_mem_cons.mpr ⟨hd_p4 rfl b74 (by have hc : ((7) : Int32).toInt = 7 := (by decide); omega), List.forall_mem_cons.mpr ⟨hd_p2 b70 rfl (by have hc : ((0) : Int32).toInt = 0 := (by decide); omega), fun _ h => absurd h List.not_mem_nil⟩⟩, ?_⟩
  refine k _ ?_ ?_ ?_ ?_ ?_
  · exact fun j hj _ => (hd_keep hB' (Nat.lt_of_lt_of_le hj (by decide +kernel)) (by simp)).trans (hF j (Nat.lt_of_lt_of_le hj (by decide)))
  · exact hd_gi (x := .inr (.inl 69)) (by decide +kernel) b69
  · exact hd_gi (x := .inr (.inl 72)) (by decide +kernel) b72
  · exact hd_gi (x := .inr (.inl 73)) (by decide +kernel) b73
  · exact hd_gi (x := .inr (.inl 75)) (by decide +kernel) t75
theorem zas_46_p1 {Ls : Nat} {xs : Nat → Int32} {d : Nat} {Q : Option Value → jm_h → Prop} (hd : 1 ≤ d) (F : Nat → sy_d) (X1 X2 : List jm_c) (hB : iv_in F iv_B4)
    (h0 : 7 ≤ (sy_i F 74).toInt)
    (h1 : 0 ≤ (sy_i F 70).toInt)
    (h2 : (sy_i F 73).toInt < (sy_i F 71).toInt)
    (k : ∀ F1 : Nat → sy_d, (∀ j, j < 69 → True → F1 j = F j) → F1 69 = .inl (.int (sy_i F 69)) → F1 70 = .inl (.int (sy_i F 72)) → F1 71 = .inl (.int (sy_i F 73)) → F1 72 = .inl (.int ((sy_i F 72) + ((1 : Int32)))) → hd_W Ls xs d jm_M235 Q (27, sy_dL F1 [some (.inl (.ref 1000)), some (.inr (.inl 69)), some (.inr (.inl 70)), some (.inr (.inl 71)), some (.inr (.inl 72)), none, none], sy_dS F1 [], sy_dh F1 X1 X2 (iv_H 4), 0, 0)) :
    hd_W Ls xs d jm_M235 Q (46, sy_dL F [some (.inl (.ref 1000)), some (.inr (.inl 69)), some (.inr (.inl 70)), some (.inr (.inl 71)), some (.inr (.inl 72)), some (.inr (.inl 73)), some (.inr (.inl 74))], sy_dS F [], sy_dh F X1 X2 (iv_H 4), 0, 0) := by
  refine hd_run (s := 4) (nv := 75) (pc := 27) (L := [some (.inl (.ref 1000)), some (.inr (.inl 69)), some (.inr (.inl 70)), some (.inr (.inl 71)), some (.inr (.inl 72)), none, none]) (S := []) (uh := hd_ov (iv_id 0 iv_B4) []) (ul := [.inl (.inr (.inl 69)), .inl (.inr (.inl 72)), .inl (.inr (.inl 73)), .inl (.inr (.inl 75))]) (f := true) (sp := [27, 46]) (d0 := 0) (O := [true, false, true]) (T := [(0, [.inr (.inl 72), .inl (.int 1)], [])]) (P := [(4, .inl (.int 7), .inr (.inl 74)), (3, .inr (.inl 70), .inl (.int 0)), (2, .inr (.inl 73), .inr (.inl 71))]) jm_ok235 (by decide +kernel) (by decide +kernel) hd F X1 X2 (fun F' hF hs => ?_)
  have b74 := hd_b (F := F) (F' := F') (k := 74) (hF 74 (by decide))
  have b70 := hd_b (F := F) (F' := F') (k := 70) (hF 70 (by decide))
  have b73 := hd_b (F := F) (F' := F') (k := 73) (hF 73 (by decide))
  have b71 := hd_b (F := F) (F' := F') (k := 71) (hF 71 (by decide))
  have b69 := hd_b (F := F) (F' := F') (k := 69) (hF 69 (by decide))
  have b72 := hd_b (F := F) (F' := F') (k := 72) (hF 72 (by decide))
  have t75 : sy_dv F' (.inr (.inl 75)) = .int ((sy_i F 72) + ((1 : Int32))) := hd_o (hs 0 _ rfl) b72 rfl rfl
  have hB' : iv_in F' iv_B4 := iv_in_eq hB (fun j hj => hF j (Nat.lt_of_lt_of_le hj (by decide +kernel)))
  refine ⟨List.forall_mem_cons.mpr ⟨hd_p4 rfl b74 (by have hc : ((7) : Int32).toInt = 7 := (by decide); omega), List.forall_mem_cons.mpr ⟨hd_p3 b70 rfl (by have hc : ((0) : Int32).toInt = 0 := (by decide); omega), List.forall_mem_cons.mpr ⟨hd_p2 b73 b71 h2, fun _ h => absurd h List.not_mem_nil⟩⟩⟩, ?_⟩
  refine k _ ?_ ?_ ?_ ?_ ?_
  · exact fun j hj _ => (hd_keep hB' (Nat.lt_of_lt_of_le hj (by decide +kernel)) (by simp)).trans (hF j (Nat.lt_of_lt_of_le hj (by decide)))
  · exact hd_gi (x := .inr (.inl 69)) (by decide +kernel) b69
  · exact hd_gi (x := .inr (.inl 72)) (by decide +kernel) b72
  · exact hd_gi (x := .inr (.inl 73)) (by decide +kernel) b73
  · exact hd_gi (x := .inr (.inl 75)) (by decide +kernel) t75
theorem zas_46_p2 {Ls : Nat} {xs : Nat → Int32} {d : Nat} {Q : Option Value → jm_h → Prop} (hd : 1 ≤ d) (F : Nat → sy_d) (X1 X2 : List jm_c) (hB : iv_in F iv_B4)
    (h0 : 7 ≤ (sy_i F 74).toInt)
    (h1 : 0 ≤ (sy_i F 70).toInt)
    (h2 : (sy_i F 71).toInt ≤ (sy_i F 73).toInt)
    (k : ∀ F1 : Nat → sy_d, (∀ j, j < 69 → True → F1 j = F j) → F1 69 = .inl (.int (sy_i F 69)) → F1 70 = .inl (.int (sy_i F 70)) → F1 71 = .inl (.int (sy_i F 71)) → F1 72 = .inl (.int ((sy_i F 72) + ((1 : Int32)))) → hd_W Ls xs d jm_M235 Q (27, sy_dL F1 [some (.inl (.ref 1000)), some (.inr (.inl 69)), some (.inr (.inl 70)), some (.inr (.inl 71)), some (.inr (.inl 72)), none, none], sy_dS F1 [], sy_dh F1 X1 X2 (iv_H 4), 0, 0)) :
    hd_W Ls xs d jm_M235 Q (46, sy_dL F [some (.inl (.ref 1000)), some (.inr (.inl 69)), some (.inr (.inl 70)), some (.inr (.inl 71)), some (.inr (.inl 72)), some (.inr (.inl 73)), some (.inr (.inl 74))], sy_dS F [], sy_dh F X1 X2 (iv_H 4), 0, 0) := by
  refine hd_run (s := 4) (nv := 75) (pc := 27) (L := [some (.inl (.ref 1000)), some (.inr (.inl 69)), some (.inr (.inl 70)), some (.inr (.inl 71)), some (.inr (.inl 72)), none, none]) (S := []) (uh := hd_ov (iv_id 0 iv_B4) []) (ul := [.inl (.inr (.inl 69)), .inl (.inr (.inl 70)), .inl (.inr (.inl 71)), .inl (.inr (.inl 75))]) (f := true) (sp := [27, 46]) (d0 := 0) (O := [true, false, false]) (T := [(0, [.inr (.inl 72), .inl (.int 1)], [])]) (P := [(4, .inl (.int 7), .inr (.inl 74)), (3, .inr (.inl 70), .inl (.int 0)), (3, .inr (.inl 73), .inr (.inl 71))]) jm_ok235 (by decide +kernel) (by decide +kernel) hd F X1 X2 (fun F' hF hs => ?_)
  have b74 := hd_b (F := F) (F' := F') (k := 74) (hF 74 (by decide))
  have b70 := hd_b (F := F) (F' := F') (k := 70) (hF 70 (by decide))
  have b73 := hd_b (F := F) (F' := F') (k := 73) (hF 73 (by decide))
  have b71 := hd_b (F := F) (F' := F') (k := 71) (hF 71 (by decide))
  have b69 := hd_b (F := F) (F' := F') (k := 69) (hF 69 (by decide))
  have b72 := hd_b (F := F) (F' := F') (k := 72) (hF 72 (by decide))
  have t75 : sy_dv F' (.inr (.inl 75)) = .int ((sy_i F 72) + ((1 : Int32))) := hd_o (hs 0 _ rfl) b72 rfl rfl
  have hB' : iv_in F' iv_B4 := iv_in_eq hB (fun j hj => hF j (Nat.lt_of_lt_of_le hj (by decide +kernel)))
  refine ⟨List.forall_mem_cons.mpr ⟨hd_p4 rfl b74 (by have hc : ((7) : Int32).toInt = 7 := (by decide); omega), List.forall_mem_cons.mpr ⟨hd_p3 b70 rfl (by have hc : ((0) : Int32).toInt = 0 := (by decide); omega), List.forall_mem_cons.mpr ⟨hd_p3 b73 b71 h2, fun _ h => absurd h List.not_mem_nil⟩⟩⟩, ?_⟩
  refine k _ ?_ ?_ ?_ ?_ ?_
  · exact fun j hj _ => (hd_keep hB' (Nat.lt_of_lt_of_le hj (by decide +kernel)) (by simp)).trans (hF j (Nat.lt_of_lt_of_le hj (by decide)))
  · exact hd_gi (x := .inr (.inl 69)) (by decide +kernel) b69
  · exact hd_gi (x := .inr (.inl 70)) (by decide +kernel) b70
  · exact hd_gi (x := .inr (.inl 71)) (by decide +kernel) b71
  · exact hd_gi (x := .inr (.inl 75)) (by decide +kernel) t75
theorem zas_46_p3 {Ls : Nat} {xs : Nat → Int32} {d : Nat} {Q : Option Value → jm_h → Prop} (hd : 1 ≤ d) (F : Nat → sy_d) (X1 X2 : List jm_c) (hB : iv_in F iv_B4)
    (h0 : (sy_i F 74).toInt < 7)
    (h1 : 0 ≤ ((((7 : Int32)) * (sy_i F 72)) + (sy_i F 74)).toInt ∧ ((((7 : Int32)) * (sy_i F 72)) + (sy_i F 74)).toInt < 49)
    (h2 : ((sy_ai F 66).getD ((((7 : Int32)) * (sy_i F 72)) + (sy_i F 74)).toNatClampNeg 0).toInt ≤ (sy_i F 73).toInt)
    (k : ∀ F1 : Nat → sy_d, (∀ j, j < 69 → True → F1 j = F j) → F1 69 = .inl (.int (sy_i F 69)) → F1 70 = .inl (.int (sy_i F 70)) → F1 71 = .inl (.int (sy_i F 71)) → F1 72 = .inl (.int (sy_i F 72)) → F1 73 = .inl (.int (sy_i F 73)) → F1 74 = .inl (.int ((sy_i F 74) + ((1 : Int32)))) → hd_W Ls xs d jm_M235 Q (46, sy_dL F1 [some (.inl (.ref 1000)), some (.inr (.inl 69)), some (.inr (.inl 70)), some (.inr (.inl 71)), some (.inr (.inl 72)), some (.inr (.inl 73)), some (.inr (.inl 74))], sy_dS F1 [], sy_dh F1 X1 X2 (iv_H 4), 0, 0)) :
    hd_W Ls xs d jm_M235 Q (46, sy_dL F [some (.inl (.ref 1000)), some (.inr (.inl 69)), some (.inr (.inl 70)), some (.inr (.inl 71)), some (.inr (.inl 72)), some (.inr (.inl 73)), some (.inr (.inl 74))], sy_dS F [], sy_dh F X1 X2 (iv_H 4), 0, 0) := by
  refine hd_run (s := 4) (nv := 75) (pc := 46) (L := [some (.inl (.ref 1000)), some (.inr (.inl 69)), some (.inr (.inl 70)), some (.inr (.inl 71)), some (.inr (.inl 72)), some (.inr (.inl 73)), some (.inr (.inl 74))]) (S := []) (uh := hd_ov (iv_id 0 iv_B4) []) (ul := [.inl (.inr (.inl 69)), .inl (.inr (.inl 70)), .inl (.inr (.inl 71)), .inl (.inr (.inl 72)), .inl (.inr (.inl 73)), .inl (.inr (.inl 78))]) (f := true) (sp := [27, 46]) (d0 := 0) (O := [false, true]) (T := [(2, [.inl (.int 7), .inr (.inl 72)], []), (0, [.inr (.inl 75), .inr (.inl 74)], []), (30, [.inr (.inl 76)], [.inr (.inl 66)]), (0, [.inr (.inl 74), .inl (.int 1)], [])]) (P := [(5, .inl (.int 7), .inr (.inl 74)), (6, .inr (.inl 76), .inl (.ref 49)), (4, .inr (.inl 77), .inr (.inl 73))]) jm_ok235 (by decide +kernel) (by decide +kernel) hd F X1 X2 (fun F' hF hs => ?_)
  have b74 := hd_b (F := F) (F' := F') (k := 74) (hF 74 (by decide))
  have b72 := hd_b (F := F) (F' := F') (k := 72) (hF 72 (by decide))
  have t75 : sy_dv F' (.inr (.inl 75)) = .int (((7 : Int32)) * (sy_i F 72)) := hd_o (hs 0 _ rfl) rfl b72 rfl
  have t76 : sy_dv F' (.inr (.inl 76)) = .int ((((7 : Int32)) * (sy_i F 72)) + (sy_i F 74)) := hd_o (hs 1 _ rfl) t75 b74 rfl
  have a66 := hd_ba (F := F) (F' := F') (k := 66) (hF 66 (by decide))
  have t77 : sy_dv F' (.inr (.inl 77)) = .int ((sy_ai F 66).getD ((((7 : Int32)) * (sy_i F 72)) + (sy_i F 74)).toNatClampNeg 0) := hd_rd (hs 2 _ rfl) t76 a66
  have b73 := hd_b (F := F) (F' := F') (k := 73) (hF 73 (by decide))
  have b69 := hd_b (F := F) (F' := F') (k := 69) (hF 69 (by decide))
  have b70 := hd_b (F := F) (F' := F') (k := 70) (hF 70 (by decide))
  have b71 := hd_b (F := F) (F' := F') (k := 71) (hF 71 (by decide))
  have t78 : sy_dv F' (.inr (.inl 78)) = .int ((sy_i F 74) + ((1 : Int32))) := hd_o (hs 3 _ rfl) b74 rfl rfl
  have hB' : iv_in F' iv_B4 := iv_in_eq hB (fun j hj => hF j (Nat.lt_of_lt_of_le hj (by decide +kernel)))
  refine ⟨List.forall_mem_cons.mpr ⟨hd_p5 rfl b74 (by have hc : ((7) : Int32).toInt = 7 := (by decide); omega), List.forall_mem_cons.mpr ⟨hd_pb t76 (by first | exact h1 | exact h1), List.forall_mem_cons.mpr ⟨hd_p4 t77 b73 h2, fun _ h => absurd h List.not_mem_nil⟩⟩⟩, ?_⟩
  refine k _ ?_ ?_ ?_ ?_ ?_ ?_ ?_
  · exact fun j hj _ => (hd_keep hB' (Nat.lt_of_lt_of_le hj (by decide +kernel)) (by simp)).trans (hF j (Nat.lt_of_lt_of_le hj (by decide)))
  · exact hd_gi (x := .inr (.inl 69)) (by decide +kernel) b69
  · exact hd_gi (x := .inr (.inl 70)) (by decide +kernel) b70
  · exact hd_gi (x := .inr (.inl 71)) (by decide +kernel) b71
  · exact hd_gi (x := .inr (.inl 72)) (by decide +kernel) b72
  · exact hd_gi (x := .inr (.inl 73)) (by decide +kernel) b73
  · exact hd_gi (x := .inr (.inl 78)) (by decide +kernel) t78
theorem zas_46_p4 {Ls : Nat} {xs : Nat → Int32} {d : Nat} {Q : Option Value → jm_h → Prop} (hd : 1 ≤ d) (F : Nat → sy_d) (X1 X2 : List jm_c) (hB : iv_in F iv_B4)
    (h0 : (sy_i F 74).toInt < 7)
    (h1 : 0 ≤ ((((7 : Int32)) * (sy_i F 72)) + (sy_i F 74)).toInt ∧ ((((7 : Int32)) * (sy_i F 72)) + (sy_i F 74)).toInt < 49)
    (h2 : (sy_i F 73).toInt < ((sy_ai F 66).getD ((((7 : Int32)) * (sy_i F 72)) + (sy_i F 74)).toNatClampNeg 0).toInt)
    (h3 : 0 ≤ ((((7 : Int32)) * (sy_i F 72)) + (sy_i F 74)).toInt ∧ ((((7 : Int32)) * (sy_i F 72)) + (sy_i F 74)).toInt < 49)
    (k : ∀ F1 : Nat → sy_d, (∀ j, j < 69 → True → F1 j = F j) → F1 69 = .inl (.int (sy_i F 69)) → F1 70 = .inl (.int (sy_i F 70)) → F1 71 = .inl (.int (sy_i F 71)) → F1 72 = .inl (.int (sy_i F 72)) → F1 73 = .inl (.int ((sy_ai F 66).getD ((((7 : Int32)) * (sy_i F 72)) + (sy_i F 74)).toNatClampNeg 0)) → F1 74 = .inl (.int ((sy_i F 74) + ((1 : Int32)))) → hd_W Ls xs d jm_M235 Q (46, sy_dL F1 [some (.inl (.ref 1000)), some (.inr (.inl 69)), some (.inr (.inl 70)), some (.inr (.inl 71)), some (.inr (.inl 72)), some (.inr (.inl 73)), some (.inr (.inl 74))], sy_dS F1 [], sy_dh F1 X1 X2 (iv_H 4), 0, 0)) :
    hd_W Ls xs d jm_M235 Q (46, sy_dL F [some (.inl (.ref 1000)), some (.inr (.inl 69)), some (.inr (.inl 70)), some (.inr (.inl 71)), some (.inr (.inl 72)), some (.inr (.inl 73)), some (.inr (.inl 74))], sy_dS F [], sy_dh F X1 X2 (iv_H 4), 0, 0) := by
  refine hd_run (s := 4) (nv := 75) (pc := 46) (L := [some (.inl (.ref 1000)), some (.inr (.inl 69)), some (.inr (.inl 70)), some (.inr (.inl 71)), some (.inr (.inl 72)), some (.inr (.inl 73)), some (.inr (.inl 74))]) (S := []) (uh := hd_ov (iv_id 0 iv_B4) []) (ul := [.inl (.inr (.inl 69)), .inl (.inr (.inl 70)), .inl (.inr (.inl 71)), .inl (.inr (.inl 72)), .inl (.inr (.inl 80)), .inl (.inr (.inl 81))]) (f := true) (sp := [27, 46]) (d0 := 0) (O := [false, false]) (T := [(2, [.inl (.int 7), .inr (.inl 72)], []), (0, [.inr (.inl 75), .inr (.inl 74)], []), (30, [.inr (.inl 76)], [.inr (.inl 66)]), (2, [.inl (.int 7), .inr (.inl 72)], []), (0, [.inr (.inl 78), .inr (.inl 74)], []), (30, [.inr (.inl 79)], [.inr (.inl 66)]), (0, [.inr (.inl 74), .inl (.int 1)], [])]) (P := [(5, .inl (.int 7), .inr (.inl 74)), (6, .inr (.inl 76), .inl (.ref 49)), (5, .inr (.inl 77), .inr (.inl 73)), (6, .inr (.inl 79), .inl (.ref 49))]) jm_ok235 (by decide +kernel) (by decide +kernel) hd F X1 X2 (fun F' hF hs => ?_)
  have b74 := hd_b (F := F) (F' := F') (k := 74) (hF 74 (by decide))
  have b72 := hd_b (F := F) (F' := F') (k := 72) (hF 72 (by decide))
  have t75 : sy_dv F' (.inr (.inl 75)) = .int (((7 : Int32)) * (sy_i F 72)) := hd_o (hs 0 _ rfl) rfl b72 rfl
  have t76 : sy_dv F' (.inr (.inl 76)) = .int ((((7 : Int32)) * (sy_i F 72)) + (sy_i F 74)) := hd_o (hs 1 _ rfl) t75 b74 rfl
  have a66 := hd_ba (F := F) (F' := F') (k := 66) (hF 66 (by decide))
  have t77 : sy_dv F' (.inr (.inl 77)) = .int ((sy_ai F 66).getD ((((7 : Int32)) * (sy_i F 72)) + (sy_i F 74)).toNatClampNeg 0) := hd_rd (hs 2 _ rfl) t76 a66
  have b73 := hd_b (F := F) (F' := F') (k := 73) (hF 73 (by decide))
  have t78 : sy_dv F' (.inr (.inl 78)) = .int (((7 : Int32)) * (sy_i F 72)) := hd_o (hs 3 _ rfl) rfl b72 rfl
  have t79 : sy_dv F' (.inr (.inl 79)) = .int ((((7 : Int32)) * (sy_i F 72)) + (sy_i F 74)) := hd_o (hs 4 _ rfl) t78 b74 rfl
  have b69 := hd_b (F := F) (F' := F') (k := 69) (hF 69 (by decide))
  have b70 := hd_b (F := F) (F' := F') (k := 70) (hF 70 (by decide))
  have b71 := hd_b (F := F) (F' := F') (k := 71) (hF 71 (by decide))
  have t80 : sy_dv F' (.inr (.inl 80)) = .int ((sy_ai F 66).getD ((((7 : Int32)) * (sy_i F 72)) + (sy_i F 74)).toNatClampNeg 0) := hd_rd (hs 5 _ rfl) t79 a66
  have t81 : sy_dv F' (.inr (.inl 81)) = .int ((sy_i F 74) + ((1 : Int32))) := hd_o (hs 6 _ rfl) b74 rfl rfl
  have hB' : iv_in F' iv_B4 := iv_in_eq hB (fun j hj => hF j (Nat.lt_of_lt_of_le hj (by decide +kernel)))
  refine ⟨List.forall_mem_cons.mpr ⟨hd_p5 rfl b74 (by have hc : ((7) : Int32).toInt = 7 := (by decide); omega), List.forall_mem_cons.mpr ⟨hd_pb t76 (by first | exact h1 | exact h1), List.forall_mem_cons.mpr ⟨hd_p5 t77 b73 h2, List.forall_mem_cons.mpr ⟨hd_pb t79 (by first | exact h3 | exact h3), fun _ h => absurd h List.not_mem_nil⟩⟩⟩⟩, ?_⟩
  refine k _ ?_ ?_ ?_ ?_ ?_ ?_ ?_
  · exact fun j hj _ => (hd_keep hB' (Nat.lt_of_lt_of_le hj (by decide +kernel)) (by simp)).trans (hF j (Nat.lt_of_lt_of_le hj (by decide)))
  · exact hd_gi (x := .inr (.inl 69)) (by decide +kernel) b69
  · exact hd_gi (x := .inr (.inl 70)) (by decide +kernel) b70
  · exact hd_gi (x := .inr (.inl 71)) (by decide +kernel) b71
  · exact hd_gi (x := .inr (.inl 72)) (by decide +kernel) b72
  · exact hd_gi (x := .inr (.inl 80)) (by decide +kernel) t80
  · exact hd_gi (x := .inr (.inl 81)) (by decide +kernel) t81
theorem zas_46 {Ls : Nat} {xs : Nat → Int32} {d : Nat} {Q : Option Value → jm_h → Prop} (hd : 1 ≤ d) (F : Nat → sy_d) (X1 X2 : List jm_c) (hB : iv_in F iv_B4)
    (a72 : 0 ≤ (sy_i F 72).toInt ∧ (sy_i F 72).toInt ≤ 6)
    (a74 : 0 ≤ (sy_i F 74).toInt ∧ (sy_i F 74).toInt ≤ 7)
    (k0 : 7 ≤ (sy_i F 74).toInt → (sy_i F 70).toInt < 0 → ∀ F1 : Nat → sy_d, iv_in F1 iv_B4 → (∀ j, j < 69 → j ∉ ([] : List Nat) → F1 j = F j) → (sy_i F1 69).toInt = (sy_i F 69).toInt → sy_i F1 69 = sy_i F 69 → (sy_i F1 70).toInt = (sy_i F 72).toInt → sy_i F1 70 = sy_i F 72 → (sy_i F1 71).toInt = (sy_i F 73).toInt → sy_i F1 71 = sy_i F 73 → (sy_i F1 72).toInt = ((sy_i F 72).toInt + 1) → sy_i F1 72 = (sy_i F 72) + ((1 : Int32)) → hd_W Ls xs d jm_M235 Q (27, sy_dL F1 [some (.inl (.ref 1000)), some (.inr (.inl 69)), some (.inr (.inl 70)), some (.inr (.inl 71)), some (.inr (.inl 72)), none, none], sy_dS F1 [], sy_dh F1 X1 X2 (iv_H 4), 0, 0))
    (k1 : 7 ≤ (sy_i F 74).toInt → 0 ≤ (sy_i F 70).toInt → (sy_i F 73).toInt < (sy_i F 71).toInt → ∀ F1 : Nat → sy_d, iv_in F1 iv_B4 → (∀ j, j < 69 → j ∉ ([] : List Nat) → F1 j = F j) → (sy_i F1 69).toInt = (sy_i F 69).toInt → sy_i F1 69 = sy_i F 69 → (sy_i F1 70).toInt = (sy_i F 72).toInt → sy_i F1 70 = sy_i F 72 → (sy_i F1 71).toInt = (sy_i F 73).toInt → sy_i F1 71 = sy_i F 73 → (sy_i F1 72).toInt = ((sy_i F 72).toInt + 1) → sy_i F1 72 = (sy_i F 72) + ((1 : Int32)) → hd_W Ls xs d jm_M235 Q (27, sy_dL F1 [some (.inl (.ref 1000)), some (.inr (.inl 69)), some (.inr (.inl 70)), some (.inr (.inl 71)), some (.inr (.inl 72)), none, none], sy_dS F1 [], sy_dh F1 X1 X2 (iv_H 4), 0, 0))
    (k2 : 7 ≤ (sy_i F 74).toInt → 0 ≤ (sy_i F 70).toInt → (sy_i F 71).toInt ≤ (sy_i F 73).toInt → ∀ F1 : Nat → sy_d, iv_in F1 iv_B4 → (∀ j, j < 69 → j ∉ ([] : List Nat) → F1 j = F j) → (sy_i F1 69).toInt = (sy_i F 69).toInt → sy_i F1 69 = sy_i F 69 → (sy_i F1 70).toInt = (sy_i F 70).toInt → sy_i F1 70 = sy_i F 70 → (sy_i F1 71).toInt = (sy_i F 71).toInt → sy_i F1 71 = sy_i F 71 → (sy_i F1 72).toInt = ((sy_i F 72).toInt + 1) → sy_i F1 72 = (sy_i F 72) + ((1 : Int32)) → hd_W Ls xs d jm_M235 Q (27, sy_dL F1 [some (.inl (.ref 1000)), some (.inr (.inl 69)), some (.inr (.inl 70)), some (.inr (.inl 71)), some (.inr (.inl 72)), none, none], sy_dS F1 [], sy_dh F1 X1 X2 (iv_H 4), 0, 0))
    (k3 : (sy_i F 74).toInt < 7 → ((sy_ai F 66).getD (((7 * (sy_i F 72).toInt) + (sy_i F 74).toInt)).toNat 0).toInt ≤ (sy_i F 73).toInt → ∀ F1 : Nat → sy_d, iv_in F1 iv_B4 → (∀ j, j < 69 → j ∉ ([] : List Nat) → F1 j = F j) → (sy_i F1 69).toInt = (sy_i F 69).toInt → sy_i F1 69 = sy_i F 69 → (sy_i F1 70).toInt = (sy_i F 70).toInt → sy_i F1 70 = sy_i F 70 → (sy_i F1 71).toInt = (sy_i F 71).toInt → sy_i F1 71 = sy_i F 71 → (sy_i F1 72).toInt = (sy_i F 72).toInt → sy_i F1 72 = sy_i F 72 → (sy_i F1 73).toInt = (sy_i F 73).toInt → sy_i F1 73 = sy_i F 73 → (sy_i F1 74).toInt = ((sy_i F 74).toInt + 1) → sy_i F1 74 = (sy_i F 74) + ((1 : Int32)) → hd_W Ls xs d jm_M235 Q (46, sy_dL F1 [some (.inl (.ref 1000)), some (.inr (.inl 69)), some (.inr (.inl 70)), some (.inr (.inl 71)), some (.inr (.inl 72)), some (.inr (.inl 73)), some (.inr (.inl 74))], sy_dS F1 [], sy_dh F1 X1 X2 (iv_H 4), 0, 0))
    (k4 : (sy_i F 74).toInt < 7 → (sy_i F 73).toInt < ((sy_ai F 66).getD (((7 * (sy_i F 72).toInt) + (sy_i F 74).toInt)).toNat 0).toInt → ∀ F1 : Nat → sy_d, iv_in F1 iv_B4 → (∀ j, j < 69 → j ∉ ([] : List Nat) → F1 j = F j) → (sy_i F1 69).toInt = (sy_i F 69).toInt → sy_i F1 69 = sy_i F 69 → (sy_i F1 70).toInt = (sy_i F 70).toInt → sy_i F1 70 = sy_i F 70 → (sy_i F1 71).toInt = (sy_i F 71).toInt → sy_i F1 71 = sy_i F 71 → (sy_i F1 72).toInt = (sy_i F 72).toInt → sy_i F1 72 = sy_i F 72 → (sy_i F1 73).toInt = ((sy_ai F 66).getD (((7 * (sy_i F 72).toInt) + (sy_i F 74).toInt)).toNat 0).toInt → sy_i F1 73 = (sy_ai F 66).getD (((7 * (sy_i F 72).toInt) + (sy_i F 74).toInt)).toNat 0 → (sy_i F1 74).toInt = ((sy_i F 74).toInt + 1) → sy_i F1 74 = (sy_i F 74) + ((1 : Int32)) → hd_W Ls xs d jm_M235 Q (46, sy_dL F1 [some (.inl (.ref 1000)), some (.inr (.inl 69)), some (.inr (.inl 70)), some (.inr (.inl 71)), some (.inr (.inl 72)), some (.inr (.inl 73)), some (.inr (.inl 74))], sy_dS F1 [], sy_dh F1 X1 X2 (iv_H 4), 0, 0)) :
    hd_W Ls xs d jm_M235 Q (46, sy_dL F [some (.inl (.ref 1000)), some (.inr (.inl 69)), some (.inr (.inl 70)), some (.inr (.inl 71)), some (.inr (.inl 72)), some (.inr (.inl 73)), some (.inr (.inl 74))], sy_dS F [], sy_dh F X1 X2 (iv_H 4), 0, 0) := by
  by_cases g0 : 7 ≤ (sy_i F 74).toInt
  · by_cases g1 : (sy_i F 70).toInt < 0
    · have n75 : nzI ((sy_i F 72) + ((1 : Int32))) (((sy_i F 72).toInt + 1)) := nz_add (rfl : (sy_i F 72).toInt = (sy_i F 72).toInt) (by decide : ((1 : Int32)).toInt = 1) (by omega) (by omega)
      exact zas_46_p0 hd F X1 X2 hB (by first | exact g0 | (simp only [nz_c]; exact g0)) (by first | exact g1 | (simp only [nz_c]; exact g1)) (fun F1 g e69 e70 e71 e72 => k0 g0 g1 F1 (nz_in hB [] (fun j hj hn => g j hj (by simp only [List.mem_cons, List.not_mem_nil, or_false, not_or] at hn; exact trivial)) (List.forall_mem_nil _)) (fun j hj hn => g j hj (by simp only [List.mem_cons, List.not_mem_nil, or_false, not_or] at hn; exact trivial)) ((congrArg Int32.toInt (zz_i e69)).trans (rfl : (sy_i F 69).toInt = (sy_i F 69).toInt)) ((zz_i e69).trans (rfl : sy_i F 69 = sy_i F 69)) ((congrArg Int32.toInt (zz_i e70)).trans (rfl : (sy_i F 72).toInt = (sy_i F 72).toInt)) ((zz_i e70).trans (rfl : sy_i F 72 = sy_i F 72)) ((congrArg Int32.toInt (zz_i e71)).trans (rfl : (sy_i F 73).toInt = (sy_i F 73).toInt)) ((zz_i e71).trans (rfl : sy_i F 73 = sy_i F 73)) ((congrArg Int32.toInt (zz_i e72)).trans (nzE n75)) ((zz_i e72).trans (rfl : (sy_i F 72) + ((1 : Int32)) = (sy_i F 72) + ((1 : Int32)))))
    replace g1 : 0 ≤ (sy_i F 70).toInt := by omega
    by_cases g2 : (sy_i F 73).toInt < (sy_i F 71).toInt
    · have n75 : nzI ((sy_i F 72) + ((1 : Int32))) (((sy_i F 72).toInt + 1)) := nz_add (rfl : (sy_i F 72).toInt = (sy_i F 72).toInt) (by decide : ((1 : Int32)).toInt = 1) (by omega) (by omega)
      exact zas_46_p1 hd F X1 X2 hB (by first | exact g0 | (simp only [nz_c]; exact g0)) (by first | exact g1 | (simp only [nz_c]; exact g1)) (by first | exact g2 | (simp only [nz_c]; exact g2)) (fun F1 g e69 e70 e71 e72 => k1 g0 g1 g2 F1 (nz_in hB [] (fun j hj hn => g j hj (by simp only [List.mem_cons, List.not_mem_nil, or_false, not_or] at hn; exact trivial)) (List.forall_mem_nil _)) (fun j hj hn => g j hj (by simp only [List.mem_cons, List.not_mem_nil, or_false, not_or] at hn; exact trivial)) ((congrArg Int32.toInt (zz_i e69)).trans (rfl : (sy_i F 69).toInt = (sy_i F 69).toInt)) ((zz_i e69).trans (rfl : sy_i F 69 = sy_i F 69)) ((congrArg Int32.toInt (zz_i e70)).trans (rfl : (sy_i F 72).toInt = (sy_i F 72).toInt)) ((zz_i e70).trans (rfl : sy_i F 72 = sy_i F 72)) ((congrArg Int32.toInt (zz_i e71)).trans (rfl : (sy_i F 73).toInt = (sy_i F 73).toInt)) ((zz_i e71).trans (rfl : sy_i F 73 = sy_i F 73)) ((congrArg Int32.toInt (zz_i e72)).trans (nzE n75)) ((zz_i e72).trans (rfl : (sy_i F 72) + ((1 : Int32)) = (sy_i F 72) + ((1 : Int32)))))
    replace g2 : (sy_i F 71).toInt ≤ (sy_i F 73).toInt := by omega
    have n75 : nzI ((sy_i F 72) + ((1 : Int32))) (((sy_i F 72).toInt + 1)) := nz_add (rfl : (sy_i F 72).toInt = (sy_i F 72).toInt) (by decide : ((1 : Int32)).toInt = 1) (by omega) (by omega)
    exact zas_46_p2 hd F X1 X2 hB (by first | exact g0 | (simp only [nz_c]; exact g0)) (by first | exact g1 | (simp only [nz_c]; exact g1)) (by first | exact g2 | (simp only [nz_c]; exact g2)) (fun F1 g e69 e70 e71 e72 => k2 g0 g1 g2 F1 (nz_in hB [] (fun j hj hn => g j hj (by simp only [List.mem_cons, List.not_mem_nil, or_false, not_or] at hn; exact trivial)) (List.forall_mem_nil _)) (fun j hj hn => g j hj (by simp only [List.mem_cons, List.not_mem_nil, or_false, not_or] at hn; exact trivial)) ((congrArg Int32.toInt (zz_i e69)).trans (rfl : (sy_i F 69).toInt = (sy_i F 69).toInt)) ((zz_i e69).trans (rfl : sy_i F 69 = sy_i F 69)) ((congrArg Int32.toInt (zz_i e70)).trans (rfl : (sy_i F 70).toInt = (sy_i F 70).toInt)) ((zz_i e70).trans (rfl : sy_i F 70 = sy_i F 70)) ((congrArg Int32.toInt (zz_i e71)).trans (rfl : (sy_i F 71).toInt = (sy_i F 71).toInt)) ((zz_i e71).trans (rfl : sy_i F 71 = sy_i F 71)) ((congrArg Int32.toInt (zz_i e72)).trans (nzE n75)) ((zz_i e72).trans (rfl : (sy_i F 72) + ((1 : Int32)) = (sy_i F 72) + ((1 : Int32)))))
  replace g0 : (sy_i F 74).toInt < 7 := by omega
  by_cases g1 : ((sy_ai F 66).getD (((7 * (sy_i F 72).toInt) + (sy_i F 74).toInt)).toNat 0).toInt ≤ (sy_i F 73).toInt
  · have n75 : nzI (((7 : Int32)) * (sy_i F 72)) ((7 * (sy_i F 72).toInt)) := nz_mul (by decide : ((7 : Int32)).toInt = 7) (rfl : (sy_i F 72).toInt = (sy_i F 72).toInt) (by omega) (by omega)
    have n76 : nzI ((((7 : Int32)) * (sy_i F 72)) + (sy_i F 74)) (((7 * (sy_i F 72).toInt) + (sy_i F 74).toInt)) := nz_add (nzE n75) (rfl : (sy_i F 74).toInt = (sy_i F 74).toInt) (by omega) (by omega)
    have q77 : (sy_ai F 66).getD ((((7 : Int32)) * (sy_i F 72)) + (sy_i F 74)).toNatClampNeg 0 = (sy_ai F 66).getD (((7 * (sy_i F 72).toInt) + (sy_i F 74).toInt)).toNat 0 := by simp only [nz_c, (nzE n75), (nzE n76), (by decide : ((7 : Int32)).toInt = 7)]
    have n77 : nzI ((sy_ai F 66).getD ((((7 : Int32)) * (sy_i F 72)) + (sy_i F 74)).toNatClampNeg 0) (((sy_ai F 66).getD (((7 * (sy_i F 72).toInt) + (sy_i F 74).toInt)).toNat 0).toInt) := congrArg Int32.toInt q77
    have n78 : nzI ((sy_i F 74) + ((1 : Int32))) (((sy_i F 74).toInt + 1)) := nz_add (rfl : (sy_i F 74).toInt = (sy_i F 74).toInt) (by decide : ((1 : Int32)).toInt = 1) (by omega) (by omega)
    exact zas_46_p3 hd F X1 X2 hB (by first | exact g0 | (simp only [nz_c]; exact g0)) (by first | (simp only [nz_c, (nzE n75), (nzE n76)]; exact ⟨by omega, by omega⟩) | exact ⟨by omega, by omega⟩ | (rw [(nzE n76)]; exact ⟨by omega, by omega⟩)) (by first | (simp only [nz_c, (nzE n75), (nzE n76)]; exact g1) | exact g1 | (rw [(nzE n77)]; exact g1)) (fun F1 g e69 e70 e71 e72 e73 e74 => k3 g0 g1 F1 (nz_in hB [] (fun j hj hn => g j hj (by simp only [List.mem_cons, List.not_mem_nil, or_false, not_or] at hn; exact trivial)) (List.forall_mem_nil _)) (fun j hj hn => g j hj (by simp only [List.mem_cons, List.not_mem_nil, or_false, not_or] at hn; exact trivial)) ((congrArg Int32.toInt (zz_i e69)).trans (rfl : (sy_i F 69).toInt = (sy_i F 69).toInt)) ((zz_i e69).trans (rfl : sy_i F 69 = sy_i F 69)) ((congrArg Int32.toInt (zz_i e70)).trans (rfl : (sy_i F 70).toInt = (sy_i F 70).toInt)) ((zz_i e70).trans (rfl : sy_i F 70 = sy_i F 70)) ((congrArg Int32.toInt (zz_i e71)).trans (rfl : (sy_i F 71).toInt = (sy_i F 71).toInt)) ((zz_i e71).trans (rfl : sy_i F 71 = sy_i F 71)) ((congrArg Int32.toInt (zz_i e72)).trans (rfl : (sy_i F 72).toInt = (sy_i F 72).toInt)) ((zz_i e72).trans (rfl : sy_i F 72 = sy_i F 72)) ((congrArg Int32.toInt (zz_i e73)).trans (rfl : (sy_i F 73).toInt = (sy_i F 73).toInt)) ((zz_i e73).trans (rfl : sy_i F 73 = sy_i F 73)) ((congrArg Int32.toInt (zz_i e74)).trans (nzE n78)) ((zz_i e74).trans (rfl : (sy_i F 74) + ((1 : Int32)) = (sy_i F 74) + ((1 : Int32)))))
  replace g1 : (sy_i F 73).toInt < ((sy_ai F 66).getD (((7 * (sy_i F 72).toInt) + (sy_i F 74).toInt)).toNat 0).toInt := by omega
  have n75 : nzI (((7 : Int32)) * (sy_i F 72)) ((7 * (sy_i F 72).toInt)) := nz_mul (by decide : ((7 : Int32)).toInt = 7) (rfl : (sy_i F 72).toInt = (sy_i F 72).toInt) (by omega) (by omega)
  have n76 : nzI ((((7 : Int32)) * (sy_i F 72)) + (sy_i F 74)) (((7 * (sy_i F 72).toInt) + (sy_i F 74).toInt)) := nz_add (nzE n75) (rfl : (sy_i F 74).toInt = (sy_i F 74).toInt) (by omega) (by omega)
  have q77 : (sy_ai F 66).getD ((((7 : Int32)) * (sy_i F 72)) + (sy_i F 74)).toNatClampNeg 0 = (sy_ai F 66).getD (((7 * (sy_i F 72).toInt) + (sy_i F 74).toInt)).toNat 0 := by simp only [nz_c, (nzE n75), (nzE n76), (by decide : ((7 : Int32)).toInt = 7)]
  have n77 : nzI ((sy_ai F 66).getD ((((7 : Int32)) * (sy_i F 72)) + (sy_i F 74)).toNatClampNeg 0) (((sy_ai F 66).getD (((7 * (sy_i F 72).toInt) + (sy_i F 74).toInt)).toNat 0).toInt) := congrArg Int32.toInt q77
  have n78 : nzI (((7 : Int32)) * (sy_i F 72)) ((7 * (sy_i F 72).toInt)) := nz_mul (by decide : ((7 : Int32)).toInt = 7) (rfl : (sy_i F 72).toInt = (sy_i F 72).toInt) (by omega) (by omega)
  have n79 : nzI ((((7 : Int32)) * (sy_i F 72)) + (sy_i F 74)) (((7 * (sy_i F 72).toInt) + (sy_i F 74).toInt)) := nz_add (nzE n78) (rfl : (sy_i F 74).toInt = (sy_i F 74).toInt) (by omega) (by omega)
  have q80 : (sy_ai F 66).getD ((((7 : Int32)) * (sy_i F 72)) + (sy_i F 74)).toNatClampNeg 0 = (sy_ai F 66).getD (((7 * (sy_i F 72).toInt) + (sy_i F 74).toInt)).toNat 0 := by simp only [nz_c, (nzE n78), (nzE n79), (by decide : ((7 : Int32)).toInt = 7)]
  have n80 : nzI ((sy_ai F 66).getD ((((7 : Int32)) * (sy_i F 72)) + (sy_i F 74)).toNatClampNeg 0) (((sy_ai F 66).getD (((7 * (sy_i F 72).toInt) + (sy_i F 74).toInt)).toNat 0).toInt) := congrArg Int32.toInt q80
  have n81 : nzI ((sy_i F 74) + ((1 : Int32))) (((sy_i F 74).toInt + 1)) := nz_add (rfl : (sy_i F 74).toInt = (sy_i F 74).toInt) (by decide : ((1 : Int32)).toInt = 1) (by omega) (by omega)
  exact zas_46_p4 hd F X1 X2 hB (by first | exact g0 | (simp only [nz_c]; exact g0)) (by first | (simp only [nz_c, (nzE n75), (nzE n76)]; exact ⟨by omega, by omega⟩) | exact ⟨by omega, by omega⟩ | (rw [(nzE n76)]; exact ⟨by omega, by omega⟩)) (by first | (simp only [nz_c, (nzE n75), (nzE n76)]; exact g1) | exact g1 | (rw [(nzE n77)]; exact g1)) (by first | (simp only [nz_c, (nzE n78), (nzE n79)]; exact ⟨by omega, by omega⟩) | exact ⟨by omega, by omega⟩ | (rw [(nzE n79)]; exact ⟨by omega, by omega⟩)) (fun F1 g e69 e70 e71 e72 e73 e74 => k4 g0 g1 F1 (nz_in hB [] (fun j hj hn => g j hj (by simp only [List.mem_cons, List.not_mem_nil, or_false, not_or] at hn; exact trivial)) (List.forall_mem_nil _)) (fun j hj hn => g j hj (by simp only [List.mem_cons, List.not_mem_nil, or_false, not_or] at hn; exact trivial)) ((congrArg Int32.toInt (zz_i e69)).trans (rfl : (sy_i F 69).toInt = (sy_i F 69).toInt)) ((zz_i e69).trans (rfl : sy_i F 69 = sy_i F 69)) ((congrArg Int32.toInt (zz_i e70)).trans (rfl : (sy_i F 70).toInt = (sy_i F 70).toInt)) ((zz_i e70).trans (rfl : sy_i F 70 = sy_i F 70)) ((congrArg Int32.toInt (zz_i e71)).trans (rfl : (sy_i F 71).toInt = (sy_i F 71).toInt)) ((zz_i e71).trans (rfl : sy_i F 71 = sy_i F 71)) ((congrArg Int32.toInt (zz_i e72)).trans (rfl : (sy_i F 72).toInt = (sy_i F 72).toInt)) ((zz_i e72).trans (rfl : sy_i F 72 = sy_i F 72)) ((congrArg Int32.toInt (zz_i e73)).trans (nzE n80)) ((zz_i e73).trans q80) ((congrArg Int32.toInt (zz_i e74)).trans (nzE n81)) ((zz_i e74).trans (rfl : (sy_i F 74) + ((1 : Int32)) = (sy_i F 74) + ((1 : Int32)))))
end
section
/-! ===== rows, sure, ask: what they tell ===== -/
noncomputable def kfT (T : tX) (f : Nat) : Int32 × Int32 := (Int32.ofInt (tF T f).2.1, rsS T f)
theorem kf_1 {T : tX} {f : Nat} {w : Int32 × Int32} (h : (Int32.ofInt (tF T f).2.1).toInt ≠ w.1.toInt) : kfT T f ≠ w := fun e => h (by rw [← e]; rfl)
theorem kf_2 {T : tX} {f : Nat} {w : Int32 × Int32} (h : (rsS T f).toInt ≠ w.2.toInt) : kfT T f ≠ w := fun e => h (by rw [← e]; rfl)
theorem kf_y {T : tX} {f : Nat} {w : Int32 × Int32} (h1 : (Int32.ofInt (tF T f).2.1).toInt = w.1.toInt) (h2 : (rsS T f).toInt = w.2.toInt) : kfT T f = w := Prod.ext (Int32.toInt_inj.mp h1) (Int32.toInt_inj.mp h2)
noncomputable def cfN (T : tX) (w : Int32 × Int32) (f : Nat) : Nat := cntN (fun f => decide (kfT T f = w)) f
theorem cf_le (T : tX) (w : Int32 × Int32) (f : Nat) : cfN T w f ≤ f := cnt_le _ f
theorem cf_y {T : tX} {w : Int32 × Int32} {f : Nat} (h : kfT T f = w) : cfN T w (f + 1) = cfN T w f + 1 := by
  show cfN T w f + (if decide (kfT T f = w) = true then 1 else 0) = _
  rw [if_pos (decide_eq_true h)]
theorem cf_n {T : tX} {w : Int32 × Int32} {f : Nat} (h : kfT T f ≠ w) : cfN T w (f + 1) = cfN T w f := by
  show cfN T w f + (if decide (kfT T f = w) = true then 1 else 0) = _
  rw [if_neg (fun z => h (of_decide_eq_true z)), Nat.add_zero]
def ejN (W : Nat → Int32 × Int32) (w : Int32 × Int32) (j : Nat) : Nat := cntN (fun j => decide (W j = w)) j
theorem ej_le (W : Nat → Int32 × Int32) (w : Int32 × Int32) (f : Nat) : ejN W w f ≤ f := cnt_le _ f
theorem ej_y {W : Nat → Int32 × Int32} {w : Int32 × Int32} {f : Nat} (h : W f = w) : ejN W w (f + 1) = ejN W w f + 1 := by
  show ejN W w f + (if decide (W f = w) = true then 1 else 0) = _
  rw [if_pos (decide_eq_true h)]
theorem ej_n {W : Nat → Int32 × Int32} {w : Int32 × Int32} {f : Nat} (h : W f ≠ w) : ejN W w (f + 1) = ejN W w f := by
  show ejN W w f + (if decide (W f = w) = true then 1 else 0) = _
  rw [if_neg (fun z => h (of_decide_eq_true z)), Nat.add_zero]
theorem wp_y {a b : Int32 × Int32} (h1 : a.1.toInt = b.1.toInt) (h2 : a.2.toInt = b.2.toInt) : a = b := Prod.ext (Int32.toInt_inj.mp h1) (Int32.toInt_inj.mp h2)
theorem wp_1 {a b : Int32 × Int32} (h : a.1.toInt ≠ b.1.toInt) : a ≠ b := fun e => h (by rw [e])
theorem wp_2 {a b : Int32 × Int32} (h : a.2.toInt ≠ b.2.toInt) : a ≠ b := fun e => h (by rw [e])
/-- the first that is so -/
def fsN (P : Nat → Bool) : Nat → Int
  | 0 => -2
  | n + 1 => if 0 ≤ fsN P n then fsN P n else if P n = true then (n : Int) else -2
theorem fs_no {P : Nat → Bool} : ∀ n : Nat, (∀ i, i < n → P i = false) → fsN P n = -2
  | 0, _ => rfl
  | n + 1, h => by
    show (if 0 ≤ fsN P n then fsN P n else if P n = true then (n : Int) else -2) = -2
    rw [fs_no n (fun i hi => h i (by omega)), h n (by omega), if_neg (by decide), if_neg (by decide)]
theorem fs_at {P : Nat → Bool} {k : Nat} (hk : P k = true) (h : ∀ i, i < k → P i = false) : ∀ m : Nat, fsN P (k + 1 + m) = k
  | 0 => by
    show (if 0 ≤ fsN P k then fsN P k else if P k = true then (k : Int) else -2) = k
    rw [fs_no k h, if_neg (by decide), if_pos hk]
  | m + 1 => by
    show (if 0 ≤ fsN P (k + 1 + m) then fsN P (k + 1 + m) else if P (k + 1 + m) = true then ((k + 1 + m : Nat) : Int) else -2) = k
    rw [fs_at hk h m, if_pos (Int.natCast_nonneg k)]
theorem fs_lt {P : Nat → Bool} {k n : Nat} (hk : P k = true) (h : ∀ i, i < k → P i = false) (hn : k < n) : fsN P n = k := by
  have := fs_at hk h (n - (k + 1))
  rw [show k + 1 + (n - (k + 1)) = n by omega] at this
  exact this
/-- which has most -/
def wdN (m : Nat → Nat) : Nat → Nat
  | 0 => 0
  | n + 1 => if m (wdN m n) < m n then n else wdN m n
theorem wd_lt (m : Nat → Nat) : ∀ n : Nat, wdN m (n + 1) ≤ n
  | 0 => by
    show (if m 0 < m 0 then 0 else 0) ≤ 0
    rw [if_neg (Nat.lt_irrefl _)]
    exact Nat.le_refl _
  | n + 1 => by
    show (if m (wdN m (n + 1)) < m (n + 1) then n + 1 else wdN m (n + 1)) ≤ n + 1
    split
    · exact Nat.le_refl _
    · have := wd_lt m n
      omega
theorem wd_y {m : Nat → Nat} {n : Nat} (h : m (wdN m n) < m n) : wdN m (n + 1) = n := if_pos h
theorem wd_n {m : Nat → Nat} {n : Nat} (h : ¬ m (wdN m n) < m n) : wdN m (n + 1) = wdN m n := if_neg h
section PR
variable {K W : Nat → Int32 × Int32} {nf : Nat}
theorem pr_0 {a : Nat} (h : prN K W nf a = 0) : ∀ m : Nat, prN K W nf (a + m) = 0
  | 0 => h
  | m + 1 => by
    show prN K W nf (a + m) * _ = 0
    rw [pr_0 h m, Nat.zero_mul]
theorem pr_z {a b : Nat} (h : prN K W nf a = 0) (hb : a ≤ b) : prN K W nf b = 0 := by
  have := pr_0 h (b - a)
  rw [show a + (b - a) = b by omega] at this
  exact this
theorem pr_le (h7 : nf ≤ 7) (n : Nat) : prN K W nf n ≤ 7 ^ n := by
  rw [← rw_pr h7]
  exact cnt_le _ _
theorem mt_le (i : Nat) : mtN K W nf i ≤ nf := cnt_le _ _
end PR
noncomputable def rwA (T : tX) (W : Nat → Int32 × Int32) (k : Nat) : Nat := prN (kfT T) W (nfS T) k
noncomputable def mtA (T : tX) (W : Nat → Int32 × Int32) (i : Nat) : Nat := mtN (kfT T) W (nfS T) i
noncomputable def ffA (T : tX) (w : Int32 × Int32) : Int := fsN (fun f => decide (kfT T f = w)) (nfS T)
noncomputable def suA (T : tX) (W : Nat → Int32 × Int32) (k i : Nat) : Int := if 0 < rwA T W k ∧ mtA T W i = 1 then ffA T (W i) else -2
noncomputable def akA (T : tX) (W : Nat → Int32 × Int32) (k : Nat) : Int := if k = 0 ∨ rwA T W k = 0 then -2 else (wdN (mtA T W) k : Int)
noncomputable def a_rows (k : Int32) (σ : fG) : Int32 := ifP (0 ≤ k.toInt ∧ k.toInt ≤ σ.1.2.2.2.1) (Int32.ofInt (rwA σ.2.1 σ.2.2.2.2.2 k.toInt.toNat : Int)) (-1)
noncomputable def a_sure (k i : Int32) (σ : fG) : Int32 := ifP ((0 ≤ k.toInt ∧ k.toInt ≤ σ.1.2.2.2.1) ∧ 0 ≤ i.toInt ∧ i.toInt < k.toInt) (Int32.ofInt (suA σ.2.1 σ.2.2.2.2.2 k.toInt.toNat i.toInt.toNat)) (-1)
noncomputable def a_ask (k : Int32) (σ : fG) : Int32 := ifP (0 ≤ k.toInt ∧ k.toInt ≤ σ.1.2.2.2.1) (Int32.ofInt (akA σ.2.1 σ.2.2.2.2.2 k.toInt.toNat)) (-1)
theorem rwA_le {T : tX} {W : Nat → Int32 × Int32} (h7 : nfS T ≤ 7) {k : Nat} (hk : k ≤ 7) : rwA T W k ≤ 823543 := Nat.le_trans (pr_le h7 k) (Nat.le_trans (Nat.pow_le_pow_right (by decide) hk) (by decide))
theorem p7_le {k : Nat} (hk : k ≤ 7) : 7 ^ k ≤ 823543 := Nat.le_trans (Nat.pow_le_pow_right (by decide) hk) (by decide)
theorem p7_pos : ∀ k : Nat, 0 < 7 ^ k
  | 0 => by decide
  | k + 1 => by
    have := p7_pos k
    rw [Nat.pow_succ]
    omega
end
section
/-! ===== rows, sure, ask: the class ===== -/
section TO0
variable {Ls : Nat} {xs : Nat → Int32} {T : tX} {W : Nat → Int32 × Int32} {n : Int} (F : Nat → sy_d) (X1 X2 : List jm_c)
theorem j0ft_L (hC : xC 3 T F) (hR : rstC 3 T F) (hW : tdC n W (sy_ai F 80) (sy_ai F 81)) (hn : n ≤ 7) {i : Nat} (hi : (i : Int) < n) : ∀ (m : Nat) (F1 : Nat → sy_d) (f : Nat), f + m = nfS T → qC [] F F1 → (sy_i F1 82).toInt = i → (sy_i F1 83).toInt = cfN T (W i) f → (sy_i F1 84).toInt = f →
    hd_W Ls xs 2 jm_M71 (pI 0 X1 X2 (fun x F' => qC [] F F' ∧ x.toInt = mtA T W i)) (5, sy_dL F1 [some (.inl (.ref 70)), some (.inl (.ref 10)), some (.inr (.inl 82)), some (.inr (.inl 83)), some (.inr (.inl 84))], sy_dS F1 [], sy_dh F1 X1 X2 (iv_H 0), 0, 0) := by
  have l7 : nfS T ≤ 7 := hC.2.2.1.1.1
  have enf : (sy_i F 3).toInt = (nfS T : Int) := hC.2.1.1.1
  intro m
  induction m with
  | zero =>
    intro F1 f hm hq e82 e83 e84
    have en1 : (sy_i F1 3).toInt = (nfS T : Int) := by rw [qq_i hq (by decide) (by decide)]; exact enf
    have cb := cf_le T (W i) f
    refine j0ft_5 (by decide) F1 X1 X2 hq.1 (by omega) (by omega) (by omega) ?_ ?_ ?_ ?_
    · intro c0 F2 hb gg
      refine ⟨_, F2, rfl, rfl, qq_on hq hb gg (by decide), ?_⟩
      rw [e83, show f = nfS T by omega]
      rfl
    · intro c0
      exact absurd c0 (by omega)
    · intro c0
      exact absurd c0 (by omega)
    · intro c0
      exact absurd c0 (by omega)
  | succ m ih =>
    intro F1 f hm hq e82 e83 e84
    have en1 : (sy_i F1 3).toInt = (nfS T : Int) := by rw [qq_i hq (by decide) (by decide)]; exact enf
    have cb := cf_le T (W i) f
    have hf : f < nfS T := by omega
    have x84 : (sy_i F1 84).toInt.toNat = f := by omega
    have x82 : (sy_i F1 82).toInt.toNat = i := by omega
    have r10 : (sy_ai F1 10).getD (sy_i F1 84).toInt.toNat 0 = Int32.ofInt (tF T f).2.1 := by
      rw [x84, qq_a hq (by decide) (by decide)]
      exact (xX_f hC hf).2.1
    have r12 : (sy_ai F1 12).getD (sy_i F1 84).toInt.toNat 0 = rsS T f := by
      rw [x84, qq_a hq (by decide) (by decide)]
      exact hR f hf
    have r80 : (sy_ai F1 80).getD (sy_i F1 82).toInt.toNat 0 = (W i).1 := by
      rw [x82, qq_a hq (by decide) (by decide)]
      exact (hW i hi).1
    have r81 : (sy_ai F1 81).getD (sy_i F1 82).toInt.toNat 0 = (W i).2 := by
      rw [x82, qq_a hq (by decide) (by decide)]
      exact (hW i hi).2
    have go0 : kfT T f ≠ W i → ∀ F2 : Nat → sy_d, iv_in F2 iv_B0 → (∀ j, j < 82 → j ∉ ([] : List Nat) → F2 j = F1 j) → (sy_i F2 82).toInt = (sy_i F1 82).toInt → (sy_i F2 83).toInt = (sy_i F1 83).toInt → (sy_i F2 84).toInt = (sy_i F1 84).toInt + 1 → hd_W Ls xs 2 jm_M71 (pI 0 X1 X2 (fun x F' => qC [] F F' ∧ x.toInt = mtA T W i)) (5, sy_dL F2 [some (.inl (.ref 70)), some (.inl (.ref 10)), some (.inr (.inl 82)), some (.inr (.inl 83)), some (.inr (.inl 84))], sy_dS F2 [], sy_dh F2 X1 X2 (iv_H 0), 0, 0) := by
      intro q F2 hb gg e2 e3 e4
      have k := cf_n q
      exact ih F2 (f + 1) (by omega) (qq_on hq hb gg (by decide)) (by omega) (by omega) (by omega)
    refine j0ft_5 (by decide) F1 X1 X2 hq.1 (by omega) (by omega) (by omega) ?_ ?_ ?_ ?_
    · intro c0
      exact absurd c0 (by omega)
    · intro c0 c1 F2 hb gg e2 j2 e3 j3 e4 j4
      rw [r10, r80] at c1
      exact go0 (kf_1 c1) F2 hb gg e2 e3 e4
    · intro c0 c1 c2 F2 hb gg e2 j2 e3 j3 e4 j4
      rw [r12, r81] at c2
      exact go0 (kf_2 c2) F2 hb gg e2 e3 e4
    · intro c0 c1 c2 F2 hb gg e2 j2 e3 j3 e4 j4
      rw [r10, r80] at c1
      rw [r12, r81] at c2
      have k := cf_y (kf_y c1 c2)
      clear c1 c2 go0
      exact ih F2 (f + 1) (by omega) (qq_on hq hb gg (by decide)) (by omega) (by omega) (by omega)
theorem j0ft_V (hC : xC 3 T F) (hR : rstC 3 T F) (hW : tdC n W (sy_ai F 80) (sy_ai F 81)) (hn : n ≤ 7) (i : Int32) (hi : 0 ≤ i.toInt ∧ i.toInt < n) : jm_T Ls xs 2 jm_M71 [.ref 70, .ref 10, .int i] (sy_dh F X1 X2 (iv_H 0)) 0 0 (pI 0 X1 X2 (fun x F' => qC [] F F' ∧ x.toInt = mtA T W i.toInt.toNat)) := by
  refine C_T (by decide) [i] [.inl (.ref 70), .inl (.ref 10), .inr (.inl 82)] jm_ok71 (by decide) rfl (fun F0 k0 ki => ?_)
  have i82 : sy_i F0 82 = i := ki 0
  have z82 : (sy_i F0 82).toInt = i.toInt := congrArg Int32.toInt i82
  refine j0ft_0 (by decide) F0 X1 X2 (hd_iveq0 hC.1 k0) ?_
  intro F1 hb gg e82 j82 e83 j83 e84 j84
  exact j0ft_L F X1 X2 hC hR hW hn (i := i.toInt.toNat) (by omega) (nfS T) F1 0 (by omega) (qq_src (qq_mk hb gg (by decide)) k0) (by omega) e83 e84
theorem j0ff_L (hC : xC 3 T F) (hR : rstC 3 T F) (hW : tdC n W (sy_ai F 80) (sy_ai F 81)) (hn : n ≤ 7) {i : Nat} (hi : (i : Int) < n) : ∀ (m : Nat) (F1 : Nat → sy_d) (f : Nat), f + m = nfS T → qC [] F F1 → (sy_i F1 82).toInt = i → (sy_i F1 83).toInt = f → (∀ j, j < f → decide (kfT T j = W i) = false) →
    hd_W Ls xs 2 jm_M72 (pI 0 X1 X2 (fun x F' => qC [] F F' ∧ x.toInt = ffA T (W i))) (2, sy_dL F1 [some (.inl (.ref 70)), some (.inl (.ref 10)), some (.inr (.inl 82)), some (.inr (.inl 83))], sy_dS F1 [], sy_dh F1 X1 X2 (iv_H 0), 0, 0) := by
  have l7 : nfS T ≤ 7 := hC.2.2.1.1.1
  have enf : (sy_i F 3).toInt = (nfS T : Int) := hC.2.1.1.1
  intro m
  induction m with
  | zero =>
    intro F1 f hm hq e82 e83 hj
    have en1 : (sy_i F1 3).toInt = (nfS T : Int) := by rw [qq_i hq (by decide) (by decide)]; exact enf
    refine j0ff_2 (by decide) F1 X1 X2 hq.1 (by omega) (by omega) ?_ ?_ ?_ ?_
    · intro c0 F2 hb gg
      refine ⟨_, F2, rfl, rfl, qq_on hq hb gg (by decide), ?_⟩
      unfold ffA
      rw [fs_no _ (fun j h => hj j (by omega))]
      decide
    · intro c0
      exact absurd c0 (by omega)
    · intro c0
      exact absurd c0 (by omega)
    · intro c0
      exact absurd c0 (by omega)
  | succ m ih =>
    intro F1 f hm hq e82 e83 hj
    have en1 : (sy_i F1 3).toInt = (nfS T : Int) := by rw [qq_i hq (by decide) (by decide)]; exact enf
    have hf : f < nfS T := by omega
    have x83 : (sy_i F1 83).toInt.toNat = f := by omega
    have x82 : (sy_i F1 82).toInt.toNat = i := by omega
    have r10 : (sy_ai F1 10).getD (sy_i F1 83).toInt.toNat 0 = Int32.ofInt (tF T f).2.1 := by
      rw [x83, qq_a hq (by decide) (by decide)]
      exact (xX_f hC hf).2.1
    have r12 : (sy_ai F1 12).getD (sy_i F1 83).toInt.toNat 0 = rsS T f := by
      rw [x83, qq_a hq (by decide) (by decide)]
      exact hR f hf
    have r80 : (sy_ai F1 80).getD (sy_i F1 82).toInt.toNat 0 = (W i).1 := by
      rw [x82, qq_a hq (by decide) (by decide)]
      exact (hW i hi).1
    have r81 : (sy_ai F1 81).getD (sy_i F1 82).toInt.toNat 0 = (W i).2 := by
      rw [x82, qq_a hq (by decide) (by decide)]
      exact (hW i hi).2
    have go0 : kfT T f ≠ W i → ∀ F2 : Nat → sy_d, iv_in F2 iv_B0 → (∀ j, j < 82 → j ∉ ([] : List Nat) → F2 j = F1 j) → (sy_i F2 82).toInt = (sy_i F1 82).toInt → (sy_i F2 83).toInt = (sy_i F1 83).toInt + 1 → hd_W Ls xs 2 jm_M72 (pI 0 X1 X2 (fun x F' => qC [] F F' ∧ x.toInt = ffA T (W i))) (2, sy_dL F2 [some (.inl (.ref 70)), some (.inl (.ref 10)), some (.inr (.inl 82)), some (.inr (.inl 83))], sy_dS F2 [], sy_dh F2 X1 X2 (iv_H 0), 0, 0) := by
      intro q F2 hb gg e2 e3
      refine ih F2 (f + 1) (by omega) (qq_on hq hb gg (by decide)) (by omega) (by omega) (fun j h => ?_)
      by_cases z : j = f
      · rw [z]
        exact decide_eq_false q
      · exact hj j (by omega)
    refine j0ff_2 (by decide) F1 X1 X2 hq.1 (by omega) (by omega) ?_ ?_ ?_ ?_
    · intro c0
      exact absurd c0 (by omega)
    · intro c0 c1 F2 hb gg e2 j2 e3 j3
      rw [r10, r80] at c1
      exact go0 (kf_1 c1) F2 hb gg e2 e3
    · intro c0 c1 c2 F2 hb gg e2 j2 e3 j3
      rw [r12, r81] at c2
      exact go0 (kf_2 c2) F2 hb gg e2 e3
    · intro c0 c1 c2 F2 hb gg
      rw [r10, r80] at c1
      rw [r12, r81] at c2
      refine ⟨_, F2, rfl, rfl, qq_on hq hb gg (by decide), ?_⟩
      unfold ffA
      rw [fs_lt (P := fun f => decide (kfT T f = W i)) (decide_eq_true (kf_y c1 c2)) hj hf]
      exact e83
theorem j0ff_V (hC : xC 3 T F) (hR : rstC 3 T F) (hW : tdC n W (sy_ai F 80) (sy_ai F 81)) (hn : n ≤ 7) (i : Int32) (hi : 0 ≤ i.toInt ∧ i.toInt < n) : jm_T Ls xs 2 jm_M72 [.ref 70, .ref 10, .int i] (sy_dh F X1 X2 (iv_H 0)) 0 0 (pI 0 X1 X2 (fun x F' => qC [] F F' ∧ x.toInt = ffA T (W i.toInt.toNat))) := by
  refine C_T (by decide) [i] [.inl (.ref 70), .inl (.ref 10), .inr (.inl 82)] jm_ok72 (by decide) rfl (fun F0 k0 ki => ?_)
  have i82 : sy_i F0 82 = i := ki 0
  have z82 : (sy_i F0 82).toInt = i.toInt := congrArg Int32.toInt i82
  refine j0ff_0 (by decide) F0 X1 X2 (hd_iveq0 hC.1 k0) ?_
  intro F1 hb gg e82 j82 e83 j83
  exact j0ff_L F X1 X2 hC hR hW hn (i := i.toInt.toNat) (by omega) (nfS T) F1 0 (by omega) (qq_src (qq_mk hb gg (by decide)) k0) (by omega) e83 (fun j h => absurd h (Nat.not_lt_zero j))
theorem j0al_L (hB : iv_in F iv_B0) (hW : tdC n W (sy_ai F 80) (sy_ai F 81)) (hn : n ≤ 7) {i : Nat} (hi : (i : Int) < n) : ∀ (m : Nat) (F1 : Nat → sy_d) (f : Nat), f + m = i → qC [] F F1 → (sy_i F1 82).toInt = i → (sy_i F1 83).toInt = ejN W (W i) f → (sy_i F1 84).toInt = f →
    hd_W Ls xs 1 jm_M75 (pI 0 X1 X2 (fun x F' => qC [] F F' ∧ x.toInt = eqN W i)) (4, sy_dL F1 [some (.inl (.ref 70)), some (.inr (.inl 82)), some (.inr (.inl 83)), some (.inr (.inl 84))], sy_dS F1 [], sy_dh F1 X1 X2 (iv_H 0), 0, 0) := by
  intro m
  induction m with
  | zero =>
    intro F1 f hm hq e82 e83 e84
    have cb := ej_le W (W i) f
    refine j0al_4 (by decide) F1 X1 X2 hq.1 (by omega) (by omega) (by omega) ?_ ?_ ?_ ?_
    · intro c0 F2 hb gg
      refine ⟨_, F2, rfl, rfl, qq_on hq hb gg (by decide), ?_⟩
      rw [e83, show f = i by omega]
      rfl
    · intro c0
      exact absurd c0 (by omega)
    · intro c0
      exact absurd c0 (by omega)
    · intro c0
      exact absurd c0 (by omega)
  | succ m ih =>
    intro F1 f hm hq e82 e83 e84
    have cb := ej_le W (W i) f
    have x84 : (sy_i F1 84).toInt.toNat = f := by omega
    have x82 : (sy_i F1 82).toInt.toNat = i := by omega
    have r80 : (sy_ai F1 80).getD (sy_i F1 82).toInt.toNat 0 = (W i).1 := by
      rw [x82, qq_a hq (by decide) (by decide)]
      exact (hW i hi).1
    have r81 : (sy_ai F1 81).getD (sy_i F1 82).toInt.toNat 0 = (W i).2 := by
      rw [x82, qq_a hq (by decide) (by decide)]
      exact (hW i hi).2
    have s80 : (sy_ai F1 80).getD (sy_i F1 84).toInt.toNat 0 = (W f).1 := by
      rw [x84, qq_a hq (by decide) (by decide)]
      exact (hW f (by omega)).1
    have s81 : (sy_ai F1 81).getD (sy_i F1 84).toInt.toNat 0 = (W f).2 := by
      rw [x84, qq_a hq (by decide) (by decide)]
      exact (hW f (by omega)).2
    have go0 : W f ≠ W i → ∀ F2 : Nat → sy_d, iv_in F2 iv_B0 → (∀ j, j < 82 → j ∉ ([] : List Nat) → F2 j = F1 j) → (sy_i F2 82).toInt = (sy_i F1 82).toInt → (sy_i F2 83).toInt = (sy_i F1 83).toInt → (sy_i F2 84).toInt = (sy_i F1 84).toInt + 1 → hd_W Ls xs 1 jm_M75 (pI 0 X1 X2 (fun x F' => qC [] F F' ∧ x.toInt = eqN W i)) (4, sy_dL F2 [some (.inl (.ref 70)), some (.inr (.inl 82)), some (.inr (.inl 83)), some (.inr (.inl 84))], sy_dS F2 [], sy_dh F2 X1 X2 (iv_H 0), 0, 0) := by
      intro q F2 hb gg e2 e3 e4
      have k := ej_n q
      exact ih F2 (f + 1) (by omega) (qq_on hq hb gg (by decide)) (by omega) (by omega) (by omega)
    refine j0al_4 (by decide) F1 X1 X2 hq.1 (by omega) (by omega) (by omega) ?_ ?_ ?_ ?_
    · intro c0
      exact absurd c0 (by omega)
    · intro c0 c1 F2 hb gg e2 j2 e3 j3 e4 j4
      rw [s80, r80] at c1
      exact go0 (wp_1 c1) F2 hb gg e2 e3 e4
    · intro c0 c1 c2 F2 hb gg e2 j2 e3 j3 e4 j4
      rw [s81, r81] at c2
      exact go0 (wp_2 c2) F2 hb gg e2 e3 e4
    · intro c0 c1 c2 F2 hb gg e2 j2 e3 j3 e4 j4
      rw [s80, r80] at c1
      rw [s81, r81] at c2
      have k := ej_y (wp_y c1 c2)
      clear c1 c2 go0
      exact ih F2 (f + 1) (by omega) (qq_on hq hb gg (by decide)) (by omega) (by omega) (by omega)
theorem j0al_V (hB : iv_in F iv_B0) (hW : tdC n W (sy_ai F 80) (sy_ai F 81)) (hn : n ≤ 7) (i : Int32) (hi : 0 ≤ i.toInt ∧ i.toInt < n) : jm_T Ls xs 1 jm_M75 [.ref 70, .int i] (sy_dh F X1 X2 (iv_H 0)) 0 0 (pI 0 X1 X2 (fun x F' => qC [] F F' ∧ x.toInt = eqN W i.toInt.toNat)) := by
  refine C_T (by decide) [i] [.inl (.ref 70), .inr (.inl 82)] jm_ok75 (by decide) rfl (fun F0 k0 ki => ?_)
  have i82 : sy_i F0 82 = i := ki 0
  have z82 : (sy_i F0 82).toInt = i.toInt := congrArg Int32.toInt i82
  refine j0al_0 (by decide) F0 X1 X2 (hd_iveq0 hB k0) ?_
  intro F1 hb gg e82 j82 e83 j83 e84 j84
  exact j0al_L F X1 X2 hB hW hn (i := i.toInt.toNat) (by omega) i.toInt.toNat F1 0 (by omega) (qq_src (qq_mk hb gg (by decide)) k0) (by omega) e83 e84
theorem j0td_q (hR : rstC 3 T F) (hW : tdC n W (sy_ai F 80) (sy_ai F 81)) {F1 : Nat → sy_d} (q : qC [] F F1) : rstC 3 T F1 ∧ tdC n W (sy_ai F1 80) (sy_ai F1 81) := by
  refine ⟨fun f hf => ?_, ?_⟩
  · rw [qq_a q (by decide) (by decide)]
    exact hR f hf
  · rw [qq_a q (by decide) (by decide), qq_a q (by decide) (by decide)]
    exact hW
theorem j0rc_L (hC : xC 3 T F) (hR : rstC 3 T F) (hW : tdC n W (sy_ai F 80) (sy_ai F 81)) (hn : n ≤ 7) {k : Nat} (hk : (k : Int) ≤ n) : ∀ (m : Nat) (F1 : Nat → sy_d) (i : Nat), i + m = k → qC [] F F1 → (sy_i F1 82).toInt = k → (sy_i F1 83).toInt = rwA T W i → (sy_i F1 84).toInt = i →
    hd_W Ls xs 3 jm_M70 (pI 0 X1 X2 (fun x F' => qC [] F F' ∧ x.toInt = rwA T W k)) (5, sy_dL F1 [some (.inl (.ref 70)), some (.inl (.ref 10)), some (.inr (.inl 82)), some (.inr (.inl 83)), some (.inr (.inl 84)), none], sy_dS F1 [], sy_dh F1 X1 X2 (iv_H 0), 0, 0) := by
  have l7 : nfS T ≤ 7 := hC.2.2.1.1.1
  intro m
  induction m with
  | zero =>
    intro F1 i hm hq e82 e83 e84
    refine j0rc_5 (by decide) F1 X1 X2 hq.1 (by omega) ?_ ?_ ?_
    · intro c0 F2 hb gg
      refine ⟨_, F2, rfl, rfl, qq_on hq hb gg (by decide), ?_⟩
      rw [e83, show i = k by omega]
    · intro c0
      exact absurd c0 (by omega)
    · intro c0
      exact absurd c0 (by omega)
  | succ m ih =>
    intro F1 i hm hq e82 e83 e84
    refine j0rc_5 (by decide) F1 X1 X2 hq.1 (by omega) ?_ ?_ ?_
    · intro c0
      exact absurd c0 (by omega)
    · intro c0 c1
      exact absurd c1 (by omega)
    · intro c0 c1 F2 hb gg e2 j2 e3 j3 e4 j4
      have q2 : qC [] F F2 := qq_on hq hb gg (by decide)
      obtain ⟨hR2, hW2⟩ := j0td_q F hR hW q2
      refine hd_calI (R := fun x F' => qC [] F2 F' ∧ x.toInt = mtA T W (sy_i F2 84).toInt.toNat) (nh := 82) (nv := 85) (s := 0) (s1 := 0) (d1 := 2) (M1 := jm_M71) (As := [.inl (.ref 70), .inl (.ref 10), .inr (.inl 84)]) (rest := []) jm_ok70 rfl rfl (by decide) (by decide +kernel) (j0ft_V F2 X1 X2 (xC_q (by decide) hC q2 (by decide)) hR2 hW2 hn _ (by omega)) (fun F3 F' x hR p1 p2 p3 => ?_)
      obtain ⟨r1, r2⟩ := hR
      have q3 : qC [] F F3 := qq_trans q2 (qC_dst r1 p1)
      have x84 : (sy_i F2 84).toInt.toNat = i := by omega
      rw [x84] at r2
      have a82 : (sy_i F3 82).toInt = k := by rw [eI (p2 82 (by decide) (by decide))]; omega
      have a83 : (sy_i F3 83).toInt = rwA T W i := by rw [eI (p2 83 (by decide) (by decide))]; omega
      have a84 : (sy_i F3 84).toInt = i := by rw [eI (p2 84 (by decide) (by decide))]; omega
      have a85 : (sy_i F3 85).toInt = mtA T W i := by rw [zz_i p3]; exact r2
      refine j0rc_25 (by decide) F3 X1 X2 q3.1 ?_
      intro F4 hb4 g4 b2 l2 b3 l3 b4 l4 b5 l5
      have q4 : qC [] F F4 := qq_on q3 hb4 g4 (by decide)
      obtain ⟨hR4, hW4⟩ := j0td_q F hR hW q4
      refine hd_calI (R := fun x F' => qC [] F4 F' ∧ x.toInt = eqN W (sy_i F4 84).toInt.toNat) (nh := 82) (nv := 86) (s := 0) (s1 := 0) (d1 := 1) (M1 := jm_M75) (As := [.inl (.ref 70), .inr (.inl 84)]) (rest := [.inr (.inl 85)]) jm_ok70 rfl rfl (by decide) (by decide +kernel) (j0al_V F4 X1 X2 q4.1 hW4 hn _ (by omega)) (fun F5 F6 y hR5 u1 u2 u3 => ?_)
      obtain ⟨s1, s2⟩ := hR5
      have q5 : qC [] F F5 := qq_trans q4 (qC_dst s1 u1)
      have y84 : (sy_i F4 84).toInt.toNat = i := by omega
      rw [y84] at s2
      have d82 : (sy_i F5 82).toInt = k := by rw [eI (u2 82 (by decide) (by decide))]; omega
      have d83 : (sy_i F5 83).toInt = rwA T W i := by rw [eI (u2 83 (by decide) (by decide))]; omega
      have d84 : (sy_i F5 84).toInt = i := by rw [eI (u2 84 (by decide) (by decide))]; omega
      have d85 : (sy_i F5 85).toInt = mtA T W i := by rw [eI (u2 85 (by decide) (by decide))]; omega
      have d86 : (sy_i F5 86).toInt = eqN W i := by rw [zz_i u3]; exact s2
      have m7 : mtA T W i ≤ nfS T := mt_le i
      have e7 : eqN W i ≤ i := cnt_le _ i
      have rs : rwA T W (i + 1) = rwA T W i * (mtA T W i - eqN W i) := rfl
      refine j0rc_31 (by decide) F5 X1 X2 q5.1 (by omega) (by omega) (by omega) ?_ ?_
      · intro c2 F7 hb7 g7 w2 v2 w3 v3 w4 v4
        have r6 : rwA T W i ≤ 823543 := rwA_le l7 (by omega)
        have sm : mtA T W i - eqN W i ≤ 7 := by omega
        have ml : rwA T W i * (mtA T W i - eqN W i) ≤ 823543 * 7 := Nat.mul_le_mul r6 sm
        have dd : (sy_i F5 85 - sy_i F5 86).toInt = ((mtA T W i - eqN W i : Nat) : Int) := by
          rw [nz_sub d85 d86 (by omega) (by omega)]
          omega
        have pm : (sy_i F5 83 * (sy_i F5 85 - sy_i F5 86)).toInt = ((rwA T W (i + 1) : Nat) : Int) := by
          rw [rs, Int.natCast_mul]
          refine nz_mul d83 dd ?_ ?_
          · rw [← Int.natCast_mul]
            omega
          · rw [← Int.natCast_mul]
            omega
        exact ih F7 (i + 1) (by omega) (qq_on q5 hb7 g7 (by decide)) (by omega) (by rw [v3]; exact pm) (by omega)
      · intro c2 F7 hb7 g7
        refine ⟨_, F7, rfl, rfl, qq_on q5 hb7 g7 (by decide), ?_⟩
        have z : rwA T W (i + 1) = 0 := by
          rw [rs, show mtA T W i - eqN W i = 0 by omega, Nat.mul_zero]
        have z2 : rwA T W k = 0 := pr_z z (by omega)
        rw [z2]
        decide
theorem j0rc_V (hC : xC 3 T F) (hR : rstC 3 T F) (hW : tdC n W (sy_ai F 80) (sy_ai F 81)) (hn : n ≤ 7) (k : Int32) (hk : 0 ≤ k.toInt ∧ k.toInt ≤ n) : jm_T Ls xs 3 jm_M70 [.ref 70, .ref 10, .int k] (sy_dh F X1 X2 (iv_H 0)) 0 0 (pI 0 X1 X2 (fun x F' => qC [] F F' ∧ x.toInt = rwA T W k.toInt.toNat)) := by
  refine C_T (by decide) [k] [.inl (.ref 70), .inl (.ref 10), .inr (.inl 82)] jm_ok70 (by decide) rfl (fun F0 k0 ki => ?_)
  have i82 : sy_i F0 82 = k := ki 0
  have z82 : (sy_i F0 82).toInt = k.toInt := congrArg Int32.toInt i82
  refine j0rc_0 (by decide) F0 X1 X2 (hd_iveq0 hC.1 k0) ?_
  intro F1 hb gg e82 j82 e83 j83 e84 j84
  exact j0rc_L F X1 X2 hC hR hW hn (k := k.toInt.toNat) (by omega) k.toInt.toNat F1 0 (by omega) (qq_src (qq_mk hb gg (by decide)) k0) (by omega) e83 e84
theorem j0wd_L (hC : xC 3 T F) (hR : rstC 3 T F) (hW : tdC n W (sy_ai F 80) (sy_ai F 81)) (hn : n ≤ 7) {k : Nat} (hk : (k : Int) ≤ n) : ∀ (m : Nat) (F1 : Nat → sy_d) (i : Nat), 1 ≤ i → i + m = k → qC [] F F1 → (sy_i F1 82).toInt = k → (sy_i F1 83).toInt = wdN (mtA T W) i → (sy_i F1 84).toInt = i →
    hd_W Ls xs 3 jm_M73 (pI 0 X1 X2 (fun x F' => qC [] F F' ∧ x.toInt = wdN (mtA T W) k)) (5, sy_dL F1 [some (.inl (.ref 70)), some (.inl (.ref 10)), some (.inr (.inl 82)), some (.inr (.inl 83)), some (.inr (.inl 84))], sy_dS F1 [], sy_dh F1 X1 X2 (iv_H 0), 0, 0) := by
  have l7 : nfS T ≤ 7 := hC.2.2.1.1.1
  intro m
  induction m with
  | zero =>
    intro F1 i h1 hm hq e82 e83 e84
    refine j0wd_5 (by decide) F1 X1 X2 hq.1 (by omega) ?_ ?_ ?_
    · intro c0 F2 hb gg
      refine ⟨_, F2, rfl, rfl, qq_on hq hb gg (by decide), ?_⟩
      rw [e83, show i = k by omega]
    · intro c0
      exact absurd c0 (by omega)
    · intro c0
      exact absurd c0 (by omega)
  | succ m ih =>
    intro F1 i h1 hm hq e82 e83 e84
    have wl : wdN (mtA T W) i < i := by
      have := wd_lt (mtA T W) (i - 1)
      rw [show i - 1 + 1 = i by omega] at this
      omega
    refine j0wd_5 (by decide) F1 X1 X2 hq.1 (by omega) ?_ ?_ ?_
    · intro c0
      exact absurd c0 (by omega)
    · intro c0 c1
      exact absurd c1 (by omega)
    · intro c0 c1 F2 hb gg e2 j2 e3 j3 e4 j4
      have q2 : qC [] F F2 := qq_on hq hb gg (by decide)
      obtain ⟨hR2, hW2⟩ := j0td_q F hR hW q2
      refine hd_calI (R := fun x F' => qC [] F2 F' ∧ x.toInt = mtA T W (sy_i F2 84).toInt.toNat) (nh := 82) (nv := 85) (s := 0) (s1 := 0) (d1 := 2) (M1 := jm_M71) (As := [.inl (.ref 70), .inl (.ref 10), .inr (.inl 84)]) (rest := []) jm_ok73 rfl rfl (by decide) (by decide +kernel) (j0ft_V F2 X1 X2 (xC_q (by decide) hC q2 (by decide)) hR2 hW2 hn _ (by omega)) (fun F3 F' x hR p1 p2 p3 => ?_)
      obtain ⟨r1, r2⟩ := hR
      have q3 : qC [] F F3 := qq_trans q2 (qC_dst r1 p1)
      have x84 : (sy_i F2 84).toInt.toNat = i := by omega
      rw [x84] at r2
      have a82 : (sy_i F3 82).toInt = k := by rw [eI (p2 82 (by decide) (by decide))]; omega
      have a83 : (sy_i F3 83).toInt = wdN (mtA T W) i := by rw [eI (p2 83 (by decide) (by decide))]; omega
      have a84 : (sy_i F3 84).toInt = i := by rw [eI (p2 84 (by decide) (by decide))]; omega
      have a85 : (sy_i F3 85).toInt = mtA T W i := by rw [zz_i p3]; exact r2
      refine j0wd_25 (by decide) F3 X1 X2 q3.1 ?_
      intro F4 hb4 g4 b2 l2 b3 l3 b4 l4 b5 l5
      have q4 : qC [] F F4 := qq_on q3 hb4 g4 (by decide)
      obtain ⟨hR4, hW4⟩ := j0td_q F hR hW q4
      refine hd_calI (R := fun x F' => qC [] F4 F' ∧ x.toInt = mtA T W (sy_i F4 83).toInt.toNat) (nh := 82) (nv := 86) (s := 0) (s1 := 0) (d1 := 2) (M1 := jm_M71) (As := [.inl (.ref 70), .inl (.ref 10), .inr (.inl 83)]) (rest := [.inr (.inl 85)]) jm_ok73 rfl rfl (by decide) (by decide +kernel) (j0ft_V F4 X1 X2 (xC_q (by decide) hC q4 (by decide)) hR4 hW4 hn _ (by omega)) (fun F5 F6 y hR5 u1 u2 u3 => ?_)
      obtain ⟨s1, s2⟩ := hR5
      have q5 : qC [] F F5 := qq_trans q4 (qC_dst s1 u1)
      have y83 : (sy_i F4 83).toInt.toNat = wdN (mtA T W) i := by omega
      rw [y83] at s2
      have d82 : (sy_i F5 82).toInt = k := by rw [eI (u2 82 (by decide) (by decide))]; omega
      have d83 : (sy_i F5 83).toInt = wdN (mtA T W) i := by rw [eI (u2 83 (by decide) (by decide))]; omega
      have d84 : (sy_i F5 84).toInt = i := by rw [eI (u2 84 (by decide) (by decide))]; omega
      have d85 : (sy_i F5 85).toInt = mtA T W i := by rw [eI (u2 85 (by decide) (by decide))]; omega
      have d86 : (sy_i F5 86).toInt = mtA T W (wdN (mtA T W) i) := by rw [zz_i u3]; exact s2
      refine j0wd_31 (by decide) F5 X1 X2 q5.1 (by omega) ?_ ?_
      · intro c2 F7 hb7 g7 w2 v2 w3 v3 w4 v4
        have z := wd_n (m := mtA T W) (n := i) (by omega)
        exact ih F7 (i + 1) (by omega) (by omega) (qq_on q5 hb7 g7 (by decide)) (by omega) (by omega) (by omega)
      · intro c2 F7 hb7 g7 w2 v2 w3 v3 w4 v4
        have z := wd_y (m := mtA T W) (n := i) (by omega)
        exact ih F7 (i + 1) (by omega) (by omega) (qq_on q5 hb7 g7 (by decide)) (by omega) (by omega) (by omega)
theorem j0wd_V (hC : xC 3 T F) (hR : rstC 3 T F) (hW : tdC n W (sy_ai F 80) (sy_ai F 81)) (hn : n ≤ 7) (k : Int32) (hk : 1 ≤ k.toInt ∧ k.toInt ≤ n) : jm_T Ls xs 3 jm_M73 [.ref 70, .ref 10, .int k] (sy_dh F X1 X2 (iv_H 0)) 0 0 (pI 0 X1 X2 (fun x F' => qC [] F F' ∧ x.toInt = wdN (mtA T W) k.toInt.toNat)) := by
  refine C_T (by decide) [k] [.inl (.ref 70), .inl (.ref 10), .inr (.inl 82)] jm_ok73 (by decide) rfl (fun F0 k0 ki => ?_)
  have i82 : sy_i F0 82 = k := ki 0
  have z82 : (sy_i F0 82).toInt = k.toInt := congrArg Int32.toInt i82
  have w1 : wdN (mtA T W) 1 = 0 := by
    have : wdN (mtA T W) 1 ≤ 0 := wd_lt (mtA T W) 0
    omega
  refine j0wd_0 (by decide) F0 X1 X2 (hd_iveq0 hC.1 k0) ?_
  intro F1 hb gg e82 j82 e83 j83 e84 j84
  exact j0wd_L F X1 X2 hC hR hW hn (k := k.toInt.toNat) (by omega) (k.toInt.toNat - 1) F1 1 (by omega) (by omega) (qq_src (qq_mk hb gg (by decide)) k0) (by omega) (e83.trans (congrArg (fun z : Nat => (z : Int)) w1.symm)) e84
theorem j0rw_V (hC : xC 3 T F) (hR : rstC 3 T F) (hW : tdC n W (sy_ai F 80) (sy_ai F 81)) (h79 : (sy_i F 79).toInt = n) (k : Int32) : jm_T Ls xs 4 jm_M110 [.ref 8, .int k] (sy_dh F X1 X2 (iv_H 0)) 0 0 (pI 0 X1 X2 (fun x F' => qC [] F F' ∧ x = ifP (0 ≤ k.toInt ∧ k.toInt ≤ n) (Int32.ofInt (rwA T W k.toInt.toNat : Int)) (-1))) := by
  have x79 := nz_bx hC.1 (k := 79) (lo := 0) (hi := 7) rfl
  refine C_T (by decide) [k] [.inl (.ref 8), .inr (.inl 82)] jm_ok110 (by decide) rfl (fun F0 k0 ki => ?_)
  have i82 : sy_i F0 82 = k := ki 0
  have z82 : (sy_i F0 82).toInt = k.toInt := congrArg Int32.toInt i82
  have e79 : (sy_i F0 79).toInt = n := by rw [nz_fi (k0 79 (by decide))]; exact h79
  refine j0rw_0 (by decide) F0 X1 X2 (hd_iveq0 hC.1 k0) ?_ ?_ ?_
  · intro c0 F1 hb gg
    exact ⟨_, F1, rfl, rfl, qq_src (qq_mk hb gg (by decide)) k0, by rw [ifP_n (fun z => by omega)]⟩
  · intro c0 c1 F1 hb gg
    exact ⟨_, F1, rfl, rfl, qq_src (qq_mk hb gg (by decide)) k0, by rw [ifP_n (fun z => by omega)]⟩
  · intro c0 c1 F1 hb gg e82 j82
    rw [ifP_y ⟨by omega, by omega⟩]
    have q1 : qC [] F F1 := qq_src (qq_mk hb gg (by decide)) k0
    obtain ⟨hR1, hW1⟩ := j0td_q F hR hW q1
    refine hd_calI (R := fun x F' => qC [] F1 F' ∧ x.toInt = rwA T W (sy_i F1 82).toInt.toNat) (nh := 82) (nv := 82) (s := 0) (s1 := 0) (d1 := 3) (M1 := jm_M70) (As := [.inl (.ref 70), .inl (.ref 10), .inr (.inl 82)]) (rest := []) jm_ok110 rfl rfl (by decide) (by decide +kernel) (j0rc_V F1 X1 X2 (xC_q (by decide) hC q1 (by decide)) hR1 hW1 (by omega) _ (by omega)) (fun F3 F' x hR p1 p2 p3 => ?_)
    obtain ⟨r1, r2⟩ := hR
    have q3 : qC [] F F3 := qq_trans q1 (qC_dst r1 p1)
    rw [show (sy_i F1 82).toInt.toNat = k.toInt.toNat by omega] at r2
    refine j0rw_27 (by decide) F3 X1 X2 q3.1 ?_
    intro F4 hb4 g4
    refine ⟨_, F4, rfl, rfl, qq_on q3 hb4 g4 (by decide), ?_⟩
    rw [zz_i p3]
    exact (ofi r2).symm
theorem j0su_V (hC : xC 3 T F) (hR : rstC 3 T F) (hW : tdC n W (sy_ai F 80) (sy_ai F 81)) (h79 : (sy_i F 79).toInt = n) (k i : Int32) : jm_T Ls xs 4 jm_M111 [.ref 8, .int k, .int i] (sy_dh F X1 X2 (iv_H 0)) 0 0 (pI 0 X1 X2 (fun x F' => qC [] F F' ∧ x = ifP ((0 ≤ k.toInt ∧ k.toInt ≤ n) ∧ 0 ≤ i.toInt ∧ i.toInt < k.toInt) (Int32.ofInt (suA T W k.toInt.toNat i.toInt.toNat)) (-1))) := by
  have x79 := nz_bx hC.1 (k := 79) (lo := 0) (hi := 7) rfl
  refine C_T (by decide) [k, i] [.inl (.ref 8), .inr (.inl 82), .inr (.inl 83)] jm_ok111 (by decide) rfl (fun F0 k0 ki => ?_)
  have i82 : sy_i F0 82 = k := ki 0
  have i83 : sy_i F0 83 = i := ki 1
  have z82 : (sy_i F0 82).toInt = k.toInt := congrArg Int32.toInt i82
  have z83 : (sy_i F0 83).toInt = i.toInt := congrArg Int32.toInt i83
  have e79 : (sy_i F0 79).toInt = n := by rw [nz_fi (k0 79 (by decide))]; exact h79
  have bad : ∀ F1 : Nat → sy_d, iv_in F1 iv_B0 → (∀ j, j < 82 → j ∉ ([] : List Nat) → F1 j = F0 j) → ¬ ((0 ≤ k.toInt ∧ k.toInt ≤ n) ∧ 0 ≤ i.toInt ∧ i.toInt < k.toInt) → (pI 0 X1 X2 (fun x F' => qC [] F F' ∧ x = ifP ((0 ≤ k.toInt ∧ k.toInt ≤ n) ∧ 0 ≤ i.toInt ∧ i.toInt < k.toInt) (Int32.ofInt (suA T W k.toInt.toNat i.toInt.toNat)) (-1))) (some (.int (-1 : Int32))) (sy_dh F1 X1 X2 (iv_H 0)) := fun F1 hb gg h => ⟨_, F1, rfl, rfl, qq_src (qq_mk hb gg (by decide)) k0, by rw [ifP_n h]⟩
  refine j0su_0 (by decide) F0 X1 X2 (hd_iveq0 hC.1 k0) ?_ ?_ ?_ ?_ ?_
  · intro c0 F1 hb gg
    exact bad F1 hb gg (fun z => by omega)
  · intro c0 c1 F1 hb gg
    exact bad F1 hb gg (fun z => by omega)
  · intro c0 c1 c2 F1 hb gg
    exact bad F1 hb gg (fun z => by omega)
  · intro c0 c1 c2 c3 F1 hb gg
    exact bad F1 hb gg (fun z => by omega)
  · intro c0 c1 c2 c3 F1 hb gg e82 j82 e83 j83
    rw [ifP_y ⟨⟨by omega, by omega⟩, by omega, by omega⟩]
    have q1 : qC [] F F1 := qq_src (qq_mk hb gg (by decide)) k0
    obtain ⟨hR1, hW1⟩ := j0td_q F hR hW q1
    refine hd_calI (R := fun x F' => qC [] F1 F' ∧ x.toInt = rwA T W (sy_i F1 82).toInt.toNat) (nh := 82) (nv := 84) (s := 0) (s1 := 0) (d1 := 3) (M1 := jm_M70) (As := [.inl (.ref 70), .inl (.ref 10), .inr (.inl 82)]) (rest := []) jm_ok111 rfl rfl (by decide) (by decide +kernel) (j0rc_V F1 X1 X2 (xC_q (by decide) hC q1 (by decide)) hR1 hW1 (by omega) _ (by omega)) (fun F3 F' x hR p1 p2 p3 => ?_)
    obtain ⟨r1, r2⟩ := hR
    have q3 : qC [] F F3 := qq_trans q1 (qC_dst r1 p1)
    rw [show (sy_i F1 82).toInt.toNat = k.toInt.toNat by omega] at r2
    have a83 : (sy_i F3 83).toInt = i.toInt := by rw [eI (p2 83 (by decide) (by decide))]; omega
    have a84 : (sy_i F3 84).toInt = rwA T W k.toInt.toNat := by rw [zz_i p3]; exact r2
    refine j0su_40 (by decide) F3 X1 X2 q3.1 ?_ ?_
    · intro c4 F4 hb4 g4
      refine ⟨_, F4, rfl, rfl, qq_on q3 hb4 g4 (by decide), ?_⟩
      unfold suA
      rw [if_neg (fun z => by omega)]
      rfl
    · intro c4 F4 hb4 g4 b82 l82
      have q4 : qC [] F F4 := qq_on q3 hb4 g4 (by decide)
      obtain ⟨hR4, hW4⟩ := j0td_q F hR hW q4
      refine hd_calI (R := fun x F' => qC [] F4 F' ∧ x.toInt = mtA T W (sy_i F4 82).toInt.toNat) (nh := 82) (nv := 83) (s := 0) (s1 := 0) (d1 := 2) (M1 := jm_M71) (As := [.inl (.ref 70), .inl (.ref 10), .inr (.inl 82)]) (rest := []) jm_ok111 rfl rfl (by decide) (by decide +kernel) (j0ft_V F4 X1 X2 (xC_q (by decide) hC q4 (by decide)) hR4 hW4 (by omega) _ (by omega)) (fun F5 F6 y hR5 u1 u2 u3 => ?_)
      obtain ⟨s1, s2⟩ := hR5
      have q5 : qC [] F F5 := qq_trans q4 (qC_dst s1 u1)
      rw [show (sy_i F4 82).toInt.toNat = i.toInt.toNat by omega] at s2
      have d82 : (sy_i F5 82).toInt = i.toInt := by rw [eI (u2 82 (by decide) (by decide))]; omega
      have d83 : (sy_i F5 83).toInt = mtA T W i.toInt.toNat := by rw [zz_i u3]; exact s2
      refine j0su_55 (by decide) F5 X1 X2 q5.1 ?_ ?_
      · intro c5 F7 hb7 g7
        refine ⟨_, F7, rfl, rfl, qq_on q5 hb7 g7 (by decide), ?_⟩
        unfold suA
        rw [if_neg (fun z => by omega)]
        rfl
      · intro c5 F7 hb7 g7 w82 v82
        have q7 : qC [] F F7 := qq_on q5 hb7 g7 (by decide)
        obtain ⟨hR7, hW7⟩ := j0td_q F hR hW q7
        refine hd_calI (R := fun x F' => qC [] F7 F' ∧ x.toInt = ffA T (W (sy_i F7 82).toInt.toNat)) (nh := 82) (nv := 82) (s := 0) (s1 := 0) (d1 := 2) (M1 := jm_M72) (As := [.inl (.ref 70), .inl (.ref 10), .inr (.inl 82)]) (rest := []) jm_ok111 rfl rfl (by decide) (by decide +kernel) (j0ff_V F7 X1 X2 (xC_q (by decide) hC q7 (by decide)) hR7 hW7 (by omega) _ (by omega)) (fun F8 F9 y2 hR8 t1 t2 t3 => ?_)
        obtain ⟨m1, m2⟩ := hR8
        have q8 : qC [] F F8 := qq_trans q7 (qC_dst m1 t1)
        rw [show (sy_i F7 82).toInt.toNat = i.toInt.toNat by omega] at m2
        refine j0su_81 (by decide) F8 X1 X2 q8.1 ?_
        intro FA hbA gA
        refine ⟨_, FA, rfl, rfl, qq_on q8 hbA gA (by decide), ?_⟩
        unfold suA
        rw [if_pos ⟨by omega, by omega⟩, zz_i t3]
        exact (ofi m2).symm
theorem j0as_V (hC : xC 3 T F) (hR : rstC 3 T F) (hW : tdC n W (sy_ai F 80) (sy_ai F 81)) (h79 : (sy_i F 79).toInt = n) (k : Int32) : jm_T Ls xs 4 jm_M112 [.ref 8, .int k] (sy_dh F X1 X2 (iv_H 0)) 0 0 (pI 0 X1 X2 (fun x F' => qC [] F F' ∧ x = ifP (0 ≤ k.toInt ∧ k.toInt ≤ n) (Int32.ofInt (akA T W k.toInt.toNat)) (-1))) := by
  have x79 := nz_bx hC.1 (k := 79) (lo := 0) (hi := 7) rfl
  refine C_T (by decide) [k] [.inl (.ref 8), .inr (.inl 82)] jm_ok112 (by decide) rfl (fun F0 k0 ki => ?_)
  have i82 : sy_i F0 82 = k := ki 0
  have z82 : (sy_i F0 82).toInt = k.toInt := congrArg Int32.toInt i82
  have e79 : (sy_i F0 79).toInt = n := by rw [nz_fi (k0 79 (by decide))]; exact h79
  refine j0as_0 (by decide) F0 X1 X2 (hd_iveq0 hC.1 k0) ?_ ?_ ?_ ?_
  · intro c0 F1 hb gg
    exact ⟨_, F1, rfl, rfl, qq_src (qq_mk hb gg (by decide)) k0, by rw [ifP_n (fun z => by omega)]⟩
  · intro c0 c1 F1 hb gg
    exact ⟨_, F1, rfl, rfl, qq_src (qq_mk hb gg (by decide)) k0, by rw [ifP_n (fun z => by omega)]⟩
  · intro c0 c1 c2 F1 hb gg
    refine ⟨_, F1, rfl, rfl, qq_src (qq_mk hb gg (by decide)) k0, ?_⟩
    unfold akA
    rw [ifP_y ⟨by omega, by omega⟩, if_pos (Or.inl (by omega))]
    rfl
  · intro c0 c1 c2 F1 hb gg e82 j82
    rw [ifP_y ⟨by omega, by omega⟩]
    have q1 : qC [] F F1 := qq_src (qq_mk hb gg (by decide)) k0
    obtain ⟨hR1, hW1⟩ := j0td_q F hR hW q1
    refine hd_calI (R := fun x F' => qC [] F1 F' ∧ x.toInt = rwA T W (sy_i F1 82).toInt.toNat) (nh := 82) (nv := 83) (s := 0) (s1 := 0) (d1 := 3) (M1 := jm_M70) (As := [.inl (.ref 70), .inl (.ref 10), .inr (.inl 82)]) (rest := []) jm_ok112 rfl rfl (by decide) (by decide +kernel) (j0rc_V F1 X1 X2 (xC_q (by decide) hC q1 (by decide)) hR1 hW1 (by omega) _ (by omega)) (fun F3 F' x hR p1 p2 p3 => ?_)
    obtain ⟨r1, r2⟩ := hR
    have q3 : qC [] F F3 := qq_trans q1 (qC_dst r1 p1)
    rw [show (sy_i F1 82).toInt.toNat = k.toInt.toNat by omega] at r2
    have a82 : (sy_i F3 82).toInt = k.toInt := by rw [eI (p2 82 (by decide) (by decide))]; omega
    have a83 : (sy_i F3 83).toInt = rwA T W k.toInt.toNat := by rw [zz_i p3]; exact r2
    refine j0as_33 (by decide) F3 X1 X2 q3.1 ?_ ?_
    · intro c4 F4 hb4 g4 b82 l82
      have q4 : qC [] F F4 := qq_on q3 hb4 g4 (by decide)
      obtain ⟨hR4, hW4⟩ := j0td_q F hR hW q4
      refine hd_calI (R := fun x F' => qC [] F4 F' ∧ x.toInt = wdN (mtA T W) (sy_i F4 82).toInt.toNat) (nh := 82) (nv := 82) (s := 0) (s1 := 0) (d1 := 3) (M1 := jm_M73) (As := [.inl (.ref 70), .inl (.ref 10), .inr (.inl 82)]) (rest := []) jm_ok112 rfl rfl (by decide) (by decide +kernel) (j0wd_V F4 X1 X2 (xC_q (by decide) hC q4 (by decide)) hR4 hW4 (by omega) _ (by omega)) (fun F5 F6 y hR5 u1 u2 u3 => ?_)
      obtain ⟨s1, s2⟩ := hR5
      have q5 : qC [] F F5 := qq_trans q4 (qC_dst s1 u1)
      rw [show (sy_i F4 82).toInt.toNat = k.toInt.toNat by omega] at s2
      refine j0as_51 (by decide) F5 X1 X2 q5.1 ?_
      intro F7 hb7 g7
      refine ⟨_, F7, rfl, rfl, qq_on q5 hb7 g7 (by decide), ?_⟩
      unfold akA
      rw [if_neg (fun z => by omega), zz_i u3]
      exact (ofi s2).symm
    · intro c4 F4 hb4 g4
      refine ⟨_, F4, rfl, rfl, qq_on q3 hb4 g4 (by decide), ?_⟩
      unfold akA
      rw [if_pos (Or.inr (by omega))]
      rfl
end TO0
section TO1
variable {Ls : Nat} {xs : Nat → Int32} {T : tX} {W : Nat → Int32 × Int32} {n : Int} (F : Nat → sy_d) (X1 X2 : List jm_c)
theorem j1ft_L (hC : xC 3 T F) (hR : rstC 3 T F) (hW : tdC n W (sy_ai F 80) (sy_ai F 81)) (hn : n ≤ 7) {i : Nat} (hi : (i : Int) < n) : ∀ (m : Nat) (F1 : Nat → sy_d) (f : Nat), f + m = nfS T → qC [] F F1 → (sy_i F1 82).toInt = i → (sy_i F1 83).toInt = cfN T (W i) f → (sy_i F1 84).toInt = f →
    hd_W Ls xs 2 jm_M71 (pI 1 X1 X2 (fun x F' => qC [] F F' ∧ x.toInt = mtA T W i)) (5, sy_dL F1 [some (.inl (.ref 70)), some (.inl (.ref 10)), some (.inr (.inl 82)), some (.inr (.inl 83)), some (.inr (.inl 84))], sy_dS F1 [], sy_dh F1 X1 X2 (iv_H 1), 0, 0) := by
  have l7 : nfS T ≤ 7 := hC.2.2.1.1.1
  have enf : (sy_i F 3).toInt = (nfS T : Int) := hC.2.1.1.1
  intro m
  induction m with
  | zero =>
    intro F1 f hm hq e82 e83 e84
    have en1 : (sy_i F1 3).toInt = (nfS T : Int) := by rw [qq_i hq (by decide) (by decide)]; exact enf
    have cb := cf_le T (W i) f
    refine j1ft_5 (by decide) F1 X1 X2 hq.1 (by omega) (by omega) (by omega) ?_ ?_ ?_ ?_
    · intro c0 F2 hb gg
      refine ⟨_, F2, rfl, rfl, qq_on hq hb gg (by decide), ?_⟩
      rw [e83, show f = nfS T by omega]
      rfl
    · intro c0
      exact absurd c0 (by omega)
    · intro c0
      exact absurd c0 (by omega)
    · intro c0
      exact absurd c0 (by omega)
  | succ m ih =>
    intro F1 f hm hq e82 e83 e84
    have en1 : (sy_i F1 3).toInt = (nfS T : Int) := by rw [qq_i hq (by decide) (by decide)]; exact enf
    have cb := cf_le T (W i) f
    have hf : f < nfS T := by omega
    have x84 : (sy_i F1 84).toInt.toNat = f := by omega
    have x82 : (sy_i F1 82).toInt.toNat = i := by omega
    have r10 : (sy_ai F1 10).getD (sy_i F1 84).toInt.toNat 0 = Int32.ofInt (tF T f).2.1 := by
      rw [x84, qq_a hq (by decide) (by decide)]
      exact (xX_f hC hf).2.1
    have r12 : (sy_ai F1 12).getD (sy_i F1 84).toInt.toNat 0 = rsS T f := by
      rw [x84, qq_a hq (by decide) (by decide)]
      exact hR f hf
    have r80 : (sy_ai F1 80).getD (sy_i F1 82).toInt.toNat 0 = (W i).1 := by
      rw [x82, qq_a hq (by decide) (by decide)]
      exact (hW i hi).1
    have r81 : (sy_ai F1 81).getD (sy_i F1 82).toInt.toNat 0 = (W i).2 := by
      rw [x82, qq_a hq (by decide) (by decide)]
      exact (hW i hi).2
    have go0 : kfT T f ≠ W i → ∀ F2 : Nat → sy_d, iv_in F2 iv_B0 → (∀ j, j < 82 → j ∉ ([] : List Nat) → F2 j = F1 j) → (sy_i F2 82).toInt = (sy_i F1 82).toInt → (sy_i F2 83).toInt = (sy_i F1 83).toInt → (sy_i F2 84).toInt = (sy_i F1 84).toInt + 1 → hd_W Ls xs 2 jm_M71 (pI 1 X1 X2 (fun x F' => qC [] F F' ∧ x.toInt = mtA T W i)) (5, sy_dL F2 [some (.inl (.ref 70)), some (.inl (.ref 10)), some (.inr (.inl 82)), some (.inr (.inl 83)), some (.inr (.inl 84))], sy_dS F2 [], sy_dh F2 X1 X2 (iv_H 1), 0, 0) := by
      intro q F2 hb gg e2 e3 e4
      have k := cf_n q
      exact ih F2 (f + 1) (by omega) (qq_on hq hb gg (by decide)) (by omega) (by omega) (by omega)
    refine j1ft_5 (by decide) F1 X1 X2 hq.1 (by omega) (by omega) (by omega) ?_ ?_ ?_ ?_
    · intro c0
      exact absurd c0 (by omega)
    · intro c0 c1 F2 hb gg e2 j2 e3 j3 e4 j4
      rw [r10, r80] at c1
      exact go0 (kf_1 c1) F2 hb gg e2 e3 e4
    · intro c0 c1 c2 F2 hb gg e2 j2 e3 j3 e4 j4
      rw [r12, r81] at c2
      exact go0 (kf_2 c2) F2 hb gg e2 e3 e4
    · intro c0 c1 c2 F2 hb gg e2 j2 e3 j3 e4 j4
      rw [r10, r80] at c1
      rw [r12, r81] at c2
      have k := cf_y (kf_y c1 c2)
      clear c1 c2 go0
      exact ih F2 (f + 1) (by omega) (qq_on hq hb gg (by decide)) (by omega) (by omega) (by omega)
theorem j1ft_V (hC : xC 3 T F) (hR : rstC 3 T F) (hW : tdC n W (sy_ai F 80) (sy_ai F 81)) (hn : n ≤ 7) (i : Int32) (hi : 0 ≤ i.toInt ∧ i.toInt < n) : jm_T Ls xs 2 jm_M71 [.ref 70, .ref 10, .int i] (sy_dh F X1 X2 (iv_H 1)) 0 0 (pI 1 X1 X2 (fun x F' => qC [] F F' ∧ x.toInt = mtA T W i.toInt.toNat)) := by
  refine C_T (by decide) [i] [.inl (.ref 70), .inl (.ref 10), .inr (.inl 82)] jm_ok71 (by decide) rfl (fun F0 k0 ki => ?_)
  have i82 : sy_i F0 82 = i := ki 0
  have z82 : (sy_i F0 82).toInt = i.toInt := congrArg Int32.toInt i82
  refine j1ft_0 (by decide) F0 X1 X2 (hd_iveq0 hC.1 k0) ?_
  intro F1 hb gg e82 j82 e83 j83 e84 j84
  exact j1ft_L F X1 X2 hC hR hW hn (i := i.toInt.toNat) (by omega) (nfS T) F1 0 (by omega) (qq_src (qq_mk hb gg (by decide)) k0) (by omega) e83 e84
theorem j1ff_L (hC : xC 3 T F) (hR : rstC 3 T F) (hW : tdC n W (sy_ai F 80) (sy_ai F 81)) (hn : n ≤ 7) {i : Nat} (hi : (i : Int) < n) : ∀ (m : Nat) (F1 : Nat → sy_d) (f : Nat), f + m = nfS T → qC [] F F1 → (sy_i F1 82).toInt = i → (sy_i F1 83).toInt = f → (∀ j, j < f → decide (kfT T j = W i) = false) →
    hd_W Ls xs 2 jm_M72 (pI 1 X1 X2 (fun x F' => qC [] F F' ∧ x.toInt = ffA T (W i))) (2, sy_dL F1 [some (.inl (.ref 70)), some (.inl (.ref 10)), some (.inr (.inl 82)), some (.inr (.inl 83))], sy_dS F1 [], sy_dh F1 X1 X2 (iv_H 1), 0, 0) := by
  have l7 : nfS T ≤ 7 := hC.2.2.1.1.1
  have enf : (sy_i F 3).toInt = (nfS T : Int) := hC.2.1.1.1
  intro m
  induction m with
  | zero =>
    intro F1 f hm hq e82 e83 hj
    have en1 : (sy_i F1 3).toInt = (nfS T : Int) := by rw [qq_i hq (by decide) (by decide)]; exact enf
    refine j1ff_2 (by decide) F1 X1 X2 hq.1 (by omega) (by omega) ?_ ?_ ?_ ?_
    · intro c0 F2 hb gg
      refine ⟨_, F2, rfl, rfl, qq_on hq hb gg (by decide), ?_⟩
      unfold ffA
      rw [fs_no _ (fun j h => hj j (by omega))]
      decide
    · intro c0
      exact absurd c0 (by omega)
    · intro c0
      exact absurd c0 (by omega)
    · intro c0
      exact absurd c0 (by omega)
  | succ m ih =>
    intro F1 f hm hq e82 e83 hj
    have en1 : (sy_i F1 3).toInt = (nfS T : Int) := by rw [qq_i hq (by decide) (by decide)]; exact enf
    have hf : f < nfS T := by omega
    have x83 : (sy_i F1 83).toInt.toNat = f := by omega
    have x82 : (sy_i F1 82).toInt.toNat = i := by omega
    have r10 : (sy_ai F1 10).getD (sy_i F1 83).toInt.toNat 0 = Int32.ofInt (tF T f).2.1 := by
      rw [x83, qq_a hq (by decide) (by decide)]
      exact (xX_f hC hf).2.1
    have r12 : (sy_ai F1 12).getD (sy_i F1 83).toInt.toNat 0 = rsS T f := by
      rw [x83, qq_a hq (by decide) (by decide)]
      exact hR f hf
    have r80 : (sy_ai F1 80).getD (sy_i F1 82).toInt.toNat 0 = (W i).1 := by
      rw [x82, qq_a hq (by decide) (by decide)]
      exact (hW i hi).1
    have r81 : (sy_ai F1 81).getD (sy_i F1 82).toInt.toNat 0 = (W i).2 := by
      rw [x82, qq_a hq (by decide) (by decide)]
      exact (hW i hi).2
    have go0 : kfT T f ≠ W i → ∀ F2 : Nat → sy_d, iv_in F2 iv_B0 → (∀ j, j < 82 → j ∉ ([] : List Nat) → F2 j = F1 j) → (sy_i F2 82).toInt = (sy_i F1 82).toInt → (sy_i F2 83).toInt = (sy_i F1 83).toInt + 1 → hd_W Ls xs 2 jm_M72 (pI 1 X1 X2 (fun x F' => qC [] F F' ∧ x.toInt = ffA T (W i))) (2, sy_dL F2 [some (.inl (.ref 70)), some (.inl (.ref 10)), some (.inr (.inl 82)), some (.inr (.inl 83))], sy_dS F2 [], sy_dh F2 X1 X2 (iv_H 1), 0, 0) := by
      intro q F2 hb gg e2 e3
      refine ih F2 (f + 1) (by omega) (qq_on hq hb gg (by decide)) (by omega) (by omega) (fun j h => ?_)
      by_cases z : j = f
      · rw [z]
        exact decide_eq_false q
      · exact hj j (by omega)
    refine j1ff_2 (by decide) F1 X1 X2 hq.1 (by omega) (by omega) ?_ ?_ ?_ ?_
    · intro c0
      exact absurd c0 (by omega)
    · intro c0 c1 F2 hb gg e2 j2 e3 j3
      rw [r10, r80] at c1
      exact go0 (kf_1 c1) F2 hb gg e2 e3
    · intro c0 c1 c2 F2 hb gg e2 j2 e3 j3
      rw [r12, r81] at c2
      exact go0 (kf_2 c2) F2 hb gg e2 e3
    · intro c0 c1 c2 F2 hb gg
      rw [r10, r80] at c1
      rw [r12, r81] at c2
      refine ⟨_, F2, rfl, rfl, qq_on hq hb gg (by decide), ?_⟩
      unfold ffA
      rw [fs_lt (P := fun f => decide (kfT T f = W i)) (decide_eq_true (kf_y c1 c2)) hj hf]
      exact e83
theorem j1ff_V (hC : xC 3 T F) (hR : rstC 3 T F) (hW : tdC n W (sy_ai F 80) (sy_ai F 81)) (hn : n ≤ 7) (i : Int32) (hi : 0 ≤ i.toInt ∧ i.toInt < n) : jm_T Ls xs 2 jm_M72 [.ref 70, .ref 10, .int i] (sy_dh F X1 X2 (iv_H 1)) 0 0 (pI 1 X1 X2 (fun x F' => qC [] F F' ∧ x.toInt = ffA T (W i.toInt.toNat))) := by
  refine C_T (by decide) [i] [.inl (.ref 70), .inl (.ref 10), .inr (.inl 82)] jm_ok72 (by decide) rfl (fun F0 k0 ki => ?_)
  have i82 : sy_i F0 82 = i := ki 0
  have z82 : (sy_i F0 82).toInt = i.toInt := congrArg Int32.toInt i82
  refine j1ff_0 (by decide) F0 X1 X2 (hd_iveq0 hC.1 k0) ?_
  intro F1 hb gg e82 j82 e83 j83
  exact j1ff_L F X1 X2 hC hR hW hn (i := i.toInt.toNat) (by omega) (nfS T) F1 0 (by omega) (qq_src (qq_mk hb gg (by decide)) k0) (by omega) e83 (fun j h => absurd h (Nat.not_lt_zero j))
theorem j1al_L (hB : iv_in F iv_B0) (hW : tdC n W (sy_ai F 80) (sy_ai F 81)) (hn : n ≤ 7) {i : Nat} (hi : (i : Int) < n) : ∀ (m : Nat) (F1 : Nat → sy_d) (f : Nat), f + m = i → qC [] F F1 → (sy_i F1 82).toInt = i → (sy_i F1 83).toInt = ejN W (W i) f → (sy_i F1 84).toInt = f →
    hd_W Ls xs 1 jm_M75 (pI 1 X1 X2 (fun x F' => qC [] F F' ∧ x.toInt = eqN W i)) (4, sy_dL F1 [some (.inl (.ref 70)), some (.inr (.inl 82)), some (.inr (.inl 83)), some (.inr (.inl 84))], sy_dS F1 [], sy_dh F1 X1 X2 (iv_H 1), 0, 0) := by
  intro m
  induction m with
  | zero =>
    intro F1 f hm hq e82 e83 e84
    have cb := ej_le W (W i) f
    refine j1al_4 (by decide) F1 X1 X2 hq.1 (by omega) (by omega) (by omega) ?_ ?_ ?_ ?_
    · intro c0 F2 hb gg
      refine ⟨_, F2, rfl, rfl, qq_on hq hb gg (by decide), ?_⟩
      rw [e83, show f = i by omega]
      rfl
    · intro c0
      exact absurd c0 (by omega)
    · intro c0
      exact absurd c0 (by omega)
    · intro c0
      exact absurd c0 (by omega)
  | succ m ih =>
    intro F1 f hm hq e82 e83 e84
    have cb := ej_le W (W i) f
    have x84 : (sy_i F1 84).toInt.toNat = f := by omega
    have x82 : (sy_i F1 82).toInt.toNat = i := by omega
    have r80 : (sy_ai F1 80).getD (sy_i F1 82).toInt.toNat 0 = (W i).1 := by
      rw [x82, qq_a hq (by decide) (by decide)]
      exact (hW i hi).1
    have r81 : (sy_ai F1 81).getD (sy_i F1 82).toInt.toNat 0 = (W i).2 := by
      rw [x82, qq_a hq (by decide) (by decide)]
      exact (hW i hi).2
    have s80 : (sy_ai F1 80).getD (sy_i F1 84).toInt.toNat 0 = (W f).1 := by
      rw [x84, qq_a hq (by decide) (by decide)]
      exact (hW f (by omega)).1
    have s81 : (sy_ai F1 81).getD (sy_i F1 84).toInt.toNat 0 = (W f).2 := by
      rw [x84, qq_a hq (by decide) (by decide)]
      exact (hW f (by omega)).2
    have go0 : W f ≠ W i → ∀ F2 : Nat → sy_d, iv_in F2 iv_B0 → (∀ j, j < 82 → j ∉ ([] : List Nat) → F2 j = F1 j) → (sy_i F2 82).toInt = (sy_i F1 82).toInt → (sy_i F2 83).toInt = (sy_i F1 83).toInt → (sy_i F2 84).toInt = (sy_i F1 84).toInt + 1 → hd_W Ls xs 1 jm_M75 (pI 1 X1 X2 (fun x F' => qC [] F F' ∧ x.toInt = eqN W i)) (4, sy_dL F2 [some (.inl (.ref 70)), some (.inr (.inl 82)), some (.inr (.inl 83)), some (.inr (.inl 84))], sy_dS F2 [], sy_dh F2 X1 X2 (iv_H 1), 0, 0) := by
      intro q F2 hb gg e2 e3 e4
      have k := ej_n q
      exact ih F2 (f + 1) (by omega) (qq_on hq hb gg (by decide)) (by omega) (by omega) (by omega)
    refine j1al_4 (by decide) F1 X1 X2 hq.1 (by omega) (by omega) (by omega) ?_ ?_ ?_ ?_
    · intro c0
      exact absurd c0 (by omega)
    · intro c0 c1 F2 hb gg e2 j2 e3 j3 e4 j4
      rw [s80, r80] at c1
      exact go0 (wp_1 c1) F2 hb gg e2 e3 e4
    · intro c0 c1 c2 F2 hb gg e2 j2 e3 j3 e4 j4
      rw [s81, r81] at c2
      exact go0 (wp_2 c2) F2 hb gg e2 e3 e4
    · intro c0 c1 c2 F2 hb gg e2 j2 e3 j3 e4 j4
      rw [s80, r80] at c1
      rw [s81, r81] at c2
      have k := ej_y (wp_y c1 c2)
      clear c1 c2 go0
      exact ih F2 (f + 1) (by omega) (qq_on hq hb gg (by decide)) (by omega) (by omega) (by omega)
theorem j1al_V (hB : iv_in F iv_B0) (hW : tdC n W (sy_ai F 80) (sy_ai F 81)) (hn : n ≤ 7) (i : Int32) (hi : 0 ≤ i.toInt ∧ i.toInt < n) : jm_T Ls xs 1 jm_M75 [.ref 70, .int i] (sy_dh F X1 X2 (iv_H 1)) 0 0 (pI 1 X1 X2 (fun x F' => qC [] F F' ∧ x.toInt = eqN W i.toInt.toNat)) := by
  refine C_T (by decide) [i] [.inl (.ref 70), .inr (.inl 82)] jm_ok75 (by decide) rfl (fun F0 k0 ki => ?_)
  have i82 : sy_i F0 82 = i := ki 0
  have z82 : (sy_i F0 82).toInt = i.toInt := congrArg Int32.toInt i82
  refine j1al_0 (by decide) F0 X1 X2 (hd_iveq0 hB k0) ?_
  intro F1 hb gg e82 j82 e83 j83 e84 j84
  exact j1al_L F X1 X2 hB hW hn (i := i.toInt.toNat) (by omega) i.toInt.toNat F1 0 (by omega) (qq_src (qq_mk hb gg (by decide)) k0) (by omega) e83 e84
theorem j1td_q (hR : rstC 3 T F) (hW : tdC n W (sy_ai F 80) (sy_ai F 81)) {F1 : Nat → sy_d} (q : qC [] F F1) : rstC 3 T F1 ∧ tdC n W (sy_ai F1 80) (sy_ai F1 81) := by
  refine ⟨fun f hf => ?_, ?_⟩
  · rw [qq_a q (by decide) (by decide)]
    exact hR f hf
  · rw [qq_a q (by decide) (by decide), qq_a q (by decide) (by decide)]
    exact hW
theorem j1rc_L (hC : xC 3 T F) (hR : rstC 3 T F) (hW : tdC n W (sy_ai F 80) (sy_ai F 81)) (hn : n ≤ 7) {k : Nat} (hk : (k : Int) ≤ n) : ∀ (m : Nat) (F1 : Nat → sy_d) (i : Nat), i + m = k → qC [] F F1 → (sy_i F1 82).toInt = k → (sy_i F1 83).toInt = rwA T W i → (sy_i F1 84).toInt = i →
    hd_W Ls xs 3 jm_M70 (pI 1 X1 X2 (fun x F' => qC [] F F' ∧ x.toInt = rwA T W k)) (5, sy_dL F1 [some (.inl (.ref 70)), some (.inl (.ref 10)), some (.inr (.inl 82)), some (.inr (.inl 83)), some (.inr (.inl 84)), none], sy_dS F1 [], sy_dh F1 X1 X2 (iv_H 1), 0, 0) := by
  have l7 : nfS T ≤ 7 := hC.2.2.1.1.1
  intro m
  induction m with
  | zero =>
    intro F1 i hm hq e82 e83 e84
    refine j1rc_5 (by decide) F1 X1 X2 hq.1 (by omega) ?_ ?_ ?_
    · intro c0 F2 hb gg
      refine ⟨_, F2, rfl, rfl, qq_on hq hb gg (by decide), ?_⟩
      rw [e83, show i = k by omega]
    · intro c0
      exact absurd c0 (by omega)
    · intro c0
      exact absurd c0 (by omega)
  | succ m ih =>
    intro F1 i hm hq e82 e83 e84
    refine j1rc_5 (by decide) F1 X1 X2 hq.1 (by omega) ?_ ?_ ?_
    · intro c0
      exact absurd c0 (by omega)
    · intro c0 c1
      exact absurd c1 (by omega)
    · intro c0 c1 F2 hb gg e2 j2 e3 j3 e4 j4
      have q2 : qC [] F F2 := qq_on hq hb gg (by decide)
      obtain ⟨hR2, hW2⟩ := j1td_q F hR hW q2
      refine hd_calI (R := fun x F' => qC [] F2 F' ∧ x.toInt = mtA T W (sy_i F2 84).toInt.toNat) (nh := 82) (nv := 85) (s := 1) (s1 := 1) (d1 := 2) (M1 := jm_M71) (As := [.inl (.ref 70), .inl (.ref 10), .inr (.inl 84)]) (rest := []) jm_ok70 rfl rfl (by decide) (by decide +kernel) (j1ft_V F2 X1 X2 (xC_q (by decide) hC q2 (by decide)) hR2 hW2 hn _ (by omega)) (fun F3 F' x hR p1 p2 p3 => ?_)
      obtain ⟨r1, r2⟩ := hR
      have q3 : qC [] F F3 := qq_trans q2 (qC_dst r1 p1)
      have x84 : (sy_i F2 84).toInt.toNat = i := by omega
      rw [x84] at r2
      have a82 : (sy_i F3 82).toInt = k := by rw [eI (p2 82 (by decide) (by decide))]; omega
      have a83 : (sy_i F3 83).toInt = rwA T W i := by rw [eI (p2 83 (by decide) (by decide))]; omega
      have a84 : (sy_i F3 84).toInt = i := by rw [eI (p2 84 (by decide) (by decide))]; omega
      have a85 : (sy_i F3 85).toInt = mtA T W i := by rw [zz_i p3]; exact r2
      refine j1rc_25 (by decide) F3 X1 X2 q3.1 ?_
      intro F4 hb4 g4 b2 l2 b3 l3 b4 l4 b5 l5
      have q4 : qC [] F F4 := qq_on q3 hb4 g4 (by decide)
      obtain ⟨hR4, hW4⟩ := j1td_q F hR hW q4
      refine hd_calI (R := fun x F' => qC [] F4 F' ∧ x.toInt = eqN W (sy_i F4 84).toInt.toNat) (nh := 82) (nv := 86) (s := 1) (s1 := 1) (d1 := 1) (M1 := jm_M75) (As := [.inl (.ref 70), .inr (.inl 84)]) (rest := [.inr (.inl 85)]) jm_ok70 rfl rfl (by decide) (by decide +kernel) (j1al_V F4 X1 X2 q4.1 hW4 hn _ (by omega)) (fun F5 F6 y hR5 u1 u2 u3 => ?_)
      obtain ⟨s1, s2⟩ := hR5
      have q5 : qC [] F F5 := qq_trans q4 (qC_dst s1 u1)
      have y84 : (sy_i F4 84).toInt.toNat = i := by omega
      rw [y84] at s2
      have d82 : (sy_i F5 82).toInt = k := by rw [eI (u2 82 (by decide) (by decide))]; omega
      have d83 : (sy_i F5 83).toInt = rwA T W i := by rw [eI (u2 83 (by decide) (by decide))]; omega
      have d84 : (sy_i F5 84).toInt = i := by rw [eI (u2 84 (by decide) (by decide))]; omega
      have d85 : (sy_i F5 85).toInt = mtA T W i := by rw [eI (u2 85 (by decide) (by decide))]; omega
      have d86 : (sy_i F5 86).toInt = eqN W i := by rw [zz_i u3]; exact s2
      have m7 : mtA T W i ≤ nfS T := mt_le i
      have e7 : eqN W i ≤ i := cnt_le _ i
      have rs : rwA T W (i + 1) = rwA T W i * (mtA T W i - eqN W i) := rfl
      refine j1rc_31 (by decide) F5 X1 X2 q5.1 (by omega) (by omega) (by omega) ?_ ?_
      · intro c2 F7 hb7 g7 w2 v2 w3 v3 w4 v4
        have r6 : rwA T W i ≤ 823543 := rwA_le l7 (by omega)
        have sm : mtA T W i - eqN W i ≤ 7 := by omega
        have ml : rwA T W i * (mtA T W i - eqN W i) ≤ 823543 * 7 := Nat.mul_le_mul r6 sm
        have dd : (sy_i F5 85 - sy_i F5 86).toInt = ((mtA T W i - eqN W i : Nat) : Int) := by
          rw [nz_sub d85 d86 (by omega) (by omega)]
          omega
        have pm : (sy_i F5 83 * (sy_i F5 85 - sy_i F5 86)).toInt = ((rwA T W (i + 1) : Nat) : Int) := by
          rw [rs, Int.natCast_mul]
          refine nz_mul d83 dd ?_ ?_
          · rw [← Int.natCast_mul]
            omega
          · rw [← Int.natCast_mul]
            omega
        exact ih F7 (i + 1) (by omega) (qq_on q5 hb7 g7 (by decide)) (by omega) (by rw [v3]; exact pm) (by omega)
      · intro c2 F7 hb7 g7
        refine ⟨_, F7, rfl, rfl, qq_on q5 hb7 g7 (by decide), ?_⟩
        have z : rwA T W (i + 1) = 0 := by
          rw [rs, show mtA T W i - eqN W i = 0 by omega, Nat.mul_zero]
        have z2 : rwA T W k = 0 := pr_z z (by omega)
        rw [z2]
        decide
theorem j1rc_V (hC : xC 3 T F) (hR : rstC 3 T F) (hW : tdC n W (sy_ai F 80) (sy_ai F 81)) (hn : n ≤ 7) (k : Int32) (hk : 0 ≤ k.toInt ∧ k.toInt ≤ n) : jm_T Ls xs 3 jm_M70 [.ref 70, .ref 10, .int k] (sy_dh F X1 X2 (iv_H 1)) 0 0 (pI 1 X1 X2 (fun x F' => qC [] F F' ∧ x.toInt = rwA T W k.toInt.toNat)) := by
  refine C_T (by decide) [k] [.inl (.ref 70), .inl (.ref 10), .inr (.inl 82)] jm_ok70 (by decide) rfl (fun F0 k0 ki => ?_)
  have i82 : sy_i F0 82 = k := ki 0
  have z82 : (sy_i F0 82).toInt = k.toInt := congrArg Int32.toInt i82
  refine j1rc_0 (by decide) F0 X1 X2 (hd_iveq0 hC.1 k0) ?_
  intro F1 hb gg e82 j82 e83 j83 e84 j84
  exact j1rc_L F X1 X2 hC hR hW hn (k := k.toInt.toNat) (by omega) k.toInt.toNat F1 0 (by omega) (qq_src (qq_mk hb gg (by decide)) k0) (by omega) e83 e84
theorem j1wd_L (hC : xC 3 T F) (hR : rstC 3 T F) (hW : tdC n W (sy_ai F 80) (sy_ai F 81)) (hn : n ≤ 7) {k : Nat} (hk : (k : Int) ≤ n) : ∀ (m : Nat) (F1 : Nat → sy_d) (i : Nat), 1 ≤ i → i + m = k → qC [] F F1 → (sy_i F1 82).toInt = k → (sy_i F1 83).toInt = wdN (mtA T W) i → (sy_i F1 84).toInt = i →
    hd_W Ls xs 3 jm_M73 (pI 1 X1 X2 (fun x F' => qC [] F F' ∧ x.toInt = wdN (mtA T W) k)) (5, sy_dL F1 [some (.inl (.ref 70)), some (.inl (.ref 10)), some (.inr (.inl 82)), some (.inr (.inl 83)), some (.inr (.inl 84))], sy_dS F1 [], sy_dh F1 X1 X2 (iv_H 1), 0, 0) := by
  have l7 : nfS T ≤ 7 := hC.2.2.1.1.1
  intro m
  induction m with
  | zero =>
    intro F1 i h1 hm hq e82 e83 e84
    refine j1wd_5 (by decide) F1 X1 X2 hq.1 (by omega) ?_ ?_ ?_
    · intro c0 F2 hb gg
      refine ⟨_, F2, rfl, rfl, qq_on hq hb gg (by decide), ?_⟩
      rw [e83, show i = k by omega]
    · intro c0
      exact absurd c0 (by omega)
    · intro c0
      exact absurd c0 (by omega)
  | succ m ih =>
    intro F1 i h1 hm hq e82 e83 e84
    have wl : wdN (mtA T W) i < i := by
      have := wd_lt (mtA T W) (i - 1)
      rw [show i - 1 + 1 = i by omega] at this
      omega
    refine j1wd_5 (by decide) F1 X1 X2 hq.1 (by omega) ?_ ?_ ?_
    · intro c0
      exact absurd c0 (by omega)
    · intro c0 c1
      exact absurd c1 (by omega)
    · intro c0 c1 F2 hb gg e2 j2 e3 j3 e4 j4
      have q2 : qC [] F F2 := qq_on hq hb gg (by decide)
      obtain ⟨hR2, hW2⟩ := j1td_q F hR hW q2
      refine hd_calI (R := fun x F' => qC [] F2 F' ∧ x.toInt = mtA T W (sy_i F2 84).toInt.toNat) (nh := 82) (nv := 85) (s := 1) (s1 := 1) (d1 := 2) (M1 := jm_M71) (As := [.inl (.ref 70), .inl (.ref 10), .inr (.inl 84)]) (rest := []) jm_ok73 rfl rfl (by decide) (by decide +kernel) (j1ft_V F2 X1 X2 (xC_q (by decide) hC q2 (by decide)) hR2 hW2 hn _ (by omega)) (fun F3 F' x hR p1 p2 p3 => ?_)
      obtain ⟨r1, r2⟩ := hR
      have q3 : qC [] F F3 := qq_trans q2 (qC_dst r1 p1)
      have x84 : (sy_i F2 84).toInt.toNat = i := by omega
      rw [x84] at r2
      have a82 : (sy_i F3 82).toInt = k := by rw [eI (p2 82 (by decide) (by decide))]; omega
      have a83 : (sy_i F3 83).toInt = wdN (mtA T W) i := by rw [eI (p2 83 (by decide) (by decide))]; omega
      have a84 : (sy_i F3 84).toInt = i := by rw [eI (p2 84 (by decide) (by decide))]; omega
      have a85 : (sy_i F3 85).toInt = mtA T W i := by rw [zz_i p3]; exact r2
      refine j1wd_25 (by decide) F3 X1 X2 q3.1 ?_
      intro F4 hb4 g4 b2 l2 b3 l3 b4 l4 b5 l5
      have q4 : qC [] F F4 := qq_on q3 hb4 g4 (by decide)
      obtain ⟨hR4, hW4⟩ := j1td_q F hR hW q4
      refine hd_calI (R := fun x F' => qC [] F4 F' ∧ x.toInt = mtA T W (sy_i F4 83).toInt.toNat) (nh := 82) (nv := 86) (s := 1) (s1 := 1) (d1 := 2) (M1 := jm_M71) (As := [.inl (.ref 70), .inl (.ref 10), .inr (.inl 83)]) (rest := [.inr (.inl 85)]) jm_ok73 rfl rfl (by decide) (by decide +kernel) (j1ft_V F4 X1 X2 (xC_q (by decide) hC q4 (by decide)) hR4 hW4 hn _ (by omega)) (fun F5 F6 y hR5 u1 u2 u3 => ?_)
      obtain ⟨s1, s2⟩ := hR5
      have q5 : qC [] F F5 := qq_trans q4 (qC_dst s1 u1)
      have y83 : (sy_i F4 83).toInt.toNat = wdN (mtA T W) i := by omega
      rw [y83] at s2
      have d82 : (sy_i F5 82).toInt = k := by rw [eI (u2 82 (by decide) (by decide))]; omega
      have d83 : (sy_i F5 83).toInt = wdN (mtA T W) i := by rw [eI (u2 83 (by decide) (by decide))]; omega
      have d84 : (sy_i F5 84).toInt = i := by rw [eI (u2 84 (by decide) (by decide))]; omega
      have d85 : (sy_i F5 85).toInt = mtA T W i := by rw [eI (u2 85 (by decide) (by decide))]; omega
      have d86 : (sy_i F5 86).toInt = mtA T W (wdN (mtA T W) i) := by rw [zz_i u3]; exact s2
      refine j1wd_31 (by decide) F5 X1 X2 q5.1 (by omega) ?_ ?_
      · intro c2 F7 hb7 g7 w2 v2 w3 v3 w4 v4
        have z := wd_n (m := mtA T W) (n := i) (by omega)
        exact ih F7 (i + 1) (by omega) (by omega) (qq_on q5 hb7 g7 (by decide)) (by omega) (by omega) (by omega)
      · intro c2 F7 hb7 g7 w2 v2 w3 v3 w4 v4
        have z := wd_y (m := mtA T W) (n := i) (by omega)
        exact ih F7 (i + 1) (by omega) (by omega) (qq_on q5 hb7 g7 (by decide)) (by omega) (by omega) (by omega)
theorem j1wd_V (hC : xC 3 T F) (hR : rstC 3 T F) (hW : tdC n W (sy_ai F 80) (sy_ai F 81)) (hn : n ≤ 7) (k : Int32) (hk : 1 ≤ k.toInt ∧ k.toInt ≤ n) : jm_T Ls xs 3 jm_M73 [.ref 70, .ref 10, .int k] (sy_dh F X1 X2 (iv_H 1)) 0 0 (pI 1 X1 X2 (fun x F' => qC [] F F' ∧ x.toInt = wdN (mtA T W) k.toInt.toNat)) := by
  refine C_T (by decide) [k] [.inl (.ref 70), .inl (.ref 10), .inr (.inl 82)] jm_ok73 (by decide) rfl (fun F0 k0 ki => ?_)
  have i82 : sy_i F0 82 = k := ki 0
  have z82 : (sy_i F0 82).toInt = k.toInt := congrArg Int32.toInt i82
  have w1 : wdN (mtA T W) 1 = 0 := by
    have : wdN (mtA T W) 1 ≤ 0 := wd_lt (mtA T W) 0
    omega
  refine j1wd_0 (by decide) F0 X1 X2 (hd_iveq0 hC.1 k0) ?_
  intro F1 hb gg e82 j82 e83 j83 e84 j84
  exact j1wd_L F X1 X2 hC hR hW hn (k := k.toInt.toNat) (by omega) (k.toInt.toNat - 1) F1 1 (by omega) (by omega) (qq_src (qq_mk hb gg (by decide)) k0) (by omega) (e83.trans (congrArg (fun z : Nat => (z : Int)) w1.symm)) e84
theorem j1rw_V (hC : xC 3 T F) (hR : rstC 3 T F) (hW : tdC n W (sy_ai F 80) (sy_ai F 81)) (h79 : (sy_i F 79).toInt = n) (k : Int32) : jm_T Ls xs 4 jm_M110 [.ref 8, .int k] (sy_dh F X1 X2 (iv_H 1)) 0 0 (pI 1 X1 X2 (fun x F' => qC [] F F' ∧ x = ifP (0 ≤ k.toInt ∧ k.toInt ≤ n) (Int32.ofInt (rwA T W k.toInt.toNat : Int)) (-1))) := by
  have x79 := nz_bx hC.1 (k := 79) (lo := 0) (hi := 7) rfl
  refine C_T (by decide) [k] [.inl (.ref 8), .inr (.inl 82)] jm_ok110 (by decide) rfl (fun F0 k0 ki => ?_)
  have i82 : sy_i F0 82 = k := ki 0
  have z82 : (sy_i F0 82).toInt = k.toInt := congrArg Int32.toInt i82
  have e79 : (sy_i F0 79).toInt = n := by rw [nz_fi (k0 79 (by decide))]; exact h79
  refine j1rw_0 (by decide) F0 X1 X2 (hd_iveq0 hC.1 k0) ?_ ?_ ?_
  · intro c0 F1 hb gg
    exact ⟨_, F1, rfl, rfl, qq_src (qq_mk hb gg (by decide)) k0, by rw [ifP_n (fun z => by omega)]⟩
  · intro c0 c1 F1 hb gg
    exact ⟨_, F1, rfl, rfl, qq_src (qq_mk hb gg (by decide)) k0, by rw [ifP_n (fun z => by omega)]⟩
  · intro c0 c1 F1 hb gg e82 j82
    rw [ifP_y ⟨by omega, by omega⟩]
    have q1 : qC [] F F1 := qq_src (qq_mk hb gg (by decide)) k0
    obtain ⟨hR1, hW1⟩ := j1td_q F hR hW q1
    refine hd_calI (R := fun x F' => qC [] F1 F' ∧ x.toInt = rwA T W (sy_i F1 82).toInt.toNat) (nh := 82) (nv := 82) (s := 1) (s1 := 1) (d1 := 3) (M1 := jm_M70) (As := [.inl (.ref 70), .inl (.ref 10), .inr (.inl 82)]) (rest := []) jm_ok110 rfl rfl (by decide) (by decide +kernel) (j1rc_V F1 X1 X2 (xC_q (by decide) hC q1 (by decide)) hR1 hW1 (by omega) _ (by omega)) (fun F3 F' x hR p1 p2 p3 => ?_)
    obtain ⟨r1, r2⟩ := hR
    have q3 : qC [] F F3 := qq_trans q1 (qC_dst r1 p1)
    rw [show (sy_i F1 82).toInt.toNat = k.toInt.toNat by omega] at r2
    refine j1rw_27 (by decide) F3 X1 X2 q3.1 ?_
    intro F4 hb4 g4
    refine ⟨_, F4, rfl, rfl, qq_on q3 hb4 g4 (by decide), ?_⟩
    rw [zz_i p3]
    exact (ofi r2).symm
theorem j1su_V (hC : xC 3 T F) (hR : rstC 3 T F) (hW : tdC n W (sy_ai F 80) (sy_ai F 81)) (h79 : (sy_i F 79).toInt = n) (k i : Int32) : jm_T Ls xs 4 jm_M111 [.ref 8, .int k, .int i] (sy_dh F X1 X2 (iv_H 1)) 0 0 (pI 1 X1 X2 (fun x F' => qC [] F F' ∧ x = ifP ((0 ≤ k.toInt ∧ k.toInt ≤ n) ∧ 0 ≤ i.toInt ∧ i.toInt < k.toInt) (Int32.ofInt (suA T W k.toInt.toNat i.toInt.toNat)) (-1))) := by
  have x79 := nz_bx hC.1 (k := 79) (lo := 0) (hi := 7) rfl
  refine C_T (by decide) [k, i] [.inl (.ref 8), .inr (.inl 82), .inr (.inl 83)] jm_ok111 (by decide) rfl (fun F0 k0 ki => ?_)
  have i82 : sy_i F0 82 = k := ki 0
  have i83 : sy_i F0 83 = i := ki 1
  have z82 : (sy_i F0 82).toInt = k.toInt := congrArg Int32.toInt i82
  have z83 : (sy_i F0 83).toInt = i.toInt := congrArg Int32.toInt i83
  have e79 : (sy_i F0 79).toInt = n := by rw [nz_fi (k0 79 (by decide))]; exact h79
  have bad : ∀ F1 : Nat → sy_d, iv_in F1 iv_B0 → (∀ j, j < 82 → j ∉ ([] : List Nat) → F1 j = F0 j) → ¬ ((0 ≤ k.toInt ∧ k.toInt ≤ n) ∧ 0 ≤ i.toInt ∧ i.toInt < k.toInt) → (pI 1 X1 X2 (fun x F' => qC [] F F' ∧ x = ifP ((0 ≤ k.toInt ∧ k.toInt ≤ n) ∧ 0 ≤ i.toInt ∧ i.toInt < k.toInt) (Int32.ofInt (suA T W k.toInt.toNat i.toInt.toNat)) (-1))) (some (.int (-1 : Int32))) (sy_dh F1 X1 X2 (iv_H 1)) := fun F1 hb gg h => ⟨_, F1, rfl, rfl, qq_src (qq_mk hb gg (by decide)) k0, by rw [ifP_n h]⟩
  refine j1su_0 (by decide) F0 X1 X2 (hd_iveq0 hC.1 k0) ?_ ?_ ?_ ?_ ?_
  · intro c0 F1 hb gg
    exact bad F1 hb gg (fun z => by omega)
  · intro c0 c1 F1 hb gg
    exact bad F1 hb gg (fun z => by omega)
  · intro c0 c1 c2 F1 hb gg
    exact bad F1 hb gg (fun z => by omega)
  · intro c0 c1 c2 c3 F1 hb gg
    exact bad F1 hb gg (fun z => by omega)
  · intro c0 c1 c2 c3 F1 hb gg e82 j82 e83 j83
    rw [ifP_y ⟨⟨by omega, by omega⟩, by omega, by omega⟩]
    have q1 : qC [] F F1 := qq_src (qq_mk hb gg (by decide)) k0
    obtain ⟨hR1, hW1⟩ := j1td_q F hR hW q1
    refine hd_calI (R := fun x F' => qC [] F1 F' ∧ x.toInt = rwA T W (sy_i F1 82).toInt.toNat) (nh := 82) (nv := 84) (s := 1) (s1 := 1) (d1 := 3) (M1 := jm_M70) (As := [.inl (.ref 70), .inl (.ref 10), .inr (.inl 82)]) (rest := []) jm_ok111 rfl rfl (by decide) (by decide +kernel) (j1rc_V F1 X1 X2 (xC_q (by decide) hC q1 (by decide)) hR1 hW1 (by omega) _ (by omega)) (fun F3 F' x hR p1 p2 p3 => ?_)
    obtain ⟨r1, r2⟩ := hR
    have q3 : qC [] F F3 := qq_trans q1 (qC_dst r1 p1)
    rw [show (sy_i F1 82).toInt.toNat = k.toInt.toNat by omega] at r2
    have a83 : (sy_i F3 83).toInt = i.toInt := by rw [eI (p2 83 (by decide) (by decide))]; omega
    have a84 : (sy_i F3 84).toInt = rwA T W k.toInt.toNat := by rw [zz_i p3]; exact r2
    refine j1su_40 (by decide) F3 X1 X2 q3.1 ?_ ?_
    · intro c4 F4 hb4 g4
      refine ⟨_, F4, rfl, rfl, qq_on q3 hb4 g4 (by decide), ?_⟩
      unfold suA
      rw [if_neg (fun z => by omega)]
      rfl
    · intro c4 F4 hb4 g4 b82 l82
      have q4 : qC [] F F4 := qq_on q3 hb4 g4 (by decide)
      obtain ⟨hR4, hW4⟩ := j1td_q F hR hW q4
      refine hd_calI (R := fun x F' => qC [] F4 F' ∧ x.toInt = mtA T W (sy_i F4 82).toInt.toNat) (nh := 82) (nv := 83) (s := 1) (s1 := 1) (d1 := 2) (M1 := jm_M71) (As := [.inl (.ref 70), .inl (.ref 10), .inr (.inl 82)]) (rest := []) jm_ok111 rfl rfl (by decide) (by decide +kernel) (j1ft_V F4 X1 X2 (xC_q (by decide) hC q4 (by decide)) hR4 hW4 (by omega) _ (by omega)) (fun F5 F6 y hR5 u1 u2 u3 => ?_)
      obtain ⟨s1, s2⟩ := hR5
      have q5 : qC [] F F5 := qq_trans q4 (qC_dst s1 u1)
      rw [show (sy_i F4 82).toInt.toNat = i.toInt.toNat by omega] at s2
      have d82 : (sy_i F5 82).toInt = i.toInt := by rw [eI (u2 82 (by decide) (by decide))]; omega
      have d83 : (sy_i F5 83).toInt = mtA T W i.toInt.toNat := by rw [zz_i u3]; exact s2
      refine j1su_55 (by decide) F5 X1 X2 q5.1 ?_ ?_
      · intro c5 F7 hb7 g7
        refine ⟨_, F7, rfl, rfl, qq_on q5 hb7 g7 (by decide), ?_⟩
        unfold suA
        rw [if_neg (fun z => by omega)]
        rfl
      · intro c5 F7 hb7 g7 w82 v82
        have q7 : qC [] F F7 := qq_on q5 hb7 g7 (by decide)
        obtain ⟨hR7, hW7⟩ := j1td_q F hR hW q7
        refine hd_calI (R := fun x F' => qC [] F7 F' ∧ x.toInt = ffA T (W (sy_i F7 82).toInt.toNat)) (nh := 82) (nv := 82) (s := 1) (s1 := 1) (d1 := 2) (M1 := jm_M72) (As := [.inl (.ref 70), .inl (.ref 10), .inr (.inl 82)]) (rest := []) jm_ok111 rfl rfl (by decide) (by decide +kernel) (j1ff_V F7 X1 X2 (xC_q (by decide) hC q7 (by decide)) hR7 hW7 (by omega) _ (by omega)) (fun F8 F9 y2 hR8 t1 t2 t3 => ?_)
        obtain ⟨m1, m2⟩ := hR8
        have q8 : qC [] F F8 := qq_trans q7 (qC_dst m1 t1)
        rw [show (sy_i F7 82).toInt.toNat = i.toInt.toNat by omega] at m2
        refine j1su_81 (by decide) F8 X1 X2 q8.1 ?_
        intro FA hbA gA
        refine ⟨_, FA, rfl, rfl, qq_on q8 hbA gA (by decide), ?_⟩
        unfold suA
        rw [if_pos ⟨by omega, by omega⟩, zz_i t3]
        exact (ofi m2).symm
theorem j1as_V (hC : xC 3 T F) (hR : rstC 3 T F) (hW : tdC n W (sy_ai F 80) (sy_ai F 81)) (h79 : (sy_i F 79).toInt = n) (k : Int32) : jm_T Ls xs 4 jm_M112 [.ref 8, .int k] (sy_dh F X1 X2 (iv_H 1)) 0 0 (pI 1 X1 X2 (fun x F' => qC [] F F' ∧ x = ifP (0 ≤ k.toInt ∧ k.toInt ≤ n) (Int32.ofInt (akA T W k.toInt.toNat)) (-1))) := by
  have x79 := nz_bx hC.1 (k := 79) (lo := 0) (hi := 7) rfl
  refine C_T (by decide) [k] [.inl (.ref 8), .inr (.inl 82)] jm_ok112 (by decide) rfl (fun F0 k0 ki => ?_)
  have i82 : sy_i F0 82 = k := ki 0
  have z82 : (sy_i F0 82).toInt = k.toInt := congrArg Int32.toInt i82
  have e79 : (sy_i F0 79).toInt = n := by rw [nz_fi (k0 79 (by decide))]; exact h79
  refine j1as_0 (by decide) F0 X1 X2 (hd_iveq0 hC.1 k0) ?_ ?_ ?_ ?_
  · intro c0 F1 hb gg
    exact ⟨_, F1, rfl, rfl, qq_src (qq_mk hb gg (by decide)) k0, by rw [ifP_n (fun z => by omega)]⟩
  · intro c0 c1 F1 hb gg
    exact ⟨_, F1, rfl, rfl, qq_src (qq_mk hb gg (by decide)) k0, by rw [ifP_n (fun z => by omega)]⟩
  · intro c0 c1 c2 F1 hb gg
    refine ⟨_, F1, rfl, rfl, qq_src (qq_mk hb gg (by decide)) k0, ?_⟩
    unfold akA
    rw [ifP_y ⟨by omega, by omega⟩, if_pos (Or.inl (by omega))]
    rfl
  · intro c0 c1 c2 F1 hb gg e82 j82
    rw [ifP_y ⟨by omega, by omega⟩]
    have q1 : qC [] F F1 := qq_src (qq_mk hb gg (by decide)) k0
    obtain ⟨hR1, hW1⟩ := j1td_q F hR hW q1
    refine hd_calI (R := fun x F' => qC [] F1 F' ∧ x.toInt = rwA T W (sy_i F1 82).toInt.toNat) (nh := 82) (nv := 83) (s := 1) (s1 := 1) (d1 := 3) (M1 := jm_M70) (As := [.inl (.ref 70), .inl (.ref 10), .inr (.inl 82)]) (rest := []) jm_ok112 rfl rfl (by decide) (by decide +kernel) (j1rc_V F1 X1 X2 (xC_q (by decide) hC q1 (by decide)) hR1 hW1 (by omega) _ (by omega)) (fun F3 F' x hR p1 p2 p3 => ?_)
    obtain ⟨r1, r2⟩ := hR
    have q3 : qC [] F F3 := qq_trans q1 (qC_dst r1 p1)
    rw [show (sy_i F1 82).toInt.toNat = k.toInt.toNat by omega] at r2
    have a82 : (sy_i F3 82).toInt = k.toInt := by rw [eI (p2 82 (by decide) (by decide))]; omega
    have a83 : (sy_i F3 83).toInt = rwA T W k.toInt.toNat := by rw [zz_i p3]; exact r2
    refine j1as_33 (by decide) F3 X1 X2 q3.1 ?_ ?_
    · intro c4 F4 hb4 g4 b82 l82
      have q4 : qC [] F F4 := qq_on q3 hb4 g4 (by decide)
      obtain ⟨hR4, hW4⟩ := j1td_q F hR hW q4
      refine hd_calI (R := fun x F' => qC [] F4 F' ∧ x.toInt = wdN (mtA T W) (sy_i F4 82).toInt.toNat) (nh := 82) (nv := 82) (s := 1) (s1 := 1) (d1 := 3) (M1 := jm_M73) (As := [.inl (.ref 70), .inl (.ref 10), .inr (.inl 82)]) (rest := []) jm_ok112 rfl rfl (by decide) (by decide +kernel) (j1wd_V F4 X1 X2 (xC_q (by decide) hC q4 (by decide)) hR4 hW4 (by omega) _ (by omega)) (fun F5 F6 y hR5 u1 u2 u3 => ?_)
      obtain ⟨s1, s2⟩ := hR5
      have q5 : qC [] F F5 := qq_trans q4 (qC_dst s1 u1)
      rw [show (sy_i F4 82).toInt.toNat = k.toInt.toNat by omega] at s2
      refine j1as_51 (by decide) F5 X1 X2 q5.1 ?_
      intro F7 hb7 g7
      refine ⟨_, F7, rfl, rfl, qq_on q5 hb7 g7 (by decide), ?_⟩
      unfold akA
      rw [if_neg (fun z => by omega), zz_i u3]
      exact (ofi s2).symm
    · intro c4 F4 hb4 g4
      refine ⟨_, F4, rfl, rfl, qq_on q3 hb4 g4 (by decide), ?_⟩
      unfold akA
      rw [if_pos (Or.inr (by omega))]
      rfl
end TO1
section TO2
variable {Ls : Nat} {xs : Nat → Int32} {T : tX} {W : Nat → Int32 × Int32} {n : Int} (F : Nat → sy_d) (X1 X2 : List jm_c)
theorem j2ft_L (hC : xC 18 T F) (hR : rstC 18 T F) (hW : tdC n W (sy_ai F 80) (sy_ai F 81)) (hn : n ≤ 7) {i : Nat} (hi : (i : Int) < n) : ∀ (m : Nat) (F1 : Nat → sy_d) (f : Nat), f + m = nfS T → qC [] F F1 → (sy_i F1 82).toInt = i → (sy_i F1 83).toInt = cfN T (W i) f → (sy_i F1 84).toInt = f →
    hd_W Ls xs 2 jm_M71 (pI 2 X1 X2 (fun x F' => qC [] F F' ∧ x.toInt = mtA T W i)) (5, sy_dL F1 [some (.inl (.ref 70)), some (.inl (.ref 20)), some (.inr (.inl 82)), some (.inr (.inl 83)), some (.inr (.inl 84))], sy_dS F1 [], sy_dh F1 X1 X2 (iv_H 2), 0, 0) := by
  have l7 : nfS T ≤ 7 := hC.2.2.1.1.1
  have enf : (sy_i F 18).toInt = (nfS T : Int) := hC.2.1.1.1
  intro m
  induction m with
  | zero =>
    intro F1 f hm hq e82 e83 e84
    have en1 : (sy_i F1 18).toInt = (nfS T : Int) := by rw [qq_i hq (by decide) (by decide)]; exact enf
    have cb := cf_le T (W i) f
    refine j2ft_5 (by decide) F1 X1 X2 hq.1 (by omega) (by omega) (by omega) ?_ ?_ ?_ ?_
    · intro c0 F2 hb gg
      refine ⟨_, F2, rfl, rfl, qq_on hq hb gg (by decide), ?_⟩
      rw [e83, show f = nfS T by omega]
      rfl
    · intro c0
      exact absurd c0 (by omega)
    · intro c0
      exact absurd c0 (by omega)
    · intro c0
      exact absurd c0 (by omega)
  | succ m ih =>
    intro F1 f hm hq e82 e83 e84
    have en1 : (sy_i F1 18).toInt = (nfS T : Int) := by rw [qq_i hq (by decide) (by decide)]; exact enf
    have cb := cf_le T (W i) f
    have hf : f < nfS T := by omega
    have x84 : (sy_i F1 84).toInt.toNat = f := by omega
    have x82 : (sy_i F1 82).toInt.toNat = i := by omega
    have r10 : (sy_ai F1 25).getD (sy_i F1 84).toInt.toNat 0 = Int32.ofInt (tF T f).2.1 := by
      rw [x84, qq_a hq (by decide) (by decide)]
      exact (xX_f hC hf).2.1
    have r12 : (sy_ai F1 27).getD (sy_i F1 84).toInt.toNat 0 = rsS T f := by
      rw [x84, qq_a hq (by decide) (by decide)]
      exact hR f hf
    have r80 : (sy_ai F1 80).getD (sy_i F1 82).toInt.toNat 0 = (W i).1 := by
      rw [x82, qq_a hq (by decide) (by decide)]
      exact (hW i hi).1
    have r81 : (sy_ai F1 81).getD (sy_i F1 82).toInt.toNat 0 = (W i).2 := by
      rw [x82, qq_a hq (by decide) (by decide)]
      exact (hW i hi).2
    have go0 : kfT T f ≠ W i → ∀ F2 : Nat → sy_d, iv_in F2 iv_B0 → (∀ j, j < 82 → j ∉ ([] : List Nat) → F2 j = F1 j) → (sy_i F2 82).toInt = (sy_i F1 82).toInt → (sy_i F2 83).toInt = (sy_i F1 83).toInt → (sy_i F2 84).toInt = (sy_i F1 84).toInt + 1 → hd_W Ls xs 2 jm_M71 (pI 2 X1 X2 (fun x F' => qC [] F F' ∧ x.toInt = mtA T W i)) (5, sy_dL F2 [some (.inl (.ref 70)), some (.inl (.ref 20)), some (.inr (.inl 82)), some (.inr (.inl 83)), some (.inr (.inl 84))], sy_dS F2 [], sy_dh F2 X1 X2 (iv_H 2), 0, 0) := by
      intro q F2 hb gg e2 e3 e4
      have k := cf_n q
      exact ih F2 (f + 1) (by omega) (qq_on hq hb gg (by decide)) (by omega) (by omega) (by omega)
    refine j2ft_5 (by decide) F1 X1 X2 hq.1 (by omega) (by omega) (by omega) ?_ ?_ ?_ ?_
    · intro c0
      exact absurd c0 (by omega)
    · intro c0 c1 F2 hb gg e2 j2 e3 j3 e4 j4
      rw [r10, r80] at c1
      exact go0 (kf_1 c1) F2 hb gg e2 e3 e4
    · intro c0 c1 c2 F2 hb gg e2 j2 e3 j3 e4 j4
      rw [r12, r81] at c2
      exact go0 (kf_2 c2) F2 hb gg e2 e3 e4
    · intro c0 c1 c2 F2 hb gg e2 j2 e3 j3 e4 j4
      rw [r10, r80] at c1
      rw [r12, r81] at c2
      have k := cf_y (kf_y c1 c2)
      clear c1 c2 go0
      exact ih F2 (f + 1) (by omega) (qq_on hq hb gg (by decide)) (by omega) (by omega) (by omega)
theorem j2ft_V (hC : xC 18 T F) (hR : rstC 18 T F) (hW : tdC n W (sy_ai F 80) (sy_ai F 81)) (hn : n ≤ 7) (i : Int32) (hi : 0 ≤ i.toInt ∧ i.toInt < n) : jm_T Ls xs 2 jm_M71 [.ref 70, .ref 20, .int i] (sy_dh F X1 X2 (iv_H 2)) 0 0 (pI 2 X1 X2 (fun x F' => qC [] F F' ∧ x.toInt = mtA T W i.toInt.toNat)) := by
  refine C_T (by decide) [i] [.inl (.ref 70), .inl (.ref 20), .inr (.inl 82)] jm_ok71 (by decide) rfl (fun F0 k0 ki => ?_)
  have i82 : sy_i F0 82 = i := ki 0
  have z82 : (sy_i F0 82).toInt = i.toInt := congrArg Int32.toInt i82
  refine j2ft_0 (by decide) F0 X1 X2 (hd_iveq0 hC.1 k0) ?_
  intro F1 hb gg e82 j82 e83 j83 e84 j84
  exact j2ft_L F X1 X2 hC hR hW hn (i := i.toInt.toNat) (by omega) (nfS T) F1 0 (by omega) (qq_src (qq_mk hb gg (by decide)) k0) (by omega) e83 e84
theorem j2ff_L (hC : xC 18 T F) (hR : rstC 18 T F) (hW : tdC n W (sy_ai F 80) (sy_ai F 81)) (hn : n ≤ 7) {i : Nat} (hi : (i : Int) < n) : ∀ (m : Nat) (F1 : Nat → sy_d) (f : Nat), f + m = nfS T → qC [] F F1 → (sy_i F1 82).toInt = i → (sy_i F1 83).toInt = f → (∀ j, j < f → decide (kfT T j = W i) = false) →
    hd_W Ls xs 2 jm_M72 (pI 2 X1 X2 (fun x F' => qC [] F F' ∧ x.toInt = ffA T (W i))) (2, sy_dL F1 [some (.inl (.ref 70)), some (.inl (.ref 20)), some (.inr (.inl 82)), some (.inr (.inl 83))], sy_dS F1 [], sy_dh F1 X1 X2 (iv_H 2), 0, 0) := by
  have l7 : nfS T ≤ 7 := hC.2.2.1.1.1
  have enf : (sy_i F 18).toInt = (nfS T : Int) := hC.2.1.1.1
  intro m
  induction m with
  | zero =>
    intro F1 f hm hq e82 e83 hj
    have en1 : (sy_i F1 18).toInt = (nfS T : Int) := by rw [qq_i hq (by decide) (by decide)]; exact enf
    refine j2ff_2 (by decide) F1 X1 X2 hq.1 (by omega) (by omega) ?_ ?_ ?_ ?_
    · intro c0 F2 hb gg
      refine ⟨_, F2, rfl, rfl, qq_on hq hb gg (by decide), ?_⟩
      unfold ffA
      rw [fs_no _ (fun j h => hj j (by omega))]
      decide
    · intro c0
      exact absurd c0 (by omega)
    · intro c0
      exact absurd c0 (by omega)
    · intro c0
      exact absurd c0 (by omega)
  | succ m ih =>
    intro F1 f hm hq e82 e83 hj
    have en1 : (sy_i F1 18).toInt = (nfS T : Int) := by rw [qq_i hq (by decide) (by decide)]; exact enf
    have hf : f < nfS T := by omega
    have x83 : (sy_i F1 83).toInt.toNat = f := by omega
    have x82 : (sy_i F1 82).toInt.toNat = i := by omega
    have r10 : (sy_ai F1 25).getD (sy_i F1 83).toInt.toNat 0 = Int32.ofInt (tF T f).2.1 := by
      rw [x83, qq_a hq (by decide) (by decide)]
      exact (xX_f hC hf).2.1
    have r12 : (sy_ai F1 27).getD (sy_i F1 83).toInt.toNat 0 = rsS T f := by
      rw [x83, qq_a hq (by decide) (by decide)]
      exact hR f hf
    have r80 : (sy_ai F1 80).getD (sy_i F1 82).toInt.toNat 0 = (W i).1 := by
      rw [x82, qq_a hq (by decide) (by decide)]
      exact (hW i hi).1
    have r81 : (sy_ai F1 81).getD (sy_i F1 82).toInt.toNat 0 = (W i).2 := by
      rw [x82, qq_a hq (by decide) (by decide)]
      exact (hW i hi).2
    have go0 : kfT T f ≠ W i → ∀ F2 : Nat → sy_d, iv_in F2 iv_B0 → (∀ j, j < 82 → j ∉ ([] : List Nat) → F2 j = F1 j) → (sy_i F2 82).toInt = (sy_i F1 82).toInt → (sy_i F2 83).toInt = (sy_i F1 83).toInt + 1 → hd_W Ls xs 2 jm_M72 (pI 2 X1 X2 (fun x F' => qC [] F F' ∧ x.toInt = ffA T (W i))) (2, sy_dL F2 [some (.inl (.ref 70)), some (.inl (.ref 20)), some (.inr (.inl 82)), some (.inr (.inl 83))], sy_dS F2 [], sy_dh F2 X1 X2 (iv_H 2), 0, 0) := by
      intro q F2 hb gg e2 e3
      refine ih F2 (f + 1) (by omega) (qq_on hq hb gg (by decide)) (by omega) (by omega) (fun j h => ?_)
      by_cases z : j = f
      · rw [z]
        exact decide_eq_false q
      · exact hj j (by omega)
    refine j2ff_2 (by decide) F1 X1 X2 hq.1 (by omega) (by omega) ?_ ?_ ?_ ?_
    · intro c0
      exact absurd c0 (by omega)
    · intro c0 c1 F2 hb gg e2 j2 e3 j3
      rw [r10, r80] at c1
      exact go0 (kf_1 c1) F2 hb gg e2 e3
    · intro c0 c1 c2 F2 hb gg e2 j2 e3 j3
      rw [r12, r81] at c2
      exact go0 (kf_2 c2) F2 hb gg e2 e3
    · intro c0 c1 c2 F2 hb gg
      rw [r10, r80] at c1
      rw [r12, r81] at c2
      refine ⟨_, F2, rfl, rfl, qq_on hq hb gg (by decide), ?_⟩
      unfold ffA
      rw [fs_lt (P := fun f => decide (kfT T f = W i)) (decide_eq_true (kf_y c1 c2)) hj hf]
      exact e83
theorem j2ff_V (hC : xC 18 T F) (hR : rstC 18 T F) (hW : tdC n W (sy_ai F 80) (sy_ai F 81)) (hn : n ≤ 7) (i : Int32) (hi : 0 ≤ i.toInt ∧ i.toInt < n) : jm_T Ls xs 2 jm_M72 [.ref 70, .ref 20, .int i] (sy_dh F X1 X2 (iv_H 2)) 0 0 (pI 2 X1 X2 (fun x F' => qC [] F F' ∧ x.toInt = ffA T (W i.toInt.toNat))) := by
  refine C_T (by decide) [i] [.inl (.ref 70), .inl (.ref 20), .inr (.inl 82)] jm_ok72 (by decide) rfl (fun F0 k0 ki => ?_)
  have i82 : sy_i F0 82 = i := ki 0
  have z82 : (sy_i F0 82).toInt = i.toInt := congrArg Int32.toInt i82
  refine j2ff_0 (by decide) F0 X1 X2 (hd_iveq0 hC.1 k0) ?_
  intro F1 hb gg e82 j82 e83 j83
  exact j2ff_L F X1 X2 hC hR hW hn (i := i.toInt.toNat) (by omega) (nfS T) F1 0 (by omega) (qq_src (qq_mk hb gg (by decide)) k0) (by omega) e83 (fun j h => absurd h (Nat.not_lt_zero j))
theorem j2al_L (hB : iv_in F iv_B0) (hW : tdC n W (sy_ai F 80) (sy_ai F 81)) (hn : n ≤ 7) {i : Nat} (hi : (i : Int) < n) : ∀ (m : Nat) (F1 : Nat → sy_d) (f : Nat), f + m = i → qC [] F F1 → (sy_i F1 82).toInt = i → (sy_i F1 83).toInt = ejN W (W i) f → (sy_i F1 84).toInt = f →
    hd_W Ls xs 1 jm_M75 (pI 2 X1 X2 (fun x F' => qC [] F F' ∧ x.toInt = eqN W i)) (4, sy_dL F1 [some (.inl (.ref 70)), some (.inr (.inl 82)), some (.inr (.inl 83)), some (.inr (.inl 84))], sy_dS F1 [], sy_dh F1 X1 X2 (iv_H 2), 0, 0) := by
  intro m
  induction m with
  | zero =>
    intro F1 f hm hq e82 e83 e84
    have cb := ej_le W (W i) f
    refine j2al_4 (by decide) F1 X1 X2 hq.1 (by omega) (by omega) (by omega) ?_ ?_ ?_ ?_
    · intro c0 F2 hb gg
      refine ⟨_, F2, rfl, rfl, qq_on hq hb gg (by decide), ?_⟩
      rw [e83, show f = i by omega]
      rfl
    · intro c0
      exact absurd c0 (by omega)
    · intro c0
      exact absurd c0 (by omega)
    · intro c0
      exact absurd c0 (by omega)
  | succ m ih =>
    intro F1 f hm hq e82 e83 e84
    have cb := ej_le W (W i) f
    have x84 : (sy_i F1 84).toInt.toNat = f := by omega
    have x82 : (sy_i F1 82).toInt.toNat = i := by omega
    have r80 : (sy_ai F1 80).getD (sy_i F1 82).toInt.toNat 0 = (W i).1 := by
      rw [x82, qq_a hq (by decide) (by decide)]
      exact (hW i hi).1
    have r81 : (sy_ai F1 81).getD (sy_i F1 82).toInt.toNat 0 = (W i).2 := by
      rw [x82, qq_a hq (by decide) (by decide)]
      exact (hW i hi).2
    have s80 : (sy_ai F1 80).getD (sy_i F1 84).toInt.toNat 0 = (W f).1 := by
      rw [x84, qq_a hq (by decide) (by decide)]
      exact (hW f (by omega)).1
    have s81 : (sy_ai F1 81).getD (sy_i F1 84).toInt.toNat 0 = (W f).2 := by
      rw [x84, qq_a hq (by decide) (by decide)]
      exact (hW f (by omega)).2
    have go0 : W f ≠ W i → ∀ F2 : Nat → sy_d, iv_in F2 iv_B0 → (∀ j, j < 82 → j ∉ ([] : List Nat) → F2 j = F1 j) → (sy_i F2 82).toInt = (sy_i F1 82).toInt → (sy_i F2 83).toInt = (sy_i F1 83).toInt → (sy_i F2 84).toInt = (sy_i F1 84).toInt + 1 → hd_W Ls xs 1 jm_M75 (pI 2 X1 X2 (fun x F' => qC [] F F' ∧ x.toInt = eqN W i)) (4, sy_dL F2 [some (.inl (.ref 70)), some (.inr (.inl 82)), some (.inr (.inl 83)), some (.inr (.inl 84))], sy_dS F2 [], sy_dh F2 X1 X2 (iv_H 2), 0, 0) := by
      intro q F2 hb gg e2 e3 e4
      have k := ej_n q
      exact ih F2 (f + 1) (by omega) (qq_on hq hb gg (by decide)) (by omega) (by omega) (by omega)
    refine j2al_4 (by decide) F1 X1 X2 hq.1 (by omega) (by omega) (by omega) ?_ ?_ ?_ ?_
    · intro c0
      exact absurd c0 (by omega)
    · intro c0 c1 F2 hb gg e2 j2 e3 j3 e4 j4
      rw [s80, r80] at c1
      exact go0 (wp_1 c1) F2 hb gg e2 e3 e4
    · intro c0 c1 c2 F2 hb gg e2 j2 e3 j3 e4 j4
      rw [s81, r81] at c2
      exact go0 (wp_2 c2) F2 hb gg e2 e3 e4
    · intro c0 c1 c2 F2 hb gg e2 j2 e3 j3 e4 j4
      rw [s80, r80] at c1
      rw [s81, r81] at c2
      have k := ej_y (wp_y c1 c2)
      clear c1 c2 go0
      exact ih F2 (f + 1) (by omega) (qq_on hq hb gg (by decide)) (by omega) (by omega) (by omega)
theorem j2al_V (hB : iv_in F iv_B0) (hW : tdC n W (sy_ai F 80) (sy_ai F 81)) (hn : n ≤ 7) (i : Int32) (hi : 0 ≤ i.toInt ∧ i.toInt < n) : jm_T Ls xs 1 jm_M75 [.ref 70, .int i] (sy_dh F X1 X2 (iv_H 2)) 0 0 (pI 2 X1 X2 (fun x F' => qC [] F F' ∧ x.toInt = eqN W i.toInt.toNat)) := by
  refine C_T (by decide) [i] [.inl (.ref 70), .inr (.inl 82)] jm_ok75 (by decide) rfl (fun F0 k0 ki => ?_)
  have i82 : sy_i F0 82 = i := ki 0
  have z82 : (sy_i F0 82).toInt = i.toInt := congrArg Int32.toInt i82
  refine j2al_0 (by decide) F0 X1 X2 (hd_iveq0 hB k0) ?_
  intro F1 hb gg e82 j82 e83 j83 e84 j84
  exact j2al_L F X1 X2 hB hW hn (i := i.toInt.toNat) (by omega) i.toInt.toNat F1 0 (by omega) (qq_src (qq_mk hb gg (by decide)) k0) (by omega) e83 e84
theorem j2td_q (hR : rstC 18 T F) (hW : tdC n W (sy_ai F 80) (sy_ai F 81)) {F1 : Nat → sy_d} (q : qC [] F F1) : rstC 18 T F1 ∧ tdC n W (sy_ai F1 80) (sy_ai F1 81) := by
  refine ⟨fun f hf => ?_, ?_⟩
  · rw [qq_a q (by decide) (by decide)]
    exact hR f hf
  · rw [qq_a q (by decide) (by decide), qq_a q (by decide) (by decide)]
    exact hW
theorem j2rc_L (hC : xC 18 T F) (hR : rstC 18 T F) (hW : tdC n W (sy_ai F 80) (sy_ai F 81)) (hn : n ≤ 7) {k : Nat} (hk : (k : Int) ≤ n) : ∀ (m : Nat) (F1 : Nat → sy_d) (i : Nat), i + m = k → qC [] F F1 → (sy_i F1 82).toInt = k → (sy_i F1 83).toInt = rwA T W i → (sy_i F1 84).toInt = i →
    hd_W Ls xs 3 jm_M70 (pI 2 X1 X2 (fun x F' => qC [] F F' ∧ x.toInt = rwA T W k)) (5, sy_dL F1 [some (.inl (.ref 70)), some (.inl (.ref 20)), some (.inr (.inl 82)), some (.inr (.inl 83)), some (.inr (.inl 84)), none], sy_dS F1 [], sy_dh F1 X1 X2 (iv_H 2), 0, 0) := by
  have l7 : nfS T ≤ 7 := hC.2.2.1.1.1
  intro m
  induction m with
  | zero =>
    intro F1 i hm hq e82 e83 e84
    refine j2rc_5 (by decide) F1 X1 X2 hq.1 (by omega) ?_ ?_ ?_
    · intro c0 F2 hb gg
      refine ⟨_, F2, rfl, rfl, qq_on hq hb gg (by decide), ?_⟩
      rw [e83, show i = k by omega]
    · intro c0
      exact absurd c0 (by omega)
    · intro c0
      exact absurd c0 (by omega)
  | succ m ih =>
    intro F1 i hm hq e82 e83 e84
    refine j2rc_5 (by decide) F1 X1 X2 hq.1 (by omega) ?_ ?_ ?_
    · intro c0
      exact absurd c0 (by omega)
    · intro c0 c1
      exact absurd c1 (by omega)
    · intro c0 c1 F2 hb gg e2 j2 e3 j3 e4 j4
      have q2 : qC [] F F2 := qq_on hq hb gg (by decide)
      obtain ⟨hR2, hW2⟩ := j2td_q F hR hW q2
      refine hd_calI (R := fun x F' => qC [] F2 F' ∧ x.toInt = mtA T W (sy_i F2 84).toInt.toNat) (nh := 82) (nv := 85) (s := 2) (s1 := 2) (d1 := 2) (M1 := jm_M71) (As := [.inl (.ref 70), .inl (.ref 20), .inr (.inl 84)]) (rest := []) jm_ok70 rfl rfl (by decide) (by decide +kernel) (j2ft_V F2 X1 X2 (xC_q (by decide) hC q2 (by decide)) hR2 hW2 hn _ (by omega)) (fun F3 F' x hR p1 p2 p3 => ?_)
      obtain ⟨r1, r2⟩ := hR
      have q3 : qC [] F F3 := qq_trans q2 (qC_dst r1 p1)
      have x84 : (sy_i F2 84).toInt.toNat = i := by omega
      rw [x84] at r2
      have a82 : (sy_i F3 82).toInt = k := by rw [eI (p2 82 (by decide) (by decide))]; omega
      have a83 : (sy_i F3 83).toInt = rwA T W i := by rw [eI (p2 83 (by decide) (by decide))]; omega
      have a84 : (sy_i F3 84).toInt = i := by rw [eI (p2 84 (by decide) (by decide))]; omega
      have a85 : (sy_i F3 85).toInt = mtA T W i := by rw [zz_i p3]; exact r2
      refine j2rc_25 (by decide) F3 X1 X2 q3.1 ?_
      intro F4 hb4 g4 b2 l2 b3 l3 b4 l4 b5 l5
      have q4 : qC [] F F4 := qq_on q3 hb4 g4 (by decide)
      obtain ⟨hR4, hW4⟩ := j2td_q F hR hW q4
      refine hd_calI (R := fun x F' => qC [] F4 F' ∧ x.toInt = eqN W (sy_i F4 84).toInt.toNat) (nh := 82) (nv := 86) (s := 2) (s1 := 2) (d1 := 1) (M1 := jm_M75) (As := [.inl (.ref 70), .inr (.inl 84)]) (rest := [.inr (.inl 85)]) jm_ok70 rfl rfl (by decide) (by decide +kernel) (j2al_V F4 X1 X2 q4.1 hW4 hn _ (by omega)) (fun F5 F6 y hR5 u1 u2 u3 => ?_)
      obtain ⟨s1, s2⟩ := hR5
      have q5 : qC [] F F5 := qq_trans q4 (qC_dst s1 u1)
      have y84 : (sy_i F4 84).toInt.toNat = i := by omega
      rw [y84] at s2
      have d82 : (sy_i F5 82).toInt = k := by rw [eI (u2 82 (by decide) (by decide))]; omega
      have d83 : (sy_i F5 83).toInt = rwA T W i := by rw [eI (u2 83 (by decide) (by decide))]; omega
      have d84 : (sy_i F5 84).toInt = i := by rw [eI (u2 84 (by decide) (by decide))]; omega
      have d85 : (sy_i F5 85).toInt = mtA T W i := by rw [eI (u2 85 (by decide) (by decide))]; omega
      have d86 : (sy_i F5 86).toInt = eqN W i := by rw [zz_i u3]; exact s2
      have m7 : mtA T W i ≤ nfS T := mt_le i
      have e7 : eqN W i ≤ i := cnt_le _ i
      have rs : rwA T W (i + 1) = rwA T W i * (mtA T W i - eqN W i) := rfl
      refine j2rc_31 (by decide) F5 X1 X2 q5.1 (by omega) (by omega) (by omega) ?_ ?_
      · intro c2 F7 hb7 g7 w2 v2 w3 v3 w4 v4
        have r6 : rwA T W i ≤ 823543 := rwA_le l7 (by omega)
        have sm : mtA T W i - eqN W i ≤ 7 := by omega
        have ml : rwA T W i * (mtA T W i - eqN W i) ≤ 823543 * 7 := Nat.mul_le_mul r6 sm
        have dd : (sy_i F5 85 - sy_i F5 86).toInt = ((mtA T W i - eqN W i : Nat) : Int) := by
          rw [nz_sub d85 d86 (by omega) (by omega)]
          omega
        have pm : (sy_i F5 83 * (sy_i F5 85 - sy_i F5 86)).toInt = ((rwA T W (i + 1) : Nat) : Int) := by
          rw [rs, Int.natCast_mul]
          refine nz_mul d83 dd ?_ ?_
          · rw [← Int.natCast_mul]
            omega
          · rw [← Int.natCast_mul]
            omega
        exact ih F7 (i + 1) (by omega) (qq_on q5 hb7 g7 (by decide)) (by omega) (by rw [v3]; exact pm) (by omega)
      · intro c2 F7 hb7 g7
        refine ⟨_, F7, rfl, rfl, qq_on q5 hb7 g7 (by decide), ?_⟩
        have z : rwA T W (i + 1) = 0 := by
          rw [rs, show mtA T W i - eqN W i = 0 by omega, Nat.mul_zero]
        have z2 : rwA T W k = 0 := pr_z z (by omega)
        rw [z2]
        decide
theorem j2rc_V (hC : xC 18 T F) (hR : rstC 18 T F) (hW : tdC n W (sy_ai F 80) (sy_ai F 81)) (hn : n ≤ 7) (k : Int32) (hk : 0 ≤ k.toInt ∧ k.toInt ≤ n) : jm_T Ls xs 3 jm_M70 [.ref 70, .ref 20, .int k] (sy_dh F X1 X2 (iv_H 2)) 0 0 (pI 2 X1 X2 (fun x F' => qC [] F F' ∧ x.toInt = rwA T W k.toInt.toNat)) := by
  refine C_T (by decide) [k] [.inl (.ref 70), .inl (.ref 20), .inr (.inl 82)] jm_ok70 (by decide) rfl (fun F0 k0 ki => ?_)
  have i82 : sy_i F0 82 = k := ki 0
  have z82 : (sy_i F0 82).toInt = k.toInt := congrArg Int32.toInt i82
  refine j2rc_0 (by decide) F0 X1 X2 (hd_iveq0 hC.1 k0) ?_
  intro F1 hb gg e82 j82 e83 j83 e84 j84
  exact j2rc_L F X1 X2 hC hR hW hn (k := k.toInt.toNat) (by omega) k.toInt.toNat F1 0 (by omega) (qq_src (qq_mk hb gg (by decide)) k0) (by omega) e83 e84
theorem j2wd_L (hC : xC 18 T F) (hR : rstC 18 T F) (hW : tdC n W (sy_ai F 80) (sy_ai F 81)) (hn : n ≤ 7) {k : Nat} (hk : (k : Int) ≤ n) : ∀ (m : Nat) (F1 : Nat → sy_d) (i : Nat), 1 ≤ i → i + m = k → qC [] F F1 → (sy_i F1 82).toInt = k → (sy_i F1 83).toInt = wdN (mtA T W) i → (sy_i F1 84).toInt = i →
    hd_W Ls xs 3 jm_M73 (pI 2 X1 X2 (fun x F' => qC [] F F' ∧ x.toInt = wdN (mtA T W) k)) (5, sy_dL F1 [some (.inl (.ref 70)), some (.inl (.ref 20)), some (.inr (.inl 82)), some (.inr (.inl 83)), some (.inr (.inl 84))], sy_dS F1 [], sy_dh F1 X1 X2 (iv_H 2), 0, 0) := by
  have l7 : nfS T ≤ 7 := hC.2.2.1.1.1
  intro m
  induction m with
  | zero =>
    intro F1 i h1 hm hq e82 e83 e84
    refine j2wd_5 (by decide) F1 X1 X2 hq.1 (by omega) ?_ ?_ ?_
    · intro c0 F2 hb gg
      refine ⟨_, F2, rfl, rfl, qq_on hq hb gg (by decide), ?_⟩
      rw [e83, show i = k by omega]
    · intro c0
      exact absurd c0 (by omega)
    · intro c0
      exact absurd c0 (by omega)
  | succ m ih =>
    intro F1 i h1 hm hq e82 e83 e84
    have wl : wdN (mtA T W) i < i := by
      have := wd_lt (mtA T W) (i - 1)
      rw [show i - 1 + 1 = i by omega] at this
      omega
    refine j2wd_5 (by decide) F1 X1 X2 hq.1 (by omega) ?_ ?_ ?_
    · intro c0
      exact absurd c0 (by omega)
    · intro c0 c1
      exact absurd c1 (by omega)
    · intro c0 c1 F2 hb gg e2 j2 e3 j3 e4 j4
      have q2 : qC [] F F2 := qq_on hq hb gg (by decide)
      obtain ⟨hR2, hW2⟩ := j2td_q F hR hW q2
      refine hd_calI (R := fun x F' => qC [] F2 F' ∧ x.toInt = mtA T W (sy_i F2 84).toInt.toNat) (nh := 82) (nv := 85) (s := 2) (s1 := 2) (d1 := 2) (M1 := jm_M71) (As := [.inl (.ref 70), .inl (.ref 20), .inr (.inl 84)]) (rest := []) jm_ok73 rfl rfl (by decide) (by decide +kernel) (j2ft_V F2 X1 X2 (xC_q (by decide) hC q2 (by decide)) hR2 hW2 hn _ (by omega)) (fun F3 F' x hR p1 p2 p3 => ?_)
      obtain ⟨r1, r2⟩ := hR
      have q3 : qC [] F F3 := qq_trans q2 (qC_dst r1 p1)
      have x84 : (sy_i F2 84).toInt.toNat = i := by omega
      rw [x84] at r2
      have a82 : (sy_i F3 82).toInt = k := by rw [eI (p2 82 (by decide) (by decide))]; omega
      have a83 : (sy_i F3 83).toInt = wdN (mtA T W) i := by rw [eI (p2 83 (by decide) (by decide))]; omega
      have a84 : (sy_i F3 84).toInt = i := by rw [eI (p2 84 (by decide) (by decide))]; omega
      have a85 : (sy_i F3 85).toInt = mtA T W i := by rw [zz_i p3]; exact r2
      refine j2wd_25 (by decide) F3 X1 X2 q3.1 ?_
      intro F4 hb4 g4 b2 l2 b3 l3 b4 l4 b5 l5
      have q4 : qC [] F F4 := qq_on q3 hb4 g4 (by decide)
      obtain ⟨hR4, hW4⟩ := j2td_q F hR hW q4
      refine hd_calI (R := fun x F' => qC [] F4 F' ∧ x.toInt = mtA T W (sy_i F4 83).toInt.toNat) (nh := 82) (nv := 86) (s := 2) (s1 := 2) (d1 := 2) (M1 := jm_M71) (As := [.inl (.ref 70), .inl (.ref 20), .inr (.inl 83)]) (rest := [.inr (.inl 85)]) jm_ok73 rfl rfl (by decide) (by decide +kernel) (j2ft_V F4 X1 X2 (xC_q (by decide) hC q4 (by decide)) hR4 hW4 hn _ (by omega)) (fun F5 F6 y hR5 u1 u2 u3 => ?_)
      obtain ⟨s1, s2⟩ := hR5
      have q5 : qC [] F F5 := qq_trans q4 (qC_dst s1 u1)
      have y83 : (sy_i F4 83).toInt.toNat = wdN (mtA T W) i := by omega
      rw [y83] at s2
      have d82 : (sy_i F5 82).toInt = k := by rw [eI (u2 82 (by decide) (by decide))]; omega
      have d83 : (sy_i F5 83).toInt = wdN (mtA T W) i := by rw [eI (u2 83 (by decide) (by decide))]; omega
      have d84 : (sy_i F5 84).toInt = i := by rw [eI (u2 84 (by decide) (by decide))]; omega
      have d85 : (sy_i F5 85).toInt = mtA T W i := by rw [eI (u2 85 (by decide) (by decide))]; omega
      have d86 : (sy_i F5 86).toInt = mtA T W (wdN (mtA T W) i) := by rw [zz_i u3]; exact s2
      refine j2wd_31 (by decide) F5 X1 X2 q5.1 (by omega) ?_ ?_
      · intro c2 F7 hb7 g7 w2 v2 w3 v3 w4 v4
        have z := wd_n (m := mtA T W) (n := i) (by omega)
        exact ih F7 (i + 1) (by omega) (by omega) (qq_on q5 hb7 g7 (by decide)) (by omega) (by omega) (by omega)
      · intro c2 F7 hb7 g7 w2 v2 w3 v3 w4 v4
        have z := wd_y (m := mtA T W) (n := i) (by omega)
        exact ih F7 (i + 1) (by omega) (by omega) (qq_on q5 hb7 g7 (by decide)) (by omega) (by omega) (by omega)
theorem j2wd_V (hC : xC 18 T F) (hR : rstC 18 T F) (hW : tdC n W (sy_ai F 80) (sy_ai F 81)) (hn : n ≤ 7) (k : Int32) (hk : 1 ≤ k.toInt ∧ k.toInt ≤ n) : jm_T Ls xs 3 jm_M73 [.ref 70, .ref 20, .int k] (sy_dh F X1 X2 (iv_H 2)) 0 0 (pI 2 X1 X2 (fun x F' => qC [] F F' ∧ x.toInt = wdN (mtA T W) k.toInt.toNat)) := by
  refine C_T (by decide) [k] [.inl (.ref 70), .inl (.ref 20), .inr (.inl 82)] jm_ok73 (by decide) rfl (fun F0 k0 ki => ?_)
  have i82 : sy_i F0 82 = k := ki 0
  have z82 : (sy_i F0 82).toInt = k.toInt := congrArg Int32.toInt i82
  have w1 : wdN (mtA T W) 1 = 0 := by
    have : wdN (mtA T W) 1 ≤ 0 := wd_lt (mtA T W) 0
    omega
  refine j2wd_0 (by decide) F0 X1 X2 (hd_iveq0 hC.1 k0) ?_
  intro F1 hb gg e82 j82 e83 j83 e84 j84
  exact j2wd_L F X1 X2 hC hR hW hn (k := k.toInt.toNat) (by omega) (k.toInt.toNat - 1) F1 1 (by omega) (by omega) (qq_src (qq_mk hb gg (by decide)) k0) (by omega) (e83.trans (congrArg (fun z : Nat => (z : Int)) w1.symm)) e84
theorem j2rw_V (hC : xC 18 T F) (hR : rstC 18 T F) (hW : tdC n W (sy_ai F 80) (sy_ai F 81)) (h79 : (sy_i F 79).toInt = n) (k : Int32) : jm_T Ls xs 4 jm_M110 [.ref 8, .int k] (sy_dh F X1 X2 (iv_H 2)) 0 0 (pI 2 X1 X2 (fun x F' => qC [] F F' ∧ x = ifP (0 ≤ k.toInt ∧ k.toInt ≤ n) (Int32.ofInt (rwA T W k.toInt.toNat : Int)) (-1))) := by
  have x79 := nz_bx hC.1 (k := 79) (lo := 0) (hi := 7) rfl
  refine C_T (by decide) [k] [.inl (.ref 8), .inr (.inl 82)] jm_ok110 (by decide) rfl (fun F0 k0 ki => ?_)
  have i82 : sy_i F0 82 = k := ki 0
  have z82 : (sy_i F0 82).toInt = k.toInt := congrArg Int32.toInt i82
  have e79 : (sy_i F0 79).toInt = n := by rw [nz_fi (k0 79 (by decide))]; exact h79
  refine j2rw_0 (by decide) F0 X1 X2 (hd_iveq0 hC.1 k0) ?_ ?_ ?_
  · intro c0 F1 hb gg
    exact ⟨_, F1, rfl, rfl, qq_src (qq_mk hb gg (by decide)) k0, by rw [ifP_n (fun z => by omega)]⟩
  · intro c0 c1 F1 hb gg
    exact ⟨_, F1, rfl, rfl, qq_src (qq_mk hb gg (by decide)) k0, by rw [ifP_n (fun z => by omega)]⟩
  · intro c0 c1 F1 hb gg e82 j82
    rw [ifP_y ⟨by omega, by omega⟩]
    have q1 : qC [] F F1 := qq_src (qq_mk hb gg (by decide)) k0
    obtain ⟨hR1, hW1⟩ := j2td_q F hR hW q1
    refine hd_calI (R := fun x F' => qC [] F1 F' ∧ x.toInt = rwA T W (sy_i F1 82).toInt.toNat) (nh := 82) (nv := 82) (s := 2) (s1 := 2) (d1 := 3) (M1 := jm_M70) (As := [.inl (.ref 70), .inl (.ref 20), .inr (.inl 82)]) (rest := []) jm_ok110 rfl rfl (by decide) (by decide +kernel) (j2rc_V F1 X1 X2 (xC_q (by decide) hC q1 (by decide)) hR1 hW1 (by omega) _ (by omega)) (fun F3 F' x hR p1 p2 p3 => ?_)
    obtain ⟨r1, r2⟩ := hR
    have q3 : qC [] F F3 := qq_trans q1 (qC_dst r1 p1)
    rw [show (sy_i F1 82).toInt.toNat = k.toInt.toNat by omega] at r2
    refine j2rw_27 (by decide) F3 X1 X2 q3.1 ?_
    intro F4 hb4 g4
    refine ⟨_, F4, rfl, rfl, qq_on q3 hb4 g4 (by decide), ?_⟩
    rw [zz_i p3]
    exact (ofi r2).symm
theorem j2su_V (hC : xC 18 T F) (hR : rstC 18 T F) (hW : tdC n W (sy_ai F 80) (sy_ai F 81)) (h79 : (sy_i F 79).toInt = n) (k i : Int32) : jm_T Ls xs 4 jm_M111 [.ref 8, .int k, .int i] (sy_dh F X1 X2 (iv_H 2)) 0 0 (pI 2 X1 X2 (fun x F' => qC [] F F' ∧ x = ifP ((0 ≤ k.toInt ∧ k.toInt ≤ n) ∧ 0 ≤ i.toInt ∧ i.toInt < k.toInt) (Int32.ofInt (suA T W k.toInt.toNat i.toInt.toNat)) (-1))) := by
  have x79 := nz_bx hC.1 (k := 79) (lo := 0) (hi := 7) rfl
  refine C_T (by decide) [k, i] [.inl (.ref 8), .inr (.inl 82), .inr (.inl 83)] jm_ok111 (by decide) rfl (fun F0 k0 ki => ?_)
  have i82 : sy_i F0 82 = k := ki 0
  have i83 : sy_i F0 83 = i := ki 1
  have z82 : (sy_i F0 82).toInt = k.toInt := congrArg Int32.toInt i82
  have z83 : (sy_i F0 83).toInt = i.toInt := congrArg Int32.toInt i83
  have e79 : (sy_i F0 79).toInt = n := by rw [nz_fi (k0 79 (by decide))]; exact h79
  have bad : ∀ F1 : Nat → sy_d, iv_in F1 iv_B0 → (∀ j, j < 82 → j ∉ ([] : List Nat) → F1 j = F0 j) → ¬ ((0 ≤ k.toInt ∧ k.toInt ≤ n) ∧ 0 ≤ i.toInt ∧ i.toInt < k.toInt) → (pI 2 X1 X2 (fun x F' => qC [] F F' ∧ x = ifP ((0 ≤ k.toInt ∧ k.toInt ≤ n) ∧ 0 ≤ i.toInt ∧ i.toInt < k.toInt) (Int32.ofInt (suA T W k.toInt.toNat i.toInt.toNat)) (-1))) (some (.int (-1 : Int32))) (sy_dh F1 X1 X2 (iv_H 2)) := fun F1 hb gg h => ⟨_, F1, rfl, rfl, qq_src (qq_mk hb gg (by decide)) k0, by rw [ifP_n h]⟩
  refine j2su_0 (by decide) F0 X1 X2 (hd_iveq0 hC.1 k0) ?_ ?_ ?_ ?_ ?_
  · intro c0 F1 hb gg
    exact bad F1 hb gg (fun z => by omega)
  · intro c0 c1 F1 hb gg
    exact bad F1 hb gg (fun z => by omega)
  · intro c0 c1 c2 F1 hb gg
    exact bad F1 hb gg (fun z => by omega)
  · intro c0 c1 c2 c3 F1 hb gg
    exact bad F1 hb gg (fun z => by omega)
  · intro c0 c1 c2 c3 F1 hb gg e82 j82 e83 j83
    rw [ifP_y ⟨⟨by omega, by omega⟩, by omega, by omega⟩]
    have q1 : qC [] F F1 := qq_src (qq_mk hb gg (by decide)) k0
    obtain ⟨hR1, hW1⟩ := j2td_q F hR hW q1
    refine hd_calI (R := fun x F' => qC [] F1 F' ∧ x.toInt = rwA T W (sy_i F1 82).toInt.toNat) (nh := 82) (nv := 84) (s := 2) (s1 := 2) (d1 := 3) (M1 := jm_M70) (As := [.inl (.ref 70), .inl (.ref 20), .inr (.inl 82)]) (rest := []) jm_ok111 rfl rfl (by decide) (by decide +kernel) (j2rc_V F1 X1 X2 (xC_q (by decide) hC q1 (by decide)) hR1 hW1 (by omega) _ (by omega)) (fun F3 F' x hR p1 p2 p3 => ?_)
    obtain ⟨r1, r2⟩ := hR
    have q3 : qC [] F F3 := qq_trans q1 (qC_dst r1 p1)
    rw [show (sy_i F1 82).toInt.toNat = k.toInt.toNat by omega] at r2
    have a83 : (sy_i F3 83).toInt = i.toInt := by rw [eI (p2 83 (by decide) (by decide))]; omega
    have a84 : (sy_i F3 84).toInt = rwA T W k.toInt.toNat := by rw [zz_i p3]; exact r2
    refine j2su_40 (by decide) F3 X1 X2 q3.1 ?_ ?_
    · intro c4 F4 hb4 g4
      refine ⟨_, F4, rfl, rfl, qq_on q3 hb4 g4 (by decide), ?_⟩
      unfold suA
      rw [if_neg (fun z => by omega)]
      rfl
    · intro c4 F4 hb4 g4 b82 l82
      have q4 : qC [] F F4 := qq_on q3 hb4 g4 (by decide)
      obtain ⟨hR4, hW4⟩ := j2td_q F hR hW q4
      refine hd_calI (R := fun x F' => qC [] F4 F' ∧ x.toInt = mtA T W (sy_i F4 82).toInt.toNat) (nh := 82) (nv := 83) (s := 2) (s1 := 2) (d1 := 2) (M1 := jm_M71) (As := [.inl (.ref 70), .inl (.ref 20), .inr (.inl 82)]) (rest := []) jm_ok111 rfl rfl (by decide) (by decide +kernel) (j2ft_V F4 X1 X2 (xC_q (by decide) hC q4 (by decide)) hR4 hW4 (by omega) _ (by omega)) (fun F5 F6 y hR5 u1 u2 u3 => ?_)
      obtain ⟨s1, s2⟩ := hR5
      have q5 : qC [] F F5 := qq_trans q4 (qC_dst s1 u1)
      rw [show (sy_i F4 82).toInt.toNat = i.toInt.toNat by omega] at s2
      have d82 : (sy_i F5 82).toInt = i.toInt := by rw [eI (u2 82 (by decide) (by decide))]; omega
      have d83 : (sy_i F5 83).toInt = mtA T W i.toInt.toNat := by rw [zz_i u3]; exact s2
      refine j2su_55 (by decide) F5 X1 X2 q5.1 ?_ ?_
      · intro c5 F7 hb7 g7
        refine ⟨_, F7, rfl, rfl, qq_on q5 hb7 g7 (by decide), ?_⟩
        unfold suA
        rw [if_neg (fun z => by omega)]
        rfl
      · intro c5 F7 hb7 g7 w82 v82
        have q7 : qC [] F F7 := qq_on q5 hb7 g7 (by decide)
        obtain ⟨hR7, hW7⟩ := j2td_q F hR hW q7
        refine hd_calI (R := fun x F' => qC [] F7 F' ∧ x.toInt = ffA T (W (sy_i F7 82).toInt.toNat)) (nh := 82) (nv := 82) (s := 2) (s1 := 2) (d1 := 2) (M1 := jm_M72) (As := [.inl (.ref 70), .inl (.ref 20), .inr (.inl 82)]) (rest := []) jm_ok111 rfl rfl (by decide) (by decide +kernel) (j2ff_V F7 X1 X2 (xC_q (by decide) hC q7 (by decide)) hR7 hW7 (by omega) _ (by omega)) (fun F8 F9 y2 hR8 t1 t2 t3 => ?_)
        obtain ⟨m1, m2⟩ := hR8
        have q8 : qC [] F F8 := qq_trans q7 (qC_dst m1 t1)
        rw [show (sy_i F7 82).toInt.toNat = i.toInt.toNat by omega] at m2
        refine j2su_81 (by decide) F8 X1 X2 q8.1 ?_
        intro FA hbA gA
        refine ⟨_, FA, rfl, rfl, qq_on q8 hbA gA (by decide), ?_⟩
        unfold suA
        rw [if_pos ⟨by omega, by omega⟩, zz_i t3]
        exact (ofi m2).symm
theorem j2as_V (hC : xC 18 T F) (hR : rstC 18 T F) (hW : tdC n W (sy_ai F 80) (sy_ai F 81)) (h79 : (sy_i F 79).toInt = n) (k : Int32) : jm_T Ls xs 4 jm_M112 [.ref 8, .int k] (sy_dh F X1 X2 (iv_H 2)) 0 0 (pI 2 X1 X2 (fun x F' => qC [] F F' ∧ x = ifP (0 ≤ k.toInt ∧ k.toInt ≤ n) (Int32.ofInt (akA T W k.toInt.toNat)) (-1))) := by
  have x79 := nz_bx hC.1 (k := 79) (lo := 0) (hi := 7) rfl
  refine C_T (by decide) [k] [.inl (.ref 8), .inr (.inl 82)] jm_ok112 (by decide) rfl (fun F0 k0 ki => ?_)
  have i82 : sy_i F0 82 = k := ki 0
  have z82 : (sy_i F0 82).toInt = k.toInt := congrArg Int32.toInt i82
  have e79 : (sy_i F0 79).toInt = n := by rw [nz_fi (k0 79 (by decide))]; exact h79
  refine j2as_0 (by decide) F0 X1 X2 (hd_iveq0 hC.1 k0) ?_ ?_ ?_ ?_
  · intro c0 F1 hb gg
    exact ⟨_, F1, rfl, rfl, qq_src (qq_mk hb gg (by decide)) k0, by rw [ifP_n (fun z => by omega)]⟩
  · intro c0 c1 F1 hb gg
    exact ⟨_, F1, rfl, rfl, qq_src (qq_mk hb gg (by decide)) k0, by rw [ifP_n (fun z => by omega)]⟩
  · intro c0 c1 c2 F1 hb gg
    refine ⟨_, F1, rfl, rfl, qq_src (qq_mk hb gg (by decide)) k0, ?_⟩
    unfold akA
    rw [ifP_y ⟨by omega, by omega⟩, if_pos (Or.inl (by omega))]
    rfl
  · intro c0 c1 c2 F1 hb gg e82 j82
    rw [ifP_y ⟨by omega, by omega⟩]
    have q1 : qC [] F F1 := qq_src (qq_mk hb gg (by decide)) k0
    obtain ⟨hR1, hW1⟩ := j2td_q F hR hW q1
    refine hd_calI (R := fun x F' => qC [] F1 F' ∧ x.toInt = rwA T W (sy_i F1 82).toInt.toNat) (nh := 82) (nv := 83) (s := 2) (s1 := 2) (d1 := 3) (M1 := jm_M70) (As := [.inl (.ref 70), .inl (.ref 20), .inr (.inl 82)]) (rest := []) jm_ok112 rfl rfl (by decide) (by decide +kernel) (j2rc_V F1 X1 X2 (xC_q (by decide) hC q1 (by decide)) hR1 hW1 (by omega) _ (by omega)) (fun F3 F' x hR p1 p2 p3 => ?_)
    obtain ⟨r1, r2⟩ := hR
    have q3 : qC [] F F3 := qq_trans q1 (qC_dst r1 p1)
    rw [show (sy_i F1 82).toInt.toNat = k.toInt.toNat by omega] at r2
    have a82 : (sy_i F3 82).toInt = k.toInt := by rw [eI (p2 82 (by decide) (by decide))]; omega
    have a83 : (sy_i F3 83).toInt = rwA T W k.toInt.toNat := by rw [zz_i p3]; exact r2
    refine j2as_33 (by decide) F3 X1 X2 q3.1 ?_ ?_
    · intro c4 F4 hb4 g4 b82 l82
      have q4 : qC [] F F4 := qq_on q3 hb4 g4 (by decide)
      obtain ⟨hR4, hW4⟩ := j2td_q F hR hW q4
      refine hd_calI (R := fun x F' => qC [] F4 F' ∧ x.toInt = wdN (mtA T W) (sy_i F4 82).toInt.toNat) (nh := 82) (nv := 82) (s := 2) (s1 := 2) (d1 := 3) (M1 := jm_M73) (As := [.inl (.ref 70), .inl (.ref 20), .inr (.inl 82)]) (rest := []) jm_ok112 rfl rfl (by decide) (by decide +kernel) (j2wd_V F4 X1 X2 (xC_q (by decide) hC q4 (by decide)) hR4 hW4 (by omega) _ (by omega)) (fun F5 F6 y hR5 u1 u2 u3 => ?_)
      obtain ⟨s1, s2⟩ := hR5
      have q5 : qC [] F F5 := qq_trans q4 (qC_dst s1 u1)
      rw [show (sy_i F4 82).toInt.toNat = k.toInt.toNat by omega] at s2
      refine j2as_51 (by decide) F5 X1 X2 q5.1 ?_
      intro F7 hb7 g7
      refine ⟨_, F7, rfl, rfl, qq_on q5 hb7 g7 (by decide), ?_⟩
      unfold akA
      rw [if_neg (fun z => by omega), zz_i u3]
      exact (ofi s2).symm
    · intro c4 F4 hb4 g4
      refine ⟨_, F4, rfl, rfl, qq_on q3 hb4 g4 (by decide), ?_⟩
      unfold akA
      rw [if_pos (Or.inr (by omega))]
      rfl
end TO2
section TO3
variable {Ls : Nat} {xs : Nat → Int32} {T : tX} {W : Nat → Int32 × Int32} {n : Int} (F : Nat → sy_d) (X1 X2 : List jm_c)
theorem j3ft_L (hC : xC 18 T F) (hR : rstC 18 T F) (hW : tdC n W (sy_ai F 80) (sy_ai F 81)) (hn : n ≤ 7) {i : Nat} (hi : (i : Int) < n) : ∀ (m : Nat) (F1 : Nat → sy_d) (f : Nat), f + m = nfS T → qC [] F F1 → (sy_i F1 82).toInt = i → (sy_i F1 83).toInt = cfN T (W i) f → (sy_i F1 84).toInt = f →
    hd_W Ls xs 2 jm_M71 (pI 3 X1 X2 (fun x F' => qC [] F F' ∧ x.toInt = mtA T W i)) (5, sy_dL F1 [some (.inl (.ref 70)), some (.inl (.ref 20)), some (.inr (.inl 82)), some (.inr (.inl 83)), some (.inr (.inl 84))], sy_dS F1 [], sy_dh F1 X1 X2 (iv_H 3), 0, 0) := by
  have l7 : nfS T ≤ 7 := hC.2.2.1.1.1
  have enf : (sy_i F 18).toInt = (nfS T : Int) := hC.2.1.1.1
  intro m
  induction m with
  | zero =>
    intro F1 f hm hq e82 e83 e84
    have en1 : (sy_i F1 18).toInt = (nfS T : Int) := by rw [qq_i hq (by decide) (by decide)]; exact enf
    have cb := cf_le T (W i) f
    refine j3ft_5 (by decide) F1 X1 X2 hq.1 (by omega) (by omega) (by omega) ?_ ?_ ?_ ?_
    · intro c0 F2 hb gg
      refine ⟨_, F2, rfl, rfl, qq_on hq hb gg (by decide), ?_⟩
      rw [e83, show f = nfS T by omega]
      rfl
    · intro c0
      exact absurd c0 (by omega)
    · intro c0
      exact absurd c0 (by omega)
    · intro c0
      exact absurd c0 (by omega)
  | succ m ih =>
    intro F1 f hm hq e82 e83 e84
    have en1 : (sy_i F1 18).toInt = (nfS T : Int) := by rw [qq_i hq (by decide) (by decide)]; exact enf
    have cb := cf_le T (W i) f
    have hf : f < nfS T := by omega
    have x84 : (sy_i F1 84).toInt.toNat = f := by omega
    have x82 : (sy_i F1 82).toInt.toNat = i := by omega
    have r10 : (sy_ai F1 25).getD (sy_i F1 84).toInt.toNat 0 = Int32.ofInt (tF T f).2.1 := by
      rw [x84, qq_a hq (by decide) (by decide)]
      exact (xX_f hC hf).2.1
    have r12 : (sy_ai F1 27).getD (sy_i F1 84).toInt.toNat 0 = rsS T f := by
      rw [x84, qq_a hq (by decide) (by decide)]
      exact hR f hf
    have r80 : (sy_ai F1 80).getD (sy_i F1 82).toInt.toNat 0 = (W i).1 := by
      rw [x82, qq_a hq (by decide) (by decide)]
      exact (hW i hi).1
    have r81 : (sy_ai F1 81).getD (sy_i F1 82).toInt.toNat 0 = (W i).2 := by
      rw [x82, qq_a hq (by decide) (by decide)]
      exact (hW i hi).2
    have go0 : kfT T f ≠ W i → ∀ F2 : Nat → sy_d, iv_in F2 iv_B0 → (∀ j, j < 82 → j ∉ ([] : List Nat) → F2 j = F1 j) → (sy_i F2 82).toInt = (sy_i F1 82).toInt → (sy_i F2 83).toInt = (sy_i F1 83).toInt → (sy_i F2 84).toInt = (sy_i F1 84).toInt + 1 → hd_W Ls xs 2 jm_M71 (pI 3 X1 X2 (fun x F' => qC [] F F' ∧ x.toInt = mtA T W i)) (5, sy_dL F2 [some (.inl (.ref 70)), some (.inl (.ref 20)), some (.inr (.inl 82)), some (.inr (.inl 83)), some (.inr (.inl 84))], sy_dS F2 [], sy_dh F2 X1 X2 (iv_H 3), 0, 0) := by
      intro q F2 hb gg e2 e3 e4
      have k := cf_n q
      exact ih F2 (f + 1) (by omega) (qq_on hq hb gg (by decide)) (by omega) (by omega) (by omega)
    refine j3ft_5 (by decide) F1 X1 X2 hq.1 (by omega) (by omega) (by omega) ?_ ?_ ?_ ?_
    · intro c0
      exact absurd c0 (by omega)
    · intro c0 c1 F2 hb gg e2 j2 e3 j3 e4 j4
      rw [r10, r80] at c1
      exact go0 (kf_1 c1) F2 hb gg e2 e3 e4
    · intro c0 c1 c2 F2 hb gg e2 j2 e3 j3 e4 j4
      rw [r12, r81] at c2
      exact go0 (kf_2 c2) F2 hb gg e2 e3 e4
    · intro c0 c1 c2 F2 hb gg e2 j2 e3 j3 e4 j4
      rw [r10, r80] at c1
      rw [r12, r81] at c2
      have k := cf_y (kf_y c1 c2)
      clear c1 c2 go0
      exact ih F2 (f + 1) (by omega) (qq_on hq hb gg (by decide)) (by omega) (by omega) (by omega)
theorem j3ft_V (hC : xC 18 T F) (hR : rstC 18 T F) (hW : tdC n W (sy_ai F 80) (sy_ai F 81)) (hn : n ≤ 7) (i : Int32) (hi : 0 ≤ i.toInt ∧ i.toInt < n) : jm_T Ls xs 2 jm_M71 [.ref 70, .ref 20, .int i] (sy_dh F X1 X2 (iv_H 3)) 0 0 (pI 3 X1 X2 (fun x F' => qC [] F F' ∧ x.toInt = mtA T W i.toInt.toNat)) := by
  refine C_T (by decide) [i] [.inl (.ref 70), .inl (.ref 20), .inr (.inl 82)] jm_ok71 (by decide) rfl (fun F0 k0 ki => ?_)
  have i82 : sy_i F0 82 = i := ki 0
  have z82 : (sy_i F0 82).toInt = i.toInt := congrArg Int32.toInt i82
  refine j3ft_0 (by decide) F0 X1 X2 (hd_iveq0 hC.1 k0) ?_
  intro F1 hb gg e82 j82 e83 j83 e84 j84
  exact j3ft_L F X1 X2 hC hR hW hn (i := i.toInt.toNat) (by omega) (nfS T) F1 0 (by omega) (qq_src (qq_mk hb gg (by decide)) k0) (by omega) e83 e84
theorem j3ff_L (hC : xC 18 T F) (hR : rstC 18 T F) (hW : tdC n W (sy_ai F 80) (sy_ai F 81)) (hn : n ≤ 7) {i : Nat} (hi : (i : Int) < n) : ∀ (m : Nat) (F1 : Nat → sy_d) (f : Nat), f + m = nfS T → qC [] F F1 → (sy_i F1 82).toInt = i → (sy_i F1 83).toInt = f → (∀ j, j < f → decide (kfT T j = W i) = false) →
    hd_W Ls xs 2 jm_M72 (pI 3 X1 X2 (fun x F' => qC [] F F' ∧ x.toInt = ffA T (W i))) (2, sy_dL F1 [some (.inl (.ref 70)), some (.inl (.ref 20)), some (.inr (.inl 82)), some (.inr (.inl 83))], sy_dS F1 [], sy_dh F1 X1 X2 (iv_H 3), 0, 0) := by
  have l7 : nfS T ≤ 7 := hC.2.2.1.1.1
  have enf : (sy_i F 18).toInt = (nfS T : Int) := hC.2.1.1.1
  intro m
  induction m with
  | zero =>
    intro F1 f hm hq e82 e83 hj
    have en1 : (sy_i F1 18).toInt = (nfS T : Int) := by rw [qq_i hq (by decide) (by decide)]; exact enf
    refine j3ff_2 (by decide) F1 X1 X2 hq.1 (by omega) (by omega) ?_ ?_ ?_ ?_
    · intro c0 F2 hb gg
      refine ⟨_, F2, rfl, rfl, qq_on hq hb gg (by decide), ?_⟩
      unfold ffA
      rw [fs_no _ (fun j h => hj j (by omega))]
      decide
    · intro c0
      exact absurd c0 (by omega)
    · intro c0
      exact absurd c0 (by omega)
    · intro c0
      exact absurd c0 (by omega)
  | succ m ih =>
    intro F1 f hm hq e82 e83 hj
    have en1 : (sy_i F1 18).toInt = (nfS T : Int) := by rw [qq_i hq (by decide) (by decide)]; exact enf
    have hf : f < nfS T := by omega
    have x83 : (sy_i F1 83).toInt.toNat = f := by omega
    have x82 : (sy_i F1 82).toInt.toNat = i := by omega
    have r10 : (sy_ai F1 25).getD (sy_i F1 83).toInt.toNat 0 = Int32.ofInt (tF T f).2.1 := by
      rw [x83, qq_a hq (by decide) (by decide)]
      exact (xX_f hC hf).2.1
    have r12 : (sy_ai F1 27).getD (sy_i F1 83).toInt.toNat 0 = rsS T f := by
      rw [x83, qq_a hq (by decide) (by decide)]
      exact hR f hf
    have r80 : (sy_ai F1 80).getD (sy_i F1 82).toInt.toNat 0 = (W i).1 := by
      rw [x82, qq_a hq (by decide) (by decide)]
      exact (hW i hi).1
    have r81 : (sy_ai F1 81).getD (sy_i F1 82).toInt.toNat 0 = (W i).2 := by
      rw [x82, qq_a hq (by decide) (by decide)]
      exact (hW i hi).2
    have go0 : kfT T f ≠ W i → ∀ F2 : Nat → sy_d, iv_in F2 iv_B0 → (∀ j, j < 82 → j ∉ ([] : List Nat) → F2 j = F1 j) → (sy_i F2 82).toInt = (sy_i F1 82).toInt → (sy_i F2 83).toInt = (sy_i F1 83).toInt + 1 → hd_W Ls xs 2 jm_M72 (pI 3 X1 X2 (fun x F' => qC [] F F' ∧ x.toInt = ffA T (W i))) (2, sy_dL F2 [some (.inl (.ref 70)), some (.inl (.ref 20)), some (.inr (.inl 82)), some (.inr (.inl 83))], sy_dS F2 [], sy_dh F2 X1 X2 (iv_H 3), 0, 0) := by
      intro q F2 hb gg e2 e3
      refine ih F2 (f + 1) (by omega) (qq_on hq hb gg (by decide)) (by omega) (by omega) (fun j h => ?_)
      by_cases z : j = f
      · rw [z]
        exact decide_eq_false q
      · exact hj j (by omega)
    refine j3ff_2 (by decide) F1 X1 X2 hq.1 (by omega) (by omega) ?_ ?_ ?_ ?_
    · intro c0
      exact absurd c0 (by omega)
    · intro c0 c1 F2 hb gg e2 j2 e3 j3
      rw [r10, r80] at c1
      exact go0 (kf_1 c1) F2 hb gg e2 e3
    · intro c0 c1 c2 F2 hb gg e2 j2 e3 j3
      rw [r12, r81] at c2
      exact go0 (kf_2 c2) F2 hb gg e2 e3
    · intro c0 c1 c2 F2 hb gg
      rw [r10, r80] at c1
      rw [r12, r81] at c2
      refine ⟨_, F2, rfl, rfl, qq_on hq hb gg (by decide), ?_⟩
      unfold ffA
      rw [fs_lt (P := fun f => decide (kfT T f = W i)) (decide_eq_true (kf_y c1 c2)) hj hf]
      exact e83
theorem j3ff_V (hC : xC 18 T F) (hR : rstC 18 T F) (hW : tdC n W (sy_ai F 80) (sy_ai F 81)) (hn : n ≤ 7) (i : Int32) (hi : 0 ≤ i.toInt ∧ i.toInt < n) : jm_T Ls xs 2 jm_M72 [.ref 70, .ref 20, .int i] (sy_dh F X1 X2 (iv_H 3)) 0 0 (pI 3 X1 X2 (fun x F' => qC [] F F' ∧ x.toInt = ffA T (W i.toInt.toNat))) := by
  refine C_T (by decide) [i] [.inl (.ref 70), .inl (.ref 20), .inr (.inl 82)] jm_ok72 (by decide) rfl (fun F0 k0 ki => ?_)
  have i82 : sy_i F0 82 = i := ki 0
  have z82 : (sy_i F0 82).toInt = i.toInt := congrArg Int32.toInt i82
  refine j3ff_0 (by decide) F0 X1 X2 (hd_iveq0 hC.1 k0) ?_
  intro F1 hb gg e82 j82 e83 j83
  exact j3ff_L F X1 X2 hC hR hW hn (i := i.toInt.toNat) (by omega) (nfS T) F1 0 (by omega) (qq_src (qq_mk hb gg (by decide)) k0) (by omega) e83 (fun j h => absurd h (Nat.not_lt_zero j))
theorem j3al_L (hB : iv_in F iv_B0) (hW : tdC n W (sy_ai F 80) (sy_ai F 81)) (hn : n ≤ 7) {i : Nat} (hi : (i : Int) < n) : ∀ (m : Nat) (F1 : Nat → sy_d) (f : Nat), f + m = i → qC [] F F1 → (sy_i F1 82).toInt = i → (sy_i F1 83).toInt = ejN W (W i) f → (sy_i F1 84).toInt = f →
    hd_W Ls xs 1 jm_M75 (pI 3 X1 X2 (fun x F' => qC [] F F' ∧ x.toInt = eqN W i)) (4, sy_dL F1 [some (.inl (.ref 70)), some (.inr (.inl 82)), some (.inr (.inl 83)), some (.inr (.inl 84))], sy_dS F1 [], sy_dh F1 X1 X2 (iv_H 3), 0, 0) := by
  intro m
  induction m with
  | zero =>
    intro F1 f hm hq e82 e83 e84
    have cb := ej_le W (W i) f
    refine j3al_4 (by decide) F1 X1 X2 hq.1 (by omega) (by omega) (by omega) ?_ ?_ ?_ ?_
    · intro c0 F2 hb gg
      refine ⟨_, F2, rfl, rfl, qq_on hq hb gg (by decide), ?_⟩
      rw [e83, show f = i by omega]
      rfl
    · intro c0
      exact absurd c0 (by omega)
    · intro c0
      exact absurd c0 (by omega)
    · intro c0
      exact absurd c0 (by omega)
  | succ m ih =>
    intro F1 f hm hq e82 e83 e84
    have cb := ej_le W (W i) f
    have x84 : (sy_i F1 84).toInt.toNat = f := by omega
    have x82 : (sy_i F1 82).toInt.toNat = i := by omega
    have r80 : (sy_ai F1 80).getD (sy_i F1 82).toInt.toNat 0 = (W i).1 := by
      rw [x82, qq_a hq (by decide) (by decide)]
      exact (hW i hi).1
    have r81 : (sy_ai F1 81).getD (sy_i F1 82).toInt.toNat 0 = (W i).2 := by
      rw [x82, qq_a hq (by decide) (by decide)]
      exact (hW i hi).2
    have s80 : (sy_ai F1 80).getD (sy_i F1 84).toInt.toNat 0 = (W f).1 := by
      rw [x84, qq_a hq (by decide) (by decide)]
      exact (hW f (by omega)).1
    have s81 : (sy_ai F1 81).getD (sy_i F1 84).toInt.toNat 0 = (W f).2 := by
      rw [x84, qq_a hq (by decide) (by decide)]
      exact (hW f (by omega)).2
    have go0 : W f ≠ W i → ∀ F2 : Nat → sy_d, iv_in F2 iv_B0 → (∀ j, j < 82 → j ∉ ([] : List Nat) → F2 j = F1 j) → (sy_i F2 82).toInt = (sy_i F1 82).toInt → (sy_i F2 83).toInt = (sy_i F1 83).toInt → (sy_i F2 84).toInt = (sy_i F1 84).toInt + 1 → hd_W Ls xs 1 jm_M75 (pI 3 X1 X2 (fun x F' => qC [] F F' ∧ x.toInt = eqN W i)) (4, sy_dL F2 [some (.inl (.ref 70)), some (.inr (.inl 82)), some (.inr (.inl 83)), some (.inr (.inl 84))], sy_dS F2 [], sy_dh F2 X1 X2 (iv_H 3), 0, 0) := by
      intro q F2 hb gg e2 e3 e4
      have k := ej_n q
      exact ih F2 (f + 1) (by omega) (qq_on hq hb gg (by decide)) (by omega) (by omega) (by omega)
    refine j3al_4 (by decide) F1 X1 X2 hq.1 (by omega) (by omega) (by omega) ?_ ?_ ?_ ?_
    · intro c0
      exact absurd c0 (by omega)
    · intro c0 c1 F2 hb gg e2 j2 e3 j3 e4 j4
      rw [s80, r80] at c1
      exact go0 (wp_1 c1) F2 hb gg e2 e3 e4
    · intro c0 c1 c2 F2 hb gg e2 j2 e3 j3 e4 j4
      rw [s81, r81] at c2
      exact go0 (wp_2 c2) F2 hb gg e2 e3 e4
    · intro c0 c1 c2 F2 hb gg e2 j2 e3 j3 e4 j4
      rw [s80, r80] at c1
      rw [s81, r81] at c2
      have k := ej_y (wp_y c1 c2)
      clear c1 c2 go0
      exact ih F2 (f + 1) (by omega) (qq_on hq hb gg (by decide)) (by omega) (by omega) (by omega)
theorem j3al_V (hB : iv_in F iv_B0) (hW : tdC n W (sy_ai F 80) (sy_ai F 81)) (hn : n ≤ 7) (i : Int32) (hi : 0 ≤ i.toInt ∧ i.toInt < n) : jm_T Ls xs 1 jm_M75 [.ref 70, .int i] (sy_dh F X1 X2 (iv_H 3)) 0 0 (pI 3 X1 X2 (fun x F' => qC [] F F' ∧ x.toInt = eqN W i.toInt.toNat)) := by
  refine C_T (by decide) [i] [.inl (.ref 70), .inr (.inl 82)] jm_ok75 (by decide) rfl (fun F0 k0 ki => ?_)
  have i82 : sy_i F0 82 = i := ki 0
  have z82 : (sy_i F0 82).toInt = i.toInt := congrArg Int32.toInt i82
  refine j3al_0 (by decide) F0 X1 X2 (hd_iveq0 hB k0) ?_
  intro F1 hb gg e82 j82 e83 j83 e84 j84
  exact j3al_L F X1 X2 hB hW hn (i := i.toInt.toNat) (by omega) i.toInt.toNat F1 0 (by omega) (qq_src (qq_mk hb gg (by decide)) k0) (by omega) e83 e84
theorem j3td_q (hR : rstC 18 T F) (hW : tdC n W (sy_ai F 80) (sy_ai F 81)) {F1 : Nat → sy_d} (q : qC [] F F1) : rstC 18 T F1 ∧ tdC n W (sy_ai F1 80) (sy_ai F1 81) := by
  refine ⟨fun f hf => ?_, ?_⟩
  · rw [qq_a q (by decide) (by decide)]
    exact hR f hf
  · rw [qq_a q (by decide) (by decide), qq_a q (by decide) (by decide)]
    exact hW
theorem j3rc_L (hC : xC 18 T F) (hR : rstC 18 T F) (hW : tdC n W (sy_ai F 80) (sy_ai F 81)) (hn : n ≤ 7) {k : Nat} (hk : (k : Int) ≤ n) : ∀ (m : Nat) (F1 : Nat → sy_d) (i : Nat), i + m = k → qC [] F F1 → (sy_i F1 82).toInt = k → (sy_i F1 83).toInt = rwA T W i → (sy_i F1 84).toInt = i →
    hd_W Ls xs 3 jm_M70 (pI 3 X1 X2 (fun x F' => qC [] F F' ∧ x.toInt = rwA T W k)) (5, sy_dL F1 [some (.inl (.ref 70)), some (.inl (.ref 20)), some (.inr (.inl 82)), some (.inr (.inl 83)), some (.inr (.inl 84)), none], sy_dS F1 [], sy_dh F1 X1 X2 (iv_H 3), 0, 0) := by
  have l7 : nfS T ≤ 7 := hC.2.2.1.1.1
  intro m
  induction m with
  | zero =>
    intro F1 i hm hq e82 e83 e84
    refine j3rc_5 (by decide) F1 X1 X2 hq.1 (by omega) ?_ ?_ ?_
    · intro c0 F2 hb gg
      refine ⟨_, F2, rfl, rfl, qq_on hq hb gg (by decide), ?_⟩
      rw [e83, show i = k by omega]
    · intro c0
      exact absurd c0 (by omega)
    · intro c0
      exact absurd c0 (by omega)
  | succ m ih =>
    intro F1 i hm hq e82 e83 e84
    refine j3rc_5 (by decide) F1 X1 X2 hq.1 (by omega) ?_ ?_ ?_
    · intro c0
      exact absurd c0 (by omega)
    · intro c0 c1
      exact absurd c1 (by omega)
    · intro c0 c1 F2 hb gg e2 j2 e3 j3 e4 j4
      have q2 : qC [] F F2 := qq_on hq hb gg (by decide)
      obtain ⟨hR2, hW2⟩ := j3td_q F hR hW q2
      refine hd_calI (R := fun x F' => qC [] F2 F' ∧ x.toInt = mtA T W (sy_i F2 84).toInt.toNat) (nh := 82) (nv := 85) (s := 3) (s1 := 3) (d1 := 2) (M1 := jm_M71) (As := [.inl (.ref 70), .inl (.ref 20), .inr (.inl 84)]) (rest := []) jm_ok70 rfl rfl (by decide) (by decide +kernel) (j3ft_V F2 X1 X2 (xC_q (by decide) hC q2 (by decide)) hR2 hW2 hn _ (by omega)) (fun F3 F' x hR p1 p2 p3 => ?_)
      obtain ⟨r1, r2⟩ := hR
      have q3 : qC [] F F3 := qq_trans q2 (qC_dst r1 p1)
      have x84 : (sy_i F2 84).toInt.toNat = i := by omega
      rw [x84] at r2
      have a82 : (sy_i F3 82).toInt = k := by rw [eI (p2 82 (by decide) (by decide))]; omega
      have a83 : (sy_i F3 83).toInt = rwA T W i := by rw [eI (p2 83 (by decide) (by decide))]; omega
      have a84 : (sy_i F3 84).toInt = i := by rw [eI (p2 84 (by decide) (by decide))]; omega
      have a85 : (sy_i F3 85).toInt = mtA T W i := by rw [zz_i p3]; exact r2
      refine j3rc_25 (by decide) F3 X1 X2 q3.1 ?_
      intro F4 hb4 g4 b2 l2 b3 l3 b4 l4 b5 l5
      have q4 : qC [] F F4 := qq_on q3 hb4 g4 (by decide)
      obtain ⟨hR4, hW4⟩ := j3td_q F hR hW q4
      refine hd_calI (R := fun x F' => qC [] F4 F' ∧ x.toInt = eqN W (sy_i F4 84).toInt.toNat) (nh := 82) (nv := 86) (s := 3) (s1 := 3) (d1 := 1) (M1 := jm_M75) (As := [.inl (.ref 70), .inr (.inl 84)]) (rest := [.inr (.inl 85)]) jm_ok70 rfl rfl (by decide) (by decide +kernel) (j3al_V F4 X1 X2 q4.1 hW4 hn _ (by omega)) (fun F5 F6 y hR5 u1 u2 u3 => ?_)
      obtain ⟨s1, s2⟩ := hR5
      have q5 : qC [] F F5 := qq_trans q4 (qC_dst s1 u1)
      have y84 : (sy_i F4 84).toInt.toNat = i := by omega
      rw [y84] at s2
      have d82 : (sy_i F5 82).toInt = k := by rw [eI (u2 82 (by decide) (by decide))]; omega
      have d83 : (sy_i F5 83).toInt = rwA T W i := by rw [eI (u2 83 (by decide) (by decide))]; omega
      have d84 : (sy_i F5 84).toInt = i := by rw [eI (u2 84 (by decide) (by decide))]; omega
      have d85 : (sy_i F5 85).toInt = mtA T W i := by rw [eI (u2 85 (by decide) (by decide))]; omega
      have d86 : (sy_i F5 86).toInt = eqN W i := by rw [zz_i u3]; exact s2
      have m7 : mtA T W i ≤ nfS T := mt_le i
      have e7 : eqN W i ≤ i := cnt_le _ i
      have rs : rwA T W (i + 1) = rwA T W i * (mtA T W i - eqN W i) := rfl
      refine j3rc_31 (by decide) F5 X1 X2 q5.1 (by omega) (by omega) (by omega) ?_ ?_
      · intro c2 F7 hb7 g7 w2 v2 w3 v3 w4 v4
        have r6 : rwA T W i ≤ 823543 := rwA_le l7 (by omega)
        have sm : mtA T W i - eqN W i ≤ 7 := by omega
        have ml : rwA T W i * (mtA T W i - eqN W i) ≤ 823543 * 7 := Nat.mul_le_mul r6 sm
        have dd : (sy_i F5 85 - sy_i F5 86).toInt = ((mtA T W i - eqN W i : Nat) : Int) := by
          rw [nz_sub d85 d86 (by omega) (by omega)]
          omega
        have pm : (sy_i F5 83 * (sy_i F5 85 - sy_i F5 86)).toInt = ((rwA T W (i + 1) : Nat) : Int) := by
          rw [rs, Int.natCast_mul]
          refine nz_mul d83 dd ?_ ?_
          · rw [← Int.natCast_mul]
            omega
          · rw [← Int.natCast_mul]
            omega
        exact ih F7 (i + 1) (by omega) (qq_on q5 hb7 g7 (by decide)) (by omega) (by rw [v3]; exact pm) (by omega)
      · intro c2 F7 hb7 g7
        refine ⟨_, F7, rfl, rfl, qq_on q5 hb7 g7 (by decide), ?_⟩
        have z : rwA T W (i + 1) = 0 := by
          rw [rs, show mtA T W i - eqN W i = 0 by omega, Nat.mul_zero]
        have z2 : rwA T W k = 0 := pr_z z (by omega)
        rw [z2]
        decide
theorem j3rc_V (hC : xC 18 T F) (hR : rstC 18 T F) (hW : tdC n W (sy_ai F 80) (sy_ai F 81)) (hn : n ≤ 7) (k : Int32) (hk : 0 ≤ k.toInt ∧ k.toInt ≤ n) : jm_T Ls xs 3 jm_M70 [.ref 70, .ref 20, .int k] (sy_dh F X1 X2 (iv_H 3)) 0 0 (pI 3 X1 X2 (fun x F' => qC [] F F' ∧ x.toInt = rwA T W k.toInt.toNat)) := by
  refine C_T (by decide) [k] [.inl (.ref 70), .inl (.ref 20), .inr (.inl 82)] jm_ok70 (by decide) rfl (fun F0 k0 ki => ?_)
  have i82 : sy_i F0 82 = k := ki 0
  have z82 : (sy_i F0 82).toInt = k.toInt := congrArg Int32.toInt i82
  refine j3rc_0 (by decide) F0 X1 X2 (hd_iveq0 hC.1 k0) ?_
  intro F1 hb gg e82 j82 e83 j83 e84 j84
  exact j3rc_L F X1 X2 hC hR hW hn (k := k.toInt.toNat) (by omega) k.toInt.toNat F1 0 (by omega) (qq_src (qq_mk hb gg (by decide)) k0) (by omega) e83 e84
theorem j3wd_L (hC : xC 18 T F) (hR : rstC 18 T F) (hW : tdC n W (sy_ai F 80) (sy_ai F 81)) (hn : n ≤ 7) {k : Nat} (hk : (k : Int) ≤ n) : ∀ (m : Nat) (F1 : Nat → sy_d) (i : Nat), 1 ≤ i → i + m = k → qC [] F F1 → (sy_i F1 82).toInt = k → (sy_i F1 83).toInt = wdN (mtA T W) i → (sy_i F1 84).toInt = i →
    hd_W Ls xs 3 jm_M73 (pI 3 X1 X2 (fun x F' => qC [] F F' ∧ x.toInt = wdN (mtA T W) k)) (5, sy_dL F1 [some (.inl (.ref 70)), some (.inl (.ref 20)), some (.inr (.inl 82)), some (.inr (.inl 83)), some (.inr (.inl 84))], sy_dS F1 [], sy_dh F1 X1 X2 (iv_H 3), 0, 0) := by
  have l7 : nfS T ≤ 7 := hC.2.2.1.1.1
  intro m
  induction m with
  | zero =>
    intro F1 i h1 hm hq e82 e83 e84
    refine j3wd_5 (by decide) F1 X1 X2 hq.1 (by omega) ?_ ?_ ?_
    · intro c0 F2 hb gg
      refine ⟨_, F2, rfl, rfl, qq_on hq hb gg (by decide), ?_⟩
      rw [e83, show i = k by omega]
    · intro c0
      exact absurd c0 (by omega)
    · intro c0
      exact absurd c0 (by omega)
  | succ m ih =>
    intro F1 i h1 hm hq e82 e83 e84
    have wl : wdN (mtA T W) i < i := by
      have := wd_lt (mtA T W) (i - 1)
      rw [show i - 1 + 1 = i by omega] at this
      omega
    refine j3wd_5 (by decide) F1 X1 X2 hq.1 (by omega) ?_ ?_ ?_
    · intro c0
      exact absurd c0 (by omega)
    · intro c0 c1
      exact absurd c1 (by omega)
    · intro c0 c1 F2 hb gg e2 j2 e3 j3 e4 j4
      have q2 : qC [] F F2 := qq_on hq hb gg (by decide)
      obtain ⟨hR2, hW2⟩ := j3td_q F hR hW q2
      refine hd_calI (R := fun x F' => qC [] F2 F' ∧ x.toInt = mtA T W (sy_i F2 84).toInt.toNat) (nh := 82) (nv := 85) (s := 3) (s1 := 3) (d1 := 2) (M1 := jm_M71) (As := [.inl (.ref 70), .inl (.ref 20), .inr (.inl 84)]) (rest := []) jm_ok73 rfl rfl (by decide) (by decide +kernel) (j3ft_V F2 X1 X2 (xC_q (by decide) hC q2 (by decide)) hR2 hW2 hn _ (by omega)) (fun F3 F' x hR p1 p2 p3 => ?_)
      obtain ⟨r1, r2⟩ := hR
      have q3 : qC [] F F3 := qq_trans q2 (qC_dst r1 p1)
      have x84 : (sy_i F2 84).toInt.toNat = i := by omega
      rw [x84] at r2
      have a82 : (sy_i F3 82).toInt = k := by rw [eI (p2 82 (by decide) (by decide))]; omega
      have a83 : (sy_i F3 83).toInt = wdN (mtA T W) i := by rw [eI (p2 83 (by decide) (by decide))]; omega
      have a84 : (sy_i F3 84).toInt = i := by rw [eI (p2 84 (by decide) (by decide))]; omega
      have a85 : (sy_i F3 85).toInt = mtA T W i := by rw [zz_i p3]; exact r2
      refine j3wd_25 (by decide) F3 X1 X2 q3.1 ?_
      intro F4 hb4 g4 b2 l2 b3 l3 b4 l4 b5 l5
      have q4 : qC [] F F4 := qq_on q3 hb4 g4 (by decide)
      obtain ⟨hR4, hW4⟩ := j3td_q F hR hW q4
      refine hd_calI (R := fun x F' => qC [] F4 F' ∧ x.toInt = mtA T W (sy_i F4 83).toInt.toNat) (nh := 82) (nv := 86) (s := 3) (s1 := 3) (d1 := 2) (M1 := jm_M71) (As := [.inl (.ref 70), .inl (.ref 20), .inr (.inl 83)]) (rest := [.inr (.inl 85)]) jm_ok73 rfl rfl (by decide) (by decide +kernel) (j3ft_V F4 X1 X2 (xC_q (by decide) hC q4 (by decide)) hR4 hW4 hn _ (by omega)) (fun F5 F6 y hR5 u1 u2 u3 => ?_)
      obtain ⟨s1, s2⟩ := hR5
      have q5 : qC [] F F5 := qq_trans q4 (qC_dst s1 u1)
      have y83 : (sy_i F4 83).toInt.toNat = wdN (mtA T W) i := by omega
      rw [y83] at s2
      have d82 : (sy_i F5 82).toInt = k := by rw [eI (u2 82 (by decide) (by decide))]; omega
      have d83 : (sy_i F5 83).toInt = wdN (mtA T W) i := by rw [eI (u2 83 (by decide) (by decide))]; omega
      have d84 : (sy_i F5 84).toInt = i := by rw [eI (u2 84 (by decide) (by decide))]; omega
      have d85 : (sy_i F5 85).toInt = mtA T W i := by rw [eI (u2 85 (by decide) (by decide))]; omega
      have d86 : (sy_i F5 86).toInt = mtA T W (wdN (mtA T W) i) := by rw [zz_i u3]; exact s2
      refine j3wd_31 (by decide) F5 X1 X2 q5.1 (by omega) ?_ ?_
      · intro c2 F7 hb7 g7 w2 v2 w3 v3 w4 v4
        have z := wd_n (m := mtA T W) (n := i) (by omega)
        exact ih F7 (i + 1) (by omega) (by omega) (qq_on q5 hb7 g7 (by decide)) (by omega) (by omega) (by omega)
      · intro c2 F7 hb7 g7 w2 v2 w3 v3 w4 v4
        have z := wd_y (m := mtA T W) (n := i) (by omega)
        exact ih F7 (i + 1) (by omega) (by omega) (qq_on q5 hb7 g7 (by decide)) (by omega) (by omega) (by omega)
theorem j3wd_V (hC : xC 18 T F) (hR : rstC 18 T F) (hW : tdC n W (sy_ai F 80) (sy_ai F 81)) (hn : n ≤ 7) (k : Int32) (hk : 1 ≤ k.toInt ∧ k.toInt ≤ n) : jm_T Ls xs 3 jm_M73 [.ref 70, .ref 20, .int k] (sy_dh F X1 X2 (iv_H 3)) 0 0 (pI 3 X1 X2 (fun x F' => qC [] F F' ∧ x.toInt = wdN (mtA T W) k.toInt.toNat)) := by
  refine C_T (by decide) [k] [.inl (.ref 70), .inl (.ref 20), .inr (.inl 82)] jm_ok73 (by decide) rfl (fun F0 k0 ki => ?_)
  have i82 : sy_i F0 82 = k := ki 0
  have z82 : (sy_i F0 82).toInt = k.toInt := congrArg Int32.toInt i82
  have w1 : wdN (mtA T W) 1 = 0 := by
    have : wdN (mtA T W) 1 ≤ 0 := wd_lt (mtA T W) 0
    omega
  refine j3wd_0 (by decide) F0 X1 X2 (hd_iveq0 hC.1 k0) ?_
  intro F1 hb gg e82 j82 e83 j83 e84 j84
  exact j3wd_L F X1 X2 hC hR hW hn (k := k.toInt.toNat) (by omega) (k.toInt.toNat - 1) F1 1 (by omega) (by omega) (qq_src (qq_mk hb gg (by decide)) k0) (by omega) (e83.trans (congrArg (fun z : Nat => (z : Int)) w1.symm)) e84
theorem j3rw_V (hC : xC 18 T F) (hR : rstC 18 T F) (hW : tdC n W (sy_ai F 80) (sy_ai F 81)) (h79 : (sy_i F 79).toInt = n) (k : Int32) : jm_T Ls xs 4 jm_M110 [.ref 8, .int k] (sy_dh F X1 X2 (iv_H 3)) 0 0 (pI 3 X1 X2 (fun x F' => qC [] F F' ∧ x = ifP (0 ≤ k.toInt ∧ k.toInt ≤ n) (Int32.ofInt (rwA T W k.toInt.toNat : Int)) (-1))) := by
  have x79 := nz_bx hC.1 (k := 79) (lo := 0) (hi := 7) rfl
  refine C_T (by decide) [k] [.inl (.ref 8), .inr (.inl 82)] jm_ok110 (by decide) rfl (fun F0 k0 ki => ?_)
  have i82 : sy_i F0 82 = k := ki 0
  have z82 : (sy_i F0 82).toInt = k.toInt := congrArg Int32.toInt i82
  have e79 : (sy_i F0 79).toInt = n := by rw [nz_fi (k0 79 (by decide))]; exact h79
  refine j3rw_0 (by decide) F0 X1 X2 (hd_iveq0 hC.1 k0) ?_ ?_ ?_
  · intro c0 F1 hb gg
    exact ⟨_, F1, rfl, rfl, qq_src (qq_mk hb gg (by decide)) k0, by rw [ifP_n (fun z => by omega)]⟩
  · intro c0 c1 F1 hb gg
    exact ⟨_, F1, rfl, rfl, qq_src (qq_mk hb gg (by decide)) k0, by rw [ifP_n (fun z => by omega)]⟩
  · intro c0 c1 F1 hb gg e82 j82
    rw [ifP_y ⟨by omega, by omega⟩]
    have q1 : qC [] F F1 := qq_src (qq_mk hb gg (by decide)) k0
    obtain ⟨hR1, hW1⟩ := j3td_q F hR hW q1
    refine hd_calI (R := fun x F' => qC [] F1 F' ∧ x.toInt = rwA T W (sy_i F1 82).toInt.toNat) (nh := 82) (nv := 82) (s := 3) (s1 := 3) (d1 := 3) (M1 := jm_M70) (As := [.inl (.ref 70), .inl (.ref 20), .inr (.inl 82)]) (rest := []) jm_ok110 rfl rfl (by decide) (by decide +kernel) (j3rc_V F1 X1 X2 (xC_q (by decide) hC q1 (by decide)) hR1 hW1 (by omega) _ (by omega)) (fun F3 F' x hR p1 p2 p3 => ?_)
    obtain ⟨r1, r2⟩ := hR
    have q3 : qC [] F F3 := qq_trans q1 (qC_dst r1 p1)
    rw [show (sy_i F1 82).toInt.toNat = k.toInt.toNat by omega] at r2
    refine j3rw_27 (by decide) F3 X1 X2 q3.1 ?_
    intro F4 hb4 g4
    refine ⟨_, F4, rfl, rfl, qq_on q3 hb4 g4 (by decide), ?_⟩
    rw [zz_i p3]
    exact (ofi r2).symm
theorem j3su_V (hC : xC 18 T F) (hR : rstC 18 T F) (hW : tdC n W (sy_ai F 80) (sy_ai F 81)) (h79 : (sy_i F 79).toInt = n) (k i : Int32) : jm_T Ls xs 4 jm_M111 [.ref 8, .int k, .int i] (sy_dh F X1 X2 (iv_H 3)) 0 0 (pI 3 X1 X2 (fun x F' => qC [] F F' ∧ x = ifP ((0 ≤ k.toInt ∧ k.toInt ≤ n) ∧ 0 ≤ i.toInt ∧ i.toInt < k.toInt) (Int32.ofInt (suA T W k.toInt.toNat i.toInt.toNat)) (-1))) := by
  have x79 := nz_bx hC.1 (k := 79) (lo := 0) (hi := 7) rfl
  refine C_T (by decide) [k, i] [.inl (.ref 8), .inr (.inl 82), .inr (.inl 83)] jm_ok111 (by decide) rfl (fun F0 k0 ki => ?_)
  have i82 : sy_i F0 82 = k := ki 0
  have i83 : sy_i F0 83 = i := ki 1
  have z82 : (sy_i F0 82).toInt = k.toInt := congrArg Int32.toInt i82
  have z83 : (sy_i F0 83).toInt = i.toInt := congrArg Int32.toInt i83
  have e79 : (sy_i F0 79).toInt = n := by rw [nz_fi (k0 79 (by decide))]; exact h79
  have bad : ∀ F1 : Nat → sy_d, iv_in F1 iv_B0 → (∀ j, j < 82 → j ∉ ([] : List Nat) → F1 j = F0 j) → ¬ ((0 ≤ k.toInt ∧ k.toInt ≤ n) ∧ 0 ≤ i.toInt ∧ i.toInt < k.toInt) → (pI 3 X1 X2 (fun x F' => qC [] F F' ∧ x = ifP ((0 ≤ k.toInt ∧ k.toInt ≤ n) ∧ 0 ≤ i.toInt ∧ i.toInt < k.toInt) (Int32.ofInt (suA T W k.toInt.toNat i.toInt.toNat)) (-1))) (some (.int (-1 : Int32))) (sy_dh F1 X1 X2 (iv_H 3)) := fun F1 hb gg h => ⟨_, F1, rfl, rfl, qq_src (qq_mk hb gg (by decide)) k0, by rw [ifP_n h]⟩
  refine j3su_0 (by decide) F0 X1 X2 (hd_iveq0 hC.1 k0) ?_ ?_ ?_ ?_ ?_
  · intro c0 F1 hb gg
    exact bad F1 hb gg (fun z => by omega)
  · intro c0 c1 F1 hb gg
    exact bad F1 hb gg (fun z => by omega)
  · intro c0 c1 c2 F1 hb gg
    exact bad F1 hb gg (fun z => by omega)
  · intro c0 c1 c2 c3 F1 hb gg
    exact bad F1 hb gg (fun z => by omega)
  · intro c0 c1 c2 c3 F1 hb gg e82 j82 e83 j83
    rw [ifP_y ⟨⟨by omega, by omega⟩, by omega, by omega⟩]
    have q1 : qC [] F F1 := qq_src (qq_mk hb gg (by decide)) k0
    obtain ⟨hR1, hW1⟩ := j3td_q F hR hW q1
    refine hd_calI (R := fun x F' => qC [] F1 F' ∧ x.toInt = rwA T W (sy_i F1 82).toInt.toNat) (nh := 82) (nv := 84) (s := 3) (s1 := 3) (d1 := 3) (M1 := jm_M70) (As := [.inl (.ref 70), .inl (.ref 20), .inr (.inl 82)]) (rest := []) jm_ok111 rfl rfl (by decide) (by decide +kernel) (j3rc_V F1 X1 X2 (xC_q (by decide) hC q1 (by decide)) hR1 hW1 (by omega) _ (by omega)) (fun F3 F' x hR p1 p2 p3 => ?_)
    obtain ⟨r1, r2⟩ := hR
    have q3 : qC [] F F3 := qq_trans q1 (qC_dst r1 p1)
    rw [show (sy_i F1 82).toInt.toNat = k.toInt.toNat by omega] at r2
    have a83 : (sy_i F3 83).toInt = i.toInt := by rw [eI (p2 83 (by decide) (by decide))]; omega
    have a84 : (sy_i F3 84).toInt = rwA T W k.toInt.toNat := by rw [zz_i p3]; exact r2
    refine j3su_40 (by decide) F3 X1 X2 q3.1 ?_ ?_
    · intro c4 F4 hb4 g4
      refine ⟨_, F4, rfl, rfl, qq_on q3 hb4 g4 (by decide), ?_⟩
      unfold suA
      rw [if_neg (fun z => by omega)]
      rfl
    · intro c4 F4 hb4 g4 b82 l82
      have q4 : qC [] F F4 := qq_on q3 hb4 g4 (by decide)
      obtain ⟨hR4, hW4⟩ := j3td_q F hR hW q4
      refine hd_calI (R := fun x F' => qC [] F4 F' ∧ x.toInt = mtA T W (sy_i F4 82).toInt.toNat) (nh := 82) (nv := 83) (s := 3) (s1 := 3) (d1 := 2) (M1 := jm_M71) (As := [.inl (.ref 70), .inl (.ref 20), .inr (.inl 82)]) (rest := []) jm_ok111 rfl rfl (by decide) (by decide +kernel) (j3ft_V F4 X1 X2 (xC_q (by decide) hC q4 (by decide)) hR4 hW4 (by omega) _ (by omega)) (fun F5 F6 y hR5 u1 u2 u3 => ?_)
      obtain ⟨s1, s2⟩ := hR5
      have q5 : qC [] F F5 := qq_trans q4 (qC_dst s1 u1)
      rw [show (sy_i F4 82).toInt.toNat = i.toInt.toNat by omega] at s2
      have d82 : (sy_i F5 82).toInt = i.toInt := by rw [eI (u2 82 (by decide) (by decide))]; omega
      have d83 : (sy_i F5 83).toInt = mtA T W i.toInt.toNat := by rw [zz_i u3]; exact s2
      refine j3su_55 (by decide) F5 X1 X2 q5.1 ?_ ?_
      · intro c5 F7 hb7 g7
        refine ⟨_, F7, rfl, rfl, qq_on q5 hb7 g7 (by decide), ?_⟩
        unfold suA
        rw [if_neg (fun z => by omega)]
        rfl
      · intro c5 F7 hb7 g7 w82 v82
        have q7 : qC [] F F7 := qq_on q5 hb7 g7 (by decide)
        obtain ⟨hR7, hW7⟩ := j3td_q F hR hW q7
        refine hd_calI (R := fun x F' => qC [] F7 F' ∧ x.toInt = ffA T (W (sy_i F7 82).toInt.toNat)) (nh := 82) (nv := 82) (s := 3) (s1 := 3) (d1 := 2) (M1 := jm_M72) (As := [.inl (.ref 70), .inl (.ref 20), .inr (.inl 82)]) (rest := []) jm_ok111 rfl rfl (by decide) (by decide +kernel) (j3ff_V F7 X1 X2 (xC_q (by decide) hC q7 (by decide)) hR7 hW7 (by omega) _ (by omega)) (fun F8 F9 y2 hR8 t1 t2 t3 => ?_)
        obtain ⟨m1, m2⟩ := hR8
        have q8 : qC [] F F8 := qq_trans q7 (qC_dst m1 t1)
        rw [show (sy_i F7 82).toInt.toNat = i.toInt.toNat by omega] at m2
        refine j3su_81 (by decide) F8 X1 X2 q8.1 ?_
        intro FA hbA gA
        refine ⟨_, FA, rfl, rfl, qq_on q8 hbA gA (by decide), ?_⟩
        unfold suA
        rw [if_pos ⟨by omega, by omega⟩, zz_i t3]
        exact (ofi m2).symm
theorem j3as_V (hC : xC 18 T F) (hR : rstC 18 T F) (hW : tdC n W (sy_ai F 80) (sy_ai F 81)) (h79 : (sy_i F 79).toInt = n) (k : Int32) : jm_T Ls xs 4 jm_M112 [.ref 8, .int k] (sy_dh F X1 X2 (iv_H 3)) 0 0 (pI 3 X1 X2 (fun x F' => qC [] F F' ∧ x = ifP (0 ≤ k.toInt ∧ k.toInt ≤ n) (Int32.ofInt (akA T W k.toInt.toNat)) (-1))) := by
  have x79 := nz_bx hC.1 (k := 79) (lo := 0) (hi := 7) rfl
  refine C_T (by decide) [k] [.inl (.ref 8), .inr (.inl 82)] jm_ok112 (by decide) rfl (fun F0 k0 ki => ?_)
  have i82 : sy_i F0 82 = k := ki 0
  have z82 : (sy_i F0 82).toInt = k.toInt := congrArg Int32.toInt i82
  have e79 : (sy_i F0 79).toInt = n := by rw [nz_fi (k0 79 (by decide))]; exact h79
  refine j3as_0 (by decide) F0 X1 X2 (hd_iveq0 hC.1 k0) ?_ ?_ ?_ ?_
  · intro c0 F1 hb gg
    exact ⟨_, F1, rfl, rfl, qq_src (qq_mk hb gg (by decide)) k0, by rw [ifP_n (fun z => by omega)]⟩
  · intro c0 c1 F1 hb gg
    exact ⟨_, F1, rfl, rfl, qq_src (qq_mk hb gg (by decide)) k0, by rw [ifP_n (fun z => by omega)]⟩
  · intro c0 c1 c2 F1 hb gg
    refine ⟨_, F1, rfl, rfl, qq_src (qq_mk hb gg (by decide)) k0, ?_⟩
    unfold akA
    rw [ifP_y ⟨by omega, by omega⟩, if_pos (Or.inl (by omega))]
    rfl
  · intro c0 c1 c2 F1 hb gg e82 j82
    rw [ifP_y ⟨by omega, by omega⟩]
    have q1 : qC [] F F1 := qq_src (qq_mk hb gg (by decide)) k0
    obtain ⟨hR1, hW1⟩ := j3td_q F hR hW q1
    refine hd_calI (R := fun x F' => qC [] F1 F' ∧ x.toInt = rwA T W (sy_i F1 82).toInt.toNat) (nh := 82) (nv := 83) (s := 3) (s1 := 3) (d1 := 3) (M1 := jm_M70) (As := [.inl (.ref 70), .inl (.ref 20), .inr (.inl 82)]) (rest := []) jm_ok112 rfl rfl (by decide) (by decide +kernel) (j3rc_V F1 X1 X2 (xC_q (by decide) hC q1 (by decide)) hR1 hW1 (by omega) _ (by omega)) (fun F3 F' x hR p1 p2 p3 => ?_)
    obtain ⟨r1, r2⟩ := hR
    have q3 : qC [] F F3 := qq_trans q1 (qC_dst r1 p1)
    rw [show (sy_i F1 82).toInt.toNat = k.toInt.toNat by omega] at r2
    have a82 : (sy_i F3 82).toInt = k.toInt := by rw [eI (p2 82 (by decide) (by decide))]; omega
    have a83 : (sy_i F3 83).toInt = rwA T W k.toInt.toNat := by rw [zz_i p3]; exact r2
    refine j3as_33 (by decide) F3 X1 X2 q3.1 ?_ ?_
    · intro c4 F4 hb4 g4 b82 l82
      have q4 : qC [] F F4 := qq_on q3 hb4 g4 (by decide)
      obtain ⟨hR4, hW4⟩ := j3td_q F hR hW q4
      refine hd_calI (R := fun x F' => qC [] F4 F' ∧ x.toInt = wdN (mtA T W) (sy_i F4 82).toInt.toNat) (nh := 82) (nv := 82) (s := 3) (s1 := 3) (d1 := 3) (M1 := jm_M73) (As := [.inl (.ref 70), .inl (.ref 20), .inr (.inl 82)]) (rest := []) jm_ok112 rfl rfl (by decide) (by decide +kernel) (j3wd_V F4 X1 X2 (xC_q (by decide) hC q4 (by decide)) hR4 hW4 (by omega) _ (by omega)) (fun F5 F6 y hR5 u1 u2 u3 => ?_)
      obtain ⟨s1, s2⟩ := hR5
      have q5 : qC [] F F5 := qq_trans q4 (qC_dst s1 u1)
      rw [show (sy_i F4 82).toInt.toNat = k.toInt.toNat by omega] at s2
      refine j3as_51 (by decide) F5 X1 X2 q5.1 ?_
      intro F7 hb7 g7
      refine ⟨_, F7, rfl, rfl, qq_on q5 hb7 g7 (by decide), ?_⟩
      unfold akA
      rw [if_neg (fun z => by omega), zz_i u3]
      exact (ofi s2).symm
    · intro c4 F4 hb4 g4
      refine ⟨_, F4, rfl, rfl, qq_on q3 hb4 g4 (by decide), ?_⟩
      unfold akA
      rw [if_pos (Or.inr (by omega))]
      rfl
end TO3
end
section
/-! ===== rows, sure, ask: the reference ===== -/
def s7 (k : Nat) : Nat := 7 ^ k
theorem s7_s (k : Nat) : s7 (k + 1) = s7 k * 7 := by
  unfold s7
  rw [Nat.pow_succ]
theorem s7_le {k : Nat} (hk : k ≤ 7) : s7 k ≤ 823543 := p7_le hk
theorem s7_pos (k : Nat) : 0 < s7 k := p7_pos k
def ubS : List Nat → Int32
  | [] => 0
  | d :: l => ubS l ||| ((1 : Int32) <<< (Int32.ofInt (d : Int) &&& 31))
theorem uq_0 : ∀ f : Fin 7, (((0 : Int32) >>> (Int32.ofInt (f.val : Int) &&& 31)) &&& 1) = 0 := by decide +kernel
theorem uq_b : ∀ d : Fin 7, ∀ f : Fin 7, ∀ m : Fin 128, (((Int32.ofNat m.val ||| ((1 : Int32) <<< (Int32.ofInt (d.val : Int) &&& 31))) >>> (Int32.ofInt (f.val : Int) &&& 31)) &&& 1) = if f.val = d.val then 1 else ((Int32.ofNat m.val >>> (Int32.ofInt (f.val : Int) &&& 31)) &&& 1) := by decide +kernel
theorem ub_in : ∀ l : List Nat, (∀ d, d ∈ l → d < 7) → ∃ m : Nat, m < 128 ∧ ubS l = Int32.ofNat m
  | [], _ => ⟨0, by decide, rfl⟩
  | d :: l, h => by
    obtain ⟨m, h1, h2⟩ := ub_in l (fun e he => h e (List.mem_cons_of_mem _ he))
    have hd := h d List.mem_cons_self
    refine ⟨m ||| 2 ^ d, ?_, ?_⟩
    · exact Nat.or_lt_two_pow (n := 7) h1 (Nat.pow_lt_pow_right (by decide) hd)
    · show ubS l ||| ((1 : Int32) <<< (Int32.ofInt (d : Int) &&& 31)) = _
      rw [h2]
      exact mk_bit ⟨d, hd⟩ ⟨m, h1⟩
theorem ub_at : ∀ (l : List Nat), (∀ d, d ∈ l → d < 7) → ∀ f : Nat, f < 7 → ((ubS l >>> (Int32.ofInt (f : Int) &&& 31)) &&& 1) = if l.contains f = true then 1 else 0
  | [], _, f, hf => uq_0 ⟨f, hf⟩
  | d :: l, h, f, hf => by
    obtain ⟨m, h1, h2⟩ := ub_in l (fun e he => h e (List.mem_cons_of_mem _ he))
    have ih := ub_at l (fun e he => h e (List.mem_cons_of_mem _ he)) f hf
    have hd := h d List.mem_cons_self
    show (((ubS l ||| ((1 : Int32) <<< (Int32.ofInt (d : Int) &&& 31))) >>> (Int32.ofInt (f : Int) &&& 31)) &&& 1) = _
    rw [h2] at ih ⊢
    have k : (((Int32.ofNat m ||| ((1 : Int32) <<< (Int32.ofInt (d : Int) &&& 31))) >>> (Int32.ofInt (f : Int) &&& 31)) &&& 1) = if f = d then 1 else ((Int32.ofNat m >>> (Int32.ofInt (f : Int) &&& 31)) &&& 1) := uq_b ⟨d, hd⟩ ⟨f, hf⟩ ⟨m, h1⟩
    rw [k, ih, List.contains_cons]
    by_cases q : f = d
    · rw [if_pos q, q, beq_self_eq_true, Bool.true_or, if_pos rfl]
    · rw [if_neg q, show (f == d) = false from beq_eq_false_iff_ne.mpr q, Bool.false_or]
theorem us_7 : ∀ (n c d : Nat), d ∈ usd n c → d < 7
  | 0, _, _, h => absurd h List.not_mem_nil
  | n + 1, c, d, h => by
    have h : d ∈ c % 7 :: usd n (c / 7) := h
    rcases List.mem_cons.mp h with z | z
    · omega
    · exact us_7 n (c / 7) d z
theorem ub_y {n c d : Nat} (hd : d < 7) (h : oq (((ubS (usd n c) >>> (Int32.ofInt (d : Int) &&& 31)) &&& (1 : Int32)).toInt) 1) : (usd n c).contains d = true := by
  rw [ub_at _ (us_7 n c) d hd] at h
  by_cases q : (usd n c).contains d = true
  · exact q
  · rw [if_neg q] at h
    exact absurd (show ((0 : Int32).toInt) = 1 from h) (by decide)
theorem ub_n {n c d : Nat} (hd : d < 7) (h : ¬ oq (((ubS (usd n c) >>> (Int32.ofInt (d : Int) &&& 31)) &&& (1 : Int32)).toInt) 1) : (usd n c).contains d = false := by
  rw [ub_at _ (us_7 n c) d hd] at h
  by_cases q : (usd n c).contains d = true
  · rw [if_pos q] at h
    exact absurd (show oq ((1 : Int32).toInt) 1 from (by decide : (1 : Int32).toInt = 1)) h
  · exact Bool.eq_false_iff.mpr q
theorem dg_eq : ∀ (n i c : Nat), i < n → dgN n i c = c / s7 (n - 1 - i) % 7
  | 0, _, _, h => absurd h (by omega)
  | n + 1, i, c, h => by
    show (if i = n then c % 7 else dgN n i (c / 7)) = _
    by_cases q : i = n
    · rw [if_pos q, q, show n + 1 - 1 - n = 0 by omega, show s7 0 = 1 from rfl, Nat.div_one]
    · rw [if_neg q, dg_eq n i (c / 7) (by omega), Nat.div_div_eq_div_mul, show n + 1 - 1 - i = n - 1 - i + 1 by omega, s7_s, Nat.mul_comm 7]
section OKC
variable {K W : Nat → Int32 × Int32} {nf : Nat}
theorem ok_y {i c : Nat} (h : okc K W nf i (c / 7) = true) (h1 : c % 7 < nf) (h2 : (usd i (c / 7)).contains (c % 7) = false) (h3 : K (c % 7) = W i) : okc K W nf (i + 1) c = true := by
  show (okc K W nf i (c / 7) && (decide (c % 7 < nf) && !(usd i (c / 7)).contains (c % 7) && decide (K (c % 7) = W i))) = true
  rw [h, decide_eq_true h1, h2, decide_eq_true h3]
  rfl
theorem ok_n {i c : Nat} (h : ¬ (c % 7 < nf ∧ (usd i (c / 7)).contains (c % 7) = false ∧ K (c % 7) = W i)) : okc K W nf (i + 1) c ≠ true := by
  intro z
  have z : (okc K W nf i (c / 7) && (decide (c % 7 < nf) && !(usd i (c / 7)).contains (c % 7) && decide (K (c % 7) = W i))) = true := z
  simp only [Bool.and_eq_true, decide_eq_true_eq, Bool.not_eq_true'] at z
  exact h ⟨z.2.1.1, z.2.1.2, z.2.2⟩
theorem ok_dn : ∀ (m i c : Nat), okc K W nf (i + m) c = true → okc K W nf i (c / s7 m) = true
  | 0, i, c, h => by
    rw [show s7 0 = 1 from rfl, Nat.div_one]
    exact h
  | m + 1, i, c, h => by
    have h : (okc K W nf (i + m) (c / 7) && (decide (c % 7 < nf) && !(usd (i + m) (c / 7)).contains (c % 7) && decide (K (c % 7) = W (i + m)))) = true := h
    simp only [Bool.and_eq_true] at h
    have k := ok_dn m i (c / 7) h.1
    rw [Nat.div_div_eq_div_mul, Nat.mul_comm 7, ← s7_s] at k
    exact k
/-- a row that cannot be -/
theorem ok_no {i k c : Nat} (hi : i < k) (h : ¬ (c / s7 (k - 1 - i) % 7 < nf ∧ (usd i (c / s7 (k - i))).contains (c / s7 (k - 1 - i) % 7) = false ∧ K (c / s7 (k - 1 - i) % 7) = W i)) : okc K W nf k c ≠ true := by
  intro z
  have e : okc K W nf (i + 1 + (k - 1 - i)) c = true := by
    rw [show i + 1 + (k - 1 - i) = k by omega]
    exact z
  have k1 := ok_dn (k - 1 - i) (i + 1) c e
  refine ok_n (fun w => h ?_) k1
  rw [Nat.div_div_eq_div_mul, ← s7_s, show k - 1 - i + 1 = k - i by omega] at w
  exact w
theorem ok_go {i k c : Nat} (hi : i < k) (h : okc K W nf i (c / s7 (k - i)) = true) (h1 : c / s7 (k - 1 - i) % 7 < nf) (h2 : (usd i (c / s7 (k - i))).contains (c / s7 (k - 1 - i) % 7) = false) (h3 : K (c / s7 (k - 1 - i) % 7) = W i) : okc K W nf (i + 1) (c / s7 (k - (i + 1))) = true := by
  have e : c / s7 (k - 1 - i) / 7 = c / s7 (k - i) := by rw [Nat.div_div_eq_div_mul, ← s7_s, show k - 1 - i + 1 = k - i by omega]
  rw [show k - (i + 1) = k - 1 - i by omega]
  rw [← e] at h h2
  exact ok_y h h1 h2 h3
theorem us_go {i k c : Nat} (hi : i < k) : usd (i + 1) (c / s7 (k - (i + 1))) = (c / s7 (k - 1 - i) % 7) :: usd i (c / s7 (k - i)) := by
  have e : c / s7 (k - 1 - i) / 7 = c / s7 (k - i) := by rw [Nat.div_div_eq_div_mul, ← s7_s, show k - 1 - i + 1 = k - i by omega]
  rw [show k - (i + 1) = k - 1 - i by omega]
  show (c / s7 (k - 1 - i) % 7) :: usd i (c / s7 (k - 1 - i) / 7) = _
  rw [e]
end OKC
theorem dg32 {x p : Int32} {c q : Nat} (hx : x.toInt = c) (hp : p.toInt = q) : ((x / p) - (x / p) / (7 : Int32) * (7 : Int32)).toInt = ((c / q % 7 : Nat) : Int) := by
  have b1 := x.toInt_lt
  have b2 : c / q ≤ c := Nat.div_le_self c q
  have hd : (x / p).toInt = ((c / q : Nat) : Int) := by
    rw [Int32.toInt_div, hx, hp, ← Int.ofNat_tdiv]
    rw [hx] at b1
    generalize c / q = z at b2 ⊢
    exact Jvm.Kit.bmod32 (by omega) (by omega)
  rw [iv_rem, hd, (by decide : (7 : Int32).toInt = ((7 : Nat) : Int))]
  exact (Int.ofNat_tmod (c / q) 7).symm
section RSV
variable {Ls : Nat} {xs : Nat → Int32} (F : Nat → sy_d) (X1 X2 : List jm_c)
theorem sv_L {k : Nat} (hk : k ≤ 7) : ∀ (m : Nat) (F1 : Nat → sy_d) (j : Nat), j + m = k → qR [] F F1 → (sy_i F1 69).toInt = k → (sy_i F1 70).toInt = s7 j → (sy_i F1 71).toInt = j →
    hd_W Ls xs 1 jm_M230 (pI 4 X1 X2 (fun x F' => qR [] F F' ∧ x.toInt = s7 k)) (4, sy_dL F1 [some (.inr (.inl 69)), some (.inr (.inl 70)), some (.inr (.inl 71))], sy_dS F1 [], sy_dh F1 X1 X2 (iv_H 4), 0, 0) := by
  intro m
  induction m with
  | zero =>
    intro F1 j hm hq e69 e70 e71
    have hp := s7_le (k := j) (by omega)
    refine zsv_4 (by decide) F1 X1 X2 hq.1 (by omega) (by omega) (by omega) ?_ ?_
    · intro c0 F2 hb gg
      refine ⟨_, F2, rfl, rfl, qq_on hq hb gg (by decide), ?_⟩
      rw [e70, show j = k by omega]
    · intro c0
      exact absurd c0 (by omega)
  | succ m ih =>
    intro F1 j hm hq e69 e70 e71
    have hp := s7_le (k := j) (by omega)
    have hs := s7_s j
    refine zsv_4 (by decide) F1 X1 X2 hq.1 (by omega) (by omega) (by omega) ?_ ?_
    · intro c0
      exact absurd c0 (by omega)
    · intro c0 F2 hb gg e2 j2 e3 j3 e4 j4
      exact ih F2 (j + 1) (by omega) (qq_on hq hb gg (by decide)) (by omega) (by omega) (by omega)
theorem sv_V (hB : iv_in F iv_B4) (k : Int32) (hk : 0 ≤ k.toInt ∧ k.toInt ≤ 7) : jm_T Ls xs 1 jm_M230 [.int k] (sy_dh F X1 X2 (iv_H 4)) 0 0 (pI 4 X1 X2 (fun x F' => qR [] F F' ∧ x.toInt = s7 k.toInt.toNat)) := by
  refine R_T [k] [.inr (.inl 69)] jm_ok230 (by decide) rfl (fun F0 k0 ki => ?_)
  have i69 : sy_i F0 69 = k := ki 0
  have z69 : (sy_i F0 69).toInt = k.toInt := congrArg Int32.toInt i69
  refine zsv_0 (by decide) F0 X1 X2 (hd_iveq hB k0) ?_
  intro F1 hb gg e69 j69 e70 j70 e71 j71
  exact sv_L F X1 X2 (k := k.toInt.toNat) (by omega) k.toInt.toNat F1 0 (by omega) (qq_src (qq_mk hb gg (by decide)) k0) (by omega) e70 e71
end RSV
section RIR
variable {Ls : Nat} {xs : Nat → Int32} {T : tX} {W : Nat → Int32 × Int32} {n : Int} (F : Nat → sy_d) (X1 X2 : List jm_c)
theorem ir_L (hC : cR T F) (hL : ∀ f, f < nfS T → (sy_ai F 65).getD f 0 = rsS T f) (hW : tdC n W (sy_ai F 63) (sy_ai F 64)) (hn : n ≤ 7) {c k : Nat} (hk : (k : Int) ≤ n) : ∀ (m : Nat) (F1 : Nat → sy_d) (i : Nat), i + m = k → qR [] F F1 → (sy_i F1 69).toInt = c → (sy_i F1 70).toInt = k → sy_i F1 71 = ubS (usd i (c / s7 (k - i))) → (sy_i F1 72).toInt = i → okc (kfT T) W (nfS T) i (c / s7 (k - i)) = true →
    hd_W Ls xs 3 jm_M231 (pI 4 X1 X2 (fun x F' => qR [] F F' ∧ x.toInt = if okc (kfT T) W (nfS T) k c = true then 1 else 0)) (5, sy_dL F1 [some (.inl (.ref 1000)), some (.inr (.inl 69)), some (.inr (.inl 70)), some (.inr (.inl 71)), some (.inr (.inl 72)), none], sy_dS F1 [], sy_dh F1 X1 X2 (iv_H 4), 0, 0) := by
  have l7 : nfS T ≤ 7 := hC.2.2.1.1
  intro m
  induction m with
  | zero =>
    intro F1 i hm hq e69 e70 j71 e72 ho
    refine zir_5 (by decide) F1 X1 X2 hq.1 (by omega) (by omega) ?_ ?_
    · intro c0 F2 hb gg
      refine ⟨_, F2, rfl, rfl, qq_on hq hb gg (by decide), ?_⟩
      rw [show k - i = 0 by omega, show s7 0 = 1 from rfl, Nat.div_one, show i = k by omega] at ho
      rw [if_pos ho]
      decide
    · intro c0
      exact absurd c0 (by omega)
  | succ m ih =>
    intro F1 i hm hq e69 e70 j71 e72 ho
    refine zir_5 (by decide) F1 X1 X2 hq.1 (by omega) (by omega) ?_ ?_
    · intro c0
      exact absurd c0 (by omega)
    · intro c0 F2 hb gg e2 j2 e3 j3 e4 j4 e5 j5 e6 j6
      have q2 : qR [] F F2 := qq_on hq hb gg (by decide)
      refine hd_calI (R := fun x F' => qR [] F2 F' ∧ x.toInt = s7 (sy_i F2 73).toInt.toNat) (nh := 69) (nv := 73) (s := 4) (s1 := 4) (d1 := 1) (M1 := jm_M230) (As := [.inr (.inl 73)]) (rest := [.inr (.inl 69)]) jm_ok231 rfl rfl (by decide) (by decide +kernel) (sv_V F2 X1 X2 q2.1 _ (by omega)) (fun F3 F' x hR p1 p2 p3 => ?_)
      obtain ⟨r1, r2⟩ := hR
      have q3 : qR [] F F3 := qq_trans q2 (qR_dst r1 p1)
      rw [show (sy_i F2 73).toInt.toNat = k - 1 - i by omega] at r2
      have a69 : (sy_i F3 69).toInt = c := by rw [eI (p2 69 (by decide) (by decide))]; omega
      have a70 : (sy_i F3 70).toInt = k := by rw [eI (p2 70 (by decide) (by decide))]; omega
      have a71 : sy_i F3 71 = ubS (usd i (c / s7 (k - i))) := by rw [eI (p2 71 (by decide) (by decide)), j4]; exact j71
      have a72 : (sy_i F3 72).toInt = i := by rw [eI (p2 72 (by decide) (by decide))]; omega
      have a73 : (sy_i F3 73).toInt = s7 (k - 1 - i) := by rw [zz_i p3]; exact r2
      have hp := s7_le (k := k - 1 - i) (by omega)
      have hz := s7_pos (k - 1 - i)
      refine zir_21 (by decide) F3 X1 X2 q3.1 (by omega) ?_
      intro F4 hb4 g4 b69 l69 b70 l70 b71 l71 b72 l72 b73 l73
      have q4 : qR [] F F4 := qq_on q3 hb4 g4 (by decide)
      have c4 := cR_q hC q4 (by decide)
      have d73 : (sy_i F4 73).toInt = ((c / s7 (k - 1 - i) % 7 : Nat) : Int) := by rw [b73]; exact dg32 a69 a73
      have d7 : c / s7 (k - 1 - i) % 7 < 7 := Nat.mod_lt _ (by decide)
      have v71 : sy_i F4 71 = ubS (usd i (c / s7 (k - i))) := l71.trans a71
      clear j71 a71 l71 b73 l73
      generalize hd : c / s7 (k - 1 - i) % 7 = dg at d73 d7
      have v73 : sy_i F4 73 = Int32.ofInt (dg : Int) := (ofi d73).symm
      have en : ((sy_ai F4 31).getD (sy_i F4 11).toInt.toNat 0).toInt = (nfS T : Int) := (rX_n c4.2.1).1
      have c11 := nz_bx c4.1 (k := 11) (lo := 0) (hi := 1) rfl
      have hi : (i : Int) < n := by omega
      have r33 : dg < nfS T → (sy_ai F4 33).getD (7 * (sy_i F4 11).toInt + (sy_i F4 73).toInt).toNat 0 = Int32.ofInt (tF T dg).2.1 := fun h => by
        rw [show (7 * (sy_i F4 11).toInt + (sy_i F4 73).toInt).toNat = 7 * (sy_i F4 11).toInt.toNat + dg by omega]
        exact (ofi (rX_f c4.2.1 h).2.1).symm
      have r65 : dg < nfS T → (sy_ai F4 65).getD (sy_i F4 73).toInt.toNat 0 = rsS T dg := fun h => by
        rw [show (sy_i F4 73).toInt.toNat = dg by omega, qq_a q4 (by decide) (by decide)]
        exact hL dg h
      have r63 : (sy_ai F4 63).getD (sy_i F4 72).toInt.toNat 0 = (W i).1 := by
        rw [show (sy_i F4 72).toInt.toNat = i by omega, qq_a q4 (by decide) (by decide)]
        exact (hW i hi).1
      have r64 : (sy_ai F4 64).getD (sy_i F4 72).toInt.toNat 0 = (W i).2 := by
        rw [show (sy_i F4 72).toInt.toNat = i by omega, qq_a q4 (by decide) (by decide)]
        exact (hW i hi).2
      have bad : ¬ (dg < nfS T ∧ (usd i (c / s7 (k - i))).contains dg = false ∧ kfT T dg = W i) → ∀ F5 : Nat → sy_d, iv_in F5 iv_B4 → (∀ j, j < 69 → j ∉ ([] : List Nat) → F5 j = F4 j) → pI 4 X1 X2 (fun x F' => qR [] F F' ∧ x.toInt = if okc (kfT T) W (nfS T) k c = true then 1 else 0) (some (.int (0 : Int32))) (sy_dh F5 X1 X2 (iv_H 4)) := fun h F5 hb5 g5 => by
        refine ⟨_, F5, rfl, rfl, qq_on q4 hb5 g5 (by decide), ?_⟩
        rw [if_neg (ok_no (i := i) (by omega) (by rw [hd]; exact h))]
        decide
      refine zir_25 (by decide) F4 X1 X2 q4.1 (by omega) (by omega) (by omega) ?_ ?_ ?_ ?_ ?_
      · intro c1 c2 F5 hb5 g5
        exact bad (fun z => by have := z.1; omega) F5 hb5 g5
      · intro c1 c2 c3 F5 hb5 g5
        rw [v71, v73] at c3
        have := ub_y d7 c3
        exact bad (fun z => by rw [z.2.1] at this; exact absurd this (by decide)) F5 hb5 g5
      · intro c1 c2 c3 c4' F5 hb5 g5
        rw [r33 (by omega), r63] at c4'
        exact bad (fun z => kf_1 c4' z.2.2) F5 hb5 g5
      · intro c1 c2 c3 c4' c5 F5 hb5 g5 w69 u69 w70 u70 w71 u71 w72 u72
        have hdn : dg < nfS T := by omega
        rw [r33 hdn, r63] at c4'
        rw [r65 hdn, r64] at c5
        rw [v71, v73] at c3
        have hc := ub_n d7 c3
        have hk' := kf_y c4' c5
        clear c3 c4' c5 bad r33 r65 r63 r64
        refine ih F5 (i + 1) (by omega) (qq_on q4 hb5 g5 (by decide)) (by omega) (by omega) ?_ (by omega) ?_
        · rw [u71, v71, v73, us_go (by omega), hd]
          rfl
        · exact ok_go (by omega) ho (by rw [hd]; exact hdn) (by rw [hd]; exact hc) (by rw [hd]; exact hk')
      · intro c1 c2 c3 c4' c5 F5 hb5 g5
        rw [r65 (by omega), r64] at c5
        exact bad (fun z => kf_2 c5 z.2.2) F5 hb5 g5
theorem ir_V (hC : cR T F) (hL : ∀ f, f < nfS T → (sy_ai F 65).getD f 0 = rsS T f) (hW : tdC n W (sy_ai F 63) (sy_ai F 64)) (hn : n ≤ 7) (c k : Int32) (hc : 0 ≤ c.toInt ∧ c.toInt < s7 k.toInt.toNat) (hk : 0 ≤ k.toInt ∧ k.toInt ≤ n) : jm_T Ls xs 3 jm_M231 [.ref 1000, .int c, .int k] (sy_dh F X1 X2 (iv_H 4)) 0 0 (pI 4 X1 X2 (fun x F' => qR [] F F' ∧ x.toInt = if okc (kfT T) W (nfS T) k.toInt.toNat c.toInt.toNat = true then 1 else 0)) := by
  refine R_T [c, k] [.inl (.ref 1000), .inr (.inl 69), .inr (.inl 70)] jm_ok231 (by decide) rfl (fun F0 k0 ki => ?_)
  have i69 : sy_i F0 69 = c := ki 0
  have i70 : sy_i F0 70 = k := ki 1
  have z69 : (sy_i F0 69).toInt = c.toInt := congrArg Int32.toInt i69
  have z70 : (sy_i F0 70).toInt = k.toInt := congrArg Int32.toInt i70
  refine zir_0 (by decide) F0 X1 X2 (hd_iveq hC.1 k0) ?_
  intro F1 hb gg e69 j69 e70 j70 e71 j71 e72 j72
  exact ir_L F X1 X2 hC hL hW hn (c := c.toInt.toNat) (k := k.toInt.toNat) (by omega) k.toInt.toNat F1 0 (by omega) (qq_src (qq_mk hb gg (by decide)) k0) (by omega) (by omega) j71 e72 rfl
end RIR
theorem hz9_m {s : Int32} (h : 0 ≤ s.toInt) (h2 : s.toInt ≤ 9) : Int32.ofInt (hdz 0 9 s.toInt) = s := by
  unfold hdz
  rw [if_neg (by omega), if_neg (by omega)]
  exact Int32.ofInt_toInt s
theorem hz9_h {s : Int32} (h : 9 < s.toInt) : Int32.ofInt (hdz 0 9 s.toInt) = 9 := by
  unfold hdz
  rw [if_neg (by omega), if_pos h]
  rfl
theorem hz9_l {s : Int32} (h : s.toInt < 0) : Int32.ofInt (hdz 0 9 s.toInt) = 0 := by
  unfold hdz
  rw [if_pos h]
  rfl
section RFA
variable {Ls : Nat} {xs : Nat → Int32} {T : tX} (F : Nat → sy_d) (X1 X2 : List jm_c)
theorem fr_A (hC : cR T F) {k : Int} {Q : Option Value → jm_h → Prop} (K : ∀ F2 : Nat → sy_d, qR [17, 52, 53, 65] F F2 → (sy_i F2 69).toInt = k → (sy_i F2 70).toInt = 0 → (∀ j, j < nfS T → (sy_ai F2 65).getD j 0 = rsS T j) → hd_W Ls xs 6 jm_M232 Q (79, sy_dL F2 [some (.inl (.ref 1000)), some (.inr (.inl 69)), some (.inr (.inl 70)), none], sy_dS F2 [], sy_dh F2 X1 X2 (iv_H 4), 0, 0)) : ∀ (m : Nat) (F1 : Nat → sy_d) (f : Nat), f + m = nfS T → qR [17, 52, 53, 65] F F1 → (sy_i F1 69).toInt = k → (sy_i F1 70).toInt = f → (∀ j, j < f → (sy_ai F1 65).getD j 0 = rsS T j) →
    hd_W Ls xs 6 jm_M232 Q (2, sy_dL F1 [some (.inl (.ref 1000)), some (.inr (.inl 69)), some (.inr (.inl 70)), none], sy_dS F1 [], sy_dh F1 X1 X2 (iv_H 4), 0, 0) := by
  have l7 : nfS T ≤ 7 := hC.2.2.1.1
  intro m
  induction m with
  | zero =>
    intro F1 f hm hq e69 e70 hj
    have c1' := cR_q hC hq (by decide)
    have en : ((sy_ai F1 31).getD (sy_i F1 11).toInt.toNat 0).toInt = (nfS T : Int) := (rX_n c1'.2.1).1
    refine zfr_2 (by decide) F1 X1 X2 hq.1 (by omega) ?_ ?_
    · intro c0 F2 hb gg e2 j2 e3 j3
      have q12 : qR [] F1 F2 := qq_mk hb gg (by decide)
      refine K F2 (qq_on hq hb gg (by decide)) (by omega) e3 (fun j h => ?_)
      rw [qq_a q12 (by decide) (by decide)]
      exact hj j (by omega)
    · intro c0
      exact absurd c0 (by omega)
  | succ m ih =>
    intro F1 f hm hq e69 e70 hj
    have c1' := cR_q hC hq (by decide)
    have en : ((sy_ai F1 31).getD (sy_i F1 11).toInt.toNat 0).toInt = (nfS T : Int) := (rX_n c1'.2.1).1
    have c11 := nz_bx c1'.1 (k := 11) (lo := 0) (hi := 1) rfl
    have hf : f < nfS T := by omega
    have ei : (7 * (sy_i F1 11).toInt + (sy_i F1 70).toInt).toNat = 7 * (sy_i F1 11).toInt.toNat + f := by omega
    obtain ⟨t1, -, t3⟩ := rX_f c1'.2.1 (show f < T.1.length from hf)
    have r32 : (sy_ai F1 32).getD (7 * (sy_i F1 11).toInt + (sy_i F1 70).toInt).toNat 0 = Int32.ofInt (tF T f).1 := by
      rw [ei]
      exact (ofi t1).symm
    have r34 : (sy_ai F1 34).getD (7 * (sy_i F1 11).toInt + (sy_i F1 70).toInt).toNat 0 = Int32.ofInt (tF T f).2.2 := by
      rw [ei]
      exact (ofi t3).symm
    refine zfr_2 (by decide) F1 X1 X2 hq.1 (by omega) ?_ ?_
    · intro c0
      exact absurd c0 (by omega)
    · intro c0 F2 hb gg e69' j69' e70' j70' e71 j71 e72 j72 e73 j73 e74 j74 e75 j75
      have q12 : qR [] F1 F2 := qq_mk hb gg (by decide)
      have q2 : qR [17, 52, 53, 65] F F2 := qq_on hq hb gg (by decide)
      rw [r32] at j72
      rw [r34] at j74
      have k75 : sy_i F2 75 = Int32.ofInt (nfS T : Int) := by rw [j75]; exact (ofi en).symm
      clear e72 e74 e75 r32 r34 t1 t3 j75
      refine hd_calI (R := fun x F' => qR [17, 52, 53] F2 F' ∧ x.toInt = bncT T (sy_i F2 73).toInt.toNat (sy_i F2 74) 0 (sy_i F2 75)) (nh := 69) (nv := 73) (s := 4) (s1 := 4) (d1 := 5) (M1 := jm_M184) (As := [.inl (.ref 1000), .inr (.inl 73), .inr (.inl 74), .inl (.int 0), .inr (.inl 75)]) (rest := [.inr (.inl 72), .inr (.inl 71), .inl (.ref 1043)]) jm_ok232 rfl rfl (by decide) (by decide +kernel) (bo_V F2 X1 X2 (cR_q hC q2 (by decide)) _ _ _ _ (by show _ ∧ _ < ((nfS T : Nat) : Int); omega)) (fun F3 F' x hR p1 p2 p3 => ?_)
      obtain ⟨r1, r2⟩ := hR
      have q23 : qR [17, 52, 53] F2 F3 := qR_dst r1 p1
      have q3 : qR [17, 52, 53, 65] F F3 := qq_trans q2 (qq_up q23 (by decide))
      rw [show (sy_i F2 73).toInt.toNat = f by omega, j74, k75] at r2
      have a69 : (sy_i F3 69).toInt = k := by rw [eI (p2 69 (by decide) (by decide))]; omega
      have a70 : (sy_i F3 70).toInt = f := by rw [eI (p2 70 (by decide) (by decide))]; omega
      have a71 : (sy_i F3 71).toInt = f := by rw [eI (p2 71 (by decide) (by decide))]; omega
      have a72 : sy_i F3 72 = Int32.ofInt (tF T f).1 := (eI (p2 72 (by decide) (by decide))).trans j72
      have a73 : sy_i F3 73 = Int32.ofInt (bncT T f (Int32.ofInt (tF T f).2.2) 0 (Int32.ofInt (nfS T : Int))) := by rw [zz_i p3]; exact (ofi r2).symm
      have rs : rsS T f = Int32.ofInt (hdz 0 9 (sy_i F3 72 + sy_i F3 73).toInt) := by rw [a72, a73]; rfl
      have o65 : ∀ j, j < f → (sy_ai F3 65).getD j 0 = rsS T j := fun j h => by
        rw [qq_a q23 (by decide) (by decide), qq_a q12 (by decide) (by decide)]
        exact hj j h
      clear r2 a72 a73 j72 j74 k75 hj
      have go : ∀ (v : Int32) (F4 : Nat → sy_d), rsS T f = v → iv_in F4 iv_B4 → (∀ j, j < 69 → j ∉ ([65] : List Nat) → F4 j = F3 j) → sy_ai F4 65 = jm_upd (sy_ai F3 65) (sy_i F3 71).toInt.toNat v → (sy_i F4 69).toInt = (sy_i F3 69).toInt → (sy_i F4 70).toInt = (sy_i F3 70).toInt + 1 → hd_W Ls xs 6 jm_M232 Q (2, sy_dL F4 [some (.inl (.ref 1000)), some (.inr (.inl 69)), some (.inr (.inl 70)), none], sy_dS F4 [], sy_dh F4 X1 X2 (iv_H 4), 0, 0) := by
        intro v F4 hv hb4 g4 a65 b69 b70
        refine ih F4 (f + 1) (by omega) (qq_on q3 hb4 g4 (by decide)) (by omega) (by omega) (fun j h => ?_)
        rw [a65, jm_upd_at, show (sy_i F3 71).toInt.toNat = f by omega]
        by_cases z : j = f
        · rw [if_pos z, z]
          exact hv.symm
        · rw [if_neg z]
          exact o65 j (by omega)
      refine zfr_63 (by decide) F3 X1 X2 q3.1 (by omega) (fun _ _ => by omega) (fun _ _ => by omega) (fun _ => by omega) ?_ ?_ ?_
      · intro c1 c2 F4 hb4 g4 a65 b69 l69 b70 l70
        exact go _ F4 (rs.trans (hz9_m c1 c2)) hb4 g4 a65 b69 b70
      · intro c1 c2 F4 hb4 g4 a65 b69 l69 b70 l70
        exact go _ F4 (rs.trans (hz9_h c2)) hb4 g4 a65 b69 b70
      · intro c1 F4 hb4 g4 a65 b69 l69 b70 l70
        exact go _ F4 (rs.trans (hz9_l c1)) hb4 g4 a65 b69 b70
theorem fr_B (hB : iv_in F iv_B4) {k : Int} {Q : Option Value → jm_h → Prop} (K : ∀ F2 : Nat → sy_d, qR [22, 66] F F2 → (sy_i F2 69).toInt = k → (sy_i F2 70).toInt = 0 → (sy_i F2 22).toInt = 0 → (∀ j, j < 49 → (sy_ai F2 66).getD j 0 = 0) → hd_W Ls xs 6 jm_M232 Q (105, sy_dL F2 [some (.inl (.ref 1000)), some (.inr (.inl 69)), some (.inr (.inl 70)), none], sy_dS F2 [], sy_dh F2 X1 X2 (iv_H 4), 0, 0)) : ∀ (m : Nat) (F1 : Nat → sy_d) (f : Nat), f + m = 49 → qR [66] F F1 → (sy_i F1 69).toInt = k → (sy_i F1 70).toInt = f → (∀ j, j < f → (sy_ai F1 66).getD j 0 = 0) →
    hd_W Ls xs 6 jm_M232 Q (79, sy_dL F1 [some (.inl (.ref 1000)), some (.inr (.inl 69)), some (.inr (.inl 70)), none], sy_dS F1 [], sy_dh F1 X1 X2 (iv_H 4), 0, 0) := by
  intro m
  induction m with
  | zero =>
    intro F1 f hm hq e69 e70 hj
    refine zfr_79 (by decide) F1 X1 X2 hq.1 (by omega) ?_ ?_
    · intro c0 F2 hb gg e22 j22 e2 j2 e3 j3
      have q12 : qR [22] F1 F2 := qq_mk hb gg (by decide)
      refine K F2 (qq_trans (qq_up hq (by decide)) (qq_up q12 (by decide))) (by omega) e3 e22 (fun j h => ?_)
      rw [qq_a q12 (by decide) (by decide)]
      exact hj j (by omega)
    · intro c0
      exact absurd c0 (by omega)
  | succ m ih =>
    intro F1 f hm hq e69 e70 hj
    refine zfr_79 (by decide) F1 X1 X2 hq.1 (by omega) ?_ ?_
    · intro c0
      exact absurd c0 (by omega)
    · intro c0 F2 hb gg a66 e2 j2 e3 j3
      refine ih F2 (f + 1) (by omega) (qq_on hq hb gg (by decide)) (by omega) (by omega) (fun j h => ?_)
      rw [a66, jm_upd_at, show (sy_i F1 70).toInt.toNat = f by omega]
      by_cases z : j = f
      · rw [if_pos z]
      · rw [if_neg z]
        exact hj j (by omega)
/-- one way counted, row by row -/
theorem fr_D {k c : Nat} (hk : k ≤ 7) (hc : c < 823543) {Bs : Nat → Nat → Nat} (hBs : ∀ i f, Bs i f ≤ 823543) {Q : Option Value → jm_h → Prop} (K : ∀ F2 : Nat → sy_d, qR [66] F F2 → (sy_i F2 69).toInt = k → (sy_i F2 70).toInt = (c : Int) + 1 → (∀ i, i < k → ∀ f, f < 7 → ((sy_ai F2 66).getD (7 * i + f) 0).toInt = ((Bs i f + (if dgN k i c = f then 1 else 0) : Nat) : Int)) → hd_W Ls xs 6 jm_M232 Q (105, sy_dL F2 [some (.inl (.ref 1000)), some (.inr (.inl 69)), some (.inr (.inl 70)), none], sy_dS F2 [], sy_dh F2 X1 X2 (iv_H 4), 0, 0)) : ∀ (m : Nat) (F1 : Nat → sy_d) (i : Nat), i + m = k → qR [66] F F1 → (sy_i F1 69).toInt = k → (sy_i F1 70).toInt = c → (sy_i F1 71).toInt = i → (∀ j, j < k → ∀ f, f < 7 → ((sy_ai F1 66).getD (7 * j + f) 0).toInt = ((Bs j f + (if j < i ∧ dgN k j c = f then 1 else 0) : Nat) : Int)) →
    hd_W Ls xs 6 jm_M232 Q (137, sy_dL F1 [some (.inl (.ref 1000)), some (.inr (.inl 69)), some (.inr (.inl 70)), some (.inr (.inl 71))], sy_dS F1 [], sy_dh F1 X1 X2 (iv_H 4), 0, 0) := by
  intro m
  induction m with
  | zero =>
    intro F1 i hm hq e69 e70 e71 hj
    refine zfr_137 (by decide) F1 X1 X2 hq.1 (by omega) (by omega) (by omega) ?_ ?_
    · intro c0 F2 hb gg e2 j2 e3 j3
      have q12 : qR [] F1 F2 := qq_mk hb gg (by decide)
      refine K F2 (qq_on hq hb gg (by decide)) (by omega) (by omega) (fun j h f hf => ?_)
      rw [qq_a q12 (by decide) (by decide), hj j h f hf]
      by_cases z : dgN k j c = f
      · rw [if_pos ⟨by omega, z⟩, if_pos z]
      · rw [if_neg (fun w => z w.2), if_neg z]
    · intro c0
      exact absurd c0 (by omega)
  | succ m ih =>
    intro F1 i hm hq e69 e70 e71 hj
    refine zfr_137 (by decide) F1 X1 X2 hq.1 (by omega) (by omega) (by omega) ?_ ?_
    · intro c0
      exact absurd c0 (by omega)
    · intro c0 F2 hb gg e2 j2 e3 j3 e4 j4 e5 j5 e6 j6 e7 j7
      have q12 : qR [] F1 F2 := qq_mk hb gg (by decide)
      have q2 : qR [66] F F2 := qq_on hq hb gg (by decide)
      refine hd_calI (R := fun x F' => qR [] F2 F' ∧ x.toInt = s7 (sy_i F2 74).toInt.toNat) (nh := 69) (nv := 74) (s := 4) (s1 := 4) (d1 := 1) (M1 := jm_M230) (As := [.inr (.inl 74)]) (rest := [.inr (.inl 73), .inr (.inl 72), .inl (.ref 1044)]) jm_ok232 rfl rfl (by decide) (by decide +kernel) (sv_V F2 X1 X2 q2.1 _ (by omega)) (fun F3 F' x hR p1 p2 p3 => ?_)
      obtain ⟨r1, r2⟩ := hR
      have q23 : qR [] F2 F3 := qR_dst r1 p1
      have q3 : qR [66] F F3 := qq_trans q2 (qq_up q23 (by decide))
      rw [show (sy_i F2 74).toInt.toNat = k - 1 - i by omega] at r2
      have a69 : (sy_i F3 69).toInt = k := by rw [eI (p2 69 (by decide) (by decide))]; omega
      have a70 : (sy_i F3 70).toInt = c := by rw [eI (p2 70 (by decide) (by decide))]; omega
      have a71 : (sy_i F3 71).toInt = i := by rw [eI (p2 71 (by decide) (by decide))]; omega
      have a72 : (sy_i F3 72).toInt = 7 * i := by rw [eI (p2 72 (by decide) (by decide))]; omega
      have a73 : (sy_i F3 73).toInt = c := by rw [eI (p2 73 (by decide) (by decide))]; omega
      have a74 : (sy_i F3 74).toInt = s7 (k - 1 - i) := by rw [zz_i p3]; exact r2
      have hp := s7_le (k := k - 1 - i) (by omega)
      have hz := s7_pos (k - 1 - i)
      have f66 : sy_ai F3 66 = sy_ai F1 66 := (qq_a q23 (by decide) (by decide)).trans (qq_a q12 (by decide) (by decide))
      refine zfr_159 (by decide) F3 X1 X2 q3.1 (by omega) ?_
      intro F4 hb4 g4 b69 l69 b70 l70 b71 l71 b72 l72 b73 l73
      have q34 : qR [] F3 F4 := qq_mk hb4 g4 (by decide)
      have q4 : qR [66] F F4 := qq_on q3 hb4 g4 (by decide)
      have d73 : (sy_i F4 73).toInt = ((c / s7 (k - 1 - i) % 7 : Nat) : Int) := by rw [b73]; exact dg32 a73 a74
      have d7 : c / s7 (k - 1 - i) % 7 < 7 := Nat.mod_lt _ (by decide)
      rw [← dg_eq k i c (by omega)] at d73 d7
      clear b73 l73
      generalize hd : dgN k i c = dg at d73 d7
      have g66 : sy_ai F4 66 = sy_ai F1 66 := (qq_a q34 (by decide) (by decide)).trans f66
      refine zfr_163 (by decide) F4 X1 X2 q4.1 (by omega) (by omega) (by omega) ?_
      intro F5 hb5 g5 a66 w69 u69 w70 u70 w71 u71
      rw [show ((sy_i F4 72).toInt + (sy_i F4 73).toInt).toNat = 7 * i + dg by omega, g66] at a66
      refine ih F5 (i + 1) (by omega) (qq_on q4 hb5 g5 (by decide)) (by omega) (by omega) (by omega) (fun j h f hf => ?_)
      rw [a66, jm_upd_at]
      have old := hj j h f hf
      by_cases z : 7 * j + f = 7 * i + dg
      · have z1 : j = i := by omega
        have z2 : f = dg := by omega
        subst z1
        subst z2
        rw [if_neg (fun w => Nat.lt_irrefl _ w.1)] at old
        have bb := hBs j f
        rw [if_pos rfl, if_pos ⟨Nat.lt_succ_self j, hd⟩, nz_add old (by decide : (1 : Int32).toInt = 1) (by omega) (by omega)]
        omega
      · rw [if_neg z, old]
        by_cases y : j < i ∧ dgN k j c = f
        · rw [if_pos y, if_pos ⟨by omega, y.2⟩]
        · rw [if_neg y, if_neg (fun w => ?_)]
          by_cases x : j = i
          · subst x
            exact z (by rw [← hd, w.2])
          · exact y ⟨by omega, w.2⟩
end RFA
section RFC
variable {Ls : Nat} {xs : Nat → Int32} {T : tX} {W : Nat → Int32 × Int32} {n : Int} (F : Nat → sy_d) (X1 X2 : List jm_c)
noncomputable def okA (T : tX) (W : Nat → Int32 × Int32) (k c : Nat) : Bool := okc (kfT T) W (nfS T) k c
noncomputable def ctA2 (T : tX) (W : Nat → Int32 × Int32) (k m : Nat) : Nat := cntN (fun c => okA T W k c) m
noncomputable def tlA (T : tX) (W : Nat → Int32 × Int32) (k i f m : Nat) : Nat := cntN (fun c => okA T W k c && decide (dgN k i c = f)) m
theorem ct_y {k c : Nat} (h : okA T W k c = true) : ctA2 T W k (c + 1) = ctA2 T W k c + 1 := by
  show ctA2 T W k c + (if okA T W k c = true then 1 else 0) = _
  rw [if_pos h]
theorem ct_n {k c : Nat} (h : okA T W k c ≠ true) : ctA2 T W k (c + 1) = ctA2 T W k c := by
  show ctA2 T W k c + (if okA T W k c = true then 1 else 0) = _
  rw [if_neg h, Nat.add_zero]
theorem tl_y {k i f c : Nat} (h : okA T W k c = true) : tlA T W k i f (c + 1) = tlA T W k i f c + (if dgN k i c = f then 1 else 0) := by
  show tlA T W k i f c + (if (okA T W k c && decide (dgN k i c = f)) = true then 1 else 0) = _
  rw [h, Bool.true_and]
  by_cases q : dgN k i c = f
  · rw [if_pos q, if_pos (decide_eq_true q)]
  · rw [if_neg q, if_neg (fun z => q (of_decide_eq_true z))]
theorem tl_n {k i f c : Nat} (h : okA T W k c ≠ true) : tlA T W k i f (c + 1) = tlA T W k i f c := by
  show tlA T W k i f c + (if (okA T W k c && decide (dgN k i c = f)) = true then 1 else 0) = _
  rw [Bool.eq_false_iff.mpr h, Bool.false_and, if_neg (by decide), Nat.add_zero]
theorem tl_le (k i f m : Nat) : tlA T W k i f m ≤ m := cnt_le _ m
theorem ct_le (k m : Nat) : ctA2 T W k m ≤ m := cnt_le _ m
theorem fr_C (hC : cR T F) (hL : ∀ f, f < nfS T → (sy_ai F 65).getD f 0 = rsS T f) (hW : tdC n W (sy_ai F 63) (sy_ai F 64)) (hn : n ≤ 7) {k : Nat} (hk : (k : Int) ≤ n) {Q : Option Value → jm_h → Prop} (K : ∀ F2 : Nat → sy_d, qR [22, 66] F F2 → (sy_i F2 22).toInt = ctA2 T W k (s7 k) → (∀ i, i < k → ∀ f, f < 7 → ((sy_ai F2 66).getD (7 * i + f) 0).toInt = tlA T W k i f (s7 k)) → Q none (sy_dh F2 X1 X2 (iv_H 4))) : ∀ (m : Nat) (F1 : Nat → sy_d) (c : Nat), c + m = s7 k → qR [22, 66] F F1 → (sy_i F1 69).toInt = k → (sy_i F1 70).toInt = c → (sy_i F1 22).toInt = ctA2 T W k c → (∀ i, i < k → ∀ f, f < 7 → ((sy_ai F1 66).getD (7 * i + f) 0).toInt = tlA T W k i f c) →
    hd_W Ls xs 6 jm_M232 Q (105, sy_dL F1 [some (.inl (.ref 1000)), some (.inr (.inl 69)), some (.inr (.inl 70)), none], sy_dS F1 [], sy_dh F1 X1 X2 (iv_H 4), 0, 0) := by
  have hp := s7_le (k := k) (by omega)
  have head : ∀ (F1 : Nat → sy_d) (c : Nat), c ≤ s7 k → qR [22, 66] F F1 → (sy_i F1 69).toInt = k → (sy_i F1 70).toInt = c → (s7 k ≤ c → ∀ F2 : Nat → sy_d, qR [] F1 F2 → Q none (sy_dh F2 X1 X2 (iv_H 4))) → (c < s7 k → ∀ F2 : Nat → sy_d, qR [] F1 F2 → (sy_i F2 69).toInt = k → (sy_i F2 70).toInt = c → (sy_i F2 71).toInt = c → (sy_i F2 72).toInt = k → hd_W Ls xs 6 jm_M232 Q (116, sy_dL F2 [some (.inl (.ref 1000)), some (.inr (.inl 69)), some (.inr (.inl 70)), none], sy_dS F2 [.inr (.inl 72), .inr (.inl 71), .inl (.ref 1000)], sy_dh F2 X1 X2 (iv_H 4), 0, 0)) → hd_W Ls xs 6 jm_M232 Q (105, sy_dL F1 [some (.inl (.ref 1000)), some (.inr (.inl 69)), some (.inr (.inl 70)), none], sy_dS F1 [], sy_dh F1 X1 X2 (iv_H 4), 0, 0) := by
    intro F1 c hcl hq e69 e70 K0 K1
    refine zfr_105 (by decide) F1 X1 X2 hq.1 (by omega) ?_
    intro F2 hb gg e2 j2 e3 j3 e4 j4 e5 j5
    have q12 : qR [] F1 F2 := qq_mk hb gg (by decide)
    refine hd_calI (R := fun x F' => qR [] F2 F' ∧ x.toInt = s7 (sy_i F2 72).toInt.toNat) (nh := 69) (nv := 72) (s := 4) (s1 := 4) (d1 := 1) (M1 := jm_M230) (As := [.inr (.inl 72)]) (rest := [.inr (.inl 71)]) jm_ok232 rfl rfl (by decide) (by decide +kernel) (sv_V F2 X1 X2 hb _ (by omega)) (fun F3 F' x hR p1 p2 p3 => ?_)
    obtain ⟨r1, r2⟩ := hR
    have q13 : qR [] F1 F3 := qq_trans q12 (qR_dst r1 p1)
    rw [show (sy_i F2 72).toInt.toNat = k by omega] at r2
    have a69 : (sy_i F3 69).toInt = k := by rw [eI (p2 69 (by decide) (by decide))]; omega
    have a70 : (sy_i F3 70).toInt = c := by rw [eI (p2 70 (by decide) (by decide))]; omega
    have a71 : (sy_i F3 71).toInt = c := by rw [eI (p2 71 (by decide) (by decide))]; omega
    have a72 : (sy_i F3 72).toInt = s7 k := by rw [zz_i p3]; exact r2
    refine zfr_110 (by decide) F3 X1 X2 q13.1 (by omega) ?_ ?_
    · intro c0 F4 hb4 g4
      exact K0 (by omega) F4 (qq_on q13 hb4 g4 (by decide))
    · intro c0 F4 hb4 g4 b69 l69 b70 l70 b71 l71 b72 l72
      exact K1 (by omega) F4 (qq_on q13 hb4 g4 (by decide)) (by omega) (by omega) (by omega) (by omega)
  intro m
  induction m with
  | zero =>
    intro F1 c hm hq e69 e70 e22 hj
    refine head F1 c (by omega) hq e69 e70 (fun h F2 q12 => ?_) (fun h => absurd h (by omega))
    have e : s7 k = c := by omega
    refine K F2 (qq_trans hq (qq_up q12 (by decide))) ?_ (fun i hi f hf => ?_)
    · rw [qq_i q12 (by decide) (by decide), e]
      exact e22
    · rw [qq_a q12 (by decide) (by decide), e]
      exact hj i hi f hf
  | succ m ih =>
    intro F1 c hm hq e69 e70 e22 hj
    refine head F1 c (by omega) hq e69 e70 (fun h => absurd h (by omega)) (fun h F2 q12 e69' e70' e71 e72 => ?_)
    have q2 : qR [22, 66] F F2 := qq_trans hq (qq_up q12 (by decide))
    refine hd_calI (R := fun x F' => qR [] F2 F' ∧ x.toInt = if okc (kfT T) W (nfS T) (sy_i F2 72).toInt.toNat (sy_i F2 71).toInt.toNat = true then 1 else 0) (nh := 69) (nv := 71) (s := 4) (s1 := 4) (d1 := 3) (M1 := jm_M231) (As := [.inl (.ref 1000), .inr (.inl 71), .inr (.inl 72)]) (rest := []) jm_ok232 rfl rfl (by decide) (by decide +kernel) (ir_V F2 X1 X2 (cR_q hC q2 (by decide)) (fun f hf => by rw [qq_a q2 (by decide) (by decide)]; exact hL f hf) (by rw [qq_a q2 (by decide) (by decide), qq_a q2 (by decide) (by decide)]; exact hW) hn _ _ (by rw [show (sy_i F2 72).toInt.toNat = k by omega]; omega) (by omega)) (fun F3 F' x hR p1 p2 p3 => ?_)
    obtain ⟨r1, r2⟩ := hR
    have q23 : qR [] F2 F3 := qR_dst r1 p1
    have q3 : qR [22, 66] F F3 := qq_trans q2 (qq_up q23 (by decide))
    have q13 : qR [] F1 F3 := qq_trans q12 q23
    rw [show (sy_i F2 72).toInt.toNat = k by omega, show (sy_i F2 71).toInt.toNat = c by omega] at r2
    have r2 : x.toInt = if okA T W k c = true then 1 else 0 := r2
    have a69 : (sy_i F3 69).toInt = k := by rw [eI (p2 69 (by decide) (by decide))]; omega
    have a70 : (sy_i F3 70).toInt = c := by rw [eI (p2 70 (by decide) (by decide))]; omega
    have a71 : (sy_i F3 71).toInt = if okA T W k c = true then 1 else 0 := by rw [zz_i p3]; exact r2
    have a22 : (sy_i F3 22).toInt = ctA2 T W k c := by rw [qq_i q13 (by decide) (by decide)]; exact e22
    have a66 : ∀ i, i < k → ∀ f, f < 7 → ((sy_ai F3 66).getD (7 * i + f) 0).toInt = tlA T W k i f c := fun i hi f hf => by
      rw [qq_a q13 (by decide) (by decide)]
      exact hj i hi f hf
    have cb := ct_le (T := T) (W := W) k c
    clear hj r2
    refine zfr_119 (by decide) F3 X1 X2 q3.1 (by omega) ?_ ?_
    · intro c0 F4 hb4 g4 b22 l22 b69 l69 b70 l70 b71 l71
      have ok : okA T W k c = true := by
        by_cases q : okA T W k c = true
        · exact q
        · rw [if_neg q] at a71
          exact absurd a71 c0
      have q34 : qR [22] F3 F4 := qq_mk hb4 g4 (by decide)
      have q4 : qR [22, 66] F F4 := qq_trans q3 (qq_up q34 (by decide))
      have v22 : (sy_i F4 22).toInt = ctA2 T W k (c + 1) := by
        rw [l22, nz_add a22 (by decide : (1 : Int32).toInt = 1) (by omega) (by omega), ct_y ok]
        omega
      clear b22 l22 a71 c0
      refine fr_D F4 X1 X2 (k := k) (c := c) (by omega) (by omega) (Bs := fun i f => tlA T W k i f c) (fun i f => Nat.le_trans (tl_le k i f c) (by omega)) (fun F5 q45 w69 w70 w66 => ?_) k F4 0 (by omega) (qq_mk hb4 (fun j _ _ => rfl) (fun _ h => h)) (by omega) (by omega) b71 (fun i hi f hf => ?_)
      · refine ih F5 (c + 1) (by omega) (qq_trans q4 (qq_up q45 (by decide))) w69 (by omega) ?_ (fun i hi f hf => ?_)
        · rw [qq_i q45 (by decide) (by decide)]
          exact v22
        · rw [w66 i hi f hf, tl_y ok]
      · rw [qq_a q34 (by decide) (by decide), a66 i hi f hf, if_neg (fun w => absurd w.1 (Nat.not_lt_zero i))]
        rfl
    · intro c0 F4 hb4 g4 b69 l69 b70 l70
      have no : okA T W k c ≠ true := fun q => by
        rw [if_pos q] at a71
        rw [a71] at c0
        exact absurd c0 (by decide)
      have q34 : qR [] F3 F4 := qq_mk hb4 g4 (by decide)
      clear a71 c0
      refine ih F4 (c + 1) (by omega) (qq_on q3 hb4 g4 (by decide)) (by omega) (by omega) ?_ (fun i hi f hf => ?_)
      · rw [qq_i q34 (by decide) (by decide), ct_n no]
        exact a22
      · rw [qq_a q34 (by decide) (by decide), tl_n no]
        exact a66 i hi f hf
theorem fr_V (hC : cR T F) (hW : tdC n W (sy_ai F 63) (sy_ai F 64)) (hn : n ≤ 7) (k : Int32) (hk : 0 ≤ k.toInt ∧ k.toInt ≤ n) : jm_T Ls xs 6 jm_M232 [.ref 1000, .int k] (sy_dh F X1 X2 (iv_H 4)) 0 0 (pV 4 X1 X2 (fun F' => qR [17, 22, 52, 53, 65, 66] F F' ∧ (sy_i F' 22).toInt = rwA T W k.toInt.toNat ∧ ∀ i, i < k.toInt.toNat → ∀ f, f < 7 → ((sy_ai F' 66).getD (7 * i + f) 0).toInt = tlN (kfT T) W (nfS T) k.toInt.toNat i f)) := by
  have l7 : nfS T ≤ 7 := hC.2.2.1.1
  refine R_T [k] [.inl (.ref 1000), .inr (.inl 69)] jm_ok232 (by decide) rfl (fun F0 k0 ki => ?_)
  have i69 : sy_i F0 69 = k := ki 0
  have z69 : (sy_i F0 69).toInt = k.toInt := congrArg Int32.toInt i69
  refine zfr_0 (by decide) F0 X1 X2 (hd_iveq hC.1 k0) ?_
  intro F1 hb gg e69 j69 e70 j70
  have q1 : qR [17, 52, 53, 65] F F1 := qq_src (qq_mk hb gg (by decide)) k0
  refine fr_A F X1 X2 hC (k := (k.toInt.toNat : Int)) (fun F2 q2 e2 e3 h65 => ?_) (nfS T) F1 0 (by omega) q1 (by omega) e70 (fun j h => absurd h (Nat.not_lt_zero j))
  refine fr_B F2 X1 X2 q2.1 (k := (k.toInt.toNat : Int)) (fun F3 q23 e4 e5 e22 h66 => ?_) 49 F2 0 (by omega) (qq_mk q2.1 (fun j _ _ => rfl) (fun _ h => h)) e2 e3 (fun j h => absurd h (Nat.not_lt_zero j))
  have q3 : qR [17, 22, 52, 53, 65, 66] F F3 := qq_trans (qq_up q2 (by decide)) (qq_up q23 (by decide))
  refine fr_C F3 X1 X2 (cR_q hC q3 (by decide)) (fun f hf => by rw [qq_a q23 (by decide) (by decide)]; exact h65 f hf) (by rw [qq_a q3 (by decide) (by decide), qq_a q3 (by decide) (by decide)]; exact hW) hn (k := k.toInt.toNat) (by omega) (fun F4 q34 v22 v66 => ?_) (s7 k.toInt.toNat) F3 0 (by omega) (qq_mk q23.1 (fun j _ _ => rfl) (fun _ h => h)) e4 e5 e22 (fun i hi f hf => ?_)
  · refine ⟨F4, rfl, rfl, qq_trans q3 (qq_up q34 (by decide)), ?_, v66⟩
    rw [v22]
    exact congrArg (fun z : Nat => (z : Int)) (rw_pr (K := kfT T) (W := W) l7 k.toInt.toNat)
  · rw [h66 _ (by omega)]
    rfl
end RFC
end
section
/-! ===== rows, sure, ask: the reference's answers ===== -/
def mxN (t : Nat → Nat) : Nat → Nat
  | 0 => 0
  | n + 1 => if mxN t n < t n then t n else mxN t n
theorem mx_y {t : Nat → Nat} {n : Nat} (h : mxN t n < t n) : mxN t (n + 1) = t n := if_pos h
theorem mx_n {t : Nat → Nat} {n : Nat} (h : ¬ mxN t n < t n) : mxN t (n + 1) = mxN t n := if_neg h
theorem mx_ge (t : Nat → Nat) : ∀ (n f : Nat), f < n → t f ≤ mxN t n
  | 0, _, h => absurd h (by omega)
  | n + 1, f, h => by
    by_cases q : mxN t n < t n
    · rw [mx_y q]
      by_cases z : f = n
      · rw [z]
        exact Nat.le_refl _
      · have := mx_ge t n f (by omega)
        omega
    · rw [mx_n q]
      by_cases z : f = n
      · rw [z]
        omega
      · exact mx_ge t n f (by omega)
theorem mx_at (t : Nat → Nat) : ∀ n : Nat, mxN t n = 0 ∨ ∃ f, f < n ∧ mxN t n = t f
  | 0 => Or.inl rfl
  | n + 1 => by
    by_cases q : mxN t n < t n
    · exact Or.inr ⟨n, Nat.lt_succ_self n, mx_y q⟩
    · rw [mx_n q]
      rcases mx_at t n with z | ⟨f, h1, h2⟩
      · exact Or.inl z
      · exact Or.inr ⟨f, by omega, h2⟩
section SUA
variable {T : tX} {W : Nat → Int32 × Int32}
noncomputable def tqA (T : tX) (W : Nat → Int32 × Int32) (k i f : Nat) : Nat := tlN (kfT T) W (nfS T) k i f
theorem rwA_e (h7 : nfS T ≤ 7) (k : Nat) : rwN (kfT T) W (nfS T) k = rwA T W k := rw_pr h7 k
theorem tq_mt (h7 : nfS T ≤ 7) {k i f : Nat} (hi : i < k) (hf : f < nfS T) (hk : kfT T f = W i) : mtA T W i * tqA T W k i f = rwA T W k := by
  rw [← rwA_e h7]
  exact tl_mt h7 k i f hi hf hk
theorem tq_fit {k i f : Nat} (hi : i < k) (h : 0 < tqA T W k i f) : f < nfS T ∧ kfT T f = W i := by
  constructor
  · refine Nat.lt_of_not_le (fun z => ?_)
    have e : tqA T W k i f = 0 := tl_nf hi z
    omega
  · by_cases q : kfT T f = W i
    · exact q
    · have e : tqA T W k i f = 0 := tz_0 hi q
      omega
theorem su_y (h7 : nfS T ≤ 7) {k i f : Nat} (hi : i < k) (hr : 0 < rwA T W k) (he : tqA T W k i f = rwA T W k) (hj : ∀ j, j < f → tqA T W k i j ≠ rwA T W k) : suA T W k i = f := by
  obtain ⟨h1, h2⟩ := tq_fit (T := T) (W := W) (f := f) hi (by omega)
  have m1 := tq_mt h7 hi h1 h2
  rw [he] at m1
  have m2 : mtA T W i = 1 := Nat.eq_of_mul_eq_mul_right hr (by rw [m1, Nat.one_mul])
  unfold suA ffA
  rw [if_pos ⟨hr, m2⟩]
  refine fs_lt (decide_eq_true h2) (fun j h => decide_eq_false (fun z => hj j h ?_)) h1
  have m3 := tq_mt h7 hi (Nat.lt_trans h h1) z
  rw [m2, Nat.one_mul] at m3
  exact m3
theorem su_n (h7 : nfS T ≤ 7) {k i : Nat} (hi : i < k) (h : ∀ f, f < 7 → ¬ (0 < rwA T W k ∧ tqA T W k i f = rwA T W k)) : suA T W k i = -2 := by
  unfold suA
  refine if_neg (fun z => ?_)
  have p : 0 < cntN (fun f => decide (kfT T f = W i)) (nfS T) := by
    have e : cntN (fun f => decide (kfT T f = W i)) (nfS T) = 1 := z.2
    omega
  obtain ⟨f, h1, h2⟩ := cnt_pos _ p
  have m3 := tq_mt h7 hi h1 (of_decide_eq_true h2)
  rw [z.2, Nat.one_mul] at m3
  exact h f (by omega) ⟨z.1, m3⟩
noncomputable def wsA (T : tX) (W : Nat → Int32 × Int32) (k i : Nat) : Nat := mxN (fun f => tqA T W k i f) 7
theorem ws_mt (h7 : nfS T ≤ 7) {k i : Nat} (hi : i < k) (hr : 0 < rwA T W k) : mtA T W i * wsA T W k i = rwA T W k := by
  have mp : 0 < mtA T W i := by
    refine Nat.pos_of_ne_zero (fun z => ?_)
    have e : rwA T W (i + 1) = 0 := by
      show rwA T W i * (mtA T W i - eqN W i) = 0
      rw [z, Nat.zero_sub, Nat.mul_zero]
    have e2 : rwA T W k = 0 := pr_z e (by omega)
    omega
  obtain ⟨f, h1, h2⟩ := cnt_pos _ (show 0 < cntN (fun f => decide (kfT T f = W i)) (nfS T) from mp)
  have m1 := tq_mt h7 hi h1 (of_decide_eq_true h2)
  have tp : 0 < tqA T W k i f := by
    refine Nat.pos_of_ne_zero (fun z => ?_)
    rw [z, Nat.mul_zero] at m1
    omega
  have g := mx_ge (fun f => tqA T W k i f) 7 f (by omega)
  have g : tqA T W k i f ≤ mxN (fun f => tqA T W k i f) 7 := g
  rcases mx_at (fun f => tqA T W k i f) 7 with z | ⟨f', h3, h4⟩
  · omega
  · have h4 : mxN (fun f => tqA T W k i f) 7 = tqA T W k i f' := h4
    obtain ⟨h5, h6⟩ := tq_fit (T := T) (W := W) (f := f') hi (by omega)
    show mtA T W i * mxN (fun f => tqA T W k i f) 7 = _
    rw [h4]
    exact tq_mt h7 hi h5 h6
/-- who has more leaves less -/
theorem ws_lt (h7 : nfS T ≤ 7) {k i j : Nat} (hi : i < k) (hj : j < k) (hr : 0 < rwA T W k) : mtA T W j < mtA T W i ↔ wsA T W k i < wsA T W k j := by
  have h1 := ws_mt h7 hi hr
  have h2 := ws_mt h7 hj hr
  have p : 0 < mtA T W i := Nat.pos_of_ne_zero (fun z => by rw [z, Nat.zero_mul] at h1; omega)
  have p2 : 0 < wsA T W k j := Nat.pos_of_ne_zero (fun z => by rw [z, Nat.mul_zero] at h2; omega)
  constructor
  · intro h
    refine Nat.lt_of_not_le (fun z => ?_)
    have a : mtA T W j * wsA T W k j < mtA T W i * wsA T W k j := Nat.mul_lt_mul_of_pos_right h p2
    have b : mtA T W i * wsA T W k j ≤ mtA T W i * wsA T W k i := Nat.mul_le_mul_left _ z
    omega
  · intro h
    refine Nat.lt_of_not_le (fun z => ?_)
    have a : mtA T W i * wsA T W k i < mtA T W i * wsA T W k j := Nat.mul_lt_mul_of_pos_left h p
    have b : mtA T W i * wsA T W k j ≤ mtA T W j * wsA T W k j := Nat.mul_le_mul_right _ z
    omega
end SUA
section RSU
variable {Ls : Nat} {xs : Nat → Int32} {T : tX} {W : Nat → Int32 × Int32} {n : Int} (F : Nat → sy_d) (X1 X2 : List jm_c)
theorem rrw_V (hC : cR T F) (hW : tdC n W (sy_ai F 63) (sy_ai F 64)) (h21 : (sy_i F 21).toInt = n) (k : Int32) : jm_T Ls xs 7 jm_M233 [.ref 1000, .int k] (sy_dh F X1 X2 (iv_H 4)) 0 0 (pI 4 X1 X2 (fun x F' => qR [17, 22, 52, 53, 65, 66] F F' ∧ x = ifP (0 ≤ k.toInt ∧ k.toInt ≤ n) (Int32.ofInt (rwA T W k.toInt.toNat : Int)) (-1))) := by
  have x21 := nz_bx hC.1 (k := 21) (lo := 0) (hi := 7) rfl
  refine R_T [k] [.inl (.ref 1000), .inr (.inl 69)] jm_ok233 (by decide) rfl (fun F0 k0 ki => ?_)
  have i69 : sy_i F0 69 = k := ki 0
  have z69 : (sy_i F0 69).toInt = k.toInt := congrArg Int32.toInt i69
  have e21 : (sy_i F0 21).toInt = n := by rw [nz_fi (k0 21 (by decide))]; exact h21
  refine zrw_0 (by decide) F0 X1 X2 (hd_iveq hC.1 k0) ?_ ?_ ?_
  · intro c0 F1 hb gg
    exact ⟨_, F1, rfl, rfl, qq_src (qq_mk hb gg (by decide)) k0, by rw [ifP_n (fun z => by omega)]⟩
  · intro c0 c1 F1 hb gg
    exact ⟨_, F1, rfl, rfl, qq_src (qq_mk hb gg (by decide)) k0, by rw [ifP_n (fun z => by omega)]⟩
  · intro c0 c1 F1 hb gg e69 j69
    rw [ifP_y ⟨by omega, by omega⟩]
    have q1 : qR [] F F1 := qq_src (qq_mk hb gg (by decide)) k0
    refine hd_calV (R := fun F' => qR [17, 22, 52, 53, 65, 66] F1 F' ∧ (sy_i F' 22).toInt = rwA T W (sy_i F1 69).toInt.toNat) (nh := 69) (nv := 69) (s := 4) (s1 := 4) (d1 := 6) (M1 := jm_M232) (As := [.inl (.ref 1000), .inr (.inl 69)]) (rest := []) jm_ok233 rfl rfl (by decide) (by decide +kernel) (jm_T_mono (fr_V F1 X1 X2 (cR_q hC q1 (by decide)) (by rw [qq_a q1 (by decide) (by decide), qq_a q1 (by decide) (by decide)]; exact hW) (by omega) _ (by omega)) (fun v G h => by obtain ⟨F', h1, h2, h3, h4, -⟩ := h; exact ⟨F', h1, h2, h3, h4⟩)) (fun F3 F' hR p1 p2 => ?_)
    obtain ⟨r1, r2⟩ := hR
    have q3 : qR [17, 22, 52, 53, 65, 66] F F3 := qq_trans (qq_up q1 (by decide)) (qR_dst r1 p1)
    rw [show (sy_i F1 69).toInt.toNat = k.toInt.toNat by omega] at r2
    refine zrw_19 (by decide) F3 X1 X2 q3.1 ?_
    intro F4 hb4 g4
    refine ⟨_, F4, rfl, rfl, qq_on q3 hb4 g4 (by decide), ?_⟩
    refine (ofi ?_).symm
    rw [nz_fi (p1 22 (by decide))]
    exact r2
theorem su_L {k i : Nat} (hi : i < k) (h6 : i ≤ 6) (h7 : nfS T ≤ 7) (h22 : (sy_i F 22).toInt = rwA T W k) (h66 : ∀ f, f < 7 → ((sy_ai F 66).getD (7 * i + f) 0).toInt = tqA T W k i f) {Q : Option Value → jm_h → Prop} (K : ∀ (x : Int32) (F2 : Nat → sy_d), qR [] F F2 → x.toInt = suA T W k i → Q (some (.int x)) (sy_dh F2 X1 X2 (iv_H 4))) : ∀ (m : Nat) (F1 : Nat → sy_d) (f : Nat), f + m = 7 → qR [] F F1 → (sy_i F1 69).toInt = i → (sy_i F1 70).toInt = f → (∀ j, j < f → ¬ (0 < rwA T W k ∧ tqA T W k i j = rwA T W k)) →
    hd_W Ls xs 7 jm_M234 Q (32, sy_dL F1 [some (.inl (.ref 1000)), none, some (.inr (.inl 69)), some (.inr (.inl 70))], sy_dS F1 [], sy_dh F1 X1 X2 (iv_H 4), 0, 0) := by
  intro m
  induction m with
  | zero =>
    intro F1 f hm hq e69 e70 hj
    refine zsu_32 (by decide) F1 X1 X2 hq.1 (by omega) (by omega) ?_ ?_ ?_ ?_
    · intro c0 F2 hb gg
      refine K _ F2 (qq_on hq hb gg (by decide)) ?_
      rw [su_n h7 hi (fun j h => hj j (by omega))]
      decide
    · intro c0
      exact absurd c0 (by omega)
    · intro c0
      exact absurd c0 (by omega)
    · intro c0
      exact absurd c0 (by omega)
  | succ m ih =>
    intro F1 f hm hq e69 e70 hj
    have e22 : (sy_i F1 22).toInt = rwA T W k := by rw [qq_i hq (by decide) (by decide)]; exact h22
    have r66 : ((sy_ai F1 66).getD (7 * (sy_i F1 69).toInt + (sy_i F1 70).toInt).toNat 0).toInt = tqA T W k i f := by
      rw [show (7 * (sy_i F1 69).toInt + (sy_i F1 70).toInt).toNat = 7 * i + f by omega, qq_a hq (by decide) (by decide)]
      exact h66 f (by omega)
    have go0 : ¬ (0 < rwA T W k ∧ tqA T W k i f = rwA T W k) → ∀ F2 : Nat → sy_d, iv_in F2 iv_B4 → (∀ j, j < 69 → j ∉ ([] : List Nat) → F2 j = F1 j) → (sy_i F2 69).toInt = (sy_i F1 69).toInt → (sy_i F2 70).toInt = (sy_i F1 70).toInt + 1 → hd_W Ls xs 7 jm_M234 Q (32, sy_dL F2 [some (.inl (.ref 1000)), none, some (.inr (.inl 69)), some (.inr (.inl 70))], sy_dS F2 [], sy_dh F2 X1 X2 (iv_H 4), 0, 0) := by
      intro q F2 hb gg e2 e3
      refine ih F2 (f + 1) (by omega) (qq_on hq hb gg (by decide)) (by omega) (by omega) (fun j h => ?_)
      by_cases z : j = f
      · rw [z]
        exact q
      · exact hj j (by omega)
    refine zsu_32 (by decide) F1 X1 X2 hq.1 (by omega) (by omega) ?_ ?_ ?_ ?_
    · intro c0
      exact absurd c0 (by omega)
    · intro c0 c1 F2 hb gg e2 j2 e3 j3
      exact go0 (fun z => by have := z.1; omega) F2 hb gg e2 e3
    · intro c0 c1 c2 F2 hb gg e2 j2 e3 j3
      rw [r66, e22] at c2
      exact go0 (fun z => c2 (congrArg (fun z : Nat => (z : Int)) z.2)) F2 hb gg e2 e3
    · intro c0 c1 c2 F2 hb gg
      rw [r66, e22] at c2
      refine K _ F2 (qq_on hq hb gg (by decide)) ?_
      have hr : 0 < rwA T W k := by omega
      rw [su_y h7 hi hr (Int.ofNat.inj c2) (fun j h z => hj j h ⟨hr, z⟩)]
      exact e70
theorem rsu_V (hC : cR T F) (hW : tdC n W (sy_ai F 63) (sy_ai F 64)) (h21 : (sy_i F 21).toInt = n) (k i : Int32) : jm_T Ls xs 7 jm_M234 [.ref 1000, .int k, .int i] (sy_dh F X1 X2 (iv_H 4)) 0 0 (pI 4 X1 X2 (fun x F' => qR [17, 22, 52, 53, 65, 66] F F' ∧ x = ifP ((0 ≤ k.toInt ∧ k.toInt ≤ n) ∧ 0 ≤ i.toInt ∧ i.toInt < k.toInt) (Int32.ofInt (suA T W k.toInt.toNat i.toInt.toNat)) (-1))) := by
  have x21 := nz_bx hC.1 (k := 21) (lo := 0) (hi := 7) rfl
  have l7 : nfS T ≤ 7 := hC.2.2.1.1
  refine R_T [k, i] [.inl (.ref 1000), .inr (.inl 69), .inr (.inl 70)] jm_ok234 (by decide) rfl (fun F0 k0 ki => ?_)
  have i69 : sy_i F0 69 = k := ki 0
  have i70 : sy_i F0 70 = i := ki 1
  have z69 : (sy_i F0 69).toInt = k.toInt := congrArg Int32.toInt i69
  have z70 : (sy_i F0 70).toInt = i.toInt := congrArg Int32.toInt i70
  have e21 : (sy_i F0 21).toInt = n := by rw [nz_fi (k0 21 (by decide))]; exact h21
  have bad : ∀ F1 : Nat → sy_d, iv_in F1 iv_B4 → (∀ j, j < 69 → j ∉ ([] : List Nat) → F1 j = F0 j) → ¬ ((0 ≤ k.toInt ∧ k.toInt ≤ n) ∧ 0 ≤ i.toInt ∧ i.toInt < k.toInt) → pI 4 X1 X2 (fun x F' => qR [17, 22, 52, 53, 65, 66] F F' ∧ x = ifP ((0 ≤ k.toInt ∧ k.toInt ≤ n) ∧ 0 ≤ i.toInt ∧ i.toInt < k.toInt) (Int32.ofInt (suA T W k.toInt.toNat i.toInt.toNat)) (-1)) (some (.int (-1 : Int32))) (sy_dh F1 X1 X2 (iv_H 4)) := fun F1 hb gg h => ⟨_, F1, rfl, rfl, qq_src (qq_mk hb gg (by decide)) k0, by rw [ifP_n h]⟩
  refine zsu_0 (by decide) F0 X1 X2 (hd_iveq hC.1 k0) ?_ ?_ ?_ ?_ ?_
  · intro c0 F1 hb gg
    exact bad F1 hb gg (fun z => by omega)
  · intro c0 c1 F1 hb gg
    exact bad F1 hb gg (fun z => by omega)
  · intro c0 c1 c2 F1 hb gg
    exact bad F1 hb gg (fun z => by omega)
  · intro c0 c1 c2 c3 F1 hb gg
    exact bad F1 hb gg (fun z => by omega)
  · intro c0 c1 c2 c3 F1 hb gg e69 j69 e70 j70
    rw [ifP_y ⟨⟨by omega, by omega⟩, by omega, by omega⟩]
    have q1 : qR [] F F1 := qq_src (qq_mk hb gg (by decide)) k0
    have hki : i.toInt.toNat < k.toInt.toNat := by omega
    refine hd_calV (R := fun F' => qR [17, 22, 52, 53, 65, 66] F1 F' ∧ (sy_i F' 22).toInt = rwA T W (sy_i F1 70).toInt.toNat ∧ ∀ i, i < (sy_i F1 70).toInt.toNat → ∀ f, f < 7 → ((sy_ai F' 66).getD (7 * i + f) 0).toInt = tlN (kfT T) W (nfS T) (sy_i F1 70).toInt.toNat i f) (nh := 69) (nv := 70) (s := 4) (s1 := 4) (d1 := 6) (M1 := jm_M232) (As := [.inl (.ref 1000), .inr (.inl 70)]) (rest := []) jm_ok234 rfl rfl (by decide) (by decide +kernel) (fr_V F1 X1 X2 (cR_q hC q1 (by decide)) (by rw [qq_a q1 (by decide) (by decide), qq_a q1 (by decide) (by decide)]; exact hW) (by omega) _ (by omega)) (fun F3 F' hR p1 p2 => ?_)
    obtain ⟨r1, r2, r3⟩ := hR
    have q3 : qR [17, 22, 52, 53, 65, 66] F F3 := qq_trans (qq_up q1 (by decide)) (qR_dst r1 p1)
    rw [show (sy_i F1 70).toInt.toNat = k.toInt.toNat by omega] at r2 r3
    have a69 : (sy_i F3 69).toInt = i.toInt := by rw [eI (p2 69 (by decide) (by decide))]; omega
    refine zsu_30 (by decide) F3 X1 X2 q3.1 ?_
    intro F4 hb4 g4 b69 l69 b70 l70
    have q34 : qR [] F3 F4 := qq_mk hb4 g4 (by decide)
    refine su_L F4 X1 X2 (T := T) (W := W) (k := k.toInt.toNat) (i := i.toInt.toNat) hki (by omega) l7 (by rw [qq_i q34 (by decide) (by decide), nz_fi (p1 22 (by decide))]; exact r2) (fun f hf => by rw [qq_a q34 (by decide) (by decide), nz_fa (p1 66 (by decide))]; exact r3 _ hki f hf) (fun x F5 q45 hx => ?_) 7 F4 0 (by omega) (qq_mk hb4 (fun j _ _ => rfl) (fun _ h => h)) (by omega) b70 (fun j h => absurd h (Nat.not_lt_zero j))
    refine ⟨_, F5, rfl, rfl, qq_trans q3 (qq_up (qq_trans q34 q45) (by decide)), ?_⟩
    exact (ofi hx).symm
theorem ak_I (F0 : Nat → sy_d) {k i : Nat} (hi : i ≤ 6) {b l : Int} {t : Nat → Nat} (ht : ∀ f, f < 7 → ((sy_ai F 66).getD (7 * i + f) 0).toInt = t f) {Q : Option Value → jm_h → Prop} (K : ∀ F2 : Nat → sy_d, qR [] F F2 → (sy_i F2 69).toInt = k → (sy_i F2 72).toInt = (i : Int) + 1 → (((b < 0 ∨ (mxN t 7 : Int) < l) ∧ (sy_i F2 70).toInt = i ∧ (sy_i F2 71).toInt = mxN t 7) ∨ (0 ≤ b ∧ l ≤ (mxN t 7 : Int) ∧ (sy_i F2 70).toInt = b ∧ (sy_i F2 71).toInt = l)) → hd_W Ls xs 7 jm_M235 Q (27, sy_dL F2 [some (.inl (.ref 1000)), some (.inr (.inl 69)), some (.inr (.inl 70)), some (.inr (.inl 71)), some (.inr (.inl 72)), none, none], sy_dS F2 [], sy_dh F2 X1 X2 (iv_H 4), 0, 0)) : ∀ (m : Nat) (F1 : Nat → sy_d) (f : Nat), f + m = 7 → qR [] F F1 → (sy_i F1 69).toInt = k → (sy_i F1 70).toInt = b → (sy_i F1 71).toInt = l → (sy_i F1 72).toInt = i → (sy_i F1 73).toInt = mxN t f → (sy_i F1 74).toInt = f →
    hd_W Ls xs 7 jm_M235 Q (46, sy_dL F1 [some (.inl (.ref 1000)), some (.inr (.inl 69)), some (.inr (.inl 70)), some (.inr (.inl 71)), some (.inr (.inl 72)), some (.inr (.inl 73)), some (.inr (.inl 74))], sy_dS F1 [], sy_dh F1 X1 X2 (iv_H 4), 0, 0) := by
  intro m
  induction m with
  | zero =>
    intro F1 f hm hq e69 e70 e71 e72 e73 e74
    rw [show f = 7 by omega] at e73
    refine zas_46 (by decide) F1 X1 X2 hq.1 (by omega) (by omega) ?_ ?_ ?_ ?_ ?_
    · intro c0 c1 F2 hb gg w69 u69 w70 u70 w71 u71 w72 u72
      exact K F2 (qq_on hq hb gg (by decide)) (by omega) (by omega) (Or.inl ⟨Or.inl (by omega), by omega, by omega⟩)
    · intro c0 c1 c2 F2 hb gg w69 u69 w70 u70 w71 u71 w72 u72
      exact K F2 (qq_on hq hb gg (by decide)) (by omega) (by omega) (Or.inl ⟨Or.inr (by omega), by omega, by omega⟩)
    · intro c0 c1 c2 F2 hb gg w69 u69 w70 u70 w71 u71 w72 u72
      exact K F2 (qq_on hq hb gg (by decide)) (by omega) (by omega) (Or.inr ⟨by omega, by omega, by omega, by omega⟩)
    · intro c0
      exact absurd c0 (by omega)
    · intro c0
      exact absurd c0 (by omega)
  | succ m ih =>
    intro F1 f hm hq e69 e70 e71 e72 e73 e74
    have r66 : ((sy_ai F1 66).getD (7 * (sy_i F1 72).toInt + (sy_i F1 74).toInt).toNat 0).toInt = t f := by
      rw [show (7 * (sy_i F1 72).toInt + (sy_i F1 74).toInt).toNat = 7 * i + f by omega, qq_a hq (by decide) (by decide)]
      exact ht f (by omega)
    refine zas_46 (by decide) F1 X1 X2 hq.1 (by omega) (by omega) ?_ ?_ ?_ ?_ ?_
    · intro c0
      exact absurd c0 (by omega)
    · intro c0
      exact absurd c0 (by omega)
    · intro c0
      exact absurd c0 (by omega)
    · intro c0 c1 F2 hb gg w69 u69 w70 u70 w71 u71 w72 u72 w73 u73 w74 u74
      rw [r66] at c1
      have z := mx_n (t := t) (n := f) (by omega)
      exact ih F2 (f + 1) (by omega) (qq_on hq hb gg (by decide)) (by omega) (by omega) (by omega) (by omega) (by omega) (by omega)
    · intro c0 c1 F2 hb gg w69 u69 w70 u70 w71 u71 w72 u72 w73 u73 w74 u74
      rw [r66] at c1 w73
      have z := mx_y (t := t) (n := f) (by omega)
      exact ih F2 (f + 1) (by omega) (qq_on hq hb gg (by decide)) (by omega) (by omega) (by omega) (by omega) (by omega) (by omega)
theorem ak_L {k : Nat} (hk : k ≤ 7) (h7 : nfS T ≤ 7) (h22 : (sy_i F 22).toInt = rwA T W k) (h66 : ∀ i, i < k → ∀ f, f < 7 → ((sy_ai F 66).getD (7 * i + f) 0).toInt = tqA T W k i f) {Q : Option Value → jm_h → Prop} (K : ∀ (x : Int32) (F2 : Nat → sy_d), qR [] F F2 → x.toInt = akA T W k → Q (some (.int x)) (sy_dh F2 X1 X2 (iv_H 4))) : ∀ (m : Nat) (F1 : Nat → sy_d) (i : Nat), i + m = k → qR [] F F1 → (sy_i F1 69).toInt = k → (sy_i F1 72).toInt = i → ((i = 0 ∧ (sy_i F1 70).toInt = -2) ∨ (1 ≤ i ∧ 0 < rwA T W k ∧ (sy_i F1 70).toInt = wdN (mtA T W) i ∧ (sy_i F1 71).toInt = wsA T W k (wdN (mtA T W) i))) →
    hd_W Ls xs 7 jm_M235 Q (27, sy_dL F1 [some (.inl (.ref 1000)), some (.inr (.inl 69)), some (.inr (.inl 70)), some (.inr (.inl 71)), some (.inr (.inl 72)), none, none], sy_dS F1 [], sy_dh F1 X1 X2 (iv_H 4), 0, 0) := by
  intro m
  induction m with
  | zero =>
    intro F1 i hm hq e69 e72 hs
    refine zas_27 (by decide) F1 X1 X2 hq.1 (by omega) (by omega) ?_ ?_ ?_
    · intro c0 F2 hb gg
      refine K _ F2 (qq_on hq hb gg (by decide)) ?_
      unfold akA
      rcases hs with ⟨h1, h2⟩ | ⟨h1, h2, h3, h4⟩
      · rw [if_pos (Or.inl (by omega))]
        exact h2
      · rw [if_neg (fun z => by omega), h3, show i = k by omega]
    · intro c0
      exact absurd c0 (by omega)
    · intro c0
      exact absurd c0 (by omega)
  | succ m ih =>
    intro F1 i hm hq e69 e72 hs
    have e22 : (sy_i F1 22).toInt = rwA T W k := by rw [qq_i hq (by decide) (by decide)]; exact h22
    refine zas_27 (by decide) F1 X1 X2 hq.1 (by omega) (by omega) ?_ ?_ ?_
    · intro c0
      exact absurd c0 (by omega)
    · intro c0 c1 F2 hb gg
      refine K _ F2 (qq_on hq hb gg (by decide)) ?_
      unfold akA
      rcases hs with ⟨h1, h2⟩ | ⟨h1, h2, h3, h4⟩
      · rw [if_pos (Or.inr (by omega))]
        exact h2
      · exact absurd c1 (by omega)
    · intro c0 c1 F2 hb gg w69 u69 w70 u70 w71 u71 w72 u72 w73 u73 w74 u74
      have q12 : qR [] F1 F2 := qq_mk hb gg (by decide)
      have q2 : qR [] F F2 := qq_on hq hb gg (by decide)
      have hr : 0 < rwA T W k := by omega
      refine ak_I F2 X1 X2 F (k := k) (i := i) (by omega) (b := (sy_i F1 70).toInt) (l := (sy_i F1 71).toInt) (t := fun f => tqA T W k i f) (fun f hf => by rw [qq_a q2 (by decide) (by decide)]; exact h66 i (by omega) f hf) (fun F3 q23 v69 v72 hv => ?_) 7 F2 0 (by omega) (qq_mk hb (fun j _ _ => rfl) (fun _ h => h)) (by omega) w70 w71 (by omega) w73 w74
      have q3 : qR [] F F3 := qq_trans q2 q23
      refine ih F3 (i + 1) (by omega) q3 v69 (by omega) (Or.inr ⟨by omega, hr, ?_⟩)
      have hv : (((sy_i F1 70).toInt < 0 ∨ (wsA T W k i : Int) < (sy_i F1 71).toInt) ∧ (sy_i F3 70).toInt = i ∧ (sy_i F3 71).toInt = wsA T W k i) ∨ (0 ≤ (sy_i F1 70).toInt ∧ (sy_i F1 71).toInt ≤ (wsA T W k i : Int) ∧ (sy_i F3 70).toInt = (sy_i F1 70).toInt ∧ (sy_i F3 71).toInt = (sy_i F1 71).toInt) := hv
      rcases hs with ⟨h1, h2⟩ | ⟨h1, h2, h3, h4⟩
      · have w0 : wdN (mtA T W) (i + 1) = i := by
          have := wd_lt (mtA T W) 0
          rw [h1]
          omega
        rcases hv with ⟨y1, y2, y3⟩ | ⟨y1, y2, y3, y4⟩
        · rw [w0]
          exact ⟨y2, y3⟩
        · exact absurd y1 (by omega)
      · have wl : wdN (mtA T W) i < k := by
          have := wd_lt (mtA T W) (i - 1)
          rw [show i - 1 + 1 = i by omega] at this
          omega
        have lt := ws_lt (T := T) (W := W) h7 (i := i) (j := wdN (mtA T W) i) (by omega) wl hr
        rcases hv with ⟨y1, y2, y3⟩ | ⟨y1, y2, y3, y4⟩
        · have z := wd_y (m := mtA T W) (n := i) (lt.mpr (by omega))
          rw [z]
          exact ⟨y2, y3⟩
        · have z := wd_n (m := mtA T W) (n := i) (fun w => by have := lt.mp w; omega)
          rw [z]
          exact ⟨y3.trans h3, y4.trans h4⟩
theorem ras_V (hC : cR T F) (hW : tdC n W (sy_ai F 63) (sy_ai F 64)) (h21 : (sy_i F 21).toInt = n) (k : Int32) : jm_T Ls xs 7 jm_M235 [.ref 1000, .int k] (sy_dh F X1 X2 (iv_H 4)) 0 0 (pI 4 X1 X2 (fun x F' => qR [17, 22, 52, 53, 65, 66] F F' ∧ x = ifP (0 ≤ k.toInt ∧ k.toInt ≤ n) (Int32.ofInt (akA T W k.toInt.toNat)) (-1))) := by
  have x21 := nz_bx hC.1 (k := 21) (lo := 0) (hi := 7) rfl
  have l7 : nfS T ≤ 7 := hC.2.2.1.1
  refine R_T [k] [.inl (.ref 1000), .inr (.inl 69)] jm_ok235 (by decide) rfl (fun F0 k0 ki => ?_)
  have i69 : sy_i F0 69 = k := ki 0
  have z69 : (sy_i F0 69).toInt = k.toInt := congrArg Int32.toInt i69
  have e21 : (sy_i F0 21).toInt = n := by rw [nz_fi (k0 21 (by decide))]; exact h21
  refine zas_0 (by decide) F0 X1 X2 (hd_iveq hC.1 k0) ?_ ?_ ?_
  · intro c0 F1 hb gg
    exact ⟨_, F1, rfl, rfl, qq_src (qq_mk hb gg (by decide)) k0, by rw [ifP_n (fun z => by omega)]⟩
  · intro c0 c1 F1 hb gg
    exact ⟨_, F1, rfl, rfl, qq_src (qq_mk hb gg (by decide)) k0, by rw [ifP_n (fun z => by omega)]⟩
  · intro c0 c1 F1 hb gg e69 j69
    rw [ifP_y ⟨by omega, by omega⟩]
    have q1 : qR [] F F1 := qq_src (qq_mk hb gg (by decide)) k0
    refine hd_calV (R := fun F' => qR [17, 22, 52, 53, 65, 66] F1 F' ∧ (sy_i F' 22).toInt = rwA T W (sy_i F1 69).toInt.toNat ∧ ∀ i, i < (sy_i F1 69).toInt.toNat → ∀ f, f < 7 → ((sy_ai F' 66).getD (7 * i + f) 0).toInt = tlN (kfT T) W (nfS T) (sy_i F1 69).toInt.toNat i f) (nh := 69) (nv := 70) (s := 4) (s1 := 4) (d1 := 6) (M1 := jm_M232) (As := [.inl (.ref 1000), .inr (.inl 69)]) (rest := []) jm_ok235 rfl rfl (by decide) (by decide +kernel) (fr_V F1 X1 X2 (cR_q hC q1 (by decide)) (by rw [qq_a q1 (by decide) (by decide), qq_a q1 (by decide) (by decide)]; exact hW) (by omega) _ (by omega)) (fun F3 F' hR p1 p2 => ?_)
    obtain ⟨r1, r2, r3⟩ := hR
    have q3 : qR [17, 22, 52, 53, 65, 66] F F3 := qq_trans (qq_up q1 (by decide)) (qR_dst r1 p1)
    rw [show (sy_i F1 69).toInt.toNat = k.toInt.toNat by omega] at r2 r3
    have a69 : (sy_i F3 69).toInt = k.toInt := by rw [eI (p2 69 (by decide) (by decide))]; omega
    refine zas_19 (by decide) F3 X1 X2 q3.1 ?_
    intro F4 hb4 g4 b69 l69 b70 l70 b71 l71 b72 l72
    have q34 : qR [] F3 F4 := qq_mk hb4 g4 (by decide)
    refine ak_L F4 X1 X2 (T := T) (W := W) (k := k.toInt.toNat) (by omega) l7 (by rw [qq_i q34 (by decide) (by decide), nz_fi (p1 22 (by decide))]; exact r2) (fun i hi f hf => by rw [qq_a q34 (by decide) (by decide), nz_fa (p1 66 (by decide))]; exact r3 i hi f hf) (fun x F5 q45 hx => ?_) k.toInt.toNat F4 0 (by omega) (qq_mk hb4 (fun j _ _ => rfl) (fun _ h => h)) (by omega) b72 (Or.inl ⟨rfl, b70⟩)
    refine ⟨_, F5, rfl, rfl, qq_trans q3 (qq_up (qq_trans q34 q45) (by decide)), ?_⟩
    exact (ofi hx).symm
end RSU
end
section
/-! ===== rows, sure, ask: a turn ===== -/
section TOZ
variable {Ls : Nat} {xs : Nat → Int32}
theorem x79_of {s : Nat} {σ : fG} {F : Nat → sy_d} (h : xZ s σ F) : (sy_i F 79).toInt = σ.1.2.2.2.1 := congrArg (fun z : sg => z.2.2.2.1) h.1.2.2
theorem m21_of {σ : fG} {F : Nat → sy_d} (h : mZ σ F) : (sy_i F 21).toInt = σ.1.2.2.2.1 := congrArg (fun z : sg => z.2.2.2.1) h.1.2.2
theorem x_110 (a : Int32) : xzT Ls xs jm_M110 [.int (a)] (fun σ r => r = a_rows a σ) (fun σ => σ) := by
  intro s F X2 σ hs hZ hO
  match s, hs, hZ with
  | 0, _, hZ => exact xz_pI (σ := σ) (V := fun σ r => r = a_rows a σ) (f := fun σ => σ) (by decide) (by decide) (j0rw_V F [] X2 hZ.2.1 hZ.2.2.2.2.2.2 hZ.2.2.2.2.2.1 (x79_of hZ) a) (fun x F' hP => ⟨hP.2, xZ_q hZ hP.1 (by decide)⟩)
  | 1, _, hZ => exact xz_pI (σ := σ) (V := fun σ r => r = a_rows a σ) (f := fun σ => σ) (by decide) (by decide) (j1rw_V F [] X2 hZ.2.1 hZ.2.2.2.2.2.2 hZ.2.2.2.2.2.1 (x79_of hZ) a) (fun x F' hP => ⟨hP.2, xZ_q hZ hP.1 (by decide)⟩)
  | 2, _, hZ => exact xz_pI (σ := σ) (V := fun σ r => r = a_rows a σ) (f := fun σ => σ) (by decide) (by decide) (j2rw_V F [] X2 hZ.2.1 hZ.2.2.2.2.2.2 hZ.2.2.2.2.2.1 (x79_of hZ) a) (fun x F' hP => ⟨hP.2, xZ_q hZ hP.1 (by decide)⟩)
  | 3, _, hZ => exact xz_pI (σ := σ) (V := fun σ r => r = a_rows a σ) (f := fun σ => σ) (by decide) (by decide) (j3rw_V F [] X2 hZ.2.1 hZ.2.2.2.2.2.2 hZ.2.2.2.2.2.1 (x79_of hZ) a) (fun x F' hP => ⟨hP.2, xZ_q hZ hP.1 (by decide)⟩)
  | n + 4, h, _ => exact absurd h (by omega)
theorem m_233 (a : Int32) : mzT Ls xs jm_M233 [.int (a)] (fun σ r => r = a_rows a σ) (fun σ => σ) := ⟨7, by decide, fun F X1 σ hZ hO => mz_pI (σ := σ) (V := fun σ r => r = a_rows a σ) (f := fun σ => σ) (rrw_V F X1 [] hZ.2.1 hZ.2.2.2.2.2 (m21_of hZ) a) (fun x F' hP => ⟨hP.2, mZ_q hZ hP.1 (by decide)⟩)⟩
theorem x_111 (a b : Int32) : xzT Ls xs jm_M111 [.int (a), .int (b)] (fun σ r => r = a_sure a b σ) (fun σ => σ) := by
  intro s F X2 σ hs hZ hO
  match s, hs, hZ with
  | 0, _, hZ => exact xz_pI (σ := σ) (V := fun σ r => r = a_sure a b σ) (f := fun σ => σ) (by decide) (by decide) (j0su_V F [] X2 hZ.2.1 hZ.2.2.2.2.2.2 hZ.2.2.2.2.2.1 (x79_of hZ) a b) (fun x F' hP => ⟨hP.2, xZ_q hZ hP.1 (by decide)⟩)
  | 1, _, hZ => exact xz_pI (σ := σ) (V := fun σ r => r = a_sure a b σ) (f := fun σ => σ) (by decide) (by decide) (j1su_V F [] X2 hZ.2.1 hZ.2.2.2.2.2.2 hZ.2.2.2.2.2.1 (x79_of hZ) a b) (fun x F' hP => ⟨hP.2, xZ_q hZ hP.1 (by decide)⟩)
  | 2, _, hZ => exact xz_pI (σ := σ) (V := fun σ r => r = a_sure a b σ) (f := fun σ => σ) (by decide) (by decide) (j2su_V F [] X2 hZ.2.1 hZ.2.2.2.2.2.2 hZ.2.2.2.2.2.1 (x79_of hZ) a b) (fun x F' hP => ⟨hP.2, xZ_q hZ hP.1 (by decide)⟩)
  | 3, _, hZ => exact xz_pI (σ := σ) (V := fun σ r => r = a_sure a b σ) (f := fun σ => σ) (by decide) (by decide) (j3su_V F [] X2 hZ.2.1 hZ.2.2.2.2.2.2 hZ.2.2.2.2.2.1 (x79_of hZ) a b) (fun x F' hP => ⟨hP.2, xZ_q hZ hP.1 (by decide)⟩)
  | n + 4, h, _ => exact absurd h (by omega)
theorem m_234 (a b : Int32) : mzT Ls xs jm_M234 [.int (a), .int (b)] (fun σ r => r = a_sure a b σ) (fun σ => σ) := ⟨7, by decide, fun F X1 σ hZ hO => mz_pI (σ := σ) (V := fun σ r => r = a_sure a b σ) (f := fun σ => σ) (rsu_V F X1 [] hZ.2.1 hZ.2.2.2.2.2 (m21_of hZ) a b) (fun x F' hP => ⟨hP.2, mZ_q hZ hP.1 (by decide)⟩)⟩
theorem x_112 (a : Int32) : xzT Ls xs jm_M112 [.int (a)] (fun σ r => r = a_ask a σ) (fun σ => σ) := by
  intro s F X2 σ hs hZ hO
  match s, hs, hZ with
  | 0, _, hZ => exact xz_pI (σ := σ) (V := fun σ r => r = a_ask a σ) (f := fun σ => σ) (by decide) (by decide) (j0as_V F [] X2 hZ.2.1 hZ.2.2.2.2.2.2 hZ.2.2.2.2.2.1 (x79_of hZ) a) (fun x F' hP => ⟨hP.2, xZ_q hZ hP.1 (by decide)⟩)
  | 1, _, hZ => exact xz_pI (σ := σ) (V := fun σ r => r = a_ask a σ) (f := fun σ => σ) (by decide) (by decide) (j1as_V F [] X2 hZ.2.1 hZ.2.2.2.2.2.2 hZ.2.2.2.2.2.1 (x79_of hZ) a) (fun x F' hP => ⟨hP.2, xZ_q hZ hP.1 (by decide)⟩)
  | 2, _, hZ => exact xz_pI (σ := σ) (V := fun σ r => r = a_ask a σ) (f := fun σ => σ) (by decide) (by decide) (j2as_V F [] X2 hZ.2.1 hZ.2.2.2.2.2.2 hZ.2.2.2.2.2.1 (x79_of hZ) a) (fun x F' hP => ⟨hP.2, xZ_q hZ hP.1 (by decide)⟩)
  | 3, _, hZ => exact xz_pI (σ := σ) (V := fun σ r => r = a_ask a σ) (f := fun σ => σ) (by decide) (by decide) (j3as_V F [] X2 hZ.2.1 hZ.2.2.2.2.2.2 hZ.2.2.2.2.2.1 (x79_of hZ) a) (fun x F' hP => ⟨hP.2, xZ_q hZ hP.1 (by decide)⟩)
  | n + 4, h, _ => exact absurd h (by omega)
theorem m_235 (a : Int32) : mzT Ls xs jm_M235 [.int (a)] (fun σ r => r = a_ask a σ) (fun σ => σ) := ⟨7, by decide, fun F X1 σ hZ hO => mz_pI (σ := σ) (V := fun σ r => r = a_ask a σ) (f := fun σ => σ) (ras_V F X1 [] hZ.2.1 hZ.2.2.2.2.2 (m21_of hZ) a) (fun x F' hP => ⟨hP.2, mZ_q hZ hP.1 (by decide)⟩)⟩
end TOZ
end
