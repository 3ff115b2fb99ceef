/-! ===== the class parses fruit, buyers, settings, way by way (shape 3) ===== -/
theorem k3pf_0_p0 {Ls : Nat} {xs : Nat → Int32} {d : Nat} {Q : Option Value → jm_h → Prop} (hd : 4 ≤ d) (F : Nat → sy_d) (X1 X2 : List jm_c) (hB : iv_in F iv_B0)
    (h0 : (sy_i F 3).toInt < 7)
    (k : ∀ F1 : Nat → sy_d, (∀ j, j < 82 → True → F1 j = F j) → hd_W Ls xs d jm_M33 Q (20, sy_dL F1 [some (.inl (.ref 30)), none], sy_dS F1 [.inl (.int 0), .inl (.ref 30)], sy_dh F1 X1 X2 (iv_H 3), 0, 0)) :
    hd_W Ls xs d jm_M33 Q (0, sy_dL F [some (.inl (.ref 30)), none], sy_dS F [], sy_dh F X1 X2 (iv_H 3), 0, 0) := by
  refine hd_run (s := 3) (nv := 82) (pc := 20) (L := [some (.inl (.ref 30)), none]) (S := [.inl (.int 0), .inl (.ref 30)]) (uh := hd_ov (iv_id 0 iv_B0) []) (ul := []) (f := true) (sp := [20]) (d0 := 3) (O := [true]) (T := []) (P := [(2, .inr (.inl 3), .inl (.int 7))]) jm_ok33 (by decide +kernel) (by decide +kernel) hd F X1 X2 (fun F' hF hs => ?_)
  have b3 := hd_b (F := F) (F' := F') (k := 3) (hF 3 (by decide))
  have hB' : iv_in F' iv_B0 := iv_in_eq hB (fun j hj => hF j (Nat.lt_of_lt_of_le hj (by decide +kernel)))
  refine ⟨List.forall_mem_cons.mpr ⟨hd_p2 b3 rfl (by have hc : ((7) : Int32).toInt = 7 := (by decide); omega), fun _ h => absurd h List.not_mem_nil⟩, ?_⟩
  refine k _ ?_
  · exact fun j hj _ => (hd_keep hB' (Nat.lt_of_lt_of_le hj (by decide +kernel)) (by simp)).trans (hF j (by omega))
theorem k3pf_0_p1 {Ls : Nat} {xs : Nat → Int32} {d : Nat} {Q : Option Value → jm_h → Prop} (hd : 4 ≤ d) (F : Nat → sy_d) (X1 X2 : List jm_c) (hB : iv_in F iv_B0)
    (h0 : 7 ≤ (sy_i F 3).toInt)
    (k : ∀ F1 : Nat → sy_d, (∀ j, j < 82 → j ≠ 34 → F1 j = F j) → F1 34 = .inl (.int ((2 : Int32))) → Q (some (.int ((0 : Int32)))) (sy_dh F1 X1 X2 (iv_H 3))) :
    hd_W Ls xs d jm_M33 Q (0, sy_dL F [some (.inl (.ref 30)), none], sy_dS F [], sy_dh F X1 X2 (iv_H 3), 0, 0) := by
  refine hd_ret (s := 3) (nv := 82) (v := some (.inl (.int 0))) (uh := hd_ov (iv_id 0 iv_B0) [(34, .inl (.inl (.int 2)))]) (f := true) (sp := [20]) (d0 := 3) (O := [false]) (T := []) (P := [(3, .inr (.inl 3), .inl (.int 7))]) jm_ok33 (by decide +kernel) (by decide +kernel) hd F X1 X2 (fun F' hF hs => ?_)
  have b3 := hd_b (F := F) (F' := F') (k := 3) (hF 3 (by decide))
  have hB' : iv_in F' iv_B0 := iv_in_eq hB (fun j hj => hF j (Nat.lt_of_lt_of_le hj (by decide +kernel)))
  refine ⟨List.forall_mem_cons.mpr ⟨hd_p3 b3 rfl (by have hc : ((7) : Int32).toInt = 7 := (by decide); omega), fun _ h => absurd h List.not_mem_nil⟩, ?_⟩
  refine k _ ?_ ?_
  · exact fun j hj hn => (hd_keep hB' (Nat.lt_of_lt_of_le hj (by decide +kernel)) (by simp; omega)).trans (hF j (by omega))
  · exact hd_gi (x := .inl (.int 2)) (by decide +kernel) rfl
theorem k3pf_0 {Ls : Nat} {xs : Nat → Int32} {d : Nat} {Q : Option Value → jm_h → Prop} (hd : 4 ≤ d) (F : Nat → sy_d) (X1 X2 : List jm_c) (hB : iv_in F iv_B0)
    (k0 : (sy_i F 3).toInt < 7 → ∀ F1 : Nat → sy_d, iv_in F1 iv_B0 → (∀ j, j < 82 → j ∉ ([] : List Nat) → F1 j = F j) → (sy_i F1 33).toInt = (sy_i F 33).toInt → (sy_i F1 34).toInt = (sy_i F 34).toInt → (sy_i F1 36).toInt = (sy_i F 36).toInt → (sy_i F1 37).toInt = (sy_i F 37).toInt → (sy_i F1 38).toInt = (sy_i F 38).toInt → (sy_i F1 3).toInt = (sy_i F 3).toInt → (sy_i F1 4).toInt = (sy_i F 4).toInt → sy_ai F1 39 = sy_ai F 39 → hd_W Ls xs d jm_M33 Q (20, sy_dL F1 [some (.inl (.ref 30)), none], sy_dS F1 [.inl (.int 0), .inl (.ref 30)], sy_dh F1 X1 X2 (iv_H 3), 0, 0))
    (k1 : 7 ≤ (sy_i F 3).toInt → ∀ F1 : Nat → sy_d, iv_in F1 iv_B0 → (∀ j, j < 82 → j ∉ ([34] : List Nat) → F1 j = F j) → (sy_i F1 33).toInt = (sy_i F 33).toInt → (sy_i F1 34).toInt = 2 → (sy_i F1 36).toInt = (sy_i F 36).toInt → (sy_i F1 37).toInt = (sy_i F 37).toInt → (sy_i F1 38).toInt = (sy_i F 38).toInt → (sy_i F1 3).toInt = (sy_i F 3).toInt → (sy_i F1 4).toInt = (sy_i F 4).toInt → sy_ai F1 39 = sy_ai F 39 → Q (some (.int ((0 : Int32)))) (sy_dh F1 X1 X2 (iv_H 3))) :
    hd_W Ls xs d jm_M33 Q (0, sy_dL F [some (.inl (.ref 30)), none], sy_dS F [], sy_dh F X1 X2 (iv_H 3), 0, 0) := by
  by_cases g0 : (sy_i F 3).toInt < 7
  · have c3 := nz_bx hB (k := 3) (lo := 0) (hi := 7) rfl
    exact k3pf_0_p0 hd F X1 X2 hB (by first | exact g0 | (simp only [nz_c]; exact g0)) (fun F1 g  => k0 g0 F1 (nz_in0 hB [] (fun j hj hn => g j hj (by simp only [List.mem_cons, List.not_mem_nil, or_false, not_or] at hn; exact trivial)) (List.forall_mem_nil _)) (fun j hj hn => g j hj (by simp only [List.mem_cons, List.not_mem_nil, or_false, not_or] at hn; exact trivial)) (nz_fi (g 33 (by decide) (by decide))) (nz_fi (g 34 (by decide) (by decide))) (nz_fi (g 36 (by decide) (by decide))) (nz_fi (g 37 (by decide) (by decide))) (nz_fi (g 38 (by decide) (by decide))) (nz_fi (g 3 (by decide) (by decide))) (nz_fi (g 4 (by decide) (by decide))) (nz_fa (g 39 (by decide) (by decide))))
  replace g0 : 7 ≤ (sy_i F 3).toInt := by omega
  have c3 := nz_bx hB (k := 3) (lo := 0) (hi := 7) rfl
  exact k3pf_0_p1 hd F X1 X2 hB (by first | exact g0 | (simp only [nz_c]; exact g0)) (fun F1 g e34 => k1 g0 F1 (nz_in0 hB [34] (fun j hj hn => g j hj (by simp only [List.mem_cons, List.not_mem_nil, or_false, not_or] at hn; omega)) (List.forall_mem_cons.mpr ⟨fun t ht => (Option.some.inj ht) ▸ (nz_hz e34), List.forall_mem_nil _⟩)) (fun j hj hn => g j hj (by simp only [List.mem_cons, List.not_mem_nil, or_false, not_or] at hn; omega)) (nz_fi (g 33 (by decide) (by decide))) ((congrArg Int32.toInt (zz_i e34)).trans (by decide : ((2 : Int32)).toInt = 2)) (nz_fi (g 36 (by decide) (by decide))) (nz_fi (g 37 (by decide) (by decide))) (nz_fi (g 38 (by decide) (by decide))) (nz_fi (g 3 (by decide) (by decide))) (nz_fi (g 4 (by decide) (by decide))) (nz_fa (g 39 (by decide) (by decide))))
theorem k3pf_23_p0 {Ls : Nat} {xs : Nat → Int32} {d : Nat} {Q : Option Value → jm_h → Prop} (hd : 4 ≤ d) (F : Nat → sy_d) (X1 X2 : List jm_c) (hB : iv_in F iv_B0)
    (h0 : (sy_i F 82).toInt = 0)
    (k : ∀ F1 : Nat → sy_d, (∀ j, j < 82 → True → F1 j = F j) → Q (some (.int ((0 : Int32)))) (sy_dh F1 X1 X2 (iv_H 3))) :
    hd_W Ls xs d jm_M33 Q (23, sy_dL F [some (.inl (.ref 30)), none], sy_dS F [.inr (.inl 82)], sy_dh F X1 X2 (iv_H 3), 0, 0) := by
  refine hd_ret (s := 3) (nv := 83) (v := some (.inl (.int 0))) (uh := hd_ov (iv_id 0 iv_B0) []) (f := false) (sp := [27]) (d0 := 3) (O := [true]) (T := []) (P := [(0, .inr (.inl 82), .inl (.int 0))]) jm_ok33 (by decide +kernel) (by decide +kernel) hd F X1 X2 (fun F' hF hs => ?_)
  have b82 := hd_b (F := F) (F' := F') (k := 82) (hF 82 (by decide))
  have hB' : iv_in F' iv_B0 := iv_in_eq hB (fun j hj => hF j (Nat.lt_of_lt_of_le hj (by decide +kernel)))
  refine ⟨List.forall_mem_cons.mpr ⟨hd_p0 b82 rfl (by have hc : ((0) : Int32).toInt = 0 := (by decide); omega), fun _ h => absurd h List.not_mem_nil⟩, ?_⟩
  refine k _ ?_
  · exact fun j hj _ => (hd_keep hB' (Nat.lt_of_lt_of_le hj (by decide +kernel)) (by simp)).trans (hF j (by omega))
theorem k3pf_23_p1 {Ls : Nat} {xs : Nat → Int32} {d : Nat} {Q : Option Value → jm_h → Prop} (hd : 4 ≤ d) (F : Nat → sy_d) (X1 X2 : List jm_c) (hB : iv_in F iv_B0)
    (h0 : (sy_i F 82).toInt ≠ 0)
    (k : ∀ F1 : Nat → sy_d, (∀ j, j < 82 → True → F1 j = F j) → hd_W Ls xs d jm_M33 Q (27, sy_dL F1 [some (.inl (.ref 30)), none], sy_dS F1 [.inl (.ref 30)], sy_dh F1 X1 X2 (iv_H 3), 0, 0)) :
    hd_W Ls xs d jm_M33 Q (23, sy_dL F [some (.inl (.ref 30)), none], sy_dS F [.inr (.inl 82)], sy_dh F X1 X2 (iv_H 3), 0, 0) := by
  refine hd_run (s := 3) (nv := 83) (pc := 27) (L := [some (.inl (.ref 30)), none]) (S := [.inl (.ref 30)]) (uh := hd_ov (iv_id 0 iv_B0) []) (ul := []) (f := false) (sp := [27]) (d0 := 3) (O := [false]) (T := []) (P := [(1, .inr (.inl 82), .inl (.int 0))]) jm_ok33 (by decide +kernel) (by decide +kernel) hd F X1 X2 (fun F' hF hs => ?_)
  have b82 := hd_b (F := F) (F' := F') (k := 82) (hF 82 (by decide))
  have hB' : iv_in F' iv_B0 := iv_in_eq hB (fun j hj => hF j (Nat.lt_of_lt_of_le hj (by decide +kernel)))
  refine ⟨List.forall_mem_cons.mpr ⟨hd_p1 b82 rfl (by have hc : ((0) : Int32).toInt = 0 := (by decide); omega), fun _ h => absurd h List.not_mem_nil⟩, ?_⟩
  refine k _ ?_
  · exact fun j hj _ => (hd_keep hB' (Nat.lt_of_lt_of_le hj (by decide +kernel)) (by simp)).trans (hF j (by omega))
theorem k3pf_23 {Ls : Nat} {xs : Nat → Int32} {d : Nat} {Q : Option Value → jm_h → Prop} (hd : 4 ≤ d) (F : Nat → sy_d) (X1 X2 : List jm_c) (hB : iv_in F iv_B0)
    (k0 : (sy_i F 82).toInt = 0 → ∀ F1 : Nat → sy_d, iv_in F1 iv_B0 → (∀ j, j < 82 → j ∉ ([] : List Nat) → F1 j = F j) → (sy_i F1 33).toInt = (sy_i F 33).toInt → (sy_i F1 34).toInt = (sy_i F 34).toInt → (sy_i F1 36).toInt = (sy_i F 36).toInt → (sy_i F1 37).toInt = (sy_i F 37).toInt → (sy_i F1 38).toInt = (sy_i F 38).toInt → (sy_i F1 3).toInt = (sy_i F 3).toInt → (sy_i F1 4).toInt = (sy_i F 4).toInt → sy_ai F1 39 = sy_ai F 39 → Q (some (.int ((0 : Int32)))) (sy_dh F1 X1 X2 (iv_H 3)))
    (k1 : (sy_i F 82).toInt ≠ 0 → ∀ F1 : Nat → sy_d, iv_in F1 iv_B0 → (∀ j, j < 82 → j ∉ ([] : List Nat) → F1 j = F j) → (sy_i F1 33).toInt = (sy_i F 33).toInt → (sy_i F1 34).toInt = (sy_i F 34).toInt → (sy_i F1 36).toInt = (sy_i F 36).toInt → (sy_i F1 37).toInt = (sy_i F 37).toInt → (sy_i F1 38).toInt = (sy_i F 38).toInt → (sy_i F1 3).toInt = (sy_i F 3).toInt → (sy_i F1 4).toInt = (sy_i F 4).toInt → sy_ai F1 39 = sy_ai F 39 → hd_W Ls xs d jm_M33 Q (27, sy_dL F1 [some (.inl (.ref 30)), none], sy_dS F1 [.inl (.ref 30)], sy_dh F1 X1 X2 (iv_H 3), 0, 0)) :
    hd_W Ls xs d jm_M33 Q (23, sy_dL F [some (.inl (.ref 30)), none], sy_dS F [.inr (.inl 82)], sy_dh F X1 X2 (iv_H 3), 0, 0) := by
  by_cases g0 : (sy_i F 82).toInt = 0
  · exact k3pf_23_p0 hd F X1 X2 hB (by first | exact g0 | (simp only [nz_c]; exact g0)) (fun F1 g  => k0 g0 F1 (nz_in0 hB [] (fun j hj hn => g j hj (by simp only [List.mem_cons, List.not_mem_nil, or_false, not_or] at hn; exact trivial)) (List.forall_mem_nil _)) (fun j hj hn => g j hj (by simp only [List.mem_cons, List.not_mem_nil, or_false, not_or] at hn; exact trivial)) (nz_fi (g 33 (by decide) (by decide))) (nz_fi (g 34 (by decide) (by decide))) (nz_fi (g 36 (by decide) (by decide))) (nz_fi (g 37 (by decide) (by decide))) (nz_fi (g 38 (by decide) (by decide))) (nz_fi (g 3 (by decide) (by decide))) (nz_fi (g 4 (by decide) (by decide))) (nz_fa (g 39 (by decide) (by decide))))
  replace g0 : (sy_i F 82).toInt ≠ 0 := by omega
  exact k3pf_23_p1 hd F X1 X2 hB (by first | exact g0 | (simp only [nz_c]; exact g0)) (fun F1 g  => k1 g0 F1 (nz_in0 hB [] (fun j hj hn => g j hj (by simp only [List.mem_cons, List.not_mem_nil, or_false, not_or] at hn; exact trivial)) (List.forall_mem_nil _)) (fun j hj hn => g j hj (by simp only [List.mem_cons, List.not_mem_nil, or_false, not_or] at hn; exact trivial)) (nz_fi (g 33 (by decide) (by decide))) (nz_fi (g 34 (by decide) (by decide))) (nz_fi (g 36 (by decide) (by decide))) (nz_fi (g 37 (by decide) (by decide))) (nz_fi (g 38 (by decide) (by decide))) (nz_fi (g 3 (by decide) (by decide))) (nz_fi (g 4 (by decide) (by decide))) (nz_fa (g 39 (by decide) (by decide))))
theorem k3pf_30_p0 {Ls : Nat} {xs : Nat → Int32} {d : Nat} {Q : Option Value → jm_h → Prop} (hd : 4 ≤ d) (F : Nat → sy_d) (X1 X2 : List jm_c) (hB : iv_in F iv_B0)
    (h0 : (sy_i F 82).toInt = 0)
    (k : ∀ F1 : Nat → sy_d, (∀ j, j < 82 → True → F1 j = F j) → Q (some (.int ((0 : Int32)))) (sy_dh F1 X1 X2 (iv_H 3))) :
    hd_W Ls xs d jm_M33 Q (30, sy_dL F [some (.inl (.ref 30)), none], sy_dS F [.inr (.inl 82)], sy_dh F X1 X2 (iv_H 3), 0, 0) := by
  refine hd_ret (s := 3) (nv := 83) (v := some (.inl (.int 0))) (uh := hd_ov (iv_id 0 iv_B0) []) (f := false) (sp := [38]) (d0 := 3) (O := [true]) (T := []) (P := [(0, .inr (.inl 82), .inl (.int 0))]) jm_ok33 (by decide +kernel) (by decide +kernel) hd F X1 X2 (fun F' hF hs => ?_)
  have b82 := hd_b (F := F) (F' := F') (k := 82) (hF 82 (by decide))
  have hB' : iv_in F' iv_B0 := iv_in_eq hB (fun j hj => hF j (Nat.lt_of_lt_of_le hj (by decide +kernel)))
  refine ⟨List.forall_mem_cons.mpr ⟨hd_p0 b82 rfl (by have hc : ((0) : Int32).toInt = 0 := (by decide); omega), fun _ h => absurd h List.not_mem_nil⟩, ?_⟩
  refine k _ ?_
  · exact fun j hj _ => (hd_keep hB' (Nat.lt_of_lt_of_le hj (by decide +kernel)) (by simp)).trans (hF j (by omega))
theorem k3pf_30_p1 {Ls : Nat} {xs : Nat → Int32} {d : Nat} {Q : Option Value → jm_h → Prop} (hd : 4 ≤ d) (F : Nat → sy_d) (X1 X2 : List jm_c) (hB : iv_in F iv_B0)
    (h0 : (sy_i F 82).toInt ≠ 0)
    (k : ∀ F1 : Nat → sy_d, (∀ j, j < 82 → True → F1 j = F j) → hd_W Ls xs d jm_M33 Q (38, sy_dL F1 [some (.inl (.ref 30)), none], sy_dS F1 [.inl (.int 9), .inl (.int 0), .inl (.int 0), .inl (.ref 30)], sy_dh F1 X1 X2 (iv_H 3), 0, 0)) :
    hd_W Ls xs d jm_M33 Q (30, sy_dL F [some (.inl (.ref 30)), none], sy_dS F [.inr (.inl 82)], sy_dh F X1 X2 (iv_H 3), 0, 0) := by
  refine hd_run (s := 3) (nv := 83) (pc := 38) (L := [some (.inl (.ref 30)), none]) (S := [.inl (.int 9), .inl (.int 0), .inl (.int 0), .inl (.ref 30)]) (uh := hd_ov (iv_id 0 iv_B0) []) (ul := []) (f := false) (sp := [38]) (d0 := 3) (O := [false]) (T := []) (P := [(1, .inr (.inl 82), .inl (.int 0))]) jm_ok33 (by decide +kernel) (by decide +kernel) hd F X1 X2 (fun F' hF hs => ?_)
  have b82 := hd_b (F := F) (F' := F') (k := 82) (hF 82 (by decide))
  have hB' : iv_in F' iv_B0 := iv_in_eq hB (fun j hj => hF j (Nat.lt_of_lt_of_le hj (by decide +kernel)))
  refine ⟨List.forall_mem_cons.mpr ⟨hd_p1 b82 rfl (by have hc : ((0) : Int32).toInt = 0 := (by decide); omega), fun _ h => absurd h List.not_mem_nil⟩, ?_⟩
  refine k _ ?_
  · exact fun j hj _ => (hd_keep hB' (Nat.lt_of_lt_of_le hj (by decide +kernel)) (by simp)).trans (hF j (by omega))
theorem k3pf_30 {Ls : Nat} {xs : Nat → Int32} {d : Nat} {Q : Option Value → jm_h → Prop} (hd : 4 ≤ d) (F : Nat → sy_d) (X1 X2 : List jm_c) (hB : iv_in F iv_B0)
    (k0 : (sy_i F 82).toInt = 0 → ∀ F1 : Nat → sy_d, iv_in F1 iv_B0 → (∀ j, j < 82 → j ∉ ([] : List Nat) → F1 j = F j) → (sy_i F1 33).toInt = (sy_i F 33).toInt → (sy_i F1 34).toInt = (sy_i F 34).toInt → (sy_i F1 36).toInt = (sy_i F 36).toInt → (sy_i F1 37).toInt = (sy_i F 37).toInt → (sy_i F1 38).toInt = (sy_i F 38).toInt → (sy_i F1 3).toInt = (sy_i F 3).toInt → (sy_i F1 4).toInt = (sy_i F 4).toInt → sy_ai F1 39 = sy_ai F 39 → Q (some (.int ((0 : Int32)))) (sy_dh F1 X1 X2 (iv_H 3)))
    (k1 : (sy_i F 82).toInt ≠ 0 → ∀ F1 : Nat → sy_d, iv_in F1 iv_B0 → (∀ j, j < 82 → j ∉ ([] : List Nat) → F1 j = F j) → (sy_i F1 33).toInt = (sy_i F 33).toInt → (sy_i F1 34).toInt = (sy_i F 34).toInt → (sy_i F1 36).toInt = (sy_i F 36).toInt → (sy_i F1 37).toInt = (sy_i F 37).toInt → (sy_i F1 38).toInt = (sy_i F 38).toInt → (sy_i F1 3).toInt = (sy_i F 3).toInt → (sy_i F1 4).toInt = (sy_i F 4).toInt → sy_ai F1 39 = sy_ai F 39 → hd_W Ls xs d jm_M33 Q (38, sy_dL F1 [some (.inl (.ref 30)), none], sy_dS F1 [.inl (.int 9), .inl (.int 0), .inl (.int 0), .inl (.ref 30)], sy_dh F1 X1 X2 (iv_H 3), 0, 0)) :
    hd_W Ls xs d jm_M33 Q (30, sy_dL F [some (.inl (.ref 30)), none], sy_dS F [.inr (.inl 82)], sy_dh F X1 X2 (iv_H 3), 0, 0) := by
  by_cases g0 : (sy_i F 82).toInt = 0
  · exact k3pf_30_p0 hd F X1 X2 hB (by first | exact g0 | (simp only [nz_c]; exact g0)) (fun F1 g  => k0 g0 F1 (nz_in0 hB [] (fun j hj hn => g j hj (by simp only [List.mem_cons, List.not_mem_nil, or_false, not_or] at hn; exact trivial)) (List.forall_mem_nil _)) (fun j hj hn => g j hj (by simp only [List.mem_cons, List.not_mem_nil, or_false, not_or] at hn; exact trivial)) (nz_fi (g 33 (by decide) (by decide))) (nz_fi (g 34 (by decide) (by decide))) (nz_fi (g 36 (by decide) (by decide))) (nz_fi (g 37 (by decide) (by decide))) (nz_fi (g 38 (by decide) (by decide))) (nz_fi (g 3 (by decide) (by decide))) (nz_fi (g 4 (by decide) (by decide))) (nz_fa (g 39 (by decide) (by decide))))
  replace g0 : (sy_i F 82).toInt ≠ 0 := by omega
  exact k3pf_30_p1 hd F X1 X2 hB (by first | exact g0 | (simp only [nz_c]; exact g0)) (fun F1 g  => k1 g0 F1 (nz_in0 hB [] (fun j hj hn => g j hj (by simp only [List.mem_cons, List.not_mem_nil, or_false, not_or] at hn; exact trivial)) (List.forall_mem_nil _)) (fun j hj hn => g j hj (by simp only [List.mem_cons, List.not_mem_nil, or_false, not_or] at hn; exact trivial)) (nz_fi (g 33 (by decide) (by decide))) (nz_fi (g 34 (by decide) (by decide))) (nz_fi (g 36 (by decide) (by decide))) (nz_fi (g 37 (by decide) (by decide))) (nz_fi (g 38 (by decide) (by decide))) (nz_fi (g 3 (by decide) (by decide))) (nz_fi (g 4 (by decide) (by decide))) (nz_fa (g 39 (by decide) (by decide))))
theorem k3pf_41_p0 {Ls : Nat} {xs : Nat → Int32} {d : Nat} {Q : Option Value → jm_h → Prop} (hd : 4 ≤ d) (F : Nat → sy_d) (X1 X2 : List jm_c) (hB : iv_in F iv_B0)
    (h0 : (sy_i F 82).toInt = 0)
    (k : ∀ F1 : Nat → sy_d, (∀ j, j < 82 → True → F1 j = F j) → Q (some (.int ((0 : Int32)))) (sy_dh F1 X1 X2 (iv_H 3))) :
    hd_W Ls xs d jm_M33 Q (41, sy_dL F [some (.inl (.ref 30)), none], sy_dS F [.inr (.inl 82)], sy_dh F X1 X2 (iv_H 3), 0, 0) := by
  refine hd_ret (s := 3) (nv := 83) (v := some (.inl (.int 0))) (uh := hd_ov (iv_id 0 iv_B0) []) (f := false) (sp := [49]) (d0 := 3) (O := [true]) (T := []) (P := [(0, .inr (.inl 82), .inl (.int 0))]) jm_ok33 (by decide +kernel) (by decide +kernel) hd F X1 X2 (fun F' hF hs => ?_)
  have b82 := hd_b (F := F) (F' := F') (k := 82) (hF 82 (by decide))
  have hB' : iv_in F' iv_B0 := iv_in_eq hB (fun j hj => hF j (Nat.lt_of_lt_of_le hj (by decide +kernel)))
  refine ⟨List.forall_mem_cons.mpr ⟨hd_p0 b82 rfl (by have hc : ((0) : Int32).toInt = 0 := (by decide); omega), fun _ h => absurd h List.not_mem_nil⟩, ?_⟩
  refine k _ ?_
  · exact fun j hj _ => (hd_keep hB' (Nat.lt_of_lt_of_le hj (by decide +kernel)) (by simp)).trans (hF j (by omega))
theorem k3pf_41_p1 {Ls : Nat} {xs : Nat → Int32} {d : Nat} {Q : Option Value → jm_h → Prop} (hd : 4 ≤ d) (F : Nat → sy_d) (X1 X2 : List jm_c) (hB : iv_in F iv_B0)
    (h0 : (sy_i F 82).toInt ≠ 0)
    (k : ∀ F1 : Nat → sy_d, (∀ j, j < 82 → True → F1 j = F j) → hd_W Ls xs d jm_M33 Q (49, sy_dL F1 [some (.inl (.ref 30)), none], sy_dS F1 [.inl (.int 9), .inl (.int 1), .inl (.int 1), .inl (.ref 30)], sy_dh F1 X1 X2 (iv_H 3), 0, 0)) :
    hd_W Ls xs d jm_M33 Q (41, sy_dL F [some (.inl (.ref 30)), none], sy_dS F [.inr (.inl 82)], sy_dh F X1 X2 (iv_H 3), 0, 0) := by
  refine hd_run (s := 3) (nv := 83) (pc := 49) (L := [some (.inl (.ref 30)), none]) (S := [.inl (.int 9), .inl (.int 1), .inl (.int 1), .inl (.ref 30)]) (uh := hd_ov (iv_id 0 iv_B0) []) (ul := []) (f := false) (sp := [49]) (d0 := 3) (O := [false]) (T := []) (P := [(1, .inr (.inl 82), .inl (.int 0))]) jm_ok33 (by decide +kernel) (by decide +kernel) hd F X1 X2 (fun F' hF hs => ?_)
  have b82 := hd_b (F := F) (F' := F') (k := 82) (hF 82 (by decide))
  have hB' : iv_in F' iv_B0 := iv_in_eq hB (fun j hj => hF j (Nat.lt_of_lt_of_le hj (by decide +kernel)))
  refine ⟨List.forall_mem_cons.mpr ⟨hd_p1 b82 rfl (by have hc : ((0) : Int32).toInt = 0 := (by decide); omega), fun _ h => absurd h List.not_mem_nil⟩, ?_⟩
  refine k _ ?_
  · exact fun j hj _ => (hd_keep hB' (Nat.lt_of_lt_of_le hj (by decide +kernel)) (by simp)).trans (hF j (by omega))
theorem k3pf_41 {Ls : Nat} {xs : Nat → Int32} {d : Nat} {Q : Option Value → jm_h → Prop} (hd : 4 ≤ d) (F : Nat → sy_d) (X1 X2 : List jm_c) (hB : iv_in F iv_B0)
    (k0 : (sy_i F 82).toInt = 0 → ∀ F1 : Nat → sy_d, iv_in F1 iv_B0 → (∀ j, j < 82 → j ∉ ([] : List Nat) → F1 j = F j) → (sy_i F1 33).toInt = (sy_i F 33).toInt → (sy_i F1 34).toInt = (sy_i F 34).toInt → (sy_i F1 36).toInt = (sy_i F 36).toInt → (sy_i F1 37).toInt = (sy_i F 37).toInt → (sy_i F1 38).toInt = (sy_i F 38).toInt → (sy_i F1 3).toInt = (sy_i F 3).toInt → (sy_i F1 4).toInt = (sy_i F 4).toInt → sy_ai F1 39 = sy_ai F 39 → Q (some (.int ((0 : Int32)))) (sy_dh F1 X1 X2 (iv_H 3)))
    (k1 : (sy_i F 82).toInt ≠ 0 → ∀ F1 : Nat → sy_d, iv_in F1 iv_B0 → (∀ j, j < 82 → j ∉ ([] : List Nat) → F1 j = F j) → (sy_i F1 33).toInt = (sy_i F 33).toInt → (sy_i F1 34).toInt = (sy_i F 34).toInt → (sy_i F1 36).toInt = (sy_i F 36).toInt → (sy_i F1 37).toInt = (sy_i F 37).toInt → (sy_i F1 38).toInt = (sy_i F 38).toInt → (sy_i F1 3).toInt = (sy_i F 3).toInt → (sy_i F1 4).toInt = (sy_i F 4).toInt → sy_ai F1 39 = sy_ai F 39 → hd_W Ls xs d jm_M33 Q (49, sy_dL F1 [some (.inl (.ref 30)), none], sy_dS F1 [.inl (.int 9), .inl (.int 1), .inl (.int 1), .inl (.ref 30)], sy_dh F1 X1 X2 (iv_H 3), 0, 0)) :
    hd_W Ls xs d jm_M33 Q (41, sy_dL F [some (.inl (.ref 30)), none], sy_dS F [.inr (.inl 82)], sy_dh F X1 X2 (iv_H 3), 0, 0) := by
  by_cases g0 : (sy_i F 82).toInt = 0
  · exact k3pf_41_p0 hd F X1 X2 hB (by first | exact g0 | (simp only [nz_c]; exact g0)) (fun F1 g  => k0 g0 F1 (nz_in0 hB [] (fun j hj hn => g j hj (by simp only [List.mem_cons, List.not_mem_nil, or_false, not_or] at hn; exact trivial)) (List.forall_mem_nil _)) (fun j hj hn => g j hj (by simp only [List.mem_cons, List.not_mem_nil, or_false, not_or] at hn; exact trivial)) (nz_fi (g 33 (by decide) (by decide))) (nz_fi (g 34 (by decide) (by decide))) (nz_fi (g 36 (by decide) (by decide))) (nz_fi (g 37 (by decide) (by decide))) (nz_fi (g 38 (by decide) (by decide))) (nz_fi (g 3 (by decide) (by decide))) (nz_fi (g 4 (by decide) (by decide))) (nz_fa (g 39 (by decide) (by decide))))
  replace g0 : (sy_i F 82).toInt ≠ 0 := by omega
  exact k3pf_41_p1 hd F X1 X2 hB (by first | exact g0 | (simp only [nz_c]; exact g0)) (fun F1 g  => k1 g0 F1 (nz_in0 hB [] (fun j hj hn => g j hj (by simp only [List.mem_cons, List.not_mem_nil, or_false, not_or] at hn; exact trivial)) (List.forall_mem_nil _)) (fun j hj hn => g j hj (by simp only [List.mem_cons, List.not_mem_nil, or_false, not_or] at hn; exact trivial)) (nz_fi (g 33 (by decide) (by decide))) (nz_fi (g 34 (by decide) (by decide))) (nz_fi (g 36 (by decide) (by decide))) (nz_fi (g 37 (by decide) (by decide))) (nz_fi (g 38 (by decide) (by decide))) (nz_fi (g 3 (by decide) (by decide))) (nz_fi (g 4 (by decide) (by decide))) (nz_fa (g 39 (by decide) (by decide))))
theorem k3pf_52_p0 {Ls : Nat} {xs : Nat → Int32} {d : Nat} {Q : Option Value → jm_h → Prop} (hd : 4 ≤ d) (F : Nat → sy_d) (X1 X2 : List jm_c) (hB : iv_in F iv_B0)
    (h0 : (sy_i F 82).toInt = 0)
    (k : ∀ F1 : Nat → sy_d, (∀ j, j < 82 → True → F1 j = F j) → Q (some (.int ((0 : Int32)))) (sy_dh F1 X1 X2 (iv_H 3))) :
    hd_W Ls xs d jm_M33 Q (52, sy_dL F [some (.inl (.ref 30)), none], sy_dS F [.inr (.inl 82)], sy_dh F X1 X2 (iv_H 3), 0, 0) := by
  refine hd_ret (s := 3) (nv := 83) (v := some (.inl (.int 0))) (uh := hd_ov (iv_id 0 iv_B0) []) (f := false) (sp := [60]) (d0 := 3) (O := [true]) (T := []) (P := [(0, .inr (.inl 82), .inl (.int 0))]) jm_ok33 (by decide +kernel) (by decide +kernel) hd F X1 X2 (fun F' hF hs => ?_)
  have b82 := hd_b (F := F) (F' := F') (k := 82) (hF 82 (by decide))
  have hB' : iv_in F' iv_B0 := iv_in_eq hB (fun j hj => hF j (Nat.lt_of_lt_of_le hj (by decide +kernel)))
  refine ⟨List.forall_mem_cons.mpr ⟨hd_p0 b82 rfl (by have hc : ((0) : Int32).toInt = 0 := (by decide); omega), fun _ h => absurd h List.not_mem_nil⟩, ?_⟩
  refine k _ ?_
  · exact fun j hj _ => (hd_keep hB' (Nat.lt_of_lt_of_le hj (by decide +kernel)) (by simp)).trans (hF j (by omega))
theorem k3pf_52_p1 {Ls : Nat} {xs : Nat → Int32} {d : Nat} {Q : Option Value → jm_h → Prop} (hd : 4 ≤ d) (F : Nat → sy_d) (X1 X2 : List jm_c) (hB : iv_in F iv_B0)
    (h0 : (sy_i F 82).toInt ≠ 0)
    (k : ∀ F1 : Nat → sy_d, (∀ j, j < 82 → True → F1 j = F j) → hd_W Ls xs d jm_M33 Q (60, sy_dL F1 [some (.inl (.ref 30)), none], sy_dS F1 [.inl (.int 99), .inl (.int 0), .inl (.int 2), .inl (.ref 30)], sy_dh F1 X1 X2 (iv_H 3), 0, 0)) :
    hd_W Ls xs d jm_M33 Q (52, sy_dL F [some (.inl (.ref 30)), none], sy_dS F [.inr (.inl 82)], sy_dh F X1 X2 (iv_H 3), 0, 0) := by
  refine hd_run (s := 3) (nv := 83) (pc := 60) (L := [some (.inl (.ref 30)), none]) (S := [.inl (.int 99), .inl (.int 0), .inl (.int 2), .inl (.ref 30)]) (uh := hd_ov (iv_id 0 iv_B0) []) (ul := []) (f := false) (sp := [60]) (d0 := 3) (O := [false]) (T := []) (P := [(1, .inr (.inl 82), .inl (.int 0))]) jm_ok33 (by decide +kernel) (by decide +kernel) hd F X1 X2 (fun F' hF hs => ?_)
  have b82 := hd_b (F := F) (F' := F') (k := 82) (hF 82 (by decide))
  have hB' : iv_in F' iv_B0 := iv_in_eq hB (fun j hj => hF j (Nat.lt_of_lt_of_le hj (by decide +kernel)))
  refine ⟨List.forall_mem_cons.mpr ⟨hd_p1 b82 rfl (by have hc : ((0) : Int32).toInt = 0 := (by decide); omega), fun _ h => absurd h List.not_mem_nil⟩, ?_⟩
  refine k _ ?_
  · exact fun j hj _ => (hd_keep hB' (Nat.lt_of_lt_of_le hj (by decide +kernel)) (by simp)).trans (hF j (by omega))
theorem k3pf_52 {Ls : Nat} {xs : Nat → Int32} {d : Nat} {Q : Option Value → jm_h → Prop} (hd : 4 ≤ d) (F : Nat → sy_d) (X1 X2 : List jm_c) (hB : iv_in F iv_B0)
    (k0 : (sy_i F 82).toInt = 0 → ∀ F1 : Nat → sy_d, iv_in F1 iv_B0 → (∀ j, j < 82 → j ∉ ([] : List Nat) → F1 j = F j) → (sy_i F1 33).toInt = (sy_i F 33).toInt → (sy_i F1 34).toInt = (sy_i F 34).toInt → (sy_i F1 36).toInt = (sy_i F 36).toInt → (sy_i F1 37).toInt = (sy_i F 37).toInt → (sy_i F1 38).toInt = (sy_i F 38).toInt → (sy_i F1 3).toInt = (sy_i F 3).toInt → (sy_i F1 4).toInt = (sy_i F 4).toInt → sy_ai F1 39 = sy_ai F 39 → Q (some (.int ((0 : Int32)))) (sy_dh F1 X1 X2 (iv_H 3)))
    (k1 : (sy_i F 82).toInt ≠ 0 → ∀ F1 : Nat → sy_d, iv_in F1 iv_B0 → (∀ j, j < 82 → j ∉ ([] : List Nat) → F1 j = F j) → (sy_i F1 33).toInt = (sy_i F 33).toInt → (sy_i F1 34).toInt = (sy_i F 34).toInt → (sy_i F1 36).toInt = (sy_i F 36).toInt → (sy_i F1 37).toInt = (sy_i F 37).toInt → (sy_i F1 38).toInt = (sy_i F 38).toInt → (sy_i F1 3).toInt = (sy_i F 3).toInt → (sy_i F1 4).toInt = (sy_i F 4).toInt → sy_ai F1 39 = sy_ai F 39 → hd_W Ls xs d jm_M33 Q (60, sy_dL F1 [some (.inl (.ref 30)), none], sy_dS F1 [.inl (.int 99), .inl (.int 0), .inl (.int 2), .inl (.ref 30)], sy_dh F1 X1 X2 (iv_H 3), 0, 0)) :
    hd_W Ls xs d jm_M33 Q (52, sy_dL F [some (.inl (.ref 30)), none], sy_dS F [.inr (.inl 82)], sy_dh F X1 X2 (iv_H 3), 0, 0) := by
  by_cases g0 : (sy_i F 82).toInt = 0
  · exact k3pf_52_p0 hd F X1 X2 hB (by first | exact g0 | (simp only [nz_c]; exact g0)) (fun F1 g  => k0 g0 F1 (nz_in0 hB [] (fun j hj hn => g j hj (by simp only [List.mem_cons, List.not_mem_nil, or_false, not_or] at hn; exact trivial)) (List.forall_mem_nil _)) (fun j hj hn => g j hj (by simp only [List.mem_cons, List.not_mem_nil, or_false, not_or] at hn; exact trivial)) (nz_fi (g 33 (by decide) (by decide))) (nz_fi (g 34 (by decide) (by decide))) (nz_fi (g 36 (by decide) (by decide))) (nz_fi (g 37 (by decide) (by decide))) (nz_fi (g 38 (by decide) (by decide))) (nz_fi (g 3 (by decide) (by decide))) (nz_fi (g 4 (by decide) (by decide))) (nz_fa (g 39 (by decide) (by decide))))
  replace g0 : (sy_i F 82).toInt ≠ 0 := by omega
  exact k3pf_52_p1 hd F X1 X2 hB (by first | exact g0 | (simp only [nz_c]; exact g0)) (fun F1 g  => k1 g0 F1 (nz_in0 hB [] (fun j hj hn => g j hj (by simp only [List.mem_cons, List.not_mem_nil, or_false, not_or] at hn; exact trivial)) (List.forall_mem_nil _)) (fun j hj hn => g j hj (by simp only [List.mem_cons, List.not_mem_nil, or_false, not_or] at hn; exact trivial)) (nz_fi (g 33 (by decide) (by decide))) (nz_fi (g 34 (by decide) (by decide))) (nz_fi (g 36 (by decide) (by decide))) (nz_fi (g 37 (by decide) (by decide))) (nz_fi (g 38 (by decide) (by decide))) (nz_fi (g 3 (by decide) (by decide))) (nz_fi (g 4 (by decide) (by decide))) (nz_fa (g 39 (by decide) (by decide))))
theorem k3pf_63_p0 {Ls : Nat} {xs : Nat → Int32} {d : Nat} {Q : Option Value → jm_h → Prop} (hd : 4 ≤ d) (F : Nat → sy_d) (X1 X2 : List jm_c) (hB : iv_in F iv_B0)
    (h0 : (sy_i F 82).toInt = 0)
    (k : ∀ F1 : Nat → sy_d, (∀ j, j < 82 → True → F1 j = F j) → Q (some (.int ((0 : Int32)))) (sy_dh F1 X1 X2 (iv_H 3))) :
    hd_W Ls xs d jm_M33 Q (63, sy_dL F [some (.inl (.ref 30)), none], sy_dS F [.inr (.inl 82)], sy_dh F X1 X2 (iv_H 3), 0, 0) := by
  refine hd_ret (s := 3) (nv := 83) (v := some (.inl (.int 0))) (uh := hd_ov (iv_id 0 iv_B0) []) (f := false) (sp := [69]) (d0 := 3) (O := [true]) (T := []) (P := [(0, .inr (.inl 82), .inl (.int 0))]) jm_ok33 (by decide +kernel) (by decide +kernel) hd F X1 X2 (fun F' hF hs => ?_)
  have b82 := hd_b (F := F) (F' := F') (k := 82) (hF 82 (by decide))
  have hB' : iv_in F' iv_B0 := iv_in_eq hB (fun j hj => hF j (Nat.lt_of_lt_of_le hj (by decide +kernel)))
  refine ⟨List.forall_mem_cons.mpr ⟨hd_p0 b82 rfl (by have hc : ((0) : Int32).toInt = 0 := (by decide); omega), fun _ h => absurd h List.not_mem_nil⟩, ?_⟩
  refine k _ ?_
  · exact fun j hj _ => (hd_keep hB' (Nat.lt_of_lt_of_le hj (by decide +kernel)) (by simp)).trans (hF j (by omega))
theorem k3pf_63_p1 {Ls : Nat} {xs : Nat → Int32} {d : Nat} {Q : Option Value → jm_h → Prop} (hd : 4 ≤ d) (F : Nat → sy_d) (X1 X2 : List jm_c) (hB : iv_in F iv_B0)
    (h0 : (sy_i F 82).toInt ≠ 0)
    (k : ∀ F1 : Nat → sy_d, (∀ j, j < 82 → True → F1 j = F j) → hd_W Ls xs d jm_M33 Q (69, sy_dL F1 [some (.inl (.ref 30)), none], sy_dS F1 [.inl (.int 59), .inl (.ref 30)], sy_dh F1 X1 X2 (iv_H 3), 0, 0)) :
    hd_W Ls xs d jm_M33 Q (63, sy_dL F [some (.inl (.ref 30)), none], sy_dS F [.inr (.inl 82)], sy_dh F X1 X2 (iv_H 3), 0, 0) := by
  refine hd_run (s := 3) (nv := 83) (pc := 69) (L := [some (.inl (.ref 30)), none]) (S := [.inl (.int 59), .inl (.ref 30)]) (uh := hd_ov (iv_id 0 iv_B0) []) (ul := []) (f := false) (sp := [69]) (d0 := 3) (O := [false]) (T := []) (P := [(1, .inr (.inl 82), .inl (.int 0))]) jm_ok33 (by decide +kernel) (by decide +kernel) hd F X1 X2 (fun F' hF hs => ?_)
  have b82 := hd_b (F := F) (F' := F') (k := 82) (hF 82 (by decide))
  have hB' : iv_in F' iv_B0 := iv_in_eq hB (fun j hj => hF j (Nat.lt_of_lt_of_le hj (by decide +kernel)))
  refine ⟨List.forall_mem_cons.mpr ⟨hd_p1 b82 rfl (by have hc : ((0) : Int32).toInt = 0 := (by decide); omega), fun _ h => absurd h List.not_mem_nil⟩, ?_⟩
  refine k _ ?_
  · exact fun j hj _ => (hd_keep hB' (Nat.lt_of_lt_of_le hj (by decide +kernel)) (by simp)).trans (hF j (by omega))
theorem k3pf_63 {Ls : Nat} {xs : Nat → Int32} {d : Nat} {Q : Option Value → jm_h → Prop} (hd : 4 ≤ d) (F : Nat → sy_d) (X1 X2 : List jm_c) (hB : iv_in F iv_B0)
    (k0 : (sy_i F 82).toInt = 0 → ∀ F1 : Nat → sy_d, iv_in F1 iv_B0 → (∀ j, j < 82 → j ∉ ([] : List Nat) → F1 j = F j) → (sy_i F1 33).toInt = (sy_i F 33).toInt → (sy_i F1 34).toInt = (sy_i F 34).toInt → (sy_i F1 36).toInt = (sy_i F 36).toInt → (sy_i F1 37).toInt = (sy_i F 37).toInt → (sy_i F1 38).toInt = (sy_i F 38).toInt → (sy_i F1 3).toInt = (sy_i F 3).toInt → (sy_i F1 4).toInt = (sy_i F 4).toInt → sy_ai F1 39 = sy_ai F 39 → Q (some (.int ((0 : Int32)))) (sy_dh F1 X1 X2 (iv_H 3)))
    (k1 : (sy_i F 82).toInt ≠ 0 → ∀ F1 : Nat → sy_d, iv_in F1 iv_B0 → (∀ j, j < 82 → j ∉ ([] : List Nat) → F1 j = F j) → (sy_i F1 33).toInt = (sy_i F 33).toInt → (sy_i F1 34).toInt = (sy_i F 34).toInt → (sy_i F1 36).toInt = (sy_i F 36).toInt → (sy_i F1 37).toInt = (sy_i F 37).toInt → (sy_i F1 38).toInt = (sy_i F 38).toInt → (sy_i F1 3).toInt = (sy_i F 3).toInt → (sy_i F1 4).toInt = (sy_i F 4).toInt → sy_ai F1 39 = sy_ai F 39 → hd_W Ls xs d jm_M33 Q (69, sy_dL F1 [some (.inl (.ref 30)), none], sy_dS F1 [.inl (.int 59), .inl (.ref 30)], sy_dh F1 X1 X2 (iv_H 3), 0, 0)) :
    hd_W Ls xs d jm_M33 Q (63, sy_dL F [some (.inl (.ref 30)), none], sy_dS F [.inr (.inl 82)], sy_dh F X1 X2 (iv_H 3), 0, 0) := by
  by_cases g0 : (sy_i F 82).toInt = 0
  · exact k3pf_63_p0 hd F X1 X2 hB (by first | exact g0 | (simp only [nz_c]; exact g0)) (fun F1 g  => k0 g0 F1 (nz_in0 hB [] (fun j hj hn => g j hj (by simp only [List.mem_cons, List.not_mem_nil, or_false, not_or] at hn; exact trivial)) (List.forall_mem_nil _)) (fun j hj hn => g j hj (by simp only [List.mem_cons, List.not_mem_nil, or_false, not_or] at hn; exact trivial)) (nz_fi (g 33 (by decide) (by decide))) (nz_fi (g 34 (by decide) (by decide))) (nz_fi (g 36 (by decide) (by decide))) (nz_fi (g 37 (by decide) (by decide))) (nz_fi (g 38 (by decide) (by decide))) (nz_fi (g 3 (by decide) (by decide))) (nz_fi (g 4 (by decide) (by decide))) (nz_fa (g 39 (by decide) (by decide))))
  replace g0 : (sy_i F 82).toInt ≠ 0 := by omega
  exact k3pf_63_p1 hd F X1 X2 hB (by first | exact g0 | (simp only [nz_c]; exact g0)) (fun F1 g  => k1 g0 F1 (nz_in0 hB [] (fun j hj hn => g j hj (by simp only [List.mem_cons, List.not_mem_nil, or_false, not_or] at hn; exact trivial)) (List.forall_mem_nil _)) (fun j hj hn => g j hj (by simp only [List.mem_cons, List.not_mem_nil, or_false, not_or] at hn; exact trivial)) (nz_fi (g 33 (by decide) (by decide))) (nz_fi (g 34 (by decide) (by decide))) (nz_fi (g 36 (by decide) (by decide))) (nz_fi (g 37 (by decide) (by decide))) (nz_fi (g 38 (by decide) (by decide))) (nz_fi (g 3 (by decide) (by decide))) (nz_fi (g 4 (by decide) (by decide))) (nz_fa (g 39 (by decide) (by decide))))
theorem k3pf_72_p0 {Ls : Nat} {xs : Nat → Int32} {d : Nat} {Q : Option Value → jm_h → Prop} (hd : 4 ≤ d) (F : Nat → sy_d) (X1 X2 : List jm_c) (hB : iv_in F iv_B0)
    (h0 : (sy_i F 82).toInt = 0)
    (k : ∀ F1 : Nat → sy_d, (∀ j, j < 82 → True → F1 j = F j) → Q (some (.int ((0 : Int32)))) (sy_dh F1 X1 X2 (iv_H 3))) :
    hd_W Ls xs d jm_M33 Q (72, sy_dL F [some (.inl (.ref 30)), none], sy_dS F [.inr (.inl 82)], sy_dh F X1 X2 (iv_H 3), 0, 0) := by
  refine hd_ret (s := 3) (nv := 83) (v := some (.inl (.int 0))) (uh := hd_ov (iv_id 0 iv_B0) []) (f := false) (sp := []) (d0 := 3) (O := [true]) (T := []) (P := [(0, .inr (.inl 82), .inl (.int 0))]) jm_ok33 (by decide +kernel) (by decide +kernel) hd F X1 X2 (fun F' hF hs => ?_)
  have b82 := hd_b (F := F) (F' := F') (k := 82) (hF 82 (by decide))
  have hB' : iv_in F' iv_B0 := iv_in_eq hB (fun j hj => hF j (Nat.lt_of_lt_of_le hj (by decide +kernel)))
  refine ⟨List.forall_mem_cons.mpr ⟨hd_p0 b82 rfl (by have hc : ((0) : Int32).toInt = 0 := (by decide); omega), fun _ h => absurd h List.not_mem_nil⟩, ?_⟩
  refine k _ ?_
  · exact fun j hj _ => (hd_keep hB' (Nat.lt_of_lt_of_le hj (by decide +kernel)) (by simp)).trans (hF j (by omega))
theorem k3pf_72_p1 {Ls : Nat} {xs : Nat → Int32} {d : Nat} {Q : Option Value → jm_h → Prop} (hd : 4 ≤ d) (F : Nat → sy_d) (X1 X2 : List jm_c) (hB : iv_in F iv_B0)
    (h0 : (sy_i F 82).toInt ≠ 0)
    (h1 : 7 ≤ (sy_i F 3).toInt)
    (k : ∀ F1 : Nat → sy_d, (∀ j, j < 82 → True → F1 j = F j) → Q (some (.int ((1 : Int32)))) (sy_dh F1 X1 X2 (iv_H 3))) :
    hd_W Ls xs d jm_M33 Q (72, sy_dL F [some (.inl (.ref 30)), none], sy_dS F [.inr (.inl 82)], sy_dh F X1 X2 (iv_H 3), 0, 0) := by
  refine hd_ret (s := 3) (nv := 83) (v := some (.inl (.int 1))) (uh := hd_ov (iv_id 0 iv_B0) []) (f := false) (sp := []) (d0 := 3) (O := [false, true]) (T := []) (P := [(1, .inr (.inl 82), .inl (.int 0)), (4, .inl (.int 7), .inr (.inl 3))]) jm_ok33 (by decide +kernel) (by decide +kernel) hd F X1 X2 (fun F' hF hs => ?_)
  have b82 := hd_b (F := F) (F' := F') (k := 82) (hF 82 (by decide))
  have b3 := hd_b (F := F) (F' := F') (k := 3) (hF 3 (by decide))
  have hB' : iv_in F' iv_B0 := iv_in_eq hB (fun j hj => hF j (Nat.lt_of_lt_of_le hj (by decide +kernel)))
  refine ⟨List.forall_mem_cons.mpr ⟨hd_p1 b82 rfl (by have hc : ((0) : Int32).toInt = 0 := (by decide); omega), List.forall_mem_cons.mpr ⟨hd_p4 rfl b3 (by have hc : ((7) : Int32).toInt = 7 := (by decide); omega), fun _ h => absurd h List.not_mem_nil⟩⟩, ?_⟩
  refine k _ ?_
  · exact fun j hj _ => (hd_keep hB' (Nat.lt_of_lt_of_le hj (by decide +kernel)) (by simp)).trans (hF j (by omega))
theorem k3pf_72_p2 {Ls : Nat} {xs : Nat → Int32} {d : Nat} {Q : Option Value → jm_h → Prop} (hd : 4 ≤ d) (F : Nat → sy_d) (X1 X2 : List jm_c) (hB : iv_in F iv_B0)
    (h0 : (sy_i F 82).toInt ≠ 0)
    (h1 : (sy_i F 3).toInt < 7)
    (h2 : 0 ≤ (sy_i F 3).toInt ∧ (sy_i F 3).toInt < 7)
    (h3 : 0 ≤ (sy_i F 3).toInt ∧ (sy_i F 3).toInt < 7)
    (h4 : 0 ≤ (sy_i F 3).toInt ∧ (sy_i F 3).toInt < 7)
    (k : ∀ F1 : Nat → sy_d, (∀ j, j < 82 → j ≠ 3 ∧ j ≠ 9 ∧ j ≠ 10 ∧ j ≠ 11 → F1 j = F j) → F1 3 = .inl (.int ((sy_i F 3) + ((1 : Int32)))) → F1 9 = .inr (.inl (jm_upd (sy_ai F 9) (sy_i F 3).toNatClampNeg ((sy_ai F 44).getD ((0 : Int32)).toNatClampNeg 0))) → F1 10 = .inr (.inl (jm_upd (sy_ai F 10) (sy_i F 3).toNatClampNeg ((sy_ai F 44).getD ((1 : Int32)).toNatClampNeg 0))) → F1 11 = .inr (.inl (jm_upd (sy_ai F 11) (sy_i F 3).toNatClampNeg ((sy_ai F 44).getD ((2 : Int32)).toNatClampNeg 0))) → Q (some (.int ((1 : Int32)))) (sy_dh F1 X1 X2 (iv_H 3))) :
    hd_W Ls xs d jm_M33 Q (72, sy_dL F [some (.inl (.ref 30)), none], sy_dS F [.inr (.inl 82)], sy_dh F X1 X2 (iv_H 3), 0, 0) := by
  refine hd_ret (s := 3) (nv := 83) (v := some (.inl (.int 1))) (uh := hd_ov (iv_id 0 iv_B0) [(3, .inl (.inr (.inl 89))), (9, .inr (.inr (.inl 84))), (10, .inr (.inr (.inl 86))), (11, .inr (.inr (.inl 88)))]) (f := false) (sp := []) (d0 := 3) (O := [false, false]) (T := [(30, [.inl (.int 0)], [.inr (.inl 44)]), (40, [.inr (.inl 3), .inr (.inl 83)], [.inr (.inl 9)]), (30, [.inl (.int 1)], [.inr (.inl 44)]), (40, [.inr (.inl 3), .inr (.inl 85)], [.inr (.inl 10)]), (30, [.inl (.int 2)], [.inr (.inl 44)]), (40, [.inr (.inl 3), .inr (.inl 87)], [.inr (.inl 11)]), (0, [.inr (.inl 3), .inl (.int 1)], [])]) (P := [(1, .inr (.inl 82), .inl (.int 0)), (5, .inl (.int 7), .inr (.inl 3)), (6, .inr (.inl 3), .inl (.ref 7)), (6, .inr (.inl 3), .inl (.ref 7)), (6, .inr (.inl 3), .inl (.ref 7))]) jm_ok33 (by decide +kernel) (by decide +kernel) hd F X1 X2 (fun F' hF hs => ?_)
  have b82 := hd_b (F := F) (F' := F') (k := 82) (hF 82 (by decide))
  have b3 := hd_b (F := F) (F' := F') (k := 3) (hF 3 (by decide))
  have t89 : sy_dv F' (.inr (.inl 89)) = .int ((sy_i F 3) + ((1 : Int32))) := hd_o (hs 6 _ rfl) b3 rfl rfl
  have a44 := hd_ba (F := F) (F' := F') (k := 44) (hF 44 (by decide))
  have t83 : sy_dv F' (.inr (.inl 83)) = .int ((sy_ai F 44).getD ((0 : Int32)).toNatClampNeg 0) := hd_rd (hs 0 _ rfl) rfl a44
  have a9 := hd_ba (F := F) (F' := F') (k := 9) (hF 9 (by decide))
  have t84 : sy_da F' (.inr (.inl 84)) = .inl (jm_upd (sy_ai F 9) (sy_i F 3).toNatClampNeg ((sy_ai F 44).getD ((0 : Int32)).toNatClampNeg 0)) := hd_up (hs 1 _ rfl) b3 t83 a9
  have t85 : sy_dv F' (.inr (.inl 85)) = .int ((sy_ai F 44).getD ((1 : Int32)).toNatClampNeg 0) := hd_rd (hs 2 _ rfl) rfl a44
  have a10 := hd_ba (F := F) (F' := F') (k := 10) (hF 10 (by decide))
  have t86 : sy_da F' (.inr (.inl 86)) = .inl (jm_upd (sy_ai F 10) (sy_i F 3).toNatClampNeg ((sy_ai F 44).getD ((1 : Int32)).toNatClampNeg 0)) := hd_up (hs 3 _ rfl) b3 t85 a10
  have t87 : sy_dv F' (.inr (.inl 87)) = .int ((sy_ai F 44).getD ((2 : Int32)).toNatClampNeg 0) := hd_rd (hs 4 _ rfl) rfl a44
  have a11 := hd_ba (F := F) (F' := F') (k := 11) (hF 11 (by decide))
  have t88 : sy_da F' (.inr (.inl 88)) = .inl (jm_upd (sy_ai F 11) (sy_i F 3).toNatClampNeg ((sy_ai F 44).getD ((2 : Int32)).toNatClampNeg 0)) := hd_up (hs 5 _ rfl) b3 t87 a11
  have hB' : iv_in F' iv_B0 := iv_in_eq hB (fun j hj => hF j (Nat.lt_of_lt_of_le hj (by decide +kernel)))
  refine ⟨List.forall_mem_cons.mpr ⟨hd_p1 b82 rfl (by have hc : ((0) : Int32).toInt = 0 := (by decide); omega), List.forall_mem_cons.mpr ⟨hd_p5 rfl b3 (by have hc : ((7) : Int32).toInt = 7 := (by decide); omega), List.forall_mem_cons.mpr ⟨hd_pb b3 (by first | exact h2 | exact h2), List.forall_mem_cons.mpr ⟨hd_pb b3 (by first | exact h3 | exact h3), List.forall_mem_cons.mpr ⟨hd_pb b3 (by first | exact h4 | exact h4), fun _ h => absurd h List.not_mem_nil⟩⟩⟩⟩⟩, ?_⟩
  refine k _ ?_ ?_ ?_ ?_ ?_
  · exact fun j hj hn => (hd_keep hB' (Nat.lt_of_lt_of_le hj (by decide +kernel)) (by simp; omega)).trans (hF j (by omega))
  · exact hd_gi (x := .inr (.inl 89)) (by decide +kernel) t89
  · exact hd_ga (a := .inr (.inl 84)) (by decide +kernel) t84
  · exact hd_ga (a := .inr (.inl 86)) (by decide +kernel) t86
  · exact hd_ga (a := .inr (.inl 88)) (by decide +kernel) t88
theorem k3pb_0_p0 {Ls : Nat} {xs : Nat → Int32} {d : Nat} {Q : Option Value → jm_h → Prop} (hd : 4 ≤ d) (F : Nat → sy_d) (X1 X2 : List jm_c) (hB : iv_in F iv_B0)
    (h0 : (sy_i F 4).toInt < 4)
    (k : ∀ F1 : Nat → sy_d, (∀ j, j < 82 → True → F1 j = F j) → hd_W Ls xs d jm_M34 Q (19, sy_dL F1 [some (.inl (.ref 30)), none], sy_dS F1 [.inl (.int 1), .inl (.ref 30)], sy_dh F1 X1 X2 (iv_H 3), 0, 0)) :
    hd_W Ls xs d jm_M34 Q (0, sy_dL F [some (.inl (.ref 30)), none], sy_dS F [], sy_dh F X1 X2 (iv_H 3), 0, 0) := by
  refine hd_run (s := 3) (nv := 82) (pc := 19) (L := [some (.inl (.ref 30)), none]) (S := [.inl (.int 1), .inl (.ref 30)]) (uh := hd_ov (iv_id 0 iv_B0) []) (ul := []) (f := true) (sp := [19]) (d0 := 3) (O := [true]) (T := []) (P := [(2, .inr (.inl 4), .inl (.int 4))]) jm_ok34 (by decide +kernel) (by decide +kernel) hd F X1 X2 (fun F' hF hs => ?_)
  have b4 := hd_b (F := F) (F' := F') (k := 4) (hF 4 (by decide))
  have hB' : iv_in F' iv_B0 := iv_in_eq hB (fun j hj => hF j (Nat.lt_of_lt_of_le hj (by decide +kernel)))
  refine ⟨List.forall_mem_cons.mpr ⟨hd_p2 b4 rfl (by have hc : ((4) : Int32).toInt = 4 := (by decide); omega), fun _ h => absurd h List.not_mem_nil⟩, ?_⟩
  refine k _ ?_
  · exact fun j hj _ => (hd_keep hB' (Nat.lt_of_lt_of_le hj (by decide +kernel)) (by simp)).trans (hF j (by omega))
theorem k3pb_0_p1 {Ls : Nat} {xs : Nat → Int32} {d : Nat} {Q : Option Value → jm_h → Prop} (hd : 4 ≤ d) (F : Nat → sy_d) (X1 X2 : List jm_c) (hB : iv_in F iv_B0)
    (h0 : 4 ≤ (sy_i F 4).toInt)
    (k : ∀ F1 : Nat → sy_d, (∀ j, j < 82 → j ≠ 34 → F1 j = F j) → F1 34 = .inl (.int ((2 : Int32))) → Q (some (.int ((0 : Int32)))) (sy_dh F1 X1 X2 (iv_H 3))) :
    hd_W Ls xs d jm_M34 Q (0, sy_dL F [some (.inl (.ref 30)), none], sy_dS F [], sy_dh F X1 X2 (iv_H 3), 0, 0) := by
  refine hd_ret (s := 3) (nv := 82) (v := some (.inl (.int 0))) (uh := hd_ov (iv_id 0 iv_B0) [(34, .inl (.inl (.int 2)))]) (f := true) (sp := [19]) (d0 := 3) (O := [false]) (T := []) (P := [(3, .inr (.inl 4), .inl (.int 4))]) jm_ok34 (by decide +kernel) (by decide +kernel) hd F X1 X2 (fun F' hF hs => ?_)
  have b4 := hd_b (F := F) (F' := F') (k := 4) (hF 4 (by decide))
  have hB' : iv_in F' iv_B0 := iv_in_eq hB (fun j hj => hF j (Nat.lt_of_lt_of_le hj (by decide +kernel)))
  refine ⟨List.forall_mem_cons.mpr ⟨hd_p3 b4 rfl (by have hc : ((4) : Int32).toInt = 4 := (by decide); omega), fun _ h => absurd h List.not_mem_nil⟩, ?_⟩
  refine k _ ?_ ?_
  · exact fun j hj hn => (hd_keep hB' (Nat.lt_of_lt_of_le hj (by decide +kernel)) (by simp; omega)).trans (hF j (by omega))
  · exact hd_gi (x := .inl (.int 2)) (by decide +kernel) rfl
theorem k3pb_0 {Ls : Nat} {xs : Nat → Int32} {d : Nat} {Q : Option Value → jm_h → Prop} (hd : 4 ≤ d) (F : Nat → sy_d) (X1 X2 : List jm_c) (hB : iv_in F iv_B0)
    (k0 : (sy_i F 4).toInt < 4 → ∀ F1 : Nat → sy_d, iv_in F1 iv_B0 → (∀ j, j < 82 → j ∉ ([] : List Nat) → F1 j = F j) → (sy_i F1 33).toInt = (sy_i F 33).toInt → (sy_i F1 34).toInt = (sy_i F 34).toInt → (sy_i F1 36).toInt = (sy_i F 36).toInt → (sy_i F1 37).toInt = (sy_i F 37).toInt → (sy_i F1 38).toInt = (sy_i F 38).toInt → (sy_i F1 3).toInt = (sy_i F 3).toInt → (sy_i F1 4).toInt = (sy_i F 4).toInt → sy_ai F1 39 = sy_ai F 39 → hd_W Ls xs d jm_M34 Q (19, sy_dL F1 [some (.inl (.ref 30)), none], sy_dS F1 [.inl (.int 1), .inl (.ref 30)], sy_dh F1 X1 X2 (iv_H 3), 0, 0))
    (k1 : 4 ≤ (sy_i F 4).toInt → ∀ F1 : Nat → sy_d, iv_in F1 iv_B0 → (∀ j, j < 82 → j ∉ ([34] : List Nat) → F1 j = F j) → (sy_i F1 33).toInt = (sy_i F 33).toInt → (sy_i F1 34).toInt = 2 → (sy_i F1 36).toInt = (sy_i F 36).toInt → (sy_i F1 37).toInt = (sy_i F 37).toInt → (sy_i F1 38).toInt = (sy_i F 38).toInt → (sy_i F1 3).toInt = (sy_i F 3).toInt → (sy_i F1 4).toInt = (sy_i F 4).toInt → sy_ai F1 39 = sy_ai F 39 → Q (some (.int ((0 : Int32)))) (sy_dh F1 X1 X2 (iv_H 3))) :
    hd_W Ls xs d jm_M34 Q (0, sy_dL F [some (.inl (.ref 30)), none], sy_dS F [], sy_dh F X1 X2 (iv_H 3), 0, 0) := by
  by_cases g0 : (sy_i F 4).toInt < 4
  · have c4 := nz_bx hB (k := 4) (lo := 0) (hi := 4) rfl
    exact k3pb_0_p0 hd F X1 X2 hB (by first | exact g0 | (simp only [nz_c]; exact g0)) (fun F1 g  => k0 g0 F1 (nz_in0 hB [] (fun j hj hn => g j hj (by simp only [List.mem_cons, List.not_mem_nil, or_false, not_or] at hn; exact trivial)) (List.forall_mem_nil _)) (fun j hj hn => g j hj (by simp only [List.mem_cons, List.not_mem_nil, or_false, not_or] at hn; exact trivial)) (nz_fi (g 33 (by decide) (by decide))) (nz_fi (g 34 (by decide) (by decide))) (nz_fi (g 36 (by decide) (by decide))) (nz_fi (g 37 (by decide) (by decide))) (nz_fi (g 38 (by decide) (by decide))) (nz_fi (g 3 (by decide) (by decide))) (nz_fi (g 4 (by decide) (by decide))) (nz_fa (g 39 (by decide) (by decide))))
  replace g0 : 4 ≤ (sy_i F 4).toInt := by omega
  have c4 := nz_bx hB (k := 4) (lo := 0) (hi := 4) rfl
  exact k3pb_0_p1 hd F X1 X2 hB (by first | exact g0 | (simp only [nz_c]; exact g0)) (fun F1 g e34 => k1 g0 F1 (nz_in0 hB [34] (fun j hj hn => g j hj (by simp only [List.mem_cons, List.not_mem_nil, or_false, not_or] at hn; omega)) (List.forall_mem_cons.mpr ⟨fun t ht => (Option.some.inj ht) ▸ (nz_hz e34), List.forall_mem_nil _⟩)) (fun j hj hn => g j hj (by simp only [List.mem_cons, List.not_mem_nil, or_false, not_or] at hn; omega)) (nz_fi (g 33 (by decide) (by decide))) ((congrArg Int32.toInt (zz_i e34)).trans (by decide : ((2 : Int32)).toInt = 2)) (nz_fi (g 36 (by decide) (by decide))) (nz_fi (g 37 (by decide) (by decide))) (nz_fi (g 38 (by decide) (by decide))) (nz_fi (g 3 (by decide) (by decide))) (nz_fi (g 4 (by decide) (by decide))) (nz_fa (g 39 (by decide) (by decide))))
theorem k3pb_22_p0 {Ls : Nat} {xs : Nat → Int32} {d : Nat} {Q : Option Value → jm_h → Prop} (hd : 4 ≤ d) (F : Nat → sy_d) (X1 X2 : List jm_c) (hB : iv_in F iv_B0)
    (h0 : (sy_i F 82).toInt = 0)
    (k : ∀ F1 : Nat → sy_d, (∀ j, j < 82 → True → F1 j = F j) → Q (some (.int ((0 : Int32)))) (sy_dh F1 X1 X2 (iv_H 3))) :
    hd_W Ls xs d jm_M34 Q (22, sy_dL F [some (.inl (.ref 30)), none], sy_dS F [.inr (.inl 82)], sy_dh F X1 X2 (iv_H 3), 0, 0) := by
  refine hd_ret (s := 3) (nv := 83) (v := some (.inl (.int 0))) (uh := hd_ov (iv_id 0 iv_B0) []) (f := false) (sp := [26]) (d0 := 3) (O := [true]) (T := []) (P := [(0, .inr (.inl 82), .inl (.int 0))]) jm_ok34 (by decide +kernel) (by decide +kernel) hd F X1 X2 (fun F' hF hs => ?_)
  have b82 := hd_b (F := F) (F' := F') (k := 82) (hF 82 (by decide))
  have hB' : iv_in F' iv_B0 := iv_in_eq hB (fun j hj => hF j (Nat.lt_of_lt_of_le hj (by decide +kernel)))
  refine ⟨List.forall_mem_cons.mpr ⟨hd_p0 b82 rfl (by have hc : ((0) : Int32).toInt = 0 := (by decide); omega), fun _ h => absurd h List.not_mem_nil⟩, ?_⟩
  refine k _ ?_
  · exact fun j hj _ => (hd_keep hB' (Nat.lt_of_lt_of_le hj (by decide +kernel)) (by simp)).trans (hF j (by omega))
theorem k3pb_22_p1 {Ls : Nat} {xs : Nat → Int32} {d : Nat} {Q : Option Value → jm_h → Prop} (hd : 4 ≤ d) (F : Nat → sy_d) (X1 X2 : List jm_c) (hB : iv_in F iv_B0)
    (h0 : (sy_i F 82).toInt ≠ 0)
    (k : ∀ F1 : Nat → sy_d, (∀ j, j < 82 → True → F1 j = F j) → hd_W Ls xs d jm_M34 Q (26, sy_dL F1 [some (.inl (.ref 30)), none], sy_dS F1 [.inl (.ref 30)], sy_dh F1 X1 X2 (iv_H 3), 0, 0)) :
    hd_W Ls xs d jm_M34 Q (22, sy_dL F [some (.inl (.ref 30)), none], sy_dS F [.inr (.inl 82)], sy_dh F X1 X2 (iv_H 3), 0, 0) := by
  refine hd_run (s := 3) (nv := 83) (pc := 26) (L := [some (.inl (.ref 30)), none]) (S := [.inl (.ref 30)]) (uh := hd_ov (iv_id 0 iv_B0) []) (ul := []) (f := false) (sp := [26]) (d0 := 3) (O := [false]) (T := []) (P := [(1, .inr (.inl 82), .inl (.int 0))]) jm_ok34 (by decide +kernel) (by decide +kernel) hd F X1 X2 (fun F' hF hs => ?_)
  have b82 := hd_b (F := F) (F' := F') (k := 82) (hF 82 (by decide))
  have hB' : iv_in F' iv_B0 := iv_in_eq hB (fun j hj => hF j (Nat.lt_of_lt_of_le hj (by decide +kernel)))
  refine ⟨List.forall_mem_cons.mpr ⟨hd_p1 b82 rfl (by have hc : ((0) : Int32).toInt = 0 := (by decide); omega), fun _ h => absurd h List.not_mem_nil⟩, ?_⟩
  refine k _ ?_
  · exact fun j hj _ => (hd_keep hB' (Nat.lt_of_lt_of_le hj (by decide +kernel)) (by simp)).trans (hF j (by omega))
theorem k3pb_22 {Ls : Nat} {xs : Nat → Int32} {d : Nat} {Q : Option Value → jm_h → Prop} (hd : 4 ≤ d) (F : Nat → sy_d) (X1 X2 : List jm_c) (hB : iv_in F iv_B0)
    (k0 : (sy_i F 82).toInt = 0 → ∀ F1 : Nat → sy_d, iv_in F1 iv_B0 → (∀ j, j < 82 → j ∉ ([] : List Nat) → F1 j = F j) → (sy_i F1 33).toInt = (sy_i F 33).toInt → (sy_i F1 34).toInt = (sy_i F 34).toInt → (sy_i F1 36).toInt = (sy_i F 36).toInt → (sy_i F1 37).toInt = (sy_i F 37).toInt → (sy_i F1 38).toInt = (sy_i F 38).toInt → (sy_i F1 3).toInt = (sy_i F 3).toInt → (sy_i F1 4).toInt = (sy_i F 4).toInt → sy_ai F1 39 = sy_ai F 39 → Q (some (.int ((0 : Int32)))) (sy_dh F1 X1 X2 (iv_H 3)))
    (k1 : (sy_i F 82).toInt ≠ 0 → ∀ F1 : Nat → sy_d, iv_in F1 iv_B0 → (∀ j, j < 82 → j ∉ ([] : List Nat) → F1 j = F j) → (sy_i F1 33).toInt = (sy_i F 33).toInt → (sy_i F1 34).toInt = (sy_i F 34).toInt → (sy_i F1 36).toInt = (sy_i F 36).toInt → (sy_i F1 37).toInt = (sy_i F 37).toInt → (sy_i F1 38).toInt = (sy_i F 38).toInt → (sy_i F1 3).toInt = (sy_i F 3).toInt → (sy_i F1 4).toInt = (sy_i F 4).toInt → sy_ai F1 39 = sy_ai F 39 → hd_W Ls xs d jm_M34 Q (26, sy_dL F1 [some (.inl (.ref 30)), none], sy_dS F1 [.inl (.ref 30)], sy_dh F1 X1 X2 (iv_H 3), 0, 0)) :
    hd_W Ls xs d jm_M34 Q (22, sy_dL F [some (.inl (.ref 30)), none], sy_dS F [.inr (.inl 82)], sy_dh F X1 X2 (iv_H 3), 0, 0) := by
  by_cases g0 : (sy_i F 82).toInt = 0
  · exact k3pb_22_p0 hd F X1 X2 hB (by first | exact g0 | (simp only [nz_c]; exact g0)) (fun F1 g  => k0 g0 F1 (nz_in0 hB [] (fun j hj hn => g j hj (by simp only [List.mem_cons, List.not_mem_nil, or_false, not_or] at hn; exact trivial)) (List.forall_mem_nil _)) (fun j hj hn => g j hj (by simp only [List.mem_cons, List.not_mem_nil, or_false, not_or] at hn; exact trivial)) (nz_fi (g 33 (by decide) (by decide))) (nz_fi (g 34 (by decide) (by decide))) (nz_fi (g 36 (by decide) (by decide))) (nz_fi (g 37 (by decide) (by decide))) (nz_fi (g 38 (by decide) (by decide))) (nz_fi (g 3 (by decide) (by decide))) (nz_fi (g 4 (by decide) (by decide))) (nz_fa (g 39 (by decide) (by decide))))
  replace g0 : (sy_i F 82).toInt ≠ 0 := by omega
  exact k3pb_22_p1 hd F X1 X2 hB (by first | exact g0 | (simp only [nz_c]; exact g0)) (fun F1 g  => k1 g0 F1 (nz_in0 hB [] (fun j hj hn => g j hj (by simp only [List.mem_cons, List.not_mem_nil, or_false, not_or] at hn; exact trivial)) (List.forall_mem_nil _)) (fun j hj hn => g j hj (by simp only [List.mem_cons, List.not_mem_nil, or_false, not_or] at hn; exact trivial)) (nz_fi (g 33 (by decide) (by decide))) (nz_fi (g 34 (by decide) (by decide))) (nz_fi (g 36 (by decide) (by decide))) (nz_fi (g 37 (by decide) (by decide))) (nz_fi (g 38 (by decide) (by decide))) (nz_fi (g 3 (by decide) (by decide))) (nz_fi (g 4 (by decide) (by decide))) (nz_fa (g 39 (by decide) (by decide))))
theorem k3pb_29_p0 {Ls : Nat} {xs : Nat → Int32} {d : Nat} {Q : Option Value → jm_h → Prop} (hd : 4 ≤ d) (F : Nat → sy_d) (X1 X2 : List jm_c) (hB : iv_in F iv_B0)
    (h0 : (sy_i F 82).toInt = 0)
    (k : ∀ F1 : Nat → sy_d, (∀ j, j < 82 → True → F1 j = F j) → Q (some (.int ((0 : Int32)))) (sy_dh F1 X1 X2 (iv_H 3))) :
    hd_W Ls xs d jm_M34 Q (29, sy_dL F [some (.inl (.ref 30)), none], sy_dS F [.inr (.inl 82)], sy_dh F X1 X2 (iv_H 3), 0, 0) := by
  refine hd_ret (s := 3) (nv := 83) (v := some (.inl (.int 0))) (uh := hd_ov (iv_id 0 iv_B0) []) (f := false) (sp := [37]) (d0 := 3) (O := [true]) (T := []) (P := [(0, .inr (.inl 82), .inl (.int 0))]) jm_ok34 (by decide +kernel) (by decide +kernel) hd F X1 X2 (fun F' hF hs => ?_)
  have b82 := hd_b (F := F) (F' := F') (k := 82) (hF 82 (by decide))
  have hB' : iv_in F' iv_B0 := iv_in_eq hB (fun j hj => hF j (Nat.lt_of_lt_of_le hj (by decide +kernel)))
  refine ⟨List.forall_mem_cons.mpr ⟨hd_p0 b82 rfl (by have hc : ((0) : Int32).toInt = 0 := (by decide); omega), fun _ h => absurd h List.not_mem_nil⟩, ?_⟩
  refine k _ ?_
  · exact fun j hj _ => (hd_keep hB' (Nat.lt_of_lt_of_le hj (by decide +kernel)) (by simp)).trans (hF j (by omega))
theorem k3pb_29_p1 {Ls : Nat} {xs : Nat → Int32} {d : Nat} {Q : Option Value → jm_h → Prop} (hd : 4 ≤ d) (F : Nat → sy_d) (X1 X2 : List jm_c) (hB : iv_in F iv_B0)
    (h0 : (sy_i F 82).toInt ≠ 0)
    (k : ∀ F1 : Nat → sy_d, (∀ j, j < 82 → True → F1 j = F j) → hd_W Ls xs d jm_M34 Q (37, sy_dL F1 [some (.inl (.ref 30)), none], sy_dS F1 [.inl (.int 9), .inl (.int 0), .inl (.int 0), .inl (.ref 30)], sy_dh F1 X1 X2 (iv_H 3), 0, 0)) :
    hd_W Ls xs d jm_M34 Q (29, sy_dL F [some (.inl (.ref 30)), none], sy_dS F [.inr (.inl 82)], sy_dh F X1 X2 (iv_H 3), 0, 0) := by
  refine hd_run (s := 3) (nv := 83) (pc := 37) (L := [some (.inl (.ref 30)), none]) (S := [.inl (.int 9), .inl (.int 0), .inl (.int 0), .inl (.ref 30)]) (uh := hd_ov (iv_id 0 iv_B0) []) (ul := []) (f := false) (sp := [37]) (d0 := 3) (O := [false]) (T := []) (P := [(1, .inr (.inl 82), .inl (.int 0))]) jm_ok34 (by decide +kernel) (by decide +kernel) hd F X1 X2 (fun F' hF hs => ?_)
  have b82 := hd_b (F := F) (F' := F') (k := 82) (hF 82 (by decide))
  have hB' : iv_in F' iv_B0 := iv_in_eq hB (fun j hj => hF j (Nat.lt_of_lt_of_le hj (by decide +kernel)))
  refine ⟨List.forall_mem_cons.mpr ⟨hd_p1 b82 rfl (by have hc : ((0) : Int32).toInt = 0 := (by decide); omega), fun _ h => absurd h List.not_mem_nil⟩, ?_⟩
  refine k _ ?_
  · exact fun j hj _ => (hd_keep hB' (Nat.lt_of_lt_of_le hj (by decide +kernel)) (by simp)).trans (hF j (by omega))
theorem k3pb_29 {Ls : Nat} {xs : Nat → Int32} {d : Nat} {Q : Option Value → jm_h → Prop} (hd : 4 ≤ d) (F : Nat → sy_d) (X1 X2 : List jm_c) (hB : iv_in F iv_B0)
    (k0 : (sy_i F 82).toInt = 0 → ∀ F1 : Nat → sy_d, iv_in F1 iv_B0 → (∀ j, j < 82 → j ∉ ([] : List Nat) → F1 j = F j) → (sy_i F1 33).toInt = (sy_i F 33).toInt → (sy_i F1 34).toInt = (sy_i F 34).toInt → (sy_i F1 36).toInt = (sy_i F 36).toInt → (sy_i F1 37).toInt = (sy_i F 37).toInt → (sy_i F1 38).toInt = (sy_i F 38).toInt → (sy_i F1 3).toInt = (sy_i F 3).toInt → (sy_i F1 4).toInt = (sy_i F 4).toInt → sy_ai F1 39 = sy_ai F 39 → Q (some (.int ((0 : Int32)))) (sy_dh F1 X1 X2 (iv_H 3)))
    (k1 : (sy_i F 82).toInt ≠ 0 → ∀ F1 : Nat → sy_d, iv_in F1 iv_B0 → (∀ j, j < 82 → j ∉ ([] : List Nat) → F1 j = F j) → (sy_i F1 33).toInt = (sy_i F 33).toInt → (sy_i F1 34).toInt = (sy_i F 34).toInt → (sy_i F1 36).toInt = (sy_i F 36).toInt → (sy_i F1 37).toInt = (sy_i F 37).toInt → (sy_i F1 38).toInt = (sy_i F 38).toInt → (sy_i F1 3).toInt = (sy_i F 3).toInt → (sy_i F1 4).toInt = (sy_i F 4).toInt → sy_ai F1 39 = sy_ai F 39 → hd_W Ls xs d jm_M34 Q (37, sy_dL F1 [some (.inl (.ref 30)), none], sy_dS F1 [.inl (.int 9), .inl (.int 0), .inl (.int 0), .inl (.ref 30)], sy_dh F1 X1 X2 (iv_H 3), 0, 0)) :
    hd_W Ls xs d jm_M34 Q (29, sy_dL F [some (.inl (.ref 30)), none], sy_dS F [.inr (.inl 82)], sy_dh F X1 X2 (iv_H 3), 0, 0) := by
  by_cases g0 : (sy_i F 82).toInt = 0
  · exact k3pb_29_p0 hd F X1 X2 hB (by first | exact g0 | (simp only [nz_c]; exact g0)) (fun F1 g  => k0 g0 F1 (nz_in0 hB [] (fun j hj hn => g j hj (by simp only [List.mem_cons, List.not_mem_nil, or_false, not_or] at hn; exact trivial)) (List.forall_mem_nil _)) (fun j hj hn => g j hj (by simp only [List.mem_cons, List.not_mem_nil, or_false, not_or] at hn; exact trivial)) (nz_fi (g 33 (by decide) (by decide))) (nz_fi (g 34 (by decide) (by decide))) (nz_fi (g 36 (by decide) (by decide))) (nz_fi (g 37 (by decide) (by decide))) (nz_fi (g 38 (by decide) (by decide))) (nz_fi (g 3 (by decide) (by decide))) (nz_fi (g 4 (by decide) (by decide))) (nz_fa (g 39 (by decide) (by decide))))
  replace g0 : (sy_i F 82).toInt ≠ 0 := by omega
  exact k3pb_29_p1 hd F X1 X2 hB (by first | exact g0 | (simp only [nz_c]; exact g0)) (fun F1 g  => k1 g0 F1 (nz_in0 hB [] (fun j hj hn => g j hj (by simp only [List.mem_cons, List.not_mem_nil, or_false, not_or] at hn; exact trivial)) (List.forall_mem_nil _)) (fun j hj hn => g j hj (by simp only [List.mem_cons, List.not_mem_nil, or_false, not_or] at hn; exact trivial)) (nz_fi (g 33 (by decide) (by decide))) (nz_fi (g 34 (by decide) (by decide))) (nz_fi (g 36 (by decide) (by decide))) (nz_fi (g 37 (by decide) (by decide))) (nz_fi (g 38 (by decide) (by decide))) (nz_fi (g 3 (by decide) (by decide))) (nz_fi (g 4 (by decide) (by decide))) (nz_fa (g 39 (by decide) (by decide))))
theorem k3pb_40_p0 {Ls : Nat} {xs : Nat → Int32} {d : Nat} {Q : Option Value → jm_h → Prop} (hd : 4 ≤ d) (F : Nat → sy_d) (X1 X2 : List jm_c) (hB : iv_in F iv_B0)
    (h0 : (sy_i F 82).toInt = 0)
    (k : ∀ F1 : Nat → sy_d, (∀ j, j < 82 → True → F1 j = F j) → Q (some (.int ((0 : Int32)))) (sy_dh F1 X1 X2 (iv_H 3))) :
    hd_W Ls xs d jm_M34 Q (40, sy_dL F [some (.inl (.ref 30)), none], sy_dS F [.inr (.inl 82)], sy_dh F X1 X2 (iv_H 3), 0, 0) := by
  refine hd_ret (s := 3) (nv := 83) (v := some (.inl (.int 0))) (uh := hd_ov (iv_id 0 iv_B0) []) (f := false) (sp := [47]) (d0 := 3) (O := [true]) (T := []) (P := [(0, .inr (.inl 82), .inl (.int 0))]) jm_ok34 (by decide +kernel) (by decide +kernel) hd F X1 X2 (fun F' hF hs => ?_)
  have b82 := hd_b (F := F) (F' := F') (k := 82) (hF 82 (by decide))
  have hB' : iv_in F' iv_B0 := iv_in_eq hB (fun j hj => hF j (Nat.lt_of_lt_of_le hj (by decide +kernel)))
  refine ⟨List.forall_mem_cons.mpr ⟨hd_p0 b82 rfl (by have hc : ((0) : Int32).toInt = 0 := (by decide); omega), fun _ h => absurd h List.not_mem_nil⟩, ?_⟩
  refine k _ ?_
  · exact fun j hj _ => (hd_keep hB' (Nat.lt_of_lt_of_le hj (by decide +kernel)) (by simp)).trans (hF j (by omega))
theorem k3pb_40_p1 {Ls : Nat} {xs : Nat → Int32} {d : Nat} {Q : Option Value → jm_h → Prop} (hd : 4 ≤ d) (F : Nat → sy_d) (X1 X2 : List jm_c) (hB : iv_in F iv_B0)
    (h0 : (sy_i F 82).toInt ≠ 0)
    (k : ∀ F1 : Nat → sy_d, (∀ j, j < 82 → True → F1 j = F j) → hd_W Ls xs d jm_M34 Q (47, sy_dL F1 [some (.inl (.ref 30)), none], sy_dS F1 [.inl (.int 3), .inl (.int 0), .inl (.int 1), .inl (.ref 30)], sy_dh F1 X1 X2 (iv_H 3), 0, 0)) :
    hd_W Ls xs d jm_M34 Q (40, sy_dL F [some (.inl (.ref 30)), none], sy_dS F [.inr (.inl 82)], sy_dh F X1 X2 (iv_H 3), 0, 0) := by
  refine hd_run (s := 3) (nv := 83) (pc := 47) (L := [some (.inl (.ref 30)), none]) (S := [.inl (.int 3), .inl (.int 0), .inl (.int 1), .inl (.ref 30)]) (uh := hd_ov (iv_id 0 iv_B0) []) (ul := []) (f := false) (sp := [47]) (d0 := 3) (O := [false]) (T := []) (P := [(1, .inr (.inl 82), .inl (.int 0))]) jm_ok34 (by decide +kernel) (by decide +kernel) hd F X1 X2 (fun F' hF hs => ?_)
  have b82 := hd_b (F := F) (F' := F') (k := 82) (hF 82 (by decide))
  have hB' : iv_in F' iv_B0 := iv_in_eq hB (fun j hj => hF j (Nat.lt_of_lt_of_le hj (by decide +kernel)))
  refine ⟨List.forall_mem_cons.mpr ⟨hd_p1 b82 rfl (by have hc : ((0) : Int32).toInt = 0 := (by decide); omega), fun _ h => absurd h List.not_mem_nil⟩, ?_⟩
  refine k _ ?_
  · exact fun j hj _ => (hd_keep hB' (Nat.lt_of_lt_of_le hj (by decide +kernel)) (by simp)).trans (hF j (by omega))
theorem k3pb_40 {Ls : Nat} {xs : Nat → Int32} {d : Nat} {Q : Option Value → jm_h → Prop} (hd : 4 ≤ d) (F : Nat → sy_d) (X1 X2 : List jm_c) (hB : iv_in F iv_B0)
    (k0 : (sy_i F 82).toInt = 0 → ∀ F1 : Nat → sy_d, iv_in F1 iv_B0 → (∀ j, j < 82 → j ∉ ([] : List Nat) → F1 j = F j) → (sy_i F1 33).toInt = (sy_i F 33).toInt → (sy_i F1 34).toInt = (sy_i F 34).toInt → (sy_i F1 36).toInt = (sy_i F 36).toInt → (sy_i F1 37).toInt = (sy_i F 37).toInt → (sy_i F1 38).toInt = (sy_i F 38).toInt → (sy_i F1 3).toInt = (sy_i F 3).toInt → (sy_i F1 4).toInt = (sy_i F 4).toInt → sy_ai F1 39 = sy_ai F 39 → Q (some (.int ((0 : Int32)))) (sy_dh F1 X1 X2 (iv_H 3)))
    (k1 : (sy_i F 82).toInt ≠ 0 → ∀ F1 : Nat → sy_d, iv_in F1 iv_B0 → (∀ j, j < 82 → j ∉ ([] : List Nat) → F1 j = F j) → (sy_i F1 33).toInt = (sy_i F 33).toInt → (sy_i F1 34).toInt = (sy_i F 34).toInt → (sy_i F1 36).toInt = (sy_i F 36).toInt → (sy_i F1 37).toInt = (sy_i F 37).toInt → (sy_i F1 38).toInt = (sy_i F 38).toInt → (sy_i F1 3).toInt = (sy_i F 3).toInt → (sy_i F1 4).toInt = (sy_i F 4).toInt → sy_ai F1 39 = sy_ai F 39 → hd_W Ls xs d jm_M34 Q (47, sy_dL F1 [some (.inl (.ref 30)), none], sy_dS F1 [.inl (.int 3), .inl (.int 0), .inl (.int 1), .inl (.ref 30)], sy_dh F1 X1 X2 (iv_H 3), 0, 0)) :
    hd_W Ls xs d jm_M34 Q (40, sy_dL F [some (.inl (.ref 30)), none], sy_dS F [.inr (.inl 82)], sy_dh F X1 X2 (iv_H 3), 0, 0) := by
  by_cases g0 : (sy_i F 82).toInt = 0
  · exact k3pb_40_p0 hd F X1 X2 hB (by first | exact g0 | (simp only [nz_c]; exact g0)) (fun F1 g  => k0 g0 F1 (nz_in0 hB [] (fun j hj hn => g j hj (by simp only [List.mem_cons, List.not_mem_nil, or_false, not_or] at hn; exact trivial)) (List.forall_mem_nil _)) (fun j hj hn => g j hj (by simp only [List.mem_cons, List.not_mem_nil, or_false, not_or] at hn; exact trivial)) (nz_fi (g 33 (by decide) (by decide))) (nz_fi (g 34 (by decide) (by decide))) (nz_fi (g 36 (by decide) (by decide))) (nz_fi (g 37 (by decide) (by decide))) (nz_fi (g 38 (by decide) (by decide))) (nz_fi (g 3 (by decide) (by decide))) (nz_fi (g 4 (by decide) (by decide))) (nz_fa (g 39 (by decide) (by decide))))
  replace g0 : (sy_i F 82).toInt ≠ 0 := by omega
  exact k3pb_40_p1 hd F X1 X2 hB (by first | exact g0 | (simp only [nz_c]; exact g0)) (fun F1 g  => k1 g0 F1 (nz_in0 hB [] (fun j hj hn => g j hj (by simp only [List.mem_cons, List.not_mem_nil, or_false, not_or] at hn; exact trivial)) (List.forall_mem_nil _)) (fun j hj hn => g j hj (by simp only [List.mem_cons, List.not_mem_nil, or_false, not_or] at hn; exact trivial)) (nz_fi (g 33 (by decide) (by decide))) (nz_fi (g 34 (by decide) (by decide))) (nz_fi (g 36 (by decide) (by decide))) (nz_fi (g 37 (by decide) (by decide))) (nz_fi (g 38 (by decide) (by decide))) (nz_fi (g 3 (by decide) (by decide))) (nz_fi (g 4 (by decide) (by decide))) (nz_fa (g 39 (by decide) (by decide))))
theorem k3pb_50_p0 {Ls : Nat} {xs : Nat → Int32} {d : Nat} {Q : Option Value → jm_h → Prop} (hd : 4 ≤ d) (F : Nat → sy_d) (X1 X2 : List jm_c) (hB : iv_in F iv_B0)
    (h0 : (sy_i F 82).toInt = 0)
    (k : ∀ F1 : Nat → sy_d, (∀ j, j < 82 → True → F1 j = F j) → Q (some (.int ((0 : Int32)))) (sy_dh F1 X1 X2 (iv_H 3))) :
    hd_W Ls xs d jm_M34 Q (50, sy_dL F [some (.inl (.ref 30)), none], sy_dS F [.inr (.inl 82)], sy_dh F X1 X2 (iv_H 3), 0, 0) := by
  refine hd_ret (s := 3) (nv := 83) (v := some (.inl (.int 0))) (uh := hd_ov (iv_id 0 iv_B0) []) (f := false) (sp := [59]) (d0 := 3) (O := [true]) (T := []) (P := [(0, .inr (.inl 82), .inl (.int 0))]) jm_ok34 (by decide +kernel) (by decide +kernel) hd F X1 X2 (fun F' hF hs => ?_)
  have b82 := hd_b (F := F) (F' := F') (k := 82) (hF 82 (by decide))
  have hB' : iv_in F' iv_B0 := iv_in_eq hB (fun j hj => hF j (Nat.lt_of_lt_of_le hj (by decide +kernel)))
  refine ⟨List.forall_mem_cons.mpr ⟨hd_p0 b82 rfl (by have hc : ((0) : Int32).toInt = 0 := (by decide); omega), fun _ h => absurd h List.not_mem_nil⟩, ?_⟩
  refine k _ ?_
  · exact fun j hj _ => (hd_keep hB' (Nat.lt_of_lt_of_le hj (by decide +kernel)) (by simp)).trans (hF j (by omega))
theorem k3pb_50_p1 {Ls : Nat} {xs : Nat → Int32} {d : Nat} {Q : Option Value → jm_h → Prop} (hd : 4 ≤ d) (F : Nat → sy_d) (X1 X2 : List jm_c) (hB : iv_in F iv_B0)
    (h0 : (sy_i F 82).toInt ≠ 0)
    (k : ∀ F1 : Nat → sy_d, (∀ j, j < 82 → True → F1 j = F j) → hd_W Ls xs d jm_M34 Q (59, sy_dL F1 [some (.inl (.ref 30)), none], sy_dS F1 [.inl (.int 999), .inl (.int 0), .inl (.int 2), .inl (.ref 30)], sy_dh F1 X1 X2 (iv_H 3), 0, 0)) :
    hd_W Ls xs d jm_M34 Q (50, sy_dL F [some (.inl (.ref 30)), none], sy_dS F [.inr (.inl 82)], sy_dh F X1 X2 (iv_H 3), 0, 0) := by
  refine hd_run (s := 3) (nv := 83) (pc := 59) (L := [some (.inl (.ref 30)), none]) (S := [.inl (.int 999), .inl (.int 0), .inl (.int 2), .inl (.ref 30)]) (uh := hd_ov (iv_id 0 iv_B0) []) (ul := []) (f := false) (sp := [59]) (d0 := 3) (O := [false]) (T := []) (P := [(1, .inr (.inl 82), .inl (.int 0))]) jm_ok34 (by decide +kernel) (by decide +kernel) hd F X1 X2 (fun F' hF hs => ?_)
  have b82 := hd_b (F := F) (F' := F') (k := 82) (hF 82 (by decide))
  have hB' : iv_in F' iv_B0 := iv_in_eq hB (fun j hj => hF j (Nat.lt_of_lt_of_le hj (by decide +kernel)))
  refine ⟨List.forall_mem_cons.mpr ⟨hd_p1 b82 rfl (by have hc : ((0) : Int32).toInt = 0 := (by decide); omega), fun _ h => absurd h List.not_mem_nil⟩, ?_⟩
  refine k _ ?_
  · exact fun j hj _ => (hd_keep hB' (Nat.lt_of_lt_of_le hj (by decide +kernel)) (by simp)).trans (hF j (by omega))
theorem k3pb_50 {Ls : Nat} {xs : Nat → Int32} {d : Nat} {Q : Option Value → jm_h → Prop} (hd : 4 ≤ d) (F : Nat → sy_d) (X1 X2 : List jm_c) (hB : iv_in F iv_B0)
    (k0 : (sy_i F 82).toInt = 0 → ∀ F1 : Nat → sy_d, iv_in F1 iv_B0 → (∀ j, j < 82 → j ∉ ([] : List Nat) → F1 j = F j) → (sy_i F1 33).toInt = (sy_i F 33).toInt → (sy_i F1 34).toInt = (sy_i F 34).toInt → (sy_i F1 36).toInt = (sy_i F 36).toInt → (sy_i F1 37).toInt = (sy_i F 37).toInt → (sy_i F1 38).toInt = (sy_i F 38).toInt → (sy_i F1 3).toInt = (sy_i F 3).toInt → (sy_i F1 4).toInt = (sy_i F 4).toInt → sy_ai F1 39 = sy_ai F 39 → Q (some (.int ((0 : Int32)))) (sy_dh F1 X1 X2 (iv_H 3)))
    (k1 : (sy_i F 82).toInt ≠ 0 → ∀ F1 : Nat → sy_d, iv_in F1 iv_B0 → (∀ j, j < 82 → j ∉ ([] : List Nat) → F1 j = F j) → (sy_i F1 33).toInt = (sy_i F 33).toInt → (sy_i F1 34).toInt = (sy_i F 34).toInt → (sy_i F1 36).toInt = (sy_i F 36).toInt → (sy_i F1 37).toInt = (sy_i F 37).toInt → (sy_i F1 38).toInt = (sy_i F 38).toInt → (sy_i F1 3).toInt = (sy_i F 3).toInt → (sy_i F1 4).toInt = (sy_i F 4).toInt → sy_ai F1 39 = sy_ai F 39 → hd_W Ls xs d jm_M34 Q (59, sy_dL F1 [some (.inl (.ref 30)), none], sy_dS F1 [.inl (.int 999), .inl (.int 0), .inl (.int 2), .inl (.ref 30)], sy_dh F1 X1 X2 (iv_H 3), 0, 0)) :
    hd_W Ls xs d jm_M34 Q (50, sy_dL F [some (.inl (.ref 30)), none], sy_dS F [.inr (.inl 82)], sy_dh F X1 X2 (iv_H 3), 0, 0) := by
  by_cases g0 : (sy_i F 82).toInt = 0
  · exact k3pb_50_p0 hd F X1 X2 hB (by first | exact g0 | (simp only [nz_c]; exact g0)) (fun F1 g  => k0 g0 F1 (nz_in0 hB [] (fun j hj hn => g j hj (by simp only [List.mem_cons, List.not_mem_nil, or_false, not_or] at hn; exact trivial)) (List.forall_mem_nil _)) (fun j hj hn => g j hj (by simp only [List.mem_cons, List.not_mem_nil, or_false, not_or] at hn; exact trivial)) (nz_fi (g 33 (by decide) (by decide))) (nz_fi (g 34 (by decide) (by decide))) (nz_fi (g 36 (by decide) (by decide))) (nz_fi (g 37 (by decide) (by decide))) (nz_fi (g 38 (by decide) (by decide))) (nz_fi (g 3 (by decide) (by decide))) (nz_fi (g 4 (by decide) (by decide))) (nz_fa (g 39 (by decide) (by decide))))
  replace g0 : (sy_i F 82).toInt ≠ 0 := by omega
  exact k3pb_50_p1 hd F X1 X2 hB (by first | exact g0 | (simp only [nz_c]; exact g0)) (fun F1 g  => k1 g0 F1 (nz_in0 hB [] (fun j hj hn => g j hj (by simp only [List.mem_cons, List.not_mem_nil, or_false, not_or] at hn; exact trivial)) (List.forall_mem_nil _)) (fun j hj hn => g j hj (by simp only [List.mem_cons, List.not_mem_nil, or_false, not_or] at hn; exact trivial)) (nz_fi (g 33 (by decide) (by decide))) (nz_fi (g 34 (by decide) (by decide))) (nz_fi (g 36 (by decide) (by decide))) (nz_fi (g 37 (by decide) (by decide))) (nz_fi (g 38 (by decide) (by decide))) (nz_fi (g 3 (by decide) (by decide))) (nz_fi (g 4 (by decide) (by decide))) (nz_fa (g 39 (by decide) (by decide))))
theorem k3pb_62_p0 {Ls : Nat} {xs : Nat → Int32} {d : Nat} {Q : Option Value → jm_h → Prop} (hd : 4 ≤ d) (F : Nat → sy_d) (X1 X2 : List jm_c) (hB : iv_in F iv_B0)
    (h0 : (sy_i F 82).toInt = 0)
    (k : ∀ F1 : Nat → sy_d, (∀ j, j < 82 → True → F1 j = F j) → Q (some (.int ((0 : Int32)))) (sy_dh F1 X1 X2 (iv_H 3))) :
    hd_W Ls xs d jm_M34 Q (62, sy_dL F [some (.inl (.ref 30)), none], sy_dS F [.inr (.inl 82)], sy_dh F X1 X2 (iv_H 3), 0, 0) := by
  refine hd_ret (s := 3) (nv := 83) (v := some (.inl (.int 0))) (uh := hd_ov (iv_id 0 iv_B0) []) (f := false) (sp := [68]) (d0 := 3) (O := [true]) (T := []) (P := [(0, .inr (.inl 82), .inl (.int 0))]) jm_ok34 (by decide +kernel) (by decide +kernel) hd F X1 X2 (fun F' hF hs => ?_)
  have b82 := hd_b (F := F) (F' := F') (k := 82) (hF 82 (by decide))
  have hB' : iv_in F' iv_B0 := iv_in_eq hB (fun j hj => hF j (Nat.lt_of_lt_of_le hj (by decide +kernel)))
  refine ⟨List.forall_mem_cons.mpr ⟨hd_p0 b82 rfl (by have hc : ((0) : Int32).toInt = 0 := (by decide); omega), fun _ h => absurd h List.not_mem_nil⟩, ?_⟩
  refine k _ ?_
  · exact fun j hj _ => (hd_keep hB' (Nat.lt_of_lt_of_le hj (by decide +kernel)) (by simp)).trans (hF j (by omega))
theorem k3pb_62_p1 {Ls : Nat} {xs : Nat → Int32} {d : Nat} {Q : Option Value → jm_h → Prop} (hd : 4 ≤ d) (F : Nat → sy_d) (X1 X2 : List jm_c) (hB : iv_in F iv_B0)
    (h0 : (sy_i F 82).toInt ≠ 0)
    (k : ∀ F1 : Nat → sy_d, (∀ j, j < 82 → True → F1 j = F j) → hd_W Ls xs d jm_M34 Q (68, sy_dL F1 [some (.inl (.ref 30)), none], sy_dS F1 [.inl (.int 59), .inl (.ref 30)], sy_dh F1 X1 X2 (iv_H 3), 0, 0)) :
    hd_W Ls xs d jm_M34 Q (62, sy_dL F [some (.inl (.ref 30)), none], sy_dS F [.inr (.inl 82)], sy_dh F X1 X2 (iv_H 3), 0, 0) := by
  refine hd_run (s := 3) (nv := 83) (pc := 68) (L := [some (.inl (.ref 30)), none]) (S := [.inl (.int 59), .inl (.ref 30)]) (uh := hd_ov (iv_id 0 iv_B0) []) (ul := []) (f := false) (sp := [68]) (d0 := 3) (O := [false]) (T := []) (P := [(1, .inr (.inl 82), .inl (.int 0))]) jm_ok34 (by decide +kernel) (by decide +kernel) hd F X1 X2 (fun F' hF hs => ?_)
  have b82 := hd_b (F := F) (F' := F') (k := 82) (hF 82 (by decide))
  have hB' : iv_in F' iv_B0 := iv_in_eq hB (fun j hj => hF j (Nat.lt_of_lt_of_le hj (by decide +kernel)))
  refine ⟨List.forall_mem_cons.mpr ⟨hd_p1 b82 rfl (by have hc : ((0) : Int32).toInt = 0 := (by decide); omega), fun _ h => absurd h List.not_mem_nil⟩, ?_⟩
  refine k _ ?_
  · exact fun j hj _ => (hd_keep hB' (Nat.lt_of_lt_of_le hj (by decide +kernel)) (by simp)).trans (hF j (by omega))
theorem k3pb_62 {Ls : Nat} {xs : Nat → Int32} {d : Nat} {Q : Option Value → jm_h → Prop} (hd : 4 ≤ d) (F : Nat → sy_d) (X1 X2 : List jm_c) (hB : iv_in F iv_B0)
    (k0 : (sy_i F 82).toInt = 0 → ∀ F1 : Nat → sy_d, iv_in F1 iv_B0 → (∀ j, j < 82 → j ∉ ([] : List Nat) → F1 j = F j) → (sy_i F1 33).toInt = (sy_i F 33).toInt → (sy_i F1 34).toInt = (sy_i F 34).toInt → (sy_i F1 36).toInt = (sy_i F 36).toInt → (sy_i F1 37).toInt = (sy_i F 37).toInt → (sy_i F1 38).toInt = (sy_i F 38).toInt → (sy_i F1 3).toInt = (sy_i F 3).toInt → (sy_i F1 4).toInt = (sy_i F 4).toInt → sy_ai F1 39 = sy_ai F 39 → Q (some (.int ((0 : Int32)))) (sy_dh F1 X1 X2 (iv_H 3)))
    (k1 : (sy_i F 82).toInt ≠ 0 → ∀ F1 : Nat → sy_d, iv_in F1 iv_B0 → (∀ j, j < 82 → j ∉ ([] : List Nat) → F1 j = F j) → (sy_i F1 33).toInt = (sy_i F 33).toInt → (sy_i F1 34).toInt = (sy_i F 34).toInt → (sy_i F1 36).toInt = (sy_i F 36).toInt → (sy_i F1 37).toInt = (sy_i F 37).toInt → (sy_i F1 38).toInt = (sy_i F 38).toInt → (sy_i F1 3).toInt = (sy_i F 3).toInt → (sy_i F1 4).toInt = (sy_i F 4).toInt → sy_ai F1 39 = sy_ai F 39 → hd_W Ls xs d jm_M34 Q (68, sy_dL F1 [some (.inl (.ref 30)), none], sy_dS F1 [.inl (.int 59), .inl (.ref 30)], sy_dh F1 X1 X2 (iv_H 3), 0, 0)) :
    hd_W Ls xs d jm_M34 Q (62, sy_dL F [some (.inl (.ref 30)), none], sy_dS F [.inr (.inl 82)], sy_dh F X1 X2 (iv_H 3), 0, 0) := by
  by_cases g0 : (sy_i F 82).toInt = 0
  · exact k3pb_62_p0 hd F X1 X2 hB (by first | exact g0 | (simp only [nz_c]; exact g0)) (fun F1 g  => k0 g0 F1 (nz_in0 hB [] (fun j hj hn => g j hj (by simp only [List.mem_cons, List.not_mem_nil, or_false, not_or] at hn; exact trivial)) (List.forall_mem_nil _)) (fun j hj hn => g j hj (by simp only [List.mem_cons, List.not_mem_nil, or_false, not_or] at hn; exact trivial)) (nz_fi (g 33 (by decide) (by decide))) (nz_fi (g 34 (by decide) (by decide))) (nz_fi (g 36 (by decide) (by decide))) (nz_fi (g 37 (by decide) (by decide))) (nz_fi (g 38 (by decide) (by decide))) (nz_fi (g 3 (by decide) (by decide))) (nz_fi (g 4 (by decide) (by decide))) (nz_fa (g 39 (by decide) (by decide))))
  replace g0 : (sy_i F 82).toInt ≠ 0 := by omega
  exact k3pb_62_p1 hd F X1 X2 hB (by first | exact g0 | (simp only [nz_c]; exact g0)) (fun F1 g  => k1 g0 F1 (nz_in0 hB [] (fun j hj hn => g j hj (by simp only [List.mem_cons, List.not_mem_nil, or_false, not_or] at hn; exact trivial)) (List.forall_mem_nil _)) (fun j hj hn => g j hj (by simp only [List.mem_cons, List.not_mem_nil, or_false, not_or] at hn; exact trivial)) (nz_fi (g 33 (by decide) (by decide))) (nz_fi (g 34 (by decide) (by decide))) (nz_fi (g 36 (by decide) (by decide))) (nz_fi (g 37 (by decide) (by decide))) (nz_fi (g 38 (by decide) (by decide))) (nz_fi (g 3 (by decide) (by decide))) (nz_fi (g 4 (by decide) (by decide))) (nz_fa (g 39 (by decide) (by decide))))
theorem k3pb_71_p0 {Ls : Nat} {xs : Nat → Int32} {d : Nat} {Q : Option Value → jm_h → Prop} (hd : 4 ≤ d) (F : Nat → sy_d) (X1 X2 : List jm_c) (hB : iv_in F iv_B0)
    (h0 : (sy_i F 82).toInt = 0)
    (k : ∀ F1 : Nat → sy_d, (∀ j, j < 82 → True → F1 j = F j) → Q (some (.int ((0 : Int32)))) (sy_dh F1 X1 X2 (iv_H 3))) :
    hd_W Ls xs d jm_M34 Q (71, sy_dL F [some (.inl (.ref 30)), none], sy_dS F [.inr (.inl 82)], sy_dh F X1 X2 (iv_H 3), 0, 0) := by
  refine hd_ret (s := 3) (nv := 83) (v := some (.inl (.int 0))) (uh := hd_ov (iv_id 0 iv_B0) []) (f := false) (sp := []) (d0 := 3) (O := [true]) (T := []) (P := [(0, .inr (.inl 82), .inl (.int 0))]) jm_ok34 (by decide +kernel) (by decide +kernel) hd F X1 X2 (fun F' hF hs => ?_)
  have b82 := hd_b (F := F) (F' := F') (k := 82) (hF 82 (by decide))
  have hB' : iv_in F' iv_B0 := iv_in_eq hB (fun j hj => hF j (Nat.lt_of_lt_of_le hj (by decide +kernel)))
  refine ⟨List.forall_mem_cons.mpr ⟨hd_p0 b82 rfl (by have hc : ((0) : Int32).toInt = 0 := (by decide); omega), fun _ h => absurd h List.not_mem_nil⟩, ?_⟩
  refine k _ ?_
  · exact fun j hj _ => (hd_keep hB' (Nat.lt_of_lt_of_le hj (by decide +kernel)) (by simp)).trans (hF j (by omega))
theorem k3pb_71_p1 {Ls : Nat} {xs : Nat → Int32} {d : Nat} {Q : Option Value → jm_h → Prop} (hd : 4 ≤ d) (F : Nat → sy_d) (X1 X2 : List jm_c) (hB : iv_in F iv_B0)
    (h0 : (sy_i F 82).toInt ≠ 0)
    (h1 : 4 ≤ (sy_i F 4).toInt)
    (k : ∀ F1 : Nat → sy_d, (∀ j, j < 82 → True → F1 j = F j) → Q (some (.int ((1 : Int32)))) (sy_dh F1 X1 X2 (iv_H 3))) :
    hd_W Ls xs d jm_M34 Q (71, sy_dL F [some (.inl (.ref 30)), none], sy_dS F [.inr (.inl 82)], sy_dh F X1 X2 (iv_H 3), 0, 0) := by
  refine hd_ret (s := 3) (nv := 83) (v := some (.inl (.int 1))) (uh := hd_ov (iv_id 0 iv_B0) []) (f := false) (sp := []) (d0 := 3) (O := [false, true]) (T := []) (P := [(1, .inr (.inl 82), .inl (.int 0)), (4, .inl (.int 4), .inr (.inl 4))]) jm_ok34 (by decide +kernel) (by decide +kernel) hd F X1 X2 (fun F' hF hs => ?_)
  have b82 := hd_b (F := F) (F' := F') (k := 82) (hF 82 (by decide))
  have b4 := hd_b (F := F) (F' := F') (k := 4) (hF 4 (by decide))
  have hB' : iv_in F' iv_B0 := iv_in_eq hB (fun j hj => hF j (Nat.lt_of_lt_of_le hj (by decide +kernel)))
  refine ⟨List.forall_mem_cons.mpr ⟨hd_p1 b82 rfl (by have hc : ((0) : Int32).toInt = 0 := (by decide); omega), List.forall_mem_cons.mpr ⟨hd_p4 rfl b4 (by have hc : ((4) : Int32).toInt = 4 := (by decide); omega), fun _ h => absurd h List.not_mem_nil⟩⟩, ?_⟩
  refine k _ ?_
  · exact fun j hj _ => (hd_keep hB' (Nat.lt_of_lt_of_le hj (by decide +kernel)) (by simp)).trans (hF j (by omega))
theorem k3pb_71_p2 {Ls : Nat} {xs : Nat → Int32} {d : Nat} {Q : Option Value → jm_h → Prop} (hd : 4 ≤ d) (F : Nat → sy_d) (X1 X2 : List jm_c) (hB : iv_in F iv_B0)
    (h0 : (sy_i F 82).toInt ≠ 0)
    (h1 : (sy_i F 4).toInt < 4)
    (h2 : 0 ≤ (sy_i F 4).toInt ∧ (sy_i F 4).toInt < 4)
    (h3 : 0 ≤ (sy_i F 4).toInt ∧ (sy_i F 4).toInt < 4)
    (h4 : 0 ≤ (sy_i F 4).toInt ∧ (sy_i F 4).toInt < 4)
    (k : ∀ F1 : Nat → sy_d, (∀ j, j < 82 → j ≠ 4 ∧ j ≠ 13 ∧ j ≠ 14 ∧ j ≠ 15 → F1 j = F j) → F1 4 = .inl (.int ((sy_i F 4) + ((1 : Int32)))) → F1 13 = .inr (.inl (jm_upd (sy_ai F 13) (sy_i F 4).toNatClampNeg ((sy_ai F 44).getD ((0 : Int32)).toNatClampNeg 0))) → F1 14 = .inr (.inl (jm_upd (sy_ai F 14) (sy_i F 4).toNatClampNeg ((sy_ai F 44).getD ((1 : Int32)).toNatClampNeg 0))) → F1 15 = .inr (.inl (jm_upd (sy_ai F 15) (sy_i F 4).toNatClampNeg ((sy_ai F 44).getD ((2 : Int32)).toNatClampNeg 0))) → Q (some (.int ((1 : Int32)))) (sy_dh F1 X1 X2 (iv_H 3))) :
    hd_W Ls xs d jm_M34 Q (71, sy_dL F [some (.inl (.ref 30)), none], sy_dS F [.inr (.inl 82)], sy_dh F X1 X2 (iv_H 3), 0, 0) := by
  refine hd_ret (s := 3) (nv := 83) (v := some (.inl (.int 1))) (uh := hd_ov (iv_id 0 iv_B0) [(4, .inl (.inr (.inl 89))), (13, .inr (.inr (.inl 84))), (14, .inr (.inr (.inl 86))), (15, .inr (.inr (.inl 88)))]) (f := false) (sp := []) (d0 := 3) (O := [false, false]) (T := [(30, [.inl (.int 0)], [.inr (.inl 44)]), (40, [.inr (.inl 4), .inr (.inl 83)], [.inr (.inl 13)]), (30, [.inl (.int 1)], [.inr (.inl 44)]), (40, [.inr (.inl 4), .inr (.inl 85)], [.inr (.inl 14)]), (30, [.inl (.int 2)], [.inr (.inl 44)]), (40, [.inr (.inl 4), .inr (.inl 87)], [.inr (.inl 15)]), (0, [.inr (.inl 4), .inl (.int 1)], [])]) (P := [(1, .inr (.inl 82), .inl (.int 0)), (5, .inl (.int 4), .inr (.inl 4)), (6, .inr (.inl 4), .inl (.ref 4)), (6, .inr (.inl 4), .inl (.ref 4)), (6, .inr (.inl 4), .inl (.ref 4))]) jm_ok34 (by decide +kernel) (by decide +kernel) hd F X1 X2 (fun F' hF hs => ?_)
  have b82 := hd_b (F := F) (F' := F') (k := 82) (hF 82 (by decide))
  have b4 := hd_b (F := F) (F' := F') (k := 4) (hF 4 (by decide))
  have t89 : sy_dv F' (.inr (.inl 89)) = .int ((sy_i F 4) + ((1 : Int32))) := hd_o (hs 6 _ rfl) b4 rfl rfl
  have a44 := hd_ba (F := F) (F' := F') (k := 44) (hF 44 (by decide))
  have t83 : sy_dv F' (.inr (.inl 83)) = .int ((sy_ai F 44).getD ((0 : Int32)).toNatClampNeg 0) := hd_rd (hs 0 _ rfl) rfl a44
  have a13 := hd_ba (F := F) (F' := F') (k := 13) (hF 13 (by decide))
  have t84 : sy_da F' (.inr (.inl 84)) = .inl (jm_upd (sy_ai F 13) (sy_i F 4).toNatClampNeg ((sy_ai F 44).getD ((0 : Int32)).toNatClampNeg 0)) := hd_up (hs 1 _ rfl) b4 t83 a13
  have t85 : sy_dv F' (.inr (.inl 85)) = .int ((sy_ai F 44).getD ((1 : Int32)).toNatClampNeg 0) := hd_rd (hs 2 _ rfl) rfl a44
  have a14 := hd_ba (F := F) (F' := F') (k := 14) (hF 14 (by decide))
  have t86 : sy_da F' (.inr (.inl 86)) = .inl (jm_upd (sy_ai F 14) (sy_i F 4).toNatClampNeg ((sy_ai F 44).getD ((1 : Int32)).toNatClampNeg 0)) := hd_up (hs 3 _ rfl) b4 t85 a14
  have t87 : sy_dv F' (.inr (.inl 87)) = .int ((sy_ai F 44).getD ((2 : Int32)).toNatClampNeg 0) := hd_rd (hs 4 _ rfl) rfl a44
  have a15 := hd_ba (F := F) (F' := F') (k := 15) (hF 15 (by decide))
  have t88 : sy_da F' (.inr (.inl 88)) = .inl (jm_upd (sy_ai F 15) (sy_i F 4).toNatClampNeg ((sy_ai F 44).getD ((2 : Int32)).toNatClampNeg 0)) := hd_up (hs 5 _ rfl) b4 t87 a15
  have hB' : iv_in F' iv_B0 := iv_in_eq hB (fun j hj => hF j (Nat.lt_of_lt_of_le hj (by decide +kernel)))
  refine ⟨List.forall_mem_cons.mpr ⟨hd_p1 b82 rfl (by have hc : ((0) : Int32).toInt = 0 := (by decide); omega), List.forall_mem_cons.mpr ⟨hd_p5 rfl b4 (by have hc : ((4) : Int32).toInt = 4 := (by decide); omega), List.forall_mem_cons.mpr ⟨hd_pb b4 (by first | exact h2 | exact h2), List.forall_mem_cons.mpr ⟨hd_pb b4 (by first | exact h3 | exact h3), List.forall_mem_cons.mpr ⟨hd_pb b4 (by first | exact h4 | exact h4), fun _ h => absurd h List.not_mem_nil⟩⟩⟩⟩⟩, ?_⟩
  refine k _ ?_ ?_ ?_ ?_ ?_
  · exact fun j hj hn => (hd_keep hB' (Nat.lt_of_lt_of_le hj (by decide +kernel)) (by simp; omega)).trans (hF j (by omega))
  · exact hd_gi (x := .inr (.inl 89)) (by decide +kernel) t89
  · exact hd_ga (a := .inr (.inl 84)) (by decide +kernel) t84
  · exact hd_ga (a := .inr (.inl 86)) (by decide +kernel) t86
  · exact hd_ga (a := .inr (.inl 88)) (by decide +kernel) t88
theorem k3pg_0_p0 {Ls : Nat} {xs : Nat → Int32} {d : Nat} {Q : Option Value → jm_h → Prop} (hd : 4 ≤ d) (F : Nat → sy_d) (X1 X2 : List jm_c) (hB : iv_in F iv_B0)
    (h0 : (sy_i F 82).toInt ≠ 8)
    (h1 : (sy_i F 82).toInt ≠ 9)
    (k : ∀ F1 : Nat → sy_d, (∀ j, j < 82 → True → F1 j = F j) → F1 82 = .inl (.int (sy_i F 82)) → F1 83 = .inl (.int ((9999 : Int32))) → hd_W Ls xs d jm_M35 Q (28, sy_dL F1 [some (.inl (.ref 30)), some (.inr (.inl 82)), some (.inr (.inl 83))], sy_dS F1 [.inr (.inl 82), .inl (.ref 30)], sy_dh F1 X1 X2 (iv_H 3), 0, 0)) :
    hd_W Ls xs d jm_M35 Q (0, sy_dL F [some (.inl (.ref 30)), some (.inr (.inl 82)), none], sy_dS F [], sy_dh F X1 X2 (iv_H 3), 0, 0) := by
  refine hd_run (s := 3) (nv := 83) (pc := 28) (L := [some (.inl (.ref 30)), some (.inr (.inl 82)), some (.inr (.inl 83))]) (S := [.inr (.inl 82), .inl (.ref 30)]) (uh := hd_ov (iv_id 0 iv_B0) []) (ul := [.inl (.inr (.inl 82)), .inl (.inl (.int 9999))]) (f := true) (sp := [28]) (d0 := 3) (O := [true, true]) (T := []) (P := [(1, .inr (.inl 82), .inl (.int 8)), (1, .inr (.inl 82), .inl (.int 9))]) jm_ok35 (by decide +kernel) (by decide +kernel) hd F X1 X2 (fun F' hF hs => ?_)
  have b82 := hd_b (F := F) (F' := F') (k := 82) (hF 82 (by decide))
  have hB' : iv_in F' iv_B0 := iv_in_eq hB (fun j hj => hF j (Nat.lt_of_lt_of_le hj (by decide +kernel)))
  refine ⟨List.forall_mem_cons.mpr ⟨hd_p1 b82 rfl (by have hc : ((8) : Int32).toInt = 8 := (by decide); omega), List.forall_mem_cons.mpr ⟨hd_p1 b82 rfl (by have hc : ((9) : Int32).toInt = 9 := (by decide); omega), fun _ h => absurd h List.not_mem_nil⟩⟩, ?_⟩
  refine k _ ?_ ?_ ?_
  · exact fun j hj _ => (hd_keep hB' (Nat.lt_of_lt_of_le hj (by decide +kernel)) (by simp)).trans (hF j (by omega))
  · exact hd_gi (x := .inr (.inl 82)) (by decide +kernel) b82
  · exact hd_gi (x := .inl (.int 9999)) (by decide +kernel) rfl
theorem k3pg_0_p1 {Ls : Nat} {xs : Nat → Int32} {d : Nat} {Q : Option Value → jm_h → Prop} (hd : 4 ≤ d) (F : Nat → sy_d) (X1 X2 : List jm_c) (hB : iv_in F iv_B0)
    (h0 : (sy_i F 82).toInt ≠ 8)
    (h1 : (sy_i F 82).toInt = 9)
    (k : ∀ F1 : Nat → sy_d, (∀ j, j < 82 → True → F1 j = F j) → F1 82 = .inl (.int (sy_i F 82)) → F1 83 = .inl (.int ((99 : Int32))) → hd_W Ls xs d jm_M35 Q (28, sy_dL F1 [some (.inl (.ref 30)), some (.inr (.inl 82)), some (.inr (.inl 83))], sy_dS F1 [.inr (.inl 82), .inl (.ref 30)], sy_dh F1 X1 X2 (iv_H 3), 0, 0)) :
    hd_W Ls xs d jm_M35 Q (0, sy_dL F [some (.inl (.ref 30)), some (.inr (.inl 82)), none], sy_dS F [], sy_dh F X1 X2 (iv_H 3), 0, 0) := by
  refine hd_run (s := 3) (nv := 83) (pc := 28) (L := [some (.inl (.ref 30)), some (.inr (.inl 82)), some (.inr (.inl 83))]) (S := [.inr (.inl 82), .inl (.ref 30)]) (uh := hd_ov (iv_id 0 iv_B0) []) (ul := [.inl (.inr (.inl 82)), .inl (.inl (.int 99))]) (f := true) (sp := [28]) (d0 := 3) (O := [true, false]) (T := []) (P := [(1, .inr (.inl 82), .inl (.int 8)), (0, .inr (.inl 82), .inl (.int 9))]) jm_ok35 (by decide +kernel) (by decide +kernel) hd F X1 X2 (fun F' hF hs => ?_)
  have b82 := hd_b (F := F) (F' := F') (k := 82) (hF 82 (by decide))
  have hB' : iv_in F' iv_B0 := iv_in_eq hB (fun j hj => hF j (Nat.lt_of_lt_of_le hj (by decide +kernel)))
  refine ⟨List.forall_mem_cons.mpr ⟨hd_p1 b82 rfl (by have hc : ((8) : Int32).toInt = 8 := (by decide); omega), List.forall_mem_cons.mpr ⟨hd_p0 b82 rfl (by have hc : ((9) : Int32).toInt = 9 := (by decide); omega), fun _ h => absurd h List.not_mem_nil⟩⟩, ?_⟩
  refine k _ ?_ ?_ ?_
  · exact fun j hj _ => (hd_keep hB' (Nat.lt_of_lt_of_le hj (by decide +kernel)) (by simp)).trans (hF j (by omega))
  · exact hd_gi (x := .inr (.inl 82)) (by decide +kernel) b82
  · exact hd_gi (x := .inl (.int 99)) (by decide +kernel) rfl
theorem k3pg_0_p2 {Ls : Nat} {xs : Nat → Int32} {d : Nat} {Q : Option Value → jm_h → Prop} (hd : 4 ≤ d) (F : Nat → sy_d) (X1 X2 : List jm_c) (hB : iv_in F iv_B0)
    (h0 : (sy_i F 82).toInt = 8)
    (k : ∀ F1 : Nat → sy_d, (∀ j, j < 82 → True → F1 j = F j) → F1 82 = .inl (.int (sy_i F 82)) → F1 83 = .inl (.int ((99 : Int32))) → hd_W Ls xs d jm_M35 Q (28, sy_dL F1 [some (.inl (.ref 30)), some (.inr (.inl 82)), some (.inr (.inl 83))], sy_dS F1 [.inr (.inl 82), .inl (.ref 30)], sy_dh F1 X1 X2 (iv_H 3), 0, 0)) :
    hd_W Ls xs d jm_M35 Q (0, sy_dL F [some (.inl (.ref 30)), some (.inr (.inl 82)), none], sy_dS F [], sy_dh F X1 X2 (iv_H 3), 0, 0) := by
  refine hd_run (s := 3) (nv := 83) (pc := 28) (L := [some (.inl (.ref 30)), some (.inr (.inl 82)), some (.inr (.inl 83))]) (S := [.inr (.inl 82), .inl (.ref 30)]) (uh := hd_ov (iv_id 0 iv_B0) []) (ul := [.inl (.inr (.inl 82)), .inl (.inl (.int 99))]) (f := true) (sp := [28]) (d0 := 3) (O := [false]) (T := []) (P := [(0, .inr (.inl 82), .inl (.int 8))]) jm_ok35 (by decide +kernel) (by decide +kernel) hd F X1 X2 (fun F' hF hs => ?_)
  have b82 := hd_b (F := F) (F' := F') (k := 82) (hF 82 (by decide))
  have hB' : iv_in F' iv_B0 := iv_in_eq hB (fun j hj => hF j (Nat.lt_of_lt_of_le hj (by decide +kernel)))
  refine ⟨List.forall_mem_cons.mpr ⟨hd_p0 b82 rfl (by have hc : ((8) : Int32).toInt = 8 := (by decide); omega), fun _ h => absurd h List.not_mem_nil⟩, ?_⟩
  refine k _ ?_ ?_ ?_
  · exact fun j hj _ => (hd_keep hB' (Nat.lt_of_lt_of_le hj (by decide +kernel)) (by simp)).trans (hF j (by omega))
  · exact hd_gi (x := .inr (.inl 82)) (by decide +kernel) b82
  · exact hd_gi (x := .inl (.int 99)) (by decide +kernel) rfl
theorem k3pg_0 {Ls : Nat} {xs : Nat → Int32} {d : Nat} {Q : Option Value → jm_h → Prop} (hd : 4 ≤ d) (F : Nat → sy_d) (X1 X2 : List jm_c) (hB : iv_in F iv_B0)
    (k0 : (sy_i F 82).toInt ≠ 8 → (sy_i F 82).toInt ≠ 9 → ∀ F1 : Nat → sy_d, iv_in F1 iv_B0 → (∀ j, j < 82 → j ∉ ([] : List Nat) → F1 j = F j) → (sy_i F1 33).toInt = (sy_i F 33).toInt → (sy_i F1 34).toInt = (sy_i F 34).toInt → (sy_i F1 36).toInt = (sy_i F 36).toInt → (sy_i F1 37).toInt = (sy_i F 37).toInt → (sy_i F1 38).toInt = (sy_i F 38).toInt → (sy_i F1 3).toInt = (sy_i F 3).toInt → (sy_i F1 4).toInt = (sy_i F 4).toInt → sy_ai F1 39 = sy_ai F 39 → (sy_i F1 82).toInt = (sy_i F 82).toInt → (sy_i F1 83).toInt = 9999 → hd_W Ls xs d jm_M35 Q (28, sy_dL F1 [some (.inl (.ref 30)), some (.inr (.inl 82)), some (.inr (.inl 83))], sy_dS F1 [.inr (.inl 82), .inl (.ref 30)], sy_dh F1 X1 X2 (iv_H 3), 0, 0))
    (k1 : (sy_i F 82).toInt ≠ 8 → (sy_i F 82).toInt = 9 → ∀ F1 : Nat → sy_d, iv_in F1 iv_B0 → (∀ j, j < 82 → j ∉ ([] : List Nat) → F1 j = F j) → (sy_i F1 33).toInt = (sy_i F 33).toInt → (sy_i F1 34).toInt = (sy_i F 34).toInt → (sy_i F1 36).toInt = (sy_i F 36).toInt → (sy_i F1 37).toInt = (sy_i F 37).toInt → (sy_i F1 38).toInt = (sy_i F 38).toInt → (sy_i F1 3).toInt = (sy_i F 3).toInt → (sy_i F1 4).toInt = (sy_i F 4).toInt → sy_ai F1 39 = sy_ai F 39 → (sy_i F1 82).toInt = (sy_i F 82).toInt → (sy_i F1 83).toInt = 99 → hd_W Ls xs d jm_M35 Q (28, sy_dL F1 [some (.inl (.ref 30)), some (.inr (.inl 82)), some (.inr (.inl 83))], sy_dS F1 [.inr (.inl 82), .inl (.ref 30)], sy_dh F1 X1 X2 (iv_H 3), 0, 0))
    (k2 : (sy_i F 82).toInt = 8 → ∀ F1 : Nat → sy_d, iv_in F1 iv_B0 → (∀ j, j < 82 → j ∉ ([] : List Nat) → F1 j = F j) → (sy_i F1 33).toInt = (sy_i F 33).toInt → (sy_i F1 34).toInt = (sy_i F 34).toInt → (sy_i F1 36).toInt = (sy_i F 36).toInt → (sy_i F1 37).toInt = (sy_i F 37).toInt → (sy_i F1 38).toInt = (sy_i F 38).toInt → (sy_i F1 3).toInt = (sy_i F 3).toInt → (sy_i F1 4).toInt = (sy_i F 4).toInt → sy_ai F1 39 = sy_ai F 39 → (sy_i F1 82).toInt = (sy_i F 82).toInt → (sy_i F1 83).toInt = 99 → hd_W Ls xs d jm_M35 Q (28, sy_dL F1 [some (.inl (.ref 30)), some (.inr (.inl 82)), some (.inr (.inl 83))], sy_dS F1 [.inr (.inl 82), .inl (.ref 30)], sy_dh F1 X1 X2 (iv_H 3), 0, 0)) :
    hd_W Ls xs d jm_M35 Q (0, sy_dL F [some (.inl (.ref 30)), some (.inr (.inl 82)), none], sy_dS F [], sy_dh F X1 X2 (iv_H 3), 0, 0) := by
  by_cases g0 : (sy_i F 82).toInt ≠ 8
  · by_cases g1 : (sy_i F 82).toInt ≠ 9
    · exact k3pg_0_p0 hd F X1 X2 hB (by first | exact g0 | (simp only [nz_c]; exact g0)) (by first | exact g1 | (simp only [nz_c]; exact g1)) (fun F1 g e82 e83 => k0 g0 g1 F1 (nz_in0 hB [] (fun j hj hn => g j hj (by simp only [List.mem_cons, List.not_mem_nil, or_false, not_or] at hn; exact trivial)) (List.forall_mem_nil _)) (fun j hj hn => g j hj (by simp only [List.mem_cons, List.not_mem_nil, or_false, not_or] at hn; exact trivial)) (nz_fi (g 33 (by decide) (by decide))) (nz_fi (g 34 (by decide) (by decide))) (nz_fi (g 36 (by decide) (by decide))) (nz_fi (g 37 (by decide) (by decide))) (nz_fi (g 38 (by decide) (by decide))) (nz_fi (g 3 (by decide) (by decide))) (nz_fi (g 4 (by decide) (by decide))) (nz_fa (g 39 (by decide) (by decide))) ((congrArg Int32.toInt (zz_i e82)).trans (rfl : (sy_i F 82).toInt = (sy_i F 82).toInt)) ((congrArg Int32.toInt (zz_i e83)).trans (by decide : ((9999 : Int32)).toInt = 9999)))
    replace g1 : (sy_i F 82).toInt = 9 := by omega
    exact k3pg_0_p1 hd F X1 X2 hB (by first | exact g0 | (simp only [nz_c]; exact g0)) (by first | exact g1 | (simp only [nz_c]; exact g1)) (fun F1 g e82 e83 => k1 g0 g1 F1 (nz_in0 hB [] (fun j hj hn => g j hj (by simp only [List.mem_cons, List.not_mem_nil, or_false, not_or] at hn; exact trivial)) (List.forall_mem_nil _)) (fun j hj hn => g j hj (by simp only [List.mem_cons, List.not_mem_nil, or_false, not_or] at hn; exact trivial)) (nz_fi (g 33 (by decide) (by decide))) (nz_fi (g 34 (by decide) (by decide))) (nz_fi (g 36 (by decide) (by decide))) (nz_fi (g 37 (by decide) (by decide))) (nz_fi (g 38 (by decide) (by decide))) (nz_fi (g 3 (by decide) (by decide))) (nz_fi (g 4 (by decide) (by decide))) (nz_fa (g 39 (by decide) (by decide))) ((congrArg Int32.toInt (zz_i e82)).trans (rfl : (sy_i F 82).toInt = (sy_i F 82).toInt)) ((congrArg Int32.toInt (zz_i e83)).trans (by decide : ((99 : Int32)).toInt = 99)))
  replace g0 : (sy_i F 82).toInt = 8 := by omega
  exact k3pg_0_p2 hd F X1 X2 hB (by first | exact g0 | (simp only [nz_c]; exact g0)) (fun F1 g e82 e83 => k2 g0 F1 (nz_in0 hB [] (fun j hj hn => g j hj (by simp only [List.mem_cons, List.not_mem_nil, or_false, not_or] at hn; exact trivial)) (List.forall_mem_nil _)) (fun j hj hn => g j hj (by simp only [List.mem_cons, List.not_mem_nil, or_false, not_or] at hn; exact trivial)) (nz_fi (g 33 (by decide) (by decide))) (nz_fi (g 34 (by decide) (by decide))) (nz_fi (g 36 (by decide) (by decide))) (nz_fi (g 37 (by decide) (by decide))) (nz_fi (g 38 (by decide) (by decide))) (nz_fi (g 3 (by decide) (by decide))) (nz_fi (g 4 (by decide) (by decide))) (nz_fa (g 39 (by decide) (by decide))) ((congrArg Int32.toInt (zz_i e82)).trans (rfl : (sy_i F 82).toInt = (sy_i F 82).toInt)) ((congrArg Int32.toInt (zz_i e83)).trans (by decide : ((99 : Int32)).toInt = 99)))
theorem k3pg_31_p0 {Ls : Nat} {xs : Nat → Int32} {d : Nat} {Q : Option Value → jm_h → Prop} (hd : 4 ≤ d) (F : Nat → sy_d) (X1 X2 : List jm_c) (hB : iv_in F iv_B0)
    (h0 : (sy_i F 84).toInt = 0)
    (k : ∀ F1 : Nat → sy_d, (∀ j, j < 82 → True → F1 j = F j) → Q (some (.int ((0 : Int32)))) (sy_dh F1 X1 X2 (iv_H 3))) :
    hd_W Ls xs d jm_M35 Q (31, sy_dL F [some (.inl (.ref 30)), some (.inr (.inl 82)), some (.inr (.inl 83))], sy_dS F [.inr (.inl 84)], sy_dh F X1 X2 (iv_H 3), 0, 0) := by
  refine hd_ret (s := 3) (nv := 85) (v := some (.inl (.int 0))) (uh := hd_ov (iv_id 0 iv_B0) []) (f := false) (sp := [38]) (d0 := 3) (O := [true]) (T := []) (P := [(0, .inr (.inl 84), .inl (.int 0))]) jm_ok35 (by decide +kernel) (by decide +kernel) hd F X1 X2 (fun F' hF hs => ?_)
  have b84 := hd_b (F := F) (F' := F') (k := 84) (hF 84 (by decide))
  have hB' : iv_in F' iv_B0 := iv_in_eq hB (fun j hj => hF j (Nat.lt_of_lt_of_le hj (by decide +kernel)))
  refine ⟨List.forall_mem_cons.mpr ⟨hd_p0 b84 rfl (by have hc : ((0) : Int32).toInt = 0 := (by decide); omega), fun _ h => absurd h List.not_mem_nil⟩, ?_⟩
  refine k _ ?_
  · exact fun j hj _ => (hd_keep hB' (Nat.lt_of_lt_of_le hj (by decide +kernel)) (by simp)).trans (hF j (by omega))
theorem k3pg_31_p1 {Ls : Nat} {xs : Nat → Int32} {d : Nat} {Q : Option Value → jm_h → Prop} (hd : 4 ≤ d) (F : Nat → sy_d) (X1 X2 : List jm_c) (hB : iv_in F iv_B0)
    (h0 : (sy_i F 84).toInt ≠ 0)
    (k : ∀ F1 : Nat → sy_d, (∀ j, j < 82 → True → F1 j = F j) → F1 82 = .inl (.int (sy_i F 82)) → F1 83 = .inl (.int (sy_i F 83)) → hd_W Ls xs d jm_M35 Q (38, sy_dL F1 [some (.inl (.ref 30)), some (.inr (.inl 82)), none], sy_dS F1 [.inr (.inl 83), .inl (.int 0), .inl (.int 0), .inl (.ref 30)], sy_dh F1 X1 X2 (iv_H 3), 0, 0)) :
    hd_W Ls xs d jm_M35 Q (31, sy_dL F [some (.inl (.ref 30)), some (.inr (.inl 82)), some (.inr (.inl 83))], sy_dS F [.inr (.inl 84)], sy_dh F X1 X2 (iv_H 3), 0, 0) := by
  refine hd_run (s := 3) (nv := 85) (pc := 38) (L := [some (.inl (.ref 30)), some (.inr (.inl 82)), none]) (S := [.inr (.inl 83), .inl (.int 0), .inl (.int 0), .inl (.ref 30)]) (uh := hd_ov (iv_id 0 iv_B0) []) (ul := [.inl (.inr (.inl 82)), .inl (.inr (.inl 83))]) (f := false) (sp := [38]) (d0 := 3) (O := [false]) (T := []) (P := [(1, .inr (.inl 84), .inl (.int 0))]) jm_ok35 (by decide +kernel) (by decide +kernel) hd F X1 X2 (fun F' hF hs => ?_)
  have b84 := hd_b (F := F) (F' := F') (k := 84) (hF 84 (by decide))
  have b82 := hd_b (F := F) (F' := F') (k := 82) (hF 82 (by decide))
  have b83 := hd_b (F := F) (F' := F') (k := 83) (hF 83 (by decide))
  have hB' : iv_in F' iv_B0 := iv_in_eq hB (fun j hj => hF j (Nat.lt_of_lt_of_le hj (by decide +kernel)))
  refine ⟨List.forall_mem_cons.mpr ⟨hd_p1 b84 rfl (by have hc : ((0) : Int32).toInt = 0 := (by decide); omega), fun _ h => absurd h List.not_mem_nil⟩, ?_⟩
  refine k _ ?_ ?_ ?_
  · exact fun j hj _ => (hd_keep hB' (Nat.lt_of_lt_of_le hj (by decide +kernel)) (by simp)).trans (hF j (by omega))
  · exact hd_gi (x := .inr (.inl 82)) (by decide +kernel) b82
  · exact hd_gi (x := .inr (.inl 83)) (by decide +kernel) b83
theorem k3pg_31 {Ls : Nat} {xs : Nat → Int32} {d : Nat} {Q : Option Value → jm_h → Prop} (hd : 4 ≤ d) (F : Nat → sy_d) (X1 X2 : List jm_c) (hB : iv_in F iv_B0)
    (k0 : (sy_i F 84).toInt = 0 → ∀ F1 : Nat → sy_d, iv_in F1 iv_B0 → (∀ j, j < 82 → j ∉ ([] : List Nat) → F1 j = F j) → (sy_i F1 33).toInt = (sy_i F 33).toInt → (sy_i F1 34).toInt = (sy_i F 34).toInt → (sy_i F1 36).toInt = (sy_i F 36).toInt → (sy_i F1 37).toInt = (sy_i F 37).toInt → (sy_i F1 38).toInt = (sy_i F 38).toInt → (sy_i F1 3).toInt = (sy_i F 3).toInt → (sy_i F1 4).toInt = (sy_i F 4).toInt → sy_ai F1 39 = sy_ai F 39 → Q (some (.int ((0 : Int32)))) (sy_dh F1 X1 X2 (iv_H 3)))
    (k1 : (sy_i F 84).toInt ≠ 0 → ∀ F1 : Nat → sy_d, iv_in F1 iv_B0 → (∀ j, j < 82 → j ∉ ([] : List Nat) → F1 j = F j) → (sy_i F1 33).toInt = (sy_i F 33).toInt → (sy_i F1 34).toInt = (sy_i F 34).toInt → (sy_i F1 36).toInt = (sy_i F 36).toInt → (sy_i F1 37).toInt = (sy_i F 37).toInt → (sy_i F1 38).toInt = (sy_i F 38).toInt → (sy_i F1 3).toInt = (sy_i F 3).toInt → (sy_i F1 4).toInt = (sy_i F 4).toInt → sy_ai F1 39 = sy_ai F 39 → (sy_i F1 82).toInt = (sy_i F 82).toInt → (sy_i F1 83).toInt = (sy_i F 83).toInt → hd_W Ls xs d jm_M35 Q (38, sy_dL F1 [some (.inl (.ref 30)), some (.inr (.inl 82)), none], sy_dS F1 [.inr (.inl 83), .inl (.int 0), .inl (.int 0), .inl (.ref 30)], sy_dh F1 X1 X2 (iv_H 3), 0, 0)) :
    hd_W Ls xs d jm_M35 Q (31, sy_dL F [some (.inl (.ref 30)), some (.inr (.inl 82)), some (.inr (.inl 83))], sy_dS F [.inr (.inl 84)], sy_dh F X1 X2 (iv_H 3), 0, 0) := by
  by_cases g0 : (sy_i F 84).toInt = 0
  · exact k3pg_31_p0 hd F X1 X2 hB (by first | exact g0 | (simp only [nz_c]; exact g0)) (fun F1 g  => k0 g0 F1 (nz_in0 hB [] (fun j hj hn => g j hj (by simp only [List.mem_cons, List.not_mem_nil, or_false, not_or] at hn; exact trivial)) (List.forall_mem_nil _)) (fun j hj hn => g j hj (by simp only [List.mem_cons, List.not_mem_nil, or_false, not_or] at hn; exact trivial)) (nz_fi (g 33 (by decide) (by decide))) (nz_fi (g 34 (by decide) (by decide))) (nz_fi (g 36 (by decide) (by decide))) (nz_fi (g 37 (by decide) (by decide))) (nz_fi (g 38 (by decide) (by decide))) (nz_fi (g 3 (by decide) (by decide))) (nz_fi (g 4 (by decide) (by decide))) (nz_fa (g 39 (by decide) (by decide))))
  replace g0 : (sy_i F 84).toInt ≠ 0 := by omega
  exact k3pg_31_p1 hd F X1 X2 hB (by first | exact g0 | (simp only [nz_c]; exact g0)) (fun F1 g e82 e83 => k1 g0 F1 (nz_in0 hB [] (fun j hj hn => g j hj (by simp only [List.mem_cons, List.not_mem_nil, or_false, not_or] at hn; exact trivial)) (List.forall_mem_nil _)) (fun j hj hn => g j hj (by simp only [List.mem_cons, List.not_mem_nil, or_false, not_or] at hn; exact trivial)) (nz_fi (g 33 (by decide) (by decide))) (nz_fi (g 34 (by decide) (by decide))) (nz_fi (g 36 (by decide) (by decide))) (nz_fi (g 37 (by decide) (by decide))) (nz_fi (g 38 (by decide) (by decide))) (nz_fi (g 3 (by decide) (by decide))) (nz_fi (g 4 (by decide) (by decide))) (nz_fa (g 39 (by decide) (by decide))) ((congrArg Int32.toInt (zz_i e82)).trans (rfl : (sy_i F 82).toInt = (sy_i F 82).toInt)) ((congrArg Int32.toInt (zz_i e83)).trans (rfl : (sy_i F 83).toInt = (sy_i F 83).toInt)))
theorem k3pg_41_p0 {Ls : Nat} {xs : Nat → Int32} {d : Nat} {Q : Option Value → jm_h → Prop} (hd : 4 ≤ d) (F : Nat → sy_d) (X1 X2 : List jm_c) (hB : iv_in F iv_B0)
    (h0 : (sy_i F 84).toInt = 0)
    (k : ∀ F1 : Nat → sy_d, (∀ j, j < 82 → True → F1 j = F j) → Q (some (.int ((0 : Int32)))) (sy_dh F1 X1 X2 (iv_H 3))) :
    hd_W Ls xs d jm_M35 Q (41, sy_dL F [some (.inl (.ref 30)), some (.inr (.inl 82)), none], sy_dS F [.inr (.inl 84)], sy_dh F X1 X2 (iv_H 3), 0, 0) := by
  refine hd_ret (s := 3) (nv := 85) (v := some (.inl (.int 0))) (uh := hd_ov (iv_id 0 iv_B0) []) (f := false) (sp := [47]) (d0 := 3) (O := [true]) (T := []) (P := [(0, .inr (.inl 84), .inl (.int 0))]) jm_ok35 (by decide +kernel) (by decide +kernel) hd F X1 X2 (fun F' hF hs => ?_)
  have b84 := hd_b (F := F) (F' := F') (k := 84) (hF 84 (by decide))
  have hB' : iv_in F' iv_B0 := iv_in_eq hB (fun j hj => hF j (Nat.lt_of_lt_of_le hj (by decide +kernel)))
  refine ⟨List.forall_mem_cons.mpr ⟨hd_p0 b84 rfl (by have hc : ((0) : Int32).toInt = 0 := (by decide); omega), fun _ h => absurd h List.not_mem_nil⟩, ?_⟩
  refine k _ ?_
  · exact fun j hj _ => (hd_keep hB' (Nat.lt_of_lt_of_le hj (by decide +kernel)) (by simp)).trans (hF j (by omega))
theorem k3pg_41_p1 {Ls : Nat} {xs : Nat → Int32} {d : Nat} {Q : Option Value → jm_h → Prop} (hd : 4 ≤ d) (F : Nat → sy_d) (X1 X2 : List jm_c) (hB : iv_in F iv_B0)
    (h0 : (sy_i F 84).toInt ≠ 0)
    (k : ∀ F1 : Nat → sy_d, (∀ j, j < 82 → True → F1 j = F j) → F1 82 = .inl (.int (sy_i F 82)) → hd_W Ls xs d jm_M35 Q (47, sy_dL F1 [some (.inl (.ref 30)), some (.inr (.inl 82)), none], sy_dS F1 [.inl (.int 59), .inl (.ref 30)], sy_dh F1 X1 X2 (iv_H 3), 0, 0)) :
    hd_W Ls xs d jm_M35 Q (41, sy_dL F [some (.inl (.ref 30)), some (.inr (.inl 82)), none], sy_dS F [.inr (.inl 84)], sy_dh F X1 X2 (iv_H 3), 0, 0) := by
  refine hd_run (s := 3) (nv := 85) (pc := 47) (L := [some (.inl (.ref 30)), some (.inr (.inl 82)), none]) (S := [.inl (.int 59), .inl (.ref 30)]) (uh := hd_ov (iv_id 0 iv_B0) []) (ul := [.inl (.inr (.inl 82))]) (f := false) (sp := [47]) (d0 := 3) (O := [false]) (T := []) (P := [(1, .inr (.inl 84), .inl (.int 0))]) jm_ok35 (by decide +kernel) (by decide +kernel) hd F X1 X2 (fun F' hF hs => ?_)
  have b84 := hd_b (F := F) (F' := F') (k := 84) (hF 84 (by decide))
  have b82 := hd_b (F := F) (F' := F') (k := 82) (hF 82 (by decide))
  have hB' : iv_in F' iv_B0 := iv_in_eq hB (fun j hj => hF j (Nat.lt_of_lt_of_le hj (by decide +kernel)))
  refine ⟨List.forall_mem_cons.mpr ⟨hd_p1 b84 rfl (by have hc : ((0) : Int32).toInt = 0 := (by decide); omega), fun _ h => absurd h List.not_mem_nil⟩, ?_⟩
  refine k _ ?_ ?_
  · exact fun j hj _ => (hd_keep hB' (Nat.lt_of_lt_of_le hj (by decide +kernel)) (by simp)).trans (hF j (by omega))
  · exact hd_gi (x := .inr (.inl 82)) (by decide +kernel) b82
theorem k3pg_41 {Ls : Nat} {xs : Nat → Int32} {d : Nat} {Q : Option Value → jm_h → Prop} (hd : 4 ≤ d) (F : Nat → sy_d) (X1 X2 : List jm_c) (hB : iv_in F iv_B0)
    (k0 : (sy_i F 84).toInt = 0 → ∀ F1 : Nat → sy_d, iv_in F1 iv_B0 → (∀ j, j < 82 → j ∉ ([] : List Nat) → F1 j = F j) → (sy_i F1 33).toInt = (sy_i F 33).toInt → (sy_i F1 34).toInt = (sy_i F 34).toInt → (sy_i F1 36).toInt = (sy_i F 36).toInt → (sy_i F1 37).toInt = (sy_i F 37).toInt → (sy_i F1 38).toInt = (sy_i F 38).toInt → (sy_i F1 3).toInt = (sy_i F 3).toInt → (sy_i F1 4).toInt = (sy_i F 4).toInt → sy_ai F1 39 = sy_ai F 39 → Q (some (.int ((0 : Int32)))) (sy_dh F1 X1 X2 (iv_H 3)))
    (k1 : (sy_i F 84).toInt ≠ 0 → ∀ F1 : Nat → sy_d, iv_in F1 iv_B0 → (∀ j, j < 82 → j ∉ ([] : List Nat) → F1 j = F j) → (sy_i F1 33).toInt = (sy_i F 33).toInt → (sy_i F1 34).toInt = (sy_i F 34).toInt → (sy_i F1 36).toInt = (sy_i F 36).toInt → (sy_i F1 37).toInt = (sy_i F 37).toInt → (sy_i F1 38).toInt = (sy_i F 38).toInt → (sy_i F1 3).toInt = (sy_i F 3).toInt → (sy_i F1 4).toInt = (sy_i F 4).toInt → sy_ai F1 39 = sy_ai F 39 → (sy_i F1 82).toInt = (sy_i F 82).toInt → hd_W Ls xs d jm_M35 Q (47, sy_dL F1 [some (.inl (.ref 30)), some (.inr (.inl 82)), none], sy_dS F1 [.inl (.int 59), .inl (.ref 30)], sy_dh F1 X1 X2 (iv_H 3), 0, 0)) :
    hd_W Ls xs d jm_M35 Q (41, sy_dL F [some (.inl (.ref 30)), some (.inr (.inl 82)), none], sy_dS F [.inr (.inl 84)], sy_dh F X1 X2 (iv_H 3), 0, 0) := by
  by_cases g0 : (sy_i F 84).toInt = 0
  · exact k3pg_41_p0 hd F X1 X2 hB (by first | exact g0 | (simp only [nz_c]; exact g0)) (fun F1 g  => k0 g0 F1 (nz_in0 hB [] (fun j hj hn => g j hj (by simp only [List.mem_cons, List.not_mem_nil, or_false, not_or] at hn; exact trivial)) (List.forall_mem_nil _)) (fun j hj hn => g j hj (by simp only [List.mem_cons, List.not_mem_nil, or_false, not_or] at hn; exact trivial)) (nz_fi (g 33 (by decide) (by decide))) (nz_fi (g 34 (by decide) (by decide))) (nz_fi (g 36 (by decide) (by decide))) (nz_fi (g 37 (by decide) (by decide))) (nz_fi (g 38 (by decide) (by decide))) (nz_fi (g 3 (by decide) (by decide))) (nz_fi (g 4 (by decide) (by decide))) (nz_fa (g 39 (by decide) (by decide))))
  replace g0 : (sy_i F 84).toInt ≠ 0 := by omega
  exact k3pg_41_p1 hd F X1 X2 hB (by first | exact g0 | (simp only [nz_c]; exact g0)) (fun F1 g e82 => k1 g0 F1 (nz_in0 hB [] (fun j hj hn => g j hj (by simp only [List.mem_cons, List.not_mem_nil, or_false, not_or] at hn; exact trivial)) (List.forall_mem_nil _)) (fun j hj hn => g j hj (by simp only [List.mem_cons, List.not_mem_nil, or_false, not_or] at hn; exact trivial)) (nz_fi (g 33 (by decide) (by decide))) (nz_fi (g 34 (by decide) (by decide))) (nz_fi (g 36 (by decide) (by decide))) (nz_fi (g 37 (by decide) (by decide))) (nz_fi (g 38 (by decide) (by decide))) (nz_fi (g 3 (by decide) (by decide))) (nz_fi (g 4 (by decide) (by decide))) (nz_fa (g 39 (by decide) (by decide))) ((congrArg Int32.toInt (zz_i e82)).trans (rfl : (sy_i F 82).toInt = (sy_i F 82).toInt)))
theorem k3pg_50_p0 {Ls : Nat} {xs : Nat → Int32} {d : Nat} {Q : Option Value → jm_h → Prop} (hd : 4 ≤ d) (F : Nat → sy_d) (X1 X2 : List jm_c) (hB : iv_in F iv_B0)
    (h0 : (sy_i F 83).toInt ≠ 0)
    (h1 : (sy_i F 82).toInt ≠ 8)
    (h2 : (sy_i F 82).toInt ≠ 9)
    (k : ∀ F1 : Nat → sy_d, (∀ j, j < 82 → j ≠ 7 → F1 j = F j) → F1 7 = .inl (.int ((sy_ai F 44).getD ((0 : Int32)).toNatClampNeg 0)) → Q (some (.int ((1 : Int32)))) (sy_dh F1 X1 X2 (iv_H 3))) :
    hd_W Ls xs d jm_M35 Q (50, sy_dL F [some (.inl (.ref 30)), some (.inr (.inl 82)), none], sy_dS F [.inr (.inl 83)], sy_dh F X1 X2 (iv_H 3), 0, 0) := by
  refine hd_ret (s := 3) (nv := 84) (v := some (.inl (.int 1))) (uh := hd_ov (iv_id 0 iv_B0) [(7, .inl (.inr (.inl 84)))]) (f := false) (sp := []) (d0 := 3) (O := [true, true, true]) (T := [(30, [.inl (.int 0)], [.inr (.inl 44)])]) (P := [(1, .inr (.inl 83), .inl (.int 0)), (1, .inr (.inl 82), .inl (.int 8)), (1, .inr (.inl 82), .inl (.int 9))]) jm_ok35 (by decide +kernel) (by decide +kernel) hd F X1 X2 (fun F' hF hs => ?_)
  have b83 := hd_b (F := F) (F' := F') (k := 83) (hF 83 (by decide))
  have b82 := hd_b (F := F) (F' := F') (k := 82) (hF 82 (by decide))
  have a44 := hd_ba (F := F) (F' := F') (k := 44) (hF 44 (by decide))
  have t84 : sy_dv F' (.inr (.inl 84)) = .int ((sy_ai F 44).getD ((0 : Int32)).toNatClampNeg 0) := hd_rd (hs 0 _ rfl) rfl a44
  have hB' : iv_in F' iv_B0 := iv_in_eq hB (fun j hj => hF j (Nat.lt_of_lt_of_le hj (by decide +kernel)))
  refine ⟨List.forall_mem_cons.mpr ⟨hd_p1 b83 rfl (by have hc : ((0) : Int32).toInt = 0 := (by decide); omega), List.forall_mem_cons.mpr ⟨hd_p1 b82 rfl (by have hc : ((8) : Int32).toInt = 8 := (by decide); omega), List.forall_mem_cons.mpr ⟨hd_p1 b82 rfl (by have hc : ((9) : Int32).toInt = 9 := (by decide); omega), fun _ h => absurd h List.not_mem_nil⟩⟩⟩, ?_⟩
  refine k _ ?_ ?_
  · exact fun j hj hn => (hd_keep hB' (Nat.lt_of_lt_of_le hj (by decide +kernel)) (by simp; omega)).trans (hF j (by omega))
  · exact hd_gi (x := .inr (.inl 84)) (by decide +kernel) t84
theorem k3pg_50_p1 {Ls : Nat} {xs : Nat → Int32} {d : Nat} {Q : Option Value → jm_h → Prop} (hd : 4 ≤ d) (F : Nat → sy_d) (X1 X2 : List jm_c) (hB : iv_in F iv_B0)
    (h0 : (sy_i F 83).toInt ≠ 0)
    (h1 : (sy_i F 82).toInt ≠ 8)
    (h2 : (sy_i F 82).toInt = 9)
    (k : ∀ F1 : Nat → sy_d, (∀ j, j < 82 → j ≠ 6 → F1 j = F j) → F1 6 = .inl (.int ((sy_ai F 44).getD ((0 : Int32)).toNatClampNeg 0)) → Q (some (.int ((1 : Int32)))) (sy_dh F1 X1 X2 (iv_H 3))) :
    hd_W Ls xs d jm_M35 Q (50, sy_dL F [some (.inl (.ref 30)), some (.inr (.inl 82)), none], sy_dS F [.inr (.inl 83)], sy_dh F X1 X2 (iv_H 3), 0, 0) := by
  refine hd_ret (s := 3) (nv := 84) (v := some (.inl (.int 1))) (uh := hd_ov (iv_id 0 iv_B0) [(6, .inl (.inr (.inl 84)))]) (f := false) (sp := []) (d0 := 3) (O := [true, true, false]) (T := [(30, [.inl (.int 0)], [.inr (.inl 44)])]) (P := [(1, .inr (.inl 83), .inl (.int 0)), (1, .inr (.inl 82), .inl (.int 8)), (0, .inr (.inl 82), .inl (.int 9))]) jm_ok35 (by decide +kernel) (by decide +kernel) hd F X1 X2 (fun F' hF hs => ?_)
  have b83 := hd_b (F := F) (F' := F') (k := 83) (hF 83 (by decide))
  have b82 := hd_b (F := F) (F' := F') (k := 82) (hF 82 (by decide))
  have a44 := hd_ba (F := F) (F' := F') (k := 44) (hF 44 (by decide))
  have t84 : sy_dv F' (.inr (.inl 84)) = .int ((sy_ai F 44).getD ((0 : Int32)).toNatClampNeg 0) := hd_rd (hs 0 _ rfl) rfl a44
  have hB' : iv_in F' iv_B0 := iv_in_eq hB (fun j hj => hF j (Nat.lt_of_lt_of_le hj (by decide +kernel)))
  refine ⟨List.forall_mem_cons.mpr ⟨hd_p1 b83 rfl (by have hc : ((0) : Int32).toInt = 0 := (by decide); omega), List.forall_mem_cons.mpr ⟨hd_p1 b82 rfl (by have hc : ((8) : Int32).toInt = 8 := (by decide); omega), List.forall_mem_cons.mpr ⟨hd_p0 b82 rfl (by have hc : ((9) : Int32).toInt = 9 := (by decide); omega), fun _ h => absurd h List.not_mem_nil⟩⟩⟩, ?_⟩
  refine k _ ?_ ?_
  · exact fun j hj hn => (hd_keep hB' (Nat.lt_of_lt_of_le hj (by decide +kernel)) (by simp; omega)).trans (hF j (by omega))
  · exact hd_gi (x := .inr (.inl 84)) (by decide +kernel) t84
theorem k3pg_50_p2 {Ls : Nat} {xs : Nat → Int32} {d : Nat} {Q : Option Value → jm_h → Prop} (hd : 4 ≤ d) (F : Nat → sy_d) (X1 X2 : List jm_c) (hB : iv_in F iv_B0)
    (h0 : (sy_i F 83).toInt ≠ 0)
    (h1 : (sy_i F 82).toInt = 8)
    (k : ∀ F1 : Nat → sy_d, (∀ j, j < 82 → j ≠ 5 → F1 j = F j) → F1 5 = .inl (.int ((sy_ai F 44).getD ((0 : Int32)).toNatClampNeg 0)) → Q (some (.int ((1 : Int32)))) (sy_dh F1 X1 X2 (iv_H 3))) :
    hd_W Ls xs d jm_M35 Q (50, sy_dL F [some (.inl (.ref 30)), some (.inr (.inl 82)), none], sy_dS F [.inr (.inl 83)], sy_dh F X1 X2 (iv_H 3), 0, 0) := by
  refine hd_ret (s := 3) (nv := 84) (v := some (.inl (.int 1))) (uh := hd_ov (iv_id 0 iv_B0) [(5, .inl (.inr (.inl 84)))]) (f := false) (sp := []) (d0 := 3) (O := [true, false]) (T := [(30, [.inl (.int 0)], [.inr (.inl 44)])]) (P := [(1, .inr (.inl 83), .inl (.int 0)), (0, .inr (.inl 82), .inl (.int 8))]) jm_ok35 (by decide +kernel) (by decide +kernel) hd F X1 X2 (fun F' hF hs => ?_)
  have b83 := hd_b (F := F) (F' := F') (k := 83) (hF 83 (by decide))
  have b82 := hd_b (F := F) (F' := F') (k := 82) (hF 82 (by decide))
  have a44 := hd_ba (F := F) (F' := F') (k := 44) (hF 44 (by decide))
  have t84 : sy_dv F' (.inr (.inl 84)) = .int ((sy_ai F 44).getD ((0 : Int32)).toNatClampNeg 0) := hd_rd (hs 0 _ rfl) rfl a44
  have hB' : iv_in F' iv_B0 := iv_in_eq hB (fun j hj => hF j (Nat.lt_of_lt_of_le hj (by decide +kernel)))
  refine ⟨List.forall_mem_cons.mpr ⟨hd_p1 b83 rfl (by have hc : ((0) : Int32).toInt = 0 := (by decide); omega), List.forall_mem_cons.mpr ⟨hd_p0 b82 rfl (by have hc : ((8) : Int32).toInt = 8 := (by decide); omega), fun _ h => absurd h List.not_mem_nil⟩⟩, ?_⟩
  refine k _ ?_ ?_
  · exact fun j hj hn => (hd_keep hB' (Nat.lt_of_lt_of_le hj (by decide +kernel)) (by simp; omega)).trans (hF j (by omega))
  · exact hd_gi (x := .inr (.inl 84)) (by decide +kernel) t84
theorem k3pg_50_p3 {Ls : Nat} {xs : Nat → Int32} {d : Nat} {Q : Option Value → jm_h → Prop} (hd : 4 ≤ d) (F : Nat → sy_d) (X1 X2 : List jm_c) (hB : iv_in F iv_B0)
    (h0 : (sy_i F 83).toInt = 0)
    (k : ∀ F1 : Nat → sy_d, (∀ j, j < 82 → True → F1 j = F j) → Q (some (.int ((0 : Int32)))) (sy_dh F1 X1 X2 (iv_H 3))) :
    hd_W Ls xs d jm_M35 Q (50, sy_dL F [some (.inl (.ref 30)), some (.inr (.inl 82)), none], sy_dS F [.inr (.inl 83)], sy_dh F X1 X2 (iv_H 3), 0, 0) := by
  refine hd_ret (s := 3) (nv := 84) (v := some (.inl (.int 0))) (uh := hd_ov (iv_id 0 iv_B0) []) (f := false) (sp := []) (d0 := 3) (O := [false]) (T := []) (P := [(0, .inr (.inl 83), .inl (.int 0))]) jm_ok35 (by decide +kernel) (by decide +kernel) hd F X1 X2 (fun F' hF hs => ?_)
  have b83 := hd_b (F := F) (F' := F') (k := 83) (hF 83 (by decide))
  have hB' : iv_in F' iv_B0 := iv_in_eq hB (fun j hj => hF j (Nat.lt_of_lt_of_le hj (by decide +kernel)))
  refine ⟨List.forall_mem_cons.mpr ⟨hd_p0 b83 rfl (by have hc : ((0) : Int32).toInt = 0 := (by decide); omega), fun _ h => absurd h List.not_mem_nil⟩, ?_⟩
  refine k _ ?_
  · exact fun j hj _ => (hd_keep hB' (Nat.lt_of_lt_of_le hj (by decide +kernel)) (by simp)).trans (hF j (by omega))
