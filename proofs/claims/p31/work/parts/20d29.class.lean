section
/-! ===== the class parses fruit, buyers, settings, way by way (shape 0) ===== -/
theorem k0pf_0_p0 {Ls : Nat} {xs : Nat → Int32} {d : Nat} {Q : Option Value → jm_h → Prop} (hd : 4 ≤ d) (F : Nat → sy_d) (X1 X2 : List jm_c) (hB : iv_in F iv_B0)
    (h0 : (sy_i F 18).toInt < 7)
    (k : ∀ F1 : Nat → sy_d, (∀ j, j < 82 → True → F1 j = F j) → hd_W Ls xs d jm_M33 Q (20, sy_dL F1 [some (.inl (.ref 30)), none], sy_dS F1 [.inl (.int 0), .inl (.ref 30)], sy_dh F1 X1 X2 (iv_H 0), 0, 0)) :
    hd_W Ls xs d jm_M33 Q (0, sy_dL F [some (.inl (.ref 30)), none], sy_dS F [], sy_dh F X1 X2 (iv_H 0), 0, 0) := by
  refine hd_run (s := 0) (nv := 82) (pc := 20) (L := [some (.inl (.ref 30)), none]) (S := [.inl (.int 0), .inl (.ref 30)]) (uh := hd_ov (iv_id 0 iv_B0) []) (ul := []) (f := true) (sp := [20]) (d0 := 3) (O := [true]) (T := []) (P := [(2, .inr (.inl 18), .inl (.int 7))]) jm_ok33 (by decide +kernel) (by decide +kernel) hd F X1 X2 (fun F' hF hs => ?_)
  have b18 := hd_b (F := F) (F' := F') (k := 18) (hF 18 (by decide))
  have hB' : iv_in F' iv_B0 := iv_in_eq hB (fun j hj => hF j (Nat.lt_of_lt_of_le hj (by decide +kernel)))
  refine ⟨List.forall_mem_cons.mpr ⟨hd_p2 b18 rfl (by have hc : ((7) : Int32).toInt = 7 := (by decide); omega), fun _ h => absurd h List.not_mem_nil⟩, ?_⟩
  refine k _ ?_
  · exact fun j hj _ => (hd_keep hB' (Nat.lt_of_lt_of_le hj (by decide +kernel)) (by simp)).trans (hF j (Nat.lt_of_lt_of_le hj (by decide)))
theorem k0pf_0_p1 {Ls : Nat} {xs : Nat → Int32} {d : Nat} {Q : Option Value → jm_h → Prop} (hd : 4 ≤ d) (F : Nat → sy_d) (X1 X2 : List jm_c) (hB : iv_in F iv_B0)
    (h0 : 7 ≤ (sy_i F 18).toInt)
    (k : ∀ F1 : Nat → sy_d, (∀ j, j < 82 → j ≠ 34 → F1 j = F j) → F1 34 = .inl (.int ((2 : Int32))) → Q (some (.int ((0 : Int32)))) (sy_dh F1 X1 X2 (iv_H 0))) :
    hd_W Ls xs d jm_M33 Q (0, sy_dL F [some (.inl (.ref 30)), none], sy_dS F [], sy_dh F X1 X2 (iv_H 0), 0, 0) := by
  refine hd_ret (s := 0) (nv := 82) (v := some (.inl (.int 0))) (uh := hd_ov (iv_id 0 iv_B0) [(34, .inl (.inl (.int 2)))]) (f := true) (sp := [20]) (d0 := 3) (O := [false]) (T := []) (P := [(3, .inr (.inl 18), .inl (.int 7))]) jm_ok33 (by decide +kernel) (by decide +kernel) hd F X1 X2 (fun F' hF hs => ?_)
  have b18 := hd_b (F := F) (F' := F') (k := 18) (hF 18 (by decide))
  have hB' : iv_in F' iv_B0 := iv_in_eq hB (fun j hj => hF j (Nat.lt_of_lt_of_le hj (by decide +kernel)))
  refine ⟨List.forall_mem_cons.mpr ⟨hd_p3 b18 rfl (by have hc : ((7) : Int32).toInt = 7 := (by decide); omega), fun _ h => absurd h List.not_mem_nil⟩, ?_⟩
  refine k _ ?_ ?_
  · exact fun j hj hn => (hd_keep hB' (Nat.lt_of_lt_of_le hj (by decide +kernel)) (by simp; omega)).trans (hF j (Nat.lt_of_lt_of_le hj (by decide)))
  · exact hd_gi (x := .inl (.int 2)) (by decide +kernel) rfl
theorem k0pf_0 {Ls : Nat} {xs : Nat → Int32} {d : Nat} {Q : Option Value → jm_h → Prop} (hd : 4 ≤ d) (F : Nat → sy_d) (X1 X2 : List jm_c) (hB : iv_in F iv_B0)
    (k0 : (sy_i F 18).toInt < 7 → ∀ F1 : Nat → sy_d, iv_in F1 iv_B0 → (∀ j, j < 82 → j ∉ ([] : List Nat) → F1 j = F j) → (sy_i F1 33).toInt = (sy_i F 33).toInt → (sy_i F1 34).toInt = (sy_i F 34).toInt → (sy_i F1 36).toInt = (sy_i F 36).toInt → (sy_i F1 37).toInt = (sy_i F 37).toInt → (sy_i F1 38).toInt = (sy_i F 38).toInt → (sy_i F1 18).toInt = (sy_i F 18).toInt → (sy_i F1 19).toInt = (sy_i F 19).toInt → sy_ai F1 39 = sy_ai F 39 → hd_W Ls xs d jm_M33 Q (20, sy_dL F1 [some (.inl (.ref 30)), none], sy_dS F1 [.inl (.int 0), .inl (.ref 30)], sy_dh F1 X1 X2 (iv_H 0), 0, 0))
    (k1 : 7 ≤ (sy_i F 18).toInt → ∀ F1 : Nat → sy_d, iv_in F1 iv_B0 → (∀ j, j < 82 → j ∉ ([34] : List Nat) → F1 j = F j) → (sy_i F1 33).toInt = (sy_i F 33).toInt → (sy_i F1 34).toInt = 2 → (sy_i F1 36).toInt = (sy_i F 36).toInt → (sy_i F1 37).toInt = (sy_i F 37).toInt → (sy_i F1 38).toInt = (sy_i F 38).toInt → (sy_i F1 18).toInt = (sy_i F 18).toInt → (sy_i F1 19).toInt = (sy_i F 19).toInt → sy_ai F1 39 = sy_ai F 39 → Q (some (.int ((0 : Int32)))) (sy_dh F1 X1 X2 (iv_H 0))) :
    hd_W Ls xs d jm_M33 Q (0, sy_dL F [some (.inl (.ref 30)), none], sy_dS F [], sy_dh F X1 X2 (iv_H 0), 0, 0) := by
  by_cases g0 : (sy_i F 18).toInt < 7
  · have c18 := nz_bx hB (k := 18) (lo := 0) (hi := 7) rfl
    exact k0pf_0_p0 hd F X1 X2 hB (by first | exact g0 | (simp only [nz_c]; exact g0)) (fun F1 g  => k0 g0 F1 (nz_in0 hB [] (fun j hj hn => g j hj (by simp only [List.mem_cons, List.not_mem_nil, or_false, not_or] at hn; exact trivial)) (List.forall_mem_nil _)) (fun j hj hn => g j hj (by simp only [List.mem_cons, List.not_mem_nil, or_false, not_or] at hn; exact trivial)) (nz_fi (g 33 (by decide) (by decide))) (nz_fi (g 34 (by decide) (by decide))) (nz_fi (g 36 (by decide) (by decide))) (nz_fi (g 37 (by decide) (by decide))) (nz_fi (g 38 (by decide) (by decide))) (nz_fi (g 18 (by decide) (by decide))) (nz_fi (g 19 (by decide) (by decide))) (nz_fa (g 39 (by decide) (by decide))))
  replace g0 : 7 ≤ (sy_i F 18).toInt := by omega
  have c18 := nz_bx hB (k := 18) (lo := 0) (hi := 7) rfl
  exact k0pf_0_p1 hd F X1 X2 hB (by first | exact g0 | (simp only [nz_c]; exact g0)) (fun F1 g e34 => k1 g0 F1 (nz_in0 hB [34] (fun j hj hn => g j hj (by simp only [List.mem_cons, List.not_mem_nil, or_false, not_or] at hn; omega)) (List.forall_mem_cons.mpr ⟨fun t ht => (Option.some.inj ht) ▸ (nz_hz e34), List.forall_mem_nil _⟩)) (fun j hj hn => g j hj (by simp only [List.mem_cons, List.not_mem_nil, or_false, not_or] at hn; omega)) (nz_fi (g 33 (by decide) (by decide))) ((congrArg Int32.toInt (zz_i e34)).trans (by decide : ((2 : Int32)).toInt = 2)) (nz_fi (g 36 (by decide) (by decide))) (nz_fi (g 37 (by decide) (by decide))) (nz_fi (g 38 (by decide) (by decide))) (nz_fi (g 18 (by decide) (by decide))) (nz_fi (g 19 (by decide) (by decide))) (nz_fa (g 39 (by decide) (by decide))))
theorem k0pf_23_p0 {Ls : Nat} {xs : Nat → Int32} {d : Nat} {Q : Option Value → jm_h → Prop} (hd : 4 ≤ d) (F : Nat → sy_d) (X1 X2 : List jm_c) (hB : iv_in F iv_B0)
    (h0 : (sy_i F 82).toInt = 0)
    (k : ∀ F1 : Nat → sy_d, (∀ j, j < 82 → True → F1 j = F j) → Q (some (.int ((0 : Int32)))) (sy_dh F1 X1 X2 (iv_H 0))) :
    hd_W Ls xs d jm_M33 Q (23, sy_dL F [some (.inl (.ref 30)), none], sy_dS F [.inr (.inl 82)], sy_dh F X1 X2 (iv_H 0), 0, 0) := by
  refine hd_ret (s := 0) (nv := 83) (v := some (.inl (.int 0))) (uh := hd_ov (iv_id 0 iv_B0) []) (f := false) (sp := [27]) (d0 := 3) (O := [true]) (T := []) (P := [(0, .inr (.inl 82), .inl (.int 0))]) jm_ok33 (by decide +kernel) (by decide +kernel) hd F X1 X2 (fun F' hF hs => ?_)
  have b82 := hd_b (F := F) (F' := F') (k := 82) (hF 82 (by decide))
  have hB' : iv_in F' iv_B0 := iv_in_eq hB (fun j hj => hF j (Nat.lt_of_lt_of_le hj (by decide +kernel)))
  refine ⟨List.forall_mem_cons.mpr ⟨hd_p0 b82 rfl (by have hc : ((0) : Int32).toInt = 0 := (by decide); omega), fun _ h => absurd h List.not_mem_nil⟩, ?_⟩
  refine k _ ?_
  · exact fun j hj _ => (hd_keep hB' (Nat.lt_of_lt_of_le hj (by decide +kernel)) (by simp)).trans (hF j (Nat.lt_of_lt_of_le hj (by decide)))
theorem k0pf_23_p1 {Ls : Nat} {xs : Nat → Int32} {d : Nat} {Q : Option Value → jm_h → Prop} (hd : 4 ≤ d) (F : Nat → sy_d) (X1 X2 : List jm_c) (hB : iv_in F iv_B0)
    (h0 : (sy_i F 82).toInt ≠ 0)
    (k : ∀ F1 : Nat → sy_d, (∀ j, j < 82 → True → F1 j = F j) → hd_W Ls xs d jm_M33 Q (27, sy_dL F1 [some (.inl (.ref 30)), none], sy_dS F1 [.inl (.ref 30)], sy_dh F1 X1 X2 (iv_H 0), 0, 0)) :
    hd_W Ls xs d jm_M33 Q (23, sy_dL F [some (.inl (.ref 30)), none], sy_dS F [.inr (.inl 82)], sy_dh F X1 X2 (iv_H 0), 0, 0) := by
  refine hd_run (s := 0) (nv := 83) (pc := 27) (L := [some (.inl (.ref 30)), none]) (S := [.inl (.ref 30)]) (uh := hd_ov (iv_id 0 iv_B0) []) (ul := []) (f := false) (sp := [27]) (d0 := 3) (O := [false]) (T := []) (P := [(1, .inr (.inl 82), .inl (.int 0))]) jm_ok33 (by decide +kernel) (by decide +kernel) hd F X1 X2 (fun F' hF hs => ?_)
  have b82 := hd_b (F := F) (F' := F') (k := 82) (hF 82 (by decide))
  have hB' : iv_in F' iv_B0 := iv_in_eq hB (fun j hj => hF j (Nat.lt_of_lt_of_le hj (by decide +kernel)))
  refine ⟨List.forall_mem_cons.mpr ⟨hd_p1 b82 rfl (by have hc : ((0) : Int32).toInt = 0 := (by decide); omega), fun _ h => absurd h List.not_mem_nil⟩, ?_⟩
  refine k _ ?_
  · exact fun j hj _ => (hd_keep hB' (Nat.lt_of_lt_of_le hj (by decide +kernel)) (by simp)).trans (hF j (Nat.lt_of_lt_of_le hj (by decide)))
theorem k0pf_23 {Ls : Nat} {xs : Nat → Int32} {d : Nat} {Q : Option Value → jm_h → Prop} (hd : 4 ≤ d) (F : Nat → sy_d) (X1 X2 : List jm_c) (hB : iv_in F iv_B0)
    (k0 : (sy_i F 82).toInt = 0 → ∀ F1 : Nat → sy_d, iv_in F1 iv_B0 → (∀ j, j < 82 → j ∉ ([] : List Nat) → F1 j = F j) → (sy_i F1 33).toInt = (sy_i F 33).toInt → (sy_i F1 34).toInt = (sy_i F 34).toInt → (sy_i F1 36).toInt = (sy_i F 36).toInt → (sy_i F1 37).toInt = (sy_i F 37).toInt → (sy_i F1 38).toInt = (sy_i F 38).toInt → (sy_i F1 18).toInt = (sy_i F 18).toInt → (sy_i F1 19).toInt = (sy_i F 19).toInt → sy_ai F1 39 = sy_ai F 39 → Q (some (.int ((0 : Int32)))) (sy_dh F1 X1 X2 (iv_H 0)))
    (k1 : (sy_i F 82).toInt ≠ 0 → ∀ F1 : Nat → sy_d, iv_in F1 iv_B0 → (∀ j, j < 82 → j ∉ ([] : List Nat) → F1 j = F j) → (sy_i F1 33).toInt = (sy_i F 33).toInt → (sy_i F1 34).toInt = (sy_i F 34).toInt → (sy_i F1 36).toInt = (sy_i F 36).toInt → (sy_i F1 37).toInt = (sy_i F 37).toInt → (sy_i F1 38).toInt = (sy_i F 38).toInt → (sy_i F1 18).toInt = (sy_i F 18).toInt → (sy_i F1 19).toInt = (sy_i F 19).toInt → sy_ai F1 39 = sy_ai F 39 → hd_W Ls xs d jm_M33 Q (27, sy_dL F1 [some (.inl (.ref 30)), none], sy_dS F1 [.inl (.ref 30)], sy_dh F1 X1 X2 (iv_H 0), 0, 0)) :
    hd_W Ls xs d jm_M33 Q (23, sy_dL F [some (.inl (.ref 30)), none], sy_dS F [.inr (.inl 82)], sy_dh F X1 X2 (iv_H 0), 0, 0) := by
  by_cases g0 : (sy_i F 82).toInt = 0
  · exact k0pf_23_p0 hd F X1 X2 hB (by first | exact g0 | (simp only [nz_c]; exact g0)) (fun F1 g  => k0 g0 F1 (nz_in0 hB [] (fun j hj hn => g j hj (by simp only [List.mem_cons, List.not_mem_nil, or_false, not_or] at hn; exact trivial)) (List.forall_mem_nil _)) (fun j hj hn => g j hj (by simp only [List.mem_cons, List.not_mem_nil, or_false, not_or] at hn; exact trivial)) (nz_fi (g 33 (by decide) (by decide))) (nz_fi (g 34 (by decide) (by decide))) (nz_fi (g 36 (by decide) (by decide))) (nz_fi (g 37 (by decide) (by decide))) (nz_fi (g 38 (by decide) (by decide))) (nz_fi (g 18 (by decide) (by decide))) (nz_fi (g 19 (by decide) (by decide))) (nz_fa (g 39 (by decide) (by decide))))
  replace g0 : (sy_i F 82).toInt ≠ 0 := by omega
  exact k0pf_23_p1 hd F X1 X2 hB (by first | exact g0 | (simp only [nz_c]; exact g0)) (fun F1 g  => k1 g0 F1 (nz_in0 hB [] (fun j hj hn => g j hj (by simp only [List.mem_cons, List.not_mem_nil, or_false, not_or] at hn; exact trivial)) (List.forall_mem_nil _)) (fun j hj hn => g j hj (by simp only [List.mem_cons, List.not_mem_nil, or_false, not_or] at hn; exact trivial)) (nz_fi (g 33 (by decide) (by decide))) (nz_fi (g 34 (by decide) (by decide))) (nz_fi (g 36 (by decide) (by decide))) (nz_fi (g 37 (by decide) (by decide))) (nz_fi (g 38 (by decide) (by decide))) (nz_fi (g 18 (by decide) (by decide))) (nz_fi (g 19 (by decide) (by decide))) (nz_fa (g 39 (by decide) (by decide))))
theorem k0pf_30_p0 {Ls : Nat} {xs : Nat → Int32} {d : Nat} {Q : Option Value → jm_h → Prop} (hd : 4 ≤ d) (F : Nat → sy_d) (X1 X2 : List jm_c) (hB : iv_in F iv_B0)
    (h0 : (sy_i F 82).toInt = 0)
    (k : ∀ F1 : Nat → sy_d, (∀ j, j < 82 → True → F1 j = F j) → Q (some (.int ((0 : Int32)))) (sy_dh F1 X1 X2 (iv_H 0))) :
    hd_W Ls xs d jm_M33 Q (30, sy_dL F [some (.inl (.ref 30)), none], sy_dS F [.inr (.inl 82)], sy_dh F X1 X2 (iv_H 0), 0, 0) := by
  refine hd_ret (s := 0) (nv := 83) (v := some (.inl (.int 0))) (uh := hd_ov (iv_id 0 iv_B0) []) (f := false) (sp := [38]) (d0 := 3) (O := [true]) (T := []) (P := [(0, .inr (.inl 82), .inl (.int 0))]) jm_ok33 (by decide +kernel) (by decide +kernel) hd F X1 X2 (fun F' hF hs => ?_)
  have b82 := hd_b (F := F) (F' := F') (k := 82) (hF 82 (by decide))
  have hB' : iv_in F' iv_B0 := iv_in_eq hB (fun j hj => hF j (Nat.lt_of_lt_of_le hj (by decide +kernel)))
  refine ⟨List.forall_mem_cons.mpr ⟨hd_p0 b82 rfl (by have hc : ((0) : Int32).toInt = 0 := (by decide); omega), fun _ h => absurd h List.not_mem_nil⟩, ?_⟩
  refine k _ ?_
  · exact fun j hj _ => (hd_keep hB' (Nat.lt_of_lt_of_le hj (by decide +kernel)) (by simp)).trans (hF j (Nat.lt_of_lt_of_le hj (by decide)))
theorem k0pf_30_p1 {Ls : Nat} {xs : Nat → Int32} {d : Nat} {Q : Option Value → jm_h → Prop} (hd : 4 ≤ d) (F : Nat → sy_d) (X1 X2 : List jm_c) (hB : iv_in F iv_B0)
    (h0 : (sy_i F 82).toInt ≠ 0)
    (k : ∀ F1 : Nat → sy_d, (∀ j, j < 82 → True → F1 j = F j) → hd_W Ls xs d jm_M33 Q (38, sy_dL F1 [some (.inl (.ref 30)), none], sy_dS F1 [.inl (.int 9), .inl (.int 0), .inl (.int 0), .inl (.ref 30)], sy_dh F1 X1 X2 (iv_H 0), 0, 0)) :
    hd_W Ls xs d jm_M33 Q (30, sy_dL F [some (.inl (.ref 30)), none], sy_dS F [.inr (.inl 82)], sy_dh F X1 X2 (iv_H 0), 0, 0) := by
  refine hd_run (s := 0) (nv := 83) (pc := 38) (L := [some (.inl (.ref 30)), none]) (S := [.inl (.int 9), .inl (.int 0), .inl (.int 0), .inl (.ref 30)]) (uh := hd_ov (iv_id 0 iv_B0) []) (ul := []) (f := false) (sp := [38]) (d0 := 3) (O := [false]) (T := []) (P := [(1, .inr (.inl 82), .inl (.int 0))]) jm_ok33 (by decide +kernel) (by decide +kernel) hd F X1 X2 (fun F' hF hs => ?_)
  have b82 := hd_b (F := F) (F' := F') (k := 82) (hF 82 (by decide))
  have hB' : iv_in F' iv_B0 := iv_in_eq hB (fun j hj => hF j (Nat.lt_of_lt_of_le hj (by decide +kernel)))
  refine ⟨List.forall_mem_cons.mpr ⟨hd_p1 b82 rfl (by have hc : ((0) : Int32).toInt = 0 := (by decide); omega), fun _ h => absurd h List.not_mem_nil⟩, ?_⟩
  refine k _ ?_
  · exact fun j hj _ => (hd_keep hB' (Nat.lt_of_lt_of_le hj (by decide +kernel)) (by simp)).trans (hF j (Nat.lt_of_lt_of_le hj (by decide)))
theorem k0pf_30 {Ls : Nat} {xs : Nat → Int32} {d : Nat} {Q : Option Value → jm_h → Prop} (hd : 4 ≤ d) (F : Nat → sy_d) (X1 X2 : List jm_c) (hB : iv_in F iv_B0)
    (k0 : (sy_i F 82).toInt = 0 → ∀ F1 : Nat → sy_d, iv_in F1 iv_B0 → (∀ j, j < 82 → j ∉ ([] : List Nat) → F1 j = F j) → (sy_i F1 33).toInt = (sy_i F 33).toInt → (sy_i F1 34).toInt = (sy_i F 34).toInt → (sy_i F1 36).toInt = (sy_i F 36).toInt → (sy_i F1 37).toInt = (sy_i F 37).toInt → (sy_i F1 38).toInt = (sy_i F 38).toInt → (sy_i F1 18).toInt = (sy_i F 18).toInt → (sy_i F1 19).toInt = (sy_i F 19).toInt → sy_ai F1 39 = sy_ai F 39 → Q (some (.int ((0 : Int32)))) (sy_dh F1 X1 X2 (iv_H 0)))
    (k1 : (sy_i F 82).toInt ≠ 0 → ∀ F1 : Nat → sy_d, iv_in F1 iv_B0 → (∀ j, j < 82 → j ∉ ([] : List Nat) → F1 j = F j) → (sy_i F1 33).toInt = (sy_i F 33).toInt → (sy_i F1 34).toInt = (sy_i F 34).toInt → (sy_i F1 36).toInt = (sy_i F 36).toInt → (sy_i F1 37).toInt = (sy_i F 37).toInt → (sy_i F1 38).toInt = (sy_i F 38).toInt → (sy_i F1 18).toInt = (sy_i F 18).toInt → (sy_i F1 19).toInt = (sy_i F 19).toInt → sy_ai F1 39 = sy_ai F 39 → hd_W Ls xs d jm_M33 Q (38, sy_dL F1 [some (.inl (.ref 30)), none], sy_dS F1 [.inl (.int 9), .inl (.int 0), .inl (.int 0), .inl (.ref 30)], sy_dh F1 X1 X2 (iv_H 0), 0, 0)) :
    hd_W Ls xs d jm_M33 Q (30, sy_dL F [some (.inl (.ref 30)), none], sy_dS F [.inr (.inl 82)], sy_dh F X1 X2 (iv_H 0), 0, 0) := by
  by_cases g0 : (sy_i F 82).toInt = 0
  · exact k0pf_30_p0 hd F X1 X2 hB (by first | exact g0 | (simp only [nz_c]; exact g0)) (fun F1 g  => k0 g0 F1 (nz_in0 hB [] (fun j hj hn => g j hj (by simp only [List.mem_cons, List.not_mem_nil, or_false, not_or] at hn; exact trivial)) (List.forall_mem_nil _)) (fun j hj hn => g j hj (by simp only [List.mem_cons, List.not_mem_nil, or_false, not_or] at hn; exact trivial)) (nz_fi (g 33 (by decide) (by decide))) (nz_fi (g 34 (by decide) (by decide))) (nz_fi (g 36 (by decide) (by decide))) (nz_fi (g 37 (by decide) (by decide))) (nz_fi (g 38 (by decide) (by decide))) (nz_fi (g 18 (by decide) (by decide))) (nz_fi (g 19 (by decide) (by decide))) (nz_fa (g 39 (by decide) (by decide))))
  replace g0 : (sy_i F 82).toInt ≠ 0 := by omega
  exact k0pf_30_p1 hd F X1 X2 hB (by first | exact g0 | (simp only [nz_c]; exact g0)) (fun F1 g  => k1 g0 F1 (nz_in0 hB [] (fun j hj hn => g j hj (by simp only [List.mem_cons, List.not_mem_nil, or_false, not_or] at hn; exact trivial)) (List.forall_mem_nil _)) (fun j hj hn => g j hj (by simp only [List.mem_cons, List.not_mem_nil, or_false, not_or] at hn; exact trivial)) (nz_fi (g 33 (by decide) (by decide))) (nz_fi (g 34 (by decide) (by decide))) (nz_fi (g 36 (by decide) (by decide))) (nz_fi (g 37 (by decide) (by decide))) (nz_fi (g 38 (by decide) (by decide))) (nz_fi (g 18 (by decide) (by decide))) (nz_fi (g 19 (by decide) (by decide))) (nz_fa (g 39 (by decide) (by decide))))
theorem k0pf_41_p0 {Ls : Nat} {xs : Nat → Int32} {d : Nat} {Q : Option Value → jm_h → Prop} (hd : 4 ≤ d) (F : Nat → sy_d) (X1 X2 : List jm_c) (hB : iv_in F iv_B0)
    (h0 : (sy_i F 82).toInt = 0)
    (k : ∀ F1 : Nat → sy_d, (∀ j, j < 82 → True → F1 j = F j) → Q (some (.int ((0 : Int32)))) (sy_dh F1 X1 X2 (iv_H 0))) :
    hd_W Ls xs d jm_M33 Q (41, sy_dL F [some (.inl (.ref 30)), none], sy_dS F [.inr (.inl 82)], sy_dh F X1 X2 (iv_H 0), 0, 0) := by
  refine hd_ret (s := 0) (nv := 83) (v := some (.inl (.int 0))) (uh := hd_ov (iv_id 0 iv_B0) []) (f := false) (sp := [49]) (d0 := 3) (O := [true]) (T := []) (P := [(0, .inr (.inl 82), .inl (.int 0))]) jm_ok33 (by decide +kernel) (by decide +kernel) hd F X1 X2 (fun F' hF hs => ?_)
  have b82 := hd_b (F := F) (F' := F') (k := 82) (hF 82 (by decide))
  have hB' : iv_in F' iv_B0 := iv_in_eq hB (fun j hj => hF j (Nat.lt_of_lt_of_le hj (by decide +kernel)))
  refine ⟨List.forall_mem_cons.mpr ⟨hd_p0 b82 rfl (by have hc : ((0) : Int32).toInt = 0 := (by decide); omega), fun _ h => absurd h List.not_mem_nil⟩, ?_⟩
  refine k _ ?_
  · exact fun j hj _ => (hd_keep hB' (Nat.lt_of_lt_of_le hj (by decide +kernel)) (by simp)).trans (hF j (Nat.lt_of_lt_of_le hj (by decide)))
theorem k0pf_41_p1 {Ls : Nat} {xs : Nat → Int32} {d : Nat} {Q : Option Value → jm_h → Prop} (hd : 4 ≤ d) (F : Nat → sy_d) (X1 X2 : List jm_c) (hB : iv_in F iv_B0)
    (h0 : (sy_i F 82).toInt ≠ 0)
    (k : ∀ F1 : Nat → sy_d, (∀ j, j < 82 → True → F1 j = F j) → hd_W Ls xs d jm_M33 Q (49, sy_dL F1 [some (.inl (.ref 30)), none], sy_dS F1 [.inl (.int 9), .inl (.int 1), .inl (.int 1), .inl (.ref 30)], sy_dh F1 X1 X2 (iv_H 0), 0, 0)) :
    hd_W Ls xs d jm_M33 Q (41, sy_dL F [some (.inl (.ref 30)), none], sy_dS F [.inr (.inl 82)], sy_dh F X1 X2 (iv_H 0), 0, 0) := by
  refine hd_run (s := 0) (nv := 83) (pc := 49) (L := [some (.inl (.ref 30)), none]) (S := [.inl (.int 9), .inl (.int 1), .inl (.int 1), .inl (.ref 30)]) (uh := hd_ov (iv_id 0 iv_B0) []) (ul := []) (f := false) (sp := [49]) (d0 := 3) (O := [false]) (T := []) (P := [(1, .inr (.inl 82), .inl (.int 0))]) jm_ok33 (by decide +kernel) (by decide +kernel) hd F X1 X2 (fun F' hF hs => ?_)
  have b82 := hd_b (F := F) (F' := F') (k := 82) (hF 82 (by decide))
  have hB' : iv_in F' iv_B0 := iv_in_eq hB (fun j hj => hF j (Nat.lt_of_lt_of_le hj (by decide +kernel)))
  refine ⟨List.forall_mem_cons.mpr ⟨hd_p1 b82 rfl (by have hc : ((0) : Int32).toInt = 0 := (by decide); omega), fun _ h => absurd h List.not_mem_nil⟩, ?_⟩
  refine k _ ?_
  · exact fun j hj _ => (hd_keep hB' (Nat.lt_of_lt_of_le hj (by decide +kernel)) (by simp)).trans (hF j (Nat.lt_of_lt_of_le hj (by decide)))
theorem k0pf_41 {Ls : Nat} {xs : Nat → Int32} {d : Nat} {Q : Option Value → jm_h → Prop} (hd : 4 ≤ d) (F : Nat → sy_d) (X1 X2 : List jm_c) (hB : iv_in F iv_B0)
    (k0 : (sy_i F 82).toInt = 0 → ∀ F1 : Nat → sy_d, iv_in F1 iv_B0 → (∀ j, j < 82 → j ∉ ([] : List Nat) → F1 j = F j) → (sy_i F1 33).toInt = (sy_i F 33).toInt → (sy_i F1 34).toInt = (sy_i F 34).toInt → (sy_i F1 36).toInt = (sy_i F 36).toInt → (sy_i F1 37).toInt = (sy_i F 37).toInt → (sy_i F1 38).toInt = (sy_i F 38).toInt → (sy_i F1 18).toInt = (sy_i F 18).toInt → (sy_i F1 19).toInt = (sy_i F 19).toInt → sy_ai F1 39 = sy_ai F 39 → Q (some (.int ((0 : Int32)))) (sy_dh F1 X1 X2 (iv_H 0)))
    (k1 : (sy_i F 82).toInt ≠ 0 → ∀ F1 : Nat → sy_d, iv_in F1 iv_B0 → (∀ j, j < 82 → j ∉ ([] : List Nat) → F1 j = F j) → (sy_i F1 33).toInt = (sy_i F 33).toInt → (sy_i F1 34).toInt = (sy_i F 34).toInt → (sy_i F1 36).toInt = (sy_i F 36).toInt → (sy_i F1 37).toInt = (sy_i F 37).toInt → (sy_i F1 38).toInt = (sy_i F 38).toInt → (sy_i F1 18).toInt = (sy_i F 18).toInt → (sy_i F1 19).toInt = (sy_i F 19).toInt → sy_ai F1 39 = sy_ai F 39 → hd_W Ls xs d jm_M33 Q (49, sy_dL F1 [some (.inl (.ref 30)), none], sy_dS F1 [.inl (.int 9), .inl (.int 1), .inl (.int 1), .inl (.ref 30)], sy_dh F1 X1 X2 (iv_H 0), 0, 0)) :
    hd_W Ls xs d jm_M33 Q (41, sy_dL F [some (.inl (.ref 30)), none], sy_dS F [.inr (.inl 82)], sy_dh F X1 X2 (iv_H 0), 0, 0) := by
  by_cases g0 : (sy_i F 82).toInt = 0
  · exact k0pf_41_p0 hd F X1 X2 hB (by first | exact g0 | (simp only [nz_c]; exact g0)) (fun F1 g  => k0 g0 F1 (nz_in0 hB [] (fun j hj hn => g j hj (by simp only [List.mem_cons, List.not_mem_nil, or_false, not_or] at hn; exact trivial)) (List.forall_mem_nil _)) (fun j hj hn => g j hj (by simp only [List.mem_cons, List.not_mem_nil, or_false, not_or] at hn; exact trivial)) (nz_fi (g 33 (by decide) (by decide))) (nz_fi (g 34 (by decide) (by decide))) (nz_fi (g 36 (by decide) (by decide))) (nz_fi (g 37 (by decide) (by decide))) (nz_fi (g 38 (by decide) (by decide))) (nz_fi (g 18 (by decide) (by decide))) (nz_fi (g 19 (by decide) (by decide))) (nz_fa (g 39 (by decide) (by decide))))
  replace g0 : (sy_i F 82).toInt ≠ 0 := by omega
  exact k0pf_41_p1 hd F X1 X2 hB (by first | exact g0 | (simp only [nz_c]; exact g0)) (fun F1 g  => k1 g0 F1 (nz_in0 hB [] (fun j hj hn => g j hj (by simp only [List.mem_cons, List.not_mem_nil, or_false, not_or] at hn; exact trivial)) (List.forall_mem_nil _)) (fun j hj hn => g j hj (by simp only [List.mem_cons, List.not_mem_nil, or_false, not_or] at hn; exact trivial)) (nz_fi (g 33 (by decide) (by decide))) (nz_fi (g 34 (by decide) (by decide))) (nz_fi (g 36 (by decide) (by decide))) (nz_fi (g 37 (by decide) (by decide))) (nz_fi (g 38 (by decide) (by decide))) (nz_fi (g 18 (by decide) (by decide))) (nz_fi (g 19 (by decide) (by decide))) (nz_fa (g 39 (by decide) (by decide))))
theorem k0pf_52_p0 {Ls : Nat} {xs : Nat → Int32} {d : Nat} {Q : Option Value → jm_h → Prop} (hd : 4 ≤ d) (F : Nat → sy_d) (X1 X2 : List jm_c) (hB : iv_in F iv_B0)
    (h0 : (sy_i F 82).toInt = 0)
    (k : ∀ F1 : Nat → sy_d, (∀ j, j < 82 → True → F1 j = F j) → Q (some (.int ((0 : Int32)))) (sy_dh F1 X1 X2 (iv_H 0))) :
    hd_W Ls xs d jm_M33 Q (52, sy_dL F [some (.inl (.ref 30)), none], sy_dS F [.inr (.inl 82)], sy_dh F X1 X2 (iv_H 0), 0, 0) := by
  refine hd_ret (s := 0) (nv := 83) (v := some (.inl (.int 0))) (uh := hd_ov (iv_id 0 iv_B0) []) (f := false) (sp := [60]) (d0 := 3) (O := [true]) (T := []) (P := [(0, .inr (.inl 82), .inl (.int 0))]) jm_ok33 (by decide +kernel) (by decide +kernel) hd F X1 X2 (fun F' hF hs => ?_)
  have b82 := hd_b (F := F) (F' := F') (k := 82) (hF 82 (by decide))
  have hB' : iv_in F' iv_B0 := iv_in_eq hB (fun j hj => hF j (Nat.lt_of_lt_of_le hj (by decide +kernel)))
  refine ⟨List.forall_mem_cons.mpr ⟨hd_p0 b82 rfl (by have hc : ((0) : Int32).toInt = 0 := (by decide); omega), fun _ h => absurd h List.not_mem_nil⟩, ?_⟩
  refine k _ ?_
  · exact fun j hj _ => (hd_keep hB' (Nat.lt_of_lt_of_le hj (by decide +kernel)) (by simp)).trans (hF j (Nat.lt_of_lt_of_le hj (by decide)))
theorem k0pf_52_p1 {Ls : Nat} {xs : Nat → Int32} {d : Nat} {Q : Option Value → jm_h → Prop} (hd : 4 ≤ d) (F : Nat → sy_d) (X1 X2 : List jm_c) (hB : iv_in F iv_B0)
    (h0 : (sy_i F 82).toInt ≠ 0)
    (k : ∀ F1 : Nat → sy_d, (∀ j, j < 82 → True → F1 j = F j) → hd_W Ls xs d jm_M33 Q (60, sy_dL F1 [some (.inl (.ref 30)), none], sy_dS F1 [.inl (.int 99), .inl (.int 0), .inl (.int 2), .inl (.ref 30)], sy_dh F1 X1 X2 (iv_H 0), 0, 0)) :
    hd_W Ls xs d jm_M33 Q (52, sy_dL F [some (.inl (.ref 30)), none], sy_dS F [.inr (.inl 82)], sy_dh F X1 X2 (iv_H 0), 0, 0) := by
  refine hd_run (s := 0) (nv := 83) (pc := 60) (L := [some (.inl (.ref 30)), none]) (S := [.inl (.int 99), .inl (.int 0), .inl (.int 2), .inl (.ref 30)]) (uh := hd_ov (iv_id 0 iv_B0) []) (ul := []) (f := false) (sp := [60]) (d0 := 3) (O := [false]) (T := []) (P := [(1, .inr (.inl 82), .inl (.int 0))]) jm_ok33 (by decide +kernel) (by decide +kernel) hd F X1 X2 (fun F' hF hs => ?_)
  have b82 := hd_b (F := F) (F' := F') (k := 82) (hF 82 (by decide))
  have hB' : iv_in F' iv_B0 := iv_in_eq hB (fun j hj => hF j (Nat.lt_of_lt_of_le hj (by decide +kernel)))
  refine ⟨List.forall_mem_cons.mpr ⟨hd_p1 b82 rfl (by have hc : ((0) : Int32).toInt = 0 := (by decide); omega), fun _ h => absurd h List.not_mem_nil⟩, ?_⟩
  refine k _ ?_
  · exact fun j hj _ => (hd_keep hB' (Nat.lt_of_lt_of_le hj (by decide +kernel)) (by simp)).trans (hF j (Nat.lt_of_lt_of_le hj (by decide)))
theorem k0pf_52 {Ls : Nat} {xs : Nat → Int32} {d : Nat} {Q : Option Value → jm_h → Prop} (hd : 4 ≤ d) (F : Nat → sy_d) (X1 X2 : List jm_c) (hB : iv_in F iv_B0)
    (k0 : (sy_i F 82).toInt = 0 → ∀ F1 : Nat → sy_d, iv_in F1 iv_B0 → (∀ j, j < 82 → j ∉ ([] : List Nat) → F1 j = F j) → (sy_i F1 33).toInt = (sy_i F 33).toInt → (sy_i F1 34).toInt = (sy_i F 34).toInt → (sy_i F1 36).toInt = (sy_i F 36).toInt → (sy_i F1 37).toInt = (sy_i F 37).toInt → (sy_i F1 38).toInt = (sy_i F 38).toInt → (sy_i F1 18).toInt = (sy_i F 18).toInt → (sy_i F1 19).toInt = (sy_i F 19).toInt → sy_ai F1 39 = sy_ai F 39 → Q (some (.int ((0 : Int32)))) (sy_dh F1 X1 X2 (iv_H 0)))
    (k1 : (sy_i F 82).toInt ≠ 0 → ∀ F1 : Nat → sy_d, iv_in F1 iv_B0 → (∀ j, j < 82 → j ∉ ([] : List Nat) → F1 j = F j) → (sy_i F1 33).toInt = (sy_i F 33).toInt → (sy_i F1 34).toInt = (sy_i F 34).toInt → (sy_i F1 36).toInt = (sy_i F 36).toInt → (sy_i F1 37).toInt = (sy_i F 37).toInt → (sy_i F1 38).toInt = (sy_i F 38).toInt → (sy_i F1 18).toInt = (sy_i F 18).toInt → (sy_i F1 19).toInt = (sy_i F 19).toInt → sy_ai F1 39 = sy_ai F 39 → hd_W Ls xs d jm_M33 Q (60, sy_dL F1 [some (.inl (.ref 30)), none], sy_dS F1 [.inl (.int 99), .inl (.int 0), .inl (.int 2), .inl (.ref 30)], sy_dh F1 X1 X2 (iv_H 0), 0, 0)) :
    hd_W Ls xs d jm_M33 Q (52, sy_dL F [some (.inl (.ref 30)), none], sy_dS F [.inr (.inl 82)], sy_dh F X1 X2 (iv_H 0), 0, 0) := by
  by_cases g0 : (sy_i F 82).toInt = 0
  · exact k0pf_52_p0 hd F X1 X2 hB (by first | exact g0 | (simp only [nz_c]; exact g0)) (fun F1 g  => k0 g0 F1 (nz_in0 hB [] (fun j hj hn => g j hj (by simp only [List.mem_cons, List.not_mem_nil, or_false, not_or] at hn; exact trivial)) (List.forall_mem_nil _)) (fun j hj hn => g j hj (by simp only [List.mem_cons, List.not_mem_nil, or_false, not_or] at hn; exact trivial)) (nz_fi (g 33 (by decide) (by decide))) (nz_fi (g 34 (by decide) (by decide))) (nz_fi (g 36 (by decide) (by decide))) (nz_fi (g 37 (by decide) (by decide))) (nz_fi (g 38 (by decide) (by decide))) (nz_fi (g 18 (by decide) (by decide))) (nz_fi (g 19 (by decide) (by decide))) (nz_fa (g 39 (by decide) (by decide))))
  replace g0 : (sy_i F 82).toInt ≠ 0 := by omega
  exact k0pf_52_p1 hd F X1 X2 hB (by first | exact g0 | (simp only [nz_c]; exact g0)) (fun F1 g  => k1 g0 F1 (nz_in0 hB [] (fun j hj hn => g j hj (by simp only [List.mem_cons, List.not_mem_nil, or_false, not_or] at hn; exact trivial)) (List.forall_mem_nil _)) (fun j hj hn => g j hj (by simp only [List.mem_cons, List.not_mem_nil, or_false, not_or] at hn; exact trivial)) (nz_fi (g 33 (by decide) (by decide))) (nz_fi (g 34 (by decide) (by decide))) (nz_fi (g 36 (by decide) (by decide))) (nz_fi (g 37 (by decide) (by decide))) (nz_fi (g 38 (by decide) (by decide))) (nz_fi (g 18 (by decide) (by decide))) (nz_fi (g 19 (by decide) (by decide))) (nz_fa (g 39 (by decide) (by decide))))
theorem k0pf_63_p0 {Ls : Nat} {xs : Nat → Int32} {d : Nat} {Q : Option Value → jm_h → Prop} (hd : 4 ≤ d) (F : Nat → sy_d) (X1 X2 : List jm_c) (hB : iv_in F iv_B0)
    (h0 : (sy_i F 82).toInt = 0)
    (k : ∀ F1 : Nat → sy_d, (∀ j, j < 82 → True → F1 j = F j) → Q (some (.int ((0 : Int32)))) (sy_dh F1 X1 X2 (iv_H 0))) :
    hd_W Ls xs d jm_M33 Q (63, sy_dL F [some (.inl (.ref 30)), none], sy_dS F [.inr (.inl 82)], sy_dh F X1 X2 (iv_H 0), 0, 0) := by
  refine hd_ret (s := 0) (nv := 83) (v := some (.inl (.int 0))) (uh := hd_ov (iv_id 0 iv_B0) []) (f := false) (sp := [69]) (d0 := 3) (O := [true]) (T := []) (P := [(0, .inr (.inl 82), .inl (.int 0))]) jm_ok33 (by decide +kernel) (by decide +kernel) hd F X1 X2 (fun F' hF hs => ?_)
  have b82 := hd_b (F := F) (F' := F') (k := 82) (hF 82 (by decide))
  have hB' : iv_in F' iv_B0 := iv_in_eq hB (fun j hj => hF j (Nat.lt_of_lt_of_le hj (by decide +kernel)))
  refine ⟨List.forall_mem_cons.mpr ⟨hd_p0 b82 rfl (by have hc : ((0) : Int32).toInt = 0 := (by decide); omega), fun _ h => absurd h List.not_mem_nil⟩, ?_⟩
  refine k _ ?_
  · exact fun j hj _ => (hd_keep hB' (Nat.lt_of_lt_of_le hj (by decide +kernel)) (by simp)).trans (hF j (Nat.lt_of_lt_of_le hj (by decide)))
theorem k0pf_63_p1 {Ls : Nat} {xs : Nat → Int32} {d : Nat} {Q : Option Value → jm_h → Prop} (hd : 4 ≤ d) (F : Nat → sy_d) (X1 X2 : List jm_c) (hB : iv_in F iv_B0)
    (h0 : (sy_i F 82).toInt ≠ 0)
    (k : ∀ F1 : Nat → sy_d, (∀ j, j < 82 → True → F1 j = F j) → hd_W Ls xs d jm_M33 Q (69, sy_dL F1 [some (.inl (.ref 30)), none], sy_dS F1 [.inl (.int 59), .inl (.ref 30)], sy_dh F1 X1 X2 (iv_H 0), 0, 0)) :
    hd_W Ls xs d jm_M33 Q (63, sy_dL F [some (.inl (.ref 30)), none], sy_dS F [.inr (.inl 82)], sy_dh F X1 X2 (iv_H 0), 0, 0) := by
  refine hd_run (s := 0) (nv := 83) (pc := 69) (L := [some (.inl (.ref 30)), none]) (S := [.inl (.int 59), .inl (.ref 30)]) (uh := hd_ov (iv_id 0 iv_B0) []) (ul := []) (f := false) (sp := [69]) (d0 := 3) (O := [false]) (T := []) (P := [(1, .inr (.inl 82), .inl (.int 0))]) jm_ok33 (by decide +kernel) (by decide +kernel) hd F X1 X2 (fun F' hF hs => ?_)
  have b82 := hd_b (F := F) (F' := F') (k := 82) (hF 82 (by decide))
  have hB' : iv_in F' iv_B0 := iv_in_eq hB (fun j hj => hF j (Nat.lt_of_lt_of_le hj (by decide +kernel)))
  refine ⟨List.forall_mem_cons.mpr ⟨hd_p1 b82 rfl (by have hc : ((0) : Int32).toInt = 0 := (by decide); omega), fun _ h => absurd h List.not_mem_nil⟩, ?_⟩
  refine k _ ?_
  · exact fun j hj _ => (hd_keep hB' (Nat.lt_of_lt_of_le hj (by decide +kernel)) (by simp)).trans (hF j (Nat.lt_of_lt_of_le hj (by decide)))
theorem k0pf_63 {Ls : Nat} {xs : Nat → Int32} {d : Nat} {Q : Option Value → jm_h → Prop} (hd : 4 ≤ d) (F : Nat → sy_d) (X1 X2 : List jm_c) (hB : iv_in F iv_B0)
    (k0 : (sy_i F 82).toInt = 0 → ∀ F1 : Nat → sy_d, iv_in F1 iv_B0 → (∀ j, j < 82 → j ∉ ([] : List Nat) → F1 j = F j) → (sy_i F1 33).toInt = (sy_i F 33).toInt → (sy_i F1 34).toInt = (sy_i F 34).toInt → (sy_i F1 36).toInt = (sy_i F 36).toInt → (sy_i F1 37).toInt = (sy_i F 37).toInt → (sy_i F1 38).toInt = (sy_i F 38).toInt → (sy_i F1 18).toInt = (sy_i F 18).toInt → (sy_i F1 19).toInt = (sy_i F 19).toInt → sy_ai F1 39 = sy_ai F 39 → Q (some (.int ((0 : Int32)))) (sy_dh F1 X1 X2 (iv_H 0)))
    (k1 : (sy_i F 82).toInt ≠ 0 → ∀ F1 : Nat → sy_d, iv_in F1 iv_B0 → (∀ j, j < 82 → j ∉ ([] : List Nat) → F1 j = F j) → (sy_i F1 33).toInt = (sy_i F 33).toInt → (sy_i F1 34).toInt = (sy_i F 34).toInt → (sy_i F1 36).toInt = (sy_i F 36).toInt → (sy_i F1 37).toInt = (sy_i F 37).toInt → (sy_i F1 38).toInt = (sy_i F 38).toInt → (sy_i F1 18).toInt = (sy_i F 18).toInt → (sy_i F1 19).toInt = (sy_i F 19).toInt → sy_ai F1 39 = sy_ai F 39 → hd_W Ls xs d jm_M33 Q (69, sy_dL F1 [some (.inl (.ref 30)), none], sy_dS F1 [.inl (.int 59), .inl (.ref 30)], sy_dh F1 X1 X2 (iv_H 0), 0, 0)) :
    hd_W Ls xs d jm_M33 Q (63, sy_dL F [some (.inl (.ref 30)), none], sy_dS F [.inr (.inl 82)], sy_dh F X1 X2 (iv_H 0), 0, 0) := by
  by_cases g0 : (sy_i F 82).toInt = 0
  · exact k0pf_63_p0 hd F X1 X2 hB (by first | exact g0 | (simp only [nz_c]; exact g0)) (fun F1 g  => k0 g0 F1 (nz_in0 hB [] (fun j hj hn => g j hj (by simp only [List.mem_cons, List.not_mem_nil, or_false, not_or] at hn; exact trivial)) (List.forall_mem_nil _)) (fun j hj hn => g j hj (by simp only [List.mem_cons, List.not_mem_nil, or_false, not_or] at hn; exact trivial)) (nz_fi (g 33 (by decide) (by decide))) (nz_fi (g 34 (by decide) (by decide))) (nz_fi (g 36 (by decide) (by decide))) (nz_fi (g 37 (by decide) (by decide))) (nz_fi (g 38 (by decide) (by decide))) (nz_fi (g 18 (by decide) (by decide))) (nz_fi (g 19 (by decide) (by decide))) (nz_fa (g 39 (by decide) (by decide))))
  replace g0 : (sy_i F 82).toInt ≠ 0 := by omega
  exact k0pf_63_p1 hd F X1 X2 hB (by first | exact g0 | (simp only [nz_c]; exact g0)) (fun F1 g  => k1 g0 F1 (nz_in0 hB [] (fun j hj hn => g j hj (by simp only [List.mem_cons, List.not_mem_nil, or_false, not_or] at hn; exact trivial)) (List.forall_mem_nil _)) (fun j hj hn => g j hj (by simp only [List.mem_cons, List.not_mem_nil, or_false, not_or] at hn; exact trivial)) (nz_fi (g 33 (by decide) (by decide))) (nz_fi (g 34 (by decide) (by decide))) (nz_fi (g 36 (by decide) (by decide))) (nz_fi (g 37 (by decide) (by decide))) (nz_fi (g 38 (by decide) (by decide))) (nz_fi (g 18 (by decide) (by decide))) (nz_fi (g 19 (by decide) (by decide))) (nz_fa (g 39 (by decide) (by decide))))
theorem k0pf_72_p0 {Ls : Nat} {xs : Nat → Int32} {d : Nat} {Q : Option Value → jm_h → Prop} (hd : 4 ≤ d) (F : Nat → sy_d) (X1 X2 : List jm_c) (hB : iv_in F iv_B0)
    (h0 : (sy_i F 82).toInt = 0)
    (k : ∀ F1 : Nat → sy_d, (∀ j, j < 82 → True → F1 j = F j) → Q (some (.int ((0 : Int32)))) (sy_dh F1 X1 X2 (iv_H 0))) :
    hd_W Ls xs d jm_M33 Q (72, sy_dL F [some (.inl (.ref 30)), none], sy_dS F [.inr (.inl 82)], sy_dh F X1 X2 (iv_H 0), 0, 0) := by
  refine hd_ret (s := 0) (nv := 83) (v := some (.inl (.int 0))) (uh := hd_ov (iv_id 0 iv_B0) []) (f := false) (sp := []) (d0 := 3) (O := [true]) (T := []) (P := [(0, .inr (.inl 82), .inl (.int 0))]) jm_ok33 (by decide +kernel) (by decide +kernel) hd F X1 X2 (fun F' hF hs => ?_)
  have b82 := hd_b (F := F) (F' := F') (k := 82) (hF 82 (by decide))
  have hB' : iv_in F' iv_B0 := iv_in_eq hB (fun j hj => hF j (Nat.lt_of_lt_of_le hj (by decide +kernel)))
  refine ⟨List.forall_mem_cons.mpr ⟨hd_p0 b82 rfl (by have hc : ((0) : Int32).toInt = 0 := (by decide); omega), fun _ h => absurd h List.not_mem_nil⟩, ?_⟩
  refine k _ ?_
  · exact fun j hj _ => (hd_keep hB' (Nat.lt_of_lt_of_le hj (by decide +kernel)) (by simp)).trans (hF j (Nat.lt_of_lt_of_le hj (by decide)))
theorem k0pf_72_p1 {Ls : Nat} {xs : Nat → Int32} {d : Nat} {Q : Option Value → jm_h → Prop} (hd : 4 ≤ d) (F : Nat → sy_d) (X1 X2 : List jm_c) (hB : iv_in F iv_B0)
    (h0 : (sy_i F 82).toInt ≠ 0)
    (h1 : 7 ≤ (sy_i F 18).toInt)
    (k : ∀ F1 : Nat → sy_d, (∀ j, j < 82 → True → F1 j = F j) → Q (some (.int ((1 : Int32)))) (sy_dh F1 X1 X2 (iv_H 0))) :
    hd_W Ls xs d jm_M33 Q (72, sy_dL F [some (.inl (.ref 30)), none], sy_dS F [.inr (.inl 82)], sy_dh F X1 X2 (iv_H 0), 0, 0) := by
  refine hd_ret (s := 0) (nv := 83) (v := some (.inl (.int 1))) (uh := hd_ov (iv_id 0 iv_B0) []) (f := false) (sp := []) (d0 := 3) (O := [false, true]) (T := []) (P := [(1, .inr (.inl 82), .inl (.int 0)), (4, .inl (.int 7), .inr (.inl 18))]) jm_ok33 (by decide +kernel) (by decide +kernel) hd F X1 X2 (fun F' hF hs => ?_)
  have b82 := hd_b (F := F) (F' := F') (k := 82) (hF 82 (by decide))
  have b18 := hd_b (F := F) (F' := F') (k := 18) (hF 18 (by decide))
  have hB' : iv_in F' iv_B0 := iv_in_eq hB (fun j hj => hF j (Nat.lt_of_lt_of_le hj (by decide +kernel)))
  refine ⟨List.forall_mem_cons.mpr ⟨hd_p1 b82 rfl (by have hc : ((0) : Int32).toInt = 0 := (by decide); omega), List.forall_mem_cons.mpr ⟨hd_p4 rfl b18 (by have hc : ((7) : Int32).toInt = 7 := (by decide); omega), fun _ h => absurd h List.not_mem_nil⟩⟩, ?_⟩
  refine k _ ?_
  · exact fun j hj _ => (hd_keep hB' (Nat.lt_of_lt_of_le hj (by decide +kernel)) (by simp)).trans (hF j (Nat.lt_of_lt_of_le hj (by decide)))
theorem k0pf_72_p2 {Ls : Nat} {xs : Nat → Int32} {d : Nat} {Q : Option Value → jm_h → Prop} (hd : 4 ≤ d) (F : Nat → sy_d) (X1 X2 : List jm_c) (hB : iv_in F iv_B0)
    (h0 : (sy_i F 82).toInt ≠ 0)
    (h1 : (sy_i F 18).toInt < 7)
    (h2 : 0 ≤ (sy_i F 18).toInt ∧ (sy_i F 18).toInt < 7)
    (h3 : 0 ≤ (sy_i F 18).toInt ∧ (sy_i F 18).toInt < 7)
    (h4 : 0 ≤ (sy_i F 18).toInt ∧ (sy_i F 18).toInt < 7)
    (k : ∀ F1 : Nat → sy_d, (∀ j, j < 82 → j ≠ 18 ∧ j ≠ 24 ∧ j ≠ 25 ∧ j ≠ 26 → F1 j = F j) → F1 18 = .inl (.int ((sy_i F 18) + ((1 : Int32)))) → F1 24 = .inr (.inl (jm_upd (sy_ai F 24) (sy_i F 18).toNatClampNeg ((sy_ai F 44).getD ((0 : Int32)).toNatClampNeg 0))) → F1 25 = .inr (.inl (jm_upd (sy_ai F 25) (sy_i F 18).toNatClampNeg ((sy_ai F 44).getD ((1 : Int32)).toNatClampNeg 0))) → F1 26 = .inr (.inl (jm_upd (sy_ai F 26) (sy_i F 18).toNatClampNeg ((sy_ai F 44).getD ((2 : Int32)).toNatClampNeg 0))) → Q (some (.int ((1 : Int32)))) (sy_dh F1 X1 X2 (iv_H 0))) :
    hd_W Ls xs d jm_M33 Q (72, sy_dL F [some (.inl (.ref 30)), none], sy_dS F [.inr (.inl 82)], sy_dh F X1 X2 (iv_H 0), 0, 0) := by
  refine hd_ret (s := 0) (nv := 83) (v := some (.inl (.int 1))) (uh := hd_ov (iv_id 0 iv_B0) [(18, .inl (.inr (.inl 89))), (24, .inr (.inr (.inl 84))), (25, .inr (.inr (.inl 86))), (26, .inr (.inr (.inl 88)))]) (f := false) (sp := []) (d0 := 3) (O := [false, false]) (T := [(30, [.inl (.int 0)], [.inr (.inl 44)]), (40, [.inr (.inl 18), .inr (.inl 83)], [.inr (.inl 24)]), (30, [.inl (.int 1)], [.inr (.inl 44)]), (40, [.inr (.inl 18), .inr (.inl 85)], [.inr (.inl 25)]), (30, [.inl (.int 2)], [.inr (.inl 44)]), (40, [.inr (.inl 18), .inr (.inl 87)], [.inr (.inl 26)]), (0, [.inr (.inl 18), .inl (.int 1)], [])]) (P := [(1, .inr (.inl 82), .inl (.int 0)), (5, .inl (.int 7), .inr (.inl 18)), (6, .inr (.inl 18), .inl (.ref 7)), (6, .inr (.inl 18), .inl (.ref 7)), (6, .inr (.inl 18), .inl (.ref 7))]) jm_ok33 (by decide +kernel) (by decide +kernel) hd F X1 X2 (fun F' hF hs => ?_)
  have b82 := hd_b (F := F) (F' := F') (k := 82) (hF 82 (by decide))
  have b18 := hd_b (F := F) (F' := F') (k := 18) (hF 18 (by decide))
  have t89 : sy_dv F' (.inr (.inl 89)) = .int ((sy_i F 18) + ((1 : Int32))) := hd_o (hs 6 _ rfl) b18 rfl rfl
  have a44 := hd_ba (F := F) (F' := F') (k := 44) (hF 44 (by decide))
  have t83 : sy_dv F' (.inr (.inl 83)) = .int ((sy_ai F 44).getD ((0 : Int32)).toNatClampNeg 0) := hd_rd (hs 0 _ rfl) rfl a44
  have a24 := hd_ba (F := F) (F' := F') (k := 24) (hF 24 (by decide))
  have t84 : sy_da F' (.inr (.inl 84)) = .inl (jm_upd (sy_ai F 24) (sy_i F 18).toNatClampNeg ((sy_ai F 44).getD ((0 : Int32)).toNatClampNeg 0)) := hd_up (hs 1 _ rfl) b18 t83 a24
  have t85 : sy_dv F' (.inr (.inl 85)) = .int ((sy_ai F 44).getD ((1 : Int32)).toNatClampNeg 0) := hd_rd (hs 2 _ rfl) rfl a44
  have a25 := hd_ba (F := F) (F' := F') (k := 25) (hF 25 (by decide))
  have t86 : sy_da F' (.inr (.inl 86)) = .inl (jm_upd (sy_ai F 25) (sy_i F 18).toNatClampNeg ((sy_ai F 44).getD ((1 : Int32)).toNatClampNeg 0)) := hd_up (hs 3 _ rfl) b18 t85 a25
  have t87 : sy_dv F' (.inr (.inl 87)) = .int ((sy_ai F 44).getD ((2 : Int32)).toNatClampNeg 0) := hd_rd (hs 4 _ rfl) rfl a44
  have a26 := hd_ba (F := F) (F' := F') (k := 26) (hF 26 (by decide))
  have t88 : sy_da F' (.inr (.inl 88)) = .inl (jm_upd (sy_ai F 26) (sy_i F 18).toNatClampNeg ((sy_ai F 44).getD ((2 : Int32)).toNatClampNeg 0)) := hd_up (hs 5 _ rfl) b18 t87 a26
  have hB' : iv_in F' iv_B0 := iv_in_eq hB (fun j hj => hF j (Nat.lt_of_lt_of_le hj (by decide +kernel)))
  refine ⟨List.forall_mem_cons.mpr ⟨hd_p1 b82 rfl (by have hc : ((0) : Int32).toInt = 0 := (by decide); omega), List.forall_mem_cons.mpr ⟨hd_p5 rfl b18 (by have hc : ((7) : Int32).toInt = 7 := (by decide); omega), List.forall_mem_cons.mpr ⟨hd_pb b18 (by first | exact h2 | exact h2), List.forall_mem_cons.mpr ⟨hd_pb b18 (by first | exact h3 | exact h3), List.forall_mem_cons.mpr ⟨hd_pb b18 (by first | exact h4 | exact h4), fun _ h => absurd h List.not_mem_nil⟩⟩⟩⟩⟩, ?_⟩
  refine k _ ?_ ?_ ?_ ?_ ?_
  · exact fun j hj hn => (hd_keep hB' (Nat.lt_of_lt_of_le hj (by decide +kernel)) (by simp; omega)).trans (hF j (Nat.lt_of_lt_of_le hj (by decide)))
  · exact hd_gi (x := .inr (.inl 89)) (by decide +kernel) t89
  · exact hd_ga (a := .inr (.inl 84)) (by decide +kernel) t84
  · exact hd_ga (a := .inr (.inl 86)) (by decide +kernel) t86
  · exact hd_ga (a := .inr (.inl 88)) (by decide +kernel) t88
theorem k0pb_0_p0 {Ls : Nat} {xs : Nat → Int32} {d : Nat} {Q : Option Value → jm_h → Prop} (hd : 4 ≤ d) (F : Nat → sy_d) (X1 X2 : List jm_c) (hB : iv_in F iv_B0)
    (h0 : (sy_i F 19).toInt < 4)
    (k : ∀ F1 : Nat → sy_d, (∀ j, j < 82 → True → F1 j = F j) → hd_W Ls xs d jm_M34 Q (19, sy_dL F1 [some (.inl (.ref 30)), none], sy_dS F1 [.inl (.int 1), .inl (.ref 30)], sy_dh F1 X1 X2 (iv_H 0), 0, 0)) :
    hd_W Ls xs d jm_M34 Q (0, sy_dL F [some (.inl (.ref 30)), none], sy_dS F [], sy_dh F X1 X2 (iv_H 0), 0, 0) := by
  refine hd_run (s := 0) (nv := 82) (pc := 19) (L := [some (.inl (.ref 30)), none]) (S := [.inl (.int 1), .inl (.ref 30)]) (uh := hd_ov (iv_id 0 iv_B0) []) (ul := []) (f := true) (sp := [19]) (d0 := 3) (O := [true]) (T := []) (P := [(2, .inr (.inl 19), .inl (.int 4))]) jm_ok34 (by decide +kernel) (by decide +kernel) hd F X1 X2 (fun F' hF hs => ?_)
  have b19 := hd_b (F := F) (F' := F') (k := 19) (hF 19 (by decide))
  have hB' : iv_in F' iv_B0 := iv_in_eq hB (fun j hj => hF j (Nat.lt_of_lt_of_le hj (by decide +kernel)))
  refine ⟨List.forall_mem_cons.mpr ⟨hd_p2 b19 rfl (by have hc : ((4) : Int32).toInt = 4 := (by decide); omega), fun _ h => absurd h List.not_mem_nil⟩, ?_⟩
  refine k _ ?_
  · exact fun j hj _ => (hd_keep hB' (Nat.lt_of_lt_of_le hj (by decide +kernel)) (by simp)).trans (hF j (Nat.lt_of_lt_of_le hj (by decide)))
theorem k0pb_0_p1 {Ls : Nat} {xs : Nat → Int32} {d : Nat} {Q : Option Value → jm_h → Prop} (hd : 4 ≤ d) (F : Nat → sy_d) (X1 X2 : List jm_c) (hB : iv_in F iv_B0)
    (h0 : 4 ≤ (sy_i F 19).toInt)
    (k : ∀ F1 : Nat → sy_d, (∀ j, j < 82 → j ≠ 34 → F1 j = F j) → F1 34 = .inl (.int ((2 : Int32))) → Q (some (.int ((0 : Int32)))) (sy_dh F1 X1 X2 (iv_H 0))) :
    hd_W Ls xs d jm_M34 Q (0, sy_dL F [some (.inl (.ref 30)), none], sy_dS F [], sy_dh F X1 X2 (iv_H 0), 0, 0) := by
  refine hd_ret (s := 0) (nv := 82) (v := some (.inl (.int 0))) (uh := hd_ov (iv_id 0 iv_B0) [(34, .inl (.inl (.int 2)))]) (f := true) (sp := [19]) (d0 := 3) (O := [false]) (T := []) (P := [(3, .inr (.inl 19), .inl (.int 4))]) jm_ok34 (by decide +kernel) (by decide +kernel) hd F X1 X2 (fun F' hF hs => ?_)
  have b19 := hd_b (F := F) (F' := F') (k := 19) (hF 19 (by decide))
  have hB' : iv_in F' iv_B0 := iv_in_eq hB (fun j hj => hF j (Nat.lt_of_lt_of_le hj (by decide +kernel)))
  refine ⟨List.forall_mem_cons.mpr ⟨hd_p3 b19 rfl (by have hc : ((4) : Int32).toInt = 4 := (by decide); omega), fun _ h => absurd h List.not_mem_nil⟩, ?_⟩
  refine k _ ?_ ?_
  · exact fun j hj hn => (hd_keep hB' (Nat.lt_of_lt_of_le hj (by decide +kernel)) (by simp; omega)).trans (hF j (Nat.lt_of_lt_of_le hj (by decide)))
  · exact hd_gi (x := .inl (.int 2)) (by decide +kernel) rfl
theorem k0pb_0 {Ls : Nat} {xs : Nat → Int32} {d : Nat} {Q : Option Value → jm_h → Prop} (hd : 4 ≤ d) (F : Nat → sy_d) (X1 X2 : List jm_c) (hB : iv_in F iv_B0)
    (k0 : (sy_i F 19).toInt < 4 → ∀ F1 : Nat → sy_d, iv_in F1 iv_B0 → (∀ j, j < 82 → j ∉ ([] : List Nat) → F1 j = F j) → (sy_i F1 33).toInt = (sy_i F 33).toInt → (sy_i F1 34).toInt = (sy_i F 34).toInt → (sy_i F1 36).toInt = (sy_i F 36).toInt → (sy_i F1 37).toInt = (sy_i F 37).toInt → (sy_i F1 38).toInt = (sy_i F 38).toInt → (sy_i F1 18).toInt = (sy_i F 18).toInt → (sy_i F1 19).toInt = (sy_i F 19).toInt → sy_ai F1 39 = sy_ai F 39 → hd_W Ls xs d jm_M34 Q (19, sy_dL F1 [some (.inl (.ref 30)), none], sy_dS F1 [.inl (.int 1), .inl (.ref 30)], sy_dh F1 X1 X2 (iv_H 0), 0, 0))
    (k1 : 4 ≤ (sy_i F 19).toInt → ∀ F1 : Nat → sy_d, iv_in F1 iv_B0 → (∀ j, j < 82 → j ∉ ([34] : List Nat) → F1 j = F j) → (sy_i F1 33).toInt = (sy_i F 33).toInt → (sy_i F1 34).toInt = 2 → (sy_i F1 36).toInt = (sy_i F 36).toInt → (sy_i F1 37).toInt = (sy_i F 37).toInt → (sy_i F1 38).toInt = (sy_i F 38).toInt → (sy_i F1 18).toInt = (sy_i F 18).toInt → (sy_i F1 19).toInt = (sy_i F 19).toInt → sy_ai F1 39 = sy_ai F 39 → Q (some (.int ((0 : Int32)))) (sy_dh F1 X1 X2 (iv_H 0))) :
    hd_W Ls xs d jm_M34 Q (0, sy_dL F [some (.inl (.ref 30)), none], sy_dS F [], sy_dh F X1 X2 (iv_H 0), 0, 0) := by
  by_cases g0 : (sy_i F 19).toInt < 4
  · have c19 := nz_bx hB (k := 19) (lo := 0) (hi := 4) rfl
    exact k0pb_0_p0 hd F X1 X2 hB (by first | exact g0 | (simp only [nz_c]; exact g0)) (fun F1 g  => k0 g0 F1 (nz_in0 hB [] (fun j hj hn => g j hj (by simp only [List.mem_cons, List.not_mem_nil, or_false, not_or] at hn; exact trivial)) (List.forall_mem_nil _)) (fun j hj hn => g j hj (by simp only [List.mem_cons, List.not_mem_nil, or_false, not_or] at hn; exact trivial)) (nz_fi (g 33 (by decide) (by decide))) (nz_fi (g 34 (by decide) (by decide))) (nz_fi (g 36 (by decide) (by decide))) (nz_fi (g 37 (by decide) (by decide))) (nz_fi (g 38 (by decide) (by decide))) (nz_fi (g 18 (by decide) (by decide))) (nz_fi (g 19 (by decide) (by decide))) (nz_fa (g 39 (by decide) (by decide))))
  replace g0 : 4 ≤ (sy_i F 19).toInt := by omega
  have c19 := nz_bx hB (k := 19) (lo := 0) (hi := 4) rfl
  exact k0pb_0_p1 hd F X1 X2 hB (by first | exact g0 | (simp only [nz_c]; exact g0)) (fun F1 g e34 => k1 g0 F1 (nz_in0 hB [34] (fun j hj hn => g j hj (by simp only [List.mem_cons, List.not_mem_nil, or_false, not_or] at hn; omega)) (List.forall_mem_cons.mpr ⟨fun t ht => (Option.some.inj ht) ▸ (nz_hz e34), List.forall_mem_nil _⟩)) (fun j hj hn => g j hj (by simp only [List.mem_cons, List.not_mem_nil, or_false, not_or] at hn; omega)) (nz_fi (g 33 (by decide) (by decide))) ((congrArg Int32.toInt (zz_i e34)).trans (by decide : ((2 : Int32)).toInt = 2)) (nz_fi (g 36 (by decide) (by decide))) (nz_fi (g 37 (by decide) (by decide))) (nz_fi (g 38 (by decide) (by decide))) (nz_fi (g 18 (by decide) (by decide))) (nz_fi (g 19 (by decide) (by decide))) (nz_fa (g 39 (by decide) (by decide))))
theorem k0pb_22_p0 {Ls : Nat} {xs : Nat → Int32} {d : Nat} {Q : Option Value → jm_h → Prop} (hd : 4 ≤ d) (F : Nat → sy_d) (X1 X2 : List jm_c) (hB : iv_in F iv_B0)
    (h0 : (sy_i F 82).toInt = 0)
    (k : ∀ F1 : Nat → sy_d, (∀ j, j < 82 → True → F1 j = F j) → Q (some (.int ((0 : Int32)))) (sy_dh F1 X1 X2 (iv_H 0))) :
    hd_W Ls xs d jm_M34 Q (22, sy_dL F [some (.inl (.ref 30)), none], sy_dS F [.inr (.inl 82)], sy_dh F X1 X2 (iv_H 0), 0, 0) := by
  refine hd_ret (s := 0) (nv := 83) (v := some (.inl (.int 0))) (uh := hd_ov (iv_id 0 iv_B0) []) (f := false) (sp := [26]) (d0 := 3) (O := [true]) (T := []) (P := [(0, .inr (.inl 82), .inl (.int 0))]) jm_ok34 (by decide +kernel) (by decide +kernel) hd F X1 X2 (fun F' hF hs => ?_)
  have b82 := hd_b (F := F) (F' := F') (k := 82) (hF 82 (by decide))
  have hB' : iv_in F' iv_B0 := iv_in_eq hB (fun j hj => hF j (Nat.lt_of_lt_of_le hj (by decide +kernel)))
  refine ⟨List.forall_mem_cons.mpr ⟨hd_p0 b82 rfl (by have hc : ((0) : Int32).toInt = 0 := (by decide); omega), fun _ h => absurd h List.not_mem_nil⟩, ?_⟩
  refine k _ ?_
  · exact fun j hj _ => (hd_keep hB' (Nat.lt_of_lt_of_le hj (by decide +kernel)) (by simp)).trans (hF j (Nat.lt_of_lt_of_le hj (by decide)))
theorem k0pb_22_p1 {Ls : Nat} {xs : Nat → Int32} {d : Nat} {Q : Option Value → jm_h → Prop} (hd : 4 ≤ d) (F : Nat → sy_d) (X1 X2 : List jm_c) (hB : iv_in F iv_B0)
    (h0 : (sy_i F 82).toInt ≠ 0)
    (k : ∀ F1 : Nat → sy_d, (∀ j, j < 82 → True → F1 j = F j) → hd_W Ls xs d jm_M34 Q (26, sy_dL F1 [some (.inl (.ref 30)), none], sy_dS F1 [.inl (.ref 30)], sy_dh F1 X1 X2 (iv_H 0), 0, 0)) :
    hd_W Ls xs d jm_M34 Q (22, sy_dL F [some (.inl (.ref 30)), none], sy_dS F [.inr (.inl 82)], sy_dh F X1 X2 (iv_H 0), 0, 0) := by
  refine hd_run (s := 0) (nv := 83) (pc := 26) (L := [some (.inl (.ref 30)), none]) (S := [.inl (.ref 30)]) (uh := hd_ov (iv_id 0 iv_B0) []) (ul := []) (f := false) (sp := [26]) (d0 := 3) (O := [false]) (T := []) (P := [(1, .inr (.inl 82), .inl (.int 0))]) jm_ok34 (by decide +kernel) (by decide +kernel) hd F X1 X2 (fun F' hF hs => ?_)
  have b82 := hd_b (F := F) (F' := F') (k := 82) (hF 82 (by decide))
  have hB' : iv_in F' iv_B0 := iv_in_eq hB (fun j hj => hF j (Nat.lt_of_lt_of_le hj (by decide +kernel)))
  refine ⟨List.forall_mem_cons.mpr ⟨hd_p1 b82 rfl (by have hc : ((0) : Int32).toInt = 0 := (by decide); omega), fun _ h => absurd h List.not_mem_nil⟩, ?_⟩
  refine k _ ?_
  · exact fun j hj _ => (hd_keep hB' (Nat.lt_of_lt_of_le hj (by decide +kernel)) (by simp)).trans (hF j (Nat.lt_of_lt_of_le hj (by decide)))
theorem k0pb_22 {Ls : Nat} {xs : Nat → Int32} {d : Nat} {Q : Option Value → jm_h → Prop} (hd : 4 ≤ d) (F : Nat → sy_d) (X1 X2 : List jm_c) (hB : iv_in F iv_B0)
    (k0 : (sy_i F 82).toInt = 0 → ∀ F1 : Nat → sy_d, iv_in F1 iv_B0 → (∀ j, j < 82 → j ∉ ([] : List Nat) → F1 j = F j) → (sy_i F1 33).toInt = (sy_i F 33).toInt → (sy_i F1 34).toInt = (sy_i F 34).toInt → (sy_i F1 36).toInt = (sy_i F 36).toInt → (sy_i F1 37).toInt = (sy_i F 37).toInt → (sy_i F1 38).toInt = (sy_i F 38).toInt → (sy_i F1 18).toInt = (sy_i F 18).toInt → (sy_i F1 19).toInt = (sy_i F 19).toInt → sy_ai F1 39 = sy_ai F 39 → Q (some (.int ((0 : Int32)))) (sy_dh F1 X1 X2 (iv_H 0)))
    (k1 : (sy_i F 82).toInt ≠ 0 → ∀ F1 : Nat → sy_d, iv_in F1 iv_B0 → (∀ j, j < 82 → j ∉ ([] : List Nat) → F1 j = F j) → (sy_i F1 33).toInt = (sy_i F 33).toInt → (sy_i F1 34).toInt = (sy_i F 34).toInt → (sy_i F1 36).toInt = (sy_i F 36).toInt → (sy_i F1 37).toInt = (sy_i F 37).toInt → (sy_i F1 38).toInt = (sy_i F 38).toInt → (sy_i F1 18).toInt = (sy_i F 18).toInt → (sy_i F1 19).toInt = (sy_i F 19).toInt → sy_ai F1 39 = sy_ai F 39 → hd_W Ls xs d jm_M34 Q (26, sy_dL F1 [some (.inl (.ref 30)), none], sy_dS F1 [.inl (.ref 30)], sy_dh F1 X1 X2 (iv_H 0), 0, 0)) :
    hd_W Ls xs d jm_M34 Q (22, sy_dL F [some (.inl (.ref 30)), none], sy_dS F [.inr (.inl 82)], sy_dh F X1 X2 (iv_H 0), 0, 0) := by
  by_cases g0 : (sy_i F 82).toInt = 0
  · exact k0pb_22_p0 hd F X1 X2 hB (by first | exact g0 | (simp only [nz_c]; exact g0)) (fun F1 g  => k0 g0 F1 (nz_in0 hB [] (fun j hj hn => g j hj (by simp only [List.mem_cons, List.not_mem_nil, or_false, not_or] at hn; exact trivial)) (List.forall_mem_nil _)) (fun j hj hn => g j hj (by simp only [List.mem_cons, List.not_mem_nil, or_false, not_or] at hn; exact trivial)) (nz_fi (g 33 (by decide) (by decide))) (nz_fi (g 34 (by decide) (by decide))) (nz_fi (g 36 (by decide) (by decide))) (nz_fi (g 37 (by decide) (by decide))) (nz_fi (g 38 (by decide) (by decide))) (nz_fi (g 18 (by decide) (by decide))) (nz_fi (g 19 (by decide) (by decide))) (nz_fa (g 39 (by decide) (by decide))))
  replace g0 : (sy_i F 82).toInt ≠ 0 := by omega
  exact k0pb_22_p1 hd F X1 X2 hB (by first | exact g0 | (simp only [nz_c]; exact g0)) (fun F1 g  => k1 g0 F1 (nz_in0 hB [] (fun j hj hn => g j hj (by simp only [List.mem_cons, List.not_mem_nil, or_false, not_or] at hn; exact trivial)) (List.forall_mem_nil _)) (fun j hj hn => g j hj (by simp only [List.mem_cons, List.not_mem_nil, or_false, not_or] at hn; exact trivial)) (nz_fi (g 33 (by decide) (by decide))) (nz_fi (g 34 (by decide) (by decide))) (nz_fi (g 36 (by decide) (by decide))) (nz_fi (g 37 (by decide) (by decide))) (nz_fi (g 38 (by decide) (by decide))) (nz_fi (g 18 (by decide) (by decide))) (nz_fi (g 19 (by decide) (by decide))) (nz_fa (g 39 (by decide) (by decide))))
theorem k0pb_29_p0 {Ls : Nat} {xs : Nat → Int32} {d : Nat} {Q : Option Value → jm_h → Prop} (hd : 4 ≤ d) (F : Nat → sy_d) (X1 X2 : List jm_c) (hB : iv_in F iv_B0)
    (h0 : (sy_i F 82).toInt = 0)
    (k : ∀ F1 : Nat → sy_d, (∀ j, j < 82 → True → F1 j = F j) → Q (some (.int ((0 : Int32)))) (sy_dh F1 X1 X2 (iv_H 0))) :
    hd_W Ls xs d jm_M34 Q (29, sy_dL F [some (.inl (.ref 30)), none], sy_dS F [.inr (.inl 82)], sy_dh F X1 X2 (iv_H 0), 0, 0) := by
  refine hd_ret (s := 0) (nv := 83) (v := some (.inl (.int 0))) (uh := hd_ov (iv_id 0 iv_B0) []) (f := false) (sp := [37]) (d0 := 3) (O := [true]) (T := []) (P := [(0, .inr (.inl 82), .inl (.int 0))]) jm_ok34 (by decide +kernel) (by decide +kernel) hd F X1 X2 (fun F' hF hs => ?_)
  have b82 := hd_b (F := F) (F' := F') (k := 82) (hF 82 (by decide))
  have hB' : iv_in F' iv_B0 := iv_in_eq hB (fun j hj => hF j (Nat.lt_of_lt_of_le hj (by decide +kernel)))
  refine ⟨List.forall_mem_cons.mpr ⟨hd_p0 b82 rfl (by have hc : ((0) : Int32).toInt = 0 := (by decide); omega), fun _ h => absurd h List.not_mem_nil⟩, ?_⟩
  refine k _ ?_
  · exact fun j hj _ => (hd_keep hB' (Nat.lt_of_lt_of_le hj (by decide +kernel)) (by simp)).trans (hF j (Nat.lt_of_lt_of_le hj (by decide)))
theorem k0pb_29_p1 {Ls : Nat} {xs : Nat → Int32} {d : Nat} {Q : Option Value → jm_h → Prop} (hd : 4 ≤ d) (F : Nat → sy_d) (X1 X2 : List jm_c) (hB : iv_in F iv_B0)
    (h0 : (sy_i F 82).toInt ≠ 0)
    (k : ∀ F1 : Nat → sy_d, (∀ j, j < 82 → True → F1 j = F j) → hd_W Ls xs d jm_M34 Q (37, sy_dL F1 [some (.inl (.ref 30)), none], sy_dS F1 [.inl (.int 9), .inl (.int 0), .inl (.int 0), .inl (.ref 30)], sy_dh F1 X1 X2 (iv_H 0), 0, 0)) :
    hd_W Ls xs d jm_M34 Q (29, sy_dL F [some (.inl (.ref 30)), none], sy_dS F [.inr (.inl 82)], sy_dh F X1 X2 (iv_H 0), 0, 0) := by
  refine hd_run (s := 0) (nv := 83) (pc := 37) (L := [some (.inl (.ref 30)), none]) (S := [.inl (.int 9), .inl (.int 0), .inl (.int 0), .inl (.ref 30)]) (uh := hd_ov (iv_id 0 iv_B0) []) (ul := []) (f := false) (sp := [37]) (d0 := 3) (O := [false]) (T := []) (P := [(1, .inr (.inl 82), .inl (.int 0))]) jm_ok34 (by decide +kernel) (by decide +kernel) hd F X1 X2 (fun F' hF hs => ?_)
  have b82 := hd_b (F := F) (F' := F') (k := 82) (hF 82 (by decide))
  have hB' : iv_in F' iv_B0 := iv_in_eq hB (fun j hj => hF j (Nat.lt_of_lt_of_le hj (by decide +kernel)))
  refine ⟨List.forall_mem_cons.mpr ⟨hd_p1 b82 rfl (by have hc : ((0) : Int32).toInt = 0 := (by decide); omega), fun _ h => absurd h List.not_mem_nil⟩, ?_⟩
  refine k _ ?_
  · exact fun j hj _ => (hd_keep hB' (Nat.lt_of_lt_of_le hj (by decide +kernel)) (by simp)).trans (hF j (Nat.lt_of_lt_of_le hj (by decide)))
theorem k0pb_29 {Ls : Nat} {xs : Nat → Int32} {d : Nat} {Q : Option Value → jm_h → Prop} (hd : 4 ≤ d) (F : Nat → sy_d) (X1 X2 : List jm_c) (hB : iv_in F iv_B0)
    (k0 : (sy_i F 82).toInt = 0 → ∀ F1 : Nat → sy_d, iv_in F1 iv_B0 → (∀ j, j < 82 → j ∉ ([] : List Nat) → F1 j = F j) → (sy_i F1 33).toInt = (sy_i F 33).toInt → (sy_i F1 34).toInt = (sy_i F 34).toInt → (sy_i F1 36).toInt = (sy_i F 36).toInt → (sy_i F1 37).toInt = (sy_i F 37).toInt → (sy_i F1 38).toInt = (sy_i F 38).toInt → (sy_i F1 18).toInt = (sy_i F 18).toInt → (sy_i F1 19).toInt = (sy_i F 19).toInt → sy_ai F1 39 = sy_ai F 39 → Q (some (.int ((0 : Int32)))) (sy_dh F1 X1 X2 (iv_H 0)))
    (k1 : (sy_i F 82).toInt ≠ 0 → ∀ F1 : Nat → sy_d, iv_in F1 iv_B0 → (∀ j, j < 82 → j ∉ ([] : List Nat) → F1 j = F j) → (sy_i F1 33).toInt = (sy_i F 33).toInt → (sy_i F1 34).toInt = (sy_i F 34).toInt → (sy_i F1 36).toInt = (sy_i F 36).toInt → (sy_i F1 37).toInt = (sy_i F 37).toInt → (sy_i F1 38).toInt = (sy_i F 38).toInt → (sy_i F1 18).toInt = (sy_i F 18).toInt → (sy_i F1 19).toInt = (sy_i F 19).toInt → sy_ai F1 39 = sy_ai F 39 → hd_W Ls xs d jm_M34 Q (37, sy_dL F1 [some (.inl (.ref 30)), none], sy_dS F1 [.inl (.int 9), .inl (.int 0), .inl (.int 0), .inl (.ref 30)], sy_dh F1 X1 X2 (iv_H 0), 0, 0)) :
    hd_W Ls xs d jm_M34 Q (29, sy_dL F [some (.inl (.ref 30)), none], sy_dS F [.inr (.inl 82)], sy_dh F X1 X2 (iv_H 0), 0, 0) := by
  by_cases g0 : (sy_i F 82).toInt = 0
  · exact k0pb_29_p0 hd F X1 X2 hB (by first | exact g0 | (simp only [nz_c]; exact g0)) (fun F1 g  => k0 g0 F1 (nz_in0 hB [] (fun j hj hn => g j hj (by simp only [List.mem_cons, List.not_mem_nil, or_false, not_or] at hn; exact trivial)) (List.forall_mem_nil _)) (fun j hj hn => g j hj (by simp only [List.mem_cons, List.not_mem_nil, or_false, not_or] at hn; exact trivial)) (nz_fi (g 33 (by decide) (by decide))) (nz_fi (g 34 (by decide) (by decide))) (nz_fi (g 36 (by decide) (by decide))) (nz_fi (g 37 (by decide) (by decide))) (nz_fi (g 38 (by decide) (by decide))) (nz_fi (g 18 (by decide) (by decide))) (nz_fi (g 19 (by decide) (by decide))) (nz_fa (g 39 (by decide) (by decide))))
  replace g0 : (sy_i F 82).toInt ≠ 0 := by omega
  exact k0pb_29_p1 hd F X1 X2 hB (by first | exact g0 | (simp only [nz_c]; exact g0)) (fun F1 g  => k1 g0 F1 (nz_in0 hB [] (fun j hj hn => g j hj (by simp only [List.mem_cons, List.not_mem_nil, or_false, not_or] at hn; exact trivial)) (List.forall_mem_nil _)) (fun j hj hn => g j hj (by simp only [List.mem_cons, List.not_mem_nil, or_false, not_or] at hn; exact trivial)) (nz_fi (g 33 (by decide) (by decide))) (nz_fi (g 34 (by decide) (by decide))) (nz_fi (g 36 (by decide) (by decide))) (nz_fi (g 37 (by decide) (by decide))) (nz_fi (g 38 (by decide) (by decide))) (nz_fi (g 18 (by decide) (by decide))) (nz_fi (g 19 (by decide) (by decide))) (nz_fa (g 39 (by decide) (by decide))))
theorem k0pb_40_p0 {Ls : Nat} {xs : Nat → Int32} {d : Nat} {Q : Option Value → jm_h → Prop} (hd : 4 ≤ d) (F : Nat → sy_d) (X1 X2 : List jm_c) (hB : iv_in F iv_B0)
    (h0 : (sy_i F 82).toInt = 0)
    (k : ∀ F1 : Nat → sy_d, (∀ j, j < 82 → True → F1 j = F j) → Q (some (.int ((0 : Int32)))) (sy_dh F1 X1 X2 (iv_H 0))) :
    hd_W Ls xs d jm_M34 Q (40, sy_dL F [some (.inl (.ref 30)), none], sy_dS F [.inr (.inl 82)], sy_dh F X1 X2 (iv_H 0), 0, 0) := by
  refine hd_ret (s := 0) (nv := 83) (v := some (.inl (.int 0))) (uh := hd_ov (iv_id 0 iv_B0) []) (f := false) (sp := [47]) (d0 := 3) (O := [true]) (T := []) (P := [(0, .inr (.inl 82), .inl (.int 0))]) jm_ok34 (by decide +kernel) (by decide +kernel) hd F X1 X2 (fun F' hF hs => ?_)
  have b82 := hd_b (F := F) (F' := F') (k := 82) (hF 82 (by decide))
  have hB' : iv_in F' iv_B0 := iv_in_eq hB (fun j hj => hF j (Nat.lt_of_lt_of_le hj (by decide +kernel)))
  refine ⟨List.forall_mem_cons.mpr ⟨hd_p0 b82 rfl (by have hc : ((0) : Int32).toInt = 0 := (by decide); omega), fun _ h => absurd h List.not_mem_nil⟩, ?_⟩
  refine k _ ?_
  · exact fun j hj _ => (hd_keep hB' (Nat.lt_of_lt_of_le hj (by decide +kernel)) (by simp)).trans (hF j (Nat.lt_of_lt_of_le hj (by decide)))
theorem k0pb_40_p1 {Ls : Nat} {xs : Nat → Int32} {d : Nat} {Q : Option Value → jm_h → Prop} (hd : 4 ≤ d) (F : Nat → sy_d) (X1 X2 : List jm_c) (hB : iv_in F iv_B0)
    (h0 : (sy_i F 82).toInt ≠ 0)
    (k : ∀ F1 : Nat → sy_d, (∀ j, j < 82 → True → F1 j = F j) → hd_W Ls xs d jm_M34 Q (47, sy_dL F1 [some (.inl (.ref 30)), none], sy_dS F1 [.inl (.int 3), .inl (.int 0), .inl (.int 1), .inl (.ref 30)], sy_dh F1 X1 X2 (iv_H 0), 0, 0)) :
    hd_W Ls xs d jm_M34 Q (40, sy_dL F [some (.inl (.ref 30)), none], sy_dS F [.inr (.inl 82)], sy_dh F X1 X2 (iv_H 0), 0, 0) := by
  refine hd_run (s := 0) (nv := 83) (pc := 47) (L := [some (.inl (.ref 30)), none]) (S := [.inl (.int 3), .inl (.int 0), .inl (.int 1), .inl (.ref 30)]) (uh := hd_ov (iv_id 0 iv_B0) []) (ul := []) (f := false) (sp := [47]) (d0 := 3) (O := [false]) (T := []) (P := [(1, .inr (.inl 82), .inl (.int 0))]) jm_ok34 (by decide +kernel) (by decide +kernel) hd F X1 X2 (fun F' hF hs => ?_)
  have b82 := hd_b (F := F) (F' := F') (k := 82) (hF 82 (by decide))
  have hB' : iv_in F' iv_B0 := iv_in_eq hB (fun j hj => hF j (Nat.lt_of_lt_of_le hj (by decide +kernel)))
  refine ⟨List.forall_mem_cons.mpr ⟨hd_p1 b82 rfl (by have hc : ((0) : Int32).toInt = 0 := (by decide); omega), fun _ h => absurd h List.not_mem_nil⟩, ?_⟩
  refine k _ ?_
  · exact fun j hj _ => (hd_keep hB' (Nat.lt_of_lt_of_le hj (by decide +kernel)) (by simp)).trans (hF j (Nat.lt_of_lt_of_le hj (by decide)))
theorem k0pb_40 {Ls : Nat} {xs : Nat → Int32} {d : Nat} {Q : Option Value → jm_h → Prop} (hd : 4 ≤ d) (F : Nat → sy_d) (X1 X2 : List jm_c) (hB : iv_in F iv_B0)
    (k0 : (sy_i F 82).toInt = 0 → ∀ F1 : Nat → sy_d, iv_in F1 iv_B0 → (∀ j, j < 82 → j ∉ ([] : List Nat) → F1 j = F j) → (sy_i F1 33).toInt = (sy_i F 33).toInt → (sy_i F1 34).toInt = (sy_i F 34).toInt → (sy_i F1 36).toInt = (sy_i F 36).toInt → (sy_i F1 37).toInt = (sy_i F 37).toInt → (sy_i F1 38).toInt = (sy_i F 38).toInt → (sy_i F1 18).toInt = (sy_i F 18).toInt → (sy_i F1 19).toInt = (sy_i F 19).toInt → sy_ai F1 39 = sy_ai F 39 → Q (some (.int ((0 : Int32)))) (sy_dh F1 X1 X2 (iv_H 0)))
    (k1 : (sy_i F 82).toInt ≠ 0 → ∀ F1 : Nat → sy_d, iv_in F1 iv_B0 → (∀ j, j < 82 → j ∉ ([] : List Nat) → F1 j = F j) → (sy_i F1 33).toInt = (sy_i F 33).toInt → (sy_i F1 34).toInt = (sy_i F 34).toInt → (sy_i F1 36).toInt = (sy_i F 36).toInt → (sy_i F1 37).toInt = (sy_i F 37).toInt → (sy_i F1 38).toInt = (sy_i F 38).toInt → (sy_i F1 18).toInt = (sy_i F 18).toInt → (sy_i F1 19).toInt = (sy_i F 19).toInt → sy_ai F1 39 = sy_ai F 39 → hd_W Ls xs d jm_M34 Q (47, sy_dL F1 [some (.inl (.ref 30)), none], sy_dS F1 [.inl (.int 3), .inl (.int 0), .inl (.int 1), .inl (.ref 30)], sy_dh F1 X1 X2 (iv_H 0), 0, 0)) :
    hd_W Ls xs d jm_M34 Q (40, sy_dL F [some (.inl (.ref 30)), none], sy_dS F [.inr (.inl 82)], sy_dh F X1 X2 (iv_H 0), 0, 0) := by
  by_cases g0 : (sy_i F 82).toInt = 0
  · exact k0pb_40_p0 hd F X1 X2 hB (by first | exact g0 | (simp only [nz_c]; exact g0)) (fun F1 g  => k0 g0 F1 (nz_in0 hB [] (fun j hj hn => g j hj (by simp only [List.mem_cons, List.not_mem_nil, or_false, not_or] at hn; exact trivial)) (List.forall_mem_nil _)) (fun j hj hn => g j hj (by simp only [List.mem_cons, List.not_mem_nil, or_false, not_or] at hn; exact trivial)) (nz_fi (g 33 (by decide) (by decide))) (nz_fi (g 34 (by decide) (by decide))) (nz_fi (g 36 (by decide) (by decide))) (nz_fi (g 37 (by decide) (by decide))) (nz_fi (g 38 (by decide) (by decide))) (nz_fi (g 18 (by decide) (by decide))) (nz_fi (g 19 (by decide) (by decide))) (nz_fa (g 39 (by decide) (by decide))))
  replace g0 : (sy_i F 82).toInt ≠ 0 := by omega
  exact k0pb_40_p1 hd F X1 X2 hB (by first | exact g0 | (simp only [nz_c]; exact g0)) (fun F1 g  => k1 g0 F1 (nz_in0 hB [] (fun j hj hn => g j hj (by simp only [List.mem_cons, List.not_mem_nil, or_false, not_or] at hn; exact trivial)) (List.forall_mem_nil _)) (fun j hj hn => g j hj (by simp only [List.mem_cons, List.not_mem_nil, or_false, not_or] at hn; exact trivial)) (nz_fi (g 33 (by decide) (by decide))) (nz_fi (g 34 (by decide) (by decide))) (nz_fi (g 36 (by decide) (by decide))) (nz_fi (g 37 (by decide) (by decide))) (nz_fi (g 38 (by decide) (by decide))) (nz_fi (g 18 (by decide) (by decide))) (nz_fi (g 19 (by decide) (by decide))) (nz_fa (g 39 (by decide) (by decide))))
theorem k0pb_50_p0 {Ls : Nat} {xs : Nat → Int32} {d : Nat} {Q : Option Value → jm_h → Prop} (hd : 4 ≤ d) (F : Nat → sy_d) (X1 X2 : List jm_c) (hB : iv_in F iv_B0)
    (h0 : (sy_i F 82).toInt = 0)
    (k : ∀ F1 : Nat → sy_d, (∀ j, j < 82 → True → F1 j = F j) → Q (some (.int ((0 : Int32)))) (sy_dh F1 X1 X2 (iv_H 0))) :
    hd_W Ls xs d jm_M34 Q (50, sy_dL F [some (.inl (.ref 30)), none], sy_dS F [.inr (.inl 82)], sy_dh F X1 X2 (iv_H 0), 0, 0) := by
  refine hd_ret (s := 0) (nv := 83) (v := some (.inl (.int 0))) (uh := hd_ov (iv_id 0 iv_B0) []) (f := false) (sp := [59]) (d0 := 3) (O := [true]) (T := []) (P := [(0, .inr (.inl 82), .inl (.int 0))]) jm_ok34 (by decide +kernel) (by decide +kernel) hd F X1 X2 (fun F' hF hs => ?_)
  have b82 := hd_b (F := F) (F' := F') (k := 82) (hF 82 (by decide))
  have hB' : iv_in F' iv_B0 := iv_in_eq hB (fun j hj => hF j (Nat.lt_of_lt_of_le hj (by decide +kernel)))
  refine ⟨List.forall_mem_cons.mpr ⟨hd_p0 b82 rfl (by have hc : ((0) : Int32).toInt = 0 := (by decide); omega), fun _ h => absurd h List.not_mem_nil⟩, ?_⟩
  refine k _ ?_
  · exact fun j hj _ => (hd_keep hB' (Nat.lt_of_lt_of_le hj (by decide +kernel)) (by simp)).trans (hF j (Nat.lt_of_lt_of_le hj (by decide)))
theorem k0pb_50_p1 {Ls : Nat} {xs : Nat → Int32} {d : Nat} {Q : Option Value → jm_h → Prop} (hd : 4 ≤ d) (F : Nat → sy_d) (X1 X2 : List jm_c) (hB : iv_in F iv_B0)
    (h0 : (sy_i F 82).toInt ≠ 0)
    (k : ∀ F1 : Nat → sy_d, (∀ j, j < 82 → True → F1 j = F j) → hd_W Ls xs d jm_M34 Q (59, sy_dL F1 [some (.inl (.ref 30)), none], sy_dS F1 [.inl (.int 999), .inl (.int 0), .inl (.int 2), .inl (.ref 30)], sy_dh F1 X1 X2 (iv_H 0), 0, 0)) :
    hd_W Ls xs d jm_M34 Q (50, sy_dL F [some (.inl (.ref 30)), none], sy_dS F [.inr (.inl 82)], sy_dh F X1 X2 (iv_H 0), 0, 0) := by
  refine hd_run (s := 0) (nv := 83) (pc := 59) (L := [some (.inl (.ref 30)), none]) (S := [.inl (.int 999), .inl (.int 0), .inl (.int 2), .inl (.ref 30)]) (uh := hd_ov (iv_id 0 iv_B0) []) (ul := []) (f := false) (sp := [59]) (d0 := 3) (O := [false]) (T := []) (P := [(1, .inr (.inl 82), .inl (.int 0))]) jm_ok34 (by decide +kernel) (by decide +kernel) hd F X1 X2 (fun F' hF hs => ?_)
  have b82 := hd_b (F := F) (F' := F') (k := 82) (hF 82 (by decide))
  have hB' : iv_in F' iv_B0 := iv_in_eq hB (fun j hj => hF j (Nat.lt_of_lt_of_le hj (by decide +kernel)))
  refine ⟨List.forall_mem_cons.mpr ⟨hd_p1 b82 rfl (by have hc : ((0) : Int32).toInt = 0 := (by decide); omega), fun _ h => absurd h List.not_mem_nil⟩, ?_⟩
  refine k _ ?_
  · exact fun j hj _ => (hd_keep hB' (Nat.lt_of_lt_of_le hj (by decide +kernel)) (by simp)).trans (hF j (Nat.lt_of_lt_of_le hj (by decide)))
theorem k0pb_50 {Ls : Nat} {xs : Nat → Int32} {d : Nat} {Q : Option Value → jm_h → Prop} (hd : 4 ≤ d) (F : Nat → sy_d) (X1 X2 : List jm_c) (hB : iv_in F iv_B0)
    (k0 : (sy_i F 82).toInt = 0 → ∀ F1 : Nat → sy_d, iv_in F1 iv_B0 → (∀ j, j < 82 → j ∉ ([] : List Nat) → F1 j = F j) → (sy_i F1 33).toInt = (sy_i F 33).toInt → (sy_i F1 34).toInt = (sy_i F 34).toInt → (sy_i F1 36).toInt = (sy_i F 36).toInt → (sy_i F1 37).toInt = (sy_i F 37).toInt → (sy_i F1 38).toInt = (sy_i F 38).toInt → (sy_i F1 18).toInt = (sy_i F 18).toInt → (sy_i F1 19).toInt = (sy_i F 19).toInt → sy_ai F1 39 = sy_ai F 39 → Q (some (.int ((0 : Int32)))) (sy_dh F1 X1 X2 (iv_H 0)))
    (k1 : (sy_i F 82).toInt ≠ 0 → ∀ F1 : Nat → sy_d, iv_in F1 iv_B0 → (∀ j, j < 82 → j ∉ ([] : List Nat) → F1 j = F j) → (sy_i F1 33).toInt = (sy_i F 33).toInt → (sy_i F1 34).toInt = (sy_i F 34).toInt → (sy_i F1 36).toInt = (sy_i F 36).toInt → (sy_i F1 37).toInt = (sy_i F 37).toInt → (sy_i F1 38).toInt = (sy_i F 38).toInt → (sy_i F1 18).toInt = (sy_i F 18).toInt → (sy_i F1 19).toInt = (sy_i F 19).toInt → sy_ai F1 39 = sy_ai F 39 → hd_W Ls xs d jm_M34 Q (59, sy_dL F1 [some (.inl (.ref 30)), none], sy_dS F1 [.inl (.int 999), .inl (.int 0), .inl (.int 2), .inl (.ref 30)], sy_dh F1 X1 X2 (iv_H 0), 0, 0)) :
    hd_W Ls xs d jm_M34 Q (50, sy_dL F [some (.inl (.ref 30)), none], sy_dS F [.inr (.inl 82)], sy_dh F X1 X2 (iv_H 0), 0, 0) := by
  by_cases g0 : (sy_i F 82).toInt = 0
  · exact k0pb_50_p0 hd F X1 X2 hB (by first | exact g0 | (simp only [nz_c]; exact g0)) (fun F1 g  => k0 g0 F1 (nz_in0 hB [] (fun j hj hn => g j hj (by simp only [List.mem_cons, List.not_mem_nil, or_false, not_or] at hn; exact trivial)) (List.forall_mem_nil _)) (fun j hj hn => g j hj (by simp only [List.mem_cons, List.not_mem_nil, or_false, not_or] at hn; exact trivial)) (nz_fi (g 33 (by decide) (by decide))) (nz_fi (g 34 (by decide) (by decide))) (nz_fi (g 36 (by decide) (by decide))) (nz_fi (g 37 (by decide) (by decide))) (nz_fi (g 38 (by decide) (by decide))) (nz_fi (g 18 (by decide) (by decide))) (nz_fi (g 19 (by decide) (by decide))) (nz_fa (g 39 (by decide) (by decide))))
  replace g0 : (sy_i F 82).toInt ≠ 0 := by omega
  exact k0pb_50_p1 hd F X1 X2 hB (by first | exact g0 | (simp only [nz_c]; exact g0)) (fun F1 g  => k1 g0 F1 (nz_in0 hB [] (fun j hj hn => g j hj (by simp only [List.mem_cons, List.not_mem_nil, or_false, not_or] at hn; exact trivial)) (List.forall_mem_nil _)) (fun j hj hn => g j hj (by simp only [List.mem_cons, List.not_mem_nil, or_false, not_or] at hn; exact trivial)) (nz_fi (g 33 (by decide) (by decide))) (nz_fi (g 34 (by decide) (by decide))) (nz_fi (g 36 (by decide) (by decide))) (nz_fi (g 37 (by decide) (by decide))) (nz_fi (g 38 (by decide) (by decide))) (nz_fi (g 18 (by decide) (by decide))) (nz_fi (g 19 (by decide) (by decide))) (nz_fa (g 39 (by decide) (by decide))))
theorem k0pb_62_p0 {Ls : Nat} {xs : Nat → Int32} {d : Nat} {Q : Option Value → jm_h → Prop} (hd : 4 ≤ d) (F : Nat → sy_d) (X1 X2 : List jm_c) (hB : iv_in F iv_B0)
    (h0 : (sy_i F 82).toInt = 0)
    (k : ∀ F1 : Nat → sy_d, (∀ j, j < 82 → True → F1 j = F j) → Q (some (.int ((0 : Int32)))) (sy_dh F1 X1 X2 (iv_H 0))) :
    hd_W Ls xs d jm_M34 Q (62, sy_dL F [some (.inl (.ref 30)), none], sy_dS F [.inr (.inl 82)], sy_dh F X1 X2 (iv_H 0), 0, 0) := by
  refine hd_ret (s := 0) (nv := 83) (v := some (.inl (.int 0))) (uh := hd_ov (iv_id 0 iv_B0) []) (f := false) (sp := [68]) (d0 := 3) (O := [true]) (T := []) (P := [(0, .inr (.inl 82), .inl (.int 0))]) jm_ok34 (by decide +kernel) (by decide +kernel) hd F X1 X2 (fun F' hF hs => ?_)
  have b82 := hd_b (F := F) (F' := F') (k := 82) (hF 82 (by decide))
  have hB' : iv_in F' iv_B0 := iv_in_eq hB (fun j hj => hF j (Nat.lt_of_lt_of_le hj (by decide +kernel)))
  refine ⟨List.forall_mem_cons.mpr ⟨hd_p0 b82 rfl (by have hc : ((0) : Int32).toInt = 0 := (by decide); omega), fun _ h => absurd h List.not_mem_nil⟩, ?_⟩
  refine k _ ?_
  · exact fun j hj _ => (hd_keep hB' (Nat.lt_of_lt_of_le hj (by decide +kernel)) (by simp)).trans (hF j (Nat.lt_of_lt_of_le hj (by decide)))
theorem k0pb_62_p1 {Ls : Nat} {xs : Nat → Int32} {d : Nat} {Q : Option Value → jm_h → Prop} (hd : 4 ≤ d) (F : Nat → sy_d) (X1 X2 : List jm_c) (hB : iv_in F iv_B0)
    (h0 : (sy_i F 82).toInt ≠ 0)
    (k : ∀ F1 : Nat → sy_d, (∀ j, j < 82 → True → F1 j = F j) → hd_W Ls xs d jm_M34 Q (68, sy_dL F1 [some (.inl (.ref 30)), none], sy_dS F1 [.inl (.int 59), .inl (.ref 30)], sy_dh F1 X1 X2 (iv_H 0), 0, 0)) :
    hd_W Ls xs d jm_M34 Q (62, sy_dL F [some (.inl (.ref 30)), none], sy_dS F [.inr (.inl 82)], sy_dh F X1 X2 (iv_H 0), 0, 0) := by
  refine hd_run (s := 0) (nv := 83) (pc := 68) (L := [some (.inl (.ref 30)), none]) (S := [.inl (.int 59), .inl (.ref 30)]) (uh := hd_ov (iv_id 0 iv_B0) []) (ul := []) (f := false) (sp := [68]) (d0 := 3) (O := [false]) (T := []) (P := [(1, .inr (.inl 82), .inl (.int 0))]) jm_ok34 (by decide +kernel) (by decide +kernel) hd F X1 X2 (fun F' hF hs => ?_)
  have b82 := hd_b (F := F) (F' := F') (k := 82) (hF 82 (by decide))
  have hB' : iv_in F' iv_B0 := iv_in_eq hB (fun j hj => hF j (Nat.lt_of_lt_of_le hj (by decide +kernel)))
  refine ⟨List.forall_mem_cons.mpr ⟨hd_p1 b82 rfl (by have hc : ((0) : Int32).toInt = 0 := (by decide); omega), fun _ h => absurd h List.not_mem_nil⟩, ?_⟩
  refine k _ ?_
  · exact fun j hj _ => (hd_keep hB' (Nat.lt_of_lt_of_le hj (by decide +kernel)) (by simp)).trans (hF j (Nat.lt_of_lt_of_le hj (by decide)))
theorem k0pb_62 {Ls : Nat} {xs : Nat → Int32} {d : Nat} {Q : Option Value → jm_h → Prop} (hd : 4 ≤ d) (F : Nat → sy_d) (X1 X2 : List jm_c) (hB : iv_in F iv_B0)
    (k0 : (sy_i F 82).toInt = 0 → ∀ F1 : Nat → sy_d, iv_in F1 iv_B0 → (∀ j, j < 82 → j ∉ ([] : List Nat) → F1 j = F j) → (sy_i F1 33).toInt = (sy_i F 33).toInt → (sy_i F1 34).toInt = (sy_i F 34).toInt → (sy_i F1 36).toInt = (sy_i F 36).toInt → (sy_i F1 37).toInt = (sy_i F 37).toInt → (sy_i F1 38).toInt = (sy_i F 38).toInt → (sy_i F1 18).toInt = (sy_i F 18).toInt → (sy_i F1 19).toInt = (sy_i F 19).toInt → sy_ai F1 39 = sy_ai F 39 → Q (some (.int ((0 : Int32)))) (sy_dh F1 X1 X2 (iv_H 0)))
    (k1 : (sy_i F 82).toInt ≠ 0 → ∀ F1 : Nat → sy_d, iv_in F1 iv_B0 → (∀ j, j < 82 → j ∉ ([] : List Nat) → F1 j = F j) → (sy_i F1 33).toInt = (sy_i F 33).toInt → (sy_i F1 34).toInt = (sy_i F 34).toInt → (sy_i F1 36).toInt = (sy_i F 36).toInt → (sy_i F1 37).toInt = (sy_i F 37).toInt → (sy_i F1 38).toInt = (sy_i F 38).toInt → (sy_i F1 18).toInt = (sy_i F 18).toInt → (sy_i F1 19).toInt = (sy_i F 19).toInt → sy_ai F1 39 = sy_ai F 39 → hd_W Ls xs d jm_M34 Q (68, sy_dL F1 [some (.inl (.ref 30)), none], sy_dS F1 [.inl (.int 59), .inl (.ref 30)], sy_dh F1 X1 X2 (iv_H 0), 0, 0)) :
    hd_W Ls xs d jm_M34 Q (62, sy_dL F [some (.inl (.ref 30)), none], sy_dS F [.inr (.inl 82)], sy_dh F X1 X2 (iv_H 0), 0, 0) := by
  by_cases g0 : (sy_i F 82).toInt = 0
  · exact k0pb_62_p0 hd F X1 X2 hB (by first | exact g0 | (simp only [nz_c]; exact g0)) (fun F1 g  => k0 g0 F1 (nz_in0 hB [] (fun j hj hn => g j hj (by simp only [List.mem_cons, List.not_mem_nil, or_false, not_or] at hn; exact trivial)) (List.forall_mem_nil _)) (fun j hj hn => g j hj (by simp only [List.mem_cons, List.not_mem_nil, or_false, not_or] at hn; exact trivial)) (nz_fi (g 33 (by decide) (by decide))) (nz_fi (g 34 (by decide) (by decide))) (nz_fi (g 36 (by decide) (by decide))) (nz_fi (g 37 (by decide) (by decide))) (nz_fi (g 38 (by decide) (by decide))) (nz_fi (g 18 (by decide) (by decide))) (nz_fi (g 19 (by decide) (by decide))) (nz_fa (g 39 (by decide) (by decide))))
  replace g0 : (sy_i F 82).toInt ≠ 0 := by omega
  exact k0pb_62_p1 hd F X1 X2 hB (by first | exact g0 | (simp only [nz_c]; exact g0)) (fun F1 g  => k1 g0 F1 (nz_in0 hB [] (fun j hj hn => g j hj (by simp only [List.mem_cons, List.not_mem_nil, or_false, not_or] at hn; exact trivial)) (List.forall_mem_nil _)) (fun j hj hn => g j hj (by simp only [List.mem_cons, List.not_mem_nil, or_false, not_or] at hn; exact trivial)) (nz_fi (g 33 (by decide) (by decide))) (nz_fi (g 34 (by decide) (by decide))) (nz_fi (g 36 (by decide) (by decide))) (nz_fi (g 37 (by decide) (by decide))) (nz_fi (g 38 (by decide) (by decide))) (nz_fi (g 18 (by decide) (by decide))) (nz_fi (g 19 (by decide) (by decide))) (nz_fa (g 39 (by decide) (by decide))))
theorem k0pb_71_p0 {Ls : Nat} {xs : Nat → Int32} {d : Nat} {Q : Option Value → jm_h → Prop} (hd : 4 ≤ d) (F : Nat → sy_d) (X1 X2 : List jm_c) (hB : iv_in F iv_B0)
    (h0 : (sy_i F 82).toInt = 0)
    (k : ∀ F1 : Nat → sy_d, (∀ j, j < 82 → True → F1 j = F j) → Q (some (.int ((0 : Int32)))) (sy_dh F1 X1 X2 (iv_H 0))) :
    hd_W Ls xs d jm_M34 Q (71, sy_dL F [some (.inl (.ref 30)), none], sy_dS F [.inr (.inl 82)], sy_dh F X1 X2 (iv_H 0), 0, 0) := by
  refine hd_ret (s := 0) (nv := 83) (v := some (.inl (.int 0))) (uh := hd_ov (iv_id 0 iv_B0) []) (f := false) (sp := []) (d0 := 3) (O := [true]) (T := []) (P := [(0, .inr (.inl 82), .inl (.int 0))]) jm_ok34 (by decide +kernel) (by decide +kernel) hd F X1 X2 (fun F' hF hs => ?_)
  have b82 := hd_b (F := F) (F' := F') (k := 82) (hF 82 (by decide))
  have hB' : iv_in F' iv_B0 := iv_in_eq hB (fun j hj => hF j (Nat.lt_of_lt_of_le hj (by decide +kernel)))
  refine ⟨List.forall_mem_cons.mpr ⟨hd_p0 b82 rfl (by have hc : ((0) : Int32).toInt = 0 := (by decide); omega), fun _ h => absurd h List.not_mem_nil⟩, ?_⟩
  refine k _ ?_
  · exact fun j hj _ => (hd_keep hB' (Nat.lt_of_lt_of_le hj (by decide +kernel)) (by simp)).trans (hF j (Nat.lt_of_lt_of_le hj (by decide)))
theorem k0pb_71_p1 {Ls : Nat} {xs : Nat → Int32} {d : Nat} {Q : Option Value → jm_h → Prop} (hd : 4 ≤ d) (F : Nat → sy_d) (X1 X2 : List jm_c) (hB : iv_in F iv_B0)
    (h0 : (sy_i F 82).toInt ≠ 0)
    (h1 : 4 ≤ (sy_i F 19).toInt)
    (k : ∀ F1 : Nat → sy_d, (∀ j, j < 82 → True → F1 j = F j) → Q (some (.int ((1 : Int32)))) (sy_dh F1 X1 X2 (iv_H 0))) :
    hd_W Ls xs d jm_M34 Q (71, sy_dL F [some (.inl (.ref 30)), none], sy_dS F [.inr (.inl 82)], sy_dh F X1 X2 (iv_H 0), 0, 0) := by
  refine hd_ret (s := 0) (nv := 83) (v := some (.inl (.int 1))) (uh := hd_ov (iv_id 0 iv_B0) []) (f := false) (sp := []) (d0 := 3) (O := [false, true]) (T := []) (P := [(1, .inr (.inl 82), .inl (.int 0)), (4, .inl (.int 4), .inr (.inl 19))]) jm_ok34 (by decide +kernel) (by decide +kernel) hd F X1 X2 (fun F' hF hs => ?_)
  have b82 := hd_b (F := F) (F' := F') (k := 82) (hF 82 (by decide))
  have b19 := hd_b (F := F) (F' := F') (k := 19) (hF 19 (by decide))
  have hB' : iv_in F' iv_B0 := iv_in_eq hB (fun j hj => hF j (Nat.lt_of_lt_of_le hj (by decide +kernel)))
  refine ⟨List.forall_mem_cons.mpr ⟨hd_p1 b82 rfl (by have hc : ((0) : Int32).toInt = 0 := (by decide); omega), List.forall_mem_cons.mpr ⟨hd_p4 rfl b19 (by have hc : ((4) : Int32).toInt = 4 := (by decide); omega), fun _ h => absurd h List.not_mem_nil⟩⟩, ?_⟩
  refine k _ ?_
  · exact fun j hj _ => (hd_keep hB' (Nat.lt_of_lt_of_le hj (by decide +kernel)) (by simp)).trans (hF j (Nat.lt_of_lt_of_le hj (by decide)))
theorem k0pb_71_p2 {Ls : Nat} {xs : Nat → Int32} {d : Nat} {Q : Option Value → jm_h → Prop} (hd : 4 ≤ d) (F : Nat → sy_d) (X1 X2 : List jm_c) (hB : iv_in F iv_B0)
    (h0 : (sy_i F 82).toInt ≠ 0)
    (h1 : (sy_i F 19).toInt < 4)
    (h2 : 0 ≤ (sy_i F 19).toInt ∧ (sy_i F 19).toInt < 4)
    (h3 : 0 ≤ (sy_i F 19).toInt ∧ (sy_i F 19).toInt < 4)
    (h4 : 0 ≤ (sy_i F 19).toInt ∧ (sy_i F 19).toInt < 4)
    (k : ∀ F1 : Nat → sy_d, (∀ j, j < 82 → j ≠ 19 ∧ j ≠ 28 ∧ j ≠ 29 ∧ j ≠ 30 → F1 j = F j) → F1 19 = .inl (.int ((sy_i F 19) + ((1 : Int32)))) → F1 28 = .inr (.inl (jm_upd (sy_ai F 28) (sy_i F 19).toNatClampNeg ((sy_ai F 44).getD ((0 : Int32)).toNatClampNeg 0))) → F1 29 = .inr (.inl (jm_upd (sy_ai F 29) (sy_i F 19).toNatClampNeg ((sy_ai F 44).getD ((1 : Int32)).toNatClampNeg 0))) → F1 30 = .inr (.inl (jm_upd (sy_ai F 30) (sy_i F 19).toNatClampNeg ((sy_ai F 44).getD ((2 : Int32)).toNatClampNeg 0))) → Q (some (.int ((1 : Int32)))) (sy_dh F1 X1 X2 (iv_H 0))) :
    hd_W Ls xs d jm_M34 Q (71, sy_dL F [some (.inl (.ref 30)), none], sy_dS F [.inr (.inl 82)], sy_dh F X1 X2 (iv_H 0), 0, 0) := by
  refine hd_ret (s := 0) (nv := 83) (v := some (.inl (.int 1))) (uh := hd_ov (iv_id 0 iv_B0) [(19, .inl (.inr (.inl 89))), (28, .inr (.inr (.inl 84))), (29, .inr (.inr (.inl 86))), (30, .inr (.inr (.inl 88)))]) (f := false) (sp := []) (d0 := 3) (O := [false, false]) (T := [(30, [.inl (.int 0)], [.inr (.inl 44)]), (40, [.inr (.inl 19), .inr (.inl 83)], [.inr (.inl 28)]), (30, [.inl (.int 1)], [.inr (.inl 44)]), (40, [.inr (.inl 19), .inr (.inl 85)], [.inr (.inl 29)]), (30, [.inl (.int 2)], [.inr (.inl 44)]), (40, [.inr (.inl 19), .inr (.inl 87)], [.inr (.inl 30)]), (0, [.inr (.inl 19), .inl (.int 1)], [])]) (P := [(1, .inr (.inl 82), .inl (.int 0)), (5, .inl (.int 4), .inr (.inl 19)), (6, .inr (.inl 19), .inl (.ref 4)), (6, .inr (.inl 19), .inl (.ref 4)), (6, .inr (.inl 19), .inl (.ref 4))]) jm_ok34 (by decide +kernel) (by decide +kernel) hd F X1 X2 (fun F' hF hs => ?_)
  have b82 := hd_b (F := F) (F' := F') (k := 82) (hF 82 (by decide))
  have b19 := hd_b (F := F) (F' := F') (k := 19) (hF 19 (by decide))
  have t89 : sy_dv F' (.inr (.inl 89)) = .int ((sy_i F 19) + ((1 : Int32))) := hd_o (hs 6 _ rfl) b19 rfl rfl
  have a44 := hd_ba (F := F) (F' := F') (k := 44) (hF 44 (by decide))
  have t83 : sy_dv F' (.inr (.inl 83)) = .int ((sy_ai F 44).getD ((0 : Int32)).toNatClampNeg 0) := hd_rd (hs 0 _ rfl) rfl a44
  have a28 := hd_ba (F := F) (F' := F') (k := 28) (hF 28 (by decide))
  have t84 : sy_da F' (.inr (.inl 84)) = .inl (jm_upd (sy_ai F 28) (sy_i F 19).toNatClampNeg ((sy_ai F 44).getD ((0 : Int32)).toNatClampNeg 0)) := hd_up (hs 1 _ rfl) b19 t83 a28
  have t85 : sy_dv F' (.inr (.inl 85)) = .int ((sy_ai F 44).getD ((1 : Int32)).toNatClampNeg 0) := hd_rd (hs 2 _ rfl) rfl a44
  have a29 := hd_ba (F := F) (F' := F') (k := 29) (hF 29 (by decide))
  have t86 : sy_da F' (.inr (.inl 86)) = .inl (jm_upd (sy_ai F 29) (sy_i F 19).toNatClampNeg ((sy_ai F 44).getD ((1 : Int32)).toNatClampNeg 0)) := hd_up (hs 3 _ rfl) b19 t85 a29
  have t87 : sy_dv F' (.inr (.inl 87)) = .int ((sy_ai F 44).getD ((2 : Int32)).toNatClampNeg 0) := hd_rd (hs 4 _ rfl) rfl a44
  have a30 := hd_ba (F := F) (F' := F') (k := 30) (hF 30 (by decide))
  have t88 : sy_da F' (.inr (.inl 88)) = .inl (jm_upd (sy_ai F 30) (sy_i F 19).toNatClampNeg ((sy_ai F 44).getD ((2 : Int32)).toNatClampNeg 0)) := hd_up (hs 5 _ rfl) b19 t87 a30
  have hB' : iv_in F' iv_B0 := iv_in_eq hB (fun j hj => hF j (Nat.lt_of_lt_of_le hj (by decide +kernel)))
  refine ⟨List.forall_mem_cons.mpr ⟨hd_p1 b82 rfl (by have hc : ((0) : Int32).toInt = 0 := (by decide); omega), List.forall_mem_cons.mpr ⟨hd_p5 rfl b19 (by have hc : ((4) : Int32).toInt = 4 := (by decide); omega), List.forall_mem_cons.mpr ⟨hd_pb b19 (by first | exact h2 | exact h2), List.forall_mem_cons.mpr ⟨hd_pb b19 (by first | exact h3 | exact h3), List.forall_mem_cons.mpr ⟨hd_pb b19 (by first | exact h4 | exact h4), fun _ h => absurd h List.not_mem_nil⟩⟩⟩⟩⟩, ?_⟩
  refine k _ ?_ ?_ ?_ ?_ ?_
  · exact fun j hj hn => (hd_keep hB' (Nat.lt_of_lt_of_le hj (by decide +kernel)) (by simp; omega)).trans (hF j (Nat.lt_of_lt_of_le hj (by decide)))
  · exact hd_gi (x := .inr (.inl 89)) (by decide +kernel) t89
  · exact hd_ga (a := .inr (.inl 84)) (by decide +kernel) t84
  · exact hd_ga (a := .inr (.inl 86)) (by decide +kernel) t86
  · exact hd_ga (a := .inr (.inl 88)) (by decide +kernel) t88
theorem k0pg_0_p0 {Ls : Nat} {xs : Nat → Int32} {d : Nat} {Q : Option Value → jm_h → Prop} (hd : 4 ≤ d) (F : Nat → sy_d) (X1 X2 : List jm_c) (hB : iv_in F iv_B0)
    (h0 : (sy_i F 82).toInt ≠ 8)
    (h1 : (sy_i F 82).toInt ≠ 9)
    (k : ∀ F1 : Nat → sy_d, (∀ j, j < 82 → True → F1 j = F j) → F1 82 = .inl (.int (sy_i F 82)) → F1 83 = .inl (.int ((9999 : Int32))) → hd_W Ls xs d jm_M35 Q (28, sy_dL F1 [some (.inl (.ref 30)), some (.inr (.inl 82)), some (.inr (.inl 83))], sy_dS F1 [.inr (.inl 82), .inl (.ref 30)], sy_dh F1 X1 X2 (iv_H 0), 0, 0)) :
    hd_W Ls xs d jm_M35 Q (0, sy_dL F [some (.inl (.ref 30)), some (.inr (.inl 82)), none], sy_dS F [], sy_dh F X1 X2 (iv_H 0), 0, 0) := by
  refine hd_run (s := 0) (nv := 83) (pc := 28) (L := [some (.inl (.ref 30)), some (.inr (.inl 82)), some (.inr (.inl 83))]) (S := [.inr (.inl 82), .inl (.ref 30)]) (uh := hd_ov (iv_id 0 iv_B0) []) (ul := [.inl (.inr (.inl 82)), .inl (.inl (.int 9999))]) (f := true) (sp := [28]) (d0 := 3) (O := [true, true]) (T := []) (P := [(1, .inr (.inl 82), .inl (.int 8)), (1, .inr (.inl 82), .inl (.int 9))]) jm_ok35 (by decide +kernel) (by decide +kernel) hd F X1 X2 (fun F' hF hs => ?_)
  have b82 := hd_b (F := F) (F' := F') (k := 82) (hF 82 (by decide))
  have hB' : iv_in F' iv_B0 := iv_in_eq hB (fun j hj => hF j (Nat.lt_of_lt_of_le hj (by decide +kernel)))
  refine ⟨List.forall_mem_cons.mpr ⟨hd_p1 b82 rfl (by have hc : ((8) : Int32).toInt = 8 := (by decide); omega), List.forall_mem_cons.mpr ⟨hd_p1 b82 rfl (by have hc : ((9) : Int32).toInt = 9 := (by decide); omega), fun _ h => absurd h List.not_mem_nil⟩⟩, ?_⟩
  refine k _ ?_ ?_ ?_
  · exact fun j hj _ => (hd_keep hB' (Nat.lt_of_lt_of_le hj (by decide +kernel)) (by simp)).trans (hF j (Nat.lt_of_lt_of_le hj (by decide)))
  · exact hd_gi (x := .inr (.inl 82)) (by decide +kernel) b82
  · exact hd_gi (x := .inl (.int 9999)) (by decide +kernel) rfl
theorem k0pg_0_p1 {Ls : Nat} {xs : Nat → Int32} {d : Nat} {Q : Option Value → jm_h → Prop} (hd : 4 ≤ d) (F : Nat → sy_d) (X1 X2 : List jm_c) (hB : iv_in F iv_B0)
    (h0 : (sy_i F 82).toInt ≠ 8)
    (h1 : (sy_i F 82).toInt = 9)
    (k : ∀ F1 : Nat → sy_d, (∀ j, j < 82 → True → F1 j = F j) → F1 82 = .inl (.int (sy_i F 82)) → F1 83 = .inl (.int ((99 : Int32))) → hd_W Ls xs d jm_M35 Q (28, sy_dL F1 [some (.inl (.ref 30)), some (.inr (.inl 82)), some (.inr (.inl 83))], sy_dS F1 [.inr (.inl 82), .inl (.ref 30)], sy_dh F1 X1 X2 (iv_H 0), 0, 0)) :
    hd_W Ls xs d jm_M35 Q (0, sy_dL F [some (.inl (.ref 30)), some (.inr (.inl 82)), none], sy_dS F [], sy_dh F X1 X2 (iv_H 0), 0, 0) := by
  refine hd_run (s := 0) (nv := 83) (pc := 28) (L := [some (.inl (.ref 30)), some (.inr (.inl 82)), some (.inr (.inl 83))]) (S := [.inr (.inl 82), .inl (.ref 30)]) (uh := hd_ov (iv_id 0 iv_B0) []) (ul := [.inl (.inr (.inl 82)), .inl (.inl (.int 99))]) (f := true) (sp := [28]) (d0 := 3) (O := [true, false]) (T := []) (P := [(1, .inr (.inl 82), .inl (.int 8)), (0, .inr (.inl 82), .inl (.int 9))]) jm_ok35 (by decide +kernel) (by decide +kernel) hd F X1 X2 (fun F' hF hs => ?_)
  have b82 := hd_b (F := F) (F' := F') (k := 82) (hF 82 (by decide))
  have hB' : iv_in F' iv_B0 := iv_in_eq hB (fun j hj => hF j (Nat.lt_of_lt_of_le hj (by decide +kernel)))
  refine ⟨List.forall_mem_cons.mpr ⟨hd_p1 b82 rfl (by have hc : ((8) : Int32).toInt = 8 := (by decide); omega), List.forall_mem_cons.mpr ⟨hd_p0 b82 rfl (by have hc : ((9) : Int32).toInt = 9 := (by decide); omega), fun _ h => absurd h List.not_mem_nil⟩⟩, ?_⟩
  refine k _ ?_ ?_ ?_
  · exact fun j hj _ => (hd_keep hB' (Nat.lt_of_lt_of_le hj (by decide +kernel)) (by simp)).trans (hF j (Nat.lt_of_lt_of_le hj (by decide)))
  · exact hd_gi (x := .inr (.inl 82)) (by decide +kernel) b82
  · exact hd_gi (x := .inl (.int 99)) (by decide +kernel) rfl
theorem k0pg_0_p2 {Ls : Nat} {xs : Nat → Int32} {d : Nat} {Q : Option Value → jm_h → Prop} (hd : 4 ≤ d) (F : Nat → sy_d) (X1 X2 : List jm_c) (hB : iv_in F iv_B0)
    (h0 : (sy_i F 82).toInt = 8)
    (k : ∀ F1 : Nat → sy_d, (∀ j, j < 82 → True → F1 j = F j) → F1 82 = .inl (.int (sy_i F 82)) → F1 83 = .inl (.int ((99 : Int32))) → hd_W Ls xs d jm_M35 Q (28, sy_dL F1 [some (.inl (.ref 30)), some (.inr (.inl 82)), some (.inr (.inl 83))], sy_dS F1 [.inr (.inl 82), .inl (.ref 30)], sy_dh F1 X1 X2 (iv_H 0), 0, 0)) :
    hd_W Ls xs d jm_M35 Q (0, sy_dL F [some (.inl (.ref 30)), some (.inr (.inl 82)), none], sy_dS F [], sy_dh F X1 X2 (iv_H 0), 0, 0) := by
  refine hd_run (s := 0) (nv := 83) (pc := 28) (L := [some (.inl (.ref 30)), some (.inr (.inl 82)), some (.inr (.inl 83))]) (S := [.inr (.inl 82), .inl (.ref 30)]) (uh := hd_ov (iv_id 0 iv_B0) []) (ul := [.inl (.inr (.inl 82)), .inl (.inl (.int 99))]) (f := true) (sp := [28]) (d0 := 3) (O := [false]) (T := []) (P := [(0, .inr (.inl 82), .inl (.int 8))]) jm_ok35 (by decide +kernel) (by decide +kernel) hd F X1 X2 (fun F' hF hs => ?_)
  have b82 := hd_b (F := F) (F' := F') (k := 82) (hF 82 (by decide))
  have hB' : iv_in F' iv_B0 := iv_in_eq hB (fun j hj => hF j (Nat.lt_of_lt_of_le hj (by decide +kernel)))
  refine ⟨List.forall_mem_cons.mpr ⟨hd_p0 b82 rfl (by have hc : ((8) : Int32).toInt = 8 := (by decide); omega), fun _ h => absurd h List.not_mem_nil⟩, ?_⟩
  refine k _ ?_ ?_ ?_
  · exact fun j hj _ => (hd_keep hB' (Nat.lt_of_lt_of_le hj (by decide +kernel)) (by simp)).trans (hF j (Nat.lt_of_lt_of_le hj (by decide)))
  · exact hd_gi (x := .inr (.inl 82)) (by decide +kernel) b82
  · exact hd_gi (x := .inl (.int 99)) (by decide +kernel) rfl
theorem k0pg_0 {Ls : Nat} {xs : Nat → Int32} {d : Nat} {Q : Option Value → jm_h → Prop} (hd : 4 ≤ d) (F : Nat → sy_d) (X1 X2 : List jm_c) (hB : iv_in F iv_B0)
    (k0 : (sy_i F 82).toInt ≠ 8 → (sy_i F 82).toInt ≠ 9 → ∀ F1 : Nat → sy_d, iv_in F1 iv_B0 → (∀ j, j < 82 → j ∉ ([] : List Nat) → F1 j = F j) → (sy_i F1 33).toInt = (sy_i F 33).toInt → (sy_i F1 34).toInt = (sy_i F 34).toInt → (sy_i F1 36).toInt = (sy_i F 36).toInt → (sy_i F1 37).toInt = (sy_i F 37).toInt → (sy_i F1 38).toInt = (sy_i F 38).toInt → (sy_i F1 18).toInt = (sy_i F 18).toInt → (sy_i F1 19).toInt = (sy_i F 19).toInt → sy_ai F1 39 = sy_ai F 39 → (sy_i F1 82).toInt = (sy_i F 82).toInt → (sy_i F1 83).toInt = 9999 → hd_W Ls xs d jm_M35 Q (28, sy_dL F1 [some (.inl (.ref 30)), some (.inr (.inl 82)), some (.inr (.inl 83))], sy_dS F1 [.inr (.inl 82), .inl (.ref 30)], sy_dh F1 X1 X2 (iv_H 0), 0, 0))
    (k1 : (sy_i F 82).toInt ≠ 8 → (sy_i F 82).toInt = 9 → ∀ F1 : Nat → sy_d, iv_in F1 iv_B0 → (∀ j, j < 82 → j ∉ ([] : List Nat) → F1 j = F j) → (sy_i F1 33).toInt = (sy_i F 33).toInt → (sy_i F1 34).toInt = (sy_i F 34).toInt → (sy_i F1 36).toInt = (sy_i F 36).toInt → (sy_i F1 37).toInt = (sy_i F 37).toInt → (sy_i F1 38).toInt = (sy_i F 38).toInt → (sy_i F1 18).toInt = (sy_i F 18).toInt → (sy_i F1 19).toInt = (sy_i F 19).toInt → sy_ai F1 39 = sy_ai F 39 → (sy_i F1 82).toInt = (sy_i F 82).toInt → (sy_i F1 83).toInt = 99 → hd_W Ls xs d jm_M35 Q (28, sy_dL F1 [some (.inl (.ref 30)), some (.inr (.inl 82)), some (.inr (.inl 83))], sy_dS F1 [.inr (.inl 82), .inl (.ref 30)], sy_dh F1 X1 X2 (iv_H 0), 0, 0))
    (k2 : (sy_i F 82).toInt = 8 → ∀ F1 : Nat → sy_d, iv_in F1 iv_B0 → (∀ j, j < 82 → j ∉ ([] : List Nat) → F1 j = F j) → (sy_i F1 33).toInt = (sy_i F 33).toInt → (sy_i F1 34).toInt = (sy_i F 34).toInt → (sy_i F1 36).toInt = (sy_i F 36).toInt → (sy_i F1 37).toInt = (sy_i F 37).toInt → (sy_i F1 38).toInt = (sy_i F 38).toInt → (sy_i F1 18).toInt = (sy_i F 18).toInt → (sy_i F1 19).toInt = (sy_i F 19).toInt → sy_ai F1 39 = sy_ai F 39 → (sy_i F1 82).toInt = (sy_i F 82).toInt → (sy_i F1 83).toInt = 99 → hd_W Ls xs d jm_M35 Q (28, sy_dL F1 [some (.inl (.ref 30)), some (.inr (.inl 82)), some (.inr (.inl 83))], sy_dS F1 [.inr (.inl 82), .inl (.ref 30)], sy_dh F1 X1 X2 (iv_H 0), 0, 0)) :
    hd_W Ls xs d jm_M35 Q (0, sy_dL F [some (.inl (.ref 30)), some (.inr (.inl 82)), none], sy_dS F [], sy_dh F X1 X2 (iv_H 0), 0, 0) := by
  by_cases g0 : (sy_i F 82).toInt ≠ 8
  · by_cases g1 : (sy_i F 82).toInt ≠ 9
    · exact k0pg_0_p0 hd F X1 X2 hB (by first | exact g0 | (simp only [nz_c]; exact g0)) (by first | exact g1 | (simp only [nz_c]; exact g1)) (fun F1 g e82 e83 => k0 g0 g1 F1 (nz_in0 hB [] (fun j hj hn => g j hj (by simp only [List.mem_cons, List.not_mem_nil, or_false, not_or] at hn; exact trivial)) (List.forall_mem_nil _)) (fun j hj hn => g j hj (by simp only [List.mem_cons, List.not_mem_nil, or_false, not_or] at hn; exact trivial)) (nz_fi (g 33 (by decide) (by decide))) (nz_fi (g 34 (by decide) (by decide))) (nz_fi (g 36 (by decide) (by decide))) (nz_fi (g 37 (by decide) (by decide))) (nz_fi (g 38 (by decide) (by decide))) (nz_fi (g 18 (by decide) (by decide))) (nz_fi (g 19 (by decide) (by decide))) (nz_fa (g 39 (by decide) (by decide))) ((congrArg Int32.toInt (zz_i e82)).trans (rfl : (sy_i F 82).toInt = (sy_i F 82).toInt)) ((congrArg Int32.toInt (zz_i e83)).trans (by decide : ((9999 : Int32)).toInt = 9999)))
    replace g1 : (sy_i F 82).toInt = 9 := by omega
    exact k0pg_0_p1 hd F X1 X2 hB (by first | exact g0 | (simp only [nz_c]; exact g0)) (by first | exact g1 | (simp only [nz_c]; exact g1)) (fun F1 g e82 e83 => k1 g0 g1 F1 (nz_in0 hB [] (fun j hj hn => g j hj (by simp only [List.mem_cons, List.not_mem_nil, or_false, not_or] at hn; exact trivial)) (List.forall_mem_nil _)) (fun j hj hn => g j hj (by simp only [List.mem_cons, List.not_mem_nil, or_false, not_or] at hn; exact trivial)) (nz_fi (g 33 (by decide) (by decide))) (nz_fi (g 34 (by decide) (by decide))) (nz_fi (g 36 (by decide) (by decide))) (nz_fi (g 37 (by decide) (by decide))) (nz_fi (g 38 (by decide) (by decide))) (nz_fi (g 18 (by decide) (by decide))) (nz_fi (g 19 (by decide) (by decide))) (nz_fa (g 39 (by decide) (by decide))) ((congrArg Int32.toInt (zz_i e82)).trans (rfl : (sy_i F 82).toInt = (sy_i F 82).toInt)) ((congrArg Int32.toInt (zz_i e83)).trans (by decide : ((99 : Int32)).toInt = 99)))
  replace g0 : (sy_i F 82).toInt = 8 := by omega
  exact k0pg_0_p2 hd F X1 X2 hB (by first | exact g0 | (simp only [nz_c]; exact g0)) (fun F1 g e82 e83 => k2 g0 F1 (nz_in0 hB [] (fun j hj hn => g j hj (by simp only [List.mem_cons, List.not_mem_nil, or_false, not_or] at hn; exact trivial)) (List.forall_mem_nil _)) (fun j hj hn => g j hj (by simp only [List.mem_cons, List.not_mem_nil, or_false, not_or] at hn; exact trivial)) (nz_fi (g 33 (by decide) (by decide))) (nz_fi (g 34 (by decide) (by decide))) (nz_fi (g 36 (by decide) (by decide))) (nz_fi (g 37 (by decide) (by decide))) (nz_fi (g 38 (by decide) (by decide))) (nz_fi (g 18 (by decide) (by decide))) (nz_fi (g 19 (by decide) (by decide))) (nz_fa (g 39 (by decide) (by decide))) ((congrArg Int32.toInt (zz_i e82)).trans (rfl : (sy_i F 82).toInt = (sy_i F 82).toInt)) ((congrArg Int32.toInt (zz_i e83)).trans (by decide : ((99 : Int32)).toInt = 99)))
theorem k0pg_31_p0 {Ls : Nat} {xs : Nat → Int32} {d : Nat} {Q : Option Value → jm_h → Prop} (hd : 4 ≤ d) (F : Nat → sy_d) (X1 X2 : List jm_c) (hB : iv_in F iv_B0)
    (h0 : (sy_i F 84).toInt = 0)
    (k : ∀ F1 : Nat → sy_d, (∀ j, j < 82 → True → F1 j = F j) → Q (some (.int ((0 : Int32)))) (sy_dh F1 X1 X2 (iv_H 0))) :
    hd_W Ls xs d jm_M35 Q (31, sy_dL F [some (.inl (.ref 30)), some (.inr (.inl 82)), some (.inr (.inl 83))], sy_dS F [.inr (.inl 84)], sy_dh F X1 X2 (iv_H 0), 0, 0) := by
  refine hd_ret (s := 0) (nv := 85) (v := some (.inl (.int 0))) (uh := hd_ov (iv_id 0 iv_B0) []) (f := false) (sp := [38]) (d0 := 3) (O := [true]) (T := []) (P := [(0, .inr (.inl 84), .inl (.int 0))]) jm_ok35 (by decide +kernel) (by decide +kernel) hd F X1 X2 (fun F' hF hs => ?_)
  have b84 := hd_b (F := F) (F' := F') (k := 84) (hF 84 (by decide))
  have hB' : iv_in F' iv_B0 := iv_in_eq hB (fun j hj => hF j (Nat.lt_of_lt_of_le hj (by decide +kernel)))
  refine ⟨List.forall_mem_cons.mpr ⟨hd_p0 b84 rfl (by have hc : ((0) : Int32).toInt = 0 := (by decide); omega), fun _ h => absurd h List.not_mem_nil⟩, ?_⟩
  refine k _ ?_
  · exact fun j hj _ => (hd_keep hB' (Nat.lt_of_lt_of_le hj (by decide +kernel)) (by simp)).trans (hF j (Nat.lt_of_lt_of_le hj (by decide)))
theorem k0pg_31_p1 {Ls : Nat} {xs : Nat → Int32} {d : Nat} {Q : Option Value → jm_h → Prop} (hd : 4 ≤ d) (F : Nat → sy_d) (X1 X2 : List jm_c) (hB : iv_in F iv_B0)
    (h0 : (sy_i F 84).toInt ≠ 0)
    (k : ∀ F1 : Nat → sy_d, (∀ j, j < 82 → True → F1 j = F j) → F1 82 = .inl (.int (sy_i F 82)) → F1 83 = .inl (.int (sy_i F 83)) → hd_W Ls xs d jm_M35 Q (38, sy_dL F1 [some (.inl (.ref 30)), some (.inr (.inl 82)), none], sy_dS F1 [.inr (.inl 83), .inl (.int 0), .inl (.int 0), .inl (.ref 30)], sy_dh F1 X1 X2 (iv_H 0), 0, 0)) :
    hd_W Ls xs d jm_M35 Q (31, sy_dL F [some (.inl (.ref 30)), some (.inr (.inl 82)), some (.inr (.inl 83))], sy_dS F [.inr (.inl 84)], sy_dh F X1 X2 (iv_H 0), 0, 0) := by
  refine hd_run (s := 0) (nv := 85) (pc := 38) (L := [some (.inl (.ref 30)), some (.inr (.inl 82)), none]) (S := [.inr (.inl 83), .inl (.int 0), .inl (.int 0), .inl (.ref 30)]) (uh := hd_ov (iv_id 0 iv_B0) []) (ul := [.inl (.inr (.inl 82)), .inl (.inr (.inl 83))]) (f := false) (sp := [38]) (d0 := 3) (O := [false]) (T := []) (P := [(1, .inr (.inl 84), .inl (.int 0))]) jm_ok35 (by decide +kernel) (by decide +kernel) hd F X1 X2 (fun F' hF hs => ?_)
  have b84 := hd_b (F := F) (F' := F') (k := 84) (hF 84 (by decide))
  have b82 := hd_b (F := F) (F' := F') (k := 82) (hF 82 (by decide))
  have b83 := hd_b (F := F) (F' := F') (k := 83) (hF 83 (by decide))
  have hB' : iv_in F' iv_B0 := iv_in_eq hB (fun j hj => hF j (Nat.lt_of_lt_of_le hj (by decide +kernel)))
  refine ⟨List.forall_mem_cons.mpr ⟨hd_p1 b84 rfl (by have hc : ((0) : Int32).toInt = 0 := (by decide); omega), fun _ h => absurd h List.not_mem_nil⟩, ?_⟩
  refine k _ ?_ ?_ ?_
  · exact fun j hj _ => (hd_keep hB' (Nat.lt_of_lt_of_le hj (by decide +kernel)) (by simp)).trans (hF j (Nat.lt_of_lt_of_le hj (by decide)))
  · exact hd_gi (x := .inr (.inl 82)) (by decide +kernel) b82
  · exact hd_gi (x := .inr (.inl 83)) (by decide +kernel) b83
theorem k0pg_31 {Ls : Nat} {xs : Nat → Int32} {d : Nat} {Q : Option Value → jm_h → Prop} (hd : 4 ≤ d) (F : Nat → sy_d) (X1 X2 : List jm_c) (hB : iv_in F iv_B0)
    (k0 : (sy_i F 84).toInt = 0 → ∀ F1 : Nat → sy_d, iv_in F1 iv_B0 → (∀ j, j < 82 → j ∉ ([] : List Nat) → F1 j = F j) → (sy_i F1 33).toInt = (sy_i F 33).toInt → (sy_i F1 34).toInt = (sy_i F 34).toInt → (sy_i F1 36).toInt = (sy_i F 36).toInt → (sy_i F1 37).toInt = (sy_i F 37).toInt → (sy_i F1 38).toInt = (sy_i F 38).toInt → (sy_i F1 18).toInt = (sy_i F 18).toInt → (sy_i F1 19).toInt = (sy_i F 19).toInt → sy_ai F1 39 = sy_ai F 39 → Q (some (.int ((0 : Int32)))) (sy_dh F1 X1 X2 (iv_H 0)))
    (k1 : (sy_i F 84).toInt ≠ 0 → ∀ F1 : Nat → sy_d, iv_in F1 iv_B0 → (∀ j, j < 82 → j ∉ ([] : List Nat) → F1 j = F j) → (sy_i F1 33).toInt = (sy_i F 33).toInt → (sy_i F1 34).toInt = (sy_i F 34).toInt → (sy_i F1 36).toInt = (sy_i F 36).toInt → (sy_i F1 37).toInt = (sy_i F 37).toInt → (sy_i F1 38).toInt = (sy_i F 38).toInt → (sy_i F1 18).toInt = (sy_i F 18).toInt → (sy_i F1 19).toInt = (sy_i F 19).toInt → sy_ai F1 39 = sy_ai F 39 → (sy_i F1 82).toInt = (sy_i F 82).toInt → (sy_i F1 83).toInt = (sy_i F 83).toInt → hd_W Ls xs d jm_M35 Q (38, sy_dL F1 [some (.inl (.ref 30)), some (.inr (.inl 82)), none], sy_dS F1 [.inr (.inl 83), .inl (.int 0), .inl (.int 0), .inl (.ref 30)], sy_dh F1 X1 X2 (iv_H 0), 0, 0)) :
    hd_W Ls xs d jm_M35 Q (31, sy_dL F [some (.inl (.ref 30)), some (.inr (.inl 82)), some (.inr (.inl 83))], sy_dS F [.inr (.inl 84)], sy_dh F X1 X2 (iv_H 0), 0, 0) := by
  by_cases g0 : (sy_i F 84).toInt = 0
  · exact k0pg_31_p0 hd F X1 X2 hB (by first | exact g0 | (simp only [nz_c]; exact g0)) (fun F1 g  => k0 g0 F1 (nz_in0 hB [] (fun j hj hn => g j hj (by simp only [List.mem_cons, List.not_mem_nil, or_false, not_or] at hn; exact trivial)) (List.forall_mem_nil _)) (fun j hj hn => g j hj (by simp only [List.mem_cons, List.not_mem_nil, or_false, not_or] at hn; exact trivial)) (nz_fi (g 33 (by decide) (by decide))) (nz_fi (g 34 (by decide) (by decide))) (nz_fi (g 36 (by decide) (by decide))) (nz_fi (g 37 (by decide) (by decide))) (nz_fi (g 38 (by decide) (by decide))) (nz_fi (g 18 (by decide) (by decide))) (nz_fi (g 19 (by decide) (by decide))) (nz_fa (g 39 (by decide) (by decide))))
  replace g0 : (sy_i F 84).toInt ≠ 0 := by omega
  exact k0pg_31_p1 hd F X1 X2 hB (by first | exact g0 | (simp only [nz_c]; exact g0)) (fun F1 g e82 e83 => k1 g0 F1 (nz_in0 hB [] (fun j hj hn => g j hj (by simp only [List.mem_cons, List.not_mem_nil, or_false, not_or] at hn; exact trivial)) (List.forall_mem_nil _)) (fun j hj hn => g j hj (by simp only [List.mem_cons, List.not_mem_nil, or_false, not_or] at hn; exact trivial)) (nz_fi (g 33 (by decide) (by decide))) (nz_fi (g 34 (by decide) (by decide))) (nz_fi (g 36 (by decide) (by decide))) (nz_fi (g 37 (by decide) (by decide))) (nz_fi (g 38 (by decide) (by decide))) (nz_fi (g 18 (by decide) (by decide))) (nz_fi (g 19 (by decide) (by decide))) (nz_fa (g 39 (by decide) (by decide))) ((congrArg Int32.toInt (zz_i e82)).trans (rfl : (sy_i F 82).toInt = (sy_i F 82).toInt)) ((congrArg Int32.toInt (zz_i e83)).trans (rfl : (sy_i F 83).toInt = (sy_i F 83).toInt)))
theorem k0pg_41_p0 {Ls : Nat} {xs : Nat → Int32} {d : Nat} {Q : Option Value → jm_h → Prop} (hd : 4 ≤ d) (F : Nat → sy_d) (X1 X2 : List jm_c) (hB : iv_in F iv_B0)
    (h0 : (sy_i F 84).toInt = 0)
    (k : ∀ F1 : Nat → sy_d, (∀ j, j < 82 → True → F1 j = F j) → Q (some (.int ((0 : Int32)))) (sy_dh F1 X1 X2 (iv_H 0))) :
    hd_W Ls xs d jm_M35 Q (41, sy_dL F [some (.inl (.ref 30)), some (.inr (.inl 82)), none], sy_dS F [.inr (.inl 84)], sy_dh F X1 X2 (iv_H 0), 0, 0) := by
  refine hd_ret (s := 0) (nv := 85) (v := some (.inl (.int 0))) (uh := hd_ov (iv_id 0 iv_B0) []) (f := false) (sp := [47]) (d0 := 3) (O := [true]) (T := []) (P := [(0, .inr (.inl 84), .inl (.int 0))]) jm_ok35 (by decide +kernel) (by decide +kernel) hd F X1 X2 (fun F' hF hs => ?_)
  have b84 := hd_b (F := F) (F' := F') (k := 84) (hF 84 (by decide))
  have hB' : iv_in F' iv_B0 := iv_in_eq hB (fun j hj => hF j (Nat.lt_of_lt_of_le hj (by decide +kernel)))
  refine ⟨List.forall_mem_cons.mpr ⟨hd_p0 b84 rfl (by have hc : ((0) : Int32).toInt = 0 := (by decide); omega), fun _ h => absurd h List.not_mem_nil⟩, ?_⟩
  refine k _ ?_
  · exact fun j hj _ => (hd_keep hB' (Nat.lt_of_lt_of_le hj (by decide +kernel)) (by simp)).trans (hF j (Nat.lt_of_lt_of_le hj (by decide)))
theorem k0pg_41_p1 {Ls : Nat} {xs : Nat → Int32} {d : Nat} {Q : Option Value → jm_h → Prop} (hd : 4 ≤ d) (F : Nat → sy_d) (X1 X2 : List jm_c) (hB : iv_in F iv_B0)
    (h0 : (sy_i F 84).toInt ≠ 0)
    (k : ∀ F1 : Nat → sy_d, (∀ j, j < 82 → True → F1 j = F j) → F1 82 = .inl (.int (sy_i F 82)) → hd_W Ls xs d jm_M35 Q (47, sy_dL F1 [some (.inl (.ref 30)), some (.inr (.inl 82)), none], sy_dS F1 [.inl (.int 59), .inl (.ref 30)], sy_dh F1 X1 X2 (iv_H 0), 0, 0)) :
    hd_W Ls xs d jm_M35 Q (41, sy_dL F [some (.inl (.ref 30)), some (.inr (.inl 82)), none], sy_dS F [.inr (.inl 84)], sy_dh F X1 X2 (iv_H 0), 0, 0) := by
  refine hd_run (s := 0) (nv := 85) (pc := 47) (L := [some (.inl (.ref 30)), some (.inr (.inl 82)), none]) (S := [.inl (.int 59), .inl (.ref 30)]) (uh := hd_ov (iv_id 0 iv_B0) []) (ul := [.inl (.inr (.inl 82))]) (f := false) (sp := [47]) (d0 := 3) (O := [false]) (T := []) (P := [(1, .inr (.inl 84), .inl (.int 0))]) jm_ok35 (by decide +kernel) (by decide +kernel) hd F X1 X2 (fun F' hF hs => ?_)
  have b84 := hd_b (F := F) (F' := F') (k := 84) (hF 84 (by decide))
  have b82 := hd_b (F := F) (F' := F') (k := 82) (hF 82 (by decide))
  have hB' : iv_in F' iv_B0 := iv_in_eq hB (fun j hj => hF j (Nat.lt_of_lt_of_le hj (by decide +kernel)))
  refine ⟨List.forall_mem_cons.mpr ⟨hd_p1 b84 rfl (by have hc : ((0) : Int32).toInt = 0 := (by decide); omega), fun _ h => absurd h List.not_mem_nil⟩, ?_⟩
  refine k _ ?_ ?_
  · exact fun j hj _ => (hd_keep hB' (Nat.lt_of_lt_of_le hj (by decide +kernel)) (by simp)).trans (hF j (Nat.lt_of_lt_of_le hj (by decide)))
  · exact hd_gi (x := .inr (.inl 82)) (by decide +kernel) b82
theorem k0pg_41 {Ls : Nat} {xs : Nat → Int32} {d : Nat} {Q : Option Value → jm_h → Prop} (hd : 4 ≤ d) (F : Nat → sy_d) (X1 X2 : List jm_c) (hB : iv_in F iv_B0)
    (k0 : (sy_i F 84).toInt = 0 → ∀ F1 : Nat → sy_d, iv_in F1 iv_B0 → (∀ j, j < 82 → j ∉ ([] : List Nat) → F1 j = F j) → (sy_i F1 33).toInt = (sy_i F 33).toInt → (sy_i F1 34).toInt = (sy_i F 34).toInt → (sy_i F1 36).toInt = (sy_i F 36).toInt → (sy_i F1 37).toInt = (sy_i F 37).toInt → (sy_i F1 38).toInt = (sy_i F 38).toInt → (sy_i F1 18).toInt = (sy_i F 18).toInt → (sy_i F1 19).toInt = (sy_i F 19).toInt → sy_ai F1 39 = sy_ai F 39 → Q (some (.int ((0 : Int32)))) (sy_dh F1 X1 X2 (iv_H 0)))
    (k1 : (sy_i F 84).toInt ≠ 0 → ∀ F1 : Nat → sy_d, iv_in F1 iv_B0 → (∀ j, j < 82 → j ∉ ([] : List Nat) → F1 j = F j) → (sy_i F1 33).toInt = (sy_i F 33).toInt → (sy_i F1 34).toInt = (sy_i F 34).toInt → (sy_i F1 36).toInt = (sy_i F 36).toInt → (sy_i F1 37).toInt = (sy_i F 37).toInt → (sy_i F1 38).toInt = (sy_i F 38).toInt → (sy_i F1 18).toInt = (sy_i F 18).toInt → (sy_i F1 19).toInt = (sy_i F 19).toInt → sy_ai F1 39 = sy_ai F 39 → (sy_i F1 82).toInt = (sy_i F 82).toInt → hd_W Ls xs d jm_M35 Q (47, sy_dL F1 [some (.inl (.ref 30)), some (.inr (.inl 82)), none], sy_dS F1 [.inl (.int 59), .inl (.ref 30)], sy_dh F1 X1 X2 (iv_H 0), 0, 0)) :
    hd_W Ls xs d jm_M35 Q (41, sy_dL F [some (.inl (.ref 30)), some (.inr (.inl 82)), none], sy_dS F [.inr (.inl 84)], sy_dh F X1 X2 (iv_H 0), 0, 0) := by
  by_cases g0 : (sy_i F 84).toInt = 0
  · exact k0pg_41_p0 hd F X1 X2 hB (by first | exact g0 | (simp only [nz_c]; exact g0)) (fun F1 g  => k0 g0 F1 (nz_in0 hB [] (fun j hj hn => g j hj (by simp only [List.mem_cons, List.not_mem_nil, or_false, not_or] at hn; exact trivial)) (List.forall_mem_nil _)) (fun j hj hn => g j hj (by simp only [List.mem_cons, List.not_mem_nil, or_false, not_or] at hn; exact trivial)) (nz_fi (g 33 (by decide) (by decide))) (nz_fi (g 34 (by decide) (by decide))) (nz_fi (g 36 (by decide) (by decide))) (nz_fi (g 37 (by decide) (by decide))) (nz_fi (g 38 (by decide) (by decide))) (nz_fi (g 18 (by decide) (by decide))) (nz_fi (g 19 (by decide) (by decide))) (nz_fa (g 39 (by decide) (by decide))))
  replace g0 : (sy_i F 84).toInt ≠ 0 := by omega
  exact k0pg_41_p1 hd F X1 X2 hB (by first | exact g0 | (simp only [nz_c]; exact g0)) (fun F1 g e82 => k1 g0 F1 (nz_in0 hB [] (fun j hj hn => g j hj (by simp only [List.mem_cons, List.not_mem_nil, or_false, not_or] at hn; exact trivial)) (List.forall_mem_nil _)) (fun j hj hn => g j hj (by simp only [List.mem_cons, List.not_mem_nil, or_false, not_or] at hn; exact trivial)) (nz_fi (g 33 (by decide) (by decide))) (nz_fi (g 34 (by decide) (by decide))) (nz_fi (g 36 (by decide) (by decide))) (nz_fi (g 37 (by decide) (by decide))) (nz_fi (g 38 (by decide) (by decide))) (nz_fi (g 18 (by decide) (by decide))) (nz_fi (g 19 (by decide) (by decide))) (nz_fa (g 39 (by decide) (by decide))) ((congrArg Int32.toInt (zz_i e82)).trans (rfl : (sy_i F 82).toInt = (sy_i F 82).toInt)))
theorem k0pg_50_p0 {Ls : Nat} {xs : Nat → Int32} {d : Nat} {Q : Option Value → jm_h → Prop} (hd : 4 ≤ d) (F : Nat → sy_d) (X1 X2 : List jm_c) (hB : iv_in F iv_B0)
    (h0 : (sy_i F 83).toInt ≠ 0)
    (h1 : (sy_i F 82).toInt ≠ 8)
    (h2 : (sy_i F 82).toInt ≠ 9)
    (k : ∀ F1 : Nat → sy_d, (∀ j, j < 82 → j ≠ 22 → F1 j = F j) → F1 22 = .inl (.int ((sy_ai F 44).getD ((0 : Int32)).toNatClampNeg 0)) → Q (some (.int ((1 : Int32)))) (sy_dh F1 X1 X2 (iv_H 0))) :
    hd_W Ls xs d jm_M35 Q (50, sy_dL F [some (.inl (.ref 30)), some (.inr (.inl 82)), none], sy_dS F [.inr (.inl 83)], sy_dh F X1 X2 (iv_H 0), 0, 0) := by
  refine hd_ret (s := 0) (nv := 84) (v := some (.inl (.int 1))) (uh := hd_ov (iv_id 0 iv_B0) [(22, .inl (.inr (.inl 84)))]) (f := false) (sp := []) (d0 := 3) (O := [true, true, true]) (T := [(30, [.inl (.int 0)], [.inr (.inl 44)])]) (P := [(1, .inr (.inl 83), .inl (.int 0)), (1, .inr (.inl 82), .inl (.int 8)), (1, .inr (.inl 82), .inl (.int 9))]) jm_ok35 (by decide +kernel) (by decide +kernel) hd F X1 X2 (fun F' hF hs => ?_)
  have b83 := hd_b (F := F) (F' := F') (k := 83) (hF 83 (by decide))
  have b82 := hd_b (F := F) (F' := F') (k := 82) (hF 82 (by decide))
  have a44 := hd_ba (F := F) (F' := F') (k := 44) (hF 44 (by decide))
  have t84 : sy_dv F' (.inr (.inl 84)) = .int ((sy_ai F 44).getD ((0 : Int32)).toNatClampNeg 0) := hd_rd (hs 0 _ rfl) rfl a44
  have hB' : iv_in F' iv_B0 := iv_in_eq hB (fun j hj => hF j (Nat.lt_of_lt_of_le hj (by decide +kernel)))
  refine ⟨List.forall_mem_cons.mpr ⟨hd_p1 b83 rfl (by have hc : ((0) : Int32).toInt = 0 := (by decide); omega), List.forall_mem_cons.mpr ⟨hd_p1 b82 rfl (by have hc : ((8) : Int32).toInt = 8 := (by decide); omega), List.forall_mem_cons.mpr ⟨hd_p1 b82 rfl (by have hc : ((9) : Int32).toInt = 9 := (by decide); omega), fun _ h => absurd h List.not_mem_nil⟩⟩⟩, ?_⟩
  refine k _ ?_ ?_
  · exact fun j hj hn => (hd_keep hB' (Nat.lt_of_lt_of_le hj (by decide +kernel)) (by simp; omega)).trans (hF j (Nat.lt_of_lt_of_le hj (by decide)))
  · exact hd_gi (x := .inr (.inl 84)) (by decide +kernel) t84
theorem k0pg_50_p1 {Ls : Nat} {xs : Nat → Int32} {d : Nat} {Q : Option Value → jm_h → Prop} (hd : 4 ≤ d) (F : Nat → sy_d) (X1 X2 : List jm_c) (hB : iv_in F iv_B0)
    (h0 : (sy_i F 83).toInt ≠ 0)
    (h1 : (sy_i F 82).toInt ≠ 8)
    (h2 : (sy_i F 82).toInt = 9)
    (k : ∀ F1 : Nat → sy_d, (∀ j, j < 82 → j ≠ 21 → F1 j = F j) → F1 21 = .inl (.int ((sy_ai F 44).getD ((0 : Int32)).toNatClampNeg 0)) → Q (some (.int ((1 : Int32)))) (sy_dh F1 X1 X2 (iv_H 0))) :
    hd_W Ls xs d jm_M35 Q (50, sy_dL F [some (.inl (.ref 30)), some (.inr (.inl 82)), none], sy_dS F [.inr (.inl 83)], sy_dh F X1 X2 (iv_H 0), 0, 0) := by
  refine hd_ret (s := 0) (nv := 84) (v := some (.inl (.int 1))) (uh := hd_ov (iv_id 0 iv_B0) [(21, .inl (.inr (.inl 84)))]) (f := false) (sp := []) (d0 := 3) (O := [true, true, false]) (T := [(30, [.inl (.int 0)], [.inr (.inl 44)])]) (P := [(1, .inr (.inl 83), .inl (.int 0)), (1, .inr (.inl 82), .inl (.int 8)), (0, .inr (.inl 82), .inl (.int 9))]) jm_ok35 (by decide +kernel) (by decide +kernel) hd F X1 X2 (fun F' hF hs => ?_)
  have b83 := hd_b (F := F) (F' := F') (k := 83) (hF 83 (by decide))
  have b82 := hd_b (F := F) (F' := F') (k := 82) (hF 82 (by decide))
  have a44 := hd_ba (F := F) (F' := F') (k := 44) (hF 44 (by decide))
  have t84 : sy_dv F' (.inr (.inl 84)) = .int ((sy_ai F 44).getD ((0 : Int32)).toNatClampNeg 0) := hd_rd (hs 0 _ rfl) rfl a44
  have hB' : iv_in F' iv_B0 := iv_in_eq hB (fun j hj => hF j (Nat.lt_of_lt_of_le hj (by decide +kernel)))
  refine ⟨List.forall_mem_cons.mpr ⟨hd_p1 b83 rfl (by have hc : ((0) : Int32).toInt = 0 := (by decide); omega), List.forall_mem_cons.mpr ⟨hd_p1 b82 rfl (by have hc : ((8) : Int32).toInt = 8 := (by decide); omega), List.forall_mem_cons.mpr ⟨hd_p0 b82 rfl (by have hc : ((9) : Int32).toInt = 9 := (by decide); omega), fun _ h => absurd h List.not_mem_nil⟩⟩⟩, ?_⟩
  refine k _ ?_ ?_
  · exact fun j hj hn => (hd_keep hB' (Nat.lt_of_lt_of_le hj (by decide +kernel)) (by simp; omega)).trans (hF j (Nat.lt_of_lt_of_le hj (by decide)))
  · exact hd_gi (x := .inr (.inl 84)) (by decide +kernel) t84
theorem k0pg_50_p2 {Ls : Nat} {xs : Nat → Int32} {d : Nat} {Q : Option Value → jm_h → Prop} (hd : 4 ≤ d) (F : Nat → sy_d) (X1 X2 : List jm_c) (hB : iv_in F iv_B0)
    (h0 : (sy_i F 83).toInt ≠ 0)
    (h1 : (sy_i F 82).toInt = 8)
    (k : ∀ F1 : Nat → sy_d, (∀ j, j < 82 → j ≠ 20 → F1 j = F j) → F1 20 = .inl (.int ((sy_ai F 44).getD ((0 : Int32)).toNatClampNeg 0)) → Q (some (.int ((1 : Int32)))) (sy_dh F1 X1 X2 (iv_H 0))) :
    hd_W Ls xs d jm_M35 Q (50, sy_dL F [some (.inl (.ref 30)), some (.inr (.inl 82)), none], sy_dS F [.inr (.inl 83)], sy_dh F X1 X2 (iv_H 0), 0, 0) := by
  refine hd_ret (s := 0) (nv := 84) (v := some (.inl (.int 1))) (uh := hd_ov (iv_id 0 iv_B0) [(20, .inl (.inr (.inl 84)))]) (f := false) (sp := []) (d0 := 3) (O := [true, false]) (T := [(30, [.inl (.int 0)], [.inr (.inl 44)])]) (P := [(1, .inr (.inl 83), .inl (.int 0)), (0, .inr (.inl 82), .inl (.int 8))]) jm_ok35 (by decide +kernel) (by decide +kernel) hd F X1 X2 (fun F' hF hs => ?_)
  have b83 := hd_b (F := F) (F' := F') (k := 83) (hF 83 (by decide))
  have b82 := hd_b (F := F) (F' := F') (k := 82) (hF 82 (by decide))
  have a44 := hd_ba (F := F) (F' := F') (k := 44) (hF 44 (by decide))
  have t84 : sy_dv F' (.inr (.inl 84)) = .int ((sy_ai F 44).getD ((0 : Int32)).toNatClampNeg 0) := hd_rd (hs 0 _ rfl) rfl a44
  have hB' : iv_in F' iv_B0 := iv_in_eq hB (fun j hj => hF j (Nat.lt_of_lt_of_le hj (by decide +kernel)))
  refine ⟨List.forall_mem_cons.mpr ⟨hd_p1 b83 rfl (by have hc : ((0) : Int32).toInt = 0 := (by decide); omega), List.forall_mem_cons.mpr ⟨hd_p0 b82 rfl (by have hc : ((8) : Int32).toInt = 8 := (by decide); omega), fun _ h => absurd h List.not_mem_nil⟩⟩, ?_⟩
  refine k _ ?_ ?_
  · exact fun j hj hn => (hd_keep hB' (Nat.lt_of_lt_of_le hj (by decide +kernel)) (by simp; omega)).trans (hF j (Nat.lt_of_lt_of_le hj (by decide)))
  · exact hd_gi (x := .inr (.inl 84)) (by decide +kernel) t84
theorem k0pg_50_p3 {Ls : Nat} {xs : Nat → Int32} {d : Nat} {Q : Option Value → jm_h → Prop} (hd : 4 ≤ d) (F : Nat → sy_d) (X1 X2 : List jm_c) (hB : iv_in F iv_B0)
    (h0 : (sy_i F 83).toInt = 0)
    (k : ∀ F1 : Nat → sy_d, (∀ j, j < 82 → True → F1 j = F j) → Q (some (.int ((0 : Int32)))) (sy_dh F1 X1 X2 (iv_H 0))) :
    hd_W Ls xs d jm_M35 Q (50, sy_dL F [some (.inl (.ref 30)), some (.inr (.inl 82)), none], sy_dS F [.inr (.inl 83)], sy_dh F X1 X2 (iv_H 0), 0, 0) := by
  refine hd_ret (s := 0) (nv := 84) (v := some (.inl (.int 0))) (uh := hd_ov (iv_id 0 iv_B0) []) (f := false) (sp := []) (d0 := 3) (O := [false]) (T := []) (P := [(0, .inr (.inl 83), .inl (.int 0))]) jm_ok35 (by decide +kernel) (by decide +kernel) hd F X1 X2 (fun F' hF hs => ?_)
  have b83 := hd_b (F := F) (F' := F') (k := 83) (hF 83 (by decide))
  have hB' : iv_in F' iv_B0 := iv_in_eq hB (fun j hj => hF j (Nat.lt_of_lt_of_le hj (by decide +kernel)))
  refine ⟨List.forall_mem_cons.mpr ⟨hd_p0 b83 rfl (by have hc : ((0) : Int32).toInt = 0 := (by decide); omega), fun _ h => absurd h List.not_mem_nil⟩, ?_⟩
  refine k _ ?_
  · exact fun j hj _ => (hd_keep hB' (Nat.lt_of_lt_of_le hj (by decide +kernel)) (by simp)).trans (hF j (Nat.lt_of_lt_of_le hj (by decide)))
end
section
/-! ===== the class parses fruit, buyers, settings, way by way (shape 3) ===== -/
theorem k3pf_0_p0 {Ls : Nat} {xs : Nat → Int32} {d : Nat} {Q : Option Value → jm_h → Prop} (hd : 4 ≤ d) (F : Nat → sy_d) (X1 X2 : List jm_c) (hB : iv_in F iv_B0)
    (h0 : (sy_i F 3).toInt < 7)
    (k : ∀ F1 : Nat → sy_d, (∀ j, j < 82 → True → F1 j = F j) → hd_W Ls xs d jm_M33 Q (20, sy_dL F1 [some (.inl (.ref 30)), none], sy_dS F1 [.inl (.int 0), .inl (.ref 30)], sy_dh F1 X1 X2 (iv_H 3), 0, 0)) :
    hd_W Ls xs d jm_M33 Q (0, sy_dL F [some (.inl (.ref 30)), none], sy_dS F [], sy_dh F X1 X2 (iv_H 3), 0, 0) := by
  refine hd_run (s := 3) (nv := 82) (pc := 20) (L := [some (.inl (.ref 30)), none]) (S := [.inl (.int 0), .inl (.ref 30)]) (uh := hd_ov (iv_id 0 iv_B0) []) (ul := []) (f := true) (sp := [20]) (d0 := 3) (O := [true]) (T := []) (P := [(2, .inr (.inl 3), .inl (.int 7))]) jm_ok33 (by decide +kernel) (by decide +kernel) hd F X1 X2 (fun F' hF hs => ?_)
  have b3 := hd_b (F := F) (F' := F') (k := 3) (hF 3 (by decide))
  have hB' : iv_in F' iv_B0 := iv_in_eq hB (fun j hj => hF j (Nat.lt_of_lt_of_le hj (by decide +kernel)))
  refine ⟨List.forall_mem_cons.mpr ⟨hd_p2 b3 rfl (by have hc : ((7) : Int32).toInt = 7 := (by decide); omega), fun _ h => absurd h List.not_mem_nil⟩, ?_⟩
  refine k _ ?_
  · exact fun j hj _ => (hd_keep hB' (Nat.lt_of_lt_of_le hj (by decide +kernel)) (by simp)).trans (hF j (Nat.lt_of_lt_of_le hj (by decide)))
theorem k3pf_0_p1 {Ls : Nat} {xs : Nat → Int32} {d : Nat} {Q : Option Value → jm_h → Prop} (hd : 4 ≤ d) (F : Nat → sy_d) (X1 X2 : List jm_c) (hB : iv_in F iv_B0)
    (h0 : 7 ≤ (sy_i F 3).toInt)
    (k : ∀ F1 : Nat → sy_d, (∀ j, j < 82 → j ≠ 34 → F1 j = F j) → F1 34 = .inl (.int ((2 : Int32))) → Q (some (.int ((0 : Int32)))) (sy_dh F1 X1 X2 (iv_H 3))) :
    hd_W Ls xs d jm_M33 Q (0, sy_dL F [some (.inl (.ref 30)), none], sy_dS F [], sy_dh F X1 X2 (iv_H 3), 0, 0) := by
  refine hd_ret (s := 3) (nv := 82) (v := some (.inl (.int 0))) (uh := hd_ov (iv_id 0 iv_B0) [(34, .inl (.inl (.int 2)))]) (f := true) (sp := [20]) (d0 := 3) (O := [false]) (T := []) (P := [(3, .inr (.inl 3), .inl (.int 7))]) jm_ok33 (by decide +kernel) (by decide +kernel) hd F X1 X2 (fun F' hF hs => ?_)
  have b3 := hd_b (F := F) (F' := F') (k := 3) (hF 3 (by decide))
  have hB' : iv_in F' iv_B0 := iv_in_eq hB (fun j hj => hF j (Nat.lt_of_lt_of_le hj (by decide +kernel)))
  refine ⟨List.forall_mem_cons.mpr ⟨hd_p3 b3 rfl (by have hc : ((7) : Int32).toInt = 7 := (by decide); omega), fun _ h => absurd h List.not_mem_nil⟩, ?_⟩
  refine k _ ?_ ?_
  · exact fun j hj hn => (hd_keep hB' (Nat.lt_of_lt_of_le hj (by decide +kernel)) (by simp; omega)).trans (hF j (Nat.lt_of_lt_of_le hj (by decide)))
  · exact hd_gi (x := .inl (.int 2)) (by decide +kernel) rfl
theorem k3pf_0 {Ls : Nat} {xs : Nat → Int32} {d : Nat} {Q : Option Value → jm_h → Prop} (hd : 4 ≤ d) (F : Nat → sy_d) (X1 X2 : List jm_c) (hB : iv_in F iv_B0)
    (k0 : (sy_i F 3).toInt < 7 → ∀ F1 : Nat → sy_d, iv_in F1 iv_B0 → (∀ j, j < 82 → j ∉ ([] : List Nat) → F1 j = F j) → (sy_i F1 33).toInt = (sy_i F 33).toInt → (sy_i F1 34).toInt = (sy_i F 34).toInt → (sy_i F1 36).toInt = (sy_i F 36).toInt → (sy_i F1 37).toInt = (sy_i F 37).toInt → (sy_i F1 38).toInt = (sy_i F 38).toInt → (sy_i F1 3).toInt = (sy_i F 3).toInt → (sy_i F1 4).toInt = (sy_i F 4).toInt → sy_ai F1 39 = sy_ai F 39 → hd_W Ls xs d jm_M33 Q (20, sy_dL F1 [some (.inl (.ref 30)), none], sy_dS F1 [.inl (.int 0), .inl (.ref 30)], sy_dh F1 X1 X2 (iv_H 3), 0, 0))
    (k1 : 7 ≤ (sy_i F 3).toInt → ∀ F1 : Nat → sy_d, iv_in F1 iv_B0 → (∀ j, j < 82 → j ∉ ([34] : List Nat) → F1 j = F j) → (sy_i F1 33).toInt = (sy_i F 33).toInt → (sy_i F1 34).toInt = 2 → (sy_i F1 36).toInt = (sy_i F 36).toInt → (sy_i F1 37).toInt = (sy_i F 37).toInt → (sy_i F1 38).toInt = (sy_i F 38).toInt → (sy_i F1 3).toInt = (sy_i F 3).toInt → (sy_i F1 4).toInt = (sy_i F 4).toInt → sy_ai F1 39 = sy_ai F 39 → Q (some (.int ((0 : Int32)))) (sy_dh F1 X1 X2 (iv_H 3))) :
    hd_W Ls xs d jm_M33 Q (0, sy_dL F [some (.inl (.ref 30)), none], sy_dS F [], sy_dh F X1 X2 (iv_H 3), 0, 0) := by
  by_cases g0 : (sy_i F 3).toInt < 7
  · have c3 := nz_bx hB (k := 3) (lo := 0) (hi := 7) rfl
    exact k3pf_0_p0 hd F X1 X2 hB (by first | exact g0 | (simp only [nz_c]; exact g0)) (fun F1 g  => k0 g0 F1 (nz_in0 hB [] (fun j hj hn => g j hj (by simp only [List.mem_cons, List.not_mem_nil, or_false, not_or] at hn; exact trivial)) (List.forall_mem_nil _)) (fun j hj hn => g j hj (by simp only [List.mem_cons, List.not_mem_nil, or_false, not_or] at hn; exact trivial)) (nz_fi (g 33 (by decide) (by decide))) (nz_fi (g 34 (by decide) (by decide))) (nz_fi (g 36 (by decide) (by decide))) (nz_fi (g 37 (by decide) (by decide))) (nz_fi (g 38 (by decide) (by decide))) (nz_fi (g 3 (by decide) (by decide))) (nz_fi (g 4 (by decide) (by decide))) (nz_fa (g 39 (by decide) (by decide))))
  replace g0 : 7 ≤ (sy_i F 3).toInt := by omega
  have c3 := nz_bx hB (k := 3) (lo := 0) (hi := 7) rfl
  exact k3pf_0_p1 hd F X1 X2 hB (by first | exact g0 | (simp only [nz_c]; exact g0)) (fun F1 g e34 => k1 g0 F1 (nz_in0 hB [34] (fun j hj hn => g j hj (by simp only [List.mem_cons, List.not_mem_nil, or_false, not_or] at hn; omega)) (List.forall_mem_cons.mpr ⟨fun t ht => (Option.some.inj ht) ▸ (nz_hz e34), List.forall_mem_nil _⟩)) (fun j hj hn => g j hj (by simp only [List.mem_cons, List.not_mem_nil, or_false, not_or] at hn; omega)) (nz_fi (g 33 (by decide) (by decide))) ((congrArg Int32.toInt (zz_i e34)).trans (by decide : ((2 : Int32)).toInt = 2)) (nz_fi (g 36 (by decide) (by decide))) (nz_fi (g 37 (by decide) (by decide))) (nz_fi (g 38 (by decide) (by decide))) (nz_fi (g 3 (by decide) (by decide))) (nz_fi (g 4 (by decide) (by decide))) (nz_fa (g 39 (by decide) (by decide))))
theorem k3pf_23_p0 {Ls : Nat} {xs : Nat → Int32} {d : Nat} {Q : Option Value → jm_h → Prop} (hd : 4 ≤ d) (F : Nat → sy_d) (X1 X2 : List jm_c) (hB : iv_in F iv_B0)
    (h0 : (sy_i F 82).toInt = 0)
    (k : ∀ F1 : Nat → sy_d, (∀ j, j < 82 → True → F1 j = F j) → Q (some (.int ((0 : Int32)))) (sy_dh F1 X1 X2 (iv_H 3))) :
    hd_W Ls xs d jm_M33 Q (23, sy_dL F [some (.inl (.ref 30)), none], sy_dS F [.inr (.inl 82)], sy_dh F X1 X2 (iv_H 3), 0, 0) := by
  refine hd_ret (s := 3) (nv := 83) (v := some (.inl (.int 0))) (uh := hd_ov (iv_id 0 iv_B0) []) (f := false) (sp := [27]) (d0 := 3) (O := [true]) (T := []) (P := [(0, .inr (.inl 82), .inl (.int 0))]) jm_ok33 (by decide +kernel) (by decide +kernel) hd F X1 X2 (fun F' hF hs => ?_)
  have b82 := hd_b (F := F) (F' := F') (k := 82) (hF 82 (by decide))
  have hB' : iv_in F' iv_B0 := iv_in_eq hB (fun j hj => hF j (Nat.lt_of_lt_of_le hj (by decide +kernel)))
  refine ⟨List.forall_mem_cons.mpr ⟨hd_p0 b82 rfl (by have hc : ((0) : Int32).toInt = 0 := (by decide); omega), fun _ h => absurd h List.not_mem_nil⟩, ?_⟩
  refine k _ ?_
  · exact fun j hj _ => (hd_keep hB' (Nat.lt_of_lt_of_le hj (by decide +kernel)) (by simp)).trans (hF j (Nat.lt_of_lt_of_le hj (by decide)))
theorem k3pf_23_p1 {Ls : Nat} {xs : Nat → Int32} {d : Nat} {Q : Option Value → jm_h → Prop} (hd : 4 ≤ d) (F : Nat → sy_d) (X1 X2 : List jm_c) (hB : iv_in F iv_B0)
    (h0 : (sy_i F 82).toInt ≠ 0)
    (k : ∀ F1 : Nat → sy_d, (∀ j, j < 82 → True → F1 j = F j) → hd_W Ls xs d jm_M33 Q (27, sy_dL F1 [some (.inl (.ref 30)), none], sy_dS F1 [.inl (.ref 30)], sy_dh F1 X1 X2 (iv_H 3), 0, 0)) :
    hd_W Ls xs d jm_M33 Q (23, sy_dL F [some (.inl (.ref 30)), none], sy_dS F [.inr (.inl 82)], sy_dh F X1 X2 (iv_H 3), 0, 0) := by
  refine hd_run (s := 3) (nv := 83) (pc := 27) (L := [some (.inl (.ref 30)), none]) (S := [.inl (.ref 30)]) (uh := hd_ov (iv_id 0 iv_B0) []) (ul := []) (f := false) (sp := [27]) (d0 := 3) (O := [false]) (T := []) (P := [(1, .inr (.inl 82), .inl (.int 0))]) jm_ok33 (by decide +kernel) (by decide +kernel) hd F X1 X2 (fun F' hF hs => ?_)
  have b82 := hd_b (F := F) (F' := F') (k := 82) (hF 82 (by decide))
  have hB' : iv_in F' iv_B0 := iv_in_eq hB (fun j hj => hF j (Nat.lt_of_lt_of_le hj (by decide +kernel)))
  refine ⟨List.forall_mem_cons.mpr ⟨hd_p1 b82 rfl (by have hc : ((0) : Int32).toInt = 0 := (by decide); omega), fun _ h => absurd h List.not_mem_nil⟩, ?_⟩
  refine k _ ?_
  · exact fun j hj _ => (hd_keep hB' (Nat.lt_of_lt_of_le hj (by decide +kernel)) (by simp)).trans (hF j (Nat.lt_of_lt_of_le hj (by decide)))
theorem k3pf_23 {Ls : Nat} {xs : Nat → Int32} {d : Nat} {Q : Option Value → jm_h → Prop} (hd : 4 ≤ d) (F : Nat → sy_d) (X1 X2 : List jm_c) (hB : iv_in F iv_B0)
    (k0 : (sy_i F 82).toInt = 0 → ∀ F1 : Nat → sy_d, iv_in F1 iv_B0 → (∀ j, j < 82 → j ∉ ([] : List Nat) → F1 j = F j) → (sy_i F1 33).toInt = (sy_i F 33).toInt → (sy_i F1 34).toInt = (sy_i F 34).toInt → (sy_i F1 36).toInt = (sy_i F 36).toInt → (sy_i F1 37).toInt = (sy_i F 37).toInt → (sy_i F1 38).toInt = (sy_i F 38).toInt → (sy_i F1 3).toInt = (sy_i F 3).toInt → (sy_i F1 4).toInt = (sy_i F 4).toInt → sy_ai F1 39 = sy_ai F 39 → Q (some (.int ((0 : Int32)))) (sy_dh F1 X1 X2 (iv_H 3)))
    (k1 : (sy_i F 82).toInt ≠ 0 → ∀ F1 : Nat → sy_d, iv_in F1 iv_B0 → (∀ j, j < 82 → j ∉ ([] : List Nat) → F1 j = F j) → (sy_i F1 33).toInt = (sy_i F 33).toInt → (sy_i F1 34).toInt = (sy_i F 34).toInt → (sy_i F1 36).toInt = (sy_i F 36).toInt → (sy_i F1 37).toInt = (sy_i F 37).toInt → (sy_i F1 38).toInt = (sy_i F 38).toInt → (sy_i F1 3).toInt = (sy_i F 3).toInt → (sy_i F1 4).toInt = (sy_i F 4).toInt → sy_ai F1 39 = sy_ai F 39 → hd_W Ls xs d jm_M33 Q (27, sy_dL F1 [some (.inl (.ref 30)), none], sy_dS F1 [.inl (.ref 30)], sy_dh F1 X1 X2 (iv_H 3), 0, 0)) :
    hd_W Ls xs d jm_M33 Q (23, sy_dL F [some (.inl (.ref 30)), none], sy_dS F [.inr (.inl 82)], sy_dh F X1 X2 (iv_H 3), 0, 0) := by
  by_cases g0 : (sy_i F 82).toInt = 0
  · exact k3pf_23_p0 hd F X1 X2 hB (by first | exact g0 | (simp only [nz_c]; exact g0)) (fun F1 g  => k0 g0 F1 (nz_in0 hB [] (fun j hj hn => g j hj (by simp only [List.mem_cons, List.not_mem_nil, or_false, not_or] at hn; exact trivial)) (List.forall_mem_nil _)) (fun j hj hn => g j hj (by simp only [List.mem_cons, List.not_mem_nil, or_false, not_or] at hn; exact trivial)) (nz_fi (g 33 (by decide) (by decide))) (nz_fi (g 34 (by decide) (by decide))) (nz_fi (g 36 (by decide) (by decide))) (nz_fi (g 37 (by decide) (by decide))) (nz_fi (g 38 (by decide) (by decide))) (nz_fi (g 3 (by decide) (by decide))) (nz_fi (g 4 (by decide) (by decide))) (nz_fa (g 39 (by decide) (by decide))))
  replace g0 : (sy_i F 82).toInt ≠ 0 := by omega
  exact k3pf_23_p1 hd F X1 X2 hB (by first | exact g0 | (simp only [nz_c]; exact g0)) (fun F1 g  => k1 g0 F1 (nz_in0 hB [] (fun j hj hn => g j hj (by simp only [List.mem_cons, List.not_mem_nil, or_false, not_or] at hn; exact trivial)) (List.forall_mem_nil _)) (fun j hj hn => g j hj (by simp only [List.mem_cons, List.not_mem_nil, or_false, not_or] at hn; exact trivial)) (nz_fi (g 33 (by decide) (by decide))) (nz_fi (g 34 (by decide) (by decide))) (nz_fi (g 36 (by decide) (by decide))) (nz_fi (g 37 (by decide) (by decide))) (nz_fi (g 38 (by decide) (by decide))) (nz_fi (g 3 (by decide) (by decide))) (nz_fi (g 4 (by decide) (by decide))) (nz_fa (g 39 (by decide) (by decide))))
theorem k3pf_30_p0 {Ls : Nat} {xs : Nat → Int32} {d : Nat} {Q : Option Value → jm_h → Prop} (hd : 4 ≤ d) (F : Nat → sy_d) (X1 X2 : List jm_c) (hB : iv_in F iv_B0)
    (h0 : (sy_i F 82).toInt = 0)
    (k : ∀ F1 : Nat → sy_d, (∀ j, j < 82 → True → F1 j = F j) → Q (some (.int ((0 : Int32)))) (sy_dh F1 X1 X2 (iv_H 3))) :
    hd_W Ls xs d jm_M33 Q (30, sy_dL F [some (.inl (.ref 30)), none], sy_dS F [.inr (.inl 82)], sy_dh F X1 X2 (iv_H 3), 0, 0) := by
  refine hd_ret (s := 3) (nv := 83) (v := some (.inl (.int 0))) (uh := hd_ov (iv_id 0 iv_B0) []) (f := false) (sp := [38]) (d0 := 3) (O := [true]) (T := []) (P := [(0, .inr (.inl 82), .inl (.int 0))]) jm_ok33 (by decide +kernel) (by decide +kernel) hd F X1 X2 (fun F' hF hs => ?_)
  have b82 := hd_b (F := F) (F' := F') (k := 82) (hF 82 (by decide))
  have hB' : iv_in F' iv_B0 := iv_in_eq hB (fun j hj => hF j (Nat.lt_of_lt_of_le hj (by decide +kernel)))
  refine ⟨List.forall_mem_cons.mpr ⟨hd_p0 b82 rfl (by have hc : ((0) : Int32).toInt = 0 := (by decide); omega), fun _ h => absurd h List.not_mem_nil⟩, ?_⟩
  refine k _ ?_
  · exact fun j hj _ => (hd_keep hB' (Nat.lt_of_lt_of_le hj (by decide +kernel)) (by simp)).trans (hF j (Nat.lt_of_lt_of_le hj (by decide)))
theorem k3pf_30_p1 {Ls : Nat} {xs : Nat → Int32} {d : Nat} {Q : Option Value → jm_h → Prop} (hd : 4 ≤ d) (F : Nat → sy_d) (X1 X2 : List jm_c) (hB : iv_in F iv_B0)
    (h0 : (sy_i F 82).toInt ≠ 0)
    (k : ∀ F1 : Nat → sy_d, (∀ j, j < 82 → True → F1 j = F j) → hd_W Ls xs d jm_M33 Q (38, sy_dL F1 [some (.inl (.ref 30)), none], sy_dS F1 [.inl (.int 9), .inl (.int 0), .inl (.int 0), .inl (.ref 30)], sy_dh F1 X1 X2 (iv_H 3), 0, 0)) :
    hd_W Ls xs d jm_M33 Q (30, sy_dL F [some (.inl (.ref 30)), none], sy_dS F [.inr (.inl 82)], sy_dh F X1 X2 (iv_H 3), 0, 0) := by
  refine hd_run (s := 3) (nv := 83) (pc := 38) (L := [some (.inl (.ref 30)), none]) (S := [.inl (.int 9), .inl (.int 0), .inl (.int 0), .inl (.ref 30)]) (uh := hd_ov (iv_id 0 iv_B0) []) (ul := []) (f := false) (sp := [38]) (d0 := 3) (O := [false]) (T := []) (P := [(1, .inr (.inl 82), .inl (.int 0))]) jm_ok33 (by decide +kernel) (by decide +kernel) hd F X1 X2 (fun F' hF hs => ?_)
  have b82 := hd_b (F := F) (F' := F') (k := 82) (hF 82 (by decide))
  have hB' : iv_in F' iv_B0 := iv_in_eq hB (fun j hj => hF j (Nat.lt_of_lt_of_le hj (by decide +kernel)))
  refine ⟨List.forall_mem_cons.mpr ⟨hd_p1 b82 rfl (by have hc : ((0) : Int32).toInt = 0 := (by decide); omega), fun _ h => absurd h List.not_mem_nil⟩, ?_⟩
  refine k _ ?_
  · exact fun j hj _ => (hd_keep hB' (Nat.lt_of_lt_of_le hj (by decide +kernel)) (by simp)).trans (hF j (Nat.lt_of_lt_of_le hj (by decide)))
theorem k3pf_30 {Ls : Nat} {xs : Nat → Int32} {d : Nat} {Q : Option Value → jm_h → Prop} (hd : 4 ≤ d) (F : Nat → sy_d) (X1 X2 : List jm_c) (hB : iv_in F iv_B0)
    (k0 : (sy_i F 82).toInt = 0 → ∀ F1 : Nat → sy_d, iv_in F1 iv_B0 → (∀ j, j < 82 → j ∉ ([] : List Nat) → F1 j = F j) → (sy_i F1 33).toInt = (sy_i F 33).toInt → (sy_i F1 34).toInt = (sy_i F 34).toInt → (sy_i F1 36).toInt = (sy_i F 36).toInt → (sy_i F1 37).toInt = (sy_i F 37).toInt → (sy_i F1 38).toInt = (sy_i F 38).toInt → (sy_i F1 3).toInt = (sy_i F 3).toInt → (sy_i F1 4).toInt = (sy_i F 4).toInt → sy_ai F1 39 = sy_ai F 39 → Q (some (.int ((0 : Int32)))) (sy_dh F1 X1 X2 (iv_H 3)))
    (k1 : (sy_i F 82).toInt ≠ 0 → ∀ F1 : Nat → sy_d, iv_in F1 iv_B0 → (∀ j, j < 82 → j ∉ ([] : List Nat) → F1 j = F j) → (sy_i F1 33).toInt = (sy_i F 33).toInt → (sy_i F1 34).toInt = (sy_i F 34).toInt → (sy_i F1 36).toInt = (sy_i F 36).toInt → (sy_i F1 37).toInt = (sy_i F 37).toInt → (sy_i F1 38).toInt = (sy_i F 38).toInt → (sy_i F1 3).toInt = (sy_i F 3).toInt → (sy_i F1 4).toInt = (sy_i F 4).toInt → sy_ai F1 39 = sy_ai F 39 → hd_W Ls xs d jm_M33 Q (38, sy_dL F1 [some (.inl (.ref 30)), none], sy_dS F1 [.inl (.int 9), .inl (.int 0), .inl (.int 0), .inl (.ref 30)], sy_dh F1 X1 X2 (iv_H 3), 0, 0)) :
    hd_W Ls xs d jm_M33 Q (30, sy_dL F [some (.inl (.ref 30)), none], sy_dS F [.inr (.inl 82)], sy_dh F X1 X2 (iv_H 3), 0, 0) := by
  by_cases g0 : (sy_i F 82).toInt = 0
  · exact k3pf_30_p0 hd F X1 X2 hB (by first | exact g0 | (simp only [nz_c]; exact g0)) (fun F1 g  => k0 g0 F1 (nz_in0 hB [] (fun j hj hn => g j hj (by simp only [List.mem_cons, List.not_mem_nil, or_false, not_or] at hn; exact trivial)) (List.forall_mem_nil _)) (fun j hj hn => g j hj (by simp only [List.mem_cons, List.not_mem_nil, or_false, not_or] at hn; exact trivial)) (nz_fi (g 33 (by decide) (by decide))) (nz_fi (g 34 (by decide) (by decide))) (nz_fi (g 36 (by decide) (by decide))) (nz_fi (g 37 (by decide) (by decide))) (nz_fi (g 38 (by decide) (by decide))) (nz_fi (g 3 (by decide) (by decide))) (nz_fi (g 4 (by decide) (by decide))) (nz_fa (g 39 (by decide) (by decide))))
  replace g0 : (sy_i F 82).toInt ≠ 0 := by omega
  exact k3pf_30_p1 hd F X1 X2 hB (by first | exact g0 | (simp only [nz_c]; exact g0)) (fun F1 g  => k1 g0 F1 (nz_in0 hB [] (fun j hj hn => g j hj (by simp only [List.mem_cons, List.not_mem_nil, or_false, not_or] at hn; exact trivial)) (List.forall_mem_nil _)) (fun j hj hn => g j hj (by simp only [List.mem_cons, List.not_mem_nil, or_false, not_or] at hn; exact trivial)) (nz_fi (g 33 (by decide) (by decide))) (nz_fi (g 34 (by decide) (by decide))) (nz_fi (g 36 (by decide) (by decide))) (nz_fi (g 37 (by decide) (by decide))) (nz_fi (g 38 (by decide) (by decide))) (nz_fi (g 3 (by decide) (by decide))) (nz_fi (g 4 (by decide) (by decide))) (nz_fa (g 39 (by decide) (by decide))))
theorem k3pf_41_p0 {Ls : Nat} {xs : Nat → Int32} {d : Nat} {Q : Option Value → jm_h → Prop} (hd : 4 ≤ d) (F : Nat → sy_d) (X1 X2 : List jm_c) (hB : iv_in F iv_B0)
    (h0 : (sy_i F 82).toInt = 0)
    (k : ∀ F1 : Nat → sy_d, (∀ j, j < 82 → True → F1 j = F j) → Q (some (.int ((0 : Int32)))) (sy_dh F1 X1 X2 (iv_H 3))) :
    hd_W Ls xs d jm_M33 Q (41, sy_dL F [some (.inl (.ref 30)), none], sy_dS F [.inr (.inl 82)], sy_dh F X1 X2 (iv_H 3), 0, 0) := by
  refine hd_ret (s := 3) (nv := 83) (v := some (.inl (.int 0))) (uh := hd_ov (iv_id 0 iv_B0) []) (f := false) (sp := [49]) (d0 := 3) (O := [true]) (T := []) (P := [(0, .inr (.inl 82), .inl (.int 0))]) jm_ok33 (by decide +kernel) (by decide +kernel) hd F X1 X2 (fun F' hF hs => ?_)
  have b82 := hd_b (F := F) (F' := F') (k := 82) (hF 82 (by decide))
  have hB' : iv_in F' iv_B0 := iv_in_eq hB (fun j hj => hF j (Nat.lt_of_lt_of_le hj (by decide +kernel)))
  refine ⟨List.forall_mem_cons.mpr ⟨hd_p0 b82 rfl (by have hc : ((0) : Int32).toInt = 0 := (by decide); omega), fun _ h => absurd h List.not_mem_nil⟩, ?_⟩
  refine k _ ?_
  · exact fun j hj _ => (hd_keep hB' (Nat.lt_of_lt_of_le hj (by decide +kernel)) (by simp)).trans (hF j (Nat.lt_of_lt_of_le hj (by decide)))
theorem k3pf_41_p1 {Ls : Nat} {xs : Nat → Int32} {d : Nat} {Q : Option Value → jm_h → Prop} (hd : 4 ≤ d) (F : Nat → sy_d) (X1 X2 : List jm_c) (hB : iv_in F iv_B0)
    (h0 : (sy_i F 82).toInt ≠ 0)
    (k : ∀ F1 : Nat → sy_d, (∀ j, j < 82 → True → F1 j = F j) → hd_W Ls xs d jm_M33 Q (49, sy_dL F1 [some (.inl (.ref 30)), none], sy_dS F1 [.inl (.int 9), .inl (.int 1), .inl (.int 1), .inl (.ref 30)], sy_dh F1 X1 X2 (iv_H 3), 0, 0)) :
    hd_W Ls xs d jm_M33 Q (41, sy_dL F [some (.inl (.ref 30)), none], sy_dS F [.inr (.inl 82)], sy_dh F X1 X2 (iv_H 3), 0, 0) := by
  refine hd_run (s := 3) (nv := 83) (pc := 49) (L := [some (.inl (.ref 30)), none]) (S := [.inl (.int 9), .inl (.int 1), .inl (.int 1), .inl (.ref 30)]) (uh := hd_ov (iv_id 0 iv_B0) []) (ul := []) (f := false) (sp := [49]) (d0 := 3) (O := [false]) (T := []) (P := [(1, .inr (.inl 82), .inl (.int 0))]) jm_ok33 (by decide +kernel) (by decide +kernel) hd F X1 X2 (fun F' hF hs => ?_)
  have b82 := hd_b (F := F) (F' := F') (k := 82) (hF 82 (by decide))
  have hB' : iv_in F' iv_B0 := iv_in_eq hB (fun j hj => hF j (Nat.lt_of_lt_of_le hj (by decide +kernel)))
  refine ⟨List.forall_mem_cons.mpr ⟨hd_p1 b82 rfl (by have hc : ((0) : Int32).toInt = 0 := (by decide); omega), fun _ h => absurd h List.not_mem_nil⟩, ?_⟩
  refine k _ ?_
  · exact fun j hj _ => (hd_keep hB' (Nat.lt_of_lt_of_le hj (by decide +kernel)) (by simp)).trans (hF j (Nat.lt_of_lt_of_le hj (by decide)))
theorem k3pf_41 {Ls : Nat} {xs : Nat → Int32} {d : Nat} {Q : Option Value → jm_h → Prop} (hd : 4 ≤ d) (F : Nat → sy_d) (X1 X2 : List jm_c) (hB : iv_in F iv_B0)
    (k0 : (sy_i F 82).toInt = 0 → ∀ F1 : Nat → sy_d, iv_in F1 iv_B0 → (∀ j, j < 82 → j ∉ ([] : List Nat) → F1 j = F j) → (sy_i F1 33).toInt = (sy_i F 33).toInt → (sy_i F1 34).toInt = (sy_i F 34).toInt → (sy_i F1 36).toInt = (sy_i F 36).toInt → (sy_i F1 37).toInt = (sy_i F 37).toInt → (sy_i F1 38).toInt = (sy_i F 38).toInt → (sy_i F1 3).toInt = (sy_i F 3).toInt → (sy_i F1 4).toInt = (sy_i F 4).toInt → sy_ai F1 39 = sy_ai F 39 → Q (some (.int ((0 : Int32)))) (sy_dh F1 X1 X2 (iv_H 3)))
    (k1 : (sy_i F 82).toInt ≠ 0 → ∀ F1 : Nat → sy_d, iv_in F1 iv_B0 → (∀ j, j < 82 → j ∉ ([] : List Nat) → F1 j = F j) → (sy_i F1 33).toInt = (sy_i F 33).toInt → (sy_i F1 34).toInt = (sy_i F 34).toInt → (sy_i F1 36).toInt = (sy_i F 36).toInt → (sy_i F1 37).toInt = (sy_i F 37).toInt → (sy_i F1 38).toInt = (sy_i F 38).toInt → (sy_i F1 3).toInt = (sy_i F 3).toInt → (sy_i F1 4).toInt = (sy_i F 4).toInt → sy_ai F1 39 = sy_ai F 39 → hd_W Ls xs d jm_M33 Q (49, sy_dL F1 [some (.inl (.ref 30)), none], sy_dS F1 [.inl (.int 9), .inl (.int 1), .inl (.int 1), .inl (.ref 30)], sy_dh F1 X1 X2 (iv_H 3), 0, 0)) :
    hd_W Ls xs d jm_M33 Q (41, sy_dL F [some (.inl (.ref 30)), none], sy_dS F [.inr (.inl 82)], sy_dh F X1 X2 (iv_H 3), 0, 0) := by
  by_cases g0 : (sy_i F 82).toInt = 0
  · exact k3pf_41_p0 hd F X1 X2 hB (by first | exact g0 | (simp only [nz_c]; exact g0)) (fun F1 g  => k0 g0 F1 (nz_in0 hB [] (fun j hj hn => g j hj (by simp only [List.mem_cons, List.not_mem_nil, or_false, not_or] at hn; exact trivial)) (List.forall_mem_nil _)) (fun j hj hn => g j hj (by simp only [List.mem_cons, List.not_mem_nil, or_false, not_or] at hn; exact trivial)) (nz_fi (g 33 (by decide) (by decide))) (nz_fi (g 34 (by decide) (by decide))) (nz_fi (g 36 (by decide) (by decide))) (nz_fi (g 37 (by decide) (by decide))) (nz_fi (g 38 (by decide) (by decide))) (nz_fi (g 3 (by decide) (by decide))) (nz_fi (g 4 (by decide) (by decide))) (nz_fa (g 39 (by decide) (by decide))))
  replace g0 : (sy_i F 82).toInt ≠ 0 := by omega
  exact k3pf_41_p1 hd F X1 X2 hB (by first | exact g0 | (simp only [nz_c]; exact g0)) (fun F1 g  => k1 g0 F1 (nz_in0 hB [] (fun j hj hn => g j hj (by simp only [List.mem_cons, List.not_mem_nil, or_false, not_or] at hn; exact trivial)) (List.forall_mem_nil _)) (fun j hj hn => g j hj (by simp only [List.mem_cons, List.not_mem_nil, or_false, not_or] at hn; exact trivial)) (nz_fi (g 33 (by decide) (by decide))) (nz_fi (g 34 (by decide) (by decide))) (nz_fi (g 36 (by decide) (by decide))) (nz_fi (g 37 (by decide) (by decide))) (nz_fi (g 38 (by decide) (by decide))) (nz_fi (g 3 (by decide) (by decide))) (nz_fi (g 4 (by decide) (by decide))) (nz_fa (g 39 (by decide) (by decide))))
theorem k3pf_52_p0 {Ls : Nat} {xs : Nat → Int32} {d : Nat} {Q : Option Value → jm_h → Prop} (hd : 4 ≤ d) (F : Nat → sy_d) (X1 X2 : List jm_c) (hB : iv_in F iv_B0)
    (h0 : (sy_i F 82).toInt = 0)
    (k : ∀ F1 : Nat → sy_d, (∀ j, j < 82 → True → F1 j = F j) → Q (some (.int ((0 : Int32)))) (sy_dh F1 X1 X2 (iv_H 3))) :
    hd_W Ls xs d jm_M33 Q (52, sy_dL F [some (.inl (.ref 30)), none], sy_dS F [.inr (.inl 82)], sy_dh F X1 X2 (iv_H 3), 0, 0) := by
  refine hd_ret (s := 3) (nv := 83) (v := some (.inl (.int 0))) (uh := hd_ov (iv_id 0 iv_B0) []) (f := false) (sp := [60]) (d0 := 3) (O := [true]) (T := []) (P := [(0, .inr (.inl 82), .inl (.int 0))]) jm_ok33 (by decide +kernel) (by decide +kernel) hd F X1 X2 (fun F' hF hs => ?_)
  have b82 := hd_b (F := F) (F' := F') (k := 82) (hF 82 (by decide))
  have hB' : iv_in F' iv_B0 := iv_in_eq hB (fun j hj => hF j (Nat.lt_of_lt_of_le hj (by decide +kernel)))
  refine ⟨List.forall_mem_cons.mpr ⟨hd_p0 b82 rfl (by have hc : ((0) : Int32).toInt = 0 := (by decide); omega), fun _ h => absurd h List.not_mem_nil⟩, ?_⟩
  refine k _ ?_
  · exact fun j hj _ => (hd_keep hB' (Nat.lt_of_lt_of_le hj (by decide +kernel)) (by simp)).trans (hF j (Nat.lt_of_lt_of_le hj (by decide)))
theorem k3pf_52_p1 {Ls : Nat} {xs : Nat → Int32} {d : Nat} {Q : Option Value → jm_h → Prop} (hd : 4 ≤ d) (F : Nat → sy_d) (X1 X2 : List jm_c) (hB : iv_in F iv_B0)
    (h0 : (sy_i F 82).toInt ≠ 0)
    (k : ∀ F1 : Nat → sy_d, (∀ j, j < 82 → True → F1 j = F j) → hd_W Ls xs d jm_M33 Q (60, sy_dL F1 [some (.inl (.ref 30)), none], sy_dS F1 [.inl (.int 99), .inl (.int 0), .inl (.int 2), .inl (.ref 30)], sy_dh F1 X1 X2 (iv_H 3), 0, 0)) :
    hd_W Ls xs d jm_M33 Q (52, sy_dL F [some (.inl (.ref 30)), none], sy_dS F [.inr (.inl 82)], sy_dh F X1 X2 (iv_H 3), 0, 0) := by
  refine hd_run (s := 3) (nv := 83) (pc := 60) (L := [some (.inl (.ref 30)), none]) (S := [.inl (.int 99), .inl (.int 0), .inl (.int 2), .inl (.ref 30)]) (uh := hd_ov (iv_id 0 iv_B0) []) (ul := []) (f := false) (sp := [60]) (d0 := 3) (O := [false]) (T := []) (P := [(1, .inr (.inl 82), .inl (.int 0))]) jm_ok33 (by decide +kernel) (by decide +kernel) hd F X1 X2 (fun F' hF hs => ?_)
  have b82 := hd_b (F := F) (F' := F') (k := 82) (hF 82 (by decide))
  have hB' : iv_in F' iv_B0 := iv_in_eq hB (fun j hj => hF j (Nat.lt_of_lt_of_le hj (by decide +kernel)))
  refine ⟨List.forall_mem_cons.mpr ⟨hd_p1 b82 rfl (by have hc : ((0) : Int32).toInt = 0 := (by decide); omega), fun _ h => absurd h List.not_mem_nil⟩, ?_⟩
  refine k _ ?_
  · exact fun j hj _ => (hd_keep hB' (Nat.lt_of_lt_of_le hj (by decide +kernel)) (by simp)).trans (hF j (Nat.lt_of_lt_of_le hj (by decide)))
theorem k3pf_52 {Ls : Nat} {xs : Nat → Int32} {d : Nat} {Q : Option Value → jm_h → Prop} (hd : 4 ≤ d) (F : Nat → sy_d) (X1 X2 : List jm_c) (hB : iv_in F iv_B0)
    (k0 : (sy_i F 82).toInt = 0 → ∀ F1 : Nat → sy_d, iv_in F1 iv_B0 → (∀ j, j < 82 → j ∉ ([] : List Nat) → F1 j = F j) → (sy_i F1 33).toInt = (sy_i F 33).toInt → (sy_i F1 34).toInt = (sy_i F 34).toInt → (sy_i F1 36).toInt = (sy_i F 36).toInt → (sy_i F1 37).toInt = (sy_i F 37).toInt → (sy_i F1 38).toInt = (sy_i F 38).toInt → (sy_i F1 3).toInt = (sy_i F 3).toInt → (sy_i F1 4).toInt = (sy_i F 4).toInt → sy_ai F1 39 = sy_ai F 39 → Q (some (.int ((0 : Int32)))) (sy_dh F1 X1 X2 (iv_H 3)))
    (k1 : (sy_i F 82).toInt ≠ 0 → ∀ F1 : Nat → sy_d, iv_in F1 iv_B0 → (∀ j, j < 82 → j ∉ ([] : List Nat) → F1 j = F j) → (sy_i F1 33).toInt = (sy_i F 33).toInt → (sy_i F1 34).toInt = (sy_i F 34).toInt → (sy_i F1 36).toInt = (sy_i F 36).toInt → (sy_i F1 37).toInt = (sy_i F 37).toInt → (sy_i F1 38).toInt = (sy_i F 38).toInt → (sy_i F1 3).toInt = (sy_i F 3).toInt → (sy_i F1 4).toInt = (sy_i F 4).toInt → sy_ai F1 39 = sy_ai F 39 → hd_W Ls xs d jm_M33 Q (60, sy_dL F1 [some (.inl (.ref 30)), none], sy_dS F1 [.inl (.int 99), .inl (.int 0), .inl (.int 2), .inl (.ref 30)], sy_dh F1 X1 X2 (iv_H 3), 0, 0)) :
    hd_W Ls xs d jm_M33 Q (52, sy_dL F [some (.inl (.ref 30)), none], sy_dS F [.inr (.inl 82)], sy_dh F X1 X2 (iv_H 3), 0, 0) := by
  by_cases g0 : (sy_i F 82).toInt = 0
  · exact k3pf_52_p0 hd F X1 X2 hB (by first | exact g0 | (simp only [nz_c]; exact g0)) (fun F1 g  => k0 g0 F1 (nz_in0 hB [] (fun j hj hn => g j hj (by simp only [List.mem_cons, List.not_mem_nil, or_false, not_or] at hn; exact trivial)) (List.forall_mem_nil _)) (fun j hj hn => g j hj (by simp only [List.mem_cons, List.not_mem_nil, or_false, not_or] at hn; exact trivial)) (nz_fi (g 33 (by decide) (by decide))) (nz_fi (g 34 (by decide) (by decide))) (nz_fi (g 36 (by decide) (by decide))) (nz_fi (g 37 (by decide) (by decide))) (nz_fi (g 38 (by decide) (by decide))) (nz_fi (g 3 (by decide) (by decide))) (nz_fi (g 4 (by decide) (by decide))) (nz_fa (g 39 (by decide) (by decide))))
  replace g0 : (sy_i F 82).toInt ≠ 0 := by omega
  exact k3pf_52_p1 hd F X1 X2 hB (by first | exact g0 | (simp only [nz_c]; exact g0)) (fun F1 g  => k1 g0 F1 (nz_in0 hB [] (fun j hj hn => g j hj (by simp only [List.mem_cons, List.not_mem_nil, or_false, not_or] at hn; exact trivial)) (List.forall_mem_nil _)) (fun j hj hn => g j hj (by simp only [List.mem_cons, List.not_mem_nil, or_false, not_or] at hn; exact trivial)) (nz_fi (g 33 (by decide) (by decide))) (nz_fi (g 34 (by decide) (by decide))) (nz_fi (g 36 (by decide) (by decide))) (nz_fi (g 37 (by decide) (by decide))) (nz_fi (g 38 (by decide) (by decide))) (nz_fi (g 3 (by decide) (by decide))) (nz_fi (g 4 (by decide) (by decide))) (nz_fa (g 39 (by decide) (by decide))))
theorem k3pf_63_p0 {Ls : Nat} {xs : Nat → Int32} {d : Nat} {Q : Option Value → jm_h → Prop} (hd : 4 ≤ d) (F : Nat → sy_d) (X1 X2 : List jm_c) (hB : iv_in F iv_B0)
    (h0 : (sy_i F 82).toInt = 0)
    (k : ∀ F1 : Nat → sy_d, (∀ j, j < 82 → True → F1 j = F j) → Q (some (.int ((0 : Int32)))) (sy_dh F1 X1 X2 (iv_H 3))) :
    hd_W Ls xs d jm_M33 Q (63, sy_dL F [some (.inl (.ref 30)), none], sy_dS F [.inr (.inl 82)], sy_dh F X1 X2 (iv_H 3), 0, 0) := by
  refine hd_ret (s := 3) (nv := 83) (v := some (.inl (.int 0))) (uh := hd_ov (iv_id 0 iv_B0) []) (f := false) (sp := [69]) (d0 := 3) (O := [true]) (T := []) (P := [(0, .inr (.inl 82), .inl (.int 0))]) jm_ok33 (by decide +kernel) (by decide +kernel) hd F X1 X2 (fun F' hF hs => ?_)
  have b82 := hd_b (F := F) (F' := F') (k := 82) (hF 82 (by decide))
  have hB' : iv_in F' iv_B0 := iv_in_eq hB (fun j hj => hF j (Nat.lt_of_lt_of_le hj (by decide +kernel)))
  refine ⟨List.forall_mem_cons.mpr ⟨hd_p0 b82 rfl (by have hc : ((0) : Int32).toInt = 0 := (by decide); omega), fun _ h => absurd h List.not_mem_nil⟩, ?_⟩
  refine k _ ?_
  · exact fun j hj _ => (hd_keep hB' (Nat.lt_of_lt_of_le hj (by decide +kernel)) (by simp)).trans (hF j (Nat.lt_of_lt_of_le hj (by decide)))
theorem k3pf_63_p1 {Ls : Nat} {xs : Nat → Int32} {d : Nat} {Q : Option Value → jm_h → Prop} (hd : 4 ≤ d) (F : Nat → sy_d) (X1 X2 : List jm_c) (hB : iv_in F iv_B0)
    (h0 : (sy_i F 82).toInt ≠ 0)
    (k : ∀ F1 : Nat → sy_d, (∀ j, j < 82 → True → F1 j = F j) → hd_W Ls xs d jm_M33 Q (69, sy_dL F1 [some (.inl (.ref 30)), none], sy_dS F1 [.inl (.int 59), .inl (.ref 30)], sy_dh F1 X1 X2 (iv_H 3), 0, 0)) :
    hd_W Ls xs d jm_M33 Q (63, sy_dL F [some (.inl (.ref 30)), none], sy_dS F [.inr (.inl 82)], sy_dh F X1 X2 (iv_H 3), 0, 0) := by
  refine hd_run (s := 3) (nv := 83) (pc := 69) (L := [some (.inl (.ref 30)), none]) (S := [.inl (.int 59), .inl (.ref 30)]) (uh := hd_ov (iv_id 0 iv_B0) []) (ul := []) (f := false) (sp := [69]) (d0 := 3) (O := [false]) (T := []) (P := [(1, .inr (.inl 82), .inl (.int 0))]) jm_ok33 (by decide +kernel) (by decide +kernel) hd F X1 X2 (fun F' hF hs => ?_)
  have b82 := hd_b (F := F) (F' := F') (k := 82) (hF 82 (by decide))
  have hB' : iv_in F' iv_B0 := iv_in_eq hB (fun j hj => hF j (Nat.lt_of_lt_of_le hj (by decide +kernel)))
  refine ⟨List.forall_mem_cons.mpr ⟨hd_p1 b82 rfl (by have hc : ((0) : Int32).toInt = 0 := (by decide); omega), fun _ h => absurd h List.not_mem_nil⟩, ?_⟩
  refine k _ ?_
  · exact fun j hj _ => (hd_keep hB' (Nat.lt_of_lt_of_le hj (by decide +kernel)) (by simp)).trans (hF j (Nat.lt_of_lt_of_le hj (by decide)))
theorem k3pf_63 {Ls : Nat} {xs : Nat → Int32} {d : Nat} {Q : Option Value → jm_h → Prop} (hd : 4 ≤ d) (F : Nat → sy_d) (X1 X2 : List jm_c) (hB : iv_in F iv_B0)
    (k0 : (sy_i F 82).toInt = 0 → ∀ F1 : Nat → sy_d, iv_in F1 iv_B0 → (∀ j, j < 82 → j ∉ ([] : List Nat) → F1 j = F j) → (sy_i F1 33).toInt = (sy_i F 33).toInt → (sy_i F1 34).toInt = (sy_i F 34).toInt → (sy_i F1 36).toInt = (sy_i F 36).toInt → (sy_i F1 37).toInt = (sy_i F 37).toInt → (sy_i F1 38).toInt = (sy_i F 38).toInt → (sy_i F1 3).toInt = (sy_i F 3).toInt → (sy_i F1 4).toInt = (sy_i F 4).toInt → sy_ai F1 39 = sy_ai F 39 → Q (some (.int ((0 : Int32)))) (sy_dh F1 X1 X2 (iv_H 3)))
    (k1 : (sy_i F 82).toInt ≠ 0 → ∀ F1 : Nat → sy_d, iv_in F1 iv_B0 → (∀ j, j < 82 → j ∉ ([] : List Nat) → F1 j = F j) → (sy_i F1 33).toInt = (sy_i F 33).toInt → (sy_i F1 34).toInt = (sy_i F 34).toInt → (sy_i F1 36).toInt = (sy_i F 36).toInt → (sy_i F1 37).toInt = (sy_i F 37).toInt → (sy_i F1 38).toInt = (sy_i F 38).toInt → (sy_i F1 3).toInt = (sy_i F 3).toInt → (sy_i F1 4).toInt = (sy_i F 4).toInt → sy_ai F1 39 = sy_ai F 39 → hd_W Ls xs d jm_M33 Q (69, sy_dL F1 [some (.inl (.ref 30)), none], sy_dS F1 [.inl (.int 59), .inl (.ref 30)], sy_dh F1 X1 X2 (iv_H 3), 0, 0)) :
    hd_W Ls xs d jm_M33 Q (63, sy_dL F [some (.inl (.ref 30)), none], sy_dS F [.inr (.inl 82)], sy_dh F X1 X2 (iv_H 3), 0, 0) := by
  by_cases g0 : (sy_i F 82).toInt = 0
  · exact k3pf_63_p0 hd F X1 X2 hB (by first | exact g0 | (simp only [nz_c]; exact g0)) (fun F1 g  => k0 g0 F1 (nz_in0 hB [] (fun j hj hn => g j hj (by simp only [List.mem_cons, List.not_mem_nil, or_false, not_or] at hn; exact trivial)) (List.forall_mem_nil _)) (fun j hj hn => g j hj (by simp only [List.mem_cons, List.not_mem_nil, or_false, not_or] at hn; exact trivial)) (nz_fi (g 33 (by decide) (by decide))) (nz_fi (g 34 (by decide) (by decide))) (nz_fi (g 36 (by decide) (by decide))) (nz_fi (g 37 (by decide) (by decide))) (nz_fi (g 38 (by decide) (by decide))) (nz_fi (g 3 (by decide) (by decide))) (nz_fi (g 4 (by decide) (by decide))) (nz_fa (g 39 (by decide) (by decide))))
  replace g0 : (sy_i F 82).toInt ≠ 0 := by omega
  exact k3pf_63_p1 hd F X1 X2 hB (by first | exact g0 | (simp only [nz_c]; exact g0)) (fun F1 g  => k1 g0 F1 (nz_in0 hB [] (fun j hj hn => g j hj (by simp only [List.mem_cons, List.not_mem_nil, or_false, not_or] at hn; exact trivial)) (List.forall_mem_nil _)) (fun j hj hn => g j hj (by simp only [List.mem_cons, List.not_mem_nil, or_false, not_or] at hn; exact trivial)) (nz_fi (g 33 (by decide) (by decide))) (nz_fi (g 34 (by decide) (by decide))) (nz_fi (g 36 (by decide) (by decide))) (nz_fi (g 37 (by decide) (by decide))) (nz_fi (g 38 (by decide) (by decide))) (nz_fi (g 3 (by decide) (by decide))) (nz_fi (g 4 (by decide) (by decide))) (nz_fa (g 39 (by decide) (by decide))))
theorem k3pf_72_p0 {Ls : Nat} {xs : Nat → Int32} {d : Nat} {Q : Option Value → jm_h → Prop} (hd : 4 ≤ d) (F : Nat → sy_d) (X1 X2 : List jm_c) (hB : iv_in F iv_B0)
    (h0 : (sy_i F 82).toInt = 0)
    (k : ∀ F1 : Nat → sy_d, (∀ j, j < 82 → True → F1 j = F j) → Q (some (.int ((0 : Int32)))) (sy_dh F1 X1 X2 (iv_H 3))) :
    hd_W Ls xs d jm_M33 Q (72, sy_dL F [some (.inl (.ref 30)), none], sy_dS F [.inr (.inl 82)], sy_dh F X1 X2 (iv_H 3), 0, 0) := by
  refine hd_ret (s := 3) (nv := 83) (v := some (.inl (.int 0))) (uh := hd_ov (iv_id 0 iv_B0) []) (f := false) (sp := []) (d0 := 3) (O := [true]) (T := []) (P := [(0, .inr (.inl 82), .inl (.int 0))]) jm_ok33 (by decide +kernel) (by decide +kernel) hd F X1 X2 (fun F' hF hs => ?_)
  have b82 := hd_b (F := F) (F' := F') (k := 82) (hF 82 (by decide))
  have hB' : iv_in F' iv_B0 := iv_in_eq hB (fun j hj => hF j (Nat.lt_of_lt_of_le hj (by decide +kernel)))
  refine ⟨List.forall_mem_cons.mpr ⟨hd_p0 b82 rfl (by have hc : ((0) : Int32).toInt = 0 := (by decide); omega), fun _ h => absurd h List.not_mem_nil⟩, ?_⟩
  refine k _ ?_
  · exact fun j hj _ => (hd_keep hB' (Nat.lt_of_lt_of_le hj (by decide +kernel)) (by simp)).trans (hF j (Nat.lt_of_lt_of_le hj (by decide)))
theorem k3pf_72_p1 {Ls : Nat} {xs : Nat → Int32} {d : Nat} {Q : Option Value → jm_h → Prop} (hd : 4 ≤ d) (F : Nat → sy_d) (X1 X2 : List jm_c) (hB : iv_in F iv_B0)
    (h0 : (sy_i F 82).toInt ≠ 0)
    (h1 : 7 ≤ (sy_i F 3).toInt)
    (k : ∀ F1 : Nat → sy_d, (∀ j, j < 82 → True → F1 j = F j) → Q (some (.int ((1 : Int32)))) (sy_dh F1 X1 X2 (iv_H 3))) :
    hd_W Ls xs d jm_M33 Q (72, sy_dL F [some (.inl (.ref 30)), none], sy_dS F [.inr (.inl 82)], sy_dh F X1 X2 (iv_H 3), 0, 0) := by
  refine hd_ret (s := 3) (nv := 83) (v := some (.inl (.int 1))) (uh := hd_ov (iv_id 0 iv_B0) []) (f := false) (sp := []) (d0 := 3) (O := [false, true]) (T := []) (P := [(1, .inr (.inl 82), .inl (.int 0)), (4, .inl (.int 7), .inr (.inl 3))]) jm_ok33 (by decide +kernel) (by decide +kernel) hd F X1 X2 (fun F' hF hs => ?_)
  have b82 := hd_b (F := F) (F' := F') (k := 82) (hF 82 (by decide))
  have b3 := hd_b (F := F) (F' := F') (k := 3) (hF 3 (by decide))
  have hB' : iv_in F' iv_B0 := iv_in_eq hB (fun j hj => hF j (Nat.lt_of_lt_of_le hj (by decide +kernel)))
  refine ⟨List.forall_mem_cons.mpr ⟨hd_p1 b82 rfl (by have hc : ((0) : Int32).toInt = 0 := (by decide); omega), List.forall_mem_cons.mpr ⟨hd_p4 rfl b3 (by have hc : ((7) : Int32).toInt = 7 := (by decide); omega), fun _ h => absurd h List.not_mem_nil⟩⟩, ?_⟩
  refine k _ ?_
  · exact fun j hj _ => (hd_keep hB' (Nat.lt_of_lt_of_le hj (by decide +kernel)) (by simp)).trans (hF j (Nat.lt_of_lt_of_le hj (by decide)))
theorem k3pf_72_p2 {Ls : Nat} {xs : Nat → Int32} {d : Nat} {Q : Option Value → jm_h → Prop} (hd : 4 ≤ d) (F : Nat → sy_d) (X1 X2 : List jm_c) (hB : iv_in F iv_B0)
    (h0 : (sy_i F 82).toInt ≠ 0)
    (h1 : (sy_i F 3).toInt < 7)
    (h2 : 0 ≤ (sy_i F 3).toInt ∧ (sy_i F 3).toInt < 7)
    (h3 : 0 ≤ (sy_i F 3).toInt ∧ (sy_i F 3).toInt < 7)
    (h4 : 0 ≤ (sy_i F 3).toInt ∧ (sy_i F 3).toInt < 7)
    (k : ∀ F1 : Nat → sy_d, (∀ j, j < 82 → j ≠ 3 ∧ j ≠ 9 ∧ j ≠ 10 ∧ j ≠ 11 → F1 j = F j) → F1 3 = .inl (.int ((sy_i F 3) + ((1 : Int32)))) → F1 9 = .inr (.inl (jm_upd (sy_ai F 9) (sy_i F 3).toNatClampNeg ((sy_ai F 44).getD ((0 : Int32)).toNatClampNeg 0))) → F1 10 = .inr (.inl (jm_upd (sy_ai F 10) (sy_i F 3).toNatClampNeg ((sy_ai F 44).getD ((1 : Int32)).toNatClampNeg 0))) → F1 11 = .inr (.inl (jm_upd (sy_ai F 11) (sy_i F 3).toNatClampNeg ((sy_ai F 44).getD ((2 : Int32)).toNatClampNeg 0))) → Q (some (.int ((1 : Int32)))) (sy_dh F1 X1 X2 (iv_H 3))) :
    hd_W Ls xs d jm_M33 Q (72, sy_dL F [some (.inl (.ref 30)), none], sy_dS F [.inr (.inl 82)], sy_dh F X1 X2 (iv_H 3), 0, 0) := by
  refine hd_ret (s := 3) (nv := 83) (v := some (.inl (.int 1))) (uh := hd_ov (iv_id 0 iv_B0) [(3, .inl (.inr (.inl 89))), (9, .inr (.inr (.inl 84))), (10, .inr (.inr (.inl 86))), (11, .inr (.inr (.inl 88)))]) (f := false) (sp := []) (d0 := 3) (O := [false, false]) (T := [(30, [.inl (.int 0)], [.inr (.inl 44)]), (40, [.inr (.inl 3), .inr (.inl 83)], [.inr (.inl 9)]), (30, [.inl (.int 1)], [.inr (.inl 44)]), (40, [.inr (.inl 3), .inr (.inl 85)], [.inr (.inl 10)]), (30, [.inl (.int 2)], [.inr (.inl 44)]), (40, [.inr (.inl 3), .inr (.inl 87)], [.inr (.inl 11)]), (0, [.inr (.inl 3), .inl (.int 1)], [])]) (P := [(1, .inr (.inl 82), .inl (.int 0)), (5, .inl (.int 7), .inr (.inl 3)), (6, .inr (.inl 3), .inl (.ref 7)), (6, .inr (.inl 3), .inl (.ref 7)), (6, .inr (.inl 3), .inl (.ref 7))]) jm_ok33 (by decide +kernel) (by decide +kernel) hd F X1 X2 (fun F' hF hs => ?_)
  have b82 := hd_b (F := F) (F' := F') (k := 82) (hF 82 (by decide))
  have b3 := hd_b (F := F) (F' := F') (k := 3) (hF 3 (by decide))
  have t89 : sy_dv F' (.inr (.inl 89)) = .int ((sy_i F 3) + ((1 : Int32))) := hd_o (hs 6 _ rfl) b3 rfl rfl
  have a44 := hd_ba (F := F) (F' := F') (k := 44) (hF 44 (by decide))
  have t83 : sy_dv F' (.inr (.inl 83)) = .int ((sy_ai F 44).getD ((0 : Int32)).toNatClampNeg 0) := hd_rd (hs 0 _ rfl) rfl a44
  have a9 := hd_ba (F := F) (F' := F') (k := 9) (hF 9 (by decide))
  have t84 : sy_da F' (.inr (.inl 84)) = .inl (jm_upd (sy_ai F 9) (sy_i F 3).toNatClampNeg ((sy_ai F 44).getD ((0 : Int32)).toNatClampNeg 0)) := hd_up (hs 1 _ rfl) b3 t83 a9
  have t85 : sy_dv F' (.inr (.inl 85)) = .int ((sy_ai F 44).getD ((1 : Int32)).toNatClampNeg 0) := hd_rd (hs 2 _ rfl) rfl a44
  have a10 := hd_ba (F := F) (F' := F') (k := 10) (hF 10 (by decide))
  have t86 : sy_da F' (.inr (.inl 86)) = .inl (jm_upd (sy_ai F 10) (sy_i F 3).toNatClampNeg ((sy_ai F 44).getD ((1 : Int32)).toNatClampNeg 0)) := hd_up (hs 3 _ rfl) b3 t85 a10
  have t87 : sy_dv F' (.inr (.inl 87)) = .int ((sy_ai F 44).getD ((2 : Int32)).toNatClampNeg 0) := hd_rd (hs 4 _ rfl) rfl a44
  have a11 := hd_ba (F := F) (F' := F') (k := 11) (hF 11 (by decide))
  have t88 : sy_da F' (.inr (.inl 88)) = .inl (jm_upd (sy_ai F 11) (sy_i F 3).toNatClampNeg ((sy_ai F 44).getD ((2 : Int32)).toNatClampNeg 0)) := hd_up (hs 5 _ rfl) b3 t87 a11
  have hB' : iv_in F' iv_B0 := iv_in_eq hB (fun j hj => hF j (Nat.lt_of_lt_of_le hj (by decide +kernel)))
  refine ⟨List.forall_mem_cons.mpr ⟨hd_p1 b82 rfl (by have hc : ((0) : Int32).toInt = 0 := (by decide); omega), List.forall_mem_cons.mpr ⟨hd_p5 rfl b3 (by have hc : ((7) : Int32).toInt = 7 := (by decide); omega), List.forall_mem_cons.mpr ⟨hd_pb b3 (by first | exact h2 | exact h2), List.forall_mem_cons.mpr ⟨hd_pb b3 (by first | exact h3 | exact h3), List.forall_mem_cons.mpr ⟨hd_pb b3 (by first | exact h4 | exact h4), fun _ h => absurd h List.not_mem_nil⟩⟩⟩⟩⟩, ?_⟩
  refine k _ ?_ ?_ ?_ ?_ ?_
  · exact fun j hj hn => (hd_keep hB' (Nat.lt_of_lt_of_le hj (by decide +kernel)) (by simp; omega)).trans (hF j (Nat.lt_of_lt_of_le hj (by decide)))
  · exact hd_gi (x := .inr (.inl 89)) (by decide +kernel) t89
  · exact hd_ga (a := .inr (.inl 84)) (by decide +kernel) t84
  · exact hd_ga (a := .inr (.inl 86)) (by decide +kernel) t86
  · exact hd_ga (a := .inr (.inl 88)) (by decide +kernel) t88
theorem k3pb_0_p0 {Ls : Nat} {xs : Nat → Int32} {d : Nat} {Q : Option Value → jm_h → Prop} (hd : 4 ≤ d) (F : Nat → sy_d) (X1 X2 : List jm_c) (hB : iv_in F iv_B0)
    (h0 : (sy_i F 4).toInt < 4)
    (k : ∀ F1 : Nat → sy_d, (∀ j, j < 82 → True → F1 j = F j) → hd_W Ls xs d jm_M34 Q (19, sy_dL F1 [some (.inl (.ref 30)), none], sy_dS F1 [.inl (.int 1), .inl (.ref 30)], sy_dh F1 X1 X2 (iv_H 3), 0, 0)) :
    hd_W Ls xs d jm_M34 Q (0, sy_dL F [some (.inl (.ref 30)), none], sy_dS F [], sy_dh F X1 X2 (iv_H 3), 0, 0) := by
  refine hd_run (s := 3) (nv := 82) (pc := 19) (L := [some (.inl (.ref 30)), none]) (S := [.inl (.int 1), .inl (.ref 30)]) (uh := hd_ov (iv_id 0 iv_B0) []) (ul := []) (f := true) (sp := [19]) (d0 := 3) (O := [true]) (T := []) (P := [(2, .inr (.inl 4), .inl (.int 4))]) jm_ok34 (by decide +kernel) (by decide +kernel) hd F X1 X2 (fun F' hF hs => ?_)
  have b4 := hd_b (F := F) (F' := F') (k := 4) (hF 4 (by decide))
  have hB' : iv_in F' iv_B0 := iv_in_eq hB (fun j hj => hF j (Nat.lt_of_lt_of_le hj (by decide +kernel)))
  refine ⟨List.forall_mem_cons.mpr ⟨hd_p2 b4 rfl (by have hc : ((4) : Int32).toInt = 4 := (by decide); omega), fun _ h => absurd h List.not_mem_nil⟩, ?_⟩
  refine k _ ?_
  · exact fun j hj _ => (hd_keep hB' (Nat.lt_of_lt_of_le hj (by decide +kernel)) (by simp)).trans (hF j (Nat.lt_of_lt_of_le hj (by decide)))
theorem k3pb_0_p1 {Ls : Nat} {xs : Nat → Int32} {d : Nat} {Q : Option Value → jm_h → Prop} (hd : 4 ≤ d) (F : Nat → sy_d) (X1 X2 : List jm_c) (hB : iv_in F iv_B0)
    (h0 : 4 ≤ (sy_i F 4).toInt)
    (k : ∀ F1 : Nat → sy_d, (∀ j, j < 82 → j ≠ 34 → F1 j = F j) → F1 34 = .inl (.int ((2 : Int32))) → Q (some (.int ((0 : Int32)))) (sy_dh F1 X1 X2 (iv_H 3))) :
    hd_W Ls xs d jm_M34 Q (0, sy_dL F [some (.inl (.ref 30)), none], sy_dS F [], sy_dh F X1 X2 (iv_H 3), 0, 0) := by
  refine hd_ret (s := 3) (nv := 82) (v := some (.inl (.int 0))) (uh := hd_ov (iv_id 0 iv_B0) [(34, .inl (.inl (.int 2)))]) (f := true) (sp := [19]) (d0 := 3) (O := [false]) (T := []) (P := [(3, .inr (.inl 4), .inl (.int 4))]) jm_ok34 (by decide +kernel) (by decide +kernel) hd F X1 X2 (fun F' hF hs => ?_)
  have b4 := hd_b (F := F) (F' := F') (k := 4) (hF 4 (by decide))
  have hB' : iv_in F' iv_B0 := iv_in_eq hB (fun j hj => hF j (Nat.lt_of_lt_of_le hj (by decide +kernel)))
  refine ⟨List.forall_mem_cons.mpr ⟨hd_p3 b4 rfl (by have hc : ((4) : Int32).toInt = 4 := (by decide); omega), fun _ h => absurd h List.not_mem_nil⟩, ?_⟩
  refine k _ ?_ ?_
  · exact fun j hj hn => (hd_keep hB' (Nat.lt_of_lt_of_le hj (by decide +kernel)) (by simp; omega)).trans (hF j (Nat.lt_of_lt_of_le hj (by decide)))
  · exact hd_gi (x := .inl (.int 2)) (by decide +kernel) rfl
theorem k3pb_0 {Ls : Nat} {xs : Nat → Int32} {d : Nat} {Q : Option Value → jm_h → Prop} (hd : 4 ≤ d) (F : Nat → sy_d) (X1 X2 : List jm_c) (hB : iv_in F iv_B0)
    (k0 : (sy_i F 4).toInt < 4 → ∀ F1 : Nat → sy_d, iv_in F1 iv_B0 → (∀ j, j < 82 → j ∉ ([] : List Nat) → F1 j = F j) → (sy_i F1 33).toInt = (sy_i F 33).toInt → (sy_i F1 34).toInt = (sy_i F 34).toInt → (sy_i F1 36).toInt = (sy_i F 36).toInt → (sy_i F1 37).toInt = (sy_i F 37).toInt → (sy_i F1 38).toInt = (sy_i F 38).toInt → (sy_i F1 3).toInt = (sy_i F 3).toInt → (sy_i F1 4).toInt = (sy_i F 4).toInt → sy_ai F1 39 = sy_ai F 39 → hd_W Ls xs d jm_M34 Q (19, sy_dL F1 [some (.inl (.ref 30)), none], sy_dS F1 [.inl (.int 1), .inl (.ref 30)], sy_dh F1 X1 X2 (iv_H 3), 0, 0))
    (k1 : 4 ≤ (sy_i F 4).toInt → ∀ F1 : Nat → sy_d, iv_in F1 iv_B0 → (∀ j, j < 82 → j ∉ ([34] : List Nat) → F1 j = F j) → (sy_i F1 33).toInt = (sy_i F 33).toInt → (sy_i F1 34).toInt = 2 → (sy_i F1 36).toInt = (sy_i F 36).toInt → (sy_i F1 37).toInt = (sy_i F 37).toInt → (sy_i F1 38).toInt = (sy_i F 38).toInt → (sy_i F1 3).toInt = (sy_i F 3).toInt → (sy_i F1 4).toInt = (sy_i F 4).toInt → sy_ai F1 39 = sy_ai F 39 → Q (some (.int ((0 : Int32)))) (sy_dh F1 X1 X2 (iv_H 3))) :
    hd_W Ls xs d jm_M34 Q (0, sy_dL F [some (.inl (.ref 30)), none], sy_dS F [], sy_dh F X1 X2 (iv_H 3), 0, 0) := by
  by_cases g0 : (sy_i F 4).toInt < 4
  · have c4 := nz_bx hB (k := 4) (lo := 0) (hi := 4) rfl
    exact k3pb_0_p0 hd F X1 X2 hB (by first | exact g0 | (simp only [nz_c]; exact g0)) (fun F1 g  => k0 g0 F1 (nz_in0 hB [] (fun j hj hn => g j hj (by simp only [List.mem_cons, List.not_mem_nil, or_false, not_or] at hn; exact trivial)) (List.forall_mem_nil _)) (fun j hj hn => g j hj (by simp only [List.mem_cons, List.not_mem_nil, or_false, not_or] at hn; exact trivial)) (nz_fi (g 33 (by decide) (by decide))) (nz_fi (g 34 (by decide) (by decide))) (nz_fi (g 36 (by decide) (by decide))) (nz_fi (g 37 (by decide) (by decide))) (nz_fi (g 38 (by decide) (by decide))) (nz_fi (g 3 (by decide) (by decide))) (nz_fi (g 4 (by decide) (by decide))) (nz_fa (g 39 (by decide) (by decide))))
  replace g0 : 4 ≤ (sy_i F 4).toInt := by omega
  have c4 := nz_bx hB (k := 4) (lo := 0) (hi := 4) rfl
  exact k3pb_0_p1 hd F X1 X2 hB (by first | exact g0 | (simp only [nz_c]; exact g0)) (fun F1 g e34 => k1 g0 F1 (nz_in0 hB [34] (fun j hj hn => g j hj (by simp only [List.mem_cons, List.not_mem_nil, or_false, not_or] at hn; omega)) (List.forall_mem_cons.mpr ⟨fun t ht => (Option.some.inj ht) ▸ (nz_hz e34), List.forall_mem_nil _⟩)) (fun j hj hn => g j hj (by simp only [List.mem_cons, List.not_mem_nil, or_false, not_or] at hn; omega)) (nz_fi (g 33 (by decide) (by decide))) ((congrArg Int32.toInt (zz_i e34)).trans (by decide : ((2 : Int32)).toInt = 2)) (nz_fi (g 36 (by decide) (by decide))) (nz_fi (g 37 (by decide) (by decide))) (nz_fi (g 38 (by decide) (by decide))) (nz_fi (g 3 (by decide) (by decide))) (nz_fi (g 4 (by decide) (by decide))) (nz_fa (g 39 (by decide) (by decide))))
theorem k3pb_22_p0 {Ls : Nat} {xs : Nat → Int32} {d : Nat} {Q : Option Value → jm_h → Prop} (hd : 4 ≤ d) (F : Nat → sy_d) (X1 X2 : List jm_c) (hB : iv_in F iv_B0)
    (h0 : (sy_i F 82).toInt = 0)
    (k : ∀ F1 : Nat → sy_d, (∀ j, j < 82 → True → F1 j = F j) → Q (some (.int ((0 : Int32)))) (sy_dh F1 X1 X2 (iv_H 3))) :
    hd_W Ls xs d jm_M34 Q (22, sy_dL F [some (.inl (.ref 30)), none], sy_dS F [.inr (.inl 82)], sy_dh F X1 X2 (iv_H 3), 0, 0) := by
  refine hd_ret (s := 3) (nv := 83) (v := some (.inl (.int 0))) (uh := hd_ov (iv_id 0 iv_B0) []) (f := false) (sp := [26]) (d0 := 3) (O := [true]) (T := []) (P := [(0, .inr (.inl 82), .inl (.int 0))]) jm_ok34 (by decide +kernel) (by decide +kernel) hd F X1 X2 (fun F' hF hs => ?_)
  have b82 := hd_b (F := F) (F' := F') (k := 82) (hF 82 (by decide))
  have hB' : iv_in F' iv_B0 := iv_in_eq hB (fun j hj => hF j (Nat.lt_of_lt_of_le hj (by decide +kernel)))
  refine ⟨List.forall_mem_cons.mpr ⟨hd_p0 b82 rfl (by have hc : ((0) : Int32).toInt = 0 := (by decide); omega), fun _ h => absurd h List.not_mem_nil⟩, ?_⟩
  refine k _ ?_
  · exact fun j hj _ => (hd_keep hB' (Nat.lt_of_lt_of_le hj (by decide +kernel)) (by simp)).trans (hF j (Nat.lt_of_lt_of_le hj (by decide)))
theorem k3pb_22_p1 {Ls : Nat} {xs : Nat → Int32} {d : Nat} {Q : Option Value → jm_h → Prop} (hd : 4 ≤ d) (F : Nat → sy_d) (X1 X2 : List jm_c) (hB : iv_in F iv_B0)
    (h0 : (sy_i F 82).toInt ≠ 0)
    (k : ∀ F1 : Nat → sy_d, (∀ j, j < 82 → True → F1 j = F j) → hd_W Ls xs d jm_M34 Q (26, sy_dL F1 [some (.inl (.ref 30)), none], sy_dS F1 [.inl (.ref 30)], sy_dh F1 X1 X2 (iv_H 3), 0, 0)) :
    hd_W Ls xs d jm_M34 Q (22, sy_dL F [some (.inl (.ref 30)), none], sy_dS F [.inr (.inl 82)], sy_dh F X1 X2 (iv_H 3), 0, 0) := by
  refine hd_run (s := 3) (nv := 83) (pc := 26) (L := [some (.inl (.ref 30)), none]) (S := [.inl (.ref 30)]) (uh := hd_ov (iv_id 0 iv_B0) []) (ul := []) (f := false) (sp := [26]) (d0 := 3) (O := [false]) (T := []) (P := [(1, .inr (.inl 82), .inl (.int 0))]) jm_ok34 (by decide +kernel) (by decide +kernel) hd F X1 X2 (fun F' hF hs => ?_)
  have b82 := hd_b (F := F) (F' := F') (k := 82) (hF 82 (by decide))
  have hB' : iv_in F' iv_B0 := iv_in_eq hB (fun j hj => hF j (Nat.lt_of_lt_of_le hj (by decide +kernel)))
  refine ⟨List.forall_mem_cons.mpr ⟨hd_p1 b82 rfl (by have hc : ((0) : Int32).toInt = 0 := (by decide); omega), fun _ h => absurd h List.not_mem_nil⟩, ?_⟩
  refine k _ ?_
  · exact fun j hj _ => (hd_keep hB' (Nat.lt_of_lt_of_le hj (by decide +kernel)) (by simp)).trans (hF j (Nat.lt_of_lt_of_le hj (by decide)))
theorem k3pb_22 {Ls : Nat} {xs : Nat → Int32} {d : Nat} {Q : Option Value → jm_h → Prop} (hd : 4 ≤ d) (F : Nat → sy_d) (X1 X2 : List jm_c) (hB : iv_in F iv_B0)
    (k0 : (sy_i F 82).toInt = 0 → ∀ F1 : Nat → sy_d, iv_in F1 iv_B0 → (∀ j, j < 82 → j ∉ ([] : List Nat) → F1 j = F j) → (sy_i F1 33).toInt = (sy_i F 33).toInt → (sy_i F1 34).toInt = (sy_i F 34).toInt → (sy_i F1 36).toInt = (sy_i F 36).toInt → (sy_i F1 37).toInt = (sy_i F 37).toInt → (sy_i F1 38).toInt = (sy_i F 38).toInt → (sy_i F1 3).toInt = (sy_i F 3).toInt → (sy_i F1 4).toInt = (sy_i F 4).toInt → sy_ai F1 39 = sy_ai F 39 → Q (some (.int ((0 : Int32)))) (sy_dh F1 X1 X2 (iv_H 3)))
    (k1 : (sy_i F 82).toInt ≠ 0 → ∀ F1 : Nat → sy_d, iv_in F1 iv_B0 → (∀ j, j < 82 → j ∉ ([] : List Nat) → F1 j = F j) → (sy_i F1 33).toInt = (sy_i F 33).toInt → (sy_i F1 34).toInt = (sy_i F 34).toInt → (sy_i F1 36).toInt = (sy_i F 36).toInt → (sy_i F1 37).toInt = (sy_i F 37).toInt → (sy_i F1 38).toInt = (sy_i F 38).toInt → (sy_i F1 3).toInt = (sy_i F 3).toInt → (sy_i F1 4).toInt = (sy_i F 4).toInt → sy_ai F1 39 = sy_ai F 39 → hd_W Ls xs d jm_M34 Q (26, sy_dL F1 [some (.inl (.ref 30)), none], sy_dS F1 [.inl (.ref 30)], sy_dh F1 X1 X2 (iv_H 3), 0, 0)) :
    hd_W Ls xs d jm_M34 Q (22, sy_dL F [some (.inl (.ref 30)), none], sy_dS F [.inr (.inl 82)], sy_dh F X1 X2 (iv_H 3), 0, 0) := by
  by_cases g0 : (sy_i F 82).toInt = 0
  · exact k3pb_22_p0 hd F X1 X2 hB (by first | exact g0 | (simp only [nz_c]; exact g0)) (fun F1 g  => k0 g0 F1 (nz_in0 hB [] (fun j hj hn => g j hj (by simp only [List.mem_cons, List.not_mem_nil, or_false, not_or] at hn; exact trivial)) (List.forall_mem_nil _)) (fun j hj hn => g j hj (by simp only [List.mem_cons, List.not_mem_nil, or_false, not_or] at hn; exact trivial)) (nz_fi (g 33 (by decide) (by decide))) (nz_fi (g 34 (by decide) (by decide))) (nz_fi (g 36 (by decide) (by decide))) (nz_fi (g 37 (by decide) (by decide))) (nz_fi (g 38 (by decide) (by decide))) (nz_fi (g 3 (by decide) (by decide))) (nz_fi (g 4 (by decide) (by decide))) (nz_fa (g 39 (by decide) (by decide))))
  replace g0 : (sy_i F 82).toInt ≠ 0 := by omega
  exact k3pb_22_p1 hd F X1 X2 hB (by first | exact g0 | (simp only [nz_c]; exact g0)) (fun F1 g  => k1 g0 F1 (nz_in0 hB [] (fun j hj hn => g j hj (by simp only [List.mem_cons, List.not_mem_nil, or_false, not_or] at hn; exact trivial)) (List.forall_mem_nil _)) (fun j hj hn => g j hj (by simp only [List.mem_cons, List.not_mem_nil, or_false, not_or] at hn; exact trivial)) (nz_fi (g 33 (by decide) (by decide))) (nz_fi (g 34 (by decide) (by decide))) (nz_fi (g 36 (by decide) (by decide))) (nz_fi (g 37 (by decide) (by decide))) (nz_fi (g 38 (by decide) (by decide))) (nz_fi (g 3 (by decide) (by decide))) (nz_fi (g 4 (by decide) (by decide))) (nz_fa (g 39 (by decide) (by decide))))
theorem k3pb_29_p0 {Ls : Nat} {xs : Nat → Int32} {d : Nat} {Q : Option Value → jm_h → Prop} (hd : 4 ≤ d) (F : Nat → sy_d) (X1 X2 : List jm_c) (hB : iv_in F iv_B0)
    (h0 : (sy_i F 82).toInt = 0)
    (k : ∀ F1 : Nat → sy_d, (∀ j, j < 82 → True → F1 j = F j) → Q (some (.int ((0 : Int32)))) (sy_dh F1 X1 X2 (iv_H 3))) :
    hd_W Ls xs d jm_M34 Q (29, sy_dL F [some (.inl (.ref 30)), none], sy_dS F [.inr (.inl 82)], sy_dh F X1 X2 (iv_H 3), 0, 0) := by
  refine hd_ret (s := 3) (nv := 83) (v := some (.inl (.int 0))) (uh := hd_ov (iv_id 0 iv_B0) []) (f := false) (sp := [37]) (d0 := 3) (O := [true]) (T := []) (P := [(0, .inr (.inl 82), .inl (.int 0))]) jm_ok34 (by decide +kernel) (by decide +kernel) hd F X1 X2 (fun F' hF hs => ?_)
  have b82 := hd_b (F := F) (F' := F') (k := 82) (hF 82 (by decide))
  have hB' : iv_in F' iv_B0 := iv_in_eq hB (fun j hj => hF j (Nat.lt_of_lt_of_le hj (by decide +kernel)))
  refine ⟨List.forall_mem_cons.mpr ⟨hd_p0 b82 rfl (by have hc : ((0) : Int32).toInt = 0 := (by decide); omega), fun _ h => absurd h List.not_mem_nil⟩, ?_⟩
  refine k _ ?_
  · exact fun j hj _ => (hd_keep hB' (Nat.lt_of_lt_of_le hj (by decide +kernel)) (by simp)).trans (hF j (Nat.lt_of_lt_of_le hj (by decide)))
theorem k3pb_29_p1 {Ls : Nat} {xs : Nat → Int32} {d : Nat} {Q : Option Value → jm_h → Prop} (hd : 4 ≤ d) (F : Nat → sy_d) (X1 X2 : List jm_c) (hB : iv_in F iv_B0)
    (h0 : (sy_i F 82).toInt ≠ 0)
    (k : ∀ F1 : Nat → sy_d, (∀ j, j < 82 → True → F1 j = F j) → hd_W Ls xs d jm_M34 Q (37, sy_dL F1 [some (.inl (.ref 30)), none], sy_dS F1 [.inl (.int 9), .inl (.int 0), .inl (.int 0), .inl (.ref 30)], sy_dh F1 X1 X2 (iv_H 3), 0, 0)) :
    hd_W Ls xs d jm_M34 Q (29, sy_dL F [some (.inl (.ref 30)), none], sy_dS F [.inr (.inl 82)], sy_dh F X1 X2 (iv_H 3), 0, 0) := by
  refine hd_run (s := 3) (nv := 83) (pc := 37) (L := [some (.inl (.ref 30)), none]) (S := [.inl (.int 9), .inl (.int 0), .inl (.int 0), .inl (.ref 30)]) (uh := hd_ov (iv_id 0 iv_B0) []) (ul := []) (f := false) (sp := [37]) (d0 := 3) (O := [false]) (T := []) (P := [(1, .inr (.inl 82), .inl (.int 0))]) jm_ok34 (by decide +kernel) (by decide +kernel) hd F X1 X2 (fun F' hF hs => ?_)
  have b82 := hd_b (F := F) (F' := F') (k := 82) (hF 82 (by decide))
  have hB' : iv_in F' iv_B0 := iv_in_eq hB (fun j hj => hF j (Nat.lt_of_lt_of_le hj (by decide +kernel)))
  refine ⟨List.forall_mem_cons.mpr ⟨hd_p1 b82 rfl (by have hc : ((0) : Int32).toInt = 0 := (by decide); omega), fun _ h => absurd h List.not_mem_nil⟩, ?_⟩
  refine k _ ?_
  · exact fun j hj _ => (hd_keep hB' (Nat.lt_of_lt_of_le hj (by decide +kernel)) (by simp)).trans (hF j (Nat.lt_of_lt_of_le hj (by decide)))
theorem k3pb_29 {Ls : Nat} {xs : Nat → Int32} {d : Nat} {Q : Option Value → jm_h → Prop} (hd : 4 ≤ d) (F : Nat → sy_d) (X1 X2 : List jm_c) (hB : iv_in F iv_B0)
    (k0 : (sy_i F 82).toInt = 0 → ∀ F1 : Nat → sy_d, iv_in F1 iv_B0 → (∀ j, j < 82 → j ∉ ([] : List Nat) → F1 j = F j) → (sy_i F1 33).toInt = (sy_i F 33).toInt → (sy_i F1 34).toInt = (sy_i F 34).toInt → (sy_i F1 36).toInt = (sy_i F 36).toInt → (sy_i F1 37).toInt = (sy_i F 37).toInt → (sy_i F1 38).toInt = (sy_i F 38).toInt → (sy_i F1 3).toInt = (sy_i F 3).toInt → (sy_i F1 4).toInt = (sy_i F 4).toInt → sy_ai F1 39 = sy_ai F 39 → Q (some (.int ((0 : Int32)))) (sy_dh F1 X1 X2 (iv_H 3)))
    (k1 : (sy_i F 82).toInt ≠ 0 → ∀ F1 : Nat → sy_d, iv_in F1 iv_B0 → (∀ j, j < 82 → j ∉ ([] : List Nat) → F1 j = F j) → (sy_i F1 33).toInt = (sy_i F 33).toInt → (sy_i F1 34).toInt = (sy_i F 34).toInt → (sy_i F1 36).toInt = (sy_i F 36).toInt → (sy_i F1 37).toInt = (sy_i F 37).toInt → (sy_i F1 38).toInt = (sy_i F 38).toInt → (sy_i F1 3).toInt = (sy_i F 3).toInt → (sy_i F1 4).toInt = (sy_i F 4).toInt → sy_ai F1 39 = sy_ai F 39 → hd_W Ls xs d jm_M34 Q (37, sy_dL F1 [some (.inl (.ref 30)), none], sy_dS F1 [.inl (.int 9), .inl (.int 0), .inl (.int 0), .inl (.ref 30)], sy_dh F1 X1 X2 (iv_H 3), 0, 0)) :
    hd_W Ls xs d jm_M34 Q (29, sy_dL F [some (.inl (.ref 30)), none], sy_dS F [.inr (.inl 82)], sy_dh F X1 X2 (iv_H 3), 0, 0) := by
  by_cases g0 : (sy_i F 82).toInt = 0
  · exact k3pb_29_p0 hd F X1 X2 hB (by first | exact g0 | (simp only [nz_c]; exact g0)) (fun F1 g  => k0 g0 F1 (nz_in0 hB [] (fun j hj hn => g j hj (by simp only [List.mem_cons, List.not_mem_nil, or_false, not_or] at hn; exact trivial)) (List.forall_mem_nil _)) (fun j hj hn => g j hj (by simp only [List.mem_cons, List.not_mem_nil, or_false, not_or] at hn; exact trivial)) (nz_fi (g 33 (by decide) (by decide))) (nz_fi (g 34 (by decide) (by decide))) (nz_fi (g 36 (by decide) (by decide))) (nz_fi (g 37 (by decide) (by decide))) (nz_fi (g 38 (by decide) (by decide))) (nz_fi (g 3 (by decide) (by decide))) (nz_fi (g 4 (by decide) (by decide))) (nz_fa (g 39 (by decide) (by decide))))
  replace g0 : (sy_i F 82).toInt ≠ 0 := by omega
  exact k3pb_29_p1 hd F X1 X2 hB (by first | exact g0 | (simp only [nz_c]; exact g0)) (fun F1 g  => k1 g0 F1 (nz_in0 hB [] (fun j hj hn => g j hj (by simp only [List.mem_cons, List.not_mem_nil, or_false, not_or] at hn; exact trivial)) (List.forall_mem_nil _)) (fun j hj hn => g j hj (by simp only [List.mem_cons, List.not_mem_nil, or_false, not_or] at hn; exact trivial)) (nz_fi (g 33 (by decide) (by decide))) (nz_fi (g 34 (by decide) (by decide))) (nz_fi (g 36 (by decide) (by decide))) (nz_fi (g 37 (by decide) (by decide))) (nz_fi (g 38 (by decide) (by decide))) (nz_fi (g 3 (by decide) (by decide))) (nz_fi (g 4 (by decide) (by decide))) (nz_fa (g 39 (by decide) (by decide))))
theorem k3pb_40_p0 {Ls : Nat} {xs : Nat → Int32} {d : Nat} {Q : Option Value → jm_h → Prop} (hd : 4 ≤ d) (F : Nat → sy_d) (X1 X2 : List jm_c) (hB : iv_in F iv_B0)
    (h0 : (sy_i F 82).toInt = 0)
    (k : ∀ F1 : Nat → sy_d, (∀ j, j < 82 → True → F1 j = F j) → Q (some (.int ((0 : Int32)))) (sy_dh F1 X1 X2 (iv_H 3))) :
    hd_W Ls xs d jm_M34 Q (40, sy_dL F [some (.inl (.ref 30)), none], sy_dS F [.inr (.inl 82)], sy_dh F X1 X2 (iv_H 3), 0, 0) := by
  refine hd_ret (s := 3) (nv := 83) (v := some (.inl (.int 0))) (uh := hd_ov (iv_id 0 iv_B0) []) (f := false) (sp := [47]) (d0 := 3) (O := [true]) (T := []) (P := [(0, .inr (.inl 82), .inl (.int 0))]) jm_ok34 (by decide +kernel) (by decide +kernel) hd F X1 X2 (fun F' hF hs => ?_)
  have b82 := hd_b (F := F) (F' := F') (k := 82) (hF 82 (by decide))
  have hB' : iv_in F' iv_B0 := iv_in_eq hB (fun j hj => hF j (Nat.lt_of_lt_of_le hj (by decide +kernel)))
  refine ⟨List.forall_mem_cons.mpr ⟨hd_p0 b82 rfl (by have hc : ((0) : Int32).toInt = 0 := (by decide); omega), fun _ h => absurd h List.not_mem_nil⟩, ?_⟩
  refine k _ ?_
  · exact fun j hj _ => (hd_keep hB' (Nat.lt_of_lt_of_le hj (by decide +kernel)) (by simp)).trans (hF j (Nat.lt_of_lt_of_le hj (by decide)))
theorem k3pb_40_p1 {Ls : Nat} {xs : Nat → Int32} {d : Nat} {Q : Option Value → jm_h → Prop} (hd : 4 ≤ d) (F : Nat → sy_d) (X1 X2 : List jm_c) (hB : iv_in F iv_B0)
    (h0 : (sy_i F 82).toInt ≠ 0)
    (k : ∀ F1 : Nat → sy_d, (∀ j, j < 82 → True → F1 j = F j) → hd_W Ls xs d jm_M34 Q (47, sy_dL F1 [some (.inl (.ref 30)), none], sy_dS F1 [.inl (.int 3), .inl (.int 0), .inl (.int 1), .inl (.ref 30)], sy_dh F1 X1 X2 (iv_H 3), 0, 0)) :
    hd_W Ls xs d jm_M34 Q (40, sy_dL F [some (.inl (.ref 30)), none], sy_dS F [.inr (.inl 82)], sy_dh F X1 X2 (iv_H 3), 0, 0) := by
  refine hd_run (s := 3) (nv := 83) (pc := 47) (L := [some (.inl (.ref 30)), none]) (S := [.inl (.int 3), .inl (.int 0), .inl (.int 1), .inl (.ref 30)]) (uh := hd_ov (iv_id 0 iv_B0) []) (ul := []) (f := false) (sp := [47]) (d0 := 3) (O := [false]) (T := []) (P := [(1, .inr (.inl 82), .inl (.int 0))]) jm_ok34 (by decide +kernel) (by decide +kernel) hd F X1 X2 (fun F' hF hs => ?_)
  have b82 := hd_b (F := F) (F' := F') (k := 82) (hF 82 (by decide))
  have hB' : iv_in F' iv_B0 := iv_in_eq hB (fun j hj => hF j (Nat.lt_of_lt_of_le hj (by decide +kernel)))
  refine ⟨List.forall_mem_cons.mpr ⟨hd_p1 b82 rfl (by have hc : ((0) : Int32).toInt = 0 := (by decide); omega), fun _ h => absurd h List.not_mem_nil⟩, ?_⟩
  refine k _ ?_
  · exact fun j hj _ => (hd_keep hB' (Nat.lt_of_lt_of_le hj (by decide +kernel)) (by simp)).trans (hF j (Nat.lt_of_lt_of_le hj (by decide)))
theorem k3pb_40 {Ls : Nat} {xs : Nat → Int32} {d : Nat} {Q : Option Value → jm_h → Prop} (hd : 4 ≤ d) (F : Nat → sy_d) (X1 X2 : List jm_c) (hB : iv_in F iv_B0)
    (k0 : (sy_i F 82).toInt = 0 → ∀ F1 : Nat → sy_d, iv_in F1 iv_B0 → (∀ j, j < 82 → j ∉ ([] : List Nat) → F1 j = F j) → (sy_i F1 33).toInt = (sy_i F 33).toInt → (sy_i F1 34).toInt = (sy_i F 34).toInt → (sy_i F1 36).toInt = (sy_i F 36).toInt → (sy_i F1 37).toInt = (sy_i F 37).toInt → (sy_i F1 38).toInt = (sy_i F 38).toInt → (sy_i F1 3).toInt = (sy_i F 3).toInt → (sy_i F1 4).toInt = (sy_i F 4).toInt → sy_ai F1 39 = sy_ai F 39 → Q (some (.int ((0 : Int32)))) (sy_dh F1 X1 X2 (iv_H 3)))
    (k1 : (sy_i F 82).toInt ≠ 0 → ∀ F1 : Nat → sy_d, iv_in F1 iv_B0 → (∀ j, j < 82 → j ∉ ([] : List Nat) → F1 j = F j) → (sy_i F1 33).toInt = (sy_i F 33).toInt → (sy_i F1 34).toInt = (sy_i F 34).toInt → (sy_i F1 36).toInt = (sy_i F 36).toInt → (sy_i F1 37).toInt = (sy_i F 37).toInt → (sy_i F1 38).toInt = (sy_i F 38).toInt → (sy_i F1 3).toInt = (sy_i F 3).toInt → (sy_i F1 4).toInt = (sy_i F 4).toInt → sy_ai F1 39 = sy_ai F 39 → hd_W Ls xs d jm_M34 Q (47, sy_dL F1 [some (.inl (.ref 30)), none], sy_dS F1 [.inl (.int 3), .inl (.int 0), .inl (.int 1), .inl (.ref 30)], sy_dh F1 X1 X2 (iv_H 3), 0, 0)) :
    hd_W Ls xs d jm_M34 Q (40, sy_dL F [some (.inl (.ref 30)), none], sy_dS F [.inr (.inl 82)], sy_dh F X1 X2 (iv_H 3), 0, 0) := by
  by_cases g0 : (sy_i F 82).toInt = 0
  · exact k3pb_40_p0 hd F X1 X2 hB (by first | exact g0 | (simp only [nz_c]; exact g0)) (fun F1 g  => k0 g0 F1 (nz_in0 hB [] (fun j hj hn => g j hj (by simp only [List.mem_cons, List.not_mem_nil, or_false, not_or] at hn; exact trivial)) (List.forall_mem_nil _)) (fun j hj hn => g j hj (by simp only [List.mem_cons, List.not_mem_nil, or_false, not_or] at hn; exact trivial)) (nz_fi (g 33 (by decide) (by decide))) (nz_fi (g 34 (by decide) (by decide))) (nz_fi (g 36 (by decide) (by decide))) (nz_fi (g 37 (by decide) (by decide))) (nz_fi (g 38 (by decide) (by decide))) (nz_fi (g 3 (by decide) (by decide))) (nz_fi (g 4 (by decide) (by decide))) (nz_fa (g 39 (by decide) (by decide))))
  replace g0 : (sy_i F 82).toInt ≠ 0 := by omega
  exact k3pb_40_p1 hd F X1 X2 hB (by first | exact g0 | (simp only [nz_c]; exact g0)) (fun F1 g  => k1 g0 F1 (nz_in0 hB [] (fun j hj hn => g j hj (by simp only [List.mem_cons, List.not_mem_nil, or_false, not_or] at hn; exact trivial)) (List.forall_mem_nil _)) (fun j hj hn => g j hj (by simp only [List.mem_cons, List.not_mem_nil, or_false, not_or] at hn; exact trivial)) (nz_fi (g 33 (by decide) (by decide))) (nz_fi (g 34 (by decide) (by decide))) (nz_fi (g 36 (by decide) (by decide))) (nz_fi (g 37 (by decide) (by decide))) (nz_fi (g 38 (by decide) (by decide))) (nz_fi (g 3 (by decide) (by decide))) (nz_fi (g 4 (by decide) (by decide))) (nz_fa (g 39 (by decide) (by decide))))
theorem k3pb_50_p0 {Ls : Nat} {xs : Nat → Int32} {d : Nat} {Q : Option Value → jm_h → Prop} (hd : 4 ≤ d) (F : Nat → sy_d) (X1 X2 : List jm_c) (hB : iv_in F iv_B0)
    (h0 : (sy_i F 82).toInt = 0)
    (k : ∀ F1 : Nat → sy_d, (∀ j, j < 82 → True → F1 j = F j) → Q (some (.int ((0 : Int32)))) (sy_dh F1 X1 X2 (iv_H 3))) :
    hd_W Ls xs d jm_M34 Q (50, sy_dL F [some (.inl (.ref 30)), none], sy_dS F [.inr (.inl 82)], sy_dh F X1 X2 (iv_H 3), 0, 0) := by
  refine hd_ret (s := 3) (nv := 83) (v := some (.inl (.int 0))) (uh := hd_ov (iv_id 0 iv_B0) []) (f := false) (sp := [59]) (d0 := 3) (O := [true]) (T := []) (P := [(0, .inr (.inl 82), .inl (.int 0))]) jm_ok34 (by decide +kernel) (by decide +kernel) hd F X1 X2 (fun F' hF hs => ?_)
  have b82 := hd_b (F := F) (F' := F') (k := 82) (hF 82 (by decide))
  have hB' : iv_in F' iv_B0 := iv_in_eq hB (fun j hj => hF j (Nat.lt_of_lt_of_le hj (by decide +kernel)))
  refine ⟨List.forall_mem_cons.mpr ⟨hd_p0 b82 rfl (by have hc : ((0) : Int32).toInt = 0 := (by decide); omega), fun _ h => absurd h List.not_mem_nil⟩, ?_⟩
  refine k _ ?_
  · exact fun j hj _ => (hd_keep hB' (Nat.lt_of_lt_of_le hj (by decide +kernel)) (by simp)).trans (hF j (Nat.lt_of_lt_of_le hj (by decide)))
theorem k3pb_50_p1 {Ls : Nat} {xs : Nat → Int32} {d : Nat} {Q : Option Value → jm_h → Prop} (hd : 4 ≤ d) (F : Nat → sy_d) (X1 X2 : List jm_c) (hB : iv_in F iv_B0)
    (h0 : (sy_i F 82).toInt ≠ 0)
    (k : ∀ F1 : Nat → sy_d, (∀ j, j < 82 → True → F1 j = F j) → hd_W Ls xs d jm_M34 Q (59, sy_dL F1 [some (.inl (.ref 30)), none], sy_dS F1 [.inl (.int 999), .inl (.int 0), .inl (.int 2), .inl (.ref 30)], sy_dh F1 X1 X2 (iv_H 3), 0, 0)) :
    hd_W Ls xs d jm_M34 Q (50, sy_dL F [some (.inl (.ref 30)), none], sy_dS F [.inr (.inl 82)], sy_dh F X1 X2 (iv_H 3), 0, 0) := by
  refine hd_run (s := 3) (nv := 83) (pc := 59) (L := [some (.inl (.ref 30)), none]) (S := [.inl (.int 999), .inl (.int 0), .inl (.int 2), .inl (.ref 30)]) (uh := hd_ov (iv_id 0 iv_B0) []) (ul := []) (f := false) (sp := [59]) (d0 := 3) (O := [false]) (T := []) (P := [(1, .inr (.inl 82), .inl (.int 0))]) jm_ok34 (by decide +kernel) (by decide +kernel) hd F X1 X2 (fun F' hF hs => ?_)
  have b82 := hd_b (F := F) (F' := F') (k := 82) (hF 82 (by decide))
  have hB' : iv_in F' iv_B0 := iv_in_eq hB (fun j hj => hF j (Nat.lt_of_lt_of_le hj (by decide +kernel)))
  refine ⟨List.forall_mem_cons.mpr ⟨hd_p1 b82 rfl (by have hc : ((0) : Int32).toInt = 0 := (by decide); omega), fun _ h => absurd h List.not_mem_nil⟩, ?_⟩
  refine k _ ?_
  · exact fun j hj _ => (hd_keep hB' (Nat.lt_of_lt_of_le hj (by decide +kernel)) (by simp)).trans (hF j (Nat.lt_of_lt_of_le hj (by decide)))
theorem k3pb_50 {Ls : Nat} {xs : Nat → Int32} {d : Nat} {Q : Option Value → jm_h → Prop} (hd : 4 ≤ d) (F : Nat → sy_d) (X1 X2 : List jm_c) (hB : iv_in F iv_B0)
    (k0 : (sy_i F 82).toInt = 0 → ∀ F1 : Nat → sy_d, iv_in F1 iv_B0 → (∀ j, j < 82 → j ∉ ([] : List Nat) → F1 j = F j) → (sy_i F1 33).toInt = (sy_i F 33).toInt → (sy_i F1 34).toInt = (sy_i F 34).toInt → (sy_i F1 36).toInt = (sy_i F 36).toInt → (sy_i F1 37).toInt = (sy_i F 37).toInt → (sy_i F1 38).toInt = (sy_i F 38).toInt → (sy_i F1 3).toInt = (sy_i F 3).toInt → (sy_i F1 4).toInt = (sy_i F 4).toInt → sy_ai F1 39 = sy_ai F 39 → Q (some (.int ((0 : Int32)))) (sy_dh F1 X1 X2 (iv_H 3)))
    (k1 : (sy_i F 82).toInt ≠ 0 → ∀ F1 : Nat → sy_d, iv_in F1 iv_B0 → (∀ j, j < 82 → j ∉ ([] : List Nat) → F1 j = F j) → (sy_i F1 33).toInt = (sy_i F 33).toInt → (sy_i F1 34).toInt = (sy_i F 34).toInt → (sy_i F1 36).toInt = (sy_i F 36).toInt → (sy_i F1 37).toInt = (sy_i F 37).toInt → (sy_i F1 38).toInt = (sy_i F 38).toInt → (sy_i F1 3).toInt = (sy_i F 3).toInt → (sy_i F1 4).toInt = (sy_i F 4).toInt → sy_ai F1 39 = sy_ai F 39 → hd_W Ls xs d jm_M34 Q (59, sy_dL F1 [some (.inl (.ref 30)), none], sy_dS F1 [.inl (.int 999), .inl (.int 0), .inl (.int 2), .inl (.ref 30)], sy_dh F1 X1 X2 (iv_H 3), 0, 0)) :
    hd_W Ls xs d jm_M34 Q (50, sy_dL F [some (.inl (.ref 30)), none], sy_dS F [.inr (.inl 82)], sy_dh F X1 X2 (iv_H 3), 0, 0) := by
  by_cases g0 : (sy_i F 82).toInt = 0
  · exact k3pb_50_p0 hd F X1 X2 hB (by first | exact g0 | (simp only [nz_c]; exact g0)) (fun F1 g  => k0 g0 F1 (nz_in0 hB [] (fun j hj hn => g j hj (by simp only [List.mem_cons, List.not_mem_nil, or_false, not_or] at hn; exact trivial)) (List.forall_mem_nil _)) (fun j hj hn => g j hj (by simp only [List.mem_cons, List.not_mem_nil, or_false, not_or] at hn; exact trivial)) (nz_fi (g 33 (by decide) (by decide))) (nz_fi (g 34 (by decide) (by decide))) (nz_fi (g 36 (by decide) (by decide))) (nz_fi (g 37 (by decide) (by decide))) (nz_fi (g 38 (by decide) (by decide))) (nz_fi (g 3 (by decide) (by decide))) (nz_fi (g 4 (by decide) (by decide))) (nz_fa (g 39 (by decide) (by decide))))
  replace g0 : (sy_i F 82).toInt ≠ 0 := by omega
  exact k3pb_50_p1 hd F X1 X2 hB (by first | exact g0 | (simp only [nz_c]; exact g0)) (fun F1 g  => k1 g0 F1 (nz_in0 hB [] (fun j hj hn => g j hj (by simp only [List.mem_cons, List.not_mem_nil, or_false, not_or] at hn; exact trivial)) (List.forall_mem_nil _)) (fun j hj hn => g j hj (by simp only [List.mem_cons, List.not_mem_nil, or_false, not_or] at hn; exact trivial)) (nz_fi (g 33 (by decide) (by decide))) (nz_fi (g 34 (by decide) (by decide))) (nz_fi (g 36 (by decide) (by decide))) (nz_fi (g 37 (by decide) (by decide))) (nz_fi (g 38 (by decide) (by decide))) (nz_fi (g 3 (by decide) (by decide))) (nz_fi (g 4 (by decide) (by decide))) (nz_fa (g 39 (by decide) (by decide))))
theorem k3pb_62_p0 {Ls : Nat} {xs : Nat → Int32} {d : Nat} {Q : Option Value → jm_h → Prop} (hd : 4 ≤ d) (F : Nat → sy_d) (X1 X2 : List jm_c) (hB : iv_in F iv_B0)
    (h0 : (sy_i F 82).toInt = 0)
    (k : ∀ F1 : Nat → sy_d, (∀ j, j < 82 → True → F1 j = F j) → Q (some (.int ((0 : Int32)))) (sy_dh F1 X1 X2 (iv_H 3))) :
    hd_W Ls xs d jm_M34 Q (62, sy_dL F [some (.inl (.ref 30)), none], sy_dS F [.inr (.inl 82)], sy_dh F X1 X2 (iv_H 3), 0, 0) := by
  refine hd_ret (s := 3) (nv := 83) (v := some (.inl (.int 0))) (uh := hd_ov (iv_id 0 iv_B0) []) (f := false) (sp := [68]) (d0 := 3) (O := [true]) (T := []) (P := [(0, .inr (.inl 82), .inl (.int 0))]) jm_ok34 (by decide +kernel) (by decide +kernel) hd F X1 X2 (fun F' hF hs => ?_)
  have b82 := hd_b (F := F) (F' := F') (k := 82) (hF 82 (by decide))
  have hB' : iv_in F' iv_B0 := iv_in_eq hB (fun j hj => hF j (Nat.lt_of_lt_of_le hj (by decide +kernel)))
  refine ⟨List.forall_mem_cons.mpr ⟨hd_p0 b82 rfl (by have hc : ((0) : Int32).toInt = 0 := (by decide); omega), fun _ h => absurd h List.not_mem_nil⟩, ?_⟩
  refine k _ ?_
  · exact fun j hj _ => (hd_keep hB' (Nat.lt_of_lt_of_le hj (by decide +kernel)) (by simp)).trans (hF j (Nat.lt_of_lt_of_le hj (by decide)))
theorem k3pb_62_p1 {Ls : Nat} {xs : Nat → Int32} {d : Nat} {Q : Option Value → jm_h → Prop} (hd : 4 ≤ d) (F : Nat → sy_d) (X1 X2 : List jm_c) (hB : iv_in F iv_B0)
    (h0 : (sy_i F 82).toInt ≠ 0)
    (k : ∀ F1 : Nat → sy_d, (∀ j, j < 82 → True → F1 j = F j) → hd_W Ls xs d jm_M34 Q (68, sy_dL F1 [some (.inl (.ref 30)), none], sy_dS F1 [.inl (.int 59), .inl (.ref 30)], sy_dh F1 X1 X2 (iv_H 3), 0, 0)) :
    hd_W Ls xs d jm_M34 Q (62, sy_dL F [some (.inl (.ref 30)), none], sy_dS F [.inr (.inl 82)], sy_dh F X1 X2 (iv_H 3), 0, 0) := by
  refine hd_run (s := 3) (nv := 83) (pc := 68) (L := [some (.inl (.ref 30)), none]) (S := [.inl (.int 59), .inl (.ref 30)]) (uh := hd_ov (iv_id 0 iv_B0) []) (ul := []) (f := false) (sp := [68]) (d0 := 3) (O := [false]) (T := []) (P := [(1, .inr (.inl 82), .inl (.int 0))]) jm_ok34 (by decide +kernel) (by decide +kernel) hd F X1 X2 (fun F' hF hs => ?_)
  have b82 := hd_b (F := F) (F' := F') (k := 82) (hF 82 (by decide))
  have hB' : iv_in F' iv_B0 := iv_in_eq hB (fun j hj => hF j (Nat.lt_of_lt_of_le hj (by decide +kernel)))
  refine ⟨List.forall_mem_cons.mpr ⟨hd_p1 b82 rfl (by have hc : ((0) : Int32).toInt = 0 := (by decide); omega), fun _ h => absurd h List.not_mem_nil⟩, ?_⟩
  refine k _ ?_
  · exact fun j hj _ => (hd_keep hB' (Nat.lt_of_lt_of_le hj (by decide +kernel)) (by simp)).trans (hF j (Nat.lt_of_lt_of_le hj (by decide)))
theorem k3pb_62 {Ls : Nat} {xs : Nat → Int32} {d : Nat} {Q : Option Value → jm_h → Prop} (hd : 4 ≤ d) (F : Nat → sy_d) (X1 X2 : List jm_c) (hB : iv_in F iv_B0)
    (k0 : (sy_i F 82).toInt = 0 → ∀ F1 : Nat → sy_d, iv_in F1 iv_B0 → (∀ j, j < 82 → j ∉ ([] : List Nat) → F1 j = F j) → (sy_i F1 33).toInt = (sy_i F 33).toInt → (sy_i F1 34).toInt = (sy_i F 34).toInt → (sy_i F1 36).toInt = (sy_i F 36).toInt → (sy_i F1 37).toInt = (sy_i F 37).toInt → (sy_i F1 38).toInt = (sy_i F 38).toInt → (sy_i F1 3).toInt = (sy_i F 3).toInt → (sy_i F1 4).toInt = (sy_i F 4).toInt → sy_ai F1 39 = sy_ai F 39 → Q (some (.int ((0 : Int32)))) (sy_dh F1 X1 X2 (iv_H 3)))
    (k1 : (sy_i F 82).toInt ≠ 0 → ∀ F1 : Nat → sy_d, iv_in F1 iv_B0 → (∀ j, j < 82 → j ∉ ([] : List Nat) → F1 j = F j) → (sy_i F1 33).toInt = (sy_i F 33).toInt → (sy_i F1 34).toInt = (sy_i F 34).toInt → (sy_i F1 36).toInt = (sy_i F 36).toInt → (sy_i F1 37).toInt = (sy_i F 37).toInt → (sy_i F1 38).toInt = (sy_i F 38).toInt → (sy_i F1 3).toInt = (sy_i F 3).toInt → (sy_i F1 4).toInt = (sy_i F 4).toInt → sy_ai F1 39 = sy_ai F 39 → hd_W Ls xs d jm_M34 Q (68, sy_dL F1 [some (.inl (.ref 30)), none], sy_dS F1 [.inl (.int 59), .inl (.ref 30)], sy_dh F1 X1 X2 (iv_H 3), 0, 0)) :
    hd_W Ls xs d jm_M34 Q (62, sy_dL F [some (.inl (.ref 30)), none], sy_dS F [.inr (.inl 82)], sy_dh F X1 X2 (iv_H 3), 0, 0) := by
  by_cases g0 : (sy_i F 82).toInt = 0
  · exact k3pb_62_p0 hd F X1 X2 hB (by first | exact g0 | (simp only [nz_c]; exact g0)) (fun F1 g  => k0 g0 F1 (nz_in0 hB [] (fun j hj hn => g j hj (by simp only [List.mem_cons, List.not_mem_nil, or_false, not_or] at hn; exact trivial)) (List.forall_mem_nil _)) (fun j hj hn => g j hj (by simp only [List.mem_cons, List.not_mem_nil, or_false, not_or] at hn; exact trivial)) (nz_fi (g 33 (by decide) (by decide))) (nz_fi (g 34 (by decide) (by decide))) (nz_fi (g 36 (by decide) (by decide))) (nz_fi (g 37 (by decide) (by decide))) (nz_fi (g 38 (by decide) (by decide))) (nz_fi (g 3 (by decide) (by decide))) (nz_fi (g 4 (by decide) (by decide))) (nz_fa (g 39 (by decide) (by decide))))
  replace g0 : (sy_i F 82).toInt ≠ 0 := by omega
  exact k3pb_62_p1 hd F X1 X2 hB (by first | exact g0 | (simp only [nz_c]; exact g0)) (fun F1 g  => k1 g0 F1 (nz_in0 hB [] (fun j hj hn => g j hj (by simp only [List.mem_cons, List.not_mem_nil, or_false, not_or] at hn; exact trivial)) (List.forall_mem_nil _)) (fun j hj hn => g j hj (by simp only [List.mem_cons, List.not_mem_nil, or_false, not_or] at hn; exact trivial)) (nz_fi (g 33 (by decide) (by decide))) (nz_fi (g 34 (by decide) (by decide))) (nz_fi (g 36 (by decide) (by decide))) (nz_fi (g 37 (by decide) (by decide))) (nz_fi (g 38 (by decide) (by decide))) (nz_fi (g 3 (by decide) (by decide))) (nz_fi (g 4 (by decide) (by decide))) (nz_fa (g 39 (by decide) (by decide))))
theorem k3pb_71_p0 {Ls : Nat} {xs : Nat → Int32} {d : Nat} {Q : Option Value → jm_h → Prop} (hd : 4 ≤ d) (F : Nat → sy_d) (X1 X2 : List jm_c) (hB : iv_in F iv_B0)
    (h0 : (sy_i F 82).toInt = 0)
    (k : ∀ F1 : Nat → sy_d, (∀ j, j < 82 → True → F1 j = F j) → Q (some (.int ((0 : Int32)))) (sy_dh F1 X1 X2 (iv_H 3))) :
    hd_W Ls xs d jm_M34 Q (71, sy_dL F [some (.inl (.ref 30)), none], sy_dS F [.inr (.inl 82)], sy_dh F X1 X2 (iv_H 3), 0, 0) := by
  refine hd_ret (s := 3) (nv := 83) (v := some (.inl (.int 0))) (uh := hd_ov (iv_id 0 iv_B0) []) (f := false) (sp := []) (d0 := 3) (O := [true]) (T := []) (P := [(0, .inr (.inl 82), .inl (.int 0))]) jm_ok34 (by decide +kernel) (by decide +kernel) hd F X1 X2 (fun F' hF hs => ?_)
  have b82 := hd_b (F := F) (F' := F') (k := 82) (hF 82 (by decide))
  have hB' : iv_in F' iv_B0 := iv_in_eq hB (fun j hj => hF j (Nat.lt_of_lt_of_le hj (by decide +kernel)))
  refine ⟨List.forall_mem_cons.mpr ⟨hd_p0 b82 rfl (by have hc : ((0) : Int32).toInt = 0 := (by decide); omega), fun _ h => absurd h List.not_mem_nil⟩, ?_⟩
  refine k _ ?_
  · exact fun j hj _ => (hd_keep hB' (Nat.lt_of_lt_of_le hj (by decide +kernel)) (by simp)).trans (hF j (Nat.lt_of_lt_of_le hj (by decide)))
theorem k3pb_71_p1 {Ls : Nat} {xs : Nat → Int32} {d : Nat} {Q : Option Value → jm_h → Prop} (hd : 4 ≤ d) (F : Nat → sy_d) (X1 X2 : List jm_c) (hB : iv_in F iv_B0)
    (h0 : (sy_i F 82).toInt ≠ 0)
    (h1 : 4 ≤ (sy_i F 4).toInt)
    (k : ∀ F1 : Nat → sy_d, (∀ j, j < 82 → True → F1 j = F j) → Q (some (.int ((1 : Int32)))) (sy_dh F1 X1 X2 (iv_H 3))) :
    hd_W Ls xs d jm_M34 Q (71, sy_dL F [some (.inl (.ref 30)), none], sy_dS F [.inr (.inl 82)], sy_dh F X1 X2 (iv_H 3), 0, 0) := by
  refine hd_ret (s := 3) (nv := 83) (v := some (.inl (.int 1))) (uh := hd_ov (iv_id 0 iv_B0) []) (f := false) (sp := []) (d0 := 3) (O := [false, true]) (T := []) (P := [(1, .inr (.inl 82), .inl (.int 0)), (4, .inl (.int 4), .inr (.inl 4))]) jm_ok34 (by decide +kernel) (by decide +kernel) hd F X1 X2 (fun F' hF hs => ?_)
  have b82 := hd_b (F := F) (F' := F') (k := 82) (hF 82 (by decide))
  have b4 := hd_b (F := F) (F' := F') (k := 4) (hF 4 (by decide))
  have hB' : iv_in F' iv_B0 := iv_in_eq hB (fun j hj => hF j (Nat.lt_of_lt_of_le hj (by decide +kernel)))
  refine ⟨List.forall_mem_cons.mpr ⟨hd_p1 b82 rfl (by have hc : ((0) : Int32).toInt = 0 := (by decide); omega), List.forall_mem_cons.mpr ⟨hd_p4 rfl b4 (by have hc : ((4) : Int32).toInt = 4 := (by decide); omega), fun _ h => absurd h List.not_mem_nil⟩⟩, ?_⟩
  refine k _ ?_
  · exact fun j hj _ => (hd_keep hB' (Nat.lt_of_lt_of_le hj (by decide +kernel)) (by simp)).trans (hF j (Nat.lt_of_lt_of_le hj (by decide)))
theorem k3pb_71_p2 {Ls : Nat} {xs : Nat → Int32} {d : Nat} {Q : Option Value → jm_h → Prop} (hd : 4 ≤ d) (F : Nat → sy_d) (X1 X2 : List jm_c) (hB : iv_in F iv_B0)
    (h0 : (sy_i F 82).toInt ≠ 0)
    (h1 : (sy_i F 4).toInt < 4)
    (h2 : 0 ≤ (sy_i F 4).toInt ∧ (sy_i F 4).toInt < 4)
    (h3 : 0 ≤ (sy_i F 4).toInt ∧ (sy_i F 4).toInt < 4)
    (h4 : 0 ≤ (sy_i F 4).toInt ∧ (sy_i F 4).toInt < 4)
    (k : ∀ F1 : Nat → sy_d, (∀ j, j < 82 → j ≠ 4 ∧ j ≠ 13 ∧ j ≠ 14 ∧ j ≠ 15 → F1 j = F j) → F1 4 = .inl (.int ((sy_i F 4) + ((1 : Int32)))) → F1 13 = .inr (.inl (jm_upd (sy_ai F 13) (sy_i F 4).toNatClampNeg ((sy_ai F 44).getD ((0 : Int32)).toNatClampNeg 0))) → F1 14 = .inr (.inl (jm_upd (sy_ai F 14) (sy_i F 4).toNatClampNeg ((sy_ai F 44).getD ((1 : Int32)).toNatClampNeg 0))) → F1 15 = .inr (.inl (jm_upd (sy_ai F 15) (sy_i F 4).toNatClampNeg ((sy_ai F 44).getD ((2 : Int32)).toNatClampNeg 0))) → Q (some (.int ((1 : Int32)))) (sy_dh F1 X1 X2 (iv_H 3))) :
    hd_W Ls xs d jm_M34 Q (71, sy_dL F [some (.inl (.ref 30)), none], sy_dS F [.inr (.inl 82)], sy_dh F X1 X2 (iv_H 3), 0, 0) := by
  refine hd_ret (s := 3) (nv := 83) (v := some (.inl (.int 1))) (uh := hd_ov (iv_id 0 iv_B0) [(4, .inl (.inr (.inl 89))), (13, .inr (.inr (.inl 84))), (14, .inr (.inr (.inl 86))), (15, .inr (.inr (.inl 88)))]) (f := false) (sp := []) (d0 := 3) (O := [false, false]) (T := [(30, [.inl (.int 0)], [.inr (.inl 44)]), (40, [.inr (.inl 4), .inr (.inl 83)], [.inr (.inl 13)]), (30, [.inl (.int 1)], [.inr (.inl 44)]), (40, [.inr (.inl 4), .inr (.inl 85)], [.inr (.inl 14)]), (30, [.inl (.int 2)], [.inr (.inl 44)]), (40, [.inr (.inl 4), .inr (.inl 87)], [.inr (.inl 15)]), (0, [.inr (.inl 4), .inl (.int 1)], [])]) (P := [(1, .inr (.inl 82), .inl (.int 0)), (5, .inl (.int 4), .inr (.inl 4)), (6, .inr (.inl 4), .inl (.ref 4)), (6, .inr (.inl 4), .inl (.ref 4)), (6, .inr (.inl 4), .inl (.ref 4))]) jm_ok34 (by decide +kernel) (by decide +kernel) hd F X1 X2 (fun F' hF hs => ?_)
  have b82 := hd_b (F := F) (F' := F') (k := 82) (hF 82 (by decide))
  have b4 := hd_b (F := F) (F' := F') (k := 4) (hF 4 (by decide))
  have t89 : sy_dv F' (.inr (.inl 89)) = .int ((sy_i F 4) + ((1 : Int32))) := hd_o (hs 6 _ rfl) b4 rfl rfl
  have a44 := hd_ba (F := F) (F' := F') (k := 44) (hF 44 (by decide))
  have t83 : sy_dv F' (.inr (.inl 83)) = .int ((sy_ai F 44).getD ((0 : Int32)).toNatClampNeg 0) := hd_rd (hs 0 _ rfl) rfl a44
  have a13 := hd_ba (F := F) (F' := F') (k := 13) (hF 13 (by decide))
  have t84 : sy_da F' (.inr (.inl 84)) = .inl (jm_upd (sy_ai F 13) (sy_i F 4).toNatClampNeg ((sy_ai F 44).getD ((0 : Int32)).toNatClampNeg 0)) := hd_up (hs 1 _ rfl) b4 t83 a13
  have t85 : sy_dv F' (.inr (.inl 85)) = .int ((sy_ai F 44).getD ((1 : Int32)).toNatClampNeg 0) := hd_rd (hs 2 _ rfl) rfl a44
  have a14 := hd_ba (F := F) (F' := F') (k := 14) (hF 14 (by decide))
  have t86 : sy_da F' (.inr (.inl 86)) = .inl (jm_upd (sy_ai F 14) (sy_i F 4).toNatClampNeg ((sy_ai F 44).getD ((1 : Int32)).toNatClampNeg 0)) := hd_up (hs 3 _ rfl) b4 t85 a14
  have t87 : sy_dv F' (.inr (.inl 87)) = .int ((sy_ai F 44).getD ((2 : Int32)).toNatClampNeg 0) := hd_rd (hs 4 _ rfl) rfl a44
  have a15 := hd_ba (F := F) (F' := F') (k := 15) (hF 15 (by decide))
  have t88 : sy_da F' (.inr (.inl 88)) = .inl (jm_upd (sy_ai F 15) (sy_i F 4).toNatClampNeg ((sy_ai F 44).getD ((2 : Int32)).toNatClampNeg 0)) := hd_up (hs 5 _ rfl) b4 t87 a15
  have hB' : iv_in F' iv_B0 := iv_in_eq hB (fun j hj => hF j (Nat.lt_of_lt_of_le hj (by decide +kernel)))
  refine ⟨List.forall_mem_cons.mpr ⟨hd_p1 b82 rfl (by have hc : ((0) : Int32).toInt = 0 := (by decide); omega), List.forall_mem_cons.mpr ⟨hd_p5 rfl b4 (by have hc : ((4) : Int32).toInt = 4 := (by decide); omega), List.forall_mem_cons.mpr ⟨hd_pb b4 (by first | exact h2 | exact h2), List.forall_mem_cons.mpr ⟨hd_pb b4 (by first | exact h3 | exact h3), List.forall_mem_cons.mpr ⟨hd_pb b4 (by first | exact h4 | exact h4), fun _ h => absurd h List.not_mem_nil⟩⟩⟩⟩⟩, ?_⟩
  refine k _ ?_ ?_ ?_ ?_ ?_
  · exact fun j hj hn => (hd_keep hB' (Nat.lt_of_lt_of_le hj (by decide +kernel)) (by simp; omega)).trans (hF j (Nat.lt_of_lt_of_le hj (by decide)))
  · exact hd_gi (x := .inr (.inl 89)) (by decide +kernel) t89
  · exact hd_ga (a := .inr (.inl 84)) (by decide +kernel) t84
  · exact hd_ga (a := .inr (.inl 86)) (by decide +kernel) t86
  · exact hd_ga (a := .inr (.inl 88)) (by decide +kernel) t88
theorem k3pg_0_p0 {Ls : Nat} {xs : Nat → Int32} {d : Nat} {Q : Option Value → jm_h → Prop} (hd : 4 ≤ d) (F : Nat → sy_d) (X1 X2 : List jm_c) (hB : iv_in F iv_B0)
    (h0 : (sy_i F 82).toInt ≠ 8)
    (h1 : (sy_i F 82).toInt ≠ 9)
    (k : ∀ F1 : Nat → sy_d, (∀ j, j < 82 → True → F1 j = F j) → F1 82 = .inl (.int (sy_i F 82)) → F1 83 = .inl (.int ((9999 : Int32))) → hd_W Ls xs d jm_M35 Q (28, sy_dL F1 [some (.inl (.ref 30)), some (.inr (.inl 82)), some (.inr (.inl 83))], sy_dS F1 [.inr (.inl 82), .inl (.ref 30)], sy_dh F1 X1 X2 (iv_H 3), 0, 0)) :
    hd_W Ls xs d jm_M35 Q (0, sy_dL F [some (.inl (.ref 30)), some (.inr (.inl 82)), none], sy_dS F [], sy_dh F X1 X2 (iv_H 3), 0, 0) := by
  refine hd_run (s := 3) (nv := 83) (pc := 28) (L := [some (.inl (.ref 30)), some (.inr (.inl 82)), some (.inr (.inl 83))]) (S := [.inr (.inl 82), .inl (.ref 30)]) (uh := hd_ov (iv_id 0 iv_B0) []) (ul := [.inl (.inr (.inl 82)), .inl (.inl (.int 9999))]) (f := true) (sp := [28]) (d0 := 3) (O := [true, true]) (T := []) (P := [(1, .inr (.inl 82), .inl (.int 8)), (1, .inr (.inl 82), .inl (.int 9))]) jm_ok35 (by decide +kernel) (by decide +kernel) hd F X1 X2 (fun F' hF hs => ?_)
  have b82 := hd_b (F := F) (F' := F') (k := 82) (hF 82 (by decide))
  have hB' : iv_in F' iv_B0 := iv_in_eq hB (fun j hj => hF j (Nat.lt_of_lt_of_le hj (by decide +kernel)))
  refine ⟨List.forall_mem_cons.mpr ⟨hd_p1 b82 rfl (by have hc : ((8) : Int32).toInt = 8 := (by decide); omega), List.forall_mem_cons.mpr ⟨hd_p1 b82 rfl (by have hc : ((9) : Int32).toInt = 9 := (by decide); omega), fun _ h => absurd h List.not_mem_nil⟩⟩, ?_⟩
  refine k _ ?_ ?_ ?_
  · exact fun j hj _ => (hd_keep hB' (Nat.lt_of_lt_of_le hj (by decide +kernel)) (by simp)).trans (hF j (Nat.lt_of_lt_of_le hj (by decide)))
  · exact hd_gi (x := .inr (.inl 82)) (by decide +kernel) b82
  · exact hd_gi (x := .inl (.int 9999)) (by decide +kernel) rfl
theorem k3pg_0_p1 {Ls : Nat} {xs : Nat → Int32} {d : Nat} {Q : Option Value → jm_h → Prop} (hd : 4 ≤ d) (F : Nat → sy_d) (X1 X2 : List jm_c) (hB : iv_in F iv_B0)
    (h0 : (sy_i F 82).toInt ≠ 8)
    (h1 : (sy_i F 82).toInt = 9)
    (k : ∀ F1 : Nat → sy_d, (∀ j, j < 82 → True → F1 j = F j) → F1 82 = .inl (.int (sy_i F 82)) → F1 83 = .inl (.int ((99 : Int32))) → hd_W Ls xs d jm_M35 Q (28, sy_dL F1 [some (.inl (.ref 30)), some (.inr (.inl 82)), some (.inr (.inl 83))], sy_dS F1 [.inr (.inl 82), .inl (.ref 30)], sy_dh F1 X1 X2 (iv_H 3), 0, 0)) :
    hd_W Ls xs d jm_M35 Q (0, sy_dL F [some (.inl (.ref 30)), some (.inr (.inl 82)), none], sy_dS F [], sy_dh F X1 X2 (iv_H 3), 0, 0) := by
  refine hd_run (s := 3) (nv := 83) (pc := 28) (L := [some (.inl (.ref 30)), some (.inr (.inl 82)), some (.inr (.inl 83))]) (S := [.inr (.inl 82), .inl (.ref 30)]) (uh := hd_ov (iv_id 0 iv_B0) []) (ul := [.inl (.inr (.inl 82)), .inl (.inl (.int 99))]) (f := true) (sp := [28]) (d0 := 3) (O := [true, false]) (T := []) (P := [(1, .inr (.inl 82), .inl (.int 8)), (0, .inr (.inl 82), .inl (.int 9))]) jm_ok35 (by decide +kernel) (by decide +kernel) hd F X1 X2 (fun F' hF hs => ?_)
  have b82 := hd_b (F := F) (F' := F') (k := 82) (hF 82 (by decide))
  have hB' : iv_in F' iv_B0 := iv_in_eq hB (fun j hj => hF j (Nat.lt_of_lt_of_le hj (by decide +kernel)))
  refine ⟨List.forall_mem_cons.mpr ⟨hd_p1 b82 rfl (by have hc : ((8) : Int32).toInt = 8 := (by decide); omega), List.forall_mem_cons.mpr ⟨hd_p0 b82 rfl (by have hc : ((9) : Int32).toInt = 9 := (by decide); omega), fun _ h => absurd h List.not_mem_nil⟩⟩, ?_⟩
  refine k _ ?_ ?_ ?_
  · exact fun j hj _ => (hd_keep hB' (Nat.lt_of_lt_of_le hj (by decide +kernel)) (by simp)).trans (hF j (Nat.lt_of_lt_of_le hj (by decide)))
  · exact hd_gi (x := .inr (.inl 82)) (by decide +kernel) b82
  · exact hd_gi (x := .inl (.int 99)) (by decide +kernel) rfl
theorem k3pg_0_p2 {Ls : Nat} {xs : Nat → Int32} {d : Nat} {Q : Option Value → jm_h → Prop} (hd : 4 ≤ d) (F : Nat → sy_d) (X1 X2 : List jm_c) (hB : iv_in F iv_B0)
    (h0 : (sy_i F 82).toInt = 8)
    (k : ∀ F1 : Nat → sy_d, (∀ j, j < 82 → True → F1 j = F j) → F1 82 = .inl (.int (sy_i F 82)) → F1 83 = .inl (.int ((99 : Int32))) → hd_W Ls xs d jm_M35 Q (28, sy_dL F1 [some (.inl (.ref 30)), some (.inr (.inl 82)), some (.inr (.inl 83))], sy_dS F1 [.inr (.inl 82), .inl (.ref 30)], sy_dh F1 X1 X2 (iv_H 3), 0, 0)) :
    hd_W Ls xs d jm_M35 Q (0, sy_dL F [some (.inl (.ref 30)), some (.inr (.inl 82)), none], sy_dS F [], sy_dh F X1 X2 (iv_H 3), 0, 0) := by
  refine hd_run (s := 3) (nv := 83) (pc := 28) (L := [some (.inl (.ref 30)), some (.inr (.inl 82)), some (.inr (.inl 83))]) (S := [.inr (.inl 82), .inl (.ref 30)]) (uh := hd_ov (iv_id 0 iv_B0) []) (ul := [.inl (.inr (.inl 82)), .inl (.inl (.int 99))]) (f := true) (sp := [28]) (d0 := 3) (O := [false]) (T := []) (P := [(0, .inr (.inl 82), .inl (.int 8))]) jm_ok35 (by decide +kernel) (by decide +kernel) hd F X1 X2 (fun F' hF hs => ?_)
  have b82 := hd_b (F := F) (F' := F') (k := 82) (hF 82 (by decide))
  have hB' : iv_in F' iv_B0 := iv_in_eq hB (fun j hj => hF j (Nat.lt_of_lt_of_le hj (by decide +kernel)))
  refine ⟨List.forall_mem_cons.mpr ⟨hd_p0 b82 rfl (by have hc : ((8) : Int32).toInt = 8 := (by decide); omega), fun _ h => absurd h List.not_mem_nil⟩, ?_⟩
  refine k _ ?_ ?_ ?_
  · exact fun j hj _ => (hd_keep hB' (Nat.lt_of_lt_of_le hj (by decide +kernel)) (by simp)).trans (hF j (Nat.lt_of_lt_of_le hj (by decide)))
  · exact hd_gi (x := .inr (.inl 82)) (by decide +kernel) b82
  · exact hd_gi (x := .inl (.int 99)) (by decide +kernel) rfl
theorem k3pg_0 {Ls : Nat} {xs : Nat → Int32} {d : Nat} {Q : Option Value → jm_h → Prop} (hd : 4 ≤ d) (F : Nat → sy_d) (X1 X2 : List jm_c) (hB : iv_in F iv_B0)
    (k0 : (sy_i F 82).toInt ≠ 8 → (sy_i F 82).toInt ≠ 9 → ∀ F1 : Nat → sy_d, iv_in F1 iv_B0 → (∀ j, j < 82 → j ∉ ([] : List Nat) → F1 j = F j) → (sy_i F1 33).toInt = (sy_i F 33).toInt → (sy_i F1 34).toInt = (sy_i F 34).toInt → (sy_i F1 36).toInt = (sy_i F 36).toInt → (sy_i F1 37).toInt = (sy_i F 37).toInt → (sy_i F1 38).toInt = (sy_i F 38).toInt → (sy_i F1 3).toInt = (sy_i F 3).toInt → (sy_i F1 4).toInt = (sy_i F 4).toInt → sy_ai F1 39 = sy_ai F 39 → (sy_i F1 82).toInt = (sy_i F 82).toInt → (sy_i F1 83).toInt = 9999 → hd_W Ls xs d jm_M35 Q (28, sy_dL F1 [some (.inl (.ref 30)), some (.inr (.inl 82)), some (.inr (.inl 83))], sy_dS F1 [.inr (.inl 82), .inl (.ref 30)], sy_dh F1 X1 X2 (iv_H 3), 0, 0))
    (k1 : (sy_i F 82).toInt ≠ 8 → (sy_i F 82).toInt = 9 → ∀ F1 : Nat → sy_d, iv_in F1 iv_B0 → (∀ j, j < 82 → j ∉ ([] : List Nat) → F1 j = F j) → (sy_i F1 33).toInt = (sy_i F 33).toInt → (sy_i F1 34).toInt = (sy_i F 34).toInt → (sy_i F1 36).toInt = (sy_i F 36).toInt → (sy_i F1 37).toInt = (sy_i F 37).toInt → (sy_i F1 38).toInt = (sy_i F 38).toInt → (sy_i F1 3).toInt = (sy_i F 3).toInt → (sy_i F1 4).toInt = (sy_i F 4).toInt → sy_ai F1 39 = sy_ai F 39 → (sy_i F1 82).toInt = (sy_i F 82).toInt → (sy_i F1 83).toInt = 99 → hd_W Ls xs d jm_M35 Q (28, sy_dL F1 [some (.inl (.ref 30)), some (.inr (.inl 82)), some (.inr (.inl 83))], sy_dS F1 [.inr (.inl 82), .inl (.ref 30)], sy_dh F1 X1 X2 (iv_H 3), 0, 0))
    (k2 : (sy_i F 82).toInt = 8 → ∀ F1 : Nat → sy_d, iv_in F1 iv_B0 → (∀ j, j < 82 → j ∉ ([] : List Nat) → F1 j = F j) → (sy_i F1 33).toInt = (sy_i F 33).toInt → (sy_i F1 34).toInt = (sy_i F 34).toInt → (sy_i F1 36).toInt = (sy_i F 36).toInt → (sy_i F1 37).toInt = (sy_i F 37).toInt → (sy_i F1 38).toInt = (sy_i F 38).toInt → (sy_i F1 3).toInt = (sy_i F 3).toInt → (sy_i F1 4).toInt = (sy_i F 4).toInt → sy_ai F1 39 = sy_ai F 39 → (sy_i F1 82).toInt = (sy_i F 82).toInt → (sy_i F1 83).toInt = 99 → hd_W Ls xs d jm_M35 Q (28, sy_dL F1 [some (.inl (.ref 30)), some (.inr (.inl 82)), some (.inr (.inl 83))], sy_dS F1 [.inr (.inl 82), .inl (.ref 30)], sy_dh F1 X1 X2 (iv_H 3), 0, 0)) :
    hd_W Ls xs d jm_M35 Q (0, sy_dL F [some (.inl (.ref 30)), some (.inr (.inl 82)), none], sy_dS F [], sy_dh F X1 X2 (iv_H 3), 0, 0) := by
  by_cases g0 : (sy_i F 82).toInt ≠ 8
  · by_cases g1 : (sy_i F 82).toInt ≠ 9
    · exact k3pg_0_p0 hd F X1 X2 hB (by first | exact g0 | (simp only [nz_c]; exact g0)) (by first | exact g1 | (simp only [nz_c]; exact g1)) (fun F1 g e82 e83 => k0 g0 g1 F1 (nz_in0 hB [] (fun j hj hn => g j hj (by simp only [List.mem_cons, List.not_mem_nil, or_false, not_or] at hn; exact trivial)) (List.forall_mem_nil _)) (fun j hj hn => g j hj (by simp only [List.mem_cons, List.not_mem_nil, or_false, not_or] at hn; exact trivial)) (nz_fi (g 33 (by decide) (by decide))) (nz_fi (g 34 (by decide) (by decide))) (nz_fi (g 36 (by decide) (by decide))) (nz_fi (g 37 (by decide) (by decide))) (nz_fi (g 38 (by decide) (by decide))) (nz_fi (g 3 (by decide) (by decide))) (nz_fi (g 4 (by decide) (by decide))) (nz_fa (g 39 (by decide) (by decide))) ((congrArg Int32.toInt (zz_i e82)).trans (rfl : (sy_i F 82).toInt = (sy_i F 82).toInt)) ((congrArg Int32.toInt (zz_i e83)).trans (by decide : ((9999 : Int32)).toInt = 9999)))
    replace g1 : (sy_i F 82).toInt = 9 := by omega
    exact k3pg_0_p1 hd F X1 X2 hB (by first | exact g0 | (simp only [nz_c]; exact g0)) (by first | exact g1 | (simp only [nz_c]; exact g1)) (fun F1 g e82 e83 => k1 g0 g1 F1 (nz_in0 hB [] (fun j hj hn => g j hj (by simp only [List.mem_cons, List.not_mem_nil, or_false, not_or] at hn; exact trivial)) (List.forall_mem_nil _)) (fun j hj hn => g j hj (by simp only [List.mem_cons, List.not_mem_nil, or_false, not_or] at hn; exact trivial)) (nz_fi (g 33 (by decide) (by decide))) (nz_fi (g 34 (by decide) (by decide))) (nz_fi (g 36 (by decide) (by decide))) (nz_fi (g 37 (by decide) (by decide))) (nz_fi (g 38 (by decide) (by decide))) (nz_fi (g 3 (by decide) (by decide))) (nz_fi (g 4 (by decide) (by decide))) (nz_fa (g 39 (by decide) (by decide))) ((congrArg Int32.toInt (zz_i e82)).trans (rfl : (sy_i F 82).toInt = (sy_i F 82).toInt)) ((congrArg Int32.toInt (zz_i e83)).trans (by decide : ((99 : Int32)).toInt = 99)))
  replace g0 : (sy_i F 82).toInt = 8 := by omega
  exact k3pg_0_p2 hd F X1 X2 hB (by first | exact g0 | (simp only [nz_c]; exact g0)) (fun F1 g e82 e83 => k2 g0 F1 (nz_in0 hB [] (fun j hj hn => g j hj (by simp only [List.mem_cons, List.not_mem_nil, or_false, not_or] at hn; exact trivial)) (List.forall_mem_nil _)) (fun j hj hn => g j hj (by simp only [List.mem_cons, List.not_mem_nil, or_false, not_or] at hn; exact trivial)) (nz_fi (g 33 (by decide) (by decide))) (nz_fi (g 34 (by decide) (by decide))) (nz_fi (g 36 (by decide) (by decide))) (nz_fi (g 37 (by decide) (by decide))) (nz_fi (g 38 (by decide) (by decide))) (nz_fi (g 3 (by decide) (by decide))) (nz_fi (g 4 (by decide) (by decide))) (nz_fa (g 39 (by decide) (by decide))) ((congrArg Int32.toInt (zz_i e82)).trans (rfl : (sy_i F 82).toInt = (sy_i F 82).toInt)) ((congrArg Int32.toInt (zz_i e83)).trans (by decide : ((99 : Int32)).toInt = 99)))
theorem k3pg_31_p0 {Ls : Nat} {xs : Nat → Int32} {d : Nat} {Q : Option Value → jm_h → Prop} (hd : 4 ≤ d) (F : Nat → sy_d) (X1 X2 : List jm_c) (hB : iv_in F iv_B0)
    (h0 : (sy_i F 84).toInt = 0)
    (k : ∀ F1 : Nat → sy_d, (∀ j, j < 82 → True → F1 j = F j) → Q (some (.int ((0 : Int32)))) (sy_dh F1 X1 X2 (iv_H 3))) :
    hd_W Ls xs d jm_M35 Q (31, sy_dL F [some (.inl (.ref 30)), some (.inr (.inl 82)), some (.inr (.inl 83))], sy_dS F [.inr (.inl 84)], sy_dh F X1 X2 (iv_H 3), 0, 0) := by
  refine hd_ret (s := 3) (nv := 85) (v := some (.inl (.int 0))) (uh := hd_ov (iv_id 0 iv_B0) []) (f := false) (sp := [38]) (d0 := 3) (O := [true]) (T := []) (P := [(0, .inr (.inl 84), .inl (.int 0))]) jm_ok35 (by decide +kernel) (by decide +kernel) hd F X1 X2 (fun F' hF hs => ?_)
  have b84 := hd_b (F := F) (F' := F') (k := 84) (hF 84 (by decide))
  have hB' : iv_in F' iv_B0 := iv_in_eq hB (fun j hj => hF j (Nat.lt_of_lt_of_le hj (by decide +kernel)))
  refine ⟨List.forall_mem_cons.mpr ⟨hd_p0 b84 rfl (by have hc : ((0) : Int32).toInt = 0 := (by decide); omega), fun _ h => absurd h List.not_mem_nil⟩, ?_⟩
  refine k _ ?_
  · exact fun j hj _ => (hd_keep hB' (Nat.lt_of_lt_of_le hj (by decide +kernel)) (by simp)).trans (hF j (Nat.lt_of_lt_of_le hj (by decide)))
theorem k3pg_31_p1 {Ls : Nat} {xs : Nat → Int32} {d : Nat} {Q : Option Value → jm_h → Prop} (hd : 4 ≤ d) (F : Nat → sy_d) (X1 X2 : List jm_c) (hB : iv_in F iv_B0)
    (h0 : (sy_i F 84).toInt ≠ 0)
    (k : ∀ F1 : Nat → sy_d, (∀ j, j < 82 → True → F1 j = F j) → F1 82 = .inl (.int (sy_i F 82)) → F1 83 = .inl (.int (sy_i F 83)) → hd_W Ls xs d jm_M35 Q (38, sy_dL F1 [some (.inl (.ref 30)), some (.inr (.inl 82)), none], sy_dS F1 [.inr (.inl 83), .inl (.int 0), .inl (.int 0), .inl (.ref 30)], sy_dh F1 X1 X2 (iv_H 3), 0, 0)) :
    hd_W Ls xs d jm_M35 Q (31, sy_dL F [some (.inl (.ref 30)), some (.inr (.inl 82)), some (.inr (.inl 83))], sy_dS F [.inr (.inl 84)], sy_dh F X1 X2 (iv_H 3), 0, 0) := by
  refine hd_run (s := 3) (nv := 85) (pc := 38) (L := [some (.inl (.ref 30)), some (.inr (.inl 82)), none]) (S := [.inr (.inl 83), .inl (.int 0), .inl (.int 0), .inl (.ref 30)]) (uh := hd_ov (iv_id 0 iv_B0) []) (ul := [.inl (.inr (.inl 82)), .inl (.inr (.inl 83))]) (f := false) (sp := [38]) (d0 := 3) (O := [false]) (T := []) (P := [(1, .inr (.inl 84), .inl (.int 0))]) jm_ok35 (by decide +kernel) (by decide +kernel) hd F X1 X2 (fun F' hF hs => ?_)
  have b84 := hd_b (F := F) (F' := F') (k := 84) (hF 84 (by decide))
  have b82 := hd_b (F := F) (F' := F') (k := 82) (hF 82 (by decide))
  have b83 := hd_b (F := F) (F' := F') (k := 83) (hF 83 (by decide))
  have hB' : iv_in F' iv_B0 := iv_in_eq hB (fun j hj => hF j (Nat.lt_of_lt_of_le hj (by decide +kernel)))
  refine ⟨List.forall_mem_cons.mpr ⟨hd_p1 b84 rfl (by have hc : ((0) : Int32).toInt = 0 := (by decide); omega), fun _ h => absurd h List.not_mem_nil⟩, ?_⟩
  refine k _ ?_ ?_ ?_
  · exact fun j hj _ => (hd_keep hB' (Nat.lt_of_lt_of_le hj (by decide +kernel)) (by simp)).trans (hF j (Nat.lt_of_lt_of_le hj (by decide)))
  · exact hd_gi (x := .inr (.inl 82)) (by decide +kernel) b82
  · exact hd_gi (x := .inr (.inl 83)) (by decide +kernel) b83
theorem k3pg_31 {Ls : Nat} {xs : Nat → Int32} {d : Nat} {Q : Option Value → jm_h → Prop} (hd : 4 ≤ d) (F : Nat → sy_d) (X1 X2 : List jm_c) (hB : iv_in F iv_B0)
    (k0 : (sy_i F 84).toInt = 0 → ∀ F1 : Nat → sy_d, iv_in F1 iv_B0 → (∀ j, j < 82 → j ∉ ([] : List Nat) → F1 j = F j) → (sy_i F1 33).toInt = (sy_i F 33).toInt → (sy_i F1 34).toInt = (sy_i F 34).toInt → (sy_i F1 36).toInt = (sy_i F 36).toInt → (sy_i F1 37).toInt = (sy_i F 37).toInt → (sy_i F1 38).toInt = (sy_i F 38).toInt → (sy_i F1 3).toInt = (sy_i F 3).toInt → (sy_i F1 4).toInt = (sy_i F 4).toInt → sy_ai F1 39 = sy_ai F 39 → Q (some (.int ((0 : Int32)))) (sy_dh F1 X1 X2 (iv_H 3)))
    (k1 : (sy_i F 84).toInt ≠ 0 → ∀ F1 : Nat → sy_d, iv_in F1 iv_B0 → (∀ j, j < 82 → j ∉ ([] : List Nat) → F1 j = F j) → (sy_i F1 33).toInt = (sy_i F 33).toInt → (sy_i F1 34).toInt = (sy_i F 34).toInt → (sy_i F1 36).toInt = (sy_i F 36).toInt → (sy_i F1 37).toInt = (sy_i F 37).toInt → (sy_i F1 38).toInt = (sy_i F 38).toInt → (sy_i F1 3).toInt = (sy_i F 3).toInt → (sy_i F1 4).toInt = (sy_i F 4).toInt → sy_ai F1 39 = sy_ai F 39 → (sy_i F1 82).toInt = (sy_i F 82).toInt → (sy_i F1 83).toInt = (sy_i F 83).toInt → hd_W Ls xs d jm_M35 Q (38, sy_dL F1 [some (.inl (.ref 30)), some (.inr (.inl 82)), none], sy_dS F1 [.inr (.inl 83), .inl (.int 0), .inl (.int 0), .inl (.ref 30)], sy_dh F1 X1 X2 (iv_H 3), 0, 0)) :
    hd_W Ls xs d jm_M35 Q (31, sy_dL F [some (.inl (.ref 30)), some (.inr (.inl 82)), some (.inr (.inl 83))], sy_dS F [.inr (.inl 84)], sy_dh F X1 X2 (iv_H 3), 0, 0) := by
  by_cases g0 : (sy_i F 84).toInt = 0
  · exact k3pg_31_p0 hd F X1 X2 hB (by first | exact g0 | (simp only [nz_c]; exact g0)) (fun F1 g  => k0 g0 F1 (nz_in0 hB [] (fun j hj hn => g j hj (by simp only [List.mem_cons, List.not_mem_nil, or_false, not_or] at hn; exact trivial)) (List.forall_mem_nil _)) (fun j hj hn => g j hj (by simp only [List.mem_cons, List.not_mem_nil, or_false, not_or] at hn; exact trivial)) (nz_fi (g 33 (by decide) (by decide))) (nz_fi (g 34 (by decide) (by decide))) (nz_fi (g 36 (by decide) (by decide))) (nz_fi (g 37 (by decide) (by decide))) (nz_fi (g 38 (by decide) (by decide))) (nz_fi (g 3 (by decide) (by decide))) (nz_fi (g 4 (by decide) (by decide))) (nz_fa (g 39 (by decide) (by decide))))
  replace g0 : (sy_i F 84).toInt ≠ 0 := by omega
  exact k3pg_31_p1 hd F X1 X2 hB (by first | exact g0 | (simp only [nz_c]; exact g0)) (fun F1 g e82 e83 => k1 g0 F1 (nz_in0 hB [] (fun j hj hn => g j hj (by simp only [List.mem_cons, List.not_mem_nil, or_false, not_or] at hn; exact trivial)) (List.forall_mem_nil _)) (fun j hj hn => g j hj (by simp only [List.mem_cons, List.not_mem_nil, or_false, not_or] at hn; exact trivial)) (nz_fi (g 33 (by decide) (by decide))) (nz_fi (g 34 (by decide) (by decide))) (nz_fi (g 36 (by decide) (by decide))) (nz_fi (g 37 (by decide) (by decide))) (nz_fi (g 38 (by decide) (by decide))) (nz_fi (g 3 (by decide) (by decide))) (nz_fi (g 4 (by decide) (by decide))) (nz_fa (g 39 (by decide) (by decide))) ((congrArg Int32.toInt (zz_i e82)).trans (rfl : (sy_i F 82).toInt = (sy_i F 82).toInt)) ((congrArg Int32.toInt (zz_i e83)).trans (rfl : (sy_i F 83).toInt = (sy_i F 83).toInt)))
theorem k3pg_41_p0 {Ls : Nat} {xs : Nat → Int32} {d : Nat} {Q : Option Value → jm_h → Prop} (hd : 4 ≤ d) (F : Nat → sy_d) (X1 X2 : List jm_c) (hB : iv_in F iv_B0)
    (h0 : (sy_i F 84).toInt = 0)
    (k : ∀ F1 : Nat → sy_d, (∀ j, j < 82 → True → F1 j = F j) → Q (some (.int ((0 : Int32)))) (sy_dh F1 X1 X2 (iv_H 3))) :
    hd_W Ls xs d jm_M35 Q (41, sy_dL F [some (.inl (.ref 30)), some (.inr (.inl 82)), none], sy_dS F [.inr (.inl 84)], sy_dh F X1 X2 (iv_H 3), 0, 0) := by
  refine hd_ret (s := 3) (nv := 85) (v := some (.inl (.int 0))) (uh := hd_ov (iv_id 0 iv_B0) []) (f := false) (sp := [47]) (d0 := 3) (O := [true]) (T := []) (P := [(0, .inr (.inl 84), .inl (.int 0))]) jm_ok35 (by decide +kernel) (by decide +kernel) hd F X1 X2 (fun F' hF hs => ?_)
  have b84 := hd_b (F := F) (F' := F') (k := 84) (hF 84 (by decide))
  have hB' : iv_in F' iv_B0 := iv_in_eq hB (fun j hj => hF j (Nat.lt_of_lt_of_le hj (by decide +kernel)))
  refine ⟨List.forall_mem_cons.mpr ⟨hd_p0 b84 rfl (by have hc : ((0) : Int32).toInt = 0 := (by decide); omega), fun _ h => absurd h List.not_mem_nil⟩, ?_⟩
  refine k _ ?_
  · exact fun j hj _ => (hd_keep hB' (Nat.lt_of_lt_of_le hj (by decide +kernel)) (by simp)).trans (hF j (Nat.lt_of_lt_of_le hj (by decide)))
theorem k3pg_41_p1 {Ls : Nat} {xs : Nat → Int32} {d : Nat} {Q : Option Value → jm_h → Prop} (hd : 4 ≤ d) (F : Nat → sy_d) (X1 X2 : List jm_c) (hB : iv_in F iv_B0)
    (h0 : (sy_i F 84).toInt ≠ 0)
    (k : ∀ F1 : Nat → sy_d, (∀ j, j < 82 → True → F1 j = F j) → F1 82 = .inl (.int (sy_i F 82)) → hd_W Ls xs d jm_M35 Q (47, sy_dL F1 [some (.inl (.ref 30)), some (.inr (.inl 82)), none], sy_dS F1 [.inl (.int 59), .inl (.ref 30)], sy_dh F1 X1 X2 (iv_H 3), 0, 0)) :
    hd_W Ls xs d jm_M35 Q (41, sy_dL F [some (.inl (.ref 30)), some (.inr (.inl 82)), none], sy_dS F [.inr (.inl 84)], sy_dh F X1 X2 (iv_H 3), 0, 0) := by
  refine hd_run (s := 3) (nv := 85) (pc := 47) (L := [some (.inl (.ref 30)), some (.inr (.inl 82)), none]) (S := [.inl (.int 59), .inl (.ref 30)]) (uh := hd_ov (iv_id 0 iv_B0) []) (ul := [.inl (.inr (.inl 82))]) (f := false) (sp := [47]) (d0 := 3) (O := [false]) (T := []) (P := [(1, .inr (.inl 84), .inl (.int 0))]) jm_ok35 (by decide +kernel) (by decide +kernel) hd F X1 X2 (fun F' hF hs => ?_)
  have b84 := hd_b (F := F) (F' := F') (k := 84) (hF 84 (by decide))
  have b82 := hd_b (F := F) (F' := F') (k := 82) (hF 82 (by decide))
  have hB' : iv_in F' iv_B0 := iv_in_eq hB (fun j hj => hF j (Nat.lt_of_lt_of_le hj (by decide +kernel)))
  refine ⟨List.forall_mem_cons.mpr ⟨hd_p1 b84 rfl (by have hc : ((0) : Int32).toInt = 0 := (by decide); omega), fun _ h => absurd h List.not_mem_nil⟩, ?_⟩
  refine k _ ?_ ?_
  · exact fun j hj _ => (hd_keep hB' (Nat.lt_of_lt_of_le hj (by decide +kernel)) (by simp)).trans (hF j (Nat.lt_of_lt_of_le hj (by decide)))
  · exact hd_gi (x := .inr (.inl 82)) (by decide +kernel) b82
theorem k3pg_41 {Ls : Nat} {xs : Nat → Int32} {d : Nat} {Q : Option Value → jm_h → Prop} (hd : 4 ≤ d) (F : Nat → sy_d) (X1 X2 : List jm_c) (hB : iv_in F iv_B0)
    (k0 : (sy_i F 84).toInt = 0 → ∀ F1 : Nat → sy_d, iv_in F1 iv_B0 → (∀ j, j < 82 → j ∉ ([] : List Nat) → F1 j = F j) → (sy_i F1 33).toInt = (sy_i F 33).toInt → (sy_i F1 34).toInt = (sy_i F 34).toInt → (sy_i F1 36).toInt = (sy_i F 36).toInt → (sy_i F1 37).toInt = (sy_i F 37).toInt → (sy_i F1 38).toInt = (sy_i F 38).toInt → (sy_i F1 3).toInt = (sy_i F 3).toInt → (sy_i F1 4).toInt = (sy_i F 4).toInt → sy_ai F1 39 = sy_ai F 39 → Q (some (.int ((0 : Int32)))) (sy_dh F1 X1 X2 (iv_H 3)))
    (k1 : (sy_i F 84).toInt ≠ 0 → ∀ F1 : Nat → sy_d, iv_in F1 iv_B0 → (∀ j, j < 82 → j ∉ ([] : List Nat) → F1 j = F j) → (sy_i F1 33).toInt = (sy_i F 33).toInt → (sy_i F1 34).toInt = (sy_i F 34).toInt → (sy_i F1 36).toInt = (sy_i F 36).toInt → (sy_i F1 37).toInt = (sy_i F 37).toInt → (sy_i F1 38).toInt = (sy_i F 38).toInt → (sy_i F1 3).toInt = (sy_i F 3).toInt → (sy_i F1 4).toInt = (sy_i F 4).toInt → sy_ai F1 39 = sy_ai F 39 → (sy_i F1 82).toInt = (sy_i F 82).toInt → hd_W Ls xs d jm_M35 Q (47, sy_dL F1 [some (.inl (.ref 30)), some (.inr (.inl 82)), none], sy_dS F1 [.inl (.int 59), .inl (.ref 30)], sy_dh F1 X1 X2 (iv_H 3), 0, 0)) :
    hd_W Ls xs d jm_M35 Q (41, sy_dL F [some (.inl (.ref 30)), some (.inr (.inl 82)), none], sy_dS F [.inr (.inl 84)], sy_dh F X1 X2 (iv_H 3), 0, 0) := by
  by_cases g0 : (sy_i F 84).toInt = 0
  · exact k3pg_41_p0 hd F X1 X2 hB (by first | exact g0 | (simp only [nz_c]; exact g0)) (fun F1 g  => k0 g0 F1 (nz_in0 hB [] (fun j hj hn => g j hj (by simp only [List.mem_cons, List.not_mem_nil, or_false, not_or] at hn; exact trivial)) (List.forall_mem_nil _)) (fun j hj hn => g j hj (by simp only [List.mem_cons, List.not_mem_nil, or_false, not_or] at hn; exact trivial)) (nz_fi (g 33 (by decide) (by decide))) (nz_fi (g 34 (by decide) (by decide))) (nz_fi (g 36 (by decide) (by decide))) (nz_fi (g 37 (by decide) (by decide))) (nz_fi (g 38 (by decide) (by decide))) (nz_fi (g 3 (by decide) (by decide))) (nz_fi (g 4 (by decide) (by decide))) (nz_fa (g 39 (by decide) (by decide))))
  replace g0 : (sy_i F 84).toInt ≠ 0 := by omega
  exact k3pg_41_p1 hd F X1 X2 hB (by first | exact g0 | (simp only [nz_c]; exact g0)) (fun F1 g e82 => k1 g0 F1 (nz_in0 hB [] (fun j hj hn => g j hj (by simp only [List.mem_cons, List.not_mem_nil, or_false, not_or] at hn; exact trivial)) (List.forall_mem_nil _)) (fun j hj hn => g j hj (by simp only [List.mem_cons, List.not_mem_nil, or_false, not_or] at hn; exact trivial)) (nz_fi (g 33 (by decide) (by decide))) (nz_fi (g 34 (by decide) (by decide))) (nz_fi (g 36 (by decide) (by decide))) (nz_fi (g 37 (by decide) (by decide))) (nz_fi (g 38 (by decide) (by decide))) (nz_fi (g 3 (by decide) (by decide))) (nz_fi (g 4 (by decide) (by decide))) (nz_fa (g 39 (by decide) (by decide))) ((congrArg Int32.toInt (zz_i e82)).trans (rfl : (sy_i F 82).toInt = (sy_i F 82).toInt)))
theorem k3pg_50_p0 {Ls : Nat} {xs : Nat → Int32} {d : Nat} {Q : Option Value → jm_h → Prop} (hd : 4 ≤ d) (F : Nat → sy_d) (X1 X2 : List jm_c) (hB : iv_in F iv_B0)
    (h0 : (sy_i F 83).toInt ≠ 0)
    (h1 : (sy_i F 82).toInt ≠ 8)
    (h2 : (sy_i F 82).toInt ≠ 9)
    (k : ∀ F1 : Nat → sy_d, (∀ j, j < 82 → j ≠ 7 → F1 j = F j) → F1 7 = .inl (.int ((sy_ai F 44).getD ((0 : Int32)).toNatClampNeg 0)) → Q (some (.int ((1 : Int32)))) (sy_dh F1 X1 X2 (iv_H 3))) :
    hd_W Ls xs d jm_M35 Q (50, sy_dL F [some (.inl (.ref 30)), some (.inr (.inl 82)), none], sy_dS F [.inr (.inl 83)], sy_dh F X1 X2 (iv_H 3), 0, 0) := by
  refine hd_ret (s := 3) (nv := 84) (v := some (.inl (.int 1))) (uh := hd_ov (iv_id 0 iv_B0) [(7, .inl (.inr (.inl 84)))]) (f := false) (sp := []) (d0 := 3) (O := [true, true, true]) (T := [(30, [.inl (.int 0)], [.inr (.inl 44)])]) (P := [(1, .inr (.inl 83), .inl (.int 0)), (1, .inr (.inl 82), .inl (.int 8)), (1, .inr (.inl 82), .inl (.int 9))]) jm_ok35 (by decide +kernel) (by decide +kernel) hd F X1 X2 (fun F' hF hs => ?_)
  have b83 := hd_b (F := F) (F' := F') (k := 83) (hF 83 (by decide))
  have b82 := hd_b (F := F) (F' := F') (k := 82) (hF 82 (by decide))
  have a44 := hd_ba (F := F) (F' := F') (k := 44) (hF 44 (by decide))
  have t84 : sy_dv F' (.inr (.inl 84)) = .int ((sy_ai F 44).getD ((0 : Int32)).toNatClampNeg 0) := hd_rd (hs 0 _ rfl) rfl a44
  have hB' : iv_in F' iv_B0 := iv_in_eq hB (fun j hj => hF j (Nat.lt_of_lt_of_le hj (by decide +kernel)))
  refine ⟨List.forall_mem_cons.mpr ⟨hd_p1 b83 rfl (by have hc : ((0) : Int32).toInt = 0 := (by decide); omega), List.forall_mem_cons.mpr ⟨hd_p1 b82 rfl (by have hc : ((8) : Int32).toInt = 8 := (by decide); omega), List.forall_mem_cons.mpr ⟨hd_p1 b82 rfl (by have hc : ((9) : Int32).toInt = 9 := (by decide); omega), fun _ h => absurd h List.not_mem_nil⟩⟩⟩, ?_⟩
  refine k _ ?_ ?_
  · exact fun j hj hn => (hd_keep hB' (Nat.lt_of_lt_of_le hj (by decide +kernel)) (by simp; omega)).trans (hF j (Nat.lt_of_lt_of_le hj (by decide)))
  · exact hd_gi (x := .inr (.inl 84)) (by decide +kernel) t84
theorem k3pg_50_p1 {Ls : Nat} {xs : Nat → Int32} {d : Nat} {Q : Option Value → jm_h → Prop} (hd : 4 ≤ d) (F : Nat → sy_d) (X1 X2 : List jm_c) (hB : iv_in F iv_B0)
    (h0 : (sy_i F 83).toInt ≠ 0)
    (h1 : (sy_i F 82).toInt ≠ 8)
    (h2 : (sy_i F 82).toInt = 9)
    (k : ∀ F1 : Nat → sy_d, (∀ j, j < 82 → j ≠ 6 → F1 j = F j) → F1 6 = .inl (.int ((sy_ai F 44).getD ((0 : Int32)).toNatClampNeg 0)) → Q (some (.int ((1 : Int32)))) (sy_dh F1 X1 X2 (iv_H 3))) :
    hd_W Ls xs d jm_M35 Q (50, sy_dL F [some (.inl (.ref 30)), some (.inr (.inl 82)), none], sy_dS F [.inr (.inl 83)], sy_dh F X1 X2 (iv_H 3), 0, 0) := by
  refine hd_ret (s := 3) (nv := 84) (v := some (.inl (.int 1))) (uh := hd_ov (iv_id 0 iv_B0) [(6, .inl (.inr (.inl 84)))]) (f := false) (sp := []) (d0 := 3) (O := [true, true, false]) (T := [(30, [.inl (.int 0)], [.inr (.inl 44)])]) (P := [(1, .inr (.inl 83), .inl (.int 0)), (1, .inr (.inl 82), .inl (.int 8)), (0, .inr (.inl 82), .inl (.int 9))]) jm_ok35 (by decide +kernel) (by decide +kernel) hd F X1 X2 (fun F' hF hs => ?_)
  have b83 := hd_b (F := F) (F' := F') (k := 83) (hF 83 (by decide))
  have b82 := hd_b (F := F) (F' := F') (k := 82) (hF 82 (by decide))
  have a44 := hd_ba (F := F) (F' := F') (k := 44) (hF 44 (by decide))
  have t84 : sy_dv F' (.inr (.inl 84)) = .int ((sy_ai F 44).getD ((0 : Int32)).toNatClampNeg 0) := hd_rd (hs 0 _ rfl) rfl a44
  have hB' : iv_in F' iv_B0 := iv_in_eq hB (fun j hj => hF j (Nat.lt_of_lt_of_le hj (by decide +kernel)))
  refine ⟨List.forall_mem_cons.mpr ⟨hd_p1 b83 rfl (by have hc : ((0) : Int32).toInt = 0 := (by decide); omega), List.forall_mem_cons.mpr ⟨hd_p1 b82 rfl (by have hc : ((8) : Int32).toInt = 8 := (by decide); omega), List.forall_mem_cons.mpr ⟨hd_p0 b82 rfl (by have hc : ((9) : Int32).toInt = 9 := (by decide); omega), fun _ h => absurd h List.not_mem_nil⟩⟩⟩, ?_⟩
  refine k _ ?_ ?_
  · exact fun j hj hn => (hd_keep hB' (Nat.lt_of_lt_of_le hj (by decide +kernel)) (by simp; omega)).trans (hF j (Nat.lt_of_lt_of_le hj (by decide)))
  · exact hd_gi (x := .inr (.inl 84)) (by decide +kernel) t84
theorem k3pg_50_p2 {Ls : Nat} {xs : Nat → Int32} {d : Nat} {Q : Option Value → jm_h → Prop} (hd : 4 ≤ d) (F : Nat → sy_d) (X1 X2 : List jm_c) (hB : iv_in F iv_B0)
    (h0 : (sy_i F 83).toInt ≠ 0)
    (h1 : (sy_i F 82).toInt = 8)
    (k : ∀ F1 : Nat → sy_d, (∀ j, j < 82 → j ≠ 5 → F1 j = F j) → F1 5 = .inl (.int ((sy_ai F 44).getD ((0 : Int32)).toNatClampNeg 0)) → Q (some (.int ((1 : Int32)))) (sy_dh F1 X1 X2 (iv_H 3))) :
    hd_W Ls xs d jm_M35 Q (50, sy_dL F [some (.inl (.ref 30)), some (.inr (.inl 82)), none], sy_dS F [.inr (.inl 83)], sy_dh F X1 X2 (iv_H 3), 0, 0) := by
  refine hd_ret (s := 3) (nv := 84) (v := some (.inl (.int 1))) (uh := hd_ov (iv_id 0 iv_B0) [(5, .inl (.inr (.inl 84)))]) (f := false) (sp := []) (d0 := 3) (O := [true, false]) (T := [(30, [.inl (.int 0)], [.inr (.inl 44)])]) (P := [(1, .inr (.inl 83), .inl (.int 0)), (0, .inr (.inl 82), .inl (.int 8))]) jm_ok35 (by decide +kernel) (by decide +kernel) hd F X1 X2 (fun F' hF hs => ?_)
  have b83 := hd_b (F := F) (F' := F') (k := 83) (hF 83 (by decide))
  have b82 := hd_b (F := F) (F' := F') (k := 82) (hF 82 (by decide))
  have a44 := hd_ba (F := F) (F' := F') (k := 44) (hF 44 (by decide))
  have t84 : sy_dv F' (.inr (.inl 84)) = .int ((sy_ai F 44).getD ((0 : Int32)).toNatClampNeg 0) := hd_rd (hs 0 _ rfl) rfl a44
  have hB' : iv_in F' iv_B0 := iv_in_eq hB (fun j hj => hF j (Nat.lt_of_lt_of_le hj (by decide +kernel)))
  refine ⟨List.forall_mem_cons.mpr ⟨hd_p1 b83 rfl (by have hc : ((0) : Int32).toInt = 0 := (by decide); omega), List.forall_mem_cons.mpr ⟨hd_p0 b82 rfl (by have hc : ((8) : Int32).toInt = 8 := (by decide); omega), fun _ h => absurd h List.not_mem_nil⟩⟩, ?_⟩
  refine k _ ?_ ?_
  · exact fun j hj hn => (hd_keep hB' (Nat.lt_of_lt_of_le hj (by decide +kernel)) (by simp; omega)).trans (hF j (Nat.lt_of_lt_of_le hj (by decide)))
  · exact hd_gi (x := .inr (.inl 84)) (by decide +kernel) t84
theorem k3pg_50_p3 {Ls : Nat} {xs : Nat → Int32} {d : Nat} {Q : Option Value → jm_h → Prop} (hd : 4 ≤ d) (F : Nat → sy_d) (X1 X2 : List jm_c) (hB : iv_in F iv_B0)
    (h0 : (sy_i F 83).toInt = 0)
    (k : ∀ F1 : Nat → sy_d, (∀ j, j < 82 → True → F1 j = F j) → Q (some (.int ((0 : Int32)))) (sy_dh F1 X1 X2 (iv_H 3))) :
    hd_W Ls xs d jm_M35 Q (50, sy_dL F [some (.inl (.ref 30)), some (.inr (.inl 82)), none], sy_dS F [.inr (.inl 83)], sy_dh F X1 X2 (iv_H 3), 0, 0) := by
  refine hd_ret (s := 3) (nv := 84) (v := some (.inl (.int 0))) (uh := hd_ov (iv_id 0 iv_B0) []) (f := false) (sp := []) (d0 := 3) (O := [false]) (T := []) (P := [(0, .inr (.inl 83), .inl (.int 0))]) jm_ok35 (by decide +kernel) (by decide +kernel) hd F X1 X2 (fun F' hF hs => ?_)
  have b83 := hd_b (F := F) (F' := F') (k := 83) (hF 83 (by decide))
  have hB' : iv_in F' iv_B0 := iv_in_eq hB (fun j hj => hF j (Nat.lt_of_lt_of_le hj (by decide +kernel)))
  refine ⟨List.forall_mem_cons.mpr ⟨hd_p0 b83 rfl (by have hc : ((0) : Int32).toInt = 0 := (by decide); omega), fun _ h => absurd h List.not_mem_nil⟩, ?_⟩
  refine k _ ?_
  · exact fun j hj _ => (hd_keep hB' (Nat.lt_of_lt_of_le hj (by decide +kernel)) (by simp)).trans (hF j (Nat.lt_of_lt_of_le hj (by decide)))
end
section
/-! ===== the class parses fruit and buyers ===== -/
section NN
variable (K V : Nat → Int) (b c : Int × Int) (f : Nat × sE → sE ⊕ sT)
noncomputable def n4 (q : Nat × sE) : sE ⊕ sT := sB (sM K 4 q.1) fun t => f (t, q.2)
noncomputable def n3 (q : Nat × sE) : sE ⊕ sT := sB (sN K V c.1 c.2 q) (n4 K f)
noncomputable def n2 (q : Nat × sE) : sE ⊕ sT := sB (sN K V b.1 b.2 q) (n3 K V c f)
noncomputable def n1 (a : Int × Int) (q : Nat × sE) : sE ⊕ sT := sB (sN K V a.1 a.2 q) (n2 K V b c f)
theorem n_eq (N : Nat → Int64) (a : Int × Int) (q : Nat × List Int64 × sE) : sB (sTell K V N a b c q) f = sB (sNm K N q) (n1 K V b c f a) := by
  unfold sTell n1 n2 n3 n4
  simp only [sB_a]
  rfl
end NN
noncomputable def rcl (P : Nat → Int) (FR BU : Nat) (x : sT) (F : Nat → sy_d) : Prop := tg F = x.1 ∧ (sy_i F FR).toInt = x.2.1 ∧ (sy_i F BU).toInt = x.2.2.1 ∧ ncr x.2.2.2.1 F ∧ wc P x.2.2.2.2 F ∧ (sy_i F 38).toInt ≤ x.2.1 + x.2.2.1
noncomputable def WN : List Nat := [33, 34, 36, 37, 38, 43, 44]
theorem x01' {x : Int32} {A : Type} {r : sE ⊕ A} {J : A → (Nat → sy_d) → Prop} {F' : Nat → sy_d} (h : ac r J x F') : (x.toInt = 0 → r = .inl ((sy_i F' 34).toInt, tg F')) ∧ (x.toInt ≠ 0 → ∃ a, r = .inr a ∧ J a F') := x01 h
noncomputable def k0pf_W : List Nat := [33, 34, 36, 37, 38, 43, 44, 18, 24, 25, 26]
section Sk0pf
variable {Ls : Nat} {xs : Nat → Int32} (X1 X2 : List jm_c) (F0 : Nat → sy_d) (r0 : sE ⊕ sT) (fr bu : Nat) (nm : List Int64)
end Sk0pf
noncomputable def k0pb_W : List Nat := [33, 34, 36, 37, 38, 43, 44, 19, 28, 29, 30]
section Sk0pb
variable {Ls : Nat} {xs : Nat → Int32} (X1 X2 : List jm_c) (F0 : Nat → sy_d) (r0 : sE ⊕ sT) (fr bu : Nat) (nm : List Int64)
end Sk0pb
noncomputable def k3pf_W : List Nat := [33, 34, 36, 37, 38, 43, 44, 3, 9, 10, 11]
section Sk3pf
variable {Ls : Nat} {xs : Nat → Int32} (X1 X2 : List jm_c) (F0 : Nat → sy_d) (r0 : sE ⊕ sT) (fr bu : Nat) (nm : List Int64)
end Sk3pf
noncomputable def k3pb_W : List Nat := [33, 34, 36, 37, 38, 43, 44, 4, 13, 14, 15]
section Sk3pb
variable {Ls : Nat} {xs : Nat → Int32} (X1 X2 : List jm_c) (F0 : Nat → sy_d) (r0 : sE ⊕ sT) (fr bu : Nat) (nm : List Int64)
end Sk3pb
end
section
/-! ===== the class parses settings ===== -/
noncomputable def sHi (a : Int) : Int := if a = 10 then 9999 else 99
noncomputable def k0pg_W : List Nat := [33, 34, 36, 37, 44, 20, 21, 22]
section Sk0pg
variable {Ls : Nat} {xs : Nat → Int32} (X1 X2 : List jm_c) (F0 : Nat → sy_d) (r0 : sE ⊕ sT) (fr bu : Nat) (nm : List Int64)
end Sk0pg
noncomputable def k3pg_W : List Nat := [33, 34, 36, 37, 44, 5, 6, 7]
section Sk3pg
variable {Ls : Nat} {xs : Nat → Int32} (X1 X2 : List jm_c) (F0 : Nat → sy_d) (r0 : sE ⊕ sT) (fr bu : Nat) (nm : List Int64)
end Sk3pg
end
section
/-! ===== the class parses a text: what comes first (shape 0) ===== -/
theorem k0py_0_p0 {Ls : Nat} {xs : Nat → Int32} {d : Nat} {Q : Option Value → jm_h → Prop} (hd : 7 ≤ d) (F : Nat → sy_d) (X1 X2 : List jm_c) (hB : iv_in F iv_B0)
    (k : ∀ F1 : Nat → sy_d, (∀ j, j < 82 → True → F1 j = F j) → F1 82 = .inl (.int (sy_i F 82)) → hd_W Ls xs d jm_M31 Q (6, sy_dL F1 [some (.inl (.ref 30)), none, none, some (.inl (.ref 20)), none, none, none], sy_dS F1 [.inr (.inl 82), .inl (.ref 9), .inl (.ref 31)], sy_dh F1 X1 X2 (iv_H 0), 0, 0)) :
    hd_W Ls xs d jm_M31 Q (0, sy_dL F [some (.inl (.ref 30)), some (.inl (.ref 9)), some (.inr (.inl 82)), some (.inl (.ref 20)), none, none, none], sy_dS F [], sy_dh F X1 X2 (iv_H 0), 0, 0) := by
  refine hd_run (s := 0) (nv := 83) (pc := 6) (L := [some (.inl (.ref 30)), none, none, some (.inl (.ref 20)), none, none, none]) (S := [.inr (.inl 82), .inl (.ref 9), .inl (.ref 31)]) (uh := hd_ov (iv_id 0 iv_B0) []) (ul := [.inl (.inr (.inl 82))]) (f := true) (sp := [6]) (d0 := 6) (O := []) (T := []) (P := []) jm_ok31 (by decide +kernel) (by decide +kernel) hd F X1 X2 (fun F' hF hs => ?_)
  have b82 := hd_b (F := F) (F' := F') (k := 82) (hF 82 (by decide))
  have hB' : iv_in F' iv_B0 := iv_in_eq hB (fun j hj => hF j (Nat.lt_of_lt_of_le hj (by decide +kernel)))
  refine ⟨fun _ h => absurd h List.not_mem_nil, ?_⟩
  refine k _ ?_ ?_
  · exact fun j hj _ => (hd_keep hB' (Nat.lt_of_lt_of_le hj (by decide +kernel)) (by simp)).trans (hF j (Nat.lt_of_lt_of_le hj (by decide)))
  · exact hd_gi (x := .inr (.inl 82)) (by decide +kernel) b82
theorem k0py_0 {Ls : Nat} {xs : Nat → Int32} {d : Nat} {Q : Option Value → jm_h → Prop} (hd : 7 ≤ d) (F : Nat → sy_d) (X1 X2 : List jm_c) (hB : iv_in F iv_B0)
    (k0 : ∀ F1 : Nat → sy_d, iv_in F1 iv_B0 → (∀ j, j < 82 → j ∉ ([] : List Nat) → F1 j = F j) → (sy_i F1 33).toInt = (sy_i F 33).toInt → (sy_i F1 34).toInt = (sy_i F 34).toInt → (sy_i F1 36).toInt = (sy_i F 36).toInt → (sy_i F1 37).toInt = (sy_i F 37).toInt → (sy_i F1 38).toInt = (sy_i F 38).toInt → (sy_i F1 18).toInt = (sy_i F 18).toInt → (sy_i F1 19).toInt = (sy_i F 19).toInt → (sy_i F1 82).toInt = (sy_i F 82).toInt → hd_W Ls xs d jm_M31 Q (6, sy_dL F1 [some (.inl (.ref 30)), none, none, some (.inl (.ref 20)), none, none, none], sy_dS F1 [.inr (.inl 82), .inl (.ref 9), .inl (.ref 31)], sy_dh F1 X1 X2 (iv_H 0), 0, 0)) :
    hd_W Ls xs d jm_M31 Q (0, sy_dL F [some (.inl (.ref 30)), some (.inl (.ref 9)), some (.inr (.inl 82)), some (.inl (.ref 20)), none, none, none], sy_dS F [], sy_dh F X1 X2 (iv_H 0), 0, 0) := by
  exact k0py_0_p0 hd F X1 X2 hB  (fun F1 g e82 => k0 F1 (nz_in0 hB [] (fun j hj hn => g j hj (by simp only [List.mem_cons, List.not_mem_nil, or_false, not_or] at hn; exact trivial)) (List.forall_mem_nil _)) (fun j hj hn => g j hj (by simp only [List.mem_cons, List.not_mem_nil, or_false, not_or] at hn; exact trivial)) (nz_fi (g 33 (by decide) (by decide))) (nz_fi (g 34 (by decide) (by decide))) (nz_fi (g 36 (by decide) (by decide))) (nz_fi (g 37 (by decide) (by decide))) (nz_fi (g 38 (by decide) (by decide))) (nz_fi (g 18 (by decide) (by decide))) (nz_fi (g 19 (by decide) (by decide))) ((congrArg Int32.toInt (zz_i e82)).trans (rfl : (sy_i F 82).toInt = (sy_i F 82).toInt)))
theorem k0py_9_p0 {Ls : Nat} {xs : Nat → Int32} {d : Nat} {Q : Option Value → jm_h → Prop} (hd : 7 ≤ d) (F : Nat → sy_d) (X1 X2 : List jm_c) (hB : iv_in F iv_B0)
    (k : ∀ F1 : Nat → sy_d, (∀ j, j < 82 → j ≠ 18 ∧ j ≠ 19 ∧ j ≠ 20 ∧ j ≠ 21 ∧ j ≠ 22 ∧ j ≠ 23 ∧ j ≠ 31 ∧ j ≠ 32 ∧ j ≠ 33 ∧ j ≠ 34 ∧ j ≠ 36 ∧ j ≠ 37 ∧ j ≠ 38 → F1 j = F j) → F1 18 = .inl (.int ((0 : Int32))) → F1 19 = .inl (.int ((0 : Int32))) → F1 20 = .inl (.int ((10 : Int32))) → F1 21 = .inl (.int ((6 : Int32))) → F1 22 = .inl (.int ((0 : Int32))) → F1 23 = .inl (.int ((12 : Int32))) → F1 31 = .inr (.inl (jm_upd (jm_upd (jm_upd (jm_upd (jm_upd (jm_upd (sy_ai F 31) ((0 : Int32)).toNatClampNeg ((0 : Int32))) ((1 : Int32)).toNatClampNeg ((2 : Int32))) ((2 : Int32)).toNatClampNeg ((4 : Int32))) ((3 : Int32)).toNatClampNeg ((6 : Int32))) ((4 : Int32)).toNatClampNeg ((8 : Int32))) ((5 : Int32)).toNatClampNeg ((10 : Int32)))) → F1 32 = .inr (.inl (jm_upd (jm_upd (jm_upd (jm_upd (jm_upd (jm_upd (jm_upd (jm_upd (jm_upd (jm_upd (jm_upd (jm_upd (sy_ai F 32) ((0 : Int32)).toNatClampNeg ((0 : Int32))) ((1 : Int32)).toNatClampNeg (((-14) : Int32))) ((2 : Int32)).toNatClampNeg ((1 : Int32))) ((3 : Int32)).toNatClampNeg (((-14) : Int32))) ((4 : Int32)).toNatClampNeg (((-1) : Int32))) ((5 : Int32)).toNatClampNeg (((-14) : Int32))) ((6 : Int32)).toNatClampNeg (((-1) : Int32))) ((7 : Int32)).toNatClampNeg (((-14) : Int32))) ((8 : Int32)).toNatClampNeg ((0 : Int32))) ((9 : Int32)).toNatClampNeg (((-14) : Int32))) ((10 : Int32)).toNatClampNeg ((0 : Int32))) ((11 : Int32)).toNatClampNeg (((-14) : Int32)))) → F1 33 = .inl (.int ((0 : Int32))) → F1 34 = .inl (.int ((0 : Int32))) → F1 36 = .inl (.int ((0 : Int32))) → F1 37 = .inl (.int (((-1) : Int32))) → F1 38 = .inl (.int ((0 : Int32))) → F1 82 = .inl (.int ((1 : Int32))) → F1 83 = .inl (.int ((0 : Int32))) → hd_W Ls xs d jm_M31 Q (52, sy_dL F1 [some (.inl (.ref 30)), none, none, none, some (.inr (.inl 82)), some (.inr (.inl 83)), none], sy_dS F1 [], sy_dh F1 X1 X2 (iv_H 0), 0, 0)) :
    hd_W Ls xs d jm_M31 Q (9, sy_dL F [some (.inl (.ref 30)), none, none, some (.inl (.ref 20)), none, none, none], sy_dS F [], sy_dh F X1 X2 (iv_H 0), 0, 0) := by
  refine hd_run (s := 0) (nv := 82) (pc := 52) (L := [some (.inl (.ref 30)), none, none, none, some (.inr (.inl 82)), some (.inr (.inl 83)), none]) (S := []) (uh := hd_ov (iv_id 0 iv_B0) [(18, .inl (.inl (.int 0))), (19, .inl (.inl (.int 0))), (20, .inl (.inl (.int 10))), (21, .inl (.inl (.int 6))), (22, .inl (.inl (.int 0))), (23, .inl (.inl (.int 12))), (31, .inr (.inr (.inl 97))), (32, .inr (.inr (.inl 99))), (33, .inl (.inl (.int 0))), (34, .inl (.inl (.int 0))), (36, .inl (.inl (.int 0))), (37, .inl (.inl (.int (-1)))), (38, .inl (.inl (.int 0)))]) (ul := [.inl (.inl (.int 1)), .inl (.inl (.int 0))]) (f := false) (sp := [52]) (d0 := 6) (O := []) (T := [(40, [.inl (.int 0), .inl (.int 0)], [.inr (.inl 31)]), (40, [.inl (.int 0), .inl (.int 0)], [.inr (.inl 32)]), (40, [.inl (.int 1), .inl (.int (-14))], [.inr (.inl 83)]), (40, [.inl (.int 1), .inl (.int 2)], [.inr (.inl 82)]), (40, [.inl (.int 2), .inl (.int 1)], [.inr (.inl 84)]), (40, [.inl (.int 3), .inl (.int (-14))], [.inr (.inl 86)]), (40, [.inl (.int 2), .inl (.int 4)], [.inr (.inl 85)]), (40, [.inl (.int 4), .inl (.int (-1))], [.inr (.inl 87)]), (40, [.inl (.int 5), .inl (.int (-14))], [.inr (.inl 89)]), (40, [.inl (.int 3), .inl (.int 6)], [.inr (.inl 88)]), (40, [.inl (.int 6), .inl (.int (-1))], [.inr (.inl 90)]), (40, [.inl (.int 7), .inl (.int (-14))], [.inr (.inl 92)]), (40, [.inl (.int 4), .inl (.int 8)], [.inr (.inl 91)]), (40, [.inl (.int 8), .inl (.int 0)], [.inr (.inl 93)]), (40, [.inl (.int 9), .inl (.int (-14))], [.inr (.inl 95)]), (40, [.inl (.int 5), .inl (.int 10)], [.inr (.inl 94)]), (40, [.inl (.int 10), .inl (.int 0)], [.inr (.inl 96)]), (40, [.inl (.int 11), .inl (.int (-14))], [.inr (.inl 98)])]) (P := []) jm_ok31 (by decide +kernel) (by decide +kernel) hd F X1 X2 (fun F' hF hs => ?_)
  have a31 := hd_ba (F := F) (F' := F') (k := 31) (hF 31 (by decide))
  have t82 : sy_da F' (.inr (.inl 82)) = .inl (jm_upd (sy_ai F 31) ((0 : Int32)).toNatClampNeg ((0 : Int32))) := hd_up (hs 0 _ rfl) rfl rfl a31
  have t85 : sy_da F' (.inr (.inl 85)) = .inl (jm_upd (jm_upd (sy_ai F 31) ((0 : Int32)).toNatClampNeg ((0 : Int32))) ((1 : Int32)).toNatClampNeg ((2 : Int32))) := hd_up (hs 3 _ rfl) rfl rfl t82
  have t88 : sy_da F' (.inr (.inl 88)) = .inl (jm_upd (jm_upd (jm_upd (sy_ai F 31) ((0 : Int32)).toNatClampNeg ((0 : Int32))) ((1 : Int32)).toNatClampNeg ((2 : Int32))) ((2 : Int32)).toNatClampNeg ((4 : Int32))) := hd_up (hs 6 _ rfl) rfl rfl t85
  have t91 : sy_da F' (.inr (.inl 91)) = .inl (jm_upd (jm_upd (jm_upd (jm_upd (sy_ai F 31) ((0 : Int32)).toNatClampNeg ((0 : Int32))) ((1 : Int32)).toNatClampNeg ((2 : Int32))) ((2 : Int32)).toNatClampNeg ((4 : Int32))) ((3 : Int32)).toNatClampNeg ((6 : Int32))) := hd_up (hs 9 _ rfl) rfl rfl t88
  have t94 : sy_da F' (.inr (.inl 94)) = .inl (jm_upd (jm_upd (jm_upd (jm_upd (jm_upd (sy_ai F 31) ((0 : Int32)).toNatClampNeg ((0 : Int32))) ((1 : Int32)).toNatClampNeg ((2 : Int32))) ((2 : Int32)).toNatClampNeg ((4 : Int32))) ((3 : Int32)).toNatClampNeg ((6 : Int32))) ((4 : Int32)).toNatClampNeg ((8 : Int32))) := hd_up (hs 12 _ rfl) rfl rfl t91
  have t97 : sy_da F' (.inr (.inl 97)) = .inl (jm_upd (jm_upd (jm_upd (jm_upd (jm_upd (jm_upd (sy_ai F 31) ((0 : Int32)).toNatClampNeg ((0 : Int32))) ((1 : Int32)).toNatClampNeg ((2 : Int32))) ((2 : Int32)).toNatClampNeg ((4 : Int32))) ((3 : Int32)).toNatClampNeg ((6 : Int32))) ((4 : Int32)).toNatClampNeg ((8 : Int32))) ((5 : Int32)).toNatClampNeg ((10 : Int32))) := hd_up (hs 15 _ rfl) rfl rfl t94
  have a32 := hd_ba (F := F) (F' := F') (k := 32) (hF 32 (by decide))
  have t83 : sy_da F' (.inr (.inl 83)) = .inl (jm_upd (sy_ai F 32) ((0 : Int32)).toNatClampNeg ((0 : Int32))) := hd_up (hs 1 _ rfl) rfl rfl a32
  have t84 : sy_da F' (.inr (.inl 84)) = .inl (jm_upd (jm_upd (sy_ai F 32) ((0 : Int32)).toNatClampNeg ((0 : Int32))) ((1 : Int32)).toNatClampNeg (((-14) : Int32))) := hd_up (hs 2 _ rfl) rfl rfl t83
  have t86 : sy_da F' (.inr (.inl 86)) = .inl (jm_upd (jm_upd (jm_upd (sy_ai F 32) ((0 : Int32)).toNatClampNeg ((0 : Int32))) ((1 : Int32)).toNatClampNeg (((-14) : Int32))) ((2 : Int32)).toNatClampNeg ((1 : Int32))) := hd_up (hs 4 _ rfl) rfl rfl t84
  have t87 : sy_da F' (.inr (.inl 87)) = .inl (jm_upd (jm_upd (jm_upd (jm_upd (sy_ai F 32) ((0 : Int32)).toNatClampNeg ((0 : Int32))) ((1 : Int32)).toNatClampNeg (((-14) : Int32))) ((2 : Int32)).toNatClampNeg ((1 : Int32))) ((3 : Int32)).toNatClampNeg (((-14) : Int32))) := hd_up (hs 5 _ rfl) rfl rfl t86
  have t89 : sy_da F' (.inr (.inl 89)) = .inl (jm_upd (jm_upd (jm_upd (jm_upd (jm_upd (sy_ai F 32) ((0 : Int32)).toNatClampNeg ((0 : Int32))) ((1 : Int32)).toNatClampNeg (((-14) : Int32))) ((2 : Int32)).toNatClampNeg ((1 : Int32))) ((3 : Int32)).toNatClampNeg (((-14) : Int32))) ((4 : Int32)).toNatClampNeg (((-1) : Int32))) := hd_up (hs 7 _ rfl) rfl rfl t87
  have t90 : sy_da F' (.inr (.inl 90)) = .inl (jm_upd (jm_upd (jm_upd (jm_upd (jm_upd (jm_upd (sy_ai F 32) ((0 : Int32)).toNatClampNeg ((0 : Int32))) ((1 : Int32)).toNatClampNeg (((-14) : Int32))) ((2 : Int32)).toNatClampNeg ((1 : Int32))) ((3 : Int32)).toNatClampNeg (((-14) : Int32))) ((4 : Int32)).toNatClampNeg (((-1) : Int32))) ((5 : Int32)).toNatClampNeg (((-14) : Int32))) := hd_up (hs 8 _ rfl) rfl rfl t89
  have t92 : sy_da F' (.inr (.inl 92)) = .inl (jm_upd (jm_upd (jm_upd (jm_upd (jm_upd (jm_upd (jm_upd (sy_ai F 32) ((0 : Int32)).toNatClampNeg ((0 : Int32))) ((1 : Int32)).toNatClampNeg (((-14) : Int32))) ((2 : Int32)).toNatClampNeg ((1 : Int32))) ((3 : Int32)).toNatClampNeg (((-14) : Int32))) ((4 : Int32)).toNatClampNeg (((-1) : Int32))) ((5 : Int32)).toNatClampNeg (((-14) : Int32))) ((6 : Int32)).toNatClampNeg (((-1) : Int32))) := hd_up (hs 10 _ rfl) rfl rfl t90
  have t93 : sy_da F' (.inr (.inl 93)) = .inl (jm_upd (jm_upd (jm_upd (jm_upd (jm_upd (jm_upd (jm_upd (jm_upd (sy_ai F 32) ((0 : Int32)).toNatClampNeg ((0 : Int32))) ((1 : Int32)).toNatClampNeg (((-14) : Int32))) ((2 : Int32)).toNatClampNeg ((1 : Int32))) ((3 : Int32)).toNatClampNeg (((-14) : Int32))) ((4 : Int32)).toNatClampNeg (((-1) : Int32))) ((5 : Int32)).toNatClampNeg (((-14) : Int32))) ((6 : Int32)).toNatClampNeg (((-1) : Int32))) ((7 : Int32)).toNatClampNeg (((-14) : Int32))) := hd_up (hs 11 _ rfl) rfl rfl t92
  have t95 : sy_da F' (.inr (.inl 95)) = .inl (jm_upd (jm_upd (jm_upd (jm_upd (jm_upd (jm_upd (jm_upd (jm_upd (jm_upd (sy_ai F 32) ((0 : Int32)).toNatClampNeg ((0 : Int32))) ((1 : Int32)).toNatClampNeg (((-14) : Int32))) ((2 : Int32)).toNatClampNeg ((1 : Int32))) ((3 : Int32)).toNatClampNeg (((-14) : Int32))) ((4 : Int32)).toNatClampNeg (((-1) : Int32))) ((5 : Int32)).toNatClampNeg (((-14) : Int32))) ((6 : Int32)).toNatClampNeg (((-1) : Int32))) ((7 : Int32)).toNatClampNeg (((-14) : Int32))) ((8 : Int32)).toNatClampNeg ((0 : Int32))) := hd_up (hs 13 _ rfl) rfl rfl t93
  have t96 : sy_da F' (.inr (.inl 96)) = .inl (jm_upd (jm_upd (jm_upd (jm_upd (jm_upd (jm_upd (jm_upd (jm_upd (jm_upd (jm_upd (sy_ai F 32) ((0 : Int32)).toNatClampNeg ((0 : Int32))) ((1 : Int32)).toNatClampNeg (((-14) : Int32))) ((2 : Int32)).toNatClampNeg ((1 : Int32))) ((3 : Int32)).toNatClampNeg (((-14) : Int32))) ((4 : Int32)).toNatClampNeg (((-1) : Int32))) ((5 : Int32)).toNatClampNeg (((-14) : Int32))) ((6 : Int32)).toNatClampNeg (((-1) : Int32))) ((7 : Int32)).toNatClampNeg (((-14) : Int32))) ((8 : Int32)).toNatClampNeg ((0 : Int32))) ((9 : Int32)).toNatClampNeg (((-14) : Int32))) := hd_up (hs 14 _ rfl) rfl rfl t95
  have t98 : sy_da F' (.inr (.inl 98)) = .inl (jm_upd (jm_upd (jm_upd (jm_upd (jm_upd (jm_upd (jm_upd (jm_upd (jm_upd (jm_upd (jm_upd (sy_ai F 32) ((0 : Int32)).toNatClampNeg ((0 : Int32))) ((1 : Int32)).toNatClampNeg (((-14) : Int32))) ((2 : Int32)).toNatClampNeg ((1 : Int32))) ((3 : Int32)).toNatClampNeg (((-14) : Int32))) ((4 : Int32)).toNatClampNeg (((-1) : Int32))) ((5 : Int32)).toNatClampNeg (((-14) : Int32))) ((6 : Int32)).toNatClampNeg (((-1) : Int32))) ((7 : Int32)).toNatClampNeg (((-14) : Int32))) ((8 : Int32)).toNatClampNeg ((0 : Int32))) ((9 : Int32)).toNatClampNeg (((-14) : Int32))) ((10 : Int32)).toNatClampNeg ((0 : Int32))) := hd_up (hs 16 _ rfl) rfl rfl t96
  have t99 : sy_da F' (.inr (.inl 99)) = .inl (jm_upd (jm_upd (jm_upd (jm_upd (jm_upd (jm_upd (jm_upd (jm_upd (jm_upd (jm_upd (jm_upd (jm_upd (sy_ai F 32) ((0 : Int32)).toNatClampNeg ((0 : Int32))) ((1 : Int32)).toNatClampNeg (((-14) : Int32))) ((2 : Int32)).toNatClampNeg ((1 : Int32))) ((3 : Int32)).toNatClampNeg (((-14) : Int32))) ((4 : Int32)).toNatClampNeg (((-1) : Int32))) ((5 : Int32)).toNatClampNeg (((-14) : Int32))) ((6 : Int32)).toNatClampNeg (((-1) : Int32))) ((7 : Int32)).toNatClampNeg (((-14) : Int32))) ((8 : Int32)).toNatClampNeg ((0 : Int32))) ((9 : Int32)).toNatClampNeg (((-14) : Int32))) ((10 : Int32)).toNatClampNeg ((0 : Int32))) ((11 : Int32)).toNatClampNeg (((-14) : Int32))) := hd_up (hs 17 _ rfl) rfl rfl t98
  have hB' : iv_in F' iv_B0 := iv_in_eq hB (fun j hj => hF j (Nat.lt_of_lt_of_le hj (by decide +kernel)))
  refine ⟨fun _ h => absurd h List.not_mem_nil, ?_⟩
  refine k _ ?_ ?_ ?_ ?_ ?_ ?_ ?_ ?_ ?_ ?_ ?_ ?_ ?_ ?_ ?_ ?_
  · exact fun j hj hn => (hd_keep hB' (Nat.lt_of_lt_of_le hj (by decide +kernel)) (by simp; omega)).trans (hF j (Nat.lt_of_lt_of_le hj (by decide)))
  · exact hd_gi (x := .inl (.int 0)) (by decide +kernel) rfl
  · exact hd_gi (x := .inl (.int 0)) (by decide +kernel) rfl
  · exact hd_gi (x := .inl (.int 10)) (by decide +kernel) rfl
  · exact hd_gi (x := .inl (.int 6)) (by decide +kernel) rfl
  · exact hd_gi (x := .inl (.int 0)) (by decide +kernel) rfl
  · exact hd_gi (x := .inl (.int 12)) (by decide +kernel) rfl
  · exact hd_ga (a := .inr (.inl 97)) (by decide +kernel) t97
  · exact hd_ga (a := .inr (.inl 99)) (by decide +kernel) t99
  · exact hd_gi (x := .inl (.int 0)) (by decide +kernel) rfl
  · exact hd_gi (x := .inl (.int 0)) (by decide +kernel) rfl
  · exact hd_gi (x := .inl (.int 0)) (by decide +kernel) rfl
  · exact hd_gi (x := .inl (.int (-1))) (by decide +kernel) rfl
  · exact hd_gi (x := .inl (.int 0)) (by decide +kernel) rfl
  · exact hd_gi (x := .inl (.int 1)) (by decide +kernel) rfl
  · exact hd_gi (x := .inl (.int 0)) (by decide +kernel) rfl
/-! ===== the class parses a text: what comes first (shape 1) ===== -/
theorem k1py_0_p0 {Ls : Nat} {xs : Nat → Int32} {d : Nat} {Q : Option Value → jm_h → Prop} (hd : 7 ≤ d) (F : Nat → sy_d) (X1 X2 : List jm_c) (hB : iv_in F iv_B0)
    (k : ∀ F1 : Nat → sy_d, (∀ j, j < 82 → True → F1 j = F j) → F1 82 = .inl (.int (sy_i F 82)) → hd_W Ls xs d jm_M31 Q (6, sy_dL F1 [some (.inl (.ref 30)), none, none, some (.inl (.ref 20)), none, none, none], sy_dS F1 [.inr (.inl 82), .inl (.ref 9), .inl (.ref 31)], sy_dh F1 X1 X2 (iv_H 1), 0, 0)) :
    hd_W Ls xs d jm_M31 Q (0, sy_dL F [some (.inl (.ref 30)), some (.inl (.ref 9)), some (.inr (.inl 82)), some (.inl (.ref 20)), none, none, none], sy_dS F [], sy_dh F X1 X2 (iv_H 1), 0, 0) := by
  refine hd_run (s := 1) (nv := 83) (pc := 6) (L := [some (.inl (.ref 30)), none, none, some (.inl (.ref 20)), none, none, none]) (S := [.inr (.inl 82), .inl (.ref 9), .inl (.ref 31)]) (uh := hd_ov (iv_id 0 iv_B0) []) (ul := [.inl (.inr (.inl 82))]) (f := true) (sp := [6]) (d0 := 6) (O := []) (T := []) (P := []) jm_ok31 (by decide +kernel) (by decide +kernel) hd F X1 X2 (fun F' hF hs => ?_)
  have b82 := hd_b (F := F) (F' := F') (k := 82) (hF 82 (by decide))
  have hB' : iv_in F' iv_B0 := iv_in_eq hB (fun j hj => hF j (Nat.lt_of_lt_of_le hj (by decide +kernel)))
  refine ⟨fun _ h => absurd h List.not_mem_nil, ?_⟩
  refine k _ ?_ ?_
  · exact fun j hj _ => (hd_keep hB' (Nat.lt_of_lt_of_le hj (by decide +kernel)) (by simp)).trans (hF j (Nat.lt_of_lt_of_le hj (by decide)))
  · exact hd_gi (x := .inr (.inl 82)) (by decide +kernel) b82
theorem k1py_0 {Ls : Nat} {xs : Nat → Int32} {d : Nat} {Q : Option Value → jm_h → Prop} (hd : 7 ≤ d) (F : Nat → sy_d) (X1 X2 : List jm_c) (hB : iv_in F iv_B0)
    (k0 : ∀ F1 : Nat → sy_d, iv_in F1 iv_B0 → (∀ j, j < 82 → j ∉ ([] : List Nat) → F1 j = F j) → (sy_i F1 33).toInt = (sy_i F 33).toInt → (sy_i F1 34).toInt = (sy_i F 34).toInt → (sy_i F1 36).toInt = (sy_i F 36).toInt → (sy_i F1 37).toInt = (sy_i F 37).toInt → (sy_i F1 38).toInt = (sy_i F 38).toInt → (sy_i F1 18).toInt = (sy_i F 18).toInt → (sy_i F1 19).toInt = (sy_i F 19).toInt → (sy_i F1 82).toInt = (sy_i F 82).toInt → hd_W Ls xs d jm_M31 Q (6, sy_dL F1 [some (.inl (.ref 30)), none, none, some (.inl (.ref 20)), none, none, none], sy_dS F1 [.inr (.inl 82), .inl (.ref 9), .inl (.ref 31)], sy_dh F1 X1 X2 (iv_H 1), 0, 0)) :
    hd_W Ls xs d jm_M31 Q (0, sy_dL F [some (.inl (.ref 30)), some (.inl (.ref 9)), some (.inr (.inl 82)), some (.inl (.ref 20)), none, none, none], sy_dS F [], sy_dh F X1 X2 (iv_H 1), 0, 0) := by
  exact k1py_0_p0 hd F X1 X2 hB  (fun F1 g e82 => k0 F1 (nz_in0 hB [] (fun j hj hn => g j hj (by simp only [List.mem_cons, List.not_mem_nil, or_false, not_or] at hn; exact trivial)) (List.forall_mem_nil _)) (fun j hj hn => g j hj (by simp only [List.mem_cons, List.not_mem_nil, or_false, not_or] at hn; exact trivial)) (nz_fi (g 33 (by decide) (by decide))) (nz_fi (g 34 (by decide) (by decide))) (nz_fi (g 36 (by decide) (by decide))) (nz_fi (g 37 (by decide) (by decide))) (nz_fi (g 38 (by decide) (by decide))) (nz_fi (g 18 (by decide) (by decide))) (nz_fi (g 19 (by decide) (by decide))) ((congrArg Int32.toInt (zz_i e82)).trans (rfl : (sy_i F 82).toInt = (sy_i F 82).toInt)))
theorem k1py_9_p0 {Ls : Nat} {xs : Nat → Int32} {d : Nat} {Q : Option Value → jm_h → Prop} (hd : 7 ≤ d) (F : Nat → sy_d) (X1 X2 : List jm_c) (hB : iv_in F iv_B0)
    (k : ∀ F1 : Nat → sy_d, (∀ j, j < 82 → j ≠ 18 ∧ j ≠ 19 ∧ j ≠ 20 ∧ j ≠ 21 ∧ j ≠ 22 ∧ j ≠ 23 ∧ j ≠ 31 ∧ j ≠ 32 ∧ j ≠ 33 ∧ j ≠ 34 ∧ j ≠ 36 ∧ j ≠ 37 ∧ j ≠ 38 → F1 j = F j) → F1 18 = .inl (.int ((0 : Int32))) → F1 19 = .inl (.int ((0 : Int32))) → F1 20 = .inl (.int ((10 : Int32))) → F1 21 = .inl (.int ((6 : Int32))) → F1 22 = .inl (.int ((0 : Int32))) → F1 23 = .inl (.int ((12 : Int32))) → F1 31 = .inr (.inl (jm_upd (jm_upd (jm_upd (jm_upd (jm_upd (jm_upd (sy_ai F 31) ((0 : Int32)).toNatClampNeg ((0 : Int32))) ((1 : Int32)).toNatClampNeg ((2 : Int32))) ((2 : Int32)).toNatClampNeg ((4 : Int32))) ((3 : Int32)).toNatClampNeg ((6 : Int32))) ((4 : Int32)).toNatClampNeg ((8 : Int32))) ((5 : Int32)).toNatClampNeg ((10 : Int32)))) → F1 32 = .inr (.inl (jm_upd (jm_upd (jm_upd (jm_upd (jm_upd (jm_upd (jm_upd (jm_upd (jm_upd (jm_upd (jm_upd (jm_upd (sy_ai F 32) ((0 : Int32)).toNatClampNeg ((0 : Int32))) ((1 : Int32)).toNatClampNeg (((-14) : Int32))) ((2 : Int32)).toNatClampNeg ((1 : Int32))) ((3 : Int32)).toNatClampNeg (((-14) : Int32))) ((4 : Int32)).toNatClampNeg (((-1) : Int32))) ((5 : Int32)).toNatClampNeg (((-14) : Int32))) ((6 : Int32)).toNatClampNeg (((-1) : Int32))) ((7 : Int32)).toNatClampNeg (((-14) : Int32))) ((8 : Int32)).toNatClampNeg ((0 : Int32))) ((9 : Int32)).toNatClampNeg (((-14) : Int32))) ((10 : Int32)).toNatClampNeg ((0 : Int32))) ((11 : Int32)).toNatClampNeg (((-14) : Int32)))) → F1 33 = .inl (.int ((0 : Int32))) → F1 34 = .inl (.int ((0 : Int32))) → F1 36 = .inl (.int ((0 : Int32))) → F1 37 = .inl (.int (((-1) : Int32))) → F1 38 = .inl (.int ((0 : Int32))) → F1 82 = .inl (.int ((1 : Int32))) → F1 83 = .inl (.int ((0 : Int32))) → hd_W Ls xs d jm_M31 Q (52, sy_dL F1 [some (.inl (.ref 30)), none, none, none, some (.inr (.inl 82)), some (.inr (.inl 83)), none], sy_dS F1 [], sy_dh F1 X1 X2 (iv_H 0), 0, 0)) :
    hd_W Ls xs d jm_M31 Q (9, sy_dL F [some (.inl (.ref 30)), none, none, some (.inl (.ref 20)), none, none, none], sy_dS F [], sy_dh F X1 X2 (iv_H 1), 0, 0) := by
  refine hd_run (s := 0) (nv := 82) (pc := 52) (L := [some (.inl (.ref 30)), none, none, none, some (.inr (.inl 82)), some (.inr (.inl 83)), none]) (S := []) (uh := hd_ov (iv_id 0 iv_B0) [(18, .inl (.inl (.int 0))), (19, .inl (.inl (.int 0))), (20, .inl (.inl (.int 10))), (21, .inl (.inl (.int 6))), (22, .inl (.inl (.int 0))), (23, .inl (.inl (.int 12))), (31, .inr (.inr (.inl 97))), (32, .inr (.inr (.inl 99))), (33, .inl (.inl (.int 0))), (34, .inl (.inl (.int 0))), (36, .inl (.inl (.int 0))), (37, .inl (.inl (.int (-1)))), (38, .inl (.inl (.int 0)))]) (ul := [.inl (.inl (.int 1)), .inl (.inl (.int 0))]) (f := false) (sp := [52]) (d0 := 6) (O := []) (T := [(40, [.inl (.int 0), .inl (.int 0)], [.inr (.inl 31)]), (40, [.inl (.int 0), .inl (.int 0)], [.inr (.inl 32)]), (40, [.inl (.int 1), .inl (.int (-14))], [.inr (.inl 83)]), (40, [.inl (.int 1), .inl (.int 2)], [.inr (.inl 82)]), (40, [.inl (.int 2), .inl (.int 1)], [.inr (.inl 84)]), (40, [.inl (.int 3), .inl (.int (-14))], [.inr (.inl 86)]), (40, [.inl (.int 2), .inl (.int 4)], [.inr (.inl 85)]), (40, [.inl (.int 4), .inl (.int (-1))], [.inr (.inl 87)]), (40, [.inl (.int 5), .inl (.int (-14))], [.inr (.inl 89)]), (40, [.inl (.int 3), .inl (.int 6)], [.inr (.inl 88)]), (40, [.inl (.int 6), .inl (.int (-1))], [.inr (.inl 90)]), (40, [.inl (.int 7), .inl (.int (-14))], [.inr (.inl 92)]), (40, [.inl (.int 4), .inl (.int 8)], [.inr (.inl 91)]), (40, [.inl (.int 8), .inl (.int 0)], [.inr (.inl 93)]), (40, [.inl (.int 9), .inl (.int (-14))], [.inr (.inl 95)]), (40, [.inl (.int 5), .inl (.int 10)], [.inr (.inl 94)]), (40, [.inl (.int 10), .inl (.int 0)], [.inr (.inl 96)]), (40, [.inl (.int 11), .inl (.int (-14))], [.inr (.inl 98)])]) (P := []) jm_ok31 (by decide +kernel) (by decide +kernel) hd F X1 X2 (fun F' hF hs => ?_)
  have a31 := hd_ba (F := F) (F' := F') (k := 31) (hF 31 (by decide))
  have t82 : sy_da F' (.inr (.inl 82)) = .inl (jm_upd (sy_ai F 31) ((0 : Int32)).toNatClampNeg ((0 : Int32))) := hd_up (hs 0 _ rfl) rfl rfl a31
  have t85 : sy_da F' (.inr (.inl 85)) = .inl (jm_upd (jm_upd (sy_ai F 31) ((0 : Int32)).toNatClampNeg ((0 : Int32))) ((1 : Int32)).toNatClampNeg ((2 : Int32))) := hd_up (hs 3 _ rfl) rfl rfl t82
  have t88 : sy_da F' (.inr (.inl 88)) = .inl (jm_upd (jm_upd (jm_upd (sy_ai F 31) ((0 : Int32)).toNatClampNeg ((0 : Int32))) ((1 : Int32)).toNatClampNeg ((2 : Int32))) ((2 : Int32)).toNatClampNeg ((4 : Int32))) := hd_up (hs 6 _ rfl) rfl rfl t85
  have t91 : sy_da F' (.inr (.inl 91)) = .inl (jm_upd (jm_upd (jm_upd (jm_upd (sy_ai F 31) ((0 : Int32)).toNatClampNeg ((0 : Int32))) ((1 : Int32)).toNatClampNeg ((2 : Int32))) ((2 : Int32)).toNatClampNeg ((4 : Int32))) ((3 : Int32)).toNatClampNeg ((6 : Int32))) := hd_up (hs 9 _ rfl) rfl rfl t88
  have t94 : sy_da F' (.inr (.inl 94)) = .inl (jm_upd (jm_upd (jm_upd (jm_upd (jm_upd (sy_ai F 31) ((0 : Int32)).toNatClampNeg ((0 : Int32))) ((1 : Int32)).toNatClampNeg ((2 : Int32))) ((2 : Int32)).toNatClampNeg ((4 : Int32))) ((3 : Int32)).toNatClampNeg ((6 : Int32))) ((4 : Int32)).toNatClampNeg ((8 : Int32))) := hd_up (hs 12 _ rfl) rfl rfl t91
  have t97 : sy_da F' (.inr (.inl 97)) = .inl (jm_upd (jm_upd (jm_upd (jm_upd (jm_upd (jm_upd (sy_ai F 31) ((0 : Int32)).toNatClampNeg ((0 : Int32))) ((1 : Int32)).toNatClampNeg ((2 : Int32))) ((2 : Int32)).toNatClampNeg ((4 : Int32))) ((3 : Int32)).toNatClampNeg ((6 : Int32))) ((4 : Int32)).toNatClampNeg ((8 : Int32))) ((5 : Int32)).toNatClampNeg ((10 : Int32))) := hd_up (hs 15 _ rfl) rfl rfl t94
  have a32 := hd_ba (F := F) (F' := F') (k := 32) (hF 32 (by decide))
  have t83 : sy_da F' (.inr (.inl 83)) = .inl (jm_upd (sy_ai F 32) ((0 : Int32)).toNatClampNeg ((0 : Int32))) := hd_up (hs 1 _ rfl) rfl rfl a32
  have t84 : sy_da F' (.inr (.inl 84)) = .inl (jm_upd (jm_upd (sy_ai F 32) ((0 : Int32)).toNatClampNeg ((0 : Int32))) ((1 : Int32)).toNatClampNeg (((-14) : Int32))) := hd_up (hs 2 _ rfl) rfl rfl t83
  have t86 : sy_da F' (.inr (.inl 86)) = .inl (jm_upd (jm_upd (jm_upd (sy_ai F 32) ((0 : Int32)).toNatClampNeg ((0 : Int32))) ((1 : Int32)).toNatClampNeg (((-14) : Int32))) ((2 : Int32)).toNatClampNeg ((1 : Int32))) := hd_up (hs 4 _ rfl) rfl rfl t84
  have t87 : sy_da F' (.inr (.inl 87)) = .inl (jm_upd (jm_upd (jm_upd (jm_upd (sy_ai F 32) ((0 : Int32)).toNatClampNeg ((0 : Int32))) ((1 : Int32)).toNatClampNeg (((-14) : Int32))) ((2 : Int32)).toNatClampNeg ((1 : Int32))) ((3 : Int32)).toNatClampNeg (((-14) : Int32))) := hd_up (hs 5 _ rfl) rfl rfl t86
  have t89 : sy_da F' (.inr (.inl 89)) = .inl (jm_upd (jm_upd (jm_upd (jm_upd (jm_upd (sy_ai F 32) ((0 : Int32)).toNatClampNeg ((0 : Int32))) ((1 : Int32)).toNatClampNeg (((-14) : Int32))) ((2 : Int32)).toNatClampNeg ((1 : Int32))) ((3 : Int32)).toNatClampNeg (((-14) : Int32))) ((4 : Int32)).toNatClampNeg (((-1) : Int32))) := hd_up (hs 7 _ rfl) rfl rfl t87
  have t90 : sy_da F' (.inr (.inl 90)) = .inl (jm_upd (jm_upd (jm_upd (jm_upd (jm_upd (jm_upd (sy_ai F 32) ((0 : Int32)).toNatClampNeg ((0 : Int32))) ((1 : Int32)).toNatClampNeg (((-14) : Int32))) ((2 : Int32)).toNatClampNeg ((1 : Int32))) ((3 : Int32)).toNatClampNeg (((-14) : Int32))) ((4 : Int32)).toNatClampNeg (((-1) : Int32))) ((5 : Int32)).toNatClampNeg (((-14) : Int32))) := hd_up (hs 8 _ rfl) rfl rfl t89
  have t92 : sy_da F' (.inr (.inl 92)) = .inl (jm_upd (jm_upd (jm_upd (jm_upd (jm_upd (jm_upd (jm_upd (sy_ai F 32) ((0 : Int32)).toNatClampNeg ((0 : Int32))) ((1 : Int32)).toNatClampNeg (((-14) : Int32))) ((2 : Int32)).toNatClampNeg ((1 : Int32))) ((3 : Int32)).toNatClampNeg (((-14) : Int32))) ((4 : Int32)).toNatClampNeg (((-1) : Int32))) ((5 : Int32)).toNatClampNeg (((-14) : Int32))) ((6 : Int32)).toNatClampNeg (((-1) : Int32))) := hd_up (hs 10 _ rfl) rfl rfl t90
  have t93 : sy_da F' (.inr (.inl 93)) = .inl (jm_upd (jm_upd (jm_upd (jm_upd (jm_upd (jm_upd (jm_upd (jm_upd (sy_ai F 32) ((0 : Int32)).toNatClampNeg ((0 : Int32))) ((1 : Int32)).toNatClampNeg (((-14) : Int32))) ((2 : Int32)).toNatClampNeg ((1 : Int32))) ((3 : Int32)).toNatClampNeg (((-14) : Int32))) ((4 : Int32)).toNatClampNeg (((-1) : Int32))) ((5 : Int32)).toNatClampNeg (((-14) : Int32))) ((6 : Int32)).toNatClampNeg (((-1) : Int32))) ((7 : Int32)).toNatClampNeg (((-14) : Int32))) := hd_up (hs 11 _ rfl) rfl rfl t92
  have t95 : sy_da F' (.inr (.inl 95)) = .inl (jm_upd (jm_upd (jm_upd (jm_upd (jm_upd (jm_upd (jm_upd (jm_upd (jm_upd (sy_ai F 32) ((0 : Int32)).toNatClampNeg ((0 : Int32))) ((1 : Int32)).toNatClampNeg (((-14) : Int32))) ((2 : Int32)).toNatClampNeg ((1 : Int32))) ((3 : Int32)).toNatClampNeg (((-14) : Int32))) ((4 : Int32)).toNatClampNeg (((-1) : Int32))) ((5 : Int32)).toNatClampNeg (((-14) : Int32))) ((6 : Int32)).toNatClampNeg (((-1) : Int32))) ((7 : Int32)).toNatClampNeg (((-14) : Int32))) ((8 : Int32)).toNatClampNeg ((0 : Int32))) := hd_up (hs 13 _ rfl) rfl rfl t93
  have t96 : sy_da F' (.inr (.inl 96)) = .inl (jm_upd (jm_upd (jm_upd (jm_upd (jm_upd (jm_upd (jm_upd (jm_upd (jm_upd (jm_upd (sy_ai F 32) ((0 : Int32)).toNatClampNeg ((0 : Int32))) ((1 : Int32)).toNatClampNeg (((-14) : Int32))) ((2 : Int32)).toNatClampNeg ((1 : Int32))) ((3 : Int32)).toNatClampNeg (((-14) : Int32))) ((4 : Int32)).toNatClampNeg (((-1) : Int32))) ((5 : Int32)).toNatClampNeg (((-14) : Int32))) ((6 : Int32)).toNatClampNeg (((-1) : Int32))) ((7 : Int32)).toNatClampNeg (((-14) : Int32))) ((8 : Int32)).toNatClampNeg ((0 : Int32))) ((9 : Int32)).toNatClampNeg (((-14) : Int32))) := hd_up (hs 14 _ rfl) rfl rfl t95
  have t98 : sy_da F' (.inr (.inl 98)) = .inl (jm_upd (jm_upd (jm_upd (jm_upd (jm_upd (jm_upd (jm_upd (jm_upd (jm_upd (jm_upd (jm_upd (sy_ai F 32) ((0 : Int32)).toNatClampNeg ((0 : Int32))) ((1 : Int32)).toNatClampNeg (((-14) : Int32))) ((2 : Int32)).toNatClampNeg ((1 : Int32))) ((3 : Int32)).toNatClampNeg (((-14) : Int32))) ((4 : Int32)).toNatClampNeg (((-1) : Int32))) ((5 : Int32)).toNatClampNeg (((-14) : Int32))) ((6 : Int32)).toNatClampNeg (((-1) : Int32))) ((7 : Int32)).toNatClampNeg (((-14) : Int32))) ((8 : Int32)).toNatClampNeg ((0 : Int32))) ((9 : Int32)).toNatClampNeg (((-14) : Int32))) ((10 : Int32)).toNatClampNeg ((0 : Int32))) := hd_up (hs 16 _ rfl) rfl rfl t96
  have t99 : sy_da F' (.inr (.inl 99)) = .inl (jm_upd (jm_upd (jm_upd (jm_upd (jm_upd (jm_upd (jm_upd (jm_upd (jm_upd (jm_upd (jm_upd (jm_upd (sy_ai F 32) ((0 : Int32)).toNatClampNeg ((0 : Int32))) ((1 : Int32)).toNatClampNeg (((-14) : Int32))) ((2 : Int32)).toNatClampNeg ((1 : Int32))) ((3 : Int32)).toNatClampNeg (((-14) : Int32))) ((4 : Int32)).toNatClampNeg (((-1) : Int32))) ((5 : Int32)).toNatClampNeg (((-14) : Int32))) ((6 : Int32)).toNatClampNeg (((-1) : Int32))) ((7 : Int32)).toNatClampNeg (((-14) : Int32))) ((8 : Int32)).toNatClampNeg ((0 : Int32))) ((9 : Int32)).toNatClampNeg (((-14) : Int32))) ((10 : Int32)).toNatClampNeg ((0 : Int32))) ((11 : Int32)).toNatClampNeg (((-14) : Int32))) := hd_up (hs 17 _ rfl) rfl rfl t98
  have hB' : iv_in F' iv_B0 := iv_in_eq hB (fun j hj => hF j (Nat.lt_of_lt_of_le hj (by decide +kernel)))
  refine ⟨fun _ h => absurd h List.not_mem_nil, ?_⟩
  refine k _ ?_ ?_ ?_ ?_ ?_ ?_ ?_ ?_ ?_ ?_ ?_ ?_ ?_ ?_ ?_ ?_
  · exact fun j hj hn => (hd_keep hB' (Nat.lt_of_lt_of_le hj (by decide +kernel)) (by simp; omega)).trans (hF j (Nat.lt_of_lt_of_le hj (by decide)))
  · exact hd_gi (x := .inl (.int 0)) (by decide +kernel) rfl
  · exact hd_gi (x := .inl (.int 0)) (by decide +kernel) rfl
  · exact hd_gi (x := .inl (.int 10)) (by decide +kernel) rfl
  · exact hd_gi (x := .inl (.int 6)) (by decide +kernel) rfl
  · exact hd_gi (x := .inl (.int 0)) (by decide +kernel) rfl
  · exact hd_gi (x := .inl (.int 12)) (by decide +kernel) rfl
  · exact hd_ga (a := .inr (.inl 97)) (by decide +kernel) t97
  · exact hd_ga (a := .inr (.inl 99)) (by decide +kernel) t99
  · exact hd_gi (x := .inl (.int 0)) (by decide +kernel) rfl
  · exact hd_gi (x := .inl (.int 0)) (by decide +kernel) rfl
  · exact hd_gi (x := .inl (.int 0)) (by decide +kernel) rfl
  · exact hd_gi (x := .inl (.int (-1))) (by decide +kernel) rfl
  · exact hd_gi (x := .inl (.int 0)) (by decide +kernel) rfl
  · exact hd_gi (x := .inl (.int 1)) (by decide +kernel) rfl
  · exact hd_gi (x := .inl (.int 0)) (by decide +kernel) rfl
/-! ===== the class parses a text: what comes first (shape 2) ===== -/
theorem k2py_0_p0 {Ls : Nat} {xs : Nat → Int32} {d : Nat} {Q : Option Value → jm_h → Prop} (hd : 7 ≤ d) (F : Nat → sy_d) (X1 X2 : List jm_c) (hB : iv_in F iv_B0)
    (k : ∀ F1 : Nat → sy_d, (∀ j, j < 82 → True → F1 j = F j) → F1 82 = .inl (.int (sy_i F 82)) → hd_W Ls xs d jm_M31 Q (6, sy_dL F1 [some (.inl (.ref 30)), none, none, some (.inl (.ref 10)), none, none, none], sy_dS F1 [.inr (.inl 82), .inl (.ref 9), .inl (.ref 31)], sy_dh F1 X1 X2 (iv_H 2), 0, 0)) :
    hd_W Ls xs d jm_M31 Q (0, sy_dL F [some (.inl (.ref 30)), some (.inl (.ref 9)), some (.inr (.inl 82)), some (.inl (.ref 10)), none, none, none], sy_dS F [], sy_dh F X1 X2 (iv_H 2), 0, 0) := by
  refine hd_run (s := 2) (nv := 83) (pc := 6) (L := [some (.inl (.ref 30)), none, none, some (.inl (.ref 10)), none, none, none]) (S := [.inr (.inl 82), .inl (.ref 9), .inl (.ref 31)]) (uh := hd_ov (iv_id 0 iv_B0) []) (ul := [.inl (.inr (.inl 82))]) (f := true) (sp := [6]) (d0 := 6) (O := []) (T := []) (P := []) jm_ok31 (by decide +kernel) (by decide +kernel) hd F X1 X2 (fun F' hF hs => ?_)
  have b82 := hd_b (F := F) (F' := F') (k := 82) (hF 82 (by decide))
  have hB' : iv_in F' iv_B0 := iv_in_eq hB (fun j hj => hF j (Nat.lt_of_lt_of_le hj (by decide +kernel)))
  refine ⟨fun _ h => absurd h List.not_mem_nil, ?_⟩
  refine k _ ?_ ?_
  · exact fun j hj _ => (hd_keep hB' (Nat.lt_of_lt_of_le hj (by decide +kernel)) (by simp)).trans (hF j (Nat.lt_of_lt_of_le hj (by decide)))
  · exact hd_gi (x := .inr (.inl 82)) (by decide +kernel) b82
theorem k2py_0 {Ls : Nat} {xs : Nat → Int32} {d : Nat} {Q : Option Value → jm_h → Prop} (hd : 7 ≤ d) (F : Nat → sy_d) (X1 X2 : List jm_c) (hB : iv_in F iv_B0)
    (k0 : ∀ F1 : Nat → sy_d, iv_in F1 iv_B0 → (∀ j, j < 82 → j ∉ ([] : List Nat) → F1 j = F j) → (sy_i F1 33).toInt = (sy_i F 33).toInt → (sy_i F1 34).toInt = (sy_i F 34).toInt → (sy_i F1 36).toInt = (sy_i F 36).toInt → (sy_i F1 37).toInt = (sy_i F 37).toInt → (sy_i F1 38).toInt = (sy_i F 38).toInt → (sy_i F1 3).toInt = (sy_i F 3).toInt → (sy_i F1 4).toInt = (sy_i F 4).toInt → (sy_i F1 82).toInt = (sy_i F 82).toInt → hd_W Ls xs d jm_M31 Q (6, sy_dL F1 [some (.inl (.ref 30)), none, none, some (.inl (.ref 10)), none, none, none], sy_dS F1 [.inr (.inl 82), .inl (.ref 9), .inl (.ref 31)], sy_dh F1 X1 X2 (iv_H 2), 0, 0)) :
    hd_W Ls xs d jm_M31 Q (0, sy_dL F [some (.inl (.ref 30)), some (.inl (.ref 9)), some (.inr (.inl 82)), some (.inl (.ref 10)), none, none, none], sy_dS F [], sy_dh F X1 X2 (iv_H 2), 0, 0) := by
  exact k2py_0_p0 hd F X1 X2 hB  (fun F1 g e82 => k0 F1 (nz_in0 hB [] (fun j hj hn => g j hj (by simp only [List.mem_cons, List.not_mem_nil, or_false, not_or] at hn; exact trivial)) (List.forall_mem_nil _)) (fun j hj hn => g j hj (by simp only [List.mem_cons, List.not_mem_nil, or_false, not_or] at hn; exact trivial)) (nz_fi (g 33 (by decide) (by decide))) (nz_fi (g 34 (by decide) (by decide))) (nz_fi (g 36 (by decide) (by decide))) (nz_fi (g 37 (by decide) (by decide))) (nz_fi (g 38 (by decide) (by decide))) (nz_fi (g 3 (by decide) (by decide))) (nz_fi (g 4 (by decide) (by decide))) ((congrArg Int32.toInt (zz_i e82)).trans (rfl : (sy_i F 82).toInt = (sy_i F 82).toInt)))
theorem k2py_9_p0 {Ls : Nat} {xs : Nat → Int32} {d : Nat} {Q : Option Value → jm_h → Prop} (hd : 7 ≤ d) (F : Nat → sy_d) (X1 X2 : List jm_c) (hB : iv_in F iv_B0)
    (k : ∀ F1 : Nat → sy_d, (∀ j, j < 82 → j ≠ 3 ∧ j ≠ 4 ∧ j ≠ 5 ∧ j ≠ 6 ∧ j ≠ 7 ∧ j ≠ 8 ∧ j ≠ 16 ∧ j ≠ 17 ∧ j ≠ 33 ∧ j ≠ 34 ∧ j ≠ 36 ∧ j ≠ 37 ∧ j ≠ 38 → F1 j = F j) → F1 3 = .inl (.int ((0 : Int32))) → F1 4 = .inl (.int ((0 : Int32))) → F1 5 = .inl (.int ((10 : Int32))) → F1 6 = .inl (.int ((6 : Int32))) → F1 7 = .inl (.int ((0 : Int32))) → F1 8 = .inl (.int ((12 : Int32))) → F1 16 = .inr (.inl (jm_upd (jm_upd (jm_upd (jm_upd (jm_upd (jm_upd (sy_ai F 16) ((0 : Int32)).toNatClampNeg ((0 : Int32))) ((1 : Int32)).toNatClampNeg ((2 : Int32))) ((2 : Int32)).toNatClampNeg ((4 : Int32))) ((3 : Int32)).toNatClampNeg ((6 : Int32))) ((4 : Int32)).toNatClampNeg ((8 : Int32))) ((5 : Int32)).toNatClampNeg ((10 : Int32)))) → F1 17 = .inr (.inl (jm_upd (jm_upd (jm_upd (jm_upd (jm_upd (jm_upd (jm_upd (jm_upd (jm_upd (jm_upd (jm_upd (jm_upd (sy_ai F 17) ((0 : Int32)).toNatClampNeg ((0 : Int32))) ((1 : Int32)).toNatClampNeg (((-14) : Int32))) ((2 : Int32)).toNatClampNeg ((1 : Int32))) ((3 : Int32)).toNatClampNeg (((-14) : Int32))) ((4 : Int32)).toNatClampNeg (((-1) : Int32))) ((5 : Int32)).toNatClampNeg (((-14) : Int32))) ((6 : Int32)).toNatClampNeg (((-1) : Int32))) ((7 : Int32)).toNatClampNeg (((-14) : Int32))) ((8 : Int32)).toNatClampNeg ((0 : Int32))) ((9 : Int32)).toNatClampNeg (((-14) : Int32))) ((10 : Int32)).toNatClampNeg ((0 : Int32))) ((11 : Int32)).toNatClampNeg (((-14) : Int32)))) → F1 33 = .inl (.int ((0 : Int32))) → F1 34 = .inl (.int ((0 : Int32))) → F1 36 = .inl (.int ((0 : Int32))) → F1 37 = .inl (.int (((-1) : Int32))) → F1 38 = .inl (.int ((0 : Int32))) → F1 82 = .inl (.int ((1 : Int32))) → F1 83 = .inl (.int ((0 : Int32))) → hd_W Ls xs d jm_M31 Q (52, sy_dL F1 [some (.inl (.ref 30)), none, none, none, some (.inr (.inl 82)), some (.inr (.inl 83)), none], sy_dS F1 [], sy_dh F1 X1 X2 (iv_H 3), 0, 0)) :
    hd_W Ls xs d jm_M31 Q (9, sy_dL F [some (.inl (.ref 30)), none, none, some (.inl (.ref 10)), none, none, none], sy_dS F [], sy_dh F X1 X2 (iv_H 2), 0, 0) := by
  refine hd_run (s := 3) (nv := 82) (pc := 52) (L := [some (.inl (.ref 30)), none, none, none, some (.inr (.inl 82)), some (.inr (.inl 83)), none]) (S := []) (uh := hd_ov (iv_id 0 iv_B0) [(3, .inl (.inl (.int 0))), (4, .inl (.inl (.int 0))), (5, .inl (.inl (.int 10))), (6, .inl (.inl (.int 6))), (7, .inl (.inl (.int 0))), (8, .inl (.inl (.int 12))), (16, .inr (.inr (.inl 97))), (17, .inr (.inr (.inl 99))), (33, .inl (.inl (.int 0))), (34, .inl (.inl (.int 0))), (36, .inl (.inl (.int 0))), (37, .inl (.inl (.int (-1)))), (38, .inl (.inl (.int 0)))]) (ul := [.inl (.inl (.int 1)), .inl (.inl (.int 0))]) (f := false) (sp := [52]) (d0 := 6) (O := []) (T := [(40, [.inl (.int 0), .inl (.int 0)], [.inr (.inl 16)]), (40, [.inl (.int 0), .inl (.int 0)], [.inr (.inl 17)]), (40, [.inl (.int 1), .inl (.int (-14))], [.inr (.inl 83)]), (40, [.inl (.int 1), .inl (.int 2)], [.inr (.inl 82)]), (40, [.inl (.int 2), .inl (.int 1)], [.inr (.inl 84)]), (40, [.inl (.int 3), .inl (.int (-14))], [.inr (.inl 86)]), (40, [.inl (.int 2), .inl (.int 4)], [.inr (.inl 85)]), (40, [.inl (.int 4), .inl (.int (-1))], [.inr (.inl 87)]), (40, [.inl (.int 5), .inl (.int (-14))], [.inr (.inl 89)]), (40, [.inl (.int 3), .inl (.int 6)], [.inr (.inl 88)]), (40, [.inl (.int 6), .inl (.int (-1))], [.inr (.inl 90)]), (40, [.inl (.int 7), .inl (.int (-14))], [.inr (.inl 92)]), (40, [.inl (.int 4), .inl (.int 8)], [.inr (.inl 91)]), (40, [.inl (.int 8), .inl (.int 0)], [.inr (.inl 93)]), (40, [.inl (.int 9), .inl (.int (-14))], [.inr (.inl 95)]), (40, [.inl (.int 5), .inl (.int 10)], [.inr (.inl 94)]), (40, [.inl (.int 10), .inl (.int 0)], [.inr (.inl 96)]), (40, [.inl (.int 11), .inl (.int (-14))], [.inr (.inl 98)])]) (P := []) jm_ok31 (by decide +kernel) (by decide +kernel) hd F X1 X2 (fun F' hF hs => ?_)
  have a16 := hd_ba (F := F) (F' := F') (k := 16) (hF 16 (by decide))
  have t82 : sy_da F' (.inr (.inl 82)) = .inl (jm_upd (sy_ai F 16) ((0 : Int32)).toNatClampNeg ((0 : Int32))) := hd_up (hs 0 _ rfl) rfl rfl a16
  have t85 : sy_da F' (.inr (.inl 85)) = .inl (jm_upd (jm_upd (sy_ai F 16) ((0 : Int32)).toNatClampNeg ((0 : Int32))) ((1 : Int32)).toNatClampNeg ((2 : Int32))) := hd_up (hs 3 _ rfl) rfl rfl t82
  have t88 : sy_da F' (.inr (.inl 88)) = .inl (jm_upd (jm_upd (jm_upd (sy_ai F 16) ((0 : Int32)).toNatClampNeg ((0 : Int32))) ((1 : Int32)).toNatClampNeg ((2 : Int32))) ((2 : Int32)).toNatClampNeg ((4 : Int32))) := hd_up (hs 6 _ rfl) rfl rfl t85
  have t91 : sy_da F' (.inr (.inl 91)) = .inl (jm_upd (jm_upd (jm_upd (jm_upd (sy_ai F 16) ((0 : Int32)).toNatClampNeg ((0 : Int32))) ((1 : Int32)).toNatClampNeg ((2 : Int32))) ((2 : Int32)).toNatClampNeg ((4 : Int32))) ((3 : Int32)).toNatClampNeg ((6 : Int32))) := hd_up (hs 9 _ rfl) rfl rfl t88
  have t94 : sy_da F' (.inr (.inl 94)) = .inl (jm_upd (jm_upd (jm_upd (jm_upd (jm_upd (sy_ai F 16) ((0 : Int32)).toNatClampNeg ((0 : Int32))) ((1 : Int32)).toNatClampNeg ((2 : Int32))) ((2 : Int32)).toNatClampNeg ((4 : Int32))) ((3 : Int32)).toNatClampNeg ((6 : Int32))) ((4 : Int32)).toNatClampNeg ((8 : Int32))) := hd_up (hs 12 _ rfl) rfl rfl t91
  have t97 : sy_da F' (.inr (.inl 97)) = .inl (jm_upd (jm_upd (jm_upd (jm_upd (jm_upd (jm_upd (sy_ai F 16) ((0 : Int32)).toNatClampNeg ((0 : Int32))) ((1 : Int32)).toNatClampNeg ((2 : Int32))) ((2 : Int32)).toNatClampNeg ((4 : Int32))) ((3 : Int32)).toNatClampNeg ((6 : Int32))) ((4 : Int32)).toNatClampNeg ((8 : Int32))) ((5 : Int32)).toNatClampNeg ((10 : Int32))) := hd_up (hs 15 _ rfl) rfl rfl t94
  have a17 := hd_ba (F := F) (F' := F') (k := 17) (hF 17 (by decide))
  have t83 : sy_da F' (.inr (.inl 83)) = .inl (jm_upd (sy_ai F 17) ((0 : Int32)).toNatClampNeg ((0 : Int32))) := hd_up (hs 1 _ rfl) rfl rfl a17
  have t84 : sy_da F' (.inr (.inl 84)) = .inl (jm_upd (jm_upd (sy_ai F 17) ((0 : Int32)).toNatClampNeg ((0 : Int32))) ((1 : Int32)).toNatClampNeg (((-14) : Int32))) := hd_up (hs 2 _ rfl) rfl rfl t83
  have t86 : sy_da F' (.inr (.inl 86)) = .inl (jm_upd (jm_upd (jm_upd (sy_ai F 17) ((0 : Int32)).toNatClampNeg ((0 : Int32))) ((1 : Int32)).toNatClampNeg (((-14) : Int32))) ((2 : Int32)).toNatClampNeg ((1 : Int32))) := hd_up (hs 4 _ rfl) rfl rfl t84
  have t87 : sy_da F' (.inr (.inl 87)) = .inl (jm_upd (jm_upd (jm_upd (jm_upd (sy_ai F 17) ((0 : Int32)).toNatClampNeg ((0 : Int32))) ((1 : Int32)).toNatClampNeg (((-14) : Int32))) ((2 : Int32)).toNatClampNeg ((1 : Int32))) ((3 : Int32)).toNatClampNeg (((-14) : Int32))) := hd_up (hs 5 _ rfl) rfl rfl t86
  have t89 : sy_da F' (.inr (.inl 89)) = .inl (jm_upd (jm_upd (jm_upd (jm_upd (jm_upd (sy_ai F 17) ((0 : Int32)).toNatClampNeg ((0 : Int32))) ((1 : Int32)).toNatClampNeg (((-14) : Int32))) ((2 : Int32)).toNatClampNeg ((1 : Int32))) ((3 : Int32)).toNatClampNeg (((-14) : Int32))) ((4 : Int32)).toNatClampNeg (((-1) : Int32))) := hd_up (hs 7 _ rfl) rfl rfl t87
  have t90 : sy_da F' (.inr (.inl 90)) = .inl (jm_upd (jm_upd (jm_upd (jm_upd (jm_upd (jm_upd (sy_ai F 17) ((0 : Int32)).toNatClampNeg ((0 : Int32))) ((1 : Int32)).toNatClampNeg (((-14) : Int32))) ((2 : Int32)).toNatClampNeg ((1 : Int32))) ((3 : Int32)).toNatClampNeg (((-14) : Int32))) ((4 : Int32)).toNatClampNeg (((-1) : Int32))) ((5 : Int32)).toNatClampNeg (((-14) : Int32))) := hd_up (hs 8 _ rfl) rfl rfl t89
  have t92 : sy_da F' (.inr (.inl 92)) = .inl (jm_upd (jm_upd (jm_upd (jm_upd (jm_upd (jm_upd (jm_upd (sy_ai F 17) ((0 : Int32)).toNatClampNeg ((0 : Int32))) ((1 : Int32)).toNatClampNeg (((-14) : Int32))) ((2 : Int32)).toNatClampNeg ((1 : Int32))) ((3 : Int32)).toNatClampNeg (((-14) : Int32))) ((4 : Int32)).toNatClampNeg (((-1) : Int32))) ((5 : Int32)).toNatClampNeg (((-14) : Int32))) ((6 : Int32)).toNatClampNeg (((-1) : Int32))) := hd_up (hs 10 _ rfl) rfl rfl t90
  have t93 : sy_da F' (.inr (.inl 93)) = .inl (jm_upd (jm_upd (jm_upd (jm_upd (jm_upd (jm_upd (jm_upd (jm_upd (sy_ai F 17) ((0 : Int32)).toNatClampNeg ((0 : Int32))) ((1 : Int32)).toNatClampNeg (((-14) : Int32))) ((2 : Int32)).toNatClampNeg ((1 : Int32))) ((3 : Int32)).toNatClampNeg (((-14) : Int32))) ((4 : Int32)).toNatClampNeg (((-1) : Int32))) ((5 : Int32)).toNatClampNeg (((-14) : Int32))) ((6 : Int32)).toNatClampNeg (((-1) : Int32))) ((7 : Int32)).toNatClampNeg (((-14) : Int32))) := hd_up (hs 11 _ rfl) rfl rfl t92
  have t95 : sy_da F' (.inr (.inl 95)) = .inl (jm_upd (jm_upd (jm_upd (jm_upd (jm_upd (jm_upd (jm_upd (jm_upd (jm_upd (sy_ai F 17) ((0 : Int32)).toNatClampNeg ((0 : Int32))) ((1 : Int32)).toNatClampNeg (((-14) : Int32))) ((2 : Int32)).toNatClampNeg ((1 : Int32))) ((3 : Int32)).toNatClampNeg (((-14) : Int32))) ((4 : Int32)).toNatClampNeg (((-1) : Int32))) ((5 : Int32)).toNatClampNeg (((-14) : Int32))) ((6 : Int32)).toNatClampNeg (((-1) : Int32))) ((7 : Int32)).toNatClampNeg (((-14) : Int32))) ((8 : Int32)).toNatClampNeg ((0 : Int32))) := hd_up (hs 13 _ rfl) rfl rfl t93
  have t96 : sy_da F' (.inr (.inl 96)) = .inl (jm_upd (jm_upd (jm_upd (jm_upd (jm_upd (jm_upd (jm_upd (jm_upd (jm_upd (jm_upd (sy_ai F 17) ((0 : Int32)).toNatClampNeg ((0 : Int32))) ((1 : Int32)).toNatClampNeg (((-14) : Int32))) ((2 : Int32)).toNatClampNeg ((1 : Int32))) ((3 : Int32)).toNatClampNeg (((-14) : Int32))) ((4 : Int32)).toNatClampNeg (((-1) : Int32))) ((5 : Int32)).toNatClampNeg (((-14) : Int32))) ((6 : Int32)).toNatClampNeg (((-1) : Int32))) ((7 : Int32)).toNatClampNeg (((-14) : Int32))) ((8 : Int32)).toNatClampNeg ((0 : Int32))) ((9 : Int32)).toNatClampNeg (((-14) : Int32))) := hd_up (hs 14 _ rfl) rfl rfl t95
  have t98 : sy_da F' (.inr (.inl 98)) = .inl (jm_upd (jm_upd (jm_upd (jm_upd (jm_upd (jm_upd (jm_upd (jm_upd (jm_upd (jm_upd (jm_upd (sy_ai F 17) ((0 : Int32)).toNatClampNeg ((0 : Int32))) ((1 : Int32)).toNatClampNeg (((-14) : Int32))) ((2 : Int32)).toNatClampNeg ((1 : Int32))) ((3 : Int32)).toNatClampNeg (((-14) : Int32))) ((4 : Int32)).toNatClampNeg (((-1) : Int32))) ((5 : Int32)).toNatClampNeg (((-14) : Int32))) ((6 : Int32)).toNatClampNeg (((-1) : Int32))) ((7 : Int32)).toNatClampNeg (((-14) : Int32))) ((8 : Int32)).toNatClampNeg ((0 : Int32))) ((9 : Int32)).toNatClampNeg (((-14) : Int32))) ((10 : Int32)).toNatClampNeg ((0 : Int32))) := hd_up (hs 16 _ rfl) rfl rfl t96
  have t99 : sy_da F' (.inr (.inl 99)) = .inl (jm_upd (jm_upd (jm_upd (jm_upd (jm_upd (jm_upd (jm_upd (jm_upd (jm_upd (jm_upd (jm_upd (jm_upd (sy_ai F 17) ((0 : Int32)).toNatClampNeg ((0 : Int32))) ((1 : Int32)).toNatClampNeg (((-14) : Int32))) ((2 : Int32)).toNatClampNeg ((1 : Int32))) ((3 : Int32)).toNatClampNeg (((-14) : Int32))) ((4 : Int32)).toNatClampNeg (((-1) : Int32))) ((5 : Int32)).toNatClampNeg (((-14) : Int32))) ((6 : Int32)).toNatClampNeg (((-1) : Int32))) ((7 : Int32)).toNatClampNeg (((-14) : Int32))) ((8 : Int32)).toNatClampNeg ((0 : Int32))) ((9 : Int32)).toNatClampNeg (((-14) : Int32))) ((10 : Int32)).toNatClampNeg ((0 : Int32))) ((11 : Int32)).toNatClampNeg (((-14) : Int32))) := hd_up (hs 17 _ rfl) rfl rfl t98
  have hB' : iv_in F' iv_B0 := iv_in_eq hB (fun j hj => hF j (Nat.lt_of_lt_of_le hj (by decide +kernel)))
  refine ⟨fun _ h => absurd h List.not_mem_nil, ?_⟩
  refine k _ ?_ ?_ ?_ ?_ ?_ ?_ ?_ ?_ ?_ ?_ ?_ ?_ ?_ ?_ ?_ ?_
  · exact fun j hj hn => (hd_keep hB' (Nat.lt_of_lt_of_le hj (by decide +kernel)) (by simp; omega)).trans (hF j (Nat.lt_of_lt_of_le hj (by decide)))
  · exact hd_gi (x := .inl (.int 0)) (by decide +kernel) rfl
  · exact hd_gi (x := .inl (.int 0)) (by decide +kernel) rfl
  · exact hd_gi (x := .inl (.int 10)) (by decide +kernel) rfl
  · exact hd_gi (x := .inl (.int 6)) (by decide +kernel) rfl
  · exact hd_gi (x := .inl (.int 0)) (by decide +kernel) rfl
  · exact hd_gi (x := .inl (.int 12)) (by decide +kernel) rfl
  · exact hd_ga (a := .inr (.inl 97)) (by decide +kernel) t97
  · exact hd_ga (a := .inr (.inl 99)) (by decide +kernel) t99
  · exact hd_gi (x := .inl (.int 0)) (by decide +kernel) rfl
  · exact hd_gi (x := .inl (.int 0)) (by decide +kernel) rfl
  · exact hd_gi (x := .inl (.int 0)) (by decide +kernel) rfl
  · exact hd_gi (x := .inl (.int (-1))) (by decide +kernel) rfl
  · exact hd_gi (x := .inl (.int 0)) (by decide +kernel) rfl
  · exact hd_gi (x := .inl (.int 1)) (by decide +kernel) rfl
  · exact hd_gi (x := .inl (.int 0)) (by decide +kernel) rfl
/-! ===== the class parses a text: what comes first (shape 3) ===== -/
theorem k3py_0_p0 {Ls : Nat} {xs : Nat → Int32} {d : Nat} {Q : Option Value → jm_h → Prop} (hd : 7 ≤ d) (F : Nat → sy_d) (X1 X2 : List jm_c) (hB : iv_in F iv_B0)
    (k : ∀ F1 : Nat → sy_d, (∀ j, j < 82 → True → F1 j = F j) → F1 82 = .inl (.int (sy_i F 82)) → hd_W Ls xs d jm_M31 Q (6, sy_dL F1 [some (.inl (.ref 30)), none, none, some (.inl (.ref 10)), none, none, none], sy_dS F1 [.inr (.inl 82), .inl (.ref 9), .inl (.ref 31)], sy_dh F1 X1 X2 (iv_H 3), 0, 0)) :
    hd_W Ls xs d jm_M31 Q (0, sy_dL F [some (.inl (.ref 30)), some (.inl (.ref 9)), some (.inr (.inl 82)), some (.inl (.ref 10)), none, none, none], sy_dS F [], sy_dh F X1 X2 (iv_H 3), 0, 0) := by
  refine hd_run (s := 3) (nv := 83) (pc := 6) (L := [some (.inl (.ref 30)), none, none, some (.inl (.ref 10)), none, none, none]) (S := [.inr (.inl 82), .inl (.ref 9), .inl (.ref 31)]) (uh := hd_ov (iv_id 0 iv_B0) []) (ul := [.inl (.inr (.inl 82))]) (f := true) (sp := [6]) (d0 := 6) (O := []) (T := []) (P := []) jm_ok31 (by decide +kernel) (by decide +kernel) hd F X1 X2 (fun F' hF hs => ?_)
  have b82 := hd_b (F := F) (F' := F') (k := 82) (hF 82 (by decide))
  have hB' : iv_in F' iv_B0 := iv_in_eq hB (fun j hj => hF j (Nat.lt_of_lt_of_le hj (by decide +kernel)))
  refine ⟨fun _ h => absurd h List.not_mem_nil, ?_⟩
  refine k _ ?_ ?_
  · exact fun j hj _ => (hd_keep hB' (Nat.lt_of_lt_of_le hj (by decide +kernel)) (by simp)).trans (hF j (Nat.lt_of_lt_of_le hj (by decide)))
  · exact hd_gi (x := .inr (.inl 82)) (by decide +kernel) b82
theorem k3py_0 {Ls : Nat} {xs : Nat → Int32} {d : Nat} {Q : Option Value → jm_h → Prop} (hd : 7 ≤ d) (F : Nat → sy_d) (X1 X2 : List jm_c) (hB : iv_in F iv_B0)
    (k0 : ∀ F1 : Nat → sy_d, iv_in F1 iv_B0 → (∀ j, j < 82 → j ∉ ([] : List Nat) → F1 j = F j) → (sy_i F1 33).toInt = (sy_i F 33).toInt → (sy_i F1 34).toInt = (sy_i F 34).toInt → (sy_i F1 36).toInt = (sy_i F 36).toInt → (sy_i F1 37).toInt = (sy_i F 37).toInt → (sy_i F1 38).toInt = (sy_i F 38).toInt → (sy_i F1 3).toInt = (sy_i F 3).toInt → (sy_i F1 4).toInt = (sy_i F 4).toInt → (sy_i F1 82).toInt = (sy_i F 82).toInt → hd_W Ls xs d jm_M31 Q (6, sy_dL F1 [some (.inl (.ref 30)), none, none, some (.inl (.ref 10)), none, none, none], sy_dS F1 [.inr (.inl 82), .inl (.ref 9), .inl (.ref 31)], sy_dh F1 X1 X2 (iv_H 3), 0, 0)) :
    hd_W Ls xs d jm_M31 Q (0, sy_dL F [some (.inl (.ref 30)), some (.inl (.ref 9)), some (.inr (.inl 82)), some (.inl (.ref 10)), none, none, none], sy_dS F [], sy_dh F X1 X2 (iv_H 3), 0, 0) := by
  exact k3py_0_p0 hd F X1 X2 hB  (fun F1 g e82 => k0 F1 (nz_in0 hB [] (fun j hj hn => g j hj (by simp only [List.mem_cons, List.not_mem_nil, or_false, not_or] at hn; exact trivial)) (List.forall_mem_nil _)) (fun j hj hn => g j hj (by simp only [List.mem_cons, List.not_mem_nil, or_false, not_or] at hn; exact trivial)) (nz_fi (g 33 (by decide) (by decide))) (nz_fi (g 34 (by decide) (by decide))) (nz_fi (g 36 (by decide) (by decide))) (nz_fi (g 37 (by decide) (by decide))) (nz_fi (g 38 (by decide) (by decide))) (nz_fi (g 3 (by decide) (by decide))) (nz_fi (g 4 (by decide) (by decide))) ((congrArg Int32.toInt (zz_i e82)).trans (rfl : (sy_i F 82).toInt = (sy_i F 82).toInt)))
theorem k3py_9_p0 {Ls : Nat} {xs : Nat → Int32} {d : Nat} {Q : Option Value → jm_h → Prop} (hd : 7 ≤ d) (F : Nat → sy_d) (X1 X2 : List jm_c) (hB : iv_in F iv_B0)
    (k : ∀ F1 : Nat → sy_d, (∀ j, j < 82 → j ≠ 3 ∧ j ≠ 4 ∧ j ≠ 5 ∧ j ≠ 6 ∧ j ≠ 7 ∧ j ≠ 8 ∧ j ≠ 16 ∧ j ≠ 17 ∧ j ≠ 33 ∧ j ≠ 34 ∧ j ≠ 36 ∧ j ≠ 37 ∧ j ≠ 38 → F1 j = F j) → F1 3 = .inl (.int ((0 : Int32))) → F1 4 = .inl (.int ((0 : Int32))) → F1 5 = .inl (.int ((10 : Int32))) → F1 6 = .inl (.int ((6 : Int32))) → F1 7 = .inl (.int ((0 : Int32))) → F1 8 = .inl (.int ((12 : Int32))) → F1 16 = .inr (.inl (jm_upd (jm_upd (jm_upd (jm_upd (jm_upd (jm_upd (sy_ai F 16) ((0 : Int32)).toNatClampNeg ((0 : Int32))) ((1 : Int32)).toNatClampNeg ((2 : Int32))) ((2 : Int32)).toNatClampNeg ((4 : Int32))) ((3 : Int32)).toNatClampNeg ((6 : Int32))) ((4 : Int32)).toNatClampNeg ((8 : Int32))) ((5 : Int32)).toNatClampNeg ((10 : Int32)))) → F1 17 = .inr (.inl (jm_upd (jm_upd (jm_upd (jm_upd (jm_upd (jm_upd (jm_upd (jm_upd (jm_upd (jm_upd (jm_upd (jm_upd (sy_ai F 17) ((0 : Int32)).toNatClampNeg ((0 : Int32))) ((1 : Int32)).toNatClampNeg (((-14) : Int32))) ((2 : Int32)).toNatClampNeg ((1 : Int32))) ((3 : Int32)).toNatClampNeg (((-14) : Int32))) ((4 : Int32)).toNatClampNeg (((-1) : Int32))) ((5 : Int32)).toNatClampNeg (((-14) : Int32))) ((6 : Int32)).toNatClampNeg (((-1) : Int32))) ((7 : Int32)).toNatClampNeg (((-14) : Int32))) ((8 : Int32)).toNatClampNeg ((0 : Int32))) ((9 : Int32)).toNatClampNeg (((-14) : Int32))) ((10 : Int32)).toNatClampNeg ((0 : Int32))) ((11 : Int32)).toNatClampNeg (((-14) : Int32)))) → F1 33 = .inl (.int ((0 : Int32))) → F1 34 = .inl (.int ((0 : Int32))) → F1 36 = .inl (.int ((0 : Int32))) → F1 37 = .inl (.int (((-1) : Int32))) → F1 38 = .inl (.int ((0 : Int32))) → F1 82 = .inl (.int ((1 : Int32))) → F1 83 = .inl (.int ((0 : Int32))) → hd_W Ls xs d jm_M31 Q (52, sy_dL F1 [some (.inl (.ref 30)), none, none, none, some (.inr (.inl 82)), some (.inr (.inl 83)), none], sy_dS F1 [], sy_dh F1 X1 X2 (iv_H 3), 0, 0)) :
    hd_W Ls xs d jm_M31 Q (9, sy_dL F [some (.inl (.ref 30)), none, none, some (.inl (.ref 10)), none, none, none], sy_dS F [], sy_dh F X1 X2 (iv_H 3), 0, 0) := by
  refine hd_run (s := 3) (nv := 82) (pc := 52) (L := [some (.inl (.ref 30)), none, none, none, some (.inr (.inl 82)), some (.inr (.inl 83)), none]) (S := []) (uh := hd_ov (iv_id 0 iv_B0) [(3, .inl (.inl (.int 0))), (4, .inl (.inl (.int 0))), (5, .inl (.inl (.int 10))), (6, .inl (.inl (.int 6))), (7, .inl (.inl (.int 0))), (8, .inl (.inl (.int 12))), (16, .inr (.inr (.inl 97))), (17, .inr (.inr (.inl 99))), (33, .inl (.inl (.int 0))), (34, .inl (.inl (.int 0))), (36, .inl (.inl (.int 0))), (37, .inl (.inl (.int (-1)))), (38, .inl (.inl (.int 0)))]) (ul := [.inl (.inl (.int 1)), .inl (.inl (.int 0))]) (f := false) (sp := [52]) (d0 := 6) (O := []) (T := [(40, [.inl (.int 0), .inl (.int 0)], [.inr (.inl 16)]), (40, [.inl (.int 0), .inl (.int 0)], [.inr (.inl 17)]), (40, [.inl (.int 1), .inl (.int (-14))], [.inr (.inl 83)]), (40, [.inl (.int 1), .inl (.int 2)], [.inr (.inl 82)]), (40, [.inl (.int 2), .inl (.int 1)], [.inr (.inl 84)]), (40, [.inl (.int 3), .inl (.int (-14))], [.inr (.inl 86)]), (40, [.inl (.int 2), .inl (.int 4)], [.inr (.inl 85)]), (40, [.inl (.int 4), .inl (.int (-1))], [.inr (.inl 87)]), (40, [.inl (.int 5), .inl (.int (-14))], [.inr (.inl 89)]), (40, [.inl (.int 3), .inl (.int 6)], [.inr (.inl 88)]), (40, [.inl (.int 6), .inl (.int (-1))], [.inr (.inl 90)]), (40, [.inl (.int 7), .inl (.int (-14))], [.inr (.inl 92)]), (40, [.inl (.int 4), .inl (.int 8)], [.inr (.inl 91)]), (40, [.inl (.int 8), .inl (.int 0)], [.inr (.inl 93)]), (40, [.inl (.int 9), .inl (.int (-14))], [.inr (.inl 95)]), (40, [.inl (.int 5), .inl (.int 10)], [.inr (.inl 94)]), (40, [.inl (.int 10), .inl (.int 0)], [.inr (.inl 96)]), (40, [.inl (.int 11), .inl (.int (-14))], [.inr (.inl 98)])]) (P := []) jm_ok31 (by decide +kernel) (by decide +kernel) hd F X1 X2 (fun F' hF hs => ?_)
  have a16 := hd_ba (F := F) (F' := F') (k := 16) (hF 16 (by decide))
  have t82 : sy_da F' (.inr (.inl 82)) = .inl (jm_upd (sy_ai F 16) ((0 : Int32)).toNatClampNeg ((0 : Int32))) := hd_up (hs 0 _ rfl) rfl rfl a16
  have t85 : sy_da F' (.inr (.inl 85)) = .inl (jm_upd (jm_upd (sy_ai F 16) ((0 : Int32)).toNatClampNeg ((0 : Int32))) ((1 : Int32)).toNatClampNeg ((2 : Int32))) := hd_up (hs 3 _ rfl) rfl rfl t82
  have t88 : sy_da F' (.inr (.inl 88)) = .inl (jm_upd (jm_upd (jm_upd (sy_ai F 16) ((0 : Int32)).toNatClampNeg ((0 : Int32))) ((1 : Int32)).toNatClampNeg ((2 : Int32))) ((2 : Int32)).toNatClampNeg ((4 : Int32))) := hd_up (hs 6 _ rfl) rfl rfl t85
  have t91 : sy_da F' (.inr (.inl 91)) = .inl (jm_upd (jm_upd (jm_upd (jm_upd (sy_ai F 16) ((0 : Int32)).toNatClampNeg ((0 : Int32))) ((1 : Int32)).toNatClampNeg ((2 : Int32))) ((2 : Int32)).toNatClampNeg ((4 : Int32))) ((3 : Int32)).toNatClampNeg ((6 : Int32))) := hd_up (hs 9 _ rfl) rfl rfl t88
  have t94 : sy_da F' (.inr (.inl 94)) = .inl (jm_upd (jm_upd (jm_upd (jm_upd (jm_upd (sy_ai F 16) ((0 : Int32)).toNatClampNeg ((0 : Int32))) ((1 : Int32)).toNatClampNeg ((2 : Int32))) ((2 : Int32)).toNatClampNeg ((4 : Int32))) ((3 : Int32)).toNatClampNeg ((6 : Int32))) ((4 : Int32)).toNatClampNeg ((8 : Int32))) := hd_up (hs 12 _ rfl) rfl rfl t91
  have t97 : sy_da F' (.inr (.inl 97)) = .inl (jm_upd (jm_upd (jm_upd (jm_upd (jm_upd (jm_upd (sy_ai F 16) ((0 : Int32)).toNatClampNeg ((0 : Int32))) ((1 : Int32)).toNatClampNeg ((2 : Int32))) ((2 : Int32)).toNatClampNeg ((4 : Int32))) ((3 : Int32)).toNatClampNeg ((6 : Int32))) ((4 : Int32)).toNatClampNeg ((8 : Int32))) ((5 : Int32)).toNatClampNeg ((10 : Int32))) := hd_up (hs 15 _ rfl) rfl rfl t94
  have a17 := hd_ba (F := F) (F' := F') (k := 17) (hF 17 (by decide))
  have t83 : sy_da F' (.inr (.inl 83)) = .inl (jm_upd (sy_ai F 17) ((0 : Int32)).toNatClampNeg ((0 : Int32))) := hd_up (hs 1 _ rfl) rfl rfl a17
  have t84 : sy_da F' (.inr (.inl 84)) = .inl (jm_upd (jm_upd (sy_ai F 17) ((0 : Int32)).toNatClampNeg ((0 : Int32))) ((1 : Int32)).toNatClampNeg (((-14) : Int32))) := hd_up (hs 2 _ rfl) rfl rfl t83
  have t86 : sy_da F' (.inr (.inl 86)) = .inl (jm_upd (jm_upd (jm_upd (sy_ai F 17) ((0 : Int32)).toNatClampNeg ((0 : Int32))) ((1 : Int32)).toNatClampNeg (((-14) : Int32))) ((2 : Int32)).toNatClampNeg ((1 : Int32))) := hd_up (hs 4 _ rfl) rfl rfl t84
  have t87 : sy_da F' (.inr (.inl 87)) = .inl (jm_upd (jm_upd (jm_upd (jm_upd (sy_ai F 17) ((0 : Int32)).toNatClampNeg ((0 : Int32))) ((1 : Int32)).toNatClampNeg (((-14) : Int32))) ((2 : Int32)).toNatClampNeg ((1 : Int32))) ((3 : Int32)).toNatClampNeg (((-14) : Int32))) := hd_up (hs 5 _ rfl) rfl rfl t86
  have t89 : sy_da F' (.inr (.inl 89)) = .inl (jm_upd (jm_upd (jm_upd (jm_upd (jm_upd (sy_ai F 17) ((0 : Int32)).toNatClampNeg ((0 : Int32))) ((1 : Int32)).toNatClampNeg (((-14) : Int32))) ((2 : Int32)).toNatClampNeg ((1 : Int32))) ((3 : Int32)).toNatClampNeg (((-14) : Int32))) ((4 : Int32)).toNatClampNeg (((-1) : Int32))) := hd_up (hs 7 _ rfl) rfl rfl t87
  have t90 : sy_da F' (.inr (.inl 90)) = .inl (jm_upd (jm_upd (jm_upd (jm_upd (jm_upd (jm_upd (sy_ai F 17) ((0 : Int32)).toNatClampNeg ((0 : Int32))) ((1 : Int32)).toNatClampNeg (((-14) : Int32))) ((2 : Int32)).toNatClampNeg ((1 : Int32))) ((3 : Int32)).toNatClampNeg (((-14) : Int32))) ((4 : Int32)).toNatClampNeg (((-1) : Int32))) ((5 : Int32)).toNatClampNeg (((-14) : Int32))) := hd_up (hs 8 _ rfl) rfl rfl t89
  have t92 : sy_da F' (.inr (.inl 92)) = .inl (jm_upd (jm_upd (jm_upd (jm_upd (jm_upd (jm_upd (jm_upd (sy_ai F 17) ((0 : Int32)).toNatClampNeg ((0 : Int32))) ((1 : Int32)).toNatClampNeg (((-14) : Int32))) ((2 : Int32)).toNatClampNeg ((1 : Int32))) ((3 : Int32)).toNatClampNeg (((-14) : Int32))) ((4 : Int32)).toNatClampNeg (((-1) : Int32))) ((5 : Int32)).toNatClampNeg (((-14) : Int32))) ((6 : Int32)).toNatClampNeg (((-1) : Int32))) := hd_up (hs 10 _ rfl) rfl rfl t90
  have t93 : sy_da F' (.inr (.inl 93)) = .inl (jm_upd (jm_upd (jm_upd (jm_upd (jm_upd (jm_upd (jm_upd (jm_upd (sy_ai F 17) ((0 : Int32)).toNatClampNeg ((0 : Int32))) ((1 : Int32)).toNatClampNeg (((-14) : Int32))) ((2 : Int32)).toNatClampNeg ((1 : Int32))) ((3 : Int32)).toNatClampNeg (((-14) : Int32))) ((4 : Int32)).toNatClampNeg (((-1) : Int32))) ((5 : Int32)).toNatClampNeg (((-14) : Int32))) ((6 : Int32)).toNatClampNeg (((-1) : Int32))) ((7 : Int32)).toNatClampNeg (((-14) : Int32))) := hd_up (hs 11 _ rfl) rfl rfl t92
  have t95 : sy_da F' (.inr (.inl 95)) = .inl (jm_upd (jm_upd (jm_upd (jm_upd (jm_upd (jm_upd (jm_upd (jm_upd (jm_upd (sy_ai F 17) ((0 : Int32)).toNatClampNeg ((0 : Int32))) ((1 : Int32)).toNatClampNeg (((-14) : Int32))) ((2 : Int32)).toNatClampNeg ((1 : Int32))) ((3 : Int32)).toNatClampNeg (((-14) : Int32))) ((4 : Int32)).toNatClampNeg (((-1) : Int32))) ((5 : Int32)).toNatClampNeg (((-14) : Int32))) ((6 : Int32)).toNatClampNeg (((-1) : Int32))) ((7 : Int32)).toNatClampNeg (((-14) : Int32))) ((8 : Int32)).toNatClampNeg ((0 : Int32))) := hd_up (hs 13 _ rfl) rfl rfl t93
  have t96 : sy_da F' (.inr (.inl 96)) = .inl (jm_upd (jm_upd (jm_upd (jm_upd (jm_upd (jm_upd (jm_upd (jm_upd (jm_upd (jm_upd (sy_ai F 17) ((0 : Int32)).toNatClampNeg ((0 : Int32))) ((1 : Int32)).toNatClampNeg (((-14) : Int32))) ((2 : Int32)).toNatClampNeg ((1 : Int32))) ((3 : Int32)).toNatClampNeg (((-14) : Int32))) ((4 : Int32)).toNatClampNeg (((-1) : Int32))) ((5 : Int32)).toNatClampNeg (((-14) : Int32))) ((6 : Int32)).toNatClampNeg (((-1) : Int32))) ((7 : Int32)).toNatClampNeg (((-14) : Int32))) ((8 : Int32)).toNatClampNeg ((0 : Int32))) ((9 : Int32)).toNatClampNeg (((-14) : Int32))) := hd_up (hs 14 _ rfl) rfl rfl t95
  have t98 : sy_da F' (.inr (.inl 98)) = .inl (jm_upd (jm_upd (jm_upd (jm_upd (jm_upd (jm_upd (jm_upd (jm_upd (jm_upd (jm_upd (jm_upd (sy_ai F 17) ((0 : Int32)).toNatClampNeg ((0 : Int32))) ((1 : Int32)).toNatClampNeg (((-14) : Int32))) ((2 : Int32)).toNatClampNeg ((1 : Int32))) ((3 : Int32)).toNatClampNeg (((-14) : Int32))) ((4 : Int32)).toNatClampNeg (((-1) : Int32))) ((5 : Int32)).toNatClampNeg (((-14) : Int32))) ((6 : Int32)).toNatClampNeg (((-1) : Int32))) ((7 : Int32)).toNatClampNeg (((-14) : Int32))) ((8 : Int32)).toNatClampNeg ((0 : Int32))) ((9 : Int32)).toNatClampNeg (((-14) : Int32))) ((10 : Int32)).toNatClampNeg ((0 : Int32))) := hd_up (hs 16 _ rfl) rfl rfl t96
  have t99 : sy_da F' (.inr (.inl 99)) = .inl (jm_upd (jm_upd (jm_upd (jm_upd (jm_upd (jm_upd (jm_upd (jm_upd (jm_upd (jm_upd (jm_upd (jm_upd (sy_ai F 17) ((0 : Int32)).toNatClampNeg ((0 : Int32))) ((1 : Int32)).toNatClampNeg (((-14) : Int32))) ((2 : Int32)).toNatClampNeg ((1 : Int32))) ((3 : Int32)).toNatClampNeg (((-14) : Int32))) ((4 : Int32)).toNatClampNeg (((-1) : Int32))) ((5 : Int32)).toNatClampNeg (((-14) : Int32))) ((6 : Int32)).toNatClampNeg (((-1) : Int32))) ((7 : Int32)).toNatClampNeg (((-14) : Int32))) ((8 : Int32)).toNatClampNeg ((0 : Int32))) ((9 : Int32)).toNatClampNeg (((-14) : Int32))) ((10 : Int32)).toNatClampNeg ((0 : Int32))) ((11 : Int32)).toNatClampNeg (((-14) : Int32))) := hd_up (hs 17 _ rfl) rfl rfl t98
  have hB' : iv_in F' iv_B0 := iv_in_eq hB (fun j hj => hF j (Nat.lt_of_lt_of_le hj (by decide +kernel)))
  refine ⟨fun _ h => absurd h List.not_mem_nil, ?_⟩
  refine k _ ?_ ?_ ?_ ?_ ?_ ?_ ?_ ?_ ?_ ?_ ?_ ?_ ?_ ?_ ?_ ?_
  · exact fun j hj hn => (hd_keep hB' (Nat.lt_of_lt_of_le hj (by decide +kernel)) (by simp; omega)).trans (hF j (Nat.lt_of_lt_of_le hj (by decide)))
  · exact hd_gi (x := .inl (.int 0)) (by decide +kernel) rfl
  · exact hd_gi (x := .inl (.int 0)) (by decide +kernel) rfl
  · exact hd_gi (x := .inl (.int 10)) (by decide +kernel) rfl
  · exact hd_gi (x := .inl (.int 6)) (by decide +kernel) rfl
  · exact hd_gi (x := .inl (.int 0)) (by decide +kernel) rfl
  · exact hd_gi (x := .inl (.int 12)) (by decide +kernel) rfl
  · exact hd_ga (a := .inr (.inl 97)) (by decide +kernel) t97
  · exact hd_ga (a := .inr (.inl 99)) (by decide +kernel) t99
  · exact hd_gi (x := .inl (.int 0)) (by decide +kernel) rfl
  · exact hd_gi (x := .inl (.int 0)) (by decide +kernel) rfl
  · exact hd_gi (x := .inl (.int 0)) (by decide +kernel) rfl
  · exact hd_gi (x := .inl (.int (-1))) (by decide +kernel) rfl
  · exact hd_gi (x := .inl (.int 0)) (by decide +kernel) rfl
  · exact hd_gi (x := .inl (.int 1)) (by decide +kernel) rfl
  · exact hd_gi (x := .inl (.int 0)) (by decide +kernel) rfl
end
section
/-! ===== the class parses a text, one after the other (shape 0) ===== -/
theorem k0pq_52_p0 {Ls : Nat} {xs : Nat → Int32} {d : Nat} {Q : Option Value → jm_h → Prop} (hd : 7 ≤ d) (F : Nat → sy_d) (X1 X2 : List jm_c) (hB : iv_in F iv_B0)
    (h0 : 400 < (sy_i F 83).toInt)
    (k : ∀ F1 : Nat → sy_d, (∀ j, j < 82 → True → F1 j = F j) → F1 82 = .inl (.int (sy_i F 82)) → hd_W Ls xs d jm_M31 Q (189, sy_dL F1 [some (.inl (.ref 30)), none, none, none, some (.inr (.inl 82)), none, none], sy_dS F1 [], sy_dh F1 X1 X2 (iv_H 0), 0, 0)) :
    hd_W Ls xs d jm_M31 Q (52, sy_dL F [some (.inl (.ref 30)), none, none, none, some (.inr (.inl 82)), some (.inr (.inl 83)), none], sy_dS F [], sy_dh F X1 X2 (iv_H 0), 0, 0) := by
  refine hd_run (s := 0) (nv := 84) (pc := 189) (L := [some (.inl (.ref 30)), none, none, none, some (.inr (.inl 82)), none, none]) (S := []) (uh := hd_ov (iv_id 0 iv_B0) []) (ul := [.inl (.inr (.inl 82))]) (f := true) (sp := [52, 100, 115, 143, 168, 189]) (d0 := 6) (O := [true]) (T := []) (P := [(2, .inl (.int 400), .inr (.inl 83))]) jm_ok31 (by decide +kernel) (by decide +kernel) hd F X1 X2 (fun F' hF hs => ?_)
  have b83 := hd_b (F := F) (F' := F') (k := 83) (hF 83 (by decide))
  have b82 := hd_b (F := F) (F' := F') (k := 82) (hF 82 (by decide))
  have hB' : iv_in F' iv_B0 := iv_in_eq hB (fun j hj => hF j (Nat.lt_of_lt_of_le hj (by decide +kernel)))
  refine ⟨List.forall_mem_cons.mpr ⟨hd_p2 rfl b83 (by have hc : ((400) : Int32).toInt = 400 := (by decide); omega), fun _ h => absurd h List.not_mem_nil⟩, ?_⟩
  refine k _ ?_ ?_
  · exact fun j hj _ => (hd_keep hB' (Nat.lt_of_lt_of_le hj (by decide +kernel)) (by simp)).trans (hF j (Nat.lt_of_lt_of_le hj (by decide)))
  · exact hd_gi (x := .inr (.inl 82)) (by decide +kernel) b82
theorem k0pq_52_p1 {Ls : Nat} {xs : Nat → Int32} {d : Nat} {Q : Option Value → jm_h → Prop} (hd : 7 ≤ d) (F : Nat → sy_d) (X1 X2 : List jm_c) (hB : iv_in F iv_B0)
    (h0 : (sy_i F 83).toInt ≤ 400)
    (h1 : (sy_i F 82).toInt = 0)
    (k : ∀ F1 : Nat → sy_d, (∀ j, j < 82 → True → F1 j = F j) → F1 82 = .inl (.int (sy_i F 82)) → hd_W Ls xs d jm_M31 Q (189, sy_dL F1 [some (.inl (.ref 30)), none, none, none, some (.inr (.inl 82)), none, none], sy_dS F1 [], sy_dh F1 X1 X2 (iv_H 0), 0, 0)) :
    hd_W Ls xs d jm_M31 Q (52, sy_dL F [some (.inl (.ref 30)), none, none, none, some (.inr (.inl 82)), some (.inr (.inl 83)), none], sy_dS F [], sy_dh F X1 X2 (iv_H 0), 0, 0) := by
  refine hd_run (s := 0) (nv := 84) (pc := 189) (L := [some (.inl (.ref 30)), none, none, none, some (.inr (.inl 82)), none, none]) (S := []) (uh := hd_ov (iv_id 0 iv_B0) []) (ul := [.inl (.inr (.inl 82))]) (f := true) (sp := [52, 100, 115, 143, 168, 189]) (d0 := 6) (O := [false, true]) (T := []) (P := [(3, .inl (.int 400), .inr (.inl 83)), (0, .inr (.inl 82), .inl (.int 0))]) jm_ok31 (by decide +kernel) (by decide +kernel) hd F X1 X2 (fun F' hF hs => ?_)
  have b83 := hd_b (F := F) (F' := F') (k := 83) (hF 83 (by decide))
  have b82 := hd_b (F := F) (F' := F') (k := 82) (hF 82 (by decide))
  have hB' : iv_in F' iv_B0 := iv_in_eq hB (fun j hj => hF j (Nat.lt_of_lt_of_le hj (by decide +kernel)))
  refine ⟨List.forall_mem_cons.mpr ⟨hd_p3 rfl b83 (by have hc : ((400) : Int32).toInt = 400 := (by decide); omega), List.forall_mem_cons.mpr ⟨hd_p0 b82 rfl (by have hc : ((0) : Int32).toInt = 0 := (by decide); omega), fun _ h => absurd h List.not_mem_nil⟩⟩, ?_⟩
  refine k _ ?_ ?_
  · exact fun j hj _ => (hd_keep hB' (Nat.lt_of_lt_of_le hj (by decide +kernel)) (by simp)).trans (hF j (Nat.lt_of_lt_of_le hj (by decide)))
  · exact hd_gi (x := .inr (.inl 82)) (by decide +kernel) b82
theorem k0pq_52_p2 {Ls : Nat} {xs : Nat → Int32} {d : Nat} {Q : Option Value → jm_h → Prop} (hd : 7 ≤ d) (F : Nat → sy_d) (X1 X2 : List jm_c) (hB : iv_in F iv_B0)
    (h0 : (sy_i F 83).toInt ≤ 400)
    (h1 : (sy_i F 82).toInt ≠ 0)
    (h2 : 0 ≤ (sy_i F 33).toInt)
    (h3 : (sy_i F 33).toInt ≤ 400)
    (h4 : 0 ≤ (sy_i F 33).toInt ∧ (sy_i F 33).toInt < 401)
    (h5 : ((sy_ai F 39).getD (sy_i F 33).toNatClampNeg 0).toInt = 26)
    (k : ∀ F1 : Nat → sy_d, (∀ j, j < 82 → True → F1 j = F j) → F1 82 = .inl (.int (sy_i F 82)) → hd_W Ls xs d jm_M31 Q (189, sy_dL F1 [some (.inl (.ref 30)), none, none, none, some (.inr (.inl 82)), none, none], sy_dS F1 [], sy_dh F1 X1 X2 (iv_H 0), 0, 0)) :
    hd_W Ls xs d jm_M31 Q (52, sy_dL F [some (.inl (.ref 30)), none, none, none, some (.inr (.inl 82)), some (.inr (.inl 83)), none], sy_dS F [], sy_dh F X1 X2 (iv_H 0), 0, 0) := by
  refine hd_run (s := 0) (nv := 84) (pc := 189) (L := [some (.inl (.ref 30)), none, none, none, some (.inr (.inl 82)), none, none]) (S := []) (uh := hd_ov (iv_id 0 iv_B0) []) (ul := [.inl (.inr (.inl 82))]) (f := true) (sp := [52, 100, 115, 143, 168, 189]) (d0 := 6) (O := [false, false, false, false, true]) (T := [(30, [.inr (.inl 33)], [.inr (.inl 39)])]) (P := [(3, .inl (.int 400), .inr (.inl 83)), (1, .inr (.inl 82), .inl (.int 0)), (3, .inr (.inl 33), .inl (.int 0)), (3, .inl (.int 400), .inr (.inl 33)), (6, .inr (.inl 33), .inl (.ref 401)), (0, .inr (.inl 84), .inl (.int 26))]) jm_ok31 (by decide +kernel) (by decide +kernel) hd F X1 X2 (fun F' hF hs => ?_)
  have b83 := hd_b (F := F) (F' := F') (k := 83) (hF 83 (by decide))
  have b82 := hd_b (F := F) (F' := F') (k := 82) (hF 82 (by decide))
  have b33 := hd_b (F := F) (F' := F') (k := 33) (hF 33 (by decide))
  have a39 := hd_ba (F := F) (F' := F') (k := 39) (hF 39 (by decide))
  have t84 : sy_dv F' (.inr (.inl 84)) = .int ((sy_ai F 39).getD (sy_i F 33).toNatClampNeg 0) := hd_rd (hs 0 _ rfl) b33 a39
  have hB' : iv_in F' iv_B0 := iv_in_eq hB (fun j hj => hF j (Nat.lt_of_lt_of_le hj (by decide +kernel)))
  refine ⟨List.forall_mem_cons.mpr ⟨hd_p3 rfl b83 (by have hc : ((400) : Int32).toInt = 400 := (by decide); omega), List.forall_mem_cons.mpr ⟨hd_p1 b82 rfl (by have hc : ((0) : Int32).toInt = 0 := (by decide); omega), List.forall_mem_cons.mpr ⟨hd_p3 b33 rfl (by have hc : ((0) : Int32).toInt = 0 := (by decide); omega), List.forall_mem_cons.mpr ⟨hd_p3 rfl b33 (by have hc : ((400) : Int32).toInt = 400 := (by decide); omega), List.forall_mem_cons.mpr ⟨hd_pb b33 (by first | exact h4 | exact h4), List.forall_mem_cons.mpr ⟨hd_p0 t84 rfl (by have hc : ((26) : Int32).toInt = 26 := (by decide); omega), fun _ h => absurd h List.not_mem_nil⟩⟩⟩⟩⟩⟩, ?_⟩
  refine k _ ?_ ?_
  · exact fun j hj _ => (hd_keep hB' (Nat.lt_of_lt_of_le hj (by decide +kernel)) (by simp)).trans (hF j (Nat.lt_of_lt_of_le hj (by decide)))
  · exact hd_gi (x := .inr (.inl 82)) (by decide +kernel) b82
theorem k0pq_52_p3 {Ls : Nat} {xs : Nat → Int32} {d : Nat} {Q : Option Value → jm_h → Prop} (hd : 7 ≤ d) (F : Nat → sy_d) (X1 X2 : List jm_c) (hB : iv_in F iv_B0)
    (h0 : (sy_i F 83).toInt ≤ 400)
    (h1 : (sy_i F 82).toInt ≠ 0)
    (h2 : 0 ≤ (sy_i F 33).toInt)
    (h3 : (sy_i F 33).toInt ≤ 400)
    (h4 : 0 ≤ (sy_i F 33).toInt ∧ (sy_i F 33).toInt < 401)
    (h5 : ((sy_ai F 39).getD (sy_i F 33).toNatClampNeg 0).toInt ≠ 26)
    (h6 : 0 ≤ (sy_i F 33).toInt)
    (h7 : (sy_i F 33).toInt ≤ 400)
    (h8 : 0 ≤ (sy_i F 33).toInt ∧ (sy_i F 33).toInt < 401)
    (h9 : ((sy_ai F 39).getD (sy_i F 33).toNatClampNeg 0).toInt ≠ 0)
    (h10 : ((sy_ai F 39).getD (sy_i F 33).toNatClampNeg 0).toInt ≠ 1)
    (h11 : ((sy_ai F 39).getD (sy_i F 33).toNatClampNeg 0).toInt < 2)
    (h12 : ((sy_ai F 39).getD (sy_i F 33).toNatClampNeg 0).toInt < 8)
    (k : ∀ F1 : Nat → sy_d, (∀ j, j < 82 → j ≠ 34 → F1 j = F j) → F1 34 = .inl (.int ((1 : Int32))) → F1 82 = .inl (.int ((0 : Int32))) → F1 83 = .inl (.int ((sy_i F 83) + ((1 : Int32)))) → hd_W Ls xs d jm_M31 Q (52, sy_dL F1 [some (.inl (.ref 30)), none, none, none, some (.inr (.inl 82)), some (.inr (.inl 83)), none], sy_dS F1 [], sy_dh F1 X1 X2 (iv_H 0), 0, 0)) :
    hd_W Ls xs d jm_M31 Q (52, sy_dL F [some (.inl (.ref 30)), none, none, none, some (.inr (.inl 82)), some (.inr (.inl 83)), none], sy_dS F [], sy_dh F X1 X2 (iv_H 0), 0, 0) := by
  refine hd_run (s := 0) (nv := 84) (pc := 52) (L := [some (.inl (.ref 30)), none, none, none, some (.inr (.inl 82)), some (.inr (.inl 83)), none]) (S := []) (uh := hd_ov (iv_id 0 iv_B0) [(34, .inl (.inl (.int 1)))]) (ul := [.inl (.inl (.int 0)), .inl (.inr (.inl 86))]) (f := true) (sp := [52, 100, 115, 143, 168, 189]) (d0 := 6) (O := [false, false, false, false, false, false, false, true, true, true, true]) (T := [(30, [.inr (.inl 33)], [.inr (.inl 39)]), (30, [.inr (.inl 33)], [.inr (.inl 39)]), (0, [.inr (.inl 83), .inl (.int 1)], [])]) (P := [(3, .inl (.int 400), .inr (.inl 83)), (1, .inr (.inl 82), .inl (.int 0)), (3, .inr (.inl 33), .inl (.int 0)), (3, .inl (.int 400), .inr (.inl 33)), (6, .inr (.inl 33), .inl (.ref 401)), (1, .inr (.inl 84), .inl (.int 26)), (3, .inr (.inl 33), .inl (.int 0)), (3, .inl (.int 400), .inr (.inl 33)), (6, .inr (.inl 33), .inl (.ref 401)), (1, .inr (.inl 85), .inl (.int 0)), (1, .inr (.inl 85), .inl (.int 1)), (2, .inr (.inl 85), .inl (.int 2)), (2, .inr (.inl 85), .inl (.int 8))]) jm_ok31 (by decide +kernel) (by decide +kernel) hd F X1 X2 (fun F' hF hs => ?_)
  have b83 := hd_b (F := F) (F' := F') (k := 83) (hF 83 (by decide))
  have b82 := hd_b (F := F) (F' := F') (k := 82) (hF 82 (by decide))
  have b33 := hd_b (F := F) (F' := F') (k := 33) (hF 33 (by decide))
  have a39 := hd_ba (F := F) (F' := F') (k := 39) (hF 39 (by decide))
  have t84 : sy_dv F' (.inr (.inl 84)) = .int ((sy_ai F 39).getD (sy_i F 33).toNatClampNeg 0) := hd_rd (hs 0 _ rfl) b33 a39
  have t85 : sy_dv F' (.inr (.inl 85)) = .int ((sy_ai F 39).getD (sy_i F 33).toNatClampNeg 0) := hd_rd (hs 1 _ rfl) b33 a39
  have t86 : sy_dv F' (.inr (.inl 86)) = .int ((sy_i F 83) + ((1 : Int32))) := hd_o (hs 2 _ rfl) b83 rfl rfl
  have hB' : iv_in F' iv_B0 := iv_in_eq hB (fun j hj => hF j (Nat.lt_of_lt_of_le hj (by decide +kernel)))
  refine ⟨List.forall_mem_cons.mpr ⟨hd_p3 rfl b83 (by have hc : ((400) : Int32).toInt = 400 := (by decide); omega), List.forall_mem_cons.mpr ⟨hd_p1 b82 rfl (by have hc : ((0) : Int32).toInt = 0 := (by decide); omega), List.forall_mem_cons.mpr ⟨hd_p3 b33 rfl (by have hc : ((0) : Int32).toInt = 0 := (by decide); omega), List.forall_mem_cons.mpr ⟨hd_p3 rfl b33 (by have hc : ((400) : Int32).toInt = 400 := (by decide); omega), List.forall_mem_cons.mpr ⟨hd_pb b33 (by first | exact h4 | exact h4), List.forall_mem_cons.mpr ⟨hd_p1 t84 rfl (by have hc : ((26) : Int32).toInt = 26 := (by decide); omega), List.forall_mem_cons.mpr ⟨hd_p3 b33 rfl (by have hc : ((0) : Int32).toInt = 0 := (by decide); omega), List.forall_mem_cons.mpr ⟨hd_p3 rfl b33 (by have hc : ((400) : Int32).toInt = 400 := (by decide); omega), List.forall_mem_cons.mpr ⟨hd_pb b33 (by first | exact h8 | exact h8), List.forall_mem_cons.mpr ⟨hd_p1 t85 rfl (by have hc : ((0) : Int32).toInt = 0 := (by decide); omega), List.forall_mem_cons.mpr ⟨hd_p1 t85 rfl (by have hc : ((1) : Int32).toInt = 1 := (by decide); omega), List.forall_mem_cons.mpr ⟨hd_p2 t85 rfl (by have hc : ((2) : Int32).toInt = 2 := (by decide); omega), List.forall_mem_cons.mpr ⟨hd_p2 t85 rfl (by have hc : ((8) : Int32).toInt = 8 := (by decide); omega), fun _ h => absurd h List.not_mem_nil⟩⟩⟩⟩⟩⟩⟩⟩⟩⟩⟩⟩⟩, ?_⟩
  refine k _ ?_ ?_ ?_ ?_
  · exact fun j hj hn => (hd_keep hB' (Nat.lt_of_lt_of_le hj (by decide +kernel)) (by simp; omega)).trans (hF j (Nat.lt_of_lt_of_le hj (by decide)))
  · exact hd_gi (x := .inl (.int 1)) (by decide +kernel) rfl
  · exact hd_gi (x := .inl (.int 0)) (by decide +kernel) rfl
  · exact hd_gi (x := .inr (.inl 86)) (by decide +kernel) t86
theorem k0pq_52_p4 {Ls : Nat} {xs : Nat → Int32} {d : Nat} {Q : Option Value → jm_h → Prop} (hd : 7 ≤ d) (F : Nat → sy_d) (X1 X2 : List jm_c) (hB : iv_in F iv_B0)
    (h0 : (sy_i F 83).toInt ≤ 400)
    (h1 : (sy_i F 82).toInt ≠ 0)
    (h2 : 0 ≤ (sy_i F 33).toInt)
    (h3 : (sy_i F 33).toInt ≤ 400)
    (h4 : 0 ≤ (sy_i F 33).toInt ∧ (sy_i F 33).toInt < 401)
    (h5 : ((sy_ai F 39).getD (sy_i F 33).toNatClampNeg 0).toInt ≠ 26)
    (h6 : 0 ≤ (sy_i F 33).toInt)
    (h7 : (sy_i F 33).toInt ≤ 400)
    (h8 : 0 ≤ (sy_i F 33).toInt ∧ (sy_i F 33).toInt < 401)
    (h9 : ((sy_ai F 39).getD (sy_i F 33).toNatClampNeg 0).toInt ≠ 0)
    (h10 : ((sy_ai F 39).getD (sy_i F 33).toNatClampNeg 0).toInt ≠ 1)
    (h11 : 2 ≤ ((sy_ai F 39).getD (sy_i F 33).toNatClampNeg 0).toInt)
    (h12 : 7 < ((sy_ai F 39).getD (sy_i F 33).toNatClampNeg 0).toInt)
    (h13 : 8 ≤ ((sy_ai F 39).getD (sy_i F 33).toNatClampNeg 0).toInt)
    (h14 : 10 < ((sy_ai F 39).getD (sy_i F 33).toNatClampNeg 0).toInt)
    (k : ∀ F1 : Nat → sy_d, (∀ j, j < 82 → j ≠ 34 → F1 j = F j) → F1 34 = .inl (.int ((1 : Int32))) → F1 82 = .inl (.int ((0 : Int32))) → F1 83 = .inl (.int ((sy_i F 83) + ((1 : Int32)))) → hd_W Ls xs d jm_M31 Q (52, sy_dL F1 [some (.inl (.ref 30)), none, none, none, some (.inr (.inl 82)), some (.inr (.inl 83)), none], sy_dS F1 [], sy_dh F1 X1 X2 (iv_H 0), 0, 0)) :
    hd_W Ls xs d jm_M31 Q (52, sy_dL F [some (.inl (.ref 30)), none, none, none, some (.inr (.inl 82)), some (.inr (.inl 83)), none], sy_dS F [], sy_dh F X1 X2 (iv_H 0), 0, 0) := by
  refine hd_run (s := 0) (nv := 84) (pc := 52) (L := [some (.inl (.ref 30)), none, none, none, some (.inr (.inl 82)), some (.inr (.inl 83)), none]) (S := []) (uh := hd_ov (iv_id 0 iv_B0) [(34, .inl (.inl (.int 1)))]) (ul := [.inl (.inl (.int 0)), .inl (.inr (.inl 86))]) (f := true) (sp := [52, 100, 115, 143, 168, 189]) (d0 := 6) (O := [false, false, false, false, false, false, false, true, true, false, true, false, true]) (T := [(30, [.inr (.inl 33)], [.inr (.inl 39)]), (30, [.inr (.inl 33)], [.inr (.inl 39)]), (0, [.inr (.inl 83), .inl (.int 1)], [])]) (P := [(3, .inl (.int 400), .inr (.inl 83)), (1, .inr (.inl 82), .inl (.int 0)), (3, .inr (.inl 33), .inl (.int 0)), (3, .inl (.int 400), .inr (.inl 33)), (6, .inr (.inl 33), .inl (.ref 401)), (1, .inr (.inl 84), .inl (.int 26)), (3, .inr (.inl 33), .inl (.int 0)), (3, .inl (.int 400), .inr (.inl 33)), (6, .inr (.inl 33), .inl (.ref 401)), (1, .inr (.inl 85), .inl (.int 0)), (1, .inr (.inl 85), .inl (.int 1)), (3, .inr (.inl 85), .inl (.int 2)), (2, .inl (.int 7), .inr (.inl 85)), (3, .inr (.inl 85), .inl (.int 8)), (2, .inl (.int 10), .inr (.inl 85))]) jm_ok31 (by decide +kernel) (by decide +kernel) hd F X1 X2 (fun F' hF hs => ?_)
  have b83 := hd_b (F := F) (F' := F') (k := 83) (hF 83 (by decide))
  have b82 := hd_b (F := F) (F' := F') (k := 82) (hF 82 (by decide))
  have b33 := hd_b (F := F) (F' := F') (k := 33) (hF 33 (by decide))
  have a39 := hd_ba (F := F) (F' := F') (k := 39) (hF 39 (by decide))
  have t84 : sy_dv F' (.inr (.inl 84)) = .int ((sy_ai F 39).getD (sy_i F 33).toNatClampNeg 0) := hd_rd (hs 0 _ rfl) b33 a39
  have t85 : sy_dv F' (.inr (.inl 85)) = .int ((sy_ai F 39).getD (sy_i F 33).toNatClampNeg 0) := hd_rd (hs 1 _ rfl) b33 a39
  have t86 : sy_dv F' (.inr (.inl 86)) = .int ((sy_i F 83) + ((1 : Int32))) := hd_o (hs 2 _ rfl) b83 rfl rfl
  have hB' : iv_in F' iv_B0 := iv_in_eq hB (fun j hj => hF j (Nat.lt_of_lt_of_le hj (by decide +kernel)))
  refine ⟨List.forall_mem_cons.mpr ⟨hd_p3 rfl b83 (by have hc : ((400) : Int32).toInt = 400 := (by decide); omega), List.forall_mem_cons.mpr ⟨hd_p1 b82 rfl (by have hc : ((0) : Int32).toInt = 0 := (by decide); omega), List.forall_mem_cons.mpr ⟨hd_p3 b33 rfl (by have hc : ((0) : Int32).toInt = 0 := (by decide); omega), List.forall_mem_cons.mpr ⟨hd_p3 rfl b33 (by have hc : ((400) : Int32).toInt = 400 := (by decide); omega), List.forall_mem_cons.mpr ⟨hd_pb b33 (by first | exact h4 | exact h4), List.forall_mem_cons.mpr ⟨hd_p1 t84 rfl (by have hc : ((26) : Int32).toInt = 26 := (by decide); omega), List.forall_mem_cons.mpr ⟨hd_p3 b33 rfl (by have hc : ((0) : Int32).toInt = 0 := (by decide); omega), List.forall_mem_cons.mpr ⟨hd_p3 rfl b33 (by have hc : ((400) : Int32).toInt = 400 := (by decide); omega), List.forall_mem_cons.mpr ⟨hd_pb b33 (by first | exact h8 | exact h8), List.forall_mem_cons.mpr ⟨hd_p1 t85 rfl (by have hc : ((0) : Int32).toInt = 0 := (by decide); omega), List.forall_mem_cons.mpr ⟨hd_p1 t85 rfl (by have hc : ((1) : Int32).toInt = 1 := (by decide); omega), List.forall_mem_cons.mpr ⟨hd_p3 t85 rfl (by have hc : ((2) : Int32).toInt = 2 := (by decide); omega), List.forall_mem_cons.mpr ⟨hd_p2 rfl t85 (by have hc : ((7) : Int32).toInt = 7 := (by decide); omega), List.forall_mem_cons.mpr ⟨hd_p3 t85 rfl (by have hc : ((8) : Int32).toInt = 8 := (by decide); omega), List.forall_mem_cons.mpr ⟨hd_p2 rfl t85 (by have hc : ((10) : Int32).toInt = 10 := (by decide); omega), fun _ h => absurd h List.not_mem_nil⟩⟩⟩⟩⟩⟩⟩⟩⟩⟩⟩⟩⟩⟩⟩, ?_⟩
  refine k _ ?_ ?_ ?_ ?_
  · exact fun j hj hn => (hd_keep hB' (Nat.lt_of_lt_of_le hj (by decide +kernel)) (by simp; omega)).trans (hF j (Nat.lt_of_lt_of_le hj (by decide)))
  · exact hd_gi (x := .inl (.int 1)) (by decide +kernel) rfl
  · exact hd_gi (x := .inl (.int 0)) (by decide +kernel) rfl
  · exact hd_gi (x := .inr (.inl 86)) (by decide +kernel) t86
theorem k0pq_52_p5 {Ls : Nat} {xs : Nat → Int32} {d : Nat} {Q : Option Value → jm_h → Prop} (hd : 7 ≤ d) (F : Nat → sy_d) (X1 X2 : List jm_c) (hB : iv_in F iv_B0)
    (h0 : (sy_i F 83).toInt ≤ 400)
    (h1 : (sy_i F 82).toInt ≠ 0)
    (h2 : 0 ≤ (sy_i F 33).toInt)
    (h3 : (sy_i F 33).toInt ≤ 400)
    (h4 : 0 ≤ (sy_i F 33).toInt ∧ (sy_i F 33).toInt < 401)
    (h5 : ((sy_ai F 39).getD (sy_i F 33).toNatClampNeg 0).toInt ≠ 26)
    (h6 : 0 ≤ (sy_i F 33).toInt)
    (h7 : (sy_i F 33).toInt ≤ 400)
    (h8 : 0 ≤ (sy_i F 33).toInt ∧ (sy_i F 33).toInt < 401)
    (h9 : ((sy_ai F 39).getD (sy_i F 33).toNatClampNeg 0).toInt ≠ 0)
    (h10 : ((sy_ai F 39).getD (sy_i F 33).toNatClampNeg 0).toInt ≠ 1)
    (h11 : 2 ≤ ((sy_ai F 39).getD (sy_i F 33).toNatClampNeg 0).toInt)
    (h12 : 7 < ((sy_ai F 39).getD (sy_i F 33).toNatClampNeg 0).toInt)
    (h13 : 8 ≤ ((sy_ai F 39).getD (sy_i F 33).toNatClampNeg 0).toInt)
    (h14 : ((sy_ai F 39).getD (sy_i F 33).toNatClampNeg 0).toInt ≤ 10)
    (k : ∀ F1 : Nat → sy_d, (∀ j, j < 82 → True → F1 j = F j) → F1 82 = .inl (.int (sy_i F 83)) → F1 83 = .inl (.int ((sy_ai F 39).getD (sy_i F 33).toNatClampNeg 0)) → hd_W Ls xs d jm_M31 Q (168, sy_dL F1 [some (.inl (.ref 30)), none, none, none, none, some (.inr (.inl 82)), none], sy_dS F1 [.inr (.inl 83), .inl (.ref 30)], sy_dh F1 X1 X2 (iv_H 0), 0, 0)) :
    hd_W Ls xs d jm_M31 Q (52, sy_dL F [some (.inl (.ref 30)), none, none, none, some (.inr (.inl 82)), some (.inr (.inl 83)), none], sy_dS F [], sy_dh F X1 X2 (iv_H 0), 0, 0) := by
  refine hd_run (s := 0) (nv := 84) (pc := 168) (L := [some (.inl (.ref 30)), none, none, none, none, some (.inr (.inl 82)), none]) (S := [.inr (.inl 83), .inl (.ref 30)]) (uh := hd_ov (iv_id 0 iv_B0) []) (ul := [.inl (.inr (.inl 83)), .inl (.inr (.inl 85))]) (f := true) (sp := [52, 100, 115, 143, 168, 189]) (d0 := 6) (O := [false, false, false, false, false, false, false, true, true, false, true, false, false]) (T := [(30, [.inr (.inl 33)], [.inr (.inl 39)]), (30, [.inr (.inl 33)], [.inr (.inl 39)])]) (P := [(3, .inl (.int 400), .inr (.inl 83)), (1, .inr (.inl 82), .inl (.int 0)), (3, .inr (.inl 33), .inl (.int 0)), (3, .inl (.int 400), .inr (.inl 33)), (6, .inr (.inl 33), .inl (.ref 401)), (1, .inr (.inl 84), .inl (.int 26)), (3, .inr (.inl 33), .inl (.int 0)), (3, .inl (.int 400), .inr (.inl 33)), (6, .inr (.inl 33), .inl (.ref 401)), (1, .inr (.inl 85), .inl (.int 0)), (1, .inr (.inl 85), .inl (.int 1)), (3, .inr (.inl 85), .inl (.int 2)), (2, .inl (.int 7), .inr (.inl 85)), (3, .inr (.inl 85), .inl (.int 8)), (3, .inl (.int 10), .inr (.inl 85))]) jm_ok31 (by decide +kernel) (by decide +kernel) hd F X1 X2 (fun F' hF hs => ?_)
  have b83 := hd_b (F := F) (F' := F') (k := 83) (hF 83 (by decide))
  have b82 := hd_b (F := F) (F' := F') (k := 82) (hF 82 (by decide))
  have b33 := hd_b (F := F) (F' := F') (k := 33) (hF 33 (by decide))
  have a39 := hd_ba (F := F) (F' := F') (k := 39) (hF 39 (by decide))
  have t84 : sy_dv F' (.inr (.inl 84)) = .int ((sy_ai F 39).getD (sy_i F 33).toNatClampNeg 0) := hd_rd (hs 0 _ rfl) b33 a39
  have t85 : sy_dv F' (.inr (.inl 85)) = .int ((sy_ai F 39).getD (sy_i F 33).toNatClampNeg 0) := hd_rd (hs 1 _ rfl) b33 a39
  have hB' : iv_in F' iv_B0 := iv_in_eq hB (fun j hj => hF j (Nat.lt_of_lt_of_le hj (by decide +kernel)))
  refine ⟨List.forall_mem_cons.mpr ⟨hd_p3 rfl b83 (by have hc : ((400) : Int32).toInt = 400 := (by decide); omega), List.forall_mem_cons.mpr ⟨hd_p1 b82 rfl (by have hc : ((0) : Int32).toInt = 0 := (by decide); omega), List.forall_mem_cons.mpr ⟨hd_p3 b33 rfl (by have hc : ((0) : Int32).toInt = 0 := (by decide); omega), List.forall_mem_cons.mpr ⟨hd_p3 rfl b33 (by have hc : ((400) : Int32).toInt = 400 := (by decide); omega), List.forall_mem_cons.mpr ⟨hd_pb b33 (by first | exact h4 | exact h4), List.forall_mem_cons.mpr ⟨hd_p1 t84 rfl (by have hc : ((26) : Int32).toInt = 26 := (by decide); omega), List.forall_mem_cons.mpr ⟨hd_p3 b33 rfl (by have hc : ((0) : Int32).toInt = 0 := (by decide); omega), List.forall_mem_cons.mpr ⟨hd_p3 rfl b33 (by have hc : ((400) : Int32).toInt = 400 := (by decide); omega), List.forall_mem_cons.mpr ⟨hd_pb b33 (by first | exact h8 | exact h8), List.forall_mem_cons.mpr ⟨hd_p1 t85 rfl (by have hc : ((0) : Int32).toInt = 0 := (by decide); omega), List.forall_mem_cons.mpr ⟨hd_p1 t85 rfl (by have hc : ((1) : Int32).toInt = 1 := (by decide); omega), List.forall_mem_cons.mpr ⟨hd_p3 t85 rfl (by have hc : ((2) : Int32).toInt = 2 := (by decide); omega), List.forall_mem_cons.mpr ⟨hd_p2 rfl t85 (by have hc : ((7) : Int32).toInt = 7 := (by decide); omega), List.forall_mem_cons.mpr ⟨hd_p3 t85 rfl (by have hc : ((8) : Int32).toInt = 8 := (by decide); omega), List.forall_mem_cons.mpr ⟨hd_p3 rfl t85 (by have hc : ((10) : Int32).toInt = 10 := (by decide); omega), fun _ h => absurd h List.not_mem_nil⟩⟩⟩⟩⟩⟩⟩⟩⟩⟩⟩⟩⟩⟩⟩, ?_⟩
  refine k _ ?_ ?_ ?_
  · exact fun j hj _ => (hd_keep hB' (Nat.lt_of_lt_of_le hj (by decide +kernel)) (by simp)).trans (hF j (Nat.lt_of_lt_of_le hj (by decide)))
  · exact hd_gi (x := .inr (.inl 83)) (by decide +kernel) b83
  · exact hd_gi (x := .inr (.inl 85)) (by decide +kernel) t85
theorem k0pq_52_p6 {Ls : Nat} {xs : Nat → Int32} {d : Nat} {Q : Option Value → jm_h → Prop} (hd : 7 ≤ d) (F : Nat → sy_d) (X1 X2 : List jm_c) (hB : iv_in F iv_B0)
    (h0 : (sy_i F 83).toInt ≤ 400)
    (h1 : (sy_i F 82).toInt ≠ 0)
    (h2 : 0 ≤ (sy_i F 33).toInt)
    (h3 : (sy_i F 33).toInt ≤ 400)
    (h4 : 0 ≤ (sy_i F 33).toInt ∧ (sy_i F 33).toInt < 401)
    (h5 : ((sy_ai F 39).getD (sy_i F 33).toNatClampNeg 0).toInt ≠ 26)
    (h6 : 0 ≤ (sy_i F 33).toInt)
    (h7 : (sy_i F 33).toInt ≤ 400)
    (h8 : 0 ≤ (sy_i F 33).toInt ∧ (sy_i F 33).toInt < 401)
    (h9 : ((sy_ai F 39).getD (sy_i F 33).toNatClampNeg 0).toInt ≠ 0)
    (h10 : ((sy_ai F 39).getD (sy_i F 33).toNatClampNeg 0).toInt ≠ 1)
    (h11 : 2 ≤ ((sy_ai F 39).getD (sy_i F 33).toNatClampNeg 0).toInt)
    (h12 : ((sy_ai F 39).getD (sy_i F 33).toNatClampNeg 0).toInt ≤ 7)
    (k : ∀ F1 : Nat → sy_d, (∀ j, j < 82 → True → F1 j = F j) → F1 82 = .inl (.int (sy_i F 83)) → F1 83 = .inl (.int (((sy_ai F 39).getD (sy_i F 33).toNatClampNeg 0) - ((2 : Int32)))) → F1 84 = .inl (.int ((sy_ai F 39).getD (sy_i F 33).toNatClampNeg 0)) → hd_W Ls xs d jm_M31 Q (143, sy_dL F1 [some (.inl (.ref 30)), none, none, none, none, some (.inr (.inl 82)), none], sy_dS F1 [.inr (.inl 83), .inr (.inl 84), .inl (.ref 30)], sy_dh F1 X1 X2 (iv_H 0), 0, 0)) :
    hd_W Ls xs d jm_M31 Q (52, sy_dL F [some (.inl (.ref 30)), none, none, none, some (.inr (.inl 82)), some (.inr (.inl 83)), none], sy_dS F [], sy_dh F X1 X2 (iv_H 0), 0, 0) := by
  refine hd_run (s := 0) (nv := 84) (pc := 143) (L := [some (.inl (.ref 30)), none, none, none, none, some (.inr (.inl 82)), none]) (S := [.inr (.inl 83), .inr (.inl 84), .inl (.ref 30)]) (uh := hd_ov (iv_id 0 iv_B0) []) (ul := [.inl (.inr (.inl 83)), .inl (.inr (.inl 86)), .inl (.inr (.inl 85))]) (f := true) (sp := [52, 100, 115, 143, 168, 189]) (d0 := 6) (O := [false, false, false, false, false, false, false, true, true, false, false]) (T := [(30, [.inr (.inl 33)], [.inr (.inl 39)]), (30, [.inr (.inl 33)], [.inr (.inl 39)]), (1, [.inr (.inl 85), .inl (.int 2)], [])]) (P := [(3, .inl (.int 400), .inr (.inl 83)), (1, .inr (.inl 82), .inl (.int 0)), (3, .inr (.inl 33), .inl (.int 0)), (3, .inl (.int 400), .inr (.inl 33)), (6, .inr (.inl 33), .inl (.ref 401)), (1, .inr (.inl 84), .inl (.int 26)), (3, .inr (.inl 33), .inl (.int 0)), (3, .inl (.int 400), .inr (.inl 33)), (6, .inr (.inl 33), .inl (.ref 401)), (1, .inr (.inl 85), .inl (.int 0)), (1, .inr (.inl 85), .inl (.int 1)), (3, .inr (.inl 85), .inl (.int 2)), (3, .inl (.int 7), .inr (.inl 85))]) jm_ok31 (by decide +kernel) (by decide +kernel) hd F X1 X2 (fun F' hF hs => ?_)
  have b83 := hd_b (F := F) (F' := F') (k := 83) (hF 83 (by decide))
  have b82 := hd_b (F := F) (F' := F') (k := 82) (hF 82 (by decide))
  have b33 := hd_b (F := F) (F' := F') (k := 33) (hF 33 (by decide))
  have a39 := hd_ba (F := F) (F' := F') (k := 39) (hF 39 (by decide))
  have t84 : sy_dv F' (.inr (.inl 84)) = .int ((sy_ai F 39).getD (sy_i F 33).toNatClampNeg 0) := hd_rd (hs 0 _ rfl) b33 a39
  have t85 : sy_dv F' (.inr (.inl 85)) = .int ((sy_ai F 39).getD (sy_i F 33).toNatClampNeg 0) := hd_rd (hs 1 _ rfl) b33 a39
  have t86 : sy_dv F' (.inr (.inl 86)) = .int (((sy_ai F 39).getD (sy_i F 33).toNatClampNeg 0) - ((2 : Int32))) := hd_o (hs 2 _ rfl) t85 rfl rfl
  have hB' : iv_in F' iv_B0 := iv_in_eq hB (fun j hj => hF j (Nat.lt_of_lt_of_le hj (by decide +kernel)))
  refine ⟨List.forall_mem_cons.mpr ⟨hd_p3 rfl b83 (by have hc : ((400) : Int32).toInt = 400 := (by decide); omega), List.forall_mem_cons.mpr ⟨hd_p1 b82 rfl (by have hc : ((0) : Int32).toInt = 0 := (by decide); omega), List.forall_mem_cons.mpr ⟨hd_p3 b33 rfl (by have hc : ((0) : Int32).toInt = 0 := (by decide); omega), List.forall_mem_cons.mpr ⟨hd_p3 rfl b33 (by have hc : ((400) : Int32).toInt = 400 := (by decide); omega), List.forall_mem_cons.mpr ⟨hd_pb b33 (by first | exact h4 | exact h4), List.forall_mem_cons.mpr ⟨hd_p1 t84 rfl (by have hc : ((26) : Int32).toInt = 26 := (by decide); omega), List.forall_mem_cons.mpr ⟨hd_p3 b33 rfl (by have hc : ((0) : Int32).toInt = 0 := (by decide); omega), List.forall_mem_cons.mpr ⟨hd_p3 rfl b33 (by have hc : ((400) : Int32).toInt = 400 := (by decide); omega), List.forall_mem_cons.mpr ⟨hd_pb b33 (by first | exact h8 | exact h8), List.forall_mem_cons.mpr ⟨hd_p1 t85 rfl (by have hc : ((0) : Int32).toInt = 0 := (by decide); omega), List.forall_mem_cons.mpr ⟨hd_p1 t85 rfl (by have hc : ((1) : Int32).toInt = 1 := (by decide); omega), List.forall_mem_cons.mpr ⟨hd_p3 t85 rfl (by have hc : ((2) : Int32).toInt = 2 := (by decide); omega), List.forall_mem_cons.mpr ⟨hd_p3 rfl t85 (by have hc : ((7) : Int32).toInt = 7 := (by decide); omega), fun _ h => absurd h List.not_mem_nil⟩⟩⟩⟩⟩⟩⟩⟩⟩⟩⟩⟩⟩, ?_⟩
  refine k _ ?_ ?_ ?_ ?_
  · exact fun j hj _ => (hd_keep hB' (Nat.lt_of_lt_of_le hj (by decide +kernel)) (by simp)).trans (hF j (Nat.lt_of_lt_of_le hj (by decide)))
  · exact hd_gi (x := .inr (.inl 83)) (by decide +kernel) b83
  · exact hd_gi (x := .inr (.inl 86)) (by decide +kernel) t86
  · exact hd_gi (x := .inr (.inl 85)) (by decide +kernel) t85
theorem k0pq_52_p7 {Ls : Nat} {xs : Nat → Int32} {d : Nat} {Q : Option Value → jm_h → Prop} (hd : 7 ≤ d) (F : Nat → sy_d) (X1 X2 : List jm_c) (hB : iv_in F iv_B0)
    (h0 : (sy_i F 83).toInt ≤ 400)
    (h1 : (sy_i F 82).toInt ≠ 0)
    (h2 : 0 ≤ (sy_i F 33).toInt)
    (h3 : (sy_i F 33).toInt ≤ 400)
    (h4 : 0 ≤ (sy_i F 33).toInt ∧ (sy_i F 33).toInt < 401)
    (h5 : ((sy_ai F 39).getD (sy_i F 33).toNatClampNeg 0).toInt ≠ 26)
    (h6 : 0 ≤ (sy_i F 33).toInt)
    (h7 : (sy_i F 33).toInt ≤ 400)
    (h8 : 0 ≤ (sy_i F 33).toInt ∧ (sy_i F 33).toInt < 401)
    (h9 : ((sy_ai F 39).getD (sy_i F 33).toNatClampNeg 0).toInt ≠ 0)
    (h10 : ((sy_ai F 39).getD (sy_i F 33).toNatClampNeg 0).toInt = 1)
    (k : ∀ F1 : Nat → sy_d, (∀ j, j < 82 → True → F1 j = F j) → F1 82 = .inl (.int (sy_i F 83)) → hd_W Ls xs d jm_M31 Q (115, sy_dL F1 [some (.inl (.ref 30)), none, none, none, none, some (.inr (.inl 82)), none], sy_dS F1 [.inl (.ref 30)], sy_dh F1 X1 X2 (iv_H 0), 0, 0)) :
    hd_W Ls xs d jm_M31 Q (52, sy_dL F [some (.inl (.ref 30)), none, none, none, some (.inr (.inl 82)), some (.inr (.inl 83)), none], sy_dS F [], sy_dh F X1 X2 (iv_H 0), 0, 0) := by
  refine hd_run (s := 0) (nv := 84) (pc := 115) (L := [some (.inl (.ref 30)), none, none, none, none, some (.inr (.inl 82)), none]) (S := [.inl (.ref 30)]) (uh := hd_ov (iv_id 0 iv_B0) []) (ul := [.inl (.inr (.inl 83))]) (f := true) (sp := [52, 100, 115, 143, 168, 189]) (d0 := 6) (O := [false, false, false, false, false, false, false, true, false]) (T := [(30, [.inr (.inl 33)], [.inr (.inl 39)]), (30, [.inr (.inl 33)], [.inr (.inl 39)])]) (P := [(3, .inl (.int 400), .inr (.inl 83)), (1, .inr (.inl 82), .inl (.int 0)), (3, .inr (.inl 33), .inl (.int 0)), (3, .inl (.int 400), .inr (.inl 33)), (6, .inr (.inl 33), .inl (.ref 401)), (1, .inr (.inl 84), .inl (.int 26)), (3, .inr (.inl 33), .inl (.int 0)), (3, .inl (.int 400), .inr (.inl 33)), (6, .inr (.inl 33), .inl (.ref 401)), (1, .inr (.inl 85), .inl (.int 0)), (0, .inr (.inl 85), .inl (.int 1))]) jm_ok31 (by decide +kernel) (by decide +kernel) hd F X1 X2 (fun F' hF hs => ?_)
  have b83 := hd_b (F := F) (F' := F') (k := 83) (hF 83 (by decide))
  have b82 := hd_b (F := F) (F' := F') (k := 82) (hF 82 (by decide))
  have b33 := hd_b (F := F) (F' := F') (k := 33) (hF 33 (by decide))
  have a39 := hd_ba (F := F) (F' := F') (k := 39) (hF 39 (by decide))
  have t84 : sy_dv F' (.inr (.inl 84)) = .int ((sy_ai F 39).getD (sy_i F 33).toNatClampNeg 0) := hd_rd (hs 0 _ rfl) b33 a39
  have t85 : sy_dv F' (.inr (.inl 85)) = .int ((sy_ai F 39).getD (sy_i F 33).toNatClampNeg 0) := hd_rd (hs 1 _ rfl) b33 a39
  have hB' : iv_in F' iv_B0 := iv_in_eq hB (fun j hj => hF j (Nat.lt_of_lt_of_le hj (by decide +kernel)))
  refine ⟨List.forall_mem_cons.mpr ⟨hd_p3 rfl b83 (by have hc : ((400) : Int32).toInt = 400 := (by decide); omega), List.forall_mem_cons.mpr ⟨hd_p1 b82 rfl (by have hc : ((0) : Int32).toInt = 0 := (by decide); omega), List.forall_mem_cons.mpr ⟨hd_p3 b33 rfl (by have hc : ((0) : Int32).toInt = 0 := (by decide); omega), List.forall_mem_cons.mpr ⟨hd_p3 rfl b33 (by have hc : ((400) : Int32).toInt = 400 := (by decide); omega), List.forall_mem_cons.mpr ⟨hd_pb b33 (by first | exact h4 | exact h4), List.forall_mem_cons.mpr ⟨hd_p1 t84 rfl (by have hc : ((26) : Int32).toInt = 26 := (by decide); omega), List.forall_mem_cons.mpr ⟨hd_p3 b33 rfl (by have hc : ((0) : Int32).toInt = 0 := (by decide); omega), List.forall_mem_cons.mpr ⟨hd_p3 rfl b33 (by have hc : ((400) : Int32).toInt = 400 := (by decide); omega), List.forall_mem_cons.mpr ⟨hd_pb b33 (by first | exact h8 | exact h8), List.forall_mem_cons.mpr ⟨hd_p1 t85 rfl (by have hc : ((0) : Int32).toInt = 0 := (by decide); omega), List.forall_mem_cons.mpr ⟨hd_p0 t85 rfl (by have hc : ((1) : Int32).toInt = 1 := (by decide); omega), fun _ h => absurd h List.not_mem_nil⟩⟩⟩⟩⟩⟩⟩⟩⟩⟩⟩, ?_⟩
  refine k _ ?_ ?_
  · exact fun j hj _ => (hd_keep hB' (Nat.lt_of_lt_of_le hj (by decide +kernel)) (by simp)).trans (hF j (Nat.lt_of_lt_of_le hj (by decide)))
  · exact hd_gi (x := .inr (.inl 83)) (by decide +kernel) b83
theorem k0pq_52_p8 {Ls : Nat} {xs : Nat → Int32} {d : Nat} {Q : Option Value → jm_h → Prop} (hd : 7 ≤ d) (F : Nat → sy_d) (X1 X2 : List jm_c) (hB : iv_in F iv_B0)
    (h0 : (sy_i F 83).toInt ≤ 400)
    (h1 : (sy_i F 82).toInt ≠ 0)
    (h2 : 0 ≤ (sy_i F 33).toInt)
    (h3 : (sy_i F 33).toInt ≤ 400)
    (h4 : 0 ≤ (sy_i F 33).toInt ∧ (sy_i F 33).toInt < 401)
    (h5 : ((sy_ai F 39).getD (sy_i F 33).toNatClampNeg 0).toInt ≠ 26)
    (h6 : 0 ≤ (sy_i F 33).toInt)
    (h7 : (sy_i F 33).toInt ≤ 400)
    (h8 : 0 ≤ (sy_i F 33).toInt ∧ (sy_i F 33).toInt < 401)
    (h9 : ((sy_ai F 39).getD (sy_i F 33).toNatClampNeg 0).toInt = 0)
    (k : ∀ F1 : Nat → sy_d, (∀ j, j < 82 → True → F1 j = F j) → F1 82 = .inl (.int (sy_i F 83)) → hd_W Ls xs d jm_M31 Q (100, sy_dL F1 [some (.inl (.ref 30)), none, none, none, none, some (.inr (.inl 82)), none], sy_dS F1 [.inl (.ref 30)], sy_dh F1 X1 X2 (iv_H 0), 0, 0)) :
    hd_W Ls xs d jm_M31 Q (52, sy_dL F [some (.inl (.ref 30)), none, none, none, some (.inr (.inl 82)), some (.inr (.inl 83)), none], sy_dS F [], sy_dh F X1 X2 (iv_H 0), 0, 0) := by
  refine hd_run (s := 0) (nv := 84) (pc := 100) (L := [some (.inl (.ref 30)), none, none, none, none, some (.inr (.inl 82)), none]) (S := [.inl (.ref 30)]) (uh := hd_ov (iv_id 0 iv_B0) []) (ul := [.inl (.inr (.inl 83))]) (f := true) (sp := [52, 100, 115, 143, 168, 189]) (d0 := 6) (O := [false, false, false, false, false, false, false, false]) (T := [(30, [.inr (.inl 33)], [.inr (.inl 39)]), (30, [.inr (.inl 33)], [.inr (.inl 39)])]) (P := [(3, .inl (.int 400), .inr (.inl 83)), (1, .inr (.inl 82), .inl (.int 0)), (3, .inr (.inl 33), .inl (.int 0)), (3, .inl (.int 400), .inr (.inl 33)), (6, .inr (.inl 33), .inl (.ref 401)), (1, .inr (.inl 84), .inl (.int 26)), (3, .inr (.inl 33), .inl (.int 0)), (3, .inl (.int 400), .inr (.inl 33)), (6, .inr (.inl 33), .inl (.ref 401)), (0, .inr (.inl 85), .inl (.int 0))]) jm_ok31 (by decide +kernel) (by decide +kernel) hd F X1 X2 (fun F' hF hs => ?_)
  have b83 := hd_b (F := F) (F' := F') (k := 83) (hF 83 (by decide))
  have b82 := hd_b (F := F) (F' := F') (k := 82) (hF 82 (by decide))
  have b33 := hd_b (F := F) (F' := F') (k := 33) (hF 33 (by decide))
  have a39 := hd_ba (F := F) (F' := F') (k := 39) (hF 39 (by decide))
  have t84 : sy_dv F' (.inr (.inl 84)) = .int ((sy_ai F 39).getD (sy_i F 33).toNatClampNeg 0) := hd_rd (hs 0 _ rfl) b33 a39
  have t85 : sy_dv F' (.inr (.inl 85)) = .int ((sy_ai F 39).getD (sy_i F 33).toNatClampNeg 0) := hd_rd (hs 1 _ rfl) b33 a39
  have hB' : iv_in F' iv_B0 := iv_in_eq hB (fun j hj => hF j (Nat.lt_of_lt_of_le hj (by decide +kernel)))
  refine ⟨List.forall_mem_cons.mpr ⟨hd_p3 rfl b83 (by have hc : ((400) : Int32).toInt = 400 := (by decide); omega), List.forall_mem_cons.mpr ⟨hd_p1 b82 rfl (by have hc : ((0) : Int32).toInt = 0 := (by decide); omega), List.forall_mem_cons.mpr ⟨hd_p3 b33 rfl (by have hc : ((0) : Int32).toInt = 0 := (by decide); omega), List.forall_mem_cons.mpr ⟨hd_p3 rfl b33 (by have hc : ((400) : Int32).toInt = 400 := (by decide); omega), List.forall_mem_cons.mpr ⟨hd_pb b33 (by first | exact h4 | exact h4), List.forall_mem_cons.mpr ⟨hd_p1 t84 rfl (by have hc : ((26) : Int32).toInt = 26 := (by decide); omega), List.forall_mem_cons.mpr ⟨hd_p3 b33 rfl (by have hc : ((0) : Int32).toInt = 0 := (by decide); omega), List.forall_mem_cons.mpr ⟨hd_p3 rfl b33 (by have hc : ((400) : Int32).toInt = 400 := (by decide); omega), List.forall_mem_cons.mpr ⟨hd_pb b33 (by first | exact h8 | exact h8), List.forall_mem_cons.mpr ⟨hd_p0 t85 rfl (by have hc : ((0) : Int32).toInt = 0 := (by decide); omega), fun _ h => absurd h List.not_mem_nil⟩⟩⟩⟩⟩⟩⟩⟩⟩⟩, ?_⟩
  refine k _ ?_ ?_
  · exact fun j hj _ => (hd_keep hB' (Nat.lt_of_lt_of_le hj (by decide +kernel)) (by simp)).trans (hF j (Nat.lt_of_lt_of_le hj (by decide)))
  · exact hd_gi (x := .inr (.inl 83)) (by decide +kernel) b83
theorem k0pq_52 {Ls : Nat} {xs : Nat → Int32} {d : Nat} {Q : Option Value → jm_h → Prop} (hd : 7 ≤ d) (F : Nat → sy_d) (X1 X2 : List jm_c) (hB : iv_in F iv_B0)
    (a83 : 0 ≤ (sy_i F 83).toInt ∧ (sy_i F 83).toInt ≤ 401)
    (k0 : 400 < (sy_i F 83).toInt → ∀ F1 : Nat → sy_d, iv_in F1 iv_B0 → (∀ j, j < 82 → j ∉ ([] : List Nat) → F1 j = F j) → (sy_i F1 33).toInt = (sy_i F 33).toInt → (sy_i F1 34).toInt = (sy_i F 34).toInt → (sy_i F1 35).toInt = (sy_i F 35).toInt → (sy_i F1 36).toInt = (sy_i F 36).toInt → (sy_i F1 37).toInt = (sy_i F 37).toInt → (sy_i F1 38).toInt = (sy_i F 38).toInt → (sy_i F1 18).toInt = (sy_i F 18).toInt → (sy_i F1 19).toInt = (sy_i F 19).toInt → sy_ai F1 39 = sy_ai F 39 → sy_ai F1 40 = sy_ai F 40 → (sy_i F1 82).toInt = (sy_i F 82).toInt → hd_W Ls xs d jm_M31 Q (189, sy_dL F1 [some (.inl (.ref 30)), none, none, none, some (.inr (.inl 82)), none, none], sy_dS F1 [], sy_dh F1 X1 X2 (iv_H 0), 0, 0))
    (k1 : (sy_i F 83).toInt ≤ 400 → (sy_i F 82).toInt = 0 → ∀ F1 : Nat → sy_d, iv_in F1 iv_B0 → (∀ j, j < 82 → j ∉ ([] : List Nat) → F1 j = F j) → (sy_i F1 33).toInt = (sy_i F 33).toInt → (sy_i F1 34).toInt = (sy_i F 34).toInt → (sy_i F1 35).toInt = (sy_i F 35).toInt → (sy_i F1 36).toInt = (sy_i F 36).toInt → (sy_i F1 37).toInt = (sy_i F 37).toInt → (sy_i F1 38).toInt = (sy_i F 38).toInt → (sy_i F1 18).toInt = (sy_i F 18).toInt → (sy_i F1 19).toInt = (sy_i F 19).toInt → sy_ai F1 39 = sy_ai F 39 → sy_ai F1 40 = sy_ai F 40 → (sy_i F1 82).toInt = (sy_i F 82).toInt → hd_W Ls xs d jm_M31 Q (189, sy_dL F1 [some (.inl (.ref 30)), none, none, none, some (.inr (.inl 82)), none, none], sy_dS F1 [], sy_dh F1 X1 X2 (iv_H 0), 0, 0))
    (k2 : (sy_i F 83).toInt ≤ 400 → (sy_i F 82).toInt ≠ 0 → 0 ≤ (sy_i F 33).toInt → (sy_i F 33).toInt ≤ 400 → ((sy_ai F 39).getD ((sy_i F 33).toInt).toNat 0).toInt = 26 → ∀ F1 : Nat → sy_d, iv_in F1 iv_B0 → (∀ j, j < 82 → j ∉ ([] : List Nat) → F1 j = F j) → (sy_i F1 33).toInt = (sy_i F 33).toInt → (sy_i F1 34).toInt = (sy_i F 34).toInt → (sy_i F1 35).toInt = (sy_i F 35).toInt → (sy_i F1 36).toInt = (sy_i F 36).toInt → (sy_i F1 37).toInt = (sy_i F 37).toInt → (sy_i F1 38).toInt = (sy_i F 38).toInt → (sy_i F1 18).toInt = (sy_i F 18).toInt → (sy_i F1 19).toInt = (sy_i F 19).toInt → sy_ai F1 39 = sy_ai F 39 → sy_ai F1 40 = sy_ai F 40 → (sy_i F1 82).toInt = (sy_i F 82).toInt → hd_W Ls xs d jm_M31 Q (189, sy_dL F1 [some (.inl (.ref 30)), none, none, none, some (.inr (.inl 82)), none, none], sy_dS F1 [], sy_dh F1 X1 X2 (iv_H 0), 0, 0))
    (k3 : (sy_i F 83).toInt ≤ 400 → (sy_i F 82).toInt ≠ 0 → 0 ≤ (sy_i F 33).toInt → (sy_i F 33).toInt ≤ 400 → ((sy_ai F 39).getD ((sy_i F 33).toInt).toNat 0).toInt ≠ 26 → 0 ≤ (sy_i F 33).toInt → (sy_i F 33).toInt ≤ 400 → ((sy_ai F 39).getD ((sy_i F 33).toInt).toNat 0).toInt ≠ 0 → ((sy_ai F 39).getD ((sy_i F 33).toInt).toNat 0).toInt ≠ 1 → ((sy_ai F 39).getD ((sy_i F 33).toInt).toNat 0).toInt < 2 → ((sy_ai F 39).getD ((sy_i F 33).toInt).toNat 0).toInt < 8 → ∀ F1 : Nat → sy_d, iv_in F1 iv_B0 → (∀ j, j < 82 → j ∉ ([34] : List Nat) → F1 j = F j) → (sy_i F1 33).toInt = (sy_i F 33).toInt → (sy_i F1 34).toInt = 1 → (sy_i F1 35).toInt = (sy_i F 35).toInt → (sy_i F1 36).toInt = (sy_i F 36).toInt → (sy_i F1 37).toInt = (sy_i F 37).toInt → (sy_i F1 38).toInt = (sy_i F 38).toInt → (sy_i F1 18).toInt = (sy_i F 18).toInt → (sy_i F1 19).toInt = (sy_i F 19).toInt → sy_ai F1 39 = sy_ai F 39 → sy_ai F1 40 = sy_ai F 40 → (sy_i F1 82).toInt = 0 → (sy_i F1 83).toInt = ((sy_i F 83).toInt + 1) → hd_W Ls xs d jm_M31 Q (52, sy_dL F1 [some (.inl (.ref 30)), none, none, none, some (.inr (.inl 82)), some (.inr (.inl 83)), none], sy_dS F1 [], sy_dh F1 X1 X2 (iv_H 0), 0, 0))
    (k4 : (sy_i F 83).toInt ≤ 400 → (sy_i F 82).toInt ≠ 0 → 0 ≤ (sy_i F 33).toInt → (sy_i F 33).toInt ≤ 400 → ((sy_ai F 39).getD ((sy_i F 33).toInt).toNat 0).toInt ≠ 26 → 0 ≤ (sy_i F 33).toInt → (sy_i F 33).toInt ≤ 400 → ((sy_ai F 39).getD ((sy_i F 33).toInt).toNat 0).toInt ≠ 0 → ((sy_ai F 39).getD ((sy_i F 33).toInt).toNat 0).toInt ≠ 1 → 2 ≤ ((sy_ai F 39).getD ((sy_i F 33).toInt).toNat 0).toInt → 7 < ((sy_ai F 39).getD ((sy_i F 33).toInt).toNat 0).toInt → 8 ≤ ((sy_ai F 39).getD ((sy_i F 33).toInt).toNat 0).toInt → 10 < ((sy_ai F 39).getD ((sy_i F 33).toInt).toNat 0).toInt → ∀ F1 : Nat → sy_d, iv_in F1 iv_B0 → (∀ j, j < 82 → j ∉ ([34] : List Nat) → F1 j = F j) → (sy_i F1 33).toInt = (sy_i F 33).toInt → (sy_i F1 34).toInt = 1 → (sy_i F1 35).toInt = (sy_i F 35).toInt → (sy_i F1 36).toInt = (sy_i F 36).toInt → (sy_i F1 37).toInt = (sy_i F 37).toInt → (sy_i F1 38).toInt = (sy_i F 38).toInt → (sy_i F1 18).toInt = (sy_i F 18).toInt → (sy_i F1 19).toInt = (sy_i F 19).toInt → sy_ai F1 39 = sy_ai F 39 → sy_ai F1 40 = sy_ai F 40 → (sy_i F1 82).toInt = 0 → (sy_i F1 83).toInt = ((sy_i F 83).toInt + 1) → hd_W Ls xs d jm_M31 Q (52, sy_dL F1 [some (.inl (.ref 30)), none, none, none, some (.inr (.inl 82)), some (.inr (.inl 83)), none], sy_dS F1 [], sy_dh F1 X1 X2 (iv_H 0), 0, 0))
    (k5 : (sy_i F 83).toInt ≤ 400 → (sy_i F 82).toInt ≠ 0 → 0 ≤ (sy_i F 33).toInt → (sy_i F 33).toInt ≤ 400 → ((sy_ai F 39).getD ((sy_i F 33).toInt).toNat 0).toInt ≠ 26 → 0 ≤ (sy_i F 33).toInt → (sy_i F 33).toInt ≤ 400 → ((sy_ai F 39).getD ((sy_i F 33).toInt).toNat 0).toInt ≠ 0 → ((sy_ai F 39).getD ((sy_i F 33).toInt).toNat 0).toInt ≠ 1 → 2 ≤ ((sy_ai F 39).getD ((sy_i F 33).toInt).toNat 0).toInt → 7 < ((sy_ai F 39).getD ((sy_i F 33).toInt).toNat 0).toInt → 8 ≤ ((sy_ai F 39).getD ((sy_i F 33).toInt).toNat 0).toInt → ((sy_ai F 39).getD ((sy_i F 33).toInt).toNat 0).toInt ≤ 10 → ∀ F1 : Nat → sy_d, iv_in F1 iv_B0 → (∀ j, j < 82 → j ∉ ([] : List Nat) → F1 j = F j) → (sy_i F1 33).toInt = (sy_i F 33).toInt → (sy_i F1 34).toInt = (sy_i F 34).toInt → (sy_i F1 35).toInt = (sy_i F 35).toInt → (sy_i F1 36).toInt = (sy_i F 36).toInt → (sy_i F1 37).toInt = (sy_i F 37).toInt → (sy_i F1 38).toInt = (sy_i F 38).toInt → (sy_i F1 18).toInt = (sy_i F 18).toInt → (sy_i F1 19).toInt = (sy_i F 19).toInt → sy_ai F1 39 = sy_ai F 39 → sy_ai F1 40 = sy_ai F 40 → (sy_i F1 82).toInt = (sy_i F 83).toInt → (sy_i F1 83).toInt = ((sy_ai F 39).getD ((sy_i F 33).toInt).toNat 0).toInt → hd_W Ls xs d jm_M31 Q (168, sy_dL F1 [some (.inl (.ref 30)), none, none, none, none, some (.inr (.inl 82)), none], sy_dS F1 [.inr (.inl 83), .inl (.ref 30)], sy_dh F1 X1 X2 (iv_H 0), 0, 0))
    (k6 : (sy_i F 83).toInt ≤ 400 → (sy_i F 82).toInt ≠ 0 → 0 ≤ (sy_i F 33).toInt → (sy_i F 33).toInt ≤ 400 → ((sy_ai F 39).getD ((sy_i F 33).toInt).toNat 0).toInt ≠ 26 → 0 ≤ (sy_i F 33).toInt → (sy_i F 33).toInt ≤ 400 → ((sy_ai F 39).getD ((sy_i F 33).toInt).toNat 0).toInt ≠ 0 → ((sy_ai F 39).getD ((sy_i F 33).toInt).toNat 0).toInt ≠ 1 → 2 ≤ ((sy_ai F 39).getD ((sy_i F 33).toInt).toNat 0).toInt → ((sy_ai F 39).getD ((sy_i F 33).toInt).toNat 0).toInt ≤ 7 → ∀ F1 : Nat → sy_d, iv_in F1 iv_B0 → (∀ j, j < 82 → j ∉ ([] : List Nat) → F1 j = F j) → (sy_i F1 33).toInt = (sy_i F 33).toInt → (sy_i F1 34).toInt = (sy_i F 34).toInt → (sy_i F1 35).toInt = (sy_i F 35).toInt → (sy_i F1 36).toInt = (sy_i F 36).toInt → (sy_i F1 37).toInt = (sy_i F 37).toInt → (sy_i F1 38).toInt = (sy_i F 38).toInt → (sy_i F1 18).toInt = (sy_i F 18).toInt → (sy_i F1 19).toInt = (sy_i F 19).toInt → sy_ai F1 39 = sy_ai F 39 → sy_ai F1 40 = sy_ai F 40 → (sy_i F1 82).toInt = (sy_i F 83).toInt → (sy_i F1 83).toInt = (((sy_ai F 39).getD ((sy_i F 33).toInt).toNat 0).toInt - 2) → (sy_i F1 84).toInt = ((sy_ai F 39).getD ((sy_i F 33).toInt).toNat 0).toInt → hd_W Ls xs d jm_M31 Q (143, sy_dL F1 [some (.inl (.ref 30)), none, none, none, none, some (.inr (.inl 82)), none], sy_dS F1 [.inr (.inl 83), .inr (.inl 84), .inl (.ref 30)], sy_dh F1 X1 X2 (iv_H 0), 0, 0))
    (k7 : (sy_i F 83).toInt ≤ 400 → (sy_i F 82).toInt ≠ 0 → 0 ≤ (sy_i F 33).toInt → (sy_i F 33).toInt ≤ 400 → ((sy_ai F 39).getD ((sy_i F 33).toInt).toNat 0).toInt ≠ 26 → 0 ≤ (sy_i F 33).toInt → (sy_i F 33).toInt ≤ 400 → ((sy_ai F 39).getD ((sy_i F 33).toInt).toNat 0).toInt ≠ 0 → ((sy_ai F 39).getD ((sy_i F 33).toInt).toNat 0).toInt = 1 → ∀ F1 : Nat → sy_d, iv_in F1 iv_B0 → (∀ j, j < 82 → j ∉ ([] : List Nat) → F1 j = F j) → (sy_i F1 33).toInt = (sy_i F 33).toInt → (sy_i F1 34).toInt = (sy_i F 34).toInt → (sy_i F1 35).toInt = (sy_i F 35).toInt → (sy_i F1 36).toInt = (sy_i F 36).toInt → (sy_i F1 37).toInt = (sy_i F 37).toInt → (sy_i F1 38).toInt = (sy_i F 38).toInt → (sy_i F1 18).toInt = (sy_i F 18).toInt → (sy_i F1 19).toInt = (sy_i F 19).toInt → sy_ai F1 39 = sy_ai F 39 → sy_ai F1 40 = sy_ai F 40 → (sy_i F1 82).toInt = (sy_i F 83).toInt → hd_W Ls xs d jm_M31 Q (115, sy_dL F1 [some (.inl (.ref 30)), none, none, none, none, some (.inr (.inl 82)), none], sy_dS F1 [.inl (.ref 30)], sy_dh F1 X1 X2 (iv_H 0), 0, 0))
    (k8 : (sy_i F 83).toInt ≤ 400 → (sy_i F 82).toInt ≠ 0 → 0 ≤ (sy_i F 33).toInt → (sy_i F 33).toInt ≤ 400 → ((sy_ai F 39).getD ((sy_i F 33).toInt).toNat 0).toInt ≠ 26 → 0 ≤ (sy_i F 33).toInt → (sy_i F 33).toInt ≤ 400 → ((sy_ai F 39).getD ((sy_i F 33).toInt).toNat 0).toInt = 0 → ∀ F1 : Nat → sy_d, iv_in F1 iv_B0 → (∀ j, j < 82 → j ∉ ([] : List Nat) → F1 j = F j) → (sy_i F1 33).toInt = (sy_i F 33).toInt → (sy_i F1 34).toInt = (sy_i F 34).toInt → (sy_i F1 35).toInt = (sy_i F 35).toInt → (sy_i F1 36).toInt = (sy_i F 36).toInt → (sy_i F1 37).toInt = (sy_i F 37).toInt → (sy_i F1 38).toInt = (sy_i F 38).toInt → (sy_i F1 18).toInt = (sy_i F 18).toInt → (sy_i F1 19).toInt = (sy_i F 19).toInt → sy_ai F1 39 = sy_ai F 39 → sy_ai F1 40 = sy_ai F 40 → (sy_i F1 82).toInt = (sy_i F 83).toInt → hd_W Ls xs d jm_M31 Q (100, sy_dL F1 [some (.inl (.ref 30)), none, none, none, none, some (.inr (.inl 82)), none], sy_dS F1 [.inl (.ref 30)], sy_dh F1 X1 X2 (iv_H 0), 0, 0)) :
    hd_W Ls xs d jm_M31 Q (52, sy_dL F [some (.inl (.ref 30)), none, none, none, some (.inr (.inl 82)), some (.inr (.inl 83)), none], sy_dS F [], sy_dh F X1 X2 (iv_H 0), 0, 0) := by
  by_cases g0 : 400 < (sy_i F 83).toInt
  · exact k0pq_52_p0 hd F X1 X2 hB (by first | exact g0 | (simp only [nz_c]; exact g0)) (fun F1 g e82 => k0 g0 F1 (nz_in0 hB [] (fun j hj hn => g j hj (by simp only [List.mem_cons, List.not_mem_nil, or_false, not_or] at hn; exact trivial)) (List.forall_mem_nil _)) (fun j hj hn => g j hj (by simp only [List.mem_cons, List.not_mem_nil, or_false, not_or] at hn; exact trivial)) (nz_fi (g 33 (by decide) (by decide))) (nz_fi (g 34 (by decide) (by decide))) (nz_fi (g 35 (by decide) (by decide))) (nz_fi (g 36 (by decide) (by decide))) (nz_fi (g 37 (by decide) (by decide))) (nz_fi (g 38 (by decide) (by decide))) (nz_fi (g 18 (by decide) (by decide))) (nz_fi (g 19 (by decide) (by decide))) (nz_fa (g 39 (by decide) (by decide))) (nz_fa (g 40 (by decide) (by decide))) ((congrArg Int32.toInt (zz_i e82)).trans (rfl : (sy_i F 82).toInt = (sy_i F 82).toInt)))
  replace g0 : (sy_i F 83).toInt ≤ 400 := by omega
  by_cases g1 : (sy_i F 82).toInt = 0
  · exact k0pq_52_p1 hd F X1 X2 hB (by first | exact g0 | (simp only [nz_c]; exact g0)) (by first | exact g1 | (simp only [nz_c]; exact g1)) (fun F1 g e82 => k1 g0 g1 F1 (nz_in0 hB [] (fun j hj hn => g j hj (by simp only [List.mem_cons, List.not_mem_nil, or_false, not_or] at hn; exact trivial)) (List.forall_mem_nil _)) (fun j hj hn => g j hj (by simp only [List.mem_cons, List.not_mem_nil, or_false, not_or] at hn; exact trivial)) (nz_fi (g 33 (by decide) (by decide))) (nz_fi (g 34 (by decide) (by decide))) (nz_fi (g 35 (by decide) (by decide))) (nz_fi (g 36 (by decide) (by decide))) (nz_fi (g 37 (by decide) (by decide))) (nz_fi (g 38 (by decide) (by decide))) (nz_fi (g 18 (by decide) (by decide))) (nz_fi (g 19 (by decide) (by decide))) (nz_fa (g 39 (by decide) (by decide))) (nz_fa (g 40 (by decide) (by decide))) ((congrArg Int32.toInt (zz_i e82)).trans (rfl : (sy_i F 82).toInt = (sy_i F 82).toInt)))
  replace g1 : (sy_i F 82).toInt ≠ 0 := by omega
  by_cases g2 : (sy_i F 33).toInt < 0
  · have c33 := nz_bx hB (k := 33) (lo := 0) (hi := 400) rfl
    exfalso
    omega
  replace g2 : 0 ≤ (sy_i F 33).toInt := by omega
  by_cases g3 : 400 < (sy_i F 33).toInt
  · have c33 := nz_bx hB (k := 33) (lo := 0) (hi := 400) rfl
    exfalso
    omega
  replace g3 : (sy_i F 33).toInt ≤ 400 := by omega
  by_cases g4 : ((sy_ai F 39).getD ((sy_i F 33).toInt).toNat 0).toInt = 26
  · have c33 := nz_bx hB (k := 33) (lo := 0) (hi := 400) rfl
    have q84 : (sy_ai F 39).getD (sy_i F 33).toNatClampNeg 0 = (sy_ai F 39).getD ((sy_i F 33).toInt).toNat 0 := by simp only [nz_c]
    have n84 : ((sy_ai F 39).getD (sy_i F 33).toNatClampNeg 0).toInt = ((sy_ai F 39).getD ((sy_i F 33).toInt).toNat 0).toInt := congrArg Int32.toInt q84
    exact k0pq_52_p2 hd F X1 X2 hB (by first | exact g0 | (simp only [nz_c]; exact g0)) (by first | exact g1 | (simp only [nz_c]; exact g1)) (by first | exact g2 | (simp only [nz_c]; exact g2)) (by first | exact g3 | (simp only [nz_c]; exact g3)) (by first | exact ⟨by omega, by omega⟩ | (simp only [nz_c]; exact ⟨by omega, by omega⟩)) (by first | exact g4 | (simp only [nz_c]; exact g4) | (rw [n84]; exact g4)) (fun F1 g e82 => k2 g0 g1 g2 g3 g4 F1 (nz_in0 hB [] (fun j hj hn => g j hj (by simp only [List.mem_cons, List.not_mem_nil, or_false, not_or] at hn; exact trivial)) (List.forall_mem_nil _)) (fun j hj hn => g j hj (by simp only [List.mem_cons, List.not_mem_nil, or_false, not_or] at hn; exact trivial)) (nz_fi (g 33 (by decide) (by decide))) (nz_fi (g 34 (by decide) (by decide))) (nz_fi (g 35 (by decide) (by decide))) (nz_fi (g 36 (by decide) (by decide))) (nz_fi (g 37 (by decide) (by decide))) (nz_fi (g 38 (by decide) (by decide))) (nz_fi (g 18 (by decide) (by decide))) (nz_fi (g 19 (by decide) (by decide))) (nz_fa (g 39 (by decide) (by decide))) (nz_fa (g 40 (by decide) (by decide))) ((congrArg Int32.toInt (zz_i e82)).trans (rfl : (sy_i F 82).toInt = (sy_i F 82).toInt)))
  replace g4 : ((sy_ai F 39).getD ((sy_i F 33).toInt).toNat 0).toInt ≠ 26 := by omega
  by_cases g5 : (sy_i F 33).toInt < 0
  · have c33 := nz_bx hB (k := 33) (lo := 0) (hi := 400) rfl
    have q84 : (sy_ai F 39).getD (sy_i F 33).toNatClampNeg 0 = (sy_ai F 39).getD ((sy_i F 33).toInt).toNat 0 := by simp only [nz_c]
    have n84 : ((sy_ai F 39).getD (sy_i F 33).toNatClampNeg 0).toInt = ((sy_ai F 39).getD ((sy_i F 33).toInt).toNat 0).toInt := congrArg Int32.toInt q84
    exfalso
    omega
  replace g5 : 0 ≤ (sy_i F 33).toInt := by omega
  by_cases g6 : 400 < (sy_i F 33).toInt
  · have c33 := nz_bx hB (k := 33) (lo := 0) (hi := 400) rfl
    have q84 : (sy_ai F 39).getD (sy_i F 33).toNatClampNeg 0 = (sy_ai F 39).getD ((sy_i F 33).toInt).toNat 0 := by simp only [nz_c]
    have n84 : ((sy_ai F 39).getD (sy_i F 33).toNatClampNeg 0).toInt = ((sy_ai F 39).getD ((sy_i F 33).toInt).toNat 0).toInt := congrArg Int32.toInt q84
    exfalso
    omega
  replace g6 : (sy_i F 33).toInt ≤ 400 := by omega
  by_cases g7 : ((sy_ai F 39).getD ((sy_i F 33).toInt).toNat 0).toInt ≠ 0
  · by_cases g8 : ((sy_ai F 39).getD ((sy_i F 33).toInt).toNat 0).toInt ≠ 1
    · by_cases g9 : ((sy_ai F 39).getD ((sy_i F 33).toInt).toNat 0).toInt < 2
      · by_cases g10 : ((sy_ai F 39).getD ((sy_i F 33).toInt).toNat 0).toInt < 8
        · have c33 := nz_bx hB (k := 33) (lo := 0) (hi := 400) rfl
          have q84 : (sy_ai F 39).getD (sy_i F 33).toNatClampNeg 0 = (sy_ai F 39).getD ((sy_i F 33).toInt).toNat 0 := by simp only [nz_c]
          have n84 : ((sy_ai F 39).getD (sy_i F 33).toNatClampNeg 0).toInt = ((sy_ai F 39).getD ((sy_i F 33).toInt).toNat 0).toInt := congrArg Int32.toInt q84
          have q85 : (sy_ai F 39).getD (sy_i F 33).toNatClampNeg 0 = (sy_ai F 39).getD ((sy_i F 33).toInt).toNat 0 := by simp only [nz_c]
          have n85 : ((sy_ai F 39).getD (sy_i F 33).toNatClampNeg 0).toInt = ((sy_ai F 39).getD ((sy_i F 33).toInt).toNat 0).toInt := congrArg Int32.toInt q85
          have n86 : ((sy_i F 83) + ((1 : Int32))).toInt = ((sy_i F 83).toInt + 1) := nz_add (rfl : (sy_i F 83).toInt = (sy_i F 83).toInt) (by decide : ((1 : Int32)).toInt = 1) (by omega) (by omega)
          exact k0pq_52_p3 hd F X1 X2 hB (by first | exact g0 | (simp only [nz_c]; exact g0)) (by first | exact g1 | (simp only [nz_c]; exact g1)) (by first | exact g2 | (simp only [nz_c]; exact g2)) (by first | exact g3 | (simp only [nz_c]; exact g3)) (by first | exact ⟨by omega, by omega⟩ | (simp only [nz_c]; exact ⟨by omega, by omega⟩)) (by first | exact g4 | (simp only [nz_c]; exact g4) | (rw [n84]; exact g4)) (by first | exact g5 | (simp only [nz_c]; exact g5)) (by first | exact g6 | (simp only [nz_c]; exact g6)) (by first | exact ⟨by omega, by omega⟩ | (simp only [nz_c]; exact ⟨by omega, by omega⟩)) (by first | exact g7 | (simp only [nz_c]; exact g7) | (rw [n85]; exact g7)) (by first | exact g8 | (simp only [nz_c]; exact g8) | (rw [n85]; exact g8)) (by first | exact g9 | (simp only [nz_c]; exact g9) | (rw [n85]; exact g9)) (by first | exact g10 | (simp only [nz_c]; exact g10) | (rw [n85]; exact g10)) (fun F1 g e34 e82 e83 => k3 g0 g1 g2 g3 g4 g5 g6 g7 g8 g9 g10 F1 (nz_in0 hB [34] (fun j hj hn => g j hj (by simp only [List.mem_cons, List.not_mem_nil, or_false, not_or] at hn; omega)) (List.forall_mem_cons.mpr ⟨fun t ht => (Option.some.inj ht) ▸ (nz_hz e34), List.forall_mem_nil _⟩)) (fun j hj hn => g j hj (by simp only [List.mem_cons, List.not_mem_nil, or_false, not_or] at hn; omega)) (nz_fi (g 33 (by decide) (by decide))) ((congrArg Int32.toInt (zz_i e34)).trans (by decide : ((1 : Int32)).toInt = 1)) (nz_fi (g 35 (by decide) (by decide))) (nz_fi (g 36 (by decide) (by decide))) (nz_fi (g 37 (by decide) (by decide))) (nz_fi (g 38 (by decide) (by decide))) (nz_fi (g 18 (by decide) (by decide))) (nz_fi (g 19 (by decide) (by decide))) (nz_fa (g 39 (by decide) (by decide))) (nz_fa (g 40 (by decide) (by decide))) ((congrArg Int32.toInt (zz_i e82)).trans (by decide : ((0 : Int32)).toInt = 0)) ((congrArg Int32.toInt (zz_i e83)).trans n86))
        replace g10 : 8 ≤ ((sy_ai F 39).getD ((sy_i F 33).toInt).toNat 0).toInt := by omega
        have c33 := nz_bx hB (k := 33) (lo := 0) (hi := 400) rfl
        have q84 : (sy_ai F 39).getD (sy_i F 33).toNatClampNeg 0 = (sy_ai F 39).getD ((sy_i F 33).toInt).toNat 0 := by simp only [nz_c]
        have n84 : ((sy_ai F 39).getD (sy_i F 33).toNatClampNeg 0).toInt = ((sy_ai F 39).getD ((sy_i F 33).toInt).toNat 0).toInt := congrArg Int32.toInt q84
        have q85 : (sy_ai F 39).getD (sy_i F 33).toNatClampNeg 0 = (sy_ai F 39).getD ((sy_i F 33).toInt).toNat 0 := by simp only [nz_c]
        have n85 : ((sy_ai F 39).getD (sy_i F 33).toNatClampNeg 0).toInt = ((sy_ai F 39).getD ((sy_i F 33).toInt).toNat 0).toInt := congrArg Int32.toInt q85
        exfalso
        omega
      replace g9 : 2 ≤ ((sy_ai F 39).getD ((sy_i F 33).toInt).toNat 0).toInt := by omega
      by_cases g10 : 7 < ((sy_ai F 39).getD ((sy_i F 33).toInt).toNat 0).toInt
      · by_cases g11 : ((sy_ai F 39).getD ((sy_i F 33).toInt).toNat 0).toInt < 8
        · have c33 := nz_bx hB (k := 33) (lo := 0) (hi := 400) rfl
          have q84 : (sy_ai F 39).getD (sy_i F 33).toNatClampNeg 0 = (sy_ai F 39).getD ((sy_i F 33).toInt).toNat 0 := by simp only [nz_c]
          have n84 : ((sy_ai F 39).getD (sy_i F 33).toNatClampNeg 0).toInt = ((sy_ai F 39).getD ((sy_i F 33).toInt).toNat 0).toInt := congrArg Int32.toInt q84
          have q85 : (sy_ai F 39).getD (sy_i F 33).toNatClampNeg 0 = (sy_ai F 39).getD ((sy_i F 33).toInt).toNat 0 := by simp only [nz_c]
          have n85 : ((sy_ai F 39).getD (sy_i F 33).toNatClampNeg 0).toInt = ((sy_ai F 39).getD ((sy_i F 33).toInt).toNat 0).toInt := congrArg Int32.toInt q85
          exfalso
          omega
        replace g11 : 8 ≤ ((sy_ai F 39).getD ((sy_i F 33).toInt).toNat 0).toInt := by omega
        by_cases g12 : 10 < ((sy_ai F 39).getD ((sy_i F 33).toInt).toNat 0).toInt
        · have c33 := nz_bx hB (k := 33) (lo := 0) (hi := 400) rfl
          have q84 : (sy_ai F 39).getD (sy_i F 33).toNatClampNeg 0 = (sy_ai F 39).getD ((sy_i F 33).toInt).toNat 0 := by simp only [nz_c]
          have n84 : ((sy_ai F 39).getD (sy_i F 33).toNatClampNeg 0).toInt = ((sy_ai F 39).getD ((sy_i F 33).toInt).toNat 0).toInt := congrArg Int32.toInt q84
          have q85 : (sy_ai F 39).getD (sy_i F 33).toNatClampNeg 0 = (sy_ai F 39).getD ((sy_i F 33).toInt).toNat 0 := by simp only [nz_c]
          have n85 : ((sy_ai F 39).getD (sy_i F 33).toNatClampNeg 0).toInt = ((sy_ai F 39).getD ((sy_i F 33).toInt).toNat 0).toInt := congrArg Int32.toInt q85
          have n86 : ((sy_i F 83) + ((1 : Int32))).toInt = ((sy_i F 83).toInt + 1) := nz_add (rfl : (sy_i F 83).toInt = (sy_i F 83).toInt) (by decide : ((1 : Int32)).toInt = 1) (by omega) (by omega)
          exact k0pq_52_p4 hd F X1 X2 hB (by first | exact g0 | (simp only [nz_c]; exact g0)) (by first | exact g1 | (simp only [nz_c]; exact g1)) (by first | exact g2 | (simp only [nz_c]; exact g2)) (by first | exact g3 | (simp only [nz_c]; exact g3)) (by first | exact ⟨by omega, by omega⟩ | (simp only [nz_c]; exact ⟨by omega, by omega⟩)) (by first | exact g4 | (simp only [nz_c]; exact g4) | (rw [n84]; exact g4)) (by first | exact g5 | (simp only [nz_c]; exact g5)) (by first | exact g6 | (simp only [nz_c]; exact g6)) (by first | exact ⟨by omega, by omega⟩ | (simp only [nz_c]; exact ⟨by omega, by omega⟩)) (by first | exact g7 | (simp only [nz_c]; exact g7) | (rw [n85]; exact g7)) (by first | exact g8 | (simp only [nz_c]; exact g8) | (rw [n85]; exact g8)) (by first | exact g9 | (simp only [nz_c]; exact g9) | (rw [n85]; exact g9)) (by first | exact g10 | (simp only [nz_c]; exact g10) | (rw [n85]; exact g10)) (by first | exact g11 | (simp only [nz_c]; exact g11) | (rw [n85]; exact g11)) (by first | exact g12 | (simp only [nz_c]; exact g12) | (rw [n85]; exact g12)) (fun F1 g e34 e82 e83 => k4 g0 g1 g2 g3 g4 g5 g6 g7 g8 g9 g10 g11 g12 F1 (nz_in0 hB [34] (fun j hj hn => g j hj (by simp only [List.mem_cons, List.not_mem_nil, or_false, not_or] at hn; omega)) (List.forall_mem_cons.mpr ⟨fun t ht => (Option.some.inj ht) ▸ (nz_hz e34), List.forall_mem_nil _⟩)) (fun j hj hn => g j hj (by simp only [List.mem_cons, List.not_mem_nil, or_false, not_or] at hn; omega)) (nz_fi (g 33 (by decide) (by decide))) ((congrArg Int32.toInt (zz_i e34)).trans (by decide : ((1 : Int32)).toInt = 1)) (nz_fi (g 35 (by decide) (by decide))) (nz_fi (g 36 (by decide) (by decide))) (nz_fi (g 37 (by decide) (by decide))) (nz_fi (g 38 (by decide) (by decide))) (nz_fi (g 18 (by decide) (by decide))) (nz_fi (g 19 (by decide) (by decide))) (nz_fa (g 39 (by decide) (by decide))) (nz_fa (g 40 (by decide) (by decide))) ((congrArg Int32.toInt (zz_i e82)).trans (by decide : ((0 : Int32)).toInt = 0)) ((congrArg Int32.toInt (zz_i e83)).trans n86))
        replace g12 : ((sy_ai F 39).getD ((sy_i F 33).toInt).toNat 0).toInt ≤ 10 := by omega
        have c33 := nz_bx hB (k := 33) (lo := 0) (hi := 400) rfl
        have q84 : (sy_ai F 39).getD (sy_i F 33).toNatClampNeg 0 = (sy_ai F 39).getD ((sy_i F 33).toInt).toNat 0 := by simp only [nz_c]
        have n84 : ((sy_ai F 39).getD (sy_i F 33).toNatClampNeg 0).toInt = ((sy_ai F 39).getD ((sy_i F 33).toInt).toNat 0).toInt := congrArg Int32.toInt q84
        have q85 : (sy_ai F 39).getD (sy_i F 33).toNatClampNeg 0 = (sy_ai F 39).getD ((sy_i F 33).toInt).toNat 0 := by simp only [nz_c]
        have n85 : ((sy_ai F 39).getD (sy_i F 33).toNatClampNeg 0).toInt = ((sy_ai F 39).getD ((sy_i F 33).toInt).toNat 0).toInt := congrArg Int32.toInt q85
        exact k0pq_52_p5 hd F X1 X2 hB (by first | exact g0 | (simp only [nz_c]; exact g0)) (by first | exact g1 | (simp only [nz_c]; exact g1)) (by first | exact g2 | (simp only [nz_c]; exact g2)) (by first | exact g3 | (simp only [nz_c]; exact g3)) (by first | exact ⟨by omega, by omega⟩ | (simp only [nz_c]; exact ⟨by omega, by omega⟩)) (by first | exact g4 | (simp only [nz_c]; exact g4) | (rw [n84]; exact g4)) (by first | exact g5 | (simp only [nz_c]; exact g5)) (by first | exact g6 | (simp only [nz_c]; exact g6)) (by first | exact ⟨by omega, by omega⟩ | (simp only [nz_c]; exact ⟨by omega, by omega⟩)) (by first | exact g7 | (simp only [nz_c]; exact g7) | (rw [n85]; exact g7)) (by first | exact g8 | (simp only [nz_c]; exact g8) | (rw [n85]; exact g8)) (by first | exact g9 | (simp only [nz_c]; exact g9) | (rw [n85]; exact g9)) (by first | exact g10 | (simp only [nz_c]; exact g10) | (rw [n85]; exact g10)) (by first | exact g11 | (simp only [nz_c]; exact g11) | (rw [n85]; exact g11)) (by first | exact g12 | (simp only [nz_c]; exact g12) | (rw [n85]; exact g12)) (fun F1 g e82 e83 => k5 g0 g1 g2 g3 g4 g5 g6 g7 g8 g9 g10 g11 g12 F1 (nz_in0 hB [] (fun j hj hn => g j hj (by simp only [List.mem_cons, List.not_mem_nil, or_false, not_or] at hn; exact trivial)) (List.forall_mem_nil _)) (fun j hj hn => g j hj (by simp only [List.mem_cons, List.not_mem_nil, or_false, not_or] at hn; exact trivial)) (nz_fi (g 33 (by decide) (by decide))) (nz_fi (g 34 (by decide) (by decide))) (nz_fi (g 35 (by decide) (by decide))) (nz_fi (g 36 (by decide) (by decide))) (nz_fi (g 37 (by decide) (by decide))) (nz_fi (g 38 (by decide) (by decide))) (nz_fi (g 18 (by decide) (by decide))) (nz_fi (g 19 (by decide) (by decide))) (nz_fa (g 39 (by decide) (by decide))) (nz_fa (g 40 (by decide) (by decide))) ((congrArg Int32.toInt (zz_i e82)).trans (rfl : (sy_i F 83).toInt = (sy_i F 83).toInt)) ((congrArg Int32.toInt (zz_i e83)).trans n85))
      replace g10 : ((sy_ai F 39).getD ((sy_i F 33).toInt).toNat 0).toInt ≤ 7 := by omega
      have c33 := nz_bx hB (k := 33) (lo := 0) (hi := 400) rfl
      have q84 : (sy_ai F 39).getD (sy_i F 33).toNatClampNeg 0 = (sy_ai F 39).getD ((sy_i F 33).toInt).toNat 0 := by simp only [nz_c]
      have n84 : ((sy_ai F 39).getD (sy_i F 33).toNatClampNeg 0).toInt = ((sy_ai F 39).getD ((sy_i F 33).toInt).toNat 0).toInt := congrArg Int32.toInt q84
      have q85 : (sy_ai F 39).getD (sy_i F 33).toNatClampNeg 0 = (sy_ai F 39).getD ((sy_i F 33).toInt).toNat 0 := by simp only [nz_c]
      have n85 : ((sy_ai F 39).getD (sy_i F 33).toNatClampNeg 0).toInt = ((sy_ai F 39).getD ((sy_i F 33).toInt).toNat 0).toInt := congrArg Int32.toInt q85
      have n86 : (((sy_ai F 39).getD (sy_i F 33).toNatClampNeg 0) - ((2 : Int32))).toInt = (((sy_ai F 39).getD ((sy_i F 33).toInt).toNat 0).toInt - 2) := nz_sub n85 (by decide : ((2 : Int32)).toInt = 2) (by omega) (by omega)
      exact k0pq_52_p6 hd F X1 X2 hB (by first | exact g0 | (simp only [nz_c]; exact g0)) (by first | exact g1 | (simp only [nz_c]; exact g1)) (by first | exact g2 | (simp only [nz_c]; exact g2)) (by first | exact g3 | (simp only [nz_c]; exact g3)) (by first | exact ⟨by omega, by omega⟩ | (simp only [nz_c]; exact ⟨by omega, by omega⟩)) (by first | exact g4 | (simp only [nz_c]; exact g4) | (rw [n84]; exact g4)) (by first | exact g5 | (simp only [nz_c]; exact g5)) (by first | exact g6 | (simp only [nz_c]; exact g6)) (by first | exact ⟨by omega, by omega⟩ | (simp only [nz_c]; exact ⟨by omega, by omega⟩)) (by first | exact g7 | (simp only [nz_c]; exact g7) | (rw [n85]; exact g7)) (by first | exact g8 | (simp only [nz_c]; exact g8) | (rw [n85]; exact g8)) (by first | exact g9 | (simp only [nz_c]; exact g9) | (rw [n85]; exact g9)) (by first | exact g10 | (simp only [nz_c]; exact g10) | (rw [n85]; exact g10)) (fun F1 g e82 e83 e84 => k6 g0 g1 g2 g3 g4 g5 g6 g7 g8 g9 g10 F1 (nz_in0 hB [] (fun j hj hn => g j hj (by simp only [List.mem_cons, List.not_mem_nil, or_false, not_or] at hn; exact trivial)) (List.forall_mem_nil _)) (fun j hj hn => g j hj (by simp only [List.mem_cons, List.not_mem_nil, or_false, not_or] at hn; exact trivial)) (nz_fi (g 33 (by decide) (by decide))) (nz_fi (g 34 (by decide) (by decide))) (nz_fi (g 35 (by decide) (by decide))) (nz_fi (g 36 (by decide) (by decide))) (nz_fi (g 37 (by decide) (by decide))) (nz_fi (g 38 (by decide) (by decide))) (nz_fi (g 18 (by decide) (by decide))) (nz_fi (g 19 (by decide) (by decide))) (nz_fa (g 39 (by decide) (by decide))) (nz_fa (g 40 (by decide) (by decide))) ((congrArg Int32.toInt (zz_i e82)).trans (rfl : (sy_i F 83).toInt = (sy_i F 83).toInt)) ((congrArg Int32.toInt (zz_i e83)).trans n86) ((congrArg Int32.toInt (zz_i e84)).trans n85))
    replace g8 : ((sy_ai F 39).getD ((sy_i F 33).toInt).toNat 0).toInt = 1 := by omega
    have c33 := nz_bx hB (k := 33) (lo := 0) (hi := 400) rfl
    have q84 : (sy_ai F 39).getD (sy_i F 33).toNatClampNeg 0 = (sy_ai F 39).getD ((sy_i F 33).toInt).toNat 0 := by simp only [nz_c]
    have n84 : ((sy_ai F 39).getD (sy_i F 33).toNatClampNeg 0).toInt = ((sy_ai F 39).getD ((sy_i F 33).toInt).toNat 0).toInt := congrArg Int32.toInt q84
    have q85 : (sy_ai F 39).getD (sy_i F 33).toNatClampNeg 0 = (sy_ai F 39).getD ((sy_i F 33).toInt).toNat 0 := by simp only [nz_c]
    have n85 : ((sy_ai F 39).getD (sy_i F 33).toNatClampNeg 0).toInt = ((sy_ai F 39).getD ((sy_i F 33).toInt).toNat 0).toInt := congrArg Int32.toInt q85
    exact k0pq_52_p7 hd F X1 X2 hB (by first | exact g0 | (simp only [nz_c]; exact g0)) (by first | exact g1 | (simp only [nz_c]; exact g1)) (by first | exact g2 | (simp only [nz_c]; exact g2)) (by first | exact g3 | (simp only [nz_c]; exact g3)) (by first | exact ⟨by omega, by omega⟩ | (simp only [nz_c]; exact ⟨by omega, by omega⟩)) (by first | exact g4 | (simp only [nz_c]; exact g4) | (rw [n84]; exact g4)) (by first | exact g5 | (simp only [nz_c]; exact g5)) (by first | exact g6 | (simp only [nz_c]; exact g6)) (by first | exact ⟨by omega, by omega⟩ | (simp only [nz_c]; exact ⟨by omega, by omega⟩)) (by first | exact g7 | (simp only [nz_c]; exact g7) | (rw [n85]; exact g7)) (by first | exact g8 | (simp only [nz_c]; exact g8) | (rw [n85]; exact g8)) (fun F1 g e82 => k7 g0 g1 g2 g3 g4 g5 g6 g7 g8 F1 (nz_in0 hB [] (fun j hj hn => g j hj (by simp only [List.mem_cons, List.not_mem_nil, or_false, not_or] at hn; exact trivial)) (List.forall_mem_nil _)) (fun j hj hn => g j hj (by simp only [List.mem_cons, List.not_mem_nil, or_false, not_or] at hn; exact trivial)) (nz_fi (g 33 (by decide) (by decide))) (nz_fi (g 34 (by decide) (by decide))) (nz_fi (g 35 (by decide) (by decide))) (nz_fi (g 36 (by decide) (by decide))) (nz_fi (g 37 (by decide) (by decide))) (nz_fi (g 38 (by decide) (by decide))) (nz_fi (g 18 (by decide) (by decide))) (nz_fi (g 19 (by decide) (by decide))) (nz_fa (g 39 (by decide) (by decide))) (nz_fa (g 40 (by decide) (by decide))) ((congrArg Int32.toInt (zz_i e82)).trans (rfl : (sy_i F 83).toInt = (sy_i F 83).toInt)))
  replace g7 : ((sy_ai F 39).getD ((sy_i F 33).toInt).toNat 0).toInt = 0 := by omega
  have c33 := nz_bx hB (k := 33) (lo := 0) (hi := 400) rfl
  have q84 : (sy_ai F 39).getD (sy_i F 33).toNatClampNeg 0 = (sy_ai F 39).getD ((sy_i F 33).toInt).toNat 0 := by simp only [nz_c]
  have n84 : ((sy_ai F 39).getD (sy_i F 33).toNatClampNeg 0).toInt = ((sy_ai F 39).getD ((sy_i F 33).toInt).toNat 0).toInt := congrArg Int32.toInt q84
  have q85 : (sy_ai F 39).getD (sy_i F 33).toNatClampNeg 0 = (sy_ai F 39).getD ((sy_i F 33).toInt).toNat 0 := by simp only [nz_c]
  have n85 : ((sy_ai F 39).getD (sy_i F 33).toNatClampNeg 0).toInt = ((sy_ai F 39).getD ((sy_i F 33).toInt).toNat 0).toInt := congrArg Int32.toInt q85
  exact k0pq_52_p8 hd F X1 X2 hB (by first | exact g0 | (simp only [nz_c]; exact g0)) (by first | exact g1 | (simp only [nz_c]; exact g1)) (by first | exact g2 | (simp only [nz_c]; exact g2)) (by first | exact g3 | (simp only [nz_c]; exact g3)) (by first | exact ⟨by omega, by omega⟩ | (simp only [nz_c]; exact ⟨by omega, by omega⟩)) (by first | exact g4 | (simp only [nz_c]; exact g4) | (rw [n84]; exact g4)) (by first | exact g5 | (simp only [nz_c]; exact g5)) (by first | exact g6 | (simp only [nz_c]; exact g6)) (by first | exact ⟨by omega, by omega⟩ | (simp only [nz_c]; exact ⟨by omega, by omega⟩)) (by first | exact g7 | (simp only [nz_c]; exact g7) | (rw [n85]; exact g7)) (fun F1 g e82 => k8 g0 g1 g2 g3 g4 g5 g6 g7 F1 (nz_in0 hB [] (fun j hj hn => g j hj (by simp only [List.mem_cons, List.not_mem_nil, or_false, not_or] at hn; exact trivial)) (List.forall_mem_nil _)) (fun j hj hn => g j hj (by simp only [List.mem_cons, List.not_mem_nil, or_false, not_or] at hn; exact trivial)) (nz_fi (g 33 (by decide) (by decide))) (nz_fi (g 34 (by decide) (by decide))) (nz_fi (g 35 (by decide) (by decide))) (nz_fi (g 36 (by decide) (by decide))) (nz_fi (g 37 (by decide) (by decide))) (nz_fi (g 38 (by decide) (by decide))) (nz_fi (g 18 (by decide) (by decide))) (nz_fi (g 19 (by decide) (by decide))) (nz_fa (g 39 (by decide) (by decide))) (nz_fa (g 40 (by decide) (by decide))) ((congrArg Int32.toInt (zz_i e82)).trans (rfl : (sy_i F 83).toInt = (sy_i F 83).toInt)))
theorem k0pq_103_p0 {Ls : Nat} {xs : Nat → Int32} {d : Nat} {Q : Option Value → jm_h → Prop} (hd : 7 ≤ d) (F : Nat → sy_d) (X1 X2 : List jm_c) (hB : iv_in F iv_B0)
    (k : ∀ F1 : Nat → sy_d, (∀ j, j < 82 → True → F1 j = F j) → F1 82 = .inl (.int (sy_i F 83)) → F1 83 = .inl (.int ((sy_i F 82) + ((1 : Int32)))) → hd_W Ls xs d jm_M31 Q (52, sy_dL F1 [some (.inl (.ref 30)), none, none, none, some (.inr (.inl 82)), some (.inr (.inl 83)), none], sy_dS F1 [], sy_dh F1 X1 X2 (iv_H 0), 0, 0)) :
    hd_W Ls xs d jm_M31 Q (103, sy_dL F [some (.inl (.ref 30)), none, none, none, none, some (.inr (.inl 82)), none], sy_dS F [.inr (.inl 83)], sy_dh F X1 X2 (iv_H 0), 0, 0) := by
  refine hd_run (s := 0) (nv := 84) (pc := 52) (L := [some (.inl (.ref 30)), none, none, none, some (.inr (.inl 82)), some (.inr (.inl 83)), none]) (S := []) (uh := hd_ov (iv_id 0 iv_B0) []) (ul := [.inl (.inr (.inl 83)), .inl (.inr (.inl 84))]) (f := false) (sp := [52]) (d0 := 6) (O := []) (T := [(0, [.inr (.inl 82), .inl (.int 1)], [])]) (P := []) jm_ok31 (by decide +kernel) (by decide +kernel) hd F X1 X2 (fun F' hF hs => ?_)
  have b83 := hd_b (F := F) (F' := F') (k := 83) (hF 83 (by decide))
  have b82 := hd_b (F := F) (F' := F') (k := 82) (hF 82 (by decide))
  have t84 : sy_dv F' (.inr (.inl 84)) = .int ((sy_i F 82) + ((1 : Int32))) := hd_o (hs 0 _ rfl) b82 rfl rfl
  have hB' : iv_in F' iv_B0 := iv_in_eq hB (fun j hj => hF j (Nat.lt_of_lt_of_le hj (by decide +kernel)))
  refine ⟨fun _ h => absurd h List.not_mem_nil, ?_⟩
  refine k _ ?_ ?_ ?_
  · exact fun j hj _ => (hd_keep hB' (Nat.lt_of_lt_of_le hj (by decide +kernel)) (by simp)).trans (hF j (Nat.lt_of_lt_of_le hj (by decide)))
  · exact hd_gi (x := .inr (.inl 83)) (by decide +kernel) b83
  · exact hd_gi (x := .inr (.inl 84)) (by decide +kernel) t84
theorem k0pq_103 {Ls : Nat} {xs : Nat → Int32} {d : Nat} {Q : Option Value → jm_h → Prop} (hd : 7 ≤ d) (F : Nat → sy_d) (X1 X2 : List jm_c) (hB : iv_in F iv_B0)
    (a82 : 0 ≤ (sy_i F 82).toInt ∧ (sy_i F 82).toInt ≤ 400)
    (k0 : ∀ F1 : Nat → sy_d, iv_in F1 iv_B0 → (∀ j, j < 82 → j ∉ ([] : List Nat) → F1 j = F j) → (sy_i F1 33).toInt = (sy_i F 33).toInt → (sy_i F1 34).toInt = (sy_i F 34).toInt → (sy_i F1 35).toInt = (sy_i F 35).toInt → (sy_i F1 36).toInt = (sy_i F 36).toInt → (sy_i F1 37).toInt = (sy_i F 37).toInt → (sy_i F1 38).toInt = (sy_i F 38).toInt → (sy_i F1 18).toInt = (sy_i F 18).toInt → (sy_i F1 19).toInt = (sy_i F 19).toInt → sy_ai F1 39 = sy_ai F 39 → sy_ai F1 40 = sy_ai F 40 → (sy_i F1 82).toInt = (sy_i F 83).toInt → (sy_i F1 83).toInt = ((sy_i F 82).toInt + 1) → hd_W Ls xs d jm_M31 Q (52, sy_dL F1 [some (.inl (.ref 30)), none, none, none, some (.inr (.inl 82)), some (.inr (.inl 83)), none], sy_dS F1 [], sy_dh F1 X1 X2 (iv_H 0), 0, 0)) :
    hd_W Ls xs d jm_M31 Q (103, sy_dL F [some (.inl (.ref 30)), none, none, none, none, some (.inr (.inl 82)), none], sy_dS F [.inr (.inl 83)], sy_dh F X1 X2 (iv_H 0), 0, 0) := by
  have n84 : ((sy_i F 82) + ((1 : Int32))).toInt = ((sy_i F 82).toInt + 1) := nz_add (rfl : (sy_i F 82).toInt = (sy_i F 82).toInt) (by decide : ((1 : Int32)).toInt = 1) (by omega) (by omega)
  exact k0pq_103_p0 hd F X1 X2 hB  (fun F1 g e82 e83 => k0 F1 (nz_in0 hB [] (fun j hj hn => g j hj (by simp only [List.mem_cons, List.not_mem_nil, or_false, not_or] at hn; exact trivial)) (List.forall_mem_nil _)) (fun j hj hn => g j hj (by simp only [List.mem_cons, List.not_mem_nil, or_false, not_or] at hn; exact trivial)) (nz_fi (g 33 (by decide) (by decide))) (nz_fi (g 34 (by decide) (by decide))) (nz_fi (g 35 (by decide) (by decide))) (nz_fi (g 36 (by decide) (by decide))) (nz_fi (g 37 (by decide) (by decide))) (nz_fi (g 38 (by decide) (by decide))) (nz_fi (g 18 (by decide) (by decide))) (nz_fi (g 19 (by decide) (by decide))) (nz_fa (g 39 (by decide) (by decide))) (nz_fa (g 40 (by decide) (by decide))) ((congrArg Int32.toInt (zz_i e82)).trans (rfl : (sy_i F 83).toInt = (sy_i F 83).toInt)) ((congrArg Int32.toInt (zz_i e83)).trans n84))
theorem k0pq_118_p0 {Ls : Nat} {xs : Nat → Int32} {d : Nat} {Q : Option Value → jm_h → Prop} (hd : 7 ≤ d) (F : Nat → sy_d) (X1 X2 : List jm_c) (hB : iv_in F iv_B0)
    (k : ∀ F1 : Nat → sy_d, (∀ j, j < 82 → True → F1 j = F j) → F1 82 = .inl (.int (sy_i F 83)) → F1 83 = .inl (.int ((sy_i F 82) + ((1 : Int32)))) → hd_W Ls xs d jm_M31 Q (52, sy_dL F1 [some (.inl (.ref 30)), none, none, none, some (.inr (.inl 82)), some (.inr (.inl 83)), none], sy_dS F1 [], sy_dh F1 X1 X2 (iv_H 0), 0, 0)) :
    hd_W Ls xs d jm_M31 Q (118, sy_dL F [some (.inl (.ref 30)), none, none, none, none, some (.inr (.inl 82)), none], sy_dS F [.inr (.inl 83)], sy_dh F X1 X2 (iv_H 0), 0, 0) := by
  refine hd_run (s := 0) (nv := 84) (pc := 52) (L := [some (.inl (.ref 30)), none, none, none, some (.inr (.inl 82)), some (.inr (.inl 83)), none]) (S := []) (uh := hd_ov (iv_id 0 iv_B0) []) (ul := [.inl (.inr (.inl 83)), .inl (.inr (.inl 84))]) (f := false) (sp := [52]) (d0 := 6) (O := []) (T := [(0, [.inr (.inl 82), .inl (.int 1)], [])]) (P := []) jm_ok31 (by decide +kernel) (by decide +kernel) hd F X1 X2 (fun F' hF hs => ?_)
  have b83 := hd_b (F := F) (F' := F') (k := 83) (hF 83 (by decide))
  have b82 := hd_b (F := F) (F' := F') (k := 82) (hF 82 (by decide))
  have t84 : sy_dv F' (.inr (.inl 84)) = .int ((sy_i F 82) + ((1 : Int32))) := hd_o (hs 0 _ rfl) b82 rfl rfl
  have hB' : iv_in F' iv_B0 := iv_in_eq hB (fun j hj => hF j (Nat.lt_of_lt_of_le hj (by decide +kernel)))
  refine ⟨fun _ h => absurd h List.not_mem_nil, ?_⟩
  refine k _ ?_ ?_ ?_
  · exact fun j hj _ => (hd_keep hB' (Nat.lt_of_lt_of_le hj (by decide +kernel)) (by simp)).trans (hF j (Nat.lt_of_lt_of_le hj (by decide)))
  · exact hd_gi (x := .inr (.inl 83)) (by decide +kernel) b83
  · exact hd_gi (x := .inr (.inl 84)) (by decide +kernel) t84
theorem k0pq_118 {Ls : Nat} {xs : Nat → Int32} {d : Nat} {Q : Option Value → jm_h → Prop} (hd : 7 ≤ d) (F : Nat → sy_d) (X1 X2 : List jm_c) (hB : iv_in F iv_B0)
    (a82 : 0 ≤ (sy_i F 82).toInt ∧ (sy_i F 82).toInt ≤ 400)
    (k0 : ∀ F1 : Nat → sy_d, iv_in F1 iv_B0 → (∀ j, j < 82 → j ∉ ([] : List Nat) → F1 j = F j) → (sy_i F1 33).toInt = (sy_i F 33).toInt → (sy_i F1 34).toInt = (sy_i F 34).toInt → (sy_i F1 35).toInt = (sy_i F 35).toInt → (sy_i F1 36).toInt = (sy_i F 36).toInt → (sy_i F1 37).toInt = (sy_i F 37).toInt → (sy_i F1 38).toInt = (sy_i F 38).toInt → (sy_i F1 18).toInt = (sy_i F 18).toInt → (sy_i F1 19).toInt = (sy_i F 19).toInt → sy_ai F1 39 = sy_ai F 39 → sy_ai F1 40 = sy_ai F 40 → (sy_i F1 82).toInt = (sy_i F 83).toInt → (sy_i F1 83).toInt = ((sy_i F 82).toInt + 1) → hd_W Ls xs d jm_M31 Q (52, sy_dL F1 [some (.inl (.ref 30)), none, none, none, some (.inr (.inl 82)), some (.inr (.inl 83)), none], sy_dS F1 [], sy_dh F1 X1 X2 (iv_H 0), 0, 0)) :
    hd_W Ls xs d jm_M31 Q (118, sy_dL F [some (.inl (.ref 30)), none, none, none, none, some (.inr (.inl 82)), none], sy_dS F [.inr (.inl 83)], sy_dh F X1 X2 (iv_H 0), 0, 0) := by
  have n84 : ((sy_i F 82) + ((1 : Int32))).toInt = ((sy_i F 82).toInt + 1) := nz_add (rfl : (sy_i F 82).toInt = (sy_i F 82).toInt) (by decide : ((1 : Int32)).toInt = 1) (by omega) (by omega)
  exact k0pq_118_p0 hd F X1 X2 hB  (fun F1 g e82 e83 => k0 F1 (nz_in0 hB [] (fun j hj hn => g j hj (by simp only [List.mem_cons, List.not_mem_nil, or_false, not_or] at hn; exact trivial)) (List.forall_mem_nil _)) (fun j hj hn => g j hj (by simp only [List.mem_cons, List.not_mem_nil, or_false, not_or] at hn; exact trivial)) (nz_fi (g 33 (by decide) (by decide))) (nz_fi (g 34 (by decide) (by decide))) (nz_fi (g 35 (by decide) (by decide))) (nz_fi (g 36 (by decide) (by decide))) (nz_fi (g 37 (by decide) (by decide))) (nz_fi (g 38 (by decide) (by decide))) (nz_fi (g 18 (by decide) (by decide))) (nz_fi (g 19 (by decide) (by decide))) (nz_fa (g 39 (by decide) (by decide))) (nz_fa (g 40 (by decide) (by decide))) ((congrArg Int32.toInt (zz_i e82)).trans (rfl : (sy_i F 83).toInt = (sy_i F 83).toInt)) ((congrArg Int32.toInt (zz_i e83)).trans n84))
theorem k0pq_146_p0 {Ls : Nat} {xs : Nat → Int32} {d : Nat} {Q : Option Value → jm_h → Prop} (hd : 7 ≤ d) (F : Nat → sy_d) (X1 X2 : List jm_c) (hB : iv_in F iv_B0)
    (k : ∀ F1 : Nat → sy_d, (∀ j, j < 82 → True → F1 j = F j) → F1 82 = .inl (.int (sy_i F 85)) → F1 83 = .inl (.int ((sy_i F 82) + ((1 : Int32)))) → hd_W Ls xs d jm_M31 Q (52, sy_dL F1 [some (.inl (.ref 30)), none, none, none, some (.inr (.inl 82)), some (.inr (.inl 83)), none], sy_dS F1 [], sy_dh F1 X1 X2 (iv_H 0), 0, 0)) :
    hd_W Ls xs d jm_M31 Q (146, sy_dL F [some (.inl (.ref 30)), none, none, none, none, some (.inr (.inl 82)), none], sy_dS F [.inr (.inl 85)], sy_dh F X1 X2 (iv_H 0), 0, 0) := by
  refine hd_run (s := 0) (nv := 86) (pc := 52) (L := [some (.inl (.ref 30)), none, none, none, some (.inr (.inl 82)), some (.inr (.inl 83)), none]) (S := []) (uh := hd_ov (iv_id 0 iv_B0) []) (ul := [.inl (.inr (.inl 85)), .inl (.inr (.inl 86))]) (f := false) (sp := [52]) (d0 := 6) (O := []) (T := [(0, [.inr (.inl 82), .inl (.int 1)], [])]) (P := []) jm_ok31 (by decide +kernel) (by decide +kernel) hd F X1 X2 (fun F' hF hs => ?_)
  have b85 := hd_b (F := F) (F' := F') (k := 85) (hF 85 (by decide))
  have b82 := hd_b (F := F) (F' := F') (k := 82) (hF 82 (by decide))
  have t86 : sy_dv F' (.inr (.inl 86)) = .int ((sy_i F 82) + ((1 : Int32))) := hd_o (hs 0 _ rfl) b82 rfl rfl
  have hB' : iv_in F' iv_B0 := iv_in_eq hB (fun j hj => hF j (Nat.lt_of_lt_of_le hj (by decide +kernel)))
  refine ⟨fun _ h => absurd h List.not_mem_nil, ?_⟩
  refine k _ ?_ ?_ ?_
  · exact fun j hj _ => (hd_keep hB' (Nat.lt_of_lt_of_le hj (by decide +kernel)) (by simp)).trans (hF j (Nat.lt_of_lt_of_le hj (by decide)))
  · exact hd_gi (x := .inr (.inl 85)) (by decide +kernel) b85
  · exact hd_gi (x := .inr (.inl 86)) (by decide +kernel) t86
theorem k0pq_146 {Ls : Nat} {xs : Nat → Int32} {d : Nat} {Q : Option Value → jm_h → Prop} (hd : 7 ≤ d) (F : Nat → sy_d) (X1 X2 : List jm_c) (hB : iv_in F iv_B0)
    (a82 : 0 ≤ (sy_i F 82).toInt ∧ (sy_i F 82).toInt ≤ 400)
    (k0 : ∀ F1 : Nat → sy_d, iv_in F1 iv_B0 → (∀ j, j < 82 → j ∉ ([] : List Nat) → F1 j = F j) → (sy_i F1 33).toInt = (sy_i F 33).toInt → (sy_i F1 34).toInt = (sy_i F 34).toInt → (sy_i F1 35).toInt = (sy_i F 35).toInt → (sy_i F1 36).toInt = (sy_i F 36).toInt → (sy_i F1 37).toInt = (sy_i F 37).toInt → (sy_i F1 38).toInt = (sy_i F 38).toInt → (sy_i F1 18).toInt = (sy_i F 18).toInt → (sy_i F1 19).toInt = (sy_i F 19).toInt → sy_ai F1 39 = sy_ai F 39 → sy_ai F1 40 = sy_ai F 40 → (sy_i F1 82).toInt = (sy_i F 85).toInt → (sy_i F1 83).toInt = ((sy_i F 82).toInt + 1) → hd_W Ls xs d jm_M31 Q (52, sy_dL F1 [some (.inl (.ref 30)), none, none, none, some (.inr (.inl 82)), some (.inr (.inl 83)), none], sy_dS F1 [], sy_dh F1 X1 X2 (iv_H 0), 0, 0)) :
    hd_W Ls xs d jm_M31 Q (146, sy_dL F [some (.inl (.ref 30)), none, none, none, none, some (.inr (.inl 82)), none], sy_dS F [.inr (.inl 85)], sy_dh F X1 X2 (iv_H 0), 0, 0) := by
  have n86 : ((sy_i F 82) + ((1 : Int32))).toInt = ((sy_i F 82).toInt + 1) := nz_add (rfl : (sy_i F 82).toInt = (sy_i F 82).toInt) (by decide : ((1 : Int32)).toInt = 1) (by omega) (by omega)
  exact k0pq_146_p0 hd F X1 X2 hB  (fun F1 g e82 e83 => k0 F1 (nz_in0 hB [] (fun j hj hn => g j hj (by simp only [List.mem_cons, List.not_mem_nil, or_false, not_or] at hn; exact trivial)) (List.forall_mem_nil _)) (fun j hj hn => g j hj (by simp only [List.mem_cons, List.not_mem_nil, or_false, not_or] at hn; exact trivial)) (nz_fi (g 33 (by decide) (by decide))) (nz_fi (g 34 (by decide) (by decide))) (nz_fi (g 35 (by decide) (by decide))) (nz_fi (g 36 (by decide) (by decide))) (nz_fi (g 37 (by decide) (by decide))) (nz_fi (g 38 (by decide) (by decide))) (nz_fi (g 18 (by decide) (by decide))) (nz_fi (g 19 (by decide) (by decide))) (nz_fa (g 39 (by decide) (by decide))) (nz_fa (g 40 (by decide) (by decide))) ((congrArg Int32.toInt (zz_i e82)).trans (rfl : (sy_i F 85).toInt = (sy_i F 85).toInt)) ((congrArg Int32.toInt (zz_i e83)).trans n86))
theorem k0pq_171_p0 {Ls : Nat} {xs : Nat → Int32} {d : Nat} {Q : Option Value → jm_h → Prop} (hd : 7 ≤ d) (F : Nat → sy_d) (X1 X2 : List jm_c) (hB : iv_in F iv_B0)
    (k : ∀ F1 : Nat → sy_d, (∀ j, j < 82 → True → F1 j = F j) → F1 82 = .inl (.int (sy_i F 84)) → F1 83 = .inl (.int ((sy_i F 82) + ((1 : Int32)))) → hd_W Ls xs d jm_M31 Q (52, sy_dL F1 [some (.inl (.ref 30)), none, none, none, some (.inr (.inl 82)), some (.inr (.inl 83)), none], sy_dS F1 [], sy_dh F1 X1 X2 (iv_H 0), 0, 0)) :
    hd_W Ls xs d jm_M31 Q (171, sy_dL F [some (.inl (.ref 30)), none, none, none, none, some (.inr (.inl 82)), none], sy_dS F [.inr (.inl 84)], sy_dh F X1 X2 (iv_H 0), 0, 0) := by
  refine hd_run (s := 0) (nv := 85) (pc := 52) (L := [some (.inl (.ref 30)), none, none, none, some (.inr (.inl 82)), some (.inr (.inl 83)), none]) (S := []) (uh := hd_ov (iv_id 0 iv_B0) []) (ul := [.inl (.inr (.inl 84)), .inl (.inr (.inl 85))]) (f := false) (sp := [52]) (d0 := 6) (O := []) (T := [(0, [.inr (.inl 82), .inl (.int 1)], [])]) (P := []) jm_ok31 (by decide +kernel) (by decide +kernel) hd F X1 X2 (fun F' hF hs => ?_)
  have b84 := hd_b (F := F) (F' := F') (k := 84) (hF 84 (by decide))
  have b82 := hd_b (F := F) (F' := F') (k := 82) (hF 82 (by decide))
  have t85 : sy_dv F' (.inr (.inl 85)) = .int ((sy_i F 82) + ((1 : Int32))) := hd_o (hs 0 _ rfl) b82 rfl rfl
  have hB' : iv_in F' iv_B0 := iv_in_eq hB (fun j hj => hF j (Nat.lt_of_lt_of_le hj (by decide +kernel)))
  refine ⟨fun _ h => absurd h List.not_mem_nil, ?_⟩
  refine k _ ?_ ?_ ?_
  · exact fun j hj _ => (hd_keep hB' (Nat.lt_of_lt_of_le hj (by decide +kernel)) (by simp)).trans (hF j (Nat.lt_of_lt_of_le hj (by decide)))
  · exact hd_gi (x := .inr (.inl 84)) (by decide +kernel) b84
  · exact hd_gi (x := .inr (.inl 85)) (by decide +kernel) t85
theorem k0pq_171 {Ls : Nat} {xs : Nat → Int32} {d : Nat} {Q : Option Value → jm_h → Prop} (hd : 7 ≤ d) (F : Nat → sy_d) (X1 X2 : List jm_c) (hB : iv_in F iv_B0)
    (a82 : 0 ≤ (sy_i F 82).toInt ∧ (sy_i F 82).toInt ≤ 400)
    (k0 : ∀ F1 : Nat → sy_d, iv_in F1 iv_B0 → (∀ j, j < 82 → j ∉ ([] : List Nat) → F1 j = F j) → (sy_i F1 33).toInt = (sy_i F 33).toInt → (sy_i F1 34).toInt = (sy_i F 34).toInt → (sy_i F1 35).toInt = (sy_i F 35).toInt → (sy_i F1 36).toInt = (sy_i F 36).toInt → (sy_i F1 37).toInt = (sy_i F 37).toInt → (sy_i F1 38).toInt = (sy_i F 38).toInt → (sy_i F1 18).toInt = (sy_i F 18).toInt → (sy_i F1 19).toInt = (sy_i F 19).toInt → sy_ai F1 39 = sy_ai F 39 → sy_ai F1 40 = sy_ai F 40 → (sy_i F1 82).toInt = (sy_i F 84).toInt → (sy_i F1 83).toInt = ((sy_i F 82).toInt + 1) → hd_W Ls xs d jm_M31 Q (52, sy_dL F1 [some (.inl (.ref 30)), none, none, none, some (.inr (.inl 82)), some (.inr (.inl 83)), none], sy_dS F1 [], sy_dh F1 X1 X2 (iv_H 0), 0, 0)) :
    hd_W Ls xs d jm_M31 Q (171, sy_dL F [some (.inl (.ref 30)), none, none, none, none, some (.inr (.inl 82)), none], sy_dS F [.inr (.inl 84)], sy_dh F X1 X2 (iv_H 0), 0, 0) := by
  have n85 : ((sy_i F 82) + ((1 : Int32))).toInt = ((sy_i F 82).toInt + 1) := nz_add (rfl : (sy_i F 82).toInt = (sy_i F 82).toInt) (by decide : ((1 : Int32)).toInt = 1) (by omega) (by omega)
  exact k0pq_171_p0 hd F X1 X2 hB  (fun F1 g e82 e83 => k0 F1 (nz_in0 hB [] (fun j hj hn => g j hj (by simp only [List.mem_cons, List.not_mem_nil, or_false, not_or] at hn; exact trivial)) (List.forall_mem_nil _)) (fun j hj hn => g j hj (by simp only [List.mem_cons, List.not_mem_nil, or_false, not_or] at hn; exact trivial)) (nz_fi (g 33 (by decide) (by decide))) (nz_fi (g 34 (by decide) (by decide))) (nz_fi (g 35 (by decide) (by decide))) (nz_fi (g 36 (by decide) (by decide))) (nz_fi (g 37 (by decide) (by decide))) (nz_fi (g 38 (by decide) (by decide))) (nz_fi (g 18 (by decide) (by decide))) (nz_fi (g 19 (by decide) (by decide))) (nz_fa (g 39 (by decide) (by decide))) (nz_fa (g 40 (by decide) (by decide))) ((congrArg Int32.toInt (zz_i e82)).trans (rfl : (sy_i F 84).toInt = (sy_i F 84).toInt)) ((congrArg Int32.toInt (zz_i e83)).trans n85))
theorem k0pq_189_p0 {Ls : Nat} {xs : Nat → Int32} {d : Nat} {Q : Option Value → jm_h → Prop} (hd : 7 ≤ d) (F : Nat → sy_d) (X1 X2 : List jm_c) (hB : iv_in F iv_B0)
    (h0 : (sy_i F 82).toInt = 0)
    (h1 : 0 ≤ (sy_i F 33).toInt)
    (h2 : (sy_i F 33).toInt ≤ 400)
    (h3 : 0 ≤ (sy_i F 33).toInt ∧ (sy_i F 33).toInt < 401)
    (h4 : (sy_i F 82).toInt = 0)
    (k : ∀ F1 : Nat → sy_d, (∀ j, j < 82 → j ≠ 35 → F1 j = F j) → F1 35 = .inl (.int ((sy_ai F 40).getD (sy_i F 33).toNatClampNeg 0)) → Q (some (.int (sy_i F 34))) (sy_dh F1 X1 X2 (iv_H 0))) :
    hd_W Ls xs d jm_M31 Q (189, sy_dL F [some (.inl (.ref 30)), none, none, none, some (.inr (.inl 82)), none, none], sy_dS F [], sy_dh F X1 X2 (iv_H 0), 0, 0) := by
  refine hd_ret (s := 0) (nv := 83) (v := some (.inr (.inl 34))) (uh := hd_ov (iv_id 0 iv_B0) [(35, .inl (.inr (.inl 83)))]) (f := true) (sp := []) (d0 := 6) (O := [true, false, false, true]) (T := [(30, [.inr (.inl 33)], [.inr (.inl 40)])]) (P := [(0, .inr (.inl 82), .inl (.int 0)), (3, .inr (.inl 33), .inl (.int 0)), (3, .inl (.int 400), .inr (.inl 33)), (6, .inr (.inl 33), .inl (.ref 401)), (0, .inr (.inl 82), .inl (.int 0))]) jm_ok31 (by decide +kernel) (by decide +kernel) hd F X1 X2 (fun F' hF hs => ?_)
  have b82 := hd_b (F := F) (F' := F') (k := 82) (hF 82 (by decide))
  have b33 := hd_b (F := F) (F' := F') (k := 33) (hF 33 (by decide))
  have a40 := hd_ba (F := F) (F' := F') (k := 40) (hF 40 (by decide))
  have t83 : sy_dv F' (.inr (.inl 83)) = .int ((sy_ai F 40).getD (sy_i F 33).toNatClampNeg 0) := hd_rd (hs 0 _ rfl) b33 a40
  have b34 := hd_b (F := F) (F' := F') (k := 34) (hF 34 (by decide))
  have hB' : iv_in F' iv_B0 := iv_in_eq hB (fun j hj => hF j (Nat.lt_of_lt_of_le hj (by decide +kernel)))
  have hk := k (sy_cm F' (hd_ov (iv_id 0 iv_B0) [(35, .inl (.inr (.inl 83)))] ++ [])) (fun j hj hn => (hd_keep hB' (Nat.lt_of_lt_of_le hj (by decide +kernel)) (by simp; omega)).trans (hF j (Nat.lt_of_lt_of_le hj (by decide)))) (hd_gi (x := .inr (.inl 83)) (by decide +kernel) t83)
  refine ⟨List.forall_mem_cons.mpr ⟨hd_p0 b82 rfl (by have hc : ((0) : Int32).toInt = 0 := (by decide); omega), List.forall_mem_cons.mpr ⟨hd_p3 b33 rfl (by have hc : ((0) : Int32).toInt = 0 := (by decide); omega), List.forall_mem_cons.mpr ⟨hd_p3 rfl b33 (by have hc : ((400) : Int32).toInt = 400 := (by decide); omega), List.forall_mem_cons.mpr ⟨hd_pb b33 (by first | exact h3 | exact h3), List.forall_mem_cons.mpr ⟨hd_p0 b82 rfl (by have hc : ((0) : Int32).toInt = 0 := (by decide); omega), fun _ h => absurd h List.not_mem_nil⟩⟩⟩⟩⟩, ?_⟩
  show Q (some (sy_dv F' (.inr (.inl 34)))) _
  rw [b34]
  exact hk
theorem k0pq_189_p1 {Ls : Nat} {xs : Nat → Int32} {d : Nat} {Q : Option Value → jm_h → Prop} (hd : 7 ≤ d) (F : Nat → sy_d) (X1 X2 : List jm_c) (hB : iv_in F iv_B0)
    (h0 : (sy_i F 82).toInt ≠ 0)
    (h1 : (sy_i F 82).toInt ≠ 0)
    (k : ∀ F1 : Nat → sy_d, (∀ j, j < 82 → j ≠ 35 → F1 j = F j) → F1 35 = .inl (.int (sy_i F 37)) → Q (some (.int (sy_i F 36))) (sy_dh F1 X1 X2 (iv_H 0))) :
    hd_W Ls xs d jm_M31 Q (189, sy_dL F [some (.inl (.ref 30)), none, none, none, some (.inr (.inl 82)), none, none], sy_dS F [], sy_dh F X1 X2 (iv_H 0), 0, 0) := by
  refine hd_ret (s := 0) (nv := 83) (v := some (.inr (.inl 36))) (uh := hd_ov (iv_id 0 iv_B0) [(35, .inl (.inr (.inl 37)))]) (f := true) (sp := []) (d0 := 6) (O := [false, false]) (T := []) (P := [(1, .inr (.inl 82), .inl (.int 0)), (1, .inr (.inl 82), .inl (.int 0))]) jm_ok31 (by decide +kernel) (by decide +kernel) hd F X1 X2 (fun F' hF hs => ?_)
  have b82 := hd_b (F := F) (F' := F') (k := 82) (hF 82 (by decide))
  have b37 := hd_b (F := F) (F' := F') (k := 37) (hF 37 (by decide))
  have b36 := hd_b (F := F) (F' := F') (k := 36) (hF 36 (by decide))
  have hB' : iv_in F' iv_B0 := iv_in_eq hB (fun j hj => hF j (Nat.lt_of_lt_of_le hj (by decide +kernel)))
  have hk := k (sy_cm F' (hd_ov (iv_id 0 iv_B0) [(35, .inl (.inr (.inl 37)))] ++ [])) (fun j hj hn => (hd_keep hB' (Nat.lt_of_lt_of_le hj (by decide +kernel)) (by simp; omega)).trans (hF j (Nat.lt_of_lt_of_le hj (by decide)))) (hd_gi (x := .inr (.inl 37)) (by decide +kernel) b37)
  refine ⟨List.forall_mem_cons.mpr ⟨hd_p1 b82 rfl (by have hc : ((0) : Int32).toInt = 0 := (by decide); omega), List.forall_mem_cons.mpr ⟨hd_p1 b82 rfl (by have hc : ((0) : Int32).toInt = 0 := (by decide); omega), fun _ h => absurd h List.not_mem_nil⟩⟩, ?_⟩
  show Q (some (sy_dv F' (.inr (.inl 36)))) _
  rw [b36]
  exact hk
theorem k0pq_189 {Ls : Nat} {xs : Nat → Int32} {d : Nat} {Q : Option Value → jm_h → Prop} (hd : 7 ≤ d) (F : Nat → sy_d) (X1 X2 : List jm_c) (hB : iv_in F iv_B0)
    (k0 : (sy_i F 82).toInt = 0 → 0 ≤ (sy_i F 33).toInt → (sy_i F 33).toInt ≤ 400 → (sy_i F 82).toInt = 0 → ∀ F1 : Nat → sy_d, iv_in F1 iv_B0 → (∀ j, j < 82 → j ∉ ([35] : List Nat) → F1 j = F j) → (sy_i F1 33).toInt = (sy_i F 33).toInt → (sy_i F1 34).toInt = (sy_i F 34).toInt → (sy_i F1 35).toInt = ((sy_ai F 40).getD ((sy_i F 33).toInt).toNat 0).toInt → (sy_i F1 36).toInt = (sy_i F 36).toInt → (sy_i F1 37).toInt = (sy_i F 37).toInt → (sy_i F1 38).toInt = (sy_i F 38).toInt → (sy_i F1 18).toInt = (sy_i F 18).toInt → (sy_i F1 19).toInt = (sy_i F 19).toInt → sy_ai F1 39 = sy_ai F 39 → sy_ai F1 40 = sy_ai F 40 → Q (some (.int (sy_i F 34))) (sy_dh F1 X1 X2 (iv_H 0)))
    (k1 : (sy_i F 82).toInt ≠ 0 → (sy_i F 82).toInt ≠ 0 → ∀ F1 : Nat → sy_d, iv_in F1 iv_B0 → (∀ j, j < 82 → j ∉ ([35] : List Nat) → F1 j = F j) → (sy_i F1 33).toInt = (sy_i F 33).toInt → (sy_i F1 34).toInt = (sy_i F 34).toInt → (sy_i F1 35).toInt = (sy_i F 37).toInt → (sy_i F1 36).toInt = (sy_i F 36).toInt → (sy_i F1 37).toInt = (sy_i F 37).toInt → (sy_i F1 38).toInt = (sy_i F 38).toInt → (sy_i F1 18).toInt = (sy_i F 18).toInt → (sy_i F1 19).toInt = (sy_i F 19).toInt → sy_ai F1 39 = sy_ai F 39 → sy_ai F1 40 = sy_ai F 40 → Q (some (.int (sy_i F 36))) (sy_dh F1 X1 X2 (iv_H 0))) :
    hd_W Ls xs d jm_M31 Q (189, sy_dL F [some (.inl (.ref 30)), none, none, none, some (.inr (.inl 82)), none, none], sy_dS F [], sy_dh F X1 X2 (iv_H 0), 0, 0) := by
  by_cases g0 : (sy_i F 82).toInt = 0
  · by_cases g1 : (sy_i F 33).toInt < 0
    · have c33 := nz_bx hB (k := 33) (lo := 0) (hi := 400) rfl
      exfalso
      omega
    replace g1 : 0 ≤ (sy_i F 33).toInt := by omega
    by_cases g2 : 400 < (sy_i F 33).toInt
    · have c33 := nz_bx hB (k := 33) (lo := 0) (hi := 400) rfl
      exfalso
      omega
    replace g2 : (sy_i F 33).toInt ≤ 400 := by omega
    by_cases g3 : (sy_i F 82).toInt = 0
    · have c33 := nz_bx hB (k := 33) (lo := 0) (hi := 400) rfl
      have q83 : (sy_ai F 40).getD (sy_i F 33).toNatClampNeg 0 = (sy_ai F 40).getD ((sy_i F 33).toInt).toNat 0 := by simp only [nz_c]
      have n83 : ((sy_ai F 40).getD (sy_i F 33).toNatClampNeg 0).toInt = ((sy_ai F 40).getD ((sy_i F 33).toInt).toNat 0).toInt := congrArg Int32.toInt q83
      exact k0pq_189_p0 hd F X1 X2 hB (by first | exact g0 | (simp only [nz_c]; exact g0)) (by first | exact g1 | (simp only [nz_c]; exact g1)) (by first | exact g2 | (simp only [nz_c]; exact g2)) (by first | exact ⟨by omega, by omega⟩ | (simp only [nz_c]; exact ⟨by omega, by omega⟩)) (by first | exact g3 | (simp only [nz_c]; exact g3)) (fun F1 g e35 => by rw [(rfl : sy_i F 34 = sy_i F 34)]; exact k0 g0 g1 g2 g3 F1 (nz_in0 hB [35] (fun j hj hn => g j hj (by simp only [List.mem_cons, List.not_mem_nil, or_false, not_or] at hn; omega)) (List.forall_mem_cons.mpr ⟨fun t ht => (Option.some.inj ht) ▸ (nz_hz e35), List.forall_mem_nil _⟩)) (fun j hj hn => g j hj (by simp only [List.mem_cons, List.not_mem_nil, or_false, not_or] at hn; omega)) (nz_fi (g 33 (by decide) (by decide))) (nz_fi (g 34 (by decide) (by decide))) ((congrArg Int32.toInt (zz_i e35)).trans n83) (nz_fi (g 36 (by decide) (by decide))) (nz_fi (g 37 (by decide) (by decide))) (nz_fi (g 38 (by decide) (by decide))) (nz_fi (g 18 (by decide) (by decide))) (nz_fi (g 19 (by decide) (by decide))) (nz_fa (g 39 (by decide) (by decide))) (nz_fa (g 40 (by decide) (by decide))))
    replace g3 : (sy_i F 82).toInt ≠ 0 := by omega
    have c33 := nz_bx hB (k := 33) (lo := 0) (hi := 400) rfl
    exfalso
    omega
  replace g0 : (sy_i F 82).toInt ≠ 0 := by omega
  by_cases g1 : (sy_i F 82).toInt = 0
  · exfalso
    omega
  replace g1 : (sy_i F 82).toInt ≠ 0 := by omega
  exact k0pq_189_p1 hd F X1 X2 hB (by first | exact g0 | (simp only [nz_c]; exact g0)) (by first | exact g1 | (simp only [nz_c]; exact g1)) (fun F1 g e35 => by rw [(rfl : sy_i F 36 = sy_i F 36)]; exact k1 g0 g1 F1 (nz_in0 hB [35] (fun j hj hn => g j hj (by simp only [List.mem_cons, List.not_mem_nil, or_false, not_or] at hn; omega)) (List.forall_mem_cons.mpr ⟨fun t ht => (Option.some.inj ht) ▸ (nz_hz e35), List.forall_mem_nil _⟩)) (fun j hj hn => g j hj (by simp only [List.mem_cons, List.not_mem_nil, or_false, not_or] at hn; omega)) (nz_fi (g 33 (by decide) (by decide))) (nz_fi (g 34 (by decide) (by decide))) ((congrArg Int32.toInt (zz_i e35)).trans (rfl : (sy_i F 37).toInt = (sy_i F 37).toInt)) (nz_fi (g 36 (by decide) (by decide))) (nz_fi (g 37 (by decide) (by decide))) (nz_fi (g 38 (by decide) (by decide))) (nz_fi (g 18 (by decide) (by decide))) (nz_fi (g 19 (by decide) (by decide))) (nz_fa (g 39 (by decide) (by decide))) (nz_fa (g 40 (by decide) (by decide))))
end
section
/-! ===== the class parses a text, one after the other (shape 3) ===== -/
theorem k3pq_52_p0 {Ls : Nat} {xs : Nat → Int32} {d : Nat} {Q : Option Value → jm_h → Prop} (hd : 7 ≤ d) (F : Nat → sy_d) (X1 X2 : List jm_c) (hB : iv_in F iv_B0)
    (h0 : 400 < (sy_i F 83).toInt)
    (k : ∀ F1 : Nat → sy_d, (∀ j, j < 82 → True → F1 j = F j) → F1 82 = .inl (.int (sy_i F 82)) → hd_W Ls xs d jm_M31 Q (189, sy_dL F1 [some (.inl (.ref 30)), none, none, none, some (.inr (.inl 82)), none, none], sy_dS F1 [], sy_dh F1 X1 X2 (iv_H 3), 0, 0)) :
    hd_W Ls xs d jm_M31 Q (52, sy_dL F [some (.inl (.ref 30)), none, none, none, some (.inr (.inl 82)), some (.inr (.inl 83)), none], sy_dS F [], sy_dh F X1 X2 (iv_H 3), 0, 0) := by
  refine hd_run (s := 3) (nv := 84) (pc := 189) (L := [some (.inl (.ref 30)), none, none, none, some (.inr (.inl 82)), none, none]) (S := []) (uh := hd_ov (iv_id 0 iv_B0) []) (ul := [.inl (.inr (.inl 82))]) (f := true) (sp := [52, 100, 115, 143, 168, 189]) (d0 := 6) (O := [true]) (T := []) (P := [(2, .inl (.int 400), .inr (.inl 83))]) jm_ok31 (by decide +kernel) (by decide +kernel) hd F X1 X2 (fun F' hF hs => ?_)
  have b83 := hd_b (F := F) (F' := F') (k := 83) (hF 83 (by decide))
  have b82 := hd_b (F := F) (F' := F') (k := 82) (hF 82 (by decide))
  have hB' : iv_in F' iv_B0 := iv_in_eq hB (fun j hj => hF j (Nat.lt_of_lt_of_le hj (by decide +kernel)))
  refine ⟨List.forall_mem_cons.mpr ⟨hd_p2 rfl b83 (by have hc : ((400) : Int32).toInt = 400 := (by decide); omega), fun _ h => absurd h List.not_mem_nil⟩, ?_⟩
  refine k _ ?_ ?_
  · exact fun j hj _ => (hd_keep hB' (Nat.lt_of_lt_of_le hj (by decide +kernel)) (by simp)).trans (hF j (Nat.lt_of_lt_of_le hj (by decide)))
  · exact hd_gi (x := .inr (.inl 82)) (by decide +kernel) b82
theorem k3pq_52_p1 {Ls : Nat} {xs : Nat → Int32} {d : Nat} {Q : Option Value → jm_h → Prop} (hd : 7 ≤ d) (F : Nat → sy_d) (X1 X2 : List jm_c) (hB : iv_in F iv_B0)
    (h0 : (sy_i F 83).toInt ≤ 400)
    (h1 : (sy_i F 82).toInt = 0)
    (k : ∀ F1 : Nat → sy_d, (∀ j, j < 82 → True → F1 j = F j) → F1 82 = .inl (.int (sy_i F 82)) → hd_W Ls xs d jm_M31 Q (189, sy_dL F1 [some (.inl (.ref 30)), none, none, none, some (.inr (.inl 82)), none, none], sy_dS F1 [], sy_dh F1 X1 X2 (iv_H 3), 0, 0)) :
    hd_W Ls xs d jm_M31 Q (52, sy_dL F [some (.inl (.ref 30)), none, none, none, some (.inr (.inl 82)), some (.inr (.inl 83)), none], sy_dS F [], sy_dh F X1 X2 (iv_H 3), 0, 0) := by
  refine hd_run (s := 3) (nv := 84) (pc := 189) (L := [some (.inl (.ref 30)), none, none, none, some (.inr (.inl 82)), none, none]) (S := []) (uh := hd_ov (iv_id 0 iv_B0) []) (ul := [.inl (.inr (.inl 82))]) (f := true) (sp := [52, 100, 115, 143, 168, 189]) (d0 := 6) (O := [false, true]) (T := []) (P := [(3, .inl (.int 400), .inr (.inl 83)), (0, .inr (.inl 82), .inl (.int 0))]) jm_ok31 (by decide +kernel) (by decide +kernel) hd F X1 X2 (fun F' hF hs => ?_)
  have b83 := hd_b (F := F) (F' := F') (k := 83) (hF 83 (by decide))
  have b82 := hd_b (F := F) (F' := F') (k := 82) (hF 82 (by decide))
  have hB' : iv_in F' iv_B0 := iv_in_eq hB (fun j hj => hF j (Nat.lt_of_lt_of_le hj (by decide +kernel)))
  refine ⟨List.forall_mem_cons.mpr ⟨hd_p3 rfl b83 (by have hc : ((400) : Int32).toInt = 400 := (by decide); omega), List.forall_mem_cons.mpr ⟨hd_p0 b82 rfl (by have hc : ((0) : Int32).toInt = 0 := (by decide); omega), fun _ h => absurd h List.not_mem_nil⟩⟩, ?_⟩
  refine k _ ?_ ?_
  · exact fun j hj _ => (hd_keep hB' (Nat.lt_of_lt_of_le hj (by decide +kernel)) (by simp)).trans (hF j (Nat.lt_of_lt_of_le hj (by decide)))
  · exact hd_gi (x := .inr (.inl 82)) (by decide +kernel) b82
theorem k3pq_52_p2 {Ls : Nat} {xs : Nat → Int32} {d : Nat} {Q : Option Value → jm_h → Prop} (hd : 7 ≤ d) (F : Nat → sy_d) (X1 X2 : List jm_c) (hB : iv_in F iv_B0)
    (h0 : (sy_i F 83).toInt ≤ 400)
    (h1 : (sy_i F 82).toInt ≠ 0)
    (h2 : 0 ≤ (sy_i F 33).toInt)
    (h3 : (sy_i F 33).toInt ≤ 400)
    (h4 : 0 ≤ (sy_i F 33).toInt ∧ (sy_i F 33).toInt < 401)
    (h5 : ((sy_ai F 39).getD (sy_i F 33).toNatClampNeg 0).toInt = 26)
    (k : ∀ F1 : Nat → sy_d, (∀ j, j < 82 → True → F1 j = F j) → F1 82 = .inl (.int (sy_i F 82)) → hd_W Ls xs d jm_M31 Q (189, sy_dL F1 [some (.inl (.ref 30)), none, none, none, some (.inr (.inl 82)), none, none], sy_dS F1 [], sy_dh F1 X1 X2 (iv_H 3), 0, 0)) :
    hd_W Ls xs d jm_M31 Q (52, sy_dL F [some (.inl (.ref 30)), none, none, none, some (.inr (.inl 82)), some (.inr (.inl 83)), none], sy_dS F [], sy_dh F X1 X2 (iv_H 3), 0, 0) := by
  refine hd_run (s := 3) (nv := 84) (pc := 189) (L := [some (.inl (.ref 30)), none, none, none, some (.inr (.inl 82)), none, none]) (S := []) (uh := hd_ov (iv_id 0 iv_B0) []) (ul := [.inl (.inr (.inl 82))]) (f := true) (sp := [52, 100, 115, 143, 168, 189]) (d0 := 6) (O := [false, false, false, false, true]) (T := [(30, [.inr (.inl 33)], [.inr (.inl 39)])]) (P := [(3, .inl (.int 400), .inr (.inl 83)), (1, .inr (.inl 82), .inl (.int 0)), (3, .inr (.inl 33), .inl (.int 0)), (3, .inl (.int 400), .inr (.inl 33)), (6, .inr (.inl 33), .inl (.ref 401)), (0, .inr (.inl 84), .inl (.int 26))]) jm_ok31 (by decide +kernel) (by decide +kernel) hd F X1 X2 (fun F' hF hs => ?_)
  have b83 := hd_b (F := F) (F' := F') (k := 83) (hF 83 (by decide))
  have b82 := hd_b (F := F) (F' := F') (k := 82) (hF 82 (by decide))
  have b33 := hd_b (F := F) (F' := F') (k := 33) (hF 33 (by decide))
  have a39 := hd_ba (F := F) (F' := F') (k := 39) (hF 39 (by decide))
  have t84 : sy_dv F' (.inr (.inl 84)) = .int ((sy_ai F 39).getD (sy_i F 33).toNatClampNeg 0) := hd_rd (hs 0 _ rfl) b33 a39
  have hB' : iv_in F' iv_B0 := iv_in_eq hB (fun j hj => hF j (Nat.lt_of_lt_of_le hj (by decide +kernel)))
  refine ⟨List.forall_mem_cons.mpr ⟨hd_p3 rfl b83 (by have hc : ((400) : Int32).toInt = 400 := (by decide); omega), List.forall_mem_cons.mpr ⟨hd_p1 b82 rfl (by have hc : ((0) : Int32).toInt = 0 := (by decide); omega), List.forall_mem_cons.mpr ⟨hd_p3 b33 rfl (by have hc : ((0) : Int32).toInt = 0 := (by decide); omega), List.forall_mem_cons.mpr ⟨hd_p3 rfl b33 (by have hc : ((400) : Int32).toInt = 400 := (by decide); omega), List.forall_mem_cons.mpr ⟨hd_pb b33 (by first | exact h4 | exact h4), List.forall_mem_cons.mpr ⟨hd_p0 t84 rfl (by have hc : ((26) : Int32).toInt = 26 := (by decide); omega), fun _ h => absurd h List.not_mem_nil⟩⟩⟩⟩⟩⟩, ?_⟩
  refine k _ ?_ ?_
  · exact fun j hj _ => (hd_keep hB' (Nat.lt_of_lt_of_le hj (by decide +kernel)) (by simp)).trans (hF j (Nat.lt_of_lt_of_le hj (by decide)))
  · exact hd_gi (x := .inr (.inl 82)) (by decide +kernel) b82
theorem k3pq_52_p3 {Ls : Nat} {xs : Nat → Int32} {d : Nat} {Q : Option Value → jm_h → Prop} (hd : 7 ≤ d) (F : Nat → sy_d) (X1 X2 : List jm_c) (hB : iv_in F iv_B0)
    (h0 : (sy_i F 83).toInt ≤ 400)
    (h1 : (sy_i F 82).toInt ≠ 0)
    (h2 : 0 ≤ (sy_i F 33).toInt)
    (h3 : (sy_i F 33).toInt ≤ 400)
    (h4 : 0 ≤ (sy_i F 33).toInt ∧ (sy_i F 33).toInt < 401)
    (h5 : ((sy_ai F 39).getD (sy_i F 33).toNatClampNeg 0).toInt ≠ 26)
    (h6 : 0 ≤ (sy_i F 33).toInt)
    (h7 : (sy_i F 33).toInt ≤ 400)
    (h8 : 0 ≤ (sy_i F 33).toInt ∧ (sy_i F 33).toInt < 401)
    (h9 : ((sy_ai F 39).getD (sy_i F 33).toNatClampNeg 0).toInt ≠ 0)
    (h10 : ((sy_ai F 39).getD (sy_i F 33).toNatClampNeg 0).toInt ≠ 1)
    (h11 : ((sy_ai F 39).getD (sy_i F 33).toNatClampNeg 0).toInt < 2)
    (h12 : ((sy_ai F 39).getD (sy_i F 33).toNatClampNeg 0).toInt < 8)
    (k : ∀ F1 : Nat → sy_d, (∀ j, j < 82 → j ≠ 34 → F1 j = F j) → F1 34 = .inl (.int ((1 : Int32))) → F1 82 = .inl (.int ((0 : Int32))) → F1 83 = .inl (.int ((sy_i F 83) + ((1 : Int32)))) → hd_W Ls xs d jm_M31 Q (52, sy_dL F1 [some (.inl (.ref 30)), none, none, none, some (.inr (.inl 82)), some (.inr (.inl 83)), none], sy_dS F1 [], sy_dh F1 X1 X2 (iv_H 3), 0, 0)) :
    hd_W Ls xs d jm_M31 Q (52, sy_dL F [some (.inl (.ref 30)), none, none, none, some (.inr (.inl 82)), some (.inr (.inl 83)), none], sy_dS F [], sy_dh F X1 X2 (iv_H 3), 0, 0) := by
  refine hd_run (s := 3) (nv := 84) (pc := 52) (L := [some (.inl (.ref 30)), none, none, none, some (.inr (.inl 82)), some (.inr (.inl 83)), none]) (S := []) (uh := hd_ov (iv_id 0 iv_B0) [(34, .inl (.inl (.int 1)))]) (ul := [.inl (.inl (.int 0)), .inl (.inr (.inl 86))]) (f := true) (sp := [52, 100, 115, 143, 168, 189]) (d0 := 6) (O := [false, false, false, false, false, false, false, true, true, true, true]) (T := [(30, [.inr (.inl 33)], [.inr (.inl 39)]), (30, [.inr (.inl 33)], [.inr (.inl 39)]), (0, [.inr (.inl 83), .inl (.int 1)], [])]) (P := [(3, .inl (.int 400), .inr (.inl 83)), (1, .inr (.inl 82), .inl (.int 0)), (3, .inr (.inl 33), .inl (.int 0)), (3, .inl (.int 400), .inr (.inl 33)), (6, .inr (.inl 33), .inl (.ref 401)), (1, .inr (.inl 84), .inl (.int 26)), (3, .inr (.inl 33), .inl (.int 0)), (3, .inl (.int 400), .inr (.inl 33)), (6, .inr (.inl 33), .inl (.ref 401)), (1, .inr (.inl 85), .inl (.int 0)), (1, .inr (.inl 85), .inl (.int 1)), (2, .inr (.inl 85), .inl (.int 2)), (2, .inr (.inl 85), .inl (.int 8))]) jm_ok31 (by decide +kernel) (by decide +kernel) hd F X1 X2 (fun F' hF hs => ?_)
  have b83 := hd_b (F := F) (F' := F') (k := 83) (hF 83 (by decide))
  have b82 := hd_b (F := F) (F' := F') (k := 82) (hF 82 (by decide))
  have b33 := hd_b (F := F) (F' := F') (k := 33) (hF 33 (by decide))
  have a39 := hd_ba (F := F) (F' := F') (k := 39) (hF 39 (by decide))
  have t84 : sy_dv F' (.inr (.inl 84)) = .int ((sy_ai F 39).getD (sy_i F 33).toNatClampNeg 0) := hd_rd (hs 0 _ rfl) b33 a39
  have t85 : sy_dv F' (.inr (.inl 85)) = .int ((sy_ai F 39).getD (sy_i F 33).toNatClampNeg 0) := hd_rd (hs 1 _ rfl) b33 a39
  have t86 : sy_dv F' (.inr (.inl 86)) = .int ((sy_i F 83) + ((1 : Int32))) := hd_o (hs 2 _ rfl) b83 rfl rfl
  have hB' : iv_in F' iv_B0 := iv_in_eq hB (fun j hj => hF j (Nat.lt_of_lt_of_le hj (by decide +kernel)))
  refine ⟨List.forall_mem_cons.mpr ⟨hd_p3 rfl b83 (by have hc : ((400) : Int32).toInt = 400 := (by decide); omega), List.forall_mem_cons.mpr ⟨hd_p1 b82 rfl (by have hc : ((0) : Int32).toInt = 0 := (by decide); omega), List.forall_mem_cons.mpr ⟨hd_p3 b33 rfl (by have hc : ((0) : Int32).toInt = 0 := (by decide); omega), List.forall_mem_cons.mpr ⟨hd_p3 rfl b33 (by have hc : ((400) : Int32).toInt = 400 := (by decide); omega), List.forall_mem_cons.mpr ⟨hd_pb b33 (by first | exact h4 | exact h4), List.forall_mem_cons.mpr ⟨hd_p1 t84 rfl (by have hc : ((26) : Int32).toInt = 26 := (by decide); omega), List.forall_mem_cons.mpr ⟨hd_p3 b33 rfl (by have hc : ((0) : Int32).toInt = 0 := (by decide); omega), List.forall_mem_cons.mpr ⟨hd_p3 rfl b33 (by have hc : ((400) : Int32).toInt = 400 := (by decide); omega), List.forall_mem_cons.mpr ⟨hd_pb b33 (by first | exact h8 | exact h8), List.forall_mem_cons.mpr ⟨hd_p1 t85 rfl (by have hc : ((0) : Int32).toInt = 0 := (by decide); omega), List.forall_mem_cons.mpr ⟨hd_p1 t85 rfl (by have hc : ((1) : Int32).toInt = 1 := (by decide); omega), List.forall_mem_cons.mpr ⟨hd_p2 t85 rfl (by have hc : ((2) : Int32).toInt = 2 := (by decide); omega), List.forall_mem_cons.mpr ⟨hd_p2 t85 rfl (by have hc : ((8) : Int32).toInt = 8 := (by decide); omega), fun _ h => absurd h List.not_mem_nil⟩⟩⟩⟩⟩⟩⟩⟩⟩⟩⟩⟩⟩, ?_⟩
  refine k _ ?_ ?_ ?_ ?_
  · exact fun j hj hn => (hd_keep hB' (Nat.lt_of_lt_of_le hj (by decide +kernel)) (by simp; omega)).trans (hF j (Nat.lt_of_lt_of_le hj (by decide)))
  · exact hd_gi (x := .inl (.int 1)) (by decide +kernel) rfl
  · exact hd_gi (x := .inl (.int 0)) (by decide +kernel) rfl
  · exact hd_gi (x := .inr (.inl 86)) (by decide +kernel) t86
theorem k3pq_52_p4 {Ls : Nat} {xs : Nat → Int32} {d : Nat} {Q : Option Value → jm_h → Prop} (hd : 7 ≤ d) (F : Nat → sy_d) (X1 X2 : List jm_c) (hB : iv_in F iv_B0)
    (h0 : (sy_i F 83).toInt ≤ 400)
    (h1 : (sy_i F 82).toInt ≠ 0)
    (h2 : 0 ≤ (sy_i F 33).toInt)
    (h3 : (sy_i F 33).toInt ≤ 400)
    (h4 : 0 ≤ (sy_i F 33).toInt ∧ (sy_i F 33).toInt < 401)
    (h5 : ((sy_ai F 39).getD (sy_i F 33).toNatClampNeg 0).toInt ≠ 26)
    (h6 : 0 ≤ (sy_i F 33).toInt)
    (h7 : (sy_i F 33).toInt ≤ 400)
    (h8 : 0 ≤ (sy_i F 33).toInt ∧ (sy_i F 33).toInt < 401)
    (h9 : ((sy_ai F 39).getD (sy_i F 33).toNatClampNeg 0).toInt ≠ 0)
    (h10 : ((sy_ai F 39).getD (sy_i F 33).toNatClampNeg 0).toInt ≠ 1)
    (h11 : 2 ≤ ((sy_ai F 39).getD (sy_i F 33).toNatClampNeg 0).toInt)
    (h12 : 7 < ((sy_ai F 39).getD (sy_i F 33).toNatClampNeg 0).toInt)
    (h13 : 8 ≤ ((sy_ai F 39).getD (sy_i F 33).toNatClampNeg 0).toInt)
    (h14 : 10 < ((sy_ai F 39).getD (sy_i F 33).toNatClampNeg 0).toInt)
    (k : ∀ F1 : Nat → sy_d, (∀ j, j < 82 → j ≠ 34 → F1 j = F j) → F1 34 = .inl (.int ((1 : Int32))) → F1 82 = .inl (.int ((0 : Int32))) → F1 83 = .inl (.int ((sy_i F 83) + ((1 : Int32)))) → hd_W Ls xs d jm_M31 Q (52, sy_dL F1 [some (.inl (.ref 30)), none, none, none, some (.inr (.inl 82)), some (.inr (.inl 83)), none], sy_dS F1 [], sy_dh F1 X1 X2 (iv_H 3), 0, 0)) :
    hd_W Ls xs d jm_M31 Q (52, sy_dL F [some (.inl (.ref 30)), none, none, none, some (.inr (.inl 82)), some (.inr (.inl 83)), none], sy_dS F [], sy_dh F X1 X2 (iv_H 3), 0, 0) := by
  refine hd_run (s := 3) (nv := 84) (pc := 52) (L := [some (.inl (.ref 30)), none, none, none, some (.inr (.inl 82)), some (.inr (.inl 83)), none]) (S := []) (uh := hd_ov (iv_id 0 iv_B0) [(34, .inl (.inl (.int 1)))]) (ul := [.inl (.inl (.int 0)), .inl (.inr (.inl 86))]) (f := true) (sp := [52, 100, 115, 143, 168, 189]) (d0 := 6) (O := [false, false, false, false, false, false, false, true, true, false, true, false, true]) (T := [(30, [.inr (.inl 33)], [.inr (.inl 39)]), (30, [.inr (.inl 33)], [.inr (.inl 39)]), (0, [.inr (.inl 83), .inl (.int 1)], [])]) (P := [(3, .inl (.int 400), .inr (.inl 83)), (1, .inr (.inl 82), .inl (.int 0)), (3, .inr (.inl 33), .inl (.int 0)), (3, .inl (.int 400), .inr (.inl 33)), (6, .inr (.inl 33), .inl (.ref 401)), (1, .inr (.inl 84), .inl (.int 26)), (3, .inr (.inl 33), .inl (.int 0)), (3, .inl (.int 400), .inr (.inl 33)), (6, .inr (.inl 33), .inl (.ref 401)), (1, .inr (.inl 85), .inl (.int 0)), (1, .inr (.inl 85), .inl (.int 1)), (3, .inr (.inl 85), .inl (.int 2)), (2, .inl (.int 7), .inr (.inl 85)), (3, .inr (.inl 85), .inl (.int 8)), (2, .inl (.int 10), .inr (.inl 85))]) jm_ok31 (by decide +kernel) (by decide +kernel) hd F X1 X2 (fun F' hF hs => ?_)
  have b83 := hd_b (F := F) (F' := F') (k := 83) (hF 83 (by decide))
  have b82 := hd_b (F := F) (F' := F') (k := 82) (hF 82 (by decide))
  have b33 := hd_b (F := F) (F' := F') (k := 33) (hF 33 (by decide))
  have a39 := hd_ba (F := F) (F' := F') (k := 39) (hF 39 (by decide))
  have t84 : sy_dv F' (.inr (.inl 84)) = .int ((sy_ai F 39).getD (sy_i F 33).toNatClampNeg 0) := hd_rd (hs 0 _ rfl) b33 a39
  have t85 : sy_dv F' (.inr (.inl 85)) = .int ((sy_ai F 39).getD (sy_i F 33).toNatClampNeg 0) := hd_rd (hs 1 _ rfl) b33 a39
  have t86 : sy_dv F' (.inr (.inl 86)) = .int ((sy_i F 83) + ((1 : Int32))) := hd_o (hs 2 _ rfl) b83 rfl rfl
  have hB' : iv_in F' iv_B0 := iv_in_eq hB (fun j hj => hF j (Nat.lt_of_lt_of_le hj (by decide +kernel)))
  refine ⟨List.forall_mem_cons.mpr ⟨hd_p3 rfl b83 (by have hc : ((400) : Int32).toInt = 400 := (by decide); omega), List.forall_mem_cons.mpr ⟨hd_p1 b82 rfl (by have hc : ((0) : Int32).toInt = 0 := (by decide); omega), List.forall_mem_cons.mpr ⟨hd_p3 b33 rfl (by have hc : ((0) : Int32).toInt = 0 := (by decide); omega), List.forall_mem_cons.mpr ⟨hd_p3 rfl b33 (by have hc : ((400) : Int32).toInt = 400 := (by decide); omega), List.forall_mem_cons.mpr ⟨hd_pb b33 (by first | exact h4 | exact h4), List.forall_mem_cons.mpr ⟨hd_p1 t84 rfl (by have hc : ((26) : Int32).toInt = 26 := (by decide); omega), List.forall_mem_cons.mpr ⟨hd_p3 b33 rfl (by have hc : ((0) : Int32).toInt = 0 := (by decide); omega), List.forall_mem_cons.mpr ⟨hd_p3 rfl b33 (by have hc : ((400) : Int32).toInt = 400 := (by decide); omega), List.forall_mem_cons.mpr ⟨hd_pb b33 (by first | exact h8 | exact h8), List.forall_mem_cons.mpr ⟨hd_p1 t85 rfl (by have hc : ((0) : Int32).toInt = 0 := (by decide); omega), List.forall_mem_cons.mpr ⟨hd_p1 t85 rfl (by have hc : ((1) : Int32).toInt = 1 := (by decide); omega), List.forall_mem_cons.mpr ⟨hd_p3 t85 rfl (by have hc : ((2) : Int32).toInt = 2 := (by decide); omega), List.forall_mem_cons.mpr ⟨hd_p2 rfl t85 (by have hc : ((7) : Int32).toInt = 7 := (by decide); omega), List.forall_mem_cons.mpr ⟨hd_p3 t85 rfl (by have hc : ((8) : Int32).toInt = 8 := (by decide); omega), List.forall_mem_cons.mpr ⟨hd_p2 rfl t85 (by have hc : ((10) : Int32).toInt = 10 := (by decide); omega), fun _ h => absurd h List.not_mem_nil⟩⟩⟩⟩⟩⟩⟩⟩⟩⟩⟩⟩⟩⟩⟩, ?_⟩
  refine k _ ?_ ?_ ?_ ?_
  · exact fun j hj hn => (hd_keep hB' (Nat.lt_of_lt_of_le hj (by decide +kernel)) (by simp; omega)).trans (hF j (Nat.lt_of_lt_of_le hj (by decide)))
  · exact hd_gi (x := .inl (.int 1)) (by decide +kernel) rfl
  · exact hd_gi (x := .inl (.int 0)) (by decide +kernel) rfl
  · exact hd_gi (x := .inr (.inl 86)) (by decide +kernel) t86
theorem k3pq_52_p5 {Ls : Nat} {xs : Nat → Int32} {d : Nat} {Q : Option Value → jm_h → Prop} (hd : 7 ≤ d) (F : Nat → sy_d) (X1 X2 : List jm_c) (hB : iv_in F iv_B0)
    (h0 : (sy_i F 83).toInt ≤ 400)
    (h1 : (sy_i F 82).toInt ≠ 0)
    (h2 : 0 ≤ (sy_i F 33).toInt)
    (h3 : (sy_i F 33).toInt ≤ 400)
    (h4 : 0 ≤ (sy_i F 33).toInt ∧ (sy_i F 33).toInt < 401)
    (h5 : ((sy_ai F 39).getD (sy_i F 33).toNatClampNeg 0).toInt ≠ 26)
    (h6 : 0 ≤ (sy_i F 33).toInt)
    (h7 : (sy_i F 33).toInt ≤ 400)
    (h8 : 0 ≤ (sy_i F 33).toInt ∧ (sy_i F 33).toInt < 401)
    (h9 : ((sy_ai F 39).getD (sy_i F 33).toNatClampNeg 0).toInt ≠ 0)
    (h10 : ((sy_ai F 39).getD (sy_i F 33).toNatClampNeg 0).toInt ≠ 1)
    (h11 : 2 ≤ ((sy_ai F 39).getD (sy_i F 33).toNatClampNeg 0).toInt)
    (h12 : 7 < ((sy_ai F 39).getD (sy_i F 33).toNatClampNeg 0).toInt)
    (h13 : 8 ≤ ((sy_ai F 39).getD (sy_i F 33).toNatClampNeg 0).toInt)
    (h14 : ((sy_ai F 39).getD (sy_i F 33).toNatClampNeg 0).toInt ≤ 10)
    (k : ∀ F1 : Nat → sy_d, (∀ j, j < 82 → True → F1 j = F j) → F1 82 = .inl (.int (sy_i F 83)) → F1 83 = .inl (.int ((sy_ai F 39).getD (sy_i F 33).toNatClampNeg 0)) → hd_W Ls xs d jm_M31 Q (168, sy_dL F1 [some (.inl (.ref 30)), none, none, none, none, some (.inr (.inl 82)), none], sy_dS F1 [.inr (.inl 83), .inl (.ref 30)], sy_dh F1 X1 X2 (iv_H 3), 0, 0)) :
    hd_W Ls xs d jm_M31 Q (52, sy_dL F [some (.inl (.ref 30)), none, none, none, some (.inr (.inl 82)), some (.inr (.inl 83)), none], sy_dS F [], sy_dh F X1 X2 (iv_H 3), 0, 0) := by
  refine hd_run (s := 3) (nv := 84) (pc := 168) (L := [some (.inl (.ref 30)), none, none, none, none, some (.inr (.inl 82)), none]) (S := [.inr (.inl 83), .inl (.ref 30)]) (uh := hd_ov (iv_id 0 iv_B0) []) (ul := [.inl (.inr (.inl 83)), .inl (.inr (.inl 85))]) (f := true) (sp := [52, 100, 115, 143, 168, 189]) (d0 := 6) (O := [false, false, false, false, false, false, false, true, true, false, true, false, false]) (T := [(30, [.inr (.inl 33)], [.inr (.inl 39)]), (30, [.inr (.inl 33)], [.inr (.inl 39)])]) (P := [(3, .inl (.int 400), .inr (.inl 83)), (1, .inr (.inl 82), .inl (.int 0)), (3, .inr (.inl 33), .inl (.int 0)), (3, .inl (.int 400), .inr (.inl 33)), (6, .inr (.inl 33), .inl (.ref 401)), (1, .inr (.inl 84), .inl (.int 26)), (3, .inr (.inl 33), .inl (.int 0)), (3, .inl (.int 400), .inr (.inl 33)), (6, .inr (.inl 33), .inl (.ref 401)), (1, .inr (.inl 85), .inl (.int 0)), (1, .inr (.inl 85), .inl (.int 1)), (3, .inr (.inl 85), .inl (.int 2)), (2, .inl (.int 7), .inr (.inl 85)), (3, .inr (.inl 85), .inl (.int 8)), (3, .inl (.int 10), .inr (.inl 85))]) jm_ok31 (by decide +kernel) (by decide +kernel) hd F X1 X2 (fun F' hF hs => ?_)
  have b83 := hd_b (F := F) (F' := F') (k := 83) (hF 83 (by decide))
  have b82 := hd_b (F := F) (F' := F') (k := 82) (hF 82 (by decide))
  have b33 := hd_b (F := F) (F' := F') (k := 33) (hF 33 (by decide))
  have a39 := hd_ba (F := F) (F' := F') (k := 39) (hF 39 (by decide))
  have t84 : sy_dv F' (.inr (.inl 84)) = .int ((sy_ai F 39).getD (sy_i F 33).toNatClampNeg 0) := hd_rd (hs 0 _ rfl) b33 a39
  have t85 : sy_dv F' (.inr (.inl 85)) = .int ((sy_ai F 39).getD (sy_i F 33).toNatClampNeg 0) := hd_rd (hs 1 _ rfl) b33 a39
  have hB' : iv_in F' iv_B0 := iv_in_eq hB (fun j hj => hF j (Nat.lt_of_lt_of_le hj (by decide +kernel)))
  refine ⟨List.forall_mem_cons.mpr ⟨hd_p3 rfl b83 (by have hc : ((400) : Int32).toInt = 400 := (by decide); omega), List.forall_mem_cons.mpr ⟨hd_p1 b82 rfl (by have hc : ((0) : Int32).toInt = 0 := (by decide); omega), List.forall_mem_cons.mpr ⟨hd_p3 b33 rfl (by have hc : ((0) : Int32).toInt = 0 := (by decide); omega), List.forall_mem_cons.mpr ⟨hd_p3 rfl b33 (by have hc : ((400) : Int32).toInt = 400 := (by decide); omega), List.forall_mem_cons.mpr ⟨hd_pb b33 (by first | exact h4 | exact h4), List.forall_mem_cons.mpr ⟨hd_p1 t84 rfl (by have hc : ((26) : Int32).toInt = 26 := (by decide); omega), List.forall_mem_cons.mpr ⟨hd_p3 b33 rfl (by have hc : ((0) : Int32).toInt = 0 := (by decide); omega), List.forall_mem_cons.mpr ⟨hd_p3 rfl b33 (by have hc : ((400) : Int32).toInt = 400 := (by decide); omega), List.forall_mem_cons.mpr ⟨hd_pb b33 (by first | exact h8 | exact h8), List.forall_mem_cons.mpr ⟨hd_p1 t85 rfl (by have hc : ((0) : Int32).toInt = 0 := (by decide); omega), List.forall_mem_cons.mpr ⟨hd_p1 t85 rfl (by have hc : ((1) : Int32).toInt = 1 := (by decide); omega), List.forall_mem_cons.mpr ⟨hd_p3 t85 rfl (by have hc : ((2) : Int32).toInt = 2 := (by decide); omega), List.forall_mem_cons.mpr ⟨hd_p2 rfl t85 (by have hc : ((7) : Int32).toInt = 7 := (by decide); omega), List.forall_mem_cons.mpr ⟨hd_p3 t85 rfl (by have hc : ((8) : Int32).toInt = 8 := (by decide); omega), List.forall_mem_cons.mpr ⟨hd_p3 rfl t85 (by have hc : ((10) : Int32).toInt = 10 := (by decide); omega), fun _ h => absurd h List.not_mem_nil⟩⟩⟩⟩⟩⟩⟩⟩⟩⟩⟩⟩⟩⟩⟩, ?_⟩
  refine k _ ?_ ?_ ?_
  · exact fun j hj _ => (hd_keep hB' (Nat.lt_of_lt_of_le hj (by decide +kernel)) (by simp)).trans (hF j (Nat.lt_of_lt_of_le hj (by decide)))
  · exact hd_gi (x := .inr (.inl 83)) (by decide +kernel) b83
  · exact hd_gi (x := .inr (.inl 85)) (by decide +kernel) t85
theorem k3pq_52_p6 {Ls : Nat} {xs : Nat → Int32} {d : Nat} {Q : Option Value → jm_h → Prop} (hd : 7 ≤ d) (F : Nat → sy_d) (X1 X2 : List jm_c) (hB : iv_in F iv_B0)
    (h0 : (sy_i F 83).toInt ≤ 400)
    (h1 : (sy_i F 82).toInt ≠ 0)
    (h2 : 0 ≤ (sy_i F 33).toInt)
    (h3 : (sy_i F 33).toInt ≤ 400)
    (h4 : 0 ≤ (sy_i F 33).toInt ∧ (sy_i F 33).toInt < 401)
    (h5 : ((sy_ai F 39).getD (sy_i F 33).toNatClampNeg 0).toInt ≠ 26)
    (h6 : 0 ≤ (sy_i F 33).toInt)
    (h7 : (sy_i F 33).toInt ≤ 400)
    (h8 : 0 ≤ (sy_i F 33).toInt ∧ (sy_i F 33).toInt < 401)
    (h9 : ((sy_ai F 39).getD (sy_i F 33).toNatClampNeg 0).toInt ≠ 0)
    (h10 : ((sy_ai F 39).getD (sy_i F 33).toNatClampNeg 0).toInt ≠ 1)
    (h11 : 2 ≤ ((sy_ai F 39).getD (sy_i F 33).toNatClampNeg 0).toInt)
    (h12 : ((sy_ai F 39).getD (sy_i F 33).toNatClampNeg 0).toInt ≤ 7)
    (k : ∀ F1 : Nat → sy_d, (∀ j, j < 82 → True → F1 j = F j) → F1 82 = .inl (.int (sy_i F 83)) → F1 83 = .inl (.int (((sy_ai F 39).getD (sy_i F 33).toNatClampNeg 0) - ((2 : Int32)))) → F1 84 = .inl (.int ((sy_ai F 39).getD (sy_i F 33).toNatClampNeg 0)) → hd_W Ls xs d jm_M31 Q (143, sy_dL F1 [some (.inl (.ref 30)), none, none, none, none, some (.inr (.inl 82)), none], sy_dS F1 [.inr (.inl 83), .inr (.inl 84), .inl (.ref 30)], sy_dh F1 X1 X2 (iv_H 3), 0, 0)) :
    hd_W Ls xs d jm_M31 Q (52, sy_dL F [some (.inl (.ref 30)), none, none, none, some (.inr (.inl 82)), some (.inr (.inl 83)), none], sy_dS F [], sy_dh F X1 X2 (iv_H 3), 0, 0) := by
  refine hd_run (s := 3) (nv := 84) (pc := 143) (L := [some (.inl (.ref 30)), none, none, none, none, some (.inr (.inl 82)), none]) (S := [.inr (.inl 83), .inr (.inl 84), .inl (.ref 30)]) (uh := hd_ov (iv_id 0 iv_B0) []) (ul := [.inl (.inr (.inl 83)), .inl (.inr (.inl 86)), .inl (.inr (.inl 85))]) (f := true) (sp := [52, 100, 115, 143, 168, 189]) (d0 := 6) (O := [false, false, false, false, false, false, false, true, true, false, false]) (T := [(30, [.inr (.inl 33)], [.inr (.inl 39)]), (30, [.inr (.inl 33)], [.inr (.inl 39)]), (1, [.inr (.inl 85), .inl (.int 2)], [])]) (P := [(3, .inl (.int 400), .inr (.inl 83)), (1, .inr (.inl 82), .inl (.int 0)), (3, .inr (.inl 33), .inl (.int 0)), (3, .inl (.int 400), .inr (.inl 33)), (6, .inr (.inl 33), .inl (.ref 401)), (1, .inr (.inl 84), .inl (.int 26)), (3, .inr (.inl 33), .inl (.int 0)), (3, .inl (.int 400), .inr (.inl 33)), (6, .inr (.inl 33), .inl (.ref 401)), (1, .inr (.inl 85), .inl (.int 0)), (1, .inr (.inl 85), .inl (.int 1)), (3, .inr (.inl 85), .inl (.int 2)), (3, .inl (.int 7), .inr (.inl 85))]) jm_ok31 (by decide +kernel) (by decide +kernel) hd F X1 X2 (fun F' hF hs => ?_)
  have b83 := hd_b (F := F) (F' := F') (k := 83) (hF 83 (by decide))
  have b82 := hd_b (F := F) (F' := F') (k := 82) (hF 82 (by decide))
  have b33 := hd_b (F := F) (F' := F') (k := 33) (hF 33 (by decide))
  have a39 := hd_ba (F := F) (F' := F') (k := 39) (hF 39 (by decide))
  have t84 : sy_dv F' (.inr (.inl 84)) = .int ((sy_ai F 39).getD (sy_i F 33).toNatClampNeg 0) := hd_rd (hs 0 _ rfl) b33 a39
  have t85 : sy_dv F' (.inr (.inl 85)) = .int ((sy_ai F 39).getD (sy_i F 33).toNatClampNeg 0) := hd_rd (hs 1 _ rfl) b33 a39
  have t86 : sy_dv F' (.inr (.inl 86)) = .int (((sy_ai F 39).getD (sy_i F 33).toNatClampNeg 0) - ((2 : Int32))) := hd_o (hs 2 _ rfl) t85 rfl rfl
  have hB' : iv_in F' iv_B0 := iv_in_eq hB (fun j hj => hF j (Nat.lt_of_lt_of_le hj (by decide +kernel)))
  refine ⟨List.forall_mem_cons.mpr ⟨hd_p3 rfl b83 (by have hc : ((400) : Int32).toInt = 400 := (by decide); omega), List.forall_mem_cons.mpr ⟨hd_p1 b82 rfl (by have hc : ((0) : Int32).toInt = 0 := (by decide); omega), List.forall_mem_cons.mpr ⟨hd_p3 b33 rfl (by have hc : ((0) : Int32).toInt = 0 := (by decide); omega), List.forall_mem_cons.mpr ⟨hd_p3 rfl b33 (by have hc : ((400) : Int32).toInt = 400 := (by decide); omega), List.forall_mem_cons.mpr ⟨hd_pb b33 (by first | exact h4 | exact h4), List.forall_mem_cons.mpr ⟨hd_p1 t84 rfl (by have hc : ((26) : Int32).toInt = 26 := (by decide); omega), List.forall_mem_cons.mpr ⟨hd_p3 b33 rfl (by have hc : ((0) : Int32).toInt = 0 := (by decide); omega), List.forall_mem_cons.mpr ⟨hd_p3 rfl b33 (by have hc : ((400) : Int32).toInt = 400 := (by decide); omega), List.forall_mem_cons.mpr ⟨hd_pb b33 (by first | exact h8 | exact h8), List.forall_mem_cons.mpr ⟨hd_p1 t85 rfl (by have hc : ((0) : Int32).toInt = 0 := (by decide); omega), List.forall_mem_cons.mpr ⟨hd_p1 t85 rfl (by have hc : ((1) : Int32).toInt = 1 := (by decide); omega), List.forall_mem_cons.mpr ⟨hd_p3 t85 rfl (by have hc : ((2) : Int32).toInt = 2 := (by decide); omega), List.forall_mem_cons.mpr ⟨hd_p3 rfl t85 (by have hc : ((7) : Int32).toInt = 7 := (by decide); omega), fun _ h => absurd h List.not_mem_nil⟩⟩⟩⟩⟩⟩⟩⟩⟩⟩⟩⟩⟩, ?_⟩
  refine k _ ?_ ?_ ?_ ?_
  · exact fun j hj _ => (hd_keep hB' (Nat.lt_of_lt_of_le hj (by decide +kernel)) (by simp)).trans (hF j (Nat.lt_of_lt_of_le hj (by decide)))
  · exact hd_gi (x := .inr (.inl 83)) (by decide +kernel) b83
  · exact hd_gi (x := .inr (.inl 86)) (by decide +kernel) t86
  · exact hd_gi (x := .inr (.inl 85)) (by decide +kernel) t85
theorem k3pq_52_p7 {Ls : Nat} {xs : Nat → Int32} {d : Nat} {Q : Option Value → jm_h → Prop} (hd : 7 ≤ d) (F : Nat → sy_d) (X1 X2 : List jm_c) (hB : iv_in F iv_B0)
    (h0 : (sy_i F 83).toInt ≤ 400)
    (h1 : (sy_i F 82).toInt ≠ 0)
    (h2 : 0 ≤ (sy_i F 33).toInt)
    (h3 : (sy_i F 33).toInt ≤ 400)
    (h4 : 0 ≤ (sy_i F 33).toInt ∧ (sy_i F 33).toInt < 401)
    (h5 : ((sy_ai F 39).getD (sy_i F 33).toNatClampNeg 0).toInt ≠ 26)
    (h6 : 0 ≤ (sy_i F 33).toInt)
    (h7 : (sy_i F 33).toInt ≤ 400)
    (h8 : 0 ≤ (sy_i F 33).toInt ∧ (sy_i F 33).toInt < 401)
    (h9 : ((sy_ai F 39).getD (sy_i F 33).toNatClampNeg 0).toInt ≠ 0)
    (h10 : ((sy_ai F 39).getD (sy_i F 33).toNatClampNeg 0).toInt = 1)
    (k : ∀ F1 : Nat → sy_d, (∀ j, j < 82 → True → F1 j = F j) → F1 82 = .inl (.int (sy_i F 83)) → hd_W Ls xs d jm_M31 Q (115, sy_dL F1 [some (.inl (.ref 30)), none, none, none, none, some (.inr (.inl 82)), none], sy_dS F1 [.inl (.ref 30)], sy_dh F1 X1 X2 (iv_H 3), 0, 0)) :
    hd_W Ls xs d jm_M31 Q (52, sy_dL F [some (.inl (.ref 30)), none, none, none, some (.inr (.inl 82)), some (.inr (.inl 83)), none], sy_dS F [], sy_dh F X1 X2 (iv_H 3), 0, 0) := by
  refine hd_run (s := 3) (nv := 84) (pc := 115) (L := [some (.inl (.ref 30)), none, none, none, none, some (.inr (.inl 82)), none]) (S := [.inl (.ref 30)]) (uh := hd_ov (iv_id 0 iv_B0) []) (ul := [.inl (.inr (.inl 83))]) (f := true) (sp := [52, 100, 115, 143, 168, 189]) (d0 := 6) (O := [false, false, false, false, false, false, false, true, false]) (T := [(30, [.inr (.inl 33)], [.inr (.inl 39)]), (30, [.inr (.inl 33)], [.inr (.inl 39)])]) (P := [(3, .inl (.int 400), .inr (.inl 83)), (1, .inr (.inl 82), .inl (.int 0)), (3, .inr (.inl 33), .inl (.int 0)), (3, .inl (.int 400), .inr (.inl 33)), (6, .inr (.inl 33), .inl (.ref 401)), (1, .inr (.inl 84), .inl (.int 26)), (3, .inr (.inl 33), .inl (.int 0)), (3, .inl (.int 400), .inr (.inl 33)), (6, .inr (.inl 33), .inl (.ref 401)), (1, .inr (.inl 85), .inl (.int 0)), (0, .inr (.inl 85), .inl (.int 1))]) jm_ok31 (by decide +kernel) (by decide +kernel) hd F X1 X2 (fun F' hF hs => ?_)
  have b83 := hd_b (F := F) (F' := F') (k := 83) (hF 83 (by decide))
  have b82 := hd_b (F := F) (F' := F') (k := 82) (hF 82 (by decide))
  have b33 := hd_b (F := F) (F' := F') (k := 33) (hF 33 (by decide))
  have a39 := hd_ba (F := F) (F' := F') (k := 39) (hF 39 (by decide))
  have t84 : sy_dv F' (.inr (.inl 84)) = .int ((sy_ai F 39).getD (sy_i F 33).toNatClampNeg 0) := hd_rd (hs 0 _ rfl) b33 a39
  have t85 : sy_dv F' (.inr (.inl 85)) = .int ((sy_ai F 39).getD (sy_i F 33).toNatClampNeg 0) := hd_rd (hs 1 _ rfl) b33 a39
  have hB' : iv_in F' iv_B0 := iv_in_eq hB (fun j hj => hF j (Nat.lt_of_lt_of_le hj (by decide +kernel)))
  refine ⟨List.forall_mem_cons.mpr ⟨hd_p3 rfl b83 (by have hc : ((400) : Int32).toInt = 400 := (by decide); omega), List.forall_mem_cons.mpr ⟨hd_p1 b82 rfl (by have hc : ((0) : Int32).toInt = 0 := (by decide); omega), List.forall_mem_cons.mpr ⟨hd_p3 b33 rfl (by have hc : ((0) : Int32).toInt = 0 := (by decide); omega), List.forall_mem_cons.mpr ⟨hd_p3 rfl b33 (by have hc : ((400) : Int32).toInt = 400 := (by decide); omega), List.forall_mem_cons.mpr ⟨hd_pb b33 (by first | exact h4 | exact h4), List.forall_mem_cons.mpr ⟨hd_p1 t84 rfl (by have hc : ((26) : Int32).toInt = 26 := (by decide); omega), List.forall_mem_cons.mpr ⟨hd_p3 b33 rfl (by have hc : ((0) : Int32).toInt = 0 := (by decide); omega), List.forall_mem_cons.mpr ⟨hd_p3 rfl b33 (by have hc : ((400) : Int32).toInt = 400 := (by decide); omega), List.forall_mem_cons.mpr ⟨hd_pb b33 (by first | exact h8 | exact h8), List.forall_mem_cons.mpr ⟨hd_p1 t85 rfl (by have hc : ((0) : Int32).toInt = 0 := (by decide); omega), List.forall_mem_cons.mpr ⟨hd_p0 t85 rfl (by have hc : ((1) : Int32).toInt = 1 := (by decide); omega), fun _ h => absurd h List.not_mem_nil⟩⟩⟩⟩⟩⟩⟩⟩⟩⟩⟩, ?_⟩
  refine k _ ?_ ?_
  · exact fun j hj _ => (hd_keep hB' (Nat.lt_of_lt_of_le hj (by decide +kernel)) (by simp)).trans (hF j (Nat.lt_of_lt_of_le hj (by decide)))
  · exact hd_gi (x := .inr (.inl 83)) (by decide +kernel) b83
theorem k3pq_52_p8 {Ls : Nat} {xs : Nat → Int32} {d : Nat} {Q : Option Value → jm_h → Prop} (hd : 7 ≤ d) (F : Nat → sy_d) (X1 X2 : List jm_c) (hB : iv_in F iv_B0)
    (h0 : (sy_i F 83).toInt ≤ 400)
    (h1 : (sy_i F 82).toInt ≠ 0)
    (h2 : 0 ≤ (sy_i F 33).toInt)
    (h3 : (sy_i F 33).toInt ≤ 400)
    (h4 : 0 ≤ (sy_i F 33).toInt ∧ (sy_i F 33).toInt < 401)
    (h5 : ((sy_ai F 39).getD (sy_i F 33).toNatClampNeg 0).toInt ≠ 26)
    (h6 : 0 ≤ (sy_i F 33).toInt)
    (h7 : (sy_i F 33).toInt ≤ 400)
    (h8 : 0 ≤ (sy_i F 33).toInt ∧ (sy_i F 33).toInt < 401)
    (h9 : ((sy_ai F 39).getD (sy_i F 33).toNatClampNeg 0).toInt = 0)
    (k : ∀ F1 : Nat → sy_d, (∀ j, j < 82 → True → F1 j = F j) → F1 82 = .inl (.int (sy_i F 83)) → hd_W Ls xs d jm_M31 Q (100, sy_dL F1 [some (.inl (.ref 30)), none, none, none, none, some (.inr (.inl 82)), none], sy_dS F1 [.inl (.ref 30)], sy_dh F1 X1 X2 (iv_H 3), 0, 0)) :
    hd_W Ls xs d jm_M31 Q (52, sy_dL F [some (.inl (.ref 30)), none, none, none, some (.inr (.inl 82)), some (.inr (.inl 83)), none], sy_dS F [], sy_dh F X1 X2 (iv_H 3), 0, 0) := by
  refine hd_run (s := 3) (nv := 84) (pc := 100) (L := [some (.inl (.ref 30)), none, none, none, none, some (.inr (.inl 82)), none]) (S := [.inl (.ref 30)]) (uh := hd_ov (iv_id 0 iv_B0) []) (ul := [.inl (.inr (.inl 83))]) (f := true) (sp := [52, 100, 115, 143, 168, 189]) (d0 := 6) (O := [false, false, false, false, false, false, false, false]) (T := [(30, [.inr (.inl 33)], [.inr (.inl 39)]), (30, [.inr (.inl 33)], [.inr (.inl 39)])]) (P := [(3, .inl (.int 400), .inr (.inl 83)), (1, .inr (.inl 82), .inl (.int 0)), (3, .inr (.inl 33), .inl (.int 0)), (3, .inl (.int 400), .inr (.inl 33)), (6, .inr (.inl 33), .inl (.ref 401)), (1, .inr (.inl 84), .inl (.int 26)), (3, .inr (.inl 33), .inl (.int 0)), (3, .inl (.int 400), .inr (.inl 33)), (6, .inr (.inl 33), .inl (.ref 401)), (0, .inr (.inl 85), .inl (.int 0))]) jm_ok31 (by decide +kernel) (by decide +kernel) hd F X1 X2 (fun F' hF hs => ?_)
  have b83 := hd_b (F := F) (F' := F') (k := 83) (hF 83 (by decide))
  have b82 := hd_b (F := F) (F' := F') (k := 82) (hF 82 (by decide))
  have b33 := hd_b (F := F) (F' := F') (k := 33) (hF 33 (by decide))
  have a39 := hd_ba (F := F) (F' := F') (k := 39) (hF 39 (by decide))
  have t84 : sy_dv F' (.inr (.inl 84)) = .int ((sy_ai F 39).getD (sy_i F 33).toNatClampNeg 0) := hd_rd (hs 0 _ rfl) b33 a39
  have t85 : sy_dv F' (.inr (.inl 85)) = .int ((sy_ai F 39).getD (sy_i F 33).toNatClampNeg 0) := hd_rd (hs 1 _ rfl) b33 a39
  have hB' : iv_in F' iv_B0 := iv_in_eq hB (fun j hj => hF j (Nat.lt_of_lt_of_le hj (by decide +kernel)))
  refine ⟨List.forall_mem_cons.mpr ⟨hd_p3 rfl b83 (by have hc : ((400) : Int32).toInt = 400 := (by decide); omega), List.forall_mem_cons.mpr ⟨hd_p1 b82 rfl (by have hc : ((0) : Int32).toInt = 0 := (by decide); omega), List.forall_mem_cons.mpr ⟨hd_p3 b33 rfl (by have hc : ((0) : Int32).toInt = 0 := (by decide); omega), List.forall_mem_cons.mpr ⟨hd_p3 rfl b33 (by have hc : ((400) : Int32).toInt = 400 := (by decide); omega), List.forall_mem_cons.mpr ⟨hd_pb b33 (by first | exact h4 | exact h4), List.forall_mem_cons.mpr ⟨hd_p1 t84 rfl (by have hc : ((26) : Int32).toInt = 26 := (by decide); omega), List.forall_mem_cons.mpr ⟨hd_p3 b33 rfl (by have hc : ((0) : Int32).toInt = 0 := (by decide); omega), List.forall_mem_cons.mpr ⟨hd_p3 rfl b33 (by have hc : ((400) : Int32).toInt = 400 := (by decide); omega), List.forall_mem_cons.mpr ⟨hd_pb b33 (by first | exact h8 | exact h8), List.forall_mem_cons.mpr ⟨hd_p0 t85 rfl (by have hc : ((0) : Int32).toInt = 0 := (by decide); omega), fun _ h => absurd h List.not_mem_nil⟩⟩⟩⟩⟩⟩⟩⟩⟩⟩, ?_⟩
  refine k _ ?_ ?_
  · exact fun j hj _ => (hd_keep hB' (Nat.lt_of_lt_of_le hj (by decide +kernel)) (by simp)).trans (hF j (Nat.lt_of_lt_of_le hj (by decide)))
  · exact hd_gi (x := .inr (.inl 83)) (by decide +kernel) b83
theorem k3pq_52 {Ls : Nat} {xs : Nat → Int32} {d : Nat} {Q : Option Value → jm_h → Prop} (hd : 7 ≤ d) (F : Nat → sy_d) (X1 X2 : List jm_c) (hB : iv_in F iv_B0)
    (a83 : 0 ≤ (sy_i F 83).toInt ∧ (sy_i F 83).toInt ≤ 401)
    (k0 : 400 < (sy_i F 83).toInt → ∀ F1 : Nat → sy_d, iv_in F1 iv_B0 → (∀ j, j < 82 → j ∉ ([] : List Nat) → F1 j = F j) → (sy_i F1 33).toInt = (sy_i F 33).toInt → (sy_i F1 34).toInt = (sy_i F 34).toInt → (sy_i F1 35).toInt = (sy_i F 35).toInt → (sy_i F1 36).toInt = (sy_i F 36).toInt → (sy_i F1 37).toInt = (sy_i F 37).toInt → (sy_i F1 38).toInt = (sy_i F 38).toInt → (sy_i F1 3).toInt = (sy_i F 3).toInt → (sy_i F1 4).toInt = (sy_i F 4).toInt → sy_ai F1 39 = sy_ai F 39 → sy_ai F1 40 = sy_ai F 40 → (sy_i F1 82).toInt = (sy_i F 82).toInt → hd_W Ls xs d jm_M31 Q (189, sy_dL F1 [some (.inl (.ref 30)), none, none, none, some (.inr (.inl 82)), none, none], sy_dS F1 [], sy_dh F1 X1 X2 (iv_H 3), 0, 0))
    (k1 : (sy_i F 83).toInt ≤ 400 → (sy_i F 82).toInt = 0 → ∀ F1 : Nat → sy_d, iv_in F1 iv_B0 → (∀ j, j < 82 → j ∉ ([] : List Nat) → F1 j = F j) → (sy_i F1 33).toInt = (sy_i F 33).toInt → (sy_i F1 34).toInt = (sy_i F 34).toInt → (sy_i F1 35).toInt = (sy_i F 35).toInt → (sy_i F1 36).toInt = (sy_i F 36).toInt → (sy_i F1 37).toInt = (sy_i F 37).toInt → (sy_i F1 38).toInt = (sy_i F 38).toInt → (sy_i F1 3).toInt = (sy_i F 3).toInt → (sy_i F1 4).toInt = (sy_i F 4).toInt → sy_ai F1 39 = sy_ai F 39 → sy_ai F1 40 = sy_ai F 40 → (sy_i F1 82).toInt = (sy_i F 82).toInt → hd_W Ls xs d jm_M31 Q (189, sy_dL F1 [some (.inl (.ref 30)), none, none, none, some (.inr (.inl 82)), none, none], sy_dS F1 [], sy_dh F1 X1 X2 (iv_H 3), 0, 0))
    (k2 : (sy_i F 83).toInt ≤ 400 → (sy_i F 82).toInt ≠ 0 → 0 ≤ (sy_i F 33).toInt → (sy_i F 33).toInt ≤ 400 → ((sy_ai F 39).getD ((sy_i F 33).toInt).toNat 0).toInt = 26 → ∀ F1 : Nat → sy_d, iv_in F1 iv_B0 → (∀ j, j < 82 → j ∉ ([] : List Nat) → F1 j = F j) → (sy_i F1 33).toInt = (sy_i F 33).toInt → (sy_i F1 34).toInt = (sy_i F 34).toInt → (sy_i F1 35).toInt = (sy_i F 35).toInt → (sy_i F1 36).toInt = (sy_i F 36).toInt → (sy_i F1 37).toInt = (sy_i F 37).toInt → (sy_i F1 38).toInt = (sy_i F 38).toInt → (sy_i F1 3).toInt = (sy_i F 3).toInt → (sy_i F1 4).toInt = (sy_i F 4).toInt → sy_ai F1 39 = sy_ai F 39 → sy_ai F1 40 = sy_ai F 40 → (sy_i F1 82).toInt = (sy_i F 82).toInt → hd_W Ls xs d jm_M31 Q (189, sy_dL F1 [some (.inl (.ref 30)), none, none, none, some (.inr (.inl 82)), none, none], sy_dS F1 [], sy_dh F1 X1 X2 (iv_H 3), 0, 0))
    (k3 : (sy_i F 83).toInt ≤ 400 → (sy_i F 82).toInt ≠ 0 → 0 ≤ (sy_i F 33).toInt → (sy_i F 33).toInt ≤ 400 → ((sy_ai F 39).getD ((sy_i F 33).toInt).toNat 0).toInt ≠ 26 → 0 ≤ (sy_i F 33).toInt → (sy_i F 33).toInt ≤ 400 → ((sy_ai F 39).getD ((sy_i F 33).toInt).toNat 0).toInt ≠ 0 → ((sy_ai F 39).getD ((sy_i F 33).toInt).toNat 0).toInt ≠ 1 → ((sy_ai F 39).getD ((sy_i F 33).toInt).toNat 0).toInt < 2 → ((sy_ai F 39).getD ((sy_i F 33).toInt).toNat 0).toInt < 8 → ∀ F1 : Nat → sy_d, iv_in F1 iv_B0 → (∀ j, j < 82 → j ∉ ([34] : List Nat) → F1 j = F j) → (sy_i F1 33).toInt = (sy_i F 33).toInt → (sy_i F1 34).toInt = 1 → (sy_i F1 35).toInt = (sy_i F 35).toInt → (sy_i F1 36).toInt = (sy_i F 36).toInt → (sy_i F1 37).toInt = (sy_i F 37).toInt → (sy_i F1 38).toInt = (sy_i F 38).toInt → (sy_i F1 3).toInt = (sy_i F 3).toInt → (sy_i F1 4).toInt = (sy_i F 4).toInt → sy_ai F1 39 = sy_ai F 39 → sy_ai F1 40 = sy_ai F 40 → (sy_i F1 82).toInt = 0 → (sy_i F1 83).toInt = ((sy_i F 83).toInt + 1) → hd_W Ls xs d jm_M31 Q (52, sy_dL F1 [some (.inl (.ref 30)), none, none, none, some (.inr (.inl 82)), some (.inr (.inl 83)), none], sy_dS F1 [], sy_dh F1 X1 X2 (iv_H 3), 0, 0))
    (k4 : (sy_i F 83).toInt ≤ 400 → (sy_i F 82).toInt ≠ 0 → 0 ≤ (sy_i F 33).toInt → (sy_i F 33).toInt ≤ 400 → ((sy_ai F 39).getD ((sy_i F 33).toInt).toNat 0).toInt ≠ 26 → 0 ≤ (sy_i F 33).toInt → (sy_i F 33).toInt ≤ 400 → ((sy_ai F 39).getD ((sy_i F 33).toInt).toNat 0).toInt ≠ 0 → ((sy_ai F 39).getD ((sy_i F 33).toInt).toNat 0).toInt ≠ 1 → 2 ≤ ((sy_ai F 39).getD ((sy_i F 33).toInt).toNat 0).toInt → 7 < ((sy_ai F 39).getD ((sy_i F 33).toInt).toNat 0).toInt → 8 ≤ ((sy_ai F 39).getD ((sy_i F 33).toInt).toNat 0).toInt → 10 < ((sy_ai F 39).getD ((sy_i F 33).toInt).toNat 0).toInt → ∀ F1 : Nat → sy_d, iv_in F1 iv_B0 → (∀ j, j < 82 → j ∉ ([34] : List Nat) → F1 j = F j) → (sy_i F1 33).toInt = (sy_i F 33).toInt → (sy_i F1 34).toInt = 1 → (sy_i F1 35).toInt = (sy_i F 35).toInt → (sy_i F1 36).toInt = (sy_i F 36).toInt → (sy_i F1 37).toInt = (sy_i F 37).toInt → (sy_i F1 38).toInt = (sy_i F 38).toInt → (sy_i F1 3).toInt = (sy_i F 3).toInt → (sy_i F1 4).toInt = (sy_i F 4).toInt → sy_ai F1 39 = sy_ai F 39 → sy_ai F1 40 = sy_ai F 40 → (sy_i F1 82).toInt = 0 → (sy_i F1 83).toInt = ((sy_i F 83).toInt + 1) → hd_W Ls xs d jm_M31 Q (52, sy_dL F1 [some (.inl (.ref 30)), none, none, none, some (.inr (.inl 82)), some (.inr (.inl 83)), none], sy_dS F1 [], sy_dh F1 X1 X2 (iv_H 3), 0, 0))
    (k5 : (sy_i F 83).toInt ≤ 400 → (sy_i F 82).toInt ≠ 0 → 0 ≤ (sy_i F 33).toInt → (sy_i F 33).toInt ≤ 400 → ((sy_ai F 39).getD ((sy_i F 33).toInt).toNat 0).toInt ≠ 26 → 0 ≤ (sy_i F 33).toInt → (sy_i F 33).toInt ≤ 400 → ((sy_ai F 39).getD ((sy_i F 33).toInt).toNat 0).toInt ≠ 0 → ((sy_ai F 39).getD ((sy_i F 33).toInt).toNat 0).toInt ≠ 1 → 2 ≤ ((sy_ai F 39).getD ((sy_i F 33).toInt).toNat 0).toInt → 7 < ((sy_ai F 39).getD ((sy_i F 33).toInt).toNat 0).toInt → 8 ≤ ((sy_ai F 39).getD ((sy_i F 33).toInt).toNat 0).toInt → ((sy_ai F 39).getD ((sy_i F 33).toInt).toNat 0).toInt ≤ 10 → ∀ F1 : Nat → sy_d, iv_in F1 iv_B0 → (∀ j, j < 82 → j ∉ ([] : List Nat) → F1 j = F j) → (sy_i F1 33).toInt = (sy_i F 33).toInt → (sy_i F1 34).toInt = (sy_i F 34).toInt → (sy_i F1 35).toInt = (sy_i F 35).toInt → (sy_i F1 36).toInt = (sy_i F 36).toInt → (sy_i F1 37).toInt = (sy_i F 37).toInt → (sy_i F1 38).toInt = (sy_i F 38).toInt → (sy_i F1 3).toInt = (sy_i F 3).toInt → (sy_i F1 4).toInt = (sy_i F 4).toInt → sy_ai F1 39 = sy_ai F 39 → sy_ai F1 40 = sy_ai F 40 → (sy_i F1 82).toInt = (sy_i F 83).toInt → (sy_i F1 83).toInt = ((sy_ai F 39).getD ((sy_i F 33).toInt).toNat 0).toInt → hd_W Ls xs d jm_M31 Q (168, sy_dL F1 [some (.inl (.ref 30)), none, none, none, none, some (.inr (.inl 82)), none], sy_dS F1 [.inr (.inl 83), .inl (.ref 30)], sy_dh F1 X1 X2 (iv_H 3), 0, 0))
    (k6 : (sy_i F 83).toInt ≤ 400 → (sy_i F 82).toInt ≠ 0 → 0 ≤ (sy_i F 33).toInt → (sy_i F 33).toInt ≤ 400 → ((sy_ai F 39).getD ((sy_i F 33).toInt).toNat 0).toInt ≠ 26 → 0 ≤ (sy_i F 33).toInt → (sy_i F 33).toInt ≤ 400 → ((sy_ai F 39).getD ((sy_i F 33).toInt).toNat 0).toInt ≠ 0 → ((sy_ai F 39).getD ((sy_i F 33).toInt).toNat 0).toInt ≠ 1 → 2 ≤ ((sy_ai F 39).getD ((sy_i F 33).toInt).toNat 0).toInt → ((sy_ai F 39).getD ((sy_i F 33).toInt).toNat 0).toInt ≤ 7 → ∀ F1 : Nat → sy_d, iv_in F1 iv_B0 → (∀ j, j < 82 → j ∉ ([] : List Nat) → F1 j = F j) → (sy_i F1 33).toInt = (sy_i F 33).toInt → (sy_i F1 34).toInt = (sy_i F 34).toInt → (sy_i F1 35).toInt = (sy_i F 35).toInt → (sy_i F1 36).toInt = (sy_i F 36).toInt → (sy_i F1 37).toInt = (sy_i F 37).toInt → (sy_i F1 38).toInt = (sy_i F 38).toInt → (sy_i F1 3).toInt = (sy_i F 3).toInt → (sy_i F1 4).toInt = (sy_i F 4).toInt → sy_ai F1 39 = sy_ai F 39 → sy_ai F1 40 = sy_ai F 40 → (sy_i F1 82).toInt = (sy_i F 83).toInt → (sy_i F1 83).toInt = (((sy_ai F 39).getD ((sy_i F 33).toInt).toNat 0).toInt - 2) → (sy_i F1 84).toInt = ((sy_ai F 39).getD ((sy_i F 33).toInt).toNat 0).toInt → hd_W Ls xs d jm_M31 Q (143, sy_dL F1 [some (.inl (.ref 30)), none, none, none, none, some (.inr (.inl 82)), none], sy_dS F1 [.inr (.inl 83), .inr (.inl 84), .inl (.ref 30)], sy_dh F1 X1 X2 (iv_H 3), 0, 0))
    (k7 : (sy_i F 83).toInt ≤ 400 → (sy_i F 82).toInt ≠ 0 → 0 ≤ (sy_i F 33).toInt → (sy_i F 33).toInt ≤ 400 → ((sy_ai F 39).getD ((sy_i F 33).toInt).toNat 0).toInt ≠ 26 → 0 ≤ (sy_i F 33).toInt → (sy_i F 33).toInt ≤ 400 → ((sy_ai F 39).getD ((sy_i F 33).toInt).toNat 0).toInt ≠ 0 → ((sy_ai F 39).getD ((sy_i F 33).toInt).toNat 0).toInt = 1 → ∀ F1 : Nat → sy_d, iv_in F1 iv_B0 → (∀ j, j < 82 → j ∉ ([] : List Nat) → F1 j = F j) → (sy_i F1 33).toInt = (sy_i F 33).toInt → (sy_i F1 34).toInt = (sy_i F 34).toInt → (sy_i F1 35).toInt = (sy_i F 35).toInt → (sy_i F1 36).toInt = (sy_i F 36).toInt → (sy_i F1 37).toInt = (sy_i F 37).toInt → (sy_i F1 38).toInt = (sy_i F 38).toInt → (sy_i F1 3).toInt = (sy_i F 3).toInt → (sy_i F1 4).toInt = (sy_i F 4).toInt → sy_ai F1 39 = sy_ai F 39 → sy_ai F1 40 = sy_ai F 40 → (sy_i F1 82).toInt = (sy_i F 83).toInt → hd_W Ls xs d jm_M31 Q (115, sy_dL F1 [some (.inl (.ref 30)), none, none, none, none, some (.inr (.inl 82)), none], sy_dS F1 [.inl (.ref 30)], sy_dh F1 X1 X2 (iv_H 3), 0, 0))
    (k8 : (sy_i F 83).toInt ≤ 400 → (sy_i F 82).toInt ≠ 0 → 0 ≤ (sy_i F 33).toInt → (sy_i F 33).toInt ≤ 400 → ((sy_ai F 39).getD ((sy_i F 33).toInt).toNat 0).toInt ≠ 26 → 0 ≤ (sy_i F 33).toInt → (sy_i F 33).toInt ≤ 400 → ((sy_ai F 39).getD ((sy_i F 33).toInt).toNat 0).toInt = 0 → ∀ F1 : Nat → sy_d, iv_in F1 iv_B0 → (∀ j, j < 82 → j ∉ ([] : List Nat) → F1 j = F j) → (sy_i F1 33).toInt = (sy_i F 33).toInt → (sy_i F1 34).toInt = (sy_i F 34).toInt → (sy_i F1 35).toInt = (sy_i F 35).toInt → (sy_i F1 36).toInt = (sy_i F 36).toInt → (sy_i F1 37).toInt = (sy_i F 37).toInt → (sy_i F1 38).toInt = (sy_i F 38).toInt → (sy_i F1 3).toInt = (sy_i F 3).toInt → (sy_i F1 4).toInt = (sy_i F 4).toInt → sy_ai F1 39 = sy_ai F 39 → sy_ai F1 40 = sy_ai F 40 → (sy_i F1 82).toInt = (sy_i F 83).toInt → hd_W Ls xs d jm_M31 Q (100, sy_dL F1 [some (.inl (.ref 30)), none, none, none, none, some (.inr (.inl 82)), none], sy_dS F1 [.inl (.ref 30)], sy_dh F1 X1 X2 (iv_H 3), 0, 0)) :
    hd_W Ls xs d jm_M31 Q (52, sy_dL F [some (.inl (.ref 30)), none, none, none, some (.inr (.inl 82)), some (.inr (.inl 83)), none], sy_dS F [], sy_dh F X1 X2 (iv_H 3), 0, 0) := by
  by_cases g0 : 400 < (sy_i F 83).toInt
  · exact k3pq_52_p0 hd F X1 X2 hB (by first | exact g0 | (simp only [nz_c]; exact g0)) (fun F1 g e82 => k0 g0 F1 (nz_in0 hB [] (fun j hj hn => g j hj (by simp only [List.mem_cons, List.not_mem_nil, or_false, not_or] at hn; exact trivial)) (List.forall_mem_nil _)) (fun j hj hn => g j hj (by simp only [List.mem_cons, List.not_mem_nil, or_false, not_or] at hn; exact trivial)) (nz_fi (g 33 (by decide) (by decide))) (nz_fi (g 34 (by decide) (by decide))) (nz_fi (g 35 (by decide) (by decide))) (nz_fi (g 36 (by decide) (by decide))) (nz_fi (g 37 (by decide) (by decide))) (nz_fi (g 38 (by decide) (by decide))) (nz_fi (g 3 (by decide) (by decide))) (nz_fi (g 4 (by decide) (by decide))) (nz_fa (g 39 (by decide) (by decide))) (nz_fa (g 40 (by decide) (by decide))) ((congrArg Int32.toInt (zz_i e82)).trans (rfl : (sy_i F 82).toInt = (sy_i F 82).toInt)))
  replace g0 : (sy_i F 83).toInt ≤ 400 := by omega
  by_cases g1 : (sy_i F 82).toInt = 0
  · exact k3pq_52_p1 hd F X1 X2 hB (by first | exact g0 | (simp only [nz_c]; exact g0)) (by first | exact g1 | (simp only [nz_c]; exact g1)) (fun F1 g e82 => k1 g0 g1 F1 (nz_in0 hB [] (fun j hj hn => g j hj (by simp only [List.mem_cons, List.not_mem_nil, or_false, not_or] at hn; exact trivial)) (List.forall_mem_nil _)) (fun j hj hn => g j hj (by simp only [List.mem_cons, List.not_mem_nil, or_false, not_or] at hn; exact trivial)) (nz_fi (g 33 (by decide) (by decide))) (nz_fi (g 34 (by decide) (by decide))) (nz_fi (g 35 (by decide) (by decide))) (nz_fi (g 36 (by decide) (by decide))) (nz_fi (g 37 (by decide) (by decide))) (nz_fi (g 38 (by decide) (by decide))) (nz_fi (g 3 (by decide) (by decide))) (nz_fi (g 4 (by decide) (by decide))) (nz_fa (g 39 (by decide) (by decide))) (nz_fa (g 40 (by decide) (by decide))) ((congrArg Int32.toInt (zz_i e82)).trans (rfl : (sy_i F 82).toInt = (sy_i F 82).toInt)))
  replace g1 : (sy_i F 82).toInt ≠ 0 := by omega
  by_cases g2 : (sy_i F 33).toInt < 0
  · have c33 := nz_bx hB (k := 33) (lo := 0) (hi := 400) rfl
    exfalso
    omega
  replace g2 : 0 ≤ (sy_i F 33).toInt := by omega
  by_cases g3 : 400 < (sy_i F 33).toInt
  · have c33 := nz_bx hB (k := 33) (lo := 0) (hi := 400) rfl
    exfalso
    omega
  replace g3 : (sy_i F 33).toInt ≤ 400 := by omega
  by_cases g4 : ((sy_ai F 39).getD ((sy_i F 33).toInt).toNat 0).toInt = 26
  · have c33 := nz_bx hB (k := 33) (lo := 0) (hi := 400) rfl
    have q84 : (sy_ai F 39).getD (sy_i F 33).toNatClampNeg 0 = (sy_ai F 39).getD ((sy_i F 33).toInt).toNat 0 := by simp only [nz_c]
    have n84 : ((sy_ai F 39).getD (sy_i F 33).toNatClampNeg 0).toInt = ((sy_ai F 39).getD ((sy_i F 33).toInt).toNat 0).toInt := congrArg Int32.toInt q84
    exact k3pq_52_p2 hd F X1 X2 hB (by first | exact g0 | (simp only [nz_c]; exact g0)) (by first | exact g1 | (simp only [nz_c]; exact g1)) (by first | exact g2 | (simp only [nz_c]; exact g2)) (by first | exact g3 | (simp only [nz_c]; exact g3)) (by first | exact ⟨by omega, by omega⟩ | (simp only [nz_c]; exact ⟨by omega, by omega⟩)) (by first | exact g4 | (simp only [nz_c]; exact g4) | (rw [n84]; exact g4)) (fun F1 g e82 => k2 g0 g1 g2 g3 g4 F1 (nz_in0 hB [] (fun j hj hn => g j hj (by simp only [List.mem_cons, List.not_mem_nil, or_false, not_or] at hn; exact trivial)) (List.forall_mem_nil _)) (fun j hj hn => g j hj (by simp only [List.mem_cons, List.not_mem_nil, or_false, not_or] at hn; exact trivial)) (nz_fi (g 33 (by decide) (by decide))) (nz_fi (g 34 (by decide) (by decide))) (nz_fi (g 35 (by decide) (by decide))) (nz_fi (g 36 (by decide) (by decide))) (nz_fi (g 37 (by decide) (by decide))) (nz_fi (g 38 (by decide) (by decide))) (nz_fi (g 3 (by decide) (by decide))) (nz_fi (g 4 (by decide) (by decide))) (nz_fa (g 39 (by decide) (by decide))) (nz_fa (g 40 (by decide) (by decide))) ((congrArg Int32.toInt (zz_i e82)).trans (rfl : (sy_i F 82).toInt = (sy_i F 82).toInt)))
  replace g4 : ((sy_ai F 39).getD ((sy_i F 33).toInt).toNat 0).toInt ≠ 26 := by omega
  by_cases g5 : (sy_i F 33).toInt < 0
  · have c33 := nz_bx hB (k := 33) (lo := 0) (hi := 400) rfl
    have q84 : (sy_ai F 39).getD (sy_i F 33).toNatClampNeg 0 = (sy_ai F 39).getD ((sy_i F 33).toInt).toNat 0 := by simp only [nz_c]
    have n84 : ((sy_ai F 39).getD (sy_i F 33).toNatClampNeg 0).toInt = ((sy_ai F 39).getD ((sy_i F 33).toInt).toNat 0).toInt := congrArg Int32.toInt q84
    exfalso
    omega
  replace g5 : 0 ≤ (sy_i F 33).toInt := by omega
  by_cases g6 : 400 < (sy_i F 33).toInt
  · have c33 := nz_bx hB (k := 33) (lo := 0) (hi := 400) rfl
    have q84 : (sy_ai F 39).getD (sy_i F 33).toNatClampNeg 0 = (sy_ai F 39).getD ((sy_i F 33).toInt).toNat 0 := by simp only [nz_c]
    have n84 : ((sy_ai F 39).getD (sy_i F 33).toNatClampNeg 0).toInt = ((sy_ai F 39).getD ((sy_i F 33).toInt).toNat 0).toInt := congrArg Int32.toInt q84
    exfalso
    omega
  replace g6 : (sy_i F 33).toInt ≤ 400 := by omega
  by_cases g7 : ((sy_ai F 39).getD ((sy_i F 33).toInt).toNat 0).toInt ≠ 0
  · by_cases g8 : ((sy_ai F 39).getD ((sy_i F 33).toInt).toNat 0).toInt ≠ 1
    · by_cases g9 : ((sy_ai F 39).getD ((sy_i F 33).toInt).toNat 0).toInt < 2
      · by_cases g10 : ((sy_ai F 39).getD ((sy_i F 33).toInt).toNat 0).toInt < 8
        · have c33 := nz_bx hB (k := 33) (lo := 0) (hi := 400) rfl
          have q84 : (sy_ai F 39).getD (sy_i F 33).toNatClampNeg 0 = (sy_ai F 39).getD ((sy_i F 33).toInt).toNat 0 := by simp only [nz_c]
          have n84 : ((sy_ai F 39).getD (sy_i F 33).toNatClampNeg 0).toInt = ((sy_ai F 39).getD ((sy_i F 33).toInt).toNat 0).toInt := congrArg Int32.toInt q84
          have q85 : (sy_ai F 39).getD (sy_i F 33).toNatClampNeg 0 = (sy_ai F 39).getD ((sy_i F 33).toInt).toNat 0 := by simp only [nz_c]
          have n85 : ((sy_ai F 39).getD (sy_i F 33).toNatClampNeg 0).toInt = ((sy_ai F 39).getD ((sy_i F 33).toInt).toNat 0).toInt := congrArg Int32.toInt q85
          have n86 : ((sy_i F 83) + ((1 : Int32))).toInt = ((sy_i F 83).toInt + 1) := nz_add (rfl : (sy_i F 83).toInt = (sy_i F 83).toInt) (by decide : ((1 : Int32)).toInt = 1) (by omega) (by omega)
          exact k3pq_52_p3 hd F X1 X2 hB (by first | exact g0 | (simp only [nz_c]; exact g0)) (by first | exact g1 | (simp only [nz_c]; exact g1)) (by first | exact g2 | (simp only [nz_c]; exact g2)) (by first | exact g3 | (simp only [nz_c]; exact g3)) (by first | exact ⟨by omega, by omega⟩ | (simp only [nz_c]; exact ⟨by omega, by omega⟩)) (by first | exact g4 | (simp only [nz_c]; exact g4) | (rw [n84]; exact g4)) (by first | exact g5 | (simp only [nz_c]; exact g5)) (by first | exact g6 | (simp only [nz_c]; exact g6)) (by first | exact ⟨by omega, by omega⟩ | (simp only [nz_c]; exact ⟨by omega, by omega⟩)) (by first | exact g7 | (simp only [nz_c]; exact g7) | (rw [n85]; exact g7)) (by first | exact g8 | (simp only [nz_c]; exact g8) | (rw [n85]; exact g8)) (by first | exact g9 | (simp only [nz_c]; exact g9) | (rw [n85]; exact g9)) (by first | exact g10 | (simp only [nz_c]; exact g10) | (rw [n85]; exact g10)) (fun F1 g e34 e82 e83 => k3 g0 g1 g2 g3 g4 g5 g6 g7 g8 g9 g10 F1 (nz_in0 hB [34] (fun j hj hn => g j hj (by simp only [List.mem_cons, List.not_mem_nil, or_false, not_or] at hn; omega)) (List.forall_mem_cons.mpr ⟨fun t ht => (Option.some.inj ht) ▸ (nz_hz e34), List.forall_mem_nil _⟩)) (fun j hj hn => g j hj (by simp only [List.mem_cons, List.not_mem_nil, or_false, not_or] at hn; omega)) (nz_fi (g 33 (by decide) (by decide))) ((congrArg Int32.toInt (zz_i e34)).trans (by decide : ((1 : Int32)).toInt = 1)) (nz_fi (g 35 (by decide) (by decide))) (nz_fi (g 36 (by decide) (by decide))) (nz_fi (g 37 (by decide) (by decide))) (nz_fi (g 38 (by decide) (by decide))) (nz_fi (g 3 (by decide) (by decide))) (nz_fi (g 4 (by decide) (by decide))) (nz_fa (g 39 (by decide) (by decide))) (nz_fa (g 40 (by decide) (by decide))) ((congrArg Int32.toInt (zz_i e82)).trans (by decide : ((0 : Int32)).toInt = 0)) ((congrArg Int32.toInt (zz_i e83)).trans n86))
        replace g10 : 8 ≤ ((sy_ai F 39).getD ((sy_i F 33).toInt).toNat 0).toInt := by omega
        have c33 := nz_bx hB (k := 33) (lo := 0) (hi := 400) rfl
        have q84 : (sy_ai F 39).getD (sy_i F 33).toNatClampNeg 0 = (sy_ai F 39).getD ((sy_i F 33).toInt).toNat 0 := by simp only [nz_c]
        have n84 : ((sy_ai F 39).getD (sy_i F 33).toNatClampNeg 0).toInt = ((sy_ai F 39).getD ((sy_i F 33).toInt).toNat 0).toInt := congrArg Int32.toInt q84
        have q85 : (sy_ai F 39).getD (sy_i F 33).toNatClampNeg 0 = (sy_ai F 39).getD ((sy_i F 33).toInt).toNat 0 := by simp only [nz_c]
        have n85 : ((sy_ai F 39).getD (sy_i F 33).toNatClampNeg 0).toInt = ((sy_ai F 39).getD ((sy_i F 33).toInt).toNat 0).toInt := congrArg Int32.toInt q85
        exfalso
        omega
      replace g9 : 2 ≤ ((sy_ai F 39).getD ((sy_i F 33).toInt).toNat 0).toInt := by omega
      by_cases g10 : 7 < ((sy_ai F 39).getD ((sy_i F 33).toInt).toNat 0).toInt
      · by_cases g11 : ((sy_ai F 39).getD ((sy_i F 33).toInt).toNat 0).toInt < 8
        · have c33 := nz_bx hB (k := 33) (lo := 0) (hi := 400) rfl
          have q84 : (sy_ai F 39).getD (sy_i F 33).toNatClampNeg 0 = (sy_ai F 39).getD ((sy_i F 33).toInt).toNat 0 := by simp only [nz_c]
          have n84 : ((sy_ai F 39).getD (sy_i F 33).toNatClampNeg 0).toInt = ((sy_ai F 39).getD ((sy_i F 33).toInt).toNat 0).toInt := congrArg Int32.toInt q84
          have q85 : (sy_ai F 39).getD (sy_i F 33).toNatClampNeg 0 = (sy_ai F 39).getD ((sy_i F 33).toInt).toNat 0 := by simp only [nz_c]
          have n85 : ((sy_ai F 39).getD (sy_i F 33).toNatClampNeg 0).toInt = ((sy_ai F 39).getD ((sy_i F 33).toInt).toNat 0).toInt := congrArg Int32.toInt q85
          exfalso
          omega
        replace g11 : 8 ≤ ((sy_ai F 39).getD ((sy_i F 33).toInt).toNat 0).toInt := by omega
        by_cases g12 : 10 < ((sy_ai F 39).getD ((sy_i F 33).toInt).toNat 0).toInt
        · have c33 := nz_bx hB (k := 33) (lo := 0) (hi := 400) rfl
          have q84 : (sy_ai F 39).getD (sy_i F 33).toNatClampNeg 0 = (sy_ai F 39).getD ((sy_i F 33).toInt).toNat 0 := by simp only [nz_c]
          have n84 : ((sy_ai F 39).getD (sy_i F 33).toNatClampNeg 0).toInt = ((sy_ai F 39).getD ((sy_i F 33).toInt).toNat 0).toInt := congrArg Int32.toInt q84
          have q85 : (sy_ai F 39).getD (sy_i F 33).toNatClampNeg 0 = (sy_ai F 39).getD ((sy_i F 33).toInt).toNat 0 := by simp only [nz_c]
          have n85 : ((sy_ai F 39).getD (sy_i F 33).toNatClampNeg 0).toInt = ((sy_ai F 39).getD ((sy_i F 33).toInt).toNat 0).toInt := congrArg Int32.toInt q85
          have n86 : ((sy_i F 83) + ((1 : Int32))).toInt = ((sy_i F 83).toInt + 1) := nz_add (rfl : (sy_i F 83).toInt = (sy_i F 83).toInt) (by decide : ((1 : Int32)).toInt = 1) (by omega) (by omega)
          exact k3pq_52_p4 hd F X1 X2 hB (by first | exact g0 | (simp only [nz_c]; exact g0)) (by first | exact g1 | (simp only [nz_c]; exact g1)) (by first | exact g2 | (simp only [nz_c]; exact g2)) (by first | exact g3 | (simp only [nz_c]; exact g3)) (by first | exact ⟨by omega, by omega⟩ | (simp only [nz_c]; exact ⟨by omega, by omega⟩)) (by first | exact g4 | (simp only [nz_c]; exact g4) | (rw [n84]; exact g4)) (by first | exact g5 | (simp only [nz_c]; exact g5)) (by first | exact g6 | (simp only [nz_c]; exact g6)) (by first | exact ⟨by omega, by omega⟩ | (simp only [nz_c]; exact ⟨by omega, by omega⟩)) (by first | exact g7 | (simp only [nz_c]; exact g7) | (rw [n85]; exact g7)) (by first | exact g8 | (simp only [nz_c]; exact g8) | (rw [n85]; exact g8)) (by first | exact g9 | (simp only [nz_c]; exact g9) | (rw [n85]; exact g9)) (by first | exact g10 | (simp only [nz_c]; exact g10) | (rw [n85]; exact g10)) (by first | exact g11 | (simp only [nz_c]; exact g11) | (rw [n85]; exact g11)) (by first | exact g12 | (simp only [nz_c]; exact g12) | (rw [n85]; exact g12)) (fun F1 g e34 e82 e83 => k4 g0 g1 g2 g3 g4 g5 g6 g7 g8 g9 g10 g11 g12 F1 (nz_in0 hB [34] (fun j hj hn => g j hj (by simp only [List.mem_cons, List.not_mem_nil, or_false, not_or] at hn; omega)) (List.forall_mem_cons.mpr ⟨fun t ht => (Option.some.inj ht) ▸ (nz_hz e34), List.forall_mem_nil _⟩)) (fun j hj hn => g j hj (by simp only [List.mem_cons, List.not_mem_nil, or_false, not_or] at hn; omega)) (nz_fi (g 33 (by decide) (by decide))) ((congrArg Int32.toInt (zz_i e34)).trans (by decide : ((1 : Int32)).toInt = 1)) (nz_fi (g 35 (by decide) (by decide))) (nz_fi (g 36 (by decide) (by decide))) (nz_fi (g 37 (by decide) (by decide))) (nz_fi (g 38 (by decide) (by decide))) (nz_fi (g 3 (by decide) (by decide))) (nz_fi (g 4 (by decide) (by decide))) (nz_fa (g 39 (by decide) (by decide))) (nz_fa (g 40 (by decide) (by decide))) ((congrArg Int32.toInt (zz_i e82)).trans (by decide : ((0 : Int32)).toInt = 0)) ((congrArg Int32.toInt (zz_i e83)).trans n86))
        replace g12 : ((sy_ai F 39).getD ((sy_i F 33).toInt).toNat 0).toInt ≤ 10 := by omega
        have c33 := nz_bx hB (k := 33) (lo := 0) (hi := 400) rfl
        have q84 : (sy_ai F 39).getD (sy_i F 33).toNatClampNeg 0 = (sy_ai F 39).getD ((sy_i F 33).toInt).toNat 0 := by simp only [nz_c]
        have n84 : ((sy_ai F 39).getD (sy_i F 33).toNatClampNeg 0).toInt = ((sy_ai F 39).getD ((sy_i F 33).toInt).toNat 0).toInt := congrArg Int32.toInt q84
        have q85 : (sy_ai F 39).getD (sy_i F 33).toNatClampNeg 0 = (sy_ai F 39).getD ((sy_i F 33).toInt).toNat 0 := by simp only [nz_c]
        have n85 : ((sy_ai F 39).getD (sy_i F 33).toNatClampNeg 0).toInt = ((sy_ai F 39).getD ((sy_i F 33).toInt).toNat 0).toInt := congrArg Int32.toInt q85
        exact k3pq_52_p5 hd F X1 X2 hB (by first | exact g0 | (simp only [nz_c]; exact g0)) (by first | exact g1 | (simp only [nz_c]; exact g1)) (by first | exact g2 | (simp only [nz_c]; exact g2)) (by first | exact g3 | (simp only [nz_c]; exact g3)) (by first | exact ⟨by omega, by omega⟩ | (simp only [nz_c]; exact ⟨by omega, by omega⟩)) (by first | exact g4 | (simp only [nz_c]; exact g4) | (rw [n84]; exact g4)) (by first | exact g5 | (simp only [nz_c]; exact g5)) (by first | exact g6 | (simp only [nz_c]; exact g6)) (by first | exact ⟨by omega, by omega⟩ | (simp only [nz_c]; exact ⟨by omega, by omega⟩)) (by first | exact g7 | (simp only [nz_c]; exact g7) | (rw [n85]; exact g7)) (by first | exact g8 | (simp only [nz_c]; exact g8) | (rw [n85]; exact g8)) (by first | exact g9 | (simp only [nz_c]; exact g9) | (rw [n85]; exact g9)) (by first | exact g10 | (simp only [nz_c]; exact g10) | (rw [n85]; exact g10)) (by first | exact g11 | (simp only [nz_c]; exact g11) | (rw [n85]; exact g11)) (by first | exact g12 | (simp only [nz_c]; exact g12) | (rw [n85]; exact g12)) (fun F1 g e82 e83 => k5 g0 g1 g2 g3 g4 g5 g6 g7 g8 g9 g10 g11 g12 F1 (nz_in0 hB [] (fun j hj hn => g j hj (by simp only [List.mem_cons, List.not_mem_nil, or_false, not_or] at hn; exact trivial)) (List.forall_mem_nil _)) (fun j hj hn => g j hj (by simp only [List.mem_cons, List.not_mem_nil, or_false, not_or] at hn; exact trivial)) (nz_fi (g 33 (by decide) (by decide))) (nz_fi (g 34 (by decide) (by decide))) (nz_fi (g 35 (by decide) (by decide))) (nz_fi (g 36 (by decide) (by decide))) (nz_fi (g 37 (by decide) (by decide))) (nz_fi (g 38 (by decide) (by decide))) (nz_fi (g 3 (by decide) (by decide))) (nz_fi (g 4 (by decide) (by decide))) (nz_fa (g 39 (by decide) (by decide))) (nz_fa (g 40 (by decide) (by decide))) ((congrArg Int32.toInt (zz_i e82)).trans (rfl : (sy_i F 83).toInt = (sy_i F 83).toInt)) ((congrArg Int32.toInt (zz_i e83)).trans n85))
      replace g10 : ((sy_ai F 39).getD ((sy_i F 33).toInt).toNat 0).toInt ≤ 7 := by omega
      have c33 := nz_bx hB (k := 33) (lo := 0) (hi := 400) rfl
      have q84 : (sy_ai F 39).getD (sy_i F 33).toNatClampNeg 0 = (sy_ai F 39).getD ((sy_i F 33).toInt).toNat 0 := by simp only [nz_c]
      have n84 : ((sy_ai F 39).getD (sy_i F 33).toNatClampNeg 0).toInt = ((sy_ai F 39).getD ((sy_i F 33).toInt).toNat 0).toInt := congrArg Int32.toInt q84
      have q85 : (sy_ai F 39).getD (sy_i F 33).toNatClampNeg 0 = (sy_ai F 39).getD ((sy_i F 33).toInt).toNat 0 := by simp only [nz_c]
      have n85 : ((sy_ai F 39).getD (sy_i F 33).toNatClampNeg 0).toInt = ((sy_ai F 39).getD ((sy_i F 33).toInt).toNat 0).toInt := congrArg Int32.toInt q85
      have n86 : (((sy_ai F 39).getD (sy_i F 33).toNatClampNeg 0) - ((2 : Int32))).toInt = (((sy_ai F 39).getD ((sy_i F 33).toInt).toNat 0).toInt - 2) := nz_sub n85 (by decide : ((2 : Int32)).toInt = 2) (by omega) (by omega)
      exact k3pq_52_p6 hd F X1 X2 hB (by first | exact g0 | (simp only [nz_c]; exact g0)) (by first | exact g1 | (simp only [nz_c]; exact g1)) (by first | exact g2 | (simp only [nz_c]; exact g2)) (by first | exact g3 | (simp only [nz_c]; exact g3)) (by first | exact ⟨by omega, by omega⟩ | (simp only [nz_c]; exact ⟨by omega, by omega⟩)) (by first | exact g4 | (simp only [nz_c]; exact g4) | (rw [n84]; exact g4)) (by first | exact g5 | (simp only [nz_c]; exact g5)) (by first | exact g6 | (simp only [nz_c]; exact g6)) (by first | exact ⟨by omega, by omega⟩ | (simp only [nz_c]; exact ⟨by omega, by omega⟩)) (by first | exact g7 | (simp only [nz_c]; exact g7) | (rw [n85]; exact g7)) (by first | exact g8 | (simp only [nz_c]; exact g8) | (rw [n85]; exact g8)) (by first | exact g9 | (simp only [nz_c]; exact g9) | (rw [n85]; exact g9)) (by first | exact g10 | (simp only [nz_c]; exact g10) | (rw [n85]; exact g10)) (fun F1 g e82 e83 e84 => k6 g0 g1 g2 g3 g4 g5 g6 g7 g8 g9 g10 F1 (nz_in0 hB [] (fun j hj hn => g j hj (by simp only [List.mem_cons, List.not_mem_nil, or_false, not_or] at hn; exact trivial)) (List.forall_mem_nil _)) (fun j hj hn => g j hj (by simp only [List.mem_cons, List.not_mem_nil, or_false, not_or] at hn; exact trivial)) (nz_fi (g 33 (by decide) (by decide))) (nz_fi (g 34 (by decide) (by decide))) (nz_fi (g 35 (by decide) (by decide))) (nz_fi (g 36 (by decide) (by decide))) (nz_fi (g 37 (by decide) (by decide))) (nz_fi (g 38 (by decide) (by decide))) (nz_fi (g 3 (by decide) (by decide))) (nz_fi (g 4 (by decide) (by decide))) (nz_fa (g 39 (by decide) (by decide))) (nz_fa (g 40 (by decide) (by decide))) ((congrArg Int32.toInt (zz_i e82)).trans (rfl : (sy_i F 83).toInt = (sy_i F 83).toInt)) ((congrArg Int32.toInt (zz_i e83)).trans n86) ((congrArg Int32.toInt (zz_i e84)).trans n85))
    replace g8 : ((sy_ai F 39).getD ((sy_i F 33).toInt).toNat 0).toInt = 1 := by omega
    have c33 := nz_bx hB (k := 33) (lo := 0) (hi := 400) rfl
    have q84 : (sy_ai F 39).getD (sy_i F 33).toNatClampNeg 0 = (sy_ai F 39).getD ((sy_i F 33).toInt).toNat 0 := by simp only [nz_c]
    have n84 : ((sy_ai F 39).getD (sy_i F 33).toNatClampNeg 0).toInt = ((sy_ai F 39).getD ((sy_i F 33).toInt).toNat 0).toInt := congrArg Int32.toInt q84
    have q85 : (sy_ai F 39).getD (sy_i F 33).toNatClampNeg 0 = (sy_ai F 39).getD ((sy_i F 33).toInt).toNat 0 := by simp only [nz_c]
    have n85 : ((sy_ai F 39).getD (sy_i F 33).toNatClampNeg 0).toInt = ((sy_ai F 39).getD ((sy_i F 33).toInt).toNat 0).toInt := congrArg Int32.toInt q85
    exact k3pq_52_p7 hd F X1 X2 hB (by first | exact g0 | (simp only [nz_c]; exact g0)) (by first | exact g1 | (simp only [nz_c]; exact g1)) (by first | exact g2 | (simp only [nz_c]; exact g2)) (by first | exact g3 | (simp only [nz_c]; exact g3)) (by first | exact ⟨by omega, by omega⟩ | (simp only [nz_c]; exact ⟨by omega, by omega⟩)) (by first | exact g4 | (simp only [nz_c]; exact g4) | (rw [n84]; exact g4)) (by first | exact g5 | (simp only [nz_c]; exact g5)) (by first | exact g6 | (simp only [nz_c]; exact g6)) (by first | exact ⟨by omega, by omega⟩ | (simp only [nz_c]; exact ⟨by omega, by omega⟩)) (by first | exact g7 | (simp only [nz_c]; exact g7) | (rw [n85]; exact g7)) (by first | exact g8 | (simp only [nz_c]; exact g8) | (rw [n85]; exact g8)) (fun F1 g e82 => k7 g0 g1 g2 g3 g4 g5 g6 g7 g8 F1 (nz_in0 hB [] (fun j hj hn => g j hj (by simp only [List.mem_cons, List.not_mem_nil, or_false, not_or] at hn; exact trivial)) (List.forall_mem_nil _)) (fun j hj hn => g j hj (by simp only [List.mem_cons, List.not_mem_nil, or_false, not_or] at hn; exact trivial)) (nz_fi (g 33 (by decide) (by decide))) (nz_fi (g 34 (by decide) (by decide))) (nz_fi (g 35 (by decide) (by decide))) (nz_fi (g 36 (by decide) (by decide))) (nz_fi (g 37 (by decide) (by decide))) (nz_fi (g 38 (by decide) (by decide))) (nz_fi (g 3 (by decide) (by decide))) (nz_fi (g 4 (by decide) (by decide))) (nz_fa (g 39 (by decide) (by decide))) (nz_fa (g 40 (by decide) (by decide))) ((congrArg Int32.toInt (zz_i e82)).trans (rfl : (sy_i F 83).toInt = (sy_i F 83).toInt)))
  replace g7 : ((sy_ai F 39).getD ((sy_i F 33).toInt).toNat 0).toInt = 0 := by omega
  have c33 := nz_bx hB (k := 33) (lo := 0) (hi := 400) rfl
  have q84 : (sy_ai F 39).getD (sy_i F 33).toNatClampNeg 0 = (sy_ai F 39).getD ((sy_i F 33).toInt).toNat 0 := by simp only [nz_c]
  have n84 : ((sy_ai F 39).getD (sy_i F 33).toNatClampNeg 0).toInt = ((sy_ai F 39).getD ((sy_i F 33).toInt).toNat 0).toInt := congrArg Int32.toInt q84
  have q85 : (sy_ai F 39).getD (sy_i F 33).toNatClampNeg 0 = (sy_ai F 39).getD ((sy_i F 33).toInt).toNat 0 := by simp only [nz_c]
  have n85 : ((sy_ai F 39).getD (sy_i F 33).toNatClampNeg 0).toInt = ((sy_ai F 39).getD ((sy_i F 33).toInt).toNat 0).toInt := congrArg Int32.toInt q85
  exact k3pq_52_p8 hd F X1 X2 hB (by first | exact g0 | (simp only [nz_c]; exact g0)) (by first | exact g1 | (simp only [nz_c]; exact g1)) (by first | exact g2 | (simp only [nz_c]; exact g2)) (by first | exact g3 | (simp only [nz_c]; exact g3)) (by first | exact ⟨by omega, by omega⟩ | (simp only [nz_c]; exact ⟨by omega, by omega⟩)) (by first | exact g4 | (simp only [nz_c]; exact g4) | (rw [n84]; exact g4)) (by first | exact g5 | (simp only [nz_c]; exact g5)) (by first | exact g6 | (simp only [nz_c]; exact g6)) (by first | exact ⟨by omega, by omega⟩ | (simp only [nz_c]; exact ⟨by omega, by omega⟩)) (by first | exact g7 | (simp only [nz_c]; exact g7) | (rw [n85]; exact g7)) (fun F1 g e82 => k8 g0 g1 g2 g3 g4 g5 g6 g7 F1 (nz_in0 hB [] (fun j hj hn => g j hj (by simp only [List.mem_cons, List.not_mem_nil, or_false, not_or] at hn; exact trivial)) (List.forall_mem_nil _)) (fun j hj hn => g j hj (by simp only [List.mem_cons, List.not_mem_nil, or_false, not_or] at hn; exact trivial)) (nz_fi (g 33 (by decide) (by decide))) (nz_fi (g 34 (by decide) (by decide))) (nz_fi (g 35 (by decide) (by decide))) (nz_fi (g 36 (by decide) (by decide))) (nz_fi (g 37 (by decide) (by decide))) (nz_fi (g 38 (by decide) (by decide))) (nz_fi (g 3 (by decide) (by decide))) (nz_fi (g 4 (by decide) (by decide))) (nz_fa (g 39 (by decide) (by decide))) (nz_fa (g 40 (by decide) (by decide))) ((congrArg Int32.toInt (zz_i e82)).trans (rfl : (sy_i F 83).toInt = (sy_i F 83).toInt)))
theorem k3pq_103_p0 {Ls : Nat} {xs : Nat → Int32} {d : Nat} {Q : Option Value → jm_h → Prop} (hd : 7 ≤ d) (F : Nat → sy_d) (X1 X2 : List jm_c) (hB : iv_in F iv_B0)
    (k : ∀ F1 : Nat → sy_d, (∀ j, j < 82 → True → F1 j = F j) → F1 82 = .inl (.int (sy_i F 83)) → F1 83 = .inl (.int ((sy_i F 82) + ((1 : Int32)))) → hd_W Ls xs d jm_M31 Q (52, sy_dL F1 [some (.inl (.ref 30)), none, none, none, some (.inr (.inl 82)), some (.inr (.inl 83)), none], sy_dS F1 [], sy_dh F1 X1 X2 (iv_H 3), 0, 0)) :
    hd_W Ls xs d jm_M31 Q (103, sy_dL F [some (.inl (.ref 30)), none, none, none, none, some (.inr (.inl 82)), none], sy_dS F [.inr (.inl 83)], sy_dh F X1 X2 (iv_H 3), 0, 0) := by
  refine hd_run (s := 3) (nv := 84) (pc := 52) (L := [some (.inl (.ref 30)), none, none, none, some (.inr (.inl 82)), some (.inr (.inl 83)), none]) (S := []) (uh := hd_ov (iv_id 0 iv_B0) []) (ul := [.inl (.inr (.inl 83)), .inl (.inr (.inl 84))]) (f := false) (sp := [52]) (d0 := 6) (O := []) (T := [(0, [.inr (.inl 82), .inl (.int 1)], [])]) (P := []) jm_ok31 (by decide +kernel) (by decide +kernel) hd F X1 X2 (fun F' hF hs => ?_)
  have b83 := hd_b (F := F) (F' := F') (k := 83) (hF 83 (by decide))
  have b82 := hd_b (F := F) (F' := F') (k := 82) (hF 82 (by decide))
  have t84 : sy_dv F' (.inr (.inl 84)) = .int ((sy_i F 82) + ((1 : Int32))) := hd_o (hs 0 _ rfl) b82 rfl rfl
  have hB' : iv_in F' iv_B0 := iv_in_eq hB (fun j hj => hF j (Nat.lt_of_lt_of_le hj (by decide +kernel)))
  refine ⟨fun _ h => absurd h List.not_mem_nil, ?_⟩
  refine k _ ?_ ?_ ?_
  · exact fun j hj _ => (hd_keep hB' (Nat.lt_of_lt_of_le hj (by decide +kernel)) (by simp)).trans (hF j (Nat.lt_of_lt_of_le hj (by decide)))
  · exact hd_gi (x := .inr (.inl 83)) (by decide +kernel) b83
  · exact hd_gi (x := .inr (.inl 84)) (by decide +kernel) t84
theorem k3pq_103 {Ls : Nat} {xs : Nat → Int32} {d : Nat} {Q : Option Value → jm_h → Prop} (hd : 7 ≤ d) (F : Nat → sy_d) (X1 X2 : List jm_c) (hB : iv_in F iv_B0)
    (a82 : 0 ≤ (sy_i F 82).toInt ∧ (sy_i F 82).toInt ≤ 400)
    (k0 : ∀ F1 : Nat → sy_d, iv_in F1 iv_B0 → (∀ j, j < 82 → j ∉ ([] : List Nat) → F1 j = F j) → (sy_i F1 33).toInt = (sy_i F 33).toInt → (sy_i F1 34).toInt = (sy_i F 34).toInt → (sy_i F1 35).toInt = (sy_i F 35).toInt → (sy_i F1 36).toInt = (sy_i F 36).toInt → (sy_i F1 37).toInt = (sy_i F 37).toInt → (sy_i F1 38).toInt = (sy_i F 38).toInt → (sy_i F1 3).toInt = (sy_i F 3).toInt → (sy_i F1 4).toInt = (sy_i F 4).toInt → sy_ai F1 39 = sy_ai F 39 → sy_ai F1 40 = sy_ai F 40 → (sy_i F1 82).toInt = (sy_i F 83).toInt → (sy_i F1 83).toInt = ((sy_i F 82).toInt + 1) → hd_W Ls xs d jm_M31 Q (52, sy_dL F1 [some (.inl (.ref 30)), none, none, none, some (.inr (.inl 82)), some (.inr (.inl 83)), none], sy_dS F1 [], sy_dh F1 X1 X2 (iv_H 3), 0, 0)) :
    hd_W Ls xs d jm_M31 Q (103, sy_dL F [some (.inl (.ref 30)), none, none, none, none, some (.inr (.inl 82)), none], sy_dS F [.inr (.inl 83)], sy_dh F X1 X2 (iv_H 3), 0, 0) := by
  have n84 : ((sy_i F 82) + ((1 : Int32))).toInt = ((sy_i F 82).toInt + 1) := nz_add (rfl : (sy_i F 82).toInt = (sy_i F 82).toInt) (by decide : ((1 : Int32)).toInt = 1) (by omega) (by omega)
  exact k3pq_103_p0 hd F X1 X2 hB  (fun F1 g e82 e83 => k0 F1 (nz_in0 hB [] (fun j hj hn => g j hj (by simp only [List.mem_cons, List.not_mem_nil, or_false, not_or] at hn; exact trivial)) (List.forall_mem_nil _)) (fun j hj hn => g j hj (by simp only [List.mem_cons, List.not_mem_nil, or_false, not_or] at hn; exact trivial)) (nz_fi (g 33 (by decide) (by decide))) (nz_fi (g 34 (by decide) (by decide))) (nz_fi (g 35 (by decide) (by decide))) (nz_fi (g 36 (by decide) (by decide))) (nz_fi (g 37 (by decide) (by decide))) (nz_fi (g 38 (by decide) (by decide))) (nz_fi (g 3 (by decide) (by decide))) (nz_fi (g 4 (by decide) (by decide))) (nz_fa (g 39 (by decide) (by decide))) (nz_fa (g 40 (by decide) (by decide))) ((congrArg Int32.toInt (zz_i e82)).trans (rfl : (sy_i F 83).toInt = (sy_i F 83).toInt)) ((congrArg Int32.toInt (zz_i e83)).trans n84))
theorem k3pq_118_p0 {Ls : Nat} {xs : Nat → Int32} {d : Nat} {Q : Option Value → jm_h → Prop} (hd : 7 ≤ d) (F : Nat → sy_d) (X1 X2 : List jm_c) (hB : iv_in F iv_B0)
    (k : ∀ F1 : Nat → sy_d, (∀ j, j < 82 → True → F1 j = F j) → F1 82 = .inl (.int (sy_i F 83)) → F1 83 = .inl (.int ((sy_i F 82) + ((1 : Int32)))) → hd_W Ls xs d jm_M31 Q (52, sy_dL F1 [some (.inl (.ref 30)), none, none, none, some (.inr (.inl 82)), some (.inr (.inl 83)), none], sy_dS F1 [], sy_dh F1 X1 X2 (iv_H 3), 0, 0)) :
    hd_W Ls xs d jm_M31 Q (118, sy_dL F [some (.inl (.ref 30)), none, none, none, none, some (.inr (.inl 82)), none], sy_dS F [.inr (.inl 83)], sy_dh F X1 X2 (iv_H 3), 0, 0) := by
  refine hd_run (s := 3) (nv := 84) (pc := 52) (L := [some (.inl (.ref 30)), none, none, none, some (.inr (.inl 82)), some (.inr (.inl 83)), none]) (S := []) (uh := hd_ov (iv_id 0 iv_B0) []) (ul := [.inl (.inr (.inl 83)), .inl (.inr (.inl 84))]) (f := false) (sp := [52]) (d0 := 6) (O := []) (T := [(0, [.inr (.inl 82), .inl (.int 1)], [])]) (P := []) jm_ok31 (by decide +kernel) (by decide +kernel) hd F X1 X2 (fun F' hF hs => ?_)
  have b83 := hd_b (F := F) (F' := F') (k := 83) (hF 83 (by decide))
  have b82 := hd_b (F := F) (F' := F') (k := 82) (hF 82 (by decide))
  have t84 : sy_dv F' (.inr (.inl 84)) = .int ((sy_i F 82) + ((1 : Int32))) := hd_o (hs 0 _ rfl) b82 rfl rfl
  have hB' : iv_in F' iv_B0 := iv_in_eq hB (fun j hj => hF j (Nat.lt_of_lt_of_le hj (by decide +kernel)))
  refine ⟨fun _ h => absurd h List.not_mem_nil, ?_⟩
  refine k _ ?_ ?_ ?_
  · exact fun j hj _ => (hd_keep hB' (Nat.lt_of_lt_of_le hj (by decide +kernel)) (by simp)).trans (hF j (Nat.lt_of_lt_of_le hj (by decide)))
  · exact hd_gi (x := .inr (.inl 83)) (by decide +kernel) b83
  · exact hd_gi (x := .inr (.inl 84)) (by decide +kernel) t84
theorem k3pq_118 {Ls : Nat} {xs : Nat → Int32} {d : Nat} {Q : Option Value → jm_h → Prop} (hd : 7 ≤ d) (F : Nat → sy_d) (X1 X2 : List jm_c) (hB : iv_in F iv_B0)
    (a82 : 0 ≤ (sy_i F 82).toInt ∧ (sy_i F 82).toInt ≤ 400)
    (k0 : ∀ F1 : Nat → sy_d, iv_in F1 iv_B0 → (∀ j, j < 82 → j ∉ ([] : List Nat) → F1 j = F j) → (sy_i F1 33).toInt = (sy_i F 33).toInt → (sy_i F1 34).toInt = (sy_i F 34).toInt → (sy_i F1 35).toInt = (sy_i F 35).toInt → (sy_i F1 36).toInt = (sy_i F 36).toInt → (sy_i F1 37).toInt = (sy_i F 37).toInt → (sy_i F1 38).toInt = (sy_i F 38).toInt → (sy_i F1 3).toInt = (sy_i F 3).toInt → (sy_i F1 4).toInt = (sy_i F 4).toInt → sy_ai F1 39 = sy_ai F 39 → sy_ai F1 40 = sy_ai F 40 → (sy_i F1 82).toInt = (sy_i F 83).toInt → (sy_i F1 83).toInt = ((sy_i F 82).toInt + 1) → hd_W Ls xs d jm_M31 Q (52, sy_dL F1 [some (.inl (.ref 30)), none, none, none, some (.inr (.inl 82)), some (.inr (.inl 83)), none], sy_dS F1 [], sy_dh F1 X1 X2 (iv_H 3), 0, 0)) :
    hd_W Ls xs d jm_M31 Q (118, sy_dL F [some (.inl (.ref 30)), none, none, none, none, some (.inr (.inl 82)), none], sy_dS F [.inr (.inl 83)], sy_dh F X1 X2 (iv_H 3), 0, 0) := by
  have n84 : ((sy_i F 82) + ((1 : Int32))).toInt = ((sy_i F 82).toInt + 1) := nz_add (rfl : (sy_i F 82).toInt = (sy_i F 82).toInt) (by decide : ((1 : Int32)).toInt = 1) (by omega) (by omega)
  exact k3pq_118_p0 hd F X1 X2 hB  (fun F1 g e82 e83 => k0 F1 (nz_in0 hB [] (fun j hj hn => g j hj (by simp only [List.mem_cons, List.not_mem_nil, or_false, not_or] at hn; exact trivial)) (List.forall_mem_nil _)) (fun j hj hn => g j hj (by simp only [List.mem_cons, List.not_mem_nil, or_false, not_or] at hn; exact trivial)) (nz_fi (g 33 (by decide) (by decide))) (nz_fi (g 34 (by decide) (by decide))) (nz_fi (g 35 (by decide) (by decide))) (nz_fi (g 36 (by decide) (by decide))) (nz_fi (g 37 (by decide) (by decide))) (nz_fi (g 38 (by decide) (by decide))) (nz_fi (g 3 (by decide) (by decide))) (nz_fi (g 4 (by decide) (by decide))) (nz_fa (g 39 (by decide) (by decide))) (nz_fa (g 40 (by decide) (by decide))) ((congrArg Int32.toInt (zz_i e82)).trans (rfl : (sy_i F 83).toInt = (sy_i F 83).toInt)) ((congrArg Int32.toInt (zz_i e83)).trans n84))
theorem k3pq_146_p0 {Ls : Nat} {xs : Nat → Int32} {d : Nat} {Q : Option Value → jm_h → Prop} (hd : 7 ≤ d) (F : Nat → sy_d) (X1 X2 : List jm_c) (hB : iv_in F iv_B0)
    (k : ∀ F1 : Nat → sy_d, (∀ j, j < 82 → True → F1 j = F j) → F1 82 = .inl (.int (sy_i F 85)) → F1 83 = .inl (.int ((sy_i F 82) + ((1 : Int32)))) → hd_W Ls xs d jm_M31 Q (52, sy_dL F1 [some (.inl (.ref 30)), none, none, none, some (.inr (.inl 82)), some (.inr (.inl 83)), none], sy_dS F1 [], sy_dh F1 X1 X2 (iv_H 3), 0, 0)) :
    hd_W Ls xs d jm_M31 Q (146, sy_dL F [some (.inl (.ref 30)), none, none, none, none, some (.inr (.inl 82)), none], sy_dS F [.inr (.inl 85)], sy_dh F X1 X2 (iv_H 3), 0, 0) := by
  refine hd_run (s := 3) (nv := 86) (pc := 52) (L := [some (.inl (.ref 30)), none, none, none, some (.inr (.inl 82)), some (.inr (.inl 83)), none]) (S := []) (uh := hd_ov (iv_id 0 iv_B0) []) (ul := [.inl (.inr (.inl 85)), .inl (.inr (.inl 86))]) (f := false) (sp := [52]) (d0 := 6) (O := []) (T := [(0, [.inr (.inl 82), .inl (.int 1)], [])]) (P := []) jm_ok31 (by decide +kernel) (by decide +kernel) hd F X1 X2 (fun F' hF hs => ?_)
  have b85 := hd_b (F := F) (F' := F') (k := 85) (hF 85 (by decide))
  have b82 := hd_b (F := F) (F' := F') (k := 82) (hF 82 (by decide))
  have t86 : sy_dv F' (.inr (.inl 86)) = .int ((sy_i F 82) + ((1 : Int32))) := hd_o (hs 0 _ rfl) b82 rfl rfl
  have hB' : iv_in F' iv_B0 := iv_in_eq hB (fun j hj => hF j (Nat.lt_of_lt_of_le hj (by decide +kernel)))
  refine ⟨fun _ h => absurd h List.not_mem_nil, ?_⟩
  refine k _ ?_ ?_ ?_
  · exact fun j hj _ => (hd_keep hB' (Nat.lt_of_lt_of_le hj (by decide +kernel)) (by simp)).trans (hF j (Nat.lt_of_lt_of_le hj (by decide)))
  · exact hd_gi (x := .inr (.inl 85)) (by decide +kernel) b85
  · exact hd_gi (x := .inr (.inl 86)) (by decide +kernel) t86
theorem k3pq_146 {Ls : Nat} {xs : Nat → Int32} {d : Nat} {Q : Option Value → jm_h → Prop} (hd : 7 ≤ d) (F : Nat → sy_d) (X1 X2 : List jm_c) (hB : iv_in F iv_B0)
    (a82 : 0 ≤ (sy_i F 82).toInt ∧ (sy_i F 82).toInt ≤ 400)
    (k0 : ∀ F1 : Nat → sy_d, iv_in F1 iv_B0 → (∀ j, j < 82 → j ∉ ([] : List Nat) → F1 j = F j) → (sy_i F1 33).toInt = (sy_i F 33).toInt → (sy_i F1 34).toInt = (sy_i F 34).toInt → (sy_i F1 35).toInt = (sy_i F 35).toInt → (sy_i F1 36).toInt = (sy_i F 36).toInt → (sy_i F1 37).toInt = (sy_i F 37).toInt → (sy_i F1 38).toInt = (sy_i F 38).toInt → (sy_i F1 3).toInt = (sy_i F 3).toInt → (sy_i F1 4).toInt = (sy_i F 4).toInt → sy_ai F1 39 = sy_ai F 39 → sy_ai F1 40 = sy_ai F 40 → (sy_i F1 82).toInt = (sy_i F 85).toInt → (sy_i F1 83).toInt = ((sy_i F 82).toInt + 1) → hd_W Ls xs d jm_M31 Q (52, sy_dL F1 [some (.inl (.ref 30)), none, none, none, some (.inr (.inl 82)), some (.inr (.inl 83)), none], sy_dS F1 [], sy_dh F1 X1 X2 (iv_H 3), 0, 0)) :
    hd_W Ls xs d jm_M31 Q (146, sy_dL F [some (.inl (.ref 30)), none, none, none, none, some (.inr (.inl 82)), none], sy_dS F [.inr (.inl 85)], sy_dh F X1 X2 (iv_H 3), 0, 0) := by
  have n86 : ((sy_i F 82) + ((1 : Int32))).toInt = ((sy_i F 82).toInt + 1) := nz_add (rfl : (sy_i F 82).toInt = (sy_i F 82).toInt) (by decide : ((1 : Int32)).toInt = 1) (by omega) (by omega)
  exact k3pq_146_p0 hd F X1 X2 hB  (fun F1 g e82 e83 => k0 F1 (nz_in0 hB [] (fun j hj hn => g j hj (by simp only [List.mem_cons, List.not_mem_nil, or_false, not_or] at hn; exact trivial)) (List.forall_mem_nil _)) (fun j hj hn => g j hj (by simp only [List.mem_cons, List.not_mem_nil, or_false, not_or] at hn; exact trivial)) (nz_fi (g 33 (by decide) (by decide))) (nz_fi (g 34 (by decide) (by decide))) (nz_fi (g 35 (by decide) (by decide))) (nz_fi (g 36 (by decide) (by decide))) (nz_fi (g 37 (by decide) (by decide))) (nz_fi (g 38 (by decide) (by decide))) (nz_fi (g 3 (by decide) (by decide))) (nz_fi (g 4 (by decide) (by decide))) (nz_fa (g 39 (by decide) (by decide))) (nz_fa (g 40 (by decide) (by decide))) ((congrArg Int32.toInt (zz_i e82)).trans (rfl : (sy_i F 85).toInt = (sy_i F 85).toInt)) ((congrArg Int32.toInt (zz_i e83)).trans n86))
theorem k3pq_171_p0 {Ls : Nat} {xs : Nat → Int32} {d : Nat} {Q : Option Value → jm_h → Prop} (hd : 7 ≤ d) (F : Nat → sy_d) (X1 X2 : List jm_c) (hB : iv_in F iv_B0)
    (k : ∀ F1 : Nat → sy_d, (∀ j, j < 82 → True → F1 j = F j) → F1 82 = .inl (.int (sy_i F 84)) → F1 83 = .inl (.int ((sy_i F 82) + ((1 : Int32)))) → hd_W Ls xs d jm_M31 Q (52, sy_dL F1 [some (.inl (.ref 30)), none, none, none, some (.inr (.inl 82)), some (.inr (.inl 83)), none], sy_dS F1 [], sy_dh F1 X1 X2 (iv_H 3), 0, 0)) :
    hd_W Ls xs d jm_M31 Q (171, sy_dL F [some (.inl (.ref 30)), none, none, none, none, some (.inr (.inl 82)), none], sy_dS F [.inr (.inl 84)], sy_dh F X1 X2 (iv_H 3), 0, 0) := by
  refine hd_run (s := 3) (nv := 85) (pc := 52) (L := [some (.inl (.ref 30)), none, none, none, some (.inr (.inl 82)), some (.inr (.inl 83)), none]) (S := []) (uh := hd_ov (iv_id 0 iv_B0) []) (ul := [.inl (.inr (.inl 84)), .inl (.inr (.inl 85))]) (f := false) (sp := [52]) (d0 := 6) (O := []) (T := [(0, [.inr (.inl 82), .inl (.int 1)], [])]) (P := []) jm_ok31 (by decide +kernel) (by decide +kernel) hd F X1 X2 (fun F' hF hs => ?_)
  have b84 := hd_b (F := F) (F' := F') (k := 84) (hF 84 (by decide))
  have b82 := hd_b (F := F) (F' := F') (k := 82) (hF 82 (by decide))
  have t85 : sy_dv F' (.inr (.inl 85)) = .int ((sy_i F 82) + ((1 : Int32))) := hd_o (hs 0 _ rfl) b82 rfl rfl
  have hB' : iv_in F' iv_B0 := iv_in_eq hB (fun j hj => hF j (Nat.lt_of_lt_of_le hj (by decide +kernel)))
  refine ⟨fun _ h => absurd h List.not_mem_nil, ?_⟩
  refine k _ ?_ ?_ ?_
  · exact fun j hj _ => (hd_keep hB' (Nat.lt_of_lt_of_le hj (by decide +kernel)) (by simp)).trans (hF j (Nat.lt_of_lt_of_le hj (by decide)))
  · exact hd_gi (x := .inr (.inl 84)) (by decide +kernel) b84
  · exact hd_gi (x := .inr (.inl 85)) (by decide +kernel) t85
theorem k3pq_171 {Ls : Nat} {xs : Nat → Int32} {d : Nat} {Q : Option Value → jm_h → Prop} (hd : 7 ≤ d) (F : Nat → sy_d) (X1 X2 : List jm_c) (hB : iv_in F iv_B0)
    (a82 : 0 ≤ (sy_i F 82).toInt ∧ (sy_i F 82).toInt ≤ 400)
    (k0 : ∀ F1 : Nat → sy_d, iv_in F1 iv_B0 → (∀ j, j < 82 → j ∉ ([] : List Nat) → F1 j = F j) → (sy_i F1 33).toInt = (sy_i F 33).toInt → (sy_i F1 34).toInt = (sy_i F 34).toInt → (sy_i F1 35).toInt = (sy_i F 35).toInt → (sy_i F1 36).toInt = (sy_i F 36).toInt → (sy_i F1 37).toInt = (sy_i F 37).toInt → (sy_i F1 38).toInt = (sy_i F 38).toInt → (sy_i F1 3).toInt = (sy_i F 3).toInt → (sy_i F1 4).toInt = (sy_i F 4).toInt → sy_ai F1 39 = sy_ai F 39 → sy_ai F1 40 = sy_ai F 40 → (sy_i F1 82).toInt = (sy_i F 84).toInt → (sy_i F1 83).toInt = ((sy_i F 82).toInt + 1) → hd_W Ls xs d jm_M31 Q (52, sy_dL F1 [some (.inl (.ref 30)), none, none, none, some (.inr (.inl 82)), some (.inr (.inl 83)), none], sy_dS F1 [], sy_dh F1 X1 X2 (iv_H 3), 0, 0)) :
    hd_W Ls xs d jm_M31 Q (171, sy_dL F [some (.inl (.ref 30)), none, none, none, none, some (.inr (.inl 82)), none], sy_dS F [.inr (.inl 84)], sy_dh F X1 X2 (iv_H 3), 0, 0) := by
  have n85 : ((sy_i F 82) + ((1 : Int32))).toInt = ((sy_i F 82).toInt + 1) := nz_add (rfl : (sy_i F 82).toInt = (sy_i F 82).toInt) (by decide : ((1 : Int32)).toInt = 1) (by omega) (by omega)
  exact k3pq_171_p0 hd F X1 X2 hB  (fun F1 g e82 e83 => k0 F1 (nz_in0 hB [] (fun j hj hn => g j hj (by simp only [List.mem_cons, List.not_mem_nil, or_false, not_or] at hn; exact trivial)) (List.forall_mem_nil _)) (fun j hj hn => g j hj (by simp only [List.mem_cons, List.not_mem_nil, or_false, not_or] at hn; exact trivial)) (nz_fi (g 33 (by decide) (by decide))) (nz_fi (g 34 (by decide) (by decide))) (nz_fi (g 35 (by decide) (by decide))) (nz_fi (g 36 (by decide) (by decide))) (nz_fi (g 37 (by decide) (by decide))) (nz_fi (g 38 (by decide) (by decide))) (nz_fi (g 3 (by decide) (by decide))) (nz_fi (g 4 (by decide) (by decide))) (nz_fa (g 39 (by decide) (by decide))) (nz_fa (g 40 (by decide) (by decide))) ((congrArg Int32.toInt (zz_i e82)).trans (rfl : (sy_i F 84).toInt = (sy_i F 84).toInt)) ((congrArg Int32.toInt (zz_i e83)).trans n85))
theorem k3pq_189_p0 {Ls : Nat} {xs : Nat → Int32} {d : Nat} {Q : Option Value → jm_h → Prop} (hd : 7 ≤ d) (F : Nat → sy_d) (X1 X2 : List jm_c) (hB : iv_in F iv_B0)
    (h0 : (sy_i F 82).toInt = 0)
    (h1 : 0 ≤ (sy_i F 33).toInt)
    (h2 : (sy_i F 33).toInt ≤ 400)
    (h3 : 0 ≤ (sy_i F 33).toInt ∧ (sy_i F 33).toInt < 401)
    (h4 : (sy_i F 82).toInt = 0)
    (k : ∀ F1 : Nat → sy_d, (∀ j, j < 82 → j ≠ 35 → F1 j = F j) → F1 35 = .inl (.int ((sy_ai F 40).getD (sy_i F 33).toNatClampNeg 0)) → Q (some (.int (sy_i F 34))) (sy_dh F1 X1 X2 (iv_H 3))) :
    hd_W Ls xs d jm_M31 Q (189, sy_dL F [some (.inl (.ref 30)), none, none, none, some (.inr (.inl 82)), none, none], sy_dS F [], sy_dh F X1 X2 (iv_H 3), 0, 0) := by
  refine hd_ret (s := 3) (nv := 83) (v := some (.inr (.inl 34))) (uh := hd_ov (iv_id 0 iv_B0) [(35, .inl (.inr (.inl 83)))]) (f := true) (sp := []) (d0 := 6) (O := [true, false, false, true]) (T := [(30, [.inr (.inl 33)], [.inr (.inl 40)])]) (P := [(0, .inr (.inl 82), .inl (.int 0)), (3, .inr (.inl 33), .inl (.int 0)), (3, .inl (.int 400), .inr (.inl 33)), (6, .inr (.inl 33), .inl (.ref 401)), (0, .inr (.inl 82), .inl (.int 0))]) jm_ok31 (by decide +kernel) (by decide +kernel) hd F X1 X2 (fun F' hF hs => ?_)
  have b82 := hd_b (F := F) (F' := F') (k := 82) (hF 82 (by decide))
  have b33 := hd_b (F := F) (F' := F') (k := 33) (hF 33 (by decide))
  have a40 := hd_ba (F := F) (F' := F') (k := 40) (hF 40 (by decide))
  have t83 : sy_dv F' (.inr (.inl 83)) = .int ((sy_ai F 40).getD (sy_i F 33).toNatClampNeg 0) := hd_rd (hs 0 _ rfl) b33 a40
  have b34 := hd_b (F := F) (F' := F') (k := 34) (hF 34 (by decide))
  have hB' : iv_in F' iv_B0 := iv_in_eq hB (fun j hj => hF j (Nat.lt_of_lt_of_le hj (by decide +kernel)))
  have hk := k (sy_cm F' (hd_ov (iv_id 0 iv_B0) [(35, .inl (.inr (.inl 83)))] ++ [])) (fun j hj hn => (hd_keep hB' (Nat.lt_of_lt_of_le hj (by decide +kernel)) (by simp; omega)).trans (hF j (Nat.lt_of_lt_of_le hj (by decide)))) (hd_gi (x := .inr (.inl 83)) (by decide +kernel) t83)
  refine ⟨List.forall_mem_cons.mpr ⟨hd_p0 b82 rfl (by have hc : ((0) : Int32).toInt = 0 := (by decide); omega), List.forall_mem_cons.mpr ⟨hd_p3 b33 rfl (by have hc : ((0) : Int32).toInt = 0 := (by decide); omega), List.forall_mem_cons.mpr ⟨hd_p3 rfl b33 (by have hc : ((400) : Int32).toInt = 400 := (by decide); omega), List.forall_mem_cons.mpr ⟨hd_pb b33 (by first | exact h3 | exact h3), List.forall_mem_cons.mpr ⟨hd_p0 b82 rfl (by have hc : ((0) : Int32).toInt = 0 := (by decide); omega), fun _ h => absurd h List.not_mem_nil⟩⟩⟩⟩⟩, ?_⟩
  show Q (some (sy_dv F' (.inr (.inl 34)))) _
  rw [b34]
  exact hk
theorem k3pq_189_p1 {Ls : Nat} {xs : Nat → Int32} {d : Nat} {Q : Option Value → jm_h → Prop} (hd : 7 ≤ d) (F : Nat → sy_d) (X1 X2 : List jm_c) (hB : iv_in F iv_B0)
    (h0 : (sy_i F 82).toInt ≠ 0)
    (h1 : (sy_i F 82).toInt ≠ 0)
    (k : ∀ F1 : Nat → sy_d, (∀ j, j < 82 → j ≠ 35 → F1 j = F j) → F1 35 = .inl (.int (sy_i F 37)) → Q (some (.int (sy_i F 36))) (sy_dh F1 X1 X2 (iv_H 3))) :
    hd_W Ls xs d jm_M31 Q (189, sy_dL F [some (.inl (.ref 30)), none, none, none, some (.inr (.inl 82)), none, none], sy_dS F [], sy_dh F X1 X2 (iv_H 3), 0, 0) := by
  refine hd_ret (s := 3) (nv := 83) (v := some (.inr (.inl 36))) (uh := hd_ov (iv_id 0 iv_B0) [(35, .inl (.inr (.inl 37)))]) (f := true) (sp := []) (d0 := 6) (O := [false, false]) (T := []) (P := [(1, .inr (.inl 82), .inl (.int 0)), (1, .inr (.inl 82), .inl (.int 0))]) jm_ok31 (by decide +kernel) (by decide +kernel) hd F X1 X2 (fun F' hF hs => ?_)
  have b82 := hd_b (F := F) (F' := F') (k := 82) (hF 82 (by decide))
  have b37 := hd_b (F := F) (F' := F') (k := 37) (hF 37 (by decide))
  have b36 := hd_b (F := F) (F' := F') (k := 36) (hF 36 (by decide))
  have hB' : iv_in F' iv_B0 := iv_in_eq hB (fun j hj => hF j (Nat.lt_of_lt_of_le hj (by decide +kernel)))
  have hk := k (sy_cm F' (hd_ov (iv_id 0 iv_B0) [(35, .inl (.inr (.inl 37)))] ++ [])) (fun j hj hn => (hd_keep hB' (Nat.lt_of_lt_of_le hj (by decide +kernel)) (by simp; omega)).trans (hF j (Nat.lt_of_lt_of_le hj (by decide)))) (hd_gi (x := .inr (.inl 37)) (by decide +kernel) b37)
  refine ⟨List.forall_mem_cons.mpr ⟨hd_p1 b82 rfl (by have hc : ((0) : Int32).toInt = 0 := (by decide); omega), List.forall_mem_cons.mpr ⟨hd_p1 b82 rfl (by have hc : ((0) : Int32).toInt = 0 := (by decide); omega), fun _ h => absurd h List.not_mem_nil⟩⟩, ?_⟩
  show Q (some (sy_dv F' (.inr (.inl 36)))) _
  rw [b36]
  exact hk
theorem k3pq_189 {Ls : Nat} {xs : Nat → Int32} {d : Nat} {Q : Option Value → jm_h → Prop} (hd : 7 ≤ d) (F : Nat → sy_d) (X1 X2 : List jm_c) (hB : iv_in F iv_B0)
    (k0 : (sy_i F 82).toInt = 0 → 0 ≤ (sy_i F 33).toInt → (sy_i F 33).toInt ≤ 400 → (sy_i F 82).toInt = 0 → ∀ F1 : Nat → sy_d, iv_in F1 iv_B0 → (∀ j, j < 82 → j ∉ ([35] : List Nat) → F1 j = F j) → (sy_i F1 33).toInt = (sy_i F 33).toInt → (sy_i F1 34).toInt = (sy_i F 34).toInt → (sy_i F1 35).toInt = ((sy_ai F 40).getD ((sy_i F 33).toInt).toNat 0).toInt → (sy_i F1 36).toInt = (sy_i F 36).toInt → (sy_i F1 37).toInt = (sy_i F 37).toInt → (sy_i F1 38).toInt = (sy_i F 38).toInt → (sy_i F1 3).toInt = (sy_i F 3).toInt → (sy_i F1 4).toInt = (sy_i F 4).toInt → sy_ai F1 39 = sy_ai F 39 → sy_ai F1 40 = sy_ai F 40 → Q (some (.int (sy_i F 34))) (sy_dh F1 X1 X2 (iv_H 3)))
    (k1 : (sy_i F 82).toInt ≠ 0 → (sy_i F 82).toInt ≠ 0 → ∀ F1 : Nat → sy_d, iv_in F1 iv_B0 → (∀ j, j < 82 → j ∉ ([35] : List Nat) → F1 j = F j) → (sy_i F1 33).toInt = (sy_i F 33).toInt → (sy_i F1 34).toInt = (sy_i F 34).toInt → (sy_i F1 35).toInt = (sy_i F 37).toInt → (sy_i F1 36).toInt = (sy_i F 36).toInt → (sy_i F1 37).toInt = (sy_i F 37).toInt → (sy_i F1 38).toInt = (sy_i F 38).toInt → (sy_i F1 3).toInt = (sy_i F 3).toInt → (sy_i F1 4).toInt = (sy_i F 4).toInt → sy_ai F1 39 = sy_ai F 39 → sy_ai F1 40 = sy_ai F 40 → Q (some (.int (sy_i F 36))) (sy_dh F1 X1 X2 (iv_H 3))) :
    hd_W Ls xs d jm_M31 Q (189, sy_dL F [some (.inl (.ref 30)), none, none, none, some (.inr (.inl 82)), none, none], sy_dS F [], sy_dh F X1 X2 (iv_H 3), 0, 0) := by
  by_cases g0 : (sy_i F 82).toInt = 0
  · by_cases g1 : (sy_i F 33).toInt < 0
    · have c33 := nz_bx hB (k := 33) (lo := 0) (hi := 400) rfl
      exfalso
      omega
    replace g1 : 0 ≤ (sy_i F 33).toInt := by omega
    by_cases g2 : 400 < (sy_i F 33).toInt
    · have c33 := nz_bx hB (k := 33) (lo := 0) (hi := 400) rfl
      exfalso
      omega
    replace g2 : (sy_i F 33).toInt ≤ 400 := by omega
    by_cases g3 : (sy_i F 82).toInt = 0
    · have c33 := nz_bx hB (k := 33) (lo := 0) (hi := 400) rfl
      have q83 : (sy_ai F 40).getD (sy_i F 33).toNatClampNeg 0 = (sy_ai F 40).getD ((sy_i F 33).toInt).toNat 0 := by simp only [nz_c]
      have n83 : ((sy_ai F 40).getD (sy_i F 33).toNatClampNeg 0).toInt = ((sy_ai F 40).getD ((sy_i F 33).toInt).toNat 0).toInt := congrArg Int32.toInt q83
      exact k3pq_189_p0 hd F X1 X2 hB (by first | exact g0 | (simp only [nz_c]; exact g0)) (by first | exact g1 | (simp only [nz_c]; exact g1)) (by first | exact g2 | (simp only [nz_c]; exact g2)) (by first | exact ⟨by omega, by omega⟩ | (simp only [nz_c]; exact ⟨by omega, by omega⟩)) (by first | exact g3 | (simp only [nz_c]; exact g3)) (fun F1 g e35 => by rw [(rfl : sy_i F 34 = sy_i F 34)]; exact k0 g0 g1 g2 g3 F1 (nz_in0 hB [35] (fun j hj hn => g j hj (by simp only [List.mem_cons, List.not_mem_nil, or_false, not_or] at hn; omega)) (List.forall_mem_cons.mpr ⟨fun t ht => (Option.some.inj ht) ▸ (nz_hz e35), List.forall_mem_nil _⟩)) (fun j hj hn => g j hj (by simp only [List.mem_cons, List.not_mem_nil, or_false, not_or] at hn; omega)) (nz_fi (g 33 (by decide) (by decide))) (nz_fi (g 34 (by decide) (by decide))) ((congrArg Int32.toInt (zz_i e35)).trans n83) (nz_fi (g 36 (by decide) (by decide))) (nz_fi (g 37 (by decide) (by decide))) (nz_fi (g 38 (by decide) (by decide))) (nz_fi (g 3 (by decide) (by decide))) (nz_fi (g 4 (by decide) (by decide))) (nz_fa (g 39 (by decide) (by decide))) (nz_fa (g 40 (by decide) (by decide))))
    replace g3 : (sy_i F 82).toInt ≠ 0 := by omega
    have c33 := nz_bx hB (k := 33) (lo := 0) (hi := 400) rfl
    exfalso
    omega
  replace g0 : (sy_i F 82).toInt ≠ 0 := by omega
  by_cases g1 : (sy_i F 82).toInt = 0
  · exfalso
    omega
  replace g1 : (sy_i F 82).toInt ≠ 0 := by omega
  exact k3pq_189_p1 hd F X1 X2 hB (by first | exact g0 | (simp only [nz_c]; exact g0)) (by first | exact g1 | (simp only [nz_c]; exact g1)) (fun F1 g e35 => by rw [(rfl : sy_i F 36 = sy_i F 36)]; exact k1 g0 g1 F1 (nz_in0 hB [35] (fun j hj hn => g j hj (by simp only [List.mem_cons, List.not_mem_nil, or_false, not_or] at hn; omega)) (List.forall_mem_cons.mpr ⟨fun t ht => (Option.some.inj ht) ▸ (nz_hz e35), List.forall_mem_nil _⟩)) (fun j hj hn => g j hj (by simp only [List.mem_cons, List.not_mem_nil, or_false, not_or] at hn; omega)) (nz_fi (g 33 (by decide) (by decide))) (nz_fi (g 34 (by decide) (by decide))) ((congrArg Int32.toInt (zz_i e35)).trans (rfl : (sy_i F 37).toInt = (sy_i F 37).toInt)) (nz_fi (g 36 (by decide) (by decide))) (nz_fi (g 37 (by decide) (by decide))) (nz_fi (g 38 (by decide) (by decide))) (nz_fi (g 3 (by decide) (by decide))) (nz_fi (g 4 (by decide) (by decide))) (nz_fa (g 39 (by decide) (by decide))) (nz_fa (g 40 (by decide) (by decide))))
end
section
/-! ===== the class parses a text ===== -/
theorem plr_eq {K : Nat → Int} (x : sT) : sLaw K x = sB (plr K x.1) (fun t => .inr (t, x.2)) := by
  unfold sLaw plr
  rw [sB_a]
noncomputable def rrI (K V : Nat → Int) (N : Nat → Int64) (P : Nat → Int) (FR BU : Nat) (rr : sE ⊕ sT) (good n : Int) (F : Nat → sy_d) : Prop := (good ≠ 0 → ∃ x, rcl P FR BU x F ∧ rr = sRun K V N (401 - n).toNat x) ∧ (good = 0 → rr = .inl ((sy_i F 34).toInt, tg F))
theorem rcl_eq {P : Nat → Int} {FR BU : Nat} {x : sT} {F F1 : Nat → sy_d} (h : rcl P FR BU x F) (e33 : (sy_i F1 33).toInt = (sy_i F 33).toInt) (e36 : (sy_i F1 36).toInt = (sy_i F 36).toInt) (e37 : (sy_i F1 37).toInt = (sy_i F 37).toInt) (e38 : (sy_i F1 38).toInt = (sy_i F 38).toInt) (eF : (sy_i F1 FR).toInt = (sy_i F FR).toInt) (eB : (sy_i F1 BU).toInt = (sy_i F BU).toInt) (e43 : F1 43 = F 43) : rcl P FR BU x F1 := by
  obtain ⟨a, b, c, d, e, f⟩ := h
  exact ⟨by rw [tg_eq e33]; exact a, by rw [eF]; exact b, by rw [eB]; exact c, ncr_eq d e43 e38, wc_eq e e36 e37, by rw [e38]; exact f⟩
theorem ac_sub {A : Type} {r : sE ⊕ A} {J J' : A → (Nat → sy_d) → Prop} {x : Int32} {F' F2 : Nat → sy_d} (h : ac r J x F') (e : ∀ q, q < 82 → F2 q = F' q) (hJ : ∀ a, J a F' → J' a F2) : ac r J' x F2 := ac_dst h (nz_fi (e 34 (by decide))) (nz_fi (e 33 (by decide))) hJ
noncomputable def k0_WP : List Nat := [18, 19, 20, 21, 22, 23, 24, 25, 26, 27, 28, 29, 30, 31, 32, 33, 34, 36, 37, 38, 43, 44]
section Pk0
variable {Ls : Nat} {xs : Nat → Int32} (X1 X2 : List jm_c) (F0 : Nat → sy_d) (rr : sE ⊕ sT)
end Pk0
noncomputable def k3_WP : List Nat := [3, 4, 5, 6, 7, 8, 9, 10, 11, 12, 13, 14, 15, 16, 17, 33, 34, 36, 37, 38, 43, 44]
section Pk3
variable {Ls : Nat} {xs : Nat → Int32} (X1 X2 : List jm_c) (F0 : Nat → sy_d) (rr : sE ⊕ sT)
end Pk3
end
section
/-! ===== the class cuts a text into tokens: names and lemmas ===== -/
noncomputable def ny (F d : Nat → sy_d) : Nat → sy_d := fun j => if j < 82 then F j else d (j - 82)
theorem ny_lt {F d : Nat → sy_d} : ∀ j, j < 82 → ny F d j = F j := fun j h => by
  unfold ny
  rw [if_pos h]
theorem nyy_T {Ls : Nat} {xs : Nat → Int32} {d : Nat} {M : jm_M} {Q : Option Value → jm_h → Prop} {s : Nat} (hs : s < 4) (F dd : Nat → sy_d) (X1 X2 : List jm_c) {A : List sy_v} {vs : List Value} (hok : jm_ok jm_YN M) (hl : (sy_e1 A).length ≤ jm_mx M) (hA : A.map (sy_dv (ny F dd)) = vs)
    (h : hd_W Ls xs d M Q (0, sy_dL (ny F dd) (sy_ent (jm_mx M) A), [], sy_dh (ny F dd) X1 X2 (iv_H s), 0, 0)) : jm_T Ls xs d M vs (sy_dh F X1 X2 (iv_H s)) 0 0 Q := by
  have e : sy_dh F X1 X2 (iv_H s) = sy_dh (ny F dd) X1 X2 (iv_H s) := by
    rw [dh_x F X1 X2 hs, dh_x (ny F dd) X1 X2 hs, dh_nx hs ny_lt]
  rw [e, ← hA]
  exact hd_T hok hl h
noncomputable def wg (F : Nat → sy_d) (k : Nat) : Int64 := (sy_al F 42).getD k 0
noncomputable def bg (F : Nat → sy_d) (n : Nat) : Nat → Int := ub (sy_ai F 2) n
noncomputable def wd (F : Nat → sy_d) : Prop := ∀ i j, i < 23 → j < 23 → wg F i = wg F j → i = j
theorem wg_eq {F F1 : Nat → sy_d} (h : F1 42 = F 42) : wg F1 = wg F := by funext k; unfold wg; rw [nz_fl h]
theorem bg_eq {F F1 : Nat → sy_d} (h : F1 2 = F 2) : bg F1 = bg F := by funext k; unfold bg; rw [nz_fa h]
theorem wd_eq {F F1 : Nat → sy_d} (h : F1 42 = F 42) (hw : wd F) : wd F1 := by unfold wd at hw ⊢; rw [wg_eq h]; exact hw
theorem bg_c {F0 F : Nat → sy_d} (hB : iv_in F iv_B0) (h2 : F 2 = F0 2) {z : Int} {n p : Nat} (hz : z = p) (hp : p < n) : (-128 ≤ ((sy_ai F 2).getD z.toNat 0).toInt ∧ ((sy_ai F 2).getD z.toNat 0).toInt ≤ 127) ∧ bg F0 n p = ((sy_ai F 2).getD z.toNat 0).toInt % 256 := by
  refine ⟨nz_ba hB (k := 2) (lo := -128) (hi := 127) rfl _, ?_⟩
  unfold bg
  rw [ub_i hp, nz_fa h2, hz, Int.toNat_natCast]
theorem gl_c {c : Int32} {a : Int64} (h1 : 97 ≤ c.toInt) (h2 : c.toInt ≤ 122) : gl a (c.toInt % 256) = a * 27 + (c - 97 + 1).toInt64 := by
  unfold gl
  rw [show c.toInt % 256 = c.toInt by omega, gl_i c h1 h2]
theorem t32 {w : Int64} (h0 : 0 ≤ w.toInt) (h1 : w.toInt ≤ 9999) : w.toInt32.toInt = w.toInt := by
  rw [Int64.toInt_toInt32, Int.bmod_def]
  omega
theorem sg_y {c : Int} (h : c = 40 ∨ c = 41 ∨ c = 42 ∨ c = 43 ∨ c = 45 ∨ c = 47 ∨ c = 59 ∨ c = 60 ∨ c = 61) : km c = uS (c % 256) ∧ uS (c % 256) ≠ 3 ∧ c ≠ 24 := by
  rcases h with h | h | h | h | h | h | h | h | h <;> (rw [h]; decide)
theorem sg_n {c : Int} (h : -128 ≤ c ∧ c ≤ 127) (h1 : c ≠ 40 ∧ c ≠ 41 ∧ c ≠ 42 ∧ c ≠ 43 ∧ c ≠ 45 ∧ c ≠ 47 ∧ c ≠ 59 ∧ c ≠ 60 ∧ c ≠ 61) : uS (c % 256) = 3 := by
  unfold uS
  rw [if_neg (by omega), if_neg (by omega), if_neg (by omega), if_neg (by omega), if_neg (by omega), if_neg (by omega), if_neg (by omega), if_neg (by omega), if_neg (by omega)]
/-- one token cut: the n-th, from the byte a, the text ends at e -/
noncomputable def coP (F F' : Nat → sy_d) (n a e : Nat) (x : Int) : Prop := gc [39, 41] F F' ∧ jx_ok F' ∧ x = (uN (bg F e) e a : Nat) ∧ (∀ j, j ≠ n → (sy_ai F' 39).getD j 0 = (sy_ai F 39).getD j 0 ∧ (sy_al F' 41).getD j 0 = (sy_al F 41).getD j 0) ∧ km ((sy_ai F' 39).getD n 0).toInt = uK (bg F e) e (wg F) a ∧ (uK (bg F e) e (wg F) a = 3 → ((sy_ai F' 39).getD n 0).toInt = 25) ∧ (uK (bg F e) e (wg F) a = 2 → ((sy_al F' 41).getD n 0).toInt32.toInt = uF gd (bg F e) a (uR uD (bg F e) e a - a) 0) ∧ (uK (bg F e) e (wg F) a = 1 → (sy_al F' 41).getD n 0 = uF gl (bg F e) a (uR uL (bg F e) e a - a) 0)
noncomputable def coQ (s : Nat) (X1 X2 : List jm_c) (F : Nat → sy_d) (n a e : Nat) (v : Option Value) (G : jm_h) : Prop := ∃ (x : Int32) (F' : Nat → sy_d), v = some (.int x) ∧ G = sy_dh F' X1 X2 (iv_H s) ∧ coP F F' n a e x.toInt
theorem co_mk {F F' : Nat → sy_d} {n a e : Nat} {x : Int} {k : Int32} {w : Int64} (hg : gc [39, 41] F F') (a39 : sy_ai F' 39 = jm_upd (sy_ai F 39) n k) (a41 : sy_al F' 41 = jm_updL (sy_al F 41) n w) (hJ : jx_ok F) (h24 : k.toInt = 24 → 0 ≤ w.toInt ∧ w.toInt ≤ 9999) (hx : x = (uN (bg F e) e a : Nat)) (hk : km k.toInt = uK (bg F e) e (wg F) a) (h3 : uK (bg F e) e (wg F) a = 3 → k.toInt = 25) (h2 : uK (bg F e) e (wg F) a = 2 → w.toInt32.toInt = uF gd (bg F e) a (uR uD (bg F e) e a - a) 0) (h1 : uK (bg F e) e (wg F) a = 1 → w = uF gl (bg F e) a (uR uL (bg F e) e a - a) 0) : coP F F' n a e x := by
  refine ⟨hg, fun j hv => ?_, hx, fun j hj => ?_, ?_, ?_, ?_, ?_⟩
  · rw [a39, jm_upd_at] at hv
    rw [a41, jm_updL_at]
    split at hv
    · rename_i q
      rw [if_pos q]
      exact h24 (by rw [hv]; decide)
    · rename_i q
      rw [if_neg q]
      exact hJ j hv
  · rw [a39, a41, jm_upd_at, jm_updL_at, if_neg hj, if_neg hj]
    exact ⟨rfl, rfl⟩
  · rw [a39, jm_upd_at, if_pos rfl]; exact hk
  · rw [a39, jm_upd_at, if_pos rfl]; exact h3
  · rw [a41, jm_updL_at, if_pos rfl]; exact h2
  · rw [a41, jm_updL_at, if_pos rfl]; exact h1
theorem co_mk0 {F F' : Nat → sy_d} {n a e : Nat} {x : Int} {k : Int32} (hb : iv_in F' iv_B0) (hg : ∀ j, j < 82 → j ∉ ([39] : List Nat) → F' j = F j) (a39 : sy_ai F' 39 = jm_upd (sy_ai F 39) n k) (a41 : sy_al F' 41 = sy_al F 41) (hJ : jx_ok F) (h24 : k.toInt ≠ 24) (hx : x = (uN (bg F e) e a : Nat)) (hk : km k.toInt = uK (bg F e) e (wg F) a) (h3 : uK (bg F e) e (wg F) a = 3 → k.toInt = 25) (h2 : uK (bg F e) e (wg F) a ≠ 2) (h1 : uK (bg F e) e (wg F) a ≠ 1) : coP F F' n a e x := by
  refine ⟨⟨hb, fun j hj hn => hg j hj (fun q => hn (by revert q; simp; omega))⟩, fun j hv => ?_, hx, fun j hj => ?_, ?_, ?_, fun z => absurd z h2, fun z => absurd z h1⟩
  · rw [a39, jm_upd_at] at hv
    rw [a41]
    split at hv
    · exact absurd (by rw [hv]; decide) h24
    · exact hJ j hv
  · rw [a39, a41, jm_upd_at, if_neg hj]
    exact ⟨rfl, rfl⟩
  · rw [a39, jm_upd_at, if_pos rfl]; exact hk
  · rw [a39, jm_upd_at, if_pos rfl]; exact h3
theorem coP_eq {F0 F F' : Nat → sy_d} {n a e : Nat} {x : Int} (h : coP F F' n a e x) (g : ∀ j, j < 82 → F j = F0 j) : coP F0 F' n a e x := by
  obtain ⟨h1, h2, h3, h4, h5, h6, h7, h8⟩ := h
  rw [bg_eq (g 2 (by decide)), wg_eq (g 42 (by decide))] at *
  rw [nz_fa (g 39 (by decide)), nz_fl (g 41 (by decide))] at h4
  exact ⟨h1.src g, h2, h3, h4, h5, h6, h7, h8⟩
theorem coP_dst {F F' F2 : Nat → sy_d} {n a e : Nat} {x : Int} (h : coP F F' n a e x) (g : ∀ j, j < 82 → F2 j = F' j) : coP F F2 n a e x := by
  obtain ⟨h1, h2, h3, h4, h5, h6, h7, h8⟩ := h
  unfold coP
  rw [nz_fa (g 39 (by decide)), nz_fl (g 41 (by decide))]
  exact ⟨h1.dst g, jx_ok_eq (g 39 (by decide)) (g 41 (by decide)) h2, h3, h4, h5, h6, h7, h8⟩
noncomputable def tg_ (F0 F : Nat → sy_d) (e j : Nat) : Prop := tk (bg F0 e) e (wg F0) (kg F) (pg F) (vg F) (ng F) j
noncomputable def cuQ (s : Nat) (X1 X2 : List jm_c) (F0 : Nat → sy_d) (e : Nat) (v : Option Value) (G : jm_h) : Prop := ∃ F' : Nat → sy_d, v = none ∧ G = sy_dh F' X1 X2 (iv_H s) ∧ gc [39, 40, 41] F0 F' ∧ jx_ok F' ∧ ∃ L : Nat, L ≤ 400 ∧ (∀ j, j ≤ L → tg_ F0 F' e j) ∧ (∀ j, j < L → kg F' j ≠ 0 ∧ kg F' j ≠ 3) ∧ (kg F' L = 0 ∨ kg F' L = 3 ∨ L = 400)
/-- so far: T tokens cut, the byte i; o: it is over -/
noncomputable def cJ (F0 F : Nat → sy_d) (e i T : Nat) (o : Int) : Prop := gc [39, 40, 41] F0 F ∧ jx_ok F ∧ i ≤ e ∧ (∀ j, j < T → tg_ F0 F e j) ∧ (o = 0 → (∀ j, j < T → kg F j ≠ 0 ∧ kg F j ≠ 3) ∧ uR uB (bg F0 e) e i = uP (bg F0 e) e T) ∧ (o ≠ 0 → 1 ≤ T ∧ (∀ j, j + 1 < T → kg F j ≠ 0 ∧ kg F j ≠ 3) ∧ (kg F (T - 1) = 0 ∨ kg F (T - 1) = 3))
theorem cJ_eq {F0 F F1 : Nat → sy_d} {e i T : Nat} {o : Int} (h : cJ F0 F e i T o) (hb : iv_in F1 iv_B0) (g : ∀ j, j < 82 → F1 j = F j) : cJ F0 F1 e i T o := by
  obtain ⟨h1, h2, h3, h4, h5, h6⟩ := h
  unfold cJ tg_
  rw [kg_eq (g 39 (by decide)), pg_eq (g 40 (by decide)), vg_eq (g 41 (by decide)), ng_eq (g 41 (by decide))]
  exact ⟨⟨hb, fun j hj hn => (g j hj).trans (h1.2 j hj hn)⟩, jx_ok_eq (g 39 (by decide)) (g 41 (by decide)) h2, h3, h4, h5, h6⟩
/-- a token more -/
theorem cJ_push {F0 F F1 F2 : Nat → sy_d} {e i T : Nat} {x : Int} (h : cJ F0 F e i T 0) (hi : uP (bg F0 e) e T = i) (hb : iv_in F1 iv_B0) (g : ∀ j, j < 82 → j ∉ ([40] : List Nat) → F1 j = F j) {p : Int32} (a40 : sy_ai F1 40 = jm_upd (sy_ai F 40) T p) (hp : p.toInt = i) (hc : coP F1 F2 T i e x) : x = (uN (bg F0 e) e i : Nat) ∧ gc [39, 40, 41] F0 F2 ∧ jx_ok F2 ∧ uN (bg F0 e) e i ≤ e ∧ (∀ j, j < T + 1 → tg_ F0 F2 e j) ∧ (∀ j, j < T → kg F2 j ≠ 0 ∧ kg F2 j ≠ 3) ∧ (kg F2 T = 3 → ((sy_ai F2 39).getD T 0).toInt = 25) := by
  obtain ⟨h1, h2, h3, h4, h5, h6⟩ := h
  obtain ⟨c1, c2, c3, c4, c5, c6, c7, c8⟩ := hc
  have eb : bg F1 = bg F0 := bg_eq ((g 2 (by decide) (by decide)).trans (h1.2 2 (by decide) (by decide)))
  have ew : wg F1 = wg F0 := wg_eq ((g 42 (by decide) (by decide)).trans (h1.2 42 (by decide) (by decide)))
  rw [eb] at c3 c5 c6 c7 c8
  rw [ew] at c5 c6 c7 c8
  have e39 : sy_ai F1 39 = sy_ai F 39 := nz_fa (g 39 (by decide) (by decide))
  have e41 : sy_al F1 41 = sy_al F 41 := nz_fl (g 41 (by decide) (by decide))
  rw [e39, e41] at c4
  have e40 : sy_ai F2 40 = jm_upd (sy_ai F 40) T p := (nz_fa (c1.2 40 (by decide) (by decide))).trans a40
  have k0 : ∀ j, j ≠ T → kg F2 j = kg F j := fun j hj => by unfold kg; rw [(c4 j hj).1]
  have v0 : ∀ j, j ≠ T → vg F2 j = vg F j := fun j hj => by unfold vg; rw [(c4 j hj).2]
  have n0 : ∀ j, j ≠ T → ng F2 j = ng F j := fun j hj => by unfold ng; rw [(c4 j hj).2]
  have p0 : ∀ j, pg F2 j = if j = T then p.toInt else pg F j := fun j => by unfold pg; rw [e40, jm_upd_at]; split <;> rfl
  have hg2 : gc [39, 40, 41] F0 F2 := (h1.trans (W1 := [40]) ⟨hb, g⟩ (by decide)).trans c1 (by decide)
  refine ⟨c3, hg2, c2, uN_le h3, fun j hj => ?_, fun j hj => ?_, fun z => ?_⟩
  · by_cases q : j = T
    · subst q
      unfold tg_ tk
      rw [p0, if_pos rfl, hi]
      refine ⟨hp, c5, fun z => c7 (c5 ▸ z), fun z => c8 (c5 ▸ z)⟩
    · have := h4 j (by omega)
      unfold tg_ tk at this ⊢
      rw [p0, if_neg q, k0 j q, v0 j q, n0 j q]
      exact this
  · rw [k0 j (by omega)]
    exact (h5 rfl).1 j hj
  · exact c6 (c5 ▸ z)
end
