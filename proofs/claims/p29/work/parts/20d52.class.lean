/-! ===== the class reads: behind the parse (shape 0) ===== -/
theorem k0ord_19_p0 {Ls : Nat} {xs : Nat → Int32} {d : Nat} {Q : Option Value → jm_h → Prop} (hd : 29 ≤ d) (F : Nat → sy_d) (X1 X2 : List jm_c) (hB : iv_in F iv_B0)
    (h0 : (sy_i F 82).toInt ≠ 0)
    (k : ∀ F1 : Nat → sy_d, (∀ j, j < 82 → j ≠ 0 ∧ j ≠ 1 → F1 j = F j) → F1 0 = .inl (.int ((0 : Int32))) → F1 1 = .inl (.int (sy_i F 35)) → Q (some (.int (sy_i F 82))) (sy_dh F1 X1 X2 (iv_H 0))) :
    hd_W Ls xs d jm_M83 Q (19, sy_dL F [some (.inl (.ref 8)), none, none], sy_dS F [.inr (.inl 82)], sy_dh F X1 X2 (iv_H 0), 0, 0) := by
  refine hd_ret (s := 0) (nv := 83) (v := some (.inr (.inl 82))) (uh := hd_ov (iv_id 0 iv_B0) [(0, .inl (.inl (.int 0))), (1, .inl (.inr (.inl 35)))]) (f := false) (sp := [59]) (d0 := 28) (O := [true]) (T := []) (P := [(1, .inr (.inl 82), .inl (.int 0))]) jm_ok83 (by decide +kernel) (by decide +kernel) hd F X1 X2 (fun F' hF hs => ?_)
  have b82 := hd_b (F := F) (F' := F') (k := 82) (hF 82 (by decide))
  have b35 := hd_b (F := F) (F' := F') (k := 35) (hF 35 (by decide))
  have hB' : iv_in F' iv_B0 := iv_in_eq hB (fun j hj => hF j (Nat.lt_of_lt_of_le hj (by decide +kernel)))
  have hk := k (sy_cm F' (hd_ov (iv_id 0 iv_B0) [(0, .inl (.inl (.int 0))), (1, .inl (.inr (.inl 35)))] ++ [])) (fun j hj hn => (hd_keep hB' (Nat.lt_of_lt_of_le hj (by decide +kernel)) (by simp; omega)).trans (hF j (by omega))) (hd_gi (x := .inl (.int 0)) (by decide +kernel) rfl) (hd_gi (x := .inr (.inl 35)) (by decide +kernel) b35)
  refine ⟨List.forall_mem_cons.mpr ⟨hd_p1 b82 rfl (by have hc : ((0) : Int32).toInt = 0 := (by decide); omega), fun _ h => absurd h List.not_mem_nil⟩, ?_⟩
  show Q (some (sy_dv F' (.inr (.inl 82)))) _
  rw [b82]
  exact hk
theorem k0ord_19_p1 {Ls : Nat} {xs : Nat → Int32} {d : Nat} {Q : Option Value → jm_h → Prop} (hd : 29 ≤ d) (F : Nat → sy_d) (X1 X2 : List jm_c) (hB : iv_in F iv_B0)
    (h0 : (sy_i F 82).toInt = 0)
    (k : ∀ F1 : Nat → sy_d, (∀ j, j < 82 → j ≠ 0 ∧ j ≠ 1 → F1 j = F j) → F1 0 = .inl (.int ((0 : Int32))) → F1 1 = .inl (.int (sy_i F 35)) → F1 82 = .inl (.int (sy_i F 82)) → hd_W Ls xs d jm_M83 Q (59, sy_dL F1 [none, some (.inr (.inl 82)), none], sy_dS F1 [.inl (.ref 8)], sy_dh F1 X1 X2 (iv_H 2), 0, 0)) :
    hd_W Ls xs d jm_M83 Q (19, sy_dL F [some (.inl (.ref 8)), none, none], sy_dS F [.inr (.inl 82)], sy_dh F X1 X2 (iv_H 0), 0, 0) := by
  refine hd_run (s := 2) (nv := 83) (pc := 59) (L := [none, some (.inr (.inl 82)), none]) (S := [.inl (.ref 8)]) (uh := hd_ov (iv_id 0 iv_B0) [(0, .inl (.inl (.int 0))), (1, .inl (.inr (.inl 35)))]) (ul := [.inl (.inr (.inl 82))]) (f := false) (sp := [59]) (d0 := 28) (O := [false]) (T := []) (P := [(0, .inr (.inl 82), .inl (.int 0))]) jm_ok83 (by decide +kernel) (by decide +kernel) hd F X1 X2 (fun F' hF hs => ?_)
  have b82 := hd_b (F := F) (F' := F') (k := 82) (hF 82 (by decide))
  have b35 := hd_b (F := F) (F' := F') (k := 35) (hF 35 (by decide))
  have hB' : iv_in F' iv_B0 := iv_in_eq hB (fun j hj => hF j (Nat.lt_of_lt_of_le hj (by decide +kernel)))
  refine ⟨List.forall_mem_cons.mpr ⟨hd_p0 b82 rfl (by have hc : ((0) : Int32).toInt = 0 := (by decide); omega), fun _ h => absurd h List.not_mem_nil⟩, ?_⟩
  refine k _ ?_ ?_ ?_ ?_
  · exact fun j hj hn => (hd_keep hB' (Nat.lt_of_lt_of_le hj (by decide +kernel)) (by simp; omega)).trans (hF j (by omega))
  · exact hd_gi (x := .inl (.int 0)) (by decide +kernel) rfl
  · exact hd_gi (x := .inr (.inl 35)) (by decide +kernel) b35
  · exact hd_gi (x := .inr (.inl 82)) (by decide +kernel) b82
theorem k0ord_19 {Ls : Nat} {xs : Nat → Int32} {d : Nat} {Q : Option Value → jm_h → Prop} (hd : 29 ≤ d) (F : Nat → sy_d) (X1 X2 : List jm_c) (hB : iv_in F iv_B0)
    (k0 : (sy_i F 82).toInt ≠ 0 → ∀ F1 : Nat → sy_d, iv_in F1 iv_B0 → (∀ j, j < 82 → j ∉ ([0, 1] : List Nat) → F1 j = F j) → (sy_i F1 0).toInt = 0 → (sy_i F1 1).toInt = (sy_i F 35).toInt → (sy_i F1 35).toInt = (sy_i F 35).toInt → (sy_i F1 79).toInt = (sy_i F 79).toInt → sy_ai F1 2 = sy_ai F 2 → sy_ai F1 78 = sy_ai F 78 → Q (some (.int (sy_i F 82))) (sy_dh F1 X1 X2 (iv_H 0)))
    (k1 : (sy_i F 82).toInt = 0 → ∀ F1 : Nat → sy_d, iv_in F1 iv_B0 → (∀ j, j < 82 → j ∉ ([0, 1] : List Nat) → F1 j = F j) → (sy_i F1 0).toInt = 0 → (sy_i F1 1).toInt = (sy_i F 35).toInt → (sy_i F1 35).toInt = (sy_i F 35).toInt → (sy_i F1 79).toInt = (sy_i F 79).toInt → sy_ai F1 2 = sy_ai F 2 → sy_ai F1 78 = sy_ai F 78 → (sy_i F1 82).toInt = (sy_i F 82).toInt → hd_W Ls xs d jm_M83 Q (59, sy_dL F1 [none, some (.inr (.inl 82)), none], sy_dS F1 [.inl (.ref 8)], sy_dh F1 X1 X2 (iv_H 2), 0, 0)) :
    hd_W Ls xs d jm_M83 Q (19, sy_dL F [some (.inl (.ref 8)), none, none], sy_dS F [.inr (.inl 82)], sy_dh F X1 X2 (iv_H 0), 0, 0) := by
  by_cases g0 : (sy_i F 82).toInt ≠ 0
  · exact k0ord_19_p0 hd F X1 X2 hB (by first | exact g0 | (simp only [nz_c]; exact g0)) (fun F1 g e0 e1 => by rw [(rfl : sy_i F 82 = sy_i F 82)]; exact k0 g0 F1 (nz_in0 hB [0, 1] (fun j hj hn => g j hj (by simp only [List.mem_cons, List.not_mem_nil, or_false, not_or] at hn; omega)) (List.forall_mem_cons.mpr ⟨fun t ht => (Option.some.inj ht) ▸ (nz_hi e0 (by decide : ((0 : Int32)).toInt = 0) (by omega) (by omega)), List.forall_mem_cons.mpr ⟨fun t ht => (Option.some.inj ht) ▸ (nz_hz e1), List.forall_mem_nil _⟩⟩)) (fun j hj hn => g j hj (by simp only [List.mem_cons, List.not_mem_nil, or_false, not_or] at hn; omega)) ((congrArg Int32.toInt (zz_i e0)).trans (by decide : ((0 : Int32)).toInt = 0)) ((congrArg Int32.toInt (zz_i e1)).trans (rfl : (sy_i F 35).toInt = (sy_i F 35).toInt)) (nz_fi (g 35 (by decide) (by decide))) (nz_fi (g 79 (by decide) (by decide))) (nz_fa (g 2 (by decide) (by decide))) (nz_fa (g 78 (by decide) (by decide))))
  replace g0 : (sy_i F 82).toInt = 0 := by omega
  exact k0ord_19_p1 hd F X1 X2 hB (by first | exact g0 | (simp only [nz_c]; exact g0)) (fun F1 g e0 e1 e82 => k1 g0 F1 (nz_in0 hB [0, 1] (fun j hj hn => g j hj (by simp only [List.mem_cons, List.not_mem_nil, or_false, not_or] at hn; omega)) (List.forall_mem_cons.mpr ⟨fun t ht => (Option.some.inj ht) ▸ (nz_hi e0 (by decide : ((0 : Int32)).toInt = 0) (by omega) (by omega)), List.forall_mem_cons.mpr ⟨fun t ht => (Option.some.inj ht) ▸ (nz_hz e1), List.forall_mem_nil _⟩⟩)) (fun j hj hn => g j hj (by simp only [List.mem_cons, List.not_mem_nil, or_false, not_or] at hn; omega)) ((congrArg Int32.toInt (zz_i e0)).trans (by decide : ((0 : Int32)).toInt = 0)) ((congrArg Int32.toInt (zz_i e1)).trans (rfl : (sy_i F 35).toInt = (sy_i F 35).toInt)) (nz_fi (g 35 (by decide) (by decide))) (nz_fi (g 79 (by decide) (by decide))) (nz_fa (g 2 (by decide) (by decide))) (nz_fa (g 78 (by decide) (by decide))) ((congrArg Int32.toInt (zz_i e82)).trans (rfl : (sy_i F 82).toInt = (sy_i F 82).toInt)))
theorem k2ord_62_p0 {Ls : Nat} {xs : Nat → Int32} {d : Nat} {Q : Option Value → jm_h → Prop} (hd : 29 ≤ d) (F : Nat → sy_d) (X1 X2 : List jm_c) (hB : iv_in F iv_B0)
    (k : ∀ F1 : Nat → sy_d, (∀ j, j < 82 → True → F1 j = F j) → Q (some (.int (sy_i F 82))) (sy_dh F1 X1 X2 (iv_H 2))) :
    hd_W Ls xs d jm_M83 Q (62, sy_dL F [none, some (.inr (.inl 82)), none], sy_dS F [], sy_dh F X1 X2 (iv_H 2), 0, 0) := by
  refine hd_ret (s := 2) (nv := 83) (v := some (.inr (.inl 82))) (uh := hd_ov (iv_id 0 iv_B0) []) (f := false) (sp := []) (d0 := 28) (O := []) (T := []) (P := []) jm_ok83 (by decide +kernel) (by decide +kernel) hd F X1 X2 (fun F' hF hs => ?_)
  have b82 := hd_b (F := F) (F' := F') (k := 82) (hF 82 (by decide))
  have hB' : iv_in F' iv_B0 := iv_in_eq hB (fun j hj => hF j (Nat.lt_of_lt_of_le hj (by decide +kernel)))
  have hk := k (sy_cm F' (hd_ov (iv_id 0 iv_B0) [] ++ [])) (fun j hj _ => (hd_keep hB' (Nat.lt_of_lt_of_le hj (by decide +kernel)) (by simp)).trans (hF j (by omega)))
  refine ⟨fun _ h => absurd h List.not_mem_nil, ?_⟩
  show Q (some (sy_dv F' (.inr (.inl 82)))) _
  rw [b82]
  exact hk
theorem k2ord_62 {Ls : Nat} {xs : Nat → Int32} {d : Nat} {Q : Option Value → jm_h → Prop} (hd : 29 ≤ d) (F : Nat → sy_d) (X1 X2 : List jm_c) (hB : iv_in F iv_B0)
    (k0 : ∀ F1 : Nat → sy_d, iv_in F1 iv_B0 → (∀ j, j < 82 → j ∉ ([] : List Nat) → F1 j = F j) → (sy_i F1 0).toInt = (sy_i F 0).toInt → (sy_i F1 1).toInt = (sy_i F 1).toInt → (sy_i F1 79).toInt = (sy_i F 79).toInt → sy_ai F1 2 = sy_ai F 2 → sy_ai F1 78 = sy_ai F 78 → Q (some (.int (sy_i F 82))) (sy_dh F1 X1 X2 (iv_H 2))) :
    hd_W Ls xs d jm_M83 Q (62, sy_dL F [none, some (.inr (.inl 82)), none], sy_dS F [], sy_dh F X1 X2 (iv_H 2), 0, 0) := by
  exact k2ord_62_p0 hd F X1 X2 hB  (fun F1 g  => by rw [(rfl : sy_i F 82 = sy_i F 82)]; exact k0 F1 (nz_in0 hB [] (fun j hj hn => g j hj (by simp only [List.mem_cons, List.not_mem_nil, or_false, not_or] at hn; exact trivial)) (List.forall_mem_nil _)) (fun j hj hn => g j hj (by simp only [List.mem_cons, List.not_mem_nil, or_false, not_or] at hn; exact trivial)) (nz_fi (g 0 (by decide) (by decide))) (nz_fi (g 1 (by decide) (by decide))) (nz_fi (g 79 (by decide) (by decide))) (nz_fa (g 2 (by decide) (by decide))) (nz_fa (g 78 (by decide) (by decide))))
theorem k2obe_0_p0 {Ls : Nat} {xs : Nat → Int32} {d : Nat} {Q : Option Value → jm_h → Prop} (hd : 7 ≤ d) (F : Nat → sy_d) (X1 X2 : List jm_c) (hB : iv_in F iv_B0)
    (k : ∀ F1 : Nat → sy_d, (∀ j, j < 82 → True → F1 j = F j) → hd_W Ls xs d jm_M117 Q (8, sy_dL F1 [some (.inl (.ref 8)), none], sy_dS F1 [.inl (.ref 20), .inl (.ref 46)], sy_dh F1 X1 X2 (iv_H 2), 0, 0)) :
    hd_W Ls xs d jm_M117 Q (0, sy_dL F [some (.inl (.ref 8)), none], sy_dS F [], sy_dh F X1 X2 (iv_H 2), 0, 0) := by
  refine hd_run (s := 2) (nv := 82) (pc := 8) (L := [some (.inl (.ref 8)), none]) (S := [.inl (.ref 20), .inl (.ref 46)]) (uh := hd_ov (iv_id 0 iv_B0) []) (ul := []) (f := true) (sp := [8]) (d0 := 6) (O := []) (T := []) (P := []) jm_ok117 (by decide +kernel) (by decide +kernel) hd F X1 X2 (fun F' hF hs => ?_)
  have hB' : iv_in F' iv_B0 := iv_in_eq hB (fun j hj => hF j (Nat.lt_of_lt_of_le hj (by decide +kernel)))
  refine ⟨fun _ h => absurd h List.not_mem_nil, ?_⟩
  refine k _ ?_
  · exact fun j hj _ => (hd_keep hB' (Nat.lt_of_lt_of_le hj (by decide +kernel)) (by simp)).trans (hF j (by omega))
theorem k2obe_0 {Ls : Nat} {xs : Nat → Int32} {d : Nat} {Q : Option Value → jm_h → Prop} (hd : 7 ≤ d) (F : Nat → sy_d) (X1 X2 : List jm_c) (hB : iv_in F iv_B0)
    (k0 : ∀ F1 : Nat → sy_d, iv_in F1 iv_B0 → (∀ j, j < 82 → j ∉ ([] : List Nat) → F1 j = F j) → (sy_i F1 0).toInt = (sy_i F 0).toInt → (sy_i F1 1).toInt = (sy_i F 1).toInt → (sy_i F1 79).toInt = (sy_i F 79).toInt → sy_ai F1 2 = sy_ai F 2 → sy_ai F1 78 = sy_ai F 78 → hd_W Ls xs d jm_M117 Q (8, sy_dL F1 [some (.inl (.ref 8)), none], sy_dS F1 [.inl (.ref 20), .inl (.ref 46)], sy_dh F1 X1 X2 (iv_H 2), 0, 0)) :
    hd_W Ls xs d jm_M117 Q (0, sy_dL F [some (.inl (.ref 8)), none], sy_dS F [], sy_dh F X1 X2 (iv_H 2), 0, 0) := by
  exact k2obe_0_p0 hd F X1 X2 hB  (fun F1 g  => k0 F1 (nz_in0 hB [] (fun j hj hn => g j hj (by simp only [List.mem_cons, List.not_mem_nil, or_false, not_or] at hn; exact trivial)) (List.forall_mem_nil _)) (fun j hj hn => g j hj (by simp only [List.mem_cons, List.not_mem_nil, or_false, not_or] at hn; exact trivial)) (nz_fi (g 0 (by decide) (by decide))) (nz_fi (g 1 (by decide) (by decide))) (nz_fi (g 79 (by decide) (by decide))) (nz_fa (g 2 (by decide) (by decide))) (nz_fa (g 78 (by decide) (by decide))))
theorem k2obe_11_p0 {Ls : Nat} {xs : Nat → Int32} {d : Nat} {Q : Option Value → jm_h → Prop} (hd : 7 ≤ d) (F : Nat → sy_d) (X1 X2 : List jm_c) (hB : iv_in F iv_B0)
    (k : ∀ F1 : Nat → sy_d, (∀ j, j < 82 → True → F1 j = F j) → hd_W Ls xs d jm_M117 Q (19, sy_dL F1 [some (.inl (.ref 8)), none], sy_dS F1 [.inl (.ref 20), .inl (.ref 38)], sy_dh F1 X1 X2 (iv_H 2), 0, 0)) :
    hd_W Ls xs d jm_M117 Q (11, sy_dL F [some (.inl (.ref 8)), none], sy_dS F [], sy_dh F X1 X2 (iv_H 2), 0, 0) := by
  refine hd_run (s := 2) (nv := 82) (pc := 19) (L := [some (.inl (.ref 8)), none]) (S := [.inl (.ref 20), .inl (.ref 38)]) (uh := hd_ov (iv_id 0 iv_B0) []) (ul := []) (f := false) (sp := [19]) (d0 := 6) (O := []) (T := []) (P := []) jm_ok117 (by decide +kernel) (by decide +kernel) hd F X1 X2 (fun F' hF hs => ?_)
  have hB' : iv_in F' iv_B0 := iv_in_eq hB (fun j hj => hF j (Nat.lt_of_lt_of_le hj (by decide +kernel)))
  refine ⟨fun _ h => absurd h List.not_mem_nil, ?_⟩
  refine k _ ?_
  · exact fun j hj _ => (hd_keep hB' (Nat.lt_of_lt_of_le hj (by decide +kernel)) (by simp)).trans (hF j (by omega))
theorem k2obe_11 {Ls : Nat} {xs : Nat → Int32} {d : Nat} {Q : Option Value → jm_h → Prop} (hd : 7 ≤ d) (F : Nat → sy_d) (X1 X2 : List jm_c) (hB : iv_in F iv_B0)
    (k0 : ∀ F1 : Nat → sy_d, iv_in F1 iv_B0 → (∀ j, j < 82 → j ∉ ([] : List Nat) → F1 j = F j) → (sy_i F1 0).toInt = (sy_i F 0).toInt → (sy_i F1 1).toInt = (sy_i F 1).toInt → (sy_i F1 79).toInt = (sy_i F 79).toInt → sy_ai F1 2 = sy_ai F 2 → sy_ai F1 78 = sy_ai F 78 → hd_W Ls xs d jm_M117 Q (19, sy_dL F1 [some (.inl (.ref 8)), none], sy_dS F1 [.inl (.ref 20), .inl (.ref 38)], sy_dh F1 X1 X2 (iv_H 2), 0, 0)) :
    hd_W Ls xs d jm_M117 Q (11, sy_dL F [some (.inl (.ref 8)), none], sy_dS F [], sy_dh F X1 X2 (iv_H 2), 0, 0) := by
  exact k2obe_11_p0 hd F X1 X2 hB  (fun F1 g  => k0 F1 (nz_in0 hB [] (fun j hj hn => g j hj (by simp only [List.mem_cons, List.not_mem_nil, or_false, not_or] at hn; exact trivial)) (List.forall_mem_nil _)) (fun j hj hn => g j hj (by simp only [List.mem_cons, List.not_mem_nil, or_false, not_or] at hn; exact trivial)) (nz_fi (g 0 (by decide) (by decide))) (nz_fi (g 1 (by decide) (by decide))) (nz_fi (g 79 (by decide) (by decide))) (nz_fa (g 2 (by decide) (by decide))) (nz_fa (g 78 (by decide) (by decide))))
theorem k2obe_22_p0 {Ls : Nat} {xs : Nat → Int32} {d : Nat} {Q : Option Value → jm_h → Prop} (hd : 7 ≤ d) (F : Nat → sy_d) (X1 X2 : List jm_c) (hB : iv_in F iv_B0)
    (k : ∀ F1 : Nat → sy_d, (∀ j, j < 82 → j ≠ 74 ∧ j ≠ 75 → F1 j = F j) → F1 74 = .inl (.int ((0 : Int32))) → F1 75 = .inl (.int ((0 : Int32))) → hd_W Ls xs d jm_M117 Q (34, sy_dL F1 [some (.inl (.ref 8)), none], sy_dS F1 [.inl (.int 0), .inl (.ref 68)], sy_dh F1 X1 X2 (iv_H 2), 0, 0)) :
    hd_W Ls xs d jm_M117 Q (22, sy_dL F [some (.inl (.ref 8)), none], sy_dS F [], sy_dh F X1 X2 (iv_H 2), 0, 0) := by
  refine hd_run (s := 2) (nv := 82) (pc := 34) (L := [some (.inl (.ref 8)), none]) (S := [.inl (.int 0), .inl (.ref 68)]) (uh := hd_ov (iv_id 0 iv_B0) [(74, .inl (.inl (.int 0))), (75, .inl (.inl (.int 0)))]) (ul := []) (f := false) (sp := [34]) (d0 := 6) (O := []) (T := []) (P := []) jm_ok117 (by decide +kernel) (by decide +kernel) hd F X1 X2 (fun F' hF hs => ?_)
  have hB' : iv_in F' iv_B0 := iv_in_eq hB (fun j hj => hF j (Nat.lt_of_lt_of_le hj (by decide +kernel)))
  refine ⟨fun _ h => absurd h List.not_mem_nil, ?_⟩
  refine k _ ?_ ?_ ?_
  · exact fun j hj hn => (hd_keep hB' (Nat.lt_of_lt_of_le hj (by decide +kernel)) (by simp; omega)).trans (hF j (by omega))
  · exact hd_gi (x := .inl (.int 0)) (by decide +kernel) rfl
  · exact hd_gi (x := .inl (.int 0)) (by decide +kernel) rfl
theorem k2obe_22 {Ls : Nat} {xs : Nat → Int32} {d : Nat} {Q : Option Value → jm_h → Prop} (hd : 7 ≤ d) (F : Nat → sy_d) (X1 X2 : List jm_c) (hB : iv_in F iv_B0)
    (k0 : ∀ F1 : Nat → sy_d, iv_in F1 iv_B0 → (∀ j, j < 82 → j ∉ ([74, 75] : List Nat) → F1 j = F j) → (sy_i F1 0).toInt = (sy_i F 0).toInt → (sy_i F1 1).toInt = (sy_i F 1).toInt → (sy_i F1 79).toInt = (sy_i F 79).toInt → sy_ai F1 2 = sy_ai F 2 → sy_ai F1 78 = sy_ai F 78 → hd_W Ls xs d jm_M117 Q (34, sy_dL F1 [some (.inl (.ref 8)), none], sy_dS F1 [.inl (.int 0), .inl (.ref 68)], sy_dh F1 X1 X2 (iv_H 2), 0, 0)) :
    hd_W Ls xs d jm_M117 Q (22, sy_dL F [some (.inl (.ref 8)), none], sy_dS F [], sy_dh F X1 X2 (iv_H 2), 0, 0) := by
  exact k2obe_22_p0 hd F X1 X2 hB  (fun F1 g e74 e75 => k0 F1 (nz_in0 hB [74, 75] (fun j hj hn => g j hj (by simp only [List.mem_cons, List.not_mem_nil, or_false, not_or] at hn; omega)) (List.forall_mem_cons.mpr ⟨fun t ht => (Option.some.inj ht) ▸ (nz_hi e74 (by decide : ((0 : Int32)).toInt = 0) (by omega) (by omega)), List.forall_mem_cons.mpr ⟨fun t ht => (Option.some.inj ht) ▸ (nz_hi e75 (by decide : ((0 : Int32)).toInt = 0) (by omega) (by omega)), List.forall_mem_nil _⟩⟩)) (fun j hj hn => g j hj (by simp only [List.mem_cons, List.not_mem_nil, or_false, not_or] at hn; omega)) (nz_fi (g 0 (by decide) (by decide))) (nz_fi (g 1 (by decide) (by decide))) (nz_fi (g 79 (by decide) (by decide))) (nz_fa (g 2 (by decide) (by decide))) (nz_fa (g 78 (by decide) (by decide))))
theorem k2obe_37_p0 {Ls : Nat} {xs : Nat → Int32} {d : Nat} {Q : Option Value → jm_h → Prop} (hd : 7 ≤ d) (F : Nat → sy_d) (X1 X2 : List jm_c) (hB : iv_in F iv_B0)
    (k : ∀ F1 : Nat → sy_d, (∀ j, j < 82 → j ≠ 78 ∧ j ≠ 79 → F1 j = F j) → F1 78 = .inr (.inl (jm_upd (jm_upd (jm_upd (sy_ai F 78) ((0 : Int32)).toNatClampNeg ((0 : Int32))) ((1 : Int32)).toNatClampNeg ((0 : Int32))) ((2 : Int32)).toNatClampNeg ((0 : Int32)))) → F1 79 = .inl (.int ((0 : Int32))) → Q (none) (sy_dh F1 X1 X2 (iv_H 2))) :
    hd_W Ls xs d jm_M117 Q (37, sy_dL F [some (.inl (.ref 8)), none], sy_dS F [], sy_dh F X1 X2 (iv_H 2), 0, 0) := by
  refine hd_ret (s := 2) (nv := 82) (v := none) (uh := hd_ov (iv_id 0 iv_B0) [(78, .inr (.inr (.inl 84))), (79, .inl (.inl (.int 0)))]) (f := false) (sp := []) (d0 := 6) (O := []) (T := [(40, [.inl (.int 0), .inl (.int 0)], [.inr (.inl 78)]), (40, [.inl (.int 1), .inl (.int 0)], [.inr (.inl 82)]), (40, [.inl (.int 2), .inl (.int 0)], [.inr (.inl 83)])]) (P := []) jm_ok117 (by decide +kernel) (by decide +kernel) hd F X1 X2 (fun F' hF hs => ?_)
  have a78 := hd_ba (F := F) (F' := F') (k := 78) (hF 78 (by decide))
  have t82 : sy_da F' (.inr (.inl 82)) = .inl (jm_upd (sy_ai F 78) ((0 : Int32)).toNatClampNeg ((0 : Int32))) := hd_up (hs 0 _ rfl) rfl rfl a78
  have t83 : sy_da F' (.inr (.inl 83)) = .inl (jm_upd (jm_upd (sy_ai F 78) ((0 : Int32)).toNatClampNeg ((0 : Int32))) ((1 : Int32)).toNatClampNeg ((0 : Int32))) := hd_up (hs 1 _ rfl) rfl rfl t82
  have t84 : sy_da F' (.inr (.inl 84)) = .inl (jm_upd (jm_upd (jm_upd (sy_ai F 78) ((0 : Int32)).toNatClampNeg ((0 : Int32))) ((1 : Int32)).toNatClampNeg ((0 : Int32))) ((2 : Int32)).toNatClampNeg ((0 : Int32))) := hd_up (hs 2 _ rfl) rfl rfl t83
  have hB' : iv_in F' iv_B0 := iv_in_eq hB (fun j hj => hF j (Nat.lt_of_lt_of_le hj (by decide +kernel)))
  refine ⟨fun _ h => absurd h List.not_mem_nil, ?_⟩
  refine k _ ?_ ?_ ?_
  · exact fun j hj hn => (hd_keep hB' (Nat.lt_of_lt_of_le hj (by decide +kernel)) (by simp; omega)).trans (hF j (by omega))
  · exact hd_ga (a := .inr (.inl 84)) (by decide +kernel) t84
  · exact hd_gi (x := .inl (.int 0)) (by decide +kernel) rfl
theorem k2obe_37 {Ls : Nat} {xs : Nat → Int32} {d : Nat} {Q : Option Value → jm_h → Prop} (hd : 7 ≤ d) (F : Nat → sy_d) (X1 X2 : List jm_c) (hB : iv_in F iv_B0)
    (k0 : ∀ F1 : Nat → sy_d, iv_in F1 iv_B0 → (∀ j, j < 82 → j ∉ ([78, 79] : List Nat) → F1 j = F j) → (sy_i F1 0).toInt = (sy_i F 0).toInt → (sy_i F1 1).toInt = (sy_i F 1).toInt → (sy_i F1 79).toInt = 0 → sy_ai F1 2 = sy_ai F 2 → sy_ai F1 78 = jm_upd (jm_upd (jm_upd (sy_ai F 78) (0 : Int).toNat ((0 : Int32))) (1 : Int).toNat ((0 : Int32))) (2 : Int).toNat ((0 : Int32)) → Q (none) (sy_dh F1 X1 X2 (iv_H 2))) :
    hd_W Ls xs d jm_M117 Q (37, sy_dL F [some (.inl (.ref 8)), none], sy_dS F [], sy_dh F X1 X2 (iv_H 2), 0, 0) := by
  have w84 : jm_upd (jm_upd (jm_upd (sy_ai F 78) ((0 : Int32)).toNatClampNeg ((0 : Int32))) ((1 : Int32)).toNatClampNeg ((0 : Int32))) ((2 : Int32)).toNatClampNeg ((0 : Int32)) = jm_upd (jm_upd (jm_upd (sy_ai F 78) (0 : Int).toNat ((0 : Int32))) (1 : Int).toNat ((0 : Int32))) (2 : Int).toNat ((0 : Int32)) := by simp only [nz_c, (by decide : ((0 : Int32)).toInt = 0), (by decide : ((1 : Int32)).toInt = 1), (by decide : ((2 : Int32)).toInt = 2)]
  exact k2obe_37_p0 hd F X1 X2 hB  (fun F1 g e78 e79 => k0 F1 (nz_in0 hB [78, 79] (fun j hj hn => g j hj (by simp only [List.mem_cons, List.not_mem_nil, or_false, not_or] at hn; omega)) (List.forall_mem_cons.mpr ⟨fun t ht => (Option.some.inj ht) ▸ (nz_hA e78 (nz_up (nz_up (nz_up (nz_ba hB (k := 78) (lo := 0) (hi := 1) rfl) (by decide : ((0 : Int32)).toInt = 0) (by omega) (by omega)) (by decide : ((0 : Int32)).toInt = 0) (by omega) (by omega)) (by decide : ((0 : Int32)).toInt = 0) (by omega) (by omega))), List.forall_mem_cons.mpr ⟨fun t ht => (Option.some.inj ht) ▸ (nz_hi e79 (by decide : ((0 : Int32)).toInt = 0) (by omega) (by omega)), List.forall_mem_nil _⟩⟩)) (fun j hj hn => g j hj (by simp only [List.mem_cons, List.not_mem_nil, or_false, not_or] at hn; omega)) (nz_fi (g 0 (by decide) (by decide))) (nz_fi (g 1 (by decide) (by decide))) ((congrArg Int32.toInt (zz_i e79)).trans (by decide : ((0 : Int32)).toInt = 0)) (nz_fa (g 2 (by decide) (by decide))) ((zz_ai e78).trans w84))
