/-! ===== the class reads: behind the parse (shape 0) ===== -/
theorem k0ord_19_p0 {Ls : Nat} {xs : Nat → Int32} {d : Nat} {Q : Option Value → jm_h → Prop} (hd : 29 ≤ d) (F : Nat → sy_d) (X1 X2 : List jm_c) (hB : iv_in F iv_B0)
    (h0 : (sy_i F 82).toInt ≠ 0)
    (k : ∀ F1 : Nat → sy_d, (∀ j, j < 82 → j ≠ 0 ∧ j ≠ 1 → F1 j = F j) → F1 0 = .inl (.int ((0 : Int32))) → F1 1 = .inl (.int (sy_i F 35)) → Q (some (.int (sy_i F 82))) (sy_dh F1 X1 X2 (iv_H 0))) :
    hd_W Ls xs d jm_M83 Q (19, sy_dL F [some (.inl (.ref 8)), none, none], sy_dS F [.inr (.inl 82)], sy_dh F X1 X2 (iv_H 0), 0, 0) := by
  refine hd_ret (s := 0) (nv := 83) (v := some (.inr (.inl 82))) (uh := hd_ov (iv_id 0 iv_B0) [(0, .inl (.inl (.int 0))), (1, .inl (.inr (.inl 35)))]) (f := false) (sp := [59]) (d0 := 28) (O := [true]) (T := []) (P := [(1, .inr (.inl 82), .inl (.int 0))]) jm_ok83 (by decide +kernel) (by decide +kernel) hd F X1 X2 (fun F' hF hs => ?_)
  have b82 := hd_b (F := F) (F' := F') (k := 82) (hF 82 (by decide))
  have b35 := hd_b (F := F) (F' := F') (k := 35) (hF 35 (by decide))
  have hB' : iv_in F' iv_B0 := iv_in_eq hB (fun j hj => hF j (Nat.lt_of_lt_of_le hj (by decide +kernel)))
  have hk := k (sy_cm F' (hd_ov (iv_id 0 iv_B0) [(0, .inl (.inl (.int 0))), (1, .inl (.inr (.inl 35)))] ++ [])) (fun j hj hn => (hd_keep hB' (Nat.lt_of_lt_of_le hj (by decide +kernel)) (by simp; omega)).trans (hF j (by omega))) (hd_gi (x := .inl (.int 0)) (by decide +kernel) rfl) (hd_gi (x := .inr (.inl 35)) (by decide +kernel) b35)
  refine ⟨List.forall_mem_cons.mpr ⟨hd_p1 b82 rfl (by have hc : ((0) : Int32).toInt = 0 := (by decide); omega), fun _ h => absurd h List.not_mem_nil⟩, ?_⟩
  show Q (some (sy_dv F' (.inr (.inl 82)))) _
  rw [b82]
  exact hk
theorem k0ord_19_p1 {Ls : Nat} {xs : Nat → Int32} {d : Nat} {Q : Option Value → jm_h → Prop} (hd : 29 ≤ d) (F : Nat → sy_d) (X1 X2 : List jm_c) (hB : iv_in F iv_B0)
    (h0 : (sy_i F 82).toInt = 0)
    (k : ∀ F1 : Nat → sy_d, (∀ j, j < 82 → j ≠ 0 ∧ j ≠ 1 → F1 j = F j) → F1 0 = .inl (.int ((0 : Int32))) → F1 1 = .inl (.int (sy_i F 35)) → F1 82 = .inl (.int (sy_i F 82)) → hd_W Ls xs d jm_M83 Q (59, sy_dL F1 [none, some (.inr (.inl 82)), none], sy_dS F1 [.inl (.ref 8)], sy_dh F1 X1 X2 (iv_H 2), 0, 0)) :
    hd_W Ls xs d jm_M83 Q (19, sy_dL F [some (.inl (.ref 8)), none, none], sy_dS F [.inr (.inl 82)], sy_dh F X1 X2 (iv_H 0), 0, 0) := by
  refine hd_run (s := 2) (nv := 83) (pc := 59) (L := [none, some (.inr (.inl 82)), none]) (S := [.inl (.ref 8)]) (uh := hd_ov (iv_id 0 iv_B0) [(0, .inl (.inl (.int 0))), (1, .inl (.inr (.inl 35)))]) (ul := [.inl (.inr (.inl 82))]) (f := false) (sp := [59]) (d0 := 28) (O := [false]) (T := []) (P := [(0, .inr (.inl 82), .inl (.int 0))]) jm_ok83 (by decide +kernel) (by decide +kernel) hd F X1 X2 (fun F' hF hs => ?_)
  have b82 := hd_b (F := F) (F' := F') (k := 82) (hF 82 (by decide))
  have b35 := hd_b (F := F) (F' := F') (k := 35) (hF 35 (by decide))
  have hB' : iv_in F' iv_B0 := iv_in_eq hB (fun j hj => hF j (Nat.lt_of_lt_of_le hj (by decide +kernel)))
  refine ⟨List.forall_mem_cons.mpr ⟨hd_p0 b82 rfl (by have hc : ((0) : Int32).toInt = 0 := (by decide); omega), fun _ h => absurd h List.not_mem_nil⟩, ?_⟩
  refine k _ ?_ ?_ ?_ ?_
  · exact fun j hj hn => (hd_keep hB' (Nat.lt_of_lt_of_le hj (by decide +kernel)) (by simp; omega)).trans (hF j (by omega))
  · exact hd_gi (x := .inl (.int 0)) (by decide +kernel) rfl
  · exact hd_gi (x := .inr (.inl 35)) (by decide +kernel) b35
  · exact hd_gi (x := .inr (.inl 82)) (by decide +kernel) b82
theorem k0ord_19 {Ls : Nat} {xs : Nat → Int32} {d : Nat} {Q : Option Value → jm_h → Prop} (hd : 29 ≤ d) (F : Nat → sy_d) (X1 X2 : List jm_c) (hB : iv_in F iv_B0)
    (k0 : (sy_i F 82).toInt ≠ 0 → ∀ F1 : Nat → sy_d, iv_in F1 iv_B0 → (∀ j, j < 82 → j ∉ ([0, 1] : List Nat) → F1 j = F j) → (sy_i F1 0).toInt = 0 → (sy_i F1 1).toInt = (sy_i F 35).toInt → (sy_i F1 35).toInt = (sy_i F 35).toInt → (sy_i F1 79).toInt = (sy_i F 79).toInt → sy_ai F1 2 = sy_ai F 2 → sy_ai F1 78 = sy_ai F 78 → Q (some (.int (sy_i F 82))) (sy_dh F1 X1 X2 (iv_H 0)))
    (k1 : (sy_i F 82).toInt = 0 → ∀ F1 : Nat → sy_d, iv_in F1 iv_B0 → (∀ j, j < 82 → j ∉ ([0, 1] : List Nat) → F1 j = F j) → (sy_i F1 0).toInt = 0 → (sy_i F1 1).toInt = (sy_i F 35).toInt → (sy_i F1 35).toInt = (sy_i F 35).toInt → (sy_i F1 79).toInt = (sy_i F 79).toInt → sy_ai F1 2 = sy_ai F 2 → sy_ai F1 78 = sy_ai F 78 → (sy_i F1 82).toInt = (sy_i F 82).toInt → hd_W Ls xs d jm_M83 Q (59, sy_dL F1 [none, some (.inr (.inl 82)), none], sy_dS F1 [.inl (.ref 8)], sy_dh F1 X1 X2 (iv_H 2), 0, 0)) :
    hd_W Ls xs d jm_M83 Q (19, sy_dL F [some (.inl (.ref 8)), none, none], sy_dS F [.inr (.inl 82)], sy_dh F X1 X2 (iv_H 0), 0, 0) := by
  by_cases g0 : (sy_i F 82).toInt ≠ 0
  · exact k0ord_19_p0 hd F X1 X2 hB (by first | exact g0 | (simp only [nz_c]; exact g0)) (fun F1 g e0 e1 => by rw [(rfl : sy_i F 82 = sy_i F 82)]; exact k0 g0 F1 (nz_in0 hB [0, 1] (fun j hj hn => g j hj (by simp only [List.mem_cons, List.not_mem_nil, or_false, not_or] at hn; omega)) (List.forall_mem_cons.mpr ⟨fun t ht => (Option.some.inj ht) ▸ (nz_hi e0 (by decide : ((0 : Int32)).toInt = 0) (by omega) (by omega)), List.forall_mem_cons.mpr ⟨fun t ht => (Option.some.inj ht) ▸ (nz_hz e1), List.forall_mem_nil _⟩⟩)) (fun j hj hn => g j hj (by simp only [List.mem_cons, List.not_mem_nil, or_false, not_or] at hn; omega)) ((congrArg Int32.toInt (zz_i e0)).trans (by decide : ((0 : Int32)).toInt = 0)) ((congrArg Int32.toInt (zz_i e1)).trans (rfl : (sy_i F 35).toInt = (sy_i F 35).toInt)) (nz_fi (g 35 (by decide) (by decide))) (nz_fi (g 79 (by decide) (by decide))) (nz_fa (g 2 (by decide) (by decide))) (nz_fa (g 78 (by decide) (by decide))))
  replace g0 : (sy_i F 82).toInt = 0 := by omega
  exact k0ord_19_p1 hd F X1 X2 hB (by first | exact g0 | (simp only [nz_c]; exact g0)) (fun F1 g e0 e1 e82 => k1 g0 F1 (nz_in0 hB [0, 1] (fun j hj hn => g j hj (by simp only [List.mem_cons, List.not_mem_nil, or_false, not_or] at hn; omega)) (List.forall_mem_cons.mpr ⟨fun t ht => (Option.some.inj ht) ▸ (nz_hi e0 (by decide : ((0 : Int32)).toInt = 0) (by omega) (by omega)), List.forall_mem_cons.mpr ⟨fun t ht => (Option.some.inj ht) ▸ (nz_hz e1), List.forall_mem_nil _⟩⟩)) (fun j hj hn => g j hj (by simp only [List.mem_cons, List.not_mem_nil, or_false, not_or] at hn; omega)) ((congrArg Int32.toInt (zz_i e0)).trans (by decide : ((0 : Int32)).toInt = 0)) ((congrArg Int32.toInt (zz_i e1)).trans (rfl : (sy_i F 35).toInt = (sy_i F 35).toInt)) (nz_fi (g 35 (by decide) (by decide))) (nz_fi (g 79 (by decide) (by decide))) (nz_fa (g 2 (by decide) (by decide))) (nz_fa (g 78 (by decide) (by decide))) ((congrArg Int32.toInt (zz_i e82)).trans (rfl : (sy_i F 82).toInt = (sy_i F 82).toInt)))
theorem k2ord_62_p0 {Ls : Nat} {xs : Nat → Int32} {d : Nat} {Q : Option Value → jm_h → Prop} (hd : 29 ≤ d) (F : Nat → sy_d) (X1 X2 : List jm_c) (hB : iv_in F iv_B0)
    (k : ∀ F1 : Nat → sy_d, (∀ j, j < 82 → True → F1 j = F j) → Q (some (.int (sy_i F 82))) (sy_dh F1 X1 X2 (iv_H 2))) :
    hd_W Ls xs d jm_M83 Q (62, sy_dL F [none, some (.inr (.inl 82)), none], sy_dS F [], sy_dh F X1 X2 (iv_H 2), 0, 0) := by
  refine hd_ret (s := 2) (nv := 83) (v := some (.inr (.inl 82))) (uh := hd_ov (iv_id 0 iv_B0) []) (f := false) (sp := []) (d0 := 28) (O := []) (T := []) (P := []) jm_ok83 (by decide +kernel) (by decide +kernel) hd F X1 X2 (fun F' hF hs => ?_)
  have b82 := hd_b (F := F) (F' := F') (k := 82) (hF 82 (by decide))
  have hB' : iv_in F' iv_B0 := iv_in_eq hB (fun j hj => hF j (Nat.lt_of_lt_of_le hj (by decide +kernel)))
  have hk := k (sy_cm F' (hd_ov (iv_id 0 iv_B0) [] ++ [])) (fun j hj _ => (hd_keep hB' (Nat.lt_of_lt_of_le hj (by decide +kernel)) (by simp)).trans (hF j (by omega)))
  refine ⟨fun _ h => absurd h List.not_mem_nil, ?_⟩
  show Q (some (sy_dv F' (.inr (.inl 82)))) _
  rw [b82]
  exact hk
theorem k2ord_62 {Ls : Nat} {xs : Nat → Int32} {d : Nat} {Q : Option Value → jm_h → Prop} (hd : 29 ≤ d) (F : Nat → sy_d) (X1 X2 : List jm_c) (hB : iv_in F iv_B0)
    (k0 : ∀ F1 : Nat → sy_d, iv_in F1 iv_B0 → (∀ j, j < 82 → j ∉ ([] : List Nat) → F1 j = F j) → (sy_i F1 0).toInt = (sy_i F 0).toInt → (sy_i F1 1).toInt = (sy_i F 1).toInt → (sy_i F1 79).toInt = (sy_i F 79).toInt → sy_ai F1 2 = sy_ai F 2 → sy_ai F1 78 = sy_ai F 78 → Q (some (.int (sy_i F 82))) (sy_dh F1 X1 X2 (iv_H 2))) :
    hd_W Ls xs d jm_M83 Q (62, sy_dL F [none, some (.inr (.inl 82)), none], sy_dS F [], sy_dh F X1 X2 (iv_H 2), 0, 0) := by
  exact k2ord_62_p0 hd F X1 X2 hB  (fun F1 g  => by rw [(rfl : sy_i F 82 = sy_i F 82)]; exact k0 F1 (nz_in0 hB [] (fun j hj hn => g j hj (by simp only [List.mem_cons, List.not_mem_nil, or_false, not_or] at hn; exact trivial)) (List.forall_mem_nil _)) (fun j hj hn => g j hj (by simp only [List.mem_cons, List.not_mem_nil, or_false, not_or] at hn; exact trivial)) (nz_fi (g 0 (by decide) (by decide))) (nz_fi (g 1 (by decide) (by decide))) (nz_fi (g 79 (by decide) (by decide))) (nz_fa (g 2 (by decide) (by decide))) (nz_fa (g 78 (by decide) (by decide))))
