section
/-! ===== the class saves its ground and loads it, way by way (shape 0) ===== -/
theorem j0svt_0_p0 {Ls : Nat} {xs : Nat → Int32} {d : Nat} {Q : Option Value → jm_h → Prop} (hd : 1 ≤ d) (F : Nat → sy_d) (X1 X2 : List jm_c) (hB : iv_in F iv_B0)
    (h0 : 0 ≤ (sy_i F 82).toInt)
    (h1 : (sy_i F 82).toInt ≤ 2340)
    (h2 : 0 ≤ (sy_i F 82).toInt ∧ (sy_i F 82).toInt < 2400)
    (h3 : 0 ≤ ((sy_i F 82) + ((1 : Int32))).toInt ∧ ((sy_i F 82) + ((1 : Int32))).toInt < 2400)
    (h4 : 0 ≤ ((sy_i F 82) + ((2 : Int32))).toInt ∧ ((sy_i F 82) + ((2 : Int32))).toInt < 2400)
    (k : ∀ F1 : Nat → sy_d, (∀ j, j < 82 → j ≠ 76 → F1 j = F j) → F1 76 = .inr (.inl (jm_upd (jm_upd (jm_upd (sy_ai F 76) (sy_i F 82).toNatClampNeg (sy_i F 50)) ((sy_i F 82) + ((1 : Int32))).toNatClampNeg (sy_i F 51)) ((sy_i F 82) + ((2 : Int32))).toNatClampNeg (sy_i F 52))) → F1 82 = .inl (.int (sy_i F 82)) → F1 83 = .inl (.int ((sy_i F 82) + ((3 : Int32)))) → F1 84 = .inl (.int ((0 : Int32))) → hd_W Ls xs d jm_M9 Q (46, sy_dL F1 [some (.inl (.ref 46)), some (.inl (.ref 67)), some (.inr (.inl 82)), some (.inr (.inl 83)), some (.inr (.inl 84))], sy_dS F1 [], sy_dh F1 X1 X2 (iv_H 0), 0, 0)) :
    hd_W Ls xs d jm_M9 Q (0, sy_dL F [some (.inl (.ref 46)), some (.inl (.ref 67)), some (.inr (.inl 82)), none, none], sy_dS F [], sy_dh F X1 X2 (iv_H 0), 0, 0) := by
  refine hd_run (s := 0) (nv := 83) (pc := 46) (L := [some (.inl (.ref 46)), some (.inl (.ref 67)), some (.inr (.inl 82)), some (.inr (.inl 83)), some (.inr (.inl 84))]) (S := []) (uh := hd_ov (iv_id 0 iv_B0) [(76, .inr (.inr (.inl 87)))]) (ul := [.inl (.inr (.inl 82)), .inl (.inr (.inl 88)), .inl (.inl (.int 0))]) (f := true) (sp := [46]) (d0 := 0) (O := [false, true]) (T := [(40, [.inr (.inl 82), .inr (.inl 50)], [.inr (.inl 76)]), (0, [.inr (.inl 82), .inl (.int 1)], []), (40, [.inr (.inl 84), .inr (.inl 51)], [.inr (.inl 83)]), (0, [.inr (.inl 82), .inl (.int 2)], []), (40, [.inr (.inl 86), .inr (.inl 52)], [.inr (.inl 85)]), (0, [.inr (.inl 82), .inl (.int 3)], [])]) (P := [(3, .inr (.inl 82), .inl (.int 0)), (4, .inr (.inl 82), .inl (.int 2340)), (6, .inr (.inl 82), .inl (.ref 2400)), (6, .inr (.inl 84), .inl (.ref 2400)), (6, .inr (.inl 86), .inl (.ref 2400))]) jm_ok9 (by decide +kernel) (by decide +kernel) hd F X1 X2 (fun F' hF hs => ?_)
  have b82 := hd_b (F := F) (F' := F') (k := 82) (hF 82 (by decide))
  have t84 : sy_dv F' (.inr (.inl 84)) = .int ((sy_i F 82) + ((1 : Int32))) := hd_o (hs 1 _ rfl) b82 rfl rfl
  have t86 : sy_dv F' (.inr (.inl 86)) = .int ((sy_i F 82) + ((2 : Int32))) := hd_o (hs 3 _ rfl) b82 rfl rfl
  have b52 := hd_b (F := F) (F' := F') (k := 52) (hF 52 (by decide))
  have b51 := hd_b (F := F) (F' := F') (k := 51) (hF 51 (by decide))
  have b50 := hd_b (F := F) (F' := F') (k := 50) (hF 50 (by decide))
  have a76 := hd_ba (F := F) (F' := F') (k := 76) (hF 76 (by decide))
  have t83 : sy_da F' (.inr (.inl 83)) = .inl (jm_upd (sy_ai F 76) (sy_i F 82).toNatClampNeg (sy_i F 50)) := hd_up (hs 0 _ rfl) b82 b50 a76
  have t85 : sy_da F' (.inr (.inl 85)) = .inl (jm_upd (jm_upd (sy_ai F 76) (sy_i F 82).toNatClampNeg (sy_i F 50)) ((sy_i F 82) + ((1 : Int32))).toNatClampNeg (sy_i F 51)) := hd_up (hs 2 _ rfl) t84 b51 t83
  have t87 : sy_da F' (.inr (.inl 87)) = .inl (jm_upd (jm_upd (jm_upd (sy_ai F 76) (sy_i F 82).toNatClampNeg (sy_i F 50)) ((sy_i F 82) + ((1 : Int32))).toNatClampNeg (sy_i F 51)) ((sy_i F 82) + ((2 : Int32))).toNatClampNeg (sy_i F 52)) := hd_up (hs 4 _ rfl) t86 b52 t85
  have t88 : sy_dv F' (.inr (.inl 88)) = .int ((sy_i F 82) + ((3 : Int32))) := hd_o (hs 5 _ rfl) b82 rfl rfl
  have hB' : iv_in F' iv_B0 := iv_in_eq hB (fun j hj => hF j (Nat.lt_of_lt_of_le hj (by decide +kernel)))
  refine ⟨List.forall_mem_cons.mpr ⟨hd_p3 b82 rfl (by have hc : ((0) : Int32).toInt = 0 := (by decide); omega), List.forall_mem_cons.mpr ⟨hd_p4 b82 rfl (by have hc : ((2340) : Int32).toInt = 2340 := (by decide); omega), List.forall_mem_cons.mpr ⟨hd_pb b82 (by first | exact h2 | exact h2), List.forall_mem_cons.mpr ⟨hd_pb t84 (by first | exact h3 | exact h3), List.forall_mem_cons.mpr ⟨hd_pb t86 (by first | exact h4 | exact h4), fun _ h => absurd h List.not_mem_nil⟩⟩⟩⟩⟩, ?_⟩
  refine k _ ?_ ?_ ?_ ?_ ?_
  · exact fun j hj hn => (hd_keep hB' (Nat.lt_of_lt_of_le hj (by decide +kernel)) (by simp; omega)).trans (hF j (Nat.lt_of_lt_of_le hj (by decide)))
  · exact hd_ga (a := .inr (.inl 87)) (by decide +kernel) t87
  · exact hd_gi (x := .inr (.inl 82)) (by decide +kernel) b82
  · exact hd_gi (x := .inr (.inl 88)) (by decide +kernel) t88
  · exact hd_gi (x := .inl (.int 0)) (by decide +kernel) rfl
theorem j0svt_0 {Ls : Nat} {xs : Nat → Int32} {d : Nat} {Q : Option Value → jm_h → Prop} (hd : 1 ≤ d) (F : Nat → sy_d) (X1 X2 : List jm_c) (hB : iv_in F iv_B0)
    (a82 : 0 ≤ (sy_i F 82).toInt ∧ (sy_i F 82).toInt ≤ 2340)
    (k0 : 0 ≤ (sy_i F 82).toInt → (sy_i F 82).toInt ≤ 2340 → ∀ F1 : Nat → sy_d, iv_in F1 iv_B0 → (∀ j, j < 82 → j ∉ ([76] : List Nat) → F1 j = F j) → sy_ai F1 76 = jm_upd (jm_upd (jm_upd (sy_ai F 76) ((sy_i F 82).toInt).toNat (sy_i F 50)) (((sy_i F 82).toInt + 1)).toNat (sy_i F 51)) (((sy_i F 82).toInt + 2)).toNat (sy_i F 52) → (sy_i F1 82).toInt = (sy_i F 82).toInt → sy_i F1 82 = sy_i F 82 → (sy_i F1 83).toInt = ((sy_i F 82).toInt + 3) → sy_i F1 83 = (sy_i F 82) + ((3 : Int32)) → (sy_i F1 84).toInt = 0 → sy_i F1 84 = (0 : Int32) → hd_W Ls xs d jm_M9 Q (46, sy_dL F1 [some (.inl (.ref 46)), some (.inl (.ref 67)), some (.inr (.inl 82)), some (.inr (.inl 83)), some (.inr (.inl 84))], sy_dS F1 [], sy_dh F1 X1 X2 (iv_H 0), 0, 0)) :
    hd_W Ls xs d jm_M9 Q (0, sy_dL F [some (.inl (.ref 46)), some (.inl (.ref 67)), some (.inr (.inl 82)), none, none], sy_dS F [], sy_dh F X1 X2 (iv_H 0), 0, 0) := by
  by_cases g0 : (sy_i F 82).toInt < 0
  · exfalso
    omega
  replace g0 : 0 ≤ (sy_i F 82).toInt := by omega
  by_cases g1 : (sy_i F 82).toInt ≤ 2340
  · have n84 : nzI ((sy_i F 82) + ((1 : Int32))) (((sy_i F 82).toInt + 1)) := nz_add (rfl : (sy_i F 82).toInt = (sy_i F 82).toInt) (by decide : ((1 : Int32)).toInt = 1) (by omega) (by omega)
    have n86 : nzI ((sy_i F 82) + ((2 : Int32))) (((sy_i F 82).toInt + 2)) := nz_add (rfl : (sy_i F 82).toInt = (sy_i F 82).toInt) (by decide : ((2 : Int32)).toInt = 2) (by omega) (by omega)
    have w87 : jm_upd (jm_upd (jm_upd (sy_ai F 76) (sy_i F 82).toNatClampNeg (sy_i F 50)) ((sy_i F 82) + ((1 : Int32))).toNatClampNeg (sy_i F 51)) ((sy_i F 82) + ((2 : Int32))).toNatClampNeg (sy_i F 52) = jm_upd (jm_upd (jm_upd (sy_ai F 76) ((sy_i F 82).toInt).toNat (sy_i F 50)) (((sy_i F 82).toInt + 1)).toNat (sy_i F 51)) (((sy_i F 82).toInt + 2)).toNat (sy_i F 52) := by simp only [nz_c, (nzE n84), (nzE n86), (by decide : ((1 : Int32)).toInt = 1), (by decide : ((2 : Int32)).toInt = 2)]
    have n88 : nzI ((sy_i F 82) + ((3 : Int32))) (((sy_i F 82).toInt + 3)) := nz_add (rfl : (sy_i F 82).toInt = (sy_i F 82).toInt) (by decide : ((3 : Int32)).toInt = 3) (by omega) (by omega)
    exact j0svt_0_p0 hd F X1 X2 hB (by first | exact g0 | (simp only [nz_c]; exact g0)) (by first | exact g1 | (simp only [nz_c]; exact g1)) (by first | exact ⟨by omega, by omega⟩ | (simp only [nz_c]; exact ⟨by omega, by omega⟩)) (by first | (simp only [nz_c, (nzE n84)]; exact ⟨by omega, by omega⟩) | exact ⟨by omega, by omega⟩ | (rw [(nzE n84)]; exact ⟨by omega, by omega⟩)) (by first | (simp only [nz_c, (nzE n86)]; exact ⟨by omega, by omega⟩) | exact ⟨by omega, by omega⟩ | (rw [(nzE n86)]; exact ⟨by omega, by omega⟩)) (fun F1 g e76 e82 e83 e84 => k0 g0 g1 F1 (nz_in0 hB [76] (fun j hj hn => g j hj (by simp only [List.mem_cons, List.not_mem_nil, or_false, not_or] at hn; omega)) (List.forall_mem_cons.mpr ⟨fun t ht => (Option.some.inj ht) ▸ (nz_hz2 e76), List.forall_mem_nil _⟩)) (fun j hj hn => g j hj (by simp only [List.mem_cons, List.not_mem_nil, or_false, not_or] at hn; omega)) ((zz_ai e76).trans w87) ((congrArg Int32.toInt (zz_i e82)).trans (rfl : (sy_i F 82).toInt = (sy_i F 82).toInt)) ((zz_i e82).trans (rfl : sy_i F 82 = sy_i F 82)) ((congrArg Int32.toInt (zz_i e83)).trans (nzE n88)) ((zz_i e83).trans (rfl : (sy_i F 82) + ((3 : Int32)) = (sy_i F 82) + ((3 : Int32)))) ((congrArg Int32.toInt (zz_i e84)).trans (by decide : ((0 : Int32)).toInt = 0)) ((zz_i e84).trans (rfl : (0 : Int32) = (0 : Int32))))
  replace g1 : 2340 < (sy_i F 82).toInt := by omega
  exfalso
  omega
theorem j0svt_46_p0 {Ls : Nat} {xs : Nat → Int32} {d : Nat} {Q : Option Value → jm_h → Prop} (hd : 1 ≤ d) (F : Nat → sy_d) (X1 X2 : List jm_c) (hB : iv_in F iv_B0)
    (h0 : 7 ≤ (sy_i F 84).toInt)
    (h1 : 0 ≤ (sy_i F 83).toInt ∧ (sy_i F 83).toInt < 2397)
    (h2 : 0 ≤ ((sy_i F 83) + ((4 : Int32))).toInt ∧ ((sy_i F 83) + ((4 : Int32))).toInt < 2397)
    (k : ∀ F1 : Nat → sy_d, (∀ j, j < 82 → j ≠ 76 → F1 j = F j) → F1 76 = .inr (.inl (jm_cpy (sy_ai F 61) (jm_cpy (sy_ai F 60) (sy_ai F 76) ((0 : Int32)).toNatClampNeg (sy_i F 83).toNatClampNeg ((4 : Int32)).toNatClampNeg) ((0 : Int32)).toNatClampNeg ((sy_i F 83) + ((4 : Int32))).toNatClampNeg ((4 : Int32)).toNatClampNeg)) → Q (none) (sy_dh F1 X1 X2 (iv_H 0))) :
    hd_W Ls xs d jm_M9 Q (46, sy_dL F [some (.inl (.ref 46)), some (.inl (.ref 67)), some (.inr (.inl 82)), some (.inr (.inl 83)), some (.inr (.inl 84))], sy_dS F [], sy_dh F X1 X2 (iv_H 0), 0, 0) := by
  refine hd_ret (s := 0) (nv := 85) (v := none) (uh := hd_ov (iv_id 0 iv_B0) [(76, .inr (.inr (.inl 87)))]) (f := true) (sp := [46]) (d0 := 0) (O := [true]) (T := [(42, [.inl (.int 0), .inr (.inl 83), .inl (.int 4)], [.inr (.inl 60), .inr (.inl 76)]), (0, [.inr (.inl 83), .inl (.int 4)], []), (42, [.inl (.int 0), .inr (.inl 86), .inl (.int 4)], [.inr (.inl 61), .inr (.inl 85)])]) (P := [(4, .inl (.int 7), .inr (.inl 84)), (6, .inr (.inl 83), .inl (.ref 2397)), (6, .inr (.inl 86), .inl (.ref 2397))]) jm_ok9 (by decide +kernel) (by decide +kernel) hd F X1 X2 (fun F' hF hs => ?_)
  have b84 := hd_b (F := F) (F' := F') (k := 84) (hF 84 (by decide))
  have b83 := hd_b (F := F) (F' := F') (k := 83) (hF 83 (by decide))
  have t86 : sy_dv F' (.inr (.inl 86)) = .int ((sy_i F 83) + ((4 : Int32))) := hd_o (hs 1 _ rfl) b83 rfl rfl
  have a61 := hd_ba (F := F) (F' := F') (k := 61) (hF 61 (by decide))
  have a60 := hd_ba (F := F) (F' := F') (k := 60) (hF 60 (by decide))
  have a76 := hd_ba (F := F) (F' := F') (k := 76) (hF 76 (by decide))
  have t85 : sy_da F' (.inr (.inl 85)) = .inl (jm_cpy (sy_ai F 60) (sy_ai F 76) ((0 : Int32)).toNatClampNeg (sy_i F 83).toNatClampNeg ((4 : Int32)).toNatClampNeg) := hd_cp (hs 0 _ rfl) rfl b83 rfl a60 a76
  have t87 : sy_da F' (.inr (.inl 87)) = .inl (jm_cpy (sy_ai F 61) (jm_cpy (sy_ai F 60) (sy_ai F 76) ((0 : Int32)).toNatClampNeg (sy_i F 83).toNatClampNeg ((4 : Int32)).toNatClampNeg) ((0 : Int32)).toNatClampNeg ((sy_i F 83) + ((4 : Int32))).toNatClampNeg ((4 : Int32)).toNatClampNeg) := hd_cp (hs 2 _ rfl) rfl t86 rfl a61 t85
  have hB' : iv_in F' iv_B0 := iv_in_eq hB (fun j hj => hF j (Nat.lt_of_lt_of_le hj (by decide +kernel)))
  refine ⟨List.forall_mem_cons.mpr ⟨hd_p4 rfl b84 (by have hc : ((7) : Int32).toInt = 7 := (by decide); omega), List.forall_mem_cons.mpr ⟨hd_pb b83 (by first | exact h1 | exact h1), List.forall_mem_cons.mpr ⟨hd_pb t86 (by first | exact h2 | exact h2), fun _ h => absurd h List.not_mem_nil⟩⟩⟩, ?_⟩
  refine k _ ?_ ?_
  · exact fun j hj hn => (hd_keep hB' (Nat.lt_of_lt_of_le hj (by decide +kernel)) (by simp; omega)).trans (hF j (Nat.lt_of_lt_of_le hj (by decide)))
  · exact hd_ga (a := .inr (.inl 87)) (by decide +kernel) t87
theorem j0svt_46_p1 {Ls : Nat} {xs : Nat → Int32} {d : Nat} {Q : Option Value → jm_h → Prop} (hd : 1 ≤ d) (F : Nat → sy_d) (X1 X2 : List jm_c) (hB : iv_in F iv_B0)
    (h0 : (sy_i F 84).toInt < 7)
    (h1 : 0 ≤ (sy_i F 84).toInt ∧ (sy_i F 84).toInt < 7)
    (h2 : 0 ≤ (sy_i F 83).toInt ∧ (sy_i F 83).toInt < 2400)
    (h3 : 0 ≤ (sy_i F 84).toInt ∧ (sy_i F 84).toInt < 7)
    (h4 : 0 ≤ ((sy_i F 83) + ((1 : Int32))).toInt ∧ ((sy_i F 83) + ((1 : Int32))).toInt < 2400)
    (h5 : 0 ≤ (sy_i F 84).toInt ∧ (sy_i F 84).toInt < 7)
    (h6 : 0 ≤ ((sy_i F 83) + ((2 : Int32))).toInt ∧ ((sy_i F 83) + ((2 : Int32))).toInt < 2400)
    (h7 : 0 ≤ (sy_i F 84).toInt ∧ (sy_i F 84).toInt < 7)
    (h8 : 0 ≤ ((sy_i F 83) + ((3 : Int32))).toInt ∧ ((sy_i F 83) + ((3 : Int32))).toInt < 2400)
    (h9 : 0 ≤ (sy_i F 84).toInt ∧ (sy_i F 84).toInt < 7)
    (h10 : 0 ≤ ((sy_i F 83) + ((4 : Int32))).toInt ∧ ((sy_i F 83) + ((4 : Int32))).toInt < 2400)
    (h11 : 0 ≤ (sy_i F 84).toInt ∧ (sy_i F 84).toInt < 7)
    (h12 : 0 ≤ ((sy_i F 83) + ((5 : Int32))).toInt ∧ ((sy_i F 83) + ((5 : Int32))).toInt < 2400)
    (h13 : 0 ≤ (sy_i F 84).toInt ∧ (sy_i F 84).toInt < 7)
    (h14 : 0 ≤ ((sy_i F 83) + ((6 : Int32))).toInt ∧ ((sy_i F 83) + ((6 : Int32))).toInt < 2400)
    (k : ∀ F1 : Nat → sy_d, (∀ j, j < 82 → j ≠ 76 → F1 j = F j) → F1 76 = .inr (.inl (jm_upd (jm_upd (jm_upd (jm_upd (jm_upd (jm_upd (jm_upd (sy_ai F 76) (sy_i F 83).toNatClampNeg ((sy_ai F 53).getD (sy_i F 84).toNatClampNeg 0)) ((sy_i F 83) + ((1 : Int32))).toNatClampNeg ((sy_ai F 54).getD (sy_i F 84).toNatClampNeg 0)) ((sy_i F 83) + ((2 : Int32))).toNatClampNeg ((sy_ai F 55).getD (sy_i F 84).toNatClampNeg 0)) ((sy_i F 83) + ((3 : Int32))).toNatClampNeg ((sy_ai F 56).getD (sy_i F 84).toNatClampNeg 0)) ((sy_i F 83) + ((4 : Int32))).toNatClampNeg ((sy_ai F 57).getD (sy_i F 84).toNatClampNeg 0)) ((sy_i F 83) + ((5 : Int32))).toNatClampNeg ((sy_ai F 58).getD (sy_i F 84).toNatClampNeg 0)) ((sy_i F 83) + ((6 : Int32))).toNatClampNeg ((sy_ai F 59).getD (sy_i F 84).toNatClampNeg 0))) → F1 82 = .inl (.int (sy_i F 82)) → F1 83 = .inl (.int ((sy_i F 83) + ((7 : Int32)))) → F1 84 = .inl (.int ((sy_i F 84) + ((1 : Int32)))) → hd_W Ls xs d jm_M9 Q (46, sy_dL F1 [some (.inl (.ref 46)), some (.inl (.ref 67)), some (.inr (.inl 82)), some (.inr (.inl 83)), some (.inr (.inl 84))], sy_dS F1 [], sy_dh F1 X1 X2 (iv_H 0), 0, 0)) :
    hd_W Ls xs d jm_M9 Q (46, sy_dL F [some (.inl (.ref 46)), some (.inl (.ref 67)), some (.inr (.inl 82)), some (.inr (.inl 83)), some (.inr (.inl 84))], sy_dS F [], sy_dh F X1 X2 (iv_H 0), 0, 0) := by
  refine hd_run (s := 0) (nv := 85) (pc := 46) (L := [some (.inl (.ref 46)), some (.inl (.ref 67)), some (.inr (.inl 82)), some (.inr (.inl 83)), some (.inr (.inl 84))]) (S := []) (uh := hd_ov (iv_id 0 iv_B0) [(76, .inr (.inr (.inl 104)))]) (ul := [.inl (.inr (.inl 82)), .inl (.inr (.inl 105)), .inl (.inr (.inl 106))]) (f := true) (sp := [46]) (d0 := 0) (O := [false]) (T := [(30, [.inr (.inl 84)], [.inr (.inl 53)]), (40, [.inr (.inl 83), .inr (.inl 85)], [.inr (.inl 76)]), (0, [.inr (.inl 83), .inl (.int 1)], []), (30, [.inr (.inl 84)], [.inr (.inl 54)]), (40, [.inr (.inl 87), .inr (.inl 88)], [.inr (.inl 86)]), (0, [.inr (.inl 83), .inl (.int 2)], []), (30, [.inr (.inl 84)], [.inr (.inl 55)]), (40, [.inr (.inl 90), .inr (.inl 91)], [.inr (.inl 89)]), (0, [.inr (.inl 83), .inl (.int 3)], []), (30, [.inr (.inl 84)], [.inr (.inl 56)]), (40, [.inr (.inl 93), .inr (.inl 94)], [.inr (.inl 92)]), (0, [.inr (.inl 83), .inl (.int 4)], []), (30, [.inr (.inl 84)], [.inr (.inl 57)]), (40, [.inr (.inl 96), .inr (.inl 97)], [.inr (.inl 95)]), (0, [.inr (.inl 83), .inl (.int 5)], []), (30, [.inr (.inl 84)], [.inr (.inl 58)]), (40, [.inr (.inl 99), .inr (.inl 100)], [.inr (.inl 98)]), (0, [.inr (.inl 83), .inl (.int 6)], []), (30, [.inr (.inl 84)], [.inr (.inl 59)]), (40, [.inr (.inl 102), .inr (.inl 103)], [.inr (.inl 101)]), (0, [.inr (.inl 83), .inl (.int 7)], []), (0, [.inr (.inl 84), .inl (.int 1)], [])]) (P := [(5, .inl (.int 7), .inr (.inl 84)), (6, .inr (.inl 84), .inl (.ref 7)), (6, .inr (.inl 83), .inl (.ref 2400)), (6, .inr (.inl 84), .inl (.ref 7)), (6, .inr (.inl 87), .inl (.ref 2400)), (6, .inr (.inl 84), .inl (.ref 7)), (6, .inr (.inl 90), .inl (.ref 2400)), (6, .inr (.inl 84), .inl (.ref 7)), (6, .inr (.inl 93), .inl (.ref 2400)), (6, .inr (.inl 84), .inl (.ref 7)), (6, .inr (.inl 96), .inl (.ref 2400)), (6, .inr (.inl 84), .inl (.ref 7)), (6, .inr (.inl 99), .inl (.ref 2400)), (6, .inr (.inl 84), .inl (.ref 7)), (6, .inr (.inl 102), .inl (.ref 2400))]) jm_ok9 (by decide +kernel) (by decide +kernel) hd F X1 X2 (fun F' hF hs => ?_)
  have b84 := hd_b (F := F) (F' := F') (k := 84) (hF 84 (by decide))
  have b83 := hd_b (F := F) (F' := F') (k := 83) (hF 83 (by decide))
  have t87 : sy_dv F' (.inr (.inl 87)) = .int ((sy_i F 83) + ((1 : Int32))) := hd_o (hs 2 _ rfl) b83 rfl rfl
  have t90 : sy_dv F' (.inr (.inl 90)) = .int ((sy_i F 83) + ((2 : Int32))) := hd_o (hs 5 _ rfl) b83 rfl rfl
  have t93 : sy_dv F' (.inr (.inl 93)) = .int ((sy_i F 83) + ((3 : Int32))) := hd_o (hs 8 _ rfl) b83 rfl rfl
  have t96 : sy_dv F' (.inr (.inl 96)) = .int ((sy_i F 83) + ((4 : Int32))) := hd_o (hs 11 _ rfl) b83 rfl rfl
  have t99 : sy_dv F' (.inr (.inl 99)) = .int ((sy_i F 83) + ((5 : Int32))) := hd_o (hs 14 _ rfl) b83 rfl rfl
  have t102 : sy_dv F' (.inr (.inl 102)) = .int ((sy_i F 83) + ((6 : Int32))) := hd_o (hs 17 _ rfl) b83 rfl rfl
  have a59 := hd_ba (F := F) (F' := F') (k := 59) (hF 59 (by decide))
  have t103 : sy_dv F' (.inr (.inl 103)) = .int ((sy_ai F 59).getD (sy_i F 84).toNatClampNeg 0) := hd_rd (hs 18 _ rfl) b84 a59
  have a58 := hd_ba (F := F) (F' := F') (k := 58) (hF 58 (by decide))
  have t100 : sy_dv F' (.inr (.inl 100)) = .int ((sy_ai F 58).getD (sy_i F 84).toNatClampNeg 0) := hd_rd (hs 15 _ rfl) b84 a58
  have a57 := hd_ba (F := F) (F' := F') (k := 57) (hF 57 (by decide))
  have t97 : sy_dv F' (.inr (.inl 97)) = .int ((sy_ai F 57).getD (sy_i F 84).toNatClampNeg 0) := hd_rd (hs 12 _ rfl) b84 a57
  have a56 := hd_ba (F := F) (F' := F') (k := 56) (hF 56 (by decide))
  have t94 : sy_dv F' (.inr (.inl 94)) = .int ((sy_ai F 56).getD (sy_i F 84).toNatClampNeg 0) := hd_rd (hs 9 _ rfl) b84 a56
  have a55 := hd_ba (F := F) (F' := F') (k := 55) (hF 55 (by decide))
  have t91 : sy_dv F' (.inr (.inl 91)) = .int ((sy_ai F 55).getD (sy_i F 84).toNatClampNeg 0) := hd_rd (hs 6 _ rfl) b84 a55
  have a54 := hd_ba (F := F) (F' := F') (k := 54) (hF 54 (by decide))
  have t88 : sy_dv F' (.inr (.inl 88)) = .int ((sy_ai F 54).getD (sy_i F 84).toNatClampNeg 0) := hd_rd (hs 3 _ rfl) b84 a54
  have a53 := hd_ba (F := F) (F' := F') (k := 53) (hF 53 (by decide))
  have t85 : sy_dv F' (.inr (.inl 85)) = .int ((sy_ai F 53).getD (sy_i F 84).toNatClampNeg 0) := hd_rd (hs 0 _ rfl) b84 a53
  have a76 := hd_ba (F := F) (F' := F') (k := 76) (hF 76 (by decide))
  have t86 : sy_da F' (.inr (.inl 86)) = .inl (jm_upd (sy_ai F 76) (sy_i F 83).toNatClampNeg ((sy_ai F 53).getD (sy_i F 84).toNatClampNeg 0)) := hd_up (hs 1 _ rfl) b83 t85 a76
  have t89 : sy_da F' (.inr (.inl 89)) = .inl (jm_upd (jm_upd (sy_ai F 76) (sy_i F 83).toNatClampNeg ((sy_ai F 53).getD (sy_i F 84).toNatClampNeg 0)) ((sy_i F 83) + ((1 : Int32))).toNatClampNeg ((sy_ai F 54).getD (sy_i F 84).toNatClampNeg 0)) := hd_up (hs 4 _ rfl) t87 t88 t86
  have t92 : sy_da F' (.inr (.inl 92)) = .inl (jm_upd (jm_upd (jm_upd (sy_ai F 76) (sy_i F 83).toNatClampNeg ((sy_ai F 53).getD (sy_i F 84).toNatClampNeg 0)) ((sy_i F 83) + ((1 : Int32))).toNatClampNeg ((sy_ai F 54).getD (sy_i F 84).toNatClampNeg 0)) ((sy_i F 83) + ((2 : Int32))).toNatClampNeg ((sy_ai F 55).getD (sy_i F 84).toNatClampNeg 0)) := hd_up (hs 7 _ rfl) t90 t91 t89
  have t95 : sy_da F' (.inr (.inl 95)) = .inl (jm_upd (jm_upd (jm_upd (jm_upd (sy_ai F 76) (sy_i F 83).toNatClampNeg ((sy_ai F 53).getD (sy_i F 84).toNatClampNeg 0)) ((sy_i F 83) + ((1 : Int32))).toNatClampNeg ((sy_ai F 54).getD (sy_i F 84).toNatClampNeg 0)) ((sy_i F 83) + ((2 : Int32))).toNatClampNeg ((sy_ai F 55).getD (sy_i F 84).toNatClampNeg 0)) ((sy_i F 83) + ((3 : Int32))).toNatClampNeg ((sy_ai F 56).getD (sy_i F 84).toNatClampNeg 0)) := hd_up (hs 10 _ rfl) t93 t94 t92
  have t98 : sy_da F' (.inr (.inl 98)) = .inl (jm_upd (jm_upd (jm_upd (jm_upd (jm_upd (sy_ai F 76) (sy_i F 83).toNatClampNeg ((sy_ai F 53).getD (sy_i F 84).toNatClampNeg 0)) ((sy_i F 83) + ((1 : Int32))).toNatClampNeg ((sy_ai F 54).getD (sy_i F 84).toNatClampNeg 0)) ((sy_i F 83) + ((2 : Int32))).toNatClampNeg ((sy_ai F 55).getD (sy_i F 84).toNatClampNeg 0)) ((sy_i F 83) + ((3 : Int32))).toNatClampNeg ((sy_ai F 56).getD (sy_i F 84).toNatClampNeg 0)) ((sy_i F 83) + ((4 : Int32))).toNatClampNeg ((sy_ai F 57).getD (sy_i F 84).toNatClampNeg 0)) := hd_up (hs 13 _ rfl) t96 t97 t95
  have t101 : sy_da F' (.inr (.inl 101)) = .inl (jm_upd (jm_upd (jm_upd (jm_upd (jm_upd (jm_upd (sy_ai F 76) (sy_i F 83).toNatClampNeg ((sy_ai F 53).getD (sy_i F 84).toNatClampNeg 0)) ((sy_i F 83) + ((1 : Int32))).toNatClampNeg ((sy_ai F 54).getD (sy_i F 84).toNatClampNeg 0)) ((sy_i F 83) + ((2 : Int32))).toNatClampNeg ((sy_ai F 55).getD (sy_i F 84).toNatClampNeg 0)) ((sy_i F 83) + ((3 : Int32))).toNatClampNeg ((sy_ai F 56).getD (sy_i F 84).toNatClampNeg 0)) ((sy_i F 83) + ((4 : Int32))).toNatClampNeg ((sy_ai F 57).getD (sy_i F 84).toNatClampNeg 0)) ((sy_i F 83) + ((5 : Int32))).toNatClampNeg ((sy_ai F 58).getD (sy_i F 84).toNatClampNeg 0)) := hd_up (hs 16 _ rfl) t99 t100 t98
  have t104 : sy_da F' (.inr (.inl 104)) = .inl (jm_upd (jm_upd (jm_upd (jm_upd (jm_upd (jm_upd (jm_upd (sy_ai F 76) (sy_i F 83).toNatClampNeg ((sy_ai F 53).getD (sy_i F 84).toNatClampNeg 0)) ((sy_i F 83) + ((1 : Int32))).toNatClampNeg ((sy_ai F 54).getD (sy_i F 84).toNatClampNeg 0)) ((sy_i F 83) + ((2 : Int32))).toNatClampNeg ((sy_ai F 55).getD (sy_i F 84).toNatClampNeg 0)) ((sy_i F 83) + ((3 : Int32))).toNatClampNeg ((sy_ai F 56).getD (sy_i F 84).toNatClampNeg 0)) ((sy_i F 83) + ((4 : Int32))).toNatClampNeg ((sy_ai F 57).getD (sy_i F 84).toNatClampNeg 0)) ((sy_i F 83) + ((5 : Int32))).toNatClampNeg ((sy_ai F 58).getD (sy_i F 84).toNatClampNeg 0)) ((sy_i F 83) + ((6 : Int32))).toNatClampNeg ((sy_ai F 59).getD (sy_i F 84).toNatClampNeg 0)) := hd_up (hs 19 _ rfl) t102 t103 t101
  have b82 := hd_b (F := F) (F' := F') (k := 82) (hF 82 (by decide))
  have t105 : sy_dv F' (.inr (.inl 105)) = .int ((sy_i F 83) + ((7 : Int32))) := hd_o (hs 20 _ rfl) b83 rfl rfl
  have t106 : sy_dv F' (.inr (.inl 106)) = .int ((sy_i F 84) + ((1 : Int32))) := hd_o (hs 21 _ rfl) b84 rfl rfl
  have hB' : iv_in F' iv_B0 := iv_in_eq hB (fun j hj => hF j (Nat.lt_of_lt_of_le hj (by decide +kernel)))
  refine ⟨List.forall_mem_cons.mpr ⟨hd_p5 rfl b84 (by have hc : ((7) : Int32).toInt = 7 := (by decide); omega), List.forall_mem_cons.mpr ⟨hd_pb b84 (by first | exact h1 | exact h1), List.forall_mem_cons.mpr ⟨hd_pb b83 (by first | exact h2 | exact h2), List.forall_mem_cons.mpr ⟨hd_pb b84 (by first | exact h3 | exact h3), List.forall_mem_cons.mpr ⟨hd_pb t87 (by first | exact h4 | exact h4), List.forall_mem_cons.mpr ⟨hd_pb b84 (by first | exact h5 | exact h5), List.forall_mem_cons.mpr ⟨hd_pb t90 (by first | exact h6 | exact h6), List.forall_mem_cons.mpr ⟨hd_pb b84 (by first | exact h7 | exact h7), List.forall_mem_cons.mpr ⟨hd_pb t93 (by first | exact h8 | exact h8), List.forall_mem_cons.mpr ⟨hd_pb b84 (by first | exact h9 | exact h9), List.forall_mem_cons.mpr ⟨hd_pb t96 (by first | exact h10 | exact h10), List.forall_mem_cons.mpr ⟨hd_pb b84 (by first | exact h11 | exact h11), List.forall_mem_cons.mpr ⟨hd_pb t99 (by first | exact h12 | exact h12), List.forall_mem_cons.mpr ⟨hd_pb b84 (by first | exact h13 | exact h13), List.forall_mem_cons.mpr ⟨hd_pb t102 (by first | exact h14 | exact h14), fun _ h => absurd h List.not_mem_nil⟩⟩⟩⟩⟩⟩⟩⟩⟩⟩⟩⟩⟩⟩⟩, ?_⟩
  refine k _ ?_ ?_ ?_ ?_ ?_
  · exact fun j hj hn => (hd_keep hB' (Nat.lt_of_lt_of_le hj (by decide +kernel)) (by simp; omega)).trans (hF j (Nat.lt_of_lt_of_le hj (by decide)))
  · exact hd_ga (a := .inr (.inl 104)) (by decide +kernel) t104
  · exact hd_gi (x := .inr (.inl 82)) (by decide +kernel) b82
  · exact hd_gi (x := .inr (.inl 105)) (by decide +kernel) t105
  · exact hd_gi (x := .inr (.inl 106)) (by decide +kernel) t106
theorem j0svt_46 {Ls : Nat} {xs : Nat → Int32} {d : Nat} {Q : Option Value → jm_h → Prop} (hd : 1 ≤ d) (F : Nat → sy_d) (X1 X2 : List jm_c) (hB : iv_in F iv_B0)
    (a82 : 0 ≤ (sy_i F 82).toInt ∧ (sy_i F 82).toInt ≤ 2340)
    (a83 : 3 ≤ (sy_i F 83).toInt ∧ (sy_i F 83).toInt ≤ 2392)
    (a84 : 0 ≤ (sy_i F 84).toInt ∧ (sy_i F 84).toInt ≤ 7)
    (k0 : 7 ≤ (sy_i F 84).toInt → ∀ F1 : Nat → sy_d, iv_in F1 iv_B0 → (∀ j, j < 82 → j ∉ ([76] : List Nat) → F1 j = F j) → sy_ai F1 76 = jm_cpy (sy_ai F 61) (jm_cpy (sy_ai F 60) (sy_ai F 76) (0 : Int).toNat ((sy_i F 83).toInt).toNat (4 : Int).toNat) (0 : Int).toNat (((sy_i F 83).toInt + 4)).toNat (4 : Int).toNat → Q (none) (sy_dh F1 X1 X2 (iv_H 0)))
    (k1 : (sy_i F 84).toInt < 7 → ∀ F1 : Nat → sy_d, iv_in F1 iv_B0 → (∀ j, j < 82 → j ∉ ([76] : List Nat) → F1 j = F j) → sy_ai F1 76 = jm_upd (jm_upd (jm_upd (jm_upd (jm_upd (jm_upd (jm_upd (sy_ai F 76) ((sy_i F 83).toInt).toNat ((sy_ai F 53).getD ((sy_i F 84).toInt).toNat 0)) (((sy_i F 83).toInt + 1)).toNat ((sy_ai F 54).getD ((sy_i F 84).toInt).toNat 0)) (((sy_i F 83).toInt + 2)).toNat ((sy_ai F 55).getD ((sy_i F 84).toInt).toNat 0)) (((sy_i F 83).toInt + 3)).toNat ((sy_ai F 56).getD ((sy_i F 84).toInt).toNat 0)) (((sy_i F 83).toInt + 4)).toNat ((sy_ai F 57).getD ((sy_i F 84).toInt).toNat 0)) (((sy_i F 83).toInt + 5)).toNat ((sy_ai F 58).getD ((sy_i F 84).toInt).toNat 0)) (((sy_i F 83).toInt + 6)).toNat ((sy_ai F 59).getD ((sy_i F 84).toInt).toNat 0) → (sy_i F1 82).toInt = (sy_i F 82).toInt → sy_i F1 82 = sy_i F 82 → (sy_i F1 83).toInt = ((sy_i F 83).toInt + 7) → sy_i F1 83 = (sy_i F 83) + ((7 : Int32)) → (sy_i F1 84).toInt = ((sy_i F 84).toInt + 1) → sy_i F1 84 = (sy_i F 84) + ((1 : Int32)) → hd_W Ls xs d jm_M9 Q (46, sy_dL F1 [some (.inl (.ref 46)), some (.inl (.ref 67)), some (.inr (.inl 82)), some (.inr (.inl 83)), some (.inr (.inl 84))], sy_dS F1 [], sy_dh F1 X1 X2 (iv_H 0), 0, 0)) :
    hd_W Ls xs d jm_M9 Q (46, sy_dL F [some (.inl (.ref 46)), some (.inl (.ref 67)), some (.inr (.inl 82)), some (.inr (.inl 83)), some (.inr (.inl 84))], sy_dS F [], sy_dh F X1 X2 (iv_H 0), 0, 0) := by
  by_cases g0 : 7 ≤ (sy_i F 84).toInt
  · have n86 : nzI ((sy_i F 83) + ((4 : Int32))) (((sy_i F 83).toInt + 4)) := nz_add (rfl : (sy_i F 83).toInt = (sy_i F 83).toInt) (by decide : ((4 : Int32)).toInt = 4) (by omega) (by omega)
    have w87 : jm_cpy (sy_ai F 61) (jm_cpy (sy_ai F 60) (sy_ai F 76) ((0 : Int32)).toNatClampNeg (sy_i F 83).toNatClampNeg ((4 : Int32)).toNatClampNeg) ((0 : Int32)).toNatClampNeg ((sy_i F 83) + ((4 : Int32))).toNatClampNeg ((4 : Int32)).toNatClampNeg = jm_cpy (sy_ai F 61) (jm_cpy (sy_ai F 60) (sy_ai F 76) (0 : Int).toNat ((sy_i F 83).toInt).toNat (4 : Int).toNat) (0 : Int).toNat (((sy_i F 83).toInt + 4)).toNat (4 : Int).toNat := by simp only [nz_c, (nzE n86), (by decide : ((0 : Int32)).toInt = 0), (by decide : ((4 : Int32)).toInt = 4)]
    exact j0svt_46_p0 hd F X1 X2 hB (by first | exact g0 | (simp only [nz_c]; exact g0)) (by first | exact ⟨by omega, by omega⟩ | (simp only [nz_c]; exact ⟨by omega, by omega⟩)) (by first | (simp only [nz_c, (nzE n86)]; exact ⟨by omega, by omega⟩) | exact ⟨by omega, by omega⟩ | (rw [(nzE n86)]; exact ⟨by omega, by omega⟩)) (fun F1 g e76 => k0 g0 F1 (nz_in0 hB [76] (fun j hj hn => g j hj (by simp only [List.mem_cons, List.not_mem_nil, or_false, not_or] at hn; omega)) (List.forall_mem_cons.mpr ⟨fun t ht => (Option.some.inj ht) ▸ (nz_hz2 e76), List.forall_mem_nil _⟩)) (fun j hj hn => g j hj (by simp only [List.mem_cons, List.not_mem_nil, or_false, not_or] at hn; omega)) ((zz_ai e76).trans w87))
  replace g0 : (sy_i F 84).toInt < 7 := by omega
  have n87 : nzI ((sy_i F 83) + ((1 : Int32))) (((sy_i F 83).toInt + 1)) := nz_add (rfl : (sy_i F 83).toInt = (sy_i F 83).toInt) (by decide : ((1 : Int32)).toInt = 1) (by omega) (by omega)
  have n90 : nzI ((sy_i F 83) + ((2 : Int32))) (((sy_i F 83).toInt + 2)) := nz_add (rfl : (sy_i F 83).toInt = (sy_i F 83).toInt) (by decide : ((2 : Int32)).toInt = 2) (by omega) (by omega)
  have n93 : nzI ((sy_i F 83) + ((3 : Int32))) (((sy_i F 83).toInt + 3)) := nz_add (rfl : (sy_i F 83).toInt = (sy_i F 83).toInt) (by decide : ((3 : Int32)).toInt = 3) (by omega) (by omega)
  have n96 : nzI ((sy_i F 83) + ((4 : Int32))) (((sy_i F 83).toInt + 4)) := nz_add (rfl : (sy_i F 83).toInt = (sy_i F 83).toInt) (by decide : ((4 : Int32)).toInt = 4) (by omega) (by omega)
  have n99 : nzI ((sy_i F 83) + ((5 : Int32))) (((sy_i F 83).toInt + 5)) := nz_add (rfl : (sy_i F 83).toInt = (sy_i F 83).toInt) (by decide : ((5 : Int32)).toInt = 5) (by omega) (by omega)
  have n102 : nzI ((sy_i F 83) + ((6 : Int32))) (((sy_i F 83).toInt + 6)) := nz_add (rfl : (sy_i F 83).toInt = (sy_i F 83).toInt) (by decide : ((6 : Int32)).toInt = 6) (by omega) (by omega)
  have w104 : jm_upd (jm_upd (jm_upd (jm_upd (jm_upd (jm_upd (jm_upd (sy_ai F 76) (sy_i F 83).toNatClampNeg ((sy_ai F 53).getD (sy_i F 84).toNatClampNeg 0)) ((sy_i F 83) + ((1 : Int32))).toNatClampNeg ((sy_ai F 54).getD (sy_i F 84).toNatClampNeg 0)) ((sy_i F 83) + ((2 : Int32))).toNatClampNeg ((sy_ai F 55).getD (sy_i F 84).toNatClampNeg 0)) ((sy_i F 83) + ((3 : Int32))).toNatClampNeg ((sy_ai F 56).getD (sy_i F 84).toNatClampNeg 0)) ((sy_i F 83) + ((4 : Int32))).toNatClampNeg ((sy_ai F 57).getD (sy_i F 84).toNatClampNeg 0)) ((sy_i F 83) + ((5 : Int32))).toNatClampNeg ((sy_ai F 58).getD (sy_i F 84).toNatClampNeg 0)) ((sy_i F 83) + ((6 : Int32))).toNatClampNeg ((sy_ai F 59).getD (sy_i F 84).toNatClampNeg 0) = jm_upd (jm_upd (jm_upd (jm_upd (jm_upd (jm_upd (jm_upd (sy_ai F 76) ((sy_i F 83).toInt).toNat ((sy_ai F 53).getD ((sy_i F 84).toInt).toNat 0)) (((sy_i F 83).toInt + 1)).toNat ((sy_ai F 54).getD ((sy_i F 84).toInt).toNat 0)) (((sy_i F 83).toInt + 2)).toNat ((sy_ai F 55).getD ((sy_i F 84).toInt).toNat 0)) (((sy_i F 83).toInt + 3)).toNat ((sy_ai F 56).getD ((sy_i F 84).toInt).toNat 0)) (((sy_i F 83).toInt + 4)).toNat ((sy_ai F 57).getD ((sy_i F 84).toInt).toNat 0)) (((sy_i F 83).toInt + 5)).toNat ((sy_ai F 58).getD ((sy_i F 84).toInt).toNat 0)) (((sy_i F 83).toInt + 6)).toNat ((sy_ai F 59).getD ((sy_i F 84).toInt).toNat 0) := by simp only [nz_c, (nzE n87), (nzE n90), (nzE n93), (nzE n96), (nzE n99), (nzE n102), (by decide : ((1 : Int32)).toInt = 1), (by decide : ((2 : Int32)).toInt = 2), (by decide : ((3 : Int32)).toInt = 3), (by decide : ((4 : Int32)).toInt = 4), (by decide : ((5 : Int32)).toInt = 5), (by decide : ((6 : Int32)).toInt = 6)]
  have n105 : nzI ((sy_i F 83) + ((7 : Int32))) (((sy_i F 83).toInt + 7)) := nz_add (rfl : (sy_i F 83).toInt = (sy_i F 83).toInt) (by decide : ((7 : Int32)).toInt = 7) (by omega) (by omega)
  have n106 : nzI ((sy_i F 84) + ((1 : Int32))) (((sy_i F 84).toInt + 1)) := nz_add (rfl : (sy_i F 84).toInt = (sy_i F 84).toInt) (by decide : ((1 : Int32)).toInt = 1) (by omega) (by omega)
  exact j0svt_46_p1 hd F X1 X2 hB (by first | exact g0 | (simp only [nz_c]; exact g0)) (by first | exact ⟨by omega, by omega⟩ | (simp only [nz_c]; exact ⟨by omega, by omega⟩)) (by first | exact ⟨by omega, by omega⟩ | (simp only [nz_c]; exact ⟨by omega, by omega⟩)) (by first | exact ⟨by omega, by omega⟩ | (simp only [nz_c]; exact ⟨by omega, by omega⟩)) (by first | (simp only [nz_c, (nzE n87)]; exact ⟨by omega, by omega⟩) | exact ⟨by omega, by omega⟩ | (rw [(nzE n87)]; exact ⟨by omega, by omega⟩)) (by first | exact ⟨by omega, by omega⟩ | (simp only [nz_c]; exact ⟨by omega, by omega⟩)) (by first | (simp only [nz_c, (nzE n90)]; exact ⟨by omega, by omega⟩) | exact ⟨by omega, by omega⟩ | (rw [(nzE n90)]; exact ⟨by omega, by omega⟩)) (by first | exact ⟨by omega, by omega⟩ | (simp only [nz_c]; exact ⟨by omega, by omega⟩)) (by first | (simp only [nz_c, (nzE n93)]; exact ⟨by omega, by omega⟩) | exact ⟨by omega, by omega⟩ | (rw [(nzE n93)]; exact ⟨by omega, by omega⟩)) (by first | exact ⟨by omega, by omega⟩ | (simp only [nz_c]; exact ⟨by omega, by omega⟩)) (by first | (simp only [nz_c, (nzE n96)]; exact ⟨by omega, by omega⟩) | exact ⟨by omega, by omega⟩ | (rw [(nzE n96)]; exact ⟨by omega, by omega⟩)) (by first | exact ⟨by omega, by omega⟩ | (simp only [nz_c]; exact ⟨by omega, by omega⟩)) (by first | (simp only [nz_c, (nzE n99)]; exact ⟨by omega, by omega⟩) | exact ⟨by omega, by omega⟩ | (rw [(nzE n99)]; exact ⟨by omega, by omega⟩)) (by first | exact ⟨by omega, by omega⟩ | (simp only [nz_c]; exact ⟨by omega, by omega⟩)) (by first | (simp only [nz_c, (nzE n102)]; exact ⟨by omega, by omega⟩) | exact ⟨by omega, by omega⟩ | (rw [(nzE n102)]; exact ⟨by omega, by omega⟩)) (fun F1 g e76 e82 e83 e84 => k1 g0 F1 (nz_in0 hB [76] (fun j hj hn => g j hj (by simp only [List.mem_cons, List.not_mem_nil, or_false, not_or] at hn; omega)) (List.forall_mem_cons.mpr ⟨fun t ht => (Option.some.inj ht) ▸ (nz_hz2 e76), List.forall_mem_nil _⟩)) (fun j hj hn => g j hj (by simp only [List.mem_cons, List.not_mem_nil, or_false, not_or] at hn; omega)) ((zz_ai e76).trans w104) ((congrArg Int32.toInt (zz_i e82)).trans (rfl : (sy_i F 82).toInt = (sy_i F 82).toInt)) ((zz_i e82).trans (rfl : sy_i F 82 = sy_i F 82)) ((congrArg Int32.toInt (zz_i e83)).trans (nzE n105)) ((zz_i e83).trans (rfl : (sy_i F 83) + ((7 : Int32)) = (sy_i F 83) + ((7 : Int32)))) ((congrArg Int32.toInt (zz_i e84)).trans (nzE n106)) ((zz_i e84).trans (rfl : (sy_i F 84) + ((1 : Int32)) = (sy_i F 84) + ((1 : Int32)))))
theorem j0ldt_0_p0 {Ls : Nat} {xs : Nat → Int32} {d : Nat} {Q : Option Value → jm_h → Prop} (hd : 1 ≤ d) (F : Nat → sy_d) (X1 X2 : List jm_c) (hB : iv_in F iv_B0)
    (h0 : 0 ≤ (sy_i F 82).toInt)
    (h1 : (sy_i F 82).toInt ≤ 2340)
    (h2 : 0 ≤ (sy_i F 82).toInt ∧ (sy_i F 82).toInt < 2400)
    (h3 : 0 ≤ ((sy_i F 82) + ((1 : Int32))).toInt ∧ ((sy_i F 82) + ((1 : Int32))).toInt < 2400)
    (h4 : 0 ≤ ((sy_i F 82) + ((2 : Int32))).toInt ∧ ((sy_i F 82) + ((2 : Int32))).toInt < 2400)
    (k : ∀ F1 : Nat → sy_d, (∀ j, j < 82 → j ≠ 50 ∧ j ≠ 51 ∧ j ≠ 52 → F1 j = F j) → F1 50 = .inl (.int ((sy_ai F 76).getD (sy_i F 82).toNatClampNeg 0)) → F1 51 = .inl (.int ((sy_ai F 76).getD ((sy_i F 82) + ((1 : Int32))).toNatClampNeg 0)) → F1 52 = .inl (.int ((sy_ai F 76).getD ((sy_i F 82) + ((2 : Int32))).toNatClampNeg 0)) → F1 82 = .inl (.int (sy_i F 82)) → F1 83 = .inl (.int ((sy_i F 82) + ((3 : Int32)))) → F1 84 = .inl (.int ((0 : Int32))) → hd_W Ls xs d jm_M10 Q (46, sy_dL F1 [some (.inl (.ref 46)), some (.inl (.ref 67)), some (.inr (.inl 82)), some (.inr (.inl 83)), some (.inr (.inl 84))], sy_dS F1 [], sy_dh F1 X1 X2 (iv_H 0), 0, 0)) :
    hd_W Ls xs d jm_M10 Q (0, sy_dL F [some (.inl (.ref 46)), some (.inl (.ref 67)), some (.inr (.inl 82)), none, none], sy_dS F [], sy_dh F X1 X2 (iv_H 0), 0, 0) := by
  refine hd_run (s := 0) (nv := 83) (pc := 46) (L := [some (.inl (.ref 46)), some (.inl (.ref 67)), some (.inr (.inl 82)), some (.inr (.inl 83)), some (.inr (.inl 84))]) (S := []) (uh := hd_ov (iv_id 0 iv_B0) [(50, .inl (.inr (.inl 83))), (51, .inl (.inr (.inl 85))), (52, .inl (.inr (.inl 87)))]) (ul := [.inl (.inr (.inl 82)), .inl (.inr (.inl 88)), .inl (.inl (.int 0))]) (f := true) (sp := [46]) (d0 := 0) (O := [false, true]) (T := [(30, [.inr (.inl 82)], [.inr (.inl 76)]), (0, [.inr (.inl 82), .inl (.int 1)], []), (30, [.inr (.inl 84)], [.inr (.inl 76)]), (0, [.inr (.inl 82), .inl (.int 2)], []), (30, [.inr (.inl 86)], [.inr (.inl 76)]), (0, [.inr (.inl 82), .inl (.int 3)], [])]) (P := [(3, .inr (.inl 82), .inl (.int 0)), (4, .inr (.inl 82), .inl (.int 2340)), (6, .inr (.inl 82), .inl (.ref 2400)), (6, .inr (.inl 84), .inl (.ref 2400)), (6, .inr (.inl 86), .inl (.ref 2400))]) jm_ok10 (by decide +kernel) (by decide +kernel) hd F X1 X2 (fun F' hF hs => ?_)
  have b82 := hd_b (F := F) (F' := F') (k := 82) (hF 82 (by decide))
  have t84 : sy_dv F' (.inr (.inl 84)) = .int ((sy_i F 82) + ((1 : Int32))) := hd_o (hs 1 _ rfl) b82 rfl rfl
  have t86 : sy_dv F' (.inr (.inl 86)) = .int ((sy_i F 82) + ((2 : Int32))) := hd_o (hs 3 _ rfl) b82 rfl rfl
  have a76 := hd_ba (F := F) (F' := F') (k := 76) (hF 76 (by decide))
  have t83 : sy_dv F' (.inr (.inl 83)) = .int ((sy_ai F 76).getD (sy_i F 82).toNatClampNeg 0) := hd_rd (hs 0 _ rfl) b82 a76
  have t85 : sy_dv F' (.inr (.inl 85)) = .int ((sy_ai F 76).getD ((sy_i F 82) + ((1 : Int32))).toNatClampNeg 0) := hd_rd (hs 2 _ rfl) t84 a76
  have t87 : sy_dv F' (.inr (.inl 87)) = .int ((sy_ai F 76).getD ((sy_i F 82) + ((2 : Int32))).toNatClampNeg 0) := hd_rd (hs 4 _ rfl) t86 a76
  have t88 : sy_dv F' (.inr (.inl 88)) = .int ((sy_i F 82) + ((3 : Int32))) := hd_o (hs 5 _ rfl) b82 rfl rfl
  have hB' : iv_in F' iv_B0 := iv_in_eq hB (fun j hj => hF j (Nat.lt_of_lt_of_le hj (by decide +kernel)))
  refine ⟨List.forall_mem_cons.mpr ⟨hd_p3 b82 rfl (by have hc : ((0) : Int32).toInt = 0 := (by decide); omega), List.forall_mem_cons.mpr ⟨hd_p4 b82 rfl (by have hc : ((2340) : Int32).toInt = 2340 := (by decide); omega), List.forall_mem_cons.mpr ⟨hd_pb b82 (by first | exact h2 | exact h2), List.forall_mem_cons.mpr ⟨hd_pb t84 (by first | exact h3 | exact h3), List.forall_mem_cons.mpr ⟨hd_pb t86 (by first | exact h4 | exact h4), fun _ h => absurd h List.not_mem_nil⟩⟩⟩⟩⟩, ?_⟩
  refine k _ ?_ ?_ ?_ ?_ ?_ ?_ ?_
  · exact fun j hj hn => (hd_keep hB' (Nat.lt_of_lt_of_le hj (by decide +kernel)) (by simp; omega)).trans (hF j (Nat.lt_of_lt_of_le hj (by decide)))
  · exact hd_gi (x := .inr (.inl 83)) (by decide +kernel) t83
  · exact hd_gi (x := .inr (.inl 85)) (by decide +kernel) t85
  · exact hd_gi (x := .inr (.inl 87)) (by decide +kernel) t87
  · exact hd_gi (x := .inr (.inl 82)) (by decide +kernel) b82
  · exact hd_gi (x := .inr (.inl 88)) (by decide +kernel) t88
  · exact hd_gi (x := .inl (.int 0)) (by decide +kernel) rfl
theorem j0ldt_0 {Ls : Nat} {xs : Nat → Int32} {d : Nat} {Q : Option Value → jm_h → Prop} (hd : 1 ≤ d) (F : Nat → sy_d) (X1 X2 : List jm_c) (hB : iv_in F iv_B0)
    (a82 : 0 ≤ (sy_i F 82).toInt ∧ (sy_i F 82).toInt ≤ 2340)
    (k0 : 0 ≤ (sy_i F 82).toInt → (sy_i F 82).toInt ≤ 2340 → ∀ F1 : Nat → sy_d, iv_in F1 iv_B0 → (∀ j, j < 82 → j ∉ ([50, 51, 52] : List Nat) → F1 j = F j) → (sy_i F1 50).toInt = ((sy_ai F 76).getD ((sy_i F 82).toInt).toNat 0).toInt → sy_i F1 50 = (sy_ai F 76).getD ((sy_i F 82).toInt).toNat 0 → (sy_i F1 51).toInt = ((sy_ai F 76).getD (((sy_i F 82).toInt + 1)).toNat 0).toInt → sy_i F1 51 = (sy_ai F 76).getD (((sy_i F 82).toInt + 1)).toNat 0 → (sy_i F1 52).toInt = ((sy_ai F 76).getD (((sy_i F 82).toInt + 2)).toNat 0).toInt → sy_i F1 52 = (sy_ai F 76).getD (((sy_i F 82).toInt + 2)).toNat 0 → (sy_i F1 82).toInt = (sy_i F 82).toInt → sy_i F1 82 = sy_i F 82 → (sy_i F1 83).toInt = ((sy_i F 82).toInt + 3) → sy_i F1 83 = (sy_i F 82) + ((3 : Int32)) → (sy_i F1 84).toInt = 0 → sy_i F1 84 = (0 : Int32) → hd_W Ls xs d jm_M10 Q (46, sy_dL F1 [some (.inl (.ref 46)), some (.inl (.ref 67)), some (.inr (.inl 82)), some (.inr (.inl 83)), some (.inr (.inl 84))], sy_dS F1 [], sy_dh F1 X1 X2 (iv_H 0), 0, 0)) :
    hd_W Ls xs d jm_M10 Q (0, sy_dL F [some (.inl (.ref 46)), some (.inl (.ref 67)), some (.inr (.inl 82)), none, none], sy_dS F [], sy_dh F X1 X2 (iv_H 0), 0, 0) := by
  by_cases g0 : (sy_i F 82).toInt < 0
  · exfalso
    omega
  replace g0 : 0 ≤ (sy_i F 82).toInt := by omega
  by_cases g1 : (sy_i F 82).toInt ≤ 2340
  · have n84 : nzI ((sy_i F 82) + ((1 : Int32))) (((sy_i F 82).toInt + 1)) := nz_add (rfl : (sy_i F 82).toInt = (sy_i F 82).toInt) (by decide : ((1 : Int32)).toInt = 1) (by omega) (by omega)
    have n86 : nzI ((sy_i F 82) + ((2 : Int32))) (((sy_i F 82).toInt + 2)) := nz_add (rfl : (sy_i F 82).toInt = (sy_i F 82).toInt) (by decide : ((2 : Int32)).toInt = 2) (by omega) (by omega)
    have q83 : (sy_ai F 76).getD (sy_i F 82).toNatClampNeg 0 = (sy_ai F 76).getD ((sy_i F 82).toInt).toNat 0 := by simp only [nz_c]
    have n83 : nzI ((sy_ai F 76).getD (sy_i F 82).toNatClampNeg 0) (((sy_ai F 76).getD ((sy_i F 82).toInt).toNat 0).toInt) := congrArg Int32.toInt q83
    have q85 : (sy_ai F 76).getD ((sy_i F 82) + ((1 : Int32))).toNatClampNeg 0 = (sy_ai F 76).getD (((sy_i F 82).toInt + 1)).toNat 0 := by simp only [nz_c, (nzE n84), (by decide : ((1 : Int32)).toInt = 1)]
    have n85 : nzI ((sy_ai F 76).getD ((sy_i F 82) + ((1 : Int32))).toNatClampNeg 0) (((sy_ai F 76).getD (((sy_i F 82).toInt + 1)).toNat 0).toInt) := congrArg Int32.toInt q85
    have q87 : (sy_ai F 76).getD ((sy_i F 82) + ((2 : Int32))).toNatClampNeg 0 = (sy_ai F 76).getD (((sy_i F 82).toInt + 2)).toNat 0 := by simp only [nz_c, (nzE n86), (by decide : ((2 : Int32)).toInt = 2)]
    have n87 : nzI ((sy_ai F 76).getD ((sy_i F 82) + ((2 : Int32))).toNatClampNeg 0) (((sy_ai F 76).getD (((sy_i F 82).toInt + 2)).toNat 0).toInt) := congrArg Int32.toInt q87
    have n88 : nzI ((sy_i F 82) + ((3 : Int32))) (((sy_i F 82).toInt + 3)) := nz_add (rfl : (sy_i F 82).toInt = (sy_i F 82).toInt) (by decide : ((3 : Int32)).toInt = 3) (by omega) (by omega)
    exact j0ldt_0_p0 hd F X1 X2 hB (by first | exact g0 | (simp only [nz_c]; exact g0)) (by first | exact g1 | (simp only [nz_c]; exact g1)) (by first | exact ⟨by omega, by omega⟩ | (simp only [nz_c]; exact ⟨by omega, by omega⟩)) (by first | (simp only [nz_c, (nzE n84)]; exact ⟨by omega, by omega⟩) | exact ⟨by omega, by omega⟩ | (rw [(nzE n84)]; exact ⟨by omega, by omega⟩)) (by first | (simp only [nz_c, (nzE n86)]; exact ⟨by omega, by omega⟩) | exact ⟨by omega, by omega⟩ | (rw [(nzE n86)]; exact ⟨by omega, by omega⟩)) (fun F1 g e50 e51 e52 e82 e83 e84 => k0 g0 g1 F1 (nz_in0 hB [50, 51, 52] (fun j hj hn => g j hj (by simp only [List.mem_cons, List.not_mem_nil, or_false, not_or] at hn; omega)) (List.forall_mem_cons.mpr ⟨fun t ht => (Option.some.inj ht) ▸ (nz_hz e50), List.forall_mem_cons.mpr ⟨fun t ht => (Option.some.inj ht) ▸ (nz_hz e51), List.forall_mem_cons.mpr ⟨fun t ht => (Option.some.inj ht) ▸ (nz_hz e52), List.forall_mem_nil _⟩⟩⟩)) (fun j hj hn => g j hj (by simp only [List.mem_cons, List.not_mem_nil, or_false, not_or] at hn; omega)) ((congrArg Int32.toInt (zz_i e50)).trans (nzE n83)) ((zz_i e50).trans q83) ((congrArg Int32.toInt (zz_i e51)).trans (nzE n85)) ((zz_i e51).trans q85) ((congrArg Int32.toInt (zz_i e52)).trans (nzE n87)) ((zz_i e52).trans q87) ((congrArg Int32.toInt (zz_i e82)).trans (rfl : (sy_i F 82).toInt = (sy_i F 82).toInt)) ((zz_i e82).trans (rfl : sy_i F 82 = sy_i F 82)) ((congrArg Int32.toInt (zz_i e83)).trans (nzE n88)) ((zz_i e83).trans (rfl : (sy_i F 82) + ((3 : Int32)) = (sy_i F 82) + ((3 : Int32)))) ((congrArg Int32.toInt (zz_i e84)).trans (by decide : ((0 : Int32)).toInt = 0)) ((zz_i e84).trans (rfl : (0 : Int32) = (0 : Int32))))
  replace g1 : 2340 < (sy_i F 82).toInt := by omega
  exfalso
  omega
theorem j0ldt_46_p0 {Ls : Nat} {xs : Nat → Int32} {d : Nat} {Q : Option Value → jm_h → Prop} (hd : 1 ≤ d) (F : Nat → sy_d) (X1 X2 : List jm_c) (hB : iv_in F iv_B0)
    (h0 : 7 ≤ (sy_i F 84).toInt)
    (h1 : 0 ≤ (sy_i F 83).toInt ∧ (sy_i F 83).toInt < 2397)
    (h2 : 0 ≤ ((sy_i F 83) + ((4 : Int32))).toInt ∧ ((sy_i F 83) + ((4 : Int32))).toInt < 2397)
    (k : ∀ F1 : Nat → sy_d, (∀ j, j < 82 → j ≠ 60 ∧ j ≠ 61 → F1 j = F j) → F1 60 = .inr (.inl (jm_cpy (sy_ai F 76) (sy_ai F 60) (sy_i F 83).toNatClampNeg ((0 : Int32)).toNatClampNeg ((4 : Int32)).toNatClampNeg)) → F1 61 = .inr (.inl (jm_cpy (sy_ai F 76) (sy_ai F 61) ((sy_i F 83) + ((4 : Int32))).toNatClampNeg ((0 : Int32)).toNatClampNeg ((4 : Int32)).toNatClampNeg)) → Q (none) (sy_dh F1 X1 X2 (iv_H 0))) :
    hd_W Ls xs d jm_M10 Q (46, sy_dL F [some (.inl (.ref 46)), some (.inl (.ref 67)), some (.inr (.inl 82)), some (.inr (.inl 83)), some (.inr (.inl 84))], sy_dS F [], sy_dh F X1 X2 (iv_H 0), 0, 0) := by
  refine hd_ret (s := 0) (nv := 85) (v := none) (uh := hd_ov (iv_id 0 iv_B0) [(60, .inr (.inr (.inl 85))), (61, .inr (.inr (.inl 87)))]) (f := true) (sp := [46]) (d0 := 0) (O := [true]) (T := [(42, [.inr (.inl 83), .inl (.int 0), .inl (.int 4)], [.inr (.inl 76), .inr (.inl 60)]), (0, [.inr (.inl 83), .inl (.int 4)], []), (42, [.inr (.inl 86), .inl (.int 0), .inl (.int 4)], [.inr (.inl 76), .inr (.inl 61)])]) (P := [(4, .inl (.int 7), .inr (.inl 84)), (6, .inr (.inl 83), .inl (.ref 2397)), (6, .inr (.inl 86), .inl (.ref 2397))]) jm_ok10 (by decide +kernel) (by decide +kernel) hd F X1 X2 (fun F' hF hs => ?_)
  have b84 := hd_b (F := F) (F' := F') (k := 84) (hF 84 (by decide))
  have b83 := hd_b (F := F) (F' := F') (k := 83) (hF 83 (by decide))
  have t86 : sy_dv F' (.inr (.inl 86)) = .int ((sy_i F 83) + ((4 : Int32))) := hd_o (hs 1 _ rfl) b83 rfl rfl
  have a76 := hd_ba (F := F) (F' := F') (k := 76) (hF 76 (by decide))
  have a60 := hd_ba (F := F) (F' := F') (k := 60) (hF 60 (by decide))
  have t85 : sy_da F' (.inr (.inl 85)) = .inl (jm_cpy (sy_ai F 76) (sy_ai F 60) (sy_i F 83).toNatClampNeg ((0 : Int32)).toNatClampNeg ((4 : Int32)).toNatClampNeg) := hd_cp (hs 0 _ rfl) b83 rfl rfl a76 a60
  have a61 := hd_ba (F := F) (F' := F') (k := 61) (hF 61 (by decide))
  have t87 : sy_da F' (.inr (.inl 87)) = .inl (jm_cpy (sy_ai F 76) (sy_ai F 61) ((sy_i F 83) + ((4 : Int32))).toNatClampNeg ((0 : Int32)).toNatClampNeg ((4 : Int32)).toNatClampNeg) := hd_cp (hs 2 _ rfl) t86 rfl rfl a76 a61
  have hB' : iv_in F' iv_B0 := iv_in_eq hB (fun j hj => hF j (Nat.lt_of_lt_of_le hj (by decide +kernel)))
  refine ⟨List.forall_mem_cons.mpr ⟨hd_p4 rfl b84 (by have hc : ((7) : Int32).toInt = 7 := (by decide); omega), List.forall_mem_cons.mpr ⟨hd_pb b83 (by first | exact h1 | exact h1), List.forall_mem_cons.mpr ⟨hd_pb t86 (by first | exact h2 | exact h2), fun _ h => absurd h List.not_mem_nil⟩⟩⟩, ?_⟩
  refine k _ ?_ ?_ ?_
  · exact fun j hj hn => (hd_keep hB' (Nat.lt_of_lt_of_le hj (by decide +kernel)) (by simp; omega)).trans (hF j (Nat.lt_of_lt_of_le hj (by decide)))
  · exact hd_ga (a := .inr (.inl 85)) (by decide +kernel) t85
  · exact hd_ga (a := .inr (.inl 87)) (by decide +kernel) t87
theorem j0ldt_46_p1 {Ls : Nat} {xs : Nat → Int32} {d : Nat} {Q : Option Value → jm_h → Prop} (hd : 1 ≤ d) (F : Nat → sy_d) (X1 X2 : List jm_c) (hB : iv_in F iv_B0)
    (h0 : (sy_i F 84).toInt < 7)
    (h1 : 0 ≤ (sy_i F 83).toInt ∧ (sy_i F 83).toInt < 2400)
    (h2 : 0 ≤ (sy_i F 84).toInt ∧ (sy_i F 84).toInt < 7)
    (h3 : 0 ≤ ((sy_i F 83) + ((1 : Int32))).toInt ∧ ((sy_i F 83) + ((1 : Int32))).toInt < 2400)
    (h4 : 0 ≤ (sy_i F 84).toInt ∧ (sy_i F 84).toInt < 7)
    (h5 : 0 ≤ ((sy_i F 83) + ((2 : Int32))).toInt ∧ ((sy_i F 83) + ((2 : Int32))).toInt < 2400)
    (h6 : 0 ≤ (sy_i F 84).toInt ∧ (sy_i F 84).toInt < 7)
    (h7 : 0 ≤ ((sy_i F 83) + ((3 : Int32))).toInt ∧ ((sy_i F 83) + ((3 : Int32))).toInt < 2400)
    (h8 : 0 ≤ (sy_i F 84).toInt ∧ (sy_i F 84).toInt < 7)
    (h9 : 0 ≤ ((sy_i F 83) + ((4 : Int32))).toInt ∧ ((sy_i F 83) + ((4 : Int32))).toInt < 2400)
    (h10 : 0 ≤ (sy_i F 84).toInt ∧ (sy_i F 84).toInt < 7)
    (h11 : 0 ≤ ((sy_i F 83) + ((5 : Int32))).toInt ∧ ((sy_i F 83) + ((5 : Int32))).toInt < 2400)
    (h12 : 0 ≤ (sy_i F 84).toInt ∧ (sy_i F 84).toInt < 7)
    (h13 : 0 ≤ ((sy_i F 83) + ((6 : Int32))).toInt ∧ ((sy_i F 83) + ((6 : Int32))).toInt < 2400)
    (h14 : 0 ≤ (sy_i F 84).toInt ∧ (sy_i F 84).toInt < 7)
    (k : ∀ F1 : Nat → sy_d, (∀ j, j < 82 → j ≠ 53 ∧ j ≠ 54 ∧ j ≠ 55 ∧ j ≠ 56 ∧ j ≠ 57 ∧ j ≠ 58 ∧ j ≠ 59 → F1 j = F j) → F1 53 = .inr (.inl (jm_upd (sy_ai F 53) (sy_i F 84).toNatClampNeg ((sy_ai F 76).getD (sy_i F 83).toNatClampNeg 0))) → F1 54 = .inr (.inl (jm_upd (sy_ai F 54) (sy_i F 84).toNatClampNeg ((sy_ai F 76).getD ((sy_i F 83) + ((1 : Int32))).toNatClampNeg 0))) → F1 55 = .inr (.inl (jm_upd (sy_ai F 55) (sy_i F 84).toNatClampNeg ((sy_ai F 76).getD ((sy_i F 83) + ((2 : Int32))).toNatClampNeg 0))) → F1 56 = .inr (.inl (jm_upd (sy_ai F 56) (sy_i F 84).toNatClampNeg ((sy_ai F 76).getD ((sy_i F 83) + ((3 : Int32))).toNatClampNeg 0))) → F1 57 = .inr (.inl (jm_upd (sy_ai F 57) (sy_i F 84).toNatClampNeg ((sy_ai F 76).getD ((sy_i F 83) + ((4 : Int32))).toNatClampNeg 0))) → F1 58 = .inr (.inl (jm_upd (sy_ai F 58) (sy_i F 84).toNatClampNeg ((sy_ai F 76).getD ((sy_i F 83) + ((5 : Int32))).toNatClampNeg 0))) → F1 59 = .inr (.inl (jm_upd (sy_ai F 59) (sy_i F 84).toNatClampNeg ((sy_ai F 76).getD ((sy_i F 83) + ((6 : Int32))).toNatClampNeg 0))) → F1 82 = .inl (.int (sy_i F 82)) → F1 83 = .inl (.int ((sy_i F 83) + ((7 : Int32)))) → F1 84 = .inl (.int ((sy_i F 84) + ((1 : Int32)))) → hd_W Ls xs d jm_M10 Q (46, sy_dL F1 [some (.inl (.ref 46)), some (.inl (.ref 67)), some (.inr (.inl 82)), some (.inr (.inl 83)), some (.inr (.inl 84))], sy_dS F1 [], sy_dh F1 X1 X2 (iv_H 0), 0, 0)) :
    hd_W Ls xs d jm_M10 Q (46, sy_dL F [some (.inl (.ref 46)), some (.inl (.ref 67)), some (.inr (.inl 82)), some (.inr (.inl 83)), some (.inr (.inl 84))], sy_dS F [], sy_dh F X1 X2 (iv_H 0), 0, 0) := by
  refine hd_run (s := 0) (nv := 85) (pc := 46) (L := [some (.inl (.ref 46)), some (.inl (.ref 67)), some (.inr (.inl 82)), some (.inr (.inl 83)), some (.inr (.inl 84))]) (S := []) (uh := hd_ov (iv_id 0 iv_B0) [(53, .inr (.inr (.inl 86))), (54, .inr (.inr (.inl 89))), (55, .inr (.inr (.inl 92))), (56, .inr (.inr (.inl 95))), (57, .inr (.inr (.inl 98))), (58, .inr (.inr (.inl 101))), (59, .inr (.inr (.inl 104)))]) (ul := [.inl (.inr (.inl 82)), .inl (.inr (.inl 105)), .inl (.inr (.inl 106))]) (f := true) (sp := [46]) (d0 := 0) (O := [false]) (T := [(30, [.inr (.inl 83)], [.inr (.inl 76)]), (40, [.inr (.inl 84), .inr (.inl 85)], [.inr (.inl 53)]), (0, [.inr (.inl 83), .inl (.int 1)], []), (30, [.inr (.inl 87)], [.inr (.inl 76)]), (40, [.inr (.inl 84), .inr (.inl 88)], [.inr (.inl 54)]), (0, [.inr (.inl 83), .inl (.int 2)], []), (30, [.inr (.inl 90)], [.inr (.inl 76)]), (40, [.inr (.inl 84), .inr (.inl 91)], [.inr (.inl 55)]), (0, [.inr (.inl 83), .inl (.int 3)], []), (30, [.inr (.inl 93)], [.inr (.inl 76)]), (40, [.inr (.inl 84), .inr (.inl 94)], [.inr (.inl 56)]), (0, [.inr (.inl 83), .inl (.int 4)], []), (30, [.inr (.inl 96)], [.inr (.inl 76)]), (40, [.inr (.inl 84), .inr (.inl 97)], [.inr (.inl 57)]), (0, [.inr (.inl 83), .inl (.int 5)], []), (30, [.inr (.inl 99)], [.inr (.inl 76)]), (40, [.inr (.inl 84), .inr (.inl 100)], [.inr (.inl 58)]), (0, [.inr (.inl 83), .inl (.int 6)], []), (30, [.inr (.inl 102)], [.inr (.inl 76)]), (40, [.inr (.inl 84), .inr (.inl 103)], [.inr (.inl 59)]), (0, [.inr (.inl 83), .inl (.int 7)], []), (0, [.inr (.inl 84), .inl (.int 1)], [])]) (P := [(5, .inl (.int 7), .inr (.inl 84)), (6, .inr (.inl 83), .inl (.ref 2400)), (6, .inr (.inl 84), .inl (.ref 7)), (6, .inr (.inl 87), .inl (.ref 2400)), (6, .inr (.inl 84), .inl (.ref 7)), (6, .inr (.inl 90), .inl (.ref 2400)), (6, .inr (.inl 84), .inl (.ref 7)), (6, .inr (.inl 93), .inl (.ref 2400)), (6, .inr (.inl 84), .inl (.ref 7)), (6, .inr (.inl 96), .inl (.ref 2400)), (6, .inr (.inl 84), .inl (.ref 7)), (6, .inr (.inl 99), .inl (.ref 2400)), (6, .inr (.inl 84), .inl (.ref 7)), (6, .inr (.inl 102), .inl (.ref 2400)), (6, .inr (.inl 84), .inl (.ref 7))]) jm_ok10 (by decide +kernel) (by decide +kernel) hd F X1 X2 (fun F' hF hs => ?_)
  have b84 := hd_b (F := F) (F' := F') (k := 84) (hF 84 (by decide))
  have b83 := hd_b (F := F) (F' := F') (k := 83) (hF 83 (by decide))
  have t87 : sy_dv F' (.inr (.inl 87)) = .int ((sy_i F 83) + ((1 : Int32))) := hd_o (hs 2 _ rfl) b83 rfl rfl
  have t90 : sy_dv F' (.inr (.inl 90)) = .int ((sy_i F 83) + ((2 : Int32))) := hd_o (hs 5 _ rfl) b83 rfl rfl
  have t93 : sy_dv F' (.inr (.inl 93)) = .int ((sy_i F 83) + ((3 : Int32))) := hd_o (hs 8 _ rfl) b83 rfl rfl
  have t96 : sy_dv F' (.inr (.inl 96)) = .int ((sy_i F 83) + ((4 : Int32))) := hd_o (hs 11 _ rfl) b83 rfl rfl
  have t99 : sy_dv F' (.inr (.inl 99)) = .int ((sy_i F 83) + ((5 : Int32))) := hd_o (hs 14 _ rfl) b83 rfl rfl
  have t102 : sy_dv F' (.inr (.inl 102)) = .int ((sy_i F 83) + ((6 : Int32))) := hd_o (hs 17 _ rfl) b83 rfl rfl
  have a76 := hd_ba (F := F) (F' := F') (k := 76) (hF 76 (by decide))
  have t85 : sy_dv F' (.inr (.inl 85)) = .int ((sy_ai F 76).getD (sy_i F 83).toNatClampNeg 0) := hd_rd (hs 0 _ rfl) b83 a76
  have a53 := hd_ba (F := F) (F' := F') (k := 53) (hF 53 (by decide))
  have t86 : sy_da F' (.inr (.inl 86)) = .inl (jm_upd (sy_ai F 53) (sy_i F 84).toNatClampNeg ((sy_ai F 76).getD (sy_i F 83).toNatClampNeg 0)) := hd_up (hs 1 _ rfl) b84 t85 a53
  have t88 : sy_dv F' (.inr (.inl 88)) = .int ((sy_ai F 76).getD ((sy_i F 83) + ((1 : Int32))).toNatClampNeg 0) := hd_rd (hs 3 _ rfl) t87 a76
  have a54 := hd_ba (F := F) (F' := F') (k := 54) (hF 54 (by decide))
  have t89 : sy_da F' (.inr (.inl 89)) = .inl (jm_upd (sy_ai F 54) (sy_i F 84).toNatClampNeg ((sy_ai F 76).getD ((sy_i F 83) + ((1 : Int32))).toNatClampNeg 0)) := hd_up (hs 4 _ rfl) b84 t88 a54
  have t91 : sy_dv F' (.inr (.inl 91)) = .int ((sy_ai F 76).getD ((sy_i F 83) + ((2 : Int32))).toNatClampNeg 0) := hd_rd (hs 6 _ rfl) t90 a76
  have a55 := hd_ba (F := F) (F' := F') (k := 55) (hF 55 (by decide))
  have t92 : sy_da F' (.inr (.inl 92)) = .inl (jm_upd (sy_ai F 55) (sy_i F 84).toNatClampNeg ((sy_ai F 76).getD ((sy_i F 83) + ((2 : Int32))).toNatClampNeg 0)) := hd_up (hs 7 _ rfl) b84 t91 a55
  have t94 : sy_dv F' (.inr (.inl 94)) = .int ((sy_ai F 76).getD ((sy_i F 83) + ((3 : Int32))).toNatClampNeg 0) := hd_rd (hs 9 _ rfl) t93 a76
  have a56 := hd_ba (F := F) (F' := F') (k := 56) (hF 56 (by decide))
  have t95 : sy_da F' (.inr (.inl 95)) = .inl (jm_upd (sy_ai F 56) (sy_i F 84).toNatClampNeg ((sy_ai F 76).getD ((sy_i F 83) + ((3 : Int32))).toNatClampNeg 0)) := hd_up (hs 10 _ rfl) b84 t94 a56
  have t97 : sy_dv F' (.inr (.inl 97)) = .int ((sy_ai F 76).getD ((sy_i F 83) + ((4 : Int32))).toNatClampNeg 0) := hd_rd (hs 12 _ rfl) t96 a76
  have a57 := hd_ba (F := F) (F' := F') (k := 57) (hF 57 (by decide))
  have t98 : sy_da F' (.inr (.inl 98)) = .inl (jm_upd (sy_ai F 57) (sy_i F 84).toNatClampNeg ((sy_ai F 76).getD ((sy_i F 83) + ((4 : Int32))).toNatClampNeg 0)) := hd_up (hs 13 _ rfl) b84 t97 a57
  have t100 : sy_dv F' (.inr (.inl 100)) = .int ((sy_ai F 76).getD ((sy_i F 83) + ((5 : Int32))).toNatClampNeg 0) := hd_rd (hs 15 _ rfl) t99 a76
  have a58 := hd_ba (F := F) (F' := F') (k := 58) (hF 58 (by decide))
  have t101 : sy_da F' (.inr (.inl 101)) = .inl (jm_upd (sy_ai F 58) (sy_i F 84).toNatClampNeg ((sy_ai F 76).getD ((sy_i F 83) + ((5 : Int32))).toNatClampNeg 0)) := hd_up (hs 16 _ rfl) b84 t100 a58
  have t103 : sy_dv F' (.inr (.inl 103)) = .int ((sy_ai F 76).getD ((sy_i F 83) + ((6 : Int32))).toNatClampNeg 0) := hd_rd (hs 18 _ rfl) t102 a76
  have a59 := hd_ba (F := F) (F' := F') (k := 59) (hF 59 (by decide))
  have t104 : sy_da F' (.inr (.inl 104)) = .inl (jm_upd (sy_ai F 59) (sy_i F 84).toNatClampNeg ((sy_ai F 76).getD ((sy_i F 83) + ((6 : Int32))).toNatClampNeg 0)) := hd_up (hs 19 _ rfl) b84 t103 a59
  have b82 := hd_b (F := F) (F' := F') (k := 82) (hF 82 (by decide))
  have t105 : sy_dv F' (.inr (.inl 105)) = .int ((sy_i F 83) + ((7 : Int32))) := hd_o (hs 20 _ rfl) b83 rfl rfl
  have t106 : sy_dv F' (.inr (.inl 106)) = .int ((sy_i F 84) + ((1 : Int32))) := hd_o (hs 21 _ rfl) b84 rfl rfl
  have hB' : iv_in F' iv_B0 := iv_in_eq hB (fun j hj => hF j (Nat.lt_of_lt_of_le hj (by decide +kernel)))
  refine ⟨List.forall_mem_cons.mpr ⟨hd_p5 rfl b84 (by have hc : ((7) : Int32).toInt = 7 := (by decide); omega), List.forall_mem_cons.mpr ⟨hd_pb b83 (by first | exact h1 | exact h1), List.forall_mem_cons.mpr ⟨hd_pb b84 (by first | exact h2 | exact h2), List.forall_mem_cons.mpr ⟨hd_pb t87 (by first | exact h3 | exact h3), List.forall_mem_cons.mpr ⟨hd_pb b84 (by first | exact h4 | exact h4), List.forall_mem_cons.mpr ⟨hd_pb t90 (by first | exact h5 | exact h5), List.forall_mem_cons.mpr ⟨hd_pb b84 (by first | exact h6 | exact h6), List.forall_mem_cons.mpr ⟨hd_pb t93 (by first | exact h7 | exact h7), List.forall_mem_cons.mpr ⟨hd_pb b84 (by first | exact h8 | exact h8), List.forall_mem_cons.mpr ⟨hd_pb t96 (by first | exact h9 | exact h9), List.forall_mem_cons.mpr ⟨hd_pb b84 (by first | exact h10 | exact h10), List.forall_mem_cons.mpr ⟨hd_pb t99 (by first | exact h11 | exact h11), List.forall_mem_cons.mpr ⟨hd_pb b84 (by first | exact h12 | exact h12), List.forall_mem_cons.mpr ⟨hd_pb t102 (by first | exact h13 | exact h13), List.forall_mem_cons.mpr ⟨hd_pb b84 (by first | exact h14 | exact h14), fun _ h => absurd h List.not_mem_nil⟩⟩⟩⟩⟩⟩⟩⟩⟩⟩⟩⟩⟩⟩⟩, ?_⟩
  refine k _ ?_ ?_ ?_ ?_ ?_ ?_ ?_ ?_ ?_ ?_ ?_
  · exact fun j hj hn => (hd_keep hB' (Nat.lt_of_lt_of_le hj (by decide +kernel)) (by simp; omega)).trans (hF j (Nat.lt_of_lt_of_le hj (by decide)))
  · exact hd_ga (a := .inr (.inl 86)) (by decide +kernel) t86
  · exact hd_ga (a := .inr (.inl 89)) (by decide +kernel) t89
  · exact hd_ga (a := .inr (.inl 92)) (by decide +kernel) t92
  · exact hd_ga (a := .inr (.inl 95)) (by decide +kernel) t95
  · exact hd_ga (a := .inr (.inl 98)) (by decide +kernel) t98
  · exact hd_ga (a := .inr (.inl 101)) (by decide +kernel) t101
  · exact hd_ga (a := .inr (.inl 104)) (by decide +kernel) t104
  · exact hd_gi (x := .inr (.inl 82)) (by decide +kernel) b82
  · exact hd_gi (x := .inr (.inl 105)) (by decide +kernel) t105
  · exact hd_gi (x := .inr (.inl 106)) (by decide +kernel) t106
theorem j0ldt_46 {Ls : Nat} {xs : Nat → Int32} {d : Nat} {Q : Option Value → jm_h → Prop} (hd : 1 ≤ d) (F : Nat → sy_d) (X1 X2 : List jm_c) (hB : iv_in F iv_B0)
    (a82 : 0 ≤ (sy_i F 82).toInt ∧ (sy_i F 82).toInt ≤ 2340)
    (a83 : 3 ≤ (sy_i F 83).toInt ∧ (sy_i F 83).toInt ≤ 2392)
    (a84 : 0 ≤ (sy_i F 84).toInt ∧ (sy_i F 84).toInt ≤ 7)
    (k0 : 7 ≤ (sy_i F 84).toInt → ∀ F1 : Nat → sy_d, iv_in F1 iv_B0 → (∀ j, j < 82 → j ∉ ([60, 61] : List Nat) → F1 j = F j) → sy_ai F1 60 = jm_cpy (sy_ai F 76) (sy_ai F 60) ((sy_i F 83).toInt).toNat (0 : Int).toNat (4 : Int).toNat → sy_ai F1 61 = jm_cpy (sy_ai F 76) (sy_ai F 61) (((sy_i F 83).toInt + 4)).toNat (0 : Int).toNat (4 : Int).toNat → Q (none) (sy_dh F1 X1 X2 (iv_H 0)))
    (k1 : (sy_i F 84).toInt < 7 → ∀ F1 : Nat → sy_d, iv_in F1 iv_B0 → (∀ j, j < 82 → j ∉ ([53, 54, 55, 56, 57, 58, 59] : List Nat) → F1 j = F j) → sy_ai F1 53 = jm_upd (sy_ai F 53) ((sy_i F 84).toInt).toNat ((sy_ai F 76).getD ((sy_i F 83).toInt).toNat 0) → sy_ai F1 54 = jm_upd (sy_ai F 54) ((sy_i F 84).toInt).toNat ((sy_ai F 76).getD (((sy_i F 83).toInt + 1)).toNat 0) → sy_ai F1 55 = jm_upd (sy_ai F 55) ((sy_i F 84).toInt).toNat ((sy_ai F 76).getD (((sy_i F 83).toInt + 2)).toNat 0) → sy_ai F1 56 = jm_upd (sy_ai F 56) ((sy_i F 84).toInt).toNat ((sy_ai F 76).getD (((sy_i F 83).toInt + 3)).toNat 0) → sy_ai F1 57 = jm_upd (sy_ai F 57) ((sy_i F 84).toInt).toNat ((sy_ai F 76).getD (((sy_i F 83).toInt + 4)).toNat 0) → sy_ai F1 58 = jm_upd (sy_ai F 58) ((sy_i F 84).toInt).toNat ((sy_ai F 76).getD (((sy_i F 83).toInt + 5)).toNat 0) → sy_ai F1 59 = jm_upd (sy_ai F 59) ((sy_i F 84).toInt).toNat ((sy_ai F 76).getD (((sy_i F 83).toInt + 6)).toNat 0) → (sy_i F1 82).toInt = (sy_i F 82).toInt → sy_i F1 82 = sy_i F 82 → (sy_i F1 83).toInt = ((sy_i F 83).toInt + 7) → sy_i F1 83 = (sy_i F 83) + ((7 : Int32)) → (sy_i F1 84).toInt = ((sy_i F 84).toInt + 1) → sy_i F1 84 = (sy_i F 84) + ((1 : Int32)) → hd_W Ls xs d jm_M10 Q (46, sy_dL F1 [some (.inl (.ref 46)), some (.inl (.ref 67)), some (.inr (.inl 82)), some (.inr (.inl 83)), some (.inr (.inl 84))], sy_dS F1 [], sy_dh F1 X1 X2 (iv_H 0), 0, 0)) :
    hd_W Ls xs d jm_M10 Q (46, sy_dL F [some (.inl (.ref 46)), some (.inl (.ref 67)), some (.inr (.inl 82)), some (.inr (.inl 83)), some (.inr (.inl 84))], sy_dS F [], sy_dh F X1 X2 (iv_H 0), 0, 0) := by
  by_cases g0 : 7 ≤ (sy_i F 84).toInt
  · have n86 : nzI ((sy_i F 83) + ((4 : Int32))) (((sy_i F 83).toInt + 4)) := nz_add (rfl : (sy_i F 83).toInt = (sy_i F 83).toInt) (by decide : ((4 : Int32)).toInt = 4) (by omega) (by omega)
    have w85 : jm_cpy (sy_ai F 76) (sy_ai F 60) (sy_i F 83).toNatClampNeg ((0 : Int32)).toNatClampNeg ((4 : Int32)).toNatClampNeg = jm_cpy (sy_ai F 76) (sy_ai F 60) ((sy_i F 83).toInt).toNat (0 : Int).toNat (4 : Int).toNat := by simp only [nz_c, (by decide : ((0 : Int32)).toInt = 0), (by decide : ((4 : Int32)).toInt = 4)]
    have w87 : jm_cpy (sy_ai F 76) (sy_ai F 61) ((sy_i F 83) + ((4 : Int32))).toNatClampNeg ((0 : Int32)).toNatClampNeg ((4 : Int32)).toNatClampNeg = jm_cpy (sy_ai F 76) (sy_ai F 61) (((sy_i F 83).toInt + 4)).toNat (0 : Int).toNat (4 : Int).toNat := by simp only [nz_c, (nzE n86), (by decide : ((0 : Int32)).toInt = 0), (by decide : ((4 : Int32)).toInt = 4)]
    exact j0ldt_46_p0 hd F X1 X2 hB (by first | exact g0 | (simp only [nz_c]; exact g0)) (by first | exact ⟨by omega, by omega⟩ | (simp only [nz_c]; exact ⟨by omega, by omega⟩)) (by first | (simp only [nz_c, (nzE n86)]; exact ⟨by omega, by omega⟩) | exact ⟨by omega, by omega⟩ | (rw [(nzE n86)]; exact ⟨by omega, by omega⟩)) (fun F1 g e60 e61 => k0 g0 F1 (nz_in0 hB [60, 61] (fun j hj hn => g j hj (by simp only [List.mem_cons, List.not_mem_nil, or_false, not_or] at hn; omega)) (List.forall_mem_cons.mpr ⟨fun t ht => (Option.some.inj ht) ▸ (nz_hz2 e60), List.forall_mem_cons.mpr ⟨fun t ht => (Option.some.inj ht) ▸ (nz_hz2 e61), List.forall_mem_nil _⟩⟩)) (fun j hj hn => g j hj (by simp only [List.mem_cons, List.not_mem_nil, or_false, not_or] at hn; omega)) ((zz_ai e60).trans w85) ((zz_ai e61).trans w87))
  replace g0 : (sy_i F 84).toInt < 7 := by omega
  have n87 : nzI ((sy_i F 83) + ((1 : Int32))) (((sy_i F 83).toInt + 1)) := nz_add (rfl : (sy_i F 83).toInt = (sy_i F 83).toInt) (by decide : ((1 : Int32)).toInt = 1) (by omega) (by omega)
  have n90 : nzI ((sy_i F 83) + ((2 : Int32))) (((sy_i F 83).toInt + 2)) := nz_add (rfl : (sy_i F 83).toInt = (sy_i F 83).toInt) (by decide : ((2 : Int32)).toInt = 2) (by omega) (by omega)
  have n93 : nzI ((sy_i F 83) + ((3 : Int32))) (((sy_i F 83).toInt + 3)) := nz_add (rfl : (sy_i F 83).toInt = (sy_i F 83).toInt) (by decide : ((3 : Int32)).toInt = 3) (by omega) (by omega)
  have n96 : nzI ((sy_i F 83) + ((4 : Int32))) (((sy_i F 83).toInt + 4)) := nz_add (rfl : (sy_i F 83).toInt = (sy_i F 83).toInt) (by decide : ((4 : Int32)).toInt = 4) (by omega) (by omega)
  have n99 : nzI ((sy_i F 83) + ((5 : Int32))) (((sy_i F 83).toInt + 5)) := nz_add (rfl : (sy_i F 83).toInt = (sy_i F 83).toInt) (by decide : ((5 : Int32)).toInt = 5) (by omega) (by omega)
  have n102 : nzI ((sy_i F 83) + ((6 : Int32))) (((sy_i F 83).toInt + 6)) := nz_add (rfl : (sy_i F 83).toInt = (sy_i F 83).toInt) (by decide : ((6 : Int32)).toInt = 6) (by omega) (by omega)
  have w86 : jm_upd (sy_ai F 53) (sy_i F 84).toNatClampNeg ((sy_ai F 76).getD (sy_i F 83).toNatClampNeg 0) = jm_upd (sy_ai F 53) ((sy_i F 84).toInt).toNat ((sy_ai F 76).getD ((sy_i F 83).toInt).toNat 0) := by simp only [nz_c]
  have w89 : jm_upd (sy_ai F 54) (sy_i F 84).toNatClampNeg ((sy_ai F 76).getD ((sy_i F 83) + ((1 : Int32))).toNatClampNeg 0) = jm_upd (sy_ai F 54) ((sy_i F 84).toInt).toNat ((sy_ai F 76).getD (((sy_i F 83).toInt + 1)).toNat 0) := by simp only [nz_c, (nzE n87), (by decide : ((1 : Int32)).toInt = 1)]
  have w92 : jm_upd (sy_ai F 55) (sy_i F 84).toNatClampNeg ((sy_ai F 76).getD ((sy_i F 83) + ((2 : Int32))).toNatClampNeg 0) = jm_upd (sy_ai F 55) ((sy_i F 84).toInt).toNat ((sy_ai F 76).getD (((sy_i F 83).toInt + 2)).toNat 0) := by simp only [nz_c, (nzE n90), (by decide : ((2 : Int32)).toInt = 2)]
  have w95 : jm_upd (sy_ai F 56) (sy_i F 84).toNatClampNeg ((sy_ai F 76).getD ((sy_i F 83) + ((3 : Int32))).toNatClampNeg 0) = jm_upd (sy_ai F 56) ((sy_i F 84).toInt).toNat ((sy_ai F 76).getD (((sy_i F 83).toInt + 3)).toNat 0) := by simp only [nz_c, (nzE n93), (by decide : ((3 : Int32)).toInt = 3)]
  have w98 : jm_upd (sy_ai F 57) (sy_i F 84).toNatClampNeg ((sy_ai F 76).getD ((sy_i F 83) + ((4 : Int32))).toNatClampNeg 0) = jm_upd (sy_ai F 57) ((sy_i F 84).toInt).toNat ((sy_ai F 76).getD (((sy_i F 83).toInt + 4)).toNat 0) := by simp only [nz_c, (nzE n96), (by decide : ((4 : Int32)).toInt = 4)]
  have w101 : jm_upd (sy_ai F 58) (sy_i F 84).toNatClampNeg ((sy_ai F 76).getD ((sy_i F 83) + ((5 : Int32))).toNatClampNeg 0) = jm_upd (sy_ai F 58) ((sy_i F 84).toInt).toNat ((sy_ai F 76).getD (((sy_i F 83).toInt + 5)).toNat 0) := by simp only [nz_c, (nzE n99), (by decide : ((5 : Int32)).toInt = 5)]
  have w104 : jm_upd (sy_ai F 59) (sy_i F 84).toNatClampNeg ((sy_ai F 76).getD ((sy_i F 83) + ((6 : Int32))).toNatClampNeg 0) = jm_upd (sy_ai F 59) ((sy_i F 84).toInt).toNat ((sy_ai F 76).getD (((sy_i F 83).toInt + 6)).toNat 0) := by simp only [nz_c, (nzE n102), (by decide : ((6 : Int32)).toInt = 6)]
  have n105 : nzI ((sy_i F 83) + ((7 : Int32))) (((sy_i F 83).toInt + 7)) := nz_add (rfl : (sy_i F 83).toInt = (sy_i F 83).toInt) (by decide : ((7 : Int32)).toInt = 7) (by omega) (by omega)
  have n106 : nzI ((sy_i F 84) + ((1 : Int32))) (((sy_i F 84).toInt + 1)) := nz_add (rfl : (sy_i F 84).toInt = (sy_i F 84).toInt) (by decide : ((1 : Int32)).toInt = 1) (by omega) (by omega)
  exact j0ldt_46_p1 hd F X1 X2 hB (by first | exact g0 | (simp only [nz_c]; exact g0)) (by first | exact ⟨by omega, by omega⟩ | (simp only [nz_c]; exact ⟨by omega, by omega⟩)) (by first | exact ⟨by omega, by omega⟩ | (simp only [nz_c]; exact ⟨by omega, by omega⟩)) (by first | (simp only [nz_c, (nzE n87)]; exact ⟨by omega, by omega⟩) | exact ⟨by omega, by omega⟩ | (rw [(nzE n87)]; exact ⟨by omega, by omega⟩)) (by first | exact ⟨by omega, by omega⟩ | (simp only [nz_c]; exact ⟨by omega, by omega⟩)) (by first | (simp only [nz_c, (nzE n90)]; exact ⟨by omega, by omega⟩) | exact ⟨by omega, by omega⟩ | (rw [(nzE n90)]; exact ⟨by omega, by omega⟩)) (by first | exact ⟨by omega, by omega⟩ | (simp only [nz_c]; exact ⟨by omega, by omega⟩)) (by first | (simp only [nz_c, (nzE n93)]; exact ⟨by omega, by omega⟩) | exact ⟨by omega, by omega⟩ | (rw [(nzE n93)]; exact ⟨by omega, by omega⟩)) (by first | exact ⟨by omega, by omega⟩ | (simp only [nz_c]; exact ⟨by omega, by omega⟩)) (by first | (simp only [nz_c, (nzE n96)]; exact ⟨by omega, by omega⟩) | exact ⟨by omega, by omega⟩ | (rw [(nzE n96)]; exact ⟨by omega, by omega⟩)) (by first | exact ⟨by omega, by omega⟩ | (simp only [nz_c]; exact ⟨by omega, by omega⟩)) (by first | (simp only [nz_c, (nzE n99)]; exact ⟨by omega, by omega⟩) | exact ⟨by omega, by omega⟩ | (rw [(nzE n99)]; exact ⟨by omega, by omega⟩)) (by first | exact ⟨by omega, by omega⟩ | (simp only [nz_c]; exact ⟨by omega, by omega⟩)) (by first | (simp only [nz_c, (nzE n102)]; exact ⟨by omega, by omega⟩) | exact ⟨by omega, by omega⟩ | (rw [(nzE n102)]; exact ⟨by omega, by omega⟩)) (by first | exact ⟨by omega, by omega⟩ | (simp only [nz_c]; exact ⟨by omega, by omega⟩)) (fun F1 g e53 e54 e55 e56 e57 e58 e59 e82 e83 e84 => k1 g0 F1 (nz_in0 hB [53, 54, 55, 56, 57, 58, 59] (fun j hj hn => g j hj (by simp only [List.mem_cons, List.not_mem_nil, or_false, not_or] at hn; omega)) (List.forall_mem_cons.mpr ⟨fun t ht => (Option.some.inj ht) ▸ (nz_hz2 e53), List.forall_mem_cons.mpr ⟨fun t ht => (Option.some.inj ht) ▸ (nz_hz2 e54), List.forall_mem_cons.mpr ⟨fun t ht => (Option.some.inj ht) ▸ (nz_hz2 e55), List.forall_mem_cons.mpr ⟨fun t ht => (Option.some.inj ht) ▸ (nz_hz2 e56), List.forall_mem_cons.mpr ⟨fun t ht => (Option.some.inj ht) ▸ (nz_hz2 e57), List.forall_mem_cons.mpr ⟨fun t ht => (Option.some.inj ht) ▸ (nz_hz2 e58), List.forall_mem_cons.mpr ⟨fun t ht => (Option.some.inj ht) ▸ (nz_hz2 e59), List.forall_mem_nil _⟩⟩⟩⟩⟩⟩⟩)) (fun j hj hn => g j hj (by simp only [List.mem_cons, List.not_mem_nil, or_false, not_or] at hn; omega)) ((zz_ai e53).trans w86) ((zz_ai e54).trans w89) ((zz_ai e55).trans w92) ((zz_ai e56).trans w95) ((zz_ai e57).trans w98) ((zz_ai e58).trans w101) ((zz_ai e59).trans w104) ((congrArg Int32.toInt (zz_i e82)).trans (rfl : (sy_i F 82).toInt = (sy_i F 82).toInt)) ((zz_i e82).trans (rfl : sy_i F 82 = sy_i F 82)) ((congrArg Int32.toInt (zz_i e83)).trans (nzE n105)) ((zz_i e83).trans (rfl : (sy_i F 83) + ((7 : Int32)) = (sy_i F 83) + ((7 : Int32)))) ((congrArg Int32.toInt (zz_i e84)).trans (nzE n106)) ((zz_i e84).trans (rfl : (sy_i F 84) + ((1 : Int32)) = (sy_i F 84) + ((1 : Int32)))))
theorem j0svs_0_p0 {Ls : Nat} {xs : Nat → Int32} {d : Nat} {Q : Option Value → jm_h → Prop} (hd : 1 ≤ d) (F : Nat → sy_d) (X1 X2 : List jm_c) (hB : iv_in F iv_B0)
    (h0 : 0 ≤ (sy_i F 82).toInt)
    (h1 : (sy_i F 82).toInt ≤ 120)
    (h2 : 0 ≤ (sy_i F 82).toInt ∧ (sy_i F 82).toInt < 180)
    (h3 : 0 ≤ ((sy_i F 82) + ((1 : Int32))).toInt ∧ ((sy_i F 82) + ((1 : Int32))).toInt < 180)
    (h4 : 0 ≤ ((sy_i F 82) + ((2 : Int32))).toInt ∧ ((sy_i F 82) + ((2 : Int32))).toInt < 180)
    (k : ∀ F1 : Nat → sy_d, (∀ j, j < 82 → j ≠ 77 → F1 j = F j) → F1 77 = .inr (.inl (jm_upd (jm_upd (jm_upd (sy_ai F 77) (sy_i F 82).toNatClampNeg (sy_i F 50)) ((sy_i F 82) + ((1 : Int32))).toNatClampNeg (sy_i F 51)) ((sy_i F 82) + ((2 : Int32))).toNatClampNeg (sy_i F 52))) → F1 82 = .inl (.int (sy_i F 82)) → F1 83 = .inl (.int ((sy_i F 82) + ((3 : Int32)))) → F1 84 = .inl (.int ((0 : Int32))) → hd_W Ls xs d jm_M9 Q (46, sy_dL F1 [some (.inl (.ref 46)), some (.inl (.ref 68)), some (.inr (.inl 82)), some (.inr (.inl 83)), some (.inr (.inl 84))], sy_dS F1 [], sy_dh F1 X1 X2 (iv_H 0), 0, 0)) :
    hd_W Ls xs d jm_M9 Q (0, sy_dL F [some (.inl (.ref 46)), some (.inl (.ref 68)), some (.inr (.inl 82)), none, none], sy_dS F [], sy_dh F X1 X2 (iv_H 0), 0, 0) := by
  refine hd_run (s := 0) (nv := 83) (pc := 46) (L := [some (.inl (.ref 46)), some (.inl (.ref 68)), some (.inr (.inl 82)), some (.inr (.inl 83)), some (.inr (.inl 84))]) (S := []) (uh := hd_ov (iv_id 0 iv_B0) [(77, .inr (.inr (.inl 87)))]) (ul := [.inl (.inr (.inl 82)), .inl (.inr (.inl 88)), .inl (.inl (.int 0))]) (f := true) (sp := [46]) (d0 := 0) (O := [false, true]) (T := [(40, [.inr (.inl 82), .inr (.inl 50)], [.inr (.inl 77)]), (0, [.inr (.inl 82), .inl (.int 1)], []), (40, [.inr (.inl 84), .inr (.inl 51)], [.inr (.inl 83)]), (0, [.inr (.inl 82), .inl (.int 2)], []), (40, [.inr (.inl 86), .inr (.inl 52)], [.inr (.inl 85)]), (0, [.inr (.inl 82), .inl (.int 3)], [])]) (P := [(3, .inr (.inl 82), .inl (.int 0)), (4, .inr (.inl 82), .inl (.int 120)), (6, .inr (.inl 82), .inl (.ref 180)), (6, .inr (.inl 84), .inl (.ref 180)), (6, .inr (.inl 86), .inl (.ref 180))]) jm_ok9 (by decide +kernel) (by decide +kernel) hd F X1 X2 (fun F' hF hs => ?_)
  have b82 := hd_b (F := F) (F' := F') (k := 82) (hF 82 (by decide))
  have t84 : sy_dv F' (.inr (.inl 84)) = .int ((sy_i F 82) + ((1 : Int32))) := hd_o (hs 1 _ rfl) b82 rfl rfl
  have t86 : sy_dv F' (.inr (.inl 86)) = .int ((sy_i F 82) + ((2 : Int32))) := hd_o (hs 3 _ rfl) b82 rfl rfl
  have b52 := hd_b (F := F) (F' := F') (k := 52) (hF 52 (by decide))
  have b51 := hd_b (F := F) (F' := F') (k := 51) (hF 51 (by decide))
  have b50 := hd_b (F := F) (F' := F') (k := 50) (hF 50 (by decide))
  have a77 := hd_ba (F := F) (F' := F') (k := 77) (hF 77 (by decide))
  have t83 : sy_da F' (.inr (.inl 83)) = .inl (jm_upd (sy_ai F 77) (sy_i F 82).toNatClampNeg (sy_i F 50)) := hd_up (hs 0 _ rfl) b82 b50 a77
  have t85 : sy_da F' (.inr (.inl 85)) = .inl (jm_upd (jm_upd (sy_ai F 77) (sy_i F 82).toNatClampNeg (sy_i F 50)) ((sy_i F 82) + ((1 : Int32))).toNatClampNeg (sy_i F 51)) := hd_up (hs 2 _ rfl) t84 b51 t83
  have t87 : sy_da F' (.inr (.inl 87)) = .inl (jm_upd (jm_upd (jm_upd (sy_ai F 77) (sy_i F 82).toNatClampNeg (sy_i F 50)) ((sy_i F 82) + ((1 : Int32))).toNatClampNeg (sy_i F 51)) ((sy_i F 82) + ((2 : Int32))).toNatClampNeg (sy_i F 52)) := hd_up (hs 4 _ rfl) t86 b52 t85
  have t88 : sy_dv F' (.inr (.inl 88)) = .int ((sy_i F 82) + ((3 : Int32))) := hd_o (hs 5 _ rfl) b82 rfl rfl
  have hB' : iv_in F' iv_B0 := iv_in_eq hB (fun j hj => hF j (Nat.lt_of_lt_of_le hj (by decide +kernel)))
  refine ⟨List.forall_mem_cons.mpr ⟨hd_p3 b82 rfl (by have hc : ((0) : Int32).toInt = 0 := (by decide); omega), List.forall_mem_cons.mpr ⟨hd_p4 b82 rfl (by have hc : ((120) : Int32).toInt = 120 := (by decide); omega), List.forall_mem_cons.mpr ⟨hd_pb b82 (by first | exact h2 | exact h2), List.forall_mem_cons.mpr ⟨hd_pb t84 (by first | exact h3 | exact h3), List.forall_mem_cons.mpr ⟨hd_pb t86 (by first | exact h4 | exact h4), fun _ h => absurd h List.not_mem_nil⟩⟩⟩⟩⟩, ?_⟩
  refine k _ ?_ ?_ ?_ ?_ ?_
  · exact fun j hj hn => (hd_keep hB' (Nat.lt_of_lt_of_le hj (by decide +kernel)) (by simp; omega)).trans (hF j (Nat.lt_of_lt_of_le hj (by decide)))
  · exact hd_ga (a := .inr (.inl 87)) (by decide +kernel) t87
  · exact hd_gi (x := .inr (.inl 82)) (by decide +kernel) b82
  · exact hd_gi (x := .inr (.inl 88)) (by decide +kernel) t88
  · exact hd_gi (x := .inl (.int 0)) (by decide +kernel) rfl
theorem j0svs_0 {Ls : Nat} {xs : Nat → Int32} {d : Nat} {Q : Option Value → jm_h → Prop} (hd : 1 ≤ d) (F : Nat → sy_d) (X1 X2 : List jm_c) (hB : iv_in F iv_B0)
    (a82 : 0 ≤ (sy_i F 82).toInt ∧ (sy_i F 82).toInt ≤ 120)
    (k0 : 0 ≤ (sy_i F 82).toInt → (sy_i F 82).toInt ≤ 120 → ∀ F1 : Nat → sy_d, iv_in F1 iv_B0 → (∀ j, j < 82 → j ∉ ([77] : List Nat) → F1 j = F j) → sy_ai F1 77 = jm_upd (jm_upd (jm_upd (sy_ai F 77) ((sy_i F 82).toInt).toNat (sy_i F 50)) (((sy_i F 82).toInt + 1)).toNat (sy_i F 51)) (((sy_i F 82).toInt + 2)).toNat (sy_i F 52) → (sy_i F1 82).toInt = (sy_i F 82).toInt → sy_i F1 82 = sy_i F 82 → (sy_i F1 83).toInt = ((sy_i F 82).toInt + 3) → sy_i F1 83 = (sy_i F 82) + ((3 : Int32)) → (sy_i F1 84).toInt = 0 → sy_i F1 84 = (0 : Int32) → hd_W Ls xs d jm_M9 Q (46, sy_dL F1 [some (.inl (.ref 46)), some (.inl (.ref 68)), some (.inr (.inl 82)), some (.inr (.inl 83)), some (.inr (.inl 84))], sy_dS F1 [], sy_dh F1 X1 X2 (iv_H 0), 0, 0)) :
    hd_W Ls xs d jm_M9 Q (0, sy_dL F [some (.inl (.ref 46)), some (.inl (.ref 68)), some (.inr (.inl 82)), none, none], sy_dS F [], sy_dh F X1 X2 (iv_H 0), 0, 0) := by
  by_cases g0 : (sy_i F 82).toInt < 0
  · exfalso
    omega
  replace g0 : 0 ≤ (sy_i F 82).toInt := by omega
  by_cases g1 : (sy_i F 82).toInt ≤ 120
  · have n84 : nzI ((sy_i F 82) + ((1 : Int32))) (((sy_i F 82).toInt + 1)) := nz_add (rfl : (sy_i F 82).toInt = (sy_i F 82).toInt) (by decide : ((1 : Int32)).toInt = 1) (by omega) (by omega)
    have n86 : nzI ((sy_i F 82) + ((2 : Int32))) (((sy_i F 82).toInt + 2)) := nz_add (rfl : (sy_i F 82).toInt = (sy_i F 82).toInt) (by decide : ((2 : Int32)).toInt = 2) (by omega) (by omega)
    have w87 : jm_upd (jm_upd (jm_upd (sy_ai F 77) (sy_i F 82).toNatClampNeg (sy_i F 50)) ((sy_i F 82) + ((1 : Int32))).toNatClampNeg (sy_i F 51)) ((sy_i F 82) + ((2 : Int32))).toNatClampNeg (sy_i F 52) = jm_upd (jm_upd (jm_upd (sy_ai F 77) ((sy_i F 82).toInt).toNat (sy_i F 50)) (((sy_i F 82).toInt + 1)).toNat (sy_i F 51)) (((sy_i F 82).toInt + 2)).toNat (sy_i F 52) := by simp only [nz_c, (nzE n84), (nzE n86), (by decide : ((1 : Int32)).toInt = 1), (by decide : ((2 : Int32)).toInt = 2)]
    have n88 : nzI ((sy_i F 82) + ((3 : Int32))) (((sy_i F 82).toInt + 3)) := nz_add (rfl : (sy_i F 82).toInt = (sy_i F 82).toInt) (by decide : ((3 : Int32)).toInt = 3) (by omega) (by omega)
    exact j0svs_0_p0 hd F X1 X2 hB (by first | exact g0 | (simp only [nz_c]; exact g0)) (by first | exact g1 | (simp only [nz_c]; exact g1)) (by first | exact ⟨by omega, by omega⟩ | (simp only [nz_c]; exact ⟨by omega, by omega⟩)) (by first | (simp only [nz_c, (nzE n84)]; exact ⟨by omega, by omega⟩) | exact ⟨by omega, by omega⟩ | (rw [(nzE n84)]; exact ⟨by omega, by omega⟩)) (by first | (simp only [nz_c, (nzE n86)]; exact ⟨by omega, by omega⟩) | exact ⟨by omega, by omega⟩ | (rw [(nzE n86)]; exact ⟨by omega, by omega⟩)) (fun F1 g e77 e82 e83 e84 => k0 g0 g1 F1 (nz_in0 hB [77] (fun j hj hn => g j hj (by simp only [List.mem_cons, List.not_mem_nil, or_false, not_or] at hn; omega)) (List.forall_mem_cons.mpr ⟨fun t ht => (Option.some.inj ht) ▸ (nz_hz2 e77), List.forall_mem_nil _⟩)) (fun j hj hn => g j hj (by simp only [List.mem_cons, List.not_mem_nil, or_false, not_or] at hn; omega)) ((zz_ai e77).trans w87) ((congrArg Int32.toInt (zz_i e82)).trans (rfl : (sy_i F 82).toInt = (sy_i F 82).toInt)) ((zz_i e82).trans (rfl : sy_i F 82 = sy_i F 82)) ((congrArg Int32.toInt (zz_i e83)).trans (nzE n88)) ((zz_i e83).trans (rfl : (sy_i F 82) + ((3 : Int32)) = (sy_i F 82) + ((3 : Int32)))) ((congrArg Int32.toInt (zz_i e84)).trans (by decide : ((0 : Int32)).toInt = 0)) ((zz_i e84).trans (rfl : (0 : Int32) = (0 : Int32))))
  replace g1 : 120 < (sy_i F 82).toInt := by omega
  exfalso
  omega
theorem j0svs_46_p0 {Ls : Nat} {xs : Nat → Int32} {d : Nat} {Q : Option Value → jm_h → Prop} (hd : 1 ≤ d) (F : Nat → sy_d) (X1 X2 : List jm_c) (hB : iv_in F iv_B0)
    (h0 : 7 ≤ (sy_i F 84).toInt)
    (h1 : 0 ≤ (sy_i F 83).toInt ∧ (sy_i F 83).toInt < 177)
    (h2 : 0 ≤ ((sy_i F 83) + ((4 : Int32))).toInt ∧ ((sy_i F 83) + ((4 : Int32))).toInt < 177)
    (k : ∀ F1 : Nat → sy_d, (∀ j, j < 82 → j ≠ 77 → F1 j = F j) → F1 77 = .inr (.inl (jm_cpy (sy_ai F 61) (jm_cpy (sy_ai F 60) (sy_ai F 77) ((0 : Int32)).toNatClampNeg (sy_i F 83).toNatClampNeg ((4 : Int32)).toNatClampNeg) ((0 : Int32)).toNatClampNeg ((sy_i F 83) + ((4 : Int32))).toNatClampNeg ((4 : Int32)).toNatClampNeg)) → Q (none) (sy_dh F1 X1 X2 (iv_H 0))) :
    hd_W Ls xs d jm_M9 Q (46, sy_dL F [some (.inl (.ref 46)), some (.inl (.ref 68)), some (.inr (.inl 82)), some (.inr (.inl 83)), some (.inr (.inl 84))], sy_dS F [], sy_dh F X1 X2 (iv_H 0), 0, 0) := by
  refine hd_ret (s := 0) (nv := 85) (v := none) (uh := hd_ov (iv_id 0 iv_B0) [(77, .inr (.inr (.inl 87)))]) (f := true) (sp := [46]) (d0 := 0) (O := [true]) (T := [(42, [.inl (.int 0), .inr (.inl 83), .inl (.int 4)], [.inr (.inl 60), .inr (.inl 77)]), (0, [.inr (.inl 83), .inl (.int 4)], []), (42, [.inl (.int 0), .inr (.inl 86), .inl (.int 4)], [.inr (.inl 61), .inr (.inl 85)])]) (P := [(4, .inl (.int 7), .inr (.inl 84)), (6, .inr (.inl 83), .inl (.ref 177)), (6, .inr (.inl 86), .inl (.ref 177))]) jm_ok9 (by decide +kernel) (by decide +kernel) hd F X1 X2 (fun F' hF hs => ?_)
  have b84 := hd_b (F := F) (F' := F') (k := 84) (hF 84 (by decide))
  have b83 := hd_b (F := F) (F' := F') (k := 83) (hF 83 (by decide))
  have t86 : sy_dv F' (.inr (.inl 86)) = .int ((sy_i F 83) + ((4 : Int32))) := hd_o (hs 1 _ rfl) b83 rfl rfl
  have a61 := hd_ba (F := F) (F' := F') (k := 61) (hF 61 (by decide))
  have a60 := hd_ba (F := F) (F' := F') (k := 60) (hF 60 (by decide))
  have a77 := hd_ba (F := F) (F' := F') (k := 77) (hF 77 (by decide))
  have t85 : sy_da F' (.inr (.inl 85)) = .inl (jm_cpy (sy_ai F 60) (sy_ai F 77) ((0 : Int32)).toNatClampNeg (sy_i F 83).toNatClampNeg ((4 : Int32)).toNatClampNeg) := hd_cp (hs 0 _ rfl) rfl b83 rfl a60 a77
  have t87 : sy_da F' (.inr (.inl 87)) = .inl (jm_cpy (sy_ai F 61) (jm_cpy (sy_ai F 60) (sy_ai F 77) ((0 : Int32)).toNatClampNeg (sy_i F 83).toNatClampNeg ((4 : Int32)).toNatClampNeg) ((0 : Int32)).toNatClampNeg ((sy_i F 83) + ((4 : Int32))).toNatClampNeg ((4 : Int32)).toNatClampNeg) := hd_cp (hs 2 _ rfl) rfl t86 rfl a61 t85
  have hB' : iv_in F' iv_B0 := iv_in_eq hB (fun j hj => hF j (Nat.lt_of_lt_of_le hj (by decide +kernel)))
  refine ⟨List.forall_mem_cons.mpr ⟨hd_p4 rfl b84 (by have hc : ((7) : Int32).toInt = 7 := (by decide); omega), List.forall_mem_cons.mpr ⟨hd_pb b83 (by first | exact h1 | exact h1), List.forall_mem_cons.mpr ⟨hd_pb t86 (by first | exact h2 | exact h2), fun _ h => absurd h List.not_mem_nil⟩⟩⟩, ?_⟩
  refine k _ ?_ ?_
  · exact fun j hj hn => (hd_keep hB' (Nat.lt_of_lt_of_le hj (by decide +kernel)) (by simp; omega)).trans (hF j (Nat.lt_of_lt_of_le hj (by decide)))
  · exact hd_ga (a := .inr (.inl 87)) (by decide +kernel) t87
theorem j0svs_46_p1 {Ls : Nat} {xs : Nat → Int32} {d : Nat} {Q : Option Value → jm_h → Prop} (hd : 1 ≤ d) (F : Nat → sy_d) (X1 X2 : List jm_c) (hB : iv_in F iv_B0)
    (h0 : (sy_i F 84).toInt < 7)
    (h1 : 0 ≤ (sy_i F 84).toInt ∧ (sy_i F 84).toInt < 7)
    (h2 : 0 ≤ (sy_i F 83).toInt ∧ (sy_i F 83).toInt < 180)
    (h3 : 0 ≤ (sy_i F 84).toInt ∧ (sy_i F 84).toInt < 7)
    (h4 : 0 ≤ ((sy_i F 83) + ((1 : Int32))).toInt ∧ ((sy_i F 83) + ((1 : Int32))).toInt < 180)
    (h5 : 0 ≤ (sy_i F 84).toInt ∧ (sy_i F 84).toInt < 7)
    (h6 : 0 ≤ ((sy_i F 83) + ((2 : Int32))).toInt ∧ ((sy_i F 83) + ((2 : Int32))).toInt < 180)
    (h7 : 0 ≤ (sy_i F 84).toInt ∧ (sy_i F 84).toInt < 7)
    (h8 : 0 ≤ ((sy_i F 83) + ((3 : Int32))).toInt ∧ ((sy_i F 83) + ((3 : Int32))).toInt < 180)
    (h9 : 0 ≤ (sy_i F 84).toInt ∧ (sy_i F 84).toInt < 7)
    (h10 : 0 ≤ ((sy_i F 83) + ((4 : Int32))).toInt ∧ ((sy_i F 83) + ((4 : Int32))).toInt < 180)
    (h11 : 0 ≤ (sy_i F 84).toInt ∧ (sy_i F 84).toInt < 7)
    (h12 : 0 ≤ ((sy_i F 83) + ((5 : Int32))).toInt ∧ ((sy_i F 83) + ((5 : Int32))).toInt < 180)
    (h13 : 0 ≤ (sy_i F 84).toInt ∧ (sy_i F 84).toInt < 7)
    (h14 : 0 ≤ ((sy_i F 83) + ((6 : Int32))).toInt ∧ ((sy_i F 83) + ((6 : Int32))).toInt < 180)
    (k : ∀ F1 : Nat → sy_d, (∀ j, j < 82 → j ≠ 77 → F1 j = F j) → F1 77 = .inr (.inl (jm_upd (jm_upd (jm_upd (jm_upd (jm_upd (jm_upd (jm_upd (sy_ai F 77) (sy_i F 83).toNatClampNeg ((sy_ai F 53).getD (sy_i F 84).toNatClampNeg 0)) ((sy_i F 83) + ((1 : Int32))).toNatClampNeg ((sy_ai F 54).getD (sy_i F 84).toNatClampNeg 0)) ((sy_i F 83) + ((2 : Int32))).toNatClampNeg ((sy_ai F 55).getD (sy_i F 84).toNatClampNeg 0)) ((sy_i F 83) + ((3 : Int32))).toNatClampNeg ((sy_ai F 56).getD (sy_i F 84).toNatClampNeg 0)) ((sy_i F 83) + ((4 : Int32))).toNatClampNeg ((sy_ai F 57).getD (sy_i F 84).toNatClampNeg 0)) ((sy_i F 83) + ((5 : Int32))).toNatClampNeg ((sy_ai F 58).getD (sy_i F 84).toNatClampNeg 0)) ((sy_i F 83) + ((6 : Int32))).toNatClampNeg ((sy_ai F 59).getD (sy_i F 84).toNatClampNeg 0))) → F1 82 = .inl (.int (sy_i F 82)) → F1 83 = .inl (.int ((sy_i F 83) + ((7 : Int32)))) → F1 84 = .inl (.int ((sy_i F 84) + ((1 : Int32)))) → hd_W Ls xs d jm_M9 Q (46, sy_dL F1 [some (.inl (.ref 46)), some (.inl (.ref 68)), some (.inr (.inl 82)), some (.inr (.inl 83)), some (.inr (.inl 84))], sy_dS F1 [], sy_dh F1 X1 X2 (iv_H 0), 0, 0)) :
    hd_W Ls xs d jm_M9 Q (46, sy_dL F [some (.inl (.ref 46)), some (.inl (.ref 68)), some (.inr (.inl 82)), some (.inr (.inl 83)), some (.inr (.inl 84))], sy_dS F [], sy_dh F X1 X2 (iv_H 0), 0, 0) := by
  refine hd_run (s := 0) (nv := 85) (pc := 46) (L := [some (.inl (.ref 46)), some (.inl (.ref 68)), some (.inr (.inl 82)), some (.inr (.inl 83)), some (.inr (.inl 84))]) (S := []) (uh := hd_ov (iv_id 0 iv_B0) [(77, .inr (.inr (.inl 104)))]) (ul := [.inl (.inr (.inl 82)), .inl (.inr (.inl 105)), .inl (.inr (.inl 106))]) (f := true) (sp := [46]) (d0 := 0) (O := [false]) (T := [(30, [.inr (.inl 84)], [.inr (.inl 53)]), (40, [.inr (.inl 83), .inr (.inl 85)], [.inr (.inl 77)]), (0, [.inr (.inl 83), .inl (.int 1)], []), (30, [.inr (.inl 84)], [.inr (.inl 54)]), (40, [.inr (.inl 87), .inr (.inl 88)], [.inr (.inl 86)]), (0, [.inr (.inl 83), .inl (.int 2)], []), (30, [.inr (.inl 84)], [.inr (.inl 55)]), (40, [.inr (.inl 90), .inr (.inl 91)], [.inr (.inl 89)]), (0, [.inr (.inl 83), .inl (.int 3)], []), (30, [.inr (.inl 84)], [.inr (.inl 56)]), (40, [.inr (.inl 93), .inr (.inl 94)], [.inr (.inl 92)]), (0, [.inr (.inl 83), .inl (.int 4)], []), (30, [.inr (.inl 84)], [.inr (.inl 57)]), (40, [.inr (.inl 96), .inr (.inl 97)], [.inr (.inl 95)]), (0, [.inr (.inl 83), .inl (.int 5)], []), (30, [.inr (.inl 84)], [.inr (.inl 58)]), (40, [.inr (.inl 99), .inr (.inl 100)], [.inr (.inl 98)]), (0, [.inr (.inl 83), .inl (.int 6)], []), (30, [.inr (.inl 84)], [.inr (.inl 59)]), (40, [.inr (.inl 102), .inr (.inl 103)], [.inr (.inl 101)]), (0, [.inr (.inl 83), .inl (.int 7)], []), (0, [.inr (.inl 84), .inl (.int 1)], [])]) (P := [(5, .inl (.int 7), .inr (.inl 84)), (6, .inr (.inl 84), .inl (.ref 7)), (6, .inr (.inl 83), .inl (.ref 180)), (6, .inr (.inl 84), .inl (.ref 7)), (6, .inr (.inl 87), .inl (.ref 180)), (6, .inr (.inl 84), .inl (.ref 7)), (6, .inr (.inl 90), .inl (.ref 180)), (6, .inr (.inl 84), .inl (.ref 7)), (6, .inr (.inl 93), .inl (.ref 180)), (6, .inr (.inl 84), .inl (.ref 7)), (6, .inr (.inl 96), .inl (.ref 180)), (6, .inr (.inl 84), .inl (.ref 7)), (6, .inr (.inl 99), .inl (.ref 180)), (6, .inr (.inl 84), .inl (.ref 7)), (6, .inr (.inl 102), .inl (.ref 180))]) jm_ok9 (by decide +kernel) (by decide +kernel) hd F X1 X2 (fun F' hF hs => ?_)
  have b84 := hd_b (F := F) (F' := F') (k := 84) (hF 84 (by decide))
  have b83 := hd_b (F := F) (F' := F') (k := 83) (hF 83 (by decide))
  have t87 : sy_dv F' (.inr (.inl 87)) = .int ((sy_i F 83) + ((1 : Int32))) := hd_o (hs 2 _ rfl) b83 rfl rfl
  have t90 : sy_dv F' (.inr (.inl 90)) = .int ((sy_i F 83) + ((2 : Int32))) := hd_o (hs 5 _ rfl) b83 rfl rfl
  have t93 : sy_dv F' (.inr (.inl 93)) = .int ((sy_i F 83) + ((3 : Int32))) := hd_o (hs 8 _ rfl) b83 rfl rfl
  have t96 : sy_dv F' (.inr (.inl 96)) = .int ((sy_i F 83) + ((4 : Int32))) := hd_o (hs 11 _ rfl) b83 rfl rfl
  have t99 : sy_dv F' (.inr (.inl 99)) = .int ((sy_i F 83) + ((5 : Int32))) := hd_o (hs 14 _ rfl) b83 rfl rfl
  have t102 : sy_dv F' (.inr (.inl 102)) = .int ((sy_i F 83) + ((6 : Int32))) := hd_o (hs 17 _ rfl) b83 rfl rfl
  have a59 := hd_ba (F := F) (F' := F') (k := 59) (hF 59 (by decide))
  have t103 : sy_dv F' (.inr (.inl 103)) = .int ((sy_ai F 59).getD (sy_i F 84).toNatClampNeg 0) := hd_rd (hs 18 _ rfl) b84 a59
  have a58 := hd_ba (F := F) (F' := F') (k := 58) (hF 58 (by decide))
  have t100 : sy_dv F' (.inr (.inl 100)) = .int ((sy_ai F 58).getD (sy_i F 84).toNatClampNeg 0) := hd_rd (hs 15 _ rfl) b84 a58
  have a57 := hd_ba (F := F) (F' := F') (k := 57) (hF 57 (by decide))
  have t97 : sy_dv F' (.inr (.inl 97)) = .int ((sy_ai F 57).getD (sy_i F 84).toNatClampNeg 0) := hd_rd (hs 12 _ rfl) b84 a57
  have a56 := hd_ba (F := F) (F' := F') (k := 56) (hF 56 (by decide))
  have t94 : sy_dv F' (.inr (.inl 94)) = .int ((sy_ai F 56).getD (sy_i F 84).toNatClampNeg 0) := hd_rd (hs 9 _ rfl) b84 a56
  have a55 := hd_ba (F := F) (F' := F') (k := 55) (hF 55 (by decide))
  have t91 : sy_dv F' (.inr (.inl 91)) = .int ((sy_ai F 55).getD (sy_i F 84).toNatClampNeg 0) := hd_rd (hs 6 _ rfl) b84 a55
  have a54 := hd_ba (F := F) (F' := F') (k := 54) (hF 54 (by decide))
  have t88 : sy_dv F' (.inr (.inl 88)) = .int ((sy_ai F 54).getD (sy_i F 84).toNatClampNeg 0) := hd_rd (hs 3 _ rfl) b84 a54
  have a53 := hd_ba (F := F) (F' := F') (k := 53) (hF 53 (by decide))
  have t85 : sy_dv F' (.inr (.inl 85)) = .int ((sy_ai F 53).getD (sy_i F 84).toNatClampNeg 0) := hd_rd (hs 0 _ rfl) b84 a53
  have a77 := hd_ba (F := F) (F' := F') (k := 77) (hF 77 (by decide))
  have t86 : sy_da F' (.inr (.inl 86)) = .inl (jm_upd (sy_ai F 77) (sy_i F 83).toNatClampNeg ((sy_ai F 53).getD (sy_i F 84).toNatClampNeg 0)) := hd_up (hs 1 _ rfl) b83 t85 a77
  have t89 : sy_da F' (.inr (.inl 89)) = .inl (jm_upd (jm_upd (sy_ai F 77) (sy_i F 83).toNatClampNeg ((sy_ai F 53).getD (sy_i F 84).toNatClampNeg 0)) ((sy_i F 83) + ((1 : Int32))).toNatClampNeg ((sy_ai F 54).getD (sy_i F 84).toNatClampNeg 0)) := hd_up (hs 4 _ rfl) t87 t88 t86
  have t92 : sy_da F' (.inr (.inl 92)) = .inl (jm_upd (jm_upd (jm_upd (sy_ai F 77) (sy_i F 83).toNatClampNeg ((sy_ai F 53).getD (sy_i F 84).toNatClampNeg 0)) ((sy_i F 83) + ((1 : Int32))).toNatClampNeg ((sy_ai F 54).getD (sy_i F 84).toNatClampNeg 0)) ((sy_i F 83) + ((2 : Int32))).toNatClampNeg ((sy_ai F 55).getD (sy_i F 84).toNatClampNeg 0)) := hd_up (hs 7 _ rfl) t90 t91 t89
  have t95 : sy_da F' (.inr (.inl 95)) = .inl (jm_upd (jm_upd (jm_upd (jm_upd (sy_ai F 77) (sy_i F 83).toNatClampNeg ((sy_ai F 53).getD (sy_i F 84).toNatClampNeg 0)) ((sy_i F 83) + ((1 : Int32))).toNatClampNeg ((sy_ai F 54).getD (sy_i F 84).toNatClampNeg 0)) ((sy_i F 83) + ((2 : Int32))).toNatClampNeg ((sy_ai F 55).getD (sy_i F 84).toNatClampNeg 0)) ((sy_i F 83) + ((3 : Int32))).toNatClampNeg ((sy_ai F 56).getD (sy_i F 84).toNatClampNeg 0)) := hd_up (hs 10 _ rfl) t93 t94 t92
  have t98 : sy_da F' (.inr (.inl 98)) = .inl (jm_upd (jm_upd (jm_upd (jm_upd (jm_upd (sy_ai F 77) (sy_i F 83).toNatClampNeg ((sy_ai F 53).getD (sy_i F 84).toNatClampNeg 0)) ((sy_i F 83) + ((1 : Int32))).toNatClampNeg ((sy_ai F 54).getD (sy_i F 84).toNatClampNeg 0)) ((sy_i F 83) + ((2 : Int32))).toNatClampNeg ((sy_ai F 55).getD (sy_i F 84).toNatClampNeg 0)) ((sy_i F 83) + ((3 : Int32))).toNatClampNeg ((sy_ai F 56).getD (sy_i F 84).toNatClampNeg 0)) ((sy_i F 83) + ((4 : Int32))).toNatClampNeg ((sy_ai F 57).getD (sy_i F 84).toNatClampNeg 0)) := hd_up (hs 13 _ rfl) t96 t97 t95
  have t101 : sy_da F' (.inr (.inl 101)) = .inl (jm_upd (jm_upd (jm_upd (jm_upd (jm_upd (jm_upd (sy_ai F 77) (sy_i F 83).toNatClampNeg ((sy_ai F 53).getD (sy_i F 84).toNatClampNeg 0)) ((sy_i F 83) + ((1 : Int32))).toNatClampNeg ((sy_ai F 54).getD (sy_i F 84).toNatClampNeg 0)) ((sy_i F 83) + ((2 : Int32))).toNatClampNeg ((sy_ai F 55).getD (sy_i F 84).toNatClampNeg 0)) ((sy_i F 83) + ((3 : Int32))).toNatClampNeg ((sy_ai F 56).getD (sy_i F 84).toNatClampNeg 0)) ((sy_i F 83) + ((4 : Int32))).toNatClampNeg ((sy_ai F 57).getD (sy_i F 84).toNatClampNeg 0)) ((sy_i F 83) + ((5 : Int32))).toNatClampNeg ((sy_ai F 58).getD (sy_i F 84).toNatClampNeg 0)) := hd_up (hs 16 _ rfl) t99 t100 t98
  have t104 : sy_da F' (.inr (.inl 104)) = .inl (jm_upd (jm_upd (jm_upd (jm_upd (jm_upd (jm_upd (jm_upd (sy_ai F 77) (sy_i F 83).toNatClampNeg ((sy_ai F 53).getD (sy_i F 84).toNatClampNeg 0)) ((sy_i F 83) + ((1 : Int32))).toNatClampNeg ((sy_ai F 54).getD (sy_i F 84).toNatClampNeg 0)) ((sy_i F 83) + ((2 : Int32))).toNatClampNeg ((sy_ai F 55).getD (sy_i F 84).toNatClampNeg 0)) ((sy_i F 83) + ((3 : Int32))).toNatClampNeg ((sy_ai F 56).getD (sy_i F 84).toNatClampNeg 0)) ((sy_i F 83) + ((4 : Int32))).toNatClampNeg ((sy_ai F 57).getD (sy_i F 84).toNatClampNeg 0)) ((sy_i F 83) + ((5 : Int32))).toNatClampNeg ((sy_ai F 58).getD (sy_i F 84).toNatClampNeg 0)) ((sy_i F 83) + ((6 : Int32))).toNatClampNeg ((sy_ai F 59).getD (sy_i F 84).toNatClampNeg 0)) := hd_up (hs 19 _ rfl) t102 t103 t101
  have b82 := hd_b (F := F) (F' := F') (k := 82) (hF 82 (by decide))
  have t105 : sy_dv F' (.inr (.inl 105)) = .int ((sy_i F 83) + ((7 : Int32))) := hd_o (hs 20 _ rfl) b83 rfl rfl
  have t106 : sy_dv F' (.inr (.inl 106)) = .int ((sy_i F 84) + ((1 : Int32))) := hd_o (hs 21 _ rfl) b84 rfl rfl
  have hB' : iv_in F' iv_B0 := iv_in_eq hB (fun j hj => hF j (Nat.lt_of_lt_of_le hj (by decide +kernel)))
  refine ⟨List.forall_mem_cons.mpr ⟨hd_p5 rfl b84 (by have hc : ((7) : Int32).toInt = 7 := (by decide); omega), List.forall_mem_cons.mpr ⟨hd_pb b84 (by first | exact h1 | exact h1), List.forall_mem_cons.mpr ⟨hd_pb b83 (by first | exact h2 | exact h2), List.forall_mem_cons.mpr ⟨hd_pb b84 (by first | exact h3 | exact h3), List.forall_mem_cons.mpr ⟨hd_pb t87 (by first | exact h4 | exact h4), List.forall_mem_cons.mpr ⟨hd_pb b84 (by first | exact h5 | exact h5), List.forall_mem_cons.mpr ⟨hd_pb t90 (by first | exact h6 | exact h6), List.forall_mem_cons.mpr ⟨hd_pb b84 (by first | exact h7 | exact h7), List.forall_mem_cons.mpr ⟨hd_pb t93 (by first | exact h8 | exact h8), List.forall_mem_cons.mpr ⟨hd_pb b84 (by first | exact h9 | exact h9), List.forall_mem_cons.mpr ⟨hd_pb t96 (by first | exact h10 | exact h10), List.forall_mem_cons.mpr ⟨hd_pb b84 (by first | exact h11 | exact h11), List.forall_mem_cons.mpr ⟨hd_pb t99 (by first | exact h12 | exact h12), List.forall_mem_cons.mpr ⟨hd_pb b84 (by first | exact h13 | exact h13), List.forall_mem_cons.mpr ⟨hd_pb t102 (by first | exact h14 | exact h14), fun _ h => absurd h List.not_mem_nil⟩⟩⟩⟩⟩⟩⟩⟩⟩⟩⟩⟩⟩⟩⟩, ?_⟩
  refine k _ ?_ ?_ ?_ ?_ ?_
  · exact fun j hj hn => (hd_keep hB' (Nat.lt_of_lt_of_le hj (by decide +kernel)) (by simp; omega)).trans (hF j (Nat.lt_of_lt_of_le hj (by decide)))
  · exact hd_ga (a := .inr (.inl 104)) (by decide +kernel) t104
  · exact hd_gi (x := .inr (.inl 82)) (by decide +kernel) b82
  · exact hd_gi (x := .inr (.inl 105)) (by decide +kernel) t105
  · exact hd_gi (x := .inr (.inl 106)) (by decide +kernel) t106
theorem j0svs_46 {Ls : Nat} {xs : Nat → Int32} {d : Nat} {Q : Option Value → jm_h → Prop} (hd : 1 ≤ d) (F : Nat → sy_d) (X1 X2 : List jm_c) (hB : iv_in F iv_B0)
    (a82 : 0 ≤ (sy_i F 82).toInt ∧ (sy_i F 82).toInt ≤ 120)
    (a83 : 3 ≤ (sy_i F 83).toInt ∧ (sy_i F 83).toInt ≤ 172)
    (a84 : 0 ≤ (sy_i F 84).toInt ∧ (sy_i F 84).toInt ≤ 7)
    (k0 : 7 ≤ (sy_i F 84).toInt → ∀ F1 : Nat → sy_d, iv_in F1 iv_B0 → (∀ j, j < 82 → j ∉ ([77] : List Nat) → F1 j = F j) → sy_ai F1 77 = jm_cpy (sy_ai F 61) (jm_cpy (sy_ai F 60) (sy_ai F 77) (0 : Int).toNat ((sy_i F 83).toInt).toNat (4 : Int).toNat) (0 : Int).toNat (((sy_i F 83).toInt + 4)).toNat (4 : Int).toNat → Q (none) (sy_dh F1 X1 X2 (iv_H 0)))
    (k1 : (sy_i F 84).toInt < 7 → ∀ F1 : Nat → sy_d, iv_in F1 iv_B0 → (∀ j, j < 82 → j ∉ ([77] : List Nat) → F1 j = F j) → sy_ai F1 77 = jm_upd (jm_upd (jm_upd (jm_upd (jm_upd (jm_upd (jm_upd (sy_ai F 77) ((sy_i F 83).toInt).toNat ((sy_ai F 53).getD ((sy_i F 84).toInt).toNat 0)) (((sy_i F 83).toInt + 1)).toNat ((sy_ai F 54).getD ((sy_i F 84).toInt).toNat 0)) (((sy_i F 83).toInt + 2)).toNat ((sy_ai F 55).getD ((sy_i F 84).toInt).toNat 0)) (((sy_i F 83).toInt + 3)).toNat ((sy_ai F 56).getD ((sy_i F 84).toInt).toNat 0)) (((sy_i F 83).toInt + 4)).toNat ((sy_ai F 57).getD ((sy_i F 84).toInt).toNat 0)) (((sy_i F 83).toInt + 5)).toNat ((sy_ai F 58).getD ((sy_i F 84).toInt).toNat 0)) (((sy_i F 83).toInt + 6)).toNat ((sy_ai F 59).getD ((sy_i F 84).toInt).toNat 0) → (sy_i F1 82).toInt = (sy_i F 82).toInt → sy_i F1 82 = sy_i F 82 → (sy_i F1 83).toInt = ((sy_i F 83).toInt + 7) → sy_i F1 83 = (sy_i F 83) + ((7 : Int32)) → (sy_i F1 84).toInt = ((sy_i F 84).toInt + 1) → sy_i F1 84 = (sy_i F 84) + ((1 : Int32)) → hd_W Ls xs d jm_M9 Q (46, sy_dL F1 [some (.inl (.ref 46)), some (.inl (.ref 68)), some (.inr (.inl 82)), some (.inr (.inl 83)), some (.inr (.inl 84))], sy_dS F1 [], sy_dh F1 X1 X2 (iv_H 0), 0, 0)) :
    hd_W Ls xs d jm_M9 Q (46, sy_dL F [some (.inl (.ref 46)), some (.inl (.ref 68)), some (.inr (.inl 82)), some (.inr (.inl 83)), some (.inr (.inl 84))], sy_dS F [], sy_dh F X1 X2 (iv_H 0), 0, 0) := by
  by_cases g0 : 7 ≤ (sy_i F 84).toInt
  · have n86 : nzI ((sy_i F 83) + ((4 : Int32))) (((sy_i F 83).toInt + 4)) := nz_add (rfl : (sy_i F 83).toInt = (sy_i F 83).toInt) (by decide : ((4 : Int32)).toInt = 4) (by omega) (by omega)
    have w87 : jm_cpy (sy_ai F 61) (jm_cpy (sy_ai F 60) (sy_ai F 77) ((0 : Int32)).toNatClampNeg (sy_i F 83).toNatClampNeg ((4 : Int32)).toNatClampNeg) ((0 : Int32)).toNatClampNeg ((sy_i F 83) + ((4 : Int32))).toNatClampNeg ((4 : Int32)).toNatClampNeg = jm_cpy (sy_ai F 61) (jm_cpy (sy_ai F 60) (sy_ai F 77) (0 : Int).toNat ((sy_i F 83).toInt).toNat (4 : Int).toNat) (0 : Int).toNat (((sy_i F 83).toInt + 4)).toNat (4 : Int).toNat := by simp only [nz_c, (nzE n86), (by decide : ((0 : Int32)).toInt = 0), (by decide : ((4 : Int32)).toInt = 4)]
    exact j0svs_46_p0 hd F X1 X2 hB (by first | exact g0 | (simp only [nz_c]; exact g0)) (by first | exact ⟨by omega, by omega⟩ | (simp only [nz_c]; exact ⟨by omega, by omega⟩)) (by first | (simp only [nz_c, (nzE n86)]; exact ⟨by omega, by omega⟩) | exact ⟨by omega, by omega⟩ | (rw [(nzE n86)]; exact ⟨by omega, by omega⟩)) (fun F1 g e77 => k0 g0 F1 (nz_in0 hB [77] (fun j hj hn => g j hj (by simp only [List.mem_cons, List.not_mem_nil, or_false, not_or] at hn; omega)) (List.forall_mem_cons.mpr ⟨fun t ht => (Option.some.inj ht) ▸ (nz_hz2 e77), List.forall_mem_nil _⟩)) (fun j hj hn => g j hj (by simp only [List.mem_cons, List.not_mem_nil, or_false, not_or] at hn; omega)) ((zz_ai e77).trans w87))
  replace g0 : (sy_i F 84).toInt < 7 := by omega
  have n87 : nzI ((sy_i F 83) + ((1 : Int32))) (((sy_i F 83).toInt + 1)) := nz_add (rfl : (sy_i F 83).toInt = (sy_i F 83).toInt) (by decide : ((1 : Int32)).toInt = 1) (by omega) (by omega)
  have n90 : nzI ((sy_i F 83) + ((2 : Int32))) (((sy_i F 83).toInt + 2)) := nz_add (rfl : (sy_i F 83).toInt = (sy_i F 83).toInt) (by decide : ((2 : Int32)).toInt = 2) (by omega) (by omega)
  have n93 : nzI ((sy_i F 83) + ((3 : Int32))) (((sy_i F 83).toInt + 3)) := nz_add (rfl : (sy_i F 83).toInt = (sy_i F 83).toInt) (by decide : ((3 : Int32)).toInt = 3) (by omega) (by omega)
  have n96 : nzI ((sy_i F 83) + ((4 : Int32))) (((sy_i F 83).toInt + 4)) := nz_add (rfl : (sy_i F 83).toInt = (sy_i F 83).toInt) (by decide : ((4 : Int32)).toInt = 4) (by omega) (by omega)
  have n99 : nzI ((sy_i F 83) + ((5 : Int32))) (((sy_i F 83).toInt + 5)) := nz_add (rfl : (sy_i F 83).toInt = (sy_i F 83).toInt) (by decide : ((5 : Int32)).toInt = 5) (by omega) (by omega)
  have n102 : nzI ((sy_i F 83) + ((6 : Int32))) (((sy_i F 83).toInt + 6)) := nz_add (rfl : (sy_i F 83).toInt = (sy_i F 83).toInt) (by decide : ((6 : Int32)).toInt = 6) (by omega) (by omega)
  have w104 : jm_upd (jm_upd (jm_upd (jm_upd (jm_upd (jm_upd (jm_upd (sy_ai F 77) (sy_i F 83).toNatClampNeg ((sy_ai F 53).getD (sy_i F 84).toNatClampNeg 0)) ((sy_i F 83) + ((1 : Int32))).toNatClampNeg ((sy_ai F 54).getD (sy_i F 84).toNatClampNeg 0)) ((sy_i F 83) + ((2 : Int32))).toNatClampNeg ((sy_ai F 55).getD (sy_i F 84).toNatClampNeg 0)) ((sy_i F 83) + ((3 : Int32))).toNatClampNeg ((sy_ai F 56).getD (sy_i F 84).toNatClampNeg 0)) ((sy_i F 83) + ((4 : Int32))).toNatClampNeg ((sy_ai F 57).getD (sy_i F 84).toNatClampNeg 0)) ((sy_i F 83) + ((5 : Int32))).toNatClampNeg ((sy_ai F 58).getD (sy_i F 84).toNatClampNeg 0)) ((sy_i F 83) + ((6 : Int32))).toNatClampNeg ((sy_ai F 59).getD (sy_i F 84).toNatClampNeg 0) = jm_upd (jm_upd (jm_upd (jm_upd (jm_upd (jm_upd (jm_upd (sy_ai F 77) ((sy_i F 83).toInt).toNat ((sy_ai F 53).getD ((sy_i F 84).toInt).toNat 0)) (((sy_i F 83).toInt + 1)).toNat ((sy_ai F 54).getD ((sy_i F 84).toInt).toNat 0)) (((sy_i F 83).toInt + 2)).toNat ((sy_ai F 55).getD ((sy_i F 84).toInt).toNat 0)) (((sy_i F 83).toInt + 3)).toNat ((sy_ai F 56).getD ((sy_i F 84).toInt).toNat 0)) (((sy_i F 83).toInt + 4)).toNat ((sy_ai F 57).getD ((sy_i F 84).toInt).toNat 0)) (((sy_i F 83).toInt + 5)).toNat ((sy_ai F 58).getD ((sy_i F 84).toInt).toNat 0)) (((sy_i F 83).toInt + 6)).toNat ((sy_ai F 59).getD ((sy_i F 84).toInt).toNat 0) := by simp only [nz_c, (nzE n87), (nzE n90), (nzE n93), (nzE n96), (nzE n99), (nzE n102), (by decide : ((1 : Int32)).toInt = 1), (by decide : ((2 : Int32)).toInt = 2), (by decide : ((3 : Int32)).toInt = 3), (by decide : ((4 : Int32)).toInt = 4), (by decide : ((5 : Int32)).toInt = 5), (by decide : ((6 : Int32)).toInt = 6)]
  have n105 : nzI ((sy_i F 83) + ((7 : Int32))) (((sy_i F 83).toInt + 7)) := nz_add (rfl : (sy_i F 83).toInt = (sy_i F 83).toInt) (by decide : ((7 : Int32)).toInt = 7) (by omega) (by omega)
  have n106 : nzI ((sy_i F 84) + ((1 : Int32))) (((sy_i F 84).toInt + 1)) := nz_add (rfl : (sy_i F 84).toInt = (sy_i F 84).toInt) (by decide : ((1 : Int32)).toInt = 1) (by omega) (by omega)
  exact j0svs_46_p1 hd F X1 X2 hB (by first | exact g0 | (simp only [nz_c]; exact g0)) (by first | exact ⟨by omega, by omega⟩ | (simp only [nz_c]; exact ⟨by omega, by omega⟩)) (by first | exact ⟨by omega, by omega⟩ | (simp only [nz_c]; exact ⟨by omega, by omega⟩)) (by first | exact ⟨by omega, by omega⟩ | (simp only [nz_c]; exact ⟨by omega, by omega⟩)) (by first | (simp only [nz_c, (nzE n87)]; exact ⟨by omega, by omega⟩) | exact ⟨by omega, by omega⟩ | (rw [(nzE n87)]; exact ⟨by omega, by omega⟩)) (by first | exact ⟨by omega, by omega⟩ | (simp only [nz_c]; exact ⟨by omega, by omega⟩)) (by first | (simp only [nz_c, (nzE n90)]; exact ⟨by omega, by omega⟩) | exact ⟨by omega, by omega⟩ | (rw [(nzE n90)]; exact ⟨by omega, by omega⟩)) (by first | exact ⟨by omega, by omega⟩ | (simp only [nz_c]; exact ⟨by omega, by omega⟩)) (by first | (simp only [nz_c, (nzE n93)]; exact ⟨by omega, by omega⟩) | exact ⟨by omega, by omega⟩ | (rw [(nzE n93)]; exact ⟨by omega, by omega⟩)) (by first | exact ⟨by omega, by omega⟩ | (simp only [nz_c]; exact ⟨by omega, by omega⟩)) (by first | (simp only [nz_c, (nzE n96)]; exact ⟨by omega, by omega⟩) | exact ⟨by omega, by omega⟩ | (rw [(nzE n96)]; exact ⟨by omega, by omega⟩)) (by first | exact ⟨by omega, by omega⟩ | (simp only [nz_c]; exact ⟨by omega, by omega⟩)) (by first | (simp only [nz_c, (nzE n99)]; exact ⟨by omega, by omega⟩) | exact ⟨by omega, by omega⟩ | (rw [(nzE n99)]; exact ⟨by omega, by omega⟩)) (by first | exact ⟨by omega, by omega⟩ | (simp only [nz_c]; exact ⟨by omega, by omega⟩)) (by first | (simp only [nz_c, (nzE n102)]; exact ⟨by omega, by omega⟩) | exact ⟨by omega, by omega⟩ | (rw [(nzE n102)]; exact ⟨by omega, by omega⟩)) (fun F1 g e77 e82 e83 e84 => k1 g0 F1 (nz_in0 hB [77] (fun j hj hn => g j hj (by simp only [List.mem_cons, List.not_mem_nil, or_false, not_or] at hn; omega)) (List.forall_mem_cons.mpr ⟨fun t ht => (Option.some.inj ht) ▸ (nz_hz2 e77), List.forall_mem_nil _⟩)) (fun j hj hn => g j hj (by simp only [List.mem_cons, List.not_mem_nil, or_false, not_or] at hn; omega)) ((zz_ai e77).trans w104) ((congrArg Int32.toInt (zz_i e82)).trans (rfl : (sy_i F 82).toInt = (sy_i F 82).toInt)) ((zz_i e82).trans (rfl : sy_i F 82 = sy_i F 82)) ((congrArg Int32.toInt (zz_i e83)).trans (nzE n105)) ((zz_i e83).trans (rfl : (sy_i F 83) + ((7 : Int32)) = (sy_i F 83) + ((7 : Int32)))) ((congrArg Int32.toInt (zz_i e84)).trans (nzE n106)) ((zz_i e84).trans (rfl : (sy_i F 84) + ((1 : Int32)) = (sy_i F 84) + ((1 : Int32)))))
theorem j0lds_0_p0 {Ls : Nat} {xs : Nat → Int32} {d : Nat} {Q : Option Value → jm_h → Prop} (hd : 1 ≤ d) (F : Nat → sy_d) (X1 X2 : List jm_c) (hB : iv_in F iv_B0)
    (h0 : 0 ≤ (sy_i F 82).toInt)
    (h1 : (sy_i F 82).toInt ≤ 120)
    (h2 : 0 ≤ (sy_i F 82).toInt ∧ (sy_i F 82).toInt < 180)
    (h3 : 0 ≤ ((sy_i F 82) + ((1 : Int32))).toInt ∧ ((sy_i F 82) + ((1 : Int32))).toInt < 180)
    (h4 : 0 ≤ ((sy_i F 82) + ((2 : Int32))).toInt ∧ ((sy_i F 82) + ((2 : Int32))).toInt < 180)
    (k : ∀ F1 : Nat → sy_d, (∀ j, j < 82 → j ≠ 50 ∧ j ≠ 51 ∧ j ≠ 52 → F1 j = F j) → F1 50 = .inl (.int ((sy_ai F 77).getD (sy_i F 82).toNatClampNeg 0)) → F1 51 = .inl (.int ((sy_ai F 77).getD ((sy_i F 82) + ((1 : Int32))).toNatClampNeg 0)) → F1 52 = .inl (.int ((sy_ai F 77).getD ((sy_i F 82) + ((2 : Int32))).toNatClampNeg 0)) → F1 82 = .inl (.int (sy_i F 82)) → F1 83 = .inl (.int ((sy_i F 82) + ((3 : Int32)))) → F1 84 = .inl (.int ((0 : Int32))) → hd_W Ls xs d jm_M10 Q (46, sy_dL F1 [some (.inl (.ref 46)), some (.inl (.ref 68)), some (.inr (.inl 82)), some (.inr (.inl 83)), some (.inr (.inl 84))], sy_dS F1 [], sy_dh F1 X1 X2 (iv_H 0), 0, 0)) :
    hd_W Ls xs d jm_M10 Q (0, sy_dL F [some (.inl (.ref 46)), some (.inl (.ref 68)), some (.inr (.inl 82)), none, none], sy_dS F [], sy_dh F X1 X2 (iv_H 0), 0, 0) := by
  refine hd_run (s := 0) (nv := 83) (pc := 46) (L := [some (.inl (.ref 46)), some (.inl (.ref 68)), some (.inr (.inl 82)), some (.inr (.inl 83)), some (.inr (.inl 84))]) (S := []) (uh := hd_ov (iv_id 0 iv_B0) [(50, .inl (.inr (.inl 83))), (51, .inl (.inr (.inl 85))), (52, .inl (.inr (.inl 87)))]) (ul := [.inl (.inr (.inl 82)), .inl (.inr (.inl 88)), .inl (.inl (.int 0))]) (f := true) (sp := [46]) (d0 := 0) (O := [false, true]) (T := [(30, [.inr (.inl 82)], [.inr (.inl 77)]), (0, [.inr (.inl 82), .inl (.int 1)], []), (30, [.inr (.inl 84)], [.inr (.inl 77)]), (0, [.inr (.inl 82), .inl (.int 2)], []), (30, [.inr (.inl 86)], [.inr (.inl 77)]), (0, [.inr (.inl 82), .inl (.int 3)], [])]) (P := [(3, .inr (.inl 82), .inl (.int 0)), (4, .inr (.inl 82), .inl (.int 120)), (6, .inr (.inl 82), .inl (.ref 180)), (6, .inr (.inl 84), .inl (.ref 180)), (6, .inr (.inl 86), .inl (.ref 180))]) jm_ok10 (by decide +kernel) (by decide +kernel) hd F X1 X2 (fun F' hF hs => ?_)
  have b82 := hd_b (F := F) (F' := F') (k := 82) (hF 82 (by decide))
  have t84 : sy_dv F' (.inr (.inl 84)) = .int ((sy_i F 82) + ((1 : Int32))) := hd_o (hs 1 _ rfl) b82 rfl rfl
  have t86 : sy_dv F' (.inr (.inl 86)) = .int ((sy_i F 82) + ((2 : Int32))) := hd_o (hs 3 _ rfl) b82 rfl rfl
  have a77 := hd_ba (F := F) (F' := F') (k := 77) (hF 77 (by decide))
  have t83 : sy_dv F' (.inr (.inl 83)) = .int ((sy_ai F 77).getD (sy_i F 82).toNatClampNeg 0) := hd_rd (hs 0 _ rfl) b82 a77
  have t85 : sy_dv F' (.inr (.inl 85)) = .int ((sy_ai F 77).getD ((sy_i F 82) + ((1 : Int32))).toNatClampNeg 0) := hd_rd (hs 2 _ rfl) t84 a77
  have t87 : sy_dv F' (.inr (.inl 87)) = .int ((sy_ai F 77).getD ((sy_i F 82) + ((2 : Int32))).toNatClampNeg 0) := hd_rd (hs 4 _ rfl) t86 a77
  have t88 : sy_dv F' (.inr (.inl 88)) = .int ((sy_i F 82) + ((3 : Int32))) := hd_o (hs 5 _ rfl) b82 rfl rfl
  have hB' : iv_in F' iv_B0 := iv_in_eq hB (fun j hj => hF j (Nat.lt_of_lt_of_le hj (by decide +kernel)))
  refine ⟨List.forall_mem_cons.mpr ⟨hd_p3 b82 rfl (by have hc : ((0) : Int32).toInt = 0 := (by decide); omega), List.forall_mem_cons.mpr ⟨hd_p4 b82 rfl (by have hc : ((120) : Int32).toInt = 120 := (by decide); omega), List.forall_mem_cons.mpr ⟨hd_pb b82 (by first | exact h2 | exact h2), List.forall_mem_cons.mpr ⟨hd_pb t84 (by first | exact h3 | exact h3), List.forall_mem_cons.mpr ⟨hd_pb t86 (by first | exact h4 | exact h4), fun _ h => absurd h List.not_mem_nil⟩⟩⟩⟩⟩, ?_⟩
  refine k _ ?_ ?_ ?_ ?_ ?_ ?_ ?_
  · exact fun j hj hn => (hd_keep hB' (Nat.lt_of_lt_of_le hj (by decide +kernel)) (by simp; omega)).trans (hF j (Nat.lt_of_lt_of_le hj (by decide)))
  · exact hd_gi (x := .inr (.inl 83)) (by decide +kernel) t83
  · exact hd_gi (x := .inr (.inl 85)) (by decide +kernel) t85
  · exact hd_gi (x := .inr (.inl 87)) (by decide +kernel) t87
  · exact hd_gi (x := .inr (.inl 82)) (by decide +kernel) b82
  · exact hd_gi (x := .inr (.inl 88)) (by decide +kernel) t88
  · exact hd_gi (x := .inl (.int 0)) (by decide +kernel) rfl
theorem j0lds_0 {Ls : Nat} {xs : Nat → Int32} {d : Nat} {Q : Option Value → jm_h → Prop} (hd : 1 ≤ d) (F : Nat → sy_d) (X1 X2 : List jm_c) (hB : iv_in F iv_B0)
    (a82 : 0 ≤ (sy_i F 82).toInt ∧ (sy_i F 82).toInt ≤ 120)
    (k0 : 0 ≤ (sy_i F 82).toInt → (sy_i F 82).toInt ≤ 120 → ∀ F1 : Nat → sy_d, iv_in F1 iv_B0 → (∀ j, j < 82 → j ∉ ([50, 51, 52] : List Nat) → F1 j = F j) → (sy_i F1 50).toInt = ((sy_ai F 77).getD ((sy_i F 82).toInt).toNat 0).toInt → sy_i F1 50 = (sy_ai F 77).getD ((sy_i F 82).toInt).toNat 0 → (sy_i F1 51).toInt = ((sy_ai F 77).getD (((sy_i F 82).toInt + 1)).toNat 0).toInt → sy_i F1 51 = (sy_ai F 77).getD (((sy_i F 82).toInt + 1)).toNat 0 → (sy_i F1 52).toInt = ((sy_ai F 77).getD (((sy_i F 82).toInt + 2)).toNat 0).toInt → sy_i F1 52 = (sy_ai F 77).getD (((sy_i F 82).toInt + 2)).toNat 0 → (sy_i F1 82).toInt = (sy_i F 82).toInt → sy_i F1 82 = sy_i F 82 → (sy_i F1 83).toInt = ((sy_i F 82).toInt + 3) → sy_i F1 83 = (sy_i F 82) + ((3 : Int32)) → (sy_i F1 84).toInt = 0 → sy_i F1 84 = (0 : Int32) → hd_W Ls xs d jm_M10 Q (46, sy_dL F1 [some (.inl (.ref 46)), some (.inl (.ref 68)), some (.inr (.inl 82)), some (.inr (.inl 83)), some (.inr (.inl 84))], sy_dS F1 [], sy_dh F1 X1 X2 (iv_H 0), 0, 0)) :
    hd_W Ls xs d jm_M10 Q (0, sy_dL F [some (.inl (.ref 46)), some (.inl (.ref 68)), some (.inr (.inl 82)), none, none], sy_dS F [], sy_dh F X1 X2 (iv_H 0), 0, 0) := by
  by_cases g0 : (sy_i F 82).toInt < 0
  · exfalso
    omega
  replace g0 : 0 ≤ (sy_i F 82).toInt := by omega
  by_cases g1 : (sy_i F 82).toInt ≤ 120
  · have n84 : nzI ((sy_i F 82) + ((1 : Int32))) (((sy_i F 82).toInt + 1)) := nz_add (rfl : (sy_i F 82).toInt = (sy_i F 82).toInt) (by decide : ((1 : Int32)).toInt = 1) (by omega) (by omega)
    have n86 : nzI ((sy_i F 82) + ((2 : Int32))) (((sy_i F 82).toInt + 2)) := nz_add (rfl : (sy_i F 82).toInt = (sy_i F 82).toInt) (by decide : ((2 : Int32)).toInt = 2) (by omega) (by omega)
    have q83 : (sy_ai F 77).getD (sy_i F 82).toNatClampNeg 0 = (sy_ai F 77).getD ((sy_i F 82).toInt).toNat 0 := by simp only [nz_c]
    have n83 : nzI ((sy_ai F 77).getD (sy_i F 82).toNatClampNeg 0) (((sy_ai F 77).getD ((sy_i F 82).toInt).toNat 0).toInt) := congrArg Int32.toInt q83
    have q85 : (sy_ai F 77).getD ((sy_i F 82) + ((1 : Int32))).toNatClampNeg 0 = (sy_ai F 77).getD (((sy_i F 82).toInt + 1)).toNat 0 := by simp only [nz_c, (nzE n84), (by decide : ((1 : Int32)).toInt = 1)]
    have n85 : nzI ((sy_ai F 77).getD ((sy_i F 82) + ((1 : Int32))).toNatClampNeg 0) (((sy_ai F 77).getD (((sy_i F 82).toInt + 1)).toNat 0).toInt) := congrArg Int32.toInt q85
    have q87 : (sy_ai F 77).getD ((sy_i F 82) + ((2 : Int32))).toNatClampNeg 0 = (sy_ai F 77).getD (((sy_i F 82).toInt + 2)).toNat 0 := by simp only [nz_c, (nzE n86), (by decide : ((2 : Int32)).toInt = 2)]
    have n87 : nzI ((sy_ai F 77).getD ((sy_i F 82) + ((2 : Int32))).toNatClampNeg 0) (((sy_ai F 77).getD (((sy_i F 82).toInt + 2)).toNat 0).toInt) := congrArg Int32.toInt q87
    have n88 : nzI ((sy_i F 82) + ((3 : Int32))) (((sy_i F 82).toInt + 3)) := nz_add (rfl : (sy_i F 82).toInt = (sy_i F 82).toInt) (by decide : ((3 : Int32)).toInt = 3) (by omega) (by omega)
    exact j0lds_0_p0 hd F X1 X2 hB (by first | exact g0 | (simp only [nz_c]; exact g0)) (by first | exact g1 | (simp only [nz_c]; exact g1)) (by first | exact ⟨by omega, by omega⟩ | (simp only [nz_c]; exact ⟨by omega, by omega⟩)) (by first | (simp only [nz_c, (nzE n84)]; exact ⟨by omega, by omega⟩) | exact ⟨by omega, by omega⟩ | (rw [(nzE n84)]; exact ⟨by omega, by omega⟩)) (by first | (simp only [nz_c, (nzE n86)]; exact ⟨by omega, by omega⟩) | exact ⟨by omega, by omega⟩ | (rw [(nzE n86)]; exact ⟨by omega, by omega⟩)) (fun F1 g e50 e51 e52 e82 e83 e84 => k0 g0 g1 F1 (nz_in0 hB [50, 51, 52] (fun j hj hn => g j hj (by simp only [List.mem_cons, List.not_mem_nil, or_false, not_or] at hn; omega)) (List.forall_mem_cons.mpr ⟨fun t ht => (Option.some.inj ht) ▸ (nz_hz e50), List.forall_mem_cons.mpr ⟨fun t ht => (Option.some.inj ht) ▸ (nz_hz e51), List.forall_mem_cons.mpr ⟨fun t ht => (Option.some.inj ht) ▸ (nz_hz e52), List.forall_mem_nil _⟩⟩⟩)) (fun j hj hn => g j hj (by simp only [List.mem_cons, List.not_mem_nil, or_false, not_or] at hn; omega)) ((congrArg Int32.toInt (zz_i e50)).trans (nzE n83)) ((zz_i e50).trans q83) ((congrArg Int32.toInt (zz_i e51)).trans (nzE n85)) ((zz_i e51).trans q85) ((congrArg Int32.toInt (zz_i e52)).trans (nzE n87)) ((zz_i e52).trans q87) ((congrArg Int32.toInt (zz_i e82)).trans (rfl : (sy_i F 82).toInt = (sy_i F 82).toInt)) ((zz_i e82).trans (rfl : sy_i F 82 = sy_i F 82)) ((congrArg Int32.toInt (zz_i e83)).trans (nzE n88)) ((zz_i e83).trans (rfl : (sy_i F 82) + ((3 : Int32)) = (sy_i F 82) + ((3 : Int32)))) ((congrArg Int32.toInt (zz_i e84)).trans (by decide : ((0 : Int32)).toInt = 0)) ((zz_i e84).trans (rfl : (0 : Int32) = (0 : Int32))))
  replace g1 : 120 < (sy_i F 82).toInt := by omega
  exfalso
  omega
theorem j0lds_46_p0 {Ls : Nat} {xs : Nat → Int32} {d : Nat} {Q : Option Value → jm_h → Prop} (hd : 1 ≤ d) (F : Nat → sy_d) (X1 X2 : List jm_c) (hB : iv_in F iv_B0)
    (h0 : 7 ≤ (sy_i F 84).toInt)
    (h1 : 0 ≤ (sy_i F 83).toInt ∧ (sy_i F 83).toInt < 177)
    (h2 : 0 ≤ ((sy_i F 83) + ((4 : Int32))).toInt ∧ ((sy_i F 83) + ((4 : Int32))).toInt < 177)
    (k : ∀ F1 : Nat → sy_d, (∀ j, j < 82 → j ≠ 60 ∧ j ≠ 61 → F1 j = F j) → F1 60 = .inr (.inl (jm_cpy (sy_ai F 77) (sy_ai F 60) (sy_i F 83).toNatClampNeg ((0 : Int32)).toNatClampNeg ((4 : Int32)).toNatClampNeg)) → F1 61 = .inr (.inl (jm_cpy (sy_ai F 77) (sy_ai F 61) ((sy_i F 83) + ((4 : Int32))).toNatClampNeg ((0 : Int32)).toNatClampNeg ((4 : Int32)).toNatClampNeg)) → Q (none) (sy_dh F1 X1 X2 (iv_H 0))) :
    hd_W Ls xs d jm_M10 Q (46, sy_dL F [some (.inl (.ref 46)), some (.inl (.ref 68)), some (.inr (.inl 82)), some (.inr (.inl 83)), some (.inr (.inl 84))], sy_dS F [], sy_dh F X1 X2 (iv_H 0), 0, 0) := by
  refine hd_ret (s := 0) (nv := 85) (v := none) (uh := hd_ov (iv_id 0 iv_B0) [(60, .inr (.inr (.inl 85))), (61, .inr (.inr (.inl 87)))]) (f := true) (sp := [46]) (d0 := 0) (O := [true]) (T := [(42, [.inr (.inl 83), .inl (.int 0), .inl (.int 4)], [.inr (.inl 77), .inr (.inl 60)]), (0, [.inr (.inl 83), .inl (.int 4)], []), (42, [.inr (.inl 86), .inl (.int 0), .inl (.int 4)], [.inr (.inl 77), .inr (.inl 61)])]) (P := [(4, .inl (.int 7), .inr (.inl 84)), (6, .inr (.inl 83), .inl (.ref 177)), (6, .inr (.inl 86), .inl (.ref 177))]) jm_ok10 (by decide +kernel) (by decide +kernel) hd F X1 X2 (fun F' hF hs => ?_)
  have b84 := hd_b (F := F) (F' := F') (k := 84) (hF 84 (by decide))
  have b83 := hd_b (F := F) (F' := F') (k := 83) (hF 83 (by decide))
  have t86 : sy_dv F' (.inr (.inl 86)) = .int ((sy_i F 83) + ((4 : Int32))) := hd_o (hs 1 _ rfl) b83 rfl rfl
  have a77 := hd_ba (F := F) (F' := F') (k := 77) (hF 77 (by decide))
  have a60 := hd_ba (F := F) (F' := F') (k := 60) (hF 60 (by decide))
  have t85 : sy_da F' (.inr (.inl 85)) = .inl (jm_cpy (sy_ai F 77) (sy_ai F 60) (sy_i F 83).toNatClampNeg ((0 : Int32)).toNatClampNeg ((4 : Int32)).toNatClampNeg) := hd_cp (hs 0 _ rfl) b83 rfl rfl a77 a60
  have a61 := hd_ba (F := F) (F' := F') (k := 61) (hF 61 (by decide))
  have t87 : sy_da F' (.inr (.inl 87)) = .inl (jm_cpy (sy_ai F 77) (sy_ai F 61) ((sy_i F 83) + ((4 : Int32))).toNatClampNeg ((0 : Int32)).toNatClampNeg ((4 : Int32)).toNatClampNeg) := hd_cp (hs 2 _ rfl) t86 rfl rfl a77 a61
  have hB' : iv_in F' iv_B0 := iv_in_eq hB (fun j hj => hF j (Nat.lt_of_lt_of_le hj (by decide +kernel)))
  refine ⟨List.forall_mem_cons.mpr ⟨hd_p4 rfl b84 (by have hc : ((7) : Int32).toInt = 7 := (by decide); omega), List.forall_mem_cons.mpr ⟨hd_pb b83 (by first | exact h1 | exact h1), List.forall_mem_cons.mpr ⟨hd_pb t86 (by first | exact h2 | exact h2), fun _ h => absurd h List.not_mem_nil⟩⟩⟩, ?_⟩
  refine k _ ?_ ?_ ?_
  · exact fun j hj hn => (hd_keep hB' (Nat.lt_of_lt_of_le hj (by decide +kernel)) (by simp; omega)).trans (hF j (Nat.lt_of_lt_of_le hj (by decide)))
  · exact hd_ga (a := .inr (.inl 85)) (by decide +kernel) t85
  · exact hd_ga (a := .inr (.inl 87)) (by decide +kernel) t87
theorem j0lds_46_p1 {Ls : Nat} {xs : Nat → Int32} {d : Nat} {Q : Option Value → jm_h → Prop} (hd : 1 ≤ d) (F : Nat → sy_d) (X1 X2 : List jm_c) (hB : iv_in F iv_B0)
    (h0 : (sy_i F 84).toInt < 7)
    (h1 : 0 ≤ (sy_i F 83).toInt ∧ (sy_i F 83).toInt < 180)
    (h2 : 0 ≤ (sy_i F 84).toInt ∧ (sy_i F 84).toInt < 7)
    (h3 : 0 ≤ ((sy_i F 83) + ((1 : Int32))).toInt ∧ ((sy_i F 83) + ((1 : Int32))).toInt < 180)
    (h4 : 0 ≤ (sy_i F 84).toInt ∧ (sy_i F 84).toInt < 7)
    (h5 : 0 ≤ ((sy_i F 83) + ((2 : Int32))).toInt ∧ ((sy_i F 83) + ((2 : Int32))).toInt < 180)
    (h6 : 0 ≤ (sy_i F 84).toInt ∧ (sy_i F 84).toInt < 7)
    (h7 : 0 ≤ ((sy_i F 83) + ((3 : Int32))).toInt ∧ ((sy_i F 83) + ((3 : Int32))).toInt < 180)
    (h8 : 0 ≤ (sy_i F 84).toInt ∧ (sy_i F 84).toInt < 7)
    (h9 : 0 ≤ ((sy_i F 83) + ((4 : Int32))).toInt ∧ ((sy_i F 83) + ((4 : Int32))).toInt < 180)
    (h10 : 0 ≤ (sy_i F 84).toInt ∧ (sy_i F 84).toInt < 7)
    (h11 : 0 ≤ ((sy_i F 83) + ((5 : Int32))).toInt ∧ ((sy_i F 83) + ((5 : Int32))).toInt < 180)
    (h12 : 0 ≤ (sy_i F 84).toInt ∧ (sy_i F 84).toInt < 7)
    (h13 : 0 ≤ ((sy_i F 83) + ((6 : Int32))).toInt ∧ ((sy_i F 83) + ((6 : Int32))).toInt < 180)
    (h14 : 0 ≤ (sy_i F 84).toInt ∧ (sy_i F 84).toInt < 7)
    (k : ∀ F1 : Nat → sy_d, (∀ j, j < 82 → j ≠ 53 ∧ j ≠ 54 ∧ j ≠ 55 ∧ j ≠ 56 ∧ j ≠ 57 ∧ j ≠ 58 ∧ j ≠ 59 → F1 j = F j) → F1 53 = .inr (.inl (jm_upd (sy_ai F 53) (sy_i F 84).toNatClampNeg ((sy_ai F 77).getD (sy_i F 83).toNatClampNeg 0))) → F1 54 = .inr (.inl (jm_upd (sy_ai F 54) (sy_i F 84).toNatClampNeg ((sy_ai F 77).getD ((sy_i F 83) + ((1 : Int32))).toNatClampNeg 0))) → F1 55 = .inr (.inl (jm_upd (sy_ai F 55) (sy_i F 84).toNatClampNeg ((sy_ai F 77).getD ((sy_i F 83) + ((2 : Int32))).toNatClampNeg 0))) → F1 56 = .inr (.inl (jm_upd (sy_ai F 56) (sy_i F 84).toNatClampNeg ((sy_ai F 77).getD ((sy_i F 83) + ((3 : Int32))).toNatClampNeg 0))) → F1 57 = .inr (.inl (jm_upd (sy_ai F 57) (sy_i F 84).toNatClampNeg ((sy_ai F 77).getD ((sy_i F 83) + ((4 : Int32))).toNatClampNeg 0))) → F1 58 = .inr (.inl (jm_upd (sy_ai F 58) (sy_i F 84).toNatClampNeg ((sy_ai F 77).getD ((sy_i F 83) + ((5 : Int32))).toNatClampNeg 0))) → F1 59 = .inr (.inl (jm_upd (sy_ai F 59) (sy_i F 84).toNatClampNeg ((sy_ai F 77).getD ((sy_i F 83) + ((6 : Int32))).toNatClampNeg 0))) → F1 82 = .inl (.int (sy_i F 82)) → F1 83 = .inl (.int ((sy_i F 83) + ((7 : Int32)))) → F1 84 = .inl (.int ((sy_i F 84) + ((1 : Int32)))) → hd_W Ls xs d jm_M10 Q (46, sy_dL F1 [some (.inl (.ref 46)), some (.inl (.ref 68)), some (.inr (.inl 82)), some (.inr (.inl 83)), some (.inr (.inl 84))], sy_dS F1 [], sy_dh F1 X1 X2 (iv_H 0), 0, 0)) :
    hd_W Ls xs d jm_M10 Q (46, sy_dL F [some (.inl (.ref 46)), some (.inl (.ref 68)), some (.inr (.inl 82)), some (.inr (.inl 83)), some (.inr (.inl 84))], sy_dS F [], sy_dh F X1 X2 (iv_H 0), 0, 0) := by
  refine hd_run (s := 0) (nv := 85) (pc := 46) (L := [some (.inl (.ref 46)), some (.inl (.ref 68)), some (.inr (.inl 82)), some (.inr (.inl 83)), some (.inr (.inl 84))]) (S := []) (uh := hd_ov (iv_id 0 iv_B0) [(53, .inr (.inr (.inl 86))), (54, .inr (.inr (.inl 89))), (55, .inr (.inr (.inl 92))), (56, .inr (.inr (.inl 95))), (57, .inr (.inr (.inl 98))), (58, .inr (.inr (.inl 101))), (59, .inr (.inr (.inl 104)))]) (ul := [.inl (.inr (.inl 82)), .inl (.inr (.inl 105)), .inl (.inr (.inl 106))]) (f := true) (sp := [46]) (d0 := 0) (O := [false]) (T := [(30, [.inr (.inl 83)], [.inr (.inl 77)]), (40, [.inr (.inl 84), .inr (.inl 85)], [.inr (.inl 53)]), (0, [.inr (.inl 83), .inl (.int 1)], []), (30, [.inr (.inl 87)], [.inr (.inl 77)]), (40, [.inr (.inl 84), .inr (.inl 88)], [.inr (.inl 54)]), (0, [.inr (.inl 83), .inl (.int 2)], []), (30, [.inr (.inl 90)], [.inr (.inl 77)]), (40, [.inr (.inl 84), .inr (.inl 91)], [.inr (.inl 55)]), (0, [.inr (.inl 83), .inl (.int 3)], []), (30, [.inr (.inl 93)], [.inr (.inl 77)]), (40, [.inr (.inl 84), .inr (.inl 94)], [.inr (.inl 56)]), (0, [.inr (.inl 83), .inl (.int 4)], []), (30, [.inr (.inl 96)], [.inr (.inl 77)]), (40, [.inr (.inl 84), .inr (.inl 97)], [.inr (.inl 57)]), (0, [.inr (.inl 83), .inl (.int 5)], []), (30, [.inr (.inl 99)], [.inr (.inl 77)]), (40, [.inr (.inl 84), .inr (.inl 100)], [.inr (.inl 58)]), (0, [.inr (.inl 83), .inl (.int 6)], []), (30, [.inr (.inl 102)], [.inr (.inl 77)]), (40, [.inr (.inl 84), .inr (.inl 103)], [.inr (.inl 59)]), (0, [.inr (.inl 83), .inl (.int 7)], []), (0, [.inr (.inl 84), .inl (.int 1)], [])]) (P := [(5, .inl (.int 7), .inr (.inl 84)), (6, .inr (.inl 83), .inl (.ref 180)), (6, .inr (.inl 84), .inl (.ref 7)), (6, .inr (.inl 87), .inl (.ref 180)), (6, .inr (.inl 84), .inl (.ref 7)), (6, .inr (.inl 90), .inl (.ref 180)), (6, .inr (.inl 84), .inl (.ref 7)), (6, .inr (.inl 93), .inl (.ref 180)), (6, .inr (.inl 84), .inl (.ref 7)), (6, .inr (.inl 96), .inl (.ref 180)), (6, .inr (.inl 84), .inl (.ref 7)), (6, .inr (.inl 99), .inl (.ref 180)), (6, .inr (.inl 84), .inl (.ref 7)), (6, .inr (.inl 102), .inl (.ref 180)), (6, .inr (.inl 84), .inl (.ref 7))]) jm_ok10 (by decide +kernel) (by decide +kernel) hd F X1 X2 (fun F' hF hs => ?_)
  have b84 := hd_b (F := F) (F' := F') (k := 84) (hF 84 (by decide))
  have b83 := hd_b (F := F) (F' := F') (k := 83) (hF 83 (by decide))
  have t87 : sy_dv F' (.inr (.inl 87)) = .int ((sy_i F 83) + ((1 : Int32))) := hd_o (hs 2 _ rfl) b83 rfl rfl
  have t90 : sy_dv F' (.inr (.inl 90)) = .int ((sy_i F 83) + ((2 : Int32))) := hd_o (hs 5 _ rfl) b83 rfl rfl
  have t93 : sy_dv F' (.inr (.inl 93)) = .int ((sy_i F 83) + ((3 : Int32))) := hd_o (hs 8 _ rfl) b83 rfl rfl
  have t96 : sy_dv F' (.inr (.inl 96)) = .int ((sy_i F 83) + ((4 : Int32))) := hd_o (hs 11 _ rfl) b83 rfl rfl
  have t99 : sy_dv F' (.inr (.inl 99)) = .int ((sy_i F 83) + ((5 : Int32))) := hd_o (hs 14 _ rfl) b83 rfl rfl
  have t102 : sy_dv F' (.inr (.inl 102)) = .int ((sy_i F 83) + ((6 : Int32))) := hd_o (hs 17 _ rfl) b83 rfl rfl
  have a77 := hd_ba (F := F) (F' := F') (k := 77) (hF 77 (by decide))
  have t85 : sy_dv F' (.inr (.inl 85)) = .int ((sy_ai F 77).getD (sy_i F 83).toNatClampNeg 0) := hd_rd (hs 0 _ rfl) b83 a77
  have a53 := hd_ba (F := F) (F' := F') (k := 53) (hF 53 (by decide))
  have t86 : sy_da F' (.inr (.inl 86)) = .inl (jm_upd (sy_ai F 53) (sy_i F 84).toNatClampNeg ((sy_ai F 77).getD (sy_i F 83).toNatClampNeg 0)) := hd_up (hs 1 _ rfl) b84 t85 a53
  have t88 : sy_dv F' (.inr (.inl 88)) = .int ((sy_ai F 77).getD ((sy_i F 83) + ((1 : Int32))).toNatClampNeg 0) := hd_rd (hs 3 _ rfl) t87 a77
  have a54 := hd_ba (F := F) (F' := F') (k := 54) (hF 54 (by decide))
  have t89 : sy_da F' (.inr (.inl 89)) = .inl (jm_upd (sy_ai F 54) (sy_i F 84).toNatClampNeg ((sy_ai F 77).getD ((sy_i F 83) + ((1 : Int32))).toNatClampNeg 0)) := hd_up (hs 4 _ rfl) b84 t88 a54
  have t91 : sy_dv F' (.inr (.inl 91)) = .int ((sy_ai F 77).getD ((sy_i F 83) + ((2 : Int32))).toNatClampNeg 0) := hd_rd (hs 6 _ rfl) t90 a77
  have a55 := hd_ba (F := F) (F' := F') (k := 55) (hF 55 (by decide))
  have t92 : sy_da F' (.inr (.inl 92)) = .inl (jm_upd (sy_ai F 55) (sy_i F 84).toNatClampNeg ((sy_ai F 77).getD ((sy_i F 83) + ((2 : Int32))).toNatClampNeg 0)) := hd_up (hs 7 _ rfl) b84 t91 a55
  have t94 : sy_dv F' (.inr (.inl 94)) = .int ((sy_ai F 77).getD ((sy_i F 83) + ((3 : Int32))).toNatClampNeg 0) := hd_rd (hs 9 _ rfl) t93 a77
  have a56 := hd_ba (F := F) (F' := F') (k := 56) (hF 56 (by decide))
  have t95 : sy_da F' (.inr (.inl 95)) = .inl (jm_upd (sy_ai F 56) (sy_i F 84).toNatClampNeg ((sy_ai F 77).getD ((sy_i F 83) + ((3 : Int32))).toNatClampNeg 0)) := hd_up (hs 10 _ rfl) b84 t94 a56
  have t97 : sy_dv F' (.inr (.inl 97)) = .int ((sy_ai F 77).getD ((sy_i F 83) + ((4 : Int32))).toNatClampNeg 0) := hd_rd (hs 12 _ rfl) t96 a77
  have a57 := hd_ba (F := F) (F' := F') (k := 57) (hF 57 (by decide))
  have t98 : sy_da F' (.inr (.inl 98)) = .inl (jm_upd (sy_ai F 57) (sy_i F 84).toNatClampNeg ((sy_ai F 77).getD ((sy_i F 83) + ((4 : Int32))).toNatClampNeg 0)) := hd_up (hs 13 _ rfl) b84 t97 a57
  have t100 : sy_dv F' (.inr (.inl 100)) = .int ((sy_ai F 77).getD ((sy_i F 83) + ((5 : Int32))).toNatClampNeg 0) := hd_rd (hs 15 _ rfl) t99 a77
  have a58 := hd_ba (F := F) (F' := F') (k := 58) (hF 58 (by decide))
  have t101 : sy_da F' (.inr (.inl 101)) = .inl (jm_upd (sy_ai F 58) (sy_i F 84).toNatClampNeg ((sy_ai F 77).getD ((sy_i F 83) + ((5 : Int32))).toNatClampNeg 0)) := hd_up (hs 16 _ rfl) b84 t100 a58
  have t103 : sy_dv F' (.inr (.inl 103)) = .int ((sy_ai F 77).getD ((sy_i F 83) + ((6 : Int32))).toNatClampNeg 0) := hd_rd (hs 18 _ rfl) t102 a77
  have a59 := hd_ba (F := F) (F' := F') (k := 59) (hF 59 (by decide))
  have t104 : sy_da F' (.inr (.inl 104)) = .inl (jm_upd (sy_ai F 59) (sy_i F 84).toNatClampNeg ((sy_ai F 77).getD ((sy_i F 83) + ((6 : Int32))).toNatClampNeg 0)) := hd_up (hs 19 _ rfl) b84 t103 a59
  have b82 := hd_b (F := F) (F' := F') (k := 82) (hF 82 (by decide))
  have t105 : sy_dv F' (.inr (.inl 105)) = .int ((sy_i F 83) + ((7 : Int32))) := hd_o (hs 20 _ rfl) b83 rfl rfl
  have t106 : sy_dv F' (.inr (.inl 106)) = .int ((sy_i F 84) + ((1 : Int32))) := hd_o (hs 21 _ rfl) b84 rfl rfl
  have hB' : iv_in F' iv_B0 := iv_in_eq hB (fun j hj => hF j (Nat.lt_of_lt_of_le hj (by decide +kernel)))
  refine ⟨List.forall_mem_cons.mpr ⟨hd_p5 rfl b84 (by have hc : ((7) : Int32).toInt = 7 := (by decide); omega), List.forall_mem_cons.mpr ⟨hd_pb b83 (by first | exact h1 | exact h1), List.forall_mem_cons.mpr ⟨hd_pb b84 (by first | exact h2 | exact h2), List.forall_mem_cons.mpr ⟨hd_pb t87 (by first | exact h3 | exact h3), List.forall_mem_cons.mpr ⟨hd_pb b84 (by first | exact h4 | exact h4), List.forall_mem_cons.mpr ⟨hd_pb t90 (by first | exact h5 | exact h5), List.forall_mem_cons.mpr ⟨hd_pb b84 (by first | exact h6 | exact h6), List.forall_mem_cons.mpr ⟨hd_pb t93 (by first | exact h7 | exact h7), List.forall_mem_cons.mpr ⟨hd_pb b84 (by first | exact h8 | exact h8), List.forall_mem_cons.mpr ⟨hd_pb t96 (by first | exact h9 | exact h9), List.forall_mem_cons.mpr ⟨hd_pb b84 (by first | exact h10 | exact h10), List.forall_mem_cons.mpr ⟨hd_pb t99 (by first | exact h11 | exact h11), List.forall_mem_cons.mpr ⟨hd_pb b84 (by first | exact h12 | exact h12), List.forall_mem_cons.mpr ⟨hd_pb t102 (by first | exact h13 | exact h13), List.forall_mem_cons.mpr ⟨hd_pb b84 (by first | exact h14 | exact h14), fun _ h => absurd h List.not_mem_nil⟩⟩⟩⟩⟩⟩⟩⟩⟩⟩⟩⟩⟩⟩⟩, ?_⟩
  refine k _ ?_ ?_ ?_ ?_ ?_ ?_ ?_ ?_ ?_ ?_ ?_
  · exact fun j hj hn => (hd_keep hB' (Nat.lt_of_lt_of_le hj (by decide +kernel)) (by simp; omega)).trans (hF j (Nat.lt_of_lt_of_le hj (by decide)))
  · exact hd_ga (a := .inr (.inl 86)) (by decide +kernel) t86
  · exact hd_ga (a := .inr (.inl 89)) (by decide +kernel) t89
  · exact hd_ga (a := .inr (.inl 92)) (by decide +kernel) t92
  · exact hd_ga (a := .inr (.inl 95)) (by decide +kernel) t95
  · exact hd_ga (a := .inr (.inl 98)) (by decide +kernel) t98
  · exact hd_ga (a := .inr (.inl 101)) (by decide +kernel) t101
  · exact hd_ga (a := .inr (.inl 104)) (by decide +kernel) t104
  · exact hd_gi (x := .inr (.inl 82)) (by decide +kernel) b82
  · exact hd_gi (x := .inr (.inl 105)) (by decide +kernel) t105
  · exact hd_gi (x := .inr (.inl 106)) (by decide +kernel) t106
theorem j0lds_46 {Ls : Nat} {xs : Nat → Int32} {d : Nat} {Q : Option Value → jm_h → Prop} (hd : 1 ≤ d) (F : Nat → sy_d) (X1 X2 : List jm_c) (hB : iv_in F iv_B0)
    (a82 : 0 ≤ (sy_i F 82).toInt ∧ (sy_i F 82).toInt ≤ 120)
    (a83 : 3 ≤ (sy_i F 83).toInt ∧ (sy_i F 83).toInt ≤ 172)
    (a84 : 0 ≤ (sy_i F 84).toInt ∧ (sy_i F 84).toInt ≤ 7)
    (k0 : 7 ≤ (sy_i F 84).toInt → ∀ F1 : Nat → sy_d, iv_in F1 iv_B0 → (∀ j, j < 82 → j ∉ ([60, 61] : List Nat) → F1 j = F j) → sy_ai F1 60 = jm_cpy (sy_ai F 77) (sy_ai F 60) ((sy_i F 83).toInt).toNat (0 : Int).toNat (4 : Int).toNat → sy_ai F1 61 = jm_cpy (sy_ai F 77) (sy_ai F 61) (((sy_i F 83).toInt + 4)).toNat (0 : Int).toNat (4 : Int).toNat → Q (none) (sy_dh F1 X1 X2 (iv_H 0)))
    (k1 : (sy_i F 84).toInt < 7 → ∀ F1 : Nat → sy_d, iv_in F1 iv_B0 → (∀ j, j < 82 → j ∉ ([53, 54, 55, 56, 57, 58, 59] : List Nat) → F1 j = F j) → sy_ai F1 53 = jm_upd (sy_ai F 53) ((sy_i F 84).toInt).toNat ((sy_ai F 77).getD ((sy_i F 83).toInt).toNat 0) → sy_ai F1 54 = jm_upd (sy_ai F 54) ((sy_i F 84).toInt).toNat ((sy_ai F 77).getD (((sy_i F 83).toInt + 1)).toNat 0) → sy_ai F1 55 = jm_upd (sy_ai F 55) ((sy_i F 84).toInt).toNat ((sy_ai F 77).getD (((sy_i F 83).toInt + 2)).toNat 0) → sy_ai F1 56 = jm_upd (sy_ai F 56) ((sy_i F 84).toInt).toNat ((sy_ai F 77).getD (((sy_i F 83).toInt + 3)).toNat 0) → sy_ai F1 57 = jm_upd (sy_ai F 57) ((sy_i F 84).toInt).toNat ((sy_ai F 77).getD (((sy_i F 83).toInt + 4)).toNat 0) → sy_ai F1 58 = jm_upd (sy_ai F 58) ((sy_i F 84).toInt).toNat ((sy_ai F 77).getD (((sy_i F 83).toInt + 5)).toNat 0) → sy_ai F1 59 = jm_upd (sy_ai F 59) ((sy_i F 84).toInt).toNat ((sy_ai F 77).getD (((sy_i F 83).toInt + 6)).toNat 0) → (sy_i F1 82).toInt = (sy_i F 82).toInt → sy_i F1 82 = sy_i F 82 → (sy_i F1 83).toInt = ((sy_i F 83).toInt + 7) → sy_i F1 83 = (sy_i F 83) + ((7 : Int32)) → (sy_i F1 84).toInt = ((sy_i F 84).toInt + 1) → sy_i F1 84 = (sy_i F 84) + ((1 : Int32)) → hd_W Ls xs d jm_M10 Q (46, sy_dL F1 [some (.inl (.ref 46)), some (.inl (.ref 68)), some (.inr (.inl 82)), some (.inr (.inl 83)), some (.inr (.inl 84))], sy_dS F1 [], sy_dh F1 X1 X2 (iv_H 0), 0, 0)) :
    hd_W Ls xs d jm_M10 Q (46, sy_dL F [some (.inl (.ref 46)), some (.inl (.ref 68)), some (.inr (.inl 82)), some (.inr (.inl 83)), some (.inr (.inl 84))], sy_dS F [], sy_dh F X1 X2 (iv_H 0), 0, 0) := by
  by_cases g0 : 7 ≤ (sy_i F 84).toInt
  · have n86 : nzI ((sy_i F 83) + ((4 : Int32))) (((sy_i F 83).toInt + 4)) := nz_add (rfl : (sy_i F 83).toInt = (sy_i F 83).toInt) (by decide : ((4 : Int32)).toInt = 4) (by omega) (by omega)
    have w85 : jm_cpy (sy_ai F 77) (sy_ai F 60) (sy_i F 83).toNatClampNeg ((0 : Int32)).toNatClampNeg ((4 : Int32)).toNatClampNeg = jm_cpy (sy_ai F 77) (sy_ai F 60) ((sy_i F 83).toInt).toNat (0 : Int).toNat (4 : Int).toNat := by simp only [nz_c, (by decide : ((0 : Int32)).toInt = 0), (by decide : ((4 : Int32)).toInt = 4)]
    have w87 : jm_cpy (sy_ai F 77) (sy_ai F 61) ((sy_i F 83) + ((4 : Int32))).toNatClampNeg ((0 : Int32)).toNatClampNeg ((4 : Int32)).toNatClampNeg = jm_cpy (sy_ai F 77) (sy_ai F 61) (((sy_i F 83).toInt + 4)).toNat (0 : Int).toNat (4 : Int).toNat := by simp only [nz_c, (nzE n86), (by decide : ((0 : Int32)).toInt = 0), (by decide : ((4 : Int32)).toInt = 4)]
    exact j0lds_46_p0 hd F X1 X2 hB (by first | exact g0 | (simp only [nz_c]; exact g0)) (by first | exact ⟨by omega, by omega⟩ | (simp only [nz_c]; exact ⟨by omega, by omega⟩)) (by first | (simp only [nz_c, (nzE n86)]; exact ⟨by omega, by omega⟩) | exact ⟨by omega, by omega⟩ | (rw [(nzE n86)]; exact ⟨by omega, by omega⟩)) (fun F1 g e60 e61 => k0 g0 F1 (nz_in0 hB [60, 61] (fun j hj hn => g j hj (by simp only [List.mem_cons, List.not_mem_nil, or_false, not_or] at hn; omega)) (List.forall_mem_cons.mpr ⟨fun t ht => (Option.some.inj ht) ▸ (nz_hz2 e60), List.forall_mem_cons.mpr ⟨fun t ht => (Option.some.inj ht) ▸ (nz_hz2 e61), List.forall_mem_nil _⟩⟩)) (fun j hj hn => g j hj (by simp only [List.mem_cons, List.not_mem_nil, or_false, not_or] at hn; omega)) ((zz_ai e60).trans w85) ((zz_ai e61).trans w87))
  replace g0 : (sy_i F 84).toInt < 7 := by omega
  have n87 : nzI ((sy_i F 83) + ((1 : Int32))) (((sy_i F 83).toInt + 1)) := nz_add (rfl : (sy_i F 83).toInt = (sy_i F 83).toInt) (by decide : ((1 : Int32)).toInt = 1) (by omega) (by omega)
  have n90 : nzI ((sy_i F 83) + ((2 : Int32))) (((sy_i F 83).toInt + 2)) := nz_add (rfl : (sy_i F 83).toInt = (sy_i F 83).toInt) (by decide : ((2 : Int32)).toInt = 2) (by omega) (by omega)
  have n93 : nzI ((sy_i F 83) + ((3 : Int32))) (((sy_i F 83).toInt + 3)) := nz_add (rfl : (sy_i F 83).toInt = (sy_i F 83).toInt) (by decide : ((3 : Int32)).toInt = 3) (by omega) (by omega)
  have n96 : nzI ((sy_i F 83) + ((4 : Int32))) (((sy_i F 83).toInt + 4)) := nz_add (rfl : (sy_i F 83).toInt = (sy_i F 83).toInt) (by decide : ((4 : Int32)).toInt = 4) (by omega) (by omega)
  have n99 : nzI ((sy_i F 83) + ((5 : Int32))) (((sy_i F 83).toInt + 5)) := nz_add (rfl : (sy_i F 83).toInt = (sy_i F 83).toInt) (by decide : ((5 : Int32)).toInt = 5) (by omega) (by omega)
  have n102 : nzI ((sy_i F 83) + ((6 : Int32))) (((sy_i F 83).toInt + 6)) := nz_add (rfl : (sy_i F 83).toInt = (sy_i F 83).toInt) (by decide : ((6 : Int32)).toInt = 6) (by omega) (by omega)
  have w86 : jm_upd (sy_ai F 53) (sy_i F 84).toNatClampNeg ((sy_ai F 77).getD (sy_i F 83).toNatClampNeg 0) = jm_upd (sy_ai F 53) ((sy_i F 84).toInt).toNat ((sy_ai F 77).getD ((sy_i F 83).toInt).toNat 0) := by simp only [nz_c]
  have w89 : jm_upd (sy_ai F 54) (sy_i F 84).toNatClampNeg ((sy_ai F 77).getD ((sy_i F 83) + ((1 : Int32))).toNatClampNeg 0) = jm_upd (sy_ai F 54) ((sy_i F 84).toInt).toNat ((sy_ai F 77).getD (((sy_i F 83).toInt + 1)).toNat 0) := by simp only [nz_c, (nzE n87), (by decide : ((1 : Int32)).toInt = 1)]
  have w92 : jm_upd (sy_ai F 55) (sy_i F 84).toNatClampNeg ((sy_ai F 77).getD ((sy_i F 83) + ((2 : Int32))).toNatClampNeg 0) = jm_upd (sy_ai F 55) ((sy_i F 84).toInt).toNat ((sy_ai F 77).getD (((sy_i F 83).toInt + 2)).toNat 0) := by simp only [nz_c, (nzE n90), (by decide : ((2 : Int32)).toInt = 2)]
  have w95 : jm_upd (sy_ai F 56) (sy_i F 84).toNatClampNeg ((sy_ai F 77).getD ((sy_i F 83) + ((3 : Int32))).toNatClampNeg 0) = jm_upd (sy_ai F 56) ((sy_i F 84).toInt).toNat ((sy_ai F 77).getD (((sy_i F 83).toInt + 3)).toNat 0) := by simp only [nz_c, (nzE n93), (by decide : ((3 : Int32)).toInt = 3)]
  have w98 : jm_upd (sy_ai F 57) (sy_i F 84).toNatClampNeg ((sy_ai F 77).getD ((sy_i F 83) + ((4 : Int32))).toNatClampNeg 0) = jm_upd (sy_ai F 57) ((sy_i F 84).toInt).toNat ((sy_ai F 77).getD (((sy_i F 83).toInt + 4)).toNat 0) := by simp only [nz_c, (nzE n96), (by decide : ((4 : Int32)).toInt = 4)]
  have w101 : jm_upd (sy_ai F 58) (sy_i F 84).toNatClampNeg ((sy_ai F 77).getD ((sy_i F 83) + ((5 : Int32))).toNatClampNeg 0) = jm_upd (sy_ai F 58) ((sy_i F 84).toInt).toNat ((sy_ai F 77).getD (((sy_i F 83).toInt + 5)).toNat 0) := by simp only [nz_c, (nzE n99), (by decide : ((5 : Int32)).toInt = 5)]
  have w104 : jm_upd (sy_ai F 59) (sy_i F 84).toNatClampNeg ((sy_ai F 77).getD ((sy_i F 83) + ((6 : Int32))).toNatClampNeg 0) = jm_upd (sy_ai F 59) ((sy_i F 84).toInt).toNat ((sy_ai F 77).getD (((sy_i F 83).toInt + 6)).toNat 0) := by simp only [nz_c, (nzE n102), (by decide : ((6 : Int32)).toInt = 6)]
  have n105 : nzI ((sy_i F 83) + ((7 : Int32))) (((sy_i F 83).toInt + 7)) := nz_add (rfl : (sy_i F 83).toInt = (sy_i F 83).toInt) (by decide : ((7 : Int32)).toInt = 7) (by omega) (by omega)
  have n106 : nzI ((sy_i F 84) + ((1 : Int32))) (((sy_i F 84).toInt + 1)) := nz_add (rfl : (sy_i F 84).toInt = (sy_i F 84).toInt) (by decide : ((1 : Int32)).toInt = 1) (by omega) (by omega)
  exact j0lds_46_p1 hd F X1 X2 hB (by first | exact g0 | (simp only [nz_c]; exact g0)) (by first | exact ⟨by omega, by omega⟩ | (simp only [nz_c]; exact ⟨by omega, by omega⟩)) (by first | exact ⟨by omega, by omega⟩ | (simp only [nz_c]; exact ⟨by omega, by omega⟩)) (by first | (simp only [nz_c, (nzE n87)]; exact ⟨by omega, by omega⟩) | exact ⟨by omega, by omega⟩ | (rw [(nzE n87)]; exact ⟨by omega, by omega⟩)) (by first | exact ⟨by omega, by omega⟩ | (simp only [nz_c]; exact ⟨by omega, by omega⟩)) (by first | (simp only [nz_c, (nzE n90)]; exact ⟨by omega, by omega⟩) | exact ⟨by omega, by omega⟩ | (rw [(nzE n90)]; exact ⟨by omega, by omega⟩)) (by first | exact ⟨by omega, by omega⟩ | (simp only [nz_c]; exact ⟨by omega, by omega⟩)) (by first | (simp only [nz_c, (nzE n93)]; exact ⟨by omega, by omega⟩) | exact ⟨by omega, by omega⟩ | (rw [(nzE n93)]; exact ⟨by omega, by omega⟩)) (by first | exact ⟨by omega, by omega⟩ | (simp only [nz_c]; exact ⟨by omega, by omega⟩)) (by first | (simp only [nz_c, (nzE n96)]; exact ⟨by omega, by omega⟩) | exact ⟨by omega, by omega⟩ | (rw [(nzE n96)]; exact ⟨by omega, by omega⟩)) (by first | exact ⟨by omega, by omega⟩ | (simp only [nz_c]; exact ⟨by omega, by omega⟩)) (by first | (simp only [nz_c, (nzE n99)]; exact ⟨by omega, by omega⟩) | exact ⟨by omega, by omega⟩ | (rw [(nzE n99)]; exact ⟨by omega, by omega⟩)) (by first | exact ⟨by omega, by omega⟩ | (simp only [nz_c]; exact ⟨by omega, by omega⟩)) (by first | (simp only [nz_c, (nzE n102)]; exact ⟨by omega, by omega⟩) | exact ⟨by omega, by omega⟩ | (rw [(nzE n102)]; exact ⟨by omega, by omega⟩)) (by first | exact ⟨by omega, by omega⟩ | (simp only [nz_c]; exact ⟨by omega, by omega⟩)) (fun F1 g e53 e54 e55 e56 e57 e58 e59 e82 e83 e84 => k1 g0 F1 (nz_in0 hB [53, 54, 55, 56, 57, 58, 59] (fun j hj hn => g j hj (by simp only [List.mem_cons, List.not_mem_nil, or_false, not_or] at hn; omega)) (List.forall_mem_cons.mpr ⟨fun t ht => (Option.some.inj ht) ▸ (nz_hz2 e53), List.forall_mem_cons.mpr ⟨fun t ht => (Option.some.inj ht) ▸ (nz_hz2 e54), List.forall_mem_cons.mpr ⟨fun t ht => (Option.some.inj ht) ▸ (nz_hz2 e55), List.forall_mem_cons.mpr ⟨fun t ht => (Option.some.inj ht) ▸ (nz_hz2 e56), List.forall_mem_cons.mpr ⟨fun t ht => (Option.some.inj ht) ▸ (nz_hz2 e57), List.forall_mem_cons.mpr ⟨fun t ht => (Option.some.inj ht) ▸ (nz_hz2 e58), List.forall_mem_cons.mpr ⟨fun t ht => (Option.some.inj ht) ▸ (nz_hz2 e59), List.forall_mem_nil _⟩⟩⟩⟩⟩⟩⟩)) (fun j hj hn => g j hj (by simp only [List.mem_cons, List.not_mem_nil, or_false, not_or] at hn; omega)) ((zz_ai e53).trans w86) ((zz_ai e54).trans w89) ((zz_ai e55).trans w92) ((zz_ai e56).trans w95) ((zz_ai e57).trans w98) ((zz_ai e58).trans w101) ((zz_ai e59).trans w104) ((congrArg Int32.toInt (zz_i e82)).trans (rfl : (sy_i F 82).toInt = (sy_i F 82).toInt)) ((zz_i e82).trans (rfl : sy_i F 82 = sy_i F 82)) ((congrArg Int32.toInt (zz_i e83)).trans (nzE n105)) ((zz_i e83).trans (rfl : (sy_i F 83) + ((7 : Int32)) = (sy_i F 83) + ((7 : Int32)))) ((congrArg Int32.toInt (zz_i e84)).trans (nzE n106)) ((zz_i e84).trans (rfl : (sy_i F 84) + ((1 : Int32)) = (sy_i F 84) + ((1 : Int32)))))
end
section
/-! ===== a ground saved ===== -/
theorem cpy_ix {f g : List Int32} {sp dp n j : Nat} : (jm_cpy f g sp dp n).getD j 0 = if dp ≤ j ∧ j < dp + n then f.getD (sp + (j - dp)) 0 else g.getD j 0 := by
  have e := congrFun (jm_cpy_eq f g sp dp n) j
  rw [← e]
  unfold va_cpy
  by_cases q : dp ≤ j ∧ j < dp + n
  · simp [q]
  · simp [q]
theorem rmB {x c : Int32} {a k : Int} (hx : x.toInt = a) (hc : c.toInt = k) (h0 : 0 ≤ a) (hk : 0 < k) : 0 ≤ (x - x / c * c).toInt ∧ (x - x / c * c).toInt ≤ k - 1 := by
  rw [iv_rem, hx, hc]
  have := Int.tmod_lt_of_pos a hk
  exact ⟨Int.tmod_nonneg _ h0, by omega⟩
section U7
variable {l : List Int32} {n j : Nat} {a0 a1 a2 a3 a4 a5 a6 : Int32}
theorem up7_o (h : j < n ∨ n + 7 ≤ j) : (jm_upd (jm_upd (jm_upd (jm_upd (jm_upd (jm_upd (jm_upd l n a0) (n + 1) a1) (n + 2) a2) (n + 3) a3) (n + 4) a4) (n + 5) a5) (n + 6) a6).getD j 0 = l.getD j 0 := by
  rw [jm_upd_at, if_neg (by omega), jm_upd_at, if_neg (by omega), jm_upd_at, if_neg (by omega), jm_upd_at, if_neg (by omega), jm_upd_at, if_neg (by omega), jm_upd_at, if_neg (by omega), jm_upd_at, if_neg (by omega)]
theorem up7_i (w : Nat → Int32) {q : Nat} (h : q < 7) : (jm_upd (jm_upd (jm_upd (jm_upd (jm_upd (jm_upd (jm_upd l n (w 0)) (n + 1) (w 1)) (n + 2) (w 2)) (n + 3) (w 3)) (n + 4) (w 4)) (n + 5) (w 5)) (n + 6) (w 6)).getD (n + q) 0 = w q := by
  rw [jm_upd_at]
  by_cases z : q = 6
  · rw [if_pos (by omega), z]
  rw [if_neg (by omega), jm_upd_at]
  by_cases z : q = 5
  · rw [if_pos (by omega), z]
  rw [if_neg (by omega), jm_upd_at]
  by_cases z : q = 4
  · rw [if_pos (by omega), z]
  rw [if_neg (by omega), jm_upd_at]
  by_cases z : q = 3
  · rw [if_pos (by omega), z]
  rw [if_neg (by omega), jm_upd_at]
  by_cases z : q = 2
  · rw [if_pos (by omega), z]
  rw [if_neg (by omega), jm_upd_at]
  by_cases z : q = 1
  · rw [if_pos (by omega), z]
  rw [if_neg (by omega), jm_upd_at, if_pos (by omega), show q = 0 by omega]
end U7
/-- from p on the list holds the ground whose cells begin at o -/
def svR (l : List Int32) (p : Nat) (F : Nat → sy_d) (o : Nat) : Prop := (∀ q i, q < 7 → i < 7 → l.getD (p + 3 + 7 * i + q) 0 = (sy_ai F (o + 3 + q)).getD i 0) ∧ (∀ i, i < 4 → l.getD (p + 52 + i) 0 = (sy_ai F (o + 10)).getD i 0 ∧ l.getD (p + 56 + i) 0 = (sy_ai F (o + 11)).getD i 0) ∧ ∀ i, i < 3 → l.getD (p + i) 0 = sy_i F (o + i)
/-- from p on the list holds g -/
def svC (nf nb : Nat) (l : List Int32) (p : Nat) (g : gS) : Prop := (∀ a i, a < 7 → i < nf → l.getD (p + 7 * i + ca a) 0 = g a i) ∧ (∀ i, i < nb → l.getD (p + 52 + i) 0 = g 7 i ∧ l.getD (p + 56 + i) 0 = g 8 i) ∧ ∀ i, i < 3 → l.getD (p + i) 0 = g 9 i
theorem ca_7 : ∀ a : Nat, a < 7 → 3 ≤ ca a ∧ ca a < 10 := by decide +kernel
theorem svC_of {nf nb o p : Nat} {l : List Int32} {F : Nat → sy_d} {g : gS} (hf : nf ≤ 7) (hb : nb ≤ 4) (h : svR l p F o) (hg : gC o nf nb F g) : svC nf nb l p g := by
  refine ⟨fun a i ha hi => ?_, fun i hi => ⟨?_, ?_⟩, fun i hi => ?_⟩
  · have c := ca_7 a ha
    rw [show p + 7 * i + ca a = p + 3 + 7 * i + (ca a - 3) by omega, h.1 _ i (by omega) (by omega), show o + 3 + (ca a - 3) = o + ca a by omega]
    exact hg.1 a i (by omega) (Or.inl ⟨ha, hi⟩)
  · rw [(h.2.1 i (by omega)).1]
    exact hg.1 7 i (by omega) (Or.inr (Or.inl ⟨Or.inl rfl, hi⟩))
  · rw [(h.2.1 i (by omega)).2]
    exact hg.1 8 i (by omega) (Or.inr (Or.inl ⟨Or.inr rfl, hi⟩))
  · rw [h.2.2 i hi]
    exact hg.2 i hi
theorem gC_of {nf nb o p : Nat} {l : List Int32} {F : Nat → sy_d} {g : gS} (hf : nf ≤ 7) (hb : nb ≤ 4) (h : svR l p F o) (hs : svC nf nb l p g) : gC o nf nb F g := by
  refine ⟨fun a i ha hv => ?_, fun i hi => ?_⟩
  · by_cases z : a < 7
    · have hi : i < nf := by rcases hv with h | h | h <;> omega
      have c := ca_7 a z
      rw [show o + ca a = o + 3 + (ca a - 3) by omega, ← h.1 (ca a - 3) i (by omega) (by omega), show p + 3 + 7 * i + (ca a - 3) = p + 7 * i + ca a by omega]
      exact hs.1 a i z hi
    · have hi : i < nb := by rcases hv with h | h | h <;> omega
      by_cases z7 : a = 7
      · subst z7
        rw [show o + ca 7 = o + 10 from rfl, ← (h.2.1 i (by omega)).1]
        exact (hs.2.1 i hi).1
      · have z8 : a = 8 := by omega
        subst z8
        rw [show o + ca 8 = o + 11 from rfl, ← (h.2.1 i (by omega)).2]
        exact (hs.2.1 i hi).2
  · rw [← h.2.2 i hi]
    exact hs.2.2 i hi
theorem svC_eq {nf nb p : Nat} {l l' : List Int32} {g : gS} (hf : nf ≤ 7) (hb : nb ≤ 4) (h : svC nf nb l p g) (e : ∀ j, p ≤ j → j < p + 60 → l'.getD j 0 = l.getD j 0) : svC nf nb l' p g := by
  refine ⟨fun a i ha hi => ?_, fun i hi => ⟨?_, ?_⟩, fun i hi => ?_⟩
  · have c := ca_7 a ha
    rw [e _ (by omega) (by omega)]
    exact h.1 a i ha hi
  · rw [e _ (by omega) (by omega)]
    exact (h.2.1 i hi).1
  · rw [e _ (by omega) (by omega)]
    exact (h.2.1 i hi).2
  · rw [e _ (by omega) (by omega)]
    exact h.2.2 i hi
end
section
/-! ===== the class saves its ground and loads it (shape 0) ===== -/
section SV0
variable {Ls : Nat} {xs : Nat → Int32}
theorem j0svt_L (F : Nat → sy_d) (X1 X2 : List jm_c) {p : Nat} (hp : p ≤ 2340) : ∀ (m : Nat) (F1 : Nat → sy_d) (n : Nat), n + m = 7 → qC [76] F F1 → (sy_i F1 82).toInt = p → (sy_i F1 83).toInt = p + 3 + 7 * n → (sy_i F1 84).toInt = n → (∀ j, j < p ∨ p + 60 ≤ j → (sy_ai F1 76).getD j 0 = (sy_ai F 76).getD j 0) → (∀ i, i < 3 → (sy_ai F1 76).getD (p + i) 0 = sy_i F (50 + i)) → (∀ q i, q < 7 → i < n → (sy_ai F1 76).getD (p + 3 + 7 * i + q) 0 = (sy_ai F (53 + q)).getD i 0) →
    hd_W Ls xs 1 jm_M9 (pV 0 X1 X2 (fun F' => qC [76] F F' ∧ svR (sy_ai F' 76) p F 50 ∧ ∀ j, j < p ∨ p + 60 ≤ j → (sy_ai F' 76).getD j 0 = (sy_ai F 76).getD j 0)) (46, sy_dL F1 [some (.inl (.ref 46)), some (.inl (.ref 67)), some (.inr (.inl 82)), some (.inr (.inl 83)), some (.inr (.inl 84))], sy_dS F1 [], sy_dh F1 X1 X2 (iv_H 0), 0, 0) := by
  intro m
  induction m with
  | zero =>
    intro F1 n hm hq e82 e83 e84 ho h3 h7
    refine j0svt_46 (by decide) F1 X1 X2 hq.1 (by omega) (by omega) (by omega) ?_ ?_
    · intro c0 F2 hb gg a
      rw [show (sy_i F1 83).toInt.toNat = p + 52 by omega, show ((sy_i F1 83).toInt + 4).toNat = p + 56 by omega] at a
      have key : ∀ j, (sy_ai F2 76).getD j 0 = if p + 56 ≤ j ∧ j < p + 56 + 4 then (sy_ai F1 61).getD (0 + (j - (p + 56))) 0 else if p + 52 ≤ j ∧ j < p + 52 + 4 then (sy_ai F1 60).getD (0 + (j - (p + 52))) 0 else (sy_ai F1 76).getD j 0 := fun j => by
        rw [a, cpy_ix, cpy_ix]
        rfl
      refine ⟨F2, rfl, rfl, qq_on hq hb gg (by decide), ⟨fun q i hq' hi => ?_, fun i hi => ⟨?_, ?_⟩, fun i hi => ?_⟩, fun j hj => ?_⟩
      · rw [key, if_neg (by omega), if_neg (by omega)]
        exact h7 q i hq' (by omega)
      · rw [key, if_neg (by omega), if_pos (by omega), show 0 + (p + 52 + i - (p + 52)) = i by omega, qq_a hq (by decide) (by decide)]
      · rw [key, if_pos (by omega), show 0 + (p + 56 + i - (p + 56)) = i by omega, qq_a hq (by decide) (by decide)]
      · rw [key, if_neg (by omega), if_neg (by omega)]
        exact h3 i hi
      · rw [key, if_neg (by omega), if_neg (by omega)]
        exact ho j hj
    · intros
      omega
  | succ m ih =>
    intro F1 n hm hq e82 e83 e84 ho h3 h7
    refine j0svt_46 (by decide) F1 X1 X2 hq.1 (by omega) (by omega) (by omega) ?_ ?_
    · intros
      omega
    · intro c0 F2 hb gg a e82' j82 e83' j83 e84' j84
      rw [show (sy_i F1 83).toInt.toNat = p + 3 + 7 * n by omega, show ((sy_i F1 83).toInt + 1).toNat = p + 3 + 7 * n + 1 by omega, show ((sy_i F1 83).toInt + 2).toNat = p + 3 + 7 * n + 2 by omega, show ((sy_i F1 83).toInt + 3).toNat = p + 3 + 7 * n + 3 by omega, show ((sy_i F1 83).toInt + 4).toNat = p + 3 + 7 * n + 4 by omega, show ((sy_i F1 83).toInt + 5).toNat = p + 3 + 7 * n + 5 by omega, show ((sy_i F1 83).toInt + 6).toNat = p + 3 + 7 * n + 6 by omega, show (sy_i F1 84).toInt.toNat = n by omega] at a
      have ko : ∀ j, (j < p + 3 + 7 * n ∨ p + 3 + 7 * n + 7 ≤ j) → (sy_ai F2 76).getD j 0 = (sy_ai F1 76).getD j 0 := fun j h => (congrArg (fun l => l.getD j 0) a).trans (up7_o h)
      have ki : ∀ q, q < 7 → (sy_ai F2 76).getD (p + 3 + 7 * n + q) 0 = (sy_ai F1 (53 + q)).getD n 0 := fun q h => (congrArg (fun l => l.getD (p + 3 + 7 * n + q) 0) a).trans (up7_i (fun q => (sy_ai F1 (53 + q)).getD n 0) h)
      refine ih F2 (n + 1) (by omega) (qq_on hq hb gg (by decide)) (by omega) (by omega) (by omega) (fun j hj => ?_) (fun i hi => ?_) (fun q i hq' hi => ?_)
      · rw [ko j (by omega)]
        exact ho j hj
      · rw [ko _ (by omega)]
        exact h3 i hi
      · by_cases z : i = n
        · rw [z, ki q hq', qq_a hq (by omega) (by simp; omega)]
        · rw [ko _ (by omega)]
          exact h7 q i hq' (by omega)
theorem j0svt_V (F : Nat → sy_d) (X1 X2 : List jm_c) (hB : iv_in F iv_B0) {v : Int32} {p : Nat} (hv : v.toInt = p) (hp : p ≤ 2340) : jm_T Ls xs 1 jm_M9 [.ref 46, .ref 67, .int v] (sy_dh F X1 X2 (iv_H 0)) 0 0 (pV 0 X1 X2 (fun F' => qC [76] F F' ∧ svR (sy_ai F' 76) p F 50 ∧ ∀ j, j < p ∨ p + 60 ≤ j → (sy_ai F' 76).getD j 0 = (sy_ai F 76).getD j 0)) := by
  refine C_T (by decide) [v] [.inl (.ref 46), .inl (.ref 67), .inr (.inl 82)] jm_ok9 (by decide) rfl (fun F0 k0 ki => ?_)
  have i82 : sy_i F0 82 = v := ki 0
  refine j0svt_0 (by decide) F0 X1 X2 (hd_iveq0 hB k0) (by rw [i82]; omega) ?_
  intro c0 c1 F1 hb gg a e82 j82 e83 j83 e84 j84
  rw [i82] at a e82 e83
  rw [show v.toInt.toNat = p by omega, show (v.toInt + 1).toNat = p + 1 by omega, show (v.toInt + 2).toNat = p + 2 by omega, eI (k0 50 (by decide)), eI (k0 51 (by decide)), eI (k0 52 (by decide)), nz_fa (k0 76 (by decide))] at a
  have key : ∀ j, (sy_ai F1 76).getD j 0 = if j = p + 2 then sy_i F 52 else if j = p + 1 then sy_i F 51 else if j = p then sy_i F 50 else (sy_ai F 76).getD j 0 := fun j => by
    rw [a, jm_upd_at, jm_upd_at, jm_upd_at]
  refine j0svt_L F X1 X2 hp 7 F1 0 (by omega) (qq_src (qq_mk hb gg (by decide)) k0) (by omega) (by omega) e84 (fun j hj => ?_) (fun i hi => ?_) (fun q i hq hi => absurd hi (by omega))
  · rw [key, if_neg (by omega), if_neg (by omega), if_neg (by omega)]
  · rw [key]
    match i, hi with
    | 0, _ => rw [if_neg (by omega), if_neg (by omega), if_pos (by omega)]
    | 1, _ => rw [if_neg (by omega), if_pos rfl]
    | 2, _ => rw [if_pos rfl]
theorem j0ldt_L (F : Nat → sy_d) (X1 X2 : List jm_c) {p : Nat} (hp : p ≤ 2340) : ∀ (m : Nat) (F1 : Nat → sy_d) (n : Nat), n + m = 7 → qC [50, 51, 52, 53, 54, 55, 56, 57, 58, 59, 60, 61] F F1 → (sy_i F1 82).toInt = p → (sy_i F1 83).toInt = p + 3 + 7 * n → (sy_i F1 84).toInt = n → (∀ i, i < 3 → (sy_ai F 76).getD (p + i) 0 = sy_i F1 (50 + i)) → (∀ q i, q < 7 → i < n → (sy_ai F 76).getD (p + 3 + 7 * i + q) 0 = (sy_ai F1 (53 + q)).getD i 0) →
    hd_W Ls xs 1 jm_M10 (pV 0 X1 X2 (fun F' => qC [50, 51, 52, 53, 54, 55, 56, 57, 58, 59, 60, 61] F F' ∧ svR (sy_ai F 76) p F' 50)) (46, sy_dL F1 [some (.inl (.ref 46)), some (.inl (.ref 67)), some (.inr (.inl 82)), some (.inr (.inl 83)), some (.inr (.inl 84))], sy_dS F1 [], sy_dh F1 X1 X2 (iv_H 0), 0, 0) := by
  intro m
  induction m with
  | zero =>
    intro F1 n hm hq e82 e83 e84 h3 h7
    have eC : sy_ai F1 76 = sy_ai F 76 := qq_a hq (by decide) (by decide)
    refine j0ldt_46 (by decide) F1 X1 X2 hq.1 (by omega) (by omega) (by omega) ?_ ?_
    · intro c0 F2 hb gg a60 a61
      rw [show (sy_i F1 83).toInt.toNat = p + 52 by omega, eC] at a60
      rw [show ((sy_i F1 83).toInt + 4).toNat = p + 56 by omega, eC] at a61
      refine ⟨F2, rfl, rfl, qq_on hq hb gg (by decide), ⟨fun q i hq' hi => ?_, fun i hi => ⟨?_, ?_⟩, fun i hi => ?_⟩⟩
      · rw [show 50 + 3 + q = 53 + q by omega, nz_fa (gg (53 + q) (by omega) (by simp; omega))]
        exact h7 q i hq' (by omega)
      · show _ = (sy_ai F2 60).getD i 0
        rw [a60, cpy_ix, if_pos ⟨Nat.zero_le _, (show i < (0 : Nat) + 4 by omega)⟩]
        show _ = (sy_ai F 76).getD (p + 52 + (i - 0)) 0
        rw [Nat.sub_zero]
      · show _ = (sy_ai F2 61).getD i 0
        rw [a61, cpy_ix, if_pos ⟨Nat.zero_le _, (show i < (0 : Nat) + 4 by omega)⟩]
        show _ = (sy_ai F 76).getD (p + 56 + (i - 0)) 0
        rw [Nat.sub_zero]
      · rw [eI (gg (50 + i) (by omega) (by simp; omega))]
        exact h3 i hi
    · intros
      omega
  | succ m ih =>
    intro F1 n hm hq e82 e83 e84 h3 h7
    have eC : sy_ai F1 76 = sy_ai F 76 := qq_a hq (by decide) (by decide)
    refine j0ldt_46 (by decide) F1 X1 X2 hq.1 (by omega) (by omega) (by omega) ?_ ?_
    · intros
      omega
    · intro c0 F2 hb gg a53 a54 a55 a56 a57 a58 a59 e82' j82 e83' j83 e84' j84
      rw [show (sy_i F1 84).toInt.toNat = n by omega, show (sy_i F1 83).toInt.toNat = p + 3 + 7 * n by omega, eC] at a53
      rw [show (sy_i F1 84).toInt.toNat = n by omega, show ((sy_i F1 83).toInt + 1).toNat = p + 3 + 7 * n + 1 by omega, eC] at a54
      rw [show (sy_i F1 84).toInt.toNat = n by omega, show ((sy_i F1 83).toInt + 2).toNat = p + 3 + 7 * n + 2 by omega, eC] at a55
      rw [show (sy_i F1 84).toInt.toNat = n by omega, show ((sy_i F1 83).toInt + 3).toNat = p + 3 + 7 * n + 3 by omega, eC] at a56
      rw [show (sy_i F1 84).toInt.toNat = n by omega, show ((sy_i F1 83).toInt + 4).toNat = p + 3 + 7 * n + 4 by omega, eC] at a57
      rw [show (sy_i F1 84).toInt.toNat = n by omega, show ((sy_i F1 83).toInt + 5).toNat = p + 3 + 7 * n + 5 by omega, eC] at a58
      rw [show (sy_i F1 84).toInt.toNat = n by omega, show ((sy_i F1 83).toInt + 6).toNat = p + 3 + 7 * n + 6 by omega, eC] at a59
      have hu : ∀ q, q < 7 → sy_ai F2 (53 + q) = jm_upd (sy_ai F1 (53 + q)) n ((sy_ai F 76).getD (p + 3 + 7 * n + q) 0) := fun q h => by
        match q, h with
        | 0, _ => exact a53
        | 1, _ => exact a54
        | 2, _ => exact a55
        | 3, _ => exact a56
        | 4, _ => exact a57
        | 5, _ => exact a58
        | 6, _ => exact a59
      refine ih F2 (n + 1) (by omega) (qq_on hq hb gg (by decide)) (by omega) (by omega) (by omega) (fun i hi => ?_) (fun q i hq' hi => ?_)
      · rw [eI (gg (50 + i) (by omega) (by simp; omega))]
        exact h3 i hi
      · rw [hu q hq', jm_upd_at]
        by_cases z : i = n
        · rw [if_pos z, z]
        · rw [if_neg z]
          exact h7 q i hq' (by omega)
theorem j0ldt_V (F : Nat → sy_d) (X1 X2 : List jm_c) (hB : iv_in F iv_B0) {v : Int32} {p : Nat} (hv : v.toInt = p) (hp : p ≤ 2340) : jm_T Ls xs 1 jm_M10 [.ref 46, .ref 67, .int v] (sy_dh F X1 X2 (iv_H 0)) 0 0 (pV 0 X1 X2 (fun F' => qC [50, 51, 52, 53, 54, 55, 56, 57, 58, 59, 60, 61] F F' ∧ svR (sy_ai F 76) p F' 50)) := by
  refine C_T (by decide) [v] [.inl (.ref 46), .inl (.ref 67), .inr (.inl 82)] jm_ok10 (by decide) rfl (fun F0 k0 ki => ?_)
  have i82 : sy_i F0 82 = v := ki 0
  refine j0ldt_0 (by decide) F0 X1 X2 (hd_iveq0 hB k0) (by rw [i82]; omega) ?_
  intro c0 c1 F1 hb gg e50 j50 e51 j51 e52 j52 e82 j82 e83 j83 e84 j84
  rw [i82] at j50 j51 j52 e82 e83
  rw [nz_fa (k0 76 (by decide))] at j50 j51 j52
  rw [show v.toInt.toNat = p by omega] at j50
  rw [show (v.toInt + 1).toNat = p + 1 by omega] at j51
  rw [show (v.toInt + 2).toNat = p + 2 by omega] at j52
  refine j0ldt_L F X1 X2 hp 7 F1 0 (by omega) (qq_src (qq_mk hb gg (by decide)) k0) (by omega) (by omega) e84 (fun i hi => ?_) (fun q i hq hi => absurd hi (by omega))
  match i, hi with
  | 0, _ => exact j50.symm
  | 1, _ => exact j51.symm
  | 2, _ => exact j52.symm
theorem j0svs_L (F : Nat → sy_d) (X1 X2 : List jm_c) {p : Nat} (hp : p ≤ 120) : ∀ (m : Nat) (F1 : Nat → sy_d) (n : Nat), n + m = 7 → qC [77] F F1 → (sy_i F1 82).toInt = p → (sy_i F1 83).toInt = p + 3 + 7 * n → (sy_i F1 84).toInt = n → (∀ j, j < p ∨ p + 60 ≤ j → (sy_ai F1 77).getD j 0 = (sy_ai F 77).getD j 0) → (∀ i, i < 3 → (sy_ai F1 77).getD (p + i) 0 = sy_i F (50 + i)) → (∀ q i, q < 7 → i < n → (sy_ai F1 77).getD (p + 3 + 7 * i + q) 0 = (sy_ai F (53 + q)).getD i 0) →
    hd_W Ls xs 1 jm_M9 (pV 0 X1 X2 (fun F' => qC [77] F F' ∧ svR (sy_ai F' 77) p F 50 ∧ ∀ j, j < p ∨ p + 60 ≤ j → (sy_ai F' 77).getD j 0 = (sy_ai F 77).getD j 0)) (46, sy_dL F1 [some (.inl (.ref 46)), some (.inl (.ref 68)), some (.inr (.inl 82)), some (.inr (.inl 83)), some (.inr (.inl 84))], sy_dS F1 [], sy_dh F1 X1 X2 (iv_H 0), 0, 0) := by
  intro m
  induction m with
  | zero =>
    intro F1 n hm hq e82 e83 e84 ho h3 h7
    refine j0svs_46 (by decide) F1 X1 X2 hq.1 (by omega) (by omega) (by omega) ?_ ?_
    · intro c0 F2 hb gg a
      rw [show (sy_i F1 83).toInt.toNat = p + 52 by omega, show ((sy_i F1 83).toInt + 4).toNat = p + 56 by omega] at a
      have key : ∀ j, (sy_ai F2 77).getD j 0 = if p + 56 ≤ j ∧ j < p + 56 + 4 then (sy_ai F1 61).getD (0 + (j - (p + 56))) 0 else if p + 52 ≤ j ∧ j < p + 52 + 4 then (sy_ai F1 60).getD (0 + (j - (p + 52))) 0 else (sy_ai F1 77).getD j 0 := fun j => by
        rw [a, cpy_ix, cpy_ix]
        rfl
      refine ⟨F2, rfl, rfl, qq_on hq hb gg (by decide), ⟨fun q i hq' hi => ?_, fun i hi => ⟨?_, ?_⟩, fun i hi => ?_⟩, fun j hj => ?_⟩
      · rw [key, if_neg (by omega), if_neg (by omega)]
        exact h7 q i hq' (by omega)
      · rw [key, if_neg (by omega), if_pos (by omega), show 0 + (p + 52 + i - (p + 52)) = i by omega, qq_a hq (by decide) (by decide)]
      · rw [key, if_pos (by omega), show 0 + (p + 56 + i - (p + 56)) = i by omega, qq_a hq (by decide) (by decide)]
      · rw [key, if_neg (by omega), if_neg (by omega)]
        exact h3 i hi
      · rw [key, if_neg (by omega), if_neg (by omega)]
        exact ho j hj
    · intros
      omega
  | succ m ih =>
    intro F1 n hm hq e82 e83 e84 ho h3 h7
    refine j0svs_46 (by decide) F1 X1 X2 hq.1 (by omega) (by omega) (by omega) ?_ ?_
    · intros
      omega
    · intro c0 F2 hb gg a e82' j82 e83' j83 e84' j84
      rw [show (sy_i F1 83).toInt.toNat = p + 3 + 7 * n by omega, show ((sy_i F1 83).toInt + 1).toNat = p + 3 + 7 * n + 1 by omega, show ((sy_i F1 83).toInt + 2).toNat = p + 3 + 7 * n + 2 by omega, show ((sy_i F1 83).toInt + 3).toNat = p + 3 + 7 * n + 3 by omega, show ((sy_i F1 83).toInt + 4).toNat = p + 3 + 7 * n + 4 by omega, show ((sy_i F1 83).toInt + 5).toNat = p + 3 + 7 * n + 5 by omega, show ((sy_i F1 83).toInt + 6).toNat = p + 3 + 7 * n + 6 by omega, show (sy_i F1 84).toInt.toNat = n by omega] at a
      have ko : ∀ j, (j < p + 3 + 7 * n ∨ p + 3 + 7 * n + 7 ≤ j) → (sy_ai F2 77).getD j 0 = (sy_ai F1 77).getD j 0 := fun j h => (congrArg (fun l => l.getD j 0) a).trans (up7_o h)
      have ki : ∀ q, q < 7 → (sy_ai F2 77).getD (p + 3 + 7 * n + q) 0 = (sy_ai F1 (53 + q)).getD n 0 := fun q h => (congrArg (fun l => l.getD (p + 3 + 7 * n + q) 0) a).trans (up7_i (fun q => (sy_ai F1 (53 + q)).getD n 0) h)
      refine ih F2 (n + 1) (by omega) (qq_on hq hb gg (by decide)) (by omega) (by omega) (by omega) (fun j hj => ?_) (fun i hi => ?_) (fun q i hq' hi => ?_)
      · rw [ko j (by omega)]
        exact ho j hj
      · rw [ko _ (by omega)]
        exact h3 i hi
      · by_cases z : i = n
        · rw [z, ki q hq', qq_a hq (by omega) (by simp; omega)]
        · rw [ko _ (by omega)]
          exact h7 q i hq' (by omega)
theorem j0svs_V (F : Nat → sy_d) (X1 X2 : List jm_c) (hB : iv_in F iv_B0) {v : Int32} {p : Nat} (hv : v.toInt = p) (hp : p ≤ 120) : jm_T Ls xs 1 jm_M9 [.ref 46, .ref 68, .int v] (sy_dh F X1 X2 (iv_H 0)) 0 0 (pV 0 X1 X2 (fun F' => qC [77] F F' ∧ svR (sy_ai F' 77) p F 50 ∧ ∀ j, j < p ∨ p + 60 ≤ j → (sy_ai F' 77).getD j 0 = (sy_ai F 77).getD j 0)) := by
  refine C_T (by decide) [v] [.inl (.ref 46), .inl (.ref 68), .inr (.inl 82)] jm_ok9 (by decide) rfl (fun F0 k0 ki => ?_)
  have i82 : sy_i F0 82 = v := ki 0
  refine j0svs_0 (by decide) F0 X1 X2 (hd_iveq0 hB k0) (by rw [i82]; omega) ?_
  intro c0 c1 F1 hb gg a e82 j82 e83 j83 e84 j84
  rw [i82] at a e82 e83
  rw [show v.toInt.toNat = p by omega, show (v.toInt + 1).toNat = p + 1 by omega, show (v.toInt + 2).toNat = p + 2 by omega, eI (k0 50 (by decide)), eI (k0 51 (by decide)), eI (k0 52 (by decide)), nz_fa (k0 77 (by decide))] at a
  have key : ∀ j, (sy_ai F1 77).getD j 0 = if j = p + 2 then sy_i F 52 else if j = p + 1 then sy_i F 51 else if j = p then sy_i F 50 else (sy_ai F 77).getD j 0 := fun j => by
    rw [a, jm_upd_at, jm_upd_at, jm_upd_at]
  refine j0svs_L F X1 X2 hp 7 F1 0 (by omega) (qq_src (qq_mk hb gg (by decide)) k0) (by omega) (by omega) e84 (fun j hj => ?_) (fun i hi => ?_) (fun q i hq hi => absurd hi (by omega))
  · rw [key, if_neg (by omega), if_neg (by omega), if_neg (by omega)]
  · rw [key]
    match i, hi with
    | 0, _ => rw [if_neg (by omega), if_neg (by omega), if_pos (by omega)]
    | 1, _ => rw [if_neg (by omega), if_pos rfl]
    | 2, _ => rw [if_pos rfl]
theorem j0lds_L (F : Nat → sy_d) (X1 X2 : List jm_c) {p : Nat} (hp : p ≤ 120) : ∀ (m : Nat) (F1 : Nat → sy_d) (n : Nat), n + m = 7 → qC [50, 51, 52, 53, 54, 55, 56, 57, 58, 59, 60, 61] F F1 → (sy_i F1 82).toInt = p → (sy_i F1 83).toInt = p + 3 + 7 * n → (sy_i F1 84).toInt = n → (∀ i, i < 3 → (sy_ai F 77).getD (p + i) 0 = sy_i F1 (50 + i)) → (∀ q i, q < 7 → i < n → (sy_ai F 77).getD (p + 3 + 7 * i + q) 0 = (sy_ai F1 (53 + q)).getD i 0) →
    hd_W Ls xs 1 jm_M10 (pV 0 X1 X2 (fun F' => qC [50, 51, 52, 53, 54, 55, 56, 57, 58, 59, 60, 61] F F' ∧ svR (sy_ai F 77) p F' 50)) (46, sy_dL F1 [some (.inl (.ref 46)), some (.inl (.ref 68)), some (.inr (.inl 82)), some (.inr (.inl 83)), some (.inr (.inl 84))], sy_dS F1 [], sy_dh F1 X1 X2 (iv_H 0), 0, 0) := by
  intro m
  induction m with
  | zero =>
    intro F1 n hm hq e82 e83 e84 h3 h7
    have eC : sy_ai F1 77 = sy_ai F 77 := qq_a hq (by decide) (by decide)
    refine j0lds_46 (by decide) F1 X1 X2 hq.1 (by omega) (by omega) (by omega) ?_ ?_
    · intro c0 F2 hb gg a60 a61
      rw [show (sy_i F1 83).toInt.toNat = p + 52 by omega, eC] at a60
      rw [show ((sy_i F1 83).toInt + 4).toNat = p + 56 by omega, eC] at a61
      refine ⟨F2, rfl, rfl, qq_on hq hb gg (by decide), ⟨fun q i hq' hi => ?_, fun i hi => ⟨?_, ?_⟩, fun i hi => ?_⟩⟩
      · rw [show 50 + 3 + q = 53 + q by omega, nz_fa (gg (53 + q) (by omega) (by simp; omega))]
        exact h7 q i hq' (by omega)
      · show _ = (sy_ai F2 60).getD i 0
        rw [a60, cpy_ix, if_pos ⟨Nat.zero_le _, (show i < (0 : Nat) + 4 by omega)⟩]
        show _ = (sy_ai F 77).getD (p + 52 + (i - 0)) 0
        rw [Nat.sub_zero]
      · show _ = (sy_ai F2 61).getD i 0
        rw [a61, cpy_ix, if_pos ⟨Nat.zero_le _, (show i < (0 : Nat) + 4 by omega)⟩]
        show _ = (sy_ai F 77).getD (p + 56 + (i - 0)) 0
        rw [Nat.sub_zero]
      · rw [eI (gg (50 + i) (by omega) (by simp; omega))]
        exact h3 i hi
    · intros
      omega
  | succ m ih =>
    intro F1 n hm hq e82 e83 e84 h3 h7
    have eC : sy_ai F1 77 = sy_ai F 77 := qq_a hq (by decide) (by decide)
    refine j0lds_46 (by decide) F1 X1 X2 hq.1 (by omega) (by omega) (by omega) ?_ ?_
    · intros
      omega
    · intro c0 F2 hb gg a53 a54 a55 a56 a57 a58 a59 e82' j82 e83' j83 e84' j84
      rw [show (sy_i F1 84).toInt.toNat = n by omega, show (sy_i F1 83).toInt.toNat = p + 3 + 7 * n by omega, eC] at a53
      rw [show (sy_i F1 84).toInt.toNat = n by omega, show ((sy_i F1 83).toInt + 1).toNat = p + 3 + 7 * n + 1 by omega, eC] at a54
      rw [show (sy_i F1 84).toInt.toNat = n by omega, show ((sy_i F1 83).toInt + 2).toNat = p + 3 + 7 * n + 2 by omega, eC] at a55
      rw [show (sy_i F1 84).toInt.toNat = n by omega, show ((sy_i F1 83).toInt + 3).toNat = p + 3 + 7 * n + 3 by omega, eC] at a56
      rw [show (sy_i F1 84).toInt.toNat = n by omega, show ((sy_i F1 83).toInt + 4).toNat = p + 3 + 7 * n + 4 by omega, eC] at a57
      rw [show (sy_i F1 84).toInt.toNat = n by omega, show ((sy_i F1 83).toInt + 5).toNat = p + 3 + 7 * n + 5 by omega, eC] at a58
      rw [show (sy_i F1 84).toInt.toNat = n by omega, show ((sy_i F1 83).toInt + 6).toNat = p + 3 + 7 * n + 6 by omega, eC] at a59
      have hu : ∀ q, q < 7 → sy_ai F2 (53 + q) = jm_upd (sy_ai F1 (53 + q)) n ((sy_ai F 77).getD (p + 3 + 7 * n + q) 0) := fun q h => by
        match q, h with
        | 0, _ => exact a53
        | 1, _ => exact a54
        | 2, _ => exact a55
        | 3, _ => exact a56
        | 4, _ => exact a57
        | 5, _ => exact a58
        | 6, _ => exact a59
      refine ih F2 (n + 1) (by omega) (qq_on hq hb gg (by decide)) (by omega) (by omega) (by omega) (fun i hi => ?_) (fun q i hq' hi => ?_)
      · rw [eI (gg (50 + i) (by omega) (by simp; omega))]
        exact h3 i hi
      · rw [hu q hq', jm_upd_at]
        by_cases z : i = n
        · rw [if_pos z, z]
        · rw [if_neg z]
          exact h7 q i hq' (by omega)
theorem j0lds_V (F : Nat → sy_d) (X1 X2 : List jm_c) (hB : iv_in F iv_B0) {v : Int32} {p : Nat} (hv : v.toInt = p) (hp : p ≤ 120) : jm_T Ls xs 1 jm_M10 [.ref 46, .ref 68, .int v] (sy_dh F X1 X2 (iv_H 0)) 0 0 (pV 0 X1 X2 (fun F' => qC [50, 51, 52, 53, 54, 55, 56, 57, 58, 59, 60, 61] F F' ∧ svR (sy_ai F 77) p F' 50)) := by
  refine C_T (by decide) [v] [.inl (.ref 46), .inl (.ref 68), .inr (.inl 82)] jm_ok10 (by decide) rfl (fun F0 k0 ki => ?_)
  have i82 : sy_i F0 82 = v := ki 0
  refine j0lds_0 (by decide) F0 X1 X2 (hd_iveq0 hB k0) (by rw [i82]; omega) ?_
  intro c0 c1 F1 hb gg e50 j50 e51 j51 e52 j52 e82 j82 e83 j83 e84 j84
  rw [i82] at j50 j51 j52 e82 e83
  rw [nz_fa (k0 77 (by decide))] at j50 j51 j52
  rw [show v.toInt.toNat = p by omega] at j50
  rw [show (v.toInt + 1).toNat = p + 1 by omega] at j51
  rw [show (v.toInt + 2).toNat = p + 2 by omega] at j52
  refine j0lds_L F X1 X2 hp 7 F1 0 (by omega) (qq_src (qq_mk hb gg (by decide)) k0) (by omega) (by omega) e84 (fun i hi => ?_) (fun q i hq hi => absurd hi (by omega))
  match i, hi with
  | 0, _ => exact j50.symm
  | 1, _ => exact j51.symm
  | 2, _ => exact j52.symm
end SV0
end
section
/-! ===== the class saves its ground and loads it, way by way (shape 1) ===== -/
theorem j1svt_0_p0 {Ls : Nat} {xs : Nat → Int32} {d : Nat} {Q : Option Value → jm_h → Prop} (hd : 1 ≤ d) (F : Nat → sy_d) (X1 X2 : List jm_c) (hB : iv_in F iv_B0)
    (h0 : 0 ≤ (sy_i F 82).toInt)
    (h1 : (sy_i F 82).toInt ≤ 2340)
    (h2 : 0 ≤ (sy_i F 82).toInt ∧ (sy_i F 82).toInt < 2400)
    (h3 : 0 ≤ ((sy_i F 82) + ((1 : Int32))).toInt ∧ ((sy_i F 82) + ((1 : Int32))).toInt < 2400)
    (h4 : 0 ≤ ((sy_i F 82) + ((2 : Int32))).toInt ∧ ((sy_i F 82) + ((2 : Int32))).toInt < 2400)
    (k : ∀ F1 : Nat → sy_d, (∀ j, j < 82 → j ≠ 76 → F1 j = F j) → F1 76 = .inr (.inl (jm_upd (jm_upd (jm_upd (sy_ai F 76) (sy_i F 82).toNatClampNeg (sy_i F 50)) ((sy_i F 82) + ((1 : Int32))).toNatClampNeg (sy_i F 51)) ((sy_i F 82) + ((2 : Int32))).toNatClampNeg (sy_i F 52))) → F1 82 = .inl (.int (sy_i F 82)) → F1 83 = .inl (.int ((sy_i F 82) + ((3 : Int32)))) → F1 84 = .inl (.int ((0 : Int32))) → hd_W Ls xs d jm_M9 Q (46, sy_dL F1 [some (.inl (.ref 46)), some (.inl (.ref 67)), some (.inr (.inl 82)), some (.inr (.inl 83)), some (.inr (.inl 84))], sy_dS F1 [], sy_dh F1 X1 X2 (iv_H 1), 0, 0)) :
    hd_W Ls xs d jm_M9 Q (0, sy_dL F [some (.inl (.ref 46)), some (.inl (.ref 67)), some (.inr (.inl 82)), none, none], sy_dS F [], sy_dh F X1 X2 (iv_H 1), 0, 0) := by
  refine hd_run (s := 1) (nv := 83) (pc := 46) (L := [some (.inl (.ref 46)), some (.inl (.ref 67)), some (.inr (.inl 82)), some (.inr (.inl 83)), some (.inr (.inl 84))]) (S := []) (uh := hd_ov (iv_id 0 iv_B0) [(76, .inr (.inr (.inl 87)))]) (ul := [.inl (.inr (.inl 82)), .inl (.inr (.inl 88)), .inl (.inl (.int 0))]) (f := true) (sp := [46]) (d0 := 0) (O := [false, true]) (T := [(40, [.inr (.inl 82), .inr (.inl 50)], [.inr (.inl 76)]), (0, [.inr (.inl 82), .inl (.int 1)], []), (40, [.inr (.inl 84), .inr (.inl 51)], [.inr (.inl 83)]), (0, [.inr (.inl 82), .inl (.int 2)], []), (40, [.inr (.inl 86), .inr (.inl 52)], [.inr (.inl 85)]), (0, [.inr (.inl 82), .inl (.int 3)], [])]) (P := [(3, .inr (.inl 82), .inl (.int 0)), (4, .inr (.inl 82), .inl (.int 2340)), (6, .inr (.inl 82), .inl (.ref 2400)), (6, .inr (.inl 84), .inl (.ref 2400)), (6, .inr (.inl 86), .inl (.ref 2400))]) jm_ok9 (by decide +kernel) (by decide +kernel) hd F X1 X2 (fun F' hF hs => ?_)
  have b82 := hd_b (F := F) (F' := F') (k := 82) (hF 82 (by decide))
  have t84 : sy_dv F' (.inr (.inl 84)) = .int ((sy_i F 82) + ((1 : Int32))) := hd_o (hs 1 _ rfl) b82 rfl rfl
  have t86 : sy_dv F' (.inr (.inl 86)) = .int ((sy_i F 82) + ((2 : Int32))) := hd_o (hs 3 _ rfl) b82 rfl rfl
  have b52 := hd_b (F := F) (F' := F') (k := 52) (hF 52 (by decide))
  have b51 := hd_b (F := F) (F' := F') (k := 51) (hF 51 (by decide))
  have b50 := hd_b (F := F) (F' := F') (k := 50) (hF 50 (by decide))
  have a76 := hd_ba (F := F) (F' := F') (k := 76) (hF 76 (by decide))
  have t83 : sy_da F' (.inr (.inl 83)) = .inl (jm_upd (sy_ai F 76) (sy_i F 82).toNatClampNeg (sy_i F 50)) := hd_up (hs 0 _ rfl) b82 b50 a76
  have t85 : sy_da F' (.inr (.inl 85)) = .inl (jm_upd (jm_upd (sy_ai F 76) (sy_i F 82).toNatClampNeg (sy_i F 50)) ((sy_i F 82) + ((1 : Int32))).toNatClampNeg (sy_i F 51)) := hd_up (hs 2 _ rfl) t84 b51 t83
  have t87 : sy_da F' (.inr (.inl 87)) = .inl (jm_upd (jm_upd (jm_upd (sy_ai F 76) (sy_i F 82).toNatClampNeg (sy_i F 50)) ((sy_i F 82) + ((1 : Int32))).toNatClampNeg (sy_i F 51)) ((sy_i F 82) + ((2 : Int32))).toNatClampNeg (sy_i F 52)) := hd_up (hs 4 _ rfl) t86 b52 t85
  have t88 : sy_dv F' (.inr (.inl 88)) = .int ((sy_i F 82) + ((3 : Int32))) := hd_o (hs 5 _ rfl) b82 rfl rfl
  have hB' : iv_in F' iv_B0 := iv_in_eq hB (fun j hj => hF j (Nat.lt_of_lt_of_le hj (by decide +kernel)))
  refine ⟨List.forall_mem_cons.mpr ⟨hd_p3 b82 rfl (by have hc : ((0) : Int32).toInt = 0 := (by decide); omega), List.forall_mem_cons.mpr ⟨hd_p4 b82 rfl (by have hc : ((2340) : Int32).toInt = 2340 := (by decide); omega), List.forall_mem_cons.mpr ⟨hd_pb b82 (by first | exact h2 | exact h2), List.forall_mem_cons.mpr ⟨hd_pb t84 (by first | exact h3 | exact h3), List.forall_mem_cons.mpr ⟨hd_pb t86 (by first | exact h4 | exact h4), fun _ h => absurd h List.not_mem_nil⟩⟩⟩⟩⟩, ?_⟩
  refine k _ ?_ ?_ ?_ ?_ ?_
  · exact fun j hj hn => (hd_keep hB' (Nat.lt_of_lt_of_le hj (by decide +kernel)) (by simp; omega)).trans (hF j (Nat.lt_of_lt_of_le hj (by decide)))
  · exact hd_ga (a := .inr (.inl 87)) (by decide +kernel) t87
  · exact hd_gi (x := .inr (.inl 82)) (by decide +kernel) b82
  · exact hd_gi (x := .inr (.inl 88)) (by decide +kernel) t88
  · exact hd_gi (x := .inl (.int 0)) (by decide +kernel) rfl
theorem j1svt_0 {Ls : Nat} {xs : Nat → Int32} {d : Nat} {Q : Option Value → jm_h → Prop} (hd : 1 ≤ d) (F : Nat → sy_d) (X1 X2 : List jm_c) (hB : iv_in F iv_B0)
    (a82 : 0 ≤ (sy_i F 82).toInt ∧ (sy_i F 82).toInt ≤ 2340)
    (k0 : 0 ≤ (sy_i F 82).toInt → (sy_i F 82).toInt ≤ 2340 → ∀ F1 : Nat → sy_d, iv_in F1 iv_B0 → (∀ j, j < 82 → j ∉ ([76] : List Nat) → F1 j = F j) → sy_ai F1 76 = jm_upd (jm_upd (jm_upd (sy_ai F 76) ((sy_i F 82).toInt).toNat (sy_i F 50)) (((sy_i F 82).toInt + 1)).toNat (sy_i F 51)) (((sy_i F 82).toInt + 2)).toNat (sy_i F 52) → (sy_i F1 82).toInt = (sy_i F 82).toInt → sy_i F1 82 = sy_i F 82 → (sy_i F1 83).toInt = ((sy_i F 82).toInt + 3) → sy_i F1 83 = (sy_i F 82) + ((3 : Int32)) → (sy_i F1 84).toInt = 0 → sy_i F1 84 = (0 : Int32) → hd_W Ls xs d jm_M9 Q (46, sy_dL F1 [some (.inl (.ref 46)), some (.inl (.ref 67)), some (.inr (.inl 82)), some (.inr (.inl 83)), some (.inr (.inl 84))], sy_dS F1 [], sy_dh F1 X1 X2 (iv_H 1), 0, 0)) :
    hd_W Ls xs d jm_M9 Q (0, sy_dL F [some (.inl (.ref 46)), some (.inl (.ref 67)), some (.inr (.inl 82)), none, none], sy_dS F [], sy_dh F X1 X2 (iv_H 1), 0, 0) := by
  by_cases g0 : (sy_i F 82).toInt < 0
  · exfalso
    omega
  replace g0 : 0 ≤ (sy_i F 82).toInt := by omega
  by_cases g1 : (sy_i F 82).toInt ≤ 2340
  · have n84 : nzI ((sy_i F 82) + ((1 : Int32))) (((sy_i F 82).toInt + 1)) := nz_add (rfl : (sy_i F 82).toInt = (sy_i F 82).toInt) (by decide : ((1 : Int32)).toInt = 1) (by omega) (by omega)
    have n86 : nzI ((sy_i F 82) + ((2 : Int32))) (((sy_i F 82).toInt + 2)) := nz_add (rfl : (sy_i F 82).toInt = (sy_i F 82).toInt) (by decide : ((2 : Int32)).toInt = 2) (by omega) (by omega)
    have w87 : jm_upd (jm_upd (jm_upd (sy_ai F 76) (sy_i F 82).toNatClampNeg (sy_i F 50)) ((sy_i F 82) + ((1 : Int32))).toNatClampNeg (sy_i F 51)) ((sy_i F 82) + ((2 : Int32))).toNatClampNeg (sy_i F 52) = jm_upd (jm_upd (jm_upd (sy_ai F 76) ((sy_i F 82).toInt).toNat (sy_i F 50)) (((sy_i F 82).toInt + 1)).toNat (sy_i F 51)) (((sy_i F 82).toInt + 2)).toNat (sy_i F 52) := by simp only [nz_c, (nzE n84), (nzE n86), (by decide : ((1 : Int32)).toInt = 1), (by decide : ((2 : Int32)).toInt = 2)]
    have n88 : nzI ((sy_i F 82) + ((3 : Int32))) (((sy_i F 82).toInt + 3)) := nz_add (rfl : (sy_i F 82).toInt = (sy_i F 82).toInt) (by decide : ((3 : Int32)).toInt = 3) (by omega) (by omega)
    exact j1svt_0_p0 hd F X1 X2 hB (by first | exact g0 | (simp only [nz_c]; exact g0)) (by first | exact g1 | (simp only [nz_c]; exact g1)) (by first | exact ⟨by omega, by omega⟩ | (simp only [nz_c]; exact ⟨by omega, by omega⟩)) (by first | (simp only [nz_c, (nzE n84)]; exact ⟨by omega, by omega⟩) | exact ⟨by omega, by omega⟩ | (rw [(nzE n84)]; exact ⟨by omega, by omega⟩)) (by first | (simp only [nz_c, (nzE n86)]; exact ⟨by omega, by omega⟩) | exact ⟨by omega, by omega⟩ | (rw [(nzE n86)]; exact ⟨by omega, by omega⟩)) (fun F1 g e76 e82 e83 e84 => k0 g0 g1 F1 (nz_in0 hB [76] (fun j hj hn => g j hj (by simp only [List.mem_cons, List.not_mem_nil, or_false, not_or] at hn; omega)) (List.forall_mem_cons.mpr ⟨fun t ht => (Option.some.inj ht) ▸ (nz_hz2 e76), List.forall_mem_nil _⟩)) (fun j hj hn => g j hj (by simp only [List.mem_cons, List.not_mem_nil, or_false, not_or] at hn; omega)) ((zz_ai e76).trans w87) ((congrArg Int32.toInt (zz_i e82)).trans (rfl : (sy_i F 82).toInt = (sy_i F 82).toInt)) ((zz_i e82).trans (rfl : sy_i F 82 = sy_i F 82)) ((congrArg Int32.toInt (zz_i e83)).trans (nzE n88)) ((zz_i e83).trans (rfl : (sy_i F 82) + ((3 : Int32)) = (sy_i F 82) + ((3 : Int32)))) ((congrArg Int32.toInt (zz_i e84)).trans (by decide : ((0 : Int32)).toInt = 0)) ((zz_i e84).trans (rfl : (0 : Int32) = (0 : Int32))))
  replace g1 : 2340 < (sy_i F 82).toInt := by omega
  exfalso
  omega
theorem j1svt_46_p0 {Ls : Nat} {xs : Nat → Int32} {d : Nat} {Q : Option Value → jm_h → Prop} (hd : 1 ≤ d) (F : Nat → sy_d) (X1 X2 : List jm_c) (hB : iv_in F iv_B0)
    (h0 : 7 ≤ (sy_i F 84).toInt)
    (h1 : 0 ≤ (sy_i F 83).toInt ∧ (sy_i F 83).toInt < 2397)
    (h2 : 0 ≤ ((sy_i F 83) + ((4 : Int32))).toInt ∧ ((sy_i F 83) + ((4 : Int32))).toInt < 2397)
    (k : ∀ F1 : Nat → sy_d, (∀ j, j < 82 → j ≠ 76 → F1 j = F j) → F1 76 = .inr (.inl (jm_cpy (sy_ai F 61) (jm_cpy (sy_ai F 60) (sy_ai F 76) ((0 : Int32)).toNatClampNeg (sy_i F 83).toNatClampNeg ((4 : Int32)).toNatClampNeg) ((0 : Int32)).toNatClampNeg ((sy_i F 83) + ((4 : Int32))).toNatClampNeg ((4 : Int32)).toNatClampNeg)) → Q (none) (sy_dh F1 X1 X2 (iv_H 1))) :
    hd_W Ls xs d jm_M9 Q (46, sy_dL F [some (.inl (.ref 46)), some (.inl (.ref 67)), some (.inr (.inl 82)), some (.inr (.inl 83)), some (.inr (.inl 84))], sy_dS F [], sy_dh F X1 X2 (iv_H 1), 0, 0) := by
  refine hd_ret (s := 1) (nv := 85) (v := none) (uh := hd_ov (iv_id 0 iv_B0) [(76, .inr (.inr (.inl 87)))]) (f := true) (sp := [46]) (d0 := 0) (O := [true]) (T := [(42, [.inl (.int 0), .inr (.inl 83), .inl (.int 4)], [.inr (.inl 60), .inr (.inl 76)]), (0, [.inr (.inl 83), .inl (.int 4)], []), (42, [.inl (.int 0), .inr (.inl 86), .inl (.int 4)], [.inr (.inl 61), .inr (.inl 85)])]) (P := [(4, .inl (.int 7), .inr (.inl 84)), (6, .inr (.inl 83), .inl (.ref 2397)), (6, .inr (.inl 86), .inl (.ref 2397))]) jm_ok9 (by decide +kernel) (by decide +kernel) hd F X1 X2 (fun F' hF hs => ?_)
  have b84 := hd_b (F := F) (F' := F') (k := 84) (hF 84 (by decide))
  have b83 := hd_b (F := F) (F' := F') (k := 83) (hF 83 (by decide))
  have t86 : sy_dv F' (.inr (.inl 86)) = .int ((sy_i F 83) + ((4 : Int32))) := hd_o (hs 1 _ rfl) b83 rfl rfl
  have a61 := hd_ba (F := F) (F' := F') (k := 61) (hF 61 (by decide))
  have a60 := hd_ba (F := F) (F' := F') (k := 60) (hF 60 (by decide))
  have a76 := hd_ba (F := F) (F' := F') (k := 76) (hF 76 (by decide))
  have t85 : sy_da F' (.inr (.inl 85)) = .inl (jm_cpy (sy_ai F 60) (sy_ai F 76) ((0 : Int32)).toNatClampNeg (sy_i F 83).toNatClampNeg ((4 : Int32)).toNatClampNeg) := hd_cp (hs 0 _ rfl) rfl b83 rfl a60 a76
  have t87 : sy_da F' (.inr (.inl 87)) = .inl (jm_cpy (sy_ai F 61) (jm_cpy (sy_ai F 60) (sy_ai F 76) ((0 : Int32)).toNatClampNeg (sy_i F 83).toNatClampNeg ((4 : Int32)).toNatClampNeg) ((0 : Int32)).toNatClampNeg ((sy_i F 83) + ((4 : Int32))).toNatClampNeg ((4 : Int32)).toNatClampNeg) := hd_cp (hs 2 _ rfl) rfl t86 rfl a61 t85
  have hB' : iv_in F' iv_B0 := iv_in_eq hB (fun j hj => hF j (Nat.lt_of_lt_of_le hj (by decide +kernel)))
  refine ⟨List.forall_mem_cons.mpr ⟨hd_p4 rfl b84 (by have hc : ((7) : Int32).toInt = 7 := (by decide); omega), List.forall_mem_cons.mpr ⟨hd_pb b83 (by first | exact h1 | exact h1), List.forall_mem_cons.mpr ⟨hd_pb t86 (by first | exact h2 | exact h2), fun _ h => absurd h List.not_mem_nil⟩⟩⟩, ?_⟩
  refine k _ ?_ ?_
  · exact fun j hj hn => (hd_keep hB' (Nat.lt_of_lt_of_le hj (by decide +kernel)) (by simp; omega)).trans (hF j (Nat.lt_of_lt_of_le hj (by decide)))
  · exact hd_ga (a := .inr (.inl 87)) (by decide +kernel) t87
theorem j1svt_46_p1 {Ls : Nat} {xs : Nat → Int32} {d : Nat} {Q : Option Value → jm_h → Prop} (hd : 1 ≤ d) (F : Nat → sy_d) (X1 X2 : List jm_c) (hB : iv_in F iv_B0)
    (h0 : (sy_i F 84).toInt < 7)
    (h1 : 0 ≤ (sy_i F 84).toInt ∧ (sy_i F 84).toInt < 7)
    (h2 : 0 ≤ (sy_i F 83).toInt ∧ (sy_i F 83).toInt < 2400)
    (h3 : 0 ≤ (sy_i F 84).toInt ∧ (sy_i F 84).toInt < 7)
    (h4 : 0 ≤ ((sy_i F 83) + ((1 : Int32))).toInt ∧ ((sy_i F 83) + ((1 : Int32))).toInt < 2400)
    (h5 : 0 ≤ (sy_i F 84).toInt ∧ (sy_i F 84).toInt < 7)
    (h6 : 0 ≤ ((sy_i F 83) + ((2 : Int32))).toInt ∧ ((sy_i F 83) + ((2 : Int32))).toInt < 2400)
    (h7 : 0 ≤ (sy_i F 84).toInt ∧ (sy_i F 84).toInt < 7)
    (h8 : 0 ≤ ((sy_i F 83) + ((3 : Int32))).toInt ∧ ((sy_i F 83) + ((3 : Int32))).toInt < 2400)
    (h9 : 0 ≤ (sy_i F 84).toInt ∧ (sy_i F 84).toInt < 7)
    (h10 : 0 ≤ ((sy_i F 83) + ((4 : Int32))).toInt ∧ ((sy_i F 83) + ((4 : Int32))).toInt < 2400)
    (h11 : 0 ≤ (sy_i F 84).toInt ∧ (sy_i F 84).toInt < 7)
    (h12 : 0 ≤ ((sy_i F 83) + ((5 : Int32))).toInt ∧ ((sy_i F 83) + ((5 : Int32))).toInt < 2400)
    (h13 : 0 ≤ (sy_i F 84).toInt ∧ (sy_i F 84).toInt < 7)
    (h14 : 0 ≤ ((sy_i F 83) + ((6 : Int32))).toInt ∧ ((sy_i F 83) + ((6 : Int32))).toInt < 2400)
    (k : ∀ F1 : Nat → sy_d, (∀ j, j < 82 → j ≠ 76 → F1 j = F j) → F1 76 = .inr (.inl (jm_upd (jm_upd (jm_upd (jm_upd (jm_upd (jm_upd (jm_upd (sy_ai F 76) (sy_i F 83).toNatClampNeg ((sy_ai F 53).getD (sy_i F 84).toNatClampNeg 0)) ((sy_i F 83) + ((1 : Int32))).toNatClampNeg ((sy_ai F 54).getD (sy_i F 84).toNatClampNeg 0)) ((sy_i F 83) + ((2 : Int32))).toNatClampNeg ((sy_ai F 55).getD (sy_i F 84).toNatClampNeg 0)) ((sy_i F 83) + ((3 : Int32))).toNatClampNeg ((sy_ai F 56).getD (sy_i F 84).toNatClampNeg 0)) ((sy_i F 83) + ((4 : Int32))).toNatClampNeg ((sy_ai F 57).getD (sy_i F 84).toNatClampNeg 0)) ((sy_i F 83) + ((5 : Int32))).toNatClampNeg ((sy_ai F 58).getD (sy_i F 84).toNatClampNeg 0)) ((sy_i F 83) + ((6 : Int32))).toNatClampNeg ((sy_ai F 59).getD (sy_i F 84).toNatClampNeg 0))) → F1 82 = .inl (.int (sy_i F 82)) → F1 83 = .inl (.int ((sy_i F 83) + ((7 : Int32)))) → F1 84 = .inl (.int ((sy_i F 84) + ((1 : Int32)))) → hd_W Ls xs d jm_M9 Q (46, sy_dL F1 [some (.inl (.ref 46)), some (.inl (.ref 67)), some (.inr (.inl 82)), some (.inr (.inl 83)), some (.inr (.inl 84))], sy_dS F1 [], sy_dh F1 X1 X2 (iv_H 1), 0, 0)) :
    hd_W Ls xs d jm_M9 Q (46, sy_dL F [some (.inl (.ref 46)), some (.inl (.ref 67)), some (.inr (.inl 82)), some (.inr (.inl 83)), some (.inr (.inl 84))], sy_dS F [], sy_dh F X1 X2 (iv_H 1), 0, 0) := by
  refine hd_run (s := 1) (nv := 85) (pc := 46) (L := [some (.inl (.ref 46)), some (.inl (.ref 67)), some (.inr (.inl 82)), some (.inr (.inl 83)), some (.inr (.inl 84))]) (S := []) (uh := hd_ov (iv_id 0 iv_B0) [(76, .inr (.inr (.inl 104)))]) (ul := [.inl (.inr (.inl 82)), .inl (.inr (.inl 105)), .inl (.inr (.inl 106))]) (f := true) (sp := [46]) (d0 := 0) (O := [false]) (T := [(30, [.inr (.inl 84)], [.inr (.inl 53)]), (40, [.inr (.inl 83), .inr (.inl 85)], [.inr (.inl 76)]), (0, [.inr (.inl 83), .inl (.int 1)], []), (30, [.inr (.inl 84)], [.inr (.inl 54)]), (40, [.inr (.inl 87), .inr (.inl 88)], [.inr (.inl 86)]), (0, [.inr (.inl 83), .inl (.int 2)], []), (30, [.inr (.inl 84)], [.inr (.inl 55)]), (40, [.inr (.inl 90), .inr (.inl 91)], [.inr (.inl 89)]), (0, [.inr (.inl 83), .inl (.int 3)], []), (30, [.inr (.inl 84)], [.inr (.inl 56)]), (40, [.inr (.inl 93), .inr (.inl 94)], [.inr (.inl 92)]), (0, [.inr (.inl 83), .inl (.int 4)], []), (30, [.inr (.inl 84)], [.inr (.inl 57)]), (40, [.inr (.inl 96), .inr (.inl 97)], [.inr (.inl 95)]), (0, [.inr (.inl 83), .inl (.int 5)], []), (30, [.inr (.inl 84)], [.inr (.inl 58)]), (40, [.inr (.inl 99), .inr (.inl 100)], [.inr (.inl 98)]), (0, [.inr (.inl 83), .inl (.int 6)], []), (30, [.inr (.inl 84)], [.inr (.inl 59)]), (40, [.inr (.inl 102), .inr (.inl 103)], [.inr (.inl 101)]), (0, [.inr (.inl 83), .inl (.int 7)], []), (0, [.inr (.inl 84), .inl (.int 1)], [])]) (P := [(5, .inl (.int 7), .inr (.inl 84)), (6, .inr (.inl 84), .inl (.ref 7)), (6, .inr (.inl 83), .inl (.ref 2400)), (6, .inr (.inl 84), .inl (.ref 7)), (6, .inr (.inl 87), .inl (.ref 2400)), (6, .inr (.inl 84), .inl (.ref 7)), (6, .inr (.inl 90), .inl (.ref 2400)), (6, .inr (.inl 84), .inl (.ref 7)), (6, .inr (.inl 93), .inl (.ref 2400)), (6, .inr (.inl 84), .inl (.ref 7)), (6, .inr (.inl 96), .inl (.ref 2400)), (6, .inr (.inl 84), .inl (.ref 7)), (6, .inr (.inl 99), .inl (.ref 2400)), (6, .inr (.inl 84), .inl (.ref 7)), (6, .inr (.inl 102), .inl (.ref 2400))]) jm_ok9 (by decide +kernel) (by decide +kernel) hd F X1 X2 (fun F' hF hs => ?_)
  have b84 := hd_b (F := F) (F' := F') (k := 84) (hF 84 (by decide))
  have b83 := hd_b (F := F) (F' := F') (k := 83) (hF 83 (by decide))
  have t87 : sy_dv F' (.inr (.inl 87)) = .int ((sy_i F 83) + ((1 : Int32))) := hd_o (hs 2 _ rfl) b83 rfl rfl
  have t90 : sy_dv F' (.inr (.inl 90)) = .int ((sy_i F 83) + ((2 : Int32))) := hd_o (hs 5 _ rfl) b83 rfl rfl
  have t93 : sy_dv F' (.inr (.inl 93)) = .int ((sy_i F 83) + ((3 : Int32))) := hd_o (hs 8 _ rfl) b83 rfl rfl
  have t96 : sy_dv F' (.inr (.inl 96)) = .int ((sy_i F 83) + ((4 : Int32))) := hd_o (hs 11 _ rfl) b83 rfl rfl
  have t99 : sy_dv F' (.inr (.inl 99)) = .int ((sy_i F 83) + ((5 : Int32))) := hd_o (hs 14 _ rfl) b83 rfl rfl
  have t102 : sy_dv F' (.inr (.inl 102)) = .int ((sy_i F 83) + ((6 : Int32))) := hd_o (hs 17 _ rfl) b83 rfl rfl
  have a59 := hd_ba (F := F) (F' := F') (k := 59) (hF 59 (by decide))
  have t103 : sy_dv F' (.inr (.inl 103)) = .int ((sy_ai F 59).getD (sy_i F 84).toNatClampNeg 0) := hd_rd (hs 18 _ rfl) b84 a59
  have a58 := hd_ba (F := F) (F' := F') (k := 58) (hF 58 (by decide))
  have t100 : sy_dv F' (.inr (.inl 100)) = .int ((sy_ai F 58).getD (sy_i F 84).toNatClampNeg 0) := hd_rd (hs 15 _ rfl) b84 a58
  have a57 := hd_ba (F := F) (F' := F') (k := 57) (hF 57 (by decide))
  have t97 : sy_dv F' (.inr (.inl 97)) = .int ((sy_ai F 57).getD (sy_i F 84).toNatClampNeg 0) := hd_rd (hs 12 _ rfl) b84 a57
  have a56 := hd_ba (F := F) (F' := F') (k := 56) (hF 56 (by decide))
  have t94 : sy_dv F' (.inr (.inl 94)) = .int ((sy_ai F 56).getD (sy_i F 84).toNatClampNeg 0) := hd_rd (hs 9 _ rfl) b84 a56
  have a55 := hd_ba (F := F) (F' := F') (k := 55) (hF 55 (by decide))
  have t91 : sy_dv F' (.inr (.inl 91)) = .int ((sy_ai F 55).getD (sy_i F 84).toNatClampNeg 0) := hd_rd (hs 6 _ rfl) b84 a55
  have a54 := hd_ba (F := F) (F' := F') (k := 54) (hF 54 (by decide))
  have t88 : sy_dv F' (.inr (.inl 88)) = .int ((sy_ai F 54).getD (sy_i F 84).toNatClampNeg 0) := hd_rd (hs 3 _ rfl) b84 a54
  have a53 := hd_ba (F := F) (F' := F') (k := 53) (hF 53 (by decide))
  have t85 : sy_dv F' (.inr (.inl 85)) = .int ((sy_ai F 53).getD (sy_i F 84).toNatClampNeg 0) := hd_rd (hs 0 _ rfl) b84 a53
  have a76 := hd_ba (F := F) (F' := F') (k := 76) (hF 76 (by decide))
  have t86 : sy_da F' (.inr (.inl 86)) = .inl (jm_upd (sy_ai F 76) (sy_i F 83).toNatClampNeg ((sy_ai F 53).getD (sy_i F 84).toNatClampNeg 0)) := hd_up (hs 1 _ rfl) b83 t85 a76
  have t89 : sy_da F' (.inr (.inl 89)) = .inl (jm_upd (jm_upd (sy_ai F 76) (sy_i F 83).toNatClampNeg ((sy_ai F 53).getD (sy_i F 84).toNatClampNeg 0)) ((sy_i F 83) + ((1 : Int32))).toNatClampNeg ((sy_ai F 54).getD (sy_i F 84).toNatClampNeg 0)) := hd_up (hs 4 _ rfl) t87 t88 t86
  have t92 : sy_da F' (.inr (.inl 92)) = .inl (jm_upd (jm_upd (jm_upd (sy_ai F 76) (sy_i F 83).toNatClampNeg ((sy_ai F 53).getD (sy_i F 84).toNatClampNeg 0)) ((sy_i F 83) + ((1 : Int32))).toNatClampNeg ((sy_ai F 54).getD (sy_i F 84).toNatClampNeg 0)) ((sy_i F 83) + ((2 : Int32))).toNatClampNeg ((sy_ai F 55).getD (sy_i F 84).toNatClampNeg 0)) := hd_up (hs 7 _ rfl) t90 t91 t89
  have t95 : sy_da F' (.inr (.inl 95)) = .inl (jm_upd (jm_upd (jm_upd (jm_upd (sy_ai F 76) (sy_i F 83).toNatClampNeg ((sy_ai F 53).getD (sy_i F 84).toNatClampNeg 0)) ((sy_i F 83) + ((1 : Int32))).toNatClampNeg ((sy_ai F 54).getD (sy_i F 84).toNatClampNeg 0)) ((sy_i F 83) + ((2 : Int32))).toNatClampNeg ((sy_ai F 55).getD (sy_i F 84).toNatClampNeg 0)) ((sy_i F 83) + ((3 : Int32))).toNatClampNeg ((sy_ai F 56).getD (sy_i F 84).toNatClampNeg 0)) := hd_up (hs 10 _ rfl) t93 t94 t92
  have t98 : sy_da F' (.inr (.inl 98)) = .inl (jm_upd (jm_upd (jm_upd (jm_upd (jm_upd (sy_ai F 76) (sy_i F 83).toNatClampNeg ((sy_ai F 53).getD (sy_i F 84).toNatClampNeg 0)) ((sy_i F 83) + ((1 : Int32))).toNatClampNeg ((sy_ai F 54).getD (sy_i F 84).toNatClampNeg 0)) ((sy_i F 83) + ((2 : Int32))).toNatClampNeg ((sy_ai F 55).getD (sy_i F 84).toNatClampNeg 0)) ((sy_i F 83) + ((3 : Int32))).toNatClampNeg ((sy_ai F 56).getD (sy_i F 84).toNatClampNeg 0)) ((sy_i F 83) + ((4 : Int32))).toNatClampNeg ((sy_ai F 57).getD (sy_i F 84).toNatClampNeg 0)) := hd_up (hs 13 _ rfl) t96 t97 t95
  have t101 : sy_da F' (.inr (.inl 101)) = .inl (jm_upd (jm_upd (jm_upd (jm_upd (jm_upd (jm_upd (sy_ai F 76) (sy_i F 83).toNatClampNeg ((sy_ai F 53).getD (sy_i F 84).toNatClampNeg 0)) ((sy_i F 83) + ((1 : Int32))).toNatClampNeg ((sy_ai F 54).getD (sy_i F 84).toNatClampNeg 0)) ((sy_i F 83) + ((2 : Int32))).toNatClampNeg ((sy_ai F 55).getD (sy_i F 84).toNatClampNeg 0)) ((sy_i F 83) + ((3 : Int32))).toNatClampNeg ((sy_ai F 56).getD (sy_i F 84).toNatClampNeg 0)) ((sy_i F 83) + ((4 : Int32))).toNatClampNeg ((sy_ai F 57).getD (sy_i F 84).toNatClampNeg 0)) ((sy_i F 83) + ((5 : Int32))).toNatClampNeg ((sy_ai F 58).getD (sy_i F 84).toNatClampNeg 0)) := hd_up (hs 16 _ rfl) t99 t100 t98
  have t104 : sy_da F' (.inr (.inl 104)) = .inl (jm_upd (jm_upd (jm_upd (jm_upd (jm_upd (jm_upd (jm_upd (sy_ai F 76) (sy_i F 83).toNatClampNeg ((sy_ai F 53).getD (sy_i F 84).toNatClampNeg 0)) ((sy_i F 83) + ((1 : Int32))).toNatClampNeg ((sy_ai F 54).getD (sy_i F 84).toNatClampNeg 0)) ((sy_i F 83) + ((2 : Int32))).toNatClampNeg ((sy_ai F 55).getD (sy_i F 84).toNatClampNeg 0)) ((sy_i F 83) + ((3 : Int32))).toNatClampNeg ((sy_ai F 56).getD (sy_i F 84).toNatClampNeg 0)) ((sy_i F 83) + ((4 : Int32))).toNatClampNeg ((sy_ai F 57).getD (sy_i F 84).toNatClampNeg 0)) ((sy_i F 83) + ((5 : Int32))).toNatClampNeg ((sy_ai F 58).getD (sy_i F 84).toNatClampNeg 0)) ((sy_i F 83) + ((6 : Int32))).toNatClampNeg ((sy_ai F 59).getD (sy_i F 84).toNatClampNeg 0)) := hd_up (hs 19 _ rfl) t102 t103 t101
  have b82 := hd_b (F := F) (F' := F') (k := 82) (hF 82 (by decide))
  have t105 : sy_dv F' (.inr (.inl 105)) = .int ((sy_i F 83) + ((7 : Int32))) := hd_o (hs 20 _ rfl) b83 rfl rfl
  have t106 : sy_dv F' (.inr (.inl 106)) = .int ((sy_i F 84) + ((1 : Int32))) := hd_o (hs 21 _ rfl) b84 rfl rfl
  have hB' : iv_in F' iv_B0 := iv_in_eq hB (fun j hj => hF j (Nat.lt_of_lt_of_le hj (by decide +kernel)))
  refine ⟨List.forall_mem_cons.mpr ⟨hd_p5 rfl b84 (by have hc : ((7) : Int32).toInt = 7 := (by decide); omega), List.forall_mem_cons.mpr ⟨hd_pb b84 (by first | exact h1 | exact h1), List.forall_mem_cons.mpr ⟨hd_pb b83 (by first | exact h2 | exact h2), List.forall_mem_cons.mpr ⟨hd_pb b84 (by first | exact h3 | exact h3), List.forall_mem_cons.mpr ⟨hd_pb t87 (by first | exact h4 | exact h4), List.forall_mem_cons.mpr ⟨hd_pb b84 (by first | exact h5 | exact h5), List.forall_mem_cons.mpr ⟨hd_pb t90 (by first | exact h6 | exact h6), List.forall_mem_cons.mpr ⟨hd_pb b84 (by first | exact h7 | exact h7), List.forall_mem_cons.mpr ⟨hd_pb t93 (by first | exact h8 | exact h8), List.forall_mem_cons.mpr ⟨hd_pb b84 (by first | exact h9 | exact h9), List.forall_mem_cons.mpr ⟨hd_pb t96 (by first | exact h10 | exact h10), List.forall_mem_cons.mpr ⟨hd_pb b84 (by first | exact h11 | exact h11), List.forall_mem_cons.mpr ⟨hd_pb t99 (by first | exact h12 | exact h12), List.forall_mem_cons.mpr ⟨hd_pb b84 (by first | exact h13 | exact h13), List.forall_mem_cons.mpr ⟨hd_pb t102 (by first | exact h14 | exact h14), fun _ h => absurd h List.not_mem_nil⟩⟩⟩⟩⟩⟩⟩⟩⟩⟩⟩⟩⟩⟩⟩, ?_⟩
  refine k _ ?_ ?_ ?_ ?_ ?_
  · exact fun j hj hn => (hd_keep hB' (Nat.lt_of_lt_of_le hj (by decide +kernel)) (by simp; omega)).trans (hF j (Nat.lt_of_lt_of_le hj (by decide)))
  · exact hd_ga (a := .inr (.inl 104)) (by decide +kernel) t104
  · exact hd_gi (x := .inr (.inl 82)) (by decide +kernel) b82
  · exact hd_gi (x := .inr (.inl 105)) (by decide +kernel) t105
  · exact hd_gi (x := .inr (.inl 106)) (by decide +kernel) t106
theorem j1svt_46 {Ls : Nat} {xs : Nat → Int32} {d : Nat} {Q : Option Value → jm_h → Prop} (hd : 1 ≤ d) (F : Nat → sy_d) (X1 X2 : List jm_c) (hB : iv_in F iv_B0)
    (a82 : 0 ≤ (sy_i F 82).toInt ∧ (sy_i F 82).toInt ≤ 2340)
    (a83 : 3 ≤ (sy_i F 83).toInt ∧ (sy_i F 83).toInt ≤ 2392)
    (a84 : 0 ≤ (sy_i F 84).toInt ∧ (sy_i F 84).toInt ≤ 7)
    (k0 : 7 ≤ (sy_i F 84).toInt → ∀ F1 : Nat → sy_d, iv_in F1 iv_B0 → (∀ j, j < 82 → j ∉ ([76] : List Nat) → F1 j = F j) → sy_ai F1 76 = jm_cpy (sy_ai F 61) (jm_cpy (sy_ai F 60) (sy_ai F 76) (0 : Int).toNat ((sy_i F 83).toInt).toNat (4 : Int).toNat) (0 : Int).toNat (((sy_i F 83).toInt + 4)).toNat (4 : Int).toNat → Q (none) (sy_dh F1 X1 X2 (iv_H 1)))
    (k1 : (sy_i F 84).toInt < 7 → ∀ F1 : Nat → sy_d, iv_in F1 iv_B0 → (∀ j, j < 82 → j ∉ ([76] : List Nat) → F1 j = F j) → sy_ai F1 76 = jm_upd (jm_upd (jm_upd (jm_upd (jm_upd (jm_upd (jm_upd (sy_ai F 76) ((sy_i F 83).toInt).toNat ((sy_ai F 53).getD ((sy_i F 84).toInt).toNat 0)) (((sy_i F 83).toInt + 1)).toNat ((sy_ai F 54).getD ((sy_i F 84).toInt).toNat 0)) (((sy_i F 83).toInt + 2)).toNat ((sy_ai F 55).getD ((sy_i F 84).toInt).toNat 0)) (((sy_i F 83).toInt + 3)).toNat ((sy_ai F 56).getD ((sy_i F 84).toInt).toNat 0)) (((sy_i F 83).toInt + 4)).toNat ((sy_ai F 57).getD ((sy_i F 84).toInt).toNat 0)) (((sy_i F 83).toInt + 5)).toNat ((sy_ai F 58).getD ((sy_i F 84).toInt).toNat 0)) (((sy_i F 83).toInt + 6)).toNat ((sy_ai F 59).getD ((sy_i F 84).toInt).toNat 0) → (sy_i F1 82).toInt = (sy_i F 82).toInt → sy_i F1 82 = sy_i F 82 → (sy_i F1 83).toInt = ((sy_i F 83).toInt + 7) → sy_i F1 83 = (sy_i F 83) + ((7 : Int32)) → (sy_i F1 84).toInt = ((sy_i F 84).toInt + 1) → sy_i F1 84 = (sy_i F 84) + ((1 : Int32)) → hd_W Ls xs d jm_M9 Q (46, sy_dL F1 [some (.inl (.ref 46)), some (.inl (.ref 67)), some (.inr (.inl 82)), some (.inr (.inl 83)), some (.inr (.inl 84))], sy_dS F1 [], sy_dh F1 X1 X2 (iv_H 1), 0, 0)) :
    hd_W Ls xs d jm_M9 Q (46, sy_dL F [some (.inl (.ref 46)), some (.inl (.ref 67)), some (.inr (.inl 82)), some (.inr (.inl 83)), some (.inr (.inl 84))], sy_dS F [], sy_dh F X1 X2 (iv_H 1), 0, 0) := by
  by_cases g0 : 7 ≤ (sy_i F 84).toInt
  · have n86 : nzI ((sy_i F 83) + ((4 : Int32))) (((sy_i F 83).toInt + 4)) := nz_add (rfl : (sy_i F 83).toInt = (sy_i F 83).toInt) (by decide : ((4 : Int32)).toInt = 4) (by omega) (by omega)
    have w87 : jm_cpy (sy_ai F 61) (jm_cpy (sy_ai F 60) (sy_ai F 76) ((0 : Int32)).toNatClampNeg (sy_i F 83).toNatClampNeg ((4 : Int32)).toNatClampNeg) ((0 : Int32)).toNatClampNeg ((sy_i F 83) + ((4 : Int32))).toNatClampNeg ((4 : Int32)).toNatClampNeg = jm_cpy (sy_ai F 61) (jm_cpy (sy_ai F 60) (sy_ai F 76) (0 : Int).toNat ((sy_i F 83).toInt).toNat (4 : Int).toNat) (0 : Int).toNat (((sy_i F 83).toInt + 4)).toNat (4 : Int).toNat := by simp only [nz_c, (nzE n86), (by decide : ((0 : Int32)).toInt = 0), (by decide : ((4 : Int32)).toInt = 4)]
    exact j1svt_46_p0 hd F X1 X2 hB (by first | exact g0 | (simp only [nz_c]; exact g0)) (by first | exact ⟨by omega, by omega⟩ | (simp only [nz_c]; exact ⟨by omega, by omega⟩)) (by first | (simp only [nz_c, (nzE n86)]; exact ⟨by omega, by omega⟩) | exact ⟨by omega, by omega⟩ | (rw [(nzE n86)]; exact ⟨by omega, by omega⟩)) (fun F1 g e76 => k0 g0 F1 (nz_in0 hB [76] (fun j hj hn => g j hj (by simp only [List.mem_cons, List.not_mem_nil, or_false, not_or] at hn; omega)) (List.forall_mem_cons.mpr ⟨fun t ht => (Option.some.inj ht) ▸ (nz_hz2 e76), List.forall_mem_nil _⟩)) (fun j hj hn => g j hj (by simp only [List.mem_cons, List.not_mem_nil, or_false, not_or] at hn; omega)) ((zz_ai e76).trans w87))
  replace g0 : (sy_i F 84).toInt < 7 := by omega
  have n87 : nzI ((sy_i F 83) + ((1 : Int32))) (((sy_i F 83).toInt + 1)) := nz_add (rfl : (sy_i F 83).toInt = (sy_i F 83).toInt) (by decide : ((1 : Int32)).toInt = 1) (by omega) (by omega)
  have n90 : nzI ((sy_i F 83) + ((2 : Int32))) (((sy_i F 83).toInt + 2)) := nz_add (rfl : (sy_i F 83).toInt = (sy_i F 83).toInt) (by decide : ((2 : Int32)).toInt = 2) (by omega) (by omega)
  have n93 : nzI ((sy_i F 83) + ((3 : Int32))) (((sy_i F 83).toInt + 3)) := nz_add (rfl : (sy_i F 83).toInt = (sy_i F 83).toInt) (by decide : ((3 : Int32)).toInt = 3) (by omega) (by omega)
  have n96 : nzI ((sy_i F 83) + ((4 : Int32))) (((sy_i F 83).toInt + 4)) := nz_add (rfl : (sy_i F 83).toInt = (sy_i F 83).toInt) (by decide : ((4 : Int32)).toInt = 4) (by omega) (by omega)
  have n99 : nzI ((sy_i F 83) + ((5 : Int32))) (((sy_i F 83).toInt + 5)) := nz_add (rfl : (sy_i F 83).toInt = (sy_i F 83).toInt) (by decide : ((5 : Int32)).toInt = 5) (by omega) (by omega)
  have n102 : nzI ((sy_i F 83) + ((6 : Int32))) (((sy_i F 83).toInt + 6)) := nz_add (rfl : (sy_i F 83).toInt = (sy_i F 83).toInt) (by decide : ((6 : Int32)).toInt = 6) (by omega) (by omega)
  have w104 : jm_upd (jm_upd (jm_upd (jm_upd (jm_upd (jm_upd (jm_upd (sy_ai F 76) (sy_i F 83).toNatClampNeg ((sy_ai F 53).getD (sy_i F 84).toNatClampNeg 0)) ((sy_i F 83) + ((1 : Int32))).toNatClampNeg ((sy_ai F 54).getD (sy_i F 84).toNatClampNeg 0)) ((sy_i F 83) + ((2 : Int32))).toNatClampNeg ((sy_ai F 55).getD (sy_i F 84).toNatClampNeg 0)) ((sy_i F 83) + ((3 : Int32))).toNatClampNeg ((sy_ai F 56).getD (sy_i F 84).toNatClampNeg 0)) ((sy_i F 83) + ((4 : Int32))).toNatClampNeg ((sy_ai F 57).getD (sy_i F 84).toNatClampNeg 0)) ((sy_i F 83) + ((5 : Int32))).toNatClampNeg ((sy_ai F 58).getD (sy_i F 84).toNatClampNeg 0)) ((sy_i F 83) + ((6 : Int32))).toNatClampNeg ((sy_ai F 59).getD (sy_i F 84).toNatClampNeg 0) = jm_upd (jm_upd (jm_upd (jm_upd (jm_upd (jm_upd (jm_upd (sy_ai F 76) ((sy_i F 83).toInt).toNat ((sy_ai F 53).getD ((sy_i F 84).toInt).toNat 0)) (((sy_i F 83).toInt + 1)).toNat ((sy_ai F 54).getD ((sy_i F 84).toInt).toNat 0)) (((sy_i F 83).toInt + 2)).toNat ((sy_ai F 55).getD ((sy_i F 84).toInt).toNat 0)) (((sy_i F 83).toInt + 3)).toNat ((sy_ai F 56).getD ((sy_i F 84).toInt).toNat 0)) (((sy_i F 83).toInt + 4)).toNat ((sy_ai F 57).getD ((sy_i F 84).toInt).toNat 0)) (((sy_i F 83).toInt + 5)).toNat ((sy_ai F 58).getD ((sy_i F 84).toInt).toNat 0)) (((sy_i F 83).toInt + 6)).toNat ((sy_ai F 59).getD ((sy_i F 84).toInt).toNat 0) := by simp only [nz_c, (nzE n87), (nzE n90), (nzE n93), (nzE n96), (nzE n99), (nzE n102), (by decide : ((1 : Int32)).toInt = 1), (by decide : ((2 : Int32)).toInt = 2), (by decide : ((3 : Int32)).toInt = 3), (by decide : ((4 : Int32)).toInt = 4), (by decide : ((5 : Int32)).toInt = 5), (by decide : ((6 : Int32)).toInt = 6)]
  have n105 : nzI ((sy_i F 83) + ((7 : Int32))) (((sy_i F 83).toInt + 7)) := nz_add (rfl : (sy_i F 83).toInt = (sy_i F 83).toInt) (by decide : ((7 : Int32)).toInt = 7) (by omega) (by omega)
  have n106 : nzI ((sy_i F 84) + ((1 : Int32))) (((sy_i F 84).toInt + 1)) := nz_add (rfl : (sy_i F 84).toInt = (sy_i F 84).toInt) (by decide : ((1 : Int32)).toInt = 1) (by omega) (by omega)
  exact j1svt_46_p1 hd F X1 X2 hB (by first | exact g0 | (simp only [nz_c]; exact g0)) (by first | exact ⟨by omega, by omega⟩ | (simp only [nz_c]; exact ⟨by omega, by omega⟩)) (by first | exact ⟨by omega, by omega⟩ | (simp only [nz_c]; exact ⟨by omega, by omega⟩)) (by first | exact ⟨by omega, by omega⟩ | (simp only [nz_c]; exact ⟨by omega, by omega⟩)) (by first | (simp only [nz_c, (nzE n87)]; exact ⟨by omega, by omega⟩) | exact ⟨by omega, by omega⟩ | (rw [(nzE n87)]; exact ⟨by omega, by omega⟩)) (by first | exact ⟨by omega, by omega⟩ | (simp only [nz_c]; exact ⟨by omega, by omega⟩)) (by first | (simp only [nz_c, (nzE n90)]; exact ⟨by omega, by omega⟩) | exact ⟨by omega, by omega⟩ | (rw [(nzE n90)]; exact ⟨by omega, by omega⟩)) (by first | exact ⟨by omega, by omega⟩ | (simp only [nz_c]; exact ⟨by omega, by omega⟩)) (by first | (simp only [nz_c, (nzE n93)]; exact ⟨by omega, by omega⟩) | exact ⟨by omega, by omega⟩ | (rw [(nzE n93)]; exact ⟨by omega, by omega⟩)) (by first | exact ⟨by omega, by omega⟩ | (simp only [nz_c]; exact ⟨by omega, by omega⟩)) (by first | (simp only [nz_c, (nzE n96)]; exact ⟨by omega, by omega⟩) | exact ⟨by omega, by omega⟩ | (rw [(nzE n96)]; exact ⟨by omega, by omega⟩)) (by first | exact ⟨by omega, by omega⟩ | (simp only [nz_c]; exact ⟨by omega, by omega⟩)) (by first | (simp only [nz_c, (nzE n99)]; exact ⟨by omega, by omega⟩) | exact ⟨by omega, by omega⟩ | (rw [(nzE n99)]; exact ⟨by omega, by omega⟩)) (by first | exact ⟨by omega, by omega⟩ | (simp only [nz_c]; exact ⟨by omega, by omega⟩)) (by first | (simp only [nz_c, (nzE n102)]; exact ⟨by omega, by omega⟩) | exact ⟨by omega, by omega⟩ | (rw [(nzE n102)]; exact ⟨by omega, by omega⟩)) (fun F1 g e76 e82 e83 e84 => k1 g0 F1 (nz_in0 hB [76] (fun j hj hn => g j hj (by simp only [List.mem_cons, List.not_mem_nil, or_false, not_or] at hn; omega)) (List.forall_mem_cons.mpr ⟨fun t ht => (Option.some.inj ht) ▸ (nz_hz2 e76), List.forall_mem_nil _⟩)) (fun j hj hn => g j hj (by simp only [List.mem_cons, List.not_mem_nil, or_false, not_or] at hn; omega)) ((zz_ai e76).trans w104) ((congrArg Int32.toInt (zz_i e82)).trans (rfl : (sy_i F 82).toInt = (sy_i F 82).toInt)) ((zz_i e82).trans (rfl : sy_i F 82 = sy_i F 82)) ((congrArg Int32.toInt (zz_i e83)).trans (nzE n105)) ((zz_i e83).trans (rfl : (sy_i F 83) + ((7 : Int32)) = (sy_i F 83) + ((7 : Int32)))) ((congrArg Int32.toInt (zz_i e84)).trans (nzE n106)) ((zz_i e84).trans (rfl : (sy_i F 84) + ((1 : Int32)) = (sy_i F 84) + ((1 : Int32)))))
theorem j1ldt_0_p0 {Ls : Nat} {xs : Nat → Int32} {d : Nat} {Q : Option Value → jm_h → Prop} (hd : 1 ≤ d) (F : Nat → sy_d) (X1 X2 : List jm_c) (hB : iv_in F iv_B0)
    (h0 : 0 ≤ (sy_i F 82).toInt)
    (h1 : (sy_i F 82).toInt ≤ 2340)
    (h2 : 0 ≤ (sy_i F 82).toInt ∧ (sy_i F 82).toInt < 2400)
    (h3 : 0 ≤ ((sy_i F 82) + ((1 : Int32))).toInt ∧ ((sy_i F 82) + ((1 : Int32))).toInt < 2400)
    (h4 : 0 ≤ ((sy_i F 82) + ((2 : Int32))).toInt ∧ ((sy_i F 82) + ((2 : Int32))).toInt < 2400)
    (k : ∀ F1 : Nat → sy_d, (∀ j, j < 82 → j ≠ 50 ∧ j ≠ 51 ∧ j ≠ 52 → F1 j = F j) → F1 50 = .inl (.int ((sy_ai F 76).getD (sy_i F 82).toNatClampNeg 0)) → F1 51 = .inl (.int ((sy_ai F 76).getD ((sy_i F 82) + ((1 : Int32))).toNatClampNeg 0)) → F1 52 = .inl (.int ((sy_ai F 76).getD ((sy_i F 82) + ((2 : Int32))).toNatClampNeg 0)) → F1 82 = .inl (.int (sy_i F 82)) → F1 83 = .inl (.int ((sy_i F 82) + ((3 : Int32)))) → F1 84 = .inl (.int ((0 : Int32))) → hd_W Ls xs d jm_M10 Q (46, sy_dL F1 [some (.inl (.ref 46)), some (.inl (.ref 67)), some (.inr (.inl 82)), some (.inr (.inl 83)), some (.inr (.inl 84))], sy_dS F1 [], sy_dh F1 X1 X2 (iv_H 1), 0, 0)) :
    hd_W Ls xs d jm_M10 Q (0, sy_dL F [some (.inl (.ref 46)), some (.inl (.ref 67)), some (.inr (.inl 82)), none, none], sy_dS F [], sy_dh F X1 X2 (iv_H 1), 0, 0) := by
  refine hd_run (s := 1) (nv := 83) (pc := 46) (L := [some (.inl (.ref 46)), some (.inl (.ref 67)), some (.inr (.inl 82)), some (.inr (.inl 83)), some (.inr (.inl 84))]) (S := []) (uh := hd_ov (iv_id 0 iv_B0) [(50, .inl (.inr (.inl 83))), (51, .inl (.inr (.inl 85))), (52, .inl (.inr (.inl 87)))]) (ul := [.inl (.inr (.inl 82)), .inl (.inr (.inl 88)), .inl (.inl (.int 0))]) (f := true) (sp := [46]) (d0 := 0) (O := [false, true]) (T := [(30, [.inr (.inl 82)], [.inr (.inl 76)]), (0, [.inr (.inl 82), .inl (.int 1)], []), (30, [.inr (.inl 84)], [.inr (.inl 76)]), (0, [.inr (.inl 82), .inl (.int 2)], []), (30, [.inr (.inl 86)], [.inr (.inl 76)]), (0, [.inr (.inl 82), .inl (.int 3)], [])]) (P := [(3, .inr (.inl 82), .inl (.int 0)), (4, .inr (.inl 82), .inl (.int 2340)), (6, .inr (.inl 82), .inl (.ref 2400)), (6, .inr (.inl 84), .inl (.ref 2400)), (6, .inr (.inl 86), .inl (.ref 2400))]) jm_ok10 (by decide +kernel) (by decide +kernel) hd F X1 X2 (fun F' hF hs => ?_)
  have b82 := hd_b (F := F) (F' := F') (k := 82) (hF 82 (by decide))
  have t84 : sy_dv F' (.inr (.inl 84)) = .int ((sy_i F 82) + ((1 : Int32))) := hd_o (hs 1 _ rfl) b82 rfl rfl
  have t86 : sy_dv F' (.inr (.inl 86)) = .int ((sy_i F 82) + ((2 : Int32))) := hd_o (hs 3 _ rfl) b82 rfl rfl
  have a76 := hd_ba (F := F) (F' := F') (k := 76) (hF 76 (by decide))
  have t83 : sy_dv F' (.inr (.inl 83)) = .int ((sy_ai F 76).getD (sy_i F 82).toNatClampNeg 0) := hd_rd (hs 0 _ rfl) b82 a76
  have t85 : sy_dv F' (.inr (.inl 85)) = .int ((sy_ai F 76).getD ((sy_i F 82) + ((1 : Int32))).toNatClampNeg 0) := hd_rd (hs 2 _ rfl) t84 a76
  have t87 : sy_dv F' (.inr (.inl 87)) = .int ((sy_ai F 76).getD ((sy_i F 82) + ((2 : Int32))).toNatClampNeg 0) := hd_rd (hs 4 _ rfl) t86 a76
  have t88 : sy_dv F' (.inr (.inl 88)) = .int ((sy_i F 82) + ((3 : Int32))) := hd_o (hs 5 _ rfl) b82 rfl rfl
  have hB' : iv_in F' iv_B0 := iv_in_eq hB (fun j hj => hF j (Nat.lt_of_lt_of_le hj (by decide +kernel)))
  refine ⟨List.forall_mem_cons.mpr ⟨hd_p3 b82 rfl (by have hc : ((0) : Int32).toInt = 0 := (by decide); omega), List.forall_mem_cons.mpr ⟨hd_p4 b82 rfl (by have hc : ((2340) : Int32).toInt = 2340 := (by decide); omega), List.forall_mem_cons.mpr ⟨hd_pb b82 (by first | exact h2 | exact h2), List.forall_mem_cons.mpr ⟨hd_pb t84 (by first | exact h3 | exact h3), List.forall_mem_cons.mpr ⟨hd_pb t86 (by first | exact h4 | exact h4), fun _ h => absurd h List.not_mem_nil⟩⟩⟩⟩⟩, ?_⟩
  refine k _ ?_ ?_ ?_ ?_ ?_ ?_ ?_
  · exact fun j hj hn => (hd_keep hB' (Nat.lt_of_lt_of_le hj (by decide +kernel)) (by simp; omega)).trans (hF j (Nat.lt_of_lt_of_le hj (by decide)))
  · exact hd_gi (x := .inr (.inl 83)) (by decide +kernel) t83
  · exact hd_gi (x := .inr (.inl 85)) (by decide +kernel) t85
  · exact hd_gi (x := .inr (.inl 87)) (by decide +kernel) t87
  · exact hd_gi (x := .inr (.inl 82)) (by decide +kernel) b82
  · exact hd_gi (x := .inr (.inl 88)) (by decide +kernel) t88
  · exact hd_gi (x := .inl (.int 0)) (by decide +kernel) rfl
theorem j1ldt_0 {Ls : Nat} {xs : Nat → Int32} {d : Nat} {Q : Option Value → jm_h → Prop} (hd : 1 ≤ d) (F : Nat → sy_d) (X1 X2 : List jm_c) (hB : iv_in F iv_B0)
    (a82 : 0 ≤ (sy_i F 82).toInt ∧ (sy_i F 82).toInt ≤ 2340)
    (k0 : 0 ≤ (sy_i F 82).toInt → (sy_i F 82).toInt ≤ 2340 → ∀ F1 : Nat → sy_d, iv_in F1 iv_B0 → (∀ j, j < 82 → j ∉ ([50, 51, 52] : List Nat) → F1 j = F j) → (sy_i F1 50).toInt = ((sy_ai F 76).getD ((sy_i F 82).toInt).toNat 0).toInt → sy_i F1 50 = (sy_ai F 76).getD ((sy_i F 82).toInt).toNat 0 → (sy_i F1 51).toInt = ((sy_ai F 76).getD (((sy_i F 82).toInt + 1)).toNat 0).toInt → sy_i F1 51 = (sy_ai F 76).getD (((sy_i F 82).toInt + 1)).toNat 0 → (sy_i F1 52).toInt = ((sy_ai F 76).getD (((sy_i F 82).toInt + 2)).toNat 0).toInt → sy_i F1 52 = (sy_ai F 76).getD (((sy_i F 82).toInt + 2)).toNat 0 → (sy_i F1 82).toInt = (sy_i F 82).toInt → sy_i F1 82 = sy_i F 82 → (sy_i F1 83).toInt = ((sy_i F 82).toInt + 3) → sy_i F1 83 = (sy_i F 82) + ((3 : Int32)) → (sy_i F1 84).toInt = 0 → sy_i F1 84 = (0 : Int32) → hd_W Ls xs d jm_M10 Q (46, sy_dL F1 [some (.inl (.ref 46)), some (.inl (.ref 67)), some (.inr (.inl 82)), some (.inr (.inl 83)), some (.inr (.inl 84))], sy_dS F1 [], sy_dh F1 X1 X2 (iv_H 1), 0, 0)) :
    hd_W Ls xs d jm_M10 Q (0, sy_dL F [some (.inl (.ref 46)), some (.inl (.ref 67)), some (.inr (.inl 82)), none, none], sy_dS F [], sy_dh F X1 X2 (iv_H 1), 0, 0) := by
  by_cases g0 : (sy_i F 82).toInt < 0
  · exfalso
    omega
  replace g0 : 0 ≤ (sy_i F 82).toInt := by omega
  by_cases g1 : (sy_i F 82).toInt ≤ 2340
  · have n84 : nzI ((sy_i F 82) + ((1 : Int32))) (((sy_i F 82).toInt + 1)) := nz_add (rfl : (sy_i F 82).toInt = (sy_i F 82).toInt) (by decide : ((1 : Int32)).toInt = 1) (by omega) (by omega)
    have n86 : nzI ((sy_i F 82) + ((2 : Int32))) (((sy_i F 82).toInt + 2)) := nz_add (rfl : (sy_i F 82).toInt = (sy_i F 82).toInt) (by decide : ((2 : Int32)).toInt = 2) (by omega) (by omega)
    have q83 : (sy_ai F 76).getD (sy_i F 82).toNatClampNeg 0 = (sy_ai F 76).getD ((sy_i F 82).toInt).toNat 0 := by simp only [nz_c]
    have n83 : nzI ((sy_ai F 76).getD (sy_i F 82).toNatClampNeg 0) (((sy_ai F 76).getD ((sy_i F 82).toInt).toNat 0).toInt) := congrArg Int32.toInt q83
    have q85 : (sy_ai F 76).getD ((sy_i F 82) + ((1 : Int32))).toNatClampNeg 0 = (sy_ai F 76).getD (((sy_i F 82).toInt + 1)).toNat 0 := by simp only [nz_c, (nzE n84), (by decide : ((1 : Int32)).toInt = 1)]
    have n85 : nzI ((sy_ai F 76).getD ((sy_i F 82) + ((1 : Int32))).toNatClampNeg 0) (((sy_ai F 76).getD (((sy_i F 82).toInt + 1)).toNat 0).toInt) := congrArg Int32.toInt q85
    have q87 : (sy_ai F 76).getD ((sy_i F 82) + ((2 : Int32))).toNatClampNeg 0 = (sy_ai F 76).getD (((sy_i F 82).toInt + 2)).toNat 0 := by simp only [nz_c, (nzE n86), (by decide : ((2 : Int32)).toInt = 2)]
    have n87 : nzI ((sy_ai F 76).getD ((sy_i F 82) + ((2 : Int32))).toNatClampNeg 0) (((sy_ai F 76).getD (((sy_i F 82).toInt + 2)).toNat 0).toInt) := congrArg Int32.toInt q87
    have n88 : nzI ((sy_i F 82) + ((3 : Int32))) (((sy_i F 82).toInt + 3)) := nz_add (rfl : (sy_i F 82).toInt = (sy_i F 82).toInt) (by decide : ((3 : Int32)).toInt = 3) (by omega) (by omega)
    exact j1ldt_0_p0 hd F X1 X2 hB (by first | exact g0 | (simp only [nz_c]; exact g0)) (by first | exact g1 | (simp only [nz_c]; exact g1)) (by first | exact ⟨by omega, by omega⟩ | (simp only [nz_c]; exact ⟨by omega, by omega⟩)) (by first | (simp only [nz_c, (nzE n84)]; exact ⟨by omega, by omega⟩) | exact ⟨by omega, by omega⟩ | (rw [(nzE n84)]; exact ⟨by omega, by omega⟩)) (by first | (simp only [nz_c, (nzE n86)]; exact ⟨by omega, by omega⟩) | exact ⟨by omega, by omega⟩ | (rw [(nzE n86)]; exact ⟨by omega, by omega⟩)) (fun F1 g e50 e51 e52 e82 e83 e84 => k0 g0 g1 F1 (nz_in0 hB [50, 51, 52] (fun j hj hn => g j hj (by simp only [List.mem_cons, List.not_mem_nil, or_false, not_or] at hn; omega)) (List.forall_mem_cons.mpr ⟨fun t ht => (Option.some.inj ht) ▸ (nz_hz e50), List.forall_mem_cons.mpr ⟨fun t ht => (Option.some.inj ht) ▸ (nz_hz e51), List.forall_mem_cons.mpr ⟨fun t ht => (Option.some.inj ht) ▸ (nz_hz e52), List.forall_mem_nil _⟩⟩⟩)) (fun j hj hn => g j hj (by simp only [List.mem_cons, List.not_mem_nil, or_false, not_or] at hn; omega)) ((congrArg Int32.toInt (zz_i e50)).trans (nzE n83)) ((zz_i e50).trans q83) ((congrArg Int32.toInt (zz_i e51)).trans (nzE n85)) ((zz_i e51).trans q85) ((congrArg Int32.toInt (zz_i e52)).trans (nzE n87)) ((zz_i e52).trans q87) ((congrArg Int32.toInt (zz_i e82)).trans (rfl : (sy_i F 82).toInt = (sy_i F 82).toInt)) ((zz_i e82).trans (rfl : sy_i F 82 = sy_i F 82)) ((congrArg Int32.toInt (zz_i e83)).trans (nzE n88)) ((zz_i e83).trans (rfl : (sy_i F 82) + ((3 : Int32)) = (sy_i F 82) + ((3 : Int32)))) ((congrArg Int32.toInt (zz_i e84)).trans (by decide : ((0 : Int32)).toInt = 0)) ((zz_i e84).trans (rfl : (0 : Int32) = (0 : Int32))))
  replace g1 : 2340 < (sy_i F 82).toInt := by omega
  exfalso
  omega
theorem j1ldt_46_p0 {Ls : Nat} {xs : Nat → Int32} {d : Nat} {Q : Option Value → jm_h → Prop} (hd : 1 ≤ d) (F : Nat → sy_d) (X1 X2 : List jm_c) (hB : iv_in F iv_B0)
    (h0 : 7 ≤ (sy_i F 84).toInt)
    (h1 : 0 ≤ (sy_i F 83).toInt ∧ (sy_i F 83).toInt < 2397)
    (h2 : 0 ≤ ((sy_i F 83) + ((4 : Int32))).toInt ∧ ((sy_i F 83) + ((4 : Int32))).toInt < 2397)
    (k : ∀ F1 : Nat → sy_d, (∀ j, j < 82 → j ≠ 60 ∧ j ≠ 61 → F1 j = F j) → F1 60 = .inr (.inl (jm_cpy (sy_ai F 76) (sy_ai F 60) (sy_i F 83).toNatClampNeg ((0 : Int32)).toNatClampNeg ((4 : Int32)).toNatClampNeg)) → F1 61 = .inr (.inl (jm_cpy (sy_ai F 76) (sy_ai F 61) ((sy_i F 83) + ((4 : Int32))).toNatClampNeg ((0 : Int32)).toNatClampNeg ((4 : Int32)).toNatClampNeg)) → Q (none) (sy_dh F1 X1 X2 (iv_H 1))) :
    hd_W Ls xs d jm_M10 Q (46, sy_dL F [some (.inl (.ref 46)), some (.inl (.ref 67)), some (.inr (.inl 82)), some (.inr (.inl 83)), some (.inr (.inl 84))], sy_dS F [], sy_dh F X1 X2 (iv_H 1), 0, 0) := by
  refine hd_ret (s := 1) (nv := 85) (v := none) (uh := hd_ov (iv_id 0 iv_B0) [(60, .inr (.inr (.inl 85))), (61, .inr (.inr (.inl 87)))]) (f := true) (sp := [46]) (d0 := 0) (O := [true]) (T := [(42, [.inr (.inl 83), .inl (.int 0), .inl (.int 4)], [.inr (.inl 76), .inr (.inl 60)]), (0, [.inr (.inl 83), .inl (.int 4)], []), (42, [.inr (.inl 86), .inl (.int 0), .inl (.int 4)], [.inr (.inl 76), .inr (.inl 61)])]) (P := [(4, .inl (.int 7), .inr (.inl 84)), (6, .inr (.inl 83), .inl (.ref 2397)), (6, .inr (.inl 86), .inl (.ref 2397))]) jm_ok10 (by decide +kernel) (by decide +kernel) hd F X1 X2 (fun F' hF hs => ?_)
  have b84 := hd_b (F := F) (F' := F') (k := 84) (hF 84 (by decide))
  have b83 := hd_b (F := F) (F' := F') (k := 83) (hF 83 (by decide))
  have t86 : sy_dv F' (.inr (.inl 86)) = .int ((sy_i F 83) + ((4 : Int32))) := hd_o (hs 1 _ rfl) b83 rfl rfl
  have a76 := hd_ba (F := F) (F' := F') (k := 76) (hF 76 (by decide))
  have a60 := hd_ba (F := F) (F' := F') (k := 60) (hF 60 (by decide))
  have t85 : sy_da F' (.inr (.inl 85)) = .inl (jm_cpy (sy_ai F 76) (sy_ai F 60) (sy_i F 83).toNatClampNeg ((0 : Int32)).toNatClampNeg ((4 : Int32)).toNatClampNeg) := hd_cp (hs 0 _ rfl) b83 rfl rfl a76 a60
  have a61 := hd_ba (F := F) (F' := F') (k := 61) (hF 61 (by decide))
  have t87 : sy_da F' (.inr (.inl 87)) = .inl (jm_cpy (sy_ai F 76) (sy_ai F 61) ((sy_i F 83) + ((4 : Int32))).toNatClampNeg ((0 : Int32)).toNatClampNeg ((4 : Int32)).toNatClampNeg) := hd_cp (hs 2 _ rfl) t86 rfl rfl a76 a61
  have hB' : iv_in F' iv_B0 := iv_in_eq hB (fun j hj => hF j (Nat.lt_of_lt_of_le hj (by decide +kernel)))
  refine ⟨List.forall_mem_cons.mpr ⟨hd_p4 rfl b84 (by have hc : ((7) : Int32).toInt = 7 := (by decide); omega), List.forall_mem_cons.mpr ⟨hd_pb b83 (by first | exact h1 | exact h1), List.forall_mem_cons.mpr ⟨hd_pb t86 (by first | exact h2 | exact h2), fun _ h => absurd h List.not_mem_nil⟩⟩⟩, ?_⟩
  refine k _ ?_ ?_ ?_
  · exact fun j hj hn => (hd_keep hB' (Nat.lt_of_lt_of_le hj (by decide +kernel)) (by simp; omega)).trans (hF j (Nat.lt_of_lt_of_le hj (by decide)))
  · exact hd_ga (a := .inr (.inl 85)) (by decide +kernel) t85
  · exact hd_ga (a := .inr (.inl 87)) (by decide +kernel) t87
theorem j1ldt_46_p1 {Ls : Nat} {xs : Nat → Int32} {d : Nat} {Q : Option Value → jm_h → Prop} (hd : 1 ≤ d) (F : Nat → sy_d) (X1 X2 : List jm_c) (hB : iv_in F iv_B0)
    (h0 : (sy_i F 84).toInt < 7)
    (h1 : 0 ≤ (sy_i F 83).toInt ∧ (sy_i F 83).toInt < 2400)
    (h2 : 0 ≤ (sy_i F 84).toInt ∧ (sy_i F 84).toInt < 7)
    (h3 : 0 ≤ ((sy_i F 83) + ((1 : Int32))).toInt ∧ ((sy_i F 83) + ((1 : Int32))).toInt < 2400)
    (h4 : 0 ≤ (sy_i F 84).toInt ∧ (sy_i F 84).toInt < 7)
    (h5 : 0 ≤ ((sy_i F 83) + ((2 : Int32))).toInt ∧ ((sy_i F 83) + ((2 : Int32))).toInt < 2400)
    (h6 : 0 ≤ (sy_i F 84).toInt ∧ (sy_i F 84).toInt < 7)
    (h7 : 0 ≤ ((sy_i F 83) + ((3 : Int32))).toInt ∧ ((sy_i F 83) + ((3 : Int32))).toInt < 2400)
    (h8 : 0 ≤ (sy_i F 84).toInt ∧ (sy_i F 84).toInt < 7)
    (h9 : 0 ≤ ((sy_i F 83) + ((4 : Int32))).toInt ∧ ((sy_i F 83) + ((4 : Int32))).toInt < 2400)
    (h10 : 0 ≤ (sy_i F 84).toInt ∧ (sy_i F 84).toInt < 7)
    (h11 : 0 ≤ ((sy_i F 83) + ((5 : Int32))).toInt ∧ ((sy_i F 83) + ((5 : Int32))).toInt < 2400)
    (h12 : 0 ≤ (sy_i F 84).toInt ∧ (sy_i F 84).toInt < 7)
    (h13 : 0 ≤ ((sy_i F 83) + ((6 : Int32))).toInt ∧ ((sy_i F 83) + ((6 : Int32))).toInt < 2400)
    (h14 : 0 ≤ (sy_i F 84).toInt ∧ (sy_i F 84).toInt < 7)
    (k : ∀ F1 : Nat → sy_d, (∀ j, j < 82 → j ≠ 53 ∧ j ≠ 54 ∧ j ≠ 55 ∧ j ≠ 56 ∧ j ≠ 57 ∧ j ≠ 58 ∧ j ≠ 59 → F1 j = F j) → F1 53 = .inr (.inl (jm_upd (sy_ai F 53) (sy_i F 84).toNatClampNeg ((sy_ai F 76).getD (sy_i F 83).toNatClampNeg 0))) → F1 54 = .inr (.inl (jm_upd (sy_ai F 54) (sy_i F 84).toNatClampNeg ((sy_ai F 76).getD ((sy_i F 83) + ((1 : Int32))).toNatClampNeg 0))) → F1 55 = .inr (.inl (jm_upd (sy_ai F 55) (sy_i F 84).toNatClampNeg ((sy_ai F 76).getD ((sy_i F 83) + ((2 : Int32))).toNatClampNeg 0))) → F1 56 = .inr (.inl (jm_upd (sy_ai F 56) (sy_i F 84).toNatClampNeg ((sy_ai F 76).getD ((sy_i F 83) + ((3 : Int32))).toNatClampNeg 0))) → F1 57 = .inr (.inl (jm_upd (sy_ai F 57) (sy_i F 84).toNatClampNeg ((sy_ai F 76).getD ((sy_i F 83) + ((4 : Int32))).toNatClampNeg 0))) → F1 58 = .inr (.inl (jm_upd (sy_ai F 58) (sy_i F 84).toNatClampNeg ((sy_ai F 76).getD ((sy_i F 83) + ((5 : Int32))).toNatClampNeg 0))) → F1 59 = .inr (.inl (jm_upd (sy_ai F 59) (sy_i F 84).toNatClampNeg ((sy_ai F 76).getD ((sy_i F 83) + ((6 : Int32))).toNatClampNeg 0))) → F1 82 = .inl (.int (sy_i F 82)) → F1 83 = .inl (.int ((sy_i F 83) + ((7 : Int32)))) → F1 84 = .inl (.int ((sy_i F 84) + ((1 : Int32)))) → hd_W Ls xs d jm_M10 Q (46, sy_dL F1 [some (.inl (.ref 46)), some (.inl (.ref 67)), some (.inr (.inl 82)), some (.inr (.inl 83)), some (.inr (.inl 84))], sy_dS F1 [], sy_dh F1 X1 X2 (iv_H 1), 0, 0)) :
    hd_W Ls xs d jm_M10 Q (46, sy_dL F [some (.inl (.ref 46)), some (.inl (.ref 67)), some (.inr (.inl 82)), some (.inr (.inl 83)), some (.inr (.inl 84))], sy_dS F [], sy_dh F X1 X2 (iv_H 1), 0, 0) := by
  refine hd_run (s := 1) (nv := 85) (pc := 46) (L := [some (.inl (.ref 46)), some (.inl (.ref 67)), some (.inr (.inl 82)), some (.inr (.inl 83)), some (.inr (.inl 84))]) (S := []) (uh := hd_ov (iv_id 0 iv_B0) [(53, .inr (.inr (.inl 86))), (54, .inr (.inr (.inl 89))), (55, .inr (.inr (.inl 92))), (56, .inr (.inr (.inl 95))), (57, .inr (.inr (.inl 98))), (58, .inr (.inr (.inl 101))), (59, .inr (.inr (.inl 104)))]) (ul := [.inl (.inr (.inl 82)), .inl (.inr (.inl 105)), .inl (.inr (.inl 106))]) (f := true) (sp := [46]) (d0 := 0) (O := [false]) (T := [(30, [.inr (.inl 83)], [.inr (.inl 76)]), (40, [.inr (.inl 84), .inr (.inl 85)], [.inr (.inl 53)]), (0, [.inr (.inl 83), .inl (.int 1)], []), (30, [.inr (.inl 87)], [.inr (.inl 76)]), (40, [.inr (.inl 84), .inr (.inl 88)], [.inr (.inl 54)]), (0, [.inr (.inl 83), .inl (.int 2)], []), (30, [.inr (.inl 90)], [.inr (.inl 76)]), (40, [.inr (.inl 84), .inr (.inl 91)], [.inr (.inl 55)]), (0, [.inr (.inl 83), .inl (.int 3)], []), (30, [.inr (.inl 93)], [.inr (.inl 76)]), (40, [.inr (.inl 84), .inr (.inl 94)], [.inr (.inl 56)]), (0, [.inr (.inl 83), .inl (.int 4)], []), (30, [.inr (.inl 96)], [.inr (.inl 76)]), (40, [.inr (.inl 84), .inr (.inl 97)], [.inr (.inl 57)]), (0, [.inr (.inl 83), .inl (.int 5)], []), (30, [.inr (.inl 99)], [.inr (.inl 76)]), (40, [.inr (.inl 84), .inr (.inl 100)], [.inr (.inl 58)]), (0, [.inr (.inl 83), .inl (.int 6)], []), (30, [.inr (.inl 102)], [.inr (.inl 76)]), (40, [.inr (.inl 84), .inr (.inl 103)], [.inr (.inl 59)]), (0, [.inr (.inl 83), .inl (.int 7)], []), (0, [.inr (.inl 84), .inl (.int 1)], [])]) (P := [(5, .inl (.int 7), .inr (.inl 84)), (6, .inr (.inl 83), .inl (.ref 2400)), (6, .inr (.inl 84), .inl (.ref 7)), (6, .inr (.inl 87), .inl (.ref 2400)), (6, .inr (.inl 84), .inl (.ref 7)), (6, .inr (.inl 90), .inl (.ref 2400)), (6, .inr (.inl 84), .inl (.ref 7)), (6, .inr (.inl 93), .inl (.ref 2400)), (6, .inr (.inl 84), .inl (.ref 7)), (6, .inr (.inl 96), .inl (.ref 2400)), (6, .inr (.inl 84), .inl (.ref 7)), (6, .inr (.inl 99), .inl (.ref 2400)), (6, .inr (.inl 84), .inl (.ref 7)), (6, .inr (.inl 102), .inl (.ref 2400)), (6, .inr (.inl 84), .inl (.ref 7))]) jm_ok10 (by decide +kernel) (by decide +kernel) hd F X1 X2 (fun F' hF hs => ?_)
  have b84 := hd_b (F := F) (F' := F') (k := 84) (hF 84 (by decide))
  have b83 := hd_b (F := F) (F' := F') (k := 83) (hF 83 (by decide))
  have t87 : sy_dv F' (.inr (.inl 87)) = .int ((sy_i F 83) + ((1 : Int32))) := hd_o (hs 2 _ rfl) b83 rfl rfl
  have t90 : sy_dv F' (.inr (.inl 90)) = .int ((sy_i F 83) + ((2 : Int32))) := hd_o (hs 5 _ rfl) b83 rfl rfl
  have t93 : sy_dv F' (.inr (.inl 93)) = .int ((sy_i F 83) + ((3 : Int32))) := hd_o (hs 8 _ rfl) b83 rfl rfl
  have t96 : sy_dv F' (.inr (.inl 96)) = .int ((sy_i F 83) + ((4 : Int32))) := hd_o (hs 11 _ rfl) b83 rfl rfl
  have t99 : sy_dv F' (.inr (.inl 99)) = .int ((sy_i F 83) + ((5 : Int32))) := hd_o (hs 14 _ rfl) b83 rfl rfl
  have t102 : sy_dv F' (.inr (.inl 102)) = .int ((sy_i F 83) + ((6 : Int32))) := hd_o (hs 17 _ rfl) b83 rfl rfl
  have a76 := hd_ba (F := F) (F' := F') (k := 76) (hF 76 (by decide))
  have t85 : sy_dv F' (.inr (.inl 85)) = .int ((sy_ai F 76).getD (sy_i F 83).toNatClampNeg 0) := hd_rd (hs 0 _ rfl) b83 a76
  have a53 := hd_ba (F := F) (F' := F') (k := 53) (hF 53 (by decide))
  have t86 : sy_da F' (.inr (.inl 86)) = .inl (jm_upd (sy_ai F 53) (sy_i F 84).toNatClampNeg ((sy_ai F 76).getD (sy_i F 83).toNatClampNeg 0)) := hd_up (hs 1 _ rfl) b84 t85 a53
  have t88 : sy_dv F' (.inr (.inl 88)) = .int ((sy_ai F 76).getD ((sy_i F 83) + ((1 : Int32))).toNatClampNeg 0) := hd_rd (hs 3 _ rfl) t87 a76
  have a54 := hd_ba (F := F) (F' := F') (k := 54) (hF 54 (by decide))
  have t89 : sy_da F' (.inr (.inl 89)) = .inl (jm_upd (sy_ai F 54) (sy_i F 84).toNatClampNeg ((sy_ai F 76).getD ((sy_i F 83) + ((1 : Int32))).toNatClampNeg 0)) := hd_up (hs 4 _ rfl) b84 t88 a54
  have t91 : sy_dv F' (.inr (.inl 91)) = .int ((sy_ai F 76).getD ((sy_i F 83) + ((2 : Int32))).toNatClampNeg 0) := hd_rd (hs 6 _ rfl) t90 a76
  have a55 := hd_ba (F := F) (F' := F') (k := 55) (hF 55 (by decide))
  have t92 : sy_da F' (.inr (.inl 92)) = .inl (jm_upd (sy_ai F 55) (sy_i F 84).toNatClampNeg ((sy_ai F 76).getD ((sy_i F 83) + ((2 : Int32))).toNatClampNeg 0)) := hd_up (hs 7 _ rfl) b84 t91 a55
  have t94 : sy_dv F' (.inr (.inl 94)) = .int ((sy_ai F 76).getD ((sy_i F 83) + ((3 : Int32))).toNatClampNeg 0) := hd_rd (hs 9 _ rfl) t93 a76
  have a56 := hd_ba (F := F) (F' := F') (k := 56) (hF 56 (by decide))
  have t95 : sy_da F' (.inr (.inl 95)) = .inl (jm_upd (sy_ai F 56) (sy_i F 84).toNatClampNeg ((sy_ai F 76).getD ((sy_i F 83) + ((3 : Int32))).toNatClampNeg 0)) := hd_up (hs 10 _ rfl) b84 t94 a56
  have t97 : sy_dv F' (.inr (.inl 97)) = .int ((sy_ai F 76).getD ((sy_i F 83) + ((4 : Int32))).toNatClampNeg 0) := hd_rd (hs 12 _ rfl) t96 a76
  have a57 := hd_ba (F := F) (F' := F') (k := 57) (hF 57 (by decide))
  have t98 : sy_da F' (.inr (.inl 98)) = .inl (jm_upd (sy_ai F 57) (sy_i F 84).toNatClampNeg ((sy_ai F 76).getD ((sy_i F 83) + ((4 : Int32))).toNatClampNeg 0)) := hd_up (hs 13 _ rfl) b84 t97 a57
  have t100 : sy_dv F' (.inr (.inl 100)) = .int ((sy_ai F 76).getD ((sy_i F 83) + ((5 : Int32))).toNatClampNeg 0) := hd_rd (hs 15 _ rfl) t99 a76
  have a58 := hd_ba (F := F) (F' := F') (k := 58) (hF 58 (by decide))
  have t101 : sy_da F' (.inr (.inl 101)) = .inl (jm_upd (sy_ai F 58) (sy_i F 84).toNatClampNeg ((sy_ai F 76).getD ((sy_i F 83) + ((5 : Int32))).toNatClampNeg 0)) := hd_up (hs 16 _ rfl) b84 t100 a58
  have t103 : sy_dv F' (.inr (.inl 103)) = .int ((sy_ai F 76).getD ((sy_i F 83) + ((6 : Int32))).toNatClampNeg 0) := hd_rd (hs 18 _ rfl) t102 a76
  have a59 := hd_ba (F := F) (F' := F') (k := 59) (hF 59 (by decide))
  have t104 : sy_da F' (.inr (.inl 104)) = .inl (jm_upd (sy_ai F 59) (sy_i F 84).toNatClampNeg ((sy_ai F 76).getD ((sy_i F 83) + ((6 : Int32))).toNatClampNeg 0)) := hd_up (hs 19 _ rfl) b84 t103 a59
  have b82 := hd_b (F := F) (F' := F') (k := 82) (hF 82 (by decide))
  have t105 : sy_dv F' (.inr (.inl 105)) = .int ((sy_i F 83) + ((7 : Int32))) := hd_o (hs 20 _ rfl) b83 rfl rfl
  have t106 : sy_dv F' (.inr (.inl 106)) = .int ((sy_i F 84) + ((1 : Int32))) := hd_o (hs 21 _ rfl) b84 rfl rfl
  have hB' : iv_in F' iv_B0 := iv_in_eq hB (fun j hj => hF j (Nat.lt_of_lt_of_le hj (by decide +kernel)))
  refine ⟨List.forall_mem_cons.mpr ⟨hd_p5 rfl b84 (by have hc : ((7) : Int32).toInt = 7 := (by decide); omega), List.forall_mem_cons.mpr ⟨hd_pb b83 (by first | exact h1 | exact h1), List.forall_mem_cons.mpr ⟨hd_pb b84 (by first | exact h2 | exact h2), List.forall_mem_cons.mpr ⟨hd_pb t87 (by first | exact h3 | exact h3), List.forall_mem_cons.mpr ⟨hd_pb b84 (by first | exact h4 | exact h4), List.forall_mem_cons.mpr ⟨hd_pb t90 (by first | exact h5 | exact h5), List.forall_mem_cons.mpr ⟨hd_pb b84 (by first | exact h6 | exact h6), List.forall_mem_cons.mpr ⟨hd_pb t93 (by first | exact h7 | exact h7), List.forall_mem_cons.mpr ⟨hd_pb b84 (by first | exact h8 | exact h8), List.forall_mem_cons.mpr ⟨hd_pb t96 (by first | exact h9 | exact h9), List.forall_mem_cons.mpr ⟨hd_pb b84 (by first | exact h10 | exact h10), List.forall_mem_cons.mpr ⟨hd_pb t99 (by first | exact h11 | exact h11), List.forall_mem_cons.mpr ⟨hd_pb b84 (by first | exact h12 | exact h12), List.forall_mem_cons.mpr ⟨hd_pb t102 (by first | exact h13 | exact h13), List.forall_mem_cons.mpr ⟨hd_pb b84 (by first | exact h14 | exact h14), fun _ h => absurd h List.not_mem_nil⟩⟩⟩⟩⟩⟩⟩⟩⟩⟩⟩⟩⟩⟩⟩, ?_⟩
  refine k _ ?_ ?_ ?_ ?_ ?_ ?_ ?_ ?_ ?_ ?_ ?_
  · exact fun j hj hn => (hd_keep hB' (Nat.lt_of_lt_of_le hj (by decide +kernel)) (by simp; omega)).trans (hF j (Nat.lt_of_lt_of_le hj (by decide)))
  · exact hd_ga (a := .inr (.inl 86)) (by decide +kernel) t86
  · exact hd_ga (a := .inr (.inl 89)) (by decide +kernel) t89
  · exact hd_ga (a := .inr (.inl 92)) (by decide +kernel) t92
  · exact hd_ga (a := .inr (.inl 95)) (by decide +kernel) t95
  · exact hd_ga (a := .inr (.inl 98)) (by decide +kernel) t98
  · exact hd_ga (a := .inr (.inl 101)) (by decide +kernel) t101
  · exact hd_ga (a := .inr (.inl 104)) (by decide +kernel) t104
  · exact hd_gi (x := .inr (.inl 82)) (by decide +kernel) b82
  · exact hd_gi (x := .inr (.inl 105)) (by decide +kernel) t105
  · exact hd_gi (x := .inr (.inl 106)) (by decide +kernel) t106
theorem j1ldt_46 {Ls : Nat} {xs : Nat → Int32} {d : Nat} {Q : Option Value → jm_h → Prop} (hd : 1 ≤ d) (F : Nat → sy_d) (X1 X2 : List jm_c) (hB : iv_in F iv_B0)
    (a82 : 0 ≤ (sy_i F 82).toInt ∧ (sy_i F 82).toInt ≤ 2340)
    (a83 : 3 ≤ (sy_i F 83).toInt ∧ (sy_i F 83).toInt ≤ 2392)
    (a84 : 0 ≤ (sy_i F 84).toInt ∧ (sy_i F 84).toInt ≤ 7)
    (k0 : 7 ≤ (sy_i F 84).toInt → ∀ F1 : Nat → sy_d, iv_in F1 iv_B0 → (∀ j, j < 82 → j ∉ ([60, 61] : List Nat) → F1 j = F j) → sy_ai F1 60 = jm_cpy (sy_ai F 76) (sy_ai F 60) ((sy_i F 83).toInt).toNat (0 : Int).toNat (4 : Int).toNat → sy_ai F1 61 = jm_cpy (sy_ai F 76) (sy_ai F 61) (((sy_i F 83).toInt + 4)).toNat (0 : Int).toNat (4 : Int).toNat → Q (none) (sy_dh F1 X1 X2 (iv_H 1)))
    (k1 : (sy_i F 84).toInt < 7 → ∀ F1 : Nat → sy_d, iv_in F1 iv_B0 → (∀ j, j < 82 → j ∉ ([53, 54, 55, 56, 57, 58, 59] : List Nat) → F1 j = F j) → sy_ai F1 53 = jm_upd (sy_ai F 53) ((sy_i F 84).toInt).toNat ((sy_ai F 76).getD ((sy_i F 83).toInt).toNat 0) → sy_ai F1 54 = jm_upd (sy_ai F 54) ((sy_i F 84).toInt).toNat ((sy_ai F 76).getD (((sy_i F 83).toInt + 1)).toNat 0) → sy_ai F1 55 = jm_upd (sy_ai F 55) ((sy_i F 84).toInt).toNat ((sy_ai F 76).getD (((sy_i F 83).toInt + 2)).toNat 0) → sy_ai F1 56 = jm_upd (sy_ai F 56) ((sy_i F 84).toInt).toNat ((sy_ai F 76).getD (((sy_i F 83).toInt + 3)).toNat 0) → sy_ai F1 57 = jm_upd (sy_ai F 57) ((sy_i F 84).toInt).toNat ((sy_ai F 76).getD (((sy_i F 83).toInt + 4)).toNat 0) → sy_ai F1 58 = jm_upd (sy_ai F 58) ((sy_i F 84).toInt).toNat ((sy_ai F 76).getD (((sy_i F 83).toInt + 5)).toNat 0) → sy_ai F1 59 = jm_upd (sy_ai F 59) ((sy_i F 84).toInt).toNat ((sy_ai F 76).getD (((sy_i F 83).toInt + 6)).toNat 0) → (sy_i F1 82).toInt = (sy_i F 82).toInt → sy_i F1 82 = sy_i F 82 → (sy_i F1 83).toInt = ((sy_i F 83).toInt + 7) → sy_i F1 83 = (sy_i F 83) + ((7 : Int32)) → (sy_i F1 84).toInt = ((sy_i F 84).toInt + 1) → sy_i F1 84 = (sy_i F 84) + ((1 : Int32)) → hd_W Ls xs d jm_M10 Q (46, sy_dL F1 [some (.inl (.ref 46)), some (.inl (.ref 67)), some (.inr (.inl 82)), some (.inr (.inl 83)), some (.inr (.inl 84))], sy_dS F1 [], sy_dh F1 X1 X2 (iv_H 1), 0, 0)) :
    hd_W Ls xs d jm_M10 Q (46, sy_dL F [some (.inl (.ref 46)), some (.inl (.ref 67)), some (.inr (.inl 82)), some (.inr (.inl 83)), some (.inr (.inl 84))], sy_dS F [], sy_dh F X1 X2 (iv_H 1), 0, 0) := by
  by_cases g0 : 7 ≤ (sy_i F 84).toInt
  · have n86 : nzI ((sy_i F 83) + ((4 : Int32))) (((sy_i F 83).toInt + 4)) := nz_add (rfl : (sy_i F 83).toInt = (sy_i F 83).toInt) (by decide : ((4 : Int32)).toInt = 4) (by omega) (by omega)
    have w85 : jm_cpy (sy_ai F 76) (sy_ai F 60) (sy_i F 83).toNatClampNeg ((0 : Int32)).toNatClampNeg ((4 : Int32)).toNatClampNeg = jm_cpy (sy_ai F 76) (sy_ai F 60) ((sy_i F 83).toInt).toNat (0 : Int).toNat (4 : Int).toNat := by simp only [nz_c, (by decide : ((0 : Int32)).toInt = 0), (by decide : ((4 : Int32)).toInt = 4)]
    have w87 : jm_cpy (sy_ai F 76) (sy_ai F 61) ((sy_i F 83) + ((4 : Int32))).toNatClampNeg ((0 : Int32)).toNatClampNeg ((4 : Int32)).toNatClampNeg = jm_cpy (sy_ai F 76) (sy_ai F 61) (((sy_i F 83).toInt + 4)).toNat (0 : Int).toNat (4 : Int).toNat := by simp only [nz_c, (nzE n86), (by decide : ((0 : Int32)).toInt = 0), (by decide : ((4 : Int32)).toInt = 4)]
    exact j1ldt_46_p0 hd F X1 X2 hB (by first | exact g0 | (simp only [nz_c]; exact g0)) (by first | exact ⟨by omega, by omega⟩ | (simp only [nz_c]; exact ⟨by omega, by omega⟩)) (by first | (simp only [nz_c, (nzE n86)]; exact ⟨by omega, by omega⟩) | exact ⟨by omega, by omega⟩ | (rw [(nzE n86)]; exact ⟨by omega, by omega⟩)) (fun F1 g e60 e61 => k0 g0 F1 (nz_in0 hB [60, 61] (fun j hj hn => g j hj (by simp only [List.mem_cons, List.not_mem_nil, or_false, not_or] at hn; omega)) (List.forall_mem_cons.mpr ⟨fun t ht => (Option.some.inj ht) ▸ (nz_hz2 e60), List.forall_mem_cons.mpr ⟨fun t ht => (Option.some.inj ht) ▸ (nz_hz2 e61), List.forall_mem_nil _⟩⟩)) (fun j hj hn => g j hj (by simp only [List.mem_cons, List.not_mem_nil, or_false, not_or] at hn; omega)) ((zz_ai e60).trans w85) ((zz_ai e61).trans w87))
  replace g0 : (sy_i F 84).toInt < 7 := by omega
  have n87 : nzI ((sy_i F 83) + ((1 : Int32))) (((sy_i F 83).toInt + 1)) := nz_add (rfl : (sy_i F 83).toInt = (sy_i F 83).toInt) (by decide : ((1 : Int32)).toInt = 1) (by omega) (by omega)
  have n90 : nzI ((sy_i F 83) + ((2 : Int32))) (((sy_i F 83).toInt + 2)) := nz_add (rfl : (sy_i F 83).toInt = (sy_i F 83).toInt) (by decide : ((2 : Int32)).toInt = 2) (by omega) (by omega)
  have n93 : nzI ((sy_i F 83) + ((3 : Int32))) (((sy_i F 83).toInt + 3)) := nz_add (rfl : (sy_i F 83).toInt = (sy_i F 83).toInt) (by decide : ((3 : Int32)).toInt = 3) (by omega) (by omega)
  have n96 : nzI ((sy_i F 83) + ((4 : Int32))) (((sy_i F 83).toInt + 4)) := nz_add (rfl : (sy_i F 83).toInt = (sy_i F 83).toInt) (by decide : ((4 : Int32)).toInt = 4) (by omega) (by omega)
  have n99 : nzI ((sy_i F 83) + ((5 : Int32))) (((sy_i F 83).toInt + 5)) := nz_add (rfl : (sy_i F 83).toInt = (sy_i F 83).toInt) (by decide : ((5 : Int32)).toInt = 5) (by omega) (by omega)
  have n102 : nzI ((sy_i F 83) + ((6 : Int32))) (((sy_i F 83).toInt + 6)) := nz_add (rfl : (sy_i F 83).toInt = (sy_i F 83).toInt) (by decide : ((6 : Int32)).toInt = 6) (by omega) (by omega)
  have w86 : jm_upd (sy_ai F 53) (sy_i F 84).toNatClampNeg ((sy_ai F 76).getD (sy_i F 83).toNatClampNeg 0) = jm_upd (sy_ai F 53) ((sy_i F 84).toInt).toNat ((sy_ai F 76).getD ((sy_i F 83).toInt).toNat 0) := by simp only [nz_c]
  have w89 : jm_upd (sy_ai F 54) (sy_i F 84).toNatClampNeg ((sy_ai F 76).getD ((sy_i F 83) + ((1 : Int32))).toNatClampNeg 0) = jm_upd (sy_ai F 54) ((sy_i F 84).toInt).toNat ((sy_ai F 76).getD (((sy_i F 83).toInt + 1)).toNat 0) := by simp only [nz_c, (nzE n87), (by decide : ((1 : Int32)).toInt = 1)]
  have w92 : jm_upd (sy_ai F 55) (sy_i F 84).toNatClampNeg ((sy_ai F 76).getD ((sy_i F 83) + ((2 : Int32))).toNatClampNeg 0) = jm_upd (sy_ai F 55) ((sy_i F 84).toInt).toNat ((sy_ai F 76).getD (((sy_i F 83).toInt + 2)).toNat 0) := by simp only [nz_c, (nzE n90), (by decide : ((2 : Int32)).toInt = 2)]
  have w95 : jm_upd (sy_ai F 56) (sy_i F 84).toNatClampNeg ((sy_ai F 76).getD ((sy_i F 83) + ((3 : Int32))).toNatClampNeg 0) = jm_upd (sy_ai F 56) ((sy_i F 84).toInt).toNat ((sy_ai F 76).getD (((sy_i F 83).toInt + 3)).toNat 0) := by simp only [nz_c, (nzE n93), (by decide : ((3 : Int32)).toInt = 3)]
  have w98 : jm_upd (sy_ai F 57) (sy_i F 84).toNatClampNeg ((sy_ai F 76).getD ((sy_i F 83) + ((4 : Int32))).toNatClampNeg 0) = jm_upd (sy_ai F 57) ((sy_i F 84).toInt).toNat ((sy_ai F 76).getD (((sy_i F 83).toInt + 4)).toNat 0) := by simp only [nz_c, (nzE n96), (by decide : ((4 : Int32)).toInt = 4)]
  have w101 : jm_upd (sy_ai F 58) (sy_i F 84).toNatClampNeg ((sy_ai F 76).getD ((sy_i F 83) + ((5 : Int32))).toNatClampNeg 0) = jm_upd (sy_ai F 58) ((sy_i F 84).toInt).toNat ((sy_ai F 76).getD (((sy_i F 83).toInt + 5)).toNat 0) := by simp only [nz_c, (nzE n99), (by decide : ((5 : Int32)).toInt = 5)]
  have w104 : jm_upd (sy_ai F 59) (sy_i F 84).toNatClampNeg ((sy_ai F 76).getD ((sy_i F 83) + ((6 : Int32))).toNatClampNeg 0) = jm_upd (sy_ai F 59) ((sy_i F 84).toInt).toNat ((sy_ai F 76).getD (((sy_i F 83).toInt + 6)).toNat 0) := by simp only [nz_c, (nzE n102), (by decide : ((6 : Int32)).toInt = 6)]
  have n105 : nzI ((sy_i F 83) + ((7 : Int32))) (((sy_i F 83).toInt + 7)) := nz_add (rfl : (sy_i F 83).toInt = (sy_i F 83).toInt) (by decide : ((7 : Int32)).toInt = 7) (by omega) (by omega)
  have n106 : nzI ((sy_i F 84) + ((1 : Int32))) (((sy_i F 84).toInt + 1)) := nz_add (rfl : (sy_i F 84).toInt = (sy_i F 84).toInt) (by decide : ((1 : Int32)).toInt = 1) (by omega) (by omega)
  exact j1ldt_46_p1 hd F X1 X2 hB (by first | exact g0 | (simp only [nz_c]; exact g0)) (by first | exact ⟨by omega, by omega⟩ | (simp only [nz_c]; exact ⟨by omega, by omega⟩)) (by first | exact ⟨by omega, by omega⟩ | (simp only [nz_c]; exact ⟨by omega, by omega⟩)) (by first | (simp only [nz_c, (nzE n87)]; exact ⟨by omega, by omega⟩) | exact ⟨by omega, by omega⟩ | (rw [(nzE n87)]; exact ⟨by omega, by omega⟩)) (by first | exact ⟨by omega, by omega⟩ | (simp only [nz_c]; exact ⟨by omega, by omega⟩)) (by first | (simp only [nz_c, (nzE n90)]; exact ⟨by omega, by omega⟩) | exact ⟨by omega, by omega⟩ | (rw [(nzE n90)]; exact ⟨by omega, by omega⟩)) (by first | exact ⟨by omega, by omega⟩ | (simp only [nz_c]; exact ⟨by omega, by omega⟩)) (by first | (simp only [nz_c, (nzE n93)]; exact ⟨by omega, by omega⟩) | exact ⟨by omega, by omega⟩ | (rw [(nzE n93)]; exact ⟨by omega, by omega⟩)) (by first | exact ⟨by omega, by omega⟩ | (simp only [nz_c]; exact ⟨by omega, by omega⟩)) (by first | (simp only [nz_c, (nzE n96)]; exact ⟨by omega, by omega⟩) | exact ⟨by omega, by omega⟩ | (rw [(nzE n96)]; exact ⟨by omega, by omega⟩)) (by first | exact ⟨by omega, by omega⟩ | (simp only [nz_c]; exact ⟨by omega, by omega⟩)) (by first | (simp only [nz_c, (nzE n99)]; exact ⟨by omega, by omega⟩) | exact ⟨by omega, by omega⟩ | (rw [(nzE n99)]; exact ⟨by omega, by omega⟩)) (by first | exact ⟨by omega, by omega⟩ | (simp only [nz_c]; exact ⟨by omega, by omega⟩)) (by first | (simp only [nz_c, (nzE n102)]; exact ⟨by omega, by omega⟩) | exact ⟨by omega, by omega⟩ | (rw [(nzE n102)]; exact ⟨by omega, by omega⟩)) (by first | exact ⟨by omega, by omega⟩ | (simp only [nz_c]; exact ⟨by omega, by omega⟩)) (fun F1 g e53 e54 e55 e56 e57 e58 e59 e82 e83 e84 => k1 g0 F1 (nz_in0 hB [53, 54, 55, 56, 57, 58, 59] (fun j hj hn => g j hj (by simp only [List.mem_cons, List.not_mem_nil, or_false, not_or] at hn; omega)) (List.forall_mem_cons.mpr ⟨fun t ht => (Option.some.inj ht) ▸ (nz_hz2 e53), List.forall_mem_cons.mpr ⟨fun t ht => (Option.some.inj ht) ▸ (nz_hz2 e54), List.forall_mem_cons.mpr ⟨fun t ht => (Option.some.inj ht) ▸ (nz_hz2 e55), List.forall_mem_cons.mpr ⟨fun t ht => (Option.some.inj ht) ▸ (nz_hz2 e56), List.forall_mem_cons.mpr ⟨fun t ht => (Option.some.inj ht) ▸ (nz_hz2 e57), List.forall_mem_cons.mpr ⟨fun t ht => (Option.some.inj ht) ▸ (nz_hz2 e58), List.forall_mem_cons.mpr ⟨fun t ht => (Option.some.inj ht) ▸ (nz_hz2 e59), List.forall_mem_nil _⟩⟩⟩⟩⟩⟩⟩)) (fun j hj hn => g j hj (by simp only [List.mem_cons, List.not_mem_nil, or_false, not_or] at hn; omega)) ((zz_ai e53).trans w86) ((zz_ai e54).trans w89) ((zz_ai e55).trans w92) ((zz_ai e56).trans w95) ((zz_ai e57).trans w98) ((zz_ai e58).trans w101) ((zz_ai e59).trans w104) ((congrArg Int32.toInt (zz_i e82)).trans (rfl : (sy_i F 82).toInt = (sy_i F 82).toInt)) ((zz_i e82).trans (rfl : sy_i F 82 = sy_i F 82)) ((congrArg Int32.toInt (zz_i e83)).trans (nzE n105)) ((zz_i e83).trans (rfl : (sy_i F 83) + ((7 : Int32)) = (sy_i F 83) + ((7 : Int32)))) ((congrArg Int32.toInt (zz_i e84)).trans (nzE n106)) ((zz_i e84).trans (rfl : (sy_i F 84) + ((1 : Int32)) = (sy_i F 84) + ((1 : Int32)))))
theorem j1svs_0_p0 {Ls : Nat} {xs : Nat → Int32} {d : Nat} {Q : Option Value → jm_h → Prop} (hd : 1 ≤ d) (F : Nat → sy_d) (X1 X2 : List jm_c) (hB : iv_in F iv_B0)
    (h0 : 0 ≤ (sy_i F 82).toInt)
    (h1 : (sy_i F 82).toInt ≤ 120)
    (h2 : 0 ≤ (sy_i F 82).toInt ∧ (sy_i F 82).toInt < 180)
    (h3 : 0 ≤ ((sy_i F 82) + ((1 : Int32))).toInt ∧ ((sy_i F 82) + ((1 : Int32))).toInt < 180)
    (h4 : 0 ≤ ((sy_i F 82) + ((2 : Int32))).toInt ∧ ((sy_i F 82) + ((2 : Int32))).toInt < 180)
    (k : ∀ F1 : Nat → sy_d, (∀ j, j < 82 → j ≠ 77 → F1 j = F j) → F1 77 = .inr (.inl (jm_upd (jm_upd (jm_upd (sy_ai F 77) (sy_i F 82).toNatClampNeg (sy_i F 50)) ((sy_i F 82) + ((1 : Int32))).toNatClampNeg (sy_i F 51)) ((sy_i F 82) + ((2 : Int32))).toNatClampNeg (sy_i F 52))) → F1 82 = .inl (.int (sy_i F 82)) → F1 83 = .inl (.int ((sy_i F 82) + ((3 : Int32)))) → F1 84 = .inl (.int ((0 : Int32))) → hd_W Ls xs d jm_M9 Q (46, sy_dL F1 [some (.inl (.ref 46)), some (.inl (.ref 68)), some (.inr (.inl 82)), some (.inr (.inl 83)), some (.inr (.inl 84))], sy_dS F1 [], sy_dh F1 X1 X2 (iv_H 1), 0, 0)) :
    hd_W Ls xs d jm_M9 Q (0, sy_dL F [some (.inl (.ref 46)), some (.inl (.ref 68)), some (.inr (.inl 82)), none, none], sy_dS F [], sy_dh F X1 X2 (iv_H 1), 0, 0) := by
  refine hd_run (s := 1) (nv := 83) (pc := 46) (L := [some (.inl (.ref 46)), some (.inl (.ref 68)), some (.inr (.inl 82)), some (.inr (.inl 83)), some (.inr (.inl 84))]) (S := []) (uh := hd_ov (iv_id 0 iv_B0) [(77, .inr (.inr (.inl 87)))]) (ul := [.inl (.inr (.inl 82)), .inl (.inr (.inl 88)), .inl (.inl (.int 0))]) (f := true) (sp := [46]) (d0 := 0) (O := [false, true]) (T := [(40, [.inr (.inl 82), .inr (.inl 50)], [.inr (.inl 77)]), (0, [.inr (.inl 82), .inl (.int 1)], []), (40, [.inr (.inl 84), .inr (.inl 51)], [.inr (.inl 83)]), (0, [.inr (.inl 82), .inl (.int 2)], []), (40, [.inr (.inl 86), .inr (.inl 52)], [.inr (.inl 85)]), (0, [.inr (.inl 82), .inl (.int 3)], [])]) (P := [(3, .inr (.inl 82), .inl (.int 0)), (4, .inr (.inl 82), .inl (.int 120)), (6, .inr (.inl 82), .inl (.ref 180)), (6, .inr (.inl 84), .inl (.ref 180)), (6, .inr (.inl 86), .inl (.ref 180))]) jm_ok9 (by decide +kernel) (by decide +kernel) hd F X1 X2 (fun F' hF hs => ?_)
  have b82 := hd_b (F := F) (F' := F') (k := 82) (hF 82 (by decide))
  have t84 : sy_dv F' (.inr (.inl 84)) = .int ((sy_i F 82) + ((1 : Int32))) := hd_o (hs 1 _ rfl) b82 rfl rfl
  have t86 : sy_dv F' (.inr (.inl 86)) = .int ((sy_i F 82) + ((2 : Int32))) := hd_o (hs 3 _ rfl) b82 rfl rfl
  have b52 := hd_b (F := F) (F' := F') (k := 52) (hF 52 (by decide))
  have b51 := hd_b (F := F) (F' := F') (k := 51) (hF 51 (by decide))
  have b50 := hd_b (F := F) (F' := F') (k := 50) (hF 50 (by decide))
  have a77 := hd_ba (F := F) (F' := F') (k := 77) (hF 77 (by decide))
  have t83 : sy_da F' (.inr (.inl 83)) = .inl (jm_upd (sy_ai F 77) (sy_i F 82).toNatClampNeg (sy_i F 50)) := hd_up (hs 0 _ rfl) b82 b50 a77
  have t85 : sy_da F' (.inr (.inl 85)) = .inl (jm_upd (jm_upd (sy_ai F 77) (sy_i F 82).toNatClampNeg (sy_i F 50)) ((sy_i F 82) + ((1 : Int32))).toNatClampNeg (sy_i F 51)) := hd_up (hs 2 _ rfl) t84 b51 t83
  have t87 : sy_da F' (.inr (.inl 87)) = .inl (jm_upd (jm_upd (jm_upd (sy_ai F 77) (sy_i F 82).toNatClampNeg (sy_i F 50)) ((sy_i F 82) + ((1 : Int32))).toNatClampNeg (sy_i F 51)) ((sy_i F 82) + ((2 : Int32))).toNatClampNeg (sy_i F 52)) := hd_up (hs 4 _ rfl) t86 b52 t85
  have t88 : sy_dv F' (.inr (.inl 88)) = .int ((sy_i F 82) + ((3 : Int32))) := hd_o (hs 5 _ rfl) b82 rfl rfl
  have hB' : iv_in F' iv_B0 := iv_in_eq hB (fun j hj => hF j (Nat.lt_of_lt_of_le hj (by decide +kernel)))
  refine ⟨List.forall_mem_cons.mpr ⟨hd_p3 b82 rfl (by have hc : ((0) : Int32).toInt = 0 := (by decide); omega), List.forall_mem_cons.mpr ⟨hd_p4 b82 rfl (by have hc : ((120) : Int32).toInt = 120 := (by decide); omega), List.forall_mem_cons.mpr ⟨hd_pb b82 (by first | exact h2 | exact h2), List.forall_mem_cons.mpr ⟨hd_pb t84 (by first | exact h3 | exact h3), List.forall_mem_cons.mpr ⟨hd_pb t86 (by first | exact h4 | exact h4), fun _ h => absurd h List.not_mem_nil⟩⟩⟩⟩⟩, ?_⟩
  refine k _ ?_ ?_ ?_ ?_ ?_
  · exact fun j hj hn => (hd_keep hB' (Nat.lt_of_lt_of_le hj (by decide +kernel)) (by simp; omega)).trans (hF j (Nat.lt_of_lt_of_le hj (by decide)))
  · exact hd_ga (a := .inr (.inl 87)) (by decide +kernel) t87
  · exact hd_gi (x := .inr (.inl 82)) (by decide +kernel) b82
  · exact hd_gi (x := .inr (.inl 88)) (by decide +kernel) t88
  · exact hd_gi (x := .inl (.int 0)) (by decide +kernel) rfl
theorem j1svs_0 {Ls : Nat} {xs : Nat → Int32} {d : Nat} {Q : Option Value → jm_h → Prop} (hd : 1 ≤ d) (F : Nat → sy_d) (X1 X2 : List jm_c) (hB : iv_in F iv_B0)
    (a82 : 0 ≤ (sy_i F 82).toInt ∧ (sy_i F 82).toInt ≤ 120)
    (k0 : 0 ≤ (sy_i F 82).toInt → (sy_i F 82).toInt ≤ 120 → ∀ F1 : Nat → sy_d, iv_in F1 iv_B0 → (∀ j, j < 82 → j ∉ ([77] : List Nat) → F1 j = F j) → sy_ai F1 77 = jm_upd (jm_upd (jm_upd (sy_ai F 77) ((sy_i F 82).toInt).toNat (sy_i F 50)) (((sy_i F 82).toInt + 1)).toNat (sy_i F 51)) (((sy_i F 82).toInt + 2)).toNat (sy_i F 52) → (sy_i F1 82).toInt = (sy_i F 82).toInt → sy_i F1 82 = sy_i F 82 → (sy_i F1 83).toInt = ((sy_i F 82).toInt + 3) → sy_i F1 83 = (sy_i F 82) + ((3 : Int32)) → (sy_i F1 84).toInt = 0 → sy_i F1 84 = (0 : Int32) → hd_W Ls xs d jm_M9 Q (46, sy_dL F1 [some (.inl (.ref 46)), some (.inl (.ref 68)), some (.inr (.inl 82)), some (.inr (.inl 83)), some (.inr (.inl 84))], sy_dS F1 [], sy_dh F1 X1 X2 (iv_H 1), 0, 0)) :
    hd_W Ls xs d jm_M9 Q (0, sy_dL F [some (.inl (.ref 46)), some (.inl (.ref 68)), some (.inr (.inl 82)), none, none], sy_dS F [], sy_dh F X1 X2 (iv_H 1), 0, 0) := by
  by_cases g0 : (sy_i F 82).toInt < 0
  · exfalso
    omega
  replace g0 : 0 ≤ (sy_i F 82).toInt := by omega
  by_cases g1 : (sy_i F 82).toInt ≤ 120
  · have n84 : nzI ((sy_i F 82) + ((1 : Int32))) (((sy_i F 82).toInt + 1)) := nz_add (rfl : (sy_i F 82).toInt = (sy_i F 82).toInt) (by decide : ((1 : Int32)).toInt = 1) (by omega) (by omega)
    have n86 : nzI ((sy_i F 82) + ((2 : Int32))) (((sy_i F 82).toInt + 2)) := nz_add (rfl : (sy_i F 82).toInt = (sy_i F 82).toInt) (by decide : ((2 : Int32)).toInt = 2) (by omega) (by omega)
    have w87 : jm_upd (jm_upd (jm_upd (sy_ai F 77) (sy_i F 82).toNatClampNeg (sy_i F 50)) ((sy_i F 82) + ((1 : Int32))).toNatClampNeg (sy_i F 51)) ((sy_i F 82) + ((2 : Int32))).toNatClampNeg (sy_i F 52) = jm_upd (jm_upd (jm_upd (sy_ai F 77) ((sy_i F 82).toInt).toNat (sy_i F 50)) (((sy_i F 82).toInt + 1)).toNat (sy_i F 51)) (((sy_i F 82).toInt + 2)).toNat (sy_i F 52) := by simp only [nz_c, (nzE n84), (nzE n86), (by decide : ((1 : Int32)).toInt = 1), (by decide : ((2 : Int32)).toInt = 2)]
    have n88 : nzI ((sy_i F 82) + ((3 : Int32))) (((sy_i F 82).toInt + 3)) := nz_add (rfl : (sy_i F 82).toInt = (sy_i F 82).toInt) (by decide : ((3 : Int32)).toInt = 3) (by omega) (by omega)
    exact j1svs_0_p0 hd F X1 X2 hB (by first | exact g0 | (simp only [nz_c]; exact g0)) (by first | exact g1 | (simp only [nz_c]; exact g1)) (by first | exact ⟨by omega, by omega⟩ | (simp only [nz_c]; exact ⟨by omega, by omega⟩)) (by first | (simp only [nz_c, (nzE n84)]; exact ⟨by omega, by omega⟩) | exact ⟨by omega, by omega⟩ | (rw [(nzE n84)]; exact ⟨by omega, by omega⟩)) (by first | (simp only [nz_c, (nzE n86)]; exact ⟨by omega, by omega⟩) | exact ⟨by omega, by omega⟩ | (rw [(nzE n86)]; exact ⟨by omega, by omega⟩)) (fun F1 g e77 e82 e83 e84 => k0 g0 g1 F1 (nz_in0 hB [77] (fun j hj hn => g j hj (by simp only [List.mem_cons, List.not_mem_nil, or_false, not_or] at hn; omega)) (List.forall_mem_cons.mpr ⟨fun t ht => (Option.some.inj ht) ▸ (nz_hz2 e77), List.forall_mem_nil _⟩)) (fun j hj hn => g j hj (by simp only [List.mem_cons, List.not_mem_nil, or_false, not_or] at hn; omega)) ((zz_ai e77).trans w87) ((congrArg Int32.toInt (zz_i e82)).trans (rfl : (sy_i F 82).toInt = (sy_i F 82).toInt)) ((zz_i e82).trans (rfl : sy_i F 82 = sy_i F 82)) ((congrArg Int32.toInt (zz_i e83)).trans (nzE n88)) ((zz_i e83).trans (rfl : (sy_i F 82) + ((3 : Int32)) = (sy_i F 82) + ((3 : Int32)))) ((congrArg Int32.toInt (zz_i e84)).trans (by decide : ((0 : Int32)).toInt = 0)) ((zz_i e84).trans (rfl : (0 : Int32) = (0 : Int32))))
  replace g1 : 120 < (sy_i F 82).toInt := by omega
  exfalso
  omega
theorem j1svs_46_p0 {Ls : Nat} {xs : Nat → Int32} {d : Nat} {Q : Option Value → jm_h → Prop} (hd : 1 ≤ d) (F : Nat → sy_d) (X1 X2 : List jm_c) (hB : iv_in F iv_B0)
    (h0 : 7 ≤ (sy_i F 84).toInt)
    (h1 : 0 ≤ (sy_i F 83).toInt ∧ (sy_i F 83).toInt < 177)
    (h2 : 0 ≤ ((sy_i F 83) + ((4 : Int32))).toInt ∧ ((sy_i F 83) + ((4 : Int32))).toInt < 177)
    (k : ∀ F1 : Nat → sy_d, (∀ j, j < 82 → j ≠ 77 → F1 j = F j) → F1 77 = .inr (.inl (jm_cpy (sy_ai F 61) (jm_cpy (sy_ai F 60) (sy_ai F 77) ((0 : Int32)).toNatClampNeg (sy_i F 83).toNatClampNeg ((4 : Int32)).toNatClampNeg) ((0 : Int32)).toNatClampNeg ((sy_i F 83) + ((4 : Int32))).toNatClampNeg ((4 : Int32)).toNatClampNeg)) → Q (none) (sy_dh F1 X1 X2 (iv_H 1))) :
    hd_W Ls xs d jm_M9 Q (46, sy_dL F [some (.inl (.ref 46)), some (.inl (.ref 68)), some (.inr (.inl 82)), some (.inr (.inl 83)), some (.inr (.inl 84))], sy_dS F [], sy_dh F X1 X2 (iv_H 1), 0, 0) := by
  refine hd_ret (s := 1) (nv := 85) (v := none) (uh := hd_ov (iv_id 0 iv_B0) [(77, .inr (.inr (.inl 87)))]) (f := true) (sp := [46]) (d0 := 0) (O := [true]) (T := [(42, [.inl (.int 0), .inr (.inl 83), .inl (.int 4)], [.inr (.inl 60), .inr (.inl 77)]), (0, [.inr (.inl 83), .inl (.int 4)], []), (42, [.inl (.int 0), .inr (.inl 86), .inl (.int 4)], [.inr (.inl 61), .inr (.inl 85)])]) (P := [(4, .inl (.int 7), .inr (.inl 84)), (6, .inr (.inl 83), .inl (.ref 177)), (6, .inr (.inl 86), .inl (.ref 177))]) jm_ok9 (by decide +kernel) (by decide +kernel) hd F X1 X2 (fun F' hF hs => ?_)
  have b84 := hd_b (F := F) (F' := F') (k := 84) (hF 84 (by decide))
  have b83 := hd_b (F := F) (F' := F') (k := 83) (hF 83 (by decide))
  have t86 : sy_dv F' (.inr (.inl 86)) = .int ((sy_i F 83) + ((4 : Int32))) := hd_o (hs 1 _ rfl) b83 rfl rfl
  have a61 := hd_ba (F := F) (F' := F') (k := 61) (hF 61 (by decide))
  have a60 := hd_ba (F := F) (F' := F') (k := 60) (hF 60 (by decide))
  have a77 := hd_ba (F := F) (F' := F') (k := 77) (hF 77 (by decide))
  have t85 : sy_da F' (.inr (.inl 85)) = .inl (jm_cpy (sy_ai F 60) (sy_ai F 77) ((0 : Int32)).toNatClampNeg (sy_i F 83).toNatClampNeg ((4 : Int32)).toNatClampNeg) := hd_cp (hs 0 _ rfl) rfl b83 rfl a60 a77
  have t87 : sy_da F' (.inr (.inl 87)) = .inl (jm_cpy (sy_ai F 61) (jm_cpy (sy_ai F 60) (sy_ai F 77) ((0 : Int32)).toNatClampNeg (sy_i F 83).toNatClampNeg ((4 : Int32)).toNatClampNeg) ((0 : Int32)).toNatClampNeg ((sy_i F 83) + ((4 : Int32))).toNatClampNeg ((4 : Int32)).toNatClampNeg) := hd_cp (hs 2 _ rfl) rfl t86 rfl a61 t85
  have hB' : iv_in F' iv_B0 := iv_in_eq hB (fun j hj => hF j (Nat.lt_of_lt_of_le hj (by decide +kernel)))
  refine ⟨List.forall_mem_cons.mpr ⟨hd_p4 rfl b84 (by have hc : ((7) : Int32).toInt = 7 := (by decide); omega), List.forall_mem_cons.mpr ⟨hd_pb b83 (by first | exact h1 | exact h1), List.forall_mem_cons.mpr ⟨hd_pb t86 (by first | exact h2 | exact h2), fun _ h => absurd h List.not_mem_nil⟩⟩⟩, ?_⟩
  refine k _ ?_ ?_
  · exact fun j hj hn => (hd_keep hB' (Nat.lt_of_lt_of_le hj (by decide +kernel)) (by simp; omega)).trans (hF j (Nat.lt_of_lt_of_le hj (by decide)))
  · exact hd_ga (a := .inr (.inl 87)) (by decide +kernel) t87
theorem j1svs_46_p1 {Ls : Nat} {xs : Nat → Int32} {d : Nat} {Q : Option Value → jm_h → Prop} (hd : 1 ≤ d) (F : Nat → sy_d) (X1 X2 : List jm_c) (hB : iv_in F iv_B0)
    (h0 : (sy_i F 84).toInt < 7)
    (h1 : 0 ≤ (sy_i F 84).toInt ∧ (sy_i F 84).toInt < 7)
    (h2 : 0 ≤ (sy_i F 83).toInt ∧ (sy_i F 83).toInt < 180)
    (h3 : 0 ≤ (sy_i F 84).toInt ∧ (sy_i F 84).toInt < 7)
    (h4 : 0 ≤ ((sy_i F 83) + ((1 : Int32))).toInt ∧ ((sy_i F 83) + ((1 : Int32))).toInt < 180)
    (h5 : 0 ≤ (sy_i F 84).toInt ∧ (sy_i F 84).toInt < 7)
    (h6 : 0 ≤ ((sy_i F 83) + ((2 : Int32))).toInt ∧ ((sy_i F 83) + ((2 : Int32))).toInt < 180)
    (h7 : 0 ≤ (sy_i F 84).toInt ∧ (sy_i F 84).toInt < 7)
    (h8 : 0 ≤ ((sy_i F 83) + ((3 : Int32))).toInt ∧ ((sy_i F 83) + ((3 : Int32))).toInt < 180)
    (h9 : 0 ≤ (sy_i F 84).toInt ∧ (sy_i F 84).toInt < 7)
    (h10 : 0 ≤ ((sy_i F 83) + ((4 : Int32))).toInt ∧ ((sy_i F 83) + ((4 : Int32))).toInt < 180)
    (h11 : 0 ≤ (sy_i F 84).toInt ∧ (sy_i F 84).toInt < 7)
    (h12 : 0 ≤ ((sy_i F 83) + ((5 : Int32))).toInt ∧ ((sy_i F 83) + ((5 : Int32))).toInt < 180)
    (h13 : 0 ≤ (sy_i F 84).toInt ∧ (sy_i F 84).toInt < 7)
    (h14 : 0 ≤ ((sy_i F 83) + ((6 : Int32))).toInt ∧ ((sy_i F 83) + ((6 : Int32))).toInt < 180)
    (k : ∀ F1 : Nat → sy_d, (∀ j, j < 82 → j ≠ 77 → F1 j = F j) → F1 77 = .inr (.inl (jm_upd (jm_upd (jm_upd (jm_upd (jm_upd (jm_upd (jm_upd (sy_ai F 77) (sy_i F 83).toNatClampNeg ((sy_ai F 53).getD (sy_i F 84).toNatClampNeg 0)) ((sy_i F 83) + ((1 : Int32))).toNatClampNeg ((sy_ai F 54).getD (sy_i F 84).toNatClampNeg 0)) ((sy_i F 83) + ((2 : Int32))).toNatClampNeg ((sy_ai F 55).getD (sy_i F 84).toNatClampNeg 0)) ((sy_i F 83) + ((3 : Int32))).toNatClampNeg ((sy_ai F 56).getD (sy_i F 84).toNatClampNeg 0)) ((sy_i F 83) + ((4 : Int32))).toNatClampNeg ((sy_ai F 57).getD (sy_i F 84).toNatClampNeg 0)) ((sy_i F 83) + ((5 : Int32))).toNatClampNeg ((sy_ai F 58).getD (sy_i F 84).toNatClampNeg 0)) ((sy_i F 83) + ((6 : Int32))).toNatClampNeg ((sy_ai F 59).getD (sy_i F 84).toNatClampNeg 0))) → F1 82 = .inl (.int (sy_i F 82)) → F1 83 = .inl (.int ((sy_i F 83) + ((7 : Int32)))) → F1 84 = .inl (.int ((sy_i F 84) + ((1 : Int32)))) → hd_W Ls xs d jm_M9 Q (46, sy_dL F1 [some (.inl (.ref 46)), some (.inl (.ref 68)), some (.inr (.inl 82)), some (.inr (.inl 83)), some (.inr (.inl 84))], sy_dS F1 [], sy_dh F1 X1 X2 (iv_H 1), 0, 0)) :
    hd_W Ls xs d jm_M9 Q (46, sy_dL F [some (.inl (.ref 46)), some (.inl (.ref 68)), some (.inr (.inl 82)), some (.inr (.inl 83)), some (.inr (.inl 84))], sy_dS F [], sy_dh F X1 X2 (iv_H 1), 0, 0) := by
  refine hd_run (s := 1) (nv := 85) (pc := 46) (L := [some (.inl (.ref 46)), some (.inl (.ref 68)), some (.inr (.inl 82)), some (.inr (.inl 83)), some (.inr (.inl 84))]) (S := []) (uh := hd_ov (iv_id 0 iv_B0) [(77, .inr (.inr (.inl 104)))]) (ul := [.inl (.inr (.inl 82)), .inl (.inr (.inl 105)), .inl (.inr (.inl 106))]) (f := true) (sp := [46]) (d0 := 0) (O := [false]) (T := [(30, [.inr (.inl 84)], [.inr (.inl 53)]), (40, [.inr (.inl 83), .inr (.inl 85)], [.inr (.inl 77)]), (0, [.inr (.inl 83), .inl (.int 1)], []), (30, [.inr (.inl 84)], [.inr (.inl 54)]), (40, [.inr (.inl 87), .inr (.inl 88)], [.inr (.inl 86)]), (0, [.inr (.inl 83), .inl (.int 2)], []), (30, [.inr (.inl 84)], [.inr (.inl 55)]), (40, [.inr (.inl 90), .inr (.inl 91)], [.inr (.inl 89)]), (0, [.inr (.inl 83), .inl (.int 3)], []), (30, [.inr (.inl 84)], [.inr (.inl 56)]), (40, [.inr (.inl 93), .inr (.inl 94)], [.inr (.inl 92)]), (0, [.inr (.inl 83), .inl (.int 4)], []), (30, [.inr (.inl 84)], [.inr (.inl 57)]), (40, [.inr (.inl 96), .inr (.inl 97)], [.inr (.inl 95)]), (0, [.inr (.inl 83), .inl (.int 5)], []), (30, [.inr (.inl 84)], [.inr (.inl 58)]), (40, [.inr (.inl 99), .inr (.inl 100)], [.inr (.inl 98)]), (0, [.inr (.inl 83), .inl (.int 6)], []), (30, [.inr (.inl 84)], [.inr (.inl 59)]), (40, [.inr (.inl 102), .inr (.inl 103)], [.inr (.inl 101)]), (0, [.inr (.inl 83), .inl (.int 7)], []), (0, [.inr (.inl 84), .inl (.int 1)], [])]) (P := [(5, .inl (.int 7), .inr (.inl 84)), (6, .inr (.inl 84), .inl (.ref 7)), (6, .inr (.inl 83), .inl (.ref 180)), (6, .inr (.inl 84), .inl (.ref 7)), (6, .inr (.inl 87), .inl (.ref 180)), (6, .inr (.inl 84), .inl (.ref 7)), (6, .inr (.inl 90), .inl (.ref 180)), (6, .inr (.inl 84), .inl (.ref 7)), (6, .inr (.inl 93), .inl (.ref 180)), (6, .inr (.inl 84), .inl (.ref 7)), (6, .inr (.inl 96), .inl (.ref 180)), (6, .inr (.inl 84), .inl (.ref 7)), (6, .inr (.inl 99), .inl (.ref 180)), (6, .inr (.inl 84), .inl (.ref 7)), (6, .inr (.inl 102), .inl (.ref 180))]) jm_ok9 (by decide +kernel) (by decide +kernel) hd F X1 X2 (fun F' hF hs => ?_)
  have b84 := hd_b (F := F) (F' := F') (k := 84) (hF 84 (by decide))
  have b83 := hd_b (F := F) (F' := F') (k := 83) (hF 83 (by decide))
  have t87 : sy_dv F' (.inr (.inl 87)) = .int ((sy_i F 83) + ((1 : Int32))) := hd_o (hs 2 _ rfl) b83 rfl rfl
  have t90 : sy_dv F' (.inr (.inl 90)) = .int ((sy_i F 83) + ((2 : Int32))) := hd_o (hs 5 _ rfl) b83 rfl rfl
  have t93 : sy_dv F' (.inr (.inl 93)) = .int ((sy_i F 83) + ((3 : Int32))) := hd_o (hs 8 _ rfl) b83 rfl rfl
  have t96 : sy_dv F' (.inr (.inl 96)) = .int ((sy_i F 83) + ((4 : Int32))) := hd_o (hs 11 _ rfl) b83 rfl rfl
  have t99 : sy_dv F' (.inr (.inl 99)) = .int ((sy_i F 83) + ((5 : Int32))) := hd_o (hs 14 _ rfl) b83 rfl rfl
  have t102 : sy_dv F' (.inr (.inl 102)) = .int ((sy_i F 83) + ((6 : Int32))) := hd_o (hs 17 _ rfl) b83 rfl rfl
  have a59 := hd_ba (F := F) (F' := F') (k := 59) (hF 59 (by decide))
  have t103 : sy_dv F' (.inr (.inl 103)) = .int ((sy_ai F 59).getD (sy_i F 84).toNatClampNeg 0) := hd_rd (hs 18 _ rfl) b84 a59
  have a58 := hd_ba (F := F) (F' := F') (k := 58) (hF 58 (by decide))
  have t100 : sy_dv F' (.inr (.inl 100)) = .int ((sy_ai F 58).getD (sy_i F 84).toNatClampNeg 0) := hd_rd (hs 15 _ rfl) b84 a58
  have a57 := hd_ba (F := F) (F' := F') (k := 57) (hF 57 (by decide))
  have t97 : sy_dv F' (.inr (.inl 97)) = .int ((sy_ai F 57).getD (sy_i F 84).toNatClampNeg 0) := hd_rd (hs 12 _ rfl) b84 a57
  have a56 := hd_ba (F := F) (F' := F') (k := 56) (hF 56 (by decide))
  have t94 : sy_dv F' (.inr (.inl 94)) = .int ((sy_ai F 56).getD (sy_i F 84).toNatClampNeg 0) := hd_rd (hs 9 _ rfl) b84 a56
  have a55 := hd_ba (F := F) (F' := F') (k := 55) (hF 55 (by decide))
  have t91 : sy_dv F' (.inr (.inl 91)) = .int ((sy_ai F 55).getD (sy_i F 84).toNatClampNeg 0) := hd_rd (hs 6 _ rfl) b84 a55
  have a54 := hd_ba (F := F) (F' := F') (k := 54) (hF 54 (by decide))
  have t88 : sy_dv F' (.inr (.inl 88)) = .int ((sy_ai F 54).getD (sy_i F 84).toNatClampNeg 0) := hd_rd (hs 3 _ rfl) b84 a54
  have a53 := hd_ba (F := F) (F' := F') (k := 53) (hF 53 (by decide))
  have t85 : sy_dv F' (.inr (.inl 85)) = .int ((sy_ai F 53).getD (sy_i F 84).toNatClampNeg 0) := hd_rd (hs 0 _ rfl) b84 a53
  have a77 := hd_ba (F := F) (F' := F') (k := 77) (hF 77 (by decide))
  have t86 : sy_da F' (.inr (.inl 86)) = .inl (jm_upd (sy_ai F 77) (sy_i F 83).toNatClampNeg ((sy_ai F 53).getD (sy_i F 84).toNatClampNeg 0)) := hd_up (hs 1 _ rfl) b83 t85 a77
  have t89 : sy_da F' (.inr (.inl 89)) = .inl (jm_upd (jm_upd (sy_ai F 77) (sy_i F 83).toNatClampNeg ((sy_ai F 53).getD (sy_i F 84).toNatClampNeg 0)) ((sy_i F 83) + ((1 : Int32))).toNatClampNeg ((sy_ai F 54).getD (sy_i F 84).toNatClampNeg 0)) := hd_up (hs 4 _ rfl) t87 t88 t86
  have t92 : sy_da F' (.inr (.inl 92)) = .inl (jm_upd (jm_upd (jm_upd (sy_ai F 77) (sy_i F 83).toNatClampNeg ((sy_ai F 53).getD (sy_i F 84).toNatClampNeg 0)) ((sy_i F 83) + ((1 : Int32))).toNatClampNeg ((sy_ai F 54).getD (sy_i F 84).toNatClampNeg 0)) ((sy_i F 83) + ((2 : Int32))).toNatClampNeg ((sy_ai F 55).getD (sy_i F 84).toNatClampNeg 0)) := hd_up (hs 7 _ rfl) t90 t91 t89
  have t95 : sy_da F' (.inr (.inl 95)) = .inl (jm_upd (jm_upd (jm_upd (jm_upd (sy_ai F 77) (sy_i F 83).toNatClampNeg ((sy_ai F 53).getD (sy_i F 84).toNatClampNeg 0)) ((sy_i F 83) + ((1 : Int32))).toNatClampNeg ((sy_ai F 54).getD (sy_i F 84).toNatClampNeg 0)) ((sy_i F 83) + ((2 : Int32))).toNatClampNeg ((sy_ai F 55).getD (sy_i F 84).toNatClampNeg 0)) ((sy_i F 83) + ((3 : Int32))).toNatClampNeg ((sy_ai F 56).getD (sy_i F 84).toNatClampNeg 0)) := hd_up (hs 10 _ rfl) t93 t94 t92
  have t98 : sy_da F' (.inr (.inl 98)) = .inl (jm_upd (jm_upd (jm_upd (jm_upd (jm_upd (sy_ai F 77) (sy_i F 83).toNatClampNeg ((sy_ai F 53).getD (sy_i F 84).toNatClampNeg 0)) ((sy_i F 83) + ((1 : Int32))).toNatClampNeg ((sy_ai F 54).getD (sy_i F 84).toNatClampNeg 0)) ((sy_i F 83) + ((2 : Int32))).toNatClampNeg ((sy_ai F 55).getD (sy_i F 84).toNatClampNeg 0)) ((sy_i F 83) + ((3 : Int32))).toNatClampNeg ((sy_ai F 56).getD (sy_i F 84).toNatClampNeg 0)) ((sy_i F 83) + ((4 : Int32))).toNatClampNeg ((sy_ai F 57).getD (sy_i F 84).toNatClampNeg 0)) := hd_up (hs 13 _ rfl) t96 t97 t95
  have t101 : sy_da F' (.inr (.inl 101)) = .inl (jm_upd (jm_upd (jm_upd (jm_upd (jm_upd (jm_upd (sy_ai F 77) (sy_i F 83).toNatClampNeg ((sy_ai F 53).getD (sy_i F 84).toNatClampNeg 0)) ((sy_i F 83) + ((1 : Int32))).toNatClampNeg ((sy_ai F 54).getD (sy_i F 84).toNatClampNeg 0)) ((sy_i F 83) + ((2 : Int32))).toNatClampNeg ((sy_ai F 55).getD (sy_i F 84).toNatClampNeg 0)) ((sy_i F 83) + ((3 : Int32))).toNatClampNeg ((sy_ai F 56).getD (sy_i F 84).toNatClampNeg 0)) ((sy_i F 83) + ((4 : Int32))).toNatClampNeg ((sy_ai F 57).getD (sy_i F 84).toNatClampNeg 0)) ((sy_i F 83) + ((5 : Int32))).toNatClampNeg ((sy_ai F 58).getD (sy_i F 84).toNatClampNeg 0)) := hd_up (hs 16 _ rfl) t99 t100 t98
  have t104 : sy_da F' (.inr (.inl 104)) = .inl (jm_upd (jm_upd (jm_upd (jm_upd (jm_upd (jm_upd (jm_upd (sy_ai F 77) (sy_i F 83).toNatClampNeg ((sy_ai F 53).getD (sy_i F 84).toNatClampNeg 0)) ((sy_i F 83) + ((1 : Int32))).toNatClampNeg ((sy_ai F 54).getD (sy_i F 84).toNatClampNeg 0)) ((sy_i F 83) + ((2 : Int32))).toNatClampNeg ((sy_ai F 55).getD (sy_i F 84).toNatClampNeg 0)) ((sy_i F 83) + ((3 : Int32))).toNatClampNeg ((sy_ai F 56).getD (sy_i F 84).toNatClampNeg 0)) ((sy_i F 83) + ((4 : Int32))).toNatClampNeg ((sy_ai F 57).getD (sy_i F 84).toNatClampNeg 0)) ((sy_i F 83) + ((5 : Int32))).toNatClampNeg ((sy_ai F 58).getD (sy_i F 84).toNatClampNeg 0)) ((sy_i F 83) + ((6 : Int32))).toNatClampNeg ((sy_ai F 59).getD (sy_i F 84).toNatClampNeg 0)) := hd_up (hs 19 _ rfl) t102 t103 t101
  have b82 := hd_b (F := F) (F' := F') (k := 82) (hF 82 (by decide))
  have t105 : sy_dv F' (.inr (.inl 105)) = .int ((sy_i F 83) + ((7 : Int32))) := hd_o (hs 20 _ rfl) b83 rfl rfl
  have t106 : sy_dv F' (.inr (.inl 106)) = .int ((sy_i F 84) + ((1 : Int32))) := hd_o (hs 21 _ rfl) b84 rfl rfl
  have hB' : iv_in F' iv_B0 := iv_in_eq hB (fun j hj => hF j (Nat.lt_of_lt_of_le hj (by decide +kernel)))
  refine ⟨List.forall_mem_cons.mpr ⟨hd_p5 rfl b84 (by have hc : ((7) : Int32).toInt = 7 := (by decide); omega), List.forall_mem_cons.mpr ⟨hd_pb b84 (by first | exact h1 | exact h1), List.forall_mem_cons.mpr ⟨hd_pb b83 (by first | exact h2 | exact h2), List.forall_mem_cons.mpr ⟨hd_pb b84 (by first | exact h3 | exact h3), List.forall_mem_cons.mpr ⟨hd_pb t87 (by first | exact h4 | exact h4), List.forall_mem_cons.mpr ⟨hd_pb b84 (by first | exact h5 | exact h5), List.forall_mem_cons.mpr ⟨hd_pb t90 (by first | exact h6 | exact h6), List.forall_mem_cons.mpr ⟨hd_pb b84 (by first | exact h7 | exact h7), List.forall_mem_cons.mpr ⟨hd_pb t93 (by first | exact h8 | exact h8), List.forall_mem_cons.mpr ⟨hd_pb b84 (by first | exact h9 | exact h9), List.forall_mem_cons.mpr ⟨hd_pb t96 (by first | exact h10 | exact h10), List.forall_mem_cons.mpr ⟨hd_pb b84 (by first | exact h11 | exact h11), List.forall_mem_cons.mpr ⟨hd_pb t99 (by first | exact h12 | exact h12), List.forall_mem_cons.mpr ⟨hd_pb b84 (by first | exact h13 | exact h13), List.forall_mem_cons.mpr ⟨hd_pb t102 (by first | exact h14 | exact h14), fun _ h => absurd h List.not_mem_nil⟩⟩⟩⟩⟩⟩⟩⟩⟩⟩⟩⟩⟩⟩⟩, ?_⟩
  refine k _ ?_ ?_ ?_ ?_ ?_
  · exact fun j hj hn => (hd_keep hB' (Nat.lt_of_lt_of_le hj (by decide +kernel)) (by simp; omega)).trans (hF j (Nat.lt_of_lt_of_le hj (by decide)))
  · exact hd_ga (a := .inr (.inl 104)) (by decide +kernel) t104
  · exact hd_gi (x := .inr (.inl 82)) (by decide +kernel) b82
  · exact hd_gi (x := .inr (.inl 105)) (by decide +kernel) t105
  · exact hd_gi (x := .inr (.inl 106)) (by decide +kernel) t106
theorem j1svs_46 {Ls : Nat} {xs : Nat → Int32} {d : Nat} {Q : Option Value → jm_h → Prop} (hd : 1 ≤ d) (F : Nat → sy_d) (X1 X2 : List jm_c) (hB : iv_in F iv_B0)
    (a82 : 0 ≤ (sy_i F 82).toInt ∧ (sy_i F 82).toInt ≤ 120)
    (a83 : 3 ≤ (sy_i F 83).toInt ∧ (sy_i F 83).toInt ≤ 172)
    (a84 : 0 ≤ (sy_i F 84).toInt ∧ (sy_i F 84).toInt ≤ 7)
    (k0 : 7 ≤ (sy_i F 84).toInt → ∀ F1 : Nat → sy_d, iv_in F1 iv_B0 → (∀ j, j < 82 → j ∉ ([77] : List Nat) → F1 j = F j) → sy_ai F1 77 = jm_cpy (sy_ai F 61) (jm_cpy (sy_ai F 60) (sy_ai F 77) (0 : Int).toNat ((sy_i F 83).toInt).toNat (4 : Int).toNat) (0 : Int).toNat (((sy_i F 83).toInt + 4)).toNat (4 : Int).toNat → Q (none) (sy_dh F1 X1 X2 (iv_H 1)))
    (k1 : (sy_i F 84).toInt < 7 → ∀ F1 : Nat → sy_d, iv_in F1 iv_B0 → (∀ j, j < 82 → j ∉ ([77] : List Nat) → F1 j = F j) → sy_ai F1 77 = jm_upd (jm_upd (jm_upd (jm_upd (jm_upd (jm_upd (jm_upd (sy_ai F 77) ((sy_i F 83).toInt).toNat ((sy_ai F 53).getD ((sy_i F 84).toInt).toNat 0)) (((sy_i F 83).toInt + 1)).toNat ((sy_ai F 54).getD ((sy_i F 84).toInt).toNat 0)) (((sy_i F 83).toInt + 2)).toNat ((sy_ai F 55).getD ((sy_i F 84).toInt).toNat 0)) (((sy_i F 83).toInt + 3)).toNat ((sy_ai F 56).getD ((sy_i F 84).toInt).toNat 0)) (((sy_i F 83).toInt + 4)).toNat ((sy_ai F 57).getD ((sy_i F 84).toInt).toNat 0)) (((sy_i F 83).toInt + 5)).toNat ((sy_ai F 58).getD ((sy_i F 84).toInt).toNat 0)) (((sy_i F 83).toInt + 6)).toNat ((sy_ai F 59).getD ((sy_i F 84).toInt).toNat 0) → (sy_i F1 82).toInt = (sy_i F 82).toInt → sy_i F1 82 = sy_i F 82 → (sy_i F1 83).toInt = ((sy_i F 83).toInt + 7) → sy_i F1 83 = (sy_i F 83) + ((7 : Int32)) → (sy_i F1 84).toInt = ((sy_i F 84).toInt + 1) → sy_i F1 84 = (sy_i F 84) + ((1 : Int32)) → hd_W Ls xs d jm_M9 Q (46, sy_dL F1 [some (.inl (.ref 46)), some (.inl (.ref 68)), some (.inr (.inl 82)), some (.inr (.inl 83)), some (.inr (.inl 84))], sy_dS F1 [], sy_dh F1 X1 X2 (iv_H 1), 0, 0)) :
    hd_W Ls xs d jm_M9 Q (46, sy_dL F [some (.inl (.ref 46)), some (.inl (.ref 68)), some (.inr (.inl 82)), some (.inr (.inl 83)), some (.inr (.inl 84))], sy_dS F [], sy_dh F X1 X2 (iv_H 1), 0, 0) := by
  by_cases g0 : 7 ≤ (sy_i F 84).toInt
  · have n86 : nzI ((sy_i F 83) + ((4 : Int32))) (((sy_i F 83).toInt + 4)) := nz_add (rfl : (sy_i F 83).toInt = (sy_i F 83).toInt) (by decide : ((4 : Int32)).toInt = 4) (by omega) (by omega)
    have w87 : jm_cpy (sy_ai F 61) (jm_cpy (sy_ai F 60) (sy_ai F 77) ((0 : Int32)).toNatClampNeg (sy_i F 83).toNatClampNeg ((4 : Int32)).toNatClampNeg) ((0 : Int32)).toNatClampNeg ((sy_i F 83) + ((4 : Int32))).toNatClampNeg ((4 : Int32)).toNatClampNeg = jm_cpy (sy_ai F 61) (jm_cpy (sy_ai F 60) (sy_ai F 77) (0 : Int).toNat ((sy_i F 83).toInt).toNat (4 : Int).toNat) (0 : Int).toNat (((sy_i F 83).toInt + 4)).toNat (4 : Int).toNat := by simp only [nz_c, (nzE n86), (by decide : ((0 : Int32)).toInt = 0), (by decide : ((4 : Int32)).toInt = 4)]
    exact j1svs_46_p0 hd F X1 X2 hB (by first | exact g0 | (simp only [nz_c]; exact g0)) (by first | exact ⟨by omega, by omega⟩ | (simp only [nz_c]; exact ⟨by omega, by omega⟩)) (by first | (simp only [nz_c, (nzE n86)]; exact ⟨by omega, by omega⟩) | exact ⟨by omega, by omega⟩ | (rw [(nzE n86)]; exact ⟨by omega, by omega⟩)) (fun F1 g e77 => k0 g0 F1 (nz_in0 hB [77] (fun j hj hn => g j hj (by simp only [List.mem_cons, List.not_mem_nil, or_false, not_or] at hn; omega)) (List.forall_mem_cons.mpr ⟨fun t ht => (Option.some.inj ht) ▸ (nz_hz2 e77), List.forall_mem_nil _⟩)) (fun j hj hn => g j hj (by simp only [List.mem_cons, List.not_mem_nil, or_false, not_or] at hn; omega)) ((zz_ai e77).trans w87))
  replace g0 : (sy_i F 84).toInt < 7 := by omega
  have n87 : nzI ((sy_i F 83) + ((1 : Int32))) (((sy_i F 83).toInt + 1)) := nz_add (rfl : (sy_i F 83).toInt = (sy_i F 83).toInt) (by decide : ((1 : Int32)).toInt = 1) (by omega) (by omega)
  have n90 : nzI ((sy_i F 83) + ((2 : Int32))) (((sy_i F 83).toInt + 2)) := nz_add (rfl : (sy_i F 83).toInt = (sy_i F 83).toInt) (by decide : ((2 : Int32)).toInt = 2) (by omega) (by omega)
  have n93 : nzI ((sy_i F 83) + ((3 : Int32))) (((sy_i F 83).toInt + 3)) := nz_add (rfl : (sy_i F 83).toInt = (sy_i F 83).toInt) (by decide : ((3 : Int32)).toInt = 3) (by omega) (by omega)
  have n96 : nzI ((sy_i F 83) + ((4 : Int32))) (((sy_i F 83).toInt + 4)) := nz_add (rfl : (sy_i F 83).toInt = (sy_i F 83).toInt) (by decide : ((4 : Int32)).toInt = 4) (by omega) (by omega)
  have n99 : nzI ((sy_i F 83) + ((5 : Int32))) (((sy_i F 83).toInt + 5)) := nz_add (rfl : (sy_i F 83).toInt = (sy_i F 83).toInt) (by decide : ((5 : Int32)).toInt = 5) (by omega) (by omega)
  have n102 : nzI ((sy_i F 83) + ((6 : Int32))) (((sy_i F 83).toInt + 6)) := nz_add (rfl : (sy_i F 83).toInt = (sy_i F 83).toInt) (by decide : ((6 : Int32)).toInt = 6) (by omega) (by omega)
  have w104 : jm_upd (jm_upd (jm_upd (jm_upd (jm_upd (jm_upd (jm_upd (sy_ai F 77) (sy_i F 83).toNatClampNeg ((sy_ai F 53).getD (sy_i F 84).toNatClampNeg 0)) ((sy_i F 83) + ((1 : Int32))).toNatClampNeg ((sy_ai F 54).getD (sy_i F 84).toNatClampNeg 0)) ((sy_i F 83) + ((2 : Int32))).toNatClampNeg ((sy_ai F 55).getD (sy_i F 84).toNatClampNeg 0)) ((sy_i F 83) + ((3 : Int32))).toNatClampNeg ((sy_ai F 56).getD (sy_i F 84).toNatClampNeg 0)) ((sy_i F 83) + ((4 : Int32))).toNatClampNeg ((sy_ai F 57).getD (sy_i F 84).toNatClampNeg 0)) ((sy_i F 83) + ((5 : Int32))).toNatClampNeg ((sy_ai F 58).getD (sy_i F 84).toNatClampNeg 0)) ((sy_i F 83) + ((6 : Int32))).toNatClampNeg ((sy_ai F 59).getD (sy_i F 84).toNatClampNeg 0) = jm_upd (jm_upd (jm_upd (jm_upd (jm_upd (jm_upd (jm_upd (sy_ai F 77) ((sy_i F 83).toInt).toNat ((sy_ai F 53).getD ((sy_i F 84).toInt).toNat 0)) (((sy_i F 83).toInt + 1)).toNat ((sy_ai F 54).getD ((sy_i F 84).toInt).toNat 0)) (((sy_i F 83).toInt + 2)).toNat ((sy_ai F 55).getD ((sy_i F 84).toInt).toNat 0)) (((sy_i F 83).toInt + 3)).toNat ((sy_ai F 56).getD ((sy_i F 84).toInt).toNat 0)) (((sy_i F 83).toInt + 4)).toNat ((sy_ai F 57).getD ((sy_i F 84).toInt).toNat 0)) (((sy_i F 83).toInt + 5)).toNat ((sy_ai F 58).getD ((sy_i F 84).toInt).toNat 0)) (((sy_i F 83).toInt + 6)).toNat ((sy_ai F 59).getD ((sy_i F 84).toInt).toNat 0) := by simp only [nz_c, (nzE n87), (nzE n90), (nzE n93), (nzE n96), (nzE n99), (nzE n102), (by decide : ((1 : Int32)).toInt = 1), (by decide : ((2 : Int32)).toInt = 2), (by decide : ((3 : Int32)).toInt = 3), (by decide : ((4 : Int32)).toInt = 4), (by decide : ((5 : Int32)).toInt = 5), (by decide : ((6 : Int32)).toInt = 6)]
  have n105 : nzI ((sy_i F 83) + ((7 : Int32))) (((sy_i F 83).toInt + 7)) := nz_add (rfl : (sy_i F 83).toInt = (sy_i F 83).toInt) (by decide : ((7 : Int32)).toInt = 7) (by omega) (by omega)
  have n106 : nzI ((sy_i F 84) + ((1 : Int32))) (((sy_i F 84).toInt + 1)) := nz_add (rfl : (sy_i F 84).toInt = (sy_i F 84).toInt) (by decide : ((1 : Int32)).toInt = 1) (by omega) (by omega)
  exact j1svs_46_p1 hd F X1 X2 hB (by first | exact g0 | (simp only [nz_c]; exact g0)) (by first | exact ⟨by omega, by omega⟩ | (simp only [nz_c]; exact ⟨by omega, by omega⟩)) (by first | exact ⟨by omega, by omega⟩ | (simp only [nz_c]; exact ⟨by omega, by omega⟩)) (by first | exact ⟨by omega, by omega⟩ | (simp only [nz_c]; exact ⟨by omega, by omega⟩)) (by first | (simp only [nz_c, (nzE n87)]; exact ⟨by omega, by omega⟩) | exact ⟨by omega, by omega⟩ | (rw [(nzE n87)]; exact ⟨by omega, by omega⟩)) (by first | exact ⟨by omega, by omega⟩ | (simp only [nz_c]; exact ⟨by omega, by omega⟩)) (by first | (simp only [nz_c, (nzE n90)]; exact ⟨by omega, by omega⟩) | exact ⟨by omega, by omega⟩ | (rw [(nzE n90)]; exact ⟨by omega, by omega⟩)) (by first | exact ⟨by omega, by omega⟩ | (simp only [nz_c]; exact ⟨by omega, by omega⟩)) (by first | (simp only [nz_c, (nzE n93)]; exact ⟨by omega, by omega⟩) | exact ⟨by omega, by omega⟩ | (rw [(nzE n93)]; exact ⟨by omega, by omega⟩)) (by first | exact ⟨by omega, by omega⟩ | (simp only [nz_c]; exact ⟨by omega, by omega⟩)) (by first | (simp only [nz_c, (nzE n96)]; exact ⟨by omega, by omega⟩) | exact ⟨by omega, by omega⟩ | (rw [(nzE n96)]; exact ⟨by omega, by omega⟩)) (by first | exact ⟨by omega, by omega⟩ | (simp only [nz_c]; exact ⟨by omega, by omega⟩)) (by first | (simp only [nz_c, (nzE n99)]; exact ⟨by omega, by omega⟩) | exact ⟨by omega, by omega⟩ | (rw [(nzE n99)]; exact ⟨by omega, by omega⟩)) (by first | exact ⟨by omega, by omega⟩ | (simp only [nz_c]; exact ⟨by omega, by omega⟩)) (by first | (simp only [nz_c, (nzE n102)]; exact ⟨by omega, by omega⟩) | exact ⟨by omega, by omega⟩ | (rw [(nzE n102)]; exact ⟨by omega, by omega⟩)) (fun F1 g e77 e82 e83 e84 => k1 g0 F1 (nz_in0 hB [77] (fun j hj hn => g j hj (by simp only [List.mem_cons, List.not_mem_nil, or_false, not_or] at hn; omega)) (List.forall_mem_cons.mpr ⟨fun t ht => (Option.some.inj ht) ▸ (nz_hz2 e77), List.forall_mem_nil _⟩)) (fun j hj hn => g j hj (by simp only [List.mem_cons, List.not_mem_nil, or_false, not_or] at hn; omega)) ((zz_ai e77).trans w104) ((congrArg Int32.toInt (zz_i e82)).trans (rfl : (sy_i F 82).toInt = (sy_i F 82).toInt)) ((zz_i e82).trans (rfl : sy_i F 82 = sy_i F 82)) ((congrArg Int32.toInt (zz_i e83)).trans (nzE n105)) ((zz_i e83).trans (rfl : (sy_i F 83) + ((7 : Int32)) = (sy_i F 83) + ((7 : Int32)))) ((congrArg Int32.toInt (zz_i e84)).trans (nzE n106)) ((zz_i e84).trans (rfl : (sy_i F 84) + ((1 : Int32)) = (sy_i F 84) + ((1 : Int32)))))
theorem j1lds_0_p0 {Ls : Nat} {xs : Nat → Int32} {d : Nat} {Q : Option Value → jm_h → Prop} (hd : 1 ≤ d) (F : Nat → sy_d) (X1 X2 : List jm_c) (hB : iv_in F iv_B0)
    (h0 : 0 ≤ (sy_i F 82).toInt)
    (h1 : (sy_i F 82).toInt ≤ 120)
    (h2 : 0 ≤ (sy_i F 82).toInt ∧ (sy_i F 82).toInt < 180)
    (h3 : 0 ≤ ((sy_i F 82) + ((1 : Int32))).toInt ∧ ((sy_i F 82) + ((1 : Int32))).toInt < 180)
    (h4 : 0 ≤ ((sy_i F 82) + ((2 : Int32))).toInt ∧ ((sy_i F 82) + ((2 : Int32))).toInt < 180)
    (k : ∀ F1 : Nat → sy_d, (∀ j, j < 82 → j ≠ 50 ∧ j ≠ 51 ∧ j ≠ 52 → F1 j = F j) → F1 50 = .inl (.int ((sy_ai F 77).getD (sy_i F 82).toNatClampNeg 0)) → F1 51 = .inl (.int ((sy_ai F 77).getD ((sy_i F 82) + ((1 : Int32))).toNatClampNeg 0)) → F1 52 = .inl (.int ((sy_ai F 77).getD ((sy_i F 82) + ((2 : Int32))).toNatClampNeg 0)) → F1 82 = .inl (.int (sy_i F 82)) → F1 83 = .inl (.int ((sy_i F 82) + ((3 : Int32)))) → F1 84 = .inl (.int ((0 : Int32))) → hd_W Ls xs d jm_M10 Q (46, sy_dL F1 [some (.inl (.ref 46)), some (.inl (.ref 68)), some (.inr (.inl 82)), some (.inr (.inl 83)), some (.inr (.inl 84))], sy_dS F1 [], sy_dh F1 X1 X2 (iv_H 1), 0, 0)) :
    hd_W Ls xs d jm_M10 Q (0, sy_dL F [some (.inl (.ref 46)), some (.inl (.ref 68)), some (.inr (.inl 82)), none, none], sy_dS F [], sy_dh F X1 X2 (iv_H 1), 0, 0) := by
  refine hd_run (s := 1) (nv := 83) (pc := 46) (L := [some (.inl (.ref 46)), some (.inl (.ref 68)), some (.inr (.inl 82)), some (.inr (.inl 83)), some (.inr (.inl 84))]) (S := []) (uh := hd_ov (iv_id 0 iv_B0) [(50, .inl (.inr (.inl 83))), (51, .inl (.inr (.inl 85))), (52, .inl (.inr (.inl 87)))]) (ul := [.inl (.inr (.inl 82)), .inl (.inr (.inl 88)), .inl (.inl (.int 0))]) (f := true) (sp := [46]) (d0 := 0) (O := [false, true]) (T := [(30, [.inr (.inl 82)], [.inr (.inl 77)]), (0, [.inr (.inl 82), .inl (.int 1)], []), (30, [.inr (.inl 84)], [.inr (.inl 77)]), (0, [.inr (.inl 82), .inl (.int 2)], []), (30, [.inr (.inl 86)], [.inr (.inl 77)]), (0, [.inr (.inl 82), .inl (.int 3)], [])]) (P := [(3, .inr (.inl 82), .inl (.int 0)), (4, .inr (.inl 82), .inl (.int 120)), (6, .inr (.inl 82), .inl (.ref 180)), (6, .inr (.inl 84), .inl (.ref 180)), (6, .inr (.inl 86), .inl (.ref 180))]) jm_ok10 (by decide +kernel) (by decide +kernel) hd F X1 X2 (fun F' hF hs => ?_)
  have b82 := hd_b (F := F) (F' := F') (k := 82) (hF 82 (by decide))
  have t84 : sy_dv F' (.inr (.inl 84)) = .int ((sy_i F 82) + ((1 : Int32))) := hd_o (hs 1 _ rfl) b82 rfl rfl
  have t86 : sy_dv F' (.inr (.inl 86)) = .int ((sy_i F 82) + ((2 : Int32))) := hd_o (hs 3 _ rfl) b82 rfl rfl
  have a77 := hd_ba (F := F) (F' := F') (k := 77) (hF 77 (by decide))
  have t83 : sy_dv F' (.inr (.inl 83)) = .int ((sy_ai F 77).getD (sy_i F 82).toNatClampNeg 0) := hd_rd (hs 0 _ rfl) b82 a77
  have t85 : sy_dv F' (.inr (.inl 85)) = .int ((sy_ai F 77).getD ((sy_i F 82) + ((1 : Int32))).toNatClampNeg 0) := hd_rd (hs 2 _ rfl) t84 a77
  have t87 : sy_dv F' (.inr (.inl 87)) = .int ((sy_ai F 77).getD ((sy_i F 82) + ((2 : Int32))).toNatClampNeg 0) := hd_rd (hs 4 _ rfl) t86 a77
  have t88 : sy_dv F' (.inr (.inl 88)) = .int ((sy_i F 82) + ((3 : Int32))) := hd_o (hs 5 _ rfl) b82 rfl rfl
  have hB' : iv_in F' iv_B0 := iv_in_eq hB (fun j hj => hF j (Nat.lt_of_lt_of_le hj (by decide +kernel)))
  refine ⟨List.forall_mem_cons.mpr ⟨hd_p3 b82 rfl (by have hc : ((0) : Int32).toInt = 0 := (by decide); omega), List.forall_mem_cons.mpr ⟨hd_p4 b82 rfl (by have hc : ((120) : Int32).toInt = 120 := (by decide); omega), List.forall_mem_cons.mpr ⟨hd_pb b82 (by first | exact h2 | exact h2), List.forall_mem_cons.mpr ⟨hd_pb t84 (by first | exact h3 | exact h3), List.forall_mem_cons.mpr ⟨hd_pb t86 (by first | exact h4 | exact h4), fun _ h => absurd h List.not_mem_nil⟩⟩⟩⟩⟩, ?_⟩
  refine k _ ?_ ?_ ?_ ?_ ?_ ?_ ?_
  · exact fun j hj hn => (hd_keep hB' (Nat.lt_of_lt_of_le hj (by decide +kernel)) (by simp; omega)).trans (hF j (Nat.lt_of_lt_of_le hj (by decide)))
  · exact hd_gi (x := .inr (.inl 83)) (by decide +kernel) t83
  · exact hd_gi (x := .inr (.inl 85)) (by decide +kernel) t85
  · exact hd_gi (x := .inr (.inl 87)) (by decide +kernel) t87
  · exact hd_gi (x := .inr (.inl 82)) (by decide +kernel) b82
  · exact hd_gi (x := .inr (.inl 88)) (by decide +kernel) t88
  · exact hd_gi (x := .inl (.int 0)) (by decide +kernel) rfl
theorem j1lds_0 {Ls : Nat} {xs : Nat → Int32} {d : Nat} {Q : Option Value → jm_h → Prop} (hd : 1 ≤ d) (F : Nat → sy_d) (X1 X2 : List jm_c) (hB : iv_in F iv_B0)
    (a82 : 0 ≤ (sy_i F 82).toInt ∧ (sy_i F 82).toInt ≤ 120)
    (k0 : 0 ≤ (sy_i F 82).toInt → (sy_i F 82).toInt ≤ 120 → ∀ F1 : Nat → sy_d, iv_in F1 iv_B0 → (∀ j, j < 82 → j ∉ ([50, 51, 52] : List Nat) → F1 j = F j) → (sy_i F1 50).toInt = ((sy_ai F 77).getD ((sy_i F 82).toInt).toNat 0).toInt → sy_i F1 50 = (sy_ai F 77).getD ((sy_i F 82).toInt).toNat 0 → (sy_i F1 51).toInt = ((sy_ai F 77).getD (((sy_i F 82).toInt + 1)).toNat 0).toInt → sy_i F1 51 = (sy_ai F 77).getD (((sy_i F 82).toInt + 1)).toNat 0 → (sy_i F1 52).toInt = ((sy_ai F 77).getD (((sy_i F 82).toInt + 2)).toNat 0).toInt → sy_i F1 52 = (sy_ai F 77).getD (((sy_i F 82).toInt + 2)).toNat 0 → (sy_i F1 82).toInt = (sy_i F 82).toInt → sy_i F1 82 = sy_i F 82 → (sy_i F1 83).toInt = ((sy_i F 82).toInt + 3) → sy_i F1 83 = (sy_i F 82) + ((3 : Int32)) → (sy_i F1 84).toInt = 0 → sy_i F1 84 = (0 : Int32) → hd_W Ls xs d jm_M10 Q (46, sy_dL F1 [some (.inl (.ref 46)), some (.inl (.ref 68)), some (.inr (.inl 82)), some (.inr (.inl 83)), some (.inr (.inl 84))], sy_dS F1 [], sy_dh F1 X1 X2 (iv_H 1), 0, 0)) :
    hd_W Ls xs d jm_M10 Q (0, sy_dL F [some (.inl (.ref 46)), some (.inl (.ref 68)), some (.inr (.inl 82)), none, none], sy_dS F [], sy_dh F X1 X2 (iv_H 1), 0, 0) := by
  by_cases g0 : (sy_i F 82).toInt < 0
  · exfalso
    omega
  replace g0 : 0 ≤ (sy_i F 82).toInt := by omega
  by_cases g1 : (sy_i F 82).toInt ≤ 120
  · have n84 : nzI ((sy_i F 82) + ((1 : Int32))) (((sy_i F 82).toInt + 1)) := nz_add (rfl : (sy_i F 82).toInt = (sy_i F 82).toInt) (by decide : ((1 : Int32)).toInt = 1) (by omega) (by omega)
    have n86 : nzI ((sy_i F 82) + ((2 : Int32))) (((sy_i F 82).toInt + 2)) := nz_add (rfl : (sy_i F 82).toInt = (sy_i F 82).toInt) (by decide : ((2 : Int32)).toInt = 2) (by omega) (by omega)
    have q83 : (sy_ai F 77).getD (sy_i F 82).toNatClampNeg 0 = (sy_ai F 77).getD ((sy_i F 82).toInt).toNat 0 := by simp only [nz_c]
    have n83 : nzI ((sy_ai F 77).getD (sy_i F 82).toNatClampNeg 0) (((sy_ai F 77).getD ((sy_i F 82).toInt).toNat 0).toInt) := congrArg Int32.toInt q83
    have q85 : (sy_ai F 77).getD ((sy_i F 82) + ((1 : Int32))).toNatClampNeg 0 = (sy_ai F 77).getD (((sy_i F 82).toInt + 1)).toNat 0 := by simp only [nz_c, (nzE n84), (by decide : ((1 : Int32)).toInt = 1)]
    have n85 : nzI ((sy_ai F 77).getD ((sy_i F 82) + ((1 : Int32))).toNatClampNeg 0) (((sy_ai F 77).getD (((sy_i F 82).toInt + 1)).toNat 0).toInt) := congrArg Int32.toInt q85
    have q87 : (sy_ai F 77).getD ((sy_i F 82) + ((2 : Int32))).toNatClampNeg 0 = (sy_ai F 77).getD (((sy_i F 82).toInt + 2)).toNat 0 := by simp only [nz_c, (nzE n86), (by decide : ((2 : Int32)).toInt = 2)]
    have n87 : nzI ((sy_ai F 77).getD ((sy_i F 82) + ((2 : Int32))).toNatClampNeg 0) (((sy_ai F 77).getD (((sy_i F 82).toInt + 2)).toNat 0).toInt) := congrArg Int32.toInt q87
    have n88 : nzI ((sy_i F 82) + ((3 : Int32))) (((sy_i F 82).toInt + 3)) := nz_add (rfl : (sy_i F 82).toInt = (sy_i F 82).toInt) (by decide : ((3 : Int32)).toInt = 3) (by omega) (by omega)
    exact j1lds_0_p0 hd F X1 X2 hB (by first | exact g0 | (simp only [nz_c]; exact g0)) (by first | exact g1 | (simp only [nz_c]; exact g1)) (by first | exact ⟨by omega, by omega⟩ | (simp only [nz_c]; exact ⟨by omega, by omega⟩)) (by first | (simp only [nz_c, (nzE n84)]; exact ⟨by omega, by omega⟩) | exact ⟨by omega, by omega⟩ | (rw [(nzE n84)]; exact ⟨by omega, by omega⟩)) (by first | (simp only [nz_c, (nzE n86)]; exact ⟨by omega, by omega⟩) | exact ⟨by omega, by omega⟩ | (rw [(nzE n86)]; exact ⟨by omega, by omega⟩)) (fun F1 g e50 e51 e52 e82 e83 e84 => k0 g0 g1 F1 (nz_in0 hB [50, 51, 52] (fun j hj hn => g j hj (by simp only [List.mem_cons, List.not_mem_nil, or_false, not_or] at hn; omega)) (List.forall_mem_cons.mpr ⟨fun t ht => (Option.some.inj ht) ▸ (nz_hz e50), List.forall_mem_cons.mpr ⟨fun t ht => (Option.some.inj ht) ▸ (nz_hz e51), List.forall_mem_cons.mpr ⟨fun t ht => (Option.some.inj ht) ▸ (nz_hz e52), List.forall_mem_nil _⟩⟩⟩)) (fun j hj hn => g j hj (by simp only [List.mem_cons, List.not_mem_nil, or_false, not_or] at hn; omega)) ((congrArg Int32.toInt (zz_i e50)).trans (nzE n83)) ((zz_i e50).trans q83) ((congrArg Int32.toInt (zz_i e51)).trans (nzE n85)) ((zz_i e51).trans q85) ((congrArg Int32.toInt (zz_i e52)).trans (nzE n87)) ((zz_i e52).trans q87) ((congrArg Int32.toInt (zz_i e82)).trans (rfl : (sy_i F 82).toInt = (sy_i F 82).toInt)) ((zz_i e82).trans (rfl : sy_i F 82 = sy_i F 82)) ((congrArg Int32.toInt (zz_i e83)).trans (nzE n88)) ((zz_i e83).trans (rfl : (sy_i F 82) + ((3 : Int32)) = (sy_i F 82) + ((3 : Int32)))) ((congrArg Int32.toInt (zz_i e84)).trans (by decide : ((0 : Int32)).toInt = 0)) ((zz_i e84).trans (rfl : (0 : Int32) = (0 : Int32))))
  replace g1 : 120 < (sy_i F 82).toInt := by omega
  exfalso
  omega
theorem j1lds_46_p0 {Ls : Nat} {xs : Nat → Int32} {d : Nat} {Q : Option Value → jm_h → Prop} (hd : 1 ≤ d) (F : Nat → sy_d) (X1 X2 : List jm_c) (hB : iv_in F iv_B0)
    (h0 : 7 ≤ (sy_i F 84).toInt)
    (h1 : 0 ≤ (sy_i F 83).toInt ∧ (sy_i F 83).toInt < 177)
    (h2 : 0 ≤ ((sy_i F 83) + ((4 : Int32))).toInt ∧ ((sy_i F 83) + ((4 : Int32))).toInt < 177)
    (k : ∀ F1 : Nat → sy_d, (∀ j, j < 82 → j ≠ 60 ∧ j ≠ 61 → F1 j = F j) → F1 60 = .inr (.inl (jm_cpy (sy_ai F 77) (sy_ai F 60) (sy_i F 83).toNatClampNeg ((0 : Int32)).toNatClampNeg ((4 : Int32)).toNatClampNeg)) → F1 61 = .inr (.inl (jm_cpy (sy_ai F 77) (sy_ai F 61) ((sy_i F 83) + ((4 : Int32))).toNatClampNeg ((0 : Int32)).toNatClampNeg ((4 : Int32)).toNatClampNeg)) → Q (none) (sy_dh F1 X1 X2 (iv_H 1))) :
    hd_W Ls xs d jm_M10 Q (46, sy_dL F [some (.inl (.ref 46)), some (.inl (.ref 68)), some (.inr (.inl 82)), some (.inr (.inl 83)), some (.inr (.inl 84))], sy_dS F [], sy_dh F X1 X2 (iv_H 1), 0, 0) := by
  refine hd_ret (s := 1) (nv := 85) (v := none) (uh := hd_ov (iv_id 0 iv_B0) [(60, .inr (.inr (.inl 85))), (61, .inr (.inr (.inl 87)))]) (f := true) (sp := [46]) (d0 := 0) (O := [true]) (T := [(42, [.inr (.inl 83), .inl (.int 0), .inl (.int 4)], [.inr (.inl 77), .inr (.inl 60)]), (0, [.inr (.inl 83), .inl (.int 4)], []), (42, [.inr (.inl 86), .inl (.int 0), .inl (.int 4)], [.inr (.inl 77), .inr (.inl 61)])]) (P := [(4, .inl (.int 7), .inr (.inl 84)), (6, .inr (.inl 83), .inl (.ref 177)), (6, .inr (.inl 86), .inl (.ref 177))]) jm_ok10 (by decide +kernel) (by decide +kernel) hd F X1 X2 (fun F' hF hs => ?_)
  have b84 := hd_b (F := F) (F' := F') (k := 84) (hF 84 (by decide))
  have b83 := hd_b (F := F) (F' := F') (k := 83) (hF 83 (by decide))
  have t86 : sy_dv F' (.inr (.inl 86)) = .int ((sy_i F 83) + ((4 : Int32))) := hd_o (hs 1 _ rfl) b83 rfl rfl
  have a77 := hd_ba (F := F) (F' := F') (k := 77) (hF 77 (by decide))
  have a60 := hd_ba (F := F) (F' := F') (k := 60) (hF 60 (by decide))
  have t85 : sy_da F' (.inr (.inl 85)) = .inl (jm_cpy (sy_ai F 77) (sy_ai F 60) (sy_i F 83).toNatClampNeg ((0 : Int32)).toNatClampNeg ((4 : Int32)).toNatClampNeg) := hd_cp (hs 0 _ rfl) b83 rfl rfl a77 a60
  have a61 := hd_ba (F := F) (F' := F') (k := 61) (hF 61 (by decide))
  have t87 : sy_da F' (.inr (.inl 87)) = .inl (jm_cpy (sy_ai F 77) (sy_ai F 61) ((sy_i F 83) + ((4 : Int32))).toNatClampNeg ((0 : Int32)).toNatClampNeg ((4 : Int32)).toNatClampNeg) := hd_cp (hs 2 _ rfl) t86 rfl rfl a77 a61
  have hB' : iv_in F' iv_B0 := iv_in_eq hB (fun j hj => hF j (Nat.lt_of_lt_of_le hj (by decide +kernel)))
  refine ⟨List.forall_mem_cons.mpr ⟨hd_p4 rfl b84 (by have hc : ((7) : Int32).toInt = 7 := (by decide); omega), List.forall_mem_cons.mpr ⟨hd_pb b83 (by first | exact h1 | exact h1), List.forall_mem_cons.mpr ⟨hd_pb t86 (by first | exact h2 | exact h2), fun _ h => absurd h List.not_mem_nil⟩⟩⟩, ?_⟩
  refine k _ ?_ ?_ ?_
  · exact fun j hj hn => (hd_keep hB' (Nat.lt_of_lt_of_le hj (by decide +kernel)) (by simp; omega)).trans (hF j (Nat.lt_of_lt_of_le hj (by decide)))
  · exact hd_ga (a := .inr (.inl 85)) (by decide +kernel) t85
  · exact hd_ga (a := .inr (.inl 87)) (by decide +kernel) t87
theorem j1lds_46_p1 {Ls : Nat} {xs : Nat → Int32} {d : Nat} {Q : Option Value → jm_h → Prop} (hd : 1 ≤ d) (F : Nat → sy_d) (X1 X2 : List jm_c) (hB : iv_in F iv_B0)
    (h0 : (sy_i F 84).toInt < 7)
    (h1 : 0 ≤ (sy_i F 83).toInt ∧ (sy_i F 83).toInt < 180)
    (h2 : 0 ≤ (sy_i F 84).toInt ∧ (sy_i F 84).toInt < 7)
    (h3 : 0 ≤ ((sy_i F 83) + ((1 : Int32))).toInt ∧ ((sy_i F 83) + ((1 : Int32))).toInt < 180)
    (h4 : 0 ≤ (sy_i F 84).toInt ∧ (sy_i F 84).toInt < 7)
    (h5 : 0 ≤ ((sy_i F 83) + ((2 : Int32))).toInt ∧ ((sy_i F 83) + ((2 : Int32))).toInt < 180)
    (h6 : 0 ≤ (sy_i F 84).toInt ∧ (sy_i F 84).toInt < 7)
    (h7 : 0 ≤ ((sy_i F 83) + ((3 : Int32))).toInt ∧ ((sy_i F 83) + ((3 : Int32))).toInt < 180)
    (h8 : 0 ≤ (sy_i F 84).toInt ∧ (sy_i F 84).toInt < 7)
    (h9 : 0 ≤ ((sy_i F 83) + ((4 : Int32))).toInt ∧ ((sy_i F 83) + ((4 : Int32))).toInt < 180)
    (h10 : 0 ≤ (sy_i F 84).toInt ∧ (sy_i F 84).toInt < 7)
    (h11 : 0 ≤ ((sy_i F 83) + ((5 : Int32))).toInt ∧ ((sy_i F 83) + ((5 : Int32))).toInt < 180)
    (h12 : 0 ≤ (sy_i F 84).toInt ∧ (sy_i F 84).toInt < 7)
    (h13 : 0 ≤ ((sy_i F 83) + ((6 : Int32))).toInt ∧ ((sy_i F 83) + ((6 : Int32))).toInt < 180)
    (h14 : 0 ≤ (sy_i F 84).toInt ∧ (sy_i F 84).toInt < 7)
    (k : ∀ F1 : Nat → sy_d, (∀ j, j < 82 → j ≠ 53 ∧ j ≠ 54 ∧ j ≠ 55 ∧ j ≠ 56 ∧ j ≠ 57 ∧ j ≠ 58 ∧ j ≠ 59 → F1 j = F j) → F1 53 = .inr (.inl (jm_upd (sy_ai F 53) (sy_i F 84).toNatClampNeg ((sy_ai F 77).getD (sy_i F 83).toNatClampNeg 0))) → F1 54 = .inr (.inl (jm_upd (sy_ai F 54) (sy_i F 84).toNatClampNeg ((sy_ai F 77).getD ((sy_i F 83) + ((1 : Int32))).toNatClampNeg 0))) → F1 55 = .inr (.inl (jm_upd (sy_ai F 55) (sy_i F 84).toNatClampNeg ((sy_ai F 77).getD ((sy_i F 83) + ((2 : Int32))).toNatClampNeg 0))) → F1 56 = .inr (.inl (jm_upd (sy_ai F 56) (sy_i F 84).toNatClampNeg ((sy_ai F 77).getD ((sy_i F 83) + ((3 : Int32))).toNatClampNeg 0))) → F1 57 = .inr (.inl (jm_upd (sy_ai F 57) (sy_i F 84).toNatClampNeg ((sy_ai F 77).getD ((sy_i F 83) + ((4 : Int32))).toNatClampNeg 0))) → F1 58 = .inr (.inl (jm_upd (sy_ai F 58) (sy_i F 84).toNatClampNeg ((sy_ai F 77).getD ((sy_i F 83) + ((5 : Int32))).toNatClampNeg 0))) → F1 59 = .inr (.inl (jm_upd (sy_ai F 59) (sy_i F 84).toNatClampNeg ((sy_ai F 77).getD ((sy_i F 83) + ((6 : Int32))).toNatClampNeg 0))) → F1 82 = .inl (.int (sy_i F 82)) → F1 83 = .inl (.int ((sy_i F 83) + ((7 : Int32)))) → F1 84 = .inl (.int ((sy_i F 84) + ((1 : Int32)))) → hd_W Ls xs d jm_M10 Q (46, sy_dL F1 [some (.inl (.ref 46)), some (.inl (.ref 68)), some (.inr (.inl 82)), some (.inr (.inl 83)), some (.inr (.inl 84))], sy_dS F1 [], sy_dh F1 X1 X2 (iv_H 1), 0, 0)) :
    hd_W Ls xs d jm_M10 Q (46, sy_dL F [some (.inl (.ref 46)), some (.inl (.ref 68)), some (.inr (.inl 82)), some (.inr (.inl 83)), some (.inr (.inl 84))], sy_dS F [], sy_dh F X1 X2 (iv_H 1), 0, 0) := by
  refine hd_run (s := 1) (nv := 85) (pc := 46) (L := [some (.inl (.ref 46)), some (.inl (.ref 68)), some (.inr (.inl 82)), some (.inr (.inl 83)), some (.inr (.inl 84))]) (S := []) (uh := hd_ov (iv_id 0 iv_B0) [(53, .inr (.inr (.inl 86))), (54, .inr (.inr (.inl 89))), (55, .inr (.inr (.inl 92))), (56, .inr (.inr (.inl 95))), (57, .inr (.inr (.inl 98))), (58, .inr (.inr (.inl 101))), (59, .inr (.inr (.inl 104)))]) (ul := [.inl (.inr (.inl 82)), .inl (.inr (.inl 105)), .inl (.inr (.inl 106))]) (f := true) (sp := [46]) (d0 := 0) (O := [false]) (T := [(30, [.inr (.inl 83)], [.inr (.inl 77)]), (40, [.inr (.inl 84), .inr (.inl 85)], [.inr (.inl 53)]), (0, [.inr (.inl 83), .inl (.int 1)], []), (30, [.inr (.inl 87)], [.inr (.inl 77)]), (40, [.inr (.inl 84), .inr (.inl 88)], [.inr (.inl 54)]), (0, [.inr (.inl 83), .inl (.int 2)], []), (30, [.inr (.inl 90)], [.inr (.inl 77)]), (40, [.inr (.inl 84), .inr (.inl 91)], [.inr (.inl 55)]), (0, [.inr (.inl 83), .inl (.int 3)], []), (30, [.inr (.inl 93)], [.inr (.inl 77)]), (40, [.inr (.inl 84), .inr (.inl 94)], [.inr (.inl 56)]), (0, [.inr (.inl 83), .inl (.int 4)], []), (30, [.inr (.inl 96)], [.inr (.inl 77)]), (40, [.inr (.inl 84), .inr (.inl 97)], [.inr (.inl 57)]), (0, [.inr (.inl 83), .inl (.int 5)], []), (30, [.inr (.inl 99)], [.inr (.inl 77)]), (40, [.inr (.inl 84), .inr (.inl 100)], [.inr (.inl 58)]), (0, [.inr (.inl 83), .inl (.int 6)], []), (30, [.inr (.inl 102)], [.inr (.inl 77)]), (40, [.inr (.inl 84), .inr (.inl 103)], [.inr (.inl 59)]), (0, [.inr (.inl 83), .inl (.int 7)], []), (0, [.inr (.inl 84), .inl (.int 1)], [])]) (P := [(5, .inl (.int 7), .inr (.inl 84)), (6, .inr (.inl 83), .inl (.ref 180)), (6, .inr (.inl 84), .inl (.ref 7)), (6, .inr (.inl 87), .inl (.ref 180)), (6, .inr (.inl 84), .inl (.ref 7)), (6, .inr (.inl 90), .inl (.ref 180)), (6, .inr (.inl 84), .inl (.ref 7)), (6, .inr (.inl 93), .inl (.ref 180)), (6, .inr (.inl 84), .inl (.ref 7)), (6, .inr (.inl 96), .inl (.ref 180)), (6, .inr (.inl 84), .inl (.ref 7)), (6, .inr (.inl 99), .inl (.ref 180)), (6, .inr (.inl 84), .inl (.ref 7)), (6, .inr (.inl 102), .inl (.ref 180)), (6, .inr (.inl 84), .inl (.ref 7))]) jm_ok10 (by decide +kernel) (by decide +kernel) hd F X1 X2 (fun F' hF hs => ?_)
  have b84 := hd_b (F := F) (F' := F') (k := 84) (hF 84 (by decide))
  have b83 := hd_b (F := F) (F' := F') (k := 83) (hF 83 (by decide))
  have t87 : sy_dv F' (.inr (.inl 87)) = .int ((sy_i F 83) + ((1 : Int32))) := hd_o (hs 2 _ rfl) b83 rfl rfl
  have t90 : sy_dv F' (.inr (.inl 90)) = .int ((sy_i F 83) + ((2 : Int32))) := hd_o (hs 5 _ rfl) b83 rfl rfl
  have t93 : sy_dv F' (.inr (.inl 93)) = .int ((sy_i F 83) + ((3 : Int32))) := hd_o (hs 8 _ rfl) b83 rfl rfl
  have t96 : sy_dv F' (.inr (.inl 96)) = .int ((sy_i F 83) + ((4 : Int32))) := hd_o (hs 11 _ rfl) b83 rfl rfl
  have t99 : sy_dv F' (.inr (.inl 99)) = .int ((sy_i F 83) + ((5 : Int32))) := hd_o (hs 14 _ rfl) b83 rfl rfl
  have t102 : sy_dv F' (.inr (.inl 102)) = .int ((sy_i F 83) + ((6 : Int32))) := hd_o (hs 17 _ rfl) b83 rfl rfl
  have a77 := hd_ba (F := F) (F' := F') (k := 77) (hF 77 (by decide))
  have t85 : sy_dv F' (.inr (.inl 85)) = .int ((sy_ai F 77).getD (sy_i F 83).toNatClampNeg 0) := hd_rd (hs 0 _ rfl) b83 a77
  have a53 := hd_ba (F := F) (F' := F') (k := 53) (hF 53 (by decide))
  have t86 : sy_da F' (.inr (.inl 86)) = .inl (jm_upd (sy_ai F 53) (sy_i F 84).toNatClampNeg ((sy_ai F 77).getD (sy_i F 83).toNatClampNeg 0)) := hd_up (hs 1 _ rfl) b84 t85 a53
  have t88 : sy_dv F' (.inr (.inl 88)) = .int ((sy_ai F 77).getD ((sy_i F 83) + ((1 : Int32))).toNatClampNeg 0) := hd_rd (hs 3 _ rfl) t87 a77
  have a54 := hd_ba (F := F) (F' := F') (k := 54) (hF 54 (by decide))
  have t89 : sy_da F' (.inr (.inl 89)) = .inl (jm_upd (sy_ai F 54) (sy_i F 84).toNatClampNeg ((sy_ai F 77).getD ((sy_i F 83) + ((1 : Int32))).toNatClampNeg 0)) := hd_up (hs 4 _ rfl) b84 t88 a54
  have t91 : sy_dv F' (.inr (.inl 91)) = .int ((sy_ai F 77).getD ((sy_i F 83) + ((2 : Int32))).toNatClampNeg 0) := hd_rd (hs 6 _ rfl) t90 a77
  have a55 := hd_ba (F := F) (F' := F') (k := 55) (hF 55 (by decide))
  have t92 : sy_da F' (.inr (.inl 92)) = .inl (jm_upd (sy_ai F 55) (sy_i F 84).toNatClampNeg ((sy_ai F 77).getD ((sy_i F 83) + ((2 : Int32))).toNatClampNeg 0)) := hd_up (hs 7 _ rfl) b84 t91 a55
  have t94 : sy_dv F' (.inr (.inl 94)) = .int ((sy_ai F 77).getD ((sy_i F 83) + ((3 : Int32))).toNatClampNeg 0) := hd_rd (hs 9 _ rfl) t93 a77
  have a56 := hd_ba (F := F) (F' := F') (k := 56) (hF 56 (by decide))
  have t95 : sy_da F' (.inr (.inl 95)) = .inl (jm_upd (sy_ai F 56) (sy_i F 84).toNatClampNeg ((sy_ai F 77).getD ((sy_i F 83) + ((3 : Int32))).toNatClampNeg 0)) := hd_up (hs 10 _ rfl) b84 t94 a56
  have t97 : sy_dv F' (.inr (.inl 97)) = .int ((sy_ai F 77).getD ((sy_i F 83) + ((4 : Int32))).toNatClampNeg 0) := hd_rd (hs 12 _ rfl) t96 a77
  have a57 := hd_ba (F := F) (F' := F') (k := 57) (hF 57 (by decide))
  have t98 : sy_da F' (.inr (.inl 98)) = .inl (jm_upd (sy_ai F 57) (sy_i F 84).toNatClampNeg ((sy_ai F 77).getD ((sy_i F 83) + ((4 : Int32))).toNatClampNeg 0)) := hd_up (hs 13 _ rfl) b84 t97 a57
  have t100 : sy_dv F' (.inr (.inl 100)) = .int ((sy_ai F 77).getD ((sy_i F 83) + ((5 : Int32))).toNatClampNeg 0) := hd_rd (hs 15 _ rfl) t99 a77
  have a58 := hd_ba (F := F) (F' := F') (k := 58) (hF 58 (by decide))
  have t101 : sy_da F' (.inr (.inl 101)) = .inl (jm_upd (sy_ai F 58) (sy_i F 84).toNatClampNeg ((sy_ai F 77).getD ((sy_i F 83) + ((5 : Int32))).toNatClampNeg 0)) := hd_up (hs 16 _ rfl) b84 t100 a58
  have t103 : sy_dv F' (.inr (.inl 103)) = .int ((sy_ai F 77).getD ((sy_i F 83) + ((6 : Int32))).toNatClampNeg 0) := hd_rd (hs 18 _ rfl) t102 a77
  have a59 := hd_ba (F := F) (F' := F') (k := 59) (hF 59 (by decide))
  have t104 : sy_da F' (.inr (.inl 104)) = .inl (jm_upd (sy_ai F 59) (sy_i F 84).toNatClampNeg ((sy_ai F 77).getD ((sy_i F 83) + ((6 : Int32))).toNatClampNeg 0)) := hd_up (hs 19 _ rfl) b84 t103 a59
  have b82 := hd_b (F := F) (F' := F') (k := 82) (hF 82 (by decide))
  have t105 : sy_dv F' (.inr (.inl 105)) = .int ((sy_i F 83) + ((7 : Int32))) := hd_o (hs 20 _ rfl) b83 rfl rfl
  have t106 : sy_dv F' (.inr (.inl 106)) = .int ((sy_i F 84) + ((1 : Int32))) := hd_o (hs 21 _ rfl) b84 rfl rfl
  have hB' : iv_in F' iv_B0 := iv_in_eq hB (fun j hj => hF j (Nat.lt_of_lt_of_le hj (by decide +kernel)))
  refine ⟨List.forall_mem_cons.mpr ⟨hd_p5 rfl b84 (by have hc : ((7) : Int32).toInt = 7 := (by decide); omega), List.forall_mem_cons.mpr ⟨hd_pb b83 (by first | exact h1 | exact h1), List.forall_mem_cons.mpr ⟨hd_pb b84 (by first | exact h2 | exact h2), List.forall_mem_cons.mpr ⟨hd_pb t87 (by first | exact h3 | exact h3), List.forall_mem_cons.mpr ⟨hd_pb b84 (by first | exact h4 | exact h4), List.forall_mem_cons.mpr ⟨hd_pb t90 (by first | exact h5 | exact h5), List.forall_mem_cons.mpr ⟨hd_pb b84 (by first | exact h6 | exact h6), List.forall_mem_cons.mpr ⟨hd_pb t93 (by first | exact h7 | exact h7), List.forall_mem_cons.mpr ⟨hd_pb b84 (by first | exact h8 | exact h8), List.forall_mem_cons.mpr ⟨hd_pb t96 (by first | exact h9 | exact h9), List.forall_mem_cons.mpr ⟨hd_pb b84 (by first | exact h10 | exact h10), List.forall_mem_cons.mpr ⟨hd_pb t99 (by first | exact h11 | exact h11), List.forall_mem_cons.mpr ⟨hd_pb b84 (by first | exact h12 | exact h12), List.forall_mem_cons.mpr ⟨hd_pb t102 (by first | exact h13 | exact h13), List.forall_mem_cons.mpr ⟨hd_pb b84 (by first | exact h14 | exact h14), fun _ h => absurd h List.not_mem_nil⟩⟩⟩⟩⟩⟩⟩⟩⟩⟩⟩⟩⟩⟩⟩, ?_⟩
  refine k _ ?_ ?_ ?_ ?_ ?_ ?_ ?_ ?_ ?_ ?_ ?_
  · exact fun j hj hn => (hd_keep hB' (Nat.lt_of_lt_of_le hj (by decide +kernel)) (by simp; omega)).trans (hF j (Nat.lt_of_lt_of_le hj (by decide)))
  · exact hd_ga (a := .inr (.inl 86)) (by decide +kernel) t86
  · exact hd_ga (a := .inr (.inl 89)) (by decide +kernel) t89
  · exact hd_ga (a := .inr (.inl 92)) (by decide +kernel) t92
  · exact hd_ga (a := .inr (.inl 95)) (by decide +kernel) t95
  · exact hd_ga (a := .inr (.inl 98)) (by decide +kernel) t98
  · exact hd_ga (a := .inr (.inl 101)) (by decide +kernel) t101
  · exact hd_ga (a := .inr (.inl 104)) (by decide +kernel) t104
  · exact hd_gi (x := .inr (.inl 82)) (by decide +kernel) b82
  · exact hd_gi (x := .inr (.inl 105)) (by decide +kernel) t105
  · exact hd_gi (x := .inr (.inl 106)) (by decide +kernel) t106
theorem j1lds_46 {Ls : Nat} {xs : Nat → Int32} {d : Nat} {Q : Option Value → jm_h → Prop} (hd : 1 ≤ d) (F : Nat → sy_d) (X1 X2 : List jm_c) (hB : iv_in F iv_B0)
    (a82 : 0 ≤ (sy_i F 82).toInt ∧ (sy_i F 82).toInt ≤ 120)
    (a83 : 3 ≤ (sy_i F 83).toInt ∧ (sy_i F 83).toInt ≤ 172)
    (a84 : 0 ≤ (sy_i F 84).toInt ∧ (sy_i F 84).toInt ≤ 7)
    (k0 : 7 ≤ (sy_i F 84).toInt → ∀ F1 : Nat → sy_d, iv_in F1 iv_B0 → (∀ j, j < 82 → j ∉ ([60, 61] : List Nat) → F1 j = F j) → sy_ai F1 60 = jm_cpy (sy_ai F 77) (sy_ai F 60) ((sy_i F 83).toInt).toNat (0 : Int).toNat (4 : Int).toNat → sy_ai F1 61 = jm_cpy (sy_ai F 77) (sy_ai F 61) (((sy_i F 83).toInt + 4)).toNat (0 : Int).toNat (4 : Int).toNat → Q (none) (sy_dh F1 X1 X2 (iv_H 1)))
    (k1 : (sy_i F 84).toInt < 7 → ∀ F1 : Nat → sy_d, iv_in F1 iv_B0 → (∀ j, j < 82 → j ∉ ([53, 54, 55, 56, 57, 58, 59] : List Nat) → F1 j = F j) → sy_ai F1 53 = jm_upd (sy_ai F 53) ((sy_i F 84).toInt).toNat ((sy_ai F 77).getD ((sy_i F 83).toInt).toNat 0) → sy_ai F1 54 = jm_upd (sy_ai F 54) ((sy_i F 84).toInt).toNat ((sy_ai F 77).getD (((sy_i F 83).toInt + 1)).toNat 0) → sy_ai F1 55 = jm_upd (sy_ai F 55) ((sy_i F 84).toInt).toNat ((sy_ai F 77).getD (((sy_i F 83).toInt + 2)).toNat 0) → sy_ai F1 56 = jm_upd (sy_ai F 56) ((sy_i F 84).toInt).toNat ((sy_ai F 77).getD (((sy_i F 83).toInt + 3)).toNat 0) → sy_ai F1 57 = jm_upd (sy_ai F 57) ((sy_i F 84).toInt).toNat ((sy_ai F 77).getD (((sy_i F 83).toInt + 4)).toNat 0) → sy_ai F1 58 = jm_upd (sy_ai F 58) ((sy_i F 84).toInt).toNat ((sy_ai F 77).getD (((sy_i F 83).toInt + 5)).toNat 0) → sy_ai F1 59 = jm_upd (sy_ai F 59) ((sy_i F 84).toInt).toNat ((sy_ai F 77).getD (((sy_i F 83).toInt + 6)).toNat 0) → (sy_i F1 82).toInt = (sy_i F 82).toInt → sy_i F1 82 = sy_i F 82 → (sy_i F1 83).toInt = ((sy_i F 83).toInt + 7) → sy_i F1 83 = (sy_i F 83) + ((7 : Int32)) → (sy_i F1 84).toInt = ((sy_i F 84).toInt + 1) → sy_i F1 84 = (sy_i F 84) + ((1 : Int32)) → hd_W Ls xs d jm_M10 Q (46, sy_dL F1 [some (.inl (.ref 46)), some (.inl (.ref 68)), some (.inr (.inl 82)), some (.inr (.inl 83)), some (.inr (.inl 84))], sy_dS F1 [], sy_dh F1 X1 X2 (iv_H 1), 0, 0)) :
    hd_W Ls xs d jm_M10 Q (46, sy_dL F [some (.inl (.ref 46)), some (.inl (.ref 68)), some (.inr (.inl 82)), some (.inr (.inl 83)), some (.inr (.inl 84))], sy_dS F [], sy_dh F X1 X2 (iv_H 1), 0, 0) := by
  by_cases g0 : 7 ≤ (sy_i F 84).toInt
  · have n86 : nzI ((sy_i F 83) + ((4 : Int32))) (((sy_i F 83).toInt + 4)) := nz_add (rfl : (sy_i F 83).toInt = (sy_i F 83).toInt) (by decide : ((4 : Int32)).toInt = 4) (by omega) (by omega)
    have w85 : jm_cpy (sy_ai F 77) (sy_ai F 60) (sy_i F 83).toNatClampNeg ((0 : Int32)).toNatClampNeg ((4 : Int32)).toNatClampNeg = jm_cpy (sy_ai F 77) (sy_ai F 60) ((sy_i F 83).toInt).toNat (0 : Int).toNat (4 : Int).toNat := by simp only [nz_c, (by decide : ((0 : Int32)).toInt = 0), (by decide : ((4 : Int32)).toInt = 4)]
    have w87 : jm_cpy (sy_ai F 77) (sy_ai F 61) ((sy_i F 83) + ((4 : Int32))).toNatClampNeg ((0 : Int32)).toNatClampNeg ((4 : Int32)).toNatClampNeg = jm_cpy (sy_ai F 77) (sy_ai F 61) (((sy_i F 83).toInt + 4)).toNat (0 : Int).toNat (4 : Int).toNat := by simp only [nz_c, (nzE n86), (by decide : ((0 : Int32)).toInt = 0), (by decide : ((4 : Int32)).toInt = 4)]
    exact j1lds_46_p0 hd F X1 X2 hB (by first | exact g0 | (simp only [nz_c]; exact g0)) (by first | exact ⟨by omega, by omega⟩ | (simp only [nz_c]; exact ⟨by omega, by omega⟩)) (by first | (simp only [nz_c, (nzE n86)]; exact ⟨by omega, by omega⟩) | exact ⟨by omega, by omega⟩ | (rw [(nzE n86)]; exact ⟨by omega, by omega⟩)) (fun F1 g e60 e61 => k0 g0 F1 (nz_in0 hB [60, 61] (fun j hj hn => g j hj (by simp only [List.mem_cons, List.not_mem_nil, or_false, not_or] at hn; omega)) (List.forall_mem_cons.mpr ⟨fun t ht => (Option.some.inj ht) ▸ (nz_hz2 e60), List.forall_mem_cons.mpr ⟨fun t ht => (Option.some.inj ht) ▸ (nz_hz2 e61), List.forall_mem_nil _⟩⟩)) (fun j hj hn => g j hj (by simp only [List.mem_cons, List.not_mem_nil, or_false, not_or] at hn; omega)) ((zz_ai e60).trans w85) ((zz_ai e61).trans w87))
  replace g0 : (sy_i F 84).toInt < 7 := by omega
  have n87 : nzI ((sy_i F 83) + ((1 : Int32))) (((sy_i F 83).toInt + 1)) := nz_add (rfl : (sy_i F 83).toInt = (sy_i F 83).toInt) (by decide : ((1 : Int32)).toInt = 1) (by omega) (by omega)
  have n90 : nzI ((sy_i F 83) + ((2 : Int32))) (((sy_i F 83).toInt + 2)) := nz_add (rfl : (sy_i F 83).toInt = (sy_i F 83).toInt) (by decide : ((2 : Int32)).toInt = 2) (by omega) (by omega)
  have n93 : nzI ((sy_i F 83) + ((3 : Int32))) (((sy_i F 83).toInt + 3)) := nz_add (rfl : (sy_i F 83).toInt = (sy_i F 83).toInt) (by decide : ((3 : Int32)).toInt = 3) (by omega) (by omega)
  have n96 : nzI ((sy_i F 83) + ((4 : Int32))) (((sy_i F 83).toInt + 4)) := nz_add (rfl : (sy_i F 83).toInt = (sy_i F 83).toInt) (by decide : ((4 : Int32)).toInt = 4) (by omega) (by omega)
  have n99 : nzI ((sy_i F 83) + ((5 : Int32))) (((sy_i F 83).toInt + 5)) := nz_add (rfl : (sy_i F 83).toInt = (sy_i F 83).toInt) (by decide : ((5 : Int32)).toInt = 5) (by omega) (by omega)
  have n102 : nzI ((sy_i F 83) + ((6 : Int32))) (((sy_i F 83).toInt + 6)) := nz_add (rfl : (sy_i F 83).toInt = (sy_i F 83).toInt) (by decide : ((6 : Int32)).toInt = 6) (by omega) (by omega)
  have w86 : jm_upd (sy_ai F 53) (sy_i F 84).toNatClampNeg ((sy_ai F 77).getD (sy_i F 83).toNatClampNeg 0) = jm_upd (sy_ai F 53) ((sy_i F 84).toInt).toNat ((sy_ai F 77).getD ((sy_i F 83).toInt).toNat 0) := by simp only [nz_c]
  have w89 : jm_upd (sy_ai F 54) (sy_i F 84).toNatClampNeg ((sy_ai F 77).getD ((sy_i F 83) + ((1 : Int32))).toNatClampNeg 0) = jm_upd (sy_ai F 54) ((sy_i F 84).toInt).toNat ((sy_ai F 77).getD (((sy_i F 83).toInt + 1)).toNat 0) := by simp only [nz_c, (nzE n87), (by decide : ((1 : Int32)).toInt = 1)]
  have w92 : jm_upd (sy_ai F 55) (sy_i F 84).toNatClampNeg ((sy_ai F 77).getD ((sy_i F 83) + ((2 : Int32))).toNatClampNeg 0) = jm_upd (sy_ai F 55) ((sy_i F 84).toInt).toNat ((sy_ai F 77).getD (((sy_i F 83).toInt + 2)).toNat 0) := by simp only [nz_c, (nzE n90), (by decide : ((2 : Int32)).toInt = 2)]
  have w95 : jm_upd (sy_ai F 56) (sy_i F 84).toNatClampNeg ((sy_ai F 77).getD ((sy_i F 83) + ((3 : Int32))).toNatClampNeg 0) = jm_upd (sy_ai F 56) ((sy_i F 84).toInt).toNat ((sy_ai F 77).getD (((sy_i F 83).toInt + 3)).toNat 0) := by simp only [nz_c, (nzE n93), (by decide : ((3 : Int32)).toInt = 3)]
  have w98 : jm_upd (sy_ai F 57) (sy_i F 84).toNatClampNeg ((sy_ai F 77).getD ((sy_i F 83) + ((4 : Int32))).toNatClampNeg 0) = jm_upd (sy_ai F 57) ((sy_i F 84).toInt).toNat ((sy_ai F 77).getD (((sy_i F 83).toInt + 4)).toNat 0) := by simp only [nz_c, (nzE n96), (by decide : ((4 : Int32)).toInt = 4)]
  have w101 : jm_upd (sy_ai F 58) (sy_i F 84).toNatClampNeg ((sy_ai F 77).getD ((sy_i F 83) + ((5 : Int32))).toNatClampNeg 0) = jm_upd (sy_ai F 58) ((sy_i F 84).toInt).toNat ((sy_ai F 77).getD (((sy_i F 83).toInt + 5)).toNat 0) := by simp only [nz_c, (nzE n99), (by decide : ((5 : Int32)).toInt = 5)]
  have w104 : jm_upd (sy_ai F 59) (sy_i F 84).toNatClampNeg ((sy_ai F 77).getD ((sy_i F 83) + ((6 : Int32))).toNatClampNeg 0) = jm_upd (sy_ai F 59) ((sy_i F 84).toInt).toNat ((sy_ai F 77).getD (((sy_i F 83).toInt + 6)).toNat 0) := by simp only [nz_c, (nzE n102), (by decide : ((6 : Int32)).toInt = 6)]
  have n105 : nzI ((sy_i F 83) + ((7 : Int32))) (((sy_i F 83).toInt + 7)) := nz_add (rfl : (sy_i F 83).toInt = (sy_i F 83).toInt) (by decide : ((7 : Int32)).toInt = 7) (by omega) (by omega)
  have n106 : nzI ((sy_i F 84) + ((1 : Int32))) (((sy_i F 84).toInt + 1)) := nz_add (rfl : (sy_i F 84).toInt = (sy_i F 84).toInt) (by decide : ((1 : Int32)).toInt = 1) (by omega) (by omega)
  exact j1lds_46_p1 hd F X1 X2 hB (by first | exact g0 | (simp only [nz_c]; exact g0)) (by first | exact ⟨by omega, by omega⟩ | (simp only [nz_c]; exact ⟨by omega, by omega⟩)) (by first | exact ⟨by omega, by omega⟩ | (simp only [nz_c]; exact ⟨by omega, by omega⟩)) (by first | (simp only [nz_c, (nzE n87)]; exact ⟨by omega, by omega⟩) | exact ⟨by omega, by omega⟩ | (rw [(nzE n87)]; exact ⟨by omega, by omega⟩)) (by first | exact ⟨by omega, by omega⟩ | (simp only [nz_c]; exact ⟨by omega, by omega⟩)) (by first | (simp only [nz_c, (nzE n90)]; exact ⟨by omega, by omega⟩) | exact ⟨by omega, by omega⟩ | (rw [(nzE n90)]; exact ⟨by omega, by omega⟩)) (by first | exact ⟨by omega, by omega⟩ | (simp only [nz_c]; exact ⟨by omega, by omega⟩)) (by first | (simp only [nz_c, (nzE n93)]; exact ⟨by omega, by omega⟩) | exact ⟨by omega, by omega⟩ | (rw [(nzE n93)]; exact ⟨by omega, by omega⟩)) (by first | exact ⟨by omega, by omega⟩ | (simp only [nz_c]; exact ⟨by omega, by omega⟩)) (by first | (simp only [nz_c, (nzE n96)]; exact ⟨by omega, by omega⟩) | exact ⟨by omega, by omega⟩ | (rw [(nzE n96)]; exact ⟨by omega, by omega⟩)) (by first | exact ⟨by omega, by omega⟩ | (simp only [nz_c]; exact ⟨by omega, by omega⟩)) (by first | (simp only [nz_c, (nzE n99)]; exact ⟨by omega, by omega⟩) | exact ⟨by omega, by omega⟩ | (rw [(nzE n99)]; exact ⟨by omega, by omega⟩)) (by first | exact ⟨by omega, by omega⟩ | (simp only [nz_c]; exact ⟨by omega, by omega⟩)) (by first | (simp only [nz_c, (nzE n102)]; exact ⟨by omega, by omega⟩) | exact ⟨by omega, by omega⟩ | (rw [(nzE n102)]; exact ⟨by omega, by omega⟩)) (by first | exact ⟨by omega, by omega⟩ | (simp only [nz_c]; exact ⟨by omega, by omega⟩)) (fun F1 g e53 e54 e55 e56 e57 e58 e59 e82 e83 e84 => k1 g0 F1 (nz_in0 hB [53, 54, 55, 56, 57, 58, 59] (fun j hj hn => g j hj (by simp only [List.mem_cons, List.not_mem_nil, or_false, not_or] at hn; omega)) (List.forall_mem_cons.mpr ⟨fun t ht => (Option.some.inj ht) ▸ (nz_hz2 e53), List.forall_mem_cons.mpr ⟨fun t ht => (Option.some.inj ht) ▸ (nz_hz2 e54), List.forall_mem_cons.mpr ⟨fun t ht => (Option.some.inj ht) ▸ (nz_hz2 e55), List.forall_mem_cons.mpr ⟨fun t ht => (Option.some.inj ht) ▸ (nz_hz2 e56), List.forall_mem_cons.mpr ⟨fun t ht => (Option.some.inj ht) ▸ (nz_hz2 e57), List.forall_mem_cons.mpr ⟨fun t ht => (Option.some.inj ht) ▸ (nz_hz2 e58), List.forall_mem_cons.mpr ⟨fun t ht => (Option.some.inj ht) ▸ (nz_hz2 e59), List.forall_mem_nil _⟩⟩⟩⟩⟩⟩⟩)) (fun j hj hn => g j hj (by simp only [List.mem_cons, List.not_mem_nil, or_false, not_or] at hn; omega)) ((zz_ai e53).trans w86) ((zz_ai e54).trans w89) ((zz_ai e55).trans w92) ((zz_ai e56).trans w95) ((zz_ai e57).trans w98) ((zz_ai e58).trans w101) ((zz_ai e59).trans w104) ((congrArg Int32.toInt (zz_i e82)).trans (rfl : (sy_i F 82).toInt = (sy_i F 82).toInt)) ((zz_i e82).trans (rfl : sy_i F 82 = sy_i F 82)) ((congrArg Int32.toInt (zz_i e83)).trans (nzE n105)) ((zz_i e83).trans (rfl : (sy_i F 83) + ((7 : Int32)) = (sy_i F 83) + ((7 : Int32)))) ((congrArg Int32.toInt (zz_i e84)).trans (nzE n106)) ((zz_i e84).trans (rfl : (sy_i F 84) + ((1 : Int32)) = (sy_i F 84) + ((1 : Int32)))))
end
section
/-! ===== the class saves its ground and loads it (shape 1) ===== -/
section SV1
variable {Ls : Nat} {xs : Nat → Int32}
theorem j1svt_L (F : Nat → sy_d) (X1 X2 : List jm_c) {p : Nat} (hp : p ≤ 2340) : ∀ (m : Nat) (F1 : Nat → sy_d) (n : Nat), n + m = 7 → qC [76] F F1 → (sy_i F1 82).toInt = p → (sy_i F1 83).toInt = p + 3 + 7 * n → (sy_i F1 84).toInt = n → (∀ j, j < p ∨ p + 60 ≤ j → (sy_ai F1 76).getD j 0 = (sy_ai F 76).getD j 0) → (∀ i, i < 3 → (sy_ai F1 76).getD (p + i) 0 = sy_i F (50 + i)) → (∀ q i, q < 7 → i < n → (sy_ai F1 76).getD (p + 3 + 7 * i + q) 0 = (sy_ai F (53 + q)).getD i 0) →
    hd_W Ls xs 1 jm_M9 (pV 1 X1 X2 (fun F' => qC [76] F F' ∧ svR (sy_ai F' 76) p F 50 ∧ ∀ j, j < p ∨ p + 60 ≤ j → (sy_ai F' 76).getD j 0 = (sy_ai F 76).getD j 0)) (46, sy_dL F1 [some (.inl (.ref 46)), some (.inl (.ref 67)), some (.inr (.inl 82)), some (.inr (.inl 83)), some (.inr (.inl 84))], sy_dS F1 [], sy_dh F1 X1 X2 (iv_H 1), 0, 0) := by
  intro m
  induction m with
  | zero =>
    intro F1 n hm hq e82 e83 e84 ho h3 h7
    refine j1svt_46 (by decide) F1 X1 X2 hq.1 (by omega) (by omega) (by omega) ?_ ?_
    · intro c0 F2 hb gg a
      rw [show (sy_i F1 83).toInt.toNat = p + 52 by omega, show ((sy_i F1 83).toInt + 4).toNat = p + 56 by omega] at a
      have key : ∀ j, (sy_ai F2 76).getD j 0 = if p + 56 ≤ j ∧ j < p + 56 + 4 then (sy_ai F1 61).getD (0 + (j - (p + 56))) 0 else if p + 52 ≤ j ∧ j < p + 52 + 4 then (sy_ai F1 60).getD (0 + (j - (p + 52))) 0 else (sy_ai F1 76).getD j 0 := fun j => by
        rw [a, cpy_ix, cpy_ix]
        rfl
      refine ⟨F2, rfl, rfl, qq_on hq hb gg (by decide), ⟨fun q i hq' hi => ?_, fun i hi => ⟨?_, ?_⟩, fun i hi => ?_⟩, fun j hj => ?_⟩
      · rw [key, if_neg (by omega), if_neg (by omega)]
        exact h7 q i hq' (by omega)
      · rw [key, if_neg (by omega), if_pos (by omega), show 0 + (p + 52 + i - (p + 52)) = i by omega, qq_a hq (by decide) (by decide)]
      · rw [key, if_pos (by omega), show 0 + (p + 56 + i - (p + 56)) = i by omega, qq_a hq (by decide) (by decide)]
      · rw [key, if_neg (by omega), if_neg (by omega)]
        exact h3 i hi
      · rw [key, if_neg (by omega), if_neg (by omega)]
        exact ho j hj
    · intros
      omega
  | succ m ih =>
    intro F1 n hm hq e82 e83 e84 ho h3 h7
    refine j1svt_46 (by decide) F1 X1 X2 hq.1 (by omega) (by omega) (by omega) ?_ ?_
    · intros
      omega
    · intro c0 F2 hb gg a e82' j82 e83' j83 e84' j84
      rw [show (sy_i F1 83).toInt.toNat = p + 3 + 7 * n by omega, show ((sy_i F1 83).toInt + 1).toNat = p + 3 + 7 * n + 1 by omega, show ((sy_i F1 83).toInt + 2).toNat = p + 3 + 7 * n + 2 by omega, show ((sy_i F1 83).toInt + 3).toNat = p + 3 + 7 * n + 3 by omega, show ((sy_i F1 83).toInt + 4).toNat = p + 3 + 7 * n + 4 by omega, show ((sy_i F1 83).toInt + 5).toNat = p + 3 + 7 * n + 5 by omega, show ((sy_i F1 83).toInt + 6).toNat = p + 3 + 7 * n + 6 by omega, show (sy_i F1 84).toInt.toNat = n by omega] at a
      have ko : ∀ j, (j < p + 3 + 7 * n ∨ p + 3 + 7 * n + 7 ≤ j) → (sy_ai F2 76).getD j 0 = (sy_ai F1 76).getD j 0 := fun j h => (congrArg (fun l => l.getD j 0) a).trans (up7_o h)
      have ki : ∀ q, q < 7 → (sy_ai F2 76).getD (p + 3 + 7 * n + q) 0 = (sy_ai F1 (53 + q)).getD n 0 := fun q h => (congrArg (fun l => l.getD (p + 3 + 7 * n + q) 0) a).trans (up7_i (fun q => (sy_ai F1 (53 + q)).getD n 0) h)
      refine ih F2 (n + 1) (by omega) (qq_on hq hb gg (by decide)) (by omega) (by omega) (by omega) (fun j hj => ?_) (fun i hi => ?_) (fun q i hq' hi => ?_)
      · rw [ko j (by omega)]
        exact ho j hj
      · rw [ko _ (by omega)]
        exact h3 i hi
      · by_cases z : i = n
        · rw [z, ki q hq', qq_a hq (by omega) (by simp; omega)]
        · rw [ko _ (by omega)]
          exact h7 q i hq' (by omega)
theorem j1svt_V (F : Nat → sy_d) (X1 X2 : List jm_c) (hB : iv_in F iv_B0) {v : Int32} {p : Nat} (hv : v.toInt = p) (hp : p ≤ 2340) : jm_T Ls xs 1 jm_M9 [.ref 46, .ref 67, .int v] (sy_dh F X1 X2 (iv_H 1)) 0 0 (pV 1 X1 X2 (fun F' => qC [76] F F' ∧ svR (sy_ai F' 76) p F 50 ∧ ∀ j, j < p ∨ p + 60 ≤ j → (sy_ai F' 76).getD j 0 = (sy_ai F 76).getD j 0)) := by
  refine C_T (by decide) [v] [.inl (.ref 46), .inl (.ref 67), .inr (.inl 82)] jm_ok9 (by decide) rfl (fun F0 k0 ki => ?_)
  have i82 : sy_i F0 82 = v := ki 0
  refine j1svt_0 (by decide) F0 X1 X2 (hd_iveq0 hB k0) (by rw [i82]; omega) ?_
  intro c0 c1 F1 hb gg a e82 j82 e83 j83 e84 j84
  rw [i82] at a e82 e83
  rw [show v.toInt.toNat = p by omega, show (v.toInt + 1).toNat = p + 1 by omega, show (v.toInt + 2).toNat = p + 2 by omega, eI (k0 50 (by decide)), eI (k0 51 (by decide)), eI (k0 52 (by decide)), nz_fa (k0 76 (by decide))] at a
  have key : ∀ j, (sy_ai F1 76).getD j 0 = if j = p + 2 then sy_i F 52 else if j = p + 1 then sy_i F 51 else if j = p then sy_i F 50 else (sy_ai F 76).getD j 0 := fun j => by
    rw [a, jm_upd_at, jm_upd_at, jm_upd_at]
  refine j1svt_L F X1 X2 hp 7 F1 0 (by omega) (qq_src (qq_mk hb gg (by decide)) k0) (by omega) (by omega) e84 (fun j hj => ?_) (fun i hi => ?_) (fun q i hq hi => absurd hi (by omega))
  · rw [key, if_neg (by omega), if_neg (by omega), if_neg (by omega)]
  · rw [key]
    match i, hi with
    | 0, _ => rw [if_neg (by omega), if_neg (by omega), if_pos (by omega)]
    | 1, _ => rw [if_neg (by omega), if_pos rfl]
    | 2, _ => rw [if_pos rfl]
theorem j1ldt_L (F : Nat → sy_d) (X1 X2 : List jm_c) {p : Nat} (hp : p ≤ 2340) : ∀ (m : Nat) (F1 : Nat → sy_d) (n : Nat), n + m = 7 → qC [50, 51, 52, 53, 54, 55, 56, 57, 58, 59, 60, 61] F F1 → (sy_i F1 82).toInt = p → (sy_i F1 83).toInt = p + 3 + 7 * n → (sy_i F1 84).toInt = n → (∀ i, i < 3 → (sy_ai F 76).getD (p + i) 0 = sy_i F1 (50 + i)) → (∀ q i, q < 7 → i < n → (sy_ai F 76).getD (p + 3 + 7 * i + q) 0 = (sy_ai F1 (53 + q)).getD i 0) →
    hd_W Ls xs 1 jm_M10 (pV 1 X1 X2 (fun F' => qC [50, 51, 52, 53, 54, 55, 56, 57, 58, 59, 60, 61] F F' ∧ svR (sy_ai F 76) p F' 50)) (46, sy_dL F1 [some (.inl (.ref 46)), some (.inl (.ref 67)), some (.inr (.inl 82)), some (.inr (.inl 83)), some (.inr (.inl 84))], sy_dS F1 [], sy_dh F1 X1 X2 (iv_H 1), 0, 0) := by
  intro m
  induction m with
  | zero =>
    intro F1 n hm hq e82 e83 e84 h3 h7
    have eC : sy_ai F1 76 = sy_ai F 76 := qq_a hq (by decide) (by decide)
    refine j1ldt_46 (by decide) F1 X1 X2 hq.1 (by omega) (by omega) (by omega) ?_ ?_
    · intro c0 F2 hb gg a60 a61
      rw [show (sy_i F1 83).toInt.toNat = p + 52 by omega, eC] at a60
      rw [show ((sy_i F1 83).toInt + 4).toNat = p + 56 by omega, eC] at a61
      refine ⟨F2, rfl, rfl, qq_on hq hb gg (by decide), ⟨fun q i hq' hi => ?_, fun i hi => ⟨?_, ?_⟩, fun i hi => ?_⟩⟩
      · rw [show 50 + 3 + q = 53 + q by omega, nz_fa (gg (53 + q) (by omega) (by simp; omega))]
        exact h7 q i hq' (by omega)
      · show _ = (sy_ai F2 60).getD i 0
        rw [a60, cpy_ix, if_pos ⟨Nat.zero_le _, (show i < (0 : Nat) + 4 by omega)⟩]
        show _ = (sy_ai F 76).getD (p + 52 + (i - 0)) 0
        rw [Nat.sub_zero]
      · show _ = (sy_ai F2 61).getD i 0
        rw [a61, cpy_ix, if_pos ⟨Nat.zero_le _, (show i < (0 : Nat) + 4 by omega)⟩]
        show _ = (sy_ai F 76).getD (p + 56 + (i - 0)) 0
        rw [Nat.sub_zero]
      · rw [eI (gg (50 + i) (by omega) (by simp; omega))]
        exact h3 i hi
    · intros
      omega
  | succ m ih =>
    intro F1 n hm hq e82 e83 e84 h3 h7
    have eC : sy_ai F1 76 = sy_ai F 76 := qq_a hq (by decide) (by decide)
    refine j1ldt_46 (by decide) F1 X1 X2 hq.1 (by omega) (by omega) (by omega) ?_ ?_
    · intros
      omega
    · intro c0 F2 hb gg a53 a54 a55 a56 a57 a58 a59 e82' j82 e83' j83 e84' j84
      rw [show (sy_i F1 84).toInt.toNat = n by omega, show (sy_i F1 83).toInt.toNat = p + 3 + 7 * n by omega, eC] at a53
      rw [show (sy_i F1 84).toInt.toNat = n by omega, show ((sy_i F1 83).toInt + 1).toNat = p + 3 + 7 * n + 1 by omega, eC] at a54
      rw [show (sy_i F1 84).toInt.toNat = n by omega, show ((sy_i F1 83).toInt + 2).toNat = p + 3 + 7 * n + 2 by omega, eC] at a55
      rw [show (sy_i F1 84).toInt.toNat = n by omega, show ((sy_i F1 83).toInt + 3).toNat = p + 3 + 7 * n + 3 by omega, eC] at a56
      rw [show (sy_i F1 84).toInt.toNat = n by omega, show ((sy_i F1 83).toInt + 4).toNat = p + 3 + 7 * n + 4 by omega, eC] at a57
      rw [show (sy_i F1 84).toInt.toNat = n by omega, show ((sy_i F1 83).toInt + 5).toNat = p + 3 + 7 * n + 5 by omega, eC] at a58
      rw [show (sy_i F1 84).toInt.toNat = n by omega, show ((sy_i F1 83).toInt + 6).toNat = p + 3 + 7 * n + 6 by omega, eC] at a59
      have hu : ∀ q, q < 7 → sy_ai F2 (53 + q) = jm_upd (sy_ai F1 (53 + q)) n ((sy_ai F 76).getD (p + 3 + 7 * n + q) 0) := fun q h => by
        match q, h with
        | 0, _ => exact a53
        | 1, _ => exact a54
        | 2, _ => exact a55
        | 3, _ => exact a56
        | 4, _ => exact a57
        | 5, _ => exact a58
        | 6, _ => exact a59
      refine ih F2 (n + 1) (by omega) (qq_on hq hb gg (by decide)) (by omega) (by omega) (by omega) (fun i hi => ?_) (fun q i hq' hi => ?_)
      · rw [eI (gg (50 + i) (by omega) (by simp; omega))]
        exact h3 i hi
      · rw [hu q hq', jm_upd_at]
        by_cases z : i = n
        · rw [if_pos z, z]
        · rw [if_neg z]
          exact h7 q i hq' (by omega)
theorem j1ldt_V (F : Nat → sy_d) (X1 X2 : List jm_c) (hB : iv_in F iv_B0) {v : Int32} {p : Nat} (hv : v.toInt = p) (hp : p ≤ 2340) : jm_T Ls xs 1 jm_M10 [.ref 46, .ref 67, .int v] (sy_dh F X1 X2 (iv_H 1)) 0 0 (pV 1 X1 X2 (fun F' => qC [50, 51, 52, 53, 54, 55, 56, 57, 58, 59, 60, 61] F F' ∧ svR (sy_ai F 76) p F' 50)) := by
  refine C_T (by decide) [v] [.inl (.ref 46), .inl (.ref 67), .inr (.inl 82)] jm_ok10 (by decide) rfl (fun F0 k0 ki => ?_)
  have i82 : sy_i F0 82 = v := ki 0
  refine j1ldt_0 (by decide) F0 X1 X2 (hd_iveq0 hB k0) (by rw [i82]; omega) ?_
  intro c0 c1 F1 hb gg e50 j50 e51 j51 e52 j52 e82 j82 e83 j83 e84 j84
  rw [i82] at j50 j51 j52 e82 e83
  rw [nz_fa (k0 76 (by decide))] at j50 j51 j52
  rw [show v.toInt.toNat = p by omega] at j50
  rw [show (v.toInt + 1).toNat = p + 1 by omega] at j51
  rw [show (v.toInt + 2).toNat = p + 2 by omega] at j52
  refine j1ldt_L F X1 X2 hp 7 F1 0 (by omega) (qq_src (qq_mk hb gg (by decide)) k0) (by omega) (by omega) e84 (fun i hi => ?_) (fun q i hq hi => absurd hi (by omega))
  match i, hi with
  | 0, _ => exact j50.symm
  | 1, _ => exact j51.symm
  | 2, _ => exact j52.symm
theorem j1svs_L (F : Nat → sy_d) (X1 X2 : List jm_c) {p : Nat} (hp : p ≤ 120) : ∀ (m : Nat) (F1 : Nat → sy_d) (n : Nat), n + m = 7 → qC [77] F F1 → (sy_i F1 82).toInt = p → (sy_i F1 83).toInt = p + 3 + 7 * n → (sy_i F1 84).toInt = n → (∀ j, j < p ∨ p + 60 ≤ j → (sy_ai F1 77).getD j 0 = (sy_ai F 77).getD j 0) → (∀ i, i < 3 → (sy_ai F1 77).getD (p + i) 0 = sy_i F (50 + i)) → (∀ q i, q < 7 → i < n → (sy_ai F1 77).getD (p + 3 + 7 * i + q) 0 = (sy_ai F (53 + q)).getD i 0) →
    hd_W Ls xs 1 jm_M9 (pV 1 X1 X2 (fun F' => qC [77] F F' ∧ svR (sy_ai F' 77) p F 50 ∧ ∀ j, j < p ∨ p + 60 ≤ j → (sy_ai F' 77).getD j 0 = (sy_ai F 77).getD j 0)) (46, sy_dL F1 [some (.inl (.ref 46)), some (.inl (.ref 68)), some (.inr (.inl 82)), some (.inr (.inl 83)), some (.inr (.inl 84))], sy_dS F1 [], sy_dh F1 X1 X2 (iv_H 1), 0, 0) := by
  intro m
  induction m with
  | zero =>
    intro F1 n hm hq e82 e83 e84 ho h3 h7
    refine j1svs_46 (by decide) F1 X1 X2 hq.1 (by omega) (by omega) (by omega) ?_ ?_
    · intro c0 F2 hb gg a
      rw [show (sy_i F1 83).toInt.toNat = p + 52 by omega, show ((sy_i F1 83).toInt + 4).toNat = p + 56 by omega] at a
      have key : ∀ j, (sy_ai F2 77).getD j 0 = if p + 56 ≤ j ∧ j < p + 56 + 4 then (sy_ai F1 61).getD (0 + (j - (p + 56))) 0 else if p + 52 ≤ j ∧ j < p + 52 + 4 then (sy_ai F1 60).getD (0 + (j - (p + 52))) 0 else (sy_ai F1 77).getD j 0 := fun j => by
        rw [a, cpy_ix, cpy_ix]
        rfl
      refine ⟨F2, rfl, rfl, qq_on hq hb gg (by decide), ⟨fun q i hq' hi => ?_, fun i hi => ⟨?_, ?_⟩, fun i hi => ?_⟩, fun j hj => ?_⟩
      · rw [key, if_neg (by omega), if_neg (by omega)]
        exact h7 q i hq' (by omega)
      · rw [key, if_neg (by omega), if_pos (by omega), show 0 + (p + 52 + i - (p + 52)) = i by omega, qq_a hq (by decide) (by decide)]
      · rw [key, if_pos (by omega), show 0 + (p + 56 + i - (p + 56)) = i by omega, qq_a hq (by decide) (by decide)]
      · rw [key, if_neg (by omega), if_neg (by omega)]
        exact h3 i hi
      · rw [key, if_neg (by omega), if_neg (by omega)]
        exact ho j hj
    · intros
      omega
  | succ m ih =>
    intro F1 n hm hq e82 e83 e84 ho h3 h7
    refine j1svs_46 (by decide) F1 X1 X2 hq.1 (by omega) (by omega) (by omega) ?_ ?_
    · intros
      omega
    · intro c0 F2 hb gg a e82' j82 e83' j83 e84' j84
      rw [show (sy_i F1 83).toInt.toNat = p + 3 + 7 * n by omega, show ((sy_i F1 83).toInt + 1).toNat = p + 3 + 7 * n + 1 by omega, show ((sy_i F1 83).toInt + 2).toNat = p + 3 + 7 * n + 2 by omega, show ((sy_i F1 83).toInt + 3).toNat = p + 3 + 7 * n + 3 by omega, show ((sy_i F1 83).toInt + 4).toNat = p + 3 + 7 * n + 4 by omega, show ((sy_i F1 83).toInt + 5).toNat = p + 3 + 7 * n + 5 by omega, show ((sy_i F1 83).toInt + 6).toNat = p + 3 + 7 * n + 6 by omega, show (sy_i F1 84).toInt.toNat = n by omega] at a
      have ko : ∀ j, (j < p + 3 + 7 * n ∨ p + 3 + 7 * n + 7 ≤ j) → (sy_ai F2 77).getD j 0 = (sy_ai F1 77).getD j 0 := fun j h => (congrArg (fun l => l.getD j 0) a).trans (up7_o h)
      have ki : ∀ q, q < 7 → (sy_ai F2 77).getD (p + 3 + 7 * n + q) 0 = (sy_ai F1 (53 + q)).getD n 0 := fun q h => (congrArg (fun l => l.getD (p + 3 + 7 * n + q) 0) a).trans (up7_i (fun q => (sy_ai F1 (53 + q)).getD n 0) h)
      refine ih F2 (n + 1) (by omega) (qq_on hq hb gg (by decide)) (by omega) (by omega) (by omega) (fun j hj => ?_) (fun i hi => ?_) (fun q i hq' hi => ?_)
      · rw [ko j (by omega)]
        exact ho j hj
      · rw [ko _ (by omega)]
        exact h3 i hi
      · by_cases z : i = n
        · rw [z, ki q hq', qq_a hq (by omega) (by simp; omega)]
        · rw [ko _ (by omega)]
          exact h7 q i hq' (by omega)
theorem j1svs_V (F : Nat → sy_d) (X1 X2 : List jm_c) (hB : iv_in F iv_B0) {v : Int32} {p : Nat} (hv : v.toInt = p) (hp : p ≤ 120) : jm_T Ls xs 1 jm_M9 [.ref 46, .ref 68, .int v] (sy_dh F X1 X2 (iv_H 1)) 0 0 (pV 1 X1 X2 (fun F' => qC [77] F F' ∧ svR (sy_ai F' 77) p F 50 ∧ ∀ j, j < p ∨ p + 60 ≤ j → (sy_ai F' 77).getD j 0 = (sy_ai F 77).getD j 0)) := by
  refine C_T (by decide) [v] [.inl (.ref 46), .inl (.ref 68), .inr (.inl 82)] jm_ok9 (by decide) rfl (fun F0 k0 ki => ?_)
  have i82 : sy_i F0 82 = v := ki 0
  refine j1svs_0 (by decide) F0 X1 X2 (hd_iveq0 hB k0) (by rw [i82]; omega) ?_
  intro c0 c1 F1 hb gg a e82 j82 e83 j83 e84 j84
  rw [i82] at a e82 e83
  rw [show v.toInt.toNat = p by omega, show (v.toInt + 1).toNat = p + 1 by omega, show (v.toInt + 2).toNat = p + 2 by omega, eI (k0 50 (by decide)), eI (k0 51 (by decide)), eI (k0 52 (by decide)), nz_fa (k0 77 (by decide))] at a
  have key : ∀ j, (sy_ai F1 77).getD j 0 = if j = p + 2 then sy_i F 52 else if j = p + 1 then sy_i F 51 else if j = p then sy_i F 50 else (sy_ai F 77).getD j 0 := fun j => by
    rw [a, jm_upd_at, jm_upd_at, jm_upd_at]
  refine j1svs_L F X1 X2 hp 7 F1 0 (by omega) (qq_src (qq_mk hb gg (by decide)) k0) (by omega) (by omega) e84 (fun j hj => ?_) (fun i hi => ?_) (fun q i hq hi => absurd hi (by omega))
  · rw [key, if_neg (by omega), if_neg (by omega), if_neg (by omega)]
  · rw [key]
    match i, hi with
    | 0, _ => rw [if_neg (by omega), if_neg (by omega), if_pos (by omega)]
    | 1, _ => rw [if_neg (by omega), if_pos rfl]
    | 2, _ => rw [if_pos rfl]
theorem j1lds_L (F : Nat → sy_d) (X1 X2 : List jm_c) {p : Nat} (hp : p ≤ 120) : ∀ (m : Nat) (F1 : Nat → sy_d) (n : Nat), n + m = 7 → qC [50, 51, 52, 53, 54, 55, 56, 57, 58, 59, 60, 61] F F1 → (sy_i F1 82).toInt = p → (sy_i F1 83).toInt = p + 3 + 7 * n → (sy_i F1 84).toInt = n → (∀ i, i < 3 → (sy_ai F 77).getD (p + i) 0 = sy_i F1 (50 + i)) → (∀ q i, q < 7 → i < n → (sy_ai F 77).getD (p + 3 + 7 * i + q) 0 = (sy_ai F1 (53 + q)).getD i 0) →
    hd_W Ls xs 1 jm_M10 (pV 1 X1 X2 (fun F' => qC [50, 51, 52, 53, 54, 55, 56, 57, 58, 59, 60, 61] F F' ∧ svR (sy_ai F 77) p F' 50)) (46, sy_dL F1 [some (.inl (.ref 46)), some (.inl (.ref 68)), some (.inr (.inl 82)), some (.inr (.inl 83)), some (.inr (.inl 84))], sy_dS F1 [], sy_dh F1 X1 X2 (iv_H 1), 0, 0) := by
  intro m
  induction m with
  | zero =>
    intro F1 n hm hq e82 e83 e84 h3 h7
    have eC : sy_ai F1 77 = sy_ai F 77 := qq_a hq (by decide) (by decide)
    refine j1lds_46 (by decide) F1 X1 X2 hq.1 (by omega) (by omega) (by omega) ?_ ?_
    · intro c0 F2 hb gg a60 a61
      rw [show (sy_i F1 83).toInt.toNat = p + 52 by omega, eC] at a60
      rw [show ((sy_i F1 83).toInt + 4).toNat = p + 56 by omega, eC] at a61
      refine ⟨F2, rfl, rfl, qq_on hq hb gg (by decide), ⟨fun q i hq' hi => ?_, fun i hi => ⟨?_, ?_⟩, fun i hi => ?_⟩⟩
      · rw [show 50 + 3 + q = 53 + q by omega, nz_fa (gg (53 + q) (by omega) (by simp; omega))]
        exact h7 q i hq' (by omega)
      · show _ = (sy_ai F2 60).getD i 0
        rw [a60, cpy_ix, if_pos ⟨Nat.zero_le _, (show i < (0 : Nat) + 4 by omega)⟩]
        show _ = (sy_ai F 77).getD (p + 52 + (i - 0)) 0
        rw [Nat.sub_zero]
      · show _ = (sy_ai F2 61).getD i 0
        rw [a61, cpy_ix, if_pos ⟨Nat.zero_le _, (show i < (0 : Nat) + 4 by omega)⟩]
        show _ = (sy_ai F 77).getD (p + 56 + (i - 0)) 0
        rw [Nat.sub_zero]
      · rw [eI (gg (50 + i) (by omega) (by simp; omega))]
        exact h3 i hi
    · intros
      omega
  | succ m ih =>
    intro F1 n hm hq e82 e83 e84 h3 h7
    have eC : sy_ai F1 77 = sy_ai F 77 := qq_a hq (by decide) (by decide)
    refine j1lds_46 (by decide) F1 X1 X2 hq.1 (by omega) (by omega) (by omega) ?_ ?_
    · intros
      omega
    · intro c0 F2 hb gg a53 a54 a55 a56 a57 a58 a59 e82' j82 e83' j83 e84' j84
      rw [show (sy_i F1 84).toInt.toNat = n by omega, show (sy_i F1 83).toInt.toNat = p + 3 + 7 * n by omega, eC] at a53
      rw [show (sy_i F1 84).toInt.toNat = n by omega, show ((sy_i F1 83).toInt + 1).toNat = p + 3 + 7 * n + 1 by omega, eC] at a54
      rw [show (sy_i F1 84).toInt.toNat = n by omega, show ((sy_i F1 83).toInt + 2).toNat = p + 3 + 7 * n + 2 by omega, eC] at a55
      rw [show (sy_i F1 84).toInt.toNat = n by omega, show ((sy_i F1 83).toInt + 3).toNat = p + 3 + 7 * n + 3 by omega, eC] at a56
      rw [show (sy_i F1 84).toInt.toNat = n by omega, show ((sy_i F1 83).toInt + 4).toNat = p + 3 + 7 * n + 4 by omega, eC] at a57
      rw [show (sy_i F1 84).toInt.toNat = n by omega, show ((sy_i F1 83).toInt + 5).toNat = p + 3 + 7 * n + 5 by omega, eC] at a58
      rw [show (sy_i F1 84).toInt.toNat = n by omega, show ((sy_i F1 83).toInt + 6).toNat = p + 3 + 7 * n + 6 by omega, eC] at a59
      have hu : ∀ q, q < 7 → sy_ai F2 (53 + q) = jm_upd (sy_ai F1 (53 + q)) n ((sy_ai F 77).getD (p + 3 + 7 * n + q) 0) := fun q h => by
        match q, h with
        | 0, _ => exact a53
        | 1, _ => exact a54
        | 2, _ => exact a55
        | 3, _ => exact a56
        | 4, _ => exact a57
        | 5, _ => exact a58
        | 6, _ => exact a59
      refine ih F2 (n + 1) (by omega) (qq_on hq hb gg (by decide)) (by omega) (by omega) (by omega) (fun i hi => ?_) (fun q i hq' hi => ?_)
      · rw [eI (gg (50 + i) (by omega) (by simp; omega))]
        exact h3 i hi
      · rw [hu q hq', jm_upd_at]
        by_cases z : i = n
        · rw [if_pos z, z]
        · rw [if_neg z]
          exact h7 q i hq' (by omega)
theorem j1lds_V (F : Nat → sy_d) (X1 X2 : List jm_c) (hB : iv_in F iv_B0) {v : Int32} {p : Nat} (hv : v.toInt = p) (hp : p ≤ 120) : jm_T Ls xs 1 jm_M10 [.ref 46, .ref 68, .int v] (sy_dh F X1 X2 (iv_H 1)) 0 0 (pV 1 X1 X2 (fun F' => qC [50, 51, 52, 53, 54, 55, 56, 57, 58, 59, 60, 61] F F' ∧ svR (sy_ai F 77) p F' 50)) := by
  refine C_T (by decide) [v] [.inl (.ref 46), .inl (.ref 68), .inr (.inl 82)] jm_ok10 (by decide) rfl (fun F0 k0 ki => ?_)
  have i82 : sy_i F0 82 = v := ki 0
  refine j1lds_0 (by decide) F0 X1 X2 (hd_iveq0 hB k0) (by rw [i82]; omega) ?_
  intro c0 c1 F1 hb gg e50 j50 e51 j51 e52 j52 e82 j82 e83 j83 e84 j84
  rw [i82] at j50 j51 j52 e82 e83
  rw [nz_fa (k0 77 (by decide))] at j50 j51 j52
  rw [show v.toInt.toNat = p by omega] at j50
  rw [show (v.toInt + 1).toNat = p + 1 by omega] at j51
  rw [show (v.toInt + 2).toNat = p + 2 by omega] at j52
  refine j1lds_L F X1 X2 hp 7 F1 0 (by omega) (qq_src (qq_mk hb gg (by decide)) k0) (by omega) (by omega) e84 (fun i hi => ?_) (fun q i hq hi => absurd hi (by omega))
  match i, hi with
  | 0, _ => exact j50.symm
  | 1, _ => exact j51.symm
  | 2, _ => exact j52.symm
end SV1
end
section
/-! ===== the class saves its ground and loads it, way by way (shape 2) ===== -/
theorem j2svt_0_p0 {Ls : Nat} {xs : Nat → Int32} {d : Nat} {Q : Option Value → jm_h → Prop} (hd : 1 ≤ d) (F : Nat → sy_d) (X1 X2 : List jm_c) (hB : iv_in F iv_B0)
    (h0 : 0 ≤ (sy_i F 82).toInt)
    (h1 : (sy_i F 82).toInt ≤ 2340)
    (h2 : 0 ≤ (sy_i F 82).toInt ∧ (sy_i F 82).toInt < 2400)
    (h3 : 0 ≤ ((sy_i F 82) + ((1 : Int32))).toInt ∧ ((sy_i F 82) + ((1 : Int32))).toInt < 2400)
    (h4 : 0 ≤ ((sy_i F 82) + ((2 : Int32))).toInt ∧ ((sy_i F 82) + ((2 : Int32))).toInt < 2400)
    (k : ∀ F1 : Nat → sy_d, (∀ j, j < 82 → j ≠ 76 → F1 j = F j) → F1 76 = .inr (.inl (jm_upd (jm_upd (jm_upd (sy_ai F 76) (sy_i F 82).toNatClampNeg (sy_i F 50)) ((sy_i F 82) + ((1 : Int32))).toNatClampNeg (sy_i F 51)) ((sy_i F 82) + ((2 : Int32))).toNatClampNeg (sy_i F 52))) → F1 82 = .inl (.int (sy_i F 82)) → F1 83 = .inl (.int ((sy_i F 82) + ((3 : Int32)))) → F1 84 = .inl (.int ((0 : Int32))) → hd_W Ls xs d jm_M9 Q (46, sy_dL F1 [some (.inl (.ref 46)), some (.inl (.ref 67)), some (.inr (.inl 82)), some (.inr (.inl 83)), some (.inr (.inl 84))], sy_dS F1 [], sy_dh F1 X1 X2 (iv_H 2), 0, 0)) :
    hd_W Ls xs d jm_M9 Q (0, sy_dL F [some (.inl (.ref 46)), some (.inl (.ref 67)), some (.inr (.inl 82)), none, none], sy_dS F [], sy_dh F X1 X2 (iv_H 2), 0, 0) := by
  refine hd_run (s := 2) (nv := 83) (pc := 46) (L := [some (.inl (.ref 46)), some (.inl (.ref 67)), some (.inr (.inl 82)), some (.inr (.inl 83)), some (.inr (.inl 84))]) (S := []) (uh := hd_ov (iv_id 0 iv_B0) [(76, .inr (.inr (.inl 87)))]) (ul := [.inl (.inr (.inl 82)), .inl (.inr (.inl 88)), .inl (.inl (.int 0))]) (f := true) (sp := [46]) (d0 := 0) (O := [false, true]) (T := [(40, [.inr (.inl 82), .inr (.inl 50)], [.inr (.inl 76)]), (0, [.inr (.inl 82), .inl (.int 1)], []), (40, [.inr (.inl 84), .inr (.inl 51)], [.inr (.inl 83)]), (0, [.inr (.inl 82), .inl (.int 2)], []), (40, [.inr (.inl 86), .inr (.inl 52)], [.inr (.inl 85)]), (0, [.inr (.inl 82), .inl (.int 3)], [])]) (P := [(3, .inr (.inl 82), .inl (.int 0)), (4, .inr (.inl 82), .inl (.int 2340)), (6, .inr (.inl 82), .inl (.ref 2400)), (6, .inr (.inl 84), .inl (.ref 2400)), (6, .inr (.inl 86), .inl (.ref 2400))]) jm_ok9 (by decide +kernel) (by decide +kernel) hd F X1 X2 (fun F' hF hs => ?_)
  have b82 := hd_b (F := F) (F' := F') (k := 82) (hF 82 (by decide))
  have t84 : sy_dv F' (.inr (.inl 84)) = .int ((sy_i F 82) + ((1 : Int32))) := hd_o (hs 1 _ rfl) b82 rfl rfl
  have t86 : sy_dv F' (.inr (.inl 86)) = .int ((sy_i F 82) + ((2 : Int32))) := hd_o (hs 3 _ rfl) b82 rfl rfl
  have b52 := hd_b (F := F) (F' := F') (k := 52) (hF 52 (by decide))
  have b51 := hd_b (F := F) (F' := F') (k := 51) (hF 51 (by decide))
  have b50 := hd_b (F := F) (F' := F') (k := 50) (hF 50 (by decide))
  have a76 := hd_ba (F := F) (F' := F') (k := 76) (hF 76 (by decide))
  have t83 : sy_da F' (.inr (.inl 83)) = .inl (jm_upd (sy_ai F 76) (sy_i F 82).toNatClampNeg (sy_i F 50)) := hd_up (hs 0 _ rfl) b82 b50 a76
  have t85 : sy_da F' (.inr (.inl 85)) = .inl (jm_upd (jm_upd (sy_ai F 76) (sy_i F 82).toNatClampNeg (sy_i F 50)) ((sy_i F 82) + ((1 : Int32))).toNatClampNeg (sy_i F 51)) := hd_up (hs 2 _ rfl) t84 b51 t83
  have t87 : sy_da F' (.inr (.inl 87)) = .inl (jm_upd (jm_upd (jm_upd (sy_ai F 76) (sy_i F 82).toNatClampNeg (sy_i F 50)) ((sy_i F 82) + ((1 : Int32))).toNatClampNeg (sy_i F 51)) ((sy_i F 82) + ((2 : Int32))).toNatClampNeg (sy_i F 52)) := hd_up (hs 4 _ rfl) t86 b52 t85
  have t88 : sy_dv F' (.inr (.inl 88)) = .int ((sy_i F 82) + ((3 : Int32))) := hd_o (hs 5 _ rfl) b82 rfl rfl
  have hB' : iv_in F' iv_B0 := iv_in_eq hB (fun j hj => hF j (Nat.lt_of_lt_of_le hj (by decide +kernel)))
  refine ⟨List.forall_mem_cons.mpr ⟨hd_p3 b82 rfl (by have hc : ((0) : Int32).toInt = 0 := (by decide); omega), List.forall_mem_cons.mpr ⟨hd_p4 b82 rfl (by have hc : ((2340) : Int32).toInt = 2340 := (by decide); omega), List.forall_mem_cons.mpr ⟨hd_pb b82 (by first | exact h2 | exact h2), List.forall_mem_cons.mpr ⟨hd_pb t84 (by first | exact h3 | exact h3), List.forall_mem_cons.mpr ⟨hd_pb t86 (by first | exact h4 | exact h4), fun _ h => absurd h List.not_mem_nil⟩⟩⟩⟩⟩, ?_⟩
  refine k _ ?_ ?_ ?_ ?_ ?_
  · exact fun j hj hn => (hd_keep hB' (Nat.lt_of_lt_of_le hj (by decide +kernel)) (by simp; omega)).trans (hF j (Nat.lt_of_lt_of_le hj (by decide)))
  · exact hd_ga (a := .inr (.inl 87)) (by decide +kernel) t87
  · exact hd_gi (x := .inr (.inl 82)) (by decide +kernel) b82
  · exact hd_gi (x := .inr (.inl 88)) (by decide +kernel) t88
  · exact hd_gi (x := .inl (.int 0)) (by decide +kernel) rfl
theorem j2svt_0 {Ls : Nat} {xs : Nat → Int32} {d : Nat} {Q : Option Value → jm_h → Prop} (hd : 1 ≤ d) (F : Nat → sy_d) (X1 X2 : List jm_c) (hB : iv_in F iv_B0)
    (a82 : 0 ≤ (sy_i F 82).toInt ∧ (sy_i F 82).toInt ≤ 2340)
    (k0 : 0 ≤ (sy_i F 82).toInt → (sy_i F 82).toInt ≤ 2340 → ∀ F1 : Nat → sy_d, iv_in F1 iv_B0 → (∀ j, j < 82 → j ∉ ([76] : List Nat) → F1 j = F j) → sy_ai F1 76 = jm_upd (jm_upd (jm_upd (sy_ai F 76) ((sy_i F 82).toInt).toNat (sy_i F 50)) (((sy_i F 82).toInt + 1)).toNat (sy_i F 51)) (((sy_i F 82).toInt + 2)).toNat (sy_i F 52) → (sy_i F1 82).toInt = (sy_i F 82).toInt → sy_i F1 82 = sy_i F 82 → (sy_i F1 83).toInt = ((sy_i F 82).toInt + 3) → sy_i F1 83 = (sy_i F 82) + ((3 : Int32)) → (sy_i F1 84).toInt = 0 → sy_i F1 84 = (0 : Int32) → hd_W Ls xs d jm_M9 Q (46, sy_dL F1 [some (.inl (.ref 46)), some (.inl (.ref 67)), some (.inr (.inl 82)), some (.inr (.inl 83)), some (.inr (.inl 84))], sy_dS F1 [], sy_dh F1 X1 X2 (iv_H 2), 0, 0)) :
    hd_W Ls xs d jm_M9 Q (0, sy_dL F [some (.inl (.ref 46)), some (.inl (.ref 67)), some (.inr (.inl 82)), none, none], sy_dS F [], sy_dh F X1 X2 (iv_H 2), 0, 0) := by
  by_cases g0 : (sy_i F 82).toInt < 0
  · exfalso
    omega
  replace g0 : 0 ≤ (sy_i F 82).toInt := by omega
  by_cases g1 : (sy_i F 82).toInt ≤ 2340
  · have n84 : nzI ((sy_i F 82) + ((1 : Int32))) (((sy_i F 82).toInt + 1)) := nz_add (rfl : (sy_i F 82).toInt = (sy_i F 82).toInt) (by decide : ((1 : Int32)).toInt = 1) (by omega) (by omega)
    have n86 : nzI ((sy_i F 82) + ((2 : Int32))) (((sy_i F 82).toInt + 2)) := nz_add (rfl : (sy_i F 82).toInt = (sy_i F 82).toInt) (by decide : ((2 : Int32)).toInt = 2) (by omega) (by omega)
    have w87 : jm_upd (jm_upd (jm_upd (sy_ai F 76) (sy_i F 82).toNatClampNeg (sy_i F 50)) ((sy_i F 82) + ((1 : Int32))).toNatClampNeg (sy_i F 51)) ((sy_i F 82) + ((2 : Int32))).toNatClampNeg (sy_i F 52) = jm_upd (jm_upd (jm_upd (sy_ai F 76) ((sy_i F 82).toInt).toNat (sy_i F 50)) (((sy_i F 82).toInt + 1)).toNat (sy_i F 51)) (((sy_i F 82).toInt + 2)).toNat (sy_i F 52) := by simp only [nz_c, (nzE n84), (nzE n86), (by decide : ((1 : Int32)).toInt = 1), (by decide : ((2 : Int32)).toInt = 2)]
    have n88 : nzI ((sy_i F 82) + ((3 : Int32))) (((sy_i F 82).toInt + 3)) := nz_add (rfl : (sy_i F 82).toInt = (sy_i F 82).toInt) (by decide : ((3 : Int32)).toInt = 3) (by omega) (by omega)
    exact j2svt_0_p0 hd F X1 X2 hB (by first | exact g0 | (simp only [nz_c]; exact g0)) (by first | exact g1 | (simp only [nz_c]; exact g1)) (by first | exact ⟨by omega, by omega⟩ | (simp only [nz_c]; exact ⟨by omega, by omega⟩)) (by first | (simp only [nz_c, (nzE n84)]; exact ⟨by omega, by omega⟩) | exact ⟨by omega, by omega⟩ | (rw [(nzE n84)]; exact ⟨by omega, by omega⟩)) (by first | (simp only [nz_c, (nzE n86)]; exact ⟨by omega, by omega⟩) | exact ⟨by omega, by omega⟩ | (rw [(nzE n86)]; exact ⟨by omega, by omega⟩)) (fun F1 g e76 e82 e83 e84 => k0 g0 g1 F1 (nz_in0 hB [76] (fun j hj hn => g j hj (by simp only [List.mem_cons, List.not_mem_nil, or_false, not_or] at hn; omega)) (List.forall_mem_cons.mpr ⟨fun t ht => (Option.some.inj ht) ▸ (nz_hz2 e76), List.forall_mem_nil _⟩)) (fun j hj hn => g j hj (by simp only [List.mem_cons, List.not_mem_nil, or_false, not_or] at hn; omega)) ((zz_ai e76).trans w87) ((congrArg Int32.toInt (zz_i e82)).trans (rfl : (sy_i F 82).toInt = (sy_i F 82).toInt)) ((zz_i e82).trans (rfl : sy_i F 82 = sy_i F 82)) ((congrArg Int32.toInt (zz_i e83)).trans (nzE n88)) ((zz_i e83).trans (rfl : (sy_i F 82) + ((3 : Int32)) = (sy_i F 82) + ((3 : Int32)))) ((congrArg Int32.toInt (zz_i e84)).trans (by decide : ((0 : Int32)).toInt = 0)) ((zz_i e84).trans (rfl : (0 : Int32) = (0 : Int32))))
  replace g1 : 2340 < (sy_i F 82).toInt := by omega
  exfalso
  omega
theorem j2svt_46_p0 {Ls : Nat} {xs : Nat → Int32} {d : Nat} {Q : Option Value → jm_h → Prop} (hd : 1 ≤ d) (F : Nat → sy_d) (X1 X2 : List jm_c) (hB : iv_in F iv_B0)
    (h0 : 7 ≤ (sy_i F 84).toInt)
    (h1 : 0 ≤ (sy_i F 83).toInt ∧ (sy_i F 83).toInt < 2397)
    (h2 : 0 ≤ ((sy_i F 83) + ((4 : Int32))).toInt ∧ ((sy_i F 83) + ((4 : Int32))).toInt < 2397)
    (k : ∀ F1 : Nat → sy_d, (∀ j, j < 82 → j ≠ 76 → F1 j = F j) → F1 76 = .inr (.inl (jm_cpy (sy_ai F 61) (jm_cpy (sy_ai F 60) (sy_ai F 76) ((0 : Int32)).toNatClampNeg (sy_i F 83).toNatClampNeg ((4 : Int32)).toNatClampNeg) ((0 : Int32)).toNatClampNeg ((sy_i F 83) + ((4 : Int32))).toNatClampNeg ((4 : Int32)).toNatClampNeg)) → Q (none) (sy_dh F1 X1 X2 (iv_H 2))) :
    hd_W Ls xs d jm_M9 Q (46, sy_dL F [some (.inl (.ref 46)), some (.inl (.ref 67)), some (.inr (.inl 82)), some (.inr (.inl 83)), some (.inr (.inl 84))], sy_dS F [], sy_dh F X1 X2 (iv_H 2), 0, 0) := by
  refine hd_ret (s := 2) (nv := 85) (v := none) (uh := hd_ov (iv_id 0 iv_B0) [(76, .inr (.inr (.inl 87)))]) (f := true) (sp := [46]) (d0 := 0) (O := [true]) (T := [(42, [.inl (.int 0), .inr (.inl 83), .inl (.int 4)], [.inr (.inl 60), .inr (.inl 76)]), (0, [.inr (.inl 83), .inl (.int 4)], []), (42, [.inl (.int 0), .inr (.inl 86), .inl (.int 4)], [.inr (.inl 61), .inr (.inl 85)])]) (P := [(4, .inl (.int 7), .inr (.inl 84)), (6, .inr (.inl 83), .inl (.ref 2397)), (6, .inr (.inl 86), .inl (.ref 2397))]) jm_ok9 (by decide +kernel) (by decide +kernel) hd F X1 X2 (fun F' hF hs => ?_)
  have b84 := hd_b (F := F) (F' := F') (k := 84) (hF 84 (by decide))
  have b83 := hd_b (F := F) (F' := F') (k := 83) (hF 83 (by decide))
  have t86 : sy_dv F' (.inr (.inl 86)) = .int ((sy_i F 83) + ((4 : Int32))) := hd_o (hs 1 _ rfl) b83 rfl rfl
  have a61 := hd_ba (F := F) (F' := F') (k := 61) (hF 61 (by decide))
  have a60 := hd_ba (F := F) (F' := F') (k := 60) (hF 60 (by decide))
  have a76 := hd_ba (F := F) (F' := F') (k := 76) (hF 76 (by decide))
  have t85 : sy_da F' (.inr (.inl 85)) = .inl (jm_cpy (sy_ai F 60) (sy_ai F 76) ((0 : Int32)).toNatClampNeg (sy_i F 83).toNatClampNeg ((4 : Int32)).toNatClampNeg) := hd_cp (hs 0 _ rfl) rfl b83 rfl a60 a76
  have t87 : sy_da F' (.inr (.inl 87)) = .inl (jm_cpy (sy_ai F 61) (jm_cpy (sy_ai F 60) (sy_ai F 76) ((0 : Int32)).toNatClampNeg (sy_i F 83).toNatClampNeg ((4 : Int32)).toNatClampNeg) ((0 : Int32)).toNatClampNeg ((sy_i F 83) + ((4 : Int32))).toNatClampNeg ((4 : Int32)).toNatClampNeg) := hd_cp (hs 2 _ rfl) rfl t86 rfl a61 t85
  have hB' : iv_in F' iv_B0 := iv_in_eq hB (fun j hj => hF j (Nat.lt_of_lt_of_le hj (by decide +kernel)))
  refine ⟨List.forall_mem_cons.mpr ⟨hd_p4 rfl b84 (by have hc : ((7) : Int32).toInt = 7 := (by decide); omega), List.forall_mem_cons.mpr ⟨hd_pb b83 (by first | exact h1 | exact h1), List.forall_mem_cons.mpr ⟨hd_pb t86 (by first | exact h2 | exact h2), fun _ h => absurd h List.not_mem_nil⟩⟩⟩, ?_⟩
  refine k _ ?_ ?_
  · exact fun j hj hn => (hd_keep hB' (Nat.lt_of_lt_of_le hj (by decide +kernel)) (by simp; omega)).trans (hF j (Nat.lt_of_lt_of_le hj (by decide)))
  · exact hd_ga (a := .inr (.inl 87)) (by decide +kernel) t87
theorem j2svt_46_p1 {Ls : Nat} {xs : Nat → Int32} {d : Nat} {Q : Option Value → jm_h → Prop} (hd : 1 ≤ d) (F : Nat → sy_d) (X1 X2 : List jm_c) (hB : iv_in F iv_B0)
    (h0 : (sy_i F 84).toInt < 7)
    (h1 : 0 ≤ (sy_i F 84).toInt ∧ (sy_i F 84).toInt < 7)
    (h2 : 0 ≤ (sy_i F 83).toInt ∧ (sy_i F 83).toInt < 2400)
    (h3 : 0 ≤ (sy_i F 84).toInt ∧ (sy_i F 84).toInt < 7)
    (h4 : 0 ≤ ((sy_i F 83) + ((1 : Int32))).toInt ∧ ((sy_i F 83) + ((1 : Int32))).toInt < 2400)
    (h5 : 0 ≤ (sy_i F 84).toInt ∧ (sy_i F 84).toInt < 7)
    (h6 : 0 ≤ ((sy_i F 83) + ((2 : Int32))).toInt ∧ ((sy_i F 83) + ((2 : Int32))).toInt < 2400)
    (h7 : 0 ≤ (sy_i F 84).toInt ∧ (sy_i F 84).toInt < 7)
    (h8 : 0 ≤ ((sy_i F 83) + ((3 : Int32))).toInt ∧ ((sy_i F 83) + ((3 : Int32))).toInt < 2400)
    (h9 : 0 ≤ (sy_i F 84).toInt ∧ (sy_i F 84).toInt < 7)
    (h10 : 0 ≤ ((sy_i F 83) + ((4 : Int32))).toInt ∧ ((sy_i F 83) + ((4 : Int32))).toInt < 2400)
    (h11 : 0 ≤ (sy_i F 84).toInt ∧ (sy_i F 84).toInt < 7)
    (h12 : 0 ≤ ((sy_i F 83) + ((5 : Int32))).toInt ∧ ((sy_i F 83) + ((5 : Int32))).toInt < 2400)
    (h13 : 0 ≤ (sy_i F 84).toInt ∧ (sy_i F 84).toInt < 7)
    (h14 : 0 ≤ ((sy_i F 83) + ((6 : Int32))).toInt ∧ ((sy_i F 83) + ((6 : Int32))).toInt < 2400)
    (k : ∀ F1 : Nat → sy_d, (∀ j, j < 82 → j ≠ 76 → F1 j = F j) → F1 76 = .inr (.inl (jm_upd (jm_upd (jm_upd (jm_upd (jm_upd (jm_upd (jm_upd (sy_ai F 76) (sy_i F 83).toNatClampNeg ((sy_ai F 53).getD (sy_i F 84).toNatClampNeg 0)) ((sy_i F 83) + ((1 : Int32))).toNatClampNeg ((sy_ai F 54).getD (sy_i F 84).toNatClampNeg 0)) ((sy_i F 83) + ((2 : Int32))).toNatClampNeg ((sy_ai F 55).getD (sy_i F 84).toNatClampNeg 0)) ((sy_i F 83) + ((3 : Int32))).toNatClampNeg ((sy_ai F 56).getD (sy_i F 84).toNatClampNeg 0)) ((sy_i F 83) + ((4 : Int32))).toNatClampNeg ((sy_ai F 57).getD (sy_i F 84).toNatClampNeg 0)) ((sy_i F 83) + ((5 : Int32))).toNatClampNeg ((sy_ai F 58).getD (sy_i F 84).toNatClampNeg 0)) ((sy_i F 83) + ((6 : Int32))).toNatClampNeg ((sy_ai F 59).getD (sy_i F 84).toNatClampNeg 0))) → F1 82 = .inl (.int (sy_i F 82)) → F1 83 = .inl (.int ((sy_i F 83) + ((7 : Int32)))) → F1 84 = .inl (.int ((sy_i F 84) + ((1 : Int32)))) → hd_W Ls xs d jm_M9 Q (46, sy_dL F1 [some (.inl (.ref 46)), some (.inl (.ref 67)), some (.inr (.inl 82)), some (.inr (.inl 83)), some (.inr (.inl 84))], sy_dS F1 [], sy_dh F1 X1 X2 (iv_H 2), 0, 0)) :
    hd_W Ls xs d jm_M9 Q (46, sy_dL F [some (.inl (.ref 46)), some (.inl (.ref 67)), some (.inr (.inl 82)), some (.inr (.inl 83)), some (.inr (.inl 84))], sy_dS F [], sy_dh F X1 X2 (iv_H 2), 0, 0) := by
  refine hd_run (s := 2) (nv := 85) (pc := 46) (L := [some (.inl (.ref 46)), some (.inl (.ref 67)), some (.inr (.inl 82)), some (.inr (.inl 83)), some (.inr (.inl 84))]) (S := []) (uh := hd_ov (iv_id 0 iv_B0) [(76, .inr (.inr (.inl 104)))]) (ul := [.inl (.inr (.inl 82)), .inl (.inr (.inl 105)), .inl (.inr (.inl 106))]) (f := true) (sp := [46]) (d0 := 0) (O := [false]) (T := [(30, [.inr (.inl 84)], [.inr (.inl 53)]), (40, [.inr (.inl 83), .inr (.inl 85)], [.inr (.inl 76)]), (0, [.inr (.inl 83), .inl (.int 1)], []), (30, [.inr (.inl 84)], [.inr (.inl 54)]), (40, [.inr (.inl 87), .inr (.inl 88)], [.inr (.inl 86)]), (0, [.inr (.inl 83), .inl (.int 2)], []), (30, [.inr (.inl 84)], [.inr (.inl 55)]), (40, [.inr (.inl 90), .inr (.inl 91)], [.inr (.inl 89)]), (0, [.inr (.inl 83), .inl (.int 3)], []), (30, [.inr (.inl 84)], [.inr (.inl 56)]), (40, [.inr (.inl 93), .inr (.inl 94)], [.inr (.inl 92)]), (0, [.inr (.inl 83), .inl (.int 4)], []), (30, [.inr (.inl 84)], [.inr (.inl 57)]), (40, [.inr (.inl 96), .inr (.inl 97)], [.inr (.inl 95)]), (0, [.inr (.inl 83), .inl (.int 5)], []), (30, [.inr (.inl 84)], [.inr (.inl 58)]), (40, [.inr (.inl 99), .inr (.inl 100)], [.inr (.inl 98)]), (0, [.inr (.inl 83), .inl (.int 6)], []), (30, [.inr (.inl 84)], [.inr (.inl 59)]), (40, [.inr (.inl 102), .inr (.inl 103)], [.inr (.inl 101)]), (0, [.inr (.inl 83), .inl (.int 7)], []), (0, [.inr (.inl 84), .inl (.int 1)], [])]) (P := [(5, .inl (.int 7), .inr (.inl 84)), (6, .inr (.inl 84), .inl (.ref 7)), (6, .inr (.inl 83), .inl (.ref 2400)), (6, .inr (.inl 84), .inl (.ref 7)), (6, .inr (.inl 87), .inl (.ref 2400)), (6, .inr (.inl 84), .inl (.ref 7)), (6, .inr (.inl 90), .inl (.ref 2400)), (6, .inr (.inl 84), .inl (.ref 7)), (6, .inr (.inl 93), .inl (.ref 2400)), (6, .inr (.inl 84), .inl (.ref 7)), (6, .inr (.inl 96), .inl (.ref 2400)), (6, .inr (.inl 84), .inl (.ref 7)), (6, .inr (.inl 99), .inl (.ref 2400)), (6, .inr (.inl 84), .inl (.ref 7)), (6, .inr (.inl 102), .inl (.ref 2400))]) jm_ok9 (by decide +kernel) (by decide +kernel) hd F X1 X2 (fun F' hF hs => ?_)
  have b84 := hd_b (F := F) (F' := F') (k := 84) (hF 84 (by decide))
  have b83 := hd_b (F := F) (F' := F') (k := 83) (hF 83 (by decide))
  have t87 : sy_dv F' (.inr (.inl 87)) = .int ((sy_i F 83) + ((1 : Int32))) := hd_o (hs 2 _ rfl) b83 rfl rfl
  have t90 : sy_dv F' (.inr (.inl 90)) = .int ((sy_i F 83) + ((2 : Int32))) := hd_o (hs 5 _ rfl) b83 rfl rfl
  have t93 : sy_dv F' (.inr (.inl 93)) = .int ((sy_i F 83) + ((3 : Int32))) := hd_o (hs 8 _ rfl) b83 rfl rfl
  have t96 : sy_dv F' (.inr (.inl 96)) = .int ((sy_i F 83) + ((4 : Int32))) := hd_o (hs 11 _ rfl) b83 rfl rfl
  have t99 : sy_dv F' (.inr (.inl 99)) = .int ((sy_i F 83) + ((5 : Int32))) := hd_o (hs 14 _ rfl) b83 rfl rfl
  have t102 : sy_dv F' (.inr (.inl 102)) = .int ((sy_i F 83) + ((6 : Int32))) := hd_o (hs 17 _ rfl) b83 rfl rfl
  have a59 := hd_ba (F := F) (F' := F') (k := 59) (hF 59 (by decide))
  have t103 : sy_dv F' (.inr (.inl 103)) = .int ((sy_ai F 59).getD (sy_i F 84).toNatClampNeg 0) := hd_rd (hs 18 _ rfl) b84 a59
  have a58 := hd_ba (F := F) (F' := F') (k := 58) (hF 58 (by decide))
  have t100 : sy_dv F' (.inr (.inl 100)) = .int ((sy_ai F 58).getD (sy_i F 84).toNatClampNeg 0) := hd_rd (hs 15 _ rfl) b84 a58
  have a57 := hd_ba (F := F) (F' := F') (k := 57) (hF 57 (by decide))
  have t97 : sy_dv F' (.inr (.inl 97)) = .int ((sy_ai F 57).getD (sy_i F 84).toNatClampNeg 0) := hd_rd (hs 12 _ rfl) b84 a57
  have a56 := hd_ba (F := F) (F' := F') (k := 56) (hF 56 (by decide))
  have t94 : sy_dv F' (.inr (.inl 94)) = .int ((sy_ai F 56).getD (sy_i F 84).toNatClampNeg 0) := hd_rd (hs 9 _ rfl) b84 a56
  have a55 := hd_ba (F := F) (F' := F') (k := 55) (hF 55 (by decide))
  have t91 : sy_dv F' (.inr (.inl 91)) = .int ((sy_ai F 55).getD (sy_i F 84).toNatClampNeg 0) := hd_rd (hs 6 _ rfl) b84 a55
  have a54 := hd_ba (F := F) (F' := F') (k := 54) (hF 54 (by decide))
  have t88 : sy_dv F' (.inr (.inl 88)) = .int ((sy_ai F 54).getD (sy_i F 84).toNatClampNeg 0) := hd_rd (hs 3 _ rfl) b84 a54
  have a53 := hd_ba (F := F) (F' := F') (k := 53) (hF 53 (by decide))
  have t85 : sy_dv F' (.inr (.inl 85)) = .int ((sy_ai F 53).getD (sy_i F 84).toNatClampNeg 0) := hd_rd (hs 0 _ rfl) b84 a53
  have a76 := hd_ba (F := F) (F' := F') (k := 76) (hF 76 (by decide))
  have t86 : sy_da F' (.inr (.inl 86)) = .inl (jm_upd (sy_ai F 76) (sy_i F 83).toNatClampNeg ((sy_ai F 53).getD (sy_i F 84).toNatClampNeg 0)) := hd_up (hs 1 _ rfl) b83 t85 a76
  have t89 : sy_da F' (.inr (.inl 89)) = .inl (jm_upd (jm_upd (sy_ai F 76) (sy_i F 83).toNatClampNeg ((sy_ai F 53).getD (sy_i F 84).toNatClampNeg 0)) ((sy_i F 83) + ((1 : Int32))).toNatClampNeg ((sy_ai F 54).getD (sy_i F 84).toNatClampNeg 0)) := hd_up (hs 4 _ rfl) t87 t88 t86
  have t92 : sy_da F' (.inr (.inl 92)) = .inl (jm_upd (jm_upd (jm_upd (sy_ai F 76) (sy_i F 83).toNatClampNeg ((sy_ai F 53).getD (sy_i F 84).toNatClampNeg 0)) ((sy_i F 83) + ((1 : Int32))).toNatClampNeg ((sy_ai F 54).getD (sy_i F 84).toNatClampNeg 0)) ((sy_i F 83) + ((2 : Int32))).toNatClampNeg ((sy_ai F 55).getD (sy_i F 84).toNatClampNeg 0)) := hd_up (hs 7 _ rfl) t90 t91 t89
  have t95 : sy_da F' (.inr (.inl 95)) = .inl (jm_upd (jm_upd (jm_upd (jm_upd (sy_ai F 76) (sy_i F 83).toNatClampNeg ((sy_ai F 53).getD (sy_i F 84).toNatClampNeg 0)) ((sy_i F 83) + ((1 : Int32))).toNatClampNeg ((sy_ai F 54).getD (sy_i F 84).toNatClampNeg 0)) ((sy_i F 83) + ((2 : Int32))).toNatClampNeg ((sy_ai F 55).getD (sy_i F 84).toNatClampNeg 0)) ((sy_i F 83) + ((3 : Int32))).toNatClampNeg ((sy_ai F 56).getD (sy_i F 84).toNatClampNeg 0)) := hd_up (hs 10 _ rfl) t93 t94 t92
  have t98 : sy_da F' (.inr (.inl 98)) = .inl (jm_upd (jm_upd (jm_upd (jm_upd (jm_upd (sy_ai F 76) (sy_i F 83).toNatClampNeg ((sy_ai F 53).getD (sy_i F 84).toNatClampNeg 0)) ((sy_i F 83) + ((1 : Int32))).toNatClampNeg ((sy_ai F 54).getD (sy_i F 84).toNatClampNeg 0)) ((sy_i F 83) + ((2 : Int32))).toNatClampNeg ((sy_ai F 55).getD (sy_i F 84).toNatClampNeg 0)) ((sy_i F 83) + ((3 : Int32))).toNatClampNeg ((sy_ai F 56).getD (sy_i F 84).toNatClampNeg 0)) ((sy_i F 83) + ((4 : Int32))).toNatClampNeg ((sy_ai F 57).getD (sy_i F 84).toNatClampNeg 0)) := hd_up (hs 13 _ rfl) t96 t97 t95
  have t101 : sy_da F' (.inr (.inl 101)) = .inl (jm_upd (jm_upd (jm_upd (jm_upd (jm_upd (jm_upd (sy_ai F 76) (sy_i F 83).toNatClampNeg ((sy_ai F 53).getD (sy_i F 84).toNatClampNeg 0)) ((sy_i F 83) + ((1 : Int32))).toNatClampNeg ((sy_ai F 54).getD (sy_i F 84).toNatClampNeg 0)) ((sy_i F 83) + ((2 : Int32))).toNatClampNeg ((sy_ai F 55).getD (sy_i F 84).toNatClampNeg 0)) ((sy_i F 83) + ((3 : Int32))).toNatClampNeg ((sy_ai F 56).getD (sy_i F 84).toNatClampNeg 0)) ((sy_i F 83) + ((4 : Int32))).toNatClampNeg ((sy_ai F 57).getD (sy_i F 84).toNatClampNeg 0)) ((sy_i F 83) + ((5 : Int32))).toNatClampNeg ((sy_ai F 58).getD (sy_i F 84).toNatClampNeg 0)) := hd_up (hs 16 _ rfl) t99 t100 t98
  have t104 : sy_da F' (.inr (.inl 104)) = .inl (jm_upd (jm_upd (jm_upd (jm_upd (jm_upd (jm_upd (jm_upd (sy_ai F 76) (sy_i F 83).toNatClampNeg ((sy_ai F 53).getD (sy_i F 84).toNatClampNeg 0)) ((sy_i F 83) + ((1 : Int32))).toNatClampNeg ((sy_ai F 54).getD (sy_i F 84).toNatClampNeg 0)) ((sy_i F 83) + ((2 : Int32))).toNatClampNeg ((sy_ai F 55).getD (sy_i F 84).toNatClampNeg 0)) ((sy_i F 83) + ((3 : Int32))).toNatClampNeg ((sy_ai F 56).getD (sy_i F 84).toNatClampNeg 0)) ((sy_i F 83) + ((4 : Int32))).toNatClampNeg ((sy_ai F 57).getD (sy_i F 84).toNatClampNeg 0)) ((sy_i F 83) + ((5 : Int32))).toNatClampNeg ((sy_ai F 58).getD (sy_i F 84).toNatClampNeg 0)) ((sy_i F 83) + ((6 : Int32))).toNatClampNeg ((sy_ai F 59).getD (sy_i F 84).toNatClampNeg 0)) := hd_up (hs 19 _ rfl) t102 t103 t101
  have b82 := hd_b (F := F) (F' := F') (k := 82) (hF 82 (by decide))
  have t105 : sy_dv F' (.inr (.inl 105)) = .int ((sy_i F 83) + ((7 : Int32))) := hd_o (hs 20 _ rfl) b83 rfl rfl
  have t106 : sy_dv F' (.inr (.inl 106)) = .int ((sy_i F 84) + ((1 : Int32))) := hd_o (hs 21 _ rfl) b84 rfl rfl
  have hB' : iv_in F' iv_B0 := iv_in_eq hB (fun j hj => hF j (Nat.lt_of_lt_of_le hj (by decide +kernel)))
  refine ⟨List.forall_mem_cons.mpr ⟨hd_p5 rfl b84 (by have hc : ((7) : Int32).toInt = 7 := (by decide); omega), List.forall_mem_cons.mpr ⟨hd_pb b84 (by first | exact h1 | exact h1), List.forall_mem_cons.mpr ⟨hd_pb b83 (by first | exact h2 | exact h2), List.forall_mem_cons.mpr ⟨hd_pb b84 (by first | exact h3 | exact h3), List.forall_mem_cons.mpr ⟨hd_pb t87 (by first | exact h4 | exact h4), List.forall_mem_cons.mpr ⟨hd_pb b84 (by first | exact h5 | exact h5), List.forall_mem_cons.mpr ⟨hd_pb t90 (by first | exact h6 | exact h6), List.forall_mem_cons.mpr ⟨hd_pb b84 (by first | exact h7 | exact h7), List.forall_mem_cons.mpr ⟨hd_pb t93 (by first | exact h8 | exact h8), List.forall_mem_cons.mpr ⟨hd_pb b84 (by first | exact h9 | exact h9), List.forall_mem_cons.mpr ⟨hd_pb t96 (by first | exact h10 | exact h10), List.forall_mem_cons.mpr ⟨hd_pb b84 (by first | exact h11 | exact h11), List.forall_mem_cons.mpr ⟨hd_pb t99 (by first | exact h12 | exact h12), List.forall_mem_cons.mpr ⟨hd_pb b84 (by first | exact h13 | exact h13), List.forall_mem_cons.mpr ⟨hd_pb t102 (by first | exact h14 | exact h14), fun _ h => absurd h List.not_mem_nil⟩⟩⟩⟩⟩⟩⟩⟩⟩⟩⟩⟩⟩⟩⟩, ?_⟩
  refine k _ ?_ ?_ ?_ ?_ ?_
  · exact fun j hj hn => (hd_keep hB' (Nat.lt_of_lt_of_le hj (by decide +kernel)) (by simp; omega)).trans (hF j (Nat.lt_of_lt_of_le hj (by decide)))
  · exact hd_ga (a := .inr (.inl 104)) (by decide +kernel) t104
  · exact hd_gi (x := .inr (.inl 82)) (by decide +kernel) b82
  · exact hd_gi (x := .inr (.inl 105)) (by decide +kernel) t105
  · exact hd_gi (x := .inr (.inl 106)) (by decide +kernel) t106
theorem j2svt_46 {Ls : Nat} {xs : Nat → Int32} {d : Nat} {Q : Option Value → jm_h → Prop} (hd : 1 ≤ d) (F : Nat → sy_d) (X1 X2 : List jm_c) (hB : iv_in F iv_B0)
    (a82 : 0 ≤ (sy_i F 82).toInt ∧ (sy_i F 82).toInt ≤ 2340)
    (a83 : 3 ≤ (sy_i F 83).toInt ∧ (sy_i F 83).toInt ≤ 2392)
    (a84 : 0 ≤ (sy_i F 84).toInt ∧ (sy_i F 84).toInt ≤ 7)
    (k0 : 7 ≤ (sy_i F 84).toInt → ∀ F1 : Nat → sy_d, iv_in F1 iv_B0 → (∀ j, j < 82 → j ∉ ([76] : List Nat) → F1 j = F j) → sy_ai F1 76 = jm_cpy (sy_ai F 61) (jm_cpy (sy_ai F 60) (sy_ai F 76) (0 : Int).toNat ((sy_i F 83).toInt).toNat (4 : Int).toNat) (0 : Int).toNat (((sy_i F 83).toInt + 4)).toNat (4 : Int).toNat → Q (none) (sy_dh F1 X1 X2 (iv_H 2)))
    (k1 : (sy_i F 84).toInt < 7 → ∀ F1 : Nat → sy_d, iv_in F1 iv_B0 → (∀ j, j < 82 → j ∉ ([76] : List Nat) → F1 j = F j) → sy_ai F1 76 = jm_upd (jm_upd (jm_upd (jm_upd (jm_upd (jm_upd (jm_upd (sy_ai F 76) ((sy_i F 83).toInt).toNat ((sy_ai F 53).getD ((sy_i F 84).toInt).toNat 0)) (((sy_i F 83).toInt + 1)).toNat ((sy_ai F 54).getD ((sy_i F 84).toInt).toNat 0)) (((sy_i F 83).toInt + 2)).toNat ((sy_ai F 55).getD ((sy_i F 84).toInt).toNat 0)) (((sy_i F 83).toInt + 3)).toNat ((sy_ai F 56).getD ((sy_i F 84).toInt).toNat 0)) (((sy_i F 83).toInt + 4)).toNat ((sy_ai F 57).getD ((sy_i F 84).toInt).toNat 0)) (((sy_i F 83).toInt + 5)).toNat ((sy_ai F 58).getD ((sy_i F 84).toInt).toNat 0)) (((sy_i F 83).toInt + 6)).toNat ((sy_ai F 59).getD ((sy_i F 84).toInt).toNat 0) → (sy_i F1 82).toInt = (sy_i F 82).toInt → sy_i F1 82 = sy_i F 82 → (sy_i F1 83).toInt = ((sy_i F 83).toInt + 7) → sy_i F1 83 = (sy_i F 83) + ((7 : Int32)) → (sy_i F1 84).toInt = ((sy_i F 84).toInt + 1) → sy_i F1 84 = (sy_i F 84) + ((1 : Int32)) → hd_W Ls xs d jm_M9 Q (46, sy_dL F1 [some (.inl (.ref 46)), some (.inl (.ref 67)), some (.inr (.inl 82)), some (.inr (.inl 83)), some (.inr (.inl 84))], sy_dS F1 [], sy_dh F1 X1 X2 (iv_H 2), 0, 0)) :
    hd_W Ls xs d jm_M9 Q (46, sy_dL F [some (.inl (.ref 46)), some (.inl (.ref 67)), some (.inr (.inl 82)), some (.inr (.inl 83)), some (.inr (.inl 84))], sy_dS F [], sy_dh F X1 X2 (iv_H 2), 0, 0) := by
  by_cases g0 : 7 ≤ (sy_i F 84).toInt
  · have n86 : nzI ((sy_i F 83) + ((4 : Int32))) (((sy_i F 83).toInt + 4)) := nz_add (rfl : (sy_i F 83).toInt = (sy_i F 83).toInt) (by decide : ((4 : Int32)).toInt = 4) (by omega) (by omega)
    have w87 : jm_cpy (sy_ai F 61) (jm_cpy (sy_ai F 60) (sy_ai F 76) ((0 : Int32)).toNatClampNeg (sy_i F 83).toNatClampNeg ((4 : Int32)).toNatClampNeg) ((0 : Int32)).toNatClampNeg ((sy_i F 83) + ((4 : Int32))).toNatClampNeg ((4 : Int32)).toNatClampNeg = jm_cpy (sy_ai F 61) (jm_cpy (sy_ai F 60) (sy_ai F 76) (0 : Int).toNat ((sy_i F 83).toInt).toNat (4 : Int).toNat) (0 : Int).toNat (((sy_i F 83).toInt + 4)).toNat (4 : Int).toNat := by simp only [nz_c, (nzE n86), (by decide : ((0 : Int32)).toInt = 0), (by decide : ((4 : Int32)).toInt = 4)]
    exact j2svt_46_p0 hd F X1 X2 hB (by first | exact g0 | (simp only [nz_c]; exact g0)) (by first | exact ⟨by omega, by omega⟩ | (simp only [nz_c]; exact ⟨by omega, by omega⟩)) (by first | (simp only [nz_c, (nzE n86)]; exact ⟨by omega, by omega⟩) | exact ⟨by omega, by omega⟩ | (rw [(nzE n86)]; exact ⟨by omega, by omega⟩)) (fun F1 g e76 => k0 g0 F1 (nz_in0 hB [76] (fun j hj hn => g j hj (by simp only [List.mem_cons, List.not_mem_nil, or_false, not_or] at hn; omega)) (List.forall_mem_cons.mpr ⟨fun t ht => (Option.some.inj ht) ▸ (nz_hz2 e76), List.forall_mem_nil _⟩)) (fun j hj hn => g j hj (by simp only [List.mem_cons, List.not_mem_nil, or_false, not_or] at hn; omega)) ((zz_ai e76).trans w87))
  replace g0 : (sy_i F 84).toInt < 7 := by omega
  have n87 : nzI ((sy_i F 83) + ((1 : Int32))) (((sy_i F 83).toInt + 1)) := nz_add (rfl : (sy_i F 83).toInt = (sy_i F 83).toInt) (by decide : ((1 : Int32)).toInt = 1) (by omega) (by omega)
  have n90 : nzI ((sy_i F 83) + ((2 : Int32))) (((sy_i F 83).toInt + 2)) := nz_add (rfl : (sy_i F 83).toInt = (sy_i F 83).toInt) (by decide : ((2 : Int32)).toInt = 2) (by omega) (by omega)
  have n93 : nzI ((sy_i F 83) + ((3 : Int32))) (((sy_i F 83).toInt + 3)) := nz_add (rfl : (sy_i F 83).toInt = (sy_i F 83).toInt) (by decide : ((3 : Int32)).toInt = 3) (by omega) (by omega)
  have n96 : nzI ((sy_i F 83) + ((4 : Int32))) (((sy_i F 83).toInt + 4)) := nz_add (rfl : (sy_i F 83).toInt = (sy_i F 83).toInt) (by decide : ((4 : Int32)).toInt = 4) (by omega) (by omega)
  have n99 : nzI ((sy_i F 83) + ((5 : Int32))) (((sy_i F 83).toInt + 5)) := nz_add (rfl : (sy_i F 83).toInt = (sy_i F 83).toInt) (by decide : ((5 : Int32)).toInt = 5) (by omega) (by omega)
  have n102 : nzI ((sy_i F 83) + ((6 : Int32))) (((sy_i F 83).toInt + 6)) := nz_add (rfl : (sy_i F 83).toInt = (sy_i F 83).toInt) (by decide : ((6 : Int32)).toInt = 6) (by omega) (by omega)
  have w104 : jm_upd (jm_upd (jm_upd (jm_upd (jm_upd (jm_upd (jm_upd (sy_ai F 76) (sy_i F 83).toNatClampNeg ((sy_ai F 53).getD (sy_i F 84).toNatClampNeg 0)) ((sy_i F 83) + ((1 : Int32))).toNatClampNeg ((sy_ai F 54).getD (sy_i F 84).toNatClampNeg 0)) ((sy_i F 83) + ((2 : Int32))).toNatClampNeg ((sy_ai F 55).getD (sy_i F 84).toNatClampNeg 0)) ((sy_i F 83) + ((3 : Int32))).toNatClampNeg ((sy_ai F 56).getD (sy_i F 84).toNatClampNeg 0)) ((sy_i F 83) + ((4 : Int32))).toNatClampNeg ((sy_ai F 57).getD (sy_i F 84).toNatClampNeg 0)) ((sy_i F 83) + ((5 : Int32))).toNatClampNeg ((sy_ai F 58).getD (sy_i F 84).toNatClampNeg 0)) ((sy_i F 83) + ((6 : Int32))).toNatClampNeg ((sy_ai F 59).getD (sy_i F 84).toNatClampNeg 0) = jm_upd (jm_upd (jm_upd (jm_upd (jm_upd (jm_upd (jm_upd (sy_ai F 76) ((sy_i F 83).toInt).toNat ((sy_ai F 53).getD ((sy_i F 84).toInt).toNat 0)) (((sy_i F 83).toInt + 1)).toNat ((sy_ai F 54).getD ((sy_i F 84).toInt).toNat 0)) (((sy_i F 83).toInt + 2)).toNat ((sy_ai F 55).getD ((sy_i F 84).toInt).toNat 0)) (((sy_i F 83).toInt + 3)).toNat ((sy_ai F 56).getD ((sy_i F 84).toInt).toNat 0)) (((sy_i F 83).toInt + 4)).toNat ((sy_ai F 57).getD ((sy_i F 84).toInt).toNat 0)) (((sy_i F 83).toInt + 5)).toNat ((sy_ai F 58).getD ((sy_i F 84).toInt).toNat 0)) (((sy_i F 83).toInt + 6)).toNat ((sy_ai F 59).getD ((sy_i F 84).toInt).toNat 0) := by simp only [nz_c, (nzE n87), (nzE n90), (nzE n93), (nzE n96), (nzE n99), (nzE n102), (by decide : ((1 : Int32)).toInt = 1), (by decide : ((2 : Int32)).toInt = 2), (by decide : ((3 : Int32)).toInt = 3), (by decide : ((4 : Int32)).toInt = 4), (by decide : ((5 : Int32)).toInt = 5), (by decide : ((6 : Int32)).toInt = 6)]
  have n105 : nzI ((sy_i F 83) + ((7 : Int32))) (((sy_i F 83).toInt + 7)) := nz_add (rfl : (sy_i F 83).toInt = (sy_i F 83).toInt) (by decide : ((7 : Int32)).toInt = 7) (by omega) (by omega)
  have n106 : nzI ((sy_i F 84) + ((1 : Int32))) (((sy_i F 84).toInt + 1)) := nz_add (rfl : (sy_i F 84).toInt = (sy_i F 84).toInt) (by decide : ((1 : Int32)).toInt = 1) (by omega) (by omega)
  exact j2svt_46_p1 hd F X1 X2 hB (by first | exact g0 | (simp only [nz_c]; exact g0)) (by first | exact ⟨by omega, by omega⟩ | (simp only [nz_c]; exact ⟨by omega, by omega⟩)) (by first | exact ⟨by omega, by omega⟩ | (simp only [nz_c]; exact ⟨by omega, by omega⟩)) (by first | exact ⟨by omega, by omega⟩ | (simp only [nz_c]; exact ⟨by omega, by omega⟩)) (by first | (simp only [nz_c, (nzE n87)]; exact ⟨by omega, by omega⟩) | exact ⟨by omega, by omega⟩ | (rw [(nzE n87)]; exact ⟨by omega, by omega⟩)) (by first | exact ⟨by omega, by omega⟩ | (simp only [nz_c]; exact ⟨by omega, by omega⟩)) (by first | (simp only [nz_c, (nzE n90)]; exact ⟨by omega, by omega⟩) | exact ⟨by omega, by omega⟩ | (rw [(nzE n90)]; exact ⟨by omega, by omega⟩)) (by first | exact ⟨by omega, by omega⟩ | (simp only [nz_c]; exact ⟨by omega, by omega⟩)) (by first | (simp only [nz_c, (nzE n93)]; exact ⟨by omega, by omega⟩) | exact ⟨by omega, by omega⟩ | (rw [(nzE n93)]; exact ⟨by omega, by omega⟩)) (by first | exact ⟨by omega, by omega⟩ | (simp only [nz_c]; exact ⟨by omega, by omega⟩)) (by first | (simp only [nz_c, (nzE n96)]; exact ⟨by omega, by omega⟩) | exact ⟨by omega, by omega⟩ | (rw [(nzE n96)]; exact ⟨by omega, by omega⟩)) (by first | exact ⟨by omega, by omega⟩ | (simp only [nz_c]; exact ⟨by omega, by omega⟩)) (by first | (simp only [nz_c, (nzE n99)]; exact ⟨by omega, by omega⟩) | exact ⟨by omega, by omega⟩ | (rw [(nzE n99)]; exact ⟨by omega, by omega⟩)) (by first | exact ⟨by omega, by omega⟩ | (simp only [nz_c]; exact ⟨by omega, by omega⟩)) (by first | (simp only [nz_c, (nzE n102)]; exact ⟨by omega, by omega⟩) | exact ⟨by omega, by omega⟩ | (rw [(nzE n102)]; exact ⟨by omega, by omega⟩)) (fun F1 g e76 e82 e83 e84 => k1 g0 F1 (nz_in0 hB [76] (fun j hj hn => g j hj (by simp only [List.mem_cons, List.not_mem_nil, or_false, not_or] at hn; omega)) (List.forall_mem_cons.mpr ⟨fun t ht => (Option.some.inj ht) ▸ (nz_hz2 e76), List.forall_mem_nil _⟩)) (fun j hj hn => g j hj (by simp only [List.mem_cons, List.not_mem_nil, or_false, not_or] at hn; omega)) ((zz_ai e76).trans w104) ((congrArg Int32.toInt (zz_i e82)).trans (rfl : (sy_i F 82).toInt = (sy_i F 82).toInt)) ((zz_i e82).trans (rfl : sy_i F 82 = sy_i F 82)) ((congrArg Int32.toInt (zz_i e83)).trans (nzE n105)) ((zz_i e83).trans (rfl : (sy_i F 83) + ((7 : Int32)) = (sy_i F 83) + ((7 : Int32)))) ((congrArg Int32.toInt (zz_i e84)).trans (nzE n106)) ((zz_i e84).trans (rfl : (sy_i F 84) + ((1 : Int32)) = (sy_i F 84) + ((1 : Int32)))))
theorem j2ldt_0_p0 {Ls : Nat} {xs : Nat → Int32} {d : Nat} {Q : Option Value → jm_h → Prop} (hd : 1 ≤ d) (F : Nat → sy_d) (X1 X2 : List jm_c) (hB : iv_in F iv_B0)
    (h0 : 0 ≤ (sy_i F 82).toInt)
    (h1 : (sy_i F 82).toInt ≤ 2340)
    (h2 : 0 ≤ (sy_i F 82).toInt ∧ (sy_i F 82).toInt < 2400)
    (h3 : 0 ≤ ((sy_i F 82) + ((1 : Int32))).toInt ∧ ((sy_i F 82) + ((1 : Int32))).toInt < 2400)
    (h4 : 0 ≤ ((sy_i F 82) + ((2 : Int32))).toInt ∧ ((sy_i F 82) + ((2 : Int32))).toInt < 2400)
    (k : ∀ F1 : Nat → sy_d, (∀ j, j < 82 → j ≠ 50 ∧ j ≠ 51 ∧ j ≠ 52 → F1 j = F j) → F1 50 = .inl (.int ((sy_ai F 76).getD (sy_i F 82).toNatClampNeg 0)) → F1 51 = .inl (.int ((sy_ai F 76).getD ((sy_i F 82) + ((1 : Int32))).toNatClampNeg 0)) → F1 52 = .inl (.int ((sy_ai F 76).getD ((sy_i F 82) + ((2 : Int32))).toNatClampNeg 0)) → F1 82 = .inl (.int (sy_i F 82)) → F1 83 = .inl (.int ((sy_i F 82) + ((3 : Int32)))) → F1 84 = .inl (.int ((0 : Int32))) → hd_W Ls xs d jm_M10 Q (46, sy_dL F1 [some (.inl (.ref 46)), some (.inl (.ref 67)), some (.inr (.inl 82)), some (.inr (.inl 83)), some (.inr (.inl 84))], sy_dS F1 [], sy_dh F1 X1 X2 (iv_H 2), 0, 0)) :
    hd_W Ls xs d jm_M10 Q (0, sy_dL F [some (.inl (.ref 46)), some (.inl (.ref 67)), some (.inr (.inl 82)), none, none], sy_dS F [], sy_dh F X1 X2 (iv_H 2), 0, 0) := by
  refine hd_run (s := 2) (nv := 83) (pc := 46) (L := [some (.inl (.ref 46)), some (.inl (.ref 67)), some (.inr (.inl 82)), some (.inr (.inl 83)), some (.inr (.inl 84))]) (S := []) (uh := hd_ov (iv_id 0 iv_B0) [(50, .inl (.inr (.inl 83))), (51, .inl (.inr (.inl 85))), (52, .inl (.inr (.inl 87)))]) (ul := [.inl (.inr (.inl 82)), .inl (.inr (.inl 88)), .inl (.inl (.int 0))]) (f := true) (sp := [46]) (d0 := 0) (O := [false, true]) (T := [(30, [.inr (.inl 82)], [.inr (.inl 76)]), (0, [.inr (.inl 82), .inl (.int 1)], []), (30, [.inr (.inl 84)], [.inr (.inl 76)]), (0, [.inr (.inl 82), .inl (.int 2)], []), (30, [.inr (.inl 86)], [.inr (.inl 76)]), (0, [.inr (.inl 82), .inl (.int 3)], [])]) (P := [(3, .inr (.inl 82), .inl (.int 0)), (4, .inr (.inl 82), .inl (.int 2340)), (6, .inr (.inl 82), .inl (.ref 2400)), (6, .inr (.inl 84), .inl (.ref 2400)), (6, .inr (.inl 86), .inl (.ref 2400))]) jm_ok10 (by decide +kernel) (by decide +kernel) hd F X1 X2 (fun F' hF hs => ?_)
  have b82 := hd_b (F := F) (F' := F') (k := 82) (hF 82 (by decide))
  have t84 : sy_dv F' (.inr (.inl 84)) = .int ((sy_i F 82) + ((1 : Int32))) := hd_o (hs 1 _ rfl) b82 rfl rfl
  have t86 : sy_dv F' (.inr (.inl 86)) = .int ((sy_i F 82) + ((2 : Int32))) := hd_o (hs 3 _ rfl) b82 rfl rfl
  have a76 := hd_ba (F := F) (F' := F') (k := 76) (hF 76 (by decide))
  have t83 : sy_dv F' (.inr (.inl 83)) = .int ((sy_ai F 76).getD (sy_i F 82).toNatClampNeg 0) := hd_rd (hs 0 _ rfl) b82 a76
  have t85 : sy_dv F' (.inr (.inl 85)) = .int ((sy_ai F 76).getD ((sy_i F 82) + ((1 : Int32))).toNatClampNeg 0) := hd_rd (hs 2 _ rfl) t84 a76
  have t87 : sy_dv F' (.inr (.inl 87)) = .int ((sy_ai F 76).getD ((sy_i F 82) + ((2 : Int32))).toNatClampNeg 0) := hd_rd (hs 4 _ rfl) t86 a76
  have t88 : sy_dv F' (.inr (.inl 88)) = .int ((sy_i F 82) + ((3 : Int32))) := hd_o (hs 5 _ rfl) b82 rfl rfl
  have hB' : iv_in F' iv_B0 := iv_in_eq hB (fun j hj => hF j (Nat.lt_of_lt_of_le hj (by decide +kernel)))
  refine ⟨List.forall_mem_cons.mpr ⟨hd_p3 b82 rfl (by have hc : ((0) : Int32).toInt = 0 := (by decide); omega), List.forall_mem_cons.mpr ⟨hd_p4 b82 rfl (by have hc : ((2340) : Int32).toInt = 2340 := (by decide); omega), List.forall_mem_cons.mpr ⟨hd_pb b82 (by first | exact h2 | exact h2), List.forall_mem_cons.mpr ⟨hd_pb t84 (by first | exact h3 | exact h3), List.forall_mem_cons.mpr ⟨hd_pb t86 (by first | exact h4 | exact h4), fun _ h => absurd h List.not_mem_nil⟩⟩⟩⟩⟩, ?_⟩
  refine k _ ?_ ?_ ?_ ?_ ?_ ?_ ?_
  · exact fun j hj hn => (hd_keep hB' (Nat.lt_of_lt_of_le hj (by decide +kernel)) (by simp; omega)).trans (hF j (Nat.lt_of_lt_of_le hj (by decide)))
  · exact hd_gi (x := .inr (.inl 83)) (by decide +kernel) t83
  · exact hd_gi (x := .inr (.inl 85)) (by decide +kernel) t85
  · exact hd_gi (x := .inr (.inl 87)) (by decide +kernel) t87
  · exact hd_gi (x := .inr (.inl 82)) (by decide +kernel) b82
  · exact hd_gi (x := .inr (.inl 88)) (by decide +kernel) t88
  · exact hd_gi (x := .inl (.int 0)) (by decide +kernel) rfl
theorem j2ldt_0 {Ls : Nat} {xs : Nat → Int32} {d : Nat} {Q : Option Value → jm_h → Prop} (hd : 1 ≤ d) (F : Nat → sy_d) (X1 X2 : List jm_c) (hB : iv_in F iv_B0)
    (a82 : 0 ≤ (sy_i F 82).toInt ∧ (sy_i F 82).toInt ≤ 2340)
    (k0 : 0 ≤ (sy_i F 82).toInt → (sy_i F 82).toInt ≤ 2340 → ∀ F1 : Nat → sy_d, iv_in F1 iv_B0 → (∀ j, j < 82 → j ∉ ([50, 51, 52] : List Nat) → F1 j = F j) → (sy_i F1 50).toInt = ((sy_ai F 76).getD ((sy_i F 82).toInt).toNat 0).toInt → sy_i F1 50 = (sy_ai F 76).getD ((sy_i F 82).toInt).toNat 0 → (sy_i F1 51).toInt = ((sy_ai F 76).getD (((sy_i F 82).toInt + 1)).toNat 0).toInt → sy_i F1 51 = (sy_ai F 76).getD (((sy_i F 82).toInt + 1)).toNat 0 → (sy_i F1 52).toInt = ((sy_ai F 76).getD (((sy_i F 82).toInt + 2)).toNat 0).toInt → sy_i F1 52 = (sy_ai F 76).getD (((sy_i F 82).toInt + 2)).toNat 0 → (sy_i F1 82).toInt = (sy_i F 82).toInt → sy_i F1 82 = sy_i F 82 → (sy_i F1 83).toInt = ((sy_i F 82).toInt + 3) → sy_i F1 83 = (sy_i F 82) + ((3 : Int32)) → (sy_i F1 84).toInt = 0 → sy_i F1 84 = (0 : Int32) → hd_W Ls xs d jm_M10 Q (46, sy_dL F1 [some (.inl (.ref 46)), some (.inl (.ref 67)), some (.inr (.inl 82)), some (.inr (.inl 83)), some (.inr (.inl 84))], sy_dS F1 [], sy_dh F1 X1 X2 (iv_H 2), 0, 0)) :
    hd_W Ls xs d jm_M10 Q (0, sy_dL F [some (.inl (.ref 46)), some (.inl (.ref 67)), some (.inr (.inl 82)), none, none], sy_dS F [], sy_dh F X1 X2 (iv_H 2), 0, 0) := by
  by_cases g0 : (sy_i F 82).toInt < 0
  · exfalso
    omega
  replace g0 : 0 ≤ (sy_i F 82).toInt := by omega
  by_cases g1 : (sy_i F 82).toInt ≤ 2340
  · have n84 : nzI ((sy_i F 82) + ((1 : Int32))) (((sy_i F 82).toInt + 1)) := nz_add (rfl : (sy_i F 82).toInt = (sy_i F 82).toInt) (by decide : ((1 : Int32)).toInt = 1) (by omega) (by omega)
    have n86 : nzI ((sy_i F 82) + ((2 : Int32))) (((sy_i F 82).toInt + 2)) := nz_add (rfl : (sy_i F 82).toInt = (sy_i F 82).toInt) (by decide : ((2 : Int32)).toInt = 2) (by omega) (by omega)
    have q83 : (sy_ai F 76).getD (sy_i F 82).toNatClampNeg 0 = (sy_ai F 76).getD ((sy_i F 82).toInt).toNat 0 := by simp only [nz_c]
    have n83 : nzI ((sy_ai F 76).getD (sy_i F 82).toNatClampNeg 0) (((sy_ai F 76).getD ((sy_i F 82).toInt).toNat 0).toInt) := congrArg Int32.toInt q83
    have q85 : (sy_ai F 76).getD ((sy_i F 82) + ((1 : Int32))).toNatClampNeg 0 = (sy_ai F 76).getD (((sy_i F 82).toInt + 1)).toNat 0 := by simp only [nz_c, (nzE n84), (by decide : ((1 : Int32)).toInt = 1)]
    have n85 : nzI ((sy_ai F 76).getD ((sy_i F 82) + ((1 : Int32))).toNatClampNeg 0) (((sy_ai F 76).getD (((sy_i F 82).toInt + 1)).toNat 0).toInt) := congrArg Int32.toInt q85
    have q87 : (sy_ai F 76).getD ((sy_i F 82) + ((2 : Int32))).toNatClampNeg 0 = (sy_ai F 76).getD (((sy_i F 82).toInt + 2)).toNat 0 := by simp only [nz_c, (nzE n86), (by decide : ((2 : Int32)).toInt = 2)]
    have n87 : nzI ((sy_ai F 76).getD ((sy_i F 82) + ((2 : Int32))).toNatClampNeg 0) (((sy_ai F 76).getD (((sy_i F 82).toInt + 2)).toNat 0).toInt) := congrArg Int32.toInt q87
    have n88 : nzI ((sy_i F 82) + ((3 : Int32))) (((sy_i F 82).toInt + 3)) := nz_add (rfl : (sy_i F 82).toInt = (sy_i F 82).toInt) (by decide : ((3 : Int32)).toInt = 3) (by omega) (by omega)
    exact j2ldt_0_p0 hd F X1 X2 hB (by first | exact g0 | (simp only [nz_c]; exact g0)) (by first | exact g1 | (simp only [nz_c]; exact g1)) (by first | exact ⟨by omega, by omega⟩ | (simp only [nz_c]; exact ⟨by omega, by omega⟩)) (by first | (simp only [nz_c, (nzE n84)]; exact ⟨by omega, by omega⟩) | exact ⟨by omega, by omega⟩ | (rw [(nzE n84)]; exact ⟨by omega, by omega⟩)) (by first | (simp only [nz_c, (nzE n86)]; exact ⟨by omega, by omega⟩) | exact ⟨by omega, by omega⟩ | (rw [(nzE n86)]; exact ⟨by omega, by omega⟩)) (fun F1 g e50 e51 e52 e82 e83 e84 => k0 g0 g1 F1 (nz_in0 hB [50, 51, 52] (fun j hj hn => g j hj (by simp only [List.mem_cons, List.not_mem_nil, or_false, not_or] at hn; omega)) (List.forall_mem_cons.mpr ⟨fun t ht => (Option.some.inj ht) ▸ (nz_hz e50), List.forall_mem_cons.mpr ⟨fun t ht => (Option.some.inj ht) ▸ (nz_hz e51), List.forall_mem_cons.mpr ⟨fun t ht => (Option.some.inj ht) ▸ (nz_hz e52), List.forall_mem_nil _⟩⟩⟩)) (fun j hj hn => g j hj (by simp only [List.mem_cons, List.not_mem_nil, or_false, not_or] at hn; omega)) ((congrArg Int32.toInt (zz_i e50)).trans (nzE n83)) ((zz_i e50).trans q83) ((congrArg Int32.toInt (zz_i e51)).trans (nzE n85)) ((zz_i e51).trans q85) ((congrArg Int32.toInt (zz_i e52)).trans (nzE n87)) ((zz_i e52).trans q87) ((congrArg Int32.toInt (zz_i e82)).trans (rfl : (sy_i F 82).toInt = (sy_i F 82).toInt)) ((zz_i e82).trans (rfl : sy_i F 82 = sy_i F 82)) ((congrArg Int32.toInt (zz_i e83)).trans (nzE n88)) ((zz_i e83).trans (rfl : (sy_i F 82) + ((3 : Int32)) = (sy_i F 82) + ((3 : Int32)))) ((congrArg Int32.toInt (zz_i e84)).trans (by decide : ((0 : Int32)).toInt = 0)) ((zz_i e84).trans (rfl : (0 : Int32) = (0 : Int32))))
  replace g1 : 2340 < (sy_i F 82).toInt := by omega
  exfalso
  omega
theorem j2ldt_46_p0 {Ls : Nat} {xs : Nat → Int32} {d : Nat} {Q : Option Value → jm_h → Prop} (hd : 1 ≤ d) (F : Nat → sy_d) (X1 X2 : List jm_c) (hB : iv_in F iv_B0)
    (h0 : 7 ≤ (sy_i F 84).toInt)
    (h1 : 0 ≤ (sy_i F 83).toInt ∧ (sy_i F 83).toInt < 2397)
    (h2 : 0 ≤ ((sy_i F 83) + ((4 : Int32))).toInt ∧ ((sy_i F 83) + ((4 : Int32))).toInt < 2397)
    (k : ∀ F1 : Nat → sy_d, (∀ j, j < 82 → j ≠ 60 ∧ j ≠ 61 → F1 j = F j) → F1 60 = .inr (.inl (jm_cpy (sy_ai F 76) (sy_ai F 60) (sy_i F 83).toNatClampNeg ((0 : Int32)).toNatClampNeg ((4 : Int32)).toNatClampNeg)) → F1 61 = .inr (.inl (jm_cpy (sy_ai F 76) (sy_ai F 61) ((sy_i F 83) + ((4 : Int32))).toNatClampNeg ((0 : Int32)).toNatClampNeg ((4 : Int32)).toNatClampNeg)) → Q (none) (sy_dh F1 X1 X2 (iv_H 2))) :
    hd_W Ls xs d jm_M10 Q (46, sy_dL F [some (.inl (.ref 46)), some (.inl (.ref 67)), some (.inr (.inl 82)), some (.inr (.inl 83)), some (.inr (.inl 84))], sy_dS F [], sy_dh F X1 X2 (iv_H 2), 0, 0) := by
  refine hd_ret (s := 2) (nv := 85) (v := none) (uh := hd_ov (iv_id 0 iv_B0) [(60, .inr (.inr (.inl 85))), (61, .inr (.inr (.inl 87)))]) (f := true) (sp := [46]) (d0 := 0) (O := [true]) (T := [(42, [.inr (.inl 83), .inl (.int 0), .inl (.int 4)], [.inr (.inl 76), .inr (.inl 60)]), (0, [.inr (.inl 83), .inl (.int 4)], []), (42, [.inr (.inl 86), .inl (.int 0), .inl (.int 4)], [.inr (.inl 76), .inr (.inl 61)])]) (P := [(4, .inl (.int 7), .inr (.inl 84)), (6, .inr (.inl 83), .inl (.ref 2397)), (6, .inr (.inl 86), .inl (.ref 2397))]) jm_ok10 (by decide +kernel) (by decide +kernel) hd F X1 X2 (fun F' hF hs => ?_)
  have b84 := hd_b (F := F) (F' := F') (k := 84) (hF 84 (by decide))
  have b83 := hd_b (F := F) (F' := F') (k := 83) (hF 83 (by decide))
  have t86 : sy_dv F' (.inr (.inl 86)) = .int ((sy_i F 83) + ((4 : Int32))) := hd_o (hs 1 _ rfl) b83 rfl rfl
  have a76 := hd_ba (F := F) (F' := F') (k := 76) (hF 76 (by decide))
  have a60 := hd_ba (F := F) (F' := F') (k := 60) (hF 60 (by decide))
  have t85 : sy_da F' (.inr (.inl 85)) = .inl (jm_cpy (sy_ai F 76) (sy_ai F 60) (sy_i F 83).toNatClampNeg ((0 : Int32)).toNatClampNeg ((4 : Int32)).toNatClampNeg) := hd_cp (hs 0 _ rfl) b83 rfl rfl a76 a60
  have a61 := hd_ba (F := F) (F' := F') (k := 61) (hF 61 (by decide))
  have t87 : sy_da F' (.inr (.inl 87)) = .inl (jm_cpy (sy_ai F 76) (sy_ai F 61) ((sy_i F 83) + ((4 : Int32))).toNatClampNeg ((0 : Int32)).toNatClampNeg ((4 : Int32)).toNatClampNeg) := hd_cp (hs 2 _ rfl) t86 rfl rfl a76 a61
  have hB' : iv_in F' iv_B0 := iv_in_eq hB (fun j hj => hF j (Nat.lt_of_lt_of_le hj (by decide +kernel)))
  refine ⟨List.forall_mem_cons.mpr ⟨hd_p4 rfl b84 (by have hc : ((7) : Int32).toInt = 7 := (by decide); omega), List.forall_mem_cons.mpr ⟨hd_pb b83 (by first | exact h1 | exact h1), List.forall_mem_cons.mpr ⟨hd_pb t86 (by first | exact h2 | exact h2), fun _ h => absurd h List.not_mem_nil⟩⟩⟩, ?_⟩
  refine k _ ?_ ?_ ?_
  · exact fun j hj hn => (hd_keep hB' (Nat.lt_of_lt_of_le hj (by decide +kernel)) (by simp; omega)).trans (hF j (Nat.lt_of_lt_of_le hj (by decide)))
  · exact hd_ga (a := .inr (.inl 85)) (by decide +kernel) t85
  · exact hd_ga (a := .inr (.inl 87)) (by decide +kernel) t87
theorem j2ldt_46_p1 {Ls : Nat} {xs : Nat → Int32} {d : Nat} {Q : Option Value → jm_h → Prop} (hd : 1 ≤ d) (F : Nat → sy_d) (X1 X2 : List jm_c) (hB : iv_in F iv_B0)
    (h0 : (sy_i F 84).toInt < 7)
    (h1 : 0 ≤ (sy_i F 83).toInt ∧ (sy_i F 83).toInt < 2400)
    (h2 : 0 ≤ (sy_i F 84).toInt ∧ (sy_i F 84).toInt < 7)
    (h3 : 0 ≤ ((sy_i F 83) + ((1 : Int32))).toInt ∧ ((sy_i F 83) + ((1 : Int32))).toInt < 2400)
    (h4 : 0 ≤ (sy_i F 84).toInt ∧ (sy_i F 84).toInt < 7)
    (h5 : 0 ≤ ((sy_i F 83) + ((2 : Int32))).toInt ∧ ((sy_i F 83) + ((2 : Int32))).toInt < 2400)
    (h6 : 0 ≤ (sy_i F 84).toInt ∧ (sy_i F 84).toInt < 7)
    (h7 : 0 ≤ ((sy_i F 83) + ((3 : Int32))).toInt ∧ ((sy_i F 83) + ((3 : Int32))).toInt < 2400)
    (h8 : 0 ≤ (sy_i F 84).toInt ∧ (sy_i F 84).toInt < 7)
    (h9 : 0 ≤ ((sy_i F 83) + ((4 : Int32))).toInt ∧ ((sy_i F 83) + ((4 : Int32))).toInt < 2400)
    (h10 : 0 ≤ (sy_i F 84).toInt ∧ (sy_i F 84).toInt < 7)
    (h11 : 0 ≤ ((sy_i F 83) + ((5 : Int32))).toInt ∧ ((sy_i F 83) + ((5 : Int32))).toInt < 2400)
    (h12 : 0 ≤ (sy_i F 84).toInt ∧ (sy_i F 84).toInt < 7)
    (h13 : 0 ≤ ((sy_i F 83) + ((6 : Int32))).toInt ∧ ((sy_i F 83) + ((6 : Int32))).toInt < 2400)
    (h14 : 0 ≤ (sy_i F 84).toInt ∧ (sy_i F 84).toInt < 7)
    (k : ∀ F1 : Nat → sy_d, (∀ j, j < 82 → j ≠ 53 ∧ j ≠ 54 ∧ j ≠ 55 ∧ j ≠ 56 ∧ j ≠ 57 ∧ j ≠ 58 ∧ j ≠ 59 → F1 j = F j) → F1 53 = .inr (.inl (jm_upd (sy_ai F 53) (sy_i F 84).toNatClampNeg ((sy_ai F 76).getD (sy_i F 83).toNatClampNeg 0))) → F1 54 = .inr (.inl (jm_upd (sy_ai F 54) (sy_i F 84).toNatClampNeg ((sy_ai F 76).getD ((sy_i F 83) + ((1 : Int32))).toNatClampNeg 0))) → F1 55 = .inr (.inl (jm_upd (sy_ai F 55) (sy_i F 84).toNatClampNeg ((sy_ai F 76).getD ((sy_i F 83) + ((2 : Int32))).toNatClampNeg 0))) → F1 56 = .inr (.inl (jm_upd (sy_ai F 56) (sy_i F 84).toNatClampNeg ((sy_ai F 76).getD ((sy_i F 83) + ((3 : Int32))).toNatClampNeg 0))) → F1 57 = .inr (.inl (jm_upd (sy_ai F 57) (sy_i F 84).toNatClampNeg ((sy_ai F 76).getD ((sy_i F 83) + ((4 : Int32))).toNatClampNeg 0))) → F1 58 = .inr (.inl (jm_upd (sy_ai F 58) (sy_i F 84).toNatClampNeg ((sy_ai F 76).getD ((sy_i F 83) + ((5 : Int32))).toNatClampNeg 0))) → F1 59 = .inr (.inl (jm_upd (sy_ai F 59) (sy_i F 84).toNatClampNeg ((sy_ai F 76).getD ((sy_i F 83) + ((6 : Int32))).toNatClampNeg 0))) → F1 82 = .inl (.int (sy_i F 82)) → F1 83 = .inl (.int ((sy_i F 83) + ((7 : Int32)))) → F1 84 = .inl (.int ((sy_i F 84) + ((1 : Int32)))) → hd_W Ls xs d jm_M10 Q (46, sy_dL F1 [some (.inl (.ref 46)), some (.inl (.ref 67)), some (.inr (.inl 82)), some (.inr (.inl 83)), some (.inr (.inl 84))], sy_dS F1 [], sy_dh F1 X1 X2 (iv_H 2), 0, 0)) :
    hd_W Ls xs d jm_M10 Q (46, sy_dL F [some (.inl (.ref 46)), some (.inl (.ref 67)), some (.inr (.inl 82)), some (.inr (.inl 83)), some (.inr (.inl 84))], sy_dS F [], sy_dh F X1 X2 (iv_H 2), 0, 0) := by
  refine hd_run (s := 2) (nv := 85) (pc := 46) (L := [some (.inl (.ref 46)), some (.inl (.ref 67)), some (.inr (.inl 82)), some (.inr (.inl 83)), some (.inr (.inl 84))]) (S := []) (uh := hd_ov (iv_id 0 iv_B0) [(53, .inr (.inr (.inl 86))), (54, .inr (.inr (.inl 89))), (55, .inr (.inr (.inl 92))), (56, .inr (.inr (.inl 95))), (57, .inr (.inr (.inl 98))), (58, .inr (.inr (.inl 101))), (59, .inr (.inr (.inl 104)))]) (ul := [.inl (.inr (.inl 82)), .inl (.inr (.inl 105)), .inl (.inr (.inl 106))]) (f := true) (sp := [46]) (d0 := 0) (O := [false]) (T := [(30, [.inr (.inl 83)], [.inr (.inl 76)]), (40, [.inr (.inl 84), .inr (.inl 85)], [.inr (.inl 53)]), (0, [.inr (.inl 83), .inl (.int 1)], []), (30, [.inr (.inl 87)], [.inr (.inl 76)]), (40, [.inr (.inl 84), .inr (.inl 88)], [.inr (.inl 54)]), (0, [.inr (.inl 83), .inl (.int 2)], []), (30, [.inr (.inl 90)], [.inr (.inl 76)]), (40, [.inr (.inl 84), .inr (.inl 91)], [.inr (.inl 55)]), (0, [.inr (.inl 83), .inl (.int 3)], []), (30, [.inr (.inl 93)], [.inr (.inl 76)]), (40, [.inr (.inl 84), .inr (.inl 94)], [.inr (.inl 56)]), (0, [.inr (.inl 83), .inl (.int 4)], []), (30, [.inr (.inl 96)], [.inr (.inl 76)]), (40, [.inr (.inl 84), .inr (.inl 97)], [.inr (.inl 57)]), (0, [.inr (.inl 83), .inl (.int 5)], []), (30, [.inr (.inl 99)], [.inr (.inl 76)]), (40, [.inr (.inl 84), .inr (.inl 100)], [.inr (.inl 58)]), (0, [.inr (.inl 83), .inl (.int 6)], []), (30, [.inr (.inl 102)], [.inr (.inl 76)]), (40, [.inr (.inl 84), .inr (.inl 103)], [.inr (.inl 59)]), (0, [.inr (.inl 83), .inl (.int 7)], []), (0, [.inr (.inl 84), .inl (.int 1)], [])]) (P := [(5, .inl (.int 7), .inr (.inl 84)), (6, .inr (.inl 83), .inl (.ref 2400)), (6, .inr (.inl 84), .inl (.ref 7)), (6, .inr (.inl 87), .inl (.ref 2400)), (6, .inr (.inl 84), .inl (.ref 7)), (6, .inr (.inl 90), .inl (.ref 2400)), (6, .inr (.inl 84), .inl (.ref 7)), (6, .inr (.inl 93), .inl (.ref 2400)), (6, .inr (.inl 84), .inl (.ref 7)), (6, .inr (.inl 96), .inl (.ref 2400)), (6, .inr (.inl 84), .inl (.ref 7)), (6, .inr (.inl 99), .inl (.ref 2400)), (6, .inr (.inl 84), .inl (.ref 7)), (6, .inr (.inl 102), .inl (.ref 2400)), (6, .inr (.inl 84), .inl (.ref 7))]) jm_ok10 (by decide +kernel) (by decide +kernel) hd F X1 X2 (fun F' hF hs => ?_)
  have b84 := hd_b (F := F) (F' := F') (k := 84) (hF 84 (by decide))
  have b83 := hd_b (F := F) (F' := F') (k := 83) (hF 83 (by decide))
  have t87 : sy_dv F' (.inr (.inl 87)) = .int ((sy_i F 83) + ((1 : Int32))) := hd_o (hs 2 _ rfl) b83 rfl rfl
  have t90 : sy_dv F' (.inr (.inl 90)) = .int ((sy_i F 83) + ((2 : Int32))) := hd_o (hs 5 _ rfl) b83 rfl rfl
  have t93 : sy_dv F' (.inr (.inl 93)) = .int ((sy_i F 83) + ((3 : Int32))) := hd_o (hs 8 _ rfl) b83 rfl rfl
  have t96 : sy_dv F' (.inr (.inl 96)) = .int ((sy_i F 83) + ((4 : Int32))) := hd_o (hs 11 _ rfl) b83 rfl rfl
  have t99 : sy_dv F' (.inr (.inl 99)) = .int ((sy_i F 83) + ((5 : Int32))) := hd_o (hs 14 _ rfl) b83 rfl rfl
  have t102 : sy_dv F' (.inr (.inl 102)) = .int ((sy_i F 83) + ((6 : Int32))) := hd_o (hs 17 _ rfl) b83 rfl rfl
  have a76 := hd_ba (F := F) (F' := F') (k := 76) (hF 76 (by decide))
  have t85 : sy_dv F' (.inr (.inl 85)) = .int ((sy_ai F 76).getD (sy_i F 83).toNatClampNeg 0) := hd_rd (hs 0 _ rfl) b83 a76
  have a53 := hd_ba (F := F) (F' := F') (k := 53) (hF 53 (by decide))
  have t86 : sy_da F' (.inr (.inl 86)) = .inl (jm_upd (sy_ai F 53) (sy_i F 84).toNatClampNeg ((sy_ai F 76).getD (sy_i F 83).toNatClampNeg 0)) := hd_up (hs 1 _ rfl) b84 t85 a53
  have t88 : sy_dv F' (.inr (.inl 88)) = .int ((sy_ai F 76).getD ((sy_i F 83) + ((1 : Int32))).toNatClampNeg 0) := hd_rd (hs 3 _ rfl) t87 a76
  have a54 := hd_ba (F := F) (F' := F') (k := 54) (hF 54 (by decide))
  have t89 : sy_da F' (.inr (.inl 89)) = .inl (jm_upd (sy_ai F 54) (sy_i F 84).toNatClampNeg ((sy_ai F 76).getD ((sy_i F 83) + ((1 : Int32))).toNatClampNeg 0)) := hd_up (hs 4 _ rfl) b84 t88 a54
  have t91 : sy_dv F' (.inr (.inl 91)) = .int ((sy_ai F 76).getD ((sy_i F 83) + ((2 : Int32))).toNatClampNeg 0) := hd_rd (hs 6 _ rfl) t90 a76
  have a55 := hd_ba (F := F) (F' := F') (k := 55) (hF 55 (by decide))
  have t92 : sy_da F' (.inr (.inl 92)) = .inl (jm_upd (sy_ai F 55) (sy_i F 84).toNatClampNeg ((sy_ai F 76).getD ((sy_i F 83) + ((2 : Int32))).toNatClampNeg 0)) := hd_up (hs 7 _ rfl) b84 t91 a55
  have t94 : sy_dv F' (.inr (.inl 94)) = .int ((sy_ai F 76).getD ((sy_i F 83) + ((3 : Int32))).toNatClampNeg 0) := hd_rd (hs 9 _ rfl) t93 a76
  have a56 := hd_ba (F := F) (F' := F') (k := 56) (hF 56 (by decide))
  have t95 : sy_da F' (.inr (.inl 95)) = .inl (jm_upd (sy_ai F 56) (sy_i F 84).toNatClampNeg ((sy_ai F 76).getD ((sy_i F 83) + ((3 : Int32))).toNatClampNeg 0)) := hd_up (hs 10 _ rfl) b84 t94 a56
  have t97 : sy_dv F' (.inr (.inl 97)) = .int ((sy_ai F 76).getD ((sy_i F 83) + ((4 : Int32))).toNatClampNeg 0) := hd_rd (hs 12 _ rfl) t96 a76
  have a57 := hd_ba (F := F) (F' := F') (k := 57) (hF 57 (by decide))
  have t98 : sy_da F' (.inr (.inl 98)) = .inl (jm_upd (sy_ai F 57) (sy_i F 84).toNatClampNeg ((sy_ai F 76).getD ((sy_i F 83) + ((4 : Int32))).toNatClampNeg 0)) := hd_up (hs 13 _ rfl) b84 t97 a57
  have t100 : sy_dv F' (.inr (.inl 100)) = .int ((sy_ai F 76).getD ((sy_i F 83) + ((5 : Int32))).toNatClampNeg 0) := hd_rd (hs 15 _ rfl) t99 a76
  have a58 := hd_ba (F := F) (F' := F') (k := 58) (hF 58 (by decide))
  have t101 : sy_da F' (.inr (.inl 101)) = .inl (jm_upd (sy_ai F 58) (sy_i F 84).toNatClampNeg ((sy_ai F 76).getD ((sy_i F 83) + ((5 : Int32))).toNatClampNeg 0)) := hd_up (hs 16 _ rfl) b84 t100 a58
  have t103 : sy_dv F' (.inr (.inl 103)) = .int ((sy_ai F 76).getD ((sy_i F 83) + ((6 : Int32))).toNatClampNeg 0) := hd_rd (hs 18 _ rfl) t102 a76
  have a59 := hd_ba (F := F) (F' := F') (k := 59) (hF 59 (by decide))
  have t104 : sy_da F' (.inr (.inl 104)) = .inl (jm_upd (sy_ai F 59) (sy_i F 84).toNatClampNeg ((sy_ai F 76).getD ((sy_i F 83) + ((6 : Int32))).toNatClampNeg 0)) := hd_up (hs 19 _ rfl) b84 t103 a59
  have b82 := hd_b (F := F) (F' := F') (k := 82) (hF 82 (by decide))
  have t105 : sy_dv F' (.inr (.inl 105)) = .int ((sy_i F 83) + ((7 : Int32))) := hd_o (hs 20 _ rfl) b83 rfl rfl
  have t106 : sy_dv F' (.inr (.inl 106)) = .int ((sy_i F 84) + ((1 : Int32))) := hd_o (hs 21 _ rfl) b84 rfl rfl
  have hB' : iv_in F' iv_B0 := iv_in_eq hB (fun j hj => hF j (Nat.lt_of_lt_of_le hj (by decide +kernel)))
  refine ⟨List.forall_mem_cons.mpr ⟨hd_p5 rfl b84 (by have hc : ((7) : Int32).toInt = 7 := (by decide); omega), List.forall_mem_cons.mpr ⟨hd_pb b83 (by first | exact h1 | exact h1), List.forall_mem_cons.mpr ⟨hd_pb b84 (by first | exact h2 | exact h2), List.forall_mem_cons.mpr ⟨hd_pb t87 (by first | exact h3 | exact h3), List.forall_mem_cons.mpr ⟨hd_pb b84 (by first | exact h4 | exact h4), List.forall_mem_cons.mpr ⟨hd_pb t90 (by first | exact h5 | exact h5), List.forall_mem_cons.mpr ⟨hd_pb b84 (by first | exact h6 | exact h6), List.forall_mem_cons.mpr ⟨hd_pb t93 (by first | exact h7 | exact h7), List.forall_mem_cons.mpr ⟨hd_pb b84 (by first | exact h8 | exact h8), List.forall_mem_cons.mpr ⟨hd_pb t96 (by first | exact h9 | exact h9), List.forall_mem_cons.mpr ⟨hd_pb b84 (by first | exact h10 | exact h10), List.forall_mem_cons.mpr ⟨hd_pb t99 (by first | exact h11 | exact h11), List.forall_mem_cons.mpr ⟨hd_pb b84 (by first | exact h12 | exact h12), List.forall_mem_cons.mpr ⟨hd_pb t102 (by first | exact h13 | exact h13), List.forall_mem_cons.mpr ⟨hd_pb b84 (by first | exact h14 | exact h14), fun _ h => absurd h List.not_mem_nil⟩⟩⟩⟩⟩⟩⟩⟩⟩⟩⟩⟩⟩⟩⟩, ?_⟩
  refine k _ ?_ ?_ ?_ ?_ ?_ ?_ ?_ ?_ ?_ ?_ ?_
  · exact fun j hj hn => (hd_keep hB' (Nat.lt_of_lt_of_le hj (by decide +kernel)) (by simp; omega)).trans (hF j (Nat.lt_of_lt_of_le hj (by decide)))
  · exact hd_ga (a := .inr (.inl 86)) (by decide +kernel) t86
  · exact hd_ga (a := .inr (.inl 89)) (by decide +kernel) t89
  · exact hd_ga (a := .inr (.inl 92)) (by decide +kernel) t92
  · exact hd_ga (a := .inr (.inl 95)) (by decide +kernel) t95
  · exact hd_ga (a := .inr (.inl 98)) (by decide +kernel) t98
  · exact hd_ga (a := .inr (.inl 101)) (by decide +kernel) t101
  · exact hd_ga (a := .inr (.inl 104)) (by decide +kernel) t104
  · exact hd_gi (x := .inr (.inl 82)) (by decide +kernel) b82
  · exact hd_gi (x := .inr (.inl 105)) (by decide +kernel) t105
  · exact hd_gi (x := .inr (.inl 106)) (by decide +kernel) t106
theorem j2ldt_46 {Ls : Nat} {xs : Nat → Int32} {d : Nat} {Q : Option Value → jm_h → Prop} (hd : 1 ≤ d) (F : Nat → sy_d) (X1 X2 : List jm_c) (hB : iv_in F iv_B0)
    (a82 : 0 ≤ (sy_i F 82).toInt ∧ (sy_i F 82).toInt ≤ 2340)
    (a83 : 3 ≤ (sy_i F 83).toInt ∧ (sy_i F 83).toInt ≤ 2392)
    (a84 : 0 ≤ (sy_i F 84).toInt ∧ (sy_i F 84).toInt ≤ 7)
    (k0 : 7 ≤ (sy_i F 84).toInt → ∀ F1 : Nat → sy_d, iv_in F1 iv_B0 → (∀ j, j < 82 → j ∉ ([60, 61] : List Nat) → F1 j = F j) → sy_ai F1 60 = jm_cpy (sy_ai F 76) (sy_ai F 60) ((sy_i F 83).toInt).toNat (0 : Int).toNat (4 : Int).toNat → sy_ai F1 61 = jm_cpy (sy_ai F 76) (sy_ai F 61) (((sy_i F 83).toInt + 4)).toNat (0 : Int).toNat (4 : Int).toNat → Q (none) (sy_dh F1 X1 X2 (iv_H 2)))
    (k1 : (sy_i F 84).toInt < 7 → ∀ F1 : Nat → sy_d, iv_in F1 iv_B0 → (∀ j, j < 82 → j ∉ ([53, 54, 55, 56, 57, 58, 59] : List Nat) → F1 j = F j) → sy_ai F1 53 = jm_upd (sy_ai F 53) ((sy_i F 84).toInt).toNat ((sy_ai F 76).getD ((sy_i F 83).toInt).toNat 0) → sy_ai F1 54 = jm_upd (sy_ai F 54) ((sy_i F 84).toInt).toNat ((sy_ai F 76).getD (((sy_i F 83).toInt + 1)).toNat 0) → sy_ai F1 55 = jm_upd (sy_ai F 55) ((sy_i F 84).toInt).toNat ((sy_ai F 76).getD (((sy_i F 83).toInt + 2)).toNat 0) → sy_ai F1 56 = jm_upd (sy_ai F 56) ((sy_i F 84).toInt).toNat ((sy_ai F 76).getD (((sy_i F 83).toInt + 3)).toNat 0) → sy_ai F1 57 = jm_upd (sy_ai F 57) ((sy_i F 84).toInt).toNat ((sy_ai F 76).getD (((sy_i F 83).toInt + 4)).toNat 0) → sy_ai F1 58 = jm_upd (sy_ai F 58) ((sy_i F 84).toInt).toNat ((sy_ai F 76).getD (((sy_i F 83).toInt + 5)).toNat 0) → sy_ai F1 59 = jm_upd (sy_ai F 59) ((sy_i F 84).toInt).toNat ((sy_ai F 76).getD (((sy_i F 83).toInt + 6)).toNat 0) → (sy_i F1 82).toInt = (sy_i F 82).toInt → sy_i F1 82 = sy_i F 82 → (sy_i F1 83).toInt = ((sy_i F 83).toInt + 7) → sy_i F1 83 = (sy_i F 83) + ((7 : Int32)) → (sy_i F1 84).toInt = ((sy_i F 84).toInt + 1) → sy_i F1 84 = (sy_i F 84) + ((1 : Int32)) → hd_W Ls xs d jm_M10 Q (46, sy_dL F1 [some (.inl (.ref 46)), some (.inl (.ref 67)), some (.inr (.inl 82)), some (.inr (.inl 83)), some (.inr (.inl 84))], sy_dS F1 [], sy_dh F1 X1 X2 (iv_H 2), 0, 0)) :
    hd_W Ls xs d jm_M10 Q (46, sy_dL F [some (.inl (.ref 46)), some (.inl (.ref 67)), some (.inr (.inl 82)), some (.inr (.inl 83)), some (.inr (.inl 84))], sy_dS F [], sy_dh F X1 X2 (iv_H 2), 0, 0) := by
  by_cases g0 : 7 ≤ (sy_i F 84).toInt
  · have n86 : nzI ((sy_i F 83) + ((4 : Int32))) (((sy_i F 83).toInt + 4)) := nz_add (rfl : (sy_i F 83).toInt = (sy_i F 83).toInt) (by decide : ((4 : Int32)).toInt = 4) (by omega) (by omega)
    have w85 : jm_cpy (sy_ai F 76) (sy_ai F 60) (sy_i F 83).toNatClampNeg ((0 : Int32)).toNatClampNeg ((4 : Int32)).toNatClampNeg = jm_cpy (sy_ai F 76) (sy_ai F 60) ((sy_i F 83).toInt).toNat (0 : Int).toNat (4 : Int).toNat := by simp only [nz_c, (by decide : ((0 : Int32)).toInt = 0), (by decide : ((4 : Int32)).toInt = 4)]
    have w87 : jm_cpy (sy_ai F 76) (sy_ai F 61) ((sy_i F 83) + ((4 : Int32))).toNatClampNeg ((0 : Int32)).toNatClampNeg ((4 : Int32)).toNatClampNeg = jm_cpy (sy_ai F 76) (sy_ai F 61) (((sy_i F 83).toInt + 4)).toNat (0 : Int).toNat (4 : Int).toNat := by simp only [nz_c, (nzE n86), (by decide : ((0 : Int32)).toInt = 0), (by decide : ((4 : Int32)).toInt = 4)]
    exact j2ldt_46_p0 hd F X1 X2 hB (by first | exact g0 | (simp only [nz_c]; exact g0)) (by first | exact ⟨by omega, by omega⟩ | (simp only [nz_c]; exact ⟨by omega, by omega⟩)) (by first | (simp only [nz_c, (nzE n86)]; exact ⟨by omega, by omega⟩) | exact ⟨by omega, by omega⟩ | (rw [(nzE n86)]; exact ⟨by omega, by omega⟩)) (fun F1 g e60 e61 => k0 g0 F1 (nz_in0 hB [60, 61] (fun j hj hn => g j hj (by simp only [List.mem_cons, List.not_mem_nil, or_false, not_or] at hn; omega)) (List.forall_mem_cons.mpr ⟨fun t ht => (Option.some.inj ht) ▸ (nz_hz2 e60), List.forall_mem_cons.mpr ⟨fun t ht => (Option.some.inj ht) ▸ (nz_hz2 e61), List.forall_mem_nil _⟩⟩)) (fun j hj hn => g j hj (by simp only [List.mem_cons, List.not_mem_nil, or_false, not_or] at hn; omega)) ((zz_ai e60).trans w85) ((zz_ai e61).trans w87))
  replace g0 : (sy_i F 84).toInt < 7 := by omega
  have n87 : nzI ((sy_i F 83) + ((1 : Int32))) (((sy_i F 83).toInt + 1)) := nz_add (rfl : (sy_i F 83).toInt = (sy_i F 83).toInt) (by decide : ((1 : Int32)).toInt = 1) (by omega) (by omega)
  have n90 : nzI ((sy_i F 83) + ((2 : Int32))) (((sy_i F 83).toInt + 2)) := nz_add (rfl : (sy_i F 83).toInt = (sy_i F 83).toInt) (by decide : ((2 : Int32)).toInt = 2) (by omega) (by omega)
  have n93 : nzI ((sy_i F 83) + ((3 : Int32))) (((sy_i F 83).toInt + 3)) := nz_add (rfl : (sy_i F 83).toInt = (sy_i F 83).toInt) (by decide : ((3 : Int32)).toInt = 3) (by omega) (by omega)
  have n96 : nzI ((sy_i F 83) + ((4 : Int32))) (((sy_i F 83).toInt + 4)) := nz_add (rfl : (sy_i F 83).toInt = (sy_i F 83).toInt) (by decide : ((4 : Int32)).toInt = 4) (by omega) (by omega)
  have n99 : nzI ((sy_i F 83) + ((5 : Int32))) (((sy_i F 83).toInt + 5)) := nz_add (rfl : (sy_i F 83).toInt = (sy_i F 83).toInt) (by decide : ((5 : Int32)).toInt = 5) (by omega) (by omega)
  have n102 : nzI ((sy_i F 83) + ((6 : Int32))) (((sy_i F 83).toInt + 6)) := nz_add (rfl : (sy_i F 83).toInt = (sy_i F 83).toInt) (by decide : ((6 : Int32)).toInt = 6) (by omega) (by omega)
  have w86 : jm_upd (sy_ai F 53) (sy_i F 84).toNatClampNeg ((sy_ai F 76).getD (sy_i F 83).toNatClampNeg 0) = jm_upd (sy_ai F 53) ((sy_i F 84).toInt).toNat ((sy_ai F 76).getD ((sy_i F 83).toInt).toNat 0) := by simp only [nz_c]
  have w89 : jm_upd (sy_ai F 54) (sy_i F 84).toNatClampNeg ((sy_ai F 76).getD ((sy_i F 83) + ((1 : Int32))).toNatClampNeg 0) = jm_upd (sy_ai F 54) ((sy_i F 84).toInt).toNat ((sy_ai F 76).getD (((sy_i F 83).toInt + 1)).toNat 0) := by simp only [nz_c, (nzE n87), (by decide : ((1 : Int32)).toInt = 1)]
  have w92 : jm_upd (sy_ai F 55) (sy_i F 84).toNatClampNeg ((sy_ai F 76).getD ((sy_i F 83) + ((2 : Int32))).toNatClampNeg 0) = jm_upd (sy_ai F 55) ((sy_i F 84).toInt).toNat ((sy_ai F 76).getD (((sy_i F 83).toInt + 2)).toNat 0) := by simp only [nz_c, (nzE n90), (by decide : ((2 : Int32)).toInt = 2)]
  have w95 : jm_upd (sy_ai F 56) (sy_i F 84).toNatClampNeg ((sy_ai F 76).getD ((sy_i F 83) + ((3 : Int32))).toNatClampNeg 0) = jm_upd (sy_ai F 56) ((sy_i F 84).toInt).toNat ((sy_ai F 76).getD (((sy_i F 83).toInt + 3)).toNat 0) := by simp only [nz_c, (nzE n93), (by decide : ((3 : Int32)).toInt = 3)]
  have w98 : jm_upd (sy_ai F 57) (sy_i F 84).toNatClampNeg ((sy_ai F 76).getD ((sy_i F 83) + ((4 : Int32))).toNatClampNeg 0) = jm_upd (sy_ai F 57) ((sy_i F 84).toInt).toNat ((sy_ai F 76).getD (((sy_i F 83).toInt + 4)).toNat 0) := by simp only [nz_c, (nzE n96), (by decide : ((4 : Int32)).toInt = 4)]
  have w101 : jm_upd (sy_ai F 58) (sy_i F 84).toNatClampNeg ((sy_ai F 76).getD ((sy_i F 83) + ((5 : Int32))).toNatClampNeg 0) = jm_upd (sy_ai F 58) ((sy_i F 84).toInt).toNat ((sy_ai F 76).getD (((sy_i F 83).toInt + 5)).toNat 0) := by simp only [nz_c, (nzE n99), (by decide : ((5 : Int32)).toInt = 5)]
  have w104 : jm_upd (sy_ai F 59) (sy_i F 84).toNatClampNeg ((sy_ai F 76).getD ((sy_i F 83) + ((6 : Int32))).toNatClampNeg 0) = jm_upd (sy_ai F 59) ((sy_i F 84).toInt).toNat ((sy_ai F 76).getD (((sy_i F 83).toInt + 6)).toNat 0) := by simp only [nz_c, (nzE n102), (by decide : ((6 : Int32)).toInt = 6)]
  have n105 : nzI ((sy_i F 83) + ((7 : Int32))) (((sy_i F 83).toInt + 7)) := nz_add (rfl : (sy_i F 83).toInt = (sy_i F 83).toInt) (by decide : ((7 : Int32)).toInt = 7) (by omega) (by omega)
  have n106 : nzI ((sy_i F 84) + ((1 : Int32))) (((sy_i F 84).toInt + 1)) := nz_add (rfl : (sy_i F 84).toInt = (sy_i F 84).toInt) (by decide : ((1 : Int32)).toInt = 1) (by omega) (by omega)
  exact j2ldt_46_p1 hd F X1 X2 hB (by first | exact g0 | (simp only [nz_c]; exact g0)) (by first | exact ⟨by omega, by omega⟩ | (simp only [nz_c]; exact ⟨by omega, by omega⟩)) (by first | exact ⟨by omega, by omega⟩ | (simp only [nz_c]; exact ⟨by omega, by omega⟩)) (by first | (simp only [nz_c, (nzE n87)]; exact ⟨by omega, by omega⟩) | exact ⟨by omega, by omega⟩ | (rw [(nzE n87)]; exact ⟨by omega, by omega⟩)) (by first | exact ⟨by omega, by omega⟩ | (simp only [nz_c]; exact ⟨by omega, by omega⟩)) (by first | (simp only [nz_c, (nzE n90)]; exact ⟨by omega, by omega⟩) | exact ⟨by omega, by omega⟩ | (rw [(nzE n90)]; exact ⟨by omega, by omega⟩)) (by first | exact ⟨by omega, by omega⟩ | (simp only [nz_c]; exact ⟨by omega, by omega⟩)) (by first | (simp only [nz_c, (nzE n93)]; exact ⟨by omega, by omega⟩) | exact ⟨by omega, by omega⟩ | (rw [(nzE n93)]; exact ⟨by omega, by omega⟩)) (by first | exact ⟨by omega, by omega⟩ | (simp only [nz_c]; exact ⟨by omega, by omega⟩)) (by first | (simp only [nz_c, (nzE n96)]; exact ⟨by omega, by omega⟩) | exact ⟨by omega, by omega⟩ | (rw [(nzE n96)]; exact ⟨by omega, by omega⟩)) (by first | exact ⟨by omega, by omega⟩ | (simp only [nz_c]; exact ⟨by omega, by omega⟩)) (by first | (simp only [nz_c, (nzE n99)]; exact ⟨by omega, by omega⟩) | exact ⟨by omega, by omega⟩ | (rw [(nzE n99)]; exact ⟨by omega, by omega⟩)) (by first | exact ⟨by omega, by omega⟩ | (simp only [nz_c]; exact ⟨by omega, by omega⟩)) (by first | (simp only [nz_c, (nzE n102)]; exact ⟨by omega, by omega⟩) | exact ⟨by omega, by omega⟩ | (rw [(nzE n102)]; exact ⟨by omega, by omega⟩)) (by first | exact ⟨by omega, by omega⟩ | (simp only [nz_c]; exact ⟨by omega, by omega⟩)) (fun F1 g e53 e54 e55 e56 e57 e58 e59 e82 e83 e84 => k1 g0 F1 (nz_in0 hB [53, 54, 55, 56, 57, 58, 59] (fun j hj hn => g j hj (by simp only [List.mem_cons, List.not_mem_nil, or_false, not_or] at hn; omega)) (List.forall_mem_cons.mpr ⟨fun t ht => (Option.some.inj ht) ▸ (nz_hz2 e53), List.forall_mem_cons.mpr ⟨fun t ht => (Option.some.inj ht) ▸ (nz_hz2 e54), List.forall_mem_cons.mpr ⟨fun t ht => (Option.some.inj ht) ▸ (nz_hz2 e55), List.forall_mem_cons.mpr ⟨fun t ht => (Option.some.inj ht) ▸ (nz_hz2 e56), List.forall_mem_cons.mpr ⟨fun t ht => (Option.some.inj ht) ▸ (nz_hz2 e57), List.forall_mem_cons.mpr ⟨fun t ht => (Option.some.inj ht) ▸ (nz_hz2 e58), List.forall_mem_cons.mpr ⟨fun t ht => (Option.some.inj ht) ▸ (nz_hz2 e59), List.forall_mem_nil _⟩⟩⟩⟩⟩⟩⟩)) (fun j hj hn => g j hj (by simp only [List.mem_cons, List.not_mem_nil, or_false, not_or] at hn; omega)) ((zz_ai e53).trans w86) ((zz_ai e54).trans w89) ((zz_ai e55).trans w92) ((zz_ai e56).trans w95) ((zz_ai e57).trans w98) ((zz_ai e58).trans w101) ((zz_ai e59).trans w104) ((congrArg Int32.toInt (zz_i e82)).trans (rfl : (sy_i F 82).toInt = (sy_i F 82).toInt)) ((zz_i e82).trans (rfl : sy_i F 82 = sy_i F 82)) ((congrArg Int32.toInt (zz_i e83)).trans (nzE n105)) ((zz_i e83).trans (rfl : (sy_i F 83) + ((7 : Int32)) = (sy_i F 83) + ((7 : Int32)))) ((congrArg Int32.toInt (zz_i e84)).trans (nzE n106)) ((zz_i e84).trans (rfl : (sy_i F 84) + ((1 : Int32)) = (sy_i F 84) + ((1 : Int32)))))
theorem j2svs_0_p0 {Ls : Nat} {xs : Nat → Int32} {d : Nat} {Q : Option Value → jm_h → Prop} (hd : 1 ≤ d) (F : Nat → sy_d) (X1 X2 : List jm_c) (hB : iv_in F iv_B0)
    (h0 : 0 ≤ (sy_i F 82).toInt)
    (h1 : (sy_i F 82).toInt ≤ 120)
    (h2 : 0 ≤ (sy_i F 82).toInt ∧ (sy_i F 82).toInt < 180)
    (h3 : 0 ≤ ((sy_i F 82) + ((1 : Int32))).toInt ∧ ((sy_i F 82) + ((1 : Int32))).toInt < 180)
    (h4 : 0 ≤ ((sy_i F 82) + ((2 : Int32))).toInt ∧ ((sy_i F 82) + ((2 : Int32))).toInt < 180)
    (k : ∀ F1 : Nat → sy_d, (∀ j, j < 82 → j ≠ 77 → F1 j = F j) → F1 77 = .inr (.inl (jm_upd (jm_upd (jm_upd (sy_ai F 77) (sy_i F 82).toNatClampNeg (sy_i F 50)) ((sy_i F 82) + ((1 : Int32))).toNatClampNeg (sy_i F 51)) ((sy_i F 82) + ((2 : Int32))).toNatClampNeg (sy_i F 52))) → F1 82 = .inl (.int (sy_i F 82)) → F1 83 = .inl (.int ((sy_i F 82) + ((3 : Int32)))) → F1 84 = .inl (.int ((0 : Int32))) → hd_W Ls xs d jm_M9 Q (46, sy_dL F1 [some (.inl (.ref 46)), some (.inl (.ref 68)), some (.inr (.inl 82)), some (.inr (.inl 83)), some (.inr (.inl 84))], sy_dS F1 [], sy_dh F1 X1 X2 (iv_H 2), 0, 0)) :
    hd_W Ls xs d jm_M9 Q (0, sy_dL F [some (.inl (.ref 46)), some (.inl (.ref 68)), some (.inr (.inl 82)), none, none], sy_dS F [], sy_dh F X1 X2 (iv_H 2), 0, 0) := by
  refine hd_run (s := 2) (nv := 83) (pc := 46) (L := [some (.inl (.ref 46)), some (.inl (.ref 68)), some (.inr (.inl 82)), some (.inr (.inl 83)), some (.inr (.inl 84))]) (S := []) (uh := hd_ov (iv_id 0 iv_B0) [(77, .inr (.inr (.inl 87)))]) (ul := [.inl (.inr (.inl 82)), .inl (.inr (.inl 88)), .inl (.inl (.int 0))]) (f := true) (sp := [46]) (d0 := 0) (O := [false, true]) (T := [(40, [.inr (.inl 82), .inr (.inl 50)], [.inr (.inl 77)]), (0, [.inr (.inl 82), .inl (.int 1)], []), (40, [.inr (.inl 84), .inr (.inl 51)], [.inr (.inl 83)]), (0, [.inr (.inl 82), .inl (.int 2)], []), (40, [.inr (.inl 86), .inr (.inl 52)], [.inr (.inl 85)]), (0, [.inr (.inl 82), .inl (.int 3)], [])]) (P := [(3, .inr (.inl 82), .inl (.int 0)), (4, .inr (.inl 82), .inl (.int 120)), (6, .inr (.inl 82), .inl (.ref 180)), (6, .inr (.inl 84), .inl (.ref 180)), (6, .inr (.inl 86), .inl (.ref 180))]) jm_ok9 (by decide +kernel) (by decide +kernel) hd F X1 X2 (fun F' hF hs => ?_)
  have b82 := hd_b (F := F) (F' := F') (k := 82) (hF 82 (by decide))
  have t84 : sy_dv F' (.inr (.inl 84)) = .int ((sy_i F 82) + ((1 : Int32))) := hd_o (hs 1 _ rfl) b82 rfl rfl
  have t86 : sy_dv F' (.inr (.inl 86)) = .int ((sy_i F 82) + ((2 : Int32))) := hd_o (hs 3 _ rfl) b82 rfl rfl
  have b52 := hd_b (F := F) (F' := F') (k := 52) (hF 52 (by decide))
  have b51 := hd_b (F := F) (F' := F') (k := 51) (hF 51 (by decide))
  have b50 := hd_b (F := F) (F' := F') (k := 50) (hF 50 (by decide))
  have a77 := hd_ba (F := F) (F' := F') (k := 77) (hF 77 (by decide))
  have t83 : sy_da F' (.inr (.inl 83)) = .inl (jm_upd (sy_ai F 77) (sy_i F 82).toNatClampNeg (sy_i F 50)) := hd_up (hs 0 _ rfl) b82 b50 a77
  have t85 : sy_da F' (.inr (.inl 85)) = .inl (jm_upd (jm_upd (sy_ai F 77) (sy_i F 82).toNatClampNeg (sy_i F 50)) ((sy_i F 82) + ((1 : Int32))).toNatClampNeg (sy_i F 51)) := hd_up (hs 2 _ rfl) t84 b51 t83
  have t87 : sy_da F' (.inr (.inl 87)) = .inl (jm_upd (jm_upd (jm_upd (sy_ai F 77) (sy_i F 82).toNatClampNeg (sy_i F 50)) ((sy_i F 82) + ((1 : Int32))).toNatClampNeg (sy_i F 51)) ((sy_i F 82) + ((2 : Int32))).toNatClampNeg (sy_i F 52)) := hd_up (hs 4 _ rfl) t86 b52 t85
  have t88 : sy_dv F' (.inr (.inl 88)) = .int ((sy_i F 82) + ((3 : Int32))) := hd_o (hs 5 _ rfl) b82 rfl rfl
  have hB' : iv_in F' iv_B0 := iv_in_eq hB (fun j hj => hF j (Nat.lt_of_lt_of_le hj (by decide +kernel)))
  refine ⟨List.forall_mem_cons.mpr ⟨hd_p3 b82 rfl (by have hc : ((0) : Int32).toInt = 0 := (by decide); omega), List.forall_mem_cons.mpr ⟨hd_p4 b82 rfl (by have hc : ((120) : Int32).toInt = 120 := (by decide); omega), List.forall_mem_cons.mpr ⟨hd_pb b82 (by first | exact h2 | exact h2), List.forall_mem_cons.mpr ⟨hd_pb t84 (by first | exact h3 | exact h3), List.forall_mem_cons.mpr ⟨hd_pb t86 (by first | exact h4 | exact h4), fun _ h => absurd h List.not_mem_nil⟩⟩⟩⟩⟩, ?_⟩
  refine k _ ?_ ?_ ?_ ?_ ?_
  · exact fun j hj hn => (hd_keep hB' (Nat.lt_of_lt_of_le hj (by decide +kernel)) (by simp; omega)).trans (hF j (Nat.lt_of_lt_of_le hj (by decide)))
  · exact hd_ga (a := .inr (.inl 87)) (by decide +kernel) t87
  · exact hd_gi (x := .inr (.inl 82)) (by decide +kernel) b82
  · exact hd_gi (x := .inr (.inl 88)) (by decide +kernel) t88
  · exact hd_gi (x := .inl (.int 0)) (by decide +kernel) rfl
theorem j2svs_0 {Ls : Nat} {xs : Nat → Int32} {d : Nat} {Q : Option Value → jm_h → Prop} (hd : 1 ≤ d) (F : Nat → sy_d) (X1 X2 : List jm_c) (hB : iv_in F iv_B0)
    (a82 : 0 ≤ (sy_i F 82).toInt ∧ (sy_i F 82).toInt ≤ 120)
    (k0 : 0 ≤ (sy_i F 82).toInt → (sy_i F 82).toInt ≤ 120 → ∀ F1 : Nat → sy_d, iv_in F1 iv_B0 → (∀ j, j < 82 → j ∉ ([77] : List Nat) → F1 j = F j) → sy_ai F1 77 = jm_upd (jm_upd (jm_upd (sy_ai F 77) ((sy_i F 82).toInt).toNat (sy_i F 50)) (((sy_i F 82).toInt + 1)).toNat (sy_i F 51)) (((sy_i F 82).toInt + 2)).toNat (sy_i F 52) → (sy_i F1 82).toInt = (sy_i F 82).toInt → sy_i F1 82 = sy_i F 82 → (sy_i F1 83).toInt = ((sy_i F 82).toInt + 3) → sy_i F1 83 = (sy_i F 82) + ((3 : Int32)) → (sy_i F1 84).toInt = 0 → sy_i F1 84 = (0 : Int32) → hd_W Ls xs d jm_M9 Q (46, sy_dL F1 [some (.inl (.ref 46)), some (.inl (.ref 68)), some (.inr (.inl 82)), some (.inr (.inl 83)), some (.inr (.inl 84))], sy_dS F1 [], sy_dh F1 X1 X2 (iv_H 2), 0, 0)) :
    hd_W Ls xs d jm_M9 Q (0, sy_dL F [some (.inl (.ref 46)), some (.inl (.ref 68)), some (.inr (.inl 82)), none, none], sy_dS F [], sy_dh F X1 X2 (iv_H 2), 0, 0) := by
  by_cases g0 : (sy_i F 82).toInt < 0
  · exfalso
    omega
  replace g0 : 0 ≤ (sy_i F 82).toInt := by omega
  by_cases g1 : (sy_i F 82).toInt ≤ 120
  · have n84 : nzI ((sy_i F 82) + ((1 : Int32))) (((sy_i F 82).toInt + 1)) := nz_add (rfl : (sy_i F 82).toInt = (sy_i F 82).toInt) (by decide : ((1 : Int32)).toInt = 1) (by omega) (by omega)
    have n86 : nzI ((sy_i F 82) + ((2 : Int32))) (((sy_i F 82).toInt + 2)) := nz_add (rfl : (sy_i F 82).toInt = (sy_i F 82).toInt) (by decide : ((2 : Int32)).toInt = 2) (by omega) (by omega)
    have w87 : jm_upd (jm_upd (jm_upd (sy_ai F 77) (sy_i F 82).toNatClampNeg (sy_i F 50)) ((sy_i F 82) + ((1 : Int32))).toNatClampNeg (sy_i F 51)) ((sy_i F 82) + ((2 : Int32))).toNatClampNeg (sy_i F 52) = jm_upd (jm_upd (jm_upd (sy_ai F 77) ((sy_i F 82).toInt).toNat (sy_i F 50)) (((sy_i F 82).toInt + 1)).toNat (sy_i F 51)) (((sy_i F 82).toInt + 2)).toNat (sy_i F 52) := by simp only [nz_c, (nzE n84), (nzE n86), (by decide : ((1 : Int32)).toInt = 1), (by decide : ((2 : Int32)).toInt = 2)]
    have n88 : nzI ((sy_i F 82) + ((3 : Int32))) (((sy_i F 82).toInt + 3)) := nz_add (rfl : (sy_i F 82).toInt = (sy_i F 82).toInt) (by decide : ((3 : Int32)).toInt = 3) (by omega) (by omega)
    exact j2svs_0_p0 hd F X1 X2 hB (by first | exact g0 | (simp only [nz_c]; exact g0)) (by first | exact g1 | (simp only [nz_c]; exact g1)) (by first | exact ⟨by omega, by omega⟩ | (simp only [nz_c]; exact ⟨by omega, by omega⟩)) (by first | (simp only [nz_c, (nzE n84)]; exact ⟨by omega, by omega⟩) | exact ⟨by omega, by omega⟩ | (rw [(nzE n84)]; exact ⟨by omega, by omega⟩)) (by first | (simp only [nz_c, (nzE n86)]; exact ⟨by omega, by omega⟩) | exact ⟨by omega, by omega⟩ | (rw [(nzE n86)]; exact ⟨by omega, by omega⟩)) (fun F1 g e77 e82 e83 e84 => k0 g0 g1 F1 (nz_in0 hB [77] (fun j hj hn => g j hj (by simp only [List.mem_cons, List.not_mem_nil, or_false, not_or] at hn; omega)) (List.forall_mem_cons.mpr ⟨fun t ht => (Option.some.inj ht) ▸ (nz_hz2 e77), List.forall_mem_nil _⟩)) (fun j hj hn => g j hj (by simp only [List.mem_cons, List.not_mem_nil, or_false, not_or] at hn; omega)) ((zz_ai e77).trans w87) ((congrArg Int32.toInt (zz_i e82)).trans (rfl : (sy_i F 82).toInt = (sy_i F 82).toInt)) ((zz_i e82).trans (rfl : sy_i F 82 = sy_i F 82)) ((congrArg Int32.toInt (zz_i e83)).trans (nzE n88)) ((zz_i e83).trans (rfl : (sy_i F 82) + ((3 : Int32)) = (sy_i F 82) + ((3 : Int32)))) ((congrArg Int32.toInt (zz_i e84)).trans (by decide : ((0 : Int32)).toInt = 0)) ((zz_i e84).trans (rfl : (0 : Int32) = (0 : Int32))))
  replace g1 : 120 < (sy_i F 82).toInt := by omega
  exfalso
  omega
theorem j2svs_46_p0 {Ls : Nat} {xs : Nat → Int32} {d : Nat} {Q : Option Value → jm_h → Prop} (hd : 1 ≤ d) (F : Nat → sy_d) (X1 X2 : List jm_c) (hB : iv_in F iv_B0)
    (h0 : 7 ≤ (sy_i F 84).toInt)
    (h1 : 0 ≤ (sy_i F 83).toInt ∧ (sy_i F 83).toInt < 177)
    (h2 : 0 ≤ ((sy_i F 83) + ((4 : Int32))).toInt ∧ ((sy_i F 83) + ((4 : Int32))).toInt < 177)
    (k : ∀ F1 : Nat → sy_d, (∀ j, j < 82 → j ≠ 77 → F1 j = F j) → F1 77 = .inr (.inl (jm_cpy (sy_ai F 61) (jm_cpy (sy_ai F 60) (sy_ai F 77) ((0 : Int32)).toNatClampNeg (sy_i F 83).toNatClampNeg ((4 : Int32)).toNatClampNeg) ((0 : Int32)).toNatClampNeg ((sy_i F 83) + ((4 : Int32))).toNatClampNeg ((4 : Int32)).toNatClampNeg)) → Q (none) (sy_dh F1 X1 X2 (iv_H 2))) :
    hd_W Ls xs d jm_M9 Q (46, sy_dL F [some (.inl (.ref 46)), some (.inl (.ref 68)), some (.inr (.inl 82)), some (.inr (.inl 83)), some (.inr (.inl 84))], sy_dS F [], sy_dh F X1 X2 (iv_H 2), 0, 0) := by
  refine hd_ret (s := 2) (nv := 85) (v := none) (uh := hd_ov (iv_id 0 iv_B0) [(77, .inr (.inr (.inl 87)))]) (f := true) (sp := [46]) (d0 := 0) (O := [true]) (T := [(42, [.inl (.int 0), .inr (.inl 83), .inl (.int 4)], [.inr (.inl 60), .inr (.inl 77)]), (0, [.inr (.inl 83), .inl (.int 4)], []), (42, [.inl (.int 0), .inr (.inl 86), .inl (.int 4)], [.inr (.inl 61), .inr (.inl 85)])]) (P := [(4, .inl (.int 7), .inr (.inl 84)), (6, .inr (.inl 83), .inl (.ref 177)), (6, .inr (.inl 86), .inl (.ref 177))]) jm_ok9 (by decide +kernel) (by decide +kernel) hd F X1 X2 (fun F' hF hs => ?_)
  have b84 := hd_b (F := F) (F' := F') (k := 84) (hF 84 (by decide))
  have b83 := hd_b (F := F) (F' := F') (k := 83) (hF 83 (by decide))
  have t86 : sy_dv F' (.inr (.inl 86)) = .int ((sy_i F 83) + ((4 : Int32))) := hd_o (hs 1 _ rfl) b83 rfl rfl
  have a61 := hd_ba (F := F) (F' := F') (k := 61) (hF 61 (by decide))
  have a60 := hd_ba (F := F) (F' := F') (k := 60) (hF 60 (by decide))
  have a77 := hd_ba (F := F) (F' := F') (k := 77) (hF 77 (by decide))
  have t85 : sy_da F' (.inr (.inl 85)) = .inl (jm_cpy (sy_ai F 60) (sy_ai F 77) ((0 : Int32)).toNatClampNeg (sy_i F 83).toNatClampNeg ((4 : Int32)).toNatClampNeg) := hd_cp (hs 0 _ rfl) rfl b83 rfl a60 a77
  have t87 : sy_da F' (.inr (.inl 87)) = .inl (jm_cpy (sy_ai F 61) (jm_cpy (sy_ai F 60) (sy_ai F 77) ((0 : Int32)).toNatClampNeg (sy_i F 83).toNatClampNeg ((4 : Int32)).toNatClampNeg) ((0 : Int32)).toNatClampNeg ((sy_i F 83) + ((4 : Int32))).toNatClampNeg ((4 : Int32)).toNatClampNeg) := hd_cp (hs 2 _ rfl) rfl t86 rfl a61 t85
  have hB' : iv_in F' iv_B0 := iv_in_eq hB (fun j hj => hF j (Nat.lt_of_lt_of_le hj (by decide +kernel)))
  refine ⟨List.forall_mem_cons.mpr ⟨hd_p4 rfl b84 (by have hc : ((7) : Int32).toInt = 7 := (by decide); omega), List.forall_mem_cons.mpr ⟨hd_pb b83 (by first | exact h1 | exact h1), List.forall_mem_cons.mpr ⟨hd_pb t86 (by first | exact h2 | exact h2), fun _ h => absurd h List.not_mem_nil⟩⟩⟩, ?_⟩
  refine k _ ?_ ?_
  · exact fun j hj hn => (hd_keep hB' (Nat.lt_of_lt_of_le hj (by decide +kernel)) (by simp; omega)).trans (hF j (Nat.lt_of_lt_of_le hj (by decide)))
  · exact hd_ga (a := .inr (.inl 87)) (by decide +kernel) t87
theorem j2svs_46_p1 {Ls : Nat} {xs : Nat → Int32} {d : Nat} {Q : Option Value → jm_h → Prop} (hd : 1 ≤ d) (F : Nat → sy_d) (X1 X2 : List jm_c) (hB : iv_in F iv_B0)
    (h0 : (sy_i F 84).toInt < 7)
    (h1 : 0 ≤ (sy_i F 84).toInt ∧ (sy_i F 84).toInt < 7)
    (h2 : 0 ≤ (sy_i F 83).toInt ∧ (sy_i F 83).toInt < 180)
    (h3 : 0 ≤ (sy_i F 84).toInt ∧ (sy_i F 84).toInt < 7)
    (h4 : 0 ≤ ((sy_i F 83) + ((1 : Int32))).toInt ∧ ((sy_i F 83) + ((1 : Int32))).toInt < 180)
    (h5 : 0 ≤ (sy_i F 84).toInt ∧ (sy_i F 84).toInt < 7)
    (h6 : 0 ≤ ((sy_i F 83) + ((2 : Int32))).toInt ∧ ((sy_i F 83) + ((2 : Int32))).toInt < 180)
    (h7 : 0 ≤ (sy_i F 84).toInt ∧ (sy_i F 84).toInt < 7)
    (h8 : 0 ≤ ((sy_i F 83) + ((3 : Int32))).toInt ∧ ((sy_i F 83) + ((3 : Int32))).toInt < 180)
    (h9 : 0 ≤ (sy_i F 84).toInt ∧ (sy_i F 84).toInt < 7)
    (h10 : 0 ≤ ((sy_i F 83) + ((4 : Int32))).toInt ∧ ((sy_i F 83) + ((4 : Int32))).toInt < 180)
    (h11 : 0 ≤ (sy_i F 84).toInt ∧ (sy_i F 84).toInt < 7)
    (h12 : 0 ≤ ((sy_i F 83) + ((5 : Int32))).toInt ∧ ((sy_i F 83) + ((5 : Int32))).toInt < 180)
    (h13 : 0 ≤ (sy_i F 84).toInt ∧ (sy_i F 84).toInt < 7)
    (h14 : 0 ≤ ((sy_i F 83) + ((6 : Int32))).toInt ∧ ((sy_i F 83) + ((6 : Int32))).toInt < 180)
    (k : ∀ F1 : Nat → sy_d, (∀ j, j < 82 → j ≠ 77 → F1 j = F j) → F1 77 = .inr (.inl (jm_upd (jm_upd (jm_upd (jm_upd (jm_upd (jm_upd (jm_upd (sy_ai F 77) (sy_i F 83).toNatClampNeg ((sy_ai F 53).getD (sy_i F 84).toNatClampNeg 0)) ((sy_i F 83) + ((1 : Int32))).toNatClampNeg ((sy_ai F 54).getD (sy_i F 84).toNatClampNeg 0)) ((sy_i F 83) + ((2 : Int32))).toNatClampNeg ((sy_ai F 55).getD (sy_i F 84).toNatClampNeg 0)) ((sy_i F 83) + ((3 : Int32))).toNatClampNeg ((sy_ai F 56).getD (sy_i F 84).toNatClampNeg 0)) ((sy_i F 83) + ((4 : Int32))).toNatClampNeg ((sy_ai F 57).getD (sy_i F 84).toNatClampNeg 0)) ((sy_i F 83) + ((5 : Int32))).toNatClampNeg ((sy_ai F 58).getD (sy_i F 84).toNatClampNeg 0)) ((sy_i F 83) + ((6 : Int32))).toNatClampNeg ((sy_ai F 59).getD (sy_i F 84).toNatClampNeg 0))) → F1 82 = .inl (.int (sy_i F 82)) → F1 83 = .inl (.int ((sy_i F 83) + ((7 : Int32)))) → F1 84 = .inl (.int ((sy_i F 84) + ((1 : Int32)))) → hd_W Ls xs d jm_M9 Q (46, sy_dL F1 [some (.inl (.ref 46)), some (.inl (.ref 68)), some (.inr (.inl 82)), some (.inr (.inl 83)), some (.inr (.inl 84))], sy_dS F1 [], sy_dh F1 X1 X2 (iv_H 2), 0, 0)) :
    hd_W Ls xs d jm_M9 Q (46, sy_dL F [some (.inl (.ref 46)), some (.inl (.ref 68)), some (.inr (.inl 82)), some (.inr (.inl 83)), some (.inr (.inl 84))], sy_dS F [], sy_dh F X1 X2 (iv_H 2), 0, 0) := by
  refine hd_run (s := 2) (nv := 85) (pc := 46) (L := [some (.inl (.ref 46)), some (.inl (.ref 68)), some (.inr (.inl 82)), some (.inr (.inl 83)), some (.inr (.inl 84))]) (S := []) (uh := hd_ov (iv_id 0 iv_B0) [(77, .inr (.inr (.inl 104)))]) (ul := [.inl (.inr (.inl 82)), .inl (.inr (.inl 105)), .inl (.inr (.inl 106))]) (f := true) (sp := [46]) (d0 := 0) (O := [false]) (T := [(30, [.inr (.inl 84)], [.inr (.inl 53)]), (40, [.inr (.inl 83), .inr (.inl 85)], [.inr (.inl 77)]), (0, [.inr (.inl 83), .inl (.int 1)], []), (30, [.inr (.inl 84)], [.inr (.inl 54)]), (40, [.inr (.inl 87), .inr (.inl 88)], [.inr (.inl 86)]), (0, [.inr (.inl 83), .inl (.int 2)], []), (30, [.inr (.inl 84)], [.inr (.inl 55)]), (40, [.inr (.inl 90), .inr (.inl 91)], [.inr (.inl 89)]), (0, [.inr (.inl 83), .inl (.int 3)], []), (30, [.inr (.inl 84)], [.inr (.inl 56)]), (40, [.inr (.inl 93), .inr (.inl 94)], [.inr (.inl 92)]), (0, [.inr (.inl 83), .inl (.int 4)], []), (30, [.inr (.inl 84)], [.inr (.inl 57)]), (40, [.inr (.inl 96), .inr (.inl 97)], [.inr (.inl 95)]), (0, [.inr (.inl 83), .inl (.int 5)], []), (30, [.inr (.inl 84)], [.inr (.inl 58)]), (40, [.inr (.inl 99), .inr (.inl 100)], [.inr (.inl 98)]), (0, [.inr (.inl 83), .inl (.int 6)], []), (30, [.inr (.inl 84)], [.inr (.inl 59)]), (40, [.inr (.inl 102), .inr (.inl 103)], [.inr (.inl 101)]), (0, [.inr (.inl 83), .inl (.int 7)], []), (0, [.inr (.inl 84), .inl (.int 1)], [])]) (P := [(5, .inl (.int 7), .inr (.inl 84)), (6, .inr (.inl 84), .inl (.ref 7)), (6, .inr (.inl 83), .inl (.ref 180)), (6, .inr (.inl 84), .inl (.ref 7)), (6, .inr (.inl 87), .inl (.ref 180)), (6, .inr (.inl 84), .inl (.ref 7)), (6, .inr (.inl 90), .inl (.ref 180)), (6, .inr (.inl 84), .inl (.ref 7)), (6, .inr (.inl 93), .inl (.ref 180)), (6, .inr (.inl 84), .inl (.ref 7)), (6, .inr (.inl 96), .inl (.ref 180)), (6, .inr (.inl 84), .inl (.ref 7)), (6, .inr (.inl 99), .inl (.ref 180)), (6, .inr (.inl 84), .inl (.ref 7)), (6, .inr (.inl 102), .inl (.ref 180))]) jm_ok9 (by decide +kernel) (by decide +kernel) hd F X1 X2 (fun F' hF hs => ?_)
  have b84 := hd_b (F := F) (F' := F') (k := 84) (hF 84 (by decide))
  have b83 := hd_b (F := F) (F' := F') (k := 83) (hF 83 (by decide))
  have t87 : sy_dv F' (.inr (.inl 87)) = .int ((sy_i F 83) + ((1 : Int32))) := hd_o (hs 2 _ rfl) b83 rfl rfl
  have t90 : sy_dv F' (.inr (.inl 90)) = .int ((sy_i F 83) + ((2 : Int32))) := hd_o (hs 5 _ rfl) b83 rfl rfl
  have t93 : sy_dv F' (.inr (.inl 93)) = .int ((sy_i F 83) + ((3 : Int32))) := hd_o (hs 8 _ rfl) b83 rfl rfl
  have t96 : sy_dv F' (.inr (.inl 96)) = .int ((sy_i F 83) + ((4 : Int32))) := hd_o (hs 11 _ rfl) b83 rfl rfl
  have t99 : sy_dv F' (.inr (.inl 99)) = .int ((sy_i F 83) + ((5 : Int32))) := hd_o (hs 14 _ rfl) b83 rfl rfl
  have t102 : sy_dv F' (.inr (.inl 102)) = .int ((sy_i F 83) + ((6 : Int32))) := hd_o (hs 17 _ rfl) b83 rfl rfl
  have a59 := hd_ba (F := F) (F' := F') (k := 59) (hF 59 (by decide))
  have t103 : sy_dv F' (.inr (.inl 103)) = .int ((sy_ai F 59).getD (sy_i F 84).toNatClampNeg 0) := hd_rd (hs 18 _ rfl) b84 a59
  have a58 := hd_ba (F := F) (F' := F') (k := 58) (hF 58 (by decide))
  have t100 : sy_dv F' (.inr (.inl 100)) = .int ((sy_ai F 58).getD (sy_i F 84).toNatClampNeg 0) := hd_rd (hs 15 _ rfl) b84 a58
  have a57 := hd_ba (F := F) (F' := F') (k := 57) (hF 57 (by decide))
  have t97 : sy_dv F' (.inr (.inl 97)) = .int ((sy_ai F 57).getD (sy_i F 84).toNatClampNeg 0) := hd_rd (hs 12 _ rfl) b84 a57
  have a56 := hd_ba (F := F) (F' := F') (k := 56) (hF 56 (by decide))
  have t94 : sy_dv F' (.inr (.inl 94)) = .int ((sy_ai F 56).getD (sy_i F 84).toNatClampNeg 0) := hd_rd (hs 9 _ rfl) b84 a56
  have a55 := hd_ba (F := F) (F' := F') (k := 55) (hF 55 (by decide))
  have t91 : sy_dv F' (.inr (.inl 91)) = .int ((sy_ai F 55).getD (sy_i F 84).toNatClampNeg 0) := hd_rd (hs 6 _ rfl) b84 a55
  have a54 := hd_ba (F := F) (F' := F') (k := 54) (hF 54 (by decide))
  have t88 : sy_dv F' (.inr (.inl 88)) = .int ((sy_ai F 54).getD (sy_i F 84).toNatClampNeg 0) := hd_rd (hs 3 _ rfl) b84 a54
  have a53 := hd_ba (F := F) (F' := F') (k := 53) (hF 53 (by decide))
  have t85 : sy_dv F' (.inr (.inl 85)) = .int ((sy_ai F 53).getD (sy_i F 84).toNatClampNeg 0) := hd_rd (hs 0 _ rfl) b84 a53
  have a77 := hd_ba (F := F) (F' := F') (k := 77) (hF 77 (by decide))
  have t86 : sy_da F' (.inr (.inl 86)) = .inl (jm_upd (sy_ai F 77) (sy_i F 83).toNatClampNeg ((sy_ai F 53).getD (sy_i F 84).toNatClampNeg 0)) := hd_up (hs 1 _ rfl) b83 t85 a77
  have t89 : sy_da F' (.inr (.inl 89)) = .inl (jm_upd (jm_upd (sy_ai F 77) (sy_i F 83).toNatClampNeg ((sy_ai F 53).getD (sy_i F 84).toNatClampNeg 0)) ((sy_i F 83) + ((1 : Int32))).toNatClampNeg ((sy_ai F 54).getD (sy_i F 84).toNatClampNeg 0)) := hd_up (hs 4 _ rfl) t87 t88 t86
  have t92 : sy_da F' (.inr (.inl 92)) = .inl (jm_upd (jm_upd (jm_upd (sy_ai F 77) (sy_i F 83).toNatClampNeg ((sy_ai F 53).getD (sy_i F 84).toNatClampNeg 0)) ((sy_i F 83) + ((1 : Int32))).toNatClampNeg ((sy_ai F 54).getD (sy_i F 84).toNatClampNeg 0)) ((sy_i F 83) + ((2 : Int32))).toNatClampNeg ((sy_ai F 55).getD (sy_i F 84).toNatClampNeg 0)) := hd_up (hs 7 _ rfl) t90 t91 t89
  have t95 : sy_da F' (.inr (.inl 95)) = .inl (jm_upd (jm_upd (jm_upd (jm_upd (sy_ai F 77) (sy_i F 83).toNatClampNeg ((sy_ai F 53).getD (sy_i F 84).toNatClampNeg 0)) ((sy_i F 83) + ((1 : Int32))).toNatClampNeg ((sy_ai F 54).getD (sy_i F 84).toNatClampNeg 0)) ((sy_i F 83) + ((2 : Int32))).toNatClampNeg ((sy_ai F 55).getD (sy_i F 84).toNatClampNeg 0)) ((sy_i F 83) + ((3 : Int32))).toNatClampNeg ((sy_ai F 56).getD (sy_i F 84).toNatClampNeg 0)) := hd_up (hs 10 _ rfl) t93 t94 t92
  have t98 : sy_da F' (.inr (.inl 98)) = .inl (jm_upd (jm_upd (jm_upd (jm_upd (jm_upd (sy_ai F 77) (sy_i F 83).toNatClampNeg ((sy_ai F 53).getD (sy_i F 84).toNatClampNeg 0)) ((sy_i F 83) + ((1 : Int32))).toNatClampNeg ((sy_ai F 54).getD (sy_i F 84).toNatClampNeg 0)) ((sy_i F 83) + ((2 : Int32))).toNatClampNeg ((sy_ai F 55).getD (sy_i F 84).toNatClampNeg 0)) ((sy_i F 83) + ((3 : Int32))).toNatClampNeg ((sy_ai F 56).getD (sy_i F 84).toNatClampNeg 0)) ((sy_i F 83) + ((4 : Int32))).toNatClampNeg ((sy_ai F 57).getD (sy_i F 84).toNatClampNeg 0)) := hd_up (hs 13 _ rfl) t96 t97 t95
  have t101 : sy_da F' (.inr (.inl 101)) = .inl (jm_upd (jm_upd (jm_upd (jm_upd (jm_upd (jm_upd (sy_ai F 77) (sy_i F 83).toNatClampNeg ((sy_ai F 53).getD (sy_i F 84).toNatClampNeg 0)) ((sy_i F 83) + ((1 : Int32))).toNatClampNeg ((sy_ai F 54).getD (sy_i F 84).toNatClampNeg 0)) ((sy_i F 83) + ((2 : Int32))).toNatClampNeg ((sy_ai F 55).getD (sy_i F 84).toNatClampNeg 0)) ((sy_i F 83) + ((3 : Int32))).toNatClampNeg ((sy_ai F 56).getD (sy_i F 84).toNatClampNeg 0)) ((sy_i F 83) + ((4 : Int32))).toNatClampNeg ((sy_ai F 57).getD (sy_i F 84).toNatClampNeg 0)) ((sy_i F 83) + ((5 : Int32))).toNatClampNeg ((sy_ai F 58).getD (sy_i F 84).toNatClampNeg 0)) := hd_up (hs 16 _ rfl) t99 t100 t98
  have t104 : sy_da F' (.inr (.inl 104)) = .inl (jm_upd (jm_upd (jm_upd (jm_upd (jm_upd (jm_upd (jm_upd (sy_ai F 77) (sy_i F 83).toNatClampNeg ((sy_ai F 53).getD (sy_i F 84).toNatClampNeg 0)) ((sy_i F 83) + ((1 : Int32))).toNatClampNeg ((sy_ai F 54).getD (sy_i F 84).toNatClampNeg 0)) ((sy_i F 83) + ((2 : Int32))).toNatClampNeg ((sy_ai F 55).getD (sy_i F 84).toNatClampNeg 0)) ((sy_i F 83) + ((3 : Int32))).toNatClampNeg ((sy_ai F 56).getD (sy_i F 84).toNatClampNeg 0)) ((sy_i F 83) + ((4 : Int32))).toNatClampNeg ((sy_ai F 57).getD (sy_i F 84).toNatClampNeg 0)) ((sy_i F 83) + ((5 : Int32))).toNatClampNeg ((sy_ai F 58).getD (sy_i F 84).toNatClampNeg 0)) ((sy_i F 83) + ((6 : Int32))).toNatClampNeg ((sy_ai F 59).getD (sy_i F 84).toNatClampNeg 0)) := hd_up (hs 19 _ rfl) t102 t103 t101
  have b82 := hd_b (F := F) (F' := F') (k := 82) (hF 82 (by decide))
  have t105 : sy_dv F' (.inr (.inl 105)) = .int ((sy_i F 83) + ((7 : Int32))) := hd_o (hs 20 _ rfl) b83 rfl rfl
  have t106 : sy_dv F' (.inr (.inl 106)) = .int ((sy_i F 84) + ((1 : Int32))) := hd_o (hs 21 _ rfl) b84 rfl rfl
  have hB' : iv_in F' iv_B0 := iv_in_eq hB (fun j hj => hF j (Nat.lt_of_lt_of_le hj (by decide +kernel)))
  refine ⟨List.forall_mem_cons.mpr ⟨hd_p5 rfl b84 (by have hc : ((7) : Int32).toInt = 7 := (by decide); omega), List.forall_mem_cons.mpr ⟨hd_pb b84 (by first | exact h1 | exact h1), List.forall_mem_cons.mpr ⟨hd_pb b83 (by first | exact h2 | exact h2), List.forall_mem_cons.mpr ⟨hd_pb b84 (by first | exact h3 | exact h3), List.forall_mem_cons.mpr ⟨hd_pb t87 (by first | exact h4 | exact h4), List.forall_mem_cons.mpr ⟨hd_pb b84 (by first | exact h5 | exact h5), List.forall_mem_cons.mpr ⟨hd_pb t90 (by first | exact h6 | exact h6), List.forall_mem_cons.mpr ⟨hd_pb b84 (by first | exact h7 | exact h7), List.forall_mem_cons.mpr ⟨hd_pb t93 (by first | exact h8 | exact h8), List.forall_mem_cons.mpr ⟨hd_pb b84 (by first | exact h9 | exact h9), List.forall_mem_cons.mpr ⟨hd_pb t96 (by first | exact h10 | exact h10), List.forall_mem_cons.mpr ⟨hd_pb b84 (by first | exact h11 | exact h11), List.forall_mem_cons.mpr ⟨hd_pb t99 (by first | exact h12 | exact h12), List.forall_mem_cons.mpr ⟨hd_pb b84 (by first | exact h13 | exact h13), List.forall_mem_cons.mpr ⟨hd_pb t102 (by first | exact h14 | exact h14), fun _ h => absurd h List.not_mem_nil⟩⟩⟩⟩⟩⟩⟩⟩⟩⟩⟩⟩⟩⟩⟩, ?_⟩
  refine k _ ?_ ?_ ?_ ?_ ?_
  · exact fun j hj hn => (hd_keep hB' (Nat.lt_of_lt_of_le hj (by decide +kernel)) (by simp; omega)).trans (hF j (Nat.lt_of_lt_of_le hj (by decide)))
  · exact hd_ga (a := .inr (.inl 104)) (by decide +kernel) t104
  · exact hd_gi (x := .inr (.inl 82)) (by decide +kernel) b82
  · exact hd_gi (x := .inr (.inl 105)) (by decide +kernel) t105
  · exact hd_gi (x := .inr (.inl 106)) (by decide +kernel) t106
theorem j2svs_46 {Ls : Nat} {xs : Nat → Int32} {d : Nat} {Q : Option Value → jm_h → Prop} (hd : 1 ≤ d) (F : Nat → sy_d) (X1 X2 : List jm_c) (hB : iv_in F iv_B0)
    (a82 : 0 ≤ (sy_i F 82).toInt ∧ (sy_i F 82).toInt ≤ 120)
    (a83 : 3 ≤ (sy_i F 83).toInt ∧ (sy_i F 83).toInt ≤ 172)
    (a84 : 0 ≤ (sy_i F 84).toInt ∧ (sy_i F 84).toInt ≤ 7)
    (k0 : 7 ≤ (sy_i F 84).toInt → ∀ F1 : Nat → sy_d, iv_in F1 iv_B0 → (∀ j, j < 82 → j ∉ ([77] : List Nat) → F1 j = F j) → sy_ai F1 77 = jm_cpy (sy_ai F 61) (jm_cpy (sy_ai F 60) (sy_ai F 77) (0 : Int).toNat ((sy_i F 83).toInt).toNat (4 : Int).toNat) (0 : Int).toNat (((sy_i F 83).toInt + 4)).toNat (4 : Int).toNat → Q (none) (sy_dh F1 X1 X2 (iv_H 2)))
    (k1 : (sy_i F 84).toInt < 7 → ∀ F1 : Nat → sy_d, iv_in F1 iv_B0 → (∀ j, j < 82 → j ∉ ([77] : List Nat) → F1 j = F j) → sy_ai F1 77 = jm_upd (jm_upd (jm_upd (jm_upd (jm_upd (jm_upd (jm_upd (sy_ai F 77) ((sy_i F 83).toInt).toNat ((sy_ai F 53).getD ((sy_i F 84).toInt).toNat 0)) (((sy_i F 83).toInt + 1)).toNat ((sy_ai F 54).getD ((sy_i F 84).toInt).toNat 0)) (((sy_i F 83).toInt + 2)).toNat ((sy_ai F 55).getD ((sy_i F 84).toInt).toNat 0)) (((sy_i F 83).toInt + 3)).toNat ((sy_ai F 56).getD ((sy_i F 84).toInt).toNat 0)) (((sy_i F 83).toInt + 4)).toNat ((sy_ai F 57).getD ((sy_i F 84).toInt).toNat 0)) (((sy_i F 83).toInt + 5)).toNat ((sy_ai F 58).getD ((sy_i F 84).toInt).toNat 0)) (((sy_i F 83).toInt + 6)).toNat ((sy_ai F 59).getD ((sy_i F 84).toInt).toNat 0) → (sy_i F1 82).toInt = (sy_i F 82).toInt → sy_i F1 82 = sy_i F 82 → (sy_i F1 83).toInt = ((sy_i F 83).toInt + 7) → sy_i F1 83 = (sy_i F 83) + ((7 : Int32)) → (sy_i F1 84).toInt = ((sy_i F 84).toInt + 1) → sy_i F1 84 = (sy_i F 84) + ((1 : Int32)) → hd_W Ls xs d jm_M9 Q (46, sy_dL F1 [some (.inl (.ref 46)), some (.inl (.ref 68)), some (.inr (.inl 82)), some (.inr (.inl 83)), some (.inr (.inl 84))], sy_dS F1 [], sy_dh F1 X1 X2 (iv_H 2), 0, 0)) :
    hd_W Ls xs d jm_M9 Q (46, sy_dL F [some (.inl (.ref 46)), some (.inl (.ref 68)), some (.inr (.inl 82)), some (.inr (.inl 83)), some (.inr (.inl 84))], sy_dS F [], sy_dh F X1 X2 (iv_H 2), 0, 0) := by
  by_cases g0 : 7 ≤ (sy_i F 84).toInt
  · have n86 : nzI ((sy_i F 83) + ((4 : Int32))) (((sy_i F 83).toInt + 4)) := nz_add (rfl : (sy_i F 83).toInt = (sy_i F 83).toInt) (by decide : ((4 : Int32)).toInt = 4) (by omega) (by omega)
    have w87 : jm_cpy (sy_ai F 61) (jm_cpy (sy_ai F 60) (sy_ai F 77) ((0 : Int32)).toNatClampNeg (sy_i F 83).toNatClampNeg ((4 : Int32)).toNatClampNeg) ((0 : Int32)).toNatClampNeg ((sy_i F 83) + ((4 : Int32))).toNatClampNeg ((4 : Int32)).toNatClampNeg = jm_cpy (sy_ai F 61) (jm_cpy (sy_ai F 60) (sy_ai F 77) (0 : Int).toNat ((sy_i F 83).toInt).toNat (4 : Int).toNat) (0 : Int).toNat (((sy_i F 83).toInt + 4)).toNat (4 : Int).toNat := by simp only [nz_c, (nzE n86), (by decide : ((0 : Int32)).toInt = 0), (by decide : ((4 : Int32)).toInt = 4)]
    exact j2svs_46_p0 hd F X1 X2 hB (by first | exact g0 | (simp only [nz_c]; exact g0)) (by first | exact ⟨by omega, by omega⟩ | (simp only [nz_c]; exact ⟨by omega, by omega⟩)) (by first | (simp only [nz_c, (nzE n86)]; exact ⟨by omega, by omega⟩) | exact ⟨by omega, by omega⟩ | (rw [(nzE n86)]; exact ⟨by omega, by omega⟩)) (fun F1 g e77 => k0 g0 F1 (nz_in0 hB [77] (fun j hj hn => g j hj (by simp only [List.mem_cons, List.not_mem_nil, or_false, not_or] at hn; omega)) (List.forall_mem_cons.mpr ⟨fun t ht => (Option.some.inj ht) ▸ (nz_hz2 e77), List.forall_mem_nil _⟩)) (fun j hj hn => g j hj (by simp only [List.mem_cons, List.not_mem_nil, or_false, not_or] at hn; omega)) ((zz_ai e77).trans w87))
  replace g0 : (sy_i F 84).toInt < 7 := by omega
  have n87 : nzI ((sy_i F 83) + ((1 : Int32))) (((sy_i F 83).toInt + 1)) := nz_add (rfl : (sy_i F 83).toInt = (sy_i F 83).toInt) (by decide : ((1 : Int32)).toInt = 1) (by omega) (by omega)
  have n90 : nzI ((sy_i F 83) + ((2 : Int32))) (((sy_i F 83).toInt + 2)) := nz_add (rfl : (sy_i F 83).toInt = (sy_i F 83).toInt) (by decide : ((2 : Int32)).toInt = 2) (by omega) (by omega)
  have n93 : nzI ((sy_i F 83) + ((3 : Int32))) (((sy_i F 83).toInt + 3)) := nz_add (rfl : (sy_i F 83).toInt = (sy_i F 83).toInt) (by decide : ((3 : Int32)).toInt = 3) (by omega) (by omega)
  have n96 : nzI ((sy_i F 83) + ((4 : Int32))) (((sy_i F 83).toInt + 4)) := nz_add (rfl : (sy_i F 83).toInt = (sy_i F 83).toInt) (by decide : ((4 : Int32)).toInt = 4) (by omega) (by omega)
  have n99 : nzI ((sy_i F 83) + ((5 : Int32))) (((sy_i F 83).toInt + 5)) := nz_add (rfl : (sy_i F 83).toInt = (sy_i F 83).toInt) (by decide : ((5 : Int32)).toInt = 5) (by omega) (by omega)
  have n102 : nzI ((sy_i F 83) + ((6 : Int32))) (((sy_i F 83).toInt + 6)) := nz_add (rfl : (sy_i F 83).toInt = (sy_i F 83).toInt) (by decide : ((6 : Int32)).toInt = 6) (by omega) (by omega)
  have w104 : jm_upd (jm_upd (jm_upd (jm_upd (jm_upd (jm_upd (jm_upd (sy_ai F 77) (sy_i F 83).toNatClampNeg ((sy_ai F 53).getD (sy_i F 84).toNatClampNeg 0)) ((sy_i F 83) + ((1 : Int32))).toNatClampNeg ((sy_ai F 54).getD (sy_i F 84).toNatClampNeg 0)) ((sy_i F 83) + ((2 : Int32))).toNatClampNeg ((sy_ai F 55).getD (sy_i F 84).toNatClampNeg 0)) ((sy_i F 83) + ((3 : Int32))).toNatClampNeg ((sy_ai F 56).getD (sy_i F 84).toNatClampNeg 0)) ((sy_i F 83) + ((4 : Int32))).toNatClampNeg ((sy_ai F 57).getD (sy_i F 84).toNatClampNeg 0)) ((sy_i F 83) + ((5 : Int32))).toNatClampNeg ((sy_ai F 58).getD (sy_i F 84).toNatClampNeg 0)) ((sy_i F 83) + ((6 : Int32))).toNatClampNeg ((sy_ai F 59).getD (sy_i F 84).toNatClampNeg 0) = jm_upd (jm_upd (jm_upd (jm_upd (jm_upd (jm_upd (jm_upd (sy_ai F 77) ((sy_i F 83).toInt).toNat ((sy_ai F 53).getD ((sy_i F 84).toInt).toNat 0)) (((sy_i F 83).toInt + 1)).toNat ((sy_ai F 54).getD ((sy_i F 84).toInt).toNat 0)) (((sy_i F 83).toInt + 2)).toNat ((sy_ai F 55).getD ((sy_i F 84).toInt).toNat 0)) (((sy_i F 83).toInt + 3)).toNat ((sy_ai F 56).getD ((sy_i F 84).toInt).toNat 0)) (((sy_i F 83).toInt + 4)).toNat ((sy_ai F 57).getD ((sy_i F 84).toInt).toNat 0)) (((sy_i F 83).toInt + 5)).toNat ((sy_ai F 58).getD ((sy_i F 84).toInt).toNat 0)) (((sy_i F 83).toInt + 6)).toNat ((sy_ai F 59).getD ((sy_i F 84).toInt).toNat 0) := by simp only [nz_c, (nzE n87), (nzE n90), (nzE n93), (nzE n96), (nzE n99), (nzE n102), (by decide : ((1 : Int32)).toInt = 1), (by decide : ((2 : Int32)).toInt = 2), (by decide : ((3 : Int32)).toInt = 3), (by decide : ((4 : Int32)).toInt = 4), (by decide : ((5 : Int32)).toInt = 5), (by decide : ((6 : Int32)).toInt = 6)]
  have n105 : nzI ((sy_i F 83) + ((7 : Int32))) (((sy_i F 83).toInt + 7)) := nz_add (rfl : (sy_i F 83).toInt = (sy_i F 83).toInt) (by decide : ((7 : Int32)).toInt = 7) (by omega) (by omega)
  have n106 : nzI ((sy_i F 84) + ((1 : Int32))) (((sy_i F 84).toInt + 1)) := nz_add (rfl : (sy_i F 84).toInt = (sy_i F 84).toInt) (by decide : ((1 : Int32)).toInt = 1) (by omega) (by omega)
  exact j2svs_46_p1 hd F X1 X2 hB (by first | exact g0 | (simp only [nz_c]; exact g0)) (by first | exact ⟨by omega, by omega⟩ | (simp only [nz_c]; exact ⟨by omega, by omega⟩)) (by first | exact ⟨by omega, by omega⟩ | (simp only [nz_c]; exact ⟨by omega, by omega⟩)) (by first | exact ⟨by omega, by omega⟩ | (simp only [nz_c]; exact ⟨by omega, by omega⟩)) (by first | (simp only [nz_c, (nzE n87)]; exact ⟨by omega, by omega⟩) | exact ⟨by omega, by omega⟩ | (rw [(nzE n87)]; exact ⟨by omega, by omega⟩)) (by first | exact ⟨by omega, by omega⟩ | (simp only [nz_c]; exact ⟨by omega, by omega⟩)) (by first | (simp only [nz_c, (nzE n90)]; exact ⟨by omega, by omega⟩) | exact ⟨by omega, by omega⟩ | (rw [(nzE n90)]; exact ⟨by omega, by omega⟩)) (by first | exact ⟨by omega, by omega⟩ | (simp only [nz_c]; exact ⟨by omega, by omega⟩)) (by first | (simp only [nz_c, (nzE n93)]; exact ⟨by omega, by omega⟩) | exact ⟨by omega, by omega⟩ | (rw [(nzE n93)]; exact ⟨by omega, by omega⟩)) (by first | exact ⟨by omega, by omega⟩ | (simp only [nz_c]; exact ⟨by omega, by omega⟩)) (by first | (simp only [nz_c, (nzE n96)]; exact ⟨by omega, by omega⟩) | exact ⟨by omega, by omega⟩ | (rw [(nzE n96)]; exact ⟨by omega, by omega⟩)) (by first | exact ⟨by omega, by omega⟩ | (simp only [nz_c]; exact ⟨by omega, by omega⟩)) (by first | (simp only [nz_c, (nzE n99)]; exact ⟨by omega, by omega⟩) | exact ⟨by omega, by omega⟩ | (rw [(nzE n99)]; exact ⟨by omega, by omega⟩)) (by first | exact ⟨by omega, by omega⟩ | (simp only [nz_c]; exact ⟨by omega, by omega⟩)) (by first | (simp only [nz_c, (nzE n102)]; exact ⟨by omega, by omega⟩) | exact ⟨by omega, by omega⟩ | (rw [(nzE n102)]; exact ⟨by omega, by omega⟩)) (fun F1 g e77 e82 e83 e84 => k1 g0 F1 (nz_in0 hB [77] (fun j hj hn => g j hj (by simp only [List.mem_cons, List.not_mem_nil, or_false, not_or] at hn; omega)) (List.forall_mem_cons.mpr ⟨fun t ht => (Option.some.inj ht) ▸ (nz_hz2 e77), List.forall_mem_nil _⟩)) (fun j hj hn => g j hj (by simp only [List.mem_cons, List.not_mem_nil, or_false, not_or] at hn; omega)) ((zz_ai e77).trans w104) ((congrArg Int32.toInt (zz_i e82)).trans (rfl : (sy_i F 82).toInt = (sy_i F 82).toInt)) ((zz_i e82).trans (rfl : sy_i F 82 = sy_i F 82)) ((congrArg Int32.toInt (zz_i e83)).trans (nzE n105)) ((zz_i e83).trans (rfl : (sy_i F 83) + ((7 : Int32)) = (sy_i F 83) + ((7 : Int32)))) ((congrArg Int32.toInt (zz_i e84)).trans (nzE n106)) ((zz_i e84).trans (rfl : (sy_i F 84) + ((1 : Int32)) = (sy_i F 84) + ((1 : Int32)))))
theorem j2lds_0_p0 {Ls : Nat} {xs : Nat → Int32} {d : Nat} {Q : Option Value → jm_h → Prop} (hd : 1 ≤ d) (F : Nat → sy_d) (X1 X2 : List jm_c) (hB : iv_in F iv_B0)
    (h0 : 0 ≤ (sy_i F 82).toInt)
    (h1 : (sy_i F 82).toInt ≤ 120)
    (h2 : 0 ≤ (sy_i F 82).toInt ∧ (sy_i F 82).toInt < 180)
    (h3 : 0 ≤ ((sy_i F 82) + ((1 : Int32))).toInt ∧ ((sy_i F 82) + ((1 : Int32))).toInt < 180)
    (h4 : 0 ≤ ((sy_i F 82) + ((2 : Int32))).toInt ∧ ((sy_i F 82) + ((2 : Int32))).toInt < 180)
    (k : ∀ F1 : Nat → sy_d, (∀ j, j < 82 → j ≠ 50 ∧ j ≠ 51 ∧ j ≠ 52 → F1 j = F j) → F1 50 = .inl (.int ((sy_ai F 77).getD (sy_i F 82).toNatClampNeg 0)) → F1 51 = .inl (.int ((sy_ai F 77).getD ((sy_i F 82) + ((1 : Int32))).toNatClampNeg 0)) → F1 52 = .inl (.int ((sy_ai F 77).getD ((sy_i F 82) + ((2 : Int32))).toNatClampNeg 0)) → F1 82 = .inl (.int (sy_i F 82)) → F1 83 = .inl (.int ((sy_i F 82) + ((3 : Int32)))) → F1 84 = .inl (.int ((0 : Int32))) → hd_W Ls xs d jm_M10 Q (46, sy_dL F1 [some (.inl (.ref 46)), some (.inl (.ref 68)), some (.inr (.inl 82)), some (.inr (.inl 83)), some (.inr (.inl 84))], sy_dS F1 [], sy_dh F1 X1 X2 (iv_H 2), 0, 0)) :
    hd_W Ls xs d jm_M10 Q (0, sy_dL F [some (.inl (.ref 46)), some (.inl (.ref 68)), some (.inr (.inl 82)), none, none], sy_dS F [], sy_dh F X1 X2 (iv_H 2), 0, 0) := by
  refine hd_run (s := 2) (nv := 83) (pc := 46) (L := [some (.inl (.ref 46)), some (.inl (.ref 68)), some (.inr (.inl 82)), some (.inr (.inl 83)), some (.inr (.inl 84))]) (S := []) (uh := hd_ov (iv_id 0 iv_B0) [(50, .inl (.inr (.inl 83))), (51, .inl (.inr (.inl 85))), (52, .inl (.inr (.inl 87)))]) (ul := [.inl (.inr (.inl 82)), .inl (.inr (.inl 88)), .inl (.inl (.int 0))]) (f := true) (sp := [46]) (d0 := 0) (O := [false, true]) (T := [(30, [.inr (.inl 82)], [.inr (.inl 77)]), (0, [.inr (.inl 82), .inl (.int 1)], []), (30, [.inr (.inl 84)], [.inr (.inl 77)]), (0, [.inr (.inl 82), .inl (.int 2)], []), (30, [.inr (.inl 86)], [.inr (.inl 77)]), (0, [.inr (.inl 82), .inl (.int 3)], [])]) (P := [(3, .inr (.inl 82), .inl (.int 0)), (4, .inr (.inl 82), .inl (.int 120)), (6, .inr (.inl 82), .inl (.ref 180)), (6, .inr (.inl 84), .inl (.ref 180)), (6, .inr (.inl 86), .inl (.ref 180))]) jm_ok10 (by decide +kernel) (by decide +kernel) hd F X1 X2 (fun F' hF hs => ?_)
  have b82 := hd_b (F := F) (F' := F') (k := 82) (hF 82 (by decide))
  have t84 : sy_dv F' (.inr (.inl 84)) = .int ((sy_i F 82) + ((1 : Int32))) := hd_o (hs 1 _ rfl) b82 rfl rfl
  have t86 : sy_dv F' (.inr (.inl 86)) = .int ((sy_i F 82) + ((2 : Int32))) := hd_o (hs 3 _ rfl) b82 rfl rfl
  have a77 := hd_ba (F := F) (F' := F') (k := 77) (hF 77 (by decide))
  have t83 : sy_dv F' (.inr (.inl 83)) = .int ((sy_ai F 77).getD (sy_i F 82).toNatClampNeg 0) := hd_rd (hs 0 _ rfl) b82 a77
  have t85 : sy_dv F' (.inr (.inl 85)) = .int ((sy_ai F 77).getD ((sy_i F 82) + ((1 : Int32))).toNatClampNeg 0) := hd_rd (hs 2 _ rfl) t84 a77
  have t87 : sy_dv F' (.inr (.inl 87)) = .int ((sy_ai F 77).getD ((sy_i F 82) + ((2 : Int32))).toNatClampNeg 0) := hd_rd (hs 4 _ rfl) t86 a77
  have t88 : sy_dv F' (.inr (.inl 88)) = .int ((sy_i F 82) + ((3 : Int32))) := hd_o (hs 5 _ rfl) b82 rfl rfl
  have hB' : iv_in F' iv_B0 := iv_in_eq hB (fun j hj => hF j (Nat.lt_of_lt_of_le hj (by decide +kernel)))
  refine ⟨List.forall_mem_cons.mpr ⟨hd_p3 b82 rfl (by have hc : ((0) : Int32).toInt = 0 := (by decide); omega), List.forall_mem_cons.mpr ⟨hd_p4 b82 rfl (by have hc : ((120) : Int32).toInt = 120 := (by decide); omega), List.forall_mem_cons.mpr ⟨hd_pb b82 (by first | exact h2 | exact h2), List.forall_mem_cons.mpr ⟨hd_pb t84 (by first | exact h3 | exact h3), List.forall_mem_cons.mpr ⟨hd_pb t86 (by first | exact h4 | exact h4), fun _ h => absurd h List.not_mem_nil⟩⟩⟩⟩⟩, ?_⟩
  refine k _ ?_ ?_ ?_ ?_ ?_ ?_ ?_
  · exact fun j hj hn => (hd_keep hB' (Nat.lt_of_lt_of_le hj (by decide +kernel)) (by simp; omega)).trans (hF j (Nat.lt_of_lt_of_le hj (by decide)))
  · exact hd_gi (x := .inr (.inl 83)) (by decide +kernel) t83
  · exact hd_gi (x := .inr (.inl 85)) (by decide +kernel) t85
  · exact hd_gi (x := .inr (.inl 87)) (by decide +kernel) t87
  · exact hd_gi (x := .inr (.inl 82)) (by decide +kernel) b82
  · exact hd_gi (x := .inr (.inl 88)) (by decide +kernel) t88
  · exact hd_gi (x := .inl (.int 0)) (by decide +kernel) rfl
theorem j2lds_0 {Ls : Nat} {xs : Nat → Int32} {d : Nat} {Q : Option Value → jm_h → Prop} (hd : 1 ≤ d) (F : Nat → sy_d) (X1 X2 : List jm_c) (hB : iv_in F iv_B0)
    (a82 : 0 ≤ (sy_i F 82).toInt ∧ (sy_i F 82).toInt ≤ 120)
    (k0 : 0 ≤ (sy_i F 82).toInt → (sy_i F 82).toInt ≤ 120 → ∀ F1 : Nat → sy_d, iv_in F1 iv_B0 → (∀ j, j < 82 → j ∉ ([50, 51, 52] : List Nat) → F1 j = F j) → (sy_i F1 50).toInt = ((sy_ai F 77).getD ((sy_i F 82).toInt).toNat 0).toInt → sy_i F1 50 = (sy_ai F 77).getD ((sy_i F 82).toInt).toNat 0 → (sy_i F1 51).toInt = ((sy_ai F 77).getD (((sy_i F 82).toInt + 1)).toNat 0).toInt → sy_i F1 51 = (sy_ai F 77).getD (((sy_i F 82).toInt + 1)).toNat 0 → (sy_i F1 52).toInt = ((sy_ai F 77).getD (((sy_i F 82).toInt + 2)).toNat 0).toInt → sy_i F1 52 = (sy_ai F 77).getD (((sy_i F 82).toInt + 2)).toNat 0 → (sy_i F1 82).toInt = (sy_i F 82).toInt → sy_i F1 82 = sy_i F 82 → (sy_i F1 83).toInt = ((sy_i F 82).toInt + 3) → sy_i F1 83 = (sy_i F 82) + ((3 : Int32)) → (sy_i F1 84).toInt = 0 → sy_i F1 84 = (0 : Int32) → hd_W Ls xs d jm_M10 Q (46, sy_dL F1 [some (.inl (.ref 46)), some (.inl (.ref 68)), some (.inr (.inl 82)), some (.inr (.inl 83)), some (.inr (.inl 84))], sy_dS F1 [], sy_dh F1 X1 X2 (iv_H 2), 0, 0)) :
    hd_W Ls xs d jm_M10 Q (0, sy_dL F [some (.inl (.ref 46)), some (.inl (.ref 68)), some (.inr (.inl 82)), none, none], sy_dS F [], sy_dh F X1 X2 (iv_H 2), 0, 0) := by
  by_cases g0 : (sy_i F 82).toInt < 0
  · exfalso
    omega
  replace g0 : 0 ≤ (sy_i F 82).toInt := by omega
  by_cases g1 : (sy_i F 82).toInt ≤ 120
  · have n84 : nzI ((sy_i F 82) + ((1 : Int32))) (((sy_i F 82).toInt + 1)) := nz_add (rfl : (sy_i F 82).toInt = (sy_i F 82).toInt) (by decide : ((1 : Int32)).toInt = 1) (by omega) (by omega)
    have n86 : nzI ((sy_i F 82) + ((2 : Int32))) (((sy_i F 82).toInt + 2)) := nz_add (rfl : (sy_i F 82).toInt = (sy_i F 82).toInt) (by decide : ((2 : Int32)).toInt = 2) (by omega) (by omega)
    have q83 : (sy_ai F 77).getD (sy_i F 82).toNatClampNeg 0 = (sy_ai F 77).getD ((sy_i F 82).toInt).toNat 0 := by simp only [nz_c]
    have n83 : nzI ((sy_ai F 77).getD (sy_i F 82).toNatClampNeg 0) (((sy_ai F 77).getD ((sy_i F 82).toInt).toNat 0).toInt) := congrArg Int32.toInt q83
    have q85 : (sy_ai F 77).getD ((sy_i F 82) + ((1 : Int32))).toNatClampNeg 0 = (sy_ai F 77).getD (((sy_i F 82).toInt + 1)).toNat 0 := by simp only [nz_c, (nzE n84), (by decide : ((1 : Int32)).toInt = 1)]
    have n85 : nzI ((sy_ai F 77).getD ((sy_i F 82) + ((1 : Int32))).toNatClampNeg 0) (((sy_ai F 77).getD (((sy_i F 82).toInt + 1)).toNat 0).toInt) := congrArg Int32.toInt q85
    have q87 : (sy_ai F 77).getD ((sy_i F 82) + ((2 : Int32))).toNatClampNeg 0 = (sy_ai F 77).getD (((sy_i F 82).toInt + 2)).toNat 0 := by simp only [nz_c, (nzE n86), (by decide : ((2 : Int32)).toInt = 2)]
    have n87 : nzI ((sy_ai F 77).getD ((sy_i F 82) + ((2 : Int32))).toNatClampNeg 0) (((sy_ai F 77).getD (((sy_i F 82).toInt + 2)).toNat 0).toInt) := congrArg Int32.toInt q87
    have n88 : nzI ((sy_i F 82) + ((3 : Int32))) (((sy_i F 82).toInt + 3)) := nz_add (rfl : (sy_i F 82).toInt = (sy_i F 82).toInt) (by decide : ((3 : Int32)).toInt = 3) (by omega) (by omega)
    exact j2lds_0_p0 hd F X1 X2 hB (by first | exact g0 | (simp only [nz_c]; exact g0)) (by first | exact g1 | (simp only [nz_c]; exact g1)) (by first | exact ⟨by omega, by omega⟩ | (simp only [nz_c]; exact ⟨by omega, by omega⟩)) (by first | (simp only [nz_c, (nzE n84)]; exact ⟨by omega, by omega⟩) | exact ⟨by omega, by omega⟩ | (rw [(nzE n84)]; exact ⟨by omega, by omega⟩)) (by first | (simp only [nz_c, (nzE n86)]; exact ⟨by omega, by omega⟩) | exact ⟨by omega, by omega⟩ | (rw [(nzE n86)]; exact ⟨by omega, by omega⟩)) (fun F1 g e50 e51 e52 e82 e83 e84 => k0 g0 g1 F1 (nz_in0 hB [50, 51, 52] (fun j hj hn => g j hj (by simp only [List.mem_cons, List.not_mem_nil, or_false, not_or] at hn; omega)) (List.forall_mem_cons.mpr ⟨fun t ht => (Option.some.inj ht) ▸ (nz_hz e50), List.forall_mem_cons.mpr ⟨fun t ht => (Option.some.inj ht) ▸ (nz_hz e51), List.forall_mem_cons.mpr ⟨fun t ht => (Option.some.inj ht) ▸ (nz_hz e52), List.forall_mem_nil _⟩⟩⟩)) (fun j hj hn => g j hj (by simp only [List.mem_cons, List.not_mem_nil, or_false, not_or] at hn; omega)) ((congrArg Int32.toInt (zz_i e50)).trans (nzE n83)) ((zz_i e50).trans q83) ((congrArg Int32.toInt (zz_i e51)).trans (nzE n85)) ((zz_i e51).trans q85) ((congrArg Int32.toInt (zz_i e52)).trans (nzE n87)) ((zz_i e52).trans q87) ((congrArg Int32.toInt (zz_i e82)).trans (rfl : (sy_i F 82).toInt = (sy_i F 82).toInt)) ((zz_i e82).trans (rfl : sy_i F 82 = sy_i F 82)) ((congrArg Int32.toInt (zz_i e83)).trans (nzE n88)) ((zz_i e83).trans (rfl : (sy_i F 82) + ((3 : Int32)) = (sy_i F 82) + ((3 : Int32)))) ((congrArg Int32.toInt (zz_i e84)).trans (by decide : ((0 : Int32)).toInt = 0)) ((zz_i e84).trans (rfl : (0 : Int32) = (0 : Int32))))
  replace g1 : 120 < (sy_i F 82).toInt := by omega
  exfalso
  omega
theorem j2lds_46_p0 {Ls : Nat} {xs : Nat → Int32} {d : Nat} {Q : Option Value → jm_h → Prop} (hd : 1 ≤ d) (F : Nat → sy_d) (X1 X2 : List jm_c) (hB : iv_in F iv_B0)
    (h0 : 7 ≤ (sy_i F 84).toInt)
    (h1 : 0 ≤ (sy_i F 83).toInt ∧ (sy_i F 83).toInt < 177)
    (h2 : 0 ≤ ((sy_i F 83) + ((4 : Int32))).toInt ∧ ((sy_i F 83) + ((4 : Int32))).toInt < 177)
    (k : ∀ F1 : Nat → sy_d, (∀ j, j < 82 → j ≠ 60 ∧ j ≠ 61 → F1 j = F j) → F1 60 = .inr (.inl (jm_cpy (sy_ai F 77) (sy_ai F 60) (sy_i F 83).toNatClampNeg ((0 : Int32)).toNatClampNeg ((4 : Int32)).toNatClampNeg)) → F1 61 = .inr (.inl (jm_cpy (sy_ai F 77) (sy_ai F 61) ((sy_i F 83) + ((4 : Int32))).toNatClampNeg ((0 : Int32)).toNatClampNeg ((4 : Int32)).toNatClampNeg)) → Q (none) (sy_dh F1 X1 X2 (iv_H 2))) :
    hd_W Ls xs d jm_M10 Q (46, sy_dL F [some (.inl (.ref 46)), some (.inl (.ref 68)), some (.inr (.inl 82)), some (.inr (.inl 83)), some (.inr (.inl 84))], sy_dS F [], sy_dh F X1 X2 (iv_H 2), 0, 0) := by
  refine hd_ret (s := 2) (nv := 85) (v := none) (uh := hd_ov (iv_id 0 iv_B0) [(60, .inr (.inr (.inl 85))), (61, .inr (.inr (.inl 87)))]) (f := true) (sp := [46]) (d0 := 0) (O := [true]) (T := [(42, [.inr (.inl 83), .inl (.int 0), .inl (.int 4)], [.inr (.inl 77), .inr (.inl 60)]), (0, [.inr (.inl 83), .inl (.int 4)], []), (42, [.inr (.inl 86), .inl (.int 0), .inl (.int 4)], [.inr (.inl 77), .inr (.inl 61)])]) (P := [(4, .inl (.int 7), .inr (.inl 84)), (6, .inr (.inl 83), .inl (.ref 177)), (6, .inr (.inl 86), .inl (.ref 177))]) jm_ok10 (by decide +kernel) (by decide +kernel) hd F X1 X2 (fun F' hF hs => ?_)
  have b84 := hd_b (F := F) (F' := F') (k := 84) (hF 84 (by decide))
  have b83 := hd_b (F := F) (F' := F') (k := 83) (hF 83 (by decide))
  have t86 : sy_dv F' (.inr (.inl 86)) = .int ((sy_i F 83) + ((4 : Int32))) := hd_o (hs 1 _ rfl) b83 rfl rfl
  have a77 := hd_ba (F := F) (F' := F') (k := 77) (hF 77 (by decide))
  have a60 := hd_ba (F := F) (F' := F') (k := 60) (hF 60 (by decide))
  have t85 : sy_da F' (.inr (.inl 85)) = .inl (jm_cpy (sy_ai F 77) (sy_ai F 60) (sy_i F 83).toNatClampNeg ((0 : Int32)).toNatClampNeg ((4 : Int32)).toNatClampNeg) := hd_cp (hs 0 _ rfl) b83 rfl rfl a77 a60
  have a61 := hd_ba (F := F) (F' := F') (k := 61) (hF 61 (by decide))
  have t87 : sy_da F' (.inr (.inl 87)) = .inl (jm_cpy (sy_ai F 77) (sy_ai F 61) ((sy_i F 83) + ((4 : Int32))).toNatClampNeg ((0 : Int32)).toNatClampNeg ((4 : Int32)).toNatClampNeg) := hd_cp (hs 2 _ rfl) t86 rfl rfl a77 a61
  have hB' : iv_in F' iv_B0 := iv_in_eq hB (fun j hj => hF j (Nat.lt_of_lt_of_le hj (by decide +kernel)))
  refine ⟨List.forall_mem_cons.mpr ⟨hd_p4 rfl b84 (by have hc : ((7) : Int32).toInt = 7 := (by decide); omega), List.forall_mem_cons.mpr ⟨hd_pb b83 (by first | exact h1 | exact h1), List.forall_mem_cons.mpr ⟨hd_pb t86 (by first | exact h2 | exact h2), fun _ h => absurd h List.not_mem_nil⟩⟩⟩, ?_⟩
  refine k _ ?_ ?_ ?_
  · exact fun j hj hn => (hd_keep hB' (Nat.lt_of_lt_of_le hj (by decide +kernel)) (by simp; omega)).trans (hF j (Nat.lt_of_lt_of_le hj (by decide)))
  · exact hd_ga (a := .inr (.inl 85)) (by decide +kernel) t85
  · exact hd_ga (a := .inr (.inl 87)) (by decide +kernel) t87
theorem j2lds_46_p1 {Ls : Nat} {xs : Nat → Int32} {d : Nat} {Q : Option Value → jm_h → Prop} (hd : 1 ≤ d) (F : Nat → sy_d) (X1 X2 : List jm_c) (hB : iv_in F iv_B0)
    (h0 : (sy_i F 84).toInt < 7)
    (h1 : 0 ≤ (sy_i F 83).toInt ∧ (sy_i F 83).toInt < 180)
    (h2 : 0 ≤ (sy_i F 84).toInt ∧ (sy_i F 84).toInt < 7)
    (h3 : 0 ≤ ((sy_i F 83) + ((1 : Int32))).toInt ∧ ((sy_i F 83) + ((1 : Int32))).toInt < 180)
    (h4 : 0 ≤ (sy_i F 84).toInt ∧ (sy_i F 84).toInt < 7)
    (h5 : 0 ≤ ((sy_i F 83) + ((2 : Int32))).toInt ∧ ((sy_i F 83) + ((2 : Int32))).toInt < 180)
    (h6 : 0 ≤ (sy_i F 84).toInt ∧ (sy_i F 84).toInt < 7)
    (h7 : 0 ≤ ((sy_i F 83) + ((3 : Int32))).toInt ∧ ((sy_i F 83) + ((3 : Int32))).toInt < 180)
    (h8 : 0 ≤ (sy_i F 84).toInt ∧ (sy_i F 84).toInt < 7)
    (h9 : 0 ≤ ((sy_i F 83) + ((4 : Int32))).toInt ∧ ((sy_i F 83) + ((4 : Int32))).toInt < 180)
    (h10 : 0 ≤ (sy_i F 84).toInt ∧ (sy_i F 84).toInt < 7)
    (h11 : 0 ≤ ((sy_i F 83) + ((5 : Int32))).toInt ∧ ((sy_i F 83) + ((5 : Int32))).toInt < 180)
    (h12 : 0 ≤ (sy_i F 84).toInt ∧ (sy_i F 84).toInt < 7)
    (h13 : 0 ≤ ((sy_i F 83) + ((6 : Int32))).toInt ∧ ((sy_i F 83) + ((6 : Int32))).toInt < 180)
    (h14 : 0 ≤ (sy_i F 84).toInt ∧ (sy_i F 84).toInt < 7)
    (k : ∀ F1 : Nat → sy_d, (∀ j, j < 82 → j ≠ 53 ∧ j ≠ 54 ∧ j ≠ 55 ∧ j ≠ 56 ∧ j ≠ 57 ∧ j ≠ 58 ∧ j ≠ 59 → F1 j = F j) → F1 53 = .inr (.inl (jm_upd (sy_ai F 53) (sy_i F 84).toNatClampNeg ((sy_ai F 77).getD (sy_i F 83).toNatClampNeg 0))) → F1 54 = .inr (.inl (jm_upd (sy_ai F 54) (sy_i F 84).toNatClampNeg ((sy_ai F 77).getD ((sy_i F 83) + ((1 : Int32))).toNatClampNeg 0))) → F1 55 = .inr (.inl (jm_upd (sy_ai F 55) (sy_i F 84).toNatClampNeg ((sy_ai F 77).getD ((sy_i F 83) + ((2 : Int32))).toNatClampNeg 0))) → F1 56 = .inr (.inl (jm_upd (sy_ai F 56) (sy_i F 84).toNatClampNeg ((sy_ai F 77).getD ((sy_i F 83) + ((3 : Int32))).toNatClampNeg 0))) → F1 57 = .inr (.inl (jm_upd (sy_ai F 57) (sy_i F 84).toNatClampNeg ((sy_ai F 77).getD ((sy_i F 83) + ((4 : Int32))).toNatClampNeg 0))) → F1 58 = .inr (.inl (jm_upd (sy_ai F 58) (sy_i F 84).toNatClampNeg ((sy_ai F 77).getD ((sy_i F 83) + ((5 : Int32))).toNatClampNeg 0))) → F1 59 = .inr (.inl (jm_upd (sy_ai F 59) (sy_i F 84).toNatClampNeg ((sy_ai F 77).getD ((sy_i F 83) + ((6 : Int32))).toNatClampNeg 0))) → F1 82 = .inl (.int (sy_i F 82)) → F1 83 = .inl (.int ((sy_i F 83) + ((7 : Int32)))) → F1 84 = .inl (.int ((sy_i F 84) + ((1 : Int32)))) → hd_W Ls xs d jm_M10 Q (46, sy_dL F1 [some (.inl (.ref 46)), some (.inl (.ref 68)), some (.inr (.inl 82)), some (.inr (.inl 83)), some (.inr (.inl 84))], sy_dS F1 [], sy_dh F1 X1 X2 (iv_H 2), 0, 0)) :
    hd_W Ls xs d jm_M10 Q (46, sy_dL F [some (.inl (.ref 46)), some (.inl (.ref 68)), some (.inr (.inl 82)), some (.inr (.inl 83)), some (.inr (.inl 84))], sy_dS F [], sy_dh F X1 X2 (iv_H 2), 0, 0) := by
  refine hd_run (s := 2) (nv := 85) (pc := 46) (L := [some (.inl (.ref 46)), some (.inl (.ref 68)), some (.inr (.inl 82)), some (.inr (.inl 83)), some (.inr (.inl 84))]) (S := []) (uh := hd_ov (iv_id 0 iv_B0) [(53, .inr (.inr (.inl 86))), (54, .inr (.inr (.inl 89))), (55, .inr (.inr (.inl 92))), (56, .inr (.inr (.inl 95))), (57, .inr (.inr (.inl 98))), (58, .inr (.inr (.inl 101))), (59, .inr (.inr (.inl 104)))]) (ul := [.inl (.inr (.inl 82)), .inl (.inr (.inl 105)), .inl (.inr (.inl 106))]) (f := true) (sp := [46]) (d0 := 0) (O := [false]) (T := [(30, [.inr (.inl 83)], [.inr (.inl 77)]), (40, [.inr (.inl 84), .inr (.inl 85)], [.inr (.inl 53)]), (0, [.inr (.inl 83), .inl (.int 1)], []), (30, [.inr (.inl 87)], [.inr (.inl 77)]), (40, [.inr (.inl 84), .inr (.inl 88)], [.inr (.inl 54)]), (0, [.inr (.inl 83), .inl (.int 2)], []), (30, [.inr (.inl 90)], [.inr (.inl 77)]), (40, [.inr (.inl 84), .inr (.inl 91)], [.inr (.inl 55)]), (0, [.inr (.inl 83), .inl (.int 3)], []), (30, [.inr (.inl 93)], [.inr (.inl 77)]), (40, [.inr (.inl 84), .inr (.inl 94)], [.inr (.inl 56)]), (0, [.inr (.inl 83), .inl (.int 4)], []), (30, [.inr (.inl 96)], [.inr (.inl 77)]), (40, [.inr (.inl 84), .inr (.inl 97)], [.inr (.inl 57)]), (0, [.inr (.inl 83), .inl (.int 5)], []), (30, [.inr (.inl 99)], [.inr (.inl 77)]), (40, [.inr (.inl 84), .inr (.inl 100)], [.inr (.inl 58)]), (0, [.inr (.inl 83), .inl (.int 6)], []), (30, [.inr (.inl 102)], [.inr (.inl 77)]), (40, [.inr (.inl 84), .inr (.inl 103)], [.inr (.inl 59)]), (0, [.inr (.inl 83), .inl (.int 7)], []), (0, [.inr (.inl 84), .inl (.int 1)], [])]) (P := [(5, .inl (.int 7), .inr (.inl 84)), (6, .inr (.inl 83), .inl (.ref 180)), (6, .inr (.inl 84), .inl (.ref 7)), (6, .inr (.inl 87), .inl (.ref 180)), (6, .inr (.inl 84), .inl (.ref 7)), (6, .inr (.inl 90), .inl (.ref 180)), (6, .inr (.inl 84), .inl (.ref 7)), (6, .inr (.inl 93), .inl (.ref 180)), (6, .inr (.inl 84), .inl (.ref 7)), (6, .inr (.inl 96), .inl (.ref 180)), (6, .inr (.inl 84), .inl (.ref 7)), (6, .inr (.inl 99), .inl (.ref 180)), (6, .inr (.inl 84), .inl (.ref 7)), (6, .inr (.inl 102), .inl (.ref 180)), (6, .inr (.inl 84), .inl (.ref 7))]) jm_ok10 (by decide +kernel) (by decide +kernel) hd F X1 X2 (fun F' hF hs => ?_)
  have b84 := hd_b (F := F) (F' := F') (k := 84) (hF 84 (by decide))
  have b83 := hd_b (F := F) (F' := F') (k := 83) (hF 83 (by decide))
  have t87 : sy_dv F' (.inr (.inl 87)) = .int ((sy_i F 83) + ((1 : Int32))) := hd_o (hs 2 _ rfl) b83 rfl rfl
  have t90 : sy_dv F' (.inr (.inl 90)) = .int ((sy_i F 83) + ((2 : Int32))) := hd_o (hs 5 _ rfl) b83 rfl rfl
  have t93 : sy_dv F' (.inr (.inl 93)) = .int ((sy_i F 83) + ((3 : Int32))) := hd_o (hs 8 _ rfl) b83 rfl rfl
  have t96 : sy_dv F' (.inr (.inl 96)) = .int ((sy_i F 83) + ((4 : Int32))) := hd_o (hs 11 _ rfl) b83 rfl rfl
  have t99 : sy_dv F' (.inr (.inl 99)) = .int ((sy_i F 83) + ((5 : Int32))) := hd_o (hs 14 _ rfl) b83 rfl rfl
  have t102 : sy_dv F' (.inr (.inl 102)) = .int ((sy_i F 83) + ((6 : Int32))) := hd_o (hs 17 _ rfl) b83 rfl rfl
  have a77 := hd_ba (F := F) (F' := F') (k := 77) (hF 77 (by decide))
  have t85 : sy_dv F' (.inr (.inl 85)) = .int ((sy_ai F 77).getD (sy_i F 83).toNatClampNeg 0) := hd_rd (hs 0 _ rfl) b83 a77
  have a53 := hd_ba (F := F) (F' := F') (k := 53) (hF 53 (by decide))
  have t86 : sy_da F' (.inr (.inl 86)) = .inl (jm_upd (sy_ai F 53) (sy_i F 84).toNatClampNeg ((sy_ai F 77).getD (sy_i F 83).toNatClampNeg 0)) := hd_up (hs 1 _ rfl) b84 t85 a53
  have t88 : sy_dv F' (.inr (.inl 88)) = .int ((sy_ai F 77).getD ((sy_i F 83) + ((1 : Int32))).toNatClampNeg 0) := hd_rd (hs 3 _ rfl) t87 a77
  have a54 := hd_ba (F := F) (F' := F') (k := 54) (hF 54 (by decide))
  have t89 : sy_da F' (.inr (.inl 89)) = .inl (jm_upd (sy_ai F 54) (sy_i F 84).toNatClampNeg ((sy_ai F 77).getD ((sy_i F 83) + ((1 : Int32))).toNatClampNeg 0)) := hd_up (hs 4 _ rfl) b84 t88 a54
  have t91 : sy_dv F' (.inr (.inl 91)) = .int ((sy_ai F 77).getD ((sy_i F 83) + ((2 : Int32))).toNatClampNeg 0) := hd_rd (hs 6 _ rfl) t90 a77
  have a55 := hd_ba (F := F) (F' := F') (k := 55) (hF 55 (by decide))
  have t92 : sy_da F' (.inr (.inl 92)) = .inl (jm_upd (sy_ai F 55) (sy_i F 84).toNatClampNeg ((sy_ai F 77).getD ((sy_i F 83) + ((2 : Int32))).toNatClampNeg 0)) := hd_up (hs 7 _ rfl) b84 t91 a55
  have t94 : sy_dv F' (.inr (.inl 94)) = .int ((sy_ai F 77).getD ((sy_i F 83) + ((3 : Int32))).toNatClampNeg 0) := hd_rd (hs 9 _ rfl) t93 a77
  have a56 := hd_ba (F := F) (F' := F') (k := 56) (hF 56 (by decide))
  have t95 : sy_da F' (.inr (.inl 95)) = .inl (jm_upd (sy_ai F 56) (sy_i F 84).toNatClampNeg ((sy_ai F 77).getD ((sy_i F 83) + ((3 : Int32))).toNatClampNeg 0)) := hd_up (hs 10 _ rfl) b84 t94 a56
  have t97 : sy_dv F' (.inr (.inl 97)) = .int ((sy_ai F 77).getD ((sy_i F 83) + ((4 : Int32))).toNatClampNeg 0) := hd_rd (hs 12 _ rfl) t96 a77
  have a57 := hd_ba (F := F) (F' := F') (k := 57) (hF 57 (by decide))
  have t98 : sy_da F' (.inr (.inl 98)) = .inl (jm_upd (sy_ai F 57) (sy_i F 84).toNatClampNeg ((sy_ai F 77).getD ((sy_i F 83) + ((4 : Int32))).toNatClampNeg 0)) := hd_up (hs 13 _ rfl) b84 t97 a57
  have t100 : sy_dv F' (.inr (.inl 100)) = .int ((sy_ai F 77).getD ((sy_i F 83) + ((5 : Int32))).toNatClampNeg 0) := hd_rd (hs 15 _ rfl) t99 a77
  have a58 := hd_ba (F := F) (F' := F') (k := 58) (hF 58 (by decide))
  have t101 : sy_da F' (.inr (.inl 101)) = .inl (jm_upd (sy_ai F 58) (sy_i F 84).toNatClampNeg ((sy_ai F 77).getD ((sy_i F 83) + ((5 : Int32))).toNatClampNeg 0)) := hd_up (hs 16 _ rfl) b84 t100 a58
  have t103 : sy_dv F' (.inr (.inl 103)) = .int ((sy_ai F 77).getD ((sy_i F 83) + ((6 : Int32))).toNatClampNeg 0) := hd_rd (hs 18 _ rfl) t102 a77
  have a59 := hd_ba (F := F) (F' := F') (k := 59) (hF 59 (by decide))
  have t104 : sy_da F' (.inr (.inl 104)) = .inl (jm_upd (sy_ai F 59) (sy_i F 84).toNatClampNeg ((sy_ai F 77).getD ((sy_i F 83) + ((6 : Int32))).toNatClampNeg 0)) := hd_up (hs 19 _ rfl) b84 t103 a59
  have b82 := hd_b (F := F) (F' := F') (k := 82) (hF 82 (by decide))
  have t105 : sy_dv F' (.inr (.inl 105)) = .int ((sy_i F 83) + ((7 : Int32))) := hd_o (hs 20 _ rfl) b83 rfl rfl
  have t106 : sy_dv F' (.inr (.inl 106)) = .int ((sy_i F 84) + ((1 : Int32))) := hd_o (hs 21 _ rfl) b84 rfl rfl
  have hB' : iv_in F' iv_B0 := iv_in_eq hB (fun j hj => hF j (Nat.lt_of_lt_of_le hj (by decide +kernel)))
  refine ⟨List.forall_mem_cons.mpr ⟨hd_p5 rfl b84 (by have hc : ((7) : Int32).toInt = 7 := (by decide); omega), List.forall_mem_cons.mpr ⟨hd_pb b83 (by first | exact h1 | exact h1), List.forall_mem_cons.mpr ⟨hd_pb b84 (by first | exact h2 | exact h2), List.forall_mem_cons.mpr ⟨hd_pb t87 (by first | exact h3 | exact h3), List.forall_mem_cons.mpr ⟨hd_pb b84 (by first | exact h4 | exact h4), List.forall_mem_cons.mpr ⟨hd_pb t90 (by first | exact h5 | exact h5), List.forall_mem_cons.mpr ⟨hd_pb b84 (by first | exact h6 | exact h6), List.forall_mem_cons.mpr ⟨hd_pb t93 (by first | exact h7 | exact h7), List.forall_mem_cons.mpr ⟨hd_pb b84 (by first | exact h8 | exact h8), List.forall_mem_cons.mpr ⟨hd_pb t96 (by first | exact h9 | exact h9), List.forall_mem_cons.mpr ⟨hd_pb b84 (by first | exact h10 | exact h10), List.forall_mem_cons.mpr ⟨hd_pb t99 (by first | exact h11 | exact h11), List.forall_mem_cons.mpr ⟨hd_pb b84 (by first | exact h12 | exact h12), List.forall_mem_cons.mpr ⟨hd_pb t102 (by first | exact h13 | exact h13), List.forall_mem_cons.mpr ⟨hd_pb b84 (by first | exact h14 | exact h14), fun _ h => absurd h List.not_mem_nil⟩⟩⟩⟩⟩⟩⟩⟩⟩⟩⟩⟩⟩⟩⟩, ?_⟩
  refine k _ ?_ ?_ ?_ ?_ ?_ ?_ ?_ ?_ ?_ ?_ ?_
  · exact fun j hj hn => (hd_keep hB' (Nat.lt_of_lt_of_le hj (by decide +kernel)) (by simp; omega)).trans (hF j (Nat.lt_of_lt_of_le hj (by decide)))
  · exact hd_ga (a := .inr (.inl 86)) (by decide +kernel) t86
  · exact hd_ga (a := .inr (.inl 89)) (by decide +kernel) t89
  · exact hd_ga (a := .inr (.inl 92)) (by decide +kernel) t92
  · exact hd_ga (a := .inr (.inl 95)) (by decide +kernel) t95
  · exact hd_ga (a := .inr (.inl 98)) (by decide +kernel) t98
  · exact hd_ga (a := .inr (.inl 101)) (by decide +kernel) t101
  · exact hd_ga (a := .inr (.inl 104)) (by decide +kernel) t104
  · exact hd_gi (x := .inr (.inl 82)) (by decide +kernel) b82
  · exact hd_gi (x := .inr (.inl 105)) (by decide +kernel) t105
  · exact hd_gi (x := .inr (.inl 106)) (by decide +kernel) t106
theorem j2lds_46 {Ls : Nat} {xs : Nat → Int32} {d : Nat} {Q : Option Value → jm_h → Prop} (hd : 1 ≤ d) (F : Nat → sy_d) (X1 X2 : List jm_c) (hB : iv_in F iv_B0)
    (a82 : 0 ≤ (sy_i F 82).toInt ∧ (sy_i F 82).toInt ≤ 120)
    (a83 : 3 ≤ (sy_i F 83).toInt ∧ (sy_i F 83).toInt ≤ 172)
    (a84 : 0 ≤ (sy_i F 84).toInt ∧ (sy_i F 84).toInt ≤ 7)
    (k0 : 7 ≤ (sy_i F 84).toInt → ∀ F1 : Nat → sy_d, iv_in F1 iv_B0 → (∀ j, j < 82 → j ∉ ([60, 61] : List Nat) → F1 j = F j) → sy_ai F1 60 = jm_cpy (sy_ai F 77) (sy_ai F 60) ((sy_i F 83).toInt).toNat (0 : Int).toNat (4 : Int).toNat → sy_ai F1 61 = jm_cpy (sy_ai F 77) (sy_ai F 61) (((sy_i F 83).toInt + 4)).toNat (0 : Int).toNat (4 : Int).toNat → Q (none) (sy_dh F1 X1 X2 (iv_H 2)))
    (k1 : (sy_i F 84).toInt < 7 → ∀ F1 : Nat → sy_d, iv_in F1 iv_B0 → (∀ j, j < 82 → j ∉ ([53, 54, 55, 56, 57, 58, 59] : List Nat) → F1 j = F j) → sy_ai F1 53 = jm_upd (sy_ai F 53) ((sy_i F 84).toInt).toNat ((sy_ai F 77).getD ((sy_i F 83).toInt).toNat 0) → sy_ai F1 54 = jm_upd (sy_ai F 54) ((sy_i F 84).toInt).toNat ((sy_ai F 77).getD (((sy_i F 83).toInt + 1)).toNat 0) → sy_ai F1 55 = jm_upd (sy_ai F 55) ((sy_i F 84).toInt).toNat ((sy_ai F 77).getD (((sy_i F 83).toInt + 2)).toNat 0) → sy_ai F1 56 = jm_upd (sy_ai F 56) ((sy_i F 84).toInt).toNat ((sy_ai F 77).getD (((sy_i F 83).toInt + 3)).toNat 0) → sy_ai F1 57 = jm_upd (sy_ai F 57) ((sy_i F 84).toInt).toNat ((sy_ai F 77).getD (((sy_i F 83).toInt + 4)).toNat 0) → sy_ai F1 58 = jm_upd (sy_ai F 58) ((sy_i F 84).toInt).toNat ((sy_ai F 77).getD (((sy_i F 83).toInt + 5)).toNat 0) → sy_ai F1 59 = jm_upd (sy_ai F 59) ((sy_i F 84).toInt).toNat ((sy_ai F 77).getD (((sy_i F 83).toInt + 6)).toNat 0) → (sy_i F1 82).toInt = (sy_i F 82).toInt → sy_i F1 82 = sy_i F 82 → (sy_i F1 83).toInt = ((sy_i F 83).toInt + 7) → sy_i F1 83 = (sy_i F 83) + ((7 : Int32)) → (sy_i F1 84).toInt = ((sy_i F 84).toInt + 1) → sy_i F1 84 = (sy_i F 84) + ((1 : Int32)) → hd_W Ls xs d jm_M10 Q (46, sy_dL F1 [some (.inl (.ref 46)), some (.inl (.ref 68)), some (.inr (.inl 82)), some (.inr (.inl 83)), some (.inr (.inl 84))], sy_dS F1 [], sy_dh F1 X1 X2 (iv_H 2), 0, 0)) :
    hd_W Ls xs d jm_M10 Q (46, sy_dL F [some (.inl (.ref 46)), some (.inl (.ref 68)), some (.inr (.inl 82)), some (.inr (.inl 83)), some (.inr (.inl 84))], sy_dS F [], sy_dh F X1 X2 (iv_H 2), 0, 0) := by
  by_cases g0 : 7 ≤ (sy_i F 84).toInt
  · have n86 : nzI ((sy_i F 83) + ((4 : Int32))) (((sy_i F 83).toInt + 4)) := nz_add (rfl : (sy_i F 83).toInt = (sy_i F 83).toInt) (by decide : ((4 : Int32)).toInt = 4) (by omega) (by omega)
    have w85 : jm_cpy (sy_ai F 77) (sy_ai F 60) (sy_i F 83).toNatClampNeg ((0 : Int32)).toNatClampNeg ((4 : Int32)).toNatClampNeg = jm_cpy (sy_ai F 77) (sy_ai F 60) ((sy_i F 83).toInt).toNat (0 : Int).toNat (4 : Int).toNat := by simp only [nz_c, (by decide : ((0 : Int32)).toInt = 0), (by decide : ((4 : Int32)).toInt = 4)]
    have w87 : jm_cpy (sy_ai F 77) (sy_ai F 61) ((sy_i F 83) + ((4 : Int32))).toNatClampNeg ((0 : Int32)).toNatClampNeg ((4 : Int32)).toNatClampNeg = jm_cpy (sy_ai F 77) (sy_ai F 61) (((sy_i F 83).toInt + 4)).toNat (0 : Int).toNat (4 : Int).toNat := by simp only [nz_c, (nzE n86), (by decide : ((0 : Int32)).toInt = 0), (by decide : ((4 : Int32)).toInt = 4)]
    exact j2lds_46_p0 hd F X1 X2 hB (by first | exact g0 | (simp only [nz_c]; exact g0)) (by first | exact ⟨by omega, by omega⟩ | (simp only [nz_c]; exact ⟨by omega, by omega⟩)) (by first | (simp only [nz_c, (nzE n86)]; exact ⟨by omega, by omega⟩) | exact ⟨by omega, by omega⟩ | (rw [(nzE n86)]; exact ⟨by omega, by omega⟩)) (fun F1 g e60 e61 => k0 g0 F1 (nz_in0 hB [60, 61] (fun j hj hn => g j hj (by simp only [List.mem_cons, List.not_mem_nil, or_false, not_or] at hn; omega)) (List.forall_mem_cons.mpr ⟨fun t ht => (Option.some.inj ht) ▸ (nz_hz2 e60), List.forall_mem_cons.mpr ⟨fun t ht => (Option.some.inj ht) ▸ (nz_hz2 e61), List.forall_mem_nil _⟩⟩)) (fun j hj hn => g j hj (by simp only [List.mem_cons, List.not_mem_nil, or_false, not_or] at hn; omega)) ((zz_ai e60).trans w85) ((zz_ai e61).trans w87))
  replace g0 : (sy_i F 84).toInt < 7 := by omega
  have n87 : nzI ((sy_i F 83) + ((1 : Int32))) (((sy_i F 83).toInt + 1)) := nz_add (rfl : (sy_i F 83).toInt = (sy_i F 83).toInt) (by decide : ((1 : Int32)).toInt = 1) (by omega) (by omega)
  have n90 : nzI ((sy_i F 83) + ((2 : Int32))) (((sy_i F 83).toInt + 2)) := nz_add (rfl : (sy_i F 83).toInt = (sy_i F 83).toInt) (by decide : ((2 : Int32)).toInt = 2) (by omega) (by omega)
  have n93 : nzI ((sy_i F 83) + ((3 : Int32))) (((sy_i F 83).toInt + 3)) := nz_add (rfl : (sy_i F 83).toInt = (sy_i F 83).toInt) (by decide : ((3 : Int32)).toInt = 3) (by omega) (by omega)
  have n96 : nzI ((sy_i F 83) + ((4 : Int32))) (((sy_i F 83).toInt + 4)) := nz_add (rfl : (sy_i F 83).toInt = (sy_i F 83).toInt) (by decide : ((4 : Int32)).toInt = 4) (by omega) (by omega)
  have n99 : nzI ((sy_i F 83) + ((5 : Int32))) (((sy_i F 83).toInt + 5)) := nz_add (rfl : (sy_i F 83).toInt = (sy_i F 83).toInt) (by decide : ((5 : Int32)).toInt = 5) (by omega) (by omega)
  have n102 : nzI ((sy_i F 83) + ((6 : Int32))) (((sy_i F 83).toInt + 6)) := nz_add (rfl : (sy_i F 83).toInt = (sy_i F 83).toInt) (by decide : ((6 : Int32)).toInt = 6) (by omega) (by omega)
  have w86 : jm_upd (sy_ai F 53) (sy_i F 84).toNatClampNeg ((sy_ai F 77).getD (sy_i F 83).toNatClampNeg 0) = jm_upd (sy_ai F 53) ((sy_i F 84).toInt).toNat ((sy_ai F 77).getD ((sy_i F 83).toInt).toNat 0) := by simp only [nz_c]
  have w89 : jm_upd (sy_ai F 54) (sy_i F 84).toNatClampNeg ((sy_ai F 77).getD ((sy_i F 83) + ((1 : Int32))).toNatClampNeg 0) = jm_upd (sy_ai F 54) ((sy_i F 84).toInt).toNat ((sy_ai F 77).getD (((sy_i F 83).toInt + 1)).toNat 0) := by simp only [nz_c, (nzE n87), (by decide : ((1 : Int32)).toInt = 1)]
  have w92 : jm_upd (sy_ai F 55) (sy_i F 84).toNatClampNeg ((sy_ai F 77).getD ((sy_i F 83) + ((2 : Int32))).toNatClampNeg 0) = jm_upd (sy_ai F 55) ((sy_i F 84).toInt).toNat ((sy_ai F 77).getD (((sy_i F 83).toInt + 2)).toNat 0) := by simp only [nz_c, (nzE n90), (by decide : ((2 : Int32)).toInt = 2)]
  have w95 : jm_upd (sy_ai F 56) (sy_i F 84).toNatClampNeg ((sy_ai F 77).getD ((sy_i F 83) + ((3 : Int32))).toNatClampNeg 0) = jm_upd (sy_ai F 56) ((sy_i F 84).toInt).toNat ((sy_ai F 77).getD (((sy_i F 83).toInt + 3)).toNat 0) := by simp only [nz_c, (nzE n93), (by decide : ((3 : Int32)).toInt = 3)]
  have w98 : jm_upd (sy_ai F 57) (sy_i F 84).toNatClampNeg ((sy_ai F 77).getD ((sy_i F 83) + ((4 : Int32))).toNatClampNeg 0) = jm_upd (sy_ai F 57) ((sy_i F 84).toInt).toNat ((sy_ai F 77).getD (((sy_i F 83).toInt + 4)).toNat 0) := by simp only [nz_c, (nzE n96), (by decide : ((4 : Int32)).toInt = 4)]
  have w101 : jm_upd (sy_ai F 58) (sy_i F 84).toNatClampNeg ((sy_ai F 77).getD ((sy_i F 83) + ((5 : Int32))).toNatClampNeg 0) = jm_upd (sy_ai F 58) ((sy_i F 84).toInt).toNat ((sy_ai F 77).getD (((sy_i F 83).toInt + 5)).toNat 0) := by simp only [nz_c, (nzE n99), (by decide : ((5 : Int32)).toInt = 5)]
  have w104 : jm_upd (sy_ai F 59) (sy_i F 84).toNatClampNeg ((sy_ai F 77).getD ((sy_i F 83) + ((6 : Int32))).toNatClampNeg 0) = jm_upd (sy_ai F 59) ((sy_i F 84).toInt).toNat ((sy_ai F 77).getD (((sy_i F 83).toInt + 6)).toNat 0) := by simp only [nz_c, (nzE n102), (by decide : ((6 : Int32)).toInt = 6)]
  have n105 : nzI ((sy_i F 83) + ((7 : Int32))) (((sy_i F 83).toInt + 7)) := nz_add (rfl : (sy_i F 83).toInt = (sy_i F 83).toInt) (by decide : ((7 : Int32)).toInt = 7) (by omega) (by omega)
  have n106 : nzI ((sy_i F 84) + ((1 : Int32))) (((sy_i F 84).toInt + 1)) := nz_add (rfl : (sy_i F 84).toInt = (sy_i F 84).toInt) (by decide : ((1 : Int32)).toInt = 1) (by omega) (by omega)
  exact j2lds_46_p1 hd F X1 X2 hB (by first | exact g0 | (simp only [nz_c]; exact g0)) (by first | exact ⟨by omega, by omega⟩ | (simp only [nz_c]; exact ⟨by omega, by omega⟩)) (by first | exact ⟨by omega, by omega⟩ | (simp only [nz_c]; exact ⟨by omega, by omega⟩)) (by first | (simp only [nz_c, (nzE n87)]; exact ⟨by omega, by omega⟩) | exact ⟨by omega, by omega⟩ | (rw [(nzE n87)]; exact ⟨by omega, by omega⟩)) (by first | exact ⟨by omega, by omega⟩ | (simp only [nz_c]; exact ⟨by omega, by omega⟩)) (by first | (simp only [nz_c, (nzE n90)]; exact ⟨by omega, by omega⟩) | exact ⟨by omega, by omega⟩ | (rw [(nzE n90)]; exact ⟨by omega, by omega⟩)) (by first | exact ⟨by omega, by omega⟩ | (simp only [nz_c]; exact ⟨by omega, by omega⟩)) (by first | (simp only [nz_c, (nzE n93)]; exact ⟨by omega, by omega⟩) | exact ⟨by omega, by omega⟩ | (rw [(nzE n93)]; exact ⟨by omega, by omega⟩)) (by first | exact ⟨by omega, by omega⟩ | (simp only [nz_c]; exact ⟨by omega, by omega⟩)) (by first | (simp only [nz_c, (nzE n96)]; exact ⟨by omega, by omega⟩) | exact ⟨by omega, by omega⟩ | (rw [(nzE n96)]; exact ⟨by omega, by omega⟩)) (by first | exact ⟨by omega, by omega⟩ | (simp only [nz_c]; exact ⟨by omega, by omega⟩)) (by first | (simp only [nz_c, (nzE n99)]; exact ⟨by omega, by omega⟩) | exact ⟨by omega, by omega⟩ | (rw [(nzE n99)]; exact ⟨by omega, by omega⟩)) (by first | exact ⟨by omega, by omega⟩ | (simp only [nz_c]; exact ⟨by omega, by omega⟩)) (by first | (simp only [nz_c, (nzE n102)]; exact ⟨by omega, by omega⟩) | exact ⟨by omega, by omega⟩ | (rw [(nzE n102)]; exact ⟨by omega, by omega⟩)) (by first | exact ⟨by omega, by omega⟩ | (simp only [nz_c]; exact ⟨by omega, by omega⟩)) (fun F1 g e53 e54 e55 e56 e57 e58 e59 e82 e83 e84 => k1 g0 F1 (nz_in0 hB [53, 54, 55, 56, 57, 58, 59] (fun j hj hn => g j hj (by simp only [List.mem_cons, List.not_mem_nil, or_false, not_or] at hn; omega)) (List.forall_mem_cons.mpr ⟨fun t ht => (Option.some.inj ht) ▸ (nz_hz2 e53), List.forall_mem_cons.mpr ⟨fun t ht => (Option.some.inj ht) ▸ (nz_hz2 e54), List.forall_mem_cons.mpr ⟨fun t ht => (Option.some.inj ht) ▸ (nz_hz2 e55), List.forall_mem_cons.mpr ⟨fun t ht => (Option.some.inj ht) ▸ (nz_hz2 e56), List.forall_mem_cons.mpr ⟨fun t ht => (Option.some.inj ht) ▸ (nz_hz2 e57), List.forall_mem_cons.mpr ⟨fun t ht => (Option.some.inj ht) ▸ (nz_hz2 e58), List.forall_mem_cons.mpr ⟨fun t ht => (Option.some.inj ht) ▸ (nz_hz2 e59), List.forall_mem_nil _⟩⟩⟩⟩⟩⟩⟩)) (fun j hj hn => g j hj (by simp only [List.mem_cons, List.not_mem_nil, or_false, not_or] at hn; omega)) ((zz_ai e53).trans w86) ((zz_ai e54).trans w89) ((zz_ai e55).trans w92) ((zz_ai e56).trans w95) ((zz_ai e57).trans w98) ((zz_ai e58).trans w101) ((zz_ai e59).trans w104) ((congrArg Int32.toInt (zz_i e82)).trans (rfl : (sy_i F 82).toInt = (sy_i F 82).toInt)) ((zz_i e82).trans (rfl : sy_i F 82 = sy_i F 82)) ((congrArg Int32.toInt (zz_i e83)).trans (nzE n105)) ((zz_i e83).trans (rfl : (sy_i F 83) + ((7 : Int32)) = (sy_i F 83) + ((7 : Int32)))) ((congrArg Int32.toInt (zz_i e84)).trans (nzE n106)) ((zz_i e84).trans (rfl : (sy_i F 84) + ((1 : Int32)) = (sy_i F 84) + ((1 : Int32)))))
end
section
/-! ===== the class saves its ground and loads it (shape 2) ===== -/
section SV2
variable {Ls : Nat} {xs : Nat → Int32}
theorem j2svt_L (F : Nat → sy_d) (X1 X2 : List jm_c) {p : Nat} (hp : p ≤ 2340) : ∀ (m : Nat) (F1 : Nat → sy_d) (n : Nat), n + m = 7 → qC [76] F F1 → (sy_i F1 82).toInt = p → (sy_i F1 83).toInt = p + 3 + 7 * n → (sy_i F1 84).toInt = n → (∀ j, j < p ∨ p + 60 ≤ j → (sy_ai F1 76).getD j 0 = (sy_ai F 76).getD j 0) → (∀ i, i < 3 → (sy_ai F1 76).getD (p + i) 0 = sy_i F (50 + i)) → (∀ q i, q < 7 → i < n → (sy_ai F1 76).getD (p + 3 + 7 * i + q) 0 = (sy_ai F (53 + q)).getD i 0) →
    hd_W Ls xs 1 jm_M9 (pV 2 X1 X2 (fun F' => qC [76] F F' ∧ svR (sy_ai F' 76) p F 50 ∧ ∀ j, j < p ∨ p + 60 ≤ j → (sy_ai F' 76).getD j 0 = (sy_ai F 76).getD j 0)) (46, sy_dL F1 [some (.inl (.ref 46)), some (.inl (.ref 67)), some (.inr (.inl 82)), some (.inr (.inl 83)), some (.inr (.inl 84))], sy_dS F1 [], sy_dh F1 X1 X2 (iv_H 2), 0, 0) := by
  intro m
  induction m with
  | zero =>
    intro F1 n hm hq e82 e83 e84 ho h3 h7
    refine j2svt_46 (by decide) F1 X1 X2 hq.1 (by omega) (by omega) (by omega) ?_ ?_
    · intro c0 F2 hb gg a
      rw [show (sy_i F1 83).toInt.toNat = p + 52 by omega, show ((sy_i F1 83).toInt + 4).toNat = p + 56 by omega] at a
      have key : ∀ j, (sy_ai F2 76).getD j 0 = if p + 56 ≤ j ∧ j < p + 56 + 4 then (sy_ai F1 61).getD (0 + (j - (p + 56))) 0 else if p + 52 ≤ j ∧ j < p + 52 + 4 then (sy_ai F1 60).getD (0 + (j - (p + 52))) 0 else (sy_ai F1 76).getD j 0 := fun j => by
        rw [a, cpy_ix, cpy_ix]
        rfl
      refine ⟨F2, rfl, rfl, qq_on hq hb gg (by decide), ⟨fun q i hq' hi => ?_, fun i hi => ⟨?_, ?_⟩, fun i hi => ?_⟩, fun j hj => ?_⟩
      · rw [key, if_neg (by omega), if_neg (by omega)]
        exact h7 q i hq' (by omega)
      · rw [key, if_neg (by omega), if_pos (by omega), show 0 + (p + 52 + i - (p + 52)) = i by omega, qq_a hq (by decide) (by decide)]
      · rw [key, if_pos (by omega), show 0 + (p + 56 + i - (p + 56)) = i by omega, qq_a hq (by decide) (by decide)]
      · rw [key, if_neg (by omega), if_neg (by omega)]
        exact h3 i hi
      · rw [key, if_neg (by omega), if_neg (by omega)]
        exact ho j hj
    · intros
      omega
  | succ m ih =>
    intro F1 n hm hq e82 e83 e84 ho h3 h7
    refine j2svt_46 (by decide) F1 X1 X2 hq.1 (by omega) (by omega) (by omega) ?_ ?_
    · intros
      omega
    · intro c0 F2 hb gg a e82' j82 e83' j83 e84' j84
      rw [show (sy_i F1 83).toInt.toNat = p + 3 + 7 * n by omega, show ((sy_i F1 83).toInt + 1).toNat = p + 3 + 7 * n + 1 by omega, show ((sy_i F1 83).toInt + 2).toNat = p + 3 + 7 * n + 2 by omega, show ((sy_i F1 83).toInt + 3).toNat = p + 3 + 7 * n + 3 by omega, show ((sy_i F1 83).toInt + 4).toNat = p + 3 + 7 * n + 4 by omega, show ((sy_i F1 83).toInt + 5).toNat = p + 3 + 7 * n + 5 by omega, show ((sy_i F1 83).toInt + 6).toNat = p + 3 + 7 * n + 6 by omega, show (sy_i F1 84).toInt.toNat = n by omega] at a
      have ko : ∀ j, (j < p + 3 + 7 * n ∨ p + 3 + 7 * n + 7 ≤ j) → (sy_ai F2 76).getD j 0 = (sy_ai F1 76).getD j 0 := fun j h => (congrArg (fun l => l.getD j 0) a).trans (up7_o h)
      have ki : ∀ q, q < 7 → (sy_ai F2 76).getD (p + 3 + 7 * n + q) 0 = (sy_ai F1 (53 + q)).getD n 0 := fun q h => (congrArg (fun l => l.getD (p + 3 + 7 * n + q) 0) a).trans (up7_i (fun q => (sy_ai F1 (53 + q)).getD n 0) h)
      refine ih F2 (n + 1) (by omega) (qq_on hq hb gg (by decide)) (by omega) (by omega) (by omega) (fun j hj => ?_) (fun i hi => ?_) (fun q i hq' hi => ?_)
      · rw [ko j (by omega)]
        exact ho j hj
      · rw [ko _ (by omega)]
        exact h3 i hi
      · by_cases z : i = n
        · rw [z, ki q hq', qq_a hq (by omega) (by simp; omega)]
        · rw [ko _ (by omega)]
          exact h7 q i hq' (by omega)
theorem j2svt_V (F : Nat → sy_d) (X1 X2 : List jm_c) (hB : iv_in F iv_B0) {v : Int32} {p : Nat} (hv : v.toInt = p) (hp : p ≤ 2340) : jm_T Ls xs 1 jm_M9 [.ref 46, .ref 67, .int v] (sy_dh F X1 X2 (iv_H 2)) 0 0 (pV 2 X1 X2 (fun F' => qC [76] F F' ∧ svR (sy_ai F' 76) p F 50 ∧ ∀ j, j < p ∨ p + 60 ≤ j → (sy_ai F' 76).getD j 0 = (sy_ai F 76).getD j 0)) := by
  refine C_T (by decide) [v] [.inl (.ref 46), .inl (.ref 67), .inr (.inl 82)] jm_ok9 (by decide) rfl (fun F0 k0 ki => ?_)
  have i82 : sy_i F0 82 = v := ki 0
  refine j2svt_0 (by decide) F0 X1 X2 (hd_iveq0 hB k0) (by rw [i82]; omega) ?_
  intro c0 c1 F1 hb gg a e82 j82 e83 j83 e84 j84
  rw [i82] at a e82 e83
  rw [show v.toInt.toNat = p by omega, show (v.toInt + 1).toNat = p + 1 by omega, show (v.toInt + 2).toNat = p + 2 by omega, eI (k0 50 (by decide)), eI (k0 51 (by decide)), eI (k0 52 (by decide)), nz_fa (k0 76 (by decide))] at a
  have key : ∀ j, (sy_ai F1 76).getD j 0 = if j = p + 2 then sy_i F 52 else if j = p + 1 then sy_i F 51 else if j = p then sy_i F 50 else (sy_ai F 76).getD j 0 := fun j => by
    rw [a, jm_upd_at, jm_upd_at, jm_upd_at]
  refine j2svt_L F X1 X2 hp 7 F1 0 (by omega) (qq_src (qq_mk hb gg (by decide)) k0) (by omega) (by omega) e84 (fun j hj => ?_) (fun i hi => ?_) (fun q i hq hi => absurd hi (by omega))
  · rw [key, if_neg (by omega), if_neg (by omega), if_neg (by omega)]
  · rw [key]
    match i, hi with
    | 0, _ => rw [if_neg (by omega), if_neg (by omega), if_pos (by omega)]
    | 1, _ => rw [if_neg (by omega), if_pos rfl]
    | 2, _ => rw [if_pos rfl]
theorem j2ldt_L (F : Nat → sy_d) (X1 X2 : List jm_c) {p : Nat} (hp : p ≤ 2340) : ∀ (m : Nat) (F1 : Nat → sy_d) (n : Nat), n + m = 7 → qC [50, 51, 52, 53, 54, 55, 56, 57, 58, 59, 60, 61] F F1 → (sy_i F1 82).toInt = p → (sy_i F1 83).toInt = p + 3 + 7 * n → (sy_i F1 84).toInt = n → (∀ i, i < 3 → (sy_ai F 76).getD (p + i) 0 = sy_i F1 (50 + i)) → (∀ q i, q < 7 → i < n → (sy_ai F 76).getD (p + 3 + 7 * i + q) 0 = (sy_ai F1 (53 + q)).getD i 0) →
    hd_W Ls xs 1 jm_M10 (pV 2 X1 X2 (fun F' => qC [50, 51, 52, 53, 54, 55, 56, 57, 58, 59, 60, 61] F F' ∧ svR (sy_ai F 76) p F' 50)) (46, sy_dL F1 [some (.inl (.ref 46)), some (.inl (.ref 67)), some (.inr (.inl 82)), some (.inr (.inl 83)), some (.inr (.inl 84))], sy_dS F1 [], sy_dh F1 X1 X2 (iv_H 2), 0, 0) := by
  intro m
  induction m with
  | zero =>
    intro F1 n hm hq e82 e83 e84 h3 h7
    have eC : sy_ai F1 76 = sy_ai F 76 := qq_a hq (by decide) (by decide)
    refine j2ldt_46 (by decide) F1 X1 X2 hq.1 (by omega) (by omega) (by omega) ?_ ?_
    · intro c0 F2 hb gg a60 a61
      rw [show (sy_i F1 83).toInt.toNat = p + 52 by omega, eC] at a60
      rw [show ((sy_i F1 83).toInt + 4).toNat = p + 56 by omega, eC] at a61
      refine ⟨F2, rfl, rfl, qq_on hq hb gg (by decide), ⟨fun q i hq' hi => ?_, fun i hi => ⟨?_, ?_⟩, fun i hi => ?_⟩⟩
      · rw [show 50 + 3 + q = 53 + q by omega, nz_fa (gg (53 + q) (by omega) (by simp; omega))]
        exact h7 q i hq' (by omega)
      · show _ = (sy_ai F2 60).getD i 0
        rw [a60, cpy_ix, if_pos ⟨Nat.zero_le _, (show i < (0 : Nat) + 4 by omega)⟩]
        show _ = (sy_ai F 76).getD (p + 52 + (i - 0)) 0
        rw [Nat.sub_zero]
      · show _ = (sy_ai F2 61).getD i 0
        rw [a61, cpy_ix, if_pos ⟨Nat.zero_le _, (show i < (0 : Nat) + 4 by omega)⟩]
        show _ = (sy_ai F 76).getD (p + 56 + (i - 0)) 0
        rw [Nat.sub_zero]
      · rw [eI (gg (50 + i) (by omega) (by simp; omega))]
        exact h3 i hi
    · intros
      omega
  | succ m ih =>
    intro F1 n hm hq e82 e83 e84 h3 h7
    have eC : sy_ai F1 76 = sy_ai F 76 := qq_a hq (by decide) (by decide)
    refine j2ldt_46 (by decide) F1 X1 X2 hq.1 (by omega) (by omega) (by omega) ?_ ?_
    · intros
      omega
    · intro c0 F2 hb gg a53 a54 a55 a56 a57 a58 a59 e82' j82 e83' j83 e84' j84
      rw [show (sy_i F1 84).toInt.toNat = n by omega, show (sy_i F1 83).toInt.toNat = p + 3 + 7 * n by omega, eC] at a53
      rw [show (sy_i F1 84).toInt.toNat = n by omega, show ((sy_i F1 83).toInt + 1).toNat = p + 3 + 7 * n + 1 by omega, eC] at a54
      rw [show (sy_i F1 84).toInt.toNat = n by omega, show ((sy_i F1 83).toInt + 2).toNat = p + 3 + 7 * n + 2 by omega, eC] at a55
      rw [show (sy_i F1 84).toInt.toNat = n by omega, show ((sy_i F1 83).toInt + 3).toNat = p + 3 + 7 * n + 3 by omega, eC] at a56
      rw [show (sy_i F1 84).toInt.toNat = n by omega, show ((sy_i F1 83).toInt + 4).toNat = p + 3 + 7 * n + 4 by omega, eC] at a57
      rw [show (sy_i F1 84).toInt.toNat = n by omega, show ((sy_i F1 83).toInt + 5).toNat = p + 3 + 7 * n + 5 by omega, eC] at a58
      rw [show (sy_i F1 84).toInt.toNat = n by omega, show ((sy_i F1 83).toInt + 6).toNat = p + 3 + 7 * n + 6 by omega, eC] at a59
      have hu : ∀ q, q < 7 → sy_ai F2 (53 + q) = jm_upd (sy_ai F1 (53 + q)) n ((sy_ai F 76).getD (p + 3 + 7 * n + q) 0) := fun q h => by
        match q, h with
        | 0, _ => exact a53
        | 1, _ => exact a54
        | 2, _ => exact a55
        | 3, _ => exact a56
        | 4, _ => exact a57
        | 5, _ => exact a58
        | 6, _ => exact a59
      refine ih F2 (n + 1) (by omega) (qq_on hq hb gg (by decide)) (by omega) (by omega) (by omega) (fun i hi => ?_) (fun q i hq' hi => ?_)
      · rw [eI (gg (50 + i) (by omega) (by simp; omega))]
        exact h3 i hi
      · rw [hu q hq', jm_upd_at]
        by_cases z : i = n
        · rw [if_pos z, z]
        · rw [if_neg z]
          exact h7 q i hq' (by omega)
theorem j2ldt_V (F : Nat → sy_d) (X1 X2 : List jm_c) (hB : iv_in F iv_B0) {v : Int32} {p : Nat} (hv : v.toInt = p) (hp : p ≤ 2340) : jm_T Ls xs 1 jm_M10 [.ref 46, .ref 67, .int v] (sy_dh F X1 X2 (iv_H 2)) 0 0 (pV 2 X1 X2 (fun F' => qC [50, 51, 52, 53, 54, 55, 56, 57, 58, 59, 60, 61] F F' ∧ svR (sy_ai F 76) p F' 50)) := by
  refine C_T (by decide) [v] [.inl (.ref 46), .inl (.ref 67), .inr (.inl 82)] jm_ok10 (by decide) rfl (fun F0 k0 ki => ?_)
  have i82 : sy_i F0 82 = v := ki 0
  refine j2ldt_0 (by decide) F0 X1 X2 (hd_iveq0 hB k0) (by rw [i82]; omega) ?_
  intro c0 c1 F1 hb gg e50 j50 e51 j51 e52 j52 e82 j82 e83 j83 e84 j84
  rw [i82] at j50 j51 j52 e82 e83
  rw [nz_fa (k0 76 (by decide))] at j50 j51 j52
  rw [show v.toInt.toNat = p by omega] at j50
  rw [show (v.toInt + 1).toNat = p + 1 by omega] at j51
  rw [show (v.toInt + 2).toNat = p + 2 by omega] at j52
  refine j2ldt_L F X1 X2 hp 7 F1 0 (by omega) (qq_src (qq_mk hb gg (by decide)) k0) (by omega) (by omega) e84 (fun i hi => ?_) (fun q i hq hi => absurd hi (by omega))
  match i, hi with
  | 0, _ => exact j50.symm
  | 1, _ => exact j51.symm
  | 2, _ => exact j52.symm
theorem j2svs_L (F : Nat → sy_d) (X1 X2 : List jm_c) {p : Nat} (hp : p ≤ 120) : ∀ (m : Nat) (F1 : Nat → sy_d) (n : Nat), n + m = 7 → qC [77] F F1 → (sy_i F1 82).toInt = p → (sy_i F1 83).toInt = p + 3 + 7 * n → (sy_i F1 84).toInt = n → (∀ j, j < p ∨ p + 60 ≤ j → (sy_ai F1 77).getD j 0 = (sy_ai F 77).getD j 0) → (∀ i, i < 3 → (sy_ai F1 77).getD (p + i) 0 = sy_i F (50 + i)) → (∀ q i, q < 7 → i < n → (sy_ai F1 77).getD (p + 3 + 7 * i + q) 0 = (sy_ai F (53 + q)).getD i 0) →
    hd_W Ls xs 1 jm_M9 (pV 2 X1 X2 (fun F' => qC [77] F F' ∧ svR (sy_ai F' 77) p F 50 ∧ ∀ j, j < p ∨ p + 60 ≤ j → (sy_ai F' 77).getD j 0 = (sy_ai F 77).getD j 0)) (46, sy_dL F1 [some (.inl (.ref 46)), some (.inl (.ref 68)), some (.inr (.inl 82)), some (.inr (.inl 83)), some (.inr (.inl 84))], sy_dS F1 [], sy_dh F1 X1 X2 (iv_H 2), 0, 0) := by
  intro m
  induction m with
  | zero =>
    intro F1 n hm hq e82 e83 e84 ho h3 h7
    refine j2svs_46 (by decide) F1 X1 X2 hq.1 (by omega) (by omega) (by omega) ?_ ?_
    · intro c0 F2 hb gg a
      rw [show (sy_i F1 83).toInt.toNat = p + 52 by omega, show ((sy_i F1 83).toInt + 4).toNat = p + 56 by omega] at a
      have key : ∀ j, (sy_ai F2 77).getD j 0 = if p + 56 ≤ j ∧ j < p + 56 + 4 then (sy_ai F1 61).getD (0 + (j - (p + 56))) 0 else if p + 52 ≤ j ∧ j < p + 52 + 4 then (sy_ai F1 60).getD (0 + (j - (p + 52))) 0 else (sy_ai F1 77).getD j 0 := fun j => by
        rw [a, cpy_ix, cpy_ix]
        rfl
      refine ⟨F2, rfl, rfl, qq_on hq hb gg (by decide), ⟨fun q i hq' hi => ?_, fun i hi => ⟨?_, ?_⟩, fun i hi => ?_⟩, fun j hj => ?_⟩
      · rw [key, if_neg (by omega), if_neg (by omega)]
        exact h7 q i hq' (by omega)
      · rw [key, if_neg (by omega), if_pos (by omega), show 0 + (p + 52 + i - (p + 52)) = i by omega, qq_a hq (by decide) (by decide)]
      · rw [key, if_pos (by omega), show 0 + (p + 56 + i - (p + 56)) = i by omega, qq_a hq (by decide) (by decide)]
      · rw [key, if_neg (by omega), if_neg (by omega)]
        exact h3 i hi
      · rw [key, if_neg (by omega), if_neg (by omega)]
        exact ho j hj
    · intros
      omega
  | succ m ih =>
    intro F1 n hm hq e82 e83 e84 ho h3 h7
    refine j2svs_46 (by decide) F1 X1 X2 hq.1 (by omega) (by omega) (by omega) ?_ ?_
    · intros
      omega
    · intro c0 F2 hb gg a e82' j82 e83' j83 e84' j84
      rw [show (sy_i F1 83).toInt.toNat = p + 3 + 7 * n by omega, show ((sy_i F1 83).toInt + 1).toNat = p + 3 + 7 * n + 1 by omega, show ((sy_i F1 83).toInt + 2).toNat = p + 3 + 7 * n + 2 by omega, show ((sy_i F1 83).toInt + 3).toNat = p + 3 + 7 * n + 3 by omega, show ((sy_i F1 83).toInt + 4).toNat = p + 3 + 7 * n + 4 by omega, show ((sy_i F1 83).toInt + 5).toNat = p + 3 + 7 * n + 5 by omega, show ((sy_i F1 83).toInt + 6).toNat = p + 3 + 7 * n + 6 by omega, show (sy_i F1 84).toInt.toNat = n by omega] at a
      have ko : ∀ j, (j < p + 3 + 7 * n ∨ p + 3 + 7 * n + 7 ≤ j) → (sy_ai F2 77).getD j 0 = (sy_ai F1 77).getD j 0 := fun j h => (congrArg (fun l => l.getD j 0) a).trans (up7_o h)
      have ki : ∀ q, q < 7 → (sy_ai F2 77).getD (p + 3 + 7 * n + q) 0 = (sy_ai F1 (53 + q)).getD n 0 := fun q h => (congrArg (fun l => l.getD (p + 3 + 7 * n + q) 0) a).trans (up7_i (fun q => (sy_ai F1 (53 + q)).getD n 0) h)
      refine ih F2 (n + 1) (by omega) (qq_on hq hb gg (by decide)) (by omega) (by omega) (by omega) (fun j hj => ?_) (fun i hi => ?_) (fun q i hq' hi => ?_)
      · rw [ko j (by omega)]
        exact ho j hj
      · rw [ko _ (by omega)]
        exact h3 i hi
      · by_cases z : i = n
        · rw [z, ki q hq', qq_a hq (by omega) (by simp; omega)]
        · rw [ko _ (by omega)]
          exact h7 q i hq' (by omega)
theorem j2svs_V (F : Nat → sy_d) (X1 X2 : List jm_c) (hB : iv_in F iv_B0) {v : Int32} {p : Nat} (hv : v.toInt = p) (hp : p ≤ 120) : jm_T Ls xs 1 jm_M9 [.ref 46, .ref 68, .int v] (sy_dh F X1 X2 (iv_H 2)) 0 0 (pV 2 X1 X2 (fun F' => qC [77] F F' ∧ svR (sy_ai F' 77) p F 50 ∧ ∀ j, j < p ∨ p + 60 ≤ j → (sy_ai F' 77).getD j 0 = (sy_ai F 77).getD j 0)) := by
  refine C_T (by decide) [v] [.inl (.ref 46), .inl (.ref 68), .inr (.inl 82)] jm_ok9 (by decide) rfl (fun F0 k0 ki => ?_)
  have i82 : sy_i F0 82 = v := ki 0
  refine j2svs_0 (by decide) F0 X1 X2 (hd_iveq0 hB k0) (by rw [i82]; omega) ?_
  intro c0 c1 F1 hb gg a e82 j82 e83 j83 e84 j84
  rw [i82] at a e82 e83
  rw [show v.toInt.toNat = p by omega, show (v.toInt + 1).toNat = p + 1 by omega, show (v.toInt + 2).toNat = p + 2 by omega, eI (k0 50 (by decide)), eI (k0 51 (by decide)), eI (k0 52 (by decide)), nz_fa (k0 77 (by decide))] at a
  have key : ∀ j, (sy_ai F1 77).getD j 0 = if j = p + 2 then sy_i F 52 else if j = p + 1 then sy_i F 51 else if j = p then sy_i F 50 else (sy_ai F 77).getD j 0 := fun j => by
    rw [a, jm_upd_at, jm_upd_at, jm_upd_at]
  refine j2svs_L F X1 X2 hp 7 F1 0 (by omega) (qq_src (qq_mk hb gg (by decide)) k0) (by omega) (by omega) e84 (fun j hj => ?_) (fun i hi => ?_) (fun q i hq hi => absurd hi (by omega))
  · rw [key, if_neg (by omega), if_neg (by omega), if_neg (by omega)]
  · rw [key]
    match i, hi with
    | 0, _ => rw [if_neg (by omega), if_neg (by omega), if_pos (by omega)]
    | 1, _ => rw [if_neg (by omega), if_pos rfl]
    | 2, _ => rw [if_pos rfl]
theorem j2lds_L (F : Nat → sy_d) (X1 X2 : List jm_c) {p : Nat} (hp : p ≤ 120) : ∀ (m : Nat) (F1 : Nat → sy_d) (n : Nat), n + m = 7 → qC [50, 51, 52, 53, 54, 55, 56, 57, 58, 59, 60, 61] F F1 → (sy_i F1 82).toInt = p → (sy_i F1 83).toInt = p + 3 + 7 * n → (sy_i F1 84).toInt = n → (∀ i, i < 3 → (sy_ai F 77).getD (p + i) 0 = sy_i F1 (50 + i)) → (∀ q i, q < 7 → i < n → (sy_ai F 77).getD (p + 3 + 7 * i + q) 0 = (sy_ai F1 (53 + q)).getD i 0) →
    hd_W Ls xs 1 jm_M10 (pV 2 X1 X2 (fun F' => qC [50, 51, 52, 53, 54, 55, 56, 57, 58, 59, 60, 61] F F' ∧ svR (sy_ai F 77) p F' 50)) (46, sy_dL F1 [some (.inl (.ref 46)), some (.inl (.ref 68)), some (.inr (.inl 82)), some (.inr (.inl 83)), some (.inr (.inl 84))], sy_dS F1 [], sy_dh F1 X1 X2 (iv_H 2), 0, 0) := by
  intro m
  induction m with
  | zero =>
    intro F1 n hm hq e82 e83 e84 h3 h7
    have eC : sy_ai F1 77 = sy_ai F 77 := qq_a hq (by decide) (by decide)
    refine j2lds_46 (by decide) F1 X1 X2 hq.1 (by omega) (by omega) (by omega) ?_ ?_
    · intro c0 F2 hb gg a60 a61
      rw [show (sy_i F1 83).toInt.toNat = p + 52 by omega, eC] at a60
      rw [show ((sy_i F1 83).toInt + 4).toNat = p + 56 by omega, eC] at a61
      refine ⟨F2, rfl, rfl, qq_on hq hb gg (by decide), ⟨fun q i hq' hi => ?_, fun i hi => ⟨?_, ?_⟩, fun i hi => ?_⟩⟩
      · rw [show 50 + 3 + q = 53 + q by omega, nz_fa (gg (53 + q) (by omega) (by simp; omega))]
        exact h7 q i hq' (by omega)
      · show _ = (sy_ai F2 60).getD i 0
        rw [a60, cpy_ix, if_pos ⟨Nat.zero_le _, (show i < (0 : Nat) + 4 by omega)⟩]
        show _ = (sy_ai F 77).getD (p + 52 + (i - 0)) 0
        rw [Nat.sub_zero]
      · show _ = (sy_ai F2 61).getD i 0
        rw [a61, cpy_ix, if_pos ⟨Nat.zero_le _, (show i < (0 : Nat) + 4 by omega)⟩]
        show _ = (sy_ai F 77).getD (p + 56 + (i - 0)) 0
        rw [Nat.sub_zero]
      · rw [eI (gg (50 + i) (by omega) (by simp; omega))]
        exact h3 i hi
    · intros
      omega
  | succ m ih =>
    intro F1 n hm hq e82 e83 e84 h3 h7
    have eC : sy_ai F1 77 = sy_ai F 77 := qq_a hq (by decide) (by decide)
    refine j2lds_46 (by decide) F1 X1 X2 hq.1 (by omega) (by omega) (by omega) ?_ ?_
    · intros
      omega
    · intro c0 F2 hb gg a53 a54 a55 a56 a57 a58 a59 e82' j82 e83' j83 e84' j84
      rw [show (sy_i F1 84).toInt.toNat = n by omega, show (sy_i F1 83).toInt.toNat = p + 3 + 7 * n by omega, eC] at a53
      rw [show (sy_i F1 84).toInt.toNat = n by omega, show ((sy_i F1 83).toInt + 1).toNat = p + 3 + 7 * n + 1 by omega, eC] at a54
      rw [show (sy_i F1 84).toInt.toNat = n by omega, show ((sy_i F1 83).toInt + 2).toNat = p + 3 + 7 * n + 2 by omega, eC] at a55
      rw [show (sy_i F1 84).toInt.toNat = n by omega, show ((sy_i F1 83).toInt + 3).toNat = p + 3 + 7 * n + 3 by omega, eC] at a56
      rw [show (sy_i F1 84).toInt.toNat = n by omega, show ((sy_i F1 83).toInt + 4).toNat = p + 3 + 7 * n + 4 by omega, eC] at a57
      rw [show (sy_i F1 84).toInt.toNat = n by omega, show ((sy_i F1 83).toInt + 5).toNat = p + 3 + 7 * n + 5 by omega, eC] at a58
      rw [show (sy_i F1 84).toInt.toNat = n by omega, show ((sy_i F1 83).toInt + 6).toNat = p + 3 + 7 * n + 6 by omega, eC] at a59
      have hu : ∀ q, q < 7 → sy_ai F2 (53 + q) = jm_upd (sy_ai F1 (53 + q)) n ((sy_ai F 77).getD (p + 3 + 7 * n + q) 0) := fun q h => by
        match q, h with
        | 0, _ => exact a53
        | 1, _ => exact a54
        | 2, _ => exact a55
        | 3, _ => exact a56
        | 4, _ => exact a57
        | 5, _ => exact a58
        | 6, _ => exact a59
      refine ih F2 (n + 1) (by omega) (qq_on hq hb gg (by decide)) (by omega) (by omega) (by omega) (fun i hi => ?_) (fun q i hq' hi => ?_)
      · rw [eI (gg (50 + i) (by omega) (by simp; omega))]
        exact h3 i hi
      · rw [hu q hq', jm_upd_at]
        by_cases z : i = n
        · rw [if_pos z, z]
        · rw [if_neg z]
          exact h7 q i hq' (by omega)
theorem j2lds_V (F : Nat → sy_d) (X1 X2 : List jm_c) (hB : iv_in F iv_B0) {v : Int32} {p : Nat} (hv : v.toInt = p) (hp : p ≤ 120) : jm_T Ls xs 1 jm_M10 [.ref 46, .ref 68, .int v] (sy_dh F X1 X2 (iv_H 2)) 0 0 (pV 2 X1 X2 (fun F' => qC [50, 51, 52, 53, 54, 55, 56, 57, 58, 59, 60, 61] F F' ∧ svR (sy_ai F 77) p F' 50)) := by
  refine C_T (by decide) [v] [.inl (.ref 46), .inl (.ref 68), .inr (.inl 82)] jm_ok10 (by decide) rfl (fun F0 k0 ki => ?_)
  have i82 : sy_i F0 82 = v := ki 0
  refine j2lds_0 (by decide) F0 X1 X2 (hd_iveq0 hB k0) (by rw [i82]; omega) ?_
  intro c0 c1 F1 hb gg e50 j50 e51 j51 e52 j52 e82 j82 e83 j83 e84 j84
  rw [i82] at j50 j51 j52 e82 e83
  rw [nz_fa (k0 77 (by decide))] at j50 j51 j52
  rw [show v.toInt.toNat = p by omega] at j50
  rw [show (v.toInt + 1).toNat = p + 1 by omega] at j51
  rw [show (v.toInt + 2).toNat = p + 2 by omega] at j52
  refine j2lds_L F X1 X2 hp 7 F1 0 (by omega) (qq_src (qq_mk hb gg (by decide)) k0) (by omega) (by omega) e84 (fun i hi => ?_) (fun q i hq hi => absurd hi (by omega))
  match i, hi with
  | 0, _ => exact j50.symm
  | 1, _ => exact j51.symm
  | 2, _ => exact j52.symm
end SV2
end
