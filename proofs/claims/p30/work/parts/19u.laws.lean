/-! ===== terms and laws, way by way ===== -/
theorem tr_0_p0 {Ls : Nat} {xs : Nat → Int32} {d : Nat} {Q : Option Value → jm_h → Prop} (hd : 2 ≤ d) (F : Nat → sy_d) (X1 X2 : List jm_c) (hB : iv_in F iv_B4)
    (h0 : 0 ≤ (sy_i F 14).toInt ∧ (sy_i F 14).toInt < 260)
    (h1 : (sy_i F 6).toInt ≠ 0)
    (k : ∀ F1 : Nat → sy_d, (∀ j, j < 69 → j ≠ 47 → F1 j = F j) → F1 47 = .inr (.inl (jm_upd (sy_ai F 47) (sy_i F 14).toNatClampNeg (sy_i F 15))) → hd_W Ls xs d jm_M161 Q (24, sy_dL F1 [some (.inl (.ref 1000))], sy_dS F1 [], sy_dh F1 X1 X2 (iv_H 4), 0, 0)) :
    hd_W Ls xs d jm_M161 Q (0, sy_dL F [some (.inl (.ref 1000))], sy_dS F [], sy_dh F X1 X2 (iv_H 4), 0, 0) := by
  refine hd_run (s := 4) (nv := 69) (pc := 24) (L := [some (.inl (.ref 1000))]) (S := []) (uh := hd_ov (iv_id 0 iv_B4) [(47, .inr (.inr (.inl 69)))]) (ul := []) (f := true) (sp := [21, 24]) (d0 := 1) (O := [true]) (T := [(40, [.inr (.inl 14), .inr (.inl 15)], [.inr (.inl 47)])]) (P := [(6, .inr (.inl 14), .inl (.ref 260)), (1, .inr (.inl 6), .inl (.int 0))]) jm_ok161 (by decide +kernel) (by decide +kernel) hd F X1 X2 (fun F' hF hs => ?_)
  have b14 := hd_b (F := F) (F' := F') (k := 14) (hF 14 (by decide))
  have b6 := hd_b (F := F) (F' := F') (k := 6) (hF 6 (by decide))
  have b15 := hd_b (F := F) (F' := F') (k := 15) (hF 15 (by decide))
  have a47 := hd_ba (F := F) (F' := F') (k := 47) (hF 47 (by decide))
  have t69 : sy_da F' (.inr (.inl 69)) = .inl (jm_upd (sy_ai F 47) (sy_i F 14).toNatClampNeg (sy_i F 15)) := hd_up (hs 0 _ rfl) b14 b15 a47
  have hB' : iv_in F' iv_B4 := iv_in_eq hB (fun j hj => hF j (Nat.lt_of_lt_of_le hj (by decide +kernel)))
  refine ⟨List.forall_mem_cons.mpr ⟨hd_pb b14 (by first | exact h0 | exact h0), List.forall_mem_cons.mpr ⟨hd_p1 b6 rfl (by have hc : ((0) : Int32).toInt = 0 := (by decide); omega), fun _ h => absurd h List.not_mem_nil⟩⟩, ?_⟩
  refine k _ ?_ ?_
  · exact fun j hj hn => (hd_keep hB' (Nat.lt_of_lt_of_le hj (by decide +kernel)) (by simp; omega)).trans (hF j (by omega))
  · exact hd_ga (a := .inr (.inl 69)) (by decide +kernel) t69
theorem tr_0_p1 {Ls : Nat} {xs : Nat → Int32} {d : Nat} {Q : Option Value → jm_h → Prop} (hd : 2 ≤ d) (F : Nat → sy_d) (X1 X2 : List jm_c) (hB : iv_in F iv_B4)
    (h0 : 0 ≤ (sy_i F 14).toInt ∧ (sy_i F 14).toInt < 260)
    (h1 : (sy_i F 6).toInt = 0)
    (k : ∀ F1 : Nat → sy_d, (∀ j, j < 69 → j ≠ 47 → F1 j = F j) → F1 47 = .inr (.inl (jm_upd (sy_ai F 47) (sy_i F 14).toNatClampNeg (sy_i F 15))) → hd_W Ls xs d jm_M161 Q (21, sy_dL F1 [some (.inl (.ref 1000))], sy_dS F1 [.inl (.ref 1000)], sy_dh F1 X1 X2 (iv_H 4), 0, 0)) :
    hd_W Ls xs d jm_M161 Q (0, sy_dL F [some (.inl (.ref 1000))], sy_dS F [], sy_dh F X1 X2 (iv_H 4), 0, 0) := by
  refine hd_run (s := 4) (nv := 69) (pc := 21) (L := [some (.inl (.ref 1000))]) (S := [.inl (.ref 1000)]) (uh := hd_ov (iv_id 0 iv_B4) [(47, .inr (.inr (.inl 69)))]) (ul := []) (f := true) (sp := [21, 24]) (d0 := 1) (O := [false]) (T := [(40, [.inr (.inl 14), .inr (.inl 15)], [.inr (.inl 47)])]) (P := [(6, .inr (.inl 14), .inl (.ref 260)), (0, .inr (.inl 6), .inl (.int 0))]) jm_ok161 (by decide +kernel) (by decide +kernel) hd F X1 X2 (fun F' hF hs => ?_)
  have b14 := hd_b (F := F) (F' := F') (k := 14) (hF 14 (by decide))
  have b6 := hd_b (F := F) (F' := F') (k := 6) (hF 6 (by decide))
  have b15 := hd_b (F := F) (F' := F') (k := 15) (hF 15 (by decide))
  have a47 := hd_ba (F := F) (F' := F') (k := 47) (hF 47 (by decide))
  have t69 : sy_da F' (.inr (.inl 69)) = .inl (jm_upd (sy_ai F 47) (sy_i F 14).toNatClampNeg (sy_i F 15)) := hd_up (hs 0 _ rfl) b14 b15 a47
  have hB' : iv_in F' iv_B4 := iv_in_eq hB (fun j hj => hF j (Nat.lt_of_lt_of_le hj (by decide +kernel)))
  refine ⟨List.forall_mem_cons.mpr ⟨hd_pb b14 (by first | exact h0 | exact h0), List.forall_mem_cons.mpr ⟨hd_p0 b6 rfl (by have hc : ((0) : Int32).toInt = 0 := (by decide); omega), fun _ h => absurd h List.not_mem_nil⟩⟩, ?_⟩
  refine k _ ?_ ?_
  · exact fun j hj hn => (hd_keep hB' (Nat.lt_of_lt_of_le hj (by decide +kernel)) (by simp; omega)).trans (hF j (by omega))
  · exact hd_ga (a := .inr (.inl 69)) (by decide +kernel) t69
theorem tr_0 {Ls : Nat} {xs : Nat → Int32} {d : Nat} {Q : Option Value → jm_h → Prop} (hd : 2 ≤ d) (F : Nat → sy_d) (X1 X2 : List jm_c) (hB : iv_in F iv_B4)
    (o0 : (0 ≤ (sy_i F 14).toInt ∧ (sy_i F 14).toInt < 260))
    (k0 : (sy_i F 6).toInt ≠ 0 → ∀ F1 : Nat → sy_d, iv_in F1 iv_B4 → (∀ j, j < 69 → j ∉ ([47] : List Nat) → F1 j = F j) → (sy_i F1 4).toInt = (sy_i F 4).toInt → (sy_i F1 5).toInt = (sy_i F 5).toInt → (sy_i F1 6).toInt = (sy_i F 6).toInt → (sy_i F1 11).toInt = (sy_i F 11).toInt → (sy_i F1 12).toInt = (sy_i F 12).toInt → (sy_i F1 14).toInt = (sy_i F 14).toInt → (sy_i F1 15).toInt = (sy_i F 15).toInt → (sy_i F1 16).toInt = (sy_i F 16).toInt → sy_ai F1 44 = sy_ai F 44 → sy_ai F1 45 = sy_ai F 45 → sy_ai F1 46 = sy_ai F 46 → sy_ai F1 47 = jm_upd (sy_ai F 47) ((sy_i F 14).toInt).toNat (sy_i F 15) → sy_ai F1 48 = sy_ai F 48 → sy_ai F1 49 = sy_ai F 49 → sy_ai F1 50 = sy_ai F 50 → hd_W Ls xs d jm_M161 Q (24, sy_dL F1 [some (.inl (.ref 1000))], sy_dS F1 [], sy_dh F1 X1 X2 (iv_H 4), 0, 0))
    (k1 : (sy_i F 6).toInt = 0 → ∀ F1 : Nat → sy_d, iv_in F1 iv_B4 → (∀ j, j < 69 → j ∉ ([47] : List Nat) → F1 j = F j) → (sy_i F1 4).toInt = (sy_i F 4).toInt → (sy_i F1 5).toInt = (sy_i F 5).toInt → (sy_i F1 6).toInt = (sy_i F 6).toInt → (sy_i F1 11).toInt = (sy_i F 11).toInt → (sy_i F1 12).toInt = (sy_i F 12).toInt → (sy_i F1 14).toInt = (sy_i F 14).toInt → (sy_i F1 15).toInt = (sy_i F 15).toInt → (sy_i F1 16).toInt = (sy_i F 16).toInt → sy_ai F1 44 = sy_ai F 44 → sy_ai F1 45 = sy_ai F 45 → sy_ai F1 46 = sy_ai F 46 → sy_ai F1 47 = jm_upd (sy_ai F 47) ((sy_i F 14).toInt).toNat (sy_i F 15) → sy_ai F1 48 = sy_ai F 48 → sy_ai F1 49 = sy_ai F 49 → sy_ai F1 50 = sy_ai F 50 → hd_W Ls xs d jm_M161 Q (21, sy_dL F1 [some (.inl (.ref 1000))], sy_dS F1 [.inl (.ref 1000)], sy_dh F1 X1 X2 (iv_H 4), 0, 0)) :
    hd_W Ls xs d jm_M161 Q (0, sy_dL F [some (.inl (.ref 1000))], sy_dS F [], sy_dh F X1 X2 (iv_H 4), 0, 0) := by
  by_cases g0 : (sy_i F 6).toInt ≠ 0
  · have c14 := nz_bx hB (k := 14) (lo := 0) (hi := 260) rfl
    have c6 := nz_bx hB (k := 6) (lo := 0) (hi := 2) rfl
    have c15 := nz_bx hB (k := 15) (lo := 0) (hi := 840) rfl
    have w69 : jm_upd (sy_ai F 47) (sy_i F 14).toNatClampNeg (sy_i F 15) = jm_upd (sy_ai F 47) ((sy_i F 14).toInt).toNat (sy_i F 15) := by simp only [nz_c]
    exact tr_0_p0 hd F X1 X2 hB (by first | exact (o0) | (simp only [nz_c]; exact (o0))) (by first | exact g0 | (simp only [nz_c]; exact g0)) (fun F1 g e47 => k0 g0 F1 (nz_in hB [47] (fun j hj hn => g j hj (by simp only [List.mem_cons, List.not_mem_nil, or_false, not_or] at hn; omega)) (List.forall_mem_cons.mpr ⟨fun t ht => (Option.some.inj ht) ▸ (nz_hA e47 (nz_up (nz_ba hB (k := 47) (lo := 0) (hi := 840) rfl) (rfl : (sy_i F 15).toInt = (sy_i F 15).toInt) (by omega) (by omega))), List.forall_mem_nil _⟩)) (fun j hj hn => g j hj (by simp only [List.mem_cons, List.not_mem_nil, or_false, not_or] at hn; omega)) (nz_fi (g 4 (by decide) (by decide))) (nz_fi (g 5 (by decide) (by decide))) (nz_fi (g 6 (by decide) (by decide))) (nz_fi (g 11 (by decide) (by decide))) (nz_fi (g 12 (by decide) (by decide))) (nz_fi (g 14 (by decide) (by decide))) (nz_fi (g 15 (by decide) (by decide))) (nz_fi (g 16 (by decide) (by decide))) (nz_fa (g 44 (by decide) (by decide))) (nz_fa (g 45 (by decide) (by decide))) (nz_fa (g 46 (by decide) (by decide))) ((zz_ai e47).trans w69) (nz_fa (g 48 (by decide) (by decide))) (nz_fa (g 49 (by decide) (by decide))) (nz_fa (g 50 (by decide) (by decide))))
  replace g0 : (sy_i F 6).toInt = 0 := by omega
  have c14 := nz_bx hB (k := 14) (lo := 0) (hi := 260) rfl
  have c6 := nz_bx hB (k := 6) (lo := 0) (hi := 2) rfl
  have c15 := nz_bx hB (k := 15) (lo := 0) (hi := 840) rfl
  have w69 : jm_upd (sy_ai F 47) (sy_i F 14).toNatClampNeg (sy_i F 15) = jm_upd (sy_ai F 47) ((sy_i F 14).toInt).toNat (sy_i F 15) := by simp only [nz_c]
  exact tr_0_p1 hd F X1 X2 hB (by first | exact (o0) | (simp only [nz_c]; exact (o0))) (by first | exact g0 | (simp only [nz_c]; exact g0)) (fun F1 g e47 => k1 g0 F1 (nz_in hB [47] (fun j hj hn => g j hj (by simp only [List.mem_cons, List.not_mem_nil, or_false, not_or] at hn; omega)) (List.forall_mem_cons.mpr ⟨fun t ht => (Option.some.inj ht) ▸ (nz_hA e47 (nz_up (nz_ba hB (k := 47) (lo := 0) (hi := 840) rfl) (rfl : (sy_i F 15).toInt = (sy_i F 15).toInt) (by omega) (by omega))), List.forall_mem_nil _⟩)) (fun j hj hn => g j hj (by simp only [List.mem_cons, List.not_mem_nil, or_false, not_or] at hn; omega)) (nz_fi (g 4 (by decide) (by decide))) (nz_fi (g 5 (by decide) (by decide))) (nz_fi (g 6 (by decide) (by decide))) (nz_fi (g 11 (by decide) (by decide))) (nz_fi (g 12 (by decide) (by decide))) (nz_fi (g 14 (by decide) (by decide))) (nz_fi (g 15 (by decide) (by decide))) (nz_fi (g 16 (by decide) (by decide))) (nz_fa (g 44 (by decide) (by decide))) (nz_fa (g 45 (by decide) (by decide))) (nz_fa (g 46 (by decide) (by decide))) ((zz_ai e47).trans w69) (nz_fa (g 48 (by decide) (by decide))) (nz_fa (g 49 (by decide) (by decide))) (nz_fa (g 50 (by decide) (by decide))))
theorem tr_24_p0 {Ls : Nat} {xs : Nat → Int32} {d : Nat} {Q : Option Value → jm_h → Prop} (hd : 2 ≤ d) (F : Nat → sy_d) (X1 X2 : List jm_c) (hB : iv_in F iv_B4)
    (h0 : 0 ≤ (sy_i F 14).toInt ∧ (sy_i F 14).toInt < 260)
    (k : ∀ F1 : Nat → sy_d, (∀ j, j < 69 → j ≠ 14 ∧ j ≠ 48 → F1 j = F j) → F1 14 = .inl (.int ((sy_i F 14) + ((1 : Int32)))) → F1 48 = .inr (.inl (jm_upd (sy_ai F 48) (sy_i F 14).toNatClampNeg (sy_i F 15))) → Q (none) (sy_dh F1 X1 X2 (iv_H 4))) :
    hd_W Ls xs d jm_M161 Q (24, sy_dL F [some (.inl (.ref 1000))], sy_dS F [], sy_dh F X1 X2 (iv_H 4), 0, 0) := by
  refine hd_ret (s := 4) (nv := 69) (v := none) (uh := hd_ov (iv_id 0 iv_B4) [(14, .inl (.inr (.inl 70))), (48, .inr (.inr (.inl 69)))]) (f := true) (sp := []) (d0 := 1) (O := []) (T := [(40, [.inr (.inl 14), .inr (.inl 15)], [.inr (.inl 48)]), (0, [.inr (.inl 14), .inl (.int 1)], [])]) (P := [(6, .inr (.inl 14), .inl (.ref 260))]) jm_ok161 (by decide +kernel) (by decide +kernel) hd F X1 X2 (fun F' hF hs => ?_)
  have b14 := hd_b (F := F) (F' := F') (k := 14) (hF 14 (by decide))
  have t70 : sy_dv F' (.inr (.inl 70)) = .int ((sy_i F 14) + ((1 : Int32))) := hd_o (hs 1 _ rfl) b14 rfl rfl
  have b15 := hd_b (F := F) (F' := F') (k := 15) (hF 15 (by decide))
  have a48 := hd_ba (F := F) (F' := F') (k := 48) (hF 48 (by decide))
  have t69 : sy_da F' (.inr (.inl 69)) = .inl (jm_upd (sy_ai F 48) (sy_i F 14).toNatClampNeg (sy_i F 15)) := hd_up (hs 0 _ rfl) b14 b15 a48
  have hB' : iv_in F' iv_B4 := iv_in_eq hB (fun j hj => hF j (Nat.lt_of_lt_of_le hj (by decide +kernel)))
  refine ⟨List.forall_mem_cons.mpr ⟨hd_pb b14 (by first | exact h0 | exact h0), fun _ h => absurd h List.not_mem_nil⟩, ?_⟩
  refine k _ ?_ ?_ ?_
  · exact fun j hj hn => (hd_keep hB' (Nat.lt_of_lt_of_le hj (by decide +kernel)) (by simp; omega)).trans (hF j (by omega))
  · exact hd_gi (x := .inr (.inl 70)) (by decide +kernel) t70
  · exact hd_ga (a := .inr (.inl 69)) (by decide +kernel) t69
theorem tr_24 {Ls : Nat} {xs : Nat → Int32} {d : Nat} {Q : Option Value → jm_h → Prop} (hd : 2 ≤ d) (F : Nat → sy_d) (X1 X2 : List jm_c) (hB : iv_in F iv_B4)
    (o0 : (0 ≤ (sy_i F 14).toInt ∧ (sy_i F 14).toInt < 260))
    (o1 : (0 ≤ ((sy_i F 14).toInt + 1) ∧ ((sy_i F 14).toInt + 1) ≤ 260))
    (k0 : ∀ F1 : Nat → sy_d, iv_in F1 iv_B4 → (∀ j, j < 69 → j ∉ ([14, 48] : List Nat) → F1 j = F j) → (sy_i F1 4).toInt = (sy_i F 4).toInt → (sy_i F1 5).toInt = (sy_i F 5).toInt → (sy_i F1 6).toInt = (sy_i F 6).toInt → (sy_i F1 11).toInt = (sy_i F 11).toInt → (sy_i F1 12).toInt = (sy_i F 12).toInt → (sy_i F1 14).toInt = ((sy_i F 14).toInt + 1) → (sy_i F1 15).toInt = (sy_i F 15).toInt → (sy_i F1 16).toInt = (sy_i F 16).toInt → sy_ai F1 44 = sy_ai F 44 → sy_ai F1 45 = sy_ai F 45 → sy_ai F1 46 = sy_ai F 46 → sy_ai F1 47 = sy_ai F 47 → sy_ai F1 48 = jm_upd (sy_ai F 48) ((sy_i F 14).toInt).toNat (sy_i F 15) → sy_ai F1 49 = sy_ai F 49 → sy_ai F1 50 = sy_ai F 50 → Q (none) (sy_dh F1 X1 X2 (iv_H 4))) :
    hd_W Ls xs d jm_M161 Q (24, sy_dL F [some (.inl (.ref 1000))], sy_dS F [], sy_dh F X1 X2 (iv_H 4), 0, 0) := by
  have c14 := nz_bx hB (k := 14) (lo := 0) (hi := 260) rfl
  have n70 : ((sy_i F 14) + ((1 : Int32))).toInt = ((sy_i F 14).toInt + 1) := nz_add (rfl : (sy_i F 14).toInt = (sy_i F 14).toInt) (by decide : ((1 : Int32)).toInt = 1) (by omega) (by omega)
  have c15 := nz_bx hB (k := 15) (lo := 0) (hi := 840) rfl
  have w69 : jm_upd (sy_ai F 48) (sy_i F 14).toNatClampNeg (sy_i F 15) = jm_upd (sy_ai F 48) ((sy_i F 14).toInt).toNat (sy_i F 15) := by simp only [nz_c]
  exact tr_24_p0 hd F X1 X2 hB (by first | exact (o0) | (simp only [nz_c]; exact (o0))) (fun F1 g e14 e48 => k0 F1 (nz_in hB [14, 48] (fun j hj hn => g j hj (by simp only [List.mem_cons, List.not_mem_nil, or_false, not_or] at hn; omega)) (List.forall_mem_cons.mpr ⟨fun t ht => (Option.some.inj ht) ▸ (nz_hi e14 n70 (o1).1 (o1).2), List.forall_mem_cons.mpr ⟨fun t ht => (Option.some.inj ht) ▸ (nz_hA e48 (nz_up (nz_ba hB (k := 48) (lo := 0) (hi := 840) rfl) (rfl : (sy_i F 15).toInt = (sy_i F 15).toInt) (by omega) (by omega))), List.forall_mem_nil _⟩⟩)) (fun j hj hn => g j hj (by simp only [List.mem_cons, List.not_mem_nil, or_false, not_or] at hn; omega)) (nz_fi (g 4 (by decide) (by decide))) (nz_fi (g 5 (by decide) (by decide))) (nz_fi (g 6 (by decide) (by decide))) (nz_fi (g 11 (by decide) (by decide))) (nz_fi (g 12 (by decide) (by decide))) ((congrArg Int32.toInt (zz_i e14)).trans n70) (nz_fi (g 15 (by decide) (by decide))) (nz_fi (g 16 (by decide) (by decide))) (nz_fa (g 44 (by decide) (by decide))) (nz_fa (g 45 (by decide) (by decide))) (nz_fa (g 46 (by decide) (by decide))) (nz_fa (g 47 (by decide) (by decide))) ((zz_ai e48).trans w69) (nz_fa (g 49 (by decide) (by decide))) (nz_fa (g 50 (by decide) (by decide))))
theorem tl_0_p0 {Ls : Nat} {xs : Nat → Int32} {d : Nat} {Q : Option Value → jm_h → Prop} (hd : 4 ≤ d) (F : Nat → sy_d) (X1 X2 : List jm_c) (hB : iv_in F iv_B4)
    (h0 : (sy_i F 6).toInt ≠ 0)
    (h1 : 0 < (sy_i F 6).toInt)
    (k : ∀ F1 : Nat → sy_d, (∀ j, j < 69 → True → F1 j = F j) → F1 69 = .inl (.int (sy_i F 69)) → F1 70 = .inl (.int (sy_i F 14)) → F1 71 = .inl (.int ((0 : Int32))) → hd_W Ls xs d jm_M160 Q (12, sy_dL F1 [some (.inl (.ref 1000)), some (.inr (.inl 69)), some (.inr (.inl 70)), some (.inr (.inl 71))], sy_dS F1 [], sy_dh F1 X1 X2 (iv_H 4), 0, 0)) :
    hd_W Ls xs d jm_M160 Q (0, sy_dL F [some (.inl (.ref 1000)), some (.inr (.inl 69)), none, none], sy_dS F [], sy_dh F X1 X2 (iv_H 4), 0, 0) := by
  refine hd_run (s := 4) (nv := 70) (pc := 12) (L := [some (.inl (.ref 1000)), some (.inr (.inl 69)), some (.inr (.inl 70)), some (.inr (.inl 71))]) (S := []) (uh := hd_ov (iv_id 0 iv_B4) []) (ul := [.inl (.inr (.inl 69)), .inl (.inr (.inl 14)), .inl (.inl (.int 0))]) (f := true) (sp := [12]) (d0 := 3) (O := [true, false]) (T := []) (P := [(1, .inr (.inl 6), .inl (.int 0)), (5, .inr (.inl 6), .inl (.int 0))]) jm_ok160 (by decide +kernel) (by decide +kernel) hd F X1 X2 (fun F' hF hs => ?_)
  have b6 := hd_b (F := F) (F' := F') (k := 6) (hF 6 (by decide))
  have b69 := hd_b (F := F) (F' := F') (k := 69) (hF 69 (by decide))
  have b14 := hd_b (F := F) (F' := F') (k := 14) (hF 14 (by decide))
  have hB' : iv_in F' iv_B4 := iv_in_eq hB (fun j hj => hF j (Nat.lt_of_lt_of_le hj (by decide +kernel)))
  refine ⟨List.forall_mem_cons.mpr ⟨hd_p1 b6 rfl (by have hc : ((0) : Int32).toInt = 0 := (by decide); omega), List.forall_mem_cons.mpr ⟨hd_p5 b6 rfl (by have hc : ((0) : Int32).toInt = 0 := (by decide); omega), fun _ h => absurd h List.not_mem_nil⟩⟩, ?_⟩
  refine k _ ?_ ?_ ?_ ?_
  · exact fun j hj _ => (hd_keep hB' (Nat.lt_of_lt_of_le hj (by decide +kernel)) (by simp)).trans (hF j (by omega))
  · exact hd_gi (x := .inr (.inl 69)) (by decide +kernel) b69
  · exact hd_gi (x := .inr (.inl 14)) (by decide +kernel) b14
  · exact hd_gi (x := .inl (.int 0)) (by decide +kernel) rfl
theorem tl_0_p1 {Ls : Nat} {xs : Nat → Int32} {d : Nat} {Q : Option Value → jm_h → Prop} (hd : 4 ≤ d) (F : Nat → sy_d) (X1 X2 : List jm_c) (hB : iv_in F iv_B4)
    (h0 : (sy_i F 6).toInt = 0)
    (h1 : 0 ≤ (sy_i F 4).toInt ∧ (sy_i F 4).toInt < 403)
    (h2 : ((sy_ai F 25).getD (sy_i F 4).toNatClampNeg 0).toInt ≠ 5)
    (h3 : (sy_i F 6).toInt ≤ 0)
    (h4 : 0 ≤ (sy_i F 4).toInt ∧ (sy_i F 4).toInt < 403)
    (k : ∀ F1 : Nat → sy_d, (∀ j, j < 69 → j ≠ 6 ∧ j ≠ 7 → F1 j = F j) → F1 6 = .inl (.int ((1 : Int32))) → F1 7 = .inl (.int ((sy_ai F 26).getD (sy_i F 4).toNatClampNeg 0)) → F1 69 = .inl (.int (sy_i F 69)) → F1 70 = .inl (.int (sy_i F 14)) → F1 71 = .inl (.int ((0 : Int32))) → hd_W Ls xs d jm_M160 Q (12, sy_dL F1 [some (.inl (.ref 1000)), some (.inr (.inl 69)), some (.inr (.inl 70)), some (.inr (.inl 71))], sy_dS F1 [], sy_dh F1 X1 X2 (iv_H 4), 0, 0)) :
    hd_W Ls xs d jm_M160 Q (0, sy_dL F [some (.inl (.ref 1000)), some (.inr (.inl 69)), none, none], sy_dS F [], sy_dh F X1 X2 (iv_H 4), 0, 0) := by
  refine hd_run (s := 4) (nv := 70) (pc := 12) (L := [some (.inl (.ref 1000)), some (.inr (.inl 69)), some (.inr (.inl 70)), some (.inr (.inl 71))]) (S := []) (uh := hd_ov (iv_id 0 iv_B4) [(6, .inl (.inl (.int 1))), (7, .inl (.inr (.inl 71)))]) (ul := [.inl (.inr (.inl 69)), .inl (.inr (.inl 14)), .inl (.inl (.int 0))]) (f := true) (sp := [12]) (d0 := 3) (O := [false, true, true]) (T := [(30, [.inr (.inl 4)], [.inr (.inl 25)]), (30, [.inr (.inl 4)], [.inr (.inl 26)])]) (P := [(0, .inr (.inl 6), .inl (.int 0)), (6, .inr (.inl 4), .inl (.ref 403)), (1, .inr (.inl 70), .inl (.int 5)), (4, .inr (.inl 6), .inl (.int 0)), (6, .inr (.inl 4), .inl (.ref 403))]) jm_ok160 (by decide +kernel) (by decide +kernel) hd F X1 X2 (fun F' hF hs => ?_)
  have b6 := hd_b (F := F) (F' := F') (k := 6) (hF 6 (by decide))
  have b4 := hd_b (F := F) (F' := F') (k := 4) (hF 4 (by decide))
  have a25 := hd_ba (F := F) (F' := F') (k := 25) (hF 25 (by decide))
  have t70 : sy_dv F' (.inr (.inl 70)) = .int ((sy_ai F 25).getD (sy_i F 4).toNatClampNeg 0) := hd_rd (hs 0 _ rfl) b4 a25
  have a26 := hd_ba (F := F) (F' := F') (k := 26) (hF 26 (by decide))
  have t71 : sy_dv F' (.inr (.inl 71)) = .int ((sy_ai F 26).getD (sy_i F 4).toNatClampNeg 0) := hd_rd (hs 1 _ rfl) b4 a26
  have b69 := hd_b (F := F) (F' := F') (k := 69) (hF 69 (by decide))
  have b14 := hd_b (F := F) (F' := F') (k := 14) (hF 14 (by decide))
  have hB' : iv_in F' iv_B4 := iv_in_eq hB (fun j hj => hF j (Nat.lt_of_lt_of_le hj (by decide +kernel)))
  refine ⟨List.forall_mem_cons.mpr ⟨hd_p0 b6 rfl (by have hc : ((0) : Int32).toInt = 0 := (by decide); omega), List.forall_mem_cons.mpr ⟨hd_pb b4 (by first | exact h1 | exact h1), List.forall_mem_cons.mpr ⟨hd_p1 t70 rfl (by have hc : ((5) : Int32).toInt = 5 := (by decide); omega), List.forall_mem_cons.mpr ⟨hd_p4 b6 rfl (by have hc : ((0) : Int32).toInt = 0 := (by decide); omega), List.forall_mem_cons.mpr ⟨hd_pb b4 (by first | exact h4 | exact h4), fun _ h => absurd h List.not_mem_nil⟩⟩⟩⟩⟩, ?_⟩
  refine k _ ?_ ?_ ?_ ?_ ?_ ?_
  · exact fun j hj hn => (hd_keep hB' (Nat.lt_of_lt_of_le hj (by decide +kernel)) (by simp; omega)).trans (hF j (by omega))
  · exact hd_gi (x := .inl (.int 1)) (by decide +kernel) rfl
  · exact hd_gi (x := .inr (.inl 71)) (by decide +kernel) t71
  · exact hd_gi (x := .inr (.inl 69)) (by decide +kernel) b69
  · exact hd_gi (x := .inr (.inl 14)) (by decide +kernel) b14
  · exact hd_gi (x := .inl (.int 0)) (by decide +kernel) rfl
theorem tl_0_p2 {Ls : Nat} {xs : Nat → Int32} {d : Nat} {Q : Option Value → jm_h → Prop} (hd : 4 ≤ d) (F : Nat → sy_d) (X1 X2 : List jm_c) (hB : iv_in F iv_B4)
    (h0 : (sy_i F 6).toInt = 0)
    (h1 : 0 ≤ (sy_i F 4).toInt ∧ (sy_i F 4).toInt < 403)
    (h2 : ((sy_ai F 25).getD (sy_i F 4).toNatClampNeg 0).toInt = 5)
    (h3 : (sy_i F 4).toInt ≠ 400)
    (k : ∀ F1 : Nat → sy_d, (∀ j, j < 69 → j ≠ 4 → F1 j = F j) → F1 4 = .inl (.int ((sy_i F 4) + ((1 : Int32)))) → F1 69 = .inl (.int (sy_i F 69)) → F1 70 = .inl (.int (sy_i F 14)) → F1 71 = .inl (.int ((0 : Int32))) → hd_W Ls xs d jm_M160 Q (12, sy_dL F1 [some (.inl (.ref 1000)), some (.inr (.inl 69)), some (.inr (.inl 70)), some (.inr (.inl 71))], sy_dS F1 [], sy_dh F1 X1 X2 (iv_H 4), 0, 0)) :
    hd_W Ls xs d jm_M160 Q (0, sy_dL F [some (.inl (.ref 1000)), some (.inr (.inl 69)), none, none], sy_dS F [], sy_dh F X1 X2 (iv_H 4), 0, 0) := by
  refine hd_run (s := 4) (nv := 70) (pc := 12) (L := [some (.inl (.ref 1000)), some (.inr (.inl 69)), some (.inr (.inl 70)), some (.inr (.inl 71))]) (S := []) (uh := hd_ov (iv_id 0 iv_B4) [(4, .inl (.inr (.inl 71)))]) (ul := [.inl (.inr (.inl 69)), .inl (.inr (.inl 14)), .inl (.inl (.int 0))]) (f := true) (sp := [12]) (d0 := 3) (O := [false, false, true]) (T := [(30, [.inr (.inl 4)], [.inr (.inl 25)]), (0, [.inr (.inl 4), .inl (.int 1)], [])]) (P := [(0, .inr (.inl 6), .inl (.int 0)), (6, .inr (.inl 4), .inl (.ref 403)), (0, .inr (.inl 70), .inl (.int 5)), (1, .inr (.inl 4), .inl (.int 400))]) jm_ok160 (by decide +kernel) (by decide +kernel) hd F X1 X2 (fun F' hF hs => ?_)
  have b6 := hd_b (F := F) (F' := F') (k := 6) (hF 6 (by decide))
  have b4 := hd_b (F := F) (F' := F') (k := 4) (hF 4 (by decide))
  have a25 := hd_ba (F := F) (F' := F') (k := 25) (hF 25 (by decide))
  have t70 : sy_dv F' (.inr (.inl 70)) = .int ((sy_ai F 25).getD (sy_i F 4).toNatClampNeg 0) := hd_rd (hs 0 _ rfl) b4 a25
  have t71 : sy_dv F' (.inr (.inl 71)) = .int ((sy_i F 4) + ((1 : Int32))) := hd_o (hs 1 _ rfl) b4 rfl rfl
  have b69 := hd_b (F := F) (F' := F') (k := 69) (hF 69 (by decide))
  have b14 := hd_b (F := F) (F' := F') (k := 14) (hF 14 (by decide))
  have hB' : iv_in F' iv_B4 := iv_in_eq hB (fun j hj => hF j (Nat.lt_of_lt_of_le hj (by decide +kernel)))
  refine ⟨List.forall_mem_cons.mpr ⟨hd_p0 b6 rfl (by have hc : ((0) : Int32).toInt = 0 := (by decide); omega), List.forall_mem_cons.mpr ⟨hd_pb b4 (by first | exact h1 | exact h1), List.forall_mem_cons.mpr ⟨hd_p0 t70 rfl (by have hc : ((5) : Int32).toInt = 5 := (by decide); omega), List.forall_mem_cons.mpr ⟨hd_p1 b4 rfl (by have hc : ((400) : Int32).toInt = 400 := (by decide); omega), fun _ h => absurd h List.not_mem_nil⟩⟩⟩⟩, ?_⟩
  refine k _ ?_ ?_ ?_ ?_ ?_
  · exact fun j hj hn => (hd_keep hB' (Nat.lt_of_lt_of_le hj (by decide +kernel)) (by simp; omega)).trans (hF j (by omega))
  · exact hd_gi (x := .inr (.inl 71)) (by decide +kernel) t71
  · exact hd_gi (x := .inr (.inl 69)) (by decide +kernel) b69
  · exact hd_gi (x := .inr (.inl 14)) (by decide +kernel) b14
  · exact hd_gi (x := .inl (.int 0)) (by decide +kernel) rfl
theorem tl_0_p3 {Ls : Nat} {xs : Nat → Int32} {d : Nat} {Q : Option Value → jm_h → Prop} (hd : 4 ≤ d) (F : Nat → sy_d) (X1 X2 : List jm_c) (hB : iv_in F iv_B4)
    (h0 : (sy_i F 6).toInt = 0)
    (h1 : 0 ≤ (sy_i F 4).toInt ∧ (sy_i F 4).toInt < 403)
    (h2 : ((sy_ai F 25).getD (sy_i F 4).toNatClampNeg 0).toInt = 5)
    (h3 : (sy_i F 4).toInt = 400)
    (h4 : (sy_i F 6).toInt ≤ 0)
    (h5 : 0 ≤ (sy_i F 4).toInt ∧ (sy_i F 4).toInt < 403)
    (k : ∀ F1 : Nat → sy_d, (∀ j, j < 69 → j ≠ 6 ∧ j ≠ 7 → F1 j = F j) → F1 6 = .inl (.int ((2 : Int32))) → F1 7 = .inl (.int ((sy_ai F 26).getD (sy_i F 4).toNatClampNeg 0)) → F1 69 = .inl (.int (sy_i F 69)) → F1 70 = .inl (.int (sy_i F 14)) → F1 71 = .inl (.int ((0 : Int32))) → hd_W Ls xs d jm_M160 Q (12, sy_dL F1 [some (.inl (.ref 1000)), some (.inr (.inl 69)), some (.inr (.inl 70)), some (.inr (.inl 71))], sy_dS F1 [], sy_dh F1 X1 X2 (iv_H 4), 0, 0)) :
    hd_W Ls xs d jm_M160 Q (0, sy_dL F [some (.inl (.ref 1000)), some (.inr (.inl 69)), none, none], sy_dS F [], sy_dh F X1 X2 (iv_H 4), 0, 0) := by
  refine hd_run (s := 4) (nv := 70) (pc := 12) (L := [some (.inl (.ref 1000)), some (.inr (.inl 69)), some (.inr (.inl 70)), some (.inr (.inl 71))]) (S := []) (uh := hd_ov (iv_id 0 iv_B4) [(6, .inl (.inl (.int 2))), (7, .inl (.inr (.inl 71)))]) (ul := [.inl (.inr (.inl 69)), .inl (.inr (.inl 14)), .inl (.inl (.int 0))]) (f := true) (sp := [12]) (d0 := 3) (O := [false, false, false, true]) (T := [(30, [.inr (.inl 4)], [.inr (.inl 25)]), (30, [.inr (.inl 4)], [.inr (.inl 26)])]) (P := [(0, .inr (.inl 6), .inl (.int 0)), (6, .inr (.inl 4), .inl (.ref 403)), (0, .inr (.inl 70), .inl (.int 5)), (0, .inr (.inl 4), .inl (.int 400)), (4, .inr (.inl 6), .inl (.int 0)), (6, .inr (.inl 4), .inl (.ref 403))]) jm_ok160 (by decide +kernel) (by decide +kernel) hd F X1 X2 (fun F' hF hs => ?_)
  have b6 := hd_b (F := F) (F' := F') (k := 6) (hF 6 (by decide))
  have b4 := hd_b (F := F) (F' := F') (k := 4) (hF 4 (by decide))
  have a25 := hd_ba (F := F) (F' := F') (k := 25) (hF 25 (by decide))
  have t70 : sy_dv F' (.inr (.inl 70)) = .int ((sy_ai F 25).getD (sy_i F 4).toNatClampNeg 0) := hd_rd (hs 0 _ rfl) b4 a25
  have a26 := hd_ba (F := F) (F' := F') (k := 26) (hF 26 (by decide))
  have t71 : sy_dv F' (.inr (.inl 71)) = .int ((sy_ai F 26).getD (sy_i F 4).toNatClampNeg 0) := hd_rd (hs 1 _ rfl) b4 a26
  have b69 := hd_b (F := F) (F' := F') (k := 69) (hF 69 (by decide))
  have b14 := hd_b (F := F) (F' := F') (k := 14) (hF 14 (by decide))
  have hB' : iv_in F' iv_B4 := iv_in_eq hB (fun j hj => hF j (Nat.lt_of_lt_of_le hj (by decide +kernel)))
  refine ⟨List.forall_mem_cons.mpr ⟨hd_p0 b6 rfl (by have hc : ((0) : Int32).toInt = 0 := (by decide); omega), List.forall_mem_cons.mpr ⟨hd_pb b4 (by first | exact h1 | exact h1), List.forall_mem_cons.mpr ⟨hd_p0 t70 rfl (by have hc : ((5) : Int32).toInt = 5 := (by decide); omega), List.forall_mem_cons.mpr ⟨hd_p0 b4 rfl (by have hc : ((400) : Int32).toInt = 400 := (by decide); omega), List.forall_mem_cons.mpr ⟨hd_p4 b6 rfl (by have hc : ((0) : Int32).toInt = 0 := (by decide); omega), List.forall_mem_cons.mpr ⟨hd_pb b4 (by first | exact h5 | exact h5), fun _ h => absurd h List.not_mem_nil⟩⟩⟩⟩⟩⟩, ?_⟩
  refine k _ ?_ ?_ ?_ ?_ ?_ ?_
  · exact fun j hj hn => (hd_keep hB' (Nat.lt_of_lt_of_le hj (by decide +kernel)) (by simp; omega)).trans (hF j (by omega))
  · exact hd_gi (x := .inl (.int 2)) (by decide +kernel) rfl
  · exact hd_gi (x := .inr (.inl 71)) (by decide +kernel) t71
  · exact hd_gi (x := .inr (.inl 69)) (by decide +kernel) b69
  · exact hd_gi (x := .inr (.inl 14)) (by decide +kernel) b14
  · exact hd_gi (x := .inl (.int 0)) (by decide +kernel) rfl
theorem tl_0 {Ls : Nat} {xs : Nat → Int32} {d : Nat} {Q : Option Value → jm_h → Prop} (hd : 4 ≤ d) (F : Nat → sy_d) (X1 X2 : List jm_c) (hB : iv_in F iv_B4)
    (k0 : (sy_i F 6).toInt ≠ 0 → 0 < (sy_i F 6).toInt → ∀ F1 : Nat → sy_d, iv_in F1 iv_B4 → (∀ j, j < 69 → j ∉ ([] : List Nat) → F1 j = F j) → (sy_i F1 4).toInt = (sy_i F 4).toInt → (sy_i F1 5).toInt = (sy_i F 5).toInt → (sy_i F1 6).toInt = (sy_i F 6).toInt → (sy_i F1 11).toInt = (sy_i F 11).toInt → (sy_i F1 12).toInt = (sy_i F 12).toInt → (sy_i F1 14).toInt = (sy_i F 14).toInt → (sy_i F1 15).toInt = (sy_i F 15).toInt → (sy_i F1 16).toInt = (sy_i F 16).toInt → sy_ai F1 42 = sy_ai F 42 → sy_ai F1 43 = sy_ai F 43 → sy_ai F1 44 = sy_ai F 44 → sy_ai F1 45 = sy_ai F 45 → sy_ai F1 46 = sy_ai F 46 → sy_ai F1 47 = sy_ai F 47 → sy_ai F1 48 = sy_ai F 48 → sy_ai F1 49 = sy_ai F 49 → sy_ai F1 50 = sy_ai F 50 → (sy_i F1 69).toInt = (sy_i F 69).toInt → (sy_i F1 70).toInt = (sy_i F 14).toInt → (sy_i F1 71).toInt = 0 → hd_W Ls xs d jm_M160 Q (12, sy_dL F1 [some (.inl (.ref 1000)), some (.inr (.inl 69)), some (.inr (.inl 70)), some (.inr (.inl 71))], sy_dS F1 [], sy_dh F1 X1 X2 (iv_H 4), 0, 0))
    (k1 : (sy_i F 6).toInt = 0 → ((sy_ai F 25).getD ((sy_i F 4).toInt).toNat 0).toInt ≠ 5 → (sy_i F 6).toInt ≤ 0 → ∀ F1 : Nat → sy_d, iv_in F1 iv_B4 → (∀ j, j < 69 → j ∉ ([6, 7] : List Nat) → F1 j = F j) → (sy_i F1 4).toInt = (sy_i F 4).toInt → (sy_i F1 5).toInt = (sy_i F 5).toInt → (sy_i F1 6).toInt = 1 → (sy_i F1 11).toInt = (sy_i F 11).toInt → (sy_i F1 12).toInt = (sy_i F 12).toInt → (sy_i F1 14).toInt = (sy_i F 14).toInt → (sy_i F1 15).toInt = (sy_i F 15).toInt → (sy_i F1 16).toInt = (sy_i F 16).toInt → sy_ai F1 42 = sy_ai F 42 → sy_ai F1 43 = sy_ai F 43 → sy_ai F1 44 = sy_ai F 44 → sy_ai F1 45 = sy_ai F 45 → sy_ai F1 46 = sy_ai F 46 → sy_ai F1 47 = sy_ai F 47 → sy_ai F1 48 = sy_ai F 48 → sy_ai F1 49 = sy_ai F 49 → sy_ai F1 50 = sy_ai F 50 → (sy_i F1 69).toInt = (sy_i F 69).toInt → (sy_i F1 70).toInt = (sy_i F 14).toInt → (sy_i F1 71).toInt = 0 → hd_W Ls xs d jm_M160 Q (12, sy_dL F1 [some (.inl (.ref 1000)), some (.inr (.inl 69)), some (.inr (.inl 70)), some (.inr (.inl 71))], sy_dS F1 [], sy_dh F1 X1 X2 (iv_H 4), 0, 0))
    (k2 : (sy_i F 6).toInt = 0 → ((sy_ai F 25).getD ((sy_i F 4).toInt).toNat 0).toInt = 5 → (sy_i F 4).toInt ≠ 400 → ∀ F1 : Nat → sy_d, iv_in F1 iv_B4 → (∀ j, j < 69 → j ∉ ([4] : List Nat) → F1 j = F j) → (sy_i F1 4).toInt = ((sy_i F 4).toInt + 1) → (sy_i F1 5).toInt = (sy_i F 5).toInt → (sy_i F1 6).toInt = (sy_i F 6).toInt → (sy_i F1 11).toInt = (sy_i F 11).toInt → (sy_i F1 12).toInt = (sy_i F 12).toInt → (sy_i F1 14).toInt = (sy_i F 14).toInt → (sy_i F1 15).toInt = (sy_i F 15).toInt → (sy_i F1 16).toInt = (sy_i F 16).toInt → sy_ai F1 42 = sy_ai F 42 → sy_ai F1 43 = sy_ai F 43 → sy_ai F1 44 = sy_ai F 44 → sy_ai F1 45 = sy_ai F 45 → sy_ai F1 46 = sy_ai F 46 → sy_ai F1 47 = sy_ai F 47 → sy_ai F1 48 = sy_ai F 48 → sy_ai F1 49 = sy_ai F 49 → sy_ai F1 50 = sy_ai F 50 → (sy_i F1 69).toInt = (sy_i F 69).toInt → (sy_i F1 70).toInt = (sy_i F 14).toInt → (sy_i F1 71).toInt = 0 → hd_W Ls xs d jm_M160 Q (12, sy_dL F1 [some (.inl (.ref 1000)), some (.inr (.inl 69)), some (.inr (.inl 70)), some (.inr (.inl 71))], sy_dS F1 [], sy_dh F1 X1 X2 (iv_H 4), 0, 0))
    (k3 : (sy_i F 6).toInt = 0 → ((sy_ai F 25).getD ((sy_i F 4).toInt).toNat 0).toInt = 5 → (sy_i F 4).toInt = 400 → (sy_i F 6).toInt ≤ 0 → ∀ F1 : Nat → sy_d, iv_in F1 iv_B4 → (∀ j, j < 69 → j ∉ ([6, 7] : List Nat) → F1 j = F j) → (sy_i F1 4).toInt = (sy_i F 4).toInt → (sy_i F1 5).toInt = (sy_i F 5).toInt → (sy_i F1 6).toInt = 2 → (sy_i F1 11).toInt = (sy_i F 11).toInt → (sy_i F1 12).toInt = (sy_i F 12).toInt → (sy_i F1 14).toInt = (sy_i F 14).toInt → (sy_i F1 15).toInt = (sy_i F 15).toInt → (sy_i F1 16).toInt = (sy_i F 16).toInt → sy_ai F1 42 = sy_ai F 42 → sy_ai F1 43 = sy_ai F 43 → sy_ai F1 44 = sy_ai F 44 → sy_ai F1 45 = sy_ai F 45 → sy_ai F1 46 = sy_ai F 46 → sy_ai F1 47 = sy_ai F 47 → sy_ai F1 48 = sy_ai F 48 → sy_ai F1 49 = sy_ai F 49 → sy_ai F1 50 = sy_ai F 50 → (sy_i F1 69).toInt = (sy_i F 69).toInt → (sy_i F1 70).toInt = (sy_i F 14).toInt → (sy_i F1 71).toInt = 0 → hd_W Ls xs d jm_M160 Q (12, sy_dL F1 [some (.inl (.ref 1000)), some (.inr (.inl 69)), some (.inr (.inl 70)), some (.inr (.inl 71))], sy_dS F1 [], sy_dh F1 X1 X2 (iv_H 4), 0, 0)) :
    hd_W Ls xs d jm_M160 Q (0, sy_dL F [some (.inl (.ref 1000)), some (.inr (.inl 69)), none, none], sy_dS F [], sy_dh F X1 X2 (iv_H 4), 0, 0) := by
  by_cases g0 : (sy_i F 6).toInt ≠ 0
  · by_cases g1 : (sy_i F 6).toInt ≤ 0
    · have c6 := nz_bx hB (k := 6) (lo := 0) (hi := 2) rfl
      exfalso
      omega
    replace g1 : 0 < (sy_i F 6).toInt := by omega
    have c6 := nz_bx hB (k := 6) (lo := 0) (hi := 2) rfl
    have c14 := nz_bx hB (k := 14) (lo := 0) (hi := 260) rfl
    exact tl_0_p0 hd F X1 X2 hB (by first | exact g0 | (simp only [nz_c]; exact g0)) (by first | exact g1 | (simp only [nz_c]; exact g1)) (fun F1 g e69 e70 e71 => k0 g0 g1 F1 (nz_in hB [] (fun j hj hn => g j hj (by simp only [List.mem_cons, List.not_mem_nil, or_false, not_or] at hn; exact trivial)) (List.forall_mem_nil _)) (fun j hj hn => g j hj (by simp only [List.mem_cons, List.not_mem_nil, or_false, not_or] at hn; exact trivial)) (nz_fi (g 4 (by decide) (by decide))) (nz_fi (g 5 (by decide) (by decide))) (nz_fi (g 6 (by decide) (by decide))) (nz_fi (g 11 (by decide) (by decide))) (nz_fi (g 12 (by decide) (by decide))) (nz_fi (g 14 (by decide) (by decide))) (nz_fi (g 15 (by decide) (by decide))) (nz_fi (g 16 (by decide) (by decide))) (nz_fa (g 42 (by decide) (by decide))) (nz_fa (g 43 (by decide) (by decide))) (nz_fa (g 44 (by decide) (by decide))) (nz_fa (g 45 (by decide) (by decide))) (nz_fa (g 46 (by decide) (by decide))) (nz_fa (g 47 (by decide) (by decide))) (nz_fa (g 48 (by decide) (by decide))) (nz_fa (g 49 (by decide) (by decide))) (nz_fa (g 50 (by decide) (by decide))) ((congrArg Int32.toInt (zz_i e69)).trans (rfl : (sy_i F 69).toInt = (sy_i F 69).toInt)) ((congrArg Int32.toInt (zz_i e70)).trans (rfl : (sy_i F 14).toInt = (sy_i F 14).toInt)) ((congrArg Int32.toInt (zz_i e71)).trans (by decide : ((0 : Int32)).toInt = 0)))
  replace g0 : (sy_i F 6).toInt = 0 := by omega
  by_cases g1 : ((sy_ai F 25).getD ((sy_i F 4).toInt).toNat 0).toInt ≠ 5
  · by_cases g2 : (sy_i F 6).toInt ≤ 0
    · have c6 := nz_bx hB (k := 6) (lo := 0) (hi := 2) rfl
      have c4 := nz_bx hB (k := 4) (lo := 0) (hi := 400) rfl
      have q70 : (sy_ai F 25).getD (sy_i F 4).toNatClampNeg 0 = (sy_ai F 25).getD ((sy_i F 4).toInt).toNat 0 := by simp only [nz_c]
      have n70 : ((sy_ai F 25).getD (sy_i F 4).toNatClampNeg 0).toInt = ((sy_ai F 25).getD ((sy_i F 4).toInt).toNat 0).toInt := congrArg Int32.toInt q70
      have r70 := nz_ba hB (k := 25) (lo := 0) (hi := 42) rfl ((sy_i F 4).toInt).toNat
      have q71 : (sy_ai F 26).getD (sy_i F 4).toNatClampNeg 0 = (sy_ai F 26).getD ((sy_i F 4).toInt).toNat 0 := by simp only [nz_c]
      have n71 : ((sy_ai F 26).getD (sy_i F 4).toNatClampNeg 0).toInt = ((sy_ai F 26).getD ((sy_i F 4).toInt).toNat 0).toInt := congrArg Int32.toInt q71
      have c14 := nz_bx hB (k := 14) (lo := 0) (hi := 260) rfl
      exact tl_0_p1 hd F X1 X2 hB (by first | exact g0 | (simp only [nz_c]; exact g0)) (by first | exact ⟨by omega, by omega⟩ | (simp only [nz_c]; exact ⟨by omega, by omega⟩)) (by first | exact g1 | (simp only [nz_c]; exact g1) | (rw [n70]; exact g1)) (by first | exact g2 | (simp only [nz_c]; exact g2)) (by first | exact ⟨by omega, by omega⟩ | (simp only [nz_c]; exact ⟨by omega, by omega⟩)) (fun F1 g e6 e7 e69 e70 e71 => k1 g0 g1 g2 F1 (nz_in hB [6, 7] (fun j hj hn => g j hj (by simp only [List.mem_cons, List.not_mem_nil, or_false, not_or] at hn; omega)) (List.forall_mem_cons.mpr ⟨fun t ht => (Option.some.inj ht) ▸ (nz_hi e6 (by decide : ((1 : Int32)).toInt = 1) (by omega) (by omega)), List.forall_mem_cons.mpr ⟨fun t ht => (Option.some.inj ht) ▸ (nz_hz e7), List.forall_mem_nil _⟩⟩)) (fun j hj hn => g j hj (by simp only [List.mem_cons, List.not_mem_nil, or_false, not_or] at hn; omega)) (nz_fi (g 4 (by decide) (by decide))) (nz_fi (g 5 (by decide) (by decide))) ((congrArg Int32.toInt (zz_i e6)).trans (by decide : ((1 : Int32)).toInt = 1)) (nz_fi (g 11 (by decide) (by decide))) (nz_fi (g 12 (by decide) (by decide))) (nz_fi (g 14 (by decide) (by decide))) (nz_fi (g 15 (by decide) (by decide))) (nz_fi (g 16 (by decide) (by decide))) (nz_fa (g 42 (by decide) (by decide))) (nz_fa (g 43 (by decide) (by decide))) (nz_fa (g 44 (by decide) (by decide))) (nz_fa (g 45 (by decide) (by decide))) (nz_fa (g 46 (by decide) (by decide))) (nz_fa (g 47 (by decide) (by decide))) (nz_fa (g 48 (by decide) (by decide))) (nz_fa (g 49 (by decide) (by decide))) (nz_fa (g 50 (by decide) (by decide))) ((congrArg Int32.toInt (zz_i e69)).trans (rfl : (sy_i F 69).toInt = (sy_i F 69).toInt)) ((congrArg Int32.toInt (zz_i e70)).trans (rfl : (sy_i F 14).toInt = (sy_i F 14).toInt)) ((congrArg Int32.toInt (zz_i e71)).trans (by decide : ((0 : Int32)).toInt = 0)))
    replace g2 : 0 < (sy_i F 6).toInt := by omega
    have c6 := nz_bx hB (k := 6) (lo := 0) (hi := 2) rfl
    have c4 := nz_bx hB (k := 4) (lo := 0) (hi := 400) rfl
    have q70 : (sy_ai F 25).getD (sy_i F 4).toNatClampNeg 0 = (sy_ai F 25).getD ((sy_i F 4).toInt).toNat 0 := by simp only [nz_c]
    have n70 : ((sy_ai F 25).getD (sy_i F 4).toNatClampNeg 0).toInt = ((sy_ai F 25).getD ((sy_i F 4).toInt).toNat 0).toInt := congrArg Int32.toInt q70
    have r70 := nz_ba hB (k := 25) (lo := 0) (hi := 42) rfl ((sy_i F 4).toInt).toNat
    exfalso
    omega
  replace g1 : ((sy_ai F 25).getD ((sy_i F 4).toInt).toNat 0).toInt = 5 := by omega
  by_cases g2 : (sy_i F 4).toInt ≠ 400
  · have c6 := nz_bx hB (k := 6) (lo := 0) (hi := 2) rfl
    have c4 := nz_bx hB (k := 4) (lo := 0) (hi := 400) rfl
    have q70 : (sy_ai F 25).getD (sy_i F 4).toNatClampNeg 0 = (sy_ai F 25).getD ((sy_i F 4).toInt).toNat 0 := by simp only [nz_c]
    have n70 : ((sy_ai F 25).getD (sy_i F 4).toNatClampNeg 0).toInt = ((sy_ai F 25).getD ((sy_i F 4).toInt).toNat 0).toInt := congrArg Int32.toInt q70
    have r70 := nz_ba hB (k := 25) (lo := 0) (hi := 42) rfl ((sy_i F 4).toInt).toNat
    have n71 : ((sy_i F 4) + ((1 : Int32))).toInt = ((sy_i F 4).toInt + 1) := nz_add (rfl : (sy_i F 4).toInt = (sy_i F 4).toInt) (by decide : ((1 : Int32)).toInt = 1) (by omega) (by omega)
    have c14 := nz_bx hB (k := 14) (lo := 0) (hi := 260) rfl
    exact tl_0_p2 hd F X1 X2 hB (by first | exact g0 | (simp only [nz_c]; exact g0)) (by first | exact ⟨by omega, by omega⟩ | (simp only [nz_c]; exact ⟨by omega, by omega⟩)) (by first | exact g1 | (simp only [nz_c]; exact g1) | (rw [n70]; exact g1)) (by first | exact g2 | (simp only [nz_c]; exact g2)) (fun F1 g e4 e69 e70 e71 => k2 g0 g1 g2 F1 (nz_in hB [4] (fun j hj hn => g j hj (by simp only [List.mem_cons, List.not_mem_nil, or_false, not_or] at hn; omega)) (List.forall_mem_cons.mpr ⟨fun t ht => (Option.some.inj ht) ▸ (nz_hi e4 n71 (by omega) (by omega)), List.forall_mem_nil _⟩)) (fun j hj hn => g j hj (by simp only [List.mem_cons, List.not_mem_nil, or_false, not_or] at hn; omega)) ((congrArg Int32.toInt (zz_i e4)).trans n71) (nz_fi (g 5 (by decide) (by decide))) (nz_fi (g 6 (by decide) (by decide))) (nz_fi (g 11 (by decide) (by decide))) (nz_fi (g 12 (by decide) (by decide))) (nz_fi (g 14 (by decide) (by decide))) (nz_fi (g 15 (by decide) (by decide))) (nz_fi (g 16 (by decide) (by decide))) (nz_fa (g 42 (by decide) (by decide))) (nz_fa (g 43 (by decide) (by decide))) (nz_fa (g 44 (by decide) (by decide))) (nz_fa (g 45 (by decide) (by decide))) (nz_fa (g 46 (by decide) (by decide))) (nz_fa (g 47 (by decide) (by decide))) (nz_fa (g 48 (by decide) (by decide))) (nz_fa (g 49 (by decide) (by decide))) (nz_fa (g 50 (by decide) (by decide))) ((congrArg Int32.toInt (zz_i e69)).trans (rfl : (sy_i F 69).toInt = (sy_i F 69).toInt)) ((congrArg Int32.toInt (zz_i e70)).trans (rfl : (sy_i F 14).toInt = (sy_i F 14).toInt)) ((congrArg Int32.toInt (zz_i e71)).trans (by decide : ((0 : Int32)).toInt = 0)))
  replace g2 : (sy_i F 4).toInt = 400 := by omega
  by_cases g3 : (sy_i F 6).toInt ≤ 0
  · have c6 := nz_bx hB (k := 6) (lo := 0) (hi := 2) rfl
    have c4 := nz_bx hB (k := 4) (lo := 0) (hi := 400) rfl
    have q70 : (sy_ai F 25).getD (sy_i F 4).toNatClampNeg 0 = (sy_ai F 25).getD ((sy_i F 4).toInt).toNat 0 := by simp only [nz_c]
    have n70 : ((sy_ai F 25).getD (sy_i F 4).toNatClampNeg 0).toInt = ((sy_ai F 25).getD ((sy_i F 4).toInt).toNat 0).toInt := congrArg Int32.toInt q70
    have r70 := nz_ba hB (k := 25) (lo := 0) (hi := 42) rfl ((sy_i F 4).toInt).toNat
    have q71 : (sy_ai F 26).getD (sy_i F 4).toNatClampNeg 0 = (sy_ai F 26).getD ((sy_i F 4).toInt).toNat 0 := by simp only [nz_c]
    have n71 : ((sy_ai F 26).getD (sy_i F 4).toNatClampNeg 0).toInt = ((sy_ai F 26).getD ((sy_i F 4).toInt).toNat 0).toInt := congrArg Int32.toInt q71
    have c14 := nz_bx hB (k := 14) (lo := 0) (hi := 260) rfl
    exact tl_0_p3 hd F X1 X2 hB (by first | exact g0 | (simp only [nz_c]; exact g0)) (by first | exact ⟨by omega, by omega⟩ | (simp only [nz_c]; exact ⟨by omega, by omega⟩)) (by first | exact g1 | (simp only [nz_c]; exact g1) | (rw [n70]; exact g1)) (by first | exact g2 | (simp only [nz_c]; exact g2)) (by first | exact g3 | (simp only [nz_c]; exact g3)) (by first | exact ⟨by omega, by omega⟩ | (simp only [nz_c]; exact ⟨by omega, by omega⟩)) (fun F1 g e6 e7 e69 e70 e71 => k3 g0 g1 g2 g3 F1 (nz_in hB [6, 7] (fun j hj hn => g j hj (by simp only [List.mem_cons, List.not_mem_nil, or_false, not_or] at hn; omega)) (List.forall_mem_cons.mpr ⟨fun t ht => (Option.some.inj ht) ▸ (nz_hi e6 (by decide : ((2 : Int32)).toInt = 2) (by omega) (by omega)), List.forall_mem_cons.mpr ⟨fun t ht => (Option.some.inj ht) ▸ (nz_hz e7), List.forall_mem_nil _⟩⟩)) (fun j hj hn => g j hj (by simp only [List.mem_cons, List.not_mem_nil, or_false, not_or] at hn; omega)) (nz_fi (g 4 (by decide) (by decide))) (nz_fi (g 5 (by decide) (by decide))) ((congrArg Int32.toInt (zz_i e6)).trans (by decide : ((2 : Int32)).toInt = 2)) (nz_fi (g 11 (by decide) (by decide))) (nz_fi (g 12 (by decide) (by decide))) (nz_fi (g 14 (by decide) (by decide))) (nz_fi (g 15 (by decide) (by decide))) (nz_fi (g 16 (by decide) (by decide))) (nz_fa (g 42 (by decide) (by decide))) (nz_fa (g 43 (by decide) (by decide))) (nz_fa (g 44 (by decide) (by decide))) (nz_fa (g 45 (by decide) (by decide))) (nz_fa (g 46 (by decide) (by decide))) (nz_fa (g 47 (by decide) (by decide))) (nz_fa (g 48 (by decide) (by decide))) (nz_fa (g 49 (by decide) (by decide))) (nz_fa (g 50 (by decide) (by decide))) ((congrArg Int32.toInt (zz_i e69)).trans (rfl : (sy_i F 69).toInt = (sy_i F 69).toInt)) ((congrArg Int32.toInt (zz_i e70)).trans (rfl : (sy_i F 14).toInt = (sy_i F 14).toInt)) ((congrArg Int32.toInt (zz_i e71)).trans (by decide : ((0 : Int32)).toInt = 0)))
  replace g3 : 0 < (sy_i F 6).toInt := by omega
  have c6 := nz_bx hB (k := 6) (lo := 0) (hi := 2) rfl
  have c4 := nz_bx hB (k := 4) (lo := 0) (hi := 400) rfl
  have q70 : (sy_ai F 25).getD (sy_i F 4).toNatClampNeg 0 = (sy_ai F 25).getD ((sy_i F 4).toInt).toNat 0 := by simp only [nz_c]
  have n70 : ((sy_ai F 25).getD (sy_i F 4).toNatClampNeg 0).toInt = ((sy_ai F 25).getD ((sy_i F 4).toInt).toNat 0).toInt := congrArg Int32.toInt q70
  have r70 := nz_ba hB (k := 25) (lo := 0) (hi := 42) rfl ((sy_i F 4).toInt).toNat
  exfalso
  omega
theorem tl_12_p0 {Ls : Nat} {xs : Nat → Int32} {d : Nat} {Q : Option Value → jm_h → Prop} (hd : 4 ≤ d) (F : Nat → sy_d) (X1 X2 : List jm_c) (hB : iv_in F iv_B4)
    (h0 : (sy_i F 6).toInt ≠ 0)
    (h1 : 0 ≤ (sy_i F 14).toInt ∧ (sy_i F 14).toInt < 260)
    (k : ∀ F1 : Nat → sy_d, (∀ j, j < 69 → j ≠ 44 → F1 j = F j) → F1 44 = .inr (.inl (jm_upd (sy_ai F 44) (sy_i F 14).toNatClampNeg ((0 : Int32)))) → F1 69 = .inl (.int (sy_i F 69)) → F1 70 = .inl (.int (sy_i F 70)) → hd_W Ls xs d jm_M160 Q (140, sy_dL F1 [some (.inl (.ref 1000)), some (.inr (.inl 69)), some (.inr (.inl 70)), none], sy_dS F1 [.inl (.ref 1000)], sy_dh F1 X1 X2 (iv_H 4), 0, 0)) :
    hd_W Ls xs d jm_M160 Q (12, sy_dL F [some (.inl (.ref 1000)), some (.inr (.inl 69)), some (.inr (.inl 70)), some (.inr (.inl 71))], sy_dS F [], sy_dh F X1 X2 (iv_H 4), 0, 0) := by
  refine hd_run (s := 4) (nv := 72) (pc := 140) (L := [some (.inl (.ref 1000)), some (.inr (.inl 69)), some (.inr (.inl 70)), none]) (S := [.inl (.ref 1000)]) (uh := hd_ov (iv_id 0 iv_B4) [(44, .inr (.inr (.inl 72)))]) (ul := [.inl (.inr (.inl 69)), .inl (.inr (.inl 70))]) (f := true) (sp := [77, 140]) (d0 := 3) (O := [true]) (T := [(40, [.inr (.inl 14), .inl (.int 0)], [.inr (.inl 44)])]) (P := [(1, .inr (.inl 6), .inl (.int 0)), (6, .inr (.inl 14), .inl (.ref 260))]) jm_ok160 (by decide +kernel) (by decide +kernel) hd F X1 X2 (fun F' hF hs => ?_)
  have b6 := hd_b (F := F) (F' := F') (k := 6) (hF 6 (by decide))
  have b14 := hd_b (F := F) (F' := F') (k := 14) (hF 14 (by decide))
  have a44 := hd_ba (F := F) (F' := F') (k := 44) (hF 44 (by decide))
  have t72 : sy_da F' (.inr (.inl 72)) = .inl (jm_upd (sy_ai F 44) (sy_i F 14).toNatClampNeg ((0 : Int32))) := hd_up (hs 0 _ rfl) b14 rfl a44
  have b69 := hd_b (F := F) (F' := F') (k := 69) (hF 69 (by decide))
  have b70 := hd_b (F := F) (F' := F') (k := 70) (hF 70 (by decide))
  have hB' : iv_in F' iv_B4 := iv_in_eq hB (fun j hj => hF j (Nat.lt_of_lt_of_le hj (by decide +kernel)))
  refine ⟨List.forall_mem_cons.mpr ⟨hd_p1 b6 rfl (by have hc : ((0) : Int32).toInt = 0 := (by decide); omega), List.forall_mem_cons.mpr ⟨hd_pb b14 (by first | exact h1 | exact h1), fun _ h => absurd h List.not_mem_nil⟩⟩, ?_⟩
  refine k _ ?_ ?_ ?_ ?_
  · exact fun j hj hn => (hd_keep hB' (Nat.lt_of_lt_of_le hj (by decide +kernel)) (by simp; omega)).trans (hF j (by omega))
  · exact hd_ga (a := .inr (.inl 72)) (by decide +kernel) t72
  · exact hd_gi (x := .inr (.inl 69)) (by decide +kernel) b69
  · exact hd_gi (x := .inr (.inl 70)) (by decide +kernel) b70
theorem tl_12_p1 {Ls : Nat} {xs : Nat → Int32} {d : Nat} {Q : Option Value → jm_h → Prop} (hd : 4 ≤ d) (F : Nat → sy_d) (X1 X2 : List jm_c) (hB : iv_in F iv_B4)
    (h0 : (sy_i F 6).toInt = 0)
    (h1 : (sy_i F 6).toInt = 0)
    (h2 : 0 ≤ (sy_i F 4).toInt ∧ (sy_i F 4).toInt < 403)
    (h3 : ((sy_ai F 25).getD (sy_i F 4).toNatClampNeg 0).toInt ≠ 31)
    (h4 : 0 ≤ (sy_i F 14).toInt ∧ (sy_i F 14).toInt < 260)
    (k : ∀ F1 : Nat → sy_d, (∀ j, j < 69 → j ≠ 44 → F1 j = F j) → F1 44 = .inr (.inl (jm_upd (sy_ai F 44) (sy_i F 14).toNatClampNeg ((0 : Int32)))) → F1 69 = .inl (.int (sy_i F 69)) → F1 70 = .inl (.int (sy_i F 70)) → hd_W Ls xs d jm_M160 Q (140, sy_dL F1 [some (.inl (.ref 1000)), some (.inr (.inl 69)), some (.inr (.inl 70)), none], sy_dS F1 [.inl (.ref 1000)], sy_dh F1 X1 X2 (iv_H 4), 0, 0)) :
    hd_W Ls xs d jm_M160 Q (12, sy_dL F [some (.inl (.ref 1000)), some (.inr (.inl 69)), some (.inr (.inl 70)), some (.inr (.inl 71))], sy_dS F [], sy_dh F X1 X2 (iv_H 4), 0, 0) := by
  refine hd_run (s := 4) (nv := 72) (pc := 140) (L := [some (.inl (.ref 1000)), some (.inr (.inl 69)), some (.inr (.inl 70)), none]) (S := [.inl (.ref 1000)]) (uh := hd_ov (iv_id 0 iv_B4) [(44, .inr (.inr (.inl 73)))]) (ul := [.inl (.inr (.inl 69)), .inl (.inr (.inl 70))]) (f := true) (sp := [77, 140]) (d0 := 3) (O := [false, false, true]) (T := [(30, [.inr (.inl 4)], [.inr (.inl 25)]), (40, [.inr (.inl 14), .inl (.int 0)], [.inr (.inl 44)])]) (P := [(0, .inr (.inl 6), .inl (.int 0)), (0, .inr (.inl 6), .inl (.int 0)), (6, .inr (.inl 4), .inl (.ref 403)), (1, .inr (.inl 72), .inl (.int 31)), (6, .inr (.inl 14), .inl (.ref 260))]) jm_ok160 (by decide +kernel) (by decide +kernel) hd F X1 X2 (fun F' hF hs => ?_)
  have b6 := hd_b (F := F) (F' := F') (k := 6) (hF 6 (by decide))
  have b4 := hd_b (F := F) (F' := F') (k := 4) (hF 4 (by decide))
  have a25 := hd_ba (F := F) (F' := F') (k := 25) (hF 25 (by decide))
  have t72 : sy_dv F' (.inr (.inl 72)) = .int ((sy_ai F 25).getD (sy_i F 4).toNatClampNeg 0) := hd_rd (hs 0 _ rfl) b4 a25
  have b14 := hd_b (F := F) (F' := F') (k := 14) (hF 14 (by decide))
  have a44 := hd_ba (F := F) (F' := F') (k := 44) (hF 44 (by decide))
  have t73 : sy_da F' (.inr (.inl 73)) = .inl (jm_upd (sy_ai F 44) (sy_i F 14).toNatClampNeg ((0 : Int32))) := hd_up (hs 1 _ rfl) b14 rfl a44
  have b69 := hd_b (F := F) (F' := F') (k := 69) (hF 69 (by decide))
  have b70 := hd_b (F := F) (F' := F') (k := 70) (hF 70 (by decide))
  have hB' : iv_in F' iv_B4 := iv_in_eq hB (fun j hj => hF j (Nat.lt_of_lt_of_le hj (by decide +kernel)))
  refine ⟨List.forall_mem_cons.mpr ⟨hd_p0 b6 rfl (by have hc : ((0) : Int32).toInt = 0 := (by decide); omega), List.forall_mem_cons.mpr ⟨hd_p0 b6 rfl (by have hc : ((0) : Int32).toInt = 0 := (by decide); omega), List.forall_mem_cons.mpr ⟨hd_pb b4 (by first | exact h2 | exact h2), List.forall_mem_cons.mpr ⟨hd_p1 t72 rfl (by have hc : ((31) : Int32).toInt = 31 := (by decide); omega), List.forall_mem_cons.mpr ⟨hd_pb b14 (by first | exact h4 | exact h4), fun _ h => absurd h List.not_mem_nil⟩⟩⟩⟩⟩, ?_⟩
  refine k _ ?_ ?_ ?_ ?_
  · exact fun j hj hn => (hd_keep hB' (Nat.lt_of_lt_of_le hj (by decide +kernel)) (by simp; omega)).trans (hF j (by omega))
  · exact hd_ga (a := .inr (.inl 73)) (by decide +kernel) t73
  · exact hd_gi (x := .inr (.inl 69)) (by decide +kernel) b69
  · exact hd_gi (x := .inr (.inl 70)) (by decide +kernel) b70
theorem tl_12_p2 {Ls : Nat} {xs : Nat → Int32} {d : Nat} {Q : Option Value → jm_h → Prop} (hd : 4 ≤ d) (F : Nat → sy_d) (X1 X2 : List jm_c) (hB : iv_in F iv_B4)
    (h0 : (sy_i F 6).toInt = 0)
    (h1 : (sy_i F 6).toInt = 0)
    (h2 : 0 ≤ (sy_i F 4).toInt ∧ (sy_i F 4).toInt < 403)
    (h3 : ((sy_ai F 25).getD (sy_i F 4).toNatClampNeg 0).toInt = 31)
    (h4 : (sy_i F 71).toInt ≠ 4)
    (h5 : (sy_i F 6).toInt ≤ 0)
    (h6 : (sy_i F 4).toInt ≠ 400)
    (h7 : 0 ≤ (sy_i F 14).toInt ∧ (sy_i F 14).toInt < 260)
    (h8 : 0 ≤ (sy_i F 14).toInt ∧ (sy_i F 14).toInt < 260)
    (k : ∀ F1 : Nat → sy_d, (∀ j, j < 69 → j ≠ 4 ∧ j ≠ 44 ∧ j ≠ 45 → F1 j = F j) → F1 4 = .inl (.int ((sy_i F 4) + ((1 : Int32)))) → F1 44 = .inr (.inl (jm_upd (sy_ai F 44) (sy_i F 14).toNatClampNeg ((1 : Int32)))) → F1 45 = .inr (.inl (jm_upd (sy_ai F 45) (sy_i F 14).toNatClampNeg (sy_i F 15))) → F1 69 = .inl (.int (sy_i F 69)) → F1 70 = .inl (.int (sy_i F 70)) → F1 71 = .inl (.int ((sy_i F 71) + ((1 : Int32)))) → hd_W Ls xs d jm_M160 Q (77, sy_dL F1 [some (.inl (.ref 1000)), some (.inr (.inl 69)), some (.inr (.inl 70)), some (.inr (.inl 71))], sy_dS F1 [.inl (.ref 1000)], sy_dh F1 X1 X2 (iv_H 4), 0, 0)) :
    hd_W Ls xs d jm_M160 Q (12, sy_dL F [some (.inl (.ref 1000)), some (.inr (.inl 69)), some (.inr (.inl 70)), some (.inr (.inl 71))], sy_dS F [], sy_dh F X1 X2 (iv_H 4), 0, 0) := by
  refine hd_run (s := 4) (nv := 72) (pc := 77) (L := [some (.inl (.ref 1000)), some (.inr (.inl 69)), some (.inr (.inl 70)), some (.inr (.inl 71))]) (S := [.inl (.ref 1000)]) (uh := hd_ov (iv_id 0 iv_B4) [(4, .inl (.inr (.inl 74))), (44, .inr (.inr (.inl 75))), (45, .inr (.inr (.inl 76)))]) (ul := [.inl (.inr (.inl 69)), .inl (.inr (.inl 70)), .inl (.inr (.inl 73))]) (f := true) (sp := [77, 140]) (d0 := 3) (O := [false, false, false, true, true, true]) (T := [(30, [.inr (.inl 4)], [.inr (.inl 25)]), (0, [.inr (.inl 71), .inl (.int 1)], []), (0, [.inr (.inl 4), .inl (.int 1)], []), (40, [.inr (.inl 14), .inl (.int 1)], [.inr (.inl 44)]), (40, [.inr (.inl 14), .inr (.inl 15)], [.inr (.inl 45)])]) (P := [(0, .inr (.inl 6), .inl (.int 0)), (0, .inr (.inl 6), .inl (.int 0)), (6, .inr (.inl 4), .inl (.ref 403)), (0, .inr (.inl 72), .inl (.int 31)), (1, .inr (.inl 71), .inl (.int 4)), (4, .inr (.inl 6), .inl (.int 0)), (1, .inr (.inl 4), .inl (.int 400)), (6, .inr (.inl 14), .inl (.ref 260)), (6, .inr (.inl 14), .inl (.ref 260))]) jm_ok160 (by decide +kernel) (by decide +kernel) hd F X1 X2 (fun F' hF hs => ?_)
  have b6 := hd_b (F := F) (F' := F') (k := 6) (hF 6 (by decide))
  have b4 := hd_b (F := F) (F' := F') (k := 4) (hF 4 (by decide))
  have a25 := hd_ba (F := F) (F' := F') (k := 25) (hF 25 (by decide))
  have t72 : sy_dv F' (.inr (.inl 72)) = .int ((sy_ai F 25).getD (sy_i F 4).toNatClampNeg 0) := hd_rd (hs 0 _ rfl) b4 a25
  have b71 := hd_b (F := F) (F' := F') (k := 71) (hF 71 (by decide))
  have b14 := hd_b (F := F) (F' := F') (k := 14) (hF 14 (by decide))
  have t74 : sy_dv F' (.inr (.inl 74)) = .int ((sy_i F 4) + ((1 : Int32))) := hd_o (hs 2 _ rfl) b4 rfl rfl
  have a44 := hd_ba (F := F) (F' := F') (k := 44) (hF 44 (by decide))
  have t75 : sy_da F' (.inr (.inl 75)) = .inl (jm_upd (sy_ai F 44) (sy_i F 14).toNatClampNeg ((1 : Int32))) := hd_up (hs 3 _ rfl) b14 rfl a44
  have b15 := hd_b (F := F) (F' := F') (k := 15) (hF 15 (by decide))
  have a45 := hd_ba (F := F) (F' := F') (k := 45) (hF 45 (by decide))
  have t76 : sy_da F' (.inr (.inl 76)) = .inl (jm_upd (sy_ai F 45) (sy_i F 14).toNatClampNeg (sy_i F 15)) := hd_up (hs 4 _ rfl) b14 b15 a45
  have b69 := hd_b (F := F) (F' := F') (k := 69) (hF 69 (by decide))
  have b70 := hd_b (F := F) (F' := F') (k := 70) (hF 70 (by decide))
  have t73 : sy_dv F' (.inr (.inl 73)) = .int ((sy_i F 71) + ((1 : Int32))) := hd_o (hs 1 _ rfl) b71 rfl rfl
  have hB' : iv_in F' iv_B4 := iv_in_eq hB (fun j hj => hF j (Nat.lt_of_lt_of_le hj (by decide +kernel)))
  refine ⟨List.forall_mem_cons.mpr ⟨hd_p0 b6 rfl (by have hc : ((0) : Int32).toInt = 0 := (by decide); omega), List.forall_mem_cons.mpr ⟨hd_p0 b6 rfl (by have hc : ((0) : Int32).toInt = 0 := (by decide); omega), List.forall_mem_cons.mpr ⟨hd_pb b4 (by first | exact h2 | exact h2), List.forall_mem_cons.mpr ⟨hd_p0 t72 rfl (by have hc : ((31) : Int32).toInt = 31 := (by decide); omega), List.forall_mem_cons.mpr ⟨hd_p1 b71 rfl (by have hc : ((4) : Int32).toInt = 4 := (by decide); omega), List.forall_mem_cons.mpr ⟨hd_p4 b6 rfl (by have hc : ((0) : Int32).toInt = 0 := (by decide); omega), List.forall_mem_cons.mpr ⟨hd_p1 b4 rfl (by have hc : ((400) : Int32).toInt = 400 := (by decide); omega), List.forall_mem_cons.mpr ⟨hd_pb b14 (by first | exact h7 | exact h7), List.forall_mem_cons.mpr ⟨hd_pb b14 (by first | exact h8 | exact h8), fun _ h => absurd h List.not_mem_nil⟩⟩⟩⟩⟩⟩⟩⟩⟩, ?_⟩
  refine k _ ?_ ?_ ?_ ?_ ?_ ?_ ?_
  · exact fun j hj hn => (hd_keep hB' (Nat.lt_of_lt_of_le hj (by decide +kernel)) (by simp; omega)).trans (hF j (by omega))
  · exact hd_gi (x := .inr (.inl 74)) (by decide +kernel) t74
  · exact hd_ga (a := .inr (.inl 75)) (by decide +kernel) t75
  · exact hd_ga (a := .inr (.inl 76)) (by decide +kernel) t76
  · exact hd_gi (x := .inr (.inl 69)) (by decide +kernel) b69
  · exact hd_gi (x := .inr (.inl 70)) (by decide +kernel) b70
  · exact hd_gi (x := .inr (.inl 73)) (by decide +kernel) t73
theorem tl_12_p3 {Ls : Nat} {xs : Nat → Int32} {d : Nat} {Q : Option Value → jm_h → Prop} (hd : 4 ≤ d) (F : Nat → sy_d) (X1 X2 : List jm_c) (hB : iv_in F iv_B4)
    (h0 : (sy_i F 6).toInt = 0)
    (h1 : (sy_i F 6).toInt = 0)
    (h2 : 0 ≤ (sy_i F 4).toInt ∧ (sy_i F 4).toInt < 403)
    (h3 : ((sy_ai F 25).getD (sy_i F 4).toNatClampNeg 0).toInt = 31)
    (h4 : (sy_i F 71).toInt ≠ 4)
    (h5 : (sy_i F 6).toInt ≤ 0)
    (h6 : (sy_i F 4).toInt = 400)
    (h7 : (sy_i F 6).toInt ≤ 0)
    (h8 : 0 ≤ (sy_i F 4).toInt ∧ (sy_i F 4).toInt < 403)
    (h9 : 0 ≤ (sy_i F 14).toInt ∧ (sy_i F 14).toInt < 260)
    (h10 : 0 ≤ (sy_i F 14).toInt ∧ (sy_i F 14).toInt < 260)
    (k : ∀ F1 : Nat → sy_d, (∀ j, j < 69 → j ≠ 6 ∧ j ≠ 7 ∧ j ≠ 44 ∧ j ≠ 45 → F1 j = F j) → F1 6 = .inl (.int ((2 : Int32))) → F1 7 = .inl (.int ((sy_ai F 26).getD (sy_i F 4).toNatClampNeg 0)) → F1 44 = .inr (.inl (jm_upd (sy_ai F 44) (sy_i F 14).toNatClampNeg ((1 : Int32)))) → F1 45 = .inr (.inl (jm_upd (sy_ai F 45) (sy_i F 14).toNatClampNeg (sy_i F 15))) → F1 69 = .inl (.int (sy_i F 69)) → F1 70 = .inl (.int (sy_i F 70)) → F1 71 = .inl (.int ((sy_i F 71) + ((1 : Int32)))) → hd_W Ls xs d jm_M160 Q (77, sy_dL F1 [some (.inl (.ref 1000)), some (.inr (.inl 69)), some (.inr (.inl 70)), some (.inr (.inl 71))], sy_dS F1 [.inl (.ref 1000)], sy_dh F1 X1 X2 (iv_H 4), 0, 0)) :
    hd_W Ls xs d jm_M160 Q (12, sy_dL F [some (.inl (.ref 1000)), some (.inr (.inl 69)), some (.inr (.inl 70)), some (.inr (.inl 71))], sy_dS F [], sy_dh F X1 X2 (iv_H 4), 0, 0) := by
  refine hd_run (s := 4) (nv := 72) (pc := 77) (L := [some (.inl (.ref 1000)), some (.inr (.inl 69)), some (.inr (.inl 70)), some (.inr (.inl 71))]) (S := [.inl (.ref 1000)]) (uh := hd_ov (iv_id 0 iv_B4) [(6, .inl (.inl (.int 2))), (7, .inl (.inr (.inl 74))), (44, .inr (.inr (.inl 75))), (45, .inr (.inr (.inl 76)))]) (ul := [.inl (.inr (.inl 69)), .inl (.inr (.inl 70)), .inl (.inr (.inl 73))]) (f := true) (sp := [77, 140]) (d0 := 3) (O := [false, false, false, true, true, false, true]) (T := [(30, [.inr (.inl 4)], [.inr (.inl 25)]), (0, [.inr (.inl 71), .inl (.int 1)], []), (30, [.inr (.inl 4)], [.inr (.inl 26)]), (40, [.inr (.inl 14), .inl (.int 1)], [.inr (.inl 44)]), (40, [.inr (.inl 14), .inr (.inl 15)], [.inr (.inl 45)])]) (P := [(0, .inr (.inl 6), .inl (.int 0)), (0, .inr (.inl 6), .inl (.int 0)), (6, .inr (.inl 4), .inl (.ref 403)), (0, .inr (.inl 72), .inl (.int 31)), (1, .inr (.inl 71), .inl (.int 4)), (4, .inr (.inl 6), .inl (.int 0)), (0, .inr (.inl 4), .inl (.int 400)), (4, .inr (.inl 6), .inl (.int 0)), (6, .inr (.inl 4), .inl (.ref 403)), (6, .inr (.inl 14), .inl (.ref 260)), (6, .inr (.inl 14), .inl (.ref 260))]) jm_ok160 (by decide +kernel) (by decide +kernel) hd F X1 X2 (fun F' hF hs => ?_)
  have b6 := hd_b (F := F) (F' := F') (k := 6) (hF 6 (by decide))
  have b4 := hd_b (F := F) (F' := F') (k := 4) (hF 4 (by decide))
  have a25 := hd_ba (F := F) (F' := F') (k := 25) (hF 25 (by decide))
  have t72 : sy_dv F' (.inr (.inl 72)) = .int ((sy_ai F 25).getD (sy_i F 4).toNatClampNeg 0) := hd_rd (hs 0 _ rfl) b4 a25
  have b71 := hd_b (F := F) (F' := F') (k := 71) (hF 71 (by decide))
  have b14 := hd_b (F := F) (F' := F') (k := 14) (hF 14 (by decide))
  have a26 := hd_ba (F := F) (F' := F') (k := 26) (hF 26 (by decide))
  have t74 : sy_dv F' (.inr (.inl 74)) = .int ((sy_ai F 26).getD (sy_i F 4).toNatClampNeg 0) := hd_rd (hs 2 _ rfl) b4 a26
  have a44 := hd_ba (F := F) (F' := F') (k := 44) (hF 44 (by decide))
  have t75 : sy_da F' (.inr (.inl 75)) = .inl (jm_upd (sy_ai F 44) (sy_i F 14).toNatClampNeg ((1 : Int32))) := hd_up (hs 3 _ rfl) b14 rfl a44
  have b15 := hd_b (F := F) (F' := F') (k := 15) (hF 15 (by decide))
  have a45 := hd_ba (F := F) (F' := F') (k := 45) (hF 45 (by decide))
  have t76 : sy_da F' (.inr (.inl 76)) = .inl (jm_upd (sy_ai F 45) (sy_i F 14).toNatClampNeg (sy_i F 15)) := hd_up (hs 4 _ rfl) b14 b15 a45
  have b69 := hd_b (F := F) (F' := F') (k := 69) (hF 69 (by decide))
  have b70 := hd_b (F := F) (F' := F') (k := 70) (hF 70 (by decide))
  have t73 : sy_dv F' (.inr (.inl 73)) = .int ((sy_i F 71) + ((1 : Int32))) := hd_o (hs 1 _ rfl) b71 rfl rfl
  have hB' : iv_in F' iv_B4 := iv_in_eq hB (fun j hj => hF j (Nat.lt_of_lt_of_le hj (by decide +kernel)))
  refine ⟨List.forall_mem_cons.mpr ⟨hd_p0 b6 rfl (by have hc : ((0) : Int32).toInt = 0 := (by decide); omega), List.forall_mem_cons.mpr ⟨hd_p0 b6 rfl (by have hc : ((0) : Int32).toInt = 0 := (by decide); omega), List.forall_mem_cons.mpr ⟨hd_pb b4 (by first | exact h2 | exact h2), List.forall_mem_cons.mpr ⟨hd_p0 t72 rfl (by have hc : ((31) : Int32).toInt = 31 := (by decide); omega), List.forall_mem_cons.mpr ⟨hd_p1 b71 rfl (by have hc : ((4) : Int32).toInt = 4 := (by decide); omega), List.forall_mem_cons.mpr ⟨hd_p4 b6 rfl (by have hc : ((0) : Int32).toInt = 0 := (by decide); omega), List.forall_mem_cons.mpr ⟨hd_p0 b4 rfl (by have hc : ((400) : Int32).toInt = 400 := (by decide); omega), List.forall_mem_cons.mpr ⟨hd_p4 b6 rfl (by have hc : ((0) : Int32).toInt = 0 := (by decide); omega), List.forall_mem_cons.mpr ⟨hd_pb b4 (by first | exact h8 | exact h8), List.forall_mem_cons.mpr ⟨hd_pb b14 (by first | exact h9 | exact h9), List.forall_mem_cons.mpr ⟨hd_pb b14 (by first | exact h10 | exact h10), fun _ h => absurd h List.not_mem_nil⟩⟩⟩⟩⟩⟩⟩⟩⟩⟩⟩, ?_⟩
  refine k _ ?_ ?_ ?_ ?_ ?_ ?_ ?_ ?_
  · exact fun j hj hn => (hd_keep hB' (Nat.lt_of_lt_of_le hj (by decide +kernel)) (by simp; omega)).trans (hF j (by omega))
  · exact hd_gi (x := .inl (.int 2)) (by decide +kernel) rfl
  · exact hd_gi (x := .inr (.inl 74)) (by decide +kernel) t74
  · exact hd_ga (a := .inr (.inl 75)) (by decide +kernel) t75
  · exact hd_ga (a := .inr (.inl 76)) (by decide +kernel) t76
  · exact hd_gi (x := .inr (.inl 69)) (by decide +kernel) b69
  · exact hd_gi (x := .inr (.inl 70)) (by decide +kernel) b70
  · exact hd_gi (x := .inr (.inl 73)) (by decide +kernel) t73
theorem tl_12_p4 {Ls : Nat} {xs : Nat → Int32} {d : Nat} {Q : Option Value → jm_h → Prop} (hd : 4 ≤ d) (F : Nat → sy_d) (X1 X2 : List jm_c) (hB : iv_in F iv_B4)
    (h0 : (sy_i F 6).toInt = 0)
    (h1 : (sy_i F 6).toInt = 0)
    (h2 : 0 ≤ (sy_i F 4).toInt ∧ (sy_i F 4).toInt < 403)
    (h3 : ((sy_ai F 25).getD (sy_i F 4).toNatClampNeg 0).toInt = 31)
    (h4 : (sy_i F 71).toInt = 4)
    (h5 : (sy_i F 6).toInt ≤ 0)
    (h6 : 0 ≤ (sy_i F 4).toInt ∧ (sy_i F 4).toInt < 403)
    (k : ∀ F1 : Nat → sy_d, (∀ j, j < 69 → j ≠ 6 ∧ j ≠ 7 → F1 j = F j) → F1 6 = .inl (.int ((2 : Int32))) → F1 7 = .inl (.int ((sy_ai F 26).getD (sy_i F 4).toNatClampNeg 0)) → Q (none) (sy_dh F1 X1 X2 (iv_H 4))) :
    hd_W Ls xs d jm_M160 Q (12, sy_dL F [some (.inl (.ref 1000)), some (.inr (.inl 69)), some (.inr (.inl 70)), some (.inr (.inl 71))], sy_dS F [], sy_dh F X1 X2 (iv_H 4), 0, 0) := by
  refine hd_ret (s := 4) (nv := 72) (v := none) (uh := hd_ov (iv_id 0 iv_B4) [(6, .inl (.inl (.int 2))), (7, .inl (.inr (.inl 73)))]) (f := true) (sp := [77, 140]) (d0 := 3) (O := [false, false, false, false, true]) (T := [(30, [.inr (.inl 4)], [.inr (.inl 25)]), (30, [.inr (.inl 4)], [.inr (.inl 26)])]) (P := [(0, .inr (.inl 6), .inl (.int 0)), (0, .inr (.inl 6), .inl (.int 0)), (6, .inr (.inl 4), .inl (.ref 403)), (0, .inr (.inl 72), .inl (.int 31)), (0, .inr (.inl 71), .inl (.int 4)), (4, .inr (.inl 6), .inl (.int 0)), (6, .inr (.inl 4), .inl (.ref 403))]) jm_ok160 (by decide +kernel) (by decide +kernel) hd F X1 X2 (fun F' hF hs => ?_)
  have b6 := hd_b (F := F) (F' := F') (k := 6) (hF 6 (by decide))
  have b4 := hd_b (F := F) (F' := F') (k := 4) (hF 4 (by decide))
  have a25 := hd_ba (F := F) (F' := F') (k := 25) (hF 25 (by decide))
  have t72 : sy_dv F' (.inr (.inl 72)) = .int ((sy_ai F 25).getD (sy_i F 4).toNatClampNeg 0) := hd_rd (hs 0 _ rfl) b4 a25
  have b71 := hd_b (F := F) (F' := F') (k := 71) (hF 71 (by decide))
  have a26 := hd_ba (F := F) (F' := F') (k := 26) (hF 26 (by decide))
  have t73 : sy_dv F' (.inr (.inl 73)) = .int ((sy_ai F 26).getD (sy_i F 4).toNatClampNeg 0) := hd_rd (hs 1 _ rfl) b4 a26
  have hB' : iv_in F' iv_B4 := iv_in_eq hB (fun j hj => hF j (Nat.lt_of_lt_of_le hj (by decide +kernel)))
  refine ⟨List.forall_mem_cons.mpr ⟨hd_p0 b6 rfl (by have hc : ((0) : Int32).toInt = 0 := (by decide); omega), List.forall_mem_cons.mpr ⟨hd_p0 b6 rfl (by have hc : ((0) : Int32).toInt = 0 := (by decide); omega), List.forall_mem_cons.mpr ⟨hd_pb b4 (by first | exact h2 | exact h2), List.forall_mem_cons.mpr ⟨hd_p0 t72 rfl (by have hc : ((31) : Int32).toInt = 31 := (by decide); omega), List.forall_mem_cons.mpr ⟨hd_p0 b71 rfl (by have hc : ((4) : Int32).toInt = 4 := (by decide); omega), List.forall_mem_cons.mpr ⟨hd_p4 b6 rfl (by have hc : ((0) : Int32).toInt = 0 := (by decide); omega), List.forall_mem_cons.mpr ⟨hd_pb b4 (by first | exact h6 | exact h6), fun _ h => absurd h List.not_mem_nil⟩⟩⟩⟩⟩⟩⟩, ?_⟩
  refine k _ ?_ ?_ ?_
  · exact fun j hj hn => (hd_keep hB' (Nat.lt_of_lt_of_le hj (by decide +kernel)) (by simp; omega)).trans (hF j (by omega))
  · exact hd_gi (x := .inl (.int 2)) (by decide +kernel) rfl
  · exact hd_gi (x := .inr (.inl 73)) (by decide +kernel) t73
theorem tl_12 {Ls : Nat} {xs : Nat → Int32} {d : Nat} {Q : Option Value → jm_h → Prop} (hd : 4 ≤ d) (F : Nat → sy_d) (X1 X2 : List jm_c) (hB : iv_in F iv_B4)
    (a71 : 0 ≤ (sy_i F 71).toInt ∧ (sy_i F 71).toInt ≤ 4)
    (o0 : (sy_i F 6).toInt ≠ 0 → (0 ≤ (sy_i F 14).toInt ∧ (sy_i F 14).toInt < 260))
    (o1 : (sy_i F 6).toInt = 0 → (sy_i F 6).toInt = 0 → ((sy_ai F 25).getD ((sy_i F 4).toInt).toNat 0).toInt ≠ 31 → (0 ≤ (sy_i F 14).toInt ∧ (sy_i F 14).toInt < 260))
    (o2 : (sy_i F 6).toInt = 0 → (sy_i F 6).toInt = 0 → ((sy_ai F 25).getD ((sy_i F 4).toInt).toNat 0).toInt = 31 → (sy_i F 71).toInt ≠ 4 → (sy_i F 6).toInt ≤ 0 → (sy_i F 4).toInt ≠ 400 → (0 ≤ (sy_i F 14).toInt ∧ (sy_i F 14).toInt < 260))
    (o3 : (sy_i F 6).toInt = 0 → (sy_i F 6).toInt = 0 → ((sy_ai F 25).getD ((sy_i F 4).toInt).toNat 0).toInt = 31 → (sy_i F 71).toInt ≠ 4 → (sy_i F 6).toInt ≤ 0 → (sy_i F 4).toInt = 400 → (sy_i F 6).toInt ≤ 0 → (0 ≤ (sy_i F 14).toInt ∧ (sy_i F 14).toInt < 260))
    (k0 : (sy_i F 6).toInt ≠ 0 → ∀ F1 : Nat → sy_d, iv_in F1 iv_B4 → (∀ j, j < 69 → j ∉ ([44] : List Nat) → F1 j = F j) → (sy_i F1 4).toInt = (sy_i F 4).toInt → (sy_i F1 5).toInt = (sy_i F 5).toInt → (sy_i F1 6).toInt = (sy_i F 6).toInt → (sy_i F1 11).toInt = (sy_i F 11).toInt → (sy_i F1 12).toInt = (sy_i F 12).toInt → (sy_i F1 14).toInt = (sy_i F 14).toInt → (sy_i F1 15).toInt = (sy_i F 15).toInt → (sy_i F1 16).toInt = (sy_i F 16).toInt → sy_ai F1 42 = sy_ai F 42 → sy_ai F1 43 = sy_ai F 43 → sy_ai F1 44 = jm_upd (sy_ai F 44) ((sy_i F 14).toInt).toNat ((0 : Int32)) → sy_ai F1 45 = sy_ai F 45 → sy_ai F1 46 = sy_ai F 46 → sy_ai F1 47 = sy_ai F 47 → sy_ai F1 48 = sy_ai F 48 → sy_ai F1 49 = sy_ai F 49 → sy_ai F1 50 = sy_ai F 50 → (sy_i F1 69).toInt = (sy_i F 69).toInt → (sy_i F1 70).toInt = (sy_i F 70).toInt → hd_W Ls xs d jm_M160 Q (140, sy_dL F1 [some (.inl (.ref 1000)), some (.inr (.inl 69)), some (.inr (.inl 70)), none], sy_dS F1 [.inl (.ref 1000)], sy_dh F1 X1 X2 (iv_H 4), 0, 0))
    (k1 : (sy_i F 6).toInt = 0 → (sy_i F 6).toInt = 0 → ((sy_ai F 25).getD ((sy_i F 4).toInt).toNat 0).toInt ≠ 31 → ∀ F1 : Nat → sy_d, iv_in F1 iv_B4 → (∀ j, j < 69 → j ∉ ([44] : List Nat) → F1 j = F j) → (sy_i F1 4).toInt = (sy_i F 4).toInt → (sy_i F1 5).toInt = (sy_i F 5).toInt → (sy_i F1 6).toInt = (sy_i F 6).toInt → (sy_i F1 11).toInt = (sy_i F 11).toInt → (sy_i F1 12).toInt = (sy_i F 12).toInt → (sy_i F1 14).toInt = (sy_i F 14).toInt → (sy_i F1 15).toInt = (sy_i F 15).toInt → (sy_i F1 16).toInt = (sy_i F 16).toInt → sy_ai F1 42 = sy_ai F 42 → sy_ai F1 43 = sy_ai F 43 → sy_ai F1 44 = jm_upd (sy_ai F 44) ((sy_i F 14).toInt).toNat ((0 : Int32)) → sy_ai F1 45 = sy_ai F 45 → sy_ai F1 46 = sy_ai F 46 → sy_ai F1 47 = sy_ai F 47 → sy_ai F1 48 = sy_ai F 48 → sy_ai F1 49 = sy_ai F 49 → sy_ai F1 50 = sy_ai F 50 → (sy_i F1 69).toInt = (sy_i F 69).toInt → (sy_i F1 70).toInt = (sy_i F 70).toInt → hd_W Ls xs d jm_M160 Q (140, sy_dL F1 [some (.inl (.ref 1000)), some (.inr (.inl 69)), some (.inr (.inl 70)), none], sy_dS F1 [.inl (.ref 1000)], sy_dh F1 X1 X2 (iv_H 4), 0, 0))
    (k2 : (sy_i F 6).toInt = 0 → (sy_i F 6).toInt = 0 → ((sy_ai F 25).getD ((sy_i F 4).toInt).toNat 0).toInt = 31 → (sy_i F 71).toInt ≠ 4 → (sy_i F 6).toInt ≤ 0 → (sy_i F 4).toInt ≠ 400 → ∀ F1 : Nat → sy_d, iv_in F1 iv_B4 → (∀ j, j < 69 → j ∉ ([4, 44, 45] : List Nat) → F1 j = F j) → (sy_i F1 4).toInt = ((sy_i F 4).toInt + 1) → (sy_i F1 5).toInt = (sy_i F 5).toInt → (sy_i F1 6).toInt = (sy_i F 6).toInt → (sy_i F1 11).toInt = (sy_i F 11).toInt → (sy_i F1 12).toInt = (sy_i F 12).toInt → (sy_i F1 14).toInt = (sy_i F 14).toInt → (sy_i F1 15).toInt = (sy_i F 15).toInt → (sy_i F1 16).toInt = (sy_i F 16).toInt → sy_ai F1 42 = sy_ai F 42 → sy_ai F1 43 = sy_ai F 43 → sy_ai F1 44 = jm_upd (sy_ai F 44) ((sy_i F 14).toInt).toNat ((1 : Int32)) → sy_ai F1 45 = jm_upd (sy_ai F 45) ((sy_i F 14).toInt).toNat (sy_i F 15) → sy_ai F1 46 = sy_ai F 46 → sy_ai F1 47 = sy_ai F 47 → sy_ai F1 48 = sy_ai F 48 → sy_ai F1 49 = sy_ai F 49 → sy_ai F1 50 = sy_ai F 50 → (sy_i F1 69).toInt = (sy_i F 69).toInt → (sy_i F1 70).toInt = (sy_i F 70).toInt → (sy_i F1 71).toInt = ((sy_i F 71).toInt + 1) → hd_W Ls xs d jm_M160 Q (77, sy_dL F1 [some (.inl (.ref 1000)), some (.inr (.inl 69)), some (.inr (.inl 70)), some (.inr (.inl 71))], sy_dS F1 [.inl (.ref 1000)], sy_dh F1 X1 X2 (iv_H 4), 0, 0))
    (k3 : (sy_i F 6).toInt = 0 → (sy_i F 6).toInt = 0 → ((sy_ai F 25).getD ((sy_i F 4).toInt).toNat 0).toInt = 31 → (sy_i F 71).toInt ≠ 4 → (sy_i F 6).toInt ≤ 0 → (sy_i F 4).toInt = 400 → (sy_i F 6).toInt ≤ 0 → ∀ F1 : Nat → sy_d, iv_in F1 iv_B4 → (∀ j, j < 69 → j ∉ ([6, 7, 44, 45] : List Nat) → F1 j = F j) → (sy_i F1 4).toInt = (sy_i F 4).toInt → (sy_i F1 5).toInt = (sy_i F 5).toInt → (sy_i F1 6).toInt = 2 → (sy_i F1 11).toInt = (sy_i F 11).toInt → (sy_i F1 12).toInt = (sy_i F 12).toInt → (sy_i F1 14).toInt = (sy_i F 14).toInt → (sy_i F1 15).toInt = (sy_i F 15).toInt → (sy_i F1 16).toInt = (sy_i F 16).toInt → sy_ai F1 42 = sy_ai F 42 → sy_ai F1 43 = sy_ai F 43 → sy_ai F1 44 = jm_upd (sy_ai F 44) ((sy_i F 14).toInt).toNat ((1 : Int32)) → sy_ai F1 45 = jm_upd (sy_ai F 45) ((sy_i F 14).toInt).toNat (sy_i F 15) → sy_ai F1 46 = sy_ai F 46 → sy_ai F1 47 = sy_ai F 47 → sy_ai F1 48 = sy_ai F 48 → sy_ai F1 49 = sy_ai F 49 → sy_ai F1 50 = sy_ai F 50 → (sy_i F1 69).toInt = (sy_i F 69).toInt → (sy_i F1 70).toInt = (sy_i F 70).toInt → (sy_i F1 71).toInt = ((sy_i F 71).toInt + 1) → hd_W Ls xs d jm_M160 Q (77, sy_dL F1 [some (.inl (.ref 1000)), some (.inr (.inl 69)), some (.inr (.inl 70)), some (.inr (.inl 71))], sy_dS F1 [.inl (.ref 1000)], sy_dh F1 X1 X2 (iv_H 4), 0, 0))
    (k4 : (sy_i F 6).toInt = 0 → (sy_i F 6).toInt = 0 → ((sy_ai F 25).getD ((sy_i F 4).toInt).toNat 0).toInt = 31 → (sy_i F 71).toInt = 4 → (sy_i F 6).toInt ≤ 0 → ∀ F1 : Nat → sy_d, iv_in F1 iv_B4 → (∀ j, j < 69 → j ∉ ([6, 7] : List Nat) → F1 j = F j) → (sy_i F1 4).toInt = (sy_i F 4).toInt → (sy_i F1 5).toInt = (sy_i F 5).toInt → (sy_i F1 6).toInt = 2 → (sy_i F1 11).toInt = (sy_i F 11).toInt → (sy_i F1 12).toInt = (sy_i F 12).toInt → (sy_i F1 14).toInt = (sy_i F 14).toInt → (sy_i F1 15).toInt = (sy_i F 15).toInt → (sy_i F1 16).toInt = (sy_i F 16).toInt → sy_ai F1 42 = sy_ai F 42 → sy_ai F1 43 = sy_ai F 43 → sy_ai F1 44 = sy_ai F 44 → sy_ai F1 45 = sy_ai F 45 → sy_ai F1 46 = sy_ai F 46 → sy_ai F1 47 = sy_ai F 47 → sy_ai F1 48 = sy_ai F 48 → sy_ai F1 49 = sy_ai F 49 → sy_ai F1 50 = sy_ai F 50 → Q (none) (sy_dh F1 X1 X2 (iv_H 4))) :
    hd_W Ls xs d jm_M160 Q (12, sy_dL F [some (.inl (.ref 1000)), some (.inr (.inl 69)), some (.inr (.inl 70)), some (.inr (.inl 71))], sy_dS F [], sy_dh F X1 X2 (iv_H 4), 0, 0) := by
  by_cases g0 : (sy_i F 6).toInt ≠ 0
  · have c6 := nz_bx hB (k := 6) (lo := 0) (hi := 2) rfl
    have c14 := nz_bx hB (k := 14) (lo := 0) (hi := 260) rfl
    have w72 : jm_upd (sy_ai F 44) (sy_i F 14).toNatClampNeg ((0 : Int32)) = jm_upd (sy_ai F 44) ((sy_i F 14).toInt).toNat ((0 : Int32)) := by simp only [nz_c, (by decide : ((0 : Int32)).toInt = 0)]
    exact tl_12_p0 hd F X1 X2 hB (by first | exact g0 | (simp only [nz_c]; exact g0)) (by first | exact (o0 g0) | (simp only [nz_c]; exact (o0 g0))) (fun F1 g e44 e69 e70 => k0 g0 F1 (nz_in hB [44] (fun j hj hn => g j hj (by simp only [List.mem_cons, List.not_mem_nil, or_false, not_or] at hn; omega)) (List.forall_mem_cons.mpr ⟨fun t ht => (Option.some.inj ht) ▸ (nz_hA e44 (nz_up (nz_ba hB (k := 44) (lo := 0) (hi := 1) rfl) (by decide : ((0 : Int32)).toInt = 0) (by omega) (by omega))), List.forall_mem_nil _⟩)) (fun j hj hn => g j hj (by simp only [List.mem_cons, List.not_mem_nil, or_false, not_or] at hn; omega)) (nz_fi (g 4 (by decide) (by decide))) (nz_fi (g 5 (by decide) (by decide))) (nz_fi (g 6 (by decide) (by decide))) (nz_fi (g 11 (by decide) (by decide))) (nz_fi (g 12 (by decide) (by decide))) (nz_fi (g 14 (by decide) (by decide))) (nz_fi (g 15 (by decide) (by decide))) (nz_fi (g 16 (by decide) (by decide))) (nz_fa (g 42 (by decide) (by decide))) (nz_fa (g 43 (by decide) (by decide))) ((zz_ai e44).trans w72) (nz_fa (g 45 (by decide) (by decide))) (nz_fa (g 46 (by decide) (by decide))) (nz_fa (g 47 (by decide) (by decide))) (nz_fa (g 48 (by decide) (by decide))) (nz_fa (g 49 (by decide) (by decide))) (nz_fa (g 50 (by decide) (by decide))) ((congrArg Int32.toInt (zz_i e69)).trans (rfl : (sy_i F 69).toInt = (sy_i F 69).toInt)) ((congrArg Int32.toInt (zz_i e70)).trans (rfl : (sy_i F 70).toInt = (sy_i F 70).toInt)))
  replace g0 : (sy_i F 6).toInt = 0 := by omega
  by_cases g1 : (sy_i F 6).toInt ≠ 0
  · have c6 := nz_bx hB (k := 6) (lo := 0) (hi := 2) rfl
    exfalso
    omega
  replace g1 : (sy_i F 6).toInt = 0 := by omega
  by_cases g2 : ((sy_ai F 25).getD ((sy_i F 4).toInt).toNat 0).toInt ≠ 31
  · have c6 := nz_bx hB (k := 6) (lo := 0) (hi := 2) rfl
    have c4 := nz_bx hB (k := 4) (lo := 0) (hi := 400) rfl
    have q72 : (sy_ai F 25).getD (sy_i F 4).toNatClampNeg 0 = (sy_ai F 25).getD ((sy_i F 4).toInt).toNat 0 := by simp only [nz_c]
    have n72 : ((sy_ai F 25).getD (sy_i F 4).toNatClampNeg 0).toInt = ((sy_ai F 25).getD ((sy_i F 4).toInt).toNat 0).toInt := congrArg Int32.toInt q72
    have r72 := nz_ba hB (k := 25) (lo := 0) (hi := 42) rfl ((sy_i F 4).toInt).toNat
    have c14 := nz_bx hB (k := 14) (lo := 0) (hi := 260) rfl
    have w73 : jm_upd (sy_ai F 44) (sy_i F 14).toNatClampNeg ((0 : Int32)) = jm_upd (sy_ai F 44) ((sy_i F 14).toInt).toNat ((0 : Int32)) := by simp only [nz_c, (by decide : ((0 : Int32)).toInt = 0)]
    exact tl_12_p1 hd F X1 X2 hB (by first | exact g0 | (simp only [nz_c]; exact g0)) (by first | exact g1 | (simp only [nz_c]; exact g1)) (by first | exact ⟨by omega, by omega⟩ | (simp only [nz_c]; exact ⟨by omega, by omega⟩)) (by first | exact g2 | (simp only [nz_c]; exact g2) | (rw [n72]; exact g2)) (by first | exact (o1 g0 g1 g2) | (simp only [nz_c]; exact (o1 g0 g1 g2))) (fun F1 g e44 e69 e70 => k1 g0 g1 g2 F1 (nz_in hB [44] (fun j hj hn => g j hj (by simp only [List.mem_cons, List.not_mem_nil, or_false, not_or] at hn; omega)) (List.forall_mem_cons.mpr ⟨fun t ht => (Option.some.inj ht) ▸ (nz_hA e44 (nz_up (nz_ba hB (k := 44) (lo := 0) (hi := 1) rfl) (by decide : ((0 : Int32)).toInt = 0) (by omega) (by omega))), List.forall_mem_nil _⟩)) (fun j hj hn => g j hj (by simp only [List.mem_cons, List.not_mem_nil, or_false, not_or] at hn; omega)) (nz_fi (g 4 (by decide) (by decide))) (nz_fi (g 5 (by decide) (by decide))) (nz_fi (g 6 (by decide) (by decide))) (nz_fi (g 11 (by decide) (by decide))) (nz_fi (g 12 (by decide) (by decide))) (nz_fi (g 14 (by decide) (by decide))) (nz_fi (g 15 (by decide) (by decide))) (nz_fi (g 16 (by decide) (by decide))) (nz_fa (g 42 (by decide) (by decide))) (nz_fa (g 43 (by decide) (by decide))) ((zz_ai e44).trans w73) (nz_fa (g 45 (by decide) (by decide))) (nz_fa (g 46 (by decide) (by decide))) (nz_fa (g 47 (by decide) (by decide))) (nz_fa (g 48 (by decide) (by decide))) (nz_fa (g 49 (by decide) (by decide))) (nz_fa (g 50 (by decide) (by decide))) ((congrArg Int32.toInt (zz_i e69)).trans (rfl : (sy_i F 69).toInt = (sy_i F 69).toInt)) ((congrArg Int32.toInt (zz_i e70)).trans (rfl : (sy_i F 70).toInt = (sy_i F 70).toInt)))
  replace g2 : ((sy_ai F 25).getD ((sy_i F 4).toInt).toNat 0).toInt = 31 := by omega
  by_cases g3 : (sy_i F 71).toInt ≠ 4
  · by_cases g4 : (sy_i F 6).toInt ≤ 0
    · by_cases g5 : (sy_i F 4).toInt ≠ 400
      · have c6 := nz_bx hB (k := 6) (lo := 0) (hi := 2) rfl
        have c4 := nz_bx hB (k := 4) (lo := 0) (hi := 400) rfl
        have q72 : (sy_ai F 25).getD (sy_i F 4).toNatClampNeg 0 = (sy_ai F 25).getD ((sy_i F 4).toInt).toNat 0 := by simp only [nz_c]
        have n72 : ((sy_ai F 25).getD (sy_i F 4).toNatClampNeg 0).toInt = ((sy_ai F 25).getD ((sy_i F 4).toInt).toNat 0).toInt := congrArg Int32.toInt q72
        have r72 := nz_ba hB (k := 25) (lo := 0) (hi := 42) rfl ((sy_i F 4).toInt).toNat
        have c14 := nz_bx hB (k := 14) (lo := 0) (hi := 260) rfl
        have n74 : ((sy_i F 4) + ((1 : Int32))).toInt = ((sy_i F 4).toInt + 1) := nz_add (rfl : (sy_i F 4).toInt = (sy_i F 4).toInt) (by decide : ((1 : Int32)).toInt = 1) (by omega) (by omega)
        have c15 := nz_bx hB (k := 15) (lo := 0) (hi := 840) rfl
        have w75 : jm_upd (sy_ai F 44) (sy_i F 14).toNatClampNeg ((1 : Int32)) = jm_upd (sy_ai F 44) ((sy_i F 14).toInt).toNat ((1 : Int32)) := by simp only [nz_c, (by decide : ((1 : Int32)).toInt = 1)]
        have w76 : jm_upd (sy_ai F 45) (sy_i F 14).toNatClampNeg (sy_i F 15) = jm_upd (sy_ai F 45) ((sy_i F 14).toInt).toNat (sy_i F 15) := by simp only [nz_c]
        have n73 : ((sy_i F 71) + ((1 : Int32))).toInt = ((sy_i F 71).toInt + 1) := nz_add (rfl : (sy_i F 71).toInt = (sy_i F 71).toInt) (by decide : ((1 : Int32)).toInt = 1) (by omega) (by omega)
        exact tl_12_p2 hd F X1 X2 hB (by first | exact g0 | (simp only [nz_c]; exact g0)) (by first | exact g1 | (simp only [nz_c]; exact g1)) (by first | exact ⟨by omega, by omega⟩ | (simp only [nz_c]; exact ⟨by omega, by omega⟩)) (by first | exact g2 | (simp only [nz_c]; exact g2) | (rw [n72]; exact g2)) (by first | exact g3 | (simp only [nz_c]; exact g3)) (by first | exact g4 | (simp only [nz_c]; exact g4)) (by first | exact g5 | (simp only [nz_c]; exact g5)) (by first | exact (o2 g0 g1 g2 g3 g4 g5) | (simp only [nz_c]; exact (o2 g0 g1 g2 g3 g4 g5))) (by first | exact (o2 g0 g1 g2 g3 g4 g5) | (simp only [nz_c]; exact (o2 g0 g1 g2 g3 g4 g5))) (fun F1 g e4 e44 e45 e69 e70 e71 => k2 g0 g1 g2 g3 g4 g5 F1 (nz_in hB [4, 44, 45] (fun j hj hn => g j hj (by simp only [List.mem_cons, List.not_mem_nil, or_false, not_or] at hn; omega)) (List.forall_mem_cons.mpr ⟨fun t ht => (Option.some.inj ht) ▸ (nz_hi e4 n74 (by omega) (by omega)), List.forall_mem_cons.mpr ⟨fun t ht => (Option.some.inj ht) ▸ (nz_hA e44 (nz_up (nz_ba hB (k := 44) (lo := 0) (hi := 1) rfl) (by decide : ((1 : Int32)).toInt = 1) (by omega) (by omega))), List.forall_mem_cons.mpr ⟨fun t ht => (Option.some.inj ht) ▸ (nz_hA e45 (nz_up (nz_ba hB (k := 45) (lo := 0) (hi := 840) rfl) (rfl : (sy_i F 15).toInt = (sy_i F 15).toInt) (by omega) (by omega))), List.forall_mem_nil _⟩⟩⟩)) (fun j hj hn => g j hj (by simp only [List.mem_cons, List.not_mem_nil, or_false, not_or] at hn; omega)) ((congrArg Int32.toInt (zz_i e4)).trans n74) (nz_fi (g 5 (by decide) (by decide))) (nz_fi (g 6 (by decide) (by decide))) (nz_fi (g 11 (by decide) (by decide))) (nz_fi (g 12 (by decide) (by decide))) (nz_fi (g 14 (by decide) (by decide))) (nz_fi (g 15 (by decide) (by decide))) (nz_fi (g 16 (by decide) (by decide))) (nz_fa (g 42 (by decide) (by decide))) (nz_fa (g 43 (by decide) (by decide))) ((zz_ai e44).trans w75) ((zz_ai e45).trans w76) (nz_fa (g 46 (by decide) (by decide))) (nz_fa (g 47 (by decide) (by decide))) (nz_fa (g 48 (by decide) (by decide))) (nz_fa (g 49 (by decide) (by decide))) (nz_fa (g 50 (by decide) (by decide))) ((congrArg Int32.toInt (zz_i e69)).trans (rfl : (sy_i F 69).toInt = (sy_i F 69).toInt)) ((congrArg Int32.toInt (zz_i e70)).trans (rfl : (sy_i F 70).toInt = (sy_i F 70).toInt)) ((congrArg Int32.toInt (zz_i e71)).trans n73))
      replace g5 : (sy_i F 4).toInt = 400 := by omega
      by_cases g6 : (sy_i F 6).toInt ≤ 0
      · have c6 := nz_bx hB (k := 6) (lo := 0) (hi := 2) rfl
        have c4 := nz_bx hB (k := 4) (lo := 0) (hi := 400) rfl
        have q72 : (sy_ai F 25).getD (sy_i F 4).toNatClampNeg 0 = (sy_ai F 25).getD ((sy_i F 4).toInt).toNat 0 := by simp only [nz_c]
        have n72 : ((sy_ai F 25).getD (sy_i F 4).toNatClampNeg 0).toInt = ((sy_ai F 25).getD ((sy_i F 4).toInt).toNat 0).toInt := congrArg Int32.toInt q72
        have r72 := nz_ba hB (k := 25) (lo := 0) (hi := 42) rfl ((sy_i F 4).toInt).toNat
        have c14 := nz_bx hB (k := 14) (lo := 0) (hi := 260) rfl
        have q74 : (sy_ai F 26).getD (sy_i F 4).toNatClampNeg 0 = (sy_ai F 26).getD ((sy_i F 4).toInt).toNat 0 := by simp only [nz_c]
        have n74 : ((sy_ai F 26).getD (sy_i F 4).toNatClampNeg 0).toInt = ((sy_ai F 26).getD ((sy_i F 4).toInt).toNat 0).toInt := congrArg Int32.toInt q74
        have c15 := nz_bx hB (k := 15) (lo := 0) (hi := 840) rfl
        have w75 : jm_upd (sy_ai F 44) (sy_i F 14).toNatClampNeg ((1 : Int32)) = jm_upd (sy_ai F 44) ((sy_i F 14).toInt).toNat ((1 : Int32)) := by simp only [nz_c, (by decide : ((1 : Int32)).toInt = 1)]
        have w76 : jm_upd (sy_ai F 45) (sy_i F 14).toNatClampNeg (sy_i F 15) = jm_upd (sy_ai F 45) ((sy_i F 14).toInt).toNat (sy_i F 15) := by simp only [nz_c]
        have n73 : ((sy_i F 71) + ((1 : Int32))).toInt = ((sy_i F 71).toInt + 1) := nz_add (rfl : (sy_i F 71).toInt = (sy_i F 71).toInt) (by decide : ((1 : Int32)).toInt = 1) (by omega) (by omega)
        exact tl_12_p3 hd F X1 X2 hB (by first | exact g0 | (simp only [nz_c]; exact g0)) (by first | exact g1 | (simp only [nz_c]; exact g1)) (by first | exact ⟨by omega, by omega⟩ | (simp only [nz_c]; exact ⟨by omega, by omega⟩)) (by first | exact g2 | (simp only [nz_c]; exact g2) | (rw [n72]; exact g2)) (by first | exact g3 | (simp only [nz_c]; exact g3)) (by first | exact g4 | (simp only [nz_c]; exact g4)) (by first | exact g5 | (simp only [nz_c]; exact g5)) (by first | exact g6 | (simp only [nz_c]; exact g6)) (by first | exact ⟨by omega, by omega⟩ | (simp only [nz_c]; exact ⟨by omega, by omega⟩)) (by first | exact (o3 g0 g1 g2 g3 g4 g5 g6) | (simp only [nz_c]; exact (o3 g0 g1 g2 g3 g4 g5 g6))) (by first | exact (o3 g0 g1 g2 g3 g4 g5 g6) | (simp only [nz_c]; exact (o3 g0 g1 g2 g3 g4 g5 g6))) (fun F1 g e6 e7 e44 e45 e69 e70 e71 => k3 g0 g1 g2 g3 g4 g5 g6 F1 (nz_in hB [6, 7, 44, 45] (fun j hj hn => g j hj (by simp only [List.mem_cons, List.not_mem_nil, or_false, not_or] at hn; omega)) (List.forall_mem_cons.mpr ⟨fun t ht => (Option.some.inj ht) ▸ (nz_hi e6 (by decide : ((2 : Int32)).toInt = 2) (by omega) (by omega)), List.forall_mem_cons.mpr ⟨fun t ht => (Option.some.inj ht) ▸ (nz_hz e7), List.forall_mem_cons.mpr ⟨fun t ht => (Option.some.inj ht) ▸ (nz_hA e44 (nz_up (nz_ba hB (k := 44) (lo := 0) (hi := 1) rfl) (by decide : ((1 : Int32)).toInt = 1) (by omega) (by omega))), List.forall_mem_cons.mpr ⟨fun t ht => (Option.some.inj ht) ▸ (nz_hA e45 (nz_up (nz_ba hB (k := 45) (lo := 0) (hi := 840) rfl) (rfl : (sy_i F 15).toInt = (sy_i F 15).toInt) (by omega) (by omega))), List.forall_mem_nil _⟩⟩⟩⟩)) (fun j hj hn => g j hj (by simp only [List.mem_cons, List.not_mem_nil, or_false, not_or] at hn; omega)) (nz_fi (g 4 (by decide) (by decide))) (nz_fi (g 5 (by decide) (by decide))) ((congrArg Int32.toInt (zz_i e6)).trans (by decide : ((2 : Int32)).toInt = 2)) (nz_fi (g 11 (by decide) (by decide))) (nz_fi (g 12 (by decide) (by decide))) (nz_fi (g 14 (by decide) (by decide))) (nz_fi (g 15 (by decide) (by decide))) (nz_fi (g 16 (by decide) (by decide))) (nz_fa (g 42 (by decide) (by decide))) (nz_fa (g 43 (by decide) (by decide))) ((zz_ai e44).trans w75) ((zz_ai e45).trans w76) (nz_fa (g 46 (by decide) (by decide))) (nz_fa (g 47 (by decide) (by decide))) (nz_fa (g 48 (by decide) (by decide))) (nz_fa (g 49 (by decide) (by decide))) (nz_fa (g 50 (by decide) (by decide))) ((congrArg Int32.toInt (zz_i e69)).trans (rfl : (sy_i F 69).toInt = (sy_i F 69).toInt)) ((congrArg Int32.toInt (zz_i e70)).trans (rfl : (sy_i F 70).toInt = (sy_i F 70).toInt)) ((congrArg Int32.toInt (zz_i e71)).trans n73))
      replace g6 : 0 < (sy_i F 6).toInt := by omega
      have c6 := nz_bx hB (k := 6) (lo := 0) (hi := 2) rfl
      have c4 := nz_bx hB (k := 4) (lo := 0) (hi := 400) rfl
      have q72 : (sy_ai F 25).getD (sy_i F 4).toNatClampNeg 0 = (sy_ai F 25).getD ((sy_i F 4).toInt).toNat 0 := by simp only [nz_c]
      have n72 : ((sy_ai F 25).getD (sy_i F 4).toNatClampNeg 0).toInt = ((sy_ai F 25).getD ((sy_i F 4).toInt).toNat 0).toInt := congrArg Int32.toInt q72
      have r72 := nz_ba hB (k := 25) (lo := 0) (hi := 42) rfl ((sy_i F 4).toInt).toNat
      exfalso
      omega
    replace g4 : 0 < (sy_i F 6).toInt := by omega
    have c6 := nz_bx hB (k := 6) (lo := 0) (hi := 2) rfl
    have c4 := nz_bx hB (k := 4) (lo := 0) (hi := 400) rfl
    have q72 : (sy_ai F 25).getD (sy_i F 4).toNatClampNeg 0 = (sy_ai F 25).getD ((sy_i F 4).toInt).toNat 0 := by simp only [nz_c]
    have n72 : ((sy_ai F 25).getD (sy_i F 4).toNatClampNeg 0).toInt = ((sy_ai F 25).getD ((sy_i F 4).toInt).toNat 0).toInt := congrArg Int32.toInt q72
    have r72 := nz_ba hB (k := 25) (lo := 0) (hi := 42) rfl ((sy_i F 4).toInt).toNat
    exfalso
    omega
  replace g3 : (sy_i F 71).toInt = 4 := by omega
  by_cases g4 : (sy_i F 6).toInt ≤ 0
  · have c6 := nz_bx hB (k := 6) (lo := 0) (hi := 2) rfl
    have c4 := nz_bx hB (k := 4) (lo := 0) (hi := 400) rfl
    have q72 : (sy_ai F 25).getD (sy_i F 4).toNatClampNeg 0 = (sy_ai F 25).getD ((sy_i F 4).toInt).toNat 0 := by simp only [nz_c]
    have n72 : ((sy_ai F 25).getD (sy_i F 4).toNatClampNeg 0).toInt = ((sy_ai F 25).getD ((sy_i F 4).toInt).toNat 0).toInt := congrArg Int32.toInt q72
    have r72 := nz_ba hB (k := 25) (lo := 0) (hi := 42) rfl ((sy_i F 4).toInt).toNat
    have q73 : (sy_ai F 26).getD (sy_i F 4).toNatClampNeg 0 = (sy_ai F 26).getD ((sy_i F 4).toInt).toNat 0 := by simp only [nz_c]
    have n73 : ((sy_ai F 26).getD (sy_i F 4).toNatClampNeg 0).toInt = ((sy_ai F 26).getD ((sy_i F 4).toInt).toNat 0).toInt := congrArg Int32.toInt q73
    exact tl_12_p4 hd F X1 X2 hB (by first | exact g0 | (simp only [nz_c]; exact g0)) (by first | exact g1 | (simp only [nz_c]; exact g1)) (by first | exact ⟨by omega, by omega⟩ | (simp only [nz_c]; exact ⟨by omega, by omega⟩)) (by first | exact g2 | (simp only [nz_c]; exact g2) | (rw [n72]; exact g2)) (by first | exact g3 | (simp only [nz_c]; exact g3)) (by first | exact g4 | (simp only [nz_c]; exact g4)) (by first | exact ⟨by omega, by omega⟩ | (simp only [nz_c]; exact ⟨by omega, by omega⟩)) (fun F1 g e6 e7 => k4 g0 g1 g2 g3 g4 F1 (nz_in hB [6, 7] (fun j hj hn => g j hj (by simp only [List.mem_cons, List.not_mem_nil, or_false, not_or] at hn; omega)) (List.forall_mem_cons.mpr ⟨fun t ht => (Option.some.inj ht) ▸ (nz_hi e6 (by decide : ((2 : Int32)).toInt = 2) (by omega) (by omega)), List.forall_mem_cons.mpr ⟨fun t ht => (Option.some.inj ht) ▸ (nz_hz e7), List.forall_mem_nil _⟩⟩)) (fun j hj hn => g j hj (by simp only [List.mem_cons, List.not_mem_nil, or_false, not_or] at hn; omega)) (nz_fi (g 4 (by decide) (by decide))) (nz_fi (g 5 (by decide) (by decide))) ((congrArg Int32.toInt (zz_i e6)).trans (by decide : ((2 : Int32)).toInt = 2)) (nz_fi (g 11 (by decide) (by decide))) (nz_fi (g 12 (by decide) (by decide))) (nz_fi (g 14 (by decide) (by decide))) (nz_fi (g 15 (by decide) (by decide))) (nz_fi (g 16 (by decide) (by decide))) (nz_fa (g 42 (by decide) (by decide))) (nz_fa (g 43 (by decide) (by decide))) (nz_fa (g 44 (by decide) (by decide))) (nz_fa (g 45 (by decide) (by decide))) (nz_fa (g 46 (by decide) (by decide))) (nz_fa (g 47 (by decide) (by decide))) (nz_fa (g 48 (by decide) (by decide))) (nz_fa (g 49 (by decide) (by decide))) (nz_fa (g 50 (by decide) (by decide))))
  replace g4 : 0 < (sy_i F 6).toInt := by omega
  have c6 := nz_bx hB (k := 6) (lo := 0) (hi := 2) rfl
  have c4 := nz_bx hB (k := 4) (lo := 0) (hi := 400) rfl
  have q72 : (sy_ai F 25).getD (sy_i F 4).toNatClampNeg 0 = (sy_ai F 25).getD ((sy_i F 4).toInt).toNat 0 := by simp only [nz_c]
  have n72 : ((sy_ai F 25).getD (sy_i F 4).toNatClampNeg 0).toInt = ((sy_ai F 25).getD ((sy_i F 4).toInt).toNat 0).toInt := congrArg Int32.toInt q72
  have r72 := nz_ba hB (k := 25) (lo := 0) (hi := 42) rfl ((sy_i F 4).toInt).toNat
  exfalso
  omega
theorem tl_80_p0 {Ls : Nat} {xs : Nat → Int32} {d : Nat} {Q : Option Value → jm_h → Prop} (hd : 4 ≤ d) (F : Nat → sy_d) (X1 X2 : List jm_c) (hB : iv_in F iv_B4)
    (h0 : (sy_i F 6).toInt ≠ 0)
    (h1 : 0 < (sy_i F 6).toInt)
    (h2 : 0 ≤ (sy_i F 14).toInt ∧ (sy_i F 14).toInt < 260)
    (h3 : (sy_i F 6).toInt ≠ 0)
    (k : ∀ F1 : Nat → sy_d, (∀ j, j < 69 → j ≠ 46 → F1 j = F j) → F1 46 = .inr (.inl (jm_upd (sy_ai F 46) (sy_i F 14).toNatClampNeg (sy_i F 15))) → F1 69 = .inl (.int (sy_i F 69)) → F1 70 = .inl (.int (sy_i F 70)) → F1 71 = .inl (.int (sy_i F 71)) → hd_W Ls xs d jm_M160 Q (110, sy_dL F1 [some (.inl (.ref 1000)), some (.inr (.inl 69)), some (.inr (.inl 70)), some (.inr (.inl 71))], sy_dS F1 [], sy_dh F1 X1 X2 (iv_H 4), 0, 0)) :
    hd_W Ls xs d jm_M160 Q (80, sy_dL F [some (.inl (.ref 1000)), some (.inr (.inl 69)), some (.inr (.inl 70)), some (.inr (.inl 71))], sy_dS F [], sy_dh F X1 X2 (iv_H 4), 0, 0) := by
  refine hd_run (s := 4) (nv := 72) (pc := 110) (L := [some (.inl (.ref 1000)), some (.inr (.inl 69)), some (.inr (.inl 70)), some (.inr (.inl 71))]) (S := []) (uh := hd_ov (iv_id 0 iv_B4) [(46, .inr (.inr (.inl 72)))]) (ul := [.inl (.inr (.inl 69)), .inl (.inr (.inl 70)), .inl (.inr (.inl 71))]) (f := false) (sp := [107, 110]) (d0 := 3) (O := [true, false, true]) (T := [(40, [.inr (.inl 14), .inr (.inl 15)], [.inr (.inl 46)])]) (P := [(1, .inr (.inl 6), .inl (.int 0)), (5, .inr (.inl 6), .inl (.int 0)), (6, .inr (.inl 14), .inl (.ref 260)), (1, .inr (.inl 6), .inl (.int 0))]) jm_ok160 (by decide +kernel) (by decide +kernel) hd F X1 X2 (fun F' hF hs => ?_)
  have b6 := hd_b (F := F) (F' := F') (k := 6) (hF 6 (by decide))
  have b14 := hd_b (F := F) (F' := F') (k := 14) (hF 14 (by decide))
  have b15 := hd_b (F := F) (F' := F') (k := 15) (hF 15 (by decide))
  have a46 := hd_ba (F := F) (F' := F') (k := 46) (hF 46 (by decide))
  have t72 : sy_da F' (.inr (.inl 72)) = .inl (jm_upd (sy_ai F 46) (sy_i F 14).toNatClampNeg (sy_i F 15)) := hd_up (hs 0 _ rfl) b14 b15 a46
  have b69 := hd_b (F := F) (F' := F') (k := 69) (hF 69 (by decide))
  have b70 := hd_b (F := F) (F' := F') (k := 70) (hF 70 (by decide))
  have b71 := hd_b (F := F) (F' := F') (k := 71) (hF 71 (by decide))
  have hB' : iv_in F' iv_B4 := iv_in_eq hB (fun j hj => hF j (Nat.lt_of_lt_of_le hj (by decide +kernel)))
  refine ⟨List.forall_mem_cons.mpr ⟨hd_p1 b6 rfl (by have hc : ((0) : Int32).toInt = 0 := (by decide); omega), List.forall_mem_cons.mpr ⟨hd_p5 b6 rfl (by have hc : ((0) : Int32).toInt = 0 := (by decide); omega), List.forall_mem_cons.mpr ⟨hd_pb b14 (by first | exact h2 | exact h2), List.forall_mem_cons.mpr ⟨hd_p1 b6 rfl (by have hc : ((0) : Int32).toInt = 0 := (by decide); omega), fun _ h => absurd h List.not_mem_nil⟩⟩⟩⟩, ?_⟩
  refine k _ ?_ ?_ ?_ ?_ ?_
  · exact fun j hj hn => (hd_keep hB' (Nat.lt_of_lt_of_le hj (by decide +kernel)) (by simp; omega)).trans (hF j (by omega))
  · exact hd_ga (a := .inr (.inl 72)) (by decide +kernel) t72
  · exact hd_gi (x := .inr (.inl 69)) (by decide +kernel) b69
  · exact hd_gi (x := .inr (.inl 70)) (by decide +kernel) b70
  · exact hd_gi (x := .inr (.inl 71)) (by decide +kernel) b71
theorem tl_80_p1 {Ls : Nat} {xs : Nat → Int32} {d : Nat} {Q : Option Value → jm_h → Prop} (hd : 4 ≤ d) (F : Nat → sy_d) (X1 X2 : List jm_c) (hB : iv_in F iv_B4)
    (h0 : (sy_i F 6).toInt = 0)
    (h1 : 0 ≤ (sy_i F 4).toInt ∧ (sy_i F 4).toInt < 403)
    (h2 : ((sy_ai F 25).getD (sy_i F 4).toNatClampNeg 0).toInt ≠ 13)
    (h3 : (sy_i F 6).toInt ≤ 0)
    (h4 : 0 ≤ (sy_i F 4).toInt ∧ (sy_i F 4).toInt < 403)
    (h5 : 0 ≤ (sy_i F 14).toInt ∧ (sy_i F 14).toInt < 260)
    (k : ∀ F1 : Nat → sy_d, (∀ j, j < 69 → j ≠ 6 ∧ j ≠ 7 ∧ j ≠ 46 → F1 j = F j) → F1 6 = .inl (.int ((1 : Int32))) → F1 7 = .inl (.int ((sy_ai F 26).getD (sy_i F 4).toNatClampNeg 0)) → F1 46 = .inr (.inl (jm_upd (sy_ai F 46) (sy_i F 14).toNatClampNeg (sy_i F 15))) → F1 69 = .inl (.int (sy_i F 69)) → F1 70 = .inl (.int (sy_i F 70)) → F1 71 = .inl (.int (sy_i F 71)) → hd_W Ls xs d jm_M160 Q (110, sy_dL F1 [some (.inl (.ref 1000)), some (.inr (.inl 69)), some (.inr (.inl 70)), some (.inr (.inl 71))], sy_dS F1 [], sy_dh F1 X1 X2 (iv_H 4), 0, 0)) :
    hd_W Ls xs d jm_M160 Q (80, sy_dL F [some (.inl (.ref 1000)), some (.inr (.inl 69)), some (.inr (.inl 70)), some (.inr (.inl 71))], sy_dS F [], sy_dh F X1 X2 (iv_H 4), 0, 0) := by
  refine hd_run (s := 4) (nv := 72) (pc := 110) (L := [some (.inl (.ref 1000)), some (.inr (.inl 69)), some (.inr (.inl 70)), some (.inr (.inl 71))]) (S := []) (uh := hd_ov (iv_id 0 iv_B4) [(6, .inl (.inl (.int 1))), (7, .inl (.inr (.inl 73))), (46, .inr (.inr (.inl 74)))]) (ul := [.inl (.inr (.inl 69)), .inl (.inr (.inl 70)), .inl (.inr (.inl 71))]) (f := false) (sp := [107, 110]) (d0 := 3) (O := [false, true, true]) (T := [(30, [.inr (.inl 4)], [.inr (.inl 25)]), (30, [.inr (.inl 4)], [.inr (.inl 26)]), (40, [.inr (.inl 14), .inr (.inl 15)], [.inr (.inl 46)])]) (P := [(0, .inr (.inl 6), .inl (.int 0)), (6, .inr (.inl 4), .inl (.ref 403)), (1, .inr (.inl 72), .inl (.int 13)), (4, .inr (.inl 6), .inl (.int 0)), (6, .inr (.inl 4), .inl (.ref 403)), (6, .inr (.inl 14), .inl (.ref 260))]) jm_ok160 (by decide +kernel) (by decide +kernel) hd F X1 X2 (fun F' hF hs => ?_)
  have b6 := hd_b (F := F) (F' := F') (k := 6) (hF 6 (by decide))
  have b4 := hd_b (F := F) (F' := F') (k := 4) (hF 4 (by decide))
  have a25 := hd_ba (F := F) (F' := F') (k := 25) (hF 25 (by decide))
  have t72 : sy_dv F' (.inr (.inl 72)) = .int ((sy_ai F 25).getD (sy_i F 4).toNatClampNeg 0) := hd_rd (hs 0 _ rfl) b4 a25
  have b14 := hd_b (F := F) (F' := F') (k := 14) (hF 14 (by decide))
  have a26 := hd_ba (F := F) (F' := F') (k := 26) (hF 26 (by decide))
  have t73 : sy_dv F' (.inr (.inl 73)) = .int ((sy_ai F 26).getD (sy_i F 4).toNatClampNeg 0) := hd_rd (hs 1 _ rfl) b4 a26
  have b15 := hd_b (F := F) (F' := F') (k := 15) (hF 15 (by decide))
  have a46 := hd_ba (F := F) (F' := F') (k := 46) (hF 46 (by decide))
  have t74 : sy_da F' (.inr (.inl 74)) = .inl (jm_upd (sy_ai F 46) (sy_i F 14).toNatClampNeg (sy_i F 15)) := hd_up (hs 2 _ rfl) b14 b15 a46
  have b69 := hd_b (F := F) (F' := F') (k := 69) (hF 69 (by decide))
  have b70 := hd_b (F := F) (F' := F') (k := 70) (hF 70 (by decide))
  have b71 := hd_b (F := F) (F' := F') (k := 71) (hF 71 (by decide))
  have hB' : iv_in F' iv_B4 := iv_in_eq hB (fun j hj => hF j (Nat.lt_of_lt_of_le hj (by decide +kernel)))
  refine ⟨List.forall_mem_cons.mpr ⟨hd_p0 b6 rfl (by have hc : ((0) : Int32).toInt = 0 := (by decide); omega), List.forall_mem_cons.mpr ⟨hd_pb b4 (by first | exact h1 | exact h1), List.forall_mem_cons.mpr ⟨hd_p1 t72 rfl (by have hc : ((13) : Int32).toInt = 13 := (by decide); omega), List.forall_mem_cons.mpr ⟨hd_p4 b6 rfl (by have hc : ((0) : Int32).toInt = 0 := (by decide); omega), List.forall_mem_cons.mpr ⟨hd_pb b4 (by first | exact h4 | exact h4), List.forall_mem_cons.mpr ⟨hd_pb b14 (by first | exact h5 | exact h5), fun _ h => absurd h List.not_mem_nil⟩⟩⟩⟩⟩⟩, ?_⟩
  refine k _ ?_ ?_ ?_ ?_ ?_ ?_ ?_
  · exact fun j hj hn => (hd_keep hB' (Nat.lt_of_lt_of_le hj (by decide +kernel)) (by simp; omega)).trans (hF j (by omega))
  · exact hd_gi (x := .inl (.int 1)) (by decide +kernel) rfl
  · exact hd_gi (x := .inr (.inl 73)) (by decide +kernel) t73
  · exact hd_ga (a := .inr (.inl 74)) (by decide +kernel) t74
  · exact hd_gi (x := .inr (.inl 69)) (by decide +kernel) b69
  · exact hd_gi (x := .inr (.inl 70)) (by decide +kernel) b70
  · exact hd_gi (x := .inr (.inl 71)) (by decide +kernel) b71
theorem tl_80_p2 {Ls : Nat} {xs : Nat → Int32} {d : Nat} {Q : Option Value → jm_h → Prop} (hd : 4 ≤ d) (F : Nat → sy_d) (X1 X2 : List jm_c) (hB : iv_in F iv_B4)
    (h0 : (sy_i F 6).toInt = 0)
    (h1 : 0 ≤ (sy_i F 4).toInt ∧ (sy_i F 4).toInt < 403)
    (h2 : ((sy_ai F 25).getD (sy_i F 4).toNatClampNeg 0).toInt = 13)
    (h3 : (sy_i F 4).toInt ≠ 400)
    (h4 : 0 ≤ (sy_i F 14).toInt ∧ (sy_i F 14).toInt < 260)
    (h5 : (sy_i F 6).toInt = 0)
    (k : ∀ F1 : Nat → sy_d, (∀ j, j < 69 → j ≠ 4 ∧ j ≠ 46 → F1 j = F j) → F1 4 = .inl (.int ((sy_i F 4) + ((1 : Int32)))) → F1 46 = .inr (.inl (jm_upd (sy_ai F 46) (sy_i F 14).toNatClampNeg (sy_i F 15))) → F1 69 = .inl (.int (sy_i F 69)) → F1 70 = .inl (.int (sy_i F 70)) → F1 71 = .inl (.int (sy_i F 71)) → hd_W Ls xs d jm_M160 Q (107, sy_dL F1 [some (.inl (.ref 1000)), some (.inr (.inl 69)), some (.inr (.inl 70)), some (.inr (.inl 71))], sy_dS F1 [.inl (.ref 1000)], sy_dh F1 X1 X2 (iv_H 4), 0, 0)) :
    hd_W Ls xs d jm_M160 Q (80, sy_dL F [some (.inl (.ref 1000)), some (.inr (.inl 69)), some (.inr (.inl 70)), some (.inr (.inl 71))], sy_dS F [], sy_dh F X1 X2 (iv_H 4), 0, 0) := by
  refine hd_run (s := 4) (nv := 72) (pc := 107) (L := [some (.inl (.ref 1000)), some (.inr (.inl 69)), some (.inr (.inl 70)), some (.inr (.inl 71))]) (S := [.inl (.ref 1000)]) (uh := hd_ov (iv_id 0 iv_B4) [(4, .inl (.inr (.inl 73))), (46, .inr (.inr (.inl 74)))]) (ul := [.inl (.inr (.inl 69)), .inl (.inr (.inl 70)), .inl (.inr (.inl 71))]) (f := false) (sp := [107, 110]) (d0 := 3) (O := [false, false, true, false]) (T := [(30, [.inr (.inl 4)], [.inr (.inl 25)]), (0, [.inr (.inl 4), .inl (.int 1)], []), (40, [.inr (.inl 14), .inr (.inl 15)], [.inr (.inl 46)])]) (P := [(0, .inr (.inl 6), .inl (.int 0)), (6, .inr (.inl 4), .inl (.ref 403)), (0, .inr (.inl 72), .inl (.int 13)), (1, .inr (.inl 4), .inl (.int 400)), (6, .inr (.inl 14), .inl (.ref 260)), (0, .inr (.inl 6), .inl (.int 0))]) jm_ok160 (by decide +kernel) (by decide +kernel) hd F X1 X2 (fun F' hF hs => ?_)
  have b6 := hd_b (F := F) (F' := F') (k := 6) (hF 6 (by decide))
  have b4 := hd_b (F := F) (F' := F') (k := 4) (hF 4 (by decide))
  have a25 := hd_ba (F := F) (F' := F') (k := 25) (hF 25 (by decide))
  have t72 : sy_dv F' (.inr (.inl 72)) = .int ((sy_ai F 25).getD (sy_i F 4).toNatClampNeg 0) := hd_rd (hs 0 _ rfl) b4 a25
  have b14 := hd_b (F := F) (F' := F') (k := 14) (hF 14 (by decide))
  have t73 : sy_dv F' (.inr (.inl 73)) = .int ((sy_i F 4) + ((1 : Int32))) := hd_o (hs 1 _ rfl) b4 rfl rfl
  have b15 := hd_b (F := F) (F' := F') (k := 15) (hF 15 (by decide))
  have a46 := hd_ba (F := F) (F' := F') (k := 46) (hF 46 (by decide))
  have t74 : sy_da F' (.inr (.inl 74)) = .inl (jm_upd (sy_ai F 46) (sy_i F 14).toNatClampNeg (sy_i F 15)) := hd_up (hs 2 _ rfl) b14 b15 a46
  have b69 := hd_b (F := F) (F' := F') (k := 69) (hF 69 (by decide))
  have b70 := hd_b (F := F) (F' := F') (k := 70) (hF 70 (by decide))
  have b71 := hd_b (F := F) (F' := F') (k := 71) (hF 71 (by decide))
  have hB' : iv_in F' iv_B4 := iv_in_eq hB (fun j hj => hF j (Nat.lt_of_lt_of_le hj (by decide +kernel)))
  refine ⟨List.forall_mem_cons.mpr ⟨hd_p0 b6 rfl (by have hc : ((0) : Int32).toInt = 0 := (by decide); omega), List.forall_mem_cons.mpr ⟨hd_pb b4 (by first | exact h1 | exact h1), List.forall_mem_cons.mpr ⟨hd_p0 t72 rfl (by have hc : ((13) : Int32).toInt = 13 := (by decide); omega), List.forall_mem_cons.mpr ⟨hd_p1 b4 rfl (by have hc : ((400) : Int32).toInt = 400 := (by decide); omega), List.forall_mem_cons.mpr ⟨hd_pb b14 (by first | exact h4 | exact h4), List.forall_mem_cons.mpr ⟨hd_p0 b6 rfl (by have hc : ((0) : Int32).toInt = 0 := (by decide); omega), fun _ h => absurd h List.not_mem_nil⟩⟩⟩⟩⟩⟩, ?_⟩
  refine k _ ?_ ?_ ?_ ?_ ?_ ?_
  · exact fun j hj hn => (hd_keep hB' (Nat.lt_of_lt_of_le hj (by decide +kernel)) (by simp; omega)).trans (hF j (by omega))
  · exact hd_gi (x := .inr (.inl 73)) (by decide +kernel) t73
  · exact hd_ga (a := .inr (.inl 74)) (by decide +kernel) t74
  · exact hd_gi (x := .inr (.inl 69)) (by decide +kernel) b69
  · exact hd_gi (x := .inr (.inl 70)) (by decide +kernel) b70
  · exact hd_gi (x := .inr (.inl 71)) (by decide +kernel) b71
theorem tl_80_p3 {Ls : Nat} {xs : Nat → Int32} {d : Nat} {Q : Option Value → jm_h → Prop} (hd : 4 ≤ d) (F : Nat → sy_d) (X1 X2 : List jm_c) (hB : iv_in F iv_B4)
    (h0 : (sy_i F 6).toInt = 0)
    (h1 : 0 ≤ (sy_i F 4).toInt ∧ (sy_i F 4).toInt < 403)
    (h2 : ((sy_ai F 25).getD (sy_i F 4).toNatClampNeg 0).toInt = 13)
    (h3 : (sy_i F 4).toInt = 400)
    (h4 : (sy_i F 6).toInt ≤ 0)
    (h5 : 0 ≤ (sy_i F 4).toInt ∧ (sy_i F 4).toInt < 403)
    (h6 : 0 ≤ (sy_i F 14).toInt ∧ (sy_i F 14).toInt < 260)
    (k : ∀ F1 : Nat → sy_d, (∀ j, j < 69 → j ≠ 6 ∧ j ≠ 7 ∧ j ≠ 46 → F1 j = F j) → F1 6 = .inl (.int ((2 : Int32))) → F1 7 = .inl (.int ((sy_ai F 26).getD (sy_i F 4).toNatClampNeg 0)) → F1 46 = .inr (.inl (jm_upd (sy_ai F 46) (sy_i F 14).toNatClampNeg (sy_i F 15))) → F1 69 = .inl (.int (sy_i F 69)) → F1 70 = .inl (.int (sy_i F 70)) → F1 71 = .inl (.int (sy_i F 71)) → hd_W Ls xs d jm_M160 Q (110, sy_dL F1 [some (.inl (.ref 1000)), some (.inr (.inl 69)), some (.inr (.inl 70)), some (.inr (.inl 71))], sy_dS F1 [], sy_dh F1 X1 X2 (iv_H 4), 0, 0)) :
    hd_W Ls xs d jm_M160 Q (80, sy_dL F [some (.inl (.ref 1000)), some (.inr (.inl 69)), some (.inr (.inl 70)), some (.inr (.inl 71))], sy_dS F [], sy_dh F X1 X2 (iv_H 4), 0, 0) := by
  refine hd_run (s := 4) (nv := 72) (pc := 110) (L := [some (.inl (.ref 1000)), some (.inr (.inl 69)), some (.inr (.inl 70)), some (.inr (.inl 71))]) (S := []) (uh := hd_ov (iv_id 0 iv_B4) [(6, .inl (.inl (.int 2))), (7, .inl (.inr (.inl 73))), (46, .inr (.inr (.inl 74)))]) (ul := [.inl (.inr (.inl 69)), .inl (.inr (.inl 70)), .inl (.inr (.inl 71))]) (f := false) (sp := [107, 110]) (d0 := 3) (O := [false, false, false, true]) (T := [(30, [.inr (.inl 4)], [.inr (.inl 25)]), (30, [.inr (.inl 4)], [.inr (.inl 26)]), (40, [.inr (.inl 14), .inr (.inl 15)], [.inr (.inl 46)])]) (P := [(0, .inr (.inl 6), .inl (.int 0)), (6, .inr (.inl 4), .inl (.ref 403)), (0, .inr (.inl 72), .inl (.int 13)), (0, .inr (.inl 4), .inl (.int 400)), (4, .inr (.inl 6), .inl (.int 0)), (6, .inr (.inl 4), .inl (.ref 403)), (6, .inr (.inl 14), .inl (.ref 260))]) jm_ok160 (by decide +kernel) (by decide +kernel) hd F X1 X2 (fun F' hF hs => ?_)
  have b6 := hd_b (F := F) (F' := F') (k := 6) (hF 6 (by decide))
  have b4 := hd_b (F := F) (F' := F') (k := 4) (hF 4 (by decide))
  have a25 := hd_ba (F := F) (F' := F') (k := 25) (hF 25 (by decide))
  have t72 : sy_dv F' (.inr (.inl 72)) = .int ((sy_ai F 25).getD (sy_i F 4).toNatClampNeg 0) := hd_rd (hs 0 _ rfl) b4 a25
  have b14 := hd_b (F := F) (F' := F') (k := 14) (hF 14 (by decide))
  have a26 := hd_ba (F := F) (F' := F') (k := 26) (hF 26 (by decide))
  have t73 : sy_dv F' (.inr (.inl 73)) = .int ((sy_ai F 26).getD (sy_i F 4).toNatClampNeg 0) := hd_rd (hs 1 _ rfl) b4 a26
  have b15 := hd_b (F := F) (F' := F') (k := 15) (hF 15 (by decide))
  have a46 := hd_ba (F := F) (F' := F') (k := 46) (hF 46 (by decide))
  have t74 : sy_da F' (.inr (.inl 74)) = .inl (jm_upd (sy_ai F 46) (sy_i F 14).toNatClampNeg (sy_i F 15)) := hd_up (hs 2 _ rfl) b14 b15 a46
  have b69 := hd_b (F := F) (F' := F') (k := 69) (hF 69 (by decide))
  have b70 := hd_b (F := F) (F' := F') (k := 70) (hF 70 (by decide))
  have b71 := hd_b (F := F) (F' := F') (k := 71) (hF 71 (by decide))
  have hB' : iv_in F' iv_B4 := iv_in_eq hB (fun j hj => hF j (Nat.lt_of_lt_of_le hj (by decide +kernel)))
  refine ⟨List.forall_mem_cons.mpr ⟨hd_p0 b6 rfl (by have hc : ((0) : Int32).toInt = 0 := (by decide); omega), List.forall_mem_cons.mpr ⟨hd_pb b4 (by first | exact h1 | exact h1), List.forall_mem_cons.mpr ⟨hd_p0 t72 rfl (by have hc : ((13) : Int32).toInt = 13 := (by decide); omega), List.forall_mem_cons.mpr ⟨hd_p0 b4 rfl (by have hc : ((400) : Int32).toInt = 400 := (by decide); omega), List.forall_mem_cons.mpr ⟨hd_p4 b6 rfl (by have hc : ((0) : Int32).toInt = 0 := (by decide); omega), List.forall_mem_cons.mpr ⟨hd_pb b4 (by first | exact h5 | exact h5), List.forall_mem_cons.mpr ⟨hd_pb b14 (by first | exact h6 | exact h6), fun _ h => absurd h List.not_mem_nil⟩⟩⟩⟩⟩⟩⟩, ?_⟩
  refine k _ ?_ ?_ ?_ ?_ ?_ ?_ ?_
  · exact fun j hj hn => (hd_keep hB' (Nat.lt_of_lt_of_le hj (by decide +kernel)) (by simp; omega)).trans (hF j (by omega))
  · exact hd_gi (x := .inl (.int 2)) (by decide +kernel) rfl
  · exact hd_gi (x := .inr (.inl 73)) (by decide +kernel) t73
  · exact hd_ga (a := .inr (.inl 74)) (by decide +kernel) t74
  · exact hd_gi (x := .inr (.inl 69)) (by decide +kernel) b69
  · exact hd_gi (x := .inr (.inl 70)) (by decide +kernel) b70
  · exact hd_gi (x := .inr (.inl 71)) (by decide +kernel) b71
theorem tl_80 {Ls : Nat} {xs : Nat → Int32} {d : Nat} {Q : Option Value → jm_h → Prop} (hd : 4 ≤ d) (F : Nat → sy_d) (X1 X2 : List jm_c) (hB : iv_in F iv_B4)
    (o0 : (sy_i F 6).toInt ≠ 0 → 0 < (sy_i F 6).toInt → (0 ≤ (sy_i F 14).toInt ∧ (sy_i F 14).toInt < 260))
    (o1 : (sy_i F 6).toInt = 0 → ((sy_ai F 25).getD ((sy_i F 4).toInt).toNat 0).toInt ≠ 13 → (sy_i F 6).toInt ≤ 0 → (0 ≤ (sy_i F 14).toInt ∧ (sy_i F 14).toInt < 260))
    (o2 : (sy_i F 6).toInt = 0 → ((sy_ai F 25).getD ((sy_i F 4).toInt).toNat 0).toInt = 13 → (sy_i F 4).toInt ≠ 400 → (0 ≤ (sy_i F 14).toInt ∧ (sy_i F 14).toInt < 260))
    (o3 : (sy_i F 6).toInt = 0 → ((sy_ai F 25).getD ((sy_i F 4).toInt).toNat 0).toInt = 13 → (sy_i F 4).toInt = 400 → (sy_i F 6).toInt ≤ 0 → (0 ≤ (sy_i F 14).toInt ∧ (sy_i F 14).toInt < 260))
    (k0 : (sy_i F 6).toInt ≠ 0 → 0 < (sy_i F 6).toInt → (sy_i F 6).toInt ≠ 0 → ∀ F1 : Nat → sy_d, iv_in F1 iv_B4 → (∀ j, j < 69 → j ∉ ([46] : List Nat) → F1 j = F j) → (sy_i F1 4).toInt = (sy_i F 4).toInt → (sy_i F1 5).toInt = (sy_i F 5).toInt → (sy_i F1 6).toInt = (sy_i F 6).toInt → (sy_i F1 11).toInt = (sy_i F 11).toInt → (sy_i F1 12).toInt = (sy_i F 12).toInt → (sy_i F1 14).toInt = (sy_i F 14).toInt → (sy_i F1 15).toInt = (sy_i F 15).toInt → (sy_i F1 16).toInt = (sy_i F 16).toInt → sy_ai F1 42 = sy_ai F 42 → sy_ai F1 43 = sy_ai F 43 → sy_ai F1 44 = sy_ai F 44 → sy_ai F1 45 = sy_ai F 45 → sy_ai F1 46 = jm_upd (sy_ai F 46) ((sy_i F 14).toInt).toNat (sy_i F 15) → sy_ai F1 47 = sy_ai F 47 → sy_ai F1 48 = sy_ai F 48 → sy_ai F1 49 = sy_ai F 49 → sy_ai F1 50 = sy_ai F 50 → (sy_i F1 69).toInt = (sy_i F 69).toInt → (sy_i F1 70).toInt = (sy_i F 70).toInt → (sy_i F1 71).toInt = (sy_i F 71).toInt → hd_W Ls xs d jm_M160 Q (110, sy_dL F1 [some (.inl (.ref 1000)), some (.inr (.inl 69)), some (.inr (.inl 70)), some (.inr (.inl 71))], sy_dS F1 [], sy_dh F1 X1 X2 (iv_H 4), 0, 0))
    (k1 : (sy_i F 6).toInt = 0 → ((sy_ai F 25).getD ((sy_i F 4).toInt).toNat 0).toInt ≠ 13 → (sy_i F 6).toInt ≤ 0 → ∀ F1 : Nat → sy_d, iv_in F1 iv_B4 → (∀ j, j < 69 → j ∉ ([6, 7, 46] : List Nat) → F1 j = F j) → (sy_i F1 4).toInt = (sy_i F 4).toInt → (sy_i F1 5).toInt = (sy_i F 5).toInt → (sy_i F1 6).toInt = 1 → (sy_i F1 11).toInt = (sy_i F 11).toInt → (sy_i F1 12).toInt = (sy_i F 12).toInt → (sy_i F1 14).toInt = (sy_i F 14).toInt → (sy_i F1 15).toInt = (sy_i F 15).toInt → (sy_i F1 16).toInt = (sy_i F 16).toInt → sy_ai F1 42 = sy_ai F 42 → sy_ai F1 43 = sy_ai F 43 → sy_ai F1 44 = sy_ai F 44 → sy_ai F1 45 = sy_ai F 45 → sy_ai F1 46 = jm_upd (sy_ai F 46) ((sy_i F 14).toInt).toNat (sy_i F 15) → sy_ai F1 47 = sy_ai F 47 → sy_ai F1 48 = sy_ai F 48 → sy_ai F1 49 = sy_ai F 49 → sy_ai F1 50 = sy_ai F 50 → (sy_i F1 69).toInt = (sy_i F 69).toInt → (sy_i F1 70).toInt = (sy_i F 70).toInt → (sy_i F1 71).toInt = (sy_i F 71).toInt → hd_W Ls xs d jm_M160 Q (110, sy_dL F1 [some (.inl (.ref 1000)), some (.inr (.inl 69)), some (.inr (.inl 70)), some (.inr (.inl 71))], sy_dS F1 [], sy_dh F1 X1 X2 (iv_H 4), 0, 0))
    (k2 : (sy_i F 6).toInt = 0 → ((sy_ai F 25).getD ((sy_i F 4).toInt).toNat 0).toInt = 13 → (sy_i F 4).toInt ≠ 400 → (sy_i F 6).toInt = 0 → ∀ F1 : Nat → sy_d, iv_in F1 iv_B4 → (∀ j, j < 69 → j ∉ ([4, 46] : List Nat) → F1 j = F j) → (sy_i F1 4).toInt = ((sy_i F 4).toInt + 1) → (sy_i F1 5).toInt = (sy_i F 5).toInt → (sy_i F1 6).toInt = (sy_i F 6).toInt → (sy_i F1 11).toInt = (sy_i F 11).toInt → (sy_i F1 12).toInt = (sy_i F 12).toInt → (sy_i F1 14).toInt = (sy_i F 14).toInt → (sy_i F1 15).toInt = (sy_i F 15).toInt → (sy_i F1 16).toInt = (sy_i F 16).toInt → sy_ai F1 42 = sy_ai F 42 → sy_ai F1 43 = sy_ai F 43 → sy_ai F1 44 = sy_ai F 44 → sy_ai F1 45 = sy_ai F 45 → sy_ai F1 46 = jm_upd (sy_ai F 46) ((sy_i F 14).toInt).toNat (sy_i F 15) → sy_ai F1 47 = sy_ai F 47 → sy_ai F1 48 = sy_ai F 48 → sy_ai F1 49 = sy_ai F 49 → sy_ai F1 50 = sy_ai F 50 → (sy_i F1 69).toInt = (sy_i F 69).toInt → (sy_i F1 70).toInt = (sy_i F 70).toInt → (sy_i F1 71).toInt = (sy_i F 71).toInt → hd_W Ls xs d jm_M160 Q (107, sy_dL F1 [some (.inl (.ref 1000)), some (.inr (.inl 69)), some (.inr (.inl 70)), some (.inr (.inl 71))], sy_dS F1 [.inl (.ref 1000)], sy_dh F1 X1 X2 (iv_H 4), 0, 0))
    (k3 : (sy_i F 6).toInt = 0 → ((sy_ai F 25).getD ((sy_i F 4).toInt).toNat 0).toInt = 13 → (sy_i F 4).toInt = 400 → (sy_i F 6).toInt ≤ 0 → ∀ F1 : Nat → sy_d, iv_in F1 iv_B4 → (∀ j, j < 69 → j ∉ ([6, 7, 46] : List Nat) → F1 j = F j) → (sy_i F1 4).toInt = (sy_i F 4).toInt → (sy_i F1 5).toInt = (sy_i F 5).toInt → (sy_i F1 6).toInt = 2 → (sy_i F1 11).toInt = (sy_i F 11).toInt → (sy_i F1 12).toInt = (sy_i F 12).toInt → (sy_i F1 14).toInt = (sy_i F 14).toInt → (sy_i F1 15).toInt = (sy_i F 15).toInt → (sy_i F1 16).toInt = (sy_i F 16).toInt → sy_ai F1 42 = sy_ai F 42 → sy_ai F1 43 = sy_ai F 43 → sy_ai F1 44 = sy_ai F 44 → sy_ai F1 45 = sy_ai F 45 → sy_ai F1 46 = jm_upd (sy_ai F 46) ((sy_i F 14).toInt).toNat (sy_i F 15) → sy_ai F1 47 = sy_ai F 47 → sy_ai F1 48 = sy_ai F 48 → sy_ai F1 49 = sy_ai F 49 → sy_ai F1 50 = sy_ai F 50 → (sy_i F1 69).toInt = (sy_i F 69).toInt → (sy_i F1 70).toInt = (sy_i F 70).toInt → (sy_i F1 71).toInt = (sy_i F 71).toInt → hd_W Ls xs d jm_M160 Q (110, sy_dL F1 [some (.inl (.ref 1000)), some (.inr (.inl 69)), some (.inr (.inl 70)), some (.inr (.inl 71))], sy_dS F1 [], sy_dh F1 X1 X2 (iv_H 4), 0, 0)) :
    hd_W Ls xs d jm_M160 Q (80, sy_dL F [some (.inl (.ref 1000)), some (.inr (.inl 69)), some (.inr (.inl 70)), some (.inr (.inl 71))], sy_dS F [], sy_dh F X1 X2 (iv_H 4), 0, 0) := by
  by_cases g0 : (sy_i F 6).toInt ≠ 0
  · by_cases g1 : (sy_i F 6).toInt ≤ 0
    · have c6 := nz_bx hB (k := 6) (lo := 0) (hi := 2) rfl
      exfalso
      omega
    replace g1 : 0 < (sy_i F 6).toInt := by omega
    by_cases g2 : (sy_i F 6).toInt ≠ 0
    · have c6 := nz_bx hB (k := 6) (lo := 0) (hi := 2) rfl
      have c14 := nz_bx hB (k := 14) (lo := 0) (hi := 260) rfl
      have c15 := nz_bx hB (k := 15) (lo := 0) (hi := 840) rfl
      have w72 : jm_upd (sy_ai F 46) (sy_i F 14).toNatClampNeg (sy_i F 15) = jm_upd (sy_ai F 46) ((sy_i F 14).toInt).toNat (sy_i F 15) := by simp only [nz_c]
      exact tl_80_p0 hd F X1 X2 hB (by first | exact g0 | (simp only [nz_c]; exact g0)) (by first | exact g1 | (simp only [nz_c]; exact g1)) (by first | exact (o0 g0 g1) | (simp only [nz_c]; exact (o0 g0 g1))) (by first | exact g2 | (simp only [nz_c]; exact g2)) (fun F1 g e46 e69 e70 e71 => k0 g0 g1 g2 F1 (nz_in hB [46] (fun j hj hn => g j hj (by simp only [List.mem_cons, List.not_mem_nil, or_false, not_or] at hn; omega)) (List.forall_mem_cons.mpr ⟨fun t ht => (Option.some.inj ht) ▸ (nz_hA e46 (nz_up (nz_ba hB (k := 46) (lo := 0) (hi := 840) rfl) (rfl : (sy_i F 15).toInt = (sy_i F 15).toInt) (by omega) (by omega))), List.forall_mem_nil _⟩)) (fun j hj hn => g j hj (by simp only [List.mem_cons, List.not_mem_nil, or_false, not_or] at hn; omega)) (nz_fi (g 4 (by decide) (by decide))) (nz_fi (g 5 (by decide) (by decide))) (nz_fi (g 6 (by decide) (by decide))) (nz_fi (g 11 (by decide) (by decide))) (nz_fi (g 12 (by decide) (by decide))) (nz_fi (g 14 (by decide) (by decide))) (nz_fi (g 15 (by decide) (by decide))) (nz_fi (g 16 (by decide) (by decide))) (nz_fa (g 42 (by decide) (by decide))) (nz_fa (g 43 (by decide) (by decide))) (nz_fa (g 44 (by decide) (by decide))) (nz_fa (g 45 (by decide) (by decide))) ((zz_ai e46).trans w72) (nz_fa (g 47 (by decide) (by decide))) (nz_fa (g 48 (by decide) (by decide))) (nz_fa (g 49 (by decide) (by decide))) (nz_fa (g 50 (by decide) (by decide))) ((congrArg Int32.toInt (zz_i e69)).trans (rfl : (sy_i F 69).toInt = (sy_i F 69).toInt)) ((congrArg Int32.toInt (zz_i e70)).trans (rfl : (sy_i F 70).toInt = (sy_i F 70).toInt)) ((congrArg Int32.toInt (zz_i e71)).trans (rfl : (sy_i F 71).toInt = (sy_i F 71).toInt)))
    replace g2 : (sy_i F 6).toInt = 0 := by omega
    have c6 := nz_bx hB (k := 6) (lo := 0) (hi := 2) rfl
    have c14 := nz_bx hB (k := 14) (lo := 0) (hi := 260) rfl
    exfalso
    omega
  replace g0 : (sy_i F 6).toInt = 0 := by omega
  by_cases g1 : ((sy_ai F 25).getD ((sy_i F 4).toInt).toNat 0).toInt ≠ 13
  · by_cases g2 : (sy_i F 6).toInt ≤ 0
    · have c6 := nz_bx hB (k := 6) (lo := 0) (hi := 2) rfl
      have c4 := nz_bx hB (k := 4) (lo := 0) (hi := 400) rfl
      have q72 : (sy_ai F 25).getD (sy_i F 4).toNatClampNeg 0 = (sy_ai F 25).getD ((sy_i F 4).toInt).toNat 0 := by simp only [nz_c]
      have n72 : ((sy_ai F 25).getD (sy_i F 4).toNatClampNeg 0).toInt = ((sy_ai F 25).getD ((sy_i F 4).toInt).toNat 0).toInt := congrArg Int32.toInt q72
      have r72 := nz_ba hB (k := 25) (lo := 0) (hi := 42) rfl ((sy_i F 4).toInt).toNat
      have c14 := nz_bx hB (k := 14) (lo := 0) (hi := 260) rfl
      have q73 : (sy_ai F 26).getD (sy_i F 4).toNatClampNeg 0 = (sy_ai F 26).getD ((sy_i F 4).toInt).toNat 0 := by simp only [nz_c]
      have n73 : ((sy_ai F 26).getD (sy_i F 4).toNatClampNeg 0).toInt = ((sy_ai F 26).getD ((sy_i F 4).toInt).toNat 0).toInt := congrArg Int32.toInt q73
      have c15 := nz_bx hB (k := 15) (lo := 0) (hi := 840) rfl
      have w74 : jm_upd (sy_ai F 46) (sy_i F 14).toNatClampNeg (sy_i F 15) = jm_upd (sy_ai F 46) ((sy_i F 14).toInt).toNat (sy_i F 15) := by simp only [nz_c]
      exact tl_80_p1 hd F X1 X2 hB (by first | exact g0 | (simp only [nz_c]; exact g0)) (by first | exact ⟨by omega, by omega⟩ | (simp only [nz_c]; exact ⟨by omega, by omega⟩)) (by first | exact g1 | (simp only [nz_c]; exact g1) | (rw [n72]; exact g1)) (by first | exact g2 | (simp only [nz_c]; exact g2)) (by first | exact ⟨by omega, by omega⟩ | (simp only [nz_c]; exact ⟨by omega, by omega⟩)) (by first | exact (o1 g0 g1 g2) | (simp only [nz_c]; exact (o1 g0 g1 g2))) (fun F1 g e6 e7 e46 e69 e70 e71 => k1 g0 g1 g2 F1 (nz_in hB [6, 7, 46] (fun j hj hn => g j hj (by simp only [List.mem_cons, List.not_mem_nil, or_false, not_or] at hn; omega)) (List.forall_mem_cons.mpr ⟨fun t ht => (Option.some.inj ht) ▸ (nz_hi e6 (by decide : ((1 : Int32)).toInt = 1) (by omega) (by omega)), List.forall_mem_cons.mpr ⟨fun t ht => (Option.some.inj ht) ▸ (nz_hz e7), List.forall_mem_cons.mpr ⟨fun t ht => (Option.some.inj ht) ▸ (nz_hA e46 (nz_up (nz_ba hB (k := 46) (lo := 0) (hi := 840) rfl) (rfl : (sy_i F 15).toInt = (sy_i F 15).toInt) (by omega) (by omega))), List.forall_mem_nil _⟩⟩⟩)) (fun j hj hn => g j hj (by simp only [List.mem_cons, List.not_mem_nil, or_false, not_or] at hn; omega)) (nz_fi (g 4 (by decide) (by decide))) (nz_fi (g 5 (by decide) (by decide))) ((congrArg Int32.toInt (zz_i e6)).trans (by decide : ((1 : Int32)).toInt = 1)) (nz_fi (g 11 (by decide) (by decide))) (nz_fi (g 12 (by decide) (by decide))) (nz_fi (g 14 (by decide) (by decide))) (nz_fi (g 15 (by decide) (by decide))) (nz_fi (g 16 (by decide) (by decide))) (nz_fa (g 42 (by decide) (by decide))) (nz_fa (g 43 (by decide) (by decide))) (nz_fa (g 44 (by decide) (by decide))) (nz_fa (g 45 (by decide) (by decide))) ((zz_ai e46).trans w74) (nz_fa (g 47 (by decide) (by decide))) (nz_fa (g 48 (by decide) (by decide))) (nz_fa (g 49 (by decide) (by decide))) (nz_fa (g 50 (by decide) (by decide))) ((congrArg Int32.toInt (zz_i e69)).trans (rfl : (sy_i F 69).toInt = (sy_i F 69).toInt)) ((congrArg Int32.toInt (zz_i e70)).trans (rfl : (sy_i F 70).toInt = (sy_i F 70).toInt)) ((congrArg Int32.toInt (zz_i e71)).trans (rfl : (sy_i F 71).toInt = (sy_i F 71).toInt)))
    replace g2 : 0 < (sy_i F 6).toInt := by omega
    have c6 := nz_bx hB (k := 6) (lo := 0) (hi := 2) rfl
    have c4 := nz_bx hB (k := 4) (lo := 0) (hi := 400) rfl
    have q72 : (sy_ai F 25).getD (sy_i F 4).toNatClampNeg 0 = (sy_ai F 25).getD ((sy_i F 4).toInt).toNat 0 := by simp only [nz_c]
    have n72 : ((sy_ai F 25).getD (sy_i F 4).toNatClampNeg 0).toInt = ((sy_ai F 25).getD ((sy_i F 4).toInt).toNat 0).toInt := congrArg Int32.toInt q72
    have r72 := nz_ba hB (k := 25) (lo := 0) (hi := 42) rfl ((sy_i F 4).toInt).toNat
    exfalso
    omega
  replace g1 : ((sy_ai F 25).getD ((sy_i F 4).toInt).toNat 0).toInt = 13 := by omega
  by_cases g2 : (sy_i F 4).toInt ≠ 400
  · by_cases g3 : (sy_i F 6).toInt ≠ 0
    · have c6 := nz_bx hB (k := 6) (lo := 0) (hi := 2) rfl
      have c4 := nz_bx hB (k := 4) (lo := 0) (hi := 400) rfl
      have q72 : (sy_ai F 25).getD (sy_i F 4).toNatClampNeg 0 = (sy_ai F 25).getD ((sy_i F 4).toInt).toNat 0 := by simp only [nz_c]
      have n72 : ((sy_ai F 25).getD (sy_i F 4).toNatClampNeg 0).toInt = ((sy_ai F 25).getD ((sy_i F 4).toInt).toNat 0).toInt := congrArg Int32.toInt q72
      have r72 := nz_ba hB (k := 25) (lo := 0) (hi := 42) rfl ((sy_i F 4).toInt).toNat
      have c14 := nz_bx hB (k := 14) (lo := 0) (hi := 260) rfl
      exfalso
      omega
    replace g3 : (sy_i F 6).toInt = 0 := by omega
    have c6 := nz_bx hB (k := 6) (lo := 0) (hi := 2) rfl
    have c4 := nz_bx hB (k := 4) (lo := 0) (hi := 400) rfl
    have q72 : (sy_ai F 25).getD (sy_i F 4).toNatClampNeg 0 = (sy_ai F 25).getD ((sy_i F 4).toInt).toNat 0 := by simp only [nz_c]
    have n72 : ((sy_ai F 25).getD (sy_i F 4).toNatClampNeg 0).toInt = ((sy_ai F 25).getD ((sy_i F 4).toInt).toNat 0).toInt := congrArg Int32.toInt q72
    have r72 := nz_ba hB (k := 25) (lo := 0) (hi := 42) rfl ((sy_i F 4).toInt).toNat
    have c14 := nz_bx hB (k := 14) (lo := 0) (hi := 260) rfl
    have n73 : ((sy_i F 4) + ((1 : Int32))).toInt = ((sy_i F 4).toInt + 1) := nz_add (rfl : (sy_i F 4).toInt = (sy_i F 4).toInt) (by decide : ((1 : Int32)).toInt = 1) (by omega) (by omega)
    have c15 := nz_bx hB (k := 15) (lo := 0) (hi := 840) rfl
    have w74 : jm_upd (sy_ai F 46) (sy_i F 14).toNatClampNeg (sy_i F 15) = jm_upd (sy_ai F 46) ((sy_i F 14).toInt).toNat (sy_i F 15) := by simp only [nz_c]
    exact tl_80_p2 hd F X1 X2 hB (by first | exact g0 | (simp only [nz_c]; exact g0)) (by first | exact ⟨by omega, by omega⟩ | (simp only [nz_c]; exact ⟨by omega, by omega⟩)) (by first | exact g1 | (simp only [nz_c]; exact g1) | (rw [n72]; exact g1)) (by first | exact g2 | (simp only [nz_c]; exact g2)) (by first | exact (o2 g0 g1 g2) | (simp only [nz_c]; exact (o2 g0 g1 g2))) (by first | exact g3 | (simp only [nz_c]; exact g3)) (fun F1 g e4 e46 e69 e70 e71 => k2 g0 g1 g2 g3 F1 (nz_in hB [4, 46] (fun j hj hn => g j hj (by simp only [List.mem_cons, List.not_mem_nil, or_false, not_or] at hn; omega)) (List.forall_mem_cons.mpr ⟨fun t ht => (Option.some.inj ht) ▸ (nz_hi e4 n73 (by omega) (by omega)), List.forall_mem_cons.mpr ⟨fun t ht => (Option.some.inj ht) ▸ (nz_hA e46 (nz_up (nz_ba hB (k := 46) (lo := 0) (hi := 840) rfl) (rfl : (sy_i F 15).toInt = (sy_i F 15).toInt) (by omega) (by omega))), List.forall_mem_nil _⟩⟩)) (fun j hj hn => g j hj (by simp only [List.mem_cons, List.not_mem_nil, or_false, not_or] at hn; omega)) ((congrArg Int32.toInt (zz_i e4)).trans n73) (nz_fi (g 5 (by decide) (by decide))) (nz_fi (g 6 (by decide) (by decide))) (nz_fi (g 11 (by decide) (by decide))) (nz_fi (g 12 (by decide) (by decide))) (nz_fi (g 14 (by decide) (by decide))) (nz_fi (g 15 (by decide) (by decide))) (nz_fi (g 16 (by decide) (by decide))) (nz_fa (g 42 (by decide) (by decide))) (nz_fa (g 43 (by decide) (by decide))) (nz_fa (g 44 (by decide) (by decide))) (nz_fa (g 45 (by decide) (by decide))) ((zz_ai e46).trans w74) (nz_fa (g 47 (by decide) (by decide))) (nz_fa (g 48 (by decide) (by decide))) (nz_fa (g 49 (by decide) (by decide))) (nz_fa (g 50 (by decide) (by decide))) ((congrArg Int32.toInt (zz_i e69)).trans (rfl : (sy_i F 69).toInt = (sy_i F 69).toInt)) ((congrArg Int32.toInt (zz_i e70)).trans (rfl : (sy_i F 70).toInt = (sy_i F 70).toInt)) ((congrArg Int32.toInt (zz_i e71)).trans (rfl : (sy_i F 71).toInt = (sy_i F 71).toInt)))
  replace g2 : (sy_i F 4).toInt = 400 := by omega
  by_cases g3 : (sy_i F 6).toInt ≤ 0
  · have c6 := nz_bx hB (k := 6) (lo := 0) (hi := 2) rfl
    have c4 := nz_bx hB (k := 4) (lo := 0) (hi := 400) rfl
    have q72 : (sy_ai F 25).getD (sy_i F 4).toNatClampNeg 0 = (sy_ai F 25).getD ((sy_i F 4).toInt).toNat 0 := by simp only [nz_c]
    have n72 : ((sy_ai F 25).getD (sy_i F 4).toNatClampNeg 0).toInt = ((sy_ai F 25).getD ((sy_i F 4).toInt).toNat 0).toInt := congrArg Int32.toInt q72
    have r72 := nz_ba hB (k := 25) (lo := 0) (hi := 42) rfl ((sy_i F 4).toInt).toNat
    have c14 := nz_bx hB (k := 14) (lo := 0) (hi := 260) rfl
    have q73 : (sy_ai F 26).getD (sy_i F 4).toNatClampNeg 0 = (sy_ai F 26).getD ((sy_i F 4).toInt).toNat 0 := by simp only [nz_c]
    have n73 : ((sy_ai F 26).getD (sy_i F 4).toNatClampNeg 0).toInt = ((sy_ai F 26).getD ((sy_i F 4).toInt).toNat 0).toInt := congrArg Int32.toInt q73
    have c15 := nz_bx hB (k := 15) (lo := 0) (hi := 840) rfl
    have w74 : jm_upd (sy_ai F 46) (sy_i F 14).toNatClampNeg (sy_i F 15) = jm_upd (sy_ai F 46) ((sy_i F 14).toInt).toNat (sy_i F 15) := by simp only [nz_c]
    exact tl_80_p3 hd F X1 X2 hB (by first | exact g0 | (simp only [nz_c]; exact g0)) (by first | exact ⟨by omega, by omega⟩ | (simp only [nz_c]; exact ⟨by omega, by omega⟩)) (by first | exact g1 | (simp only [nz_c]; exact g1) | (rw [n72]; exact g1)) (by first | exact g2 | (simp only [nz_c]; exact g2)) (by first | exact g3 | (simp only [nz_c]; exact g3)) (by first | exact ⟨by omega, by omega⟩ | (simp only [nz_c]; exact ⟨by omega, by omega⟩)) (by first | exact (o3 g0 g1 g2 g3) | (simp only [nz_c]; exact (o3 g0 g1 g2 g3))) (fun F1 g e6 e7 e46 e69 e70 e71 => k3 g0 g1 g2 g3 F1 (nz_in hB [6, 7, 46] (fun j hj hn => g j hj (by simp only [List.mem_cons, List.not_mem_nil, or_false, not_or] at hn; omega)) (List.forall_mem_cons.mpr ⟨fun t ht => (Option.some.inj ht) ▸ (nz_hi e6 (by decide : ((2 : Int32)).toInt = 2) (by omega) (by omega)), List.forall_mem_cons.mpr ⟨fun t ht => (Option.some.inj ht) ▸ (nz_hz e7), List.forall_mem_cons.mpr ⟨fun t ht => (Option.some.inj ht) ▸ (nz_hA e46 (nz_up (nz_ba hB (k := 46) (lo := 0) (hi := 840) rfl) (rfl : (sy_i F 15).toInt = (sy_i F 15).toInt) (by omega) (by omega))), List.forall_mem_nil _⟩⟩⟩)) (fun j hj hn => g j hj (by simp only [List.mem_cons, List.not_mem_nil, or_false, not_or] at hn; omega)) (nz_fi (g 4 (by decide) (by decide))) (nz_fi (g 5 (by decide) (by decide))) ((congrArg Int32.toInt (zz_i e6)).trans (by decide : ((2 : Int32)).toInt = 2)) (nz_fi (g 11 (by decide) (by decide))) (nz_fi (g 12 (by decide) (by decide))) (nz_fi (g 14 (by decide) (by decide))) (nz_fi (g 15 (by decide) (by decide))) (nz_fi (g 16 (by decide) (by decide))) (nz_fa (g 42 (by decide) (by decide))) (nz_fa (g 43 (by decide) (by decide))) (nz_fa (g 44 (by decide) (by decide))) (nz_fa (g 45 (by decide) (by decide))) ((zz_ai e46).trans w74) (nz_fa (g 47 (by decide) (by decide))) (nz_fa (g 48 (by decide) (by decide))) (nz_fa (g 49 (by decide) (by decide))) (nz_fa (g 50 (by decide) (by decide))) ((congrArg Int32.toInt (zz_i e69)).trans (rfl : (sy_i F 69).toInt = (sy_i F 69).toInt)) ((congrArg Int32.toInt (zz_i e70)).trans (rfl : (sy_i F 70).toInt = (sy_i F 70).toInt)) ((congrArg Int32.toInt (zz_i e71)).trans (rfl : (sy_i F 71).toInt = (sy_i F 71).toInt)))
  replace g3 : 0 < (sy_i F 6).toInt := by omega
  have c6 := nz_bx hB (k := 6) (lo := 0) (hi := 2) rfl
  have c4 := nz_bx hB (k := 4) (lo := 0) (hi := 400) rfl
  have q72 : (sy_ai F 25).getD (sy_i F 4).toNatClampNeg 0 = (sy_ai F 25).getD ((sy_i F 4).toInt).toNat 0 := by simp only [nz_c]
  have n72 : ((sy_ai F 25).getD (sy_i F 4).toNatClampNeg 0).toInt = ((sy_ai F 25).getD ((sy_i F 4).toInt).toNat 0).toInt := congrArg Int32.toInt q72
  have r72 := nz_ba hB (k := 25) (lo := 0) (hi := 42) rfl ((sy_i F 4).toInt).toNat
  exfalso
  omega
theorem tl_110_p0 {Ls : Nat} {xs : Nat → Int32} {d : Nat} {Q : Option Value → jm_h → Prop} (hd : 4 ≤ d) (F : Nat → sy_d) (X1 X2 : List jm_c) (hB : iv_in F iv_B4)
    (h0 : (sy_i F 6).toInt ≠ 0)
    (h1 : 0 < (sy_i F 6).toInt)
    (k : ∀ F1 : Nat → sy_d, (∀ j, j < 69 → True → F1 j = F j) → F1 69 = .inl (.int (sy_i F 69)) → F1 70 = .inl (.int (sy_i F 70)) → F1 71 = .inl (.int (sy_i F 71)) → hd_W Ls xs d jm_M160 Q (117, sy_dL F1 [some (.inl (.ref 1000)), some (.inr (.inl 69)), some (.inr (.inl 70)), some (.inr (.inl 71))], sy_dS F1 [.inl (.ref 1000)], sy_dh F1 X1 X2 (iv_H 4), 0, 0)) :
    hd_W Ls xs d jm_M160 Q (110, sy_dL F [some (.inl (.ref 1000)), some (.inr (.inl 69)), some (.inr (.inl 70)), some (.inr (.inl 71))], sy_dS F [], sy_dh F X1 X2 (iv_H 4), 0, 0) := by
  refine hd_run (s := 4) (nv := 72) (pc := 117) (L := [some (.inl (.ref 1000)), some (.inr (.inl 69)), some (.inr (.inl 70)), some (.inr (.inl 71))]) (S := [.inl (.ref 1000)]) (uh := hd_ov (iv_id 0 iv_B4) []) (ul := [.inl (.inr (.inl 69)), .inl (.inr (.inl 70)), .inl (.inr (.inl 71))]) (f := true) (sp := [117]) (d0 := 3) (O := [true, false]) (T := []) (P := [(1, .inr (.inl 6), .inl (.int 0)), (5, .inr (.inl 6), .inl (.int 0))]) jm_ok160 (by decide +kernel) (by decide +kernel) hd F X1 X2 (fun F' hF hs => ?_)
  have b6 := hd_b (F := F) (F' := F') (k := 6) (hF 6 (by decide))
  have b69 := hd_b (F := F) (F' := F') (k := 69) (hF 69 (by decide))
  have b70 := hd_b (F := F) (F' := F') (k := 70) (hF 70 (by decide))
  have b71 := hd_b (F := F) (F' := F') (k := 71) (hF 71 (by decide))
  have hB' : iv_in F' iv_B4 := iv_in_eq hB (fun j hj => hF j (Nat.lt_of_lt_of_le hj (by decide +kernel)))
  refine ⟨List.forall_mem_cons.mpr ⟨hd_p1 b6 rfl (by have hc : ((0) : Int32).toInt = 0 := (by decide); omega), List.forall_mem_cons.mpr ⟨hd_p5 b6 rfl (by have hc : ((0) : Int32).toInt = 0 := (by decide); omega), fun _ h => absurd h List.not_mem_nil⟩⟩, ?_⟩
  refine k _ ?_ ?_ ?_ ?_
  · exact fun j hj _ => (hd_keep hB' (Nat.lt_of_lt_of_le hj (by decide +kernel)) (by simp)).trans (hF j (by omega))
  · exact hd_gi (x := .inr (.inl 69)) (by decide +kernel) b69
  · exact hd_gi (x := .inr (.inl 70)) (by decide +kernel) b70
  · exact hd_gi (x := .inr (.inl 71)) (by decide +kernel) b71
theorem tl_110_p1 {Ls : Nat} {xs : Nat → Int32} {d : Nat} {Q : Option Value → jm_h → Prop} (hd : 4 ≤ d) (F : Nat → sy_d) (X1 X2 : List jm_c) (hB : iv_in F iv_B4)
    (h0 : (sy_i F 6).toInt = 0)
    (h1 : 0 ≤ (sy_i F 4).toInt ∧ (sy_i F 4).toInt < 403)
    (h2 : ((sy_ai F 25).getD (sy_i F 4).toNatClampNeg 0).toInt ≠ 32)
    (h3 : (sy_i F 6).toInt ≤ 0)
    (h4 : 0 ≤ (sy_i F 4).toInt ∧ (sy_i F 4).toInt < 403)
    (k : ∀ F1 : Nat → sy_d, (∀ j, j < 69 → j ≠ 6 ∧ j ≠ 7 → F1 j = F j) → F1 6 = .inl (.int ((1 : Int32))) → F1 7 = .inl (.int ((sy_ai F 26).getD (sy_i F 4).toNatClampNeg 0)) → F1 69 = .inl (.int (sy_i F 69)) → F1 70 = .inl (.int (sy_i F 70)) → F1 71 = .inl (.int (sy_i F 71)) → hd_W Ls xs d jm_M160 Q (117, sy_dL F1 [some (.inl (.ref 1000)), some (.inr (.inl 69)), some (.inr (.inl 70)), some (.inr (.inl 71))], sy_dS F1 [.inl (.ref 1000)], sy_dh F1 X1 X2 (iv_H 4), 0, 0)) :
    hd_W Ls xs d jm_M160 Q (110, sy_dL F [some (.inl (.ref 1000)), some (.inr (.inl 69)), some (.inr (.inl 70)), some (.inr (.inl 71))], sy_dS F [], sy_dh F X1 X2 (iv_H 4), 0, 0) := by
  refine hd_run (s := 4) (nv := 72) (pc := 117) (L := [some (.inl (.ref 1000)), some (.inr (.inl 69)), some (.inr (.inl 70)), some (.inr (.inl 71))]) (S := [.inl (.ref 1000)]) (uh := hd_ov (iv_id 0 iv_B4) [(6, .inl (.inl (.int 1))), (7, .inl (.inr (.inl 73)))]) (ul := [.inl (.inr (.inl 69)), .inl (.inr (.inl 70)), .inl (.inr (.inl 71))]) (f := true) (sp := [117]) (d0 := 3) (O := [false, true, true]) (T := [(30, [.inr (.inl 4)], [.inr (.inl 25)]), (30, [.inr (.inl 4)], [.inr (.inl 26)])]) (P := [(0, .inr (.inl 6), .inl (.int 0)), (6, .inr (.inl 4), .inl (.ref 403)), (1, .inr (.inl 72), .inl (.int 32)), (4, .inr (.inl 6), .inl (.int 0)), (6, .inr (.inl 4), .inl (.ref 403))]) jm_ok160 (by decide +kernel) (by decide +kernel) hd F X1 X2 (fun F' hF hs => ?_)
  have b6 := hd_b (F := F) (F' := F') (k := 6) (hF 6 (by decide))
  have b4 := hd_b (F := F) (F' := F') (k := 4) (hF 4 (by decide))
  have a25 := hd_ba (F := F) (F' := F') (k := 25) (hF 25 (by decide))
  have t72 : sy_dv F' (.inr (.inl 72)) = .int ((sy_ai F 25).getD (sy_i F 4).toNatClampNeg 0) := hd_rd (hs 0 _ rfl) b4 a25
  have a26 := hd_ba (F := F) (F' := F') (k := 26) (hF 26 (by decide))
  have t73 : sy_dv F' (.inr (.inl 73)) = .int ((sy_ai F 26).getD (sy_i F 4).toNatClampNeg 0) := hd_rd (hs 1 _ rfl) b4 a26
  have b69 := hd_b (F := F) (F' := F') (k := 69) (hF 69 (by decide))
  have b70 := hd_b (F := F) (F' := F') (k := 70) (hF 70 (by decide))
  have b71 := hd_b (F := F) (F' := F') (k := 71) (hF 71 (by decide))
  have hB' : iv_in F' iv_B4 := iv_in_eq hB (fun j hj => hF j (Nat.lt_of_lt_of_le hj (by decide +kernel)))
  refine ⟨List.forall_mem_cons.mpr ⟨hd_p0 b6 rfl (by have hc : ((0) : Int32).toInt = 0 := (by decide); omega), List.forall_mem_cons.mpr ⟨hd_pb b4 (by first | exact h1 | exact h1), List.forall_mem_cons.mpr ⟨hd_p1 t72 rfl (by have hc : ((32) : Int32).toInt = 32 := (by decide); omega), List.forall_mem_cons.mpr ⟨hd_p4 b6 rfl (by have hc : ((0) : Int32).toInt = 0 := (by decide); omega), List.forall_mem_cons.mpr ⟨hd_pb b4 (by first | exact h4 | exact h4), fun _ h => absurd h List.not_mem_nil⟩⟩⟩⟩⟩, ?_⟩
  refine k _ ?_ ?_ ?_ ?_ ?_ ?_
  · exact fun j hj hn => (hd_keep hB' (Nat.lt_of_lt_of_le hj (by decide +kernel)) (by simp; omega)).trans (hF j (by omega))
  · exact hd_gi (x := .inl (.int 1)) (by decide +kernel) rfl
  · exact hd_gi (x := .inr (.inl 73)) (by decide +kernel) t73
  · exact hd_gi (x := .inr (.inl 69)) (by decide +kernel) b69
  · exact hd_gi (x := .inr (.inl 70)) (by decide +kernel) b70
  · exact hd_gi (x := .inr (.inl 71)) (by decide +kernel) b71
theorem tl_110_p2 {Ls : Nat} {xs : Nat → Int32} {d : Nat} {Q : Option Value → jm_h → Prop} (hd : 4 ≤ d) (F : Nat → sy_d) (X1 X2 : List jm_c) (hB : iv_in F iv_B4)
    (h0 : (sy_i F 6).toInt = 0)
    (h1 : 0 ≤ (sy_i F 4).toInt ∧ (sy_i F 4).toInt < 403)
    (h2 : ((sy_ai F 25).getD (sy_i F 4).toNatClampNeg 0).toInt = 32)
    (h3 : (sy_i F 4).toInt ≠ 400)
    (k : ∀ F1 : Nat → sy_d, (∀ j, j < 69 → j ≠ 4 → F1 j = F j) → F1 4 = .inl (.int ((sy_i F 4) + ((1 : Int32)))) → F1 69 = .inl (.int (sy_i F 69)) → F1 70 = .inl (.int (sy_i F 70)) → F1 71 = .inl (.int (sy_i F 71)) → hd_W Ls xs d jm_M160 Q (117, sy_dL F1 [some (.inl (.ref 1000)), some (.inr (.inl 69)), some (.inr (.inl 70)), some (.inr (.inl 71))], sy_dS F1 [.inl (.ref 1000)], sy_dh F1 X1 X2 (iv_H 4), 0, 0)) :
    hd_W Ls xs d jm_M160 Q (110, sy_dL F [some (.inl (.ref 1000)), some (.inr (.inl 69)), some (.inr (.inl 70)), some (.inr (.inl 71))], sy_dS F [], sy_dh F X1 X2 (iv_H 4), 0, 0) := by
  refine hd_run (s := 4) (nv := 72) (pc := 117) (L := [some (.inl (.ref 1000)), some (.inr (.inl 69)), some (.inr (.inl 70)), some (.inr (.inl 71))]) (S := [.inl (.ref 1000)]) (uh := hd_ov (iv_id 0 iv_B4) [(4, .inl (.inr (.inl 73)))]) (ul := [.inl (.inr (.inl 69)), .inl (.inr (.inl 70)), .inl (.inr (.inl 71))]) (f := true) (sp := [117]) (d0 := 3) (O := [false, false, true]) (T := [(30, [.inr (.inl 4)], [.inr (.inl 25)]), (0, [.inr (.inl 4), .inl (.int 1)], [])]) (P := [(0, .inr (.inl 6), .inl (.int 0)), (6, .inr (.inl 4), .inl (.ref 403)), (0, .inr (.inl 72), .inl (.int 32)), (1, .inr (.inl 4), .inl (.int 400))]) jm_ok160 (by decide +kernel) (by decide +kernel) hd F X1 X2 (fun F' hF hs => ?_)
  have b6 := hd_b (F := F) (F' := F') (k := 6) (hF 6 (by decide))
  have b4 := hd_b (F := F) (F' := F') (k := 4) (hF 4 (by decide))
  have a25 := hd_ba (F := F) (F' := F') (k := 25) (hF 25 (by decide))
  have t72 : sy_dv F' (.inr (.inl 72)) = .int ((sy_ai F 25).getD (sy_i F 4).toNatClampNeg 0) := hd_rd (hs 0 _ rfl) b4 a25
  have t73 : sy_dv F' (.inr (.inl 73)) = .int ((sy_i F 4) + ((1 : Int32))) := hd_o (hs 1 _ rfl) b4 rfl rfl
  have b69 := hd_b (F := F) (F' := F') (k := 69) (hF 69 (by decide))
  have b70 := hd_b (F := F) (F' := F') (k := 70) (hF 70 (by decide))
  have b71 := hd_b (F := F) (F' := F') (k := 71) (hF 71 (by decide))
  have hB' : iv_in F' iv_B4 := iv_in_eq hB (fun j hj => hF j (Nat.lt_of_lt_of_le hj (by decide +kernel)))
  refine ⟨List.forall_mem_cons.mpr ⟨hd_p0 b6 rfl (by have hc : ((0) : Int32).toInt = 0 := (by decide); omega), List.forall_mem_cons.mpr ⟨hd_pb b4 (by first | exact h1 | exact h1), List.forall_mem_cons.mpr ⟨hd_p0 t72 rfl (by have hc : ((32) : Int32).toInt = 32 := (by decide); omega), List.forall_mem_cons.mpr ⟨hd_p1 b4 rfl (by have hc : ((400) : Int32).toInt = 400 := (by decide); omega), fun _ h => absurd h List.not_mem_nil⟩⟩⟩⟩, ?_⟩
  refine k _ ?_ ?_ ?_ ?_ ?_
  · exact fun j hj hn => (hd_keep hB' (Nat.lt_of_lt_of_le hj (by decide +kernel)) (by simp; omega)).trans (hF j (by omega))
  · exact hd_gi (x := .inr (.inl 73)) (by decide +kernel) t73
  · exact hd_gi (x := .inr (.inl 69)) (by decide +kernel) b69
  · exact hd_gi (x := .inr (.inl 70)) (by decide +kernel) b70
  · exact hd_gi (x := .inr (.inl 71)) (by decide +kernel) b71
theorem tl_110_p3 {Ls : Nat} {xs : Nat → Int32} {d : Nat} {Q : Option Value → jm_h → Prop} (hd : 4 ≤ d) (F : Nat → sy_d) (X1 X2 : List jm_c) (hB : iv_in F iv_B4)
    (h0 : (sy_i F 6).toInt = 0)
    (h1 : 0 ≤ (sy_i F 4).toInt ∧ (sy_i F 4).toInt < 403)
    (h2 : ((sy_ai F 25).getD (sy_i F 4).toNatClampNeg 0).toInt = 32)
    (h3 : (sy_i F 4).toInt = 400)
    (h4 : (sy_i F 6).toInt ≤ 0)
    (h5 : 0 ≤ (sy_i F 4).toInt ∧ (sy_i F 4).toInt < 403)
    (k : ∀ F1 : Nat → sy_d, (∀ j, j < 69 → j ≠ 6 ∧ j ≠ 7 → F1 j = F j) → F1 6 = .inl (.int ((2 : Int32))) → F1 7 = .inl (.int ((sy_ai F 26).getD (sy_i F 4).toNatClampNeg 0)) → F1 69 = .inl (.int (sy_i F 69)) → F1 70 = .inl (.int (sy_i F 70)) → F1 71 = .inl (.int (sy_i F 71)) → hd_W Ls xs d jm_M160 Q (117, sy_dL F1 [some (.inl (.ref 1000)), some (.inr (.inl 69)), some (.inr (.inl 70)), some (.inr (.inl 71))], sy_dS F1 [.inl (.ref 1000)], sy_dh F1 X1 X2 (iv_H 4), 0, 0)) :
    hd_W Ls xs d jm_M160 Q (110, sy_dL F [some (.inl (.ref 1000)), some (.inr (.inl 69)), some (.inr (.inl 70)), some (.inr (.inl 71))], sy_dS F [], sy_dh F X1 X2 (iv_H 4), 0, 0) := by
  refine hd_run (s := 4) (nv := 72) (pc := 117) (L := [some (.inl (.ref 1000)), some (.inr (.inl 69)), some (.inr (.inl 70)), some (.inr (.inl 71))]) (S := [.inl (.ref 1000)]) (uh := hd_ov (iv_id 0 iv_B4) [(6, .inl (.inl (.int 2))), (7, .inl (.inr (.inl 73)))]) (ul := [.inl (.inr (.inl 69)), .inl (.inr (.inl 70)), .inl (.inr (.inl 71))]) (f := true) (sp := [117]) (d0 := 3) (O := [false, false, false, true]) (T := [(30, [.inr (.inl 4)], [.inr (.inl 25)]), (30, [.inr (.inl 4)], [.inr (.inl 26)])]) (P := [(0, .inr (.inl 6), .inl (.int 0)), (6, .inr (.inl 4), .inl (.ref 403)), (0, .inr (.inl 72), .inl (.int 32)), (0, .inr (.inl 4), .inl (.int 400)), (4, .inr (.inl 6), .inl (.int 0)), (6, .inr (.inl 4), .inl (.ref 403))]) jm_ok160 (by decide +kernel) (by decide +kernel) hd F X1 X2 (fun F' hF hs => ?_)
  have b6 := hd_b (F := F) (F' := F') (k := 6) (hF 6 (by decide))
  have b4 := hd_b (F := F) (F' := F') (k := 4) (hF 4 (by decide))
  have a25 := hd_ba (F := F) (F' := F') (k := 25) (hF 25 (by decide))
  have t72 : sy_dv F' (.inr (.inl 72)) = .int ((sy_ai F 25).getD (sy_i F 4).toNatClampNeg 0) := hd_rd (hs 0 _ rfl) b4 a25
  have a26 := hd_ba (F := F) (F' := F') (k := 26) (hF 26 (by decide))
  have t73 : sy_dv F' (.inr (.inl 73)) = .int ((sy_ai F 26).getD (sy_i F 4).toNatClampNeg 0) := hd_rd (hs 1 _ rfl) b4 a26
  have b69 := hd_b (F := F) (F' := F') (k := 69) (hF 69 (by decide))
  have b70 := hd_b (F := F) (F' := F') (k := 70) (hF 70 (by decide))
  have b71 := hd_b (F := F) (F' := F') (k := 71) (hF 71 (by decide))
  have hB' : iv_in F' iv_B4 := iv_in_eq hB (fun j hj => hF j (Nat.lt_of_lt_of_le hj (by decide +kernel)))
  refine ⟨List.forall_mem_cons.mpr ⟨hd_p0 b6 rfl (by have hc : ((0) : Int32).toInt = 0 := (by decide); omega), List.forall_mem_cons.mpr ⟨hd_pb b4 (by first | exact h1 | exact h1), List.forall_mem_cons.mpr ⟨hd_p0 t72 rfl (by have hc : ((32) : Int32).toInt = 32 := (by decide); omega), List.forall_mem_cons.mpr ⟨hd_p0 b4 rfl (by have hc : ((400) : Int32).toInt = 400 := (by decide); omega), List.forall_mem_cons.mpr ⟨hd_p4 b6 rfl (by have hc : ((0) : Int32).toInt = 0 := (by decide); omega), List.forall_mem_cons.mpr ⟨hd_pb b4 (by first | exact h5 | exact h5), fun _ h => absurd h List.not_mem_nil⟩⟩⟩⟩⟩⟩, ?_⟩
  refine k _ ?_ ?_ ?_ ?_ ?_ ?_
  · exact fun j hj hn => (hd_keep hB' (Nat.lt_of_lt_of_le hj (by decide +kernel)) (by simp; omega)).trans (hF j (by omega))
  · exact hd_gi (x := .inl (.int 2)) (by decide +kernel) rfl
  · exact hd_gi (x := .inr (.inl 73)) (by decide +kernel) t73
  · exact hd_gi (x := .inr (.inl 69)) (by decide +kernel) b69
  · exact hd_gi (x := .inr (.inl 70)) (by decide +kernel) b70
  · exact hd_gi (x := .inr (.inl 71)) (by decide +kernel) b71
theorem tl_110 {Ls : Nat} {xs : Nat → Int32} {d : Nat} {Q : Option Value → jm_h → Prop} (hd : 4 ≤ d) (F : Nat → sy_d) (X1 X2 : List jm_c) (hB : iv_in F iv_B4)
    (k0 : (sy_i F 6).toInt ≠ 0 → 0 < (sy_i F 6).toInt → ∀ F1 : Nat → sy_d, iv_in F1 iv_B4 → (∀ j, j < 69 → j ∉ ([] : List Nat) → F1 j = F j) → (sy_i F1 4).toInt = (sy_i F 4).toInt → (sy_i F1 5).toInt = (sy_i F 5).toInt → (sy_i F1 6).toInt = (sy_i F 6).toInt → (sy_i F1 11).toInt = (sy_i F 11).toInt → (sy_i F1 12).toInt = (sy_i F 12).toInt → (sy_i F1 14).toInt = (sy_i F 14).toInt → (sy_i F1 15).toInt = (sy_i F 15).toInt → (sy_i F1 16).toInt = (sy_i F 16).toInt → sy_ai F1 42 = sy_ai F 42 → sy_ai F1 43 = sy_ai F 43 → sy_ai F1 44 = sy_ai F 44 → sy_ai F1 45 = sy_ai F 45 → sy_ai F1 46 = sy_ai F 46 → sy_ai F1 47 = sy_ai F 47 → sy_ai F1 48 = sy_ai F 48 → sy_ai F1 49 = sy_ai F 49 → sy_ai F1 50 = sy_ai F 50 → (sy_i F1 69).toInt = (sy_i F 69).toInt → (sy_i F1 70).toInt = (sy_i F 70).toInt → (sy_i F1 71).toInt = (sy_i F 71).toInt → hd_W Ls xs d jm_M160 Q (117, sy_dL F1 [some (.inl (.ref 1000)), some (.inr (.inl 69)), some (.inr (.inl 70)), some (.inr (.inl 71))], sy_dS F1 [.inl (.ref 1000)], sy_dh F1 X1 X2 (iv_H 4), 0, 0))
    (k1 : (sy_i F 6).toInt = 0 → ((sy_ai F 25).getD ((sy_i F 4).toInt).toNat 0).toInt ≠ 32 → (sy_i F 6).toInt ≤ 0 → ∀ F1 : Nat → sy_d, iv_in F1 iv_B4 → (∀ j, j < 69 → j ∉ ([6, 7] : List Nat) → F1 j = F j) → (sy_i F1 4).toInt = (sy_i F 4).toInt → (sy_i F1 5).toInt = (sy_i F 5).toInt → (sy_i F1 6).toInt = 1 → (sy_i F1 11).toInt = (sy_i F 11).toInt → (sy_i F1 12).toInt = (sy_i F 12).toInt → (sy_i F1 14).toInt = (sy_i F 14).toInt → (sy_i F1 15).toInt = (sy_i F 15).toInt → (sy_i F1 16).toInt = (sy_i F 16).toInt → sy_ai F1 42 = sy_ai F 42 → sy_ai F1 43 = sy_ai F 43 → sy_ai F1 44 = sy_ai F 44 → sy_ai F1 45 = sy_ai F 45 → sy_ai F1 46 = sy_ai F 46 → sy_ai F1 47 = sy_ai F 47 → sy_ai F1 48 = sy_ai F 48 → sy_ai F1 49 = sy_ai F 49 → sy_ai F1 50 = sy_ai F 50 → (sy_i F1 69).toInt = (sy_i F 69).toInt → (sy_i F1 70).toInt = (sy_i F 70).toInt → (sy_i F1 71).toInt = (sy_i F 71).toInt → hd_W Ls xs d jm_M160 Q (117, sy_dL F1 [some (.inl (.ref 1000)), some (.inr (.inl 69)), some (.inr (.inl 70)), some (.inr (.inl 71))], sy_dS F1 [.inl (.ref 1000)], sy_dh F1 X1 X2 (iv_H 4), 0, 0))
    (k2 : (sy_i F 6).toInt = 0 → ((sy_ai F 25).getD ((sy_i F 4).toInt).toNat 0).toInt = 32 → (sy_i F 4).toInt ≠ 400 → ∀ F1 : Nat → sy_d, iv_in F1 iv_B4 → (∀ j, j < 69 → j ∉ ([4] : List Nat) → F1 j = F j) → (sy_i F1 4).toInt = ((sy_i F 4).toInt + 1) → (sy_i F1 5).toInt = (sy_i F 5).toInt → (sy_i F1 6).toInt = (sy_i F 6).toInt → (sy_i F1 11).toInt = (sy_i F 11).toInt → (sy_i F1 12).toInt = (sy_i F 12).toInt → (sy_i F1 14).toInt = (sy_i F 14).toInt → (sy_i F1 15).toInt = (sy_i F 15).toInt → (sy_i F1 16).toInt = (sy_i F 16).toInt → sy_ai F1 42 = sy_ai F 42 → sy_ai F1 43 = sy_ai F 43 → sy_ai F1 44 = sy_ai F 44 → sy_ai F1 45 = sy_ai F 45 → sy_ai F1 46 = sy_ai F 46 → sy_ai F1 47 = sy_ai F 47 → sy_ai F1 48 = sy_ai F 48 → sy_ai F1 49 = sy_ai F 49 → sy_ai F1 50 = sy_ai F 50 → (sy_i F1 69).toInt = (sy_i F 69).toInt → (sy_i F1 70).toInt = (sy_i F 70).toInt → (sy_i F1 71).toInt = (sy_i F 71).toInt → hd_W Ls xs d jm_M160 Q (117, sy_dL F1 [some (.inl (.ref 1000)), some (.inr (.inl 69)), some (.inr (.inl 70)), some (.inr (.inl 71))], sy_dS F1 [.inl (.ref 1000)], sy_dh F1 X1 X2 (iv_H 4), 0, 0))
    (k3 : (sy_i F 6).toInt = 0 → ((sy_ai F 25).getD ((sy_i F 4).toInt).toNat 0).toInt = 32 → (sy_i F 4).toInt = 400 → (sy_i F 6).toInt ≤ 0 → ∀ F1 : Nat → sy_d, iv_in F1 iv_B4 → (∀ j, j < 69 → j ∉ ([6, 7] : List Nat) → F1 j = F j) → (sy_i F1 4).toInt = (sy_i F 4).toInt → (sy_i F1 5).toInt = (sy_i F 5).toInt → (sy_i F1 6).toInt = 2 → (sy_i F1 11).toInt = (sy_i F 11).toInt → (sy_i F1 12).toInt = (sy_i F 12).toInt → (sy_i F1 14).toInt = (sy_i F 14).toInt → (sy_i F1 15).toInt = (sy_i F 15).toInt → (sy_i F1 16).toInt = (sy_i F 16).toInt → sy_ai F1 42 = sy_ai F 42 → sy_ai F1 43 = sy_ai F 43 → sy_ai F1 44 = sy_ai F 44 → sy_ai F1 45 = sy_ai F 45 → sy_ai F1 46 = sy_ai F 46 → sy_ai F1 47 = sy_ai F 47 → sy_ai F1 48 = sy_ai F 48 → sy_ai F1 49 = sy_ai F 49 → sy_ai F1 50 = sy_ai F 50 → (sy_i F1 69).toInt = (sy_i F 69).toInt → (sy_i F1 70).toInt = (sy_i F 70).toInt → (sy_i F1 71).toInt = (sy_i F 71).toInt → hd_W Ls xs d jm_M160 Q (117, sy_dL F1 [some (.inl (.ref 1000)), some (.inr (.inl 69)), some (.inr (.inl 70)), some (.inr (.inl 71))], sy_dS F1 [.inl (.ref 1000)], sy_dh F1 X1 X2 (iv_H 4), 0, 0)) :
    hd_W Ls xs d jm_M160 Q (110, sy_dL F [some (.inl (.ref 1000)), some (.inr (.inl 69)), some (.inr (.inl 70)), some (.inr (.inl 71))], sy_dS F [], sy_dh F X1 X2 (iv_H 4), 0, 0) := by
  by_cases g0 : (sy_i F 6).toInt ≠ 0
  · by_cases g1 : (sy_i F 6).toInt ≤ 0
    · have c6 := nz_bx hB (k := 6) (lo := 0) (hi := 2) rfl
      exfalso
      omega
    replace g1 : 0 < (sy_i F 6).toInt := by omega
    have c6 := nz_bx hB (k := 6) (lo := 0) (hi := 2) rfl
    exact tl_110_p0 hd F X1 X2 hB (by first | exact g0 | (simp only [nz_c]; exact g0)) (by first | exact g1 | (simp only [nz_c]; exact g1)) (fun F1 g e69 e70 e71 => k0 g0 g1 F1 (nz_in hB [] (fun j hj hn => g j hj (by simp only [List.mem_cons, List.not_mem_nil, or_false, not_or] at hn; exact trivial)) (List.forall_mem_nil _)) (fun j hj hn => g j hj (by simp only [List.mem_cons, List.not_mem_nil, or_false, not_or] at hn; exact trivial)) (nz_fi (g 4 (by decide) (by decide))) (nz_fi (g 5 (by decide) (by decide))) (nz_fi (g 6 (by decide) (by decide))) (nz_fi (g 11 (by decide) (by decide))) (nz_fi (g 12 (by decide) (by decide))) (nz_fi (g 14 (by decide) (by decide))) (nz_fi (g 15 (by decide) (by decide))) (nz_fi (g 16 (by decide) (by decide))) (nz_fa (g 42 (by decide) (by decide))) (nz_fa (g 43 (by decide) (by decide))) (nz_fa (g 44 (by decide) (by decide))) (nz_fa (g 45 (by decide) (by decide))) (nz_fa (g 46 (by decide) (by decide))) (nz_fa (g 47 (by decide) (by decide))) (nz_fa (g 48 (by decide) (by decide))) (nz_fa (g 49 (by decide) (by decide))) (nz_fa (g 50 (by decide) (by decide))) ((congrArg Int32.toInt (zz_i e69)).trans (rfl : (sy_i F 69).toInt = (sy_i F 69).toInt)) ((congrArg Int32.toInt (zz_i e70)).trans (rfl : (sy_i F 70).toInt = (sy_i F 70).toInt)) ((congrArg Int32.toInt (zz_i e71)).trans (rfl : (sy_i F 71).toInt = (sy_i F 71).toInt)))
  replace g0 : (sy_i F 6).toInt = 0 := by omega
  by_cases g1 : ((sy_ai F 25).getD ((sy_i F 4).toInt).toNat 0).toInt ≠ 32
  · by_cases g2 : (sy_i F 6).toInt ≤ 0
    · have c6 := nz_bx hB (k := 6) (lo := 0) (hi := 2) rfl
      have c4 := nz_bx hB (k := 4) (lo := 0) (hi := 400) rfl
      have q72 : (sy_ai F 25).getD (sy_i F 4).toNatClampNeg 0 = (sy_ai F 25).getD ((sy_i F 4).toInt).toNat 0 := by simp only [nz_c]
      have n72 : ((sy_ai F 25).getD (sy_i F 4).toNatClampNeg 0).toInt = ((sy_ai F 25).getD ((sy_i F 4).toInt).toNat 0).toInt := congrArg Int32.toInt q72
      have r72 := nz_ba hB (k := 25) (lo := 0) (hi := 42) rfl ((sy_i F 4).toInt).toNat
      have q73 : (sy_ai F 26).getD (sy_i F 4).toNatClampNeg 0 = (sy_ai F 26).getD ((sy_i F 4).toInt).toNat 0 := by simp only [nz_c]
      have n73 : ((sy_ai F 26).getD (sy_i F 4).toNatClampNeg 0).toInt = ((sy_ai F 26).getD ((sy_i F 4).toInt).toNat 0).toInt := congrArg Int32.toInt q73
      exact tl_110_p1 hd F X1 X2 hB (by first | exact g0 | (simp only [nz_c]; exact g0)) (by first | exact ⟨by omega, by omega⟩ | (simp only [nz_c]; exact ⟨by omega, by omega⟩)) (by first | exact g1 | (simp only [nz_c]; exact g1) | (rw [n72]; exact g1)) (by first | exact g2 | (simp only [nz_c]; exact g2)) (by first | exact ⟨by omega, by omega⟩ | (simp only [nz_c]; exact ⟨by omega, by omega⟩)) (fun F1 g e6 e7 e69 e70 e71 => k1 g0 g1 g2 F1 (nz_in hB [6, 7] (fun j hj hn => g j hj (by simp only [List.mem_cons, List.not_mem_nil, or_false, not_or] at hn; omega)) (List.forall_mem_cons.mpr ⟨fun t ht => (Option.some.inj ht) ▸ (nz_hi e6 (by decide : ((1 : Int32)).toInt = 1) (by omega) (by omega)), List.forall_mem_cons.mpr ⟨fun t ht => (Option.some.inj ht) ▸ (nz_hz e7), List.forall_mem_nil _⟩⟩)) (fun j hj hn => g j hj (by simp only [List.mem_cons, List.not_mem_nil, or_false, not_or] at hn; omega)) (nz_fi (g 4 (by decide) (by decide))) (nz_fi (g 5 (by decide) (by decide))) ((congrArg Int32.toInt (zz_i e6)).trans (by decide : ((1 : Int32)).toInt = 1)) (nz_fi (g 11 (by decide) (by decide))) (nz_fi (g 12 (by decide) (by decide))) (nz_fi (g 14 (by decide) (by decide))) (nz_fi (g 15 (by decide) (by decide))) (nz_fi (g 16 (by decide) (by decide))) (nz_fa (g 42 (by decide) (by decide))) (nz_fa (g 43 (by decide) (by decide))) (nz_fa (g 44 (by decide) (by decide))) (nz_fa (g 45 (by decide) (by decide))) (nz_fa (g 46 (by decide) (by decide))) (nz_fa (g 47 (by decide) (by decide))) (nz_fa (g 48 (by decide) (by decide))) (nz_fa (g 49 (by decide) (by decide))) (nz_fa (g 50 (by decide) (by decide))) ((congrArg Int32.toInt (zz_i e69)).trans (rfl : (sy_i F 69).toInt = (sy_i F 69).toInt)) ((congrArg Int32.toInt (zz_i e70)).trans (rfl : (sy_i F 70).toInt = (sy_i F 70).toInt)) ((congrArg Int32.toInt (zz_i e71)).trans (rfl : (sy_i F 71).toInt = (sy_i F 71).toInt)))
    replace g2 : 0 < (sy_i F 6).toInt := by omega
    have c6 := nz_bx hB (k := 6) (lo := 0) (hi := 2) rfl
    have c4 := nz_bx hB (k := 4) (lo := 0) (hi := 400) rfl
    have q72 : (sy_ai F 25).getD (sy_i F 4).toNatClampNeg 0 = (sy_ai F 25).getD ((sy_i F 4).toInt).toNat 0 := by simp only [nz_c]
    have n72 : ((sy_ai F 25).getD (sy_i F 4).toNatClampNeg 0).toInt = ((sy_ai F 25).getD ((sy_i F 4).toInt).toNat 0).toInt := congrArg Int32.toInt q72
    have r72 := nz_ba hB (k := 25) (lo := 0) (hi := 42) rfl ((sy_i F 4).toInt).toNat
    exfalso
    omega
  replace g1 : ((sy_ai F 25).getD ((sy_i F 4).toInt).toNat 0).toInt = 32 := by omega
  by_cases g2 : (sy_i F 4).toInt ≠ 400
  · have c6 := nz_bx hB (k := 6) (lo := 0) (hi := 2) rfl
    have c4 := nz_bx hB (k := 4) (lo := 0) (hi := 400) rfl
    have q72 : (sy_ai F 25).getD (sy_i F 4).toNatClampNeg 0 = (sy_ai F 25).getD ((sy_i F 4).toInt).toNat 0 := by simp only [nz_c]
    have n72 : ((sy_ai F 25).getD (sy_i F 4).toNatClampNeg 0).toInt = ((sy_ai F 25).getD ((sy_i F 4).toInt).toNat 0).toInt := congrArg Int32.toInt q72
    have r72 := nz_ba hB (k := 25) (lo := 0) (hi := 42) rfl ((sy_i F 4).toInt).toNat
    have n73 : ((sy_i F 4) + ((1 : Int32))).toInt = ((sy_i F 4).toInt + 1) := nz_add (rfl : (sy_i F 4).toInt = (sy_i F 4).toInt) (by decide : ((1 : Int32)).toInt = 1) (by omega) (by omega)
    exact tl_110_p2 hd F X1 X2 hB (by first | exact g0 | (simp only [nz_c]; exact g0)) (by first | exact ⟨by omega, by omega⟩ | (simp only [nz_c]; exact ⟨by omega, by omega⟩)) (by first | exact g1 | (simp only [nz_c]; exact g1) | (rw [n72]; exact g1)) (by first | exact g2 | (simp only [nz_c]; exact g2)) (fun F1 g e4 e69 e70 e71 => k2 g0 g1 g2 F1 (nz_in hB [4] (fun j hj hn => g j hj (by simp only [List.mem_cons, List.not_mem_nil, or_false, not_or] at hn; omega)) (List.forall_mem_cons.mpr ⟨fun t ht => (Option.some.inj ht) ▸ (nz_hi e4 n73 (by omega) (by omega)), List.forall_mem_nil _⟩)) (fun j hj hn => g j hj (by simp only [List.mem_cons, List.not_mem_nil, or_false, not_or] at hn; omega)) ((congrArg Int32.toInt (zz_i e4)).trans n73) (nz_fi (g 5 (by decide) (by decide))) (nz_fi (g 6 (by decide) (by decide))) (nz_fi (g 11 (by decide) (by decide))) (nz_fi (g 12 (by decide) (by decide))) (nz_fi (g 14 (by decide) (by decide))) (nz_fi (g 15 (by decide) (by decide))) (nz_fi (g 16 (by decide) (by decide))) (nz_fa (g 42 (by decide) (by decide))) (nz_fa (g 43 (by decide) (by decide))) (nz_fa (g 44 (by decide) (by decide))) (nz_fa (g 45 (by decide) (by decide))) (nz_fa (g 46 (by decide) (by decide))) (nz_fa (g 47 (by decide) (by decide))) (nz_fa (g 48 (by decide) (by decide))) (nz_fa (g 49 (by decide) (by decide))) (nz_fa (g 50 (by decide) (by decide))) ((congrArg Int32.toInt (zz_i e69)).trans (rfl : (sy_i F 69).toInt = (sy_i F 69).toInt)) ((congrArg Int32.toInt (zz_i e70)).trans (rfl : (sy_i F 70).toInt = (sy_i F 70).toInt)) ((congrArg Int32.toInt (zz_i e71)).trans (rfl : (sy_i F 71).toInt = (sy_i F 71).toInt)))
  replace g2 : (sy_i F 4).toInt = 400 := by omega
  by_cases g3 : (sy_i F 6).toInt ≤ 0
  · have c6 := nz_bx hB (k := 6) (lo := 0) (hi := 2) rfl
    have c4 := nz_bx hB (k := 4) (lo := 0) (hi := 400) rfl
    have q72 : (sy_ai F 25).getD (sy_i F 4).toNatClampNeg 0 = (sy_ai F 25).getD ((sy_i F 4).toInt).toNat 0 := by simp only [nz_c]
    have n72 : ((sy_ai F 25).getD (sy_i F 4).toNatClampNeg 0).toInt = ((sy_ai F 25).getD ((sy_i F 4).toInt).toNat 0).toInt := congrArg Int32.toInt q72
    have r72 := nz_ba hB (k := 25) (lo := 0) (hi := 42) rfl ((sy_i F 4).toInt).toNat
    have q73 : (sy_ai F 26).getD (sy_i F 4).toNatClampNeg 0 = (sy_ai F 26).getD ((sy_i F 4).toInt).toNat 0 := by simp only [nz_c]
    have n73 : ((sy_ai F 26).getD (sy_i F 4).toNatClampNeg 0).toInt = ((sy_ai F 26).getD ((sy_i F 4).toInt).toNat 0).toInt := congrArg Int32.toInt q73
    exact tl_110_p3 hd F X1 X2 hB (by first | exact g0 | (simp only [nz_c]; exact g0)) (by first | exact ⟨by omega, by omega⟩ | (simp only [nz_c]; exact ⟨by omega, by omega⟩)) (by first | exact g1 | (simp only [nz_c]; exact g1) | (rw [n72]; exact g1)) (by first | exact g2 | (simp only [nz_c]; exact g2)) (by first | exact g3 | (simp only [nz_c]; exact g3)) (by first | exact ⟨by omega, by omega⟩ | (simp only [nz_c]; exact ⟨by omega, by omega⟩)) (fun F1 g e6 e7 e69 e70 e71 => k3 g0 g1 g2 g3 F1 (nz_in hB [6, 7] (fun j hj hn => g j hj (by simp only [List.mem_cons, List.not_mem_nil, or_false, not_or] at hn; omega)) (List.forall_mem_cons.mpr ⟨fun t ht => (Option.some.inj ht) ▸ (nz_hi e6 (by decide : ((2 : Int32)).toInt = 2) (by omega) (by omega)), List.forall_mem_cons.mpr ⟨fun t ht => (Option.some.inj ht) ▸ (nz_hz e7), List.forall_mem_nil _⟩⟩)) (fun j hj hn => g j hj (by simp only [List.mem_cons, List.not_mem_nil, or_false, not_or] at hn; omega)) (nz_fi (g 4 (by decide) (by decide))) (nz_fi (g 5 (by decide) (by decide))) ((congrArg Int32.toInt (zz_i e6)).trans (by decide : ((2 : Int32)).toInt = 2)) (nz_fi (g 11 (by decide) (by decide))) (nz_fi (g 12 (by decide) (by decide))) (nz_fi (g 14 (by decide) (by decide))) (nz_fi (g 15 (by decide) (by decide))) (nz_fi (g 16 (by decide) (by decide))) (nz_fa (g 42 (by decide) (by decide))) (nz_fa (g 43 (by decide) (by decide))) (nz_fa (g 44 (by decide) (by decide))) (nz_fa (g 45 (by decide) (by decide))) (nz_fa (g 46 (by decide) (by decide))) (nz_fa (g 47 (by decide) (by decide))) (nz_fa (g 48 (by decide) (by decide))) (nz_fa (g 49 (by decide) (by decide))) (nz_fa (g 50 (by decide) (by decide))) ((congrArg Int32.toInt (zz_i e69)).trans (rfl : (sy_i F 69).toInt = (sy_i F 69).toInt)) ((congrArg Int32.toInt (zz_i e70)).trans (rfl : (sy_i F 70).toInt = (sy_i F 70).toInt)) ((congrArg Int32.toInt (zz_i e71)).trans (rfl : (sy_i F 71).toInt = (sy_i F 71).toInt)))
  replace g3 : 0 < (sy_i F 6).toInt := by omega
  have c6 := nz_bx hB (k := 6) (lo := 0) (hi := 2) rfl
  have c4 := nz_bx hB (k := 4) (lo := 0) (hi := 400) rfl
  have q72 : (sy_ai F 25).getD (sy_i F 4).toNatClampNeg 0 = (sy_ai F 25).getD ((sy_i F 4).toInt).toNat 0 := by simp only [nz_c]
  have n72 : ((sy_ai F 25).getD (sy_i F 4).toNatClampNeg 0).toInt = ((sy_ai F 25).getD ((sy_i F 4).toInt).toNat 0).toInt := congrArg Int32.toInt q72
  have r72 := nz_ba hB (k := 25) (lo := 0) (hi := 42) rfl ((sy_i F 4).toInt).toNat
  exfalso
  omega
theorem tl_120_p0 {Ls : Nat} {xs : Nat → Int32} {d : Nat} {Q : Option Value → jm_h → Prop} (hd : 4 ≤ d) (F : Nat → sy_d) (X1 X2 : List jm_c) (hB : iv_in F iv_B4)
    (h0 : (sy_i F 6).toInt ≠ 0)
    (h1 : 0 < (sy_i F 6).toInt)
    (k : ∀ F1 : Nat → sy_d, (∀ j, j < 69 → True → F1 j = F j) → F1 69 = .inl (.int (sy_i F 69)) → F1 70 = .inl (.int (sy_i F 70)) → F1 71 = .inl (.int (sy_i F 71)) → hd_W Ls xs d jm_M160 Q (12, sy_dL F1 [some (.inl (.ref 1000)), some (.inr (.inl 69)), some (.inr (.inl 70)), some (.inr (.inl 71))], sy_dS F1 [], sy_dh F1 X1 X2 (iv_H 4), 0, 0)) :
    hd_W Ls xs d jm_M160 Q (120, sy_dL F [some (.inl (.ref 1000)), some (.inr (.inl 69)), some (.inr (.inl 70)), some (.inr (.inl 71))], sy_dS F [], sy_dh F X1 X2 (iv_H 4), 0, 0) := by
  refine hd_run (s := 4) (nv := 72) (pc := 12) (L := [some (.inl (.ref 1000)), some (.inr (.inl 69)), some (.inr (.inl 70)), some (.inr (.inl 71))]) (S := []) (uh := hd_ov (iv_id 0 iv_B4) []) (ul := [.inl (.inr (.inl 69)), .inl (.inr (.inl 70)), .inl (.inr (.inl 71))]) (f := false) (sp := [12]) (d0 := 3) (O := [true, false]) (T := []) (P := [(1, .inr (.inl 6), .inl (.int 0)), (5, .inr (.inl 6), .inl (.int 0))]) jm_ok160 (by decide +kernel) (by decide +kernel) hd F X1 X2 (fun F' hF hs => ?_)
  have b6 := hd_b (F := F) (F' := F') (k := 6) (hF 6 (by decide))
  have b69 := hd_b (F := F) (F' := F') (k := 69) (hF 69 (by decide))
  have b70 := hd_b (F := F) (F' := F') (k := 70) (hF 70 (by decide))
  have b71 := hd_b (F := F) (F' := F') (k := 71) (hF 71 (by decide))
  have hB' : iv_in F' iv_B4 := iv_in_eq hB (fun j hj => hF j (Nat.lt_of_lt_of_le hj (by decide +kernel)))
  refine ⟨List.forall_mem_cons.mpr ⟨hd_p1 b6 rfl (by have hc : ((0) : Int32).toInt = 0 := (by decide); omega), List.forall_mem_cons.mpr ⟨hd_p5 b6 rfl (by have hc : ((0) : Int32).toInt = 0 := (by decide); omega), fun _ h => absurd h List.not_mem_nil⟩⟩, ?_⟩
  refine k _ ?_ ?_ ?_ ?_
  · exact fun j hj _ => (hd_keep hB' (Nat.lt_of_lt_of_le hj (by decide +kernel)) (by simp)).trans (hF j (by omega))
  · exact hd_gi (x := .inr (.inl 69)) (by decide +kernel) b69
  · exact hd_gi (x := .inr (.inl 70)) (by decide +kernel) b70
  · exact hd_gi (x := .inr (.inl 71)) (by decide +kernel) b71
theorem tl_120_p1 {Ls : Nat} {xs : Nat → Int32} {d : Nat} {Q : Option Value → jm_h → Prop} (hd : 4 ≤ d) (F : Nat → sy_d) (X1 X2 : List jm_c) (hB : iv_in F iv_B4)
    (h0 : (sy_i F 6).toInt = 0)
    (h1 : 0 ≤ (sy_i F 4).toInt ∧ (sy_i F 4).toInt < 403)
    (h2 : ((sy_ai F 25).getD (sy_i F 4).toNatClampNeg 0).toInt ≠ 33)
    (h3 : (sy_i F 6).toInt ≤ 0)
    (h4 : 0 ≤ (sy_i F 4).toInt ∧ (sy_i F 4).toInt < 403)
    (k : ∀ F1 : Nat → sy_d, (∀ j, j < 69 → j ≠ 6 ∧ j ≠ 7 → F1 j = F j) → F1 6 = .inl (.int ((1 : Int32))) → F1 7 = .inl (.int ((sy_ai F 26).getD (sy_i F 4).toNatClampNeg 0)) → F1 69 = .inl (.int (sy_i F 69)) → F1 70 = .inl (.int (sy_i F 70)) → F1 71 = .inl (.int (sy_i F 71)) → hd_W Ls xs d jm_M160 Q (12, sy_dL F1 [some (.inl (.ref 1000)), some (.inr (.inl 69)), some (.inr (.inl 70)), some (.inr (.inl 71))], sy_dS F1 [], sy_dh F1 X1 X2 (iv_H 4), 0, 0)) :
    hd_W Ls xs d jm_M160 Q (120, sy_dL F [some (.inl (.ref 1000)), some (.inr (.inl 69)), some (.inr (.inl 70)), some (.inr (.inl 71))], sy_dS F [], sy_dh F X1 X2 (iv_H 4), 0, 0) := by
  refine hd_run (s := 4) (nv := 72) (pc := 12) (L := [some (.inl (.ref 1000)), some (.inr (.inl 69)), some (.inr (.inl 70)), some (.inr (.inl 71))]) (S := []) (uh := hd_ov (iv_id 0 iv_B4) [(6, .inl (.inl (.int 1))), (7, .inl (.inr (.inl 73)))]) (ul := [.inl (.inr (.inl 69)), .inl (.inr (.inl 70)), .inl (.inr (.inl 71))]) (f := false) (sp := [12]) (d0 := 3) (O := [false, true, true]) (T := [(30, [.inr (.inl 4)], [.inr (.inl 25)]), (30, [.inr (.inl 4)], [.inr (.inl 26)])]) (P := [(0, .inr (.inl 6), .inl (.int 0)), (6, .inr (.inl 4), .inl (.ref 403)), (1, .inr (.inl 72), .inl (.int 33)), (4, .inr (.inl 6), .inl (.int 0)), (6, .inr (.inl 4), .inl (.ref 403))]) jm_ok160 (by decide +kernel) (by decide +kernel) hd F X1 X2 (fun F' hF hs => ?_)
  have b6 := hd_b (F := F) (F' := F') (k := 6) (hF 6 (by decide))
  have b4 := hd_b (F := F) (F' := F') (k := 4) (hF 4 (by decide))
  have a25 := hd_ba (F := F) (F' := F') (k := 25) (hF 25 (by decide))
  have t72 : sy_dv F' (.inr (.inl 72)) = .int ((sy_ai F 25).getD (sy_i F 4).toNatClampNeg 0) := hd_rd (hs 0 _ rfl) b4 a25
  have a26 := hd_ba (F := F) (F' := F') (k := 26) (hF 26 (by decide))
  have t73 : sy_dv F' (.inr (.inl 73)) = .int ((sy_ai F 26).getD (sy_i F 4).toNatClampNeg 0) := hd_rd (hs 1 _ rfl) b4 a26
  have b69 := hd_b (F := F) (F' := F') (k := 69) (hF 69 (by decide))
  have b70 := hd_b (F := F) (F' := F') (k := 70) (hF 70 (by decide))
  have b71 := hd_b (F := F) (F' := F') (k := 71) (hF 71 (by decide))
  have hB' : iv_in F' iv_B4 := iv_in_eq hB (fun j hj => hF j (Nat.lt_of_lt_of_le hj (by decide +kernel)))
  refine ⟨List.forall_mem_cons.mpr ⟨hd_p0 b6 rfl (by have hc : ((0) : Int32).toInt = 0 := (by decide); omega), List.forall_mem_cons.mpr ⟨hd_pb b4 (by first | exact h1 | exact h1), List.forall_mem_cons.mpr ⟨hd_p1 t72 rfl (by have hc : ((33) : Int32).toInt = 33 := (by decide); omega), List.forall_mem_cons.mpr ⟨hd_p4 b6 rfl (by have hc : ((0) : Int32).toInt = 0 := (by decide); omega), List.forall_mem_cons.mpr ⟨hd_pb b4 (by first | exact h4 | exact h4), fun _ h => absurd h List.not_mem_nil⟩⟩⟩⟩⟩, ?_⟩
  refine k _ ?_ ?_ ?_ ?_ ?_ ?_
  · exact fun j hj hn => (hd_keep hB' (Nat.lt_of_lt_of_le hj (by decide +kernel)) (by simp; omega)).trans (hF j (by omega))
  · exact hd_gi (x := .inl (.int 1)) (by decide +kernel) rfl
  · exact hd_gi (x := .inr (.inl 73)) (by decide +kernel) t73
  · exact hd_gi (x := .inr (.inl 69)) (by decide +kernel) b69
  · exact hd_gi (x := .inr (.inl 70)) (by decide +kernel) b70
  · exact hd_gi (x := .inr (.inl 71)) (by decide +kernel) b71
theorem tl_120_p2 {Ls : Nat} {xs : Nat → Int32} {d : Nat} {Q : Option Value → jm_h → Prop} (hd : 4 ≤ d) (F : Nat → sy_d) (X1 X2 : List jm_c) (hB : iv_in F iv_B4)
    (h0 : (sy_i F 6).toInt = 0)
    (h1 : 0 ≤ (sy_i F 4).toInt ∧ (sy_i F 4).toInt < 403)
    (h2 : ((sy_ai F 25).getD (sy_i F 4).toNatClampNeg 0).toInt = 33)
    (h3 : (sy_i F 4).toInt ≠ 400)
    (k : ∀ F1 : Nat → sy_d, (∀ j, j < 69 → j ≠ 4 → F1 j = F j) → F1 4 = .inl (.int ((sy_i F 4) + ((1 : Int32)))) → F1 69 = .inl (.int (sy_i F 69)) → F1 70 = .inl (.int (sy_i F 70)) → F1 71 = .inl (.int (sy_i F 71)) → hd_W Ls xs d jm_M160 Q (12, sy_dL F1 [some (.inl (.ref 1000)), some (.inr (.inl 69)), some (.inr (.inl 70)), some (.inr (.inl 71))], sy_dS F1 [], sy_dh F1 X1 X2 (iv_H 4), 0, 0)) :
    hd_W Ls xs d jm_M160 Q (120, sy_dL F [some (.inl (.ref 1000)), some (.inr (.inl 69)), some (.inr (.inl 70)), some (.inr (.inl 71))], sy_dS F [], sy_dh F X1 X2 (iv_H 4), 0, 0) := by
  refine hd_run (s := 4) (nv := 72) (pc := 12) (L := [some (.inl (.ref 1000)), some (.inr (.inl 69)), some (.inr (.inl 70)), some (.inr (.inl 71))]) (S := []) (uh := hd_ov (iv_id 0 iv_B4) [(4, .inl (.inr (.inl 73)))]) (ul := [.inl (.inr (.inl 69)), .inl (.inr (.inl 70)), .inl (.inr (.inl 71))]) (f := false) (sp := [12]) (d0 := 3) (O := [false, false, true]) (T := [(30, [.inr (.inl 4)], [.inr (.inl 25)]), (0, [.inr (.inl 4), .inl (.int 1)], [])]) (P := [(0, .inr (.inl 6), .inl (.int 0)), (6, .inr (.inl 4), .inl (.ref 403)), (0, .inr (.inl 72), .inl (.int 33)), (1, .inr (.inl 4), .inl (.int 400))]) jm_ok160 (by decide +kernel) (by decide +kernel) hd F X1 X2 (fun F' hF hs => ?_)
  have b6 := hd_b (F := F) (F' := F') (k := 6) (hF 6 (by decide))
  have b4 := hd_b (F := F) (F' := F') (k := 4) (hF 4 (by decide))
  have a25 := hd_ba (F := F) (F' := F') (k := 25) (hF 25 (by decide))
  have t72 : sy_dv F' (.inr (.inl 72)) = .int ((sy_ai F 25).getD (sy_i F 4).toNatClampNeg 0) := hd_rd (hs 0 _ rfl) b4 a25
  have t73 : sy_dv F' (.inr (.inl 73)) = .int ((sy_i F 4) + ((1 : Int32))) := hd_o (hs 1 _ rfl) b4 rfl rfl
  have b69 := hd_b (F := F) (F' := F') (k := 69) (hF 69 (by decide))
  have b70 := hd_b (F := F) (F' := F') (k := 70) (hF 70 (by decide))
  have b71 := hd_b (F := F) (F' := F') (k := 71) (hF 71 (by decide))
  have hB' : iv_in F' iv_B4 := iv_in_eq hB (fun j hj => hF j (Nat.lt_of_lt_of_le hj (by decide +kernel)))
  refine ⟨List.forall_mem_cons.mpr ⟨hd_p0 b6 rfl (by have hc : ((0) : Int32).toInt = 0 := (by decide); omega), List.forall_mem_cons.mpr ⟨hd_pb b4 (by first | exact h1 | exact h1), List.forall_mem_cons.mpr ⟨hd_p0 t72 rfl (by have hc : ((33) : Int32).toInt = 33 := (by decide); omega), List.forall_mem_cons.mpr ⟨hd_p1 b4 rfl (by have hc : ((400) : Int32).toInt = 400 := (by decide); omega), fun _ h => absurd h List.not_mem_nil⟩⟩⟩⟩, ?_⟩
  refine k _ ?_ ?_ ?_ ?_ ?_
  · exact fun j hj hn => (hd_keep hB' (Nat.lt_of_lt_of_le hj (by decide +kernel)) (by simp; omega)).trans (hF j (by omega))
  · exact hd_gi (x := .inr (.inl 73)) (by decide +kernel) t73
  · exact hd_gi (x := .inr (.inl 69)) (by decide +kernel) b69
  · exact hd_gi (x := .inr (.inl 70)) (by decide +kernel) b70
  · exact hd_gi (x := .inr (.inl 71)) (by decide +kernel) b71
theorem tl_120_p3 {Ls : Nat} {xs : Nat → Int32} {d : Nat} {Q : Option Value → jm_h → Prop} (hd : 4 ≤ d) (F : Nat → sy_d) (X1 X2 : List jm_c) (hB : iv_in F iv_B4)
    (h0 : (sy_i F 6).toInt = 0)
    (h1 : 0 ≤ (sy_i F 4).toInt ∧ (sy_i F 4).toInt < 403)
    (h2 : ((sy_ai F 25).getD (sy_i F 4).toNatClampNeg 0).toInt = 33)
    (h3 : (sy_i F 4).toInt = 400)
    (h4 : (sy_i F 6).toInt ≤ 0)
    (h5 : 0 ≤ (sy_i F 4).toInt ∧ (sy_i F 4).toInt < 403)
    (k : ∀ F1 : Nat → sy_d, (∀ j, j < 69 → j ≠ 6 ∧ j ≠ 7 → F1 j = F j) → F1 6 = .inl (.int ((2 : Int32))) → F1 7 = .inl (.int ((sy_ai F 26).getD (sy_i F 4).toNatClampNeg 0)) → F1 69 = .inl (.int (sy_i F 69)) → F1 70 = .inl (.int (sy_i F 70)) → F1 71 = .inl (.int (sy_i F 71)) → hd_W Ls xs d jm_M160 Q (12, sy_dL F1 [some (.inl (.ref 1000)), some (.inr (.inl 69)), some (.inr (.inl 70)), some (.inr (.inl 71))], sy_dS F1 [], sy_dh F1 X1 X2 (iv_H 4), 0, 0)) :
    hd_W Ls xs d jm_M160 Q (120, sy_dL F [some (.inl (.ref 1000)), some (.inr (.inl 69)), some (.inr (.inl 70)), some (.inr (.inl 71))], sy_dS F [], sy_dh F X1 X2 (iv_H 4), 0, 0) := by
  refine hd_run (s := 4) (nv := 72) (pc := 12) (L := [some (.inl (.ref 1000)), some (.inr (.inl 69)), some (.inr (.inl 70)), some (.inr (.inl 71))]) (S := []) (uh := hd_ov (iv_id 0 iv_B4) [(6, .inl (.inl (.int 2))), (7, .inl (.inr (.inl 73)))]) (ul := [.inl (.inr (.inl 69)), .inl (.inr (.inl 70)), .inl (.inr (.inl 71))]) (f := false) (sp := [12]) (d0 := 3) (O := [false, false, false, true]) (T := [(30, [.inr (.inl 4)], [.inr (.inl 25)]), (30, [.inr (.inl 4)], [.inr (.inl 26)])]) (P := [(0, .inr (.inl 6), .inl (.int 0)), (6, .inr (.inl 4), .inl (.ref 403)), (0, .inr (.inl 72), .inl (.int 33)), (0, .inr (.inl 4), .inl (.int 400)), (4, .inr (.inl 6), .inl (.int 0)), (6, .inr (.inl 4), .inl (.ref 403))]) jm_ok160 (by decide +kernel) (by decide +kernel) hd F X1 X2 (fun F' hF hs => ?_)
  have b6 := hd_b (F := F) (F' := F') (k := 6) (hF 6 (by decide))
  have b4 := hd_b (F := F) (F' := F') (k := 4) (hF 4 (by decide))
  have a25 := hd_ba (F := F) (F' := F') (k := 25) (hF 25 (by decide))
  have t72 : sy_dv F' (.inr (.inl 72)) = .int ((sy_ai F 25).getD (sy_i F 4).toNatClampNeg 0) := hd_rd (hs 0 _ rfl) b4 a25
  have a26 := hd_ba (F := F) (F' := F') (k := 26) (hF 26 (by decide))
  have t73 : sy_dv F' (.inr (.inl 73)) = .int ((sy_ai F 26).getD (sy_i F 4).toNatClampNeg 0) := hd_rd (hs 1 _ rfl) b4 a26
  have b69 := hd_b (F := F) (F' := F') (k := 69) (hF 69 (by decide))
  have b70 := hd_b (F := F) (F' := F') (k := 70) (hF 70 (by decide))
  have b71 := hd_b (F := F) (F' := F') (k := 71) (hF 71 (by decide))
  have hB' : iv_in F' iv_B4 := iv_in_eq hB (fun j hj => hF j (Nat.lt_of_lt_of_le hj (by decide +kernel)))
  refine ⟨List.forall_mem_cons.mpr ⟨hd_p0 b6 rfl (by have hc : ((0) : Int32).toInt = 0 := (by decide); omega), List.forall_mem_cons.mpr ⟨hd_pb b4 (by first | exact h1 | exact h1), List.forall_mem_cons.mpr ⟨hd_p0 t72 rfl (by have hc : ((33) : Int32).toInt = 33 := (by decide); omega), List.forall_mem_cons.mpr ⟨hd_p0 b4 rfl (by have hc : ((400) : Int32).toInt = 400 := (by decide); omega), List.forall_mem_cons.mpr ⟨hd_p4 b6 rfl (by have hc : ((0) : Int32).toInt = 0 := (by decide); omega), List.forall_mem_cons.mpr ⟨hd_pb b4 (by first | exact h5 | exact h5), fun _ h => absurd h List.not_mem_nil⟩⟩⟩⟩⟩⟩, ?_⟩
  refine k _ ?_ ?_ ?_ ?_ ?_ ?_
  · exact fun j hj hn => (hd_keep hB' (Nat.lt_of_lt_of_le hj (by decide +kernel)) (by simp; omega)).trans (hF j (by omega))
  · exact hd_gi (x := .inl (.int 2)) (by decide +kernel) rfl
  · exact hd_gi (x := .inr (.inl 73)) (by decide +kernel) t73
  · exact hd_gi (x := .inr (.inl 69)) (by decide +kernel) b69
  · exact hd_gi (x := .inr (.inl 70)) (by decide +kernel) b70
  · exact hd_gi (x := .inr (.inl 71)) (by decide +kernel) b71
theorem tl_120 {Ls : Nat} {xs : Nat → Int32} {d : Nat} {Q : Option Value → jm_h → Prop} (hd : 4 ≤ d) (F : Nat → sy_d) (X1 X2 : List jm_c) (hB : iv_in F iv_B4)
    (k0 : (sy_i F 6).toInt ≠ 0 → 0 < (sy_i F 6).toInt → ∀ F1 : Nat → sy_d, iv_in F1 iv_B4 → (∀ j, j < 69 → j ∉ ([] : List Nat) → F1 j = F j) → (sy_i F1 4).toInt = (sy_i F 4).toInt → (sy_i F1 5).toInt = (sy_i F 5).toInt → (sy_i F1 6).toInt = (sy_i F 6).toInt → (sy_i F1 11).toInt = (sy_i F 11).toInt → (sy_i F1 12).toInt = (sy_i F 12).toInt → (sy_i F1 14).toInt = (sy_i F 14).toInt → (sy_i F1 15).toInt = (sy_i F 15).toInt → (sy_i F1 16).toInt = (sy_i F 16).toInt → sy_ai F1 42 = sy_ai F 42 → sy_ai F1 43 = sy_ai F 43 → sy_ai F1 44 = sy_ai F 44 → sy_ai F1 45 = sy_ai F 45 → sy_ai F1 46 = sy_ai F 46 → sy_ai F1 47 = sy_ai F 47 → sy_ai F1 48 = sy_ai F 48 → sy_ai F1 49 = sy_ai F 49 → sy_ai F1 50 = sy_ai F 50 → (sy_i F1 69).toInt = (sy_i F 69).toInt → (sy_i F1 70).toInt = (sy_i F 70).toInt → (sy_i F1 71).toInt = (sy_i F 71).toInt → hd_W Ls xs d jm_M160 Q (12, sy_dL F1 [some (.inl (.ref 1000)), some (.inr (.inl 69)), some (.inr (.inl 70)), some (.inr (.inl 71))], sy_dS F1 [], sy_dh F1 X1 X2 (iv_H 4), 0, 0))
    (k1 : (sy_i F 6).toInt = 0 → ((sy_ai F 25).getD ((sy_i F 4).toInt).toNat 0).toInt ≠ 33 → (sy_i F 6).toInt ≤ 0 → ∀ F1 : Nat → sy_d, iv_in F1 iv_B4 → (∀ j, j < 69 → j ∉ ([6, 7] : List Nat) → F1 j = F j) → (sy_i F1 4).toInt = (sy_i F 4).toInt → (sy_i F1 5).toInt = (sy_i F 5).toInt → (sy_i F1 6).toInt = 1 → (sy_i F1 11).toInt = (sy_i F 11).toInt → (sy_i F1 12).toInt = (sy_i F 12).toInt → (sy_i F1 14).toInt = (sy_i F 14).toInt → (sy_i F1 15).toInt = (sy_i F 15).toInt → (sy_i F1 16).toInt = (sy_i F 16).toInt → sy_ai F1 42 = sy_ai F 42 → sy_ai F1 43 = sy_ai F 43 → sy_ai F1 44 = sy_ai F 44 → sy_ai F1 45 = sy_ai F 45 → sy_ai F1 46 = sy_ai F 46 → sy_ai F1 47 = sy_ai F 47 → sy_ai F1 48 = sy_ai F 48 → sy_ai F1 49 = sy_ai F 49 → sy_ai F1 50 = sy_ai F 50 → (sy_i F1 69).toInt = (sy_i F 69).toInt → (sy_i F1 70).toInt = (sy_i F 70).toInt → (sy_i F1 71).toInt = (sy_i F 71).toInt → hd_W Ls xs d jm_M160 Q (12, sy_dL F1 [some (.inl (.ref 1000)), some (.inr (.inl 69)), some (.inr (.inl 70)), some (.inr (.inl 71))], sy_dS F1 [], sy_dh F1 X1 X2 (iv_H 4), 0, 0))
    (k2 : (sy_i F 6).toInt = 0 → ((sy_ai F 25).getD ((sy_i F 4).toInt).toNat 0).toInt = 33 → (sy_i F 4).toInt ≠ 400 → ∀ F1 : Nat → sy_d, iv_in F1 iv_B4 → (∀ j, j < 69 → j ∉ ([4] : List Nat) → F1 j = F j) → (sy_i F1 4).toInt = ((sy_i F 4).toInt + 1) → (sy_i F1 5).toInt = (sy_i F 5).toInt → (sy_i F1 6).toInt = (sy_i F 6).toInt → (sy_i F1 11).toInt = (sy_i F 11).toInt → (sy_i F1 12).toInt = (sy_i F 12).toInt → (sy_i F1 14).toInt = (sy_i F 14).toInt → (sy_i F1 15).toInt = (sy_i F 15).toInt → (sy_i F1 16).toInt = (sy_i F 16).toInt → sy_ai F1 42 = sy_ai F 42 → sy_ai F1 43 = sy_ai F 43 → sy_ai F1 44 = sy_ai F 44 → sy_ai F1 45 = sy_ai F 45 → sy_ai F1 46 = sy_ai F 46 → sy_ai F1 47 = sy_ai F 47 → sy_ai F1 48 = sy_ai F 48 → sy_ai F1 49 = sy_ai F 49 → sy_ai F1 50 = sy_ai F 50 → (sy_i F1 69).toInt = (sy_i F 69).toInt → (sy_i F1 70).toInt = (sy_i F 70).toInt → (sy_i F1 71).toInt = (sy_i F 71).toInt → hd_W Ls xs d jm_M160 Q (12, sy_dL F1 [some (.inl (.ref 1000)), some (.inr (.inl 69)), some (.inr (.inl 70)), some (.inr (.inl 71))], sy_dS F1 [], sy_dh F1 X1 X2 (iv_H 4), 0, 0))
    (k3 : (sy_i F 6).toInt = 0 → ((sy_ai F 25).getD ((sy_i F 4).toInt).toNat 0).toInt = 33 → (sy_i F 4).toInt = 400 → (sy_i F 6).toInt ≤ 0 → ∀ F1 : Nat → sy_d, iv_in F1 iv_B4 → (∀ j, j < 69 → j ∉ ([6, 7] : List Nat) → F1 j = F j) → (sy_i F1 4).toInt = (sy_i F 4).toInt → (sy_i F1 5).toInt = (sy_i F 5).toInt → (sy_i F1 6).toInt = 2 → (sy_i F1 11).toInt = (sy_i F 11).toInt → (sy_i F1 12).toInt = (sy_i F 12).toInt → (sy_i F1 14).toInt = (sy_i F 14).toInt → (sy_i F1 15).toInt = (sy_i F 15).toInt → (sy_i F1 16).toInt = (sy_i F 16).toInt → sy_ai F1 42 = sy_ai F 42 → sy_ai F1 43 = sy_ai F 43 → sy_ai F1 44 = sy_ai F 44 → sy_ai F1 45 = sy_ai F 45 → sy_ai F1 46 = sy_ai F 46 → sy_ai F1 47 = sy_ai F 47 → sy_ai F1 48 = sy_ai F 48 → sy_ai F1 49 = sy_ai F 49 → sy_ai F1 50 = sy_ai F 50 → (sy_i F1 69).toInt = (sy_i F 69).toInt → (sy_i F1 70).toInt = (sy_i F 70).toInt → (sy_i F1 71).toInt = (sy_i F 71).toInt → hd_W Ls xs d jm_M160 Q (12, sy_dL F1 [some (.inl (.ref 1000)), some (.inr (.inl 69)), some (.inr (.inl 70)), some (.inr (.inl 71))], sy_dS F1 [], sy_dh F1 X1 X2 (iv_H 4), 0, 0)) :
    hd_W Ls xs d jm_M160 Q (120, sy_dL F [some (.inl (.ref 1000)), some (.inr (.inl 69)), some (.inr (.inl 70)), some (.inr (.inl 71))], sy_dS F [], sy_dh F X1 X2 (iv_H 4), 0, 0) := by
  by_cases g0 : (sy_i F 6).toInt ≠ 0
  · by_cases g1 : (sy_i F 6).toInt ≤ 0
    · have c6 := nz_bx hB (k := 6) (lo := 0) (hi := 2) rfl
      exfalso
      omega
    replace g1 : 0 < (sy_i F 6).toInt := by omega
    have c6 := nz_bx hB (k := 6) (lo := 0) (hi := 2) rfl
    exact tl_120_p0 hd F X1 X2 hB (by first | exact g0 | (simp only [nz_c]; exact g0)) (by first | exact g1 | (simp only [nz_c]; exact g1)) (fun F1 g e69 e70 e71 => k0 g0 g1 F1 (nz_in hB [] (fun j hj hn => g j hj (by simp only [List.mem_cons, List.not_mem_nil, or_false, not_or] at hn; exact trivial)) (List.forall_mem_nil _)) (fun j hj hn => g j hj (by simp only [List.mem_cons, List.not_mem_nil, or_false, not_or] at hn; exact trivial)) (nz_fi (g 4 (by decide) (by decide))) (nz_fi (g 5 (by decide) (by decide))) (nz_fi (g 6 (by decide) (by decide))) (nz_fi (g 11 (by decide) (by decide))) (nz_fi (g 12 (by decide) (by decide))) (nz_fi (g 14 (by decide) (by decide))) (nz_fi (g 15 (by decide) (by decide))) (nz_fi (g 16 (by decide) (by decide))) (nz_fa (g 42 (by decide) (by decide))) (nz_fa (g 43 (by decide) (by decide))) (nz_fa (g 44 (by decide) (by decide))) (nz_fa (g 45 (by decide) (by decide))) (nz_fa (g 46 (by decide) (by decide))) (nz_fa (g 47 (by decide) (by decide))) (nz_fa (g 48 (by decide) (by decide))) (nz_fa (g 49 (by decide) (by decide))) (nz_fa (g 50 (by decide) (by decide))) ((congrArg Int32.toInt (zz_i e69)).trans (rfl : (sy_i F 69).toInt = (sy_i F 69).toInt)) ((congrArg Int32.toInt (zz_i e70)).trans (rfl : (sy_i F 70).toInt = (sy_i F 70).toInt)) ((congrArg Int32.toInt (zz_i e71)).trans (rfl : (sy_i F 71).toInt = (sy_i F 71).toInt)))
  replace g0 : (sy_i F 6).toInt = 0 := by omega
  by_cases g1 : ((sy_ai F 25).getD ((sy_i F 4).toInt).toNat 0).toInt ≠ 33
  · by_cases g2 : (sy_i F 6).toInt ≤ 0
    · have c6 := nz_bx hB (k := 6) (lo := 0) (hi := 2) rfl
      have c4 := nz_bx hB (k := 4) (lo := 0) (hi := 400) rfl
      have q72 : (sy_ai F 25).getD (sy_i F 4).toNatClampNeg 0 = (sy_ai F 25).getD ((sy_i F 4).toInt).toNat 0 := by simp only [nz_c]
      have n72 : ((sy_ai F 25).getD (sy_i F 4).toNatClampNeg 0).toInt = ((sy_ai F 25).getD ((sy_i F 4).toInt).toNat 0).toInt := congrArg Int32.toInt q72
      have r72 := nz_ba hB (k := 25) (lo := 0) (hi := 42) rfl ((sy_i F 4).toInt).toNat
      have q73 : (sy_ai F 26).getD (sy_i F 4).toNatClampNeg 0 = (sy_ai F 26).getD ((sy_i F 4).toInt).toNat 0 := by simp only [nz_c]
      have n73 : ((sy_ai F 26).getD (sy_i F 4).toNatClampNeg 0).toInt = ((sy_ai F 26).getD ((sy_i F 4).toInt).toNat 0).toInt := congrArg Int32.toInt q73
      exact tl_120_p1 hd F X1 X2 hB (by first | exact g0 | (simp only [nz_c]; exact g0)) (by first | exact ⟨by omega, by omega⟩ | (simp only [nz_c]; exact ⟨by omega, by omega⟩)) (by first | exact g1 | (simp only [nz_c]; exact g1) | (rw [n72]; exact g1)) (by first | exact g2 | (simp only [nz_c]; exact g2)) (by first | exact ⟨by omega, by omega⟩ | (simp only [nz_c]; exact ⟨by omega, by omega⟩)) (fun F1 g e6 e7 e69 e70 e71 => k1 g0 g1 g2 F1 (nz_in hB [6, 7] (fun j hj hn => g j hj (by simp only [List.mem_cons, List.not_mem_nil, or_false, not_or] at hn; omega)) (List.forall_mem_cons.mpr ⟨fun t ht => (Option.some.inj ht) ▸ (nz_hi e6 (by decide : ((1 : Int32)).toInt = 1) (by omega) (by omega)), List.forall_mem_cons.mpr ⟨fun t ht => (Option.some.inj ht) ▸ (nz_hz e7), List.forall_mem_nil _⟩⟩)) (fun j hj hn => g j hj (by simp only [List.mem_cons, List.not_mem_nil, or_false, not_or] at hn; omega)) (nz_fi (g 4 (by decide) (by decide))) (nz_fi (g 5 (by decide) (by decide))) ((congrArg Int32.toInt (zz_i e6)).trans (by decide : ((1 : Int32)).toInt = 1)) (nz_fi (g 11 (by decide) (by decide))) (nz_fi (g 12 (by decide) (by decide))) (nz_fi (g 14 (by decide) (by decide))) (nz_fi (g 15 (by decide) (by decide))) (nz_fi (g 16 (by decide) (by decide))) (nz_fa (g 42 (by decide) (by decide))) (nz_fa (g 43 (by decide) (by decide))) (nz_fa (g 44 (by decide) (by decide))) (nz_fa (g 45 (by decide) (by decide))) (nz_fa (g 46 (by decide) (by decide))) (nz_fa (g 47 (by decide) (by decide))) (nz_fa (g 48 (by decide) (by decide))) (nz_fa (g 49 (by decide) (by decide))) (nz_fa (g 50 (by decide) (by decide))) ((congrArg Int32.toInt (zz_i e69)).trans (rfl : (sy_i F 69).toInt = (sy_i F 69).toInt)) ((congrArg Int32.toInt (zz_i e70)).trans (rfl : (sy_i F 70).toInt = (sy_i F 70).toInt)) ((congrArg Int32.toInt (zz_i e71)).trans (rfl : (sy_i F 71).toInt = (sy_i F 71).toInt)))
    replace g2 : 0 < (sy_i F 6).toInt := by omega
    have c6 := nz_bx hB (k := 6) (lo := 0) (hi := 2) rfl
    have c4 := nz_bx hB (k := 4) (lo := 0) (hi := 400) rfl
    have q72 : (sy_ai F 25).getD (sy_i F 4).toNatClampNeg 0 = (sy_ai F 25).getD ((sy_i F 4).toInt).toNat 0 := by simp only [nz_c]
    have n72 : ((sy_ai F 25).getD (sy_i F 4).toNatClampNeg 0).toInt = ((sy_ai F 25).getD ((sy_i F 4).toInt).toNat 0).toInt := congrArg Int32.toInt q72
    have r72 := nz_ba hB (k := 25) (lo := 0) (hi := 42) rfl ((sy_i F 4).toInt).toNat
    exfalso
    omega
  replace g1 : ((sy_ai F 25).getD ((sy_i F 4).toInt).toNat 0).toInt = 33 := by omega
  by_cases g2 : (sy_i F 4).toInt ≠ 400
  · have c6 := nz_bx hB (k := 6) (lo := 0) (hi := 2) rfl
    have c4 := nz_bx hB (k := 4) (lo := 0) (hi := 400) rfl
    have q72 : (sy_ai F 25).getD (sy_i F 4).toNatClampNeg 0 = (sy_ai F 25).getD ((sy_i F 4).toInt).toNat 0 := by simp only [nz_c]
    have n72 : ((sy_ai F 25).getD (sy_i F 4).toNatClampNeg 0).toInt = ((sy_ai F 25).getD ((sy_i F 4).toInt).toNat 0).toInt := congrArg Int32.toInt q72
    have r72 := nz_ba hB (k := 25) (lo := 0) (hi := 42) rfl ((sy_i F 4).toInt).toNat
    have n73 : ((sy_i F 4) + ((1 : Int32))).toInt = ((sy_i F 4).toInt + 1) := nz_add (rfl : (sy_i F 4).toInt = (sy_i F 4).toInt) (by decide : ((1 : Int32)).toInt = 1) (by omega) (by omega)
    exact tl_120_p2 hd F X1 X2 hB (by first | exact g0 | (simp only [nz_c]; exact g0)) (by first | exact ⟨by omega, by omega⟩ | (simp only [nz_c]; exact ⟨by omega, by omega⟩)) (by first | exact g1 | (simp only [nz_c]; exact g1) | (rw [n72]; exact g1)) (by first | exact g2 | (simp only [nz_c]; exact g2)) (fun F1 g e4 e69 e70 e71 => k2 g0 g1 g2 F1 (nz_in hB [4] (fun j hj hn => g j hj (by simp only [List.mem_cons, List.not_mem_nil, or_false, not_or] at hn; omega)) (List.forall_mem_cons.mpr ⟨fun t ht => (Option.some.inj ht) ▸ (nz_hi e4 n73 (by omega) (by omega)), List.forall_mem_nil _⟩)) (fun j hj hn => g j hj (by simp only [List.mem_cons, List.not_mem_nil, or_false, not_or] at hn; omega)) ((congrArg Int32.toInt (zz_i e4)).trans n73) (nz_fi (g 5 (by decide) (by decide))) (nz_fi (g 6 (by decide) (by decide))) (nz_fi (g 11 (by decide) (by decide))) (nz_fi (g 12 (by decide) (by decide))) (nz_fi (g 14 (by decide) (by decide))) (nz_fi (g 15 (by decide) (by decide))) (nz_fi (g 16 (by decide) (by decide))) (nz_fa (g 42 (by decide) (by decide))) (nz_fa (g 43 (by decide) (by decide))) (nz_fa (g 44 (by decide) (by decide))) (nz_fa (g 45 (by decide) (by decide))) (nz_fa (g 46 (by decide) (by decide))) (nz_fa (g 47 (by decide) (by decide))) (nz_fa (g 48 (by decide) (by decide))) (nz_fa (g 49 (by decide) (by decide))) (nz_fa (g 50 (by decide) (by decide))) ((congrArg Int32.toInt (zz_i e69)).trans (rfl : (sy_i F 69).toInt = (sy_i F 69).toInt)) ((congrArg Int32.toInt (zz_i e70)).trans (rfl : (sy_i F 70).toInt = (sy_i F 70).toInt)) ((congrArg Int32.toInt (zz_i e71)).trans (rfl : (sy_i F 71).toInt = (sy_i F 71).toInt)))
  replace g2 : (sy_i F 4).toInt = 400 := by omega
  by_cases g3 : (sy_i F 6).toInt ≤ 0
  · have c6 := nz_bx hB (k := 6) (lo := 0) (hi := 2) rfl
    have c4 := nz_bx hB (k := 4) (lo := 0) (hi := 400) rfl
    have q72 : (sy_ai F 25).getD (sy_i F 4).toNatClampNeg 0 = (sy_ai F 25).getD ((sy_i F 4).toInt).toNat 0 := by simp only [nz_c]
    have n72 : ((sy_ai F 25).getD (sy_i F 4).toNatClampNeg 0).toInt = ((sy_ai F 25).getD ((sy_i F 4).toInt).toNat 0).toInt := congrArg Int32.toInt q72
    have r72 := nz_ba hB (k := 25) (lo := 0) (hi := 42) rfl ((sy_i F 4).toInt).toNat
    have q73 : (sy_ai F 26).getD (sy_i F 4).toNatClampNeg 0 = (sy_ai F 26).getD ((sy_i F 4).toInt).toNat 0 := by simp only [nz_c]
    have n73 : ((sy_ai F 26).getD (sy_i F 4).toNatClampNeg 0).toInt = ((sy_ai F 26).getD ((sy_i F 4).toInt).toNat 0).toInt := congrArg Int32.toInt q73
    exact tl_120_p3 hd F X1 X2 hB (by first | exact g0 | (simp only [nz_c]; exact g0)) (by first | exact ⟨by omega, by omega⟩ | (simp only [nz_c]; exact ⟨by omega, by omega⟩)) (by first | exact g1 | (simp only [nz_c]; exact g1) | (rw [n72]; exact g1)) (by first | exact g2 | (simp only [nz_c]; exact g2)) (by first | exact g3 | (simp only [nz_c]; exact g3)) (by first | exact ⟨by omega, by omega⟩ | (simp only [nz_c]; exact ⟨by omega, by omega⟩)) (fun F1 g e6 e7 e69 e70 e71 => k3 g0 g1 g2 g3 F1 (nz_in hB [6, 7] (fun j hj hn => g j hj (by simp only [List.mem_cons, List.not_mem_nil, or_false, not_or] at hn; omega)) (List.forall_mem_cons.mpr ⟨fun t ht => (Option.some.inj ht) ▸ (nz_hi e6 (by decide : ((2 : Int32)).toInt = 2) (by omega) (by omega)), List.forall_mem_cons.mpr ⟨fun t ht => (Option.some.inj ht) ▸ (nz_hz e7), List.forall_mem_nil _⟩⟩)) (fun j hj hn => g j hj (by simp only [List.mem_cons, List.not_mem_nil, or_false, not_or] at hn; omega)) (nz_fi (g 4 (by decide) (by decide))) (nz_fi (g 5 (by decide) (by decide))) ((congrArg Int32.toInt (zz_i e6)).trans (by decide : ((2 : Int32)).toInt = 2)) (nz_fi (g 11 (by decide) (by decide))) (nz_fi (g 12 (by decide) (by decide))) (nz_fi (g 14 (by decide) (by decide))) (nz_fi (g 15 (by decide) (by decide))) (nz_fi (g 16 (by decide) (by decide))) (nz_fa (g 42 (by decide) (by decide))) (nz_fa (g 43 (by decide) (by decide))) (nz_fa (g 44 (by decide) (by decide))) (nz_fa (g 45 (by decide) (by decide))) (nz_fa (g 46 (by decide) (by decide))) (nz_fa (g 47 (by decide) (by decide))) (nz_fa (g 48 (by decide) (by decide))) (nz_fa (g 49 (by decide) (by decide))) (nz_fa (g 50 (by decide) (by decide))) ((congrArg Int32.toInt (zz_i e69)).trans (rfl : (sy_i F 69).toInt = (sy_i F 69).toInt)) ((congrArg Int32.toInt (zz_i e70)).trans (rfl : (sy_i F 70).toInt = (sy_i F 70).toInt)) ((congrArg Int32.toInt (zz_i e71)).trans (rfl : (sy_i F 71).toInt = (sy_i F 71).toInt)))
  replace g3 : 0 < (sy_i F 6).toInt := by omega
  have c6 := nz_bx hB (k := 6) (lo := 0) (hi := 2) rfl
  have c4 := nz_bx hB (k := 4) (lo := 0) (hi := 400) rfl
  have q72 : (sy_ai F 25).getD (sy_i F 4).toNatClampNeg 0 = (sy_ai F 25).getD ((sy_i F 4).toInt).toNat 0 := by simp only [nz_c]
  have n72 : ((sy_ai F 25).getD (sy_i F 4).toNatClampNeg 0).toInt = ((sy_ai F 25).getD ((sy_i F 4).toInt).toNat 0).toInt := congrArg Int32.toInt q72
  have r72 := nz_ba hB (k := 25) (lo := 0) (hi := 42) rfl ((sy_i F 4).toInt).toNat
  exfalso
  omega
theorem tl_143_p0 {Ls : Nat} {xs : Nat → Int32} {d : Nat} {Q : Option Value → jm_h → Prop} (hd : 4 ≤ d) (F : Nat → sy_d) (X1 X2 : List jm_c) (hB : iv_in F iv_B4)
    (h0 : (sy_i F 6).toInt ≠ 0)
    (h1 : 0 < (sy_i F 6).toInt)
    (h2 : 0 < (sy_i F 6).toInt)
    (k : ∀ F1 : Nat → sy_d, (∀ j, j < 69 → True → F1 j = F j) → Q (none) (sy_dh F1 X1 X2 (iv_H 4))) :
    hd_W Ls xs d jm_M160 Q (143, sy_dL F [some (.inl (.ref 1000)), some (.inr (.inl 69)), some (.inr (.inl 70)), none], sy_dS F [], sy_dh F X1 X2 (iv_H 4), 0, 0) := by
  refine hd_ret (s := 4) (nv := 71) (v := none) (uh := hd_ov (iv_id 0 iv_B4) []) (f := false) (sp := []) (d0 := 3) (O := [true, false, false]) (T := []) (P := [(1, .inr (.inl 6), .inl (.int 0)), (5, .inr (.inl 6), .inl (.int 0)), (5, .inr (.inl 6), .inl (.int 0))]) jm_ok160 (by decide +kernel) (by decide +kernel) hd F X1 X2 (fun F' hF hs => ?_)
  have b6 := hd_b (F := F) (F' := F') (k := 6) (hF 6 (by decide))
  have hB' : iv_in F' iv_B4 := iv_in_eq hB (fun j hj => hF j (Nat.lt_of_lt_of_le hj (by decide +kernel)))
  refine ⟨List.forall_mem_cons.mpr ⟨hd_p1 b6 rfl (by have hc : ((0) : Int32).toInt = 0 := (by decide); omega), List.forall_mem_cons.mpr ⟨hd_p5 b6 rfl (by have hc : ((0) : Int32).toInt = 0 := (by decide); omega), List.forall_mem_cons.mpr ⟨hd_p5 b6 rfl (by have hc : ((0) : Int32).toInt = 0 := (by decide); omega), fun _ h => absurd h List.not_mem_nil⟩⟩⟩, ?_⟩
  refine k _ ?_
  · exact fun j hj _ => (hd_keep hB' (Nat.lt_of_lt_of_le hj (by decide +kernel)) (by simp)).trans (hF j (by omega))
theorem tl_143_p1 {Ls : Nat} {xs : Nat → Int32} {d : Nat} {Q : Option Value → jm_h → Prop} (hd : 4 ≤ d) (F : Nat → sy_d) (X1 X2 : List jm_c) (hB : iv_in F iv_B4)
    (h0 : (sy_i F 6).toInt = 0)
    (h1 : 0 ≤ (sy_i F 4).toInt ∧ (sy_i F 4).toInt < 403)
    (h2 : ((sy_ai F 25).getD (sy_i F 4).toNatClampNeg 0).toInt ≠ 4)
    (h3 : (sy_i F 6).toInt ≤ 0)
    (h4 : 0 ≤ (sy_i F 4).toInt ∧ (sy_i F 4).toInt < 403)
    (k : ∀ F1 : Nat → sy_d, (∀ j, j < 69 → j ≠ 6 ∧ j ≠ 7 → F1 j = F j) → F1 6 = .inl (.int ((1 : Int32))) → F1 7 = .inl (.int ((sy_ai F 26).getD (sy_i F 4).toNatClampNeg 0)) → Q (none) (sy_dh F1 X1 X2 (iv_H 4))) :
    hd_W Ls xs d jm_M160 Q (143, sy_dL F [some (.inl (.ref 1000)), some (.inr (.inl 69)), some (.inr (.inl 70)), none], sy_dS F [], sy_dh F X1 X2 (iv_H 4), 0, 0) := by
  refine hd_ret (s := 4) (nv := 71) (v := none) (uh := hd_ov (iv_id 0 iv_B4) [(6, .inl (.inl (.int 1))), (7, .inl (.inr (.inl 72)))]) (f := false) (sp := []) (d0 := 3) (O := [false, true, true]) (T := [(30, [.inr (.inl 4)], [.inr (.inl 25)]), (30, [.inr (.inl 4)], [.inr (.inl 26)])]) (P := [(0, .inr (.inl 6), .inl (.int 0)), (6, .inr (.inl 4), .inl (.ref 403)), (1, .inr (.inl 71), .inl (.int 4)), (4, .inr (.inl 6), .inl (.int 0)), (6, .inr (.inl 4), .inl (.ref 403))]) jm_ok160 (by decide +kernel) (by decide +kernel) hd F X1 X2 (fun F' hF hs => ?_)
  have b6 := hd_b (F := F) (F' := F') (k := 6) (hF 6 (by decide))
  have b4 := hd_b (F := F) (F' := F') (k := 4) (hF 4 (by decide))
  have a25 := hd_ba (F := F) (F' := F') (k := 25) (hF 25 (by decide))
  have t71 : sy_dv F' (.inr (.inl 71)) = .int ((sy_ai F 25).getD (sy_i F 4).toNatClampNeg 0) := hd_rd (hs 0 _ rfl) b4 a25
  have a26 := hd_ba (F := F) (F' := F') (k := 26) (hF 26 (by decide))
  have t72 : sy_dv F' (.inr (.inl 72)) = .int ((sy_ai F 26).getD (sy_i F 4).toNatClampNeg 0) := hd_rd (hs 1 _ rfl) b4 a26
  have hB' : iv_in F' iv_B4 := iv_in_eq hB (fun j hj => hF j (Nat.lt_of_lt_of_le hj (by decide +kernel)))
  refine ⟨List.forall_mem_cons.mpr ⟨hd_p0 b6 rfl (by have hc : ((0) : Int32).toInt = 0 := (by decide); omega), List.forall_mem_cons.mpr ⟨hd_pb b4 (by first | exact h1 | exact h1), List.forall_mem_cons.mpr ⟨hd_p1 t71 rfl (by have hc : ((4) : Int32).toInt = 4 := (by decide); omega), List.forall_mem_cons.mpr ⟨hd_p4 b6 rfl (by have hc : ((0) : Int32).toInt = 0 := (by decide); omega), List.forall_mem_cons.mpr ⟨hd_pb b4 (by first | exact h4 | exact h4), fun _ h => absurd h List.not_mem_nil⟩⟩⟩⟩⟩, ?_⟩
  refine k _ ?_ ?_ ?_
  · exact fun j hj hn => (hd_keep hB' (Nat.lt_of_lt_of_le hj (by decide +kernel)) (by simp; omega)).trans (hF j (by omega))
  · exact hd_gi (x := .inl (.int 1)) (by decide +kernel) rfl
  · exact hd_gi (x := .inr (.inl 72)) (by decide +kernel) t72
theorem tl_143_p2 {Ls : Nat} {xs : Nat → Int32} {d : Nat} {Q : Option Value → jm_h → Prop} (hd : 4 ≤ d) (F : Nat → sy_d) (X1 X2 : List jm_c) (hB : iv_in F iv_B4)
    (h0 : (sy_i F 6).toInt = 0)
    (h1 : 0 ≤ (sy_i F 4).toInt ∧ (sy_i F 4).toInt < 403)
    (h2 : ((sy_ai F 25).getD (sy_i F 4).toNatClampNeg 0).toInt = 4)
    (h3 : (sy_i F 4).toInt ≠ 400)
    (h4 : (sy_i F 6).toInt ≤ 0)
    (h5 : 0 ≤ ((((6 : Int32)) * (sy_i F 12)) + (sy_i F 69)).toInt ∧ ((((6 : Int32)) * (sy_i F 12)) + (sy_i F 69)).toInt < 12)
    (h6 : 0 ≤ ((((6 : Int32)) * (sy_i F 12)) + (sy_i F 69)).toInt ∧ ((((6 : Int32)) * (sy_i F 12)) + (sy_i F 69)).toInt < 12)
    (k : ∀ F1 : Nat → sy_d, (∀ j, j < 69 → j ≠ 4 ∧ j ≠ 42 ∧ j ≠ 43 → F1 j = F j) → F1 4 = .inl (.int ((sy_i F 4) + ((1 : Int32)))) → F1 42 = .inr (.inl (jm_upd (sy_ai F 42) ((((6 : Int32)) * (sy_i F 12)) + (sy_i F 69)).toNatClampNeg (sy_i F 70))) → F1 43 = .inr (.inl (jm_upd (sy_ai F 43) ((((6 : Int32)) * (sy_i F 12)) + (sy_i F 69)).toNatClampNeg (sy_i F 14))) → Q (none) (sy_dh F1 X1 X2 (iv_H 4))) :
    hd_W Ls xs d jm_M160 Q (143, sy_dL F [some (.inl (.ref 1000)), some (.inr (.inl 69)), some (.inr (.inl 70)), none], sy_dS F [], sy_dh F X1 X2 (iv_H 4), 0, 0) := by
  refine hd_ret (s := 4) (nv := 71) (v := none) (uh := hd_ov (iv_id 0 iv_B4) [(4, .inl (.inr (.inl 72))), (42, .inr (.inr (.inl 75))), (43, .inr (.inr (.inl 78)))]) (f := false) (sp := []) (d0 := 3) (O := [false, false, true, true]) (T := [(30, [.inr (.inl 4)], [.inr (.inl 25)]), (0, [.inr (.inl 4), .inl (.int 1)], []), (2, [.inl (.int 6), .inr (.inl 12)], []), (0, [.inr (.inl 73), .inr (.inl 69)], []), (40, [.inr (.inl 74), .inr (.inl 70)], [.inr (.inl 42)]), (2, [.inl (.int 6), .inr (.inl 12)], []), (0, [.inr (.inl 76), .inr (.inl 69)], []), (40, [.inr (.inl 77), .inr (.inl 14)], [.inr (.inl 43)])]) (P := [(0, .inr (.inl 6), .inl (.int 0)), (6, .inr (.inl 4), .inl (.ref 403)), (0, .inr (.inl 71), .inl (.int 4)), (1, .inr (.inl 4), .inl (.int 400)), (4, .inr (.inl 6), .inl (.int 0)), (6, .inr (.inl 74), .inl (.ref 12)), (6, .inr (.inl 77), .inl (.ref 12))]) jm_ok160 (by decide +kernel) (by decide +kernel) hd F X1 X2 (fun F' hF hs => ?_)
  have b6 := hd_b (F := F) (F' := F') (k := 6) (hF 6 (by decide))
  have b4 := hd_b (F := F) (F' := F') (k := 4) (hF 4 (by decide))
  have a25 := hd_ba (F := F) (F' := F') (k := 25) (hF 25 (by decide))
  have t71 : sy_dv F' (.inr (.inl 71)) = .int ((sy_ai F 25).getD (sy_i F 4).toNatClampNeg 0) := hd_rd (hs 0 _ rfl) b4 a25
  have b12 := hd_b (F := F) (F' := F') (k := 12) (hF 12 (by decide))
  have t73 : sy_dv F' (.inr (.inl 73)) = .int (((6 : Int32)) * (sy_i F 12)) := hd_o (hs 2 _ rfl) rfl b12 rfl
  have b69 := hd_b (F := F) (F' := F') (k := 69) (hF 69 (by decide))
  have t74 : sy_dv F' (.inr (.inl 74)) = .int ((((6 : Int32)) * (sy_i F 12)) + (sy_i F 69)) := hd_o (hs 3 _ rfl) t73 b69 rfl
  have t76 : sy_dv F' (.inr (.inl 76)) = .int (((6 : Int32)) * (sy_i F 12)) := hd_o (hs 5 _ rfl) rfl b12 rfl
  have t77 : sy_dv F' (.inr (.inl 77)) = .int ((((6 : Int32)) * (sy_i F 12)) + (sy_i F 69)) := hd_o (hs 6 _ rfl) t76 b69 rfl
  have t72 : sy_dv F' (.inr (.inl 72)) = .int ((sy_i F 4) + ((1 : Int32))) := hd_o (hs 1 _ rfl) b4 rfl rfl
  have b70 := hd_b (F := F) (F' := F') (k := 70) (hF 70 (by decide))
  have a42 := hd_ba (F := F) (F' := F') (k := 42) (hF 42 (by decide))
  have t75 : sy_da F' (.inr (.inl 75)) = .inl (jm_upd (sy_ai F 42) ((((6 : Int32)) * (sy_i F 12)) + (sy_i F 69)).toNatClampNeg (sy_i F 70)) := hd_up (hs 4 _ rfl) t74 b70 a42
  have b14 := hd_b (F := F) (F' := F') (k := 14) (hF 14 (by decide))
  have a43 := hd_ba (F := F) (F' := F') (k := 43) (hF 43 (by decide))
  have t78 : sy_da F' (.inr (.inl 78)) = .inl (jm_upd (sy_ai F 43) ((((6 : Int32)) * (sy_i F 12)) + (sy_i F 69)).toNatClampNeg (sy_i F 14)) := hd_up (hs 7 _ rfl) t77 b14 a43
  have hB' : iv_in F' iv_B4 := iv_in_eq hB (fun j hj => hF j (Nat.lt_of_lt_of_le hj (by decide +kernel)))
  refine ⟨List.forall_mem_cons.mpr ⟨hd_p0 b6 rfl (by have hc : ((0) : Int32).toInt = 0 := (by decide); omega), List.forall_mem_cons.mpr ⟨hd_pb b4 (by first | exact h1 | exact h1), List.forall_mem_cons.mpr ⟨hd_p0 t71 rfl (by have hc : ((4) : Int32).toInt = 4 := (by decide); omega), List.forall_mem_cons.mpr ⟨hd_p1 b4 rfl (by have hc : ((400) : Int32).toInt = 400 := (by decide); omega), List.forall_mem_cons.mpr ⟨hd_p4 b6 rfl (by have hc : ((0) : Int32).toInt = 0 := (by decide); omega), List.forall_mem_cons.mpr ⟨hd_pb t74 (by first | exact h5 | exact h5), List.forall_mem_cons.mpr ⟨hd_pb t77 (by first | exact h6 | exact h6), fun _ h => absurd h List.not_mem_nil⟩⟩⟩⟩⟩⟩⟩, ?_⟩
  refine k _ ?_ ?_ ?_ ?_
  · exact fun j hj hn => (hd_keep hB' (Nat.lt_of_lt_of_le hj (by decide +kernel)) (by simp; omega)).trans (hF j (by omega))
  · exact hd_gi (x := .inr (.inl 72)) (by decide +kernel) t72
  · exact hd_ga (a := .inr (.inl 75)) (by decide +kernel) t75
  · exact hd_ga (a := .inr (.inl 78)) (by decide +kernel) t78
theorem tl_143_p3 {Ls : Nat} {xs : Nat → Int32} {d : Nat} {Q : Option Value → jm_h → Prop} (hd : 4 ≤ d) (F : Nat → sy_d) (X1 X2 : List jm_c) (hB : iv_in F iv_B4)
    (h0 : (sy_i F 6).toInt = 0)
    (h1 : 0 ≤ (sy_i F 4).toInt ∧ (sy_i F 4).toInt < 403)
    (h2 : ((sy_ai F 25).getD (sy_i F 4).toNatClampNeg 0).toInt = 4)
    (h3 : (sy_i F 4).toInt = 400)
    (h4 : (sy_i F 6).toInt ≤ 0)
    (h5 : 0 ≤ (sy_i F 4).toInt ∧ (sy_i F 4).toInt < 403)
    (k : ∀ F1 : Nat → sy_d, (∀ j, j < 69 → j ≠ 6 ∧ j ≠ 7 → F1 j = F j) → F1 6 = .inl (.int ((2 : Int32))) → F1 7 = .inl (.int ((sy_ai F 26).getD (sy_i F 4).toNatClampNeg 0)) → Q (none) (sy_dh F1 X1 X2 (iv_H 4))) :
    hd_W Ls xs d jm_M160 Q (143, sy_dL F [some (.inl (.ref 1000)), some (.inr (.inl 69)), some (.inr (.inl 70)), none], sy_dS F [], sy_dh F X1 X2 (iv_H 4), 0, 0) := by
  refine hd_ret (s := 4) (nv := 71) (v := none) (uh := hd_ov (iv_id 0 iv_B4) [(6, .inl (.inl (.int 2))), (7, .inl (.inr (.inl 72)))]) (f := false) (sp := []) (d0 := 3) (O := [false, false, false, true]) (T := [(30, [.inr (.inl 4)], [.inr (.inl 25)]), (30, [.inr (.inl 4)], [.inr (.inl 26)])]) (P := [(0, .inr (.inl 6), .inl (.int 0)), (6, .inr (.inl 4), .inl (.ref 403)), (0, .inr (.inl 71), .inl (.int 4)), (0, .inr (.inl 4), .inl (.int 400)), (4, .inr (.inl 6), .inl (.int 0)), (6, .inr (.inl 4), .inl (.ref 403))]) jm_ok160 (by decide +kernel) (by decide +kernel) hd F X1 X2 (fun F' hF hs => ?_)
  have b6 := hd_b (F := F) (F' := F') (k := 6) (hF 6 (by decide))
  have b4 := hd_b (F := F) (F' := F') (k := 4) (hF 4 (by decide))
  have a25 := hd_ba (F := F) (F' := F') (k := 25) (hF 25 (by decide))
  have t71 : sy_dv F' (.inr (.inl 71)) = .int ((sy_ai F 25).getD (sy_i F 4).toNatClampNeg 0) := hd_rd (hs 0 _ rfl) b4 a25
  have a26 := hd_ba (F := F) (F' := F') (k := 26) (hF 26 (by decide))
  have t72 : sy_dv F' (.inr (.inl 72)) = .int ((sy_ai F 26).getD (sy_i F 4).toNatClampNeg 0) := hd_rd (hs 1 _ rfl) b4 a26
  have hB' : iv_in F' iv_B4 := iv_in_eq hB (fun j hj => hF j (Nat.lt_of_lt_of_le hj (by decide +kernel)))
  refine ⟨List.forall_mem_cons.mpr ⟨hd_p0 b6 rfl (by have hc : ((0) : Int32).toInt = 0 := (by decide); omega), List.forall_mem_cons.mpr ⟨hd_pb b4 (by first | exact h1 | exact h1), List.forall_mem_cons.mpr ⟨hd_p0 t71 rfl (by have hc : ((4) : Int32).toInt = 4 := (by decide); omega), List.forall_mem_cons.mpr ⟨hd_p0 b4 rfl (by have hc : ((400) : Int32).toInt = 400 := (by decide); omega), List.forall_mem_cons.mpr ⟨hd_p4 b6 rfl (by have hc : ((0) : Int32).toInt = 0 := (by decide); omega), List.forall_mem_cons.mpr ⟨hd_pb b4 (by first | exact h5 | exact h5), fun _ h => absurd h List.not_mem_nil⟩⟩⟩⟩⟩⟩, ?_⟩
  refine k _ ?_ ?_ ?_
  · exact fun j hj hn => (hd_keep hB' (Nat.lt_of_lt_of_le hj (by decide +kernel)) (by simp; omega)).trans (hF j (by omega))
  · exact hd_gi (x := .inl (.int 2)) (by decide +kernel) rfl
  · exact hd_gi (x := .inr (.inl 72)) (by decide +kernel) t72
theorem tl_143 {Ls : Nat} {xs : Nat → Int32} {d : Nat} {Q : Option Value → jm_h → Prop} (hd : 4 ≤ d) (F : Nat → sy_d) (X1 X2 : List jm_c) (hB : iv_in F iv_B4)
    (a69 : 0 ≤ (sy_i F 69).toInt ∧ (sy_i F 69).toInt ≤ 5)
    (o0 : (sy_i F 6).toInt = 0 → ((sy_ai F 25).getD ((sy_i F 4).toInt).toNat 0).toInt = 4 → (sy_i F 4).toInt ≠ 400 → (sy_i F 6).toInt ≤ 0 → (0 ≤ (sy_i F 70).toInt ∧ (sy_i F 70).toInt ≤ 260))
    (k0 : (sy_i F 6).toInt ≠ 0 → 0 < (sy_i F 6).toInt → 0 < (sy_i F 6).toInt → ∀ F1 : Nat → sy_d, iv_in F1 iv_B4 → (∀ j, j < 69 → j ∉ ([] : List Nat) → F1 j = F j) → (sy_i F1 4).toInt = (sy_i F 4).toInt → (sy_i F1 5).toInt = (sy_i F 5).toInt → (sy_i F1 6).toInt = (sy_i F 6).toInt → (sy_i F1 11).toInt = (sy_i F 11).toInt → (sy_i F1 12).toInt = (sy_i F 12).toInt → (sy_i F1 14).toInt = (sy_i F 14).toInt → (sy_i F1 15).toInt = (sy_i F 15).toInt → (sy_i F1 16).toInt = (sy_i F 16).toInt → sy_ai F1 42 = sy_ai F 42 → sy_ai F1 43 = sy_ai F 43 → sy_ai F1 44 = sy_ai F 44 → sy_ai F1 45 = sy_ai F 45 → sy_ai F1 46 = sy_ai F 46 → sy_ai F1 47 = sy_ai F 47 → sy_ai F1 48 = sy_ai F 48 → sy_ai F1 49 = sy_ai F 49 → sy_ai F1 50 = sy_ai F 50 → Q (none) (sy_dh F1 X1 X2 (iv_H 4)))
    (k1 : (sy_i F 6).toInt = 0 → ((sy_ai F 25).getD ((sy_i F 4).toInt).toNat 0).toInt ≠ 4 → (sy_i F 6).toInt ≤ 0 → ∀ F1 : Nat → sy_d, iv_in F1 iv_B4 → (∀ j, j < 69 → j ∉ ([6, 7] : List Nat) → F1 j = F j) → (sy_i F1 4).toInt = (sy_i F 4).toInt → (sy_i F1 5).toInt = (sy_i F 5).toInt → (sy_i F1 6).toInt = 1 → (sy_i F1 11).toInt = (sy_i F 11).toInt → (sy_i F1 12).toInt = (sy_i F 12).toInt → (sy_i F1 14).toInt = (sy_i F 14).toInt → (sy_i F1 15).toInt = (sy_i F 15).toInt → (sy_i F1 16).toInt = (sy_i F 16).toInt → sy_ai F1 42 = sy_ai F 42 → sy_ai F1 43 = sy_ai F 43 → sy_ai F1 44 = sy_ai F 44 → sy_ai F1 45 = sy_ai F 45 → sy_ai F1 46 = sy_ai F 46 → sy_ai F1 47 = sy_ai F 47 → sy_ai F1 48 = sy_ai F 48 → sy_ai F1 49 = sy_ai F 49 → sy_ai F1 50 = sy_ai F 50 → Q (none) (sy_dh F1 X1 X2 (iv_H 4)))
    (k2 : (sy_i F 6).toInt = 0 → ((sy_ai F 25).getD ((sy_i F 4).toInt).toNat 0).toInt = 4 → (sy_i F 4).toInt ≠ 400 → (sy_i F 6).toInt ≤ 0 → ∀ F1 : Nat → sy_d, iv_in F1 iv_B4 → (∀ j, j < 69 → j ∉ ([4, 42, 43] : List Nat) → F1 j = F j) → (sy_i F1 4).toInt = ((sy_i F 4).toInt + 1) → (sy_i F1 5).toInt = (sy_i F 5).toInt → (sy_i F1 6).toInt = (sy_i F 6).toInt → (sy_i F1 11).toInt = (sy_i F 11).toInt → (sy_i F1 12).toInt = (sy_i F 12).toInt → (sy_i F1 14).toInt = (sy_i F 14).toInt → (sy_i F1 15).toInt = (sy_i F 15).toInt → (sy_i F1 16).toInt = (sy_i F 16).toInt → sy_ai F1 42 = jm_upd (sy_ai F 42) (((6 * (sy_i F 12).toInt) + (sy_i F 69).toInt)).toNat (sy_i F 70) → sy_ai F1 43 = jm_upd (sy_ai F 43) (((6 * (sy_i F 12).toInt) + (sy_i F 69).toInt)).toNat (sy_i F 14) → sy_ai F1 44 = sy_ai F 44 → sy_ai F1 45 = sy_ai F 45 → sy_ai F1 46 = sy_ai F 46 → sy_ai F1 47 = sy_ai F 47 → sy_ai F1 48 = sy_ai F 48 → sy_ai F1 49 = sy_ai F 49 → sy_ai F1 50 = sy_ai F 50 → Q (none) (sy_dh F1 X1 X2 (iv_H 4)))
    (k3 : (sy_i F 6).toInt = 0 → ((sy_ai F 25).getD ((sy_i F 4).toInt).toNat 0).toInt = 4 → (sy_i F 4).toInt = 400 → (sy_i F 6).toInt ≤ 0 → ∀ F1 : Nat → sy_d, iv_in F1 iv_B4 → (∀ j, j < 69 → j ∉ ([6, 7] : List Nat) → F1 j = F j) → (sy_i F1 4).toInt = (sy_i F 4).toInt → (sy_i F1 5).toInt = (sy_i F 5).toInt → (sy_i F1 6).toInt = 2 → (sy_i F1 11).toInt = (sy_i F 11).toInt → (sy_i F1 12).toInt = (sy_i F 12).toInt → (sy_i F1 14).toInt = (sy_i F 14).toInt → (sy_i F1 15).toInt = (sy_i F 15).toInt → (sy_i F1 16).toInt = (sy_i F 16).toInt → sy_ai F1 42 = sy_ai F 42 → sy_ai F1 43 = sy_ai F 43 → sy_ai F1 44 = sy_ai F 44 → sy_ai F1 45 = sy_ai F 45 → sy_ai F1 46 = sy_ai F 46 → sy_ai F1 47 = sy_ai F 47 → sy_ai F1 48 = sy_ai F 48 → sy_ai F1 49 = sy_ai F 49 → sy_ai F1 50 = sy_ai F 50 → Q (none) (sy_dh F1 X1 X2 (iv_H 4))) :
    hd_W Ls xs d jm_M160 Q (143, sy_dL F [some (.inl (.ref 1000)), some (.inr (.inl 69)), some (.inr (.inl 70)), none], sy_dS F [], sy_dh F X1 X2 (iv_H 4), 0, 0) := by
  by_cases g0 : (sy_i F 6).toInt ≠ 0
  · by_cases g1 : (sy_i F 6).toInt ≤ 0
    · have c6 := nz_bx hB (k := 6) (lo := 0) (hi := 2) rfl
      exfalso
      omega
    replace g1 : 0 < (sy_i F 6).toInt := by omega
    by_cases g2 : (sy_i F 6).toInt ≤ 0
    · have c6 := nz_bx hB (k := 6) (lo := 0) (hi := 2) rfl
      exfalso
      omega
    replace g2 : 0 < (sy_i F 6).toInt := by omega
    have c6 := nz_bx hB (k := 6) (lo := 0) (hi := 2) rfl
    exact tl_143_p0 hd F X1 X2 hB (by first | exact g0 | (simp only [nz_c]; exact g0)) (by first | exact g1 | (simp only [nz_c]; exact g1)) (by first | exact g2 | (simp only [nz_c]; exact g2)) (fun F1 g  => k0 g0 g1 g2 F1 (nz_in hB [] (fun j hj hn => g j hj (by simp only [List.mem_cons, List.not_mem_nil, or_false, not_or] at hn; exact trivial)) (List.forall_mem_nil _)) (fun j hj hn => g j hj (by simp only [List.mem_cons, List.not_mem_nil, or_false, not_or] at hn; exact trivial)) (nz_fi (g 4 (by decide) (by decide))) (nz_fi (g 5 (by decide) (by decide))) (nz_fi (g 6 (by decide) (by decide))) (nz_fi (g 11 (by decide) (by decide))) (nz_fi (g 12 (by decide) (by decide))) (nz_fi (g 14 (by decide) (by decide))) (nz_fi (g 15 (by decide) (by decide))) (nz_fi (g 16 (by decide) (by decide))) (nz_fa (g 42 (by decide) (by decide))) (nz_fa (g 43 (by decide) (by decide))) (nz_fa (g 44 (by decide) (by decide))) (nz_fa (g 45 (by decide) (by decide))) (nz_fa (g 46 (by decide) (by decide))) (nz_fa (g 47 (by decide) (by decide))) (nz_fa (g 48 (by decide) (by decide))) (nz_fa (g 49 (by decide) (by decide))) (nz_fa (g 50 (by decide) (by decide))))
  replace g0 : (sy_i F 6).toInt = 0 := by omega
  by_cases g1 : ((sy_ai F 25).getD ((sy_i F 4).toInt).toNat 0).toInt ≠ 4
  · by_cases g2 : (sy_i F 6).toInt ≤ 0
    · have c6 := nz_bx hB (k := 6) (lo := 0) (hi := 2) rfl
      have c4 := nz_bx hB (k := 4) (lo := 0) (hi := 400) rfl
      have q71 : (sy_ai F 25).getD (sy_i F 4).toNatClampNeg 0 = (sy_ai F 25).getD ((sy_i F 4).toInt).toNat 0 := by simp only [nz_c]
      have n71 : ((sy_ai F 25).getD (sy_i F 4).toNatClampNeg 0).toInt = ((sy_ai F 25).getD ((sy_i F 4).toInt).toNat 0).toInt := congrArg Int32.toInt q71
      have r71 := nz_ba hB (k := 25) (lo := 0) (hi := 42) rfl ((sy_i F 4).toInt).toNat
      have q72 : (sy_ai F 26).getD (sy_i F 4).toNatClampNeg 0 = (sy_ai F 26).getD ((sy_i F 4).toInt).toNat 0 := by simp only [nz_c]
      have n72 : ((sy_ai F 26).getD (sy_i F 4).toNatClampNeg 0).toInt = ((sy_ai F 26).getD ((sy_i F 4).toInt).toNat 0).toInt := congrArg Int32.toInt q72
      exact tl_143_p1 hd F X1 X2 hB (by first | exact g0 | (simp only [nz_c]; exact g0)) (by first | exact ⟨by omega, by omega⟩ | (simp only [nz_c]; exact ⟨by omega, by omega⟩)) (by first | exact g1 | (simp only [nz_c]; exact g1) | (rw [n71]; exact g1)) (by first | exact g2 | (simp only [nz_c]; exact g2)) (by first | exact ⟨by omega, by omega⟩ | (simp only [nz_c]; exact ⟨by omega, by omega⟩)) (fun F1 g e6 e7 => k1 g0 g1 g2 F1 (nz_in hB [6, 7] (fun j hj hn => g j hj (by simp only [List.mem_cons, List.not_mem_nil, or_false, not_or] at hn; omega)) (List.forall_mem_cons.mpr ⟨fun t ht => (Option.some.inj ht) ▸ (nz_hi e6 (by decide : ((1 : Int32)).toInt = 1) (by omega) (by omega)), List.forall_mem_cons.mpr ⟨fun t ht => (Option.some.inj ht) ▸ (nz_hz e7), List.forall_mem_nil _⟩⟩)) (fun j hj hn => g j hj (by simp only [List.mem_cons, List.not_mem_nil, or_false, not_or] at hn; omega)) (nz_fi (g 4 (by decide) (by decide))) (nz_fi (g 5 (by decide) (by decide))) ((congrArg Int32.toInt (zz_i e6)).trans (by decide : ((1 : Int32)).toInt = 1)) (nz_fi (g 11 (by decide) (by decide))) (nz_fi (g 12 (by decide) (by decide))) (nz_fi (g 14 (by decide) (by decide))) (nz_fi (g 15 (by decide) (by decide))) (nz_fi (g 16 (by decide) (by decide))) (nz_fa (g 42 (by decide) (by decide))) (nz_fa (g 43 (by decide) (by decide))) (nz_fa (g 44 (by decide) (by decide))) (nz_fa (g 45 (by decide) (by decide))) (nz_fa (g 46 (by decide) (by decide))) (nz_fa (g 47 (by decide) (by decide))) (nz_fa (g 48 (by decide) (by decide))) (nz_fa (g 49 (by decide) (by decide))) (nz_fa (g 50 (by decide) (by decide))))
    replace g2 : 0 < (sy_i F 6).toInt := by omega
    have c6 := nz_bx hB (k := 6) (lo := 0) (hi := 2) rfl
    have c4 := nz_bx hB (k := 4) (lo := 0) (hi := 400) rfl
    have q71 : (sy_ai F 25).getD (sy_i F 4).toNatClampNeg 0 = (sy_ai F 25).getD ((sy_i F 4).toInt).toNat 0 := by simp only [nz_c]
    have n71 : ((sy_ai F 25).getD (sy_i F 4).toNatClampNeg 0).toInt = ((sy_ai F 25).getD ((sy_i F 4).toInt).toNat 0).toInt := congrArg Int32.toInt q71
    have r71 := nz_ba hB (k := 25) (lo := 0) (hi := 42) rfl ((sy_i F 4).toInt).toNat
    exfalso
    omega
  replace g1 : ((sy_ai F 25).getD ((sy_i F 4).toInt).toNat 0).toInt = 4 := by omega
  by_cases g2 : (sy_i F 4).toInt ≠ 400
  · by_cases g3 : (sy_i F 6).toInt ≤ 0
    · have c6 := nz_bx hB (k := 6) (lo := 0) (hi := 2) rfl
      have c4 := nz_bx hB (k := 4) (lo := 0) (hi := 400) rfl
      have q71 : (sy_ai F 25).getD (sy_i F 4).toNatClampNeg 0 = (sy_ai F 25).getD ((sy_i F 4).toInt).toNat 0 := by simp only [nz_c]
      have n71 : ((sy_ai F 25).getD (sy_i F 4).toNatClampNeg 0).toInt = ((sy_ai F 25).getD ((sy_i F 4).toInt).toNat 0).toInt := congrArg Int32.toInt q71
      have r71 := nz_ba hB (k := 25) (lo := 0) (hi := 42) rfl ((sy_i F 4).toInt).toNat
      have c12 := nz_bx hB (k := 12) (lo := 0) (hi := 1) rfl
      have n73 : (((6 : Int32)) * (sy_i F 12)).toInt = (6 * (sy_i F 12).toInt) := nz_mul (by decide : ((6 : Int32)).toInt = 6) (rfl : (sy_i F 12).toInt = (sy_i F 12).toInt) (by omega) (by omega)
      have n74 : ((((6 : Int32)) * (sy_i F 12)) + (sy_i F 69)).toInt = ((6 * (sy_i F 12).toInt) + (sy_i F 69).toInt) := nz_add n73 (rfl : (sy_i F 69).toInt = (sy_i F 69).toInt) (by omega) (by omega)
      have n76 : (((6 : Int32)) * (sy_i F 12)).toInt = (6 * (sy_i F 12).toInt) := nz_mul (by decide : ((6 : Int32)).toInt = 6) (rfl : (sy_i F 12).toInt = (sy_i F 12).toInt) (by omega) (by omega)
      have n77 : ((((6 : Int32)) * (sy_i F 12)) + (sy_i F 69)).toInt = ((6 * (sy_i F 12).toInt) + (sy_i F 69).toInt) := nz_add n76 (rfl : (sy_i F 69).toInt = (sy_i F 69).toInt) (by omega) (by omega)
      have n72 : ((sy_i F 4) + ((1 : Int32))).toInt = ((sy_i F 4).toInt + 1) := nz_add (rfl : (sy_i F 4).toInt = (sy_i F 4).toInt) (by decide : ((1 : Int32)).toInt = 1) (by omega) (by omega)
      have c14 := nz_bx hB (k := 14) (lo := 0) (hi := 260) rfl
      have w75 : jm_upd (sy_ai F 42) ((((6 : Int32)) * (sy_i F 12)) + (sy_i F 69)).toNatClampNeg (sy_i F 70) = jm_upd (sy_ai F 42) (((6 * (sy_i F 12).toInt) + (sy_i F 69).toInt)).toNat (sy_i F 70) := by simp only [nz_c, n73, n74, (by decide : ((6 : Int32)).toInt = 6)]
      have w78 : jm_upd (sy_ai F 43) ((((6 : Int32)) * (sy_i F 12)) + (sy_i F 69)).toNatClampNeg (sy_i F 14) = jm_upd (sy_ai F 43) (((6 * (sy_i F 12).toInt) + (sy_i F 69).toInt)).toNat (sy_i F 14) := by simp only [nz_c, n76, n77, (by decide : ((6 : Int32)).toInt = 6)]
      exact tl_143_p2 hd F X1 X2 hB (by first | exact g0 | (simp only [nz_c]; exact g0)) (by first | exact ⟨by omega, by omega⟩ | (simp only [nz_c]; exact ⟨by omega, by omega⟩)) (by first | exact g1 | (simp only [nz_c]; exact g1) | (rw [n71]; exact g1)) (by first | exact g2 | (simp only [nz_c]; exact g2)) (by first | exact g3 | (simp only [nz_c]; exact g3)) (by first | exact ⟨by omega, by omega⟩ | (simp only [nz_c, n73, n74]; exact ⟨by omega, by omega⟩) | (rw [n74]; exact ⟨by omega, by omega⟩)) (by first | exact ⟨by omega, by omega⟩ | (simp only [nz_c, n76, n77]; exact ⟨by omega, by omega⟩) | (rw [n77]; exact ⟨by omega, by omega⟩)) (fun F1 g e4 e42 e43 => k2 g0 g1 g2 g3 F1 (nz_in hB [4, 42, 43] (fun j hj hn => g j hj (by simp only [List.mem_cons, List.not_mem_nil, or_false, not_or] at hn; omega)) (List.forall_mem_cons.mpr ⟨fun t ht => (Option.some.inj ht) ▸ (nz_hi e4 n72 (by omega) (by omega)), List.forall_mem_cons.mpr ⟨fun t ht => (Option.some.inj ht) ▸ (nz_hA e42 (nz_up (nz_ba hB (k := 42) (lo := 0) (hi := 260) rfl) (rfl : (sy_i F 70).toInt = (sy_i F 70).toInt) (o0 g0 g1 g2 g3).1 (o0 g0 g1 g2 g3).2)), List.forall_mem_cons.mpr ⟨fun t ht => (Option.some.inj ht) ▸ (nz_hA e43 (nz_up (nz_ba hB (k := 43) (lo := 0) (hi := 260) rfl) (rfl : (sy_i F 14).toInt = (sy_i F 14).toInt) (by omega) (by omega))), List.forall_mem_nil _⟩⟩⟩)) (fun j hj hn => g j hj (by simp only [List.mem_cons, List.not_mem_nil, or_false, not_or] at hn; omega)) ((congrArg Int32.toInt (zz_i e4)).trans n72) (nz_fi (g 5 (by decide) (by decide))) (nz_fi (g 6 (by decide) (by decide))) (nz_fi (g 11 (by decide) (by decide))) (nz_fi (g 12 (by decide) (by decide))) (nz_fi (g 14 (by decide) (by decide))) (nz_fi (g 15 (by decide) (by decide))) (nz_fi (g 16 (by decide) (by decide))) ((zz_ai e42).trans w75) ((zz_ai e43).trans w78) (nz_fa (g 44 (by decide) (by decide))) (nz_fa (g 45 (by decide) (by decide))) (nz_fa (g 46 (by decide) (by decide))) (nz_fa (g 47 (by decide) (by decide))) (nz_fa (g 48 (by decide) (by decide))) (nz_fa (g 49 (by decide) (by decide))) (nz_fa (g 50 (by decide) (by decide))))
    replace g3 : 0 < (sy_i F 6).toInt := by omega
    have c6 := nz_bx hB (k := 6) (lo := 0) (hi := 2) rfl
    have c4 := nz_bx hB (k := 4) (lo := 0) (hi := 400) rfl
    have q71 : (sy_ai F 25).getD (sy_i F 4).toNatClampNeg 0 = (sy_ai F 25).getD ((sy_i F 4).toInt).toNat 0 := by simp only [nz_c]
    have n71 : ((sy_ai F 25).getD (sy_i F 4).toNatClampNeg 0).toInt = ((sy_ai F 25).getD ((sy_i F 4).toInt).toNat 0).toInt := congrArg Int32.toInt q71
    have r71 := nz_ba hB (k := 25) (lo := 0) (hi := 42) rfl ((sy_i F 4).toInt).toNat
    exfalso
    omega
  replace g2 : (sy_i F 4).toInt = 400 := by omega
  by_cases g3 : (sy_i F 6).toInt ≤ 0
  · have c6 := nz_bx hB (k := 6) (lo := 0) (hi := 2) rfl
    have c4 := nz_bx hB (k := 4) (lo := 0) (hi := 400) rfl
    have q71 : (sy_ai F 25).getD (sy_i F 4).toNatClampNeg 0 = (sy_ai F 25).getD ((sy_i F 4).toInt).toNat 0 := by simp only [nz_c]
    have n71 : ((sy_ai F 25).getD (sy_i F 4).toNatClampNeg 0).toInt = ((sy_ai F 25).getD ((sy_i F 4).toInt).toNat 0).toInt := congrArg Int32.toInt q71
    have r71 := nz_ba hB (k := 25) (lo := 0) (hi := 42) rfl ((sy_i F 4).toInt).toNat
    have q72 : (sy_ai F 26).getD (sy_i F 4).toNatClampNeg 0 = (sy_ai F 26).getD ((sy_i F 4).toInt).toNat 0 := by simp only [nz_c]
    have n72 : ((sy_ai F 26).getD (sy_i F 4).toNatClampNeg 0).toInt = ((sy_ai F 26).getD ((sy_i F 4).toInt).toNat 0).toInt := congrArg Int32.toInt q72
    exact tl_143_p3 hd F X1 X2 hB (by first | exact g0 | (simp only [nz_c]; exact g0)) (by first | exact ⟨by omega, by omega⟩ | (simp only [nz_c]; exact ⟨by omega, by omega⟩)) (by first | exact g1 | (simp only [nz_c]; exact g1) | (rw [n71]; exact g1)) (by first | exact g2 | (simp only [nz_c]; exact g2)) (by first | exact g3 | (simp only [nz_c]; exact g3)) (by first | exact ⟨by omega, by omega⟩ | (simp only [nz_c]; exact ⟨by omega, by omega⟩)) (fun F1 g e6 e7 => k3 g0 g1 g2 g3 F1 (nz_in hB [6, 7] (fun j hj hn => g j hj (by simp only [List.mem_cons, List.not_mem_nil, or_false, not_or] at hn; omega)) (List.forall_mem_cons.mpr ⟨fun t ht => (Option.some.inj ht) ▸ (nz_hi e6 (by decide : ((2 : Int32)).toInt = 2) (by omega) (by omega)), List.forall_mem_cons.mpr ⟨fun t ht => (Option.some.inj ht) ▸ (nz_hz e7), List.forall_mem_nil _⟩⟩)) (fun j hj hn => g j hj (by simp only [List.mem_cons, List.not_mem_nil, or_false, not_or] at hn; omega)) (nz_fi (g 4 (by decide) (by decide))) (nz_fi (g 5 (by decide) (by decide))) ((congrArg Int32.toInt (zz_i e6)).trans (by decide : ((2 : Int32)).toInt = 2)) (nz_fi (g 11 (by decide) (by decide))) (nz_fi (g 12 (by decide) (by decide))) (nz_fi (g 14 (by decide) (by decide))) (nz_fi (g 15 (by decide) (by decide))) (nz_fi (g 16 (by decide) (by decide))) (nz_fa (g 42 (by decide) (by decide))) (nz_fa (g 43 (by decide) (by decide))) (nz_fa (g 44 (by decide) (by decide))) (nz_fa (g 45 (by decide) (by decide))) (nz_fa (g 46 (by decide) (by decide))) (nz_fa (g 47 (by decide) (by decide))) (nz_fa (g 48 (by decide) (by decide))) (nz_fa (g 49 (by decide) (by decide))) (nz_fa (g 50 (by decide) (by decide))))
  replace g3 : 0 < (sy_i F 6).toInt := by omega
  have c6 := nz_bx hB (k := 6) (lo := 0) (hi := 2) rfl
  have c4 := nz_bx hB (k := 4) (lo := 0) (hi := 400) rfl
  have q71 : (sy_ai F 25).getD (sy_i F 4).toNatClampNeg 0 = (sy_ai F 25).getD ((sy_i F 4).toInt).toNat 0 := by simp only [nz_c]
  have n71 : ((sy_ai F 25).getD (sy_i F 4).toNatClampNeg 0).toInt = ((sy_ai F 25).getD ((sy_i F 4).toInt).toNat 0).toInt := congrArg Int32.toInt q71
  have r71 := nz_ba hB (k := 25) (lo := 0) (hi := 42) rfl ((sy_i F 4).toInt).toNat
  exfalso
  omega
