/-! ===== the reference: a common divisor ===== -/
theorem cm_0_0 {Ls : Nat} {xs : Nat → Int32} {d : Nat} {Q : Option Value → jm_h → Prop} (hd : 1 ≤ d) (F : Nat → sy_d) (X1 X2 : List jm_c) (hB : iv_in F iv_B4)
    (k : ∀ F1 : Nat → sy_d, (∀ j, j < 69 → True → F1 j = F j) → F1 69 = .inl (.long (sy_l F 69)) → F1 70 = .inl (.long (sy_l F 70)) → hd_W Ls xs d jm_M210 Q (6, sy_dL F1 [none, none, none, none, some (.inr (.inr 69)), none, some (.inr (.inr 70)), none, none, none], sy_dS F1 [], sy_dh F1 X1 X2 (iv_H 4), 0, 0)) :
    hd_W Ls xs d jm_M210 Q (0, sy_dL F [some (.inr (.inr 69)), none, some (.inr (.inr 70)), none, none, none, none, none, none, none], sy_dS F [], sy_dh F X1 X2 (iv_H 4), 0, 0) := by
  refine hd_run (s := 4) (nv := 71) (pc := 6) (L := [none, none, none, none, some (.inr (.inr 69)), none, some (.inr (.inr 70)), none, none, none]) (S := []) (uh := hd_ov (iv_id 0 iv_B4) []) (ul := [.inl (.inr (.inr 69)), .inl (.inr (.inr 70))]) (f := true) (sp := [6]) (d0 := 0) (O := []) (T := []) (P := []) jm_ok210 (by decide +kernel) (by decide +kernel) hd F X1 X2 (fun F' hF hs => ?_)
  have b69 := hd_bl (F := F) (F' := F') (k := 69) (hF 69 (by decide))
  have b70 := hd_bl (F := F) (F' := F') (k := 70) (hF 70 (by decide))
  have hB' : iv_in F' iv_B4 := iv_in_eq hB (fun j hj => hF j (Nat.lt_of_lt_of_le hj (by decide +kernel)))
  refine ⟨fun _ h => absurd h List.not_mem_nil, ?_⟩
  refine k _ ?_ ?_ ?_
  · exact fun j hj _ => (hd_keep hB' (Nat.lt_of_lt_of_le hj (by decide +kernel)) (by simp)).trans (hF j (by omega))
  · exact hd_gl (x := .inr (.inr 69)) (by decide +kernel) b69
  · exact hd_gl (x := .inr (.inr 70)) (by decide +kernel) b70
theorem cm_6_0 {Ls : Nat} {xs : Nat → Int32} {d : Nat} {Q : Option Value → jm_h → Prop} (hd : 1 ≤ d) (F : Nat → sy_d) (X1 X2 : List jm_c) (hB : iv_in F iv_B4)
    (h0 : (lg_cmp (sy_l F 70) ((0 : Int64))).toInt = 0)
    (k : ∀ F1 : Nat → sy_d, (∀ j, j < 69 → True → F1 j = F j) → Q (some (.long (sy_l F 69))) (sy_dh F1 X1 X2 (iv_H 4))) :
    hd_W Ls xs d jm_M210 Q (6, sy_dL F [none, none, none, none, some (.inr (.inr 69)), none, some (.inr (.inr 70)), none, none, none], sy_dS F [], sy_dh F X1 X2 (iv_H 4), 0, 0) := by
  refine hd_ret (s := 4) (nv := 71) (v := some (.inr (.inr 69))) (uh := hd_ov (iv_id 0 iv_B4) []) (f := true) (sp := [6]) (d0 := 0) (O := [true]) (T := [(17, [.inr (.inr 70), .inl (.long 0)], [])]) (P := [(0, .inr (.inl 71), .inl (.int 0))]) jm_ok210 (by decide +kernel) (by decide +kernel) hd F X1 X2 (fun F' hF hs => ?_)
  have b70 := hd_bl (F := F) (F' := F') (k := 70) (hF 70 (by decide))
  have t71 : sy_dv F' (.inr (.inl 71)) = .int (lg_cmp (sy_l F 70) ((0 : Int64))) := hd_oc (hs 0 _ rfl) b70 rfl rfl
  have b69 := hd_bl (F := F) (F' := F') (k := 69) (hF 69 (by decide))
  have hB' : iv_in F' iv_B4 := iv_in_eq hB (fun j hj => hF j (Nat.lt_of_lt_of_le hj (by decide +kernel)))
  have hk := k (sy_cm F' (hd_ov (iv_id 0 iv_B4) [] ++ [])) (fun j hj _ => (hd_keep hB' (Nat.lt_of_lt_of_le hj (by decide +kernel)) (by simp)).trans (hF j (by omega)))
  refine ⟨List.forall_mem_cons.mpr ⟨hd_p0 t71 rfl (by have hc : ((0) : Int32).toInt = 0 := (by decide); omega), fun _ h => absurd h List.not_mem_nil⟩, ?_⟩
  show Q (some (sy_dv F' (.inr (.inr 69)))) _
  rw [b69]
  exact hk
theorem cm_6_1 {Ls : Nat} {xs : Nat → Int32} {d : Nat} {Q : Option Value → jm_h → Prop} (hd : 1 ≤ d) (F : Nat → sy_d) (X1 X2 : List jm_c) (hB : iv_in F iv_B4)
    (h0 : (lg_cmp (sy_l F 70) ((0 : Int64))).toInt ≠ 0)
    (h1 : (sy_l F 70).toInt ≠ 0)
    (k : ∀ F1 : Nat → sy_d, (∀ j, j < 69 → True → F1 j = F j) → F1 69 = .inl (.long (sy_l F 70)) → F1 70 = .inl (.long ((sy_l F 69) - (sy_l F 69) / (sy_l F 70) * (sy_l F 70))) → hd_W Ls xs d jm_M210 Q (6, sy_dL F1 [none, none, none, none, some (.inr (.inr 69)), none, some (.inr (.inr 70)), none, none, none], sy_dS F1 [], sy_dh F1 X1 X2 (iv_H 4), 0, 0)) :
    hd_W Ls xs d jm_M210 Q (6, sy_dL F [none, none, none, none, some (.inr (.inr 69)), none, some (.inr (.inr 70)), none, none, none], sy_dS F [], sy_dh F X1 X2 (iv_H 4), 0, 0) := by
  refine hd_run (s := 4) (nv := 71) (pc := 6) (L := [none, none, none, none, some (.inr (.inr 69)), none, some (.inr (.inr 70)), none, none, none]) (S := []) (uh := hd_ov (iv_id 0 iv_B4) []) (ul := [.inl (.inr (.inr 70)), .inl (.inr (.inr 72))]) (f := true) (sp := [6]) (d0 := 0) (O := [false]) (T := [(17, [.inr (.inr 70), .inl (.long 0)], []), (16, [.inr (.inr 69), .inr (.inr 70)], [])]) (P := [(1, .inr (.inl 71), .inl (.int 0)), (1, .inr (.inr 70), .inl (.long 0))]) jm_ok210 (by decide +kernel) (by decide +kernel) hd F X1 X2 (fun F' hF hs => ?_)
  have b70 := hd_bl (F := F) (F' := F') (k := 70) (hF 70 (by decide))
  have t71 : sy_dv F' (.inr (.inl 71)) = .int (lg_cmp (sy_l F 70) ((0 : Int64))) := hd_oc (hs 0 _ rfl) b70 rfl rfl
  have b69 := hd_bl (F := F) (F' := F') (k := 69) (hF 69 (by decide))
  have t72 : sy_dv F' (.inr (.inr 72)) = .long ((sy_l F 69) - (sy_l F 69) / (sy_l F 70) * (sy_l F 70)) := hd_oL (hs 1 _ rfl) b69 b70 rfl
  have hB' : iv_in F' iv_B4 := iv_in_eq hB (fun j hj => hF j (Nat.lt_of_lt_of_le hj (by decide +kernel)))
  refine ⟨List.forall_mem_cons.mpr ⟨hd_p1 t71 rfl (by have hc : ((0) : Int32).toInt = 0 := (by decide); omega), List.forall_mem_cons.mpr ⟨hd_pL b70 rfl (by have hc : (0 : Int64).toInt = 0 := (by decide); rw [hc]; exact h1), fun _ h => absurd h List.not_mem_nil⟩⟩, ?_⟩
  refine k _ ?_ ?_ ?_
  · exact fun j hj _ => (hd_keep hB' (Nat.lt_of_lt_of_le hj (by decide +kernel)) (by simp)).trans (hF j (by omega))
  · exact hd_gl (x := .inr (.inr 70)) (by decide +kernel) b70
  · exact hd_gl (x := .inr (.inr 72)) (by decide +kernel) t72
theorem hd_in1 {F F' : Nat → sy_d} {E : List iv_t} (hE : iv_in F E) (h : ∀ (j : Nat) (t : iv_t), E[j]? = some t → F' j = F j ∨ iv_has (F' j) t) : iv_in F' E := by
  intro j t hj
  rcases h j t hj with e | e
  · rw [e]; exact hE j t hj
  · exact e
theorem cm_lt (x : Int64) : (lg_cmp x 0).toInt = 0 ↔ x.toInt = 0 := by
  have hz : (0 : Int64).toInt = 0 := by decide
  unfold lg_cmp
  split
  · rename_i h
    have := Int64.lt_iff_toInt_lt.mp h
    rw [hz] at this
    exact ⟨fun q => absurd q (by decide), fun q => by omega⟩
  · split
    · rename_i h
      rw [h]
      exact ⟨fun _ => hz, fun _ => by decide⟩
    · rename_i h
      exact ⟨fun q => absurd q (by decide), fun q => absurd (Int64.toInt_inj.mp (by rw [q, hz])) h⟩
theorem cm_loop {Ls : Nat} {xs : Nat → Int32} (F : Nat → sy_d) (X1 X2 : List jm_c) : ∀ (n : Nat) (F1 : Nat → sy_d), iv_in F1 iv_B4 → (∀ j, j < 69 → F1 j = F j) → 0 ≤ (sy_l F1 69).toInt → 0 ≤ (sy_l F1 70).toInt → (sy_l F1 70).toInt < n → 1 ≤ (sy_l F1 69).toInt + (sy_l F1 70).toInt →
    hd_W Ls xs 1 jm_M210 (fun v G => ∃ (x : Int64) (F' : Nat → sy_d), v = some (.long x) ∧ 1 ≤ x.toInt ∧ G = sy_dh F' X1 X2 (iv_H 4) ∧ iv_in F' iv_B4 ∧ ∀ j, j < 69 → F' j = F j) (6, sy_dL F1 [none, none, none, none, some (.inr (.inr 69)), none, some (.inr (.inr 70)), none, none, none], sy_dS F1 [], sy_dh F1 X1 X2 (iv_H 4), 0, 0) := by
  intro n
  induction n with
  | zero => intro F1 _ _ _ h0 h1; omega
  | succ n ih =>
    intro F1 hB hf hx hy hn hs
    by_cases h0 : (sy_l F1 70).toInt = 0
    · refine cm_6_0 (Nat.le_refl _) F1 X1 X2 hB ((cm_lt _).mpr h0) (fun F2 h2 => ⟨_, F2, rfl, by omega, rfl, hd_in1 hB (fun j t hj => Or.inl (h2 j (List.getElem?_eq_some_iff.mp hj).1 trivial)), fun j hj => by rw [h2 j hj trivial, hf j hj]⟩)
    · have hr := Jvm.Kit.i64_rem_nonneg (x := sy_l F1 69) (y := sy_l F1 70) hx
      have h1 := Int.emod_nonneg (sy_l F1 69).toInt (b := (sy_l F1 70).toInt) h0
      have h2 := Int.emod_lt_of_pos (sy_l F1 69).toInt (b := (sy_l F1 70).toInt) (by omega)
      refine cm_6_1 (Nat.le_refl _) F1 X1 X2 hB (fun q => h0 ((cm_lt _).mp q)) h0 (fun F2 g1 g2 g3 => ?_)
      have e1 := zz_l g2
      have e2 := zz_l g3
      refine ih F2 (hd_in1 hB (fun j t hj => Or.inl (g1 j (List.getElem?_eq_some_iff.mp hj).1 trivial))) (fun j hj => by rw [g1 j hj trivial, hf j hj]) ?_ ?_ ?_ ?_
      · rw [e1]; omega
      · rw [e2, hr]; exact h1
      · rw [e2, hr]; omega
      · rw [e1, e2, hr]; omega
theorem ok_4_210 : ct_ok jj k_4_210 := by
  intro M hM Ls xs F X1 X2 hE hJ
  have hM : jm_TB[210]? = some M := hM
  have e : jm_TB[210]? = some jm_M210 := rfl
  rw [e] at hM
  cases hM
  have hE : iv_in F (iv_B4 ++ [(1, 0, 100000000), (1, 1, 100000000)]) := hE
  have hB : iv_in F iv_B4 := fun k t hk => hE k t (by rw [List.getElem?_append_left (List.getElem?_eq_some_iff.mp hk).1]; exact hk)
  obtain ⟨u, hu, u1, u2⟩ := iv_h1 (hE 69 (1, 0, 100000000) rfl)
  obtain ⟨w, hw, w1, w2⟩ := iv_h1 (hE 70 (1, 1, 100000000) rfl)
  refine jm_T_mono (P1 := fun v G => ∃ (x : Int64) (F' : Nat → sy_d), v = some (.long x) ∧ 1 ≤ x.toInt ∧ G = sy_dh F' X1 X2 (iv_H 4) ∧ iv_in F' iv_B4 ∧ ∀ j, j < 69 → F' j = F j) (hd_T (As := [.inr (.inr 69), .inr (.inr 70)]) jm_ok210 (by decide) (cm_0_0 (Nat.le_refl _) F X1 X2 hB (fun F1 g1 g2 g3 => ?_))) ?_
  · have e1 := zz_l g2
    have e2 := zz_l g3
    rw [zz_l hu] at e1
    rw [zz_l hw] at e2
    refine cm_loop F X1 X2 ((sy_l F1 70).toInt.toNat + 1) F1 (hd_in1 hB (fun j t hj => Or.inl (g1 j (List.getElem?_eq_some_iff.mp hj).1 trivial))) (fun j hj => g1 j hj trivial) ?_ ?_ ?_ ?_
    · rw [e1]; exact u1
    · rw [e2]; omega
    · rw [e2]; omega
    · rw [e1, e2]; omega
  · rintro v G ⟨x, F', rfl, hx, rfl, hB', hf⟩
    refine ⟨4, F', by decide, rfl, fun j hj _ => hf j hj, hB', ⟨rfl, hx, (iv_fullL x).2⟩, ?_⟩
    exact jj_plok.1 4 F F' (fun q hq => hf q hq) hJ
