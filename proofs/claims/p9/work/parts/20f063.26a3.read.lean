/-! ===== the class reads a text, with what it stores (shape 3) ===== -/
section RD3
variable {Ls : Nat} {xs : Nat → Int32} (X1 X2 : List jm_c)
theorem k3py_C (F : Nat → sy_d) (hB : iv_in F iv_B0) (hJ : jx_ok F) (hw : sy_al F 42 = wls) (n : Int32) {e : Nat} (en : n.toInt = e) (he : e ≤ 2000) : jm_T Ls xs 28 jm_M31 [.ref 30, .ref 9, .int n, .ref 10] (sy_dh F X1 X2 (iv_H 3)) 0 0 (fun v G => ∃ (x : Int32) (F' : Nat → sy_d), v = some (.int x) ∧ G = sy_dh F' X1 X2 (iv_H 3) ∧ gc (39 :: 40 :: 41 :: 35 :: k3_WP) F F' ∧ jx_ok F' ∧ x.toInt = (rdA (ub (sy_ai F 2) e) e).1 ∧ (sy_i F' 35).toInt = (rdA (ub (sy_ai F 2) e) e).2 ∧ (x.toInt = 0 → rXc 3 (rdT (ub (sy_ai F 2) e) e) F' ∧ (sy_i F' 8).toInt ≤ 412)) := by
  refine nyy_T (by decide) F (fun _ => .inl (.int n)) X1 X2 (A := [.inl (.ref 30), .inl (.ref 9), .inr (.inl 82), .inl (.ref 10)]) jm_ok31 (by decide) rfl ?_
  obtain ⟨F0, hF0⟩ : ∃ F0, F0 = ny F (fun _ => .inl (.int n)) := ⟨_, rfl⟩
  have k0 : ∀ j, j < 82 → F0 j = F j := fun j hj => by rw [hF0]; exact ny_lt j hj
  have e82 : (sy_i F0 82).toInt = e := by rw [hF0]; exact en
  rw [← hF0]
  refine k3py_0 (by decide) F0 X1 X2 (hd_iveq0 hB k0) ?_
  intro F1 hb g e33 e34 e36 e37 e38 eFR eBU f82
  have g1 : ∀ j, j < 82 → F1 j = F j := fun j hj => (g j hj (by simp)).trans (k0 j hj)
  have hw1 : sy_al F1 42 = wls := (nz_fl (g1 42 (by decide))).trans hw
  refine hd_calV (R := fun F' => gc [39, 40, 41] F1 F' ∧ jx_ok F' ∧ ∃ L : Nat, L ≤ 400 ∧ (∀ j, j ≤ L → tg_ F1 F' e j) ∧ (∀ j, j < L → kg F' j ≠ 0 ∧ kg F' j ≠ 3) ∧ (kg F' L = 0 ∨ kg F' L = 3 ∨ L = 400)) (nh := 82) (nv := 83) (s := 3) (s1 := 3) (d1 := 6) (M1 := jm_M58) (As := [.inl (.ref 31), .inl (.ref 9), .inr (.inl 82)]) (rest := []) jm_ok31 rfl rfl (by decide) (by decide +kernel) (k3cu_T X1 X2 F1 hb (jx_ok_eq (g1 39 (by decide)) (g1 41 (by decide)) hJ) (wd_wls hw1) _ (f82.trans e82) he) (fun F3 F' hR p1 _ => ?_)
  obtain ⟨r1, r2, L, r3, r4, r5, r6⟩ := hR
  have eb : bg F1 e = ub (sy_ai F 2) e := by unfold bg; rw [nz_fa (g1 2 (by decide))]
  have hwg : wg F1 = fun k => wls.getD k 0 := by
    funext k
    unfold wg
    rw [hw1]
  have e1 := kg_eq (p1 39 (by decide))
  have e2 := pg_eq (p1 40 (by decide))
  have e3 := vg_eq (p1 41 (by decide))
  have e4 := ng_eq (p1 41 (by decide))
  have tt : ∀ j, j ≤ L → tk (ub (sy_ai F 2) e) e (wg F1) (kg F3) (pg F3) (vg F3) (ng F3) j := fun j hj => by
    have := r4 j hj
    unfold tg_ at this
    rw [e1, e2, e3, e4, ← eb]
    exact this
  rw [← e1] at r6
  have hA := rd_same hwg tt r6
  have hT := rd_sameT hwg tt r6
  have j3 : jx_ok F3 := jx_ok_eq (p1 39 (by decide)) (p1 41 (by decide)) r2
  refine hd_mono (k3zpy_9T X1 X2 F3 (hd_iveq0 r1.1 p1) j3) ?_
  rintro v G ⟨x, F', rfl, rfl, h1, h2, h3, h4⟩
  rw [hA] at h2 h3
  rw [hT] at h4
  exact ⟨x, F', rfl, rfl, ⟨h1.1, fun j hj hn => (h1.2 j hj (fun q => hn (List.mem_cons_of_mem _ (List.mem_cons_of_mem _ (List.mem_cons_of_mem _ q))))).trans ((p1 j hj).trans ((r1.2 j hj (fun q => hn (by revert q; simp; omega))).trans (g1 j hj)))⟩, jx_ok_eq (h1.2 39 (by decide) (by decide)) (h1.2 41 (by decide) (by decide)) j3, h2, h3, h4⟩
end RD3
