/-! ===== the reference reads ===== -/
theorem ct_v {M : jm_M} {n d : Nat} {W : List Nat} (h : ct_ok jj (n, [.inl (.ref 1000)], 4, [4], iv_B4, W, iv_B4, none, d)) (hM : jm_TB[n]? = some M) {Ls : Nat} {xs : Nat → Int32} (F : Nat → sy_d) (X1 X2 : List jm_c) (hB : iv_in F iv_B4) (hJ : jm_rpn F) :
    jm_T Ls xs d M [.ref 1000] (sy_dh F X1 X2 (iv_H 4)) 0 0 (fun v G => ∃ F' : Nat → sy_d, v = none ∧ G = sy_dh F' X1 X2 (iv_H 4) ∧ iv_in F' iv_B4 ∧ (∀ j, j < 69 → W.contains j = false → F' j = F j) ∧ jm_rpn F') := by
  refine jm_T_mono (h M hM Ls xs F X1 X2 hB hJ) ?_
  rintro v G ⟨t, F', ht, hG, hf, hB', hv, hj⟩
  have ht : t ∈ [4] := ht
  have e : t = 4 := List.mem_singleton.mp ht
  subst e
  have hv : v = none := by
    cases v with
    | none => rfl
    | some x => exact absurd hv (by intro q; cases q)
  exact ⟨F', hv, hG, hB', hf, hj⟩
theorem u6_at (l : List Int32) (s : Int) (h0 : 0 ≤ s) (h1 : s ≤ 1) (i : Nat) : (jm_upd (jm_upd (jm_upd (jm_upd (jm_upd (jm_upd l (6 * s + 0).toNat 0) (6 * s + 1).toNat 0) (6 * s + 2).toNat 0) (6 * s + 3).toNat 0) (6 * s + 4).toNat 0) (6 * s + 5).toNat 0).getD i 0 = if 6 * s ≤ i ∧ (i : Int) < 6 * s + 6 then 0 else l.getD i 0 := by
  rw [jm_upd_at, jm_upd_at, jm_upd_at, jm_upd_at, jm_upd_at, jm_upd_at]
  by_cases q : 6 * s ≤ i ∧ (i : Int) < 6 * s + 6
  · rw [if_pos q]
    repeat' split
    all_goals first | rfl | (exfalso; omega)
  · rw [if_neg q, if_neg (by omega), if_neg (by omega), if_neg (by omega), if_neg (by omega), if_neg (by omega), if_neg (by omega)]
noncomputable def re_Q (X1 X2 : List jm_c) (v : Option Value) (G : jm_h) : Prop := ∃ (x : Int32) (F' : Nat → sy_d), v = some (.int x) ∧ G = sy_dh F' X1 X2 (iv_H 4) ∧ iv_in F' iv_B4 ∧ jm_rpn F' ∧ (sy_i F' 1).toInt = 0
section RE
variable {Ls : Nat} {xs : Nat → Int32} (X1 X2 : List jm_c)
end RE
