/-! ===== a law's cells, from the place s on ===== -/
def lcs (a : Int) : Nat → List bRT → List Int
  | _, [] => []
  | s, (some (u, v), w) :: r => (u.map (cell a) ++ v.map (cell a) ++ [-15, ((s + u.length + v.length + w.length + 3 : Nat) : Int)] ++ w.map (cell a) ++ [-14]) ++ lcs a (s + u.length + v.length + w.length + 3) r
  | s, (none, w) :: r => (w.map (cell a) ++ [-14]) ++ lcs a (s + w.length + 1) r
theorem lcs_app (a : Int) : ∀ (l : List bRT) (s : Nat) (r : List bRT), lcs a s (l ++ r) = lcs a s l ++ lcs a (s + (lcs a s l).length) r
  | [], s, r => by
    show lcs a s r = [] ++ lcs a (s + 0) r
    rw [List.nil_append, Nat.add_zero]
  | (some (u, v), w) :: l, s, r => by
    show _ ++ lcs a _ (l ++ r) = (_ ++ lcs a _ l) ++ lcs a (s + (_ ++ lcs a _ l).length) r
    rw [lcs_app a l]
    refine (List.append_assoc _ _ _).symm.trans (congrArg _ (congrArg (fun x => lcs a x r) ?_))
    simp only [List.length_append, List.length_map, List.length_cons, List.length_nil]
    omega
  | (none, w) :: l, s, r => by
    show _ ++ lcs a _ (l ++ r) = (_ ++ lcs a _ l) ++ lcs a (s + (_ ++ lcs a _ l).length) r
    rw [lcs_app a l]
    refine (List.append_assoc _ _ _).symm.trans (congrArg _ (congrArg (fun x => lcs a x r) ?_))
    simp only [List.length_append, List.length_map, List.length_cons, List.length_nil]
    omega
theorem clc_len {code : List Int32} {c : Nat} : ∀ n : Nat, (clc code c n).length = n
  | 0 => rfl
  | n + 1 => by
    show (clc code c n ++ [_]).length = n + 1
    rw [List.length_append, clc_len n]
    rfl
/-- the cells L stand behind those of F0 -/
noncomputable def Cl (cs co : Nat) (F0 F : Nat → sy_d) (L : List Int) : Prop := (sy_i F cs).toInt = (sy_i F0 cs).toInt + L.length ∧ (sy_i F cs).toInt + tg F0 ≤ (sy_i F0 cs).toInt + tg F ∧ (∀ i : Nat, (i : Int) < (sy_i F0 cs).toInt → (sy_ai F co).getD i 0 = (sy_ai F0 co).getD i 0) ∧ clc (sy_ai F co) (sy_i F0 cs).toInt.toNat L.length = L
section CL
variable {cs co : Nat} {F0 F F1 : Nat → sy_d} {L : List Int}
theorem Cl_nil : Cl cs co F F [] := ⟨by simp, by omega, fun _ _ => rfl, rfl⟩
theorem Cl_dst (h : Cl cs co F0 F L) (e1 : (sy_i F1 cs).toInt = (sy_i F cs).toInt) (e2 : sy_ai F1 co = sy_ai F co) (e3 : tg F ≤ tg F1) : Cl cs co F0 F1 L := by
  unfold Cl at h ⊢
  rw [e1, e2]
  exact ⟨h.1, by have := h.2.1; omega, h.2.2⟩
theorem Cl_q {F2 : Nat → sy_d} (h : Cl cs co F0 F L) (e : ∀ q, q < 82 → F2 q = F q) (h1 : cs < 82) (h2 : co < 82) : Cl cs co F0 F2 L := Cl_dst h (nz_fi (e cs h1)) (nz_fa (e co h2)) (Nat.le_of_eq (tg_eq (nz_fi (e 33 (by decide)))).symm)
theorem Cl_src {F2 : Nat → sy_d} (h : Cl cs co F2 F L) (e : ∀ q, q < 82 → F2 q = F0 q) (h1 : cs < 82) (h2 : co < 82) : Cl cs co F0 F L := by
  unfold Cl at h ⊢
  rw [nz_fi (e cs h1), nz_fa (e co h2), tg_eq (nz_fi (e 33 (by decide)))] at h
  exact h
theorem Cl_app {L2 : List Int} (h0 : 0 ≤ (sy_i F0 cs).toInt) (h : Cl cs co F0 F L) (h2 : Cl cs co F F1 L2) : Cl cs co F0 F1 (L ++ L2) := by
  obtain ⟨a1, a2, a3, a4⟩ := h
  obtain ⟨b1, b2, b3, b4⟩ := h2
  refine ⟨by rw [List.length_append]; omega, by omega, fun i hi => by rw [b3 i (by omega), a3 i hi], ?_⟩
  rw [List.length_append, clc_add, clc_eq (a := sy_ai F co) _ (fun i _ h2 => b3 i (by omega)), a4, show (sy_i F0 cs).toInt.toNat + L.length = (sy_i F cs).toInt.toNat by omega, b4]
/-- one cell more; the tokens' count is told by itself -/
theorem Cl_push {v : Int32} (hp : 0 ≤ (sy_i F0 cs).toInt) (h : Cl cs co F0 F L) (e1 : (sy_i F1 cs).toInt = (sy_i F cs).toInt + 1) (e2 : sy_ai F1 co = jm_upd (sy_ai F co) ((sy_i F cs).toInt).toNat v) (e3 : (sy_i F1 cs).toInt + tg F0 ≤ (sy_i F0 cs).toInt + tg F1) : Cl cs co F0 F1 (L ++ [v.toInt]) := by
  obtain ⟨a1, a2, a3, a4⟩ := h
  refine ⟨by rw [List.length_append, e1, a1]; simp; omega, e3, fun i hi => by rw [e2, jm_upd_at, if_neg (by omega), a3 i hi], ?_⟩
  rw [List.length_append]
  show clc _ _ L.length ++ [((sy_ai F1 co).getD ((sy_i F0 cs).toInt.toNat + L.length) 0).toInt] = _
  rw [clc_eq (a := sy_ai F co) _ (fun i _ h2 => by rw [e2, jm_upd_at, if_neg (by omega)]), a4, e2, jm_upd_at, if_pos (by omega)]
theorem Cl_push2 {v w : Int32} (hp : 0 ≤ (sy_i F0 cs).toInt) (h : Cl cs co F0 F L) (e1 : (sy_i F1 cs).toInt = ((sy_i F cs).toInt + 1) + 1) (e2 : sy_ai F1 co = jm_upd (jm_upd (sy_ai F co) ((sy_i F cs).toInt).toNat v) (((sy_i F cs).toInt + 1)).toNat w) (e3 : (sy_i F1 cs).toInt + tg F0 ≤ (sy_i F0 cs).toInt + tg F1) : Cl cs co F0 F1 (L ++ [v.toInt, w.toInt]) := by
  obtain ⟨a1, a2, a3, a4⟩ := h
  refine ⟨by rw [List.length_append, e1, a1]; simp; omega, e3, fun i hi => by rw [e2, jm_upd_at, if_neg (by omega), jm_upd_at, if_neg (by omega), a3 i hi], ?_⟩
  rw [List.length_append]
  show (clc _ _ L.length ++ [((sy_ai F1 co).getD ((sy_i F0 cs).toInt.toNat + L.length) 0).toInt]) ++ [((sy_ai F1 co).getD ((sy_i F0 cs).toInt.toNat + (L.length + 1)) 0).toInt] = _
  rw [clc_eq (a := sy_ai F co) _ (fun i _ h2 => by rw [e2, jm_upd_at, if_neg (by omega), jm_upd_at, if_neg (by omega)]), a4, e2, jm_upd_at, if_neg (by omega), jm_upd_at, if_pos (by omega), jm_upd_at, if_pos (by omega), List.append_assoc]
  rfl
/-- a cell among them is put anew -/
theorem clc_put {code : List Int32} {c : Nat} {v : Int32} : ∀ (M : List Int) (x : Int) (L : List Int), clc code c (L ++ x :: M).length = L ++ x :: M → clc (jm_upd code (c + L.length) v) c (L ++ x :: M).length = L ++ v.toInt :: M := by
  intro M x L h
  have e : (L ++ x :: M).length = L.length + (1 + M.length) := by rw [List.length_append, List.length_cons]; omega
  rw [e, clc_add, clc_add] at h ⊢
  have h1 := List.append_inj h (clc_len _)
  have h2 := List.append_inj (s₁ := clc code (c + L.length) 1) (s₂ := [x]) h1.2 rfl
  rw [clc_eq (a := code) L.length (fun i _ h3 => by rw [jm_upd_at, if_neg (by omega)]), h1.1, clc_eq (a := code) (c := c + L.length + 1) M.length (fun i h3 _ => by rw [jm_upd_at, if_neg (by omega)]), h2.2]
  show L ++ ([((jm_upd code (c + L.length) v).getD (c + L.length + 0) 0).toInt] ++ M) = _
  rw [jm_upd_at, if_pos (by omega)]
  rfl
end CL
/-- an expression, by itself -/
theorem zE_run {cs co : Nat} {a : Int} {F F' : Nat → sy_d} (h : zE cs co 2 a 0 F F') (ht : tg F' ≤ 400) (hE : ¬ (kg F (tg F') = 8 ∨ kg F (tg F') = 9 ∨ kg F (tg F') = 10 ∨ kg F (tg F') = 15)) : ∃ ops : List rO, cX (kg F) (vg F) (tg F) [] 0 [] = .inr (tg F', ops) ∧ Cl cs co F F' (ops.map (cell a)) := by
  obtain ⟨h1, h2, h3, ops, h4, h5⟩ := h
  have n : (((sy_i F' cs).toInt - (sy_i F cs).toInt).toNat) = (ops.map (cell a)).length := by rw [← h4, clc_len]
  refine ⟨ops, ?_, by omega, h2, h3, by rw [← n]; exact h4⟩
  rw [h5 [] [] rfl ⟨fun z => absurd z (by decide), fun _ => rfl⟩, cX_e0 ht hE rfl]
  simp [coS]
