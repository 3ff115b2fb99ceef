/-! ===== what a law is put as: branch by branch ===== -/
abbrev bRT : Type := Option (List rO × List rO) × List rO
section ZI
variable (K V : Nat → Int)
noncomputable def zLast (acc : List bRT) (t : Nat) : sE ⊕ (Nat × List bRT) := sB (cX K V t [] 0 []) fun p => sB (sM K 4 p.1) fun t => .inr (t, acc ++ [(none, p.2)])
noncomputable def zc6 (f : List bRT → Nat → sE ⊕ (Nat × List bRT)) (acc : List bRT) (u v w : List rO) (t : Nat) : sE ⊕ (Nat × List bRT) := sB (sM K 33 t) (f (acc ++ [(some (u, v), w)]))
noncomputable def zc5 (f : List bRT → Nat → sE ⊕ (Nat × List bRT)) (acc : List bRT) (u v : List rO) (t : Nat) : sE ⊕ (Nat × List bRT) := sB (cX K V t [] 0 []) fun p => zc6 K f acc u v p.2 p.1
noncomputable def zc4 (f : List bRT → Nat → sE ⊕ (Nat × List bRT)) (acc : List bRT) (u v : List rO) (t : Nat) : sE ⊕ (Nat × List bRT) := sB (sM K 32 t) (zc5 K V f acc u v)
noncomputable def zc3 (f : List bRT → Nat → sE ⊕ (Nat × List bRT)) (acc : List bRT) (u : List rO) (t : Nat) : sE ⊕ (Nat × List bRT) := sB (cX K V t [] 0 []) fun p => zc4 K V f acc u p.2 p.1
noncomputable def zc2 (f : List bRT → Nat → sE ⊕ (Nat × List bRT)) (acc : List bRT) (u : List rO) (t : Nat) : sE ⊕ (Nat × List bRT) := sB (sM K 13 t) (zc3 K V f acc u)
noncomputable def zc1 (f : List bRT → Nat → sE ⊕ (Nat × List bRT)) (acc : List bRT) (t : Nat) : sE ⊕ (Nat × List bRT) := sB (cX K V t [] 0 []) fun p => zc2 K V f acc p.2 p.1
noncomputable def zI : Nat → List bRT → Nat → sE ⊕ (Nat × List bRT)
  | 0, acc, t => if K t = 31 then .inl (2, t) else zLast K V acc t
  | n + 1, acc, t => if K t = 31 then sB (sG t) (zc1 K V (zI n) acc) else zLast K V acc t
noncomputable def zLw (t : Nat) : sE ⊕ (Nat × List bRT) := sB (sM K 5 t) (zI K V 4 [])
theorem z_if {n t : Nat} {acc : List bRT} (h : K t = 31) : zI K V (n + 1) acc t = sB (sG t) (zc1 K V (zI K V n) acc) := by
  show (if K t = 31 then _ else _) = _
  rw [if_pos h]
theorem z_if0 {t : Nat} {acc : List bRT} (h : K t = 31) : zI K V 0 acc t = .inl (2, t) := by
  show (if K t = 31 then _ else _) = _
  rw [if_pos h]
theorem z_no {n t : Nat} {acc : List bRT} (h : K t ≠ 31) : zI K V n acc t = zLast K V acc t := by
  cases n with
  | zero =>
    show (if K t = 31 then _ else _) = _
    rw [if_neg h]
  | succ n =>
    show (if K t = 31 then _ else _) = _
    rw [if_neg h]
end ZI
/-! ===== what the reference has put ===== -/
noncomputable def cut_ (F : Nat → sy_d) (x y : Int) : List rO := clf (sy_ai F 49) (sy_ai F 50) x.toNat (y - x).toNat
noncomputable def ix (F : Nat → sy_d) (a b : Nat) : Int := ((sy_ai F a).getD b 0).toInt
noncomputable def bq (F : Nat → sy_d) (b : Nat) : bRT := (if (sy_ai F 44).getD b 0 = 1 then some (cut_ F (ix F 45 b) (ix F 46 b), cut_ F (ix F 46 b) (ix F 47 b)) else none, cut_ F (ix F 47 b) (ix F 48 b))
noncomputable def bL (F : Nat → sy_d) (b0 : Nat) : Nat → List bRT
  | 0 => []
  | n + 1 => bL F b0 n ++ [bq F (b0 + n)]
noncomputable def aA (F0 F : Nat → sy_d) : List bRT := bL F (sy_i F0 14).toInt.toNat ((sy_i F 14).toInt - (sy_i F0 14).toInt).toNat
noncomputable def bN (F : Nat → sy_d) : Nat := (sy_i F 14).toInt.toNat
noncomputable def uU (F : Nat → sy_d) : List rO := cut_ F (ix F 45 (bN F)) (ix F 46 (bN F))
noncomputable def vV (F : Nat → sy_d) : List rO := cut_ F (ix F 46 (bN F)) (sy_i F 15).toInt
noncomputable def uu1 (F : Nat → sy_d) : List rO := cut_ F (ix F 45 (bN F)) (sy_i F 15).toInt
theorem cut_kp {F F1 : Nat → sy_d} {x y : Int} (h0 : 0 ≤ x) (hy : y ≤ (sy_i F 15).toInt) (hk : kp F F1) : cut_ F1 x y = cut_ F x y := by
  unfold cut_
  exact clf_eq _ (fun i h1 h2 => hk i (Or.inl (by omega)))
theorem cut_eq {F F1 : Nat → sy_d} {x y : Int} (a49 : sy_ai F1 49 = sy_ai F 49) (a50 : sy_ai F1 50 = sy_ai F 50) : cut_ F1 x y = cut_ F x y := by
  unfold cut_
  rw [a49, a50]
theorem bq_kp {F F1 : Nat → sy_d} {sd b : Nat} (h : rp_br F sd (sy_i F 15).toInt b) (hs : s5 F F1 b) (hk : kp F F1) : bq F1 b = bq F b := by
  obtain ⟨s1, s2, s3, s4, s6⟩ := hs
  obtain ⟨h1, h2⟩ := h
  unfold bq ix
  rw [s1, s2, s3, s4, s6]
  have e2 : cut_ F1 ((sy_ai F 47).getD b 0).toInt ((sy_ai F 48).getD b 0).toInt = cut_ F ((sy_ai F 47).getD b 0).toInt ((sy_ai F 48).getD b 0).toInt := cut_kp (by have := h2.1; omega) h2.2.1 hk
  rw [e2]
  by_cases q : (sy_ai F 44).getD b 0 = 1
  · obtain ⟨y1, y2⟩ := h1 q
    rw [if_pos q, if_pos q, cut_kp (by have := y1.1; omega) y1.2.1 hk, cut_kp (by have := y2.1; omega) y2.2.1 hk]
  · rw [if_neg q, if_neg q]
theorem bL_kp {F F1 : Nat → sy_d} {b0 : Nat} : ∀ n : Nat, (∀ b, b0 ≤ b → b < b0 + n → bq F1 b = bq F b) → bL F1 b0 n = bL F b0 n
  | 0, _ => rfl
  | n + 1, h => by
    unfold bL
    rw [h (b0 + n) (by omega) (by omega), bL_kp n (fun b h1 h2 => h b h1 (by omega))]
theorem aA_st {j : Int} {F0 F F1 : Nat → sy_d} (hb0 : 0 ≤ (sy_i F0 14).toInt) (h : li j F0 F) (e14 : (sy_i F1 14).toInt = (sy_i F 14).toInt) (hs : ∀ b : Nat, (b : Int) ≠ (sy_i F 14).toInt → s5 F F1 b) (hk : kp F F1) : aA F0 F1 = aA F0 F := by
  unfold aA
  rw [e14]
  exact bL_kp _ (fun b h1 h2 => bq_kp (h.2.2.2 b (by omega) (by omega)) (hs b (by omega)) hk)
theorem aA_same {F0 F F1 : Nat → sy_d} (e14 : (sy_i F1 14).toInt = (sy_i F 14).toInt) (a44 : sy_ai F1 44 = sy_ai F 44) (a45 : sy_ai F1 45 = sy_ai F 45) (a46 : sy_ai F1 46 = sy_ai F 46) (a47 : sy_ai F1 47 = sy_ai F 47) (a48 : sy_ai F1 48 = sy_ai F 48) (a49 : sy_ai F1 49 = sy_ai F 49) (a50 : sy_ai F1 50 = sy_ai F 50) : aA F0 F1 = aA F0 F := by
  unfold aA
  rw [e14]
  exact bL_kp _ (fun b _ _ => by unfold bq ix cut_; rw [a44, a45, a46, a47, a48, a49, a50])
theorem uv_same {F F1 : Nat → sy_d} (e14 : (sy_i F1 14).toInt = (sy_i F 14).toInt) (e15 : (sy_i F1 15).toInt = (sy_i F 15).toInt) (a45 : sy_ai F1 45 = sy_ai F 45) (a46 : sy_ai F1 46 = sy_ai F 46) (a49 : sy_ai F1 49 = sy_ai F 49) (a50 : sy_ai F1 50 = sy_ai F 50) : uU F1 = uU F ∧ vV F1 = vV F := by
  unfold uU vV bN ix cut_
  rw [e14, e15, a45, a46, a49, a50]
  exact ⟨rfl, rfl⟩
/-- a branch more -/
theorem aA_push {j : Int} {F0 F F1 : Nat → sy_d} (hb0 : 0 ≤ (sy_i F0 14).toInt) (h14 : (sy_i F0 14).toInt ≤ (sy_i F 14).toInt) (h : li j F0 F) (e14 : (sy_i F1 14).toInt = (sy_i F 14).toInt + 1) (hs : ∀ b : Nat, (b : Int) ≠ (sy_i F 14).toInt → s5 F F1 b) (hk : kp F F1) : aA F0 F1 = aA F0 F ++ [bq F1 (bN F)] := by
  unfold aA
  rw [show ((sy_i F1 14).toInt - (sy_i F0 14).toInt).toNat = ((sy_i F 14).toInt - (sy_i F0 14).toInt).toNat + 1 by omega]
  show bL F1 _ _ ++ [_] = _
  rw [bL_kp (F := F) _ (fun b h1 h2 => bq_kp (h.2.2.2 b (by omega) (by omega)) (hs b (by omega)) hk), show (sy_i F0 14).toInt.toNat + ((sy_i F 14).toInt - (sy_i F0 14).toInt).toNat = bN F by unfold bN; omega]
