/-! ===== one thing is told: what it tells ===== -/
section LE
variable {K : Nat → Int} {L : Nat}
noncomputable def okL (L : Nat) (r : sE ⊕ Nat) : Prop := ∀ t', r = .inr t' → t' ≤ L
theorem okL_b {A : Type} {r : sE ⊕ A} {f : A → sE ⊕ Nat} (h : ∀ a, r = .inr a → okL L (f a)) : okL L (sB r f) := by
  intro t' e
  match r, h, e with
  | .inl x, _, e => cases (show (.inl x : sE ⊕ Nat) = .inr t' from e)
  | .inr a, h, e => exact h a rfl t' e
theorem okL_G {P : Nat → Int} {t : Nat} (hm : pm P K L) (h : t ≤ L) (hk : K t ≠ 0) : okL L (sG t) := by
  intro t' e
  unfold sG at e
  split at e
  · cases e
  · rename_i q
    cases e
    have := hm.2.2
    exact pm_nx hm h hk (by omega)
theorem okL_M {P : Nat → Int} {t : Nat} {k : Int} (hm : pm P K L) (h : t ≤ L) (hk : k ≠ 0) : okL L (sM K k t) := by
  intro t' e
  unfold sM at e
  split at e
  · rename_i q
    exact okL_G hm h (by rw [q]; exact hk) t' e
  · cases e
theorem okL_X {P : Nat → Int} {t d m : Nat} (hm : pm P K L) (h : t ≤ L) : okL L (eX K t d m) := fun _ e => eX_le hm.2.1 hm.2.2 h e
theorem okL_If {P : Nat → Int} {t : Nat} (hm : pm P K L) (h : t ≤ L) (hk : K t ≠ 0) : okL L (sIf K t) :=
  okL_b (fun a e => okL_b (fun a e2 => okL_b (fun a e3 => okL_b (fun a e4 => okL_b (fun a e5 => okL_b (fun a e6 => okL_M hm (okL_X hm (okL_M hm (okL_X hm (okL_M hm (okL_X hm (okL_G hm h hk _ e) _ e2) (by decide) _ e3) _ e4) (by decide) _ e5) _ e6) (by decide)))))))
theorem okL_Ifs {P : Nat → Int} (hm : pm P K L) : ∀ (n t : Nat), t ≤ L → okL L (sIfs K n t)
  | 0, t, h => by
    intro t' e
    have e : (if K t = 31 then (.inl (2, t) : sE ⊕ Nat) else .inr t) = .inr t' := e
    split at e
    · cases e
    · cases e
      exact h
  | n + 1, t, h => by
    intro t' e
    have e : (if K t = 31 then sB (sIf K t) (sIfs K n) else .inr t) = .inr t' := e
    split at e
    · rename_i q
      exact okL_b (fun a ea => okL_Ifs hm n a (okL_If hm h (by rw [q]; decide) _ ea)) t' e
    · cases e
      exact h
theorem okL_Lw {P : Nat → Int} {t : Nat} (hm : pm P K L) (h : t ≤ L) : okL L (sLw K t) :=
  okL_b (fun a e => okL_b (fun a e2 => okL_b (fun a e3 => okL_M hm (okL_X hm (okL_Ifs hm 4 _ (okL_M hm h (by decide) _ e) _ e2) _ e3) (by decide))))
end LE
section ONE
variable {K V : Nat → Int} {N : Nat → Int64} {t fr bu : Nat} {nm : List Int64} {w : sE}
theorem sOne_1 (h : K t < 20 ∨ 30 < K t) : sOne K V N (t, fr, bu, nm, w) = .inl (1, t) := by
  show (if K t = 20 then _ else if K t = 21 then _ else if K t = 28 ∨ K t = 29 then _ else if K t = 30 then _ else if 22 ≤ K t ∧ K t ≤ 27 then _ else _) = _
  rw [if_neg (by omega), if_neg (by omega), if_neg (by omega), if_neg (by omega), if_neg (by omega)]
theorem sOne_f (h : K t = 20) : sOne K V N (t, fr, bu, nm, w) = sFruit K V N (t, fr, bu, nm, w) := by
  show (if K t = 20 then _ else _) = _
  rw [if_pos h]
theorem sOne_b (h : K t = 21) : sOne K V N (t, fr, bu, nm, w) = sBuyer K V N (t, fr, bu, nm, w) := by
  show (if K t = 20 then _ else if K t = 21 then _ else _) = _
  rw [if_neg (by omega), if_pos h]
theorem sOne_s (h : K t = 28 ∨ K t = 29) : sOne K V N (t, fr, bu, nm, w) = sSet K V 99 (t, fr, bu, nm, w) := by
  show (if K t = 20 then _ else if K t = 21 then _ else if K t = 28 ∨ K t = 29 then _ else _) = _
  rw [if_neg (by omega), if_neg (by omega), if_pos h]
theorem sOne_s3 (h : K t = 30) : sOne K V N (t, fr, bu, nm, w) = sSet K V 9999 (t, fr, bu, nm, w) := by
  show (if K t = 20 then _ else if K t = 21 then _ else if K t = 28 ∨ K t = 29 then _ else if K t = 30 then _ else _) = _
  rw [if_neg (by omega), if_neg (by omega), if_neg (by omega), if_pos h]
theorem sOne_l (h : 22 ≤ K t ∧ K t ≤ 27) : sOne K V N (t, fr, bu, nm, w) = sLaw K (t, fr, bu, nm, w) := by
  show (if K t = 20 then _ else if K t = 21 then _ else if K t = 28 ∨ K t = 29 then _ else if K t = 30 then _ else if 22 ≤ K t ∧ K t ≤ 27 then _ else _) = _
  rw [if_neg (by omega), if_neg (by omega), if_neg (by omega), if_neg (by omega), if_pos h]
theorem sF_7 (h : fr = 7) : sFruit K V N (t, fr, bu, nm, w) = .inl (2, t) := by
  show (if fr = 7 then _ else _) = _
  rw [if_pos h]
theorem sF_n (h : fr ≠ 7) : sFruit K V N (t, fr, bu, nm, w) = sB (sG t) fun t => sB (sTell K V N (0, 9) (1, 9) (0, 99) (t, nm, w)) fun q => .inr (q.1, fr + 1, bu, nm ++ [N t], q.2) := by
  show (if fr = 7 then _ else _) = _
  rw [if_neg h]
theorem sBu_4 (h : bu = 4) : sBuyer K V N (t, fr, bu, nm, w) = .inl (2, t) := by
  show (if bu = 4 then _ else _) = _
  rw [if_pos h]
theorem sBu_n (h : bu ≠ 4) : sBuyer K V N (t, fr, bu, nm, w) = sB (sG t) fun t => sB (sTell K V N (0, 9) (0, 3) (0, 999) (t, nm, w)) fun q => .inr (q.1, fr, bu + 1, nm ++ [N t], q.2) := by
  show (if bu = 4 then _ else _) = _
  rw [if_neg h]
end ONE
noncomputable def FRf (F : Nat → sy_d) : Int := ((sy_ai F 31).getD (sy_i F 12).toInt.toNat 0).toInt
noncomputable def BUf (F : Nat → sy_d) : Int := ((sy_ai F 35).getD (sy_i F 12).toInt.toNat 0).toInt
noncomputable def rt (P : Nat → Int) (L : Nat) (x : sT) (F : Nat → sy_d) : Prop := tn F = x.1 ∧ x.1 ≤ L ∧ FRf F = x.2.1 ∧ BUf F = x.2.2.1 ∧ nmr x.2.2.2.1 F ∧ wr P x.2.2.2.2 F
noncomputable def toy_A (F F' : Nat → sy_d) : Prop := ∀ (L : Nat) (x : sT), pm (pf F) (kf F) L → rt (pf F) L x F → an (pf F) (sOne (kf F) (vf F) (nf F) x) (rt (pf F) L) F F'
noncomputable def toy_Q (F : Nat → sy_d) (X1 X2 : List jm_c) (v : Option Value) (G : jm_h) : Prop := ∃ F' : Nat → sy_d, v = none ∧ G = sy_dh F' X1 X2 (iv_H 4) ∧ gr WO F F' ∧ pk F' ∧ ((sy_i F' 6).toInt = 0 → (sy_i F 4).toInt + 1 ≤ (sy_i F' 4).toInt) ∧ toy_A F F'
section TOY
variable {Ls : Nat} {xs : Nat → Int32} (X1 X2 : List jm_c) (F : Nat → sy_d)
end TOY
