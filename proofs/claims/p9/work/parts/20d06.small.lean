/-! ===== small methods: what they tell ===== -/
noncomputable def vf (F : Nat → sy_d) (n : Nat) : Int := ((sy_ai F 27).getD n 0).toInt
noncomputable def nf (F : Nat → sy_d) (n : Nat) : Int64 := (sy_al F 28).getD n 0
theorem kf_eq {F F1 : Nat → sy_d} (h : F1 25 = F 25) : kf F1 = kf F := by funext n; unfold kf; rw [nz_fa h]
theorem pf_eq {F F1 : Nat → sy_d} (h : F1 26 = F 26) : pf F1 = pf F := by funext n; unfold pf; rw [nz_fa h]
theorem vf_eq {F F1 : Nat → sy_d} (h : F1 27 = F 27) : vf F1 = vf F := by funext n; unfold vf; rw [nz_fa h]
theorem nf_eq {F F1 : Nat → sy_d} (h : F1 28 = F 28) : nf F1 = nf F := by funext n; unfold nf sy_al; rw [h]
/-- the places of the tokens go up, as far as the text was cut -/
noncomputable def pm (P K : Nat → Int) (L : Nat) : Prop := (∀ i j, i < j → j ≤ L → P i < P j) ∧ (K L = 0 ∨ L = 400) ∧ L ≤ 400
noncomputable def wr (P : Nat → Int) (w : sE) (F : Nat → sy_d) : Prop := (sy_i F 8).toInt = w.1 ∧ 0 ≤ w.1 ∧ (w.1 ≠ 0 → (sy_i F 9).toInt = P w.2 ∧ w.2 < tn F)
noncomputable def nop (F F' : Nat → sy_d) : Prop := (sy_i F 6).toInt ≠ 0 → (sy_i F' 6).toInt = (sy_i F 6).toInt ∧ (sy_i F' 7).toInt = (sy_i F 7).toInt
/-- from F to F' what r tells was done -/
noncomputable def an {A : Type} (P : Nat → Int) (r : sE ⊕ A) (J : A → (Nat → sy_d) → Prop) (F F' : Nat → sy_d) : Prop := (sy_i F 6).toInt = 0 → ((sy_i F' 6).toInt ≠ 0 → ∃ tok, r = .inl ((sy_i F' 6).toInt, tok) ∧ (sy_i F' 7).toInt = P tok) ∧ ((sy_i F' 6).toInt = 0 → ∃ a, r = .inr a ∧ J a F')
theorem nop_trans {F F1 F2 : Nat → sy_d} (h : nop F F1) (h2 : nop F1 F2) : nop F F2 := fun q => by
  obtain ⟨a, b⟩ := h q
  obtain ⟨c, d⟩ := h2 (by rw [a]; exact q)
  exact ⟨c.trans a, d.trans b⟩
theorem nop_same {F F1 : Nat → sy_d} (h6 : (sy_i F1 6).toInt = (sy_i F 6).toInt) (h7 : (sy_i F1 7).toInt = (sy_i F 7).toInt) : nop F F1 := fun _ => ⟨h6, h7⟩
theorem an_bind {A B : Type} {P : Nat → Int} {r : sE ⊕ A} {f : A → sE ⊕ B} {J : A → (Nat → sy_d) → Prop} {J2 : B → (Nat → sy_d) → Prop} {F F1 F2 : Nat → sy_d} (h1 : an P r J F F1) (hn : nop F1 F2) (h2 : (sy_i F1 6).toInt = 0 → ∀ a, J a F1 → an P (f a) J2 F1 F2) : an P (sB r f) J2 F F2 := by
  intro h0
  obtain ⟨a1, a2⟩ := h1 h0
  by_cases q : (sy_i F1 6).toInt = 0
  · obtain ⟨a, rfl, hJ⟩ := a2 q
    exact h2 q a hJ q
  · obtain ⟨tok, rfl, hp⟩ := a1 q
    obtain ⟨e6, e7⟩ := hn q
    exact ⟨fun _ => ⟨tok, by rw [e6]; rfl, by rw [e7]; exact hp⟩, fun z => absurd z (by rw [e6]; exact q)⟩
theorem an_mono {A : Type} {P : Nat → Int} {r : sE ⊕ A} {J J' : A → (Nat → sy_d) → Prop} {F F1 F2 : Nat → sy_d} (h : an P r J F F1) (h6 : (sy_i F2 6).toInt = (sy_i F1 6).toInt) (h7 : (sy_i F2 7).toInt = (sy_i F1 7).toInt) (hJ : ∀ a, J a F1 → J' a F2) : an P r J' F F2 := by
  intro h0
  obtain ⟨a1, a2⟩ := h h0
  rw [h6, h7]
  exact ⟨a1, fun z => by
    obtain ⟨a, e, j⟩ := a2 z
    exact ⟨a, e, hJ a j⟩⟩
theorem an_src {A : Type} {P : Nat → Int} {r : sE ⊕ A} {J : A → (Nat → sy_d) → Prop} {F F0 F1 : Nat → sy_d} (h : an P r J F0 F1) (h6 : (sy_i F0 6).toInt = (sy_i F 6).toInt) : an P r J F F1 := fun z => h (by rw [h6]; exact z)
theorem nop_src {F F0 F1 : Nat → sy_d} (h : nop F0 F1) (h6 : (sy_i F0 6).toInt = (sy_i F 6).toInt) (h7 : (sy_i F0 7).toInt = (sy_i F 7).toInt) : nop F F1 := fun z => by
  rw [← h6, ← h7]
  exact h (by rw [h6]; exact z)
theorem an_no {A : Type} {P : Nat → Int} {r : sE ⊕ A} {J : A → (Nat → sy_d) → Prop} {F F1 : Nat → sy_d} (h : (sy_i F 6).toInt ≠ 0) : an P r J F F1 := fun z => absurd z h
theorem an_er {A : Type} {P : Nat → Int} {r : sE ⊕ A} {J : A → (Nat → sy_d) → Prop} {F F1 : Nat → sy_d} {k : Int} {tok : Nat} (hr : r = .inl (k, tok)) (h6 : (sy_i F1 6).toInt = k) (hk : k ≠ 0) (h7 : (sy_i F1 7).toInt = P tok) : an P r J F F1 := fun _ => ⟨fun _ => ⟨tok, by rw [h6]; exact hr, h7⟩, fun z => absurd z (by rw [h6]; exact hk)⟩
theorem an_ok {A : Type} {P : Nat → Int} {r : sE ⊕ A} {J : A → (Nat → sy_d) → Prop} {F F1 : Nat → sy_d} {a : A} (hr : r = .inr a) (h6 : (sy_i F1 6).toInt = 0) (hJ : J a F1) : an P r J F F1 := fun _ => ⟨fun z => absurd h6 z, fun _ => ⟨a, hr, hJ⟩⟩
section SQ
variable {K : Nat → Int} {k : Int} {t : Nat}
theorem sG_ok (h : t < 400) : sG t = .inr (t + 1) := by unfold sG; rw [if_neg (by omega)]
theorem sG_4 (h : t = 400) : sG t = .inl (2, t) := by unfold sG; rw [if_pos h]
theorem sM_ok (hk : K t = k) (h : t < 400) : sM K k t = .inr (t + 1) := by unfold sM; rw [if_pos hk, sG_ok h]
theorem sM_4 (hk : K t = k) (h : t = 400) : sM K k t = .inl (2, t) := by unfold sM; rw [if_pos hk, sG_4 h]
theorem sM_no (hk : K t ≠ k) : sM K k t = .inl (1, t) := by unfold sM; rw [if_neg hk]
theorem sN_no {V : Nat → Int} {lo hi : Int} {w : sE} (hk : K t ≠ 2) : sN K V lo hi (t, w) = .inl (1, t) := by
  show sB (sM K 2 t) _ = _
  rw [sM_no hk]
  rfl
theorem sN_4 {V : Nat → Int} {lo hi : Int} {w : sE} (hk : K t = 2) (h : t = 400) : sN K V lo hi (t, w) = .inl (2, t) := by
  show sB (sM K 2 t) _ = _
  rw [sM_4 hk h]
  rfl
theorem sN_ok {V : Nat → Int} {lo hi : Int} {w : sE} (hk : K t = 2) (h : t < 400) : sN K V lo hi (t, w) = .inr (t + 1, sW w (V t < lo ∨ hi < V t) 5 t) := by
  show sB (sM K 2 t) _ = _
  rw [sM_ok hk h]
  rfl
theorem sNm_no {N : Nat → Int64} {nm : List Int64} {w : sE} (hk : K t ≠ 1) : sNm K N (t, nm, w) = .inl (1, t) := by
  show sB (sM K 1 t) _ = _
  rw [sM_no hk]
  rfl
theorem sNm_4 {N : Nat → Int64} {nm : List Int64} {w : sE} (hk : K t = 1) (h : t = 400) : sNm K N (t, nm, w) = .inl (2, t) := by
  show sB (sM K 1 t) _ = _
  rw [sM_4 hk h]
  rfl
theorem sNm_ok {N : Nat → Int64} {nm : List Int64} {w : sE} (hk : K t = 1) (h : t < 400) : sNm K N (t, nm, w) = .inr (t + 1, sW w (N t ∈ nm) 3 t) := by
  show sB (sM K 1 t) _ = _
  rw [sM_ok hk h]
  rfl
end SQ
theorem wr_s {P : Nat → Int} {F F1 : Nat → sy_d} {w : sE} {b : Prop} [Decidable b] {k : Int} {tok : Nat} (hk : 0 < k) (h : wr P w F) (ht : tn F ≤ tn F1) (htok : tok < tn F1) (c : (b ∧ w.1 = 0 ∧ (sy_i F1 8).toInt = k ∧ (sy_i F1 9).toInt = P tok) ∨ ((¬ b ∨ w.1 ≠ 0) ∧ (sy_i F1 8).toInt = (sy_i F 8).toInt ∧ (sy_i F1 9).toInt = (sy_i F 9).toInt)) : wr P (sW w b k tok) F1 := by
  obtain ⟨h1, h2, h3⟩ := h
  unfold sW
  rcases c with ⟨c1, c2, c3, c4⟩ | ⟨c1, c2, c3⟩
  · rw [if_pos ⟨c1, c2⟩]
    exact ⟨c3, by show 0 ≤ k; omega, fun _ => ⟨c4, htok⟩⟩
  · rw [if_neg (fun q => by rcases c1 with c1 | c1; exact c1 q.1; exact c1 q.2)]
    refine ⟨by rw [c2]; exact h1, h2, fun q => ?_⟩
    obtain ⟨x, y⟩ := h3 q
    exact ⟨by rw [c3]; exact x, by omega⟩
theorem wr_eq {P : Nat → Int} {F F1 : Nat → sy_d} {w : sE} (h : wr P w F) (ht : tn F ≤ tn F1) (h8 : (sy_i F1 8).toInt = (sy_i F 8).toInt) (h9 : (sy_i F1 9).toInt = (sy_i F 9).toInt) : wr P w F1 := by
  obtain ⟨h1, h2, h3⟩ := h
  refine ⟨by rw [h8]; exact h1, h2, fun q => ?_⟩
  obtain ⟨x, y⟩ := h3 q
  exact ⟨by rw [h9]; exact x, by omega⟩
noncomputable def jq (P : Nat → Int) (L : Nat) (q : Nat × sE) (F : Nat → sy_d) : Prop := tn F = q.1 ∧ q.1 ≤ L ∧ wr P q.2 F
theorem jq_dst {P : Nat → Int} {L : Nat} {q : Nat × sE} {F F2 : Nat → sy_d} (h : jq P L q F) (h4 : (sy_i F2 4).toInt = (sy_i F 4).toInt) (h8 : (sy_i F2 8).toInt = (sy_i F 8).toInt) (h9 : (sy_i F2 9).toInt = (sy_i F 9).toInt) : jq P L q F2 := by
  have e := tn_eq h4
  exact ⟨by rw [e]; exact h.1, h.2.1, wr_eq h.2.2 (by rw [e]; exact Nat.le_refl _) h8 h9⟩
theorem pm_nx {P K : Nat → Int} {L t : Nat} (h : pm P K L) (ht : t ≤ L) (hk : K t ≠ 0) (h4 : t < 400) : t + 1 ≤ L := by
  rcases h.2.1 with q | q
  · by_cases e : t = L
    · rw [e] at hk
      exact absurd q hk
    · omega
  · omega
noncomputable def bR (lo hi : Int) (F F' : Nat → sy_d) : Prop := gr W1 F F' ∧ nop F F' ∧ ∀ (L : Nat) (w : sE), pm (pf F) (kf F) L → tn F ≤ L → wr (pf F) w F → an (pf F) (sN (kf F) (vf F) lo hi (tn F, w)) (jq (pf F) L) F F'
section SY
variable {Ls : Nat} {xs : Nat → Int32} (F : Nat → sy_d) (X1 X2 : List jm_c)
end SY
theorem bR_src {lo hi : Int} {F F0 F' : Nat → sy_d} (h : bR lo hi F0 F') (e : ∀ q, q < 69 → F0 q = F q) : bR lo hi F F' := by
  obtain ⟨h1, h2, h3⟩ := h
  have i4 := nz_fi (e 4 (by decide))
  have i6 := nz_fi (e 6 (by decide))
  rw [kf_eq (e 25 (by decide)), pf_eq (e 26 (by decide)), vf_eq (e 27 (by decide)), tn_eq i4] at h3
  exact ⟨h1.src e, nop_src h2 i6 (nz_fi (e 7 (by decide))), fun L w a b c => an_src (h3 L w a b (wr_eq c (by rw [tn_eq i4]; exact Nat.le_refl _) (nz_fi (e 8 (by decide))) (nz_fi (e 9 (by decide))))) i6⟩
theorem bR_dst {lo hi : Int} {F F' F2 : Nat → sy_d} (h : bR lo hi F F') (e : ∀ q, q < 69 → F2 q = F' q) : bR lo hi F F2 := by
  obtain ⟨h1, h2, h3⟩ := h
  have i4 := nz_fi (e 4 (by decide))
  have i6 := nz_fi (e 6 (by decide))
  have i7 := nz_fi (e 7 (by decide))
  exact ⟨h1.dst e, nop_trans h2 (nop_same i6 i7), fun L w a b c => an_mono (h3 L w a b c) i6 i7 (fun q j => jq_dst j i4 (nz_fi (e 8 (by decide))) (nz_fi (e 9 (by decide))))⟩
theorem lg_eq (a b : Int64) : (lg_cmp a b).toInt = 0 ↔ a = b := by
  unfold lg_cmp
  split
  · rename_i h
    have := Int64.lt_iff_toInt_lt.mp h
    exact ⟨fun q => absurd q (by decide), fun q => by rw [q] at this; omega⟩
  · split
    · rename_i h
      exact ⟨fun _ => h, fun _ => by decide⟩
    · rename_i h
      exact ⟨fun q => absurd q (by decide), fun q => absurd q h⟩
noncomputable def ml (F : Nat → sy_d) (n : Nat) : List Int64 := (List.range n).map (fun i => (sy_al F 30).getD i 0)
noncomputable def nmr (nm : List Int64) (F : Nat → sy_d) : Prop := nm = ml F (sy_i F 13).toInt.toNat
theorem ml_s {F : Nat → sy_d} {n : Nat} {x : Int64} : x ∈ ml F (n + 1) ↔ x ∈ ml F n ∨ x = (sy_al F 30).getD n 0 := by
  unfold ml
  rw [List.range_succ, List.map_append, List.mem_append]
  simp
theorem ml_eq {F F1 : Nat → sy_d} (h : F1 30 = F 30) (n : Nat) : ml F1 n = ml F n := by
  unfold ml
  rw [nz_fl h]
theorem nmr_eq {nm : List Int64} {F F1 : Nat → sy_d} (h : nmr nm F) (h30 : F1 30 = F 30) (h13 : (sy_i F1 13).toInt = (sy_i F 13).toInt) : nmr nm F1 := by
  unfold nmr
  rw [ml_eq h30, h13]
  exact h
theorem na_w {P : Nat → Int} {w : sE} {b b' : Prop} [Decidable b] [Decidable b'] {tok : Nat} {F F1 : Nat → sy_d} (h : wr P (sW w b 3 tok) F) (hlt : w.1 ≠ 0 → P w.2 < P tok) (ht : tn F1 = tn F) (htok : tok < tn F)
    (c : ((b' ↔ b) ∧ (sy_i F1 8).toInt = (sy_i F 8).toInt ∧ (sy_i F1 9).toInt = (sy_i F 9).toInt) ∨ (b' ∧ (((sy_i F 8).toInt = 0 ∧ (sy_i F1 8).toInt = 3 ∧ (sy_i F1 9).toInt = P tok) ∨ ((sy_i F 8).toInt ≠ 0 ∧ (sy_i F1 8).toInt = (sy_i F 8).toInt ∧ (sy_i F1 9).toInt = (sy_i F 9).toInt) ∨ ((sy_i F 8).toInt ≠ 0 ∧ (P tok < (sy_i F 9).toInt ∨ (P tok = (sy_i F 9).toInt ∧ 3 < (sy_i F 8).toInt)))))) : wr P (sW w b' 3 tok) F1 := by
  have same : ∀ m : sE, wr P m F → (sy_i F1 8).toInt = (sy_i F 8).toInt → (sy_i F1 9).toInt = (sy_i F 9).toInt → wr P m F1 := fun m hm a b => wr_eq hm (by rw [ht]; exact Nat.le_refl _) a b
  rcases c with ⟨c1, c2, c3⟩ | ⟨c1, c⟩
  · have e : sW w b' 3 tok = sW w b 3 tok := by
      unfold sW
      simp only [c1]
    rw [e]
    exact same _ h c2 c3
  · by_cases hw : w.1 = 0
    · have e : sW w b' 3 tok = (3, tok) := by
        unfold sW
        rw [if_pos ⟨c1, hw⟩]
      rw [e]
      by_cases hb : b
      · have e2 : sW w b 3 tok = (3, tok) := by
          unfold sW
          rw [if_pos ⟨hb, hw⟩]
        rw [e2] at h
        obtain ⟨h1, h2, h3⟩ := id h
        have h1 : (sy_i F 8).toInt = 3 := h1
        have h3 : (sy_i F 9).toInt = P tok := (h3 (show (3 : Int) ≠ 0 by decide)).1
        rcases c with c | c | c
        · omega
        · exact same _ h c.2.1 c.2.2
        · omega
      · have e2 : sW w b 3 tok = w := by
          unfold sW
          rw [if_neg (fun q => hb q.1)]
        rw [e2] at h
        obtain ⟨h1, h2, h3⟩ := id h
        rcases c with c | c | c
        · exact ⟨c.2.1, (show (0 : Int) ≤ 3 by decide), fun _ => ⟨c.2.2, by rw [ht]; exact htok⟩⟩
        · omega
        · omega
    · have e : sW w b' 3 tok = w := by
        unfold sW
        rw [if_neg (fun q => hw q.2)]
      have e2 : sW w b 3 tok = w := by
        unfold sW
        rw [if_neg (fun q => hw q.2)]
      rw [e]
      rw [e2] at h
      obtain ⟨h1, h2, h3⟩ := id h
      have h4 := (h3 hw).1
      have h5 := hlt hw
      rcases c with c | c | c
      · omega
      · exact same _ h c.2.1 c.2.2
      · omega
noncomputable def nR (x : Int32) (F F' : Nat → sy_d) : Prop := gr W1 F F' ∧ nop F F' ∧ x.toInt = (sy_i F 4).toInt ∧ ∀ (L : Nat) (w : sE) (nm : List Int64), pm (pf F) (kf F) L → tn F ≤ L → wr (pf F) w F → nmr nm F → an (pf F) (sNm (kf F) (nf F) (tn F, nm, w)) (jq (pf F) L) F F'
theorem nR_dst {x : Int32} {F F' F2 : Nat → sy_d} (h : nR x F F') (e : ∀ q, q < 69 → F2 q = F' q) : nR x F F2 := by
  obtain ⟨h1, h2, h4, h3⟩ := h
  have i4 := nz_fi (e 4 (by decide))
  have i6 := nz_fi (e 6 (by decide))
  have i7 := nz_fi (e 7 (by decide))
  exact ⟨h1.dst e, nop_trans h2 (nop_same i6 i7), h4, fun L w nm a b c d => an_mono (h3 L w nm a b c d) i6 i7 (fun q j => jq_dst j i4 (nz_fi (e 8 (by decide))) (nz_fi (e 9 (by decide))))⟩
/-- within the loop over the names: k of them are looked at -/
noncomputable def nlI (F0 F : Nat → sy_d) : Prop := gr W1 F0 F ∧ nop F0 F ∧ (sy_i F 69).toInt = (sy_i F0 4).toInt ∧ 0 ≤ (sy_i F 70).toInt ∧ (sy_i F 70).toInt ≤ (sy_i F0 13).toInt ∧ ∀ (L : Nat) (w : sE), pm (pf F0) (kf F0) L → tn F0 ≤ L → wr (pf F0) w F0 → (sy_i F0 6).toInt = 0 → ((sy_i F 6).toInt ≠ 0 → ∃ tok, (∀ nm, sNm (kf F0) (nf F0) (tn F0, nm, w) = .inl ((sy_i F 6).toInt, tok)) ∧ (sy_i F 7).toInt = pf F0 tok) ∧ ((sy_i F 6).toInt = 0 → kf F0 (tn F0) = 1 ∧ tn F0 < 400 ∧ tn F = tn F0 + 1 ∧ wr (pf F0) (sW w (nf F0 (tn F0) ∈ ml F0 (sy_i F 70).toInt.toNat) 3 (tn F0)) F)
theorem nlI_end {F0 F F1 : Nat → sy_d} {x : Int32} (h : nlI F0 F) (hx : x.toInt = (sy_i F 69).toInt) (hb : iv_in F1 iv_B4) (g : ∀ j, j < 69 → j ∉ ([] : List Nat) → F1 j = F j) (c : (sy_i F 6).toInt = 0 → (sy_i F0 13).toInt ≤ (sy_i F 70).toInt) : nR x F0 F1 := by
  obtain ⟨h1, h2, h3, h4, h5, h6⟩ := h
  have i4 := nz_fi (g 4 (by decide) (by decide))
  have i6 := nz_fi (g 6 (by decide) (by decide))
  have i7 := nz_fi (g 7 (by decide) (by decide))
  refine ⟨h1.trans (gr_mk (W := W1) hb g (by decide) (by omega) (by omega)) (by decide), nop_trans h2 (nop_same i6 i7), by omega, fun L w nm hm hL hw hn h0 => ?_⟩
  obtain ⟨a, b⟩ := h6 L w hm hL hw h0
  rw [i6, i7]
  refine ⟨fun q => ?_, fun q => ?_⟩
  · obtain ⟨tok, t1, t2⟩ := a q
    exact ⟨tok, t1 nm, t2⟩
  · obtain ⟨b1, b2, b3, b4⟩ := b q
    have e : (sy_i F 70).toInt.toNat = (sy_i F0 13).toInt.toNat := by
      have := c q
      omega
    have hn : nm = ml F0 (sy_i F0 13).toInt.toNat := hn
    rw [e, ← hn] at b4
    exact ⟨_, sNm_ok b1 b2, by rw [tn_eq i4]; exact b3, pm_nx hm hL (by rw [b1]; decide) b2, wr_eq b4 (by rw [tn_eq i4]; exact Nat.le_refl _) (nz_fi (g 8 (by decide) (by decide))) (nz_fi (g 9 (by decide) (by decide)))⟩
section SZ
variable {Ls : Nat} {xs : Nat → Int32} (F : Nat → sy_d) (X1 X2 : List jm_c)
theorem ny_loop (F0 : Nat → sy_d) (hB0 : iv_in F0 iv_B4) : ∀ (n : Nat) (F : Nat → sy_d), nlI F0 F → 11 - (sy_i F 70).toInt < n →
    hd_W Ls xs 4 jm_M155 (fun v G => ∃ (x : Int32) (F' : Nat → sy_d), v = some (.int x) ∧ G = sy_dh F' X1 X2 (iv_H 4) ∧ nR x F0 F') (12, sy_dL F [some (.inl (.ref 1000)), some (.inr (.inl 69)), some (.inr (.inl 70))], sy_dS F [], sy_dh F X1 X2 (iv_H 4), 0, 0)
  | 0, F, h, h3 => by
    have c13 := nz_bx hB0 (k := 13) (lo := 0) (hi := 11) rfl
    have h5 := h.2.2.2.2.1
    omega
  | n + 1, F, h, h3 => by
    obtain ⟨g1, g2, g3, g4, g5, g6⟩ := id h
    have c4 := nz_bx hB0 (k := 4) (lo := 0) (hi := 400) rfl
    have c13 := nz_bx hB0 (k := 13) (lo := 0) (hi := 11) rfl
    have i13 := g1.i (k := 13) (by decide) (by decide)
    have x26 := g1.a (k := 26) (by decide) (by decide)
    have x28 : sy_al F 28 = sy_al F0 28 := nz_fl (g1.f 28 (by decide) (by decide))
    have x30 : sy_al F 30 = sy_al F0 30 := nz_fl (g1.f 30 (by decide) (by decide))
    have eT : (sy_i F 69).toInt.toNat = tn F0 := by unfold tn; omega
    have eP : pf F0 (tn F0) = ((sy_ai F 26).getD (sy_i F 69).toInt.toNat 0).toInt := by rw [x26, eT]; rfl
    have eN : nf F0 (tn F0) = (sy_al F 28).getD (sy_i F 69).toInt.toNat 0 := by rw [x28, eT]; rfl
    have eO : (sy_al F0 30).getD (sy_i F 70).toInt.toNat 0 = (sy_al F 30).getD (sy_i F 70).toInt.toNat 0 := by rw [x30]
    have ek : ((sy_i F 70).toInt + 1).toNat = (sy_i F 70).toInt.toNat + 1 := by omega
    refine nay_12 (by decide) F X1 X2 g1.b (by omega) (by omega) ?_ ?_ ?_ ?_ ?_ ?_ ?_ ?_
    iterate 2
      intros
      rename_i F1 hb g e4 e6 e7 e8 e9 e13 a25 a26 a27
      exact ⟨_, F1, rfl, rfl, nlI_end h rfl hb g (by omega)⟩
    all_goals
      intros
      rename_i F1 hb g e4 e6 e7 e8 e9 e13 a25 a26 a27 e69 e70
      refine ny_loop F0 hB0 n F1 ⟨g1.trans (gr_mk (W := W1) hb g (by decide) (by omega) (by omega)) (by decide), nop_trans g2 (nop_same e6 e7), by omega, by omega, by omega, fun L w hm hL hw h0 => ?_⟩ (by omega)
      obtain ⟨-, z2⟩ := g6 L w hm hL hw h0
      refine ⟨fun q => absurd q (by omega), fun q => ?_⟩
      obtain ⟨b1, b2, b3, b4⟩ := z2 (by omega)
      refine ⟨b1, b2, by rw [tn_eq e4]; exact b3, ?_⟩
      rw [e70, ek]
      refine na_w b4 (fun q => hm.1 _ _ (hw.2.2 q).2 hL) (tn_eq e4) (by omega) ?_
      first
        | exact Or.inl ⟨by rw [ml_s, eO, eN]; exact ⟨fun t => t.resolve_right (fun t2 => (by assumption : ¬ (lg_cmp _ _).toInt = 0) ((lg_eq _ _).mpr t2.symm)), Or.inl⟩, e8, e9⟩
        | exact Or.inr ⟨by rw [ml_s, eO, eN]; exact Or.inr ((lg_eq _ _).mp (by assumption)).symm, by omega⟩
theorem ny_T (hB : iv_in F iv_B4) : jm_T Ls xs 4 jm_M155 [.ref 1000] (sy_dh F X1 X2 (iv_H 4)) 0 0 (fun v G => ∃ (x : Int32) (F' : Nat → sy_d), v = some (.int x) ∧ G = sy_dh F' X1 X2 (iv_H 4) ∧ nR x F F') := by
  have c4 := nz_bx hB (k := 4) (lo := 0) (hi := 400) rfl
  have c13 := nz_bx hB (k := 13) (lo := 0) (hi := 11) rfl
  have eK : kf F (tn F) = ((sy_ai F 25).getD (sy_i F 4).toInt.toNat 0).toInt := rfl
  have eP : pf F (tn F) = ((sy_ai F 26).getD (sy_i F 4).toInt.toNat 0).toInt := rfl
  have et : (tn F : Int) = (sy_i F 4).toInt := by unfold tn; omega
  refine nz_T0 jm_ok155 (by decide) (nay_0 (by decide) F X1 X2 hB ?_ ?_ ?_ ?_)
  all_goals
    intros
    rename_i F1 hb g e4 e6 e7 e8 e9 e13 a25 a26 a27 e69 e70
    refine ny_loop X1 X2 F hB 12 F1 ⟨gr_mk (W := W1) hb g (by decide) (by omega) (by omega), ?_, e69, by omega, by omega, fun L w hm hL hw h0 => ⟨fun q => ?_, fun q => ?_⟩⟩ (by omega)
  all_goals first
    | exact nop_same e6 e7
    | exact fun z => absurd z (by omega)
    | exact absurd q (by omega)
    | exact absurd h0 (by omega)
    | exact ⟨tn F, fun nm => by rw [e6]; exact sNm_no (by omega), e7.trans eP.symm⟩
    | exact ⟨tn F, fun nm => by rw [e6]; exact sNm_4 (by omega) (by omega), e7.trans eP.symm⟩
    | exact ⟨by omega, by omega, tn_s c4.1 e4, by
        have e : sW w (nf F (tn F) ∈ ml F (sy_i F1 70).toInt.toNat) 3 (tn F) = w := by
          unfold sW
          rw [if_neg (fun z => by
            have z := z.1
            rw [show (sy_i F1 70).toInt.toNat = 0 by omega] at z
            simp [ml] at z)]
        rw [e]
        exact wr_eq hw (by rw [tn_s c4.1 e4]; omega) e8 e9⟩
end SZ
