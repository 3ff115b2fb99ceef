/-! ===== shaken, found out ===== -/
noncomputable def fdS (T : tX) (g : gS) : Prop := (lotS (Int32.ofInt T.2.2.2.2.1) ((1000000 : Int32) + g 9 1)).toInt < foundT T (g 9 1 + 1) (Int32.ofInt (wiS T g)) (g 9 0) (lfS T g)
def shkS (g : gS) (f : Nat) : gS := upS (upS g 6 f (g 6 f + 1)) 9 1 (g 9 1 + 1)
def fndS (T : tX) (g : gS) (f : Nat) : gS := upS (upS (shkS g f) 9 2 (g 9 2 + 1)) 9 3 (g 9 3 + Int32.ofInt T.2.2.1)
theorem shkS_2 (g : gS) (f i : Nat) : shkS g f 2 i = g 2 i := by
  unfold shkS
  rw [upS_o (Or.inl (by decide)), upS_o (Or.inl (by decide))]
theorem shkS_9 (g : gS) (f : Nat) : shkS g f 9 0 = g 9 0 ∧ shkS g f 9 1 = g 9 1 + 1 ∧ shkS g f 9 2 = g 9 2 ∧ shkS g f 9 3 = g 9 3 := by
  unfold shkS
  refine ⟨?_, upS_s, ?_, ?_⟩
  · rw [upS_o (Or.inr (by decide)), upS_o (Or.inl (by decide))]
  · rw [upS_o (Or.inr (by decide)), upS_o (Or.inl (by decide))]
  · rw [upS_o (Or.inr (by decide)), upS_o (Or.inl (by decide))]
theorem lf_cg {T : tX} {g g' : gS} (h : ∀ i, i < nfS T → g 2 i = g' 2 i) : lfS T g = lfS T g' := by
  unfold lfS
  rw [mkS_cg (nfS T) h]
theorem lf_shk (T : tX) (g : gS) (f : Nat) : lfS T (shkS g f) = lfS T g := lf_cg (fun i _ => shkS_2 g f i)
theorem gC_93 {o nf nb : Nat} {F : Nat → sy_d} {g : gS} (h : gC o nf nb F g) (v : Int32) : gC o nf nb F (upS g 9 3 v) := by
  refine ⟨fun a i ha hv => ?_, fun i hi => ?_⟩
  · rw [upS_o (Or.inl (by omega))]
    exact h.1 a i ha hv
  · rw [upS_o (Or.inr (by omega))]
    exact h.2 i hi
theorem gC_upn {o nf nb : Nat} {F F1 : Nat → sy_d} {g : gS} (h : gC o nf nb F g) {a i n k : Nat} {v w : Int32} (ha : a ≤ 8) (hn : n = i) (hk : k < 3) (hA : sy_ai F1 (o + ca a) = jm_upd (sy_ai F (o + ca a)) n v) (hN : sy_i F1 (o + k) = w) (e : ∀ j, o ≤ j → j < o + 12 → j ≠ o + ca a → j ≠ o + k → F1 j = F j) : gC o nf nb F1 (upS (upS g a i v) 9 k w) := by
  have hc := ca_in a
  obtain ⟨Fm, hFm⟩ : ∃ Fm : Nat → sy_d, Fm = fun j => if j = o + ca a then F1 j else F j := ⟨_, rfl⟩
  have m1 : Fm (o + ca a) = F1 (o + ca a) := by rw [hFm]; exact if_pos rfl
  have m2 : ∀ j, j ≠ o + ca a → Fm j = F j := fun j hj => by rw [hFm]; exact if_neg hj
  have hm : gC o nf nb Fm (upS g a i v) := gC_up h ha hn (by rw [nz_fa m1]; exact hA) (fun j h1 h2 h3 => m2 j h3)
  refine gC_n hm hk hN (fun j h1 h2 h3 => ?_)
  by_cases q : j = o + ca a
  · rw [q, m1]
  · rw [m2 j q]
    exact e j h1 h2 q h3
