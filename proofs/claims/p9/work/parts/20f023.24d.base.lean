/-! ===== the class's ground: more than one row changed; the vars ===== -/
theorem gC_up2 {o nf nb : Nat} {F F1 : Nat → sy_d} {g : gS} (h : gC o nf nb F g) {a i n a' i' n' : Nat} {v v' : Int32} (ha : a ≤ 8) (ha' : a' ≤ 8) (hne : a' ≠ a) (hn : n = i) (hn' : n' = i') (hA : sy_ai F1 (o + ca a) = jm_upd (sy_ai F (o + ca a)) n v) (hA' : sy_ai F1 (o + ca a') = jm_upd (sy_ai F (o + ca a')) n' v') (e : ∀ j, o ≤ j → j < o + 12 → j ≠ o + ca a → j ≠ o + ca a' → F1 j = F j) : gC o nf nb F1 (upS (upS g a i v) a' i' v') := by
  have hc : o + ca a' ≠ o + ca a := fun z => hne (ca_inj a' ha' a ha (by omega))
  obtain ⟨Fm, hFm⟩ : ∃ Fm : Nat → sy_d, Fm = fun j => if j = o + ca a then F1 j else F j := ⟨_, rfl⟩
  have m1 : Fm (o + ca a) = F1 (o + ca a) := by rw [hFm]; exact if_pos rfl
  have m2 : ∀ j, j ≠ o + ca a → Fm j = F j := fun j hj => by rw [hFm]; exact if_neg hj
  have hm : gC o nf nb Fm (upS g a i v) := gC_up h ha hn (by rw [nz_fa m1]; exact hA) (fun j h1 h2 h3 => m2 j h3)
  refine gC_up hm ha' hn' (by rw [hA', nz_fa (m2 _ hc)]) (fun j h1 h2 h3 => ?_)
  by_cases q : j = o + ca a
  · rw [q, m1]
  · rw [m2 j q]
    exact e j h1 h2 q h3
theorem gC_up3 {o nf nb : Nat} {F F1 : Nat → sy_d} {g : gS} (h : gC o nf nb F g) {a i n a' i' n' a2 i2 n2 : Nat} {v v' v2 : Int32} (ha : a ≤ 8) (ha' : a' ≤ 8) (ha2 : a2 ≤ 8) (hne : a' ≠ a) (hne1 : a2 ≠ a) (hne2 : a2 ≠ a') (hn : n = i) (hn' : n' = i') (hn2 : n2 = i2) (hA : sy_ai F1 (o + ca a) = jm_upd (sy_ai F (o + ca a)) n v) (hA' : sy_ai F1 (o + ca a') = jm_upd (sy_ai F (o + ca a')) n' v') (hA2 : sy_ai F1 (o + ca a2) = jm_upd (sy_ai F (o + ca a2)) n2 v2) (e : ∀ j, o ≤ j → j < o + 12 → j ≠ o + ca a → j ≠ o + ca a' → j ≠ o + ca a2 → F1 j = F j) : gC o nf nb F1 (upS (upS (upS g a i v) a' i' v') a2 i2 v2) := by
  have hc : o + ca a' ≠ o + ca a2 := fun z => hne2 (ca_inj a2 ha2 a' ha' (by omega))
  have hc1 : o + ca a ≠ o + ca a2 := fun z => hne1 (ca_inj a2 ha2 a ha (by omega))
  obtain ⟨Fm, hFm⟩ : ∃ Fm : Nat → sy_d, Fm = fun j => if j = o + ca a2 then F j else F1 j := ⟨_, rfl⟩
  have m1 : Fm (o + ca a2) = F (o + ca a2) := by rw [hFm]; exact if_pos rfl
  have m2 : ∀ j, j ≠ o + ca a2 → Fm j = F1 j := fun j hj => by rw [hFm]; exact if_neg hj
  have hm : gC o nf nb Fm (upS (upS g a i v) a' i' v') := gC_up2 h ha ha' hne hn hn' (by rw [nz_fa (m2 _ hc1)]; exact hA) (by rw [nz_fa (m2 _ hc)]; exact hA') (fun j h1 h2 h3 h4 => by
    by_cases q : j = o + ca a2
    · rw [q, m1]
    · rw [m2 j q]
      exact e j h1 h2 h3 h4 q)
  exact gC_up hm ha2 hn2 (by rw [hA2, nz_fa m1]) (fun j h1 h2 h3 => (m2 j h3).symm)
/-- the vars of an hour -/
def hV (T : tX) (g : gS) (F : Nat → sy_d) : Prop := v45 F 2 = g 9 0 ∧ v45 F 8 = lfS T g ∧ v45 F 3 = Int32.ofInt (wiS T g)
/-- the vars of a fruit -/
def fV (T : tX) (g : gS) (f : Nat) (F : Nat → sy_d) : Prop := v45 F 0 = g 1 f ∧ v45 F 1 = Int32.ofInt (tF T f).2.1 ∧ v45 F 4 = Int32.ofInt (tF T f).1 ∧ v45 F 5 = g 6 f ∧ v45 F 6 = g 5 f ∧ v45 F 7 = g 4 f
theorem hV_e {T : tX} {g : gS} {F F1 : Nat → sy_d} (h : hV T g F) (e : sy_ai F1 45 = sy_ai F 45) : hV T g F1 := by
  unfold hV v45
  rw [e]
  exact h
theorem fV_e {T : tX} {g : gS} {f : Nat} {F F1 : Nat → sy_d} (h : fV T g f F) (e : sy_ai F1 45 = sy_ai F 45) : fV T g f F1 := by
  unfold fV v45
  rw [e]
  exact h
theorem fV_set {T : tX} {g : gS} {f : Nat} {F F1 : Nat → sy_d} {a b c d e h : Int32} (hA : sy_ai F1 45 = jm_upd (jm_upd (jm_upd (jm_upd (jm_upd (jm_upd (sy_ai F 45) (0 : Int).toNat a) (1 : Int).toNat b) (4 : Int).toNat c) (5 : Int).toNat d) (6 : Int).toNat e) (7 : Int).toNat h) (ea : a = g 1 f) (eb : b = Int32.ofInt (tF T f).2.1) (ec : c = Int32.ofInt (tF T f).1) (ed : d = g 6 f) (ee : e = g 5 f) (eh : h = g 4 f) : fV T g f F1 ∧ ∀ {g0 : gS}, hV T g0 F → hV T g0 F1 := by
  have key : ∀ j : Nat, v45 F1 j = if j = (7 : Int).toNat then h else if j = (6 : Int).toNat then e else if j = (5 : Int).toNat then d else if j = (4 : Int).toNat then c else if j = (1 : Int).toNat then b else if j = (0 : Int).toNat then a else v45 F j := fun j => by
    show (sy_ai F1 45).getD j 0 = _
    rw [hA, jm_upd_at, jm_upd_at, jm_upd_at, jm_upd_at, jm_upd_at, jm_upd_at]
    rfl
  refine ⟨⟨?_, ?_, ?_, ?_, ?_, ?_⟩, fun {g0} hh => ⟨?_, ?_, ?_⟩⟩
  · rw [key]; exact ea
  · rw [key]; exact eb
  · rw [key]; exact ec
  · rw [key]; exact ed
  · rw [key]; exact ee
  · rw [key]; exact eh
  · rw [key]; exact hh.1
  · rw [key]; exact hh.2.1
  · rw [key]; exact hh.2.2
section VT
variable {T : tX} {g g' : gS} {f : Nat} {F : Nat → sy_d}
theorem wo_of (hT : wT T) (h : hV T g F) (k : fV T g' f F) : lwT T 3 (v45 F) = worthT T f (g' 1 f) (g' 4 f) (g 9 0) (lfS T g) := lwT_cg hT (nine9 (fun _ => k.1) (fun _ => k.2.1) (fun _ => h.1) (fun t => absurd t (by decide)) (fun _ => k.2.2.1) (fun t => absurd t (by decide)) (fun t => absurd t (by decide)) (fun _ => k.2.2.2.2.2) (fun _ => h.2.1))
theorem bn_of (hT : wT T) (h : hV T g F) (k : fV T g' f F) : lwT T 4 (v45 F) = bncT T f (g' 1 f) (g 9 0) (lfS T g) := lwT_cg hT (nine9 (fun _ => k.1) (fun _ => k.2.1) (fun _ => h.1) (fun t => absurd t (by decide)) (fun _ => k.2.2.1) (fun t => absurd t (by decide)) (fun t => absurd t (by decide)) (fun t => absurd t (by decide)) (fun _ => h.2.1))
theorem fl_of (hT : wT T) (h : hV T g F) (k : fV T g' f F) : lwT T 2 (v45 F) = fallT T f (g' 1 f) (g' 6 f) (g' 5 f) (Int32.ofInt (wiS T g)) (g 9 0) (lfS T g) := lwT_cg hT (nine9 (fun _ => k.1) (fun _ => k.2.1) (fun _ => h.1) (fun _ => h.2.2) (fun _ => k.2.2.1) (fun _ => k.2.2.2.1) (fun _ => k.2.2.2.2.1) (fun t => absurd t (by decide)) (fun _ => h.2.1))
theorem rp_of (hT : wT T) (h : hV T g F) (k : fV T g' f F) : lwT T 1 (v45 F) = ripeT T f (g' 1 f) (g' 6 f) (g' 5 f) (Int32.ofInt (wiS T g)) (g 9 0) (lfS T g) := lwT_cg hT (nine9 (fun _ => k.1) (fun _ => k.2.1) (fun _ => h.1) (fun _ => h.2.2) (fun _ => k.2.2.1) (fun _ => k.2.2.2.1) (fun _ => k.2.2.2.2.1) (fun t => absurd t (by decide)) (fun _ => h.2.1))
end VT
