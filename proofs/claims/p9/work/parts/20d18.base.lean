/-! ===== the class parses: names and lemmas ===== -/
theorem nz_in0 {F F1 : Nat → sy_d} (hB : iv_in F iv_B0) (chg : List Nat) (g : ∀ j, j < 82 → j ∉ chg → F1 j = F j) (h : ∀ k ∈ chg, ∀ t : iv_t, iv_B0[k]? = some t → iv_has (F1 k) t) : iv_in F1 iv_B0 := hd_in1 hB (fun j t hj => by
  by_cases q : j ∈ chg
  · exact Or.inr (h j q t hj)
  · exact Or.inl (g j (List.getElem?_eq_some_iff.mp hj).1 q))
/-- the class tells kinds otherwise than the reference -/
def km (c : Int) : Int := if 0 ≤ c ∧ c ≤ 22 then c + 20 else if c = 23 then 1 else if c = 24 then 2 else if c = 26 then 0 else if c = 59 then 4 else if c = 61 then 5 else if c = 40 then 6 else if c = 41 then 7 else if c = 43 then 8 else if c = 45 then 9 else if c = 42 then 10 else if c = 60 then 13 else if c = 47 then 15 else 3
theorem km_w {c k : Int} (h0 : 20 ≤ k) (h1 : k ≤ 42) : km c = k ↔ c = k - 20 := by unfold km; repeat' split <;> omega
theorem km_r {c : Int} (h0 : 0 ≤ c) (h1 : c ≤ 22) : km c = c + 20 := by unfold km; rw [if_pos ⟨h0, h1⟩]
theorem km_1 {c : Int} : km c = 1 ↔ c = 23 := by unfold km; repeat' split <;> omega
theorem km_2 {c : Int} : km c = 2 ↔ c = 24 := by unfold km; repeat' split <;> omega
theorem km_0 {c : Int} : km c = 0 ↔ c = 26 := by unfold km; repeat' split <;> omega
theorem km_4 {c : Int} : km c = 4 ↔ c = 59 := by unfold km; repeat' split <;> omega
theorem km_5 {c : Int} : km c = 5 ↔ c = 61 := by unfold km; repeat' split <;> omega
theorem km_6 {c : Int} : km c = 6 ↔ c = 40 := by unfold km; repeat' split <;> omega
theorem km_7 {c : Int} : km c = 7 ↔ c = 41 := by unfold km; repeat' split <;> omega
theorem km_8 {c : Int} : km c = 8 ↔ c = 43 := by unfold km; repeat' split <;> omega
theorem km_9 {c : Int} : km c = 9 ↔ c = 45 := by unfold km; repeat' split <;> omega
theorem km_10 {c : Int} : km c = 10 ↔ c = 42 := by unfold km; repeat' split <;> omega
theorem km_13 {c : Int} : km c = 13 ↔ c = 60 := by unfold km; repeat' split <;> omega
theorem km_15 {c : Int} : km c = 15 ↔ c = 47 := by unfold km; repeat' split <;> omega
theorem km_v {c : Int} : (34 ≤ km c ∧ km c ≤ 42) ↔ (14 ≤ c ∧ c ≤ 22) := by unfold km; repeat' split <;> omega
noncomputable def kg (F : Nat → sy_d) (n : Nat) : Int := km ((sy_ai F 39).getD n 0).toInt
noncomputable def pg (F : Nat → sy_d) (n : Nat) : Int := ((sy_ai F 40).getD n 0).toInt
noncomputable def vg (F : Nat → sy_d) (n : Nat) : Int := ((sy_al F 41).getD n 0).toInt32.toInt
noncomputable def ng (F : Nat → sy_d) (n : Nat) : Int64 := (sy_al F 41).getD n 0
noncomputable def tg (F : Nat → sy_d) : Nat := (sy_i F 33).toInt.toNat
theorem kg_eq {F F1 : Nat → sy_d} (h : F1 39 = F 39) : kg F1 = kg F := by funext n; unfold kg; rw [nz_fa h]
theorem pg_eq {F F1 : Nat → sy_d} (h : F1 40 = F 40) : pg F1 = pg F := by funext n; unfold pg; rw [nz_fa h]
theorem vg_eq {F F1 : Nat → sy_d} (h : F1 41 = F 41) : vg F1 = vg F := by funext n; unfold vg; rw [nz_fl h]
theorem ng_eq {F F1 : Nat → sy_d} (h : F1 41 = F 41) : ng F1 = ng F := by funext n; unfold ng; rw [nz_fl h]
theorem tg_eq {F F1 : Nat → sy_d} (h : (sy_i F1 33).toInt = (sy_i F 33).toInt) : tg F1 = tg F := by unfold tg; rw [h]
theorem tg_s {F F1 : Nat → sy_d} (h0 : 0 ≤ (sy_i F 33).toInt) (h : (sy_i F1 33).toInt = (sy_i F 33).toInt + 1) : tg F1 = tg F + 1 := by unfold tg; omega
/-- what stays, and the bounds -/
abbrev gc (W : List Nat) (F F' : Nat → sy_d) : Prop := iv_in F' iv_B0 ∧ ∀ j, j < 82 → j ∉ W → F' j = F j
theorem gc.i {W : List Nat} {F F' : Nat → sy_d} (h : gc W F F') {k : Nat} (hk : k < 82) (hn : k ∉ W) : (sy_i F' k).toInt = (sy_i F k).toInt := nz_fi (h.2 k hk hn)
theorem gc.trans {W W1 : List Nat} {F F' F2 : Nat → sy_d} (h : gc W F F') (h2 : gc W1 F' F2) (hs : ∀ x ∈ W1, x ∈ W) : gc W F F2 := ⟨h2.1, fun j hj hn => (h2.2 j hj (fun q => hn (hs _ q))).trans (h.2 j hj hn)⟩
theorem gc.mono {W W1 : List Nat} {F F' : Nat → sy_d} (h : gc W1 F F') (hs : ∀ x ∈ W1, x ∈ W) : gc W F F' := ⟨h.1, fun j hj hn => h.2 j hj (fun q => hn (hs _ q))⟩
theorem gc_mk {W C : List Nat} {F F1 : Nat → sy_d} (hb : iv_in F1 iv_B0) (g : ∀ j, j < 82 → j ∉ C → F1 j = F j) (hs : ∀ x ∈ C, x ∈ W) : gc W F F1 := ⟨hb, fun j hj hn => g j hj (fun q => hn (hs _ q))⟩
theorem hd_iveq0 {F F1 : Nat → sy_d} (hB : iv_in F iv_B0) (g : ∀ j, j < 82 → F1 j = F j) : iv_in F1 iv_B0 := hd_in1 hB (fun j t hj => Or.inl (g j (List.getElem?_eq_some_iff.mp hj).1))
theorem gc.dst {W : List Nat} {F F' F2 : Nat → sy_d} (h : gc W F F') (e : ∀ q, q < 82 → F2 q = F' q) : gc W F F2 := ⟨hd_iveq0 h.1 e, fun j hj hn => (e j hj).trans (h.2 j hj hn)⟩
theorem gc.src {W : List Nat} {F F' F0 : Nat → sy_d} (h : gc W F0 F') (e : ∀ q, q < 82 → F0 q = F q) : gc W F F' := ⟨h.1, fun j hj hn => (h.2 j hj hn).trans (e j hj)⟩
/-- a truth value answered, as r tells -/
noncomputable def ac {A : Type} (r : sE ⊕ A) (J : A → (Nat → sy_d) → Prop) (x : Int32) (F' : Nat → sy_d) : Prop := (x = 0 ∧ r = .inl ((sy_i F' 34).toInt, tg F')) ∨ (x = 1 ∧ ∃ a, r = .inr a ∧ J a F')
theorem ac_er {A : Type} {r : sE ⊕ A} {J : A → (Nat → sy_d) → Prop} {F' : Nat → sy_d} {k : Int} {t : Nat} (hr : r = .inl (k, t)) (h : (sy_i F' 34).toInt = k) (ht : tg F' = t) : ac r J 0 F' := Or.inl ⟨rfl, by rw [h, ht]; exact hr⟩
theorem ac_ok {A : Type} {r : sE ⊕ A} {J : A → (Nat → sy_d) → Prop} {F' : Nat → sy_d} {a : A} (hr : r = .inr a) (hJ : J a F') : ac r J 1 F' := Or.inr ⟨rfl, a, hr, hJ⟩
theorem ac_dst {A : Type} {r : sE ⊕ A} {J J' : A → (Nat → sy_d) → Prop} {x : Int32} {F' F2 : Nat → sy_d} (h : ac r J x F') (h34 : (sy_i F2 34).toInt = (sy_i F' 34).toInt) (h33 : (sy_i F2 33).toInt = (sy_i F' 33).toInt) (hJ : ∀ a, J a F' → J' a F2) : ac r J' x F2 := by
  rcases h with ⟨a, b⟩ | ⟨a, c, b, d⟩
  · exact Or.inl ⟨a, by rw [h34, tg_eq h33]; exact b⟩
  · exact Or.inr ⟨a, c, b, hJ c d⟩
theorem nx_T {Ls : Nat} {xs : Nat → Int32} {d : Nat} {M : jm_M} {Q : Option Value → jm_h → Prop} {s : Nat} {ad : Nat} (hs : s < 4) (F : Nat → sy_d) (X1 X2 : List jm_c) {A : List sy_v} {as : List Int32} (hok : jm_ok jm_YN M) (hl : (sy_e1 A).length ≤ jm_mx M) (hA : A.map (sy_dv (nx 82 F as)) = .ref ad :: as.map .int)
    (h : hd_W Ls xs d M Q (0, sy_dL (nx 82 F as) (sy_ent (jm_mx M) A), [], sy_dh (nx 82 F as) X1 X2 (iv_H s), 0, 0)) : jm_T Ls xs d M (.ref ad :: as.map .int) (sy_dh F X1 X2 (iv_H s)) 0 0 Q := by
  have e : sy_dh F X1 X2 (iv_H s) = sy_dh (nx 82 F as) X1 X2 (iv_H s) := by
    rw [dh_x F X1 X2 hs, dh_x (nx 82 F as) X1 X2 hs, dh_nx hs nx_lt]
  rw [e, ← hA]
  exact hd_T hok hl h
