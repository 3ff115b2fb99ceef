/-! ===== A MACHINE OF ITS OWN: abstract states, a step that computes, and that the bytecode's machine follows it ===== -/
/-- a cell: an array (kind, length, contents: what the list doesn't tell is 0), or an object (class number, fields); a reference in it is a number of its own -/
abbrev jm_c : Type := (Nat × Nat × (List Int32 ⊕ List Int64)) ⊕ (Nat × List Value)
/-- two rows of cells: what the class makes, what the reference makes -/
abbrev jm_h : Type := List jm_c × List jm_c
/-- kinds of arrays -/
def jm_ty (k : Nat) : FieldType := if k = 0 then .int else if k = 1 then .byte else if k = 2 then .boolean else .long
def jm_n1 : Nat := 65
/-- the place of a reference among all cells -/
def jm_fi (k : Nat) : Nat := if k < 1000 then k - 8 else 65 + (k - 1000)
/-- the address that a reference stands for: below 8 what lay there before, else the cells in the order of their making -/
def jm_ad (h0 : Nat) (ex : Nat → Nat) (k : Nat) : Nat := if k < 8 then ex k else h0 + jm_fi k
def jm_cv (h0 : Nat) (ex : Nat → Nat) (v : Value) : Value := match v with
  | .ref k => if k = 6 ∧ ex 7 = 0 then .null else .ref (jm_ad h0 ex k)
  | .int x => .int x
  | .long x => .long x
  | .null => .null
  | .float x => .float x
  | .double x => .double x
  | .retAddr x => .retAddr x
def jm_ce (h0 : Nat) (ex : Nat → Nat) (ka : Nat → ClassId) (c : jm_c) : va_E := match c with
  | .inl (t, n, .inl f) => .inl (ka t, n, .inl (fun j => f.getD j 0))
  | .inl (t, n, .inr f) => .inl (ka t, n, .inr (.inl (fun j => f.getD j 0)))
  | .inr (ci, fs) => .inr (ci, fs.map (jm_cv h0 ex))
def jm_al (G : jm_h) : List jm_c := G.1 ++ G.2
def jm_w (h0 : Nat) (ex : Nat → Nat) (ka : Nat → ClassId) (G : jm_h) : va_W := (jm_al G).mapIdx fun j c => (h0 + j, jm_ce h0 ex ka c)
def jm_len (G : jm_h) : Nat := G.1.length + G.2.length
/-- a cell by its reference; another one in its place; a new one -/
def jm_g (G : jm_h) (k : Nat) : Option jm_c := if k < 8 then none else if k < 1000 then G.1[k - 8]? else G.2[k - 1000]?
def jm_s (G : jm_h) (k : Nat) (c : jm_c) : jm_h := if k < 1000 then (G.1.set (k - 8) c, G.2) else (G.1, G.2.set (k - 1000) c)
def jm_okh (G : jm_h) : Prop := (G.2 = [] ∨ G.1.length = 65) ∧ G.1.length ≤ 65
def jm_new (sg : Nat) (G : jm_h) (c : jm_c) : Option (Nat × jm_h) :=
  if sg = 1 then (match G.2 with
    | [] => if G.1.length < 65 then some (8 + G.1.length, (G.1 ++ [c], [])) else none
    | _ :: _ => none)
  else if G.1.length = 65 then some (1000 + G.2.length, (G.1, G.2 ++ [c])) else none
theorem jm_w_at {h0 : Nat} {ex : Nat → Nat} {ka : Nat → ClassId} {G : jm_h} {j : Nat} {c : jm_c} (h : (jm_al G)[j]? = some c) : (jm_w h0 ex ka G)[j]? = some (h0 + j, jm_ce h0 ex ka c) := by
  simp [jm_w, List.getElem?_mapIdx, h]
theorem jm_w_inv {h0 : Nat} {ex : Nat → Nat} {ka : Nat → ClassId} {G : jm_h} {j : Nat} {q : Nat × va_E} (h : (jm_w h0 ex ka G)[j]? = some q) : ∃ c, (jm_al G)[j]? = some c ∧ q = (h0 + j, jm_ce h0 ex ka c) := by
  simp only [jm_w, List.getElem?_mapIdx, Option.map_eq_some_iff] at h
  obtain ⟨c, h1, h2⟩ := h
  exact ⟨c, h1, h2.symm⟩
theorem jm_D (h0 : Nat) (ex : Nat → Nat) (ka : Nat → ClassId) (G : jm_h) : va_D (fun q : Nat => h0 ≤ q) (jm_w h0 ex ka G) := by
  refine ⟨fun i j p q hi hj hpq => ?_, fun k q hk => ?_⟩
  · obtain ⟨c, -, rfl⟩ := jm_w_inv hi
    obtain ⟨d, -, rfl⟩ := jm_w_inv hj
    exact Nat.add_left_cancel hpq
  · obtain ⟨c, -, rfl⟩ := jm_w_inv hk
    exact Nat.le_add_right _ _
theorem jm_g_ge {G : jm_h} {k : Nat} {c : jm_c} (h : jm_g G k = some c) : 8 ≤ k := by
  unfold jm_g at h
  split at h
  · cases h
  · omega
theorem jm_g_ad {h0 : Nat} {ex : Nat → Nat} {G : jm_h} {k : Nat} {c : jm_c} (h : jm_g G k = some c) : jm_ad h0 ex k = h0 + jm_fi k := by
  have := jm_g_ge h
  unfold jm_ad
  rw [if_neg (by omega)]
theorem jm_g_at {G : jm_h} (hG : jm_okh G) {k : Nat} {c : jm_c} (h : jm_g G k = some c) : (jm_al G)[jm_fi k]? = some c := by
  unfold jm_g at h
  split at h
  · cases h
  · split at h
    · rename_i h1 h2
      have hl := (List.getElem?_eq_some_iff.mp h).1
      rw [jm_al, jm_fi, if_pos h2, List.getElem?_append_left hl, h]
    · rename_i h1 h2
      have hl := (List.getElem?_eq_some_iff.mp h).1
      rw [jm_al, jm_fi, if_neg h2]
      have h65 : G.1.length = 65 := by
        rcases hG.1 with e | e
        · rw [e] at hl; simp at hl
        · exact e
      rw [List.getElem?_append_right (by omega), h65, Nat.add_sub_cancel_left, h]
theorem jm_s_al {G : jm_h} (hG : jm_okh G) {k : Nat} {c0 : jm_c} (h : jm_g G k = some c0) (c : jm_c) : jm_al (jm_s G k c) = (jm_al G).set (jm_fi k) c := by
  unfold jm_g at h
  split at h
  · cases h
  · split at h
    · rename_i h1 h2
      have hl := (List.getElem?_eq_some_iff.mp h).1
      simp only [jm_al, jm_s, jm_fi, if_pos h2]
      rw [List.set_append_left _ _ hl]
    · rename_i h1 h2
      have hl := (List.getElem?_eq_some_iff.mp h).1
      have h65 : G.1.length = 65 := by
        rcases hG.1 with e | e
        · rw [e] at hl; simp at hl
        · exact e
      simp only [jm_al, jm_s, jm_fi, if_neg h2]
      rw [List.set_append_right _ _ (by omega), h65, Nat.add_sub_cancel_left]
theorem jm_s_ok {G : jm_h} (hG : jm_okh G) (k : Nat) (c : jm_c) : jm_okh (jm_s G k c) := by
  obtain ⟨h1, h2⟩ := hG
  unfold jm_s jm_okh
  split
  · simpa using ⟨h1, h2⟩
  · refine ⟨?_, h2⟩
    rcases h1 with e | e
    · left; simp [e]
    · right; exact e
theorem jm_s_len (G : jm_h) (k : Nat) (c : jm_c) : jm_len (jm_s G k c) = jm_len G := by
  unfold jm_s jm_len
  split <;> simp
theorem jm_w_set {h0 : Nat} {ex : Nat → Nat} {ka : Nat → ClassId} {G : jm_h} (hG : jm_okh G) {k : Nat} {c0 : jm_c} (h : jm_g G k = some c0) (c : jm_c) : (jm_w h0 ex ka G).set (jm_fi k) (h0 + jm_fi k, jm_ce h0 ex ka c) = jm_w h0 ex ka (jm_s G k c) := by
  unfold jm_w
  rw [jm_s_al hG h]
  apply List.ext_getElem?
  intro i
  simp only [List.getElem?_set, List.getElem?_mapIdx, List.length_mapIdx]
  split
  · rename_i e
    subst e
    split <;> simp
  · rfl
theorem jm_al_len (G : jm_h) : (jm_al G).length = jm_len G := by simp [jm_al, jm_len]
theorem jm_new_al {sg : Nat} {G G1 : jm_h} {c : jm_c} {k : Nat} (hG : jm_okh G) (h : jm_new sg G c = some (k, G1)) : jm_al G1 = jm_al G ++ [c] ∧ jm_okh G1 ∧ 8 ≤ k ∧ jm_fi k = jm_len G := by
  obtain ⟨h1, h2⟩ := hG
  unfold jm_new at h
  split at h
  · split at h
    · rename_i e
      split at h
      · rename_i hl
        cases h
        refine ⟨by simp [jm_al, e], ⟨Or.inl rfl, by simp; omega⟩, by omega, ?_⟩
        unfold jm_fi jm_len
        rw [if_pos (by omega), e]
        simp
      · cases h
    · cases h
  · split at h
    · rename_i hl
      cases h
      refine ⟨by simp [jm_al], ⟨Or.inr hl, h2⟩, by omega, ?_⟩
      unfold jm_fi jm_len
      rw [if_neg (by omega)]
      omega
    · cases h
theorem jm_w_new {h0 : Nat} {ex : Nat → Nat} {ka : Nat → ClassId} {G G1 : jm_h} {c : jm_c} (h : jm_al G1 = jm_al G ++ [c]) : jm_w h0 ex ka G1 = jm_w h0 ex ka G ++ [(h0 + jm_len G, jm_ce h0 ex ka c)] := by
  unfold jm_w
  rw [h, List.mapIdx_append]
  simp [jm_al_len]
theorem jm_new_len {sg : Nat} {G G1 : jm_h} {c : jm_c} {k : Nat} (hG : jm_okh G) (h : jm_new sg G c = some (k, G1)) : jm_len G1 = jm_len G + 1 := by
  have h1 := (jm_new_al hG h).1
  have h2 := congrArg List.length h1
  rw [jm_al_len] at h2
  simp [jm_al_len] at h2
  exact h2
/-- the heap holds the cells -/
def jm_R (D : va_G) (h0 : Nat) (ex : Nat → Nat) (ka : Nat → ClassId) (G : jm_h) (H : Heap) : Prop := jm_okh G ∧ va_P D vwCl (jm_w h0 ex ka G) H
theorem jm_R_low {D : va_G} {h0 : Nat} {ex : Nat → Nat} {ka : Nat → ClassId} {G : jm_h} {H : Heap} (h : jm_R D h0 ex ka G H) (hh : h0 ≤ H.size) : h0 + jm_len G ≤ H.size := by
  rcases Nat.eq_zero_or_pos (jm_len G) with e | e
  · omega
  · have hl : jm_len G - 1 < (jm_al G).length := by rw [jm_al_len]; omega
    have h1 := h.2 (jm_len G - 1) _ (jm_w_at (List.getElem?_eq_getElem hl))
    have := h1.lt
    simp only at this
    omega
/-- local variables: what a row of them says -/
def jm_lv (h0 : Nat) (ex : Nat → Nat) : Nat → List (Option Value) → List (Nat × Value)
  | _, [] => []
  | i, none :: r => jm_lv h0 ex (i + 1) r
  | i, some v :: r => (i, jm_cv h0 ex v) :: jm_lv h0 ex (i + 1) r
theorem jm_lv_mem {h0 : Nat} {ex : Nat → Nat} {q : Nat × Value} : ∀ {L : List (Option Value)} {i : Nat}, q ∈ jm_lv h0 ex i L ↔ ∃ j v, L[j]? = some (some v) ∧ q = (i + j, jm_cv h0 ex v)
  | [], i => by simp [jm_lv]
  | none :: r, i => by
    rw [jm_lv, jm_lv_mem]
    constructor
    · rintro ⟨j, v, h1, h2⟩
      exact ⟨j + 1, v, by simpa using h1, by rw [h2]; congr 1; omega⟩
    · rintro ⟨j, v, h1, h2⟩
      cases j with
      | zero => simp at h1
      | succ j => exact ⟨j, v, by simpa using h1, by rw [h2]; congr 1; omega⟩
  | some w :: r, i => by
    rw [jm_lv, List.mem_cons, jm_lv_mem]
    constructor
    · rintro (h | ⟨j, v, h1, h2⟩)
      · exact ⟨0, w, by simp, by simpa using h⟩
      · exact ⟨j + 1, v, by simpa using h1, by rw [h2]; congr 1; omega⟩
    · rintro ⟨j, v, h1, h2⟩
      cases j with
      | zero =>
        left
        simp at h1
        rw [h2, h1]; rfl
      | succ j => exact Or.inr ⟨j, v, by simpa using h1, by rw [h2]; congr 1; omega⟩
def jm_ld (L : List (Option Value)) (i : Nat) : Option Value := (L[i]?).join
/-- what stood ahead of a place that is written, if it was two words wide, is gone -/
def jm_cl (L : List (Option Value)) (i : Nat) : List (Option Value) := match i with
  | 0 => L
  | j + 1 => match jm_ld L j with
    | some v => if v.category = 2 then L.set j none else L
    | none => L
def jm_st1 (L : List (Option Value)) (i : Nat) (v : Value) : List (Option Value) := (jm_cl L i).set i (some v)
def jm_st2 (L : List (Option Value)) (i : Nat) (v : Value) : List (Option Value) := ((jm_cl L i).set i (some v)).set (i + 1) none
def jm_L (h0 : Nat) (ex : Nat → Nat) (ls : Array Slot) (n : Nat) (L : List (Option Value)) : Prop := lv_has ls n (jm_lv h0 ex 0 L)
theorem jm_L_at {h0 : Nat} {ex : Nat → Nat} {ls : Array Slot} {n : Nat} {L : List (Option Value)} {i : Nat} {v : Value} (h : jm_L h0 ex ls n L) (hi : jm_ld L i = some v) : ls[i]? = some (.val (jm_cv h0 ex v)) := by
  have h1 : L[i]? = some (some v) := by
    unfold jm_ld at hi
    cases hq : L[i]? with
    | none => rw [hq] at hi; cases hi
    | some o => rw [hq] at hi; simp at hi; rw [hi]
  have h2 : ((i, jm_cv h0 ex v) : Nat × Value) ∈ jm_lv h0 ex 0 L := jm_lv_mem.mpr ⟨i, v, h1, by rw [Nat.zero_add]⟩
  exact h.2.2 _ h2
theorem jm_cv_cat (h0 : Nat) (ex : Nat → Nat) (v : Value) : (jm_cv h0 ex v).category = v.category := by
  cases v with
  | ref k =>
    unfold jm_cv
    dsimp only
    split <;> rfl
  | _ => rfl
theorem jm_cvr {h0 : Nat} {ex : Nat → Nat} {k : Nat} (h : ¬ k = 6) : jm_cv h0 ex (.ref k) = .ref (jm_ad h0 ex k) := by
  unfold jm_cv
  dsimp only
  rw [if_neg (fun q => h q.1)]
theorem jm_cl_mem {L : List (Option Value)} {i j : Nat} {v : Value} (h : (jm_cl L i)[j]? = some (some v)) : L[j]? = some (some v) ∧ ¬ (j + 1 = i ∧ v.category = 2) := by
  unfold jm_cl at h
  split at h
  · exact ⟨h, fun q => by omega⟩
  · rename_i k
    split at h
    · rename_i w hw
      have hL : L[k]? = some (some w) := by
        unfold jm_ld at hw
        cases hq : L[k]? with
        | none => rw [hq] at hw; cases hw
        | some o => rw [hq] at hw; simp at hw; rw [hw]
      split at h
      · rw [List.getElem?_set] at h
        split at h
        · split at h <;> simp at h
        · exact ⟨h, fun q => by omega⟩
      · rename_i hc
        refine ⟨h, fun q => ?_⟩
        have : j = k := by omega
        subst this
        rw [hL] at h
        cases h
        exact hc q.2
    · rename_i hw
      refine ⟨h, fun q => ?_⟩
      have : j = k := by omega
      subst this
      simp [jm_ld, h] at hw
theorem jm_L_st1 {h0 : Nat} {ex : Nat → Nat} {ls : Array Slot} {n i : Nat} {L : List (Option Value)} {v : Value} (h : lv_has ls n ((i, jm_cv h0 ex v) :: (jm_lv h0 ex 0 L).filter (fun q => !(q.1 == i) && !(q.1 + 1 == i && q.2.category == 2)))) : jm_L h0 ex ls n (jm_st1 L i v) := by
  refine ⟨h.1, h.2.1, fun q hq => h.2.2 q ?_⟩
  obtain ⟨j, w, h1, rfl⟩ := jm_lv_mem.mp hq
  rw [jm_st1, List.getElem?_set] at h1
  split at h1
  · rename_i e
    subst e
    split at h1
    · cases h1
      rw [Nat.zero_add]
      exact List.mem_cons_self
    · cases h1
  · rename_i hne
    obtain ⟨h2, h3⟩ := jm_cl_mem h1
    refine List.mem_cons_of_mem _ (List.mem_filter.mpr ⟨jm_lv_mem.mpr ⟨j, w, h2, rfl⟩, ?_⟩)
    simp only [Nat.zero_add, jm_cv_cat]
    simp
    exact ⟨fun e => hne e.symm, (Decidable.not_and_iff_or_not).mp h3⟩
theorem jm_L_st2 {h0 : Nat} {ex : Nat → Nat} {ls : Array Slot} {n i : Nat} {L : List (Option Value)} {v : Value} (h : lv_has ls n ((i, jm_cv h0 ex v) :: (jm_lv h0 ex 0 L).filter (fun q => !(q.1 == i) && (!(q.1 == i + 1) && !(q.1 + 1 == i && q.2.category == 2))))) : jm_L h0 ex ls n (jm_st2 L i v) := by
  refine ⟨h.1, h.2.1, fun q hq => h.2.2 q ?_⟩
  obtain ⟨j, w, h1, rfl⟩ := jm_lv_mem.mp hq
  rw [jm_st2, List.getElem?_set] at h1
  split at h1
  · split at h1 <;> simp at h1
  · rename_i hne1
    rw [List.getElem?_set] at h1
    split at h1
    · rename_i e
      subst e
      split at h1
      · cases h1
        rw [Nat.zero_add]
        exact List.mem_cons_self
      · cases h1
    · rename_i hne
      obtain ⟨h2, h3⟩ := jm_cl_mem h1
      refine List.mem_cons_of_mem _ (List.mem_filter.mpr ⟨jm_lv_mem.mpr ⟨j, w, h2, rfl⟩, ?_⟩)
      simp only [Nat.zero_add, jm_cv_cat]
      simp
      exact ⟨fun e => hne e.symm, fun e => hne1 e.symm, (Decidable.not_and_iff_or_not).mp h3⟩
